abbrev rm_X6_lots : Room := { frames := 6, cells := 0, slots := 0, locals := 172 }
set_option maxHeartbeats 4000000 in
set_option maxRecDepth 100000 in
theorem m_X6_lots {l : Launch} {G : Gl} {B sz : Nat} {S : St} (v0 : Nat) (v1 : Int32) (v2 : Int32) (v3 : Int32) (h : Hp) (Q : Int32 → Hp → Prop) (hw : w_X6_lots S v0 v1 v2 v3 h Q) : MI l G B sz S yX6_lots cX6_lots 5 .int rm_X6_lots [.ref v0, .int v1, .int v2, .int v3] h Q := by
  refine met_of rfl rfl ?_
  intro p e s m args below meth c hMB H ls hH hl
  obtain ⟨hx, hb, hml, hown, hKK, hr, hlk⟩ := hMB
  replace hl : lv_has ls 5 [(0, .ref v0), (1, .int v1), (2, .int v2), (3, .int v3)] := hl
  unfold w_X6_lots at hw
  show W p l e rm_X6_lots s m args below meth c H [] 0 0 (QI G B S sz below args s Q) (F0 m 0 ls [])
  generalize ([] : List Loc) = locs at hH ⊢
  refine lv_iconst (v := (nI 0)) hx hb dX6_lots_0 (by decide) ?_
  refine lv_iload_n hx hb dX6_lots_1 rfl (lv_at hl 1 rfl) ?_
  refine lv_iconst (v := (nI 1)) hx hb dX6_lots_2 (by decide) ?_
  refine lv_bipush (v := (nI 20)) hx hb dX6_lots_3 (by decide) ?_
  refine lv_iload_n hx hb dX6_lots_5 rfl (lv_at hl 3 rfl) ?_
  refine lv_iconst (v := (nI 1)) hx hb dX6_lots_6 (by decide) ?_
  refine hv_cSI (rm := rm_X6_faultOfAsked) (As := [.int (nI 0), .int v1, .int (nI 1), .int (nI 20), .int v3, .int (nI 1)]) (rest := []) (k := 6) hx hb hml hown hKK hH (m_X6_faultOfAsked (nI 0) v1 (nI 1) (nI 20) v3 (nI 1) _ _ hw) cw_X6_194 ⟨Nat.le_of_ble_eq_true rfl, Nat.le_of_ble_eq_true rfl⟩ rfl hl.1 rfl (Nat.le_of_ble_eq_true rfl) ⟨Nat.le_of_ble_eq_true rfl, Nat.le_of_ble_eq_true rfl⟩ dX6_lots_7 (fun r2 h1 H locs hH hw => ?_)
  refine lv_istore (lv' := [(4, .int r2), (0, .ref v0), (1, .int v1), (2, .int v2), (3, .int v3)]) hx hb dX6_lots_10 hl (by decide) rfl (fun ls hl => ?_)
  refine lv_iload hx hb dX6_lots_12 (lv_at hl 0 rfl) ?_
  refine lv_if_eq (tgt := 24) hx hb dX6_lots_14 (by decide) (fun c3 => ?_) (fun c3 => ?_)
  · have hw := ite_t hw c3
    refine lv_aload_n hx hb dX6_lots_24 rfl (lv_at hl 1 rfl) ?_
    obtain ⟨k4, hw⟩ := hw
    refine hv_get (ci := 6) (k := 5) (v := .ref (S.2 v0 5)) hx hb hown hKK hH cf6 (by decide) fl_X6_36 rfl k4 rfl dX6_lots_25 ?_
    refine lv_aload_n hx hb dX6_lots_28 rfl (lv_at hl 1 rfl) ?_
    refine hv_get (ci := 6) (k := 0) (v := .ref (S.2 v0 0)) hx hb hown hKK hH cf6 (by decide) fl_X6_10 rfl k4 rfl dX6_lots_29 ?_
    refine lv_iload_n hx hb dX6_lots_32 rfl (lv_at hl 2 rfl) ?_
    refine lv_iload_n hx hb dX6_lots_33 rfl (lv_at hl 3 rfl) ?_
    refine lv_iload_n hx hb dX6_lots_34 rfl (lv_at hl 4 rfl) ?_
    refine lv_iconst (v := (nI 1)) hx hb dX6_lots_35 (by decide) ?_
    refine lv_icmp_ne (tgt := 43) hx hb dX6_lots_36 (by decide) (fun c5 => ?_) (fun c5 => ?_)
    · have hw := ite_f hw c5
      refine lv_iconst (v := (nI 0)) hx hb dX6_lots_43 (by decide) ?_
      obtain ⟨k9, hw⟩ := hw
      refine hv_cVI (rm := rm_X2_playGames) (As := [.ref (S.2 v0 0), .int v1, .int v2, .int (nI 0)]) (rest := []) (k := 4) (ci := 2) hx hb hml hown hKK hH cf2 k9 (m_X2_playGames (S.2 v0 5) (S.2 v0 0) v1 v2 (nI 0) _ _ hw) cw_X6_314 ⟨Nat.le_of_ble_eq_true rfl, Nat.le_of_ble_eq_true rfl⟩ rfl hl.1 rfl (Nat.le_of_ble_eq_true rfl) ⟨Nat.le_of_ble_eq_true rfl, Nat.le_of_ble_eq_true rfl⟩ dX6_lots_44 (fun r11 h10 H locs hH hw => ?_)
      exact hv_iret hx hb hr hlk hH hw dX6_lots_47
    · have hw := ite_t hw c5
      refine lv_iconst (v := (nI 1)) hx hb dX6_lots_39 (by decide) ?_
      refine lv_goto (tgt := 44) hx hb dX6_lots_40 (by decide) ?_
      obtain ⟨k6, hw⟩ := hw
      refine hv_cVI (rm := rm_X2_playGames) (As := [.ref (S.2 v0 0), .int v1, .int v2, .int (nI 1)]) (rest := []) (k := 4) (ci := 2) hx hb hml hown hKK hH cf2 k6 (m_X2_playGames (S.2 v0 5) (S.2 v0 0) v1 v2 (nI 1) _ _ hw) cw_X6_314 ⟨Nat.le_of_ble_eq_true rfl, Nat.le_of_ble_eq_true rfl⟩ rfl hl.1 rfl (Nat.le_of_ble_eq_true rfl) ⟨Nat.le_of_ble_eq_true rfl, Nat.le_of_ble_eq_true rfl⟩ dX6_lots_44 (fun r8 h7 H locs hH hw => ?_)
      exact hv_iret hx hb hr hlk hH hw dX6_lots_47
  · have hw := ite_f hw c3
    refine lv_aload_n hx hb dX6_lots_17 rfl (lv_at hl 1 rfl) ?_
    refine lv_iload hx hb dX6_lots_18 (lv_at hl 0 rfl) ?_
    obtain ⟨k12, hw⟩ := hw
    refine hv_cVI (rm := rm_X6_refuse) (As := [.int r2]) (rest := []) (k := 1) (ci := 6) hx hb hml hown hKK hH cf6 k12 (m_X6_refuse v0 r2 _ _ hw) cw_X6_56 ⟨Nat.le_of_ble_eq_true rfl, Nat.le_of_ble_eq_true rfl⟩ rfl hl.1 rfl (Nat.le_of_ble_eq_true rfl) ⟨Nat.le_of_ble_eq_true rfl, Nat.le_of_ble_eq_true rfl⟩ dX6_lots_20 (fun r14 h13 H locs hH hw => ?_)
    exact hv_iret hx hb hr hlk hH hw dX6_lots_23
abbrev rm_X6_image : Room := { frames := 4, cells := 0, slots := 0, locals := 124 }
set_option maxHeartbeats 4000000 in
set_option maxRecDepth 100000 in
theorem m_X6_image {l : Launch} {G : Gl} {B sz : Nat} {S : St} (v0 : Nat) (h : Hp) (Q : Int32 → Hp → Prop) (hw : w_X6_image S v0 h Q) : MI l G B sz S yX6_image cX6_image 1 .int rm_X6_image [.ref v0] h Q := by
  refine met_of rfl rfl ?_
  intro p e s m args below meth c hMB H ls hH hl
  obtain ⟨hx, hb, hml, hown, hKK, hr, hlk⟩ := hMB
  replace hl : lv_has ls 1 [(0, .ref v0)] := hl
  unfold w_X6_image at hw
  show W p l e rm_X6_image s m args below meth c H [] 0 0 (QI G B S sz below args s Q) (F0 m 0 ls [])
  generalize ([] : List Loc) = locs at hH ⊢
  refine lv_aload_n hx hb dX6_image_0 rfl (lv_at hl 0 rfl) ?_
  obtain ⟨k1, hw⟩ := hw
  refine hv_get (ci := 6) (k := 1) (v := .ref (S.2 v0 1)) hx hb hown hKK hH cf6 (by decide) fl_X6_16 rfl k1 rfl dX6_image_1 ?_
  refine lv_aload_n hx hb dX6_image_4 rfl (lv_at hl 0 rfl) ?_
  refine hv_get (ci := 6) (k := 0) (v := .ref (S.2 v0 0)) hx hb hown hKK hH cf6 (by decide) fl_X6_10 rfl k1 rfl dX6_image_5 ?_
  obtain ⟨k2, hw⟩ := hw
  refine hv_cVV (rm := rm_X1_copy) (As := [.ref (S.2 v0 0)]) (rest := []) (k := 1) (ci := 1) hx hb hml hown hKK hH cf1 k2 (m_X1_copy (S.2 v0 1) (S.2 v0 0) _ _ hw) cw_X6_100 ⟨Nat.le_of_ble_eq_true rfl, Nat.le_of_ble_eq_true rfl⟩ rfl hl.1 rfl (Nat.le_of_ble_eq_true rfl) ⟨Nat.le_of_ble_eq_true rfl, Nat.le_of_ble_eq_true rfl⟩ dX6_image_8 (fun h3 H locs hH hw => ?_)
  refine lv_aload_n hx hb dX6_image_11 rfl (lv_at hl 0 rfl) ?_
  refine lv_iconst (v := (nI 1)) hx hb dX6_image_12 (by decide) ?_
  refine hv_put (ci := 6) (k := 2) hx hb hown hKK hH cf6 (by decide) fl_X6_318 rfl rfl rfl k1 rfl rfl dX6_image_13 (fun H locs hH => ?_)
  refine lv_aload_n hx hb dX6_image_16 rfl (lv_at hl 0 rfl) ?_
  refine hv_get (ci := 6) (k := 0) (v := .ref (S.2 v0 0)) hx hb hown hKK hH cf6 (by decide) fl_X6_10 rfl k1 rfl dX6_image_17 ?_
  obtain ⟨k4, hw⟩ := hw
  refine hv_getN (ci := 1) (k := 5) (v := .int ((up h3 v0 2 (nI 1)) (S.2 v0 0) 5)) hx hb hown hKK hH cf1 (by decide) fl_X6_142 rfl k4 rfl dX6_image_20 ?_
  exact hv_iret hx hb hr hlk hH hw dX6_image_23
abbrev rm_X6_restore : Room := { frames := 4, cells := 0, slots := 0, locals := 124 }
set_option maxHeartbeats 4000000 in
set_option maxRecDepth 100000 in
theorem m_X6_restore {l : Launch} {G : Gl} {B sz : Nat} {S : St} (v0 : Nat) (h : Hp) (Q : Int32 → Hp → Prop) (hw : w_X6_restore S v0 h Q) : MI l G B sz S yX6_restore cX6_restore 1 .int rm_X6_restore [.ref v0] h Q := by
  refine met_of rfl rfl ?_
  intro p e s m args below meth c hMB H ls hH hl
  obtain ⟨hx, hb, hml, hown, hKK, hr, hlk⟩ := hMB
  replace hl : lv_has ls 1 [(0, .ref v0)] := hl
  unfold w_X6_restore at hw
  show W p l e rm_X6_restore s m args below meth c H [] 0 0 (QI G B S sz below args s Q) (F0 m 0 ls [])
  generalize ([] : List Loc) = locs at hH ⊢
  refine lv_aload_n hx hb dX6_restore_0 rfl (lv_at hl 0 rfl) ?_
  obtain ⟨k1, hw⟩ := hw
  refine hv_get (ci := 6) (k := 2) (v := .int (h v0 2)) hx hb hown hKK hH cf6 (by decide) fl_X6_318 rfl k1 rfl dX6_restore_1 ?_
  refine lv_if_ne (tgt := 14) hx hb dX6_restore_4 (by decide) (fun c2 => ?_) (fun c2 => ?_)
  · have hw := ite_f hw c2
    refine lv_aload_n hx hb dX6_restore_14 rfl (lv_at hl 0 rfl) ?_
    refine hv_get (ci := 6) (k := 0) (v := .ref (S.2 v0 0)) hx hb hown hKK hH cf6 (by decide) fl_X6_10 rfl k1 rfl dX6_restore_15 ?_
    refine lv_aload_n hx hb dX6_restore_18 rfl (lv_at hl 0 rfl) ?_
    refine hv_get (ci := 6) (k := 1) (v := .ref (S.2 v0 1)) hx hb hown hKK hH cf6 (by decide) fl_X6_16 rfl k1 rfl dX6_restore_19 ?_
    obtain ⟨k5, hw⟩ := hw
    refine hv_cVV (rm := rm_X1_copy) (As := [.ref (S.2 v0 1)]) (rest := []) (k := 1) (ci := 1) hx hb hml hown hKK hH cf1 k5 (m_X1_copy (S.2 v0 0) (S.2 v0 1) _ _ hw) cw_X6_100 ⟨Nat.le_of_ble_eq_true rfl, Nat.le_of_ble_eq_true rfl⟩ rfl hl.1 rfl (Nat.le_of_ble_eq_true rfl) ⟨Nat.le_of_ble_eq_true rfl, Nat.le_of_ble_eq_true rfl⟩ dX6_restore_22 (fun h6 H locs hH hw => ?_)
    refine lv_aload_n hx hb dX6_restore_25 rfl (lv_at hl 0 rfl) ?_
    refine hv_get (ci := 6) (k := 3) (v := .ref (S.2 v0 3)) hx hb hown hKK hH cf6 (by decide) fl_X6_22 rfl k1 rfl dX6_restore_26 ?_
    obtain ⟨k7, hw⟩ := hw
    refine hv_cVV (rm := rm_X3_forget) (As := []) (rest := []) (k := 0) (ci := 3) hx hb hml hown hKK hH cf3 k7 (m_X3_forget (S.2 v0 3) _ _ hw) cw_X6_104 ⟨Nat.le_of_ble_eq_true rfl, Nat.le_of_ble_eq_true rfl⟩ rfl hl.1 rfl (Nat.le_of_ble_eq_true rfl) ⟨Nat.le_of_ble_eq_true rfl, Nat.le_of_ble_eq_true rfl⟩ dX6_restore_29 (fun h8 H locs hH hw => ?_)
    refine lv_aload_n hx hb dX6_restore_32 rfl (lv_at hl 0 rfl) ?_
    refine hv_get (ci := 6) (k := 0) (v := .ref (S.2 v0 0)) hx hb hown hKK hH cf6 (by decide) fl_X6_10 rfl k1 rfl dX6_restore_33 ?_
    refine hv_getN (ci := 1) (k := 5) (v := .int (h8 (S.2 v0 0) 5)) hx hb hown hKK hH cf1 (by decide) fl_X6_142 rfl k5 rfl dX6_restore_36 ?_
    exact hv_iret hx hb hr hlk hH hw dX6_restore_39
  · have hw := ite_t hw c2
    refine lv_aload_n hx hb dX6_restore_7 rfl (lv_at hl 0 rfl) ?_
    refine lv_bipush (v := (-3)) hx hb dX6_restore_8 (by decide) ?_
    refine hv_cVI (rm := rm_X6_refuse) (As := [.int (-3)]) (rest := []) (k := 1) (ci := 6) hx hb hml hown hKK hH cf6 k1 (m_X6_refuse v0 (-3) _ _ hw) cw_X6_56 ⟨Nat.le_of_ble_eq_true rfl, Nat.le_of_ble_eq_true rfl⟩ rfl hl.1 rfl (Nat.le_of_ble_eq_true rfl) ⟨Nat.le_of_ble_eq_true rfl, Nat.le_of_ble_eq_true rfl⟩ dX6_restore_10 (fun r4 h3 H locs hH hw => ?_)
    exact hv_iret hx hb hr hlk hH hw dX6_restore_13
abbrev rm_X6_count : Room := { frames := 2, cells := 0, slots := 0, locals := 43 }
set_option maxHeartbeats 4000000 in
set_option maxRecDepth 100000 in
theorem m_X6_count {l : Launch} {G : Gl} {B sz : Nat} {S : St} (v0 : Nat) (v1 : Int32) (h : Hp) (Q : Int32 → Hp → Prop) (hw : w_X6_count S v0 v1 h Q) : MI l G B sz S yX6_count cX6_count 2 .int rm_X6_count [.ref v0, .int v1] h Q := by
  refine met_of rfl rfl ?_
  intro p e s m args below meth c hMB H ls hH hl
  obtain ⟨hx, hb, hml, hown, hKK, hr, hlk⟩ := hMB
  replace hl : lv_has ls 2 [(0, .ref v0), (1, .int v1)] := hl
  unfold w_X6_count at hw
  show W p l e rm_X6_count s m args below meth c H [] 0 0 (QI G B S sz below args s Q) (F0 m 0 ls [])
  generalize ([] : List Loc) = locs at hH ⊢
  refine lv_iload_n hx hb dX6_count_0 rfl (lv_at hl 1 rfl) ?_
  by_cases c1 : v1 = (nI 0)
  · have hw := ite_t hw c1
    refine lv_tableIn (tgt := 56) hx hb dX6_count_1 (by rw [c1]; decide) (by rw [c1]; decide) (by rw [c1]; rfl) (by decide) ?_
    refine lv_aload_n hx hb dX6_count_56 rfl (lv_at hl 0 rfl) ?_
    obtain ⟨k2, hw⟩ := hw
    refine hv_get (ci := 6) (k := 0) (v := .ref (S.2 v0 0)) hx hb hown hKK hH cf6 (by decide) fl_X6_10 rfl k2 rfl dX6_count_57 ?_
    obtain ⟨k3, hw⟩ := hw
    refine hv_getN (ci := 1) (k := 4) (v := .int (h (S.2 v0 0) 4)) hx hb hown hKK hH cf1 (by decide) fl_X6_60 rfl k3 rfl dX6_count_60 ?_
    exact hv_iret hx hb hr hlk hH hw dX6_count_63
  have hw := ite_f hw c1
  by_cases c4 : v1 = (nI 1)
  · have hw := ite_t hw c4
    refine lv_tableIn (tgt := 64) hx hb dX6_count_1 (by rw [c4]; decide) (by rw [c4]; decide) (by rw [c4]; rfl) (by decide) ?_
    refine lv_aload_n hx hb dX6_count_64 rfl (lv_at hl 0 rfl) ?_
    obtain ⟨k5, hw⟩ := hw
    refine hv_get (ci := 6) (k := 0) (v := .ref (S.2 v0 0)) hx hb hown hKK hH cf6 (by decide) fl_X6_10 rfl k5 rfl dX6_count_65 ?_
    obtain ⟨k6, hw⟩ := hw
    refine hv_getN (ci := 1) (k := 5) (v := .int (h (S.2 v0 0) 5)) hx hb hown hKK hH cf1 (by decide) fl_X6_142 rfl k6 rfl dX6_count_68 ?_
    exact hv_iret hx hb hr hlk hH hw dX6_count_71
  have hw := ite_f hw c4
  by_cases c7 : v1 = (nI 2)
  · have hw := ite_t hw c7
    refine lv_tableIn (tgt := 72) hx hb dX6_count_1 (by rw [c7]; decide) (by rw [c7]; decide) (by rw [c7]; rfl) (by decide) ?_
    refine lv_aload_n hx hb dX6_count_72 rfl (lv_at hl 0 rfl) ?_
    obtain ⟨k8, hw⟩ := hw
    refine hv_get (ci := 6) (k := 0) (v := .ref (S.2 v0 0)) hx hb hown hKK hH cf6 (by decide) fl_X6_10 rfl k8 rfl dX6_count_73 ?_
    obtain ⟨k9, hw⟩ := hw
    refine hv_getN (ci := 1) (k := 6) (v := .int (h (S.2 v0 0) 6)) hx hb hown hKK hH cf1 (by decide) fl_X6_187 rfl k9 rfl dX6_count_76 ?_
    exact hv_iret hx hb hr hlk hH hw dX6_count_79
  have hw := ite_f hw c7
  by_cases c10 : v1 = (nI 3)
  · have hw := ite_t hw c10
    refine lv_tableIn (tgt := 80) hx hb dX6_count_1 (by rw [c10]; decide) (by rw [c10]; decide) (by rw [c10]; rfl) (by decide) ?_
    refine lv_aload_n hx hb dX6_count_80 rfl (lv_at hl 0 rfl) ?_
    obtain ⟨k11, hw⟩ := hw
    refine hv_get (ci := 6) (k := 0) (v := .ref (S.2 v0 0)) hx hb hown hKK hH cf6 (by decide) fl_X6_10 rfl k11 rfl dX6_count_81 ?_
    obtain ⟨k12, hw⟩ := hw
    refine hv_cVI (rm := rm_X1_settledBits) (As := []) (rest := []) (k := 0) (ci := 1) hx hb hml hown hKK hH cf1 k12 (m_X1_settledBits (S.2 v0 0) _ _ hw) cw_X6_202 ⟨Nat.le_of_ble_eq_true rfl, Nat.le_of_ble_eq_true rfl⟩ rfl hl.1 rfl (Nat.le_of_ble_eq_true rfl) ⟨Nat.le_of_ble_eq_true rfl, Nat.le_of_ble_eq_true rfl⟩ dX6_count_84 (fun r14 h13 H locs hH hw => ?_)
    exact hv_iret hx hb hr hlk hH hw dX6_count_87
  have hw := ite_f hw c10
  by_cases c15 : v1 = (nI 4)
  · have hw := ite_t hw c15
    refine lv_tableIn (tgt := 88) hx hb dX6_count_1 (by rw [c15]; decide) (by rw [c15]; decide) (by rw [c15]; rfl) (by decide) ?_
    refine lv_aload_n hx hb dX6_count_88 rfl (lv_at hl 0 rfl) ?_
    obtain ⟨k16, hw⟩ := hw
    refine hv_get (ci := 6) (k := 0) (v := .ref (S.2 v0 0)) hx hb hown hKK hH cf6 (by decide) fl_X6_10 rfl k16 rfl dX6_count_89 ?_
    obtain ⟨k17, hw⟩ := hw
    refine hv_cVI (rm := rm_X1_allFollowers) (As := []) (rest := []) (k := 0) (ci := 1) hx hb hml hown hKK hH cf1 k17 (m_X1_allFollowers (S.2 v0 0) _ _ hw) cw_X6_292 ⟨Nat.le_of_ble_eq_true rfl, Nat.le_of_ble_eq_true rfl⟩ rfl hl.1 rfl (Nat.le_of_ble_eq_true rfl) ⟨Nat.le_of_ble_eq_true rfl, Nat.le_of_ble_eq_true rfl⟩ dX6_count_92 (fun r19 h18 H locs hH hw => ?_)
    exact hv_iret hx hb hr hlk hH hw dX6_count_95
  have hw := ite_f hw c15
  by_cases c20 : v1 = (nI 5)
  · have hw := ite_t hw c20
    refine lv_tableIn (tgt := 96) hx hb dX6_count_1 (by rw [c20]; decide) (by rw [c20]; decide) (by rw [c20]; rfl) (by decide) ?_
    refine lv_aload_n hx hb dX6_count_96 rfl (lv_at hl 0 rfl) ?_
    obtain ⟨k21, hw⟩ := hw
    refine hv_get (ci := 6) (k := 0) (v := .ref (S.2 v0 0)) hx hb hown hKK hH cf6 (by decide) fl_X6_10 rfl k21 rfl dX6_count_97 ?_
    obtain ⟨k22, hw⟩ := hw
    refine hv_cVI (rm := rm_X1_allPeople) (As := []) (rest := []) (k := 0) (ci := 1) hx hb hml hown hKK hH cf1 k22 (m_X1_allPeople (S.2 v0 0) _ _ hw) cw_X6_205 ⟨Nat.le_of_ble_eq_true rfl, Nat.le_of_ble_eq_true rfl⟩ rfl hl.1 rfl (Nat.le_of_ble_eq_true rfl) ⟨Nat.le_of_ble_eq_true rfl, Nat.le_of_ble_eq_true rfl⟩ dX6_count_100 (fun r24 h23 H locs hH hw => ?_)
    exact hv_iret hx hb hr hlk hH hw dX6_count_103
  have hw := ite_f hw c20
  by_cases c25 : v1 = (nI 6)
  · have hw := ite_t hw c25
    refine lv_tableIn (tgt := 104) hx hb dX6_count_1 (by rw [c25]; decide) (by rw [c25]; decide) (by rw [c25]; rfl) (by decide) ?_
    refine lv_aload_n hx hb dX6_count_104 rfl (lv_at hl 0 rfl) ?_
    obtain ⟨k26, hw⟩ := hw
    refine hv_get (ci := 6) (k := 0) (v := .ref (S.2 v0 0)) hx hb hown hKK hH cf6 (by decide) fl_X6_10 rfl k26 rfl dX6_count_105 ?_
    obtain ⟨k27, hw⟩ := hw
    refine hv_cVI (rm := rm_X1_allWalls) (As := []) (rest := []) (k := 0) (ci := 1) hx hb hml hown hKK hH cf1 k27 (m_X1_allWalls (S.2 v0 0) _ _ hw) cw_X6_208 ⟨Nat.le_of_ble_eq_true rfl, Nat.le_of_ble_eq_true rfl⟩ rfl hl.1 rfl (Nat.le_of_ble_eq_true rfl) ⟨Nat.le_of_ble_eq_true rfl, Nat.le_of_ble_eq_true rfl⟩ dX6_count_108 (fun r29 h28 H locs hH hw => ?_)
    exact hv_iret hx hb hr hlk hH hw dX6_count_111
  have hw := ite_f hw c25
  by_cases c30 : v1 = (nI 7)
  · have hw := ite_t hw c30
    refine lv_tableIn (tgt := 112) hx hb dX6_count_1 (by rw [c30]; decide) (by rw [c30]; decide) (by rw [c30]; rfl) (by decide) ?_
    refine lv_aload_n hx hb dX6_count_112 rfl (lv_at hl 0 rfl) ?_
    obtain ⟨k31, hw⟩ := hw
    refine hv_get (ci := 6) (k := 4) (v := .ref (S.2 v0 4)) hx hb hown hKK hH cf6 (by decide) fl_X6_29 rfl k31 rfl dX6_count_113 ?_
    obtain ⟨k32, hw⟩ := hw
    refine hv_getN (ci := 4) (k := 1) (v := .int (h (S.2 v0 4) 1)) hx hb hown hKK hH cf4 (by decide) fl_X6_87 rfl k32 rfl dX6_count_116 ?_
    exact hv_iret hx hb hr hlk hH hw dX6_count_119
  have hw := ite_f hw c30
  by_cases c33 : v1 = (nI 8)
  · have hw := ite_t hw c33
    refine lv_tableIn (tgt := 120) hx hb dX6_count_1 (by rw [c33]; decide) (by rw [c33]; decide) (by rw [c33]; rfl) (by decide) ?_
    refine lv_aload_n hx hb dX6_count_120 rfl (lv_at hl 0 rfl) ?_
    obtain ⟨k34, hw⟩ := hw
    refine hv_get (ci := 6) (k := 8) (v := .int (h v0 8)) hx hb hown hKK hH cf6 (by decide) fl_X6_244 rfl k34 rfl dX6_count_121 ?_
    exact hv_iret hx hb hr hlk hH hw dX6_count_124
  have hw := ite_f hw c33
  by_cases c35 : v1 = (nI 9)
  · have hw := ite_t hw c35
    refine lv_tableIn (tgt := 125) hx hb dX6_count_1 (by rw [c35]; decide) (by rw [c35]; decide) (by rw [c35]; rfl) (by decide) ?_
    refine lv_aload_n hx hb dX6_count_125 rfl (lv_at hl 0 rfl) ?_
    obtain ⟨k36, hw⟩ := hw
    refine hv_get (ci := 6) (k := 3) (v := .ref (S.2 v0 3)) hx hb hown hKK hH cf6 (by decide) fl_X6_22 rfl k36 rfl dX6_count_126 ?_
    obtain ⟨k37, hw⟩ := hw
    refine hv_getN (ci := 3) (k := 2) (v := .int (h (S.2 v0 3) 2)) hx hb hown hKK hH cf3 (by decide) fl_X6_190 rfl k37 rfl dX6_count_129 ?_
    exact hv_iret hx hb hr hlk hH hw dX6_count_132
  have hw := ite_f hw c35
  refine lv_tableOut (tgt := 133) hx hb dX6_count_1 (by have := ne_toInt (k := 0) (by decide) c1; have := ne_toInt (k := 1) (by decide) c4; have := ne_toInt (k := 2) (by decide) c7; have := ne_toInt (k := 3) (by decide) c10; have := ne_toInt (k := 4) (by decide) c15; have := ne_toInt (k := 5) (by decide) c20; have := ne_toInt (k := 6) (by decide) c25; have := ne_toInt (k := 7) (by decide) c30; have := ne_toInt (k := 8) (by decide) c33; have := ne_toInt (k := 9) (by decide) c35; omega) (by decide) ?_
  refine lv_iload_n hx hb dX6_count_133 rfl (lv_at hl 1 rfl) ?_
  refine lv_bipush (v := (nI 11)) hx hb dX6_count_134 (by decide) ?_
  refine lv_icmp_lt (tgt := 157) hx hb dX6_count_136 (by decide) (fun c38 => ?_) (fun c38 => ?_)
  · have hw := ite_t hw c38
    refine lv_bipush (v := (-9)) hx hb dX6_count_157 (by decide) ?_
    exact hv_iret hx hb hr hlk hH hw dX6_count_159
  · have hw := ite_f hw c38
    refine lv_iload_n hx hb dX6_count_139 rfl (lv_at hl 1 rfl) ?_
    refine lv_bipush (v := (nI 16)) hx hb dX6_count_140 (by decide) ?_
    refine lv_icmp_gt (tgt := 157) hx hb dX6_count_142 (by decide) (fun c39 => ?_) (fun c39 => ?_)
    · have hw := ite_t hw c39
      refine lv_bipush (v := (-9)) hx hb dX6_count_157 (by decide) ?_
      exact hv_iret hx hb hr hlk hH hw dX6_count_159
    · have hw := ite_f hw c39
      refine lv_aload_n hx hb dX6_count_145 rfl (lv_at hl 0 rfl) ?_
      obtain ⟨k40, hw⟩ := hw
      refine hv_get (ci := 6) (k := 9) (v := .ref (S.2 v0 9)) hx hb hown hKK hH cf6 (by decide) fl_X6_51 rfl k40 rfl dX6_count_146 ?_
      refine lv_iload_n hx hb dX6_count_149 rfl (lv_at hl 1 rfl) ?_
      refine lv_bipush (v := (nI 10)) hx hb dX6_count_150 (by decide) ?_
      refine lv_isub hx hb dX6_count_152 ?_
      obtain ⟨k41, hw⟩ := hw
      refine hv_iald hx hb hKK hH k41 dX6_count_153 ?_
      refine lv_goto (tgt := 159) hx hb dX6_count_154 (by decide) ?_
      exact hv_iret hx hb hr hlk hH hw dX6_count_159
abbrev rm_X7_no : Room := { frames := 0, cells := 0, slots := 0, locals := 0 }
set_option maxHeartbeats 4000000 in
set_option maxRecDepth 100000 in
theorem m_X7_no {l : Launch} {G : Gl} {B sz : Nat} {S : St} (v0 : Nat) (v1 : Int32) (h : Hp) (Q : Int32 → Hp → Prop) (hw : w_X7_no S v0 v1 h Q) : MI l G B sz S yX7_no cX7_no 2 .int rm_X7_no [.ref v0, .int v1] h Q := by
  refine met_of rfl rfl ?_
  intro p e s m args below meth c hMB H ls hH hl
  obtain ⟨hx, hb, hml, hown, hKK, hr, hlk⟩ := hMB
  replace hl : lv_has ls 2 [(0, .ref v0), (1, .int v1)] := hl
  unfold w_X7_no at hw
  show W p l e rm_X7_no s m args below meth c H [] 0 0 (QI G B S sz below args s Q) (F0 m 0 ls [])
  generalize ([] : List Loc) = locs at hH ⊢
  refine lv_aload_n hx hb dX7_no_0 rfl (lv_at hl 0 rfl) ?_
  obtain ⟨k1, hw⟩ := hw
  refine hv_get (ci := 7) (k := 0) (v := .ref (S.2 v0 0)) hx hb hown hKK hH cf7 (by decide) fl_X7_7 rfl k1 rfl dX7_no_1 ?_
  refine lv_iload_n hx hb dX7_no_4 rfl (lv_at hl 1 rfl) ?_
  refine lv_ineg hx hb dX7_no_5 ?_
  refine lv_dup2_11 hx hb dX7_no_6 rfl rfl ?_
  obtain ⟨k2, hw⟩ := hw
  refine hv_iald hx hb hKK hH k2 dX7_no_7 ?_
  refine lv_iconst (v := (nI 1)) hx hb dX7_no_8 (by decide) ?_
  refine lv_iadd hx hb dX7_no_9 ?_
  refine hv_iast hx hb hKK hH k2 dX7_no_10 (fun H locs hH => ?_)
  refine lv_iload_n hx hb dX7_no_11 rfl (lv_at hl 1 rfl) ?_
  exact hv_iret hx hb hr hlk hH hw dX7_no_12
abbrev rm_X7_lowestOf : Room := { frames := 0, cells := 0, slots := 0, locals := 0 }
set_option maxHeartbeats 4000000 in
set_option maxRecDepth 100000 in
theorem m_X7_lowestOf {l : Launch} {G : Gl} {B sz : Nat} {S : St} (v0 : Nat) (v1 : Int32) (h : Hp) (Q : Int64 → Hp → Prop) (hw : w_X7_lowestOf S v0 v1 h Q) : ML l G B sz S yX7_lowestOf cX7_lowestOf 2 rm_X7_lowestOf [.ref v0, .int v1] h Q := by
  refine met_of rfl rfl ?_
  intro p e s m args below meth c hMB H ls hH hl
  obtain ⟨hx, hb, hml, hown, hKK, hr, hlk⟩ := hMB
  replace hl : lv_has ls 2 [(0, .ref v0), (1, .int v1)] := hl
  unfold w_X7_lowestOf at hw
  show W p l e rm_X7_lowestOf s m args below meth c H [] 0 0 (QL G B S sz below args s Q) (F0 m 0 ls [])
  generalize ([] : List Loc) = locs at hH ⊢
  refine lv_aload_n hx hb dX7_lowestOf_0 rfl (lv_at hl 0 rfl) ?_
  obtain ⟨k1, hw⟩ := hw
  refine hv_get (ci := 7) (k := 0) (v := .ref (S.2 v0 0)) hx hb hown hKK hH cf7 (by decide) fl_X7_7 rfl k1 rfl dX7_lowestOf_1 ?_
  refine lv_iload_n hx hb dX7_lowestOf_4 rfl (lv_at hl 1 rfl) ?_
  refine lv_ineg hx hb dX7_lowestOf_5 ?_
  refine lv_dup2_11 hx hb dX7_lowestOf_6 rfl rfl ?_
  obtain ⟨k2, hw⟩ := hw
  refine hv_iald hx hb hKK hH k2 dX7_lowestOf_7 ?_
  refine lv_iconst (v := (nI 1)) hx hb dX7_lowestOf_8 (by decide) ?_
  refine lv_iadd hx hb dX7_lowestOf_9 ?_
  refine hv_iast hx hb hKK hH k2 dX7_lowestOf_10 (fun H locs hH => ?_)
  refine lv_ldc2 (v := (4000000000000000000 : Int64)) hx hb hown (hKK.use kc_X7_83 rfl _) dX7_lowestOf_11 ?_
  refine lv_iload_n hx hb dX7_lowestOf_14 rfl (lv_at hl 1 rfl) ?_
  refine lv_i2l hx hb dX7_lowestOf_15 rfl ?_
  refine lv_lsub hx hb dX7_lowestOf_16 ?_
  exact hv_lret hx hb hr hlk hH hw dX7_lowestOf_17
abbrev rm_X7_isIn : Room := { frames := 0, cells := 0, slots := 0, locals := 0 }
set_option maxHeartbeats 4000000 in
set_option maxRecDepth 100000 in
theorem m_X7_isIn {l : Launch} {G : Gl} {B sz : Nat} {S : St} (v0 : Int32) (v1 : Int32) (v2 : Int32) (h : Hp) (Q : Int32 → Hp → Prop) (hw : w_X7_isIn S v0 v1 v2 h Q) : MI l G B sz S yX7_isIn cX7_isIn 3 .boolean rm_X7_isIn [.int v0, .int v1, .int v2] h Q := by
  refine met_of rfl rfl ?_
  intro p e s m args below meth c hMB H ls hH hl
  obtain ⟨hx, hb, hml, hown, hKK, hr, hlk⟩ := hMB
  replace hl : lv_has ls 3 [(0, .int v0), (1, .int v1), (2, .int v2)] := hl
  unfold w_X7_isIn at hw
  show W p l e rm_X7_isIn s m args below meth c H [] 0 0 (QI G B S sz below args s Q) (F0 m 0 ls [])
  generalize ([] : List Loc) = locs at hH ⊢
  refine lv_iload_n hx hb dX7_isIn_0 rfl (lv_at hl 0 rfl) ?_
  refine lv_iload_n hx hb dX7_isIn_1 rfl (lv_at hl 1 rfl) ?_
  refine lv_icmp_lt (tgt := 14) hx hb dX7_isIn_2 (by decide) (fun c1 => ?_) (fun c1 => ?_)
  · have hw := ite_t hw c1
    refine lv_iconst (v := (nI 0)) hx hb dX7_isIn_14 (by decide) ?_
    exact hv_zret hx hb hr hlk hH (Or.inl rfl) hw dX7_isIn_15
  · have hw := ite_f hw c1
    refine lv_iload_n hx hb dX7_isIn_5 rfl (lv_at hl 0 rfl) ?_
    refine lv_iload_n hx hb dX7_isIn_6 rfl (lv_at hl 2 rfl) ?_
    refine lv_icmp_gt (tgt := 14) hx hb dX7_isIn_7 (by decide) (fun c2 => ?_) (fun c2 => ?_)
    · have hw := ite_t hw c2
      refine lv_iconst (v := (nI 0)) hx hb dX7_isIn_14 (by decide) ?_
      exact hv_zret hx hb hr hlk hH (Or.inl rfl) hw dX7_isIn_15
    · have hw := ite_f hw c2
      refine lv_iconst (v := (nI 1)) hx hb dX7_isIn_10 (by decide) ?_
      refine lv_goto (tgt := 15) hx hb dX7_isIn_11 (by decide) ?_
      exact hv_zret hx hb hr hlk hH (Or.inr rfl) hw dX7_isIn_15
abbrev rm_X7_bound : Room := { frames := 0, cells := 0, slots := 0, locals := 0 }
set_option maxHeartbeats 4000000 in
set_option maxRecDepth 100000 in
theorem m_X7_bound {l : Launch} {G : Gl} {B sz : Nat} {S : St} (v0 : Int32) (v1 : Int32) (v2 : Int32) (h : Hp) (Q : Int32 → Hp → Prop) (hw : w_X7_bound S v0 v1 v2 h Q) : MI l G B sz S yX7_bound cX7_bound 3 .int rm_X7_bound [.int v0, .int v1, .int v2] h Q := by
  refine met_of rfl rfl ?_
  intro p e s m args below meth c hMB H ls hH hl
  obtain ⟨hx, hb, hml, hown, hKK, hr, hlk⟩ := hMB
  replace hl : lv_has ls 3 [(0, .int v0), (1, .int v1), (2, .int v2)] := hl
  unfold w_X7_bound at hw
  show W p l e rm_X7_bound s m args below meth c H [] 0 0 (QI G B S sz below args s Q) (F0 m 0 ls [])
  generalize ([] : List Loc) = locs at hH ⊢
  refine lv_iload_n hx hb dX7_bound_0 rfl (lv_at hl 0 rfl) ?_
  refine lv_iload_n hx hb dX7_bound_1 rfl (lv_at hl 1 rfl) ?_
  refine lv_icmp_ge (tgt := 10) hx hb dX7_bound_2 (by decide) (fun c1 => ?_) (fun c1 => ?_)
  · have hw := ite_t hw c1
    refine lv_iload_n hx hb dX7_bound_10 rfl (lv_at hl 0 rfl) ?_
    refine lv_iload_n hx hb dX7_bound_11 rfl (lv_at hl 2 rfl) ?_
    refine lv_icmp_le (tgt := 20) hx hb dX7_bound_12 (by decide) (fun c2 => ?_) (fun c2 => ?_)
    · have hw := ite_t hw c2
      refine lv_iconst (v := (nI 0)) hx hb dX7_bound_20 (by decide) ?_
      exact hv_iret hx hb hr hlk hH hw dX7_bound_21
    · have hw := ite_f hw c2
      refine lv_bipush (v := (-6)) hx hb dX7_bound_15 (by decide) ?_
      refine lv_goto (tgt := 21) hx hb dX7_bound_17 (by decide) ?_
      exact hv_iret hx hb hr hlk hH hw dX7_bound_21
  · have hw := ite_f hw c1
    refine lv_bipush (v := (-4)) hx hb dX7_bound_5 (by decide) ?_
    refine lv_goto (tgt := 21) hx hb dX7_bound_7 (by decide) ?_
    exact hv_iret hx hb hr hlk hH hw dX7_bound_21
abbrev rm_X7_held : Room := { frames := 0, cells := 0, slots := 0, locals := 0 }
set_option maxHeartbeats 4000000 in
set_option maxRecDepth 100000 in
theorem m_X7_held {l : Launch} {G : Gl} {B sz : Nat} {S : St} (v0 : Int32) (v1 : Int32) (h : Hp) (Q : Int32 → Hp → Prop) (hw : w_X7_held S v0 v1 h Q) : MI l G B sz S yX7_held cX7_held 2 .int rm_X7_held [.int v0, .int v1] h Q := by
  refine met_of rfl rfl ?_
  intro p e s m args below meth c hMB H ls hH hl
  obtain ⟨hx, hb, hml, hown, hKK, hr, hlk⟩ := hMB
  replace hl : lv_has ls 2 [(0, .int v0), (1, .int v1)] := hl
  unfold w_X7_held at hw
  show W p l e rm_X7_held s m args below meth c H [] 0 0 (QI G B S sz below args s Q) (F0 m 0 ls [])
  generalize ([] : List Loc) = locs at hH ⊢
  refine lv_iload_n hx hb dX7_held_0 rfl (lv_at hl 0 rfl) ?_
  refine lv_iload_n hx hb dX7_held_1 rfl (lv_at hl 1 rfl) ?_
  refine lv_icmp_le (tgt := 9) hx hb dX7_held_2 (by decide) (fun c1 => ?_) (fun c1 => ?_)
  · have hw := ite_t hw c1
    refine lv_iload_n hx hb dX7_held_9 rfl (lv_at hl 0 rfl) ?_
    exact hv_iret hx hb hr hlk hH hw dX7_held_10
  · have hw := ite_f hw c1
    refine lv_iload_n hx hb dX7_held_5 rfl (lv_at hl 1 rfl) ?_
    refine lv_goto (tgt := 10) hx hb dX7_held_6 (by decide) ?_
    exact hv_iret hx hb hr hlk hH hw dX7_held_10
abbrev rm_X7_has : Room := { frames := 0, cells := 0, slots := 0, locals := 0 }
set_option maxHeartbeats 4000000 in
set_option maxRecDepth 100000 in
theorem m_X7_has {l : Launch} {G : Gl} {B sz : Nat} {S : St} (v0 : Int32) (v1 : Int32) (h : Hp) (Q : Int32 → Hp → Prop) (hw : w_X7_has S v0 v1 h Q) : MI l G B sz S yX7_has cX7_has 2 .boolean rm_X7_has [.int v0, .int v1] h Q := by
  refine met_of rfl rfl ?_
  intro p e s m args below meth c hMB H ls hH hl
  obtain ⟨hx, hb, hml, hown, hKK, hr, hlk⟩ := hMB
  replace hl : lv_has ls 2 [(0, .int v0), (1, .int v1)] := hl
  unfold w_X7_has at hw
  show W p l e rm_X7_has s m args below meth c H [] 0 0 (QI G B S sz below args s Q) (F0 m 0 ls [])
  generalize ([] : List Loc) = locs at hH ⊢
  refine lv_iload_n hx hb dX7_has_0 rfl (lv_at hl 0 rfl) ?_
  refine lv_iload_n hx hb dX7_has_1 rfl (lv_at hl 1 rfl) ?_
  refine lv_ishr hx hb dX7_has_2 ?_
  refine lv_iconst (v := (nI 1)) hx hb dX7_has_3 (by decide) ?_
  refine lv_iand hx hb dX7_has_4 ?_
  refine lv_iconst (v := (nI 1)) hx hb dX7_has_5 (by decide) ?_
  refine lv_icmp_ne (tgt := 13) hx hb dX7_has_6 (by decide) (fun c1 => ?_) (fun c1 => ?_)
  · have hw := ite_f hw c1
    refine lv_iconst (v := (nI 0)) hx hb dX7_has_13 (by decide) ?_
    exact hv_zret hx hb hr hlk hH (Or.inl rfl) hw dX7_has_14
  · have hw := ite_t hw c1
    refine lv_iconst (v := (nI 1)) hx hb dX7_has_9 (by decide) ?_
    refine lv_goto (tgt := 14) hx hb dX7_has_10 (by decide) ?_
    exact hv_zret hx hb hr hlk hH (Or.inr rfl) hw dX7_has_14
abbrev rm_X7_apart : Room := { frames := 0, cells := 0, slots := 0, locals := 0 }
set_option maxHeartbeats 4000000 in
set_option maxRecDepth 100000 in
theorem m_X7_apart {l : Launch} {G : Gl} {B sz : Nat} {S : St} (v0 : Int32) (v1 : Int32) (h : Hp) (Q : Int32 → Hp → Prop) (hw : w_X7_apart S v0 v1 h Q) : MI l G B sz S yX7_apart cX7_apart 2 .int rm_X7_apart [.int v0, .int v1] h Q := by
  refine met_of rfl rfl ?_
  intro p e s m args below meth c hMB H ls hH hl
  obtain ⟨hx, hb, hml, hown, hKK, hr, hlk⟩ := hMB
  replace hl : lv_has ls 2 [(0, .int v0), (1, .int v1)] := hl
  unfold w_X7_apart at hw
  show W p l e rm_X7_apart s m args below meth c H [] 0 0 (QI G B S sz below args s Q) (F0 m 0 ls [])
  generalize ([] : List Loc) = locs at hH ⊢
  refine lv_iload_n hx hb dX7_apart_0 rfl (lv_at hl 0 rfl) ?_
  refine lv_iload_n hx hb dX7_apart_1 rfl (lv_at hl 1 rfl) ?_
  refine lv_icmp_ge (tgt := 11) hx hb dX7_apart_2 (by decide) (fun c1 => ?_) (fun c1 => ?_)
  · have hw := ite_t hw c1
    refine lv_iload_n hx hb dX7_apart_11 rfl (lv_at hl 0 rfl) ?_
    refine lv_iload_n hx hb dX7_apart_12 rfl (lv_at hl 1 rfl) ?_
    refine lv_isub hx hb dX7_apart_13 ?_
    exact hv_iret hx hb hr hlk hH hw dX7_apart_14
  · have hw := ite_f hw c1
    refine lv_iload_n hx hb dX7_apart_5 rfl (lv_at hl 1 rfl) ?_
    refine lv_iload_n hx hb dX7_apart_6 rfl (lv_at hl 0 rfl) ?_
    refine lv_isub hx hb dX7_apart_7 ?_
    refine lv_goto (tgt := 14) hx hb dX7_apart_8 (by decide) ?_
    exact hv_iret hx hb hr hlk hH hw dX7_apart_14
abbrev rm_X7_bits : Room := { frames := 0, cells := 0, slots := 0, locals := 0 }
set_option maxHeartbeats 4000000 in
set_option maxRecDepth 100000 in
theorem m_X7_bits {l : Launch} {G : Gl} {B sz : Nat} {S : St} (v0 : Int32) (h : Hp) (Q : Int32 → Hp → Prop) (hw : w_X7_bits S v0 h Q) : MI l G B sz S yX7_bits cX7_bits 3 .int rm_X7_bits [.int v0] h Q := by
  refine met_of rfl rfl ?_
  intro p e s m args below meth c hMB H ls hH hl
  obtain ⟨hx, hb, hml, hown, hKK, hr, hlk⟩ := hMB
  replace hl : lv_has ls 3 [(0, .int v0)] := hl
  have c4 : ∀  (v0 : Int32) (v1 : Int32) (v2 : Int32) (h : Hp) (H : Heap) (locs : List Loc) (ls : Array Slot), HH G B S h sz s H locs → lv_has ls 3 [(0, .int v0), (1, .int v1), (2, .int v2)] → w_X7_bits_c4 S v0 v1 v2 h Q → W p l e rm_X7_bits s m args below meth c H locs 0 0 (QI G B S sz below args s Q) (F0 m 4 ls []) := by
    intro  v0 v1 v2 h H locs ls hH hl hw
    unfold w_X7_bits_c4 at hw
    obtain ⟨P4, hP4⟩ : ∃ P : Int32 → Int32 → Hp → Prop, ∀ (v1 : Int32) (v2 : Int32) (h : Hp), P v1 v2 h ↔ (∀ (H : Heap) (locs : List Loc) (ls : Array Slot), HH G B S h sz s H locs → lv_has ls 3 [(0, .int v0), (1, .int v1), (2, .int v2)] → W p l e rm_X7_bits s m args below meth c H locs 0 0 (QI G B S sz below args s Q) (F0 m 4 ls [])) := ⟨_, fun v1 v2 h => Iff.rfl⟩
    refine (hP4 v1 v2 h).1 (hw P4 (fun v1 v2 h hw => (hP4 v1 v2 h).2 (fun H locs ls hH hl => ?_))) H locs ls hH hl
    have hK4 : ∀ (v1 : Int32) (v2 : Int32) (h : Hp) (H : Heap) (locs : List Loc) (ls : Array Slot), HH G B S h sz s H locs → lv_has ls 3 [(0, .int v0), (1, .int v1), (2, .int v2)] → P4 v1 v2 h → W p l e rm_X7_bits s m args below meth c H locs 0 0 (QI G B S sz below args s Q) (F0 m 4 ls []) := fun v1 v2 h H locs ls hH hl hk => (hP4 v1 v2 h).1 hk H locs ls hH hl
    refine lv_iload_n hx hb dX7_bits_4 rfl (lv_at hl 2 rfl) ?_
    refine lv_bipush (v := (nI 31)) hx hb dX7_bits_5 (by decide) ?_
    refine lv_icmp_ge (tgt := 24) hx hb dX7_bits_7 (by decide) (fun c1 => ?_) (fun c1 => ?_)
    · have hw := ite_t hw c1
      refine lv_iload_n hx hb dX7_bits_24 rfl (lv_at hl 1 rfl) ?_
      exact hv_iret hx hb hr hlk hH hw dX7_bits_25
    · have hw := ite_f hw c1
      refine lv_iload_n hx hb dX7_bits_10 rfl (lv_at hl 1 rfl) ?_
      refine lv_iload_n hx hb dX7_bits_11 rfl (lv_at hl 0 rfl) ?_
      refine lv_iload_n hx hb dX7_bits_12 rfl (lv_at hl 2 rfl) ?_
      refine lv_ishr hx hb dX7_bits_13 ?_
      refine lv_iconst (v := (nI 1)) hx hb dX7_bits_14 (by decide) ?_
      refine lv_iand hx hb dX7_bits_15 ?_
      refine lv_iadd hx hb dX7_bits_16 ?_
      refine lv_istore_n (lv' := [(1, .int (v1 + ((ishr v0 v2) &&& (nI 1)))), (0, .int v0), (2, .int v2)]) hx hb dX7_bits_17 rfl hl (by decide) rfl (fun ls hl => ?_)
      refine lv_iinc (v := v2 + (nI 1)) (lv' := [(2, .int (v2 + (nI 1))), (1, .int (v1 + ((ishr v0 v2) &&& (nI 1)))), (0, .int v0)]) hx hb dX7_bits_18 hl (k := 2) rfl rfl (by decide) rfl (fun ls hl => ?_)
      refine lv_goto (tgt := 4) hx hb dX7_bits_21 (by decide) ?_
      exact hK4 _ _ _ H locs ls hH (lv_sub hl [2, 1, 0] rfl) hw
  unfold w_X7_bits at hw
  show W p l e rm_X7_bits s m args below meth c H [] 0 0 (QI G B S sz below args s Q) (F0 m 0 ls [])
  generalize ([] : List Loc) = locs at hH ⊢
  refine lv_iconst (v := (nI 0)) hx hb dX7_bits_0 (by decide) ?_
  refine lv_istore_n (lv' := [(1, .int (nI 0)), (0, .int v0)]) hx hb dX7_bits_1 rfl hl (by decide) rfl (fun ls hl => ?_)
  refine lv_iconst (v := (nI 0)) hx hb dX7_bits_2 (by decide) ?_
  refine lv_istore_n (lv' := [(2, .int (nI 0)), (1, .int (nI 0)), (0, .int v0)]) hx hb dX7_bits_3 rfl hl (by decide) rfl (fun ls hl => ?_)
  exact c4 _ _ _ _ H locs ls hH (lv_sub hl [2, 1, 0] rfl) hw
abbrev rm_X7_isHead : Room := { frames := 1, cells := 0, slots := 0, locals := 22 }
set_option maxHeartbeats 4000000 in
set_option maxRecDepth 100000 in
theorem m_X7_isHead {l : Launch} {G : Gl} {B sz : Nat} {S : St} (v0 : Nat) (v1 : Int32) (h : Hp) (Q : Int32 → Hp → Prop) (hw : w_X7_isHead S v0 v1 h Q) : MI l G B sz S yX7_isHead cX7_isHead 2 .boolean rm_X7_isHead [.ref v0, .int v1] h Q := by
  refine met_of rfl rfl ?_
  intro p e s m args below meth c hMB H ls hH hl
  obtain ⟨hx, hb, hml, hown, hKK, hr, hlk⟩ := hMB
  replace hl : lv_has ls 2 [(0, .ref v0), (1, .int v1)] := hl
  unfold w_X7_isHead at hw
  show W p l e rm_X7_isHead s m args below meth c H [] 0 0 (QI G B S sz below args s Q) (F0 m 0 ls [])
  generalize ([] : List Loc) = locs at hH ⊢
  refine lv_iload_n hx hb dX7_isHead_0 rfl (lv_at hl 1 rfl) ?_
  refine lv_iconst (v := (nI 0)) hx hb dX7_isHead_1 (by decide) ?_
  refine lv_aload_n hx hb dX7_isHead_2 rfl (lv_at hl 0 rfl) ?_
  obtain ⟨k1, hw⟩ := hw
  refine hv_get (ci := 7) (k := 13) (v := .int (h v0 13)) hx hb hown hKK hH cf7 (by decide) fl_X7_79 rfl k1 rfl dX7_isHead_3 ?_
  refine lv_iconst (v := (nI 1)) hx hb dX7_isHead_6 (by decide) ?_
  refine lv_isub hx hb dX7_isHead_7 ?_
  refine hv_cSI (rm := rm_X7_isIn) (As := [.int v1, .int (nI 0), .int ((h v0 13) - (nI 1))]) (rest := []) (k := 3) hx hb hml hown hKK hH (m_X7_isIn v1 (nI 0) ((h v0 13) - (nI 1)) _ _ hw) cw_X7_85 ⟨Nat.le_of_ble_eq_true rfl, Nat.le_of_ble_eq_true rfl⟩ rfl hl.1 rfl (Nat.le_of_ble_eq_true rfl) ⟨Nat.le_of_ble_eq_true rfl, Nat.le_of_ble_eq_true rfl⟩ dX7_isHead_8 (fun r3 h2 H locs hH hw => ?_)
  obtain ⟨k4, hw⟩ := hw
  exact hv_zret hx hb hr hlk hH k4 hw dX7_isHead_11
abbrev rm_X7_isField : Room := { frames := 1, cells := 0, slots := 0, locals := 22 }
set_option maxHeartbeats 4000000 in
set_option maxRecDepth 100000 in
theorem m_X7_isField {l : Launch} {G : Gl} {B sz : Nat} {S : St} (v0 : Int32) (h : Hp) (Q : Int32 → Hp → Prop) (hw : w_X7_isField S v0 h Q) : MI l G B sz S yX7_isField cX7_isField 1 .boolean rm_X7_isField [.int v0] h Q := by
  refine met_of rfl rfl ?_
  intro p e s m args below meth c hMB H ls hH hl
  obtain ⟨hx, hb, hml, hown, hKK, hr, hlk⟩ := hMB
  replace hl : lv_has ls 1 [(0, .int v0)] := hl
  unfold w_X7_isField at hw
  show W p l e rm_X7_isField s m args below meth c H [] 0 0 (QI G B S sz below args s Q) (F0 m 0 ls [])
  generalize ([] : List Loc) = locs at hH ⊢
  refine lv_iload_n hx hb dX7_isField_0 rfl (lv_at hl 0 rfl) ?_
  refine lv_iconst (v := (nI 0)) hx hb dX7_isField_1 (by decide) ?_
  refine lv_bipush (v := (nI 47)) hx hb dX7_isField_2 (by decide) ?_
  refine hv_cSI (rm := rm_X7_isIn) (As := [.int v0, .int (nI 0), .int (nI 47)]) (rest := []) (k := 3) hx hb hml hown hKK hH (m_X7_isIn v0 (nI 0) (nI 47) _ _ hw) cw_X7_85 ⟨Nat.le_of_ble_eq_true rfl, Nat.le_of_ble_eq_true rfl⟩ rfl hl.1 rfl (Nat.le_of_ble_eq_true rfl) ⟨Nat.le_of_ble_eq_true rfl, Nat.le_of_ble_eq_true rfl⟩ dX7_isField_4 (fun r2 h1 H locs hH hw => ?_)
  obtain ⟨k3, hw⟩ := hw
  exact hv_zret hx hb hr hlk hH k3 hw dX7_isField_7
abbrev rm_X7_areTwo : Room := { frames := 2, cells := 0, slots := 0, locals := 43 }
set_option maxHeartbeats 4000000 in
set_option maxRecDepth 100000 in
theorem m_X7_areTwo {l : Launch} {G : Gl} {B sz : Nat} {S : St} (v0 : Nat) (v1 : Int32) (v2 : Int32) (h : Hp) (Q : Int32 → Hp → Prop) (hw : w_X7_areTwo S v0 v1 v2 h Q) : MI l G B sz S yX7_areTwo cX7_areTwo 3 .boolean rm_X7_areTwo [.ref v0, .int v1, .int v2] h Q := by
  refine met_of rfl rfl ?_
  intro p e s m args below meth c hMB H ls hH hl
  obtain ⟨hx, hb, hml, hown, hKK, hr, hlk⟩ := hMB
  replace hl : lv_has ls 3 [(0, .ref v0), (1, .int v1), (2, .int v2)] := hl
  unfold w_X7_areTwo at hw
  show W p l e rm_X7_areTwo s m args below meth c H [] 0 0 (QI G B S sz below args s Q) (F0 m 0 ls [])
  generalize ([] : List Loc) = locs at hH ⊢
  refine lv_aload_n hx hb dX7_areTwo_0 rfl (lv_at hl 0 rfl) ?_
  refine lv_iload_n hx hb dX7_areTwo_1 rfl (lv_at hl 1 rfl) ?_
  obtain ⟨k1, hw⟩ := hw
  refine hv_cVI (rm := rm_X7_isHead) (As := [.int v1]) (rest := []) (k := 1) (ci := 7) hx hb hml hown hKK hH cf7 k1 (m_X7_isHead v0 v1 _ _ hw) cw_X7_89 ⟨Nat.le_of_ble_eq_true rfl, Nat.le_of_ble_eq_true rfl⟩ rfl hl.1 rfl (Nat.le_of_ble_eq_true rfl) ⟨Nat.le_of_ble_eq_true rfl, Nat.le_of_ble_eq_true rfl⟩ dX7_areTwo_2 (fun r3 h2 H locs hH hw => ?_)
  refine lv_if_eq (tgt := 25) hx hb dX7_areTwo_5 (by decide) (fun c4 => ?_) (fun c4 => ?_)
  · have hw := ite_t hw c4
    refine lv_iconst (v := (nI 0)) hx hb dX7_areTwo_25 (by decide) ?_
    exact hv_zret hx hb hr hlk hH (Or.inl rfl) hw dX7_areTwo_26
  · have hw := ite_f hw c4
    refine lv_aload_n hx hb dX7_areTwo_8 rfl (lv_at hl 0 rfl) ?_
    refine lv_iload_n hx hb dX7_areTwo_9 rfl (lv_at hl 2 rfl) ?_
    refine hv_cVI (rm := rm_X7_isHead) (As := [.int v2]) (rest := []) (k := 1) (ci := 7) hx hb hml hown hKK hH cf7 k1 (m_X7_isHead v0 v2 _ _ hw) cw_X7_89 ⟨Nat.le_of_ble_eq_true rfl, Nat.le_of_ble_eq_true rfl⟩ rfl hl.1 rfl (Nat.le_of_ble_eq_true rfl) ⟨Nat.le_of_ble_eq_true rfl, Nat.le_of_ble_eq_true rfl⟩ dX7_areTwo_10 (fun r6 h5 H locs hH hw => ?_)
    refine lv_if_eq (tgt := 25) hx hb dX7_areTwo_13 (by decide) (fun c7 => ?_) (fun c7 => ?_)
    · have hw := ite_t hw c7
      refine lv_iconst (v := (nI 0)) hx hb dX7_areTwo_25 (by decide) ?_
      exact hv_zret hx hb hr hlk hH (Or.inl rfl) hw dX7_areTwo_26
    · have hw := ite_f hw c7
      refine lv_iload_n hx hb dX7_areTwo_16 rfl (lv_at hl 1 rfl) ?_
      refine lv_iload_n hx hb dX7_areTwo_17 rfl (lv_at hl 2 rfl) ?_
      refine lv_icmp_eq (tgt := 25) hx hb dX7_areTwo_18 (by decide) (fun c8 => ?_) (fun c8 => ?_)
      · have hw := ite_t hw c8
        refine lv_iconst (v := (nI 0)) hx hb dX7_areTwo_25 (by decide) ?_
        exact hv_zret hx hb hr hlk hH (Or.inl rfl) hw dX7_areTwo_26
      · have hw := ite_f hw c8
        refine lv_iconst (v := (nI 1)) hx hb dX7_areTwo_21 (by decide) ?_
        refine lv_goto (tgt := 26) hx hb dX7_areTwo_22 (by decide) ?_
        exact hv_zret hx hb hr hlk hH (Or.inr rfl) hw dX7_areTwo_26
abbrev rm_X7_isVowel : Room := { frames := 0, cells := 0, slots := 0, locals := 0 }
set_option maxHeartbeats 4000000 in
set_option maxRecDepth 100000 in
theorem m_X7_isVowel {l : Launch} {G : Gl} {B sz : Nat} {S : St} (v0 : Int32) (h : Hp) (Q : Int32 → Hp → Prop) (hw : w_X7_isVowel S v0 h Q) : MI l G B sz S yX7_isVowel cX7_isVowel 1 .boolean rm_X7_isVowel [.int v0] h Q := by
  refine met_of rfl rfl ?_
  intro p e s m args below meth c hMB H ls hH hl
  obtain ⟨hx, hb, hml, hown, hKK, hr, hlk⟩ := hMB
  replace hl : lv_has ls 1 [(0, .int v0)] := hl
  unfold w_X7_isVowel at hw
  show W p l e rm_X7_isVowel s m args below meth c H [] 0 0 (QI G B S sz below args s Q) (F0 m 0 ls [])
  generalize ([] : List Loc) = locs at hH ⊢
  refine lv_iload_n hx hb dX7_isVowel_0 rfl (lv_at hl 0 rfl) ?_
  refine lv_if_eq (tgt := 27) hx hb dX7_isVowel_1 (by decide) (fun c1 => ?_) (fun c1 => ?_)
  · have hw := ite_t hw c1
    refine lv_iconst (v := (nI 1)) hx hb dX7_isVowel_27 (by decide) ?_
    refine lv_goto (tgt := 32) hx hb dX7_isVowel_28 (by decide) ?_
    exact hv_zret hx hb hr hlk hH (Or.inr rfl) hw dX7_isVowel_32
  · have hw := ite_f hw c1
    refine lv_iload_n hx hb dX7_isVowel_4 rfl (lv_at hl 0 rfl) ?_
    refine lv_iconst (v := (nI 4)) hx hb dX7_isVowel_5 (by decide) ?_
    refine lv_icmp_eq (tgt := 27) hx hb dX7_isVowel_6 (by decide) (fun c2 => ?_) (fun c2 => ?_)
    · have hw := ite_t hw c2
      refine lv_iconst (v := (nI 1)) hx hb dX7_isVowel_27 (by decide) ?_
      refine lv_goto (tgt := 32) hx hb dX7_isVowel_28 (by decide) ?_
      exact hv_zret hx hb hr hlk hH (Or.inr rfl) hw dX7_isVowel_32
    · have hw := ite_f hw c2
      refine lv_iload_n hx hb dX7_isVowel_9 rfl (lv_at hl 0 rfl) ?_
      refine lv_bipush (v := (nI 8)) hx hb dX7_isVowel_10 (by decide) ?_
      refine lv_icmp_eq (tgt := 27) hx hb dX7_isVowel_12 (by decide) (fun c3 => ?_) (fun c3 => ?_)
      · have hw := ite_t hw c3
        refine lv_iconst (v := (nI 1)) hx hb dX7_isVowel_27 (by decide) ?_
        refine lv_goto (tgt := 32) hx hb dX7_isVowel_28 (by decide) ?_
        exact hv_zret hx hb hr hlk hH (Or.inr rfl) hw dX7_isVowel_32
      · have hw := ite_f hw c3
        refine lv_iload_n hx hb dX7_isVowel_15 rfl (lv_at hl 0 rfl) ?_
        refine lv_bipush (v := (nI 14)) hx hb dX7_isVowel_16 (by decide) ?_
        refine lv_icmp_eq (tgt := 27) hx hb dX7_isVowel_18 (by decide) (fun c4 => ?_) (fun c4 => ?_)
        · have hw := ite_t hw c4
          refine lv_iconst (v := (nI 1)) hx hb dX7_isVowel_27 (by decide) ?_
          refine lv_goto (tgt := 32) hx hb dX7_isVowel_28 (by decide) ?_
          exact hv_zret hx hb hr hlk hH (Or.inr rfl) hw dX7_isVowel_32
        · have hw := ite_f hw c4
          refine lv_iload_n hx hb dX7_isVowel_21 rfl (lv_at hl 0 rfl) ?_
          refine lv_bipush (v := (nI 20)) hx hb dX7_isVowel_22 (by decide) ?_
          refine lv_icmp_ne (tgt := 31) hx hb dX7_isVowel_24 (by decide) (fun c5 => ?_) (fun c5 => ?_)
          · have hw := ite_f hw c5
            refine lv_iconst (v := (nI 0)) hx hb dX7_isVowel_31 (by decide) ?_
            exact hv_zret hx hb hr hlk hH (Or.inl rfl) hw dX7_isVowel_32
          · have hw := ite_t hw c5
            refine lv_iconst (v := (nI 1)) hx hb dX7_isVowel_27 (by decide) ?_
            refine lv_goto (tgt := 32) hx hb dX7_isVowel_28 (by decide) ?_
            exact hv_zret hx hb hr hlk hH (Or.inr rfl) hw dX7_isVowel_32
abbrev rm_X7_steps : Room := { frames := 0, cells := 0, slots := 0, locals := 0 }
set_option maxHeartbeats 4000000 in
set_option maxRecDepth 100000 in
theorem m_X7_steps {l : Launch} {G : Gl} {B sz : Nat} {S : St} (v0 : Nat) (v1 : Int32) (h : Hp) (Q : Int32 → Hp → Prop) (hw : w_X7_steps S v0 v1 h Q) : MI l G B sz S yX7_steps cX7_steps 3 .int rm_X7_steps [.ref v0, .int v1] h Q := by
  refine met_of rfl rfl ?_
  intro p e s m args below meth c hMB H ls hH hl
  obtain ⟨hx, hb, hml, hown, hKK, hr, hlk⟩ := hMB
  replace hl : lv_has ls 3 [(0, .ref v0), (1, .int v1)] := hl
  unfold w_X7_steps at hw
  show W p l e rm_X7_steps s m args below meth c H [] 0 0 (QI G B S sz below args s Q) (F0 m 0 ls [])
  generalize ([] : List Loc) = locs at hH ⊢
  refine lv_aload_n hx hb dX7_steps_0 rfl (lv_at hl 0 rfl) ?_
  obtain ⟨k1, hw⟩ := hw
  refine hv_get (ci := 7) (k := 5) (v := .ref (S.2 v0 5)) hx hb hown hKK hH cf7 (by decide) fl_X7_25 rfl k1 rfl dX7_steps_1 ?_
  refine lv_iload_n hx hb dX7_steps_4 rfl (lv_at hl 1 rfl) ?_
  obtain ⟨k2, hw⟩ := hw
  refine hv_iald hx hb hKK hH k2 dX7_steps_5 ?_
  refine lv_istore_n (lv' := [(2, .int (h (S.2 v0 5) (ix v1))), (0, .ref v0), (1, .int v1)]) hx hb dX7_steps_6 rfl hl (by decide) rfl (fun ls hl => ?_)
  refine lv_aload_n hx hb dX7_steps_7 rfl (lv_at hl 1 rfl) ?_
  refine hv_get (ci := 7) (k := 4) (v := .ref (S.2 v0 4)) hx hb hown hKK hH cf7 (by decide) fl_X7_22 rfl k1 rfl dX7_steps_8 ?_
  refine lv_iload_n hx hb dX7_steps_11 rfl (lv_at hl 2 rfl) ?_
  obtain ⟨k3, hw⟩ := hw
  refine hv_iald hx hb hKK hH k3 dX7_steps_12 ?_
  by_cases c4 : (h (S.2 v0 4) (ix v1)) = (nI 1)
  · have hw := ite_t hw c4
    refine lv_tableIn (tgt := 56) hx hb dX7_steps_13 (by rw [c4]; decide) (by rw [c4]; decide) (by rw [c4]; rfl) (by decide) ?_
    refine lv_iconst (v := (nI 2)) hx hb dX7_steps_56 (by decide) ?_
    exact hv_iret hx hb hr hlk hH hw dX7_steps_57
  have hw := ite_f hw c4
  by_cases c5 : (h (S.2 v0 4) (ix v1)) = (nI 2)
  · have hw := ite_t hw c5
    refine lv_tableIn (tgt := 58) hx hb dX7_steps_13 (by rw [c5]; decide) (by rw [c5]; decide) (by rw [c5]; rfl) (by decide) ?_
    refine lv_iload_n hx hb dX7_steps_58 rfl (lv_at hl 0 rfl) ?_
    refine lv_iconst (v := (nI 3)) hx hb dX7_steps_59 (by decide) ?_
    refine lv_idiv hx hb dX7_steps_60 (by decide) ?_
    refine lv_iconst (v := (nI 1)) hx hb dX7_steps_61 (by decide) ?_
    refine lv_iadd hx hb dX7_steps_62 ?_
    exact hv_iret hx hb hr hlk hH hw dX7_steps_63
  have hw := ite_f hw c5
  by_cases c6 : (h (S.2 v0 4) (ix v1)) = (nI 5)
  · have hw := ite_t hw c6
    refine lv_tableIn (tgt := 64) hx hb dX7_steps_13 (by rw [c6]; decide) (by rw [c6]; decide) (by rw [c6]; rfl) (by decide) ?_
    refine lv_aload_n hx hb dX7_steps_64 rfl (lv_at hl 1 rfl) ?_
    refine hv_get (ci := 7) (k := 11) (v := .ref (S.2 v0 11)) hx hb hown hKK hH cf7 (by decide) fl_X7_43 rfl k1 rfl dX7_steps_65 ?_
    refine lv_iload_n hx hb dX7_steps_68 rfl (lv_at hl 2 rfl) ?_
    obtain ⟨k7, hw⟩ := hw
    refine hv_iald hx hb hKK hH k7 dX7_steps_69 ?_
    refine lv_iconst (v := (nI 2)) hx hb dX7_steps_70 (by decide) ?_
    refine lv_idiv hx hb dX7_steps_71 (by decide) ?_
    exact hv_iret hx hb hr hlk hH hw dX7_steps_72
  have hw := ite_f hw c6
  by_cases c8 : (h (S.2 v0 4) (ix v1)) = (nI 6)
  · have hw := ite_t hw c8
    refine lv_tableIn (tgt := 73) hx hb dX7_steps_13 (by rw [c8]; decide) (by rw [c8]; decide) (by rw [c8]; rfl) (by decide) ?_
    refine lv_iload_n hx hb dX7_steps_73 rfl (lv_at hl 0 rfl) ?_
    refine lv_iconst (v := (nI 3)) hx hb dX7_steps_74 (by decide) ?_
    refine lv_idiv hx hb dX7_steps_75 (by decide) ?_
    refine lv_iconst (v := (nI 2)) hx hb dX7_steps_76 (by decide) ?_
    refine lv_iadd hx hb dX7_steps_77 ?_
    exact hv_iret hx hb hr hlk hH hw dX7_steps_78
  have hw := ite_f hw c8
  by_cases c9 : (h (S.2 v0 4) (ix v1)) = (nI 7)
  · have hw := ite_t hw c9
    refine lv_tableIn (tgt := 56) hx hb dX7_steps_13 (by rw [c9]; decide) (by rw [c9]; decide) (by rw [c9]; rfl) (by decide) ?_
    refine lv_iconst (v := (nI 2)) hx hb dX7_steps_56 (by decide) ?_
    exact hv_iret hx hb hr hlk hH hw dX7_steps_57
  have hw := ite_f hw c9
  have wd : W p l e rm_X7_steps s m args below meth c H locs 0 0 (QI G B S sz below args s Q) (F0 m 79 ls []) := by
    refine lv_iconst (v := (nI 1)) hx hb dX7_steps_79 (by decide) ?_
    exact hv_iret hx hb hr hlk hH hw dX7_steps_80
  by_cases c10 : (h (S.2 v0 4) (ix v1)) = (nI 3)
  · exact lv_tableIn (tgt := 79) hx hb dX7_steps_13 (by rw [c10]; decide) (by rw [c10]; decide) (by rw [c10]; rfl) (by decide) wd
  by_cases c11 : (h (S.2 v0 4) (ix v1)) = (nI 4)
  · exact lv_tableIn (tgt := 79) hx hb dX7_steps_13 (by rw [c11]; decide) (by rw [c11]; decide) (by rw [c11]; rfl) (by decide) wd
  refine lv_tableOut (tgt := 79) hx hb dX7_steps_13 (by have := ne_toInt (k := 1) (by decide) c4; have := ne_toInt (k := 2) (by decide) c5; have := ne_toInt (k := 5) (by decide) c6; have := ne_toInt (k := 6) (by decide) c8; have := ne_toInt (k := 7) (by decide) c9; have := ne_toInt (k := 3) (by decide) c10; have := ne_toInt (k := 4) (by decide) c11; omega) (by decide) wd
abbrev rm_X7_weight : Room := { frames := 0, cells := 0, slots := 0, locals := 0 }
set_option maxHeartbeats 4000000 in
set_option maxRecDepth 100000 in
theorem m_X7_weight {l : Launch} {G : Gl} {B sz : Nat} {S : St} (v0 : Nat) (v1 : Int32) (h : Hp) (Q : Int32 → Hp → Prop) (hw : w_X7_weight S v0 v1 h Q) : MI l G B sz S yX7_weight cX7_weight 3 .int rm_X7_weight [.ref v0, .int v1] h Q := by
  refine met_of rfl rfl ?_
  intro p e s m args below meth c hMB H ls hH hl
  obtain ⟨hx, hb, hml, hown, hKK, hr, hlk⟩ := hMB
  replace hl : lv_has ls 3 [(0, .ref v0), (1, .int v1)] := hl
  unfold w_X7_weight at hw
  show W p l e rm_X7_weight s m args below meth c H [] 0 0 (QI G B S sz below args s Q) (F0 m 0 ls [])
  generalize ([] : List Loc) = locs at hH ⊢
  refine lv_aload_n hx hb dX7_weight_0 rfl (lv_at hl 0 rfl) ?_
  obtain ⟨k1, hw⟩ := hw
  refine hv_get (ci := 7) (k := 5) (v := .ref (S.2 v0 5)) hx hb hown hKK hH cf7 (by decide) fl_X7_25 rfl k1 rfl dX7_weight_1 ?_
  refine lv_iload_n hx hb dX7_weight_4 rfl (lv_at hl 1 rfl) ?_
  obtain ⟨k2, hw⟩ := hw
  refine hv_iald hx hb hKK hH k2 dX7_weight_5 ?_
  refine lv_istore_n (lv' := [(2, .int (h (S.2 v0 5) (ix v1))), (0, .ref v0), (1, .int v1)]) hx hb dX7_weight_6 rfl hl (by decide) rfl (fun ls hl => ?_)
  refine lv_aload_n hx hb dX7_weight_7 rfl (lv_at hl 1 rfl) ?_
  refine hv_get (ci := 7) (k := 4) (v := .ref (S.2 v0 4)) hx hb hown hKK hH cf7 (by decide) fl_X7_22 rfl k1 rfl dX7_weight_8 ?_
  refine lv_iload_n hx hb dX7_weight_11 rfl (lv_at hl 2 rfl) ?_
  obtain ⟨k3, hw⟩ := hw
  refine hv_iald hx hb hKK hH k3 dX7_weight_12 ?_
  by_cases c4 : (h (S.2 v0 4) (ix v1)) = (nI 1)
  · have hw := ite_t hw c4
    refine lv_tableIn (tgt := 56) hx hb dX7_weight_13 (by rw [c4]; decide) (by rw [c4]; decide) (by rw [c4]; rfl) (by decide) ?_
    refine lv_iconst (v := (nI 2)) hx hb dX7_weight_56 (by decide) ?_
    refine lv_iload_n hx hb dX7_weight_57 rfl (lv_at hl 0 rfl) ?_
    refine lv_imul hx hb dX7_weight_58 ?_
    refine lv_iconst (v := (nI 2)) hx hb dX7_weight_59 (by decide) ?_
    refine lv_iadd hx hb dX7_weight_60 ?_
    exact hv_iret hx hb hr hlk hH hw dX7_weight_61
  have hw := ite_f hw c4
  by_cases c5 : (h (S.2 v0 4) (ix v1)) = (nI 2)
  · have hw := ite_t hw c5
    refine lv_tableIn (tgt := 62) hx hb dX7_weight_13 (by rw [c5]; decide) (by rw [c5]; decide) (by rw [c5]; rfl) (by decide) ?_
    refine lv_bipush (v := (nI 9)) hx hb dX7_weight_62 (by decide) ?_
    exact hv_iret hx hb hr hlk hH hw dX7_weight_64
  have hw := ite_f hw c5
  by_cases c6 : (h (S.2 v0 4) (ix v1)) = (nI 3)
  · have hw := ite_t hw c6
    refine lv_tableIn (tgt := 65) hx hb dX7_weight_13 (by rw [c6]; decide) (by rw [c6]; decide) (by rw [c6]; rfl) (by decide) ?_
    refine lv_iload_n hx hb dX7_weight_65 rfl (lv_at hl 0 rfl) ?_
    refine lv_iconst (v := (nI 1)) hx hb dX7_weight_66 (by decide) ?_
    refine lv_iadd hx hb dX7_weight_67 ?_
    refine lv_iconst (v := (nI 2)) hx hb dX7_weight_68 (by decide) ?_
    refine lv_idiv hx hb dX7_weight_69 (by decide) ?_
    exact hv_iret hx hb hr hlk hH hw dX7_weight_70
  have hw := ite_f hw c6
  by_cases c7 : (h (S.2 v0 4) (ix v1)) = (nI 4)
  · have hw := ite_t hw c7
    refine lv_tableIn (tgt := 71) hx hb dX7_weight_13 (by rw [c7]; decide) (by rw [c7]; decide) (by rw [c7]; rfl) (by decide) ?_
    refine lv_iconst (v := (nI 2)) hx hb dX7_weight_71 (by decide) ?_
    refine lv_iload_n hx hb dX7_weight_72 rfl (lv_at hl 0 rfl) ?_
    refine lv_imul hx hb dX7_weight_73 ?_
    refine lv_iconst (v := (nI 5)) hx hb dX7_weight_74 (by decide) ?_
    refine lv_iadd hx hb dX7_weight_75 ?_
    exact hv_iret hx hb hr hlk hH hw dX7_weight_76
  have hw := ite_f hw c7
  by_cases c8 : (h (S.2 v0 4) (ix v1)) = (nI 5)
  · have hw := ite_t hw c8
    refine lv_tableIn (tgt := 77) hx hb dX7_weight_13 (by rw [c8]; decide) (by rw [c8]; decide) (by rw [c8]; rfl) (by decide) ?_
    refine lv_iload_n hx hb dX7_weight_77 rfl (lv_at hl 0 rfl) ?_
    refine lv_iconst (v := (nI 1)) hx hb dX7_weight_78 (by decide) ?_
    refine lv_iadd hx hb dX7_weight_79 ?_
    refine lv_iconst (v := (nI 2)) hx hb dX7_weight_80 (by decide) ?_
    refine lv_idiv hx hb dX7_weight_81 (by decide) ?_
    refine lv_iconst (v := (nI 2)) hx hb dX7_weight_82 (by decide) ?_
    refine lv_iadd hx hb dX7_weight_83 ?_
    exact hv_iret hx hb hr hlk hH hw dX7_weight_84
  have hw := ite_f hw c8
  by_cases c9 : (h (S.2 v0 4) (ix v1)) = (nI 6)
  · have hw := ite_t hw c9
    refine lv_tableIn (tgt := 85) hx hb dX7_weight_13 (by rw [c9]; decide) (by rw [c9]; decide) (by rw [c9]; rfl) (by decide) ?_
    refine lv_bipush (v := (nI 9)) hx hb dX7_weight_85 (by decide) ?_
    refine lv_iload_n hx hb dX7_weight_87 rfl (lv_at hl 0 rfl) ?_
    refine lv_isub hx hb dX7_weight_88 ?_
    exact hv_iret hx hb hr hlk hH hw dX7_weight_89
  have hw := ite_f hw c9
  by_cases c10 : (h (S.2 v0 4) (ix v1)) = (nI 7)
  · have hw := ite_t hw c10
    refine lv_tableIn (tgt := 71) hx hb dX7_weight_13 (by rw [c10]; decide) (by rw [c10]; decide) (by rw [c10]; rfl) (by decide) ?_
    refine lv_iconst (v := (nI 2)) hx hb dX7_weight_71 (by decide) ?_
    refine lv_iload_n hx hb dX7_weight_72 rfl (lv_at hl 0 rfl) ?_
    refine lv_imul hx hb dX7_weight_73 ?_
    refine lv_iconst (v := (nI 5)) hx hb dX7_weight_74 (by decide) ?_
    refine lv_iadd hx hb dX7_weight_75 ?_
    exact hv_iret hx hb hr hlk hH hw dX7_weight_76
  have hw := ite_f hw c10
  refine lv_tableOut (tgt := 90) hx hb dX7_weight_13 (by have := ne_toInt (k := 1) (by decide) c4; have := ne_toInt (k := 2) (by decide) c5; have := ne_toInt (k := 3) (by decide) c6; have := ne_toInt (k := 4) (by decide) c7; have := ne_toInt (k := 5) (by decide) c8; have := ne_toInt (k := 6) (by decide) c9; have := ne_toInt (k := 7) (by decide) c10; omega) (by decide) ?_
  refine lv_iload_n hx hb dX7_weight_90 rfl (lv_at hl 0 rfl) ?_
  refine lv_iconst (v := (nI 1)) hx hb dX7_weight_91 (by decide) ?_
  refine lv_iadd hx hb dX7_weight_92 ?_
  exact hv_iret hx hb hr hlk hH hw dX7_weight_93
abbrev rm_X7_veersAsSaint : Room := { frames := 0, cells := 0, slots := 0, locals := 0 }
set_option maxHeartbeats 4000000 in
set_option maxRecDepth 100000 in
theorem m_X7_veersAsSaint {l : Launch} {G : Gl} {B sz : Nat} {S : St} (v0 : Nat) (v1 : Int32) (v2 : Int32) (h : Hp) (Q : Int32 → Hp → Prop) (hw : w_X7_veersAsSaint S v0 v1 v2 h Q) : MI l G B sz S yX7_veersAsSaint cX7_veersAsSaint 3 .int rm_X7_veersAsSaint [.ref v0, .int v1, .int v2] h Q := by
  refine met_of rfl rfl ?_
  intro p e s m args below meth c hMB H ls hH hl
  obtain ⟨hx, hb, hml, hown, hKK, hr, hlk⟩ := hMB
  replace hl : lv_has ls 3 [(0, .ref v0), (1, .int v1), (2, .int v2)] := hl
  unfold w_X7_veersAsSaint at hw
  show W p l e rm_X7_veersAsSaint s m args below meth c H [] 0 0 (QI G B S sz below args s Q) (F0 m 0 ls [])
  generalize ([] : List Loc) = locs at hH ⊢
  refine lv_aload_n hx hb dX7_veersAsSaint_0 rfl (lv_at hl 0 rfl) ?_
  obtain ⟨k1, hw⟩ := hw
  refine hv_get (ci := 7) (k := 9) (v := .ref (S.2 v0 9)) hx hb hown hKK hH cf7 (by decide) fl_X7_37 rfl k1 rfl dX7_veersAsSaint_1 ?_
  refine lv_iload_n hx hb dX7_veersAsSaint_4 rfl (lv_at hl 1 rfl) ?_
  obtain ⟨k2, hw⟩ := hw
  refine hv_iald hx hb hKK hH k2 dX7_veersAsSaint_5 ?_
  refine lv_if_ne (tgt := 13) hx hb dX7_veersAsSaint_6 (by decide) (fun c3 => ?_) (fun c3 => ?_)
  · have hw := ite_f hw c3
    refine lv_iload_n hx hb dX7_veersAsSaint_13 rfl (lv_at hl 2 rfl) ?_
    refine lv_iconst (v := (nI 4)) hx hb dX7_veersAsSaint_14 (by decide) ?_
    refine lv_irem hx hb dX7_veersAsSaint_15 (by decide) ?_
    refine lv_if_ne (tgt := 23) hx hb dX7_veersAsSaint_16 (by decide) (fun c4 => ?_) (fun c4 => ?_)
    · have hw := ite_f hw c4
      refine lv_iconst (v := (nI 0)) hx hb dX7_veersAsSaint_23 (by decide) ?_
      exact hv_iret hx hb hr hlk hH hw dX7_veersAsSaint_24
    · have hw := ite_t hw c4
      refine lv_iconst (v := (nI 1)) hx hb dX7_veersAsSaint_19 (by decide) ?_
      refine lv_goto (tgt := 24) hx hb dX7_veersAsSaint_20 (by decide) ?_
      exact hv_iret hx hb hr hlk hH hw dX7_veersAsSaint_24
  · have hw := ite_t hw c3
    refine lv_iconst (v := (nI 2)) hx hb dX7_veersAsSaint_9 (by decide) ?_
    refine lv_goto (tgt := 24) hx hb dX7_veersAsSaint_10 (by decide) ?_
    exact hv_iret hx hb hr hlk hH hw dX7_veersAsSaint_24
abbrev rm_X7_veers : Room := { frames := 1, cells := 0, slots := 0, locals := 22 }
set_option maxHeartbeats 4000000 in
set_option maxRecDepth 100000 in
theorem m_X7_veers {l : Launch} {G : Gl} {B sz : Nat} {S : St} (v0 : Nat) (v1 : Int32) (v2 : Int32) (h : Hp) (Q : Int32 → Hp → Prop) (hw : w_X7_veers S v0 v1 v2 h Q) : MI l G B sz S yX7_veers cX7_veers 4 .int rm_X7_veers [.ref v0, .int v1, .int v2] h Q := by
  refine met_of rfl rfl ?_
  intro p e s m args below meth c hMB H ls hH hl
  obtain ⟨hx, hb, hml, hown, hKK, hr, hlk⟩ := hMB
  replace hl : lv_has ls 4 [(0, .ref v0), (1, .int v1), (2, .int v2)] := hl
  unfold w_X7_veers at hw
  show W p l e rm_X7_veers s m args below meth c H [] 0 0 (QI G B S sz below args s Q) (F0 m 0 ls [])
  generalize ([] : List Loc) = locs at hH ⊢
  refine lv_aload_n hx hb dX7_veers_0 rfl (lv_at hl 0 rfl) ?_
  obtain ⟨k1, hw⟩ := hw
  refine hv_get (ci := 7) (k := 5) (v := .ref (S.2 v0 5)) hx hb hown hKK hH cf7 (by decide) fl_X7_25 rfl k1 rfl dX7_veers_1 ?_
  refine lv_iload_n hx hb dX7_veers_4 rfl (lv_at hl 1 rfl) ?_
  obtain ⟨k2, hw⟩ := hw
  refine hv_iald hx hb hKK hH k2 dX7_veers_5 ?_
  refine lv_istore_n (lv' := [(3, .int (h (S.2 v0 5) (ix v1))), (0, .ref v0), (1, .int v1), (2, .int v2)]) hx hb dX7_veers_6 rfl hl (by decide) rfl (fun ls hl => ?_)
  refine lv_aload_n hx hb dX7_veers_7 rfl (lv_at hl 1 rfl) ?_
  refine hv_get (ci := 7) (k := 4) (v := .ref (S.2 v0 4)) hx hb hown hKK hH cf7 (by decide) fl_X7_22 rfl k1 rfl dX7_veers_8 ?_
  refine lv_iload_n hx hb dX7_veers_11 rfl (lv_at hl 2 rfl) ?_
  obtain ⟨k3, hw⟩ := hw
  refine hv_iald hx hb hKK hH k3 dX7_veers_12 ?_
  by_cases c4 : (h (S.2 v0 4) (ix v1)) = (nI 1)
  · have hw := ite_t hw c4
    refine lv_tableIn (tgt := 56) hx hb dX7_veers_13 (by rw [c4]; decide) (by rw [c4]; decide) (by rw [c4]; rfl) (by decide) ?_
    refine lv_iload_n hx hb dX7_veers_56 rfl (lv_at hl 3 rfl) ?_
    refine lv_iconst (v := (nI 4)) hx hb dX7_veers_57 (by decide) ?_
    refine lv_irem hx hb dX7_veers_58 (by decide) ?_
    refine lv_if_ne (tgt := 66) hx hb dX7_veers_59 (by decide) (fun c5 => ?_) (fun c5 => ?_)
    · have hw := ite_f hw c5
      refine lv_iconst (v := (nI 0)) hx hb dX7_veers_66 (by decide) ?_
      exact hv_iret hx hb hr hlk hH hw dX7_veers_67
    · have hw := ite_t hw c5
      refine lv_iconst (v := (nI 1)) hx hb dX7_veers_62 (by decide) ?_
      refine lv_goto (tgt := 67) hx hb dX7_veers_63 (by decide) ?_
      exact hv_iret hx hb hr hlk hH hw dX7_veers_67
  have hw := ite_f hw c4
  by_cases c6 : (h (S.2 v0 4) (ix v1)) = (nI 3)
  · have hw := ite_t hw c6
    refine lv_tableIn (tgt := 68) hx hb dX7_veers_13 (by rw [c6]; decide) (by rw [c6]; decide) (by rw [c6]; rfl) (by decide) ?_
    refine lv_iload_n hx hb dX7_veers_68 rfl (lv_at hl 3 rfl) ?_
    refine lv_iload_n hx hb dX7_veers_69 rfl (lv_at hl 0 rfl) ?_
    refine lv_iconst (v := (nI 2)) hx hb dX7_veers_70 (by decide) ?_
    refine lv_iadd hx hb dX7_veers_71 ?_
    obtain ⟨k7, hw⟩ := hw
    refine lv_irem hx hb dX7_veers_72 k7 ?_
    refine lv_if_ne (tgt := 80) hx hb dX7_veers_73 (by decide) (fun c8 => ?_) (fun c8 => ?_)
    · have hw := ite_f hw c8
      refine lv_iconst (v := (nI 0)) hx hb dX7_veers_80 (by decide) ?_
      exact hv_iret hx hb hr hlk hH hw dX7_veers_81
    · have hw := ite_t hw c8
      refine lv_iconst (v := (nI 3)) hx hb dX7_veers_76 (by decide) ?_
      refine lv_goto (tgt := 81) hx hb dX7_veers_77 (by decide) ?_
      exact hv_iret hx hb hr hlk hH hw dX7_veers_81
  have hw := ite_f hw c6
  by_cases c9 : (h (S.2 v0 4) (ix v1)) = (nI 4)
  · have hw := ite_t hw c9
    refine lv_tableIn (tgt := 82) hx hb dX7_veers_13 (by rw [c9]; decide) (by rw [c9]; decide) (by rw [c9]; rfl) (by decide) ?_
    refine lv_aload_n hx hb dX7_veers_82 rfl (lv_at hl 1 rfl) ?_
    refine lv_iload_n hx hb dX7_veers_83 rfl (lv_at hl 2 rfl) ?_
    refine lv_iload_n hx hb dX7_veers_84 rfl (lv_at hl 3 rfl) ?_
    refine hv_cVI (rm := rm_X7_veersAsSaint) (As := [.int v1, .int v2]) (rest := []) (k := 2) (ci := 7) hx hb hml hown hKK hH cf7 k1 (m_X7_veersAsSaint v0 v1 v2 _ _ hw) cw_X7_93 ⟨Nat.le_of_ble_eq_true rfl, Nat.le_of_ble_eq_true rfl⟩ rfl hl.1 rfl (Nat.le_of_ble_eq_true rfl) ⟨Nat.le_of_ble_eq_true rfl, Nat.le_of_ble_eq_true rfl⟩ dX7_veers_85 (fun r11 h10 H locs hH hw => ?_)
    exact hv_iret hx hb hr hlk hH hw dX7_veers_88
  have hw := ite_f hw c9
  by_cases c12 : (h (S.2 v0 4) (ix v1)) = (nI 5)
  · have hw := ite_t hw c12
    refine lv_tableIn (tgt := 89) hx hb dX7_veers_13 (by rw [c12]; decide) (by rw [c12]; decide) (by rw [c12]; rfl) (by decide) ?_
    refine lv_iload_n hx hb dX7_veers_89 rfl (lv_at hl 3 rfl) ?_
    refine lv_iload_n hx hb dX7_veers_90 rfl (lv_at hl 0 rfl) ?_
    refine lv_iconst (v := (nI 2)) hx hb dX7_veers_91 (by decide) ?_
    refine lv_iadd hx hb dX7_veers_92 ?_
    obtain ⟨k13, hw⟩ := hw
    refine lv_irem hx hb dX7_veers_93 k13 ?_
    refine lv_if_ne (tgt := 101) hx hb dX7_veers_94 (by decide) (fun c14 => ?_) (fun c14 => ?_)
    · have hw := ite_f hw c14
      refine lv_iconst (v := (nI 1)) hx hb dX7_veers_101 (by decide) ?_
      exact hv_iret hx hb hr hlk hH hw dX7_veers_102
    · have hw := ite_t hw c14
      refine lv_iconst (v := (nI 4)) hx hb dX7_veers_97 (by decide) ?_
      refine lv_goto (tgt := 102) hx hb dX7_veers_98 (by decide) ?_
      exact hv_iret hx hb hr hlk hH hw dX7_veers_102
  have hw := ite_f hw c12
  by_cases c15 : (h (S.2 v0 4) (ix v1)) = (nI 6)
  · have hw := ite_t hw c15
    refine lv_tableIn (tgt := 103) hx hb dX7_veers_13 (by rw [c15]; decide) (by rw [c15]; decide) (by rw [c15]; rfl) (by decide) ?_
    refine lv_iload_n hx hb dX7_veers_103 rfl (lv_at hl 3 rfl) ?_
    refine lv_iconst (v := (nI 2)) hx hb dX7_veers_104 (by decide) ?_
    refine lv_irem hx hb dX7_veers_105 (by decide) ?_
    exact hv_iret hx hb hr hlk hH hw dX7_veers_106
  have hw := ite_f hw c15
  by_cases c16 : (h (S.2 v0 4) (ix v1)) = (nI 7)
  · have hw := ite_t hw c16
    refine lv_tableIn (tgt := 107) hx hb dX7_veers_13 (by rw [c16]; decide) (by rw [c16]; decide) (by rw [c16]; rfl) (by decide) ?_
    refine lv_aload_n hx hb dX7_veers_107 rfl (lv_at hl 1 rfl) ?_
    refine hv_get (ci := 7) (k := 12) (v := .ref (S.2 v0 12)) hx hb hown hKK hH cf7 (by decide) fl_X7_46 rfl k1 rfl dX7_veers_108 ?_
    refine lv_bipush (v := (nI 6)) hx hb dX7_veers_111 (by decide) ?_
    refine lv_iload_n hx hb dX7_veers_113 rfl (lv_at hl 2 rfl) ?_
    refine lv_imul hx hb dX7_veers_114 ?_
    obtain ⟨k17, hw⟩ := hw
    refine hv_iald hx hb hKK hH k17 dX7_veers_115 ?_
    refine hv_cSI (rm := rm_X7_isVowel) (As := [.int (h (S.2 v0 12) (ix ((nI 6) * v1)))]) (rest := []) (k := 1) hx hb hml hown hKK hH (m_X7_isVowel (h (S.2 v0 12) (ix ((nI 6) * v1))) _ _ hw) cw_X7_97 ⟨Nat.le_of_ble_eq_true rfl, Nat.le_of_ble_eq_true rfl⟩ rfl hl.1 rfl (Nat.le_of_ble_eq_true rfl) ⟨Nat.le_of_ble_eq_true rfl, Nat.le_of_ble_eq_true rfl⟩ dX7_veers_116 (fun r19 h18 H locs hH hw => ?_)
    refine lv_if_eq (tgt := 126) hx hb dX7_veers_119 (by decide) (fun c20 => ?_) (fun c20 => ?_)
    · have hw := ite_t hw c20
      refine lv_aload_n hx hb dX7_veers_126 rfl (lv_at hl 1 rfl) ?_
      refine lv_iload_n hx hb dX7_veers_127 rfl (lv_at hl 2 rfl) ?_
      refine lv_iload_n hx hb dX7_veers_128 rfl (lv_at hl 3 rfl) ?_
      refine hv_cVI (rm := rm_X7_veersAsSaint) (As := [.int v1, .int v2]) (rest := []) (k := 2) (ci := 7) hx hb hml hown hKK hH cf7 k1 (m_X7_veersAsSaint v0 v1 v2 _ _ hw) cw_X7_93 ⟨Nat.le_of_ble_eq_true rfl, Nat.le_of_ble_eq_true rfl⟩ rfl hl.1 rfl (Nat.le_of_ble_eq_true rfl) ⟨Nat.le_of_ble_eq_true rfl, Nat.le_of_ble_eq_true rfl⟩ dX7_veers_129 (fun r22 h21 H locs hH hw => ?_)
      exact hv_iret hx hb hr hlk hH hw dX7_veers_132
    · have hw := ite_f hw c20
      refine lv_iconst (v := (nI 3)) hx hb dX7_veers_122 (by decide) ?_
      refine lv_goto (tgt := 132) hx hb dX7_veers_123 (by decide) ?_
      exact hv_iret hx hb hr hlk hH hw dX7_veers_132
  have hw := ite_f hw c16
  have wd : W p l e rm_X7_veers s m args below meth c H locs 0 0 (QI G B S sz below args s Q) (F0 m 133 ls []) := by
    refine lv_iconst (v := (nI 0)) hx hb dX7_veers_133 (by decide) ?_
    exact hv_iret hx hb hr hlk hH hw dX7_veers_134
  by_cases c23 : (h (S.2 v0 4) (ix v1)) = (nI 2)
  · exact lv_tableIn (tgt := 133) hx hb dX7_veers_13 (by rw [c23]; decide) (by rw [c23]; decide) (by rw [c23]; rfl) (by decide) wd
  refine lv_tableOut (tgt := 133) hx hb dX7_veers_13 (by have := ne_toInt (k := 1) (by decide) c4; have := ne_toInt (k := 3) (by decide) c6; have := ne_toInt (k := 4) (by decide) c9; have := ne_toInt (k := 5) (by decide) c12; have := ne_toInt (k := 6) (by decide) c15; have := ne_toInt (k := 7) (by decide) c16; have := ne_toInt (k := 2) (by decide) c23; omega) (by decide) wd
abbrev rm_X7_enough : Room := { frames := 0, cells := 0, slots := 0, locals := 0 }
set_option maxHeartbeats 4000000 in
set_option maxRecDepth 100000 in
theorem m_X7_enough {l : Launch} {G : Gl} {B sz : Nat} {S : St} (v0 : Nat) (v1 : Int32) (h : Hp) (Q : Int32 → Hp → Prop) (hw : w_X7_enough S v0 v1 h Q) : MI l G B sz S yX7_enough cX7_enough 3 .int rm_X7_enough [.ref v0, .int v1] h Q := by
  refine met_of rfl rfl ?_
  intro p e s m args below meth c hMB H ls hH hl
  obtain ⟨hx, hb, hml, hown, hKK, hr, hlk⟩ := hMB
  replace hl : lv_has ls 3 [(0, .ref v0), (1, .int v1)] := hl
  unfold w_X7_enough at hw
  show W p l e rm_X7_enough s m args below meth c H [] 0 0 (QI G B S sz below args s Q) (F0 m 0 ls [])
  generalize ([] : List Loc) = locs at hH ⊢
  refine lv_aload_n hx hb dX7_enough_0 rfl (lv_at hl 0 rfl) ?_
  obtain ⟨k1, hw⟩ := hw
  refine hv_get (ci := 7) (k := 5) (v := .ref (S.2 v0 5)) hx hb hown hKK hH cf7 (by decide) fl_X7_25 rfl k1 rfl dX7_enough_1 ?_
  refine lv_iload_n hx hb dX7_enough_4 rfl (lv_at hl 1 rfl) ?_
  obtain ⟨k2, hw⟩ := hw
  refine hv_iald hx hb hKK hH k2 dX7_enough_5 ?_
  refine lv_istore_n (lv' := [(2, .int (h (S.2 v0 5) (ix v1))), (0, .ref v0), (1, .int v1)]) hx hb dX7_enough_6 rfl hl (by decide) rfl (fun ls hl => ?_)
  refine lv_aload_n hx hb dX7_enough_7 rfl (lv_at hl 1 rfl) ?_
  refine hv_get (ci := 7) (k := 4) (v := .ref (S.2 v0 4)) hx hb hown hKK hH cf7 (by decide) fl_X7_22 rfl k1 rfl dX7_enough_8 ?_
  refine lv_iload_n hx hb dX7_enough_11 rfl (lv_at hl 2 rfl) ?_
  obtain ⟨k3, hw⟩ := hw
  refine hv_iald hx hb hKK hH k3 dX7_enough_12 ?_
  by_cases c4 : (h (S.2 v0 4) (ix v1)) = (nI 1)
  · have hw := ite_t hw c4
    refine lv_tableIn (tgt := 56) hx hb dX7_enough_13 (by rw [c4]; decide) (by rw [c4]; decide) (by rw [c4]; rfl) (by decide) ?_
    refine lv_bipush (v := (nI 40)) hx hb dX7_enough_56 (by decide) ?_
    exact hv_iret hx hb hr hlk hH hw dX7_enough_58
  have hw := ite_f hw c4
  by_cases c5 : (h (S.2 v0 4) (ix v1)) = (nI 2)
  · have hw := ite_t hw c5
    refine lv_tableIn (tgt := 59) hx hb dX7_enough_13 (by rw [c5]; decide) (by rw [c5]; decide) (by rw [c5]; rfl) (by decide) ?_
    refine lv_bipush (v := (nI 99)) hx hb dX7_enough_59 (by decide) ?_
    exact hv_iret hx hb hr hlk hH hw dX7_enough_61
  have hw := ite_f hw c5
  by_cases c6 : (h (S.2 v0 4) (ix v1)) = (nI 3)
  · have hw := ite_t hw c6
    refine lv_tableIn (tgt := 62) hx hb dX7_enough_13 (by rw [c6]; decide) (by rw [c6]; decide) (by rw [c6]; rfl) (by decide) ?_
    refine lv_iload_n hx hb dX7_enough_62 rfl (lv_at hl 0 rfl) ?_
    refine lv_iconst (v := (nI 5)) hx hb dX7_enough_63 (by decide) ?_
    refine lv_iadd hx hb dX7_enough_64 ?_
    exact hv_iret hx hb hr hlk hH hw dX7_enough_65
  have hw := ite_f hw c6
  by_cases c7 : (h (S.2 v0 4) (ix v1)) = (nI 4)
  · have hw := ite_t hw c7
    refine lv_tableIn (tgt := 66) hx hb dX7_enough_13 (by rw [c7]; decide) (by rw [c7]; decide) (by rw [c7]; rfl) (by decide) ?_
    refine lv_bipush (v := (nI 35)) hx hb dX7_enough_66 (by decide) ?_
    exact hv_iret hx hb hr hlk hH hw dX7_enough_68
  have hw := ite_f hw c7
  by_cases c8 : (h (S.2 v0 4) (ix v1)) = (nI 5)
  · have hw := ite_t hw c8
    refine lv_tableIn (tgt := 62) hx hb dX7_enough_13 (by rw [c8]; decide) (by rw [c8]; decide) (by rw [c8]; rfl) (by decide) ?_
    refine lv_iload_n hx hb dX7_enough_62 rfl (lv_at hl 0 rfl) ?_
    refine lv_iconst (v := (nI 5)) hx hb dX7_enough_63 (by decide) ?_
    refine lv_iadd hx hb dX7_enough_64 ?_
    exact hv_iret hx hb hr hlk hH hw dX7_enough_65
  have hw := ite_f hw c8
  by_cases c9 : (h (S.2 v0 4) (ix v1)) = (nI 6)
  · have hw := ite_t hw c9
    refine lv_tableIn (tgt := 69) hx hb dX7_enough_13 (by rw [c9]; decide) (by rw [c9]; decide) (by rw [c9]; rfl) (by decide) ?_
    refine lv_bipush (v := (nI 49)) hx hb dX7_enough_69 (by decide) ?_
    exact hv_iret hx hb hr hlk hH hw dX7_enough_71
  have hw := ite_f hw c9
  by_cases c10 : (h (S.2 v0 4) (ix v1)) = (nI 7)
  · have hw := ite_t hw c10
    refine lv_tableIn (tgt := 72) hx hb dX7_enough_13 (by rw [c10]; decide) (by rw [c10]; decide) (by rw [c10]; rfl) (by decide) ?_
    refine lv_bipush (v := (nI 35)) hx hb dX7_enough_72 (by decide) ?_
    refine lv_iload_n hx hb dX7_enough_74 rfl (lv_at hl 0 rfl) ?_
    refine lv_iconst (v := (nI 2)) hx hb dX7_enough_75 (by decide) ?_
    refine lv_idiv hx hb dX7_enough_76 (by decide) ?_
    refine lv_isub hx hb dX7_enough_77 ?_
    exact hv_iret hx hb hr hlk hH hw dX7_enough_78
  have hw := ite_f hw c10
  refine lv_tableOut (tgt := 79) hx hb dX7_enough_13 (by have := ne_toInt (k := 1) (by decide) c4; have := ne_toInt (k := 2) (by decide) c5; have := ne_toInt (k := 3) (by decide) c6; have := ne_toInt (k := 4) (by decide) c7; have := ne_toInt (k := 5) (by decide) c8; have := ne_toInt (k := 6) (by decide) c9; have := ne_toInt (k := 7) (by decide) c10; omega) (by decide) ?_
  refine lv_bipush (v := (nI 20)) hx hb dX7_enough_79 (by decide) ?_
  exact hv_iret hx hb hr hlk hH hw dX7_enough_81
abbrev rm_X7_beside : Room := { frames := 0, cells := 0, slots := 0, locals := 0 }
set_option maxHeartbeats 4000000 in
set_option maxRecDepth 100000 in
theorem m_X7_beside {l : Launch} {G : Gl} {B sz : Nat} {S : St} (v0 : Int32) (v1 : Int32) (h : Hp) (Q : Int32 → Hp → Prop) (hw : w_X7_beside S v0 v1 h Q) : MI l G B sz S yX7_beside cX7_beside 2 .int rm_X7_beside [.int v0, .int v1] h Q := by
  refine met_of rfl rfl ?_
  intro p e s m args below meth c hMB H ls hH hl
  obtain ⟨hx, hb, hml, hown, hKK, hr, hlk⟩ := hMB
  replace hl : lv_has ls 2 [(0, .int v0), (1, .int v1)] := hl
  unfold w_X7_beside at hw
  show W p l e rm_X7_beside s m args below meth c H [] 0 0 (QI G B S sz below args s Q) (F0 m 0 ls [])
  generalize ([] : List Loc) = locs at hH ⊢
  refine lv_iload_n hx hb dX7_beside_0 rfl (lv_at hl 1 rfl) ?_
  by_cases c1 : v1 = (nI 0)
  · have hw := ite_t hw c1
    refine lv_tableIn (tgt := 28) hx hb dX7_beside_1 (by rw [c1]; decide) (by rw [c1]; decide) (by rw [c1]; rfl) (by decide) ?_
    refine lv_iload_n hx hb dX7_beside_28 rfl (lv_at hl 0 rfl) ?_
    refine lv_bipush (v := (nI 8)) hx hb dX7_beside_29 (by decide) ?_
    refine lv_icmp_ge (tgt := 39) hx hb dX7_beside_31 (by decide) (fun c2 => ?_) (fun c2 => ?_)
    · have hw := ite_t hw c2
      refine lv_iload_n hx hb dX7_beside_39 rfl (lv_at hl 0 rfl) ?_
      refine lv_bipush (v := (nI 8)) hx hb dX7_beside_40 (by decide) ?_
      refine lv_isub hx hb dX7_beside_42 ?_
      exact hv_iret hx hb hr hlk hH hw dX7_beside_43
    · have hw := ite_f hw c2
      refine lv_bipush (v := (-9)) hx hb dX7_beside_34 (by decide) ?_
      refine lv_goto (tgt := 43) hx hb dX7_beside_36 (by decide) ?_
      exact hv_iret hx hb hr hlk hH hw dX7_beside_43
  have hw := ite_f hw c1
  by_cases c3 : v1 = (nI 1)
  · have hw := ite_t hw c3
    refine lv_tableIn (tgt := 44) hx hb dX7_beside_1 (by rw [c3]; decide) (by rw [c3]; decide) (by rw [c3]; rfl) (by decide) ?_
    refine lv_iload_n hx hb dX7_beside_44 rfl (lv_at hl 0 rfl) ?_
    refine lv_bipush (v := (nI 8)) hx hb dX7_beside_45 (by decide) ?_
    refine lv_irem hx hb dX7_beside_47 (by decide) ?_
    refine lv_bipush (v := (nI 7)) hx hb dX7_beside_48 (by decide) ?_
    refine lv_icmp_ne (tgt := 58) hx hb dX7_beside_50 (by decide) (fun c4 => ?_) (fun c4 => ?_)
    · have hw := ite_f hw c4
      refine lv_iload_n hx hb dX7_beside_58 rfl (lv_at hl 0 rfl) ?_
      refine lv_iconst (v := (nI 1)) hx hb dX7_beside_59 (by decide) ?_
      refine lv_iadd hx hb dX7_beside_60 ?_
      exact hv_iret hx hb hr hlk hH hw dX7_beside_61
    · have hw := ite_t hw c4
      refine lv_bipush (v := (-9)) hx hb dX7_beside_53 (by decide) ?_
      refine lv_goto (tgt := 61) hx hb dX7_beside_55 (by decide) ?_
      exact hv_iret hx hb hr hlk hH hw dX7_beside_61
  have hw := ite_f hw c3
  by_cases c5 : v1 = (nI 2)
  · have hw := ite_t hw c5
    refine lv_tableIn (tgt := 62) hx hb dX7_beside_1 (by rw [c5]; decide) (by rw [c5]; decide) (by rw [c5]; rfl) (by decide) ?_
    refine lv_iload_n hx hb dX7_beside_62 rfl (lv_at hl 0 rfl) ?_
    refine lv_bipush (v := (nI 40)) hx hb dX7_beside_63 (by decide) ?_
    refine lv_icmp_lt (tgt := 73) hx hb dX7_beside_65 (by decide) (fun c6 => ?_) (fun c6 => ?_)
    · have hw := ite_t hw c6
      refine lv_iload_n hx hb dX7_beside_73 rfl (lv_at hl 0 rfl) ?_
      refine lv_bipush (v := (nI 8)) hx hb dX7_beside_74 (by decide) ?_
      refine lv_iadd hx hb dX7_beside_76 ?_
      exact hv_iret hx hb hr hlk hH hw dX7_beside_77
    · have hw := ite_f hw c6
      refine lv_bipush (v := (-9)) hx hb dX7_beside_68 (by decide) ?_
      refine lv_goto (tgt := 77) hx hb dX7_beside_70 (by decide) ?_
      exact hv_iret hx hb hr hlk hH hw dX7_beside_77
  have hw := ite_f hw c5
  refine lv_tableOut (tgt := 78) hx hb dX7_beside_1 (by have := ne_toInt (k := 0) (by decide) c1; have := ne_toInt (k := 1) (by decide) c3; have := ne_toInt (k := 2) (by decide) c5; omega) (by decide) ?_
  refine lv_iload_n hx hb dX7_beside_78 rfl (lv_at hl 0 rfl) ?_
  refine lv_bipush (v := (nI 8)) hx hb dX7_beside_79 (by decide) ?_
  refine lv_irem hx hb dX7_beside_81 (by decide) ?_
  refine lv_if_ne (tgt := 90) hx hb dX7_beside_82 (by decide) (fun c7 => ?_) (fun c7 => ?_)
  · have hw := ite_f hw c7
    refine lv_iload_n hx hb dX7_beside_90 rfl (lv_at hl 0 rfl) ?_
    refine lv_iconst (v := (nI 1)) hx hb dX7_beside_91 (by decide) ?_
    refine lv_isub hx hb dX7_beside_92 ?_
    exact hv_iret hx hb hr hlk hH hw dX7_beside_93
  · have hw := ite_t hw c7
    refine lv_bipush (v := (-9)) hx hb dX7_beside_85 (by decide) ?_
    refine lv_goto (tgt := 93) hx hb dX7_beside_87 (by decide) ?_
    exact hv_iret hx hb hr hlk hH hw dX7_beside_93
abbrev rm_X7_quarters : Room := { frames := 0, cells := 0, slots := 0, locals := 0 }
set_option maxHeartbeats 4000000 in
set_option maxRecDepth 100000 in
theorem m_X7_quarters {l : Launch} {G : Gl} {B sz : Nat} {S : St} (v0 : Int32) (h : Hp) (Q : Int32 → Hp → Prop) (hw : w_X7_quarters S v0 h Q) : MI l G B sz S yX7_quarters cX7_quarters 1 .int rm_X7_quarters [.int v0] h Q := by
  refine met_of rfl rfl ?_
  intro p e s m args below meth c hMB H ls hH hl
  obtain ⟨hx, hb, hml, hown, hKK, hr, hlk⟩ := hMB
  replace hl : lv_has ls 1 [(0, .int v0)] := hl
  unfold w_X7_quarters at hw
  show W p l e rm_X7_quarters s m args below meth c H [] 0 0 (QI G B S sz below args s Q) (F0 m 0 ls [])
  generalize ([] : List Loc) = locs at hH ⊢
  refine lv_iload_n hx hb dX7_quarters_0 rfl (lv_at hl 0 rfl) ?_
  refine lv_iconst (v := (nI 1)) hx hb dX7_quarters_1 (by decide) ?_
  refine lv_icmp_ne (tgt := 9) hx hb dX7_quarters_2 (by decide) (fun c1 => ?_) (fun c1 => ?_)
  · have hw := ite_f hw c1
    refine lv_iload_n hx hb dX7_quarters_9 rfl (lv_at hl 0 rfl) ?_
    refine lv_if_ne (tgt := 17) hx hb dX7_quarters_10 (by decide) (fun c2 => ?_) (fun c2 => ?_)
    · have hw := ite_f hw c2
      refine lv_iload_n hx hb dX7_quarters_17 rfl (lv_at hl 0 rfl) ?_
      refine lv_iconst (v := (nI 1)) hx hb dX7_quarters_18 (by decide) ?_
      refine lv_isub hx hb dX7_quarters_19 ?_
      exact hv_iret hx hb hr hlk hH hw dX7_quarters_20
    · have hw := ite_t hw c2
      refine lv_iconst (v := (nI 0)) hx hb dX7_quarters_13 (by decide) ?_
      refine lv_goto (tgt := 20) hx hb dX7_quarters_14 (by decide) ?_
      exact hv_iret hx hb hr hlk hH hw dX7_quarters_20
  · have hw := ite_t hw c1
    refine lv_iconst (v := (nI 3)) hx hb dX7_quarters_5 (by decide) ?_
    refine lv_goto (tgt := 20) hx hb dX7_quarters_6 (by decide) ?_
    exact hv_iret hx hb hr hlk hH hw dX7_quarters_20
abbrev rm_X7_turnsBack : Room := { frames := 0, cells := 0, slots := 0, locals := 0 }
set_option maxHeartbeats 4000000 in
set_option maxRecDepth 100000 in
theorem m_X7_turnsBack {l : Launch} {G : Gl} {B sz : Nat} {S : St} (v0 : Nat) (v1 : Int32) (h : Hp) (Q : Hp → Prop) (hw : w_X7_turnsBack S v0 v1 h Q) : MV l G B sz S yX7_turnsBack cX7_turnsBack 2 rm_X7_turnsBack [.ref v0, .int v1] h Q := by
  refine met_of rfl rfl ?_
  intro p e s m args below meth c hMB H ls hH hl
  obtain ⟨hx, hb, hml, hown, hKK, hr, hlk⟩ := hMB
  replace hl : lv_has ls 2 [(0, .ref v0), (1, .int v1)] := hl
  unfold w_X7_turnsBack at hw
  show W p l e rm_X7_turnsBack s m args below meth c H [] 0 0 (QV G B S sz below args s Q) (F0 m 0 ls [])
  generalize ([] : List Loc) = locs at hH ⊢
  refine lv_aload_n hx hb dX7_turnsBack_0 rfl (lv_at hl 0 rfl) ?_
  obtain ⟨k1, hw⟩ := hw
  refine hv_get (ci := 7) (k := 7) (v := .ref (S.2 v0 7)) hx hb hown hKK hH cf7 (by decide) fl_X7_31 rfl k1 rfl dX7_turnsBack_1 ?_
  refine lv_iload_n hx hb dX7_turnsBack_4 rfl (lv_at hl 1 rfl) ?_
  refine lv_aload_n hx hb dX7_turnsBack_5 rfl (lv_at hl 0 rfl) ?_
  refine hv_get (ci := 7) (k := 7) (v := .ref (S.2 v0 7)) hx hb hown hKK hH cf7 (by decide) fl_X7_31 rfl k1 rfl dX7_turnsBack_6 ?_
  refine lv_iload_n hx hb dX7_turnsBack_9 rfl (lv_at hl 1 rfl) ?_
  obtain ⟨k2, hw⟩ := hw
  refine hv_iald hx hb hKK hH k2 dX7_turnsBack_10 ?_
  refine lv_iconst (v := (nI 2)) hx hb dX7_turnsBack_11 (by decide) ?_
  refine lv_iadd hx hb dX7_turnsBack_12 ?_
  refine lv_iconst (v := (nI 4)) hx hb dX7_turnsBack_13 (by decide) ?_
  refine lv_irem hx hb dX7_turnsBack_14 (by decide) ?_
  refine hv_iast hx hb hKK hH k2 dX7_turnsBack_15 (fun H locs hH => ?_)
  exact hv_vret hx hb hr hlk hH hw dX7_turnsBack_16
abbrev rm_X7_takesStep : Room := { frames := 1, cells := 0, slots := 0, locals := 22 }
set_option maxHeartbeats 4000000 in
set_option maxRecDepth 100000 in
theorem m_X7_takesStep {l : Launch} {G : Gl} {B sz : Nat} {S : St} (v0 : Nat) (v1 : Int32) (h : Hp) (Q : Int32 → Hp → Prop) (hw : w_X7_takesStep S v0 v1 h Q) : MI l G B sz S yX7_takesStep cX7_takesStep 3 .boolean rm_X7_takesStep [.ref v0, .int v1] h Q := by
  refine met_of rfl rfl ?_
  intro p e s m args below meth c hMB H ls hH hl
  obtain ⟨hx, hb, hml, hown, hKK, hr, hlk⟩ := hMB
  replace hl : lv_has ls 3 [(0, .ref v0), (1, .int v1)] := hl
  unfold w_X7_takesStep at hw
  show W p l e rm_X7_takesStep s m args below meth c H [] 0 0 (QI G B S sz below args s Q) (F0 m 0 ls [])
  generalize ([] : List Loc) = locs at hH ⊢
  refine lv_aload_n hx hb dX7_takesStep_0 rfl (lv_at hl 0 rfl) ?_
  obtain ⟨k1, hw⟩ := hw
  refine hv_get (ci := 7) (k := 6) (v := .ref (S.2 v0 6)) hx hb hown hKK hH cf7 (by decide) fl_X7_28 rfl k1 rfl dX7_takesStep_1 ?_
  refine lv_iload_n hx hb dX7_takesStep_4 rfl (lv_at hl 1 rfl) ?_
  obtain ⟨k2, hw⟩ := hw
  refine hv_iald hx hb hKK hH k2 dX7_takesStep_5 ?_
  refine lv_aload_n hx hb dX7_takesStep_6 rfl (lv_at hl 0 rfl) ?_
  refine hv_get (ci := 7) (k := 7) (v := .ref (S.2 v0 7)) hx hb hown hKK hH cf7 (by decide) fl_X7_31 rfl k1 rfl dX7_takesStep_7 ?_
  refine lv_iload_n hx hb dX7_takesStep_10 rfl (lv_at hl 1 rfl) ?_
  obtain ⟨k3, hw⟩ := hw
  refine hv_iald hx hb hKK hH k3 dX7_takesStep_11 ?_
  refine hv_cSI (rm := rm_X7_beside) (As := [.int (h (S.2 v0 6) (ix v1)), .int (h (S.2 v0 7) (ix v1))]) (rest := []) (k := 2) hx hb hml hown hKK hH (m_X7_beside (h (S.2 v0 6) (ix v1)) (h (S.2 v0 7) (ix v1)) _ _ hw) cw_X7_100 ⟨Nat.le_of_ble_eq_true rfl, Nat.le_of_ble_eq_true rfl⟩ rfl hl.1 rfl (Nat.le_of_ble_eq_true rfl) ⟨Nat.le_of_ble_eq_true rfl, Nat.le_of_ble_eq_true rfl⟩ dX7_takesStep_12 (fun r5 h4 H locs hH hw => ?_)
  refine lv_istore_n (lv' := [(2, .int r5), (0, .ref v0), (1, .int v1)]) hx hb dX7_takesStep_15 rfl hl (by decide) rfl (fun ls hl => ?_)
  refine lv_iload_n hx hb dX7_takesStep_16 rfl (lv_at hl 0 rfl) ?_
  refine lv_if_ge (tgt := 27) hx hb dX7_takesStep_17 (by decide) (fun c6 => ?_) (fun c6 => ?_)
  · have hw := ite_t hw c6
    refine lv_aload_n hx hb dX7_takesStep_27 rfl (lv_at hl 1 rfl) ?_
    refine hv_get (ci := 7) (k := 1) (v := .ref (S.2 v0 1)) hx hb hown hKK hH cf7 (by decide) fl_X7_13 rfl k1 rfl dX7_takesStep_28 ?_
    refine lv_iload_n hx hb dX7_takesStep_31 rfl (lv_at hl 0 rfl) ?_
    obtain ⟨k7, hw⟩ := hw
    refine hv_iald hx hb hKK hH k7 dX7_takesStep_32 ?_
    refine lv_if_le (tgt := 74) hx hb dX7_takesStep_33 (by decide) (fun c8 => ?_) (fun c8 => ?_)
    · have hw := ite_t hw c8
      refine lv_aload_n hx hb dX7_takesStep_74 rfl (lv_at hl 1 rfl) ?_
      refine hv_get (ci := 7) (k := 6) (v := .ref (S.2 v0 6)) hx hb hown hKK hH cf7 (by decide) fl_X7_28 rfl k1 rfl dX7_takesStep_75 ?_
      refine lv_iload_n hx hb dX7_takesStep_78 rfl (lv_at hl 2 rfl) ?_
      refine lv_iload_n hx hb dX7_takesStep_79 rfl (lv_at hl 0 rfl) ?_
      refine hv_iast hx hb hKK hH k2 dX7_takesStep_80 (fun H locs hH => ?_)
      refine lv_iconst (v := (nI 1)) hx hb dX7_takesStep_81 (by decide) ?_
      exact hv_zret hx hb hr hlk hH (Or.inr rfl) hw dX7_takesStep_82
    · have hw := ite_f hw c8
      refine lv_aload_n hx hb dX7_takesStep_36 rfl (lv_at hl 1 rfl) ?_
      refine hv_get (ci := 7) (k := 1) (v := .ref (S.2 v0 1)) hx hb hown hKK hH cf7 (by decide) fl_X7_13 rfl k1 rfl dX7_takesStep_37 ?_
      refine lv_iload_n hx hb dX7_takesStep_40 rfl (lv_at hl 0 rfl) ?_
      refine lv_aload_n hx hb dX7_takesStep_41 rfl (lv_at hl 1 rfl) ?_
      refine hv_get (ci := 7) (k := 1) (v := .ref (S.2 v0 1)) hx hb hown hKK hH cf7 (by decide) fl_X7_13 rfl k1 rfl dX7_takesStep_42 ?_
      refine lv_iload_n hx hb dX7_takesStep_45 rfl (lv_at hl 0 rfl) ?_
      refine hv_iald hx hb hKK hH k7 dX7_takesStep_46 ?_
      refine lv_aload_n hx hb dX7_takesStep_47 rfl (lv_at hl 1 rfl) ?_
      refine lv_iload_n hx hb dX7_takesStep_48 rfl (lv_at hl 2 rfl) ?_
      refine hv_cVI (rm := rm_X7_weight) (As := [.int v1]) (rest := [.int (h4 (S.2 v0 1) (ix r5)), .int r5, .ref (S.2 v0 1)]) (k := 1) (ci := 7) hx hb hml hown hKK hH cf7 k1 (m_X7_weight v0 v1 _ _ hw) cw_X7_107 ⟨Nat.le_of_ble_eq_true rfl, Nat.le_of_ble_eq_true rfl⟩ rfl hl.1 rfl (Nat.le_of_ble_eq_true rfl) ⟨Nat.le_of_ble_eq_true rfl, Nat.le_of_ble_eq_true rfl⟩ dX7_takesStep_49 (fun r10 h9 H locs hH hw => ?_)
      refine lv_icmp_le (tgt := 70) hx hb dX7_takesStep_52 (by decide) (fun c11 => ?_) (fun c11 => ?_)
      · have hw := ite_t hw c11
        refine lv_iconst (v := (nI 0)) hx hb dX7_takesStep_70 (by decide) ?_
        refine hv_iast hx hb hKK hH k7 dX7_takesStep_71 (fun H locs hH => ?_)
        refine lv_iconst (v := (nI 0)) hx hb dX7_takesStep_72 (by decide) ?_
        exact hv_zret hx hb hr hlk hH (Or.inl rfl) hw dX7_takesStep_73
      · have hw := ite_f hw c11
        refine lv_aload_n hx hb dX7_takesStep_55 rfl (lv_at hl 1 rfl) ?_
        refine hv_get (ci := 7) (k := 1) (v := .ref (S.2 v0 1)) hx hb hown hKK hH cf7 (by decide) fl_X7_13 rfl k1 rfl dX7_takesStep_56 ?_
        refine lv_iload_n hx hb dX7_takesStep_59 rfl (lv_at hl 0 rfl) ?_
        refine hv_iald hx hb hKK hH k7 dX7_takesStep_60 ?_
        refine lv_aload_n hx hb dX7_takesStep_61 rfl (lv_at hl 1 rfl) ?_
        refine lv_iload_n hx hb dX7_takesStep_62 rfl (lv_at hl 2 rfl) ?_
        refine hv_cVI (rm := rm_X7_weight) (As := [.int v1]) (rest := [.int (h9 (S.2 v0 1) (ix r5)), .int r5, .ref (S.2 v0 1)]) (k := 1) (ci := 7) hx hb hml hown hKK hH cf7 k1 (m_X7_weight v0 v1 _ _ hw) cw_X7_107 ⟨Nat.le_of_ble_eq_true rfl, Nat.le_of_ble_eq_true rfl⟩ rfl hl.1 rfl (Nat.le_of_ble_eq_true rfl) ⟨Nat.le_of_ble_eq_true rfl, Nat.le_of_ble_eq_true rfl⟩ dX7_takesStep_63 (fun r13 h12 H locs hH hw => ?_)
        refine lv_isub hx hb dX7_takesStep_66 ?_
        refine lv_goto (tgt := 71) hx hb dX7_takesStep_67 (by decide) ?_
        refine hv_iast hx hb hKK hH k7 dX7_takesStep_71 (fun H locs hH => ?_)
        refine lv_iconst (v := (nI 0)) hx hb dX7_takesStep_72 (by decide) ?_
        exact hv_zret hx hb hr hlk hH (Or.inl rfl) hw dX7_takesStep_73
  · have hw := ite_f hw c6
    refine lv_aload_n hx hb dX7_takesStep_20 rfl (lv_at hl 1 rfl) ?_
    refine lv_iload_n hx hb dX7_takesStep_21 rfl (lv_at hl 2 rfl) ?_
    refine hv_cVV (rm := rm_X7_turnsBack) (As := [.int v1]) (rest := []) (k := 1) (ci := 7) hx hb hml hown hKK hH cf7 k1 (m_X7_turnsBack v0 v1 _ _ hw) cw_X7_103 ⟨Nat.le_of_ble_eq_true rfl, Nat.le_of_ble_eq_true rfl⟩ rfl hl.1 rfl (Nat.le_of_ble_eq_true rfl) ⟨Nat.le_of_ble_eq_true rfl, Nat.le_of_ble_eq_true rfl⟩ dX7_takesStep_22 (fun h14 H locs hH hw => ?_)
    refine lv_iconst (v := (nI 0)) hx hb dX7_takesStep_25 (by decide) ?_
    exact hv_zret hx hb hr hlk hH (Or.inl rfl) hw dX7_takesStep_26
abbrev rm_X7_hasLetter : Room := { frames := 0, cells := 0, slots := 0, locals := 0 }
set_option maxHeartbeats 4000000 in
set_option maxRecDepth 100000 in
theorem m_X7_hasLetter {l : Launch} {G : Gl} {B sz : Nat} {S : St} (v0 : Nat) (v1 : Int32) (v2 : Int32) (h : Hp) (Q : Int32 → Hp → Prop) (hw : w_X7_hasLetter S v0 v1 v2 h Q) : MI l G B sz S yX7_hasLetter cX7_hasLetter 4 .boolean rm_X7_hasLetter [.ref v0, .int v1, .int v2] h Q := by
  refine met_of rfl rfl ?_
  intro p e s m args below meth c hMB H ls hH hl
  obtain ⟨hx, hb, hml, hown, hKK, hr, hlk⟩ := hMB
  replace hl : lv_has ls 4 [(0, .ref v0), (1, .int v1), (2, .int v2)] := hl
  have c2 : ∀  (v0 : Nat) (v1 : Int32) (v2 : Int32) (v3 : Int32) (h : Hp) (H : Heap) (locs : List Loc) (ls : Array Slot), HH G B S h sz s H locs → lv_has ls 4 [(0, .ref v0), (1, .int v1), (2, .int v2), (3, .int v3)] → w_X7_hasLetter_c2 S v0 v1 v2 v3 h Q → W p l e rm_X7_hasLetter s m args below meth c H locs 0 0 (QI G B S sz below args s Q) (F0 m 2 ls []) := by
    intro  v0 v1 v2 v3 h H locs ls hH hl hw
    unfold w_X7_hasLetter_c2 at hw
    obtain ⟨P2, hP2⟩ : ∃ P : Int32 → Hp → Prop, ∀ (v3 : Int32) (h : Hp), P v3 h ↔ (∀ (H : Heap) (locs : List Loc) (ls : Array Slot), HH G B S h sz s H locs → lv_has ls 4 [(0, .ref v0), (1, .int v1), (2, .int v2), (3, .int v3)] → W p l e rm_X7_hasLetter s m args below meth c H locs 0 0 (QI G B S sz below args s Q) (F0 m 2 ls [])) := ⟨_, fun v3 h => Iff.rfl⟩
    refine (hP2 v3 h).1 (hw P2 (fun v3 h hw => (hP2 v3 h).2 (fun H locs ls hH hl => ?_))) H locs ls hH hl
    have hK2 : ∀ (v3 : Int32) (h : Hp) (H : Heap) (locs : List Loc) (ls : Array Slot), HH G B S h sz s H locs → lv_has ls 4 [(0, .ref v0), (1, .int v1), (2, .int v2), (3, .int v3)] → P2 v3 h → W p l e rm_X7_hasLetter s m args below meth c H locs 0 0 (QI G B S sz below args s Q) (F0 m 2 ls []) := fun v3 h H locs ls hH hl hk => (hP2 v3 h).1 hk H locs ls hH hl
    refine lv_iload_n hx hb dX7_hasLetter_2 rfl (lv_at hl 3 rfl) ?_
    refine lv_aload_n hx hb dX7_hasLetter_3 rfl (lv_at hl 0 rfl) ?_
    obtain ⟨k1, hw⟩ := hw
    refine hv_get (ci := 7) (k := 11) (v := .ref (S.2 v0 11)) hx hb hown hKK hH cf7 (by decide) fl_X7_43 rfl k1 rfl dX7_hasLetter_4 ?_
    refine lv_iload_n hx hb dX7_hasLetter_7 rfl (lv_at hl 1 rfl) ?_
    obtain ⟨k2, hw⟩ := hw
    refine hv_iald hx hb hKK hH k2 dX7_hasLetter_8 ?_
    refine lv_icmp_ge (tgt := 35) hx hb dX7_hasLetter_9 (by decide) (fun c3 => ?_) (fun c3 => ?_)
    · have hw := ite_t hw c3
      refine lv_iconst (v := (nI 0)) hx hb dX7_hasLetter_35 (by decide) ?_
      exact hv_zret hx hb hr hlk hH (Or.inl rfl) hw dX7_hasLetter_36
    · have hw := ite_f hw c3
      refine lv_aload_n hx hb dX7_hasLetter_12 rfl (lv_at hl 0 rfl) ?_
      refine hv_get (ci := 7) (k := 12) (v := .ref (S.2 v0 12)) hx hb hown hKK hH cf7 (by decide) fl_X7_46 rfl k1 rfl dX7_hasLetter_13 ?_
      refine lv_bipush (v := (nI 6)) hx hb dX7_hasLetter_16 (by decide) ?_
      refine lv_iload_n hx hb dX7_hasLetter_18 rfl (lv_at hl 1 rfl) ?_
      refine lv_imul hx hb dX7_hasLetter_19 ?_
      refine lv_iload_n hx hb dX7_hasLetter_20 rfl (lv_at hl 3 rfl) ?_
      refine lv_iadd hx hb dX7_hasLetter_21 ?_
      obtain ⟨k4, hw⟩ := hw
      refine hv_iald hx hb hKK hH k4 dX7_hasLetter_22 ?_
      refine lv_iload_n hx hb dX7_hasLetter_23 rfl (lv_at hl 2 rfl) ?_
      refine lv_icmp_ne (tgt := 29) hx hb dX7_hasLetter_24 (by decide) (fun c5 => ?_) (fun c5 => ?_)
      · have hw := ite_f hw c5
        refine lv_iinc (v := v3 + (nI 1)) (lv' := [(3, .int (v3 + (nI 1))), (0, .ref v0), (1, .int v1), (2, .int v2)]) hx hb dX7_hasLetter_29 hl (k := 3) rfl rfl (by decide) rfl (fun ls hl => ?_)
        refine lv_goto (tgt := 2) hx hb dX7_hasLetter_32 (by decide) ?_
        exact hK2 _ _ H locs ls hH (lv_sub hl [1, 2, 3, 0] rfl) hw
      · have hw := ite_t hw c5
        refine lv_iconst (v := (nI 1)) hx hb dX7_hasLetter_27 (by decide) ?_
        exact hv_zret hx hb hr hlk hH (Or.inr rfl) hw dX7_hasLetter_28
  unfold w_X7_hasLetter at hw
  show W p l e rm_X7_hasLetter s m args below meth c H [] 0 0 (QI G B S sz below args s Q) (F0 m 0 ls [])
  generalize ([] : List Loc) = locs at hH ⊢
  refine lv_iconst (v := (nI 0)) hx hb dX7_hasLetter_0 (by decide) ?_
  refine lv_istore_n (lv' := [(3, .int (nI 0)), (0, .ref v0), (1, .int v1), (2, .int v2)]) hx hb dX7_hasLetter_1 rfl hl (by decide) rfl (fun ls hl => ?_)
  exact c2 _ _ _ _ _ H locs ls hH (lv_sub hl [1, 2, 3, 0] rfl) hw
abbrev rm_X7_isFollowed : Room := { frames := 1, cells := 0, slots := 0, locals := 23 }
set_option maxHeartbeats 4000000 in
set_option maxRecDepth 100000 in
theorem m_X7_isFollowed {l : Launch} {G : Gl} {B sz : Nat} {S : St} (v0 : Nat) (v1 : Int32) (h : Hp) (Q : Hp → Prop) (hw : w_X7_isFollowed S v0 v1 h Q) : MV l G B sz S yX7_isFollowed cX7_isFollowed 3 rm_X7_isFollowed [.ref v0, .int v1] h Q := by
  refine met_of rfl rfl ?_
  intro p e s m args below meth c hMB H ls hH hl
  obtain ⟨hx, hb, hml, hown, hKK, hr, hlk⟩ := hMB
  replace hl : lv_has ls 3 [(0, .ref v0), (1, .int v1)] := hl
  unfold w_X7_isFollowed at hw
  show W p l e rm_X7_isFollowed s m args below meth c H [] 0 0 (QV G B S sz below args s Q) (F0 m 0 ls [])
  generalize ([] : List Loc) = locs at hH ⊢
  refine lv_aload_n hx hb dX7_isFollowed_0 rfl (lv_at hl 0 rfl) ?_
  obtain ⟨k1, hw⟩ := hw
  refine hv_get (ci := 7) (k := 6) (v := .ref (S.2 v0 6)) hx hb hown hKK hH cf7 (by decide) fl_X7_28 rfl k1 rfl dX7_isFollowed_1 ?_
  refine lv_iload_n hx hb dX7_isFollowed_4 rfl (lv_at hl 1 rfl) ?_
  obtain ⟨k2, hw⟩ := hw
  refine hv_iald hx hb hKK hH k2 dX7_isFollowed_5 ?_
  refine lv_istore_n (lv' := [(2, .int (h (S.2 v0 6) (ix v1))), (0, .ref v0), (1, .int v1)]) hx hb dX7_isFollowed_6 rfl hl (by decide) rfl (fun ls hl => ?_)
  refine lv_aload_n hx hb dX7_isFollowed_7 rfl (lv_at hl 1 rfl) ?_
  refine lv_iload_n hx hb dX7_isFollowed_8 rfl (lv_at hl 2 rfl) ?_
  refine lv_aload_n hx hb dX7_isFollowed_9 rfl (lv_at hl 1 rfl) ?_
  refine hv_get (ci := 7) (k := 3) (v := .ref (S.2 v0 3)) hx hb hown hKK hH cf7 (by decide) fl_X7_19 rfl k1 rfl dX7_isFollowed_10 ?_
  refine lv_iload_n hx hb dX7_isFollowed_13 rfl (lv_at hl 0 rfl) ?_
  obtain ⟨k3, hw⟩ := hw
  refine hv_iald hx hb hKK hH k3 dX7_isFollowed_14 ?_
  refine hv_cVI (rm := rm_X7_hasLetter) (As := [.int v1, .int (h (S.2 v0 3) (ix (h (S.2 v0 6) (ix v1))))]) (rest := []) (k := 2) (ci := 7) hx hb hml hown hKK hH cf7 k1 (m_X7_hasLetter v0 v1 (h (S.2 v0 3) (ix (h (S.2 v0 6) (ix v1)))) _ _ hw) cw_X7_111 ⟨Nat.le_of_ble_eq_true rfl, Nat.le_of_ble_eq_true rfl⟩ rfl hl.1 rfl (Nat.le_of_ble_eq_true rfl) ⟨Nat.le_of_ble_eq_true rfl, Nat.le_of_ble_eq_true rfl⟩ dX7_isFollowed_15 (fun r5 h4 H locs hH hw => ?_)
  refine lv_if_ne (tgt := 22) hx hb dX7_isFollowed_18 (by decide) (fun c6 => ?_) (fun c6 => ?_)
  · have hw := ite_f hw c6
    refine lv_aload_n hx hb dX7_isFollowed_22 rfl (lv_at hl 1 rfl) ?_
    refine hv_get (ci := 7) (k := 9) (v := .ref (S.2 v0 9)) hx hb hown hKK hH cf7 (by decide) fl_X7_37 rfl k1 rfl dX7_isFollowed_23 ?_
    refine lv_iload_n hx hb dX7_isFollowed_26 rfl (lv_at hl 2 rfl) ?_
    refine lv_aload_n hx hb dX7_isFollowed_27 rfl (lv_at hl 1 rfl) ?_
    refine hv_get (ci := 7) (k := 9) (v := .ref (S.2 v0 9)) hx hb hown hKK hH cf7 (by decide) fl_X7_37 rfl k1 rfl dX7_isFollowed_28 ?_
    refine lv_iload_n hx hb dX7_isFollowed_31 rfl (lv_at hl 2 rfl) ?_
    obtain ⟨k7, hw⟩ := hw
    refine hv_iald hx hb hKK hH k7 dX7_isFollowed_32 ?_
    refine lv_aload_n hx hb dX7_isFollowed_33 rfl (lv_at hl 1 rfl) ?_
    refine hv_get (ci := 7) (k := 2) (v := .ref (S.2 v0 2)) hx hb hown hKK hH cf7 (by decide) fl_X7_16 rfl k1 rfl dX7_isFollowed_34 ?_
    refine lv_iload_n hx hb dX7_isFollowed_37 rfl (lv_at hl 0 rfl) ?_
    obtain ⟨k8, hw⟩ := hw
    refine hv_iald hx hb hKK hH k8 dX7_isFollowed_38 ?_
    refine lv_iadd hx hb dX7_isFollowed_39 ?_
    refine lv_bipush (v := (nI 99)) hx hb dX7_isFollowed_40 (by decide) ?_
    refine hv_cSI (rm := rm_X7_held) (As := [.int ((h4 (S.2 v0 9) (ix v1)) + (h4 (S.2 v0 2) (ix (h (S.2 v0 6) (ix v1))))), .int (nI 99)]) (rest := [.int v1, .ref (S.2 v0 9)]) (k := 2) hx hb hml hown hKK hH (m_X7_held ((h4 (S.2 v0 9) (ix v1)) + (h4 (S.2 v0 2) (ix (h (S.2 v0 6) (ix v1))))) (nI 99) _ _ hw) cw_X7_115 ⟨Nat.le_of_ble_eq_true rfl, Nat.le_of_ble_eq_true rfl⟩ rfl hl.1 rfl (Nat.le_of_ble_eq_true rfl) ⟨Nat.le_of_ble_eq_true rfl, Nat.le_of_ble_eq_true rfl⟩ dX7_isFollowed_42 (fun r10 h9 H locs hH hw => ?_)
    refine hv_iast hx hb hKK hH k7 dX7_isFollowed_45 (fun H locs hH => ?_)
    refine lv_aload_n hx hb dX7_isFollowed_46 rfl (lv_at hl 1 rfl) ?_
    refine hv_get (ci := 7) (k := 2) (v := .ref (S.2 v0 2)) hx hb hown hKK hH cf7 (by decide) fl_X7_16 rfl k1 rfl dX7_isFollowed_47 ?_
    refine lv_iload_n hx hb dX7_isFollowed_50 rfl (lv_at hl 0 rfl) ?_
    refine lv_iconst (v := (nI 0)) hx hb dX7_isFollowed_51 (by decide) ?_
    refine hv_iast hx hb hKK hH k8 dX7_isFollowed_52 (fun H locs hH => ?_)
    exact hv_vret hx hb hr hlk hH hw dX7_isFollowed_53
  · have hw := ite_t hw c6
    exact hv_vret hx hb hr hlk hH hw dX7_isFollowed_21
abbrev rm_X7_sameFrom : Room := { frames := 0, cells := 0, slots := 0, locals := 0 }
set_option maxHeartbeats 4000000 in
set_option maxRecDepth 100000 in
theorem m_X7_sameFrom {l : Launch} {G : Gl} {B sz : Nat} {S : St} (v0 : Nat) (v1 : Int32) (v2 : Int32) (h : Hp) (Q : Int32 → Hp → Prop) (hw : w_X7_sameFrom S v0 v1 v2 h Q) : MI l G B sz S yX7_sameFrom cX7_sameFrom 4 .int rm_X7_sameFrom [.ref v0, .int v1, .int v2] h Q := by
  refine met_of rfl rfl ?_
  intro p e s m args below meth c hMB H ls hH hl
  obtain ⟨hx, hb, hml, hown, hKK, hr, hlk⟩ := hMB
  replace hl : lv_has ls 4 [(0, .ref v0), (1, .int v1), (2, .int v2)] := hl
  have c2 : ∀  (v0 : Nat) (v1 : Int32) (v2 : Int32) (v3 : Int32) (h : Hp) (H : Heap) (locs : List Loc) (ls : Array Slot), HH G B S h sz s H locs → lv_has ls 4 [(0, .ref v0), (1, .int v1), (2, .int v2), (3, .int v3)] → w_X7_sameFrom_c2 S v0 v1 v2 v3 h Q → W p l e rm_X7_sameFrom s m args below meth c H locs 0 0 (QI G B S sz below args s Q) (F0 m 2 ls []) := by
    intro  v0 v1 v2 v3 h H locs ls hH hl hw
    unfold w_X7_sameFrom_c2 at hw
    obtain ⟨P2, hP2⟩ : ∃ P : Int32 → Hp → Prop, ∀ (v3 : Int32) (h : Hp), P v3 h ↔ (∀ (H : Heap) (locs : List Loc) (ls : Array Slot), HH G B S h sz s H locs → lv_has ls 4 [(0, .ref v0), (1, .int v1), (2, .int v2), (3, .int v3)] → W p l e rm_X7_sameFrom s m args below meth c H locs 0 0 (QI G B S sz below args s Q) (F0 m 2 ls [])) := ⟨_, fun v3 h => Iff.rfl⟩
    refine (hP2 v3 h).1 (hw P2 (fun v3 h hw => (hP2 v3 h).2 (fun H locs ls hH hl => ?_))) H locs ls hH hl
    have hK2 : ∀ (v3 : Int32) (h : Hp) (H : Heap) (locs : List Loc) (ls : Array Slot), HH G B S h sz s H locs → lv_has ls 4 [(0, .ref v0), (1, .int v1), (2, .int v2), (3, .int v3)] → P2 v3 h → W p l e rm_X7_sameFrom s m args below meth c H locs 0 0 (QI G B S sz below args s Q) (F0 m 2 ls []) := fun v3 h H locs ls hH hl hk => (hP2 v3 h).1 hk H locs ls hH hl
    refine lv_iload_n hx hb dX7_sameFrom_2 rfl (lv_at hl 3 rfl) ?_
    refine lv_aload_n hx hb dX7_sameFrom_3 rfl (lv_at hl 0 rfl) ?_
    obtain ⟨k1, hw⟩ := hw
    refine hv_get (ci := 7) (k := 11) (v := .ref (S.2 v0 11)) hx hb hown hKK hH cf7 (by decide) fl_X7_43 rfl k1 rfl dX7_sameFrom_4 ?_
    refine lv_iload_n hx hb dX7_sameFrom_7 rfl (lv_at hl 1 rfl) ?_
    obtain ⟨k2, hw⟩ := hw
    refine hv_iald hx hb hKK hH k2 dX7_sameFrom_8 ?_
    refine lv_icmp_ge (tgt := 53) hx hb dX7_sameFrom_9 (by decide) (fun c3 => ?_) (fun c3 => ?_)
    · have hw := ite_t hw c3
      refine lv_iload_n hx hb dX7_sameFrom_53 rfl (lv_at hl 3 rfl) ?_
      exact hv_iret hx hb hr hlk hH hw dX7_sameFrom_54
    · have hw := ite_f hw c3
      refine lv_iload_n hx hb dX7_sameFrom_12 rfl (lv_at hl 3 rfl) ?_
      refine lv_aload_n hx hb dX7_sameFrom_13 rfl (lv_at hl 0 rfl) ?_
      refine hv_get (ci := 7) (k := 11) (v := .ref (S.2 v0 11)) hx hb hown hKK hH cf7 (by decide) fl_X7_43 rfl k1 rfl dX7_sameFrom_14 ?_
      refine lv_iload_n hx hb dX7_sameFrom_17 rfl (lv_at hl 2 rfl) ?_
      obtain ⟨k4, hw⟩ := hw
      refine hv_iald hx hb hKK hH k4 dX7_sameFrom_18 ?_
      refine lv_icmp_ge (tgt := 53) hx hb dX7_sameFrom_19 (by decide) (fun c5 => ?_) (fun c5 => ?_)
      · have hw := ite_t hw c5
        refine lv_iload_n hx hb dX7_sameFrom_53 rfl (lv_at hl 3 rfl) ?_
        exact hv_iret hx hb hr hlk hH hw dX7_sameFrom_54
      · have hw := ite_f hw c5
        refine lv_aload_n hx hb dX7_sameFrom_22 rfl (lv_at hl 0 rfl) ?_
        refine hv_get (ci := 7) (k := 12) (v := .ref (S.2 v0 12)) hx hb hown hKK hH cf7 (by decide) fl_X7_46 rfl k1 rfl dX7_sameFrom_23 ?_
        refine lv_bipush (v := (nI 6)) hx hb dX7_sameFrom_26 (by decide) ?_
        refine lv_iload_n hx hb dX7_sameFrom_28 rfl (lv_at hl 1 rfl) ?_
        refine lv_imul hx hb dX7_sameFrom_29 ?_
        refine lv_iload_n hx hb dX7_sameFrom_30 rfl (lv_at hl 3 rfl) ?_
        refine lv_iadd hx hb dX7_sameFrom_31 ?_
        obtain ⟨k6, hw⟩ := hw
        refine hv_iald hx hb hKK hH k6 dX7_sameFrom_32 ?_
        refine lv_aload_n hx hb dX7_sameFrom_33 rfl (lv_at hl 0 rfl) ?_
        refine hv_get (ci := 7) (k := 12) (v := .ref (S.2 v0 12)) hx hb hown hKK hH cf7 (by decide) fl_X7_46 rfl k1 rfl dX7_sameFrom_34 ?_
        refine lv_bipush (v := (nI 6)) hx hb dX7_sameFrom_37 (by decide) ?_
        refine lv_iload_n hx hb dX7_sameFrom_39 rfl (lv_at hl 2 rfl) ?_
        refine lv_imul hx hb dX7_sameFrom_40 ?_
        refine lv_iload_n hx hb dX7_sameFrom_41 rfl (lv_at hl 3 rfl) ?_
        refine lv_iadd hx hb dX7_sameFrom_42 ?_
        obtain ⟨k7, hw⟩ := hw
        refine hv_iald hx hb hKK hH k7 dX7_sameFrom_43 ?_
        refine lv_icmp_ne (tgt := 53) hx hb dX7_sameFrom_44 (by decide) (fun c8 => ?_) (fun c8 => ?_)
        · have hw := ite_f hw c8
          refine lv_iload_n hx hb dX7_sameFrom_53 rfl (lv_at hl 3 rfl) ?_
          exact hv_iret hx hb hr hlk hH hw dX7_sameFrom_54
        · have hw := ite_t hw c8
          refine lv_iinc (v := v3 + (nI 1)) (lv' := [(3, .int (v3 + (nI 1))), (0, .ref v0), (1, .int v1), (2, .int v2)]) hx hb dX7_sameFrom_47 hl (k := 3) rfl rfl (by decide) rfl (fun ls hl => ?_)
          refine lv_goto (tgt := 2) hx hb dX7_sameFrom_50 (by decide) ?_
          exact hK2 _ _ H locs ls hH (lv_sub hl [1, 2, 3, 0] rfl) hw
  unfold w_X7_sameFrom at hw
  show W p l e rm_X7_sameFrom s m args below meth c H [] 0 0 (QI G B S sz below args s Q) (F0 m 0 ls [])
  generalize ([] : List Loc) = locs at hH ⊢
  refine lv_iconst (v := (nI 0)) hx hb dX7_sameFrom_0 (by decide) ?_
  refine lv_istore_n (lv' := [(3, .int (nI 0)), (0, .ref v0), (1, .int v1), (2, .int v2)]) hx hb dX7_sameFrom_1 rfl hl (by decide) rfl (fun ls hl => ?_)
  exact c2 _ _ _ _ _ H locs ls hH (lv_sub hl [1, 2, 3, 0] rfl) hw
abbrev rm_X7_compares : Room := { frames := 1, cells := 0, slots := 0, locals := 23 }
set_option maxHeartbeats 4000000 in
set_option maxRecDepth 100000 in
theorem m_X7_compares {l : Launch} {G : Gl} {B sz : Nat} {S : St} (v0 : Nat) (v1 : Int32) (v2 : Int32) (h : Hp) (Q : Int32 → Hp → Prop) (hw : w_X7_compares S v0 v1 v2 h Q) : MI l G B sz S yX7_compares cX7_compares 6 .int rm_X7_compares [.ref v0, .int v1, .int v2] h Q := by
  refine met_of rfl rfl ?_
  intro p e s m args below meth c hMB H ls hH hl
  obtain ⟨hx, hb, hml, hown, hKK, hr, hlk⟩ := hMB
  replace hl : lv_has ls 6 [(0, .ref v0), (1, .int v1), (2, .int v2)] := hl
  have c32 : ∀  (v0 : Nat) (v2 : Int32) (v3 : Int32) (s0 : Int32) (h : Hp) (H : Heap) (locs : List Loc) (ls : Array Slot), HH G B S h sz s H locs → lv_has ls 6 [(0, .ref v0), (2, .int v2), (3, .int v3)] → w_X7_compares_c32 S v0 v2 v3 s0 h Q → W p l e rm_X7_compares s m args below meth c H locs 0 0 (QI G B S sz below args s Q) (F0 m 32 ls [.int s0]) := by
    intro  v0 v2 v3 s0 h H locs ls hH hl hw
    unfold w_X7_compares_c32 at hw
    refine lv_istore (lv' := [(4, .int s0), (0, .ref v0), (2, .int v2), (3, .int v3)]) hx hb dX7_compares_32 hl (by decide) rfl (fun ls hl => ?_)
    refine lv_iload_n hx hb dX7_compares_34 rfl (lv_at hl 3 rfl) ?_
    refine lv_aload_n hx hb dX7_compares_35 rfl (lv_at hl 1 rfl) ?_
    obtain ⟨k1, hw⟩ := hw
    refine hv_get (ci := 7) (k := 11) (v := .ref (S.2 v0 11)) hx hb hown hKK hH cf7 (by decide) fl_X7_43 rfl k1 rfl dX7_compares_36 ?_
    refine lv_iload_n hx hb dX7_compares_39 rfl (lv_at hl 2 rfl) ?_
    obtain ⟨k2, hw⟩ := hw
    refine hv_iald hx hb hKK hH k2 dX7_compares_40 ?_
    refine lv_icmp_ge (tgt := 58) hx hb dX7_compares_41 (by decide) (fun c3 => ?_) (fun c3 => ?_)
    · have hw := ite_t hw c3
      refine lv_iconst (v := (-1)) hx hb dX7_compares_58 (by decide) ?_
      refine lv_istore (lv' := [(5, .int (-1)), (4, .int s0), (0, .ref v0), (2, .int v2), (3, .int v3)]) hx hb dX7_compares_59 hl (by decide) rfl (fun ls hl => ?_)
      refine lv_iload hx hb dX7_compares_61 (lv_at hl 1 rfl) ?_
      refine lv_iload hx hb dX7_compares_63 (lv_at hl 0 rfl) ?_
      refine lv_isub hx hb dX7_compares_65 ?_
      exact hv_iret hx hb hr hlk hH hw dX7_compares_66
    · have hw := ite_f hw c3
      refine lv_aload_n hx hb dX7_compares_44 rfl (lv_at hl 1 rfl) ?_
      refine hv_get (ci := 7) (k := 12) (v := .ref (S.2 v0 12)) hx hb hown hKK hH cf7 (by decide) fl_X7_46 rfl k1 rfl dX7_compares_45 ?_
      refine lv_bipush (v := (nI 6)) hx hb dX7_compares_48 (by decide) ?_
      refine lv_iload_n hx hb dX7_compares_50 rfl (lv_at hl 2 rfl) ?_
      refine lv_imul hx hb dX7_compares_51 ?_
      refine lv_iload_n hx hb dX7_compares_52 rfl (lv_at hl 3 rfl) ?_
      refine lv_iadd hx hb dX7_compares_53 ?_
      obtain ⟨k4, hw⟩ := hw
      refine hv_iald hx hb hKK hH k4 dX7_compares_54 ?_
      refine lv_goto (tgt := 59) hx hb dX7_compares_55 (by decide) ?_
      refine lv_istore (lv' := [(5, .int (h (S.2 v0 12) (ix (((nI 6) * v2) + v3)))), (4, .int s0), (0, .ref v0), (2, .int v2), (3, .int v3)]) hx hb dX7_compares_59 hl (by decide) rfl (fun ls hl => ?_)
      refine lv_iload hx hb dX7_compares_61 (lv_at hl 1 rfl) ?_
      refine lv_iload hx hb dX7_compares_63 (lv_at hl 0 rfl) ?_
      refine lv_isub hx hb dX7_compares_65 ?_
      exact hv_iret hx hb hr hlk hH hw dX7_compares_66
  unfold w_X7_compares at hw
  show W p l e rm_X7_compares s m args below meth c H [] 0 0 (QI G B S sz below args s Q) (F0 m 0 ls [])
  generalize ([] : List Loc) = locs at hH ⊢
  refine lv_aload_n hx hb dX7_compares_0 rfl (lv_at hl 0 rfl) ?_
  refine lv_iload_n hx hb dX7_compares_1 rfl (lv_at hl 1 rfl) ?_
  refine lv_iload_n hx hb dX7_compares_2 rfl (lv_at hl 2 rfl) ?_
  obtain ⟨k1, hw⟩ := hw
  refine hv_cVI (rm := rm_X7_sameFrom) (As := [.int v1, .int v2]) (rest := []) (k := 2) (ci := 7) hx hb hml hown hKK hH cf7 k1 (m_X7_sameFrom v0 v1 v2 _ _ hw) cw_X7_118 ⟨Nat.le_of_ble_eq_true rfl, Nat.le_of_ble_eq_true rfl⟩ rfl hl.1 rfl (Nat.le_of_ble_eq_true rfl) ⟨Nat.le_of_ble_eq_true rfl, Nat.le_of_ble_eq_true rfl⟩ dX7_compares_3 (fun r3 h2 H locs hH hw => ?_)
  refine lv_istore_n (lv' := [(3, .int r3), (0, .ref v0), (1, .int v1), (2, .int v2)]) hx hb dX7_compares_6 rfl hl (by decide) rfl (fun ls hl => ?_)
  refine lv_iload_n hx hb dX7_compares_7 rfl (lv_at hl 0 rfl) ?_
  refine lv_aload_n hx hb dX7_compares_8 rfl (lv_at hl 1 rfl) ?_
  refine hv_get (ci := 7) (k := 11) (v := .ref (S.2 v0 11)) hx hb hown hKK hH cf7 (by decide) fl_X7_43 rfl k1 rfl dX7_compares_9 ?_
  refine lv_iload_n hx hb dX7_compares_12 rfl (lv_at hl 2 rfl) ?_
  obtain ⟨k4, hw⟩ := hw
  refine hv_iald hx hb hKK hH k4 dX7_compares_13 ?_
  refine lv_icmp_ge (tgt := 31) hx hb dX7_compares_14 (by decide) (fun c5 => ?_) (fun c5 => ?_)
  · have hw := ite_t hw c5
    refine lv_iconst (v := (-1)) hx hb dX7_compares_31 (by decide) ?_
    exact c32 _ _ _ _ _ H locs ls hH (lv_sub hl [1, 3, 0] rfl) hw
  · have hw := ite_f hw c5
    refine lv_aload_n hx hb dX7_compares_17 rfl (lv_at hl 1 rfl) ?_
    refine hv_get (ci := 7) (k := 12) (v := .ref (S.2 v0 12)) hx hb hown hKK hH cf7 (by decide) fl_X7_46 rfl k1 rfl dX7_compares_18 ?_
    refine lv_bipush (v := (nI 6)) hx hb dX7_compares_21 (by decide) ?_
    refine lv_iload_n hx hb dX7_compares_23 rfl (lv_at hl 2 rfl) ?_
    refine lv_imul hx hb dX7_compares_24 ?_
    refine lv_iload_n hx hb dX7_compares_25 rfl (lv_at hl 0 rfl) ?_
    refine lv_iadd hx hb dX7_compares_26 ?_
    obtain ⟨k6, hw⟩ := hw
    refine hv_iald hx hb hKK hH k6 dX7_compares_27 ?_
    refine lv_goto (tgt := 32) hx hb dX7_compares_28 (by decide) ?_
    exact c32 _ _ _ _ _ H locs ls hH (lv_sub hl [1, 3, 0] rfl) hw
abbrev rm_X7_lesserOf : Room := { frames := 2, cells := 0, slots := 0, locals := 48 }
set_option maxHeartbeats 4000000 in
set_option maxRecDepth 100000 in
theorem m_X7_lesserOf {l : Launch} {G : Gl} {B sz : Nat} {S : St} (v0 : Nat) (v1 : Int32) (v2 : Int32) (h : Hp) (Q : Int32 → Hp → Prop) (hw : w_X7_lesserOf S v0 v1 v2 h Q) : MI l G B sz S yX7_lesserOf cX7_lesserOf 4 .int rm_X7_lesserOf [.ref v0, .int v1, .int v2] h Q := by
  refine met_of rfl rfl ?_
  intro p e s m args below meth c hMB H ls hH hl
  obtain ⟨hx, hb, hml, hown, hKK, hr, hlk⟩ := hMB
  replace hl : lv_has ls 4 [(0, .ref v0), (1, .int v1), (2, .int v2)] := hl
  unfold w_X7_lesserOf at hw
  show W p l e rm_X7_lesserOf s m args below meth c H [] 0 0 (QI G B S sz below args s Q) (F0 m 0 ls [])
  generalize ([] : List Loc) = locs at hH ⊢
  refine lv_aload_n hx hb dX7_lesserOf_0 rfl (lv_at hl 0 rfl) ?_
  refine lv_iload_n hx hb dX7_lesserOf_1 rfl (lv_at hl 1 rfl) ?_
  obtain ⟨k1, hw⟩ := hw
  refine hv_cVI (rm := rm_X7_weight) (As := [.int v1]) (rest := []) (k := 1) (ci := 7) hx hb hml hown hKK hH cf7 k1 (m_X7_weight v0 v1 _ _ hw) cw_X7_107 ⟨Nat.le_of_ble_eq_true rfl, Nat.le_of_ble_eq_true rfl⟩ rfl hl.1 rfl (Nat.le_of_ble_eq_true rfl) ⟨Nat.le_of_ble_eq_true rfl, Nat.le_of_ble_eq_true rfl⟩ dX7_lesserOf_2 (fun r3 h2 H locs hH hw => ?_)
  refine lv_aload_n hx hb dX7_lesserOf_5 rfl (lv_at hl 0 rfl) ?_
  refine lv_iload_n hx hb dX7_lesserOf_6 rfl (lv_at hl 2 rfl) ?_
  refine hv_cVI (rm := rm_X7_weight) (As := [.int v2]) (rest := [.int r3]) (k := 1) (ci := 7) hx hb hml hown hKK hH cf7 k1 (m_X7_weight v0 v2 _ _ hw) cw_X7_107 ⟨Nat.le_of_ble_eq_true rfl, Nat.le_of_ble_eq_true rfl⟩ rfl hl.1 rfl (Nat.le_of_ble_eq_true rfl) ⟨Nat.le_of_ble_eq_true rfl, Nat.le_of_ble_eq_true rfl⟩ dX7_lesserOf_7 (fun r5 h4 H locs hH hw => ?_)
  refine lv_icmp_eq (tgt := 32) hx hb dX7_lesserOf_10 (by decide) (fun c6 => ?_) (fun c6 => ?_)
  · have hw := ite_t hw c6
    refine lv_aload_n hx hb dX7_lesserOf_32 rfl (lv_at hl 0 rfl) ?_
    refine lv_iload_n hx hb dX7_lesserOf_33 rfl (lv_at hl 1 rfl) ?_
    refine lv_iload_n hx hb dX7_lesserOf_34 rfl (lv_at hl 2 rfl) ?_
    refine hv_cVI (rm := rm_X7_compares) (As := [.int v1, .int v2]) (rest := []) (k := 2) (ci := 7) hx hb hml hown hKK hH cf7 k1 (m_X7_compares v0 v1 v2 _ _ hw) cw_X7_121 ⟨Nat.le_of_ble_eq_true rfl, Nat.le_of_ble_eq_true rfl⟩ rfl hl.1 rfl (Nat.le_of_ble_eq_true rfl) ⟨Nat.le_of_ble_eq_true rfl, Nat.le_of_ble_eq_true rfl⟩ dX7_lesserOf_35 (fun r8 h7 H locs hH hw => ?_)
    refine lv_istore_n (lv' := [(3, .int r8), (0, .ref v0), (1, .int v1), (2, .int v2)]) hx hb dX7_lesserOf_38 rfl hl (by decide) rfl (fun ls hl => ?_)
    refine lv_iload_n hx hb dX7_lesserOf_39 rfl (lv_at hl 0 rfl) ?_
    refine lv_if_eq (tgt := 53) hx hb dX7_lesserOf_40 (by decide) (fun c9 => ?_) (fun c9 => ?_)
    · have hw := ite_t hw c9
      refine lv_iload_n hx hb dX7_lesserOf_53 rfl (lv_at hl 2 rfl) ?_
      refine lv_iload_n hx hb dX7_lesserOf_54 rfl (lv_at hl 3 rfl) ?_
      refine lv_icmp_le (tgt := 62) hx hb dX7_lesserOf_55 (by decide) (fun c10 => ?_) (fun c10 => ?_)
      · have hw := ite_t hw c10
        refine lv_iload_n hx hb dX7_lesserOf_62 rfl (lv_at hl 3 rfl) ?_
        exact hv_iret hx hb hr hlk hH hw dX7_lesserOf_63
      · have hw := ite_f hw c10
        refine lv_iload_n hx hb dX7_lesserOf_58 rfl (lv_at hl 2 rfl) ?_
        refine lv_goto (tgt := 63) hx hb dX7_lesserOf_59 (by decide) ?_
        exact hv_iret hx hb hr hlk hH hw dX7_lesserOf_63
    · have hw := ite_f hw c9
      refine lv_iload_n hx hb dX7_lesserOf_43 rfl (lv_at hl 0 rfl) ?_
      refine lv_if_ge (tgt := 51) hx hb dX7_lesserOf_44 (by decide) (fun c11 => ?_) (fun c11 => ?_)
      · have hw := ite_t hw c11
        refine lv_iload_n hx hb dX7_lesserOf_51 rfl (lv_at hl 3 rfl) ?_
        exact hv_iret hx hb hr hlk hH hw dX7_lesserOf_52
      · have hw := ite_f hw c11
        refine lv_iload_n hx hb dX7_lesserOf_47 rfl (lv_at hl 2 rfl) ?_
        refine lv_goto (tgt := 52) hx hb dX7_lesserOf_48 (by decide) ?_
        exact hv_iret hx hb hr hlk hH hw dX7_lesserOf_52
  · have hw := ite_f hw c6
    refine lv_aload_n hx hb dX7_lesserOf_13 rfl (lv_at hl 0 rfl) ?_
    refine lv_iload_n hx hb dX7_lesserOf_14 rfl (lv_at hl 1 rfl) ?_
    refine hv_cVI (rm := rm_X7_weight) (As := [.int v1]) (rest := []) (k := 1) (ci := 7) hx hb hml hown hKK hH cf7 k1 (m_X7_weight v0 v1 _ _ hw) cw_X7_107 ⟨Nat.le_of_ble_eq_true rfl, Nat.le_of_ble_eq_true rfl⟩ rfl hl.1 rfl (Nat.le_of_ble_eq_true rfl) ⟨Nat.le_of_ble_eq_true rfl, Nat.le_of_ble_eq_true rfl⟩ dX7_lesserOf_15 (fun r13 h12 H locs hH hw => ?_)
    refine lv_aload_n hx hb dX7_lesserOf_18 rfl (lv_at hl 0 rfl) ?_
    refine lv_iload_n hx hb dX7_lesserOf_19 rfl (lv_at hl 2 rfl) ?_
    refine hv_cVI (rm := rm_X7_weight) (As := [.int v2]) (rest := [.int r13]) (k := 1) (ci := 7) hx hb hml hown hKK hH cf7 k1 (m_X7_weight v0 v2 _ _ hw) cw_X7_107 ⟨Nat.le_of_ble_eq_true rfl, Nat.le_of_ble_eq_true rfl⟩ rfl hl.1 rfl (Nat.le_of_ble_eq_true rfl) ⟨Nat.le_of_ble_eq_true rfl, Nat.le_of_ble_eq_true rfl⟩ dX7_lesserOf_20 (fun r15 h14 H locs hH hw => ?_)
    refine lv_icmp_ge (tgt := 30) hx hb dX7_lesserOf_23 (by decide) (fun c16 => ?_) (fun c16 => ?_)
    · have hw := ite_t hw c16
      refine lv_iload_n hx hb dX7_lesserOf_30 rfl (lv_at hl 2 rfl) ?_
      exact hv_iret hx hb hr hlk hH hw dX7_lesserOf_31
    · have hw := ite_f hw c16
      refine lv_iload_n hx hb dX7_lesserOf_26 rfl (lv_at hl 1 rfl) ?_
      refine lv_goto (tgt := 31) hx hb dX7_lesserOf_27 (by decide) ?_
      exact hv_iret hx hb hr hlk hH hw dX7_lesserOf_31
abbrev rm_X7_metBy : Room := { frames := 0, cells := 0, slots := 0, locals := 0 }
set_option maxHeartbeats 4000000 in
set_option maxRecDepth 100000 in
theorem m_X7_metBy {l : Launch} {G : Gl} {B sz : Nat} {S : St} (v0 : Nat) (v1 : Int32) (h : Hp) (Q : Int32 → Hp → Prop) (hw : w_X7_metBy S v0 v1 h Q) : MI l G B sz S yX7_metBy cX7_metBy 3 .int rm_X7_metBy [.ref v0, .int v1] h Q := by
  refine met_of rfl rfl ?_
  intro p e s m args below meth c hMB H ls hH hl
  obtain ⟨hx, hb, hml, hown, hKK, hr, hlk⟩ := hMB
  replace hl : lv_has ls 3 [(0, .ref v0), (1, .int v1)] := hl
  have c2 : ∀  (v0 : Nat) (v1 : Int32) (v2 : Int32) (h : Hp) (H : Heap) (locs : List Loc) (ls : Array Slot), HH G B S h sz s H locs → lv_has ls 3 [(0, .ref v0), (1, .int v1), (2, .int v2)] → w_X7_metBy_c2 S v0 v1 v2 h Q → W p l e rm_X7_metBy s m args below meth c H locs 0 0 (QI G B S sz below args s Q) (F0 m 2 ls []) := by
    intro  v0 v1 v2 h H locs ls hH hl hw
    unfold w_X7_metBy_c2 at hw
    obtain ⟨P2, hP2⟩ : ∃ P : Int32 → Hp → Prop, ∀ (v2 : Int32) (h : Hp), P v2 h ↔ (∀ (H : Heap) (locs : List Loc) (ls : Array Slot), HH G B S h sz s H locs → lv_has ls 3 [(0, .ref v0), (1, .int v1), (2, .int v2)] → W p l e rm_X7_metBy s m args below meth c H locs 0 0 (QI G B S sz below args s Q) (F0 m 2 ls [])) := ⟨_, fun v2 h => Iff.rfl⟩
    refine (hP2 v2 h).1 (hw P2 (fun v2 h hw => (hP2 v2 h).2 (fun H locs ls hH hl => ?_))) H locs ls hH hl
    have hK2 : ∀ (v2 : Int32) (h : Hp) (H : Heap) (locs : List Loc) (ls : Array Slot), HH G B S h sz s H locs → lv_has ls 3 [(0, .ref v0), (1, .int v1), (2, .int v2)] → P2 v2 h → W p l e rm_X7_metBy s m args below meth c H locs 0 0 (QI G B S sz below args s Q) (F0 m 2 ls []) := fun v2 h H locs ls hH hl hk => (hP2 v2 h).1 hk H locs ls hH hl
    refine lv_iload_n hx hb dX7_metBy_2 rfl (lv_at hl 2 rfl) ?_
    refine lv_aload_n hx hb dX7_metBy_3 rfl (lv_at hl 0 rfl) ?_
    obtain ⟨k1, hw⟩ := hw
    refine hv_get (ci := 7) (k := 13) (v := .int (h v0 13)) hx hb hown hKK hH cf7 (by decide) fl_X7_79 rfl k1 rfl dX7_metBy_4 ?_
    refine lv_icmp_ge (tgt := 47) hx hb dX7_metBy_7 (by decide) (fun c2 => ?_) (fun c2 => ?_)
    · have hw := ite_t hw c2
      refine lv_bipush (v := (-9)) hx hb dX7_metBy_47 (by decide) ?_
      exact hv_iret hx hb hr hlk hH hw dX7_metBy_49
    · have hw := ite_f hw c2
      refine lv_iload_n hx hb dX7_metBy_10 rfl (lv_at hl 2 rfl) ?_
      refine lv_iload_n hx hb dX7_metBy_11 rfl (lv_at hl 1 rfl) ?_
      refine lv_icmp_eq (tgt := 41) hx hb dX7_metBy_12 (by decide) (fun c3 => ?_) (fun c3 => ?_)
      · have hw := ite_t hw c3
        refine lv_iinc (v := v2 + (nI 1)) (lv' := [(2, .int (v2 + (nI 1))), (0, .ref v0), (1, .int v1)]) hx hb dX7_metBy_41 hl (k := 2) rfl rfl (by decide) rfl (fun ls hl => ?_)
        refine lv_goto (tgt := 2) hx hb dX7_metBy_44 (by decide) ?_
        exact hK2 _ _ H locs ls hH (lv_sub hl [1, 2, 0] rfl) hw
      · have hw := ite_f hw c3
        refine lv_aload_n hx hb dX7_metBy_15 rfl (lv_at hl 0 rfl) ?_
        refine hv_get (ci := 7) (k := 10) (v := .ref (S.2 v0 10)) hx hb hown hKK hH cf7 (by decide) fl_X7_40 rfl k1 rfl dX7_metBy_16 ?_
        refine lv_iload_n hx hb dX7_metBy_19 rfl (lv_at hl 2 rfl) ?_
        obtain ⟨k4, hw⟩ := hw
        refine hv_iald hx hb hKK hH k4 dX7_metBy_20 ?_
        refine lv_if_ne (tgt := 41) hx hb dX7_metBy_21 (by decide) (fun c5 => ?_) (fun c5 => ?_)
        · have hw := ite_f hw c5
          refine lv_iinc (v := v2 + (nI 1)) (lv' := [(2, .int (v2 + (nI 1))), (0, .ref v0), (1, .int v1)]) hx hb dX7_metBy_41 hl (k := 2) rfl rfl (by decide) rfl (fun ls hl => ?_)
          refine lv_goto (tgt := 2) hx hb dX7_metBy_44 (by decide) ?_
          exact hK2 _ _ H locs ls hH (lv_sub hl [1, 2, 0] rfl) hw
        · have hw := ite_t hw c5
          refine lv_aload_n hx hb dX7_metBy_24 rfl (lv_at hl 0 rfl) ?_
          refine hv_get (ci := 7) (k := 6) (v := .ref (S.2 v0 6)) hx hb hown hKK hH cf7 (by decide) fl_X7_28 rfl k1 rfl dX7_metBy_25 ?_
          refine lv_iload_n hx hb dX7_metBy_28 rfl (lv_at hl 2 rfl) ?_
          obtain ⟨k6, hw⟩ := hw
          refine hv_iald hx hb hKK hH k6 dX7_metBy_29 ?_
          refine lv_aload_n hx hb dX7_metBy_30 rfl (lv_at hl 0 rfl) ?_
          refine hv_get (ci := 7) (k := 6) (v := .ref (S.2 v0 6)) hx hb hown hKK hH cf7 (by decide) fl_X7_28 rfl k1 rfl dX7_metBy_31 ?_
          refine lv_iload_n hx hb dX7_metBy_34 rfl (lv_at hl 1 rfl) ?_
          obtain ⟨k7, hw⟩ := hw
          refine hv_iald hx hb hKK hH k7 dX7_metBy_35 ?_
          refine lv_icmp_ne (tgt := 41) hx hb dX7_metBy_36 (by decide) (fun c8 => ?_) (fun c8 => ?_)
          · have hw := ite_f hw c8
            refine lv_iinc (v := v2 + (nI 1)) (lv' := [(2, .int (v2 + (nI 1))), (0, .ref v0), (1, .int v1)]) hx hb dX7_metBy_41 hl (k := 2) rfl rfl (by decide) rfl (fun ls hl => ?_)
            refine lv_goto (tgt := 2) hx hb dX7_metBy_44 (by decide) ?_
            exact hK2 _ _ H locs ls hH (lv_sub hl [1, 2, 0] rfl) hw
          · have hw := ite_t hw c8
            refine lv_iload_n hx hb dX7_metBy_39 rfl (lv_at hl 2 rfl) ?_
            exact hv_iret hx hb hr hlk hH hw dX7_metBy_40
  unfold w_X7_metBy at hw
  show W p l e rm_X7_metBy s m args below meth c H [] 0 0 (QI G B S sz below args s Q) (F0 m 0 ls [])
  generalize ([] : List Loc) = locs at hH ⊢
  refine lv_iconst (v := (nI 0)) hx hb dX7_metBy_0 (by decide) ?_
  refine lv_istore_n (lv' := [(2, .int (nI 0)), (0, .ref v0), (1, .int v1)]) hx hb dX7_metBy_1 rfl hl (by decide) rfl (fun ls hl => ?_)
  exact c2 _ _ _ _ H locs ls hH (lv_sub hl [1, 2, 0] rfl) hw
abbrev rm_X7_meets : Room := { frames := 3, cells := 0, slots := 0, locals := 71 }
set_option maxHeartbeats 4000000 in
set_option maxRecDepth 100000 in
theorem m_X7_meets {l : Launch} {G : Gl} {B sz : Nat} {S : St} (v0 : Nat) (v1 : Int32) (h : Hp) (Q : Hp → Prop) (hw : w_X7_meets S v0 v1 h Q) : MV l G B sz S yX7_meets cX7_meets 6 rm_X7_meets [.ref v0, .int v1] h Q := by
  refine met_of rfl rfl ?_
  intro p e s m args below meth c hMB H ls hH hl
  obtain ⟨hx, hb, hml, hown, hKK, hr, hlk⟩ := hMB
  replace hl : lv_has ls 6 [(0, .ref v0), (1, .int v1)] := hl
  unfold w_X7_meets at hw
  show W p l e rm_X7_meets s m args below meth c H [] 0 0 (QV G B S sz below args s Q) (F0 m 0 ls [])
  generalize ([] : List Loc) = locs at hH ⊢
  refine lv_aload_n hx hb dX7_meets_0 rfl (lv_at hl 0 rfl) ?_
  refine lv_iload_n hx hb dX7_meets_1 rfl (lv_at hl 1 rfl) ?_
  obtain ⟨k1, hw⟩ := hw
  refine hv_cVI (rm := rm_X7_metBy) (As := [.int v1]) (rest := []) (k := 1) (ci := 7) hx hb hml hown hKK hH cf7 k1 (m_X7_metBy v0 v1 _ _ hw) cw_X7_124 ⟨Nat.le_of_ble_eq_true rfl, Nat.le_of_ble_eq_true rfl⟩ rfl hl.1 rfl (Nat.le_of_ble_eq_true rfl) ⟨Nat.le_of_ble_eq_true rfl, Nat.le_of_ble_eq_true rfl⟩ dX7_meets_2 (fun r3 h2 H locs hH hw => ?_)
  refine lv_istore_n (lv' := [(2, .int r3), (0, .ref v0), (1, .int v1)]) hx hb dX7_meets_5 rfl hl (by decide) rfl (fun ls hl => ?_)
  refine lv_iload_n hx hb dX7_meets_6 rfl (lv_at hl 0 rfl) ?_
  refine lv_if_ge (tgt := 11) hx hb dX7_meets_7 (by decide) (fun c4 => ?_) (fun c4 => ?_)
  · have hw := ite_t hw c4
    refine lv_aload_n hx hb dX7_meets_11 rfl (lv_at hl 1 rfl) ?_
    refine lv_aload_n hx hb dX7_meets_12 rfl (lv_at hl 1 rfl) ?_
    refine hv_get (ci := 7) (k := 15) (v := .int (h2 v0 15)) hx hb hown hKK hH cf7 (by decide) fl_X7_127 rfl k1 rfl dX7_meets_13 ?_
    refine lv_iconst (v := (nI 1)) hx hb dX7_meets_16 (by decide) ?_
    refine lv_iadd hx hb dX7_meets_17 ?_
    refine lv_sipush (v := (nI 9999)) hx hb dX7_meets_18 (by decide) ?_
    refine hv_cSI (rm := rm_X7_held) (As := [.int ((h2 v0 15) + (nI 1)), .int (nI 9999)]) (rest := [.ref v0]) (k := 2) hx hb hml hown hKK hH (m_X7_held ((h2 v0 15) + (nI 1)) (nI 9999) _ _ hw) cw_X7_115 ⟨Nat.le_of_ble_eq_true rfl, Nat.le_of_ble_eq_true rfl⟩ rfl hl.1 rfl (Nat.le_of_ble_eq_true rfl) ⟨Nat.le_of_ble_eq_true rfl, Nat.le_of_ble_eq_true rfl⟩ dX7_meets_21 (fun r6 h5 H locs hH hw => ?_)
    refine hv_put (ci := 7) (k := 15) hx hb hown hKK hH cf7 (by decide) fl_X7_127 rfl rfl rfl k1 rfl rfl dX7_meets_24 (fun H locs hH => ?_)
    refine lv_aload_n hx hb dX7_meets_27 rfl (lv_at hl 1 rfl) ?_
    refine lv_iload_n hx hb dX7_meets_28 rfl (lv_at hl 2 rfl) ?_
    refine lv_iload_n hx hb dX7_meets_29 rfl (lv_at hl 0 rfl) ?_
    refine hv_cVI (rm := rm_X7_lesserOf) (As := [.int v1, .int r3]) (rest := []) (k := 2) (ci := 7) hx hb hml hown hKK hH cf7 k1 (m_X7_lesserOf v0 v1 r3 _ _ hw) cw_X7_130 ⟨Nat.le_of_ble_eq_true rfl, Nat.le_of_ble_eq_true rfl⟩ rfl hl.1 rfl (Nat.le_of_ble_eq_true rfl) ⟨Nat.le_of_ble_eq_true rfl, Nat.le_of_ble_eq_true rfl⟩ dX7_meets_30 (fun r8 h7 H locs hH hw => ?_)
    refine lv_istore_n (lv' := [(3, .int r8), (2, .int r3), (0, .ref v0), (1, .int v1)]) hx hb dX7_meets_33 rfl hl (by decide) rfl (fun ls hl => ?_)
    refine lv_iload_n hx hb dX7_meets_34 rfl (lv_at hl 3 rfl) ?_
    refine lv_iload_n hx hb dX7_meets_35 rfl (lv_at hl 1 rfl) ?_
    refine lv_iadd hx hb dX7_meets_36 ?_
    refine lv_iload_n hx hb dX7_meets_37 rfl (lv_at hl 0 rfl) ?_
    refine lv_isub hx hb dX7_meets_38 ?_
    refine lv_istore (lv' := [(4, .int ((v1 + r3) - r8)), (3, .int r8), (2, .int r3), (0, .ref v0), (1, .int v1)]) hx hb dX7_meets_39 hl (by decide) rfl (fun ls hl => ?_)
    refine lv_aload_n hx hb dX7_meets_41 rfl (lv_at hl 3 rfl) ?_
    refine hv_get (ci := 7) (k := 9) (v := .ref (S.2 v0 9)) hx hb hown hKK hH cf7 (by decide) fl_X7_37 rfl k1 rfl dX7_meets_42 ?_
    refine lv_iload_n hx hb dX7_meets_45 rfl (lv_at hl 1 rfl) ?_
    obtain ⟨k9, hw⟩ := hw
    refine hv_iald hx hb hKK hH k9 dX7_meets_46 ?_
    refine lv_iconst (v := (nI 2)) hx hb dX7_meets_47 (by decide) ?_
    refine lv_idiv hx hb dX7_meets_48 (by decide) ?_
    refine lv_istore (lv' := [(5, .int ((h7 (S.2 v0 9) (ix r8)) / (nI 2))), (4, .int ((v1 + r3) - r8)), (3, .int r8), (2, .int r3), (0, .ref v0), (1, .int v1)]) hx hb dX7_meets_49 hl (by decide) rfl (fun ls hl => ?_)
    refine lv_aload_n hx hb dX7_meets_51 rfl (lv_at hl 4 rfl) ?_
    refine lv_iload_n hx hb dX7_meets_52 rfl (lv_at hl 2 rfl) ?_
    refine hv_cVV (rm := rm_X7_turnsBack) (As := [.int r8]) (rest := []) (k := 1) (ci := 7) hx hb hml hown hKK hH cf7 k1 (m_X7_turnsBack v0 r8 _ _ hw) cw_X7_103 ⟨Nat.le_of_ble_eq_true rfl, Nat.le_of_ble_eq_true rfl⟩ rfl hl.1 rfl (Nat.le_of_ble_eq_true rfl) ⟨Nat.le_of_ble_eq_true rfl, Nat.le_of_ble_eq_true rfl⟩ dX7_meets_53 (fun h10 H locs hH hw => ?_)
    refine lv_aload_n hx hb dX7_meets_56 rfl (lv_at hl 4 rfl) ?_
    refine hv_get (ci := 7) (k := 9) (v := .ref (S.2 v0 9)) hx hb hown hKK hH cf7 (by decide) fl_X7_37 rfl k1 rfl dX7_meets_57 ?_
    refine lv_iload_n hx hb dX7_meets_60 rfl (lv_at hl 2 rfl) ?_
    refine lv_dup2_11 hx hb dX7_meets_61 rfl rfl ?_
    refine hv_iald hx hb hKK hH k9 dX7_meets_62 ?_
    refine lv_iload hx hb dX7_meets_63 (lv_at hl 0 rfl) ?_
    refine lv_isub hx hb dX7_meets_65 ?_
    refine hv_iast hx hb hKK hH k9 dX7_meets_66 (fun H locs hH => ?_)
    refine lv_aload_n hx hb dX7_meets_67 rfl (lv_at hl 4 rfl) ?_
    refine hv_get (ci := 7) (k := 9) (v := .ref (S.2 v0 9)) hx hb hown hKK hH cf7 (by decide) fl_X7_37 rfl k1 rfl dX7_meets_68 ?_
    refine lv_iload hx hb dX7_meets_71 (lv_at hl 1 rfl) ?_
    refine lv_aload_n hx hb dX7_meets_73 rfl (lv_at hl 4 rfl) ?_
    refine hv_get (ci := 7) (k := 9) (v := .ref (S.2 v0 9)) hx hb hown hKK hH cf7 (by decide) fl_X7_37 rfl k1 rfl dX7_meets_74 ?_
    refine lv_iload hx hb dX7_meets_77 (lv_at hl 1 rfl) ?_
    obtain ⟨k11, hw⟩ := hw
    refine hv_iald hx hb hKK hH k11 dX7_meets_79 ?_
    refine lv_iload hx hb dX7_meets_80 (lv_at hl 0 rfl) ?_
    refine lv_iadd hx hb dX7_meets_82 ?_
    refine lv_bipush (v := (nI 99)) hx hb dX7_meets_83 (by decide) ?_
    refine hv_cSI (rm := rm_X7_held) (As := [.int (((up h10 (S.2 v0 9) (ix r8) ((h10 (S.2 v0 9) (ix r8)) - ((h7 (S.2 v0 9) (ix r8)) / (nI 2)))) (S.2 v0 9) (ix ((v1 + r3) - r8))) + ((h7 (S.2 v0 9) (ix r8)) / (nI 2))), .int (nI 99)]) (rest := [.int ((v1 + r3) - r8), .ref (S.2 v0 9)]) (k := 2) hx hb hml hown hKK hH (m_X7_held (((up h10 (S.2 v0 9) (ix r8) ((h10 (S.2 v0 9) (ix r8)) - ((h7 (S.2 v0 9) (ix r8)) / (nI 2)))) (S.2 v0 9) (ix ((v1 + r3) - r8))) + ((h7 (S.2 v0 9) (ix r8)) / (nI 2))) (nI 99) _ _ hw) cw_X7_115 ⟨Nat.le_of_ble_eq_true rfl, Nat.le_of_ble_eq_true rfl⟩ rfl hl.1 rfl (Nat.le_of_ble_eq_true rfl) ⟨Nat.le_of_ble_eq_true rfl, Nat.le_of_ble_eq_true rfl⟩ dX7_meets_85 (fun r13 h12 H locs hH hw => ?_)
    refine hv_iast hx hb hKK hH k11 dX7_meets_88 (fun H locs hH => ?_)
    exact hv_vret hx hb hr hlk hH hw dX7_meets_89
  · have hw := ite_f hw c4
    exact hv_vret hx hb hr hlk hH hw dX7_meets_10
abbrev rm_X7_goesHead : Room := { frames := 4, cells := 0, slots := 0, locals := 96 }
set_option maxHeartbeats 4000000 in
set_option maxRecDepth 100000 in
theorem m_X7_goesHead {l : Launch} {G : Gl} {B sz : Nat} {S : St} (v0 : Nat) (v1 : Int32) (h : Hp) (Q : Hp → Prop) (hw : w_X7_goesHead S v0 v1 h Q) : MV l G B sz S yX7_goesHead cX7_goesHead 3 rm_X7_goesHead [.ref v0, .int v1] h Q := by
  refine met_of rfl rfl ?_
  intro p e s m args below meth c hMB H ls hH hl
  obtain ⟨hx, hb, hml, hown, hKK, hr, hlk⟩ := hMB
  replace hl : lv_has ls 3 [(0, .ref v0), (1, .int v1)] := hl
  have c61 : ∀  (v0 : Nat) (v1 : Int32) (v2 : Int32) (h : Hp) (H : Heap) (locs : List Loc) (ls : Array Slot), HH G B S h sz s H locs → lv_has ls 3 [(0, .ref v0), (1, .int v1), (2, .int v2)] → w_X7_goesHead_c61 S v0 v1 v2 h Q → W p l e rm_X7_goesHead s m args below meth c H locs 0 0 (QV G B S sz below args s Q) (F0 m 61 ls []) := by
    intro  v0 v1 v2 h H locs ls hH hl hw
    unfold w_X7_goesHead_c61 at hw
    obtain ⟨P61, hP61⟩ : ∃ P : Int32 → Hp → Prop, ∀ (v2 : Int32) (h : Hp), P v2 h ↔ (∀ (H : Heap) (locs : List Loc) (ls : Array Slot), HH G B S h sz s H locs → lv_has ls 3 [(0, .ref v0), (1, .int v1), (2, .int v2)] → W p l e rm_X7_goesHead s m args below meth c H locs 0 0 (QV G B S sz below args s Q) (F0 m 61 ls [])) := ⟨_, fun v2 h => Iff.rfl⟩
    refine (hP61 v2 h).1 (hw P61 (fun v2 h hw => (hP61 v2 h).2 (fun H locs ls hH hl => ?_))) H locs ls hH hl
    have hK61 : ∀ (v2 : Int32) (h : Hp) (H : Heap) (locs : List Loc) (ls : Array Slot), HH G B S h sz s H locs → lv_has ls 3 [(0, .ref v0), (1, .int v1), (2, .int v2)] → P61 v2 h → W p l e rm_X7_goesHead s m args below meth c H locs 0 0 (QV G B S sz below args s Q) (F0 m 61 ls []) := fun v2 h H locs ls hH hl hk => (hP61 v2 h).1 hk H locs ls hH hl
    refine lv_iload_n hx hb dX7_goesHead_61 rfl (lv_at hl 2 rfl) ?_
    refine lv_if_le (tgt := 79) hx hb dX7_goesHead_62 (by decide) (fun c1 => ?_) (fun c1 => ?_)
    · have hw := ite_t hw c1
      refine lv_aload_n hx hb dX7_goesHead_79 rfl (lv_at hl 0 rfl) ?_
      refine lv_iload_n hx hb dX7_goesHead_80 rfl (lv_at hl 1 rfl) ?_
      obtain ⟨k2, hw⟩ := hw
      refine hv_cVV (rm := rm_X7_isFollowed) (As := [.int v1]) (rest := []) (k := 1) (ci := 7) hx hb hml hown hKK hH cf7 k2 (m_X7_isFollowed v0 v1 _ _ hw) cw_X7_148 ⟨Nat.le_of_ble_eq_true rfl, Nat.le_of_ble_eq_true rfl⟩ rfl hl.1 rfl (Nat.le_of_ble_eq_true rfl) ⟨Nat.le_of_ble_eq_true rfl, Nat.le_of_ble_eq_true rfl⟩ dX7_goesHead_81 (fun h3 H locs hH hw => ?_)
      refine lv_aload_n hx hb dX7_goesHead_84 rfl (lv_at hl 0 rfl) ?_
      refine lv_iload_n hx hb dX7_goesHead_85 rfl (lv_at hl 1 rfl) ?_
      refine hv_cVV (rm := rm_X7_meets) (As := [.int v1]) (rest := []) (k := 1) (ci := 7) hx hb hml hown hKK hH cf7 k2 (m_X7_meets v0 v1 _ _ hw) cw_X7_151 ⟨Nat.le_of_ble_eq_true rfl, Nat.le_of_ble_eq_true rfl⟩ rfl hl.1 rfl (Nat.le_of_ble_eq_true rfl) ⟨Nat.le_of_ble_eq_true rfl, Nat.le_of_ble_eq_true rfl⟩ dX7_goesHead_86 (fun h4 H locs hH hw => ?_)
      refine lv_aload_n hx hb dX7_goesHead_89 rfl (lv_at hl 0 rfl) ?_
      refine hv_get (ci := 7) (k := 9) (v := .ref (S.2 v0 9)) hx hb hown hKK hH cf7 (by decide) fl_X7_37 rfl k2 rfl dX7_goesHead_90 ?_
      refine lv_iload_n hx hb dX7_goesHead_93 rfl (lv_at hl 1 rfl) ?_
      obtain ⟨k5, hw⟩ := hw
      refine hv_iald hx hb hKK hH k5 dX7_goesHead_94 ?_
      refine lv_aload_n hx hb dX7_goesHead_95 rfl (lv_at hl 0 rfl) ?_
      refine lv_iload_n hx hb dX7_goesHead_96 rfl (lv_at hl 1 rfl) ?_
      refine hv_cVI (rm := rm_X7_enough) (As := [.int v1]) (rest := [.int (h4 (S.2 v0 9) (ix v1))]) (k := 1) (ci := 7) hx hb hml hown hKK hH cf7 k2 (m_X7_enough v0 v1 _ _ hw) cw_X7_154 ⟨Nat.le_of_ble_eq_true rfl, Nat.le_of_ble_eq_true rfl⟩ rfl hl.1 rfl (Nat.le_of_ble_eq_true rfl) ⟨Nat.le_of_ble_eq_true rfl, Nat.le_of_ble_eq_true rfl⟩ dX7_goesHead_97 (fun r7 h6 H locs hH hw => ?_)
      refine lv_icmp_lt (tgt := 110) hx hb dX7_goesHead_100 (by decide) (fun c8 => ?_) (fun c8 => ?_)
      · have hw := ite_t hw c8
        exact hv_vret hx hb hr hlk hH hw dX7_goesHead_110
      · have hw := ite_f hw c8
        refine lv_aload_n hx hb dX7_goesHead_103 rfl (lv_at hl 0 rfl) ?_
        refine hv_get (ci := 7) (k := 10) (v := .ref (S.2 v0 10)) hx hb hown hKK hH cf7 (by decide) fl_X7_40 rfl k2 rfl dX7_goesHead_104 ?_
        refine lv_iload_n hx hb dX7_goesHead_107 rfl (lv_at hl 1 rfl) ?_
        refine lv_iconst (v := (nI 1)) hx hb dX7_goesHead_108 (by decide) ?_
        obtain ⟨k9, hw⟩ := hw
        refine hv_iast hx hb hKK hH k9 dX7_goesHead_109 (fun H locs hH => ?_)
        exact hv_vret hx hb hr hlk hH hw dX7_goesHead_110
    · have hw := ite_f hw c1
      refine lv_aload_n hx hb dX7_goesHead_65 rfl (lv_at hl 0 rfl) ?_
      refine lv_iload_n hx hb dX7_goesHead_66 rfl (lv_at hl 1 rfl) ?_
      obtain ⟨k10, hw⟩ := hw
      refine hv_cVI (rm := rm_X7_takesStep) (As := [.int v1]) (rest := []) (k := 1) (ci := 7) hx hb hml hown hKK hH cf7 k10 (m_X7_takesStep v0 v1 _ _ hw) cw_X7_145 ⟨Nat.le_of_ble_eq_true rfl, Nat.le_of_ble_eq_true rfl⟩ rfl hl.1 rfl (Nat.le_of_ble_eq_true rfl) ⟨Nat.le_of_ble_eq_true rfl, Nat.le_of_ble_eq_true rfl⟩ dX7_goesHead_67 (fun r12 h11 H locs hH hw => ?_)
      refine lv_if_eq (tgt := 79) hx hb dX7_goesHead_70 (by decide) (fun c13 => ?_) (fun c13 => ?_)
      · have hw := ite_t hw c13
        refine lv_aload_n hx hb dX7_goesHead_79 rfl (lv_at hl 0 rfl) ?_
        refine lv_iload_n hx hb dX7_goesHead_80 rfl (lv_at hl 1 rfl) ?_
        refine hv_cVV (rm := rm_X7_isFollowed) (As := [.int v1]) (rest := []) (k := 1) (ci := 7) hx hb hml hown hKK hH cf7 k10 (m_X7_isFollowed v0 v1 _ _ hw) cw_X7_148 ⟨Nat.le_of_ble_eq_true rfl, Nat.le_of_ble_eq_true rfl⟩ rfl hl.1 rfl (Nat.le_of_ble_eq_true rfl) ⟨Nat.le_of_ble_eq_true rfl, Nat.le_of_ble_eq_true rfl⟩ dX7_goesHead_81 (fun h14 H locs hH hw => ?_)
        refine lv_aload_n hx hb dX7_goesHead_84 rfl (lv_at hl 0 rfl) ?_
        refine lv_iload_n hx hb dX7_goesHead_85 rfl (lv_at hl 1 rfl) ?_
        refine hv_cVV (rm := rm_X7_meets) (As := [.int v1]) (rest := []) (k := 1) (ci := 7) hx hb hml hown hKK hH cf7 k10 (m_X7_meets v0 v1 _ _ hw) cw_X7_151 ⟨Nat.le_of_ble_eq_true rfl, Nat.le_of_ble_eq_true rfl⟩ rfl hl.1 rfl (Nat.le_of_ble_eq_true rfl) ⟨Nat.le_of_ble_eq_true rfl, Nat.le_of_ble_eq_true rfl⟩ dX7_goesHead_86 (fun h15 H locs hH hw => ?_)
        refine lv_aload_n hx hb dX7_goesHead_89 rfl (lv_at hl 0 rfl) ?_
        refine hv_get (ci := 7) (k := 9) (v := .ref (S.2 v0 9)) hx hb hown hKK hH cf7 (by decide) fl_X7_37 rfl k10 rfl dX7_goesHead_90 ?_
        refine lv_iload_n hx hb dX7_goesHead_93 rfl (lv_at hl 1 rfl) ?_
        obtain ⟨k16, hw⟩ := hw
        refine hv_iald hx hb hKK hH k16 dX7_goesHead_94 ?_
        refine lv_aload_n hx hb dX7_goesHead_95 rfl (lv_at hl 0 rfl) ?_
        refine lv_iload_n hx hb dX7_goesHead_96 rfl (lv_at hl 1 rfl) ?_
        refine hv_cVI (rm := rm_X7_enough) (As := [.int v1]) (rest := [.int (h15 (S.2 v0 9) (ix v1))]) (k := 1) (ci := 7) hx hb hml hown hKK hH cf7 k10 (m_X7_enough v0 v1 _ _ hw) cw_X7_154 ⟨Nat.le_of_ble_eq_true rfl, Nat.le_of_ble_eq_true rfl⟩ rfl hl.1 rfl (Nat.le_of_ble_eq_true rfl) ⟨Nat.le_of_ble_eq_true rfl, Nat.le_of_ble_eq_true rfl⟩ dX7_goesHead_97 (fun r18 h17 H locs hH hw => ?_)
        refine lv_icmp_lt (tgt := 110) hx hb dX7_goesHead_100 (by decide) (fun c19 => ?_) (fun c19 => ?_)
        · have hw := ite_t hw c19
          exact hv_vret hx hb hr hlk hH hw dX7_goesHead_110
        · have hw := ite_f hw c19
          refine lv_aload_n hx hb dX7_goesHead_103 rfl (lv_at hl 0 rfl) ?_
          refine hv_get (ci := 7) (k := 10) (v := .ref (S.2 v0 10)) hx hb hown hKK hH cf7 (by decide) fl_X7_40 rfl k10 rfl dX7_goesHead_104 ?_
          refine lv_iload_n hx hb dX7_goesHead_107 rfl (lv_at hl 1 rfl) ?_
          refine lv_iconst (v := (nI 1)) hx hb dX7_goesHead_108 (by decide) ?_
          obtain ⟨k20, hw⟩ := hw
          refine hv_iast hx hb hKK hH k20 dX7_goesHead_109 (fun H locs hH => ?_)
          exact hv_vret hx hb hr hlk hH hw dX7_goesHead_110
      · have hw := ite_f hw c13
        refine lv_iinc (v := v2 + (-1)) (lv' := [(2, .int (v2 + (-1))), (0, .ref v0), (1, .int v1)]) hx hb dX7_goesHead_73 hl (k := 2) rfl rfl (by decide) rfl (fun ls hl => ?_)
        refine lv_goto (tgt := 61) hx hb dX7_goesHead_76 (by decide) ?_
        exact hK61 _ _ H locs ls hH (lv_sub hl [1, 2, 0] rfl) hw
  unfold w_X7_goesHead at hw
  show W p l e rm_X7_goesHead s m args below meth c H [] 0 0 (QV G B S sz below args s Q) (F0 m 0 ls [])
  generalize ([] : List Loc) = locs at hH ⊢
  refine lv_aload_n hx hb dX7_goesHead_0 rfl (lv_at hl 0 rfl) ?_
  obtain ⟨k1, hw⟩ := hw
  refine hv_get (ci := 7) (k := 10) (v := .ref (S.2 v0 10)) hx hb hown hKK hH cf7 (by decide) fl_X7_40 rfl k1 rfl dX7_goesHead_1 ?_
  refine lv_iload_n hx hb dX7_goesHead_4 rfl (lv_at hl 1 rfl) ?_
  obtain ⟨k2, hw⟩ := hw
  refine hv_iald hx hb hKK hH k2 dX7_goesHead_5 ?_
  refine lv_iconst (v := (nI 1)) hx hb dX7_goesHead_6 (by decide) ?_
  refine lv_icmp_eq (tgt := 20) hx hb dX7_goesHead_7 (by decide) (fun c3 => ?_) (fun c3 => ?_)
  · have hw := ite_t hw c3
    exact hv_vret hx hb hr hlk hH hw dX7_goesHead_20
  · have hw := ite_f hw c3
    refine lv_aload_n hx hb dX7_goesHead_10 rfl (lv_at hl 0 rfl) ?_
    refine hv_get (ci := 7) (k := 8) (v := .ref (S.2 v0 8)) hx hb hown hKK hH cf7 (by decide) fl_X7_34 rfl k1 rfl dX7_goesHead_11 ?_
    refine lv_iload_n hx hb dX7_goesHead_14 rfl (lv_at hl 1 rfl) ?_
    obtain ⟨k4, hw⟩ := hw
    refine hv_iald hx hb hKK hH k4 dX7_goesHead_15 ?_
    refine lv_iconst (v := (nI 4)) hx hb dX7_goesHead_16 (by decide) ?_
    refine lv_icmp_ne (tgt := 21) hx hb dX7_goesHead_17 (by decide) (fun c5 => ?_) (fun c5 => ?_)
    · have hw := ite_f hw c5
      refine lv_aload_n hx hb dX7_goesHead_21 rfl (lv_at hl 0 rfl) ?_
      refine hv_get (ci := 7) (k := 7) (v := .ref (S.2 v0 7)) hx hb hown hKK hH cf7 (by decide) fl_X7_31 rfl k1 rfl dX7_goesHead_22 ?_
      refine lv_iload_n hx hb dX7_goesHead_25 rfl (lv_at hl 1 rfl) ?_
      refine lv_aload_n hx hb dX7_goesHead_26 rfl (lv_at hl 0 rfl) ?_
      refine hv_get (ci := 7) (k := 7) (v := .ref (S.2 v0 7)) hx hb hown hKK hH cf7 (by decide) fl_X7_31 rfl k1 rfl dX7_goesHead_27 ?_
      refine lv_iload_n hx hb dX7_goesHead_30 rfl (lv_at hl 1 rfl) ?_
      obtain ⟨k6, hw⟩ := hw
      refine hv_iald hx hb hKK hH k6 dX7_goesHead_31 ?_
      refine lv_aload_n hx hb dX7_goesHead_32 rfl (lv_at hl 0 rfl) ?_
      refine hv_get (ci := 7) (k := 8) (v := .ref (S.2 v0 8)) hx hb hown hKK hH cf7 (by decide) fl_X7_34 rfl k1 rfl dX7_goesHead_33 ?_
      refine lv_iload_n hx hb dX7_goesHead_36 rfl (lv_at hl 1 rfl) ?_
      refine hv_iald hx hb hKK hH k4 dX7_goesHead_37 ?_
      refine hv_cSI (rm := rm_X7_quarters) (As := [.int (h (S.2 v0 8) (ix v1))]) (rest := [.int (h (S.2 v0 7) (ix v1)), .int v1, .ref (S.2 v0 7)]) (k := 1) hx hb hml hown hKK hH (m_X7_quarters (h (S.2 v0 8) (ix v1)) _ _ hw) cw_X7_133 ⟨Nat.le_of_ble_eq_true rfl, Nat.le_of_ble_eq_true rfl⟩ rfl hl.1 rfl (Nat.le_of_ble_eq_true rfl) ⟨Nat.le_of_ble_eq_true rfl, Nat.le_of_ble_eq_true rfl⟩ dX7_goesHead_38 (fun r8 h7 H locs hH hw => ?_)
      refine lv_iadd hx hb dX7_goesHead_41 ?_
      refine lv_aload_n hx hb dX7_goesHead_42 rfl (lv_at hl 0 rfl) ?_
      refine lv_iload_n hx hb dX7_goesHead_43 rfl (lv_at hl 1 rfl) ?_
      refine lv_aload_n hx hb dX7_goesHead_44 rfl (lv_at hl 0 rfl) ?_
      refine hv_get (ci := 7) (k := 14) (v := .int (h7 v0 14)) hx hb hown hKK hH cf7 (by decide) fl_X7_136 rfl k1 rfl dX7_goesHead_45 ?_
      refine hv_cVI (rm := rm_X7_veers) (As := [.int v1, .int (h7 v0 14)]) (rest := [.int ((h (S.2 v0 7) (ix v1)) + r8), .int v1, .ref (S.2 v0 7)]) (k := 2) (ci := 7) hx hb hml hown hKK hH cf7 k1 (m_X7_veers v0 v1 (h7 v0 14) _ _ hw) cw_X7_139 ⟨Nat.le_of_ble_eq_true rfl, Nat.le_of_ble_eq_true rfl⟩ rfl hl.1 rfl (Nat.le_of_ble_eq_true rfl) ⟨Nat.le_of_ble_eq_true rfl, Nat.le_of_ble_eq_true rfl⟩ dX7_goesHead_48 (fun r10 h9 H locs hH hw => ?_)
      refine lv_iadd hx hb dX7_goesHead_51 ?_
      refine lv_iconst (v := (nI 4)) hx hb dX7_goesHead_52 (by decide) ?_
      refine lv_irem hx hb dX7_goesHead_53 (by decide) ?_
      refine hv_iast hx hb hKK hH k6 dX7_goesHead_54 (fun H locs hH => ?_)
      refine lv_aload_n hx hb dX7_goesHead_55 rfl (lv_at hl 0 rfl) ?_
      refine lv_iload_n hx hb dX7_goesHead_56 rfl (lv_at hl 1 rfl) ?_
      refine hv_cVI (rm := rm_X7_steps) (As := [.int v1]) (rest := []) (k := 1) (ci := 7) hx hb hml hown hKK hH cf7 k1 (m_X7_steps v0 v1 _ _ hw) cw_X7_142 ⟨Nat.le_of_ble_eq_true rfl, Nat.le_of_ble_eq_true rfl⟩ rfl hl.1 rfl (Nat.le_of_ble_eq_true rfl) ⟨Nat.le_of_ble_eq_true rfl, Nat.le_of_ble_eq_true rfl⟩ dX7_goesHead_57 (fun r12 h11 H locs hH hw => ?_)
      refine lv_istore_n (lv' := [(2, .int r12), (0, .ref v0), (1, .int v1)]) hx hb dX7_goesHead_60 rfl hl (by decide) rfl (fun ls hl => ?_)
      exact c61 _ _ _ _ H locs ls hH (lv_sub hl [1, 2, 0] rfl) hw
    · have hw := ite_t hw c5
      exact hv_vret hx hb hr hlk hH hw dX7_goesHead_20
abbrev rm_X7_goesNight : Room := { frames := 5, cells := 0, slots := 0, locals := 118 }
set_option maxHeartbeats 4000000 in
set_option maxRecDepth 100000 in
theorem m_X7_goesNight {l : Launch} {G : Gl} {B sz : Nat} {S : St} (v0 : Nat) (h : Hp) (Q : Hp → Prop) (hw : w_X7_goesNight S v0 h Q) : MV l G B sz S yX7_goesNight cX7_goesNight 2 rm_X7_goesNight [.ref v0] h Q := by
  refine met_of rfl rfl ?_
  intro p e s m args below meth c hMB H ls hH hl
  obtain ⟨hx, hb, hml, hown, hKK, hr, hlk⟩ := hMB
  replace hl : lv_has ls 2 [(0, .ref v0)] := hl
  have c12 : ∀  (v0 : Nat) (v1 : Int32) (h : Hp) (H : Heap) (locs : List Loc) (ls : Array Slot), HH G B S h sz s H locs → lv_has ls 2 [(0, .ref v0), (1, .int v1)] → w_X7_goesNight_c12 S v0 v1 h Q → W p l e rm_X7_goesNight s m args below meth c H locs 0 0 (QV G B S sz below args s Q) (F0 m 12 ls []) := by
    intro  v0 v1 h H locs ls hH hl hw
    unfold w_X7_goesNight_c12 at hw
    obtain ⟨P12, hP12⟩ : ∃ P : Int32 → Hp → Prop, ∀ (v1 : Int32) (h : Hp), P v1 h ↔ (∀ (H : Heap) (locs : List Loc) (ls : Array Slot), HH G B S h sz s H locs → lv_has ls 2 [(0, .ref v0), (1, .int v1)] → W p l e rm_X7_goesNight s m args below meth c H locs 0 0 (QV G B S sz below args s Q) (F0 m 12 ls [])) := ⟨_, fun v1 h => Iff.rfl⟩
    refine (hP12 v1 h).1 (hw P12 (fun v1 h hw => (hP12 v1 h).2 (fun H locs ls hH hl => ?_))) H locs ls hH hl
    have hK12 : ∀ (v1 : Int32) (h : Hp) (H : Heap) (locs : List Loc) (ls : Array Slot), HH G B S h sz s H locs → lv_has ls 2 [(0, .ref v0), (1, .int v1)] → P12 v1 h → W p l e rm_X7_goesNight s m args below meth c H locs 0 0 (QV G B S sz below args s Q) (F0 m 12 ls []) := fun v1 h H locs ls hH hl hk => (hP12 v1 h).1 hk H locs ls hH hl
    refine lv_iload_n hx hb dX7_goesNight_12 rfl (lv_at hl 1 rfl) ?_
    refine lv_aload_n hx hb dX7_goesNight_13 rfl (lv_at hl 0 rfl) ?_
    obtain ⟨k1, hw⟩ := hw
    refine hv_get (ci := 7) (k := 13) (v := .int (h v0 13)) hx hb hown hKK hH cf7 (by decide) fl_X7_79 rfl k1 rfl dX7_goesNight_14 ?_
    refine lv_icmp_ge (tgt := 31) hx hb dX7_goesNight_17 (by decide) (fun c2 => ?_) (fun c2 => ?_)
    · have hw := ite_t hw c2
      exact hv_vret hx hb hr hlk hH hw dX7_goesNight_31
    · have hw := ite_f hw c2
      refine lv_aload_n hx hb dX7_goesNight_20 rfl (lv_at hl 0 rfl) ?_
      refine lv_iload_n hx hb dX7_goesNight_21 rfl (lv_at hl 1 rfl) ?_
      refine hv_cVV (rm := rm_X7_goesHead) (As := [.int v1]) (rest := []) (k := 1) (ci := 7) hx hb hml hown hKK hH cf7 k1 (m_X7_goesHead v0 v1 _ _ hw) cw_X7_157 ⟨Nat.le_of_ble_eq_true rfl, Nat.le_of_ble_eq_true rfl⟩ rfl hl.1 rfl (Nat.le_of_ble_eq_true rfl) ⟨Nat.le_of_ble_eq_true rfl, Nat.le_of_ble_eq_true rfl⟩ dX7_goesNight_22 (fun h3 H locs hH hw => ?_)
      refine lv_iinc (v := v1 + (nI 1)) (lv' := [(1, .int (v1 + (nI 1))), (0, .ref v0)]) hx hb dX7_goesNight_25 hl (k := 1) rfl rfl (by decide) rfl (fun ls hl => ?_)
      refine lv_goto (tgt := 12) hx hb dX7_goesNight_28 (by decide) ?_
      exact hK12 _ _ H locs ls hH (lv_sub hl [1, 0] rfl) hw
  unfold w_X7_goesNight at hw
  show W p l e rm_X7_goesNight s m args below meth c H [] 0 0 (QV G B S sz below args s Q) (F0 m 0 ls [])
  generalize ([] : List Loc) = locs at hH ⊢
  refine lv_aload_n hx hb dX7_goesNight_0 rfl (lv_at hl 0 rfl) ?_
  refine lv_dup hx hb dX7_goesNight_1 rfl ?_
  obtain ⟨k1, hw⟩ := hw
  refine hv_get (ci := 7) (k := 14) (v := .int (h v0 14)) hx hb hown hKK hH cf7 (by decide) fl_X7_136 rfl k1 rfl dX7_goesNight_2 ?_
  refine lv_iconst (v := (nI 1)) hx hb dX7_goesNight_5 (by decide) ?_
  refine lv_iadd hx hb dX7_goesNight_6 ?_
  refine hv_put (ci := 7) (k := 14) hx hb hown hKK hH cf7 (by decide) fl_X7_136 rfl rfl rfl k1 rfl rfl dX7_goesNight_7 (fun H locs hH => ?_)
  refine lv_iconst (v := (nI 0)) hx hb dX7_goesNight_10 (by decide) ?_
  refine lv_istore_n (lv' := [(1, .int (nI 0)), (0, .ref v0)]) hx hb dX7_goesNight_11 rfl hl (by decide) rfl (fun ls hl => ?_)
  exact c12 _ _ _ H locs ls hH (lv_sub hl [1, 0] rfl) hw
abbrev rm_X7_goes : Room := { frames := 6, cells := 0, slots := 0, locals := 139 }
set_option maxHeartbeats 4000000 in
set_option maxRecDepth 100000 in
theorem m_X7_goes {l : Launch} {G : Gl} {B sz : Nat} {S : St} (v0 : Nat) (v1 : Int32) (h : Hp) (Q : Hp → Prop) (hw : w_X7_goes S v0 v1 h Q) : MV l G B sz S yX7_goes cX7_goes 3 rm_X7_goes [.ref v0, .int v1] h Q := by
  refine met_of rfl rfl ?_
  intro p e s m args below meth c hMB H ls hH hl
  obtain ⟨hx, hb, hml, hown, hKK, hr, hlk⟩ := hMB
  replace hl : lv_has ls 3 [(0, .ref v0), (1, .int v1)] := hl
  have c2 : ∀  (v0 : Nat) (v1 : Int32) (v2 : Int32) (h : Hp) (H : Heap) (locs : List Loc) (ls : Array Slot), HH G B S h sz s H locs → lv_has ls 3 [(0, .ref v0), (1, .int v1), (2, .int v2)] → w_X7_goes_c2 S v0 v1 v2 h Q → W p l e rm_X7_goes s m args below meth c H locs 0 0 (QV G B S sz below args s Q) (F0 m 2 ls []) := by
    intro  v0 v1 v2 h H locs ls hH hl hw
    unfold w_X7_goes_c2 at hw
    obtain ⟨P2, hP2⟩ : ∃ P : Int32 → Hp → Prop, ∀ (v2 : Int32) (h : Hp), P v2 h ↔ (∀ (H : Heap) (locs : List Loc) (ls : Array Slot), HH G B S h sz s H locs → lv_has ls 3 [(0, .ref v0), (1, .int v1), (2, .int v2)] → W p l e rm_X7_goes s m args below meth c H locs 0 0 (QV G B S sz below args s Q) (F0 m 2 ls [])) := ⟨_, fun v2 h => Iff.rfl⟩
    refine (hP2 v2 h).1 (hw P2 (fun v2 h hw => (hP2 v2 h).2 (fun H locs ls hH hl => ?_))) H locs ls hH hl
    have hK2 : ∀ (v2 : Int32) (h : Hp) (H : Heap) (locs : List Loc) (ls : Array Slot), HH G B S h sz s H locs → lv_has ls 3 [(0, .ref v0), (1, .int v1), (2, .int v2)] → P2 v2 h → W p l e rm_X7_goes s m args below meth c H locs 0 0 (QV G B S sz below args s Q) (F0 m 2 ls []) := fun v2 h H locs ls hH hl hk => (hP2 v2 h).1 hk H locs ls hH hl
    refine lv_iload_n hx hb dX7_goes_2 rfl (lv_at hl 2 rfl) ?_
    refine lv_iload_n hx hb dX7_goes_3 rfl (lv_at hl 1 rfl) ?_
    refine lv_icmp_ge (tgt := 17) hx hb dX7_goes_4 (by decide) (fun c1 => ?_) (fun c1 => ?_)
    · have hw := ite_t hw c1
      exact hv_vret hx hb hr hlk hH hw dX7_goes_17
    · have hw := ite_f hw c1
      refine lv_aload_n hx hb dX7_goes_7 rfl (lv_at hl 0 rfl) ?_
      obtain ⟨k2, hw⟩ := hw
      refine hv_cVV (rm := rm_X7_goesNight) (As := []) (rest := []) (k := 0) (ci := 7) hx hb hml hown hKK hH cf7 k2 (m_X7_goesNight v0 _ _ hw) cw_X7_160 ⟨Nat.le_of_ble_eq_true rfl, Nat.le_of_ble_eq_true rfl⟩ rfl hl.1 rfl (Nat.le_of_ble_eq_true rfl) ⟨Nat.le_of_ble_eq_true rfl, Nat.le_of_ble_eq_true rfl⟩ dX7_goes_8 (fun h3 H locs hH hw => ?_)
      refine lv_iinc (v := v2 + (nI 1)) (lv' := [(2, .int (v2 + (nI 1))), (0, .ref v0), (1, .int v1)]) hx hb dX7_goes_11 hl (k := 2) rfl rfl (by decide) rfl (fun ls hl => ?_)
      refine lv_goto (tgt := 2) hx hb dX7_goes_14 (by decide) ?_
      exact hK2 _ _ H locs ls hH (lv_sub hl [1, 2, 0] rfl) hw
  unfold w_X7_goes at hw
  show W p l e rm_X7_goes s m args below meth c H [] 0 0 (QV G B S sz below args s Q) (F0 m 0 ls [])
  generalize ([] : List Loc) = locs at hH ⊢
  refine lv_iconst (v := (nI 0)) hx hb dX7_goes_0 (by decide) ?_
  refine lv_istore_n (lv' := [(2, .int (nI 0)), (0, .ref v0), (1, .int v1)]) hx hb dX7_goes_1 rfl hl (by decide) rfl (fun ls hl => ?_)
  exact c2 _ _ _ _ H locs ls hH (lv_sub hl [1, 2, 0] rfl) hw
abbrev rm_X7_feed : Room := { frames := 1, cells := 0, slots := 0, locals := 22 }
set_option maxHeartbeats 4000000 in
set_option maxRecDepth 100000 in
theorem m_X7_feed {l : Launch} {G : Gl} {B sz : Nat} {S : St} (v0 : Nat) (v1 : Int32) (h : Hp) (Q : Int32 → Hp → Prop) (hw : w_X7_feed S v0 v1 h Q) : MI l G B sz S yX7_feed cX7_feed 3 .int rm_X7_feed [.ref v0, .int v1] h Q := by
  refine met_of rfl rfl ?_
  intro p e s m args below meth c hMB H ls hH hl
  obtain ⟨hx, hb, hml, hown, hKK, hr, hlk⟩ := hMB
  replace hl : lv_has ls 3 [(0, .ref v0), (1, .int v1)] := hl
  unfold w_X7_feed at hw
  show W p l e rm_X7_feed s m args below meth c H [] 0 0 (QI G B S sz below args s Q) (F0 m 0 ls [])
  generalize ([] : List Loc) = locs at hH ⊢
  refine lv_iload_n hx hb dX7_feed_0 rfl (lv_at hl 1 rfl) ?_
  refine lv_iconst (v := (nI 0)) hx hb dX7_feed_1 (by decide) ?_
  refine lv_sipush (v := (nI 255)) hx hb dX7_feed_2 (by decide) ?_
  refine hv_cSI (rm := rm_X7_bound) (As := [.int v1, .int (nI 0), .int (nI 255)]) (rest := []) (k := 3) hx hb hml hown hKK hH (m_X7_bound v1 (nI 0) (nI 255) _ _ hw) cw_X7_163 ⟨Nat.le_of_ble_eq_true rfl, Nat.le_of_ble_eq_true rfl⟩ rfl hl.1 rfl (Nat.le_of_ble_eq_true rfl) ⟨Nat.le_of_ble_eq_true rfl, Nat.le_of_ble_eq_true rfl⟩ dX7_feed_5 (fun r2 h1 H locs hH hw => ?_)
  refine lv_istore_n (lv' := [(2, .int r2), (0, .ref v0), (1, .int v1)]) hx hb dX7_feed_8 rfl hl (by decide) rfl (fun ls hl => ?_)
  refine lv_iload_n hx hb dX7_feed_9 rfl (lv_at hl 0 rfl) ?_
  refine lv_if_ne (tgt := 25) hx hb dX7_feed_10 (by decide) (fun c3 => ?_) (fun c3 => ?_)
  · have hw := ite_f hw c3
    refine lv_iload_n hx hb dX7_feed_25 rfl (lv_at hl 0 rfl) ?_
    refine lv_if_eq (tgt := 35) hx hb dX7_feed_26 (by decide) (fun c => absurd c c3) (fun _ => ?_)
    refine lv_aload_n hx hb dX7_feed_29 rfl (lv_at hl 1 rfl) ?_
    refine lv_iload_n hx hb dX7_feed_30 rfl (lv_at hl 0 rfl) ?_
    obtain ⟨k9, hw⟩ := hw
    refine hv_cVI (rm := rm_X7_no) (As := [.int r2]) (rest := []) (k := 1) (ci := 7) hx hb hml hown hKK hH cf7 k9 (m_X7_no v0 r2 _ _ hw) cw_X7_170 ⟨Nat.le_of_ble_eq_true rfl, Nat.le_of_ble_eq_true rfl⟩ rfl hl.1 rfl (Nat.le_of_ble_eq_true rfl) ⟨Nat.le_of_ble_eq_true rfl, Nat.le_of_ble_eq_true rfl⟩ dX7_feed_31 (fun r11 h10 H locs hH hw => ?_)
    exact hv_iret hx hb hr hlk hH hw dX7_feed_34
  · have hw := ite_t hw c3
    refine lv_aload_n hx hb dX7_feed_13 rfl (lv_at hl 1 rfl) ?_
    obtain ⟨k4, hw⟩ := hw
    refine hv_get (ci := 7) (k := 22) (v := .int (h1 v0 22)) hx hb hown hKK hH cf7 (by decide) fl_X7_167 rfl k4 rfl dX7_feed_14 ?_
    refine lv_bipush (v := (nI 96)) hx hb dX7_feed_17 (by decide) ?_
    refine lv_icmp_ne (tgt := 25) hx hb dX7_feed_19 (by decide) (fun c5 => ?_) (fun c5 => ?_)
    · have hw := ite_f hw c5
      refine lv_iload_n hx hb dX7_feed_25 rfl (lv_at hl 0 rfl) ?_
      refine lv_if_eq (tgt := 35) hx hb dX7_feed_26 (by decide) (fun _ => ?_) (fun c => absurd c3 c)
      refine lv_aload_n hx hb dX7_feed_35 rfl (lv_at hl 1 rfl) ?_
      refine hv_get (ci := 7) (k := 16) (v := .ref (S.2 v0 16)) hx hb hown hKK hH cf7 (by decide) fl_X7_49 rfl k4 rfl dX7_feed_36 ?_
      refine lv_aload_n hx hb dX7_feed_39 rfl (lv_at hl 1 rfl) ?_
      refine hv_get (ci := 7) (k := 22) (v := .int (h1 v0 22)) hx hb hown hKK hH cf7 (by decide) fl_X7_167 rfl k4 rfl dX7_feed_40 ?_
      refine lv_iload_n hx hb dX7_feed_43 rfl (lv_at hl 2 rfl) ?_
      obtain ⟨k8, hw⟩ := hw
      refine hv_iast hx hb hKK hH k8 dX7_feed_44 (fun H locs hH => ?_)
      refine lv_aload_n hx hb dX7_feed_45 rfl (lv_at hl 1 rfl) ?_
      refine lv_dup hx hb dX7_feed_46 rfl ?_
      refine hv_get (ci := 7) (k := 22) (v := .int ((up h1 (S.2 v0 16) (ix (h1 v0 22)) v1) v0 22)) hx hb hown hKK hH cf7 (by decide) fl_X7_167 rfl k4 rfl dX7_feed_47 ?_
      refine lv_iconst (v := (nI 1)) hx hb dX7_feed_50 (by decide) ?_
      refine lv_iadd hx hb dX7_feed_51 ?_
      refine hv_put (ci := 7) (k := 22) hx hb hown hKK hH cf7 (by decide) fl_X7_167 rfl rfl rfl k4 rfl rfl dX7_feed_52 (fun H locs hH => ?_)
      refine lv_aload_n hx hb dX7_feed_55 rfl (lv_at hl 1 rfl) ?_
      refine hv_get (ci := 7) (k := 22) (v := .int ((up (up h1 (S.2 v0 16) (ix (h1 v0 22)) v1) v0 22 (((up h1 (S.2 v0 16) (ix (h1 v0 22)) v1) v0 22) + (nI 1))) v0 22)) hx hb hown hKK hH cf7 (by decide) fl_X7_167 rfl k4 rfl dX7_feed_56 ?_
      exact hv_iret hx hb hr hlk hH hw dX7_feed_59
    · have hw := ite_t hw c5
      refine lv_bipush (v := (-6)) hx hb dX7_feed_22 (by decide) ?_
      refine lv_istore_n (lv' := [(2, .int (-6)), (0, .ref v0), (1, .int v1)]) hx hb dX7_feed_24 rfl hl (by decide) rfl (fun ls hl => ?_)
      refine lv_iload_n hx hb dX7_feed_25 rfl (lv_at hl 0 rfl) ?_
      refine lv_if_eq (tgt := 35) hx hb dX7_feed_26 (by decide) (fun c => absurd c (by decide)) (fun _ => ?_)
      refine lv_aload_n hx hb dX7_feed_29 rfl (lv_at hl 1 rfl) ?_
      refine lv_iload_n hx hb dX7_feed_30 rfl (lv_at hl 0 rfl) ?_
      refine hv_cVI (rm := rm_X7_no) (As := [.int (-6)]) (rest := []) (k := 1) (ci := 7) hx hb hml hown hKK hH cf7 k4 (m_X7_no v0 (-6) _ _ hw) cw_X7_170 ⟨Nat.le_of_ble_eq_true rfl, Nat.le_of_ble_eq_true rfl⟩ rfl hl.1 rfl (Nat.le_of_ble_eq_true rfl) ⟨Nat.le_of_ble_eq_true rfl, Nat.le_of_ble_eq_true rfl⟩ dX7_feed_31 (fun r7 h6 H locs hH hw => ?_)
      exact hv_iret hx hb hr hlk hH hw dX7_feed_34
abbrev rm_X7_sign : Room := { frames := 0, cells := 0, slots := 0, locals := 0 }
set_option maxHeartbeats 4000000 in
set_option maxRecDepth 100000 in
theorem m_X7_sign {l : Launch} {G : Gl} {B sz : Nat} {S : St} (v0 : Nat) (h : Hp) (Q : Int32 → Hp → Prop) (hw : w_X7_sign S v0 h Q) : MI l G B sz S yX7_sign cX7_sign 1 .int rm_X7_sign [.ref v0] h Q := by
  refine met_of rfl rfl ?_
  intro p e s m args below meth c hMB H ls hH hl
  obtain ⟨hx, hb, hml, hown, hKK, hr, hlk⟩ := hMB
  replace hl : lv_has ls 1 [(0, .ref v0)] := hl
  unfold w_X7_sign at hw
  show W p l e rm_X7_sign s m args below meth c H [] 0 0 (QI G B S sz below args s Q) (F0 m 0 ls [])
  generalize ([] : List Loc) = locs at hH ⊢
  refine lv_aload_n hx hb dX7_sign_0 rfl (lv_at hl 0 rfl) ?_
  obtain ⟨k1, hw⟩ := hw
  refine hv_get (ci := 7) (k := 23) (v := .int (h v0 23)) hx hb hown hKK hH cf7 (by decide) fl_X7_173 rfl k1 rfl dX7_sign_1 ?_
  refine lv_aload_n hx hb dX7_sign_4 rfl (lv_at hl 0 rfl) ?_
  refine hv_get (ci := 7) (k := 22) (v := .int (h v0 22)) hx hb hown hKK hH cf7 (by decide) fl_X7_167 rfl k1 rfl dX7_sign_5 ?_
  refine lv_icmp_ge (tgt := 23) hx hb dX7_sign_8 (by decide) (fun c2 => ?_) (fun c2 => ?_)
  · have hw := ite_t hw c2
    refine lv_iconst (v := (-1)) hx hb dX7_sign_23 (by decide) ?_
    exact hv_iret hx hb hr hlk hH hw dX7_sign_24
  · have hw := ite_f hw c2
    refine lv_aload_n hx hb dX7_sign_11 rfl (lv_at hl 0 rfl) ?_
    refine hv_get (ci := 7) (k := 16) (v := .ref (S.2 v0 16)) hx hb hown hKK hH cf7 (by decide) fl_X7_49 rfl k1 rfl dX7_sign_12 ?_
    refine lv_aload_n hx hb dX7_sign_15 rfl (lv_at hl 0 rfl) ?_
    refine hv_get (ci := 7) (k := 23) (v := .int (h v0 23)) hx hb hown hKK hH cf7 (by decide) fl_X7_173 rfl k1 rfl dX7_sign_16 ?_
    obtain ⟨k3, hw⟩ := hw
    refine hv_iald hx hb hKK hH k3 dX7_sign_19 ?_
    refine lv_goto (tgt := 24) hx hb dX7_sign_20 (by decide) ?_
    exact hv_iret hx hb hr hlk hH hw dX7_sign_24
abbrev rm_X7_readsSome : Room := { frames := 1, cells := 0, slots := 0, locals := 22 }
set_option maxHeartbeats 4000000 in
set_option maxRecDepth 100000 in
theorem m_X7_readsSome {l : Launch} {G : Gl} {B sz : Nat} {S : St} (v0 : Nat) (v1 : Int32) (v2 : Int32) (v3 : Int32) (h : Hp) (Q : Int32 → Hp → Prop) (hw : w_X7_readsSome S v0 v1 v2 v3 h Q) : MI l G B sz S yX7_readsSome cX7_readsSome 5 .int rm_X7_readsSome [.ref v0, .int v1, .int v2, .int v3] h Q := by
  refine met_of rfl rfl ?_
  intro p e s m args below meth c hMB H ls hH hl
  obtain ⟨hx, hb, hml, hown, hKK, hr, hlk⟩ := hMB
  replace hl : lv_has ls 5 [(0, .ref v0), (1, .int v1), (2, .int v2), (3, .int v3)] := hl
  have c3 : ∀  (v0 : Nat) (v1 : Int32) (v2 : Int32) (v3 : Int32) (v4 : Int32) (h : Hp) (H : Heap) (locs : List Loc) (ls : Array Slot), HH G B S h sz s H locs → lv_has ls 5 [(0, .ref v0), (1, .int v1), (2, .int v2), (3, .int v3), (4, .int v4)] → w_X7_readsSome_c3 S v0 v1 v2 v3 v4 h Q → W p l e rm_X7_readsSome s m args below meth c H locs 0 0 (QI G B S sz below args s Q) (F0 m 3 ls []) := by
    intro  v0 v1 v2 v3 v4 h H locs ls hH hl hw
    unfold w_X7_readsSome_c3 at hw
    obtain ⟨P3, hP3⟩ : ∃ P : Int32 → Hp → Prop, ∀ (v4 : Int32) (h : Hp), P v4 h ↔ (∀ (H : Heap) (locs : List Loc) (ls : Array Slot), HH G B S h sz s H locs → lv_has ls 5 [(0, .ref v0), (1, .int v1), (2, .int v2), (3, .int v3), (4, .int v4)] → W p l e rm_X7_readsSome s m args below meth c H locs 0 0 (QI G B S sz below args s Q) (F0 m 3 ls [])) := ⟨_, fun v4 h => Iff.rfl⟩
    refine (hP3 v4 h).1 (hw P3 (fun v4 h hw => (hP3 v4 h).2 (fun H locs ls hH hl => ?_))) H locs ls hH hl
    have hK3 : ∀ (v4 : Int32) (h : Hp) (H : Heap) (locs : List Loc) (ls : Array Slot), HH G B S h sz s H locs → lv_has ls 5 [(0, .ref v0), (1, .int v1), (2, .int v2), (3, .int v3), (4, .int v4)] → P3 v4 h → W p l e rm_X7_readsSome s m args below meth c H locs 0 0 (QI G B S sz below args s Q) (F0 m 3 ls []) := fun v4 h H locs ls hH hl hk => (hP3 v4 h).1 hk H locs ls hH hl
    refine lv_iload hx hb dX7_readsSome_3 (lv_at hl 4 rfl) ?_
    refine lv_iload_n hx hb dX7_readsSome_5 rfl (lv_at hl 3 rfl) ?_
    refine lv_icmp_ge (tgt := 37) hx hb dX7_readsSome_6 (by decide) (fun c1 => ?_) (fun c1 => ?_)
    · have hw := ite_t hw c1
      refine lv_iload hx hb dX7_readsSome_37 (lv_at hl 4 rfl) ?_
      exact hv_iret hx hb hr hlk hH hw dX7_readsSome_39
    · have hw := ite_f hw c1
      refine lv_aload_n hx hb dX7_readsSome_9 rfl (lv_at hl 0 rfl) ?_
      obtain ⟨k2, hw⟩ := hw
      refine hv_cVI (rm := rm_X7_sign) (As := []) (rest := []) (k := 0) (ci := 7) hx hb hml hown hKK hH cf7 k2 (m_X7_sign v0 _ _ hw) cw_X7_176 ⟨Nat.le_of_ble_eq_true rfl, Nat.le_of_ble_eq_true rfl⟩ rfl hl.1 rfl (Nat.le_of_ble_eq_true rfl) ⟨Nat.le_of_ble_eq_true rfl, Nat.le_of_ble_eq_true rfl⟩ dX7_readsSome_10 (fun r4 h3 H locs hH hw => ?_)
      refine lv_iload_n hx hb dX7_readsSome_13 rfl (lv_at hl 1 rfl) ?_
      refine lv_iload_n hx hb dX7_readsSome_14 rfl (lv_at hl 2 rfl) ?_
      refine hv_cSI (rm := rm_X7_isIn) (As := [.int r4, .int v1, .int v2]) (rest := []) (k := 3) hx hb hml hown hKK hH (m_X7_isIn r4 v1 v2 _ _ hw) cw_X7_85 ⟨Nat.le_of_ble_eq_true rfl, Nat.le_of_ble_eq_true rfl⟩ rfl hl.1 rfl (Nat.le_of_ble_eq_true rfl) ⟨Nat.le_of_ble_eq_true rfl, Nat.le_of_ble_eq_true rfl⟩ dX7_readsSome_15 (fun r6 h5 H locs hH hw => ?_)
      refine lv_if_eq (tgt := 37) hx hb dX7_readsSome_18 (by decide) (fun c7 => ?_) (fun c7 => ?_)
      · have hw := ite_t hw c7
        refine lv_iload hx hb dX7_readsSome_37 (lv_at hl 4 rfl) ?_
        exact hv_iret hx hb hr hlk hH hw dX7_readsSome_39
      · have hw := ite_f hw c7
        refine lv_aload_n hx hb dX7_readsSome_21 rfl (lv_at hl 0 rfl) ?_
        refine lv_dup hx hb dX7_readsSome_22 rfl ?_
        refine hv_get (ci := 7) (k := 23) (v := .int (h5 v0 23)) hx hb hown hKK hH cf7 (by decide) fl_X7_173 rfl k2 rfl dX7_readsSome_23 ?_
        refine lv_iconst (v := (nI 1)) hx hb dX7_readsSome_26 (by decide) ?_
        refine lv_iadd hx hb dX7_readsSome_27 ?_
        refine hv_put (ci := 7) (k := 23) hx hb hown hKK hH cf7 (by decide) fl_X7_173 rfl rfl rfl k2 rfl rfl dX7_readsSome_28 (fun H locs hH => ?_)
        refine lv_iinc (v := v4 + (nI 1)) (lv' := [(4, .int (v4 + (nI 1))), (0, .ref v0), (1, .int v1), (2, .int v2), (3, .int v3)]) hx hb dX7_readsSome_31 hl (k := 4) rfl rfl (by decide) rfl (fun ls hl => ?_)
        refine lv_goto (tgt := 3) hx hb dX7_readsSome_34 (by decide) ?_
        exact hK3 _ _ H locs ls hH (lv_sub hl [1, 2, 3, 4, 0] rfl) hw
  unfold w_X7_readsSome at hw
  show W p l e rm_X7_readsSome s m args below meth c H [] 0 0 (QI G B S sz below args s Q) (F0 m 0 ls [])
  generalize ([] : List Loc) = locs at hH ⊢
  refine lv_iconst (v := (nI 0)) hx hb dX7_readsSome_0 (by decide) ?_
  refine lv_istore (lv' := [(4, .int (nI 0)), (0, .ref v0), (1, .int v1), (2, .int v2), (3, .int v3)]) hx hb dX7_readsSome_1 hl (by decide) rfl (fun ls hl => ?_)
  exact c3 _ _ _ _ _ _ H locs ls hH (lv_sub hl [1, 2, 3, 4, 0] rfl) hw
abbrev rm_X7_readsPart : Room := { frames := 2, cells := 0, slots := 0, locals := 46 }
set_option maxHeartbeats 4000000 in
set_option maxRecDepth 100000 in
theorem m_X7_readsPart {l : Launch} {G : Gl} {B sz : Nat} {S : St} (v0 : Nat) (h : Hp) (Q : Int32 → Hp → Prop) (hw : w_X7_readsPart S v0 h Q) : MI l G B sz S yX7_readsPart cX7_readsPart 3 .boolean rm_X7_readsPart [.ref v0] h Q := by
  refine met_of rfl rfl ?_
  intro p e s m args below meth c hMB H ls hH hl
  obtain ⟨hx, hb, hml, hown, hKK, hr, hlk⟩ := hMB
  replace hl : lv_has ls 3 [(0, .ref v0)] := hl
  unfold w_X7_readsPart at hw
  show W p l e rm_X7_readsPart s m args below meth c H [] 0 0 (QI G B S sz below args s Q) (F0 m 0 ls [])
  generalize ([] : List Loc) = locs at hH ⊢
  refine lv_iconst (v := (nI 3)) hx hb dX7_readsPart_0 (by decide) ?_
  refine lv_aload_n hx hb dX7_readsPart_1 rfl (lv_at hl 0 rfl) ?_
  obtain ⟨k1, hw⟩ := hw
  refine hv_get (ci := 7) (k := 24) (v := .int (h v0 24)) hx hb hown hKK hH cf7 (by decide) fl_X7_180 rfl k1 rfl dX7_readsPart_2 ?_
  refine lv_imul hx hb dX7_readsPart_5 ?_
  refine lv_aload_n hx hb dX7_readsPart_6 rfl (lv_at hl 0 rfl) ?_
  refine hv_get (ci := 7) (k := 19) (v := .ref (S.2 v0 19)) hx hb hown hKK hH cf7 (by decide) fl_X7_58 rfl k1 rfl dX7_readsPart_7 ?_
  refine lv_aload_n hx hb dX7_readsPart_10 rfl (lv_at hl 0 rfl) ?_
  refine hv_get (ci := 7) (k := 24) (v := .int (h v0 24)) hx hb hown hKK hH cf7 (by decide) fl_X7_180 rfl k1 rfl dX7_readsPart_11 ?_
  obtain ⟨k2, hw⟩ := hw
  refine hv_iald hx hb hKK hH k2 dX7_readsPart_14 ?_
  refine lv_iadd hx hb dX7_readsPart_15 ?_
  refine lv_istore_n (lv' := [(1, .int (((nI 3) * (h v0 24)) + (h (S.2 v0 19) (ix (h v0 24))))), (0, .ref v0)]) hx hb dX7_readsPart_16 rfl hl (by decide) rfl (fun ls hl => ?_)
  refine lv_aload_n hx hb dX7_readsPart_17 rfl (lv_at hl 1 rfl) ?_
  refine hv_get (ci := 7) (k := 20) (v := .ref (S.2 v0 20)) hx hb hown hKK hH cf7 (by decide) fl_X7_61 rfl k1 rfl dX7_readsPart_18 ?_
  refine lv_iload_n hx hb dX7_readsPart_21 rfl (lv_at hl 0 rfl) ?_
  refine lv_aload_n hx hb dX7_readsPart_22 rfl (lv_at hl 1 rfl) ?_
  refine hv_get (ci := 7) (k := 23) (v := .int (h v0 23)) hx hb hown hKK hH cf7 (by decide) fl_X7_173 rfl k1 rfl dX7_readsPart_23 ?_
  obtain ⟨k3, hw⟩ := hw
  refine hv_iast hx hb hKK hH k3 dX7_readsPart_26 (fun H locs hH => ?_)
  refine lv_aload_n hx hb dX7_readsPart_27 rfl (lv_at hl 1 rfl) ?_
  refine lv_bipush (v := (nI 97)) hx hb dX7_readsPart_28 (by decide) ?_
  refine lv_bipush (v := (nI 122)) hx hb dX7_readsPart_30 (by decide) ?_
  refine lv_bipush (v := (nI 7)) hx hb dX7_readsPart_32 (by decide) ?_
  refine hv_cVI (rm := rm_X7_readsSome) (As := [.int (nI 97), .int (nI 122), .int (nI 7)]) (rest := []) (k := 3) (ci := 7) hx hb hml hown hKK hH cf7 k1 (m_X7_readsSome v0 (nI 97) (nI 122) (nI 7) _ _ hw) cw_X7_183 ⟨Nat.le_of_ble_eq_true rfl, Nat.le_of_ble_eq_true rfl⟩ rfl hl.1 rfl (Nat.le_of_ble_eq_true rfl) ⟨Nat.le_of_ble_eq_true rfl, Nat.le_of_ble_eq_true rfl⟩ dX7_readsPart_34 (fun r5 h4 H locs hH hw => ?_)
  refine lv_istore_n (lv' := [(2, .int r5), (1, .int (((nI 3) * (h v0 24)) + (h (S.2 v0 19) (ix (h v0 24))))), (0, .ref v0)]) hx hb dX7_readsPart_37 rfl hl (by decide) rfl (fun ls hl => ?_)
  refine lv_iload_n hx hb dX7_readsPart_38 rfl (lv_at hl 0 rfl) ?_
  refine lv_if_ne (tgt := 52) hx hb dX7_readsPart_39 (by decide) (fun c6 => ?_) (fun c6 => ?_)
  · have hw := ite_f hw c6
    refine lv_aload_n hx hb dX7_readsPart_52 rfl (lv_at hl 2 rfl) ?_
    refine hv_get (ci := 7) (k := 21) (v := .ref (S.2 v0 21)) hx hb hown hKK hH cf7 (by decide) fl_X7_64 rfl k1 rfl dX7_readsPart_53 ?_
    refine lv_iload_n hx hb dX7_readsPart_56 rfl (lv_at hl 1 rfl) ?_
    refine lv_iload_n hx hb dX7_readsPart_57 rfl (lv_at hl 0 rfl) ?_
    obtain ⟨k12, hw⟩ := hw
    refine hv_iast hx hb hKK hH k12 dX7_readsPart_58 (fun H locs hH => ?_)
    refine lv_aload_n hx hb dX7_readsPart_59 rfl (lv_at hl 2 rfl) ?_
    refine hv_get (ci := 7) (k := 19) (v := .ref (S.2 v0 19)) hx hb hown hKK hH cf7 (by decide) fl_X7_58 rfl k1 rfl dX7_readsPart_60 ?_
    refine lv_aload_n hx hb dX7_readsPart_63 rfl (lv_at hl 2 rfl) ?_
    refine hv_get (ci := 7) (k := 24) (v := .int ((up h4 (S.2 v0 21) (ix (((nI 3) * (h v0 24)) + (h (S.2 v0 19) (ix (h v0 24))))) r5) v0 24)) hx hb hown hKK hH cf7 (by decide) fl_X7_180 rfl k1 rfl dX7_readsPart_64 ?_
    refine lv_dup2_11 hx hb dX7_readsPart_67 rfl rfl ?_
    obtain ⟨k13, hw⟩ := hw
    refine hv_iald hx hb hKK hH k13 dX7_readsPart_68 ?_
    refine lv_iconst (v := (nI 1)) hx hb dX7_readsPart_69 (by decide) ?_
    refine lv_iadd hx hb dX7_readsPart_70 ?_
    refine hv_iast hx hb hKK hH k13 dX7_readsPart_71 (fun H locs hH => ?_)
    refine lv_iload_n hx hb dX7_readsPart_72 rfl (lv_at hl 0 rfl) ?_
    refine lv_if_le (tgt := 80) hx hb dX7_readsPart_73 (by decide) (fun c14 => ?_) (fun c14 => ?_)
    · have hw := ite_t hw c14
      refine lv_iconst (v := (nI 0)) hx hb dX7_readsPart_80 (by decide) ?_
      exact hv_zret hx hb hr hlk hH (Or.inl rfl) hw dX7_readsPart_81
    · have hw := ite_f hw c14
      refine lv_iconst (v := (nI 1)) hx hb dX7_readsPart_76 (by decide) ?_
      refine lv_goto (tgt := 81) hx hb dX7_readsPart_77 (by decide) ?_
      exact hv_zret hx hb hr hlk hH (Or.inr rfl) hw dX7_readsPart_81
  · have hw := ite_t hw c6
    refine lv_aload_n hx hb dX7_readsPart_42 rfl (lv_at hl 2 rfl) ?_
    refine lv_bipush (v := (nI 48)) hx hb dX7_readsPart_43 (by decide) ?_
    refine lv_bipush (v := (nI 57)) hx hb dX7_readsPart_45 (by decide) ?_
    refine lv_iconst (v := (nI 2)) hx hb dX7_readsPart_47 (by decide) ?_
    refine hv_cVI (rm := rm_X7_readsSome) (As := [.int (nI 48), .int (nI 57), .int (nI 2)]) (rest := []) (k := 3) (ci := 7) hx hb hml hown hKK hH cf7 k1 (m_X7_readsSome v0 (nI 48) (nI 57) (nI 2) _ _ hw) cw_X7_183 ⟨Nat.le_of_ble_eq_true rfl, Nat.le_of_ble_eq_true rfl⟩ rfl hl.1 rfl (Nat.le_of_ble_eq_true rfl) ⟨Nat.le_of_ble_eq_true rfl, Nat.le_of_ble_eq_true rfl⟩ dX7_readsPart_48 (fun r8 h7 H locs hH hw => ?_)
    refine lv_istore_n (lv' := [(2, .int r8), (1, .int (((nI 3) * (h v0 24)) + (h (S.2 v0 19) (ix (h v0 24))))), (0, .ref v0)]) hx hb dX7_readsPart_51 rfl hl (by decide) rfl (fun ls hl => ?_)
    refine lv_aload_n hx hb dX7_readsPart_52 rfl (lv_at hl 2 rfl) ?_
    refine hv_get (ci := 7) (k := 21) (v := .ref (S.2 v0 21)) hx hb hown hKK hH cf7 (by decide) fl_X7_64 rfl k1 rfl dX7_readsPart_53 ?_
    refine lv_iload_n hx hb dX7_readsPart_56 rfl (lv_at hl 1 rfl) ?_
    refine lv_iload_n hx hb dX7_readsPart_57 rfl (lv_at hl 0 rfl) ?_
    obtain ⟨k9, hw⟩ := hw
    refine hv_iast hx hb hKK hH k9 dX7_readsPart_58 (fun H locs hH => ?_)
    refine lv_aload_n hx hb dX7_readsPart_59 rfl (lv_at hl 2 rfl) ?_
    refine hv_get (ci := 7) (k := 19) (v := .ref (S.2 v0 19)) hx hb hown hKK hH cf7 (by decide) fl_X7_58 rfl k1 rfl dX7_readsPart_60 ?_
    refine lv_aload_n hx hb dX7_readsPart_63 rfl (lv_at hl 2 rfl) ?_
    refine hv_get (ci := 7) (k := 24) (v := .int ((up h7 (S.2 v0 21) (ix (((nI 3) * (h v0 24)) + (h (S.2 v0 19) (ix (h v0 24))))) r8) v0 24)) hx hb hown hKK hH cf7 (by decide) fl_X7_180 rfl k1 rfl dX7_readsPart_64 ?_
    refine lv_dup2_11 hx hb dX7_readsPart_67 rfl rfl ?_
    obtain ⟨k10, hw⟩ := hw
    refine hv_iald hx hb hKK hH k10 dX7_readsPart_68 ?_
    refine lv_iconst (v := (nI 1)) hx hb dX7_readsPart_69 (by decide) ?_
    refine lv_iadd hx hb dX7_readsPart_70 ?_
    refine hv_iast hx hb hKK hH k10 dX7_readsPart_71 (fun H locs hH => ?_)
    refine lv_iload_n hx hb dX7_readsPart_72 rfl (lv_at hl 0 rfl) ?_
    refine lv_if_le (tgt := 80) hx hb dX7_readsPart_73 (by decide) (fun c11 => ?_) (fun c11 => ?_)
    · have hw := ite_t hw c11
      refine lv_iconst (v := (nI 0)) hx hb dX7_readsPart_80 (by decide) ?_
      exact hv_zret hx hb hr hlk hH (Or.inl rfl) hw dX7_readsPart_81
    · have hw := ite_f hw c11
      refine lv_iconst (v := (nI 1)) hx hb dX7_readsPart_76 (by decide) ?_
      refine lv_goto (tgt := 81) hx hb dX7_readsPart_77 (by decide) ?_
      exact hv_zret hx hb hr hlk hH (Or.inr rfl) hw dX7_readsPart_81
abbrev rm_X7_reads : Room := { frames := 1, cells := 0, slots := 0, locals := 20 }
set_option maxHeartbeats 4000000 in
set_option maxRecDepth 100000 in
theorem m_X7_reads {l : Launch} {G : Gl} {B sz : Nat} {S : St} (v0 : Nat) (v1 : Int32) (h : Hp) (Q : Int32 → Hp → Prop) (hw : w_X7_reads S v0 v1 h Q) : MI l G B sz S yX7_reads cX7_reads 2 .boolean rm_X7_reads [.ref v0, .int v1] h Q := by
  refine met_of rfl rfl ?_
  intro p e s m args below meth c hMB H ls hH hl
  obtain ⟨hx, hb, hml, hown, hKK, hr, hlk⟩ := hMB
  replace hl : lv_has ls 2 [(0, .ref v0), (1, .int v1)] := hl
  unfold w_X7_reads at hw
  show W p l e rm_X7_reads s m args below meth c H [] 0 0 (QI G B S sz below args s Q) (F0 m 0 ls [])
  generalize ([] : List Loc) = locs at hH ⊢
  refine lv_aload_n hx hb dX7_reads_0 rfl (lv_at hl 0 rfl) ?_
  obtain ⟨k1, hw⟩ := hw
  refine hv_cVI (rm := rm_X7_sign) (As := []) (rest := []) (k := 0) (ci := 7) hx hb hml hown hKK hH cf7 k1 (m_X7_sign v0 _ _ hw) cw_X7_176 ⟨Nat.le_of_ble_eq_true rfl, Nat.le_of_ble_eq_true rfl⟩ rfl hl.1 rfl (Nat.le_of_ble_eq_true rfl) ⟨Nat.le_of_ble_eq_true rfl, Nat.le_of_ble_eq_true rfl⟩ dX7_reads_1 (fun r3 h2 H locs hH hw => ?_)
  refine lv_iload_n hx hb dX7_reads_4 rfl (lv_at hl 1 rfl) ?_
  refine lv_icmp_eq (tgt := 10) hx hb dX7_reads_5 (by decide) (fun c4 => ?_) (fun c4 => ?_)
  · have hw := ite_t hw c4
    refine lv_aload_n hx hb dX7_reads_10 rfl (lv_at hl 0 rfl) ?_
    refine lv_dup hx hb dX7_reads_11 rfl ?_
    refine hv_get (ci := 7) (k := 23) (v := .int (h2 v0 23)) hx hb hown hKK hH cf7 (by decide) fl_X7_173 rfl k1 rfl dX7_reads_12 ?_
    refine lv_iconst (v := (nI 1)) hx hb dX7_reads_15 (by decide) ?_
    refine lv_iadd hx hb dX7_reads_16 ?_
    refine hv_put (ci := 7) (k := 23) hx hb hown hKK hH cf7 (by decide) fl_X7_173 rfl rfl rfl k1 rfl rfl dX7_reads_17 (fun H locs hH => ?_)
    refine lv_iconst (v := (nI 1)) hx hb dX7_reads_20 (by decide) ?_
    exact hv_zret hx hb hr hlk hH (Or.inr rfl) hw dX7_reads_21
  · have hw := ite_f hw c4
    refine lv_iconst (v := (nI 0)) hx hb dX7_reads_8 (by decide) ?_
    exact hv_zret hx hb hr hlk hH (Or.inl rfl) hw dX7_reads_9
abbrev rm_X7_statement : Room := { frames := 3, cells := 0, slots := 0, locals := 68 }
set_option maxHeartbeats 4000000 in
set_option maxRecDepth 100000 in
theorem m_X7_statement {l : Launch} {G : Gl} {B sz : Nat} {S : St} (v0 : Nat) (h : Hp) (Q : Int32 → Hp → Prop) (hw : w_X7_statement S v0 h Q) : MI l G B sz S yX7_statement cX7_statement 1 .boolean rm_X7_statement [.ref v0] h Q := by
  refine met_of rfl rfl ?_
  intro p e s m args below meth c hMB H ls hH hl
  obtain ⟨hx, hb, hml, hown, hKK, hr, hlk⟩ := hMB
  replace hl : lv_has ls 1 [(0, .ref v0)] := hl
  have c72 : ∀  (v0 : Nat) (h : Hp) (H : Heap) (locs : List Loc) (ls : Array Slot), HH G B S h sz s H locs → lv_has ls 1 [(0, .ref v0)] → w_X7_statement_c72 S v0 h Q → W p l e rm_X7_statement s m args below meth c H locs 0 0 (QI G B S sz below args s Q) (F0 m 72 ls []) := by
    intro  v0 h H locs ls hH hl hw
    unfold w_X7_statement_c72 at hw
    obtain ⟨P72, hP72⟩ : ∃ P : Hp → Prop, ∀  (h : Hp), P  h ↔ (∀ (H : Heap) (locs : List Loc) (ls : Array Slot), HH G B S h sz s H locs → lv_has ls 1 [(0, .ref v0)] → W p l e rm_X7_statement s m args below meth c H locs 0 0 (QI G B S sz below args s Q) (F0 m 72 ls [])) := ⟨_, fun  h => Iff.rfl⟩
    refine (hP72  h).1 (hw P72 (fun  h hw => (hP72  h).2 (fun H locs ls hH hl => ?_))) H locs ls hH hl
    have hK72 : ∀  (h : Hp) (H : Heap) (locs : List Loc) (ls : Array Slot), HH G B S h sz s H locs → lv_has ls 1 [(0, .ref v0)] → P72  h → W p l e rm_X7_statement s m args below meth c H locs 0 0 (QI G B S sz below args s Q) (F0 m 72 ls []) := fun  h H locs ls hH hl hk => (hP72  h).1 hk H locs ls hH hl
    refine lv_aload_n hx hb dX7_statement_72 rfl (lv_at hl 0 rfl) ?_
    obtain ⟨k1, hw⟩ := hw
    refine hv_get (ci := 7) (k := 19) (v := .ref (S.2 v0 19)) hx hb hown hKK hH cf7 (by decide) fl_X7_58 rfl k1 rfl dX7_statement_73 ?_
    refine lv_aload_n hx hb dX7_statement_76 rfl (lv_at hl 0 rfl) ?_
    refine hv_get (ci := 7) (k := 24) (v := .int (h v0 24)) hx hb hown hKK hH cf7 (by decide) fl_X7_180 rfl k1 rfl dX7_statement_77 ?_
    obtain ⟨k2, hw⟩ := hw
    refine hv_iald hx hb hKK hH k2 dX7_statement_80 ?_
    refine lv_iconst (v := (nI 3)) hx hb dX7_statement_81 (by decide) ?_
    refine lv_icmp_ge (tgt := 103) hx hb dX7_statement_82 (by decide) (fun c3 => ?_) (fun c3 => ?_)
    · have hw := ite_t hw c3
      refine lv_aload_n hx hb dX7_statement_103 rfl (lv_at hl 0 rfl) ?_
      refine lv_bipush (v := (nI 59)) hx hb dX7_statement_104 (by decide) ?_
      refine hv_cVI (rm := rm_X7_reads) (As := [.int (nI 59)]) (rest := []) (k := 1) (ci := 7) hx hb hml hown hKK hH cf7 k1 (m_X7_reads v0 (nI 59) _ _ hw) cw_X7_186 ⟨Nat.le_of_ble_eq_true rfl, Nat.le_of_ble_eq_true rfl⟩ rfl hl.1 rfl (Nat.le_of_ble_eq_true rfl) ⟨Nat.le_of_ble_eq_true rfl, Nat.le_of_ble_eq_true rfl⟩ dX7_statement_106 (fun r5 h4 H locs hH hw => ?_)
      obtain ⟨k6, hw⟩ := hw
      exact hv_zret hx hb hr hlk hH k6 hw dX7_statement_109
    · have hw := ite_f hw c3
      refine lv_aload_n hx hb dX7_statement_85 rfl (lv_at hl 0 rfl) ?_
      refine lv_bipush (v := (nI 32)) hx hb dX7_statement_86 (by decide) ?_
      refine hv_cVI (rm := rm_X7_reads) (As := [.int (nI 32)]) (rest := []) (k := 1) (ci := 7) hx hb hml hown hKK hH cf7 k1 (m_X7_reads v0 (nI 32) _ _ hw) cw_X7_186 ⟨Nat.le_of_ble_eq_true rfl, Nat.le_of_ble_eq_true rfl⟩ rfl hl.1 rfl (Nat.le_of_ble_eq_true rfl) ⟨Nat.le_of_ble_eq_true rfl, Nat.le_of_ble_eq_true rfl⟩ dX7_statement_88 (fun r8 h7 H locs hH hw => ?_)
      refine lv_if_eq (tgt := 103) hx hb dX7_statement_91 (by decide) (fun c9 => ?_) (fun c9 => ?_)
      · have hw := ite_t hw c9
        refine lv_aload_n hx hb dX7_statement_103 rfl (lv_at hl 0 rfl) ?_
        refine lv_bipush (v := (nI 59)) hx hb dX7_statement_104 (by decide) ?_
        refine hv_cVI (rm := rm_X7_reads) (As := [.int (nI 59)]) (rest := []) (k := 1) (ci := 7) hx hb hml hown hKK hH cf7 k1 (m_X7_reads v0 (nI 59) _ _ hw) cw_X7_186 ⟨Nat.le_of_ble_eq_true rfl, Nat.le_of_ble_eq_true rfl⟩ rfl hl.1 rfl (Nat.le_of_ble_eq_true rfl) ⟨Nat.le_of_ble_eq_true rfl, Nat.le_of_ble_eq_true rfl⟩ dX7_statement_106 (fun r11 h10 H locs hH hw => ?_)
        obtain ⟨k12, hw⟩ := hw
        exact hv_zret hx hb hr hlk hH k12 hw dX7_statement_109
      · have hw := ite_f hw c9
        refine lv_aload_n hx hb dX7_statement_94 rfl (lv_at hl 0 rfl) ?_
        refine hv_cVI (rm := rm_X7_readsPart) (As := []) (rest := []) (k := 0) (ci := 7) hx hb hml hown hKK hH cf7 k1 (m_X7_readsPart v0 _ _ hw) cw_X7_189 ⟨Nat.le_of_ble_eq_true rfl, Nat.le_of_ble_eq_true rfl⟩ rfl hl.1 rfl (Nat.le_of_ble_eq_true rfl) ⟨Nat.le_of_ble_eq_true rfl, Nat.le_of_ble_eq_true rfl⟩ dX7_statement_95 (fun r14 h13 H locs hH hw => ?_)
        refine lv_if_ne (tgt := 72) hx hb dX7_statement_98 (by decide) (fun c15 => ?_) (fun c15 => ?_)
        · have hw := ite_f hw c15
          exact hK72 _ H locs ls hH (lv_sub hl [0] rfl) hw
        · have hw := ite_t hw c15
          refine lv_iconst (v := (nI 0)) hx hb dX7_statement_101 (by decide) ?_
          exact hv_zret hx hb hr hlk hH (Or.inl rfl) hw dX7_statement_102
  unfold w_X7_statement at hw
  show W p l e rm_X7_statement s m args below meth c H [] 0 0 (QI G B S sz below args s Q) (F0 m 0 ls [])
  generalize ([] : List Loc) = locs at hH ⊢
  refine lv_aload_n hx hb dX7_statement_0 rfl (lv_at hl 0 rfl) ?_
  obtain ⟨k1, hw⟩ := hw
  refine hv_get (ci := 7) (k := 17) (v := .ref (S.2 v0 17)) hx hb hown hKK hH cf7 (by decide) fl_X7_52 rfl k1 rfl dX7_statement_1 ?_
  refine lv_aload_n hx hb dX7_statement_4 rfl (lv_at hl 0 rfl) ?_
  refine hv_get (ci := 7) (k := 24) (v := .int (h v0 24)) hx hb hown hKK hH cf7 (by decide) fl_X7_180 rfl k1 rfl dX7_statement_5 ?_
  refine lv_aload_n hx hb dX7_statement_8 rfl (lv_at hl 0 rfl) ?_
  refine hv_get (ci := 7) (k := 23) (v := .int (h v0 23)) hx hb hown hKK hH cf7 (by decide) fl_X7_173 rfl k1 rfl dX7_statement_9 ?_
  obtain ⟨k2, hw⟩ := hw
  refine hv_iast hx hb hKK hH k2 dX7_statement_12 (fun H locs hH => ?_)
  refine lv_aload_n hx hb dX7_statement_13 rfl (lv_at hl 0 rfl) ?_
  refine hv_get (ci := 7) (k := 18) (v := .ref (S.2 v0 18)) hx hb hown hKK hH cf7 (by decide) fl_X7_55 rfl k1 rfl dX7_statement_14 ?_
  refine lv_aload_n hx hb dX7_statement_17 rfl (lv_at hl 0 rfl) ?_
  refine hv_get (ci := 7) (k := 24) (v := .int ((up h (S.2 v0 17) (ix (h v0 24)) (h v0 23)) v0 24)) hx hb hown hKK hH cf7 (by decide) fl_X7_180 rfl k1 rfl dX7_statement_18 ?_
  refine lv_aload_n hx hb dX7_statement_21 rfl (lv_at hl 0 rfl) ?_
  refine lv_bipush (v := (nI 97)) hx hb dX7_statement_22 (by decide) ?_
  refine lv_bipush (v := (nI 122)) hx hb dX7_statement_24 (by decide) ?_
  refine lv_bipush (v := (nI 7)) hx hb dX7_statement_26 (by decide) ?_
  refine hv_cVI (rm := rm_X7_readsSome) (As := [.int (nI 97), .int (nI 122), .int (nI 7)]) (rest := [.int ((up h (S.2 v0 17) (ix (h v0 24)) (h v0 23)) v0 24), .ref (S.2 v0 18)]) (k := 3) (ci := 7) hx hb hml hown hKK hH cf7 k1 (m_X7_readsSome v0 (nI 97) (nI 122) (nI 7) _ _ hw) cw_X7_183 ⟨Nat.le_of_ble_eq_true rfl, Nat.le_of_ble_eq_true rfl⟩ rfl hl.1 rfl (Nat.le_of_ble_eq_true rfl) ⟨Nat.le_of_ble_eq_true rfl, Nat.le_of_ble_eq_true rfl⟩ dX7_statement_28 (fun r4 h3 H locs hH hw => ?_)
  obtain ⟨k5, hw⟩ := hw
  refine hv_iast hx hb hKK hH k5 dX7_statement_31 (fun H locs hH => ?_)
  refine lv_aload_n hx hb dX7_statement_32 rfl (lv_at hl 0 rfl) ?_
  refine hv_get (ci := 7) (k := 19) (v := .ref (S.2 v0 19)) hx hb hown hKK hH cf7 (by decide) fl_X7_58 rfl k1 rfl dX7_statement_33 ?_
  refine lv_aload_n hx hb dX7_statement_36 rfl (lv_at hl 0 rfl) ?_
  refine hv_get (ci := 7) (k := 24) (v := .int ((up h3 (S.2 v0 18) (ix ((up h (S.2 v0 17) (ix (h v0 24)) (h v0 23)) v0 24)) r4) v0 24)) hx hb hown hKK hH cf7 (by decide) fl_X7_180 rfl k1 rfl dX7_statement_37 ?_
  refine lv_iconst (v := (nI 0)) hx hb dX7_statement_40 (by decide) ?_
  obtain ⟨k6, hw⟩ := hw
  refine hv_iast hx hb hKK hH k6 dX7_statement_41 (fun H locs hH => ?_)
  refine lv_aload_n hx hb dX7_statement_42 rfl (lv_at hl 0 rfl) ?_
  refine hv_get (ci := 7) (k := 18) (v := .ref (S.2 v0 18)) hx hb hown hKK hH cf7 (by decide) fl_X7_55 rfl k1 rfl dX7_statement_43 ?_
  refine lv_aload_n hx hb dX7_statement_46 rfl (lv_at hl 0 rfl) ?_
  refine hv_get (ci := 7) (k := 24) (v := .int ((up (up h3 (S.2 v0 18) (ix ((up h (S.2 v0 17) (ix (h v0 24)) (h v0 23)) v0 24)) r4) (S.2 v0 19) (ix ((up h3 (S.2 v0 18) (ix ((up h (S.2 v0 17) (ix (h v0 24)) (h v0 23)) v0 24)) r4) v0 24)) (nI 0)) v0 24)) hx hb hown hKK hH cf7 (by decide) fl_X7_180 rfl k1 rfl dX7_statement_47 ?_
  obtain ⟨k7, hw⟩ := hw
  refine hv_iald hx hb hKK hH k7 dX7_statement_50 ?_
  refine lv_if_eq (tgt := 70) hx hb dX7_statement_51 (by decide) (fun c8 => ?_) (fun c8 => ?_)
  · have hw := ite_t hw c8
    refine lv_iconst (v := (nI 0)) hx hb dX7_statement_70 (by decide) ?_
    exact hv_zret hx hb hr hlk hH (Or.inl rfl) hw dX7_statement_71
  · have hw := ite_f hw c8
    refine lv_aload_n hx hb dX7_statement_54 rfl (lv_at hl 0 rfl) ?_
    refine lv_bipush (v := (nI 32)) hx hb dX7_statement_55 (by decide) ?_
    refine hv_cVI (rm := rm_X7_reads) (As := [.int (nI 32)]) (rest := []) (k := 1) (ci := 7) hx hb hml hown hKK hH cf7 k1 (m_X7_reads v0 (nI 32) _ _ hw) cw_X7_186 ⟨Nat.le_of_ble_eq_true rfl, Nat.le_of_ble_eq_true rfl⟩ rfl hl.1 rfl (Nat.le_of_ble_eq_true rfl) ⟨Nat.le_of_ble_eq_true rfl, Nat.le_of_ble_eq_true rfl⟩ dX7_statement_57 (fun r10 h9 H locs hH hw => ?_)
    refine lv_if_eq (tgt := 70) hx hb dX7_statement_60 (by decide) (fun c11 => ?_) (fun c11 => ?_)
    · have hw := ite_t hw c11
      refine lv_iconst (v := (nI 0)) hx hb dX7_statement_70 (by decide) ?_
      exact hv_zret hx hb hr hlk hH (Or.inl rfl) hw dX7_statement_71
    · have hw := ite_f hw c11
      refine lv_aload_n hx hb dX7_statement_63 rfl (lv_at hl 0 rfl) ?_
      refine hv_cVI (rm := rm_X7_readsPart) (As := []) (rest := []) (k := 0) (ci := 7) hx hb hml hown hKK hH cf7 k1 (m_X7_readsPart v0 _ _ hw) cw_X7_189 ⟨Nat.le_of_ble_eq_true rfl, Nat.le_of_ble_eq_true rfl⟩ rfl hl.1 rfl (Nat.le_of_ble_eq_true rfl) ⟨Nat.le_of_ble_eq_true rfl, Nat.le_of_ble_eq_true rfl⟩ dX7_statement_64 (fun r13 h12 H locs hH hw => ?_)
      refine lv_if_ne (tgt := 72) hx hb dX7_statement_67 (by decide) (fun c14 => ?_) (fun c14 => ?_)
      · have hw := ite_f hw c14
        exact c72 _ _ H locs ls hH (lv_sub hl [0] rfl) hw
      · have hw := ite_t hw c14
        refine lv_iconst (v := (nI 0)) hx hb dX7_statement_70 (by decide) ?_
        exact hv_zret hx hb hr hlk hH (Or.inl rfl) hw dX7_statement_71
abbrev rm_X7_codeAt : Room := { frames := 0, cells := 0, slots := 0, locals := 0 }
set_option maxHeartbeats 4000000 in
set_option maxRecDepth 100000 in
theorem m_X7_codeAt {l : Launch} {G : Gl} {B sz : Nat} {S : St} (v0 : Nat) (v1 : Int32) (v2 : Int32) (h : Hp) (Q : Int64 → Hp → Prop) (hw : w_X7_codeAt S v0 v1 v2 h Q) : ML l G B sz S yX7_codeAt cX7_codeAt 6 rm_X7_codeAt [.ref v0, .int v1, .int v2] h Q := by
  refine met_of rfl rfl ?_
  intro p e s m args below meth c hMB H ls hH hl
  obtain ⟨hx, hb, hml, hown, hKK, hr, hlk⟩ := hMB
  replace hl : lv_has ls 6 [(0, .ref v0), (1, .int v1), (2, .int v2)] := hl
  have c5 : ∀  (v0 : Nat) (v1 : Int32) (v2 : Int32) (v3 : Int64) (v5 : Int32) (h : Hp) (H : Heap) (locs : List Loc) (ls : Array Slot), HH G B S h sz s H locs → lv_has ls 6 [(0, .ref v0), (1, .int v1), (2, .int v2), (3, .long v3), (5, .int v5)] → w_X7_codeAt_c5 S v0 v1 v2 v3 v5 h Q → W p l e rm_X7_codeAt s m args below meth c H locs 0 0 (QL G B S sz below args s Q) (F0 m 5 ls []) := by
    intro  v0 v1 v2 v3 v5 h H locs ls hH hl hw
    unfold w_X7_codeAt_c5 at hw
    obtain ⟨P5, hP5⟩ : ∃ P : Int64 → Int32 → Hp → Prop, ∀ (v3 : Int64) (v5 : Int32) (h : Hp), P v3 v5 h ↔ (∀ (H : Heap) (locs : List Loc) (ls : Array Slot), HH G B S h sz s H locs → lv_has ls 6 [(0, .ref v0), (1, .int v1), (2, .int v2), (3, .long v3), (5, .int v5)] → W p l e rm_X7_codeAt s m args below meth c H locs 0 0 (QL G B S sz below args s Q) (F0 m 5 ls [])) := ⟨_, fun v3 v5 h => Iff.rfl⟩
    refine (hP5 v3 v5 h).1 (hw P5 (fun v3 v5 h hw => (hP5 v3 v5 h).2 (fun H locs ls hH hl => ?_))) H locs ls hH hl
    have hK5 : ∀ (v3 : Int64) (v5 : Int32) (h : Hp) (H : Heap) (locs : List Loc) (ls : Array Slot), HH G B S h sz s H locs → lv_has ls 6 [(0, .ref v0), (1, .int v1), (2, .int v2), (3, .long v3), (5, .int v5)] → P5 v3 v5 h → W p l e rm_X7_codeAt s m args below meth c H locs 0 0 (QL G B S sz below args s Q) (F0 m 5 ls []) := fun v3 v5 h H locs ls hH hl hk => (hP5 v3 v5 h).1 hk H locs ls hH hl
    refine lv_iload hx hb dX7_codeAt_5 (lv_at hl 4 rfl) ?_
    refine lv_iload_n hx hb dX7_codeAt_7 rfl (lv_at hl 1 rfl) ?_
    refine lv_iload_n hx hb dX7_codeAt_8 rfl (lv_at hl 2 rfl) ?_
    refine lv_iadd hx hb dX7_codeAt_9 ?_
    refine lv_icmp_ge (tgt := 40) hx hb dX7_codeAt_10 (by decide) (fun c1 => ?_) (fun c1 => ?_)
    · have hw := ite_t hw c1
      refine lv_lload_n hx hb dX7_codeAt_40 rfl (lv_at hl 3 rfl) ?_
      exact hv_lret hx hb hr hlk hH hw dX7_codeAt_41
    · have hw := ite_f hw c1
      refine lv_ldc2 (v := (32 : Int64)) hx hb hown (hKK.use kc_X7_193 rfl _) dX7_codeAt_13 ?_
      refine lv_lload_n hx hb dX7_codeAt_16 rfl (lv_at hl 3 rfl) ?_
      refine lv_lmul hx hb dX7_codeAt_17 ?_
      refine lv_aload_n hx hb dX7_codeAt_18 rfl (lv_at hl 0 rfl) ?_
      obtain ⟨k2, hw⟩ := hw
      refine hv_get (ci := 7) (k := 16) (v := .ref (S.2 v0 16)) hx hb hown hKK hH cf7 (by decide) fl_X7_49 rfl k2 rfl dX7_codeAt_19 ?_
      refine lv_iload hx hb dX7_codeAt_22 (lv_at hl 4 rfl) ?_
      obtain ⟨k3, hw⟩ := hw
      refine hv_iald hx hb hKK hH k3 dX7_codeAt_24 ?_
      refine lv_i2l hx hb dX7_codeAt_25 rfl ?_
      refine lv_ladd hx hb dX7_codeAt_26 ?_
      refine lv_ldc2 (v := (97 : Int64)) hx hb hown (hKK.use kc_X7_195 rfl _) dX7_codeAt_27 ?_
      refine lv_lsub hx hb dX7_codeAt_30 ?_
      refine lv_lconst (v := (lN 1)) hx hb dX7_codeAt_31 rfl ?_
      refine lv_ladd hx hb dX7_codeAt_32 ?_
      refine lv_lstore_n (lv' := [(3, .long (((((32 : Int64) * v3) + ((h (S.2 v0 16) (ix v5)).toInt64)) - (97 : Int64)) + (lN 1))), (0, .ref v0), (1, .int v1), (2, .int v2), (5, .int v5)]) hx hb dX7_codeAt_33 rfl hl (by decide) rfl (fun ls hl => ?_)
      refine lv_iinc (v := v5 + (nI 1)) (lv' := [(5, .int (v5 + (nI 1))), (3, .long (((((32 : Int64) * v3) + ((h (S.2 v0 16) (ix v5)).toInt64)) - (97 : Int64)) + (lN 1))), (0, .ref v0), (1, .int v1), (2, .int v2)]) hx hb dX7_codeAt_34 hl (k := 4) rfl rfl (by decide) rfl (fun ls hl => ?_)
      refine lv_goto (tgt := 5) hx hb dX7_codeAt_37 (by decide) ?_
      exact hK5 _ _ _ H locs ls hH (lv_sub hl [2, 3, 4, 1, 0] rfl) hw
  unfold w_X7_codeAt at hw
  show W p l e rm_X7_codeAt s m args below meth c H [] 0 0 (QL G B S sz below args s Q) (F0 m 0 ls [])
  generalize ([] : List Loc) = locs at hH ⊢
  refine lv_lconst (v := (lN 0)) hx hb dX7_codeAt_0 rfl ?_
  refine lv_lstore_n (lv' := [(3, .long (lN 0)), (0, .ref v0), (1, .int v1), (2, .int v2)]) hx hb dX7_codeAt_1 rfl hl (by decide) rfl (fun ls hl => ?_)
  refine lv_iload_n hx hb dX7_codeAt_2 rfl (lv_at hl 2 rfl) ?_
  refine lv_istore (lv' := [(5, .int v1), (3, .long (lN 0)), (0, .ref v0), (1, .int v1), (2, .int v2)]) hx hb dX7_codeAt_3 hl (by decide) rfl (fun ls hl => ?_)
  exact c5 _ _ _ _ _ _ H locs ls hH (lv_sub hl [2, 3, 4, 1, 0] rfl) hw
abbrev rm_X7_isNumber : Room := { frames := 0, cells := 0, slots := 0, locals := 0 }
set_option maxHeartbeats 4000000 in
set_option maxRecDepth 100000 in
theorem m_X7_isNumber {l : Launch} {G : Gl} {B sz : Nat} {S : St} (v0 : Nat) (v1 : Int32) (v2 : Int32) (h : Hp) (Q : Int32 → Hp → Prop) (hw : w_X7_isNumber S v0 v1 v2 h Q) : MI l G B sz S yX7_isNumber cX7_isNumber 3 .boolean rm_X7_isNumber [.ref v0, .int v1, .int v2] h Q := by
  refine met_of rfl rfl ?_
  intro p e s m args below meth c hMB H ls hH hl
  obtain ⟨hx, hb, hml, hown, hKK, hr, hlk⟩ := hMB
  replace hl : lv_has ls 3 [(0, .ref v0), (1, .int v1), (2, .int v2)] := hl
  unfold w_X7_isNumber at hw
  show W p l e rm_X7_isNumber s m args below meth c H [] 0 0 (QI G B S sz below args s Q) (F0 m 0 ls [])
  generalize ([] : List Loc) = locs at hH ⊢
  refine lv_iload_n hx hb dX7_isNumber_0 rfl (lv_at hl 2 rfl) ?_
  refine lv_aload_n hx hb dX7_isNumber_1 rfl (lv_at hl 0 rfl) ?_
  obtain ⟨k1, hw⟩ := hw
  refine hv_get (ci := 7) (k := 19) (v := .ref (S.2 v0 19)) hx hb hown hKK hH cf7 (by decide) fl_X7_58 rfl k1 rfl dX7_isNumber_2 ?_
  refine lv_iload_n hx hb dX7_isNumber_5 rfl (lv_at hl 1 rfl) ?_
  obtain ⟨k2, hw⟩ := hw
  refine hv_iald hx hb hKK hH k2 dX7_isNumber_6 ?_
  refine lv_icmp_ge (tgt := 34) hx hb dX7_isNumber_7 (by decide) (fun c3 => ?_) (fun c3 => ?_)
  · have hw := ite_t hw c3
    refine lv_iconst (v := (nI 0)) hx hb dX7_isNumber_34 (by decide) ?_
    exact hv_zret hx hb hr hlk hH (Or.inl rfl) hw dX7_isNumber_35
  · have hw := ite_f hw c3
    refine lv_aload_n hx hb dX7_isNumber_10 rfl (lv_at hl 0 rfl) ?_
    refine hv_get (ci := 7) (k := 16) (v := .ref (S.2 v0 16)) hx hb hown hKK hH cf7 (by decide) fl_X7_49 rfl k1 rfl dX7_isNumber_11 ?_
    refine lv_aload_n hx hb dX7_isNumber_14 rfl (lv_at hl 0 rfl) ?_
    refine hv_get (ci := 7) (k := 20) (v := .ref (S.2 v0 20)) hx hb hown hKK hH cf7 (by decide) fl_X7_61 rfl k1 rfl dX7_isNumber_15 ?_
    refine lv_iconst (v := (nI 3)) hx hb dX7_isNumber_18 (by decide) ?_
    refine lv_iload_n hx hb dX7_isNumber_19 rfl (lv_at hl 1 rfl) ?_
    refine lv_imul hx hb dX7_isNumber_20 ?_
    refine lv_iload_n hx hb dX7_isNumber_21 rfl (lv_at hl 2 rfl) ?_
    refine lv_iadd hx hb dX7_isNumber_22 ?_
    obtain ⟨k4, hw⟩ := hw
    refine hv_iald hx hb hKK hH k4 dX7_isNumber_23 ?_
    obtain ⟨k5, hw⟩ := hw
    refine hv_iald hx hb hKK hH k5 dX7_isNumber_24 ?_
    refine lv_bipush (v := (nI 57)) hx hb dX7_isNumber_25 (by decide) ?_
    refine lv_icmp_gt (tgt := 34) hx hb dX7_isNumber_27 (by decide) (fun c6 => ?_) (fun c6 => ?_)
    · have hw := ite_t hw c6
      refine lv_iconst (v := (nI 0)) hx hb dX7_isNumber_34 (by decide) ?_
      exact hv_zret hx hb hr hlk hH (Or.inl rfl) hw dX7_isNumber_35
    · have hw := ite_f hw c6
      refine lv_iconst (v := (nI 1)) hx hb dX7_isNumber_30 (by decide) ?_
      refine lv_goto (tgt := 35) hx hb dX7_isNumber_31 (by decide) ?_
      exact hv_zret hx hb hr hlk hH (Or.inr rfl) hw dX7_isNumber_35
abbrev rm_X7_areLetters : Room := { frames := 0, cells := 0, slots := 0, locals := 0 }
set_option maxHeartbeats 4000000 in
set_option maxRecDepth 100000 in
theorem m_X7_areLetters {l : Launch} {G : Gl} {B sz : Nat} {S : St} (v0 : Nat) (v1 : Int32) (v2 : Int32) (h : Hp) (Q : Int32 → Hp → Prop) (hw : w_X7_areLetters S v0 v1 v2 h Q) : MI l G B sz S yX7_areLetters cX7_areLetters 3 .boolean rm_X7_areLetters [.ref v0, .int v1, .int v2] h Q := by
  refine met_of rfl rfl ?_
  intro p e s m args below meth c hMB H ls hH hl
  obtain ⟨hx, hb, hml, hown, hKK, hr, hlk⟩ := hMB
  replace hl : lv_has ls 3 [(0, .ref v0), (1, .int v1), (2, .int v2)] := hl
  unfold w_X7_areLetters at hw
  show W p l e rm_X7_areLetters s m args below meth c H [] 0 0 (QI G B S sz below args s Q) (F0 m 0 ls [])
  generalize ([] : List Loc) = locs at hH ⊢
  refine lv_iload_n hx hb dX7_areLetters_0 rfl (lv_at hl 2 rfl) ?_
  refine lv_aload_n hx hb dX7_areLetters_1 rfl (lv_at hl 0 rfl) ?_
  obtain ⟨k1, hw⟩ := hw
  refine hv_get (ci := 7) (k := 19) (v := .ref (S.2 v0 19)) hx hb hown hKK hH cf7 (by decide) fl_X7_58 rfl k1 rfl dX7_areLetters_2 ?_
  refine lv_iload_n hx hb dX7_areLetters_5 rfl (lv_at hl 1 rfl) ?_
  obtain ⟨k2, hw⟩ := hw
  refine hv_iald hx hb hKK hH k2 dX7_areLetters_6 ?_
  refine lv_icmp_ge (tgt := 34) hx hb dX7_areLetters_7 (by decide) (fun c3 => ?_) (fun c3 => ?_)
  · have hw := ite_t hw c3
    refine lv_iconst (v := (nI 0)) hx hb dX7_areLetters_34 (by decide) ?_
    exact hv_zret hx hb hr hlk hH (Or.inl rfl) hw dX7_areLetters_35
  · have hw := ite_f hw c3
    refine lv_aload_n hx hb dX7_areLetters_10 rfl (lv_at hl 0 rfl) ?_
    refine hv_get (ci := 7) (k := 16) (v := .ref (S.2 v0 16)) hx hb hown hKK hH cf7 (by decide) fl_X7_49 rfl k1 rfl dX7_areLetters_11 ?_
    refine lv_aload_n hx hb dX7_areLetters_14 rfl (lv_at hl 0 rfl) ?_
    refine hv_get (ci := 7) (k := 20) (v := .ref (S.2 v0 20)) hx hb hown hKK hH cf7 (by decide) fl_X7_61 rfl k1 rfl dX7_areLetters_15 ?_
    refine lv_iconst (v := (nI 3)) hx hb dX7_areLetters_18 (by decide) ?_
    refine lv_iload_n hx hb dX7_areLetters_19 rfl (lv_at hl 1 rfl) ?_
    refine lv_imul hx hb dX7_areLetters_20 ?_
    refine lv_iload_n hx hb dX7_areLetters_21 rfl (lv_at hl 2 rfl) ?_
    refine lv_iadd hx hb dX7_areLetters_22 ?_
    obtain ⟨k4, hw⟩ := hw
    refine hv_iald hx hb hKK hH k4 dX7_areLetters_23 ?_
    obtain ⟨k5, hw⟩ := hw
    refine hv_iald hx hb hKK hH k5 dX7_areLetters_24 ?_
    refine lv_bipush (v := (nI 57)) hx hb dX7_areLetters_25 (by decide) ?_
    refine lv_icmp_le (tgt := 34) hx hb dX7_areLetters_27 (by decide) (fun c6 => ?_) (fun c6 => ?_)
    · have hw := ite_t hw c6
      refine lv_iconst (v := (nI 0)) hx hb dX7_areLetters_34 (by decide) ?_
      exact hv_zret hx hb hr hlk hH (Or.inl rfl) hw dX7_areLetters_35
    · have hw := ite_f hw c6
      refine lv_iconst (v := (nI 1)) hx hb dX7_areLetters_30 (by decide) ?_
      refine lv_goto (tgt := 35) hx hb dX7_areLetters_31 (by decide) ?_
      exact hv_zret hx hb hr hlk hH (Or.inr rfl) hw dX7_areLetters_35
abbrev rm_X7_numberOf : Room := { frames := 1, cells := 0, slots := 0, locals := 22 }
set_option maxHeartbeats 4000000 in
set_option maxRecDepth 100000 in
theorem m_X7_numberOf {l : Launch} {G : Gl} {B sz : Nat} {S : St} (v0 : Nat) (v1 : Int32) (v2 : Int32) (h : Hp) (Q : Int32 → Hp → Prop) (hw : w_X7_numberOf S v0 v1 v2 h Q) : MI l G B sz S yX7_numberOf cX7_numberOf 5 .int rm_X7_numberOf [.ref v0, .int v1, .int v2] h Q := by
  refine met_of rfl rfl ?_
  intro p e s m args below meth c hMB H ls hH hl
  obtain ⟨hx, hb, hml, hown, hKK, hr, hlk⟩ := hMB
  replace hl : lv_has ls 5 [(0, .ref v0), (1, .int v1), (2, .int v2)] := hl
  unfold w_X7_numberOf at hw
  show W p l e rm_X7_numberOf s m args below meth c H [] 0 0 (QI G B S sz below args s Q) (F0 m 0 ls [])
  generalize ([] : List Loc) = locs at hH ⊢
  refine lv_aload_n hx hb dX7_numberOf_0 rfl (lv_at hl 0 rfl) ?_
  refine lv_iload_n hx hb dX7_numberOf_1 rfl (lv_at hl 1 rfl) ?_
  refine lv_iload_n hx hb dX7_numberOf_2 rfl (lv_at hl 2 rfl) ?_
  obtain ⟨k1, hw⟩ := hw
  refine hv_cVI (rm := rm_X7_isNumber) (As := [.int v1, .int v2]) (rest := []) (k := 2) (ci := 7) hx hb hml hown hKK hH cf7 k1 (m_X7_isNumber v0 v1 v2 _ _ hw) cw_X7_197 ⟨Nat.le_of_ble_eq_true rfl, Nat.le_of_ble_eq_true rfl⟩ rfl hl.1 rfl (Nat.le_of_ble_eq_true rfl) ⟨Nat.le_of_ble_eq_true rfl, Nat.le_of_ble_eq_true rfl⟩ dX7_numberOf_3 (fun r3 h2 H locs hH hw => ?_)
  refine lv_if_ne (tgt := 12) hx hb dX7_numberOf_6 (by decide) (fun c4 => ?_) (fun c4 => ?_)
  · have hw := ite_f hw c4
    refine lv_aload_n hx hb dX7_numberOf_12 rfl (lv_at hl 0 rfl) ?_
    refine hv_get (ci := 7) (k := 20) (v := .ref (S.2 v0 20)) hx hb hown hKK hH cf7 (by decide) fl_X7_61 rfl k1 rfl dX7_numberOf_13 ?_
    refine lv_iconst (v := (nI 3)) hx hb dX7_numberOf_16 (by decide) ?_
    refine lv_iload_n hx hb dX7_numberOf_17 rfl (lv_at hl 1 rfl) ?_
    refine lv_imul hx hb dX7_numberOf_18 ?_
    refine lv_iload_n hx hb dX7_numberOf_19 rfl (lv_at hl 2 rfl) ?_
    refine lv_iadd hx hb dX7_numberOf_20 ?_
    obtain ⟨k5, hw⟩ := hw
    refine hv_iald hx hb hKK hH k5 dX7_numberOf_21 ?_
    refine lv_istore_n (lv' := [(3, .int (h2 (S.2 v0 20) (ix (((nI 3) * v1) + v2)))), (0, .ref v0), (1, .int v1), (2, .int v2)]) hx hb dX7_numberOf_22 rfl hl (by decide) rfl (fun ls hl => ?_)
    refine lv_aload_n hx hb dX7_numberOf_23 rfl (lv_at hl 1 rfl) ?_
    refine hv_get (ci := 7) (k := 16) (v := .ref (S.2 v0 16)) hx hb hown hKK hH cf7 (by decide) fl_X7_49 rfl k1 rfl dX7_numberOf_24 ?_
    refine lv_iload_n hx hb dX7_numberOf_27 rfl (lv_at hl 0 rfl) ?_
    obtain ⟨k6, hw⟩ := hw
    refine hv_iald hx hb hKK hH k6 dX7_numberOf_28 ?_
    refine lv_bipush (v := (nI 48)) hx hb dX7_numberOf_29 (by decide) ?_
    refine lv_isub hx hb dX7_numberOf_31 ?_
    refine lv_istore (lv' := [(4, .int ((h2 (S.2 v0 16) (ix (h2 (S.2 v0 20) (ix (((nI 3) * v1) + v2))))) - (nI 48))), (3, .int (h2 (S.2 v0 20) (ix (((nI 3) * v1) + v2)))), (0, .ref v0), (1, .int v1), (2, .int v2)]) hx hb dX7_numberOf_32 hl (by decide) rfl (fun ls hl => ?_)
    refine lv_aload_n hx hb dX7_numberOf_34 rfl (lv_at hl 2 rfl) ?_
    refine hv_get (ci := 7) (k := 21) (v := .ref (S.2 v0 21)) hx hb hown hKK hH cf7 (by decide) fl_X7_64 rfl k1 rfl dX7_numberOf_35 ?_
    refine lv_iconst (v := (nI 3)) hx hb dX7_numberOf_38 (by decide) ?_
    refine lv_iload_n hx hb dX7_numberOf_39 rfl (lv_at hl 3 rfl) ?_
    refine lv_imul hx hb dX7_numberOf_40 ?_
    refine lv_iload_n hx hb dX7_numberOf_41 rfl (lv_at hl 4 rfl) ?_
    refine lv_iadd hx hb dX7_numberOf_42 ?_
    obtain ⟨k7, hw⟩ := hw
    refine hv_iald hx hb hKK hH k7 dX7_numberOf_43 ?_
    refine lv_iconst (v := (nI 1)) hx hb dX7_numberOf_44 (by decide) ?_
    refine lv_icmp_ne (tgt := 53) hx hb dX7_numberOf_45 (by decide) (fun c8 => ?_) (fun c8 => ?_)
    · have hw := ite_f hw c8
      refine lv_bipush (v := (nI 10)) hx hb dX7_numberOf_53 (by decide) ?_
      refine lv_iload hx hb dX7_numberOf_55 (lv_at hl 0 rfl) ?_
      refine lv_imul hx hb dX7_numberOf_57 ?_
      refine lv_aload_n hx hb dX7_numberOf_58 rfl (lv_at hl 2 rfl) ?_
      refine hv_get (ci := 7) (k := 16) (v := .ref (S.2 v0 16)) hx hb hown hKK hH cf7 (by decide) fl_X7_49 rfl k1 rfl dX7_numberOf_59 ?_
      refine lv_iload_n hx hb dX7_numberOf_62 rfl (lv_at hl 1 rfl) ?_
      refine lv_iconst (v := (nI 1)) hx hb dX7_numberOf_63 (by decide) ?_
      refine lv_iadd hx hb dX7_numberOf_64 ?_
      obtain ⟨k9, hw⟩ := hw
      refine hv_iald hx hb hKK hH k9 dX7_numberOf_65 ?_
      refine lv_iadd hx hb dX7_numberOf_66 ?_
      refine lv_bipush (v := (nI 48)) hx hb dX7_numberOf_67 (by decide) ?_
      refine lv_isub hx hb dX7_numberOf_69 ?_
      exact hv_iret hx hb hr hlk hH hw dX7_numberOf_70
    · have hw := ite_t hw c8
      refine lv_iload hx hb dX7_numberOf_48 (lv_at hl 0 rfl) ?_
      refine lv_goto (tgt := 70) hx hb dX7_numberOf_50 (by decide) ?_
      exact hv_iret hx hb hr hlk hH hw dX7_numberOf_70
  · have hw := ite_t hw c4
    refine lv_bipush (v := (-9)) hx hb dX7_numberOf_9 (by decide) ?_
    exact hv_iret hx hb hr hlk hH hw dX7_numberOf_11
abbrev rm_X7_wordOf : Room := { frames := 1, cells := 0, slots := 0, locals := 25 }
set_option maxHeartbeats 4000000 in
set_option maxRecDepth 100000 in
theorem m_X7_wordOf {l : Launch} {G : Gl} {B sz : Nat} {S : St} (v0 : Nat) (v1 : Int32) (v2 : Int32) (h : Hp) (Q : Int64 → Hp → Prop) (hw : w_X7_wordOf S v0 v1 v2 h Q) : ML l G B sz S yX7_wordOf cX7_wordOf 3 rm_X7_wordOf [.ref v0, .int v1, .int v2] h Q := by
  refine met_of rfl rfl ?_
  intro p e s m args below meth c hMB H ls hH hl
  obtain ⟨hx, hb, hml, hown, hKK, hr, hlk⟩ := hMB
  replace hl : lv_has ls 3 [(0, .ref v0), (1, .int v1), (2, .int v2)] := hl
  unfold w_X7_wordOf at hw
  show W p l e rm_X7_wordOf s m args below meth c H [] 0 0 (QL G B S sz below args s Q) (F0 m 0 ls [])
  generalize ([] : List Loc) = locs at hH ⊢
  refine lv_aload_n hx hb dX7_wordOf_0 rfl (lv_at hl 0 rfl) ?_
  refine lv_iload_n hx hb dX7_wordOf_1 rfl (lv_at hl 1 rfl) ?_
  refine lv_iload_n hx hb dX7_wordOf_2 rfl (lv_at hl 2 rfl) ?_
  obtain ⟨k1, hw⟩ := hw
  refine hv_cVI (rm := rm_X7_areLetters) (As := [.int v1, .int v2]) (rest := []) (k := 2) (ci := 7) hx hb hml hown hKK hH cf7 k1 (m_X7_areLetters v0 v1 v2 _ _ hw) cw_X7_200 ⟨Nat.le_of_ble_eq_true rfl, Nat.le_of_ble_eq_true rfl⟩ rfl hl.1 rfl (Nat.le_of_ble_eq_true rfl) ⟨Nat.le_of_ble_eq_true rfl, Nat.le_of_ble_eq_true rfl⟩ dX7_wordOf_3 (fun r3 h2 H locs hH hw => ?_)
  refine lv_if_eq (tgt := 36) hx hb dX7_wordOf_6 (by decide) (fun c4 => ?_) (fun c4 => ?_)
  · have hw := ite_t hw c4
    refine lv_lconst (v := (lN 0)) hx hb dX7_wordOf_36 rfl ?_
    exact hv_lret hx hb hr hlk hH hw dX7_wordOf_37
  · have hw := ite_f hw c4
    refine lv_aload_n hx hb dX7_wordOf_9 rfl (lv_at hl 0 rfl) ?_
    refine lv_aload_n hx hb dX7_wordOf_10 rfl (lv_at hl 0 rfl) ?_
    refine hv_get (ci := 7) (k := 20) (v := .ref (S.2 v0 20)) hx hb hown hKK hH cf7 (by decide) fl_X7_61 rfl k1 rfl dX7_wordOf_11 ?_
    refine lv_iconst (v := (nI 3)) hx hb dX7_wordOf_14 (by decide) ?_
    refine lv_iload_n hx hb dX7_wordOf_15 rfl (lv_at hl 1 rfl) ?_
    refine lv_imul hx hb dX7_wordOf_16 ?_
    refine lv_iload_n hx hb dX7_wordOf_17 rfl (lv_at hl 2 rfl) ?_
    refine lv_iadd hx hb dX7_wordOf_18 ?_
    obtain ⟨k5, hw⟩ := hw
    refine hv_iald hx hb hKK hH k5 dX7_wordOf_19 ?_
    refine lv_aload_n hx hb dX7_wordOf_20 rfl (lv_at hl 0 rfl) ?_
    refine hv_get (ci := 7) (k := 21) (v := .ref (S.2 v0 21)) hx hb hown hKK hH cf7 (by decide) fl_X7_64 rfl k1 rfl dX7_wordOf_21 ?_
    refine lv_iconst (v := (nI 3)) hx hb dX7_wordOf_24 (by decide) ?_
    refine lv_iload_n hx hb dX7_wordOf_25 rfl (lv_at hl 1 rfl) ?_
    refine lv_imul hx hb dX7_wordOf_26 ?_
    refine lv_iload_n hx hb dX7_wordOf_27 rfl (lv_at hl 2 rfl) ?_
    refine lv_iadd hx hb dX7_wordOf_28 ?_
    obtain ⟨k6, hw⟩ := hw
    refine hv_iald hx hb hKK hH k6 dX7_wordOf_29 ?_
    refine hv_cVL (rm := rm_X7_codeAt) (As := [.int (h2 (S.2 v0 20) (ix (((nI 3) * v1) + v2))), .int (h2 (S.2 v0 21) (ix (((nI 3) * v1) + v2)))]) (rest := []) (k := 2) (ci := 7) hx hb hml hown hKK hH cf7 k1 (m_X7_codeAt v0 (h2 (S.2 v0 20) (ix (((nI 3) * v1) + v2))) (h2 (S.2 v0 21) (ix (((nI 3) * v1) + v2))) _ _ hw) cw_X7_203 ⟨Nat.le_of_ble_eq_true rfl, Nat.le_of_ble_eq_true rfl⟩ rfl hl.1 rfl (Nat.le_of_ble_eq_true rfl) ⟨Nat.le_of_ble_eq_true rfl, Nat.le_of_ble_eq_true rfl⟩ dX7_wordOf_30 (fun r8 h7 H locs hH hw => ?_)
    refine lv_goto (tgt := 37) hx hb dX7_wordOf_33 (by decide) ?_
    exact hv_lret hx hb hr hlk hH hw dX7_wordOf_37
abbrev rm_X7_kindSaid : Room := { frames := 0, cells := 0, slots := 0, locals := 0 }
set_option maxHeartbeats 4000000 in
set_option maxRecDepth 100000 in
theorem m_X7_kindSaid {l : Launch} {G : Gl} {B sz : Nat} {S : St} (v0 : Int64) (h : Hp) (Q : Int32 → Hp → Prop) (hw : w_X7_kindSaid S v0 h Q) : MI l G B sz S yX7_kindSaid cX7_kindSaid 2 .int rm_X7_kindSaid [.long v0] h Q := by
  refine met_of rfl rfl ?_
  intro p e s m args below meth c hMB H ls hH hl
  obtain ⟨hx, hb, hml, hown, hKK, hr, hlk⟩ := hMB
  replace hl : lv_has ls 2 [(0, .long v0)] := hl
  unfold w_X7_kindSaid at hw
  show W p l e rm_X7_kindSaid s m args below meth c H [] 0 0 (QI G B S sz below args s Q) (F0 m 0 ls [])
  generalize ([] : List Loc) = locs at hH ⊢
  refine lv_lload_n hx hb dX7_kindSaid_0 rfl (lv_at hl 0 rfl) ?_
  refine lv_ldc2 (v := (394393 : Int64)) hx hb hown (hKK.use kc_X7_207 rfl _) dX7_kindSaid_1 ?_
  refine W.lcmp hx hb dX7_kindSaid_4 ?_
  refine lv_if_ne (tgt := 10) hx hb dX7_kindSaid_5 (by decide) (fun c1 => ?_) (fun c1 => ?_)
  · have hw := ite_f hw c1
    refine lv_lload_n hx hb dX7_kindSaid_10 rfl (lv_at hl 0 rfl) ?_
    refine lv_ldc2 (v := (18519214 : Int64)) hx hb hown (hKK.use kc_X7_209 rfl _) dX7_kindSaid_11 ?_
    refine W.lcmp hx hb dX7_kindSaid_14 ?_
    refine lv_if_ne (tgt := 20) hx hb dX7_kindSaid_15 (by decide) (fun c2 => ?_) (fun c2 => ?_)
    · have hw := ite_f hw c2
      refine lv_lload_n hx hb dX7_kindSaid_20 rfl (lv_at hl 0 rfl) ?_
      refine lv_ldc2 (v := (650172594 : Int64)) hx hb hown (hKK.use kc_X7_211 rfl _) dX7_kindSaid_21 ?_
      refine W.lcmp hx hb dX7_kindSaid_24 ?_
      refine lv_if_ne (tgt := 30) hx hb dX7_kindSaid_25 (by decide) (fun c3 => ?_) (fun c3 => ?_)
      · have hw := ite_f hw c3
        refine lv_lload_n hx hb dX7_kindSaid_30 rfl (lv_at hl 0 rfl) ?_
        refine lv_ldc2 (v := (3417476 : Int64)) hx hb hown (hKK.use kc_X7_213 rfl _) dX7_kindSaid_31 ?_
        refine W.lcmp hx hb dX7_kindSaid_34 ?_
        refine lv_if_ne (tgt := 40) hx hb dX7_kindSaid_35 (by decide) (fun c4 => ?_) (fun c4 => ?_)
        · have hw := ite_f hw c4
          refine lv_lload_n hx hb dX7_kindSaid_40 rfl (lv_at hl 0 rfl) ?_
          refine lv_ldc2 (v := (19965396 : Int64)) hx hb hown (hKK.use kc_X7_215 rfl _) dX7_kindSaid_41 ?_
          refine W.lcmp hx hb dX7_kindSaid_44 ?_
          refine lv_if_ne (tgt := 50) hx hb dX7_kindSaid_45 (by decide) (fun c5 => ?_) (fun c5 => ?_)
          · have hw := ite_f hw c5
            refine lv_lload_n hx hb dX7_kindSaid_50 rfl (lv_at hl 0 rfl) ?_
            refine lv_ldc2 (v := (3737527474 : Int64)) hx hb hown (hKK.use kc_X7_217 rfl _) dX7_kindSaid_51 ?_
            refine W.lcmp hx hb dX7_kindSaid_54 ?_
            refine lv_if_ne (tgt := 60) hx hb dX7_kindSaid_55 (by decide) (fun c6 => ?_) (fun c6 => ?_)
            · have hw := ite_f hw c6
              refine lv_lload_n hx hb dX7_kindSaid_60 rfl (lv_at hl 0 rfl) ?_
              refine lv_ldc2 (v := (546899589 : Int64)) hx hb hown (hKK.use kc_X7_219 rfl _) dX7_kindSaid_61 ?_
              refine W.lcmp hx hb dX7_kindSaid_64 ?_
              refine lv_if_ne (tgt := 71) hx hb dX7_kindSaid_65 (by decide) (fun c7 => ?_) (fun c7 => ?_)
              · have hw := ite_f hw c7
                refine lv_lload_n hx hb dX7_kindSaid_71 rfl (lv_at hl 0 rfl) ?_
                refine lv_ldc2 (v := (14145717540 : Int64)) hx hb hown (hKK.use kc_X7_221 rfl _) dX7_kindSaid_72 ?_
                refine W.lcmp hx hb dX7_kindSaid_75 ?_
                refine lv_if_ne (tgt := 84) hx hb dX7_kindSaid_76 (by decide) (fun c8 => ?_) (fun c8 => ?_)
                · have hw := ite_f hw c8
                  refine lv_bipush (v := (-9)) hx hb dX7_kindSaid_84 (by decide) ?_
                  exact hv_iret hx hb hr hlk hH hw dX7_kindSaid_86
                · have hw := ite_t hw c8
                  refine lv_bipush (v := (nI 7)) hx hb dX7_kindSaid_79 (by decide) ?_
                  refine lv_goto (tgt := 86) hx hb dX7_kindSaid_81 (by decide) ?_
                  exact hv_iret hx hb hr hlk hH hw dX7_kindSaid_86
              · have hw := ite_t hw c7
                refine lv_bipush (v := (nI 6)) hx hb dX7_kindSaid_68 (by decide) ?_
                exact hv_iret hx hb hr hlk hH hw dX7_kindSaid_70
            · have hw := ite_t hw c6
              refine lv_iconst (v := (nI 5)) hx hb dX7_kindSaid_58 (by decide) ?_
              exact hv_iret hx hb hr hlk hH hw dX7_kindSaid_59
          · have hw := ite_t hw c5
            refine lv_iconst (v := (nI 4)) hx hb dX7_kindSaid_48 (by decide) ?_
            exact hv_iret hx hb hr hlk hH hw dX7_kindSaid_49
        · have hw := ite_t hw c4
          refine lv_iconst (v := (nI 3)) hx hb dX7_kindSaid_38 (by decide) ?_
          exact hv_iret hx hb hr hlk hH hw dX7_kindSaid_39
      · have hw := ite_t hw c3
        refine lv_iconst (v := (nI 2)) hx hb dX7_kindSaid_28 (by decide) ?_
        exact hv_iret hx hb hr hlk hH hw dX7_kindSaid_29
    · have hw := ite_t hw c2
      refine lv_iconst (v := (nI 1)) hx hb dX7_kindSaid_18 (by decide) ?_
      exact hv_iret hx hb hr hlk hH hw dX7_kindSaid_19
  · have hw := ite_t hw c1
    refine lv_iconst (v := (nI 0)) hx hb dX7_kindSaid_8 (by decide) ?_
    exact hv_iret hx hb hr hlk hH hw dX7_kindSaid_9
abbrev rm_X7_doesSaid : Room := { frames := 0, cells := 0, slots := 0, locals := 0 }
set_option maxHeartbeats 4000000 in
set_option maxRecDepth 100000 in
theorem m_X7_doesSaid {l : Launch} {G : Gl} {B sz : Nat} {S : St} (v0 : Int64) (h : Hp) (Q : Int32 → Hp → Prop) (hw : w_X7_doesSaid S v0 h Q) : MI l G B sz S yX7_doesSaid cX7_doesSaid 2 .int rm_X7_doesSaid [.long v0] h Q := by
  refine met_of rfl rfl ?_
  intro p e s m args below meth c hMB H ls hH hl
  obtain ⟨hx, hb, hml, hown, hKK, hr, hlk⟩ := hMB
  replace hl : lv_has ls 2 [(0, .long v0)] := hl
  unfold w_X7_doesSaid at hw
  show W p l e rm_X7_doesSaid s m args below meth c H [] 0 0 (QI G B S sz below args s Q) (F0 m 0 ls [])
  generalize ([] : List Loc) = locs at hH ⊢
  refine lv_lload_n hx hb dX7_doesSaid_0 rfl (lv_at hl 0 rfl) ?_
  refine lv_ldc2 (v := (494 : Int64)) hx hb hown (hKK.use kc_X7_223 rfl _) dX7_doesSaid_1 ?_
  refine W.lcmp hx hb dX7_doesSaid_4 ?_
  refine lv_if_ne (tgt := 10) hx hb dX7_doesSaid_5 (by decide) (fun c1 => ?_) (fun c1 => ?_)
  · have hw := ite_f hw c1
    refine lv_lload_n hx hb dX7_doesSaid_10 rfl (lv_at hl 0 rfl) ?_
    refine lv_ldc2 (v := (398548 : Int64)) hx hb hown (hKK.use kc_X7_225 rfl _) dX7_doesSaid_11 ?_
    refine W.lcmp hx hb dX7_doesSaid_14 ?_
    refine lv_if_ne (tgt := 20) hx hb dX7_doesSaid_15 (by decide) (fun c2 => ?_) (fun c2 => ?_)
    · have hw := ite_f hw c2
      refine lv_lload_n hx hb dX7_doesSaid_20 rfl (lv_at hl 0 rfl) ?_
      refine lv_ldc2 (v := (19176724 : Int64)) hx hb hown (hKK.use kc_X7_227 rfl _) dX7_doesSaid_21 ?_
      refine W.lcmp hx hb dX7_doesSaid_24 ?_
      refine lv_if_ne (tgt := 30) hx hb dX7_doesSaid_25 (by decide) (fun c3 => ?_) (fun c3 => ?_)
      · have hw := ite_f hw c3
        refine lv_lload_n hx hb dX7_doesSaid_30 rfl (lv_at hl 0 rfl) ?_
        refine lv_ldc2 (v := (66667 : Int64)) hx hb hown (hKK.use kc_X7_229 rfl _) dX7_doesSaid_31 ?_
        refine W.lcmp hx hb dX7_doesSaid_34 ?_
        refine lv_if_ne (tgt := 40) hx hb dX7_doesSaid_35 (by decide) (fun c4 => ?_) (fun c4 => ?_)
        · have hw := ite_f hw c4
          refine lv_lload_n hx hb dX7_doesSaid_40 rfl (lv_at hl 0 rfl) ?_
          refine lv_ldc2 (v := (595572 : Int64)) hx hb hown (hKK.use kc_X7_231 rfl _) dX7_doesSaid_41 ?_
          refine W.lcmp hx hb dX7_doesSaid_44 ?_
          refine lv_if_ne (tgt := 52) hx hb dX7_doesSaid_45 (by decide) (fun c5 => ?_) (fun c5 => ?_)
          · have hw := ite_f hw c5
            refine lv_bipush (v := (-9)) hx hb dX7_doesSaid_52 (by decide) ?_
            exact hv_iret hx hb hr hlk hH hw dX7_doesSaid_54
          · have hw := ite_t hw c5
            refine lv_iconst (v := (nI 4)) hx hb dX7_doesSaid_48 (by decide) ?_
            refine lv_goto (tgt := 54) hx hb dX7_doesSaid_49 (by decide) ?_
            exact hv_iret hx hb hr hlk hH hw dX7_doesSaid_54
        · have hw := ite_t hw c4
          refine lv_iconst (v := (nI 3)) hx hb dX7_doesSaid_38 (by decide) ?_
          exact hv_iret hx hb hr hlk hH hw dX7_doesSaid_39
      · have hw := ite_t hw c3
        refine lv_iconst (v := (nI 2)) hx hb dX7_doesSaid_28 (by decide) ?_
        exact hv_iret hx hb hr hlk hH hw dX7_doesSaid_29
    · have hw := ite_t hw c2
      refine lv_iconst (v := (nI 1)) hx hb dX7_doesSaid_18 (by decide) ?_
      exact hv_iret hx hb hr hlk hH hw dX7_doesSaid_19
  · have hw := ite_t hw c1
    refine lv_iconst (v := (nI 0)) hx hb dX7_doesSaid_8 (by decide) ?_
    exact hv_iret hx hb hr hlk hH hw dX7_doesSaid_9
