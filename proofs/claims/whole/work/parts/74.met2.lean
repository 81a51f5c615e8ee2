abbrev rm_J3_checkIndex_8e157 : Room := { frames := 0, cells := 0, slots := 0, locals := 0 }
set_option maxHeartbeats 4000000 in
set_option maxRecDepth 100000 in
theorem m_J3_checkIndex_8e157 {l : Launch} {Z : Zg} {G : Gl} {B sz : Nat} {S : St} (v0 : Int32) (v1 : Int32) (v2 : Value) (h : Hp) (Q : Int32 → Hp → Prop) (gv2 : v2 = .null ∨ ∃ t, v2 = .ref t) (hw : w_J3_checkIndex_8e157 S v0 v1 v2 h Q) : MIs Z l G B sz S yJ3_checkIndex_8e157 cJ3_checkIndex_8e157 3 .int rm_J3_checkIndex_8e157 [.int v0, .int v1, v2] h Q := by
  refine met_ofs rfl (by rcases gv2 with rfl | ⟨t, rfl⟩ <;> rfl) ?_
  intro p e s m args below meth c hMB H ls hH hl
  obtain ⟨⟨hx, hb, hml, hown, hKK, hr, hlk⟩, hSK⟩ := hMB
  replace hl : lv_has ls 3 [(0, .int v0), (1, .int v1), (2, v2)] := hl
  unfold w_J3_checkIndex_8e157 at hw
  show W p l e rm_J3_checkIndex_8e157 s m args below meth c H [] 0 0 (QI G B S sz below args s Q) (F0 m 0 ls [])
  generalize ([] : List Loc) = locs at hH ⊢
  refine lv_iload_n hx hb dJ3_checkIndex_8e157_0 rfl (lv_at hl 0 rfl) ?_
  refine lv_if_lt (tgt := 9) hx hb dJ3_checkIndex_8e157_1 (by decide) (fun c1 => ?_) (fun c1 => ?_)
  · have hw := ite_t hw c1
    exact hw.elim
  · have hw := ite_f hw c1
    refine lv_iload_n hx hb dJ3_checkIndex_8e157_4 rfl (lv_at hl 0 rfl) ?_
    refine lv_iload_n hx hb dJ3_checkIndex_8e157_5 rfl (lv_at hl 1 rfl) ?_
    refine lv_icmp_lt (tgt := 16) hx hb dJ3_checkIndex_8e157_6 (by decide) (fun c2 => ?_) (fun c2 => ?_)
    · have hw := ite_t hw c2
      refine lv_iload_n hx hb dJ3_checkIndex_8e157_16 rfl (lv_at hl 0 rfl) ?_
      exact hv_iret hx hb hr hlk hH hw dJ3_checkIndex_8e157_17
    · have hw := ite_f hw c2
      exact hw.elim
abbrev rm_J0_checkIndex_df160 : Room := { frames := 1, cells := 0, slots := 0, locals := 22 }
set_option maxHeartbeats 4000000 in
set_option maxRecDepth 100000 in
theorem m_J0_checkIndex_df160 {l : Launch} {Z : Zg} {G : Gl} {B sz : Nat} {S : St} (v0 : Int32) (v1 : Int32) (h : Hp) (Q : Hp → Prop) (hw : w_J0_checkIndex_df160 S v0 v1 h Q) : MVs Z l G B sz S yJ0_checkIndex_df160 cJ0_checkIndex_df160 2 rm_J0_checkIndex_df160 [.int v0, .int v1] h Q := by
  refine met_ofs rfl rfl ?_
  intro p e s m args below meth c hMB H ls hH hl
  obtain ⟨⟨hx, hb, hml, hown, hKK, hr, hlk⟩, hSK⟩ := hMB
  replace hl : lv_has ls 2 [(0, .int v0), (1, .int v1)] := hl
  unfold w_J0_checkIndex_df160 at hw
  show W p l e rm_J0_checkIndex_df160 s m args below meth c H [] 0 0 (QV G B S sz below args s Q) (F0 m 0 ls [])
  generalize ([] : List Loc) = locs at hH ⊢
  refine lv_iload_n hx hb dJ0_checkIndex_df160_0 rfl (lv_at hl 0 rfl) ?_
  refine lv_iload_n hx hb dJ0_checkIndex_df160_1 rfl (lv_at hl 1 rfl) ?_
  refine hv_fmt hx hb hSK.2.2.2.1 hH.2 hown (hKK.use fl_J0_1053 rfl _) dJ0_checkIndex_df160_2 (fun f1 gf1 => ?_)
  have hw := hw f1
  refine hz_cTI (rm := rm_J3_checkIndex_8e157) (As := [.int v0, .int v1, f1]) (rest := []) (k := 3) hx hb hml hown hKK hSK hH (m_J3_checkIndex_8e157 v0 v1 f1 _ _ gf1 hw) cw_J0_1059 ⟨Nat.le_of_ble_eq_true rfl, Nat.le_of_ble_eq_true rfl⟩ rfl hl.1 rfl (Nat.le_of_ble_eq_true rfl) ⟨Nat.le_of_ble_eq_true rfl, Nat.le_of_ble_eq_true rfl⟩ dJ0_checkIndex_df160_5 (fun r3 h2 H locs hH hw => ?_)
  refine lv_pop hx hb dJ0_checkIndex_df160_8 rfl ?_
  exact hv_vret hx hb hr hlk hH hw dJ0_checkIndex_df160_9
abbrev rm_J0_coder_7d493 : Room := { frames := 0, cells := 0, slots := 0, locals := 0 }
set_option maxHeartbeats 4000000 in
set_option maxRecDepth 100000 in
theorem m_J0_coder_7d493 {l : Launch} {Z : Zg} {G : Gl} {B sz : Nat} {S : St} (v0 : Nat) (h : Hp) (Q : Int32 → Hp → Prop) (hw : w_J0_coder_7d493 S v0 h Q) : MIs Z l G B sz S yJ0_coder_7d493 cJ0_coder_7d493 1 .byte rm_J0_coder_7d493 [.ref (Z.1 v0)] h Q := by
  refine met_ofs rfl rfl ?_
  intro p e s m args below meth c hMB H ls hH hl
  obtain ⟨⟨hx, hb, hml, hown, hKK, hr, hlk⟩, hSK⟩ := hMB
  replace hl : lv_has ls 1 [(0, .ref (Z.1 v0))] := hl
  unfold w_J0_coder_7d493 at hw
  show W p l e rm_J0_coder_7d493 s m args below meth c H [] 0 0 (QI G B S sz below args s Q) (F0 m 0 ls [])
  generalize ([] : List Loc) = locs at hH ⊢
  refine va_gets hx hb hSK.2.2.1 hH.2 hown (hKK.use fl_J0_38 rfl _) (fun _ h => h) dJ0_coder_7d493_0 ?_
  refine lv_if_eq (tgt := 13) hx hb dJ0_coder_7d493_3 (by decide) (fun c => absurd c (by decide)) (fun _ => ?_)
  refine lv_aload_n hx hb dJ0_coder_7d493_6 rfl (lv_at hl 0 rfl) ?_
  obtain ⟨k1, hw⟩ := hw
  refine vk_getf hx hb (hSK.1.1 _ k1).2.1 hH.2 hown (hKK.use fl_J0_15 rfl _) (fun _ h => h) dJ0_coder_7d493_7 ?_
  refine lv_goto (tgt := 14) hx hb dJ0_coder_7d493_10 (by decide) ?_
  obtain ⟨k2, hw⟩ := hw
  exact hz_bret hx hb hr hlk hH k2 hw dJ0_coder_7d493_14
abbrev rm_J0_isLatin1_aae02 : Room := { frames := 0, cells := 0, slots := 0, locals := 0 }
set_option maxHeartbeats 4000000 in
set_option maxRecDepth 100000 in
theorem m_J0_isLatin1_aae02 {l : Launch} {Z : Zg} {G : Gl} {B sz : Nat} {S : St} (v0 : Nat) (h : Hp) (Q : Int32 → Hp → Prop) (hw : w_J0_isLatin1_aae02 S v0 h Q) : MIs Z l G B sz S yJ0_isLatin1_aae02 cJ0_isLatin1_aae02 1 .boolean rm_J0_isLatin1_aae02 [.ref (Z.1 v0)] h Q := by
  refine met_ofs rfl rfl ?_
  intro p e s m args below meth c hMB H ls hH hl
  obtain ⟨⟨hx, hb, hml, hown, hKK, hr, hlk⟩, hSK⟩ := hMB
  replace hl : lv_has ls 1 [(0, .ref (Z.1 v0))] := hl
  unfold w_J0_isLatin1_aae02 at hw
  show W p l e rm_J0_isLatin1_aae02 s m args below meth c H [] 0 0 (QI G B S sz below args s Q) (F0 m 0 ls [])
  generalize ([] : List Loc) = locs at hH ⊢
  refine va_gets hx hb hSK.2.2.1 hH.2 hown (hKK.use fl_J0_38 rfl _) (fun _ h => h) dJ0_isLatin1_aae02_0 ?_
  refine lv_if_eq (tgt := 17) hx hb dJ0_isLatin1_aae02_3 (by decide) (fun c => absurd c (by decide)) (fun _ => ?_)
  refine lv_aload_n hx hb dJ0_isLatin1_aae02_6 rfl (lv_at hl 0 rfl) ?_
  obtain ⟨k1, hw⟩ := hw
  refine vk_getf hx hb (hSK.1.1 _ k1).2.1 hH.2 hown (hKK.use fl_J0_15 rfl _) (fun _ h => h) dJ0_isLatin1_aae02_7 ?_
  refine lv_if_ne (tgt := 17) hx hb dJ0_isLatin1_aae02_10 (by decide) (fun c => absurd (by decide) c) (fun _ => ?_)
  refine lv_iconst (v := (nI 1)) hx hb dJ0_isLatin1_aae02_13 (by decide) ?_
  refine lv_goto (tgt := 18) hx hb dJ0_isLatin1_aae02_14 (by decide) ?_
  exact hv_zret hx hb hr hlk hH (Or.inr rfl) hw dJ0_isLatin1_aae02_18
abbrev rm_J0_length_8abf5 : Room := { frames := 1, cells := 0, slots := 0, locals := 20 }
set_option maxHeartbeats 4000000 in
set_option maxRecDepth 100000 in
theorem m_J0_length_8abf5 {l : Launch} {Z : Zg} {G : Gl} {B sz : Nat} {S : St} (v0 : Nat) (h : Hp) (Q : Int32 → Hp → Prop) (hw : w_J0_length_8abf5 S v0 h Q) : MIs Z l G B sz S yJ0_length_8abf5 cJ0_length_8abf5 1 .int rm_J0_length_8abf5 [.ref (Z.1 v0)] h Q := by
  refine met_ofs rfl rfl ?_
  intro p e s m args below meth c hMB H ls hH hl
  obtain ⟨⟨hx, hb, hml, hown, hKK, hr, hlk⟩, hSK⟩ := hMB
  replace hl : lv_has ls 1 [(0, .ref (Z.1 v0))] := hl
  unfold w_J0_length_8abf5 at hw
  show W p l e rm_J0_length_8abf5 s m args below meth c H [] 0 0 (QI G B S sz below args s Q) (F0 m 0 ls [])
  generalize ([] : List Loc) = locs at hH ⊢
  refine lv_aload_n hx hb dJ0_length_8abf5_0 rfl (lv_at hl 0 rfl) ?_
  obtain ⟨k1, hw⟩ := hw
  refine vk_getf hx hb (hSK.1.1 _ k1).2.2.1 hH.2 hown (hKK.use fl_J0_9 rfl _) (fun _ h => h) dJ0_length_8abf5_1 ?_
  refine hv_tlen hx hb (hSK.1.1 _ k1).2.2.2 hH.2 dJ0_length_8abf5_4 ?_
  refine lv_aload_n hx hb dJ0_length_8abf5_5 rfl (lv_at hl 0 rfl) ?_
  refine hz_cSI (rm := rm_J0_coder_7d493) (As := []) (rest := [.int (nI (sLen v0))]) (k := 0) hx hb hml hown hKK hSK hH k1 (m_J0_coder_7d493 v0 _ _ hw) cw_J0_335 ⟨Nat.le_of_ble_eq_true rfl, Nat.le_of_ble_eq_true rfl⟩ rfl hl.1 rfl (Nat.le_of_ble_eq_true rfl) ⟨Nat.le_of_ble_eq_true rfl, Nat.le_of_ble_eq_true rfl⟩ dJ0_length_8abf5_6 (fun r3 h2 H locs hH hw => ?_)
  refine lv_ishr hx hb dJ0_length_8abf5_9 ?_
  exact hv_iret hx hb hr hlk hH hw dJ0_length_8abf5_10
abbrev rm_J1_charAt_3b067 : Room := { frames := 2, cells := 0, slots := 0, locals := 43 }
set_option maxHeartbeats 4000000 in
set_option maxRecDepth 100000 in
theorem m_J1_charAt_3b067 {l : Launch} {Z : Zg} {G : Gl} {B sz : Nat} {S : St} (v0 : Nat) (v1 : Int32) (h : Hp) (Q : Int32 → Hp → Prop) (hw : w_J1_charAt_3b067 S v0 v1 h Q) : MIs Z l G B sz S yJ1_charAt_3b067 cJ1_charAt_3b067 2 .char rm_J1_charAt_3b067 [.ref (Z.2.1 v0), .int v1] h Q := by
  refine met_ofs rfl rfl ?_
  intro p e s m args below meth c hMB H ls hH hl
  obtain ⟨⟨hx, hb, hml, hown, hKK, hr, hlk⟩, hSK⟩ := hMB
  replace hl : lv_has ls 2 [(0, .ref (Z.2.1 v0)), (1, .int v1)] := hl
  unfold w_J1_charAt_3b067 at hw
  show W p l e rm_J1_charAt_3b067 s m args below meth c H [] 0 0 (QI G B S sz below args s Q) (F0 m 0 ls [])
  generalize ([] : List Loc) = locs at hH ⊢
  refine lv_iload_n hx hb dJ1_charAt_3b067_0 rfl (lv_at hl 1 rfl) ?_
  refine lv_aload_n hx hb dJ1_charAt_3b067_1 rfl (lv_at hl 0 rfl) ?_
  obtain ⟨k1, hw⟩ := hw
  refine hv_tlen hx hb (hSK.1.1 _ k1).2.2.2 hH.2 dJ1_charAt_3b067_2 ?_
  refine hz_cTV (rm := rm_J0_checkIndex_df160) (As := [.int v1, .int (nI (sLen v0))]) (rest := []) (k := 2) hx hb hml hown hKK hSK hH (m_J0_checkIndex_df160 v1 (nI (sLen v0)) _ _ hw) cw_J1_9 ⟨Nat.le_of_ble_eq_true rfl, Nat.le_of_ble_eq_true rfl⟩ rfl hl.1 rfl (Nat.le_of_ble_eq_true rfl) ⟨Nat.le_of_ble_eq_true rfl, Nat.le_of_ble_eq_true rfl⟩ dJ1_charAt_3b067_3 (fun h2 H locs hH hw => ?_)
  refine lv_aload_n hx hb dJ1_charAt_3b067_6 rfl (lv_at hl 0 rfl) ?_
  refine lv_iload_n hx hb dJ1_charAt_3b067_7 rfl (lv_at hl 1 rfl) ?_
  obtain ⟨k3, hw⟩ := hw
  refine va_tb (v := .int (sBy v0 (ix v1))) hx hb (hSK.1.1 _ k1).2.2.2 hH.2 k3 rfl dJ1_charAt_3b067_8 ?_
  refine lv_sipush (v := (nI 255)) hx hb dJ1_charAt_3b067_9 (by decide) ?_
  refine lv_iand hx hb dJ1_charAt_3b067_12 ?_
  refine lv_i2c (v := i2c ((sBy v0 (ix v1)) &&& (nI 255))) hx hb dJ1_charAt_3b067_13 rfl ?_
  obtain ⟨k4, hw⟩ := hw
  exact hz_cret hx hb hr hlk hH k4 hw dJ1_charAt_3b067_14
abbrev rm_J0_charAt_5068e : Room := { frames := 3, cells := 0, slots := 0, locals := 64 }
set_option maxHeartbeats 4000000 in
set_option maxRecDepth 100000 in
theorem m_J0_charAt_5068e {l : Launch} {Z : Zg} {G : Gl} {B sz : Nat} {S : St} (v0 : Nat) (v1 : Int32) (h : Hp) (Q : Int32 → Hp → Prop) (hw : w_J0_charAt_5068e S v0 v1 h Q) : MIs Z l G B sz S yJ0_charAt_5068e cJ0_charAt_5068e 2 .char rm_J0_charAt_5068e [.ref (Z.1 v0), .int v1] h Q := by
  refine met_ofs rfl rfl ?_
  intro p e s m args below meth c hMB H ls hH hl
  obtain ⟨⟨hx, hb, hml, hown, hKK, hr, hlk⟩, hSK⟩ := hMB
  replace hl : lv_has ls 2 [(0, .ref (Z.1 v0)), (1, .int v1)] := hl
  unfold w_J0_charAt_5068e at hw
  show W p l e rm_J0_charAt_5068e s m args below meth c H [] 0 0 (QI G B S sz below args s Q) (F0 m 0 ls [])
  generalize ([] : List Loc) = locs at hH ⊢
  refine lv_aload_n hx hb dJ0_charAt_5068e_0 rfl (lv_at hl 0 rfl) ?_
  obtain ⟨k1, hw⟩ := hw
  refine hz_cSI (rm := rm_J0_isLatin1_aae02) (As := []) (rest := []) (k := 0) hx hb hml hown hKK hSK hH k1 (m_J0_isLatin1_aae02 v0 _ _ hw) cw_J0_492 ⟨Nat.le_of_ble_eq_true rfl, Nat.le_of_ble_eq_true rfl⟩ rfl hl.1 rfl (Nat.le_of_ble_eq_true rfl) ⟨Nat.le_of_ble_eq_true rfl, Nat.le_of_ble_eq_true rfl⟩ dJ0_charAt_5068e_1 (fun r3 h2 H locs hH hw => ?_)
  refine lv_if_eq (tgt := 16) hx hb dJ0_charAt_5068e_4 (by decide) (fun c4 => ?_) (fun c4 => ?_)
  · have hw := ite_t hw c4
    exact hw.elim
  · have hw := ite_f hw c4
    refine lv_aload_n hx hb dJ0_charAt_5068e_7 rfl (lv_at hl 0 rfl) ?_
    refine vk_getf hx hb (hSK.1.1 _ k1).2.2.1 hH.2 hown (hKK.use fl_J0_9 rfl _) (fun _ h => h) dJ0_charAt_5068e_8 ?_
    refine lv_iload_n hx hb dJ0_charAt_5068e_11 rfl (lv_at hl 1 rfl) ?_
    refine hz_cTI (rm := rm_J1_charAt_3b067) (As := [.ref (Z.2.1 v0), .int v1]) (rest := []) (k := 2) hx hb hml hown hKK hSK hH (m_J1_charAt_3b067 v0 v1 _ _ hw) cw_J0_495 ⟨Nat.le_of_ble_eq_true rfl, Nat.le_of_ble_eq_true rfl⟩ rfl hl.1 rfl (Nat.le_of_ble_eq_true rfl) ⟨Nat.le_of_ble_eq_true rfl, Nat.le_of_ble_eq_true rfl⟩ dJ0_charAt_5068e_12 (fun r6 h5 H locs hH hw => ?_)
    obtain ⟨k7, hw⟩ := hw
    exact hz_cret hx hb hr hlk hH k7 hw dJ0_charAt_5068e_15
abbrev rm_X4_isAt : Room := { frames := 4, cells := 0, slots := 0, locals := 85 }
set_option maxHeartbeats 4000000 in
set_option maxRecDepth 100000 in
theorem m_X4_isAt {l : Launch} {Z : Zg} {G : Gl} {B sz : Nat} {S : St} (v0 : Nat) (v1 : Int32) (v2 : Nat) (v3 : Int32) (h : Hp) (Q : Int32 → Hp → Prop) (hw : w_X4_isAt S v0 v1 v2 v3 h Q) : MIs Z l G B sz S yX4_isAt cX4_isAt 5 .boolean rm_X4_isAt [.ref v0, .int v1, .ref (Z.1 v2), .int v3] h Q := by
  refine met_ofs rfl rfl ?_
  intro p e s m args below meth c hMB H ls hH hl
  obtain ⟨⟨hx, hb, hml, hown, hKK, hr, hlk⟩, hSK⟩ := hMB
  replace hl : lv_has ls 5 [(0, .ref v0), (1, .int v1), (2, .ref (Z.1 v2)), (3, .int v3)] := hl
  have c3 : ∀  (v0 : Nat) (v1 : Int32) (v2 : Nat) (v3 : Int32) (v4 : Int32) (h : Hp) (H : Heap) (locs : List Loc) (ls : Array Slot), HH G B S h sz s H locs → lv_has ls 5 [(0, .ref v0), (1, .int v1), (2, .ref (Z.1 v2)), (3, .int v3), (4, .int v4)] → w_X4_isAt_c3 S v0 v1 v2 v3 v4 h Q → W p l e rm_X4_isAt s m args below meth c H locs 0 0 (QI G B S sz below args s Q) (F0 m 3 ls []) := by
    intro  v0 v1 v2 v3 v4 h H locs ls hH hl hw
    unfold w_X4_isAt_c3 at hw
    obtain ⟨P3, hP3⟩ : ∃ P : Int32 → Hp → Prop, ∀ (v4 : Int32) (h : Hp), P v4 h ↔ (∀ (H : Heap) (locs : List Loc) (ls : Array Slot), HH G B S h sz s H locs → lv_has ls 5 [(0, .ref v0), (1, .int v1), (2, .ref (Z.1 v2)), (3, .int v3), (4, .int v4)] → W p l e rm_X4_isAt s m args below meth c H locs 0 0 (QI G B S sz below args s Q) (F0 m 3 ls [])) := ⟨_, fun v4 h => Iff.rfl⟩
    refine (hP3 v4 h).1 (hw P3 (fun v4 h hw => (hP3 v4 h).2 (fun H locs ls hH hl => ?_))) H locs ls hH hl
    have hK3 : ∀ (v4 : Int32) (h : Hp) (H : Heap) (locs : List Loc) (ls : Array Slot), HH G B S h sz s H locs → lv_has ls 5 [(0, .ref v0), (1, .int v1), (2, .ref (Z.1 v2)), (3, .int v3), (4, .int v4)] → P3 v4 h → W p l e rm_X4_isAt s m args below meth c H locs 0 0 (QI G B S sz below args s Q) (F0 m 3 ls []) := fun v4 h H locs ls hH hl hk => (hP3 v4 h).1 hk H locs ls hH hl
    refine lv_iload hx hb dX4_isAt_3 (lv_at hl 4 rfl) ?_
    refine lv_aload_n hx hb dX4_isAt_5 rfl (lv_at hl 0 rfl) ?_
    obtain ⟨k1, hw⟩ := hw
    refine hv_get (ci := 4) (k := 3) (v := .ref (S.2 v0 3)) hx hb hown hKK hH cf4 (by decide) fl_X4_18 rfl k1 rfl dX4_isAt_6 ?_
    refine lv_iload_n hx hb dX4_isAt_9 rfl (lv_at hl 1 rfl) ?_
    obtain ⟨k2, hw⟩ := hw
    refine hv_iald hx hb hKK hH k2 dX4_isAt_10 ?_
    refine lv_icmp_ge (tgt := 51) hx hb dX4_isAt_11 (by decide) (fun c3 => ?_) (fun c3 => ?_)
    · have hw := ite_t hw c3
      refine lv_iconst (v := (nI 1)) hx hb dX4_isAt_51 (by decide) ?_
      exact hv_zret hx hb hr hlk hH (Or.inr rfl) hw dX4_isAt_52
    · have hw := ite_f hw c3
      refine lv_iload_n hx hb dX4_isAt_14 rfl (lv_at hl 3 rfl) ?_
      refine lv_iload hx hb dX4_isAt_15 (lv_at hl 4 rfl) ?_
      refine lv_iadd hx hb dX4_isAt_17 ?_
      refine lv_aload_n hx hb dX4_isAt_18 rfl (lv_at hl 2 rfl) ?_
      obtain ⟨k4, hw⟩ := hw
      refine hz_cSI (rm := rm_J0_length_8abf5) (As := []) (rest := [.int (v3 + v4)]) (k := 0) hx hb hml hown hKK hSK hH k4 (m_J0_length_8abf5 v2 _ _ hw) cw_X4_131 ⟨Nat.le_of_ble_eq_true rfl, Nat.le_of_ble_eq_true rfl⟩ rfl hl.1 rfl (Nat.le_of_ble_eq_true rfl) ⟨Nat.le_of_ble_eq_true rfl, Nat.le_of_ble_eq_true rfl⟩ dX4_isAt_19 (fun r6 h5 H locs hH hw => ?_)
      refine lv_icmp_ge (tgt := 51) hx hb dX4_isAt_22 (by decide) (fun c7 => ?_) (fun c7 => ?_)
      · have hw := ite_t hw c7
        refine lv_iconst (v := (nI 1)) hx hb dX4_isAt_51 (by decide) ?_
        exact hv_zret hx hb hr hlk hH (Or.inr rfl) hw dX4_isAt_52
      · have hw := ite_f hw c7
        refine lv_aload_n hx hb dX4_isAt_25 rfl (lv_at hl 0 rfl) ?_
        refine lv_iload_n hx hb dX4_isAt_26 rfl (lv_at hl 1 rfl) ?_
        refine lv_iload hx hb dX4_isAt_27 (lv_at hl 4 rfl) ?_
        refine hv_cVI (rm := rm_X4_signAt) (As := [.int v1, .int v4]) (rest := []) (k := 2) (ci := 4) hx hb hml hown hKK hH cf4 k1 (m_X4_signAt v0 v1 v4 _ _ hw) cw_X4_128 ⟨Nat.le_of_ble_eq_true rfl, Nat.le_of_ble_eq_true rfl⟩ rfl hl.1 rfl (Nat.le_of_ble_eq_true rfl) ⟨Nat.le_of_ble_eq_true rfl, Nat.le_of_ble_eq_true rfl⟩ dX4_isAt_29 (fun r9 h8 H locs hH hw => ?_)
        refine lv_aload_n hx hb dX4_isAt_32 rfl (lv_at hl 2 rfl) ?_
        refine lv_iload_n hx hb dX4_isAt_33 rfl (lv_at hl 3 rfl) ?_
        refine lv_iload hx hb dX4_isAt_34 (lv_at hl 4 rfl) ?_
        refine lv_iadd hx hb dX4_isAt_36 ?_
        refine hz_cSI (rm := rm_J0_charAt_5068e) (As := [.int (v3 + v4)]) (rest := [.int r9]) (k := 1) hx hb hml hown hKK hSK hH k4 (m_J0_charAt_5068e v2 (v3 + v4) _ _ hw) cw_X4_136 ⟨Nat.le_of_ble_eq_true rfl, Nat.le_of_ble_eq_true rfl⟩ rfl hl.1 rfl (Nat.le_of_ble_eq_true rfl) ⟨Nat.le_of_ble_eq_true rfl, Nat.le_of_ble_eq_true rfl⟩ dX4_isAt_37 (fun r11 h10 H locs hH hw => ?_)
        refine lv_icmp_eq (tgt := 45) hx hb dX4_isAt_40 (by decide) (fun c12 => ?_) (fun c12 => ?_)
        · have hw := ite_t hw c12
          refine lv_iinc (v := v4 + (nI 1)) (lv' := [(4, .int (v4 + (nI 1))), (0, .ref v0), (1, .int v1), (2, .ref (Z.1 v2)), (3, .int v3)]) hx hb dX4_isAt_45 hl (k := 4) rfl rfl (by decide) rfl (fun ls hl => ?_)
          refine lv_goto (tgt := 3) hx hb dX4_isAt_48 (by decide) ?_
          exact hK3 _ _ H locs ls hH (lv_sub hl [1, 2, 3, 4, 0] rfl) hw
        · have hw := ite_f hw c12
          refine lv_iconst (v := (nI 0)) hx hb dX4_isAt_43 (by decide) ?_
          exact hv_zret hx hb hr hlk hH (Or.inl rfl) hw dX4_isAt_44
  unfold w_X4_isAt at hw
  show W p l e rm_X4_isAt s m args below meth c H [] 0 0 (QI G B S sz below args s Q) (F0 m 0 ls [])
  generalize ([] : List Loc) = locs at hH ⊢
  refine lv_iconst (v := (nI 0)) hx hb dX4_isAt_0 (by decide) ?_
  refine lv_istore (lv' := [(4, .int (nI 0)), (0, .ref v0), (1, .int v1), (2, .ref (Z.1 v2)), (3, .int v3)]) hx hb dX4_isAt_1 hl (by decide) rfl (fun ls hl => ?_)
  exact c3 _ _ _ _ _ _ H locs ls hH (lv_sub hl [1, 2, 3, 4, 0] rfl) hw
abbrev rm_X4_placeAmong : Room := { frames := 5, cells := 0, slots := 0, locals := 109 }
set_option maxHeartbeats 4000000 in
set_option maxRecDepth 100000 in
theorem m_X4_placeAmong {l : Launch} {Z : Zg} {G : Gl} {B sz : Nat} {S : St} (v0 : Nat) (v1 : Int32) (v2 : Nat) (h : Hp) (Q : Int32 → Hp → Prop) (hw : w_X4_placeAmong S v0 v1 v2 h Q) : MIs Z l G B sz S yX4_placeAmong cX4_placeAmong 6 .int rm_X4_placeAmong [.ref v0, .int v1, .ref (Z.1 v2)] h Q := by
  refine met_ofs rfl rfl ?_
  intro p e s m args below meth c hMB H ls hH hl
  obtain ⟨⟨hx, hb, hml, hown, hKK, hr, hlk⟩, hSK⟩ := hMB
  replace hl : lv_has ls 6 [(0, .ref v0), (1, .int v1), (2, .ref (Z.1 v2))] := hl
  have c37 : ∀ (v0 : Nat) (v1 : Int32) (v2 : Nat) (P8 : Int32 → Int32 → Int32 → Hp → Prop) (_ : ∀ (v3 : Int32) (v4 : Int32) (v5 : Int32) (h : Hp) (H : Heap) (locs : List Loc) (ls : Array Slot), HH G B S h sz s H locs → lv_has ls 6 [(0, .ref v0), (1, .int v1), (2, .ref (Z.1 v2)), (3, .int v3), (4, .int v4), (5, .int v5)] → P8 v3 v4 v5 h → W p l e rm_X4_placeAmong s m args below meth c H locs 0 0 (QI G B S sz below args s Q) (F0 m 8 ls [])) (v3 : Int32) (v4 : Int32) (v5 : Int32) (h : Hp) (H : Heap) (locs : List Loc) (ls : Array Slot), HH G B S h sz s H locs → lv_has ls 6 [(0, .ref v0), (1, .int v1), (2, .ref (Z.1 v2)), (3, .int v3), (4, .int v4), (5, .int v5)] → w_X4_placeAmong_c37 S v0 v1 v2 v3 v4 v5 h Q P8 → W p l e rm_X4_placeAmong s m args below meth c H locs 0 0 (QI G B S sz below args s Q) (F0 m 37 ls []) := by
    intro v0 v1 v2 P8 hK8 v3 v4 v5 h H locs ls hH hl hw
    unfold w_X4_placeAmong_c37 at hw
    refine lv_iload_n hx hb dX4_placeAmong_37 rfl (lv_at hl 1 rfl) ?_
    refine lv_aload_n hx hb dX4_placeAmong_38 rfl (lv_at hl 0 rfl) ?_
    obtain ⟨k1, hw⟩ := hw
    refine hv_get (ci := 4) (k := 4) (v := .int (h v0 4)) hx hb hown hKK hH cf4 (by decide) fl_X4_36 rfl k1 rfl dX4_placeAmong_39 ?_
    refine lv_icmp_gt (tgt := 72) hx hb dX4_placeAmong_42 (by decide) (fun c2 => ?_) (fun c2 => ?_)
    · have hw := ite_t hw c2
      refine lv_iinc (v := v3 + (nI 1)) (lv' := [(3, .int (v3 + (nI 1))), (0, .ref v0), (1, .int v1), (2, .ref (Z.1 v2)), (4, .int v4), (5, .int v5)]) hx hb dX4_placeAmong_72 hl (k := 3) rfl rfl (by decide) rfl (fun ls hl => ?_)
      refine lv_iload hx hb dX4_placeAmong_75 (lv_at hl 5 rfl) ?_
      refine lv_iconst (v := (nI 1)) hx hb dX4_placeAmong_77 (by decide) ?_
      refine lv_iadd hx hb dX4_placeAmong_78 ?_
      refine lv_istore (lv' := [(4, .int (v5 + (nI 1))), (3, .int (v3 + (nI 1))), (0, .ref v0), (1, .int v1), (2, .ref (Z.1 v2)), (5, .int v5)]) hx hb dX4_placeAmong_79 hl (by decide) rfl (fun ls hl => ?_)
      refine lv_iinc (v := v5 + (nI 1)) (lv' := [(5, .int (v5 + (nI 1))), (4, .int (v5 + (nI 1))), (3, .int (v3 + (nI 1))), (0, .ref v0), (1, .int v1), (2, .ref (Z.1 v2))]) hx hb dX4_placeAmong_81 hl (k := 5) rfl rfl (by decide) rfl (fun ls hl => ?_)
      refine lv_goto (tgt := 8) hx hb dX4_placeAmong_84 (by decide) ?_
      exact hK8 _ _ _ _ H locs ls hH (lv_sub hl [3, 4, 5, 2, 1, 0] rfl) hw
    · have hw := ite_f hw c2
      refine lv_aload_n hx hb dX4_placeAmong_45 rfl (lv_at hl 0 rfl) ?_
      refine hv_get (ci := 4) (k := 3) (v := .ref (S.2 v0 3)) hx hb hown hKK hH cf4 (by decide) fl_X4_18 rfl k1 rfl dX4_placeAmong_46 ?_
      refine lv_iload_n hx hb dX4_placeAmong_49 rfl (lv_at hl 1 rfl) ?_
      obtain ⟨k3, hw⟩ := hw
      refine hv_iald hx hb hKK hH k3 dX4_placeAmong_50 ?_
      refine lv_iload hx hb dX4_placeAmong_51 (lv_at hl 5 rfl) ?_
      refine lv_iload hx hb dX4_placeAmong_53 (lv_at hl 4 rfl) ?_
      refine lv_isub hx hb dX4_placeAmong_55 ?_
      refine lv_icmp_ne (tgt := 72) hx hb dX4_placeAmong_56 (by decide) (fun c4 => ?_) (fun c4 => ?_)
      · have hw := ite_f hw c4
        refine lv_iinc (v := v3 + (nI 1)) (lv' := [(3, .int (v3 + (nI 1))), (0, .ref v0), (1, .int v1), (2, .ref (Z.1 v2)), (4, .int v4), (5, .int v5)]) hx hb dX4_placeAmong_72 hl (k := 3) rfl rfl (by decide) rfl (fun ls hl => ?_)
        refine lv_iload hx hb dX4_placeAmong_75 (lv_at hl 5 rfl) ?_
        refine lv_iconst (v := (nI 1)) hx hb dX4_placeAmong_77 (by decide) ?_
        refine lv_iadd hx hb dX4_placeAmong_78 ?_
        refine lv_istore (lv' := [(4, .int (v5 + (nI 1))), (3, .int (v3 + (nI 1))), (0, .ref v0), (1, .int v1), (2, .ref (Z.1 v2)), (5, .int v5)]) hx hb dX4_placeAmong_79 hl (by decide) rfl (fun ls hl => ?_)
        refine lv_iinc (v := v5 + (nI 1)) (lv' := [(5, .int (v5 + (nI 1))), (4, .int (v5 + (nI 1))), (3, .int (v3 + (nI 1))), (0, .ref v0), (1, .int v1), (2, .ref (Z.1 v2))]) hx hb dX4_placeAmong_81 hl (k := 5) rfl rfl (by decide) rfl (fun ls hl => ?_)
        refine lv_goto (tgt := 8) hx hb dX4_placeAmong_84 (by decide) ?_
        exact hK8 _ _ _ _ H locs ls hH (lv_sub hl [3, 4, 5, 2, 1, 0] rfl) hw
      · have hw := ite_t hw c4
        refine lv_aload_n hx hb dX4_placeAmong_59 rfl (lv_at hl 0 rfl) ?_
        refine lv_iload_n hx hb dX4_placeAmong_60 rfl (lv_at hl 1 rfl) ?_
        refine lv_aload_n hx hb dX4_placeAmong_61 rfl (lv_at hl 2 rfl) ?_
        refine lv_iload hx hb dX4_placeAmong_62 (lv_at hl 4 rfl) ?_
        refine hz_cVI (rm := rm_X4_isAt) (As := [.int v1, .ref (Z.1 v2), .int v4]) (rest := []) (k := 3) (ci := 4) hx hb hml hown hKK hSK hH cf4 k1 (m_X4_isAt v0 v1 v2 v4 _ _ hw) cw_X4_140 ⟨Nat.le_of_ble_eq_true rfl, Nat.le_of_ble_eq_true rfl⟩ rfl hl.1 rfl (Nat.le_of_ble_eq_true rfl) ⟨Nat.le_of_ble_eq_true rfl, Nat.le_of_ble_eq_true rfl⟩ dX4_placeAmong_64 (fun r6 h5 H locs hH hw => ?_)
        refine lv_if_eq (tgt := 72) hx hb dX4_placeAmong_67 (by decide) (fun c7 => ?_) (fun c7 => ?_)
        · have hw := ite_t hw c7
          refine lv_iinc (v := v3 + (nI 1)) (lv' := [(3, .int (v3 + (nI 1))), (0, .ref v0), (1, .int v1), (2, .ref (Z.1 v2)), (4, .int v4), (5, .int v5)]) hx hb dX4_placeAmong_72 hl (k := 3) rfl rfl (by decide) rfl (fun ls hl => ?_)
          refine lv_iload hx hb dX4_placeAmong_75 (lv_at hl 5 rfl) ?_
          refine lv_iconst (v := (nI 1)) hx hb dX4_placeAmong_77 (by decide) ?_
          refine lv_iadd hx hb dX4_placeAmong_78 ?_
          refine lv_istore (lv' := [(4, .int (v5 + (nI 1))), (3, .int (v3 + (nI 1))), (0, .ref v0), (1, .int v1), (2, .ref (Z.1 v2)), (5, .int v5)]) hx hb dX4_placeAmong_79 hl (by decide) rfl (fun ls hl => ?_)
          refine lv_iinc (v := v5 + (nI 1)) (lv' := [(5, .int (v5 + (nI 1))), (4, .int (v5 + (nI 1))), (3, .int (v3 + (nI 1))), (0, .ref v0), (1, .int v1), (2, .ref (Z.1 v2))]) hx hb dX4_placeAmong_81 hl (k := 5) rfl rfl (by decide) rfl (fun ls hl => ?_)
          refine lv_goto (tgt := 8) hx hb dX4_placeAmong_84 (by decide) ?_
          exact hK8 _ _ _ _ H locs ls hH (lv_sub hl [3, 4, 5, 2, 1, 0] rfl) hw
        · have hw := ite_f hw c7
          refine lv_iload_n hx hb dX4_placeAmong_70 rfl (lv_at hl 3 rfl) ?_
          exact hv_iret hx hb hr hlk hH hw dX4_placeAmong_71
  have c8 : ∀  (v0 : Nat) (v1 : Int32) (v2 : Nat) (v3 : Int32) (v4 : Int32) (v5 : Int32) (h : Hp) (H : Heap) (locs : List Loc) (ls : Array Slot), HH G B S h sz s H locs → lv_has ls 6 [(0, .ref v0), (1, .int v1), (2, .ref (Z.1 v2)), (3, .int v3), (4, .int v4), (5, .int v5)] → w_X4_placeAmong_c8 S v0 v1 v2 v3 v4 v5 h Q → W p l e rm_X4_placeAmong s m args below meth c H locs 0 0 (QI G B S sz below args s Q) (F0 m 8 ls []) := by
    intro  v0 v1 v2 v3 v4 v5 h H locs ls hH hl hw
    unfold w_X4_placeAmong_c8 at hw
    obtain ⟨P8, hP8⟩ : ∃ P : Int32 → Int32 → Int32 → Hp → Prop, ∀ (v3 : Int32) (v4 : Int32) (v5 : Int32) (h : Hp), P v3 v4 v5 h ↔ (∀ (H : Heap) (locs : List Loc) (ls : Array Slot), HH G B S h sz s H locs → lv_has ls 6 [(0, .ref v0), (1, .int v1), (2, .ref (Z.1 v2)), (3, .int v3), (4, .int v4), (5, .int v5)] → W p l e rm_X4_placeAmong s m args below meth c H locs 0 0 (QI G B S sz below args s Q) (F0 m 8 ls [])) := ⟨_, fun v3 v4 v5 h => Iff.rfl⟩
    refine (hP8 v3 v4 v5 h).1 (hw P8 (fun v3 v4 v5 h hw => (hP8 v3 v4 v5 h).2 (fun H locs ls hH hl => ?_))) H locs ls hH hl
    have hK8 : ∀ (v3 : Int32) (v4 : Int32) (v5 : Int32) (h : Hp) (H : Heap) (locs : List Loc) (ls : Array Slot), HH G B S h sz s H locs → lv_has ls 6 [(0, .ref v0), (1, .int v1), (2, .ref (Z.1 v2)), (3, .int v3), (4, .int v4), (5, .int v5)] → P8 v3 v4 v5 h → W p l e rm_X4_placeAmong s m args below meth c H locs 0 0 (QI G B S sz below args s Q) (F0 m 8 ls []) := fun v3 v4 v5 h H locs ls hH hl hk => (hP8 v3 v4 v5 h).1 hk H locs ls hH hl
    refine lv_iload hx hb dX4_placeAmong_8 (lv_at hl 5 rfl) ?_
    refine lv_aload_n hx hb dX4_placeAmong_10 rfl (lv_at hl 2 rfl) ?_
    obtain ⟨k1, hw⟩ := hw
    refine hz_cSI (rm := rm_J0_length_8abf5) (As := []) (rest := [.int v5]) (k := 0) hx hb hml hown hKK hSK hH k1 (m_J0_length_8abf5 v2 _ _ hw) cw_X4_131 ⟨Nat.le_of_ble_eq_true rfl, Nat.le_of_ble_eq_true rfl⟩ rfl hl.1 rfl (Nat.le_of_ble_eq_true rfl) ⟨Nat.le_of_ble_eq_true rfl, Nat.le_of_ble_eq_true rfl⟩ dX4_placeAmong_11 (fun r3 h2 H locs hH hw => ?_)
    refine lv_icmp_gt (tgt := 87) hx hb dX4_placeAmong_14 (by decide) (fun c4 => ?_) (fun c4 => ?_)
    · have hw := ite_t hw c4
      refine lv_iconst (v := (-1)) hx hb dX4_placeAmong_87 (by decide) ?_
      exact hv_iret hx hb hr hlk hH hw dX4_placeAmong_88
    · have hw := ite_f hw c4
      refine lv_iload hx hb dX4_placeAmong_17 (lv_at hl 5 rfl) ?_
      refine lv_aload_n hx hb dX4_placeAmong_19 rfl (lv_at hl 2 rfl) ?_
      refine hz_cSI (rm := rm_J0_length_8abf5) (As := []) (rest := [.int v5]) (k := 0) hx hb hml hown hKK hSK hH k1 (m_J0_length_8abf5 v2 _ _ hw) cw_X4_131 ⟨Nat.le_of_ble_eq_true rfl, Nat.le_of_ble_eq_true rfl⟩ rfl hl.1 rfl (Nat.le_of_ble_eq_true rfl) ⟨Nat.le_of_ble_eq_true rfl, Nat.le_of_ble_eq_true rfl⟩ dX4_placeAmong_20 (fun r6 h5 H locs hH hw => ?_)
      refine lv_icmp_eq (tgt := 37) hx hb dX4_placeAmong_23 (by decide) (fun c7 => ?_) (fun c7 => ?_)
      · have hw := ite_t hw c7
        exact c37 _ _ _ _ hK8 _ _ _ _ H locs ls hH (lv_sub hl [0, 1, 2, 3, 4, 5] rfl) hw
      · have hw := ite_f hw c7
        refine lv_aload_n hx hb dX4_placeAmong_26 rfl (lv_at hl 2 rfl) ?_
        refine lv_iload hx hb dX4_placeAmong_27 (lv_at hl 5 rfl) ?_
        refine hz_cSI (rm := rm_J0_charAt_5068e) (As := [.int v5]) (rest := []) (k := 1) hx hb hml hown hKK hSK hH k1 (m_J0_charAt_5068e v2 v5 _ _ hw) cw_X4_136 ⟨Nat.le_of_ble_eq_true rfl, Nat.le_of_ble_eq_true rfl⟩ rfl hl.1 rfl (Nat.le_of_ble_eq_true rfl) ⟨Nat.le_of_ble_eq_true rfl, Nat.le_of_ble_eq_true rfl⟩ dX4_placeAmong_29 (fun r9 h8 H locs hH hw => ?_)
        refine lv_bipush (v := (nI 32)) hx hb dX4_placeAmong_32 (by decide) ?_
        refine lv_icmp_ne (tgt := 81) hx hb dX4_placeAmong_34 (by decide) (fun c10 => ?_) (fun c10 => ?_)
        · have hw := ite_f hw c10
          refine lv_iinc (v := v5 + (nI 1)) (lv' := [(5, .int (v5 + (nI 1))), (0, .ref v0), (1, .int v1), (2, .ref (Z.1 v2)), (3, .int v3), (4, .int v4)]) hx hb dX4_placeAmong_81 hl (k := 5) rfl rfl (by decide) rfl (fun ls hl => ?_)
          refine lv_goto (tgt := 8) hx hb dX4_placeAmong_84 (by decide) ?_
          exact hK8 _ _ _ _ H locs ls hH (lv_sub hl [1, 2, 3, 4, 5, 0] rfl) hw
        · have hw := ite_t hw c10
          exact c37 _ _ _ _ hK8 _ _ _ _ H locs ls hH (lv_sub hl [0, 1, 2, 3, 4, 5] rfl) hw
  unfold w_X4_placeAmong at hw
  show W p l e rm_X4_placeAmong s m args below meth c H [] 0 0 (QI G B S sz below args s Q) (F0 m 0 ls [])
  generalize ([] : List Loc) = locs at hH ⊢
  refine lv_iconst (v := (nI 0)) hx hb dX4_placeAmong_0 (by decide) ?_
  refine lv_istore_n (lv' := [(3, .int (nI 0)), (0, .ref v0), (1, .int v1), (2, .ref (Z.1 v2))]) hx hb dX4_placeAmong_1 rfl hl (by decide) rfl (fun ls hl => ?_)
  refine lv_iconst (v := (nI 0)) hx hb dX4_placeAmong_2 (by decide) ?_
  refine lv_istore (lv' := [(4, .int (nI 0)), (3, .int (nI 0)), (0, .ref v0), (1, .int v1), (2, .ref (Z.1 v2))]) hx hb dX4_placeAmong_3 hl (by decide) rfl (fun ls hl => ?_)
  refine lv_iconst (v := (nI 0)) hx hb dX4_placeAmong_5 (by decide) ?_
  refine lv_istore (lv' := [(5, .int (nI 0)), (4, .int (nI 0)), (3, .int (nI 0)), (0, .ref v0), (1, .int v1), (2, .ref (Z.1 v2))]) hx hb dX4_placeAmong_6 hl (by decide) rfl (fun ls hl => ?_)
  exact c8 _ _ _ _ _ _ _ H locs ls hH (lv_sub hl [3, 4, 5, 2, 1, 0] rfl) hw
abbrev rm_X4_headTurns : Room := { frames := 6, cells := 0, slots := 0, locals := 134 }
set_option maxHeartbeats 4000000 in
set_option maxRecDepth 100000 in
theorem m_X4_headTurns {l : Launch} {Z : Zg} {G : Gl} {B sz : Nat} {S : St} (v0 : Nat) (v1 : Nat) (h : Hp) (Q : Int32 → Hp → Prop) (hw : w_X4_headTurns S v0 v1 h Q) : MIs Z l G B sz S yX4_headTurns cX4_headTurns 4 .boolean rm_X4_headTurns [.ref v0, .ref v1] h Q := by
  refine met_ofs rfl rfl ?_
  intro p e s m args below meth c hMB H ls hH hl
  obtain ⟨⟨hx, hb, hml, hown, hKK, hr, hlk⟩, hSK⟩ := hMB
  replace hl : lv_has ls 4 [(0, .ref v0), (1, .ref v1)] := hl
  unfold w_X4_headTurns at hw
  show W p l e rm_X4_headTurns s m args below meth c H [] 0 0 (QI G B S sz below args s Q) (F0 m 0 ls [])
  generalize ([] : List Loc) = locs at hH ⊢
  refine lv_aload_n hx hb dX4_headTurns_0 rfl (lv_at hl 0 rfl) ?_
  refine lv_iconst (v := (nI 1)) hx hb dX4_headTurns_1 (by decide) ?_
  refine lv_aload_n hx hb dX4_headTurns_2 rfl (lv_at hl 1 rfl) ?_
  obtain ⟨k1, hw⟩ := hw
  refine hv_getN (ci := 1) (k := 4) (v := .int (h v1 4)) hx hb hown hKK hH cf1 (by decide) fl_X4_100 rfl k1 rfl dX4_headTurns_3 ?_
  refine lv_iconst (v := (nI 1)) hx hb dX4_headTurns_6 (by decide) ?_
  refine lv_isub hx hb dX4_headTurns_7 ?_
  obtain ⟨k2, hw⟩ := hw
  refine hv_cVI (rm := rm_X4_number) (As := [.int (nI 1), .int ((h v1 4) - (nI 1))]) (rest := []) (k := 2) (ci := 4) hx hb hml hown hKK hH cf4 k2 (m_X4_number v0 (nI 1) ((h v1 4) - (nI 1)) _ _ hw) cw_X4_70 ⟨Nat.le_of_ble_eq_true rfl, Nat.le_of_ble_eq_true rfl⟩ rfl hl.1 rfl (Nat.le_of_ble_eq_true rfl) ⟨Nat.le_of_ble_eq_true rfl, Nat.le_of_ble_eq_true rfl⟩ dX4_headTurns_8 (fun r4 h3 H locs hH hw => ?_)
  refine lv_istore_n (lv' := [(2, .int r4), (0, .ref v0), (1, .ref v1)]) hx hb dX4_headTurns_11 rfl hl (by decide) rfl (fun ls hl => ?_)
  refine lv_aload_n hx hb dX4_headTurns_12 rfl (lv_at hl 1 rfl) ?_
  refine lv_iconst (v := (nI 2)) hx hb dX4_headTurns_13 (by decide) ?_
  refine va_ldcS hx hb hown hSK.2.1.2.2.1 dX4_headTurns_14 ?_
  refine hz_cVI (rm := rm_X4_placeAmong) (As := [.int (nI 2), .ref (Z.1 2)]) (rest := []) (k := 2) (ci := 4) hx hb hml hown hKK hSK hH cf4 k2 (m_X4_placeAmong v0 (nI 2) 2 _ _ hw) cw_X4_41 ⟨Nat.le_of_ble_eq_true rfl, Nat.le_of_ble_eq_true rfl⟩ rfl hl.1 rfl (Nat.le_of_ble_eq_true rfl) ⟨Nat.le_of_ble_eq_true rfl, Nat.le_of_ble_eq_true rfl⟩ dX4_headTurns_16 (fun r6 h5 H locs hH hw => ?_)
  refine lv_istore_n (lv' := [(3, .int r6), (2, .int r4), (0, .ref v0), (1, .ref v1)]) hx hb dX4_headTurns_19 rfl hl (by decide) rfl (fun ls hl => ?_)
  refine lv_aload_n hx hb dX4_headTurns_20 rfl (lv_at hl 2 rfl) ?_
  refine hv_get (ci := 4) (k := 4) (v := .int (h5 v0 4)) hx hb hown hKK hH cf4 (by decide) fl_X4_36 rfl k2 rfl dX4_headTurns_21 ?_
  refine lv_iconst (v := (nI 2)) hx hb dX4_headTurns_24 (by decide) ?_
  refine lv_icmp_ne (tgt := 36) hx hb dX4_headTurns_25 (by decide) (fun c7 => ?_) (fun c7 => ?_)
  · have hw := ite_f hw c7
    refine lv_iconst (v := (nI 0)) hx hb dX4_headTurns_36 (by decide) ?_
    exact hv_zret hx hb hr hlk hH (Or.inl rfl) hw dX4_headTurns_37
  · have hw := ite_t hw c7
    refine lv_iload_n hx hb dX4_headTurns_28 rfl (lv_at hl 1 rfl) ?_
    refine lv_if_lt (tgt := 36) hx hb dX4_headTurns_29 (by decide) (fun c8 => ?_) (fun c8 => ?_)
    · have hw := ite_t hw c8
      refine lv_iconst (v := (nI 0)) hx hb dX4_headTurns_36 (by decide) ?_
      exact hv_zret hx hb hr hlk hH (Or.inl rfl) hw dX4_headTurns_37
    · have hw := ite_f hw c8
      refine lv_iload_n hx hb dX4_headTurns_32 rfl (lv_at hl 0 rfl) ?_
      refine lv_if_ge (tgt := 38) hx hb dX4_headTurns_33 (by decide) (fun c9 => ?_) (fun c9 => ?_)
      · have hw := ite_t hw c9
        refine lv_aload_n hx hb dX4_headTurns_38 rfl (lv_at hl 3 rfl) ?_
        refine hv_getN (ci := 1) (k := 3) (v := .ref (S.2 v1 3)) hx hb hown hKK hH cf1 (by decide) fl_X4_105 rfl k1 rfl dX4_headTurns_39 ?_
        refine lv_iload_n hx hb dX4_headTurns_42 rfl (lv_at hl 1 rfl) ?_
        obtain ⟨k10, hw⟩ := hw
        refine hv_aald (t := 1) hx hb (by decide) hKK hH k10 dX4_headTurns_43 ?_
        refine lv_iload_n hx hb dX4_headTurns_44 rfl (lv_at hl 0 rfl) ?_
        obtain ⟨k11, hw⟩ := hw
        refine hv_putN (ci := 0) (k := 5) hx hb hown hKK hH cf0 (by decide) fl_X4_109 rfl rfl rfl k11 rfl rfl dX4_headTurns_45 (fun H locs hH => ?_)
        refine lv_iconst (v := (nI 1)) hx hb dX4_headTurns_48 (by decide) ?_
        exact hv_zret hx hb hr hlk hH (Or.inr rfl) hw dX4_headTurns_49
      · have hw := ite_f hw c9
        refine lv_iconst (v := (nI 0)) hx hb dX4_headTurns_36 (by decide) ?_
        exact hv_zret hx hb hr hlk hH (Or.inl rfl) hw dX4_headTurns_37
abbrev rm_X4_wordComes : Room := { frames := 6, cells := 0, slots := 0, locals := 134 }
set_option maxHeartbeats 4000000 in
set_option maxRecDepth 100000 in
theorem m_X4_wordComes {l : Launch} {Z : Zg} {G : Gl} {B sz : Nat} {S : St} (v0 : Nat) (v1 : Nat) (h : Hp) (Q : Int32 → Hp → Prop) (hw : w_X4_wordComes S v0 v1 h Q) : MIs Z l G B sz S yX4_wordComes cX4_wordComes 4 .boolean rm_X4_wordComes [.ref v0, .ref v1] h Q := by
  refine met_ofs rfl rfl ?_
  intro p e s m args below meth c hMB H ls hH hl
  obtain ⟨⟨hx, hb, hml, hown, hKK, hr, hlk⟩, hSK⟩ := hMB
  replace hl : lv_has ls 4 [(0, .ref v0), (1, .ref v1)] := hl
  unfold w_X4_wordComes at hw
  show W p l e rm_X4_wordComes s m args below meth c H [] 0 0 (QI G B S sz below args s Q) (F0 m 0 ls [])
  generalize ([] : List Loc) = locs at hH ⊢
  refine lv_aload_n hx hb dX4_wordComes_0 rfl (lv_at hl 0 rfl) ?_
  refine lv_iconst (v := (nI 1)) hx hb dX4_wordComes_1 (by decide) ?_
  refine lv_aload_n hx hb dX4_wordComes_2 rfl (lv_at hl 1 rfl) ?_
  obtain ⟨k1, hw⟩ := hw
  refine hv_getN (ci := 1) (k := 4) (v := .int (h v1 4)) hx hb hown hKK hH cf1 (by decide) fl_X4_100 rfl k1 rfl dX4_wordComes_3 ?_
  refine lv_iconst (v := (nI 1)) hx hb dX4_wordComes_6 (by decide) ?_
  refine lv_isub hx hb dX4_wordComes_7 ?_
  obtain ⟨k2, hw⟩ := hw
  refine hv_cVI (rm := rm_X4_number) (As := [.int (nI 1), .int ((h v1 4) - (nI 1))]) (rest := []) (k := 2) (ci := 4) hx hb hml hown hKK hH cf4 k2 (m_X4_number v0 (nI 1) ((h v1 4) - (nI 1)) _ _ hw) cw_X4_70 ⟨Nat.le_of_ble_eq_true rfl, Nat.le_of_ble_eq_true rfl⟩ rfl hl.1 rfl (Nat.le_of_ble_eq_true rfl) ⟨Nat.le_of_ble_eq_true rfl, Nat.le_of_ble_eq_true rfl⟩ dX4_wordComes_8 (fun r4 h3 H locs hH hw => ?_)
  refine lv_istore_n (lv' := [(2, .int r4), (0, .ref v0), (1, .ref v1)]) hx hb dX4_wordComes_11 rfl hl (by decide) rfl (fun ls hl => ?_)
  refine lv_aload_n hx hb dX4_wordComes_12 rfl (lv_at hl 1 rfl) ?_
  refine lv_iconst (v := (nI 2)) hx hb dX4_wordComes_13 (by decide) ?_
  refine va_ldcS hx hb hown hSK.2.1.2.2.2.1 dX4_wordComes_14 ?_
  refine hz_cVI (rm := rm_X4_placeAmong) (As := [.int (nI 2), .ref (Z.1 3)]) (rest := []) (k := 2) (ci := 4) hx hb hml hown hKK hSK hH cf4 k2 (m_X4_placeAmong v0 (nI 2) 3 _ _ hw) cw_X4_41 ⟨Nat.le_of_ble_eq_true rfl, Nat.le_of_ble_eq_true rfl⟩ rfl hl.1 rfl (Nat.le_of_ble_eq_true rfl) ⟨Nat.le_of_ble_eq_true rfl, Nat.le_of_ble_eq_true rfl⟩ dX4_wordComes_16 (fun r6 h5 H locs hH hw => ?_)
  refine lv_istore_n (lv' := [(3, .int r6), (2, .int r4), (0, .ref v0), (1, .ref v1)]) hx hb dX4_wordComes_19 rfl hl (by decide) rfl (fun ls hl => ?_)
  refine lv_aload_n hx hb dX4_wordComes_20 rfl (lv_at hl 2 rfl) ?_
  refine hv_get (ci := 4) (k := 4) (v := .int (h5 v0 4)) hx hb hown hKK hH cf4 (by decide) fl_X4_36 rfl k2 rfl dX4_wordComes_21 ?_
  refine lv_iconst (v := (nI 2)) hx hb dX4_wordComes_24 (by decide) ?_
  refine lv_icmp_ne (tgt := 36) hx hb dX4_wordComes_25 (by decide) (fun c7 => ?_) (fun c7 => ?_)
  · have hw := ite_f hw c7
    refine lv_iconst (v := (nI 0)) hx hb dX4_wordComes_36 (by decide) ?_
    exact hv_zret hx hb hr hlk hH (Or.inl rfl) hw dX4_wordComes_37
  · have hw := ite_t hw c7
    refine lv_iload_n hx hb dX4_wordComes_28 rfl (lv_at hl 1 rfl) ?_
    refine lv_if_lt (tgt := 36) hx hb dX4_wordComes_29 (by decide) (fun c8 => ?_) (fun c8 => ?_)
    · have hw := ite_t hw c8
      refine lv_iconst (v := (nI 0)) hx hb dX4_wordComes_36 (by decide) ?_
      exact hv_zret hx hb hr hlk hH (Or.inl rfl) hw dX4_wordComes_37
    · have hw := ite_f hw c8
      refine lv_iload_n hx hb dX4_wordComes_32 rfl (lv_at hl 0 rfl) ?_
      refine lv_if_ge (tgt := 38) hx hb dX4_wordComes_33 (by decide) (fun c9 => ?_) (fun c9 => ?_)
      · have hw := ite_t hw c9
        refine lv_aload_n hx hb dX4_wordComes_38 rfl (lv_at hl 3 rfl) ?_
        refine hv_getN (ci := 1) (k := 3) (v := .ref (S.2 v1 3)) hx hb hown hKK hH cf1 (by decide) fl_X4_105 rfl k1 rfl dX4_wordComes_39 ?_
        refine lv_iload_n hx hb dX4_wordComes_42 rfl (lv_at hl 1 rfl) ?_
        obtain ⟨k10, hw⟩ := hw
        refine hv_aald (t := 1) hx hb (by decide) hKK hH k10 dX4_wordComes_43 ?_
        refine lv_iload_n hx hb dX4_wordComes_44 rfl (lv_at hl 0 rfl) ?_
        obtain ⟨k11, hw⟩ := hw
        refine hv_putN (ci := 0) (k := 6) hx hb hown hKK hH cf0 (by decide) fl_X4_116 rfl rfl rfl k11 rfl rfl dX4_wordComes_45 (fun H locs hH => ?_)
        refine lv_iconst (v := (nI 1)) hx hb dX4_wordComes_48 (by decide) ?_
        exact hv_zret hx hb hr hlk hH (Or.inr rfl) hw dX4_wordComes_49
      · have hw := ite_f hw c9
        refine lv_iconst (v := (nI 0)) hx hb dX4_wordComes_36 (by decide) ?_
        exact hv_zret hx hb hr hlk hH (Or.inl rfl) hw dX4_wordComes_37
abbrev rm_X4_comesTo : Room := { frames := 7, cells := 0, slots := 0, locals := 157 }
set_option maxHeartbeats 4000000 in
set_option maxRecDepth 100000 in
theorem m_X4_comesTo {l : Launch} {Z : Zg} {G : Gl} {B sz : Nat} {S : St} (v0 : Nat) (v1 : Nat) (h : Hp) (Q : Int32 → Hp → Prop) (hw : w_X4_comesTo S v0 v1 h Q) : MIs Z l G B sz S yX4_comesTo cX4_comesTo 3 .boolean rm_X4_comesTo [.ref v0, .ref v1] h Q := by
  refine met_ofs rfl rfl ?_
  intro p e s m args below meth c hMB H ls hH hl
  obtain ⟨⟨hx, hb, hml, hown, hKK, hr, hlk⟩, hSK⟩ := hMB
  replace hl : lv_has ls 3 [(0, .ref v0), (1, .ref v1)] := hl
  unfold w_X4_comesTo at hw
  show W p l e rm_X4_comesTo s m args below meth c H [] 0 0 (QI G B S sz below args s Q) (F0 m 0 ls [])
  generalize ([] : List Loc) = locs at hH ⊢
  refine lv_aload_n hx hb dX4_comesTo_0 rfl (lv_at hl 0 rfl) ?_
  refine lv_iconst (v := (nI 0)) hx hb dX4_comesTo_1 (by decide) ?_
  refine va_ldcS hx hb hown hSK.2.1.1 dX4_comesTo_2 ?_
  obtain ⟨k1, hw⟩ := hw
  refine hz_cVI (rm := rm_X4_placeAmong) (As := [.int (nI 0), .ref (Z.1 0)]) (rest := []) (k := 2) (ci := 4) hx hb hml hown hKK hSK hH cf4 k1 (m_X4_placeAmong v0 (nI 0) 0 _ _ hw) cw_X4_41 ⟨Nat.le_of_ble_eq_true rfl, Nat.le_of_ble_eq_true rfl⟩ rfl hl.1 rfl (Nat.le_of_ble_eq_true rfl) ⟨Nat.le_of_ble_eq_true rfl, Nat.le_of_ble_eq_true rfl⟩ dX4_comesTo_4 (fun r3 h2 H locs hH hw => ?_)
  refine lv_istore_n (lv' := [(2, .int r3), (0, .ref v0), (1, .ref v1)]) hx hb dX4_comesTo_7 rfl hl (by decide) rfl (fun ls hl => ?_)
  refine lv_iload_n hx hb dX4_comesTo_8 rfl (lv_at hl 0 rfl) ?_
  refine lv_if_lt (tgt := 19) hx hb dX4_comesTo_9 (by decide) (fun c4 => ?_) (fun c4 => ?_)
  · have hw := ite_t hw c4
    refine lv_aload_n hx hb dX4_comesTo_19 rfl (lv_at hl 1 rfl) ?_
    refine lv_iconst (v := (nI 0)) hx hb dX4_comesTo_20 (by decide) ?_
    refine va_ldcS hx hb hown hSK.2.1.2.1 dX4_comesTo_21 ?_
    refine hz_cVI (rm := rm_X4_placeAmong) (As := [.int (nI 0), .ref (Z.1 1)]) (rest := []) (k := 2) (ci := 4) hx hb hml hown hKK hSK hH cf4 k1 (m_X4_placeAmong v0 (nI 0) 1 _ _ hw) cw_X4_41 ⟨Nat.le_of_ble_eq_true rfl, Nat.le_of_ble_eq_true rfl⟩ rfl hl.1 rfl (Nat.le_of_ble_eq_true rfl) ⟨Nat.le_of_ble_eq_true rfl, Nat.le_of_ble_eq_true rfl⟩ dX4_comesTo_23 (fun r6 h5 H locs hH hw => ?_)
    by_cases c7 : r6 = (nI 0)
    · have hw := ite_t hw c7
      refine lv_tableIn (tgt := 64) hx hb dX4_comesTo_26 (by rw [c7]; decide) (by rw [c7]; decide) (by rw [c7]; rfl) (by decide) ?_
      refine lv_aload_n hx hb dX4_comesTo_64 rfl (lv_at hl 1 rfl) ?_
      refine lv_aload_n hx hb dX4_comesTo_65 rfl (lv_at hl 2 rfl) ?_
      refine hv_cVI (rm := rm_X4_wallComes) (As := [.ref v1]) (rest := []) (k := 1) (ci := 4) hx hb hml hown hKK hH cf4 k1 (m_X4_wallComes v0 v1 _ _ hw) cw_X4_51 ⟨Nat.le_of_ble_eq_true rfl, Nat.le_of_ble_eq_true rfl⟩ rfl hl.1 rfl (Nat.le_of_ble_eq_true rfl) ⟨Nat.le_of_ble_eq_true rfl, Nat.le_of_ble_eq_true rfl⟩ dX4_comesTo_66 (fun r9 h8 H locs hH hw => ?_)
      obtain ⟨k10, hw⟩ := hw
      exact hv_zret hx hb hr hlk hH k10 hw dX4_comesTo_69
    have hw := ite_f hw c7
    by_cases c11 : r6 = (nI 1)
    · have hw := ite_t hw c11
      refine lv_tableIn (tgt := 70) hx hb dX4_comesTo_26 (by rw [c11]; decide) (by rw [c11]; decide) (by rw [c11]; rfl) (by decide) ?_
      refine lv_aload_n hx hb dX4_comesTo_70 rfl (lv_at hl 1 rfl) ?_
      refine lv_aload_n hx hb dX4_comesTo_71 rfl (lv_at hl 2 rfl) ?_
      refine hv_cVI (rm := rm_X4_folkCome) (As := [.ref v1]) (rest := []) (k := 1) (ci := 4) hx hb hml hown hKK hH cf4 k1 (m_X4_folkCome v0 v1 _ _ hw) cw_X4_55 ⟨Nat.le_of_ble_eq_true rfl, Nat.le_of_ble_eq_true rfl⟩ rfl hl.1 rfl (Nat.le_of_ble_eq_true rfl) ⟨Nat.le_of_ble_eq_true rfl, Nat.le_of_ble_eq_true rfl⟩ dX4_comesTo_72 (fun r13 h12 H locs hH hw => ?_)
      obtain ⟨k14, hw⟩ := hw
      exact hv_zret hx hb hr hlk hH k14 hw dX4_comesTo_75
    have hw := ite_f hw c11
    by_cases c15 : r6 = (nI 2)
    · have hw := ite_t hw c15
      refine lv_tableIn (tgt := 76) hx hb dX4_comesTo_26 (by rw [c15]; decide) (by rw [c15]; decide) (by rw [c15]; rfl) (by decide) ?_
      refine lv_aload_n hx hb dX4_comesTo_76 rfl (lv_at hl 1 rfl) ?_
      refine lv_aload_n hx hb dX4_comesTo_77 rfl (lv_at hl 2 rfl) ?_
      refine hz_cVI (rm := rm_X4_headTurns) (As := [.ref v1]) (rest := []) (k := 1) (ci := 4) hx hb hml hown hKK hSK hH cf4 k1 (m_X4_headTurns v0 v1 _ _ hw) cw_X4_58 ⟨Nat.le_of_ble_eq_true rfl, Nat.le_of_ble_eq_true rfl⟩ rfl hl.1 rfl (Nat.le_of_ble_eq_true rfl) ⟨Nat.le_of_ble_eq_true rfl, Nat.le_of_ble_eq_true rfl⟩ dX4_comesTo_78 (fun r17 h16 H locs hH hw => ?_)
      obtain ⟨k18, hw⟩ := hw
      exact hv_zret hx hb hr hlk hH k18 hw dX4_comesTo_81
    have hw := ite_f hw c15
    by_cases c19 : r6 = (nI 3)
    · have hw := ite_t hw c19
      refine lv_tableIn (tgt := 82) hx hb dX4_comesTo_26 (by rw [c19]; decide) (by rw [c19]; decide) (by rw [c19]; rfl) (by decide) ?_
      refine lv_aload_n hx hb dX4_comesTo_82 rfl (lv_at hl 1 rfl) ?_
      refine lv_aload_n hx hb dX4_comesTo_83 rfl (lv_at hl 2 rfl) ?_
      refine hz_cVI (rm := rm_X4_wordComes) (As := [.ref v1]) (rest := []) (k := 1) (ci := 4) hx hb hml hown hKK hSK hH cf4 k1 (m_X4_wordComes v0 v1 _ _ hw) cw_X4_61 ⟨Nat.le_of_ble_eq_true rfl, Nat.le_of_ble_eq_true rfl⟩ rfl hl.1 rfl (Nat.le_of_ble_eq_true rfl) ⟨Nat.le_of_ble_eq_true rfl, Nat.le_of_ble_eq_true rfl⟩ dX4_comesTo_84 (fun r21 h20 H locs hH hw => ?_)
      obtain ⟨k22, hw⟩ := hw
      exact hv_zret hx hb hr hlk hH k22 hw dX4_comesTo_87
    have hw := ite_f hw c19
    by_cases c23 : r6 = (nI 4)
    · have hw := ite_t hw c23
      refine lv_tableIn (tgt := 88) hx hb dX4_comesTo_26 (by rw [c23]; decide) (by rw [c23]; decide) (by rw [c23]; rfl) (by decide) ?_
      refine lv_aload_n hx hb dX4_comesTo_88 rfl (lv_at hl 1 rfl) ?_
      refine lv_aload_n hx hb dX4_comesTo_89 rfl (lv_at hl 2 rfl) ?_
      refine hv_cVI (rm := rm_X4_followersCome) (As := [.ref v1]) (rest := []) (k := 1) (ci := 4) hx hb hml hown hKK hH cf4 k1 (m_X4_followersCome v0 v1 _ _ hw) cw_X4_64 ⟨Nat.le_of_ble_eq_true rfl, Nat.le_of_ble_eq_true rfl⟩ rfl hl.1 rfl (Nat.le_of_ble_eq_true rfl) ⟨Nat.le_of_ble_eq_true rfl, Nat.le_of_ble_eq_true rfl⟩ dX4_comesTo_90 (fun r25 h24 H locs hH hw => ?_)
      obtain ⟨k26, hw⟩ := hw
      exact hv_zret hx hb hr hlk hH k26 hw dX4_comesTo_93
    have hw := ite_f hw c23
    by_cases c27 : r6 = (nI 5)
    · have hw := ite_t hw c27
      refine lv_tableIn (tgt := 94) hx hb dX4_comesTo_26 (by rw [c27]; decide) (by rw [c27]; decide) (by rw [c27]; rfl) (by decide) ?_
      refine lv_aload_n hx hb dX4_comesTo_94 rfl (lv_at hl 1 rfl) ?_
      refine lv_aload_n hx hb dX4_comesTo_95 rfl (lv_at hl 2 rfl) ?_
      refine hv_cVI (rm := rm_X4_nightsGoBy) (As := [.ref v1]) (rest := []) (k := 1) (ci := 4) hx hb hml hown hKK hH cf4 k1 (m_X4_nightsGoBy v0 v1 _ _ hw) cw_X4_67 ⟨Nat.le_of_ble_eq_true rfl, Nat.le_of_ble_eq_true rfl⟩ rfl hl.1 rfl (Nat.le_of_ble_eq_true rfl) ⟨Nat.le_of_ble_eq_true rfl, Nat.le_of_ble_eq_true rfl⟩ dX4_comesTo_96 (fun r29 h28 H locs hH hw => ?_)
      obtain ⟨k30, hw⟩ := hw
      exact hv_zret hx hb hr hlk hH k30 hw dX4_comesTo_99
    have hw := ite_f hw c27
    refine lv_tableOut (tgt := 100) hx hb dX4_comesTo_26 (by have := ne_toInt (k := 0) (by decide) c7; have := ne_toInt (k := 1) (by decide) c11; have := ne_toInt (k := 2) (by decide) c15; have := ne_toInt (k := 3) (by decide) c19; have := ne_toInt (k := 4) (by decide) c23; have := ne_toInt (k := 5) (by decide) c27; omega) (by decide) ?_
    refine lv_iconst (v := (nI 0)) hx hb dX4_comesTo_100 (by decide) ?_
    exact hv_zret hx hb hr hlk hH (Or.inl rfl) hw dX4_comesTo_101
  · have hw := ite_f hw c4
    refine lv_aload_n hx hb dX4_comesTo_12 rfl (lv_at hl 1 rfl) ?_
    refine lv_aload_n hx hb dX4_comesTo_13 rfl (lv_at hl 2 rfl) ?_
    refine lv_iload_n hx hb dX4_comesTo_14 rfl (lv_at hl 0 rfl) ?_
    refine hv_cVI (rm := rm_X4_headComes) (As := [.ref v1, .int r3]) (rest := []) (k := 2) (ci := 4) hx hb hml hown hKK hH cf4 k1 (m_X4_headComes v0 v1 r3 _ _ hw) cw_X4_45 ⟨Nat.le_of_ble_eq_true rfl, Nat.le_of_ble_eq_true rfl⟩ rfl hl.1 rfl (Nat.le_of_ble_eq_true rfl) ⟨Nat.le_of_ble_eq_true rfl, Nat.le_of_ble_eq_true rfl⟩ dX4_comesTo_15 (fun r32 h31 H locs hH hw => ?_)
    obtain ⟨k33, hw⟩ := hw
    exact hv_zret hx hb hr hlk hH k33 hw dX4_comesTo_18
abbrev rm_X6_land : Room := { frames := 8, cells := 0, slots := 0, locals := 179 }
set_option maxHeartbeats 4000000 in
set_option maxRecDepth 100000 in
theorem m_X6_land {l : Launch} {Z : Zg} {G : Gl} {B sz : Nat} {S : St} (v0 : Nat) (h : Hp) (Q : Int32 → Hp → Prop) (hw : w_X6_land S v0 h Q) : MIs Z l G B sz S yX6_land cX6_land 7 .int rm_X6_land [.ref v0] h Q := by
  refine met_ofs rfl rfl ?_
  intro p e s m args below meth c hMB H ls hH hl
  obtain ⟨⟨hx, hb, hml, hown, hKK, hr, hlk⟩, hSK⟩ := hMB
  replace hl : lv_has ls 7 [(0, .ref v0)] := hl
  have c40 : ∀  (v0 : Nat) (v3 : Nat) (v2 : Int32) (v4 : Int32) (v5 : Int32) (h : Hp) (H : Heap) (locs : List Loc) (ls : Array Slot), HH G B S h sz s H locs → lv_has ls 7 [(0, .ref v0), (2, .int v2), (3, .ref v3), (4, .int v4), (5, .int v5)] → w_X6_land_c40 S v0 v3 v2 v4 v5 h Q → W p l e rm_X6_land s m args below meth c H locs 0 0 (QI G B S sz below args s Q) (F0 m 40 ls []) := by
    intro  v0 v3 v2 v4 v5 h H locs ls hH hl hw
    unfold w_X6_land_c40 at hw
    obtain ⟨P40, hP40⟩ : ∃ P : Int32 → Int32 → Int32 → Hp → Prop, ∀ (v2 : Int32) (v4 : Int32) (v5 : Int32) (h : Hp), P v2 v4 v5 h ↔ (∀ (H : Heap) (locs : List Loc) (ls : Array Slot), HH G B S h sz s H locs → lv_has ls 7 [(0, .ref v0), (2, .int v2), (3, .ref v3), (4, .int v4), (5, .int v5)] → W p l e rm_X6_land s m args below meth c H locs 0 0 (QI G B S sz below args s Q) (F0 m 40 ls [])) := ⟨_, fun v2 v4 v5 h => Iff.rfl⟩
    refine (hP40 v2 v4 v5 h).1 (hw P40 (fun v2 v4 v5 h hw => (hP40 v2 v4 v5 h).2 (fun H locs ls hH hl => ?_))) H locs ls hH hl
    have hK40 : ∀ (v2 : Int32) (v4 : Int32) (v5 : Int32) (h : Hp) (H : Heap) (locs : List Loc) (ls : Array Slot), HH G B S h sz s H locs → lv_has ls 7 [(0, .ref v0), (2, .int v2), (3, .ref v3), (4, .int v4), (5, .int v5)] → P40 v2 v4 v5 h → W p l e rm_X6_land s m args below meth c H locs 0 0 (QI G B S sz below args s Q) (F0 m 40 ls []) := fun v2 v4 v5 h H locs ls hH hl hk => (hP40 v2 v4 v5 h).1 hk H locs ls hH hl
    refine lv_iload hx hb dX6_land_40 (lv_at hl 4 rfl) ?_
    refine lv_aload_n hx hb dX6_land_42 rfl (lv_at hl 0 rfl) ?_
    obtain ⟨k1, hw⟩ := hw
    refine hv_get (ci := 6) (k := 4) (v := .ref (S.2 v0 4)) hx hb hown hKK hH cf6 (by decide) fl_X6_29 rfl k1 rfl dX6_land_43 ?_
    obtain ⟨k2, hw⟩ := hw
    refine hv_getN (ci := 4) (k := 1) (v := .int (h (S.2 v0 4) 1)) hx hb hown hKK hH cf4 (by decide) fl_X6_87 rfl k2 rfl dX6_land_46 ?_
    refine lv_icmp_ge (tgt := 113) hx hb dX6_land_49 (by decide) (fun c3 => ?_) (fun c3 => ?_)
    · have hw := ite_t hw c3
      refine lv_aload_n hx hb dX6_land_113 rfl (lv_at hl 0 rfl) ?_
      refine hv_get (ci := 6) (k := 4) (v := .ref (S.2 v0 4)) hx hb hown hKK hH cf6 (by decide) fl_X6_29 rfl k1 rfl dX6_land_114 ?_
      refine hv_cVV (rm := rm_X4_forget) (As := []) (rest := []) (k := 0) (ci := 4) hx hb hml hown hKK hH cf4 k2 (m_X4_forget (S.2 v0 4) _ _ hw) cw_X6_97 ⟨Nat.le_of_ble_eq_true rfl, Nat.le_of_ble_eq_true rfl⟩ rfl hl.1 rfl (Nat.le_of_ble_eq_true rfl) ⟨Nat.le_of_ble_eq_true rfl, Nat.le_of_ble_eq_true rfl⟩ dX6_land_117 (fun h4 H locs hH hw => ?_)
      refine lv_iload_n hx hb dX6_land_120 rfl (lv_at hl 1 rfl) ?_
      refine lv_if_le (tgt := 139) hx hb dX6_land_121 (by decide) (fun c5 => ?_) (fun c5 => ?_)
      · have hw := ite_t hw c5
        refine lv_iload_n hx hb dX6_land_139 rfl (lv_at hl 1 rfl) ?_
        exact hv_iret hx hb hr hlk hH hw dX6_land_140
      · have hw := ite_f hw c5
        refine lv_aload_n hx hb dX6_land_124 rfl (lv_at hl 0 rfl) ?_
        refine hv_get (ci := 6) (k := 0) (v := .ref (S.2 v0 0)) hx hb hown hKK hH cf6 (by decide) fl_X6_10 rfl k1 rfl dX6_land_125 ?_
        refine lv_aload_n hx hb dX6_land_128 rfl (lv_at hl 2 rfl) ?_
        obtain ⟨k6, hw⟩ := hw
        refine hv_cVV (rm := rm_X1_copy) (As := [.ref v3]) (rest := []) (k := 1) (ci := 1) hx hb hml hown hKK hH cf1 k6 (m_X1_copy (S.2 v0 0) v3 _ _ hw) cw_X6_100 ⟨Nat.le_of_ble_eq_true rfl, Nat.le_of_ble_eq_true rfl⟩ rfl hl.1 rfl (Nat.le_of_ble_eq_true rfl) ⟨Nat.le_of_ble_eq_true rfl, Nat.le_of_ble_eq_true rfl⟩ dX6_land_129 (fun h7 H locs hH hw => ?_)
        refine lv_aload_n hx hb dX6_land_132 rfl (lv_at hl 0 rfl) ?_
        refine hv_get (ci := 6) (k := 3) (v := .ref (S.2 v0 3)) hx hb hown hKK hH cf6 (by decide) fl_X6_22 rfl k1 rfl dX6_land_133 ?_
        obtain ⟨k8, hw⟩ := hw
        refine hv_cVV (rm := rm_X3_forget) (As := []) (rest := []) (k := 0) (ci := 3) hx hb hml hown hKK hH cf3 k8 (m_X3_forget (S.2 v0 3) _ _ hw) cw_X6_104 ⟨Nat.le_of_ble_eq_true rfl, Nat.le_of_ble_eq_true rfl⟩ rfl hl.1 rfl (Nat.le_of_ble_eq_true rfl) ⟨Nat.le_of_ble_eq_true rfl, Nat.le_of_ble_eq_true rfl⟩ dX6_land_136 (fun h9 H locs hH hw => ?_)
        refine lv_iload_n hx hb dX6_land_139 rfl (lv_at hl 1 rfl) ?_
        exact hv_iret hx hb hr hlk hH hw dX6_land_140
    · have hw := ite_f hw c3
      refine lv_iload hx hb dX6_land_52 (lv_at hl 3 rfl) ?_
      refine lv_aload_n hx hb dX6_land_54 rfl (lv_at hl 0 rfl) ?_
      refine hv_get (ci := 6) (k := 4) (v := .ref (S.2 v0 4)) hx hb hown hKK hH cf6 (by decide) fl_X6_29 rfl k1 rfl dX6_land_55 ?_
      refine hv_getN (ci := 4) (k := 1) (v := .int (h (S.2 v0 4) 1)) hx hb hown hKK hH cf4 (by decide) fl_X6_87 rfl k2 rfl dX6_land_58 ?_
      refine lv_icmp_ge (tgt := 113) hx hb dX6_land_61 (by decide) (fun c10 => ?_) (fun c10 => ?_)
      · have hw := ite_t hw c10
        refine lv_aload_n hx hb dX6_land_113 rfl (lv_at hl 0 rfl) ?_
        refine hv_get (ci := 6) (k := 4) (v := .ref (S.2 v0 4)) hx hb hown hKK hH cf6 (by decide) fl_X6_29 rfl k1 rfl dX6_land_114 ?_
        refine hv_cVV (rm := rm_X4_forget) (As := []) (rest := []) (k := 0) (ci := 4) hx hb hml hown hKK hH cf4 k2 (m_X4_forget (S.2 v0 4) _ _ hw) cw_X6_97 ⟨Nat.le_of_ble_eq_true rfl, Nat.le_of_ble_eq_true rfl⟩ rfl hl.1 rfl (Nat.le_of_ble_eq_true rfl) ⟨Nat.le_of_ble_eq_true rfl, Nat.le_of_ble_eq_true rfl⟩ dX6_land_117 (fun h11 H locs hH hw => ?_)
        refine lv_iload_n hx hb dX6_land_120 rfl (lv_at hl 1 rfl) ?_
        refine lv_if_le (tgt := 139) hx hb dX6_land_121 (by decide) (fun c12 => ?_) (fun c12 => ?_)
        · have hw := ite_t hw c12
          refine lv_iload_n hx hb dX6_land_139 rfl (lv_at hl 1 rfl) ?_
          exact hv_iret hx hb hr hlk hH hw dX6_land_140
        · have hw := ite_f hw c12
          refine lv_aload_n hx hb dX6_land_124 rfl (lv_at hl 0 rfl) ?_
          refine hv_get (ci := 6) (k := 0) (v := .ref (S.2 v0 0)) hx hb hown hKK hH cf6 (by decide) fl_X6_10 rfl k1 rfl dX6_land_125 ?_
          refine lv_aload_n hx hb dX6_land_128 rfl (lv_at hl 2 rfl) ?_
          obtain ⟨k13, hw⟩ := hw
          refine hv_cVV (rm := rm_X1_copy) (As := [.ref v3]) (rest := []) (k := 1) (ci := 1) hx hb hml hown hKK hH cf1 k13 (m_X1_copy (S.2 v0 0) v3 _ _ hw) cw_X6_100 ⟨Nat.le_of_ble_eq_true rfl, Nat.le_of_ble_eq_true rfl⟩ rfl hl.1 rfl (Nat.le_of_ble_eq_true rfl) ⟨Nat.le_of_ble_eq_true rfl, Nat.le_of_ble_eq_true rfl⟩ dX6_land_129 (fun h14 H locs hH hw => ?_)
          refine lv_aload_n hx hb dX6_land_132 rfl (lv_at hl 0 rfl) ?_
          refine hv_get (ci := 6) (k := 3) (v := .ref (S.2 v0 3)) hx hb hown hKK hH cf6 (by decide) fl_X6_22 rfl k1 rfl dX6_land_133 ?_
          obtain ⟨k15, hw⟩ := hw
          refine hv_cVV (rm := rm_X3_forget) (As := []) (rest := []) (k := 0) (ci := 3) hx hb hml hown hKK hH cf3 k15 (m_X3_forget (S.2 v0 3) _ _ hw) cw_X6_104 ⟨Nat.le_of_ble_eq_true rfl, Nat.le_of_ble_eq_true rfl⟩ rfl hl.1 rfl (Nat.le_of_ble_eq_true rfl) ⟨Nat.le_of_ble_eq_true rfl, Nat.le_of_ble_eq_true rfl⟩ dX6_land_136 (fun h16 H locs hH hw => ?_)
          refine lv_iload_n hx hb dX6_land_139 rfl (lv_at hl 1 rfl) ?_
          exact hv_iret hx hb hr hlk hH hw dX6_land_140
      · have hw := ite_f hw c10
        refine lv_iload_n hx hb dX6_land_64 rfl (lv_at hl 1 rfl) ?_
        refine lv_if_lt (tgt := 113) hx hb dX6_land_65 (by decide) (fun c17 => ?_) (fun c17 => ?_)
        · have hw := ite_t hw c17
          refine lv_aload_n hx hb dX6_land_113 rfl (lv_at hl 0 rfl) ?_
          refine hv_get (ci := 6) (k := 4) (v := .ref (S.2 v0 4)) hx hb hown hKK hH cf6 (by decide) fl_X6_29 rfl k1 rfl dX6_land_114 ?_
          refine hv_cVV (rm := rm_X4_forget) (As := []) (rest := []) (k := 0) (ci := 4) hx hb hml hown hKK hH cf4 k2 (m_X4_forget (S.2 v0 4) _ _ hw) cw_X6_97 ⟨Nat.le_of_ble_eq_true rfl, Nat.le_of_ble_eq_true rfl⟩ rfl hl.1 rfl (Nat.le_of_ble_eq_true rfl) ⟨Nat.le_of_ble_eq_true rfl, Nat.le_of_ble_eq_true rfl⟩ dX6_land_117 (fun h18 H locs hH hw => ?_)
          refine lv_iload_n hx hb dX6_land_120 rfl (lv_at hl 1 rfl) ?_
          refine lv_if_le (tgt := 139) hx hb dX6_land_121 (by decide) (fun c19 => ?_) (fun c19 => ?_)
          · have hw := ite_t hw c19
            refine lv_iload_n hx hb dX6_land_139 rfl (lv_at hl 1 rfl) ?_
            exact hv_iret hx hb hr hlk hH hw dX6_land_140
          · have hw := ite_f hw c19
            refine lv_aload_n hx hb dX6_land_124 rfl (lv_at hl 0 rfl) ?_
            refine hv_get (ci := 6) (k := 0) (v := .ref (S.2 v0 0)) hx hb hown hKK hH cf6 (by decide) fl_X6_10 rfl k1 rfl dX6_land_125 ?_
            refine lv_aload_n hx hb dX6_land_128 rfl (lv_at hl 2 rfl) ?_
            obtain ⟨k20, hw⟩ := hw
            refine hv_cVV (rm := rm_X1_copy) (As := [.ref v3]) (rest := []) (k := 1) (ci := 1) hx hb hml hown hKK hH cf1 k20 (m_X1_copy (S.2 v0 0) v3 _ _ hw) cw_X6_100 ⟨Nat.le_of_ble_eq_true rfl, Nat.le_of_ble_eq_true rfl⟩ rfl hl.1 rfl (Nat.le_of_ble_eq_true rfl) ⟨Nat.le_of_ble_eq_true rfl, Nat.le_of_ble_eq_true rfl⟩ dX6_land_129 (fun h21 H locs hH hw => ?_)
            refine lv_aload_n hx hb dX6_land_132 rfl (lv_at hl 0 rfl) ?_
            refine hv_get (ci := 6) (k := 3) (v := .ref (S.2 v0 3)) hx hb hown hKK hH cf6 (by decide) fl_X6_22 rfl k1 rfl dX6_land_133 ?_
            obtain ⟨k22, hw⟩ := hw
            refine hv_cVV (rm := rm_X3_forget) (As := []) (rest := []) (k := 0) (ci := 3) hx hb hml hown hKK hH cf3 k22 (m_X3_forget (S.2 v0 3) _ _ hw) cw_X6_104 ⟨Nat.le_of_ble_eq_true rfl, Nat.le_of_ble_eq_true rfl⟩ rfl hl.1 rfl (Nat.le_of_ble_eq_true rfl) ⟨Nat.le_of_ble_eq_true rfl, Nat.le_of_ble_eq_true rfl⟩ dX6_land_136 (fun h23 H locs hH hw => ?_)
            refine lv_iload_n hx hb dX6_land_139 rfl (lv_at hl 1 rfl) ?_
            exact hv_iret hx hb hr hlk hH hw dX6_land_140
        · have hw := ite_f hw c17
          refine lv_aload_n hx hb dX6_land_68 rfl (lv_at hl 0 rfl) ?_
          refine hv_get (ci := 6) (k := 4) (v := .ref (S.2 v0 4)) hx hb hown hKK hH cf6 (by decide) fl_X6_29 rfl k1 rfl dX6_land_69 ?_
          refine lv_iload hx hb dX6_land_72 (lv_at hl 3 rfl) ?_
          refine hv_cVI (rm := rm_X4_readStatement) (As := [.int v4]) (rest := []) (k := 1) (ci := 4) hx hb hml hown hKK hH cf4 k2 (m_X4_readStatement (S.2 v0 4) v4 _ _ hw) cw_X6_90 ⟨Nat.le_of_ble_eq_true rfl, Nat.le_of_ble_eq_true rfl⟩ rfl hl.1 rfl (Nat.le_of_ble_eq_true rfl) ⟨Nat.le_of_ble_eq_true rfl, Nat.le_of_ble_eq_true rfl⟩ dX6_land_74 (fun r25 h24 H locs hH hw => ?_)
          refine lv_istore (lv' := [(6, .int r25), (0, .ref v0), (2, .int v2), (3, .ref v3), (4, .int v4), (5, .int v5)]) hx hb dX6_land_77 hl (by decide) rfl (fun ls hl => ?_)
          refine lv_aload_n hx hb dX6_land_79 rfl (lv_at hl 1 rfl) ?_
          refine hv_get (ci := 6) (k := 4) (v := .ref (S.2 v0 4)) hx hb hown hKK hH cf6 (by decide) fl_X6_29 rfl k1 rfl dX6_land_80 ?_
          refine lv_aload_n hx hb dX6_land_83 rfl (lv_at hl 3 rfl) ?_
          refine hz_cVI (rm := rm_X4_comesTo) (As := [.ref v3]) (rest := []) (k := 1) (ci := 4) hx hb hml hown hKK hSK hH cf4 k2 (m_X4_comesTo (S.2 v0 4) v3 _ _ hw) cw_X6_93 ⟨Nat.le_of_ble_eq_true rfl, Nat.le_of_ble_eq_true rfl⟩ rfl hl.1 rfl (Nat.le_of_ble_eq_true rfl) ⟨Nat.le_of_ble_eq_true rfl, Nat.le_of_ble_eq_true rfl⟩ dX6_land_84 (fun r27 h26 H locs hH hw => ?_)
          refine lv_if_eq (tgt := 96) hx hb dX6_land_87 (by decide) (fun c28 => ?_) (fun c28 => ?_)
          · have hw := ite_t hw c28
            refine lv_sipush (v := (-2000)) hx hb dX6_land_96 (by decide) ?_
            refine lv_iload hx hb dX6_land_99 (lv_at hl 4 rfl) ?_
            refine lv_isub hx hb dX6_land_101 ?_
            refine lv_istore_n (lv' := [(2, .int ((-2000) - v4)), (6, .int r25), (0, .ref v0), (3, .ref v3), (4, .int v4), (5, .int v5)]) hx hb dX6_land_102 rfl hl (by decide) rfl (fun ls hl => ?_)
            refine lv_iload hx hb dX6_land_103 (lv_at hl 1 rfl) ?_
            refine lv_istore (lv' := [(4, .int r25), (2, .int ((-2000) - v4)), (6, .int r25), (0, .ref v0), (3, .ref v3), (5, .int v5)]) hx hb dX6_land_105 hl (by decide) rfl (fun ls hl => ?_)
            refine lv_iinc (v := v5 + (nI 1)) (lv' := [(5, .int (v5 + (nI 1))), (4, .int r25), (2, .int ((-2000) - v4)), (6, .int r25), (0, .ref v0), (3, .ref v3)]) hx hb dX6_land_107 hl (k := 5) rfl rfl (by decide) rfl (fun ls hl => ?_)
            refine lv_goto (tgt := 40) hx hb dX6_land_110 (by decide) ?_
            exact hK40 _ _ _ _ H locs ls hH (lv_sub hl [4, 2, 5, 1, 0] rfl) hw
          · have hw := ite_f hw c28
            refine lv_iload_n hx hb dX6_land_90 rfl (lv_at hl 2 rfl) ?_
            refine lv_iconst (v := (nI 1)) hx hb dX6_land_91 (by decide) ?_
            refine lv_iadd hx hb dX6_land_92 ?_
            refine lv_goto (tgt := 102) hx hb dX6_land_93 (by decide) ?_
            refine lv_istore_n (lv' := [(2, .int (v2 + (nI 1))), (6, .int r25), (0, .ref v0), (3, .ref v3), (4, .int v4), (5, .int v5)]) hx hb dX6_land_102 rfl hl (by decide) rfl (fun ls hl => ?_)
            refine lv_iload hx hb dX6_land_103 (lv_at hl 1 rfl) ?_
            refine lv_istore (lv' := [(4, .int r25), (2, .int (v2 + (nI 1))), (6, .int r25), (0, .ref v0), (3, .ref v3), (5, .int v5)]) hx hb dX6_land_105 hl (by decide) rfl (fun ls hl => ?_)
            refine lv_iinc (v := v5 + (nI 1)) (lv' := [(5, .int (v5 + (nI 1))), (4, .int r25), (2, .int (v2 + (nI 1))), (6, .int r25), (0, .ref v0), (3, .ref v3)]) hx hb dX6_land_107 hl (k := 5) rfl rfl (by decide) rfl (fun ls hl => ?_)
            refine lv_goto (tgt := 40) hx hb dX6_land_110 (by decide) ?_
            exact hK40 _ _ _ _ H locs ls hH (lv_sub hl [4, 2, 5, 1, 0] rfl) hw
  unfold w_X6_land at hw
  show W p l e rm_X6_land s m args below meth c H [] 0 0 (QI G B S sz below args s Q) (F0 m 0 ls [])
  generalize ([] : List Loc) = locs at hH ⊢
  refine lv_aload_n hx hb dX6_land_0 rfl (lv_at hl 0 rfl) ?_
  obtain ⟨k1, hw⟩ := hw
  refine hv_get (ci := 6) (k := 4) (v := .ref (S.2 v0 4)) hx hb hown hKK hH cf6 (by decide) fl_X6_29 rfl k1 rfl dX6_land_1 ?_
  obtain ⟨k2, hw⟩ := hw
  refine hv_cVI (rm := rm_X4_placeOfBadForm) (As := []) (rest := []) (k := 0) (ci := 4) hx hb hml hown hKK hH cf4 k2 (m_X4_placeOfBadForm (S.2 v0 4) _ _ hw) cw_X6_79 ⟨Nat.le_of_ble_eq_true rfl, Nat.le_of_ble_eq_true rfl⟩ rfl hl.1 rfl (Nat.le_of_ble_eq_true rfl) ⟨Nat.le_of_ble_eq_true rfl, Nat.le_of_ble_eq_true rfl⟩ dX6_land_4 (fun r4 h3 H locs hH hw => ?_)
  refine lv_istore_n (lv' := [(1, .int r4), (0, .ref v0)]) hx hb dX6_land_7 rfl hl (by decide) rfl (fun ls hl => ?_)
  refine lv_iload_n hx hb dX6_land_8 rfl (lv_at hl 0 rfl) ?_
  refine lv_if_ge (tgt := 16) hx hb dX6_land_9 (by decide) (fun c5 => ?_) (fun c5 => ?_)
  · have hw := ite_t hw c5
    refine lv_sipush (v := (-1000)) hx hb dX6_land_16 (by decide) ?_
    refine lv_iload_n hx hb dX6_land_19 rfl (lv_at hl 0 rfl) ?_
    refine lv_isub hx hb dX6_land_20 ?_
    refine lv_istore_n (lv' := [(2, .int ((-1000) - r4)), (1, .int r4), (0, .ref v0)]) hx hb dX6_land_21 rfl hl (by decide) rfl (fun ls hl => ?_)
    refine lv_aload_n hx hb dX6_land_22 rfl (lv_at hl 2 rfl) ?_
    refine hv_get (ci := 6) (k := 5) (v := .ref (S.2 v0 5)) hx hb hown hKK hH cf6 (by decide) fl_X6_36 rfl k1 rfl dX6_land_23 ?_
    refine lv_aload_n hx hb dX6_land_26 rfl (lv_at hl 2 rfl) ?_
    refine hv_get (ci := 6) (k := 0) (v := .ref (S.2 v0 0)) hx hb hown hKK hH cf6 (by decide) fl_X6_10 rfl k1 rfl dX6_land_27 ?_
    obtain ⟨k6, hw⟩ := hw
    refine hv_cVA (rm := rm_X2_think) (As := [.ref (S.2 v0 0)]) (rest := []) (k := 1) (ci := 2) hx hb hml hown hKK hH cf2 k6 (m_X2_think (S.2 v0 5) (S.2 v0 0) _ _ hw) cw_X6_83 ⟨Nat.le_of_ble_eq_true rfl, Nat.le_of_ble_eq_true rfl⟩ rfl hl.1 rfl (Nat.le_of_ble_eq_true rfl) ⟨Nat.le_of_ble_eq_true rfl, Nat.le_of_ble_eq_true rfl⟩ dX6_land_30 (fun r8 h7 H locs hH hw => ?_)
    refine lv_astore_n (lv' := [(3, .ref r8), (2, .int ((-1000) - r4)), (1, .int r4), (0, .ref v0)]) hx hb dX6_land_33 rfl hl (by decide) rfl (fun ls hl => ?_)
    refine lv_iconst (v := (nI 0)) hx hb dX6_land_34 (by decide) ?_
    refine lv_istore (lv' := [(4, .int (nI 0)), (3, .ref r8), (2, .int ((-1000) - r4)), (1, .int r4), (0, .ref v0)]) hx hb dX6_land_35 hl (by decide) rfl (fun ls hl => ?_)
    refine lv_iconst (v := (nI 0)) hx hb dX6_land_37 (by decide) ?_
    refine lv_istore (lv' := [(5, .int (nI 0)), (4, .int (nI 0)), (3, .ref r8), (2, .int ((-1000) - r4)), (1, .int r4), (0, .ref v0)]) hx hb dX6_land_38 hl (by decide) rfl (fun ls hl => ?_)
    exact c40 _ _ _ _ _ _ H locs ls hH (lv_sub hl [5, 3, 2, 1, 0] rfl) hw
  · have hw := ite_f hw c5
    refine lv_iconst (v := (nI 0)) hx hb dX6_land_12 (by decide) ?_
    refine lv_goto (tgt := 21) hx hb dX6_land_13 (by decide) ?_
    refine lv_istore_n (lv' := [(2, .int (nI 0)), (1, .int r4), (0, .ref v0)]) hx hb dX6_land_21 rfl hl (by decide) rfl (fun ls hl => ?_)
    refine lv_aload_n hx hb dX6_land_22 rfl (lv_at hl 2 rfl) ?_
    refine hv_get (ci := 6) (k := 5) (v := .ref (S.2 v0 5)) hx hb hown hKK hH cf6 (by decide) fl_X6_36 rfl k1 rfl dX6_land_23 ?_
    refine lv_aload_n hx hb dX6_land_26 rfl (lv_at hl 2 rfl) ?_
    refine hv_get (ci := 6) (k := 0) (v := .ref (S.2 v0 0)) hx hb hown hKK hH cf6 (by decide) fl_X6_10 rfl k1 rfl dX6_land_27 ?_
    obtain ⟨k9, hw⟩ := hw
    refine hv_cVA (rm := rm_X2_think) (As := [.ref (S.2 v0 0)]) (rest := []) (k := 1) (ci := 2) hx hb hml hown hKK hH cf2 k9 (m_X2_think (S.2 v0 5) (S.2 v0 0) _ _ hw) cw_X6_83 ⟨Nat.le_of_ble_eq_true rfl, Nat.le_of_ble_eq_true rfl⟩ rfl hl.1 rfl (Nat.le_of_ble_eq_true rfl) ⟨Nat.le_of_ble_eq_true rfl, Nat.le_of_ble_eq_true rfl⟩ dX6_land_30 (fun r11 h10 H locs hH hw => ?_)
    refine lv_astore_n (lv' := [(3, .ref r11), (2, .int (nI 0)), (1, .int r4), (0, .ref v0)]) hx hb dX6_land_33 rfl hl (by decide) rfl (fun ls hl => ?_)
    refine lv_iconst (v := (nI 0)) hx hb dX6_land_34 (by decide) ?_
    refine lv_istore (lv' := [(4, .int (nI 0)), (3, .ref r11), (2, .int (nI 0)), (1, .int r4), (0, .ref v0)]) hx hb dX6_land_35 hl (by decide) rfl (fun ls hl => ?_)
    refine lv_iconst (v := (nI 0)) hx hb dX6_land_37 (by decide) ?_
    refine lv_istore (lv' := [(5, .int (nI 0)), (4, .int (nI 0)), (3, .ref r11), (2, .int (nI 0)), (1, .int r4), (0, .ref v0)]) hx hb dX6_land_38 hl (by decide) rfl (fun ls hl => ?_)
    exact c40 _ _ _ _ _ _ H locs ls hH (lv_sub hl [5, 3, 2, 1, 0] rfl) hw
abbrev rm_J5_isLatin1_aae02 : Room := { frames := 0, cells := 0, slots := 0, locals := 0 }
set_option maxHeartbeats 4000000 in
set_option maxRecDepth 100000 in
theorem m_J5_isLatin1_aae02 {l : Launch} {Z : Zg} {G : Gl} {B sz : Nat} {S : St} (v0 : Nat) (h : Hp) (Q : Int32 → Hp → Prop) (hw : w_J5_isLatin1_aae02 S v0 h Q) : MIs Z l G B sz S yJ5_isLatin1_aae02 cJ5_isLatin1_aae02 1 .boolean rm_J5_isLatin1_aae02 [.ref v0] h Q := by
  refine met_ofs rfl rfl ?_
  intro p e s m args below meth c hMB H ls hH hl
  obtain ⟨⟨hx, hb, hml, hown, hKK, hr, hlk⟩, hSK⟩ := hMB
  replace hl : lv_has ls 1 [(0, .ref v0)] := hl
  unfold w_J5_isLatin1_aae02 at hw
  show W p l e rm_J5_isLatin1_aae02 s m args below meth c H [] 0 0 (QI G B S sz below args s Q) (F0 m 0 ls [])
  generalize ([] : List Loc) = locs at hH ⊢
  refine va_gets hx hb hSK.2.2.1 hH.2 hown (hKK.use fl_J5_18 rfl _) (fun _ h => h) dJ5_isLatin1_aae02_0 ?_
  refine lv_if_eq (tgt := 17) hx hb dJ5_isLatin1_aae02_3 (by decide) (fun c => absurd c (by decide)) (fun _ => ?_)
  refine lv_aload_n hx hb dJ5_isLatin1_aae02_6 rfl (lv_at hl 0 rfl) ?_
  obtain ⟨k1, hw⟩ := hw
  refine hv_getP (ci := 8) (k := 1) (v := .int (h v0 1)) hx hb hown hKK hH cf8 (by decide) fl_J5_22 k1 rfl dJ5_isLatin1_aae02_7 ?_
  refine lv_if_ne (tgt := 17) hx hb dJ5_isLatin1_aae02_10 (by decide) (fun c2 => ?_) (fun c2 => ?_)
  · have hw := ite_f hw c2
    refine lv_iconst (v := (nI 0)) hx hb dJ5_isLatin1_aae02_17 (by decide) ?_
    exact hv_zret hx hb hr hlk hH (Or.inl rfl) hw dJ5_isLatin1_aae02_18
  · have hw := ite_t hw c2
    refine lv_iconst (v := (nI 1)) hx hb dJ5_isLatin1_aae02_13 (by decide) ?_
    refine lv_goto (tgt := 18) hx hb dJ5_isLatin1_aae02_14 (by decide) ?_
    exact hv_zret hx hb hr hlk hH (Or.inr rfl) hw dJ5_isLatin1_aae02_18
abbrev rm_J1_canEncode_fc78d : Room := { frames := 0, cells := 0, slots := 0, locals := 0 }
set_option maxHeartbeats 4000000 in
set_option maxRecDepth 100000 in
theorem m_J1_canEncode_fc78d {l : Launch} {Z : Zg} {G : Gl} {B sz : Nat} {S : St} (v0 : Int32) (h : Hp) (Q : Int32 → Hp → Prop) (hw : w_J1_canEncode_fc78d S v0 h Q) : MIs Z l G B sz S yJ1_canEncode_fc78d cJ1_canEncode_fc78d 1 .boolean rm_J1_canEncode_fc78d [.int v0] h Q := by
  refine met_ofs rfl rfl ?_
  intro p e s m args below meth c hMB H ls hH hl
  obtain ⟨⟨hx, hb, hml, hown, hKK, hr, hlk⟩, hSK⟩ := hMB
  replace hl : lv_has ls 1 [(0, .int v0)] := hl
  unfold w_J1_canEncode_fc78d at hw
  show W p l e rm_J1_canEncode_fc78d s m args below meth c H [] 0 0 (QI G B S sz below args s Q) (F0 m 0 ls [])
  generalize ([] : List Loc) = locs at hH ⊢
  refine lv_iload_n hx hb dJ1_canEncode_fc78d_0 rfl (lv_at hl 0 rfl) ?_
  refine lv_sipush (v := (nI 255)) hx hb dJ1_canEncode_fc78d_1 (by decide) ?_
  refine lv_icmp_gt (tgt := 11) hx hb dJ1_canEncode_fc78d_4 (by decide) (fun c1 => ?_) (fun c1 => ?_)
  · have hw := ite_t hw c1
    refine lv_iconst (v := (nI 0)) hx hb dJ1_canEncode_fc78d_11 (by decide) ?_
    exact hv_zret hx hb hr hlk hH (Or.inl rfl) hw dJ1_canEncode_fc78d_12
  · have hw := ite_f hw c1
    refine lv_iconst (v := (nI 1)) hx hb dJ1_canEncode_fc78d_7 (by decide) ?_
    refine lv_goto (tgt := 12) hx hb dJ1_canEncode_fc78d_8 (by decide) ?_
    exact hv_zret hx hb hr hlk hH (Or.inr rfl) hw dJ1_canEncode_fc78d_12
abbrev rm_J5_ensureCapacityInternal_d00df : Room := { frames := 0, cells := 0, slots := 0, locals := 0 }
set_option maxHeartbeats 4000000 in
set_option maxRecDepth 100000 in
theorem m_J5_ensureCapacityInternal_d00df {l : Launch} {Z : Zg} {G : Gl} {B sz : Nat} {S : St} (v0 : Nat) (v1 : Int32) (h : Hp) (Q : Hp → Prop) (hw : w_J5_ensureCapacityInternal_d00df S v0 v1 h Q) : MVs Z l G B sz S yJ5_ensureCapacityInternal_d00df cJ5_ensureCapacityInternal_d00df 3 rm_J5_ensureCapacityInternal_d00df [.ref v0, .int v1] h Q := by
  refine met_ofs rfl rfl ?_
  intro p e s m args below meth c hMB H ls hH hl
  obtain ⟨⟨hx, hb, hml, hown, hKK, hr, hlk⟩, hSK⟩ := hMB
  replace hl : lv_has ls 3 [(0, .ref v0), (1, .int v1)] := hl
  unfold w_J5_ensureCapacityInternal_d00df at hw
  show W p l e rm_J5_ensureCapacityInternal_d00df s m args below meth c H [] 0 0 (QV G B S sz below args s Q) (F0 m 0 ls [])
  generalize ([] : List Loc) = locs at hH ⊢
  refine lv_aload_n hx hb dJ5_ensureCapacityInternal_d00df_0 rfl (lv_at hl 0 rfl) ?_
  obtain ⟨k1, hw⟩ := hw
  refine hv_getP (ci := 8) (k := 0) (v := .ref (S.2 v0 0)) hx hb hown hKK hH cf8 (by decide) fl_J5_15 k1 rfl dJ5_ensureCapacityInternal_d00df_1 ?_
  obtain ⟨n2, k3, hw⟩ := hw
  refine hv_blen hx hb hKK hH k3 dJ5_ensureCapacityInternal_d00df_4 ?_
  refine lv_aload_n hx hb dJ5_ensureCapacityInternal_d00df_5 rfl (lv_at hl 0 rfl) ?_
  refine hv_getP (ci := 8) (k := 1) (v := .int (h v0 1)) hx hb hown hKK hH cf8 (by decide) fl_J5_22 k1 rfl dJ5_ensureCapacityInternal_d00df_6 ?_
  refine lv_ishr hx hb dJ5_ensureCapacityInternal_d00df_9 ?_
  refine lv_istore_n (lv' := [(2, .int (ishr (nI n2) (h v0 1))), (0, .ref v0), (1, .int v1)]) hx hb dJ5_ensureCapacityInternal_d00df_10 rfl hl (by decide) rfl (fun ls hl => ?_)
  refine lv_iload_n hx hb dJ5_ensureCapacityInternal_d00df_11 rfl (lv_at hl 2 rfl) ?_
  refine lv_iload_n hx hb dJ5_ensureCapacityInternal_d00df_12 rfl (lv_at hl 0 rfl) ?_
  refine lv_isub hx hb dJ5_ensureCapacityInternal_d00df_13 ?_
  refine lv_if_le (tgt := 38) hx hb dJ5_ensureCapacityInternal_d00df_14 (by decide) (fun c4 => ?_) (fun c4 => ?_)
  · have hw := ite_t hw c4
    exact hv_vret hx hb hr hlk hH hw dJ5_ensureCapacityInternal_d00df_38
  · have hw := ite_f hw c4
    exact hw.elim
abbrev rm_J5_append_3fe6f : Room := { frames := 1, cells := 0, slots := 0, locals := 22 }
set_option maxHeartbeats 4000000 in
set_option maxRecDepth 100000 in
theorem m_J5_append_3fe6f {l : Launch} {Z : Zg} {G : Gl} {B sz : Nat} {S : St} (v0 : Nat) (v1 : Int32) (h : Hp) (Q : Nat → Hp → Prop) (hw : w_J5_append_3fe6f S v0 v1 h Q) : MAs Z l G B sz S yJ5_append_3fe6f cJ5_append_3fe6f 2 (.object RJ5) rm_J5_append_3fe6f [.ref v0, .int v1] h Q := by
  refine met_ofs rfl rfl ?_
  intro p e s m args below meth c hMB H ls hH hl
  obtain ⟨⟨hx, hb, hml, hown, hKK, hr, hlk⟩, hSK⟩ := hMB
  replace hl : lv_has ls 2 [(0, .ref v0), (1, .int v1)] := hl
  unfold w_J5_append_3fe6f at hw
  show W p l e rm_J5_append_3fe6f s m args below meth c H [] 0 0 (QA G B S sz below args s Q) (F0 m 0 ls [])
  generalize ([] : List Loc) = locs at hH ⊢
  refine lv_aload_n hx hb dJ5_append_3fe6f_0 rfl (lv_at hl 0 rfl) ?_
  refine lv_aload_n hx hb dJ5_append_3fe6f_1 rfl (lv_at hl 0 rfl) ?_
  obtain ⟨k1, hw⟩ := hw
  refine hv_getP (ci := 8) (k := 3) (v := .int (h v0 3)) hx hb hown hKK hH cf8 (by decide) fl_J5_79 k1 rfl dJ5_append_3fe6f_2 ?_
  refine lv_iconst (v := (nI 1)) hx hb dJ5_append_3fe6f_5 (by decide) ?_
  refine lv_iadd hx hb dJ5_append_3fe6f_6 ?_
  refine hz_cPV (rm := rm_J5_ensureCapacityInternal_d00df) (As := [.int ((h v0 3) + (nI 1))]) (rest := []) (k := 1) (ci := 8) hx hb hml hown hKK hSK hH cf8 k1 (m_J5_ensureCapacityInternal_d00df v0 ((h v0 3) + (nI 1)) _ _ hw) cw_J5_100 ⟨Nat.le_of_ble_eq_true rfl, Nat.le_of_ble_eq_true rfl⟩ rfl hl.1 rfl (Nat.le_of_ble_eq_true rfl) ⟨Nat.le_of_ble_eq_true rfl, Nat.le_of_ble_eq_true rfl⟩ dJ5_append_3fe6f_7 (fun h2 H locs hH hw => ?_)
  refine lv_aload_n hx hb dJ5_append_3fe6f_10 rfl (lv_at hl 0 rfl) ?_
  refine hz_cPI (rm := rm_J5_isLatin1_aae02) (As := []) (rest := []) (k := 0) (ci := 8) hx hb hml hown hKK hSK hH cf8 k1 (m_J5_isLatin1_aae02 v0 _ _ hw) cw_J5_83 ⟨Nat.le_of_ble_eq_true rfl, Nat.le_of_ble_eq_true rfl⟩ rfl hl.1 rfl (Nat.le_of_ble_eq_true rfl) ⟨Nat.le_of_ble_eq_true rfl, Nat.le_of_ble_eq_true rfl⟩ dJ5_append_3fe6f_11 (fun r4 h3 H locs hH hw => ?_)
  refine lv_if_eq (tgt := 45) hx hb dJ5_append_3fe6f_14 (by decide) (fun c5 => ?_) (fun c5 => ?_)
  · have hw := ite_t hw c5
    exact hw.elim
  · have hw := ite_f hw c5
    refine lv_iload_n hx hb dJ5_append_3fe6f_17 rfl (lv_at hl 1 rfl) ?_
    refine hz_cTI (rm := rm_J1_canEncode_fc78d) (As := [.int v1]) (rest := []) (k := 1) hx hb hml hown hKK hSK hH (m_J1_canEncode_fc78d v1 _ _ hw) cw_J5_191 ⟨Nat.le_of_ble_eq_true rfl, Nat.le_of_ble_eq_true rfl⟩ rfl hl.1 rfl (Nat.le_of_ble_eq_true rfl) ⟨Nat.le_of_ble_eq_true rfl, Nat.le_of_ble_eq_true rfl⟩ dJ5_append_3fe6f_18 (fun r7 h6 H locs hH hw => ?_)
    refine lv_if_eq (tgt := 45) hx hb dJ5_append_3fe6f_21 (by decide) (fun c8 => ?_) (fun c8 => ?_)
    · have hw := ite_t hw c8
      exact hw.elim
    · have hw := ite_f hw c8
      refine lv_aload_n hx hb dJ5_append_3fe6f_24 rfl (lv_at hl 0 rfl) ?_
      refine hv_getP (ci := 8) (k := 0) (v := .ref (S.2 v0 0)) hx hb hown hKK hH cf8 (by decide) fl_J5_15 k1 rfl dJ5_append_3fe6f_25 ?_
      refine lv_aload_n hx hb dJ5_append_3fe6f_28 rfl (lv_at hl 0 rfl) ?_
      refine lv_dup hx hb dJ5_append_3fe6f_29 rfl ?_
      refine hv_getP (ci := 8) (k := 3) (v := .int (h6 v0 3)) hx hb hown hKK hH cf8 (by decide) fl_J5_79 k1 rfl dJ5_append_3fe6f_30 ?_
      refine lv_dup_x1 hx hb dJ5_append_3fe6f_33 rfl rfl ?_
      refine lv_iconst (v := (nI 1)) hx hb dJ5_append_3fe6f_34 (by decide) ?_
      refine lv_iadd hx hb dJ5_append_3fe6f_35 ?_
      refine hv_putP (ci := 8) (k := 3) hx hb hown hKK hH cf8 (by decide) fl_J5_79 rfl rfl k1 rfl rfl dJ5_append_3fe6f_36 (fun H locs hH => ?_)
      refine lv_iload_n hx hb dJ5_append_3fe6f_39 rfl (lv_at hl 1 rfl) ?_
      refine lv_i2b (v := i2b v1) hx hb dJ5_append_3fe6f_40 rfl ?_
      obtain ⟨k9, hw⟩ := hw
      refine hv_bast hx hb hKK hH k9 dJ5_append_3fe6f_41 (fun H locs hH => ?_)
      refine lv_goto (tgt := 75) hx hb dJ5_append_3fe6f_42 (by decide) ?_
      refine lv_aload_n hx hb dJ5_append_3fe6f_75 rfl (lv_at hl 0 rfl) ?_
      exact hv_aret hx hb hr hlk hH hw dJ5_append_3fe6f_76
abbrev rm_J4_append_cf468 : Room := { frames := 2, cells := 0, slots := 0, locals := 43 }
set_option maxHeartbeats 4000000 in
set_option maxRecDepth 100000 in
theorem m_J4_append_cf468 {l : Launch} {Z : Zg} {G : Gl} {B sz : Nat} {S : St} (v0 : Nat) (v1 : Int32) (h : Hp) (Q : Nat → Hp → Prop) (hw : w_J4_append_cf468 S v0 v1 h Q) : MAs Z l G B sz S yJ4_append_cf468 cJ4_append_cf468 2 (.object RJ4) rm_J4_append_cf468 [.ref v0, .int v1] h Q := by
  refine met_ofs rfl rfl ?_
  intro p e s m args below meth c hMB H ls hH hl
  obtain ⟨⟨hx, hb, hml, hown, hKK, hr, hlk⟩, hSK⟩ := hMB
  replace hl : lv_has ls 2 [(0, .ref v0), (1, .int v1)] := hl
  unfold w_J4_append_cf468 at hw
  show W p l e rm_J4_append_cf468 s m args below meth c H [] 0 0 (QA G B S sz below args s Q) (F0 m 0 ls [])
  generalize ([] : List Loc) = locs at hH ⊢
  refine lv_aload_n hx hb dJ4_append_cf468_0 rfl (lv_at hl 0 rfl) ?_
  refine lv_iload_n hx hb dJ4_append_cf468_1 rfl (lv_at hl 1 rfl) ?_
  obtain ⟨k1, hw⟩ := hw
  refine hz_cUA (rm := rm_J5_append_3fe6f) (As := [.int v1]) (rest := []) (k := 1) (ci := 8) hx hb hml hown hKK hSK hH cf8 k1 (m_J5_append_3fe6f v0 v1 _ _ hw) cw_J4_50 ⟨Nat.le_of_ble_eq_true rfl, Nat.le_of_ble_eq_true rfl⟩ rfl hl.1 rfl (Nat.le_of_ble_eq_true rfl) ⟨Nat.le_of_ble_eq_true rfl, Nat.le_of_ble_eq_true rfl⟩ dJ4_append_cf468_2 (fun r3 h2 H locs hH hw => ?_)
  refine lv_pop hx hb dJ4_append_cf468_5 rfl ?_
  refine lv_aload_n hx hb dJ4_append_cf468_6 rfl (lv_at hl 0 rfl) ?_
  exact hv_aret hx hb hr hlk hH hw dJ4_append_cf468_7
abbrev rm_J6_stringSize_0f7a4 : Room := { frames := 0, cells := 0, slots := 0, locals := 0 }
set_option maxHeartbeats 4000000 in
set_option maxRecDepth 100000 in
theorem m_J6_stringSize_0f7a4 {l : Launch} {Z : Zg} {G : Gl} {B sz : Nat} {S : St} (v0 : Int32) (h : Hp) (Q : Int32 → Hp → Prop) (hw : w_J6_stringSize_0f7a4 S v0 h Q) : MIs Z l G B sz S yJ6_stringSize_0f7a4 cJ6_stringSize_0f7a4 4 .int rm_J6_stringSize_0f7a4 [.int v0] h Q := by
  refine met_ofs rfl rfl ?_
  intro p e s m args below meth c hMB H ls hH hl
  obtain ⟨⟨hx, hb, hml, hown, hKK, hr, hlk⟩, hSK⟩ := hMB
  replace hl : lv_has ls 4 [(0, .int v0)] := hl
  have c16 : ∀  (v0 : Int32) (v1 : Int32) (v2 : Int32) (v3 : Int32) (h : Hp) (H : Heap) (locs : List Loc) (ls : Array Slot), HH G B S h sz s H locs → lv_has ls 4 [(0, .int v0), (1, .int v1), (2, .int v2), (3, .int v3)] → w_J6_stringSize_0f7a4_c16 S v0 v1 v2 v3 h Q → W p l e rm_J6_stringSize_0f7a4 s m args below meth c H locs 0 0 (QI G B S sz below args s Q) (F0 m 16 ls []) := by
    intro  v0 v1 v2 v3 h H locs ls hH hl hw
    unfold w_J6_stringSize_0f7a4_c16 at hw
    obtain ⟨P16, hP16⟩ : ∃ P : Int32 → Int32 → Hp → Prop, ∀ (v2 : Int32) (v3 : Int32) (h : Hp), P v2 v3 h ↔ (∀ (H : Heap) (locs : List Loc) (ls : Array Slot), HH G B S h sz s H locs → lv_has ls 4 [(0, .int v0), (1, .int v1), (2, .int v2), (3, .int v3)] → W p l e rm_J6_stringSize_0f7a4 s m args below meth c H locs 0 0 (QI G B S sz below args s Q) (F0 m 16 ls [])) := ⟨_, fun v2 v3 h => Iff.rfl⟩
    refine (hP16 v2 v3 h).1 (hw P16 (fun v2 v3 h hw => (hP16 v2 v3 h).2 (fun H locs ls hH hl => ?_))) H locs ls hH hl
    have hK16 : ∀ (v2 : Int32) (v3 : Int32) (h : Hp) (H : Heap) (locs : List Loc) (ls : Array Slot), HH G B S h sz s H locs → lv_has ls 4 [(0, .int v0), (1, .int v1), (2, .int v2), (3, .int v3)] → P16 v2 v3 h → W p l e rm_J6_stringSize_0f7a4 s m args below meth c H locs 0 0 (QI G B S sz below args s Q) (F0 m 16 ls []) := fun v2 v3 h H locs ls hH hl hk => (hP16 v2 v3 h).1 hk H locs ls hH hl
    refine lv_iload_n hx hb dJ6_stringSize_0f7a4_16 rfl (lv_at hl 3 rfl) ?_
    refine lv_bipush (v := (nI 10)) hx hb dJ6_stringSize_0f7a4_17 (by decide) ?_
    refine lv_icmp_ge (tgt := 42) hx hb dJ6_stringSize_0f7a4_19 (by decide) (fun c1 => ?_) (fun c1 => ?_)
    · have hw := ite_t hw c1
      refine lv_bipush (v := (nI 10)) hx hb dJ6_stringSize_0f7a4_42 (by decide) ?_
      refine lv_iload_n hx hb dJ6_stringSize_0f7a4_44 rfl (lv_at hl 1 rfl) ?_
      refine lv_iadd hx hb dJ6_stringSize_0f7a4_45 ?_
      exact hv_iret hx hb hr hlk hH hw dJ6_stringSize_0f7a4_46
    · have hw := ite_f hw c1
      refine lv_iload_n hx hb dJ6_stringSize_0f7a4_22 rfl (lv_at hl 0 rfl) ?_
      refine lv_iload_n hx hb dJ6_stringSize_0f7a4_23 rfl (lv_at hl 2 rfl) ?_
      refine lv_icmp_le (tgt := 31) hx hb dJ6_stringSize_0f7a4_24 (by decide) (fun c2 => ?_) (fun c2 => ?_)
      · have hw := ite_t hw c2
        refine lv_bipush (v := (nI 10)) hx hb dJ6_stringSize_0f7a4_31 (by decide) ?_
        refine lv_iload_n hx hb dJ6_stringSize_0f7a4_33 rfl (lv_at hl 2 rfl) ?_
        refine lv_imul hx hb dJ6_stringSize_0f7a4_34 ?_
        refine lv_istore_n (lv' := [(2, .int ((nI 10) * v2)), (0, .int v0), (1, .int v1), (3, .int v3)]) hx hb dJ6_stringSize_0f7a4_35 rfl hl (by decide) rfl (fun ls hl => ?_)
        refine lv_iinc (v := v3 + (nI 1)) (lv' := [(3, .int (v3 + (nI 1))), (2, .int ((nI 10) * v2)), (0, .int v0), (1, .int v1)]) hx hb dJ6_stringSize_0f7a4_36 hl (k := 3) rfl rfl (by decide) rfl (fun ls hl => ?_)
        refine lv_goto (tgt := 16) hx hb dJ6_stringSize_0f7a4_39 (by decide) ?_
        exact hK16 _ _ _ H locs ls hH (lv_sub hl [2, 3, 1, 0] rfl) hw
      · have hw := ite_f hw c2
        refine lv_iload_n hx hb dJ6_stringSize_0f7a4_27 rfl (lv_at hl 3 rfl) ?_
        refine lv_iload_n hx hb dJ6_stringSize_0f7a4_28 rfl (lv_at hl 1 rfl) ?_
        refine lv_iadd hx hb dJ6_stringSize_0f7a4_29 ?_
        exact hv_iret hx hb hr hlk hH hw dJ6_stringSize_0f7a4_30
  unfold w_J6_stringSize_0f7a4 at hw
  show W p l e rm_J6_stringSize_0f7a4 s m args below meth c H [] 0 0 (QI G B S sz below args s Q) (F0 m 0 ls [])
  generalize ([] : List Loc) = locs at hH ⊢
  refine lv_iconst (v := (nI 1)) hx hb dJ6_stringSize_0f7a4_0 (by decide) ?_
  refine lv_istore_n (lv' := [(1, .int (nI 1)), (0, .int v0)]) hx hb dJ6_stringSize_0f7a4_1 rfl hl (by decide) rfl (fun ls hl => ?_)
  refine lv_iload_n hx hb dJ6_stringSize_0f7a4_2 rfl (lv_at hl 1 rfl) ?_
  refine lv_if_lt (tgt := 11) hx hb dJ6_stringSize_0f7a4_3 (by decide) (fun c1 => ?_) (fun c1 => ?_)
  · have hw := ite_t hw c1
    refine lv_bipush (v := (-10)) hx hb dJ6_stringSize_0f7a4_11 (by decide) ?_
    refine lv_istore_n (lv' := [(2, .int (-10)), (1, .int (nI 1)), (0, .int v0)]) hx hb dJ6_stringSize_0f7a4_13 rfl hl (by decide) rfl (fun ls hl => ?_)
    refine lv_iconst (v := (nI 1)) hx hb dJ6_stringSize_0f7a4_14 (by decide) ?_
    refine lv_istore_n (lv' := [(3, .int (nI 1)), (2, .int (-10)), (1, .int (nI 1)), (0, .int v0)]) hx hb dJ6_stringSize_0f7a4_15 rfl hl (by decide) rfl (fun ls hl => ?_)
    exact c16 _ _ _ _ _ H locs ls hH (lv_sub hl [3, 2, 1, 0] rfl) hw
  · have hw := ite_f hw c1
    refine lv_iconst (v := (nI 0)) hx hb dJ6_stringSize_0f7a4_6 (by decide) ?_
    refine lv_istore_n (lv' := [(1, .int (nI 0)), (0, .int v0)]) hx hb dJ6_stringSize_0f7a4_7 rfl hl (by decide) rfl (fun ls hl => ?_)
    refine lv_iload_n hx hb dJ6_stringSize_0f7a4_8 rfl (lv_at hl 1 rfl) ?_
    refine lv_ineg hx hb dJ6_stringSize_0f7a4_9 ?_
    refine lv_istore_n (lv' := [(0, .int (-v0)), (1, .int (nI 0))]) hx hb dJ6_stringSize_0f7a4_10 rfl hl (by decide) rfl (fun ls hl => ?_)
    refine lv_bipush (v := (-10)) hx hb dJ6_stringSize_0f7a4_11 (by decide) ?_
    refine lv_istore_n (lv' := [(2, .int (-10)), (0, .int (-v0)), (1, .int (nI 0))]) hx hb dJ6_stringSize_0f7a4_13 rfl hl (by decide) rfl (fun ls hl => ?_)
    refine lv_iconst (v := (nI 1)) hx hb dJ6_stringSize_0f7a4_14 (by decide) ?_
    refine lv_istore_n (lv' := [(3, .int (nI 1)), (2, .int (-10)), (0, .int (-v0)), (1, .int (nI 0))]) hx hb dJ6_stringSize_0f7a4_15 rfl hl (by decide) rfl (fun ls hl => ?_)
    exact c16 _ _ _ _ _ H locs ls hH (lv_sub hl [2, 3, 1, 0] rfl) hw
abbrev rm_J6_getChars_ba4f3 : Room := { frames := 0, cells := 0, slots := 0, locals := 0 }
set_option maxHeartbeats 4000000 in
set_option maxRecDepth 100000 in
theorem m_J6_getChars_ba4f3 {l : Launch} {Z : Zg} {G : Gl} {B sz : Nat} {S : St} (v0 : Int32) (v1 : Int32) (v2 : Nat) (h : Hp) (Q : Int32 → Hp → Prop) (hw : w_J6_getChars_ba4f3 S v0 v1 v2 h Q) : MIs Z l G B sz S yJ6_getChars_ba4f3 cJ6_getChars_ba4f3 7 .int rm_J6_getChars_ba4f3 [.int v0, .int v1, .ref v2] h Q := by
  refine met_ofs rfl rfl ?_
  intro p e s m args below meth c hMB H ls hH hl
  obtain ⟨⟨hx, hb, hml, hown, hKK, hr, hlk⟩, hSK⟩ := hMB
  replace hl : lv_has ls 7 [(0, .int v0), (1, .int v1), (2, .ref v2)] := hl
  have c22 : ∀  (v0 : Int32) (v2 : Nat) (v5 : Int32) (v6 : Int32) (h : Hp) (H : Heap) (locs : List Loc) (ls : Array Slot), HH G B S h sz s H locs → lv_has ls 7 [(0, .int v0), (2, .ref v2), (5, .int v5), (6, .int v6)] → w_J6_getChars_ba4f3_c22 S v0 v2 v5 v6 h Q → W p l e rm_J6_getChars_ba4f3 s m args below meth c H locs 0 0 (QI G B S sz below args s Q) (F0 m 22 ls []) := by
    intro  v0 v2 v5 v6 h H locs ls hH hl hw
    unfold w_J6_getChars_ba4f3_c22 at hw
    refine lv_iload_n hx hb dJ6_getChars_ba4f3_22 rfl (lv_at hl 0 rfl) ?_
    refine lv_bipush (v := (-100)) hx hb dJ6_getChars_ba4f3_23 (by decide) ?_
    refine lv_icmp_gt (tgt := 72) hx hb dJ6_getChars_ba4f3_25 (by decide) (fun c1 => ?_) (fun c1 => ?_)
    · have hw := ite_t hw c1
      refine lv_aload_n hx hb dJ6_getChars_ba4f3_72 rfl (lv_at hl 1 rfl) ?_
      refine lv_iinc (v := v5 + (-1)) (lv' := [(5, .int (v5 + (-1))), (0, .int v0), (2, .ref v2), (6, .int v6)]) hx hb dJ6_getChars_ba4f3_73 hl (k := 2) rfl rfl (by decide) rfl (fun ls hl => ?_)
      refine lv_iload hx hb dJ6_getChars_ba4f3_76 (lv_at hl 0 rfl) ?_
      refine va_gets hx hb hSK.2.2.2.2.1.1 hH.2 hown (hKK.use fl_J6_83 rfl _) (fun _ h => h) dJ6_getChars_ba4f3_78 ?_
      refine lv_iload_n hx hb dJ6_getChars_ba4f3_81 rfl (lv_at hl 1 rfl) ?_
      refine lv_ineg hx hb dJ6_getChars_ba4f3_82 ?_
      obtain ⟨k2, hw⟩ := hw
      refine va_tb (v := .int (dOn (ix (-v0)))) hx hb hSK.2.2.2.2.1.2 hH.2 k2 rfl dJ6_getChars_ba4f3_83 ?_
      obtain ⟨k3, hw⟩ := hw
      refine hv_bast hx hb hKK hH k3 dJ6_getChars_ba4f3_84 (fun H locs hH => ?_)
      refine lv_iload_n hx hb dJ6_getChars_ba4f3_85 rfl (lv_at hl 1 rfl) ?_
      refine lv_bipush (v := (-9)) hx hb dJ6_getChars_ba4f3_86 (by decide) ?_
      refine lv_icmp_ge (tgt := 104) hx hb dJ6_getChars_ba4f3_88 (by decide) (fun c4 => ?_) (fun c4 => ?_)
      · have hw := ite_t hw c4
        refine lv_iload hx hb dJ6_getChars_ba4f3_104 (lv_at hl 3 rfl) ?_
        refine lv_if_eq (tgt := 118) hx hb dJ6_getChars_ba4f3_106 (by decide) (fun c5 => ?_) (fun c5 => ?_)
        · have hw := ite_t hw c5
          refine lv_iload hx hb dJ6_getChars_ba4f3_118 (lv_at hl 0 rfl) ?_
          exact hv_iret hx hb hr hlk hH hw dJ6_getChars_ba4f3_120
        · have hw := ite_f hw c5
          exact hw.elim
      · have hw := ite_f hw c4
        refine lv_aload_n hx hb dJ6_getChars_ba4f3_91 rfl (lv_at hl 2 rfl) ?_
        refine lv_iinc (v := (v5 + (-1)) + (-1)) (lv' := [(5, .int ((v5 + (-1)) + (-1))), (0, .int v0), (2, .ref v2), (6, .int v6)]) hx hb dJ6_getChars_ba4f3_92 hl (k := 0) rfl rfl (by decide) rfl (fun ls hl => ?_)
        refine lv_iload hx hb dJ6_getChars_ba4f3_95 (lv_at hl 0 rfl) ?_
        refine va_gets hx hb hSK.2.2.2.2.2.1.1 hH.2 hown (hKK.use fl_J6_87 rfl _) (fun _ h => h) dJ6_getChars_ba4f3_97 ?_
        refine lv_iload_n hx hb dJ6_getChars_ba4f3_100 rfl (lv_at hl 1 rfl) ?_
        refine lv_ineg hx hb dJ6_getChars_ba4f3_101 ?_
        refine va_tb (v := .int (dTe (ix (-v0)))) hx hb hSK.2.2.2.2.2.1.2 hH.2 k2 rfl dJ6_getChars_ba4f3_102 ?_
        obtain ⟨k6, hw⟩ := hw
        refine hv_bast hx hb hKK hH k6 dJ6_getChars_ba4f3_103 (fun H locs hH => ?_)
        refine lv_iload hx hb dJ6_getChars_ba4f3_104 (lv_at hl 3 rfl) ?_
        refine lv_if_eq (tgt := 118) hx hb dJ6_getChars_ba4f3_106 (by decide) (fun c7 => ?_) (fun c7 => ?_)
        · have hw := ite_t hw c7
          refine lv_iload hx hb dJ6_getChars_ba4f3_118 (lv_at hl 0 rfl) ?_
          exact hv_iret hx hb hr hlk hH hw dJ6_getChars_ba4f3_120
        · have hw := ite_f hw c7
          exact hw.elim
    · have hw := ite_f hw c1
      exact hw.elim
  unfold w_J6_getChars_ba4f3 at hw
  show W p l e rm_J6_getChars_ba4f3 s m args below meth c H [] 0 0 (QI G B S sz below args s Q) (F0 m 0 ls [])
  generalize ([] : List Loc) = locs at hH ⊢
  refine lv_iload_n hx hb dJ6_getChars_ba4f3_0 rfl (lv_at hl 1 rfl) ?_
  refine lv_istore (lv' := [(5, .int v1), (0, .int v0), (1, .int v1), (2, .ref v2)]) hx hb dJ6_getChars_ba4f3_1 hl (by decide) rfl (fun ls hl => ?_)
  refine lv_iload_n hx hb dJ6_getChars_ba4f3_3 rfl (lv_at hl 1 rfl) ?_
  refine lv_if_ge (tgt := 11) hx hb dJ6_getChars_ba4f3_4 (by decide) (fun c1 => ?_) (fun c1 => ?_)
  · have hw := ite_t hw c1
    refine lv_iconst (v := (nI 0)) hx hb dJ6_getChars_ba4f3_11 (by decide) ?_
    refine lv_istore (lv' := [(6, .int (nI 0)), (5, .int v1), (0, .int v0), (1, .int v1), (2, .ref v2)]) hx hb dJ6_getChars_ba4f3_12 hl (by decide) rfl (fun ls hl => ?_)
    refine lv_iload hx hb dJ6_getChars_ba4f3_14 (lv_at hl 0 rfl) ?_
    refine lv_if_ne (tgt := 22) hx hb dJ6_getChars_ba4f3_16 (by decide) (fun c => absurd (by decide) c) (fun _ => ?_)
    refine lv_iload_n hx hb dJ6_getChars_ba4f3_19 rfl (lv_at hl 2 rfl) ?_
    refine lv_ineg hx hb dJ6_getChars_ba4f3_20 ?_
    refine lv_istore_n (lv' := [(0, .int (-v0)), (6, .int (nI 0)), (5, .int v1), (1, .int v1), (2, .ref v2)]) hx hb dJ6_getChars_ba4f3_21 rfl hl (by decide) rfl (fun ls hl => ?_)
    exact c22 _ _ _ _ _ H locs ls hH (lv_sub hl [0, 4, 2, 1] rfl) hw
  · have hw := ite_f hw c1
    refine lv_iconst (v := (nI 1)) hx hb dJ6_getChars_ba4f3_7 (by decide) ?_
    refine lv_goto (tgt := 12) hx hb dJ6_getChars_ba4f3_8 (by decide) ?_
    refine lv_istore (lv' := [(6, .int (nI 1)), (5, .int v1), (0, .int v0), (1, .int v1), (2, .ref v2)]) hx hb dJ6_getChars_ba4f3_12 hl (by decide) rfl (fun ls hl => ?_)
    refine lv_iload hx hb dJ6_getChars_ba4f3_14 (lv_at hl 0 rfl) ?_
    refine lv_if_ne (tgt := 22) hx hb dJ6_getChars_ba4f3_16 (by decide) (fun _ => ?_) (fun c => absurd c (by decide))
    exact c22 _ _ _ _ _ H locs ls hH (lv_sub hl [2, 4, 1, 0] rfl) hw
abbrev rm_J5_append_c97b9 : Room := { frames := 1, cells := 0, slots := 0, locals := 26 }
set_option maxHeartbeats 4000000 in
set_option maxRecDepth 100000 in
theorem m_J5_append_c97b9 {l : Launch} {Z : Zg} {G : Gl} {B sz : Nat} {S : St} (v0 : Nat) (v1 : Int32) (h : Hp) (Q : Nat → Hp → Prop) (hw : w_J5_append_c97b9 S v0 v1 h Q) : MAs Z l G B sz S yJ5_append_c97b9 cJ5_append_c97b9 4 (.object RJ5) rm_J5_append_c97b9 [.ref v0, .int v1] h Q := by
  refine met_ofs rfl rfl ?_
  intro p e s m args below meth c hMB H ls hH hl
  obtain ⟨⟨hx, hb, hml, hown, hKK, hr, hlk⟩, hSK⟩ := hMB
  replace hl : lv_has ls 4 [(0, .ref v0), (1, .int v1)] := hl
  unfold w_J5_append_c97b9 at hw
  show W p l e rm_J5_append_c97b9 s m args below meth c H [] 0 0 (QA G B S sz below args s Q) (F0 m 0 ls [])
  generalize ([] : List Loc) = locs at hH ⊢
  refine lv_aload_n hx hb dJ5_append_c97b9_0 rfl (lv_at hl 0 rfl) ?_
  obtain ⟨k1, hw⟩ := hw
  refine hv_getP (ci := 8) (k := 3) (v := .int (h v0 3)) hx hb hown hKK hH cf8 (by decide) fl_J5_79 k1 rfl dJ5_append_c97b9_1 ?_
  refine lv_istore_n (lv' := [(2, .int (h v0 3)), (0, .ref v0), (1, .int v1)]) hx hb dJ5_append_c97b9_4 rfl hl (by decide) rfl (fun ls hl => ?_)
  refine lv_iload_n hx hb dJ5_append_c97b9_5 rfl (lv_at hl 0 rfl) ?_
  refine lv_iload_n hx hb dJ5_append_c97b9_6 rfl (lv_at hl 2 rfl) ?_
  refine hz_cTI (rm := rm_J6_stringSize_0f7a4) (As := [.int v1]) (rest := [.int (h v0 3)]) (k := 1) hx hb hml hown hKK hSK hH (m_J6_stringSize_0f7a4 v1 _ _ hw) cw_J5_245 ⟨Nat.le_of_ble_eq_true rfl, Nat.le_of_ble_eq_true rfl⟩ rfl hl.1 rfl (Nat.le_of_ble_eq_true rfl) ⟨Nat.le_of_ble_eq_true rfl, Nat.le_of_ble_eq_true rfl⟩ dJ5_append_c97b9_7 (fun r3 h2 H locs hH hw => ?_)
  refine lv_iadd hx hb dJ5_append_c97b9_10 ?_
  refine lv_istore_n (lv' := [(3, .int ((h v0 3) + r3)), (2, .int (h v0 3)), (0, .ref v0), (1, .int v1)]) hx hb dJ5_append_c97b9_11 rfl hl (by decide) rfl (fun ls hl => ?_)
  refine lv_aload_n hx hb dJ5_append_c97b9_12 rfl (lv_at hl 2 rfl) ?_
  refine lv_iload_n hx hb dJ5_append_c97b9_13 rfl (lv_at hl 0 rfl) ?_
  refine hz_cPV (rm := rm_J5_ensureCapacityInternal_d00df) (As := [.int ((h v0 3) + r3)]) (rest := []) (k := 1) (ci := 8) hx hb hml hown hKK hSK hH cf8 k1 (m_J5_ensureCapacityInternal_d00df v0 ((h v0 3) + r3) _ _ hw) cw_J5_100 ⟨Nat.le_of_ble_eq_true rfl, Nat.le_of_ble_eq_true rfl⟩ rfl hl.1 rfl (Nat.le_of_ble_eq_true rfl) ⟨Nat.le_of_ble_eq_true rfl, Nat.le_of_ble_eq_true rfl⟩ dJ5_append_c97b9_14 (fun h4 H locs hH hw => ?_)
  refine lv_aload_n hx hb dJ5_append_c97b9_17 rfl (lv_at hl 2 rfl) ?_
  refine hz_cPI (rm := rm_J5_isLatin1_aae02) (As := []) (rest := []) (k := 0) (ci := 8) hx hb hml hown hKK hSK hH cf8 k1 (m_J5_isLatin1_aae02 v0 _ _ hw) cw_J5_83 ⟨Nat.le_of_ble_eq_true rfl, Nat.le_of_ble_eq_true rfl⟩ rfl hl.1 rfl (Nat.le_of_ble_eq_true rfl) ⟨Nat.le_of_ble_eq_true rfl, Nat.le_of_ble_eq_true rfl⟩ dJ5_append_c97b9_18 (fun r6 h5 H locs hH hw => ?_)
  refine lv_if_eq (tgt := 37) hx hb dJ5_append_c97b9_21 (by decide) (fun c7 => ?_) (fun c7 => ?_)
  · have hw := ite_t hw c7
    exact hw.elim
  · have hw := ite_f hw c7
    refine lv_iload_n hx hb dJ5_append_c97b9_24 rfl (lv_at hl 3 rfl) ?_
    refine lv_iload_n hx hb dJ5_append_c97b9_25 rfl (lv_at hl 0 rfl) ?_
    refine lv_aload_n hx hb dJ5_append_c97b9_26 rfl (lv_at hl 2 rfl) ?_
    refine hv_getP (ci := 8) (k := 0) (v := .ref (S.2 v0 0)) hx hb hown hKK hH cf8 (by decide) fl_J5_15 k1 rfl dJ5_append_c97b9_27 ?_
    refine hz_cTI (rm := rm_J6_getChars_ba4f3) (As := [.int v1, .int ((h v0 3) + r3), .ref (S.2 v0 0)]) (rest := []) (k := 3) hx hb hml hown hKK hSK hH (m_J6_getChars_ba4f3 v1 ((h v0 3) + r3) (S.2 v0 0) _ _ hw) cw_J5_248 ⟨Nat.le_of_ble_eq_true rfl, Nat.le_of_ble_eq_true rfl⟩ rfl hl.1 rfl (Nat.le_of_ble_eq_true rfl) ⟨Nat.le_of_ble_eq_true rfl, Nat.le_of_ble_eq_true rfl⟩ dJ5_append_c97b9_30 (fun r9 h8 H locs hH hw => ?_)
    refine lv_pop hx hb dJ5_append_c97b9_33 rfl ?_
    refine lv_goto (tgt := 48) hx hb dJ5_append_c97b9_34 (by decide) ?_
    refine lv_aload_n hx hb dJ5_append_c97b9_48 rfl (lv_at hl 2 rfl) ?_
    refine lv_iload_n hx hb dJ5_append_c97b9_49 rfl (lv_at hl 0 rfl) ?_
    refine hv_putP (ci := 8) (k := 3) hx hb hown hKK hH cf8 (by decide) fl_J5_79 rfl rfl k1 rfl rfl dJ5_append_c97b9_50 (fun H locs hH => ?_)
    refine lv_aload_n hx hb dJ5_append_c97b9_53 rfl (lv_at hl 2 rfl) ?_
    exact hv_aret hx hb hr hlk hH hw dJ5_append_c97b9_54
abbrev rm_J4_append_bf812 : Room := { frames := 2, cells := 0, slots := 0, locals := 49 }
set_option maxHeartbeats 4000000 in
set_option maxRecDepth 100000 in
theorem m_J4_append_bf812 {l : Launch} {Z : Zg} {G : Gl} {B sz : Nat} {S : St} (v0 : Nat) (v1 : Int32) (h : Hp) (Q : Nat → Hp → Prop) (hw : w_J4_append_bf812 S v0 v1 h Q) : MAs Z l G B sz S yJ4_append_bf812 cJ4_append_bf812 2 (.object RJ4) rm_J4_append_bf812 [.ref v0, .int v1] h Q := by
  refine met_ofs rfl rfl ?_
  intro p e s m args below meth c hMB H ls hH hl
  obtain ⟨⟨hx, hb, hml, hown, hKK, hr, hlk⟩, hSK⟩ := hMB
  replace hl : lv_has ls 2 [(0, .ref v0), (1, .int v1)] := hl
  unfold w_J4_append_bf812 at hw
  show W p l e rm_J4_append_bf812 s m args below meth c H [] 0 0 (QA G B S sz below args s Q) (F0 m 0 ls [])
  generalize ([] : List Loc) = locs at hH ⊢
  refine lv_aload_n hx hb dJ4_append_bf812_0 rfl (lv_at hl 0 rfl) ?_
  refine lv_iload_n hx hb dJ4_append_bf812_1 rfl (lv_at hl 1 rfl) ?_
  obtain ⟨k1, hw⟩ := hw
  refine hz_cUA (rm := rm_J5_append_c97b9) (As := [.int v1]) (rest := []) (k := 1) (ci := 8) hx hb hml hown hKK hSK hH cf8 k1 (m_J5_append_c97b9 v0 v1 _ _ hw) cw_J4_53 ⟨Nat.le_of_ble_eq_true rfl, Nat.le_of_ble_eq_true rfl⟩ rfl hl.1 rfl (Nat.le_of_ble_eq_true rfl) ⟨Nat.le_of_ble_eq_true rfl, Nat.le_of_ble_eq_true rfl⟩ dJ4_append_bf812_2 (fun r3 h2 H locs hH hw => ?_)
  refine lv_pop hx hb dJ4_append_bf812_5 rfl ?_
  refine lv_aload_n hx hb dJ4_append_bf812_6 rfl (lv_at hl 0 rfl) ?_
  exact hv_aret hx hb hr hlk hH hw dJ4_append_bf812_7
abbrev rm_J5_length_8abf5 : Room := { frames := 0, cells := 0, slots := 0, locals := 0 }
set_option maxHeartbeats 4000000 in
set_option maxRecDepth 100000 in
theorem m_J5_length_8abf5 {l : Launch} {Z : Zg} {G : Gl} {B sz : Nat} {S : St} (v0 : Nat) (h : Hp) (Q : Int32 → Hp → Prop) (hw : w_J5_length_8abf5 S v0 h Q) : MIs Z l G B sz S yJ5_length_8abf5 cJ5_length_8abf5 1 .int rm_J5_length_8abf5 [.ref v0] h Q := by
  refine met_ofs rfl rfl ?_
  intro p e s m args below meth c hMB H ls hH hl
  obtain ⟨⟨hx, hb, hml, hown, hKK, hr, hlk⟩, hSK⟩ := hMB
  replace hl : lv_has ls 1 [(0, .ref v0)] := hl
  unfold w_J5_length_8abf5 at hw
  show W p l e rm_J5_length_8abf5 s m args below meth c H [] 0 0 (QI G B S sz below args s Q) (F0 m 0 ls [])
  generalize ([] : List Loc) = locs at hH ⊢
  refine lv_aload_n hx hb dJ5_length_8abf5_0 rfl (lv_at hl 0 rfl) ?_
  obtain ⟨k1, hw⟩ := hw
  refine hv_getP (ci := 8) (k := 3) (v := .int (h v0 3)) hx hb hown hKK hH cf8 (by decide) fl_J5_79 k1 rfl dJ5_length_8abf5_1 ?_
  exact hv_iret hx hb hr hlk hH hw dJ5_length_8abf5_4
abbrev rm_J4_length_8abf5 : Room := { frames := 1, cells := 0, slots := 0, locals := 20 }
set_option maxHeartbeats 4000000 in
set_option maxRecDepth 100000 in
theorem m_J4_length_8abf5 {l : Launch} {Z : Zg} {G : Gl} {B sz : Nat} {S : St} (v0 : Nat) (h : Hp) (Q : Int32 → Hp → Prop) (hw : w_J4_length_8abf5 S v0 h Q) : MIs Z l G B sz S yJ4_length_8abf5 cJ4_length_8abf5 1 .int rm_J4_length_8abf5 [.ref v0] h Q := by
  refine met_ofs rfl rfl ?_
  intro p e s m args below meth c hMB H ls hH hl
  obtain ⟨⟨hx, hb, hml, hown, hKK, hr, hlk⟩, hSK⟩ := hMB
  replace hl : lv_has ls 1 [(0, .ref v0)] := hl
  unfold w_J4_length_8abf5 at hw
  show W p l e rm_J4_length_8abf5 s m args below meth c H [] 0 0 (QI G B S sz below args s Q) (F0 m 0 ls [])
  generalize ([] : List Loc) = locs at hH ⊢
  refine lv_aload_n hx hb dJ4_length_8abf5_0 rfl (lv_at hl 0 rfl) ?_
  obtain ⟨k1, hw⟩ := hw
  refine hz_cUI (rm := rm_J5_length_8abf5) (As := []) (rest := []) (k := 0) (ci := 8) hx hb hml hown hKK hSK hH cf8 k1 (m_J5_length_8abf5 v0 _ _ hw) cw_J4_343 ⟨Nat.le_of_ble_eq_true rfl, Nat.le_of_ble_eq_true rfl⟩ rfl hl.1 rfl (Nat.le_of_ble_eq_true rfl) ⟨Nat.le_of_ble_eq_true rfl, Nat.le_of_ble_eq_true rfl⟩ dJ4_length_8abf5_1 (fun r3 h2 H locs hH hw => ?_)
  exact hv_iret hx hb hr hlk hH hw dJ4_length_8abf5_4
abbrev rm_J5_charAt_5068e : Room := { frames := 2, cells := 0, slots := 0, locals := 43 }
set_option maxHeartbeats 4000000 in
set_option maxRecDepth 100000 in
theorem m_J5_charAt_5068e {l : Launch} {Z : Zg} {G : Gl} {B sz : Nat} {S : St} (v0 : Nat) (v1 : Int32) (h : Hp) (Q : Int32 → Hp → Prop) (hw : w_J5_charAt_5068e S v0 v1 h Q) : MIs Z l G B sz S yJ5_charAt_5068e cJ5_charAt_5068e 5 .char rm_J5_charAt_5068e [.ref v0, .int v1] h Q := by
  refine met_ofs rfl rfl ?_
  intro p e s m args below meth c hMB H ls hH hl
  obtain ⟨⟨hx, hb, hml, hown, hKK, hr, hlk⟩, hSK⟩ := hMB
  replace hl : lv_has ls 5 [(0, .ref v0), (1, .int v1)] := hl
  unfold w_J5_charAt_5068e at hw
  show W p l e rm_J5_charAt_5068e s m args below meth c H [] 0 0 (QI G B S sz below args s Q) (F0 m 0 ls [])
  generalize ([] : List Loc) = locs at hH ⊢
  refine lv_aload_n hx hb dJ5_charAt_5068e_0 rfl (lv_at hl 0 rfl) ?_
  obtain ⟨k1, hw⟩ := hw
  refine hv_getP (ci := 8) (k := 1) (v := .int (h v0 1)) hx hb hown hKK hH cf8 (by decide) fl_J5_22 k1 rfl dJ5_charAt_5068e_1 ?_
  refine lv_istore_n (lv' := [(2, .int (h v0 1)), (0, .ref v0), (1, .int v1)]) hx hb dJ5_charAt_5068e_4 rfl hl (by decide) rfl (fun ls hl => ?_)
  refine lv_aload_n hx hb dJ5_charAt_5068e_5 rfl (lv_at hl 1 rfl) ?_
  refine hv_getP (ci := 8) (k := 0) (v := .ref (S.2 v0 0)) hx hb hown hKK hH cf8 (by decide) fl_J5_15 k1 rfl dJ5_charAt_5068e_6 ?_
  refine lv_astore_n (lv' := [(3, .ref (S.2 v0 0)), (2, .int (h v0 1)), (0, .ref v0), (1, .int v1)]) hx hb dJ5_charAt_5068e_9 rfl hl (by decide) rfl (fun ls hl => ?_)
  refine lv_aload_n hx hb dJ5_charAt_5068e_10 rfl (lv_at hl 2 rfl) ?_
  refine hv_getP (ci := 8) (k := 3) (v := .int (h v0 3)) hx hb hown hKK hH cf8 (by decide) fl_J5_79 k1 rfl dJ5_charAt_5068e_11 ?_
  refine lv_aload_n hx hb dJ5_charAt_5068e_14 rfl (lv_at hl 0 rfl) ?_
  obtain ⟨n2, k3, hw⟩ := hw
  refine hv_blen hx hb hKK hH k3 dJ5_charAt_5068e_15 ?_
  refine lv_iload_n hx hb dJ5_charAt_5068e_16 rfl (lv_at hl 1 rfl) ?_
  refine lv_ishr hx hb dJ5_charAt_5068e_17 ?_
  refine va_mmin hx hb (hml.trans hl.1.symm) hown (hKK.use ml_J5_138 rfl _) (hKK.use ml_min rfl _) (hKK.use ml_math rfl _) (hKK.use ml_min_c rfl _) (Nat.le_of_ble_eq_true rfl) (Nat.le_of_ble_eq_true rfl) (Nat.le_of_ble_eq_true rfl) (Nat.le_of_ble_eq_true rfl) dJ5_charAt_5068e_18 ?_
  refine lv_istore (lv' := [(4, .int (imin (h v0 3) (ishr (nI n2) (h v0 1)))), (3, .ref (S.2 v0 0)), (2, .int (h v0 1)), (0, .ref v0), (1, .int v1)]) hx hb dJ5_charAt_5068e_21 hl (by decide) rfl (fun ls hl => ?_)
  refine lv_iload_n hx hb dJ5_charAt_5068e_23 rfl (lv_at hl 4 rfl) ?_
  refine lv_iload hx hb dJ5_charAt_5068e_24 (lv_at hl 0 rfl) ?_
  refine hz_cTV (rm := rm_J0_checkIndex_df160) (As := [.int v1, .int (imin (h v0 3) (ishr (nI n2) (h v0 1)))]) (rest := []) (k := 2) hx hb hml hown hKK hSK hH (m_J0_checkIndex_df160 v1 (imin (h v0 3) (ishr (nI n2) (h v0 1))) _ _ hw) cw_J5_144 ⟨Nat.le_of_ble_eq_true rfl, Nat.le_of_ble_eq_true rfl⟩ rfl hl.1 rfl (Nat.le_of_ble_eq_true rfl) ⟨Nat.le_of_ble_eq_true rfl, Nat.le_of_ble_eq_true rfl⟩ dJ5_charAt_5068e_26 (fun h4 H locs hH hw => ?_)
  refine lv_iload_n hx hb dJ5_charAt_5068e_29 rfl (lv_at hl 2 rfl) ?_
  refine lv_if_ne (tgt := 42) hx hb dJ5_charAt_5068e_30 (by decide) (fun c5 => ?_) (fun c5 => ?_)
  · have hw := ite_f hw c5
    exact hw.elim
  · have hw := ite_t hw c5
    refine lv_aload_n hx hb dJ5_charAt_5068e_33 rfl (lv_at hl 1 rfl) ?_
    refine lv_iload_n hx hb dJ5_charAt_5068e_34 rfl (lv_at hl 4 rfl) ?_
    obtain ⟨k6, hw⟩ := hw
    refine hv_bald hx hb hKK hH k6 dJ5_charAt_5068e_35 ?_
    refine lv_sipush (v := (nI 255)) hx hb dJ5_charAt_5068e_36 (by decide) ?_
    refine lv_iand hx hb dJ5_charAt_5068e_39 ?_
    refine lv_i2c (v := i2c ((h4 (S.2 v0 0) (ix v1)) &&& (nI 255))) hx hb dJ5_charAt_5068e_40 rfl ?_
    obtain ⟨k7, hw⟩ := hw
    exact hz_cret hx hb hr hlk hH k7 hw dJ5_charAt_5068e_41
abbrev rm_J4_charAt_5068e : Room := { frames := 3, cells := 0, slots := 0, locals := 67 }
set_option maxHeartbeats 4000000 in
set_option maxRecDepth 100000 in
theorem m_J4_charAt_5068e {l : Launch} {Z : Zg} {G : Gl} {B sz : Nat} {S : St} (v0 : Nat) (v1 : Int32) (h : Hp) (Q : Int32 → Hp → Prop) (hw : w_J4_charAt_5068e S v0 v1 h Q) : MIs Z l G B sz S yJ4_charAt_5068e cJ4_charAt_5068e 2 .char rm_J4_charAt_5068e [.ref v0, .int v1] h Q := by
  refine met_ofs rfl rfl ?_
  intro p e s m args below meth c hMB H ls hH hl
  obtain ⟨⟨hx, hb, hml, hown, hKK, hr, hlk⟩, hSK⟩ := hMB
  replace hl : lv_has ls 2 [(0, .ref v0), (1, .int v1)] := hl
  unfold w_J4_charAt_5068e at hw
  show W p l e rm_J4_charAt_5068e s m args below meth c H [] 0 0 (QI G B S sz below args s Q) (F0 m 0 ls [])
  generalize ([] : List Loc) = locs at hH ⊢
  refine lv_aload_n hx hb dJ4_charAt_5068e_0 rfl (lv_at hl 0 rfl) ?_
  refine lv_iload_n hx hb dJ4_charAt_5068e_1 rfl (lv_at hl 1 rfl) ?_
  obtain ⟨k1, hw⟩ := hw
  refine hz_cUI (rm := rm_J5_charAt_5068e) (As := [.int v1]) (rest := []) (k := 1) (ci := 8) hx hb hml hown hKK hSK hH cf8 k1 (m_J5_charAt_5068e v0 v1 _ _ hw) cw_J4_329 ⟨Nat.le_of_ble_eq_true rfl, Nat.le_of_ble_eq_true rfl⟩ rfl hl.1 rfl (Nat.le_of_ble_eq_true rfl) ⟨Nat.le_of_ble_eq_true rfl, Nat.le_of_ble_eq_true rfl⟩ dJ4_charAt_5068e_2 (fun r3 h2 H locs hH hw => ?_)
  obtain ⟨k4, hw⟩ := hw
  exact hz_cret hx hb hr hlk hH k4 hw dJ4_charAt_5068e_5
abbrev rm_X0_tell : Room := { frames := 4, cells := 0, slots := 0, locals := 85 }
set_option maxHeartbeats 4000000 in
set_option maxRecDepth 100000 in
theorem m_X0_tell {l : Launch} {Z : Zg} {G : Gl} {B sz : Nat} {S : St} (v0 : Nat) (v1 : Nat) (h : Hp) (Q : Hp → Prop) (hw : w_X0_tell S v0 v1 h Q) : MVs Z l G B sz S yX0_tell cX0_tell 3 rm_X0_tell [.ref v0, .ref v1] h Q := by
  refine met_ofs rfl rfl ?_
  intro p e s m args below meth c hMB H ls hH hl
  obtain ⟨⟨hx, hb, hml, hown, hKK, hr, hlk⟩, hSK⟩ := hMB
  replace hl : lv_has ls 3 [(0, .ref v0), (1, .ref v1)] := hl
  have c2 : ∀  (v0 : Nat) (v1 : Nat) (v2 : Int32) (h : Hp) (H : Heap) (locs : List Loc) (ls : Array Slot), HH G B S h sz s H locs → lv_has ls 3 [(0, .ref v0), (1, .ref v1), (2, .int v2)] → w_X0_tell_c2 S v0 v1 v2 h Q → W p l e rm_X0_tell s m args below meth c H locs 0 0 (QV G B S sz below args s Q) (F0 m 2 ls []) := by
    intro  v0 v1 v2 h H locs ls hH hl hw
    unfold w_X0_tell_c2 at hw
    obtain ⟨P2, hP2⟩ : ∃ P : Int32 → Hp → Prop, ∀ (v2 : Int32) (h : Hp), P v2 h ↔ (∀ (H : Heap) (locs : List Loc) (ls : Array Slot), HH G B S h sz s H locs → lv_has ls 3 [(0, .ref v0), (1, .ref v1), (2, .int v2)] → W p l e rm_X0_tell s m args below meth c H locs 0 0 (QV G B S sz below args s Q) (F0 m 2 ls [])) := ⟨_, fun v2 h => Iff.rfl⟩
    refine (hP2 v2 h).1 (hw P2 (fun v2 h hw => (hP2 v2 h).2 (fun H locs ls hH hl => ?_))) H locs ls hH hl
    have hK2 : ∀ (v2 : Int32) (h : Hp) (H : Heap) (locs : List Loc) (ls : Array Slot), HH G B S h sz s H locs → lv_has ls 3 [(0, .ref v0), (1, .ref v1), (2, .int v2)] → P2 v2 h → W p l e rm_X0_tell s m args below meth c H locs 0 0 (QV G B S sz below args s Q) (F0 m 2 ls []) := fun v2 h H locs ls hH hl hk => (hP2 v2 h).1 hk H locs ls hH hl
    refine lv_iload_n hx hb dX0_tell_2 rfl (lv_at hl 2 rfl) ?_
    refine lv_aload_n hx hb dX0_tell_3 rfl (lv_at hl 0 rfl) ?_
    obtain ⟨k1, hw⟩ := hw
    refine hv_get (ci := 0) (k := 3) (v := .int (h v0 3)) hx hb hown hKK hH cf0 (by decide) fl_X0_22 rfl k1 rfl dX0_tell_4 ?_
    refine lv_icmp_ge (tgt := 31) hx hb dX0_tell_7 (by decide) (fun c2 => ?_) (fun c2 => ?_)
    · have hw := ite_t hw c2
      refine lv_aload_n hx hb dX0_tell_31 rfl (lv_at hl 1 rfl) ?_
      refine lv_bipush (v := (nI 32)) hx hb dX0_tell_32 (by decide) ?_
      obtain ⟨k3, hw⟩ := hw
      refine hz_cVA (rm := rm_J4_append_cf468) (As := [.int (nI 32)]) (rest := []) (k := 1) (ci := 8) hx hb hml hown hKK hSK hH cf8 k3 (m_J4_append_cf468 v1 (nI 32) _ _ hw) cw_X0_68 ⟨Nat.le_of_ble_eq_true rfl, Nat.le_of_ble_eq_true rfl⟩ rfl hl.1 rfl (Nat.le_of_ble_eq_true rfl) ⟨Nat.le_of_ble_eq_true rfl, Nat.le_of_ble_eq_true rfl⟩ dX0_tell_34 (fun r5 h4 H locs hH hw => ?_)
      refine lv_aload_n hx hb dX0_tell_37 rfl (lv_at hl 0 rfl) ?_
      refine hv_get (ci := 0) (k := 4) (v := .int (h4 v0 4)) hx hb hown hKK hH cf0 (by decide) fl_X0_25 rfl k1 rfl dX0_tell_38 ?_
      obtain ⟨k6, hw⟩ := hw
      refine hz_cVA (rm := rm_J4_append_bf812) (As := [.int (h4 v0 4)]) (rest := []) (k := 1) (ci := 8) hx hb hml hown hKK hSK hH cf8 k6 (m_J4_append_bf812 r5 (h4 v0 4) _ _ hw) cw_X0_74 ⟨Nat.le_of_ble_eq_true rfl, Nat.le_of_ble_eq_true rfl⟩ rfl hl.1 rfl (Nat.le_of_ble_eq_true rfl) ⟨Nat.le_of_ble_eq_true rfl, Nat.le_of_ble_eq_true rfl⟩ dX0_tell_41 (fun r8 h7 H locs hH hw => ?_)
      refine va_ldcS hx hb hown hSK.2.1.2.2.2.2 dX0_tell_44 ?_
      refine lv_aload_n hx hb dX0_tell_46 rfl (lv_at hl 0 rfl) ?_
      refine hv_get (ci := 0) (k := 5) (v := .int (h7 v0 5)) hx hb hown hKK hH cf0 (by decide) fl_X0_28 rfl k1 rfl dX0_tell_47 ?_
      obtain ⟨k9, hw⟩ := hw
      refine hz_cSI (rm := rm_J0_charAt_5068e) (As := [.int (h7 v0 5)]) (rest := [.ref r8]) (k := 1) hx hb hml hown hKK hSK hH k9 (m_J0_charAt_5068e 4 (h7 v0 5) _ _ hw) cw_X0_79 ⟨Nat.le_of_ble_eq_true rfl, Nat.le_of_ble_eq_true rfl⟩ rfl hl.1 rfl (Nat.le_of_ble_eq_true rfl) ⟨Nat.le_of_ble_eq_true rfl, Nat.le_of_ble_eq_true rfl⟩ dX0_tell_50 (fun r11 h10 H locs hH hw => ?_)
      obtain ⟨k12, hw⟩ := hw
      refine hz_cVA (rm := rm_J4_append_cf468) (As := [.int r11]) (rest := []) (k := 1) (ci := 8) hx hb hml hown hKK hSK hH cf8 k12 (m_J4_append_cf468 r8 r11 _ _ hw) cw_X0_68 ⟨Nat.le_of_ble_eq_true rfl, Nat.le_of_ble_eq_true rfl⟩ rfl hl.1 rfl (Nat.le_of_ble_eq_true rfl) ⟨Nat.le_of_ble_eq_true rfl, Nat.le_of_ble_eq_true rfl⟩ dX0_tell_53 (fun r14 h13 H locs hH hw => ?_)
      refine lv_pop hx hb dX0_tell_56 rfl ?_
      refine lv_aload_n hx hb dX0_tell_57 rfl (lv_at hl 0 rfl) ?_
      refine hv_get (ci := 0) (k := 8) (v := .int (h13 v0 8)) hx hb hown hKK hH cf0 (by decide) fl_X0_37 rfl k1 rfl dX0_tell_58 ?_
      refine lv_if_eq (tgt := 74) hx hb dX0_tell_61 (by decide) (fun c15 => ?_) (fun c15 => ?_)
      · have hw := ite_t hw c15
        refine lv_aload_n hx hb dX0_tell_74 rfl (lv_at hl 1 rfl) ?_
        refine lv_aload_n hx hb dX0_tell_75 rfl (lv_at hl 0 rfl) ?_
        refine hv_get (ci := 0) (k := 7) (v := .int (h13 v0 7)) hx hb hown hKK hH cf0 (by decide) fl_X0_34 rfl k1 rfl dX0_tell_76 ?_
        refine hz_cVA (rm := rm_J4_append_bf812) (As := [.int (h13 v0 7)]) (rest := []) (k := 1) (ci := 8) hx hb hml hown hKK hSK hH cf8 k3 (m_J4_append_bf812 v1 (h13 v0 7) _ _ hw) cw_X0_74 ⟨Nat.le_of_ble_eq_true rfl, Nat.le_of_ble_eq_true rfl⟩ rfl hl.1 rfl (Nat.le_of_ble_eq_true rfl) ⟨Nat.le_of_ble_eq_true rfl, Nat.le_of_ble_eq_true rfl⟩ dX0_tell_79 (fun r17 h16 H locs hH hw => ?_)
        refine lv_pop hx hb dX0_tell_82 rfl ?_
        exact hv_vret hx hb hr hlk hH hw dX0_tell_83
      · have hw := ite_f hw c15
        refine lv_aload_n hx hb dX0_tell_64 rfl (lv_at hl 1 rfl) ?_
        refine lv_bipush (v := (nI 33)) hx hb dX0_tell_65 (by decide) ?_
        refine hz_cVA (rm := rm_J4_append_cf468) (As := [.int (nI 33)]) (rest := []) (k := 1) (ci := 8) hx hb hml hown hKK hSK hH cf8 k3 (m_J4_append_cf468 v1 (nI 33) _ _ hw) cw_X0_68 ⟨Nat.le_of_ble_eq_true rfl, Nat.le_of_ble_eq_true rfl⟩ rfl hl.1 rfl (Nat.le_of_ble_eq_true rfl) ⟨Nat.le_of_ble_eq_true rfl, Nat.le_of_ble_eq_true rfl⟩ dX0_tell_67 (fun r19 h18 H locs hH hw => ?_)
        refine lv_pop hx hb dX0_tell_70 rfl ?_
        refine lv_goto (tgt := 83) hx hb dX0_tell_71 (by decide) ?_
        exact hv_vret hx hb hr hlk hH hw dX0_tell_83
    · have hw := ite_f hw c2
      refine lv_aload_n hx hb dX0_tell_10 rfl (lv_at hl 1 rfl) ?_
      refine lv_bipush (v := (nI 97)) hx hb dX0_tell_11 (by decide) ?_
      refine lv_aload_n hx hb dX0_tell_13 rfl (lv_at hl 0 rfl) ?_
      refine hv_get (ci := 0) (k := 2) (v := .ref (S.2 v0 2)) hx hb hown hKK hH cf0 (by decide) fl_X0_9 rfl k1 rfl dX0_tell_14 ?_
      refine lv_iload_n hx hb dX0_tell_17 rfl (lv_at hl 2 rfl) ?_
      obtain ⟨k20, hw⟩ := hw
      refine hv_iald hx hb hKK hH k20 dX0_tell_18 ?_
      refine lv_iadd hx hb dX0_tell_19 ?_
      refine lv_i2c (v := i2c ((nI 97) + (h (S.2 v0 2) (ix v2)))) hx hb dX0_tell_20 rfl ?_
      obtain ⟨k21, hw⟩ := hw
      refine hz_cVA (rm := rm_J4_append_cf468) (As := [.int (i2c ((nI 97) + (h (S.2 v0 2) (ix v2))))]) (rest := []) (k := 1) (ci := 8) hx hb hml hown hKK hSK hH cf8 k21 (m_J4_append_cf468 v1 (i2c ((nI 97) + (h (S.2 v0 2) (ix v2)))) _ _ hw) cw_X0_68 ⟨Nat.le_of_ble_eq_true rfl, Nat.le_of_ble_eq_true rfl⟩ rfl hl.1 rfl (Nat.le_of_ble_eq_true rfl) ⟨Nat.le_of_ble_eq_true rfl, Nat.le_of_ble_eq_true rfl⟩ dX0_tell_21 (fun r23 h22 H locs hH hw => ?_)
      refine lv_pop hx hb dX0_tell_24 rfl ?_
      refine lv_iinc (v := v2 + (nI 1)) (lv' := [(2, .int (v2 + (nI 1))), (0, .ref v0), (1, .ref v1)]) hx hb dX0_tell_25 hl (k := 2) rfl rfl (by decide) rfl (fun ls hl => ?_)
      refine lv_goto (tgt := 2) hx hb dX0_tell_28 (by decide) ?_
      exact hK2 _ _ H locs ls hH (lv_sub hl [1, 2, 0] rfl) hw
  unfold w_X0_tell at hw
  show W p l e rm_X0_tell s m args below meth c H [] 0 0 (QV G B S sz below args s Q) (F0 m 0 ls [])
  generalize ([] : List Loc) = locs at hH ⊢
  refine lv_iconst (v := (nI 0)) hx hb dX0_tell_0 (by decide) ?_
  refine lv_istore_n (lv' := [(2, .int (nI 0)), (0, .ref v0), (1, .ref v1)]) hx hb dX0_tell_1 rfl hl (by decide) rfl (fun ls hl => ?_)
  exact c2 _ _ _ _ H locs ls hH (lv_sub hl [1, 2, 0] rfl) hw
