abbrev rm_X7_share : Room := { frames := 2, cells := 0, slots := 0, locals := 53 }
set_option maxHeartbeats 4000000 in
set_option maxRecDepth 100000 in
theorem m_X7_share {l : Launch} {G : Gl} {B sz : Nat} {S : St} (v0 : Nat) (v1 : Int32) (v2 : Int32) (h : Hp) (Q : Int64 → Hp → Prop) (hw : w_X7_share S v0 v1 v2 h Q) : ML l G B sz S yX7_share cX7_share 5 rm_X7_share [.ref v0, .int v1, .int v2] h Q := by
  refine met_of rfl rfl ?_
  intro p e s m args below meth c hMB H ls hH hl
  obtain ⟨hx, hb, hml, hown, hKK, hr, hlk⟩ := hMB
  replace hl : lv_has ls 5 [(0, .ref v0), (1, .int v1), (2, .int v2)] := hl
  have c27 : ∀  (v0 : Nat) (v1 : Int32) (v2 : Int32) (s0 : Int32) (h : Hp) (H : Heap) (locs : List Loc) (ls : Array Slot), HH G B S h sz s H locs → lv_has ls 5 [(0, .ref v0), (1, .int v1), (2, .int v2)] → w_X7_share_c27 S v0 v1 v2 s0 h Q → W p l e rm_X7_share s m args below meth c H locs 0 0 (QL G B S sz below args s Q) (F0 m 27 ls [.int s0]) := by
    intro  v0 v1 v2 s0 h H locs ls hH hl hw
    unfold w_X7_share_c27 at hw
    refine lv_istore_n (lv' := [(3, .int s0), (0, .ref v0), (1, .int v1), (2, .int v2)]) hx hb dX7_share_27 rfl hl (by decide) rfl (fun ls hl => ?_)
    refine lv_iload_n hx hb dX7_share_28 rfl (lv_at hl 0 rfl) ?_
    refine lv_if_eq (tgt := 38) hx hb dX7_share_29 (by decide) (fun c1 => ?_) (fun c1 => ?_)
    · have hw := ite_t hw c1
      refine lv_aload_n hx hb dX7_share_38 rfl (lv_at hl 1 rfl) ?_
      obtain ⟨k2, hw⟩ := hw
      refine hv_get (ci := 7) (k := 9) (v := .ref (S.2 v0 9)) hx hb hown hKK hH cf7 (by decide) fl_X7_37 rfl k2 rfl dX7_share_39 ?_
      refine lv_aload_n hx hb dX7_share_42 rfl (lv_at hl 1 rfl) ?_
      refine hv_get (ci := 7) (k := 13) (v := .int (h v0 13)) hx hb hown hKK hH cf7 (by decide) fl_X7_79 rfl k2 rfl dX7_share_43 ?_
      refine hv_cSI (rm := rm_X7_allOf) (As := [.ref (S.2 v0 9), .int (h v0 13)]) (rest := []) (k := 2) hx hb hml hown hKK hH (m_X7_allOf (S.2 v0 9) (h v0 13) _ _ hw) cw_X7_352 ⟨Nat.le_of_ble_eq_true rfl, Nat.le_of_ble_eq_true rfl⟩ rfl hl.1 rfl (Nat.le_of_ble_eq_true rfl) ⟨Nat.le_of_ble_eq_true rfl, Nat.le_of_ble_eq_true rfl⟩ dX7_share_46 (fun r4 h3 H locs hH hw => ?_)
      refine lv_istore (lv' := [(4, .int r4), (3, .int s0), (0, .ref v0), (1, .int v1), (2, .int v2)]) hx hb dX7_share_49 hl (by decide) rfl (fun ls hl => ?_)
      refine lv_iload hx hb dX7_share_51 (lv_at hl 0 rfl) ?_
      refine lv_if_ne (tgt := 61) hx hb dX7_share_53 (by decide) (fun c5 => ?_) (fun c5 => ?_)
      · have hw := ite_f hw c5
        refine lv_aload_n hx hb dX7_share_61 rfl (lv_at hl 2 rfl) ?_
        refine hv_get (ci := 7) (k := 9) (v := .ref (S.2 v0 9)) hx hb hown hKK hH cf7 (by decide) fl_X7_37 rfl k2 rfl dX7_share_62 ?_
        refine lv_iload_n hx hb dX7_share_65 rfl (lv_at hl 3 rfl) ?_
        obtain ⟨k6, hw⟩ := hw
        refine hv_iald hx hb hKK hH k6 dX7_share_66 ?_
        refine lv_i2l hx hb dX7_share_67 rfl ?_
        refine lv_iload hx hb dX7_share_68 (lv_at hl 0 rfl) ?_
        refine lv_i2l hx hb dX7_share_70 rfl ?_
        refine lv_iload_n hx hb dX7_share_71 rfl (lv_at hl 4 rfl) ?_
        refine hv_cSL (rm := rm_X7_partOf) (As := [.long ((h3 (S.2 v0 9) (ix v1)).toInt64), .long (r4.toInt64), .int v2]) (rest := []) (k := 3) hx hb hml hown hKK hH (m_X7_partOf ((h3 (S.2 v0 9) (ix v1)).toInt64) (r4.toInt64) v2 _ _ hw) cw_X7_391 ⟨Nat.le_of_ble_eq_true rfl, Nat.le_of_ble_eq_true rfl⟩ rfl hl.1 rfl (Nat.le_of_ble_eq_true rfl) ⟨Nat.le_of_ble_eq_true rfl, Nat.le_of_ble_eq_true rfl⟩ dX7_share_72 (fun r8 h7 H locs hH hw => ?_)
        exact hv_lret hx hb hr hlk hH hw dX7_share_75
      · have hw := ite_t hw c5
        refine lv_iload_n hx hb dX7_share_56 rfl (lv_at hl 4 rfl) ?_
        refine lv_i2l hx hb dX7_share_57 rfl ?_
        refine lv_goto (tgt := 75) hx hb dX7_share_58 (by decide) ?_
        exact hv_lret hx hb hr hlk hH hw dX7_share_75
    · have hw := ite_f hw c1
      refine lv_aload_n hx hb dX7_share_32 rfl (lv_at hl 1 rfl) ?_
      refine lv_iload_n hx hb dX7_share_33 rfl (lv_at hl 0 rfl) ?_
      obtain ⟨k9, hw⟩ := hw
      refine hv_cVL (rm := rm_X7_lowestOf) (As := [.int s0]) (rest := []) (k := 1) (ci := 7) hx hb hml hown hKK hH cf7 k9 (m_X7_lowestOf v0 s0 _ _ hw) cw_X7_387 ⟨Nat.le_of_ble_eq_true rfl, Nat.le_of_ble_eq_true rfl⟩ rfl hl.1 rfl (Nat.le_of_ble_eq_true rfl) ⟨Nat.le_of_ble_eq_true rfl, Nat.le_of_ble_eq_true rfl⟩ dX7_share_34 (fun r11 h10 H locs hH hw => ?_)
      exact hv_lret hx hb hr hlk hH hw dX7_share_37
  unfold w_X7_share at hw
  show W p l e rm_X7_share s m args below meth c H [] 0 0 (QL G B S sz below args s Q) (F0 m 0 ls [])
  generalize ([] : List Loc) = locs at hH ⊢
  refine lv_aload_n hx hb dX7_share_0 rfl (lv_at hl 0 rfl) ?_
  refine lv_iload_n hx hb dX7_share_1 rfl (lv_at hl 1 rfl) ?_
  obtain ⟨k1, hw⟩ := hw
  refine hv_cVI (rm := rm_X7_isHead) (As := [.int v1]) (rest := []) (k := 1) (ci := 7) hx hb hml hown hKK hH cf7 k1 (m_X7_isHead v0 v1 _ _ hw) cw_X7_89 ⟨Nat.le_of_ble_eq_true rfl, Nat.le_of_ble_eq_true rfl⟩ rfl hl.1 rfl (Nat.le_of_ble_eq_true rfl) ⟨Nat.le_of_ble_eq_true rfl, Nat.le_of_ble_eq_true rfl⟩ dX7_share_2 (fun r3 h2 H locs hH hw => ?_)
  refine lv_if_ne (tgt := 12) hx hb dX7_share_5 (by decide) (fun c4 => ?_) (fun c4 => ?_)
  · have hw := ite_f hw c4
    refine lv_iload_n hx hb dX7_share_12 rfl (lv_at hl 2 rfl) ?_
    refine lv_iconst (v := (nI 0)) hx hb dX7_share_13 (by decide) ?_
    refine lv_iconst (v := (nI 1)) hx hb dX7_share_14 (by decide) ?_
    refine hv_cSI (rm := rm_X7_isIn) (As := [.int v2, .int (nI 0), .int (nI 1)]) (rest := []) (k := 3) hx hb hml hown hKK hH (m_X7_isIn v2 (nI 0) (nI 1) _ _ hw) cw_X7_85 ⟨Nat.le_of_ble_eq_true rfl, Nat.le_of_ble_eq_true rfl⟩ rfl hl.1 rfl (Nat.le_of_ble_eq_true rfl) ⟨Nat.le_of_ble_eq_true rfl, Nat.le_of_ble_eq_true rfl⟩ dX7_share_15 (fun r6 h5 H locs hH hw => ?_)
    refine lv_if_ne (tgt := 26) hx hb dX7_share_18 (by decide) (fun c7 => ?_) (fun c7 => ?_)
    · have hw := ite_f hw c7
      refine lv_iconst (v := (nI 0)) hx hb dX7_share_26 (by decide) ?_
      exact c27 _ _ _ _ _ H locs ls hH (lv_sub hl [0, 1, 2] rfl) hw
    · have hw := ite_t hw c7
      refine lv_bipush (v := (-2)) hx hb dX7_share_21 (by decide) ?_
      refine lv_goto (tgt := 27) hx hb dX7_share_23 (by decide) ?_
      exact c27 _ _ _ _ _ H locs ls hH (lv_sub hl [0, 1, 2] rfl) hw
  · have hw := ite_t hw c4
    refine lv_iconst (v := (-1)) hx hb dX7_share_8 (by decide) ?_
    refine lv_goto (tgt := 27) hx hb dX7_share_9 (by decide) ?_
    exact c27 _ _ _ _ _ H locs ls hH (lv_sub hl [0, 1, 2] rfl) hw
abbrev rm_X7_far : Room := { frames := 1, cells := 0, slots := 0, locals := 21 }
set_option maxHeartbeats 4000000 in
set_option maxRecDepth 100000 in
theorem m_X7_far {l : Launch} {G : Gl} {B sz : Nat} {S : St} (v0 : Int32) (v1 : Int32) (h : Hp) (Q : Int32 → Hp → Prop) (hw : w_X7_far S v0 v1 h Q) : MI l G B sz S yX7_far cX7_far 2 .int rm_X7_far [.int v0, .int v1] h Q := by
  refine met_of rfl rfl ?_
  intro p e s m args below meth c hMB H ls hH hl
  obtain ⟨hx, hb, hml, hown, hKK, hr, hlk⟩ := hMB
  replace hl : lv_has ls 2 [(0, .int v0), (1, .int v1)] := hl
  unfold w_X7_far at hw
  show W p l e rm_X7_far s m args below meth c H [] 0 0 (QI G B S sz below args s Q) (F0 m 0 ls [])
  generalize ([] : List Loc) = locs at hH ⊢
  refine lv_iload_n hx hb dX7_far_0 rfl (lv_at hl 0 rfl) ?_
  refine lv_bipush (v := (nI 8)) hx hb dX7_far_1 (by decide) ?_
  refine lv_idiv hx hb dX7_far_3 (by decide) ?_
  refine lv_iload_n hx hb dX7_far_4 rfl (lv_at hl 1 rfl) ?_
  refine lv_bipush (v := (nI 8)) hx hb dX7_far_5 (by decide) ?_
  refine lv_idiv hx hb dX7_far_7 (by decide) ?_
  refine hv_cSI (rm := rm_X7_apart) (As := [.int (v0 / (nI 8)), .int (v1 / (nI 8))]) (rest := []) (k := 2) hx hb hml hown hKK hH (m_X7_apart (v0 / (nI 8)) (v1 / (nI 8)) _ _ hw) cw_X7_416 ⟨Nat.le_of_ble_eq_true rfl, Nat.le_of_ble_eq_true rfl⟩ rfl hl.1 rfl (Nat.le_of_ble_eq_true rfl) ⟨Nat.le_of_ble_eq_true rfl, Nat.le_of_ble_eq_true rfl⟩ dX7_far_8 (fun r2 h1 H locs hH hw => ?_)
  refine lv_iload_n hx hb dX7_far_11 rfl (lv_at hl 0 rfl) ?_
  refine lv_bipush (v := (nI 8)) hx hb dX7_far_12 (by decide) ?_
  refine lv_irem hx hb dX7_far_14 (by decide) ?_
  refine lv_iload_n hx hb dX7_far_15 rfl (lv_at hl 1 rfl) ?_
  refine lv_bipush (v := (nI 8)) hx hb dX7_far_16 (by decide) ?_
  refine lv_irem hx hb dX7_far_18 (by decide) ?_
  refine hv_cSI (rm := rm_X7_apart) (As := [.int (irem v0 (nI 8)), .int (irem v1 (nI 8))]) (rest := [.int r2]) (k := 2) hx hb hml hown hKK hH (m_X7_apart (irem v0 (nI 8)) (irem v1 (nI 8)) _ _ hw) cw_X7_416 ⟨Nat.le_of_ble_eq_true rfl, Nat.le_of_ble_eq_true rfl⟩ rfl hl.1 rfl (Nat.le_of_ble_eq_true rfl) ⟨Nat.le_of_ble_eq_true rfl, Nat.le_of_ble_eq_true rfl⟩ dX7_far_19 (fun r4 h3 H locs hH hw => ?_)
  refine lv_iadd hx hb dX7_far_22 ?_
  exact hv_iret hx hb hr hlk hH hw dX7_far_23
abbrev rm_X7_nearest : Room := { frames := 2, cells := 0, slots := 0, locals := 42 }
set_option maxHeartbeats 4000000 in
set_option maxRecDepth 100000 in
theorem m_X7_nearest {l : Launch} {G : Gl} {B sz : Nat} {S : St} (v0 : Nat) (v1 : Int32) (v2 : Int32) (h : Hp) (Q : Int32 → Hp → Prop) (hw : w_X7_nearest S v0 v1 v2 h Q) : MI l G B sz S yX7_nearest cX7_nearest 6 .int rm_X7_nearest [.ref v0, .int v1, .int v2] h Q := by
  refine met_of rfl rfl ?_
  intro p e s m args below meth c hMB H ls hH hl
  obtain ⟨hx, hb, hml, hown, hKK, hr, hlk⟩ := hMB
  replace hl : lv_has ls 6 [(0, .ref v0), (1, .int v1), (2, .int v2)] := hl
  have c44 : ∀  (v0 : Nat) (v1 : Int32) (v2 : Int32) (v4 : Int32) (v5 : Int32) (h : Hp) (H : Heap) (locs : List Loc) (ls : Array Slot), HH G B S h sz s H locs → lv_has ls 6 [(0, .ref v0), (1, .int v1), (2, .int v2), (4, .int v4), (5, .int v5)] → w_X7_nearest_c44 S v0 v1 v2 v4 v5 h Q → W p l e rm_X7_nearest s m args below meth c H locs 0 0 (QI G B S sz below args s Q) (F0 m 44 ls []) := by
    intro  v0 v1 v2 v4 v5 h H locs ls hH hl hw
    unfold w_X7_nearest_c44 at hw
    obtain ⟨P44, hP44⟩ : ∃ P : Int32 → Int32 → Hp → Prop, ∀ (v4 : Int32) (v5 : Int32) (h : Hp), P v4 v5 h ↔ (∀ (H : Heap) (locs : List Loc) (ls : Array Slot), HH G B S h sz s H locs → lv_has ls 6 [(0, .ref v0), (1, .int v1), (2, .int v2), (4, .int v4), (5, .int v5)] → W p l e rm_X7_nearest s m args below meth c H locs 0 0 (QI G B S sz below args s Q) (F0 m 44 ls [])) := ⟨_, fun v4 v5 h => Iff.rfl⟩
    refine (hP44 v4 v5 h).1 (hw P44 (fun v4 v5 h hw => (hP44 v4 v5 h).2 (fun H locs ls hH hl => ?_))) H locs ls hH hl
    have hK44 : ∀ (v4 : Int32) (v5 : Int32) (h : Hp) (H : Heap) (locs : List Loc) (ls : Array Slot), HH G B S h sz s H locs → lv_has ls 6 [(0, .ref v0), (1, .int v1), (2, .int v2), (4, .int v4), (5, .int v5)] → P44 v4 v5 h → W p l e rm_X7_nearest s m args below meth c H locs 0 0 (QI G B S sz below args s Q) (F0 m 44 ls []) := fun v4 v5 h H locs ls hH hl hk => (hP44 v4 v5 h).1 hk H locs ls hH hl
    refine lv_iload hx hb dX7_nearest_44 (lv_at hl 4 rfl) ?_
    refine lv_aload_n hx hb dX7_nearest_46 rfl (lv_at hl 0 rfl) ?_
    obtain ⟨k1, hw⟩ := hw
    refine hv_get (ci := 7) (k := 13) (v := .int (h v0 13)) hx hb hown hKK hH cf7 (by decide) fl_X7_79 rfl k1 rfl dX7_nearest_47 ?_
    refine lv_icmp_ge (tgt := 93) hx hb dX7_nearest_50 (by decide) (fun c2 => ?_) (fun c2 => ?_)
    · have hw := ite_t hw c2
      refine lv_iload hx hb dX7_nearest_93 (lv_at hl 3 rfl) ?_
      refine lv_if_ge (tgt := 103) hx hb dX7_nearest_95 (by decide) (fun c3 => ?_) (fun c3 => ?_)
      · have hw := ite_t hw c3
        refine lv_iload_n hx hb dX7_nearest_103 rfl (lv_at hl 2 rfl) ?_
        refine lv_if_ne (tgt := 112) hx hb dX7_nearest_104 (by decide) (fun c4 => ?_) (fun c4 => ?_)
        · have hw := ite_f hw c4
          refine lv_aload_n hx hb dX7_nearest_112 rfl (lv_at hl 0 rfl) ?_
          refine hv_get (ci := 7) (k := 6) (v := .ref (S.2 v0 6)) hx hb hown hKK hH cf7 (by decide) fl_X7_28 rfl k1 rfl dX7_nearest_113 ?_
          refine lv_iload hx hb dX7_nearest_116 (lv_at hl 3 rfl) ?_
          obtain ⟨k5, hw⟩ := hw
          refine hv_iald hx hb hKK hH k5 dX7_nearest_118 ?_
          refine lv_iload_n hx hb dX7_nearest_119 rfl (lv_at hl 1 rfl) ?_
          refine hv_cSI (rm := rm_X7_far) (As := [.int (h (S.2 v0 6) (ix v4)), .int v1]) (rest := []) (k := 2) hx hb hml hown hKK hH (m_X7_far (h (S.2 v0 6) (ix v4)) v1 _ _ hw) cw_X7_419 ⟨Nat.le_of_ble_eq_true rfl, Nat.le_of_ble_eq_true rfl⟩ rfl hl.1 rfl (Nat.le_of_ble_eq_true rfl) ⟨Nat.le_of_ble_eq_true rfl, Nat.le_of_ble_eq_true rfl⟩ dX7_nearest_120 (fun r7 h6 H locs hH hw => ?_)
          exact hv_iret hx hb hr hlk hH hw dX7_nearest_123
        · have hw := ite_t hw c4
          refine lv_iload hx hb dX7_nearest_107 (lv_at hl 3 rfl) ?_
          refine lv_goto (tgt := 123) hx hb dX7_nearest_109 (by decide) ?_
          exact hv_iret hx hb hr hlk hH hw dX7_nearest_123
      · have hw := ite_f hw c3
        refine lv_bipush (v := (-9)) hx hb dX7_nearest_98 (by decide) ?_
        refine lv_goto (tgt := 123) hx hb dX7_nearest_100 (by decide) ?_
        exact hv_iret hx hb hr hlk hH hw dX7_nearest_123
    · have hw := ite_f hw c2
      refine lv_iload hx hb dX7_nearest_53 (lv_at hl 3 rfl) ?_
      refine lv_if_lt (tgt := 83) hx hb dX7_nearest_55 (by decide) (fun c8 => ?_) (fun c8 => ?_)
      · have hw := ite_t hw c8
        refine lv_iload hx hb dX7_nearest_83 (lv_at hl 4 rfl) ?_
        refine lv_istore (lv' := [(4, .int v5), (0, .ref v0), (1, .int v1), (2, .int v2), (5, .int v5)]) hx hb dX7_nearest_85 hl (by decide) rfl (fun ls hl => ?_)
        refine lv_iinc (v := v5 + (nI 1)) (lv' := [(5, .int (v5 + (nI 1))), (4, .int v5), (0, .ref v0), (1, .int v1), (2, .int v2)]) hx hb dX7_nearest_87 hl (k := 4) rfl rfl (by decide) rfl (fun ls hl => ?_)
        refine lv_goto (tgt := 44) hx hb dX7_nearest_90 (by decide) ?_
        exact hK44 _ _ _ H locs ls hH (lv_sub hl [2, 3, 4, 1, 0] rfl) hw
      · have hw := ite_f hw c8
        refine lv_aload_n hx hb dX7_nearest_58 rfl (lv_at hl 0 rfl) ?_
        refine hv_get (ci := 7) (k := 6) (v := .ref (S.2 v0 6)) hx hb hown hKK hH cf7 (by decide) fl_X7_28 rfl k1 rfl dX7_nearest_59 ?_
        refine lv_iload hx hb dX7_nearest_62 (lv_at hl 4 rfl) ?_
        obtain ⟨k9, hw⟩ := hw
        refine hv_iald hx hb hKK hH k9 dX7_nearest_64 ?_
        refine lv_iload_n hx hb dX7_nearest_65 rfl (lv_at hl 1 rfl) ?_
        refine hv_cSI (rm := rm_X7_far) (As := [.int (h (S.2 v0 6) (ix v5)), .int v1]) (rest := []) (k := 2) hx hb hml hown hKK hH (m_X7_far (h (S.2 v0 6) (ix v5)) v1 _ _ hw) cw_X7_419 ⟨Nat.le_of_ble_eq_true rfl, Nat.le_of_ble_eq_true rfl⟩ rfl hl.1 rfl (Nat.le_of_ble_eq_true rfl) ⟨Nat.le_of_ble_eq_true rfl, Nat.le_of_ble_eq_true rfl⟩ dX7_nearest_66 (fun r11 h10 H locs hH hw => ?_)
        refine lv_aload_n hx hb dX7_nearest_69 rfl (lv_at hl 0 rfl) ?_
        refine hv_get (ci := 7) (k := 6) (v := .ref (S.2 v0 6)) hx hb hown hKK hH cf7 (by decide) fl_X7_28 rfl k1 rfl dX7_nearest_70 ?_
        refine lv_iload hx hb dX7_nearest_73 (lv_at hl 3 rfl) ?_
        obtain ⟨k12, hw⟩ := hw
        refine hv_iald hx hb hKK hH k12 dX7_nearest_75 ?_
        refine lv_iload_n hx hb dX7_nearest_76 rfl (lv_at hl 1 rfl) ?_
        refine hv_cSI (rm := rm_X7_far) (As := [.int (h10 (S.2 v0 6) (ix v4)), .int v1]) (rest := [.int r11]) (k := 2) hx hb hml hown hKK hH (m_X7_far (h10 (S.2 v0 6) (ix v4)) v1 _ _ hw) cw_X7_419 ⟨Nat.le_of_ble_eq_true rfl, Nat.le_of_ble_eq_true rfl⟩ rfl hl.1 rfl (Nat.le_of_ble_eq_true rfl) ⟨Nat.le_of_ble_eq_true rfl, Nat.le_of_ble_eq_true rfl⟩ dX7_nearest_77 (fun r14 h13 H locs hH hw => ?_)
        refine lv_icmp_ge (tgt := 87) hx hb dX7_nearest_80 (by decide) (fun c15 => ?_) (fun c15 => ?_)
        · have hw := ite_t hw c15
          refine lv_iinc (v := v5 + (nI 1)) (lv' := [(5, .int (v5 + (nI 1))), (0, .ref v0), (1, .int v1), (2, .int v2), (4, .int v4)]) hx hb dX7_nearest_87 hl (k := 4) rfl rfl (by decide) rfl (fun ls hl => ?_)
          refine lv_goto (tgt := 44) hx hb dX7_nearest_90 (by decide) ?_
          exact hK44 _ _ _ H locs ls hH (lv_sub hl [1, 2, 3, 4, 0] rfl) hw
        · have hw := ite_f hw c15
          refine lv_iload hx hb dX7_nearest_83 (lv_at hl 4 rfl) ?_
          refine lv_istore (lv' := [(4, .int v5), (0, .ref v0), (1, .int v1), (2, .int v2), (5, .int v5)]) hx hb dX7_nearest_85 hl (by decide) rfl (fun ls hl => ?_)
          refine lv_iinc (v := v5 + (nI 1)) (lv' := [(5, .int (v5 + (nI 1))), (4, .int v5), (0, .ref v0), (1, .int v1), (2, .int v2)]) hx hb dX7_nearest_87 hl (k := 4) rfl rfl (by decide) rfl (fun ls hl => ?_)
          refine lv_goto (tgt := 44) hx hb dX7_nearest_90 (by decide) ?_
          exact hK44 _ _ _ H locs ls hH (lv_sub hl [2, 3, 4, 1, 0] rfl) hw
  unfold w_X7_nearest at hw
  show W p l e rm_X7_nearest s m args below meth c H [] 0 0 (QI G B S sz below args s Q) (F0 m 0 ls [])
  generalize ([] : List Loc) = locs at hH ⊢
  refine lv_iload_n hx hb dX7_nearest_0 rfl (lv_at hl 1 rfl) ?_
  refine hv_cSI (rm := rm_X7_isField) (As := [.int v1]) (rest := []) (k := 1) hx hb hml hown hKK hH (m_X7_isField v1 _ _ hw) cw_X7_244 ⟨Nat.le_of_ble_eq_true rfl, Nat.le_of_ble_eq_true rfl⟩ rfl hl.1 rfl (Nat.le_of_ble_eq_true rfl) ⟨Nat.le_of_ble_eq_true rfl, Nat.le_of_ble_eq_true rfl⟩ dX7_nearest_1 (fun r2 h1 H locs hH hw => ?_)
  refine lv_if_ne (tgt := 11) hx hb dX7_nearest_4 (by decide) (fun c3 => ?_) (fun c3 => ?_)
  · have hw := ite_f hw c3
    refine lv_iload_n hx hb dX7_nearest_11 rfl (lv_at hl 2 rfl) ?_
    refine lv_iconst (v := (nI 0)) hx hb dX7_nearest_12 (by decide) ?_
    refine lv_iconst (v := (nI 1)) hx hb dX7_nearest_13 (by decide) ?_
    refine hv_cSI (rm := rm_X7_isIn) (As := [.int v2, .int (nI 0), .int (nI 1)]) (rest := []) (k := 3) hx hb hml hown hKK hH (m_X7_isIn v2 (nI 0) (nI 1) _ _ hw) cw_X7_85 ⟨Nat.le_of_ble_eq_true rfl, Nat.le_of_ble_eq_true rfl⟩ rfl hl.1 rfl (Nat.le_of_ble_eq_true rfl) ⟨Nat.le_of_ble_eq_true rfl, Nat.le_of_ble_eq_true rfl⟩ dX7_nearest_14 (fun r8 h7 H locs hH hw => ?_)
    refine lv_if_ne (tgt := 25) hx hb dX7_nearest_17 (by decide) (fun c9 => ?_) (fun c9 => ?_)
    · have hw := ite_f hw c9
      refine lv_iconst (v := (nI 0)) hx hb dX7_nearest_25 (by decide) ?_
      refine lv_istore_n (lv' := [(3, .int (nI 0)), (0, .ref v0), (1, .int v1), (2, .int v2)]) hx hb dX7_nearest_26 rfl hl (by decide) rfl (fun ls hl => ?_)
      refine lv_iload_n hx hb dX7_nearest_27 rfl (lv_at hl 0 rfl) ?_
      refine lv_if_eq (tgt := 37) hx hb dX7_nearest_28 (by decide) (fun _ => ?_) (fun c => absurd (by decide) c)
      refine lv_bipush (v := (-9)) hx hb dX7_nearest_37 (by decide) ?_
      refine lv_istore (lv' := [(4, .int (-9)), (3, .int (nI 0)), (0, .ref v0), (1, .int v1), (2, .int v2)]) hx hb dX7_nearest_39 hl (by decide) rfl (fun ls hl => ?_)
      refine lv_iconst (v := (nI 0)) hx hb dX7_nearest_41 (by decide) ?_
      refine lv_istore (lv' := [(5, .int (nI 0)), (4, .int (-9)), (3, .int (nI 0)), (0, .ref v0), (1, .int v1), (2, .int v2)]) hx hb dX7_nearest_42 hl (by decide) rfl (fun ls hl => ?_)
      exact c44 _ _ _ _ _ _ H locs ls hH (lv_sub hl [3, 4, 5, 1, 0] rfl) hw
    · have hw := ite_t hw c9
      refine lv_bipush (v := (-2)) hx hb dX7_nearest_20 (by decide) ?_
      refine lv_goto (tgt := 26) hx hb dX7_nearest_22 (by decide) ?_
      refine lv_istore_n (lv' := [(3, .int (-2)), (0, .ref v0), (1, .int v1), (2, .int v2)]) hx hb dX7_nearest_26 rfl hl (by decide) rfl (fun ls hl => ?_)
      refine lv_iload_n hx hb dX7_nearest_27 rfl (lv_at hl 0 rfl) ?_
      refine lv_if_eq (tgt := 37) hx hb dX7_nearest_28 (by decide) (fun c => absurd c (by decide)) (fun _ => ?_)
      refine lv_aload_n hx hb dX7_nearest_31 rfl (lv_at hl 1 rfl) ?_
      refine lv_iload_n hx hb dX7_nearest_32 rfl (lv_at hl 0 rfl) ?_
      obtain ⟨k10, hw⟩ := hw
      refine hv_cVI (rm := rm_X7_no) (As := [.int (-2)]) (rest := []) (k := 1) (ci := 7) hx hb hml hown hKK hH cf7 k10 (m_X7_no v0 (-2) _ _ hw) cw_X7_170 ⟨Nat.le_of_ble_eq_true rfl, Nat.le_of_ble_eq_true rfl⟩ rfl hl.1 rfl (Nat.le_of_ble_eq_true rfl) ⟨Nat.le_of_ble_eq_true rfl, Nat.le_of_ble_eq_true rfl⟩ dX7_nearest_33 (fun r12 h11 H locs hH hw => ?_)
      exact hv_iret hx hb hr hlk hH hw dX7_nearest_36
  · have hw := ite_t hw c3
    refine lv_iconst (v := (-1)) hx hb dX7_nearest_7 (by decide) ?_
    refine lv_goto (tgt := 26) hx hb dX7_nearest_8 (by decide) ?_
    refine lv_istore_n (lv' := [(3, .int (-1)), (0, .ref v0), (1, .int v1), (2, .int v2)]) hx hb dX7_nearest_26 rfl hl (by decide) rfl (fun ls hl => ?_)
    refine lv_iload_n hx hb dX7_nearest_27 rfl (lv_at hl 0 rfl) ?_
    refine lv_if_eq (tgt := 37) hx hb dX7_nearest_28 (by decide) (fun c => absurd c (by decide)) (fun _ => ?_)
    refine lv_aload_n hx hb dX7_nearest_31 rfl (lv_at hl 1 rfl) ?_
    refine lv_iload_n hx hb dX7_nearest_32 rfl (lv_at hl 0 rfl) ?_
    obtain ⟨k4, hw⟩ := hw
    refine hv_cVI (rm := rm_X7_no) (As := [.int (-1)]) (rest := []) (k := 1) (ci := 7) hx hb hml hown hKK hH cf7 k4 (m_X7_no v0 (-1) _ _ hw) cw_X7_170 ⟨Nat.le_of_ble_eq_true rfl, Nat.le_of_ble_eq_true rfl⟩ rfl hl.1 rfl (Nat.le_of_ble_eq_true rfl) ⟨Nat.le_of_ble_eq_true rfl, Nat.le_of_ble_eq_true rfl⟩ dX7_nearest_33 (fun r6 h5 H locs hH hw => ?_)
    exact hv_iret hx hb hr hlk hH hw dX7_nearest_36
abbrev rm_X7_goesFurther : Room := { frames := 1, cells := 0, slots := 0, locals := 21 }
set_option maxHeartbeats 4000000 in
set_option maxRecDepth 100000 in
theorem m_X7_goesFurther {l : Launch} {G : Gl} {B sz : Nat} {S : St} (v0 : Nat) (v1 : Int32) (h : Hp) (Q : Int32 → Hp → Prop) (hw : w_X7_goesFurther S v0 v1 h Q) : MI l G B sz S yX7_goesFurther cX7_goesFurther 6 .boolean rm_X7_goesFurther [.ref v0, .int v1] h Q := by
  refine met_of rfl rfl ?_
  intro p e s m args below meth c hMB H ls hH hl
  obtain ⟨hx, hb, hml, hown, hKK, hr, hlk⟩ := hMB
  replace hl : lv_has ls 6 [(0, .ref v0), (1, .int v1)] := hl
  have c13 : ∀ (v0 : Nat) (v1 : Int32) (P4 : Int32 → Int32 → Hp → Prop) (_ : ∀ (v2 : Int32) (v3 : Int32) (h : Hp) (H : Heap) (locs : List Loc) (ls : Array Slot), HH G B S h sz s H locs → lv_has ls 6 [(0, .ref v0), (1, .int v1), (2, .int v2), (3, .int v3)] → P4 v2 v3 h → W p l e rm_X7_goesFurther s m args below meth c H locs 0 0 (QI G B S sz below args s Q) (F0 m 4 ls [])) (v3 : Int32) (v2 : Int32) (v4 : Int32) (h : Hp) (H : Heap) (locs : List Loc) (ls : Array Slot), HH G B S h sz s H locs → lv_has ls 6 [(0, .ref v0), (1, .int v1), (2, .int v2), (3, .int v3), (4, .int v4)] → w_X7_goesFurther_c13 S v0 v1 v3 v2 v4 h Q P4 → W p l e rm_X7_goesFurther s m args below meth c H locs 0 0 (QI G B S sz below args s Q) (F0 m 13 ls []) := by
    intro v0 v1 P4 hK4 v3 v2 v4 h H locs ls hH hl hw
    unfold w_X7_goesFurther_c13 at hw
    obtain ⟨P13, hP13⟩ : ∃ P : Int32 → Int32 → Hp → Prop, ∀ (v2 : Int32) (v4 : Int32) (h : Hp), P v2 v4 h ↔ (∀ (H : Heap) (locs : List Loc) (ls : Array Slot), HH G B S h sz s H locs → lv_has ls 6 [(0, .ref v0), (1, .int v1), (2, .int v2), (3, .int v3), (4, .int v4)] → W p l e rm_X7_goesFurther s m args below meth c H locs 0 0 (QI G B S sz below args s Q) (F0 m 13 ls [])) := ⟨_, fun v2 v4 h => Iff.rfl⟩
    refine (hP13 v2 v4 h).1 (hw P13 (fun v2 v4 h hw => (hP13 v2 v4 h).2 (fun H locs ls hH hl => ?_))) H locs ls hH hl
    have hK13 : ∀ (v2 : Int32) (v4 : Int32) (h : Hp) (H : Heap) (locs : List Loc) (ls : Array Slot), HH G B S h sz s H locs → lv_has ls 6 [(0, .ref v0), (1, .int v1), (2, .int v2), (3, .int v3), (4, .int v4)] → P13 v2 v4 h → W p l e rm_X7_goesFurther s m args below meth c H locs 0 0 (QI G B S sz below args s Q) (F0 m 13 ls []) := fun v2 v4 h H locs ls hH hl hk => (hP13 v2 v4 h).1 hk H locs ls hH hl
    refine lv_iload hx hb dX7_goesFurther_13 (lv_at hl 4 rfl) ?_
    refine lv_iconst (v := (nI 4)) hx hb dX7_goesFurther_15 (by decide) ?_
    refine lv_icmp_ge (tgt := 83) hx hb dX7_goesFurther_16 (by decide) (fun c1 => ?_) (fun c1 => ?_)
    · have hw := ite_t hw c1
      refine lv_iinc (v := v3 + (nI 1)) (lv' := [(3, .int (v3 + (nI 1))), (0, .ref v0), (1, .int v1), (2, .int v2), (4, .int v4)]) hx hb dX7_goesFurther_83 hl (k := 3) rfl rfl (by decide) rfl (fun ls hl => ?_)
      refine lv_goto (tgt := 4) hx hb dX7_goesFurther_86 (by decide) ?_
      exact hK4 _ _ _ H locs ls hH (lv_sub hl [1, 2, 3, 0] rfl) hw
    · have hw := ite_f hw c1
      refine lv_aload_n hx hb dX7_goesFurther_19 rfl (lv_at hl 0 rfl) ?_
      obtain ⟨k2, hw⟩ := hw
      refine hv_get (ci := 7) (k := 34) (v := .ref (S.2 v0 34)) hx hb hown hKK hH cf7 (by decide) fl_X7_76 rfl k2 rfl dX7_goesFurther_20 ?_
      refine lv_iload_n hx hb dX7_goesFurther_23 rfl (lv_at hl 3 rfl) ?_
      obtain ⟨k3, hw⟩ := hw
      refine hv_iald hx hb hKK hH k3 dX7_goesFurther_24 ?_
      refine lv_iload_n hx hb dX7_goesFurther_25 rfl (lv_at hl 1 rfl) ?_
      refine lv_icmp_ne (tgt := 83) hx hb dX7_goesFurther_26 (by decide) (fun c4 => ?_) (fun c4 => ?_)
      · have hw := ite_f hw c4
        refine lv_iinc (v := v3 + (nI 1)) (lv' := [(3, .int (v3 + (nI 1))), (0, .ref v0), (1, .int v1), (2, .int v2), (4, .int v4)]) hx hb dX7_goesFurther_83 hl (k := 3) rfl rfl (by decide) rfl (fun ls hl => ?_)
        refine lv_goto (tgt := 4) hx hb dX7_goesFurther_86 (by decide) ?_
        exact hK4 _ _ _ H locs ls hH (lv_sub hl [1, 2, 3, 0] rfl) hw
      · have hw := ite_t hw c4
        refine lv_iload_n hx hb dX7_goesFurther_29 rfl (lv_at hl 3 rfl) ?_
        refine lv_iload hx hb dX7_goesFurther_30 (lv_at hl 4 rfl) ?_
        refine hv_cSI (rm := rm_X7_beside) (As := [.int v3, .int v4]) (rest := []) (k := 2) hx hb hml hown hKK hH (m_X7_beside v3 v4 _ _ hw) cw_X7_100 ⟨Nat.le_of_ble_eq_true rfl, Nat.le_of_ble_eq_true rfl⟩ rfl hl.1 rfl (Nat.le_of_ble_eq_true rfl) ⟨Nat.le_of_ble_eq_true rfl, Nat.le_of_ble_eq_true rfl⟩ dX7_goesFurther_32 (fun r6 h5 H locs hH hw => ?_)
        refine lv_istore (lv' := [(5, .int r6), (0, .ref v0), (1, .int v1), (2, .int v2), (3, .int v3), (4, .int v4)]) hx hb dX7_goesFurther_35 hl (by decide) rfl (fun ls hl => ?_)
        refine lv_iload hx hb dX7_goesFurther_37 (lv_at hl 0 rfl) ?_
        refine lv_if_lt (tgt := 77) hx hb dX7_goesFurther_39 (by decide) (fun c7 => ?_) (fun c7 => ?_)
        · have hw := ite_t hw c7
          refine lv_iinc (v := v4 + (nI 1)) (lv' := [(4, .int (v4 + (nI 1))), (5, .int r6), (0, .ref v0), (1, .int v1), (2, .int v2), (3, .int v3)]) hx hb dX7_goesFurther_77 hl (k := 5) rfl rfl (by decide) rfl (fun ls hl => ?_)
          refine lv_goto (tgt := 13) hx hb dX7_goesFurther_80 (by decide) ?_
          exact hK13 _ _ _ H locs ls hH (lv_sub hl [2, 3, 4, 5, 0] rfl) hw
        · have hw := ite_f hw c7
          refine lv_aload_n hx hb dX7_goesFurther_42 rfl (lv_at hl 1 rfl) ?_
          refine hv_get (ci := 7) (k := 34) (v := .ref (S.2 v0 34)) hx hb hown hKK hH cf7 (by decide) fl_X7_76 rfl k2 rfl dX7_goesFurther_43 ?_
          refine lv_iload hx hb dX7_goesFurther_46 (lv_at hl 0 rfl) ?_
          obtain ⟨k8, hw⟩ := hw
          refine hv_iald hx hb hKK hH k8 dX7_goesFurther_48 ?_
          refine lv_if_ge (tgt := 77) hx hb dX7_goesFurther_49 (by decide) (fun c9 => ?_) (fun c9 => ?_)
          · have hw := ite_t hw c9
            refine lv_iinc (v := v4 + (nI 1)) (lv' := [(4, .int (v4 + (nI 1))), (5, .int r6), (0, .ref v0), (1, .int v1), (2, .int v2), (3, .int v3)]) hx hb dX7_goesFurther_77 hl (k := 5) rfl rfl (by decide) rfl (fun ls hl => ?_)
            refine lv_goto (tgt := 13) hx hb dX7_goesFurther_80 (by decide) ?_
            exact hK13 _ _ _ H locs ls hH (lv_sub hl [2, 3, 4, 5, 0] rfl) hw
          · have hw := ite_f hw c9
            refine lv_aload_n hx hb dX7_goesFurther_52 rfl (lv_at hl 1 rfl) ?_
            refine hv_get (ci := 7) (k := 1) (v := .ref (S.2 v0 1)) hx hb hown hKK hH cf7 (by decide) fl_X7_13 rfl k2 rfl dX7_goesFurther_53 ?_
            refine lv_iload hx hb dX7_goesFurther_56 (lv_at hl 0 rfl) ?_
            obtain ⟨k10, hw⟩ := hw
            refine hv_iald hx hb hKK hH k10 dX7_goesFurther_58 ?_
            refine lv_if_le (tgt := 65) hx hb dX7_goesFurther_59 (by decide) (fun c11 => ?_) (fun c11 => ?_)
            · have hw := ite_t hw c11
              refine lv_aload_n hx hb dX7_goesFurther_65 rfl (lv_at hl 1 rfl) ?_
              refine hv_get (ci := 7) (k := 34) (v := .ref (S.2 v0 34)) hx hb hown hKK hH cf7 (by decide) fl_X7_76 rfl k2 rfl dX7_goesFurther_66 ?_
              refine lv_iload hx hb dX7_goesFurther_69 (lv_at hl 0 rfl) ?_
              refine lv_iload_n hx hb dX7_goesFurther_71 rfl (lv_at hl 2 rfl) ?_
              refine lv_iconst (v := (nI 1)) hx hb dX7_goesFurther_72 (by decide) ?_
              refine lv_iadd hx hb dX7_goesFurther_73 ?_
              refine hv_iast hx hb hKK hH k8 dX7_goesFurther_74 (fun H locs hH => ?_)
              refine lv_iconst (v := (nI 1)) hx hb dX7_goesFurther_75 (by decide) ?_
              refine lv_istore_n (lv' := [(2, .int (nI 1)), (5, .int r6), (0, .ref v0), (1, .int v1), (3, .int v3), (4, .int v4)]) hx hb dX7_goesFurther_76 rfl hl (by decide) rfl (fun ls hl => ?_)
              refine lv_iinc (v := v4 + (nI 1)) (lv' := [(4, .int (v4 + (nI 1))), (2, .int (nI 1)), (5, .int r6), (0, .ref v0), (1, .int v1), (3, .int v3)]) hx hb dX7_goesFurther_77 hl (k := 5) rfl rfl (by decide) rfl (fun ls hl => ?_)
              refine lv_goto (tgt := 13) hx hb dX7_goesFurther_80 (by decide) ?_
              exact hK13 _ _ _ H locs ls hH (lv_sub hl [3, 4, 1, 5, 0] rfl) hw
            · have hw := ite_f hw c11
              refine lv_goto (tgt := 77) hx hb dX7_goesFurther_62 (by decide) ?_
              refine lv_iinc (v := v4 + (nI 1)) (lv' := [(4, .int (v4 + (nI 1))), (5, .int r6), (0, .ref v0), (1, .int v1), (2, .int v2), (3, .int v3)]) hx hb dX7_goesFurther_77 hl (k := 5) rfl rfl (by decide) rfl (fun ls hl => ?_)
              refine lv_goto (tgt := 13) hx hb dX7_goesFurther_80 (by decide) ?_
              exact hK13 _ _ _ H locs ls hH (lv_sub hl [2, 3, 4, 5, 0] rfl) hw
  have c4 : ∀  (v0 : Nat) (v1 : Int32) (v2 : Int32) (v3 : Int32) (h : Hp) (H : Heap) (locs : List Loc) (ls : Array Slot), HH G B S h sz s H locs → lv_has ls 6 [(0, .ref v0), (1, .int v1), (2, .int v2), (3, .int v3)] → w_X7_goesFurther_c4 S v0 v1 v2 v3 h Q → W p l e rm_X7_goesFurther s m args below meth c H locs 0 0 (QI G B S sz below args s Q) (F0 m 4 ls []) := by
    intro  v0 v1 v2 v3 h H locs ls hH hl hw
    unfold w_X7_goesFurther_c4 at hw
    obtain ⟨P4, hP4⟩ : ∃ P : Int32 → Int32 → Hp → Prop, ∀ (v2 : Int32) (v3 : Int32) (h : Hp), P v2 v3 h ↔ (∀ (H : Heap) (locs : List Loc) (ls : Array Slot), HH G B S h sz s H locs → lv_has ls 6 [(0, .ref v0), (1, .int v1), (2, .int v2), (3, .int v3)] → W p l e rm_X7_goesFurther s m args below meth c H locs 0 0 (QI G B S sz below args s Q) (F0 m 4 ls [])) := ⟨_, fun v2 v3 h => Iff.rfl⟩
    refine (hP4 v2 v3 h).1 (hw P4 (fun v2 v3 h hw => (hP4 v2 v3 h).2 (fun H locs ls hH hl => ?_))) H locs ls hH hl
    have hK4 : ∀ (v2 : Int32) (v3 : Int32) (h : Hp) (H : Heap) (locs : List Loc) (ls : Array Slot), HH G B S h sz s H locs → lv_has ls 6 [(0, .ref v0), (1, .int v1), (2, .int v2), (3, .int v3)] → P4 v2 v3 h → W p l e rm_X7_goesFurther s m args below meth c H locs 0 0 (QI G B S sz below args s Q) (F0 m 4 ls []) := fun v2 v3 h H locs ls hH hl hk => (hP4 v2 v3 h).1 hk H locs ls hH hl
    refine lv_iload_n hx hb dX7_goesFurther_4 rfl (lv_at hl 3 rfl) ?_
    refine lv_bipush (v := (nI 48)) hx hb dX7_goesFurther_5 (by decide) ?_
    refine lv_icmp_ge (tgt := 89) hx hb dX7_goesFurther_7 (by decide) (fun c1 => ?_) (fun c1 => ?_)
    · have hw := ite_t hw c1
      refine lv_iload_n hx hb dX7_goesFurther_89 rfl (lv_at hl 2 rfl) ?_
      obtain ⟨k2, hw⟩ := hw
      exact hv_zret hx hb hr hlk hH k2 hw dX7_goesFurther_90
    · have hw := ite_f hw c1
      refine lv_iconst (v := (nI 0)) hx hb dX7_goesFurther_10 (by decide) ?_
      refine lv_istore (lv' := [(4, .int (nI 0)), (0, .ref v0), (1, .int v1), (2, .int v2), (3, .int v3)]) hx hb dX7_goesFurther_11 hl (by decide) rfl (fun ls hl => ?_)
      exact c13 _ _ _ hK4 _ _ _ _ H locs ls hH (lv_sub hl [1, 2, 3, 4, 0] rfl) hw
  unfold w_X7_goesFurther at hw
  show W p l e rm_X7_goesFurther s m args below meth c H [] 0 0 (QI G B S sz below args s Q) (F0 m 0 ls [])
  generalize ([] : List Loc) = locs at hH ⊢
  refine lv_iconst (v := (nI 0)) hx hb dX7_goesFurther_0 (by decide) ?_
  refine lv_istore_n (lv' := [(2, .int (nI 0)), (0, .ref v0), (1, .int v1)]) hx hb dX7_goesFurther_1 rfl hl (by decide) rfl (fun ls hl => ?_)
  refine lv_iconst (v := (nI 0)) hx hb dX7_goesFurther_2 (by decide) ?_
  refine lv_istore_n (lv' := [(3, .int (nI 0)), (2, .int (nI 0)), (0, .ref v0), (1, .int v1)]) hx hb dX7_goesFurther_3 rfl hl (by decide) rfl (fun ls hl => ?_)
  exact c4 _ _ _ _ _ H locs ls hH (lv_sub hl [2, 3, 1, 0] rfl) hw
abbrev rm_X7_way : Room := { frames := 2, cells := 0, slots := 0, locals := 46 }
set_option maxHeartbeats 4000000 in
set_option maxRecDepth 100000 in
theorem m_X7_way {l : Launch} {G : Gl} {B sz : Nat} {S : St} (v0 : Nat) (v1 : Int32) (v2 : Int32) (h : Hp) (Q : Int32 → Hp → Prop) (hw : w_X7_way S v0 v1 v2 h Q) : MI l G B sz S yX7_way cX7_way 4 .int rm_X7_way [.ref v0, .int v1, .int v2] h Q := by
  refine met_of rfl rfl ?_
  intro p e s m args below meth c hMB H ls hH hl
  obtain ⟨hx, hb, hml, hown, hKK, hr, hlk⟩ := hMB
  replace hl : lv_has ls 4 [(0, .ref v0), (1, .int v1), (2, .int v2)] := hl
  have c51 : ∀  (v0 : Nat) (v2 : Int32) (v3 : Int32) (h : Hp) (H : Heap) (locs : List Loc) (ls : Array Slot), HH G B S h sz s H locs → lv_has ls 4 [(0, .ref v0), (2, .int v2), (3, .int v3)] → w_X7_way_c51 S v0 v2 v3 h Q → W p l e rm_X7_way s m args below meth c H locs 0 0 (QI G B S sz below args s Q) (F0 m 51 ls []) := by
    intro  v0 v2 v3 h H locs ls hH hl hw
    unfold w_X7_way_c51 at hw
    obtain ⟨P51, hP51⟩ : ∃ P : Int32 → Hp → Prop, ∀ (v3 : Int32) (h : Hp), P v3 h ↔ (∀ (H : Heap) (locs : List Loc) (ls : Array Slot), HH G B S h sz s H locs → lv_has ls 4 [(0, .ref v0), (2, .int v2), (3, .int v3)] → W p l e rm_X7_way s m args below meth c H locs 0 0 (QI G B S sz below args s Q) (F0 m 51 ls [])) := ⟨_, fun v3 h => Iff.rfl⟩
    refine (hP51 v3 h).1 (hw P51 (fun v3 h hw => (hP51 v3 h).2 (fun H locs ls hH hl => ?_))) H locs ls hH hl
    have hK51 : ∀ (v3 : Int32) (h : Hp) (H : Heap) (locs : List Loc) (ls : Array Slot), HH G B S h sz s H locs → lv_has ls 4 [(0, .ref v0), (2, .int v2), (3, .int v3)] → P51 v3 h → W p l e rm_X7_way s m args below meth c H locs 0 0 (QI G B S sz below args s Q) (F0 m 51 ls []) := fun v3 h H locs ls hH hl hk => (hP51 v3 h).1 hk H locs ls hH hl
    refine lv_aload_n hx hb dX7_way_51 rfl (lv_at hl 0 rfl) ?_
    refine lv_iload_n hx hb dX7_way_52 rfl (lv_at hl 2 rfl) ?_
    obtain ⟨k1, hw⟩ := hw
    refine hv_cVI (rm := rm_X7_goesFurther) (As := [.int v3]) (rest := []) (k := 1) (ci := 7) hx hb hml hown hKK hH cf7 k1 (m_X7_goesFurther v0 v3 _ _ hw) cw_X7_422 ⟨Nat.le_of_ble_eq_true rfl, Nat.le_of_ble_eq_true rfl⟩ rfl hl.1 rfl (Nat.le_of_ble_eq_true rfl) ⟨Nat.le_of_ble_eq_true rfl, Nat.le_of_ble_eq_true rfl⟩ dX7_way_53 (fun r3 h2 H locs hH hw => ?_)
    refine lv_if_eq (tgt := 65) hx hb dX7_way_56 (by decide) (fun c4 => ?_) (fun c4 => ?_)
    · have hw := ite_t hw c4
      refine lv_aload_n hx hb dX7_way_65 rfl (lv_at hl 0 rfl) ?_
      refine hv_get (ci := 7) (k := 34) (v := .ref (S.2 v0 34)) hx hb hown hKK hH cf7 (by decide) fl_X7_76 rfl k1 rfl dX7_way_66 ?_
      refine lv_iload_n hx hb dX7_way_69 rfl (lv_at hl 1 rfl) ?_
      obtain ⟨k5, hw⟩ := hw
      refine hv_iald hx hb hKK hH k5 dX7_way_70 ?_
      exact hv_iret hx hb hr hlk hH hw dX7_way_71
    · have hw := ite_f hw c4
      refine lv_iinc (v := v3 + (nI 1)) (lv' := [(3, .int (v3 + (nI 1))), (0, .ref v0), (2, .int v2)]) hx hb dX7_way_59 hl (k := 2) rfl rfl (by decide) rfl (fun ls hl => ?_)
      refine lv_goto (tgt := 51) hx hb dX7_way_62 (by decide) ?_
      exact hK51 _ _ H locs ls hH (lv_sub hl [1, 2, 0] rfl) hw
  have c22 : ∀  (v0 : Nat) (v1 : Int32) (v2 : Int32) (v3 : Int32) (h : Hp) (H : Heap) (locs : List Loc) (ls : Array Slot), HH G B S h sz s H locs → lv_has ls 4 [(0, .ref v0), (1, .int v1), (2, .int v2), (3, .int v3)] → w_X7_way_c22 S v0 v1 v2 v3 h Q → W p l e rm_X7_way s m args below meth c H locs 0 0 (QI G B S sz below args s Q) (F0 m 22 ls []) := by
    intro  v0 v1 v2 v3 h H locs ls hH hl hw
    unfold w_X7_way_c22 at hw
    obtain ⟨P22, hP22⟩ : ∃ P : Int32 → Hp → Prop, ∀ (v3 : Int32) (h : Hp), P v3 h ↔ (∀ (H : Heap) (locs : List Loc) (ls : Array Slot), HH G B S h sz s H locs → lv_has ls 4 [(0, .ref v0), (1, .int v1), (2, .int v2), (3, .int v3)] → W p l e rm_X7_way s m args below meth c H locs 0 0 (QI G B S sz below args s Q) (F0 m 22 ls [])) := ⟨_, fun v3 h => Iff.rfl⟩
    refine (hP22 v3 h).1 (hw P22 (fun v3 h hw => (hP22 v3 h).2 (fun H locs ls hH hl => ?_))) H locs ls hH hl
    have hK22 : ∀ (v3 : Int32) (h : Hp) (H : Heap) (locs : List Loc) (ls : Array Slot), HH G B S h sz s H locs → lv_has ls 4 [(0, .ref v0), (1, .int v1), (2, .int v2), (3, .int v3)] → P22 v3 h → W p l e rm_X7_way s m args below meth c H locs 0 0 (QI G B S sz below args s Q) (F0 m 22 ls []) := fun v3 h H locs ls hH hl hk => (hP22 v3 h).1 hk H locs ls hH hl
    refine lv_iload_n hx hb dX7_way_22 rfl (lv_at hl 3 rfl) ?_
    refine lv_bipush (v := (nI 48)) hx hb dX7_way_23 (by decide) ?_
    refine lv_icmp_ge (tgt := 42) hx hb dX7_way_25 (by decide) (fun c1 => ?_) (fun c1 => ?_)
    · have hw := ite_t hw c1
      refine lv_aload_n hx hb dX7_way_42 rfl (lv_at hl 0 rfl) ?_
      obtain ⟨k2, hw⟩ := hw
      refine hv_get (ci := 7) (k := 34) (v := .ref (S.2 v0 34)) hx hb hown hKK hH cf7 (by decide) fl_X7_76 rfl k2 rfl dX7_way_43 ?_
      refine lv_iload_n hx hb dX7_way_46 rfl (lv_at hl 1 rfl) ?_
      refine lv_iconst (v := (nI 0)) hx hb dX7_way_47 (by decide) ?_
      obtain ⟨k3, hw⟩ := hw
      refine hv_iast hx hb hKK hH k3 dX7_way_48 (fun H locs hH => ?_)
      refine lv_iconst (v := (nI 0)) hx hb dX7_way_49 (by decide) ?_
      refine lv_istore_n (lv' := [(3, .int (nI 0)), (0, .ref v0), (1, .int v1), (2, .int v2)]) hx hb dX7_way_50 rfl hl (by decide) rfl (fun ls hl => ?_)
      exact c51 _ _ _ _ H locs ls hH (lv_sub hl [1, 3, 0] rfl) hw
    · have hw := ite_f hw c1
      refine lv_aload_n hx hb dX7_way_28 rfl (lv_at hl 0 rfl) ?_
      obtain ⟨k4, hw⟩ := hw
      refine hv_get (ci := 7) (k := 34) (v := .ref (S.2 v0 34)) hx hb hown hKK hH cf7 (by decide) fl_X7_76 rfl k4 rfl dX7_way_29 ?_
      refine lv_iload_n hx hb dX7_way_32 rfl (lv_at hl 3 rfl) ?_
      refine lv_bipush (v := (-9)) hx hb dX7_way_33 (by decide) ?_
      obtain ⟨k5, hw⟩ := hw
      refine hv_iast hx hb hKK hH k5 dX7_way_35 (fun H locs hH => ?_)
      refine lv_iinc (v := v3 + (nI 1)) (lv' := [(3, .int (v3 + (nI 1))), (0, .ref v0), (1, .int v1), (2, .int v2)]) hx hb dX7_way_36 hl (k := 3) rfl rfl (by decide) rfl (fun ls hl => ?_)
      refine lv_goto (tgt := 22) hx hb dX7_way_39 (by decide) ?_
      exact hK22 _ _ H locs ls hH (lv_sub hl [1, 2, 3, 0] rfl) hw
  unfold w_X7_way at hw
  show W p l e rm_X7_way s m args below meth c H [] 0 0 (QI G B S sz below args s Q) (F0 m 0 ls [])
  generalize ([] : List Loc) = locs at hH ⊢
  refine lv_iload_n hx hb dX7_way_0 rfl (lv_at hl 1 rfl) ?_
  refine hv_cSI (rm := rm_X7_isField) (As := [.int v1]) (rest := []) (k := 1) hx hb hml hown hKK hH (m_X7_isField v1 _ _ hw) cw_X7_244 ⟨Nat.le_of_ble_eq_true rfl, Nat.le_of_ble_eq_true rfl⟩ rfl hl.1 rfl (Nat.le_of_ble_eq_true rfl) ⟨Nat.le_of_ble_eq_true rfl, Nat.le_of_ble_eq_true rfl⟩ dX7_way_1 (fun r2 h1 H locs hH hw => ?_)
  refine lv_if_eq (tgt := 14) hx hb dX7_way_4 (by decide) (fun c3 => ?_) (fun c3 => ?_)
  · have hw := ite_t hw c3
    refine lv_aload_n hx hb dX7_way_14 rfl (lv_at hl 0 rfl) ?_
    refine lv_iconst (v := (-1)) hx hb dX7_way_15 (by decide) ?_
    obtain ⟨k4, hw⟩ := hw
    refine hv_cVI (rm := rm_X7_no) (As := [.int (-1)]) (rest := []) (k := 1) (ci := 7) hx hb hml hown hKK hH cf7 k4 (m_X7_no v0 (-1) _ _ hw) cw_X7_170 ⟨Nat.le_of_ble_eq_true rfl, Nat.le_of_ble_eq_true rfl⟩ rfl hl.1 rfl (Nat.le_of_ble_eq_true rfl) ⟨Nat.le_of_ble_eq_true rfl, Nat.le_of_ble_eq_true rfl⟩ dX7_way_16 (fun r6 h5 H locs hH hw => ?_)
    exact hv_iret hx hb hr hlk hH hw dX7_way_19
  · have hw := ite_f hw c3
    refine lv_iload_n hx hb dX7_way_7 rfl (lv_at hl 2 rfl) ?_
    refine hv_cSI (rm := rm_X7_isField) (As := [.int v2]) (rest := []) (k := 1) hx hb hml hown hKK hH (m_X7_isField v2 _ _ hw) cw_X7_244 ⟨Nat.le_of_ble_eq_true rfl, Nat.le_of_ble_eq_true rfl⟩ rfl hl.1 rfl (Nat.le_of_ble_eq_true rfl) ⟨Nat.le_of_ble_eq_true rfl, Nat.le_of_ble_eq_true rfl⟩ dX7_way_8 (fun r8 h7 H locs hH hw => ?_)
    refine lv_if_ne (tgt := 20) hx hb dX7_way_11 (by decide) (fun c9 => ?_) (fun c9 => ?_)
    · have hw := ite_f hw c9
      refine lv_iconst (v := (nI 0)) hx hb dX7_way_20 (by decide) ?_
      refine lv_istore_n (lv' := [(3, .int (nI 0)), (0, .ref v0), (1, .int v1), (2, .int v2)]) hx hb dX7_way_21 rfl hl (by decide) rfl (fun ls hl => ?_)
      exact c22 _ _ _ _ _ H locs ls hH (lv_sub hl [1, 2, 3, 0] rfl) hw
    · have hw := ite_t hw c9
      refine lv_aload_n hx hb dX7_way_14 rfl (lv_at hl 0 rfl) ?_
      refine lv_iconst (v := (-1)) hx hb dX7_way_15 (by decide) ?_
      obtain ⟨k10, hw⟩ := hw
      refine hv_cVI (rm := rm_X7_no) (As := [.int (-1)]) (rest := []) (k := 1) (ci := 7) hx hb hml hown hKK hH cf7 k10 (m_X7_no v0 (-1) _ _ hw) cw_X7_170 ⟨Nat.le_of_ble_eq_true rfl, Nat.le_of_ble_eq_true rfl⟩ rfl hl.1 rfl (Nat.le_of_ble_eq_true rfl) ⟨Nat.le_of_ble_eq_true rfl, Nat.le_of_ble_eq_true rfl⟩ dX7_way_16 (fun r12 h11 H locs hH hw => ?_)
      exact hv_iret hx hb hr hlk hH hw dX7_way_19
abbrev rm_X7_vowels : Room := { frames := 1, cells := 0, slots := 0, locals := 20 }
set_option maxHeartbeats 4000000 in
set_option maxRecDepth 100000 in
theorem m_X7_vowels {l : Launch} {G : Gl} {B sz : Nat} {S : St} (v0 : Nat) (h : Hp) (Q : Int32 → Hp → Prop) (hw : w_X7_vowels S v0 h Q) : MI l G B sz S yX7_vowels cX7_vowels 4 .int rm_X7_vowels [.ref v0] h Q := by
  refine met_of rfl rfl ?_
  intro p e s m args below meth c hMB H ls hH hl
  obtain ⟨hx, hb, hml, hown, hKK, hr, hlk⟩ := hMB
  replace hl : lv_has ls 4 [(0, .ref v0)] := hl
  have c14 : ∀ (v0 : Nat) (P4 : Int32 → Int32 → Hp → Prop) (_ : ∀ (v1 : Int32) (v2 : Int32) (h : Hp) (H : Heap) (locs : List Loc) (ls : Array Slot), HH G B S h sz s H locs → lv_has ls 4 [(0, .ref v0), (1, .int v1), (2, .int v2)] → P4 v1 v2 h → W p l e rm_X7_vowels s m args below meth c H locs 0 0 (QI G B S sz below args s Q) (F0 m 4 ls [])) (v2 : Int32) (v1 : Int32) (v3 : Int32) (h : Hp) (H : Heap) (locs : List Loc) (ls : Array Slot), HH G B S h sz s H locs → lv_has ls 4 [(0, .ref v0), (1, .int v1), (2, .int v2), (3, .int v3)] → w_X7_vowels_c14 S v0 v2 v1 v3 h Q P4 → W p l e rm_X7_vowels s m args below meth c H locs 0 0 (QI G B S sz below args s Q) (F0 m 14 ls []) := by
    intro v0 P4 hK4 v2 v1 v3 h H locs ls hH hl hw
    unfold w_X7_vowels_c14 at hw
    obtain ⟨P14, hP14⟩ : ∃ P : Int32 → Int32 → Hp → Prop, ∀ (v1 : Int32) (v3 : Int32) (h : Hp), P v1 v3 h ↔ (∀ (H : Heap) (locs : List Loc) (ls : Array Slot), HH G B S h sz s H locs → lv_has ls 4 [(0, .ref v0), (1, .int v1), (2, .int v2), (3, .int v3)] → W p l e rm_X7_vowels s m args below meth c H locs 0 0 (QI G B S sz below args s Q) (F0 m 14 ls [])) := ⟨_, fun v1 v3 h => Iff.rfl⟩
    refine (hP14 v1 v3 h).1 (hw P14 (fun v1 v3 h hw => (hP14 v1 v3 h).2 (fun H locs ls hH hl => ?_))) H locs ls hH hl
    have hK14 : ∀ (v1 : Int32) (v3 : Int32) (h : Hp) (H : Heap) (locs : List Loc) (ls : Array Slot), HH G B S h sz s H locs → lv_has ls 4 [(0, .ref v0), (1, .int v1), (2, .int v2), (3, .int v3)] → P14 v1 v3 h → W p l e rm_X7_vowels s m args below meth c H locs 0 0 (QI G B S sz below args s Q) (F0 m 14 ls []) := fun v1 v3 h H locs ls hH hl hk => (hP14 v1 v3 h).1 hk H locs ls hH hl
    refine lv_iload_n hx hb dX7_vowels_14 rfl (lv_at hl 3 rfl) ?_
    refine lv_aload_n hx hb dX7_vowels_15 rfl (lv_at hl 0 rfl) ?_
    obtain ⟨k1, hw⟩ := hw
    refine hv_get (ci := 7) (k := 11) (v := .ref (S.2 v0 11)) hx hb hown hKK hH cf7 (by decide) fl_X7_43 rfl k1 rfl dX7_vowels_16 ?_
    refine lv_iload_n hx hb dX7_vowels_19 rfl (lv_at hl 2 rfl) ?_
    obtain ⟨k2, hw⟩ := hw
    refine hv_iald hx hb hKK hH k2 dX7_vowels_20 ?_
    refine lv_icmp_ge (tgt := 55) hx hb dX7_vowels_21 (by decide) (fun c3 => ?_) (fun c3 => ?_)
    · have hw := ite_t hw c3
      refine lv_iinc (v := v2 + (nI 1)) (lv' := [(2, .int (v2 + (nI 1))), (0, .ref v0), (1, .int v1), (3, .int v3)]) hx hb dX7_vowels_55 hl (k := 2) rfl rfl (by decide) rfl (fun ls hl => ?_)
      refine lv_goto (tgt := 4) hx hb dX7_vowels_58 (by decide) ?_
      exact hK4 _ _ _ H locs ls hH (lv_sub hl [1, 2, 0] rfl) hw
    · have hw := ite_f hw c3
      refine lv_iload_n hx hb dX7_vowels_24 rfl (lv_at hl 1 rfl) ?_
      refine lv_aload_n hx hb dX7_vowels_25 rfl (lv_at hl 0 rfl) ?_
      refine hv_get (ci := 7) (k := 12) (v := .ref (S.2 v0 12)) hx hb hown hKK hH cf7 (by decide) fl_X7_46 rfl k1 rfl dX7_vowels_26 ?_
      refine lv_bipush (v := (nI 6)) hx hb dX7_vowels_29 (by decide) ?_
      refine lv_iload_n hx hb dX7_vowels_31 rfl (lv_at hl 2 rfl) ?_
      refine lv_imul hx hb dX7_vowels_32 ?_
      refine lv_iload_n hx hb dX7_vowels_33 rfl (lv_at hl 3 rfl) ?_
      refine lv_iadd hx hb dX7_vowels_34 ?_
      obtain ⟨k4, hw⟩ := hw
      refine hv_iald hx hb hKK hH k4 dX7_vowels_35 ?_
      refine hv_cSI (rm := rm_X7_isVowel) (As := [.int (h (S.2 v0 12) (ix (((nI 6) * v2) + v3)))]) (rest := [.int v1]) (k := 1) hx hb hml hown hKK hH (m_X7_isVowel (h (S.2 v0 12) (ix (((nI 6) * v2) + v3))) _ _ hw) cw_X7_97 ⟨Nat.le_of_ble_eq_true rfl, Nat.le_of_ble_eq_true rfl⟩ rfl hl.1 rfl (Nat.le_of_ble_eq_true rfl) ⟨Nat.le_of_ble_eq_true rfl, Nat.le_of_ble_eq_true rfl⟩ dX7_vowels_36 (fun r6 h5 H locs hH hw => ?_)
      refine lv_if_eq (tgt := 46) hx hb dX7_vowels_39 (by decide) (fun c7 => ?_) (fun c7 => ?_)
      · have hw := ite_t hw c7
        refine lv_iconst (v := (nI 0)) hx hb dX7_vowels_46 (by decide) ?_
        refine lv_iadd hx hb dX7_vowels_47 ?_
        refine lv_istore_n (lv' := [(1, .int (v1 + (nI 0))), (0, .ref v0), (2, .int v2), (3, .int v3)]) hx hb dX7_vowels_48 rfl hl (by decide) rfl (fun ls hl => ?_)
        refine lv_iinc (v := v3 + (nI 1)) (lv' := [(3, .int (v3 + (nI 1))), (1, .int (v1 + (nI 0))), (0, .ref v0), (2, .int v2)]) hx hb dX7_vowels_49 hl (k := 3) rfl rfl (by decide) rfl (fun ls hl => ?_)
        refine lv_goto (tgt := 14) hx hb dX7_vowels_52 (by decide) ?_
        exact hK14 _ _ _ H locs ls hH (lv_sub hl [2, 1, 3, 0] rfl) hw
      · have hw := ite_f hw c7
        refine lv_iconst (v := (nI 1)) hx hb dX7_vowels_42 (by decide) ?_
        refine lv_goto (tgt := 47) hx hb dX7_vowels_43 (by decide) ?_
        refine lv_iadd hx hb dX7_vowels_47 ?_
        refine lv_istore_n (lv' := [(1, .int (v1 + (nI 1))), (0, .ref v0), (2, .int v2), (3, .int v3)]) hx hb dX7_vowels_48 rfl hl (by decide) rfl (fun ls hl => ?_)
        refine lv_iinc (v := v3 + (nI 1)) (lv' := [(3, .int (v3 + (nI 1))), (1, .int (v1 + (nI 1))), (0, .ref v0), (2, .int v2)]) hx hb dX7_vowels_49 hl (k := 3) rfl rfl (by decide) rfl (fun ls hl => ?_)
        refine lv_goto (tgt := 14) hx hb dX7_vowels_52 (by decide) ?_
        exact hK14 _ _ _ H locs ls hH (lv_sub hl [2, 1, 3, 0] rfl) hw
  have c4 : ∀  (v0 : Nat) (v1 : Int32) (v2 : Int32) (h : Hp) (H : Heap) (locs : List Loc) (ls : Array Slot), HH G B S h sz s H locs → lv_has ls 4 [(0, .ref v0), (1, .int v1), (2, .int v2)] → w_X7_vowels_c4 S v0 v1 v2 h Q → W p l e rm_X7_vowels s m args below meth c H locs 0 0 (QI G B S sz below args s Q) (F0 m 4 ls []) := by
    intro  v0 v1 v2 h H locs ls hH hl hw
    unfold w_X7_vowels_c4 at hw
    obtain ⟨P4, hP4⟩ : ∃ P : Int32 → Int32 → Hp → Prop, ∀ (v1 : Int32) (v2 : Int32) (h : Hp), P v1 v2 h ↔ (∀ (H : Heap) (locs : List Loc) (ls : Array Slot), HH G B S h sz s H locs → lv_has ls 4 [(0, .ref v0), (1, .int v1), (2, .int v2)] → W p l e rm_X7_vowels s m args below meth c H locs 0 0 (QI G B S sz below args s Q) (F0 m 4 ls [])) := ⟨_, fun v1 v2 h => Iff.rfl⟩
    refine (hP4 v1 v2 h).1 (hw P4 (fun v1 v2 h hw => (hP4 v1 v2 h).2 (fun H locs ls hH hl => ?_))) H locs ls hH hl
    have hK4 : ∀ (v1 : Int32) (v2 : Int32) (h : Hp) (H : Heap) (locs : List Loc) (ls : Array Slot), HH G B S h sz s H locs → lv_has ls 4 [(0, .ref v0), (1, .int v1), (2, .int v2)] → P4 v1 v2 h → W p l e rm_X7_vowels s m args below meth c H locs 0 0 (QI G B S sz below args s Q) (F0 m 4 ls []) := fun v1 v2 h H locs ls hH hl hk => (hP4 v1 v2 h).1 hk H locs ls hH hl
    refine lv_iload_n hx hb dX7_vowels_4 rfl (lv_at hl 2 rfl) ?_
    refine lv_aload_n hx hb dX7_vowels_5 rfl (lv_at hl 0 rfl) ?_
    obtain ⟨k1, hw⟩ := hw
    refine hv_get (ci := 7) (k := 13) (v := .int (h v0 13)) hx hb hown hKK hH cf7 (by decide) fl_X7_79 rfl k1 rfl dX7_vowels_6 ?_
    refine lv_icmp_ge (tgt := 61) hx hb dX7_vowels_9 (by decide) (fun c2 => ?_) (fun c2 => ?_)
    · have hw := ite_t hw c2
      refine lv_iload_n hx hb dX7_vowels_61 rfl (lv_at hl 1 rfl) ?_
      exact hv_iret hx hb hr hlk hH hw dX7_vowels_62
    · have hw := ite_f hw c2
      refine lv_iconst (v := (nI 0)) hx hb dX7_vowels_12 (by decide) ?_
      refine lv_istore_n (lv' := [(3, .int (nI 0)), (0, .ref v0), (1, .int v1), (2, .int v2)]) hx hb dX7_vowels_13 rfl hl (by decide) rfl (fun ls hl => ?_)
      exact c14 _ _ hK4 _ _ _ _ H locs ls hH (lv_sub hl [1, 2, 3, 0] rfl) hw
  unfold w_X7_vowels at hw
  show W p l e rm_X7_vowels s m args below meth c H [] 0 0 (QI G B S sz below args s Q) (F0 m 0 ls [])
  generalize ([] : List Loc) = locs at hH ⊢
  refine lv_iconst (v := (nI 0)) hx hb dX7_vowels_0 (by decide) ?_
  refine lv_istore_n (lv' := [(1, .int (nI 0)), (0, .ref v0)]) hx hb dX7_vowels_1 rfl hl (by decide) rfl (fun ls hl => ?_)
  refine lv_iconst (v := (nI 0)) hx hb dX7_vowels_2 (by decide) ?_
  refine lv_istore_n (lv' := [(2, .int (nI 0)), (1, .int (nI 0)), (0, .ref v0)]) hx hb dX7_vowels_3 rfl hl (by decide) rfl (fun ls hl => ?_)
  exact c4 _ _ _ _ H locs ls hH (lv_sub hl [2, 1, 0] rfl) hw
abbrev rm_X7_hungry : Room := { frames := 1, cells := 0, slots := 0, locals := 23 }
set_option maxHeartbeats 4000000 in
set_option maxRecDepth 100000 in
theorem m_X7_hungry {l : Launch} {G : Gl} {B sz : Nat} {S : St} (v0 : Nat) (h : Hp) (Q : Int32 → Hp → Prop) (hw : w_X7_hungry S v0 h Q) : MI l G B sz S yX7_hungry cX7_hungry 4 .int rm_X7_hungry [.ref v0] h Q := by
  refine met_of rfl rfl ?_
  intro p e s m args below meth c hMB H ls hH hl
  obtain ⟨hx, hb, hml, hown, hKK, hr, hlk⟩ := hMB
  replace hl : lv_has ls 4 [(0, .ref v0)] := hl
  have c30 : ∀  (v0 : Nat) (v1 : Int32) (v2 : Int32) (v3 : Int32) (h : Hp) (H : Heap) (locs : List Loc) (ls : Array Slot), HH G B S h sz s H locs → lv_has ls 4 [(0, .ref v0), (1, .int v1), (2, .int v2), (3, .int v3)] → w_X7_hungry_c30 S v0 v1 v2 v3 h Q → W p l e rm_X7_hungry s m args below meth c H locs 0 0 (QI G B S sz below args s Q) (F0 m 30 ls []) := by
    intro  v0 v1 v2 v3 h H locs ls hH hl hw
    unfold w_X7_hungry_c30 at hw
    obtain ⟨P30, hP30⟩ : ∃ P : Int32 → Int32 → Hp → Prop, ∀ (v2 : Int32) (v3 : Int32) (h : Hp), P v2 v3 h ↔ (∀ (H : Heap) (locs : List Loc) (ls : Array Slot), HH G B S h sz s H locs → lv_has ls 4 [(0, .ref v0), (1, .int v1), (2, .int v2), (3, .int v3)] → W p l e rm_X7_hungry s m args below meth c H locs 0 0 (QI G B S sz below args s Q) (F0 m 30 ls [])) := ⟨_, fun v2 v3 h => Iff.rfl⟩
    refine (hP30 v2 v3 h).1 (hw P30 (fun v2 v3 h hw => (hP30 v2 v3 h).2 (fun H locs ls hH hl => ?_))) H locs ls hH hl
    have hK30 : ∀ (v2 : Int32) (v3 : Int32) (h : Hp) (H : Heap) (locs : List Loc) (ls : Array Slot), HH G B S h sz s H locs → lv_has ls 4 [(0, .ref v0), (1, .int v1), (2, .int v2), (3, .int v3)] → P30 v2 v3 h → W p l e rm_X7_hungry s m args below meth c H locs 0 0 (QI G B S sz below args s Q) (F0 m 30 ls []) := fun v2 v3 h H locs ls hH hl hk => (hP30 v2 v3 h).1 hk H locs ls hH hl
    refine lv_iload_n hx hb dX7_hungry_30 rfl (lv_at hl 3 rfl) ?_
    refine lv_bipush (v := (nI 48)) hx hb dX7_hungry_31 (by decide) ?_
    refine lv_icmp_ge (tgt := 68) hx hb dX7_hungry_33 (by decide) (fun c1 => ?_) (fun c1 => ?_)
    · have hw := ite_t hw c1
      refine lv_iload_n hx hb dX7_hungry_68 rfl (lv_at hl 2 rfl) ?_
      exact hv_iret hx hb hr hlk hH hw dX7_hungry_69
    · have hw := ite_f hw c1
      refine lv_iload_n hx hb dX7_hungry_36 rfl (lv_at hl 2 rfl) ?_
      refine lv_iload_n hx hb dX7_hungry_37 rfl (lv_at hl 1 rfl) ?_
      refine lv_aload_n hx hb dX7_hungry_38 rfl (lv_at hl 0 rfl) ?_
      obtain ⟨k2, hw⟩ := hw
      refine hv_get (ci := 7) (k := 3) (v := .ref (S.2 v0 3)) hx hb hown hKK hH cf7 (by decide) fl_X7_19 rfl k2 rfl dX7_hungry_39 ?_
      refine lv_iload_n hx hb dX7_hungry_42 rfl (lv_at hl 3 rfl) ?_
      obtain ⟨k3, hw⟩ := hw
      refine hv_iald hx hb hKK hH k3 dX7_hungry_43 ?_
      refine hv_cSI (rm := rm_X7_has) (As := [.int v1, .int (h (S.2 v0 3) (ix v3))]) (rest := [.int v2]) (k := 2) hx hb hml hown hKK hH (m_X7_has v1 (h (S.2 v0 3) (ix v3)) _ _ hw) cw_X7_356 ⟨Nat.le_of_ble_eq_true rfl, Nat.le_of_ble_eq_true rfl⟩ rfl hl.1 rfl (Nat.le_of_ble_eq_true rfl) ⟨Nat.le_of_ble_eq_true rfl, Nat.le_of_ble_eq_true rfl⟩ dX7_hungry_44 (fun r5 h4 H locs hH hw => ?_)
      refine lv_if_eq (tgt := 54) hx hb dX7_hungry_47 (by decide) (fun c6 => ?_) (fun c6 => ?_)
      · have hw := ite_t hw c6
        refine lv_aload_n hx hb dX7_hungry_54 rfl (lv_at hl 0 rfl) ?_
        refine hv_get (ci := 7) (k := 2) (v := .ref (S.2 v0 2)) hx hb hown hKK hH cf7 (by decide) fl_X7_16 rfl k2 rfl dX7_hungry_55 ?_
        refine lv_iload_n hx hb dX7_hungry_58 rfl (lv_at hl 3 rfl) ?_
        obtain ⟨k7, hw⟩ := hw
        refine hv_iald hx hb hKK hH k7 dX7_hungry_59 ?_
        refine lv_iadd hx hb dX7_hungry_60 ?_
        refine lv_istore_n (lv' := [(2, .int (v2 + (h4 (S.2 v0 2) (ix v3)))), (0, .ref v0), (1, .int v1), (3, .int v3)]) hx hb dX7_hungry_61 rfl hl (by decide) rfl (fun ls hl => ?_)
        refine lv_iinc (v := v3 + (nI 1)) (lv' := [(3, .int (v3 + (nI 1))), (2, .int (v2 + (h4 (S.2 v0 2) (ix v3)))), (0, .ref v0), (1, .int v1)]) hx hb dX7_hungry_62 hl (k := 3) rfl rfl (by decide) rfl (fun ls hl => ?_)
        refine lv_goto (tgt := 30) hx hb dX7_hungry_65 (by decide) ?_
        exact hK30 _ _ _ H locs ls hH (lv_sub hl [2, 3, 1, 0] rfl) hw
      · have hw := ite_f hw c6
        refine lv_iconst (v := (nI 0)) hx hb dX7_hungry_50 (by decide) ?_
        refine lv_goto (tgt := 60) hx hb dX7_hungry_51 (by decide) ?_
        refine lv_iadd hx hb dX7_hungry_60 ?_
        refine lv_istore_n (lv' := [(2, .int (v2 + (nI 0))), (0, .ref v0), (1, .int v1), (3, .int v3)]) hx hb dX7_hungry_61 rfl hl (by decide) rfl (fun ls hl => ?_)
        refine lv_iinc (v := v3 + (nI 1)) (lv' := [(3, .int (v3 + (nI 1))), (2, .int (v2 + (nI 0))), (0, .ref v0), (1, .int v1)]) hx hb dX7_hungry_62 hl (k := 3) rfl rfl (by decide) rfl (fun ls hl => ?_)
        refine lv_goto (tgt := 30) hx hb dX7_hungry_65 (by decide) ?_
        exact hK30 _ _ _ H locs ls hH (lv_sub hl [2, 3, 1, 0] rfl) hw
  have c4 : ∀  (v0 : Nat) (v1 : Int32) (v2 : Int32) (h : Hp) (H : Heap) (locs : List Loc) (ls : Array Slot), HH G B S h sz s H locs → lv_has ls 4 [(0, .ref v0), (1, .int v1), (2, .int v2)] → w_X7_hungry_c4 S v0 v1 v2 h Q → W p l e rm_X7_hungry s m args below meth c H locs 0 0 (QI G B S sz below args s Q) (F0 m 4 ls []) := by
    intro  v0 v1 v2 h H locs ls hH hl hw
    unfold w_X7_hungry_c4 at hw
    obtain ⟨P4, hP4⟩ : ∃ P : Int32 → Int32 → Hp → Prop, ∀ (v1 : Int32) (v2 : Int32) (h : Hp), P v1 v2 h ↔ (∀ (H : Heap) (locs : List Loc) (ls : Array Slot), HH G B S h sz s H locs → lv_has ls 4 [(0, .ref v0), (1, .int v1), (2, .int v2)] → W p l e rm_X7_hungry s m args below meth c H locs 0 0 (QI G B S sz below args s Q) (F0 m 4 ls [])) := ⟨_, fun v1 v2 h => Iff.rfl⟩
    refine (hP4 v1 v2 h).1 (hw P4 (fun v1 v2 h hw => (hP4 v1 v2 h).2 (fun H locs ls hH hl => ?_))) H locs ls hH hl
    have hK4 : ∀ (v1 : Int32) (v2 : Int32) (h : Hp) (H : Heap) (locs : List Loc) (ls : Array Slot), HH G B S h sz s H locs → lv_has ls 4 [(0, .ref v0), (1, .int v1), (2, .int v2)] → P4 v1 v2 h → W p l e rm_X7_hungry s m args below meth c H locs 0 0 (QI G B S sz below args s Q) (F0 m 4 ls []) := fun v1 v2 h H locs ls hH hl hk => (hP4 v1 v2 h).1 hk H locs ls hH hl
    refine lv_iload_n hx hb dX7_hungry_4 rfl (lv_at hl 2 rfl) ?_
    refine lv_aload_n hx hb dX7_hungry_5 rfl (lv_at hl 0 rfl) ?_
    obtain ⟨k1, hw⟩ := hw
    refine hv_get (ci := 7) (k := 13) (v := .int (h v0 13)) hx hb hown hKK hH cf7 (by decide) fl_X7_79 rfl k1 rfl dX7_hungry_6 ?_
    refine lv_icmp_ge (tgt := 26) hx hb dX7_hungry_9 (by decide) (fun c2 => ?_) (fun c2 => ?_)
    · have hw := ite_t hw c2
      refine lv_iconst (v := (nI 0)) hx hb dX7_hungry_26 (by decide) ?_
      refine lv_istore_n (lv' := [(2, .int (nI 0)), (0, .ref v0), (1, .int v1)]) hx hb dX7_hungry_27 rfl hl (by decide) rfl (fun ls hl => ?_)
      refine lv_iconst (v := (nI 0)) hx hb dX7_hungry_28 (by decide) ?_
      refine lv_istore_n (lv' := [(3, .int (nI 0)), (2, .int (nI 0)), (0, .ref v0), (1, .int v1)]) hx hb dX7_hungry_29 rfl hl (by decide) rfl (fun ls hl => ?_)
      exact c30 _ _ _ _ _ H locs ls hH (lv_sub hl [2, 3, 1, 0] rfl) hw
    · have hw := ite_f hw c2
      refine lv_iload_n hx hb dX7_hungry_12 rfl (lv_at hl 1 rfl) ?_
      refine lv_aload_n hx hb dX7_hungry_13 rfl (lv_at hl 0 rfl) ?_
      refine lv_iload_n hx hb dX7_hungry_14 rfl (lv_at hl 2 rfl) ?_
      refine hv_cVI (rm := rm_X7_lettersOf) (As := [.int v2]) (rest := [.int v1]) (k := 1) (ci := 7) hx hb hml hown hKK hH cf7 k1 (m_X7_lettersOf v0 v2 _ _ hw) cw_X7_398 ⟨Nat.le_of_ble_eq_true rfl, Nat.le_of_ble_eq_true rfl⟩ rfl hl.1 rfl (Nat.le_of_ble_eq_true rfl) ⟨Nat.le_of_ble_eq_true rfl, Nat.le_of_ble_eq_true rfl⟩ dX7_hungry_15 (fun r4 h3 H locs hH hw => ?_)
      refine lv_ior hx hb dX7_hungry_18 ?_
      refine lv_istore_n (lv' := [(1, .int (v1 ||| r4)), (0, .ref v0), (2, .int v2)]) hx hb dX7_hungry_19 rfl hl (by decide) rfl (fun ls hl => ?_)
      refine lv_iinc (v := v2 + (nI 1)) (lv' := [(2, .int (v2 + (nI 1))), (1, .int (v1 ||| r4)), (0, .ref v0)]) hx hb dX7_hungry_20 hl (k := 2) rfl rfl (by decide) rfl (fun ls hl => ?_)
      refine lv_goto (tgt := 4) hx hb dX7_hungry_23 (by decide) ?_
      exact hK4 _ _ _ H locs ls hH (lv_sub hl [2, 1, 0] rfl) hw
  unfold w_X7_hungry at hw
  show W p l e rm_X7_hungry s m args below meth c H [] 0 0 (QI G B S sz below args s Q) (F0 m 0 ls [])
  generalize ([] : List Loc) = locs at hH ⊢
  refine lv_iconst (v := (nI 0)) hx hb dX7_hungry_0 (by decide) ?_
  refine lv_istore_n (lv' := [(1, .int (nI 0)), (0, .ref v0)]) hx hb dX7_hungry_1 rfl hl (by decide) rfl (fun ls hl => ?_)
  refine lv_iconst (v := (nI 0)) hx hb dX7_hungry_2 (by decide) ?_
  refine lv_istore_n (lv' := [(2, .int (nI 0)), (1, .int (nI 0)), (0, .ref v0)]) hx hb dX7_hungry_3 rfl hl (by decide) rfl (fun ls hl => ?_)
  exact c4 _ _ _ _ H locs ls hH (lv_sub hl [2, 1, 0] rfl) hw
abbrev rm_X7_alone : Room := { frames := 1, cells := 0, slots := 0, locals := 23 }
set_option maxHeartbeats 4000000 in
set_option maxRecDepth 100000 in
theorem m_X7_alone {l : Launch} {G : Gl} {B sz : Nat} {S : St} (v0 : Nat) (h : Hp) (Q : Int32 → Hp → Prop) (hw : w_X7_alone S v0 h Q) : MI l G B sz S yX7_alone cX7_alone 3 .int rm_X7_alone [.ref v0] h Q := by
  refine met_of rfl rfl ?_
  intro p e s m args below meth c hMB H ls hH hl
  obtain ⟨hx, hb, hml, hown, hKK, hr, hlk⟩ := hMB
  replace hl : lv_has ls 3 [(0, .ref v0)] := hl
  have c4 : ∀  (v0 : Nat) (v1 : Int32) (v2 : Int32) (h : Hp) (H : Heap) (locs : List Loc) (ls : Array Slot), HH G B S h sz s H locs → lv_has ls 3 [(0, .ref v0), (1, .int v1), (2, .int v2)] → w_X7_alone_c4 S v0 v1 v2 h Q → W p l e rm_X7_alone s m args below meth c H locs 0 0 (QI G B S sz below args s Q) (F0 m 4 ls []) := by
    intro  v0 v1 v2 h H locs ls hH hl hw
    unfold w_X7_alone_c4 at hw
    obtain ⟨P4, hP4⟩ : ∃ P : Int32 → Int32 → Hp → Prop, ∀ (v1 : Int32) (v2 : Int32) (h : Hp), P v1 v2 h ↔ (∀ (H : Heap) (locs : List Loc) (ls : Array Slot), HH G B S h sz s H locs → lv_has ls 3 [(0, .ref v0), (1, .int v1), (2, .int v2)] → W p l e rm_X7_alone s m args below meth c H locs 0 0 (QI G B S sz below args s Q) (F0 m 4 ls [])) := ⟨_, fun v1 v2 h => Iff.rfl⟩
    refine (hP4 v1 v2 h).1 (hw P4 (fun v1 v2 h hw => (hP4 v1 v2 h).2 (fun H locs ls hH hl => ?_))) H locs ls hH hl
    have hK4 : ∀ (v1 : Int32) (v2 : Int32) (h : Hp) (H : Heap) (locs : List Loc) (ls : Array Slot), HH G B S h sz s H locs → lv_has ls 3 [(0, .ref v0), (1, .int v1), (2, .int v2)] → P4 v1 v2 h → W p l e rm_X7_alone s m args below meth c H locs 0 0 (QI G B S sz below args s Q) (F0 m 4 ls []) := fun v1 v2 h H locs ls hH hl hk => (hP4 v1 v2 h).1 hk H locs ls hH hl
    refine lv_iload_n hx hb dX7_alone_4 rfl (lv_at hl 2 rfl) ?_
    refine lv_aload_n hx hb dX7_alone_5 rfl (lv_at hl 0 rfl) ?_
    obtain ⟨k1, hw⟩ := hw
    refine hv_get (ci := 7) (k := 13) (v := .int (h v0 13)) hx hb hown hKK hH cf7 (by decide) fl_X7_79 rfl k1 rfl dX7_alone_6 ?_
    refine lv_icmp_ge (tgt := 44) hx hb dX7_alone_9 (by decide) (fun c2 => ?_) (fun c2 => ?_)
    · have hw := ite_t hw c2
      refine lv_iload_n hx hb dX7_alone_44 rfl (lv_at hl 1 rfl) ?_
      exact hv_iret hx hb hr hlk hH hw dX7_alone_45
    · have hw := ite_f hw c2
      refine lv_iload_n hx hb dX7_alone_12 rfl (lv_at hl 1 rfl) ?_
      refine lv_aload_n hx hb dX7_alone_13 rfl (lv_at hl 0 rfl) ?_
      refine lv_aload_n hx hb dX7_alone_14 rfl (lv_at hl 0 rfl) ?_
      refine hv_get (ci := 7) (k := 6) (v := .ref (S.2 v0 6)) hx hb hown hKK hH cf7 (by decide) fl_X7_28 rfl k1 rfl dX7_alone_15 ?_
      refine lv_iload_n hx hb dX7_alone_18 rfl (lv_at hl 2 rfl) ?_
      obtain ⟨k3, hw⟩ := hw
      refine hv_iald hx hb hKK hH k3 dX7_alone_19 ?_
      refine hv_cVI (rm := rm_X7_headsOn) (As := [.int (h (S.2 v0 6) (ix v2))]) (rest := [.int v1]) (k := 1) (ci := 7) hx hb hml hown hKK hH cf7 k1 (m_X7_headsOn v0 (h (S.2 v0 6) (ix v2)) _ _ hw) cw_X7_333 ⟨Nat.le_of_ble_eq_true rfl, Nat.le_of_ble_eq_true rfl⟩ rfl hl.1 rfl (Nat.le_of_ble_eq_true rfl) ⟨Nat.le_of_ble_eq_true rfl, Nat.le_of_ble_eq_true rfl⟩ dX7_alone_20 (fun r5 h4 H locs hH hw => ?_)
      refine lv_iconst (v := (nI 1)) hx hb dX7_alone_23 (by decide) ?_
      refine lv_iload_n hx hb dX7_alone_24 rfl (lv_at hl 2 rfl) ?_
      refine lv_ishl hx hb dX7_alone_25 ?_
      refine lv_icmp_ne (tgt := 35) hx hb dX7_alone_26 (by decide) (fun c6 => ?_) (fun c6 => ?_)
      · have hw := ite_f hw c6
        refine lv_iconst (v := (nI 0)) hx hb dX7_alone_35 (by decide) ?_
        refine lv_ior hx hb dX7_alone_36 ?_
        refine lv_istore_n (lv' := [(1, .int (v1 ||| (nI 0))), (0, .ref v0), (2, .int v2)]) hx hb dX7_alone_37 rfl hl (by decide) rfl (fun ls hl => ?_)
        refine lv_iinc (v := v2 + (nI 1)) (lv' := [(2, .int (v2 + (nI 1))), (1, .int (v1 ||| (nI 0))), (0, .ref v0)]) hx hb dX7_alone_38 hl (k := 2) rfl rfl (by decide) rfl (fun ls hl => ?_)
        refine lv_goto (tgt := 4) hx hb dX7_alone_41 (by decide) ?_
        exact hK4 _ _ _ H locs ls hH (lv_sub hl [2, 1, 0] rfl) hw
      · have hw := ite_t hw c6
        refine lv_iconst (v := (nI 1)) hx hb dX7_alone_29 (by decide) ?_
        refine lv_iload_n hx hb dX7_alone_30 rfl (lv_at hl 2 rfl) ?_
        refine lv_ishl hx hb dX7_alone_31 ?_
        refine lv_goto (tgt := 36) hx hb dX7_alone_32 (by decide) ?_
        refine lv_ior hx hb dX7_alone_36 ?_
        refine lv_istore_n (lv' := [(1, .int (v1 ||| (ishl (nI 1) v2))), (0, .ref v0), (2, .int v2)]) hx hb dX7_alone_37 rfl hl (by decide) rfl (fun ls hl => ?_)
        refine lv_iinc (v := v2 + (nI 1)) (lv' := [(2, .int (v2 + (nI 1))), (1, .int (v1 ||| (ishl (nI 1) v2))), (0, .ref v0)]) hx hb dX7_alone_38 hl (k := 2) rfl rfl (by decide) rfl (fun ls hl => ?_)
        refine lv_goto (tgt := 4) hx hb dX7_alone_41 (by decide) ?_
        exact hK4 _ _ _ H locs ls hH (lv_sub hl [2, 1, 0] rfl) hw
  unfold w_X7_alone at hw
  show W p l e rm_X7_alone s m args below meth c H [] 0 0 (QI G B S sz below args s Q) (F0 m 0 ls [])
  generalize ([] : List Loc) = locs at hH ⊢
  refine lv_iconst (v := (nI 0)) hx hb dX7_alone_0 (by decide) ?_
  refine lv_istore_n (lv' := [(1, .int (nI 0)), (0, .ref v0)]) hx hb dX7_alone_1 rfl hl (by decide) rfl (fun ls hl => ?_)
  refine lv_iconst (v := (nI 0)) hx hb dX7_alone_2 (by decide) ?_
  refine lv_istore_n (lv' := [(2, .int (nI 0)), (1, .int (nI 0)), (0, .ref v0)]) hx hb dX7_alone_3 rfl hl (by decide) rfl (fun ls hl => ?_)
  exact c4 _ _ _ _ H locs ls hH (lv_sub hl [2, 1, 0] rfl) hw
abbrev rm_X7_sight : Room := { frames := 2, cells := 0, slots := 0, locals := 46 }
set_option maxHeartbeats 4000000 in
set_option maxRecDepth 100000 in
theorem m_X7_sight {l : Launch} {G : Gl} {B sz : Nat} {S : St} (v0 : Nat) (v1 : Int32) (h : Hp) (Q : Int32 → Hp → Prop) (hw : w_X7_sight S v0 v1 h Q) : MI l G B sz S yX7_sight cX7_sight 2 .int rm_X7_sight [.ref v0, .int v1] h Q := by
  refine met_of rfl rfl ?_
  intro p e s m args below meth c hMB H ls hH hl
  obtain ⟨hx, hb, hml, hown, hKK, hr, hlk⟩ := hMB
  replace hl : lv_has ls 2 [(0, .ref v0), (1, .int v1)] := hl
  unfold w_X7_sight at hw
  show W p l e rm_X7_sight s m args below meth c H [] 0 0 (QI G B S sz below args s Q) (F0 m 0 ls [])
  generalize ([] : List Loc) = locs at hH ⊢
  refine lv_iload_n hx hb dX7_sight_0 rfl (lv_at hl 1 rfl) ?_
  by_cases c1 : v1 = (nI 0)
  · have hw := ite_t hw c1
    refine lv_tableIn (tgt := 28) hx hb dX7_sight_1 (by rw [c1]; decide) (by rw [c1]; decide) (by rw [c1]; rfl) (by decide) ?_
    refine lv_aload_n hx hb dX7_sight_28 rfl (lv_at hl 0 rfl) ?_
    obtain ⟨k2, hw⟩ := hw
    refine hv_cVI (rm := rm_X7_vowels) (As := []) (rest := []) (k := 0) (ci := 7) hx hb hml hown hKK hH cf7 k2 (m_X7_vowels v0 _ _ hw) cw_X7_425 ⟨Nat.le_of_ble_eq_true rfl, Nat.le_of_ble_eq_true rfl⟩ rfl hl.1 rfl (Nat.le_of_ble_eq_true rfl) ⟨Nat.le_of_ble_eq_true rfl, Nat.le_of_ble_eq_true rfl⟩ dX7_sight_29 (fun r4 h3 H locs hH hw => ?_)
    exact hv_iret hx hb hr hlk hH hw dX7_sight_32
  have hw := ite_f hw c1
  by_cases c5 : v1 = (nI 1)
  · have hw := ite_t hw c5
    refine lv_tableIn (tgt := 33) hx hb dX7_sight_1 (by rw [c5]; decide) (by rw [c5]; decide) (by rw [c5]; rfl) (by decide) ?_
    refine lv_aload_n hx hb dX7_sight_33 rfl (lv_at hl 0 rfl) ?_
    obtain ⟨k6, hw⟩ := hw
    refine hv_cVI (rm := rm_X7_hungry) (As := []) (rest := []) (k := 0) (ci := 7) hx hb hml hown hKK hH cf7 k6 (m_X7_hungry v0 _ _ hw) cw_X7_428 ⟨Nat.le_of_ble_eq_true rfl, Nat.le_of_ble_eq_true rfl⟩ rfl hl.1 rfl (Nat.le_of_ble_eq_true rfl) ⟨Nat.le_of_ble_eq_true rfl, Nat.le_of_ble_eq_true rfl⟩ dX7_sight_34 (fun r8 h7 H locs hH hw => ?_)
    exact hv_iret hx hb hr hlk hH hw dX7_sight_37
  have hw := ite_f hw c5
  by_cases c9 : v1 = (nI 2)
  · have hw := ite_t hw c9
    refine lv_tableIn (tgt := 38) hx hb dX7_sight_1 (by rw [c9]; decide) (by rw [c9]; decide) (by rw [c9]; rfl) (by decide) ?_
    refine lv_aload_n hx hb dX7_sight_38 rfl (lv_at hl 0 rfl) ?_
    obtain ⟨k10, hw⟩ := hw
    refine hv_cVI (rm := rm_X7_alone) (As := []) (rest := []) (k := 0) (ci := 7) hx hb hml hown hKK hH cf7 k10 (m_X7_alone v0 _ _ hw) cw_X7_431 ⟨Nat.le_of_ble_eq_true rfl, Nat.le_of_ble_eq_true rfl⟩ rfl hl.1 rfl (Nat.le_of_ble_eq_true rfl) ⟨Nat.le_of_ble_eq_true rfl, Nat.le_of_ble_eq_true rfl⟩ dX7_sight_39 (fun r12 h11 H locs hH hw => ?_)
    exact hv_iret hx hb hr hlk hH hw dX7_sight_42
  have hw := ite_f hw c9
  refine lv_tableOut (tgt := 43) hx hb dX7_sight_1 (by have := ne_toInt (k := 0) (by decide) c1; have := ne_toInt (k := 1) (by decide) c5; have := ne_toInt (k := 2) (by decide) c9; omega) (by decide) ?_
  refine lv_aload_n hx hb dX7_sight_43 rfl (lv_at hl 0 rfl) ?_
  refine lv_bipush (v := (-2)) hx hb dX7_sight_44 (by decide) ?_
  obtain ⟨k13, hw⟩ := hw
  refine hv_cVI (rm := rm_X7_no) (As := [.int (-2)]) (rest := []) (k := 1) (ci := 7) hx hb hml hown hKK hH cf7 k13 (m_X7_no v0 (-2) _ _ hw) cw_X7_170 ⟨Nat.le_of_ble_eq_true rfl, Nat.le_of_ble_eq_true rfl⟩ rfl hl.1 rfl (Nat.le_of_ble_eq_true rfl) ⟨Nat.le_of_ble_eq_true rfl, Nat.le_of_ble_eq_true rfl⟩ dX7_sight_46 (fun r15 h14 H locs hH hw => ?_)
  exact hv_iret hx hb hr hlk hH hw dX7_sight_49
abbrev rm_X7_kinds : Room := { frames := 1, cells := 0, slots := 0, locals := 22 }
set_option maxHeartbeats 4000000 in
set_option maxRecDepth 100000 in
theorem m_X7_kinds {l : Launch} {G : Gl} {B sz : Nat} {S : St} (v0 : Nat) (v1 : Int32) (h : Hp) (Q : Int32 → Hp → Prop) (hw : w_X7_kinds S v0 v1 h Q) : MI l G B sz S yX7_kinds cX7_kinds 4 .int rm_X7_kinds [.ref v0, .int v1] h Q := by
  refine met_of rfl rfl ?_
  intro p e s m args below meth c hMB H ls hH hl
  obtain ⟨hx, hb, hml, hown, hKK, hr, hlk⟩ := hMB
  replace hl : lv_has ls 4 [(0, .ref v0), (1, .int v1)] := hl
  have c21 : ∀  (v0 : Nat) (v1 : Int32) (v2 : Int32) (v3 : Int32) (h : Hp) (H : Heap) (locs : List Loc) (ls : Array Slot), HH G B S h sz s H locs → lv_has ls 4 [(0, .ref v0), (1, .int v1), (2, .int v2), (3, .int v3)] → w_X7_kinds_c21 S v0 v1 v2 v3 h Q → W p l e rm_X7_kinds s m args below meth c H locs 0 0 (QI G B S sz below args s Q) (F0 m 21 ls []) := by
    intro  v0 v1 v2 v3 h H locs ls hH hl hw
    unfold w_X7_kinds_c21 at hw
    obtain ⟨P21, hP21⟩ : ∃ P : Int32 → Int32 → Hp → Prop, ∀ (v2 : Int32) (v3 : Int32) (h : Hp), P v2 v3 h ↔ (∀ (H : Heap) (locs : List Loc) (ls : Array Slot), HH G B S h sz s H locs → lv_has ls 4 [(0, .ref v0), (1, .int v1), (2, .int v2), (3, .int v3)] → W p l e rm_X7_kinds s m args below meth c H locs 0 0 (QI G B S sz below args s Q) (F0 m 21 ls [])) := ⟨_, fun v2 v3 h => Iff.rfl⟩
    refine (hP21 v2 v3 h).1 (hw P21 (fun v2 v3 h hw => (hP21 v2 v3 h).2 (fun H locs ls hH hl => ?_))) H locs ls hH hl
    have hK21 : ∀ (v2 : Int32) (v3 : Int32) (h : Hp) (H : Heap) (locs : List Loc) (ls : Array Slot), HH G B S h sz s H locs → lv_has ls 4 [(0, .ref v0), (1, .int v1), (2, .int v2), (3, .int v3)] → P21 v2 v3 h → W p l e rm_X7_kinds s m args below meth c H locs 0 0 (QI G B S sz below args s Q) (F0 m 21 ls []) := fun v2 v3 h H locs ls hH hl hk => (hP21 v2 v3 h).1 hk H locs ls hH hl
    refine lv_iload_n hx hb dX7_kinds_21 rfl (lv_at hl 3 rfl) ?_
    refine lv_aload_n hx hb dX7_kinds_22 rfl (lv_at hl 0 rfl) ?_
    obtain ⟨k1, hw⟩ := hw
    refine hv_get (ci := 7) (k := 13) (v := .int (h v0 13)) hx hb hown hKK hH cf7 (by decide) fl_X7_79 rfl k1 rfl dX7_kinds_23 ?_
    refine lv_icmp_ge (tgt := 53) hx hb dX7_kinds_26 (by decide) (fun c2 => ?_) (fun c2 => ?_)
    · have hw := ite_t hw c2
      refine lv_iload_n hx hb dX7_kinds_53 rfl (lv_at hl 2 rfl) ?_
      exact hv_iret hx hb hr hlk hH hw dX7_kinds_54
    · have hw := ite_f hw c2
      refine lv_iload_n hx hb dX7_kinds_29 rfl (lv_at hl 2 rfl) ?_
      refine lv_aload_n hx hb dX7_kinds_30 rfl (lv_at hl 0 rfl) ?_
      refine hv_get (ci := 7) (k := 4) (v := .ref (S.2 v0 4)) hx hb hown hKK hH cf7 (by decide) fl_X7_22 rfl k1 rfl dX7_kinds_31 ?_
      refine lv_iload_n hx hb dX7_kinds_34 rfl (lv_at hl 3 rfl) ?_
      obtain ⟨k3, hw⟩ := hw
      refine hv_iald hx hb hKK hH k3 dX7_kinds_35 ?_
      refine lv_iload_n hx hb dX7_kinds_36 rfl (lv_at hl 1 rfl) ?_
      refine lv_icmp_ne (tgt := 44) hx hb dX7_kinds_37 (by decide) (fun c4 => ?_) (fun c4 => ?_)
      · have hw := ite_f hw c4
        refine lv_iconst (v := (nI 0)) hx hb dX7_kinds_44 (by decide) ?_
        refine lv_iadd hx hb dX7_kinds_45 ?_
        refine lv_istore_n (lv' := [(2, .int (v2 + (nI 0))), (0, .ref v0), (1, .int v1), (3, .int v3)]) hx hb dX7_kinds_46 rfl hl (by decide) rfl (fun ls hl => ?_)
        refine lv_iinc (v := v3 + (nI 1)) (lv' := [(3, .int (v3 + (nI 1))), (2, .int (v2 + (nI 0))), (0, .ref v0), (1, .int v1)]) hx hb dX7_kinds_47 hl (k := 3) rfl rfl (by decide) rfl (fun ls hl => ?_)
        refine lv_goto (tgt := 21) hx hb dX7_kinds_50 (by decide) ?_
        exact hK21 _ _ _ H locs ls hH (lv_sub hl [2, 3, 1, 0] rfl) hw
      · have hw := ite_t hw c4
        refine lv_iconst (v := (nI 1)) hx hb dX7_kinds_40 (by decide) ?_
        refine lv_goto (tgt := 45) hx hb dX7_kinds_41 (by decide) ?_
        refine lv_iadd hx hb dX7_kinds_45 ?_
        refine lv_istore_n (lv' := [(2, .int (v2 + (nI 1))), (0, .ref v0), (1, .int v1), (3, .int v3)]) hx hb dX7_kinds_46 rfl hl (by decide) rfl (fun ls hl => ?_)
        refine lv_iinc (v := v3 + (nI 1)) (lv' := [(3, .int (v3 + (nI 1))), (2, .int (v2 + (nI 1))), (0, .ref v0), (1, .int v1)]) hx hb dX7_kinds_47 hl (k := 3) rfl rfl (by decide) rfl (fun ls hl => ?_)
        refine lv_goto (tgt := 21) hx hb dX7_kinds_50 (by decide) ?_
        exact hK21 _ _ _ H locs ls hH (lv_sub hl [2, 3, 1, 0] rfl) hw
  unfold w_X7_kinds at hw
  show W p l e rm_X7_kinds s m args below meth c H [] 0 0 (QI G B S sz below args s Q) (F0 m 0 ls [])
  generalize ([] : List Loc) = locs at hH ⊢
  refine lv_iload_n hx hb dX7_kinds_0 rfl (lv_at hl 1 rfl) ?_
  refine lv_iconst (v := (nI 0)) hx hb dX7_kinds_1 (by decide) ?_
  refine lv_bipush (v := (nI 7)) hx hb dX7_kinds_2 (by decide) ?_
  refine hv_cSI (rm := rm_X7_isIn) (As := [.int v1, .int (nI 0), .int (nI 7)]) (rest := []) (k := 3) hx hb hml hown hKK hH (m_X7_isIn v1 (nI 0) (nI 7) _ _ hw) cw_X7_85 ⟨Nat.le_of_ble_eq_true rfl, Nat.le_of_ble_eq_true rfl⟩ rfl hl.1 rfl (Nat.le_of_ble_eq_true rfl) ⟨Nat.le_of_ble_eq_true rfl, Nat.le_of_ble_eq_true rfl⟩ dX7_kinds_4 (fun r2 h1 H locs hH hw => ?_)
  refine lv_if_ne (tgt := 17) hx hb dX7_kinds_7 (by decide) (fun c3 => ?_) (fun c3 => ?_)
  · have hw := ite_f hw c3
    refine lv_iconst (v := (nI 0)) hx hb dX7_kinds_17 (by decide) ?_
    refine lv_istore_n (lv' := [(2, .int (nI 0)), (0, .ref v0), (1, .int v1)]) hx hb dX7_kinds_18 rfl hl (by decide) rfl (fun ls hl => ?_)
    refine lv_iconst (v := (nI 0)) hx hb dX7_kinds_19 (by decide) ?_
    refine lv_istore_n (lv' := [(3, .int (nI 0)), (2, .int (nI 0)), (0, .ref v0), (1, .int v1)]) hx hb dX7_kinds_20 rfl hl (by decide) rfl (fun ls hl => ?_)
    exact c21 _ _ _ _ _ H locs ls hH (lv_sub hl [2, 3, 1, 0] rfl) hw
  · have hw := ite_t hw c3
    refine lv_aload_n hx hb dX7_kinds_10 rfl (lv_at hl 0 rfl) ?_
    refine lv_bipush (v := (-2)) hx hb dX7_kinds_11 (by decide) ?_
    obtain ⟨k4, hw⟩ := hw
    refine hv_cVI (rm := rm_X7_no) (As := [.int (-2)]) (rest := []) (k := 1) (ci := 7) hx hb hml hown hKK hH cf7 k4 (m_X7_no v0 (-2) _ _ hw) cw_X7_170 ⟨Nat.le_of_ble_eq_true rfl, Nat.le_of_ble_eq_true rfl⟩ rfl hl.1 rfl (Nat.le_of_ble_eq_true rfl) ⟨Nat.le_of_ble_eq_true rfl, Nat.le_of_ble_eq_true rfl⟩ dX7_kinds_13 (fun r6 h5 H locs hH hw => ?_)
    exact hv_iret hx hb hr hlk hH hw dX7_kinds_16
abbrev rm_X7_row : Room := { frames := 1, cells := 0, slots := 0, locals := 22 }
set_option maxHeartbeats 4000000 in
set_option maxRecDepth 100000 in
theorem m_X7_row {l : Launch} {G : Gl} {B sz : Nat} {S : St} (v0 : Nat) (v1 : Int32) (h : Hp) (Q : Int32 → Hp → Prop) (hw : w_X7_row S v0 v1 h Q) : MI l G B sz S yX7_row cX7_row 3 .int rm_X7_row [.ref v0, .int v1] h Q := by
  refine met_of rfl rfl ?_
  intro p e s m args below meth c hMB H ls hH hl
  obtain ⟨hx, hb, hml, hown, hKK, hr, hlk⟩ := hMB
  replace hl : lv_has ls 3 [(0, .ref v0), (1, .int v1)] := hl
  unfold w_X7_row at hw
  show W p l e rm_X7_row s m args below meth c H [] 0 0 (QI G B S sz below args s Q) (F0 m 0 ls [])
  generalize ([] : List Loc) = locs at hH ⊢
  refine lv_iload_n hx hb dX7_row_0 rfl (lv_at hl 1 rfl) ?_
  refine lv_iconst (v := (nI 0)) hx hb dX7_row_1 (by decide) ?_
  refine lv_bipush (v := (nI 99)) hx hb dX7_row_2 (by decide) ?_
  refine hv_cSI (rm := rm_X7_bound) (As := [.int v1, .int (nI 0), .int (nI 99)]) (rest := []) (k := 3) hx hb hml hown hKK hH (m_X7_bound v1 (nI 0) (nI 99) _ _ hw) cw_X7_163 ⟨Nat.le_of_ble_eq_true rfl, Nat.le_of_ble_eq_true rfl⟩ rfl hl.1 rfl (Nat.le_of_ble_eq_true rfl) ⟨Nat.le_of_ble_eq_true rfl, Nat.le_of_ble_eq_true rfl⟩ dX7_row_4 (fun r2 h1 H locs hH hw => ?_)
  refine lv_istore_n (lv' := [(2, .int r2), (0, .ref v0), (1, .int v1)]) hx hb dX7_row_7 rfl hl (by decide) rfl (fun ls hl => ?_)
  refine lv_iload_n hx hb dX7_row_8 rfl (lv_at hl 0 rfl) ?_
  refine lv_if_ne (tgt := 24) hx hb dX7_row_9 (by decide) (fun c3 => ?_) (fun c3 => ?_)
  · have hw := ite_f hw c3
    refine lv_iload_n hx hb dX7_row_24 rfl (lv_at hl 0 rfl) ?_
    refine lv_if_eq (tgt := 34) hx hb dX7_row_25 (by decide) (fun c => absurd c c3) (fun _ => ?_)
    refine lv_aload_n hx hb dX7_row_28 rfl (lv_at hl 1 rfl) ?_
    refine lv_iload_n hx hb dX7_row_29 rfl (lv_at hl 0 rfl) ?_
    obtain ⟨k9, hw⟩ := hw
    refine hv_cVI (rm := rm_X7_no) (As := [.int r2]) (rest := []) (k := 1) (ci := 7) hx hb hml hown hKK hH cf7 k9 (m_X7_no v0 r2 _ _ hw) cw_X7_170 ⟨Nat.le_of_ble_eq_true rfl, Nat.le_of_ble_eq_true rfl⟩ rfl hl.1 rfl (Nat.le_of_ble_eq_true rfl) ⟨Nat.le_of_ble_eq_true rfl, Nat.le_of_ble_eq_true rfl⟩ dX7_row_30 (fun r11 h10 H locs hH hw => ?_)
    exact hv_iret hx hb hr hlk hH hw dX7_row_33
  · have hw := ite_t hw c3
    refine lv_aload_n hx hb dX7_row_12 rfl (lv_at hl 1 rfl) ?_
    obtain ⟨k4, hw⟩ := hw
    refine hv_get (ci := 7) (k := 32) (v := .int (h1 v0 32)) hx hb hown hKK hH cf7 (by decide) fl_X7_374 rfl k4 rfl dX7_row_13 ?_
    refine lv_bipush (v := (nI 12)) hx hb dX7_row_16 (by decide) ?_
    refine lv_icmp_ne (tgt := 24) hx hb dX7_row_18 (by decide) (fun c5 => ?_) (fun c5 => ?_)
    · have hw := ite_f hw c5
      refine lv_iload_n hx hb dX7_row_24 rfl (lv_at hl 0 rfl) ?_
      refine lv_if_eq (tgt := 34) hx hb dX7_row_25 (by decide) (fun _ => ?_) (fun c => absurd c3 c)
      refine lv_aload_n hx hb dX7_row_34 rfl (lv_at hl 1 rfl) ?_
      refine hv_get (ci := 7) (k := 31) (v := .ref (S.2 v0 31)) hx hb hown hKK hH cf7 (by decide) fl_X7_70 rfl k4 rfl dX7_row_35 ?_
      refine lv_aload_n hx hb dX7_row_38 rfl (lv_at hl 1 rfl) ?_
      refine hv_get (ci := 7) (k := 32) (v := .int (h1 v0 32)) hx hb hown hKK hH cf7 (by decide) fl_X7_374 rfl k4 rfl dX7_row_39 ?_
      refine lv_iload_n hx hb dX7_row_42 rfl (lv_at hl 2 rfl) ?_
      obtain ⟨k8, hw⟩ := hw
      refine hv_iast hx hb hKK hH k8 dX7_row_43 (fun H locs hH => ?_)
      refine lv_aload_n hx hb dX7_row_44 rfl (lv_at hl 1 rfl) ?_
      refine lv_dup hx hb dX7_row_45 rfl ?_
      refine hv_get (ci := 7) (k := 32) (v := .int ((up h1 (S.2 v0 31) (ix (h1 v0 32)) v1) v0 32)) hx hb hown hKK hH cf7 (by decide) fl_X7_374 rfl k4 rfl dX7_row_46 ?_
      refine lv_iconst (v := (nI 1)) hx hb dX7_row_49 (by decide) ?_
      refine lv_iadd hx hb dX7_row_50 ?_
      refine hv_put (ci := 7) (k := 32) hx hb hown hKK hH cf7 (by decide) fl_X7_374 rfl rfl rfl k4 rfl rfl dX7_row_51 (fun H locs hH => ?_)
      refine lv_aload_n hx hb dX7_row_54 rfl (lv_at hl 1 rfl) ?_
      refine hv_get (ci := 7) (k := 32) (v := .int ((up (up h1 (S.2 v0 31) (ix (h1 v0 32)) v1) v0 32 (((up h1 (S.2 v0 31) (ix (h1 v0 32)) v1) v0 32) + (nI 1))) v0 32)) hx hb hown hKK hH cf7 (by decide) fl_X7_374 rfl k4 rfl dX7_row_55 ?_
      exact hv_iret hx hb hr hlk hH hw dX7_row_58
    · have hw := ite_t hw c5
      refine lv_bipush (v := (-6)) hx hb dX7_row_21 (by decide) ?_
      refine lv_istore_n (lv' := [(2, .int (-6)), (0, .ref v0), (1, .int v1)]) hx hb dX7_row_23 rfl hl (by decide) rfl (fun ls hl => ?_)
      refine lv_iload_n hx hb dX7_row_24 rfl (lv_at hl 0 rfl) ?_
      refine lv_if_eq (tgt := 34) hx hb dX7_row_25 (by decide) (fun c => absurd c (by decide)) (fun _ => ?_)
      refine lv_aload_n hx hb dX7_row_28 rfl (lv_at hl 1 rfl) ?_
      refine lv_iload_n hx hb dX7_row_29 rfl (lv_at hl 0 rfl) ?_
      refine hv_cVI (rm := rm_X7_no) (As := [.int (-6)]) (rest := []) (k := 1) (ci := 7) hx hb hml hown hKK hH cf7 k4 (m_X7_no v0 (-6) _ _ hw) cw_X7_170 ⟨Nat.le_of_ble_eq_true rfl, Nat.le_of_ble_eq_true rfl⟩ rfl hl.1 rfl (Nat.le_of_ble_eq_true rfl) ⟨Nat.le_of_ble_eq_true rfl, Nat.le_of_ble_eq_true rfl⟩ dX7_row_30 (fun r7 h6 H locs hH hw => ?_)
      exact hv_iret hx hb hr hlk hH hw dX7_row_33
abbrev rm_X7_judge : Room := { frames := 2, cells := 0, slots := 0, locals := 43 }
set_option maxHeartbeats 4000000 in
set_option maxRecDepth 100000 in
theorem m_X7_judge {l : Launch} {G : Gl} {B sz : Nat} {S : St} (v0 : Nat) (h : Hp) (Q : Int32 → Hp → Prop) (hw : w_X7_judge S v0 h Q) : MI l G B sz S yX7_judge cX7_judge 3 .int rm_X7_judge [.ref v0] h Q := by
  refine met_of rfl rfl ?_
  intro p e s m args below meth c hMB H ls hH hl
  obtain ⟨hx, hb, hml, hown, hKK, hr, hlk⟩ := hMB
  replace hl : lv_has ls 3 [(0, .ref v0)] := hl
  have c12 : ∀  (v0 : Nat) (v1 : Int32) (v2 : Int32) (h : Hp) (H : Heap) (locs : List Loc) (ls : Array Slot), HH G B S h sz s H locs → lv_has ls 3 [(0, .ref v0), (1, .int v1), (2, .int v2)] → w_X7_judge_c12 S v0 v1 v2 h Q → W p l e rm_X7_judge s m args below meth c H locs 0 0 (QI G B S sz below args s Q) (F0 m 12 ls []) := by
    intro  v0 v1 v2 h H locs ls hH hl hw
    unfold w_X7_judge_c12 at hw
    obtain ⟨P12, hP12⟩ : ∃ P : Int32 → Hp → Prop, ∀ (v2 : Int32) (h : Hp), P v2 h ↔ (∀ (H : Heap) (locs : List Loc) (ls : Array Slot), HH G B S h sz s H locs → lv_has ls 3 [(0, .ref v0), (1, .int v1), (2, .int v2)] → W p l e rm_X7_judge s m args below meth c H locs 0 0 (QI G B S sz below args s Q) (F0 m 12 ls [])) := ⟨_, fun v2 h => Iff.rfl⟩
    refine (hP12 v2 h).1 (hw P12 (fun v2 h hw => (hP12 v2 h).2 (fun H locs ls hH hl => ?_))) H locs ls hH hl
    have hK12 : ∀ (v2 : Int32) (h : Hp) (H : Heap) (locs : List Loc) (ls : Array Slot), HH G B S h sz s H locs → lv_has ls 3 [(0, .ref v0), (1, .int v1), (2, .int v2)] → P12 v2 h → W p l e rm_X7_judge s m args below meth c H locs 0 0 (QI G B S sz below args s Q) (F0 m 12 ls []) := fun v2 h H locs ls hH hl hk => (hP12 v2 h).1 hk H locs ls hH hl
    refine lv_iload_n hx hb dX7_judge_12 rfl (lv_at hl 2 rfl) ?_
    refine lv_iload_n hx hb dX7_judge_13 rfl (lv_at hl 1 rfl) ?_
    refine lv_icmp_ge (tgt := 48) hx hb dX7_judge_14 (by decide) (fun c1 => ?_) (fun c1 => ?_)
    · have hw := ite_t hw c1
      refine lv_bipush (v := (-9)) hx hb dX7_judge_48 (by decide) ?_
      exact hv_iret hx hb hr hlk hH hw dX7_judge_50
    · have hw := ite_f hw c1
      refine lv_aload_n hx hb dX7_judge_17 rfl (lv_at hl 0 rfl) ?_
      refine lv_iload_n hx hb dX7_judge_18 rfl (lv_at hl 2 rfl) ?_
      obtain ⟨k2, hw⟩ := hw
      refine hv_cVI (rm := rm_X7_isHead) (As := [.int v2]) (rest := []) (k := 1) (ci := 7) hx hb hml hown hKK hH cf7 k2 (m_X7_isHead v0 v2 _ _ hw) cw_X7_89 ⟨Nat.le_of_ble_eq_true rfl, Nat.le_of_ble_eq_true rfl⟩ rfl hl.1 rfl (Nat.le_of_ble_eq_true rfl) ⟨Nat.le_of_ble_eq_true rfl, Nat.le_of_ble_eq_true rfl⟩ dX7_judge_19 (fun r4 h3 H locs hH hw => ?_)
      refine lv_if_eq (tgt := 40) hx hb dX7_judge_22 (by decide) (fun c5 => ?_) (fun c5 => ?_)
      · have hw := ite_t hw c5
        refine lv_iload_n hx hb dX7_judge_40 rfl (lv_at hl 2 rfl) ?_
        exact hv_iret hx hb hr hlk hH hw dX7_judge_41
      · have hw := ite_f hw c5
        refine lv_aload_n hx hb dX7_judge_25 rfl (lv_at hl 0 rfl) ?_
        refine hv_get (ci := 7) (k := 6) (v := .ref (S.2 v0 6)) hx hb hown hKK hH cf7 (by decide) fl_X7_28 rfl k2 rfl dX7_judge_26 ?_
        refine lv_iload_n hx hb dX7_judge_29 rfl (lv_at hl 2 rfl) ?_
        obtain ⟨k6, hw⟩ := hw
        refine hv_iald hx hb hKK hH k6 dX7_judge_30 ?_
        refine lv_aload_n hx hb dX7_judge_31 rfl (lv_at hl 0 rfl) ?_
        refine hv_get (ci := 7) (k := 31) (v := .ref (S.2 v0 31)) hx hb hown hKK hH cf7 (by decide) fl_X7_70 rfl k2 rfl dX7_judge_32 ?_
        refine lv_iload_n hx hb dX7_judge_35 rfl (lv_at hl 2 rfl) ?_
        obtain ⟨k7, hw⟩ := hw
        refine hv_iald hx hb hKK hH k7 dX7_judge_36 ?_
        refine lv_icmp_eq (tgt := 42) hx hb dX7_judge_37 (by decide) (fun c8 => ?_) (fun c8 => ?_)
        · have hw := ite_t hw c8
          refine lv_iinc (v := v2 + (nI 1)) (lv' := [(2, .int (v2 + (nI 1))), (0, .ref v0), (1, .int v1)]) hx hb dX7_judge_42 hl (k := 2) rfl rfl (by decide) rfl (fun ls hl => ?_)
          refine lv_goto (tgt := 12) hx hb dX7_judge_45 (by decide) ?_
          exact hK12 _ _ H locs ls hH (lv_sub hl [1, 2, 0] rfl) hw
        · have hw := ite_f hw c8
          refine lv_iload_n hx hb dX7_judge_40 rfl (lv_at hl 2 rfl) ?_
          exact hv_iret hx hb hr hlk hH hw dX7_judge_41
  unfold w_X7_judge at hw
  show W p l e rm_X7_judge s m args below meth c H [] 0 0 (QI G B S sz below args s Q) (F0 m 0 ls [])
  generalize ([] : List Loc) = locs at hH ⊢
  refine lv_aload_n hx hb dX7_judge_0 rfl (lv_at hl 0 rfl) ?_
  obtain ⟨k1, hw⟩ := hw
  refine hv_get (ci := 7) (k := 32) (v := .int (h v0 32)) hx hb hown hKK hH cf7 (by decide) fl_X7_374 rfl k1 rfl dX7_judge_1 ?_
  refine lv_istore_n (lv' := [(1, .int (h v0 32)), (0, .ref v0)]) hx hb dX7_judge_4 rfl hl (by decide) rfl (fun ls hl => ?_)
  refine lv_aload_n hx hb dX7_judge_5 rfl (lv_at hl 1 rfl) ?_
  refine lv_iconst (v := (nI 0)) hx hb dX7_judge_6 (by decide) ?_
  refine hv_put (ci := 7) (k := 32) hx hb hown hKK hH cf7 (by decide) fl_X7_374 rfl rfl rfl k1 rfl rfl dX7_judge_7 (fun H locs hH => ?_)
  refine lv_iconst (v := (nI 0)) hx hb dX7_judge_10 (by decide) ?_
  refine lv_istore_n (lv' := [(2, .int (nI 0)), (1, .int (h v0 32)), (0, .ref v0)]) hx hb dX7_judge_11 rfl hl (by decide) rfl (fun ls hl => ?_)
  exact c12 _ _ _ _ H locs ls hH (lv_sub hl [2, 1, 0] rfl) hw
abbrev rm_X7_clear : Room := { frames := 0, cells := 0, slots := 0, locals := 0 }
set_option maxHeartbeats 4000000 in
set_option maxRecDepth 100000 in
theorem m_X7_clear {l : Launch} {G : Gl} {B sz : Nat} {S : St} (v0 : Nat) (h : Hp) (Q : Int32 → Hp → Prop) (hw : w_X7_clear S v0 h Q) : MI l G B sz S yX7_clear cX7_clear 2 .int rm_X7_clear [.ref v0] h Q := by
  refine met_of rfl rfl ?_
  intro p e s m args below meth c hMB H ls hH hl
  obtain ⟨hx, hb, hml, hown, hKK, hr, hlk⟩ := hMB
  replace hl : lv_has ls 2 [(0, .ref v0)] := hl
  unfold w_X7_clear at hw
  show W p l e rm_X7_clear s m args below meth c H [] 0 0 (QI G B S sz below args s Q) (F0 m 0 ls [])
  generalize ([] : List Loc) = locs at hH ⊢
  refine lv_aload_n hx hb dX7_clear_0 rfl (lv_at hl 0 rfl) ?_
  obtain ⟨k1, hw⟩ := hw
  refine hv_get (ci := 7) (k := 32) (v := .int (h v0 32)) hx hb hown hKK hH cf7 (by decide) fl_X7_374 rfl k1 rfl dX7_clear_1 ?_
  refine lv_istore_n (lv' := [(1, .int (h v0 32)), (0, .ref v0)]) hx hb dX7_clear_4 rfl hl (by decide) rfl (fun ls hl => ?_)
  refine lv_aload_n hx hb dX7_clear_5 rfl (lv_at hl 1 rfl) ?_
  refine lv_iconst (v := (nI 0)) hx hb dX7_clear_6 (by decide) ?_
  refine hv_put (ci := 7) (k := 32) hx hb hown hKK hH cf7 (by decide) fl_X7_374 rfl rfl rfl k1 rfl rfl dX7_clear_7 (fun H locs hH => ?_)
  refine lv_iload_n hx hb dX7_clear_10 rfl (lv_at hl 0 rfl) ?_
  exact hv_iret hx hb hr hlk hH hw dX7_clear_11
abbrev rm_X7_draw : Room := { frames := 0, cells := 0, slots := 0, locals := 0 }
set_option maxHeartbeats 4000000 in
set_option maxRecDepth 100000 in
theorem m_X7_draw {l : Launch} {G : Gl} {B sz : Nat} {S : St} (v0 : Nat) (v1 : Int32) (h : Hp) (Q : Int32 → Hp → Prop) (hw : w_X7_draw S v0 v1 h Q) : MI l G B sz S yX7_draw cX7_draw 2 .int rm_X7_draw [.ref v0, .int v1] h Q := by
  refine met_of rfl rfl ?_
  intro p e s m args below meth c hMB H ls hH hl
  obtain ⟨hx, hb, hml, hown, hKK, hr, hlk⟩ := hMB
  replace hl : lv_has ls 2 [(0, .ref v0), (1, .int v1)] := hl
  unfold w_X7_draw at hw
  show W p l e rm_X7_draw s m args below meth c H [] 0 0 (QI G B S sz below args s Q) (F0 m 0 ls [])
  generalize ([] : List Loc) = locs at hH ⊢
  refine lv_aload_n hx hb dX7_draw_0 rfl (lv_at hl 0 rfl) ?_
  refine lv_aload_n hx hb dX7_draw_1 rfl (lv_at hl 0 rfl) ?_
  obtain ⟨k1, hw⟩ := hw
  refine hv_get (ci := 7) (k := 35) (v := .int (h v0 35)) hx hb hown hKK hH cf7 (by decide) fl_X7_434 rfl k1 rfl dX7_draw_2 ?_
  refine lv_ldcw (v := (1103515245 : Int32)) hx hb hown (hKK.use kc_X7_437 rfl _) dX7_draw_5 ?_
  refine lv_imul hx hb dX7_draw_8 ?_
  refine lv_sipush (v := (nI 12345)) hx hb dX7_draw_9 (by decide) ?_
  refine lv_iadd hx hb dX7_draw_12 ?_
  refine hv_put (ci := 7) (k := 35) hx hb hown hKK hH cf7 (by decide) fl_X7_434 rfl rfl rfl k1 rfl rfl dX7_draw_13 (fun H locs hH => ?_)
  refine lv_aload_n hx hb dX7_draw_16 rfl (lv_at hl 0 rfl) ?_
  refine hv_get (ci := 7) (k := 35) (v := .int ((up h v0 35 (((h v0 35) * (1103515245 : Int32)) + (nI 12345))) v0 35)) hx hb hown hKK hH cf7 (by decide) fl_X7_434 rfl k1 rfl dX7_draw_17 ?_
  refine lv_ldcw (v := (2147483647 : Int32)) hx hb hown (hKK.use kc_X7_438 rfl _) dX7_draw_20 ?_
  refine lv_iand hx hb dX7_draw_23 ?_
  refine lv_ldcw (v := (65536 : Int32)) hx hb hown (hKK.use kc_X7_439 rfl _) dX7_draw_24 ?_
  obtain ⟨k2, hw⟩ := hw
  refine lv_idiv hx hb dX7_draw_27 k2 ?_
  refine lv_iload_n hx hb dX7_draw_28 rfl (lv_at hl 1 rfl) ?_
  obtain ⟨k3, hw⟩ := hw
  refine lv_irem hx hb dX7_draw_29 k3 ?_
  exact hv_iret hx hb hr hlk hH hw dX7_draw_30
abbrev rm_X7_standsByLot : Room := { frames := 1, cells := 0, slots := 0, locals := 21 }
set_option maxHeartbeats 4000000 in
set_option maxRecDepth 100000 in
theorem m_X7_standsByLot {l : Launch} {G : Gl} {B sz : Nat} {S : St} (v0 : Nat) (h : Hp) (Q : Hp → Prop) (hw : w_X7_standsByLot S v0 h Q) : MV l G B sz S yX7_standsByLot cX7_standsByLot 2 rm_X7_standsByLot [.ref v0] h Q := by
  refine met_of rfl rfl ?_
  intro p e s m args below meth c hMB H ls hH hl
  obtain ⟨hx, hb, hml, hown, hKK, hr, hlk⟩ := hMB
  replace hl : lv_has ls 2 [(0, .ref v0)] := hl
  have c2 : ∀  (v0 : Nat) (v1 : Int32) (h : Hp) (H : Heap) (locs : List Loc) (ls : Array Slot), HH G B S h sz s H locs → lv_has ls 2 [(0, .ref v0), (1, .int v1)] → w_X7_standsByLot_c2 S v0 v1 h Q → W p l e rm_X7_standsByLot s m args below meth c H locs 0 0 (QV G B S sz below args s Q) (F0 m 2 ls []) := by
    intro  v0 v1 h H locs ls hH hl hw
    unfold w_X7_standsByLot_c2 at hw
    obtain ⟨P2, hP2⟩ : ∃ P : Int32 → Hp → Prop, ∀ (v1 : Int32) (h : Hp), P v1 h ↔ (∀ (H : Heap) (locs : List Loc) (ls : Array Slot), HH G B S h sz s H locs → lv_has ls 2 [(0, .ref v0), (1, .int v1)] → W p l e rm_X7_standsByLot s m args below meth c H locs 0 0 (QV G B S sz below args s Q) (F0 m 2 ls [])) := ⟨_, fun v1 h => Iff.rfl⟩
    refine (hP2 v1 h).1 (hw P2 (fun v1 h hw => (hP2 v1 h).2 (fun H locs ls hH hl => ?_))) H locs ls hH hl
    have hK2 : ∀ (v1 : Int32) (h : Hp) (H : Heap) (locs : List Loc) (ls : Array Slot), HH G B S h sz s H locs → lv_has ls 2 [(0, .ref v0), (1, .int v1)] → P2 v1 h → W p l e rm_X7_standsByLot s m args below meth c H locs 0 0 (QV G B S sz below args s Q) (F0 m 2 ls []) := fun v1 h H locs ls hH hl hk => (hP2 v1 h).1 hk H locs ls hH hl
    refine lv_iload_n hx hb dX7_standsByLot_2 rfl (lv_at hl 1 rfl) ?_
    refine lv_aload_n hx hb dX7_standsByLot_3 rfl (lv_at hl 0 rfl) ?_
    obtain ⟨k1, hw⟩ := hw
    refine hv_get (ci := 7) (k := 13) (v := .int (h v0 13)) hx hb hown hKK hH cf7 (by decide) fl_X7_79 rfl k1 rfl dX7_standsByLot_4 ?_
    refine lv_icmp_ge (tgt := 39) hx hb dX7_standsByLot_7 (by decide) (fun c2 => ?_) (fun c2 => ?_)
    · have hw := ite_t hw c2
      exact hv_vret hx hb hr hlk hH hw dX7_standsByLot_39
    · have hw := ite_f hw c2
      refine lv_aload_n hx hb dX7_standsByLot_10 rfl (lv_at hl 0 rfl) ?_
      refine hv_get (ci := 7) (k := 6) (v := .ref (S.2 v0 6)) hx hb hown hKK hH cf7 (by decide) fl_X7_28 rfl k1 rfl dX7_standsByLot_11 ?_
      refine lv_iload_n hx hb dX7_standsByLot_14 rfl (lv_at hl 1 rfl) ?_
      refine lv_aload_n hx hb dX7_standsByLot_15 rfl (lv_at hl 0 rfl) ?_
      refine lv_bipush (v := (nI 48)) hx hb dX7_standsByLot_16 (by decide) ?_
      refine hv_cVI (rm := rm_X7_draw) (As := [.int (nI 48)]) (rest := [.int v1, .ref (S.2 v0 6)]) (k := 1) (ci := 7) hx hb hml hown hKK hH cf7 k1 (m_X7_draw v0 (nI 48) _ _ hw) cw_X7_440 ⟨Nat.le_of_ble_eq_true rfl, Nat.le_of_ble_eq_true rfl⟩ rfl hl.1 rfl (Nat.le_of_ble_eq_true rfl) ⟨Nat.le_of_ble_eq_true rfl, Nat.le_of_ble_eq_true rfl⟩ dX7_standsByLot_18 (fun r4 h3 H locs hH hw => ?_)
      obtain ⟨k5, hw⟩ := hw
      refine hv_iast hx hb hKK hH k5 dX7_standsByLot_21 (fun H locs hH => ?_)
      refine lv_aload_n hx hb dX7_standsByLot_22 rfl (lv_at hl 0 rfl) ?_
      refine hv_get (ci := 7) (k := 7) (v := .ref (S.2 v0 7)) hx hb hown hKK hH cf7 (by decide) fl_X7_31 rfl k1 rfl dX7_standsByLot_23 ?_
      refine lv_iload_n hx hb dX7_standsByLot_26 rfl (lv_at hl 1 rfl) ?_
      refine lv_aload_n hx hb dX7_standsByLot_27 rfl (lv_at hl 0 rfl) ?_
      refine lv_iconst (v := (nI 4)) hx hb dX7_standsByLot_28 (by decide) ?_
      refine hv_cVI (rm := rm_X7_draw) (As := [.int (nI 4)]) (rest := [.int v1, .ref (S.2 v0 7)]) (k := 1) (ci := 7) hx hb hml hown hKK hH cf7 k1 (m_X7_draw v0 (nI 4) _ _ hw) cw_X7_440 ⟨Nat.le_of_ble_eq_true rfl, Nat.le_of_ble_eq_true rfl⟩ rfl hl.1 rfl (Nat.le_of_ble_eq_true rfl) ⟨Nat.le_of_ble_eq_true rfl, Nat.le_of_ble_eq_true rfl⟩ dX7_standsByLot_29 (fun r7 h6 H locs hH hw => ?_)
      obtain ⟨k8, hw⟩ := hw
      refine hv_iast hx hb hKK hH k8 dX7_standsByLot_32 (fun H locs hH => ?_)
      refine lv_iinc (v := v1 + (nI 1)) (lv' := [(1, .int (v1 + (nI 1))), (0, .ref v0)]) hx hb dX7_standsByLot_33 hl (k := 1) rfl rfl (by decide) rfl (fun ls hl => ?_)
      refine lv_goto (tgt := 2) hx hb dX7_standsByLot_36 (by decide) ?_
      exact hK2 _ _ H locs ls hH (lv_sub hl [1, 0] rfl) hw
  unfold w_X7_standsByLot at hw
  show W p l e rm_X7_standsByLot s m args below meth c H [] 0 0 (QV G B S sz below args s Q) (F0 m 0 ls [])
  generalize ([] : List Loc) = locs at hH ⊢
  refine lv_iconst (v := (nI 0)) hx hb dX7_standsByLot_0 (by decide) ?_
  refine lv_istore_n (lv' := [(1, .int (nI 0)), (0, .ref v0)]) hx hb dX7_standsByLot_1 rfl hl (by decide) rfl (fun ls hl => ?_)
  exact c2 _ _ _ H locs ls hH (lv_sub hl [1, 0] rfl) hw
abbrev rm_X7_lots : Room := { frames := 7, cells := 0, slots := 0, locals := 161 }
set_option maxHeartbeats 4000000 in
set_option maxRecDepth 100000 in
theorem m_X7_lots {l : Launch} {G : Gl} {B sz : Nat} {S : St} (v0 : Nat) (v1 : Int32) (v2 : Int32) (v3 : Int32) (h : Hp) (Q : Int32 → Hp → Prop) (hw : w_X7_lots S v0 v1 v2 v3 h Q) : MI l G B sz S yX7_lots cX7_lots 8 .int rm_X7_lots [.ref v0, .int v1, .int v2, .int v3] h Q := by
  refine met_of rfl rfl ?_
  intro p e s m args below meth c hMB H ls hH hl
  obtain ⟨hx, hb, hml, hown, hKK, hr, hlk⟩ := hMB
  replace hl : lv_has ls 8 [(0, .ref v0), (1, .int v1), (2, .int v2), (3, .int v3)] := hl
  have c78 : ∀ (v0 : Nat) (v1 : Int32) (v3 : Int32) (P50 : Int32 → Int32 → Hp → Prop) (_ : ∀ (v5 : Int32) (v6 : Int32) (h : Hp) (H : Heap) (locs : List Loc) (ls : Array Slot), HH G B S h sz s H locs → lv_has ls 8 [(0, .ref v0), (1, .int v1), (3, .int v3), (5, .int v5), (6, .int v6)] → P50 v5 v6 h → W p l e rm_X7_lots s m args below meth c H locs 0 0 (QI G B S sz below args s Q) (F0 m 50 ls [])) (v5 : Int32) (v6 : Int32) (s0 : Int32) (h : Hp) (H : Heap) (locs : List Loc) (ls : Array Slot), HH G B S h sz s H locs → lv_has ls 8 [(0, .ref v0), (1, .int v1), (3, .int v3), (5, .int v5), (6, .int v6)] → w_X7_lots_c78 S v0 v1 v3 v5 v6 s0 h Q P50 → W p l e rm_X7_lots s m args below meth c H locs 0 0 (QI G B S sz below args s Q) (F0 m 78 ls [.int s0]) := by
    intro v0 v1 v3 P50 hK50 v5 v6 s0 h H locs ls hH hl hw
    unfold w_X7_lots_c78 at hw
    refine lv_istore (lv' := [(7, .int s0), (0, .ref v0), (1, .int v1), (3, .int v3), (5, .int v5), (6, .int v6)]) hx hb dX7_lots_78 hl (by decide) rfl (fun ls hl => ?_)
    refine lv_aload_n hx hb dX7_lots_80 rfl (lv_at hl 1 rfl) ?_
    obtain ⟨k1, hw⟩ := hw
    refine hv_cVV (rm := rm_X7_minds) (As := []) (rest := []) (k := 0) (ci := 7) hx hb hml hown hKK hH cf7 k1 (m_X7_minds v0 _ _ hw) cw_X7_343 ⟨Nat.le_of_ble_eq_true rfl, Nat.le_of_ble_eq_true rfl⟩ rfl hl.1 rfl (Nat.le_of_ble_eq_true rfl) ⟨Nat.le_of_ble_eq_true rfl, Nat.le_of_ble_eq_true rfl⟩ dX7_lots_81 (fun h2 H locs hH hw => ?_)
    refine lv_aload_n hx hb dX7_lots_84 rfl (lv_at hl 1 rfl) ?_
    refine hv_cVV (rm := rm_X7_standsByLot) (As := []) (rest := []) (k := 0) (ci := 7) hx hb hml hown hKK hH cf7 k1 (m_X7_standsByLot v0 _ _ hw) cw_X7_443 ⟨Nat.le_of_ble_eq_true rfl, Nat.le_of_ble_eq_true rfl⟩ rfl hl.1 rfl (Nat.le_of_ble_eq_true rfl) ⟨Nat.le_of_ble_eq_true rfl, Nat.le_of_ble_eq_true rfl⟩ dX7_lots_85 (fun h3 H locs hH hw => ?_)
    refine lv_aload_n hx hb dX7_lots_88 rfl (lv_at hl 1 rfl) ?_
    refine lv_bipush (v := (nI 12)) hx hb dX7_lots_89 (by decide) ?_
    refine hv_cVV (rm := rm_X7_goes) (As := [.int (nI 12)]) (rest := []) (k := 1) (ci := 7) hx hb hml hown hKK hH cf7 k1 (m_X7_goes v0 (nI 12) _ _ hw) cw_X7_261 ⟨Nat.le_of_ble_eq_true rfl, Nat.le_of_ble_eq_true rfl⟩ rfl hl.1 rfl (Nat.le_of_ble_eq_true rfl) ⟨Nat.le_of_ble_eq_true rfl, Nat.le_of_ble_eq_true rfl⟩ dX7_lots_91 (fun h4 H locs hH hw => ?_)
    refine lv_iload hx hb dX7_lots_94 (lv_at hl 4 rfl) ?_
    refine lv_iload_n hx hb dX7_lots_96 rfl (lv_at hl 3 rfl) ?_
    refine lv_if_ne (tgt := 107) hx hb dX7_lots_97 (by decide) (fun c5 => ?_) (fun c5 => ?_)
    · have hw := ite_f hw c5
      refine lv_aload_n hx hb dX7_lots_107 rfl (lv_at hl 1 rfl) ?_
      refine hv_get (ci := 7) (k := 10) (v := .ref (S.2 v0 10)) hx hb hown hKK hH cf7 (by decide) fl_X7_40 rfl k1 rfl dX7_lots_108 ?_
      refine lv_aload_n hx hb dX7_lots_111 rfl (lv_at hl 1 rfl) ?_
      refine hv_get (ci := 7) (k := 13) (v := .int (h4 v0 13)) hx hb hown hKK hH cf7 (by decide) fl_X7_79 rfl k1 rfl dX7_lots_112 ?_
      refine hv_cSI (rm := rm_X7_allOf) (As := [.ref (S.2 v0 10), .int (h4 v0 13)]) (rest := [.int v5]) (k := 2) hx hb hml hown hKK hH (m_X7_allOf (S.2 v0 10) (h4 v0 13) _ _ hw) cw_X7_352 ⟨Nat.le_of_ble_eq_true rfl, Nat.le_of_ble_eq_true rfl⟩ rfl hl.1 rfl (Nat.le_of_ble_eq_true rfl) ⟨Nat.le_of_ble_eq_true rfl, Nat.le_of_ble_eq_true rfl⟩ dX7_lots_115 (fun r8 h7 H locs hH hw => ?_)
      refine lv_iload hx hb dX7_lots_118 (lv_at hl 0 rfl) ?_
      refine lv_isub hx hb dX7_lots_120 ?_
      refine lv_iadd hx hb dX7_lots_121 ?_
      refine lv_istore (lv' := [(5, .int (v5 + (r8 - s0))), (7, .int s0), (0, .ref v0), (1, .int v1), (3, .int v3), (6, .int v6)]) hx hb dX7_lots_122 hl (by decide) rfl (fun ls hl => ?_)
      refine lv_aload_n hx hb dX7_lots_124 rfl (lv_at hl 2 rfl) ?_
      refine hv_cVV (rm := rm_X7_forgets) (As := []) (rest := []) (k := 0) (ci := 7) hx hb hml hown hKK hH cf7 k1 (m_X7_forgets v0 _ _ hw) cw_X7_346 ⟨Nat.le_of_ble_eq_true rfl, Nat.le_of_ble_eq_true rfl⟩ rfl hl.1 rfl (Nat.le_of_ble_eq_true rfl) ⟨Nat.le_of_ble_eq_true rfl, Nat.le_of_ble_eq_true rfl⟩ dX7_lots_125 (fun h9 H locs hH hw => ?_)
      refine lv_iinc (v := v6 + (nI 1)) (lv' := [(6, .int (v6 + (nI 1))), (5, .int (v5 + (r8 - s0))), (7, .int s0), (0, .ref v0), (1, .int v1), (3, .int v3)]) hx hb dX7_lots_128 hl (k := 5) rfl rfl (by decide) rfl (fun ls hl => ?_)
      refine lv_goto (tgt := 50) hx hb dX7_lots_131 (by decide) ?_
      exact hK50 _ _ _ H locs ls hH (lv_sub hl [3, 4, 5, 1, 0] rfl) hw
    · have hw := ite_t hw c5
      refine lv_aload_n hx hb dX7_lots_100 rfl (lv_at hl 1 rfl) ?_
      refine hv_get (ci := 7) (k := 15) (v := .int (h4 v0 15)) hx hb hown hKK hH cf7 (by decide) fl_X7_127 rfl k1 rfl dX7_lots_101 ?_
      refine lv_goto (tgt := 118) hx hb dX7_lots_104 (by decide) ?_
      refine lv_iload hx hb dX7_lots_118 (lv_at hl 0 rfl) ?_
      refine lv_isub hx hb dX7_lots_120 ?_
      refine lv_iadd hx hb dX7_lots_121 ?_
      refine lv_istore (lv' := [(5, .int (v5 + ((h4 v0 15) - s0))), (7, .int s0), (0, .ref v0), (1, .int v1), (3, .int v3), (6, .int v6)]) hx hb dX7_lots_122 hl (by decide) rfl (fun ls hl => ?_)
      refine lv_aload_n hx hb dX7_lots_124 rfl (lv_at hl 2 rfl) ?_
      refine hv_cVV (rm := rm_X7_forgets) (As := []) (rest := []) (k := 0) (ci := 7) hx hb hml hown hKK hH cf7 k1 (m_X7_forgets v0 _ _ hw) cw_X7_346 ⟨Nat.le_of_ble_eq_true rfl, Nat.le_of_ble_eq_true rfl⟩ rfl hl.1 rfl (Nat.le_of_ble_eq_true rfl) ⟨Nat.le_of_ble_eq_true rfl, Nat.le_of_ble_eq_true rfl⟩ dX7_lots_125 (fun h6 H locs hH hw => ?_)
      refine lv_iinc (v := v6 + (nI 1)) (lv' := [(6, .int (v6 + (nI 1))), (5, .int (v5 + ((h4 v0 15) - s0))), (7, .int s0), (0, .ref v0), (1, .int v1), (3, .int v3)]) hx hb dX7_lots_128 hl (k := 5) rfl rfl (by decide) rfl (fun ls hl => ?_)
      refine lv_goto (tgt := 50) hx hb dX7_lots_131 (by decide) ?_
      exact hK50 _ _ _ H locs ls hH (lv_sub hl [3, 4, 5, 1, 0] rfl) hw
  have c50 : ∀  (v0 : Nat) (v1 : Int32) (v3 : Int32) (v5 : Int32) (v6 : Int32) (h : Hp) (H : Heap) (locs : List Loc) (ls : Array Slot), HH G B S h sz s H locs → lv_has ls 8 [(0, .ref v0), (1, .int v1), (3, .int v3), (5, .int v5), (6, .int v6)] → w_X7_lots_c50 S v0 v1 v3 v5 v6 h Q → W p l e rm_X7_lots s m args below meth c H locs 0 0 (QI G B S sz below args s Q) (F0 m 50 ls []) := by
    intro  v0 v1 v3 v5 v6 h H locs ls hH hl hw
    unfold w_X7_lots_c50 at hw
    obtain ⟨P50, hP50⟩ : ∃ P : Int32 → Int32 → Hp → Prop, ∀ (v5 : Int32) (v6 : Int32) (h : Hp), P v5 v6 h ↔ (∀ (H : Heap) (locs : List Loc) (ls : Array Slot), HH G B S h sz s H locs → lv_has ls 8 [(0, .ref v0), (1, .int v1), (3, .int v3), (5, .int v5), (6, .int v6)] → W p l e rm_X7_lots s m args below meth c H locs 0 0 (QI G B S sz below args s Q) (F0 m 50 ls [])) := ⟨_, fun v5 v6 h => Iff.rfl⟩
    refine (hP50 v5 v6 h).1 (hw P50 (fun v5 v6 h hw => (hP50 v5 v6 h).2 (fun H locs ls hH hl => ?_))) H locs ls hH hl
    have hK50 : ∀ (v5 : Int32) (v6 : Int32) (h : Hp) (H : Heap) (locs : List Loc) (ls : Array Slot), HH G B S h sz s H locs → lv_has ls 8 [(0, .ref v0), (1, .int v1), (3, .int v3), (5, .int v5), (6, .int v6)] → P50 v5 v6 h → W p l e rm_X7_lots s m args below meth c H locs 0 0 (QI G B S sz below args s Q) (F0 m 50 ls []) := fun v5 v6 h H locs ls hH hl hk => (hP50 v5 v6 h).1 hk H locs ls hH hl
    refine lv_iload hx hb dX7_lots_50 (lv_at hl 4 rfl) ?_
    refine lv_iload_n hx hb dX7_lots_52 rfl (lv_at hl 1 rfl) ?_
    refine lv_icmp_ge (tgt := 134) hx hb dX7_lots_53 (by decide) (fun c1 => ?_) (fun c1 => ?_)
    · have hw := ite_t hw c1
      refine lv_iload hx hb dX7_lots_134 (lv_at hl 3 rfl) ?_
      exact hv_iret hx hb hr hlk hH hw dX7_lots_136
    · have hw := ite_f hw c1
      refine lv_iload_n hx hb dX7_lots_56 rfl (lv_at hl 2 rfl) ?_
      refine lv_if_ne (tgt := 67) hx hb dX7_lots_57 (by decide) (fun c2 => ?_) (fun c2 => ?_)
      · have hw := ite_f hw c2
        refine lv_aload_n hx hb dX7_lots_67 rfl (lv_at hl 0 rfl) ?_
        obtain ⟨k4, hw⟩ := hw
        refine hv_get (ci := 7) (k := 10) (v := .ref (S.2 v0 10)) hx hb hown hKK hH cf7 (by decide) fl_X7_40 rfl k4 rfl dX7_lots_68 ?_
        refine lv_aload_n hx hb dX7_lots_71 rfl (lv_at hl 0 rfl) ?_
        refine hv_get (ci := 7) (k := 13) (v := .int (h v0 13)) hx hb hown hKK hH cf7 (by decide) fl_X7_79 rfl k4 rfl dX7_lots_72 ?_
        refine hv_cSI (rm := rm_X7_allOf) (As := [.ref (S.2 v0 10), .int (h v0 13)]) (rest := []) (k := 2) hx hb hml hown hKK hH (m_X7_allOf (S.2 v0 10) (h v0 13) _ _ hw) cw_X7_352 ⟨Nat.le_of_ble_eq_true rfl, Nat.le_of_ble_eq_true rfl⟩ rfl hl.1 rfl (Nat.le_of_ble_eq_true rfl) ⟨Nat.le_of_ble_eq_true rfl, Nat.le_of_ble_eq_true rfl⟩ dX7_lots_75 (fun r6 h5 H locs hH hw => ?_)
        exact c78 _ _ _ _ hK50 _ _ _ _ H locs ls hH (lv_sub hl [0, 1, 2, 3, 4] rfl) hw
      · have hw := ite_t hw c2
        refine lv_aload_n hx hb dX7_lots_60 rfl (lv_at hl 0 rfl) ?_
        obtain ⟨k3, hw⟩ := hw
        refine hv_get (ci := 7) (k := 15) (v := .int (h v0 15)) hx hb hown hKK hH cf7 (by decide) fl_X7_127 rfl k3 rfl dX7_lots_61 ?_
        refine lv_goto (tgt := 78) hx hb dX7_lots_64 (by decide) ?_
        exact c78 _ _ _ _ hK50 _ _ _ _ H locs ls hH (lv_sub hl [0, 1, 2, 3, 4] rfl) hw
  unfold w_X7_lots at hw
  show W p l e rm_X7_lots s m args below meth c H [] 0 0 (QI G B S sz below args s Q) (F0 m 0 ls [])
  generalize ([] : List Loc) = locs at hH ⊢
  refine lv_iload_n hx hb dX7_lots_0 rfl (lv_at hl 1 rfl) ?_
  refine lv_iconst (v := (nI 1)) hx hb dX7_lots_1 (by decide) ?_
  refine lv_bipush (v := (nI 20)) hx hb dX7_lots_2 (by decide) ?_
  refine hv_cSI (rm := rm_X7_bound) (As := [.int v1, .int (nI 1), .int (nI 20)]) (rest := []) (k := 3) hx hb hml hown hKK hH (m_X7_bound v1 (nI 1) (nI 20) _ _ hw) cw_X7_163 ⟨Nat.le_of_ble_eq_true rfl, Nat.le_of_ble_eq_true rfl⟩ rfl hl.1 rfl (Nat.le_of_ble_eq_true rfl) ⟨Nat.le_of_ble_eq_true rfl, Nat.le_of_ble_eq_true rfl⟩ dX7_lots_4 (fun r2 h1 H locs hH hw => ?_)
  refine lv_istore (lv' := [(4, .int r2), (0, .ref v0), (1, .int v1), (2, .int v2), (3, .int v3)]) hx hb dX7_lots_7 hl (by decide) rfl (fun ls hl => ?_)
  refine lv_iload hx hb dX7_lots_9 (lv_at hl 0 rfl) ?_
  refine lv_if_ne (tgt := 27) hx hb dX7_lots_11 (by decide) (fun c3 => ?_) (fun c3 => ?_)
  · have hw := ite_f hw c3
    refine lv_iload hx hb dX7_lots_27 (lv_at hl 0 rfl) ?_
    refine lv_if_eq (tgt := 39) hx hb dX7_lots_29 (by decide) (fun c => absurd c c3) (fun _ => ?_)
    refine lv_aload_n hx hb dX7_lots_32 rfl (lv_at hl 1 rfl) ?_
    refine lv_iload hx hb dX7_lots_33 (lv_at hl 0 rfl) ?_
    obtain ⟨k11, hw⟩ := hw
    refine hv_cVI (rm := rm_X7_no) (As := [.int r2]) (rest := []) (k := 1) (ci := 7) hx hb hml hown hKK hH cf7 k11 (m_X7_no v0 r2 _ _ hw) cw_X7_170 ⟨Nat.le_of_ble_eq_true rfl, Nat.le_of_ble_eq_true rfl⟩ rfl hl.1 rfl (Nat.le_of_ble_eq_true rfl) ⟨Nat.le_of_ble_eq_true rfl, Nat.le_of_ble_eq_true rfl⟩ dX7_lots_35 (fun r13 h12 H locs hH hw => ?_)
    exact hv_iret hx hb hr hlk hH hw dX7_lots_38
  · have hw := ite_t hw c3
    refine lv_iload_n hx hb dX7_lots_14 rfl (lv_at hl 4 rfl) ?_
    refine lv_iconst (v := (nI 0)) hx hb dX7_lots_15 (by decide) ?_
    refine lv_iconst (v := (nI 1)) hx hb dX7_lots_16 (by decide) ?_
    refine hv_cSI (rm := rm_X7_isIn) (As := [.int v3, .int (nI 0), .int (nI 1)]) (rest := []) (k := 3) hx hb hml hown hKK hH (m_X7_isIn v3 (nI 0) (nI 1) _ _ hw) cw_X7_85 ⟨Nat.le_of_ble_eq_true rfl, Nat.le_of_ble_eq_true rfl⟩ rfl hl.1 rfl (Nat.le_of_ble_eq_true rfl) ⟨Nat.le_of_ble_eq_true rfl, Nat.le_of_ble_eq_true rfl⟩ dX7_lots_17 (fun r5 h4 H locs hH hw => ?_)
    refine lv_if_ne (tgt := 27) hx hb dX7_lots_20 (by decide) (fun c6 => ?_) (fun c6 => ?_)
    · have hw := ite_f hw c6
      refine lv_iload hx hb dX7_lots_27 (lv_at hl 0 rfl) ?_
      refine lv_if_eq (tgt := 39) hx hb dX7_lots_29 (by decide) (fun _ => ?_) (fun c => absurd c3 c)
      refine lv_aload_n hx hb dX7_lots_39 rfl (lv_at hl 1 rfl) ?_
      refine lv_iload_n hx hb dX7_lots_40 rfl (lv_at hl 3 rfl) ?_
      obtain ⟨k10, hw⟩ := hw
      refine hv_put (ci := 7) (k := 35) hx hb hown hKK hH cf7 (by decide) fl_X7_434 rfl rfl rfl k10 rfl rfl dX7_lots_41 (fun H locs hH => ?_)
      refine lv_iconst (v := (nI 0)) hx hb dX7_lots_44 (by decide) ?_
      refine lv_istore (lv' := [(5, .int (nI 0)), (4, .int r2), (0, .ref v0), (1, .int v1), (2, .int v2), (3, .int v3)]) hx hb dX7_lots_45 hl (by decide) rfl (fun ls hl => ?_)
      refine lv_iconst (v := (nI 0)) hx hb dX7_lots_47 (by decide) ?_
      refine lv_istore (lv' := [(6, .int (nI 0)), (5, .int (nI 0)), (4, .int r2), (0, .ref v0), (1, .int v1), (2, .int v2), (3, .int v3)]) hx hb dX7_lots_48 hl (by decide) rfl (fun ls hl => ?_)
      exact c50 _ _ _ _ _ _ H locs ls hH (lv_sub hl [3, 4, 6, 1, 0] rfl) hw
    · have hw := ite_t hw c6
      refine lv_bipush (v := (-2)) hx hb dX7_lots_23 (by decide) ?_
      refine lv_istore (lv' := [(4, .int (-2)), (0, .ref v0), (1, .int v1), (2, .int v2), (3, .int v3)]) hx hb dX7_lots_25 hl (by decide) rfl (fun ls hl => ?_)
      refine lv_iload hx hb dX7_lots_27 (lv_at hl 0 rfl) ?_
      refine lv_if_eq (tgt := 39) hx hb dX7_lots_29 (by decide) (fun c => absurd c (by decide)) (fun _ => ?_)
      refine lv_aload_n hx hb dX7_lots_32 rfl (lv_at hl 1 rfl) ?_
      refine lv_iload hx hb dX7_lots_33 (lv_at hl 0 rfl) ?_
      obtain ⟨k7, hw⟩ := hw
      refine hv_cVI (rm := rm_X7_no) (As := [.int (-2)]) (rest := []) (k := 1) (ci := 7) hx hb hml hown hKK hH cf7 k7 (m_X7_no v0 (-2) _ _ hw) cw_X7_170 ⟨Nat.le_of_ble_eq_true rfl, Nat.le_of_ble_eq_true rfl⟩ rfl hl.1 rfl (Nat.le_of_ble_eq_true rfl) ⟨Nat.le_of_ble_eq_true rfl, Nat.le_of_ble_eq_true rfl⟩ dX7_lots_35 (fun r9 h8 H locs hH hw => ?_)
      exact hv_iret hx hb hr hlk hH hw dX7_lots_38
abbrev rm_X7_count : Room := { frames := 1, cells := 0, slots := 0, locals := 23 }
set_option maxHeartbeats 4000000 in
set_option maxRecDepth 100000 in
theorem m_X7_count {l : Launch} {G : Gl} {B sz : Nat} {S : St} (v0 : Nat) (v1 : Int32) (h : Hp) (Q : Int32 → Hp → Prop) (hw : w_X7_count S v0 v1 h Q) : MI l G B sz S yX7_count cX7_count 2 .int rm_X7_count [.ref v0, .int v1] h Q := by
  refine met_of rfl rfl ?_
  intro p e s m args below meth c hMB H ls hH hl
  obtain ⟨hx, hb, hml, hown, hKK, hr, hlk⟩ := hMB
  replace hl : lv_has ls 2 [(0, .ref v0), (1, .int v1)] := hl
  unfold w_X7_count at hw
  show W p l e rm_X7_count s m args below meth c H [] 0 0 (QI G B S sz below args s Q) (F0 m 0 ls [])
  generalize ([] : List Loc) = locs at hH ⊢
  refine lv_iload_n hx hb dX7_count_0 rfl (lv_at hl 1 rfl) ?_
  refine lv_bipush (v := (nI 11)) hx hb dX7_count_1 (by decide) ?_
  refine lv_bipush (v := (nI 16)) hx hb dX7_count_3 (by decide) ?_
  refine hv_cSI (rm := rm_X7_isIn) (As := [.int v1, .int (nI 11), .int (nI 16)]) (rest := []) (k := 3) hx hb hml hown hKK hH (m_X7_isIn v1 (nI 11) (nI 16) _ _ hw) cw_X7_85 ⟨Nat.le_of_ble_eq_true rfl, Nat.le_of_ble_eq_true rfl⟩ rfl hl.1 rfl (Nat.le_of_ble_eq_true rfl) ⟨Nat.le_of_ble_eq_true rfl, Nat.le_of_ble_eq_true rfl⟩ dX7_count_5 (fun r2 h1 H locs hH hw => ?_)
  refine lv_if_eq (tgt := 21) hx hb dX7_count_8 (by decide) (fun c3 => ?_) (fun c3 => ?_)
  · have hw := ite_t hw c3
    refine lv_iload_n hx hb dX7_count_21 rfl (lv_at hl 1 rfl) ?_
    by_cases c4 : v1 = (nI 0)
    · have hw := ite_t hw c4
      refine lv_tableIn (tgt := 76) hx hb dX7_count_22 (by rw [c4]; decide) (by rw [c4]; decide) (by rw [c4]; rfl) (by decide) ?_
      refine lv_aload_n hx hb dX7_count_76 rfl (lv_at hl 0 rfl) ?_
      obtain ⟨k5, hw⟩ := hw
      refine hv_get (ci := 7) (k := 13) (v := .int (h1 v0 13)) hx hb hown hKK hH cf7 (by decide) fl_X7_79 rfl k5 rfl dX7_count_77 ?_
      exact hv_iret hx hb hr hlk hH hw dX7_count_80
    have hw := ite_f hw c4
    by_cases c6 : v1 = (nI 1)
    · have hw := ite_t hw c6
      refine lv_tableIn (tgt := 81) hx hb dX7_count_22 (by rw [c6]; decide) (by rw [c6]; decide) (by rw [c6]; rfl) (by decide) ?_
      refine lv_aload_n hx hb dX7_count_81 rfl (lv_at hl 0 rfl) ?_
      obtain ⟨k7, hw⟩ := hw
      refine hv_get (ci := 7) (k := 14) (v := .int (h1 v0 14)) hx hb hown hKK hH cf7 (by decide) fl_X7_136 rfl k7 rfl dX7_count_82 ?_
      exact hv_iret hx hb hr hlk hH hw dX7_count_85
    have hw := ite_f hw c6
    by_cases c8 : v1 = (nI 2)
    · have hw := ite_t hw c8
      refine lv_tableIn (tgt := 86) hx hb dX7_count_22 (by rw [c8]; decide) (by rw [c8]; decide) (by rw [c8]; rfl) (by decide) ?_
      refine lv_aload_n hx hb dX7_count_86 rfl (lv_at hl 0 rfl) ?_
      obtain ⟨k9, hw⟩ := hw
      refine hv_get (ci := 7) (k := 15) (v := .int (h1 v0 15)) hx hb hown hKK hH cf7 (by decide) fl_X7_127 rfl k9 rfl dX7_count_87 ?_
      exact hv_iret hx hb hr hlk hH hw dX7_count_90
    have hw := ite_f hw c8
    by_cases c10 : v1 = (nI 3)
    · have hw := ite_t hw c10
      refine lv_tableIn (tgt := 91) hx hb dX7_count_22 (by rw [c10]; decide) (by rw [c10]; decide) (by rw [c10]; rfl) (by decide) ?_
      refine lv_aload_n hx hb dX7_count_91 rfl (lv_at hl 0 rfl) ?_
      obtain ⟨k11, hw⟩ := hw
      refine hv_cVI (rm := rm_X7_setSettled) (As := []) (rest := []) (k := 0) (ci := 7) hx hb hml hown hKK hH cf7 k11 (m_X7_setSettled v0 _ _ hw) cw_X7_349 ⟨Nat.le_of_ble_eq_true rfl, Nat.le_of_ble_eq_true rfl⟩ rfl hl.1 rfl (Nat.le_of_ble_eq_true rfl) ⟨Nat.le_of_ble_eq_true rfl, Nat.le_of_ble_eq_true rfl⟩ dX7_count_92 (fun r13 h12 H locs hH hw => ?_)
      exact hv_iret hx hb hr hlk hH hw dX7_count_95
    have hw := ite_f hw c10
    by_cases c14 : v1 = (nI 4)
    · have hw := ite_t hw c14
      refine lv_tableIn (tgt := 96) hx hb dX7_count_22 (by rw [c14]; decide) (by rw [c14]; decide) (by rw [c14]; rfl) (by decide) ?_
      refine lv_aload_n hx hb dX7_count_96 rfl (lv_at hl 0 rfl) ?_
      obtain ⟨k15, hw⟩ := hw
      refine hv_get (ci := 7) (k := 9) (v := .ref (S.2 v0 9)) hx hb hown hKK hH cf7 (by decide) fl_X7_37 rfl k15 rfl dX7_count_97 ?_
      refine lv_aload_n hx hb dX7_count_100 rfl (lv_at hl 0 rfl) ?_
      refine hv_get (ci := 7) (k := 13) (v := .int (h1 v0 13)) hx hb hown hKK hH cf7 (by decide) fl_X7_79 rfl k15 rfl dX7_count_101 ?_
      refine hv_cSI (rm := rm_X7_allOf) (As := [.ref (S.2 v0 9), .int (h1 v0 13)]) (rest := []) (k := 2) hx hb hml hown hKK hH (m_X7_allOf (S.2 v0 9) (h1 v0 13) _ _ hw) cw_X7_352 ⟨Nat.le_of_ble_eq_true rfl, Nat.le_of_ble_eq_true rfl⟩ rfl hl.1 rfl (Nat.le_of_ble_eq_true rfl) ⟨Nat.le_of_ble_eq_true rfl, Nat.le_of_ble_eq_true rfl⟩ dX7_count_104 (fun r17 h16 H locs hH hw => ?_)
      exact hv_iret hx hb hr hlk hH hw dX7_count_107
    have hw := ite_f hw c14
    by_cases c18 : v1 = (nI 5)
    · have hw := ite_t hw c18
      refine lv_tableIn (tgt := 108) hx hb dX7_count_22 (by rw [c18]; decide) (by rw [c18]; decide) (by rw [c18]; rfl) (by decide) ?_
      refine lv_aload_n hx hb dX7_count_108 rfl (lv_at hl 0 rfl) ?_
      obtain ⟨k19, hw⟩ := hw
      refine hv_get (ci := 7) (k := 2) (v := .ref (S.2 v0 2)) hx hb hown hKK hH cf7 (by decide) fl_X7_16 rfl k19 rfl dX7_count_109 ?_
      refine lv_bipush (v := (nI 48)) hx hb dX7_count_112 (by decide) ?_
      refine hv_cSI (rm := rm_X7_allOf) (As := [.ref (S.2 v0 2), .int (nI 48)]) (rest := []) (k := 2) hx hb hml hown hKK hH (m_X7_allOf (S.2 v0 2) (nI 48) _ _ hw) cw_X7_352 ⟨Nat.le_of_ble_eq_true rfl, Nat.le_of_ble_eq_true rfl⟩ rfl hl.1 rfl (Nat.le_of_ble_eq_true rfl) ⟨Nat.le_of_ble_eq_true rfl, Nat.le_of_ble_eq_true rfl⟩ dX7_count_114 (fun r21 h20 H locs hH hw => ?_)
      exact hv_iret hx hb hr hlk hH hw dX7_count_117
    have hw := ite_f hw c18
    by_cases c22 : v1 = (nI 6)
    · have hw := ite_t hw c22
      refine lv_tableIn (tgt := 118) hx hb dX7_count_22 (by rw [c22]; decide) (by rw [c22]; decide) (by rw [c22]; rfl) (by decide) ?_
      refine lv_aload_n hx hb dX7_count_118 rfl (lv_at hl 0 rfl) ?_
      obtain ⟨k23, hw⟩ := hw
      refine hv_get (ci := 7) (k := 1) (v := .ref (S.2 v0 1)) hx hb hown hKK hH cf7 (by decide) fl_X7_13 rfl k23 rfl dX7_count_119 ?_
      refine lv_bipush (v := (nI 48)) hx hb dX7_count_122 (by decide) ?_
      refine hv_cSI (rm := rm_X7_allOf) (As := [.ref (S.2 v0 1), .int (nI 48)]) (rest := []) (k := 2) hx hb hml hown hKK hH (m_X7_allOf (S.2 v0 1) (nI 48) _ _ hw) cw_X7_352 ⟨Nat.le_of_ble_eq_true rfl, Nat.le_of_ble_eq_true rfl⟩ rfl hl.1 rfl (Nat.le_of_ble_eq_true rfl) ⟨Nat.le_of_ble_eq_true rfl, Nat.le_of_ble_eq_true rfl⟩ dX7_count_124 (fun r25 h24 H locs hH hw => ?_)
      exact hv_iret hx hb hr hlk hH hw dX7_count_127
    have hw := ite_f hw c22
    by_cases c26 : v1 = (nI 7)
    · have hw := ite_t hw c26
      refine lv_tableIn (tgt := 128) hx hb dX7_count_22 (by rw [c26]; decide) (by rw [c26]; decide) (by rw [c26]; rfl) (by decide) ?_
      refine lv_aload_n hx hb dX7_count_128 rfl (lv_at hl 0 rfl) ?_
      obtain ⟨k27, hw⟩ := hw
      refine hv_get (ci := 7) (k := 22) (v := .int (h1 v0 22)) hx hb hown hKK hH cf7 (by decide) fl_X7_167 rfl k27 rfl dX7_count_129 ?_
      exact hv_iret hx hb hr hlk hH hw dX7_count_132
    have hw := ite_f hw c26
    by_cases c28 : v1 = (nI 8)
    · have hw := ite_t hw c28
      refine lv_tableIn (tgt := 133) hx hb dX7_count_22 (by rw [c28]; decide) (by rw [c28]; decide) (by rw [c28]; rfl) (by decide) ?_
      refine lv_aload_n hx hb dX7_count_133 rfl (lv_at hl 0 rfl) ?_
      obtain ⟨k29, hw⟩ := hw
      refine hv_get (ci := 7) (k := 32) (v := .int (h1 v0 32)) hx hb hown hKK hH cf7 (by decide) fl_X7_374 rfl k29 rfl dX7_count_134 ?_
      exact hv_iret hx hb hr hlk hH hw dX7_count_137
    have hw := ite_f hw c28
    by_cases c30 : v1 = (nI 9)
    · have hw := ite_t hw c30
      refine lv_tableIn (tgt := 138) hx hb dX7_count_22 (by rw [c30]; decide) (by rw [c30]; decide) (by rw [c30]; rfl) (by decide) ?_
      refine lv_aload_n hx hb dX7_count_138 rfl (lv_at hl 0 rfl) ?_
      obtain ⟨k31, hw⟩ := hw
      refine hv_get (ci := 7) (k := 30) (v := .int (h1 v0 30)) hx hb hown hKK hH cf7 (by decide) fl_X7_310 rfl k31 rfl dX7_count_139 ?_
      exact hv_iret hx hb hr hlk hH hw dX7_count_142
    have hw := ite_f hw c30
    refine lv_tableOut (tgt := 143) hx hb dX7_count_22 (by have := ne_toInt (k := 0) (by decide) c4; have := ne_toInt (k := 1) (by decide) c6; have := ne_toInt (k := 2) (by decide) c8; have := ne_toInt (k := 3) (by decide) c10; have := ne_toInt (k := 4) (by decide) c14; have := ne_toInt (k := 5) (by decide) c18; have := ne_toInt (k := 6) (by decide) c22; have := ne_toInt (k := 7) (by decide) c26; have := ne_toInt (k := 8) (by decide) c28; have := ne_toInt (k := 9) (by decide) c30; omega) (by decide) ?_
    refine lv_bipush (v := (-9)) hx hb dX7_count_143 (by decide) ?_
    exact hv_iret hx hb hr hlk hH hw dX7_count_145
  · have hw := ite_f hw c3
    refine lv_aload_n hx hb dX7_count_11 rfl (lv_at hl 0 rfl) ?_
    obtain ⟨k32, hw⟩ := hw
    refine hv_get (ci := 7) (k := 0) (v := .ref (S.2 v0 0)) hx hb hown hKK hH cf7 (by decide) fl_X7_7 rfl k32 rfl dX7_count_12 ?_
    refine lv_iload_n hx hb dX7_count_15 rfl (lv_at hl 1 rfl) ?_
    refine lv_bipush (v := (nI 10)) hx hb dX7_count_16 (by decide) ?_
    refine lv_isub hx hb dX7_count_18 ?_
    obtain ⟨k33, hw⟩ := hw
    refine hv_iald hx hb hKK hH k33 dX7_count_19 ?_
    exact hv_iret hx hb hr hlk hH hw dX7_count_20
