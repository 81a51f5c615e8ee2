abbrev rm_X7_settlesWhen : Room := { frames := 6, cells := 0, slots := 0, locals := 139 }
set_option maxHeartbeats 4000000 in
set_option maxRecDepth 100000 in
theorem m_X7_settlesWhen {l : Launch} {G : Gl} {B sz : Nat} {S : St} (v0 : Nat) (v1 : Int32) (h : Hp) (Q : Int32 → Hp → Prop) (hw : w_X7_settlesWhen S v0 v1 h Q) : MI l G B sz S yX7_settlesWhen cX7_settlesWhen 4 .int rm_X7_settlesWhen [.ref v0, .int v1] h Q := by
  refine met_of rfl rfl ?_
  intro p e s m args below meth c hMB H ls hH hl
  obtain ⟨hx, hb, hml, hown, hKK, hr, hlk⟩ := hMB
  replace hl : lv_has ls 4 [(0, .ref v0), (1, .int v1)] := hl
  have c9 : ∀  (v0 : Nat) (v1 : Int32) (v2 : Int32) (v3 : Int32) (h : Hp) (H : Heap) (locs : List Loc) (ls : Array Slot), HH G B S h sz s H locs → lv_has ls 4 [(0, .ref v0), (1, .int v1), (2, .int v2), (3, .int v3)] → w_X7_settlesWhen_c9 S v0 v1 v2 v3 h Q → W p l e rm_X7_settlesWhen s m args below meth c H locs 0 0 (QI G B S sz below args s Q) (F0 m 9 ls []) := by
    intro  v0 v1 v2 v3 h H locs ls hH hl hw
    unfold w_X7_settlesWhen_c9 at hw
    obtain ⟨P9, hP9⟩ : ∃ P : Int32 → Int32 → Hp → Prop, ∀ (v2 : Int32) (v3 : Int32) (h : Hp), P v2 v3 h ↔ (∀ (H : Heap) (locs : List Loc) (ls : Array Slot), HH G B S h sz s H locs → lv_has ls 4 [(0, .ref v0), (1, .int v1), (2, .int v2), (3, .int v3)] → W p l e rm_X7_settlesWhen s m args below meth c H locs 0 0 (QI G B S sz below args s Q) (F0 m 9 ls [])) := ⟨_, fun v2 v3 h => Iff.rfl⟩
    refine (hP9 v2 v3 h).1 (hw P9 (fun v2 v3 h hw => (hP9 v2 v3 h).2 (fun H locs ls hH hl => ?_))) H locs ls hH hl
    have hK9 : ∀ (v2 : Int32) (v3 : Int32) (h : Hp) (H : Heap) (locs : List Loc) (ls : Array Slot), HH G B S h sz s H locs → lv_has ls 4 [(0, .ref v0), (1, .int v1), (2, .int v2), (3, .int v3)] → P9 v2 v3 h → W p l e rm_X7_settlesWhen s m args below meth c H locs 0 0 (QI G B S sz below args s Q) (F0 m 9 ls []) := fun v2 v3 h H locs ls hH hl hk => (hP9 v2 v3 h).1 hk H locs ls hH hl
    refine lv_iload_n hx hb dX7_settlesWhen_9 rfl (lv_at hl 3 rfl) ?_
    refine lv_bipush (v := (nI 60)) hx hb dX7_settlesWhen_10 (by decide) ?_
    refine lv_icmp_gt (tgt := 46) hx hb dX7_settlesWhen_12 (by decide) (fun c1 => ?_) (fun c1 => ?_)
    · have hw := ite_t hw c1
      refine lv_aload_n hx hb dX7_settlesWhen_46 rfl (lv_at hl 0 rfl) ?_
      obtain ⟨k2, hw⟩ := hw
      refine hv_cVV (rm := rm_X7_forgets) (As := []) (rest := []) (k := 0) (ci := 7) hx hb hml hown hKK hH cf7 k2 (m_X7_forgets v0 _ _ hw) cw_X7_346 ⟨Nat.le_of_ble_eq_true rfl, Nat.le_of_ble_eq_true rfl⟩ rfl hl.1 rfl (Nat.le_of_ble_eq_true rfl) ⟨Nat.le_of_ble_eq_true rfl, Nat.le_of_ble_eq_true rfl⟩ dX7_settlesWhen_47 (fun h3 H locs hH hw => ?_)
      refine lv_iload_n hx hb dX7_settlesWhen_50 rfl (lv_at hl 2 rfl) ?_
      exact hv_iret hx hb hr hlk hH hw dX7_settlesWhen_51
    · have hw := ite_f hw c1
      refine lv_iload_n hx hb dX7_settlesWhen_15 rfl (lv_at hl 2 rfl) ?_
      refine lv_if_ge (tgt := 46) hx hb dX7_settlesWhen_16 (by decide) (fun c4 => ?_) (fun c4 => ?_)
      · have hw := ite_t hw c4
        refine lv_aload_n hx hb dX7_settlesWhen_46 rfl (lv_at hl 0 rfl) ?_
        obtain ⟨k5, hw⟩ := hw
        refine hv_cVV (rm := rm_X7_forgets) (As := []) (rest := []) (k := 0) (ci := 7) hx hb hml hown hKK hH cf7 k5 (m_X7_forgets v0 _ _ hw) cw_X7_346 ⟨Nat.le_of_ble_eq_true rfl, Nat.le_of_ble_eq_true rfl⟩ rfl hl.1 rfl (Nat.le_of_ble_eq_true rfl) ⟨Nat.le_of_ble_eq_true rfl, Nat.le_of_ble_eq_true rfl⟩ dX7_settlesWhen_47 (fun h6 H locs hH hw => ?_)
        refine lv_iload_n hx hb dX7_settlesWhen_50 rfl (lv_at hl 2 rfl) ?_
        exact hv_iret hx hb hr hlk hH hw dX7_settlesWhen_51
      · have hw := ite_f hw c4
        refine lv_aload_n hx hb dX7_settlesWhen_19 rfl (lv_at hl 0 rfl) ?_
        obtain ⟨k7, hw⟩ := hw
        refine hv_get (ci := 7) (k := 10) (v := .ref (S.2 v0 10)) hx hb hown hKK hH cf7 (by decide) fl_X7_40 rfl k7 rfl dX7_settlesWhen_20 ?_
        refine lv_iload_n hx hb dX7_settlesWhen_23 rfl (lv_at hl 1 rfl) ?_
        obtain ⟨k8, hw⟩ := hw
        refine hv_iald hx hb hKK hH k8 dX7_settlesWhen_24 ?_
        refine lv_iconst (v := (nI 1)) hx hb dX7_settlesWhen_25 (by decide) ?_
        refine lv_icmp_ne (tgt := 33) hx hb dX7_settlesWhen_26 (by decide) (fun c9 => ?_) (fun c9 => ?_)
        · have hw := ite_f hw c9
          refine lv_bipush (v := (-9)) hx hb dX7_settlesWhen_33 (by decide) ?_
          refine lv_istore_n (lv' := [(2, .int (-9)), (0, .ref v0), (1, .int v1), (3, .int v3)]) hx hb dX7_settlesWhen_35 rfl hl (by decide) rfl (fun ls hl => ?_)
          refine lv_aload_n hx hb dX7_settlesWhen_36 rfl (lv_at hl 1 rfl) ?_
          refine hv_cVV (rm := rm_X7_goesNight) (As := []) (rest := []) (k := 0) (ci := 7) hx hb hml hown hKK hH cf7 k7 (m_X7_goesNight v0 _ _ hw) cw_X7_160 ⟨Nat.le_of_ble_eq_true rfl, Nat.le_of_ble_eq_true rfl⟩ rfl hl.1 rfl (Nat.le_of_ble_eq_true rfl) ⟨Nat.le_of_ble_eq_true rfl, Nat.le_of_ble_eq_true rfl⟩ dX7_settlesWhen_37 (fun h11 H locs hH hw => ?_)
          refine lv_iinc (v := v3 + (nI 1)) (lv' := [(3, .int (v3 + (nI 1))), (2, .int (-9)), (0, .ref v0), (1, .int v1)]) hx hb dX7_settlesWhen_40 hl (k := 3) rfl rfl (by decide) rfl (fun ls hl => ?_)
          refine lv_goto (tgt := 9) hx hb dX7_settlesWhen_43 (by decide) ?_
          exact hK9 _ _ _ H locs ls hH (lv_sub hl [2, 3, 1, 0] rfl) hw
        · have hw := ite_t hw c9
          refine lv_iload_n hx hb dX7_settlesWhen_29 rfl (lv_at hl 3 rfl) ?_
          refine lv_goto (tgt := 35) hx hb dX7_settlesWhen_30 (by decide) ?_
          refine lv_istore_n (lv' := [(2, .int v3), (0, .ref v0), (1, .int v1), (3, .int v3)]) hx hb dX7_settlesWhen_35 rfl hl (by decide) rfl (fun ls hl => ?_)
          refine lv_aload_n hx hb dX7_settlesWhen_36 rfl (lv_at hl 1 rfl) ?_
          refine hv_cVV (rm := rm_X7_goesNight) (As := []) (rest := []) (k := 0) (ci := 7) hx hb hml hown hKK hH cf7 k7 (m_X7_goesNight v0 _ _ hw) cw_X7_160 ⟨Nat.le_of_ble_eq_true rfl, Nat.le_of_ble_eq_true rfl⟩ rfl hl.1 rfl (Nat.le_of_ble_eq_true rfl) ⟨Nat.le_of_ble_eq_true rfl, Nat.le_of_ble_eq_true rfl⟩ dX7_settlesWhen_37 (fun h10 H locs hH hw => ?_)
          refine lv_iinc (v := v3 + (nI 1)) (lv' := [(3, .int (v3 + (nI 1))), (2, .int v3), (0, .ref v0), (1, .int v1)]) hx hb dX7_settlesWhen_40 hl (k := 3) rfl rfl (by decide) rfl (fun ls hl => ?_)
          refine lv_goto (tgt := 9) hx hb dX7_settlesWhen_43 (by decide) ?_
          exact hK9 _ _ _ H locs ls hH (lv_sub hl [2, 3, 1, 0] rfl) hw
  unfold w_X7_settlesWhen at hw
  show W p l e rm_X7_settlesWhen s m args below meth c H [] 0 0 (QI G B S sz below args s Q) (F0 m 0 ls [])
  generalize ([] : List Loc) = locs at hH ⊢
  refine lv_bipush (v := (-9)) hx hb dX7_settlesWhen_0 (by decide) ?_
  refine lv_istore_n (lv' := [(2, .int (-9)), (0, .ref v0), (1, .int v1)]) hx hb dX7_settlesWhen_2 rfl hl (by decide) rfl (fun ls hl => ?_)
  refine lv_aload_n hx hb dX7_settlesWhen_3 rfl (lv_at hl 1 rfl) ?_
  obtain ⟨k1, hw⟩ := hw
  refine hv_cVV (rm := rm_X7_minds) (As := []) (rest := []) (k := 0) (ci := 7) hx hb hml hown hKK hH cf7 k1 (m_X7_minds v0 _ _ hw) cw_X7_343 ⟨Nat.le_of_ble_eq_true rfl, Nat.le_of_ble_eq_true rfl⟩ rfl hl.1 rfl (Nat.le_of_ble_eq_true rfl) ⟨Nat.le_of_ble_eq_true rfl, Nat.le_of_ble_eq_true rfl⟩ dX7_settlesWhen_4 (fun h2 H locs hH hw => ?_)
  refine lv_iconst (v := (nI 0)) hx hb dX7_settlesWhen_7 (by decide) ?_
  refine lv_istore_n (lv' := [(3, .int (nI 0)), (2, .int (-9)), (0, .ref v0), (1, .int v1)]) hx hb dX7_settlesWhen_8 rfl hl (by decide) rfl (fun ls hl => ?_)
  exact c9 _ _ _ _ _ H locs ls hH (lv_sub hl [2, 3, 1, 0] rfl) hw
abbrev rm_X7_firstToSettle : Room := { frames := 6, cells := 0, slots := 0, locals := 139 }
set_option maxHeartbeats 4000000 in
set_option maxRecDepth 100000 in
theorem m_X7_firstToSettle {l : Launch} {G : Gl} {B sz : Nat} {S : St} (v0 : Nat) (h : Hp) (Q : Int32 → Hp → Prop) (hw : w_X7_firstToSettle S v0 h Q) : MI l G B sz S yX7_firstToSettle cX7_firstToSettle 4 .int rm_X7_firstToSettle [.ref v0] h Q := by
  refine met_of rfl rfl ?_
  intro p e s m args below meth c hMB H ls hH hl
  obtain ⟨hx, hb, hml, hown, hKK, hr, hlk⟩ := hMB
  replace hl : lv_has ls 4 [(0, .ref v0)] := hl
  have c48 : ∀  (v0 : Nat) (v2 : Int32) (v3 : Int32) (h : Hp) (H : Heap) (locs : List Loc) (ls : Array Slot), HH G B S h sz s H locs → lv_has ls 4 [(0, .ref v0), (2, .int v2), (3, .int v3)] → w_X7_firstToSettle_c48 S v0 v2 v3 h Q → W p l e rm_X7_firstToSettle s m args below meth c H locs 0 0 (QI G B S sz below args s Q) (F0 m 48 ls []) := by
    intro  v0 v2 v3 h H locs ls hH hl hw
    unfold w_X7_firstToSettle_c48 at hw
    obtain ⟨P48, hP48⟩ : ∃ P : Int32 → Hp → Prop, ∀ (v3 : Int32) (h : Hp), P v3 h ↔ (∀ (H : Heap) (locs : List Loc) (ls : Array Slot), HH G B S h sz s H locs → lv_has ls 4 [(0, .ref v0), (2, .int v2), (3, .int v3)] → W p l e rm_X7_firstToSettle s m args below meth c H locs 0 0 (QI G B S sz below args s Q) (F0 m 48 ls [])) := ⟨_, fun v3 h => Iff.rfl⟩
    refine (hP48 v3 h).1 (hw P48 (fun v3 h hw => (hP48 v3 h).2 (fun H locs ls hH hl => ?_))) H locs ls hH hl
    have hK48 : ∀ (v3 : Int32) (h : Hp) (H : Heap) (locs : List Loc) (ls : Array Slot), HH G B S h sz s H locs → lv_has ls 4 [(0, .ref v0), (2, .int v2), (3, .int v3)] → P48 v3 h → W p l e rm_X7_firstToSettle s m args below meth c H locs 0 0 (QI G B S sz below args s Q) (F0 m 48 ls []) := fun v3 h H locs ls hH hl hk => (hP48 v3 h).1 hk H locs ls hH hl
    refine lv_iload_n hx hb dX7_firstToSettle_48 rfl (lv_at hl 2 rfl) ?_
    refine lv_aload_n hx hb dX7_firstToSettle_49 rfl (lv_at hl 0 rfl) ?_
    obtain ⟨k1, hw⟩ := hw
    refine hv_get (ci := 7) (k := 13) (v := .int (h v0 13)) hx hb hown hKK hH cf7 (by decide) fl_X7_79 rfl k1 rfl dX7_firstToSettle_50 ?_
    refine lv_icmp_ge (tgt := 72) hx hb dX7_firstToSettle_53 (by decide) (fun c2 => ?_) (fun c2 => ?_)
    · have hw := ite_t hw c2
      refine lv_bipush (v := (-9)) hx hb dX7_firstToSettle_72 (by decide) ?_
      exact hv_iret hx hb hr hlk hH hw dX7_firstToSettle_74
    · have hw := ite_f hw c2
      refine lv_iload_n hx hb dX7_firstToSettle_56 rfl (lv_at hl 1 rfl) ?_
      refine lv_iload_n hx hb dX7_firstToSettle_57 rfl (lv_at hl 2 rfl) ?_
      refine hv_cSI (rm := rm_X7_has) (As := [.int v2, .int v3]) (rest := []) (k := 2) hx hb hml hown hKK hH (m_X7_has v2 v3 _ _ hw) cw_X7_356 ⟨Nat.le_of_ble_eq_true rfl, Nat.le_of_ble_eq_true rfl⟩ rfl hl.1 rfl (Nat.le_of_ble_eq_true rfl) ⟨Nat.le_of_ble_eq_true rfl, Nat.le_of_ble_eq_true rfl⟩ dX7_firstToSettle_58 (fun r4 h3 H locs hH hw => ?_)
      refine lv_if_eq (tgt := 66) hx hb dX7_firstToSettle_61 (by decide) (fun c5 => ?_) (fun c5 => ?_)
      · have hw := ite_t hw c5
        refine lv_iinc (v := v3 + (nI 1)) (lv' := [(3, .int (v3 + (nI 1))), (0, .ref v0), (2, .int v2)]) hx hb dX7_firstToSettle_66 hl (k := 2) rfl rfl (by decide) rfl (fun ls hl => ?_)
        refine lv_goto (tgt := 48) hx hb dX7_firstToSettle_69 (by decide) ?_
        exact hK48 _ _ H locs ls hH (lv_sub hl [1, 2, 0] rfl) hw
      · have hw := ite_f hw c5
        refine lv_iload_n hx hb dX7_firstToSettle_64 rfl (lv_at hl 2 rfl) ?_
        exact hv_iret hx hb hr hlk hH hw dX7_firstToSettle_65
  have c13 : ∀  (v0 : Nat) (v1 : Int32) (v2 : Int32) (v3 : Int32) (h : Hp) (H : Heap) (locs : List Loc) (ls : Array Slot), HH G B S h sz s H locs → lv_has ls 4 [(0, .ref v0), (1, .int v1), (2, .int v2), (3, .int v3)] → w_X7_firstToSettle_c13 S v0 v1 v2 v3 h Q → W p l e rm_X7_firstToSettle s m args below meth c H locs 0 0 (QI G B S sz below args s Q) (F0 m 13 ls []) := by
    intro  v0 v1 v2 v3 h H locs ls hH hl hw
    unfold w_X7_firstToSettle_c13 at hw
    obtain ⟨P13, hP13⟩ : ∃ P : Int32 → Int32 → Hp → Prop, ∀ (v2 : Int32) (v3 : Int32) (h : Hp), P v2 v3 h ↔ (∀ (H : Heap) (locs : List Loc) (ls : Array Slot), HH G B S h sz s H locs → lv_has ls 4 [(0, .ref v0), (1, .int v1), (2, .int v2), (3, .int v3)] → W p l e rm_X7_firstToSettle s m args below meth c H locs 0 0 (QI G B S sz below args s Q) (F0 m 13 ls [])) := ⟨_, fun v2 v3 h => Iff.rfl⟩
    refine (hP13 v2 v3 h).1 (hw P13 (fun v2 v3 h hw => (hP13 v2 v3 h).2 (fun H locs ls hH hl => ?_))) H locs ls hH hl
    have hK13 : ∀ (v2 : Int32) (v3 : Int32) (h : Hp) (H : Heap) (locs : List Loc) (ls : Array Slot), HH G B S h sz s H locs → lv_has ls 4 [(0, .ref v0), (1, .int v1), (2, .int v2), (3, .int v3)] → P13 v2 v3 h → W p l e rm_X7_firstToSettle s m args below meth c H locs 0 0 (QI G B S sz below args s Q) (F0 m 13 ls []) := fun v2 v3 h H locs ls hH hl hk => (hP13 v2 v3 h).1 hk H locs ls hH hl
    refine lv_iload_n hx hb dX7_firstToSettle_13 rfl (lv_at hl 3 rfl) ?_
    refine lv_bipush (v := (nI 60)) hx hb dX7_firstToSettle_14 (by decide) ?_
    refine lv_icmp_ge (tgt := 42) hx hb dX7_firstToSettle_16 (by decide) (fun c1 => ?_) (fun c1 => ?_)
    · have hw := ite_t hw c1
      refine lv_aload_n hx hb dX7_firstToSettle_42 rfl (lv_at hl 0 rfl) ?_
      obtain ⟨k2, hw⟩ := hw
      refine hv_cVV (rm := rm_X7_forgets) (As := []) (rest := []) (k := 0) (ci := 7) hx hb hml hown hKK hH cf7 k2 (m_X7_forgets v0 _ _ hw) cw_X7_346 ⟨Nat.le_of_ble_eq_true rfl, Nat.le_of_ble_eq_true rfl⟩ rfl hl.1 rfl (Nat.le_of_ble_eq_true rfl) ⟨Nat.le_of_ble_eq_true rfl, Nat.le_of_ble_eq_true rfl⟩ dX7_firstToSettle_43 (fun h3 H locs hH hw => ?_)
      refine lv_iconst (v := (nI 0)) hx hb dX7_firstToSettle_46 (by decide) ?_
      refine lv_istore_n (lv' := [(3, .int (nI 0)), (0, .ref v0), (1, .int v1), (2, .int v2)]) hx hb dX7_firstToSettle_47 rfl hl (by decide) rfl (fun ls hl => ?_)
      exact c48 _ _ _ _ H locs ls hH (lv_sub hl [1, 3, 0] rfl) hw
    · have hw := ite_f hw c1
      refine lv_iload_n hx hb dX7_firstToSettle_19 rfl (lv_at hl 2 rfl) ?_
      refine lv_if_ne (tgt := 42) hx hb dX7_firstToSettle_20 (by decide) (fun c4 => ?_) (fun c4 => ?_)
      · have hw := ite_f hw c4
        refine lv_aload_n hx hb dX7_firstToSettle_42 rfl (lv_at hl 0 rfl) ?_
        obtain ⟨k9, hw⟩ := hw
        refine hv_cVV (rm := rm_X7_forgets) (As := []) (rest := []) (k := 0) (ci := 7) hx hb hml hown hKK hH cf7 k9 (m_X7_forgets v0 _ _ hw) cw_X7_346 ⟨Nat.le_of_ble_eq_true rfl, Nat.le_of_ble_eq_true rfl⟩ rfl hl.1 rfl (Nat.le_of_ble_eq_true rfl) ⟨Nat.le_of_ble_eq_true rfl, Nat.le_of_ble_eq_true rfl⟩ dX7_firstToSettle_43 (fun h10 H locs hH hw => ?_)
        refine lv_iconst (v := (nI 0)) hx hb dX7_firstToSettle_46 (by decide) ?_
        refine lv_istore_n (lv' := [(3, .int (nI 0)), (0, .ref v0), (1, .int v1), (2, .int v2)]) hx hb dX7_firstToSettle_47 rfl hl (by decide) rfl (fun ls hl => ?_)
        exact c48 _ _ _ _ H locs ls hH (lv_sub hl [1, 3, 0] rfl) hw
      · have hw := ite_t hw c4
        refine lv_aload_n hx hb dX7_firstToSettle_23 rfl (lv_at hl 0 rfl) ?_
        obtain ⟨k5, hw⟩ := hw
        refine hv_cVV (rm := rm_X7_goesNight) (As := []) (rest := []) (k := 0) (ci := 7) hx hb hml hown hKK hH cf7 k5 (m_X7_goesNight v0 _ _ hw) cw_X7_160 ⟨Nat.le_of_ble_eq_true rfl, Nat.le_of_ble_eq_true rfl⟩ rfl hl.1 rfl (Nat.le_of_ble_eq_true rfl) ⟨Nat.le_of_ble_eq_true rfl, Nat.le_of_ble_eq_true rfl⟩ dX7_firstToSettle_24 (fun h6 H locs hH hw => ?_)
        refine lv_aload_n hx hb dX7_firstToSettle_27 rfl (lv_at hl 0 rfl) ?_
        refine hv_cVI (rm := rm_X7_setSettled) (As := []) (rest := []) (k := 0) (ci := 7) hx hb hml hown hKK hH cf7 k5 (m_X7_setSettled v0 _ _ hw) cw_X7_349 ⟨Nat.le_of_ble_eq_true rfl, Nat.le_of_ble_eq_true rfl⟩ rfl hl.1 rfl (Nat.le_of_ble_eq_true rfl) ⟨Nat.le_of_ble_eq_true rfl, Nat.le_of_ble_eq_true rfl⟩ dX7_firstToSettle_28 (fun r8 h7 H locs hH hw => ?_)
        refine lv_iload_n hx hb dX7_firstToSettle_31 rfl (lv_at hl 1 rfl) ?_
        refine lv_iconst (v := (-1)) hx hb dX7_firstToSettle_32 (by decide) ?_
        refine lv_ixor hx hb dX7_firstToSettle_33 ?_
        refine lv_iand hx hb dX7_firstToSettle_34 ?_
        refine lv_istore_n (lv' := [(2, .int (r8 &&& (v1 ^^^ (-1)))), (0, .ref v0), (1, .int v1), (3, .int v3)]) hx hb dX7_firstToSettle_35 rfl hl (by decide) rfl (fun ls hl => ?_)
        refine lv_iinc (v := v3 + (nI 1)) (lv' := [(3, .int (v3 + (nI 1))), (2, .int (r8 &&& (v1 ^^^ (-1)))), (0, .ref v0), (1, .int v1)]) hx hb dX7_firstToSettle_36 hl (k := 3) rfl rfl (by decide) rfl (fun ls hl => ?_)
        refine lv_goto (tgt := 13) hx hb dX7_firstToSettle_39 (by decide) ?_
        exact hK13 _ _ _ H locs ls hH (lv_sub hl [2, 3, 1, 0] rfl) hw
  unfold w_X7_firstToSettle at hw
  show W p l e rm_X7_firstToSettle s m args below meth c H [] 0 0 (QI G B S sz below args s Q) (F0 m 0 ls [])
  generalize ([] : List Loc) = locs at hH ⊢
  refine lv_aload_n hx hb dX7_firstToSettle_0 rfl (lv_at hl 0 rfl) ?_
  obtain ⟨k1, hw⟩ := hw
  refine hv_cVI (rm := rm_X7_setSettled) (As := []) (rest := []) (k := 0) (ci := 7) hx hb hml hown hKK hH cf7 k1 (m_X7_setSettled v0 _ _ hw) cw_X7_349 ⟨Nat.le_of_ble_eq_true rfl, Nat.le_of_ble_eq_true rfl⟩ rfl hl.1 rfl (Nat.le_of_ble_eq_true rfl) ⟨Nat.le_of_ble_eq_true rfl, Nat.le_of_ble_eq_true rfl⟩ dX7_firstToSettle_1 (fun r3 h2 H locs hH hw => ?_)
  refine lv_istore_n (lv' := [(1, .int r3), (0, .ref v0)]) hx hb dX7_firstToSettle_4 rfl hl (by decide) rfl (fun ls hl => ?_)
  refine lv_iconst (v := (nI 0)) hx hb dX7_firstToSettle_5 (by decide) ?_
  refine lv_istore_n (lv' := [(2, .int (nI 0)), (1, .int r3), (0, .ref v0)]) hx hb dX7_firstToSettle_6 rfl hl (by decide) rfl (fun ls hl => ?_)
  refine lv_aload_n hx hb dX7_firstToSettle_7 rfl (lv_at hl 2 rfl) ?_
  refine hv_cVV (rm := rm_X7_minds) (As := []) (rest := []) (k := 0) (ci := 7) hx hb hml hown hKK hH cf7 k1 (m_X7_minds v0 _ _ hw) cw_X7_343 ⟨Nat.le_of_ble_eq_true rfl, Nat.le_of_ble_eq_true rfl⟩ rfl hl.1 rfl (Nat.le_of_ble_eq_true rfl) ⟨Nat.le_of_ble_eq_true rfl, Nat.le_of_ble_eq_true rfl⟩ dX7_firstToSettle_8 (fun h4 H locs hH hw => ?_)
  refine lv_iconst (v := (nI 0)) hx hb dX7_firstToSettle_11 (by decide) ?_
  refine lv_istore_n (lv' := [(3, .int (nI 0)), (2, .int (nI 0)), (1, .int r3), (0, .ref v0)]) hx hb dX7_firstToSettle_12 rfl hl (by decide) rfl (fun ls hl => ?_)
  exact c13 _ _ _ _ _ H locs ls hH (lv_sub hl [3, 2, 1, 0] rfl) hw
abbrev rm_X7_settles : Room := { frames := 7, cells := 0, slots := 0, locals := 162 }
set_option maxHeartbeats 4000000 in
set_option maxRecDepth 100000 in
theorem m_X7_settles {l : Launch} {G : Gl} {B sz : Nat} {S : St} (v0 : Nat) (v1 : Int32) (h : Hp) (Q : Int32 → Hp → Prop) (hw : w_X7_settles S v0 v1 h Q) : MI l G B sz S yX7_settles cX7_settles 2 .int rm_X7_settles [.ref v0, .int v1] h Q := by
  refine met_of rfl rfl ?_
  intro p e s m args below meth c hMB H ls hH hl
  obtain ⟨hx, hb, hml, hown, hKK, hr, hlk⟩ := hMB
  replace hl : lv_has ls 2 [(0, .ref v0), (1, .int v1)] := hl
  unfold w_X7_settles at hw
  show W p l e rm_X7_settles s m args below meth c H [] 0 0 (QI G B S sz below args s Q) (F0 m 0 ls [])
  generalize ([] : List Loc) = locs at hH ⊢
  refine lv_iload_n hx hb dX7_settles_0 rfl (lv_at hl 1 rfl) ?_
  refine lv_iconst (v := (-1)) hx hb dX7_settles_1 (by decide) ?_
  refine lv_aload_n hx hb dX7_settles_2 rfl (lv_at hl 0 rfl) ?_
  obtain ⟨k1, hw⟩ := hw
  refine hv_get (ci := 7) (k := 13) (v := .int (h v0 13)) hx hb hown hKK hH cf7 (by decide) fl_X7_79 rfl k1 rfl dX7_settles_3 ?_
  refine lv_iconst (v := (nI 1)) hx hb dX7_settles_6 (by decide) ?_
  refine lv_isub hx hb dX7_settles_7 ?_
  refine hv_cSI (rm := rm_X7_isIn) (As := [.int v1, .int (-1), .int ((h v0 13) - (nI 1))]) (rest := []) (k := 3) hx hb hml hown hKK hH (m_X7_isIn v1 (-1) ((h v0 13) - (nI 1)) _ _ hw) cw_X7_85 ⟨Nat.le_of_ble_eq_true rfl, Nat.le_of_ble_eq_true rfl⟩ rfl hl.1 rfl (Nat.le_of_ble_eq_true rfl) ⟨Nat.le_of_ble_eq_true rfl, Nat.le_of_ble_eq_true rfl⟩ dX7_settles_8 (fun r3 h2 H locs hH hw => ?_)
  refine lv_if_ne (tgt := 20) hx hb dX7_settles_11 (by decide) (fun c4 => ?_) (fun c4 => ?_)
  · have hw := ite_f hw c4
    refine lv_iload_n hx hb dX7_settles_20 rfl (lv_at hl 1 rfl) ?_
    refine lv_if_ge (tgt := 31) hx hb dX7_settles_21 (by decide) (fun c7 => ?_) (fun c7 => ?_)
    · have hw := ite_t hw c7
      refine lv_aload_n hx hb dX7_settles_31 rfl (lv_at hl 0 rfl) ?_
      refine lv_iload_n hx hb dX7_settles_32 rfl (lv_at hl 1 rfl) ?_
      refine hv_cVI (rm := rm_X7_settlesWhen) (As := [.int v1]) (rest := []) (k := 1) (ci := 7) hx hb hml hown hKK hH cf7 k1 (m_X7_settlesWhen v0 v1 _ _ hw) cw_X7_362 ⟨Nat.le_of_ble_eq_true rfl, Nat.le_of_ble_eq_true rfl⟩ rfl hl.1 rfl (Nat.le_of_ble_eq_true rfl) ⟨Nat.le_of_ble_eq_true rfl, Nat.le_of_ble_eq_true rfl⟩ dX7_settles_33 (fun r9 h8 H locs hH hw => ?_)
      exact hv_iret hx hb hr hlk hH hw dX7_settles_36
    · have hw := ite_f hw c7
      refine lv_aload_n hx hb dX7_settles_24 rfl (lv_at hl 0 rfl) ?_
      refine hv_cVI (rm := rm_X7_firstToSettle) (As := []) (rest := []) (k := 0) (ci := 7) hx hb hml hown hKK hH cf7 k1 (m_X7_firstToSettle v0 _ _ hw) cw_X7_359 ⟨Nat.le_of_ble_eq_true rfl, Nat.le_of_ble_eq_true rfl⟩ rfl hl.1 rfl (Nat.le_of_ble_eq_true rfl) ⟨Nat.le_of_ble_eq_true rfl, Nat.le_of_ble_eq_true rfl⟩ dX7_settles_25 (fun r11 h10 H locs hH hw => ?_)
      refine lv_goto (tgt := 36) hx hb dX7_settles_28 (by decide) ?_
      exact hv_iret hx hb hr hlk hH hw dX7_settles_36
  · have hw := ite_t hw c4
    refine lv_aload_n hx hb dX7_settles_14 rfl (lv_at hl 0 rfl) ?_
    refine lv_iconst (v := (-1)) hx hb dX7_settles_15 (by decide) ?_
    refine hv_cVI (rm := rm_X7_no) (As := [.int (-1)]) (rest := []) (k := 1) (ci := 7) hx hb hml hown hKK hH cf7 k1 (m_X7_no v0 (-1) _ _ hw) cw_X7_170 ⟨Nat.le_of_ble_eq_true rfl, Nat.le_of_ble_eq_true rfl⟩ rfl hl.1 rfl (Nat.le_of_ble_eq_true rfl) ⟨Nat.le_of_ble_eq_true rfl, Nat.le_of_ble_eq_true rfl⟩ dX7_settles_16 (fun r6 h5 H locs hH hw => ?_)
    exact hv_iret hx hb hr hlk hH hw dX7_settles_19
abbrev rm_X7_meeting : Room := { frames := 6, cells := 0, slots := 0, locals := 139 }
set_option maxHeartbeats 4000000 in
set_option maxRecDepth 100000 in
theorem m_X7_meeting {l : Launch} {G : Gl} {B sz : Nat} {S : St} (v0 : Nat) (v1 : Int32) (v2 : Int32) (h : Hp) (Q : Int32 → Hp → Prop) (hw : w_X7_meeting S v0 v1 v2 h Q) : MI l G B sz S yX7_meeting cX7_meeting 5 .int rm_X7_meeting [.ref v0, .int v1, .int v2] h Q := by
  refine met_of rfl rfl ?_
  intro p e s m args below meth c hMB H ls hH hl
  obtain ⟨hx, hb, hml, hown, hKK, hr, hlk⟩ := hMB
  replace hl : lv_has ls 5 [(0, .ref v0), (1, .int v1), (2, .int v2)] := hl
  have c25 : ∀  (v0 : Nat) (v1 : Int32) (v2 : Int32) (v3 : Int32) (v4 : Int32) (h : Hp) (H : Heap) (locs : List Loc) (ls : Array Slot), HH G B S h sz s H locs → lv_has ls 5 [(0, .ref v0), (1, .int v1), (2, .int v2), (3, .int v3), (4, .int v4)] → w_X7_meeting_c25 S v0 v1 v2 v3 v4 h Q → W p l e rm_X7_meeting s m args below meth c H locs 0 0 (QI G B S sz below args s Q) (F0 m 25 ls []) := by
    intro  v0 v1 v2 v3 v4 h H locs ls hH hl hw
    unfold w_X7_meeting_c25 at hw
    obtain ⟨P25, hP25⟩ : ∃ P : Int32 → Int32 → Hp → Prop, ∀ (v3 : Int32) (v4 : Int32) (h : Hp), P v3 v4 h ↔ (∀ (H : Heap) (locs : List Loc) (ls : Array Slot), HH G B S h sz s H locs → lv_has ls 5 [(0, .ref v0), (1, .int v1), (2, .int v2), (3, .int v3), (4, .int v4)] → W p l e rm_X7_meeting s m args below meth c H locs 0 0 (QI G B S sz below args s Q) (F0 m 25 ls [])) := ⟨_, fun v3 v4 h => Iff.rfl⟩
    refine (hP25 v3 v4 h).1 (hw P25 (fun v3 v4 h hw => (hP25 v3 v4 h).2 (fun H locs ls hH hl => ?_))) H locs ls hH hl
    have hK25 : ∀ (v3 : Int32) (v4 : Int32) (h : Hp) (H : Heap) (locs : List Loc) (ls : Array Slot), HH G B S h sz s H locs → lv_has ls 5 [(0, .ref v0), (1, .int v1), (2, .int v2), (3, .int v3), (4, .int v4)] → P25 v3 v4 h → W p l e rm_X7_meeting s m args below meth c H locs 0 0 (QI G B S sz below args s Q) (F0 m 25 ls []) := fun v3 v4 h H locs ls hH hl hk => (hP25 v3 v4 h).1 hk H locs ls hH hl
    refine lv_iload hx hb dX7_meeting_25 (lv_at hl 4 rfl) ?_
    refine lv_bipush (v := (nI 60)) hx hb dX7_meeting_27 (by decide) ?_
    refine lv_icmp_gt (tgt := 69) hx hb dX7_meeting_29 (by decide) (fun c1 => ?_) (fun c1 => ?_)
    · have hw := ite_t hw c1
      refine lv_aload_n hx hb dX7_meeting_69 rfl (lv_at hl 0 rfl) ?_
      obtain ⟨k2, hw⟩ := hw
      refine hv_cVV (rm := rm_X7_forgets) (As := []) (rest := []) (k := 0) (ci := 7) hx hb hml hown hKK hH cf7 k2 (m_X7_forgets v0 _ _ hw) cw_X7_346 ⟨Nat.le_of_ble_eq_true rfl, Nat.le_of_ble_eq_true rfl⟩ rfl hl.1 rfl (Nat.le_of_ble_eq_true rfl) ⟨Nat.le_of_ble_eq_true rfl, Nat.le_of_ble_eq_true rfl⟩ dX7_meeting_70 (fun h3 H locs hH hw => ?_)
      refine lv_iload_n hx hb dX7_meeting_73 rfl (lv_at hl 3 rfl) ?_
      exact hv_iret hx hb hr hlk hH hw dX7_meeting_74
    · have hw := ite_f hw c1
      refine lv_iload_n hx hb dX7_meeting_32 rfl (lv_at hl 3 rfl) ?_
      refine lv_if_ge (tgt := 69) hx hb dX7_meeting_33 (by decide) (fun c4 => ?_) (fun c4 => ?_)
      · have hw := ite_t hw c4
        refine lv_aload_n hx hb dX7_meeting_69 rfl (lv_at hl 0 rfl) ?_
        obtain ⟨k5, hw⟩ := hw
        refine hv_cVV (rm := rm_X7_forgets) (As := []) (rest := []) (k := 0) (ci := 7) hx hb hml hown hKK hH cf7 k5 (m_X7_forgets v0 _ _ hw) cw_X7_346 ⟨Nat.le_of_ble_eq_true rfl, Nat.le_of_ble_eq_true rfl⟩ rfl hl.1 rfl (Nat.le_of_ble_eq_true rfl) ⟨Nat.le_of_ble_eq_true rfl, Nat.le_of_ble_eq_true rfl⟩ dX7_meeting_70 (fun h6 H locs hH hw => ?_)
        refine lv_iload_n hx hb dX7_meeting_73 rfl (lv_at hl 3 rfl) ?_
        exact hv_iret hx hb hr hlk hH hw dX7_meeting_74
      · have hw := ite_f hw c4
        refine lv_aload_n hx hb dX7_meeting_36 rfl (lv_at hl 0 rfl) ?_
        obtain ⟨k7, hw⟩ := hw
        refine hv_get (ci := 7) (k := 6) (v := .ref (S.2 v0 6)) hx hb hown hKK hH cf7 (by decide) fl_X7_28 rfl k7 rfl dX7_meeting_37 ?_
        refine lv_iload_n hx hb dX7_meeting_40 rfl (lv_at hl 1 rfl) ?_
        obtain ⟨k8, hw⟩ := hw
        refine hv_iald hx hb hKK hH k8 dX7_meeting_41 ?_
        refine lv_aload_n hx hb dX7_meeting_42 rfl (lv_at hl 0 rfl) ?_
        refine hv_get (ci := 7) (k := 6) (v := .ref (S.2 v0 6)) hx hb hown hKK hH cf7 (by decide) fl_X7_28 rfl k7 rfl dX7_meeting_43 ?_
        refine lv_iload_n hx hb dX7_meeting_46 rfl (lv_at hl 2 rfl) ?_
        obtain ⟨k9, hw⟩ := hw
        refine hv_iald hx hb hKK hH k9 dX7_meeting_47 ?_
        refine lv_icmp_ne (tgt := 56) hx hb dX7_meeting_48 (by decide) (fun c10 => ?_) (fun c10 => ?_)
        · have hw := ite_f hw c10
          refine lv_bipush (v := (-9)) hx hb dX7_meeting_56 (by decide) ?_
          refine lv_istore_n (lv' := [(3, .int (-9)), (0, .ref v0), (1, .int v1), (2, .int v2), (4, .int v4)]) hx hb dX7_meeting_58 rfl hl (by decide) rfl (fun ls hl => ?_)
          refine lv_aload_n hx hb dX7_meeting_59 rfl (lv_at hl 1 rfl) ?_
          refine hv_cVV (rm := rm_X7_goesNight) (As := []) (rest := []) (k := 0) (ci := 7) hx hb hml hown hKK hH cf7 k7 (m_X7_goesNight v0 _ _ hw) cw_X7_160 ⟨Nat.le_of_ble_eq_true rfl, Nat.le_of_ble_eq_true rfl⟩ rfl hl.1 rfl (Nat.le_of_ble_eq_true rfl) ⟨Nat.le_of_ble_eq_true rfl, Nat.le_of_ble_eq_true rfl⟩ dX7_meeting_60 (fun h12 H locs hH hw => ?_)
          refine lv_iinc (v := v4 + (nI 1)) (lv' := [(4, .int (v4 + (nI 1))), (3, .int (-9)), (0, .ref v0), (1, .int v1), (2, .int v2)]) hx hb dX7_meeting_63 hl (k := 4) rfl rfl (by decide) rfl (fun ls hl => ?_)
          refine lv_goto (tgt := 25) hx hb dX7_meeting_66 (by decide) ?_
          exact hK25 _ _ _ H locs ls hH (lv_sub hl [2, 3, 4, 1, 0] rfl) hw
        · have hw := ite_t hw c10
          refine lv_iload hx hb dX7_meeting_51 (lv_at hl 4 rfl) ?_
          refine lv_goto (tgt := 58) hx hb dX7_meeting_53 (by decide) ?_
          refine lv_istore_n (lv' := [(3, .int v4), (0, .ref v0), (1, .int v1), (2, .int v2), (4, .int v4)]) hx hb dX7_meeting_58 rfl hl (by decide) rfl (fun ls hl => ?_)
          refine lv_aload_n hx hb dX7_meeting_59 rfl (lv_at hl 1 rfl) ?_
          refine hv_cVV (rm := rm_X7_goesNight) (As := []) (rest := []) (k := 0) (ci := 7) hx hb hml hown hKK hH cf7 k7 (m_X7_goesNight v0 _ _ hw) cw_X7_160 ⟨Nat.le_of_ble_eq_true rfl, Nat.le_of_ble_eq_true rfl⟩ rfl hl.1 rfl (Nat.le_of_ble_eq_true rfl) ⟨Nat.le_of_ble_eq_true rfl, Nat.le_of_ble_eq_true rfl⟩ dX7_meeting_60 (fun h11 H locs hH hw => ?_)
          refine lv_iinc (v := v4 + (nI 1)) (lv' := [(4, .int (v4 + (nI 1))), (3, .int v4), (0, .ref v0), (1, .int v1), (2, .int v2)]) hx hb dX7_meeting_63 hl (k := 4) rfl rfl (by decide) rfl (fun ls hl => ?_)
          refine lv_goto (tgt := 25) hx hb dX7_meeting_66 (by decide) ?_
          exact hK25 _ _ _ H locs ls hH (lv_sub hl [2, 3, 4, 1, 0] rfl) hw
  unfold w_X7_meeting at hw
  show W p l e rm_X7_meeting s m args below meth c H [] 0 0 (QI G B S sz below args s Q) (F0 m 0 ls [])
  generalize ([] : List Loc) = locs at hH ⊢
  refine lv_aload_n hx hb dX7_meeting_0 rfl (lv_at hl 0 rfl) ?_
  refine lv_iload_n hx hb dX7_meeting_1 rfl (lv_at hl 1 rfl) ?_
  refine lv_iload_n hx hb dX7_meeting_2 rfl (lv_at hl 2 rfl) ?_
  obtain ⟨k1, hw⟩ := hw
  refine hv_cVI (rm := rm_X7_areTwo) (As := [.int v1, .int v2]) (rest := []) (k := 2) (ci := 7) hx hb hml hown hKK hH cf7 k1 (m_X7_areTwo v0 v1 v2 _ _ hw) cw_X7_365 ⟨Nat.le_of_ble_eq_true rfl, Nat.le_of_ble_eq_true rfl⟩ rfl hl.1 rfl (Nat.le_of_ble_eq_true rfl) ⟨Nat.le_of_ble_eq_true rfl, Nat.le_of_ble_eq_true rfl⟩ dX7_meeting_3 (fun r3 h2 H locs hH hw => ?_)
  refine lv_if_ne (tgt := 15) hx hb dX7_meeting_6 (by decide) (fun c4 => ?_) (fun c4 => ?_)
  · have hw := ite_f hw c4
    refine lv_bipush (v := (-9)) hx hb dX7_meeting_15 (by decide) ?_
    refine lv_istore_n (lv' := [(3, .int (-9)), (0, .ref v0), (1, .int v1), (2, .int v2)]) hx hb dX7_meeting_17 rfl hl (by decide) rfl (fun ls hl => ?_)
    refine lv_aload_n hx hb dX7_meeting_18 rfl (lv_at hl 1 rfl) ?_
    refine hv_cVV (rm := rm_X7_minds) (As := []) (rest := []) (k := 0) (ci := 7) hx hb hml hown hKK hH cf7 k1 (m_X7_minds v0 _ _ hw) cw_X7_343 ⟨Nat.le_of_ble_eq_true rfl, Nat.le_of_ble_eq_true rfl⟩ rfl hl.1 rfl (Nat.le_of_ble_eq_true rfl) ⟨Nat.le_of_ble_eq_true rfl, Nat.le_of_ble_eq_true rfl⟩ dX7_meeting_19 (fun h7 H locs hH hw => ?_)
    refine lv_iconst (v := (nI 0)) hx hb dX7_meeting_22 (by decide) ?_
    refine lv_istore (lv' := [(4, .int (nI 0)), (3, .int (-9)), (0, .ref v0), (1, .int v1), (2, .int v2)]) hx hb dX7_meeting_23 hl (by decide) rfl (fun ls hl => ?_)
    exact c25 _ _ _ _ _ _ H locs ls hH (lv_sub hl [2, 3, 4, 1, 0] rfl) hw
  · have hw := ite_t hw c4
    refine lv_aload_n hx hb dX7_meeting_9 rfl (lv_at hl 0 rfl) ?_
    refine lv_iconst (v := (-1)) hx hb dX7_meeting_10 (by decide) ?_
    refine hv_cVI (rm := rm_X7_no) (As := [.int (-1)]) (rest := []) (k := 1) (ci := 7) hx hb hml hown hKK hH cf7 k1 (m_X7_no v0 (-1) _ _ hw) cw_X7_170 ⟨Nat.le_of_ble_eq_true rfl, Nat.le_of_ble_eq_true rfl⟩ rfl hl.1 rfl (Nat.le_of_ble_eq_true rfl) ⟨Nat.le_of_ble_eq_true rfl, Nat.le_of_ble_eq_true rfl⟩ dX7_meeting_11 (fun r6 h5 H locs hH hw => ?_)
    exact hv_iret hx hb hr hlk hH hw dX7_meeting_14
abbrev rm_X7_bestWord : Room := { frames := 7, cells := 0, slots := 0, locals := 161 }
set_option maxHeartbeats 4000000 in
set_option maxRecDepth 100000 in
theorem m_X7_bestWord {l : Launch} {G : Gl} {B sz : Nat} {S : St} (v0 : Nat) (v1 : Int32) (v2 : Int32) (v3 : Int32) (h : Hp) (Q : Int32 → Hp → Prop) (hw : w_X7_bestWord S v0 v1 v2 v3 h Q) : MI l G B sz S yX7_bestWord cX7_bestWord 9 .int rm_X7_bestWord [.ref v0, .int v1, .int v2, .int v3] h Q := by
  refine met_of rfl rfl ?_
  intro p e s m args below meth c hMB H ls hH hl
  obtain ⟨hx, hb, hml, hown, hKK, hr, hlk⟩ := hMB
  replace hl : lv_has ls 9 [(0, .ref v0), (1, .int v1), (2, .int v2), (3, .int v3)] := hl
  have c62 : ∀  (v0 : Nat) (v1 : Int32) (v2 : Int32) (v3 : Int32) (v5 : Int32) (v6 : Int32) (v7 : Int32) (h : Hp) (H : Heap) (locs : List Loc) (ls : Array Slot), HH G B S h sz s H locs → lv_has ls 9 [(0, .ref v0), (1, .int v1), (2, .int v2), (3, .int v3), (5, .int v5), (6, .int v6), (7, .int v7)] → w_X7_bestWord_c62 S v0 v1 v2 v3 v5 v6 v7 h Q → W p l e rm_X7_bestWord s m args below meth c H locs 0 0 (QI G B S sz below args s Q) (F0 m 62 ls []) := by
    intro  v0 v1 v2 v3 v5 v6 v7 h H locs ls hH hl hw
    unfold w_X7_bestWord_c62 at hw
    obtain ⟨P62, hP62⟩ : ∃ P : Int32 → Int32 → Int32 → Hp → Prop, ∀ (v5 : Int32) (v6 : Int32) (v7 : Int32) (h : Hp), P v5 v6 v7 h ↔ (∀ (H : Heap) (locs : List Loc) (ls : Array Slot), HH G B S h sz s H locs → lv_has ls 9 [(0, .ref v0), (1, .int v1), (2, .int v2), (3, .int v3), (5, .int v5), (6, .int v6), (7, .int v7)] → W p l e rm_X7_bestWord s m args below meth c H locs 0 0 (QI G B S sz below args s Q) (F0 m 62 ls [])) := ⟨_, fun v5 v6 v7 h => Iff.rfl⟩
    refine (hP62 v5 v6 v7 h).1 (hw P62 (fun v5 v6 v7 h hw => (hP62 v5 v6 v7 h).2 (fun H locs ls hH hl => ?_))) H locs ls hH hl
    have hK62 : ∀ (v5 : Int32) (v6 : Int32) (v7 : Int32) (h : Hp) (H : Heap) (locs : List Loc) (ls : Array Slot), HH G B S h sz s H locs → lv_has ls 9 [(0, .ref v0), (1, .int v1), (2, .int v2), (3, .int v3), (5, .int v5), (6, .int v6), (7, .int v7)] → P62 v5 v6 v7 h → W p l e rm_X7_bestWord s m args below meth c H locs 0 0 (QI G B S sz below args s Q) (F0 m 62 ls []) := fun v5 v6 v7 h H locs ls hH hl hk => (hP62 v5 v6 v7 h).1 hk H locs ls hH hl
    refine lv_iload hx hb dX7_bestWord_62 (lv_at hl 6 rfl) ?_
    refine lv_iconst (v := (nI 4)) hx hb dX7_bestWord_64 (by decide) ?_
    refine lv_icmp_gt (tgt := 121) hx hb dX7_bestWord_65 (by decide) (fun c1 => ?_) (fun c1 => ?_)
    · have hw := ite_t hw c1
      refine lv_iload_n hx hb dX7_bestWord_121 rfl (lv_at hl 3 rfl) ?_
      refine lv_if_ne (tgt := 130) hx hb dX7_bestWord_122 (by decide) (fun c2 => ?_) (fun c2 => ?_)
      · have hw := ite_f hw c2
        refine lv_iload hx hb dX7_bestWord_130 (lv_at hl 5 rfl) ?_
        exact hv_iret hx hb hr hlk hH hw dX7_bestWord_132
      · have hw := ite_t hw c2
        refine lv_iload hx hb dX7_bestWord_125 (lv_at hl 4 rfl) ?_
        refine lv_goto (tgt := 132) hx hb dX7_bestWord_127 (by decide) ?_
        exact hv_iret hx hb hr hlk hH hw dX7_bestWord_132
    · have hw := ite_f hw c1
      refine lv_aload_n hx hb dX7_bestWord_68 rfl (lv_at hl 0 rfl) ?_
      obtain ⟨k3, hw⟩ := hw
      refine hv_cVV (rm := rm_X7_minds) (As := []) (rest := []) (k := 0) (ci := 7) hx hb hml hown hKK hH cf7 k3 (m_X7_minds v0 _ _ hw) cw_X7_343 ⟨Nat.le_of_ble_eq_true rfl, Nat.le_of_ble_eq_true rfl⟩ rfl hl.1 rfl (Nat.le_of_ble_eq_true rfl) ⟨Nat.le_of_ble_eq_true rfl, Nat.le_of_ble_eq_true rfl⟩ dX7_bestWord_69 (fun h4 H locs hH hw => ?_)
      refine lv_aload_n hx hb dX7_bestWord_72 rfl (lv_at hl 0 rfl) ?_
      refine hv_get (ci := 7) (k := 8) (v := .ref (S.2 v0 8)) hx hb hown hKK hH cf7 (by decide) fl_X7_34 rfl k3 rfl dX7_bestWord_73 ?_
      refine lv_iload_n hx hb dX7_bestWord_76 rfl (lv_at hl 1 rfl) ?_
      refine lv_iload hx hb dX7_bestWord_77 (lv_at hl 6 rfl) ?_
      obtain ⟨k5, hw⟩ := hw
      refine hv_iast hx hb hKK hH k5 dX7_bestWord_79 (fun H locs hH => ?_)
      refine lv_aload_n hx hb dX7_bestWord_80 rfl (lv_at hl 0 rfl) ?_
      refine lv_iload_n hx hb dX7_bestWord_81 rfl (lv_at hl 2 rfl) ?_
      refine hv_cVV (rm := rm_X7_goes) (As := [.int v2]) (rest := []) (k := 1) (ci := 7) hx hb hml hown hKK hH cf7 k3 (m_X7_goes v0 v2 _ _ hw) cw_X7_261 ⟨Nat.le_of_ble_eq_true rfl, Nat.le_of_ble_eq_true rfl⟩ rfl hl.1 rfl (Nat.le_of_ble_eq_true rfl) ⟨Nat.le_of_ble_eq_true rfl, Nat.le_of_ble_eq_true rfl⟩ dX7_bestWord_82 (fun h6 H locs hH hw => ?_)
      refine lv_aload_n hx hb dX7_bestWord_85 rfl (lv_at hl 0 rfl) ?_
      refine hv_get (ci := 7) (k := 9) (v := .ref (S.2 v0 9)) hx hb hown hKK hH cf7 (by decide) fl_X7_37 rfl k3 rfl dX7_bestWord_86 ?_
      refine lv_iload_n hx hb dX7_bestWord_89 rfl (lv_at hl 1 rfl) ?_
      obtain ⟨k7, hw⟩ := hw
      refine hv_iald hx hb hKK hH k7 dX7_bestWord_90 ?_
      refine lv_istore (lv' := [(8, .int (h6 (S.2 v0 9) (ix v1))), (0, .ref v0), (1, .int v1), (2, .int v2), (3, .int v3), (5, .int v5), (6, .int v6), (7, .int v7)]) hx hb dX7_bestWord_91 hl (by decide) rfl (fun ls hl => ?_)
      refine lv_aload_n hx hb dX7_bestWord_93 rfl (lv_at hl 1 rfl) ?_
      refine hv_cVV (rm := rm_X7_forgets) (As := []) (rest := []) (k := 0) (ci := 7) hx hb hml hown hKK hH cf7 k3 (m_X7_forgets v0 _ _ hw) cw_X7_346 ⟨Nat.le_of_ble_eq_true rfl, Nat.le_of_ble_eq_true rfl⟩ rfl hl.1 rfl (Nat.le_of_ble_eq_true rfl) ⟨Nat.le_of_ble_eq_true rfl, Nat.le_of_ble_eq_true rfl⟩ dX7_bestWord_94 (fun h8 H locs hH hw => ?_)
      refine lv_iload hx hb dX7_bestWord_97 (lv_at hl 0 rfl) ?_
      refine lv_iload hx hb dX7_bestWord_99 (lv_at hl 6 rfl) ?_
      refine lv_icmp_gt (tgt := 107) hx hb dX7_bestWord_101 (by decide) (fun c9 => ?_) (fun c9 => ?_)
      · have hw := ite_t hw c9
        refine lv_iload hx hb dX7_bestWord_107 (lv_at hl 7 rfl) ?_
        refine lv_istore (lv' := [(5, .int v7), (8, .int (h6 (S.2 v0 9) (ix v1))), (0, .ref v0), (1, .int v1), (2, .int v2), (3, .int v3), (6, .int v6), (7, .int v7)]) hx hb dX7_bestWord_109 hl (by decide) rfl (fun ls hl => ?_)
        refine lv_iload hx hb dX7_bestWord_111 (lv_at hl 1 rfl) ?_
        refine lv_istore (lv' := [(6, .int (h6 (S.2 v0 9) (ix v1))), (5, .int v7), (8, .int (h6 (S.2 v0 9) (ix v1))), (0, .ref v0), (1, .int v1), (2, .int v2), (3, .int v3), (7, .int v7)]) hx hb dX7_bestWord_113 hl (by decide) rfl (fun ls hl => ?_)
        refine lv_iinc (v := v7 + (nI 1)) (lv' := [(7, .int (v7 + (nI 1))), (6, .int (h6 (S.2 v0 9) (ix v1))), (5, .int v7), (8, .int (h6 (S.2 v0 9) (ix v1))), (0, .ref v0), (1, .int v1), (2, .int v2), (3, .int v3)]) hx hb dX7_bestWord_115 hl (k := 7) rfl rfl (by decide) rfl (fun ls hl => ?_)
        refine lv_goto (tgt := 62) hx hb dX7_bestWord_118 (by decide) ?_
        exact hK62 _ _ _ _ H locs ls hH (lv_sub hl [4, 5, 6, 7, 2, 1, 0] rfl) hw
      · have hw := ite_f hw c9
        refine lv_goto (tgt := 115) hx hb dX7_bestWord_104 (by decide) ?_
        refine lv_iinc (v := v7 + (nI 1)) (lv' := [(7, .int (v7 + (nI 1))), (8, .int (h6 (S.2 v0 9) (ix v1))), (0, .ref v0), (1, .int v1), (2, .int v2), (3, .int v3), (5, .int v5), (6, .int v6)]) hx hb dX7_bestWord_115 hl (k := 7) rfl rfl (by decide) rfl (fun ls hl => ?_)
        refine lv_goto (tgt := 62) hx hb dX7_bestWord_118 (by decide) ?_
        exact hK62 _ _ _ _ H locs ls hH (lv_sub hl [2, 3, 4, 5, 6, 7, 0] rfl) hw
  have c19 : ∀  (v0 : Nat) (v1 : Int32) (v2 : Int32) (v3 : Int32) (s0 : Int32) (h : Hp) (H : Heap) (locs : List Loc) (ls : Array Slot), HH G B S h sz s H locs → lv_has ls 9 [(0, .ref v0), (1, .int v1), (2, .int v2), (3, .int v3)] → w_X7_bestWord_c19 S v0 v1 v2 v3 s0 h Q → W p l e rm_X7_bestWord s m args below meth c H locs 0 0 (QI G B S sz below args s Q) (F0 m 19 ls [.int s0]) := by
    intro  v0 v1 v2 v3 s0 h H locs ls hH hl hw
    unfold w_X7_bestWord_c19 at hw
    refine lv_istore (lv' := [(4, .int s0), (0, .ref v0), (1, .int v1), (2, .int v2), (3, .int v3)]) hx hb dX7_bestWord_19 hl (by decide) rfl (fun ls hl => ?_)
    refine lv_iload hx hb dX7_bestWord_21 (lv_at hl 0 rfl) ?_
    refine lv_if_ne (tgt := 39) hx hb dX7_bestWord_23 (by decide) (fun c1 => ?_) (fun c1 => ?_)
    · have hw := ite_f hw c1
      refine lv_iload hx hb dX7_bestWord_39 (lv_at hl 0 rfl) ?_
      refine lv_if_eq (tgt := 51) hx hb dX7_bestWord_41 (by decide) (fun c => absurd c c1) (fun _ => ?_)
      refine lv_aload_n hx hb dX7_bestWord_44 rfl (lv_at hl 1 rfl) ?_
      refine lv_iload hx hb dX7_bestWord_45 (lv_at hl 0 rfl) ?_
      obtain ⟨k8, hw⟩ := hw
      refine hv_cVI (rm := rm_X7_no) (As := [.int s0]) (rest := []) (k := 1) (ci := 7) hx hb hml hown hKK hH cf7 k8 (m_X7_no v0 s0 _ _ hw) cw_X7_170 ⟨Nat.le_of_ble_eq_true rfl, Nat.le_of_ble_eq_true rfl⟩ rfl hl.1 rfl (Nat.le_of_ble_eq_true rfl) ⟨Nat.le_of_ble_eq_true rfl, Nat.le_of_ble_eq_true rfl⟩ dX7_bestWord_47 (fun r10 h9 H locs hH hw => ?_)
      exact hv_iret hx hb hr hlk hH hw dX7_bestWord_50
    · have hw := ite_t hw c1
      refine lv_iload_n hx hb dX7_bestWord_26 rfl (lv_at hl 4 rfl) ?_
      refine lv_iconst (v := (nI 0)) hx hb dX7_bestWord_27 (by decide) ?_
      refine lv_iconst (v := (nI 1)) hx hb dX7_bestWord_28 (by decide) ?_
      refine hv_cSI (rm := rm_X7_isIn) (As := [.int v3, .int (nI 0), .int (nI 1)]) (rest := []) (k := 3) hx hb hml hown hKK hH (m_X7_isIn v3 (nI 0) (nI 1) _ _ hw) cw_X7_85 ⟨Nat.le_of_ble_eq_true rfl, Nat.le_of_ble_eq_true rfl⟩ rfl hl.1 rfl (Nat.le_of_ble_eq_true rfl) ⟨Nat.le_of_ble_eq_true rfl, Nat.le_of_ble_eq_true rfl⟩ dX7_bestWord_29 (fun r3 h2 H locs hH hw => ?_)
      refine lv_if_ne (tgt := 39) hx hb dX7_bestWord_32 (by decide) (fun c4 => ?_) (fun c4 => ?_)
      · have hw := ite_f hw c4
        refine lv_iload hx hb dX7_bestWord_39 (lv_at hl 0 rfl) ?_
        refine lv_if_eq (tgt := 51) hx hb dX7_bestWord_41 (by decide) (fun _ => ?_) (fun c => absurd c1 c)
        refine lv_bipush (v := (-9)) hx hb dX7_bestWord_51 (by decide) ?_
        refine lv_istore (lv' := [(5, .int (-9)), (4, .int s0), (0, .ref v0), (1, .int v1), (2, .int v2), (3, .int v3)]) hx hb dX7_bestWord_53 hl (by decide) rfl (fun ls hl => ?_)
        refine lv_bipush (v := (-9)) hx hb dX7_bestWord_55 (by decide) ?_
        refine lv_istore (lv' := [(6, .int (-9)), (5, .int (-9)), (4, .int s0), (0, .ref v0), (1, .int v1), (2, .int v2), (3, .int v3)]) hx hb dX7_bestWord_57 hl (by decide) rfl (fun ls hl => ?_)
        refine lv_iconst (v := (nI 0)) hx hb dX7_bestWord_59 (by decide) ?_
        refine lv_istore (lv' := [(7, .int (nI 0)), (6, .int (-9)), (5, .int (-9)), (4, .int s0), (0, .ref v0), (1, .int v1), (2, .int v2), (3, .int v3)]) hx hb dX7_bestWord_60 hl (by decide) rfl (fun ls hl => ?_)
        exact c62 _ _ _ _ _ _ _ _ H locs ls hH (lv_sub hl [4, 5, 6, 7, 2, 1, 0] rfl) hw
      · have hw := ite_t hw c4
        refine lv_bipush (v := (-2)) hx hb dX7_bestWord_35 (by decide) ?_
        refine lv_istore (lv' := [(4, .int (-2)), (0, .ref v0), (1, .int v1), (2, .int v2), (3, .int v3)]) hx hb dX7_bestWord_37 hl (by decide) rfl (fun ls hl => ?_)
        refine lv_iload hx hb dX7_bestWord_39 (lv_at hl 0 rfl) ?_
        refine lv_if_eq (tgt := 51) hx hb dX7_bestWord_41 (by decide) (fun c => absurd c (by decide)) (fun _ => ?_)
        refine lv_aload_n hx hb dX7_bestWord_44 rfl (lv_at hl 1 rfl) ?_
        refine lv_iload hx hb dX7_bestWord_45 (lv_at hl 0 rfl) ?_
        obtain ⟨k5, hw⟩ := hw
        refine hv_cVI (rm := rm_X7_no) (As := [.int (-2)]) (rest := []) (k := 1) (ci := 7) hx hb hml hown hKK hH cf7 k5 (m_X7_no v0 (-2) _ _ hw) cw_X7_170 ⟨Nat.le_of_ble_eq_true rfl, Nat.le_of_ble_eq_true rfl⟩ rfl hl.1 rfl (Nat.le_of_ble_eq_true rfl) ⟨Nat.le_of_ble_eq_true rfl, Nat.le_of_ble_eq_true rfl⟩ dX7_bestWord_47 (fun r7 h6 H locs hH hw => ?_)
        exact hv_iret hx hb hr hlk hH hw dX7_bestWord_50
  unfold w_X7_bestWord at hw
  show W p l e rm_X7_bestWord s m args below meth c H [] 0 0 (QI G B S sz below args s Q) (F0 m 0 ls [])
  generalize ([] : List Loc) = locs at hH ⊢
  refine lv_aload_n hx hb dX7_bestWord_0 rfl (lv_at hl 0 rfl) ?_
  refine lv_iload_n hx hb dX7_bestWord_1 rfl (lv_at hl 1 rfl) ?_
  obtain ⟨k1, hw⟩ := hw
  refine hv_cVI (rm := rm_X7_isHead) (As := [.int v1]) (rest := []) (k := 1) (ci := 7) hx hb hml hown hKK hH cf7 k1 (m_X7_isHead v0 v1 _ _ hw) cw_X7_89 ⟨Nat.le_of_ble_eq_true rfl, Nat.le_of_ble_eq_true rfl⟩ rfl hl.1 rfl (Nat.le_of_ble_eq_true rfl) ⟨Nat.le_of_ble_eq_true rfl, Nat.le_of_ble_eq_true rfl⟩ dX7_bestWord_2 (fun r3 h2 H locs hH hw => ?_)
  refine lv_if_ne (tgt := 12) hx hb dX7_bestWord_5 (by decide) (fun c4 => ?_) (fun c4 => ?_)
  · have hw := ite_f hw c4
    refine lv_iload_n hx hb dX7_bestWord_12 rfl (lv_at hl 2 rfl) ?_
    refine lv_iconst (v := (nI 0)) hx hb dX7_bestWord_13 (by decide) ?_
    refine lv_bipush (v := (nI 60)) hx hb dX7_bestWord_14 (by decide) ?_
    refine hv_cSI (rm := rm_X7_bound) (As := [.int v2, .int (nI 0), .int (nI 60)]) (rest := []) (k := 3) hx hb hml hown hKK hH (m_X7_bound v2 (nI 0) (nI 60) _ _ hw) cw_X7_163 ⟨Nat.le_of_ble_eq_true rfl, Nat.le_of_ble_eq_true rfl⟩ rfl hl.1 rfl (Nat.le_of_ble_eq_true rfl) ⟨Nat.le_of_ble_eq_true rfl, Nat.le_of_ble_eq_true rfl⟩ dX7_bestWord_16 (fun r6 h5 H locs hH hw => ?_)
    exact c19 _ _ _ _ _ _ H locs ls hH (lv_sub hl [0, 1, 2, 3] rfl) hw
  · have hw := ite_t hw c4
    refine lv_iconst (v := (-1)) hx hb dX7_bestWord_8 (by decide) ?_
    refine lv_goto (tgt := 19) hx hb dX7_bestWord_9 (by decide) ?_
    exact c19 _ _ _ _ _ _ H locs ls hH (lv_sub hl [0, 1, 2, 3] rfl) hw
abbrev rm_X7_bestLetter : Room := { frames := 7, cells := 0, slots := 0, locals := 161 }
set_option maxHeartbeats 4000000 in
set_option maxRecDepth 100000 in
theorem m_X7_bestLetter {l : Launch} {G : Gl} {B sz : Nat} {S : St} (v0 : Nat) (v1 : Int32) (v2 : Int32) (v3 : Int32) (h : Hp) (Q : Int32 → Hp → Prop) (hw : w_X7_bestLetter S v0 v1 v2 v3 h Q) : MI l G B sz S yX7_bestLetter cX7_bestLetter 9 .int rm_X7_bestLetter [.ref v0, .int v1, .int v2, .int v3] h Q := by
  refine met_of rfl rfl ?_
  intro p e s m args below meth c hMB H ls hH hl
  obtain ⟨hx, hb, hml, hown, hKK, hr, hlk⟩ := hMB
  replace hl : lv_has ls 9 [(0, .ref v0), (1, .int v1), (2, .int v2), (3, .int v3)] := hl
  have c76 : ∀  (v0 : Nat) (v1 : Int32) (v2 : Int32) (v3 : Int32) (v5 : Int32) (v6 : Int32) (v7 : Int32) (h : Hp) (H : Heap) (locs : List Loc) (ls : Array Slot), HH G B S h sz s H locs → lv_has ls 9 [(0, .ref v0), (1, .int v1), (2, .int v2), (3, .int v3), (5, .int v5), (6, .int v6), (7, .int v7)] → w_X7_bestLetter_c76 S v0 v1 v2 v3 v5 v6 v7 h Q → W p l e rm_X7_bestLetter s m args below meth c H locs 0 0 (QI G B S sz below args s Q) (F0 m 76 ls []) := by
    intro  v0 v1 v2 v3 v5 v6 v7 h H locs ls hH hl hw
    unfold w_X7_bestLetter_c76 at hw
    obtain ⟨P76, hP76⟩ : ∃ P : Int32 → Int32 → Int32 → Hp → Prop, ∀ (v5 : Int32) (v6 : Int32) (v7 : Int32) (h : Hp), P v5 v6 v7 h ↔ (∀ (H : Heap) (locs : List Loc) (ls : Array Slot), HH G B S h sz s H locs → lv_has ls 9 [(0, .ref v0), (1, .int v1), (2, .int v2), (3, .int v3), (5, .int v5), (6, .int v6), (7, .int v7)] → W p l e rm_X7_bestLetter s m args below meth c H locs 0 0 (QI G B S sz below args s Q) (F0 m 76 ls [])) := ⟨_, fun v5 v6 v7 h => Iff.rfl⟩
    refine (hP76 v5 v6 v7 h).1 (hw P76 (fun v5 v6 v7 h hw => (hP76 v5 v6 v7 h).2 (fun H locs ls hH hl => ?_))) H locs ls hH hl
    have hK76 : ∀ (v5 : Int32) (v6 : Int32) (v7 : Int32) (h : Hp) (H : Heap) (locs : List Loc) (ls : Array Slot), HH G B S h sz s H locs → lv_has ls 9 [(0, .ref v0), (1, .int v1), (2, .int v2), (3, .int v3), (5, .int v5), (6, .int v6), (7, .int v7)] → P76 v5 v6 v7 h → W p l e rm_X7_bestLetter s m args below meth c H locs 0 0 (QI G B S sz below args s Q) (F0 m 76 ls []) := fun v5 v6 v7 h H locs ls hH hl hk => (hP76 v5 v6 v7 h).1 hk H locs ls hH hl
    refine lv_iload hx hb dX7_bestLetter_76 (lv_at hl 6 rfl) ?_
    refine lv_bipush (v := (nI 26)) hx hb dX7_bestLetter_78 (by decide) ?_
    refine lv_icmp_ge (tgt := 135) hx hb dX7_bestLetter_80 (by decide) (fun c1 => ?_) (fun c1 => ?_)
    · have hw := ite_t hw c1
      refine lv_iload_n hx hb dX7_bestLetter_135 rfl (lv_at hl 3 rfl) ?_
      refine lv_if_ne (tgt := 144) hx hb dX7_bestLetter_136 (by decide) (fun c2 => ?_) (fun c2 => ?_)
      · have hw := ite_f hw c2
        refine lv_iload hx hb dX7_bestLetter_144 (lv_at hl 5 rfl) ?_
        exact hv_iret hx hb hr hlk hH hw dX7_bestLetter_146
      · have hw := ite_t hw c2
        refine lv_iload hx hb dX7_bestLetter_139 (lv_at hl 4 rfl) ?_
        refine lv_goto (tgt := 146) hx hb dX7_bestLetter_141 (by decide) ?_
        exact hv_iret hx hb hr hlk hH hw dX7_bestLetter_146
    · have hw := ite_f hw c1
      refine lv_aload_n hx hb dX7_bestLetter_83 rfl (lv_at hl 0 rfl) ?_
      obtain ⟨k3, hw⟩ := hw
      refine hv_cVV (rm := rm_X7_minds) (As := []) (rest := []) (k := 0) (ci := 7) hx hb hml hown hKK hH cf7 k3 (m_X7_minds v0 _ _ hw) cw_X7_343 ⟨Nat.le_of_ble_eq_true rfl, Nat.le_of_ble_eq_true rfl⟩ rfl hl.1 rfl (Nat.le_of_ble_eq_true rfl) ⟨Nat.le_of_ble_eq_true rfl, Nat.le_of_ble_eq_true rfl⟩ dX7_bestLetter_84 (fun h4 H locs hH hw => ?_)
      refine lv_aload_n hx hb dX7_bestLetter_87 rfl (lv_at hl 0 rfl) ?_
      refine lv_iload_n hx hb dX7_bestLetter_88 rfl (lv_at hl 1 rfl) ?_
      refine lv_iload hx hb dX7_bestLetter_89 (lv_at hl 6 rfl) ?_
      refine hv_cVV (rm := rm_X7_puts) (As := [.int v1, .int v7]) (rest := []) (k := 2) (ci := 7) hx hb hml hown hKK hH cf7 k3 (m_X7_puts v0 v1 v7 _ _ hw) cw_X7_339 ⟨Nat.le_of_ble_eq_true rfl, Nat.le_of_ble_eq_true rfl⟩ rfl hl.1 rfl (Nat.le_of_ble_eq_true rfl) ⟨Nat.le_of_ble_eq_true rfl, Nat.le_of_ble_eq_true rfl⟩ dX7_bestLetter_91 (fun h5 H locs hH hw => ?_)
      refine lv_aload_n hx hb dX7_bestLetter_94 rfl (lv_at hl 0 rfl) ?_
      refine lv_iload_n hx hb dX7_bestLetter_95 rfl (lv_at hl 2 rfl) ?_
      refine hv_cVV (rm := rm_X7_goes) (As := [.int v2]) (rest := []) (k := 1) (ci := 7) hx hb hml hown hKK hH cf7 k3 (m_X7_goes v0 v2 _ _ hw) cw_X7_261 ⟨Nat.le_of_ble_eq_true rfl, Nat.le_of_ble_eq_true rfl⟩ rfl hl.1 rfl (Nat.le_of_ble_eq_true rfl) ⟨Nat.le_of_ble_eq_true rfl, Nat.le_of_ble_eq_true rfl⟩ dX7_bestLetter_96 (fun h6 H locs hH hw => ?_)
      refine lv_aload_n hx hb dX7_bestLetter_99 rfl (lv_at hl 0 rfl) ?_
      refine hv_get (ci := 7) (k := 9) (v := .ref (S.2 v0 9)) hx hb hown hKK hH cf7 (by decide) fl_X7_37 rfl k3 rfl dX7_bestLetter_100 ?_
      refine lv_iload_n hx hb dX7_bestLetter_103 rfl (lv_at hl 1 rfl) ?_
      obtain ⟨k7, hw⟩ := hw
      refine hv_iald hx hb hKK hH k7 dX7_bestLetter_104 ?_
      refine lv_istore (lv' := [(8, .int (h6 (S.2 v0 9) (ix v1))), (0, .ref v0), (1, .int v1), (2, .int v2), (3, .int v3), (5, .int v5), (6, .int v6), (7, .int v7)]) hx hb dX7_bestLetter_105 hl (by decide) rfl (fun ls hl => ?_)
      refine lv_aload_n hx hb dX7_bestLetter_107 rfl (lv_at hl 1 rfl) ?_
      refine hv_cVV (rm := rm_X7_forgets) (As := []) (rest := []) (k := 0) (ci := 7) hx hb hml hown hKK hH cf7 k3 (m_X7_forgets v0 _ _ hw) cw_X7_346 ⟨Nat.le_of_ble_eq_true rfl, Nat.le_of_ble_eq_true rfl⟩ rfl hl.1 rfl (Nat.le_of_ble_eq_true rfl) ⟨Nat.le_of_ble_eq_true rfl, Nat.le_of_ble_eq_true rfl⟩ dX7_bestLetter_108 (fun h8 H locs hH hw => ?_)
      refine lv_iload hx hb dX7_bestLetter_111 (lv_at hl 0 rfl) ?_
      refine lv_iload hx hb dX7_bestLetter_113 (lv_at hl 6 rfl) ?_
      refine lv_icmp_gt (tgt := 121) hx hb dX7_bestLetter_115 (by decide) (fun c9 => ?_) (fun c9 => ?_)
      · have hw := ite_t hw c9
        refine lv_iload hx hb dX7_bestLetter_121 (lv_at hl 7 rfl) ?_
        refine lv_istore (lv' := [(5, .int v7), (8, .int (h6 (S.2 v0 9) (ix v1))), (0, .ref v0), (1, .int v1), (2, .int v2), (3, .int v3), (6, .int v6), (7, .int v7)]) hx hb dX7_bestLetter_123 hl (by decide) rfl (fun ls hl => ?_)
        refine lv_iload hx hb dX7_bestLetter_125 (lv_at hl 1 rfl) ?_
        refine lv_istore (lv' := [(6, .int (h6 (S.2 v0 9) (ix v1))), (5, .int v7), (8, .int (h6 (S.2 v0 9) (ix v1))), (0, .ref v0), (1, .int v1), (2, .int v2), (3, .int v3), (7, .int v7)]) hx hb dX7_bestLetter_127 hl (by decide) rfl (fun ls hl => ?_)
        refine lv_iinc (v := v7 + (nI 1)) (lv' := [(7, .int (v7 + (nI 1))), (6, .int (h6 (S.2 v0 9) (ix v1))), (5, .int v7), (8, .int (h6 (S.2 v0 9) (ix v1))), (0, .ref v0), (1, .int v1), (2, .int v2), (3, .int v3)]) hx hb dX7_bestLetter_129 hl (k := 7) rfl rfl (by decide) rfl (fun ls hl => ?_)
        refine lv_goto (tgt := 76) hx hb dX7_bestLetter_132 (by decide) ?_
        exact hK76 _ _ _ _ H locs ls hH (lv_sub hl [4, 5, 6, 7, 2, 1, 0] rfl) hw
      · have hw := ite_f hw c9
        refine lv_goto (tgt := 129) hx hb dX7_bestLetter_118 (by decide) ?_
        refine lv_iinc (v := v7 + (nI 1)) (lv' := [(7, .int (v7 + (nI 1))), (8, .int (h6 (S.2 v0 9) (ix v1))), (0, .ref v0), (1, .int v1), (2, .int v2), (3, .int v3), (5, .int v5), (6, .int v6)]) hx hb dX7_bestLetter_129 hl (k := 7) rfl rfl (by decide) rfl (fun ls hl => ?_)
        refine lv_goto (tgt := 76) hx hb dX7_bestLetter_132 (by decide) ?_
        exact hK76 _ _ _ _ H locs ls hH (lv_sub hl [2, 3, 4, 5, 6, 7, 0] rfl) hw
  have c19 : ∀  (v0 : Nat) (v1 : Int32) (v2 : Int32) (v3 : Int32) (s0 : Int32) (h : Hp) (H : Heap) (locs : List Loc) (ls : Array Slot), HH G B S h sz s H locs → lv_has ls 9 [(0, .ref v0), (1, .int v1), (2, .int v2), (3, .int v3)] → w_X7_bestLetter_c19 S v0 v1 v2 v3 s0 h Q → W p l e rm_X7_bestLetter s m args below meth c H locs 0 0 (QI G B S sz below args s Q) (F0 m 19 ls [.int s0]) := by
    intro  v0 v1 v2 v3 s0 h H locs ls hH hl hw
    unfold w_X7_bestLetter_c19 at hw
    refine lv_istore (lv' := [(4, .int s0), (0, .ref v0), (1, .int v1), (2, .int v2), (3, .int v3)]) hx hb dX7_bestLetter_19 hl (by decide) rfl (fun ls hl => ?_)
    refine lv_iload hx hb dX7_bestLetter_21 (lv_at hl 0 rfl) ?_
    refine lv_if_ne (tgt := 39) hx hb dX7_bestLetter_23 (by decide) (fun c1 => ?_) (fun c1 => ?_)
    · have hw := ite_f hw c1
      refine lv_iload hx hb dX7_bestLetter_39 (lv_at hl 0 rfl) ?_
      refine lv_if_eq (tgt := 51) hx hb dX7_bestLetter_41 (by decide) (fun c => absurd c c1) (fun _ => ?_)
      refine lv_aload_n hx hb dX7_bestLetter_44 rfl (lv_at hl 1 rfl) ?_
      refine lv_iload hx hb dX7_bestLetter_45 (lv_at hl 0 rfl) ?_
      obtain ⟨k11, hw⟩ := hw
      refine hv_cVI (rm := rm_X7_no) (As := [.int s0]) (rest := []) (k := 1) (ci := 7) hx hb hml hown hKK hH cf7 k11 (m_X7_no v0 s0 _ _ hw) cw_X7_170 ⟨Nat.le_of_ble_eq_true rfl, Nat.le_of_ble_eq_true rfl⟩ rfl hl.1 rfl (Nat.le_of_ble_eq_true rfl) ⟨Nat.le_of_ble_eq_true rfl, Nat.le_of_ble_eq_true rfl⟩ dX7_bestLetter_47 (fun r13 h12 H locs hH hw => ?_)
      exact hv_iret hx hb hr hlk hH hw dX7_bestLetter_50
    · have hw := ite_t hw c1
      refine lv_iload_n hx hb dX7_bestLetter_26 rfl (lv_at hl 4 rfl) ?_
      refine lv_iconst (v := (nI 0)) hx hb dX7_bestLetter_27 (by decide) ?_
      refine lv_iconst (v := (nI 1)) hx hb dX7_bestLetter_28 (by decide) ?_
      refine hv_cSI (rm := rm_X7_isIn) (As := [.int v3, .int (nI 0), .int (nI 1)]) (rest := []) (k := 3) hx hb hml hown hKK hH (m_X7_isIn v3 (nI 0) (nI 1) _ _ hw) cw_X7_85 ⟨Nat.le_of_ble_eq_true rfl, Nat.le_of_ble_eq_true rfl⟩ rfl hl.1 rfl (Nat.le_of_ble_eq_true rfl) ⟨Nat.le_of_ble_eq_true rfl, Nat.le_of_ble_eq_true rfl⟩ dX7_bestLetter_29 (fun r3 h2 H locs hH hw => ?_)
      refine lv_if_ne (tgt := 39) hx hb dX7_bestLetter_32 (by decide) (fun c4 => ?_) (fun c4 => ?_)
      · have hw := ite_f hw c4
        refine lv_iload hx hb dX7_bestLetter_39 (lv_at hl 0 rfl) ?_
        refine lv_if_eq (tgt := 51) hx hb dX7_bestLetter_41 (by decide) (fun _ => ?_) (fun c => absurd c1 c)
        refine lv_aload_n hx hb dX7_bestLetter_51 rfl (lv_at hl 1 rfl) ?_
        obtain ⟨k8, hw⟩ := hw
        refine hv_get (ci := 7) (k := 11) (v := .ref (S.2 v0 11)) hx hb hown hKK hH cf7 (by decide) fl_X7_43 rfl k8 rfl dX7_bestLetter_52 ?_
        refine lv_iload_n hx hb dX7_bestLetter_55 rfl (lv_at hl 2 rfl) ?_
        obtain ⟨k9, hw⟩ := hw
        refine hv_iald hx hb hKK hH k9 dX7_bestLetter_56 ?_
        refine lv_bipush (v := (nI 6)) hx hb dX7_bestLetter_57 (by decide) ?_
        refine lv_icmp_ne (tgt := 65) hx hb dX7_bestLetter_59 (by decide) (fun c10 => ?_) (fun c10 => ?_)
        · have hw := ite_f hw c10
          refine lv_bipush (v := (-9)) hx hb dX7_bestLetter_65 (by decide) ?_
          refine lv_istore (lv' := [(5, .int (-9)), (4, .int s0), (0, .ref v0), (1, .int v1), (2, .int v2), (3, .int v3)]) hx hb dX7_bestLetter_67 hl (by decide) rfl (fun ls hl => ?_)
          refine lv_bipush (v := (-9)) hx hb dX7_bestLetter_69 (by decide) ?_
          refine lv_istore (lv' := [(6, .int (-9)), (5, .int (-9)), (4, .int s0), (0, .ref v0), (1, .int v1), (2, .int v2), (3, .int v3)]) hx hb dX7_bestLetter_71 hl (by decide) rfl (fun ls hl => ?_)
          refine lv_iconst (v := (nI 0)) hx hb dX7_bestLetter_73 (by decide) ?_
          refine lv_istore (lv' := [(7, .int (nI 0)), (6, .int (-9)), (5, .int (-9)), (4, .int s0), (0, .ref v0), (1, .int v1), (2, .int v2), (3, .int v3)]) hx hb dX7_bestLetter_74 hl (by decide) rfl (fun ls hl => ?_)
          exact c76 _ _ _ _ _ _ _ _ H locs ls hH (lv_sub hl [4, 5, 6, 7, 2, 1, 0] rfl) hw
        · have hw := ite_t hw c10
          refine lv_bipush (v := (-9)) hx hb dX7_bestLetter_62 (by decide) ?_
          exact hv_iret hx hb hr hlk hH hw dX7_bestLetter_64
      · have hw := ite_t hw c4
        refine lv_bipush (v := (-2)) hx hb dX7_bestLetter_35 (by decide) ?_
        refine lv_istore (lv' := [(4, .int (-2)), (0, .ref v0), (1, .int v1), (2, .int v2), (3, .int v3)]) hx hb dX7_bestLetter_37 hl (by decide) rfl (fun ls hl => ?_)
        refine lv_iload hx hb dX7_bestLetter_39 (lv_at hl 0 rfl) ?_
        refine lv_if_eq (tgt := 51) hx hb dX7_bestLetter_41 (by decide) (fun c => absurd c (by decide)) (fun _ => ?_)
        refine lv_aload_n hx hb dX7_bestLetter_44 rfl (lv_at hl 1 rfl) ?_
        refine lv_iload hx hb dX7_bestLetter_45 (lv_at hl 0 rfl) ?_
        obtain ⟨k5, hw⟩ := hw
        refine hv_cVI (rm := rm_X7_no) (As := [.int (-2)]) (rest := []) (k := 1) (ci := 7) hx hb hml hown hKK hH cf7 k5 (m_X7_no v0 (-2) _ _ hw) cw_X7_170 ⟨Nat.le_of_ble_eq_true rfl, Nat.le_of_ble_eq_true rfl⟩ rfl hl.1 rfl (Nat.le_of_ble_eq_true rfl) ⟨Nat.le_of_ble_eq_true rfl, Nat.le_of_ble_eq_true rfl⟩ dX7_bestLetter_47 (fun r7 h6 H locs hH hw => ?_)
        exact hv_iret hx hb hr hlk hH hw dX7_bestLetter_50
  unfold w_X7_bestLetter at hw
  show W p l e rm_X7_bestLetter s m args below meth c H [] 0 0 (QI G B S sz below args s Q) (F0 m 0 ls [])
  generalize ([] : List Loc) = locs at hH ⊢
  refine lv_aload_n hx hb dX7_bestLetter_0 rfl (lv_at hl 0 rfl) ?_
  refine lv_iload_n hx hb dX7_bestLetter_1 rfl (lv_at hl 1 rfl) ?_
  obtain ⟨k1, hw⟩ := hw
  refine hv_cVI (rm := rm_X7_isHead) (As := [.int v1]) (rest := []) (k := 1) (ci := 7) hx hb hml hown hKK hH cf7 k1 (m_X7_isHead v0 v1 _ _ hw) cw_X7_89 ⟨Nat.le_of_ble_eq_true rfl, Nat.le_of_ble_eq_true rfl⟩ rfl hl.1 rfl (Nat.le_of_ble_eq_true rfl) ⟨Nat.le_of_ble_eq_true rfl, Nat.le_of_ble_eq_true rfl⟩ dX7_bestLetter_2 (fun r3 h2 H locs hH hw => ?_)
  refine lv_if_ne (tgt := 12) hx hb dX7_bestLetter_5 (by decide) (fun c4 => ?_) (fun c4 => ?_)
  · have hw := ite_f hw c4
    refine lv_iload_n hx hb dX7_bestLetter_12 rfl (lv_at hl 2 rfl) ?_
    refine lv_iconst (v := (nI 0)) hx hb dX7_bestLetter_13 (by decide) ?_
    refine lv_bipush (v := (nI 30)) hx hb dX7_bestLetter_14 (by decide) ?_
    refine hv_cSI (rm := rm_X7_bound) (As := [.int v2, .int (nI 0), .int (nI 30)]) (rest := []) (k := 3) hx hb hml hown hKK hH (m_X7_bound v2 (nI 0) (nI 30) _ _ hw) cw_X7_163 ⟨Nat.le_of_ble_eq_true rfl, Nat.le_of_ble_eq_true rfl⟩ rfl hl.1 rfl (Nat.le_of_ble_eq_true rfl) ⟨Nat.le_of_ble_eq_true rfl, Nat.le_of_ble_eq_true rfl⟩ dX7_bestLetter_16 (fun r6 h5 H locs hH hw => ?_)
    exact c19 _ _ _ _ _ _ H locs ls hH (lv_sub hl [0, 1, 2, 3] rfl) hw
  · have hw := ite_t hw c4
    refine lv_iconst (v := (-1)) hx hb dX7_bestLetter_8 (by decide) ?_
    refine lv_goto (tgt := 19) hx hb dX7_bestLetter_9 (by decide) ?_
    exact c19 _ _ _ _ _ _ H locs ls hH (lv_sub hl [0, 1, 2, 3] rfl) hw
abbrev rm_X7_comesTo : Room := { frames := 6, cells := 0, slots := 0, locals := 139 }
set_option maxHeartbeats 4000000 in
set_option maxRecDepth 100000 in
theorem m_X7_comesTo {l : Launch} {G : Gl} {B sz : Nat} {S : St} (v0 : Nat) (v1 : Int32) (v2 : Int32) (v3 : Int32) (h : Hp) (Q : Int32 → Hp → Prop) (hw : w_X7_comesTo S v0 v1 v2 v3 h Q) : MI l G B sz S yX7_comesTo cX7_comesTo 6 .boolean rm_X7_comesTo [.ref v0, .int v1, .int v2, .int v3] h Q := by
  refine met_of rfl rfl ?_
  intro p e s m args below meth c hMB H ls hH hl
  obtain ⟨hx, hb, hml, hown, hKK, hr, hlk⟩ := hMB
  replace hl : lv_has ls 6 [(0, .ref v0), (1, .int v1), (2, .int v2), (3, .int v3)] := hl
  have c6 : ∀  (v0 : Nat) (v1 : Int32) (v2 : Int32) (v3 : Int32) (v4 : Int32) (v5 : Int32) (h : Hp) (H : Heap) (locs : List Loc) (ls : Array Slot), HH G B S h sz s H locs → lv_has ls 6 [(0, .ref v0), (1, .int v1), (2, .int v2), (3, .int v3), (4, .int v4), (5, .int v5)] → w_X7_comesTo_c6 S v0 v1 v2 v3 v4 v5 h Q → W p l e rm_X7_comesTo s m args below meth c H locs 0 0 (QI G B S sz below args s Q) (F0 m 6 ls []) := by
    intro  v0 v1 v2 v3 v4 v5 h H locs ls hH hl hw
    unfold w_X7_comesTo_c6 at hw
    obtain ⟨P6, hP6⟩ : ∃ P : Int32 → Int32 → Hp → Prop, ∀ (v4 : Int32) (v5 : Int32) (h : Hp), P v4 v5 h ↔ (∀ (H : Heap) (locs : List Loc) (ls : Array Slot), HH G B S h sz s H locs → lv_has ls 6 [(0, .ref v0), (1, .int v1), (2, .int v2), (3, .int v3), (4, .int v4), (5, .int v5)] → W p l e rm_X7_comesTo s m args below meth c H locs 0 0 (QI G B S sz below args s Q) (F0 m 6 ls [])) := ⟨_, fun v4 v5 h => Iff.rfl⟩
    refine (hP6 v4 v5 h).1 (hw P6 (fun v4 v5 h hw => (hP6 v4 v5 h).2 (fun H locs ls hH hl => ?_))) H locs ls hH hl
    have hK6 : ∀ (v4 : Int32) (v5 : Int32) (h : Hp) (H : Heap) (locs : List Loc) (ls : Array Slot), HH G B S h sz s H locs → lv_has ls 6 [(0, .ref v0), (1, .int v1), (2, .int v2), (3, .int v3), (4, .int v4), (5, .int v5)] → P6 v4 v5 h → W p l e rm_X7_comesTo s m args below meth c H locs 0 0 (QI G B S sz below args s Q) (F0 m 6 ls []) := fun v4 v5 h H locs ls hH hl hk => (hP6 v4 v5 h).1 hk H locs ls hH hl
    refine lv_iload hx hb dX7_comesTo_6 (lv_at hl 5 rfl) ?_
    refine lv_iload_n hx hb dX7_comesTo_8 rfl (lv_at hl 3 rfl) ?_
    refine lv_icmp_ge (tgt := 44) hx hb dX7_comesTo_9 (by decide) (fun c1 => ?_) (fun c1 => ?_)
    · have hw := ite_t hw c1
      refine lv_iload hx hb dX7_comesTo_44 (lv_at hl 4 rfl) ?_
      obtain ⟨k2, hw⟩ := hw
      exact hv_zret hx hb hr hlk hH k2 hw dX7_comesTo_46
    · have hw := ite_f hw c1
      refine lv_iload hx hb dX7_comesTo_12 (lv_at hl 4 rfl) ?_
      refine lv_if_ne (tgt := 44) hx hb dX7_comesTo_14 (by decide) (fun c3 => ?_) (fun c3 => ?_)
      · have hw := ite_f hw c3
        refine lv_iload hx hb dX7_comesTo_44 (lv_at hl 4 rfl) ?_
        obtain ⟨k8, hw⟩ := hw
        exact hv_zret hx hb hr hlk hH k8 hw dX7_comesTo_46
      · have hw := ite_t hw c3
        refine lv_aload_n hx hb dX7_comesTo_17 rfl (lv_at hl 0 rfl) ?_
        obtain ⟨k4, hw⟩ := hw
        refine hv_cVV (rm := rm_X7_goesNight) (As := []) (rest := []) (k := 0) (ci := 7) hx hb hml hown hKK hH cf7 k4 (m_X7_goesNight v0 _ _ hw) cw_X7_160 ⟨Nat.le_of_ble_eq_true rfl, Nat.le_of_ble_eq_true rfl⟩ rfl hl.1 rfl (Nat.le_of_ble_eq_true rfl) ⟨Nat.le_of_ble_eq_true rfl, Nat.le_of_ble_eq_true rfl⟩ dX7_comesTo_18 (fun h5 H locs hH hw => ?_)
        refine lv_aload_n hx hb dX7_comesTo_21 rfl (lv_at hl 0 rfl) ?_
        refine hv_get (ci := 7) (k := 6) (v := .ref (S.2 v0 6)) hx hb hown hKK hH cf7 (by decide) fl_X7_28 rfl k4 rfl dX7_comesTo_22 ?_
        refine lv_iload_n hx hb dX7_comesTo_25 rfl (lv_at hl 1 rfl) ?_
        obtain ⟨k6, hw⟩ := hw
        refine hv_iald hx hb hKK hH k6 dX7_comesTo_26 ?_
        refine lv_iload_n hx hb dX7_comesTo_27 rfl (lv_at hl 2 rfl) ?_
        refine lv_icmp_ne (tgt := 35) hx hb dX7_comesTo_28 (by decide) (fun c7 => ?_) (fun c7 => ?_)
        · have hw := ite_f hw c7
          refine lv_iconst (v := (nI 0)) hx hb dX7_comesTo_35 (by decide) ?_
          refine lv_istore (lv' := [(4, .int (nI 0)), (0, .ref v0), (1, .int v1), (2, .int v2), (3, .int v3), (5, .int v5)]) hx hb dX7_comesTo_36 hl (by decide) rfl (fun ls hl => ?_)
          refine lv_iinc (v := v5 + (nI 1)) (lv' := [(5, .int (v5 + (nI 1))), (4, .int (nI 0)), (0, .ref v0), (1, .int v1), (2, .int v2), (3, .int v3)]) hx hb dX7_comesTo_38 hl (k := 5) rfl rfl (by decide) rfl (fun ls hl => ?_)
          refine lv_goto (tgt := 6) hx hb dX7_comesTo_41 (by decide) ?_
          exact hK6 _ _ _ H locs ls hH (lv_sub hl [2, 3, 4, 5, 1, 0] rfl) hw
        · have hw := ite_t hw c7
          refine lv_iconst (v := (nI 1)) hx hb dX7_comesTo_31 (by decide) ?_
          refine lv_goto (tgt := 36) hx hb dX7_comesTo_32 (by decide) ?_
          refine lv_istore (lv' := [(4, .int (nI 1)), (0, .ref v0), (1, .int v1), (2, .int v2), (3, .int v3), (5, .int v5)]) hx hb dX7_comesTo_36 hl (by decide) rfl (fun ls hl => ?_)
          refine lv_iinc (v := v5 + (nI 1)) (lv' := [(5, .int (v5 + (nI 1))), (4, .int (nI 1)), (0, .ref v0), (1, .int v1), (2, .int v2), (3, .int v3)]) hx hb dX7_comesTo_38 hl (k := 5) rfl rfl (by decide) rfl (fun ls hl => ?_)
          refine lv_goto (tgt := 6) hx hb dX7_comesTo_41 (by decide) ?_
          exact hK6 _ _ _ H locs ls hH (lv_sub hl [2, 3, 4, 5, 1, 0] rfl) hw
  unfold w_X7_comesTo at hw
  show W p l e rm_X7_comesTo s m args below meth c H [] 0 0 (QI G B S sz below args s Q) (F0 m 0 ls [])
  generalize ([] : List Loc) = locs at hH ⊢
  refine lv_iconst (v := (nI 0)) hx hb dX7_comesTo_0 (by decide) ?_
  refine lv_istore (lv' := [(4, .int (nI 0)), (0, .ref v0), (1, .int v1), (2, .int v2), (3, .int v3)]) hx hb dX7_comesTo_1 hl (by decide) rfl (fun ls hl => ?_)
  refine lv_iconst (v := (nI 0)) hx hb dX7_comesTo_3 (by decide) ?_
  refine lv_istore (lv' := [(5, .int (nI 0)), (4, .int (nI 0)), (0, .ref v0), (1, .int v1), (2, .int v2), (3, .int v3)]) hx hb dX7_comesTo_4 hl (by decide) rfl (fun ls hl => ?_)
  exact c6 _ _ _ _ _ _ _ H locs ls hH (lv_sub hl [2, 3, 4, 5, 1, 0] rfl) hw
abbrev rm_X7_holds : Room := { frames := 7, cells := 0, slots := 0, locals := 164 }
set_option maxHeartbeats 4000000 in
set_option maxRecDepth 100000 in
theorem m_X7_holds {l : Launch} {G : Gl} {B sz : Nat} {S : St} (v0 : Nat) (v1 : Int32) (v2 : Int32) (v3 : Int32) (h : Hp) (Q : Int32 → Hp → Prop) (hw : w_X7_holds S v0 v1 v2 v3 h Q) : MI l G B sz S yX7_holds cX7_holds 7 .int rm_X7_holds [.ref v0, .int v1, .int v2, .int v3] h Q := by
  refine met_of rfl rfl ?_
  intro p e s m args below meth c hMB H ls hH hl
  obtain ⟨hx, hb, hml, hown, hKK, hr, hlk⟩ := hMB
  replace hl : lv_has ls 7 [(0, .ref v0), (1, .int v1), (2, .int v2), (3, .int v3)] := hl
  have c48 : ∀  (v0 : Nat) (v1 : Int32) (v2 : Int32) (v3 : Int32) (v5 : Int32) (v6 : Int32) (h : Hp) (H : Heap) (locs : List Loc) (ls : Array Slot), HH G B S h sz s H locs → lv_has ls 7 [(0, .ref v0), (1, .int v1), (2, .int v2), (3, .int v3), (5, .int v5), (6, .int v6)] → w_X7_holds_c48 S v0 v1 v2 v3 v5 v6 h Q → W p l e rm_X7_holds s m args below meth c H locs 0 0 (QI G B S sz below args s Q) (F0 m 48 ls []) := by
    intro  v0 v1 v2 v3 v5 v6 h H locs ls hH hl hw
    unfold w_X7_holds_c48 at hw
    obtain ⟨P48, hP48⟩ : ∃ P : Int32 → Int32 → Hp → Prop, ∀ (v5 : Int32) (v6 : Int32) (h : Hp), P v5 v6 h ↔ (∀ (H : Heap) (locs : List Loc) (ls : Array Slot), HH G B S h sz s H locs → lv_has ls 7 [(0, .ref v0), (1, .int v1), (2, .int v2), (3, .int v3), (5, .int v5), (6, .int v6)] → W p l e rm_X7_holds s m args below meth c H locs 0 0 (QI G B S sz below args s Q) (F0 m 48 ls [])) := ⟨_, fun v5 v6 h => Iff.rfl⟩
    refine (hP48 v5 v6 h).1 (hw P48 (fun v5 v6 h hw => (hP48 v5 v6 h).2 (fun H locs ls hH hl => ?_))) H locs ls hH hl
    have hK48 : ∀ (v5 : Int32) (v6 : Int32) (h : Hp) (H : Heap) (locs : List Loc) (ls : Array Slot), HH G B S h sz s H locs → lv_has ls 7 [(0, .ref v0), (1, .int v1), (2, .int v2), (3, .int v3), (5, .int v5), (6, .int v6)] → P48 v5 v6 h → W p l e rm_X7_holds s m args below meth c H locs 0 0 (QI G B S sz below args s Q) (F0 m 48 ls []) := fun v5 v6 h H locs ls hH hl hk => (hP48 v5 v6 h).1 hk H locs ls hH hl
    refine lv_iload hx hb dX7_holds_48 (lv_at hl 5 rfl) ?_
    refine lv_if_lt (tgt := 94) hx hb dX7_holds_50 (by decide) (fun c1 => ?_) (fun c1 => ?_)
    · have hw := ite_t hw c1
      refine lv_iload hx hb dX7_holds_94 (lv_at hl 4 rfl) ?_
      exact hv_iret hx hb hr hlk hH hw dX7_holds_96
    · have hw := ite_f hw c1
      refine lv_aload_n hx hb dX7_holds_53 rfl (lv_at hl 0 rfl) ?_
      obtain ⟨k2, hw⟩ := hw
      refine hv_cVV (rm := rm_X7_minds) (As := []) (rest := []) (k := 0) (ci := 7) hx hb hml hown hKK hH cf7 k2 (m_X7_minds v0 _ _ hw) cw_X7_343 ⟨Nat.le_of_ble_eq_true rfl, Nat.le_of_ble_eq_true rfl⟩ rfl hl.1 rfl (Nat.le_of_ble_eq_true rfl) ⟨Nat.le_of_ble_eq_true rfl, Nat.le_of_ble_eq_true rfl⟩ dX7_holds_54 (fun h3 H locs hH hw => ?_)
      refine lv_aload_n hx hb dX7_holds_57 rfl (lv_at hl 0 rfl) ?_
      refine hv_get (ci := 7) (k := 1) (v := .ref (S.2 v0 1)) hx hb hown hKK hH cf7 (by decide) fl_X7_13 rfl k2 rfl dX7_holds_58 ?_
      refine lv_iload_n hx hb dX7_holds_61 rfl (lv_at hl 2 rfl) ?_
      refine lv_iload hx hb dX7_holds_62 (lv_at hl 5 rfl) ?_
      obtain ⟨k4, hw⟩ := hw
      refine hv_iast hx hb hKK hH k4 dX7_holds_64 (fun H locs hH => ?_)
      refine lv_aload_n hx hb dX7_holds_65 rfl (lv_at hl 0 rfl) ?_
      refine lv_iload_n hx hb dX7_holds_66 rfl (lv_at hl 1 rfl) ?_
      refine lv_iload_n hx hb dX7_holds_67 rfl (lv_at hl 2 rfl) ?_
      refine lv_iload_n hx hb dX7_holds_68 rfl (lv_at hl 3 rfl) ?_
      refine hv_cVI (rm := rm_X7_comesTo) (As := [.int v1, .int v2, .int v3]) (rest := []) (k := 3) (ci := 7) hx hb hml hown hKK hH cf7 k2 (m_X7_comesTo v0 v1 v2 v3 _ _ hw) cw_X7_368 ⟨Nat.le_of_ble_eq_true rfl, Nat.le_of_ble_eq_true rfl⟩ rfl hl.1 rfl (Nat.le_of_ble_eq_true rfl) ⟨Nat.le_of_ble_eq_true rfl, Nat.le_of_ble_eq_true rfl⟩ dX7_holds_69 (fun r6 h5 H locs hH hw => ?_)
      refine lv_if_eq (tgt := 80) hx hb dX7_holds_72 (by decide) (fun c7 => ?_) (fun c7 => ?_)
      · have hw := ite_t hw c7
        refine lv_iload hx hb dX7_holds_80 (lv_at hl 5 rfl) ?_
        refine lv_istore (lv' := [(5, .int v6), (0, .ref v0), (1, .int v1), (2, .int v2), (3, .int v3), (6, .int v6)]) hx hb dX7_holds_82 hl (by decide) rfl (fun ls hl => ?_)
        refine lv_aload_n hx hb dX7_holds_84 rfl (lv_at hl 1 rfl) ?_
        refine hv_cVV (rm := rm_X7_forgets) (As := []) (rest := []) (k := 0) (ci := 7) hx hb hml hown hKK hH cf7 k2 (m_X7_forgets v0 _ _ hw) cw_X7_346 ⟨Nat.le_of_ble_eq_true rfl, Nat.le_of_ble_eq_true rfl⟩ rfl hl.1 rfl (Nat.le_of_ble_eq_true rfl) ⟨Nat.le_of_ble_eq_true rfl, Nat.le_of_ble_eq_true rfl⟩ dX7_holds_85 (fun h8 H locs hH hw => ?_)
        refine lv_iinc (v := v6 + (-1)) (lv' := [(6, .int (v6 + (-1))), (5, .int v6), (0, .ref v0), (1, .int v1), (2, .int v2), (3, .int v3)]) hx hb dX7_holds_88 hl (k := 5) rfl rfl (by decide) rfl (fun ls hl => ?_)
        refine lv_goto (tgt := 48) hx hb dX7_holds_91 (by decide) ?_
        exact hK48 _ _ _ H locs ls hH (lv_sub hl [2, 3, 4, 5, 1, 0] rfl) hw
      · have hw := ite_f hw c7
        refine lv_iload hx hb dX7_holds_75 (lv_at hl 4 rfl) ?_
        refine lv_goto (tgt := 82) hx hb dX7_holds_77 (by decide) ?_
        refine lv_istore (lv' := [(5, .int v5), (0, .ref v0), (1, .int v1), (2, .int v2), (3, .int v3), (6, .int v6)]) hx hb dX7_holds_82 hl (by decide) rfl (fun ls hl => ?_)
        refine lv_aload_n hx hb dX7_holds_84 rfl (lv_at hl 1 rfl) ?_
        refine hv_cVV (rm := rm_X7_forgets) (As := []) (rest := []) (k := 0) (ci := 7) hx hb hml hown hKK hH cf7 k2 (m_X7_forgets v0 _ _ hw) cw_X7_346 ⟨Nat.le_of_ble_eq_true rfl, Nat.le_of_ble_eq_true rfl⟩ rfl hl.1 rfl (Nat.le_of_ble_eq_true rfl) ⟨Nat.le_of_ble_eq_true rfl, Nat.le_of_ble_eq_true rfl⟩ dX7_holds_85 (fun h9 H locs hH hw => ?_)
        refine lv_iinc (v := v6 + (-1)) (lv' := [(6, .int (v6 + (-1))), (5, .int v5), (0, .ref v0), (1, .int v1), (2, .int v2), (3, .int v3)]) hx hb dX7_holds_88 hl (k := 5) rfl rfl (by decide) rfl (fun ls hl => ?_)
        refine lv_goto (tgt := 48) hx hb dX7_holds_91 (by decide) ?_
        exact hK48 _ _ _ H locs ls hH (lv_sub hl [2, 3, 4, 5, 1, 0] rfl) hw
  unfold w_X7_holds at hw
  show W p l e rm_X7_holds s m args below meth c H [] 0 0 (QI G B S sz below args s Q) (F0 m 0 ls [])
  generalize ([] : List Loc) = locs at hH ⊢
  refine lv_aload_n hx hb dX7_holds_0 rfl (lv_at hl 0 rfl) ?_
  refine lv_iload_n hx hb dX7_holds_1 rfl (lv_at hl 1 rfl) ?_
  obtain ⟨k1, hw⟩ := hw
  refine hv_cVI (rm := rm_X7_isHead) (As := [.int v1]) (rest := []) (k := 1) (ci := 7) hx hb hml hown hKK hH cf7 k1 (m_X7_isHead v0 v1 _ _ hw) cw_X7_89 ⟨Nat.le_of_ble_eq_true rfl, Nat.le_of_ble_eq_true rfl⟩ rfl hl.1 rfl (Nat.le_of_ble_eq_true rfl) ⟨Nat.le_of_ble_eq_true rfl, Nat.le_of_ble_eq_true rfl⟩ dX7_holds_2 (fun r3 h2 H locs hH hw => ?_)
  refine lv_if_eq (tgt := 15) hx hb dX7_holds_5 (by decide) (fun c4 => ?_) (fun c4 => ?_)
  · have hw := ite_t hw c4
    refine lv_iconst (v := (-1)) hx hb dX7_holds_15 (by decide) ?_
    refine lv_goto (tgt := 26) hx hb dX7_holds_16 (by decide) ?_
    refine lv_istore (lv' := [(4, .int (-1)), (0, .ref v0), (1, .int v1), (2, .int v2), (3, .int v3)]) hx hb dX7_holds_26 hl (by decide) rfl (fun ls hl => ?_)
    refine lv_iload hx hb dX7_holds_28 (lv_at hl 0 rfl) ?_
    refine lv_if_eq (tgt := 40) hx hb dX7_holds_30 (by decide) (fun c => absurd c (by decide)) (fun _ => ?_)
    refine lv_aload_n hx hb dX7_holds_33 rfl (lv_at hl 1 rfl) ?_
    refine lv_iload hx hb dX7_holds_34 (lv_at hl 0 rfl) ?_
    refine hv_cVI (rm := rm_X7_no) (As := [.int (-1)]) (rest := []) (k := 1) (ci := 7) hx hb hml hown hKK hH cf7 k1 (m_X7_no v0 (-1) _ _ hw) cw_X7_170 ⟨Nat.le_of_ble_eq_true rfl, Nat.le_of_ble_eq_true rfl⟩ rfl hl.1 rfl (Nat.le_of_ble_eq_true rfl) ⟨Nat.le_of_ble_eq_true rfl, Nat.le_of_ble_eq_true rfl⟩ dX7_holds_36 (fun r6 h5 H locs hH hw => ?_)
    exact hv_iret hx hb hr hlk hH hw dX7_holds_39
  · have hw := ite_f hw c4
    refine lv_iload_n hx hb dX7_holds_8 rfl (lv_at hl 2 rfl) ?_
    refine hv_cSI (rm := rm_X7_isField) (As := [.int v2]) (rest := []) (k := 1) hx hb hml hown hKK hH (m_X7_isField v2 _ _ hw) cw_X7_244 ⟨Nat.le_of_ble_eq_true rfl, Nat.le_of_ble_eq_true rfl⟩ rfl hl.1 rfl (Nat.le_of_ble_eq_true rfl) ⟨Nat.le_of_ble_eq_true rfl, Nat.le_of_ble_eq_true rfl⟩ dX7_holds_9 (fun r8 h7 H locs hH hw => ?_)
    refine lv_if_ne (tgt := 19) hx hb dX7_holds_12 (by decide) (fun c9 => ?_) (fun c9 => ?_)
    · have hw := ite_f hw c9
      refine lv_iload_n hx hb dX7_holds_19 rfl (lv_at hl 3 rfl) ?_
      refine lv_iconst (v := (nI 1)) hx hb dX7_holds_20 (by decide) ?_
      refine lv_bipush (v := (nI 60)) hx hb dX7_holds_21 (by decide) ?_
      refine hv_cSI (rm := rm_X7_bound) (As := [.int v3, .int (nI 1), .int (nI 60)]) (rest := []) (k := 3) hx hb hml hown hKK hH (m_X7_bound v3 (nI 1) (nI 60) _ _ hw) cw_X7_163 ⟨Nat.le_of_ble_eq_true rfl, Nat.le_of_ble_eq_true rfl⟩ rfl hl.1 rfl (Nat.le_of_ble_eq_true rfl) ⟨Nat.le_of_ble_eq_true rfl, Nat.le_of_ble_eq_true rfl⟩ dX7_holds_23 (fun r13 h12 H locs hH hw => ?_)
      refine lv_istore (lv' := [(4, .int r13), (0, .ref v0), (1, .int v1), (2, .int v2), (3, .int v3)]) hx hb dX7_holds_26 hl (by decide) rfl (fun ls hl => ?_)
      refine lv_iload hx hb dX7_holds_28 (lv_at hl 0 rfl) ?_
      refine lv_if_eq (tgt := 40) hx hb dX7_holds_30 (by decide) (fun c14 => ?_) (fun c14 => ?_)
      · have hw := ite_t hw c14
        refine lv_bipush (v := (-9)) hx hb dX7_holds_40 (by decide) ?_
        refine lv_istore (lv' := [(5, .int (-9)), (4, .int r13), (0, .ref v0), (1, .int v1), (2, .int v2), (3, .int v3)]) hx hb dX7_holds_42 hl (by decide) rfl (fun ls hl => ?_)
        refine lv_bipush (v := (nI 9)) hx hb dX7_holds_44 (by decide) ?_
        refine lv_istore (lv' := [(6, .int (nI 9)), (5, .int (-9)), (4, .int r13), (0, .ref v0), (1, .int v1), (2, .int v2), (3, .int v3)]) hx hb dX7_holds_46 hl (by decide) rfl (fun ls hl => ?_)
        exact c48 _ _ _ _ _ _ _ H locs ls hH (lv_sub hl [3, 4, 5, 6, 1, 0] rfl) hw
      · have hw := ite_f hw c14
        refine lv_aload_n hx hb dX7_holds_33 rfl (lv_at hl 1 rfl) ?_
        refine lv_iload hx hb dX7_holds_34 (lv_at hl 0 rfl) ?_
        refine hv_cVI (rm := rm_X7_no) (As := [.int r13]) (rest := []) (k := 1) (ci := 7) hx hb hml hown hKK hH cf7 k1 (m_X7_no v0 r13 _ _ hw) cw_X7_170 ⟨Nat.le_of_ble_eq_true rfl, Nat.le_of_ble_eq_true rfl⟩ rfl hl.1 rfl (Nat.le_of_ble_eq_true rfl) ⟨Nat.le_of_ble_eq_true rfl, Nat.le_of_ble_eq_true rfl⟩ dX7_holds_36 (fun r16 h15 H locs hH hw => ?_)
        exact hv_iret hx hb hr hlk hH hw dX7_holds_39
    · have hw := ite_t hw c9
      refine lv_iconst (v := (-1)) hx hb dX7_holds_15 (by decide) ?_
      refine lv_goto (tgt := 26) hx hb dX7_holds_16 (by decide) ?_
      refine lv_istore (lv' := [(4, .int (-1)), (0, .ref v0), (1, .int v1), (2, .int v2), (3, .int v3)]) hx hb dX7_holds_26 hl (by decide) rfl (fun ls hl => ?_)
      refine lv_iload hx hb dX7_holds_28 (lv_at hl 0 rfl) ?_
      refine lv_if_eq (tgt := 40) hx hb dX7_holds_30 (by decide) (fun c => absurd c (by decide)) (fun _ => ?_)
      refine lv_aload_n hx hb dX7_holds_33 rfl (lv_at hl 1 rfl) ?_
      refine lv_iload hx hb dX7_holds_34 (lv_at hl 0 rfl) ?_
      refine hv_cVI (rm := rm_X7_no) (As := [.int (-1)]) (rest := []) (k := 1) (ci := 7) hx hb hml hown hKK hH cf7 k1 (m_X7_no v0 (-1) _ _ hw) cw_X7_170 ⟨Nat.le_of_ble_eq_true rfl, Nat.le_of_ble_eq_true rfl⟩ rfl hl.1 rfl (Nat.le_of_ble_eq_true rfl) ⟨Nat.le_of_ble_eq_true rfl, Nat.le_of_ble_eq_true rfl⟩ dX7_holds_36 (fun r11 h10 H locs hH hw => ?_)
      exact hv_iret hx hb hr hlk hH hw dX7_holds_39
abbrev rm_X7_wallFor : Room := { frames := 7, cells := 0, slots := 0, locals := 161 }
set_option maxHeartbeats 4000000 in
set_option maxRecDepth 100000 in
theorem m_X7_wallFor {l : Launch} {G : Gl} {B sz : Nat} {S : St} (v0 : Nat) (v1 : Int32) (v2 : Int32) (v3 : Int32) (h : Hp) (Q : Int32 → Hp → Prop) (hw : w_X7_wallFor S v0 v1 v2 v3 h Q) : MI l G B sz S yX7_wallFor cX7_wallFor 7 .int rm_X7_wallFor [.ref v0, .int v1, .int v2, .int v3] h Q := by
  refine met_of rfl rfl ?_
  intro p e s m args below meth c hMB H ls hH hl
  obtain ⟨hx, hb, hml, hown, hKK, hr, hlk⟩ := hMB
  replace hl : lv_has ls 7 [(0, .ref v0), (1, .int v1), (2, .int v2), (3, .int v3)] := hl
  have c47 : ∀  (v0 : Nat) (v1 : Int32) (v2 : Int32) (v3 : Int32) (v5 : Int32) (v6 : Int32) (h : Hp) (H : Heap) (locs : List Loc) (ls : Array Slot), HH G B S h sz s H locs → lv_has ls 7 [(0, .ref v0), (1, .int v1), (2, .int v2), (3, .int v3), (5, .int v5), (6, .int v6)] → w_X7_wallFor_c47 S v0 v1 v2 v3 v5 v6 h Q → W p l e rm_X7_wallFor s m args below meth c H locs 0 0 (QI G B S sz below args s Q) (F0 m 47 ls []) := by
    intro  v0 v1 v2 v3 v5 v6 h H locs ls hH hl hw
    unfold w_X7_wallFor_c47 at hw
    obtain ⟨P47, hP47⟩ : ∃ P : Int32 → Int32 → Hp → Prop, ∀ (v5 : Int32) (v6 : Int32) (h : Hp), P v5 v6 h ↔ (∀ (H : Heap) (locs : List Loc) (ls : Array Slot), HH G B S h sz s H locs → lv_has ls 7 [(0, .ref v0), (1, .int v1), (2, .int v2), (3, .int v3), (5, .int v5), (6, .int v6)] → W p l e rm_X7_wallFor s m args below meth c H locs 0 0 (QI G B S sz below args s Q) (F0 m 47 ls [])) := ⟨_, fun v5 v6 h => Iff.rfl⟩
    refine (hP47 v5 v6 h).1 (hw P47 (fun v5 v6 h hw => (hP47 v5 v6 h).2 (fun H locs ls hH hl => ?_))) H locs ls hH hl
    have hK47 : ∀ (v5 : Int32) (v6 : Int32) (h : Hp) (H : Heap) (locs : List Loc) (ls : Array Slot), HH G B S h sz s H locs → lv_has ls 7 [(0, .ref v0), (1, .int v1), (2, .int v2), (3, .int v3), (5, .int v5), (6, .int v6)] → P47 v5 v6 h → W p l e rm_X7_wallFor s m args below meth c H locs 0 0 (QI G B S sz below args s Q) (F0 m 47 ls []) := fun v5 v6 h H locs ls hH hl hk => (hP47 v5 v6 h).1 hk H locs ls hH hl
    refine lv_iload hx hb dX7_wallFor_47 (lv_at hl 5 rfl) ?_
    refine lv_bipush (v := (nI 48)) hx hb dX7_wallFor_49 (by decide) ?_
    refine lv_icmp_ge (tgt := 106) hx hb dX7_wallFor_51 (by decide) (fun c1 => ?_) (fun c1 => ?_)
    · have hw := ite_t hw c1
      refine lv_iload hx hb dX7_wallFor_106 (lv_at hl 4 rfl) ?_
      exact hv_iret hx hb hr hlk hH hw dX7_wallFor_108
    · have hw := ite_f hw c1
      refine lv_iload hx hb dX7_wallFor_54 (lv_at hl 4 rfl) ?_
      refine lv_if_ge (tgt := 106) hx hb dX7_wallFor_56 (by decide) (fun c2 => ?_) (fun c2 => ?_)
      · have hw := ite_t hw c2
        refine lv_iload hx hb dX7_wallFor_106 (lv_at hl 4 rfl) ?_
        exact hv_iret hx hb hr hlk hH hw dX7_wallFor_108
      · have hw := ite_f hw c2
        refine lv_aload_n hx hb dX7_wallFor_59 rfl (lv_at hl 0 rfl) ?_
        obtain ⟨k3, hw⟩ := hw
        refine hv_cVV (rm := rm_X7_minds) (As := []) (rest := []) (k := 0) (ci := 7) hx hb hml hown hKK hH cf7 k3 (m_X7_minds v0 _ _ hw) cw_X7_343 ⟨Nat.le_of_ble_eq_true rfl, Nat.le_of_ble_eq_true rfl⟩ rfl hl.1 rfl (Nat.le_of_ble_eq_true rfl) ⟨Nat.le_of_ble_eq_true rfl, Nat.le_of_ble_eq_true rfl⟩ dX7_wallFor_60 (fun h4 H locs hH hw => ?_)
        refine lv_aload_n hx hb dX7_wallFor_63 rfl (lv_at hl 0 rfl) ?_
        refine hv_get (ci := 7) (k := 1) (v := .ref (S.2 v0 1)) hx hb hown hKK hH cf7 (by decide) fl_X7_13 rfl k3 rfl dX7_wallFor_64 ?_
        refine lv_iload hx hb dX7_wallFor_67 (lv_at hl 5 rfl) ?_
        refine lv_bipush (v := (nI 9)) hx hb dX7_wallFor_69 (by decide) ?_
        obtain ⟨k5, hw⟩ := hw
        refine hv_iast hx hb hKK hH k5 dX7_wallFor_71 (fun H locs hH => ?_)
        refine lv_aload_n hx hb dX7_wallFor_72 rfl (lv_at hl 0 rfl) ?_
        refine lv_iload_n hx hb dX7_wallFor_73 rfl (lv_at hl 3 rfl) ?_
        refine hv_cVV (rm := rm_X7_goes) (As := [.int v3]) (rest := []) (k := 1) (ci := 7) hx hb hml hown hKK hH cf7 k3 (m_X7_goes v0 v3 _ _ hw) cw_X7_261 ⟨Nat.le_of_ble_eq_true rfl, Nat.le_of_ble_eq_true rfl⟩ rfl hl.1 rfl (Nat.le_of_ble_eq_true rfl) ⟨Nat.le_of_ble_eq_true rfl, Nat.le_of_ble_eq_true rfl⟩ dX7_wallFor_74 (fun h6 H locs hH hw => ?_)
        refine lv_aload_n hx hb dX7_wallFor_77 rfl (lv_at hl 0 rfl) ?_
        refine hv_get (ci := 7) (k := 6) (v := .ref (S.2 v0 6)) hx hb hown hKK hH cf7 (by decide) fl_X7_28 rfl k3 rfl dX7_wallFor_78 ?_
        refine lv_iload_n hx hb dX7_wallFor_81 rfl (lv_at hl 1 rfl) ?_
        obtain ⟨k7, hw⟩ := hw
        refine hv_iald hx hb hKK hH k7 dX7_wallFor_82 ?_
        refine lv_iload_n hx hb dX7_wallFor_83 rfl (lv_at hl 2 rfl) ?_
        refine lv_icmp_ne (tgt := 92) hx hb dX7_wallFor_84 (by decide) (fun c8 => ?_) (fun c8 => ?_)
        · have hw := ite_f hw c8
          refine lv_bipush (v := (-9)) hx hb dX7_wallFor_92 (by decide) ?_
          refine lv_istore (lv' := [(5, .int (-9)), (0, .ref v0), (1, .int v1), (2, .int v2), (3, .int v3), (6, .int v6)]) hx hb dX7_wallFor_94 hl (by decide) rfl (fun ls hl => ?_)
          refine lv_aload_n hx hb dX7_wallFor_96 rfl (lv_at hl 1 rfl) ?_
          refine hv_cVV (rm := rm_X7_forgets) (As := []) (rest := []) (k := 0) (ci := 7) hx hb hml hown hKK hH cf7 k3 (m_X7_forgets v0 _ _ hw) cw_X7_346 ⟨Nat.le_of_ble_eq_true rfl, Nat.le_of_ble_eq_true rfl⟩ rfl hl.1 rfl (Nat.le_of_ble_eq_true rfl) ⟨Nat.le_of_ble_eq_true rfl, Nat.le_of_ble_eq_true rfl⟩ dX7_wallFor_97 (fun h10 H locs hH hw => ?_)
          refine lv_iinc (v := v6 + (nI 1)) (lv' := [(6, .int (v6 + (nI 1))), (5, .int (-9)), (0, .ref v0), (1, .int v1), (2, .int v2), (3, .int v3)]) hx hb dX7_wallFor_100 hl (k := 5) rfl rfl (by decide) rfl (fun ls hl => ?_)
          refine lv_goto (tgt := 47) hx hb dX7_wallFor_103 (by decide) ?_
          exact hK47 _ _ _ H locs ls hH (lv_sub hl [2, 3, 4, 5, 1, 0] rfl) hw
        · have hw := ite_t hw c8
          refine lv_iload hx hb dX7_wallFor_87 (lv_at hl 5 rfl) ?_
          refine lv_goto (tgt := 94) hx hb dX7_wallFor_89 (by decide) ?_
          refine lv_istore (lv' := [(5, .int v6), (0, .ref v0), (1, .int v1), (2, .int v2), (3, .int v3), (6, .int v6)]) hx hb dX7_wallFor_94 hl (by decide) rfl (fun ls hl => ?_)
          refine lv_aload_n hx hb dX7_wallFor_96 rfl (lv_at hl 1 rfl) ?_
          refine hv_cVV (rm := rm_X7_forgets) (As := []) (rest := []) (k := 0) (ci := 7) hx hb hml hown hKK hH cf7 k3 (m_X7_forgets v0 _ _ hw) cw_X7_346 ⟨Nat.le_of_ble_eq_true rfl, Nat.le_of_ble_eq_true rfl⟩ rfl hl.1 rfl (Nat.le_of_ble_eq_true rfl) ⟨Nat.le_of_ble_eq_true rfl, Nat.le_of_ble_eq_true rfl⟩ dX7_wallFor_97 (fun h9 H locs hH hw => ?_)
          refine lv_iinc (v := v6 + (nI 1)) (lv' := [(6, .int (v6 + (nI 1))), (5, .int v6), (0, .ref v0), (1, .int v1), (2, .int v2), (3, .int v3)]) hx hb dX7_wallFor_100 hl (k := 5) rfl rfl (by decide) rfl (fun ls hl => ?_)
          refine lv_goto (tgt := 47) hx hb dX7_wallFor_103 (by decide) ?_
          exact hK47 _ _ _ H locs ls hH (lv_sub hl [2, 3, 4, 5, 1, 0] rfl) hw
  unfold w_X7_wallFor at hw
  show W p l e rm_X7_wallFor s m args below meth c H [] 0 0 (QI G B S sz below args s Q) (F0 m 0 ls [])
  generalize ([] : List Loc) = locs at hH ⊢
  refine lv_aload_n hx hb dX7_wallFor_0 rfl (lv_at hl 0 rfl) ?_
  refine lv_iload_n hx hb dX7_wallFor_1 rfl (lv_at hl 1 rfl) ?_
  obtain ⟨k1, hw⟩ := hw
  refine hv_cVI (rm := rm_X7_isHead) (As := [.int v1]) (rest := []) (k := 1) (ci := 7) hx hb hml hown hKK hH cf7 k1 (m_X7_isHead v0 v1 _ _ hw) cw_X7_89 ⟨Nat.le_of_ble_eq_true rfl, Nat.le_of_ble_eq_true rfl⟩ rfl hl.1 rfl (Nat.le_of_ble_eq_true rfl) ⟨Nat.le_of_ble_eq_true rfl, Nat.le_of_ble_eq_true rfl⟩ dX7_wallFor_2 (fun r3 h2 H locs hH hw => ?_)
  refine lv_if_eq (tgt := 15) hx hb dX7_wallFor_5 (by decide) (fun c4 => ?_) (fun c4 => ?_)
  · have hw := ite_t hw c4
    refine lv_iconst (v := (-1)) hx hb dX7_wallFor_15 (by decide) ?_
    refine lv_goto (tgt := 26) hx hb dX7_wallFor_16 (by decide) ?_
    refine lv_istore (lv' := [(4, .int (-1)), (0, .ref v0), (1, .int v1), (2, .int v2), (3, .int v3)]) hx hb dX7_wallFor_26 hl (by decide) rfl (fun ls hl => ?_)
    refine lv_iload hx hb dX7_wallFor_28 (lv_at hl 0 rfl) ?_
    refine lv_if_eq (tgt := 40) hx hb dX7_wallFor_30 (by decide) (fun c => absurd c (by decide)) (fun _ => ?_)
    refine lv_aload_n hx hb dX7_wallFor_33 rfl (lv_at hl 1 rfl) ?_
    refine lv_iload hx hb dX7_wallFor_34 (lv_at hl 0 rfl) ?_
    refine hv_cVI (rm := rm_X7_no) (As := [.int (-1)]) (rest := []) (k := 1) (ci := 7) hx hb hml hown hKK hH cf7 k1 (m_X7_no v0 (-1) _ _ hw) cw_X7_170 ⟨Nat.le_of_ble_eq_true rfl, Nat.le_of_ble_eq_true rfl⟩ rfl hl.1 rfl (Nat.le_of_ble_eq_true rfl) ⟨Nat.le_of_ble_eq_true rfl, Nat.le_of_ble_eq_true rfl⟩ dX7_wallFor_36 (fun r6 h5 H locs hH hw => ?_)
    exact hv_iret hx hb hr hlk hH hw dX7_wallFor_39
  · have hw := ite_f hw c4
    refine lv_iload_n hx hb dX7_wallFor_8 rfl (lv_at hl 2 rfl) ?_
    refine hv_cSI (rm := rm_X7_isField) (As := [.int v2]) (rest := []) (k := 1) hx hb hml hown hKK hH (m_X7_isField v2 _ _ hw) cw_X7_244 ⟨Nat.le_of_ble_eq_true rfl, Nat.le_of_ble_eq_true rfl⟩ rfl hl.1 rfl (Nat.le_of_ble_eq_true rfl) ⟨Nat.le_of_ble_eq_true rfl, Nat.le_of_ble_eq_true rfl⟩ dX7_wallFor_9 (fun r8 h7 H locs hH hw => ?_)
    refine lv_if_ne (tgt := 19) hx hb dX7_wallFor_12 (by decide) (fun c9 => ?_) (fun c9 => ?_)
    · have hw := ite_f hw c9
      refine lv_iload_n hx hb dX7_wallFor_19 rfl (lv_at hl 3 rfl) ?_
      refine lv_iconst (v := (nI 0)) hx hb dX7_wallFor_20 (by decide) ?_
      refine lv_bipush (v := (nI 30)) hx hb dX7_wallFor_21 (by decide) ?_
      refine hv_cSI (rm := rm_X7_bound) (As := [.int v3, .int (nI 0), .int (nI 30)]) (rest := []) (k := 3) hx hb hml hown hKK hH (m_X7_bound v3 (nI 0) (nI 30) _ _ hw) cw_X7_163 ⟨Nat.le_of_ble_eq_true rfl, Nat.le_of_ble_eq_true rfl⟩ rfl hl.1 rfl (Nat.le_of_ble_eq_true rfl) ⟨Nat.le_of_ble_eq_true rfl, Nat.le_of_ble_eq_true rfl⟩ dX7_wallFor_23 (fun r13 h12 H locs hH hw => ?_)
      refine lv_istore (lv' := [(4, .int r13), (0, .ref v0), (1, .int v1), (2, .int v2), (3, .int v3)]) hx hb dX7_wallFor_26 hl (by decide) rfl (fun ls hl => ?_)
      refine lv_iload hx hb dX7_wallFor_28 (lv_at hl 0 rfl) ?_
      refine lv_if_eq (tgt := 40) hx hb dX7_wallFor_30 (by decide) (fun c14 => ?_) (fun c14 => ?_)
      · have hw := ite_t hw c14
        refine lv_bipush (v := (-9)) hx hb dX7_wallFor_40 (by decide) ?_
        refine lv_istore (lv' := [(5, .int (-9)), (4, .int r13), (0, .ref v0), (1, .int v1), (2, .int v2), (3, .int v3)]) hx hb dX7_wallFor_42 hl (by decide) rfl (fun ls hl => ?_)
        refine lv_iconst (v := (nI 0)) hx hb dX7_wallFor_44 (by decide) ?_
        refine lv_istore (lv' := [(6, .int (nI 0)), (5, .int (-9)), (4, .int r13), (0, .ref v0), (1, .int v1), (2, .int v2), (3, .int v3)]) hx hb dX7_wallFor_45 hl (by decide) rfl (fun ls hl => ?_)
        exact c47 _ _ _ _ _ _ _ H locs ls hH (lv_sub hl [3, 4, 5, 6, 1, 0] rfl) hw
      · have hw := ite_f hw c14
        refine lv_aload_n hx hb dX7_wallFor_33 rfl (lv_at hl 1 rfl) ?_
        refine lv_iload hx hb dX7_wallFor_34 (lv_at hl 0 rfl) ?_
        refine hv_cVI (rm := rm_X7_no) (As := [.int r13]) (rest := []) (k := 1) (ci := 7) hx hb hml hown hKK hH cf7 k1 (m_X7_no v0 r13 _ _ hw) cw_X7_170 ⟨Nat.le_of_ble_eq_true rfl, Nat.le_of_ble_eq_true rfl⟩ rfl hl.1 rfl (Nat.le_of_ble_eq_true rfl) ⟨Nat.le_of_ble_eq_true rfl, Nat.le_of_ble_eq_true rfl⟩ dX7_wallFor_36 (fun r16 h15 H locs hH hw => ?_)
        exact hv_iret hx hb hr hlk hH hw dX7_wallFor_39
    · have hw := ite_t hw c9
      refine lv_iconst (v := (-1)) hx hb dX7_wallFor_15 (by decide) ?_
      refine lv_goto (tgt := 26) hx hb dX7_wallFor_16 (by decide) ?_
      refine lv_istore (lv' := [(4, .int (-1)), (0, .ref v0), (1, .int v1), (2, .int v2), (3, .int v3)]) hx hb dX7_wallFor_26 hl (by decide) rfl (fun ls hl => ?_)
      refine lv_iload hx hb dX7_wallFor_28 (lv_at hl 0 rfl) ?_
      refine lv_if_eq (tgt := 40) hx hb dX7_wallFor_30 (by decide) (fun c => absurd c (by decide)) (fun _ => ?_)
      refine lv_aload_n hx hb dX7_wallFor_33 rfl (lv_at hl 1 rfl) ?_
      refine lv_iload hx hb dX7_wallFor_34 (lv_at hl 0 rfl) ?_
      refine hv_cVI (rm := rm_X7_no) (As := [.int (-1)]) (rest := []) (k := 1) (ci := 7) hx hb hml hown hKK hH cf7 k1 (m_X7_no v0 (-1) _ _ hw) cw_X7_170 ⟨Nat.le_of_ble_eq_true rfl, Nat.le_of_ble_eq_true rfl⟩ rfl hl.1 rfl (Nat.le_of_ble_eq_true rfl) ⟨Nat.le_of_ble_eq_true rfl, Nat.le_of_ble_eq_true rfl⟩ dX7_wallFor_36 (fun r11 h10 H locs hH hw => ?_)
      exact hv_iret hx hb hr hlk hH hw dX7_wallFor_39
abbrev rm_X7_changesNames : Room := { frames := 0, cells := 0, slots := 0, locals := 0 }
set_option maxHeartbeats 4000000 in
set_option maxRecDepth 100000 in
theorem m_X7_changesNames {l : Launch} {G : Gl} {B sz : Nat} {S : St} (v0 : Nat) (v1 : Int32) (v2 : Int32) (h : Hp) (Q : Hp → Prop) (hw : w_X7_changesNames S v0 v1 v2 h Q) : MV l G B sz S yX7_changesNames cX7_changesNames 5 rm_X7_changesNames [.ref v0, .int v1, .int v2] h Q := by
  refine met_of rfl rfl ?_
  intro p e s m args below meth c hMB H ls hH hl
  obtain ⟨hx, hb, hml, hown, hKK, hr, hlk⟩ := hMB
  replace hl : lv_has ls 5 [(0, .ref v0), (1, .int v1), (2, .int v2)] := hl
  have c2 : ∀  (v0 : Nat) (v1 : Int32) (v2 : Int32) (v3 : Int32) (h : Hp) (H : Heap) (locs : List Loc) (ls : Array Slot), HH G B S h sz s H locs → lv_has ls 5 [(0, .ref v0), (1, .int v1), (2, .int v2), (3, .int v3)] → w_X7_changesNames_c2 S v0 v1 v2 v3 h Q → W p l e rm_X7_changesNames s m args below meth c H locs 0 0 (QV G B S sz below args s Q) (F0 m 2 ls []) := by
    intro  v0 v1 v2 v3 h H locs ls hH hl hw
    unfold w_X7_changesNames_c2 at hw
    obtain ⟨P2, hP2⟩ : ∃ P : Int32 → Hp → Prop, ∀ (v3 : Int32) (h : Hp), P v3 h ↔ (∀ (H : Heap) (locs : List Loc) (ls : Array Slot), HH G B S h sz s H locs → lv_has ls 5 [(0, .ref v0), (1, .int v1), (2, .int v2), (3, .int v3)] → W p l e rm_X7_changesNames s m args below meth c H locs 0 0 (QV G B S sz below args s Q) (F0 m 2 ls [])) := ⟨_, fun v3 h => Iff.rfl⟩
    refine (hP2 v3 h).1 (hw P2 (fun v3 h hw => (hP2 v3 h).2 (fun H locs ls hH hl => ?_))) H locs ls hH hl
    have hK2 : ∀ (v3 : Int32) (h : Hp) (H : Heap) (locs : List Loc) (ls : Array Slot), HH G B S h sz s H locs → lv_has ls 5 [(0, .ref v0), (1, .int v1), (2, .int v2), (3, .int v3)] → P2 v3 h → W p l e rm_X7_changesNames s m args below meth c H locs 0 0 (QV G B S sz below args s Q) (F0 m 2 ls []) := fun v3 h H locs ls hH hl hk => (hP2 v3 h).1 hk H locs ls hH hl
    refine lv_iload_n hx hb dX7_changesNames_2 rfl (lv_at hl 3 rfl) ?_
    refine lv_bipush (v := (nI 6)) hx hb dX7_changesNames_3 (by decide) ?_
    refine lv_icmp_ge (tgt := 62) hx hb dX7_changesNames_5 (by decide) (fun c1 => ?_) (fun c1 => ?_)
    · have hw := ite_t hw c1
      refine lv_aload_n hx hb dX7_changesNames_62 rfl (lv_at hl 0 rfl) ?_
      obtain ⟨k2, hw⟩ := hw
      refine hv_get (ci := 7) (k := 11) (v := .ref (S.2 v0 11)) hx hb hown hKK hH cf7 (by decide) fl_X7_43 rfl k2 rfl dX7_changesNames_63 ?_
      refine lv_iload_n hx hb dX7_changesNames_66 rfl (lv_at hl 1 rfl) ?_
      obtain ⟨k3, hw⟩ := hw
      refine hv_iald hx hb hKK hH k3 dX7_changesNames_67 ?_
      refine lv_istore_n (lv' := [(3, .int (h (S.2 v0 11) (ix v1))), (0, .ref v0), (1, .int v1), (2, .int v2)]) hx hb dX7_changesNames_68 rfl hl (by decide) rfl (fun ls hl => ?_)
      refine lv_aload_n hx hb dX7_changesNames_69 rfl (lv_at hl 1 rfl) ?_
      refine hv_get (ci := 7) (k := 11) (v := .ref (S.2 v0 11)) hx hb hown hKK hH cf7 (by decide) fl_X7_43 rfl k2 rfl dX7_changesNames_70 ?_
      refine lv_iload_n hx hb dX7_changesNames_73 rfl (lv_at hl 2 rfl) ?_
      refine lv_aload_n hx hb dX7_changesNames_74 rfl (lv_at hl 1 rfl) ?_
      refine hv_get (ci := 7) (k := 11) (v := .ref (S.2 v0 11)) hx hb hown hKK hH cf7 (by decide) fl_X7_43 rfl k2 rfl dX7_changesNames_75 ?_
      refine lv_iload_n hx hb dX7_changesNames_78 rfl (lv_at hl 3 rfl) ?_
      obtain ⟨k4, hw⟩ := hw
      refine hv_iald hx hb hKK hH k4 dX7_changesNames_79 ?_
      refine hv_iast hx hb hKK hH k3 dX7_changesNames_80 (fun H locs hH => ?_)
      refine lv_aload_n hx hb dX7_changesNames_81 rfl (lv_at hl 1 rfl) ?_
      refine hv_get (ci := 7) (k := 11) (v := .ref (S.2 v0 11)) hx hb hown hKK hH cf7 (by decide) fl_X7_43 rfl k2 rfl dX7_changesNames_82 ?_
      refine lv_iload_n hx hb dX7_changesNames_85 rfl (lv_at hl 3 rfl) ?_
      refine lv_iload_n hx hb dX7_changesNames_86 rfl (lv_at hl 0 rfl) ?_
      refine hv_iast hx hb hKK hH k4 dX7_changesNames_87 (fun H locs hH => ?_)
      exact hv_vret hx hb hr hlk hH hw dX7_changesNames_88
    · have hw := ite_f hw c1
      refine lv_aload_n hx hb dX7_changesNames_8 rfl (lv_at hl 0 rfl) ?_
      obtain ⟨k5, hw⟩ := hw
      refine hv_get (ci := 7) (k := 12) (v := .ref (S.2 v0 12)) hx hb hown hKK hH cf7 (by decide) fl_X7_46 rfl k5 rfl dX7_changesNames_9 ?_
      refine lv_bipush (v := (nI 6)) hx hb dX7_changesNames_12 (by decide) ?_
      refine lv_iload_n hx hb dX7_changesNames_14 rfl (lv_at hl 1 rfl) ?_
      refine lv_imul hx hb dX7_changesNames_15 ?_
      refine lv_iload_n hx hb dX7_changesNames_16 rfl (lv_at hl 3 rfl) ?_
      refine lv_iadd hx hb dX7_changesNames_17 ?_
      obtain ⟨k6, hw⟩ := hw
      refine hv_iald hx hb hKK hH k6 dX7_changesNames_18 ?_
      refine lv_istore (lv' := [(4, .int (h (S.2 v0 12) (ix (((nI 6) * v1) + v3)))), (0, .ref v0), (1, .int v1), (2, .int v2), (3, .int v3)]) hx hb dX7_changesNames_19 hl (by decide) rfl (fun ls hl => ?_)
      refine lv_aload_n hx hb dX7_changesNames_21 rfl (lv_at hl 1 rfl) ?_
      refine hv_get (ci := 7) (k := 12) (v := .ref (S.2 v0 12)) hx hb hown hKK hH cf7 (by decide) fl_X7_46 rfl k5 rfl dX7_changesNames_22 ?_
      refine lv_bipush (v := (nI 6)) hx hb dX7_changesNames_25 (by decide) ?_
      refine lv_iload_n hx hb dX7_changesNames_27 rfl (lv_at hl 2 rfl) ?_
      refine lv_imul hx hb dX7_changesNames_28 ?_
      refine lv_iload_n hx hb dX7_changesNames_29 rfl (lv_at hl 4 rfl) ?_
      refine lv_iadd hx hb dX7_changesNames_30 ?_
      refine lv_aload_n hx hb dX7_changesNames_31 rfl (lv_at hl 1 rfl) ?_
      refine hv_get (ci := 7) (k := 12) (v := .ref (S.2 v0 12)) hx hb hown hKK hH cf7 (by decide) fl_X7_46 rfl k5 rfl dX7_changesNames_32 ?_
      refine lv_bipush (v := (nI 6)) hx hb dX7_changesNames_35 (by decide) ?_
      refine lv_iload_n hx hb dX7_changesNames_37 rfl (lv_at hl 3 rfl) ?_
      refine lv_imul hx hb dX7_changesNames_38 ?_
      refine lv_iload_n hx hb dX7_changesNames_39 rfl (lv_at hl 4 rfl) ?_
      refine lv_iadd hx hb dX7_changesNames_40 ?_
      obtain ⟨k7, hw⟩ := hw
      refine hv_iald hx hb hKK hH k7 dX7_changesNames_41 ?_
      refine hv_iast hx hb hKK hH k6 dX7_changesNames_42 (fun H locs hH => ?_)
      refine lv_aload_n hx hb dX7_changesNames_43 rfl (lv_at hl 1 rfl) ?_
      refine hv_get (ci := 7) (k := 12) (v := .ref (S.2 v0 12)) hx hb hown hKK hH cf7 (by decide) fl_X7_46 rfl k5 rfl dX7_changesNames_44 ?_
      refine lv_bipush (v := (nI 6)) hx hb dX7_changesNames_47 (by decide) ?_
      refine lv_iload_n hx hb dX7_changesNames_49 rfl (lv_at hl 3 rfl) ?_
      refine lv_imul hx hb dX7_changesNames_50 ?_
      refine lv_iload_n hx hb dX7_changesNames_51 rfl (lv_at hl 4 rfl) ?_
      refine lv_iadd hx hb dX7_changesNames_52 ?_
      refine lv_iload hx hb dX7_changesNames_53 (lv_at hl 0 rfl) ?_
      refine hv_iast hx hb hKK hH k7 dX7_changesNames_55 (fun H locs hH => ?_)
      refine lv_iinc (v := v3 + (nI 1)) (lv' := [(3, .int (v3 + (nI 1))), (4, .int (h (S.2 v0 12) (ix (((nI 6) * v1) + v3)))), (0, .ref v0), (1, .int v1), (2, .int v2)]) hx hb dX7_changesNames_56 hl (k := 4) rfl rfl (by decide) rfl (fun ls hl => ?_)
      refine lv_goto (tgt := 2) hx hb dX7_changesNames_59 (by decide) ?_
      exact hK2 _ _ H locs ls hH (lv_sub hl [2, 3, 4, 0] rfl) hw
  unfold w_X7_changesNames at hw
  show W p l e rm_X7_changesNames s m args below meth c H [] 0 0 (QV G B S sz below args s Q) (F0 m 0 ls [])
  generalize ([] : List Loc) = locs at hH ⊢
  refine lv_iconst (v := (nI 0)) hx hb dX7_changesNames_0 (by decide) ?_
  refine lv_istore_n (lv' := [(3, .int (nI 0)), (0, .ref v0), (1, .int v1), (2, .int v2)]) hx hb dX7_changesNames_1 rfl hl (by decide) rfl (fun ls hl => ?_)
  exact c2 _ _ _ _ _ H locs ls hH (lv_sub hl [1, 2, 3, 0] rfl) hw
abbrev rm_X7_names : Room := { frames := 7, cells := 0, slots := 0, locals := 161 }
set_option maxHeartbeats 4000000 in
set_option maxRecDepth 100000 in
theorem m_X7_names {l : Launch} {G : Gl} {B sz : Nat} {S : St} (v0 : Nat) (v1 : Int32) (h : Hp) (Q : Int32 → Hp → Prop) (hw : w_X7_names S v0 v1 h Q) : MI l G B sz S yX7_names cX7_names 8 .int rm_X7_names [.ref v0, .int v1] h Q := by
  refine met_of rfl rfl ?_
  intro p e s m args below meth c hMB H ls hH hl
  obtain ⟨hx, hb, hml, hown, hKK, hr, hlk⟩ := hMB
  replace hl : lv_has ls 8 [(0, .ref v0), (1, .int v1)] := hl
  have c65 : ∀ (v0 : Nat) (v1 : Int32) (P50 : Int32 → Int32 → Int32 → Hp → Prop) (_ : ∀ (v3 : Int32) (v4 : Int32) (v5 : Int32) (h : Hp) (H : Heap) (locs : List Loc) (ls : Array Slot), HH G B S h sz s H locs → lv_has ls 8 [(0, .ref v0), (1, .int v1), (3, .int v3), (4, .int v4), (5, .int v5)] → P50 v3 v4 v5 h → W p l e rm_X7_names s m args below meth c H locs 0 0 (QI G B S sz below args s Q) (F0 m 50 ls [])) (v5 : Int32) (v3 : Int32) (v4 : Int32) (v6 : Int32) (h : Hp) (H : Heap) (locs : List Loc) (ls : Array Slot), HH G B S h sz s H locs → lv_has ls 8 [(0, .ref v0), (1, .int v1), (3, .int v3), (4, .int v4), (5, .int v5), (6, .int v6)] → w_X7_names_c65 S v0 v1 v5 v3 v4 v6 h Q P50 → W p l e rm_X7_names s m args below meth c H locs 0 0 (QI G B S sz below args s Q) (F0 m 65 ls []) := by
    intro v0 v1 P50 hK50 v5 v3 v4 v6 h H locs ls hH hl hw
    unfold w_X7_names_c65 at hw
    obtain ⟨P65, hP65⟩ : ∃ P : Int32 → Int32 → Int32 → Hp → Prop, ∀ (v3 : Int32) (v4 : Int32) (v6 : Int32) (h : Hp), P v3 v4 v6 h ↔ (∀ (H : Heap) (locs : List Loc) (ls : Array Slot), HH G B S h sz s H locs → lv_has ls 8 [(0, .ref v0), (1, .int v1), (3, .int v3), (4, .int v4), (5, .int v5), (6, .int v6)] → W p l e rm_X7_names s m args below meth c H locs 0 0 (QI G B S sz below args s Q) (F0 m 65 ls [])) := ⟨_, fun v3 v4 v6 h => Iff.rfl⟩
    refine (hP65 v3 v4 v6 h).1 (hw P65 (fun v3 v4 v6 h hw => (hP65 v3 v4 v6 h).2 (fun H locs ls hH hl => ?_))) H locs ls hH hl
    have hK65 : ∀ (v3 : Int32) (v4 : Int32) (v6 : Int32) (h : Hp) (H : Heap) (locs : List Loc) (ls : Array Slot), HH G B S h sz s H locs → lv_has ls 8 [(0, .ref v0), (1, .int v1), (3, .int v3), (4, .int v4), (5, .int v5), (6, .int v6)] → P65 v3 v4 v6 h → W p l e rm_X7_names s m args below meth c H locs 0 0 (QI G B S sz below args s Q) (F0 m 65 ls []) := fun v3 v4 v6 h H locs ls hH hl hk => (hP65 v3 v4 v6 h).1 hk H locs ls hH hl
    refine lv_iload hx hb dX7_names_65 (lv_at hl 5 rfl) ?_
    refine lv_aload_n hx hb dX7_names_67 rfl (lv_at hl 0 rfl) ?_
    obtain ⟨k1, hw⟩ := hw
    refine hv_get (ci := 7) (k := 13) (v := .int (h v0 13)) hx hb hown hKK hH cf7 (by decide) fl_X7_79 rfl k1 rfl dX7_names_68 ?_
    refine lv_icmp_ge (tgt := 137) hx hb dX7_names_71 (by decide) (fun c2 => ?_) (fun c2 => ?_)
    · have hw := ite_t hw c2
      refine lv_iinc (v := v5 + (nI 1)) (lv' := [(5, .int (v5 + (nI 1))), (0, .ref v0), (1, .int v1), (3, .int v3), (4, .int v4), (6, .int v6)]) hx hb dX7_names_137 hl (k := 4) rfl rfl (by decide) rfl (fun ls hl => ?_)
      refine lv_goto (tgt := 50) hx hb dX7_names_140 (by decide) ?_
      exact hK50 _ _ _ _ H locs ls hH (lv_sub hl [1, 2, 3, 4, 0] rfl) hw
    · have hw := ite_f hw c2
      refine lv_aload_n hx hb dX7_names_74 rfl (lv_at hl 0 rfl) ?_
      refine hv_cVV (rm := rm_X7_minds) (As := []) (rest := []) (k := 0) (ci := 7) hx hb hml hown hKK hH cf7 k1 (m_X7_minds v0 _ _ hw) cw_X7_343 ⟨Nat.le_of_ble_eq_true rfl, Nat.le_of_ble_eq_true rfl⟩ rfl hl.1 rfl (Nat.le_of_ble_eq_true rfl) ⟨Nat.le_of_ble_eq_true rfl, Nat.le_of_ble_eq_true rfl⟩ dX7_names_75 (fun h3 H locs hH hw => ?_)
      refine lv_aload_n hx hb dX7_names_78 rfl (lv_at hl 0 rfl) ?_
      refine lv_iload hx hb dX7_names_79 (lv_at hl 4 rfl) ?_
      refine lv_iload hx hb dX7_names_81 (lv_at hl 5 rfl) ?_
      refine hv_cVV (rm := rm_X7_changesNames) (As := [.int v5, .int v6]) (rest := []) (k := 2) (ci := 7) hx hb hml hown hKK hH cf7 k1 (m_X7_changesNames v0 v5 v6 _ _ hw) cw_X7_371 ⟨Nat.le_of_ble_eq_true rfl, Nat.le_of_ble_eq_true rfl⟩ rfl hl.1 rfl (Nat.le_of_ble_eq_true rfl) ⟨Nat.le_of_ble_eq_true rfl, Nat.le_of_ble_eq_true rfl⟩ dX7_names_83 (fun h4 H locs hH hw => ?_)
      refine lv_aload_n hx hb dX7_names_86 rfl (lv_at hl 0 rfl) ?_
      refine lv_iload_n hx hb dX7_names_87 rfl (lv_at hl 1 rfl) ?_
      refine hv_cVV (rm := rm_X7_goes) (As := [.int v1]) (rest := []) (k := 1) (ci := 7) hx hb hml hown hKK hH cf7 k1 (m_X7_goes v0 v1 _ _ hw) cw_X7_261 ⟨Nat.le_of_ble_eq_true rfl, Nat.le_of_ble_eq_true rfl⟩ rfl hl.1 rfl (Nat.le_of_ble_eq_true rfl) ⟨Nat.le_of_ble_eq_true rfl, Nat.le_of_ble_eq_true rfl⟩ dX7_names_88 (fun h5 H locs hH hw => ?_)
      refine lv_aload_n hx hb dX7_names_91 rfl (lv_at hl 0 rfl) ?_
      refine hv_get (ci := 7) (k := 9) (v := .ref (S.2 v0 9)) hx hb hown hKK hH cf7 (by decide) fl_X7_37 rfl k1 rfl dX7_names_92 ?_
      refine lv_aload_n hx hb dX7_names_95 rfl (lv_at hl 0 rfl) ?_
      refine hv_get (ci := 7) (k := 13) (v := .int (h5 v0 13)) hx hb hown hKK hH cf7 (by decide) fl_X7_79 rfl k1 rfl dX7_names_96 ?_
      refine hv_cSI (rm := rm_X7_allOf) (As := [.ref (S.2 v0 9), .int (h5 v0 13)]) (rest := []) (k := 2) hx hb hml hown hKK hH (m_X7_allOf (S.2 v0 9) (h5 v0 13) _ _ hw) cw_X7_352 ⟨Nat.le_of_ble_eq_true rfl, Nat.le_of_ble_eq_true rfl⟩ rfl hl.1 rfl (Nat.le_of_ble_eq_true rfl) ⟨Nat.le_of_ble_eq_true rfl, Nat.le_of_ble_eq_true rfl⟩ dX7_names_99 (fun r7 h6 H locs hH hw => ?_)
      refine lv_istore (lv' := [(7, .int r7), (0, .ref v0), (1, .int v1), (3, .int v3), (4, .int v4), (5, .int v5), (6, .int v6)]) hx hb dX7_names_102 hl (by decide) rfl (fun ls hl => ?_)
      refine lv_aload_n hx hb dX7_names_104 rfl (lv_at hl 1 rfl) ?_
      refine hv_cVV (rm := rm_X7_forgets) (As := []) (rest := []) (k := 0) (ci := 7) hx hb hml hown hKK hH cf7 k1 (m_X7_forgets v0 _ _ hw) cw_X7_346 ⟨Nat.le_of_ble_eq_true rfl, Nat.le_of_ble_eq_true rfl⟩ rfl hl.1 rfl (Nat.le_of_ble_eq_true rfl) ⟨Nat.le_of_ble_eq_true rfl, Nat.le_of_ble_eq_true rfl⟩ dX7_names_105 (fun h8 H locs hH hw => ?_)
      refine lv_iload hx hb dX7_names_108 (lv_at hl 0 rfl) ?_
      refine lv_iload hx hb dX7_names_110 (lv_at hl 4 rfl) ?_
      refine lv_icmp_gt (tgt := 118) hx hb dX7_names_112 (by decide) (fun c9 => ?_) (fun c9 => ?_)
      · have hw := ite_t hw c9
        refine lv_bipush (v := (nI 10)) hx hb dX7_names_118 (by decide) ?_
        refine lv_iload hx hb dX7_names_120 (lv_at hl 5 rfl) ?_
        refine lv_imul hx hb dX7_names_122 ?_
        refine lv_iload hx hb dX7_names_123 (lv_at hl 6 rfl) ?_
        refine lv_iadd hx hb dX7_names_125 ?_
        refine lv_istore_n (lv' := [(3, .int (((nI 10) * v5) + v6)), (7, .int r7), (0, .ref v0), (1, .int v1), (4, .int v4), (5, .int v5), (6, .int v6)]) hx hb dX7_names_126 rfl hl (by decide) rfl (fun ls hl => ?_)
        refine lv_iload hx hb dX7_names_127 (lv_at hl 1 rfl) ?_
        refine lv_istore (lv' := [(4, .int r7), (3, .int (((nI 10) * v5) + v6)), (7, .int r7), (0, .ref v0), (1, .int v1), (5, .int v5), (6, .int v6)]) hx hb dX7_names_129 hl (by decide) rfl (fun ls hl => ?_)
        refine lv_iinc (v := v6 + (nI 1)) (lv' := [(6, .int (v6 + (nI 1))), (4, .int r7), (3, .int (((nI 10) * v5) + v6)), (7, .int r7), (0, .ref v0), (1, .int v1), (5, .int v5)]) hx hb dX7_names_131 hl (k := 6) rfl rfl (by decide) rfl (fun ls hl => ?_)
        refine lv_goto (tgt := 65) hx hb dX7_names_134 (by decide) ?_
        exact hK65 _ _ _ _ H locs ls hH (lv_sub hl [4, 5, 2, 1, 6, 0] rfl) hw
      · have hw := ite_f hw c9
        refine lv_goto (tgt := 131) hx hb dX7_names_115 (by decide) ?_
        refine lv_iinc (v := v6 + (nI 1)) (lv' := [(6, .int (v6 + (nI 1))), (7, .int r7), (0, .ref v0), (1, .int v1), (3, .int v3), (4, .int v4), (5, .int v5)]) hx hb dX7_names_131 hl (k := 6) rfl rfl (by decide) rfl (fun ls hl => ?_)
        refine lv_goto (tgt := 65) hx hb dX7_names_134 (by decide) ?_
        exact hK65 _ _ _ _ H locs ls hH (lv_sub hl [2, 3, 4, 5, 6, 0] rfl) hw
  have c50 : ∀  (v0 : Nat) (v1 : Int32) (v3 : Int32) (v4 : Int32) (v5 : Int32) (h : Hp) (H : Heap) (locs : List Loc) (ls : Array Slot), HH G B S h sz s H locs → lv_has ls 8 [(0, .ref v0), (1, .int v1), (3, .int v3), (4, .int v4), (5, .int v5)] → w_X7_names_c50 S v0 v1 v3 v4 v5 h Q → W p l e rm_X7_names s m args below meth c H locs 0 0 (QI G B S sz below args s Q) (F0 m 50 ls []) := by
    intro  v0 v1 v3 v4 v5 h H locs ls hH hl hw
    unfold w_X7_names_c50 at hw
    obtain ⟨P50, hP50⟩ : ∃ P : Int32 → Int32 → Int32 → Hp → Prop, ∀ (v3 : Int32) (v4 : Int32) (v5 : Int32) (h : Hp), P v3 v4 v5 h ↔ (∀ (H : Heap) (locs : List Loc) (ls : Array Slot), HH G B S h sz s H locs → lv_has ls 8 [(0, .ref v0), (1, .int v1), (3, .int v3), (4, .int v4), (5, .int v5)] → W p l e rm_X7_names s m args below meth c H locs 0 0 (QI G B S sz below args s Q) (F0 m 50 ls [])) := ⟨_, fun v3 v4 v5 h => Iff.rfl⟩
    refine (hP50 v3 v4 v5 h).1 (hw P50 (fun v3 v4 v5 h hw => (hP50 v3 v4 v5 h).2 (fun H locs ls hH hl => ?_))) H locs ls hH hl
    have hK50 : ∀ (v3 : Int32) (v4 : Int32) (v5 : Int32) (h : Hp) (H : Heap) (locs : List Loc) (ls : Array Slot), HH G B S h sz s H locs → lv_has ls 8 [(0, .ref v0), (1, .int v1), (3, .int v3), (4, .int v4), (5, .int v5)] → P50 v3 v4 v5 h → W p l e rm_X7_names s m args below meth c H locs 0 0 (QI G B S sz below args s Q) (F0 m 50 ls []) := fun v3 v4 v5 h H locs ls hH hl hk => (hP50 v3 v4 v5 h).1 hk H locs ls hH hl
    refine lv_iload hx hb dX7_names_50 (lv_at hl 4 rfl) ?_
    refine lv_aload_n hx hb dX7_names_52 rfl (lv_at hl 0 rfl) ?_
    obtain ⟨k1, hw⟩ := hw
    refine hv_get (ci := 7) (k := 13) (v := .int (h v0 13)) hx hb hown hKK hH cf7 (by decide) fl_X7_79 rfl k1 rfl dX7_names_53 ?_
    refine lv_icmp_ge (tgt := 143) hx hb dX7_names_56 (by decide) (fun c2 => ?_) (fun c2 => ?_)
    · have hw := ite_t hw c2
      refine lv_iload_n hx hb dX7_names_143 rfl (lv_at hl 2 rfl) ?_
      exact hv_iret hx hb hr hlk hH hw dX7_names_144
    · have hw := ite_f hw c2
      refine lv_iload hx hb dX7_names_59 (lv_at hl 4 rfl) ?_
      refine lv_iconst (v := (nI 1)) hx hb dX7_names_61 (by decide) ?_
      refine lv_iadd hx hb dX7_names_62 ?_
      refine lv_istore (lv' := [(6, .int (v5 + (nI 1))), (0, .ref v0), (1, .int v1), (3, .int v3), (4, .int v4), (5, .int v5)]) hx hb dX7_names_63 hl (by decide) rfl (fun ls hl => ?_)
      exact c65 _ _ _ hK50 _ _ _ _ _ H locs ls hH (lv_sub hl [1, 2, 3, 4, 5, 0] rfl) hw
  unfold w_X7_names at hw
  show W p l e rm_X7_names s m args below meth c H [] 0 0 (QI G B S sz below args s Q) (F0 m 0 ls [])
  generalize ([] : List Loc) = locs at hH ⊢
  refine lv_iload_n hx hb dX7_names_0 rfl (lv_at hl 1 rfl) ?_
  refine lv_iconst (v := (nI 0)) hx hb dX7_names_1 (by decide) ?_
  refine lv_bipush (v := (nI 30)) hx hb dX7_names_2 (by decide) ?_
  refine hv_cSI (rm := rm_X7_bound) (As := [.int v1, .int (nI 0), .int (nI 30)]) (rest := []) (k := 3) hx hb hml hown hKK hH (m_X7_bound v1 (nI 0) (nI 30) _ _ hw) cw_X7_163 ⟨Nat.le_of_ble_eq_true rfl, Nat.le_of_ble_eq_true rfl⟩ rfl hl.1 rfl (Nat.le_of_ble_eq_true rfl) ⟨Nat.le_of_ble_eq_true rfl, Nat.le_of_ble_eq_true rfl⟩ dX7_names_4 (fun r2 h1 H locs hH hw => ?_)
  refine lv_istore_n (lv' := [(2, .int r2), (0, .ref v0), (1, .int v1)]) hx hb dX7_names_7 rfl hl (by decide) rfl (fun ls hl => ?_)
  refine lv_iload_n hx hb dX7_names_8 rfl (lv_at hl 0 rfl) ?_
  refine lv_if_eq (tgt := 18) hx hb dX7_names_9 (by decide) (fun c3 => ?_) (fun c3 => ?_)
  · have hw := ite_t hw c3
    refine lv_bipush (v := (-9)) hx hb dX7_names_18 (by decide) ?_
    refine lv_istore_n (lv' := [(3, .int (-9)), (2, .int r2), (0, .ref v0), (1, .int v1)]) hx hb dX7_names_20 rfl hl (by decide) rfl (fun ls hl => ?_)
    refine lv_aload_n hx hb dX7_names_21 rfl (lv_at hl 2 rfl) ?_
    obtain ⟨k4, hw⟩ := hw
    refine hv_cVV (rm := rm_X7_minds) (As := []) (rest := []) (k := 0) (ci := 7) hx hb hml hown hKK hH cf7 k4 (m_X7_minds v0 _ _ hw) cw_X7_343 ⟨Nat.le_of_ble_eq_true rfl, Nat.le_of_ble_eq_true rfl⟩ rfl hl.1 rfl (Nat.le_of_ble_eq_true rfl) ⟨Nat.le_of_ble_eq_true rfl, Nat.le_of_ble_eq_true rfl⟩ dX7_names_22 (fun h5 H locs hH hw => ?_)
    refine lv_aload_n hx hb dX7_names_25 rfl (lv_at hl 2 rfl) ?_
    refine lv_iload_n hx hb dX7_names_26 rfl (lv_at hl 3 rfl) ?_
    refine hv_cVV (rm := rm_X7_goes) (As := [.int v1]) (rest := []) (k := 1) (ci := 7) hx hb hml hown hKK hH cf7 k4 (m_X7_goes v0 v1 _ _ hw) cw_X7_261 ⟨Nat.le_of_ble_eq_true rfl, Nat.le_of_ble_eq_true rfl⟩ rfl hl.1 rfl (Nat.le_of_ble_eq_true rfl) ⟨Nat.le_of_ble_eq_true rfl, Nat.le_of_ble_eq_true rfl⟩ dX7_names_27 (fun h6 H locs hH hw => ?_)
    refine lv_aload_n hx hb dX7_names_30 rfl (lv_at hl 2 rfl) ?_
    refine hv_get (ci := 7) (k := 9) (v := .ref (S.2 v0 9)) hx hb hown hKK hH cf7 (by decide) fl_X7_37 rfl k4 rfl dX7_names_31 ?_
    refine lv_aload_n hx hb dX7_names_34 rfl (lv_at hl 2 rfl) ?_
    refine hv_get (ci := 7) (k := 13) (v := .int (h6 v0 13)) hx hb hown hKK hH cf7 (by decide) fl_X7_79 rfl k4 rfl dX7_names_35 ?_
    refine hv_cSI (rm := rm_X7_allOf) (As := [.ref (S.2 v0 9), .int (h6 v0 13)]) (rest := []) (k := 2) hx hb hml hown hKK hH (m_X7_allOf (S.2 v0 9) (h6 v0 13) _ _ hw) cw_X7_352 ⟨Nat.le_of_ble_eq_true rfl, Nat.le_of_ble_eq_true rfl⟩ rfl hl.1 rfl (Nat.le_of_ble_eq_true rfl) ⟨Nat.le_of_ble_eq_true rfl, Nat.le_of_ble_eq_true rfl⟩ dX7_names_38 (fun r8 h7 H locs hH hw => ?_)
    refine lv_istore (lv' := [(4, .int r8), (3, .int (-9)), (2, .int r2), (0, .ref v0), (1, .int v1)]) hx hb dX7_names_41 hl (by decide) rfl (fun ls hl => ?_)
    refine lv_aload_n hx hb dX7_names_43 rfl (lv_at hl 3 rfl) ?_
    refine hv_cVV (rm := rm_X7_forgets) (As := []) (rest := []) (k := 0) (ci := 7) hx hb hml hown hKK hH cf7 k4 (m_X7_forgets v0 _ _ hw) cw_X7_346 ⟨Nat.le_of_ble_eq_true rfl, Nat.le_of_ble_eq_true rfl⟩ rfl hl.1 rfl (Nat.le_of_ble_eq_true rfl) ⟨Nat.le_of_ble_eq_true rfl, Nat.le_of_ble_eq_true rfl⟩ dX7_names_44 (fun h9 H locs hH hw => ?_)
    refine lv_iconst (v := (nI 0)) hx hb dX7_names_47 (by decide) ?_
    refine lv_istore (lv' := [(5, .int (nI 0)), (4, .int r8), (3, .int (-9)), (2, .int r2), (0, .ref v0), (1, .int v1)]) hx hb dX7_names_48 hl (by decide) rfl (fun ls hl => ?_)
    exact c50 _ _ _ _ _ _ H locs ls hH (lv_sub hl [4, 5, 2, 1, 0] rfl) hw
  · have hw := ite_f hw c3
    refine lv_aload_n hx hb dX7_names_12 rfl (lv_at hl 1 rfl) ?_
    refine lv_iload_n hx hb dX7_names_13 rfl (lv_at hl 0 rfl) ?_
    obtain ⟨k10, hw⟩ := hw
    refine hv_cVI (rm := rm_X7_no) (As := [.int r2]) (rest := []) (k := 1) (ci := 7) hx hb hml hown hKK hH cf7 k10 (m_X7_no v0 r2 _ _ hw) cw_X7_170 ⟨Nat.le_of_ble_eq_true rfl, Nat.le_of_ble_eq_true rfl⟩ rfl hl.1 rfl (Nat.le_of_ble_eq_true rfl) ⟨Nat.le_of_ble_eq_true rfl, Nat.le_of_ble_eq_true rfl⟩ dX7_names_14 (fun r12 h11 H locs hH hw => ?_)
    exact hv_iret hx hb hr hlk hH hw dX7_names_17
abbrev rm_X7_wentSo : Room := { frames := 6, cells := 0, slots := 0, locals := 139 }
set_option maxHeartbeats 4000000 in
set_option maxRecDepth 100000 in
theorem m_X7_wentSo {l : Launch} {G : Gl} {B sz : Nat} {S : St} (v0 : Nat) (v1 : Int32) (h : Hp) (Q : Int32 → Hp → Prop) (hw : w_X7_wentSo S v0 v1 h Q) : MI l G B sz S yX7_wentSo cX7_wentSo 3 .boolean rm_X7_wentSo [.ref v0, .int v1] h Q := by
  refine met_of rfl rfl ?_
  intro p e s m args below meth c hMB H ls hH hl
  obtain ⟨hx, hb, hml, hown, hKK, hr, hlk⟩ := hMB
  replace hl : lv_has ls 3 [(0, .ref v0), (1, .int v1)] := hl
  have c2 : ∀  (v0 : Nat) (v1 : Int32) (v2 : Int32) (h : Hp) (H : Heap) (locs : List Loc) (ls : Array Slot), HH G B S h sz s H locs → lv_has ls 3 [(0, .ref v0), (1, .int v1), (2, .int v2)] → w_X7_wentSo_c2 S v0 v1 v2 h Q → W p l e rm_X7_wentSo s m args below meth c H locs 0 0 (QI G B S sz below args s Q) (F0 m 2 ls []) := by
    intro  v0 v1 v2 h H locs ls hH hl hw
    unfold w_X7_wentSo_c2 at hw
    obtain ⟨P2, hP2⟩ : ∃ P : Int32 → Hp → Prop, ∀ (v2 : Int32) (h : Hp), P v2 h ↔ (∀ (H : Heap) (locs : List Loc) (ls : Array Slot), HH G B S h sz s H locs → lv_has ls 3 [(0, .ref v0), (1, .int v1), (2, .int v2)] → W p l e rm_X7_wentSo s m args below meth c H locs 0 0 (QI G B S sz below args s Q) (F0 m 2 ls [])) := ⟨_, fun v2 h => Iff.rfl⟩
    refine (hP2 v2 h).1 (hw P2 (fun v2 h hw => (hP2 v2 h).2 (fun H locs ls hH hl => ?_))) H locs ls hH hl
    have hK2 : ∀ (v2 : Int32) (h : Hp) (H : Heap) (locs : List Loc) (ls : Array Slot), HH G B S h sz s H locs → lv_has ls 3 [(0, .ref v0), (1, .int v1), (2, .int v2)] → P2 v2 h → W p l e rm_X7_wentSo s m args below meth c H locs 0 0 (QI G B S sz below args s Q) (F0 m 2 ls []) := fun v2 h H locs ls hH hl hk => (hP2 v2 h).1 hk H locs ls hH hl
    refine lv_iload_n hx hb dX7_wentSo_2 rfl (lv_at hl 2 rfl) ?_
    refine lv_aload_n hx hb dX7_wentSo_3 rfl (lv_at hl 0 rfl) ?_
    obtain ⟨k1, hw⟩ := hw
    refine hv_get (ci := 7) (k := 32) (v := .int (h v0 32)) hx hb hown hKK hH cf7 (by decide) fl_X7_374 rfl k1 rfl dX7_wentSo_4 ?_
    refine lv_icmp_ge (tgt := 37) hx hb dX7_wentSo_7 (by decide) (fun c2 => ?_) (fun c2 => ?_)
    · have hw := ite_t hw c2
      refine lv_iconst (v := (nI 1)) hx hb dX7_wentSo_37 (by decide) ?_
      exact hv_zret hx hb hr hlk hH (Or.inr rfl) hw dX7_wentSo_38
    · have hw := ite_f hw c2
      refine lv_aload_n hx hb dX7_wentSo_10 rfl (lv_at hl 0 rfl) ?_
      refine hv_get (ci := 7) (k := 6) (v := .ref (S.2 v0 6)) hx hb hown hKK hH cf7 (by decide) fl_X7_28 rfl k1 rfl dX7_wentSo_11 ?_
      refine lv_iload_n hx hb dX7_wentSo_14 rfl (lv_at hl 1 rfl) ?_
      obtain ⟨k3, hw⟩ := hw
      refine hv_iald hx hb hKK hH k3 dX7_wentSo_15 ?_
      refine lv_aload_n hx hb dX7_wentSo_16 rfl (lv_at hl 0 rfl) ?_
      refine hv_get (ci := 7) (k := 31) (v := .ref (S.2 v0 31)) hx hb hown hKK hH cf7 (by decide) fl_X7_70 rfl k1 rfl dX7_wentSo_17 ?_
      refine lv_iload_n hx hb dX7_wentSo_20 rfl (lv_at hl 2 rfl) ?_
      obtain ⟨k4, hw⟩ := hw
      refine hv_iald hx hb hKK hH k4 dX7_wentSo_21 ?_
      refine lv_icmp_eq (tgt := 27) hx hb dX7_wentSo_22 (by decide) (fun c5 => ?_) (fun c5 => ?_)
      · have hw := ite_t hw c5
        refine lv_aload_n hx hb dX7_wentSo_27 rfl (lv_at hl 0 rfl) ?_
        refine hv_cVV (rm := rm_X7_goesNight) (As := []) (rest := []) (k := 0) (ci := 7) hx hb hml hown hKK hH cf7 k1 (m_X7_goesNight v0 _ _ hw) cw_X7_160 ⟨Nat.le_of_ble_eq_true rfl, Nat.le_of_ble_eq_true rfl⟩ rfl hl.1 rfl (Nat.le_of_ble_eq_true rfl) ⟨Nat.le_of_ble_eq_true rfl, Nat.le_of_ble_eq_true rfl⟩ dX7_wentSo_28 (fun h6 H locs hH hw => ?_)
        refine lv_iinc (v := v2 + (nI 1)) (lv' := [(2, .int (v2 + (nI 1))), (0, .ref v0), (1, .int v1)]) hx hb dX7_wentSo_31 hl (k := 2) rfl rfl (by decide) rfl (fun ls hl => ?_)
        refine lv_goto (tgt := 2) hx hb dX7_wentSo_34 (by decide) ?_
        exact hK2 _ _ H locs ls hH (lv_sub hl [1, 2, 0] rfl) hw
      · have hw := ite_f hw c5
        refine lv_iconst (v := (nI 0)) hx hb dX7_wentSo_25 (by decide) ?_
        exact hv_zret hx hb hr hlk hH (Or.inl rfl) hw dX7_wentSo_26
  unfold w_X7_wentSo at hw
  show W p l e rm_X7_wentSo s m args below meth c H [] 0 0 (QI G B S sz below args s Q) (F0 m 0 ls [])
  generalize ([] : List Loc) = locs at hH ⊢
  refine lv_iconst (v := (nI 0)) hx hb dX7_wentSo_0 (by decide) ?_
  refine lv_istore_n (lv' := [(2, .int (nI 0)), (0, .ref v0), (1, .int v1)]) hx hb dX7_wentSo_1 rfl hl (by decide) rfl (fun ls hl => ?_)
  exact c2 _ _ _ _ H locs ls hH (lv_sub hl [1, 2, 0] rfl) hw
abbrev rm_X7_whatKind : Room := { frames := 7, cells := 0, slots := 0, locals := 161 }
set_option maxHeartbeats 4000000 in
set_option maxRecDepth 100000 in
theorem m_X7_whatKind {l : Launch} {G : Gl} {B sz : Nat} {S : St} (v0 : Nat) (v1 : Int32) (v2 : Int32) (h : Hp) (Q : Int32 → Hp → Prop) (hw : w_X7_whatKind S v0 v1 v2 h Q) : MI l G B sz S yX7_whatKind cX7_whatKind 6 .int rm_X7_whatKind [.ref v0, .int v1, .int v2] h Q := by
  refine met_of rfl rfl ?_
  intro p e s m args below meth c hMB H ls hH hl
  obtain ⟨hx, hb, hml, hown, hKK, hr, hlk⟩ := hMB
  replace hl : lv_has ls 6 [(0, .ref v0), (1, .int v1), (2, .int v2)] := hl
  have c87 : ∀ (v0 : Nat) (v1 : Int32) (v2 : Int32) (P44 : Int32 → Int32 → Hp → Prop) (_ : ∀ (v4 : Int32) (v5 : Int32) (h : Hp) (H : Heap) (locs : List Loc) (ls : Array Slot), HH G B S h sz s H locs → lv_has ls 6 [(0, .ref v0), (1, .int v1), (2, .int v2), (4, .int v4), (5, .int v5)] → P44 v4 v5 h → W p l e rm_X7_whatKind s m args below meth c H locs 0 0 (QI G B S sz below args s Q) (F0 m 44 ls [])) (v4 : Int32) (v5 : Int32) (h : Hp) (H : Heap) (locs : List Loc) (ls : Array Slot), HH G B S h sz s H locs → lv_has ls 6 [(0, .ref v0), (1, .int v1), (2, .int v2), (4, .int v4), (5, .int v5)] → w_X7_whatKind_c87 S v0 v1 v2 v4 v5 h Q P44 → W p l e rm_X7_whatKind s m args below meth c H locs 0 0 (QI G B S sz below args s Q) (F0 m 87 ls []) := by
    intro v0 v1 v2 P44 hK44 v4 v5 h H locs ls hH hl hw
    unfold w_X7_whatKind_c87 at hw
    refine lv_iload hx hb dX7_whatKind_87 (lv_at hl 3 rfl) ?_
    refine lv_aload_n hx hb dX7_whatKind_89 rfl (lv_at hl 0 rfl) ?_
    refine lv_iload_n hx hb dX7_whatKind_90 rfl (lv_at hl 1 rfl) ?_
    obtain ⟨k1, hw⟩ := hw
    refine hv_cVI (rm := rm_X7_wentSo) (As := [.int v1]) (rest := [.int v4]) (k := 1) (ci := 7) hx hb hml hown hKK hH cf7 k1 (m_X7_wentSo v0 v1 _ _ hw) cw_X7_377 ⟨Nat.le_of_ble_eq_true rfl, Nat.le_of_ble_eq_true rfl⟩ rfl hl.1 rfl (Nat.le_of_ble_eq_true rfl) ⟨Nat.le_of_ble_eq_true rfl, Nat.le_of_ble_eq_true rfl⟩ dX7_whatKind_91 (fun r3 h2 H locs hH hw => ?_)
    refine lv_if_eq (tgt := 104) hx hb dX7_whatKind_94 (by decide) (fun c4 => ?_) (fun c4 => ?_)
    · have hw := ite_t hw c4
      refine lv_iconst (v := (nI 0)) hx hb dX7_whatKind_104 (by decide) ?_
      refine lv_ior hx hb dX7_whatKind_105 ?_
      refine lv_istore (lv' := [(4, .int (v4 ||| (nI 0))), (0, .ref v0), (1, .int v1), (2, .int v2), (5, .int v5)]) hx hb dX7_whatKind_106 hl (by decide) rfl (fun ls hl => ?_)
      refine lv_aload_n hx hb dX7_whatKind_108 rfl (lv_at hl 1 rfl) ?_
      refine hv_cVV (rm := rm_X7_forgets) (As := []) (rest := []) (k := 0) (ci := 7) hx hb hml hown hKK hH cf7 k1 (m_X7_forgets v0 _ _ hw) cw_X7_346 ⟨Nat.le_of_ble_eq_true rfl, Nat.le_of_ble_eq_true rfl⟩ rfl hl.1 rfl (Nat.le_of_ble_eq_true rfl) ⟨Nat.le_of_ble_eq_true rfl, Nat.le_of_ble_eq_true rfl⟩ dX7_whatKind_109 (fun h5 H locs hH hw => ?_)
      refine lv_iinc (v := v5 + (nI 1)) (lv' := [(5, .int (v5 + (nI 1))), (4, .int (v4 ||| (nI 0))), (0, .ref v0), (1, .int v1), (2, .int v2)]) hx hb dX7_whatKind_112 hl (k := 4) rfl rfl (by decide) rfl (fun ls hl => ?_)
      refine lv_goto (tgt := 44) hx hb dX7_whatKind_115 (by decide) ?_
      exact hK44 _ _ _ H locs ls hH (lv_sub hl [2, 3, 4, 1, 0] rfl) hw
    · have hw := ite_f hw c4
      refine lv_iconst (v := (nI 1)) hx hb dX7_whatKind_97 (by decide) ?_
      refine lv_iload hx hb dX7_whatKind_98 (lv_at hl 4 rfl) ?_
      refine lv_ishl hx hb dX7_whatKind_100 ?_
      refine lv_goto (tgt := 105) hx hb dX7_whatKind_101 (by decide) ?_
      refine lv_ior hx hb dX7_whatKind_105 ?_
      refine lv_istore (lv' := [(4, .int (v4 ||| (ishl (nI 1) v5))), (0, .ref v0), (1, .int v1), (2, .int v2), (5, .int v5)]) hx hb dX7_whatKind_106 hl (by decide) rfl (fun ls hl => ?_)
      refine lv_aload_n hx hb dX7_whatKind_108 rfl (lv_at hl 1 rfl) ?_
      refine hv_cVV (rm := rm_X7_forgets) (As := []) (rest := []) (k := 0) (ci := 7) hx hb hml hown hKK hH cf7 k1 (m_X7_forgets v0 _ _ hw) cw_X7_346 ⟨Nat.le_of_ble_eq_true rfl, Nat.le_of_ble_eq_true rfl⟩ rfl hl.1 rfl (Nat.le_of_ble_eq_true rfl) ⟨Nat.le_of_ble_eq_true rfl, Nat.le_of_ble_eq_true rfl⟩ dX7_whatKind_109 (fun h6 H locs hH hw => ?_)
      refine lv_iinc (v := v5 + (nI 1)) (lv' := [(5, .int (v5 + (nI 1))), (4, .int (v4 ||| (ishl (nI 1) v5))), (0, .ref v0), (1, .int v1), (2, .int v2)]) hx hb dX7_whatKind_112 hl (k := 4) rfl rfl (by decide) rfl (fun ls hl => ?_)
      refine lv_goto (tgt := 44) hx hb dX7_whatKind_115 (by decide) ?_
      exact hK44 _ _ _ H locs ls hH (lv_sub hl [2, 3, 4, 1, 0] rfl) hw
  have c44 : ∀  (v0 : Nat) (v1 : Int32) (v2 : Int32) (v4 : Int32) (v5 : Int32) (h : Hp) (H : Heap) (locs : List Loc) (ls : Array Slot), HH G B S h sz s H locs → lv_has ls 6 [(0, .ref v0), (1, .int v1), (2, .int v2), (4, .int v4), (5, .int v5)] → w_X7_whatKind_c44 S v0 v1 v2 v4 v5 h Q → W p l e rm_X7_whatKind s m args below meth c H locs 0 0 (QI G B S sz below args s Q) (F0 m 44 ls []) := by
    intro  v0 v1 v2 v4 v5 h H locs ls hH hl hw
    unfold w_X7_whatKind_c44 at hw
    obtain ⟨P44, hP44⟩ : ∃ P : Int32 → Int32 → Hp → Prop, ∀ (v4 : Int32) (v5 : Int32) (h : Hp), P v4 v5 h ↔ (∀ (H : Heap) (locs : List Loc) (ls : Array Slot), HH G B S h sz s H locs → lv_has ls 6 [(0, .ref v0), (1, .int v1), (2, .int v2), (4, .int v4), (5, .int v5)] → W p l e rm_X7_whatKind s m args below meth c H locs 0 0 (QI G B S sz below args s Q) (F0 m 44 ls [])) := ⟨_, fun v4 v5 h => Iff.rfl⟩
    refine (hP44 v4 v5 h).1 (hw P44 (fun v4 v5 h hw => (hP44 v4 v5 h).2 (fun H locs ls hH hl => ?_))) H locs ls hH hl
    have hK44 : ∀ (v4 : Int32) (v5 : Int32) (h : Hp) (H : Heap) (locs : List Loc) (ls : Array Slot), HH G B S h sz s H locs → lv_has ls 6 [(0, .ref v0), (1, .int v1), (2, .int v2), (4, .int v4), (5, .int v5)] → P44 v4 v5 h → W p l e rm_X7_whatKind s m args below meth c H locs 0 0 (QI G B S sz below args s Q) (F0 m 44 ls []) := fun v4 v5 h H locs ls hH hl hk => (hP44 v4 v5 h).1 hk H locs ls hH hl
    refine lv_iload hx hb dX7_whatKind_44 (lv_at hl 4 rfl) ?_
    refine lv_iload_n hx hb dX7_whatKind_46 rfl (lv_at hl 2 rfl) ?_
    refine lv_if_ne (tgt := 55) hx hb dX7_whatKind_47 (by decide) (fun c1 => ?_) (fun c1 => ?_)
    · have hw := ite_f hw c1
      refine lv_bipush (v := (nI 10)) hx hb dX7_whatKind_55 (by decide) ?_
      refine lv_icmp_ge (tgt := 118) hx hb dX7_whatKind_57 (by decide) (fun c6 => ?_) (fun c6 => ?_)
      · have hw := ite_t hw c6
        refine lv_iload hx hb dX7_whatKind_118 (lv_at hl 3 rfl) ?_
        exact hv_iret hx hb hr hlk hH hw dX7_whatKind_120
      · have hw := ite_f hw c6
        refine lv_aload_n hx hb dX7_whatKind_60 rfl (lv_at hl 0 rfl) ?_
        obtain ⟨k7, hw⟩ := hw
        refine hv_cVV (rm := rm_X7_minds) (As := []) (rest := []) (k := 0) (ci := 7) hx hb hml hown hKK hH cf7 k7 (m_X7_minds v0 _ _ hw) cw_X7_343 ⟨Nat.le_of_ble_eq_true rfl, Nat.le_of_ble_eq_true rfl⟩ rfl hl.1 rfl (Nat.le_of_ble_eq_true rfl) ⟨Nat.le_of_ble_eq_true rfl, Nat.le_of_ble_eq_true rfl⟩ dX7_whatKind_61 (fun h8 H locs hH hw => ?_)
        refine lv_iload_n hx hb dX7_whatKind_64 rfl (lv_at hl 2 rfl) ?_
        refine lv_if_ne (tgt := 79) hx hb dX7_whatKind_65 (by decide) (fun _ => ?_) (fun c => absurd c c1)
        refine lv_aload_n hx hb dX7_whatKind_79 rfl (lv_at hl 0 rfl) ?_
        refine hv_get (ci := 7) (k := 5) (v := .ref (S.2 v0 5)) hx hb hown hKK hH cf7 (by decide) fl_X7_25 rfl k7 rfl dX7_whatKind_80 ?_
        refine lv_iload_n hx hb dX7_whatKind_83 rfl (lv_at hl 1 rfl) ?_
        refine lv_iload hx hb dX7_whatKind_84 (lv_at hl 4 rfl) ?_
        obtain ⟨k9, hw⟩ := hw
        refine hv_iast hx hb hKK hH k9 dX7_whatKind_86 (fun H locs hH => ?_)
        exact c87 _ _ _ _ hK44 _ _ _ H locs ls hH (lv_sub hl [0, 1, 2, 3, 4] rfl) hw
    · have hw := ite_t hw c1
      refine lv_bipush (v := (nI 8)) hx hb dX7_whatKind_50 (by decide) ?_
      refine lv_goto (tgt := 57) hx hb dX7_whatKind_52 (by decide) ?_
      refine lv_icmp_ge (tgt := 118) hx hb dX7_whatKind_57 (by decide) (fun c2 => ?_) (fun c2 => ?_)
      · have hw := ite_t hw c2
        refine lv_iload hx hb dX7_whatKind_118 (lv_at hl 3 rfl) ?_
        exact hv_iret hx hb hr hlk hH hw dX7_whatKind_120
      · have hw := ite_f hw c2
        refine lv_aload_n hx hb dX7_whatKind_60 rfl (lv_at hl 0 rfl) ?_
        obtain ⟨k3, hw⟩ := hw
        refine hv_cVV (rm := rm_X7_minds) (As := []) (rest := []) (k := 0) (ci := 7) hx hb hml hown hKK hH cf7 k3 (m_X7_minds v0 _ _ hw) cw_X7_343 ⟨Nat.le_of_ble_eq_true rfl, Nat.le_of_ble_eq_true rfl⟩ rfl hl.1 rfl (Nat.le_of_ble_eq_true rfl) ⟨Nat.le_of_ble_eq_true rfl, Nat.le_of_ble_eq_true rfl⟩ dX7_whatKind_61 (fun h4 H locs hH hw => ?_)
        refine lv_iload_n hx hb dX7_whatKind_64 rfl (lv_at hl 2 rfl) ?_
        refine lv_if_ne (tgt := 79) hx hb dX7_whatKind_65 (by decide) (fun c => absurd c1 c) (fun _ => ?_)
        refine lv_aload_n hx hb dX7_whatKind_68 rfl (lv_at hl 0 rfl) ?_
        refine hv_get (ci := 7) (k := 4) (v := .ref (S.2 v0 4)) hx hb hown hKK hH cf7 (by decide) fl_X7_22 rfl k3 rfl dX7_whatKind_69 ?_
        refine lv_iload_n hx hb dX7_whatKind_72 rfl (lv_at hl 1 rfl) ?_
        refine lv_iload hx hb dX7_whatKind_73 (lv_at hl 4 rfl) ?_
        obtain ⟨k5, hw⟩ := hw
        refine hv_iast hx hb hKK hH k5 dX7_whatKind_75 (fun H locs hH => ?_)
        refine lv_goto (tgt := 87) hx hb dX7_whatKind_76 (by decide) ?_
        exact c87 _ _ _ _ hK44 _ _ _ H locs ls hH (lv_sub hl [0, 1, 2, 3, 4] rfl) hw
  unfold w_X7_whatKind at hw
  show W p l e rm_X7_whatKind s m args below meth c H [] 0 0 (QI G B S sz below args s Q) (F0 m 0 ls [])
  generalize ([] : List Loc) = locs at hH ⊢
  refine lv_aload_n hx hb dX7_whatKind_0 rfl (lv_at hl 0 rfl) ?_
  refine lv_iload_n hx hb dX7_whatKind_1 rfl (lv_at hl 1 rfl) ?_
  obtain ⟨k1, hw⟩ := hw
  refine hv_cVI (rm := rm_X7_isHead) (As := [.int v1]) (rest := []) (k := 1) (ci := 7) hx hb hml hown hKK hH cf7 k1 (m_X7_isHead v0 v1 _ _ hw) cw_X7_89 ⟨Nat.le_of_ble_eq_true rfl, Nat.le_of_ble_eq_true rfl⟩ rfl hl.1 rfl (Nat.le_of_ble_eq_true rfl) ⟨Nat.le_of_ble_eq_true rfl, Nat.le_of_ble_eq_true rfl⟩ dX7_whatKind_2 (fun r3 h2 H locs hH hw => ?_)
  refine lv_if_ne (tgt := 12) hx hb dX7_whatKind_5 (by decide) (fun c4 => ?_) (fun c4 => ?_)
  · have hw := ite_f hw c4
    refine lv_iload_n hx hb dX7_whatKind_12 rfl (lv_at hl 2 rfl) ?_
    refine lv_iconst (v := (nI 0)) hx hb dX7_whatKind_13 (by decide) ?_
    refine lv_iconst (v := (nI 1)) hx hb dX7_whatKind_14 (by decide) ?_
    refine hv_cSI (rm := rm_X7_isIn) (As := [.int v2, .int (nI 0), .int (nI 1)]) (rest := []) (k := 3) hx hb hml hown hKK hH (m_X7_isIn v2 (nI 0) (nI 1) _ _ hw) cw_X7_85 ⟨Nat.le_of_ble_eq_true rfl, Nat.le_of_ble_eq_true rfl⟩ rfl hl.1 rfl (Nat.le_of_ble_eq_true rfl) ⟨Nat.le_of_ble_eq_true rfl, Nat.le_of_ble_eq_true rfl⟩ dX7_whatKind_15 (fun r8 h7 H locs hH hw => ?_)
    refine lv_if_ne (tgt := 26) hx hb dX7_whatKind_18 (by decide) (fun c9 => ?_) (fun c9 => ?_)
    · have hw := ite_f hw c9
      refine lv_iconst (v := (nI 0)) hx hb dX7_whatKind_26 (by decide) ?_
      refine lv_istore_n (lv' := [(3, .int (nI 0)), (0, .ref v0), (1, .int v1), (2, .int v2)]) hx hb dX7_whatKind_27 rfl hl (by decide) rfl (fun ls hl => ?_)
      refine lv_iload_n hx hb dX7_whatKind_28 rfl (lv_at hl 0 rfl) ?_
      refine lv_if_eq (tgt := 38) hx hb dX7_whatKind_29 (by decide) (fun _ => ?_) (fun c => absurd (by decide) c)
      refine lv_iconst (v := (nI 0)) hx hb dX7_whatKind_38 (by decide) ?_
      refine lv_istore (lv' := [(4, .int (nI 0)), (3, .int (nI 0)), (0, .ref v0), (1, .int v1), (2, .int v2)]) hx hb dX7_whatKind_39 hl (by decide) rfl (fun ls hl => ?_)
      refine lv_iconst (v := (nI 0)) hx hb dX7_whatKind_41 (by decide) ?_
      refine lv_istore (lv' := [(5, .int (nI 0)), (4, .int (nI 0)), (3, .int (nI 0)), (0, .ref v0), (1, .int v1), (2, .int v2)]) hx hb dX7_whatKind_42 hl (by decide) rfl (fun ls hl => ?_)
      exact c44 _ _ _ _ _ _ H locs ls hH (lv_sub hl [3, 4, 5, 1, 0] rfl) hw
    · have hw := ite_t hw c9
      refine lv_bipush (v := (-2)) hx hb dX7_whatKind_21 (by decide) ?_
      refine lv_goto (tgt := 27) hx hb dX7_whatKind_23 (by decide) ?_
      refine lv_istore_n (lv' := [(3, .int (-2)), (0, .ref v0), (1, .int v1), (2, .int v2)]) hx hb dX7_whatKind_27 rfl hl (by decide) rfl (fun ls hl => ?_)
      refine lv_iload_n hx hb dX7_whatKind_28 rfl (lv_at hl 0 rfl) ?_
      refine lv_if_eq (tgt := 38) hx hb dX7_whatKind_29 (by decide) (fun c => absurd c (by decide)) (fun _ => ?_)
      refine lv_aload_n hx hb dX7_whatKind_32 rfl (lv_at hl 1 rfl) ?_
      refine lv_iload_n hx hb dX7_whatKind_33 rfl (lv_at hl 0 rfl) ?_
      refine hv_cVI (rm := rm_X7_no) (As := [.int (-2)]) (rest := []) (k := 1) (ci := 7) hx hb hml hown hKK hH cf7 k1 (m_X7_no v0 (-2) _ _ hw) cw_X7_170 ⟨Nat.le_of_ble_eq_true rfl, Nat.le_of_ble_eq_true rfl⟩ rfl hl.1 rfl (Nat.le_of_ble_eq_true rfl) ⟨Nat.le_of_ble_eq_true rfl, Nat.le_of_ble_eq_true rfl⟩ dX7_whatKind_34 (fun r11 h10 H locs hH hw => ?_)
      exact hv_iret hx hb hr hlk hH hw dX7_whatKind_37
  · have hw := ite_t hw c4
    refine lv_iconst (v := (-1)) hx hb dX7_whatKind_8 (by decide) ?_
    refine lv_goto (tgt := 27) hx hb dX7_whatKind_9 (by decide) ?_
    refine lv_istore_n (lv' := [(3, .int (-1)), (0, .ref v0), (1, .int v1), (2, .int v2)]) hx hb dX7_whatKind_27 rfl hl (by decide) rfl (fun ls hl => ?_)
    refine lv_iload_n hx hb dX7_whatKind_28 rfl (lv_at hl 0 rfl) ?_
    refine lv_if_eq (tgt := 38) hx hb dX7_whatKind_29 (by decide) (fun c => absurd c (by decide)) (fun _ => ?_)
    refine lv_aload_n hx hb dX7_whatKind_32 rfl (lv_at hl 1 rfl) ?_
    refine lv_iload_n hx hb dX7_whatKind_33 rfl (lv_at hl 0 rfl) ?_
    refine hv_cVI (rm := rm_X7_no) (As := [.int (-1)]) (rest := []) (k := 1) (ci := 7) hx hb hml hown hKK hH cf7 k1 (m_X7_no v0 (-1) _ _ hw) cw_X7_170 ⟨Nat.le_of_ble_eq_true rfl, Nat.le_of_ble_eq_true rfl⟩ rfl hl.1 rfl (Nat.le_of_ble_eq_true rfl) ⟨Nat.le_of_ble_eq_true rfl, Nat.le_of_ble_eq_true rfl⟩ dX7_whatKind_34 (fun r6 h5 H locs hH hw => ?_)
    exact hv_iret hx hb hr hlk hH hw dX7_whatKind_37
abbrev rm_X7_whatWord : Room := { frames := 7, cells := 0, slots := 0, locals := 161 }
set_option maxHeartbeats 4000000 in
set_option maxRecDepth 100000 in
theorem m_X7_whatWord {l : Launch} {G : Gl} {B sz : Nat} {S : St} (v0 : Nat) (v1 : Int32) (h : Hp) (Q : Int32 → Hp → Prop) (hw : w_X7_whatWord S v0 v1 h Q) : MI l G B sz S yX7_whatWord cX7_whatWord 4 .int rm_X7_whatWord [.ref v0, .int v1] h Q := by
  refine met_of rfl rfl ?_
  intro p e s m args below meth c hMB H ls hH hl
  obtain ⟨hx, hb, hml, hown, hKK, hr, hlk⟩ := hMB
  replace hl : lv_has ls 4 [(0, .ref v0), (1, .int v1)] := hl
  have c18 : ∀  (v0 : Nat) (v1 : Int32) (v2 : Int32) (v3 : Int32) (h : Hp) (H : Heap) (locs : List Loc) (ls : Array Slot), HH G B S h sz s H locs → lv_has ls 4 [(0, .ref v0), (1, .int v1), (2, .int v2), (3, .int v3)] → w_X7_whatWord_c18 S v0 v1 v2 v3 h Q → W p l e rm_X7_whatWord s m args below meth c H locs 0 0 (QI G B S sz below args s Q) (F0 m 18 ls []) := by
    intro  v0 v1 v2 v3 h H locs ls hH hl hw
    unfold w_X7_whatWord_c18 at hw
    obtain ⟨P18, hP18⟩ : ∃ P : Int32 → Int32 → Hp → Prop, ∀ (v2 : Int32) (v3 : Int32) (h : Hp), P v2 v3 h ↔ (∀ (H : Heap) (locs : List Loc) (ls : Array Slot), HH G B S h sz s H locs → lv_has ls 4 [(0, .ref v0), (1, .int v1), (2, .int v2), (3, .int v3)] → W p l e rm_X7_whatWord s m args below meth c H locs 0 0 (QI G B S sz below args s Q) (F0 m 18 ls [])) := ⟨_, fun v2 v3 h => Iff.rfl⟩
    refine (hP18 v2 v3 h).1 (hw P18 (fun v2 v3 h hw => (hP18 v2 v3 h).2 (fun H locs ls hH hl => ?_))) H locs ls hH hl
    have hK18 : ∀ (v2 : Int32) (v3 : Int32) (h : Hp) (H : Heap) (locs : List Loc) (ls : Array Slot), HH G B S h sz s H locs → lv_has ls 4 [(0, .ref v0), (1, .int v1), (2, .int v2), (3, .int v3)] → P18 v2 v3 h → W p l e rm_X7_whatWord s m args below meth c H locs 0 0 (QI G B S sz below args s Q) (F0 m 18 ls []) := fun v2 v3 h H locs ls hH hl hk => (hP18 v2 v3 h).1 hk H locs ls hH hl
    refine lv_iload_n hx hb dX7_whatWord_18 rfl (lv_at hl 3 rfl) ?_
    refine lv_iconst (v := (nI 4)) hx hb dX7_whatWord_19 (by decide) ?_
    refine lv_icmp_gt (tgt := 62) hx hb dX7_whatWord_20 (by decide) (fun c1 => ?_) (fun c1 => ?_)
    · have hw := ite_t hw c1
      refine lv_iload_n hx hb dX7_whatWord_62 rfl (lv_at hl 2 rfl) ?_
      exact hv_iret hx hb hr hlk hH hw dX7_whatWord_63
    · have hw := ite_f hw c1
      refine lv_aload_n hx hb dX7_whatWord_23 rfl (lv_at hl 0 rfl) ?_
      obtain ⟨k2, hw⟩ := hw
      refine hv_cVV (rm := rm_X7_minds) (As := []) (rest := []) (k := 0) (ci := 7) hx hb hml hown hKK hH cf7 k2 (m_X7_minds v0 _ _ hw) cw_X7_343 ⟨Nat.le_of_ble_eq_true rfl, Nat.le_of_ble_eq_true rfl⟩ rfl hl.1 rfl (Nat.le_of_ble_eq_true rfl) ⟨Nat.le_of_ble_eq_true rfl, Nat.le_of_ble_eq_true rfl⟩ dX7_whatWord_24 (fun h3 H locs hH hw => ?_)
      refine lv_aload_n hx hb dX7_whatWord_27 rfl (lv_at hl 0 rfl) ?_
      refine hv_get (ci := 7) (k := 8) (v := .ref (S.2 v0 8)) hx hb hown hKK hH cf7 (by decide) fl_X7_34 rfl k2 rfl dX7_whatWord_28 ?_
      refine lv_iload_n hx hb dX7_whatWord_31 rfl (lv_at hl 1 rfl) ?_
      refine lv_iload_n hx hb dX7_whatWord_32 rfl (lv_at hl 3 rfl) ?_
      obtain ⟨k4, hw⟩ := hw
      refine hv_iast hx hb hKK hH k4 dX7_whatWord_33 (fun H locs hH => ?_)
      refine lv_iload_n hx hb dX7_whatWord_34 rfl (lv_at hl 2 rfl) ?_
      refine lv_aload_n hx hb dX7_whatWord_35 rfl (lv_at hl 0 rfl) ?_
      refine lv_iload_n hx hb dX7_whatWord_36 rfl (lv_at hl 1 rfl) ?_
      refine hv_cVI (rm := rm_X7_wentSo) (As := [.int v1]) (rest := [.int v2]) (k := 1) (ci := 7) hx hb hml hown hKK hH cf7 k2 (m_X7_wentSo v0 v1 _ _ hw) cw_X7_377 ⟨Nat.le_of_ble_eq_true rfl, Nat.le_of_ble_eq_true rfl⟩ rfl hl.1 rfl (Nat.le_of_ble_eq_true rfl) ⟨Nat.le_of_ble_eq_true rfl, Nat.le_of_ble_eq_true rfl⟩ dX7_whatWord_37 (fun r6 h5 H locs hH hw => ?_)
      refine lv_if_eq (tgt := 49) hx hb dX7_whatWord_40 (by decide) (fun c7 => ?_) (fun c7 => ?_)
      · have hw := ite_t hw c7
        refine lv_iconst (v := (nI 0)) hx hb dX7_whatWord_49 (by decide) ?_
        refine lv_ior hx hb dX7_whatWord_50 ?_
        refine lv_istore_n (lv' := [(2, .int (v2 ||| (nI 0))), (0, .ref v0), (1, .int v1), (3, .int v3)]) hx hb dX7_whatWord_51 rfl hl (by decide) rfl (fun ls hl => ?_)
        refine lv_aload_n hx hb dX7_whatWord_52 rfl (lv_at hl 1 rfl) ?_
        refine hv_cVV (rm := rm_X7_forgets) (As := []) (rest := []) (k := 0) (ci := 7) hx hb hml hown hKK hH cf7 k2 (m_X7_forgets v0 _ _ hw) cw_X7_346 ⟨Nat.le_of_ble_eq_true rfl, Nat.le_of_ble_eq_true rfl⟩ rfl hl.1 rfl (Nat.le_of_ble_eq_true rfl) ⟨Nat.le_of_ble_eq_true rfl, Nat.le_of_ble_eq_true rfl⟩ dX7_whatWord_53 (fun h8 H locs hH hw => ?_)
        refine lv_iinc (v := v3 + (nI 1)) (lv' := [(3, .int (v3 + (nI 1))), (2, .int (v2 ||| (nI 0))), (0, .ref v0), (1, .int v1)]) hx hb dX7_whatWord_56 hl (k := 3) rfl rfl (by decide) rfl (fun ls hl => ?_)
        refine lv_goto (tgt := 18) hx hb dX7_whatWord_59 (by decide) ?_
        exact hK18 _ _ _ H locs ls hH (lv_sub hl [2, 3, 1, 0] rfl) hw
      · have hw := ite_f hw c7
        refine lv_iconst (v := (nI 1)) hx hb dX7_whatWord_43 (by decide) ?_
        refine lv_iload_n hx hb dX7_whatWord_44 rfl (lv_at hl 3 rfl) ?_
        refine lv_ishl hx hb dX7_whatWord_45 ?_
        refine lv_goto (tgt := 50) hx hb dX7_whatWord_46 (by decide) ?_
        refine lv_ior hx hb dX7_whatWord_50 ?_
        refine lv_istore_n (lv' := [(2, .int (v2 ||| (ishl (nI 1) v3))), (0, .ref v0), (1, .int v1), (3, .int v3)]) hx hb dX7_whatWord_51 rfl hl (by decide) rfl (fun ls hl => ?_)
        refine lv_aload_n hx hb dX7_whatWord_52 rfl (lv_at hl 1 rfl) ?_
        refine hv_cVV (rm := rm_X7_forgets) (As := []) (rest := []) (k := 0) (ci := 7) hx hb hml hown hKK hH cf7 k2 (m_X7_forgets v0 _ _ hw) cw_X7_346 ⟨Nat.le_of_ble_eq_true rfl, Nat.le_of_ble_eq_true rfl⟩ rfl hl.1 rfl (Nat.le_of_ble_eq_true rfl) ⟨Nat.le_of_ble_eq_true rfl, Nat.le_of_ble_eq_true rfl⟩ dX7_whatWord_53 (fun h9 H locs hH hw => ?_)
        refine lv_iinc (v := v3 + (nI 1)) (lv' := [(3, .int (v3 + (nI 1))), (2, .int (v2 ||| (ishl (nI 1) v3))), (0, .ref v0), (1, .int v1)]) hx hb dX7_whatWord_56 hl (k := 3) rfl rfl (by decide) rfl (fun ls hl => ?_)
        refine lv_goto (tgt := 18) hx hb dX7_whatWord_59 (by decide) ?_
        exact hK18 _ _ _ H locs ls hH (lv_sub hl [2, 3, 1, 0] rfl) hw
  unfold w_X7_whatWord at hw
  show W p l e rm_X7_whatWord s m args below meth c H [] 0 0 (QI G B S sz below args s Q) (F0 m 0 ls [])
  generalize ([] : List Loc) = locs at hH ⊢
  refine lv_aload_n hx hb dX7_whatWord_0 rfl (lv_at hl 0 rfl) ?_
  refine lv_iload_n hx hb dX7_whatWord_1 rfl (lv_at hl 1 rfl) ?_
  obtain ⟨k1, hw⟩ := hw
  refine hv_cVI (rm := rm_X7_isHead) (As := [.int v1]) (rest := []) (k := 1) (ci := 7) hx hb hml hown hKK hH cf7 k1 (m_X7_isHead v0 v1 _ _ hw) cw_X7_89 ⟨Nat.le_of_ble_eq_true rfl, Nat.le_of_ble_eq_true rfl⟩ rfl hl.1 rfl (Nat.le_of_ble_eq_true rfl) ⟨Nat.le_of_ble_eq_true rfl, Nat.le_of_ble_eq_true rfl⟩ dX7_whatWord_2 (fun r3 h2 H locs hH hw => ?_)
  refine lv_if_ne (tgt := 14) hx hb dX7_whatWord_5 (by decide) (fun c4 => ?_) (fun c4 => ?_)
  · have hw := ite_f hw c4
    refine lv_iconst (v := (nI 0)) hx hb dX7_whatWord_14 (by decide) ?_
    refine lv_istore_n (lv' := [(2, .int (nI 0)), (0, .ref v0), (1, .int v1)]) hx hb dX7_whatWord_15 rfl hl (by decide) rfl (fun ls hl => ?_)
    refine lv_iconst (v := (nI 0)) hx hb dX7_whatWord_16 (by decide) ?_
    refine lv_istore_n (lv' := [(3, .int (nI 0)), (2, .int (nI 0)), (0, .ref v0), (1, .int v1)]) hx hb dX7_whatWord_17 rfl hl (by decide) rfl (fun ls hl => ?_)
    exact c18 _ _ _ _ _ H locs ls hH (lv_sub hl [2, 3, 1, 0] rfl) hw
  · have hw := ite_t hw c4
    refine lv_aload_n hx hb dX7_whatWord_8 rfl (lv_at hl 0 rfl) ?_
    refine lv_iconst (v := (-1)) hx hb dX7_whatWord_9 (by decide) ?_
    refine hv_cVI (rm := rm_X7_no) (As := [.int (-1)]) (rest := []) (k := 1) (ci := 7) hx hb hml hown hKK hH cf7 k1 (m_X7_no v0 (-1) _ _ hw) cw_X7_170 ⟨Nat.le_of_ble_eq_true rfl, Nat.le_of_ble_eq_true rfl⟩ rfl hl.1 rfl (Nat.le_of_ble_eq_true rfl) ⟨Nat.le_of_ble_eq_true rfl, Nat.le_of_ble_eq_true rfl⟩ dX7_whatWord_10 (fun r6 h5 H locs hH hw => ?_)
    exact hv_iret hx hb hr hlk hH hw dX7_whatWord_13
abbrev rm_X7_findEnds : Room := { frames := 7, cells := 0, slots := 0, locals := 161 }
set_option maxHeartbeats 4000000 in
set_option maxRecDepth 100000 in
theorem m_X7_findEnds {l : Launch} {G : Gl} {B sz : Nat} {S : St} (v0 : Nat) (v1 : Int32) (v2 : Int32) (v3 : Int32) (h : Hp) (Q : Hp → Prop) (hw : w_X7_findEnds S v0 v1 v2 v3 h Q) : MV l G B sz S yX7_findEnds cX7_findEnds 5 rm_X7_findEnds [.ref v0, .int v1, .int v2, .int v3] h Q := by
  refine met_of rfl rfl ?_
  intro p e s m args below meth c hMB H ls hH hl
  obtain ⟨hx, hb, hml, hown, hKK, hr, hlk⟩ := hMB
  replace hl : lv_has ls 5 [(0, .ref v0), (1, .int v1), (2, .int v2), (3, .int v3)] := hl
  have c43 : ∀ (v0 : Nat) (v1 : Int32) (v2 : Int32) (v3 : Int32) (P3 : Int32 → Hp → Prop) (_ : ∀ (v4 : Int32) (h : Hp) (H : Heap) (locs : List Loc) (ls : Array Slot), HH G B S h sz s H locs → lv_has ls 5 [(0, .ref v0), (1, .int v1), (2, .int v2), (3, .int v3), (4, .int v4)] → P3 v4 h → W p l e rm_X7_findEnds s m args below meth c H locs 0 0 (QV G B S sz below args s Q) (F0 m 3 ls [])) (v4 : Int32) (h : Hp) (H : Heap) (locs : List Loc) (ls : Array Slot), HH G B S h sz s H locs → lv_has ls 5 [(0, .ref v0), (1, .int v1), (2, .int v2), (3, .int v3), (4, .int v4)] → w_X7_findEnds_c43 S v0 v1 v2 v3 v4 h Q P3 → W p l e rm_X7_findEnds s m args below meth c H locs 0 0 (QV G B S sz below args s Q) (F0 m 43 ls []) := by
    intro v0 v1 v2 v3 P3 hK3 v4 h H locs ls hH hl hw
    unfold w_X7_findEnds_c43 at hw
    refine lv_aload_n hx hb dX7_findEnds_43 rfl (lv_at hl 0 rfl) ?_
    refine lv_iload_n hx hb dX7_findEnds_44 rfl (lv_at hl 3 rfl) ?_
    obtain ⟨k1, hw⟩ := hw
    refine hv_cVV (rm := rm_X7_goes) (As := [.int v3]) (rest := []) (k := 1) (ci := 7) hx hb hml hown hKK hH cf7 k1 (m_X7_goes v0 v3 _ _ hw) cw_X7_261 ⟨Nat.le_of_ble_eq_true rfl, Nat.le_of_ble_eq_true rfl⟩ rfl hl.1 rfl (Nat.le_of_ble_eq_true rfl) ⟨Nat.le_of_ble_eq_true rfl, Nat.le_of_ble_eq_true rfl⟩ dX7_findEnds_45 (fun h2 H locs hH hw => ?_)
    refine lv_aload_n hx hb dX7_findEnds_48 rfl (lv_at hl 0 rfl) ?_
    refine hv_get (ci := 7) (k := 33) (v := .ref (S.2 v0 33)) hx hb hown hKK hH cf7 (by decide) fl_X7_73 rfl k1 rfl dX7_findEnds_49 ?_
    refine lv_iconst (v := (nI 2)) hx hb dX7_findEnds_52 (by decide) ?_
    refine lv_iload hx hb dX7_findEnds_53 (lv_at hl 4 rfl) ?_
    refine lv_imul hx hb dX7_findEnds_55 ?_
    refine lv_aload_n hx hb dX7_findEnds_56 rfl (lv_at hl 0 rfl) ?_
    refine hv_get (ci := 7) (k := 9) (v := .ref (S.2 v0 9)) hx hb hown hKK hH cf7 (by decide) fl_X7_37 rfl k1 rfl dX7_findEnds_57 ?_
    refine lv_iload_n hx hb dX7_findEnds_60 rfl (lv_at hl 1 rfl) ?_
    obtain ⟨k3, hw⟩ := hw
    refine hv_iald hx hb hKK hH k3 dX7_findEnds_61 ?_
    refine lv_iconst (v := (nI 5)) hx hb dX7_findEnds_62 (by decide) ?_
    refine lv_iload hx hb dX7_findEnds_63 (lv_at hl 4 rfl) ?_
    refine lv_iconst (v := (nI 2)) hx hb dX7_findEnds_65 (by decide) ?_
    refine lv_idiv hx hb dX7_findEnds_66 (by decide) ?_
    refine lv_imul hx hb dX7_findEnds_67 ?_
    refine lv_iadd hx hb dX7_findEnds_68 ?_
    obtain ⟨k4, hw⟩ := hw
    refine hv_iast hx hb hKK hH k4 dX7_findEnds_69 (fun H locs hH => ?_)
    refine lv_aload_n hx hb dX7_findEnds_70 rfl (lv_at hl 0 rfl) ?_
    refine hv_get (ci := 7) (k := 33) (v := .ref (S.2 v0 33)) hx hb hown hKK hH cf7 (by decide) fl_X7_73 rfl k1 rfl dX7_findEnds_71 ?_
    refine lv_iconst (v := (nI 2)) hx hb dX7_findEnds_74 (by decide) ?_
    refine lv_iload hx hb dX7_findEnds_75 (lv_at hl 4 rfl) ?_
    refine lv_imul hx hb dX7_findEnds_77 ?_
    refine lv_iconst (v := (nI 1)) hx hb dX7_findEnds_78 (by decide) ?_
    refine lv_iadd hx hb dX7_findEnds_79 ?_
    refine lv_aload_n hx hb dX7_findEnds_80 rfl (lv_at hl 0 rfl) ?_
    refine hv_get (ci := 7) (k := 9) (v := .ref (S.2 v0 9)) hx hb hown hKK hH cf7 (by decide) fl_X7_37 rfl k1 rfl dX7_findEnds_81 ?_
    refine lv_iload_n hx hb dX7_findEnds_84 rfl (lv_at hl 2 rfl) ?_
    obtain ⟨k5, hw⟩ := hw
    refine hv_iald hx hb hKK hH k5 dX7_findEnds_85 ?_
    refine lv_iconst (v := (nI 5)) hx hb dX7_findEnds_86 (by decide) ?_
    refine lv_iload hx hb dX7_findEnds_87 (lv_at hl 4 rfl) ?_
    refine lv_iconst (v := (nI 2)) hx hb dX7_findEnds_89 (by decide) ?_
    refine lv_irem hx hb dX7_findEnds_90 (by decide) ?_
    refine lv_imul hx hb dX7_findEnds_91 ?_
    refine lv_iadd hx hb dX7_findEnds_92 ?_
    obtain ⟨k6, hw⟩ := hw
    refine hv_iast hx hb hKK hH k6 dX7_findEnds_93 (fun H locs hH => ?_)
    refine lv_aload_n hx hb dX7_findEnds_94 rfl (lv_at hl 0 rfl) ?_
    refine hv_cVV (rm := rm_X7_forgets) (As := []) (rest := []) (k := 0) (ci := 7) hx hb hml hown hKK hH cf7 k1 (m_X7_forgets v0 _ _ hw) cw_X7_346 ⟨Nat.le_of_ble_eq_true rfl, Nat.le_of_ble_eq_true rfl⟩ rfl hl.1 rfl (Nat.le_of_ble_eq_true rfl) ⟨Nat.le_of_ble_eq_true rfl, Nat.le_of_ble_eq_true rfl⟩ dX7_findEnds_95 (fun h7 H locs hH hw => ?_)
    refine lv_iinc (v := v4 + (nI 1)) (lv' := [(4, .int (v4 + (nI 1))), (0, .ref v0), (1, .int v1), (2, .int v2), (3, .int v3)]) hx hb dX7_findEnds_98 hl (k := 4) rfl rfl (by decide) rfl (fun ls hl => ?_)
    refine lv_goto (tgt := 3) hx hb dX7_findEnds_101 (by decide) ?_
    exact hK3 _ _ H locs ls hH (lv_sub hl [1, 2, 3, 4, 0] rfl) hw
  have c3 : ∀  (v0 : Nat) (v1 : Int32) (v2 : Int32) (v3 : Int32) (v4 : Int32) (h : Hp) (H : Heap) (locs : List Loc) (ls : Array Slot), HH G B S h sz s H locs → lv_has ls 5 [(0, .ref v0), (1, .int v1), (2, .int v2), (3, .int v3), (4, .int v4)] → w_X7_findEnds_c3 S v0 v1 v2 v3 v4 h Q → W p l e rm_X7_findEnds s m args below meth c H locs 0 0 (QV G B S sz below args s Q) (F0 m 3 ls []) := by
    intro  v0 v1 v2 v3 v4 h H locs ls hH hl hw
    unfold w_X7_findEnds_c3 at hw
    obtain ⟨P3, hP3⟩ : ∃ P : Int32 → Hp → Prop, ∀ (v4 : Int32) (h : Hp), P v4 h ↔ (∀ (H : Heap) (locs : List Loc) (ls : Array Slot), HH G B S h sz s H locs → lv_has ls 5 [(0, .ref v0), (1, .int v1), (2, .int v2), (3, .int v3), (4, .int v4)] → W p l e rm_X7_findEnds s m args below meth c H locs 0 0 (QV G B S sz below args s Q) (F0 m 3 ls [])) := ⟨_, fun v4 h => Iff.rfl⟩
    refine (hP3 v4 h).1 (hw P3 (fun v4 h hw => (hP3 v4 h).2 (fun H locs ls hH hl => ?_))) H locs ls hH hl
    have hK3 : ∀ (v4 : Int32) (h : Hp) (H : Heap) (locs : List Loc) (ls : Array Slot), HH G B S h sz s H locs → lv_has ls 5 [(0, .ref v0), (1, .int v1), (2, .int v2), (3, .int v3), (4, .int v4)] → P3 v4 h → W p l e rm_X7_findEnds s m args below meth c H locs 0 0 (QV G B S sz below args s Q) (F0 m 3 ls []) := fun v4 h H locs ls hH hl hk => (hP3 v4 h).1 hk H locs ls hH hl
    refine lv_iload hx hb dX7_findEnds_3 (lv_at hl 4 rfl) ?_
    refine lv_iconst (v := (nI 4)) hx hb dX7_findEnds_5 (by decide) ?_
    refine lv_icmp_ge (tgt := 104) hx hb dX7_findEnds_6 (by decide) (fun c1 => ?_) (fun c1 => ?_)
    · have hw := ite_t hw c1
      exact hv_vret hx hb hr hlk hH hw dX7_findEnds_104
    · have hw := ite_f hw c1
      refine lv_aload_n hx hb dX7_findEnds_9 rfl (lv_at hl 0 rfl) ?_
      obtain ⟨k2, hw⟩ := hw
      refine hv_cVV (rm := rm_X7_minds) (As := []) (rest := []) (k := 0) (ci := 7) hx hb hml hown hKK hH cf7 k2 (m_X7_minds v0 _ _ hw) cw_X7_343 ⟨Nat.le_of_ble_eq_true rfl, Nat.le_of_ble_eq_true rfl⟩ rfl hl.1 rfl (Nat.le_of_ble_eq_true rfl) ⟨Nat.le_of_ble_eq_true rfl, Nat.le_of_ble_eq_true rfl⟩ dX7_findEnds_10 (fun h3 H locs hH hw => ?_)
      refine lv_iload hx hb dX7_findEnds_13 (lv_at hl 4 rfl) ?_
      refine lv_iconst (v := (nI 2)) hx hb dX7_findEnds_15 (by decide) ?_
      refine lv_idiv hx hb dX7_findEnds_16 (by decide) ?_
      refine lv_iconst (v := (nI 1)) hx hb dX7_findEnds_17 (by decide) ?_
      refine lv_icmp_ne (tgt := 28) hx hb dX7_findEnds_18 (by decide) (fun c4 => ?_) (fun c4 => ?_)
      · have hw := ite_f hw c4
        refine lv_iload hx hb dX7_findEnds_28 (lv_at hl 4 rfl) ?_
        refine lv_iconst (v := (nI 2)) hx hb dX7_findEnds_30 (by decide) ?_
        refine lv_irem hx hb dX7_findEnds_31 (by decide) ?_
        refine lv_iconst (v := (nI 1)) hx hb dX7_findEnds_32 (by decide) ?_
        refine lv_icmp_ne (tgt := 43) hx hb dX7_findEnds_33 (by decide) (fun c8 => ?_) (fun c8 => ?_)
        · have hw := ite_f hw c8
          exact c43 _ _ _ _ _ hK3 _ _ H locs ls hH (lv_sub hl [0, 1, 2, 3, 4] rfl) hw
        · have hw := ite_t hw c8
          refine lv_aload_n hx hb dX7_findEnds_36 rfl (lv_at hl 0 rfl) ?_
          refine hv_get (ci := 7) (k := 8) (v := .ref (S.2 v0 8)) hx hb hown hKK hH cf7 (by decide) fl_X7_34 rfl k2 rfl dX7_findEnds_37 ?_
          refine lv_iload_n hx hb dX7_findEnds_40 rfl (lv_at hl 2 rfl) ?_
          refine lv_iconst (v := (nI 4)) hx hb dX7_findEnds_41 (by decide) ?_
          obtain ⟨k9, hw⟩ := hw
          refine hv_iast hx hb hKK hH k9 dX7_findEnds_42 (fun H locs hH => ?_)
          exact c43 _ _ _ _ _ hK3 _ _ H locs ls hH (lv_sub hl [0, 1, 2, 3, 4] rfl) hw
      · have hw := ite_t hw c4
        refine lv_aload_n hx hb dX7_findEnds_21 rfl (lv_at hl 0 rfl) ?_
        refine hv_get (ci := 7) (k := 8) (v := .ref (S.2 v0 8)) hx hb hown hKK hH cf7 (by decide) fl_X7_34 rfl k2 rfl dX7_findEnds_22 ?_
        refine lv_iload_n hx hb dX7_findEnds_25 rfl (lv_at hl 1 rfl) ?_
        refine lv_iconst (v := (nI 4)) hx hb dX7_findEnds_26 (by decide) ?_
        obtain ⟨k5, hw⟩ := hw
        refine hv_iast hx hb hKK hH k5 dX7_findEnds_27 (fun H locs hH => ?_)
        refine lv_iload hx hb dX7_findEnds_28 (lv_at hl 4 rfl) ?_
        refine lv_iconst (v := (nI 2)) hx hb dX7_findEnds_30 (by decide) ?_
        refine lv_irem hx hb dX7_findEnds_31 (by decide) ?_
        refine lv_iconst (v := (nI 1)) hx hb dX7_findEnds_32 (by decide) ?_
        refine lv_icmp_ne (tgt := 43) hx hb dX7_findEnds_33 (by decide) (fun c6 => ?_) (fun c6 => ?_)
        · have hw := ite_f hw c6
          exact c43 _ _ _ _ _ hK3 _ _ H locs ls hH (lv_sub hl [0, 1, 2, 3, 4] rfl) hw
        · have hw := ite_t hw c6
          refine lv_aload_n hx hb dX7_findEnds_36 rfl (lv_at hl 0 rfl) ?_
          refine hv_get (ci := 7) (k := 8) (v := .ref (S.2 v0 8)) hx hb hown hKK hH cf7 (by decide) fl_X7_34 rfl k2 rfl dX7_findEnds_37 ?_
          refine lv_iload_n hx hb dX7_findEnds_40 rfl (lv_at hl 2 rfl) ?_
          refine lv_iconst (v := (nI 4)) hx hb dX7_findEnds_41 (by decide) ?_
          obtain ⟨k7, hw⟩ := hw
          refine hv_iast hx hb hKK hH k7 dX7_findEnds_42 (fun H locs hH => ?_)
          exact c43 _ _ _ _ _ hK3 _ _ H locs ls hH (lv_sub hl [0, 1, 2, 3, 4] rfl) hw
  unfold w_X7_findEnds at hw
  show W p l e rm_X7_findEnds s m args below meth c H [] 0 0 (QV G B S sz below args s Q) (F0 m 0 ls [])
  generalize ([] : List Loc) = locs at hH ⊢
  refine lv_iconst (v := (nI 0)) hx hb dX7_findEnds_0 (by decide) ?_
  refine lv_istore (lv' := [(4, .int (nI 0)), (0, .ref v0), (1, .int v1), (2, .int v2), (3, .int v3)]) hx hb dX7_findEnds_1 hl (by decide) rfl (fun ls hl => ?_)
  exact c3 _ _ _ _ _ _ H locs ls hH (lv_sub hl [1, 2, 3, 4, 0] rfl) hw
abbrev rm_X7_two : Room := { frames := 8, cells := 0, slots := 0, locals := 185 }
set_option maxHeartbeats 4000000 in
set_option maxRecDepth 100000 in
theorem m_X7_two {l : Launch} {G : Gl} {B sz : Nat} {S : St} (v0 : Nat) (v1 : Int32) (v2 : Int32) (v3 : Int32) (h : Hp) (Q : Int32 → Hp → Prop) (hw : w_X7_two S v0 v1 v2 v3 h Q) : MI l G B sz S yX7_two cX7_two 6 .int rm_X7_two [.ref v0, .int v1, .int v2, .int v3] h Q := by
  refine met_of rfl rfl ?_
  intro p e s m args below meth c hMB H ls hH hl
  obtain ⟨hx, hb, hml, hown, hKK, hr, hlk⟩ := hMB
  replace hl : lv_has ls 6 [(0, .ref v0), (1, .int v1), (2, .int v2), (3, .int v3)] := hl
  have c44 : ∀  (v0 : Nat) (v5 : Int32) (h : Hp) (H : Heap) (locs : List Loc) (ls : Array Slot), HH G B S h sz s H locs → lv_has ls 6 [(0, .ref v0), (5, .int v5)] → w_X7_two_c44 S v0 v5 h Q → W p l e rm_X7_two s m args below meth c H locs 0 0 (QI G B S sz below args s Q) (F0 m 44 ls []) := by
    intro  v0 v5 h H locs ls hH hl hw
    unfold w_X7_two_c44 at hw
    obtain ⟨P44, hP44⟩ : ∃ P : Int32 → Hp → Prop, ∀ (v5 : Int32) (h : Hp), P v5 h ↔ (∀ (H : Heap) (locs : List Loc) (ls : Array Slot), HH G B S h sz s H locs → lv_has ls 6 [(0, .ref v0), (5, .int v5)] → W p l e rm_X7_two s m args below meth c H locs 0 0 (QI G B S sz below args s Q) (F0 m 44 ls [])) := ⟨_, fun v5 h => Iff.rfl⟩
    refine (hP44 v5 h).1 (hw P44 (fun v5 h hw => (hP44 v5 h).2 (fun H locs ls hH hl => ?_))) H locs ls hH hl
    have hK44 : ∀ (v5 : Int32) (h : Hp) (H : Heap) (locs : List Loc) (ls : Array Slot), HH G B S h sz s H locs → lv_has ls 6 [(0, .ref v0), (5, .int v5)] → P44 v5 h → W p l e rm_X7_two s m args below meth c H locs 0 0 (QI G B S sz below args s Q) (F0 m 44 ls []) := fun v5 h H locs ls hH hl hk => (hP44 v5 h).1 hk H locs ls hH hl
    refine lv_iload hx hb dX7_two_44 (lv_at hl 1 rfl) ?_
    refine lv_iconst (v := (nI 4)) hx hb dX7_two_46 (by decide) ?_
    refine lv_icmp_ge (tgt := 119) hx hb dX7_two_47 (by decide) (fun c1 => ?_) (fun c1 => ?_)
    · have hw := ite_t hw c1
      refine lv_bipush (v := (-9)) hx hb dX7_two_119 (by decide) ?_
      exact hv_iret hx hb hr hlk hH hw dX7_two_121
    · have hw := ite_f hw c1
      refine lv_aload_n hx hb dX7_two_50 rfl (lv_at hl 0 rfl) ?_
      obtain ⟨k2, hw⟩ := hw
      refine hv_get (ci := 7) (k := 33) (v := .ref (S.2 v0 33)) hx hb hown hKK hH cf7 (by decide) fl_X7_73 rfl k2 rfl dX7_two_51 ?_
      refine lv_iconst (v := (nI 2)) hx hb dX7_two_54 (by decide) ?_
      refine lv_iload hx hb dX7_two_55 (lv_at hl 1 rfl) ?_
      refine lv_iconst (v := (nI 2)) hx hb dX7_two_57 (by decide) ?_
      refine lv_ixor hx hb dX7_two_58 ?_
      refine lv_imul hx hb dX7_two_59 ?_
      obtain ⟨k3, hw⟩ := hw
      refine hv_iald hx hb hKK hH k3 dX7_two_60 ?_
      refine lv_aload_n hx hb dX7_two_61 rfl (lv_at hl 0 rfl) ?_
      refine hv_get (ci := 7) (k := 33) (v := .ref (S.2 v0 33)) hx hb hown hKK hH cf7 (by decide) fl_X7_73 rfl k2 rfl dX7_two_62 ?_
      refine lv_iconst (v := (nI 2)) hx hb dX7_two_65 (by decide) ?_
      refine lv_iload hx hb dX7_two_66 (lv_at hl 1 rfl) ?_
      refine lv_imul hx hb dX7_two_68 ?_
      obtain ⟨k4, hw⟩ := hw
      refine hv_iald hx hb hKK hH k4 dX7_two_69 ?_
      refine lv_icmp_gt (tgt := 113) hx hb dX7_two_70 (by decide) (fun c5 => ?_) (fun c5 => ?_)
      · have hw := ite_t hw c5
        refine lv_iinc (v := v5 + (nI 1)) (lv' := [(5, .int (v5 + (nI 1))), (0, .ref v0)]) hx hb dX7_two_113 hl (k := 1) rfl rfl (by decide) rfl (fun ls hl => ?_)
        refine lv_goto (tgt := 44) hx hb dX7_two_116 (by decide) ?_
        exact hK44 _ _ H locs ls hH (lv_sub hl [1, 0] rfl) hw
      · have hw := ite_f hw c5
        refine lv_aload_n hx hb dX7_two_73 rfl (lv_at hl 0 rfl) ?_
        refine hv_get (ci := 7) (k := 33) (v := .ref (S.2 v0 33)) hx hb hown hKK hH cf7 (by decide) fl_X7_73 rfl k2 rfl dX7_two_74 ?_
        refine lv_iconst (v := (nI 2)) hx hb dX7_two_77 (by decide) ?_
        refine lv_iload hx hb dX7_two_78 (lv_at hl 1 rfl) ?_
        refine lv_iconst (v := (nI 1)) hx hb dX7_two_80 (by decide) ?_
        refine lv_ixor hx hb dX7_two_81 ?_
        refine lv_imul hx hb dX7_two_82 ?_
        refine lv_iconst (v := (nI 1)) hx hb dX7_two_83 (by decide) ?_
        refine lv_iadd hx hb dX7_two_84 ?_
        obtain ⟨k6, hw⟩ := hw
        refine hv_iald hx hb hKK hH k6 dX7_two_85 ?_
        refine lv_aload_n hx hb dX7_two_86 rfl (lv_at hl 0 rfl) ?_
        refine hv_get (ci := 7) (k := 33) (v := .ref (S.2 v0 33)) hx hb hown hKK hH cf7 (by decide) fl_X7_73 rfl k2 rfl dX7_two_87 ?_
        refine lv_iconst (v := (nI 2)) hx hb dX7_two_90 (by decide) ?_
        refine lv_iload hx hb dX7_two_91 (lv_at hl 1 rfl) ?_
        refine lv_imul hx hb dX7_two_93 ?_
        refine lv_iconst (v := (nI 1)) hx hb dX7_two_94 (by decide) ?_
        refine lv_iadd hx hb dX7_two_95 ?_
        obtain ⟨k7, hw⟩ := hw
        refine hv_iald hx hb hKK hH k7 dX7_two_96 ?_
        refine lv_icmp_gt (tgt := 113) hx hb dX7_two_97 (by decide) (fun c8 => ?_) (fun c8 => ?_)
        · have hw := ite_t hw c8
          refine lv_iinc (v := v5 + (nI 1)) (lv' := [(5, .int (v5 + (nI 1))), (0, .ref v0)]) hx hb dX7_two_113 hl (k := 1) rfl rfl (by decide) rfl (fun ls hl => ?_)
          refine lv_goto (tgt := 44) hx hb dX7_two_116 (by decide) ?_
          exact hK44 _ _ H locs ls hH (lv_sub hl [1, 0] rfl) hw
        · have hw := ite_f hw c8
          refine lv_bipush (v := (nI 10)) hx hb dX7_two_100 (by decide) ?_
          refine lv_iload hx hb dX7_two_102 (lv_at hl 1 rfl) ?_
          refine lv_iconst (v := (nI 2)) hx hb dX7_two_104 (by decide) ?_
          refine lv_idiv hx hb dX7_two_105 (by decide) ?_
          refine lv_imul hx hb dX7_two_106 ?_
          refine lv_iload hx hb dX7_two_107 (lv_at hl 1 rfl) ?_
          refine lv_iconst (v := (nI 2)) hx hb dX7_two_109 (by decide) ?_
          refine lv_irem hx hb dX7_two_110 (by decide) ?_
          refine lv_iadd hx hb dX7_two_111 ?_
          exact hv_iret hx hb hr hlk hH hw dX7_two_112
  unfold w_X7_two at hw
  show W p l e rm_X7_two s m args below meth c H [] 0 0 (QI G B S sz below args s Q) (F0 m 0 ls [])
  generalize ([] : List Loc) = locs at hH ⊢
  refine lv_aload_n hx hb dX7_two_0 rfl (lv_at hl 0 rfl) ?_
  refine lv_iload_n hx hb dX7_two_1 rfl (lv_at hl 1 rfl) ?_
  refine lv_iload_n hx hb dX7_two_2 rfl (lv_at hl 2 rfl) ?_
  obtain ⟨k1, hw⟩ := hw
  refine hv_cVI (rm := rm_X7_areTwo) (As := [.int v1, .int v2]) (rest := []) (k := 2) (ci := 7) hx hb hml hown hKK hH cf7 k1 (m_X7_areTwo v0 v1 v2 _ _ hw) cw_X7_365 ⟨Nat.le_of_ble_eq_true rfl, Nat.le_of_ble_eq_true rfl⟩ rfl hl.1 rfl (Nat.le_of_ble_eq_true rfl) ⟨Nat.le_of_ble_eq_true rfl, Nat.le_of_ble_eq_true rfl⟩ dX7_two_3 (fun r3 h2 H locs hH hw => ?_)
  refine lv_if_ne (tgt := 13) hx hb dX7_two_6 (by decide) (fun c4 => ?_) (fun c4 => ?_)
  · have hw := ite_f hw c4
    refine lv_iload_n hx hb dX7_two_13 rfl (lv_at hl 3 rfl) ?_
    refine lv_iconst (v := (nI 1)) hx hb dX7_two_14 (by decide) ?_
    refine lv_bipush (v := (nI 30)) hx hb dX7_two_15 (by decide) ?_
    refine hv_cSI (rm := rm_X7_bound) (As := [.int v3, .int (nI 1), .int (nI 30)]) (rest := []) (k := 3) hx hb hml hown hKK hH (m_X7_bound v3 (nI 1) (nI 30) _ _ hw) cw_X7_163 ⟨Nat.le_of_ble_eq_true rfl, Nat.le_of_ble_eq_true rfl⟩ rfl hl.1 rfl (Nat.le_of_ble_eq_true rfl) ⟨Nat.le_of_ble_eq_true rfl, Nat.le_of_ble_eq_true rfl⟩ dX7_two_17 (fun r8 h7 H locs hH hw => ?_)
    refine lv_istore (lv' := [(4, .int r8), (0, .ref v0), (1, .int v1), (2, .int v2), (3, .int v3)]) hx hb dX7_two_20 hl (by decide) rfl (fun ls hl => ?_)
    refine lv_iload hx hb dX7_two_22 (lv_at hl 0 rfl) ?_
    refine lv_if_eq (tgt := 34) hx hb dX7_two_24 (by decide) (fun c9 => ?_) (fun c9 => ?_)
    · have hw := ite_t hw c9
      refine lv_aload_n hx hb dX7_two_34 rfl (lv_at hl 1 rfl) ?_
      refine lv_iload_n hx hb dX7_two_35 rfl (lv_at hl 2 rfl) ?_
      refine lv_iload_n hx hb dX7_two_36 rfl (lv_at hl 3 rfl) ?_
      refine lv_iload_n hx hb dX7_two_37 rfl (lv_at hl 4 rfl) ?_
      refine hv_cVV (rm := rm_X7_findEnds) (As := [.int v1, .int v2, .int v3]) (rest := []) (k := 3) (ci := 7) hx hb hml hown hKK hH cf7 k1 (m_X7_findEnds v0 v1 v2 v3 _ _ hw) cw_X7_380 ⟨Nat.le_of_ble_eq_true rfl, Nat.le_of_ble_eq_true rfl⟩ rfl hl.1 rfl (Nat.le_of_ble_eq_true rfl) ⟨Nat.le_of_ble_eq_true rfl, Nat.le_of_ble_eq_true rfl⟩ dX7_two_38 (fun h10 H locs hH hw => ?_)
      refine lv_iconst (v := (nI 0)) hx hb dX7_two_41 (by decide) ?_
      refine lv_istore (lv' := [(5, .int (nI 0)), (4, .int r8), (0, .ref v0), (1, .int v1), (2, .int v2), (3, .int v3)]) hx hb dX7_two_42 hl (by decide) rfl (fun ls hl => ?_)
      exact c44 _ _ _ H locs ls hH (lv_sub hl [2, 0] rfl) hw
    · have hw := ite_f hw c9
      refine lv_aload_n hx hb dX7_two_27 rfl (lv_at hl 1 rfl) ?_
      refine lv_iload hx hb dX7_two_28 (lv_at hl 0 rfl) ?_
      refine hv_cVI (rm := rm_X7_no) (As := [.int r8]) (rest := []) (k := 1) (ci := 7) hx hb hml hown hKK hH cf7 k1 (m_X7_no v0 r8 _ _ hw) cw_X7_170 ⟨Nat.le_of_ble_eq_true rfl, Nat.le_of_ble_eq_true rfl⟩ rfl hl.1 rfl (Nat.le_of_ble_eq_true rfl) ⟨Nat.le_of_ble_eq_true rfl, Nat.le_of_ble_eq_true rfl⟩ dX7_two_30 (fun r12 h11 H locs hH hw => ?_)
      exact hv_iret hx hb hr hlk hH hw dX7_two_33
  · have hw := ite_t hw c4
    refine lv_iconst (v := (-1)) hx hb dX7_two_9 (by decide) ?_
    refine lv_goto (tgt := 20) hx hb dX7_two_10 (by decide) ?_
    refine lv_istore (lv' := [(4, .int (-1)), (0, .ref v0), (1, .int v1), (2, .int v2), (3, .int v3)]) hx hb dX7_two_20 hl (by decide) rfl (fun ls hl => ?_)
    refine lv_iload hx hb dX7_two_22 (lv_at hl 0 rfl) ?_
    refine lv_if_eq (tgt := 34) hx hb dX7_two_24 (by decide) (fun c => absurd c (by decide)) (fun _ => ?_)
    refine lv_aload_n hx hb dX7_two_27 rfl (lv_at hl 1 rfl) ?_
    refine lv_iload hx hb dX7_two_28 (lv_at hl 0 rfl) ?_
    refine hv_cVI (rm := rm_X7_no) (As := [.int (-1)]) (rest := []) (k := 1) (ci := 7) hx hb hml hown hKK hH cf7 k1 (m_X7_no v0 (-1) _ _ hw) cw_X7_170 ⟨Nat.le_of_ble_eq_true rfl, Nat.le_of_ble_eq_true rfl⟩ rfl hl.1 rfl (Nat.le_of_ble_eq_true rfl) ⟨Nat.le_of_ble_eq_true rfl, Nat.le_of_ble_eq_true rfl⟩ dX7_two_30 (fun r6 h5 H locs hH hw => ?_)
    exact hv_iret hx hb hr hlk hH hw dX7_two_33
abbrev rm_X7_divisor : Room := { frames := 0, cells := 0, slots := 0, locals := 0 }
set_option maxHeartbeats 4000000 in
set_option maxRecDepth 100000 in
theorem m_X7_divisor {l : Launch} {G : Gl} {B sz : Nat} {S : St} (v0 : Int64) (v2 : Int64) (h : Hp) (Q : Int64 → Hp → Prop) (hw : w_X7_divisor S v0 v2 h Q) : ML l G B sz S yX7_divisor cX7_divisor 10 rm_X7_divisor [.long v0, .long v2] h Q := by
  refine met_of rfl rfl ?_
  intro p e s m args below meth c hMB H ls hH hl
  obtain ⟨hx, hb, hml, hown, hKK, hr, hlk⟩ := hMB
  replace hl : lv_has ls 10 [(0, .long v0), (2, .long v2)] := hl
  have c6 : ∀  (v4 : Int64) (v6 : Int64) (h : Hp) (H : Heap) (locs : List Loc) (ls : Array Slot), HH G B S h sz s H locs → lv_has ls 10 [(4, .long v4), (6, .long v6)] → w_X7_divisor_c6 S v4 v6 h Q → W p l e rm_X7_divisor s m args below meth c H locs 0 0 (QL G B S sz below args s Q) (F0 m 6 ls []) := by
    intro  v4 v6 h H locs ls hH hl hw
    unfold w_X7_divisor_c6 at hw
    obtain ⟨P6, hP6⟩ : ∃ P : Int64 → Int64 → Hp → Prop, ∀ (v4 : Int64) (v6 : Int64) (h : Hp), P v4 v6 h ↔ (∀ (H : Heap) (locs : List Loc) (ls : Array Slot), HH G B S h sz s H locs → lv_has ls 10 [(4, .long v4), (6, .long v6)] → W p l e rm_X7_divisor s m args below meth c H locs 0 0 (QL G B S sz below args s Q) (F0 m 6 ls [])) := ⟨_, fun v4 v6 h => Iff.rfl⟩
    refine (hP6 v4 v6 h).1 (hw P6 (fun v4 v6 h hw => (hP6 v4 v6 h).2 (fun H locs ls hH hl => ?_))) H locs ls hH hl
    have hK6 : ∀ (v4 : Int64) (v6 : Int64) (h : Hp) (H : Heap) (locs : List Loc) (ls : Array Slot), HH G B S h sz s H locs → lv_has ls 10 [(4, .long v4), (6, .long v6)] → P6 v4 v6 h → W p l e rm_X7_divisor s m args below meth c H locs 0 0 (QL G B S sz below args s Q) (F0 m 6 ls []) := fun v4 v6 h H locs ls hH hl hk => (hP6 v4 v6 h).1 hk H locs ls hH hl
    refine lv_lload hx hb dX7_divisor_6 (lv_at hl 1 rfl) ?_
    refine lv_lconst (v := (lN 0)) hx hb dX7_divisor_8 rfl ?_
    refine W.lcmp hx hb dX7_divisor_9 ?_
    refine lv_if_eq (tgt := 31) hx hb dX7_divisor_10 (by decide) (fun c1 => ?_) (fun c1 => ?_)
    · have hw := ite_t hw c1
      refine lv_lload hx hb dX7_divisor_31 (lv_at hl 0 rfl) ?_
      exact hv_lret hx hb hr hlk hH hw dX7_divisor_33
    · have hw := ite_f hw c1
      refine lv_lload hx hb dX7_divisor_13 (lv_at hl 0 rfl) ?_
      refine lv_lload hx hb dX7_divisor_15 (lv_at hl 1 rfl) ?_
      obtain ⟨k2, hw⟩ := hw
      refine lv_lrem hx hb dX7_divisor_17 k2 ?_
      refine lv_lstore (lv' := [(8, .long (lrem v4 v6)), (4, .long v4), (6, .long v6)]) hx hb dX7_divisor_18 hl (by decide) rfl (fun ls hl => ?_)
      refine lv_lload hx hb dX7_divisor_20 (lv_at hl 2 rfl) ?_
      refine lv_lstore (lv' := [(4, .long v6), (8, .long (lrem v4 v6)), (6, .long v6)]) hx hb dX7_divisor_22 hl (by decide) rfl (fun ls hl => ?_)
      refine lv_lload hx hb dX7_divisor_24 (lv_at hl 1 rfl) ?_
      refine lv_lstore (lv' := [(6, .long (lrem v4 v6)), (4, .long v6), (8, .long (lrem v4 v6))]) hx hb dX7_divisor_26 hl (by decide) rfl (fun ls hl => ?_)
      refine lv_goto (tgt := 6) hx hb dX7_divisor_28 (by decide) ?_
      exact hK6 _ _ _ H locs ls hH (lv_sub hl [1, 0] rfl) hw
  unfold w_X7_divisor at hw
  show W p l e rm_X7_divisor s m args below meth c H [] 0 0 (QL G B S sz below args s Q) (F0 m 0 ls [])
  generalize ([] : List Loc) = locs at hH ⊢
  refine lv_lload_n hx hb dX7_divisor_0 rfl (lv_at hl 0 rfl) ?_
  refine lv_lstore (lv' := [(4, .long v0), (0, .long v0), (2, .long v2)]) hx hb dX7_divisor_1 hl (by decide) rfl (fun ls hl => ?_)
  refine lv_lload_n hx hb dX7_divisor_3 rfl (lv_at hl 2 rfl) ?_
  refine lv_lstore (lv' := [(6, .long v2), (4, .long v0), (0, .long v0), (2, .long v2)]) hx hb dX7_divisor_4 hl (by decide) rfl (fun ls hl => ?_)
  exact c6 _ _ _ H locs ls hH (lv_sub hl [1, 0] rfl) hw
abbrev rm_X7_partOf : Room := { frames := 1, cells := 0, slots := 0, locals := 29 }
set_option maxHeartbeats 4000000 in
set_option maxRecDepth 100000 in
theorem m_X7_partOf {l : Launch} {G : Gl} {B sz : Nat} {S : St} (v0 : Int64) (v2 : Int64) (v4 : Int32) (h : Hp) (Q : Int64 → Hp → Prop) (hw : w_X7_partOf S v0 v2 v4 h Q) : ML l G B sz S yX7_partOf cX7_partOf 5 rm_X7_partOf [.long v0, .long v2, .int v4] h Q := by
  refine met_of rfl rfl ?_
  intro p e s m args below meth c hMB H ls hH hl
  obtain ⟨hx, hb, hml, hown, hKK, hr, hlk⟩ := hMB
  replace hl : lv_has ls 5 [(0, .long v0), (2, .long v2), (4, .int v4)] := hl
  unfold w_X7_partOf at hw
  show W p l e rm_X7_partOf s m args below meth c H [] 0 0 (QL G B S sz below args s Q) (F0 m 0 ls [])
  generalize ([] : List Loc) = locs at hH ⊢
  refine lv_iload hx hb dX7_partOf_0 (lv_at hl 2 rfl) ?_
  refine lv_if_ne (tgt := 9) hx hb dX7_partOf_2 (by decide) (fun c1 => ?_) (fun c1 => ?_)
  · have hw := ite_f hw c1
    refine lv_lload_n hx hb dX7_partOf_9 rfl (lv_at hl 1 rfl) ?_
    refine lv_lload_n hx hb dX7_partOf_10 rfl (lv_at hl 0 rfl) ?_
    refine lv_lload_n hx hb dX7_partOf_11 rfl (lv_at hl 1 rfl) ?_
    refine hv_cSL (rm := rm_X7_divisor) (As := [.long v0, .long v2]) (rest := [.long v2]) (k := 2) hx hb hml hown hKK hH (m_X7_divisor v0 v2 _ _ hw) cw_X7_383 ⟨Nat.le_of_ble_eq_true rfl, Nat.le_of_ble_eq_true rfl⟩ rfl hl.1 rfl (Nat.le_of_ble_eq_true rfl) ⟨Nat.le_of_ble_eq_true rfl, Nat.le_of_ble_eq_true rfl⟩ dX7_partOf_12 (fun r6 h5 H locs hH hw => ?_)
    obtain ⟨k7, hw⟩ := hw
    refine lv_ldiv hx hb dX7_partOf_15 k7 ?_
    exact hv_lret hx hb hr hlk hH hw dX7_partOf_16
  · have hw := ite_t hw c1
    refine lv_lload_n hx hb dX7_partOf_5 rfl (lv_at hl 0 rfl) ?_
    refine lv_goto (tgt := 10) hx hb dX7_partOf_6 (by decide) ?_
    refine lv_lload_n hx hb dX7_partOf_10 rfl (lv_at hl 0 rfl) ?_
    refine lv_lload_n hx hb dX7_partOf_11 rfl (lv_at hl 1 rfl) ?_
    refine hv_cSL (rm := rm_X7_divisor) (As := [.long v0, .long v2]) (rest := [.long v0]) (k := 2) hx hb hml hown hKK hH (m_X7_divisor v0 v2 _ _ hw) cw_X7_383 ⟨Nat.le_of_ble_eq_true rfl, Nat.le_of_ble_eq_true rfl⟩ rfl hl.1 rfl (Nat.le_of_ble_eq_true rfl) ⟨Nat.le_of_ble_eq_true rfl, Nat.le_of_ble_eq_true rfl⟩ dX7_partOf_12 (fun r3 h2 H locs hH hw => ?_)
    obtain ⟨k4, hw⟩ := hw
    refine lv_ldiv hx hb dX7_partOf_15 k4 ?_
    exact hv_lret hx hb hr hlk hH hw dX7_partOf_16
abbrev rm_X7_rain : Room := { frames := 6, cells := 0, slots := 0, locals := 139 }
set_option maxHeartbeats 4000000 in
set_option maxRecDepth 100000 in
theorem m_X7_rain {l : Launch} {G : Gl} {B sz : Nat} {S : St} (v0 : Nat) (v1 : Int32) (v2 : Int32) (v3 : Int32) (v4 : Int32) (v5 : Int32) (h : Hp) (Q : Int64 → Hp → Prop) (hw : w_X7_rain S v0 v1 v2 v3 v4 v5 h Q) : ML l G B sz S yX7_rain cX7_rain 15 rm_X7_rain [.ref v0, .int v1, .int v2, .int v3, .int v4, .int v5] h Q := by
  refine met_of rfl rfl ?_
  intro p e s m args below meth c hMB H ls hH hl
  obtain ⟨hx, hb, hml, hown, hKK, hr, hlk⟩ := hMB
  replace hl : lv_has ls 15 [(0, .ref v0), (1, .int v1), (2, .int v2), (3, .int v3), (4, .int v4), (5, .int v5)] := hl
  have c132 : ∀ (v0 : Nat) (v1 : Int32) (v2 : Int32) (v3 : Int32) (v4 : Int32) (v5 : Int32) (v9 : Int64) (P114 : Int64 → Int32 → Hp → Prop) (_ : ∀ (v7 : Int64) (v11 : Int32) (h : Hp) (H : Heap) (locs : List Loc) (ls : Array Slot), HH G B S h sz s H locs → lv_has ls 15 [(0, .ref v0), (1, .int v1), (2, .int v2), (3, .int v3), (4, .int v4), (5, .int v5), (7, .long v7), (9, .long v9), (11, .int v11)] → P114 v7 v11 h → W p l e rm_X7_rain s m args below meth c H locs 0 0 (QL G B S sz below args s Q) (F0 m 114 ls [])) (v7 : Int64) (v11 : Int32) (v12 : Int64) (v14 : Int32) (h : Hp) (H : Heap) (locs : List Loc) (ls : Array Slot), HH G B S h sz s H locs → lv_has ls 15 [(0, .ref v0), (1, .int v1), (2, .int v2), (3, .int v3), (4, .int v4), (5, .int v5), (7, .long v7), (9, .long v9), (11, .int v11), (12, .long v12), (14, .int v14)] → w_X7_rain_c132 S v0 v1 v2 v3 v4 v5 v7 v9 v11 v12 v14 h Q P114 → W p l e rm_X7_rain s m args below meth c H locs 0 0 (QL G B S sz below args s Q) (F0 m 132 ls []) := by
    intro v0 v1 v2 v3 v4 v5 v9 P114 hK114 v7 v11 v12 v14 h H locs ls hH hl hw
    unfold w_X7_rain_c132 at hw
    obtain ⟨P132, hP132⟩ : ∃ P : Int64 → Int32 → Hp → Prop, ∀ (v12 : Int64) (v14 : Int32) (h : Hp), P v12 v14 h ↔ (∀ (H : Heap) (locs : List Loc) (ls : Array Slot), HH G B S h sz s H locs → lv_has ls 15 [(0, .ref v0), (1, .int v1), (2, .int v2), (3, .int v3), (4, .int v4), (5, .int v5), (7, .long v7), (9, .long v9), (11, .int v11), (12, .long v12), (14, .int v14)] → W p l e rm_X7_rain s m args below meth c H locs 0 0 (QL G B S sz below args s Q) (F0 m 132 ls [])) := ⟨_, fun v12 v14 h => Iff.rfl⟩
    refine (hP132 v12 v14 h).1 (hw P132 (fun v12 v14 h hw => (hP132 v12 v14 h).2 (fun H locs ls hH hl => ?_))) H locs ls hH hl
    have hK132 : ∀ (v12 : Int64) (v14 : Int32) (h : Hp) (H : Heap) (locs : List Loc) (ls : Array Slot), HH G B S h sz s H locs → lv_has ls 15 [(0, .ref v0), (1, .int v1), (2, .int v2), (3, .int v3), (4, .int v4), (5, .int v5), (7, .long v7), (9, .long v9), (11, .int v11), (12, .long v12), (14, .int v14)] → P132 v12 v14 h → W p l e rm_X7_rain s m args below meth c H locs 0 0 (QL G B S sz below args s Q) (F0 m 132 ls []) := fun v12 v14 h H locs ls hH hl hk => (hP132 v12 v14 h).1 hk H locs ls hH hl
    refine lv_iload hx hb dX7_rain_132 (lv_at hl 10 rfl) ?_
    refine lv_iload_n hx hb dX7_rain_134 rfl (lv_at hl 3 rfl) ?_
    refine lv_icmp_ge (tgt := 195) hx hb dX7_rain_135 (by decide) (fun c1 => ?_) (fun c1 => ?_)
    · have hw := ite_t hw c1
      refine lv_lload hx hb dX7_rain_195 (lv_at hl 6 rfl) ?_
      refine lv_aload_n hx hb dX7_rain_197 rfl (lv_at hl 0 rfl) ?_
      obtain ⟨k2, hw⟩ := hw
      refine hv_get (ci := 7) (k := 6) (v := .ref (S.2 v0 6)) hx hb hown hKK hH cf7 (by decide) fl_X7_28 rfl k2 rfl dX7_rain_198 ?_
      refine lv_iload_n hx hb dX7_rain_201 rfl (lv_at hl 1 rfl) ?_
      obtain ⟨k3, hw⟩ := hw
      refine hv_iald hx hb hKK hH k3 dX7_rain_202 ?_
      refine lv_iload_n hx hb dX7_rain_203 rfl (lv_at hl 2 rfl) ?_
      refine lv_icmp_ne (tgt := 212) hx hb dX7_rain_204 (by decide) (fun c4 => ?_) (fun c4 => ?_)
      · have hw := ite_f hw c4
        refine lv_lconst (v := (lN 0)) hx hb dX7_rain_212 rfl ?_
        refine lv_ladd hx hb dX7_rain_213 ?_
        refine lv_lstore (lv' := [(7, .long (v7 + (lN 0))), (0, .ref v0), (1, .int v1), (2, .int v2), (3, .int v3), (4, .int v4), (5, .int v5), (9, .long v9), (11, .int v11), (12, .long v12), (14, .int v14)]) hx hb dX7_rain_214 hl (by decide) rfl (fun ls hl => ?_)
        refine lv_aload_n hx hb dX7_rain_216 rfl (lv_at hl 1 rfl) ?_
        refine hv_cVV (rm := rm_X7_forgets) (As := []) (rest := []) (k := 0) (ci := 7) hx hb hml hown hKK hH cf7 k2 (m_X7_forgets v0 _ _ hw) cw_X7_346 ⟨Nat.le_of_ble_eq_true rfl, Nat.le_of_ble_eq_true rfl⟩ rfl hl.1 rfl (Nat.le_of_ble_eq_true rfl) ⟨Nat.le_of_ble_eq_true rfl, Nat.le_of_ble_eq_true rfl⟩ dX7_rain_217 (fun h6 H locs hH hw => ?_)
        refine lv_iinc (v := v11 + (nI 1)) (lv' := [(11, .int (v11 + (nI 1))), (7, .long (v7 + (lN 0))), (0, .ref v0), (1, .int v1), (2, .int v2), (3, .int v3), (4, .int v4), (5, .int v5), (9, .long v9), (12, .long v12), (14, .int v14)]) hx hb dX7_rain_220 hl (k := 8) rfl rfl (by decide) rfl (fun ls hl => ?_)
        refine lv_goto (tgt := 114) hx hb dX7_rain_223 (by decide) ?_
        exact hK114 _ _ _ H locs ls hH (lv_sub hl [2, 3, 4, 5, 6, 7, 1, 8, 0] rfl) hw
      · have hw := ite_t hw c4
        refine lv_lload hx hb dX7_rain_207 (lv_at hl 9 rfl) ?_
        refine lv_goto (tgt := 213) hx hb dX7_rain_209 (by decide) ?_
        refine lv_ladd hx hb dX7_rain_213 ?_
        refine lv_lstore (lv' := [(7, .long (v7 + v12)), (0, .ref v0), (1, .int v1), (2, .int v2), (3, .int v3), (4, .int v4), (5, .int v5), (9, .long v9), (11, .int v11), (12, .long v12), (14, .int v14)]) hx hb dX7_rain_214 hl (by decide) rfl (fun ls hl => ?_)
        refine lv_aload_n hx hb dX7_rain_216 rfl (lv_at hl 1 rfl) ?_
        refine hv_cVV (rm := rm_X7_forgets) (As := []) (rest := []) (k := 0) (ci := 7) hx hb hml hown hKK hH cf7 k2 (m_X7_forgets v0 _ _ hw) cw_X7_346 ⟨Nat.le_of_ble_eq_true rfl, Nat.le_of_ble_eq_true rfl⟩ rfl hl.1 rfl (Nat.le_of_ble_eq_true rfl) ⟨Nat.le_of_ble_eq_true rfl, Nat.le_of_ble_eq_true rfl⟩ dX7_rain_217 (fun h5 H locs hH hw => ?_)
        refine lv_iinc (v := v11 + (nI 1)) (lv' := [(11, .int (v11 + (nI 1))), (7, .long (v7 + v12)), (0, .ref v0), (1, .int v1), (2, .int v2), (3, .int v3), (4, .int v4), (5, .int v5), (9, .long v9), (12, .long v12), (14, .int v14)]) hx hb dX7_rain_220 hl (k := 8) rfl rfl (by decide) rfl (fun ls hl => ?_)
        refine lv_goto (tgt := 114) hx hb dX7_rain_223 (by decide) ?_
        exact hK114 _ _ _ H locs ls hH (lv_sub hl [2, 3, 4, 5, 6, 7, 1, 8, 0] rfl) hw
    · have hw := ite_f hw c1
      refine lv_lload hx hb dX7_rain_138 (lv_at hl 9 rfl) ?_
      refine lv_iload hx hb dX7_rain_140 (lv_at hl 8 rfl) ?_
      refine lv_iload hx hb dX7_rain_142 (lv_at hl 10 rfl) ?_
      refine hv_cSI (rm := rm_X7_has) (As := [.int v11, .int v14]) (rest := [.long v12]) (k := 2) hx hb hml hown hKK hH (m_X7_has v11 v14 _ _ hw) cw_X7_356 ⟨Nat.le_of_ble_eq_true rfl, Nat.le_of_ble_eq_true rfl⟩ rfl hl.1 rfl (Nat.le_of_ble_eq_true rfl) ⟨Nat.le_of_ble_eq_true rfl, Nat.le_of_ble_eq_true rfl⟩ dX7_rain_144 (fun r8 h7 H locs hH hw => ?_)
      refine lv_if_eq (tgt := 154) hx hb dX7_rain_147 (by decide) (fun c9 => ?_) (fun c9 => ?_)
      · have hw := ite_t hw c9
        refine lv_iload hx hb dX7_rain_154 (lv_at hl 4 rfl) ?_
        refine lv_iconst (v := (nI 1)) hx hb dX7_rain_156 (by decide) ?_
        refine lv_isub hx hb dX7_rain_157 ?_
        refine lv_i2l hx hb dX7_rain_158 rfl ?_
        refine lv_lmul hx hb dX7_rain_159 ?_
        refine lv_lstore (lv' := [(12, .long (v12 * ((v4 - (nI 1)).toInt64))), (0, .ref v0), (1, .int v1), (2, .int v2), (3, .int v3), (4, .int v4), (5, .int v5), (7, .long v7), (9, .long v9), (11, .int v11), (14, .int v14)]) hx hb dX7_rain_160 hl (by decide) rfl (fun ls hl => ?_)
        refine lv_iload hx hb dX7_rain_162 (lv_at hl 9 rfl) ?_
        refine lv_iload hx hb dX7_rain_164 (lv_at hl 10 rfl) ?_
        refine hv_cSI (rm := rm_X7_has) (As := [.int v11, .int v14]) (rest := []) (k := 2) hx hb hml hown hKK hH (m_X7_has v11 v14 _ _ hw) cw_X7_356 ⟨Nat.le_of_ble_eq_true rfl, Nat.le_of_ble_eq_true rfl⟩ rfl hl.1 rfl (Nat.le_of_ble_eq_true rfl) ⟨Nat.le_of_ble_eq_true rfl, Nat.le_of_ble_eq_true rfl⟩ dX7_rain_166 (fun r11 h10 H locs hH hw => ?_)
        refine lv_if_eq (tgt := 185) hx hb dX7_rain_169 (by decide) (fun c12 => ?_) (fun c12 => ?_)
        · have hw := ite_t hw c12
          refine lv_aload_n hx hb dX7_rain_185 rfl (lv_at hl 1 rfl) ?_
          obtain ⟨k13, hw⟩ := hw
          refine hv_cVV (rm := rm_X7_goesNight) (As := []) (rest := []) (k := 0) (ci := 7) hx hb hml hown hKK hH cf7 k13 (m_X7_goesNight v0 _ _ hw) cw_X7_160 ⟨Nat.le_of_ble_eq_true rfl, Nat.le_of_ble_eq_true rfl⟩ rfl hl.1 rfl (Nat.le_of_ble_eq_true rfl) ⟨Nat.le_of_ble_eq_true rfl, Nat.le_of_ble_eq_true rfl⟩ dX7_rain_186 (fun h14 H locs hH hw => ?_)
          refine lv_iinc (v := v14 + (nI 1)) (lv' := [(14, .int (v14 + (nI 1))), (12, .long (v12 * ((v4 - (nI 1)).toInt64))), (0, .ref v0), (1, .int v1), (2, .int v2), (3, .int v3), (4, .int v4), (5, .int v5), (7, .long v7), (9, .long v9), (11, .int v11)]) hx hb dX7_rain_189 hl (k := 10) rfl rfl (by decide) rfl (fun ls hl => ?_)
          refine lv_goto (tgt := 132) hx hb dX7_rain_192 (by decide) ?_
          exact hK132 _ _ _ H locs ls hH (lv_sub hl [2, 3, 4, 5, 6, 7, 8, 9, 10, 1, 0] rfl) hw
        · have hw := ite_f hw c12
          refine lv_aload_n hx hb dX7_rain_172 rfl (lv_at hl 1 rfl) ?_
          refine lv_dup hx hb dX7_rain_173 rfl ?_
          obtain ⟨k15, hw⟩ := hw
          refine hv_get (ci := 7) (k := 14) (v := .int (h10 v0 14)) hx hb hown hKK hH cf7 (by decide) fl_X7_136 rfl k15 rfl dX7_rain_174 ?_
          refine lv_iconst (v := (nI 1)) hx hb dX7_rain_177 (by decide) ?_
          refine lv_iadd hx hb dX7_rain_178 ?_
          refine hv_put (ci := 7) (k := 14) hx hb hown hKK hH cf7 (by decide) fl_X7_136 rfl rfl rfl k15 rfl rfl dX7_rain_179 (fun H locs hH => ?_)
          refine lv_goto (tgt := 189) hx hb dX7_rain_182 (by decide) ?_
          refine lv_iinc (v := v14 + (nI 1)) (lv' := [(14, .int (v14 + (nI 1))), (12, .long (v12 * ((v4 - (nI 1)).toInt64))), (0, .ref v0), (1, .int v1), (2, .int v2), (3, .int v3), (4, .int v4), (5, .int v5), (7, .long v7), (9, .long v9), (11, .int v11)]) hx hb dX7_rain_189 hl (k := 10) rfl rfl (by decide) rfl (fun ls hl => ?_)
          refine lv_goto (tgt := 132) hx hb dX7_rain_192 (by decide) ?_
          exact hK132 _ _ _ H locs ls hH (lv_sub hl [2, 3, 4, 5, 6, 7, 8, 9, 10, 1, 0] rfl) hw
      · have hw := ite_f hw c9
        refine lv_lconst (v := (lN 1)) hx hb dX7_rain_150 rfl ?_
        refine lv_goto (tgt := 159) hx hb dX7_rain_151 (by decide) ?_
        refine lv_lmul hx hb dX7_rain_159 ?_
        refine lv_lstore (lv' := [(12, .long (v12 * (lN 1))), (0, .ref v0), (1, .int v1), (2, .int v2), (3, .int v3), (4, .int v4), (5, .int v5), (7, .long v7), (9, .long v9), (11, .int v11), (14, .int v14)]) hx hb dX7_rain_160 hl (by decide) rfl (fun ls hl => ?_)
        refine lv_iload hx hb dX7_rain_162 (lv_at hl 9 rfl) ?_
        refine lv_iload hx hb dX7_rain_164 (lv_at hl 10 rfl) ?_
        refine hv_cSI (rm := rm_X7_has) (As := [.int v11, .int v14]) (rest := []) (k := 2) hx hb hml hown hKK hH (m_X7_has v11 v14 _ _ hw) cw_X7_356 ⟨Nat.le_of_ble_eq_true rfl, Nat.le_of_ble_eq_true rfl⟩ rfl hl.1 rfl (Nat.le_of_ble_eq_true rfl) ⟨Nat.le_of_ble_eq_true rfl, Nat.le_of_ble_eq_true rfl⟩ dX7_rain_166 (fun r17 h16 H locs hH hw => ?_)
        refine lv_if_eq (tgt := 185) hx hb dX7_rain_169 (by decide) (fun c18 => ?_) (fun c18 => ?_)
        · have hw := ite_t hw c18
          refine lv_aload_n hx hb dX7_rain_185 rfl (lv_at hl 1 rfl) ?_
          obtain ⟨k19, hw⟩ := hw
          refine hv_cVV (rm := rm_X7_goesNight) (As := []) (rest := []) (k := 0) (ci := 7) hx hb hml hown hKK hH cf7 k19 (m_X7_goesNight v0 _ _ hw) cw_X7_160 ⟨Nat.le_of_ble_eq_true rfl, Nat.le_of_ble_eq_true rfl⟩ rfl hl.1 rfl (Nat.le_of_ble_eq_true rfl) ⟨Nat.le_of_ble_eq_true rfl, Nat.le_of_ble_eq_true rfl⟩ dX7_rain_186 (fun h20 H locs hH hw => ?_)
          refine lv_iinc (v := v14 + (nI 1)) (lv' := [(14, .int (v14 + (nI 1))), (12, .long (v12 * (lN 1))), (0, .ref v0), (1, .int v1), (2, .int v2), (3, .int v3), (4, .int v4), (5, .int v5), (7, .long v7), (9, .long v9), (11, .int v11)]) hx hb dX7_rain_189 hl (k := 10) rfl rfl (by decide) rfl (fun ls hl => ?_)
          refine lv_goto (tgt := 132) hx hb dX7_rain_192 (by decide) ?_
          exact hK132 _ _ _ H locs ls hH (lv_sub hl [2, 3, 4, 5, 6, 7, 8, 9, 10, 1, 0] rfl) hw
        · have hw := ite_f hw c18
          refine lv_aload_n hx hb dX7_rain_172 rfl (lv_at hl 1 rfl) ?_
          refine lv_dup hx hb dX7_rain_173 rfl ?_
          obtain ⟨k21, hw⟩ := hw
          refine hv_get (ci := 7) (k := 14) (v := .int (h16 v0 14)) hx hb hown hKK hH cf7 (by decide) fl_X7_136 rfl k21 rfl dX7_rain_174 ?_
          refine lv_iconst (v := (nI 1)) hx hb dX7_rain_177 (by decide) ?_
          refine lv_iadd hx hb dX7_rain_178 ?_
          refine hv_put (ci := 7) (k := 14) hx hb hown hKK hH cf7 (by decide) fl_X7_136 rfl rfl rfl k21 rfl rfl dX7_rain_179 (fun H locs hH => ?_)
          refine lv_goto (tgt := 189) hx hb dX7_rain_182 (by decide) ?_
          refine lv_iinc (v := v14 + (nI 1)) (lv' := [(14, .int (v14 + (nI 1))), (12, .long (v12 * (lN 1))), (0, .ref v0), (1, .int v1), (2, .int v2), (3, .int v3), (4, .int v4), (5, .int v5), (7, .long v7), (9, .long v9), (11, .int v11)]) hx hb dX7_rain_189 hl (k := 10) rfl rfl (by decide) rfl (fun ls hl => ?_)
          refine lv_goto (tgt := 132) hx hb dX7_rain_192 (by decide) ?_
          exact hK132 _ _ _ H locs ls hH (lv_sub hl [2, 3, 4, 5, 6, 7, 8, 9, 10, 1, 0] rfl) hw
  have c114 : ∀  (v0 : Nat) (v1 : Int32) (v2 : Int32) (v3 : Int32) (v4 : Int32) (v5 : Int32) (v9 : Int64) (v7 : Int64) (v11 : Int32) (h : Hp) (H : Heap) (locs : List Loc) (ls : Array Slot), HH G B S h sz s H locs → lv_has ls 15 [(0, .ref v0), (1, .int v1), (2, .int v2), (3, .int v3), (4, .int v4), (5, .int v5), (7, .long v7), (9, .long v9), (11, .int v11)] → w_X7_rain_c114 S v0 v1 v2 v3 v4 v5 v9 v7 v11 h Q → W p l e rm_X7_rain s m args below meth c H locs 0 0 (QL G B S sz below args s Q) (F0 m 114 ls []) := by
    intro  v0 v1 v2 v3 v4 v5 v9 v7 v11 h H locs ls hH hl hw
    unfold w_X7_rain_c114 at hw
    obtain ⟨P114, hP114⟩ : ∃ P : Int64 → Int32 → Hp → Prop, ∀ (v7 : Int64) (v11 : Int32) (h : Hp), P v7 v11 h ↔ (∀ (H : Heap) (locs : List Loc) (ls : Array Slot), HH G B S h sz s H locs → lv_has ls 15 [(0, .ref v0), (1, .int v1), (2, .int v2), (3, .int v3), (4, .int v4), (5, .int v5), (7, .long v7), (9, .long v9), (11, .int v11)] → W p l e rm_X7_rain s m args below meth c H locs 0 0 (QL G B S sz below args s Q) (F0 m 114 ls [])) := ⟨_, fun v7 v11 h => Iff.rfl⟩
    refine (hP114 v7 v11 h).1 (hw P114 (fun v7 v11 h hw => (hP114 v7 v11 h).2 (fun H locs ls hH hl => ?_))) H locs ls hH hl
    have hK114 : ∀ (v7 : Int64) (v11 : Int32) (h : Hp) (H : Heap) (locs : List Loc) (ls : Array Slot), HH G B S h sz s H locs → lv_has ls 15 [(0, .ref v0), (1, .int v1), (2, .int v2), (3, .int v3), (4, .int v4), (5, .int v5), (7, .long v7), (9, .long v9), (11, .int v11)] → P114 v7 v11 h → W p l e rm_X7_rain s m args below meth c H locs 0 0 (QL G B S sz below args s Q) (F0 m 114 ls []) := fun v7 v11 h H locs ls hH hl hk => (hP114 v7 v11 h).1 hk H locs ls hH hl
    refine lv_iload hx hb dX7_rain_114 (lv_at hl 8 rfl) ?_
    refine lv_iconst (v := (nI 1)) hx hb dX7_rain_116 (by decide) ?_
    refine lv_iload_n hx hb dX7_rain_117 rfl (lv_at hl 3 rfl) ?_
    refine lv_ishl hx hb dX7_rain_118 ?_
    refine lv_icmp_ge (tgt := 226) hx hb dX7_rain_119 (by decide) (fun c1 => ?_) (fun c1 => ?_)
    · have hw := ite_t hw c1
      refine lv_lload hx hb dX7_rain_226 (lv_at hl 6 rfl) ?_
      refine lv_lload hx hb dX7_rain_228 (lv_at hl 7 rfl) ?_
      refine lv_iload hx hb dX7_rain_230 (lv_at hl 5 rfl) ?_
      refine hv_cSL (rm := rm_X7_partOf) (As := [.long v7, .long v9, .int v5]) (rest := []) (k := 3) hx hb hml hown hKK hH (m_X7_partOf v7 v9 v5 _ _ hw) cw_X7_391 ⟨Nat.le_of_ble_eq_true rfl, Nat.le_of_ble_eq_true rfl⟩ rfl hl.1 rfl (Nat.le_of_ble_eq_true rfl) ⟨Nat.le_of_ble_eq_true rfl, Nat.le_of_ble_eq_true rfl⟩ dX7_rain_232 (fun r3 h2 H locs hH hw => ?_)
      exact hv_lret hx hb hr hlk hH hw dX7_rain_235
    · have hw := ite_f hw c1
      refine lv_aload_n hx hb dX7_rain_122 rfl (lv_at hl 0 rfl) ?_
      obtain ⟨k4, hw⟩ := hw
      refine hv_cVV (rm := rm_X7_minds) (As := []) (rest := []) (k := 0) (ci := 7) hx hb hml hown hKK hH cf7 k4 (m_X7_minds v0 _ _ hw) cw_X7_343 ⟨Nat.le_of_ble_eq_true rfl, Nat.le_of_ble_eq_true rfl⟩ rfl hl.1 rfl (Nat.le_of_ble_eq_true rfl) ⟨Nat.le_of_ble_eq_true rfl, Nat.le_of_ble_eq_true rfl⟩ dX7_rain_123 (fun h5 H locs hH hw => ?_)
      refine lv_lconst (v := (lN 1)) hx hb dX7_rain_126 rfl ?_
      refine lv_lstore (lv' := [(12, .long (lN 1)), (0, .ref v0), (1, .int v1), (2, .int v2), (3, .int v3), (4, .int v4), (5, .int v5), (7, .long v7), (9, .long v9), (11, .int v11)]) hx hb dX7_rain_127 hl (by decide) rfl (fun ls hl => ?_)
      refine lv_iconst (v := (nI 0)) hx hb dX7_rain_129 (by decide) ?_
      refine lv_istore (lv' := [(14, .int (nI 0)), (12, .long (lN 1)), (0, .ref v0), (1, .int v1), (2, .int v2), (3, .int v3), (4, .int v4), (5, .int v5), (7, .long v7), (9, .long v9), (11, .int v11)]) hx hb dX7_rain_130 hl (by decide) rfl (fun ls hl => ?_)
      exact c132 _ _ _ _ _ _ _ _ hK114 _ _ _ _ _ H locs ls hH (lv_sub hl [2, 3, 4, 5, 6, 7, 8, 9, 10, 1, 0] rfl) hw
  have c91 : ∀  (v0 : Nat) (v1 : Int32) (v2 : Int32) (v3 : Int32) (v4 : Int32) (v5 : Int32) (v7 : Int64) (v9 : Int64) (v11 : Int32) (h : Hp) (H : Heap) (locs : List Loc) (ls : Array Slot), HH G B S h sz s H locs → lv_has ls 15 [(0, .ref v0), (1, .int v1), (2, .int v2), (3, .int v3), (4, .int v4), (5, .int v5), (7, .long v7), (9, .long v9), (11, .int v11)] → w_X7_rain_c91 S v0 v1 v2 v3 v4 v5 v7 v9 v11 h Q → W p l e rm_X7_rain s m args below meth c H locs 0 0 (QL G B S sz below args s Q) (F0 m 91 ls []) := by
    intro  v0 v1 v2 v3 v4 v5 v7 v9 v11 h H locs ls hH hl hw
    unfold w_X7_rain_c91 at hw
    obtain ⟨P91, hP91⟩ : ∃ P : Int64 → Int32 → Hp → Prop, ∀ (v9 : Int64) (v11 : Int32) (h : Hp), P v9 v11 h ↔ (∀ (H : Heap) (locs : List Loc) (ls : Array Slot), HH G B S h sz s H locs → lv_has ls 15 [(0, .ref v0), (1, .int v1), (2, .int v2), (3, .int v3), (4, .int v4), (5, .int v5), (7, .long v7), (9, .long v9), (11, .int v11)] → W p l e rm_X7_rain s m args below meth c H locs 0 0 (QL G B S sz below args s Q) (F0 m 91 ls [])) := ⟨_, fun v9 v11 h => Iff.rfl⟩
    refine (hP91 v9 v11 h).1 (hw P91 (fun v9 v11 h hw => (hP91 v9 v11 h).2 (fun H locs ls hH hl => ?_))) H locs ls hH hl
    have hK91 : ∀ (v9 : Int64) (v11 : Int32) (h : Hp) (H : Heap) (locs : List Loc) (ls : Array Slot), HH G B S h sz s H locs → lv_has ls 15 [(0, .ref v0), (1, .int v1), (2, .int v2), (3, .int v3), (4, .int v4), (5, .int v5), (7, .long v7), (9, .long v9), (11, .int v11)] → P91 v9 v11 h → W p l e rm_X7_rain s m args below meth c H locs 0 0 (QL G B S sz below args s Q) (F0 m 91 ls []) := fun v9 v11 h H locs ls hH hl hk => (hP91 v9 v11 h).1 hk H locs ls hH hl
    refine lv_iload hx hb dX7_rain_91 (lv_at hl 8 rfl) ?_
    refine lv_iload_n hx hb dX7_rain_93 rfl (lv_at hl 3 rfl) ?_
    refine lv_icmp_ge (tgt := 111) hx hb dX7_rain_94 (by decide) (fun c1 => ?_) (fun c1 => ?_)
    · have hw := ite_t hw c1
      refine lv_iconst (v := (nI 0)) hx hb dX7_rain_111 (by decide) ?_
      refine lv_istore (lv' := [(11, .int (nI 0)), (0, .ref v0), (1, .int v1), (2, .int v2), (3, .int v3), (4, .int v4), (5, .int v5), (7, .long v7), (9, .long v9)]) hx hb dX7_rain_112 hl (by decide) rfl (fun ls hl => ?_)
      exact c114 _ _ _ _ _ _ _ _ _ _ H locs ls hH (lv_sub hl [1, 2, 3, 4, 5, 6, 7, 8, 0] rfl) hw
    · have hw := ite_f hw c1
      refine lv_lload hx hb dX7_rain_97 (lv_at hl 7 rfl) ?_
      refine lv_iload hx hb dX7_rain_99 (lv_at hl 4 rfl) ?_
      refine lv_i2l hx hb dX7_rain_101 rfl ?_
      refine lv_lmul hx hb dX7_rain_102 ?_
      refine lv_lstore (lv' := [(9, .long (v9 * (v4.toInt64))), (0, .ref v0), (1, .int v1), (2, .int v2), (3, .int v3), (4, .int v4), (5, .int v5), (7, .long v7), (11, .int v11)]) hx hb dX7_rain_103 hl (by decide) rfl (fun ls hl => ?_)
      refine lv_iinc (v := v11 + (nI 1)) (lv' := [(11, .int (v11 + (nI 1))), (9, .long (v9 * (v4.toInt64))), (0, .ref v0), (1, .int v1), (2, .int v2), (3, .int v3), (4, .int v4), (5, .int v5), (7, .long v7)]) hx hb dX7_rain_105 hl (k := 8) rfl rfl (by decide) rfl (fun ls hl => ?_)
      refine lv_goto (tgt := 91) hx hb dX7_rain_108 (by decide) ?_
      exact hK91 _ _ _ H locs ls hH (lv_sub hl [2, 3, 4, 5, 6, 7, 8, 1, 0] rfl) hw
  unfold w_X7_rain at hw
  show W p l e rm_X7_rain s m args below meth c H [] 0 0 (QL G B S sz below args s Q) (F0 m 0 ls [])
  generalize ([] : List Loc) = locs at hH ⊢
  refine lv_aload_n hx hb dX7_rain_0 rfl (lv_at hl 0 rfl) ?_
  refine lv_iload_n hx hb dX7_rain_1 rfl (lv_at hl 1 rfl) ?_
  obtain ⟨k1, hw⟩ := hw
  refine hv_cVI (rm := rm_X7_isHead) (As := [.int v1]) (rest := []) (k := 1) (ci := 7) hx hb hml hown hKK hH cf7 k1 (m_X7_isHead v0 v1 _ _ hw) cw_X7_89 ⟨Nat.le_of_ble_eq_true rfl, Nat.le_of_ble_eq_true rfl⟩ rfl hl.1 rfl (Nat.le_of_ble_eq_true rfl) ⟨Nat.le_of_ble_eq_true rfl, Nat.le_of_ble_eq_true rfl⟩ dX7_rain_2 (fun r3 h2 H locs hH hw => ?_)
  refine lv_if_eq (tgt := 15) hx hb dX7_rain_5 (by decide) (fun c4 => ?_) (fun c4 => ?_)
  · have hw := ite_t hw c4
    refine lv_iconst (v := (-1)) hx hb dX7_rain_15 (by decide) ?_
    refine lv_goto (tgt := 68) hx hb dX7_rain_16 (by decide) ?_
    refine lv_istore (lv' := [(6, .int (-1)), (0, .ref v0), (1, .int v1), (2, .int v2), (3, .int v3), (4, .int v4), (5, .int v5)]) hx hb dX7_rain_68 hl (by decide) rfl (fun ls hl => ?_)
    refine lv_iload hx hb dX7_rain_70 (lv_at hl 0 rfl) ?_
    refine lv_if_eq (tgt := 82) hx hb dX7_rain_72 (by decide) (fun c => absurd c (by decide)) (fun _ => ?_)
    refine lv_aload_n hx hb dX7_rain_75 rfl (lv_at hl 1 rfl) ?_
    refine lv_iload hx hb dX7_rain_76 (lv_at hl 0 rfl) ?_
    refine hv_cVL (rm := rm_X7_lowestOf) (As := [.int (-1)]) (rest := []) (k := 1) (ci := 7) hx hb hml hown hKK hH cf7 k1 (m_X7_lowestOf v0 (-1) _ _ hw) cw_X7_387 ⟨Nat.le_of_ble_eq_true rfl, Nat.le_of_ble_eq_true rfl⟩ rfl hl.1 rfl (Nat.le_of_ble_eq_true rfl) ⟨Nat.le_of_ble_eq_true rfl, Nat.le_of_ble_eq_true rfl⟩ dX7_rain_78 (fun r6 h5 H locs hH hw => ?_)
    exact hv_lret hx hb hr hlk hH hw dX7_rain_81
  · have hw := ite_f hw c4
    refine lv_iload_n hx hb dX7_rain_8 rfl (lv_at hl 2 rfl) ?_
    refine hv_cSI (rm := rm_X7_isField) (As := [.int v2]) (rest := []) (k := 1) hx hb hml hown hKK hH (m_X7_isField v2 _ _ hw) cw_X7_244 ⟨Nat.le_of_ble_eq_true rfl, Nat.le_of_ble_eq_true rfl⟩ rfl hl.1 rfl (Nat.le_of_ble_eq_true rfl) ⟨Nat.le_of_ble_eq_true rfl, Nat.le_of_ble_eq_true rfl⟩ dX7_rain_9 (fun r8 h7 H locs hH hw => ?_)
    refine lv_if_ne (tgt := 19) hx hb dX7_rain_12 (by decide) (fun c9 => ?_) (fun c9 => ?_)
    · have hw := ite_f hw c9
      refine lv_iload_n hx hb dX7_rain_19 rfl (lv_at hl 3 rfl) ?_
      refine lv_if_lt (tgt := 29) hx hb dX7_rain_20 (by decide) (fun c12 => ?_) (fun c12 => ?_)
      · have hw := ite_t hw c12
        refine lv_bipush (v := (-4)) hx hb dX7_rain_29 (by decide) ?_
        refine lv_goto (tgt := 68) hx hb dX7_rain_31 (by decide) ?_
        refine lv_istore (lv' := [(6, .int (-4)), (0, .ref v0), (1, .int v1), (2, .int v2), (3, .int v3), (4, .int v4), (5, .int v5)]) hx hb dX7_rain_68 hl (by decide) rfl (fun ls hl => ?_)
        refine lv_iload hx hb dX7_rain_70 (lv_at hl 0 rfl) ?_
        refine lv_if_eq (tgt := 82) hx hb dX7_rain_72 (by decide) (fun c => absurd c (by decide)) (fun _ => ?_)
        refine lv_aload_n hx hb dX7_rain_75 rfl (lv_at hl 1 rfl) ?_
        refine lv_iload hx hb dX7_rain_76 (lv_at hl 0 rfl) ?_
        refine hv_cVL (rm := rm_X7_lowestOf) (As := [.int (-4)]) (rest := []) (k := 1) (ci := 7) hx hb hml hown hKK hH cf7 k1 (m_X7_lowestOf v0 (-4) _ _ hw) cw_X7_387 ⟨Nat.le_of_ble_eq_true rfl, Nat.le_of_ble_eq_true rfl⟩ rfl hl.1 rfl (Nat.le_of_ble_eq_true rfl) ⟨Nat.le_of_ble_eq_true rfl, Nat.le_of_ble_eq_true rfl⟩ dX7_rain_78 (fun r14 h13 H locs hH hw => ?_)
        exact hv_lret hx hb hr hlk hH hw dX7_rain_81
      · have hw := ite_f hw c12
        refine lv_iload hx hb dX7_rain_23 (lv_at hl 4 rfl) ?_
        refine lv_iconst (v := (nI 2)) hx hb dX7_rain_25 (by decide) ?_
        refine lv_icmp_ge (tgt := 34) hx hb dX7_rain_26 (by decide) (fun c15 => ?_) (fun c15 => ?_)
        · have hw := ite_t hw c15
          refine lv_iload_n hx hb dX7_rain_34 rfl (lv_at hl 3 rfl) ?_
          refine lv_bipush (v := (nI 7)) hx hb dX7_rain_35 (by decide) ?_
          refine lv_icmp_gt (tgt := 47) hx hb dX7_rain_37 (by decide) (fun c16 => ?_) (fun c16 => ?_)
          · have hw := ite_t hw c16
            refine lv_bipush (v := (-6)) hx hb dX7_rain_47 (by decide) ?_
            refine lv_goto (tgt := 68) hx hb dX7_rain_49 (by decide) ?_
            refine lv_istore (lv' := [(6, .int (-6)), (0, .ref v0), (1, .int v1), (2, .int v2), (3, .int v3), (4, .int v4), (5, .int v5)]) hx hb dX7_rain_68 hl (by decide) rfl (fun ls hl => ?_)
            refine lv_iload hx hb dX7_rain_70 (lv_at hl 0 rfl) ?_
            refine lv_if_eq (tgt := 82) hx hb dX7_rain_72 (by decide) (fun c => absurd c (by decide)) (fun _ => ?_)
            refine lv_aload_n hx hb dX7_rain_75 rfl (lv_at hl 1 rfl) ?_
            refine lv_iload hx hb dX7_rain_76 (lv_at hl 0 rfl) ?_
            refine hv_cVL (rm := rm_X7_lowestOf) (As := [.int (-6)]) (rest := []) (k := 1) (ci := 7) hx hb hml hown hKK hH cf7 k1 (m_X7_lowestOf v0 (-6) _ _ hw) cw_X7_387 ⟨Nat.le_of_ble_eq_true rfl, Nat.le_of_ble_eq_true rfl⟩ rfl hl.1 rfl (Nat.le_of_ble_eq_true rfl) ⟨Nat.le_of_ble_eq_true rfl, Nat.le_of_ble_eq_true rfl⟩ dX7_rain_78 (fun r18 h17 H locs hH hw => ?_)
            exact hv_lret hx hb hr hlk hH hw dX7_rain_81
          · have hw := ite_f hw c16
            refine lv_iload hx hb dX7_rain_40 (lv_at hl 4 rfl) ?_
            refine lv_bipush (v := (nI 20)) hx hb dX7_rain_42 (by decide) ?_
            refine lv_icmp_le (tgt := 52) hx hb dX7_rain_44 (by decide) (fun c19 => ?_) (fun c19 => ?_)
            · have hw := ite_t hw c19
              refine lv_iload hx hb dX7_rain_52 (lv_at hl 5 rfl) ?_
              refine lv_iconst (v := (nI 0)) hx hb dX7_rain_54 (by decide) ?_
              refine lv_iconst (v := (nI 1)) hx hb dX7_rain_55 (by decide) ?_
              refine hv_cSI (rm := rm_X7_isIn) (As := [.int v5, .int (nI 0), .int (nI 1)]) (rest := []) (k := 3) hx hb hml hown hKK hH (m_X7_isIn v5 (nI 0) (nI 1) _ _ hw) cw_X7_85 ⟨Nat.le_of_ble_eq_true rfl, Nat.le_of_ble_eq_true rfl⟩ rfl hl.1 rfl (Nat.le_of_ble_eq_true rfl) ⟨Nat.le_of_ble_eq_true rfl, Nat.le_of_ble_eq_true rfl⟩ dX7_rain_56 (fun r21 h20 H locs hH hw => ?_)
              refine lv_if_ne (tgt := 67) hx hb dX7_rain_59 (by decide) (fun c22 => ?_) (fun c22 => ?_)
              · have hw := ite_f hw c22
                refine lv_iconst (v := (nI 0)) hx hb dX7_rain_67 (by decide) ?_
                refine lv_istore (lv' := [(6, .int (nI 0)), (0, .ref v0), (1, .int v1), (2, .int v2), (3, .int v3), (4, .int v4), (5, .int v5)]) hx hb dX7_rain_68 hl (by decide) rfl (fun ls hl => ?_)
                refine lv_iload hx hb dX7_rain_70 (lv_at hl 0 rfl) ?_
                refine lv_if_eq (tgt := 82) hx hb dX7_rain_72 (by decide) (fun _ => ?_) (fun c => absurd (by decide) c)
                refine lv_lconst (v := (lN 0)) hx hb dX7_rain_82 rfl ?_
                refine lv_lstore (lv' := [(7, .long (lN 0)), (6, .int (nI 0)), (0, .ref v0), (1, .int v1), (2, .int v2), (3, .int v3), (4, .int v4), (5, .int v5)]) hx hb dX7_rain_83 hl (by decide) rfl (fun ls hl => ?_)
                refine lv_lconst (v := (lN 1)) hx hb dX7_rain_85 rfl ?_
                refine lv_lstore (lv' := [(9, .long (lN 1)), (7, .long (lN 0)), (6, .int (nI 0)), (0, .ref v0), (1, .int v1), (2, .int v2), (3, .int v3), (4, .int v4), (5, .int v5)]) hx hb dX7_rain_86 hl (by decide) rfl (fun ls hl => ?_)
                refine lv_iconst (v := (nI 0)) hx hb dX7_rain_88 (by decide) ?_
                refine lv_istore (lv' := [(11, .int (nI 0)), (9, .long (lN 1)), (7, .long (lN 0)), (6, .int (nI 0)), (0, .ref v0), (1, .int v1), (2, .int v2), (3, .int v3), (4, .int v4), (5, .int v5)]) hx hb dX7_rain_89 hl (by decide) rfl (fun ls hl => ?_)
                exact c91 _ _ _ _ _ _ _ _ _ _ H locs ls hH (lv_sub hl [4, 5, 6, 7, 8, 9, 2, 1, 0] rfl) hw
              · have hw := ite_t hw c22
                refine lv_bipush (v := (-2)) hx hb dX7_rain_62 (by decide) ?_
                refine lv_goto (tgt := 68) hx hb dX7_rain_64 (by decide) ?_
                refine lv_istore (lv' := [(6, .int (-2)), (0, .ref v0), (1, .int v1), (2, .int v2), (3, .int v3), (4, .int v4), (5, .int v5)]) hx hb dX7_rain_68 hl (by decide) rfl (fun ls hl => ?_)
                refine lv_iload hx hb dX7_rain_70 (lv_at hl 0 rfl) ?_
                refine lv_if_eq (tgt := 82) hx hb dX7_rain_72 (by decide) (fun c => absurd c (by decide)) (fun _ => ?_)
                refine lv_aload_n hx hb dX7_rain_75 rfl (lv_at hl 1 rfl) ?_
                refine lv_iload hx hb dX7_rain_76 (lv_at hl 0 rfl) ?_
                refine hv_cVL (rm := rm_X7_lowestOf) (As := [.int (-2)]) (rest := []) (k := 1) (ci := 7) hx hb hml hown hKK hH cf7 k1 (m_X7_lowestOf v0 (-2) _ _ hw) cw_X7_387 ⟨Nat.le_of_ble_eq_true rfl, Nat.le_of_ble_eq_true rfl⟩ rfl hl.1 rfl (Nat.le_of_ble_eq_true rfl) ⟨Nat.le_of_ble_eq_true rfl, Nat.le_of_ble_eq_true rfl⟩ dX7_rain_78 (fun r24 h23 H locs hH hw => ?_)
                exact hv_lret hx hb hr hlk hH hw dX7_rain_81
            · have hw := ite_f hw c19
              refine lv_bipush (v := (-6)) hx hb dX7_rain_47 (by decide) ?_
              refine lv_goto (tgt := 68) hx hb dX7_rain_49 (by decide) ?_
              refine lv_istore (lv' := [(6, .int (-6)), (0, .ref v0), (1, .int v1), (2, .int v2), (3, .int v3), (4, .int v4), (5, .int v5)]) hx hb dX7_rain_68 hl (by decide) rfl (fun ls hl => ?_)
              refine lv_iload hx hb dX7_rain_70 (lv_at hl 0 rfl) ?_
              refine lv_if_eq (tgt := 82) hx hb dX7_rain_72 (by decide) (fun c => absurd c (by decide)) (fun _ => ?_)
              refine lv_aload_n hx hb dX7_rain_75 rfl (lv_at hl 1 rfl) ?_
              refine lv_iload hx hb dX7_rain_76 (lv_at hl 0 rfl) ?_
              refine hv_cVL (rm := rm_X7_lowestOf) (As := [.int (-6)]) (rest := []) (k := 1) (ci := 7) hx hb hml hown hKK hH cf7 k1 (m_X7_lowestOf v0 (-6) _ _ hw) cw_X7_387 ⟨Nat.le_of_ble_eq_true rfl, Nat.le_of_ble_eq_true rfl⟩ rfl hl.1 rfl (Nat.le_of_ble_eq_true rfl) ⟨Nat.le_of_ble_eq_true rfl, Nat.le_of_ble_eq_true rfl⟩ dX7_rain_78 (fun r26 h25 H locs hH hw => ?_)
              exact hv_lret hx hb hr hlk hH hw dX7_rain_81
        · have hw := ite_f hw c15
          refine lv_bipush (v := (-4)) hx hb dX7_rain_29 (by decide) ?_
          refine lv_goto (tgt := 68) hx hb dX7_rain_31 (by decide) ?_
          refine lv_istore (lv' := [(6, .int (-4)), (0, .ref v0), (1, .int v1), (2, .int v2), (3, .int v3), (4, .int v4), (5, .int v5)]) hx hb dX7_rain_68 hl (by decide) rfl (fun ls hl => ?_)
          refine lv_iload hx hb dX7_rain_70 (lv_at hl 0 rfl) ?_
          refine lv_if_eq (tgt := 82) hx hb dX7_rain_72 (by decide) (fun c => absurd c (by decide)) (fun _ => ?_)
          refine lv_aload_n hx hb dX7_rain_75 rfl (lv_at hl 1 rfl) ?_
          refine lv_iload hx hb dX7_rain_76 (lv_at hl 0 rfl) ?_
          refine hv_cVL (rm := rm_X7_lowestOf) (As := [.int (-4)]) (rest := []) (k := 1) (ci := 7) hx hb hml hown hKK hH cf7 k1 (m_X7_lowestOf v0 (-4) _ _ hw) cw_X7_387 ⟨Nat.le_of_ble_eq_true rfl, Nat.le_of_ble_eq_true rfl⟩ rfl hl.1 rfl (Nat.le_of_ble_eq_true rfl) ⟨Nat.le_of_ble_eq_true rfl, Nat.le_of_ble_eq_true rfl⟩ dX7_rain_78 (fun r28 h27 H locs hH hw => ?_)
          exact hv_lret hx hb hr hlk hH hw dX7_rain_81
    · have hw := ite_t hw c9
      refine lv_iconst (v := (-1)) hx hb dX7_rain_15 (by decide) ?_
      refine lv_goto (tgt := 68) hx hb dX7_rain_16 (by decide) ?_
      refine lv_istore (lv' := [(6, .int (-1)), (0, .ref v0), (1, .int v1), (2, .int v2), (3, .int v3), (4, .int v4), (5, .int v5)]) hx hb dX7_rain_68 hl (by decide) rfl (fun ls hl => ?_)
      refine lv_iload hx hb dX7_rain_70 (lv_at hl 0 rfl) ?_
      refine lv_if_eq (tgt := 82) hx hb dX7_rain_72 (by decide) (fun c => absurd c (by decide)) (fun _ => ?_)
      refine lv_aload_n hx hb dX7_rain_75 rfl (lv_at hl 1 rfl) ?_
      refine lv_iload hx hb dX7_rain_76 (lv_at hl 0 rfl) ?_
      refine hv_cVL (rm := rm_X7_lowestOf) (As := [.int (-1)]) (rest := []) (k := 1) (ci := 7) hx hb hml hown hKK hH cf7 k1 (m_X7_lowestOf v0 (-1) _ _ hw) cw_X7_387 ⟨Nat.le_of_ble_eq_true rfl, Nat.le_of_ble_eq_true rfl⟩ rfl hl.1 rfl (Nat.le_of_ble_eq_true rfl) ⟨Nat.le_of_ble_eq_true rfl, Nat.le_of_ble_eq_true rfl⟩ dX7_rain_78 (fun r11 h10 H locs hH hw => ?_)
      exact hv_lret hx hb hr hlk hH hw dX7_rain_81
abbrev rm_X7_lettersOf : Room := { frames := 0, cells := 0, slots := 0, locals := 0 }
set_option maxHeartbeats 4000000 in
set_option maxRecDepth 100000 in
theorem m_X7_lettersOf {l : Launch} {G : Gl} {B sz : Nat} {S : St} (v0 : Nat) (v1 : Int32) (h : Hp) (Q : Int32 → Hp → Prop) (hw : w_X7_lettersOf S v0 v1 h Q) : MI l G B sz S yX7_lettersOf cX7_lettersOf 4 .int rm_X7_lettersOf [.ref v0, .int v1] h Q := by
  refine met_of rfl rfl ?_
  intro p e s m args below meth c hMB H ls hH hl
  obtain ⟨hx, hb, hml, hown, hKK, hr, hlk⟩ := hMB
  replace hl : lv_has ls 4 [(0, .ref v0), (1, .int v1)] := hl
  have c4 : ∀  (v0 : Nat) (v1 : Int32) (v2 : Int32) (v3 : Int32) (h : Hp) (H : Heap) (locs : List Loc) (ls : Array Slot), HH G B S h sz s H locs → lv_has ls 4 [(0, .ref v0), (1, .int v1), (2, .int v2), (3, .int v3)] → w_X7_lettersOf_c4 S v0 v1 v2 v3 h Q → W p l e rm_X7_lettersOf s m args below meth c H locs 0 0 (QI G B S sz below args s Q) (F0 m 4 ls []) := by
    intro  v0 v1 v2 v3 h H locs ls hH hl hw
    unfold w_X7_lettersOf_c4 at hw
    obtain ⟨P4, hP4⟩ : ∃ P : Int32 → Int32 → Hp → Prop, ∀ (v2 : Int32) (v3 : Int32) (h : Hp), P v2 v3 h ↔ (∀ (H : Heap) (locs : List Loc) (ls : Array Slot), HH G B S h sz s H locs → lv_has ls 4 [(0, .ref v0), (1, .int v1), (2, .int v2), (3, .int v3)] → W p l e rm_X7_lettersOf s m args below meth c H locs 0 0 (QI G B S sz below args s Q) (F0 m 4 ls [])) := ⟨_, fun v2 v3 h => Iff.rfl⟩
    refine (hP4 v2 v3 h).1 (hw P4 (fun v2 v3 h hw => (hP4 v2 v3 h).2 (fun H locs ls hH hl => ?_))) H locs ls hH hl
    have hK4 : ∀ (v2 : Int32) (v3 : Int32) (h : Hp) (H : Heap) (locs : List Loc) (ls : Array Slot), HH G B S h sz s H locs → lv_has ls 4 [(0, .ref v0), (1, .int v1), (2, .int v2), (3, .int v3)] → P4 v2 v3 h → W p l e rm_X7_lettersOf s m args below meth c H locs 0 0 (QI G B S sz below args s Q) (F0 m 4 ls []) := fun v2 v3 h H locs ls hH hl hk => (hP4 v2 v3 h).1 hk H locs ls hH hl
    refine lv_iload_n hx hb dX7_lettersOf_4 rfl (lv_at hl 3 rfl) ?_
    refine lv_aload_n hx hb dX7_lettersOf_5 rfl (lv_at hl 0 rfl) ?_
    obtain ⟨k1, hw⟩ := hw
    refine hv_get (ci := 7) (k := 11) (v := .ref (S.2 v0 11)) hx hb hown hKK hH cf7 (by decide) fl_X7_43 rfl k1 rfl dX7_lettersOf_6 ?_
    refine lv_iload_n hx hb dX7_lettersOf_9 rfl (lv_at hl 1 rfl) ?_
    obtain ⟨k2, hw⟩ := hw
    refine hv_iald hx hb hKK hH k2 dX7_lettersOf_10 ?_
    refine lv_icmp_ge (tgt := 36) hx hb dX7_lettersOf_11 (by decide) (fun c3 => ?_) (fun c3 => ?_)
    · have hw := ite_t hw c3
      refine lv_iload_n hx hb dX7_lettersOf_36 rfl (lv_at hl 2 rfl) ?_
      exact hv_iret hx hb hr hlk hH hw dX7_lettersOf_37
    · have hw := ite_f hw c3
      refine lv_iload_n hx hb dX7_lettersOf_14 rfl (lv_at hl 2 rfl) ?_
      refine lv_iconst (v := (nI 1)) hx hb dX7_lettersOf_15 (by decide) ?_
      refine lv_aload_n hx hb dX7_lettersOf_16 rfl (lv_at hl 0 rfl) ?_
      refine hv_get (ci := 7) (k := 12) (v := .ref (S.2 v0 12)) hx hb hown hKK hH cf7 (by decide) fl_X7_46 rfl k1 rfl dX7_lettersOf_17 ?_
      refine lv_bipush (v := (nI 6)) hx hb dX7_lettersOf_20 (by decide) ?_
      refine lv_iload_n hx hb dX7_lettersOf_22 rfl (lv_at hl 1 rfl) ?_
      refine lv_imul hx hb dX7_lettersOf_23 ?_
      refine lv_iload_n hx hb dX7_lettersOf_24 rfl (lv_at hl 3 rfl) ?_
      refine lv_iadd hx hb dX7_lettersOf_25 ?_
      obtain ⟨k4, hw⟩ := hw
      refine hv_iald hx hb hKK hH k4 dX7_lettersOf_26 ?_
      refine lv_ishl hx hb dX7_lettersOf_27 ?_
      refine lv_ior hx hb dX7_lettersOf_28 ?_
      refine lv_istore_n (lv' := [(2, .int (v2 ||| (ishl (nI 1) (h (S.2 v0 12) (ix (((nI 6) * v1) + v3)))))), (0, .ref v0), (1, .int v1), (3, .int v3)]) hx hb dX7_lettersOf_29 rfl hl (by decide) rfl (fun ls hl => ?_)
      refine lv_iinc (v := v3 + (nI 1)) (lv' := [(3, .int (v3 + (nI 1))), (2, .int (v2 ||| (ishl (nI 1) (h (S.2 v0 12) (ix (((nI 6) * v1) + v3)))))), (0, .ref v0), (1, .int v1)]) hx hb dX7_lettersOf_30 hl (k := 3) rfl rfl (by decide) rfl (fun ls hl => ?_)
      refine lv_goto (tgt := 4) hx hb dX7_lettersOf_33 (by decide) ?_
      exact hK4 _ _ _ H locs ls hH (lv_sub hl [2, 3, 1, 0] rfl) hw
  unfold w_X7_lettersOf at hw
  show W p l e rm_X7_lettersOf s m args below meth c H [] 0 0 (QI G B S sz below args s Q) (F0 m 0 ls [])
  generalize ([] : List Loc) = locs at hH ⊢
  refine lv_iconst (v := (nI 0)) hx hb dX7_lettersOf_0 (by decide) ?_
  refine lv_istore_n (lv' := [(2, .int (nI 0)), (0, .ref v0), (1, .int v1)]) hx hb dX7_lettersOf_1 rfl hl (by decide) rfl (fun ls hl => ?_)
  refine lv_iconst (v := (nI 0)) hx hb dX7_lettersOf_2 (by decide) ?_
  refine lv_istore_n (lv' := [(3, .int (nI 0)), (2, .int (nI 0)), (0, .ref v0), (1, .int v1)]) hx hb dX7_lettersOf_3 rfl hl (by decide) rfl (fun ls hl => ?_)
  exact c4 _ _ _ _ _ H locs ls hH (lv_sub hl [2, 3, 1, 0] rfl) hw
abbrev rm_X7_samePlaces : Room := { frames := 0, cells := 0, slots := 0, locals := 0 }
set_option maxHeartbeats 4000000 in
set_option maxRecDepth 100000 in
theorem m_X7_samePlaces {l : Launch} {G : Gl} {B sz : Nat} {S : St} (v0 : Nat) (v1 : Int32) (v2 : Int32) (h : Hp) (Q : Int32 → Hp → Prop) (hw : w_X7_samePlaces S v0 v1 v2 h Q) : MI l G B sz S yX7_samePlaces cX7_samePlaces 5 .int rm_X7_samePlaces [.ref v0, .int v1, .int v2] h Q := by
  refine met_of rfl rfl ?_
  intro p e s m args below meth c hMB H ls hH hl
  obtain ⟨hx, hb, hml, hown, hKK, hr, hlk⟩ := hMB
  replace hl : lv_has ls 5 [(0, .ref v0), (1, .int v1), (2, .int v2)] := hl
  have c5 : ∀  (v0 : Nat) (v1 : Int32) (v2 : Int32) (v3 : Int32) (v4 : Int32) (h : Hp) (H : Heap) (locs : List Loc) (ls : Array Slot), HH G B S h sz s H locs → lv_has ls 5 [(0, .ref v0), (1, .int v1), (2, .int v2), (3, .int v3), (4, .int v4)] → w_X7_samePlaces_c5 S v0 v1 v2 v3 v4 h Q → W p l e rm_X7_samePlaces s m args below meth c H locs 0 0 (QI G B S sz below args s Q) (F0 m 5 ls []) := by
    intro  v0 v1 v2 v3 v4 h H locs ls hH hl hw
    unfold w_X7_samePlaces_c5 at hw
    obtain ⟨P5, hP5⟩ : ∃ P : Int32 → Int32 → Hp → Prop, ∀ (v3 : Int32) (v4 : Int32) (h : Hp), P v3 v4 h ↔ (∀ (H : Heap) (locs : List Loc) (ls : Array Slot), HH G B S h sz s H locs → lv_has ls 5 [(0, .ref v0), (1, .int v1), (2, .int v2), (3, .int v3), (4, .int v4)] → W p l e rm_X7_samePlaces s m args below meth c H locs 0 0 (QI G B S sz below args s Q) (F0 m 5 ls [])) := ⟨_, fun v3 v4 h => Iff.rfl⟩
    refine (hP5 v3 v4 h).1 (hw P5 (fun v3 v4 h hw => (hP5 v3 v4 h).2 (fun H locs ls hH hl => ?_))) H locs ls hH hl
    have hK5 : ∀ (v3 : Int32) (v4 : Int32) (h : Hp) (H : Heap) (locs : List Loc) (ls : Array Slot), HH G B S h sz s H locs → lv_has ls 5 [(0, .ref v0), (1, .int v1), (2, .int v2), (3, .int v3), (4, .int v4)] → P5 v3 v4 h → W p l e rm_X7_samePlaces s m args below meth c H locs 0 0 (QI G B S sz below args s Q) (F0 m 5 ls []) := fun v3 v4 h H locs ls hH hl hk => (hP5 v3 v4 h).1 hk H locs ls hH hl
    refine lv_iload hx hb dX7_samePlaces_5 (lv_at hl 4 rfl) ?_
    refine lv_aload_n hx hb dX7_samePlaces_7 rfl (lv_at hl 0 rfl) ?_
    obtain ⟨k1, hw⟩ := hw
    refine hv_get (ci := 7) (k := 11) (v := .ref (S.2 v0 11)) hx hb hown hKK hH cf7 (by decide) fl_X7_43 rfl k1 rfl dX7_samePlaces_8 ?_
    refine lv_iload_n hx hb dX7_samePlaces_11 rfl (lv_at hl 1 rfl) ?_
    obtain ⟨k2, hw⟩ := hw
    refine hv_iald hx hb hKK hH k2 dX7_samePlaces_12 ?_
    refine lv_icmp_ge (tgt := 68) hx hb dX7_samePlaces_13 (by decide) (fun c3 => ?_) (fun c3 => ?_)
    · have hw := ite_t hw c3
      refine lv_iload_n hx hb dX7_samePlaces_68 rfl (lv_at hl 3 rfl) ?_
      exact hv_iret hx hb hr hlk hH hw dX7_samePlaces_69
    · have hw := ite_f hw c3
      refine lv_iload hx hb dX7_samePlaces_16 (lv_at hl 4 rfl) ?_
      refine lv_aload_n hx hb dX7_samePlaces_18 rfl (lv_at hl 0 rfl) ?_
      refine hv_get (ci := 7) (k := 11) (v := .ref (S.2 v0 11)) hx hb hown hKK hH cf7 (by decide) fl_X7_43 rfl k1 rfl dX7_samePlaces_19 ?_
      refine lv_iload_n hx hb dX7_samePlaces_22 rfl (lv_at hl 2 rfl) ?_
      obtain ⟨k4, hw⟩ := hw
      refine hv_iald hx hb hKK hH k4 dX7_samePlaces_23 ?_
      refine lv_icmp_ge (tgt := 68) hx hb dX7_samePlaces_24 (by decide) (fun c5 => ?_) (fun c5 => ?_)
      · have hw := ite_t hw c5
        refine lv_iload_n hx hb dX7_samePlaces_68 rfl (lv_at hl 3 rfl) ?_
        exact hv_iret hx hb hr hlk hH hw dX7_samePlaces_69
      · have hw := ite_f hw c5
        refine lv_iload_n hx hb dX7_samePlaces_27 rfl (lv_at hl 3 rfl) ?_
        refine lv_aload_n hx hb dX7_samePlaces_28 rfl (lv_at hl 0 rfl) ?_
        refine hv_get (ci := 7) (k := 12) (v := .ref (S.2 v0 12)) hx hb hown hKK hH cf7 (by decide) fl_X7_46 rfl k1 rfl dX7_samePlaces_29 ?_
        refine lv_bipush (v := (nI 6)) hx hb dX7_samePlaces_32 (by decide) ?_
        refine lv_iload_n hx hb dX7_samePlaces_34 rfl (lv_at hl 1 rfl) ?_
        refine lv_imul hx hb dX7_samePlaces_35 ?_
        refine lv_iload hx hb dX7_samePlaces_36 (lv_at hl 4 rfl) ?_
        refine lv_iadd hx hb dX7_samePlaces_38 ?_
        obtain ⟨k6, hw⟩ := hw
        refine hv_iald hx hb hKK hH k6 dX7_samePlaces_39 ?_
        refine lv_aload_n hx hb dX7_samePlaces_40 rfl (lv_at hl 0 rfl) ?_
        refine hv_get (ci := 7) (k := 12) (v := .ref (S.2 v0 12)) hx hb hown hKK hH cf7 (by decide) fl_X7_46 rfl k1 rfl dX7_samePlaces_41 ?_
        refine lv_bipush (v := (nI 6)) hx hb dX7_samePlaces_44 (by decide) ?_
        refine lv_iload_n hx hb dX7_samePlaces_46 rfl (lv_at hl 2 rfl) ?_
        refine lv_imul hx hb dX7_samePlaces_47 ?_
        refine lv_iload hx hb dX7_samePlaces_48 (lv_at hl 4 rfl) ?_
        refine lv_iadd hx hb dX7_samePlaces_50 ?_
        obtain ⟨k7, hw⟩ := hw
        refine hv_iald hx hb hKK hH k7 dX7_samePlaces_51 ?_
        refine lv_icmp_ne (tgt := 59) hx hb dX7_samePlaces_52 (by decide) (fun c8 => ?_) (fun c8 => ?_)
        · have hw := ite_f hw c8
          refine lv_iconst (v := (nI 0)) hx hb dX7_samePlaces_59 (by decide) ?_
          refine lv_iadd hx hb dX7_samePlaces_60 ?_
          refine lv_istore_n (lv' := [(3, .int (v3 + (nI 0))), (0, .ref v0), (1, .int v1), (2, .int v2), (4, .int v4)]) hx hb dX7_samePlaces_61 rfl hl (by decide) rfl (fun ls hl => ?_)
          refine lv_iinc (v := v4 + (nI 1)) (lv' := [(4, .int (v4 + (nI 1))), (3, .int (v3 + (nI 0))), (0, .ref v0), (1, .int v1), (2, .int v2)]) hx hb dX7_samePlaces_62 hl (k := 4) rfl rfl (by decide) rfl (fun ls hl => ?_)
          refine lv_goto (tgt := 5) hx hb dX7_samePlaces_65 (by decide) ?_
          exact hK5 _ _ _ H locs ls hH (lv_sub hl [2, 3, 4, 1, 0] rfl) hw
        · have hw := ite_t hw c8
          refine lv_iconst (v := (nI 1)) hx hb dX7_samePlaces_55 (by decide) ?_
          refine lv_goto (tgt := 60) hx hb dX7_samePlaces_56 (by decide) ?_
          refine lv_iadd hx hb dX7_samePlaces_60 ?_
          refine lv_istore_n (lv' := [(3, .int (v3 + (nI 1))), (0, .ref v0), (1, .int v1), (2, .int v2), (4, .int v4)]) hx hb dX7_samePlaces_61 rfl hl (by decide) rfl (fun ls hl => ?_)
          refine lv_iinc (v := v4 + (nI 1)) (lv' := [(4, .int (v4 + (nI 1))), (3, .int (v3 + (nI 1))), (0, .ref v0), (1, .int v1), (2, .int v2)]) hx hb dX7_samePlaces_62 hl (k := 4) rfl rfl (by decide) rfl (fun ls hl => ?_)
          refine lv_goto (tgt := 5) hx hb dX7_samePlaces_65 (by decide) ?_
          exact hK5 _ _ _ H locs ls hH (lv_sub hl [2, 3, 4, 1, 0] rfl) hw
  unfold w_X7_samePlaces at hw
  show W p l e rm_X7_samePlaces s m args below meth c H [] 0 0 (QI G B S sz below args s Q) (F0 m 0 ls [])
  generalize ([] : List Loc) = locs at hH ⊢
  refine lv_iconst (v := (nI 0)) hx hb dX7_samePlaces_0 (by decide) ?_
  refine lv_istore_n (lv' := [(3, .int (nI 0)), (0, .ref v0), (1, .int v1), (2, .int v2)]) hx hb dX7_samePlaces_1 rfl hl (by decide) rfl (fun ls hl => ?_)
  refine lv_iconst (v := (nI 0)) hx hb dX7_samePlaces_2 (by decide) ?_
  refine lv_istore (lv' := [(4, .int (nI 0)), (3, .int (nI 0)), (0, .ref v0), (1, .int v1), (2, .int v2)]) hx hb dX7_samePlaces_3 hl (by decide) rfl (fun ls hl => ?_)
  exact c5 _ _ _ _ _ _ H locs ls hH (lv_sub hl [2, 3, 4, 1, 0] rfl) hw
abbrev rm_X7_like : Room := { frames := 3, cells := 0, slots := 0, locals := 65 }
set_option maxHeartbeats 4000000 in
set_option maxRecDepth 100000 in
theorem m_X7_like {l : Launch} {G : Gl} {B sz : Nat} {S : St} (v0 : Nat) (v1 : Int32) (v2 : Int32) (v3 : Int32) (h : Hp) (Q : Int32 → Hp → Prop) (hw : w_X7_like S v0 v1 v2 v3 h Q) : MI l G B sz S yX7_like cX7_like 5 .int rm_X7_like [.ref v0, .int v1, .int v2, .int v3] h Q := by
  refine met_of rfl rfl ?_
  intro p e s m args below meth c hMB H ls hH hl
  obtain ⟨hx, hb, hml, hown, hKK, hr, hlk⟩ := hMB
  replace hl : lv_has ls 5 [(0, .ref v0), (1, .int v1), (2, .int v2), (3, .int v3)] := hl
  have c28 : ∀  (v0 : Nat) (v1 : Int32) (v2 : Int32) (v3 : Int32) (s0 : Int32) (h : Hp) (H : Heap) (locs : List Loc) (ls : Array Slot), HH G B S h sz s H locs → lv_has ls 5 [(0, .ref v0), (1, .int v1), (2, .int v2), (3, .int v3)] → w_X7_like_c28 S v0 v1 v2 v3 s0 h Q → W p l e rm_X7_like s m args below meth c H locs 0 0 (QI G B S sz below args s Q) (F0 m 28 ls [.int s0]) := by
    intro  v0 v1 v2 v3 s0 h H locs ls hH hl hw
    unfold w_X7_like_c28 at hw
    refine lv_istore (lv' := [(4, .int s0), (0, .ref v0), (1, .int v1), (2, .int v2), (3, .int v3)]) hx hb dX7_like_28 hl (by decide) rfl (fun ls hl => ?_)
    refine lv_iload hx hb dX7_like_30 (lv_at hl 0 rfl) ?_
    refine lv_if_eq (tgt := 42) hx hb dX7_like_32 (by decide) (fun c1 => ?_) (fun c1 => ?_)
    · have hw := ite_t hw c1
      refine lv_iload_n hx hb dX7_like_42 rfl (lv_at hl 4 rfl) ?_
      refine lv_if_ne (tgt := 55) hx hb dX7_like_43 (by decide) (fun c2 => ?_) (fun c2 => ?_)
      · have hw := ite_f hw c2
        refine lv_iload_n hx hb dX7_like_55 rfl (lv_at hl 4 rfl) ?_
        refine lv_iconst (v := (nI 1)) hx hb dX7_like_56 (by decide) ?_
        refine lv_icmp_ne (tgt := 69) hx hb dX7_like_57 (by decide) (fun c6 => ?_) (fun c6 => ?_)
        · have hw := ite_f hw c6
          refine lv_aload_n hx hb dX7_like_69 rfl (lv_at hl 1 rfl) ?_
          refine lv_iload_n hx hb dX7_like_70 rfl (lv_at hl 2 rfl) ?_
          obtain ⟨k10, hw⟩ := hw
          refine hv_cVI (rm := rm_X7_lettersOf) (As := [.int v1]) (rest := []) (k := 1) (ci := 7) hx hb hml hown hKK hH cf7 k10 (m_X7_lettersOf v0 v1 _ _ hw) cw_X7_398 ⟨Nat.le_of_ble_eq_true rfl, Nat.le_of_ble_eq_true rfl⟩ rfl hl.1 rfl (Nat.le_of_ble_eq_true rfl) ⟨Nat.le_of_ble_eq_true rfl, Nat.le_of_ble_eq_true rfl⟩ dX7_like_71 (fun r12 h11 H locs hH hw => ?_)
          refine lv_aload_n hx hb dX7_like_74 rfl (lv_at hl 1 rfl) ?_
          refine lv_iload_n hx hb dX7_like_75 rfl (lv_at hl 3 rfl) ?_
          refine hv_cVI (rm := rm_X7_lettersOf) (As := [.int v2]) (rest := [.int r12]) (k := 1) (ci := 7) hx hb hml hown hKK hH cf7 k10 (m_X7_lettersOf v0 v2 _ _ hw) cw_X7_398 ⟨Nat.le_of_ble_eq_true rfl, Nat.le_of_ble_eq_true rfl⟩ rfl hl.1 rfl (Nat.le_of_ble_eq_true rfl) ⟨Nat.le_of_ble_eq_true rfl, Nat.le_of_ble_eq_true rfl⟩ dX7_like_76 (fun r14 h13 H locs hH hw => ?_)
          refine lv_iand hx hb dX7_like_79 ?_
          refine hv_cSI (rm := rm_X7_bits) (As := [.int (r12 &&& r14)]) (rest := []) (k := 1) hx hb hml hown hKK hH (m_X7_bits (r12 &&& r14) _ _ hw) cw_X7_401 ⟨Nat.le_of_ble_eq_true rfl, Nat.le_of_ble_eq_true rfl⟩ rfl hl.1 rfl (Nat.le_of_ble_eq_true rfl) ⟨Nat.le_of_ble_eq_true rfl, Nat.le_of_ble_eq_true rfl⟩ dX7_like_80 (fun r16 h15 H locs hH hw => ?_)
          exact hv_iret hx hb hr hlk hH hw dX7_like_83
        · have hw := ite_t hw c6
          refine lv_aload_n hx hb dX7_like_60 rfl (lv_at hl 1 rfl) ?_
          refine lv_iload_n hx hb dX7_like_61 rfl (lv_at hl 2 rfl) ?_
          refine lv_iload_n hx hb dX7_like_62 rfl (lv_at hl 3 rfl) ?_
          obtain ⟨k7, hw⟩ := hw
          refine hv_cVI (rm := rm_X7_sameFrom) (As := [.int v1, .int v2]) (rest := []) (k := 2) (ci := 7) hx hb hml hown hKK hH cf7 k7 (m_X7_sameFrom v0 v1 v2 _ _ hw) cw_X7_118 ⟨Nat.le_of_ble_eq_true rfl, Nat.le_of_ble_eq_true rfl⟩ rfl hl.1 rfl (Nat.le_of_ble_eq_true rfl) ⟨Nat.le_of_ble_eq_true rfl, Nat.le_of_ble_eq_true rfl⟩ dX7_like_63 (fun r9 h8 H locs hH hw => ?_)
          refine lv_goto (tgt := 83) hx hb dX7_like_66 (by decide) ?_
          exact hv_iret hx hb hr hlk hH hw dX7_like_83
      · have hw := ite_t hw c2
        refine lv_aload_n hx hb dX7_like_46 rfl (lv_at hl 1 rfl) ?_
        refine lv_iload_n hx hb dX7_like_47 rfl (lv_at hl 2 rfl) ?_
        refine lv_iload_n hx hb dX7_like_48 rfl (lv_at hl 3 rfl) ?_
        obtain ⟨k3, hw⟩ := hw
        refine hv_cVI (rm := rm_X7_samePlaces) (As := [.int v1, .int v2]) (rest := []) (k := 2) (ci := 7) hx hb hml hown hKK hH cf7 k3 (m_X7_samePlaces v0 v1 v2 _ _ hw) cw_X7_395 ⟨Nat.le_of_ble_eq_true rfl, Nat.le_of_ble_eq_true rfl⟩ rfl hl.1 rfl (Nat.le_of_ble_eq_true rfl) ⟨Nat.le_of_ble_eq_true rfl, Nat.le_of_ble_eq_true rfl⟩ dX7_like_49 (fun r5 h4 H locs hH hw => ?_)
        refine lv_goto (tgt := 83) hx hb dX7_like_52 (by decide) ?_
        exact hv_iret hx hb hr hlk hH hw dX7_like_83
    · have hw := ite_f hw c1
      refine lv_aload_n hx hb dX7_like_35 rfl (lv_at hl 1 rfl) ?_
      refine lv_iload hx hb dX7_like_36 (lv_at hl 0 rfl) ?_
      obtain ⟨k17, hw⟩ := hw
      refine hv_cVI (rm := rm_X7_no) (As := [.int s0]) (rest := []) (k := 1) (ci := 7) hx hb hml hown hKK hH cf7 k17 (m_X7_no v0 s0 _ _ hw) cw_X7_170 ⟨Nat.le_of_ble_eq_true rfl, Nat.le_of_ble_eq_true rfl⟩ rfl hl.1 rfl (Nat.le_of_ble_eq_true rfl) ⟨Nat.le_of_ble_eq_true rfl, Nat.le_of_ble_eq_true rfl⟩ dX7_like_38 (fun r19 h18 H locs hH hw => ?_)
      exact hv_iret hx hb hr hlk hH hw dX7_like_41
  unfold w_X7_like at hw
  show W p l e rm_X7_like s m args below meth c H [] 0 0 (QI G B S sz below args s Q) (F0 m 0 ls [])
  generalize ([] : List Loc) = locs at hH ⊢
  refine lv_aload_n hx hb dX7_like_0 rfl (lv_at hl 0 rfl) ?_
  refine lv_iload_n hx hb dX7_like_1 rfl (lv_at hl 1 rfl) ?_
  refine lv_iload_n hx hb dX7_like_2 rfl (lv_at hl 2 rfl) ?_
  obtain ⟨k1, hw⟩ := hw
  refine hv_cVI (rm := rm_X7_areTwo) (As := [.int v1, .int v2]) (rest := []) (k := 2) (ci := 7) hx hb hml hown hKK hH cf7 k1 (m_X7_areTwo v0 v1 v2 _ _ hw) cw_X7_365 ⟨Nat.le_of_ble_eq_true rfl, Nat.le_of_ble_eq_true rfl⟩ rfl hl.1 rfl (Nat.le_of_ble_eq_true rfl) ⟨Nat.le_of_ble_eq_true rfl, Nat.le_of_ble_eq_true rfl⟩ dX7_like_3 (fun r3 h2 H locs hH hw => ?_)
  refine lv_if_ne (tgt := 13) hx hb dX7_like_6 (by decide) (fun c4 => ?_) (fun c4 => ?_)
  · have hw := ite_f hw c4
    refine lv_iload_n hx hb dX7_like_13 rfl (lv_at hl 3 rfl) ?_
    refine lv_iconst (v := (nI 0)) hx hb dX7_like_14 (by decide) ?_
    refine lv_iconst (v := (nI 2)) hx hb dX7_like_15 (by decide) ?_
    refine hv_cSI (rm := rm_X7_isIn) (As := [.int v3, .int (nI 0), .int (nI 2)]) (rest := []) (k := 3) hx hb hml hown hKK hH (m_X7_isIn v3 (nI 0) (nI 2) _ _ hw) cw_X7_85 ⟨Nat.le_of_ble_eq_true rfl, Nat.le_of_ble_eq_true rfl⟩ rfl hl.1 rfl (Nat.le_of_ble_eq_true rfl) ⟨Nat.le_of_ble_eq_true rfl, Nat.le_of_ble_eq_true rfl⟩ dX7_like_16 (fun r6 h5 H locs hH hw => ?_)
    refine lv_if_ne (tgt := 27) hx hb dX7_like_19 (by decide) (fun c7 => ?_) (fun c7 => ?_)
    · have hw := ite_f hw c7
      refine lv_iconst (v := (nI 0)) hx hb dX7_like_27 (by decide) ?_
      exact c28 _ _ _ _ _ _ H locs ls hH (lv_sub hl [0, 1, 2, 3] rfl) hw
    · have hw := ite_t hw c7
      refine lv_bipush (v := (-2)) hx hb dX7_like_22 (by decide) ?_
      refine lv_goto (tgt := 28) hx hb dX7_like_24 (by decide) ?_
      exact c28 _ _ _ _ _ _ H locs ls hH (lv_sub hl [0, 1, 2, 3] rfl) hw
  · have hw := ite_t hw c4
    refine lv_iconst (v := (-1)) hx hb dX7_like_9 (by decide) ?_
    refine lv_goto (tgt := 28) hx hb dX7_like_10 (by decide) ?_
    exact c28 _ _ _ _ _ _ H locs ls hH (lv_sub hl [0, 1, 2, 3] rfl) hw
abbrev rm_X7_rank : Room := { frames := 2, cells := 0, slots := 0, locals := 48 }
set_option maxHeartbeats 4000000 in
set_option maxRecDepth 100000 in
theorem m_X7_rank {l : Launch} {G : Gl} {B sz : Nat} {S : St} (v0 : Nat) (v1 : Int32) (h : Hp) (Q : Int32 → Hp → Prop) (hw : w_X7_rank S v0 v1 h Q) : MI l G B sz S yX7_rank cX7_rank 5 .int rm_X7_rank [.ref v0, .int v1] h Q := by
  refine met_of rfl rfl ?_
  intro p e s m args below meth c hMB H ls hH hl
  obtain ⟨hx, hb, hml, hown, hKK, hr, hlk⟩ := hMB
  replace hl : lv_has ls 5 [(0, .ref v0), (1, .int v1)] := hl
  have c18 : ∀  (v0 : Nat) (v1 : Int32) (v2 : Int32) (v3 : Int32) (h : Hp) (H : Heap) (locs : List Loc) (ls : Array Slot), HH G B S h sz s H locs → lv_has ls 5 [(0, .ref v0), (1, .int v1), (2, .int v2), (3, .int v3)] → w_X7_rank_c18 S v0 v1 v2 v3 h Q → W p l e rm_X7_rank s m args below meth c H locs 0 0 (QI G B S sz below args s Q) (F0 m 18 ls []) := by
    intro  v0 v1 v2 v3 h H locs ls hH hl hw
    unfold w_X7_rank_c18 at hw
    obtain ⟨P18, hP18⟩ : ∃ P : Int32 → Int32 → Hp → Prop, ∀ (v2 : Int32) (v3 : Int32) (h : Hp), P v2 v3 h ↔ (∀ (H : Heap) (locs : List Loc) (ls : Array Slot), HH G B S h sz s H locs → lv_has ls 5 [(0, .ref v0), (1, .int v1), (2, .int v2), (3, .int v3)] → W p l e rm_X7_rank s m args below meth c H locs 0 0 (QI G B S sz below args s Q) (F0 m 18 ls [])) := ⟨_, fun v2 v3 h => Iff.rfl⟩
    refine (hP18 v2 v3 h).1 (hw P18 (fun v2 v3 h hw => (hP18 v2 v3 h).2 (fun H locs ls hH hl => ?_))) H locs ls hH hl
    have hK18 : ∀ (v2 : Int32) (v3 : Int32) (h : Hp) (H : Heap) (locs : List Loc) (ls : Array Slot), HH G B S h sz s H locs → lv_has ls 5 [(0, .ref v0), (1, .int v1), (2, .int v2), (3, .int v3)] → P18 v2 v3 h → W p l e rm_X7_rank s m args below meth c H locs 0 0 (QI G B S sz below args s Q) (F0 m 18 ls []) := fun v2 v3 h H locs ls hH hl hk => (hP18 v2 v3 h).1 hk H locs ls hH hl
    refine lv_iload_n hx hb dX7_rank_18 rfl (lv_at hl 3 rfl) ?_
    refine lv_aload_n hx hb dX7_rank_19 rfl (lv_at hl 0 rfl) ?_
    obtain ⟨k1, hw⟩ := hw
    refine hv_get (ci := 7) (k := 13) (v := .int (h v0 13)) hx hb hown hKK hH cf7 (by decide) fl_X7_79 rfl k1 rfl dX7_rank_20 ?_
    refine lv_icmp_ge (tgt := 63) hx hb dX7_rank_23 (by decide) (fun c2 => ?_) (fun c2 => ?_)
    · have hw := ite_t hw c2
      refine lv_iload_n hx hb dX7_rank_63 rfl (lv_at hl 2 rfl) ?_
      exact hv_iret hx hb hr hlk hH hw dX7_rank_64
    · have hw := ite_f hw c2
      refine lv_aload_n hx hb dX7_rank_26 rfl (lv_at hl 0 rfl) ?_
      refine lv_iload_n hx hb dX7_rank_27 rfl (lv_at hl 3 rfl) ?_
      refine lv_iload_n hx hb dX7_rank_28 rfl (lv_at hl 1 rfl) ?_
      refine hv_cVI (rm := rm_X7_compares) (As := [.int v3, .int v1]) (rest := []) (k := 2) (ci := 7) hx hb hml hown hKK hH cf7 k1 (m_X7_compares v0 v3 v1 _ _ hw) cw_X7_121 ⟨Nat.le_of_ble_eq_true rfl, Nat.le_of_ble_eq_true rfl⟩ rfl hl.1 rfl (Nat.le_of_ble_eq_true rfl) ⟨Nat.le_of_ble_eq_true rfl, Nat.le_of_ble_eq_true rfl⟩ dX7_rank_29 (fun r4 h3 H locs hH hw => ?_)
      refine lv_istore (lv' := [(4, .int r4), (0, .ref v0), (1, .int v1), (2, .int v2), (3, .int v3)]) hx hb dX7_rank_32 hl (by decide) rfl (fun ls hl => ?_)
      refine lv_iload_n hx hb dX7_rank_34 rfl (lv_at hl 3 rfl) ?_
      refine lv_iload hx hb dX7_rank_35 (lv_at hl 0 rfl) ?_
      refine lv_if_lt (tgt := 50) hx hb dX7_rank_37 (by decide) (fun c5 => ?_) (fun c5 => ?_)
      · have hw := ite_t hw c5
        refine lv_iconst (v := (nI 1)) hx hb dX7_rank_50 (by decide) ?_
        refine lv_goto (tgt := 55) hx hb dX7_rank_51 (by decide) ?_
        refine lv_iadd hx hb dX7_rank_55 ?_
        refine lv_istore_n (lv' := [(2, .int (v2 + (nI 1))), (4, .int r4), (0, .ref v0), (1, .int v1), (3, .int v3)]) hx hb dX7_rank_56 rfl hl (by decide) rfl (fun ls hl => ?_)
        refine lv_iinc (v := v3 + (nI 1)) (lv' := [(3, .int (v3 + (nI 1))), (2, .int (v2 + (nI 1))), (4, .int r4), (0, .ref v0), (1, .int v1)]) hx hb dX7_rank_57 hl (k := 4) rfl rfl (by decide) rfl (fun ls hl => ?_)
        refine lv_goto (tgt := 18) hx hb dX7_rank_60 (by decide) ?_
        exact hK18 _ _ _ H locs ls hH (lv_sub hl [3, 4, 1, 0] rfl) hw
      · have hw := ite_f hw c5
        refine lv_iload hx hb dX7_rank_40 (lv_at hl 0 rfl) ?_
        refine lv_if_ne (tgt := 54) hx hb dX7_rank_42 (by decide) (fun c6 => ?_) (fun c6 => ?_)
        · have hw := ite_f hw c6
          refine lv_iconst (v := (nI 0)) hx hb dX7_rank_54 (by decide) ?_
          refine lv_iadd hx hb dX7_rank_55 ?_
          refine lv_istore_n (lv' := [(2, .int (v2 + (nI 0))), (4, .int r4), (0, .ref v0), (1, .int v1), (3, .int v3)]) hx hb dX7_rank_56 rfl hl (by decide) rfl (fun ls hl => ?_)
          refine lv_iinc (v := v3 + (nI 1)) (lv' := [(3, .int (v3 + (nI 1))), (2, .int (v2 + (nI 0))), (4, .int r4), (0, .ref v0), (1, .int v1)]) hx hb dX7_rank_57 hl (k := 4) rfl rfl (by decide) rfl (fun ls hl => ?_)
          refine lv_goto (tgt := 18) hx hb dX7_rank_60 (by decide) ?_
          exact hK18 _ _ _ H locs ls hH (lv_sub hl [3, 4, 1, 0] rfl) hw
        · have hw := ite_t hw c6
          refine lv_iload_n hx hb dX7_rank_45 rfl (lv_at hl 4 rfl) ?_
          refine lv_iload_n hx hb dX7_rank_46 rfl (lv_at hl 2 rfl) ?_
          refine lv_icmp_ge (tgt := 54) hx hb dX7_rank_47 (by decide) (fun c7 => ?_) (fun c7 => ?_)
          · have hw := ite_t hw c7
            refine lv_iconst (v := (nI 0)) hx hb dX7_rank_54 (by decide) ?_
            refine lv_iadd hx hb dX7_rank_55 ?_
            refine lv_istore_n (lv' := [(2, .int (v2 + (nI 0))), (4, .int r4), (0, .ref v0), (1, .int v1), (3, .int v3)]) hx hb dX7_rank_56 rfl hl (by decide) rfl (fun ls hl => ?_)
            refine lv_iinc (v := v3 + (nI 1)) (lv' := [(3, .int (v3 + (nI 1))), (2, .int (v2 + (nI 0))), (4, .int r4), (0, .ref v0), (1, .int v1)]) hx hb dX7_rank_57 hl (k := 4) rfl rfl (by decide) rfl (fun ls hl => ?_)
            refine lv_goto (tgt := 18) hx hb dX7_rank_60 (by decide) ?_
            exact hK18 _ _ _ H locs ls hH (lv_sub hl [3, 4, 1, 0] rfl) hw
          · have hw := ite_f hw c7
            refine lv_iconst (v := (nI 1)) hx hb dX7_rank_50 (by decide) ?_
            refine lv_goto (tgt := 55) hx hb dX7_rank_51 (by decide) ?_
            refine lv_iadd hx hb dX7_rank_55 ?_
            refine lv_istore_n (lv' := [(2, .int (v2 + (nI 1))), (4, .int r4), (0, .ref v0), (1, .int v1), (3, .int v3)]) hx hb dX7_rank_56 rfl hl (by decide) rfl (fun ls hl => ?_)
            refine lv_iinc (v := v3 + (nI 1)) (lv' := [(3, .int (v3 + (nI 1))), (2, .int (v2 + (nI 1))), (4, .int r4), (0, .ref v0), (1, .int v1)]) hx hb dX7_rank_57 hl (k := 4) rfl rfl (by decide) rfl (fun ls hl => ?_)
            refine lv_goto (tgt := 18) hx hb dX7_rank_60 (by decide) ?_
            exact hK18 _ _ _ H locs ls hH (lv_sub hl [3, 4, 1, 0] rfl) hw
  unfold w_X7_rank at hw
  show W p l e rm_X7_rank s m args below meth c H [] 0 0 (QI G B S sz below args s Q) (F0 m 0 ls [])
  generalize ([] : List Loc) = locs at hH ⊢
  refine lv_aload_n hx hb dX7_rank_0 rfl (lv_at hl 0 rfl) ?_
  refine lv_iload_n hx hb dX7_rank_1 rfl (lv_at hl 1 rfl) ?_
  obtain ⟨k1, hw⟩ := hw
  refine hv_cVI (rm := rm_X7_isHead) (As := [.int v1]) (rest := []) (k := 1) (ci := 7) hx hb hml hown hKK hH cf7 k1 (m_X7_isHead v0 v1 _ _ hw) cw_X7_89 ⟨Nat.le_of_ble_eq_true rfl, Nat.le_of_ble_eq_true rfl⟩ rfl hl.1 rfl (Nat.le_of_ble_eq_true rfl) ⟨Nat.le_of_ble_eq_true rfl, Nat.le_of_ble_eq_true rfl⟩ dX7_rank_2 (fun r3 h2 H locs hH hw => ?_)
  refine lv_if_ne (tgt := 14) hx hb dX7_rank_5 (by decide) (fun c4 => ?_) (fun c4 => ?_)
  · have hw := ite_f hw c4
    refine lv_iconst (v := (nI 0)) hx hb dX7_rank_14 (by decide) ?_
    refine lv_istore_n (lv' := [(2, .int (nI 0)), (0, .ref v0), (1, .int v1)]) hx hb dX7_rank_15 rfl hl (by decide) rfl (fun ls hl => ?_)
    refine lv_iconst (v := (nI 0)) hx hb dX7_rank_16 (by decide) ?_
    refine lv_istore_n (lv' := [(3, .int (nI 0)), (2, .int (nI 0)), (0, .ref v0), (1, .int v1)]) hx hb dX7_rank_17 rfl hl (by decide) rfl (fun ls hl => ?_)
    exact c18 _ _ _ _ _ H locs ls hH (lv_sub hl [2, 3, 1, 0] rfl) hw
  · have hw := ite_t hw c4
    refine lv_aload_n hx hb dX7_rank_8 rfl (lv_at hl 0 rfl) ?_
    refine lv_iconst (v := (-1)) hx hb dX7_rank_9 (by decide) ?_
    refine hv_cVI (rm := rm_X7_no) (As := [.int (-1)]) (rest := []) (k := 1) (ci := 7) hx hb hml hown hKK hH cf7 k1 (m_X7_no v0 (-1) _ _ hw) cw_X7_170 ⟨Nat.le_of_ble_eq_true rfl, Nat.le_of_ble_eq_true rfl⟩ rfl hl.1 rfl (Nat.le_of_ble_eq_true rfl) ⟨Nat.le_of_ble_eq_true rfl, Nat.le_of_ble_eq_true rfl⟩ dX7_rank_10 (fun r6 h5 H locs hH hw => ?_)
    exact hv_iret hx hb hr hlk hH hw dX7_rank_13
abbrev rm_X7_digitsOf : Room := { frames := 0, cells := 0, slots := 0, locals := 0 }
set_option maxHeartbeats 4000000 in
set_option maxRecDepth 100000 in
theorem m_X7_digitsOf {l : Launch} {G : Gl} {B sz : Nat} {S : St} (v0 : Int32) (h : Hp) (Q : Int32 → Hp → Prop) (hw : w_X7_digitsOf S v0 h Q) : MI l G B sz S yX7_digitsOf cX7_digitsOf 1 .int rm_X7_digitsOf [.int v0] h Q := by
  refine met_of rfl rfl ?_
  intro p e s m args below meth c hMB H ls hH hl
  obtain ⟨hx, hb, hml, hown, hKK, hr, hlk⟩ := hMB
  replace hl : lv_has ls 1 [(0, .int v0)] := hl
  unfold w_X7_digitsOf at hw
  show W p l e rm_X7_digitsOf s m args below meth c H [] 0 0 (QI G B S sz below args s Q) (F0 m 0 ls [])
  generalize ([] : List Loc) = locs at hH ⊢
  refine lv_iload_n hx hb dX7_digitsOf_0 rfl (lv_at hl 0 rfl) ?_
  refine lv_bipush (v := (nI 10)) hx hb dX7_digitsOf_1 (by decide) ?_
  refine lv_icmp_ge (tgt := 10) hx hb dX7_digitsOf_3 (by decide) (fun c1 => ?_) (fun c1 => ?_)
  · have hw := ite_t hw c1
    refine lv_iconst (v := (nI 2)) hx hb dX7_digitsOf_10 (by decide) ?_
    exact hv_iret hx hb hr hlk hH hw dX7_digitsOf_11
  · have hw := ite_f hw c1
    refine lv_iconst (v := (nI 1)) hx hb dX7_digitsOf_6 (by decide) ?_
    refine lv_goto (tgt := 11) hx hb dX7_digitsOf_7 (by decide) ?_
    exact hv_iret hx hb hr hlk hH hw dX7_digitsOf_11
abbrev rm_X7_digitOf : Room := { frames := 1, cells := 0, slots := 0, locals := 20 }
set_option maxHeartbeats 4000000 in
set_option maxRecDepth 100000 in
theorem m_X7_digitOf {l : Launch} {G : Gl} {B sz : Nat} {S : St} (v0 : Int32) (v1 : Int32) (h : Hp) (Q : Int32 → Hp → Prop) (hw : w_X7_digitOf S v0 v1 h Q) : MI l G B sz S yX7_digitOf cX7_digitOf 2 .int rm_X7_digitOf [.int v0, .int v1] h Q := by
  refine met_of rfl rfl ?_
  intro p e s m args below meth c hMB H ls hH hl
  obtain ⟨hx, hb, hml, hown, hKK, hr, hlk⟩ := hMB
  replace hl : lv_has ls 2 [(0, .int v0), (1, .int v1)] := hl
  unfold w_X7_digitOf at hw
  show W p l e rm_X7_digitOf s m args below meth c H [] 0 0 (QI G B S sz below args s Q) (F0 m 0 ls [])
  generalize ([] : List Loc) = locs at hH ⊢
  refine lv_bipush (v := (nI 48)) hx hb dX7_digitOf_0 (by decide) ?_
  refine lv_iload_n hx hb dX7_digitOf_2 rfl (lv_at hl 0 rfl) ?_
  refine hv_cSI (rm := rm_X7_digitsOf) (As := [.int v0]) (rest := [.int (nI 48)]) (k := 1) hx hb hml hown hKK hH (m_X7_digitsOf v0 _ _ hw) cw_X7_404 ⟨Nat.le_of_ble_eq_true rfl, Nat.le_of_ble_eq_true rfl⟩ rfl hl.1 rfl (Nat.le_of_ble_eq_true rfl) ⟨Nat.le_of_ble_eq_true rfl, Nat.le_of_ble_eq_true rfl⟩ dX7_digitOf_3 (fun r2 h1 H locs hH hw => ?_)
  refine lv_iconst (v := (nI 1)) hx hb dX7_digitOf_6 (by decide) ?_
  refine lv_icmp_eq (tgt := 15) hx hb dX7_digitOf_7 (by decide) (fun c3 => ?_) (fun c3 => ?_)
  · have hw := ite_t hw c3
    refine lv_iload_n hx hb dX7_digitOf_15 rfl (lv_at hl 0 rfl) ?_
    refine lv_bipush (v := (nI 10)) hx hb dX7_digitOf_16 (by decide) ?_
    refine lv_irem hx hb dX7_digitOf_18 (by decide) ?_
    refine lv_goto (tgt := 26) hx hb dX7_digitOf_19 (by decide) ?_
    refine lv_iadd hx hb dX7_digitOf_26 ?_
    exact hv_iret hx hb hr hlk hH hw dX7_digitOf_27
  · have hw := ite_f hw c3
    refine lv_iload_n hx hb dX7_digitOf_10 rfl (lv_at hl 1 rfl) ?_
    refine lv_iconst (v := (nI 1)) hx hb dX7_digitOf_11 (by decide) ?_
    refine lv_icmp_ne (tgt := 22) hx hb dX7_digitOf_12 (by decide) (fun c4 => ?_) (fun c4 => ?_)
    · have hw := ite_f hw c4
      refine lv_iload_n hx hb dX7_digitOf_22 rfl (lv_at hl 0 rfl) ?_
      refine lv_bipush (v := (nI 10)) hx hb dX7_digitOf_23 (by decide) ?_
      refine lv_idiv hx hb dX7_digitOf_25 (by decide) ?_
      refine lv_iadd hx hb dX7_digitOf_26 ?_
      exact hv_iret hx hb hr hlk hH hw dX7_digitOf_27
    · have hw := ite_t hw c4
      refine lv_iload_n hx hb dX7_digitOf_15 rfl (lv_at hl 0 rfl) ?_
      refine lv_bipush (v := (nI 10)) hx hb dX7_digitOf_16 (by decide) ?_
      refine lv_irem hx hb dX7_digitOf_18 (by decide) ?_
      refine lv_goto (tgt := 26) hx hb dX7_digitOf_19 (by decide) ?_
      refine lv_iadd hx hb dX7_digitOf_26 ?_
      exact hv_iret hx hb hr hlk hH hw dX7_digitOf_27
abbrev rm_X7_sideOf : Room := { frames := 0, cells := 0, slots := 0, locals := 0 }
set_option maxHeartbeats 4000000 in
set_option maxRecDepth 100000 in
theorem m_X7_sideOf {l : Launch} {G : Gl} {B sz : Nat} {S : St} (v0 : Int32) (h : Hp) (Q : Int32 → Hp → Prop) (hw : w_X7_sideOf S v0 h Q) : MI l G B sz S yX7_sideOf cX7_sideOf 1 .int rm_X7_sideOf [.int v0] h Q := by
  refine met_of rfl rfl ?_
  intro p e s m args below meth c hMB H ls hH hl
  obtain ⟨hx, hb, hml, hown, hKK, hr, hlk⟩ := hMB
  replace hl : lv_has ls 1 [(0, .int v0)] := hl
  unfold w_X7_sideOf at hw
  show W p l e rm_X7_sideOf s m args below meth c H [] 0 0 (QI G B S sz below args s Q) (F0 m 0 ls [])
  generalize ([] : List Loc) = locs at hH ⊢
  refine lv_iload_n hx hb dX7_sideOf_0 rfl (lv_at hl 0 rfl) ?_
  refine lv_if_ne (tgt := 9) hx hb dX7_sideOf_1 (by decide) (fun c1 => ?_) (fun c1 => ?_)
  · have hw := ite_f hw c1
    refine lv_iload_n hx hb dX7_sideOf_9 rfl (lv_at hl 0 rfl) ?_
    refine lv_iconst (v := (nI 1)) hx hb dX7_sideOf_10 (by decide) ?_
    refine lv_icmp_ne (tgt := 19) hx hb dX7_sideOf_11 (by decide) (fun c2 => ?_) (fun c2 => ?_)
    · have hw := ite_f hw c2
      refine lv_iload_n hx hb dX7_sideOf_19 rfl (lv_at hl 0 rfl) ?_
      refine lv_iconst (v := (nI 2)) hx hb dX7_sideOf_20 (by decide) ?_
      refine lv_icmp_ne (tgt := 29) hx hb dX7_sideOf_21 (by decide) (fun c3 => ?_) (fun c3 => ?_)
      · have hw := ite_f hw c3
        refine lv_bipush (v := (nI 119)) hx hb dX7_sideOf_29 (by decide) ?_
        exact hv_iret hx hb hr hlk hH hw dX7_sideOf_31
      · have hw := ite_t hw c3
        refine lv_bipush (v := (nI 115)) hx hb dX7_sideOf_24 (by decide) ?_
        refine lv_goto (tgt := 31) hx hb dX7_sideOf_26 (by decide) ?_
        exact hv_iret hx hb hr hlk hH hw dX7_sideOf_31
    · have hw := ite_t hw c2
      refine lv_bipush (v := (nI 101)) hx hb dX7_sideOf_14 (by decide) ?_
      refine lv_goto (tgt := 31) hx hb dX7_sideOf_16 (by decide) ?_
      exact hv_iret hx hb hr hlk hH hw dX7_sideOf_31
  · have hw := ite_t hw c1
    refine lv_bipush (v := (nI 110)) hx hb dX7_sideOf_4 (by decide) ?_
    refine lv_goto (tgt := 31) hx hb dX7_sideOf_6 (by decide) ?_
    exact hv_iret hx hb hr hlk hH hw dX7_sideOf_31
abbrev rm_X7_lineAt : Room := { frames := 2, cells := 0, slots := 0, locals := 41 }
set_option maxHeartbeats 4000000 in
set_option maxRecDepth 100000 in
theorem m_X7_lineAt {l : Launch} {G : Gl} {B sz : Nat} {S : St} (v0 : Nat) (v1 : Int32) (v2 : Int32) (h : Hp) (Q : Int32 → Hp → Prop) (hw : w_X7_lineAt S v0 v1 v2 h Q) : MI l G B sz S yX7_lineAt cX7_lineAt 6 .int rm_X7_lineAt [.ref v0, .int v1, .int v2] h Q := by
  refine met_of rfl rfl ?_
  intro p e s m args below meth c hMB H ls hH hl
  obtain ⟨hx, hb, hml, hown, hKK, hr, hlk⟩ := hMB
  replace hl : lv_has ls 6 [(0, .ref v0), (1, .int v1), (2, .int v2)] := hl
  unfold w_X7_lineAt at hw
  show W p l e rm_X7_lineAt s m args below meth c H [] 0 0 (QI G B S sz below args s Q) (F0 m 0 ls [])
  generalize ([] : List Loc) = locs at hH ⊢
  refine lv_aload_n hx hb dX7_lineAt_0 rfl (lv_at hl 0 rfl) ?_
  obtain ⟨k1, hw⟩ := hw
  refine hv_get (ci := 7) (k := 11) (v := .ref (S.2 v0 11)) hx hb hown hKK hH cf7 (by decide) fl_X7_43 rfl k1 rfl dX7_lineAt_1 ?_
  refine lv_iload_n hx hb dX7_lineAt_4 rfl (lv_at hl 1 rfl) ?_
  obtain ⟨k2, hw⟩ := hw
  refine hv_iald hx hb hKK hH k2 dX7_lineAt_5 ?_
  refine lv_istore_n (lv' := [(3, .int (h (S.2 v0 11) (ix v1))), (0, .ref v0), (1, .int v1), (2, .int v2)]) hx hb dX7_lineAt_6 rfl hl (by decide) rfl (fun ls hl => ?_)
  refine lv_iload_n hx hb dX7_lineAt_7 rfl (lv_at hl 3 rfl) ?_
  refine lv_iload_n hx hb dX7_lineAt_8 rfl (lv_at hl 0 rfl) ?_
  refine lv_icmp_ge (tgt := 27) hx hb dX7_lineAt_9 (by decide) (fun c3 => ?_) (fun c3 => ?_)
  · have hw := ite_t hw c3
    refine lv_iload_n hx hb dX7_lineAt_27 rfl (lv_at hl 3 rfl) ?_
    refine lv_iload_n hx hb dX7_lineAt_28 rfl (lv_at hl 0 rfl) ?_
    refine lv_icmp_ne (tgt := 35) hx hb dX7_lineAt_29 (by decide) (fun c4 => ?_) (fun c4 => ?_)
    · have hw := ite_f hw c4
      refine lv_iload_n hx hb dX7_lineAt_35 rfl (lv_at hl 3 rfl) ?_
      refine lv_iload_n hx hb dX7_lineAt_36 rfl (lv_at hl 0 rfl) ?_
      refine lv_isub hx hb dX7_lineAt_37 ?_
      refine lv_iconst (v := (nI 1)) hx hb dX7_lineAt_38 (by decide) ?_
      refine lv_isub hx hb dX7_lineAt_39 ?_
      refine lv_istore (lv' := [(4, .int ((v2 - (h (S.2 v0 11) (ix v1))) - (nI 1))), (3, .int (h (S.2 v0 11) (ix v1))), (0, .ref v0), (1, .int v1), (2, .int v2)]) hx hb dX7_lineAt_40 hl (by decide) rfl (fun ls hl => ?_)
      refine lv_aload_n hx hb dX7_lineAt_42 rfl (lv_at hl 2 rfl) ?_
      refine hv_get (ci := 7) (k := 6) (v := .ref (S.2 v0 6)) hx hb hown hKK hH cf7 (by decide) fl_X7_28 rfl k1 rfl dX7_lineAt_43 ?_
      refine lv_iload_n hx hb dX7_lineAt_46 rfl (lv_at hl 3 rfl) ?_
      obtain ⟨k5, hw⟩ := hw
      refine hv_iald hx hb hKK hH k5 dX7_lineAt_47 ?_
      refine hv_cSI (rm := rm_X7_digitsOf) (As := [.int (h (S.2 v0 6) (ix v1))]) (rest := []) (k := 1) hx hb hml hown hKK hH (m_X7_digitsOf (h (S.2 v0 6) (ix v1)) _ _ hw) cw_X7_404 ⟨Nat.le_of_ble_eq_true rfl, Nat.le_of_ble_eq_true rfl⟩ rfl hl.1 rfl (Nat.le_of_ble_eq_true rfl) ⟨Nat.le_of_ble_eq_true rfl, Nat.le_of_ble_eq_true rfl⟩ dX7_lineAt_48 (fun r7 h6 H locs hH hw => ?_)
      refine lv_istore (lv' := [(5, .int r7), (4, .int ((v2 - (h (S.2 v0 11) (ix v1))) - (nI 1))), (3, .int (h (S.2 v0 11) (ix v1))), (0, .ref v0), (1, .int v1), (2, .int v2)]) hx hb dX7_lineAt_51 hl (by decide) rfl (fun ls hl => ?_)
      refine lv_iload hx hb dX7_lineAt_53 (lv_at hl 1 rfl) ?_
      refine lv_iload hx hb dX7_lineAt_55 (lv_at hl 0 rfl) ?_
      refine lv_icmp_ge (tgt := 72) hx hb dX7_lineAt_57 (by decide) (fun c8 => ?_) (fun c8 => ?_)
      · have hw := ite_t hw c8
        refine lv_iload hx hb dX7_lineAt_72 (lv_at hl 1 rfl) ?_
        refine lv_iload hx hb dX7_lineAt_74 (lv_at hl 0 rfl) ?_
        refine lv_isub hx hb dX7_lineAt_76 ?_
        refine lv_istore (lv' := [(4, .int (((v2 - (h (S.2 v0 11) (ix v1))) - (nI 1)) - r7)), (5, .int r7), (3, .int (h (S.2 v0 11) (ix v1))), (0, .ref v0), (1, .int v1), (2, .int v2)]) hx hb dX7_lineAt_77 hl (by decide) rfl (fun ls hl => ?_)
        refine lv_iload hx hb dX7_lineAt_79 (lv_at hl 0 rfl) ?_
        refine lv_if_ne (tgt := 94) hx hb dX7_lineAt_81 (by decide) (fun c9 => ?_) (fun c9 => ?_)
        · have hw := ite_f hw c9
          refine lv_aload_n hx hb dX7_lineAt_94 rfl (lv_at hl 3 rfl) ?_
          refine hv_get (ci := 7) (k := 10) (v := .ref (S.2 v0 10)) hx hb hown hKK hH cf7 (by decide) fl_X7_40 rfl k1 rfl dX7_lineAt_95 ?_
          refine lv_iload_n hx hb dX7_lineAt_98 rfl (lv_at hl 4 rfl) ?_
          obtain ⟨k13, hw⟩ := hw
          refine hv_iald hx hb hKK hH k13 dX7_lineAt_99 ?_
          refine lv_iconst (v := (nI 1)) hx hb dX7_lineAt_100 (by decide) ?_
          refine lv_icmp_ne (tgt := 118) hx hb dX7_lineAt_101 (by decide) (fun c14 => ?_) (fun c14 => ?_)
          · have hw := ite_f hw c14
            refine lv_iload hx hb dX7_lineAt_118 (lv_at hl 0 rfl) ?_
            refine lv_iconst (v := (nI 1)) hx hb dX7_lineAt_120 (by decide) ?_
            refine lv_isub hx hb dX7_lineAt_121 ?_
            refine lv_aload_n hx hb dX7_lineAt_122 rfl (lv_at hl 3 rfl) ?_
            refine hv_get (ci := 7) (k := 9) (v := .ref (S.2 v0 9)) hx hb hown hKK hH cf7 (by decide) fl_X7_37 rfl k1 rfl dX7_lineAt_123 ?_
            refine lv_iload_n hx hb dX7_lineAt_126 rfl (lv_at hl 4 rfl) ?_
            obtain ⟨k16, hw⟩ := hw
            refine hv_iald hx hb hKK hH k16 dX7_lineAt_127 ?_
            refine hv_cSI (rm := rm_X7_digitsOf) (As := [.int (h6 (S.2 v0 9) (ix v1))]) (rest := [.int ((((v2 - (h (S.2 v0 11) (ix v1))) - (nI 1)) - r7) - (nI 1))]) (k := 1) hx hb hml hown hKK hH (m_X7_digitsOf (h6 (S.2 v0 9) (ix v1)) _ _ hw) cw_X7_404 ⟨Nat.le_of_ble_eq_true rfl, Nat.le_of_ble_eq_true rfl⟩ rfl hl.1 rfl (Nat.le_of_ble_eq_true rfl) ⟨Nat.le_of_ble_eq_true rfl, Nat.le_of_ble_eq_true rfl⟩ dX7_lineAt_128 (fun r18 h17 H locs hH hw => ?_)
            refine lv_icmp_ge (tgt := 150) hx hb dX7_lineAt_131 (by decide) (fun c19 => ?_) (fun c19 => ?_)
            · have hw := ite_t hw c19
              refine lv_bipush (v := (-9)) hx hb dX7_lineAt_150 (by decide) ?_
              exact hv_iret hx hb hr hlk hH hw dX7_lineAt_152
            · have hw := ite_f hw c19
              refine lv_aload_n hx hb dX7_lineAt_134 rfl (lv_at hl 3 rfl) ?_
              refine hv_get (ci := 7) (k := 9) (v := .ref (S.2 v0 9)) hx hb hown hKK hH cf7 (by decide) fl_X7_37 rfl k1 rfl dX7_lineAt_135 ?_
              refine lv_iload_n hx hb dX7_lineAt_138 rfl (lv_at hl 4 rfl) ?_
              refine hv_iald hx hb hKK hH k16 dX7_lineAt_139 ?_
              refine lv_iload hx hb dX7_lineAt_140 (lv_at hl 0 rfl) ?_
              refine lv_iconst (v := (nI 1)) hx hb dX7_lineAt_142 (by decide) ?_
              refine lv_isub hx hb dX7_lineAt_143 ?_
              refine hv_cSI (rm := rm_X7_digitOf) (As := [.int (h17 (S.2 v0 9) (ix v1)), .int ((((v2 - (h (S.2 v0 11) (ix v1))) - (nI 1)) - r7) - (nI 1))]) (rest := []) (k := 2) hx hb hml hown hKK hH (m_X7_digitOf (h17 (S.2 v0 9) (ix v1)) ((((v2 - (h (S.2 v0 11) (ix v1))) - (nI 1)) - r7) - (nI 1)) _ _ hw) cw_X7_407 ⟨Nat.le_of_ble_eq_true rfl, Nat.le_of_ble_eq_true rfl⟩ rfl hl.1 rfl (Nat.le_of_ble_eq_true rfl) ⟨Nat.le_of_ble_eq_true rfl, Nat.le_of_ble_eq_true rfl⟩ dX7_lineAt_144 (fun r21 h20 H locs hH hw => ?_)
              refine lv_goto (tgt := 152) hx hb dX7_lineAt_147 (by decide) ?_
              exact hv_iret hx hb hr hlk hH hw dX7_lineAt_152
          · have hw := ite_t hw c14
            refine lv_iload hx hb dX7_lineAt_104 (lv_at hl 0 rfl) ?_
            refine lv_iconst (v := (nI 1)) hx hb dX7_lineAt_106 (by decide) ?_
            refine lv_icmp_ne (tgt := 115) hx hb dX7_lineAt_107 (by decide) (fun c15 => ?_) (fun c15 => ?_)
            · have hw := ite_f hw c15
              refine lv_bipush (v := (-9)) hx hb dX7_lineAt_115 (by decide) ?_
              exact hv_iret hx hb hr hlk hH hw dX7_lineAt_117
            · have hw := ite_t hw c15
              refine lv_bipush (v := (nI 33)) hx hb dX7_lineAt_110 (by decide) ?_
              refine lv_goto (tgt := 117) hx hb dX7_lineAt_112 (by decide) ?_
              exact hv_iret hx hb hr hlk hH hw dX7_lineAt_117
        · have hw := ite_t hw c9
          refine lv_aload_n hx hb dX7_lineAt_84 rfl (lv_at hl 3 rfl) ?_
          refine hv_get (ci := 7) (k := 7) (v := .ref (S.2 v0 7)) hx hb hown hKK hH cf7 (by decide) fl_X7_31 rfl k1 rfl dX7_lineAt_85 ?_
          refine lv_iload_n hx hb dX7_lineAt_88 rfl (lv_at hl 4 rfl) ?_
          obtain ⟨k10, hw⟩ := hw
          refine hv_iald hx hb hKK hH k10 dX7_lineAt_89 ?_
          refine hv_cSI (rm := rm_X7_sideOf) (As := [.int (h6 (S.2 v0 7) (ix v1))]) (rest := []) (k := 1) hx hb hml hown hKK hH (m_X7_sideOf (h6 (S.2 v0 7) (ix v1)) _ _ hw) cw_X7_410 ⟨Nat.le_of_ble_eq_true rfl, Nat.le_of_ble_eq_true rfl⟩ rfl hl.1 rfl (Nat.le_of_ble_eq_true rfl) ⟨Nat.le_of_ble_eq_true rfl, Nat.le_of_ble_eq_true rfl⟩ dX7_lineAt_90 (fun r12 h11 H locs hH hw => ?_)
          exact hv_iret hx hb hr hlk hH hw dX7_lineAt_93
      · have hw := ite_f hw c8
        refine lv_aload_n hx hb dX7_lineAt_60 rfl (lv_at hl 3 rfl) ?_
        refine hv_get (ci := 7) (k := 6) (v := .ref (S.2 v0 6)) hx hb hown hKK hH cf7 (by decide) fl_X7_28 rfl k1 rfl dX7_lineAt_61 ?_
        refine lv_iload_n hx hb dX7_lineAt_64 rfl (lv_at hl 4 rfl) ?_
        refine hv_iald hx hb hKK hH k5 dX7_lineAt_65 ?_
        refine lv_iload hx hb dX7_lineAt_66 (lv_at hl 1 rfl) ?_
        refine hv_cSI (rm := rm_X7_digitOf) (As := [.int (h6 (S.2 v0 6) (ix v1)), .int ((v2 - (h (S.2 v0 11) (ix v1))) - (nI 1))]) (rest := []) (k := 2) hx hb hml hown hKK hH (m_X7_digitOf (h6 (S.2 v0 6) (ix v1)) ((v2 - (h (S.2 v0 11) (ix v1))) - (nI 1)) _ _ hw) cw_X7_407 ⟨Nat.le_of_ble_eq_true rfl, Nat.le_of_ble_eq_true rfl⟩ rfl hl.1 rfl (Nat.le_of_ble_eq_true rfl) ⟨Nat.le_of_ble_eq_true rfl, Nat.le_of_ble_eq_true rfl⟩ dX7_lineAt_68 (fun r23 h22 H locs hH hw => ?_)
        exact hv_iret hx hb hr hlk hH hw dX7_lineAt_71
    · have hw := ite_t hw c4
      refine lv_bipush (v := (nI 32)) hx hb dX7_lineAt_32 (by decide) ?_
      exact hv_iret hx hb hr hlk hH hw dX7_lineAt_34
  · have hw := ite_f hw c3
    refine lv_bipush (v := (nI 97)) hx hb dX7_lineAt_12 (by decide) ?_
    refine lv_aload_n hx hb dX7_lineAt_14 rfl (lv_at hl 1 rfl) ?_
    refine hv_get (ci := 7) (k := 12) (v := .ref (S.2 v0 12)) hx hb hown hKK hH cf7 (by decide) fl_X7_46 rfl k1 rfl dX7_lineAt_15 ?_
    refine lv_bipush (v := (nI 6)) hx hb dX7_lineAt_18 (by decide) ?_
    refine lv_iload_n hx hb dX7_lineAt_20 rfl (lv_at hl 2 rfl) ?_
    refine lv_imul hx hb dX7_lineAt_21 ?_
    refine lv_iload_n hx hb dX7_lineAt_22 rfl (lv_at hl 3 rfl) ?_
    refine lv_iadd hx hb dX7_lineAt_23 ?_
    obtain ⟨k24, hw⟩ := hw
    refine hv_iald hx hb hKK hH k24 dX7_lineAt_24 ?_
    refine lv_iadd hx hb dX7_lineAt_25 ?_
    exact hv_iret hx hb hr hlk hH hw dX7_lineAt_26
abbrev rm_X7_line : Room := { frames := 3, cells := 0, slots := 0, locals := 66 }
set_option maxHeartbeats 4000000 in
set_option maxRecDepth 100000 in
theorem m_X7_line {l : Launch} {G : Gl} {B sz : Nat} {S : St} (v0 : Nat) (v1 : Int32) (v2 : Int32) (h : Hp) (Q : Int32 → Hp → Prop) (hw : w_X7_line S v0 v1 v2 h Q) : MI l G B sz S yX7_line cX7_line 4 .int rm_X7_line [.ref v0, .int v1, .int v2] h Q := by
  refine met_of rfl rfl ?_
  intro p e s m args below meth c hMB H ls hH hl
  obtain ⟨hx, hb, hml, hown, hKK, hr, hlk⟩ := hMB
  replace hl : lv_has ls 4 [(0, .ref v0), (1, .int v1), (2, .int v2)] := hl
  unfold w_X7_line at hw
  show W p l e rm_X7_line s m args below meth c H [] 0 0 (QI G B S sz below args s Q) (F0 m 0 ls [])
  generalize ([] : List Loc) = locs at hH ⊢
  refine lv_aload_n hx hb dX7_line_0 rfl (lv_at hl 0 rfl) ?_
  refine lv_iload_n hx hb dX7_line_1 rfl (lv_at hl 1 rfl) ?_
  obtain ⟨k1, hw⟩ := hw
  refine hv_cVI (rm := rm_X7_isHead) (As := [.int v1]) (rest := []) (k := 1) (ci := 7) hx hb hml hown hKK hH cf7 k1 (m_X7_isHead v0 v1 _ _ hw) cw_X7_89 ⟨Nat.le_of_ble_eq_true rfl, Nat.le_of_ble_eq_true rfl⟩ rfl hl.1 rfl (Nat.le_of_ble_eq_true rfl) ⟨Nat.le_of_ble_eq_true rfl, Nat.le_of_ble_eq_true rfl⟩ dX7_line_2 (fun r3 h2 H locs hH hw => ?_)
  refine lv_if_ne (tgt := 12) hx hb dX7_line_5 (by decide) (fun c4 => ?_) (fun c4 => ?_)
  · have hw := ite_f hw c4
    refine lv_iload_n hx hb dX7_line_12 rfl (lv_at hl 2 rfl) ?_
    refine lv_if_ge (tgt := 21) hx hb dX7_line_13 (by decide) (fun c7 => ?_) (fun c7 => ?_)
    · have hw := ite_t hw c7
      refine lv_iconst (v := (nI 0)) hx hb dX7_line_21 (by decide) ?_
      refine lv_istore_n (lv' := [(3, .int (nI 0)), (0, .ref v0), (1, .int v1), (2, .int v2)]) hx hb dX7_line_22 rfl hl (by decide) rfl (fun ls hl => ?_)
      refine lv_iload_n hx hb dX7_line_23 rfl (lv_at hl 0 rfl) ?_
      refine lv_if_eq (tgt := 33) hx hb dX7_line_24 (by decide) (fun _ => ?_) (fun c => absurd (by decide) c)
      refine lv_iload_n hx hb dX7_line_33 rfl (lv_at hl 3 rfl) ?_
      refine lv_bipush (v := (nI 30)) hx hb dX7_line_34 (by decide) ?_
      refine lv_icmp_le (tgt := 44) hx hb dX7_line_36 (by decide) (fun c8 => ?_) (fun c8 => ?_)
      · have hw := ite_t hw c8
        refine lv_aload_n hx hb dX7_line_44 rfl (lv_at hl 1 rfl) ?_
        refine lv_iload_n hx hb dX7_line_45 rfl (lv_at hl 2 rfl) ?_
        refine lv_iload_n hx hb dX7_line_46 rfl (lv_at hl 3 rfl) ?_
        refine hv_cVI (rm := rm_X7_lineAt) (As := [.int v1, .int v2]) (rest := []) (k := 2) (ci := 7) hx hb hml hown hKK hH cf7 k1 (m_X7_lineAt v0 v1 v2 _ _ hw) cw_X7_413 ⟨Nat.le_of_ble_eq_true rfl, Nat.le_of_ble_eq_true rfl⟩ rfl hl.1 rfl (Nat.le_of_ble_eq_true rfl) ⟨Nat.le_of_ble_eq_true rfl, Nat.le_of_ble_eq_true rfl⟩ dX7_line_47 (fun r10 h9 H locs hH hw => ?_)
        exact hv_iret hx hb hr hlk hH hw dX7_line_50
      · have hw := ite_f hw c8
        refine lv_bipush (v := (-9)) hx hb dX7_line_39 (by decide) ?_
        refine lv_goto (tgt := 50) hx hb dX7_line_41 (by decide) ?_
        exact hv_iret hx hb hr hlk hH hw dX7_line_50
    · have hw := ite_f hw c7
      refine lv_bipush (v := (-4)) hx hb dX7_line_16 (by decide) ?_
      refine lv_goto (tgt := 22) hx hb dX7_line_18 (by decide) ?_
      refine lv_istore_n (lv' := [(3, .int (-4)), (0, .ref v0), (1, .int v1), (2, .int v2)]) hx hb dX7_line_22 rfl hl (by decide) rfl (fun ls hl => ?_)
      refine lv_iload_n hx hb dX7_line_23 rfl (lv_at hl 0 rfl) ?_
      refine lv_if_eq (tgt := 33) hx hb dX7_line_24 (by decide) (fun c => absurd c (by decide)) (fun _ => ?_)
      refine lv_aload_n hx hb dX7_line_27 rfl (lv_at hl 1 rfl) ?_
      refine lv_iload_n hx hb dX7_line_28 rfl (lv_at hl 0 rfl) ?_
      refine hv_cVI (rm := rm_X7_no) (As := [.int (-4)]) (rest := []) (k := 1) (ci := 7) hx hb hml hown hKK hH cf7 k1 (m_X7_no v0 (-4) _ _ hw) cw_X7_170 ⟨Nat.le_of_ble_eq_true rfl, Nat.le_of_ble_eq_true rfl⟩ rfl hl.1 rfl (Nat.le_of_ble_eq_true rfl) ⟨Nat.le_of_ble_eq_true rfl, Nat.le_of_ble_eq_true rfl⟩ dX7_line_29 (fun r12 h11 H locs hH hw => ?_)
      exact hv_iret hx hb hr hlk hH hw dX7_line_32
  · have hw := ite_t hw c4
    refine lv_iconst (v := (-1)) hx hb dX7_line_8 (by decide) ?_
    refine lv_goto (tgt := 22) hx hb dX7_line_9 (by decide) ?_
    refine lv_istore_n (lv' := [(3, .int (-1)), (0, .ref v0), (1, .int v1), (2, .int v2)]) hx hb dX7_line_22 rfl hl (by decide) rfl (fun ls hl => ?_)
    refine lv_iload_n hx hb dX7_line_23 rfl (lv_at hl 0 rfl) ?_
    refine lv_if_eq (tgt := 33) hx hb dX7_line_24 (by decide) (fun c => absurd c (by decide)) (fun _ => ?_)
    refine lv_aload_n hx hb dX7_line_27 rfl (lv_at hl 1 rfl) ?_
    refine lv_iload_n hx hb dX7_line_28 rfl (lv_at hl 0 rfl) ?_
    refine hv_cVI (rm := rm_X7_no) (As := [.int (-1)]) (rest := []) (k := 1) (ci := 7) hx hb hml hown hKK hH cf7 k1 (m_X7_no v0 (-1) _ _ hw) cw_X7_170 ⟨Nat.le_of_ble_eq_true rfl, Nat.le_of_ble_eq_true rfl⟩ rfl hl.1 rfl (Nat.le_of_ble_eq_true rfl) ⟨Nat.le_of_ble_eq_true rfl, Nat.le_of_ble_eq_true rfl⟩ dX7_line_29 (fun r6 h5 H locs hH hw => ?_)
    exact hv_iret hx hb hr hlk hH hw dX7_line_32
abbrev rm_X7_power : Room := { frames := 2, cells := 0, slots := 0, locals := 43 }
set_option maxHeartbeats 4000000 in
set_option maxRecDepth 100000 in
theorem m_X7_power {l : Launch} {G : Gl} {B sz : Nat} {S : St} (v0 : Nat) (v1 : Int32) (h : Hp) (Q : Int32 → Hp → Prop) (hw : w_X7_power S v0 v1 h Q) : MI l G B sz S yX7_power cX7_power 7 .int rm_X7_power [.ref v0, .int v1] h Q := by
  refine met_of rfl rfl ?_
  intro p e s m args below meth c hMB H ls hH hl
  obtain ⟨hx, hb, hml, hown, hKK, hr, hlk⟩ := hMB
  replace hl : lv_has ls 7 [(0, .ref v0), (1, .int v1)] := hl
  have c60 : ∀ (v0 : Nat) (v1 : Int32) (v2 : Int32) (P31 : Int32 → Int32 → Hp → Prop) (_ : ∀ (v3 : Int32) (v4 : Int32) (h : Hp) (H : Heap) (locs : List Loc) (ls : Array Slot), HH G B S h sz s H locs → lv_has ls 7 [(0, .ref v0), (1, .int v1), (2, .int v2), (3, .int v3), (4, .int v4)] → P31 v3 v4 h → W p l e rm_X7_power s m args below meth c H locs 0 0 (QI G B S sz below args s Q) (F0 m 31 ls [])) (v3 : Int32) (v4 : Int32) (v5 : Int32) (v6 : Int32) (h : Hp) (H : Heap) (locs : List Loc) (ls : Array Slot), HH G B S h sz s H locs → lv_has ls 7 [(0, .ref v0), (1, .int v1), (2, .int v2), (3, .int v3), (4, .int v4), (5, .int v5), (6, .int v6)] → w_X7_power_c60 S v0 v1 v2 v3 v4 v5 v6 h Q P31 → W p l e rm_X7_power s m args below meth c H locs 0 0 (QI G B S sz below args s Q) (F0 m 60 ls []) := by
    intro v0 v1 v2 P31 hK31 v3 v4 v5 v6 h H locs ls hH hl hw
    unfold w_X7_power_c60 at hw
    obtain ⟨P60, hP60⟩ : ∃ P : Int32 → Int32 → Hp → Prop, ∀ (v5 : Int32) (v6 : Int32) (h : Hp), P v5 v6 h ↔ (∀ (H : Heap) (locs : List Loc) (ls : Array Slot), HH G B S h sz s H locs → lv_has ls 7 [(0, .ref v0), (1, .int v1), (2, .int v2), (3, .int v3), (4, .int v4), (5, .int v5), (6, .int v6)] → W p l e rm_X7_power s m args below meth c H locs 0 0 (QI G B S sz below args s Q) (F0 m 60 ls [])) := ⟨_, fun v5 v6 h => Iff.rfl⟩
    refine (hP60 v5 v6 h).1 (hw P60 (fun v5 v6 h hw => (hP60 v5 v6 h).2 (fun H locs ls hH hl => ?_))) H locs ls hH hl
    have hK60 : ∀ (v5 : Int32) (v6 : Int32) (h : Hp) (H : Heap) (locs : List Loc) (ls : Array Slot), HH G B S h sz s H locs → lv_has ls 7 [(0, .ref v0), (1, .int v1), (2, .int v2), (3, .int v3), (4, .int v4), (5, .int v5), (6, .int v6)] → P60 v5 v6 h → W p l e rm_X7_power s m args below meth c H locs 0 0 (QI G B S sz below args s Q) (F0 m 60 ls []) := fun v5 v6 h H locs ls hH hl hk => (hP60 v5 v6 h).1 hk H locs ls hH hl
    refine lv_iload hx hb dX7_power_60 (lv_at hl 6 rfl) ?_
    refine lv_aload_n hx hb dX7_power_62 rfl (lv_at hl 0 rfl) ?_
    obtain ⟨k1, hw⟩ := hw
    refine hv_get (ci := 7) (k := 13) (v := .int (h v0 13)) hx hb hown hKK hH cf7 (by decide) fl_X7_79 rfl k1 rfl dX7_power_63 ?_
    refine lv_icmp_ge (tgt := 101) hx hb dX7_power_66 (by decide) (fun c2 => ?_) (fun c2 => ?_)
    · have hw := ite_t hw c2
      refine lv_iload_n hx hb dX7_power_101 rfl (lv_at hl 3 rfl) ?_
      refine lv_iconst (v := (nI 2)) hx hb dX7_power_102 (by decide) ?_
      refine lv_iload hx hb dX7_power_103 (lv_at hl 5 rfl) ?_
      refine lv_imul hx hb dX7_power_105 ?_
      refine lv_iload_n hx hb dX7_power_106 rfl (lv_at hl 2 rfl) ?_
      refine lv_icmp_gt (tgt := 129) hx hb dX7_power_107 (by decide) (fun c3 => ?_) (fun c3 => ?_)
      · have hw := ite_t hw c3
        refine lv_iconst (v := (nI 0)) hx hb dX7_power_129 (by decide) ?_
        refine lv_iadd hx hb dX7_power_130 ?_
        refine lv_istore_n (lv' := [(3, .int (v3 + (nI 0))), (0, .ref v0), (1, .int v1), (2, .int v2), (4, .int v4), (5, .int v5), (6, .int v6)]) hx hb dX7_power_131 rfl hl (by decide) rfl (fun ls hl => ?_)
        refine lv_iinc (v := v4 + (nI 1)) (lv' := [(4, .int (v4 + (nI 1))), (3, .int (v3 + (nI 0))), (0, .ref v0), (1, .int v1), (2, .int v2), (5, .int v5), (6, .int v6)]) hx hb dX7_power_132 hl (k := 4) rfl rfl (by decide) rfl (fun ls hl => ?_)
        refine lv_goto (tgt := 31) hx hb dX7_power_135 (by decide) ?_
        exact hK31 _ _ _ H locs ls hH (lv_sub hl [2, 3, 4, 1, 0] rfl) hw
      · have hw := ite_f hw c3
        refine lv_iconst (v := (nI 2)) hx hb dX7_power_110 (by decide) ?_
        refine lv_iload hx hb dX7_power_111 (lv_at hl 5 rfl) ?_
        refine lv_aload_n hx hb dX7_power_113 rfl (lv_at hl 0 rfl) ?_
        refine hv_get (ci := 7) (k := 9) (v := .ref (S.2 v0 9)) hx hb hown hKK hH cf7 (by decide) fl_X7_37 rfl k1 rfl dX7_power_114 ?_
        refine lv_iload_n hx hb dX7_power_117 rfl (lv_at hl 1 rfl) ?_
        obtain ⟨k4, hw⟩ := hw
        refine hv_iald hx hb hKK hH k4 dX7_power_118 ?_
        refine lv_iadd hx hb dX7_power_119 ?_
        refine lv_imul hx hb dX7_power_120 ?_
        refine lv_iload_n hx hb dX7_power_121 rfl (lv_at hl 2 rfl) ?_
        refine lv_icmp_le (tgt := 129) hx hb dX7_power_122 (by decide) (fun c5 => ?_) (fun c5 => ?_)
        · have hw := ite_t hw c5
          refine lv_iconst (v := (nI 0)) hx hb dX7_power_129 (by decide) ?_
          refine lv_iadd hx hb dX7_power_130 ?_
          refine lv_istore_n (lv' := [(3, .int (v3 + (nI 0))), (0, .ref v0), (1, .int v1), (2, .int v2), (4, .int v4), (5, .int v5), (6, .int v6)]) hx hb dX7_power_131 rfl hl (by decide) rfl (fun ls hl => ?_)
          refine lv_iinc (v := v4 + (nI 1)) (lv' := [(4, .int (v4 + (nI 1))), (3, .int (v3 + (nI 0))), (0, .ref v0), (1, .int v1), (2, .int v2), (5, .int v5), (6, .int v6)]) hx hb dX7_power_132 hl (k := 4) rfl rfl (by decide) rfl (fun ls hl => ?_)
          refine lv_goto (tgt := 31) hx hb dX7_power_135 (by decide) ?_
          exact hK31 _ _ _ H locs ls hH (lv_sub hl [2, 3, 4, 1, 0] rfl) hw
        · have hw := ite_f hw c5
          refine lv_iconst (v := (nI 1)) hx hb dX7_power_125 (by decide) ?_
          refine lv_goto (tgt := 130) hx hb dX7_power_126 (by decide) ?_
          refine lv_iadd hx hb dX7_power_130 ?_
          refine lv_istore_n (lv' := [(3, .int (v3 + (nI 1))), (0, .ref v0), (1, .int v1), (2, .int v2), (4, .int v4), (5, .int v5), (6, .int v6)]) hx hb dX7_power_131 rfl hl (by decide) rfl (fun ls hl => ?_)
          refine lv_iinc (v := v4 + (nI 1)) (lv' := [(4, .int (v4 + (nI 1))), (3, .int (v3 + (nI 1))), (0, .ref v0), (1, .int v1), (2, .int v2), (5, .int v5), (6, .int v6)]) hx hb dX7_power_132 hl (k := 4) rfl rfl (by decide) rfl (fun ls hl => ?_)
          refine lv_goto (tgt := 31) hx hb dX7_power_135 (by decide) ?_
          exact hK31 _ _ _ H locs ls hH (lv_sub hl [2, 3, 4, 1, 0] rfl) hw
    · have hw := ite_f hw c2
      refine lv_iload hx hb dX7_power_69 (lv_at hl 5 rfl) ?_
      refine lv_iload hx hb dX7_power_71 (lv_at hl 4 rfl) ?_
      refine lv_iload hx hb dX7_power_73 (lv_at hl 6 rfl) ?_
      refine hv_cSI (rm := rm_X7_has) (As := [.int v4, .int v6]) (rest := [.int v5]) (k := 2) hx hb hml hown hKK hH (m_X7_has v4 v6 _ _ hw) cw_X7_356 ⟨Nat.le_of_ble_eq_true rfl, Nat.le_of_ble_eq_true rfl⟩ rfl hl.1 rfl (Nat.le_of_ble_eq_true rfl) ⟨Nat.le_of_ble_eq_true rfl, Nat.le_of_ble_eq_true rfl⟩ dX7_power_75 (fun r7 h6 H locs hH hw => ?_)
      refine lv_if_eq (tgt := 91) hx hb dX7_power_78 (by decide) (fun c8 => ?_) (fun c8 => ?_)
      · have hw := ite_t hw c8
        refine lv_iconst (v := (nI 0)) hx hb dX7_power_91 (by decide) ?_
        refine lv_iadd hx hb dX7_power_92 ?_
        refine lv_istore (lv' := [(5, .int (v5 + (nI 0))), (0, .ref v0), (1, .int v1), (2, .int v2), (3, .int v3), (4, .int v4), (6, .int v6)]) hx hb dX7_power_93 hl (by decide) rfl (fun ls hl => ?_)
        refine lv_iinc (v := v6 + (nI 1)) (lv' := [(6, .int (v6 + (nI 1))), (5, .int (v5 + (nI 0))), (0, .ref v0), (1, .int v1), (2, .int v2), (3, .int v3), (4, .int v4)]) hx hb dX7_power_95 hl (k := 6) rfl rfl (by decide) rfl (fun ls hl => ?_)
        refine lv_goto (tgt := 60) hx hb dX7_power_98 (by decide) ?_
        exact hK60 _ _ _ H locs ls hH (lv_sub hl [2, 3, 4, 5, 6, 1, 0] rfl) hw
      · have hw := ite_f hw c8
        refine lv_aload_n hx hb dX7_power_81 rfl (lv_at hl 0 rfl) ?_
        refine hv_get (ci := 7) (k := 9) (v := .ref (S.2 v0 9)) hx hb hown hKK hH cf7 (by decide) fl_X7_37 rfl k1 rfl dX7_power_82 ?_
        refine lv_iload hx hb dX7_power_85 (lv_at hl 6 rfl) ?_
        obtain ⟨k9, hw⟩ := hw
        refine hv_iald hx hb hKK hH k9 dX7_power_87 ?_
        refine lv_goto (tgt := 92) hx hb dX7_power_88 (by decide) ?_
        refine lv_iadd hx hb dX7_power_92 ?_
        refine lv_istore (lv' := [(5, .int (v5 + (h6 (S.2 v0 9) (ix v6)))), (0, .ref v0), (1, .int v1), (2, .int v2), (3, .int v3), (4, .int v4), (6, .int v6)]) hx hb dX7_power_93 hl (by decide) rfl (fun ls hl => ?_)
        refine lv_iinc (v := v6 + (nI 1)) (lv' := [(6, .int (v6 + (nI 1))), (5, .int (v5 + (h6 (S.2 v0 9) (ix v6)))), (0, .ref v0), (1, .int v1), (2, .int v2), (3, .int v3), (4, .int v4)]) hx hb dX7_power_95 hl (k := 6) rfl rfl (by decide) rfl (fun ls hl => ?_)
        refine lv_goto (tgt := 60) hx hb dX7_power_98 (by decide) ?_
        exact hK60 _ _ _ H locs ls hH (lv_sub hl [2, 3, 4, 5, 6, 1, 0] rfl) hw
  have c31 : ∀  (v0 : Nat) (v1 : Int32) (v2 : Int32) (v3 : Int32) (v4 : Int32) (h : Hp) (H : Heap) (locs : List Loc) (ls : Array Slot), HH G B S h sz s H locs → lv_has ls 7 [(0, .ref v0), (1, .int v1), (2, .int v2), (3, .int v3), (4, .int v4)] → w_X7_power_c31 S v0 v1 v2 v3 v4 h Q → W p l e rm_X7_power s m args below meth c H locs 0 0 (QI G B S sz below args s Q) (F0 m 31 ls []) := by
    intro  v0 v1 v2 v3 v4 h H locs ls hH hl hw
    unfold w_X7_power_c31 at hw
    obtain ⟨P31, hP31⟩ : ∃ P : Int32 → Int32 → Hp → Prop, ∀ (v3 : Int32) (v4 : Int32) (h : Hp), P v3 v4 h ↔ (∀ (H : Heap) (locs : List Loc) (ls : Array Slot), HH G B S h sz s H locs → lv_has ls 7 [(0, .ref v0), (1, .int v1), (2, .int v2), (3, .int v3), (4, .int v4)] → W p l e rm_X7_power s m args below meth c H locs 0 0 (QI G B S sz below args s Q) (F0 m 31 ls [])) := ⟨_, fun v3 v4 h => Iff.rfl⟩
    refine (hP31 v3 v4 h).1 (hw P31 (fun v3 v4 h hw => (hP31 v3 v4 h).2 (fun H locs ls hH hl => ?_))) H locs ls hH hl
    have hK31 : ∀ (v3 : Int32) (v4 : Int32) (h : Hp) (H : Heap) (locs : List Loc) (ls : Array Slot), HH G B S h sz s H locs → lv_has ls 7 [(0, .ref v0), (1, .int v1), (2, .int v2), (3, .int v3), (4, .int v4)] → P31 v3 v4 h → W p l e rm_X7_power s m args below meth c H locs 0 0 (QI G B S sz below args s Q) (F0 m 31 ls []) := fun v3 v4 h H locs ls hH hl hk => (hP31 v3 v4 h).1 hk H locs ls hH hl
    refine lv_iload hx hb dX7_power_31 (lv_at hl 4 rfl) ?_
    refine lv_iconst (v := (nI 1)) hx hb dX7_power_33 (by decide) ?_
    refine lv_aload_n hx hb dX7_power_34 rfl (lv_at hl 0 rfl) ?_
    obtain ⟨k1, hw⟩ := hw
    refine hv_get (ci := 7) (k := 13) (v := .int (h v0 13)) hx hb hown hKK hH cf7 (by decide) fl_X7_79 rfl k1 rfl dX7_power_35 ?_
    refine lv_ishl hx hb dX7_power_38 ?_
    refine lv_icmp_ge (tgt := 138) hx hb dX7_power_39 (by decide) (fun c2 => ?_) (fun c2 => ?_)
    · have hw := ite_t hw c2
      refine lv_iload_n hx hb dX7_power_138 rfl (lv_at hl 3 rfl) ?_
      exact hv_iret hx hb hr hlk hH hw dX7_power_139
    · have hw := ite_f hw c2
      refine lv_iload hx hb dX7_power_42 (lv_at hl 4 rfl) ?_
      refine lv_iload_n hx hb dX7_power_44 rfl (lv_at hl 1 rfl) ?_
      refine hv_cSI (rm := rm_X7_has) (As := [.int v4, .int v1]) (rest := []) (k := 2) hx hb hml hown hKK hH (m_X7_has v4 v1 _ _ hw) cw_X7_356 ⟨Nat.le_of_ble_eq_true rfl, Nat.le_of_ble_eq_true rfl⟩ rfl hl.1 rfl (Nat.le_of_ble_eq_true rfl) ⟨Nat.le_of_ble_eq_true rfl, Nat.le_of_ble_eq_true rfl⟩ dX7_power_45 (fun r4 h3 H locs hH hw => ?_)
      refine lv_if_eq (tgt := 54) hx hb dX7_power_48 (by decide) (fun c5 => ?_) (fun c5 => ?_)
      · have hw := ite_t hw c5
        refine lv_iconst (v := (nI 0)) hx hb dX7_power_54 (by decide) ?_
        refine lv_istore (lv' := [(5, .int (nI 0)), (0, .ref v0), (1, .int v1), (2, .int v2), (3, .int v3), (4, .int v4)]) hx hb dX7_power_55 hl (by decide) rfl (fun ls hl => ?_)
        refine lv_iconst (v := (nI 0)) hx hb dX7_power_57 (by decide) ?_
        refine lv_istore (lv' := [(6, .int (nI 0)), (5, .int (nI 0)), (0, .ref v0), (1, .int v1), (2, .int v2), (3, .int v3), (4, .int v4)]) hx hb dX7_power_58 hl (by decide) rfl (fun ls hl => ?_)
        exact c60 _ _ _ _ hK31 _ _ _ _ _ H locs ls hH (lv_sub hl [2, 3, 4, 5, 6, 1, 0] rfl) hw
      · have hw := ite_f hw c5
        refine lv_goto (tgt := 132) hx hb dX7_power_51 (by decide) ?_
        refine lv_iinc (v := v4 + (nI 1)) (lv' := [(4, .int (v4 + (nI 1))), (0, .ref v0), (1, .int v1), (2, .int v2), (3, .int v3)]) hx hb dX7_power_132 hl (k := 4) rfl rfl (by decide) rfl (fun ls hl => ?_)
        refine lv_goto (tgt := 31) hx hb dX7_power_135 (by decide) ?_
        exact hK31 _ _ _ H locs ls hH (lv_sub hl [1, 2, 3, 4, 0] rfl) hw
  unfold w_X7_power at hw
  show W p l e rm_X7_power s m args below meth c H [] 0 0 (QI G B S sz below args s Q) (F0 m 0 ls [])
  generalize ([] : List Loc) = locs at hH ⊢
  refine lv_aload_n hx hb dX7_power_0 rfl (lv_at hl 0 rfl) ?_
  refine lv_iload_n hx hb dX7_power_1 rfl (lv_at hl 1 rfl) ?_
  obtain ⟨k1, hw⟩ := hw
  refine hv_cVI (rm := rm_X7_isHead) (As := [.int v1]) (rest := []) (k := 1) (ci := 7) hx hb hml hown hKK hH cf7 k1 (m_X7_isHead v0 v1 _ _ hw) cw_X7_89 ⟨Nat.le_of_ble_eq_true rfl, Nat.le_of_ble_eq_true rfl⟩ rfl hl.1 rfl (Nat.le_of_ble_eq_true rfl) ⟨Nat.le_of_ble_eq_true rfl, Nat.le_of_ble_eq_true rfl⟩ dX7_power_2 (fun r3 h2 H locs hH hw => ?_)
  refine lv_if_ne (tgt := 14) hx hb dX7_power_5 (by decide) (fun c4 => ?_) (fun c4 => ?_)
  · have hw := ite_f hw c4
    refine lv_aload_n hx hb dX7_power_14 rfl (lv_at hl 0 rfl) ?_
    refine hv_get (ci := 7) (k := 9) (v := .ref (S.2 v0 9)) hx hb hown hKK hH cf7 (by decide) fl_X7_37 rfl k1 rfl dX7_power_15 ?_
    refine lv_aload_n hx hb dX7_power_18 rfl (lv_at hl 0 rfl) ?_
    refine hv_get (ci := 7) (k := 13) (v := .int (h2 v0 13)) hx hb hown hKK hH cf7 (by decide) fl_X7_79 rfl k1 rfl dX7_power_19 ?_
    refine hv_cSI (rm := rm_X7_allOf) (As := [.ref (S.2 v0 9), .int (h2 v0 13)]) (rest := []) (k := 2) hx hb hml hown hKK hH (m_X7_allOf (S.2 v0 9) (h2 v0 13) _ _ hw) cw_X7_352 ⟨Nat.le_of_ble_eq_true rfl, Nat.le_of_ble_eq_true rfl⟩ rfl hl.1 rfl (Nat.le_of_ble_eq_true rfl) ⟨Nat.le_of_ble_eq_true rfl, Nat.le_of_ble_eq_true rfl⟩ dX7_power_22 (fun r8 h7 H locs hH hw => ?_)
    refine lv_istore_n (lv' := [(2, .int r8), (0, .ref v0), (1, .int v1)]) hx hb dX7_power_25 rfl hl (by decide) rfl (fun ls hl => ?_)
    refine lv_iconst (v := (nI 0)) hx hb dX7_power_26 (by decide) ?_
    refine lv_istore_n (lv' := [(3, .int (nI 0)), (2, .int r8), (0, .ref v0), (1, .int v1)]) hx hb dX7_power_27 rfl hl (by decide) rfl (fun ls hl => ?_)
    refine lv_iconst (v := (nI 0)) hx hb dX7_power_28 (by decide) ?_
    refine lv_istore (lv' := [(4, .int (nI 0)), (3, .int (nI 0)), (2, .int r8), (0, .ref v0), (1, .int v1)]) hx hb dX7_power_29 hl (by decide) rfl (fun ls hl => ?_)
    exact c31 _ _ _ _ _ _ H locs ls hH (lv_sub hl [3, 4, 2, 1, 0] rfl) hw
  · have hw := ite_t hw c4
    refine lv_aload_n hx hb dX7_power_8 rfl (lv_at hl 0 rfl) ?_
    refine lv_iconst (v := (-1)) hx hb dX7_power_9 (by decide) ?_
    refine hv_cVI (rm := rm_X7_no) (As := [.int (-1)]) (rest := []) (k := 1) (ci := 7) hx hb hml hown hKK hH cf7 k1 (m_X7_no v0 (-1) _ _ hw) cw_X7_170 ⟨Nat.le_of_ble_eq_true rfl, Nat.le_of_ble_eq_true rfl⟩ rfl hl.1 rfl (Nat.le_of_ble_eq_true rfl) ⟨Nat.le_of_ble_eq_true rfl, Nat.le_of_ble_eq_true rfl⟩ dX7_power_10 (fun r6 h5 H locs hH hw => ?_)
    exact hv_iret hx hb hr hlk hH hw dX7_power_13
