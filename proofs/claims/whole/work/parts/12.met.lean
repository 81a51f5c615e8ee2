abbrev rm_X6_faultOfAsked : Room := { frames := 1, cells := 0, slots := 0, locals := 23 }
set_option maxHeartbeats 4000000 in
set_option maxRecDepth 100000 in
theorem m_X6_faultOfAsked {l : Launch} {G : Gl} {B sz : Nat} {S : St} (v0 : Int32) (v1 : Int32) (v2 : Int32) (v3 : Int32) (v4 : Int32) (v5 : Int32) (h : Hp) (Q : Int32 → Hp → Prop) (hw : w_X6_faultOfAsked S v0 v1 v2 v3 v4 v5 h Q) : MI l G B sz S yX6_faultOfAsked cX6_faultOfAsked 8 .int rm_X6_faultOfAsked [.int v0, .int v1, .int v2, .int v3, .int v4, .int v5] h Q := by
  refine met_of rfl rfl ?_
  intro p e s m args below meth c hMB H ls hH hl
  obtain ⟨hx, hb, hml, hown, hKK, hr, hlk⟩ := hMB
  replace hl : lv_has ls 8 [(0, .int v0), (1, .int v1), (2, .int v2), (3, .int v3), (4, .int v4), (5, .int v5)] := hl
  unfold w_X6_faultOfAsked at hw
  show W p l e rm_X6_faultOfAsked s m args below meth c H [] 0 0 (QI G B S sz below args s Q) (F0 m 0 ls [])
  generalize ([] : List Loc) = locs at hH ⊢
  refine lv_iload_n hx hb dX6_faultOfAsked_0 rfl (lv_at hl 0 rfl) ?_
  refine lv_iload_n hx hb dX6_faultOfAsked_1 rfl (lv_at hl 1 rfl) ?_
  refine lv_iload_n hx hb dX6_faultOfAsked_2 rfl (lv_at hl 2 rfl) ?_
  refine lv_iload_n hx hb dX6_faultOfAsked_3 rfl (lv_at hl 3 rfl) ?_
  refine hv_cSI (rm := rm_X6_faultOfNumber) (As := [.int v0, .int v1, .int v2, .int v3]) (rest := []) (k := 4) hx hb hml hown hKK hH (m_X6_faultOfNumber v0 v1 v2 v3 _ _ hw) cw_X6_68 ⟨Nat.le_of_ble_eq_true rfl, Nat.le_of_ble_eq_true rfl⟩ rfl hl.1 rfl (Nat.le_of_ble_eq_true rfl) ⟨Nat.le_of_ble_eq_true rfl, Nat.le_of_ble_eq_true rfl⟩ dX6_faultOfAsked_4 (fun r2 h1 H locs hH hw => ?_)
  refine lv_istore (lv' := [(6, .int r2), (0, .int v0), (1, .int v1), (2, .int v2), (3, .int v3), (4, .int v4), (5, .int v5)]) hx hb dX6_faultOfAsked_7 hl (by decide) rfl (fun ls hl => ?_)
  refine lv_iload hx hb dX6_faultOfAsked_9 (lv_at hl 5 rfl) ?_
  refine lv_if_lt (tgt := 21) hx hb dX6_faultOfAsked_11 (by decide) (fun c3 => ?_) (fun c3 => ?_)
  · have hw := ite_t hw c3
    refine lv_iconst (v := (nI 1)) hx hb dX6_faultOfAsked_21 (by decide) ?_
    refine lv_goto (tgt := 26) hx hb dX6_faultOfAsked_22 (by decide) ?_
    refine lv_istore (lv' := [(7, .int (nI 1)), (6, .int r2), (0, .int v0), (1, .int v1), (2, .int v2), (3, .int v3), (4, .int v4), (5, .int v5)]) hx hb dX6_faultOfAsked_26 hl (by decide) rfl (fun ls hl => ?_)
    refine lv_iload hx hb dX6_faultOfAsked_28 (lv_at hl 1 rfl) ?_
    refine lv_if_ne (tgt := 43) hx hb dX6_faultOfAsked_30 (by decide) (fun c4 => ?_) (fun c4 => ?_)
    · have hw := ite_f hw c4
      refine lv_iload hx hb dX6_faultOfAsked_43 (lv_at hl 1 rfl) ?_
      exact hv_iret hx hb hr hlk hH hw dX6_faultOfAsked_45
    · have hw := ite_t hw c4
      refine lv_iload hx hb dX6_faultOfAsked_33 (lv_at hl 0 rfl) ?_
      refine lv_if_eq (tgt := 43) hx hb dX6_faultOfAsked_35 (by decide) (fun c => absurd c (by decide)) (fun _ => ?_)
      refine lv_bipush (v := (-2)) hx hb dX6_faultOfAsked_38 (by decide) ?_
      refine lv_goto (tgt := 45) hx hb dX6_faultOfAsked_40 (by decide) ?_
      exact hv_iret hx hb hr hlk hH hw dX6_faultOfAsked_45
  · have hw := ite_f hw c3
    refine lv_iload hx hb dX6_faultOfAsked_14 (lv_at hl 5 rfl) ?_
    refine lv_iload hx hb dX6_faultOfAsked_16 (lv_at hl 6 rfl) ?_
    refine lv_icmp_le (tgt := 25) hx hb dX6_faultOfAsked_18 (by decide) (fun c5 => ?_) (fun c5 => ?_)
    · have hw := ite_t hw c5
      refine lv_iconst (v := (nI 0)) hx hb dX6_faultOfAsked_25 (by decide) ?_
      refine lv_istore (lv' := [(7, .int (nI 0)), (6, .int r2), (0, .int v0), (1, .int v1), (2, .int v2), (3, .int v3), (4, .int v4), (5, .int v5)]) hx hb dX6_faultOfAsked_26 hl (by decide) rfl (fun ls hl => ?_)
      refine lv_iload hx hb dX6_faultOfAsked_28 (lv_at hl 1 rfl) ?_
      refine lv_if_ne (tgt := 43) hx hb dX6_faultOfAsked_30 (by decide) (fun c6 => ?_) (fun c6 => ?_)
      · have hw := ite_f hw c6
        refine lv_iload hx hb dX6_faultOfAsked_43 (lv_at hl 1 rfl) ?_
        exact hv_iret hx hb hr hlk hH hw dX6_faultOfAsked_45
      · have hw := ite_t hw c6
        refine lv_iload hx hb dX6_faultOfAsked_33 (lv_at hl 0 rfl) ?_
        refine lv_if_eq (tgt := 43) hx hb dX6_faultOfAsked_35 (by decide) (fun _ => ?_) (fun c => absurd (by decide) c)
        refine lv_iload hx hb dX6_faultOfAsked_43 (lv_at hl 1 rfl) ?_
        exact hv_iret hx hb hr hlk hH hw dX6_faultOfAsked_45
    · have hw := ite_f hw c5
      refine lv_iconst (v := (nI 1)) hx hb dX6_faultOfAsked_21 (by decide) ?_
      refine lv_goto (tgt := 26) hx hb dX6_faultOfAsked_22 (by decide) ?_
      refine lv_istore (lv' := [(7, .int (nI 1)), (6, .int r2), (0, .int v0), (1, .int v1), (2, .int v2), (3, .int v3), (4, .int v4), (5, .int v5)]) hx hb dX6_faultOfAsked_26 hl (by decide) rfl (fun ls hl => ?_)
      refine lv_iload hx hb dX6_faultOfAsked_28 (lv_at hl 1 rfl) ?_
      refine lv_if_ne (tgt := 43) hx hb dX6_faultOfAsked_30 (by decide) (fun c7 => ?_) (fun c7 => ?_)
      · have hw := ite_f hw c7
        refine lv_iload hx hb dX6_faultOfAsked_43 (lv_at hl 1 rfl) ?_
        exact hv_iret hx hb hr hlk hH hw dX6_faultOfAsked_45
      · have hw := ite_t hw c7
        refine lv_iload hx hb dX6_faultOfAsked_33 (lv_at hl 0 rfl) ?_
        refine lv_if_eq (tgt := 43) hx hb dX6_faultOfAsked_35 (by decide) (fun c => absurd c (by decide)) (fun _ => ?_)
        refine lv_bipush (v := (-2)) hx hb dX6_faultOfAsked_38 (by decide) ?_
        refine lv_goto (tgt := 45) hx hb dX6_faultOfAsked_40 (by decide) ?_
        exact hv_iret hx hb hr hlk hH hw dX6_faultOfAsked_45
abbrev rm_X6_feed : Room := { frames := 2, cells := 0, slots := 0, locals := 41 }
set_option maxHeartbeats 4000000 in
set_option maxRecDepth 100000 in
theorem m_X6_feed {l : Launch} {G : Gl} {B sz : Nat} {S : St} (v0 : Nat) (v1 : Int32) (h : Hp) (Q : Int32 → Hp → Prop) (hw : w_X6_feed S v0 v1 h Q) : MI l G B sz S yX6_feed cX6_feed 2 .int rm_X6_feed [.ref v0, .int v1] h Q := by
  refine met_of rfl rfl ?_
  intro p e s m args below meth c hMB H ls hH hl
  obtain ⟨hx, hb, hml, hown, hKK, hr, hlk⟩ := hMB
  replace hl : lv_has ls 2 [(0, .ref v0), (1, .int v1)] := hl
  unfold w_X6_feed at hw
  show W p l e rm_X6_feed s m args below meth c H [] 0 0 (QI G B S sz below args s Q) (F0 m 0 ls [])
  generalize ([] : List Loc) = locs at hH ⊢
  refine lv_iload_n hx hb dX6_feed_0 rfl (lv_at hl 1 rfl) ?_
  refine lv_if_ge (tgt := 11) hx hb dX6_feed_1 (by decide) (fun c1 => ?_) (fun c1 => ?_)
  · have hw := ite_t hw c1
    refine lv_iload_n hx hb dX6_feed_11 rfl (lv_at hl 1 rfl) ?_
    refine lv_sipush (v := (nI 255)) hx hb dX6_feed_12 (by decide) ?_
    refine lv_icmp_gt (tgt := 28) hx hb dX6_feed_15 (by decide) (fun c2 => ?_) (fun c2 => ?_)
    · have hw := ite_t hw c2
      refine lv_aload_n hx hb dX6_feed_28 rfl (lv_at hl 0 rfl) ?_
      refine lv_bipush (v := (-6)) hx hb dX6_feed_29 (by decide) ?_
      obtain ⟨k3, hw⟩ := hw
      refine hv_cVI (rm := rm_X6_refuse) (As := [.int (-6)]) (rest := []) (k := 1) (ci := 6) hx hb hml hown hKK hH cf6 k3 (m_X6_refuse v0 (-6) _ _ hw) cw_X6_56 ⟨Nat.le_of_ble_eq_true rfl, Nat.le_of_ble_eq_true rfl⟩ rfl hl.1 rfl (Nat.le_of_ble_eq_true rfl) ⟨Nat.le_of_ble_eq_true rfl, Nat.le_of_ble_eq_true rfl⟩ dX6_feed_31 (fun r5 h4 H locs hH hw => ?_)
      exact hv_iret hx hb hr hlk hH hw dX6_feed_34
    · have hw := ite_f hw c2
      refine lv_aload_n hx hb dX6_feed_18 rfl (lv_at hl 0 rfl) ?_
      obtain ⟨k6, hw⟩ := hw
      refine hv_get (ci := 6) (k := 4) (v := .ref (S.2 v0 4)) hx hb hown hKK hH cf6 (by decide) fl_X6_29 rfl k6 rfl dX6_feed_19 ?_
      obtain ⟨k7, hw⟩ := hw
      refine hv_cVI (rm := rm_X4_isFull) (As := []) (rest := []) (k := 0) (ci := 4) hx hb hml hown hKK hH cf4 k7 (m_X4_isFull (S.2 v0 4) _ _ hw) cw_X6_72 ⟨Nat.le_of_ble_eq_true rfl, Nat.le_of_ble_eq_true rfl⟩ rfl hl.1 rfl (Nat.le_of_ble_eq_true rfl) ⟨Nat.le_of_ble_eq_true rfl, Nat.le_of_ble_eq_true rfl⟩ dX6_feed_22 (fun r9 h8 H locs hH hw => ?_)
      refine lv_if_eq (tgt := 35) hx hb dX6_feed_25 (by decide) (fun c10 => ?_) (fun c10 => ?_)
      · have hw := ite_t hw c10
        refine lv_aload_n hx hb dX6_feed_35 rfl (lv_at hl 0 rfl) ?_
        refine hv_get (ci := 6) (k := 4) (v := .ref (S.2 v0 4)) hx hb hown hKK hH cf6 (by decide) fl_X6_29 rfl k6 rfl dX6_feed_36 ?_
        refine lv_iload_n hx hb dX6_feed_39 rfl (lv_at hl 1 rfl) ?_
        refine hv_cVI (rm := rm_X4_addLetter) (As := [.int v1]) (rest := []) (k := 1) (ci := 4) hx hb hml hown hKK hH cf4 k7 (m_X4_addLetter (S.2 v0 4) v1 _ _ hw) cw_X6_76 ⟨Nat.le_of_ble_eq_true rfl, Nat.le_of_ble_eq_true rfl⟩ rfl hl.1 rfl (Nat.le_of_ble_eq_true rfl) ⟨Nat.le_of_ble_eq_true rfl, Nat.le_of_ble_eq_true rfl⟩ dX6_feed_40 (fun r12 h11 H locs hH hw => ?_)
        exact hv_iret hx hb hr hlk hH hw dX6_feed_43
      · have hw := ite_f hw c10
        refine lv_aload_n hx hb dX6_feed_28 rfl (lv_at hl 0 rfl) ?_
        refine lv_bipush (v := (-6)) hx hb dX6_feed_29 (by decide) ?_
        refine hv_cVI (rm := rm_X6_refuse) (As := [.int (-6)]) (rest := []) (k := 1) (ci := 6) hx hb hml hown hKK hH cf6 k6 (m_X6_refuse v0 (-6) _ _ hw) cw_X6_56 ⟨Nat.le_of_ble_eq_true rfl, Nat.le_of_ble_eq_true rfl⟩ rfl hl.1 rfl (Nat.le_of_ble_eq_true rfl) ⟨Nat.le_of_ble_eq_true rfl, Nat.le_of_ble_eq_true rfl⟩ dX6_feed_31 (fun r14 h13 H locs hH hw => ?_)
        exact hv_iret hx hb hr hlk hH hw dX6_feed_34
  · have hw := ite_f hw c1
    refine lv_aload_n hx hb dX6_feed_4 rfl (lv_at hl 0 rfl) ?_
    refine lv_bipush (v := (-4)) hx hb dX6_feed_5 (by decide) ?_
    obtain ⟨k15, hw⟩ := hw
    refine hv_cVI (rm := rm_X6_refuse) (As := [.int (-4)]) (rest := []) (k := 1) (ci := 6) hx hb hml hown hKK hH cf6 k15 (m_X6_refuse v0 (-4) _ _ hw) cw_X6_56 ⟨Nat.le_of_ble_eq_true rfl, Nat.le_of_ble_eq_true rfl⟩ rfl hl.1 rfl (Nat.le_of_ble_eq_true rfl) ⟨Nat.le_of_ble_eq_true rfl, Nat.le_of_ble_eq_true rfl⟩ dX6_feed_7 (fun r17 h16 H locs hH hw => ?_)
    exact hv_iret hx hb hr hlk hH hw dX6_feed_10
abbrev rm_X6_head : Room := { frames := 2, cells := 0, slots := 0, locals := 44 }
set_option maxHeartbeats 4000000 in
set_option maxRecDepth 100000 in
theorem m_X6_head {l : Launch} {G : Gl} {B sz : Nat} {S : St} (v0 : Nat) (v1 : Int32) (v2 : Int32) (h : Hp) (Q : Int32 → Hp → Prop) (hw : w_X6_head S v0 v1 v2 h Q) : MI l G B sz S yX6_head cX6_head 4 .int rm_X6_head [.ref v0, .int v1, .int v2] h Q := by
  refine met_of rfl rfl ?_
  intro p e s m args below meth c hMB H ls hH hl
  obtain ⟨hx, hb, hml, hown, hKK, hr, hlk⟩ := hMB
  replace hl : lv_has ls 4 [(0, .ref v0), (1, .int v1), (2, .int v2)] := hl
  unfold w_X6_head at hw
  show W p l e rm_X6_head s m args below meth c H [] 0 0 (QI G B S sz below args s Q) (F0 m 0 ls [])
  generalize ([] : List Loc) = locs at hH ⊢
  refine lv_aload_n hx hb dX6_head_0 rfl (lv_at hl 0 rfl) ?_
  refine lv_iload_n hx hb dX6_head_1 rfl (lv_at hl 1 rfl) ?_
  obtain ⟨k1, hw⟩ := hw
  refine hv_cVI (rm := rm_X6_noHead) (As := [.int v1]) (rest := []) (k := 1) (ci := 6) hx hb hml hown hKK hH cf6 k1 (m_X6_noHead v0 v1 _ _ hw) cw_X6_64 ⟨Nat.le_of_ble_eq_true rfl, Nat.le_of_ble_eq_true rfl⟩ rfl hl.1 rfl (Nat.le_of_ble_eq_true rfl) ⟨Nat.le_of_ble_eq_true rfl, Nat.le_of_ble_eq_true rfl⟩ dX6_head_2 (fun r3 h2 H locs hH hw => ?_)
  refine lv_if_eq (tgt := 14) hx hb dX6_head_5 (by decide) (fun c4 => ?_) (fun c4 => ?_)
  · have hw := ite_t hw c4
    refine lv_aload_n hx hb dX6_head_14 rfl (lv_at hl 0 rfl) ?_
    refine hv_get (ci := 6) (k := 0) (v := .ref (S.2 v0 0)) hx hb hown hKK hH cf6 (by decide) fl_X6_10 rfl k1 rfl dX6_head_15 ?_
    obtain ⟨k5, hw⟩ := hw
    refine hv_getN (ci := 1) (k := 3) (v := .ref (S.2 (S.2 v0 0) 3)) hx hb hown hKK hH cf1 (by decide) fl_X6_105 rfl k5 rfl dX6_head_18 ?_
    refine lv_iload_n hx hb dX6_head_21 rfl (lv_at hl 1 rfl) ?_
    obtain ⟨k6, hw⟩ := hw
    refine hv_aald (t := 1) hx hb (by decide) hKK hH k6 dX6_head_22 ?_
    refine lv_astore_n (lv' := [(3, .ref (S.2 (S.2 (S.2 v0 0) 3) (ix v1))), (0, .ref v0), (1, .int v1), (2, .int v2)]) hx hb dX6_head_23 rfl hl (by decide) rfl (fun ls hl => ?_)
    refine lv_iload_n hx hb dX6_head_24 rfl (lv_at hl 3 rfl) ?_
    by_cases c7 : v2 = (nI 0)
    · have hw := ite_t hw c7
      refine lv_tableIn (tgt := 88) hx hb dX6_head_25 (by rw [c7]; decide) (by rw [c7]; decide) (by rw [c7]; rfl) (by decide) ?_
      refine lv_aload_n hx hb dX6_head_88 rfl (lv_at hl 0 rfl) ?_
      obtain ⟨k8, hw⟩ := hw
      refine hv_getN (ci := 0) (k := 0) (v := .int (h2 (S.2 (S.2 (S.2 v0 0) 3) (ix v1)) 0)) hx hb hown hKK hH cf0 (by decide) fl_X6_109 rfl k8 rfl dX6_head_89 ?_
      exact hv_iret hx hb hr hlk hH hw dX6_head_92
    have hw := ite_f hw c7
    by_cases c9 : v2 = (nI 1)
    · have hw := ite_t hw c9
      refine lv_tableIn (tgt := 93) hx hb dX6_head_25 (by rw [c9]; decide) (by rw [c9]; decide) (by rw [c9]; rfl) (by decide) ?_
      refine lv_aload_n hx hb dX6_head_93 rfl (lv_at hl 0 rfl) ?_
      obtain ⟨k10, hw⟩ := hw
      refine hv_getN (ci := 0) (k := 1) (v := .int (h2 (S.2 (S.2 (S.2 v0 0) 3) (ix v1)) 1)) hx hb hown hKK hH cf0 (by decide) fl_X6_114 rfl k10 rfl dX6_head_94 ?_
      exact hv_iret hx hb hr hlk hH hw dX6_head_97
    have hw := ite_f hw c9
    by_cases c11 : v2 = (nI 2)
    · have hw := ite_t hw c11
      refine lv_tableIn (tgt := 98) hx hb dX6_head_25 (by rw [c11]; decide) (by rw [c11]; decide) (by rw [c11]; rfl) (by decide) ?_
      refine lv_aload_n hx hb dX6_head_98 rfl (lv_at hl 0 rfl) ?_
      obtain ⟨k12, hw⟩ := hw
      refine hv_getN (ci := 0) (k := 4) (v := .int (h2 (S.2 (S.2 (S.2 v0 0) 3) (ix v1)) 4)) hx hb hown hKK hH cf0 (by decide) fl_X6_117 rfl k12 rfl dX6_head_99 ?_
      exact hv_iret hx hb hr hlk hH hw dX6_head_102
    have hw := ite_f hw c11
    by_cases c13 : v2 = (nI 3)
    · have hw := ite_t hw c13
      refine lv_tableIn (tgt := 103) hx hb dX6_head_25 (by rw [c13]; decide) (by rw [c13]; decide) (by rw [c13]; rfl) (by decide) ?_
      refine lv_aload_n hx hb dX6_head_103 rfl (lv_at hl 0 rfl) ?_
      obtain ⟨k14, hw⟩ := hw
      refine hv_getN (ci := 0) (k := 5) (v := .int (h2 (S.2 (S.2 (S.2 v0 0) 3) (ix v1)) 5)) hx hb hown hKK hH cf0 (by decide) fl_X6_120 rfl k14 rfl dX6_head_104 ?_
      exact hv_iret hx hb hr hlk hH hw dX6_head_107
    have hw := ite_f hw c13
    by_cases c15 : v2 = (nI 4)
    · have hw := ite_t hw c15
      refine lv_tableIn (tgt := 108) hx hb dX6_head_25 (by rw [c15]; decide) (by rw [c15]; decide) (by rw [c15]; rfl) (by decide) ?_
      refine lv_aload_n hx hb dX6_head_108 rfl (lv_at hl 0 rfl) ?_
      obtain ⟨k16, hw⟩ := hw
      refine hv_getN (ci := 0) (k := 6) (v := .int (h2 (S.2 (S.2 (S.2 v0 0) 3) (ix v1)) 6)) hx hb hown hKK hH cf0 (by decide) fl_X6_123 rfl k16 rfl dX6_head_109 ?_
      exact hv_iret hx hb hr hlk hH hw dX6_head_112
    have hw := ite_f hw c15
    by_cases c17 : v2 = (nI 5)
    · have hw := ite_t hw c17
      refine lv_tableIn (tgt := 113) hx hb dX6_head_25 (by rw [c17]; decide) (by rw [c17]; decide) (by rw [c17]; rfl) (by decide) ?_
      refine lv_aload_n hx hb dX6_head_113 rfl (lv_at hl 0 rfl) ?_
      obtain ⟨k18, hw⟩ := hw
      refine hv_getN (ci := 0) (k := 7) (v := .int (h2 (S.2 (S.2 (S.2 v0 0) 3) (ix v1)) 7)) hx hb hown hKK hH cf0 (by decide) fl_X6_126 rfl k18 rfl dX6_head_114 ?_
      exact hv_iret hx hb hr hlk hH hw dX6_head_117
    have hw := ite_f hw c17
    by_cases c19 : v2 = (nI 6)
    · have hw := ite_t hw c19
      refine lv_tableIn (tgt := 118) hx hb dX6_head_25 (by rw [c19]; decide) (by rw [c19]; decide) (by rw [c19]; rfl) (by decide) ?_
      refine lv_aload_n hx hb dX6_head_118 rfl (lv_at hl 0 rfl) ?_
      obtain ⟨k20, hw⟩ := hw
      refine hv_getN (ci := 0) (k := 8) (v := .int (h2 (S.2 (S.2 (S.2 v0 0) 3) (ix v1)) 8)) hx hb hown hKK hH cf0 (by decide) fl_X6_129 rfl k20 rfl dX6_head_119 ?_
      refine lv_if_eq (tgt := 129) hx hb dX6_head_122 (by decide) (fun c21 => ?_) (fun c21 => ?_)
      · have hw := ite_t hw c21
        refine lv_iconst (v := (nI 0)) hx hb dX6_head_129 (by decide) ?_
        exact hv_iret hx hb hr hlk hH hw dX6_head_130
      · have hw := ite_f hw c21
        refine lv_iconst (v := (nI 1)) hx hb dX6_head_125 (by decide) ?_
        refine lv_goto (tgt := 130) hx hb dX6_head_126 (by decide) ?_
        exact hv_iret hx hb hr hlk hH hw dX6_head_130
    have hw := ite_f hw c19
    by_cases c22 : v2 = (nI 7)
    · have hw := ite_t hw c22
      refine lv_tableIn (tgt := 131) hx hb dX6_head_25 (by rw [c22]; decide) (by rw [c22]; decide) (by rw [c22]; rfl) (by decide) ?_
      refine lv_aload_n hx hb dX6_head_131 rfl (lv_at hl 0 rfl) ?_
      obtain ⟨k23, hw⟩ := hw
      refine hv_getN (ci := 0) (k := 3) (v := .int (h2 (S.2 (S.2 (S.2 v0 0) 3) (ix v1)) 3)) hx hb hown hKK hH cf0 (by decide) fl_X6_133 rfl k23 rfl dX6_head_132 ?_
      exact hv_iret hx hb hr hlk hH hw dX6_head_135
    have hw := ite_f hw c22
    by_cases c24 : v2 = (nI 8)
    · have hw := ite_t hw c24
      refine lv_tableIn (tgt := 136) hx hb dX6_head_25 (by rw [c24]; decide) (by rw [c24]; decide) (by rw [c24]; rfl) (by decide) ?_
      refine lv_aload_n hx hb dX6_head_136 rfl (lv_at hl 0 rfl) ?_
      obtain ⟨k25, hw⟩ := hw
      refine hv_cVI (rm := rm_X0_steps) (As := []) (rest := []) (k := 0) (ci := 0) hx hb hml hown hKK hH cf0 k25 (m_X0_steps (S.2 (S.2 (S.2 v0 0) 3) (ix v1)) _ _ hw) cw_X6_136 ⟨Nat.le_of_ble_eq_true rfl, Nat.le_of_ble_eq_true rfl⟩ rfl hl.1 rfl (Nat.le_of_ble_eq_true rfl) ⟨Nat.le_of_ble_eq_true rfl, Nat.le_of_ble_eq_true rfl⟩ dX6_head_137 (fun r27 h26 H locs hH hw => ?_)
      exact hv_iret hx hb hr hlk hH hw dX6_head_140
    have hw := ite_f hw c24
    by_cases c28 : v2 = (nI 9)
    · have hw := ite_t hw c28
      refine lv_tableIn (tgt := 141) hx hb dX6_head_25 (by rw [c28]; decide) (by rw [c28]; decide) (by rw [c28]; rfl) (by decide) ?_
      refine lv_aload_n hx hb dX6_head_141 rfl (lv_at hl 0 rfl) ?_
      obtain ⟨k29, hw⟩ := hw
      refine hv_cVI (rm := rm_X0_weight) (As := []) (rest := []) (k := 0) (ci := 0) hx hb hml hown hKK hH cf0 k29 (m_X0_weight (S.2 (S.2 (S.2 v0 0) 3) (ix v1)) _ _ hw) cw_X6_139 ⟨Nat.le_of_ble_eq_true rfl, Nat.le_of_ble_eq_true rfl⟩ rfl hl.1 rfl (Nat.le_of_ble_eq_true rfl) ⟨Nat.le_of_ble_eq_true rfl, Nat.le_of_ble_eq_true rfl⟩ dX6_head_142 (fun r31 h30 H locs hH hw => ?_)
      exact hv_iret hx hb hr hlk hH hw dX6_head_145
    have hw := ite_f hw c28
    by_cases c32 : v2 = (nI 10)
    · have hw := ite_t hw c32
      refine lv_tableIn (tgt := 146) hx hb dX6_head_25 (by rw [c32]; decide) (by rw [c32]; decide) (by rw [c32]; rfl) (by decide) ?_
      refine lv_aload_n hx hb dX6_head_146 rfl (lv_at hl 0 rfl) ?_
      refine lv_aload_n hx hb dX6_head_147 rfl (lv_at hl 1 rfl) ?_
      refine hv_get (ci := 6) (k := 0) (v := .ref (S.2 v0 0)) hx hb hown hKK hH cf6 (by decide) fl_X6_10 rfl k1 rfl dX6_head_148 ?_
      refine hv_getN (ci := 1) (k := 5) (v := .int (h2 (S.2 v0 0) 5)) hx hb hown hKK hH cf1 (by decide) fl_X6_142 rfl k5 rfl dX6_head_151 ?_
      refine lv_iconst (v := (nI 1)) hx hb dX6_head_154 (by decide) ?_
      refine lv_iadd hx hb dX6_head_155 ?_
      obtain ⟨k33, hw⟩ := hw
      refine hv_cVI (rm := rm_X0_veers) (As := [.int ((h2 (S.2 v0 0) 5) + (nI 1))]) (rest := []) (k := 1) (ci := 0) hx hb hml hown hKK hH cf0 k33 (m_X0_veers (S.2 (S.2 (S.2 v0 0) 3) (ix v1)) ((h2 (S.2 v0 0) 5) + (nI 1)) _ _ hw) cw_X6_145 ⟨Nat.le_of_ble_eq_true rfl, Nat.le_of_ble_eq_true rfl⟩ rfl hl.1 rfl (Nat.le_of_ble_eq_true rfl) ⟨Nat.le_of_ble_eq_true rfl, Nat.le_of_ble_eq_true rfl⟩ dX6_head_156 (fun r35 h34 H locs hH hw => ?_)
      exact hv_iret hx hb hr hlk hH hw dX6_head_159
    have hw := ite_f hw c32
    by_cases c36 : v2 = (nI 11)
    · have hw := ite_t hw c36
      refine lv_tableIn (tgt := 160) hx hb dX6_head_25 (by rw [c36]; decide) (by rw [c36]; decide) (by rw [c36]; rfl) (by decide) ?_
      refine lv_aload_n hx hb dX6_head_160 rfl (lv_at hl 0 rfl) ?_
      obtain ⟨k37, hw⟩ := hw
      refine hv_cVI (rm := rm_X0_enough) (As := []) (rest := []) (k := 0) (ci := 0) hx hb hml hown hKK hH cf0 k37 (m_X0_enough (S.2 (S.2 (S.2 v0 0) 3) (ix v1)) _ _ hw) cw_X6_148 ⟨Nat.le_of_ble_eq_true rfl, Nat.le_of_ble_eq_true rfl⟩ rfl hl.1 rfl (Nat.le_of_ble_eq_true rfl) ⟨Nat.le_of_ble_eq_true rfl, Nat.le_of_ble_eq_true rfl⟩ dX6_head_161 (fun r39 h38 H locs hH hw => ?_)
      exact hv_iret hx hb hr hlk hH hw dX6_head_164
    have hw := ite_f hw c36
    refine lv_tableOut (tgt := 165) hx hb dX6_head_25 (by have := ne_toInt (k := 0) (by decide) c7; have := ne_toInt (k := 1) (by decide) c9; have := ne_toInt (k := 2) (by decide) c11; have := ne_toInt (k := 3) (by decide) c13; have := ne_toInt (k := 4) (by decide) c15; have := ne_toInt (k := 5) (by decide) c17; have := ne_toInt (k := 6) (by decide) c19; have := ne_toInt (k := 7) (by decide) c22; have := ne_toInt (k := 8) (by decide) c24; have := ne_toInt (k := 9) (by decide) c28; have := ne_toInt (k := 10) (by decide) c32; have := ne_toInt (k := 11) (by decide) c36; omega) (by decide) ?_
    refine lv_aload_n hx hb dX6_head_165 rfl (lv_at hl 1 rfl) ?_
    refine lv_bipush (v := (-2)) hx hb dX6_head_166 (by decide) ?_
    refine hv_cVI (rm := rm_X6_refuse) (As := [.int (-2)]) (rest := []) (k := 1) (ci := 6) hx hb hml hown hKK hH cf6 k1 (m_X6_refuse v0 (-2) _ _ hw) cw_X6_56 ⟨Nat.le_of_ble_eq_true rfl, Nat.le_of_ble_eq_true rfl⟩ rfl hl.1 rfl (Nat.le_of_ble_eq_true rfl) ⟨Nat.le_of_ble_eq_true rfl, Nat.le_of_ble_eq_true rfl⟩ dX6_head_168 (fun r41 h40 H locs hH hw => ?_)
    exact hv_iret hx hb hr hlk hH hw dX6_head_171
  · have hw := ite_f hw c4
    refine lv_aload_n hx hb dX6_head_8 rfl (lv_at hl 0 rfl) ?_
    refine lv_iconst (v := (-1)) hx hb dX6_head_9 (by decide) ?_
    refine hv_cVI (rm := rm_X6_refuse) (As := [.int (-1)]) (rest := []) (k := 1) (ci := 6) hx hb hml hown hKK hH cf6 k1 (m_X6_refuse v0 (-1) _ _ hw) cw_X6_56 ⟨Nat.le_of_ble_eq_true rfl, Nat.le_of_ble_eq_true rfl⟩ rfl hl.1 rfl (Nat.le_of_ble_eq_true rfl) ⟨Nat.le_of_ble_eq_true rfl, Nat.le_of_ble_eq_true rfl⟩ dX6_head_10 (fun r43 h42 H locs hH hw => ?_)
    exact hv_iret hx hb hr hlk hH hw dX6_head_13
abbrev rm_X6_field : Room := { frames := 1, cells := 0, slots := 0, locals := 23 }
set_option maxHeartbeats 4000000 in
set_option maxRecDepth 100000 in
theorem m_X6_field {l : Launch} {G : Gl} {B sz : Nat} {S : St} (v0 : Nat) (v1 : Int32) (v2 : Int32) (h : Hp) (Q : Int32 → Hp → Prop) (hw : w_X6_field S v0 v1 v2 h Q) : MI l G B sz S yX6_field cX6_field 3 .int rm_X6_field [.ref v0, .int v1, .int v2] h Q := by
  refine met_of rfl rfl ?_
  intro p e s m args below meth c hMB H ls hH hl
  obtain ⟨hx, hb, hml, hown, hKK, hr, hlk⟩ := hMB
  replace hl : lv_has ls 3 [(0, .ref v0), (1, .int v1), (2, .int v2)] := hl
  unfold w_X6_field at hw
  show W p l e rm_X6_field s m args below meth c H [] 0 0 (QI G B S sz below args s Q) (F0 m 0 ls [])
  generalize ([] : List Loc) = locs at hH ⊢
  refine lv_iload_n hx hb dX6_field_0 rfl (lv_at hl 1 rfl) ?_
  refine hv_cSI (rm := rm_X6_noField) (As := [.int v1]) (rest := []) (k := 1) hx hb hml hown hKK hH (m_X6_noField v1 _ _ hw) cw_X6_151 ⟨Nat.le_of_ble_eq_true rfl, Nat.le_of_ble_eq_true rfl⟩ rfl hl.1 rfl (Nat.le_of_ble_eq_true rfl) ⟨Nat.le_of_ble_eq_true rfl, Nat.le_of_ble_eq_true rfl⟩ dX6_field_1 (fun r2 h1 H locs hH hw => ?_)
  refine lv_if_eq (tgt := 13) hx hb dX6_field_4 (by decide) (fun c3 => ?_) (fun c3 => ?_)
  · have hw := ite_t hw c3
    refine lv_iload_n hx hb dX6_field_13 rfl (lv_at hl 2 rfl) ?_
    by_cases c4 : v2 = (nI 0)
    · have hw := ite_t hw c4
      refine lv_tableIn (tgt := 44) hx hb dX6_field_14 (by rw [c4]; decide) (by rw [c4]; decide) (by rw [c4]; rfl) (by decide) ?_
      refine lv_aload_n hx hb dX6_field_44 rfl (lv_at hl 0 rfl) ?_
      obtain ⟨k5, hw⟩ := hw
      refine hv_get (ci := 6) (k := 0) (v := .ref (S.2 v0 0)) hx hb hown hKK hH cf6 (by decide) fl_X6_10 rfl k5 rfl dX6_field_45 ?_
      obtain ⟨k6, hw⟩ := hw
      refine hv_getN (ci := 1) (k := 0) (v := .ref (S.2 (S.2 v0 0) 0)) hx hb hown hKK hH cf1 (by decide) fl_X6_154 rfl k6 rfl dX6_field_48 ?_
      refine lv_iload_n hx hb dX6_field_51 rfl (lv_at hl 1 rfl) ?_
      obtain ⟨k7, hw⟩ := hw
      refine hv_iald hx hb hKK hH k7 dX6_field_52 ?_
      exact hv_iret hx hb hr hlk hH hw dX6_field_53
    have hw := ite_f hw c4
    by_cases c8 : v2 = (nI 1)
    · have hw := ite_t hw c8
      refine lv_tableIn (tgt := 54) hx hb dX6_field_14 (by rw [c8]; decide) (by rw [c8]; decide) (by rw [c8]; rfl) (by decide) ?_
      refine lv_aload_n hx hb dX6_field_54 rfl (lv_at hl 0 rfl) ?_
      obtain ⟨k9, hw⟩ := hw
      refine hv_get (ci := 6) (k := 0) (v := .ref (S.2 v0 0)) hx hb hown hKK hH cf6 (by decide) fl_X6_10 rfl k9 rfl dX6_field_55 ?_
      obtain ⟨k10, hw⟩ := hw
      refine hv_getN (ci := 1) (k := 1) (v := .ref (S.2 (S.2 v0 0) 1)) hx hb hown hKK hH cf1 (by decide) fl_X6_157 rfl k10 rfl dX6_field_58 ?_
      refine lv_iload_n hx hb dX6_field_61 rfl (lv_at hl 1 rfl) ?_
      obtain ⟨k11, hw⟩ := hw
      refine hv_iald hx hb hKK hH k11 dX6_field_62 ?_
      exact hv_iret hx hb hr hlk hH hw dX6_field_63
    have hw := ite_f hw c8
    by_cases c12 : v2 = (nI 2)
    · have hw := ite_t hw c12
      refine lv_tableIn (tgt := 64) hx hb dX6_field_14 (by rw [c12]; decide) (by rw [c12]; decide) (by rw [c12]; rfl) (by decide) ?_
      refine lv_aload_n hx hb dX6_field_64 rfl (lv_at hl 0 rfl) ?_
      obtain ⟨k13, hw⟩ := hw
      refine hv_get (ci := 6) (k := 0) (v := .ref (S.2 v0 0)) hx hb hown hKK hH cf6 (by decide) fl_X6_10 rfl k13 rfl dX6_field_65 ?_
      obtain ⟨k14, hw⟩ := hw
      refine hv_getN (ci := 1) (k := 2) (v := .ref (S.2 (S.2 v0 0) 2)) hx hb hown hKK hH cf1 (by decide) fl_X6_160 rfl k14 rfl dX6_field_68 ?_
      refine lv_iload_n hx hb dX6_field_71 rfl (lv_at hl 1 rfl) ?_
      obtain ⟨k15, hw⟩ := hw
      refine hv_iald hx hb hKK hH k15 dX6_field_72 ?_
      exact hv_iret hx hb hr hlk hH hw dX6_field_73
    have hw := ite_f hw c12
    by_cases c16 : v2 = (nI 3)
    · have hw := ite_t hw c16
      refine lv_tableIn (tgt := 74) hx hb dX6_field_14 (by rw [c16]; decide) (by rw [c16]; decide) (by rw [c16]; rfl) (by decide) ?_
      refine lv_aload_n hx hb dX6_field_74 rfl (lv_at hl 0 rfl) ?_
      obtain ⟨k17, hw⟩ := hw
      refine hv_get (ci := 6) (k := 0) (v := .ref (S.2 v0 0)) hx hb hown hKK hH cf6 (by decide) fl_X6_10 rfl k17 rfl dX6_field_75 ?_
      refine lv_iload_n hx hb dX6_field_78 rfl (lv_at hl 1 rfl) ?_
      obtain ⟨k18, hw⟩ := hw
      refine hv_cVI (rm := rm_X1_headsOn) (As := [.int v1]) (rest := []) (k := 1) (ci := 1) hx hb hml hown hKK hH cf1 k18 (m_X1_headsOn (S.2 v0 0) v1 _ _ hw) cw_X6_163 ⟨Nat.le_of_ble_eq_true rfl, Nat.le_of_ble_eq_true rfl⟩ rfl hl.1 rfl (Nat.le_of_ble_eq_true rfl) ⟨Nat.le_of_ble_eq_true rfl, Nat.le_of_ble_eq_true rfl⟩ dX6_field_79 (fun r20 h19 H locs hH hw => ?_)
      exact hv_iret hx hb hr hlk hH hw dX6_field_82
    have hw := ite_f hw c16
    refine lv_tableOut (tgt := 83) hx hb dX6_field_14 (by have := ne_toInt (k := 0) (by decide) c4; have := ne_toInt (k := 1) (by decide) c8; have := ne_toInt (k := 2) (by decide) c12; have := ne_toInt (k := 3) (by decide) c16; omega) (by decide) ?_
    refine lv_aload_n hx hb dX6_field_83 rfl (lv_at hl 0 rfl) ?_
    refine lv_bipush (v := (-2)) hx hb dX6_field_84 (by decide) ?_
    obtain ⟨k21, hw⟩ := hw
    refine hv_cVI (rm := rm_X6_refuse) (As := [.int (-2)]) (rest := []) (k := 1) (ci := 6) hx hb hml hown hKK hH cf6 k21 (m_X6_refuse v0 (-2) _ _ hw) cw_X6_56 ⟨Nat.le_of_ble_eq_true rfl, Nat.le_of_ble_eq_true rfl⟩ rfl hl.1 rfl (Nat.le_of_ble_eq_true rfl) ⟨Nat.le_of_ble_eq_true rfl, Nat.le_of_ble_eq_true rfl⟩ dX6_field_86 (fun r23 h22 H locs hH hw => ?_)
    exact hv_iret hx hb hr hlk hH hw dX6_field_89
  · have hw := ite_f hw c3
    refine lv_aload_n hx hb dX6_field_7 rfl (lv_at hl 0 rfl) ?_
    refine lv_iconst (v := (-1)) hx hb dX6_field_8 (by decide) ?_
    obtain ⟨k24, hw⟩ := hw
    refine hv_cVI (rm := rm_X6_refuse) (As := [.int (-1)]) (rest := []) (k := 1) (ci := 6) hx hb hml hown hKK hH cf6 k24 (m_X6_refuse v0 (-1) _ _ hw) cw_X6_56 ⟨Nat.le_of_ble_eq_true rfl, Nat.le_of_ble_eq_true rfl⟩ rfl hl.1 rfl (Nat.le_of_ble_eq_true rfl) ⟨Nat.le_of_ble_eq_true rfl, Nat.le_of_ble_eq_true rfl⟩ dX6_field_9 (fun r26 h25 H locs hH hw => ?_)
    exact hv_iret hx hb hr hlk hH hw dX6_field_12
abbrev rm_X6_comes : Room := { frames := 3, cells := 0, slots := 0, locals := 62 }
set_option maxHeartbeats 4000000 in
set_option maxRecDepth 100000 in
theorem m_X6_comes {l : Launch} {G : Gl} {B sz : Nat} {S : St} (v0 : Nat) (v1 : Int32) (v2 : Int32) (v3 : Int32) (v4 : Int32) (h : Hp) (Q : Int32 → Hp → Prop) (hw : w_X6_comes S v0 v1 v2 v3 v4 h Q) : MI l G B sz S yX6_comes cX6_comes 5 .int rm_X6_comes [.ref v0, .int v1, .int v2, .int v3, .int v4] h Q := by
  refine met_of rfl rfl ?_
  intro p e s m args below meth c hMB H ls hH hl
  obtain ⟨hx, hb, hml, hown, hKK, hr, hlk⟩ := hMB
  replace hl : lv_has ls 5 [(0, .ref v0), (1, .int v1), (2, .int v2), (3, .int v3), (4, .int v4)] := hl
  unfold w_X6_comes at hw
  show W p l e rm_X6_comes s m args below meth c H [] 0 0 (QI G B S sz below args s Q) (F0 m 0 ls [])
  generalize ([] : List Loc) = locs at hH ⊢
  refine lv_iload_n hx hb dX6_comes_0 rfl (lv_at hl 1 rfl) ?_
  refine lv_if_lt (tgt := 10) hx hb dX6_comes_1 (by decide) (fun c1 => ?_) (fun c1 => ?_)
  · have hw := ite_t hw c1
    refine lv_aload_n hx hb dX6_comes_10 rfl (lv_at hl 0 rfl) ?_
    refine lv_bipush (v := (-2)) hx hb dX6_comes_11 (by decide) ?_
    obtain ⟨k2, hw⟩ := hw
    refine hv_cVI (rm := rm_X6_refuse) (As := [.int (-2)]) (rest := []) (k := 1) (ci := 6) hx hb hml hown hKK hH cf6 k2 (m_X6_refuse v0 (-2) _ _ hw) cw_X6_56 ⟨Nat.le_of_ble_eq_true rfl, Nat.le_of_ble_eq_true rfl⟩ rfl hl.1 rfl (Nat.le_of_ble_eq_true rfl) ⟨Nat.le_of_ble_eq_true rfl, Nat.le_of_ble_eq_true rfl⟩ dX6_comes_13 (fun r4 h3 H locs hH hw => ?_)
    exact hv_iret hx hb hr hlk hH hw dX6_comes_16
  · have hw := ite_f hw c1
    refine lv_iload_n hx hb dX6_comes_4 rfl (lv_at hl 1 rfl) ?_
    refine lv_bipush (v := (nI 8)) hx hb dX6_comes_5 (by decide) ?_
    refine lv_icmp_lt (tgt := 17) hx hb dX6_comes_7 (by decide) (fun c5 => ?_) (fun c5 => ?_)
    · have hw := ite_t hw c5
      refine lv_iload_n hx hb dX6_comes_17 rfl (lv_at hl 2 rfl) ?_
      refine lv_if_lt (tgt := 26) hx hb dX6_comes_18 (by decide) (fun c6 => ?_) (fun c6 => ?_)
      · have hw := ite_t hw c6
        refine lv_aload_n hx hb dX6_comes_26 rfl (lv_at hl 0 rfl) ?_
        refine lv_bipush (v := (-4)) hx hb dX6_comes_27 (by decide) ?_
        obtain ⟨k7, hw⟩ := hw
        refine hv_cVI (rm := rm_X6_refuse) (As := [.int (-4)]) (rest := []) (k := 1) (ci := 6) hx hb hml hown hKK hH cf6 k7 (m_X6_refuse v0 (-4) _ _ hw) cw_X6_56 ⟨Nat.le_of_ble_eq_true rfl, Nat.le_of_ble_eq_true rfl⟩ rfl hl.1 rfl (Nat.le_of_ble_eq_true rfl) ⟨Nat.le_of_ble_eq_true rfl, Nat.le_of_ble_eq_true rfl⟩ dX6_comes_29 (fun r9 h8 H locs hH hw => ?_)
        exact hv_iret hx hb hr hlk hH hw dX6_comes_32
      · have hw := ite_f hw c6
        refine lv_iload hx hb dX6_comes_21 (lv_at hl 4 rfl) ?_
        refine lv_if_ge (tgt := 33) hx hb dX6_comes_23 (by decide) (fun c10 => ?_) (fun c10 => ?_)
        · have hw := ite_t hw c10
          refine lv_iload_n hx hb dX6_comes_33 rfl (lv_at hl 2 rfl) ?_
          refine lv_bipush (v := (nI 9)) hx hb dX6_comes_34 (by decide) ?_
          refine lv_icmp_gt (tgt := 56) hx hb dX6_comes_36 (by decide) (fun c11 => ?_) (fun c11 => ?_)
          · have hw := ite_t hw c11
            refine lv_aload_n hx hb dX6_comes_56 rfl (lv_at hl 0 rfl) ?_
            refine lv_bipush (v := (-6)) hx hb dX6_comes_57 (by decide) ?_
            obtain ⟨k12, hw⟩ := hw
            refine hv_cVI (rm := rm_X6_refuse) (As := [.int (-6)]) (rest := []) (k := 1) (ci := 6) hx hb hml hown hKK hH cf6 k12 (m_X6_refuse v0 (-6) _ _ hw) cw_X6_56 ⟨Nat.le_of_ble_eq_true rfl, Nat.le_of_ble_eq_true rfl⟩ rfl hl.1 rfl (Nat.le_of_ble_eq_true rfl) ⟨Nat.le_of_ble_eq_true rfl, Nat.le_of_ble_eq_true rfl⟩ dX6_comes_59 (fun r14 h13 H locs hH hw => ?_)
            exact hv_iret hx hb hr hlk hH hw dX6_comes_62
          · have hw := ite_f hw c11
            refine lv_iload hx hb dX6_comes_39 (lv_at hl 4 rfl) ?_
            refine lv_bipush (v := (nI 26)) hx hb dX6_comes_41 (by decide) ?_
            refine lv_icmp_ge (tgt := 56) hx hb dX6_comes_43 (by decide) (fun c15 => ?_) (fun c15 => ?_)
            · have hw := ite_t hw c15
              refine lv_aload_n hx hb dX6_comes_56 rfl (lv_at hl 0 rfl) ?_
              refine lv_bipush (v := (-6)) hx hb dX6_comes_57 (by decide) ?_
              obtain ⟨k16, hw⟩ := hw
              refine hv_cVI (rm := rm_X6_refuse) (As := [.int (-6)]) (rest := []) (k := 1) (ci := 6) hx hb hml hown hKK hH cf6 k16 (m_X6_refuse v0 (-6) _ _ hw) cw_X6_56 ⟨Nat.le_of_ble_eq_true rfl, Nat.le_of_ble_eq_true rfl⟩ rfl hl.1 rfl (Nat.le_of_ble_eq_true rfl) ⟨Nat.le_of_ble_eq_true rfl, Nat.le_of_ble_eq_true rfl⟩ dX6_comes_59 (fun r18 h17 H locs hH hw => ?_)
              exact hv_iret hx hb hr hlk hH hw dX6_comes_62
            · have hw := ite_f hw c15
              refine lv_aload_n hx hb dX6_comes_46 rfl (lv_at hl 0 rfl) ?_
              obtain ⟨k19, hw⟩ := hw
              refine hv_get (ci := 6) (k := 0) (v := .ref (S.2 v0 0)) hx hb hown hKK hH cf6 (by decide) fl_X6_10 rfl k19 rfl dX6_comes_47 ?_
              obtain ⟨k20, hw⟩ := hw
              refine hv_cVI (rm := rm_X1_isFull) (As := []) (rest := []) (k := 0) (ci := 1) hx hb hml hown hKK hH cf1 k20 (m_X1_isFull (S.2 v0 0) _ _ hw) cw_X6_166 ⟨Nat.le_of_ble_eq_true rfl, Nat.le_of_ble_eq_true rfl⟩ rfl hl.1 rfl (Nat.le_of_ble_eq_true rfl) ⟨Nat.le_of_ble_eq_true rfl, Nat.le_of_ble_eq_true rfl⟩ dX6_comes_50 (fun r22 h21 H locs hH hw => ?_)
              refine lv_if_eq (tgt := 63) hx hb dX6_comes_53 (by decide) (fun c23 => ?_) (fun c23 => ?_)
              · have hw := ite_t hw c23
                refine lv_iload_n hx hb dX6_comes_63 rfl (lv_at hl 3 rfl) ?_
                refine hv_cSI (rm := rm_X6_noField) (As := [.int v3]) (rest := []) (k := 1) hx hb hml hown hKK hH (m_X6_noField v3 _ _ hw) cw_X6_151 ⟨Nat.le_of_ble_eq_true rfl, Nat.le_of_ble_eq_true rfl⟩ rfl hl.1 rfl (Nat.le_of_ble_eq_true rfl) ⟨Nat.le_of_ble_eq_true rfl, Nat.le_of_ble_eq_true rfl⟩ dX6_comes_64 (fun r25 h24 H locs hH hw => ?_)
                refine lv_if_eq (tgt := 76) hx hb dX6_comes_67 (by decide) (fun c26 => ?_) (fun c26 => ?_)
                · have hw := ite_t hw c26
                  refine lv_aload_n hx hb dX6_comes_76 rfl (lv_at hl 0 rfl) ?_
                  refine hv_get (ci := 6) (k := 3) (v := .ref (S.2 v0 3)) hx hb hown hKK hH cf6 (by decide) fl_X6_22 rfl k19 rfl dX6_comes_77 ?_
                  obtain ⟨k27, hw⟩ := hw
                  refine hv_cVV (rm := rm_X3_forget) (As := []) (rest := []) (k := 0) (ci := 3) hx hb hml hown hKK hH cf3 k27 (m_X3_forget (S.2 v0 3) _ _ hw) cw_X6_104 ⟨Nat.le_of_ble_eq_true rfl, Nat.le_of_ble_eq_true rfl⟩ rfl hl.1 rfl (Nat.le_of_ble_eq_true rfl) ⟨Nat.le_of_ble_eq_true rfl, Nat.le_of_ble_eq_true rfl⟩ dX6_comes_80 (fun h28 H locs hH hw => ?_)
                  refine lv_aload_n hx hb dX6_comes_83 rfl (lv_at hl 0 rfl) ?_
                  refine hv_get (ci := 6) (k := 0) (v := .ref (S.2 v0 0)) hx hb hown hKK hH cf6 (by decide) fl_X6_10 rfl k19 rfl dX6_comes_84 ?_
                  refine lv_iload_n hx hb dX6_comes_87 rfl (lv_at hl 1 rfl) ?_
                  refine lv_iload_n hx hb dX6_comes_88 rfl (lv_at hl 2 rfl) ?_
                  refine lv_iload_n hx hb dX6_comes_89 rfl (lv_at hl 3 rfl) ?_
                  refine hv_cVV (rm := rm_X1_addHead) (As := [.int v1, .int v2, .int v3]) (rest := []) (k := 3) (ci := 1) hx hb hml hown hKK hH cf1 k20 (m_X1_addHead (S.2 v0 0) v1 v2 v3 _ _ hw) cw_X6_167 ⟨Nat.le_of_ble_eq_true rfl, Nat.le_of_ble_eq_true rfl⟩ rfl hl.1 rfl (Nat.le_of_ble_eq_true rfl) ⟨Nat.le_of_ble_eq_true rfl, Nat.le_of_ble_eq_true rfl⟩ dX6_comes_90 (fun h29 H locs hH hw => ?_)
                  refine lv_aload_n hx hb dX6_comes_93 rfl (lv_at hl 0 rfl) ?_
                  refine hv_get (ci := 6) (k := 0) (v := .ref (S.2 v0 0)) hx hb hown hKK hH cf6 (by decide) fl_X6_10 rfl k19 rfl dX6_comes_94 ?_
                  refine lv_iload hx hb dX6_comes_97 (lv_at hl 4 rfl) ?_
                  refine hv_cVV (rm := rm_X1_lengthenNewestName) (As := [.int v4]) (rest := []) (k := 1) (ci := 1) hx hb hml hown hKK hH cf1 k20 (m_X1_lengthenNewestName (S.2 v0 0) v4 _ _ hw) cw_X6_171 ⟨Nat.le_of_ble_eq_true rfl, Nat.le_of_ble_eq_true rfl⟩ rfl hl.1 rfl (Nat.le_of_ble_eq_true rfl) ⟨Nat.le_of_ble_eq_true rfl, Nat.le_of_ble_eq_true rfl⟩ dX6_comes_99 (fun h30 H locs hH hw => ?_)
                  refine lv_aload_n hx hb dX6_comes_102 rfl (lv_at hl 0 rfl) ?_
                  refine hv_get (ci := 6) (k := 0) (v := .ref (S.2 v0 0)) hx hb hown hKK hH cf6 (by decide) fl_X6_10 rfl k19 rfl dX6_comes_103 ?_
                  refine hv_getN (ci := 1) (k := 4) (v := .int (h30 (S.2 v0 0) 4)) hx hb hown hKK hH cf1 (by decide) fl_X6_60 rfl k20 rfl dX6_comes_106 ?_
                  refine lv_iconst (v := (nI 1)) hx hb dX6_comes_109 (by decide) ?_
                  refine lv_isub hx hb dX6_comes_110 ?_
                  exact hv_iret hx hb hr hlk hH hw dX6_comes_111
                · have hw := ite_f hw c26
                  refine lv_aload_n hx hb dX6_comes_70 rfl (lv_at hl 0 rfl) ?_
                  refine lv_iconst (v := (-1)) hx hb dX6_comes_71 (by decide) ?_
                  refine hv_cVI (rm := rm_X6_refuse) (As := [.int (-1)]) (rest := []) (k := 1) (ci := 6) hx hb hml hown hKK hH cf6 k19 (m_X6_refuse v0 (-1) _ _ hw) cw_X6_56 ⟨Nat.le_of_ble_eq_true rfl, Nat.le_of_ble_eq_true rfl⟩ rfl hl.1 rfl (Nat.le_of_ble_eq_true rfl) ⟨Nat.le_of_ble_eq_true rfl, Nat.le_of_ble_eq_true rfl⟩ dX6_comes_72 (fun r32 h31 H locs hH hw => ?_)
                  exact hv_iret hx hb hr hlk hH hw dX6_comes_75
              · have hw := ite_f hw c23
                refine lv_aload_n hx hb dX6_comes_56 rfl (lv_at hl 0 rfl) ?_
                refine lv_bipush (v := (-6)) hx hb dX6_comes_57 (by decide) ?_
                refine hv_cVI (rm := rm_X6_refuse) (As := [.int (-6)]) (rest := []) (k := 1) (ci := 6) hx hb hml hown hKK hH cf6 k19 (m_X6_refuse v0 (-6) _ _ hw) cw_X6_56 ⟨Nat.le_of_ble_eq_true rfl, Nat.le_of_ble_eq_true rfl⟩ rfl hl.1 rfl (Nat.le_of_ble_eq_true rfl) ⟨Nat.le_of_ble_eq_true rfl, Nat.le_of_ble_eq_true rfl⟩ dX6_comes_59 (fun r34 h33 H locs hH hw => ?_)
                exact hv_iret hx hb hr hlk hH hw dX6_comes_62
        · have hw := ite_f hw c10
          refine lv_aload_n hx hb dX6_comes_26 rfl (lv_at hl 0 rfl) ?_
          refine lv_bipush (v := (-4)) hx hb dX6_comes_27 (by decide) ?_
          obtain ⟨k35, hw⟩ := hw
          refine hv_cVI (rm := rm_X6_refuse) (As := [.int (-4)]) (rest := []) (k := 1) (ci := 6) hx hb hml hown hKK hH cf6 k35 (m_X6_refuse v0 (-4) _ _ hw) cw_X6_56 ⟨Nat.le_of_ble_eq_true rfl, Nat.le_of_ble_eq_true rfl⟩ rfl hl.1 rfl (Nat.le_of_ble_eq_true rfl) ⟨Nat.le_of_ble_eq_true rfl, Nat.le_of_ble_eq_true rfl⟩ dX6_comes_29 (fun r37 h36 H locs hH hw => ?_)
          exact hv_iret hx hb hr hlk hH hw dX6_comes_32
    · have hw := ite_f hw c5
      refine lv_aload_n hx hb dX6_comes_10 rfl (lv_at hl 0 rfl) ?_
      refine lv_bipush (v := (-2)) hx hb dX6_comes_11 (by decide) ?_
      obtain ⟨k38, hw⟩ := hw
      refine hv_cVI (rm := rm_X6_refuse) (As := [.int (-2)]) (rest := []) (k := 1) (ci := 6) hx hb hml hown hKK hH cf6 k38 (m_X6_refuse v0 (-2) _ _ hw) cw_X6_56 ⟨Nat.le_of_ble_eq_true rfl, Nat.le_of_ble_eq_true rfl⟩ rfl hl.1 rfl (Nat.le_of_ble_eq_true rfl) ⟨Nat.le_of_ble_eq_true rfl, Nat.le_of_ble_eq_true rfl⟩ dX6_comes_13 (fun r40 h39 H locs hH hw => ?_)
      exact hv_iret hx hb hr hlk hH hw dX6_comes_16
abbrev rm_X6_named : Room := { frames := 5, cells := 0, slots := 0, locals := 145 }
set_option maxHeartbeats 4000000 in
set_option maxRecDepth 100000 in
theorem m_X6_named {l : Launch} {G : Gl} {B sz : Nat} {S : St} (v0 : Nat) (v1 : Int32) (v2 : Int32) (h : Hp) (Q : Int32 → Hp → Prop) (hw : w_X6_named S v0 v1 v2 h Q) : MI l G B sz S yX6_named cX6_named 4 .int rm_X6_named [.ref v0, .int v1, .int v2] h Q := by
  refine met_of rfl rfl ?_
  intro p e s m args below meth c hMB H ls hH hl
  obtain ⟨hx, hb, hml, hown, hKK, hr, hlk⟩ := hMB
  replace hl : lv_has ls 4 [(0, .ref v0), (1, .int v1), (2, .int v2)] := hl
  unfold w_X6_named at hw
  show W p l e rm_X6_named s m args below meth c H [] 0 0 (QI G B S sz below args s Q) (F0 m 0 ls [])
  generalize ([] : List Loc) = locs at hH ⊢
  refine lv_aload_n hx hb dX6_named_0 rfl (lv_at hl 0 rfl) ?_
  refine lv_iload_n hx hb dX6_named_1 rfl (lv_at hl 1 rfl) ?_
  obtain ⟨k1, hw⟩ := hw
  refine hv_cVI (rm := rm_X6_noHead) (As := [.int v1]) (rest := []) (k := 1) (ci := 6) hx hb hml hown hKK hH cf6 k1 (m_X6_noHead v0 v1 _ _ hw) cw_X6_64 ⟨Nat.le_of_ble_eq_true rfl, Nat.le_of_ble_eq_true rfl⟩ rfl hl.1 rfl (Nat.le_of_ble_eq_true rfl) ⟨Nat.le_of_ble_eq_true rfl, Nat.le_of_ble_eq_true rfl⟩ dX6_named_2 (fun r3 h2 H locs hH hw => ?_)
  refine lv_if_eq (tgt := 14) hx hb dX6_named_5 (by decide) (fun c4 => ?_) (fun c4 => ?_)
  · have hw := ite_t hw c4
    refine lv_iload_n hx hb dX6_named_14 rfl (lv_at hl 2 rfl) ?_
    refine lv_if_ge (tgt := 25) hx hb dX6_named_15 (by decide) (fun c5 => ?_) (fun c5 => ?_)
    · have hw := ite_t hw c5
      refine lv_aload_n hx hb dX6_named_25 rfl (lv_at hl 0 rfl) ?_
      refine hv_get (ci := 6) (k := 0) (v := .ref (S.2 v0 0)) hx hb hown hKK hH cf6 (by decide) fl_X6_10 rfl k1 rfl dX6_named_26 ?_
      obtain ⟨k6, hw⟩ := hw
      refine hv_getN (ci := 1) (k := 3) (v := .ref (S.2 (S.2 v0 0) 3)) hx hb hown hKK hH cf1 (by decide) fl_X6_105 rfl k6 rfl dX6_named_29 ?_
      refine lv_iload_n hx hb dX6_named_32 rfl (lv_at hl 1 rfl) ?_
      obtain ⟨k7, hw⟩ := hw
      refine hv_aald (t := 1) hx hb (by decide) hKK hH k7 dX6_named_33 ?_
      refine lv_astore_n (lv' := [(3, .ref (S.2 (S.2 (S.2 v0 0) 3) (ix v1))), (0, .ref v0), (1, .int v1), (2, .int v2)]) hx hb dX6_named_34 rfl hl (by decide) rfl (fun ls hl => ?_)
      refine lv_iload_n hx hb dX6_named_35 rfl (lv_at hl 3 rfl) ?_
      refine lv_bipush (v := (nI 26)) hx hb dX6_named_36 (by decide) ?_
      refine lv_icmp_ge (tgt := 48) hx hb dX6_named_38 (by decide) (fun c8 => ?_) (fun c8 => ?_)
      · have hw := ite_t hw c8
        refine lv_aload_n hx hb dX6_named_48 rfl (lv_at hl 1 rfl) ?_
        refine lv_bipush (v := (-6)) hx hb dX6_named_49 (by decide) ?_
        refine hv_cVI (rm := rm_X6_refuse) (As := [.int (-6)]) (rest := []) (k := 1) (ci := 6) hx hb hml hown hKK hH cf6 k1 (m_X6_refuse v0 (-6) _ _ hw) cw_X6_56 ⟨Nat.le_of_ble_eq_true rfl, Nat.le_of_ble_eq_true rfl⟩ rfl hl.1 rfl (Nat.le_of_ble_eq_true rfl) ⟨Nat.le_of_ble_eq_true rfl, Nat.le_of_ble_eq_true rfl⟩ dX6_named_51 (fun r10 h9 H locs hH hw => ?_)
        exact hv_iret hx hb hr hlk hH hw dX6_named_54
      · have hw := ite_f hw c8
        refine lv_aload_n hx hb dX6_named_41 rfl (lv_at hl 0 rfl) ?_
        obtain ⟨k11, hw⟩ := hw
        refine hv_cVI (rm := rm_X0_hasFullName) (As := []) (rest := []) (k := 0) (ci := 0) hx hb hml hown hKK hH cf0 k11 (m_X0_hasFullName (S.2 (S.2 (S.2 v0 0) 3) (ix v1)) _ _ hw) cw_X6_175 ⟨Nat.le_of_ble_eq_true rfl, Nat.le_of_ble_eq_true rfl⟩ rfl hl.1 rfl (Nat.le_of_ble_eq_true rfl) ⟨Nat.le_of_ble_eq_true rfl, Nat.le_of_ble_eq_true rfl⟩ dX6_named_42 (fun r13 h12 H locs hH hw => ?_)
        refine lv_if_eq (tgt := 55) hx hb dX6_named_45 (by decide) (fun c14 => ?_) (fun c14 => ?_)
        · have hw := ite_t hw c14
          refine lv_aload_n hx hb dX6_named_55 rfl (lv_at hl 1 rfl) ?_
          refine hv_get (ci := 6) (k := 3) (v := .ref (S.2 v0 3)) hx hb hown hKK hH cf6 (by decide) fl_X6_22 rfl k1 rfl dX6_named_56 ?_
          refine lv_aload_n hx hb dX6_named_59 rfl (lv_at hl 1 rfl) ?_
          refine hv_get (ci := 6) (k := 0) (v := .ref (S.2 v0 0)) hx hb hown hKK hH cf6 (by decide) fl_X6_10 rfl k1 rfl dX6_named_60 ?_
          obtain ⟨k15, hw⟩ := hw
          refine hv_cVV (rm := rm_X3_keep) (As := [.ref (S.2 v0 0)]) (rest := []) (k := 1) (ci := 3) hx hb hml hown hKK hH cf3 k15 (m_X3_keep (S.2 v0 3) (S.2 v0 0) _ _ hw) cw_X6_178 ⟨Nat.le_of_ble_eq_true rfl, Nat.le_of_ble_eq_true rfl⟩ rfl hl.1 rfl (Nat.le_of_ble_eq_true rfl) ⟨Nat.le_of_ble_eq_true rfl, Nat.le_of_ble_eq_true rfl⟩ dX6_named_63 (fun h16 H locs hH hw => ?_)
          refine lv_aload_n hx hb dX6_named_66 rfl (lv_at hl 0 rfl) ?_
          refine lv_iload_n hx hb dX6_named_67 rfl (lv_at hl 3 rfl) ?_
          refine hv_cVV (rm := rm_X0_lengthenName) (As := [.int v2]) (rest := []) (k := 1) (ci := 0) hx hb hml hown hKK hH cf0 k11 (m_X0_lengthenName (S.2 (S.2 (S.2 v0 0) 3) (ix v1)) v2 _ _ hw) cw_X6_181 ⟨Nat.le_of_ble_eq_true rfl, Nat.le_of_ble_eq_true rfl⟩ rfl hl.1 rfl (Nat.le_of_ble_eq_true rfl) ⟨Nat.le_of_ble_eq_true rfl, Nat.le_of_ble_eq_true rfl⟩ dX6_named_68 (fun h17 H locs hH hw => ?_)
          refine lv_aload_n hx hb dX6_named_71 rfl (lv_at hl 0 rfl) ?_
          refine hv_getN (ci := 0) (k := 3) (v := .int (h17 (S.2 (S.2 (S.2 v0 0) 3) (ix v1)) 3)) hx hb hown hKK hH cf0 (by decide) fl_X6_133 rfl k11 rfl dX6_named_72 ?_
          exact hv_iret hx hb hr hlk hH hw dX6_named_75
        · have hw := ite_f hw c14
          refine lv_aload_n hx hb dX6_named_48 rfl (lv_at hl 1 rfl) ?_
          refine lv_bipush (v := (-6)) hx hb dX6_named_49 (by decide) ?_
          refine hv_cVI (rm := rm_X6_refuse) (As := [.int (-6)]) (rest := []) (k := 1) (ci := 6) hx hb hml hown hKK hH cf6 k1 (m_X6_refuse v0 (-6) _ _ hw) cw_X6_56 ⟨Nat.le_of_ble_eq_true rfl, Nat.le_of_ble_eq_true rfl⟩ rfl hl.1 rfl (Nat.le_of_ble_eq_true rfl) ⟨Nat.le_of_ble_eq_true rfl, Nat.le_of_ble_eq_true rfl⟩ dX6_named_51 (fun r19 h18 H locs hH hw => ?_)
          exact hv_iret hx hb hr hlk hH hw dX6_named_54
    · have hw := ite_f hw c5
      refine lv_aload_n hx hb dX6_named_18 rfl (lv_at hl 0 rfl) ?_
      refine lv_bipush (v := (-4)) hx hb dX6_named_19 (by decide) ?_
      refine hv_cVI (rm := rm_X6_refuse) (As := [.int (-4)]) (rest := []) (k := 1) (ci := 6) hx hb hml hown hKK hH cf6 k1 (m_X6_refuse v0 (-4) _ _ hw) cw_X6_56 ⟨Nat.le_of_ble_eq_true rfl, Nat.le_of_ble_eq_true rfl⟩ rfl hl.1 rfl (Nat.le_of_ble_eq_true rfl) ⟨Nat.le_of_ble_eq_true rfl, Nat.le_of_ble_eq_true rfl⟩ dX6_named_21 (fun r21 h20 H locs hH hw => ?_)
      exact hv_iret hx hb hr hlk hH hw dX6_named_24
  · have hw := ite_f hw c4
    refine lv_aload_n hx hb dX6_named_8 rfl (lv_at hl 0 rfl) ?_
    refine lv_iconst (v := (-1)) hx hb dX6_named_9 (by decide) ?_
    refine hv_cVI (rm := rm_X6_refuse) (As := [.int (-1)]) (rest := []) (k := 1) (ci := 6) hx hb hml hown hKK hH cf6 k1 (m_X6_refuse v0 (-1) _ _ hw) cw_X6_56 ⟨Nat.le_of_ble_eq_true rfl, Nat.le_of_ble_eq_true rfl⟩ rfl hl.1 rfl (Nat.le_of_ble_eq_true rfl) ⟨Nat.le_of_ble_eq_true rfl, Nat.le_of_ble_eq_true rfl⟩ dX6_named_10 (fun r23 h22 H locs hH hw => ?_)
    exact hv_iret hx hb hr hlk hH hw dX6_named_13
abbrev rm_X6_faces : Room := { frames := 5, cells := 0, slots := 0, locals := 145 }
set_option maxHeartbeats 4000000 in
set_option maxRecDepth 100000 in
theorem m_X6_faces {l : Launch} {G : Gl} {B sz : Nat} {S : St} (v0 : Nat) (v1 : Int32) (v2 : Int32) (h : Hp) (Q : Int32 → Hp → Prop) (hw : w_X6_faces S v0 v1 v2 h Q) : MI l G B sz S yX6_faces cX6_faces 5 .int rm_X6_faces [.ref v0, .int v1, .int v2] h Q := by
  refine met_of rfl rfl ?_
  intro p e s m args below meth c hMB H ls hH hl
  obtain ⟨hx, hb, hml, hown, hKK, hr, hlk⟩ := hMB
  replace hl : lv_has ls 5 [(0, .ref v0), (1, .int v1), (2, .int v2)] := hl
  unfold w_X6_faces at hw
  show W p l e rm_X6_faces s m args below meth c H [] 0 0 (QI G B S sz below args s Q) (F0 m 0 ls [])
  generalize ([] : List Loc) = locs at hH ⊢
  refine lv_aload_n hx hb dX6_faces_0 rfl (lv_at hl 0 rfl) ?_
  refine lv_iload_n hx hb dX6_faces_1 rfl (lv_at hl 1 rfl) ?_
  obtain ⟨k1, hw⟩ := hw
  refine hv_cVI (rm := rm_X6_noHead) (As := [.int v1]) (rest := []) (k := 1) (ci := 6) hx hb hml hown hKK hH cf6 k1 (m_X6_noHead v0 v1 _ _ hw) cw_X6_64 ⟨Nat.le_of_ble_eq_true rfl, Nat.le_of_ble_eq_true rfl⟩ rfl hl.1 rfl (Nat.le_of_ble_eq_true rfl) ⟨Nat.le_of_ble_eq_true rfl, Nat.le_of_ble_eq_true rfl⟩ dX6_faces_2 (fun r3 h2 H locs hH hw => ?_)
  refine lv_iload_n hx hb dX6_faces_5 rfl (lv_at hl 2 rfl) ?_
  refine lv_iconst (v := (nI 0)) hx hb dX6_faces_6 (by decide) ?_
  refine lv_iconst (v := (nI 3)) hx hb dX6_faces_7 (by decide) ?_
  refine hv_cSI (rm := rm_X6_faultOfNumber) (As := [.int r3, .int v2, .int (nI 0), .int (nI 3)]) (rest := []) (k := 4) hx hb hml hown hKK hH (m_X6_faultOfNumber r3 v2 (nI 0) (nI 3) _ _ hw) cw_X6_68 ⟨Nat.le_of_ble_eq_true rfl, Nat.le_of_ble_eq_true rfl⟩ rfl hl.1 rfl (Nat.le_of_ble_eq_true rfl) ⟨Nat.le_of_ble_eq_true rfl, Nat.le_of_ble_eq_true rfl⟩ dX6_faces_8 (fun r5 h4 H locs hH hw => ?_)
  refine lv_istore_n (lv' := [(3, .int r5), (0, .ref v0), (1, .int v1), (2, .int v2)]) hx hb dX6_faces_11 rfl hl (by decide) rfl (fun ls hl => ?_)
  refine lv_iload_n hx hb dX6_faces_12 rfl (lv_at hl 0 rfl) ?_
  refine lv_if_eq (tgt := 22) hx hb dX6_faces_13 (by decide) (fun c6 => ?_) (fun c6 => ?_)
  · have hw := ite_t hw c6
    refine lv_aload_n hx hb dX6_faces_22 rfl (lv_at hl 1 rfl) ?_
    refine hv_get (ci := 6) (k := 3) (v := .ref (S.2 v0 3)) hx hb hown hKK hH cf6 (by decide) fl_X6_22 rfl k1 rfl dX6_faces_23 ?_
    refine lv_aload_n hx hb dX6_faces_26 rfl (lv_at hl 1 rfl) ?_
    refine hv_get (ci := 6) (k := 0) (v := .ref (S.2 v0 0)) hx hb hown hKK hH cf6 (by decide) fl_X6_10 rfl k1 rfl dX6_faces_27 ?_
    obtain ⟨k7, hw⟩ := hw
    refine hv_cVV (rm := rm_X3_keep) (As := [.ref (S.2 v0 0)]) (rest := []) (k := 1) (ci := 3) hx hb hml hown hKK hH cf3 k7 (m_X3_keep (S.2 v0 3) (S.2 v0 0) _ _ hw) cw_X6_178 ⟨Nat.le_of_ble_eq_true rfl, Nat.le_of_ble_eq_true rfl⟩ rfl hl.1 rfl (Nat.le_of_ble_eq_true rfl) ⟨Nat.le_of_ble_eq_true rfl, Nat.le_of_ble_eq_true rfl⟩ dX6_faces_30 (fun h8 H locs hH hw => ?_)
    refine lv_aload_n hx hb dX6_faces_33 rfl (lv_at hl 1 rfl) ?_
    refine hv_get (ci := 6) (k := 0) (v := .ref (S.2 v0 0)) hx hb hown hKK hH cf6 (by decide) fl_X6_10 rfl k1 rfl dX6_faces_34 ?_
    obtain ⟨k9, hw⟩ := hw
    refine hv_getN (ci := 1) (k := 3) (v := .ref (S.2 (S.2 v0 0) 3)) hx hb hown hKK hH cf1 (by decide) fl_X6_105 rfl k9 rfl dX6_faces_37 ?_
    refine lv_iload_n hx hb dX6_faces_40 rfl (lv_at hl 2 rfl) ?_
    obtain ⟨k10, hw⟩ := hw
    refine hv_aald (t := 1) hx hb (by decide) hKK hH k10 dX6_faces_41 ?_
    obtain ⟨k11, hw⟩ := hw
    refine hv_getN (ci := 0) (k := 5) (v := .int (h8 (S.2 (S.2 (S.2 v0 0) 3) (ix v1)) 5)) hx hb hown hKK hH cf0 (by decide) fl_X6_120 rfl k11 rfl dX6_faces_42 ?_
    refine lv_istore (lv' := [(4, .int (h8 (S.2 (S.2 (S.2 v0 0) 3) (ix v1)) 5)), (3, .int r5), (0, .ref v0), (1, .int v1), (2, .int v2)]) hx hb dX6_faces_45 hl (by decide) rfl (fun ls hl => ?_)
    refine lv_aload_n hx hb dX6_faces_47 rfl (lv_at hl 2 rfl) ?_
    refine hv_get (ci := 6) (k := 0) (v := .ref (S.2 v0 0)) hx hb hown hKK hH cf6 (by decide) fl_X6_10 rfl k1 rfl dX6_faces_48 ?_
    refine hv_getN (ci := 1) (k := 3) (v := .ref (S.2 (S.2 v0 0) 3)) hx hb hown hKK hH cf1 (by decide) fl_X6_105 rfl k9 rfl dX6_faces_51 ?_
    refine lv_iload_n hx hb dX6_faces_54 rfl (lv_at hl 3 rfl) ?_
    refine hv_aald (t := 1) hx hb (by decide) hKK hH k10 dX6_faces_55 ?_
    refine lv_iload_n hx hb dX6_faces_56 rfl (lv_at hl 4 rfl) ?_
    refine hv_putN (ci := 0) (k := 5) hx hb hown hKK hH cf0 (by decide) fl_X6_120 rfl rfl rfl k11 rfl rfl dX6_faces_57 (fun H locs hH => ?_)
    refine lv_iload hx hb dX6_faces_60 (lv_at hl 0 rfl) ?_
    exact hv_iret hx hb hr hlk hH hw dX6_faces_62
  · have hw := ite_f hw c6
    refine lv_aload_n hx hb dX6_faces_16 rfl (lv_at hl 1 rfl) ?_
    refine lv_iload_n hx hb dX6_faces_17 rfl (lv_at hl 0 rfl) ?_
    refine hv_cVI (rm := rm_X6_refuse) (As := [.int r5]) (rest := []) (k := 1) (ci := 6) hx hb hml hown hKK hH cf6 k1 (m_X6_refuse v0 r5 _ _ hw) cw_X6_56 ⟨Nat.le_of_ble_eq_true rfl, Nat.le_of_ble_eq_true rfl⟩ rfl hl.1 rfl (Nat.le_of_ble_eq_true rfl) ⟨Nat.le_of_ble_eq_true rfl, Nat.le_of_ble_eq_true rfl⟩ dX6_faces_18 (fun r13 h12 H locs hH hw => ?_)
    exact hv_iret hx hb hr hlk hH hw dX6_faces_21
abbrev rm_X6_does : Room := { frames := 5, cells := 0, slots := 0, locals := 145 }
set_option maxHeartbeats 4000000 in
set_option maxRecDepth 100000 in
theorem m_X6_does {l : Launch} {G : Gl} {B sz : Nat} {S : St} (v0 : Nat) (v1 : Int32) (v2 : Int32) (h : Hp) (Q : Int32 → Hp → Prop) (hw : w_X6_does S v0 v1 v2 h Q) : MI l G B sz S yX6_does cX6_does 4 .int rm_X6_does [.ref v0, .int v1, .int v2] h Q := by
  refine met_of rfl rfl ?_
  intro p e s m args below meth c hMB H ls hH hl
  obtain ⟨hx, hb, hml, hown, hKK, hr, hlk⟩ := hMB
  replace hl : lv_has ls 4 [(0, .ref v0), (1, .int v1), (2, .int v2)] := hl
  unfold w_X6_does at hw
  show W p l e rm_X6_does s m args below meth c H [] 0 0 (QI G B S sz below args s Q) (F0 m 0 ls [])
  generalize ([] : List Loc) = locs at hH ⊢
  refine lv_aload_n hx hb dX6_does_0 rfl (lv_at hl 0 rfl) ?_
  refine lv_iload_n hx hb dX6_does_1 rfl (lv_at hl 1 rfl) ?_
  obtain ⟨k1, hw⟩ := hw
  refine hv_cVI (rm := rm_X6_noHead) (As := [.int v1]) (rest := []) (k := 1) (ci := 6) hx hb hml hown hKK hH cf6 k1 (m_X6_noHead v0 v1 _ _ hw) cw_X6_64 ⟨Nat.le_of_ble_eq_true rfl, Nat.le_of_ble_eq_true rfl⟩ rfl hl.1 rfl (Nat.le_of_ble_eq_true rfl) ⟨Nat.le_of_ble_eq_true rfl, Nat.le_of_ble_eq_true rfl⟩ dX6_does_2 (fun r3 h2 H locs hH hw => ?_)
  refine lv_if_eq (tgt := 14) hx hb dX6_does_5 (by decide) (fun c4 => ?_) (fun c4 => ?_)
  · have hw := ite_t hw c4
    refine lv_iload_n hx hb dX6_does_14 rfl (lv_at hl 2 rfl) ?_
    refine lv_if_lt (tgt := 23) hx hb dX6_does_15 (by decide) (fun c5 => ?_) (fun c5 => ?_)
    · have hw := ite_t hw c5
      refine lv_aload_n hx hb dX6_does_23 rfl (lv_at hl 0 rfl) ?_
      refine lv_bipush (v := (-2)) hx hb dX6_does_24 (by decide) ?_
      refine hv_cVI (rm := rm_X6_refuse) (As := [.int (-2)]) (rest := []) (k := 1) (ci := 6) hx hb hml hown hKK hH cf6 k1 (m_X6_refuse v0 (-2) _ _ hw) cw_X6_56 ⟨Nat.le_of_ble_eq_true rfl, Nat.le_of_ble_eq_true rfl⟩ rfl hl.1 rfl (Nat.le_of_ble_eq_true rfl) ⟨Nat.le_of_ble_eq_true rfl, Nat.le_of_ble_eq_true rfl⟩ dX6_does_26 (fun r7 h6 H locs hH hw => ?_)
      exact hv_iret hx hb hr hlk hH hw dX6_does_29
    · have hw := ite_f hw c5
      refine lv_iload_n hx hb dX6_does_18 rfl (lv_at hl 2 rfl) ?_
      refine lv_iconst (v := (nI 5)) hx hb dX6_does_19 (by decide) ?_
      refine lv_icmp_lt (tgt := 30) hx hb dX6_does_20 (by decide) (fun c8 => ?_) (fun c8 => ?_)
      · have hw := ite_t hw c8
        refine lv_aload_n hx hb dX6_does_30 rfl (lv_at hl 0 rfl) ?_
        refine hv_get (ci := 6) (k := 3) (v := .ref (S.2 v0 3)) hx hb hown hKK hH cf6 (by decide) fl_X6_22 rfl k1 rfl dX6_does_31 ?_
        refine lv_aload_n hx hb dX6_does_34 rfl (lv_at hl 0 rfl) ?_
        refine hv_get (ci := 6) (k := 0) (v := .ref (S.2 v0 0)) hx hb hown hKK hH cf6 (by decide) fl_X6_10 rfl k1 rfl dX6_does_35 ?_
        obtain ⟨k9, hw⟩ := hw
        refine hv_cVV (rm := rm_X3_keep) (As := [.ref (S.2 v0 0)]) (rest := []) (k := 1) (ci := 3) hx hb hml hown hKK hH cf3 k9 (m_X3_keep (S.2 v0 3) (S.2 v0 0) _ _ hw) cw_X6_178 ⟨Nat.le_of_ble_eq_true rfl, Nat.le_of_ble_eq_true rfl⟩ rfl hl.1 rfl (Nat.le_of_ble_eq_true rfl) ⟨Nat.le_of_ble_eq_true rfl, Nat.le_of_ble_eq_true rfl⟩ dX6_does_38 (fun h10 H locs hH hw => ?_)
        refine lv_aload_n hx hb dX6_does_41 rfl (lv_at hl 0 rfl) ?_
        refine hv_get (ci := 6) (k := 0) (v := .ref (S.2 v0 0)) hx hb hown hKK hH cf6 (by decide) fl_X6_10 rfl k1 rfl dX6_does_42 ?_
        obtain ⟨k11, hw⟩ := hw
        refine hv_getN (ci := 1) (k := 3) (v := .ref (S.2 (S.2 v0 0) 3)) hx hb hown hKK hH cf1 (by decide) fl_X6_105 rfl k11 rfl dX6_does_45 ?_
        refine lv_iload_n hx hb dX6_does_48 rfl (lv_at hl 1 rfl) ?_
        obtain ⟨k12, hw⟩ := hw
        refine hv_aald (t := 1) hx hb (by decide) hKK hH k12 dX6_does_49 ?_
        obtain ⟨k13, hw⟩ := hw
        refine hv_getN (ci := 0) (k := 6) (v := .int (h10 (S.2 (S.2 (S.2 v0 0) 3) (ix v1)) 6)) hx hb hown hKK hH cf0 (by decide) fl_X6_123 rfl k13 rfl dX6_does_50 ?_
        refine lv_istore_n (lv' := [(3, .int (h10 (S.2 (S.2 (S.2 v0 0) 3) (ix v1)) 6)), (0, .ref v0), (1, .int v1), (2, .int v2)]) hx hb dX6_does_53 rfl hl (by decide) rfl (fun ls hl => ?_)
        refine lv_aload_n hx hb dX6_does_54 rfl (lv_at hl 1 rfl) ?_
        refine hv_get (ci := 6) (k := 0) (v := .ref (S.2 v0 0)) hx hb hown hKK hH cf6 (by decide) fl_X6_10 rfl k1 rfl dX6_does_55 ?_
        refine hv_getN (ci := 1) (k := 3) (v := .ref (S.2 (S.2 v0 0) 3)) hx hb hown hKK hH cf1 (by decide) fl_X6_105 rfl k11 rfl dX6_does_58 ?_
        refine lv_iload_n hx hb dX6_does_61 rfl (lv_at hl 2 rfl) ?_
        refine hv_aald (t := 1) hx hb (by decide) hKK hH k12 dX6_does_62 ?_
        refine lv_iload_n hx hb dX6_does_63 rfl (lv_at hl 3 rfl) ?_
        refine hv_putN (ci := 0) (k := 6) hx hb hown hKK hH cf0 (by decide) fl_X6_123 rfl rfl rfl k13 rfl rfl dX6_does_64 (fun H locs hH => ?_)
        refine lv_iload_n hx hb dX6_does_67 rfl (lv_at hl 0 rfl) ?_
        exact hv_iret hx hb hr hlk hH hw dX6_does_68
      · have hw := ite_f hw c8
        refine lv_aload_n hx hb dX6_does_23 rfl (lv_at hl 0 rfl) ?_
        refine lv_bipush (v := (-2)) hx hb dX6_does_24 (by decide) ?_
        refine hv_cVI (rm := rm_X6_refuse) (As := [.int (-2)]) (rest := []) (k := 1) (ci := 6) hx hb hml hown hKK hH cf6 k1 (m_X6_refuse v0 (-2) _ _ hw) cw_X6_56 ⟨Nat.le_of_ble_eq_true rfl, Nat.le_of_ble_eq_true rfl⟩ rfl hl.1 rfl (Nat.le_of_ble_eq_true rfl) ⟨Nat.le_of_ble_eq_true rfl, Nat.le_of_ble_eq_true rfl⟩ dX6_does_26 (fun r15 h14 H locs hH hw => ?_)
        exact hv_iret hx hb hr hlk hH hw dX6_does_29
  · have hw := ite_f hw c4
    refine lv_aload_n hx hb dX6_does_8 rfl (lv_at hl 0 rfl) ?_
    refine lv_iconst (v := (-1)) hx hb dX6_does_9 (by decide) ?_
    refine hv_cVI (rm := rm_X6_refuse) (As := [.int (-1)]) (rest := []) (k := 1) (ci := 6) hx hb hml hown hKK hH cf6 k1 (m_X6_refuse v0 (-1) _ _ hw) cw_X6_56 ⟨Nat.le_of_ble_eq_true rfl, Nat.le_of_ble_eq_true rfl⟩ rfl hl.1 rfl (Nat.le_of_ble_eq_true rfl) ⟨Nat.le_of_ble_eq_true rfl, Nat.le_of_ble_eq_true rfl⟩ dX6_does_10 (fun r17 h16 H locs hH hw => ?_)
    exact hv_iret hx hb hr hlk hH hw dX6_does_13
abbrev rm_X6_joins : Room := { frames := 5, cells := 0, slots := 0, locals := 145 }
set_option maxHeartbeats 4000000 in
set_option maxRecDepth 100000 in
theorem m_X6_joins {l : Launch} {G : Gl} {B sz : Nat} {S : St} (v0 : Nat) (v1 : Int32) (v2 : Int32) (h : Hp) (Q : Int32 → Hp → Prop) (hw : w_X6_joins S v0 v1 v2 h Q) : MI l G B sz S yX6_joins cX6_joins 5 .int rm_X6_joins [.ref v0, .int v1, .int v2] h Q := by
  refine met_of rfl rfl ?_
  intro p e s m args below meth c hMB H ls hH hl
  obtain ⟨hx, hb, hml, hown, hKK, hr, hlk⟩ := hMB
  replace hl : lv_has ls 5 [(0, .ref v0), (1, .int v1), (2, .int v2)] := hl
  unfold w_X6_joins at hw
  show W p l e rm_X6_joins s m args below meth c H [] 0 0 (QI G B S sz below args s Q) (F0 m 0 ls [])
  generalize ([] : List Loc) = locs at hH ⊢
  refine lv_aload_n hx hb dX6_joins_0 rfl (lv_at hl 0 rfl) ?_
  refine lv_iload_n hx hb dX6_joins_1 rfl (lv_at hl 1 rfl) ?_
  obtain ⟨k1, hw⟩ := hw
  refine hv_cVI (rm := rm_X6_noHead) (As := [.int v1]) (rest := []) (k := 1) (ci := 6) hx hb hml hown hKK hH cf6 k1 (m_X6_noHead v0 v1 _ _ hw) cw_X6_64 ⟨Nat.le_of_ble_eq_true rfl, Nat.le_of_ble_eq_true rfl⟩ rfl hl.1 rfl (Nat.le_of_ble_eq_true rfl) ⟨Nat.le_of_ble_eq_true rfl, Nat.le_of_ble_eq_true rfl⟩ dX6_joins_2 (fun r3 h2 H locs hH hw => ?_)
  refine lv_iload_n hx hb dX6_joins_5 rfl (lv_at hl 2 rfl) ?_
  refine lv_iconst (v := (nI 0)) hx hb dX6_joins_6 (by decide) ?_
  refine lv_bipush (v := (nI 99)) hx hb dX6_joins_7 (by decide) ?_
  refine hv_cSI (rm := rm_X6_faultOfNumber) (As := [.int r3, .int v2, .int (nI 0), .int (nI 99)]) (rest := []) (k := 4) hx hb hml hown hKK hH (m_X6_faultOfNumber r3 v2 (nI 0) (nI 99) _ _ hw) cw_X6_68 ⟨Nat.le_of_ble_eq_true rfl, Nat.le_of_ble_eq_true rfl⟩ rfl hl.1 rfl (Nat.le_of_ble_eq_true rfl) ⟨Nat.le_of_ble_eq_true rfl, Nat.le_of_ble_eq_true rfl⟩ dX6_joins_9 (fun r5 h4 H locs hH hw => ?_)
  refine lv_istore_n (lv' := [(3, .int r5), (0, .ref v0), (1, .int v1), (2, .int v2)]) hx hb dX6_joins_12 rfl hl (by decide) rfl (fun ls hl => ?_)
  refine lv_iload_n hx hb dX6_joins_13 rfl (lv_at hl 0 rfl) ?_
  refine lv_if_eq (tgt := 23) hx hb dX6_joins_14 (by decide) (fun c6 => ?_) (fun c6 => ?_)
  · have hw := ite_t hw c6
    refine lv_aload_n hx hb dX6_joins_23 rfl (lv_at hl 1 rfl) ?_
    refine hv_get (ci := 6) (k := 3) (v := .ref (S.2 v0 3)) hx hb hown hKK hH cf6 (by decide) fl_X6_22 rfl k1 rfl dX6_joins_24 ?_
    refine lv_aload_n hx hb dX6_joins_27 rfl (lv_at hl 1 rfl) ?_
    refine hv_get (ci := 6) (k := 0) (v := .ref (S.2 v0 0)) hx hb hown hKK hH cf6 (by decide) fl_X6_10 rfl k1 rfl dX6_joins_28 ?_
    obtain ⟨k7, hw⟩ := hw
    refine hv_cVV (rm := rm_X3_keep) (As := [.ref (S.2 v0 0)]) (rest := []) (k := 1) (ci := 3) hx hb hml hown hKK hH cf3 k7 (m_X3_keep (S.2 v0 3) (S.2 v0 0) _ _ hw) cw_X6_178 ⟨Nat.le_of_ble_eq_true rfl, Nat.le_of_ble_eq_true rfl⟩ rfl hl.1 rfl (Nat.le_of_ble_eq_true rfl) ⟨Nat.le_of_ble_eq_true rfl, Nat.le_of_ble_eq_true rfl⟩ dX6_joins_31 (fun h8 H locs hH hw => ?_)
    refine lv_aload_n hx hb dX6_joins_34 rfl (lv_at hl 1 rfl) ?_
    refine hv_get (ci := 6) (k := 0) (v := .ref (S.2 v0 0)) hx hb hown hKK hH cf6 (by decide) fl_X6_10 rfl k1 rfl dX6_joins_35 ?_
    obtain ⟨k9, hw⟩ := hw
    refine hv_getN (ci := 1) (k := 3) (v := .ref (S.2 (S.2 v0 0) 3)) hx hb hown hKK hH cf1 (by decide) fl_X6_105 rfl k9 rfl dX6_joins_38 ?_
    refine lv_iload_n hx hb dX6_joins_41 rfl (lv_at hl 2 rfl) ?_
    obtain ⟨k10, hw⟩ := hw
    refine hv_aald (t := 1) hx hb (by decide) hKK hH k10 dX6_joins_42 ?_
    obtain ⟨k11, hw⟩ := hw
    refine hv_getN (ci := 0) (k := 7) (v := .int (h8 (S.2 (S.2 (S.2 v0 0) 3) (ix v1)) 7)) hx hb hown hKK hH cf0 (by decide) fl_X6_126 rfl k11 rfl dX6_joins_43 ?_
    refine lv_istore (lv' := [(4, .int (h8 (S.2 (S.2 (S.2 v0 0) 3) (ix v1)) 7)), (3, .int r5), (0, .ref v0), (1, .int v1), (2, .int v2)]) hx hb dX6_joins_46 hl (by decide) rfl (fun ls hl => ?_)
    refine lv_aload_n hx hb dX6_joins_48 rfl (lv_at hl 2 rfl) ?_
    refine hv_get (ci := 6) (k := 0) (v := .ref (S.2 v0 0)) hx hb hown hKK hH cf6 (by decide) fl_X6_10 rfl k1 rfl dX6_joins_49 ?_
    refine hv_getN (ci := 1) (k := 3) (v := .ref (S.2 (S.2 v0 0) 3)) hx hb hown hKK hH cf1 (by decide) fl_X6_105 rfl k9 rfl dX6_joins_52 ?_
    refine lv_iload_n hx hb dX6_joins_55 rfl (lv_at hl 3 rfl) ?_
    refine hv_aald (t := 1) hx hb (by decide) hKK hH k10 dX6_joins_56 ?_
    refine lv_iload_n hx hb dX6_joins_57 rfl (lv_at hl 4 rfl) ?_
    refine hv_putN (ci := 0) (k := 7) hx hb hown hKK hH cf0 (by decide) fl_X6_126 rfl rfl rfl k11 rfl rfl dX6_joins_58 (fun H locs hH => ?_)
    refine lv_iload hx hb dX6_joins_61 (lv_at hl 0 rfl) ?_
    exact hv_iret hx hb hr hlk hH hw dX6_joins_63
  · have hw := ite_f hw c6
    refine lv_aload_n hx hb dX6_joins_17 rfl (lv_at hl 1 rfl) ?_
    refine lv_iload_n hx hb dX6_joins_18 rfl (lv_at hl 0 rfl) ?_
    refine hv_cVI (rm := rm_X6_refuse) (As := [.int r5]) (rest := []) (k := 1) (ci := 6) hx hb hml hown hKK hH cf6 k1 (m_X6_refuse v0 r5 _ _ hw) cw_X6_56 ⟨Nat.le_of_ble_eq_true rfl, Nat.le_of_ble_eq_true rfl⟩ rfl hl.1 rfl (Nat.le_of_ble_eq_true rfl) ⟨Nat.le_of_ble_eq_true rfl, Nat.le_of_ble_eq_true rfl⟩ dX6_joins_19 (fun r13 h12 H locs hH hw => ?_)
    exact hv_iret hx hb hr hlk hH hw dX6_joins_22
abbrev rm_X6_walls : Room := { frames := 5, cells := 0, slots := 0, locals := 145 }
set_option maxHeartbeats 4000000 in
set_option maxRecDepth 100000 in
theorem m_X6_walls {l : Launch} {G : Gl} {B sz : Nat} {S : St} (v0 : Nat) (v1 : Int32) (v2 : Int32) (h : Hp) (Q : Int32 → Hp → Prop) (hw : w_X6_walls S v0 v1 v2 h Q) : MI l G B sz S yX6_walls cX6_walls 5 .int rm_X6_walls [.ref v0, .int v1, .int v2] h Q := by
  refine met_of rfl rfl ?_
  intro p e s m args below meth c hMB H ls hH hl
  obtain ⟨hx, hb, hml, hown, hKK, hr, hlk⟩ := hMB
  replace hl : lv_has ls 5 [(0, .ref v0), (1, .int v1), (2, .int v2)] := hl
  unfold w_X6_walls at hw
  show W p l e rm_X6_walls s m args below meth c H [] 0 0 (QI G B S sz below args s Q) (F0 m 0 ls [])
  generalize ([] : List Loc) = locs at hH ⊢
  refine lv_iload_n hx hb dX6_walls_0 rfl (lv_at hl 1 rfl) ?_
  refine hv_cSI (rm := rm_X6_noField) (As := [.int v1]) (rest := []) (k := 1) hx hb hml hown hKK hH (m_X6_noField v1 _ _ hw) cw_X6_151 ⟨Nat.le_of_ble_eq_true rfl, Nat.le_of_ble_eq_true rfl⟩ rfl hl.1 rfl (Nat.le_of_ble_eq_true rfl) ⟨Nat.le_of_ble_eq_true rfl, Nat.le_of_ble_eq_true rfl⟩ dX6_walls_1 (fun r2 h1 H locs hH hw => ?_)
  refine lv_iload_n hx hb dX6_walls_4 rfl (lv_at hl 2 rfl) ?_
  refine lv_iconst (v := (nI 0)) hx hb dX6_walls_5 (by decide) ?_
  refine lv_bipush (v := (nI 9)) hx hb dX6_walls_6 (by decide) ?_
  refine hv_cSI (rm := rm_X6_faultOfNumber) (As := [.int r2, .int v2, .int (nI 0), .int (nI 9)]) (rest := []) (k := 4) hx hb hml hown hKK hH (m_X6_faultOfNumber r2 v2 (nI 0) (nI 9) _ _ hw) cw_X6_68 ⟨Nat.le_of_ble_eq_true rfl, Nat.le_of_ble_eq_true rfl⟩ rfl hl.1 rfl (Nat.le_of_ble_eq_true rfl) ⟨Nat.le_of_ble_eq_true rfl, Nat.le_of_ble_eq_true rfl⟩ dX6_walls_8 (fun r4 h3 H locs hH hw => ?_)
  refine lv_istore_n (lv' := [(3, .int r4), (0, .ref v0), (1, .int v1), (2, .int v2)]) hx hb dX6_walls_11 rfl hl (by decide) rfl (fun ls hl => ?_)
  refine lv_iload_n hx hb dX6_walls_12 rfl (lv_at hl 0 rfl) ?_
  refine lv_if_eq (tgt := 22) hx hb dX6_walls_13 (by decide) (fun c5 => ?_) (fun c5 => ?_)
  · have hw := ite_t hw c5
    refine lv_aload_n hx hb dX6_walls_22 rfl (lv_at hl 1 rfl) ?_
    obtain ⟨k6, hw⟩ := hw
    refine hv_get (ci := 6) (k := 3) (v := .ref (S.2 v0 3)) hx hb hown hKK hH cf6 (by decide) fl_X6_22 rfl k6 rfl dX6_walls_23 ?_
    refine lv_aload_n hx hb dX6_walls_26 rfl (lv_at hl 1 rfl) ?_
    refine hv_get (ci := 6) (k := 0) (v := .ref (S.2 v0 0)) hx hb hown hKK hH cf6 (by decide) fl_X6_10 rfl k6 rfl dX6_walls_27 ?_
    obtain ⟨k7, hw⟩ := hw
    refine hv_cVV (rm := rm_X3_keep) (As := [.ref (S.2 v0 0)]) (rest := []) (k := 1) (ci := 3) hx hb hml hown hKK hH cf3 k7 (m_X3_keep (S.2 v0 3) (S.2 v0 0) _ _ hw) cw_X6_178 ⟨Nat.le_of_ble_eq_true rfl, Nat.le_of_ble_eq_true rfl⟩ rfl hl.1 rfl (Nat.le_of_ble_eq_true rfl) ⟨Nat.le_of_ble_eq_true rfl, Nat.le_of_ble_eq_true rfl⟩ dX6_walls_30 (fun h8 H locs hH hw => ?_)
    refine lv_aload_n hx hb dX6_walls_33 rfl (lv_at hl 1 rfl) ?_
    refine hv_get (ci := 6) (k := 0) (v := .ref (S.2 v0 0)) hx hb hown hKK hH cf6 (by decide) fl_X6_10 rfl k6 rfl dX6_walls_34 ?_
    obtain ⟨k9, hw⟩ := hw
    refine hv_getN (ci := 1) (k := 0) (v := .ref (S.2 (S.2 v0 0) 0)) hx hb hown hKK hH cf1 (by decide) fl_X6_154 rfl k9 rfl dX6_walls_37 ?_
    refine lv_iload_n hx hb dX6_walls_40 rfl (lv_at hl 2 rfl) ?_
    obtain ⟨k10, hw⟩ := hw
    refine hv_iald hx hb hKK hH k10 dX6_walls_41 ?_
    refine lv_istore (lv' := [(4, .int (h8 (S.2 (S.2 v0 0) 0) (ix v1))), (3, .int r4), (0, .ref v0), (1, .int v1), (2, .int v2)]) hx hb dX6_walls_42 hl (by decide) rfl (fun ls hl => ?_)
    refine lv_aload_n hx hb dX6_walls_44 rfl (lv_at hl 2 rfl) ?_
    refine hv_get (ci := 6) (k := 0) (v := .ref (S.2 v0 0)) hx hb hown hKK hH cf6 (by decide) fl_X6_10 rfl k6 rfl dX6_walls_45 ?_
    refine hv_getN (ci := 1) (k := 0) (v := .ref (S.2 (S.2 v0 0) 0)) hx hb hown hKK hH cf1 (by decide) fl_X6_154 rfl k9 rfl dX6_walls_48 ?_
    refine lv_iload_n hx hb dX6_walls_51 rfl (lv_at hl 3 rfl) ?_
    refine lv_iload_n hx hb dX6_walls_52 rfl (lv_at hl 4 rfl) ?_
    refine hv_iast hx hb hKK hH k10 dX6_walls_53 (fun H locs hH => ?_)
    refine lv_iload hx hb dX6_walls_54 (lv_at hl 0 rfl) ?_
    exact hv_iret hx hb hr hlk hH hw dX6_walls_56
  · have hw := ite_f hw c5
    refine lv_aload_n hx hb dX6_walls_16 rfl (lv_at hl 1 rfl) ?_
    refine lv_iload_n hx hb dX6_walls_17 rfl (lv_at hl 0 rfl) ?_
    obtain ⟨k11, hw⟩ := hw
    refine hv_cVI (rm := rm_X6_refuse) (As := [.int r4]) (rest := []) (k := 1) (ci := 6) hx hb hml hown hKK hH cf6 k11 (m_X6_refuse v0 r4 _ _ hw) cw_X6_56 ⟨Nat.le_of_ble_eq_true rfl, Nat.le_of_ble_eq_true rfl⟩ rfl hl.1 rfl (Nat.le_of_ble_eq_true rfl) ⟨Nat.le_of_ble_eq_true rfl, Nat.le_of_ble_eq_true rfl⟩ dX6_walls_18 (fun r13 h12 H locs hH hw => ?_)
    exact hv_iret hx hb hr hlk hH hw dX6_walls_21
abbrev rm_X6_folk : Room := { frames := 5, cells := 0, slots := 0, locals := 145 }
set_option maxHeartbeats 4000000 in
set_option maxRecDepth 100000 in
theorem m_X6_folk {l : Launch} {G : Gl} {B sz : Nat} {S : St} (v0 : Nat) (v1 : Int32) (v2 : Int32) (v3 : Int32) (h : Hp) (Q : Int32 → Hp → Prop) (hw : w_X6_folk S v0 v1 v2 v3 h Q) : MI l G B sz S yX6_folk cX6_folk 5 .int rm_X6_folk [.ref v0, .int v1, .int v2, .int v3] h Q := by
  refine met_of rfl rfl ?_
  intro p e s m args below meth c hMB H ls hH hl
  obtain ⟨hx, hb, hml, hown, hKK, hr, hlk⟩ := hMB
  replace hl : lv_has ls 5 [(0, .ref v0), (1, .int v1), (2, .int v2), (3, .int v3)] := hl
  unfold w_X6_folk at hw
  show W p l e rm_X6_folk s m args below meth c H [] 0 0 (QI G B S sz below args s Q) (F0 m 0 ls [])
  generalize ([] : List Loc) = locs at hH ⊢
  refine lv_iload_n hx hb dX6_folk_0 rfl (lv_at hl 1 rfl) ?_
  refine hv_cSI (rm := rm_X6_noField) (As := [.int v1]) (rest := []) (k := 1) hx hb hml hown hKK hH (m_X6_noField v1 _ _ hw) cw_X6_151 ⟨Nat.le_of_ble_eq_true rfl, Nat.le_of_ble_eq_true rfl⟩ rfl hl.1 rfl (Nat.le_of_ble_eq_true rfl) ⟨Nat.le_of_ble_eq_true rfl, Nat.le_of_ble_eq_true rfl⟩ dX6_folk_1 (fun r2 h1 H locs hH hw => ?_)
  refine lv_if_eq (tgt := 13) hx hb dX6_folk_4 (by decide) (fun c3 => ?_) (fun c3 => ?_)
  · have hw := ite_t hw c3
    refine lv_iload_n hx hb dX6_folk_13 rfl (lv_at hl 2 rfl) ?_
    refine lv_if_lt (tgt := 21) hx hb dX6_folk_14 (by decide) (fun c4 => ?_) (fun c4 => ?_)
    · have hw := ite_t hw c4
      refine lv_aload_n hx hb dX6_folk_21 rfl (lv_at hl 0 rfl) ?_
      refine lv_bipush (v := (-4)) hx hb dX6_folk_22 (by decide) ?_
      obtain ⟨k5, hw⟩ := hw
      refine hv_cVI (rm := rm_X6_refuse) (As := [.int (-4)]) (rest := []) (k := 1) (ci := 6) hx hb hml hown hKK hH cf6 k5 (m_X6_refuse v0 (-4) _ _ hw) cw_X6_56 ⟨Nat.le_of_ble_eq_true rfl, Nat.le_of_ble_eq_true rfl⟩ rfl hl.1 rfl (Nat.le_of_ble_eq_true rfl) ⟨Nat.le_of_ble_eq_true rfl, Nat.le_of_ble_eq_true rfl⟩ dX6_folk_24 (fun r7 h6 H locs hH hw => ?_)
      exact hv_iret hx hb hr hlk hH hw dX6_folk_27
    · have hw := ite_f hw c4
      refine lv_iload_n hx hb dX6_folk_17 rfl (lv_at hl 3 rfl) ?_
      refine lv_if_ge (tgt := 28) hx hb dX6_folk_18 (by decide) (fun c8 => ?_) (fun c8 => ?_)
      · have hw := ite_t hw c8
        refine lv_iload_n hx hb dX6_folk_28 rfl (lv_at hl 2 rfl) ?_
        refine lv_bipush (v := (nI 9)) hx hb dX6_folk_29 (by decide) ?_
        refine lv_icmp_gt (tgt := 40) hx hb dX6_folk_31 (by decide) (fun c9 => ?_) (fun c9 => ?_)
        · have hw := ite_t hw c9
          refine lv_aload_n hx hb dX6_folk_40 rfl (lv_at hl 0 rfl) ?_
          refine lv_bipush (v := (-6)) hx hb dX6_folk_41 (by decide) ?_
          obtain ⟨k10, hw⟩ := hw
          refine hv_cVI (rm := rm_X6_refuse) (As := [.int (-6)]) (rest := []) (k := 1) (ci := 6) hx hb hml hown hKK hH cf6 k10 (m_X6_refuse v0 (-6) _ _ hw) cw_X6_56 ⟨Nat.le_of_ble_eq_true rfl, Nat.le_of_ble_eq_true rfl⟩ rfl hl.1 rfl (Nat.le_of_ble_eq_true rfl) ⟨Nat.le_of_ble_eq_true rfl, Nat.le_of_ble_eq_true rfl⟩ dX6_folk_43 (fun r12 h11 H locs hH hw => ?_)
          exact hv_iret hx hb hr hlk hH hw dX6_folk_46
        · have hw := ite_f hw c9
          refine lv_iload_n hx hb dX6_folk_34 rfl (lv_at hl 3 rfl) ?_
          refine lv_bipush (v := (nI 26)) hx hb dX6_folk_35 (by decide) ?_
          refine lv_icmp_lt (tgt := 47) hx hb dX6_folk_37 (by decide) (fun c13 => ?_) (fun c13 => ?_)
          · have hw := ite_t hw c13
            refine lv_aload_n hx hb dX6_folk_47 rfl (lv_at hl 0 rfl) ?_
            obtain ⟨k14, hw⟩ := hw
            refine hv_get (ci := 6) (k := 3) (v := .ref (S.2 v0 3)) hx hb hown hKK hH cf6 (by decide) fl_X6_22 rfl k14 rfl dX6_folk_48 ?_
            refine lv_aload_n hx hb dX6_folk_51 rfl (lv_at hl 0 rfl) ?_
            refine hv_get (ci := 6) (k := 0) (v := .ref (S.2 v0 0)) hx hb hown hKK hH cf6 (by decide) fl_X6_10 rfl k14 rfl dX6_folk_52 ?_
            obtain ⟨k15, hw⟩ := hw
            refine hv_cVV (rm := rm_X3_keep) (As := [.ref (S.2 v0 0)]) (rest := []) (k := 1) (ci := 3) hx hb hml hown hKK hH cf3 k15 (m_X3_keep (S.2 v0 3) (S.2 v0 0) _ _ hw) cw_X6_178 ⟨Nat.le_of_ble_eq_true rfl, Nat.le_of_ble_eq_true rfl⟩ rfl hl.1 rfl (Nat.le_of_ble_eq_true rfl) ⟨Nat.le_of_ble_eq_true rfl, Nat.le_of_ble_eq_true rfl⟩ dX6_folk_55 (fun h16 H locs hH hw => ?_)
            refine lv_bipush (v := (nI 10)) hx hb dX6_folk_58 (by decide) ?_
            refine lv_aload_n hx hb dX6_folk_60 rfl (lv_at hl 0 rfl) ?_
            refine hv_get (ci := 6) (k := 0) (v := .ref (S.2 v0 0)) hx hb hown hKK hH cf6 (by decide) fl_X6_10 rfl k14 rfl dX6_folk_61 ?_
            obtain ⟨k17, hw⟩ := hw
            refine hv_getN (ci := 1) (k := 2) (v := .ref (S.2 (S.2 v0 0) 2)) hx hb hown hKK hH cf1 (by decide) fl_X6_160 rfl k17 rfl dX6_folk_64 ?_
            refine lv_iload_n hx hb dX6_folk_67 rfl (lv_at hl 1 rfl) ?_
            obtain ⟨k18, hw⟩ := hw
            refine hv_iald hx hb hKK hH k18 dX6_folk_68 ?_
            refine lv_imul hx hb dX6_folk_69 ?_
            refine lv_aload_n hx hb dX6_folk_70 rfl (lv_at hl 0 rfl) ?_
            refine hv_get (ci := 6) (k := 0) (v := .ref (S.2 v0 0)) hx hb hown hKK hH cf6 (by decide) fl_X6_10 rfl k14 rfl dX6_folk_71 ?_
            refine hv_getN (ci := 1) (k := 1) (v := .ref (S.2 (S.2 v0 0) 1)) hx hb hown hKK hH cf1 (by decide) fl_X6_157 rfl k17 rfl dX6_folk_74 ?_
            refine lv_iload_n hx hb dX6_folk_77 rfl (lv_at hl 1 rfl) ?_
            obtain ⟨k19, hw⟩ := hw
            refine hv_iald hx hb hKK hH k19 dX6_folk_78 ?_
            refine lv_iadd hx hb dX6_folk_79 ?_
            refine lv_istore (lv' := [(4, .int (((nI 10) * (h16 (S.2 (S.2 v0 0) 2) (ix v1))) + (h16 (S.2 (S.2 v0 0) 1) (ix v1)))), (0, .ref v0), (1, .int v1), (2, .int v2), (3, .int v3)]) hx hb dX6_folk_80 hl (by decide) rfl (fun ls hl => ?_)
            refine lv_aload_n hx hb dX6_folk_82 rfl (lv_at hl 1 rfl) ?_
            refine hv_get (ci := 6) (k := 0) (v := .ref (S.2 v0 0)) hx hb hown hKK hH cf6 (by decide) fl_X6_10 rfl k14 rfl dX6_folk_83 ?_
            refine hv_getN (ci := 1) (k := 1) (v := .ref (S.2 (S.2 v0 0) 1)) hx hb hown hKK hH cf1 (by decide) fl_X6_157 rfl k17 rfl dX6_folk_86 ?_
            refine lv_iload_n hx hb dX6_folk_89 rfl (lv_at hl 2 rfl) ?_
            refine lv_iload_n hx hb dX6_folk_90 rfl (lv_at hl 3 rfl) ?_
            refine hv_iast hx hb hKK hH k19 dX6_folk_91 (fun H locs hH => ?_)
            refine lv_aload_n hx hb dX6_folk_92 rfl (lv_at hl 1 rfl) ?_
            refine hv_get (ci := 6) (k := 0) (v := .ref (S.2 v0 0)) hx hb hown hKK hH cf6 (by decide) fl_X6_10 rfl k14 rfl dX6_folk_93 ?_
            refine hv_getN (ci := 1) (k := 2) (v := .ref (S.2 (S.2 v0 0) 2)) hx hb hown hKK hH cf1 (by decide) fl_X6_160 rfl k17 rfl dX6_folk_96 ?_
            refine lv_iload_n hx hb dX6_folk_99 rfl (lv_at hl 2 rfl) ?_
            refine lv_iload_n hx hb dX6_folk_100 rfl (lv_at hl 4 rfl) ?_
            refine hv_iast hx hb hKK hH k18 dX6_folk_101 (fun H locs hH => ?_)
            refine lv_iload hx hb dX6_folk_102 (lv_at hl 0 rfl) ?_
            exact hv_iret hx hb hr hlk hH hw dX6_folk_104
          · have hw := ite_f hw c13
            refine lv_aload_n hx hb dX6_folk_40 rfl (lv_at hl 0 rfl) ?_
            refine lv_bipush (v := (-6)) hx hb dX6_folk_41 (by decide) ?_
            obtain ⟨k20, hw⟩ := hw
            refine hv_cVI (rm := rm_X6_refuse) (As := [.int (-6)]) (rest := []) (k := 1) (ci := 6) hx hb hml hown hKK hH cf6 k20 (m_X6_refuse v0 (-6) _ _ hw) cw_X6_56 ⟨Nat.le_of_ble_eq_true rfl, Nat.le_of_ble_eq_true rfl⟩ rfl hl.1 rfl (Nat.le_of_ble_eq_true rfl) ⟨Nat.le_of_ble_eq_true rfl, Nat.le_of_ble_eq_true rfl⟩ dX6_folk_43 (fun r22 h21 H locs hH hw => ?_)
            exact hv_iret hx hb hr hlk hH hw dX6_folk_46
      · have hw := ite_f hw c8
        refine lv_aload_n hx hb dX6_folk_21 rfl (lv_at hl 0 rfl) ?_
        refine lv_bipush (v := (-4)) hx hb dX6_folk_22 (by decide) ?_
        obtain ⟨k23, hw⟩ := hw
        refine hv_cVI (rm := rm_X6_refuse) (As := [.int (-4)]) (rest := []) (k := 1) (ci := 6) hx hb hml hown hKK hH cf6 k23 (m_X6_refuse v0 (-4) _ _ hw) cw_X6_56 ⟨Nat.le_of_ble_eq_true rfl, Nat.le_of_ble_eq_true rfl⟩ rfl hl.1 rfl (Nat.le_of_ble_eq_true rfl) ⟨Nat.le_of_ble_eq_true rfl, Nat.le_of_ble_eq_true rfl⟩ dX6_folk_24 (fun r25 h24 H locs hH hw => ?_)
        exact hv_iret hx hb hr hlk hH hw dX6_folk_27
  · have hw := ite_f hw c3
    refine lv_aload_n hx hb dX6_folk_7 rfl (lv_at hl 0 rfl) ?_
    refine lv_iconst (v := (-1)) hx hb dX6_folk_8 (by decide) ?_
    obtain ⟨k26, hw⟩ := hw
    refine hv_cVI (rm := rm_X6_refuse) (As := [.int (-1)]) (rest := []) (k := 1) (ci := 6) hx hb hml hown hKK hH cf6 k26 (m_X6_refuse v0 (-1) _ _ hw) cw_X6_56 ⟨Nat.le_of_ble_eq_true rfl, Nat.le_of_ble_eq_true rfl⟩ rfl hl.1 rfl (Nat.le_of_ble_eq_true rfl) ⟨Nat.le_of_ble_eq_true rfl, Nat.le_of_ble_eq_true rfl⟩ dX6_folk_9 (fun r28 h27 H locs hH hw => ?_)
    exact hv_iret hx hb hr hlk hH hw dX6_folk_12
abbrev rm_X6_nights : Room := { frames := 5, cells := 0, slots := 0, locals := 145 }
set_option maxHeartbeats 4000000 in
set_option maxRecDepth 100000 in
theorem m_X6_nights {l : Launch} {G : Gl} {B sz : Nat} {S : St} (v0 : Nat) (v1 : Int32) (h : Hp) (Q : Int32 → Hp → Prop) (hw : w_X6_nights S v0 v1 h Q) : MI l G B sz S yX6_nights cX6_nights 2 .int rm_X6_nights [.ref v0, .int v1] h Q := by
  refine met_of rfl rfl ?_
  intro p e s m args below meth c hMB H ls hH hl
  obtain ⟨hx, hb, hml, hown, hKK, hr, hlk⟩ := hMB
  replace hl : lv_has ls 2 [(0, .ref v0), (1, .int v1)] := hl
  unfold w_X6_nights at hw
  show W p l e rm_X6_nights s m args below meth c H [] 0 0 (QI G B S sz below args s Q) (F0 m 0 ls [])
  generalize ([] : List Loc) = locs at hH ⊢
  refine lv_iload_n hx hb dX6_nights_0 rfl (lv_at hl 1 rfl) ?_
  refine lv_iconst (v := (nI 1)) hx hb dX6_nights_1 (by decide) ?_
  refine lv_icmp_ge (tgt := 12) hx hb dX6_nights_2 (by decide) (fun c1 => ?_) (fun c1 => ?_)
  · have hw := ite_t hw c1
    refine lv_iload_n hx hb dX6_nights_12 rfl (lv_at hl 1 rfl) ?_
    refine lv_bipush (v := (nI 60)) hx hb dX6_nights_13 (by decide) ?_
    refine lv_icmp_gt (tgt := 33) hx hb dX6_nights_15 (by decide) (fun c2 => ?_) (fun c2 => ?_)
    · have hw := ite_t hw c2
      refine lv_aload_n hx hb dX6_nights_33 rfl (lv_at hl 0 rfl) ?_
      refine lv_bipush (v := (-6)) hx hb dX6_nights_34 (by decide) ?_
      obtain ⟨k3, hw⟩ := hw
      refine hv_cVI (rm := rm_X6_refuse) (As := [.int (-6)]) (rest := []) (k := 1) (ci := 6) hx hb hml hown hKK hH cf6 k3 (m_X6_refuse v0 (-6) _ _ hw) cw_X6_56 ⟨Nat.le_of_ble_eq_true rfl, Nat.le_of_ble_eq_true rfl⟩ rfl hl.1 rfl (Nat.le_of_ble_eq_true rfl) ⟨Nat.le_of_ble_eq_true rfl, Nat.le_of_ble_eq_true rfl⟩ dX6_nights_36 (fun r5 h4 H locs hH hw => ?_)
      exact hv_iret hx hb hr hlk hH hw dX6_nights_39
    · have hw := ite_f hw c2
      refine lv_aload_n hx hb dX6_nights_18 rfl (lv_at hl 0 rfl) ?_
      obtain ⟨k6, hw⟩ := hw
      refine hv_get (ci := 6) (k := 0) (v := .ref (S.2 v0 0)) hx hb hown hKK hH cf6 (by decide) fl_X6_10 rfl k6 rfl dX6_nights_19 ?_
      obtain ⟨k7, hw⟩ := hw
      refine hv_getN (ci := 1) (k := 5) (v := .int (h (S.2 v0 0) 5)) hx hb hown hKK hH cf1 (by decide) fl_X6_142 rfl k7 rfl dX6_nights_22 ?_
      refine lv_iload_n hx hb dX6_nights_25 rfl (lv_at hl 1 rfl) ?_
      refine lv_iadd hx hb dX6_nights_26 ?_
      refine lv_sipush (v := (nI 999)) hx hb dX6_nights_27 (by decide) ?_
      refine lv_icmp_le (tgt := 40) hx hb dX6_nights_30 (by decide) (fun c8 => ?_) (fun c8 => ?_)
      · have hw := ite_t hw c8
        refine lv_aload_n hx hb dX6_nights_40 rfl (lv_at hl 0 rfl) ?_
        refine hv_get (ci := 6) (k := 3) (v := .ref (S.2 v0 3)) hx hb hown hKK hH cf6 (by decide) fl_X6_22 rfl k6 rfl dX6_nights_41 ?_
        refine lv_aload_n hx hb dX6_nights_44 rfl (lv_at hl 0 rfl) ?_
        refine hv_get (ci := 6) (k := 0) (v := .ref (S.2 v0 0)) hx hb hown hKK hH cf6 (by decide) fl_X6_10 rfl k6 rfl dX6_nights_45 ?_
        obtain ⟨k9, hw⟩ := hw
        refine hv_cVV (rm := rm_X3_keep) (As := [.ref (S.2 v0 0)]) (rest := []) (k := 1) (ci := 3) hx hb hml hown hKK hH cf3 k9 (m_X3_keep (S.2 v0 3) (S.2 v0 0) _ _ hw) cw_X6_178 ⟨Nat.le_of_ble_eq_true rfl, Nat.le_of_ble_eq_true rfl⟩ rfl hl.1 rfl (Nat.le_of_ble_eq_true rfl) ⟨Nat.le_of_ble_eq_true rfl, Nat.le_of_ble_eq_true rfl⟩ dX6_nights_48 (fun h10 H locs hH hw => ?_)
        refine lv_aload_n hx hb dX6_nights_51 rfl (lv_at hl 0 rfl) ?_
        refine hv_get (ci := 6) (k := 0) (v := .ref (S.2 v0 0)) hx hb hown hKK hH cf6 (by decide) fl_X6_10 rfl k6 rfl dX6_nights_52 ?_
        refine lv_iload_n hx hb dX6_nights_55 rfl (lv_at hl 1 rfl) ?_
        refine hv_cVV (rm := rm_X1_passNights) (As := [.int v1]) (rest := []) (k := 1) (ci := 1) hx hb hml hown hKK hH cf1 k7 (m_X1_passNights (S.2 v0 0) v1 _ _ hw) cw_X6_184 ⟨Nat.le_of_ble_eq_true rfl, Nat.le_of_ble_eq_true rfl⟩ rfl hl.1 rfl (Nat.le_of_ble_eq_true rfl) ⟨Nat.le_of_ble_eq_true rfl, Nat.le_of_ble_eq_true rfl⟩ dX6_nights_56 (fun h11 H locs hH hw => ?_)
        refine lv_aload_n hx hb dX6_nights_59 rfl (lv_at hl 0 rfl) ?_
        refine hv_get (ci := 6) (k := 0) (v := .ref (S.2 v0 0)) hx hb hown hKK hH cf6 (by decide) fl_X6_10 rfl k6 rfl dX6_nights_60 ?_
        refine hv_getN (ci := 1) (k := 6) (v := .int (h11 (S.2 v0 0) 6)) hx hb hown hKK hH cf1 (by decide) fl_X6_187 rfl k7 rfl dX6_nights_63 ?_
        exact hv_iret hx hb hr hlk hH hw dX6_nights_66
      · have hw := ite_f hw c8
        refine lv_aload_n hx hb dX6_nights_33 rfl (lv_at hl 0 rfl) ?_
        refine lv_bipush (v := (-6)) hx hb dX6_nights_34 (by decide) ?_
        refine hv_cVI (rm := rm_X6_refuse) (As := [.int (-6)]) (rest := []) (k := 1) (ci := 6) hx hb hml hown hKK hH cf6 k6 (m_X6_refuse v0 (-6) _ _ hw) cw_X6_56 ⟨Nat.le_of_ble_eq_true rfl, Nat.le_of_ble_eq_true rfl⟩ rfl hl.1 rfl (Nat.le_of_ble_eq_true rfl) ⟨Nat.le_of_ble_eq_true rfl, Nat.le_of_ble_eq_true rfl⟩ dX6_nights_36 (fun r13 h12 H locs hH hw => ?_)
        exact hv_iret hx hb hr hlk hH hw dX6_nights_39
  · have hw := ite_f hw c1
    refine lv_aload_n hx hb dX6_nights_5 rfl (lv_at hl 0 rfl) ?_
    refine lv_bipush (v := (-4)) hx hb dX6_nights_6 (by decide) ?_
    obtain ⟨k14, hw⟩ := hw
    refine hv_cVI (rm := rm_X6_refuse) (As := [.int (-4)]) (rest := []) (k := 1) (ci := 6) hx hb hml hown hKK hH cf6 k14 (m_X6_refuse v0 (-4) _ _ hw) cw_X6_56 ⟨Nat.le_of_ble_eq_true rfl, Nat.le_of_ble_eq_true rfl⟩ rfl hl.1 rfl (Nat.le_of_ble_eq_true rfl) ⟨Nat.le_of_ble_eq_true rfl, Nat.le_of_ble_eq_true rfl⟩ dX6_nights_8 (fun r16 h15 H locs hH hw => ?_)
    exact hv_iret hx hb hr hlk hH hw dX6_nights_11
abbrev rm_X6_back : Room := { frames := 5, cells := 0, slots := 0, locals := 145 }
set_option maxHeartbeats 4000000 in
set_option maxRecDepth 100000 in
theorem m_X6_back {l : Launch} {G : Gl} {B sz : Nat} {S : St} (v0 : Nat) (h : Hp) (Q : Int32 → Hp → Prop) (hw : w_X6_back S v0 h Q) : MI l G B sz S yX6_back cX6_back 1 .int rm_X6_back [.ref v0] h Q := by
  refine met_of rfl rfl ?_
  intro p e s m args below meth c hMB H ls hH hl
  obtain ⟨hx, hb, hml, hown, hKK, hr, hlk⟩ := hMB
  replace hl : lv_has ls 1 [(0, .ref v0)] := hl
  unfold w_X6_back at hw
  show W p l e rm_X6_back s m args below meth c H [] 0 0 (QI G B S sz below args s Q) (F0 m 0 ls [])
  generalize ([] : List Loc) = locs at hH ⊢
  refine lv_aload_n hx hb dX6_back_0 rfl (lv_at hl 0 rfl) ?_
  obtain ⟨k1, hw⟩ := hw
  refine hv_get (ci := 6) (k := 3) (v := .ref (S.2 v0 3)) hx hb hown hKK hH cf6 (by decide) fl_X6_22 rfl k1 rfl dX6_back_1 ?_
  obtain ⟨k2, hw⟩ := hw
  refine hv_getN (ci := 3) (k := 2) (v := .int (h (S.2 v0 3) 2)) hx hb hown hKK hH cf3 (by decide) fl_X6_190 rfl k2 rfl dX6_back_4 ?_
  refine lv_if_ne (tgt := 17) hx hb dX6_back_7 (by decide) (fun c3 => ?_) (fun c3 => ?_)
  · have hw := ite_f hw c3
    refine lv_aload_n hx hb dX6_back_17 rfl (lv_at hl 0 rfl) ?_
    refine hv_get (ci := 6) (k := 3) (v := .ref (S.2 v0 3)) hx hb hown hKK hH cf6 (by decide) fl_X6_22 rfl k1 rfl dX6_back_18 ?_
    refine lv_aload_n hx hb dX6_back_21 rfl (lv_at hl 0 rfl) ?_
    refine hv_get (ci := 6) (k := 0) (v := .ref (S.2 v0 0)) hx hb hown hKK hH cf6 (by decide) fl_X6_10 rfl k1 rfl dX6_back_22 ?_
    refine hv_cVV (rm := rm_X3_takeBack) (As := [.ref (S.2 v0 0)]) (rest := []) (k := 1) (ci := 3) hx hb hml hown hKK hH cf3 k2 (m_X3_takeBack (S.2 v0 3) (S.2 v0 0) _ _ hw) cw_X6_191 ⟨Nat.le_of_ble_eq_true rfl, Nat.le_of_ble_eq_true rfl⟩ rfl hl.1 rfl (Nat.le_of_ble_eq_true rfl) ⟨Nat.le_of_ble_eq_true rfl, Nat.le_of_ble_eq_true rfl⟩ dX6_back_25 (fun h6 H locs hH hw => ?_)
    refine lv_aload_n hx hb dX6_back_28 rfl (lv_at hl 0 rfl) ?_
    refine hv_get (ci := 6) (k := 3) (v := .ref (S.2 v0 3)) hx hb hown hKK hH cf6 (by decide) fl_X6_22 rfl k1 rfl dX6_back_29 ?_
    refine hv_getN (ci := 3) (k := 2) (v := .int (h6 (S.2 v0 3) 2)) hx hb hown hKK hH cf3 (by decide) fl_X6_190 rfl k2 rfl dX6_back_32 ?_
    exact hv_iret hx hb hr hlk hH hw dX6_back_35
  · have hw := ite_t hw c3
    refine lv_aload_n hx hb dX6_back_10 rfl (lv_at hl 0 rfl) ?_
    refine lv_bipush (v := (-3)) hx hb dX6_back_11 (by decide) ?_
    refine hv_cVI (rm := rm_X6_refuse) (As := [.int (-3)]) (rest := []) (k := 1) (ci := 6) hx hb hml hown hKK hH cf6 k1 (m_X6_refuse v0 (-3) _ _ hw) cw_X6_56 ⟨Nat.le_of_ble_eq_true rfl, Nat.le_of_ble_eq_true rfl⟩ rfl hl.1 rfl (Nat.le_of_ble_eq_true rfl) ⟨Nat.le_of_ble_eq_true rfl, Nat.le_of_ble_eq_true rfl⟩ dX6_back_13 (fun r5 h4 H locs hH hw => ?_)
    exact hv_iret hx hb hr hlk hH hw dX6_back_16
abbrev rm_X6_headThen : Room := { frames := 6, cells := 0, slots := 0, locals := 167 }
set_option maxHeartbeats 4000000 in
set_option maxRecDepth 100000 in
theorem m_X6_headThen {l : Launch} {G : Gl} {B sz : Nat} {S : St} (v0 : Nat) (v1 : Int32) (v2 : Int32) (v3 : Int32) (h : Hp) (Q : Int32 → Hp → Prop) (hw : w_X6_headThen S v0 v1 v2 v3 h Q) : MI l G B sz S yX6_headThen cX6_headThen 6 .int rm_X6_headThen [.ref v0, .int v1, .int v2, .int v3] h Q := by
  refine met_of rfl rfl ?_
  intro p e s m args below meth c hMB H ls hH hl
  obtain ⟨hx, hb, hml, hown, hKK, hr, hlk⟩ := hMB
  replace hl : lv_has ls 6 [(0, .ref v0), (1, .int v1), (2, .int v2), (3, .int v3)] := hl
  unfold w_X6_headThen at hw
  show W p l e rm_X6_headThen s m args below meth c H [] 0 0 (QI G B S sz below args s Q) (F0 m 0 ls [])
  generalize ([] : List Loc) = locs at hH ⊢
  refine lv_aload_n hx hb dX6_headThen_0 rfl (lv_at hl 0 rfl) ?_
  refine lv_iload_n hx hb dX6_headThen_1 rfl (lv_at hl 1 rfl) ?_
  obtain ⟨k1, hw⟩ := hw
  refine hv_cVI (rm := rm_X6_noHead) (As := [.int v1]) (rest := []) (k := 1) (ci := 6) hx hb hml hown hKK hH cf6 k1 (m_X6_noHead v0 v1 _ _ hw) cw_X6_64 ⟨Nat.le_of_ble_eq_true rfl, Nat.le_of_ble_eq_true rfl⟩ rfl hl.1 rfl (Nat.le_of_ble_eq_true rfl) ⟨Nat.le_of_ble_eq_true rfl, Nat.le_of_ble_eq_true rfl⟩ dX6_headThen_2 (fun r3 h2 H locs hH hw => ?_)
  refine lv_iload_n hx hb dX6_headThen_5 rfl (lv_at hl 2 rfl) ?_
  refine lv_iconst (v := (nI 0)) hx hb dX6_headThen_6 (by decide) ?_
  refine lv_bipush (v := (nI 60)) hx hb dX6_headThen_7 (by decide) ?_
  refine lv_iload_n hx hb dX6_headThen_9 rfl (lv_at hl 3 rfl) ?_
  refine lv_iconst (v := (nI 3)) hx hb dX6_headThen_10 (by decide) ?_
  refine hv_cSI (rm := rm_X6_faultOfAsked) (As := [.int r3, .int v2, .int (nI 0), .int (nI 60), .int v3, .int (nI 3)]) (rest := []) (k := 6) hx hb hml hown hKK hH (m_X6_faultOfAsked r3 v2 (nI 0) (nI 60) v3 (nI 3) _ _ hw) cw_X6_194 ⟨Nat.le_of_ble_eq_true rfl, Nat.le_of_ble_eq_true rfl⟩ rfl hl.1 rfl (Nat.le_of_ble_eq_true rfl) ⟨Nat.le_of_ble_eq_true rfl, Nat.le_of_ble_eq_true rfl⟩ dX6_headThen_11 (fun r5 h4 H locs hH hw => ?_)
  refine lv_istore (lv' := [(4, .int r5), (0, .ref v0), (1, .int v1), (2, .int v2), (3, .int v3)]) hx hb dX6_headThen_14 hl (by decide) rfl (fun ls hl => ?_)
  refine lv_iload hx hb dX6_headThen_16 (lv_at hl 0 rfl) ?_
  refine lv_if_eq (tgt := 28) hx hb dX6_headThen_18 (by decide) (fun c6 => ?_) (fun c6 => ?_)
  · have hw := ite_t hw c6
    refine lv_aload_n hx hb dX6_headThen_28 rfl (lv_at hl 1 rfl) ?_
    refine hv_get (ci := 6) (k := 5) (v := .ref (S.2 v0 5)) hx hb hown hKK hH cf6 (by decide) fl_X6_36 rfl k1 rfl dX6_headThen_29 ?_
    refine lv_aload_n hx hb dX6_headThen_32 rfl (lv_at hl 1 rfl) ?_
    refine hv_get (ci := 6) (k := 0) (v := .ref (S.2 v0 0)) hx hb hown hKK hH cf6 (by decide) fl_X6_10 rfl k1 rfl dX6_headThen_33 ?_
    refine lv_iload_n hx hb dX6_headThen_36 rfl (lv_at hl 3 rfl) ?_
    obtain ⟨k7, hw⟩ := hw
    refine hv_cVA (rm := rm_X2_behindNights) (As := [.ref (S.2 v0 0), .int v2]) (rest := []) (k := 2) (ci := 2) hx hb hml hown hKK hH cf2 k7 (m_X2_behindNights (S.2 v0 5) (S.2 v0 0) v2 _ _ hw) cw_X6_198 ⟨Nat.le_of_ble_eq_true rfl, Nat.le_of_ble_eq_true rfl⟩ rfl hl.1 rfl (Nat.le_of_ble_eq_true rfl) ⟨Nat.le_of_ble_eq_true rfl, Nat.le_of_ble_eq_true rfl⟩ dX6_headThen_37 (fun r9 h8 H locs hH hw => ?_)
    obtain ⟨k10, hw⟩ := hw
    refine hv_getN (ci := 1) (k := 3) (v := .ref (S.2 r9 3)) hx hb hown hKK hH cf1 (by decide) fl_X6_105 rfl k10 rfl dX6_headThen_40 ?_
    refine lv_iload_n hx hb dX6_headThen_43 rfl (lv_at hl 2 rfl) ?_
    obtain ⟨k11, hw⟩ := hw
    refine hv_aald (t := 1) hx hb (by decide) hKK hH k11 dX6_headThen_44 ?_
    refine lv_astore (lv' := [(5, .ref (S.2 (S.2 r9 3) (ix v1))), (4, .int r5), (0, .ref v0), (1, .int v1), (2, .int v2), (3, .int v3)]) hx hb dX6_headThen_45 hl (by decide) rfl (fun ls hl => ?_)
    refine lv_iload_n hx hb dX6_headThen_47 rfl (lv_at hl 5 rfl) ?_
    by_cases c12 : v3 = (nI 0)
    · have hw := ite_t hw c12
      refine lv_tableIn (tgt := 76) hx hb dX6_headThen_48 (by rw [c12]; decide) (by rw [c12]; decide) (by rw [c12]; rfl) (by decide) ?_
      refine lv_aload hx hb dX6_headThen_76 (lv_at hl 0 rfl) ?_
      obtain ⟨k13, hw⟩ := hw
      refine hv_getN (ci := 0) (k := 4) (v := .int (h8 (S.2 (S.2 r9 3) (ix v1)) 4)) hx hb hown hKK hH cf0 (by decide) fl_X6_117 rfl k13 rfl dX6_headThen_78 ?_
      exact hv_iret hx hb hr hlk hH hw dX6_headThen_81
    have hw := ite_f hw c12
    by_cases c14 : v3 = (nI 1)
    · have hw := ite_t hw c14
      refine lv_tableIn (tgt := 82) hx hb dX6_headThen_48 (by rw [c14]; decide) (by rw [c14]; decide) (by rw [c14]; rfl) (by decide) ?_
      refine lv_aload hx hb dX6_headThen_82 (lv_at hl 0 rfl) ?_
      obtain ⟨k15, hw⟩ := hw
      refine hv_getN (ci := 0) (k := 5) (v := .int (h8 (S.2 (S.2 r9 3) (ix v1)) 5)) hx hb hown hKK hH cf0 (by decide) fl_X6_120 rfl k15 rfl dX6_headThen_84 ?_
      exact hv_iret hx hb hr hlk hH hw dX6_headThen_87
    have hw := ite_f hw c14
    by_cases c16 : v3 = (nI 2)
    · have hw := ite_t hw c16
      refine lv_tableIn (tgt := 88) hx hb dX6_headThen_48 (by rw [c16]; decide) (by rw [c16]; decide) (by rw [c16]; rfl) (by decide) ?_
      refine lv_aload hx hb dX6_headThen_88 (lv_at hl 0 rfl) ?_
      obtain ⟨k17, hw⟩ := hw
      refine hv_getN (ci := 0) (k := 7) (v := .int (h8 (S.2 (S.2 r9 3) (ix v1)) 7)) hx hb hown hKK hH cf0 (by decide) fl_X6_126 rfl k17 rfl dX6_headThen_90 ?_
      exact hv_iret hx hb hr hlk hH hw dX6_headThen_93
    have hw := ite_f hw c16
    refine lv_tableOut (tgt := 94) hx hb dX6_headThen_48 (by have := ne_toInt (k := 0) (by decide) c12; have := ne_toInt (k := 1) (by decide) c14; have := ne_toInt (k := 2) (by decide) c16; omega) (by decide) ?_
    refine lv_aload hx hb dX6_headThen_94 (lv_at hl 0 rfl) ?_
    obtain ⟨k18, hw⟩ := hw
    refine hv_getN (ci := 0) (k := 8) (v := .int (h8 (S.2 (S.2 r9 3) (ix v1)) 8)) hx hb hown hKK hH cf0 (by decide) fl_X6_129 rfl k18 rfl dX6_headThen_96 ?_
    refine lv_if_eq (tgt := 106) hx hb dX6_headThen_99 (by decide) (fun c19 => ?_) (fun c19 => ?_)
    · have hw := ite_t hw c19
      refine lv_iconst (v := (nI 0)) hx hb dX6_headThen_106 (by decide) ?_
      exact hv_iret hx hb hr hlk hH hw dX6_headThen_107
    · have hw := ite_f hw c19
      refine lv_iconst (v := (nI 1)) hx hb dX6_headThen_102 (by decide) ?_
      refine lv_goto (tgt := 107) hx hb dX6_headThen_103 (by decide) ?_
      exact hv_iret hx hb hr hlk hH hw dX6_headThen_107
  · have hw := ite_f hw c6
    refine lv_aload_n hx hb dX6_headThen_21 rfl (lv_at hl 1 rfl) ?_
    refine lv_iload hx hb dX6_headThen_22 (lv_at hl 0 rfl) ?_
    refine hv_cVI (rm := rm_X6_refuse) (As := [.int r5]) (rest := []) (k := 1) (ci := 6) hx hb hml hown hKK hH cf6 k1 (m_X6_refuse v0 r5 _ _ hw) cw_X6_56 ⟨Nat.le_of_ble_eq_true rfl, Nat.le_of_ble_eq_true rfl⟩ rfl hl.1 rfl (Nat.le_of_ble_eq_true rfl) ⟨Nat.le_of_ble_eq_true rfl, Nat.le_of_ble_eq_true rfl⟩ dX6_headThen_24 (fun r21 h20 H locs hH hw => ?_)
    exact hv_iret hx hb hr hlk hH hw dX6_headThen_27
abbrev rm_X6_then : Room := { frames := 6, cells := 0, slots := 0, locals := 167 }
set_option maxHeartbeats 4000000 in
set_option maxRecDepth 100000 in
theorem m_X6_then {l : Launch} {G : Gl} {B sz : Nat} {S : St} (v0 : Nat) (v1 : Int32) (v2 : Int32) (h : Hp) (Q : Int32 → Hp → Prop) (hw : w_X6_then S v0 v1 v2 h Q) : MI l G B sz S yX6_then cX6_then 5 .int rm_X6_then [.ref v0, .int v1, .int v2] h Q := by
  refine met_of rfl rfl ?_
  intro p e s m args below meth c hMB H ls hH hl
  obtain ⟨hx, hb, hml, hown, hKK, hr, hlk⟩ := hMB
  replace hl : lv_has ls 5 [(0, .ref v0), (1, .int v1), (2, .int v2)] := hl
  unfold w_X6_then at hw
  show W p l e rm_X6_then s m args below meth c H [] 0 0 (QI G B S sz below args s Q) (F0 m 0 ls [])
  generalize ([] : List Loc) = locs at hH ⊢
  refine lv_iconst (v := (nI 0)) hx hb dX6_then_0 (by decide) ?_
  refine lv_iload_n hx hb dX6_then_1 rfl (lv_at hl 1 rfl) ?_
  refine lv_iconst (v := (nI 0)) hx hb dX6_then_2 (by decide) ?_
  refine lv_bipush (v := (nI 60)) hx hb dX6_then_3 (by decide) ?_
  refine lv_iload_n hx hb dX6_then_5 rfl (lv_at hl 2 rfl) ?_
  refine lv_iconst (v := (nI 3)) hx hb dX6_then_6 (by decide) ?_
  refine hv_cSI (rm := rm_X6_faultOfAsked) (As := [.int (nI 0), .int v1, .int (nI 0), .int (nI 60), .int v2, .int (nI 3)]) (rest := []) (k := 6) hx hb hml hown hKK hH (m_X6_faultOfAsked (nI 0) v1 (nI 0) (nI 60) v2 (nI 3) _ _ hw) cw_X6_194 ⟨Nat.le_of_ble_eq_true rfl, Nat.le_of_ble_eq_true rfl⟩ rfl hl.1 rfl (Nat.le_of_ble_eq_true rfl) ⟨Nat.le_of_ble_eq_true rfl, Nat.le_of_ble_eq_true rfl⟩ dX6_then_7 (fun r2 h1 H locs hH hw => ?_)
  refine lv_istore_n (lv' := [(3, .int r2), (0, .ref v0), (1, .int v1), (2, .int v2)]) hx hb dX6_then_10 rfl hl (by decide) rfl (fun ls hl => ?_)
  refine lv_iload_n hx hb dX6_then_11 rfl (lv_at hl 0 rfl) ?_
  refine lv_if_eq (tgt := 21) hx hb dX6_then_12 (by decide) (fun c3 => ?_) (fun c3 => ?_)
  · have hw := ite_t hw c3
    refine lv_aload_n hx hb dX6_then_21 rfl (lv_at hl 1 rfl) ?_
    obtain ⟨k4, hw⟩ := hw
    refine hv_get (ci := 6) (k := 5) (v := .ref (S.2 v0 5)) hx hb hown hKK hH cf6 (by decide) fl_X6_36 rfl k4 rfl dX6_then_22 ?_
    refine lv_aload_n hx hb dX6_then_25 rfl (lv_at hl 1 rfl) ?_
    refine hv_get (ci := 6) (k := 0) (v := .ref (S.2 v0 0)) hx hb hown hKK hH cf6 (by decide) fl_X6_10 rfl k4 rfl dX6_then_26 ?_
    refine lv_iload_n hx hb dX6_then_29 rfl (lv_at hl 2 rfl) ?_
    obtain ⟨k5, hw⟩ := hw
    refine hv_cVA (rm := rm_X2_behindNights) (As := [.ref (S.2 v0 0), .int v1]) (rest := []) (k := 2) (ci := 2) hx hb hml hown hKK hH cf2 k5 (m_X2_behindNights (S.2 v0 5) (S.2 v0 0) v1 _ _ hw) cw_X6_198 ⟨Nat.le_of_ble_eq_true rfl, Nat.le_of_ble_eq_true rfl⟩ rfl hl.1 rfl (Nat.le_of_ble_eq_true rfl) ⟨Nat.le_of_ble_eq_true rfl, Nat.le_of_ble_eq_true rfl⟩ dX6_then_30 (fun r7 h6 H locs hH hw => ?_)
    refine lv_astore (lv' := [(4, .ref r7), (3, .int r2), (0, .ref v0), (1, .int v1), (2, .int v2)]) hx hb dX6_then_33 hl (by decide) rfl (fun ls hl => ?_)
    refine lv_iload_n hx hb dX6_then_35 rfl (lv_at hl 4 rfl) ?_
    by_cases c8 : v2 = (nI 0)
    · have hw := ite_t hw c8
      refine lv_tableIn (tgt := 64) hx hb dX6_then_36 (by rw [c8]; decide) (by rw [c8]; decide) (by rw [c8]; rfl) (by decide) ?_
      refine lv_aload hx hb dX6_then_64 (lv_at hl 0 rfl) ?_
      obtain ⟨k9, hw⟩ := hw
      refine hv_getN (ci := 1) (k := 6) (v := .int (h6 r7 6)) hx hb hown hKK hH cf1 (by decide) fl_X6_187 rfl k9 rfl dX6_then_66 ?_
      exact hv_iret hx hb hr hlk hH hw dX6_then_69
    have hw := ite_f hw c8
    by_cases c10 : v2 = (nI 1)
    · have hw := ite_t hw c10
      refine lv_tableIn (tgt := 70) hx hb dX6_then_36 (by rw [c10]; decide) (by rw [c10]; decide) (by rw [c10]; rfl) (by decide) ?_
      refine lv_aload hx hb dX6_then_70 (lv_at hl 0 rfl) ?_
      obtain ⟨k11, hw⟩ := hw
      refine hv_cVI (rm := rm_X1_settledBits) (As := []) (rest := []) (k := 0) (ci := 1) hx hb hml hown hKK hH cf1 k11 (m_X1_settledBits r7 _ _ hw) cw_X6_202 ⟨Nat.le_of_ble_eq_true rfl, Nat.le_of_ble_eq_true rfl⟩ rfl hl.1 rfl (Nat.le_of_ble_eq_true rfl) ⟨Nat.le_of_ble_eq_true rfl, Nat.le_of_ble_eq_true rfl⟩ dX6_then_72 (fun r13 h12 H locs hH hw => ?_)
      exact hv_iret hx hb hr hlk hH hw dX6_then_75
    have hw := ite_f hw c10
    by_cases c14 : v2 = (nI 2)
    · have hw := ite_t hw c14
      refine lv_tableIn (tgt := 76) hx hb dX6_then_36 (by rw [c14]; decide) (by rw [c14]; decide) (by rw [c14]; rfl) (by decide) ?_
      refine lv_aload hx hb dX6_then_76 (lv_at hl 0 rfl) ?_
      obtain ⟨k15, hw⟩ := hw
      refine hv_cVI (rm := rm_X1_allPeople) (As := []) (rest := []) (k := 0) (ci := 1) hx hb hml hown hKK hH cf1 k15 (m_X1_allPeople r7 _ _ hw) cw_X6_205 ⟨Nat.le_of_ble_eq_true rfl, Nat.le_of_ble_eq_true rfl⟩ rfl hl.1 rfl (Nat.le_of_ble_eq_true rfl) ⟨Nat.le_of_ble_eq_true rfl, Nat.le_of_ble_eq_true rfl⟩ dX6_then_78 (fun r17 h16 H locs hH hw => ?_)
      exact hv_iret hx hb hr hlk hH hw dX6_then_81
    have hw := ite_f hw c14
    refine lv_tableOut (tgt := 82) hx hb dX6_then_36 (by have := ne_toInt (k := 0) (by decide) c8; have := ne_toInt (k := 1) (by decide) c10; have := ne_toInt (k := 2) (by decide) c14; omega) (by decide) ?_
    refine lv_aload hx hb dX6_then_82 (lv_at hl 0 rfl) ?_
    obtain ⟨k18, hw⟩ := hw
    refine hv_cVI (rm := rm_X1_allWalls) (As := []) (rest := []) (k := 0) (ci := 1) hx hb hml hown hKK hH cf1 k18 (m_X1_allWalls r7 _ _ hw) cw_X6_208 ⟨Nat.le_of_ble_eq_true rfl, Nat.le_of_ble_eq_true rfl⟩ rfl hl.1 rfl (Nat.le_of_ble_eq_true rfl) ⟨Nat.le_of_ble_eq_true rfl, Nat.le_of_ble_eq_true rfl⟩ dX6_then_84 (fun r20 h19 H locs hH hw => ?_)
    exact hv_iret hx hb hr hlk hH hw dX6_then_87
  · have hw := ite_f hw c3
    refine lv_aload_n hx hb dX6_then_15 rfl (lv_at hl 1 rfl) ?_
    refine lv_iload_n hx hb dX6_then_16 rfl (lv_at hl 0 rfl) ?_
    obtain ⟨k21, hw⟩ := hw
    refine hv_cVI (rm := rm_X6_refuse) (As := [.int r2]) (rest := []) (k := 1) (ci := 6) hx hb hml hown hKK hH cf6 k21 (m_X6_refuse v0 r2 _ _ hw) cw_X6_56 ⟨Nat.le_of_ble_eq_true rfl, Nat.le_of_ble_eq_true rfl⟩ rfl hl.1 rfl (Nat.le_of_ble_eq_true rfl) ⟨Nat.le_of_ble_eq_true rfl, Nat.le_of_ble_eq_true rfl⟩ dX6_then_17 (fun r23 h22 H locs hH hw => ?_)
    exact hv_iret hx hb hr hlk hH hw dX6_then_20
abbrev rm_X6_when : Room := { frames := 6, cells := 0, slots := 0, locals := 169 }
set_option maxHeartbeats 4000000 in
set_option maxRecDepth 100000 in
theorem m_X6_when {l : Launch} {G : Gl} {B sz : Nat} {S : St} (v0 : Nat) (v1 : Int32) (v2 : Int32) (h : Hp) (Q : Int32 → Hp → Prop) (hw : w_X6_when S v0 v1 v2 h Q) : MI l G B sz S yX6_when cX6_when 3 .int rm_X6_when [.ref v0, .int v1, .int v2] h Q := by
  refine met_of rfl rfl ?_
  intro p e s m args below meth c hMB H ls hH hl
  obtain ⟨hx, hb, hml, hown, hKK, hr, hlk⟩ := hMB
  replace hl : lv_has ls 3 [(0, .ref v0), (1, .int v1), (2, .int v2)] := hl
  unfold w_X6_when at hw
  show W p l e rm_X6_when s m args below meth c H [] 0 0 (QI G B S sz below args s Q) (F0 m 0 ls [])
  generalize ([] : List Loc) = locs at hH ⊢
  refine lv_aload_n hx hb dX6_when_0 rfl (lv_at hl 0 rfl) ?_
  refine lv_iload_n hx hb dX6_when_1 rfl (lv_at hl 1 rfl) ?_
  obtain ⟨k1, hw⟩ := hw
  refine hv_cVI (rm := rm_X6_noHead) (As := [.int v1]) (rest := []) (k := 1) (ci := 6) hx hb hml hown hKK hH cf6 k1 (m_X6_noHead v0 v1 _ _ hw) cw_X6_64 ⟨Nat.le_of_ble_eq_true rfl, Nat.le_of_ble_eq_true rfl⟩ rfl hl.1 rfl (Nat.le_of_ble_eq_true rfl) ⟨Nat.le_of_ble_eq_true rfl, Nat.le_of_ble_eq_true rfl⟩ dX6_when_2 (fun r3 h2 H locs hH hw => ?_)
  refine lv_if_ne (tgt := 15) hx hb dX6_when_5 (by decide) (fun c4 => ?_) (fun c4 => ?_)
  · have hw := ite_f hw c4
    refine lv_aload_n hx hb dX6_when_15 rfl (lv_at hl 0 rfl) ?_
    refine lv_iconst (v := (-1)) hx hb dX6_when_16 (by decide) ?_
    refine hv_cVI (rm := rm_X6_refuse) (As := [.int (-1)]) (rest := []) (k := 1) (ci := 6) hx hb hml hown hKK hH cf6 k1 (m_X6_refuse v0 (-1) _ _ hw) cw_X6_56 ⟨Nat.le_of_ble_eq_true rfl, Nat.le_of_ble_eq_true rfl⟩ rfl hl.1 rfl (Nat.le_of_ble_eq_true rfl) ⟨Nat.le_of_ble_eq_true rfl, Nat.le_of_ble_eq_true rfl⟩ dX6_when_17 (fun r14 h13 H locs hH hw => ?_)
    exact hv_iret hx hb hr hlk hH hw dX6_when_20
  · have hw := ite_t hw c4
    refine lv_iload_n hx hb dX6_when_8 rfl (lv_at hl 2 rfl) ?_
    refine hv_cSI (rm := rm_X6_noField) (As := [.int v2]) (rest := []) (k := 1) hx hb hml hown hKK hH (m_X6_noField v2 _ _ hw) cw_X6_151 ⟨Nat.le_of_ble_eq_true rfl, Nat.le_of_ble_eq_true rfl⟩ rfl hl.1 rfl (Nat.le_of_ble_eq_true rfl) ⟨Nat.le_of_ble_eq_true rfl, Nat.le_of_ble_eq_true rfl⟩ dX6_when_9 (fun r6 h5 H locs hH hw => ?_)
    refine lv_if_eq (tgt := 21) hx hb dX6_when_12 (by decide) (fun c7 => ?_) (fun c7 => ?_)
    · have hw := ite_t hw c7
      refine lv_aload_n hx hb dX6_when_21 rfl (lv_at hl 0 rfl) ?_
      refine hv_get (ci := 6) (k := 5) (v := .ref (S.2 v0 5)) hx hb hown hKK hH cf6 (by decide) fl_X6_36 rfl k1 rfl dX6_when_22 ?_
      refine lv_aload_n hx hb dX6_when_25 rfl (lv_at hl 0 rfl) ?_
      refine hv_get (ci := 6) (k := 0) (v := .ref (S.2 v0 0)) hx hb hown hKK hH cf6 (by decide) fl_X6_10 rfl k1 rfl dX6_when_26 ?_
      refine lv_iload_n hx hb dX6_when_29 rfl (lv_at hl 1 rfl) ?_
      refine lv_iload_n hx hb dX6_when_30 rfl (lv_at hl 2 rfl) ?_
      obtain ⟨k8, hw⟩ := hw
      refine hv_cVI (rm := rm_X2_nightsUntilOn) (As := [.ref (S.2 v0 0), .int v1, .int v2]) (rest := []) (k := 3) (ci := 2) hx hb hml hown hKK hH cf2 k8 (m_X2_nightsUntilOn (S.2 v0 5) (S.2 v0 0) v1 v2 _ _ hw) cw_X6_211 ⟨Nat.le_of_ble_eq_true rfl, Nat.le_of_ble_eq_true rfl⟩ rfl hl.1 rfl (Nat.le_of_ble_eq_true rfl) ⟨Nat.le_of_ble_eq_true rfl, Nat.le_of_ble_eq_true rfl⟩ dX6_when_31 (fun r10 h9 H locs hH hw => ?_)
      exact hv_iret hx hb hr hlk hH hw dX6_when_34
    · have hw := ite_f hw c7
      refine lv_aload_n hx hb dX6_when_15 rfl (lv_at hl 0 rfl) ?_
      refine lv_iconst (v := (-1)) hx hb dX6_when_16 (by decide) ?_
      refine hv_cVI (rm := rm_X6_refuse) (As := [.int (-1)]) (rest := []) (k := 1) (ci := 6) hx hb hml hown hKK hH cf6 k1 (m_X6_refuse v0 (-1) _ _ hw) cw_X6_56 ⟨Nat.le_of_ble_eq_true rfl, Nat.le_of_ble_eq_true rfl⟩ rfl hl.1 rfl (Nat.le_of_ble_eq_true rfl) ⟨Nat.le_of_ble_eq_true rfl, Nat.le_of_ble_eq_true rfl⟩ dX6_when_17 (fun r12 h11 H locs hH hw => ?_)
      exact hv_iret hx hb hr hlk hH hw dX6_when_20
abbrev rm_X6_settles : Room := { frames := 6, cells := 0, slots := 0, locals := 168 }
set_option maxHeartbeats 4000000 in
set_option maxRecDepth 100000 in
theorem m_X6_settles {l : Launch} {G : Gl} {B sz : Nat} {S : St} (v0 : Nat) (v1 : Int32) (h : Hp) (Q : Int32 → Hp → Prop) (hw : w_X6_settles S v0 v1 h Q) : MI l G B sz S yX6_settles cX6_settles 2 .int rm_X6_settles [.ref v0, .int v1] h Q := by
  refine met_of rfl rfl ?_
  intro p e s m args below meth c hMB H ls hH hl
  obtain ⟨hx, hb, hml, hown, hKK, hr, hlk⟩ := hMB
  replace hl : lv_has ls 2 [(0, .ref v0), (1, .int v1)] := hl
  unfold w_X6_settles at hw
  show W p l e rm_X6_settles s m args below meth c H [] 0 0 (QI G B S sz below args s Q) (F0 m 0 ls [])
  generalize ([] : List Loc) = locs at hH ⊢
  refine lv_iload_n hx hb dX6_settles_0 rfl (lv_at hl 1 rfl) ?_
  refine lv_iconst (v := (-1)) hx hb dX6_settles_1 (by decide) ?_
  refine lv_icmp_ne (tgt := 17) hx hb dX6_settles_2 (by decide) (fun c1 => ?_) (fun c1 => ?_)
  · have hw := ite_f hw c1
    refine lv_aload_n hx hb dX6_settles_17 rfl (lv_at hl 0 rfl) ?_
    refine lv_iload_n hx hb dX6_settles_18 rfl (lv_at hl 1 rfl) ?_
    obtain ⟨k6, hw⟩ := hw
    refine hv_cVI (rm := rm_X6_noHead) (As := [.int v1]) (rest := []) (k := 1) (ci := 6) hx hb hml hown hKK hH cf6 k6 (m_X6_noHead v0 v1 _ _ hw) cw_X6_64 ⟨Nat.le_of_ble_eq_true rfl, Nat.le_of_ble_eq_true rfl⟩ rfl hl.1 rfl (Nat.le_of_ble_eq_true rfl) ⟨Nat.le_of_ble_eq_true rfl, Nat.le_of_ble_eq_true rfl⟩ dX6_settles_19 (fun r8 h7 H locs hH hw => ?_)
    refine lv_if_eq (tgt := 31) hx hb dX6_settles_22 (by decide) (fun c9 => ?_) (fun c9 => ?_)
    · have hw := ite_t hw c9
      refine lv_aload_n hx hb dX6_settles_31 rfl (lv_at hl 0 rfl) ?_
      refine hv_get (ci := 6) (k := 5) (v := .ref (S.2 v0 5)) hx hb hown hKK hH cf6 (by decide) fl_X6_36 rfl k6 rfl dX6_settles_32 ?_
      refine lv_aload_n hx hb dX6_settles_35 rfl (lv_at hl 0 rfl) ?_
      refine hv_get (ci := 6) (k := 0) (v := .ref (S.2 v0 0)) hx hb hown hKK hH cf6 (by decide) fl_X6_10 rfl k6 rfl dX6_settles_36 ?_
      refine lv_iload_n hx hb dX6_settles_39 rfl (lv_at hl 1 rfl) ?_
      obtain ⟨k10, hw⟩ := hw
      refine hv_cVI (rm := rm_X2_nightsUntilSettled) (As := [.ref (S.2 v0 0), .int v1]) (rest := []) (k := 2) (ci := 2) hx hb hml hown hKK hH cf2 k10 (m_X2_nightsUntilSettled (S.2 v0 5) (S.2 v0 0) v1 _ _ hw) cw_X6_219 ⟨Nat.le_of_ble_eq_true rfl, Nat.le_of_ble_eq_true rfl⟩ rfl hl.1 rfl (Nat.le_of_ble_eq_true rfl) ⟨Nat.le_of_ble_eq_true rfl, Nat.le_of_ble_eq_true rfl⟩ dX6_settles_40 (fun r12 h11 H locs hH hw => ?_)
      exact hv_iret hx hb hr hlk hH hw dX6_settles_43
    · have hw := ite_f hw c9
      refine lv_aload_n hx hb dX6_settles_25 rfl (lv_at hl 0 rfl) ?_
      refine lv_iconst (v := (-1)) hx hb dX6_settles_26 (by decide) ?_
      refine hv_cVI (rm := rm_X6_refuse) (As := [.int (-1)]) (rest := []) (k := 1) (ci := 6) hx hb hml hown hKK hH cf6 k6 (m_X6_refuse v0 (-1) _ _ hw) cw_X6_56 ⟨Nat.le_of_ble_eq_true rfl, Nat.le_of_ble_eq_true rfl⟩ rfl hl.1 rfl (Nat.le_of_ble_eq_true rfl) ⟨Nat.le_of_ble_eq_true rfl, Nat.le_of_ble_eq_true rfl⟩ dX6_settles_27 (fun r14 h13 H locs hH hw => ?_)
      exact hv_iret hx hb hr hlk hH hw dX6_settles_30
  · have hw := ite_t hw c1
    refine lv_aload_n hx hb dX6_settles_5 rfl (lv_at hl 0 rfl) ?_
    obtain ⟨k2, hw⟩ := hw
    refine hv_get (ci := 6) (k := 5) (v := .ref (S.2 v0 5)) hx hb hown hKK hH cf6 (by decide) fl_X6_36 rfl k2 rfl dX6_settles_6 ?_
    refine lv_aload_n hx hb dX6_settles_9 rfl (lv_at hl 0 rfl) ?_
    refine hv_get (ci := 6) (k := 0) (v := .ref (S.2 v0 0)) hx hb hown hKK hH cf6 (by decide) fl_X6_10 rfl k2 rfl dX6_settles_10 ?_
    obtain ⟨k3, hw⟩ := hw
    refine hv_cVI (rm := rm_X2_firstToSettle) (As := [.ref (S.2 v0 0)]) (rest := []) (k := 1) (ci := 2) hx hb hml hown hKK hH cf2 k3 (m_X2_firstToSettle (S.2 v0 5) (S.2 v0 0) _ _ hw) cw_X6_215 ⟨Nat.le_of_ble_eq_true rfl, Nat.le_of_ble_eq_true rfl⟩ rfl hl.1 rfl (Nat.le_of_ble_eq_true rfl) ⟨Nat.le_of_ble_eq_true rfl, Nat.le_of_ble_eq_true rfl⟩ dX6_settles_13 (fun r5 h4 H locs hH hw => ?_)
    exact hv_iret hx hb hr hlk hH hw dX6_settles_16
abbrev rm_X6_meeting : Room := { frames := 6, cells := 0, slots := 0, locals := 169 }
set_option maxHeartbeats 4000000 in
set_option maxRecDepth 100000 in
theorem m_X6_meeting {l : Launch} {G : Gl} {B sz : Nat} {S : St} (v0 : Nat) (v1 : Int32) (v2 : Int32) (h : Hp) (Q : Int32 → Hp → Prop) (hw : w_X6_meeting S v0 v1 v2 h Q) : MI l G B sz S yX6_meeting cX6_meeting 3 .int rm_X6_meeting [.ref v0, .int v1, .int v2] h Q := by
  refine met_of rfl rfl ?_
  intro p e s m args below meth c hMB H ls hH hl
  obtain ⟨hx, hb, hml, hown, hKK, hr, hlk⟩ := hMB
  replace hl : lv_has ls 3 [(0, .ref v0), (1, .int v1), (2, .int v2)] := hl
  unfold w_X6_meeting at hw
  show W p l e rm_X6_meeting s m args below meth c H [] 0 0 (QI G B S sz below args s Q) (F0 m 0 ls [])
  generalize ([] : List Loc) = locs at hH ⊢
  refine lv_aload_n hx hb dX6_meeting_0 rfl (lv_at hl 0 rfl) ?_
  refine lv_iload_n hx hb dX6_meeting_1 rfl (lv_at hl 1 rfl) ?_
  refine lv_iload_n hx hb dX6_meeting_2 rfl (lv_at hl 2 rfl) ?_
  obtain ⟨k1, hw⟩ := hw
  refine hv_cVI (rm := rm_X6_noPair) (As := [.int v1, .int v2]) (rest := []) (k := 2) (ci := 6) hx hb hml hown hKK hH cf6 k1 (m_X6_noPair v0 v1 v2 _ _ hw) cw_X6_223 ⟨Nat.le_of_ble_eq_true rfl, Nat.le_of_ble_eq_true rfl⟩ rfl hl.1 rfl (Nat.le_of_ble_eq_true rfl) ⟨Nat.le_of_ble_eq_true rfl, Nat.le_of_ble_eq_true rfl⟩ dX6_meeting_3 (fun r3 h2 H locs hH hw => ?_)
  refine lv_if_eq (tgt := 15) hx hb dX6_meeting_6 (by decide) (fun c4 => ?_) (fun c4 => ?_)
  · have hw := ite_t hw c4
    refine lv_aload_n hx hb dX6_meeting_15 rfl (lv_at hl 0 rfl) ?_
    refine hv_get (ci := 6) (k := 5) (v := .ref (S.2 v0 5)) hx hb hown hKK hH cf6 (by decide) fl_X6_36 rfl k1 rfl dX6_meeting_16 ?_
    refine lv_aload_n hx hb dX6_meeting_19 rfl (lv_at hl 0 rfl) ?_
    refine hv_get (ci := 6) (k := 0) (v := .ref (S.2 v0 0)) hx hb hown hKK hH cf6 (by decide) fl_X6_10 rfl k1 rfl dX6_meeting_20 ?_
    refine lv_iload_n hx hb dX6_meeting_23 rfl (lv_at hl 1 rfl) ?_
    refine lv_iload_n hx hb dX6_meeting_24 rfl (lv_at hl 2 rfl) ?_
    obtain ⟨k5, hw⟩ := hw
    refine hv_cVI (rm := rm_X2_nightsUntilTogether) (As := [.ref (S.2 v0 0), .int v1, .int v2]) (rest := []) (k := 3) (ci := 2) hx hb hml hown hKK hH cf2 k5 (m_X2_nightsUntilTogether (S.2 v0 5) (S.2 v0 0) v1 v2 _ _ hw) cw_X6_227 ⟨Nat.le_of_ble_eq_true rfl, Nat.le_of_ble_eq_true rfl⟩ rfl hl.1 rfl (Nat.le_of_ble_eq_true rfl) ⟨Nat.le_of_ble_eq_true rfl, Nat.le_of_ble_eq_true rfl⟩ dX6_meeting_25 (fun r7 h6 H locs hH hw => ?_)
    exact hv_iret hx hb hr hlk hH hw dX6_meeting_28
  · have hw := ite_f hw c4
    refine lv_aload_n hx hb dX6_meeting_9 rfl (lv_at hl 0 rfl) ?_
    refine lv_iconst (v := (-1)) hx hb dX6_meeting_10 (by decide) ?_
    refine hv_cVI (rm := rm_X6_refuse) (As := [.int (-1)]) (rest := []) (k := 1) (ci := 6) hx hb hml hown hKK hH cf6 k1 (m_X6_refuse v0 (-1) _ _ hw) cw_X6_56 ⟨Nat.le_of_ble_eq_true rfl, Nat.le_of_ble_eq_true rfl⟩ rfl hl.1 rfl (Nat.le_of_ble_eq_true rfl) ⟨Nat.le_of_ble_eq_true rfl, Nat.le_of_ble_eq_true rfl⟩ dX6_meeting_11 (fun r9 h8 H locs hH hw => ?_)
    exact hv_iret hx hb hr hlk hH hw dX6_meeting_14
abbrev rm_X6_bestWord : Room := { frames := 6, cells := 0, slots := 0, locals := 174 }
set_option maxHeartbeats 4000000 in
set_option maxRecDepth 100000 in
theorem m_X6_bestWord {l : Launch} {G : Gl} {B sz : Nat} {S : St} (v0 : Nat) (v1 : Int32) (v2 : Int32) (v3 : Int32) (h : Hp) (Q : Int32 → Hp → Prop) (hw : w_X6_bestWord S v0 v1 v2 v3 h Q) : MI l G B sz S yX6_bestWord cX6_bestWord 5 .int rm_X6_bestWord [.ref v0, .int v1, .int v2, .int v3] h Q := by
  refine met_of rfl rfl ?_
  intro p e s m args below meth c hMB H ls hH hl
  obtain ⟨hx, hb, hml, hown, hKK, hr, hlk⟩ := hMB
  replace hl : lv_has ls 5 [(0, .ref v0), (1, .int v1), (2, .int v2), (3, .int v3)] := hl
  unfold w_X6_bestWord at hw
  show W p l e rm_X6_bestWord s m args below meth c H [] 0 0 (QI G B S sz below args s Q) (F0 m 0 ls [])
  generalize ([] : List Loc) = locs at hH ⊢
  refine lv_aload_n hx hb dX6_bestWord_0 rfl (lv_at hl 0 rfl) ?_
  refine lv_iload_n hx hb dX6_bestWord_1 rfl (lv_at hl 1 rfl) ?_
  obtain ⟨k1, hw⟩ := hw
  refine hv_cVI (rm := rm_X6_noHead) (As := [.int v1]) (rest := []) (k := 1) (ci := 6) hx hb hml hown hKK hH cf6 k1 (m_X6_noHead v0 v1 _ _ hw) cw_X6_64 ⟨Nat.le_of_ble_eq_true rfl, Nat.le_of_ble_eq_true rfl⟩ rfl hl.1 rfl (Nat.le_of_ble_eq_true rfl) ⟨Nat.le_of_ble_eq_true rfl, Nat.le_of_ble_eq_true rfl⟩ dX6_bestWord_2 (fun r3 h2 H locs hH hw => ?_)
  refine lv_iload_n hx hb dX6_bestWord_5 rfl (lv_at hl 2 rfl) ?_
  refine lv_iconst (v := (nI 0)) hx hb dX6_bestWord_6 (by decide) ?_
  refine lv_bipush (v := (nI 60)) hx hb dX6_bestWord_7 (by decide) ?_
  refine lv_iload_n hx hb dX6_bestWord_9 rfl (lv_at hl 3 rfl) ?_
  refine lv_iconst (v := (nI 1)) hx hb dX6_bestWord_10 (by decide) ?_
  refine hv_cSI (rm := rm_X6_faultOfAsked) (As := [.int r3, .int v2, .int (nI 0), .int (nI 60), .int v3, .int (nI 1)]) (rest := []) (k := 6) hx hb hml hown hKK hH (m_X6_faultOfAsked r3 v2 (nI 0) (nI 60) v3 (nI 1) _ _ hw) cw_X6_194 ⟨Nat.le_of_ble_eq_true rfl, Nat.le_of_ble_eq_true rfl⟩ rfl hl.1 rfl (Nat.le_of_ble_eq_true rfl) ⟨Nat.le_of_ble_eq_true rfl, Nat.le_of_ble_eq_true rfl⟩ dX6_bestWord_11 (fun r5 h4 H locs hH hw => ?_)
  refine lv_istore (lv' := [(4, .int r5), (0, .ref v0), (1, .int v1), (2, .int v2), (3, .int v3)]) hx hb dX6_bestWord_14 hl (by decide) rfl (fun ls hl => ?_)
  refine lv_iload hx hb dX6_bestWord_16 (lv_at hl 0 rfl) ?_
  refine lv_if_eq (tgt := 28) hx hb dX6_bestWord_18 (by decide) (fun c6 => ?_) (fun c6 => ?_)
  · have hw := ite_t hw c6
    refine lv_aload_n hx hb dX6_bestWord_28 rfl (lv_at hl 1 rfl) ?_
    refine hv_get (ci := 6) (k := 5) (v := .ref (S.2 v0 5)) hx hb hown hKK hH cf6 (by decide) fl_X6_36 rfl k1 rfl dX6_bestWord_29 ?_
    refine lv_aload_n hx hb dX6_bestWord_32 rfl (lv_at hl 1 rfl) ?_
    refine hv_get (ci := 6) (k := 0) (v := .ref (S.2 v0 0)) hx hb hown hKK hH cf6 (by decide) fl_X6_10 rfl k1 rfl dX6_bestWord_33 ?_
    refine lv_iload_n hx hb dX6_bestWord_36 rfl (lv_at hl 2 rfl) ?_
    refine lv_iload_n hx hb dX6_bestWord_37 rfl (lv_at hl 3 rfl) ?_
    refine lv_iconst (v := (nI 2)) hx hb dX6_bestWord_38 (by decide) ?_
    refine lv_iload_n hx hb dX6_bestWord_39 rfl (lv_at hl 4 rfl) ?_
    refine lv_iconst (v := (nI 1)) hx hb dX6_bestWord_40 (by decide) ?_
    refine lv_icmp_ne (tgt := 48) hx hb dX6_bestWord_41 (by decide) (fun c7 => ?_) (fun c7 => ?_)
    · have hw := ite_f hw c7
      refine lv_iconst (v := (nI 0)) hx hb dX6_bestWord_48 (by decide) ?_
      obtain ⟨k11, hw⟩ := hw
      refine hv_cVI (rm := rm_X2_bestChoice) (As := [.ref (S.2 v0 0), .int v1, .int v2, .int (nI 2), .int (nI 0)]) (rest := []) (k := 5) (ci := 2) hx hb hml hown hKK hH cf2 k11 (m_X2_bestChoice (S.2 v0 5) (S.2 v0 0) v1 v2 (nI 2) (nI 0) _ _ hw) cw_X6_230 ⟨Nat.le_of_ble_eq_true rfl, Nat.le_of_ble_eq_true rfl⟩ rfl hl.1 rfl (Nat.le_of_ble_eq_true rfl) ⟨Nat.le_of_ble_eq_true rfl, Nat.le_of_ble_eq_true rfl⟩ dX6_bestWord_49 (fun r13 h12 H locs hH hw => ?_)
      exact hv_iret hx hb hr hlk hH hw dX6_bestWord_52
    · have hw := ite_t hw c7
      refine lv_iconst (v := (nI 1)) hx hb dX6_bestWord_44 (by decide) ?_
      refine lv_goto (tgt := 49) hx hb dX6_bestWord_45 (by decide) ?_
      obtain ⟨k8, hw⟩ := hw
      refine hv_cVI (rm := rm_X2_bestChoice) (As := [.ref (S.2 v0 0), .int v1, .int v2, .int (nI 2), .int (nI 1)]) (rest := []) (k := 5) (ci := 2) hx hb hml hown hKK hH cf2 k8 (m_X2_bestChoice (S.2 v0 5) (S.2 v0 0) v1 v2 (nI 2) (nI 1) _ _ hw) cw_X6_230 ⟨Nat.le_of_ble_eq_true rfl, Nat.le_of_ble_eq_true rfl⟩ rfl hl.1 rfl (Nat.le_of_ble_eq_true rfl) ⟨Nat.le_of_ble_eq_true rfl, Nat.le_of_ble_eq_true rfl⟩ dX6_bestWord_49 (fun r10 h9 H locs hH hw => ?_)
      exact hv_iret hx hb hr hlk hH hw dX6_bestWord_52
  · have hw := ite_f hw c6
    refine lv_aload_n hx hb dX6_bestWord_21 rfl (lv_at hl 1 rfl) ?_
    refine lv_iload hx hb dX6_bestWord_22 (lv_at hl 0 rfl) ?_
    refine hv_cVI (rm := rm_X6_refuse) (As := [.int r5]) (rest := []) (k := 1) (ci := 6) hx hb hml hown hKK hH cf6 k1 (m_X6_refuse v0 r5 _ _ hw) cw_X6_56 ⟨Nat.le_of_ble_eq_true rfl, Nat.le_of_ble_eq_true rfl⟩ rfl hl.1 rfl (Nat.le_of_ble_eq_true rfl) ⟨Nat.le_of_ble_eq_true rfl, Nat.le_of_ble_eq_true rfl⟩ dX6_bestWord_24 (fun r15 h14 H locs hH hw => ?_)
    exact hv_iret hx hb hr hlk hH hw dX6_bestWord_27
abbrev rm_X6_bestLetter : Room := { frames := 6, cells := 0, slots := 0, locals := 174 }
set_option maxHeartbeats 4000000 in
set_option maxRecDepth 100000 in
theorem m_X6_bestLetter {l : Launch} {G : Gl} {B sz : Nat} {S : St} (v0 : Nat) (v1 : Int32) (v2 : Int32) (v3 : Int32) (h : Hp) (Q : Int32 → Hp → Prop) (hw : w_X6_bestLetter S v0 v1 v2 v3 h Q) : MI l G B sz S yX6_bestLetter cX6_bestLetter 5 .int rm_X6_bestLetter [.ref v0, .int v1, .int v2, .int v3] h Q := by
  refine met_of rfl rfl ?_
  intro p e s m args below meth c hMB H ls hH hl
  obtain ⟨hx, hb, hml, hown, hKK, hr, hlk⟩ := hMB
  replace hl : lv_has ls 5 [(0, .ref v0), (1, .int v1), (2, .int v2), (3, .int v3)] := hl
  unfold w_X6_bestLetter at hw
  show W p l e rm_X6_bestLetter s m args below meth c H [] 0 0 (QI G B S sz below args s Q) (F0 m 0 ls [])
  generalize ([] : List Loc) = locs at hH ⊢
  refine lv_aload_n hx hb dX6_bestLetter_0 rfl (lv_at hl 0 rfl) ?_
  refine lv_iload_n hx hb dX6_bestLetter_1 rfl (lv_at hl 1 rfl) ?_
  obtain ⟨k1, hw⟩ := hw
  refine hv_cVI (rm := rm_X6_noHead) (As := [.int v1]) (rest := []) (k := 1) (ci := 6) hx hb hml hown hKK hH cf6 k1 (m_X6_noHead v0 v1 _ _ hw) cw_X6_64 ⟨Nat.le_of_ble_eq_true rfl, Nat.le_of_ble_eq_true rfl⟩ rfl hl.1 rfl (Nat.le_of_ble_eq_true rfl) ⟨Nat.le_of_ble_eq_true rfl, Nat.le_of_ble_eq_true rfl⟩ dX6_bestLetter_2 (fun r3 h2 H locs hH hw => ?_)
  refine lv_iload_n hx hb dX6_bestLetter_5 rfl (lv_at hl 2 rfl) ?_
  refine lv_iconst (v := (nI 0)) hx hb dX6_bestLetter_6 (by decide) ?_
  refine lv_bipush (v := (nI 30)) hx hb dX6_bestLetter_7 (by decide) ?_
  refine lv_iload_n hx hb dX6_bestLetter_9 rfl (lv_at hl 3 rfl) ?_
  refine lv_iconst (v := (nI 1)) hx hb dX6_bestLetter_10 (by decide) ?_
  refine hv_cSI (rm := rm_X6_faultOfAsked) (As := [.int r3, .int v2, .int (nI 0), .int (nI 30), .int v3, .int (nI 1)]) (rest := []) (k := 6) hx hb hml hown hKK hH (m_X6_faultOfAsked r3 v2 (nI 0) (nI 30) v3 (nI 1) _ _ hw) cw_X6_194 ⟨Nat.le_of_ble_eq_true rfl, Nat.le_of_ble_eq_true rfl⟩ rfl hl.1 rfl (Nat.le_of_ble_eq_true rfl) ⟨Nat.le_of_ble_eq_true rfl, Nat.le_of_ble_eq_true rfl⟩ dX6_bestLetter_11 (fun r5 h4 H locs hH hw => ?_)
  refine lv_istore (lv' := [(4, .int r5), (0, .ref v0), (1, .int v1), (2, .int v2), (3, .int v3)]) hx hb dX6_bestLetter_14 hl (by decide) rfl (fun ls hl => ?_)
  refine lv_iload hx hb dX6_bestLetter_16 (lv_at hl 0 rfl) ?_
  refine lv_if_eq (tgt := 28) hx hb dX6_bestLetter_18 (by decide) (fun c6 => ?_) (fun c6 => ?_)
  · have hw := ite_t hw c6
    refine lv_aload_n hx hb dX6_bestLetter_28 rfl (lv_at hl 1 rfl) ?_
    refine hv_get (ci := 6) (k := 0) (v := .ref (S.2 v0 0)) hx hb hown hKK hH cf6 (by decide) fl_X6_10 rfl k1 rfl dX6_bestLetter_29 ?_
    obtain ⟨k7, hw⟩ := hw
    refine hv_getN (ci := 1) (k := 3) (v := .ref (S.2 (S.2 v0 0) 3)) hx hb hown hKK hH cf1 (by decide) fl_X6_105 rfl k7 rfl dX6_bestLetter_32 ?_
    refine lv_iload_n hx hb dX6_bestLetter_35 rfl (lv_at hl 2 rfl) ?_
    obtain ⟨k8, hw⟩ := hw
    refine hv_aald (t := 1) hx hb (by decide) hKK hH k8 dX6_bestLetter_36 ?_
    obtain ⟨k9, hw⟩ := hw
    refine hv_cVI (rm := rm_X0_hasFullName) (As := []) (rest := []) (k := 0) (ci := 0) hx hb hml hown hKK hH cf0 k9 (m_X0_hasFullName (S.2 (S.2 (S.2 v0 0) 3) (ix v1)) _ _ hw) cw_X6_175 ⟨Nat.le_of_ble_eq_true rfl, Nat.le_of_ble_eq_true rfl⟩ rfl hl.1 rfl (Nat.le_of_ble_eq_true rfl) ⟨Nat.le_of_ble_eq_true rfl, Nat.le_of_ble_eq_true rfl⟩ dX6_bestLetter_37 (fun r11 h10 H locs hH hw => ?_)
    refine lv_if_eq (tgt := 46) hx hb dX6_bestLetter_40 (by decide) (fun c12 => ?_) (fun c12 => ?_)
    · have hw := ite_t hw c12
      refine lv_aload_n hx hb dX6_bestLetter_46 rfl (lv_at hl 1 rfl) ?_
      refine hv_get (ci := 6) (k := 5) (v := .ref (S.2 v0 5)) hx hb hown hKK hH cf6 (by decide) fl_X6_36 rfl k1 rfl dX6_bestLetter_47 ?_
      refine lv_aload_n hx hb dX6_bestLetter_50 rfl (lv_at hl 1 rfl) ?_
      refine hv_get (ci := 6) (k := 0) (v := .ref (S.2 v0 0)) hx hb hown hKK hH cf6 (by decide) fl_X6_10 rfl k1 rfl dX6_bestLetter_51 ?_
      refine lv_iload_n hx hb dX6_bestLetter_54 rfl (lv_at hl 2 rfl) ?_
      refine lv_iload_n hx hb dX6_bestLetter_55 rfl (lv_at hl 3 rfl) ?_
      refine lv_iconst (v := (nI 3)) hx hb dX6_bestLetter_56 (by decide) ?_
      refine lv_iload_n hx hb dX6_bestLetter_57 rfl (lv_at hl 4 rfl) ?_
      refine lv_iconst (v := (nI 1)) hx hb dX6_bestLetter_58 (by decide) ?_
      refine lv_icmp_ne (tgt := 66) hx hb dX6_bestLetter_59 (by decide) (fun c13 => ?_) (fun c13 => ?_)
      · have hw := ite_f hw c13
        refine lv_iconst (v := (nI 0)) hx hb dX6_bestLetter_66 (by decide) ?_
        obtain ⟨k17, hw⟩ := hw
        refine hv_cVI (rm := rm_X2_bestChoice) (As := [.ref (S.2 v0 0), .int v1, .int v2, .int (nI 3), .int (nI 0)]) (rest := []) (k := 5) (ci := 2) hx hb hml hown hKK hH cf2 k17 (m_X2_bestChoice (S.2 v0 5) (S.2 v0 0) v1 v2 (nI 3) (nI 0) _ _ hw) cw_X6_230 ⟨Nat.le_of_ble_eq_true rfl, Nat.le_of_ble_eq_true rfl⟩ rfl hl.1 rfl (Nat.le_of_ble_eq_true rfl) ⟨Nat.le_of_ble_eq_true rfl, Nat.le_of_ble_eq_true rfl⟩ dX6_bestLetter_67 (fun r19 h18 H locs hH hw => ?_)
        exact hv_iret hx hb hr hlk hH hw dX6_bestLetter_70
      · have hw := ite_t hw c13
        refine lv_iconst (v := (nI 1)) hx hb dX6_bestLetter_62 (by decide) ?_
        refine lv_goto (tgt := 67) hx hb dX6_bestLetter_63 (by decide) ?_
        obtain ⟨k14, hw⟩ := hw
        refine hv_cVI (rm := rm_X2_bestChoice) (As := [.ref (S.2 v0 0), .int v1, .int v2, .int (nI 3), .int (nI 1)]) (rest := []) (k := 5) (ci := 2) hx hb hml hown hKK hH cf2 k14 (m_X2_bestChoice (S.2 v0 5) (S.2 v0 0) v1 v2 (nI 3) (nI 1) _ _ hw) cw_X6_230 ⟨Nat.le_of_ble_eq_true rfl, Nat.le_of_ble_eq_true rfl⟩ rfl hl.1 rfl (Nat.le_of_ble_eq_true rfl) ⟨Nat.le_of_ble_eq_true rfl, Nat.le_of_ble_eq_true rfl⟩ dX6_bestLetter_67 (fun r16 h15 H locs hH hw => ?_)
        exact hv_iret hx hb hr hlk hH hw dX6_bestLetter_70
    · have hw := ite_f hw c12
      refine lv_bipush (v := (-9)) hx hb dX6_bestLetter_43 (by decide) ?_
      exact hv_iret hx hb hr hlk hH hw dX6_bestLetter_45
  · have hw := ite_f hw c6
    refine lv_aload_n hx hb dX6_bestLetter_21 rfl (lv_at hl 1 rfl) ?_
    refine lv_iload hx hb dX6_bestLetter_22 (lv_at hl 0 rfl) ?_
    refine hv_cVI (rm := rm_X6_refuse) (As := [.int r5]) (rest := []) (k := 1) (ci := 6) hx hb hml hown hKK hH cf6 k1 (m_X6_refuse v0 r5 _ _ hw) cw_X6_56 ⟨Nat.le_of_ble_eq_true rfl, Nat.le_of_ble_eq_true rfl⟩ rfl hl.1 rfl (Nat.le_of_ble_eq_true rfl) ⟨Nat.le_of_ble_eq_true rfl, Nat.le_of_ble_eq_true rfl⟩ dX6_bestLetter_24 (fun r21 h20 H locs hH hw => ?_)
    exact hv_iret hx hb hr hlk hH hw dX6_bestLetter_27
abbrev rm_X6_holds : Room := { frames := 6, cells := 0, slots := 0, locals := 172 }
set_option maxHeartbeats 4000000 in
set_option maxRecDepth 100000 in
theorem m_X6_holds {l : Launch} {G : Gl} {B sz : Nat} {S : St} (v0 : Nat) (v1 : Int32) (v2 : Int32) (v3 : Int32) (h : Hp) (Q : Int32 → Hp → Prop) (hw : w_X6_holds S v0 v1 v2 v3 h Q) : MI l G B sz S yX6_holds cX6_holds 5 .int rm_X6_holds [.ref v0, .int v1, .int v2, .int v3] h Q := by
  refine met_of rfl rfl ?_
  intro p e s m args below meth c hMB H ls hH hl
  obtain ⟨hx, hb, hml, hown, hKK, hr, hlk⟩ := hMB
  replace hl : lv_has ls 5 [(0, .ref v0), (1, .int v1), (2, .int v2), (3, .int v3)] := hl
  unfold w_X6_holds at hw
  show W p l e rm_X6_holds s m args below meth c H [] 0 0 (QI G B S sz below args s Q) (F0 m 0 ls [])
  generalize ([] : List Loc) = locs at hH ⊢
  refine lv_aload_n hx hb dX6_holds_0 rfl (lv_at hl 0 rfl) ?_
  refine lv_iload_n hx hb dX6_holds_1 rfl (lv_at hl 1 rfl) ?_
  obtain ⟨k1, hw⟩ := hw
  refine hv_cVI (rm := rm_X6_noHead) (As := [.int v1]) (rest := []) (k := 1) (ci := 6) hx hb hml hown hKK hH cf6 k1 (m_X6_noHead v0 v1 _ _ hw) cw_X6_64 ⟨Nat.le_of_ble_eq_true rfl, Nat.le_of_ble_eq_true rfl⟩ rfl hl.1 rfl (Nat.le_of_ble_eq_true rfl) ⟨Nat.le_of_ble_eq_true rfl, Nat.le_of_ble_eq_true rfl⟩ dX6_holds_2 (fun r3 h2 H locs hH hw => ?_)
  refine lv_if_ne (tgt := 15) hx hb dX6_holds_5 (by decide) (fun c4 => ?_) (fun c4 => ?_)
  · have hw := ite_f hw c4
    refine lv_iconst (v := (nI 1)) hx hb dX6_holds_15 (by decide) ?_
    refine lv_goto (tgt := 20) hx hb dX6_holds_16 (by decide) ?_
    refine lv_iload_n hx hb dX6_holds_20 rfl (lv_at hl 3 rfl) ?_
    refine lv_iconst (v := (nI 1)) hx hb dX6_holds_21 (by decide) ?_
    refine lv_bipush (v := (nI 60)) hx hb dX6_holds_22 (by decide) ?_
    refine hv_cSI (rm := rm_X6_faultOfNumber) (As := [.int (nI 1), .int v3, .int (nI 1), .int (nI 60)]) (rest := []) (k := 4) hx hb hml hown hKK hH (m_X6_faultOfNumber (nI 1) v3 (nI 1) (nI 60) _ _ hw) cw_X6_68 ⟨Nat.le_of_ble_eq_true rfl, Nat.le_of_ble_eq_true rfl⟩ rfl hl.1 rfl (Nat.le_of_ble_eq_true rfl) ⟨Nat.le_of_ble_eq_true rfl, Nat.le_of_ble_eq_true rfl⟩ dX6_holds_24 (fun r25 h24 H locs hH hw => ?_)
    refine lv_istore (lv' := [(4, .int r25), (0, .ref v0), (1, .int v1), (2, .int v2), (3, .int v3)]) hx hb dX6_holds_27 hl (by decide) rfl (fun ls hl => ?_)
    refine lv_iload hx hb dX6_holds_29 (lv_at hl 0 rfl) ?_
    refine lv_if_eq (tgt := 41) hx hb dX6_holds_31 (by decide) (fun c26 => ?_) (fun c26 => ?_)
    · have hw := ite_t hw c26
      refine lv_aload_n hx hb dX6_holds_41 rfl (lv_at hl 1 rfl) ?_
      refine hv_get (ci := 6) (k := 5) (v := .ref (S.2 v0 5)) hx hb hown hKK hH cf6 (by decide) fl_X6_36 rfl k1 rfl dX6_holds_42 ?_
      refine lv_aload_n hx hb dX6_holds_45 rfl (lv_at hl 1 rfl) ?_
      refine hv_get (ci := 6) (k := 0) (v := .ref (S.2 v0 0)) hx hb hown hKK hH cf6 (by decide) fl_X6_10 rfl k1 rfl dX6_holds_46 ?_
      refine lv_iload_n hx hb dX6_holds_49 rfl (lv_at hl 2 rfl) ?_
      refine lv_iload_n hx hb dX6_holds_50 rfl (lv_at hl 3 rfl) ?_
      refine lv_iload_n hx hb dX6_holds_51 rfl (lv_at hl 4 rfl) ?_
      obtain ⟨k27, hw⟩ := hw
      refine hv_cVI (rm := rm_X2_leastWallThatHolds) (As := [.ref (S.2 v0 0), .int v1, .int v2, .int v3]) (rest := []) (k := 4) (ci := 2) hx hb hml hown hKK hH cf2 k27 (m_X2_leastWallThatHolds (S.2 v0 5) (S.2 v0 0) v1 v2 v3 _ _ hw) cw_X6_234 ⟨Nat.le_of_ble_eq_true rfl, Nat.le_of_ble_eq_true rfl⟩ rfl hl.1 rfl (Nat.le_of_ble_eq_true rfl) ⟨Nat.le_of_ble_eq_true rfl, Nat.le_of_ble_eq_true rfl⟩ dX6_holds_52 (fun r29 h28 H locs hH hw => ?_)
      exact hv_iret hx hb hr hlk hH hw dX6_holds_55
    · have hw := ite_f hw c26
      refine lv_aload_n hx hb dX6_holds_34 rfl (lv_at hl 1 rfl) ?_
      refine lv_iload hx hb dX6_holds_35 (lv_at hl 0 rfl) ?_
      refine hv_cVI (rm := rm_X6_refuse) (As := [.int r25]) (rest := []) (k := 1) (ci := 6) hx hb hml hown hKK hH cf6 k1 (m_X6_refuse v0 r25 _ _ hw) cw_X6_56 ⟨Nat.le_of_ble_eq_true rfl, Nat.le_of_ble_eq_true rfl⟩ rfl hl.1 rfl (Nat.le_of_ble_eq_true rfl) ⟨Nat.le_of_ble_eq_true rfl, Nat.le_of_ble_eq_true rfl⟩ dX6_holds_37 (fun r31 h30 H locs hH hw => ?_)
      exact hv_iret hx hb hr hlk hH hw dX6_holds_40
  · have hw := ite_t hw c4
    refine lv_iload_n hx hb dX6_holds_8 rfl (lv_at hl 2 rfl) ?_
    refine hv_cSI (rm := rm_X6_noField) (As := [.int v2]) (rest := []) (k := 1) hx hb hml hown hKK hH (m_X6_noField v2 _ _ hw) cw_X6_151 ⟨Nat.le_of_ble_eq_true rfl, Nat.le_of_ble_eq_true rfl⟩ rfl hl.1 rfl (Nat.le_of_ble_eq_true rfl) ⟨Nat.le_of_ble_eq_true rfl, Nat.le_of_ble_eq_true rfl⟩ dX6_holds_9 (fun r6 h5 H locs hH hw => ?_)
    refine lv_if_eq (tgt := 19) hx hb dX6_holds_12 (by decide) (fun c7 => ?_) (fun c7 => ?_)
    · have hw := ite_t hw c7
      refine lv_iconst (v := (nI 0)) hx hb dX6_holds_19 (by decide) ?_
      refine lv_iload_n hx hb dX6_holds_20 rfl (lv_at hl 3 rfl) ?_
      refine lv_iconst (v := (nI 1)) hx hb dX6_holds_21 (by decide) ?_
      refine lv_bipush (v := (nI 60)) hx hb dX6_holds_22 (by decide) ?_
      refine hv_cSI (rm := rm_X6_faultOfNumber) (As := [.int (nI 0), .int v3, .int (nI 1), .int (nI 60)]) (rest := []) (k := 4) hx hb hml hown hKK hH (m_X6_faultOfNumber (nI 0) v3 (nI 1) (nI 60) _ _ hw) cw_X6_68 ⟨Nat.le_of_ble_eq_true rfl, Nat.le_of_ble_eq_true rfl⟩ rfl hl.1 rfl (Nat.le_of_ble_eq_true rfl) ⟨Nat.le_of_ble_eq_true rfl, Nat.le_of_ble_eq_true rfl⟩ dX6_holds_24 (fun r9 h8 H locs hH hw => ?_)
      refine lv_istore (lv' := [(4, .int r9), (0, .ref v0), (1, .int v1), (2, .int v2), (3, .int v3)]) hx hb dX6_holds_27 hl (by decide) rfl (fun ls hl => ?_)
      refine lv_iload hx hb dX6_holds_29 (lv_at hl 0 rfl) ?_
      refine lv_if_eq (tgt := 41) hx hb dX6_holds_31 (by decide) (fun c10 => ?_) (fun c10 => ?_)
      · have hw := ite_t hw c10
        refine lv_aload_n hx hb dX6_holds_41 rfl (lv_at hl 1 rfl) ?_
        refine hv_get (ci := 6) (k := 5) (v := .ref (S.2 v0 5)) hx hb hown hKK hH cf6 (by decide) fl_X6_36 rfl k1 rfl dX6_holds_42 ?_
        refine lv_aload_n hx hb dX6_holds_45 rfl (lv_at hl 1 rfl) ?_
        refine hv_get (ci := 6) (k := 0) (v := .ref (S.2 v0 0)) hx hb hown hKK hH cf6 (by decide) fl_X6_10 rfl k1 rfl dX6_holds_46 ?_
        refine lv_iload_n hx hb dX6_holds_49 rfl (lv_at hl 2 rfl) ?_
        refine lv_iload_n hx hb dX6_holds_50 rfl (lv_at hl 3 rfl) ?_
        refine lv_iload_n hx hb dX6_holds_51 rfl (lv_at hl 4 rfl) ?_
        obtain ⟨k11, hw⟩ := hw
        refine hv_cVI (rm := rm_X2_leastWallThatHolds) (As := [.ref (S.2 v0 0), .int v1, .int v2, .int v3]) (rest := []) (k := 4) (ci := 2) hx hb hml hown hKK hH cf2 k11 (m_X2_leastWallThatHolds (S.2 v0 5) (S.2 v0 0) v1 v2 v3 _ _ hw) cw_X6_234 ⟨Nat.le_of_ble_eq_true rfl, Nat.le_of_ble_eq_true rfl⟩ rfl hl.1 rfl (Nat.le_of_ble_eq_true rfl) ⟨Nat.le_of_ble_eq_true rfl, Nat.le_of_ble_eq_true rfl⟩ dX6_holds_52 (fun r13 h12 H locs hH hw => ?_)
        exact hv_iret hx hb hr hlk hH hw dX6_holds_55
      · have hw := ite_f hw c10
        refine lv_aload_n hx hb dX6_holds_34 rfl (lv_at hl 1 rfl) ?_
        refine lv_iload hx hb dX6_holds_35 (lv_at hl 0 rfl) ?_
        refine hv_cVI (rm := rm_X6_refuse) (As := [.int r9]) (rest := []) (k := 1) (ci := 6) hx hb hml hown hKK hH cf6 k1 (m_X6_refuse v0 r9 _ _ hw) cw_X6_56 ⟨Nat.le_of_ble_eq_true rfl, Nat.le_of_ble_eq_true rfl⟩ rfl hl.1 rfl (Nat.le_of_ble_eq_true rfl) ⟨Nat.le_of_ble_eq_true rfl, Nat.le_of_ble_eq_true rfl⟩ dX6_holds_37 (fun r15 h14 H locs hH hw => ?_)
        exact hv_iret hx hb hr hlk hH hw dX6_holds_40
    · have hw := ite_f hw c7
      refine lv_iconst (v := (nI 1)) hx hb dX6_holds_15 (by decide) ?_
      refine lv_goto (tgt := 20) hx hb dX6_holds_16 (by decide) ?_
      refine lv_iload_n hx hb dX6_holds_20 rfl (lv_at hl 3 rfl) ?_
      refine lv_iconst (v := (nI 1)) hx hb dX6_holds_21 (by decide) ?_
      refine lv_bipush (v := (nI 60)) hx hb dX6_holds_22 (by decide) ?_
      refine hv_cSI (rm := rm_X6_faultOfNumber) (As := [.int (nI 1), .int v3, .int (nI 1), .int (nI 60)]) (rest := []) (k := 4) hx hb hml hown hKK hH (m_X6_faultOfNumber (nI 1) v3 (nI 1) (nI 60) _ _ hw) cw_X6_68 ⟨Nat.le_of_ble_eq_true rfl, Nat.le_of_ble_eq_true rfl⟩ rfl hl.1 rfl (Nat.le_of_ble_eq_true rfl) ⟨Nat.le_of_ble_eq_true rfl, Nat.le_of_ble_eq_true rfl⟩ dX6_holds_24 (fun r17 h16 H locs hH hw => ?_)
      refine lv_istore (lv' := [(4, .int r17), (0, .ref v0), (1, .int v1), (2, .int v2), (3, .int v3)]) hx hb dX6_holds_27 hl (by decide) rfl (fun ls hl => ?_)
      refine lv_iload hx hb dX6_holds_29 (lv_at hl 0 rfl) ?_
      refine lv_if_eq (tgt := 41) hx hb dX6_holds_31 (by decide) (fun c18 => ?_) (fun c18 => ?_)
      · have hw := ite_t hw c18
        refine lv_aload_n hx hb dX6_holds_41 rfl (lv_at hl 1 rfl) ?_
        refine hv_get (ci := 6) (k := 5) (v := .ref (S.2 v0 5)) hx hb hown hKK hH cf6 (by decide) fl_X6_36 rfl k1 rfl dX6_holds_42 ?_
        refine lv_aload_n hx hb dX6_holds_45 rfl (lv_at hl 1 rfl) ?_
        refine hv_get (ci := 6) (k := 0) (v := .ref (S.2 v0 0)) hx hb hown hKK hH cf6 (by decide) fl_X6_10 rfl k1 rfl dX6_holds_46 ?_
        refine lv_iload_n hx hb dX6_holds_49 rfl (lv_at hl 2 rfl) ?_
        refine lv_iload_n hx hb dX6_holds_50 rfl (lv_at hl 3 rfl) ?_
        refine lv_iload_n hx hb dX6_holds_51 rfl (lv_at hl 4 rfl) ?_
        obtain ⟨k19, hw⟩ := hw
        refine hv_cVI (rm := rm_X2_leastWallThatHolds) (As := [.ref (S.2 v0 0), .int v1, .int v2, .int v3]) (rest := []) (k := 4) (ci := 2) hx hb hml hown hKK hH cf2 k19 (m_X2_leastWallThatHolds (S.2 v0 5) (S.2 v0 0) v1 v2 v3 _ _ hw) cw_X6_234 ⟨Nat.le_of_ble_eq_true rfl, Nat.le_of_ble_eq_true rfl⟩ rfl hl.1 rfl (Nat.le_of_ble_eq_true rfl) ⟨Nat.le_of_ble_eq_true rfl, Nat.le_of_ble_eq_true rfl⟩ dX6_holds_52 (fun r21 h20 H locs hH hw => ?_)
        exact hv_iret hx hb hr hlk hH hw dX6_holds_55
      · have hw := ite_f hw c18
        refine lv_aload_n hx hb dX6_holds_34 rfl (lv_at hl 1 rfl) ?_
        refine lv_iload hx hb dX6_holds_35 (lv_at hl 0 rfl) ?_
        refine hv_cVI (rm := rm_X6_refuse) (As := [.int r17]) (rest := []) (k := 1) (ci := 6) hx hb hml hown hKK hH cf6 k1 (m_X6_refuse v0 r17 _ _ hw) cw_X6_56 ⟨Nat.le_of_ble_eq_true rfl, Nat.le_of_ble_eq_true rfl⟩ rfl hl.1 rfl (Nat.le_of_ble_eq_true rfl) ⟨Nat.le_of_ble_eq_true rfl, Nat.le_of_ble_eq_true rfl⟩ dX6_holds_37 (fun r23 h22 H locs hH hw => ?_)
        exact hv_iret hx hb hr hlk hH hw dX6_holds_40
abbrev rm_X6_wallFor : Room := { frames := 6, cells := 0, slots := 0, locals := 170 }
set_option maxHeartbeats 4000000 in
set_option maxRecDepth 100000 in
theorem m_X6_wallFor {l : Launch} {G : Gl} {B sz : Nat} {S : St} (v0 : Nat) (v1 : Int32) (v2 : Int32) (v3 : Int32) (h : Hp) (Q : Int32 → Hp → Prop) (hw : w_X6_wallFor S v0 v1 v2 v3 h Q) : MI l G B sz S yX6_wallFor cX6_wallFor 5 .int rm_X6_wallFor [.ref v0, .int v1, .int v2, .int v3] h Q := by
  refine met_of rfl rfl ?_
  intro p e s m args below meth c hMB H ls hH hl
  obtain ⟨hx, hb, hml, hown, hKK, hr, hlk⟩ := hMB
  replace hl : lv_has ls 5 [(0, .ref v0), (1, .int v1), (2, .int v2), (3, .int v3)] := hl
  unfold w_X6_wallFor at hw
  show W p l e rm_X6_wallFor s m args below meth c H [] 0 0 (QI G B S sz below args s Q) (F0 m 0 ls [])
  generalize ([] : List Loc) = locs at hH ⊢
  refine lv_aload_n hx hb dX6_wallFor_0 rfl (lv_at hl 0 rfl) ?_
  refine lv_iload_n hx hb dX6_wallFor_1 rfl (lv_at hl 1 rfl) ?_
  obtain ⟨k1, hw⟩ := hw
  refine hv_cVI (rm := rm_X6_noHead) (As := [.int v1]) (rest := []) (k := 1) (ci := 6) hx hb hml hown hKK hH cf6 k1 (m_X6_noHead v0 v1 _ _ hw) cw_X6_64 ⟨Nat.le_of_ble_eq_true rfl, Nat.le_of_ble_eq_true rfl⟩ rfl hl.1 rfl (Nat.le_of_ble_eq_true rfl) ⟨Nat.le_of_ble_eq_true rfl, Nat.le_of_ble_eq_true rfl⟩ dX6_wallFor_2 (fun r3 h2 H locs hH hw => ?_)
  refine lv_if_ne (tgt := 15) hx hb dX6_wallFor_5 (by decide) (fun c4 => ?_) (fun c4 => ?_)
  · have hw := ite_f hw c4
    refine lv_iconst (v := (nI 1)) hx hb dX6_wallFor_15 (by decide) ?_
    refine lv_goto (tgt := 20) hx hb dX6_wallFor_16 (by decide) ?_
    refine lv_iload_n hx hb dX6_wallFor_20 rfl (lv_at hl 3 rfl) ?_
    refine lv_iconst (v := (nI 0)) hx hb dX6_wallFor_21 (by decide) ?_
    refine lv_bipush (v := (nI 30)) hx hb dX6_wallFor_22 (by decide) ?_
    refine hv_cSI (rm := rm_X6_faultOfNumber) (As := [.int (nI 1), .int v3, .int (nI 0), .int (nI 30)]) (rest := []) (k := 4) hx hb hml hown hKK hH (m_X6_faultOfNumber (nI 1) v3 (nI 0) (nI 30) _ _ hw) cw_X6_68 ⟨Nat.le_of_ble_eq_true rfl, Nat.le_of_ble_eq_true rfl⟩ rfl hl.1 rfl (Nat.le_of_ble_eq_true rfl) ⟨Nat.le_of_ble_eq_true rfl, Nat.le_of_ble_eq_true rfl⟩ dX6_wallFor_24 (fun r25 h24 H locs hH hw => ?_)
    refine lv_istore (lv' := [(4, .int r25), (0, .ref v0), (1, .int v1), (2, .int v2), (3, .int v3)]) hx hb dX6_wallFor_27 hl (by decide) rfl (fun ls hl => ?_)
    refine lv_iload hx hb dX6_wallFor_29 (lv_at hl 0 rfl) ?_
    refine lv_if_eq (tgt := 41) hx hb dX6_wallFor_31 (by decide) (fun c26 => ?_) (fun c26 => ?_)
    · have hw := ite_t hw c26
      refine lv_aload_n hx hb dX6_wallFor_41 rfl (lv_at hl 1 rfl) ?_
      refine hv_get (ci := 6) (k := 5) (v := .ref (S.2 v0 5)) hx hb hown hKK hH cf6 (by decide) fl_X6_36 rfl k1 rfl dX6_wallFor_42 ?_
      refine lv_aload_n hx hb dX6_wallFor_45 rfl (lv_at hl 1 rfl) ?_
      refine hv_get (ci := 6) (k := 0) (v := .ref (S.2 v0 0)) hx hb hown hKK hH cf6 (by decide) fl_X6_10 rfl k1 rfl dX6_wallFor_46 ?_
      refine lv_iload_n hx hb dX6_wallFor_49 rfl (lv_at hl 2 rfl) ?_
      refine lv_iload_n hx hb dX6_wallFor_50 rfl (lv_at hl 3 rfl) ?_
      refine lv_iload_n hx hb dX6_wallFor_51 rfl (lv_at hl 4 rfl) ?_
      obtain ⟨k27, hw⟩ := hw
      refine hv_cVI (rm := rm_X2_fieldToWall) (As := [.ref (S.2 v0 0), .int v1, .int v2, .int v3]) (rest := []) (k := 4) (ci := 2) hx hb hml hown hKK hH cf2 k27 (m_X2_fieldToWall (S.2 v0 5) (S.2 v0 0) v1 v2 v3 _ _ hw) cw_X6_238 ⟨Nat.le_of_ble_eq_true rfl, Nat.le_of_ble_eq_true rfl⟩ rfl hl.1 rfl (Nat.le_of_ble_eq_true rfl) ⟨Nat.le_of_ble_eq_true rfl, Nat.le_of_ble_eq_true rfl⟩ dX6_wallFor_52 (fun r29 h28 H locs hH hw => ?_)
      exact hv_iret hx hb hr hlk hH hw dX6_wallFor_55
    · have hw := ite_f hw c26
      refine lv_aload_n hx hb dX6_wallFor_34 rfl (lv_at hl 1 rfl) ?_
      refine lv_iload hx hb dX6_wallFor_35 (lv_at hl 0 rfl) ?_
      refine hv_cVI (rm := rm_X6_refuse) (As := [.int r25]) (rest := []) (k := 1) (ci := 6) hx hb hml hown hKK hH cf6 k1 (m_X6_refuse v0 r25 _ _ hw) cw_X6_56 ⟨Nat.le_of_ble_eq_true rfl, Nat.le_of_ble_eq_true rfl⟩ rfl hl.1 rfl (Nat.le_of_ble_eq_true rfl) ⟨Nat.le_of_ble_eq_true rfl, Nat.le_of_ble_eq_true rfl⟩ dX6_wallFor_37 (fun r31 h30 H locs hH hw => ?_)
      exact hv_iret hx hb hr hlk hH hw dX6_wallFor_40
  · have hw := ite_t hw c4
    refine lv_iload_n hx hb dX6_wallFor_8 rfl (lv_at hl 2 rfl) ?_
    refine hv_cSI (rm := rm_X6_noField) (As := [.int v2]) (rest := []) (k := 1) hx hb hml hown hKK hH (m_X6_noField v2 _ _ hw) cw_X6_151 ⟨Nat.le_of_ble_eq_true rfl, Nat.le_of_ble_eq_true rfl⟩ rfl hl.1 rfl (Nat.le_of_ble_eq_true rfl) ⟨Nat.le_of_ble_eq_true rfl, Nat.le_of_ble_eq_true rfl⟩ dX6_wallFor_9 (fun r6 h5 H locs hH hw => ?_)
    refine lv_if_eq (tgt := 19) hx hb dX6_wallFor_12 (by decide) (fun c7 => ?_) (fun c7 => ?_)
    · have hw := ite_t hw c7
      refine lv_iconst (v := (nI 0)) hx hb dX6_wallFor_19 (by decide) ?_
      refine lv_iload_n hx hb dX6_wallFor_20 rfl (lv_at hl 3 rfl) ?_
      refine lv_iconst (v := (nI 0)) hx hb dX6_wallFor_21 (by decide) ?_
      refine lv_bipush (v := (nI 30)) hx hb dX6_wallFor_22 (by decide) ?_
      refine hv_cSI (rm := rm_X6_faultOfNumber) (As := [.int (nI 0), .int v3, .int (nI 0), .int (nI 30)]) (rest := []) (k := 4) hx hb hml hown hKK hH (m_X6_faultOfNumber (nI 0) v3 (nI 0) (nI 30) _ _ hw) cw_X6_68 ⟨Nat.le_of_ble_eq_true rfl, Nat.le_of_ble_eq_true rfl⟩ rfl hl.1 rfl (Nat.le_of_ble_eq_true rfl) ⟨Nat.le_of_ble_eq_true rfl, Nat.le_of_ble_eq_true rfl⟩ dX6_wallFor_24 (fun r9 h8 H locs hH hw => ?_)
      refine lv_istore (lv' := [(4, .int r9), (0, .ref v0), (1, .int v1), (2, .int v2), (3, .int v3)]) hx hb dX6_wallFor_27 hl (by decide) rfl (fun ls hl => ?_)
      refine lv_iload hx hb dX6_wallFor_29 (lv_at hl 0 rfl) ?_
      refine lv_if_eq (tgt := 41) hx hb dX6_wallFor_31 (by decide) (fun c10 => ?_) (fun c10 => ?_)
      · have hw := ite_t hw c10
        refine lv_aload_n hx hb dX6_wallFor_41 rfl (lv_at hl 1 rfl) ?_
        refine hv_get (ci := 6) (k := 5) (v := .ref (S.2 v0 5)) hx hb hown hKK hH cf6 (by decide) fl_X6_36 rfl k1 rfl dX6_wallFor_42 ?_
        refine lv_aload_n hx hb dX6_wallFor_45 rfl (lv_at hl 1 rfl) ?_
        refine hv_get (ci := 6) (k := 0) (v := .ref (S.2 v0 0)) hx hb hown hKK hH cf6 (by decide) fl_X6_10 rfl k1 rfl dX6_wallFor_46 ?_
        refine lv_iload_n hx hb dX6_wallFor_49 rfl (lv_at hl 2 rfl) ?_
        refine lv_iload_n hx hb dX6_wallFor_50 rfl (lv_at hl 3 rfl) ?_
        refine lv_iload_n hx hb dX6_wallFor_51 rfl (lv_at hl 4 rfl) ?_
        obtain ⟨k11, hw⟩ := hw
        refine hv_cVI (rm := rm_X2_fieldToWall) (As := [.ref (S.2 v0 0), .int v1, .int v2, .int v3]) (rest := []) (k := 4) (ci := 2) hx hb hml hown hKK hH cf2 k11 (m_X2_fieldToWall (S.2 v0 5) (S.2 v0 0) v1 v2 v3 _ _ hw) cw_X6_238 ⟨Nat.le_of_ble_eq_true rfl, Nat.le_of_ble_eq_true rfl⟩ rfl hl.1 rfl (Nat.le_of_ble_eq_true rfl) ⟨Nat.le_of_ble_eq_true rfl, Nat.le_of_ble_eq_true rfl⟩ dX6_wallFor_52 (fun r13 h12 H locs hH hw => ?_)
        exact hv_iret hx hb hr hlk hH hw dX6_wallFor_55
      · have hw := ite_f hw c10
        refine lv_aload_n hx hb dX6_wallFor_34 rfl (lv_at hl 1 rfl) ?_
        refine lv_iload hx hb dX6_wallFor_35 (lv_at hl 0 rfl) ?_
        refine hv_cVI (rm := rm_X6_refuse) (As := [.int r9]) (rest := []) (k := 1) (ci := 6) hx hb hml hown hKK hH cf6 k1 (m_X6_refuse v0 r9 _ _ hw) cw_X6_56 ⟨Nat.le_of_ble_eq_true rfl, Nat.le_of_ble_eq_true rfl⟩ rfl hl.1 rfl (Nat.le_of_ble_eq_true rfl) ⟨Nat.le_of_ble_eq_true rfl, Nat.le_of_ble_eq_true rfl⟩ dX6_wallFor_37 (fun r15 h14 H locs hH hw => ?_)
        exact hv_iret hx hb hr hlk hH hw dX6_wallFor_40
    · have hw := ite_f hw c7
      refine lv_iconst (v := (nI 1)) hx hb dX6_wallFor_15 (by decide) ?_
      refine lv_goto (tgt := 20) hx hb dX6_wallFor_16 (by decide) ?_
      refine lv_iload_n hx hb dX6_wallFor_20 rfl (lv_at hl 3 rfl) ?_
      refine lv_iconst (v := (nI 0)) hx hb dX6_wallFor_21 (by decide) ?_
      refine lv_bipush (v := (nI 30)) hx hb dX6_wallFor_22 (by decide) ?_
      refine hv_cSI (rm := rm_X6_faultOfNumber) (As := [.int (nI 1), .int v3, .int (nI 0), .int (nI 30)]) (rest := []) (k := 4) hx hb hml hown hKK hH (m_X6_faultOfNumber (nI 1) v3 (nI 0) (nI 30) _ _ hw) cw_X6_68 ⟨Nat.le_of_ble_eq_true rfl, Nat.le_of_ble_eq_true rfl⟩ rfl hl.1 rfl (Nat.le_of_ble_eq_true rfl) ⟨Nat.le_of_ble_eq_true rfl, Nat.le_of_ble_eq_true rfl⟩ dX6_wallFor_24 (fun r17 h16 H locs hH hw => ?_)
      refine lv_istore (lv' := [(4, .int r17), (0, .ref v0), (1, .int v1), (2, .int v2), (3, .int v3)]) hx hb dX6_wallFor_27 hl (by decide) rfl (fun ls hl => ?_)
      refine lv_iload hx hb dX6_wallFor_29 (lv_at hl 0 rfl) ?_
      refine lv_if_eq (tgt := 41) hx hb dX6_wallFor_31 (by decide) (fun c18 => ?_) (fun c18 => ?_)
      · have hw := ite_t hw c18
        refine lv_aload_n hx hb dX6_wallFor_41 rfl (lv_at hl 1 rfl) ?_
        refine hv_get (ci := 6) (k := 5) (v := .ref (S.2 v0 5)) hx hb hown hKK hH cf6 (by decide) fl_X6_36 rfl k1 rfl dX6_wallFor_42 ?_
        refine lv_aload_n hx hb dX6_wallFor_45 rfl (lv_at hl 1 rfl) ?_
        refine hv_get (ci := 6) (k := 0) (v := .ref (S.2 v0 0)) hx hb hown hKK hH cf6 (by decide) fl_X6_10 rfl k1 rfl dX6_wallFor_46 ?_
        refine lv_iload_n hx hb dX6_wallFor_49 rfl (lv_at hl 2 rfl) ?_
        refine lv_iload_n hx hb dX6_wallFor_50 rfl (lv_at hl 3 rfl) ?_
        refine lv_iload_n hx hb dX6_wallFor_51 rfl (lv_at hl 4 rfl) ?_
        obtain ⟨k19, hw⟩ := hw
        refine hv_cVI (rm := rm_X2_fieldToWall) (As := [.ref (S.2 v0 0), .int v1, .int v2, .int v3]) (rest := []) (k := 4) (ci := 2) hx hb hml hown hKK hH cf2 k19 (m_X2_fieldToWall (S.2 v0 5) (S.2 v0 0) v1 v2 v3 _ _ hw) cw_X6_238 ⟨Nat.le_of_ble_eq_true rfl, Nat.le_of_ble_eq_true rfl⟩ rfl hl.1 rfl (Nat.le_of_ble_eq_true rfl) ⟨Nat.le_of_ble_eq_true rfl, Nat.le_of_ble_eq_true rfl⟩ dX6_wallFor_52 (fun r21 h20 H locs hH hw => ?_)
        exact hv_iret hx hb hr hlk hH hw dX6_wallFor_55
      · have hw := ite_f hw c18
        refine lv_aload_n hx hb dX6_wallFor_34 rfl (lv_at hl 1 rfl) ?_
        refine lv_iload hx hb dX6_wallFor_35 (lv_at hl 0 rfl) ?_
        refine hv_cVI (rm := rm_X6_refuse) (As := [.int r17]) (rest := []) (k := 1) (ci := 6) hx hb hml hown hKK hH cf6 k1 (m_X6_refuse v0 r17 _ _ hw) cw_X6_56 ⟨Nat.le_of_ble_eq_true rfl, Nat.le_of_ble_eq_true rfl⟩ rfl hl.1 rfl (Nat.le_of_ble_eq_true rfl) ⟨Nat.le_of_ble_eq_true rfl, Nat.le_of_ble_eq_true rfl⟩ dX6_wallFor_37 (fun r23 h22 H locs hH hw => ?_)
        exact hv_iret hx hb hr hlk hH hw dX6_wallFor_40
abbrev rm_X6_names : Room := { frames := 7, cells := 0, slots := 0, locals := 193 }
set_option maxHeartbeats 4000000 in
set_option maxRecDepth 100000 in
theorem m_X6_names {l : Launch} {G : Gl} {B sz : Nat} {S : St} (v0 : Nat) (v1 : Int32) (h : Hp) (Q : Int32 → Hp → Prop) (hw : w_X6_names S v0 v1 h Q) : MI l G B sz S yX6_names cX6_names 3 .int rm_X6_names [.ref v0, .int v1] h Q := by
  refine met_of rfl rfl ?_
  intro p e s m args below meth c hMB H ls hH hl
  obtain ⟨hx, hb, hml, hown, hKK, hr, hlk⟩ := hMB
  replace hl : lv_has ls 3 [(0, .ref v0), (1, .int v1)] := hl
  unfold w_X6_names at hw
  show W p l e rm_X6_names s m args below meth c H [] 0 0 (QI G B S sz below args s Q) (F0 m 0 ls [])
  generalize ([] : List Loc) = locs at hH ⊢
  refine lv_iconst (v := (nI 0)) hx hb dX6_names_0 (by decide) ?_
  refine lv_iload_n hx hb dX6_names_1 rfl (lv_at hl 1 rfl) ?_
  refine lv_iconst (v := (nI 0)) hx hb dX6_names_2 (by decide) ?_
  refine lv_bipush (v := (nI 30)) hx hb dX6_names_3 (by decide) ?_
  refine hv_cSI (rm := rm_X6_faultOfNumber) (As := [.int (nI 0), .int v1, .int (nI 0), .int (nI 30)]) (rest := []) (k := 4) hx hb hml hown hKK hH (m_X6_faultOfNumber (nI 0) v1 (nI 0) (nI 30) _ _ hw) cw_X6_68 ⟨Nat.le_of_ble_eq_true rfl, Nat.le_of_ble_eq_true rfl⟩ rfl hl.1 rfl (Nat.le_of_ble_eq_true rfl) ⟨Nat.le_of_ble_eq_true rfl, Nat.le_of_ble_eq_true rfl⟩ dX6_names_5 (fun r2 h1 H locs hH hw => ?_)
  refine lv_istore_n (lv' := [(2, .int r2), (0, .ref v0), (1, .int v1)]) hx hb dX6_names_8 rfl hl (by decide) rfl (fun ls hl => ?_)
  refine lv_iload_n hx hb dX6_names_9 rfl (lv_at hl 0 rfl) ?_
  refine lv_if_eq (tgt := 19) hx hb dX6_names_10 (by decide) (fun c3 => ?_) (fun c3 => ?_)
  · have hw := ite_t hw c3
    refine lv_aload_n hx hb dX6_names_19 rfl (lv_at hl 1 rfl) ?_
    obtain ⟨k4, hw⟩ := hw
    refine hv_get (ci := 6) (k := 5) (v := .ref (S.2 v0 5)) hx hb hown hKK hH cf6 (by decide) fl_X6_36 rfl k4 rfl dX6_names_20 ?_
    refine lv_aload_n hx hb dX6_names_23 rfl (lv_at hl 1 rfl) ?_
    refine hv_get (ci := 6) (k := 0) (v := .ref (S.2 v0 0)) hx hb hown hKK hH cf6 (by decide) fl_X6_10 rfl k4 rfl dX6_names_24 ?_
    refine lv_iload_n hx hb dX6_names_27 rfl (lv_at hl 2 rfl) ?_
    obtain ⟨k5, hw⟩ := hw
    refine hv_cVI (rm := rm_X2_namesToChange) (As := [.ref (S.2 v0 0), .int v1]) (rest := []) (k := 2) (ci := 2) hx hb hml hown hKK hH cf2 k5 (m_X2_namesToChange (S.2 v0 5) (S.2 v0 0) v1 _ _ hw) cw_X6_241 ⟨Nat.le_of_ble_eq_true rfl, Nat.le_of_ble_eq_true rfl⟩ rfl hl.1 rfl (Nat.le_of_ble_eq_true rfl) ⟨Nat.le_of_ble_eq_true rfl, Nat.le_of_ble_eq_true rfl⟩ dX6_names_28 (fun r7 h6 H locs hH hw => ?_)
    exact hv_iret hx hb hr hlk hH hw dX6_names_31
  · have hw := ite_f hw c3
    refine lv_aload_n hx hb dX6_names_13 rfl (lv_at hl 1 rfl) ?_
    refine lv_iload_n hx hb dX6_names_14 rfl (lv_at hl 0 rfl) ?_
    obtain ⟨k8, hw⟩ := hw
    refine hv_cVI (rm := rm_X6_refuse) (As := [.int r2]) (rest := []) (k := 1) (ci := 6) hx hb hml hown hKK hH cf6 k8 (m_X6_refuse v0 r2 _ _ hw) cw_X6_56 ⟨Nat.le_of_ble_eq_true rfl, Nat.le_of_ble_eq_true rfl⟩ rfl hl.1 rfl (Nat.le_of_ble_eq_true rfl) ⟨Nat.le_of_ble_eq_true rfl, Nat.le_of_ble_eq_true rfl⟩ dX6_names_15 (fun r10 h9 H locs hH hw => ?_)
    exact hv_iret hx hb hr hlk hH hw dX6_names_18
abbrev rm_X6_whatKind : Room := { frames := 7, cells := 0, slots := 0, locals := 173 }
set_option maxHeartbeats 4000000 in
set_option maxRecDepth 100000 in
theorem m_X6_whatKind {l : Launch} {G : Gl} {B sz : Nat} {S : St} (v0 : Nat) (v1 : Int32) (v2 : Int32) (h : Hp) (Q : Int32 → Hp → Prop) (hw : w_X6_whatKind S v0 v1 v2 h Q) : MI l G B sz S yX6_whatKind cX6_whatKind 3 .int rm_X6_whatKind [.ref v0, .int v1, .int v2] h Q := by
  refine met_of rfl rfl ?_
  intro p e s m args below meth c hMB H ls hH hl
  obtain ⟨hx, hb, hml, hown, hKK, hr, hlk⟩ := hMB
  replace hl : lv_has ls 3 [(0, .ref v0), (1, .int v1), (2, .int v2)] := hl
  unfold w_X6_whatKind at hw
  show W p l e rm_X6_whatKind s m args below meth c H [] 0 0 (QI G B S sz below args s Q) (F0 m 0 ls [])
  generalize ([] : List Loc) = locs at hH ⊢
  refine lv_aload_n hx hb dX6_whatKind_0 rfl (lv_at hl 0 rfl) ?_
  refine lv_iload_n hx hb dX6_whatKind_1 rfl (lv_at hl 1 rfl) ?_
  obtain ⟨k1, hw⟩ := hw
  refine hv_cVI (rm := rm_X6_noHead) (As := [.int v1]) (rest := []) (k := 1) (ci := 6) hx hb hml hown hKK hH cf6 k1 (m_X6_noHead v0 v1 _ _ hw) cw_X6_64 ⟨Nat.le_of_ble_eq_true rfl, Nat.le_of_ble_eq_true rfl⟩ rfl hl.1 rfl (Nat.le_of_ble_eq_true rfl) ⟨Nat.le_of_ble_eq_true rfl, Nat.le_of_ble_eq_true rfl⟩ dX6_whatKind_2 (fun r3 h2 H locs hH hw => ?_)
  refine lv_if_eq (tgt := 14) hx hb dX6_whatKind_5 (by decide) (fun c4 => ?_) (fun c4 => ?_)
  · have hw := ite_t hw c4
    refine lv_iload_n hx hb dX6_whatKind_14 rfl (lv_at hl 2 rfl) ?_
    by_cases c5 : v2 = (nI 0)
    · have hw := ite_t hw c5
      refine lv_lookup (tgt := 40) (off := 25) hx hb dX6_whatKind_15 (by decide) (by (rw [c5]) <;> rfl) (by decide) ?_
      refine lv_aload_n hx hb dX6_whatKind_40 rfl (lv_at hl 0 rfl) ?_
      refine hv_get (ci := 6) (k := 5) (v := .ref (S.2 v0 5)) hx hb hown hKK hH cf6 (by decide) fl_X6_36 rfl k1 rfl dX6_whatKind_41 ?_
      refine lv_aload_n hx hb dX6_whatKind_44 rfl (lv_at hl 0 rfl) ?_
      refine hv_get (ci := 6) (k := 0) (v := .ref (S.2 v0 0)) hx hb hown hKK hH cf6 (by decide) fl_X6_10 rfl k1 rfl dX6_whatKind_45 ?_
      refine lv_iload_n hx hb dX6_whatKind_48 rfl (lv_at hl 1 rfl) ?_
      refine lv_iconst (v := (nI 0)) hx hb dX6_whatKind_49 (by decide) ?_
      refine lv_aload_n hx hb dX6_whatKind_50 rfl (lv_at hl 0 rfl) ?_
      refine hv_get (ci := 6) (k := 7) (v := .ref (S.2 v0 7)) hx hb hown hKK hH cf6 (by decide) fl_X6_47 rfl k1 rfl dX6_whatKind_51 ?_
      refine lv_aload_n hx hb dX6_whatKind_54 rfl (lv_at hl 0 rfl) ?_
      refine hv_get (ci := 6) (k := 8) (v := .int (h2 v0 8)) hx hb hown hKK hH cf6 (by decide) fl_X6_244 rfl k1 rfl dX6_whatKind_55 ?_
      obtain ⟨k6, hw⟩ := hw
      refine hv_cVI (rm := rm_X2_choicesOfWay) (As := [.ref (S.2 v0 0), .int v1, .int (nI 0), .ref (S.2 v0 7), .int (h2 v0 8)]) (rest := []) (k := 5) (ci := 2) hx hb hml hown hKK hH cf2 k6 (m_X2_choicesOfWay (S.2 v0 5) (S.2 v0 0) v1 (nI 0) (S.2 v0 7) (h2 v0 8) _ _ hw) cw_X6_247 ⟨Nat.le_of_ble_eq_true rfl, Nat.le_of_ble_eq_true rfl⟩ rfl hl.1 rfl (Nat.le_of_ble_eq_true rfl) ⟨Nat.le_of_ble_eq_true rfl, Nat.le_of_ble_eq_true rfl⟩ dX6_whatKind_58 (fun r8 h7 H locs hH hw => ?_)
      exact hv_iret hx hb hr hlk hH hw dX6_whatKind_61
    have hw := ite_f hw c5
    by_cases c9 : v2 = (nI 1)
    · have hw := ite_t hw c9
      refine lv_lookup (tgt := 62) (off := 47) hx hb dX6_whatKind_15 (by decide) (by (rw [c9]) <;> rfl) (by decide) ?_
      refine lv_aload_n hx hb dX6_whatKind_62 rfl (lv_at hl 0 rfl) ?_
      refine hv_get (ci := 6) (k := 5) (v := .ref (S.2 v0 5)) hx hb hown hKK hH cf6 (by decide) fl_X6_36 rfl k1 rfl dX6_whatKind_63 ?_
      refine lv_aload_n hx hb dX6_whatKind_66 rfl (lv_at hl 0 rfl) ?_
      refine hv_get (ci := 6) (k := 0) (v := .ref (S.2 v0 0)) hx hb hown hKK hH cf6 (by decide) fl_X6_10 rfl k1 rfl dX6_whatKind_67 ?_
      refine lv_iload_n hx hb dX6_whatKind_70 rfl (lv_at hl 1 rfl) ?_
      refine lv_iconst (v := (nI 1)) hx hb dX6_whatKind_71 (by decide) ?_
      refine lv_aload_n hx hb dX6_whatKind_72 rfl (lv_at hl 0 rfl) ?_
      refine hv_get (ci := 6) (k := 7) (v := .ref (S.2 v0 7)) hx hb hown hKK hH cf6 (by decide) fl_X6_47 rfl k1 rfl dX6_whatKind_73 ?_
      refine lv_aload_n hx hb dX6_whatKind_76 rfl (lv_at hl 0 rfl) ?_
      refine hv_get (ci := 6) (k := 8) (v := .int (h2 v0 8)) hx hb hown hKK hH cf6 (by decide) fl_X6_244 rfl k1 rfl dX6_whatKind_77 ?_
      obtain ⟨k10, hw⟩ := hw
      refine hv_cVI (rm := rm_X2_choicesOfWay) (As := [.ref (S.2 v0 0), .int v1, .int (nI 1), .ref (S.2 v0 7), .int (h2 v0 8)]) (rest := []) (k := 5) (ci := 2) hx hb hml hown hKK hH cf2 k10 (m_X2_choicesOfWay (S.2 v0 5) (S.2 v0 0) v1 (nI 1) (S.2 v0 7) (h2 v0 8) _ _ hw) cw_X6_247 ⟨Nat.le_of_ble_eq_true rfl, Nat.le_of_ble_eq_true rfl⟩ rfl hl.1 rfl (Nat.le_of_ble_eq_true rfl) ⟨Nat.le_of_ble_eq_true rfl, Nat.le_of_ble_eq_true rfl⟩ dX6_whatKind_80 (fun r12 h11 H locs hH hw => ?_)
      exact hv_iret hx hb hr hlk hH hw dX6_whatKind_83
    have hw := ite_f hw c9
    refine lv_lookup (tgt := 84) (off := 69) hx hb dX6_whatKind_15 (by decide) (by show Op.lookupswitch.offset [(0, 25), (1, 47)] 69 _ = 69; (rw [lv_osw (a := 0) (o := 25) c5 rfl, lv_osw (a := 1) (o := 47) c9 rfl]) <;> rfl) (by decide) ?_
    refine lv_aload_n hx hb dX6_whatKind_84 rfl (lv_at hl 0 rfl) ?_
    refine lv_bipush (v := (-2)) hx hb dX6_whatKind_85 (by decide) ?_
    refine hv_cVI (rm := rm_X6_refuse) (As := [.int (-2)]) (rest := []) (k := 1) (ci := 6) hx hb hml hown hKK hH cf6 k1 (m_X6_refuse v0 (-2) _ _ hw) cw_X6_56 ⟨Nat.le_of_ble_eq_true rfl, Nat.le_of_ble_eq_true rfl⟩ rfl hl.1 rfl (Nat.le_of_ble_eq_true rfl) ⟨Nat.le_of_ble_eq_true rfl, Nat.le_of_ble_eq_true rfl⟩ dX6_whatKind_87 (fun r14 h13 H locs hH hw => ?_)
    exact hv_iret hx hb hr hlk hH hw dX6_whatKind_90
  · have hw := ite_f hw c4
    refine lv_aload_n hx hb dX6_whatKind_8 rfl (lv_at hl 0 rfl) ?_
    refine lv_iconst (v := (-1)) hx hb dX6_whatKind_9 (by decide) ?_
    refine hv_cVI (rm := rm_X6_refuse) (As := [.int (-1)]) (rest := []) (k := 1) (ci := 6) hx hb hml hown hKK hH cf6 k1 (m_X6_refuse v0 (-1) _ _ hw) cw_X6_56 ⟨Nat.le_of_ble_eq_true rfl, Nat.le_of_ble_eq_true rfl⟩ rfl hl.1 rfl (Nat.le_of_ble_eq_true rfl) ⟨Nat.le_of_ble_eq_true rfl, Nat.le_of_ble_eq_true rfl⟩ dX6_whatKind_10 (fun r16 h15 H locs hH hw => ?_)
    exact hv_iret hx hb hr hlk hH hw dX6_whatKind_13
abbrev rm_X6_whatWord : Room := { frames := 7, cells := 0, slots := 0, locals := 173 }
set_option maxHeartbeats 4000000 in
set_option maxRecDepth 100000 in
theorem m_X6_whatWord {l : Launch} {G : Gl} {B sz : Nat} {S : St} (v0 : Nat) (v1 : Int32) (h : Hp) (Q : Int32 → Hp → Prop) (hw : w_X6_whatWord S v0 v1 h Q) : MI l G B sz S yX6_whatWord cX6_whatWord 2 .int rm_X6_whatWord [.ref v0, .int v1] h Q := by
  refine met_of rfl rfl ?_
  intro p e s m args below meth c hMB H ls hH hl
  obtain ⟨hx, hb, hml, hown, hKK, hr, hlk⟩ := hMB
  replace hl : lv_has ls 2 [(0, .ref v0), (1, .int v1)] := hl
  unfold w_X6_whatWord at hw
  show W p l e rm_X6_whatWord s m args below meth c H [] 0 0 (QI G B S sz below args s Q) (F0 m 0 ls [])
  generalize ([] : List Loc) = locs at hH ⊢
  refine lv_aload_n hx hb dX6_whatWord_0 rfl (lv_at hl 0 rfl) ?_
  refine lv_iload_n hx hb dX6_whatWord_1 rfl (lv_at hl 1 rfl) ?_
  obtain ⟨k1, hw⟩ := hw
  refine hv_cVI (rm := rm_X6_noHead) (As := [.int v1]) (rest := []) (k := 1) (ci := 6) hx hb hml hown hKK hH cf6 k1 (m_X6_noHead v0 v1 _ _ hw) cw_X6_64 ⟨Nat.le_of_ble_eq_true rfl, Nat.le_of_ble_eq_true rfl⟩ rfl hl.1 rfl (Nat.le_of_ble_eq_true rfl) ⟨Nat.le_of_ble_eq_true rfl, Nat.le_of_ble_eq_true rfl⟩ dX6_whatWord_2 (fun r3 h2 H locs hH hw => ?_)
  refine lv_if_eq (tgt := 14) hx hb dX6_whatWord_5 (by decide) (fun c4 => ?_) (fun c4 => ?_)
  · have hw := ite_t hw c4
    refine lv_aload_n hx hb dX6_whatWord_14 rfl (lv_at hl 0 rfl) ?_
    refine hv_get (ci := 6) (k := 5) (v := .ref (S.2 v0 5)) hx hb hown hKK hH cf6 (by decide) fl_X6_36 rfl k1 rfl dX6_whatWord_15 ?_
    refine lv_aload_n hx hb dX6_whatWord_18 rfl (lv_at hl 0 rfl) ?_
    refine hv_get (ci := 6) (k := 0) (v := .ref (S.2 v0 0)) hx hb hown hKK hH cf6 (by decide) fl_X6_10 rfl k1 rfl dX6_whatWord_19 ?_
    refine lv_iload_n hx hb dX6_whatWord_22 rfl (lv_at hl 1 rfl) ?_
    refine lv_iconst (v := (nI 2)) hx hb dX6_whatWord_23 (by decide) ?_
    refine lv_aload_n hx hb dX6_whatWord_24 rfl (lv_at hl 0 rfl) ?_
    refine hv_get (ci := 6) (k := 7) (v := .ref (S.2 v0 7)) hx hb hown hKK hH cf6 (by decide) fl_X6_47 rfl k1 rfl dX6_whatWord_25 ?_
    refine lv_aload_n hx hb dX6_whatWord_28 rfl (lv_at hl 0 rfl) ?_
    refine hv_get (ci := 6) (k := 8) (v := .int (h2 v0 8)) hx hb hown hKK hH cf6 (by decide) fl_X6_244 rfl k1 rfl dX6_whatWord_29 ?_
    obtain ⟨k5, hw⟩ := hw
    refine hv_cVI (rm := rm_X2_choicesOfWay) (As := [.ref (S.2 v0 0), .int v1, .int (nI 2), .ref (S.2 v0 7), .int (h2 v0 8)]) (rest := []) (k := 5) (ci := 2) hx hb hml hown hKK hH cf2 k5 (m_X2_choicesOfWay (S.2 v0 5) (S.2 v0 0) v1 (nI 2) (S.2 v0 7) (h2 v0 8) _ _ hw) cw_X6_247 ⟨Nat.le_of_ble_eq_true rfl, Nat.le_of_ble_eq_true rfl⟩ rfl hl.1 rfl (Nat.le_of_ble_eq_true rfl) ⟨Nat.le_of_ble_eq_true rfl, Nat.le_of_ble_eq_true rfl⟩ dX6_whatWord_32 (fun r7 h6 H locs hH hw => ?_)
    exact hv_iret hx hb hr hlk hH hw dX6_whatWord_35
  · have hw := ite_f hw c4
    refine lv_aload_n hx hb dX6_whatWord_8 rfl (lv_at hl 0 rfl) ?_
    refine lv_iconst (v := (-1)) hx hb dX6_whatWord_9 (by decide) ?_
    refine hv_cVI (rm := rm_X6_refuse) (As := [.int (-1)]) (rest := []) (k := 1) (ci := 6) hx hb hml hown hKK hH cf6 k1 (m_X6_refuse v0 (-1) _ _ hw) cw_X6_56 ⟨Nat.le_of_ble_eq_true rfl, Nat.le_of_ble_eq_true rfl⟩ rfl hl.1 rfl (Nat.le_of_ble_eq_true rfl) ⟨Nat.le_of_ble_eq_true rfl, Nat.le_of_ble_eq_true rfl⟩ dX6_whatWord_10 (fun r9 h8 H locs hH hw => ?_)
    exact hv_iret hx hb hr hlk hH hw dX6_whatWord_13
abbrev rm_X6_two : Room := { frames := 6, cells := 0, slots := 0, locals := 170 }
set_option maxHeartbeats 4000000 in
set_option maxRecDepth 100000 in
theorem m_X6_two {l : Launch} {G : Gl} {B sz : Nat} {S : St} (v0 : Nat) (v1 : Int32) (v2 : Int32) (v3 : Int32) (h : Hp) (Q : Int32 → Hp → Prop) (hw : w_X6_two S v0 v1 v2 v3 h Q) : MI l G B sz S yX6_two cX6_two 5 .int rm_X6_two [.ref v0, .int v1, .int v2, .int v3] h Q := by
  refine met_of rfl rfl ?_
  intro p e s m args below meth c hMB H ls hH hl
  obtain ⟨hx, hb, hml, hown, hKK, hr, hlk⟩ := hMB
  replace hl : lv_has ls 5 [(0, .ref v0), (1, .int v1), (2, .int v2), (3, .int v3)] := hl
  unfold w_X6_two at hw
  show W p l e rm_X6_two s m args below meth c H [] 0 0 (QI G B S sz below args s Q) (F0 m 0 ls [])
  generalize ([] : List Loc) = locs at hH ⊢
  refine lv_aload_n hx hb dX6_two_0 rfl (lv_at hl 0 rfl) ?_
  refine lv_iload_n hx hb dX6_two_1 rfl (lv_at hl 1 rfl) ?_
  refine lv_iload_n hx hb dX6_two_2 rfl (lv_at hl 2 rfl) ?_
  obtain ⟨k1, hw⟩ := hw
  refine hv_cVI (rm := rm_X6_noPair) (As := [.int v1, .int v2]) (rest := []) (k := 2) (ci := 6) hx hb hml hown hKK hH cf6 k1 (m_X6_noPair v0 v1 v2 _ _ hw) cw_X6_223 ⟨Nat.le_of_ble_eq_true rfl, Nat.le_of_ble_eq_true rfl⟩ rfl hl.1 rfl (Nat.le_of_ble_eq_true rfl) ⟨Nat.le_of_ble_eq_true rfl, Nat.le_of_ble_eq_true rfl⟩ dX6_two_3 (fun r3 h2 H locs hH hw => ?_)
  refine lv_iload_n hx hb dX6_two_6 rfl (lv_at hl 3 rfl) ?_
  refine lv_iconst (v := (nI 1)) hx hb dX6_two_7 (by decide) ?_
  refine lv_bipush (v := (nI 30)) hx hb dX6_two_8 (by decide) ?_
  refine hv_cSI (rm := rm_X6_faultOfNumber) (As := [.int r3, .int v3, .int (nI 1), .int (nI 30)]) (rest := []) (k := 4) hx hb hml hown hKK hH (m_X6_faultOfNumber r3 v3 (nI 1) (nI 30) _ _ hw) cw_X6_68 ⟨Nat.le_of_ble_eq_true rfl, Nat.le_of_ble_eq_true rfl⟩ rfl hl.1 rfl (Nat.le_of_ble_eq_true rfl) ⟨Nat.le_of_ble_eq_true rfl, Nat.le_of_ble_eq_true rfl⟩ dX6_two_10 (fun r5 h4 H locs hH hw => ?_)
  refine lv_istore (lv' := [(4, .int r5), (0, .ref v0), (1, .int v1), (2, .int v2), (3, .int v3)]) hx hb dX6_two_13 hl (by decide) rfl (fun ls hl => ?_)
  refine lv_iload hx hb dX6_two_15 (lv_at hl 0 rfl) ?_
  refine lv_if_eq (tgt := 27) hx hb dX6_two_17 (by decide) (fun c6 => ?_) (fun c6 => ?_)
  · have hw := ite_t hw c6
    refine lv_aload_n hx hb dX6_two_27 rfl (lv_at hl 1 rfl) ?_
    refine hv_get (ci := 6) (k := 5) (v := .ref (S.2 v0 5)) hx hb hown hKK hH cf6 (by decide) fl_X6_36 rfl k1 rfl dX6_two_28 ?_
    refine lv_aload_n hx hb dX6_two_31 rfl (lv_at hl 1 rfl) ?_
    refine hv_get (ci := 6) (k := 0) (v := .ref (S.2 v0 0)) hx hb hown hKK hH cf6 (by decide) fl_X6_10 rfl k1 rfl dX6_two_32 ?_
    refine lv_iload_n hx hb dX6_two_35 rfl (lv_at hl 2 rfl) ?_
    refine lv_iload_n hx hb dX6_two_36 rfl (lv_at hl 3 rfl) ?_
    refine lv_iload_n hx hb dX6_two_37 rfl (lv_at hl 4 rfl) ?_
    obtain ⟨k7, hw⟩ := hw
    refine hv_cVI (rm := rm_X2_steadyPair) (As := [.ref (S.2 v0 0), .int v1, .int v2, .int v3]) (rest := []) (k := 4) (ci := 2) hx hb hml hown hKK hH cf2 k7 (m_X2_steadyPair (S.2 v0 5) (S.2 v0 0) v1 v2 v3 _ _ hw) cw_X6_251 ⟨Nat.le_of_ble_eq_true rfl, Nat.le_of_ble_eq_true rfl⟩ rfl hl.1 rfl (Nat.le_of_ble_eq_true rfl) ⟨Nat.le_of_ble_eq_true rfl, Nat.le_of_ble_eq_true rfl⟩ dX6_two_38 (fun r9 h8 H locs hH hw => ?_)
    exact hv_iret hx hb hr hlk hH hw dX6_two_41
  · have hw := ite_f hw c6
    refine lv_aload_n hx hb dX6_two_20 rfl (lv_at hl 1 rfl) ?_
    refine lv_iload hx hb dX6_two_21 (lv_at hl 0 rfl) ?_
    refine hv_cVI (rm := rm_X6_refuse) (As := [.int r5]) (rest := []) (k := 1) (ci := 6) hx hb hml hown hKK hH cf6 k1 (m_X6_refuse v0 r5 _ _ hw) cw_X6_56 ⟨Nat.le_of_ble_eq_true rfl, Nat.le_of_ble_eq_true rfl⟩ rfl hl.1 rfl (Nat.le_of_ble_eq_true rfl) ⟨Nat.le_of_ble_eq_true rfl, Nat.le_of_ble_eq_true rfl⟩ dX6_two_23 (fun r11 h10 H locs hH hw => ?_)
    exact hv_iret hx hb hr hlk hH hw dX6_two_26
abbrev rm_X6_inLowestTerms : Room := { frames := 0, cells := 0, slots := 0, locals := 0 }
set_option maxHeartbeats 4000000 in
set_option maxRecDepth 100000 in
theorem m_X6_inLowestTerms {l : Launch} {G : Gl} {B sz : Nat} {S : St} (v0 : Int64) (v2 : Int64) (v4 : Int32) (h : Hp) (Q : Int64 → Hp → Prop) (hw : w_X6_inLowestTerms S v0 v2 v4 h Q) : ML l G B sz S yX6_inLowestTerms cX6_inLowestTerms 12 rm_X6_inLowestTerms [.long v0, .long v2, .int v4] h Q := by
  refine met_of rfl rfl ?_
  intro p e s m args below meth c hMB H ls hH hl
  obtain ⟨hx, hb, hml, hown, hKK, hr, hlk⟩ := hMB
  replace hl : lv_has ls 12 [(0, .long v0), (2, .long v2), (4, .int v4)] := hl
  have c60 : ∀  (v0 : Int64) (v2 : Int64) (v4 : Int32) (v5 : Int64) (h : Hp) (H : Heap) (locs : List Loc) (ls : Array Slot), HH G B S h sz s H locs → lv_has ls 12 [(0, .long v0), (2, .long v2), (4, .int v4), (5, .long v5)] → w_X6_inLowestTerms_c60 S v0 v2 v4 v5 h Q → W p l e rm_X6_inLowestTerms s m args below meth c H locs 0 0 (QL G B S sz below args s Q) (F0 m 60 ls []) := by
    intro  v0 v2 v4 v5 h H locs ls hH hl hw
    unfold w_X6_inLowestTerms_c60 at hw
    refine lv_iload hx hb dX6_inLowestTerms_60 (lv_at hl 2 rfl) ?_
    refine lv_if_ne (tgt := 69) hx hb dX6_inLowestTerms_62 (by decide) (fun c1 => ?_) (fun c1 => ?_)
    · have hw := ite_f hw c1
      refine lv_lload_n hx hb dX6_inLowestTerms_69 rfl (lv_at hl 1 rfl) ?_
      refine lv_lstore (lv' := [(9, .long v2), (0, .long v0), (2, .long v2), (4, .int v4), (5, .long v5)]) hx hb dX6_inLowestTerms_70 hl (by decide) rfl (fun ls hl => ?_)
      refine lv_lload hx hb dX6_inLowestTerms_72 (lv_at hl 4 rfl) ?_
      refine lv_lconst (v := (lN 0)) hx hb dX6_inLowestTerms_74 rfl ?_
      refine W.lcmp hx hb dX6_inLowestTerms_75 ?_
      refine lv_if_ne (tgt := 84) hx hb dX6_inLowestTerms_76 (by decide) (fun c4 => ?_) (fun c4 => ?_)
      · have hw := ite_f hw c4
        refine lv_lload hx hb dX6_inLowestTerms_84 (lv_at hl 0 rfl) ?_
        refine lv_lload hx hb dX6_inLowestTerms_86 (lv_at hl 4 rfl) ?_
        obtain ⟨k5, hw⟩ := hw
        refine lv_ldiv hx hb dX6_inLowestTerms_88 k5 ?_
        exact hv_lret hx hb hr hlk hH hw dX6_inLowestTerms_89
      · have hw := ite_t hw c4
        refine lv_lload hx hb dX6_inLowestTerms_79 (lv_at hl 0 rfl) ?_
        refine lv_goto (tgt := 89) hx hb dX6_inLowestTerms_81 (by decide) ?_
        exact hv_lret hx hb hr hlk hH hw dX6_inLowestTerms_89
    · have hw := ite_t hw c1
      refine lv_lload_n hx hb dX6_inLowestTerms_65 rfl (lv_at hl 0 rfl) ?_
      refine lv_goto (tgt := 70) hx hb dX6_inLowestTerms_66 (by decide) ?_
      refine lv_lstore (lv' := [(9, .long v0), (0, .long v0), (2, .long v2), (4, .int v4), (5, .long v5)]) hx hb dX6_inLowestTerms_70 hl (by decide) rfl (fun ls hl => ?_)
      refine lv_lload hx hb dX6_inLowestTerms_72 (lv_at hl 4 rfl) ?_
      refine lv_lconst (v := (lN 0)) hx hb dX6_inLowestTerms_74 rfl ?_
      refine W.lcmp hx hb dX6_inLowestTerms_75 ?_
      refine lv_if_ne (tgt := 84) hx hb dX6_inLowestTerms_76 (by decide) (fun c2 => ?_) (fun c2 => ?_)
      · have hw := ite_f hw c2
        refine lv_lload hx hb dX6_inLowestTerms_84 (lv_at hl 0 rfl) ?_
        refine lv_lload hx hb dX6_inLowestTerms_86 (lv_at hl 4 rfl) ?_
        obtain ⟨k3, hw⟩ := hw
        refine lv_ldiv hx hb dX6_inLowestTerms_88 k3 ?_
        exact hv_lret hx hb hr hlk hH hw dX6_inLowestTerms_89
      · have hw := ite_t hw c2
        refine lv_lload hx hb dX6_inLowestTerms_79 (lv_at hl 0 rfl) ?_
        refine lv_goto (tgt := 89) hx hb dX6_inLowestTerms_81 (by decide) ?_
        exact hv_lret hx hb hr hlk hH hw dX6_inLowestTerms_89
  have c25 : ∀  (v0 : Int64) (v2 : Int64) (v4 : Int32) (v5 : Int64) (v7 : Int64) (v9 : Int32) (h : Hp) (H : Heap) (locs : List Loc) (ls : Array Slot), HH G B S h sz s H locs → lv_has ls 12 [(0, .long v0), (2, .long v2), (4, .int v4), (5, .long v5), (7, .long v7), (9, .int v9)] → w_X6_inLowestTerms_c25 S v0 v2 v4 v5 v7 v9 h Q → W p l e rm_X6_inLowestTerms s m args below meth c H locs 0 0 (QL G B S sz below args s Q) (F0 m 25 ls []) := by
    intro  v0 v2 v4 v5 v7 v9 h H locs ls hH hl hw
    unfold w_X6_inLowestTerms_c25 at hw
    obtain ⟨P25, hP25⟩ : ∃ P : Int64 → Int64 → Int32 → Hp → Prop, ∀ (v5 : Int64) (v7 : Int64) (v9 : Int32) (h : Hp), P v5 v7 v9 h ↔ (∀ (H : Heap) (locs : List Loc) (ls : Array Slot), HH G B S h sz s H locs → lv_has ls 12 [(0, .long v0), (2, .long v2), (4, .int v4), (5, .long v5), (7, .long v7), (9, .int v9)] → W p l e rm_X6_inLowestTerms s m args below meth c H locs 0 0 (QL G B S sz below args s Q) (F0 m 25 ls [])) := ⟨_, fun v5 v7 v9 h => Iff.rfl⟩
    refine (hP25 v5 v7 v9 h).1 (hw P25 (fun v5 v7 v9 h hw => (hP25 v5 v7 v9 h).2 (fun H locs ls hH hl => ?_))) H locs ls hH hl
    have hK25 : ∀ (v5 : Int64) (v7 : Int64) (v9 : Int32) (h : Hp) (H : Heap) (locs : List Loc) (ls : Array Slot), HH G B S h sz s H locs → lv_has ls 12 [(0, .long v0), (2, .long v2), (4, .int v4), (5, .long v5), (7, .long v7), (9, .int v9)] → P25 v5 v7 v9 h → W p l e rm_X6_inLowestTerms s m args below meth c H locs 0 0 (QL G B S sz below args s Q) (F0 m 25 ls []) := fun v5 v7 v9 h H locs ls hH hl hk => (hP25 v5 v7 v9 h).1 hk H locs ls hH hl
    refine lv_iload hx hb dX6_inLowestTerms_25 (lv_at hl 5 rfl) ?_
    refine lv_bipush (v := (nI 100)) hx hb dX6_inLowestTerms_27 (by decide) ?_
    refine lv_icmp_ge (tgt := 60) hx hb dX6_inLowestTerms_29 (by decide) (fun c1 => ?_) (fun c1 => ?_)
    · have hw := ite_t hw c1
      exact c60 _ _ _ _ _ H locs ls hH (lv_sub hl [0, 1, 2, 3] rfl) hw
    · have hw := ite_f hw c1
      refine lv_lload hx hb dX6_inLowestTerms_32 (lv_at hl 4 rfl) ?_
      refine lv_lconst (v := (lN 0)) hx hb dX6_inLowestTerms_34 rfl ?_
      refine W.lcmp hx hb dX6_inLowestTerms_35 ?_
      refine lv_if_eq (tgt := 60) hx hb dX6_inLowestTerms_36 (by decide) (fun c2 => ?_) (fun c2 => ?_)
      · have hw := ite_t hw c2
        exact c60 _ _ _ _ _ H locs ls hH (lv_sub hl [0, 1, 2, 3] rfl) hw
      · have hw := ite_f hw c2
        refine lv_lload hx hb dX6_inLowestTerms_39 (lv_at hl 3 rfl) ?_
        refine lv_lload hx hb dX6_inLowestTerms_41 (lv_at hl 4 rfl) ?_
        obtain ⟨k3, hw⟩ := hw
        refine lv_lrem hx hb dX6_inLowestTerms_43 k3 ?_
        refine lv_lstore (lv' := [(10, .long (lrem v5 v7)), (0, .long v0), (2, .long v2), (4, .int v4), (5, .long v5), (7, .long v7), (9, .int v9)]) hx hb dX6_inLowestTerms_44 hl (by decide) rfl (fun ls hl => ?_)
        refine lv_lload hx hb dX6_inLowestTerms_46 (lv_at hl 5 rfl) ?_
        refine lv_lstore (lv' := [(5, .long v7), (10, .long (lrem v5 v7)), (0, .long v0), (2, .long v2), (4, .int v4), (7, .long v7), (9, .int v9)]) hx hb dX6_inLowestTerms_48 hl (by decide) rfl (fun ls hl => ?_)
        refine lv_lload hx hb dX6_inLowestTerms_50 (lv_at hl 1 rfl) ?_
        refine lv_lstore (lv' := [(7, .long (lrem v5 v7)), (5, .long v7), (10, .long (lrem v5 v7)), (0, .long v0), (2, .long v2), (4, .int v4), (9, .int v9)]) hx hb dX6_inLowestTerms_52 hl (by decide) rfl (fun ls hl => ?_)
        refine lv_iinc (v := v9 + (nI 1)) (lv' := [(9, .int (v9 + (nI 1))), (7, .long (lrem v5 v7)), (5, .long v7), (10, .long (lrem v5 v7)), (0, .long v0), (2, .long v2), (4, .int v4)]) hx hb dX6_inLowestTerms_54 hl (k := 6) rfl rfl (by decide) rfl (fun ls hl => ?_)
        refine lv_goto (tgt := 25) hx hb dX6_inLowestTerms_57 (by decide) ?_
        exact hK25 _ _ _ _ H locs ls hH (lv_sub hl [4, 5, 6, 2, 1, 0] rfl) hw
  unfold w_X6_inLowestTerms at hw
  show W p l e rm_X6_inLowestTerms s m args below meth c H [] 0 0 (QL G B S sz below args s Q) (F0 m 0 ls [])
  generalize ([] : List Loc) = locs at hH ⊢
  refine lv_lload_n hx hb dX6_inLowestTerms_0 rfl (lv_at hl 0 rfl) ?_
  refine lv_lconst (v := (lN 0)) hx hb dX6_inLowestTerms_1 rfl ?_
  refine W.lcmp hx hb dX6_inLowestTerms_2 ?_
  refine lv_if_eq (tgt := 12) hx hb dX6_inLowestTerms_3 (by decide) (fun c1 => ?_) (fun c1 => ?_)
  · have hw := ite_t hw c1
    refine lv_iload hx hb dX6_inLowestTerms_12 (lv_at hl 2 rfl) ?_
    refine lv_i2l hx hb dX6_inLowestTerms_14 rfl ?_
    exact hv_lret hx hb hr hlk hH hw dX6_inLowestTerms_15
  · have hw := ite_f hw c1
    refine lv_lload_n hx hb dX6_inLowestTerms_6 rfl (lv_at hl 1 rfl) ?_
    refine lv_lconst (v := (lN 0)) hx hb dX6_inLowestTerms_7 rfl ?_
    refine W.lcmp hx hb dX6_inLowestTerms_8 ?_
    refine lv_if_ne (tgt := 16) hx hb dX6_inLowestTerms_9 (by decide) (fun c2 => ?_) (fun c2 => ?_)
    · have hw := ite_f hw c2
      refine lv_lload_n hx hb dX6_inLowestTerms_16 rfl (lv_at hl 0 rfl) ?_
      refine lv_lstore (lv' := [(5, .long v0), (0, .long v0), (2, .long v2), (4, .int v4)]) hx hb dX6_inLowestTerms_17 hl (by decide) rfl (fun ls hl => ?_)
      refine lv_lload_n hx hb dX6_inLowestTerms_19 rfl (lv_at hl 2 rfl) ?_
      refine lv_lstore (lv' := [(7, .long v2), (5, .long v0), (0, .long v0), (2, .long v2), (4, .int v4)]) hx hb dX6_inLowestTerms_20 hl (by decide) rfl (fun ls hl => ?_)
      refine lv_iconst (v := (nI 0)) hx hb dX6_inLowestTerms_22 (by decide) ?_
      refine lv_istore (lv' := [(9, .int (nI 0)), (7, .long v2), (5, .long v0), (0, .long v0), (2, .long v2), (4, .int v4)]) hx hb dX6_inLowestTerms_23 hl (by decide) rfl (fun ls hl => ?_)
      exact c25 _ _ _ _ _ _ _ H locs ls hH (lv_sub hl [3, 4, 5, 2, 1, 0] rfl) hw
    · have hw := ite_t hw c2
      refine lv_iload hx hb dX6_inLowestTerms_12 (lv_at hl 2 rfl) ?_
      refine lv_i2l hx hb dX6_inLowestTerms_14 rfl ?_
      exact hv_lret hx hb hr hlk hH hw dX6_inLowestTerms_15
abbrev rm_X6_rain : Room := { frames := 6, cells := 0, slots := 0, locals := 176 }
set_option maxHeartbeats 4000000 in
set_option maxRecDepth 100000 in
theorem m_X6_rain {l : Launch} {G : Gl} {B sz : Nat} {S : St} (v0 : Nat) (v1 : Int32) (v2 : Int32) (v3 : Int32) (v4 : Int32) (v5 : Int32) (h : Hp) (Q : Int64 → Hp → Prop) (hw : w_X6_rain S v0 v1 v2 v3 v4 v5 h Q) : ML l G B sz S yX6_rain cX6_rain 9 rm_X6_rain [.ref v0, .int v1, .int v2, .int v3, .int v4, .int v5] h Q := by
  refine met_of rfl rfl ?_
  intro p e s m args below meth c hMB H ls hH hl
  obtain ⟨hx, hb, hml, hown, hKK, hr, hlk⟩ := hMB
  replace hl : lv_has ls 9 [(0, .ref v0), (1, .int v1), (2, .int v2), (3, .int v3), (4, .int v4), (5, .int v5)] := hl
  have c82 : ∀  (v0 : Nat) (v1 : Int32) (v2 : Int32) (v3 : Int32) (v4 : Int32) (v5 : Int32) (v6 : Int64) (v8 : Int32) (h : Hp) (H : Heap) (locs : List Loc) (ls : Array Slot), HH G B S h sz s H locs → lv_has ls 9 [(0, .ref v0), (1, .int v1), (2, .int v2), (3, .int v3), (4, .int v4), (5, .int v5), (6, .long v6), (8, .int v8)] → w_X6_rain_c82 S v0 v1 v2 v3 v4 v5 v6 v8 h Q → W p l e rm_X6_rain s m args below meth c H locs 0 0 (QL G B S sz below args s Q) (F0 m 82 ls []) := by
    intro  v0 v1 v2 v3 v4 v5 v6 v8 h H locs ls hH hl hw
    unfold w_X6_rain_c82 at hw
    obtain ⟨P82, hP82⟩ : ∃ P : Int64 → Int32 → Hp → Prop, ∀ (v6 : Int64) (v8 : Int32) (h : Hp), P v6 v8 h ↔ (∀ (H : Heap) (locs : List Loc) (ls : Array Slot), HH G B S h sz s H locs → lv_has ls 9 [(0, .ref v0), (1, .int v1), (2, .int v2), (3, .int v3), (4, .int v4), (5, .int v5), (6, .long v6), (8, .int v8)] → W p l e rm_X6_rain s m args below meth c H locs 0 0 (QL G B S sz below args s Q) (F0 m 82 ls [])) := ⟨_, fun v6 v8 h => Iff.rfl⟩
    refine (hP82 v6 v8 h).1 (hw P82 (fun v6 v8 h hw => (hP82 v6 v8 h).2 (fun H locs ls hH hl => ?_))) H locs ls hH hl
    have hK82 : ∀ (v6 : Int64) (v8 : Int32) (h : Hp) (H : Heap) (locs : List Loc) (ls : Array Slot), HH G B S h sz s H locs → lv_has ls 9 [(0, .ref v0), (1, .int v1), (2, .int v2), (3, .int v3), (4, .int v4), (5, .int v5), (6, .long v6), (8, .int v8)] → P82 v6 v8 h → W p l e rm_X6_rain s m args below meth c H locs 0 0 (QL G B S sz below args s Q) (F0 m 82 ls []) := fun v6 v8 h H locs ls hH hl hk => (hP82 v6 v8 h).1 hk H locs ls hH hl
    refine lv_iload hx hb dX6_rain_82 (lv_at hl 7 rfl) ?_
    refine lv_iload_n hx hb dX6_rain_84 rfl (lv_at hl 3 rfl) ?_
    refine lv_icmp_ge (tgt := 102) hx hb dX6_rain_85 (by decide) (fun c1 => ?_) (fun c1 => ?_)
    · have hw := ite_t hw c1
      refine lv_aload_n hx hb dX6_rain_102 rfl (lv_at hl 0 rfl) ?_
      obtain ⟨k2, hw⟩ := hw
      refine hv_get (ci := 6) (k := 5) (v := .ref (S.2 v0 5)) hx hb hown hKK hH cf6 (by decide) fl_X6_36 rfl k2 rfl dX6_rain_103 ?_
      refine lv_aload_n hx hb dX6_rain_106 rfl (lv_at hl 0 rfl) ?_
      refine hv_get (ci := 6) (k := 0) (v := .ref (S.2 v0 0)) hx hb hown hKK hH cf6 (by decide) fl_X6_10 rfl k2 rfl dX6_rain_107 ?_
      refine lv_iload_n hx hb dX6_rain_110 rfl (lv_at hl 1 rfl) ?_
      refine lv_iload_n hx hb dX6_rain_111 rfl (lv_at hl 2 rfl) ?_
      refine lv_iload_n hx hb dX6_rain_112 rfl (lv_at hl 3 rfl) ?_
      refine lv_iload hx hb dX6_rain_113 (lv_at hl 4 rfl) ?_
      obtain ⟨k3, hw⟩ := hw
      refine hv_cVL (rm := rm_X2_waysOnto) (As := [.ref (S.2 v0 0), .int v1, .int v2, .int v3, .int v4]) (rest := []) (k := 5) (ci := 2) hx hb hml hown hKK hH cf2 k3 (m_X2_waysOnto (S.2 v0 5) (S.2 v0 0) v1 v2 v3 v4 _ _ hw) cw_X6_258 ⟨Nat.le_of_ble_eq_true rfl, Nat.le_of_ble_eq_true rfl⟩ rfl hl.1 rfl (Nat.le_of_ble_eq_true rfl) ⟨Nat.le_of_ble_eq_true rfl, Nat.le_of_ble_eq_true rfl⟩ dX6_rain_115 (fun r5 h4 H locs hH hw => ?_)
      refine lv_lload hx hb dX6_rain_118 (lv_at hl 6 rfl) ?_
      refine lv_iload hx hb dX6_rain_120 (lv_at hl 5 rfl) ?_
      refine hv_cSL (rm := rm_X6_inLowestTerms) (As := [.long r5, .long v6, .int v5]) (rest := []) (k := 3) hx hb hml hown hKK hH (m_X6_inLowestTerms r5 v6 v5 _ _ hw) cw_X6_262 ⟨Nat.le_of_ble_eq_true rfl, Nat.le_of_ble_eq_true rfl⟩ rfl hl.1 rfl (Nat.le_of_ble_eq_true rfl) ⟨Nat.le_of_ble_eq_true rfl, Nat.le_of_ble_eq_true rfl⟩ dX6_rain_122 (fun r7 h6 H locs hH hw => ?_)
      exact hv_lret hx hb hr hlk hH hw dX6_rain_125
    · have hw := ite_f hw c1
      refine lv_lload hx hb dX6_rain_88 (lv_at hl 6 rfl) ?_
      refine lv_iload hx hb dX6_rain_90 (lv_at hl 4 rfl) ?_
      refine lv_i2l hx hb dX6_rain_92 rfl ?_
      refine lv_lmul hx hb dX6_rain_93 ?_
      refine lv_lstore (lv' := [(6, .long (v6 * (v4.toInt64))), (0, .ref v0), (1, .int v1), (2, .int v2), (3, .int v3), (4, .int v4), (5, .int v5), (8, .int v8)]) hx hb dX6_rain_94 hl (by decide) rfl (fun ls hl => ?_)
      refine lv_iinc (v := v8 + (nI 1)) (lv' := [(8, .int (v8 + (nI 1))), (6, .long (v6 * (v4.toInt64))), (0, .ref v0), (1, .int v1), (2, .int v2), (3, .int v3), (4, .int v4), (5, .int v5)]) hx hb dX6_rain_96 hl (k := 7) rfl rfl (by decide) rfl (fun ls hl => ?_)
      refine lv_goto (tgt := 82) hx hb dX6_rain_99 (by decide) ?_
      exact hK82 _ _ _ H locs ls hH (lv_sub hl [2, 3, 4, 5, 6, 7, 1, 0] rfl) hw
  unfold w_X6_rain at hw
  show W p l e rm_X6_rain s m args below meth c H [] 0 0 (QL G B S sz below args s Q) (F0 m 0 ls [])
  generalize ([] : List Loc) = locs at hH ⊢
  refine lv_aload_n hx hb dX6_rain_0 rfl (lv_at hl 0 rfl) ?_
  refine lv_iload_n hx hb dX6_rain_1 rfl (lv_at hl 1 rfl) ?_
  obtain ⟨k1, hw⟩ := hw
  refine hv_cVI (rm := rm_X6_noHead) (As := [.int v1]) (rest := []) (k := 1) (ci := 6) hx hb hml hown hKK hH cf6 k1 (m_X6_noHead v0 v1 _ _ hw) cw_X6_64 ⟨Nat.le_of_ble_eq_true rfl, Nat.le_of_ble_eq_true rfl⟩ rfl hl.1 rfl (Nat.le_of_ble_eq_true rfl) ⟨Nat.le_of_ble_eq_true rfl, Nat.le_of_ble_eq_true rfl⟩ dX6_rain_2 (fun r3 h2 H locs hH hw => ?_)
  refine lv_if_ne (tgt := 15) hx hb dX6_rain_5 (by decide) (fun c4 => ?_) (fun c4 => ?_)
  · have hw := ite_f hw c4
    refine lv_aload_n hx hb dX6_rain_15 rfl (lv_at hl 0 rfl) ?_
    refine lv_iconst (v := (-1)) hx hb dX6_rain_16 (by decide) ?_
    refine hv_cVL (rm := rm_X6_refuseLong) (As := [.int (-1)]) (rest := []) (k := 1) (ci := 6) hx hb hml hown hKK hH cf6 k1 (m_X6_refuseLong v0 (-1) _ _ hw) cw_X6_254 ⟨Nat.le_of_ble_eq_true rfl, Nat.le_of_ble_eq_true rfl⟩ rfl hl.1 rfl (Nat.le_of_ble_eq_true rfl) ⟨Nat.le_of_ble_eq_true rfl, Nat.le_of_ble_eq_true rfl⟩ dX6_rain_17 (fun r29 h28 H locs hH hw => ?_)
    exact hv_lret hx hb hr hlk hH hw dX6_rain_20
  · have hw := ite_t hw c4
    refine lv_iload_n hx hb dX6_rain_8 rfl (lv_at hl 2 rfl) ?_
    refine hv_cSI (rm := rm_X6_noField) (As := [.int v2]) (rest := []) (k := 1) hx hb hml hown hKK hH (m_X6_noField v2 _ _ hw) cw_X6_151 ⟨Nat.le_of_ble_eq_true rfl, Nat.le_of_ble_eq_true rfl⟩ rfl hl.1 rfl (Nat.le_of_ble_eq_true rfl) ⟨Nat.le_of_ble_eq_true rfl, Nat.le_of_ble_eq_true rfl⟩ dX6_rain_9 (fun r6 h5 H locs hH hw => ?_)
    refine lv_if_eq (tgt := 21) hx hb dX6_rain_12 (by decide) (fun c7 => ?_) (fun c7 => ?_)
    · have hw := ite_t hw c7
      refine lv_iload_n hx hb dX6_rain_21 rfl (lv_at hl 3 rfl) ?_
      refine lv_if_lt (tgt := 31) hx hb dX6_rain_22 (by decide) (fun c8 => ?_) (fun c8 => ?_)
      · have hw := ite_t hw c8
        refine lv_aload_n hx hb dX6_rain_31 rfl (lv_at hl 0 rfl) ?_
        refine lv_bipush (v := (-4)) hx hb dX6_rain_32 (by decide) ?_
        refine hv_cVL (rm := rm_X6_refuseLong) (As := [.int (-4)]) (rest := []) (k := 1) (ci := 6) hx hb hml hown hKK hH cf6 k1 (m_X6_refuseLong v0 (-4) _ _ hw) cw_X6_254 ⟨Nat.le_of_ble_eq_true rfl, Nat.le_of_ble_eq_true rfl⟩ rfl hl.1 rfl (Nat.le_of_ble_eq_true rfl) ⟨Nat.le_of_ble_eq_true rfl, Nat.le_of_ble_eq_true rfl⟩ dX6_rain_34 (fun r10 h9 H locs hH hw => ?_)
        exact hv_lret hx hb hr hlk hH hw dX6_rain_37
      · have hw := ite_f hw c8
        refine lv_iload hx hb dX6_rain_25 (lv_at hl 4 rfl) ?_
        refine lv_iconst (v := (nI 2)) hx hb dX6_rain_27 (by decide) ?_
        refine lv_icmp_ge (tgt := 38) hx hb dX6_rain_28 (by decide) (fun c11 => ?_) (fun c11 => ?_)
        · have hw := ite_t hw c11
          refine lv_iload_n hx hb dX6_rain_38 rfl (lv_at hl 3 rfl) ?_
          refine lv_bipush (v := (nI 7)) hx hb dX6_rain_39 (by decide) ?_
          refine lv_icmp_gt (tgt := 51) hx hb dX6_rain_41 (by decide) (fun c12 => ?_) (fun c12 => ?_)
          · have hw := ite_t hw c12
            refine lv_aload_n hx hb dX6_rain_51 rfl (lv_at hl 0 rfl) ?_
            refine lv_bipush (v := (-6)) hx hb dX6_rain_52 (by decide) ?_
            refine hv_cVL (rm := rm_X6_refuseLong) (As := [.int (-6)]) (rest := []) (k := 1) (ci := 6) hx hb hml hown hKK hH cf6 k1 (m_X6_refuseLong v0 (-6) _ _ hw) cw_X6_254 ⟨Nat.le_of_ble_eq_true rfl, Nat.le_of_ble_eq_true rfl⟩ rfl hl.1 rfl (Nat.le_of_ble_eq_true rfl) ⟨Nat.le_of_ble_eq_true rfl, Nat.le_of_ble_eq_true rfl⟩ dX6_rain_54 (fun r14 h13 H locs hH hw => ?_)
            exact hv_lret hx hb hr hlk hH hw dX6_rain_57
          · have hw := ite_f hw c12
            refine lv_iload hx hb dX6_rain_44 (lv_at hl 4 rfl) ?_
            refine lv_bipush (v := (nI 20)) hx hb dX6_rain_46 (by decide) ?_
            refine lv_icmp_le (tgt := 58) hx hb dX6_rain_48 (by decide) (fun c15 => ?_) (fun c15 => ?_)
            · have hw := ite_t hw c15
              refine lv_iload hx hb dX6_rain_58 (lv_at hl 5 rfl) ?_
              refine lv_if_lt (tgt := 69) hx hb dX6_rain_60 (by decide) (fun c16 => ?_) (fun c16 => ?_)
              · have hw := ite_t hw c16
                refine lv_aload_n hx hb dX6_rain_69 rfl (lv_at hl 0 rfl) ?_
                refine lv_bipush (v := (-2)) hx hb dX6_rain_70 (by decide) ?_
                refine hv_cVL (rm := rm_X6_refuseLong) (As := [.int (-2)]) (rest := []) (k := 1) (ci := 6) hx hb hml hown hKK hH cf6 k1 (m_X6_refuseLong v0 (-2) _ _ hw) cw_X6_254 ⟨Nat.le_of_ble_eq_true rfl, Nat.le_of_ble_eq_true rfl⟩ rfl hl.1 rfl (Nat.le_of_ble_eq_true rfl) ⟨Nat.le_of_ble_eq_true rfl, Nat.le_of_ble_eq_true rfl⟩ dX6_rain_72 (fun r18 h17 H locs hH hw => ?_)
                exact hv_lret hx hb hr hlk hH hw dX6_rain_75
              · have hw := ite_f hw c16
                refine lv_iload hx hb dX6_rain_63 (lv_at hl 5 rfl) ?_
                refine lv_iconst (v := (nI 1)) hx hb dX6_rain_65 (by decide) ?_
                refine lv_icmp_le (tgt := 76) hx hb dX6_rain_66 (by decide) (fun c19 => ?_) (fun c19 => ?_)
                · have hw := ite_t hw c19
                  refine lv_lconst (v := (lN 1)) hx hb dX6_rain_76 rfl ?_
                  refine lv_lstore (lv' := [(6, .long (lN 1)), (0, .ref v0), (1, .int v1), (2, .int v2), (3, .int v3), (4, .int v4), (5, .int v5)]) hx hb dX6_rain_77 hl (by decide) rfl (fun ls hl => ?_)
                  refine lv_iconst (v := (nI 0)) hx hb dX6_rain_79 (by decide) ?_
                  refine lv_istore (lv' := [(8, .int (nI 0)), (6, .long (lN 1)), (0, .ref v0), (1, .int v1), (2, .int v2), (3, .int v3), (4, .int v4), (5, .int v5)]) hx hb dX6_rain_80 hl (by decide) rfl (fun ls hl => ?_)
                  exact c82 _ _ _ _ _ _ _ _ _ H locs ls hH (lv_sub hl [2, 3, 4, 5, 6, 7, 1, 0] rfl) hw
                · have hw := ite_f hw c19
                  refine lv_aload_n hx hb dX6_rain_69 rfl (lv_at hl 0 rfl) ?_
                  refine lv_bipush (v := (-2)) hx hb dX6_rain_70 (by decide) ?_
                  refine hv_cVL (rm := rm_X6_refuseLong) (As := [.int (-2)]) (rest := []) (k := 1) (ci := 6) hx hb hml hown hKK hH cf6 k1 (m_X6_refuseLong v0 (-2) _ _ hw) cw_X6_254 ⟨Nat.le_of_ble_eq_true rfl, Nat.le_of_ble_eq_true rfl⟩ rfl hl.1 rfl (Nat.le_of_ble_eq_true rfl) ⟨Nat.le_of_ble_eq_true rfl, Nat.le_of_ble_eq_true rfl⟩ dX6_rain_72 (fun r21 h20 H locs hH hw => ?_)
                  exact hv_lret hx hb hr hlk hH hw dX6_rain_75
            · have hw := ite_f hw c15
              refine lv_aload_n hx hb dX6_rain_51 rfl (lv_at hl 0 rfl) ?_
              refine lv_bipush (v := (-6)) hx hb dX6_rain_52 (by decide) ?_
              refine hv_cVL (rm := rm_X6_refuseLong) (As := [.int (-6)]) (rest := []) (k := 1) (ci := 6) hx hb hml hown hKK hH cf6 k1 (m_X6_refuseLong v0 (-6) _ _ hw) cw_X6_254 ⟨Nat.le_of_ble_eq_true rfl, Nat.le_of_ble_eq_true rfl⟩ rfl hl.1 rfl (Nat.le_of_ble_eq_true rfl) ⟨Nat.le_of_ble_eq_true rfl, Nat.le_of_ble_eq_true rfl⟩ dX6_rain_54 (fun r23 h22 H locs hH hw => ?_)
              exact hv_lret hx hb hr hlk hH hw dX6_rain_57
        · have hw := ite_f hw c11
          refine lv_aload_n hx hb dX6_rain_31 rfl (lv_at hl 0 rfl) ?_
          refine lv_bipush (v := (-4)) hx hb dX6_rain_32 (by decide) ?_
          refine hv_cVL (rm := rm_X6_refuseLong) (As := [.int (-4)]) (rest := []) (k := 1) (ci := 6) hx hb hml hown hKK hH cf6 k1 (m_X6_refuseLong v0 (-4) _ _ hw) cw_X6_254 ⟨Nat.le_of_ble_eq_true rfl, Nat.le_of_ble_eq_true rfl⟩ rfl hl.1 rfl (Nat.le_of_ble_eq_true rfl) ⟨Nat.le_of_ble_eq_true rfl, Nat.le_of_ble_eq_true rfl⟩ dX6_rain_34 (fun r25 h24 H locs hH hw => ?_)
          exact hv_lret hx hb hr hlk hH hw dX6_rain_37
    · have hw := ite_f hw c7
      refine lv_aload_n hx hb dX6_rain_15 rfl (lv_at hl 0 rfl) ?_
      refine lv_iconst (v := (-1)) hx hb dX6_rain_16 (by decide) ?_
      refine hv_cVL (rm := rm_X6_refuseLong) (As := [.int (-1)]) (rest := []) (k := 1) (ci := 6) hx hb hml hown hKK hH cf6 k1 (m_X6_refuseLong v0 (-1) _ _ hw) cw_X6_254 ⟨Nat.le_of_ble_eq_true rfl, Nat.le_of_ble_eq_true rfl⟩ rfl hl.1 rfl (Nat.le_of_ble_eq_true rfl) ⟨Nat.le_of_ble_eq_true rfl, Nat.le_of_ble_eq_true rfl⟩ dX6_rain_17 (fun r27 h26 H locs hH hw => ?_)
      exact hv_lret hx hb hr hlk hH hw dX6_rain_20
abbrev rm_X6_like : Room := { frames := 2, cells := 0, slots := 0, locals := 45 }
set_option maxHeartbeats 4000000 in
set_option maxRecDepth 100000 in
theorem m_X6_like {l : Launch} {G : Gl} {B sz : Nat} {S : St} (v0 : Nat) (v1 : Int32) (v2 : Int32) (v3 : Int32) (h : Hp) (Q : Int32 → Hp → Prop) (hw : w_X6_like S v0 v1 v2 v3 h Q) : MI l G B sz S yX6_like cX6_like 6 .int rm_X6_like [.ref v0, .int v1, .int v2, .int v3] h Q := by
  refine met_of rfl rfl ?_
  intro p e s m args below meth c hMB H ls hH hl
  obtain ⟨hx, hb, hml, hown, hKK, hr, hlk⟩ := hMB
  replace hl : lv_has ls 6 [(0, .ref v0), (1, .int v1), (2, .int v2), (3, .int v3)] := hl
  unfold w_X6_like at hw
  show W p l e rm_X6_like s m args below meth c H [] 0 0 (QI G B S sz below args s Q) (F0 m 0 ls [])
  generalize ([] : List Loc) = locs at hH ⊢
  refine lv_aload_n hx hb dX6_like_0 rfl (lv_at hl 0 rfl) ?_
  refine lv_iload_n hx hb dX6_like_1 rfl (lv_at hl 1 rfl) ?_
  refine lv_iload_n hx hb dX6_like_2 rfl (lv_at hl 2 rfl) ?_
  obtain ⟨k1, hw⟩ := hw
  refine hv_cVI (rm := rm_X6_noPair) (As := [.int v1, .int v2]) (rest := []) (k := 2) (ci := 6) hx hb hml hown hKK hH cf6 k1 (m_X6_noPair v0 v1 v2 _ _ hw) cw_X6_223 ⟨Nat.le_of_ble_eq_true rfl, Nat.le_of_ble_eq_true rfl⟩ rfl hl.1 rfl (Nat.le_of_ble_eq_true rfl) ⟨Nat.le_of_ble_eq_true rfl, Nat.le_of_ble_eq_true rfl⟩ dX6_like_3 (fun r3 h2 H locs hH hw => ?_)
  refine lv_if_eq (tgt := 15) hx hb dX6_like_6 (by decide) (fun c4 => ?_) (fun c4 => ?_)
  · have hw := ite_t hw c4
    refine lv_aload_n hx hb dX6_like_15 rfl (lv_at hl 0 rfl) ?_
    refine hv_get (ci := 6) (k := 0) (v := .ref (S.2 v0 0)) hx hb hown hKK hH cf6 (by decide) fl_X6_10 rfl k1 rfl dX6_like_16 ?_
    obtain ⟨k5, hw⟩ := hw
    refine hv_getN (ci := 1) (k := 3) (v := .ref (S.2 (S.2 v0 0) 3)) hx hb hown hKK hH cf1 (by decide) fl_X6_105 rfl k5 rfl dX6_like_19 ?_
    refine lv_iload_n hx hb dX6_like_22 rfl (lv_at hl 1 rfl) ?_
    obtain ⟨k6, hw⟩ := hw
    refine hv_aald (t := 1) hx hb (by decide) hKK hH k6 dX6_like_23 ?_
    refine lv_astore (lv' := [(4, .ref (S.2 (S.2 (S.2 v0 0) 3) (ix v1))), (0, .ref v0), (1, .int v1), (2, .int v2), (3, .int v3)]) hx hb dX6_like_24 hl (by decide) rfl (fun ls hl => ?_)
    refine lv_aload_n hx hb dX6_like_26 rfl (lv_at hl 1 rfl) ?_
    refine hv_get (ci := 6) (k := 0) (v := .ref (S.2 v0 0)) hx hb hown hKK hH cf6 (by decide) fl_X6_10 rfl k1 rfl dX6_like_27 ?_
    refine hv_getN (ci := 1) (k := 3) (v := .ref (S.2 (S.2 v0 0) 3)) hx hb hown hKK hH cf1 (by decide) fl_X6_105 rfl k5 rfl dX6_like_30 ?_
    refine lv_iload_n hx hb dX6_like_33 rfl (lv_at hl 3 rfl) ?_
    obtain ⟨k7, hw⟩ := hw
    refine hv_aald (t := 1) hx hb (by decide) hKK hH k7 dX6_like_34 ?_
    refine lv_astore (lv' := [(5, .ref (S.2 (S.2 (S.2 v0 0) 3) (ix v2))), (4, .ref (S.2 (S.2 (S.2 v0 0) 3) (ix v1))), (0, .ref v0), (1, .int v1), (2, .int v2), (3, .int v3)]) hx hb dX6_like_35 hl (by decide) rfl (fun ls hl => ?_)
    refine lv_iload_n hx hb dX6_like_37 rfl (lv_at hl 5 rfl) ?_
    by_cases c8 : v3 = (nI 0)
    · have hw := ite_t hw c8
      refine lv_tableIn (tgt := 64) hx hb dX6_like_38 (by rw [c8]; decide) (by rw [c8]; decide) (by rw [c8]; rfl) (by decide) ?_
      refine lv_aload hx hb dX6_like_64 (lv_at hl 1 rfl) ?_
      refine lv_aload hx hb dX6_like_66 (lv_at hl 0 rfl) ?_
      obtain ⟨k9, hw⟩ := hw
      refine hv_cVI (rm := rm_X0_placesAlike) (As := [.ref (S.2 (S.2 (S.2 v0 0) 3) (ix v2))]) (rest := []) (k := 1) (ci := 0) hx hb hml hown hKK hH cf0 k9 (m_X0_placesAlike (S.2 (S.2 (S.2 v0 0) 3) (ix v1)) (S.2 (S.2 (S.2 v0 0) 3) (ix v2)) _ _ hw) cw_X6_266 ⟨Nat.le_of_ble_eq_true rfl, Nat.le_of_ble_eq_true rfl⟩ rfl hl.1 rfl (Nat.le_of_ble_eq_true rfl) ⟨Nat.le_of_ble_eq_true rfl, Nat.le_of_ble_eq_true rfl⟩ dX6_like_68 (fun r11 h10 H locs hH hw => ?_)
      exact hv_iret hx hb hr hlk hH hw dX6_like_71
    have hw := ite_f hw c8
    by_cases c12 : v3 = (nI 1)
    · have hw := ite_t hw c12
      refine lv_tableIn (tgt := 72) hx hb dX6_like_38 (by rw [c12]; decide) (by rw [c12]; decide) (by rw [c12]; rfl) (by decide) ?_
      refine lv_aload hx hb dX6_like_72 (lv_at hl 1 rfl) ?_
      refine lv_aload hx hb dX6_like_74 (lv_at hl 0 rfl) ?_
      obtain ⟨k13, hw⟩ := hw
      refine hv_cVI (rm := rm_X0_lettersAlikeAhead) (As := [.ref (S.2 (S.2 (S.2 v0 0) 3) (ix v2))]) (rest := []) (k := 1) (ci := 0) hx hb hml hown hKK hH cf0 k13 (m_X0_lettersAlikeAhead (S.2 (S.2 (S.2 v0 0) 3) (ix v1)) (S.2 (S.2 (S.2 v0 0) 3) (ix v2)) _ _ hw) cw_X6_270 ⟨Nat.le_of_ble_eq_true rfl, Nat.le_of_ble_eq_true rfl⟩ rfl hl.1 rfl (Nat.le_of_ble_eq_true rfl) ⟨Nat.le_of_ble_eq_true rfl, Nat.le_of_ble_eq_true rfl⟩ dX6_like_76 (fun r15 h14 H locs hH hw => ?_)
      exact hv_iret hx hb hr hlk hH hw dX6_like_79
    have hw := ite_f hw c12
    by_cases c16 : v3 = (nI 2)
    · have hw := ite_t hw c16
      refine lv_tableIn (tgt := 80) hx hb dX6_like_38 (by rw [c16]; decide) (by rw [c16]; decide) (by rw [c16]; rfl) (by decide) ?_
      refine lv_aload hx hb dX6_like_80 (lv_at hl 1 rfl) ?_
      refine lv_aload hx hb dX6_like_82 (lv_at hl 0 rfl) ?_
      obtain ⟨k17, hw⟩ := hw
      refine hv_cVI (rm := rm_X0_lettersShared) (As := [.ref (S.2 (S.2 (S.2 v0 0) 3) (ix v2))]) (rest := []) (k := 1) (ci := 0) hx hb hml hown hKK hH cf0 k17 (m_X0_lettersShared (S.2 (S.2 (S.2 v0 0) 3) (ix v1)) (S.2 (S.2 (S.2 v0 0) 3) (ix v2)) _ _ hw) cw_X6_273 ⟨Nat.le_of_ble_eq_true rfl, Nat.le_of_ble_eq_true rfl⟩ rfl hl.1 rfl (Nat.le_of_ble_eq_true rfl) ⟨Nat.le_of_ble_eq_true rfl, Nat.le_of_ble_eq_true rfl⟩ dX6_like_84 (fun r19 h18 H locs hH hw => ?_)
      exact hv_iret hx hb hr hlk hH hw dX6_like_87
    have hw := ite_f hw c16
    refine lv_tableOut (tgt := 88) hx hb dX6_like_38 (by have := ne_toInt (k := 0) (by decide) c8; have := ne_toInt (k := 1) (by decide) c12; have := ne_toInt (k := 2) (by decide) c16; omega) (by decide) ?_
    refine lv_aload_n hx hb dX6_like_88 rfl (lv_at hl 2 rfl) ?_
    refine lv_bipush (v := (-2)) hx hb dX6_like_89 (by decide) ?_
    refine hv_cVI (rm := rm_X6_refuse) (As := [.int (-2)]) (rest := []) (k := 1) (ci := 6) hx hb hml hown hKK hH cf6 k1 (m_X6_refuse v0 (-2) _ _ hw) cw_X6_56 ⟨Nat.le_of_ble_eq_true rfl, Nat.le_of_ble_eq_true rfl⟩ rfl hl.1 rfl (Nat.le_of_ble_eq_true rfl) ⟨Nat.le_of_ble_eq_true rfl, Nat.le_of_ble_eq_true rfl⟩ dX6_like_91 (fun r21 h20 H locs hH hw => ?_)
    exact hv_iret hx hb hr hlk hH hw dX6_like_94
  · have hw := ite_f hw c4
    refine lv_aload_n hx hb dX6_like_9 rfl (lv_at hl 0 rfl) ?_
    refine lv_iconst (v := (-1)) hx hb dX6_like_10 (by decide) ?_
    refine hv_cVI (rm := rm_X6_refuse) (As := [.int (-1)]) (rest := []) (k := 1) (ci := 6) hx hb hml hown hKK hH cf6 k1 (m_X6_refuse v0 (-1) _ _ hw) cw_X6_56 ⟨Nat.le_of_ble_eq_true rfl, Nat.le_of_ble_eq_true rfl⟩ rfl hl.1 rfl (Nat.le_of_ble_eq_true rfl) ⟨Nat.le_of_ble_eq_true rfl, Nat.le_of_ble_eq_true rfl⟩ dX6_like_11 (fun r23 h22 H locs hH hw => ?_)
    exact hv_iret hx hb hr hlk hH hw dX6_like_14
abbrev rm_X6_rank : Room := { frames := 1, cells := 0, slots := 0, locals := 22 }
set_option maxHeartbeats 4000000 in
set_option maxRecDepth 100000 in
theorem m_X6_rank {l : Launch} {G : Gl} {B sz : Nat} {S : St} (v0 : Nat) (v1 : Int32) (h : Hp) (Q : Int32 → Hp → Prop) (hw : w_X6_rank S v0 v1 h Q) : MI l G B sz S yX6_rank cX6_rank 5 .int rm_X6_rank [.ref v0, .int v1] h Q := by
  refine met_of rfl rfl ?_
  intro p e s m args below meth c hMB H ls hH hl
  obtain ⟨hx, hb, hml, hown, hKK, hr, hlk⟩ := hMB
  replace hl : lv_has ls 5 [(0, .ref v0), (1, .int v1)] := hl
  have c18 : ∀  (v0 : Nat) (v1 : Int32) (v2 : Int32) (v3 : Int32) (h : Hp) (H : Heap) (locs : List Loc) (ls : Array Slot), HH G B S h sz s H locs → lv_has ls 5 [(0, .ref v0), (1, .int v1), (2, .int v2), (3, .int v3)] → w_X6_rank_c18 S v0 v1 v2 v3 h Q → W p l e rm_X6_rank s m args below meth c H locs 0 0 (QI G B S sz below args s Q) (F0 m 18 ls []) := by
    intro  v0 v1 v2 v3 h H locs ls hH hl hw
    unfold w_X6_rank_c18 at hw
    obtain ⟨P18, hP18⟩ : ∃ P : Int32 → Int32 → Hp → Prop, ∀ (v2 : Int32) (v3 : Int32) (h : Hp), P v2 v3 h ↔ (∀ (H : Heap) (locs : List Loc) (ls : Array Slot), HH G B S h sz s H locs → lv_has ls 5 [(0, .ref v0), (1, .int v1), (2, .int v2), (3, .int v3)] → W p l e rm_X6_rank s m args below meth c H locs 0 0 (QI G B S sz below args s Q) (F0 m 18 ls [])) := ⟨_, fun v2 v3 h => Iff.rfl⟩
    refine (hP18 v2 v3 h).1 (hw P18 (fun v2 v3 h hw => (hP18 v2 v3 h).2 (fun H locs ls hH hl => ?_))) H locs ls hH hl
    have hK18 : ∀ (v2 : Int32) (v3 : Int32) (h : Hp) (H : Heap) (locs : List Loc) (ls : Array Slot), HH G B S h sz s H locs → lv_has ls 5 [(0, .ref v0), (1, .int v1), (2, .int v2), (3, .int v3)] → P18 v2 v3 h → W p l e rm_X6_rank s m args below meth c H locs 0 0 (QI G B S sz below args s Q) (F0 m 18 ls []) := fun v2 v3 h H locs ls hH hl hk => (hP18 v2 v3 h).1 hk H locs ls hH hl
    refine lv_iload_n hx hb dX6_rank_18 rfl (lv_at hl 3 rfl) ?_
    refine lv_aload_n hx hb dX6_rank_19 rfl (lv_at hl 0 rfl) ?_
    obtain ⟨k1, hw⟩ := hw
    refine hv_get (ci := 6) (k := 0) (v := .ref (S.2 v0 0)) hx hb hown hKK hH cf6 (by decide) fl_X6_10 rfl k1 rfl dX6_rank_20 ?_
    obtain ⟨k2, hw⟩ := hw
    refine hv_getN (ci := 1) (k := 4) (v := .int (h (S.2 v0 0) 4)) hx hb hown hKK hH cf1 (by decide) fl_X6_60 rfl k2 rfl dX6_rank_23 ?_
    refine lv_icmp_ge (tgt := 76) hx hb dX6_rank_26 (by decide) (fun c3 => ?_) (fun c3 => ?_)
    · have hw := ite_t hw c3
      refine lv_iload_n hx hb dX6_rank_76 rfl (lv_at hl 2 rfl) ?_
      exact hv_iret hx hb hr hlk hH hw dX6_rank_77
    · have hw := ite_f hw c3
      refine lv_aload_n hx hb dX6_rank_29 rfl (lv_at hl 0 rfl) ?_
      refine hv_get (ci := 6) (k := 0) (v := .ref (S.2 v0 0)) hx hb hown hKK hH cf6 (by decide) fl_X6_10 rfl k1 rfl dX6_rank_30 ?_
      refine hv_getN (ci := 1) (k := 3) (v := .ref (S.2 (S.2 v0 0) 3)) hx hb hown hKK hH cf1 (by decide) fl_X6_105 rfl k2 rfl dX6_rank_33 ?_
      refine lv_iload_n hx hb dX6_rank_36 rfl (lv_at hl 3 rfl) ?_
      obtain ⟨k4, hw⟩ := hw
      refine hv_aald (t := 1) hx hb (by decide) hKK hH k4 dX6_rank_37 ?_
      refine lv_aload_n hx hb dX6_rank_38 rfl (lv_at hl 0 rfl) ?_
      refine hv_get (ci := 6) (k := 0) (v := .ref (S.2 v0 0)) hx hb hown hKK hH cf6 (by decide) fl_X6_10 rfl k1 rfl dX6_rank_39 ?_
      refine hv_getN (ci := 1) (k := 3) (v := .ref (S.2 (S.2 v0 0) 3)) hx hb hown hKK hH cf1 (by decide) fl_X6_105 rfl k2 rfl dX6_rank_42 ?_
      refine lv_iload_n hx hb dX6_rank_45 rfl (lv_at hl 1 rfl) ?_
      obtain ⟨k5, hw⟩ := hw
      refine hv_aald (t := 1) hx hb (by decide) hKK hH k5 dX6_rank_46 ?_
      obtain ⟨k6, hw⟩ := hw
      refine hv_cVI (rm := rm_X0_nameAgainst) (As := [.ref (S.2 (S.2 (S.2 v0 0) 3) (ix v1))]) (rest := []) (k := 1) (ci := 0) hx hb hml hown hKK hH cf0 k6 (m_X0_nameAgainst (S.2 (S.2 (S.2 v0 0) 3) (ix v3)) (S.2 (S.2 (S.2 v0 0) 3) (ix v1)) _ _ hw) cw_X6_276 ⟨Nat.le_of_ble_eq_true rfl, Nat.le_of_ble_eq_true rfl⟩ rfl hl.1 rfl (Nat.le_of_ble_eq_true rfl) ⟨Nat.le_of_ble_eq_true rfl, Nat.le_of_ble_eq_true rfl⟩ dX6_rank_47 (fun r8 h7 H locs hH hw => ?_)
      refine lv_istore (lv' := [(4, .int r8), (0, .ref v0), (1, .int v1), (2, .int v2), (3, .int v3)]) hx hb dX6_rank_50 hl (by decide) rfl (fun ls hl => ?_)
      refine lv_iload hx hb dX6_rank_52 (lv_at hl 0 rfl) ?_
      refine lv_if_lt (tgt := 67) hx hb dX6_rank_54 (by decide) (fun c9 => ?_) (fun c9 => ?_)
      · have hw := ite_t hw c9
        refine lv_iinc (v := v2 + (nI 1)) (lv' := [(2, .int (v2 + (nI 1))), (4, .int r8), (0, .ref v0), (1, .int v1), (3, .int v3)]) hx hb dX6_rank_67 hl (k := 3) rfl rfl (by decide) rfl (fun ls hl => ?_)
        refine lv_iinc (v := v3 + (nI 1)) (lv' := [(3, .int (v3 + (nI 1))), (2, .int (v2 + (nI 1))), (4, .int r8), (0, .ref v0), (1, .int v1)]) hx hb dX6_rank_70 hl (k := 4) rfl rfl (by decide) rfl (fun ls hl => ?_)
        refine lv_goto (tgt := 18) hx hb dX6_rank_73 (by decide) ?_
        exact hK18 _ _ _ H locs ls hH (lv_sub hl [3, 4, 1, 0] rfl) hw
      · have hw := ite_f hw c9
        refine lv_iload hx hb dX6_rank_57 (lv_at hl 0 rfl) ?_
        refine lv_if_ne (tgt := 70) hx hb dX6_rank_59 (by decide) (fun c10 => ?_) (fun c10 => ?_)
        · have hw := ite_f hw c10
          refine lv_iinc (v := v3 + (nI 1)) (lv' := [(3, .int (v3 + (nI 1))), (4, .int r8), (0, .ref v0), (1, .int v1), (2, .int v2)]) hx hb dX6_rank_70 hl (k := 4) rfl rfl (by decide) rfl (fun ls hl => ?_)
          refine lv_goto (tgt := 18) hx hb dX6_rank_73 (by decide) ?_
          exact hK18 _ _ _ H locs ls hH (lv_sub hl [2, 3, 4, 0] rfl) hw
        · have hw := ite_t hw c10
          refine lv_iload_n hx hb dX6_rank_62 rfl (lv_at hl 4 rfl) ?_
          refine lv_iload_n hx hb dX6_rank_63 rfl (lv_at hl 2 rfl) ?_
          refine lv_icmp_ge (tgt := 70) hx hb dX6_rank_64 (by decide) (fun c11 => ?_) (fun c11 => ?_)
          · have hw := ite_t hw c11
            refine lv_iinc (v := v3 + (nI 1)) (lv' := [(3, .int (v3 + (nI 1))), (4, .int r8), (0, .ref v0), (1, .int v1), (2, .int v2)]) hx hb dX6_rank_70 hl (k := 4) rfl rfl (by decide) rfl (fun ls hl => ?_)
            refine lv_goto (tgt := 18) hx hb dX6_rank_73 (by decide) ?_
            exact hK18 _ _ _ H locs ls hH (lv_sub hl [2, 3, 4, 0] rfl) hw
          · have hw := ite_f hw c11
            refine lv_iinc (v := v2 + (nI 1)) (lv' := [(2, .int (v2 + (nI 1))), (4, .int r8), (0, .ref v0), (1, .int v1), (3, .int v3)]) hx hb dX6_rank_67 hl (k := 3) rfl rfl (by decide) rfl (fun ls hl => ?_)
            refine lv_iinc (v := v3 + (nI 1)) (lv' := [(3, .int (v3 + (nI 1))), (2, .int (v2 + (nI 1))), (4, .int r8), (0, .ref v0), (1, .int v1)]) hx hb dX6_rank_70 hl (k := 4) rfl rfl (by decide) rfl (fun ls hl => ?_)
            refine lv_goto (tgt := 18) hx hb dX6_rank_73 (by decide) ?_
            exact hK18 _ _ _ H locs ls hH (lv_sub hl [3, 4, 1, 0] rfl) hw
  unfold w_X6_rank at hw
  show W p l e rm_X6_rank s m args below meth c H [] 0 0 (QI G B S sz below args s Q) (F0 m 0 ls [])
  generalize ([] : List Loc) = locs at hH ⊢
  refine lv_aload_n hx hb dX6_rank_0 rfl (lv_at hl 0 rfl) ?_
  refine lv_iload_n hx hb dX6_rank_1 rfl (lv_at hl 1 rfl) ?_
  obtain ⟨k1, hw⟩ := hw
  refine hv_cVI (rm := rm_X6_noHead) (As := [.int v1]) (rest := []) (k := 1) (ci := 6) hx hb hml hown hKK hH cf6 k1 (m_X6_noHead v0 v1 _ _ hw) cw_X6_64 ⟨Nat.le_of_ble_eq_true rfl, Nat.le_of_ble_eq_true rfl⟩ rfl hl.1 rfl (Nat.le_of_ble_eq_true rfl) ⟨Nat.le_of_ble_eq_true rfl, Nat.le_of_ble_eq_true rfl⟩ dX6_rank_2 (fun r3 h2 H locs hH hw => ?_)
  refine lv_if_eq (tgt := 14) hx hb dX6_rank_5 (by decide) (fun c4 => ?_) (fun c4 => ?_)
  · have hw := ite_t hw c4
    refine lv_iconst (v := (nI 0)) hx hb dX6_rank_14 (by decide) ?_
    refine lv_istore_n (lv' := [(2, .int (nI 0)), (0, .ref v0), (1, .int v1)]) hx hb dX6_rank_15 rfl hl (by decide) rfl (fun ls hl => ?_)
    refine lv_iconst (v := (nI 0)) hx hb dX6_rank_16 (by decide) ?_
    refine lv_istore_n (lv' := [(3, .int (nI 0)), (2, .int (nI 0)), (0, .ref v0), (1, .int v1)]) hx hb dX6_rank_17 rfl hl (by decide) rfl (fun ls hl => ?_)
    exact c18 _ _ _ _ _ H locs ls hH (lv_sub hl [2, 3, 1, 0] rfl) hw
  · have hw := ite_f hw c4
    refine lv_aload_n hx hb dX6_rank_8 rfl (lv_at hl 0 rfl) ?_
    refine lv_iconst (v := (-1)) hx hb dX6_rank_9 (by decide) ?_
    refine hv_cVI (rm := rm_X6_refuse) (As := [.int (-1)]) (rest := []) (k := 1) (ci := 6) hx hb hml hown hKK hH cf6 k1 (m_X6_refuse v0 (-1) _ _ hw) cw_X6_56 ⟨Nat.le_of_ble_eq_true rfl, Nat.le_of_ble_eq_true rfl⟩ rfl hl.1 rfl (Nat.le_of_ble_eq_true rfl) ⟨Nat.le_of_ble_eq_true rfl, Nat.le_of_ble_eq_true rfl⟩ dX6_rank_10 (fun r6 h5 H locs hH hw => ?_)
    exact hv_iret hx hb hr hlk hH hw dX6_rank_13
abbrev rm_X6_power : Room := { frames := 2, cells := 0, slots := 0, locals := 43 }
set_option maxHeartbeats 4000000 in
set_option maxRecDepth 100000 in
theorem m_X6_power {l : Launch} {G : Gl} {B sz : Nat} {S : St} (v0 : Nat) (v1 : Int32) (h : Hp) (Q : Int32 → Hp → Prop) (hw : w_X6_power S v0 v1 h Q) : MI l G B sz S yX6_power cX6_power 7 .int rm_X6_power [.ref v0, .int v1] h Q := by
  refine met_of rfl rfl ?_
  intro p e s m args below meth c hMB H ls hH hl
  obtain ⟨hx, hb, hml, hown, hKK, hr, hlk⟩ := hMB
  replace hl : lv_has ls 7 [(0, .ref v0), (1, .int v1)] := hl
  have c41 : ∀  (v0 : Nat) (v1 : Int32) (v2 : Int32) (v3 : Int32) (v4 : Int32) (v5 : Int32) (h : Hp) (H : Heap) (locs : List Loc) (ls : Array Slot), HH G B S h sz s H locs → lv_has ls 7 [(0, .ref v0), (1, .int v1), (2, .int v2), (3, .int v3), (4, .int v4), (5, .int v5)] → w_X6_power_c41 S v0 v1 v2 v3 v4 v5 h Q → W p l e rm_X6_power s m args below meth c H locs 0 0 (QI G B S sz below args s Q) (F0 m 41 ls []) := by
    intro  v0 v1 v2 v3 v4 v5 h H locs ls hH hl hw
    unfold w_X6_power_c41 at hw
    obtain ⟨P41, hP41⟩ : ∃ P : Int32 → Int32 → Hp → Prop, ∀ (v4 : Int32) (v5 : Int32) (h : Hp), P v4 v5 h ↔ (∀ (H : Heap) (locs : List Loc) (ls : Array Slot), HH G B S h sz s H locs → lv_has ls 7 [(0, .ref v0), (1, .int v1), (2, .int v2), (3, .int v3), (4, .int v4), (5, .int v5)] → W p l e rm_X6_power s m args below meth c H locs 0 0 (QI G B S sz below args s Q) (F0 m 41 ls [])) := ⟨_, fun v4 v5 h => Iff.rfl⟩
    refine (hP41 v4 v5 h).1 (hw P41 (fun v4 v5 h hw => (hP41 v4 v5 h).2 (fun H locs ls hH hl => ?_))) H locs ls hH hl
    have hK41 : ∀ (v4 : Int32) (v5 : Int32) (h : Hp) (H : Heap) (locs : List Loc) (ls : Array Slot), HH G B S h sz s H locs → lv_has ls 7 [(0, .ref v0), (1, .int v1), (2, .int v2), (3, .int v3), (4, .int v4), (5, .int v5)] → P41 v4 v5 h → W p l e rm_X6_power s m args below meth c H locs 0 0 (QI G B S sz below args s Q) (F0 m 41 ls []) := fun v4 v5 h H locs ls hH hl hk => (hP41 v4 v5 h).1 hk H locs ls hH hl
    refine lv_iload hx hb dX6_power_41 (lv_at hl 5 rfl) ?_
    refine lv_iconst (v := (nI 1)) hx hb dX6_power_43 (by decide) ?_
    refine lv_aload_n hx hb dX6_power_44 rfl (lv_at hl 0 rfl) ?_
    obtain ⟨k1, hw⟩ := hw
    refine hv_get (ci := 6) (k := 0) (v := .ref (S.2 v0 0)) hx hb hown hKK hH cf6 (by decide) fl_X6_10 rfl k1 rfl dX6_power_45 ?_
    obtain ⟨k2, hw⟩ := hw
    refine hv_getN (ci := 1) (k := 4) (v := .int (h (S.2 v0 0) 4)) hx hb hown hKK hH cf1 (by decide) fl_X6_60 rfl k2 rfl dX6_power_48 ?_
    refine lv_ishl hx hb dX6_power_51 ?_
    refine lv_icmp_ge (tgt := 102) hx hb dX6_power_52 (by decide) (fun c3 => ?_) (fun c3 => ?_)
    · have hw := ite_t hw c3
      refine lv_iload hx hb dX6_power_102 (lv_at hl 4 rfl) ?_
      exact hv_iret hx hb hr hlk hH hw dX6_power_104
    · have hw := ite_f hw c3
      refine lv_iload hx hb dX6_power_55 (lv_at hl 5 rfl) ?_
      refine lv_iload_n hx hb dX6_power_57 rfl (lv_at hl 1 rfl) ?_
      refine lv_ishr hx hb dX6_power_58 ?_
      refine lv_iconst (v := (nI 1)) hx hb dX6_power_59 (by decide) ?_
      refine lv_iand hx hb dX6_power_60 ?_
      refine lv_if_ne (tgt := 96) hx hb dX6_power_61 (by decide) (fun c4 => ?_) (fun c4 => ?_)
      · have hw := ite_f hw c4
        refine lv_iinc (v := v5 + (nI 1)) (lv' := [(5, .int (v5 + (nI 1))), (0, .ref v0), (1, .int v1), (2, .int v2), (3, .int v3), (4, .int v4)]) hx hb dX6_power_96 hl (k := 5) rfl rfl (by decide) rfl (fun ls hl => ?_)
        refine lv_goto (tgt := 41) hx hb dX6_power_99 (by decide) ?_
        exact hK41 _ _ _ H locs ls hH (lv_sub hl [1, 2, 3, 4, 5, 0] rfl) hw
      · have hw := ite_t hw c4
        refine lv_aload_n hx hb dX6_power_64 rfl (lv_at hl 0 rfl) ?_
        refine hv_get (ci := 6) (k := 0) (v := .ref (S.2 v0 0)) hx hb hown hKK hH cf6 (by decide) fl_X6_10 rfl k1 rfl dX6_power_65 ?_
        refine lv_iload hx hb dX6_power_68 (lv_at hl 5 rfl) ?_
        refine hv_cVI (rm := rm_X1_followersOf) (As := [.int v5]) (rest := []) (k := 1) (ci := 1) hx hb hml hown hKK hH cf1 k2 (m_X1_followersOf (S.2 v0 0) v5 _ _ hw) cw_X6_295 ⟨Nat.le_of_ble_eq_true rfl, Nat.le_of_ble_eq_true rfl⟩ rfl hl.1 rfl (Nat.le_of_ble_eq_true rfl) ⟨Nat.le_of_ble_eq_true rfl, Nat.le_of_ble_eq_true rfl⟩ dX6_power_70 (fun r6 h5 H locs hH hw => ?_)
        refine lv_istore (lv' := [(6, .int r6), (0, .ref v0), (1, .int v1), (2, .int v2), (3, .int v3), (4, .int v4), (5, .int v5)]) hx hb dX6_power_73 hl (by decide) rfl (fun ls hl => ?_)
        refine lv_iconst (v := (nI 2)) hx hb dX6_power_75 (by decide) ?_
        refine lv_iload hx hb dX6_power_76 (lv_at hl 0 rfl) ?_
        refine lv_imul hx hb dX6_power_78 ?_
        refine lv_iload_n hx hb dX6_power_79 rfl (lv_at hl 3 rfl) ?_
        refine lv_icmp_gt (tgt := 96) hx hb dX6_power_80 (by decide) (fun c7 => ?_) (fun c7 => ?_)
        · have hw := ite_t hw c7
          refine lv_iinc (v := v5 + (nI 1)) (lv' := [(5, .int (v5 + (nI 1))), (6, .int r6), (0, .ref v0), (1, .int v1), (2, .int v2), (3, .int v3), (4, .int v4)]) hx hb dX6_power_96 hl (k := 6) rfl rfl (by decide) rfl (fun ls hl => ?_)
          refine lv_goto (tgt := 41) hx hb dX6_power_99 (by decide) ?_
          exact hK41 _ _ _ H locs ls hH (lv_sub hl [2, 3, 4, 5, 6, 0] rfl) hw
        · have hw := ite_f hw c7
          refine lv_iconst (v := (nI 2)) hx hb dX6_power_83 (by decide) ?_
          refine lv_iload hx hb dX6_power_84 (lv_at hl 0 rfl) ?_
          refine lv_iload_n hx hb dX6_power_86 rfl (lv_at hl 4 rfl) ?_
          refine lv_iadd hx hb dX6_power_87 ?_
          refine lv_imul hx hb dX6_power_88 ?_
          refine lv_iload_n hx hb dX6_power_89 rfl (lv_at hl 3 rfl) ?_
          refine lv_icmp_le (tgt := 96) hx hb dX6_power_90 (by decide) (fun c8 => ?_) (fun c8 => ?_)
          · have hw := ite_t hw c8
            refine lv_iinc (v := v5 + (nI 1)) (lv' := [(5, .int (v5 + (nI 1))), (6, .int r6), (0, .ref v0), (1, .int v1), (2, .int v2), (3, .int v3), (4, .int v4)]) hx hb dX6_power_96 hl (k := 6) rfl rfl (by decide) rfl (fun ls hl => ?_)
            refine lv_goto (tgt := 41) hx hb dX6_power_99 (by decide) ?_
            exact hK41 _ _ _ H locs ls hH (lv_sub hl [2, 3, 4, 5, 6, 0] rfl) hw
          · have hw := ite_f hw c8
            refine lv_iinc (v := v4 + (nI 1)) (lv' := [(4, .int (v4 + (nI 1))), (6, .int r6), (0, .ref v0), (1, .int v1), (2, .int v2), (3, .int v3), (5, .int v5)]) hx hb dX6_power_93 hl (k := 5) rfl rfl (by decide) rfl (fun ls hl => ?_)
            refine lv_iinc (v := v5 + (nI 1)) (lv' := [(5, .int (v5 + (nI 1))), (4, .int (v4 + (nI 1))), (6, .int r6), (0, .ref v0), (1, .int v1), (2, .int v2), (3, .int v3)]) hx hb dX6_power_96 hl (k := 6) rfl rfl (by decide) rfl (fun ls hl => ?_)
            refine lv_goto (tgt := 41) hx hb dX6_power_99 (by decide) ?_
            exact hK41 _ _ _ H locs ls hH (lv_sub hl [3, 4, 5, 6, 1, 0] rfl) hw
  unfold w_X6_power at hw
  show W p l e rm_X6_power s m args below meth c H [] 0 0 (QI G B S sz below args s Q) (F0 m 0 ls [])
  generalize ([] : List Loc) = locs at hH ⊢
  refine lv_aload_n hx hb dX6_power_0 rfl (lv_at hl 0 rfl) ?_
  refine lv_iload_n hx hb dX6_power_1 rfl (lv_at hl 1 rfl) ?_
  obtain ⟨k1, hw⟩ := hw
  refine hv_cVI (rm := rm_X6_noHead) (As := [.int v1]) (rest := []) (k := 1) (ci := 6) hx hb hml hown hKK hH cf6 k1 (m_X6_noHead v0 v1 _ _ hw) cw_X6_64 ⟨Nat.le_of_ble_eq_true rfl, Nat.le_of_ble_eq_true rfl⟩ rfl hl.1 rfl (Nat.le_of_ble_eq_true rfl) ⟨Nat.le_of_ble_eq_true rfl, Nat.le_of_ble_eq_true rfl⟩ dX6_power_2 (fun r3 h2 H locs hH hw => ?_)
  refine lv_if_eq (tgt := 14) hx hb dX6_power_5 (by decide) (fun c4 => ?_) (fun c4 => ?_)
  · have hw := ite_t hw c4
    refine lv_aload_n hx hb dX6_power_14 rfl (lv_at hl 0 rfl) ?_
    refine hv_get (ci := 6) (k := 0) (v := .ref (S.2 v0 0)) hx hb hown hKK hH cf6 (by decide) fl_X6_10 rfl k1 rfl dX6_power_15 ?_
    obtain ⟨k5, hw⟩ := hw
    refine hv_cVI (rm := rm_X1_allFollowers) (As := []) (rest := []) (k := 0) (ci := 1) hx hb hml hown hKK hH cf1 k5 (m_X1_allFollowers (S.2 v0 0) _ _ hw) cw_X6_292 ⟨Nat.le_of_ble_eq_true rfl, Nat.le_of_ble_eq_true rfl⟩ rfl hl.1 rfl (Nat.le_of_ble_eq_true rfl) ⟨Nat.le_of_ble_eq_true rfl, Nat.le_of_ble_eq_true rfl⟩ dX6_power_18 (fun r7 h6 H locs hH hw => ?_)
    refine lv_istore_n (lv' := [(2, .int r7), (0, .ref v0), (1, .int v1)]) hx hb dX6_power_21 rfl hl (by decide) rfl (fun ls hl => ?_)
    refine lv_aload_n hx hb dX6_power_22 rfl (lv_at hl 1 rfl) ?_
    refine hv_get (ci := 6) (k := 0) (v := .ref (S.2 v0 0)) hx hb hown hKK hH cf6 (by decide) fl_X6_10 rfl k1 rfl dX6_power_23 ?_
    refine hv_getN (ci := 1) (k := 3) (v := .ref (S.2 (S.2 v0 0) 3)) hx hb hown hKK hH cf1 (by decide) fl_X6_105 rfl k5 rfl dX6_power_26 ?_
    refine lv_iload_n hx hb dX6_power_29 rfl (lv_at hl 2 rfl) ?_
    obtain ⟨k8, hw⟩ := hw
    refine hv_aald (t := 1) hx hb (by decide) hKK hH k8 dX6_power_30 ?_
    obtain ⟨k9, hw⟩ := hw
    refine hv_getN (ci := 0) (k := 7) (v := .int (h6 (S.2 (S.2 (S.2 v0 0) 3) (ix v1)) 7)) hx hb hown hKK hH cf0 (by decide) fl_X6_126 rfl k9 rfl dX6_power_31 ?_
    refine lv_istore_n (lv' := [(3, .int (h6 (S.2 (S.2 (S.2 v0 0) 3) (ix v1)) 7)), (2, .int r7), (0, .ref v0), (1, .int v1)]) hx hb dX6_power_34 rfl hl (by decide) rfl (fun ls hl => ?_)
    refine lv_iconst (v := (nI 0)) hx hb dX6_power_35 (by decide) ?_
    refine lv_istore (lv' := [(4, .int (nI 0)), (3, .int (h6 (S.2 (S.2 (S.2 v0 0) 3) (ix v1)) 7)), (2, .int r7), (0, .ref v0), (1, .int v1)]) hx hb dX6_power_36 hl (by decide) rfl (fun ls hl => ?_)
    refine lv_iconst (v := (nI 0)) hx hb dX6_power_38 (by decide) ?_
    refine lv_istore (lv' := [(5, .int (nI 0)), (4, .int (nI 0)), (3, .int (h6 (S.2 (S.2 (S.2 v0 0) 3) (ix v1)) 7)), (2, .int r7), (0, .ref v0), (1, .int v1)]) hx hb dX6_power_39 hl (by decide) rfl (fun ls hl => ?_)
    exact c41 _ _ _ _ _ _ _ H locs ls hH (lv_sub hl [4, 5, 3, 2, 1, 0] rfl) hw
  · have hw := ite_f hw c4
    refine lv_aload_n hx hb dX6_power_8 rfl (lv_at hl 0 rfl) ?_
    refine lv_iconst (v := (-1)) hx hb dX6_power_9 (by decide) ?_
    refine hv_cVI (rm := rm_X6_refuse) (As := [.int (-1)]) (rest := []) (k := 1) (ci := 6) hx hb hml hown hKK hH cf6 k1 (m_X6_refuse v0 (-1) _ _ hw) cw_X6_56 ⟨Nat.le_of_ble_eq_true rfl, Nat.le_of_ble_eq_true rfl⟩ rfl hl.1 rfl (Nat.le_of_ble_eq_true rfl) ⟨Nat.le_of_ble_eq_true rfl, Nat.le_of_ble_eq_true rfl⟩ dX6_power_10 (fun r11 h10 H locs hH hw => ?_)
    exact hv_iret hx hb hr hlk hH hw dX6_power_13
abbrev rm_X6_share : Room := { frames := 2, cells := 0, slots := 0, locals := 43 }
set_option maxHeartbeats 4000000 in
set_option maxRecDepth 100000 in
theorem m_X6_share {l : Launch} {G : Gl} {B sz : Nat} {S : St} (v0 : Nat) (v1 : Int32) (v2 : Int32) (h : Hp) (Q : Int64 → Hp → Prop) (hw : w_X6_share S v0 v1 v2 h Q) : ML l G B sz S yX6_share cX6_share 3 rm_X6_share [.ref v0, .int v1, .int v2] h Q := by
  refine met_of rfl rfl ?_
  intro p e s m args below meth c hMB H ls hH hl
  obtain ⟨hx, hb, hml, hown, hKK, hr, hlk⟩ := hMB
  replace hl : lv_has ls 3 [(0, .ref v0), (1, .int v1), (2, .int v2)] := hl
  unfold w_X6_share at hw
  show W p l e rm_X6_share s m args below meth c H [] 0 0 (QL G B S sz below args s Q) (F0 m 0 ls [])
  generalize ([] : List Loc) = locs at hH ⊢
  refine lv_aload_n hx hb dX6_share_0 rfl (lv_at hl 0 rfl) ?_
  refine lv_iload_n hx hb dX6_share_1 rfl (lv_at hl 1 rfl) ?_
  obtain ⟨k1, hw⟩ := hw
  refine hv_cVI (rm := rm_X6_noHead) (As := [.int v1]) (rest := []) (k := 1) (ci := 6) hx hb hml hown hKK hH cf6 k1 (m_X6_noHead v0 v1 _ _ hw) cw_X6_64 ⟨Nat.le_of_ble_eq_true rfl, Nat.le_of_ble_eq_true rfl⟩ rfl hl.1 rfl (Nat.le_of_ble_eq_true rfl) ⟨Nat.le_of_ble_eq_true rfl, Nat.le_of_ble_eq_true rfl⟩ dX6_share_2 (fun r3 h2 H locs hH hw => ?_)
  refine lv_if_eq (tgt := 14) hx hb dX6_share_5 (by decide) (fun c4 => ?_) (fun c4 => ?_)
  · have hw := ite_t hw c4
    refine lv_iload_n hx hb dX6_share_14 rfl (lv_at hl 2 rfl) ?_
    refine lv_if_lt (tgt := 23) hx hb dX6_share_15 (by decide) (fun c5 => ?_) (fun c5 => ?_)
    · have hw := ite_t hw c5
      refine lv_aload_n hx hb dX6_share_23 rfl (lv_at hl 0 rfl) ?_
      refine lv_bipush (v := (-2)) hx hb dX6_share_24 (by decide) ?_
      refine hv_cVL (rm := rm_X6_refuseLong) (As := [.int (-2)]) (rest := []) (k := 1) (ci := 6) hx hb hml hown hKK hH cf6 k1 (m_X6_refuseLong v0 (-2) _ _ hw) cw_X6_254 ⟨Nat.le_of_ble_eq_true rfl, Nat.le_of_ble_eq_true rfl⟩ rfl hl.1 rfl (Nat.le_of_ble_eq_true rfl) ⟨Nat.le_of_ble_eq_true rfl, Nat.le_of_ble_eq_true rfl⟩ dX6_share_26 (fun r7 h6 H locs hH hw => ?_)
      exact hv_lret hx hb hr hlk hH hw dX6_share_29
    · have hw := ite_f hw c5
      refine lv_iload_n hx hb dX6_share_18 rfl (lv_at hl 2 rfl) ?_
      refine lv_iconst (v := (nI 1)) hx hb dX6_share_19 (by decide) ?_
      refine lv_icmp_le (tgt := 30) hx hb dX6_share_20 (by decide) (fun c8 => ?_) (fun c8 => ?_)
      · have hw := ite_t hw c8
        refine lv_aload_n hx hb dX6_share_30 rfl (lv_at hl 0 rfl) ?_
        refine hv_get (ci := 6) (k := 0) (v := .ref (S.2 v0 0)) hx hb hown hKK hH cf6 (by decide) fl_X6_10 rfl k1 rfl dX6_share_31 ?_
        obtain ⟨k9, hw⟩ := hw
        refine hv_getN (ci := 1) (k := 3) (v := .ref (S.2 (S.2 v0 0) 3)) hx hb hown hKK hH cf1 (by decide) fl_X6_105 rfl k9 rfl dX6_share_34 ?_
        refine lv_iload_n hx hb dX6_share_37 rfl (lv_at hl 1 rfl) ?_
        obtain ⟨k10, hw⟩ := hw
        refine hv_aald (t := 1) hx hb (by decide) hKK hH k10 dX6_share_38 ?_
        obtain ⟨k11, hw⟩ := hw
        refine hv_getN (ci := 0) (k := 7) (v := .int (h2 (S.2 (S.2 (S.2 v0 0) 3) (ix v1)) 7)) hx hb hown hKK hH cf0 (by decide) fl_X6_126 rfl k11 rfl dX6_share_39 ?_
        refine lv_i2l hx hb dX6_share_42 rfl ?_
        refine lv_aload_n hx hb dX6_share_43 rfl (lv_at hl 0 rfl) ?_
        refine hv_get (ci := 6) (k := 0) (v := .ref (S.2 v0 0)) hx hb hown hKK hH cf6 (by decide) fl_X6_10 rfl k1 rfl dX6_share_44 ?_
        refine hv_cVI (rm := rm_X1_allFollowers) (As := []) (rest := [.long ((h2 (S.2 (S.2 (S.2 v0 0) 3) (ix v1)) 7).toInt64)]) (k := 0) (ci := 1) hx hb hml hown hKK hH cf1 k9 (m_X1_allFollowers (S.2 v0 0) _ _ hw) cw_X6_292 ⟨Nat.le_of_ble_eq_true rfl, Nat.le_of_ble_eq_true rfl⟩ rfl hl.1 rfl (Nat.le_of_ble_eq_true rfl) ⟨Nat.le_of_ble_eq_true rfl, Nat.le_of_ble_eq_true rfl⟩ dX6_share_47 (fun r13 h12 H locs hH hw => ?_)
        refine lv_i2l hx hb dX6_share_50 rfl ?_
        refine lv_iload_n hx hb dX6_share_51 rfl (lv_at hl 2 rfl) ?_
        refine hv_cSL (rm := rm_X6_inLowestTerms) (As := [.long ((h2 (S.2 (S.2 (S.2 v0 0) 3) (ix v1)) 7).toInt64), .long (r13.toInt64), .int v2]) (rest := []) (k := 3) hx hb hml hown hKK hH (m_X6_inLowestTerms ((h2 (S.2 (S.2 (S.2 v0 0) 3) (ix v1)) 7).toInt64) (r13.toInt64) v2 _ _ hw) cw_X6_262 ⟨Nat.le_of_ble_eq_true rfl, Nat.le_of_ble_eq_true rfl⟩ rfl hl.1 rfl (Nat.le_of_ble_eq_true rfl) ⟨Nat.le_of_ble_eq_true rfl, Nat.le_of_ble_eq_true rfl⟩ dX6_share_52 (fun r15 h14 H locs hH hw => ?_)
        exact hv_lret hx hb hr hlk hH hw dX6_share_55
      · have hw := ite_f hw c8
        refine lv_aload_n hx hb dX6_share_23 rfl (lv_at hl 0 rfl) ?_
        refine lv_bipush (v := (-2)) hx hb dX6_share_24 (by decide) ?_
        refine hv_cVL (rm := rm_X6_refuseLong) (As := [.int (-2)]) (rest := []) (k := 1) (ci := 6) hx hb hml hown hKK hH cf6 k1 (m_X6_refuseLong v0 (-2) _ _ hw) cw_X6_254 ⟨Nat.le_of_ble_eq_true rfl, Nat.le_of_ble_eq_true rfl⟩ rfl hl.1 rfl (Nat.le_of_ble_eq_true rfl) ⟨Nat.le_of_ble_eq_true rfl, Nat.le_of_ble_eq_true rfl⟩ dX6_share_26 (fun r17 h16 H locs hH hw => ?_)
        exact hv_lret hx hb hr hlk hH hw dX6_share_29
  · have hw := ite_f hw c4
    refine lv_aload_n hx hb dX6_share_8 rfl (lv_at hl 0 rfl) ?_
    refine lv_iconst (v := (-1)) hx hb dX6_share_9 (by decide) ?_
    refine hv_cVL (rm := rm_X6_refuseLong) (As := [.int (-1)]) (rest := []) (k := 1) (ci := 6) hx hb hml hown hKK hH cf6 k1 (m_X6_refuseLong v0 (-1) _ _ hw) cw_X6_254 ⟨Nat.le_of_ble_eq_true rfl, Nat.le_of_ble_eq_true rfl⟩ rfl hl.1 rfl (Nat.le_of_ble_eq_true rfl) ⟨Nat.le_of_ble_eq_true rfl, Nat.le_of_ble_eq_true rfl⟩ dX6_share_10 (fun r19 h18 H locs hH hw => ?_)
    exact hv_lret hx hb hr hlk hH hw dX6_share_13
abbrev rm_X6_nearest : Room := { frames := 2, cells := 0, slots := 0, locals := 44 }
set_option maxHeartbeats 4000000 in
set_option maxRecDepth 100000 in
theorem m_X6_nearest {l : Launch} {G : Gl} {B sz : Nat} {S : St} (v0 : Nat) (v1 : Int32) (v2 : Int32) (h : Hp) (Q : Int32 → Hp → Prop) (hw : w_X6_nearest S v0 v1 v2 h Q) : MI l G B sz S yX6_nearest cX6_nearest 7 .int rm_X6_nearest [.ref v0, .int v1, .int v2] h Q := by
  refine met_of rfl rfl ?_
  intro p e s m args below meth c hMB H ls hH hl
  obtain ⟨hx, hb, hml, hown, hKK, hr, hlk⟩ := hMB
  replace hl : lv_has ls 7 [(0, .ref v0), (1, .int v1), (2, .int v2)] := hl
  have c39 : ∀  (v0 : Nat) (v1 : Int32) (v2 : Int32) (v3 : Int32) (v4 : Int32) (v5 : Int32) (h : Hp) (H : Heap) (locs : List Loc) (ls : Array Slot), HH G B S h sz s H locs → lv_has ls 7 [(0, .ref v0), (1, .int v1), (2, .int v2), (3, .int v3), (4, .int v4), (5, .int v5)] → w_X6_nearest_c39 S v0 v1 v2 v3 v4 v5 h Q → W p l e rm_X6_nearest s m args below meth c H locs 0 0 (QI G B S sz below args s Q) (F0 m 39 ls []) := by
    intro  v0 v1 v2 v3 v4 v5 h H locs ls hH hl hw
    unfold w_X6_nearest_c39 at hw
    obtain ⟨P39, hP39⟩ : ∃ P : Int32 → Int32 → Int32 → Hp → Prop, ∀ (v3 : Int32) (v4 : Int32) (v5 : Int32) (h : Hp), P v3 v4 v5 h ↔ (∀ (H : Heap) (locs : List Loc) (ls : Array Slot), HH G B S h sz s H locs → lv_has ls 7 [(0, .ref v0), (1, .int v1), (2, .int v2), (3, .int v3), (4, .int v4), (5, .int v5)] → W p l e rm_X6_nearest s m args below meth c H locs 0 0 (QI G B S sz below args s Q) (F0 m 39 ls [])) := ⟨_, fun v3 v4 v5 h => Iff.rfl⟩
    refine (hP39 v3 v4 v5 h).1 (hw P39 (fun v3 v4 v5 h hw => (hP39 v3 v4 v5 h).2 (fun H locs ls hH hl => ?_))) H locs ls hH hl
    have hK39 : ∀ (v3 : Int32) (v4 : Int32) (v5 : Int32) (h : Hp) (H : Heap) (locs : List Loc) (ls : Array Slot), HH G B S h sz s H locs → lv_has ls 7 [(0, .ref v0), (1, .int v1), (2, .int v2), (3, .int v3), (4, .int v4), (5, .int v5)] → P39 v3 v4 v5 h → W p l e rm_X6_nearest s m args below meth c H locs 0 0 (QI G B S sz below args s Q) (F0 m 39 ls []) := fun v3 v4 v5 h H locs ls hH hl hk => (hP39 v3 v4 v5 h).1 hk H locs ls hH hl
    refine lv_iload hx hb dX6_nearest_39 (lv_at hl 5 rfl) ?_
    refine lv_aload_n hx hb dX6_nearest_41 rfl (lv_at hl 0 rfl) ?_
    obtain ⟨k1, hw⟩ := hw
    refine hv_get (ci := 6) (k := 0) (v := .ref (S.2 v0 0)) hx hb hown hKK hH cf6 (by decide) fl_X6_10 rfl k1 rfl dX6_nearest_42 ?_
    obtain ⟨k2, hw⟩ := hw
    refine hv_getN (ci := 1) (k := 4) (v := .int (h (S.2 v0 0) 4)) hx hb hown hKK hH cf1 (by decide) fl_X6_60 rfl k2 rfl dX6_nearest_45 ?_
    refine lv_icmp_ge (tgt := 96) hx hb dX6_nearest_48 (by decide) (fun c3 => ?_) (fun c3 => ?_)
    · have hw := ite_t hw c3
      refine lv_iload_n hx hb dX6_nearest_96 rfl (lv_at hl 2 rfl) ?_
      refine lv_if_ne (tgt := 104) hx hb dX6_nearest_97 (by decide) (fun c4 => ?_) (fun c4 => ?_)
      · have hw := ite_f hw c4
        refine lv_iload hx hb dX6_nearest_104 (lv_at hl 4 rfl) ?_
        exact hv_iret hx hb hr hlk hH hw dX6_nearest_106
      · have hw := ite_t hw c4
        refine lv_iload_n hx hb dX6_nearest_100 rfl (lv_at hl 3 rfl) ?_
        refine lv_goto (tgt := 106) hx hb dX6_nearest_101 (by decide) ?_
        exact hv_iret hx hb hr hlk hH hw dX6_nearest_106
    · have hw := ite_f hw c3
      refine lv_aload_n hx hb dX6_nearest_51 rfl (lv_at hl 0 rfl) ?_
      refine hv_get (ci := 6) (k := 0) (v := .ref (S.2 v0 0)) hx hb hown hKK hH cf6 (by decide) fl_X6_10 rfl k1 rfl dX6_nearest_52 ?_
      refine hv_getN (ci := 1) (k := 3) (v := .ref (S.2 (S.2 v0 0) 3)) hx hb hown hKK hH cf1 (by decide) fl_X6_105 rfl k2 rfl dX6_nearest_55 ?_
      refine lv_iload hx hb dX6_nearest_58 (lv_at hl 5 rfl) ?_
      obtain ⟨k5, hw⟩ := hw
      refine hv_aald (t := 1) hx hb (by decide) hKK hH k5 dX6_nearest_60 ?_
      obtain ⟨k6, hw⟩ := hw
      refine hv_getN (ci := 0) (k := 4) (v := .int (h (S.2 (S.2 (S.2 v0 0) 3) (ix v5)) 4)) hx hb hown hKK hH cf0 (by decide) fl_X6_117 rfl k6 rfl dX6_nearest_61 ?_
      refine lv_iload_n hx hb dX6_nearest_64 rfl (lv_at hl 1 rfl) ?_
      refine hv_cSI (rm := rm_X5_stepsOff) (As := [.int (h (S.2 (S.2 (S.2 v0 0) 3) (ix v5)) 4), .int v1]) (rest := []) (k := 2) hx hb hml hown hKK hH (m_X5_stepsOff (h (S.2 (S.2 (S.2 v0 0) 3) (ix v5)) 4) v1 _ _ hw) cw_X6_298 ⟨Nat.le_of_ble_eq_true rfl, Nat.le_of_ble_eq_true rfl⟩ rfl hl.1 rfl (Nat.le_of_ble_eq_true rfl) ⟨Nat.le_of_ble_eq_true rfl, Nat.le_of_ble_eq_true rfl⟩ dX6_nearest_65 (fun r8 h7 H locs hH hw => ?_)
      refine lv_istore (lv' := [(6, .int r8), (0, .ref v0), (1, .int v1), (2, .int v2), (3, .int v3), (4, .int v4), (5, .int v5)]) hx hb dX6_nearest_68 hl (by decide) rfl (fun ls hl => ?_)
      refine lv_iload_n hx hb dX6_nearest_70 rfl (lv_at hl 4 rfl) ?_
      refine lv_bipush (v := (-9)) hx hb dX6_nearest_71 (by decide) ?_
      refine lv_icmp_eq (tgt := 83) hx hb dX6_nearest_73 (by decide) (fun c9 => ?_) (fun c9 => ?_)
      · have hw := ite_t hw c9
        refine lv_iload hx hb dX6_nearest_83 (lv_at hl 6 rfl) ?_
        refine lv_istore_n (lv' := [(3, .int v5), (6, .int r8), (0, .ref v0), (1, .int v1), (2, .int v2), (4, .int v4), (5, .int v5)]) hx hb dX6_nearest_85 rfl hl (by decide) rfl (fun ls hl => ?_)
        refine lv_iload hx hb dX6_nearest_86 (lv_at hl 1 rfl) ?_
        refine lv_istore (lv' := [(4, .int r8), (3, .int v5), (6, .int r8), (0, .ref v0), (1, .int v1), (2, .int v2), (5, .int v5)]) hx hb dX6_nearest_88 hl (by decide) rfl (fun ls hl => ?_)
        refine lv_iinc (v := v5 + (nI 1)) (lv' := [(5, .int (v5 + (nI 1))), (4, .int r8), (3, .int v5), (6, .int r8), (0, .ref v0), (1, .int v1), (2, .int v2)]) hx hb dX6_nearest_90 hl (k := 6) rfl rfl (by decide) rfl (fun ls hl => ?_)
        refine lv_goto (tgt := 39) hx hb dX6_nearest_93 (by decide) ?_
        exact hK39 _ _ _ _ H locs ls hH (lv_sub hl [4, 5, 6, 2, 1, 0] rfl) hw
      · have hw := ite_f hw c9
        refine lv_iload hx hb dX6_nearest_76 (lv_at hl 0 rfl) ?_
        refine lv_iload hx hb dX6_nearest_78 (lv_at hl 5 rfl) ?_
        refine lv_icmp_ge (tgt := 90) hx hb dX6_nearest_80 (by decide) (fun c10 => ?_) (fun c10 => ?_)
        · have hw := ite_t hw c10
          refine lv_iinc (v := v5 + (nI 1)) (lv' := [(5, .int (v5 + (nI 1))), (6, .int r8), (0, .ref v0), (1, .int v1), (2, .int v2), (3, .int v3), (4, .int v4)]) hx hb dX6_nearest_90 hl (k := 6) rfl rfl (by decide) rfl (fun ls hl => ?_)
          refine lv_goto (tgt := 39) hx hb dX6_nearest_93 (by decide) ?_
          exact hK39 _ _ _ _ H locs ls hH (lv_sub hl [2, 3, 4, 5, 6, 0] rfl) hw
        · have hw := ite_f hw c10
          refine lv_iload hx hb dX6_nearest_83 (lv_at hl 6 rfl) ?_
          refine lv_istore_n (lv' := [(3, .int v5), (6, .int r8), (0, .ref v0), (1, .int v1), (2, .int v2), (4, .int v4), (5, .int v5)]) hx hb dX6_nearest_85 rfl hl (by decide) rfl (fun ls hl => ?_)
          refine lv_iload hx hb dX6_nearest_86 (lv_at hl 1 rfl) ?_
          refine lv_istore (lv' := [(4, .int r8), (3, .int v5), (6, .int r8), (0, .ref v0), (1, .int v1), (2, .int v2), (5, .int v5)]) hx hb dX6_nearest_88 hl (by decide) rfl (fun ls hl => ?_)
          refine lv_iinc (v := v5 + (nI 1)) (lv' := [(5, .int (v5 + (nI 1))), (4, .int r8), (3, .int v5), (6, .int r8), (0, .ref v0), (1, .int v1), (2, .int v2)]) hx hb dX6_nearest_90 hl (k := 6) rfl rfl (by decide) rfl (fun ls hl => ?_)
          refine lv_goto (tgt := 39) hx hb dX6_nearest_93 (by decide) ?_
          exact hK39 _ _ _ _ H locs ls hH (lv_sub hl [4, 5, 6, 2, 1, 0] rfl) hw
  unfold w_X6_nearest at hw
  show W p l e rm_X6_nearest s m args below meth c H [] 0 0 (QI G B S sz below args s Q) (F0 m 0 ls [])
  generalize ([] : List Loc) = locs at hH ⊢
  refine lv_iload_n hx hb dX6_nearest_0 rfl (lv_at hl 1 rfl) ?_
  refine hv_cSI (rm := rm_X6_noField) (As := [.int v1]) (rest := []) (k := 1) hx hb hml hown hKK hH (m_X6_noField v1 _ _ hw) cw_X6_151 ⟨Nat.le_of_ble_eq_true rfl, Nat.le_of_ble_eq_true rfl⟩ rfl hl.1 rfl (Nat.le_of_ble_eq_true rfl) ⟨Nat.le_of_ble_eq_true rfl, Nat.le_of_ble_eq_true rfl⟩ dX6_nearest_1 (fun r2 h1 H locs hH hw => ?_)
  refine lv_if_eq (tgt := 13) hx hb dX6_nearest_4 (by decide) (fun c3 => ?_) (fun c3 => ?_)
  · have hw := ite_t hw c3
    refine lv_iload_n hx hb dX6_nearest_13 rfl (lv_at hl 2 rfl) ?_
    refine lv_if_lt (tgt := 22) hx hb dX6_nearest_14 (by decide) (fun c4 => ?_) (fun c4 => ?_)
    · have hw := ite_t hw c4
      refine lv_aload_n hx hb dX6_nearest_22 rfl (lv_at hl 0 rfl) ?_
      refine lv_bipush (v := (-2)) hx hb dX6_nearest_23 (by decide) ?_
      obtain ⟨k5, hw⟩ := hw
      refine hv_cVI (rm := rm_X6_refuse) (As := [.int (-2)]) (rest := []) (k := 1) (ci := 6) hx hb hml hown hKK hH cf6 k5 (m_X6_refuse v0 (-2) _ _ hw) cw_X6_56 ⟨Nat.le_of_ble_eq_true rfl, Nat.le_of_ble_eq_true rfl⟩ rfl hl.1 rfl (Nat.le_of_ble_eq_true rfl) ⟨Nat.le_of_ble_eq_true rfl, Nat.le_of_ble_eq_true rfl⟩ dX6_nearest_25 (fun r7 h6 H locs hH hw => ?_)
      exact hv_iret hx hb hr hlk hH hw dX6_nearest_28
    · have hw := ite_f hw c4
      refine lv_iload_n hx hb dX6_nearest_17 rfl (lv_at hl 2 rfl) ?_
      refine lv_iconst (v := (nI 1)) hx hb dX6_nearest_18 (by decide) ?_
      refine lv_icmp_le (tgt := 29) hx hb dX6_nearest_19 (by decide) (fun c8 => ?_) (fun c8 => ?_)
      · have hw := ite_t hw c8
        refine lv_bipush (v := (-9)) hx hb dX6_nearest_29 (by decide) ?_
        refine lv_istore_n (lv' := [(3, .int (-9)), (0, .ref v0), (1, .int v1), (2, .int v2)]) hx hb dX6_nearest_31 rfl hl (by decide) rfl (fun ls hl => ?_)
        refine lv_bipush (v := (-9)) hx hb dX6_nearest_32 (by decide) ?_
        refine lv_istore (lv' := [(4, .int (-9)), (3, .int (-9)), (0, .ref v0), (1, .int v1), (2, .int v2)]) hx hb dX6_nearest_34 hl (by decide) rfl (fun ls hl => ?_)
        refine lv_iconst (v := (nI 0)) hx hb dX6_nearest_36 (by decide) ?_
        refine lv_istore (lv' := [(5, .int (nI 0)), (4, .int (-9)), (3, .int (-9)), (0, .ref v0), (1, .int v1), (2, .int v2)]) hx hb dX6_nearest_37 hl (by decide) rfl (fun ls hl => ?_)
        exact c39 _ _ _ _ _ _ _ H locs ls hH (lv_sub hl [3, 4, 5, 2, 1, 0] rfl) hw
      · have hw := ite_f hw c8
        refine lv_aload_n hx hb dX6_nearest_22 rfl (lv_at hl 0 rfl) ?_
        refine lv_bipush (v := (-2)) hx hb dX6_nearest_23 (by decide) ?_
        obtain ⟨k9, hw⟩ := hw
        refine hv_cVI (rm := rm_X6_refuse) (As := [.int (-2)]) (rest := []) (k := 1) (ci := 6) hx hb hml hown hKK hH cf6 k9 (m_X6_refuse v0 (-2) _ _ hw) cw_X6_56 ⟨Nat.le_of_ble_eq_true rfl, Nat.le_of_ble_eq_true rfl⟩ rfl hl.1 rfl (Nat.le_of_ble_eq_true rfl) ⟨Nat.le_of_ble_eq_true rfl, Nat.le_of_ble_eq_true rfl⟩ dX6_nearest_25 (fun r11 h10 H locs hH hw => ?_)
        exact hv_iret hx hb hr hlk hH hw dX6_nearest_28
  · have hw := ite_f hw c3
    refine lv_aload_n hx hb dX6_nearest_7 rfl (lv_at hl 0 rfl) ?_
    refine lv_iconst (v := (-1)) hx hb dX6_nearest_8 (by decide) ?_
    obtain ⟨k12, hw⟩ := hw
    refine hv_cVI (rm := rm_X6_refuse) (As := [.int (-1)]) (rest := []) (k := 1) (ci := 6) hx hb hml hown hKK hH cf6 k12 (m_X6_refuse v0 (-1) _ _ hw) cw_X6_56 ⟨Nat.le_of_ble_eq_true rfl, Nat.le_of_ble_eq_true rfl⟩ rfl hl.1 rfl (Nat.le_of_ble_eq_true rfl) ⟨Nat.le_of_ble_eq_true rfl, Nat.le_of_ble_eq_true rfl⟩ dX6_nearest_9 (fun r14 h13 H locs hH hw => ?_)
    exact hv_iret hx hb hr hlk hH hw dX6_nearest_12
abbrev rm_X6_way : Room := { frames := 3, cells := 0, slots := 0, locals := 73 }
set_option maxHeartbeats 4000000 in
set_option maxRecDepth 100000 in
theorem m_X6_way {l : Launch} {G : Gl} {B sz : Nat} {S : St} (v0 : Nat) (v1 : Int32) (v2 : Int32) (h : Hp) (Q : Int32 → Hp → Prop) (hw : w_X6_way S v0 v1 v2 h Q) : MI l G B sz S yX6_way cX6_way 3 .int rm_X6_way [.ref v0, .int v1, .int v2] h Q := by
  refine met_of rfl rfl ?_
  intro p e s m args below meth c hMB H ls hH hl
  obtain ⟨hx, hb, hml, hown, hKK, hr, hlk⟩ := hMB
  replace hl : lv_has ls 3 [(0, .ref v0), (1, .int v1), (2, .int v2)] := hl
  unfold w_X6_way at hw
  show W p l e rm_X6_way s m args below meth c H [] 0 0 (QI G B S sz below args s Q) (F0 m 0 ls [])
  generalize ([] : List Loc) = locs at hH ⊢
  refine lv_iload_n hx hb dX6_way_0 rfl (lv_at hl 1 rfl) ?_
  refine hv_cSI (rm := rm_X6_noField) (As := [.int v1]) (rest := []) (k := 1) hx hb hml hown hKK hH (m_X6_noField v1 _ _ hw) cw_X6_151 ⟨Nat.le_of_ble_eq_true rfl, Nat.le_of_ble_eq_true rfl⟩ rfl hl.1 rfl (Nat.le_of_ble_eq_true rfl) ⟨Nat.le_of_ble_eq_true rfl, Nat.le_of_ble_eq_true rfl⟩ dX6_way_1 (fun r2 h1 H locs hH hw => ?_)
  refine lv_if_ne (tgt := 14) hx hb dX6_way_4 (by decide) (fun c3 => ?_) (fun c3 => ?_)
  · have hw := ite_f hw c3
    refine lv_aload_n hx hb dX6_way_14 rfl (lv_at hl 0 rfl) ?_
    refine lv_iconst (v := (-1)) hx hb dX6_way_15 (by decide) ?_
    obtain ⟨k14, hw⟩ := hw
    refine hv_cVI (rm := rm_X6_refuse) (As := [.int (-1)]) (rest := []) (k := 1) (ci := 6) hx hb hml hown hKK hH cf6 k14 (m_X6_refuse v0 (-1) _ _ hw) cw_X6_56 ⟨Nat.le_of_ble_eq_true rfl, Nat.le_of_ble_eq_true rfl⟩ rfl hl.1 rfl (Nat.le_of_ble_eq_true rfl) ⟨Nat.le_of_ble_eq_true rfl, Nat.le_of_ble_eq_true rfl⟩ dX6_way_16 (fun r16 h15 H locs hH hw => ?_)
    exact hv_iret hx hb hr hlk hH hw dX6_way_19
  · have hw := ite_t hw c3
    refine lv_iload_n hx hb dX6_way_7 rfl (lv_at hl 2 rfl) ?_
    refine hv_cSI (rm := rm_X6_noField) (As := [.int v2]) (rest := []) (k := 1) hx hb hml hown hKK hH (m_X6_noField v2 _ _ hw) cw_X6_151 ⟨Nat.le_of_ble_eq_true rfl, Nat.le_of_ble_eq_true rfl⟩ rfl hl.1 rfl (Nat.le_of_ble_eq_true rfl) ⟨Nat.le_of_ble_eq_true rfl, Nat.le_of_ble_eq_true rfl⟩ dX6_way_8 (fun r5 h4 H locs hH hw => ?_)
    refine lv_if_eq (tgt := 20) hx hb dX6_way_11 (by decide) (fun c6 => ?_) (fun c6 => ?_)
    · have hw := ite_t hw c6
      refine lv_aload_n hx hb dX6_way_20 rfl (lv_at hl 0 rfl) ?_
      obtain ⟨k7, hw⟩ := hw
      refine hv_get (ci := 6) (k := 6) (v := .ref (S.2 v0 6)) hx hb hown hKK hH cf6 (by decide) fl_X6_43 rfl k7 rfl dX6_way_21 ?_
      refine lv_aload_n hx hb dX6_way_24 rfl (lv_at hl 0 rfl) ?_
      refine hv_get (ci := 6) (k := 0) (v := .ref (S.2 v0 0)) hx hb hown hKK hH cf6 (by decide) fl_X6_10 rfl k7 rfl dX6_way_25 ?_
      refine lv_iload_n hx hb dX6_way_28 rfl (lv_at hl 1 rfl) ?_
      refine lv_iload_n hx hb dX6_way_29 rfl (lv_at hl 2 rfl) ?_
      obtain ⟨k8, hw⟩ := hw
      refine hv_cVI (rm := rm_X5_fewestSteps) (As := [.ref (S.2 v0 0), .int v1, .int v2]) (rest := []) (k := 3) (ci := 5) hx hb hml hown hKK hH cf5 k8 (m_X5_fewestSteps (S.2 v0 6) (S.2 v0 0) v1 v2 _ _ hw) cw_X6_302 ⟨Nat.le_of_ble_eq_true rfl, Nat.le_of_ble_eq_true rfl⟩ rfl hl.1 rfl (Nat.le_of_ble_eq_true rfl) ⟨Nat.le_of_ble_eq_true rfl, Nat.le_of_ble_eq_true rfl⟩ dX6_way_30 (fun r10 h9 H locs hH hw => ?_)
      exact hv_iret hx hb hr hlk hH hw dX6_way_33
    · have hw := ite_f hw c6
      refine lv_aload_n hx hb dX6_way_14 rfl (lv_at hl 0 rfl) ?_
      refine lv_iconst (v := (-1)) hx hb dX6_way_15 (by decide) ?_
      obtain ⟨k11, hw⟩ := hw
      refine hv_cVI (rm := rm_X6_refuse) (As := [.int (-1)]) (rest := []) (k := 1) (ci := 6) hx hb hml hown hKK hH cf6 k11 (m_X6_refuse v0 (-1) _ _ hw) cw_X6_56 ⟨Nat.le_of_ble_eq_true rfl, Nat.le_of_ble_eq_true rfl⟩ rfl hl.1 rfl (Nat.le_of_ble_eq_true rfl) ⟨Nat.le_of_ble_eq_true rfl, Nat.le_of_ble_eq_true rfl⟩ dX6_way_16 (fun r13 h12 H locs hH hw => ?_)
      exact hv_iret hx hb hr hlk hH hw dX6_way_19
abbrev rm_X6_sight : Room := { frames := 3, cells := 0, slots := 0, locals := 66 }
set_option maxHeartbeats 4000000 in
set_option maxRecDepth 100000 in
theorem m_X6_sight {l : Launch} {G : Gl} {B sz : Nat} {S : St} (v0 : Nat) (v1 : Int32) (h : Hp) (Q : Int32 → Hp → Prop) (hw : w_X6_sight S v0 v1 h Q) : MI l G B sz S yX6_sight cX6_sight 2 .int rm_X6_sight [.ref v0, .int v1] h Q := by
  refine met_of rfl rfl ?_
  intro p e s m args below meth c hMB H ls hH hl
  obtain ⟨hx, hb, hml, hown, hKK, hr, hlk⟩ := hMB
  replace hl : lv_has ls 2 [(0, .ref v0), (1, .int v1)] := hl
  unfold w_X6_sight at hw
  show W p l e rm_X6_sight s m args below meth c H [] 0 0 (QI G B S sz below args s Q) (F0 m 0 ls [])
  generalize ([] : List Loc) = locs at hH ⊢
  refine lv_iload_n hx hb dX6_sight_0 rfl (lv_at hl 1 rfl) ?_
  by_cases c1 : v1 = (nI 0)
  · have hw := ite_t hw c1
    refine lv_tableIn (tgt := 28) hx hb dX6_sight_1 (by rw [c1]; decide) (by rw [c1]; decide) (by rw [c1]; rfl) (by decide) ?_
    refine lv_aload_n hx hb dX6_sight_28 rfl (lv_at hl 0 rfl) ?_
    obtain ⟨k2, hw⟩ := hw
    refine hv_get (ci := 6) (k := 0) (v := .ref (S.2 v0 0)) hx hb hown hKK hH cf6 (by decide) fl_X6_10 rfl k2 rfl dX6_sight_29 ?_
    obtain ⟨k3, hw⟩ := hw
    refine hv_cVI (rm := rm_X1_vowels) (As := []) (rest := []) (k := 0) (ci := 1) hx hb hml hown hKK hH cf1 k3 (m_X1_vowels (S.2 v0 0) _ _ hw) cw_X6_305 ⟨Nat.le_of_ble_eq_true rfl, Nat.le_of_ble_eq_true rfl⟩ rfl hl.1 rfl (Nat.le_of_ble_eq_true rfl) ⟨Nat.le_of_ble_eq_true rfl, Nat.le_of_ble_eq_true rfl⟩ dX6_sight_32 (fun r5 h4 H locs hH hw => ?_)
    exact hv_iret hx hb hr hlk hH hw dX6_sight_35
  have hw := ite_f hw c1
  by_cases c6 : v1 = (nI 1)
  · have hw := ite_t hw c6
    refine lv_tableIn (tgt := 36) hx hb dX6_sight_1 (by rw [c6]; decide) (by rw [c6]; decide) (by rw [c6]; rfl) (by decide) ?_
    refine lv_aload_n hx hb dX6_sight_36 rfl (lv_at hl 0 rfl) ?_
    obtain ⟨k7, hw⟩ := hw
    refine hv_get (ci := 6) (k := 0) (v := .ref (S.2 v0 0)) hx hb hown hKK hH cf6 (by decide) fl_X6_10 rfl k7 rfl dX6_sight_37 ?_
    obtain ⟨k8, hw⟩ := hw
    refine hv_cVI (rm := rm_X1_hungry) (As := []) (rest := []) (k := 0) (ci := 1) hx hb hml hown hKK hH cf1 k8 (m_X1_hungry (S.2 v0 0) _ _ hw) cw_X6_308 ⟨Nat.le_of_ble_eq_true rfl, Nat.le_of_ble_eq_true rfl⟩ rfl hl.1 rfl (Nat.le_of_ble_eq_true rfl) ⟨Nat.le_of_ble_eq_true rfl, Nat.le_of_ble_eq_true rfl⟩ dX6_sight_40 (fun r10 h9 H locs hH hw => ?_)
    exact hv_iret hx hb hr hlk hH hw dX6_sight_43
  have hw := ite_f hw c6
  by_cases c11 : v1 = (nI 2)
  · have hw := ite_t hw c11
    refine lv_tableIn (tgt := 44) hx hb dX6_sight_1 (by rw [c11]; decide) (by rw [c11]; decide) (by rw [c11]; rfl) (by decide) ?_
    refine lv_aload_n hx hb dX6_sight_44 rfl (lv_at hl 0 rfl) ?_
    obtain ⟨k12, hw⟩ := hw
    refine hv_get (ci := 6) (k := 0) (v := .ref (S.2 v0 0)) hx hb hown hKK hH cf6 (by decide) fl_X6_10 rfl k12 rfl dX6_sight_45 ?_
    obtain ⟨k13, hw⟩ := hw
    refine hv_cVI (rm := rm_X1_alone) (As := []) (rest := []) (k := 0) (ci := 1) hx hb hml hown hKK hH cf1 k13 (m_X1_alone (S.2 v0 0) _ _ hw) cw_X6_311 ⟨Nat.le_of_ble_eq_true rfl, Nat.le_of_ble_eq_true rfl⟩ rfl hl.1 rfl (Nat.le_of_ble_eq_true rfl) ⟨Nat.le_of_ble_eq_true rfl, Nat.le_of_ble_eq_true rfl⟩ dX6_sight_48 (fun r15 h14 H locs hH hw => ?_)
    exact hv_iret hx hb hr hlk hH hw dX6_sight_51
  have hw := ite_f hw c11
  refine lv_tableOut (tgt := 52) hx hb dX6_sight_1 (by have := ne_toInt (k := 0) (by decide) c1; have := ne_toInt (k := 1) (by decide) c6; have := ne_toInt (k := 2) (by decide) c11; omega) (by decide) ?_
  refine lv_aload_n hx hb dX6_sight_52 rfl (lv_at hl 0 rfl) ?_
  refine lv_bipush (v := (-2)) hx hb dX6_sight_53 (by decide) ?_
  obtain ⟨k16, hw⟩ := hw
  refine hv_cVI (rm := rm_X6_refuse) (As := [.int (-2)]) (rest := []) (k := 1) (ci := 6) hx hb hml hown hKK hH cf6 k16 (m_X6_refuse v0 (-2) _ _ hw) cw_X6_56 ⟨Nat.le_of_ble_eq_true rfl, Nat.le_of_ble_eq_true rfl⟩ rfl hl.1 rfl (Nat.le_of_ble_eq_true rfl) ⟨Nat.le_of_ble_eq_true rfl, Nat.le_of_ble_eq_true rfl⟩ dX6_sight_55 (fun r18 h17 H locs hH hw => ?_)
  exact hv_iret hx hb hr hlk hH hw dX6_sight_58
abbrev rm_X6_kinds : Room := { frames := 1, cells := 0, slots := 0, locals := 21 }
set_option maxHeartbeats 4000000 in
set_option maxRecDepth 100000 in
theorem m_X6_kinds {l : Launch} {G : Gl} {B sz : Nat} {S : St} (v0 : Nat) (v1 : Int32) (h : Hp) (Q : Int32 → Hp → Prop) (hw : w_X6_kinds S v0 v1 h Q) : MI l G B sz S yX6_kinds cX6_kinds 4 .int rm_X6_kinds [.ref v0, .int v1] h Q := by
  refine met_of rfl rfl ?_
  intro p e s m args below meth c hMB H ls hH hl
  obtain ⟨hx, hb, hml, hown, hKK, hr, hlk⟩ := hMB
  replace hl : lv_has ls 4 [(0, .ref v0), (1, .int v1)] := hl
  have c21 : ∀  (v0 : Nat) (v1 : Int32) (v2 : Int32) (v3 : Int32) (h : Hp) (H : Heap) (locs : List Loc) (ls : Array Slot), HH G B S h sz s H locs → lv_has ls 4 [(0, .ref v0), (1, .int v1), (2, .int v2), (3, .int v3)] → w_X6_kinds_c21 S v0 v1 v2 v3 h Q → W p l e rm_X6_kinds s m args below meth c H locs 0 0 (QI G B S sz below args s Q) (F0 m 21 ls []) := by
    intro  v0 v1 v2 v3 h H locs ls hH hl hw
    unfold w_X6_kinds_c21 at hw
    obtain ⟨P21, hP21⟩ : ∃ P : Int32 → Int32 → Hp → Prop, ∀ (v2 : Int32) (v3 : Int32) (h : Hp), P v2 v3 h ↔ (∀ (H : Heap) (locs : List Loc) (ls : Array Slot), HH G B S h sz s H locs → lv_has ls 4 [(0, .ref v0), (1, .int v1), (2, .int v2), (3, .int v3)] → W p l e rm_X6_kinds s m args below meth c H locs 0 0 (QI G B S sz below args s Q) (F0 m 21 ls [])) := ⟨_, fun v2 v3 h => Iff.rfl⟩
    refine (hP21 v2 v3 h).1 (hw P21 (fun v2 v3 h hw => (hP21 v2 v3 h).2 (fun H locs ls hH hl => ?_))) H locs ls hH hl
    have hK21 : ∀ (v2 : Int32) (v3 : Int32) (h : Hp) (H : Heap) (locs : List Loc) (ls : Array Slot), HH G B S h sz s H locs → lv_has ls 4 [(0, .ref v0), (1, .int v1), (2, .int v2), (3, .int v3)] → P21 v2 v3 h → W p l e rm_X6_kinds s m args below meth c H locs 0 0 (QI G B S sz below args s Q) (F0 m 21 ls []) := fun v2 v3 h H locs ls hH hl hk => (hP21 v2 v3 h).1 hk H locs ls hH hl
    refine lv_iload_n hx hb dX6_kinds_21 rfl (lv_at hl 3 rfl) ?_
    refine lv_aload_n hx hb dX6_kinds_22 rfl (lv_at hl 0 rfl) ?_
    obtain ⟨k1, hw⟩ := hw
    refine hv_get (ci := 6) (k := 0) (v := .ref (S.2 v0 0)) hx hb hown hKK hH cf6 (by decide) fl_X6_10 rfl k1 rfl dX6_kinds_23 ?_
    obtain ⟨k2, hw⟩ := hw
    refine hv_getN (ci := 1) (k := 4) (v := .int (h (S.2 v0 0) 4)) hx hb hown hKK hH cf1 (by decide) fl_X6_60 rfl k2 rfl dX6_kinds_26 ?_
    refine lv_icmp_ge (tgt := 57) hx hb dX6_kinds_29 (by decide) (fun c3 => ?_) (fun c3 => ?_)
    · have hw := ite_t hw c3
      refine lv_iload_n hx hb dX6_kinds_57 rfl (lv_at hl 2 rfl) ?_
      exact hv_iret hx hb hr hlk hH hw dX6_kinds_58
    · have hw := ite_f hw c3
      refine lv_aload_n hx hb dX6_kinds_32 rfl (lv_at hl 0 rfl) ?_
      refine hv_get (ci := 6) (k := 0) (v := .ref (S.2 v0 0)) hx hb hown hKK hH cf6 (by decide) fl_X6_10 rfl k1 rfl dX6_kinds_33 ?_
      refine hv_getN (ci := 1) (k := 3) (v := .ref (S.2 (S.2 v0 0) 3)) hx hb hown hKK hH cf1 (by decide) fl_X6_105 rfl k2 rfl dX6_kinds_36 ?_
      refine lv_iload_n hx hb dX6_kinds_39 rfl (lv_at hl 3 rfl) ?_
      obtain ⟨k4, hw⟩ := hw
      refine hv_aald (t := 1) hx hb (by decide) hKK hH k4 dX6_kinds_40 ?_
      obtain ⟨k5, hw⟩ := hw
      refine hv_getN (ci := 0) (k := 0) (v := .int (h (S.2 (S.2 (S.2 v0 0) 3) (ix v3)) 0)) hx hb hown hKK hH cf0 (by decide) fl_X6_109 rfl k5 rfl dX6_kinds_41 ?_
      refine lv_iload_n hx hb dX6_kinds_44 rfl (lv_at hl 1 rfl) ?_
      refine lv_icmp_ne (tgt := 51) hx hb dX6_kinds_45 (by decide) (fun c6 => ?_) (fun c6 => ?_)
      · have hw := ite_f hw c6
        refine lv_iinc (v := v3 + (nI 1)) (lv' := [(3, .int (v3 + (nI 1))), (0, .ref v0), (1, .int v1), (2, .int v2)]) hx hb dX6_kinds_51 hl (k := 3) rfl rfl (by decide) rfl (fun ls hl => ?_)
        refine lv_goto (tgt := 21) hx hb dX6_kinds_54 (by decide) ?_
        exact hK21 _ _ _ H locs ls hH (lv_sub hl [1, 2, 3, 0] rfl) hw
      · have hw := ite_t hw c6
        refine lv_iinc (v := v2 + (nI 1)) (lv' := [(2, .int (v2 + (nI 1))), (0, .ref v0), (1, .int v1), (3, .int v3)]) hx hb dX6_kinds_48 hl (k := 2) rfl rfl (by decide) rfl (fun ls hl => ?_)
        refine lv_iinc (v := v3 + (nI 1)) (lv' := [(3, .int (v3 + (nI 1))), (2, .int (v2 + (nI 1))), (0, .ref v0), (1, .int v1)]) hx hb dX6_kinds_51 hl (k := 3) rfl rfl (by decide) rfl (fun ls hl => ?_)
        refine lv_goto (tgt := 21) hx hb dX6_kinds_54 (by decide) ?_
        exact hK21 _ _ _ H locs ls hH (lv_sub hl [2, 3, 1, 0] rfl) hw
  unfold w_X6_kinds at hw
  show W p l e rm_X6_kinds s m args below meth c H [] 0 0 (QI G B S sz below args s Q) (F0 m 0 ls [])
  generalize ([] : List Loc) = locs at hH ⊢
  refine lv_iload_n hx hb dX6_kinds_0 rfl (lv_at hl 1 rfl) ?_
  refine lv_if_lt (tgt := 10) hx hb dX6_kinds_1 (by decide) (fun c1 => ?_) (fun c1 => ?_)
  · have hw := ite_t hw c1
    refine lv_aload_n hx hb dX6_kinds_10 rfl (lv_at hl 0 rfl) ?_
    refine lv_bipush (v := (-2)) hx hb dX6_kinds_11 (by decide) ?_
    obtain ⟨k2, hw⟩ := hw
    refine hv_cVI (rm := rm_X6_refuse) (As := [.int (-2)]) (rest := []) (k := 1) (ci := 6) hx hb hml hown hKK hH cf6 k2 (m_X6_refuse v0 (-2) _ _ hw) cw_X6_56 ⟨Nat.le_of_ble_eq_true rfl, Nat.le_of_ble_eq_true rfl⟩ rfl hl.1 rfl (Nat.le_of_ble_eq_true rfl) ⟨Nat.le_of_ble_eq_true rfl, Nat.le_of_ble_eq_true rfl⟩ dX6_kinds_13 (fun r4 h3 H locs hH hw => ?_)
    exact hv_iret hx hb hr hlk hH hw dX6_kinds_16
  · have hw := ite_f hw c1
    refine lv_iload_n hx hb dX6_kinds_4 rfl (lv_at hl 1 rfl) ?_
    refine lv_bipush (v := (nI 8)) hx hb dX6_kinds_5 (by decide) ?_
    refine lv_icmp_lt (tgt := 17) hx hb dX6_kinds_7 (by decide) (fun c5 => ?_) (fun c5 => ?_)
    · have hw := ite_t hw c5
      refine lv_iconst (v := (nI 0)) hx hb dX6_kinds_17 (by decide) ?_
      refine lv_istore_n (lv' := [(2, .int (nI 0)), (0, .ref v0), (1, .int v1)]) hx hb dX6_kinds_18 rfl hl (by decide) rfl (fun ls hl => ?_)
      refine lv_iconst (v := (nI 0)) hx hb dX6_kinds_19 (by decide) ?_
      refine lv_istore_n (lv' := [(3, .int (nI 0)), (2, .int (nI 0)), (0, .ref v0), (1, .int v1)]) hx hb dX6_kinds_20 rfl hl (by decide) rfl (fun ls hl => ?_)
      exact c21 _ _ _ _ _ H locs ls hH (lv_sub hl [2, 3, 1, 0] rfl) hw
    · have hw := ite_f hw c5
      refine lv_aload_n hx hb dX6_kinds_10 rfl (lv_at hl 0 rfl) ?_
      refine lv_bipush (v := (-2)) hx hb dX6_kinds_11 (by decide) ?_
      obtain ⟨k6, hw⟩ := hw
      refine hv_cVI (rm := rm_X6_refuse) (As := [.int (-2)]) (rest := []) (k := 1) (ci := 6) hx hb hml hown hKK hH cf6 k6 (m_X6_refuse v0 (-2) _ _ hw) cw_X6_56 ⟨Nat.le_of_ble_eq_true rfl, Nat.le_of_ble_eq_true rfl⟩ rfl hl.1 rfl (Nat.le_of_ble_eq_true rfl) ⟨Nat.le_of_ble_eq_true rfl, Nat.le_of_ble_eq_true rfl⟩ dX6_kinds_13 (fun r8 h7 H locs hH hw => ?_)
      exact hv_iret hx hb hr hlk hH hw dX6_kinds_16
abbrev rm_X6_row : Room := { frames := 1, cells := 0, slots := 0, locals := 21 }
set_option maxHeartbeats 4000000 in
set_option maxRecDepth 100000 in
theorem m_X6_row {l : Launch} {G : Gl} {B sz : Nat} {S : St} (v0 : Nat) (v1 : Int32) (h : Hp) (Q : Int32 → Hp → Prop) (hw : w_X6_row S v0 v1 h Q) : MI l G B sz S yX6_row cX6_row 2 .int rm_X6_row [.ref v0, .int v1] h Q := by
  refine met_of rfl rfl ?_
  intro p e s m args below meth c hMB H ls hH hl
  obtain ⟨hx, hb, hml, hown, hKK, hr, hlk⟩ := hMB
  replace hl : lv_has ls 2 [(0, .ref v0), (1, .int v1)] := hl
  unfold w_X6_row at hw
  show W p l e rm_X6_row s m args below meth c H [] 0 0 (QI G B S sz below args s Q) (F0 m 0 ls [])
  generalize ([] : List Loc) = locs at hH ⊢
  refine lv_iload_n hx hb dX6_row_0 rfl (lv_at hl 1 rfl) ?_
  refine lv_if_ge (tgt := 11) hx hb dX6_row_1 (by decide) (fun c1 => ?_) (fun c1 => ?_)
  · have hw := ite_t hw c1
    refine lv_iload_n hx hb dX6_row_11 rfl (lv_at hl 1 rfl) ?_
    refine lv_bipush (v := (nI 99)) hx hb dX6_row_12 (by decide) ?_
    refine lv_icmp_gt (tgt := 26) hx hb dX6_row_14 (by decide) (fun c2 => ?_) (fun c2 => ?_)
    · have hw := ite_t hw c2
      refine lv_aload_n hx hb dX6_row_26 rfl (lv_at hl 0 rfl) ?_
      refine lv_bipush (v := (-6)) hx hb dX6_row_27 (by decide) ?_
      obtain ⟨k3, hw⟩ := hw
      refine hv_cVI (rm := rm_X6_refuse) (As := [.int (-6)]) (rest := []) (k := 1) (ci := 6) hx hb hml hown hKK hH cf6 k3 (m_X6_refuse v0 (-6) _ _ hw) cw_X6_56 ⟨Nat.le_of_ble_eq_true rfl, Nat.le_of_ble_eq_true rfl⟩ rfl hl.1 rfl (Nat.le_of_ble_eq_true rfl) ⟨Nat.le_of_ble_eq_true rfl, Nat.le_of_ble_eq_true rfl⟩ dX6_row_29 (fun r5 h4 H locs hH hw => ?_)
      exact hv_iret hx hb hr hlk hH hw dX6_row_32
    · have hw := ite_f hw c2
      refine lv_aload_n hx hb dX6_row_17 rfl (lv_at hl 0 rfl) ?_
      obtain ⟨k6, hw⟩ := hw
      refine hv_get (ci := 6) (k := 8) (v := .int (h v0 8)) hx hb hown hKK hH cf6 (by decide) fl_X6_244 rfl k6 rfl dX6_row_18 ?_
      refine lv_bipush (v := (nI 12)) hx hb dX6_row_21 (by decide) ?_
      refine lv_icmp_lt (tgt := 33) hx hb dX6_row_23 (by decide) (fun c7 => ?_) (fun c7 => ?_)
      · have hw := ite_t hw c7
        refine lv_aload_n hx hb dX6_row_33 rfl (lv_at hl 0 rfl) ?_
        refine hv_get (ci := 6) (k := 7) (v := .ref (S.2 v0 7)) hx hb hown hKK hH cf6 (by decide) fl_X6_47 rfl k6 rfl dX6_row_34 ?_
        refine lv_aload_n hx hb dX6_row_37 rfl (lv_at hl 0 rfl) ?_
        refine hv_get (ci := 6) (k := 8) (v := .int (h v0 8)) hx hb hown hKK hH cf6 (by decide) fl_X6_244 rfl k6 rfl dX6_row_38 ?_
        refine lv_iload_n hx hb dX6_row_41 rfl (lv_at hl 1 rfl) ?_
        obtain ⟨k8, hw⟩ := hw
        refine hv_iast hx hb hKK hH k8 dX6_row_42 (fun H locs hH => ?_)
        refine lv_aload_n hx hb dX6_row_43 rfl (lv_at hl 0 rfl) ?_
        refine lv_dup hx hb dX6_row_44 rfl ?_
        refine hv_get (ci := 6) (k := 8) (v := .int ((up h (S.2 v0 7) (ix (h v0 8)) v1) v0 8)) hx hb hown hKK hH cf6 (by decide) fl_X6_244 rfl k6 rfl dX6_row_45 ?_
        refine lv_iconst (v := (nI 1)) hx hb dX6_row_48 (by decide) ?_
        refine lv_iadd hx hb dX6_row_49 ?_
        refine hv_put (ci := 6) (k := 8) hx hb hown hKK hH cf6 (by decide) fl_X6_244 rfl rfl rfl k6 rfl rfl dX6_row_50 (fun H locs hH => ?_)
        refine lv_aload_n hx hb dX6_row_53 rfl (lv_at hl 0 rfl) ?_
        refine hv_get (ci := 6) (k := 8) (v := .int ((up (up h (S.2 v0 7) (ix (h v0 8)) v1) v0 8 (((up h (S.2 v0 7) (ix (h v0 8)) v1) v0 8) + (nI 1))) v0 8)) hx hb hown hKK hH cf6 (by decide) fl_X6_244 rfl k6 rfl dX6_row_54 ?_
        exact hv_iret hx hb hr hlk hH hw dX6_row_57
      · have hw := ite_f hw c7
        refine lv_aload_n hx hb dX6_row_26 rfl (lv_at hl 0 rfl) ?_
        refine lv_bipush (v := (-6)) hx hb dX6_row_27 (by decide) ?_
        refine hv_cVI (rm := rm_X6_refuse) (As := [.int (-6)]) (rest := []) (k := 1) (ci := 6) hx hb hml hown hKK hH cf6 k6 (m_X6_refuse v0 (-6) _ _ hw) cw_X6_56 ⟨Nat.le_of_ble_eq_true rfl, Nat.le_of_ble_eq_true rfl⟩ rfl hl.1 rfl (Nat.le_of_ble_eq_true rfl) ⟨Nat.le_of_ble_eq_true rfl, Nat.le_of_ble_eq_true rfl⟩ dX6_row_29 (fun r10 h9 H locs hH hw => ?_)
        exact hv_iret hx hb hr hlk hH hw dX6_row_32
  · have hw := ite_f hw c1
    refine lv_aload_n hx hb dX6_row_4 rfl (lv_at hl 0 rfl) ?_
    refine lv_bipush (v := (-4)) hx hb dX6_row_5 (by decide) ?_
    obtain ⟨k11, hw⟩ := hw
    refine hv_cVI (rm := rm_X6_refuse) (As := [.int (-4)]) (rest := []) (k := 1) (ci := 6) hx hb hml hown hKK hH cf6 k11 (m_X6_refuse v0 (-4) _ _ hw) cw_X6_56 ⟨Nat.le_of_ble_eq_true rfl, Nat.le_of_ble_eq_true rfl⟩ rfl hl.1 rfl (Nat.le_of_ble_eq_true rfl) ⟨Nat.le_of_ble_eq_true rfl, Nat.le_of_ble_eq_true rfl⟩ dX6_row_7 (fun r13 h12 H locs hH hw => ?_)
    exact hv_iret hx hb hr hlk hH hw dX6_row_10
abbrev rm_X6_judge : Room := { frames := 0, cells := 0, slots := 0, locals := 0 }
set_option maxHeartbeats 4000000 in
set_option maxRecDepth 100000 in
theorem m_X6_judge {l : Launch} {G : Gl} {B sz : Nat} {S : St} (v0 : Nat) (h : Hp) (Q : Int32 → Hp → Prop) (hw : w_X6_judge S v0 h Q) : MI l G B sz S yX6_judge cX6_judge 3 .int rm_X6_judge [.ref v0] h Q := by
  refine met_of rfl rfl ?_
  intro p e s m args below meth c hMB H ls hH hl
  obtain ⟨hx, hb, hml, hown, hKK, hr, hlk⟩ := hMB
  replace hl : lv_has ls 3 [(0, .ref v0)] := hl
  have c5 : ∀  (v0 : Nat) (v1 : Int32) (v2 : Int32) (h : Hp) (H : Heap) (locs : List Loc) (ls : Array Slot), HH G B S h sz s H locs → lv_has ls 3 [(0, .ref v0), (1, .int v1), (2, .int v2)] → w_X6_judge_c5 S v0 v1 v2 h Q → W p l e rm_X6_judge s m args below meth c H locs 0 0 (QI G B S sz below args s Q) (F0 m 5 ls []) := by
    intro  v0 v1 v2 h H locs ls hH hl hw
    unfold w_X6_judge_c5 at hw
    obtain ⟨P5, hP5⟩ : ∃ P : Int32 → Int32 → Hp → Prop, ∀ (v1 : Int32) (v2 : Int32) (h : Hp), P v1 v2 h ↔ (∀ (H : Heap) (locs : List Loc) (ls : Array Slot), HH G B S h sz s H locs → lv_has ls 3 [(0, .ref v0), (1, .int v1), (2, .int v2)] → W p l e rm_X6_judge s m args below meth c H locs 0 0 (QI G B S sz below args s Q) (F0 m 5 ls [])) := ⟨_, fun v1 v2 h => Iff.rfl⟩
    refine (hP5 v1 v2 h).1 (hw P5 (fun v1 v2 h hw => (hP5 v1 v2 h).2 (fun H locs ls hH hl => ?_))) H locs ls hH hl
    have hK5 : ∀ (v1 : Int32) (v2 : Int32) (h : Hp) (H : Heap) (locs : List Loc) (ls : Array Slot), HH G B S h sz s H locs → lv_has ls 3 [(0, .ref v0), (1, .int v1), (2, .int v2)] → P5 v1 v2 h → W p l e rm_X6_judge s m args below meth c H locs 0 0 (QI G B S sz below args s Q) (F0 m 5 ls []) := fun v1 v2 h H locs ls hH hl hk => (hP5 v1 v2 h).1 hk H locs ls hH hl
    refine lv_iload_n hx hb dX6_judge_5 rfl (lv_at hl 2 rfl) ?_
    refine lv_aload_n hx hb dX6_judge_6 rfl (lv_at hl 0 rfl) ?_
    obtain ⟨k1, hw⟩ := hw
    refine hv_get (ci := 6) (k := 8) (v := .int (h v0 8)) hx hb hown hKK hH cf6 (by decide) fl_X6_244 rfl k1 rfl dX6_judge_7 ?_
    refine lv_icmp_ge (tgt := 59) hx hb dX6_judge_10 (by decide) (fun c2 => ?_) (fun c2 => ?_)
    · have hw := ite_t hw c2
      refine lv_aload_n hx hb dX6_judge_59 rfl (lv_at hl 0 rfl) ?_
      refine lv_iconst (v := (nI 0)) hx hb dX6_judge_60 (by decide) ?_
      refine hv_put (ci := 6) (k := 8) hx hb hown hKK hH cf6 (by decide) fl_X6_244 rfl rfl rfl k1 rfl rfl dX6_judge_61 (fun H locs hH => ?_)
      refine lv_iload_n hx hb dX6_judge_64 rfl (lv_at hl 1 rfl) ?_
      exact hv_iret hx hb hr hlk hH hw dX6_judge_65
    · have hw := ite_f hw c2
      refine lv_iload_n hx hb dX6_judge_13 rfl (lv_at hl 1 rfl) ?_
      refine lv_bipush (v := (-9)) hx hb dX6_judge_14 (by decide) ?_
      refine lv_icmp_ne (tgt := 59) hx hb dX6_judge_16 (by decide) (fun c3 => ?_) (fun c3 => ?_)
      · have hw := ite_f hw c3
        refine lv_aload_n hx hb dX6_judge_59 rfl (lv_at hl 0 rfl) ?_
        refine lv_iconst (v := (nI 0)) hx hb dX6_judge_60 (by decide) ?_
        refine hv_put (ci := 6) (k := 8) hx hb hown hKK hH cf6 (by decide) fl_X6_244 rfl rfl rfl k1 rfl rfl dX6_judge_61 (fun H locs hH => ?_)
        refine lv_iload_n hx hb dX6_judge_64 rfl (lv_at hl 1 rfl) ?_
        exact hv_iret hx hb hr hlk hH hw dX6_judge_65
      · have hw := ite_t hw c3
        refine lv_iload_n hx hb dX6_judge_19 rfl (lv_at hl 2 rfl) ?_
        refine lv_aload_n hx hb dX6_judge_20 rfl (lv_at hl 0 rfl) ?_
        refine hv_get (ci := 6) (k := 0) (v := .ref (S.2 v0 0)) hx hb hown hKK hH cf6 (by decide) fl_X6_10 rfl k1 rfl dX6_judge_21 ?_
        obtain ⟨k4, hw⟩ := hw
        refine hv_getN (ci := 1) (k := 4) (v := .int (h (S.2 v0 0) 4)) hx hb hown hKK hH cf1 (by decide) fl_X6_60 rfl k4 rfl dX6_judge_24 ?_
        refine lv_icmp_ge (tgt := 51) hx hb dX6_judge_27 (by decide) (fun c5 => ?_) (fun c5 => ?_)
        · have hw := ite_t hw c5
          refine lv_iload_n hx hb dX6_judge_51 rfl (lv_at hl 2 rfl) ?_
          refine lv_istore_n (lv' := [(1, .int v2), (0, .ref v0), (2, .int v2)]) hx hb dX6_judge_52 rfl hl (by decide) rfl (fun ls hl => ?_)
          refine lv_iinc (v := v2 + (nI 1)) (lv' := [(2, .int (v2 + (nI 1))), (1, .int v2), (0, .ref v0)]) hx hb dX6_judge_53 hl (k := 2) rfl rfl (by decide) rfl (fun ls hl => ?_)
          refine lv_goto (tgt := 5) hx hb dX6_judge_56 (by decide) ?_
          exact hK5 _ _ _ H locs ls hH (lv_sub hl [2, 1, 0] rfl) hw
        · have hw := ite_f hw c5
          refine lv_aload_n hx hb dX6_judge_30 rfl (lv_at hl 0 rfl) ?_
          refine hv_get (ci := 6) (k := 0) (v := .ref (S.2 v0 0)) hx hb hown hKK hH cf6 (by decide) fl_X6_10 rfl k1 rfl dX6_judge_31 ?_
          refine hv_getN (ci := 1) (k := 3) (v := .ref (S.2 (S.2 v0 0) 3)) hx hb hown hKK hH cf1 (by decide) fl_X6_105 rfl k4 rfl dX6_judge_34 ?_
          refine lv_iload_n hx hb dX6_judge_37 rfl (lv_at hl 2 rfl) ?_
          obtain ⟨k6, hw⟩ := hw
          refine hv_aald (t := 1) hx hb (by decide) hKK hH k6 dX6_judge_38 ?_
          obtain ⟨k7, hw⟩ := hw
          refine hv_getN (ci := 0) (k := 4) (v := .int (h (S.2 (S.2 (S.2 v0 0) 3) (ix v2)) 4)) hx hb hown hKK hH cf0 (by decide) fl_X6_117 rfl k7 rfl dX6_judge_39 ?_
          refine lv_aload_n hx hb dX6_judge_42 rfl (lv_at hl 0 rfl) ?_
          refine hv_get (ci := 6) (k := 7) (v := .ref (S.2 v0 7)) hx hb hown hKK hH cf6 (by decide) fl_X6_47 rfl k1 rfl dX6_judge_43 ?_
          refine lv_iload_n hx hb dX6_judge_46 rfl (lv_at hl 2 rfl) ?_
          obtain ⟨k8, hw⟩ := hw
          refine hv_iald hx hb hKK hH k8 dX6_judge_47 ?_
          refine lv_icmp_eq (tgt := 53) hx hb dX6_judge_48 (by decide) (fun c9 => ?_) (fun c9 => ?_)
          · have hw := ite_t hw c9
            refine lv_iinc (v := v2 + (nI 1)) (lv' := [(2, .int (v2 + (nI 1))), (0, .ref v0), (1, .int v1)]) hx hb dX6_judge_53 hl (k := 2) rfl rfl (by decide) rfl (fun ls hl => ?_)
            refine lv_goto (tgt := 5) hx hb dX6_judge_56 (by decide) ?_
            exact hK5 _ _ _ H locs ls hH (lv_sub hl [1, 2, 0] rfl) hw
          · have hw := ite_f hw c9
            refine lv_iload_n hx hb dX6_judge_51 rfl (lv_at hl 2 rfl) ?_
            refine lv_istore_n (lv' := [(1, .int v2), (0, .ref v0), (2, .int v2)]) hx hb dX6_judge_52 rfl hl (by decide) rfl (fun ls hl => ?_)
            refine lv_iinc (v := v2 + (nI 1)) (lv' := [(2, .int (v2 + (nI 1))), (1, .int v2), (0, .ref v0)]) hx hb dX6_judge_53 hl (k := 2) rfl rfl (by decide) rfl (fun ls hl => ?_)
            refine lv_goto (tgt := 5) hx hb dX6_judge_56 (by decide) ?_
            exact hK5 _ _ _ H locs ls hH (lv_sub hl [2, 1, 0] rfl) hw
  unfold w_X6_judge at hw
  show W p l e rm_X6_judge s m args below meth c H [] 0 0 (QI G B S sz below args s Q) (F0 m 0 ls [])
  generalize ([] : List Loc) = locs at hH ⊢
  refine lv_bipush (v := (-9)) hx hb dX6_judge_0 (by decide) ?_
  refine lv_istore_n (lv' := [(1, .int (-9)), (0, .ref v0)]) hx hb dX6_judge_2 rfl hl (by decide) rfl (fun ls hl => ?_)
  refine lv_iconst (v := (nI 0)) hx hb dX6_judge_3 (by decide) ?_
  refine lv_istore_n (lv' := [(2, .int (nI 0)), (1, .int (-9)), (0, .ref v0)]) hx hb dX6_judge_4 rfl hl (by decide) rfl (fun ls hl => ?_)
  exact c5 _ _ _ _ H locs ls hH (lv_sub hl [2, 1, 0] rfl) hw
abbrev rm_X6_clear : Room := { frames := 0, cells := 0, slots := 0, locals := 0 }
set_option maxHeartbeats 4000000 in
set_option maxRecDepth 100000 in
theorem m_X6_clear {l : Launch} {G : Gl} {B sz : Nat} {S : St} (v0 : Nat) (h : Hp) (Q : Int32 → Hp → Prop) (hw : w_X6_clear S v0 h Q) : MI l G B sz S yX6_clear cX6_clear 2 .int rm_X6_clear [.ref v0] h Q := by
  refine met_of rfl rfl ?_
  intro p e s m args below meth c hMB H ls hH hl
  obtain ⟨hx, hb, hml, hown, hKK, hr, hlk⟩ := hMB
  replace hl : lv_has ls 2 [(0, .ref v0)] := hl
  unfold w_X6_clear at hw
  show W p l e rm_X6_clear s m args below meth c H [] 0 0 (QI G B S sz below args s Q) (F0 m 0 ls [])
  generalize ([] : List Loc) = locs at hH ⊢
  refine lv_aload_n hx hb dX6_clear_0 rfl (lv_at hl 0 rfl) ?_
  obtain ⟨k1, hw⟩ := hw
  refine hv_get (ci := 6) (k := 8) (v := .int (h v0 8)) hx hb hown hKK hH cf6 (by decide) fl_X6_244 rfl k1 rfl dX6_clear_1 ?_
  refine lv_istore_n (lv' := [(1, .int (h v0 8)), (0, .ref v0)]) hx hb dX6_clear_4 rfl hl (by decide) rfl (fun ls hl => ?_)
  refine lv_aload_n hx hb dX6_clear_5 rfl (lv_at hl 1 rfl) ?_
  refine lv_iconst (v := (nI 0)) hx hb dX6_clear_6 (by decide) ?_
  refine hv_put (ci := 6) (k := 8) hx hb hown hKK hH cf6 (by decide) fl_X6_244 rfl rfl rfl k1 rfl rfl dX6_clear_7 (fun H locs hH => ?_)
  refine lv_iload_n hx hb dX6_clear_10 rfl (lv_at hl 0 rfl) ?_
  exact hv_iret hx hb hr hlk hH hw dX6_clear_11
