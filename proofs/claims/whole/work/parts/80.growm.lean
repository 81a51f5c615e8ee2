abbrev rm_X2_steadyPair : Room := { frames := 5, cells := 2, slots := 8, locals := 145 }
set_option maxHeartbeats 4000000 in
set_option maxRecDepth 100000 in
theorem m_X2_steadyPair {l : Launch} {Z : Zg} {G : Gl} {B sz : Nat} {S : St} (v0 : Nat) (v1 : Nat) (v2 : Int32) (v3 : Int32) (v4 : Int32) (h : Hp) (Q : Int32 → St → Nat → Hp → Prop) (hw : w_X2_steadyPair S sz v0 v1 v2 v3 v4 h Q) : MIg Z l G B sz S yX2_steadyPair cX2_steadyPair 8 .int rm_X2_steadyPair [.ref v0, .ref v1, .int v2, .int v3, .int v4] h Q := by
  refine met_ofg rfl rfl ?_
  intro p e s m args below meth c hMB H ls hH hl
  obtain ⟨⟨⟨hx, hb, hml, hown, hKK, hr, hlk⟩, hSK⟩, hNK⟩ := hMB
  replace hl : lv_has ls 8 [(0, .ref v0), (1, .ref v1), (2, .int v2), (3, .int v3), (4, .int v4)] := hl
  have c109 : ∀ (S : St) (sz : Nat)  (v5 : Nat) (v6 : Nat) (v7 : Int32) (h : Hp) (H : Heap) (locs : List Loc) (ls : Array Slot), HH G B S h sz s H locs → lv_has ls 8 [(5, .ref v5), (6, .ref v6), (7, .int v7)] → w_X2_steadyPair_c109 S sz v5 v6 v7 h Q → W p l e rm_X2_steadyPair s m args below meth c H locs 2 8 (QIg G B below args s rm_X2_steadyPair.cells rm_X2_steadyPair.slots Q) (F0 m 109 ls []) := by
    intro S sz  v5 v6 v7 h H locs ls hH hl hw
    unfold w_X2_steadyPair_c109 at hw
    obtain ⟨P109, hP109⟩ : ∃ P : Int32 → Hp → Prop, ∀ (v7 : Int32) (h : Hp), P v7 h ↔ (∀ (H : Heap) (locs : List Loc) (ls : Array Slot), HH G B S h sz s H locs → lv_has ls 8 [(5, .ref v5), (6, .ref v6), (7, .int v7)] → W p l e rm_X2_steadyPair s m args below meth c H locs 2 8 (QIg G B below args s rm_X2_steadyPair.cells rm_X2_steadyPair.slots Q) (F0 m 109 ls [])) := ⟨_, fun v7 h => Iff.rfl⟩
    refine (hP109 v7 h).1 (hw P109 (fun v7 h hw => (hP109 v7 h).2 (fun H locs ls hH hl => ?_))) H locs ls hH hl
    have hK109 : ∀ (v7 : Int32) (h : Hp) (H : Heap) (locs : List Loc) (ls : Array Slot), HH G B S h sz s H locs → lv_has ls 8 [(5, .ref v5), (6, .ref v6), (7, .int v7)] → P109 v7 h → W p l e rm_X2_steadyPair s m args below meth c H locs 2 8 (QIg G B below args s rm_X2_steadyPair.cells rm_X2_steadyPair.slots Q) (F0 m 109 ls []) := fun v7 h H locs ls hH hl hk => (hP109 v7 h).1 hk H locs ls hH hl
    refine lv_iload hx hb dX2_steadyPair_109 (lv_at hl 2 rfl) ?_
    refine lv_iconst (v := (nI 4)) hx hb dX2_steadyPair_111 (by decide) ?_
    refine lv_icmp_ge (tgt := 164) hx hb dX2_steadyPair_112 (by decide) (fun c1 => ?_) (fun c1 => ?_)
    · have hw := ite_t hw c1
      refine lv_bipush (v := (-9)) hx hb dX2_steadyPair_164 (by decide) ?_
      exact hg_iret hx hb hr hlk hH (Nat.le_of_ble_eq_true rfl) (Nat.le_of_ble_eq_true rfl) hw dX2_steadyPair_166
    · have hw := ite_f hw c1
      refine lv_aload hx hb dX2_steadyPair_115 (lv_at hl 0 rfl) ?_
      refine lv_iload hx hb dX2_steadyPair_117 (lv_at hl 2 rfl) ?_
      refine lv_iconst (v := (nI 2)) hx hb dX2_steadyPair_119 (by decide) ?_
      refine lv_ixor hx hb dX2_steadyPair_120 ?_
      obtain ⟨k2, hw⟩ := hw
      refine hv_iald hx hb hKK hH k2 dX2_steadyPair_121 ?_
      refine lv_aload hx hb dX2_steadyPair_122 (lv_at hl 0 rfl) ?_
      refine lv_iload hx hb dX2_steadyPair_124 (lv_at hl 2 rfl) ?_
      obtain ⟨k3, hw⟩ := hw
      refine hv_iald hx hb hKK hH k3 dX2_steadyPair_126 ?_
      refine lv_icmp_gt (tgt := 158) hx hb dX2_steadyPair_127 (by decide) (fun c4 => ?_) (fun c4 => ?_)
      · have hw := ite_t hw c4
        refine lv_iinc (v := v7 + (nI 1)) (lv' := [(7, .int (v7 + (nI 1))), (5, .ref v5), (6, .ref v6)]) hx hb dX2_steadyPair_158 hl (k := 2) rfl rfl (by decide) rfl (fun ls hl => ?_)
        refine lv_goto (tgt := 109) hx hb dX2_steadyPair_161 (by decide) ?_
        exact hK109 _ _ H locs ls hH (lv_sub hl [1, 2, 0] rfl) hw
      · have hw := ite_f hw c4
        refine lv_aload hx hb dX2_steadyPair_130 (lv_at hl 1 rfl) ?_
        refine lv_iload hx hb dX2_steadyPair_132 (lv_at hl 2 rfl) ?_
        refine lv_iconst (v := (nI 1)) hx hb dX2_steadyPair_134 (by decide) ?_
        refine lv_ixor hx hb dX2_steadyPair_135 ?_
        obtain ⟨k5, hw⟩ := hw
        refine hv_iald hx hb hKK hH k5 dX2_steadyPair_136 ?_
        refine lv_aload hx hb dX2_steadyPair_137 (lv_at hl 1 rfl) ?_
        refine lv_iload hx hb dX2_steadyPair_139 (lv_at hl 2 rfl) ?_
        obtain ⟨k6, hw⟩ := hw
        refine hv_iald hx hb hKK hH k6 dX2_steadyPair_141 ?_
        refine lv_icmp_gt (tgt := 158) hx hb dX2_steadyPair_142 (by decide) (fun c7 => ?_) (fun c7 => ?_)
        · have hw := ite_t hw c7
          refine lv_iinc (v := v7 + (nI 1)) (lv' := [(7, .int (v7 + (nI 1))), (5, .ref v5), (6, .ref v6)]) hx hb dX2_steadyPair_158 hl (k := 2) rfl rfl (by decide) rfl (fun ls hl => ?_)
          refine lv_goto (tgt := 109) hx hb dX2_steadyPair_161 (by decide) ?_
          exact hK109 _ _ H locs ls hH (lv_sub hl [1, 2, 0] rfl) hw
        · have hw := ite_f hw c7
          refine lv_bipush (v := (nI 10)) hx hb dX2_steadyPair_145 (by decide) ?_
          refine lv_iload hx hb dX2_steadyPair_147 (lv_at hl 2 rfl) ?_
          refine lv_iconst (v := (nI 1)) hx hb dX2_steadyPair_149 (by decide) ?_
          refine lv_ishr hx hb dX2_steadyPair_150 ?_
          refine lv_imul hx hb dX2_steadyPair_151 ?_
          refine lv_iload hx hb dX2_steadyPair_152 (lv_at hl 2 rfl) ?_
          refine lv_iconst (v := (nI 1)) hx hb dX2_steadyPair_154 (by decide) ?_
          refine lv_iand hx hb dX2_steadyPair_155 ?_
          refine lv_iadd hx hb dX2_steadyPair_156 ?_
          exact hg_iret hx hb hr hlk hH (Nat.le_of_ble_eq_true rfl) (Nat.le_of_ble_eq_true rfl) hw dX2_steadyPair_157
  have c13 : ∀ (S : St) (sz : Nat)  (v0 : Nat) (v1 : Nat) (v2 : Int32) (v3 : Int32) (v4 : Int32) (v5 : Nat) (v6 : Nat) (v7 : Int32) (h : Hp) (H : Heap) (locs : List Loc) (ls : Array Slot), HH G B S h sz s H locs → lv_has ls 8 [(0, .ref v0), (1, .ref v1), (2, .int v2), (3, .int v3), (4, .int v4), (5, .ref v5), (6, .ref v6), (7, .int v7)] → w_X2_steadyPair_c13 S sz v0 v1 v2 v3 v4 v5 v6 v7 h Q → W p l e rm_X2_steadyPair s m args below meth c H locs 2 8 (QIg G B below args s rm_X2_steadyPair.cells rm_X2_steadyPair.slots Q) (F0 m 13 ls []) := by
    intro S sz  v0 v1 v2 v3 v4 v5 v6 v7 h H locs ls hH hl hw
    unfold w_X2_steadyPair_c13 at hw
    obtain ⟨P13, hP13⟩ : ∃ P : Int32 → Hp → Prop, ∀ (v7 : Int32) (h : Hp), P v7 h ↔ (∀ (H : Heap) (locs : List Loc) (ls : Array Slot), HH G B S h sz s H locs → lv_has ls 8 [(0, .ref v0), (1, .ref v1), (2, .int v2), (3, .int v3), (4, .int v4), (5, .ref v5), (6, .ref v6), (7, .int v7)] → W p l e rm_X2_steadyPair s m args below meth c H locs 2 8 (QIg G B below args s rm_X2_steadyPair.cells rm_X2_steadyPair.slots Q) (F0 m 13 ls [])) := ⟨_, fun v7 h => Iff.rfl⟩
    refine (hP13 v7 h).1 (hw P13 (fun v7 h hw => (hP13 v7 h).2 (fun H locs ls hH hl => ?_))) H locs ls hH hl
    have hK13 : ∀ (v7 : Int32) (h : Hp) (H : Heap) (locs : List Loc) (ls : Array Slot), HH G B S h sz s H locs → lv_has ls 8 [(0, .ref v0), (1, .ref v1), (2, .int v2), (3, .int v3), (4, .int v4), (5, .ref v5), (6, .ref v6), (7, .int v7)] → P13 v7 h → W p l e rm_X2_steadyPair s m args below meth c H locs 2 8 (QIg G B below args s rm_X2_steadyPair.cells rm_X2_steadyPair.slots Q) (F0 m 13 ls []) := fun v7 h H locs ls hH hl hk => (hP13 v7 h).1 hk H locs ls hH hl
    refine lv_iload hx hb dX2_steadyPair_13 (lv_at hl 7 rfl) ?_
    refine lv_iconst (v := (nI 4)) hx hb dX2_steadyPair_15 (by decide) ?_
    refine lv_icmp_ge (tgt := 106) hx hb dX2_steadyPair_16 (by decide) (fun c1 => ?_) (fun c1 => ?_)
    · have hw := ite_t hw c1
      refine lv_iconst (v := (nI 0)) hx hb dX2_steadyPair_106 (by decide) ?_
      refine lv_istore (lv' := [(7, .int (nI 0)), (0, .ref v0), (1, .ref v1), (2, .int v2), (3, .int v3), (4, .int v4), (5, .ref v5), (6, .ref v6)]) hx hb dX2_steadyPair_107 hl (by decide) rfl (fun ls hl => ?_)
      exact c109 _ _ _ _ _ _ H locs ls hH (lv_sub hl [6, 7, 0] rfl) hw
    · have hw := ite_f hw c1
      refine lv_aload_n hx hb dX2_steadyPair_19 rfl (lv_at hl 0 rfl) ?_
      refine lv_aload_n hx hb dX2_steadyPair_20 rfl (lv_at hl 1 rfl) ?_
      obtain ⟨k2, hw⟩ := hw
      refine hv_cVA (rm := rm_X2_think) (As := [.ref v1]) (rest := []) (k := 1) (ci := 2) hx hb hml hown hKK hH cf2 k2 (m_X2_think v0 v1 _ _ hw) cw_X2_22 ⟨Nat.le_of_ble_eq_true rfl, Nat.le_of_ble_eq_true rfl⟩ rfl hl.1 rfl (Nat.le_of_ble_eq_true rfl) ⟨Nat.le_of_ble_eq_true rfl, Nat.le_of_ble_eq_true rfl⟩ dX2_steadyPair_21 (fun r4 h3 H locs hH hw => ?_)
      refine lv_pop hx hb dX2_steadyPair_24 rfl ?_
      refine lv_aload_n hx hb dX2_steadyPair_25 rfl (lv_at hl 0 rfl) ?_
      refine lv_iload_n hx hb dX2_steadyPair_26 rfl (lv_at hl 2 rfl) ?_
      refine lv_iload hx hb dX2_steadyPair_27 (lv_at hl 7 rfl) ?_
      refine lv_iconst (v := (nI 1)) hx hb dX2_steadyPair_29 (by decide) ?_
      refine lv_ishr hx hb dX2_steadyPair_30 ?_
      refine hv_cVV (rm := rm_X2_restIf) (As := [.int v2, .int (ishr v7 (nI 1))]) (rest := []) (k := 2) (ci := 2) hx hb hml hown hKK hH cf2 k2 (m_X2_restIf v0 v2 (ishr v7 (nI 1)) _ _ hw) cw_X2_98 ⟨Nat.le_of_ble_eq_true rfl, Nat.le_of_ble_eq_true rfl⟩ rfl hl.1 rfl (Nat.le_of_ble_eq_true rfl) ⟨Nat.le_of_ble_eq_true rfl, Nat.le_of_ble_eq_true rfl⟩ dX2_steadyPair_31 (fun h5 H locs hH hw => ?_)
      refine lv_aload_n hx hb dX2_steadyPair_34 rfl (lv_at hl 0 rfl) ?_
      refine lv_iload_n hx hb dX2_steadyPair_35 rfl (lv_at hl 3 rfl) ?_
      refine lv_iload hx hb dX2_steadyPair_36 (lv_at hl 7 rfl) ?_
      refine lv_iconst (v := (nI 1)) hx hb dX2_steadyPair_38 (by decide) ?_
      refine lv_iand hx hb dX2_steadyPair_39 ?_
      refine hv_cVV (rm := rm_X2_restIf) (As := [.int v3, .int (v7 &&& (nI 1))]) (rest := []) (k := 2) (ci := 2) hx hb hml hown hKK hH cf2 k2 (m_X2_restIf v0 v3 (v7 &&& (nI 1)) _ _ hw) cw_X2_98 ⟨Nat.le_of_ble_eq_true rfl, Nat.le_of_ble_eq_true rfl⟩ rfl hl.1 rfl (Nat.le_of_ble_eq_true rfl) ⟨Nat.le_of_ble_eq_true rfl, Nat.le_of_ble_eq_true rfl⟩ dX2_steadyPair_40 (fun h6 H locs hH hw => ?_)
      refine lv_aload_n hx hb dX2_steadyPair_43 rfl (lv_at hl 0 rfl) ?_
      refine hv_get (ci := 2) (k := 0) (v := .ref (S.2 v0 0)) hx hb hown hKK hH cf2 (by decide) fl_X2_12 rfl k2 rfl dX2_steadyPair_44 ?_
      refine lv_iload hx hb dX2_steadyPair_47 (lv_at hl 4 rfl) ?_
      obtain ⟨k7, hw⟩ := hw
      refine hv_cVV (rm := rm_X1_passNights) (As := [.int v4]) (rest := []) (k := 1) (ci := 1) hx hb hml hown hKK hH cf1 k7 (m_X1_passNights (S.2 v0 0) v4 _ _ hw) cw_X2_26 ⟨Nat.le_of_ble_eq_true rfl, Nat.le_of_ble_eq_true rfl⟩ rfl hl.1 rfl (Nat.le_of_ble_eq_true rfl) ⟨Nat.le_of_ble_eq_true rfl, Nat.le_of_ble_eq_true rfl⟩ dX2_steadyPair_49 (fun h8 H locs hH hw => ?_)
      refine lv_aload hx hb dX2_steadyPair_52 (lv_at hl 5 rfl) ?_
      refine lv_iload hx hb dX2_steadyPair_54 (lv_at hl 7 rfl) ?_
      refine lv_aload_n hx hb dX2_steadyPair_56 rfl (lv_at hl 0 rfl) ?_
      refine hv_get (ci := 2) (k := 0) (v := .ref (S.2 v0 0)) hx hb hown hKK hH cf2 (by decide) fl_X2_12 rfl k2 rfl dX2_steadyPair_57 ?_
      refine hv_getN (ci := 1) (k := 3) (v := .ref (S.2 (S.2 v0 0) 3)) hx hb hown hKK hH cf1 (by decide) fl_X2_30 rfl k7 rfl dX2_steadyPair_60 ?_
      refine lv_iload_n hx hb dX2_steadyPair_63 rfl (lv_at hl 2 rfl) ?_
      obtain ⟨k9, hw⟩ := hw
      refine hv_aald (t := 1) hx hb (by decide) hKK hH k9 dX2_steadyPair_64 ?_
      obtain ⟨k10, hw⟩ := hw
      refine hv_getN (ci := 0) (k := 7) (v := .int (h8 (S.2 (S.2 (S.2 v0 0) 3) (ix v2)) 7)) hx hb hown hKK hH cf0 (by decide) fl_X2_73 rfl k10 rfl dX2_steadyPair_65 ?_
      refine lv_iconst (v := (nI 5)) hx hb dX2_steadyPair_68 (by decide) ?_
      refine lv_iload hx hb dX2_steadyPair_69 (lv_at hl 7 rfl) ?_
      refine lv_iconst (v := (nI 1)) hx hb dX2_steadyPair_71 (by decide) ?_
      refine lv_ishr hx hb dX2_steadyPair_72 ?_
      refine lv_imul hx hb dX2_steadyPair_73 ?_
      refine lv_iadd hx hb dX2_steadyPair_74 ?_
      obtain ⟨k11, hw⟩ := hw
      refine hv_iast hx hb hKK hH k11 dX2_steadyPair_75 (fun H locs hH => ?_)
      refine lv_aload hx hb dX2_steadyPair_76 (lv_at hl 6 rfl) ?_
      refine lv_iload hx hb dX2_steadyPair_78 (lv_at hl 7 rfl) ?_
      refine lv_aload_n hx hb dX2_steadyPair_80 rfl (lv_at hl 0 rfl) ?_
      refine hv_get (ci := 2) (k := 0) (v := .ref (S.2 v0 0)) hx hb hown hKK hH cf2 (by decide) fl_X2_12 rfl k2 rfl dX2_steadyPair_81 ?_
      refine hv_getN (ci := 1) (k := 3) (v := .ref (S.2 (S.2 v0 0) 3)) hx hb hown hKK hH cf1 (by decide) fl_X2_30 rfl k7 rfl dX2_steadyPair_84 ?_
      refine lv_iload_n hx hb dX2_steadyPair_87 rfl (lv_at hl 3 rfl) ?_
      obtain ⟨k12, hw⟩ := hw
      refine hv_aald (t := 1) hx hb (by decide) hKK hH k12 dX2_steadyPair_88 ?_
      obtain ⟨k13, hw⟩ := hw
      refine hv_getN (ci := 0) (k := 7) (v := .int ((up h8 v5 (ix v7) ((h8 (S.2 (S.2 (S.2 v0 0) 3) (ix v2)) 7) + ((nI 5) * (ishr v7 (nI 1))))) (S.2 (S.2 (S.2 v0 0) 3) (ix v3)) 7)) hx hb hown hKK hH cf0 (by decide) fl_X2_73 rfl k13 rfl dX2_steadyPair_89 ?_
      refine lv_iconst (v := (nI 5)) hx hb dX2_steadyPair_92 (by decide) ?_
      refine lv_iload hx hb dX2_steadyPair_93 (lv_at hl 7 rfl) ?_
      refine lv_iconst (v := (nI 1)) hx hb dX2_steadyPair_95 (by decide) ?_
      refine lv_iand hx hb dX2_steadyPair_96 ?_
      refine lv_imul hx hb dX2_steadyPair_97 ?_
      refine lv_iadd hx hb dX2_steadyPair_98 ?_
      obtain ⟨k14, hw⟩ := hw
      refine hv_iast hx hb hKK hH k14 dX2_steadyPair_99 (fun H locs hH => ?_)
      refine lv_iinc (v := v7 + (nI 1)) (lv' := [(7, .int (v7 + (nI 1))), (0, .ref v0), (1, .ref v1), (2, .int v2), (3, .int v3), (4, .int v4), (5, .ref v5), (6, .ref v6)]) hx hb dX2_steadyPair_100 hl (k := 7) rfl rfl (by decide) rfl (fun ls hl => ?_)
      refine lv_goto (tgt := 13) hx hb dX2_steadyPair_103 (by decide) ?_
      exact hK13 _ _ H locs ls hH (lv_sub hl [1, 2, 3, 4, 5, 6, 7, 0] rfl) hw
  unfold w_X2_steadyPair at hw
  show W p l e rm_X2_steadyPair s m args below meth c H [] 0 0 (QIg G B below args s rm_X2_steadyPair.cells rm_X2_steadyPair.slots Q) (F0 m 0 ls [])
  generalize ([] : List Loc) = locs at hH ⊢
  refine lv_iconst (v := (nI 4)) hx hb dX2_steadyPair_0 (by decide) ?_
  refine hg_newi (N := 4) hx hb hKK hH (nI_pos (by decide)) (nI_clamp (by decide)) (by decide) (Nat.le_of_ble_eq_true rfl) (Nat.le_of_ble_eq_true rfl) dX2_steadyPair_1 (fun S r1 sz h2 H e3 e4 e5 e6 hH => ?_)
  have hw := hw S r1 sz h2 e3 e4 e5 e6
  try dsimp only at hw
  refine lv_astore (lv' := [(5, .ref r1), (0, .ref v0), (1, .ref v1), (2, .int v2), (3, .int v3), (4, .int v4)]) hx hb dX2_steadyPair_3 hl (by decide) rfl (fun ls hl => ?_)
  refine lv_iconst (v := (nI 4)) hx hb dX2_steadyPair_5 (by decide) ?_
  refine hg_newi (N := 4) hx hb hKK hH (nI_pos (by decide)) (nI_clamp (by decide)) (by decide) (Nat.le_of_ble_eq_true rfl) (Nat.le_of_ble_eq_true rfl) dX2_steadyPair_6 (fun S r7 sz h8 H e9 e10 e11 e12 hH => ?_)
  have hw := hw S r7 sz h8 e9 e10 e11 e12
  try dsimp only at hw
  refine lv_astore (lv' := [(6, .ref r7), (5, .ref r1), (0, .ref v0), (1, .ref v1), (2, .int v2), (3, .int v3), (4, .int v4)]) hx hb dX2_steadyPair_8 hl (by decide) rfl (fun ls hl => ?_)
  refine lv_iconst (v := (nI 0)) hx hb dX2_steadyPair_10 (by decide) ?_
  refine lv_istore (lv' := [(7, .int (nI 0)), (6, .ref r7), (5, .ref r1), (0, .ref v0), (1, .ref v1), (2, .int v2), (3, .int v3), (4, .int v4)]) hx hb dX2_steadyPair_11 hl (by decide) rfl (fun ls hl => ?_)
  exact c13 _ _ _ _ _ _ _ _ _ _ _ H locs ls hH (lv_sub hl [3, 4, 5, 6, 7, 2, 1, 0] rfl) hw
abbrev rm_X6_two : Room := { frames := 6, cells := 2, slots := 8, locals := 172 }
set_option maxHeartbeats 4000000 in
set_option maxRecDepth 100000 in
theorem m_X6_two {l : Launch} {Z : Zg} {G : Gl} {B sz : Nat} {S : St} (v0 : Nat) (v1 : Int32) (v2 : Int32) (v3 : Int32) (h : Hp) (Q : Int32 → St → Nat → Hp → Prop) (hw : w_X6_two S sz v0 v1 v2 v3 h Q) : MIg Z l G B sz S yX6_two cX6_two 5 .int rm_X6_two [.ref v0, .int v1, .int v2, .int v3] h Q := by
  refine met_ofg rfl rfl ?_
  intro p e s m args below meth c hMB H ls hH hl
  obtain ⟨⟨⟨hx, hb, hml, hown, hKK, hr, hlk⟩, hSK⟩, hNK⟩ := hMB
  replace hl : lv_has ls 5 [(0, .ref v0), (1, .int v1), (2, .int v2), (3, .int v3)] := hl
  unfold w_X6_two at hw
  show W p l e rm_X6_two s m args below meth c H [] 0 0 (QIg G B below args s rm_X6_two.cells rm_X6_two.slots Q) (F0 m 0 ls [])
  generalize ([] : List Loc) = locs at hH ⊢
  refine lv_aload_n hx hb dX6_two_0 rfl (lv_at hl 0 rfl) ?_
  refine lv_iload_n hx hb dX6_two_1 rfl (lv_at hl 1 rfl) ?_
  refine lv_iload_n hx hb dX6_two_2 rfl (lv_at hl 2 rfl) ?_
  obtain ⟨k1, hw⟩ := hw
  refine hv_cVI (rm := rm_X6_noPair) (As := [.int v1, .int v2]) (rest := []) (k := 2) (ci := 6) hx hb hml hown hKK hH cf6 k1 (m_X6_noPair v0 v1 v2 _ _ hw) cw_X6_223 ⟨Nat.le_of_ble_eq_true rfl, Nat.le_of_ble_eq_true rfl⟩ rfl hl.1 rfl (Nat.le_of_ble_eq_true rfl) ⟨Nat.le_of_ble_eq_true rfl, Nat.le_of_ble_eq_true rfl⟩ dX6_two_3 (fun r3 h2 H locs hH hw => ?_)
  refine lv_iload_n hx hb dX6_two_6 rfl (lv_at hl 3 rfl) ?_
  refine lv_iconst (v := (nI 1)) hx hb dX6_two_7 (by decide) ?_
  refine lv_bipush (v := (nI 30)) hx hb dX6_two_8 (by decide) ?_
  refine hv_cSI (rm := rm_X6_faultOfNumber) (As := [.int r3, .int v3, .int (nI 1), .int (nI 30)]) (rest := []) (k := 4) hx hb hml hown hKK hH (m_X6_faultOfNumber r3 v3 (nI 1) (nI 30) _ _ hw) cw_X6_68 ⟨Nat.le_of_ble_eq_true rfl, Nat.le_of_ble_eq_true rfl⟩ rfl hl.1 rfl (Nat.le_of_ble_eq_true rfl) ⟨Nat.le_of_ble_eq_true rfl, Nat.le_of_ble_eq_true rfl⟩ dX6_two_10 (fun r5 h4 H locs hH hw => ?_)
  refine lv_istore (lv' := [(4, .int r5), (0, .ref v0), (1, .int v1), (2, .int v2), (3, .int v3)]) hx hb dX6_two_13 hl (by decide) rfl (fun ls hl => ?_)
  refine lv_iload hx hb dX6_two_15 (lv_at hl 0 rfl) ?_
  refine lv_if_eq (tgt := 27) hx hb dX6_two_17 (by decide) (fun c6 => ?_) (fun c6 => ?_)
  · have hw := ite_t hw c6
    refine lv_aload_n hx hb dX6_two_27 rfl (lv_at hl 1 rfl) ?_
    refine hv_get (ci := 6) (k := 5) (v := .ref (S.2 v0 5)) hx hb hown hKK hH cf6 (by decide) fl_X6_36 rfl k1 rfl dX6_two_28 ?_
    refine lv_aload_n hx hb dX6_two_31 rfl (lv_at hl 1 rfl) ?_
    refine hv_get (ci := 6) (k := 0) (v := .ref (S.2 v0 0)) hx hb hown hKK hH cf6 (by decide) fl_X6_10 rfl k1 rfl dX6_two_32 ?_
    refine lv_iload_n hx hb dX6_two_35 rfl (lv_at hl 2 rfl) ?_
    refine lv_iload_n hx hb dX6_two_36 rfl (lv_at hl 3 rfl) ?_
    refine lv_iload_n hx hb dX6_two_37 rfl (lv_at hl 4 rfl) ?_
    obtain ⟨k7, hw⟩ := hw
    refine hg_cVI (rm := rm_X2_steadyPair) (As := [.ref (S.2 v0 0), .int v1, .int v2, .int v3]) (rest := []) (k := 4) (ci := 2) hx hb hml hown hKK hSK hNK hH cf2 k7 (m_X2_steadyPair (S.2 v0 5) (S.2 v0 0) v1 v2 v3 _ _ hw) cw_X6_251 ⟨Nat.le_of_ble_eq_true rfl, Nat.le_of_ble_eq_true rfl⟩ rfl hl.1 rfl (Nat.le_of_ble_eq_true rfl) ⟨Nat.le_of_ble_eq_true rfl, Nat.le_of_ble_eq_true rfl⟩ dX6_two_38 (fun r11 S sz h10 H locs hH hw => ?_)
    exact hg_iret hx hb hr hlk hH (Nat.le_of_ble_eq_true rfl) (Nat.le_of_ble_eq_true rfl) hw dX6_two_41
  · have hw := ite_f hw c6
    refine lv_aload_n hx hb dX6_two_20 rfl (lv_at hl 1 rfl) ?_
    refine lv_iload hx hb dX6_two_21 (lv_at hl 0 rfl) ?_
    refine hv_cVI (rm := rm_X6_refuse) (As := [.int r5]) (rest := []) (k := 1) (ci := 6) hx hb hml hown hKK hH cf6 k1 (m_X6_refuse v0 r5 _ _ hw) cw_X6_56 ⟨Nat.le_of_ble_eq_true rfl, Nat.le_of_ble_eq_true rfl⟩ rfl hl.1 rfl (Nat.le_of_ble_eq_true rfl) ⟨Nat.le_of_ble_eq_true rfl, Nat.le_of_ble_eq_true rfl⟩ dX6_two_23 (fun r13 h12 H locs hH hw => ?_)
    exact hg_iret hx hb hr hlk hH (Nat.le_of_ble_eq_true rfl) (Nat.le_of_ble_eq_true rfl) hw dX6_two_26
abbrev rm_X6_line : Room := { frames := 5, cells := 2, slots := 20, locals := 107 }
set_option maxHeartbeats 4000000 in
set_option maxRecDepth 100000 in
theorem m_X6_line {l : Launch} {Z : Zg} {G : Gl} {B sz : Nat} {S : St} (v0 : Nat) (v1 : Int32) (v2 : Int32) (h : Hp) (Q : Int32 → St → Nat → Hp → Prop) (hw : w_X6_line S sz v0 v1 v2 h Q) : MIg Z l G B sz S yX6_line cX6_line 4 .int rm_X6_line [.ref v0, .int v1, .int v2] h Q := by
  refine met_ofg rfl rfl ?_
  intro p e s m args below meth c hMB H ls hH hl
  obtain ⟨⟨⟨hx, hb, hml, hown, hKK, hr, hlk⟩, hSK⟩, hNK⟩ := hMB
  replace hl : lv_has ls 4 [(0, .ref v0), (1, .int v1), (2, .int v2)] := hl
  unfold w_X6_line at hw
  show W p l e rm_X6_line s m args below meth c H [] 0 0 (QIg G B below args s rm_X6_line.cells rm_X6_line.slots Q) (F0 m 0 ls [])
  generalize ([] : List Loc) = locs at hH ⊢
  refine lv_aload_n hx hb dX6_line_0 rfl (lv_at hl 0 rfl) ?_
  refine lv_iload_n hx hb dX6_line_1 rfl (lv_at hl 1 rfl) ?_
  obtain ⟨k1, hw⟩ := hw
  refine hv_cVI (rm := rm_X6_noHead) (As := [.int v1]) (rest := []) (k := 1) (ci := 6) hx hb hml hown hKK hH cf6 k1 (m_X6_noHead v0 v1 _ _ hw) cw_X6_64 ⟨Nat.le_of_ble_eq_true rfl, Nat.le_of_ble_eq_true rfl⟩ rfl hl.1 rfl (Nat.le_of_ble_eq_true rfl) ⟨Nat.le_of_ble_eq_true rfl, Nat.le_of_ble_eq_true rfl⟩ dX6_line_2 (fun r3 h2 H locs hH hw => ?_)
  refine lv_if_eq (tgt := 14) hx hb dX6_line_5 (by decide) (fun c4 => ?_) (fun c4 => ?_)
  · have hw := ite_t hw c4
    refine lv_iload_n hx hb dX6_line_14 rfl (lv_at hl 2 rfl) ?_
    refine lv_if_ge (tgt := 25) hx hb dX6_line_15 (by decide) (fun c5 => ?_) (fun c5 => ?_)
    · have hw := ite_t hw c5
      refine hg_sb hx hb hml hl.1 hown hKK hSK hNK hH cl_X6_279 in_J4 wi_J4 ci_X6_281 ⟨Nat.le_of_ble_eq_true rfl, Nat.le_of_ble_eq_true rfl⟩ (Nat.le_of_ble_eq_true rfl) ⟨Nat.le_of_ble_eq_true rfl, Nat.le_of_ble_eq_true rfl⟩ dX6_line_25 dX6_line_28 dX6_line_29 (fun S r6 sz h7 H locs e8 e9 e10 e11 hH => ?_)
      have hw := hw S r6 sz h7 e8 e9 e10 e11
      try dsimp only at hw
      refine lv_astore_n (lv' := [(3, .ref r6), (0, .ref v0), (1, .int v1), (2, .int v2)]) hx hb dX6_line_32 rfl hl (by decide) rfl (fun ls hl => ?_)
      refine lv_aload_n hx hb dX6_line_33 rfl (lv_at hl 1 rfl) ?_
      obtain ⟨k12, hw⟩ := hw
      refine hv_get (ci := 6) (k := 0) (v := .ref (S.2 v0 0)) hx hb hown hKK hH cf6 (by decide) fl_X6_10 rfl k12 rfl dX6_line_34 ?_
      obtain ⟨k13, hw⟩ := hw
      refine hv_getN (ci := 1) (k := 3) (v := .ref (S.2 (S.2 v0 0) 3)) hx hb hown hKK hH cf1 (by decide) fl_X6_105 rfl k13 rfl dX6_line_37 ?_
      refine lv_iload_n hx hb dX6_line_40 rfl (lv_at hl 2 rfl) ?_
      obtain ⟨k14, hw⟩ := hw
      refine hv_aald (t := 1) hx hb (by decide) hKK hH k14 dX6_line_41 ?_
      refine lv_aload_n hx hb dX6_line_42 rfl (lv_at hl 0 rfl) ?_
      obtain ⟨k15, hw⟩ := hw
      refine hz_cVV (rm := rm_X0_tell) (As := [.ref r6]) (rest := []) (k := 1) (ci := 0) hx hb hml hown hKK hSK hH cf0 k15 (m_X0_tell (S.2 (S.2 (S.2 v0 0) 3) (ix v1)) r6 _ _ hw) cw_X6_282 ⟨Nat.le_of_ble_eq_true rfl, Nat.le_of_ble_eq_true rfl⟩ rfl hl.1 rfl (Nat.le_of_ble_eq_true rfl) ⟨Nat.le_of_ble_eq_true rfl, Nat.le_of_ble_eq_true rfl⟩ dX6_line_43 (fun h16 H locs hH hw => ?_)
      refine lv_iload_n hx hb dX6_line_46 rfl (lv_at hl 3 rfl) ?_
      refine lv_aload_n hx hb dX6_line_47 rfl (lv_at hl 0 rfl) ?_
      obtain ⟨k17, hw⟩ := hw
      refine hz_cVI (rm := rm_J4_length_8abf5) (As := []) (rest := [.int v2]) (k := 0) (ci := 8) hx hb hml hown hKK hSK hH cf8 k17 (m_J4_length_8abf5 r6 _ _ hw) cw_X6_286 ⟨Nat.le_of_ble_eq_true rfl, Nat.le_of_ble_eq_true rfl⟩ rfl hl.1 rfl (Nat.le_of_ble_eq_true rfl) ⟨Nat.le_of_ble_eq_true rfl, Nat.le_of_ble_eq_true rfl⟩ dX6_line_48 (fun r19 h18 H locs hH hw => ?_)
      refine lv_icmp_ge (tgt := 62) hx hb dX6_line_51 (by decide) (fun c20 => ?_) (fun c20 => ?_)
      · have hw := ite_t hw c20
        refine lv_bipush (v := (-9)) hx hb dX6_line_62 (by decide) ?_
        exact hg_iret hx hb hr hlk hH (Nat.le_of_ble_eq_true rfl) (Nat.le_of_ble_eq_true rfl) hw dX6_line_64
      · have hw := ite_f hw c20
        refine lv_aload_n hx hb dX6_line_54 rfl (lv_at hl 0 rfl) ?_
        refine lv_iload_n hx hb dX6_line_55 rfl (lv_at hl 3 rfl) ?_
        refine hz_cVI (rm := rm_J4_charAt_5068e) (As := [.int v2]) (rest := []) (k := 1) (ci := 8) hx hb hml hown hKK hSK hH cf8 k17 (m_J4_charAt_5068e r6 v2 _ _ hw) cw_X6_288 ⟨Nat.le_of_ble_eq_true rfl, Nat.le_of_ble_eq_true rfl⟩ rfl hl.1 rfl (Nat.le_of_ble_eq_true rfl) ⟨Nat.le_of_ble_eq_true rfl, Nat.le_of_ble_eq_true rfl⟩ dX6_line_56 (fun r22 h21 H locs hH hw => ?_)
        refine lv_goto (tgt := 64) hx hb dX6_line_59 (by decide) ?_
        exact hg_iret hx hb hr hlk hH (Nat.le_of_ble_eq_true rfl) (Nat.le_of_ble_eq_true rfl) hw dX6_line_64
    · have hw := ite_f hw c5
      refine lv_aload_n hx hb dX6_line_18 rfl (lv_at hl 0 rfl) ?_
      refine lv_bipush (v := (-4)) hx hb dX6_line_19 (by decide) ?_
      refine hv_cVI (rm := rm_X6_refuse) (As := [.int (-4)]) (rest := []) (k := 1) (ci := 6) hx hb hml hown hKK hH cf6 k1 (m_X6_refuse v0 (-4) _ _ hw) cw_X6_56 ⟨Nat.le_of_ble_eq_true rfl, Nat.le_of_ble_eq_true rfl⟩ rfl hl.1 rfl (Nat.le_of_ble_eq_true rfl) ⟨Nat.le_of_ble_eq_true rfl, Nat.le_of_ble_eq_true rfl⟩ dX6_line_21 (fun r24 h23 H locs hH hw => ?_)
      exact hg_iret hx hb hr hlk hH (Nat.le_of_ble_eq_true rfl) (Nat.le_of_ble_eq_true rfl) hw dX6_line_24
  · have hw := ite_f hw c4
    refine lv_aload_n hx hb dX6_line_8 rfl (lv_at hl 0 rfl) ?_
    refine lv_iconst (v := (-1)) hx hb dX6_line_9 (by decide) ?_
    refine hv_cVI (rm := rm_X6_refuse) (As := [.int (-1)]) (rest := []) (k := 1) (ci := 6) hx hb hml hown hKK hH cf6 k1 (m_X6_refuse v0 (-1) _ _ hw) cw_X6_56 ⟨Nat.le_of_ble_eq_true rfl, Nat.le_of_ble_eq_true rfl⟩ rfl hl.1 rfl (Nat.le_of_ble_eq_true rfl) ⟨Nat.le_of_ble_eq_true rfl, Nat.le_of_ble_eq_true rfl⟩ dX6_line_10 (fun r26 h25 H locs hH hw => ?_)
    exact hg_iret hx hb hr hlk hH (Nat.le_of_ble_eq_true rfl) (Nat.le_of_ble_eq_true rfl) hw dX6_line_13
