abbrev rm_X7_faceSaid : Room := { frames := 0, cells := 0, slots := 0, locals := 0 }
set_option maxHeartbeats 4000000 in
set_option maxRecDepth 100000 in
theorem m_X7_faceSaid {l : Launch} {G : Gl} {B sz : Nat} {S : St} (v0 : Int64) (h : Hp) (Q : Int32 → Hp → Prop) (hw : w_X7_faceSaid S v0 h Q) : MI l G B sz S yX7_faceSaid cX7_faceSaid 2 .int rm_X7_faceSaid [.long v0] h Q := by
  refine met_of rfl rfl ?_
  intro p e s m args below meth c hMB H ls hH hl
  obtain ⟨hx, hb, hml, hown, hKK, hr, hlk⟩ := hMB
  replace hl : lv_has ls 2 [(0, .long v0)] := hl
  unfold w_X7_faceSaid at hw
  show W p l e rm_X7_faceSaid s m args below meth c H [] 0 0 (QI G B S sz below args s Q) (F0 m 0 ls [])
  generalize ([] : List Loc) = locs at hH ⊢
  refine lv_lload_n hx hb dX7_faceSaid_0 rfl (lv_at hl 0 rfl) ?_
  refine lv_ldc2 (v := (14 : Int64)) hx hb hown (hKK.use kc_X7_233 rfl _) dX7_faceSaid_1 ?_
  refine W.lcmp hx hb dX7_faceSaid_4 ?_
  refine lv_if_ne (tgt := 12) hx hb dX7_faceSaid_5 (by decide) (fun c1 => ?_) (fun c1 => ?_)
  · have hw := ite_f hw c1
    refine lv_lload_n hx hb dX7_faceSaid_12 rfl (lv_at hl 0 rfl) ?_
    refine lv_ldc2 (v := (5 : Int64)) hx hb hown (hKK.use kc_X7_235 rfl _) dX7_faceSaid_13 ?_
    refine W.lcmp hx hb dX7_faceSaid_16 ?_
    refine lv_if_ne (tgt := 24) hx hb dX7_faceSaid_17 (by decide) (fun c2 => ?_) (fun c2 => ?_)
    · have hw := ite_f hw c2
      refine lv_lload_n hx hb dX7_faceSaid_24 rfl (lv_at hl 0 rfl) ?_
      refine lv_ldc2 (v := (19 : Int64)) hx hb hown (hKK.use kc_X7_237 rfl _) dX7_faceSaid_25 ?_
      refine W.lcmp hx hb dX7_faceSaid_28 ?_
      refine lv_if_ne (tgt := 36) hx hb dX7_faceSaid_29 (by decide) (fun c3 => ?_) (fun c3 => ?_)
      · have hw := ite_f hw c3
        refine lv_lload_n hx hb dX7_faceSaid_36 rfl (lv_at hl 0 rfl) ?_
        refine lv_ldc2 (v := (23 : Int64)) hx hb hown (hKK.use kc_X7_239 rfl _) dX7_faceSaid_37 ?_
        refine W.lcmp hx hb dX7_faceSaid_40 ?_
        refine lv_if_ne (tgt := 48) hx hb dX7_faceSaid_41 (by decide) (fun c4 => ?_) (fun c4 => ?_)
        · have hw := ite_f hw c4
          refine lv_bipush (v := (-9)) hx hb dX7_faceSaid_48 (by decide) ?_
          exact hv_iret hx hb hr hlk hH hw dX7_faceSaid_50
        · have hw := ite_t hw c4
          refine lv_iconst (v := (nI 3)) hx hb dX7_faceSaid_44 (by decide) ?_
          refine lv_goto (tgt := 50) hx hb dX7_faceSaid_45 (by decide) ?_
          exact hv_iret hx hb hr hlk hH hw dX7_faceSaid_50
      · have hw := ite_t hw c3
        refine lv_iconst (v := (nI 2)) hx hb dX7_faceSaid_32 (by decide) ?_
        refine lv_goto (tgt := 50) hx hb dX7_faceSaid_33 (by decide) ?_
        exact hv_iret hx hb hr hlk hH hw dX7_faceSaid_50
    · have hw := ite_t hw c2
      refine lv_iconst (v := (nI 1)) hx hb dX7_faceSaid_20 (by decide) ?_
      refine lv_goto (tgt := 50) hx hb dX7_faceSaid_21 (by decide) ?_
      exact hv_iret hx hb hr hlk hH hw dX7_faceSaid_50
  · have hw := ite_t hw c1
    refine lv_iconst (v := (nI 0)) hx hb dX7_faceSaid_8 (by decide) ?_
    refine lv_goto (tgt := 50) hx hb dX7_faceSaid_9 (by decide) ?_
    exact hv_iret hx hb hr hlk hH hw dX7_faceSaid_50
abbrev rm_X7_isMore : Room := { frames := 0, cells := 0, slots := 0, locals := 0 }
set_option maxHeartbeats 4000000 in
set_option maxRecDepth 100000 in
theorem m_X7_isMore {l : Launch} {G : Gl} {B sz : Nat} {S : St} (v0 : Nat) (v1 : Int32) (v2 : Int32) (v3 : Int32) (h : Hp) (Q : Hp → Prop) (hw : w_X7_isMore S v0 v1 v2 v3 h Q) : MV l G B sz S yX7_isMore cX7_isMore 4 rm_X7_isMore [.ref v0, .int v1, .int v2, .int v3] h Q := by
  refine met_of rfl rfl ?_
  intro p e s m args below meth c hMB H ls hH hl
  obtain ⟨hx, hb, hml, hown, hKK, hr, hlk⟩ := hMB
  replace hl : lv_has ls 4 [(0, .ref v0), (1, .int v1), (2, .int v2), (3, .int v3)] := hl
  unfold w_X7_isMore at hw
  show W p l e rm_X7_isMore s m args below meth c H [] 0 0 (QV G B S sz below args s Q) (F0 m 0 ls [])
  generalize ([] : List Loc) = locs at hH ⊢
  refine lv_aload_n hx hb dX7_isMore_0 rfl (lv_at hl 0 rfl) ?_
  obtain ⟨k1, hw⟩ := hw
  refine hv_get (ci := 7) (k := 4) (v := .ref (S.2 v0 4)) hx hb hown hKK hH cf7 (by decide) fl_X7_22 rfl k1 rfl dX7_isMore_1 ?_
  refine lv_aload_n hx hb dX7_isMore_4 rfl (lv_at hl 0 rfl) ?_
  refine hv_get (ci := 7) (k := 13) (v := .int (h v0 13)) hx hb hown hKK hH cf7 (by decide) fl_X7_79 rfl k1 rfl dX7_isMore_5 ?_
  refine lv_iload_n hx hb dX7_isMore_8 rfl (lv_at hl 1 rfl) ?_
  obtain ⟨k2, hw⟩ := hw
  refine hv_iast hx hb hKK hH k2 dX7_isMore_9 (fun H locs hH => ?_)
  refine lv_aload_n hx hb dX7_isMore_10 rfl (lv_at hl 0 rfl) ?_
  refine hv_get (ci := 7) (k := 5) (v := .ref (S.2 v0 5)) hx hb hown hKK hH cf7 (by decide) fl_X7_25 rfl k1 rfl dX7_isMore_11 ?_
  refine lv_aload_n hx hb dX7_isMore_14 rfl (lv_at hl 0 rfl) ?_
  refine hv_get (ci := 7) (k := 13) (v := .int ((up h (S.2 v0 4) (ix (h v0 13)) v1) v0 13)) hx hb hown hKK hH cf7 (by decide) fl_X7_79 rfl k1 rfl dX7_isMore_15 ?_
  refine lv_iload_n hx hb dX7_isMore_18 rfl (lv_at hl 2 rfl) ?_
  obtain ⟨k3, hw⟩ := hw
  refine hv_iast hx hb hKK hH k3 dX7_isMore_19 (fun H locs hH => ?_)
  refine lv_aload_n hx hb dX7_isMore_20 rfl (lv_at hl 0 rfl) ?_
  refine hv_get (ci := 7) (k := 6) (v := .ref (S.2 v0 6)) hx hb hown hKK hH cf7 (by decide) fl_X7_28 rfl k1 rfl dX7_isMore_21 ?_
  refine lv_aload_n hx hb dX7_isMore_24 rfl (lv_at hl 0 rfl) ?_
  refine hv_get (ci := 7) (k := 13) (v := .int ((up (up h (S.2 v0 4) (ix (h v0 13)) v1) (S.2 v0 5) (ix ((up h (S.2 v0 4) (ix (h v0 13)) v1) v0 13)) v2) v0 13)) hx hb hown hKK hH cf7 (by decide) fl_X7_79 rfl k1 rfl dX7_isMore_25 ?_
  refine lv_iload_n hx hb dX7_isMore_28 rfl (lv_at hl 3 rfl) ?_
  obtain ⟨k4, hw⟩ := hw
  refine hv_iast hx hb hKK hH k4 dX7_isMore_29 (fun H locs hH => ?_)
  refine lv_aload_n hx hb dX7_isMore_30 rfl (lv_at hl 0 rfl) ?_
  refine hv_get (ci := 7) (k := 7) (v := .ref (S.2 v0 7)) hx hb hown hKK hH cf7 (by decide) fl_X7_31 rfl k1 rfl dX7_isMore_31 ?_
  refine lv_aload_n hx hb dX7_isMore_34 rfl (lv_at hl 0 rfl) ?_
  refine hv_get (ci := 7) (k := 13) (v := .int ((up (up (up h (S.2 v0 4) (ix (h v0 13)) v1) (S.2 v0 5) (ix ((up h (S.2 v0 4) (ix (h v0 13)) v1) v0 13)) v2) (S.2 v0 6) (ix ((up (up h (S.2 v0 4) (ix (h v0 13)) v1) (S.2 v0 5) (ix ((up h (S.2 v0 4) (ix (h v0 13)) v1) v0 13)) v2) v0 13)) v3) v0 13)) hx hb hown hKK hH cf7 (by decide) fl_X7_79 rfl k1 rfl dX7_isMore_35 ?_
  refine lv_iconst (v := (nI 0)) hx hb dX7_isMore_38 (by decide) ?_
  obtain ⟨k5, hw⟩ := hw
  refine hv_iast hx hb hKK hH k5 dX7_isMore_39 (fun H locs hH => ?_)
  refine lv_aload_n hx hb dX7_isMore_40 rfl (lv_at hl 0 rfl) ?_
  refine hv_get (ci := 7) (k := 8) (v := .ref (S.2 v0 8)) hx hb hown hKK hH cf7 (by decide) fl_X7_34 rfl k1 rfl dX7_isMore_41 ?_
  refine lv_aload_n hx hb dX7_isMore_44 rfl (lv_at hl 0 rfl) ?_
  refine hv_get (ci := 7) (k := 13) (v := .int ((up (up (up (up h (S.2 v0 4) (ix (h v0 13)) v1) (S.2 v0 5) (ix ((up h (S.2 v0 4) (ix (h v0 13)) v1) v0 13)) v2) (S.2 v0 6) (ix ((up (up h (S.2 v0 4) (ix (h v0 13)) v1) (S.2 v0 5) (ix ((up h (S.2 v0 4) (ix (h v0 13)) v1) v0 13)) v2) v0 13)) v3) (S.2 v0 7) (ix ((up (up (up h (S.2 v0 4) (ix (h v0 13)) v1) (S.2 v0 5) (ix ((up h (S.2 v0 4) (ix (h v0 13)) v1) v0 13)) v2) (S.2 v0 6) (ix ((up (up h (S.2 v0 4) (ix (h v0 13)) v1) (S.2 v0 5) (ix ((up h (S.2 v0 4) (ix (h v0 13)) v1) v0 13)) v2) v0 13)) v3) v0 13)) (nI 0)) v0 13)) hx hb hown hKK hH cf7 (by decide) fl_X7_79 rfl k1 rfl dX7_isMore_45 ?_
  refine lv_iconst (v := (nI 0)) hx hb dX7_isMore_48 (by decide) ?_
  obtain ⟨k6, hw⟩ := hw
  refine hv_iast hx hb hKK hH k6 dX7_isMore_49 (fun H locs hH => ?_)
  refine lv_aload_n hx hb dX7_isMore_50 rfl (lv_at hl 0 rfl) ?_
  refine hv_get (ci := 7) (k := 9) (v := .ref (S.2 v0 9)) hx hb hown hKK hH cf7 (by decide) fl_X7_37 rfl k1 rfl dX7_isMore_51 ?_
  refine lv_aload_n hx hb dX7_isMore_54 rfl (lv_at hl 0 rfl) ?_
  refine hv_get (ci := 7) (k := 13) (v := .int ((up (up (up (up (up h (S.2 v0 4) (ix (h v0 13)) v1) (S.2 v0 5) (ix ((up h (S.2 v0 4) (ix (h v0 13)) v1) v0 13)) v2) (S.2 v0 6) (ix ((up (up h (S.2 v0 4) (ix (h v0 13)) v1) (S.2 v0 5) (ix ((up h (S.2 v0 4) (ix (h v0 13)) v1) v0 13)) v2) v0 13)) v3) (S.2 v0 7) (ix ((up (up (up h (S.2 v0 4) (ix (h v0 13)) v1) (S.2 v0 5) (ix ((up h (S.2 v0 4) (ix (h v0 13)) v1) v0 13)) v2) (S.2 v0 6) (ix ((up (up h (S.2 v0 4) (ix (h v0 13)) v1) (S.2 v0 5) (ix ((up h (S.2 v0 4) (ix (h v0 13)) v1) v0 13)) v2) v0 13)) v3) v0 13)) (nI 0)) (S.2 v0 8) (ix ((up (up (up (up h (S.2 v0 4) (ix (h v0 13)) v1) (S.2 v0 5) (ix ((up h (S.2 v0 4) (ix (h v0 13)) v1) v0 13)) v2) (S.2 v0 6) (ix ((up (up h (S.2 v0 4) (ix (h v0 13)) v1) (S.2 v0 5) (ix ((up h (S.2 v0 4) (ix (h v0 13)) v1) v0 13)) v2) v0 13)) v3) (S.2 v0 7) (ix ((up (up (up h (S.2 v0 4) (ix (h v0 13)) v1) (S.2 v0 5) (ix ((up h (S.2 v0 4) (ix (h v0 13)) v1) v0 13)) v2) (S.2 v0 6) (ix ((up (up h (S.2 v0 4) (ix (h v0 13)) v1) (S.2 v0 5) (ix ((up h (S.2 v0 4) (ix (h v0 13)) v1) v0 13)) v2) v0 13)) v3) v0 13)) (nI 0)) v0 13)) (nI 0)) v0 13)) hx hb hown hKK hH cf7 (by decide) fl_X7_79 rfl k1 rfl dX7_isMore_55 ?_
  refine lv_iconst (v := (nI 0)) hx hb dX7_isMore_58 (by decide) ?_
  obtain ⟨k7, hw⟩ := hw
  refine hv_iast hx hb hKK hH k7 dX7_isMore_59 (fun H locs hH => ?_)
  refine lv_aload_n hx hb dX7_isMore_60 rfl (lv_at hl 0 rfl) ?_
  refine hv_get (ci := 7) (k := 10) (v := .ref (S.2 v0 10)) hx hb hown hKK hH cf7 (by decide) fl_X7_40 rfl k1 rfl dX7_isMore_61 ?_
  refine lv_aload_n hx hb dX7_isMore_64 rfl (lv_at hl 0 rfl) ?_
  refine hv_get (ci := 7) (k := 13) (v := .int ((up (up (up (up (up (up h (S.2 v0 4) (ix (h v0 13)) v1) (S.2 v0 5) (ix ((up h (S.2 v0 4) (ix (h v0 13)) v1) v0 13)) v2) (S.2 v0 6) (ix ((up (up h (S.2 v0 4) (ix (h v0 13)) v1) (S.2 v0 5) (ix ((up h (S.2 v0 4) (ix (h v0 13)) v1) v0 13)) v2) v0 13)) v3) (S.2 v0 7) (ix ((up (up (up h (S.2 v0 4) (ix (h v0 13)) v1) (S.2 v0 5) (ix ((up h (S.2 v0 4) (ix (h v0 13)) v1) v0 13)) v2) (S.2 v0 6) (ix ((up (up h (S.2 v0 4) (ix (h v0 13)) v1) (S.2 v0 5) (ix ((up h (S.2 v0 4) (ix (h v0 13)) v1) v0 13)) v2) v0 13)) v3) v0 13)) (nI 0)) (S.2 v0 8) (ix ((up (up (up (up h (S.2 v0 4) (ix (h v0 13)) v1) (S.2 v0 5) (ix ((up h (S.2 v0 4) (ix (h v0 13)) v1) v0 13)) v2) (S.2 v0 6) (ix ((up (up h (S.2 v0 4) (ix (h v0 13)) v1) (S.2 v0 5) (ix ((up h (S.2 v0 4) (ix (h v0 13)) v1) v0 13)) v2) v0 13)) v3) (S.2 v0 7) (ix ((up (up (up h (S.2 v0 4) (ix (h v0 13)) v1) (S.2 v0 5) (ix ((up h (S.2 v0 4) (ix (h v0 13)) v1) v0 13)) v2) (S.2 v0 6) (ix ((up (up h (S.2 v0 4) (ix (h v0 13)) v1) (S.2 v0 5) (ix ((up h (S.2 v0 4) (ix (h v0 13)) v1) v0 13)) v2) v0 13)) v3) v0 13)) (nI 0)) v0 13)) (nI 0)) (S.2 v0 9) (ix ((up (up (up (up (up h (S.2 v0 4) (ix (h v0 13)) v1) (S.2 v0 5) (ix ((up h (S.2 v0 4) (ix (h v0 13)) v1) v0 13)) v2) (S.2 v0 6) (ix ((up (up h (S.2 v0 4) (ix (h v0 13)) v1) (S.2 v0 5) (ix ((up h (S.2 v0 4) (ix (h v0 13)) v1) v0 13)) v2) v0 13)) v3) (S.2 v0 7) (ix ((up (up (up h (S.2 v0 4) (ix (h v0 13)) v1) (S.2 v0 5) (ix ((up h (S.2 v0 4) (ix (h v0 13)) v1) v0 13)) v2) (S.2 v0 6) (ix ((up (up h (S.2 v0 4) (ix (h v0 13)) v1) (S.2 v0 5) (ix ((up h (S.2 v0 4) (ix (h v0 13)) v1) v0 13)) v2) v0 13)) v3) v0 13)) (nI 0)) (S.2 v0 8) (ix ((up (up (up (up h (S.2 v0 4) (ix (h v0 13)) v1) (S.2 v0 5) (ix ((up h (S.2 v0 4) (ix (h v0 13)) v1) v0 13)) v2) (S.2 v0 6) (ix ((up (up h (S.2 v0 4) (ix (h v0 13)) v1) (S.2 v0 5) (ix ((up h (S.2 v0 4) (ix (h v0 13)) v1) v0 13)) v2) v0 13)) v3) (S.2 v0 7) (ix ((up (up (up h (S.2 v0 4) (ix (h v0 13)) v1) (S.2 v0 5) (ix ((up h (S.2 v0 4) (ix (h v0 13)) v1) v0 13)) v2) (S.2 v0 6) (ix ((up (up h (S.2 v0 4) (ix (h v0 13)) v1) (S.2 v0 5) (ix ((up h (S.2 v0 4) (ix (h v0 13)) v1) v0 13)) v2) v0 13)) v3) v0 13)) (nI 0)) v0 13)) (nI 0)) v0 13)) (nI 0)) v0 13)) hx hb hown hKK hH cf7 (by decide) fl_X7_79 rfl k1 rfl dX7_isMore_65 ?_
  refine lv_iconst (v := (nI 0)) hx hb dX7_isMore_68 (by decide) ?_
  obtain ⟨k8, hw⟩ := hw
  refine hv_iast hx hb hKK hH k8 dX7_isMore_69 (fun H locs hH => ?_)
  refine lv_aload_n hx hb dX7_isMore_70 rfl (lv_at hl 0 rfl) ?_
  refine hv_get (ci := 7) (k := 11) (v := .ref (S.2 v0 11)) hx hb hown hKK hH cf7 (by decide) fl_X7_43 rfl k1 rfl dX7_isMore_71 ?_
  refine lv_aload_n hx hb dX7_isMore_74 rfl (lv_at hl 0 rfl) ?_
  refine hv_get (ci := 7) (k := 13) (v := .int ((up (up (up (up (up (up (up h (S.2 v0 4) (ix (h v0 13)) v1) (S.2 v0 5) (ix ((up h (S.2 v0 4) (ix (h v0 13)) v1) v0 13)) v2) (S.2 v0 6) (ix ((up (up h (S.2 v0 4) (ix (h v0 13)) v1) (S.2 v0 5) (ix ((up h (S.2 v0 4) (ix (h v0 13)) v1) v0 13)) v2) v0 13)) v3) (S.2 v0 7) (ix ((up (up (up h (S.2 v0 4) (ix (h v0 13)) v1) (S.2 v0 5) (ix ((up h (S.2 v0 4) (ix (h v0 13)) v1) v0 13)) v2) (S.2 v0 6) (ix ((up (up h (S.2 v0 4) (ix (h v0 13)) v1) (S.2 v0 5) (ix ((up h (S.2 v0 4) (ix (h v0 13)) v1) v0 13)) v2) v0 13)) v3) v0 13)) (nI 0)) (S.2 v0 8) (ix ((up (up (up (up h (S.2 v0 4) (ix (h v0 13)) v1) (S.2 v0 5) (ix ((up h (S.2 v0 4) (ix (h v0 13)) v1) v0 13)) v2) (S.2 v0 6) (ix ((up (up h (S.2 v0 4) (ix (h v0 13)) v1) (S.2 v0 5) (ix ((up h (S.2 v0 4) (ix (h v0 13)) v1) v0 13)) v2) v0 13)) v3) (S.2 v0 7) (ix ((up (up (up h (S.2 v0 4) (ix (h v0 13)) v1) (S.2 v0 5) (ix ((up h (S.2 v0 4) (ix (h v0 13)) v1) v0 13)) v2) (S.2 v0 6) (ix ((up (up h (S.2 v0 4) (ix (h v0 13)) v1) (S.2 v0 5) (ix ((up h (S.2 v0 4) (ix (h v0 13)) v1) v0 13)) v2) v0 13)) v3) v0 13)) (nI 0)) v0 13)) (nI 0)) (S.2 v0 9) (ix ((up (up (up (up (up h (S.2 v0 4) (ix (h v0 13)) v1) (S.2 v0 5) (ix ((up h (S.2 v0 4) (ix (h v0 13)) v1) v0 13)) v2) (S.2 v0 6) (ix ((up (up h (S.2 v0 4) (ix (h v0 13)) v1) (S.2 v0 5) (ix ((up h (S.2 v0 4) (ix (h v0 13)) v1) v0 13)) v2) v0 13)) v3) (S.2 v0 7) (ix ((up (up (up h (S.2 v0 4) (ix (h v0 13)) v1) (S.2 v0 5) (ix ((up h (S.2 v0 4) (ix (h v0 13)) v1) v0 13)) v2) (S.2 v0 6) (ix ((up (up h (S.2 v0 4) (ix (h v0 13)) v1) (S.2 v0 5) (ix ((up h (S.2 v0 4) (ix (h v0 13)) v1) v0 13)) v2) v0 13)) v3) v0 13)) (nI 0)) (S.2 v0 8) (ix ((up (up (up (up h (S.2 v0 4) (ix (h v0 13)) v1) (S.2 v0 5) (ix ((up h (S.2 v0 4) (ix (h v0 13)) v1) v0 13)) v2) (S.2 v0 6) (ix ((up (up h (S.2 v0 4) (ix (h v0 13)) v1) (S.2 v0 5) (ix ((up h (S.2 v0 4) (ix (h v0 13)) v1) v0 13)) v2) v0 13)) v3) (S.2 v0 7) (ix ((up (up (up h (S.2 v0 4) (ix (h v0 13)) v1) (S.2 v0 5) (ix ((up h (S.2 v0 4) (ix (h v0 13)) v1) v0 13)) v2) (S.2 v0 6) (ix ((up (up h (S.2 v0 4) (ix (h v0 13)) v1) (S.2 v0 5) (ix ((up h (S.2 v0 4) (ix (h v0 13)) v1) v0 13)) v2) v0 13)) v3) v0 13)) (nI 0)) v0 13)) (nI 0)) v0 13)) (nI 0)) (S.2 v0 10) (ix ((up (up (up (up (up (up h (S.2 v0 4) (ix (h v0 13)) v1) (S.2 v0 5) (ix ((up h (S.2 v0 4) (ix (h v0 13)) v1) v0 13)) v2) (S.2 v0 6) (ix ((up (up h (S.2 v0 4) (ix (h v0 13)) v1) (S.2 v0 5) (ix ((up h (S.2 v0 4) (ix (h v0 13)) v1) v0 13)) v2) v0 13)) v3) (S.2 v0 7) (ix ((up (up (up h (S.2 v0 4) (ix (h v0 13)) v1) (S.2 v0 5) (ix ((up h (S.2 v0 4) (ix (h v0 13)) v1) v0 13)) v2) (S.2 v0 6) (ix ((up (up h (S.2 v0 4) (ix (h v0 13)) v1) (S.2 v0 5) (ix ((up h (S.2 v0 4) (ix (h v0 13)) v1) v0 13)) v2) v0 13)) v3) v0 13)) (nI 0)) (S.2 v0 8) (ix ((up (up (up (up h (S.2 v0 4) (ix (h v0 13)) v1) (S.2 v0 5) (ix ((up h (S.2 v0 4) (ix (h v0 13)) v1) v0 13)) v2) (S.2 v0 6) (ix ((up (up h (S.2 v0 4) (ix (h v0 13)) v1) (S.2 v0 5) (ix ((up h (S.2 v0 4) (ix (h v0 13)) v1) v0 13)) v2) v0 13)) v3) (S.2 v0 7) (ix ((up (up (up h (S.2 v0 4) (ix (h v0 13)) v1) (S.2 v0 5) (ix ((up h (S.2 v0 4) (ix (h v0 13)) v1) v0 13)) v2) (S.2 v0 6) (ix ((up (up h (S.2 v0 4) (ix (h v0 13)) v1) (S.2 v0 5) (ix ((up h (S.2 v0 4) (ix (h v0 13)) v1) v0 13)) v2) v0 13)) v3) v0 13)) (nI 0)) v0 13)) (nI 0)) (S.2 v0 9) (ix ((up (up (up (up (up h (S.2 v0 4) (ix (h v0 13)) v1) (S.2 v0 5) (ix ((up h (S.2 v0 4) (ix (h v0 13)) v1) v0 13)) v2) (S.2 v0 6) (ix ((up (up h (S.2 v0 4) (ix (h v0 13)) v1) (S.2 v0 5) (ix ((up h (S.2 v0 4) (ix (h v0 13)) v1) v0 13)) v2) v0 13)) v3) (S.2 v0 7) (ix ((up (up (up h (S.2 v0 4) (ix (h v0 13)) v1) (S.2 v0 5) (ix ((up h (S.2 v0 4) (ix (h v0 13)) v1) v0 13)) v2) (S.2 v0 6) (ix ((up (up h (S.2 v0 4) (ix (h v0 13)) v1) (S.2 v0 5) (ix ((up h (S.2 v0 4) (ix (h v0 13)) v1) v0 13)) v2) v0 13)) v3) v0 13)) (nI 0)) (S.2 v0 8) (ix ((up (up (up (up h (S.2 v0 4) (ix (h v0 13)) v1) (S.2 v0 5) (ix ((up h (S.2 v0 4) (ix (h v0 13)) v1) v0 13)) v2) (S.2 v0 6) (ix ((up (up h (S.2 v0 4) (ix (h v0 13)) v1) (S.2 v0 5) (ix ((up h (S.2 v0 4) (ix (h v0 13)) v1) v0 13)) v2) v0 13)) v3) (S.2 v0 7) (ix ((up (up (up h (S.2 v0 4) (ix (h v0 13)) v1) (S.2 v0 5) (ix ((up h (S.2 v0 4) (ix (h v0 13)) v1) v0 13)) v2) (S.2 v0 6) (ix ((up (up h (S.2 v0 4) (ix (h v0 13)) v1) (S.2 v0 5) (ix ((up h (S.2 v0 4) (ix (h v0 13)) v1) v0 13)) v2) v0 13)) v3) v0 13)) (nI 0)) v0 13)) (nI 0)) v0 13)) (nI 0)) v0 13)) (nI 0)) v0 13)) hx hb hown hKK hH cf7 (by decide) fl_X7_79 rfl k1 rfl dX7_isMore_75 ?_
  refine lv_iconst (v := (nI 0)) hx hb dX7_isMore_78 (by decide) ?_
  obtain ⟨k9, hw⟩ := hw
  refine hv_iast hx hb hKK hH k9 dX7_isMore_79 (fun H locs hH => ?_)
  refine lv_aload_n hx hb dX7_isMore_80 rfl (lv_at hl 0 rfl) ?_
  refine lv_dup hx hb dX7_isMore_81 rfl ?_
  refine hv_get (ci := 7) (k := 13) (v := .int ((up (up (up (up (up (up (up (up h (S.2 v0 4) (ix (h v0 13)) v1) (S.2 v0 5) (ix ((up h (S.2 v0 4) (ix (h v0 13)) v1) v0 13)) v2) (S.2 v0 6) (ix ((up (up h (S.2 v0 4) (ix (h v0 13)) v1) (S.2 v0 5) (ix ((up h (S.2 v0 4) (ix (h v0 13)) v1) v0 13)) v2) v0 13)) v3) (S.2 v0 7) (ix ((up (up (up h (S.2 v0 4) (ix (h v0 13)) v1) (S.2 v0 5) (ix ((up h (S.2 v0 4) (ix (h v0 13)) v1) v0 13)) v2) (S.2 v0 6) (ix ((up (up h (S.2 v0 4) (ix (h v0 13)) v1) (S.2 v0 5) (ix ((up h (S.2 v0 4) (ix (h v0 13)) v1) v0 13)) v2) v0 13)) v3) v0 13)) (nI 0)) (S.2 v0 8) (ix ((up (up (up (up h (S.2 v0 4) (ix (h v0 13)) v1) (S.2 v0 5) (ix ((up h (S.2 v0 4) (ix (h v0 13)) v1) v0 13)) v2) (S.2 v0 6) (ix ((up (up h (S.2 v0 4) (ix (h v0 13)) v1) (S.2 v0 5) (ix ((up h (S.2 v0 4) (ix (h v0 13)) v1) v0 13)) v2) v0 13)) v3) (S.2 v0 7) (ix ((up (up (up h (S.2 v0 4) (ix (h v0 13)) v1) (S.2 v0 5) (ix ((up h (S.2 v0 4) (ix (h v0 13)) v1) v0 13)) v2) (S.2 v0 6) (ix ((up (up h (S.2 v0 4) (ix (h v0 13)) v1) (S.2 v0 5) (ix ((up h (S.2 v0 4) (ix (h v0 13)) v1) v0 13)) v2) v0 13)) v3) v0 13)) (nI 0)) v0 13)) (nI 0)) (S.2 v0 9) (ix ((up (up (up (up (up h (S.2 v0 4) (ix (h v0 13)) v1) (S.2 v0 5) (ix ((up h (S.2 v0 4) (ix (h v0 13)) v1) v0 13)) v2) (S.2 v0 6) (ix ((up (up h (S.2 v0 4) (ix (h v0 13)) v1) (S.2 v0 5) (ix ((up h (S.2 v0 4) (ix (h v0 13)) v1) v0 13)) v2) v0 13)) v3) (S.2 v0 7) (ix ((up (up (up h (S.2 v0 4) (ix (h v0 13)) v1) (S.2 v0 5) (ix ((up h (S.2 v0 4) (ix (h v0 13)) v1) v0 13)) v2) (S.2 v0 6) (ix ((up (up h (S.2 v0 4) (ix (h v0 13)) v1) (S.2 v0 5) (ix ((up h (S.2 v0 4) (ix (h v0 13)) v1) v0 13)) v2) v0 13)) v3) v0 13)) (nI 0)) (S.2 v0 8) (ix ((up (up (up (up h (S.2 v0 4) (ix (h v0 13)) v1) (S.2 v0 5) (ix ((up h (S.2 v0 4) (ix (h v0 13)) v1) v0 13)) v2) (S.2 v0 6) (ix ((up (up h (S.2 v0 4) (ix (h v0 13)) v1) (S.2 v0 5) (ix ((up h (S.2 v0 4) (ix (h v0 13)) v1) v0 13)) v2) v0 13)) v3) (S.2 v0 7) (ix ((up (up (up h (S.2 v0 4) (ix (h v0 13)) v1) (S.2 v0 5) (ix ((up h (S.2 v0 4) (ix (h v0 13)) v1) v0 13)) v2) (S.2 v0 6) (ix ((up (up h (S.2 v0 4) (ix (h v0 13)) v1) (S.2 v0 5) (ix ((up h (S.2 v0 4) (ix (h v0 13)) v1) v0 13)) v2) v0 13)) v3) v0 13)) (nI 0)) v0 13)) (nI 0)) v0 13)) (nI 0)) (S.2 v0 10) (ix ((up (up (up (up (up (up h (S.2 v0 4) (ix (h v0 13)) v1) (S.2 v0 5) (ix ((up h (S.2 v0 4) (ix (h v0 13)) v1) v0 13)) v2) (S.2 v0 6) (ix ((up (up h (S.2 v0 4) (ix (h v0 13)) v1) (S.2 v0 5) (ix ((up h (S.2 v0 4) (ix (h v0 13)) v1) v0 13)) v2) v0 13)) v3) (S.2 v0 7) (ix ((up (up (up h (S.2 v0 4) (ix (h v0 13)) v1) (S.2 v0 5) (ix ((up h (S.2 v0 4) (ix (h v0 13)) v1) v0 13)) v2) (S.2 v0 6) (ix ((up (up h (S.2 v0 4) (ix (h v0 13)) v1) (S.2 v0 5) (ix ((up h (S.2 v0 4) (ix (h v0 13)) v1) v0 13)) v2) v0 13)) v3) v0 13)) (nI 0)) (S.2 v0 8) (ix ((up (up (up (up h (S.2 v0 4) (ix (h v0 13)) v1) (S.2 v0 5) (ix ((up h (S.2 v0 4) (ix (h v0 13)) v1) v0 13)) v2) (S.2 v0 6) (ix ((up (up h (S.2 v0 4) (ix (h v0 13)) v1) (S.2 v0 5) (ix ((up h (S.2 v0 4) (ix (h v0 13)) v1) v0 13)) v2) v0 13)) v3) (S.2 v0 7) (ix ((up (up (up h (S.2 v0 4) (ix (h v0 13)) v1) (S.2 v0 5) (ix ((up h (S.2 v0 4) (ix (h v0 13)) v1) v0 13)) v2) (S.2 v0 6) (ix ((up (up h (S.2 v0 4) (ix (h v0 13)) v1) (S.2 v0 5) (ix ((up h (S.2 v0 4) (ix (h v0 13)) v1) v0 13)) v2) v0 13)) v3) v0 13)) (nI 0)) v0 13)) (nI 0)) (S.2 v0 9) (ix ((up (up (up (up (up h (S.2 v0 4) (ix (h v0 13)) v1) (S.2 v0 5) (ix ((up h (S.2 v0 4) (ix (h v0 13)) v1) v0 13)) v2) (S.2 v0 6) (ix ((up (up h (S.2 v0 4) (ix (h v0 13)) v1) (S.2 v0 5) (ix ((up h (S.2 v0 4) (ix (h v0 13)) v1) v0 13)) v2) v0 13)) v3) (S.2 v0 7) (ix ((up (up (up h (S.2 v0 4) (ix (h v0 13)) v1) (S.2 v0 5) (ix ((up h (S.2 v0 4) (ix (h v0 13)) v1) v0 13)) v2) (S.2 v0 6) (ix ((up (up h (S.2 v0 4) (ix (h v0 13)) v1) (S.2 v0 5) (ix ((up h (S.2 v0 4) (ix (h v0 13)) v1) v0 13)) v2) v0 13)) v3) v0 13)) (nI 0)) (S.2 v0 8) (ix ((up (up (up (up h (S.2 v0 4) (ix (h v0 13)) v1) (S.2 v0 5) (ix ((up h (S.2 v0 4) (ix (h v0 13)) v1) v0 13)) v2) (S.2 v0 6) (ix ((up (up h (S.2 v0 4) (ix (h v0 13)) v1) (S.2 v0 5) (ix ((up h (S.2 v0 4) (ix (h v0 13)) v1) v0 13)) v2) v0 13)) v3) (S.2 v0 7) (ix ((up (up (up h (S.2 v0 4) (ix (h v0 13)) v1) (S.2 v0 5) (ix ((up h (S.2 v0 4) (ix (h v0 13)) v1) v0 13)) v2) (S.2 v0 6) (ix ((up (up h (S.2 v0 4) (ix (h v0 13)) v1) (S.2 v0 5) (ix ((up h (S.2 v0 4) (ix (h v0 13)) v1) v0 13)) v2) v0 13)) v3) v0 13)) (nI 0)) v0 13)) (nI 0)) v0 13)) (nI 0)) v0 13)) (nI 0)) (S.2 v0 11) (ix ((up (up (up (up (up (up (up h (S.2 v0 4) (ix (h v0 13)) v1) (S.2 v0 5) (ix ((up h (S.2 v0 4) (ix (h v0 13)) v1) v0 13)) v2) (S.2 v0 6) (ix ((up (up h (S.2 v0 4) (ix (h v0 13)) v1) (S.2 v0 5) (ix ((up h (S.2 v0 4) (ix (h v0 13)) v1) v0 13)) v2) v0 13)) v3) (S.2 v0 7) (ix ((up (up (up h (S.2 v0 4) (ix (h v0 13)) v1) (S.2 v0 5) (ix ((up h (S.2 v0 4) (ix (h v0 13)) v1) v0 13)) v2) (S.2 v0 6) (ix ((up (up h (S.2 v0 4) (ix (h v0 13)) v1) (S.2 v0 5) (ix ((up h (S.2 v0 4) (ix (h v0 13)) v1) v0 13)) v2) v0 13)) v3) v0 13)) (nI 0)) (S.2 v0 8) (ix ((up (up (up (up h (S.2 v0 4) (ix (h v0 13)) v1) (S.2 v0 5) (ix ((up h (S.2 v0 4) (ix (h v0 13)) v1) v0 13)) v2) (S.2 v0 6) (ix ((up (up h (S.2 v0 4) (ix (h v0 13)) v1) (S.2 v0 5) (ix ((up h (S.2 v0 4) (ix (h v0 13)) v1) v0 13)) v2) v0 13)) v3) (S.2 v0 7) (ix ((up (up (up h (S.2 v0 4) (ix (h v0 13)) v1) (S.2 v0 5) (ix ((up h (S.2 v0 4) (ix (h v0 13)) v1) v0 13)) v2) (S.2 v0 6) (ix ((up (up h (S.2 v0 4) (ix (h v0 13)) v1) (S.2 v0 5) (ix ((up h (S.2 v0 4) (ix (h v0 13)) v1) v0 13)) v2) v0 13)) v3) v0 13)) (nI 0)) v0 13)) (nI 0)) (S.2 v0 9) (ix ((up (up (up (up (up h (S.2 v0 4) (ix (h v0 13)) v1) (S.2 v0 5) (ix ((up h (S.2 v0 4) (ix (h v0 13)) v1) v0 13)) v2) (S.2 v0 6) (ix ((up (up h (S.2 v0 4) (ix (h v0 13)) v1) (S.2 v0 5) (ix ((up h (S.2 v0 4) (ix (h v0 13)) v1) v0 13)) v2) v0 13)) v3) (S.2 v0 7) (ix ((up (up (up h (S.2 v0 4) (ix (h v0 13)) v1) (S.2 v0 5) (ix ((up h (S.2 v0 4) (ix (h v0 13)) v1) v0 13)) v2) (S.2 v0 6) (ix ((up (up h (S.2 v0 4) (ix (h v0 13)) v1) (S.2 v0 5) (ix ((up h (S.2 v0 4) (ix (h v0 13)) v1) v0 13)) v2) v0 13)) v3) v0 13)) (nI 0)) (S.2 v0 8) (ix ((up (up (up (up h (S.2 v0 4) (ix (h v0 13)) v1) (S.2 v0 5) (ix ((up h (S.2 v0 4) (ix (h v0 13)) v1) v0 13)) v2) (S.2 v0 6) (ix ((up (up h (S.2 v0 4) (ix (h v0 13)) v1) (S.2 v0 5) (ix ((up h (S.2 v0 4) (ix (h v0 13)) v1) v0 13)) v2) v0 13)) v3) (S.2 v0 7) (ix ((up (up (up h (S.2 v0 4) (ix (h v0 13)) v1) (S.2 v0 5) (ix ((up h (S.2 v0 4) (ix (h v0 13)) v1) v0 13)) v2) (S.2 v0 6) (ix ((up (up h (S.2 v0 4) (ix (h v0 13)) v1) (S.2 v0 5) (ix ((up h (S.2 v0 4) (ix (h v0 13)) v1) v0 13)) v2) v0 13)) v3) v0 13)) (nI 0)) v0 13)) (nI 0)) v0 13)) (nI 0)) (S.2 v0 10) (ix ((up (up (up (up (up (up h (S.2 v0 4) (ix (h v0 13)) v1) (S.2 v0 5) (ix ((up h (S.2 v0 4) (ix (h v0 13)) v1) v0 13)) v2) (S.2 v0 6) (ix ((up (up h (S.2 v0 4) (ix (h v0 13)) v1) (S.2 v0 5) (ix ((up h (S.2 v0 4) (ix (h v0 13)) v1) v0 13)) v2) v0 13)) v3) (S.2 v0 7) (ix ((up (up (up h (S.2 v0 4) (ix (h v0 13)) v1) (S.2 v0 5) (ix ((up h (S.2 v0 4) (ix (h v0 13)) v1) v0 13)) v2) (S.2 v0 6) (ix ((up (up h (S.2 v0 4) (ix (h v0 13)) v1) (S.2 v0 5) (ix ((up h (S.2 v0 4) (ix (h v0 13)) v1) v0 13)) v2) v0 13)) v3) v0 13)) (nI 0)) (S.2 v0 8) (ix ((up (up (up (up h (S.2 v0 4) (ix (h v0 13)) v1) (S.2 v0 5) (ix ((up h (S.2 v0 4) (ix (h v0 13)) v1) v0 13)) v2) (S.2 v0 6) (ix ((up (up h (S.2 v0 4) (ix (h v0 13)) v1) (S.2 v0 5) (ix ((up h (S.2 v0 4) (ix (h v0 13)) v1) v0 13)) v2) v0 13)) v3) (S.2 v0 7) (ix ((up (up (up h (S.2 v0 4) (ix (h v0 13)) v1) (S.2 v0 5) (ix ((up h (S.2 v0 4) (ix (h v0 13)) v1) v0 13)) v2) (S.2 v0 6) (ix ((up (up h (S.2 v0 4) (ix (h v0 13)) v1) (S.2 v0 5) (ix ((up h (S.2 v0 4) (ix (h v0 13)) v1) v0 13)) v2) v0 13)) v3) v0 13)) (nI 0)) v0 13)) (nI 0)) (S.2 v0 9) (ix ((up (up (up (up (up h (S.2 v0 4) (ix (h v0 13)) v1) (S.2 v0 5) (ix ((up h (S.2 v0 4) (ix (h v0 13)) v1) v0 13)) v2) (S.2 v0 6) (ix ((up (up h (S.2 v0 4) (ix (h v0 13)) v1) (S.2 v0 5) (ix ((up h (S.2 v0 4) (ix (h v0 13)) v1) v0 13)) v2) v0 13)) v3) (S.2 v0 7) (ix ((up (up (up h (S.2 v0 4) (ix (h v0 13)) v1) (S.2 v0 5) (ix ((up h (S.2 v0 4) (ix (h v0 13)) v1) v0 13)) v2) (S.2 v0 6) (ix ((up (up h (S.2 v0 4) (ix (h v0 13)) v1) (S.2 v0 5) (ix ((up h (S.2 v0 4) (ix (h v0 13)) v1) v0 13)) v2) v0 13)) v3) v0 13)) (nI 0)) (S.2 v0 8) (ix ((up (up (up (up h (S.2 v0 4) (ix (h v0 13)) v1) (S.2 v0 5) (ix ((up h (S.2 v0 4) (ix (h v0 13)) v1) v0 13)) v2) (S.2 v0 6) (ix ((up (up h (S.2 v0 4) (ix (h v0 13)) v1) (S.2 v0 5) (ix ((up h (S.2 v0 4) (ix (h v0 13)) v1) v0 13)) v2) v0 13)) v3) (S.2 v0 7) (ix ((up (up (up h (S.2 v0 4) (ix (h v0 13)) v1) (S.2 v0 5) (ix ((up h (S.2 v0 4) (ix (h v0 13)) v1) v0 13)) v2) (S.2 v0 6) (ix ((up (up h (S.2 v0 4) (ix (h v0 13)) v1) (S.2 v0 5) (ix ((up h (S.2 v0 4) (ix (h v0 13)) v1) v0 13)) v2) v0 13)) v3) v0 13)) (nI 0)) v0 13)) (nI 0)) v0 13)) (nI 0)) v0 13)) (nI 0)) v0 13)) (nI 0)) v0 13)) hx hb hown hKK hH cf7 (by decide) fl_X7_79 rfl k1 rfl dX7_isMore_82 ?_
  refine lv_iconst (v := (nI 1)) hx hb dX7_isMore_85 (by decide) ?_
  refine lv_iadd hx hb dX7_isMore_86 ?_
  refine hv_put (ci := 7) (k := 13) hx hb hown hKK hH cf7 (by decide) fl_X7_79 rfl rfl rfl k1 rfl rfl dX7_isMore_87 (fun H locs hH => ?_)
  exact hv_vret hx hb hr hlk hH hw dX7_isMore_90
abbrev rm_X7_comesHead : Room := { frames := 2, cells := 0, slots := 0, locals := 46 }
set_option maxHeartbeats 4000000 in
set_option maxRecDepth 100000 in
theorem m_X7_comesHead {l : Launch} {G : Gl} {B sz : Nat} {S : St} (v0 : Nat) (v1 : Int32) (v2 : Int32) (h : Hp) (Q : Int32 → Hp → Prop) (hw : w_X7_comesHead S v0 v1 v2 h Q) : MI l G B sz S yX7_comesHead cX7_comesHead 7 .boolean rm_X7_comesHead [.ref v0, .int v1, .int v2] h Q := by
  refine met_of rfl rfl ?_
  intro p e s m args below meth c hMB H ls hH hl
  obtain ⟨hx, hb, hml, hown, hKK, hr, hlk⟩ := hMB
  replace hl : lv_has ls 7 [(0, .ref v0), (1, .int v1), (2, .int v2)] := hl
  have c92 : ∀  (v0 : Nat) (v1 : Int32) (v5 : Int32) (v6 : Int32) (h : Hp) (H : Heap) (locs : List Loc) (ls : Array Slot), HH G B S h sz s H locs → lv_has ls 7 [(0, .ref v0), (1, .int v1), (5, .int v5), (6, .int v6)] → w_X7_comesHead_c92 S v0 v1 v5 v6 h Q → W p l e rm_X7_comesHead s m args below meth c H locs 0 0 (QI G B S sz below args s Q) (F0 m 92 ls []) := by
    intro  v0 v1 v5 v6 h H locs ls hH hl hw
    unfold w_X7_comesHead_c92 at hw
    obtain ⟨P92, hP92⟩ : ∃ P : Int32 → Hp → Prop, ∀ (v6 : Int32) (h : Hp), P v6 h ↔ (∀ (H : Heap) (locs : List Loc) (ls : Array Slot), HH G B S h sz s H locs → lv_has ls 7 [(0, .ref v0), (1, .int v1), (5, .int v5), (6, .int v6)] → W p l e rm_X7_comesHead s m args below meth c H locs 0 0 (QI G B S sz below args s Q) (F0 m 92 ls [])) := ⟨_, fun v6 h => Iff.rfl⟩
    refine (hP92 v6 h).1 (hw P92 (fun v6 h hw => (hP92 v6 h).2 (fun H locs ls hH hl => ?_))) H locs ls hH hl
    have hK92 : ∀ (v6 : Int32) (h : Hp) (H : Heap) (locs : List Loc) (ls : Array Slot), HH G B S h sz s H locs → lv_has ls 7 [(0, .ref v0), (1, .int v1), (5, .int v5), (6, .int v6)] → P92 v6 h → W p l e rm_X7_comesHead s m args below meth c H locs 0 0 (QI G B S sz below args s Q) (F0 m 92 ls []) := fun v6 h H locs ls hH hl hk => (hP92 v6 h).1 hk H locs ls hH hl
    refine lv_iload hx hb dX7_comesHead_92 (lv_at hl 3 rfl) ?_
    refine lv_iload hx hb dX7_comesHead_94 (lv_at hl 2 rfl) ?_
    refine lv_icmp_ge (tgt := 143) hx hb dX7_comesHead_96 (by decide) (fun c1 => ?_) (fun c1 => ?_)
    · have hw := ite_t hw c1
      refine lv_aload_n hx hb dX7_comesHead_143 rfl (lv_at hl 0 rfl) ?_
      obtain ⟨k2, hw⟩ := hw
      refine hv_get (ci := 7) (k := 11) (v := .ref (S.2 v0 11)) hx hb hown hKK hH cf7 (by decide) fl_X7_43 rfl k2 rfl dX7_comesHead_144 ?_
      refine lv_aload_n hx hb dX7_comesHead_147 rfl (lv_at hl 0 rfl) ?_
      refine hv_get (ci := 7) (k := 13) (v := .int (h v0 13)) hx hb hown hKK hH cf7 (by decide) fl_X7_79 rfl k2 rfl dX7_comesHead_148 ?_
      refine lv_iconst (v := (nI 1)) hx hb dX7_comesHead_151 (by decide) ?_
      refine lv_isub hx hb dX7_comesHead_152 ?_
      refine lv_iload hx hb dX7_comesHead_153 (lv_at hl 2 rfl) ?_
      obtain ⟨k3, hw⟩ := hw
      refine hv_iast hx hb hKK hH k3 dX7_comesHead_155 (fun H locs hH => ?_)
      refine lv_iconst (v := (nI 1)) hx hb dX7_comesHead_156 (by decide) ?_
      exact hv_zret hx hb hr hlk hH (Or.inr rfl) hw dX7_comesHead_157
    · have hw := ite_f hw c1
      refine lv_aload_n hx hb dX7_comesHead_99 rfl (lv_at hl 0 rfl) ?_
      obtain ⟨k4, hw⟩ := hw
      refine hv_get (ci := 7) (k := 12) (v := .ref (S.2 v0 12)) hx hb hown hKK hH cf7 (by decide) fl_X7_46 rfl k4 rfl dX7_comesHead_100 ?_
      refine lv_bipush (v := (nI 6)) hx hb dX7_comesHead_103 (by decide) ?_
      refine lv_aload_n hx hb dX7_comesHead_105 rfl (lv_at hl 0 rfl) ?_
      refine hv_get (ci := 7) (k := 13) (v := .int (h v0 13)) hx hb hown hKK hH cf7 (by decide) fl_X7_79 rfl k4 rfl dX7_comesHead_106 ?_
      refine lv_iconst (v := (nI 1)) hx hb dX7_comesHead_109 (by decide) ?_
      refine lv_isub hx hb dX7_comesHead_110 ?_
      refine lv_imul hx hb dX7_comesHead_111 ?_
      refine lv_iload hx hb dX7_comesHead_112 (lv_at hl 3 rfl) ?_
      refine lv_iadd hx hb dX7_comesHead_114 ?_
      refine lv_aload_n hx hb dX7_comesHead_115 rfl (lv_at hl 0 rfl) ?_
      refine hv_get (ci := 7) (k := 16) (v := .ref (S.2 v0 16)) hx hb hown hKK hH cf7 (by decide) fl_X7_49 rfl k4 rfl dX7_comesHead_116 ?_
      refine lv_aload_n hx hb dX7_comesHead_119 rfl (lv_at hl 0 rfl) ?_
      refine hv_get (ci := 7) (k := 20) (v := .ref (S.2 v0 20)) hx hb hown hKK hH cf7 (by decide) fl_X7_61 rfl k4 rfl dX7_comesHead_120 ?_
      refine lv_iconst (v := (nI 3)) hx hb dX7_comesHead_123 (by decide) ?_
      refine lv_iload_n hx hb dX7_comesHead_124 rfl (lv_at hl 1 rfl) ?_
      refine lv_imul hx hb dX7_comesHead_125 ?_
      refine lv_iconst (v := (nI 1)) hx hb dX7_comesHead_126 (by decide) ?_
      refine lv_iadd hx hb dX7_comesHead_127 ?_
      obtain ⟨k5, hw⟩ := hw
      refine hv_iald hx hb hKK hH k5 dX7_comesHead_128 ?_
      refine lv_iload hx hb dX7_comesHead_129 (lv_at hl 3 rfl) ?_
      refine lv_iadd hx hb dX7_comesHead_131 ?_
      obtain ⟨k6, hw⟩ := hw
      refine hv_iald hx hb hKK hH k6 dX7_comesHead_132 ?_
      refine lv_bipush (v := (nI 97)) hx hb dX7_comesHead_133 (by decide) ?_
      refine lv_isub hx hb dX7_comesHead_135 ?_
      obtain ⟨k7, hw⟩ := hw
      refine hv_iast hx hb hKK hH k7 dX7_comesHead_136 (fun H locs hH => ?_)
      refine lv_iinc (v := v6 + (nI 1)) (lv' := [(6, .int (v6 + (nI 1))), (0, .ref v0), (1, .int v1), (5, .int v5)]) hx hb dX7_comesHead_137 hl (k := 3) rfl rfl (by decide) rfl (fun ls hl => ?_)
      refine lv_goto (tgt := 92) hx hb dX7_comesHead_140 (by decide) ?_
      exact hK92 _ _ H locs ls hH (lv_sub hl [1, 2, 3, 0] rfl) hw
  unfold w_X7_comesHead at hw
  show W p l e rm_X7_comesHead s m args below meth c H [] 0 0 (QI G B S sz below args s Q) (F0 m 0 ls [])
  generalize ([] : List Loc) = locs at hH ⊢
  refine lv_aload_n hx hb dX7_comesHead_0 rfl (lv_at hl 0 rfl) ?_
  refine lv_iload_n hx hb dX7_comesHead_1 rfl (lv_at hl 1 rfl) ?_
  refine lv_iconst (v := (nI 0)) hx hb dX7_comesHead_2 (by decide) ?_
  obtain ⟨k1, hw⟩ := hw
  refine hv_cVI (rm := rm_X7_numberOf) (As := [.int v1, .int (nI 0)]) (rest := []) (k := 2) (ci := 7) hx hb hml hown hKK hH cf7 k1 (m_X7_numberOf v0 v1 (nI 0) _ _ hw) cw_X7_241 ⟨Nat.le_of_ble_eq_true rfl, Nat.le_of_ble_eq_true rfl⟩ rfl hl.1 rfl (Nat.le_of_ble_eq_true rfl) ⟨Nat.le_of_ble_eq_true rfl, Nat.le_of_ble_eq_true rfl⟩ dX7_comesHead_3 (fun r3 h2 H locs hH hw => ?_)
  refine lv_istore_n (lv' := [(3, .int r3), (0, .ref v0), (1, .int v1), (2, .int v2)]) hx hb dX7_comesHead_6 rfl hl (by decide) rfl (fun ls hl => ?_)
  refine lv_aload_n hx hb dX7_comesHead_7 rfl (lv_at hl 1 rfl) ?_
  refine lv_iload_n hx hb dX7_comesHead_8 rfl (lv_at hl 2 rfl) ?_
  refine lv_iconst (v := (nI 2)) hx hb dX7_comesHead_9 (by decide) ?_
  refine hv_cVI (rm := rm_X7_numberOf) (As := [.int v1, .int (nI 2)]) (rest := []) (k := 2) (ci := 7) hx hb hml hown hKK hH cf7 k1 (m_X7_numberOf v0 v1 (nI 2) _ _ hw) cw_X7_241 ⟨Nat.le_of_ble_eq_true rfl, Nat.le_of_ble_eq_true rfl⟩ rfl hl.1 rfl (Nat.le_of_ble_eq_true rfl) ⟨Nat.le_of_ble_eq_true rfl, Nat.le_of_ble_eq_true rfl⟩ dX7_comesHead_10 (fun r5 h4 H locs hH hw => ?_)
  refine lv_istore (lv' := [(4, .int r5), (3, .int r3), (0, .ref v0), (1, .int v1), (2, .int v2)]) hx hb dX7_comesHead_13 hl (by decide) rfl (fun ls hl => ?_)
  refine lv_aload_n hx hb dX7_comesHead_15 rfl (lv_at hl 2 rfl) ?_
  refine hv_get (ci := 7) (k := 21) (v := .ref (S.2 v0 21)) hx hb hown hKK hH cf7 (by decide) fl_X7_64 rfl k1 rfl dX7_comesHead_16 ?_
  refine lv_iconst (v := (nI 3)) hx hb dX7_comesHead_19 (by decide) ?_
  refine lv_iload_n hx hb dX7_comesHead_20 rfl (lv_at hl 3 rfl) ?_
  refine lv_imul hx hb dX7_comesHead_21 ?_
  refine lv_iconst (v := (nI 1)) hx hb dX7_comesHead_22 (by decide) ?_
  refine lv_iadd hx hb dX7_comesHead_23 ?_
  obtain ⟨k6, hw⟩ := hw
  refine hv_iald hx hb hKK hH k6 dX7_comesHead_24 ?_
  refine lv_istore (lv' := [(5, .int (h4 (S.2 v0 21) (ix (((nI 3) * v1) + (nI 1))))), (4, .int r5), (3, .int r3), (0, .ref v0), (1, .int v1), (2, .int v2)]) hx hb dX7_comesHead_25 hl (by decide) rfl (fun ls hl => ?_)
  refine lv_aload_n hx hb dX7_comesHead_27 rfl (lv_at hl 3 rfl) ?_
  refine hv_get (ci := 7) (k := 19) (v := .ref (S.2 v0 19)) hx hb hown hKK hH cf7 (by decide) fl_X7_58 rfl k1 rfl dX7_comesHead_28 ?_
  refine lv_iload_n hx hb dX7_comesHead_31 rfl (lv_at hl 4 rfl) ?_
  obtain ⟨k7, hw⟩ := hw
  refine hv_iald hx hb hKK hH k7 dX7_comesHead_32 ?_
  refine lv_iconst (v := (nI 3)) hx hb dX7_comesHead_33 (by decide) ?_
  refine lv_icmp_ne (tgt := 79) hx hb dX7_comesHead_34 (by decide) (fun c8 => ?_) (fun c8 => ?_)
  · have hw := ite_f hw c8
    refine lv_iconst (v := (nI 0)) hx hb dX7_comesHead_79 (by decide) ?_
    exact hv_zret hx hb hr hlk hH (Or.inl rfl) hw dX7_comesHead_80
  · have hw := ite_t hw c8
    refine lv_iload_n hx hb dX7_comesHead_37 rfl (lv_at hl 2 rfl) ?_
    refine lv_iconst (v := (nI 0)) hx hb dX7_comesHead_38 (by decide) ?_
    refine lv_bipush (v := (nI 9)) hx hb dX7_comesHead_39 (by decide) ?_
    refine hv_cSI (rm := rm_X7_isIn) (As := [.int r3, .int (nI 0), .int (nI 9)]) (rest := []) (k := 3) hx hb hml hown hKK hH (m_X7_isIn r3 (nI 0) (nI 9) _ _ hw) cw_X7_85 ⟨Nat.le_of_ble_eq_true rfl, Nat.le_of_ble_eq_true rfl⟩ rfl hl.1 rfl (Nat.le_of_ble_eq_true rfl) ⟨Nat.le_of_ble_eq_true rfl, Nat.le_of_ble_eq_true rfl⟩ dX7_comesHead_41 (fun r10 h9 H locs hH hw => ?_)
    refine lv_if_eq (tgt := 79) hx hb dX7_comesHead_44 (by decide) (fun c11 => ?_) (fun c11 => ?_)
    · have hw := ite_t hw c11
      refine lv_iconst (v := (nI 0)) hx hb dX7_comesHead_79 (by decide) ?_
      exact hv_zret hx hb hr hlk hH (Or.inl rfl) hw dX7_comesHead_80
    · have hw := ite_f hw c11
      refine lv_aload_n hx hb dX7_comesHead_47 rfl (lv_at hl 3 rfl) ?_
      refine lv_iload_n hx hb dX7_comesHead_48 rfl (lv_at hl 4 rfl) ?_
      refine lv_iconst (v := (nI 1)) hx hb dX7_comesHead_49 (by decide) ?_
      refine hv_cVI (rm := rm_X7_areLetters) (As := [.int v1, .int (nI 1)]) (rest := []) (k := 2) (ci := 7) hx hb hml hown hKK hH cf7 k1 (m_X7_areLetters v0 v1 (nI 1) _ _ hw) cw_X7_200 ⟨Nat.le_of_ble_eq_true rfl, Nat.le_of_ble_eq_true rfl⟩ rfl hl.1 rfl (Nat.le_of_ble_eq_true rfl) ⟨Nat.le_of_ble_eq_true rfl, Nat.le_of_ble_eq_true rfl⟩ dX7_comesHead_50 (fun r13 h12 H locs hH hw => ?_)
      refine lv_if_eq (tgt := 79) hx hb dX7_comesHead_53 (by decide) (fun c14 => ?_) (fun c14 => ?_)
      · have hw := ite_t hw c14
        refine lv_iconst (v := (nI 0)) hx hb dX7_comesHead_79 (by decide) ?_
        exact hv_zret hx hb hr hlk hH (Or.inl rfl) hw dX7_comesHead_80
      · have hw := ite_f hw c14
        refine lv_iload hx hb dX7_comesHead_56 (lv_at hl 0 rfl) ?_
        refine lv_bipush (v := (nI 6)) hx hb dX7_comesHead_58 (by decide) ?_
        refine lv_icmp_gt (tgt := 79) hx hb dX7_comesHead_60 (by decide) (fun c15 => ?_) (fun c15 => ?_)
        · have hw := ite_t hw c15
          refine lv_iconst (v := (nI 0)) hx hb dX7_comesHead_79 (by decide) ?_
          exact hv_zret hx hb hr hlk hH (Or.inl rfl) hw dX7_comesHead_80
        · have hw := ite_f hw c15
          refine lv_iload hx hb dX7_comesHead_63 (lv_at hl 1 rfl) ?_
          refine hv_cSI (rm := rm_X7_isField) (As := [.int r5]) (rest := []) (k := 1) hx hb hml hown hKK hH (m_X7_isField r5 _ _ hw) cw_X7_244 ⟨Nat.le_of_ble_eq_true rfl, Nat.le_of_ble_eq_true rfl⟩ rfl hl.1 rfl (Nat.le_of_ble_eq_true rfl) ⟨Nat.le_of_ble_eq_true rfl, Nat.le_of_ble_eq_true rfl⟩ dX7_comesHead_65 (fun r17 h16 H locs hH hw => ?_)
          refine lv_if_eq (tgt := 79) hx hb dX7_comesHead_68 (by decide) (fun c18 => ?_) (fun c18 => ?_)
          · have hw := ite_t hw c18
            refine lv_iconst (v := (nI 0)) hx hb dX7_comesHead_79 (by decide) ?_
            exact hv_zret hx hb hr hlk hH (Or.inl rfl) hw dX7_comesHead_80
          · have hw := ite_f hw c18
            refine lv_aload_n hx hb dX7_comesHead_71 rfl (lv_at hl 3 rfl) ?_
            refine hv_get (ci := 7) (k := 13) (v := .int (h16 v0 13)) hx hb hown hKK hH cf7 (by decide) fl_X7_79 rfl k1 rfl dX7_comesHead_72 ?_
            refine lv_iconst (v := (nI 5)) hx hb dX7_comesHead_75 (by decide) ?_
            refine lv_icmp_ne (tgt := 81) hx hb dX7_comesHead_76 (by decide) (fun c19 => ?_) (fun c19 => ?_)
            · have hw := ite_f hw c19
              refine lv_aload_n hx hb dX7_comesHead_81 rfl (lv_at hl 3 rfl) ?_
              refine lv_iload_n hx hb dX7_comesHead_82 rfl (lv_at hl 5 rfl) ?_
              refine lv_iload_n hx hb dX7_comesHead_83 rfl (lv_at hl 2 rfl) ?_
              refine lv_iload hx hb dX7_comesHead_84 (lv_at hl 1 rfl) ?_
              refine hv_cVV (rm := rm_X7_isMore) (As := [.int v2, .int r3, .int r5]) (rest := []) (k := 3) (ci := 7) hx hb hml hown hKK hH cf7 k1 (m_X7_isMore v0 v2 r3 r5 _ _ hw) cw_X7_247 ⟨Nat.le_of_ble_eq_true rfl, Nat.le_of_ble_eq_true rfl⟩ rfl hl.1 rfl (Nat.le_of_ble_eq_true rfl) ⟨Nat.le_of_ble_eq_true rfl, Nat.le_of_ble_eq_true rfl⟩ dX7_comesHead_86 (fun h20 H locs hH hw => ?_)
              refine lv_iconst (v := (nI 0)) hx hb dX7_comesHead_89 (by decide) ?_
              refine lv_istore (lv' := [(6, .int (nI 0)), (5, .int (h4 (S.2 v0 21) (ix (((nI 3) * v1) + (nI 1))))), (4, .int r5), (3, .int r3), (0, .ref v0), (1, .int v1), (2, .int v2)]) hx hb dX7_comesHead_90 hl (by decide) rfl (fun ls hl => ?_)
              exact c92 _ _ _ _ _ H locs ls hH (lv_sub hl [4, 5, 1, 0] rfl) hw
            · have hw := ite_t hw c19
              refine lv_iconst (v := (nI 0)) hx hb dX7_comesHead_79 (by decide) ?_
              exact hv_zret hx hb hr hlk hH (Or.inl rfl) hw dX7_comesHead_80
abbrev rm_X7_comesWall : Room := { frames := 2, cells := 0, slots := 0, locals := 46 }
set_option maxHeartbeats 4000000 in
set_option maxRecDepth 100000 in
theorem m_X7_comesWall {l : Launch} {G : Gl} {B sz : Nat} {S : St} (v0 : Nat) (v1 : Int32) (h : Hp) (Q : Int32 → Hp → Prop) (hw : w_X7_comesWall S v0 v1 h Q) : MI l G B sz S yX7_comesWall cX7_comesWall 2 .boolean rm_X7_comesWall [.ref v0, .int v1] h Q := by
  refine met_of rfl rfl ?_
  intro p e s m args below meth c hMB H ls hH hl
  obtain ⟨hx, hb, hml, hown, hKK, hr, hlk⟩ := hMB
  replace hl : lv_has ls 2 [(0, .ref v0), (1, .int v1)] := hl
  unfold w_X7_comesWall at hw
  show W p l e rm_X7_comesWall s m args below meth c H [] 0 0 (QI G B S sz below args s Q) (F0 m 0 ls [])
  generalize ([] : List Loc) = locs at hH ⊢
  refine lv_aload_n hx hb dX7_comesWall_0 rfl (lv_at hl 0 rfl) ?_
  obtain ⟨k1, hw⟩ := hw
  refine hv_get (ci := 7) (k := 19) (v := .ref (S.2 v0 19)) hx hb hown hKK hH cf7 (by decide) fl_X7_58 rfl k1 rfl dX7_comesWall_1 ?_
  refine lv_iload_n hx hb dX7_comesWall_4 rfl (lv_at hl 1 rfl) ?_
  obtain ⟨k2, hw⟩ := hw
  refine hv_iald hx hb hKK hH k2 dX7_comesWall_5 ?_
  refine lv_iconst (v := (nI 2)) hx hb dX7_comesWall_6 (by decide) ?_
  refine lv_icmp_ne (tgt := 37) hx hb dX7_comesWall_7 (by decide) (fun c3 => ?_) (fun c3 => ?_)
  · have hw := ite_f hw c3
    refine lv_iconst (v := (nI 0)) hx hb dX7_comesWall_37 (by decide) ?_
    exact hv_zret hx hb hr hlk hH (Or.inl rfl) hw dX7_comesWall_38
  · have hw := ite_t hw c3
    refine lv_aload_n hx hb dX7_comesWall_10 rfl (lv_at hl 0 rfl) ?_
    refine lv_iload_n hx hb dX7_comesWall_11 rfl (lv_at hl 1 rfl) ?_
    refine lv_iconst (v := (nI 0)) hx hb dX7_comesWall_12 (by decide) ?_
    refine hv_cVI (rm := rm_X7_numberOf) (As := [.int v1, .int (nI 0)]) (rest := []) (k := 2) (ci := 7) hx hb hml hown hKK hH cf7 k1 (m_X7_numberOf v0 v1 (nI 0) _ _ hw) cw_X7_241 ⟨Nat.le_of_ble_eq_true rfl, Nat.le_of_ble_eq_true rfl⟩ rfl hl.1 rfl (Nat.le_of_ble_eq_true rfl) ⟨Nat.le_of_ble_eq_true rfl, Nat.le_of_ble_eq_true rfl⟩ dX7_comesWall_13 (fun r5 h4 H locs hH hw => ?_)
    refine hv_cSI (rm := rm_X7_isField) (As := [.int r5]) (rest := []) (k := 1) hx hb hml hown hKK hH (m_X7_isField r5 _ _ hw) cw_X7_244 ⟨Nat.le_of_ble_eq_true rfl, Nat.le_of_ble_eq_true rfl⟩ rfl hl.1 rfl (Nat.le_of_ble_eq_true rfl) ⟨Nat.le_of_ble_eq_true rfl, Nat.le_of_ble_eq_true rfl⟩ dX7_comesWall_16 (fun r7 h6 H locs hH hw => ?_)
    refine lv_if_eq (tgt := 37) hx hb dX7_comesWall_19 (by decide) (fun c8 => ?_) (fun c8 => ?_)
    · have hw := ite_t hw c8
      refine lv_iconst (v := (nI 0)) hx hb dX7_comesWall_37 (by decide) ?_
      exact hv_zret hx hb hr hlk hH (Or.inl rfl) hw dX7_comesWall_38
    · have hw := ite_f hw c8
      refine lv_aload_n hx hb dX7_comesWall_22 rfl (lv_at hl 0 rfl) ?_
      refine lv_iload_n hx hb dX7_comesWall_23 rfl (lv_at hl 1 rfl) ?_
      refine lv_iconst (v := (nI 1)) hx hb dX7_comesWall_24 (by decide) ?_
      refine hv_cVI (rm := rm_X7_numberOf) (As := [.int v1, .int (nI 1)]) (rest := []) (k := 2) (ci := 7) hx hb hml hown hKK hH cf7 k1 (m_X7_numberOf v0 v1 (nI 1) _ _ hw) cw_X7_241 ⟨Nat.le_of_ble_eq_true rfl, Nat.le_of_ble_eq_true rfl⟩ rfl hl.1 rfl (Nat.le_of_ble_eq_true rfl) ⟨Nat.le_of_ble_eq_true rfl, Nat.le_of_ble_eq_true rfl⟩ dX7_comesWall_25 (fun r10 h9 H locs hH hw => ?_)
      refine lv_iconst (v := (nI 0)) hx hb dX7_comesWall_28 (by decide) ?_
      refine lv_bipush (v := (nI 9)) hx hb dX7_comesWall_29 (by decide) ?_
      refine hv_cSI (rm := rm_X7_isIn) (As := [.int r10, .int (nI 0), .int (nI 9)]) (rest := []) (k := 3) hx hb hml hown hKK hH (m_X7_isIn r10 (nI 0) (nI 9) _ _ hw) cw_X7_85 ⟨Nat.le_of_ble_eq_true rfl, Nat.le_of_ble_eq_true rfl⟩ rfl hl.1 rfl (Nat.le_of_ble_eq_true rfl) ⟨Nat.le_of_ble_eq_true rfl, Nat.le_of_ble_eq_true rfl⟩ dX7_comesWall_31 (fun r12 h11 H locs hH hw => ?_)
      refine lv_if_ne (tgt := 39) hx hb dX7_comesWall_34 (by decide) (fun c13 => ?_) (fun c13 => ?_)
      · have hw := ite_f hw c13
        refine lv_aload_n hx hb dX7_comesWall_39 rfl (lv_at hl 0 rfl) ?_
        refine hv_get (ci := 7) (k := 1) (v := .ref (S.2 v0 1)) hx hb hown hKK hH cf7 (by decide) fl_X7_13 rfl k1 rfl dX7_comesWall_40 ?_
        refine lv_aload_n hx hb dX7_comesWall_43 rfl (lv_at hl 0 rfl) ?_
        refine lv_iload_n hx hb dX7_comesWall_44 rfl (lv_at hl 1 rfl) ?_
        refine lv_iconst (v := (nI 0)) hx hb dX7_comesWall_45 (by decide) ?_
        refine hv_cVI (rm := rm_X7_numberOf) (As := [.int v1, .int (nI 0)]) (rest := [.ref (S.2 v0 1)]) (k := 2) (ci := 7) hx hb hml hown hKK hH cf7 k1 (m_X7_numberOf v0 v1 (nI 0) _ _ hw) cw_X7_241 ⟨Nat.le_of_ble_eq_true rfl, Nat.le_of_ble_eq_true rfl⟩ rfl hl.1 rfl (Nat.le_of_ble_eq_true rfl) ⟨Nat.le_of_ble_eq_true rfl, Nat.le_of_ble_eq_true rfl⟩ dX7_comesWall_46 (fun r15 h14 H locs hH hw => ?_)
        refine lv_aload_n hx hb dX7_comesWall_49 rfl (lv_at hl 0 rfl) ?_
        refine lv_iload_n hx hb dX7_comesWall_50 rfl (lv_at hl 1 rfl) ?_
        refine lv_iconst (v := (nI 1)) hx hb dX7_comesWall_51 (by decide) ?_
        refine hv_cVI (rm := rm_X7_numberOf) (As := [.int v1, .int (nI 1)]) (rest := [.int r15, .ref (S.2 v0 1)]) (k := 2) (ci := 7) hx hb hml hown hKK hH cf7 k1 (m_X7_numberOf v0 v1 (nI 1) _ _ hw) cw_X7_241 ⟨Nat.le_of_ble_eq_true rfl, Nat.le_of_ble_eq_true rfl⟩ rfl hl.1 rfl (Nat.le_of_ble_eq_true rfl) ⟨Nat.le_of_ble_eq_true rfl, Nat.le_of_ble_eq_true rfl⟩ dX7_comesWall_52 (fun r17 h16 H locs hH hw => ?_)
        obtain ⟨k18, hw⟩ := hw
        refine hv_iast hx hb hKK hH k18 dX7_comesWall_55 (fun H locs hH => ?_)
        refine lv_iconst (v := (nI 1)) hx hb dX7_comesWall_56 (by decide) ?_
        exact hv_zret hx hb hr hlk hH (Or.inr rfl) hw dX7_comesWall_57
      · have hw := ite_t hw c13
        refine lv_iconst (v := (nI 0)) hx hb dX7_comesWall_37 (by decide) ?_
        exact hv_zret hx hb hr hlk hH (Or.inl rfl) hw dX7_comesWall_38
abbrev rm_X7_comesFolk : Room := { frames := 2, cells := 0, slots := 0, locals := 46 }
set_option maxHeartbeats 4000000 in
set_option maxRecDepth 100000 in
theorem m_X7_comesFolk {l : Launch} {G : Gl} {B sz : Nat} {S : St} (v0 : Nat) (v1 : Int32) (h : Hp) (Q : Int32 → Hp → Prop) (hw : w_X7_comesFolk S v0 v1 h Q) : MI l G B sz S yX7_comesFolk cX7_comesFolk 2 .boolean rm_X7_comesFolk [.ref v0, .int v1] h Q := by
  refine met_of rfl rfl ?_
  intro p e s m args below meth c hMB H ls hH hl
  obtain ⟨hx, hb, hml, hown, hKK, hr, hlk⟩ := hMB
  replace hl : lv_has ls 2 [(0, .ref v0), (1, .int v1)] := hl
  unfold w_X7_comesFolk at hw
  show W p l e rm_X7_comesFolk s m args below meth c H [] 0 0 (QI G B S sz below args s Q) (F0 m 0 ls [])
  generalize ([] : List Loc) = locs at hH ⊢
  refine lv_aload_n hx hb dX7_comesFolk_0 rfl (lv_at hl 0 rfl) ?_
  obtain ⟨k1, hw⟩ := hw
  refine hv_get (ci := 7) (k := 19) (v := .ref (S.2 v0 19)) hx hb hown hKK hH cf7 (by decide) fl_X7_58 rfl k1 rfl dX7_comesFolk_1 ?_
  refine lv_iload_n hx hb dX7_comesFolk_4 rfl (lv_at hl 1 rfl) ?_
  obtain ⟨k2, hw⟩ := hw
  refine hv_iald hx hb hKK hH k2 dX7_comesFolk_5 ?_
  refine lv_iconst (v := (nI 3)) hx hb dX7_comesFolk_6 (by decide) ?_
  refine lv_icmp_ne (tgt := 60) hx hb dX7_comesFolk_7 (by decide) (fun c3 => ?_) (fun c3 => ?_)
  · have hw := ite_f hw c3
    refine lv_iconst (v := (nI 0)) hx hb dX7_comesFolk_60 (by decide) ?_
    exact hv_zret hx hb hr hlk hH (Or.inl rfl) hw dX7_comesFolk_61
  · have hw := ite_t hw c3
    refine lv_aload_n hx hb dX7_comesFolk_10 rfl (lv_at hl 0 rfl) ?_
    refine lv_iload_n hx hb dX7_comesFolk_11 rfl (lv_at hl 1 rfl) ?_
    refine lv_iconst (v := (nI 0)) hx hb dX7_comesFolk_12 (by decide) ?_
    refine hv_cVI (rm := rm_X7_numberOf) (As := [.int v1, .int (nI 0)]) (rest := []) (k := 2) (ci := 7) hx hb hml hown hKK hH cf7 k1 (m_X7_numberOf v0 v1 (nI 0) _ _ hw) cw_X7_241 ⟨Nat.le_of_ble_eq_true rfl, Nat.le_of_ble_eq_true rfl⟩ rfl hl.1 rfl (Nat.le_of_ble_eq_true rfl) ⟨Nat.le_of_ble_eq_true rfl, Nat.le_of_ble_eq_true rfl⟩ dX7_comesFolk_13 (fun r5 h4 H locs hH hw => ?_)
    refine hv_cSI (rm := rm_X7_isField) (As := [.int r5]) (rest := []) (k := 1) hx hb hml hown hKK hH (m_X7_isField r5 _ _ hw) cw_X7_244 ⟨Nat.le_of_ble_eq_true rfl, Nat.le_of_ble_eq_true rfl⟩ rfl hl.1 rfl (Nat.le_of_ble_eq_true rfl) ⟨Nat.le_of_ble_eq_true rfl, Nat.le_of_ble_eq_true rfl⟩ dX7_comesFolk_16 (fun r7 h6 H locs hH hw => ?_)
    refine lv_if_eq (tgt := 60) hx hb dX7_comesFolk_19 (by decide) (fun c8 => ?_) (fun c8 => ?_)
    · have hw := ite_t hw c8
      refine lv_iconst (v := (nI 0)) hx hb dX7_comesFolk_60 (by decide) ?_
      exact hv_zret hx hb hr hlk hH (Or.inl rfl) hw dX7_comesFolk_61
    · have hw := ite_f hw c8
      refine lv_aload_n hx hb dX7_comesFolk_22 rfl (lv_at hl 0 rfl) ?_
      refine lv_iload_n hx hb dX7_comesFolk_23 rfl (lv_at hl 1 rfl) ?_
      refine lv_iconst (v := (nI 1)) hx hb dX7_comesFolk_24 (by decide) ?_
      refine hv_cVI (rm := rm_X7_numberOf) (As := [.int v1, .int (nI 1)]) (rest := []) (k := 2) (ci := 7) hx hb hml hown hKK hH cf7 k1 (m_X7_numberOf v0 v1 (nI 1) _ _ hw) cw_X7_241 ⟨Nat.le_of_ble_eq_true rfl, Nat.le_of_ble_eq_true rfl⟩ rfl hl.1 rfl (Nat.le_of_ble_eq_true rfl) ⟨Nat.le_of_ble_eq_true rfl, Nat.le_of_ble_eq_true rfl⟩ dX7_comesFolk_25 (fun r10 h9 H locs hH hw => ?_)
      refine lv_iconst (v := (nI 0)) hx hb dX7_comesFolk_28 (by decide) ?_
      refine lv_bipush (v := (nI 9)) hx hb dX7_comesFolk_29 (by decide) ?_
      refine hv_cSI (rm := rm_X7_isIn) (As := [.int r10, .int (nI 0), .int (nI 9)]) (rest := []) (k := 3) hx hb hml hown hKK hH (m_X7_isIn r10 (nI 0) (nI 9) _ _ hw) cw_X7_85 ⟨Nat.le_of_ble_eq_true rfl, Nat.le_of_ble_eq_true rfl⟩ rfl hl.1 rfl (Nat.le_of_ble_eq_true rfl) ⟨Nat.le_of_ble_eq_true rfl, Nat.le_of_ble_eq_true rfl⟩ dX7_comesFolk_31 (fun r12 h11 H locs hH hw => ?_)
      refine lv_if_eq (tgt := 60) hx hb dX7_comesFolk_34 (by decide) (fun c13 => ?_) (fun c13 => ?_)
      · have hw := ite_t hw c13
        refine lv_iconst (v := (nI 0)) hx hb dX7_comesFolk_60 (by decide) ?_
        exact hv_zret hx hb hr hlk hH (Or.inl rfl) hw dX7_comesFolk_61
      · have hw := ite_f hw c13
        refine lv_aload_n hx hb dX7_comesFolk_37 rfl (lv_at hl 0 rfl) ?_
        refine lv_iload_n hx hb dX7_comesFolk_38 rfl (lv_at hl 1 rfl) ?_
        refine lv_iconst (v := (nI 2)) hx hb dX7_comesFolk_39 (by decide) ?_
        refine hv_cVI (rm := rm_X7_areLetters) (As := [.int v1, .int (nI 2)]) (rest := []) (k := 2) (ci := 7) hx hb hml hown hKK hH cf7 k1 (m_X7_areLetters v0 v1 (nI 2) _ _ hw) cw_X7_200 ⟨Nat.le_of_ble_eq_true rfl, Nat.le_of_ble_eq_true rfl⟩ rfl hl.1 rfl (Nat.le_of_ble_eq_true rfl) ⟨Nat.le_of_ble_eq_true rfl, Nat.le_of_ble_eq_true rfl⟩ dX7_comesFolk_40 (fun r15 h14 H locs hH hw => ?_)
        refine lv_if_eq (tgt := 60) hx hb dX7_comesFolk_43 (by decide) (fun c16 => ?_) (fun c16 => ?_)
        · have hw := ite_t hw c16
          refine lv_iconst (v := (nI 0)) hx hb dX7_comesFolk_60 (by decide) ?_
          exact hv_zret hx hb hr hlk hH (Or.inl rfl) hw dX7_comesFolk_61
        · have hw := ite_f hw c16
          refine lv_aload_n hx hb dX7_comesFolk_46 rfl (lv_at hl 0 rfl) ?_
          refine hv_get (ci := 7) (k := 21) (v := .ref (S.2 v0 21)) hx hb hown hKK hH cf7 (by decide) fl_X7_64 rfl k1 rfl dX7_comesFolk_47 ?_
          refine lv_iconst (v := (nI 3)) hx hb dX7_comesFolk_50 (by decide) ?_
          refine lv_iload_n hx hb dX7_comesFolk_51 rfl (lv_at hl 1 rfl) ?_
          refine lv_imul hx hb dX7_comesFolk_52 ?_
          refine lv_iconst (v := (nI 2)) hx hb dX7_comesFolk_53 (by decide) ?_
          refine lv_iadd hx hb dX7_comesFolk_54 ?_
          obtain ⟨k17, hw⟩ := hw
          refine hv_iald hx hb hKK hH k17 dX7_comesFolk_55 ?_
          refine lv_iconst (v := (nI 1)) hx hb dX7_comesFolk_56 (by decide) ?_
          refine lv_icmp_eq (tgt := 62) hx hb dX7_comesFolk_57 (by decide) (fun c18 => ?_) (fun c18 => ?_)
          · have hw := ite_t hw c18
            refine lv_aload_n hx hb dX7_comesFolk_62 rfl (lv_at hl 0 rfl) ?_
            refine hv_get (ci := 7) (k := 2) (v := .ref (S.2 v0 2)) hx hb hown hKK hH cf7 (by decide) fl_X7_16 rfl k1 rfl dX7_comesFolk_63 ?_
            refine lv_aload_n hx hb dX7_comesFolk_66 rfl (lv_at hl 0 rfl) ?_
            refine lv_iload_n hx hb dX7_comesFolk_67 rfl (lv_at hl 1 rfl) ?_
            refine lv_iconst (v := (nI 0)) hx hb dX7_comesFolk_68 (by decide) ?_
            refine hv_cVI (rm := rm_X7_numberOf) (As := [.int v1, .int (nI 0)]) (rest := [.ref (S.2 v0 2)]) (k := 2) (ci := 7) hx hb hml hown hKK hH cf7 k1 (m_X7_numberOf v0 v1 (nI 0) _ _ hw) cw_X7_241 ⟨Nat.le_of_ble_eq_true rfl, Nat.le_of_ble_eq_true rfl⟩ rfl hl.1 rfl (Nat.le_of_ble_eq_true rfl) ⟨Nat.le_of_ble_eq_true rfl, Nat.le_of_ble_eq_true rfl⟩ dX7_comesFolk_69 (fun r20 h19 H locs hH hw => ?_)
            refine lv_aload_n hx hb dX7_comesFolk_72 rfl (lv_at hl 0 rfl) ?_
            refine lv_iload_n hx hb dX7_comesFolk_73 rfl (lv_at hl 1 rfl) ?_
            refine lv_iconst (v := (nI 1)) hx hb dX7_comesFolk_74 (by decide) ?_
            refine hv_cVI (rm := rm_X7_numberOf) (As := [.int v1, .int (nI 1)]) (rest := [.int r20, .ref (S.2 v0 2)]) (k := 2) (ci := 7) hx hb hml hown hKK hH cf7 k1 (m_X7_numberOf v0 v1 (nI 1) _ _ hw) cw_X7_241 ⟨Nat.le_of_ble_eq_true rfl, Nat.le_of_ble_eq_true rfl⟩ rfl hl.1 rfl (Nat.le_of_ble_eq_true rfl) ⟨Nat.le_of_ble_eq_true rfl, Nat.le_of_ble_eq_true rfl⟩ dX7_comesFolk_75 (fun r22 h21 H locs hH hw => ?_)
            obtain ⟨k23, hw⟩ := hw
            refine hv_iast hx hb hKK hH k23 dX7_comesFolk_78 (fun H locs hH => ?_)
            refine lv_aload_n hx hb dX7_comesFolk_79 rfl (lv_at hl 0 rfl) ?_
            refine hv_get (ci := 7) (k := 3) (v := .ref (S.2 v0 3)) hx hb hown hKK hH cf7 (by decide) fl_X7_19 rfl k1 rfl dX7_comesFolk_80 ?_
            refine lv_aload_n hx hb dX7_comesFolk_83 rfl (lv_at hl 0 rfl) ?_
            refine lv_iload_n hx hb dX7_comesFolk_84 rfl (lv_at hl 1 rfl) ?_
            refine lv_iconst (v := (nI 0)) hx hb dX7_comesFolk_85 (by decide) ?_
            refine hv_cVI (rm := rm_X7_numberOf) (As := [.int v1, .int (nI 0)]) (rest := [.ref (S.2 v0 3)]) (k := 2) (ci := 7) hx hb hml hown hKK hH cf7 k1 (m_X7_numberOf v0 v1 (nI 0) _ _ hw) cw_X7_241 ⟨Nat.le_of_ble_eq_true rfl, Nat.le_of_ble_eq_true rfl⟩ rfl hl.1 rfl (Nat.le_of_ble_eq_true rfl) ⟨Nat.le_of_ble_eq_true rfl, Nat.le_of_ble_eq_true rfl⟩ dX7_comesFolk_86 (fun r25 h24 H locs hH hw => ?_)
            refine lv_aload_n hx hb dX7_comesFolk_89 rfl (lv_at hl 0 rfl) ?_
            refine hv_get (ci := 7) (k := 16) (v := .ref (S.2 v0 16)) hx hb hown hKK hH cf7 (by decide) fl_X7_49 rfl k1 rfl dX7_comesFolk_90 ?_
            refine lv_aload_n hx hb dX7_comesFolk_93 rfl (lv_at hl 0 rfl) ?_
            refine hv_get (ci := 7) (k := 20) (v := .ref (S.2 v0 20)) hx hb hown hKK hH cf7 (by decide) fl_X7_61 rfl k1 rfl dX7_comesFolk_94 ?_
            refine lv_iconst (v := (nI 3)) hx hb dX7_comesFolk_97 (by decide) ?_
            refine lv_iload_n hx hb dX7_comesFolk_98 rfl (lv_at hl 1 rfl) ?_
            refine lv_imul hx hb dX7_comesFolk_99 ?_
            refine lv_iconst (v := (nI 2)) hx hb dX7_comesFolk_100 (by decide) ?_
            refine lv_iadd hx hb dX7_comesFolk_101 ?_
            obtain ⟨k26, hw⟩ := hw
            refine hv_iald hx hb hKK hH k26 dX7_comesFolk_102 ?_
            obtain ⟨k27, hw⟩ := hw
            refine hv_iald hx hb hKK hH k27 dX7_comesFolk_103 ?_
            refine lv_bipush (v := (nI 97)) hx hb dX7_comesFolk_104 (by decide) ?_
            refine lv_isub hx hb dX7_comesFolk_106 ?_
            obtain ⟨k28, hw⟩ := hw
            refine hv_iast hx hb hKK hH k28 dX7_comesFolk_107 (fun H locs hH => ?_)
            refine lv_iconst (v := (nI 1)) hx hb dX7_comesFolk_108 (by decide) ?_
            exact hv_zret hx hb hr hlk hH (Or.inr rfl) hw dX7_comesFolk_109
          · have hw := ite_f hw c18
            refine lv_iconst (v := (nI 0)) hx hb dX7_comesFolk_60 (by decide) ?_
            exact hv_zret hx hb hr hlk hH (Or.inl rfl) hw dX7_comesFolk_61
abbrev rm_X7_comesFace : Room := { frames := 2, cells := 0, slots := 0, locals := 47 }
set_option maxHeartbeats 4000000 in
set_option maxRecDepth 100000 in
theorem m_X7_comesFace {l : Launch} {G : Gl} {B sz : Nat} {S : St} (v0 : Nat) (v1 : Int32) (h : Hp) (Q : Int32 → Hp → Prop) (hw : w_X7_comesFace S v0 v1 h Q) : MI l G B sz S yX7_comesFace cX7_comesFace 3 .boolean rm_X7_comesFace [.ref v0, .int v1] h Q := by
  refine met_of rfl rfl ?_
  intro p e s m args below meth c hMB H ls hH hl
  obtain ⟨hx, hb, hml, hown, hKK, hr, hlk⟩ := hMB
  replace hl : lv_has ls 3 [(0, .ref v0), (1, .int v1)] := hl
  unfold w_X7_comesFace at hw
  show W p l e rm_X7_comesFace s m args below meth c H [] 0 0 (QI G B S sz below args s Q) (F0 m 0 ls [])
  generalize ([] : List Loc) = locs at hH ⊢
  refine lv_aload_n hx hb dX7_comesFace_0 rfl (lv_at hl 0 rfl) ?_
  refine lv_iload_n hx hb dX7_comesFace_1 rfl (lv_at hl 1 rfl) ?_
  refine lv_iconst (v := (nI 1)) hx hb dX7_comesFace_2 (by decide) ?_
  obtain ⟨k1, hw⟩ := hw
  refine hv_cVL (rm := rm_X7_wordOf) (As := [.int v1, .int (nI 1)]) (rest := []) (k := 2) (ci := 7) hx hb hml hown hKK hH cf7 k1 (m_X7_wordOf v0 v1 (nI 1) _ _ hw) cw_X7_251 ⟨Nat.le_of_ble_eq_true rfl, Nat.le_of_ble_eq_true rfl⟩ rfl hl.1 rfl (Nat.le_of_ble_eq_true rfl) ⟨Nat.le_of_ble_eq_true rfl, Nat.le_of_ble_eq_true rfl⟩ dX7_comesFace_3 (fun r3 h2 H locs hH hw => ?_)
  refine hv_cSI (rm := rm_X7_faceSaid) (As := [.long r3]) (rest := []) (k := 1) hx hb hml hown hKK hH (m_X7_faceSaid r3 _ _ hw) cw_X7_254 ⟨Nat.le_of_ble_eq_true rfl, Nat.le_of_ble_eq_true rfl⟩ rfl hl.1 rfl (Nat.le_of_ble_eq_true rfl) ⟨Nat.le_of_ble_eq_true rfl, Nat.le_of_ble_eq_true rfl⟩ dX7_comesFace_6 (fun r5 h4 H locs hH hw => ?_)
  refine lv_istore_n (lv' := [(2, .int r5), (0, .ref v0), (1, .int v1)]) hx hb dX7_comesFace_9 rfl hl (by decide) rfl (fun ls hl => ?_)
  refine lv_aload_n hx hb dX7_comesFace_10 rfl (lv_at hl 1 rfl) ?_
  refine hv_get (ci := 7) (k := 19) (v := .ref (S.2 v0 19)) hx hb hown hKK hH cf7 (by decide) fl_X7_58 rfl k1 rfl dX7_comesFace_11 ?_
  refine lv_iload_n hx hb dX7_comesFace_14 rfl (lv_at hl 2 rfl) ?_
  obtain ⟨k6, hw⟩ := hw
  refine hv_iald hx hb hKK hH k6 dX7_comesFace_15 ?_
  refine lv_iconst (v := (nI 2)) hx hb dX7_comesFace_16 (by decide) ?_
  refine lv_icmp_ne (tgt := 37) hx hb dX7_comesFace_17 (by decide) (fun c7 => ?_) (fun c7 => ?_)
  · have hw := ite_f hw c7
    refine lv_iconst (v := (nI 0)) hx hb dX7_comesFace_37 (by decide) ?_
    exact hv_zret hx hb hr hlk hH (Or.inl rfl) hw dX7_comesFace_38
  · have hw := ite_t hw c7
    refine lv_aload_n hx hb dX7_comesFace_20 rfl (lv_at hl 1 rfl) ?_
    refine lv_aload_n hx hb dX7_comesFace_21 rfl (lv_at hl 1 rfl) ?_
    refine lv_iload_n hx hb dX7_comesFace_22 rfl (lv_at hl 2 rfl) ?_
    refine lv_iconst (v := (nI 0)) hx hb dX7_comesFace_23 (by decide) ?_
    refine hv_cVI (rm := rm_X7_numberOf) (As := [.int v1, .int (nI 0)]) (rest := [.ref v0]) (k := 2) (ci := 7) hx hb hml hown hKK hH cf7 k1 (m_X7_numberOf v0 v1 (nI 0) _ _ hw) cw_X7_241 ⟨Nat.le_of_ble_eq_true rfl, Nat.le_of_ble_eq_true rfl⟩ rfl hl.1 rfl (Nat.le_of_ble_eq_true rfl) ⟨Nat.le_of_ble_eq_true rfl, Nat.le_of_ble_eq_true rfl⟩ dX7_comesFace_24 (fun r9 h8 H locs hH hw => ?_)
    refine hv_cVI (rm := rm_X7_isHead) (As := [.int r9]) (rest := []) (k := 1) (ci := 7) hx hb hml hown hKK hH cf7 k1 (m_X7_isHead v0 r9 _ _ hw) cw_X7_89 ⟨Nat.le_of_ble_eq_true rfl, Nat.le_of_ble_eq_true rfl⟩ rfl hl.1 rfl (Nat.le_of_ble_eq_true rfl) ⟨Nat.le_of_ble_eq_true rfl, Nat.le_of_ble_eq_true rfl⟩ dX7_comesFace_27 (fun r11 h10 H locs hH hw => ?_)
    refine lv_if_eq (tgt := 37) hx hb dX7_comesFace_30 (by decide) (fun c12 => ?_) (fun c12 => ?_)
    · have hw := ite_t hw c12
      refine lv_iconst (v := (nI 0)) hx hb dX7_comesFace_37 (by decide) ?_
      exact hv_zret hx hb hr hlk hH (Or.inl rfl) hw dX7_comesFace_38
    · have hw := ite_f hw c12
      refine lv_iload_n hx hb dX7_comesFace_33 rfl (lv_at hl 0 rfl) ?_
      refine lv_if_ge (tgt := 39) hx hb dX7_comesFace_34 (by decide) (fun c13 => ?_) (fun c13 => ?_)
      · have hw := ite_t hw c13
        refine lv_aload_n hx hb dX7_comesFace_39 rfl (lv_at hl 1 rfl) ?_
        refine hv_get (ci := 7) (k := 7) (v := .ref (S.2 v0 7)) hx hb hown hKK hH cf7 (by decide) fl_X7_31 rfl k1 rfl dX7_comesFace_40 ?_
        refine lv_aload_n hx hb dX7_comesFace_43 rfl (lv_at hl 1 rfl) ?_
        refine lv_iload_n hx hb dX7_comesFace_44 rfl (lv_at hl 2 rfl) ?_
        refine lv_iconst (v := (nI 0)) hx hb dX7_comesFace_45 (by decide) ?_
        refine hv_cVI (rm := rm_X7_numberOf) (As := [.int v1, .int (nI 0)]) (rest := [.ref (S.2 v0 7)]) (k := 2) (ci := 7) hx hb hml hown hKK hH cf7 k1 (m_X7_numberOf v0 v1 (nI 0) _ _ hw) cw_X7_241 ⟨Nat.le_of_ble_eq_true rfl, Nat.le_of_ble_eq_true rfl⟩ rfl hl.1 rfl (Nat.le_of_ble_eq_true rfl) ⟨Nat.le_of_ble_eq_true rfl, Nat.le_of_ble_eq_true rfl⟩ dX7_comesFace_46 (fun r15 h14 H locs hH hw => ?_)
        refine lv_iload_n hx hb dX7_comesFace_49 rfl (lv_at hl 0 rfl) ?_
        obtain ⟨k16, hw⟩ := hw
        refine hv_iast hx hb hKK hH k16 dX7_comesFace_50 (fun H locs hH => ?_)
        refine lv_iconst (v := (nI 1)) hx hb dX7_comesFace_51 (by decide) ?_
        exact hv_zret hx hb hr hlk hH (Or.inr rfl) hw dX7_comesFace_52
      · have hw := ite_f hw c13
        refine lv_iconst (v := (nI 0)) hx hb dX7_comesFace_37 (by decide) ?_
        exact hv_zret hx hb hr hlk hH (Or.inl rfl) hw dX7_comesFace_38
abbrev rm_X7_comesDoing : Room := { frames := 2, cells := 0, slots := 0, locals := 47 }
set_option maxHeartbeats 4000000 in
set_option maxRecDepth 100000 in
theorem m_X7_comesDoing {l : Launch} {G : Gl} {B sz : Nat} {S : St} (v0 : Nat) (v1 : Int32) (h : Hp) (Q : Int32 → Hp → Prop) (hw : w_X7_comesDoing S v0 v1 h Q) : MI l G B sz S yX7_comesDoing cX7_comesDoing 3 .boolean rm_X7_comesDoing [.ref v0, .int v1] h Q := by
  refine met_of rfl rfl ?_
  intro p e s m args below meth c hMB H ls hH hl
  obtain ⟨hx, hb, hml, hown, hKK, hr, hlk⟩ := hMB
  replace hl : lv_has ls 3 [(0, .ref v0), (1, .int v1)] := hl
  unfold w_X7_comesDoing at hw
  show W p l e rm_X7_comesDoing s m args below meth c H [] 0 0 (QI G B S sz below args s Q) (F0 m 0 ls [])
  generalize ([] : List Loc) = locs at hH ⊢
  refine lv_aload_n hx hb dX7_comesDoing_0 rfl (lv_at hl 0 rfl) ?_
  refine lv_iload_n hx hb dX7_comesDoing_1 rfl (lv_at hl 1 rfl) ?_
  refine lv_iconst (v := (nI 1)) hx hb dX7_comesDoing_2 (by decide) ?_
  obtain ⟨k1, hw⟩ := hw
  refine hv_cVL (rm := rm_X7_wordOf) (As := [.int v1, .int (nI 1)]) (rest := []) (k := 2) (ci := 7) hx hb hml hown hKK hH cf7 k1 (m_X7_wordOf v0 v1 (nI 1) _ _ hw) cw_X7_251 ⟨Nat.le_of_ble_eq_true rfl, Nat.le_of_ble_eq_true rfl⟩ rfl hl.1 rfl (Nat.le_of_ble_eq_true rfl) ⟨Nat.le_of_ble_eq_true rfl, Nat.le_of_ble_eq_true rfl⟩ dX7_comesDoing_3 (fun r3 h2 H locs hH hw => ?_)
  refine hv_cSI (rm := rm_X7_doesSaid) (As := [.long r3]) (rest := []) (k := 1) hx hb hml hown hKK hH (m_X7_doesSaid r3 _ _ hw) cw_X7_258 ⟨Nat.le_of_ble_eq_true rfl, Nat.le_of_ble_eq_true rfl⟩ rfl hl.1 rfl (Nat.le_of_ble_eq_true rfl) ⟨Nat.le_of_ble_eq_true rfl, Nat.le_of_ble_eq_true rfl⟩ dX7_comesDoing_6 (fun r5 h4 H locs hH hw => ?_)
  refine lv_istore_n (lv' := [(2, .int r5), (0, .ref v0), (1, .int v1)]) hx hb dX7_comesDoing_9 rfl hl (by decide) rfl (fun ls hl => ?_)
  refine lv_aload_n hx hb dX7_comesDoing_10 rfl (lv_at hl 1 rfl) ?_
  refine hv_get (ci := 7) (k := 19) (v := .ref (S.2 v0 19)) hx hb hown hKK hH cf7 (by decide) fl_X7_58 rfl k1 rfl dX7_comesDoing_11 ?_
  refine lv_iload_n hx hb dX7_comesDoing_14 rfl (lv_at hl 2 rfl) ?_
  obtain ⟨k6, hw⟩ := hw
  refine hv_iald hx hb hKK hH k6 dX7_comesDoing_15 ?_
  refine lv_iconst (v := (nI 2)) hx hb dX7_comesDoing_16 (by decide) ?_
  refine lv_icmp_ne (tgt := 37) hx hb dX7_comesDoing_17 (by decide) (fun c7 => ?_) (fun c7 => ?_)
  · have hw := ite_f hw c7
    refine lv_iconst (v := (nI 0)) hx hb dX7_comesDoing_37 (by decide) ?_
    exact hv_zret hx hb hr hlk hH (Or.inl rfl) hw dX7_comesDoing_38
  · have hw := ite_t hw c7
    refine lv_aload_n hx hb dX7_comesDoing_20 rfl (lv_at hl 1 rfl) ?_
    refine lv_aload_n hx hb dX7_comesDoing_21 rfl (lv_at hl 1 rfl) ?_
    refine lv_iload_n hx hb dX7_comesDoing_22 rfl (lv_at hl 2 rfl) ?_
    refine lv_iconst (v := (nI 0)) hx hb dX7_comesDoing_23 (by decide) ?_
    refine hv_cVI (rm := rm_X7_numberOf) (As := [.int v1, .int (nI 0)]) (rest := [.ref v0]) (k := 2) (ci := 7) hx hb hml hown hKK hH cf7 k1 (m_X7_numberOf v0 v1 (nI 0) _ _ hw) cw_X7_241 ⟨Nat.le_of_ble_eq_true rfl, Nat.le_of_ble_eq_true rfl⟩ rfl hl.1 rfl (Nat.le_of_ble_eq_true rfl) ⟨Nat.le_of_ble_eq_true rfl, Nat.le_of_ble_eq_true rfl⟩ dX7_comesDoing_24 (fun r9 h8 H locs hH hw => ?_)
    refine hv_cVI (rm := rm_X7_isHead) (As := [.int r9]) (rest := []) (k := 1) (ci := 7) hx hb hml hown hKK hH cf7 k1 (m_X7_isHead v0 r9 _ _ hw) cw_X7_89 ⟨Nat.le_of_ble_eq_true rfl, Nat.le_of_ble_eq_true rfl⟩ rfl hl.1 rfl (Nat.le_of_ble_eq_true rfl) ⟨Nat.le_of_ble_eq_true rfl, Nat.le_of_ble_eq_true rfl⟩ dX7_comesDoing_27 (fun r11 h10 H locs hH hw => ?_)
    refine lv_if_eq (tgt := 37) hx hb dX7_comesDoing_30 (by decide) (fun c12 => ?_) (fun c12 => ?_)
    · have hw := ite_t hw c12
      refine lv_iconst (v := (nI 0)) hx hb dX7_comesDoing_37 (by decide) ?_
      exact hv_zret hx hb hr hlk hH (Or.inl rfl) hw dX7_comesDoing_38
    · have hw := ite_f hw c12
      refine lv_iload_n hx hb dX7_comesDoing_33 rfl (lv_at hl 0 rfl) ?_
      refine lv_if_ge (tgt := 39) hx hb dX7_comesDoing_34 (by decide) (fun c13 => ?_) (fun c13 => ?_)
      · have hw := ite_t hw c13
        refine lv_aload_n hx hb dX7_comesDoing_39 rfl (lv_at hl 1 rfl) ?_
        refine hv_get (ci := 7) (k := 8) (v := .ref (S.2 v0 8)) hx hb hown hKK hH cf7 (by decide) fl_X7_34 rfl k1 rfl dX7_comesDoing_40 ?_
        refine lv_aload_n hx hb dX7_comesDoing_43 rfl (lv_at hl 1 rfl) ?_
        refine lv_iload_n hx hb dX7_comesDoing_44 rfl (lv_at hl 2 rfl) ?_
        refine lv_iconst (v := (nI 0)) hx hb dX7_comesDoing_45 (by decide) ?_
        refine hv_cVI (rm := rm_X7_numberOf) (As := [.int v1, .int (nI 0)]) (rest := [.ref (S.2 v0 8)]) (k := 2) (ci := 7) hx hb hml hown hKK hH cf7 k1 (m_X7_numberOf v0 v1 (nI 0) _ _ hw) cw_X7_241 ⟨Nat.le_of_ble_eq_true rfl, Nat.le_of_ble_eq_true rfl⟩ rfl hl.1 rfl (Nat.le_of_ble_eq_true rfl) ⟨Nat.le_of_ble_eq_true rfl, Nat.le_of_ble_eq_true rfl⟩ dX7_comesDoing_46 (fun r15 h14 H locs hH hw => ?_)
        refine lv_iload_n hx hb dX7_comesDoing_49 rfl (lv_at hl 0 rfl) ?_
        obtain ⟨k16, hw⟩ := hw
        refine hv_iast hx hb hKK hH k16 dX7_comesDoing_50 (fun H locs hH => ?_)
        refine lv_iconst (v := (nI 1)) hx hb dX7_comesDoing_51 (by decide) ?_
        exact hv_zret hx hb hr hlk hH (Or.inr rfl) hw dX7_comesDoing_52
      · have hw := ite_f hw c13
        refine lv_iconst (v := (nI 0)) hx hb dX7_comesDoing_37 (by decide) ?_
        exact hv_zret hx hb hr hlk hH (Or.inl rfl) hw dX7_comesDoing_38
abbrev rm_X7_comesJoining : Room := { frames := 2, cells := 0, slots := 0, locals := 46 }
set_option maxHeartbeats 4000000 in
set_option maxRecDepth 100000 in
theorem m_X7_comesJoining {l : Launch} {G : Gl} {B sz : Nat} {S : St} (v0 : Nat) (v1 : Int32) (h : Hp) (Q : Int32 → Hp → Prop) (hw : w_X7_comesJoining S v0 v1 h Q) : MI l G B sz S yX7_comesJoining cX7_comesJoining 2 .boolean rm_X7_comesJoining [.ref v0, .int v1] h Q := by
  refine met_of rfl rfl ?_
  intro p e s m args below meth c hMB H ls hH hl
  obtain ⟨hx, hb, hml, hown, hKK, hr, hlk⟩ := hMB
  replace hl : lv_has ls 2 [(0, .ref v0), (1, .int v1)] := hl
  unfold w_X7_comesJoining at hw
  show W p l e rm_X7_comesJoining s m args below meth c H [] 0 0 (QI G B S sz below args s Q) (F0 m 0 ls [])
  generalize ([] : List Loc) = locs at hH ⊢
  refine lv_aload_n hx hb dX7_comesJoining_0 rfl (lv_at hl 0 rfl) ?_
  obtain ⟨k1, hw⟩ := hw
  refine hv_get (ci := 7) (k := 19) (v := .ref (S.2 v0 19)) hx hb hown hKK hH cf7 (by decide) fl_X7_58 rfl k1 rfl dX7_comesJoining_1 ?_
  refine lv_iload_n hx hb dX7_comesJoining_4 rfl (lv_at hl 1 rfl) ?_
  obtain ⟨k2, hw⟩ := hw
  refine hv_iald hx hb hKK hH k2 dX7_comesJoining_5 ?_
  refine lv_iconst (v := (nI 2)) hx hb dX7_comesJoining_6 (by decide) ?_
  refine lv_icmp_ne (tgt := 32) hx hb dX7_comesJoining_7 (by decide) (fun c3 => ?_) (fun c3 => ?_)
  · have hw := ite_f hw c3
    refine lv_iconst (v := (nI 0)) hx hb dX7_comesJoining_32 (by decide) ?_
    exact hv_zret hx hb hr hlk hH (Or.inl rfl) hw dX7_comesJoining_33
  · have hw := ite_t hw c3
    refine lv_aload_n hx hb dX7_comesJoining_10 rfl (lv_at hl 0 rfl) ?_
    refine lv_aload_n hx hb dX7_comesJoining_11 rfl (lv_at hl 0 rfl) ?_
    refine lv_iload_n hx hb dX7_comesJoining_12 rfl (lv_at hl 1 rfl) ?_
    refine lv_iconst (v := (nI 0)) hx hb dX7_comesJoining_13 (by decide) ?_
    refine hv_cVI (rm := rm_X7_numberOf) (As := [.int v1, .int (nI 0)]) (rest := [.ref v0]) (k := 2) (ci := 7) hx hb hml hown hKK hH cf7 k1 (m_X7_numberOf v0 v1 (nI 0) _ _ hw) cw_X7_241 ⟨Nat.le_of_ble_eq_true rfl, Nat.le_of_ble_eq_true rfl⟩ rfl hl.1 rfl (Nat.le_of_ble_eq_true rfl) ⟨Nat.le_of_ble_eq_true rfl, Nat.le_of_ble_eq_true rfl⟩ dX7_comesJoining_14 (fun r5 h4 H locs hH hw => ?_)
    refine hv_cVI (rm := rm_X7_isHead) (As := [.int r5]) (rest := []) (k := 1) (ci := 7) hx hb hml hown hKK hH cf7 k1 (m_X7_isHead v0 r5 _ _ hw) cw_X7_89 ⟨Nat.le_of_ble_eq_true rfl, Nat.le_of_ble_eq_true rfl⟩ rfl hl.1 rfl (Nat.le_of_ble_eq_true rfl) ⟨Nat.le_of_ble_eq_true rfl, Nat.le_of_ble_eq_true rfl⟩ dX7_comesJoining_17 (fun r7 h6 H locs hH hw => ?_)
    refine lv_if_eq (tgt := 32) hx hb dX7_comesJoining_20 (by decide) (fun c8 => ?_) (fun c8 => ?_)
    · have hw := ite_t hw c8
      refine lv_iconst (v := (nI 0)) hx hb dX7_comesJoining_32 (by decide) ?_
      exact hv_zret hx hb hr hlk hH (Or.inl rfl) hw dX7_comesJoining_33
    · have hw := ite_f hw c8
      refine lv_aload_n hx hb dX7_comesJoining_23 rfl (lv_at hl 0 rfl) ?_
      refine lv_iload_n hx hb dX7_comesJoining_24 rfl (lv_at hl 1 rfl) ?_
      refine lv_iconst (v := (nI 1)) hx hb dX7_comesJoining_25 (by decide) ?_
      refine hv_cVI (rm := rm_X7_isNumber) (As := [.int v1, .int (nI 1)]) (rest := []) (k := 2) (ci := 7) hx hb hml hown hKK hH cf7 k1 (m_X7_isNumber v0 v1 (nI 1) _ _ hw) cw_X7_197 ⟨Nat.le_of_ble_eq_true rfl, Nat.le_of_ble_eq_true rfl⟩ rfl hl.1 rfl (Nat.le_of_ble_eq_true rfl) ⟨Nat.le_of_ble_eq_true rfl, Nat.le_of_ble_eq_true rfl⟩ dX7_comesJoining_26 (fun r10 h9 H locs hH hw => ?_)
      refine lv_if_ne (tgt := 34) hx hb dX7_comesJoining_29 (by decide) (fun c11 => ?_) (fun c11 => ?_)
      · have hw := ite_f hw c11
        refine lv_aload_n hx hb dX7_comesJoining_34 rfl (lv_at hl 0 rfl) ?_
        refine hv_get (ci := 7) (k := 9) (v := .ref (S.2 v0 9)) hx hb hown hKK hH cf7 (by decide) fl_X7_37 rfl k1 rfl dX7_comesJoining_35 ?_
        refine lv_aload_n hx hb dX7_comesJoining_38 rfl (lv_at hl 0 rfl) ?_
        refine lv_iload_n hx hb dX7_comesJoining_39 rfl (lv_at hl 1 rfl) ?_
        refine lv_iconst (v := (nI 0)) hx hb dX7_comesJoining_40 (by decide) ?_
        refine hv_cVI (rm := rm_X7_numberOf) (As := [.int v1, .int (nI 0)]) (rest := [.ref (S.2 v0 9)]) (k := 2) (ci := 7) hx hb hml hown hKK hH cf7 k1 (m_X7_numberOf v0 v1 (nI 0) _ _ hw) cw_X7_241 ⟨Nat.le_of_ble_eq_true rfl, Nat.le_of_ble_eq_true rfl⟩ rfl hl.1 rfl (Nat.le_of_ble_eq_true rfl) ⟨Nat.le_of_ble_eq_true rfl, Nat.le_of_ble_eq_true rfl⟩ dX7_comesJoining_41 (fun r13 h12 H locs hH hw => ?_)
        refine lv_aload_n hx hb dX7_comesJoining_44 rfl (lv_at hl 0 rfl) ?_
        refine lv_iload_n hx hb dX7_comesJoining_45 rfl (lv_at hl 1 rfl) ?_
        refine lv_iconst (v := (nI 1)) hx hb dX7_comesJoining_46 (by decide) ?_
        refine hv_cVI (rm := rm_X7_numberOf) (As := [.int v1, .int (nI 1)]) (rest := [.int r13, .ref (S.2 v0 9)]) (k := 2) (ci := 7) hx hb hml hown hKK hH cf7 k1 (m_X7_numberOf v0 v1 (nI 1) _ _ hw) cw_X7_241 ⟨Nat.le_of_ble_eq_true rfl, Nat.le_of_ble_eq_true rfl⟩ rfl hl.1 rfl (Nat.le_of_ble_eq_true rfl) ⟨Nat.le_of_ble_eq_true rfl, Nat.le_of_ble_eq_true rfl⟩ dX7_comesJoining_47 (fun r15 h14 H locs hH hw => ?_)
        obtain ⟨k16, hw⟩ := hw
        refine hv_iast hx hb hKK hH k16 dX7_comesJoining_50 (fun H locs hH => ?_)
        refine lv_iconst (v := (nI 1)) hx hb dX7_comesJoining_51 (by decide) ?_
        exact hv_zret hx hb hr hlk hH (Or.inr rfl) hw dX7_comesJoining_52
      · have hw := ite_t hw c11
        refine lv_iconst (v := (nI 0)) hx hb dX7_comesJoining_32 (by decide) ?_
        exact hv_zret hx hb hr hlk hH (Or.inl rfl) hw dX7_comesJoining_33
abbrev rm_X7_comesNights : Room := { frames := 7, cells := 0, slots := 0, locals := 161 }
set_option maxHeartbeats 4000000 in
set_option maxRecDepth 100000 in
theorem m_X7_comesNights {l : Launch} {G : Gl} {B sz : Nat} {S : St} (v0 : Nat) (v1 : Int32) (h : Hp) (Q : Int32 → Hp → Prop) (hw : w_X7_comesNights S v0 v1 h Q) : MI l G B sz S yX7_comesNights cX7_comesNights 3 .boolean rm_X7_comesNights [.ref v0, .int v1] h Q := by
  refine met_of rfl rfl ?_
  intro p e s m args below meth c hMB H ls hH hl
  obtain ⟨hx, hb, hml, hown, hKK, hr, hlk⟩ := hMB
  replace hl : lv_has ls 3 [(0, .ref v0), (1, .int v1)] := hl
  unfold w_X7_comesNights at hw
  show W p l e rm_X7_comesNights s m args below meth c H [] 0 0 (QI G B S sz below args s Q) (F0 m 0 ls [])
  generalize ([] : List Loc) = locs at hH ⊢
  refine lv_aload_n hx hb dX7_comesNights_0 rfl (lv_at hl 0 rfl) ?_
  refine lv_iload_n hx hb dX7_comesNights_1 rfl (lv_at hl 1 rfl) ?_
  refine lv_iconst (v := (nI 0)) hx hb dX7_comesNights_2 (by decide) ?_
  obtain ⟨k1, hw⟩ := hw
  refine hv_cVI (rm := rm_X7_numberOf) (As := [.int v1, .int (nI 0)]) (rest := []) (k := 2) (ci := 7) hx hb hml hown hKK hH cf7 k1 (m_X7_numberOf v0 v1 (nI 0) _ _ hw) cw_X7_241 ⟨Nat.le_of_ble_eq_true rfl, Nat.le_of_ble_eq_true rfl⟩ rfl hl.1 rfl (Nat.le_of_ble_eq_true rfl) ⟨Nat.le_of_ble_eq_true rfl, Nat.le_of_ble_eq_true rfl⟩ dX7_comesNights_3 (fun r3 h2 H locs hH hw => ?_)
  refine lv_istore_n (lv' := [(2, .int r3), (0, .ref v0), (1, .int v1)]) hx hb dX7_comesNights_6 rfl hl (by decide) rfl (fun ls hl => ?_)
  refine lv_aload_n hx hb dX7_comesNights_7 rfl (lv_at hl 1 rfl) ?_
  refine hv_get (ci := 7) (k := 19) (v := .ref (S.2 v0 19)) hx hb hown hKK hH cf7 (by decide) fl_X7_58 rfl k1 rfl dX7_comesNights_8 ?_
  refine lv_iload_n hx hb dX7_comesNights_11 rfl (lv_at hl 2 rfl) ?_
  obtain ⟨k4, hw⟩ := hw
  refine hv_iald hx hb hKK hH k4 dX7_comesNights_12 ?_
  refine lv_iconst (v := (nI 1)) hx hb dX7_comesNights_13 (by decide) ?_
  refine lv_icmp_ne (tgt := 39) hx hb dX7_comesNights_14 (by decide) (fun c5 => ?_) (fun c5 => ?_)
  · have hw := ite_f hw c5
    refine lv_iconst (v := (nI 0)) hx hb dX7_comesNights_39 (by decide) ?_
    exact hv_zret hx hb hr hlk hH (Or.inl rfl) hw dX7_comesNights_40
  · have hw := ite_t hw c5
    refine lv_iload_n hx hb dX7_comesNights_17 rfl (lv_at hl 0 rfl) ?_
    refine lv_iconst (v := (nI 1)) hx hb dX7_comesNights_18 (by decide) ?_
    refine lv_bipush (v := (nI 60)) hx hb dX7_comesNights_19 (by decide) ?_
    refine hv_cSI (rm := rm_X7_isIn) (As := [.int r3, .int (nI 1), .int (nI 60)]) (rest := []) (k := 3) hx hb hml hown hKK hH (m_X7_isIn r3 (nI 1) (nI 60) _ _ hw) cw_X7_85 ⟨Nat.le_of_ble_eq_true rfl, Nat.le_of_ble_eq_true rfl⟩ rfl hl.1 rfl (Nat.le_of_ble_eq_true rfl) ⟨Nat.le_of_ble_eq_true rfl, Nat.le_of_ble_eq_true rfl⟩ dX7_comesNights_21 (fun r7 h6 H locs hH hw => ?_)
    refine lv_if_eq (tgt := 39) hx hb dX7_comesNights_24 (by decide) (fun c8 => ?_) (fun c8 => ?_)
    · have hw := ite_t hw c8
      refine lv_iconst (v := (nI 0)) hx hb dX7_comesNights_39 (by decide) ?_
      exact hv_zret hx hb hr hlk hH (Or.inl rfl) hw dX7_comesNights_40
    · have hw := ite_f hw c8
      refine lv_aload_n hx hb dX7_comesNights_27 rfl (lv_at hl 1 rfl) ?_
      refine hv_get (ci := 7) (k := 14) (v := .int (h6 v0 14)) hx hb hown hKK hH cf7 (by decide) fl_X7_136 rfl k1 rfl dX7_comesNights_28 ?_
      refine lv_iload_n hx hb dX7_comesNights_31 rfl (lv_at hl 0 rfl) ?_
      refine lv_iadd hx hb dX7_comesNights_32 ?_
      refine lv_sipush (v := (nI 999)) hx hb dX7_comesNights_33 (by decide) ?_
      refine lv_icmp_le (tgt := 41) hx hb dX7_comesNights_36 (by decide) (fun c9 => ?_) (fun c9 => ?_)
      · have hw := ite_t hw c9
        refine lv_aload_n hx hb dX7_comesNights_41 rfl (lv_at hl 1 rfl) ?_
        refine lv_iload_n hx hb dX7_comesNights_42 rfl (lv_at hl 0 rfl) ?_
        refine hv_cVV (rm := rm_X7_goes) (As := [.int r3]) (rest := []) (k := 1) (ci := 7) hx hb hml hown hKK hH cf7 k1 (m_X7_goes v0 r3 _ _ hw) cw_X7_261 ⟨Nat.le_of_ble_eq_true rfl, Nat.le_of_ble_eq_true rfl⟩ rfl hl.1 rfl (Nat.le_of_ble_eq_true rfl) ⟨Nat.le_of_ble_eq_true rfl, Nat.le_of_ble_eq_true rfl⟩ dX7_comesNights_43 (fun h10 H locs hH hw => ?_)
        refine lv_iconst (v := (nI 1)) hx hb dX7_comesNights_46 (by decide) ?_
        exact hv_zret hx hb hr hlk hH (Or.inr rfl) hw dX7_comesNights_47
      · have hw := ite_f hw c9
        refine lv_iconst (v := (nI 0)) hx hb dX7_comesNights_39 (by decide) ?_
        exact hv_zret hx hb hr hlk hH (Or.inl rfl) hw dX7_comesNights_40
abbrev rm_X7_comesSaid : Room := { frames := 8, cells := 0, slots := 0, locals := 183 }
set_option maxHeartbeats 4000000 in
set_option maxRecDepth 100000 in
theorem m_X7_comesSaid {l : Launch} {G : Gl} {B sz : Nat} {S : St} (v0 : Nat) (v1 : Int32) (h : Hp) (Q : Int32 → Hp → Prop) (hw : w_X7_comesSaid S v0 v1 h Q) : MI l G B sz S yX7_comesSaid cX7_comesSaid 4 .boolean rm_X7_comesSaid [.ref v0, .int v1] h Q := by
  refine met_of rfl rfl ?_
  intro p e s m args below meth c hMB H ls hH hl
  obtain ⟨hx, hb, hml, hown, hKK, hr, hlk⟩ := hMB
  replace hl : lv_has ls 4 [(0, .ref v0), (1, .int v1)] := hl
  unfold w_X7_comesSaid at hw
  show W p l e rm_X7_comesSaid s m args below meth c H [] 0 0 (QI G B S sz below args s Q) (F0 m 0 ls [])
  generalize ([] : List Loc) = locs at hH ⊢
  refine lv_aload_n hx hb dX7_comesSaid_0 rfl (lv_at hl 0 rfl) ?_
  refine lv_aload_n hx hb dX7_comesSaid_1 rfl (lv_at hl 0 rfl) ?_
  obtain ⟨k1, hw⟩ := hw
  refine hv_get (ci := 7) (k := 17) (v := .ref (S.2 v0 17)) hx hb hown hKK hH cf7 (by decide) fl_X7_52 rfl k1 rfl dX7_comesSaid_2 ?_
  refine lv_iload_n hx hb dX7_comesSaid_5 rfl (lv_at hl 1 rfl) ?_
  obtain ⟨k2, hw⟩ := hw
  refine hv_iald hx hb hKK hH k2 dX7_comesSaid_6 ?_
  refine lv_aload_n hx hb dX7_comesSaid_7 rfl (lv_at hl 0 rfl) ?_
  refine hv_get (ci := 7) (k := 18) (v := .ref (S.2 v0 18)) hx hb hown hKK hH cf7 (by decide) fl_X7_55 rfl k1 rfl dX7_comesSaid_8 ?_
  refine lv_iload_n hx hb dX7_comesSaid_11 rfl (lv_at hl 1 rfl) ?_
  obtain ⟨k3, hw⟩ := hw
  refine hv_iald hx hb hKK hH k3 dX7_comesSaid_12 ?_
  refine hv_cVL (rm := rm_X7_codeAt) (As := [.int (h (S.2 v0 17) (ix v1)), .int (h (S.2 v0 18) (ix v1))]) (rest := []) (k := 2) (ci := 7) hx hb hml hown hKK hH cf7 k1 (m_X7_codeAt v0 (h (S.2 v0 17) (ix v1)) (h (S.2 v0 18) (ix v1)) _ _ hw) cw_X7_203 ⟨Nat.le_of_ble_eq_true rfl, Nat.le_of_ble_eq_true rfl⟩ rfl hl.1 rfl (Nat.le_of_ble_eq_true rfl) ⟨Nat.le_of_ble_eq_true rfl, Nat.le_of_ble_eq_true rfl⟩ dX7_comesSaid_13 (fun r5 h4 H locs hH hw => ?_)
  refine lv_lstore_n (lv' := [(2, .long r5), (0, .ref v0), (1, .int v1)]) hx hb dX7_comesSaid_16 rfl hl (by decide) rfl (fun ls hl => ?_)
  refine lv_lload_n hx hb dX7_comesSaid_17 rfl (lv_at hl 0 rfl) ?_
  refine hv_cSI (rm := rm_X7_kindSaid) (As := [.long r5]) (rest := []) (k := 1) hx hb hml hown hKK hH (m_X7_kindSaid r5 _ _ hw) cw_X7_264 ⟨Nat.le_of_ble_eq_true rfl, Nat.le_of_ble_eq_true rfl⟩ rfl hl.1 rfl (Nat.le_of_ble_eq_true rfl) ⟨Nat.le_of_ble_eq_true rfl, Nat.le_of_ble_eq_true rfl⟩ dX7_comesSaid_18 (fun r7 h6 H locs hH hw => ?_)
  refine lv_if_lt (tgt := 34) hx hb dX7_comesSaid_21 (by decide) (fun c8 => ?_) (fun c8 => ?_)
  · have hw := ite_t hw c8
    refine lv_lload_n hx hb dX7_comesSaid_34 rfl (lv_at hl 0 rfl) ?_
    refine lv_ldc2 (v := (755084 : Int64)) hx hb hown (hKK.use kc_X7_270 rfl _) dX7_comesSaid_35 ?_
    refine W.lcmp hx hb dX7_comesSaid_38 ?_
    refine lv_if_ne (tgt := 48) hx hb dX7_comesSaid_39 (by decide) (fun c9 => ?_) (fun c9 => ?_)
    · have hw := ite_f hw c9
      refine lv_lload_n hx hb dX7_comesSaid_48 rfl (lv_at hl 0 rfl) ?_
      refine lv_ldc2 (v := (212363 : Int64)) hx hb hown (hKK.use kc_X7_275 rfl _) dX7_comesSaid_49 ?_
      refine W.lcmp hx hb dX7_comesSaid_52 ?_
      refine lv_if_ne (tgt := 62) hx hb dX7_comesSaid_53 (by decide) (fun c13 => ?_) (fun c13 => ?_)
      · have hw := ite_f hw c13
        refine lv_lload_n hx hb dX7_comesSaid_62 rfl (lv_at hl 0 rfl) ?_
        refine lv_ldc2 (v := (197733 : Int64)) hx hb hown (hKK.use kc_X7_280 rfl _) dX7_comesSaid_63 ?_
        refine W.lcmp hx hb dX7_comesSaid_66 ?_
        refine lv_if_ne (tgt := 76) hx hb dX7_comesSaid_67 (by decide) (fun c17 => ?_) (fun c17 => ?_)
        · have hw := ite_f hw c17
          refine lv_lload_n hx hb dX7_comesSaid_76 rfl (lv_at hl 0 rfl) ?_
          refine lv_ldc2 (v := (146611 : Int64)) hx hb hown (hKK.use kc_X7_285 rfl _) dX7_comesSaid_77 ?_
          refine W.lcmp hx hb dX7_comesSaid_80 ?_
          refine lv_if_ne (tgt := 90) hx hb dX7_comesSaid_81 (by decide) (fun c21 => ?_) (fun c21 => ?_)
          · have hw := ite_f hw c21
            refine lv_lload_n hx hb dX7_comesSaid_90 rfl (lv_at hl 0 rfl) ?_
            refine lv_ldc2 (v := (10986963 : Int64)) hx hb hown (hKK.use kc_X7_290 rfl _) dX7_comesSaid_91 ?_
            refine W.lcmp hx hb dX7_comesSaid_94 ?_
            refine lv_if_ne (tgt := 104) hx hb dX7_comesSaid_95 (by decide) (fun c25 => ?_) (fun c25 => ?_)
            · have hw := ite_f hw c25
              refine lv_lload_n hx hb dX7_comesSaid_104 rfl (lv_at hl 0 rfl) ?_
              refine lv_ldc2 (v := (479437459 : Int64)) hx hb hown (hKK.use kc_X7_295 rfl _) dX7_comesSaid_105 ?_
              refine W.lcmp hx hb dX7_comesSaid_108 ?_
              refine lv_if_ne (tgt := 124) hx hb dX7_comesSaid_109 (by decide) (fun c29 => ?_) (fun c29 => ?_)
              · have hw := ite_f hw c29
                refine lv_iconst (v := (nI 0)) hx hb dX7_comesSaid_124 (by decide) ?_
                exact hv_zret hx hb hr hlk hH (Or.inl rfl) hw dX7_comesSaid_125
              · have hw := ite_t hw c29
                refine lv_aload_n hx hb dX7_comesSaid_112 rfl (lv_at hl 1 rfl) ?_
                refine lv_iload_n hx hb dX7_comesSaid_113 rfl (lv_at hl 2 rfl) ?_
                refine hv_cVI (rm := rm_X7_comesNights) (As := [.int v1]) (rest := []) (k := 1) (ci := 7) hx hb hml hown hKK hH cf7 k1 (m_X7_comesNights v0 v1 _ _ hw) cw_X7_297 ⟨Nat.le_of_ble_eq_true rfl, Nat.le_of_ble_eq_true rfl⟩ rfl hl.1 rfl (Nat.le_of_ble_eq_true rfl) ⟨Nat.le_of_ble_eq_true rfl, Nat.le_of_ble_eq_true rfl⟩ dX7_comesSaid_114 (fun r31 h30 H locs hH hw => ?_)
                refine lv_if_eq (tgt := 124) hx hb dX7_comesSaid_117 (by decide) (fun c32 => ?_) (fun c32 => ?_)
                · have hw := ite_t hw c32
                  refine lv_iconst (v := (nI 0)) hx hb dX7_comesSaid_124 (by decide) ?_
                  exact hv_zret hx hb hr hlk hH (Or.inl rfl) hw dX7_comesSaid_125
                · have hw := ite_f hw c32
                  refine lv_iconst (v := (nI 1)) hx hb dX7_comesSaid_120 (by decide) ?_
                  refine lv_goto (tgt := 125) hx hb dX7_comesSaid_121 (by decide) ?_
                  exact hv_zret hx hb hr hlk hH (Or.inr rfl) hw dX7_comesSaid_125
            · have hw := ite_t hw c25
              refine lv_aload_n hx hb dX7_comesSaid_98 rfl (lv_at hl 1 rfl) ?_
              refine lv_iload_n hx hb dX7_comesSaid_99 rfl (lv_at hl 2 rfl) ?_
              refine hv_cVI (rm := rm_X7_comesJoining) (As := [.int v1]) (rest := []) (k := 1) (ci := 7) hx hb hml hown hKK hH cf7 k1 (m_X7_comesJoining v0 v1 _ _ hw) cw_X7_292 ⟨Nat.le_of_ble_eq_true rfl, Nat.le_of_ble_eq_true rfl⟩ rfl hl.1 rfl (Nat.le_of_ble_eq_true rfl) ⟨Nat.le_of_ble_eq_true rfl, Nat.le_of_ble_eq_true rfl⟩ dX7_comesSaid_100 (fun r27 h26 H locs hH hw => ?_)
              obtain ⟨k28, hw⟩ := hw
              exact hv_zret hx hb hr hlk hH k28 hw dX7_comesSaid_103
          · have hw := ite_t hw c21
            refine lv_aload_n hx hb dX7_comesSaid_84 rfl (lv_at hl 1 rfl) ?_
            refine lv_iload_n hx hb dX7_comesSaid_85 rfl (lv_at hl 2 rfl) ?_
            refine hv_cVI (rm := rm_X7_comesDoing) (As := [.int v1]) (rest := []) (k := 1) (ci := 7) hx hb hml hown hKK hH cf7 k1 (m_X7_comesDoing v0 v1 _ _ hw) cw_X7_287 ⟨Nat.le_of_ble_eq_true rfl, Nat.le_of_ble_eq_true rfl⟩ rfl hl.1 rfl (Nat.le_of_ble_eq_true rfl) ⟨Nat.le_of_ble_eq_true rfl, Nat.le_of_ble_eq_true rfl⟩ dX7_comesSaid_86 (fun r23 h22 H locs hH hw => ?_)
            obtain ⟨k24, hw⟩ := hw
            exact hv_zret hx hb hr hlk hH k24 hw dX7_comesSaid_89
        · have hw := ite_t hw c17
          refine lv_aload_n hx hb dX7_comesSaid_70 rfl (lv_at hl 1 rfl) ?_
          refine lv_iload_n hx hb dX7_comesSaid_71 rfl (lv_at hl 2 rfl) ?_
          refine hv_cVI (rm := rm_X7_comesFace) (As := [.int v1]) (rest := []) (k := 1) (ci := 7) hx hb hml hown hKK hH cf7 k1 (m_X7_comesFace v0 v1 _ _ hw) cw_X7_282 ⟨Nat.le_of_ble_eq_true rfl, Nat.le_of_ble_eq_true rfl⟩ rfl hl.1 rfl (Nat.le_of_ble_eq_true rfl) ⟨Nat.le_of_ble_eq_true rfl, Nat.le_of_ble_eq_true rfl⟩ dX7_comesSaid_72 (fun r19 h18 H locs hH hw => ?_)
          obtain ⟨k20, hw⟩ := hw
          exact hv_zret hx hb hr hlk hH k20 hw dX7_comesSaid_75
      · have hw := ite_t hw c13
        refine lv_aload_n hx hb dX7_comesSaid_56 rfl (lv_at hl 1 rfl) ?_
        refine lv_iload_n hx hb dX7_comesSaid_57 rfl (lv_at hl 2 rfl) ?_
        refine hv_cVI (rm := rm_X7_comesFolk) (As := [.int v1]) (rest := []) (k := 1) (ci := 7) hx hb hml hown hKK hH cf7 k1 (m_X7_comesFolk v0 v1 _ _ hw) cw_X7_277 ⟨Nat.le_of_ble_eq_true rfl, Nat.le_of_ble_eq_true rfl⟩ rfl hl.1 rfl (Nat.le_of_ble_eq_true rfl) ⟨Nat.le_of_ble_eq_true rfl, Nat.le_of_ble_eq_true rfl⟩ dX7_comesSaid_58 (fun r15 h14 H locs hH hw => ?_)
        obtain ⟨k16, hw⟩ := hw
        exact hv_zret hx hb hr hlk hH k16 hw dX7_comesSaid_61
    · have hw := ite_t hw c9
      refine lv_aload_n hx hb dX7_comesSaid_42 rfl (lv_at hl 1 rfl) ?_
      refine lv_iload_n hx hb dX7_comesSaid_43 rfl (lv_at hl 2 rfl) ?_
      refine hv_cVI (rm := rm_X7_comesWall) (As := [.int v1]) (rest := []) (k := 1) (ci := 7) hx hb hml hown hKK hH cf7 k1 (m_X7_comesWall v0 v1 _ _ hw) cw_X7_272 ⟨Nat.le_of_ble_eq_true rfl, Nat.le_of_ble_eq_true rfl⟩ rfl hl.1 rfl (Nat.le_of_ble_eq_true rfl) ⟨Nat.le_of_ble_eq_true rfl, Nat.le_of_ble_eq_true rfl⟩ dX7_comesSaid_44 (fun r11 h10 H locs hH hw => ?_)
      obtain ⟨k12, hw⟩ := hw
      exact hv_zret hx hb hr hlk hH k12 hw dX7_comesSaid_47
  · have hw := ite_f hw c8
    refine lv_aload_n hx hb dX7_comesSaid_24 rfl (lv_at hl 1 rfl) ?_
    refine lv_iload_n hx hb dX7_comesSaid_25 rfl (lv_at hl 2 rfl) ?_
    refine lv_lload_n hx hb dX7_comesSaid_26 rfl (lv_at hl 0 rfl) ?_
    refine hv_cSI (rm := rm_X7_kindSaid) (As := [.long r5]) (rest := [.int v1, .ref v0]) (k := 1) hx hb hml hown hKK hH (m_X7_kindSaid r5 _ _ hw) cw_X7_264 ⟨Nat.le_of_ble_eq_true rfl, Nat.le_of_ble_eq_true rfl⟩ rfl hl.1 rfl (Nat.le_of_ble_eq_true rfl) ⟨Nat.le_of_ble_eq_true rfl, Nat.le_of_ble_eq_true rfl⟩ dX7_comesSaid_27 (fun r34 h33 H locs hH hw => ?_)
    refine hv_cVI (rm := rm_X7_comesHead) (As := [.int v1, .int r34]) (rest := []) (k := 2) (ci := 7) hx hb hml hown hKK hH cf7 k1 (m_X7_comesHead v0 v1 r34 _ _ hw) cw_X7_267 ⟨Nat.le_of_ble_eq_true rfl, Nat.le_of_ble_eq_true rfl⟩ rfl hl.1 rfl (Nat.le_of_ble_eq_true rfl) ⟨Nat.le_of_ble_eq_true rfl, Nat.le_of_ble_eq_true rfl⟩ dX7_comesSaid_30 (fun r36 h35 H locs hH hw => ?_)
    obtain ⟨k37, hw⟩ := hw
    exact hv_zret hx hb hr hlk hH k37 hw dX7_comesSaid_33
abbrev rm_X7_passes : Room := { frames := 0, cells := 0, slots := 0, locals := 0 }
set_option maxHeartbeats 4000000 in
set_option maxRecDepth 100000 in
theorem m_X7_passes {l : Launch} {G : Gl} {B sz : Nat} {S : St} (v0 : Nat) (v1 : Nat) (h : Hp) (Q : Hp → Prop) (hw : w_X7_passes S v0 v1 h Q) : MV l G B sz S yX7_passes cX7_passes 3 rm_X7_passes [.ref v0, .ref v1] h Q := by
  refine met_of rfl rfl ?_
  intro p e s m args below meth c hMB H ls hH hl
  obtain ⟨hx, hb, hml, hown, hKK, hr, hlk⟩ := hMB
  replace hl : lv_has ls 3 [(0, .ref v0), (1, .ref v1)] := hl
  have c2 : ∀  (v0 : Nat) (v1 : Nat) (v2 : Int32) (h : Hp) (H : Heap) (locs : List Loc) (ls : Array Slot), HH G B S h sz s H locs → lv_has ls 3 [(0, .ref v0), (1, .ref v1), (2, .int v2)] → w_X7_passes_c2 S v0 v1 v2 h Q → W p l e rm_X7_passes s m args below meth c H locs 0 0 (QV G B S sz below args s Q) (F0 m 2 ls []) := by
    intro  v0 v1 v2 h H locs ls hH hl hw
    unfold w_X7_passes_c2 at hw
    obtain ⟨P2, hP2⟩ : ∃ P : Int32 → Hp → Prop, ∀ (v2 : Int32) (h : Hp), P v2 h ↔ (∀ (H : Heap) (locs : List Loc) (ls : Array Slot), HH G B S h sz s H locs → lv_has ls 3 [(0, .ref v0), (1, .ref v1), (2, .int v2)] → W p l e rm_X7_passes s m args below meth c H locs 0 0 (QV G B S sz below args s Q) (F0 m 2 ls [])) := ⟨_, fun v2 h => Iff.rfl⟩
    refine (hP2 v2 h).1 (hw P2 (fun v2 h hw => (hP2 v2 h).2 (fun H locs ls hH hl => ?_))) H locs ls hH hl
    have hK2 : ∀ (v2 : Int32) (h : Hp) (H : Heap) (locs : List Loc) (ls : Array Slot), HH G B S h sz s H locs → lv_has ls 3 [(0, .ref v0), (1, .ref v1), (2, .int v2)] → P2 v2 h → W p l e rm_X7_passes s m args below meth c H locs 0 0 (QV G B S sz below args s Q) (F0 m 2 ls []) := fun v2 h H locs ls hH hl hk => (hP2 v2 h).1 hk H locs ls hH hl
    refine lv_iload_n hx hb dX7_passes_2 rfl (lv_at hl 2 rfl) ?_
    refine lv_aload_n hx hb dX7_passes_3 rfl (lv_at hl 1 rfl) ?_
    obtain ⟨n1, k2, hw⟩ := hw
    refine hv_alen hx hb hKK hH k2 dX7_passes_4 ?_
    refine lv_icmp_ge (tgt := 58) hx hb dX7_passes_5 (by decide) (fun c3 => ?_) (fun c3 => ?_)
    · have hw := ite_t hw c3
      exact hv_vret hx hb hr hlk hH hw dX7_passes_58
    · have hw := ite_f hw c3
      refine lv_aload_n hx hb dX7_passes_8 rfl (lv_at hl 0 rfl) ?_
      obtain ⟨k4, hw⟩ := hw
      refine hv_get (ci := 7) (k := 27) (v := .int (h v0 27)) hx hb hown hKK hH cf7 (by decide) fl_X7_313 rfl k4 rfl dX7_passes_9 ?_
      refine lv_if_eq (tgt := 30) hx hb dX7_passes_12 (by decide) (fun c5 => ?_) (fun c5 => ?_)
      · have hw := ite_t hw c5
        refine lv_aload_n hx hb dX7_passes_30 rfl (lv_at hl 1 rfl) ?_
        refine lv_iload_n hx hb dX7_passes_31 rfl (lv_at hl 2 rfl) ?_
        refine lv_aload_n hx hb dX7_passes_32 rfl (lv_at hl 0 rfl) ?_
        refine hv_get (ci := 7) (k := 25) (v := .ref (S.2 v0 25)) hx hb hown hKK hH cf7 (by decide) fl_X7_67 rfl k4 rfl dX7_passes_33 ?_
        refine lv_aload_n hx hb dX7_passes_36 rfl (lv_at hl 0 rfl) ?_
        refine hv_get (ci := 7) (k := 28) (v := .int (h v0 28)) hx hb hown hKK hH cf7 (by decide) fl_X7_317 rfl k4 rfl dX7_passes_37 ?_
        obtain ⟨k6, hw⟩ := hw
        refine hv_iald hx hb hKK hH k6 dX7_passes_40 ?_
        obtain ⟨k7, hw⟩ := hw
        refine hv_iast hx hb hKK hH k7 dX7_passes_41 (fun H locs hH => ?_)
        refine lv_aload_n hx hb dX7_passes_42 rfl (lv_at hl 0 rfl) ?_
        refine lv_dup hx hb dX7_passes_43 rfl ?_
        refine hv_get (ci := 7) (k := 28) (v := .int ((up h v1 (ix v2) (h (S.2 v0 25) (ix (h v0 28)))) v0 28)) hx hb hown hKK hH cf7 (by decide) fl_X7_317 rfl k4 rfl dX7_passes_44 ?_
        refine lv_iconst (v := (nI 1)) hx hb dX7_passes_47 (by decide) ?_
        refine lv_iadd hx hb dX7_passes_48 ?_
        refine hv_put (ci := 7) (k := 28) hx hb hown hKK hH cf7 (by decide) fl_X7_317 rfl rfl rfl k4 rfl rfl dX7_passes_49 (fun H locs hH => ?_)
        refine lv_iinc (v := v2 + (nI 1)) (lv' := [(2, .int (v2 + (nI 1))), (0, .ref v0), (1, .ref v1)]) hx hb dX7_passes_52 hl (k := 2) rfl rfl (by decide) rfl (fun ls hl => ?_)
        refine lv_goto (tgt := 2) hx hb dX7_passes_55 (by decide) ?_
        exact hK2 _ _ H locs ls hH (lv_sub hl [1, 2, 0] rfl) hw
      · have hw := ite_f hw c5
        refine lv_aload_n hx hb dX7_passes_15 rfl (lv_at hl 0 rfl) ?_
        refine hv_get (ci := 7) (k := 25) (v := .ref (S.2 v0 25)) hx hb hown hKK hH cf7 (by decide) fl_X7_67 rfl k4 rfl dX7_passes_16 ?_
        refine lv_aload_n hx hb dX7_passes_19 rfl (lv_at hl 0 rfl) ?_
        refine hv_get (ci := 7) (k := 28) (v := .int (h v0 28)) hx hb hown hKK hH cf7 (by decide) fl_X7_317 rfl k4 rfl dX7_passes_20 ?_
        refine lv_aload_n hx hb dX7_passes_23 rfl (lv_at hl 1 rfl) ?_
        refine lv_iload_n hx hb dX7_passes_24 rfl (lv_at hl 2 rfl) ?_
        obtain ⟨k8, hw⟩ := hw
        refine hv_iald hx hb hKK hH k8 dX7_passes_25 ?_
        obtain ⟨k9, hw⟩ := hw
        refine hv_iast hx hb hKK hH k9 dX7_passes_26 (fun H locs hH => ?_)
        refine lv_goto (tgt := 42) hx hb dX7_passes_27 (by decide) ?_
        refine lv_aload_n hx hb dX7_passes_42 rfl (lv_at hl 0 rfl) ?_
        refine lv_dup hx hb dX7_passes_43 rfl ?_
        refine hv_get (ci := 7) (k := 28) (v := .int ((up h (S.2 v0 25) (ix (h v0 28)) (h v1 (ix v2))) v0 28)) hx hb hown hKK hH cf7 (by decide) fl_X7_317 rfl k4 rfl dX7_passes_44 ?_
        refine lv_iconst (v := (nI 1)) hx hb dX7_passes_47 (by decide) ?_
        refine lv_iadd hx hb dX7_passes_48 ?_
        refine hv_put (ci := 7) (k := 28) hx hb hown hKK hH cf7 (by decide) fl_X7_317 rfl rfl rfl k4 rfl rfl dX7_passes_49 (fun H locs hH => ?_)
        refine lv_iinc (v := v2 + (nI 1)) (lv' := [(2, .int (v2 + (nI 1))), (0, .ref v0), (1, .ref v1)]) hx hb dX7_passes_52 hl (k := 2) rfl rfl (by decide) rfl (fun ls hl => ?_)
        refine lv_goto (tgt := 2) hx hb dX7_passes_55 (by decide) ?_
        exact hK2 _ _ H locs ls hH (lv_sub hl [1, 2, 0] rfl) hw
  unfold w_X7_passes at hw
  show W p l e rm_X7_passes s m args below meth c H [] 0 0 (QV G B S sz below args s Q) (F0 m 0 ls [])
  generalize ([] : List Loc) = locs at hH ⊢
  refine lv_iconst (v := (nI 0)) hx hb dX7_passes_0 (by decide) ?_
  refine lv_istore_n (lv' := [(2, .int (nI 0)), (0, .ref v0), (1, .ref v1)]) hx hb dX7_passes_1 rfl hl (by decide) rfl (fun ls hl => ?_)
  exact c2 _ _ _ _ H locs ls hH (lv_sub hl [1, 2, 0] rfl) hw
abbrev rm_X7_passOne : Room := { frames := 0, cells := 0, slots := 0, locals := 0 }
set_option maxHeartbeats 4000000 in
set_option maxRecDepth 100000 in
theorem m_X7_passOne {l : Launch} {G : Gl} {B sz : Nat} {S : St} (v0 : Nat) (v1 : Int32) (h : Hp) (Q : Int32 → Hp → Prop) (hw : w_X7_passOne S v0 v1 h Q) : MI l G B sz S yX7_passOne cX7_passOne 3 .int rm_X7_passOne [.ref v0, .int v1] h Q := by
  refine met_of rfl rfl ?_
  intro p e s m args below meth c hMB H ls hH hl
  obtain ⟨hx, hb, hml, hown, hKK, hr, hlk⟩ := hMB
  replace hl : lv_has ls 3 [(0, .ref v0), (1, .int v1)] := hl
  have c20 : ∀  (v0 : Nat) (v1 : Int32) (s0 : Int32) (h : Hp) (H : Heap) (locs : List Loc) (ls : Array Slot), HH G B S h sz s H locs → lv_has ls 3 [(0, .ref v0), (1, .int v1)] → w_X7_passOne_c20 S v0 v1 s0 h Q → W p l e rm_X7_passOne s m args below meth c H locs 0 0 (QI G B S sz below args s Q) (F0 m 20 ls [.int s0]) := by
    intro  v0 v1 s0 h H locs ls hH hl hw
    unfold w_X7_passOne_c20 at hw
    refine lv_istore_n (lv' := [(2, .int s0), (0, .ref v0), (1, .int v1)]) hx hb dX7_passOne_20 rfl hl (by decide) rfl (fun ls hl => ?_)
    refine lv_aload_n hx hb dX7_passOne_21 rfl (lv_at hl 1 rfl) ?_
    obtain ⟨k1, hw⟩ := hw
    refine hv_get (ci := 7) (k := 27) (v := .int (h v0 27)) hx hb hown hKK hH cf7 (by decide) fl_X7_313 rfl k1 rfl dX7_passOne_22 ?_
    refine lv_if_eq (tgt := 38) hx hb dX7_passOne_25 (by decide) (fun c2 => ?_) (fun c2 => ?_)
    · have hw := ite_t hw c2
      refine lv_aload_n hx hb dX7_passOne_38 rfl (lv_at hl 1 rfl) ?_
      refine lv_dup hx hb dX7_passOne_39 rfl ?_
      refine hv_get (ci := 7) (k := 28) (v := .int (h v0 28)) hx hb hown hKK hH cf7 (by decide) fl_X7_317 rfl k1 rfl dX7_passOne_40 ?_
      refine lv_iconst (v := (nI 1)) hx hb dX7_passOne_43 (by decide) ?_
      refine lv_iadd hx hb dX7_passOne_44 ?_
      refine hv_put (ci := 7) (k := 28) hx hb hown hKK hH cf7 (by decide) fl_X7_317 rfl rfl rfl k1 rfl rfl dX7_passOne_45 (fun H locs hH => ?_)
      refine lv_iload_n hx hb dX7_passOne_48 rfl (lv_at hl 0 rfl) ?_
      exact hv_iret hx hb hr hlk hH hw dX7_passOne_49
    · have hw := ite_f hw c2
      refine lv_aload_n hx hb dX7_passOne_28 rfl (lv_at hl 1 rfl) ?_
      refine hv_get (ci := 7) (k := 25) (v := .ref (S.2 v0 25)) hx hb hown hKK hH cf7 (by decide) fl_X7_67 rfl k1 rfl dX7_passOne_29 ?_
      refine lv_aload_n hx hb dX7_passOne_32 rfl (lv_at hl 1 rfl) ?_
      refine hv_get (ci := 7) (k := 28) (v := .int (h v0 28)) hx hb hown hKK hH cf7 (by decide) fl_X7_317 rfl k1 rfl dX7_passOne_33 ?_
      refine lv_iload_n hx hb dX7_passOne_36 rfl (lv_at hl 2 rfl) ?_
      obtain ⟨k3, hw⟩ := hw
      refine hv_iast hx hb hKK hH k3 dX7_passOne_37 (fun H locs hH => ?_)
      refine lv_aload_n hx hb dX7_passOne_38 rfl (lv_at hl 1 rfl) ?_
      refine lv_dup hx hb dX7_passOne_39 rfl ?_
      refine hv_get (ci := 7) (k := 28) (v := .int ((up h (S.2 v0 25) (ix (h v0 28)) v1) v0 28)) hx hb hown hKK hH cf7 (by decide) fl_X7_317 rfl k1 rfl dX7_passOne_40 ?_
      refine lv_iconst (v := (nI 1)) hx hb dX7_passOne_43 (by decide) ?_
      refine lv_iadd hx hb dX7_passOne_44 ?_
      refine hv_put (ci := 7) (k := 28) hx hb hown hKK hH cf7 (by decide) fl_X7_317 rfl rfl rfl k1 rfl rfl dX7_passOne_45 (fun H locs hH => ?_)
      refine lv_iload_n hx hb dX7_passOne_48 rfl (lv_at hl 0 rfl) ?_
      exact hv_iret hx hb hr hlk hH hw dX7_passOne_49
  unfold w_X7_passOne at hw
  show W p l e rm_X7_passOne s m args below meth c H [] 0 0 (QI G B S sz below args s Q) (F0 m 0 ls [])
  generalize ([] : List Loc) = locs at hH ⊢
  refine lv_aload_n hx hb dX7_passOne_0 rfl (lv_at hl 0 rfl) ?_
  obtain ⟨k1, hw⟩ := hw
  refine hv_get (ci := 7) (k := 27) (v := .int (h v0 27)) hx hb hown hKK hH cf7 (by decide) fl_X7_313 rfl k1 rfl dX7_passOne_1 ?_
  refine lv_if_eq (tgt := 11) hx hb dX7_passOne_4 (by decide) (fun c2 => ?_) (fun c2 => ?_)
  · have hw := ite_t hw c2
    refine lv_aload_n hx hb dX7_passOne_11 rfl (lv_at hl 0 rfl) ?_
    refine hv_get (ci := 7) (k := 25) (v := .ref (S.2 v0 25)) hx hb hown hKK hH cf7 (by decide) fl_X7_67 rfl k1 rfl dX7_passOne_12 ?_
    refine lv_aload_n hx hb dX7_passOne_15 rfl (lv_at hl 0 rfl) ?_
    refine hv_get (ci := 7) (k := 28) (v := .int (h v0 28)) hx hb hown hKK hH cf7 (by decide) fl_X7_317 rfl k1 rfl dX7_passOne_16 ?_
    obtain ⟨k3, hw⟩ := hw
    refine hv_iald hx hb hKK hH k3 dX7_passOne_19 ?_
    exact c20 _ _ _ _ H locs ls hH (lv_sub hl [0, 1] rfl) hw
  · have hw := ite_f hw c2
    refine lv_iload_n hx hb dX7_passOne_7 rfl (lv_at hl 1 rfl) ?_
    refine lv_goto (tgt := 20) hx hb dX7_passOne_8 (by decide) ?_
    exact c20 _ _ _ _ H locs ls hH (lv_sub hl [0, 1] rfl) hw
abbrev rm_X7_passesAll : Room := { frames := 1, cells := 0, slots := 0, locals := 22 }
set_option maxHeartbeats 4000000 in
set_option maxRecDepth 100000 in
theorem m_X7_passesAll {l : Launch} {G : Gl} {B sz : Nat} {S : St} (v0 : Nat) (v1 : Int32) (v2 : Int32) (h : Hp) (Q : Hp → Prop) (hw : w_X7_passesAll S v0 v1 v2 h Q) : MV l G B sz S yX7_passesAll cX7_passesAll 3 rm_X7_passesAll [.ref v0, .int v1, .int v2] h Q := by
  refine met_of rfl rfl ?_
  intro p e s m args below meth c hMB H ls hH hl
  obtain ⟨hx, hb, hml, hown, hKK, hr, hlk⟩ := hMB
  replace hl : lv_has ls 3 [(0, .ref v0), (1, .int v1), (2, .int v2)] := hl
  unfold w_X7_passesAll at hw
  show W p l e rm_X7_passesAll s m args below meth c H [] 0 0 (QV G B S sz below args s Q) (F0 m 0 ls [])
  generalize ([] : List Loc) = locs at hH ⊢
  refine lv_aload_n hx hb dX7_passesAll_0 rfl (lv_at hl 0 rfl) ?_
  refine lv_sipush (v := (nI 218)) hx hb dX7_passesAll_1 (by decide) ?_
  refine lv_iload_n hx hb dX7_passesAll_4 rfl (lv_at hl 1 rfl) ?_
  refine lv_imul hx hb dX7_passesAll_5 ?_
  obtain ⟨k1, hw⟩ := hw
  refine hv_put (ci := 7) (k := 28) hx hb hown hKK hH cf7 (by decide) fl_X7_317 rfl rfl rfl k1 rfl rfl dX7_passesAll_6 (fun H locs hH => ?_)
  refine lv_aload_n hx hb dX7_passesAll_9 rfl (lv_at hl 0 rfl) ?_
  refine lv_iload_n hx hb dX7_passesAll_10 rfl (lv_at hl 2 rfl) ?_
  obtain ⟨k2, hw⟩ := hw
  refine hv_put (ci := 7) (k := 27) hx hb hown hKK hH cf7 (by decide) fl_X7_313 rfl rfl rfl k1 (bo_n k2) (bo_f k2) dX7_passesAll_11 (fun H locs hH => ?_)
  refine lv_aload_n hx hb dX7_passesAll_14 rfl (lv_at hl 0 rfl) ?_
  refine lv_aload_n hx hb dX7_passesAll_15 rfl (lv_at hl 0 rfl) ?_
  refine hv_get (ci := 7) (k := 1) (v := .ref (S.2 v0 1)) hx hb hown hKK hH cf7 (by decide) fl_X7_13 rfl k1 rfl dX7_passesAll_16 ?_
  refine hv_cVV (rm := rm_X7_passes) (As := [.ref (S.2 v0 1)]) (rest := []) (k := 1) (ci := 7) hx hb hml hown hKK hH cf7 k1 (m_X7_passes v0 (S.2 v0 1) _ _ hw) cw_X7_320 ⟨Nat.le_of_ble_eq_true rfl, Nat.le_of_ble_eq_true rfl⟩ rfl hl.1 rfl (Nat.le_of_ble_eq_true rfl) ⟨Nat.le_of_ble_eq_true rfl, Nat.le_of_ble_eq_true rfl⟩ dX7_passesAll_19 (fun h3 H locs hH hw => ?_)
  refine lv_aload_n hx hb dX7_passesAll_22 rfl (lv_at hl 0 rfl) ?_
  refine lv_aload_n hx hb dX7_passesAll_23 rfl (lv_at hl 0 rfl) ?_
  refine hv_get (ci := 7) (k := 2) (v := .ref (S.2 v0 2)) hx hb hown hKK hH cf7 (by decide) fl_X7_16 rfl k1 rfl dX7_passesAll_24 ?_
  refine hv_cVV (rm := rm_X7_passes) (As := [.ref (S.2 v0 2)]) (rest := []) (k := 1) (ci := 7) hx hb hml hown hKK hH cf7 k1 (m_X7_passes v0 (S.2 v0 2) _ _ hw) cw_X7_320 ⟨Nat.le_of_ble_eq_true rfl, Nat.le_of_ble_eq_true rfl⟩ rfl hl.1 rfl (Nat.le_of_ble_eq_true rfl) ⟨Nat.le_of_ble_eq_true rfl, Nat.le_of_ble_eq_true rfl⟩ dX7_passesAll_27 (fun h4 H locs hH hw => ?_)
  refine lv_aload_n hx hb dX7_passesAll_30 rfl (lv_at hl 0 rfl) ?_
  refine lv_aload_n hx hb dX7_passesAll_31 rfl (lv_at hl 0 rfl) ?_
  refine hv_get (ci := 7) (k := 3) (v := .ref (S.2 v0 3)) hx hb hown hKK hH cf7 (by decide) fl_X7_19 rfl k1 rfl dX7_passesAll_32 ?_
  refine hv_cVV (rm := rm_X7_passes) (As := [.ref (S.2 v0 3)]) (rest := []) (k := 1) (ci := 7) hx hb hml hown hKK hH cf7 k1 (m_X7_passes v0 (S.2 v0 3) _ _ hw) cw_X7_320 ⟨Nat.le_of_ble_eq_true rfl, Nat.le_of_ble_eq_true rfl⟩ rfl hl.1 rfl (Nat.le_of_ble_eq_true rfl) ⟨Nat.le_of_ble_eq_true rfl, Nat.le_of_ble_eq_true rfl⟩ dX7_passesAll_35 (fun h5 H locs hH hw => ?_)
  refine lv_aload_n hx hb dX7_passesAll_38 rfl (lv_at hl 0 rfl) ?_
  refine lv_aload_n hx hb dX7_passesAll_39 rfl (lv_at hl 0 rfl) ?_
  refine hv_get (ci := 7) (k := 4) (v := .ref (S.2 v0 4)) hx hb hown hKK hH cf7 (by decide) fl_X7_22 rfl k1 rfl dX7_passesAll_40 ?_
  refine hv_cVV (rm := rm_X7_passes) (As := [.ref (S.2 v0 4)]) (rest := []) (k := 1) (ci := 7) hx hb hml hown hKK hH cf7 k1 (m_X7_passes v0 (S.2 v0 4) _ _ hw) cw_X7_320 ⟨Nat.le_of_ble_eq_true rfl, Nat.le_of_ble_eq_true rfl⟩ rfl hl.1 rfl (Nat.le_of_ble_eq_true rfl) ⟨Nat.le_of_ble_eq_true rfl, Nat.le_of_ble_eq_true rfl⟩ dX7_passesAll_43 (fun h6 H locs hH hw => ?_)
  refine lv_aload_n hx hb dX7_passesAll_46 rfl (lv_at hl 0 rfl) ?_
  refine lv_aload_n hx hb dX7_passesAll_47 rfl (lv_at hl 0 rfl) ?_
  refine hv_get (ci := 7) (k := 5) (v := .ref (S.2 v0 5)) hx hb hown hKK hH cf7 (by decide) fl_X7_25 rfl k1 rfl dX7_passesAll_48 ?_
  refine hv_cVV (rm := rm_X7_passes) (As := [.ref (S.2 v0 5)]) (rest := []) (k := 1) (ci := 7) hx hb hml hown hKK hH cf7 k1 (m_X7_passes v0 (S.2 v0 5) _ _ hw) cw_X7_320 ⟨Nat.le_of_ble_eq_true rfl, Nat.le_of_ble_eq_true rfl⟩ rfl hl.1 rfl (Nat.le_of_ble_eq_true rfl) ⟨Nat.le_of_ble_eq_true rfl, Nat.le_of_ble_eq_true rfl⟩ dX7_passesAll_51 (fun h7 H locs hH hw => ?_)
  refine lv_aload_n hx hb dX7_passesAll_54 rfl (lv_at hl 0 rfl) ?_
  refine lv_aload_n hx hb dX7_passesAll_55 rfl (lv_at hl 0 rfl) ?_
  refine hv_get (ci := 7) (k := 6) (v := .ref (S.2 v0 6)) hx hb hown hKK hH cf7 (by decide) fl_X7_28 rfl k1 rfl dX7_passesAll_56 ?_
  refine hv_cVV (rm := rm_X7_passes) (As := [.ref (S.2 v0 6)]) (rest := []) (k := 1) (ci := 7) hx hb hml hown hKK hH cf7 k1 (m_X7_passes v0 (S.2 v0 6) _ _ hw) cw_X7_320 ⟨Nat.le_of_ble_eq_true rfl, Nat.le_of_ble_eq_true rfl⟩ rfl hl.1 rfl (Nat.le_of_ble_eq_true rfl) ⟨Nat.le_of_ble_eq_true rfl, Nat.le_of_ble_eq_true rfl⟩ dX7_passesAll_59 (fun h8 H locs hH hw => ?_)
  refine lv_aload_n hx hb dX7_passesAll_62 rfl (lv_at hl 0 rfl) ?_
  refine lv_aload_n hx hb dX7_passesAll_63 rfl (lv_at hl 0 rfl) ?_
  refine hv_get (ci := 7) (k := 7) (v := .ref (S.2 v0 7)) hx hb hown hKK hH cf7 (by decide) fl_X7_31 rfl k1 rfl dX7_passesAll_64 ?_
  refine hv_cVV (rm := rm_X7_passes) (As := [.ref (S.2 v0 7)]) (rest := []) (k := 1) (ci := 7) hx hb hml hown hKK hH cf7 k1 (m_X7_passes v0 (S.2 v0 7) _ _ hw) cw_X7_320 ⟨Nat.le_of_ble_eq_true rfl, Nat.le_of_ble_eq_true rfl⟩ rfl hl.1 rfl (Nat.le_of_ble_eq_true rfl) ⟨Nat.le_of_ble_eq_true rfl, Nat.le_of_ble_eq_true rfl⟩ dX7_passesAll_67 (fun h9 H locs hH hw => ?_)
  refine lv_aload_n hx hb dX7_passesAll_70 rfl (lv_at hl 0 rfl) ?_
  refine lv_aload_n hx hb dX7_passesAll_71 rfl (lv_at hl 0 rfl) ?_
  refine hv_get (ci := 7) (k := 8) (v := .ref (S.2 v0 8)) hx hb hown hKK hH cf7 (by decide) fl_X7_34 rfl k1 rfl dX7_passesAll_72 ?_
  refine hv_cVV (rm := rm_X7_passes) (As := [.ref (S.2 v0 8)]) (rest := []) (k := 1) (ci := 7) hx hb hml hown hKK hH cf7 k1 (m_X7_passes v0 (S.2 v0 8) _ _ hw) cw_X7_320 ⟨Nat.le_of_ble_eq_true rfl, Nat.le_of_ble_eq_true rfl⟩ rfl hl.1 rfl (Nat.le_of_ble_eq_true rfl) ⟨Nat.le_of_ble_eq_true rfl, Nat.le_of_ble_eq_true rfl⟩ dX7_passesAll_75 (fun h10 H locs hH hw => ?_)
  refine lv_aload_n hx hb dX7_passesAll_78 rfl (lv_at hl 0 rfl) ?_
  refine lv_aload_n hx hb dX7_passesAll_79 rfl (lv_at hl 0 rfl) ?_
  refine hv_get (ci := 7) (k := 9) (v := .ref (S.2 v0 9)) hx hb hown hKK hH cf7 (by decide) fl_X7_37 rfl k1 rfl dX7_passesAll_80 ?_
  refine hv_cVV (rm := rm_X7_passes) (As := [.ref (S.2 v0 9)]) (rest := []) (k := 1) (ci := 7) hx hb hml hown hKK hH cf7 k1 (m_X7_passes v0 (S.2 v0 9) _ _ hw) cw_X7_320 ⟨Nat.le_of_ble_eq_true rfl, Nat.le_of_ble_eq_true rfl⟩ rfl hl.1 rfl (Nat.le_of_ble_eq_true rfl) ⟨Nat.le_of_ble_eq_true rfl, Nat.le_of_ble_eq_true rfl⟩ dX7_passesAll_83 (fun h11 H locs hH hw => ?_)
  refine lv_aload_n hx hb dX7_passesAll_86 rfl (lv_at hl 0 rfl) ?_
  refine lv_aload_n hx hb dX7_passesAll_87 rfl (lv_at hl 0 rfl) ?_
  refine hv_get (ci := 7) (k := 10) (v := .ref (S.2 v0 10)) hx hb hown hKK hH cf7 (by decide) fl_X7_40 rfl k1 rfl dX7_passesAll_88 ?_
  refine hv_cVV (rm := rm_X7_passes) (As := [.ref (S.2 v0 10)]) (rest := []) (k := 1) (ci := 7) hx hb hml hown hKK hH cf7 k1 (m_X7_passes v0 (S.2 v0 10) _ _ hw) cw_X7_320 ⟨Nat.le_of_ble_eq_true rfl, Nat.le_of_ble_eq_true rfl⟩ rfl hl.1 rfl (Nat.le_of_ble_eq_true rfl) ⟨Nat.le_of_ble_eq_true rfl, Nat.le_of_ble_eq_true rfl⟩ dX7_passesAll_91 (fun h12 H locs hH hw => ?_)
  refine lv_aload_n hx hb dX7_passesAll_94 rfl (lv_at hl 0 rfl) ?_
  refine lv_aload_n hx hb dX7_passesAll_95 rfl (lv_at hl 0 rfl) ?_
  refine hv_get (ci := 7) (k := 11) (v := .ref (S.2 v0 11)) hx hb hown hKK hH cf7 (by decide) fl_X7_43 rfl k1 rfl dX7_passesAll_96 ?_
  refine hv_cVV (rm := rm_X7_passes) (As := [.ref (S.2 v0 11)]) (rest := []) (k := 1) (ci := 7) hx hb hml hown hKK hH cf7 k1 (m_X7_passes v0 (S.2 v0 11) _ _ hw) cw_X7_320 ⟨Nat.le_of_ble_eq_true rfl, Nat.le_of_ble_eq_true rfl⟩ rfl hl.1 rfl (Nat.le_of_ble_eq_true rfl) ⟨Nat.le_of_ble_eq_true rfl, Nat.le_of_ble_eq_true rfl⟩ dX7_passesAll_99 (fun h13 H locs hH hw => ?_)
  refine lv_aload_n hx hb dX7_passesAll_102 rfl (lv_at hl 0 rfl) ?_
  refine lv_aload_n hx hb dX7_passesAll_103 rfl (lv_at hl 0 rfl) ?_
  refine hv_get (ci := 7) (k := 12) (v := .ref (S.2 v0 12)) hx hb hown hKK hH cf7 (by decide) fl_X7_46 rfl k1 rfl dX7_passesAll_104 ?_
  refine hv_cVV (rm := rm_X7_passes) (As := [.ref (S.2 v0 12)]) (rest := []) (k := 1) (ci := 7) hx hb hml hown hKK hH cf7 k1 (m_X7_passes v0 (S.2 v0 12) _ _ hw) cw_X7_320 ⟨Nat.le_of_ble_eq_true rfl, Nat.le_of_ble_eq_true rfl⟩ rfl hl.1 rfl (Nat.le_of_ble_eq_true rfl) ⟨Nat.le_of_ble_eq_true rfl, Nat.le_of_ble_eq_true rfl⟩ dX7_passesAll_107 (fun h14 H locs hH hw => ?_)
  refine lv_aload_n hx hb dX7_passesAll_110 rfl (lv_at hl 0 rfl) ?_
  refine lv_aload_n hx hb dX7_passesAll_111 rfl (lv_at hl 0 rfl) ?_
  refine lv_aload_n hx hb dX7_passesAll_112 rfl (lv_at hl 0 rfl) ?_
  refine hv_get (ci := 7) (k := 13) (v := .int (h14 v0 13)) hx hb hown hKK hH cf7 (by decide) fl_X7_79 rfl k1 rfl dX7_passesAll_113 ?_
  refine hv_cVI (rm := rm_X7_passOne) (As := [.int (h14 v0 13)]) (rest := [.ref v0]) (k := 1) (ci := 7) hx hb hml hown hKK hH cf7 k1 (m_X7_passOne v0 (h14 v0 13) _ _ hw) cw_X7_324 ⟨Nat.le_of_ble_eq_true rfl, Nat.le_of_ble_eq_true rfl⟩ rfl hl.1 rfl (Nat.le_of_ble_eq_true rfl) ⟨Nat.le_of_ble_eq_true rfl, Nat.le_of_ble_eq_true rfl⟩ dX7_passesAll_116 (fun r16 h15 H locs hH hw => ?_)
  refine hv_put (ci := 7) (k := 13) hx hb hown hKK hH cf7 (by decide) fl_X7_79 rfl rfl rfl k1 rfl rfl dX7_passesAll_119 (fun H locs hH => ?_)
  refine lv_aload_n hx hb dX7_passesAll_122 rfl (lv_at hl 0 rfl) ?_
  refine lv_aload_n hx hb dX7_passesAll_123 rfl (lv_at hl 0 rfl) ?_
  refine lv_aload_n hx hb dX7_passesAll_124 rfl (lv_at hl 0 rfl) ?_
  refine hv_get (ci := 7) (k := 14) (v := .int ((up h15 v0 13 r16) v0 14)) hx hb hown hKK hH cf7 (by decide) fl_X7_136 rfl k1 rfl dX7_passesAll_125 ?_
  refine hv_cVI (rm := rm_X7_passOne) (As := [.int ((up h15 v0 13 r16) v0 14)]) (rest := [.ref v0]) (k := 1) (ci := 7) hx hb hml hown hKK hH cf7 k1 (m_X7_passOne v0 ((up h15 v0 13 r16) v0 14) _ _ hw) cw_X7_324 ⟨Nat.le_of_ble_eq_true rfl, Nat.le_of_ble_eq_true rfl⟩ rfl hl.1 rfl (Nat.le_of_ble_eq_true rfl) ⟨Nat.le_of_ble_eq_true rfl, Nat.le_of_ble_eq_true rfl⟩ dX7_passesAll_128 (fun r18 h17 H locs hH hw => ?_)
  refine hv_put (ci := 7) (k := 14) hx hb hown hKK hH cf7 (by decide) fl_X7_136 rfl rfl rfl k1 rfl rfl dX7_passesAll_131 (fun H locs hH => ?_)
  refine lv_aload_n hx hb dX7_passesAll_134 rfl (lv_at hl 0 rfl) ?_
  refine lv_aload_n hx hb dX7_passesAll_135 rfl (lv_at hl 0 rfl) ?_
  refine lv_aload_n hx hb dX7_passesAll_136 rfl (lv_at hl 0 rfl) ?_
  refine hv_get (ci := 7) (k := 15) (v := .int ((up h17 v0 14 r18) v0 15)) hx hb hown hKK hH cf7 (by decide) fl_X7_127 rfl k1 rfl dX7_passesAll_137 ?_
  refine hv_cVI (rm := rm_X7_passOne) (As := [.int ((up h17 v0 14 r18) v0 15)]) (rest := [.ref v0]) (k := 1) (ci := 7) hx hb hml hown hKK hH cf7 k1 (m_X7_passOne v0 ((up h17 v0 14 r18) v0 15) _ _ hw) cw_X7_324 ⟨Nat.le_of_ble_eq_true rfl, Nat.le_of_ble_eq_true rfl⟩ rfl hl.1 rfl (Nat.le_of_ble_eq_true rfl) ⟨Nat.le_of_ble_eq_true rfl, Nat.le_of_ble_eq_true rfl⟩ dX7_passesAll_140 (fun r20 h19 H locs hH hw => ?_)
  refine hv_put (ci := 7) (k := 15) hx hb hown hKK hH cf7 (by decide) fl_X7_127 rfl rfl rfl k1 rfl rfl dX7_passesAll_143 (fun H locs hH => ?_)
  exact hv_vret hx hb hr hlk hH hw dX7_passesAll_146
abbrev rm_X7_land : Room := { frames := 9, cells := 0, slots := 0, locals := 206 }
set_option maxHeartbeats 4000000 in
set_option maxRecDepth 100000 in
theorem m_X7_land {l : Launch} {G : Gl} {B sz : Nat} {S : St} (v0 : Nat) (h : Hp) (Q : Int32 → Hp → Prop) (hw : w_X7_land S v0 h Q) : MI l G B sz S yX7_land cX7_land 3 .int rm_X7_land [.ref v0] h Q := by
  refine met_of rfl rfl ?_
  intro p e s m args below meth c hMB H ls hH hl
  obtain ⟨hx, hb, hml, hown, hKK, hr, hlk⟩ := hMB
  replace hl : lv_has ls 3 [(0, .ref v0)] := hl
  have c86 : ∀  (v0 : Nat) (v2 : Int32) (h : Hp) (H : Heap) (locs : List Loc) (ls : Array Slot), HH G B S h sz s H locs → lv_has ls 3 [(0, .ref v0), (2, .int v2)] → w_X7_land_c86 S v0 v2 h Q → W p l e rm_X7_land s m args below meth c H locs 0 0 (QI G B S sz below args s Q) (F0 m 86 ls []) := by
    intro  v0 v2 h H locs ls hH hl hw
    unfold w_X7_land_c86 at hw
    obtain ⟨P86, hP86⟩ : ∃ P : Int32 → Hp → Prop, ∀ (v2 : Int32) (h : Hp), P v2 h ↔ (∀ (H : Heap) (locs : List Loc) (ls : Array Slot), HH G B S h sz s H locs → lv_has ls 3 [(0, .ref v0), (2, .int v2)] → W p l e rm_X7_land s m args below meth c H locs 0 0 (QI G B S sz below args s Q) (F0 m 86 ls [])) := ⟨_, fun v2 h => Iff.rfl⟩
    refine (hP86 v2 h).1 (hw P86 (fun v2 h hw => (hP86 v2 h).2 (fun H locs ls hH hl => ?_))) H locs ls hH hl
    have hK86 : ∀ (v2 : Int32) (h : Hp) (H : Heap) (locs : List Loc) (ls : Array Slot), HH G B S h sz s H locs → lv_has ls 3 [(0, .ref v0), (2, .int v2)] → P86 v2 h → W p l e rm_X7_land s m args below meth c H locs 0 0 (QI G B S sz below args s Q) (F0 m 86 ls []) := fun v2 h H locs ls hH hl hk => (hP86 v2 h).1 hk H locs ls hH hl
    refine lv_iload_n hx hb dX7_land_86 rfl (lv_at hl 1 rfl) ?_
    refine lv_aload_n hx hb dX7_land_87 rfl (lv_at hl 0 rfl) ?_
    obtain ⟨k1, hw⟩ := hw
    refine hv_get (ci := 7) (k := 24) (v := .int (h v0 24)) hx hb hown hKK hH cf7 (by decide) fl_X7_180 rfl k1 rfl dX7_land_88 ?_
    refine lv_icmp_ge (tgt := 128) hx hb dX7_land_91 (by decide) (fun c2 => ?_) (fun c2 => ?_)
    · have hw := ite_t hw c2
      refine lv_aload_n hx hb dX7_land_128 rfl (lv_at hl 0 rfl) ?_
      refine lv_iconst (v := (nI 0)) hx hb dX7_land_129 (by decide) ?_
      refine hv_put (ci := 7) (k := 30) hx hb hown hKK hH cf7 (by decide) fl_X7_310 rfl rfl rfl k1 rfl rfl dX7_land_130 (fun H locs hH => ?_)
      refine lv_aload_n hx hb dX7_land_133 rfl (lv_at hl 0 rfl) ?_
      refine hv_get (ci := 7) (k := 24) (v := .int ((up h v0 30 (nI 0)) v0 24)) hx hb hown hKK hH cf7 (by decide) fl_X7_180 rfl k1 rfl dX7_land_134 ?_
      exact hv_iret hx hb hr hlk hH hw dX7_land_137
    · have hw := ite_f hw c2
      refine lv_aload_n hx hb dX7_land_94 rfl (lv_at hl 0 rfl) ?_
      refine lv_iload_n hx hb dX7_land_95 rfl (lv_at hl 1 rfl) ?_
      refine hv_cVI (rm := rm_X7_comesSaid) (As := [.int v2]) (rest := []) (k := 1) (ci := 7) hx hb hml hown hKK hH cf7 k1 (m_X7_comesSaid v0 v2 _ _ hw) cw_X7_307 ⟨Nat.le_of_ble_eq_true rfl, Nat.le_of_ble_eq_true rfl⟩ rfl hl.1 rfl (Nat.le_of_ble_eq_true rfl) ⟨Nat.le_of_ble_eq_true rfl, Nat.le_of_ble_eq_true rfl⟩ dX7_land_96 (fun r4 h3 H locs hH hw => ?_)
      refine lv_if_eq (tgt := 105) hx hb dX7_land_99 (by decide) (fun c5 => ?_) (fun c5 => ?_)
      · have hw := ite_t hw c5
        refine lv_aload_n hx hb dX7_land_105 rfl (lv_at hl 0 rfl) ?_
        refine lv_iconst (v := (nI 1)) hx hb dX7_land_106 (by decide) ?_
        refine lv_iconst (v := (nI 0)) hx hb dX7_land_107 (by decide) ?_
        refine hv_cVV (rm := rm_X7_passesAll) (As := [.int (nI 1), .int (nI 0)]) (rest := []) (k := 2) (ci := 7) hx hb hml hown hKK hH cf7 k1 (m_X7_passesAll v0 (nI 1) (nI 0) _ _ hw) cw_X7_303 ⟨Nat.le_of_ble_eq_true rfl, Nat.le_of_ble_eq_true rfl⟩ rfl hl.1 rfl (Nat.le_of_ble_eq_true rfl) ⟨Nat.le_of_ble_eq_true rfl, Nat.le_of_ble_eq_true rfl⟩ dX7_land_108 (fun h6 H locs hH hw => ?_)
        refine lv_sipush (v := (-2000)) hx hb dX7_land_111 (by decide) ?_
        refine lv_aload_n hx hb dX7_land_114 rfl (lv_at hl 0 rfl) ?_
        refine hv_get (ci := 7) (k := 17) (v := .ref (S.2 v0 17)) hx hb hown hKK hH cf7 (by decide) fl_X7_52 rfl k1 rfl dX7_land_115 ?_
        refine lv_iload_n hx hb dX7_land_118 rfl (lv_at hl 1 rfl) ?_
        obtain ⟨k7, hw⟩ := hw
        refine hv_iald hx hb hKK hH k7 dX7_land_119 ?_
        refine lv_isub hx hb dX7_land_120 ?_
        exact hv_iret hx hb hr hlk hH hw dX7_land_121
      · have hw := ite_f hw c5
        refine lv_goto (tgt := 122) hx hb dX7_land_102 (by decide) ?_
        refine lv_iinc (v := v2 + (nI 1)) (lv' := [(2, .int (v2 + (nI 1))), (0, .ref v0)]) hx hb dX7_land_122 hl (k := 1) rfl rfl (by decide) rfl (fun ls hl => ?_)
        refine lv_goto (tgt := 86) hx hb dX7_land_125 (by decide) ?_
        exact hK86 _ _ H locs ls hH (lv_sub hl [1, 0] rfl) hw
  have c12 : ∀  (v0 : Nat) (v1 : Int32) (h : Hp) (H : Heap) (locs : List Loc) (ls : Array Slot), HH G B S h sz s H locs → lv_has ls 3 [(0, .ref v0), (1, .int v1)] → w_X7_land_c12 S v0 v1 h Q → W p l e rm_X7_land s m args below meth c H locs 0 0 (QI G B S sz below args s Q) (F0 m 12 ls []) := by
    intro  v0 v1 h H locs ls hH hl hw
    unfold w_X7_land_c12 at hw
    obtain ⟨P12, hP12⟩ : ∃ P : Int32 → Hp → Prop, ∀ (v1 : Int32) (h : Hp), P v1 h ↔ (∀ (H : Heap) (locs : List Loc) (ls : Array Slot), HH G B S h sz s H locs → lv_has ls 3 [(0, .ref v0), (1, .int v1)] → W p l e rm_X7_land s m args below meth c H locs 0 0 (QI G B S sz below args s Q) (F0 m 12 ls [])) := ⟨_, fun v1 h => Iff.rfl⟩
    refine (hP12 v1 h).1 (hw P12 (fun v1 h hw => (hP12 v1 h).2 (fun H locs ls hH hl => ?_))) H locs ls hH hl
    have hK12 : ∀ (v1 : Int32) (h : Hp) (H : Heap) (locs : List Loc) (ls : Array Slot), HH G B S h sz s H locs → lv_has ls 3 [(0, .ref v0), (1, .int v1)] → P12 v1 h → W p l e rm_X7_land s m args below meth c H locs 0 0 (QI G B S sz below args s Q) (F0 m 12 ls []) := fun v1 h H locs ls hH hl hk => (hP12 v1 h).1 hk H locs ls hH hl
    refine lv_iload_n hx hb dX7_land_12 rfl (lv_at hl 1 rfl) ?_
    refine lv_if_eq (tgt := 60) hx hb dX7_land_13 (by decide) (fun c1 => ?_) (fun c1 => ?_)
    · have hw := ite_t hw c1
      refine lv_aload_n hx hb dX7_land_60 rfl (lv_at hl 0 rfl) ?_
      refine lv_iconst (v := (nI 0)) hx hb dX7_land_61 (by decide) ?_
      obtain ⟨k2, hw⟩ := hw
      refine hv_put (ci := 7) (k := 22) hx hb hown hKK hH cf7 (by decide) fl_X7_167 rfl rfl rfl k2 rfl rfl dX7_land_62 (fun H locs hH => ?_)
      refine lv_iload_n hx hb dX7_land_65 rfl (lv_at hl 1 rfl) ?_
      refine lv_if_ne (tgt := 78) hx hb dX7_land_66 (by decide) (fun c => absurd c1 c) (fun _ => ?_)
      refine lv_sipush (v := (-1000)) hx hb dX7_land_69 (by decide) ?_
      refine lv_aload_n hx hb dX7_land_72 rfl (lv_at hl 0 rfl) ?_
      refine hv_get (ci := 7) (k := 23) (v := .int ((up h v0 22 (nI 0)) v0 23)) hx hb hown hKK hH cf7 (by decide) fl_X7_173 rfl k2 rfl dX7_land_73 ?_
      refine lv_isub hx hb dX7_land_76 ?_
      exact hv_iret hx hb hr hlk hH hw dX7_land_77
    · have hw := ite_f hw c1
      refine lv_aload_n hx hb dX7_land_16 rfl (lv_at hl 0 rfl) ?_
      obtain ⟨k3, hw⟩ := hw
      refine hv_get (ci := 7) (k := 23) (v := .int (h v0 23)) hx hb hown hKK hH cf7 (by decide) fl_X7_173 rfl k3 rfl dX7_land_17 ?_
      refine lv_aload_n hx hb dX7_land_20 rfl (lv_at hl 0 rfl) ?_
      refine hv_get (ci := 7) (k := 22) (v := .int (h v0 22)) hx hb hown hKK hH cf7 (by decide) fl_X7_167 rfl k3 rfl dX7_land_21 ?_
      refine lv_icmp_lt (tgt := 34) hx hb dX7_land_24 (by decide) (fun c4 => ?_) (fun c4 => ?_)
      · have hw := ite_t hw c4
        refine lv_aload_n hx hb dX7_land_34 rfl (lv_at hl 0 rfl) ?_
        refine hv_cVI (rm := rm_X7_statement) (As := []) (rest := []) (k := 0) (ci := 7) hx hb hml hown hKK hH cf7 k3 (m_X7_statement v0 _ _ hw) cw_X7_300 ⟨Nat.le_of_ble_eq_true rfl, Nat.le_of_ble_eq_true rfl⟩ rfl hl.1 rfl (Nat.le_of_ble_eq_true rfl) ⟨Nat.le_of_ble_eq_true rfl, Nat.le_of_ble_eq_true rfl⟩ dX7_land_35 (fun r6 h5 H locs hH hw => ?_)
        refine lv_istore_n (lv' := [(1, .int r6), (0, .ref v0)]) hx hb dX7_land_38 rfl hl (by decide) rfl (fun ls hl => ?_)
        refine lv_aload_n hx hb dX7_land_39 rfl (lv_at hl 1 rfl) ?_
        refine lv_dup hx hb dX7_land_40 rfl ?_
        refine hv_get (ci := 7) (k := 24) (v := .int (h5 v0 24)) hx hb hown hKK hH cf7 (by decide) fl_X7_180 rfl k3 rfl dX7_land_41 ?_
        refine lv_iload_n hx hb dX7_land_44 rfl (lv_at hl 0 rfl) ?_
        refine lv_if_eq (tgt := 52) hx hb dX7_land_45 (by decide) (fun c7 => ?_) (fun c7 => ?_)
        · have hw := ite_t hw c7
          refine lv_iconst (v := (nI 0)) hx hb dX7_land_52 (by decide) ?_
          refine lv_iadd hx hb dX7_land_53 ?_
          refine hv_put (ci := 7) (k := 24) hx hb hown hKK hH cf7 (by decide) fl_X7_180 rfl rfl rfl k3 rfl rfl dX7_land_54 (fun H locs hH => ?_)
          refine lv_goto (tgt := 12) hx hb dX7_land_57 (by decide) ?_
          exact hK12 _ _ H locs ls hH (lv_sub hl [1, 0] rfl) hw
        · have hw := ite_f hw c7
          refine lv_iconst (v := (nI 1)) hx hb dX7_land_48 (by decide) ?_
          refine lv_goto (tgt := 53) hx hb dX7_land_49 (by decide) ?_
          refine lv_iadd hx hb dX7_land_53 ?_
          refine hv_put (ci := 7) (k := 24) hx hb hown hKK hH cf7 (by decide) fl_X7_180 rfl rfl rfl k3 rfl rfl dX7_land_54 (fun H locs hH => ?_)
          refine lv_goto (tgt := 12) hx hb dX7_land_57 (by decide) ?_
          exact hK12 _ _ H locs ls hH (lv_sub hl [1, 0] rfl) hw
      · have hw := ite_f hw c4
        refine lv_aload_n hx hb dX7_land_27 rfl (lv_at hl 0 rfl) ?_
        refine hv_get (ci := 7) (k := 24) (v := .int (h v0 24)) hx hb hown hKK hH cf7 (by decide) fl_X7_180 rfl k3 rfl dX7_land_28 ?_
        refine lv_if_ne (tgt := 60) hx hb dX7_land_31 (by decide) (fun c8 => ?_) (fun c8 => ?_)
        · have hw := ite_f hw c8
          refine lv_aload_n hx hb dX7_land_60 rfl (lv_at hl 0 rfl) ?_
          refine lv_iconst (v := (nI 0)) hx hb dX7_land_61 (by decide) ?_
          refine hv_put (ci := 7) (k := 22) hx hb hown hKK hH cf7 (by decide) fl_X7_167 rfl rfl rfl k3 rfl rfl dX7_land_62 (fun H locs hH => ?_)
          refine lv_iload_n hx hb dX7_land_65 rfl (lv_at hl 1 rfl) ?_
          refine lv_if_ne (tgt := 78) hx hb dX7_land_66 (by decide) (fun _ => ?_) (fun c => absurd c c1)
          refine lv_aload_n hx hb dX7_land_78 rfl (lv_at hl 0 rfl) ?_
          refine lv_iconst (v := (nI 1)) hx hb dX7_land_79 (by decide) ?_
          refine lv_iconst (v := (nI 1)) hx hb dX7_land_80 (by decide) ?_
          refine hv_cVV (rm := rm_X7_passesAll) (As := [.int (nI 1), .int (nI 1)]) (rest := []) (k := 2) (ci := 7) hx hb hml hown hKK hH cf7 k3 (m_X7_passesAll v0 (nI 1) (nI 1) _ _ hw) cw_X7_303 ⟨Nat.le_of_ble_eq_true rfl, Nat.le_of_ble_eq_true rfl⟩ rfl hl.1 rfl (Nat.le_of_ble_eq_true rfl) ⟨Nat.le_of_ble_eq_true rfl, Nat.le_of_ble_eq_true rfl⟩ dX7_land_81 (fun h12 H locs hH hw => ?_)
          refine lv_iconst (v := (nI 0)) hx hb dX7_land_84 (by decide) ?_
          refine lv_istore_n (lv' := [(2, .int (nI 0)), (0, .ref v0), (1, .int v1)]) hx hb dX7_land_85 rfl hl (by decide) rfl (fun ls hl => ?_)
          exact c86 _ _ _ H locs ls hH (lv_sub hl [1, 0] rfl) hw
        · have hw := ite_t hw c8
          refine lv_aload_n hx hb dX7_land_34 rfl (lv_at hl 0 rfl) ?_
          refine hv_cVI (rm := rm_X7_statement) (As := []) (rest := []) (k := 0) (ci := 7) hx hb hml hown hKK hH cf7 k3 (m_X7_statement v0 _ _ hw) cw_X7_300 ⟨Nat.le_of_ble_eq_true rfl, Nat.le_of_ble_eq_true rfl⟩ rfl hl.1 rfl (Nat.le_of_ble_eq_true rfl) ⟨Nat.le_of_ble_eq_true rfl, Nat.le_of_ble_eq_true rfl⟩ dX7_land_35 (fun r10 h9 H locs hH hw => ?_)
          refine lv_istore_n (lv' := [(1, .int r10), (0, .ref v0)]) hx hb dX7_land_38 rfl hl (by decide) rfl (fun ls hl => ?_)
          refine lv_aload_n hx hb dX7_land_39 rfl (lv_at hl 1 rfl) ?_
          refine lv_dup hx hb dX7_land_40 rfl ?_
          refine hv_get (ci := 7) (k := 24) (v := .int (h9 v0 24)) hx hb hown hKK hH cf7 (by decide) fl_X7_180 rfl k3 rfl dX7_land_41 ?_
          refine lv_iload_n hx hb dX7_land_44 rfl (lv_at hl 0 rfl) ?_
          refine lv_if_eq (tgt := 52) hx hb dX7_land_45 (by decide) (fun c11 => ?_) (fun c11 => ?_)
          · have hw := ite_t hw c11
            refine lv_iconst (v := (nI 0)) hx hb dX7_land_52 (by decide) ?_
            refine lv_iadd hx hb dX7_land_53 ?_
            refine hv_put (ci := 7) (k := 24) hx hb hown hKK hH cf7 (by decide) fl_X7_180 rfl rfl rfl k3 rfl rfl dX7_land_54 (fun H locs hH => ?_)
            refine lv_goto (tgt := 12) hx hb dX7_land_57 (by decide) ?_
            exact hK12 _ _ H locs ls hH (lv_sub hl [1, 0] rfl) hw
          · have hw := ite_f hw c11
            refine lv_iconst (v := (nI 1)) hx hb dX7_land_48 (by decide) ?_
            refine lv_goto (tgt := 53) hx hb dX7_land_49 (by decide) ?_
            refine lv_iadd hx hb dX7_land_53 ?_
            refine hv_put (ci := 7) (k := 24) hx hb hown hKK hH cf7 (by decide) fl_X7_180 rfl rfl rfl k3 rfl rfl dX7_land_54 (fun H locs hH => ?_)
            refine lv_goto (tgt := 12) hx hb dX7_land_57 (by decide) ?_
            exact hK12 _ _ H locs ls hH (lv_sub hl [1, 0] rfl) hw
  unfold w_X7_land at hw
  show W p l e rm_X7_land s m args below meth c H [] 0 0 (QI G B S sz below args s Q) (F0 m 0 ls [])
  generalize ([] : List Loc) = locs at hH ⊢
  refine lv_aload_n hx hb dX7_land_0 rfl (lv_at hl 0 rfl) ?_
  refine lv_iconst (v := (nI 0)) hx hb dX7_land_1 (by decide) ?_
  obtain ⟨k1, hw⟩ := hw
  refine hv_put (ci := 7) (k := 23) hx hb hown hKK hH cf7 (by decide) fl_X7_173 rfl rfl rfl k1 rfl rfl dX7_land_2 (fun H locs hH => ?_)
  refine lv_aload_n hx hb dX7_land_5 rfl (lv_at hl 0 rfl) ?_
  refine lv_iconst (v := (nI 0)) hx hb dX7_land_6 (by decide) ?_
  refine hv_put (ci := 7) (k := 24) hx hb hown hKK hH cf7 (by decide) fl_X7_180 rfl rfl rfl k1 rfl rfl dX7_land_7 (fun H locs hH => ?_)
  refine lv_iconst (v := (nI 1)) hx hb dX7_land_10 (by decide) ?_
  refine lv_istore_n (lv' := [(1, .int (nI 1)), (0, .ref v0)]) hx hb dX7_land_11 rfl hl (by decide) rfl (fun ls hl => ?_)
  exact c12 _ _ _ H locs ls hH (lv_sub hl [1, 0] rfl) hw
abbrev rm_X7_minds : Room := { frames := 2, cells := 0, slots := 0, locals := 44 }
set_option maxHeartbeats 4000000 in
set_option maxRecDepth 100000 in
theorem m_X7_minds {l : Launch} {G : Gl} {B sz : Nat} {S : St} (v0 : Nat) (h : Hp) (Q : Hp → Prop) (hw : w_X7_minds S v0 h Q) : MV l G B sz S yX7_minds cX7_minds 1 rm_X7_minds [.ref v0] h Q := by
  refine met_of rfl rfl ?_
  intro p e s m args below meth c hMB H ls hH hl
  obtain ⟨hx, hb, hml, hown, hKK, hr, hlk⟩ := hMB
  replace hl : lv_has ls 1 [(0, .ref v0)] := hl
  unfold w_X7_minds at hw
  show W p l e rm_X7_minds s m args below meth c H [] 0 0 (QV G B S sz below args s Q) (F0 m 0 ls [])
  generalize ([] : List Loc) = locs at hH ⊢
  refine lv_aload_n hx hb dX7_minds_0 rfl (lv_at hl 0 rfl) ?_
  refine lv_iconst (v := (nI 2)) hx hb dX7_minds_1 (by decide) ?_
  refine lv_iconst (v := (nI 1)) hx hb dX7_minds_2 (by decide) ?_
  obtain ⟨k1, hw⟩ := hw
  refine hv_cVV (rm := rm_X7_passesAll) (As := [.int (nI 2), .int (nI 1)]) (rest := []) (k := 2) (ci := 7) hx hb hml hown hKK hH cf7 k1 (m_X7_passesAll v0 (nI 2) (nI 1) _ _ hw) cw_X7_303 ⟨Nat.le_of_ble_eq_true rfl, Nat.le_of_ble_eq_true rfl⟩ rfl hl.1 rfl (Nat.le_of_ble_eq_true rfl) ⟨Nat.le_of_ble_eq_true rfl, Nat.le_of_ble_eq_true rfl⟩ dX7_minds_3 (fun h2 H locs hH hw => ?_)
  exact hv_vret hx hb hr hlk hH hw dX7_minds_6
abbrev rm_X7_forgets : Room := { frames := 2, cells := 0, slots := 0, locals := 44 }
set_option maxHeartbeats 4000000 in
set_option maxRecDepth 100000 in
theorem m_X7_forgets {l : Launch} {G : Gl} {B sz : Nat} {S : St} (v0 : Nat) (h : Hp) (Q : Hp → Prop) (hw : w_X7_forgets S v0 h Q) : MV l G B sz S yX7_forgets cX7_forgets 1 rm_X7_forgets [.ref v0] h Q := by
  refine met_of rfl rfl ?_
  intro p e s m args below meth c hMB H ls hH hl
  obtain ⟨hx, hb, hml, hown, hKK, hr, hlk⟩ := hMB
  replace hl : lv_has ls 1 [(0, .ref v0)] := hl
  unfold w_X7_forgets at hw
  show W p l e rm_X7_forgets s m args below meth c H [] 0 0 (QV G B S sz below args s Q) (F0 m 0 ls [])
  generalize ([] : List Loc) = locs at hH ⊢
  refine lv_aload_n hx hb dX7_forgets_0 rfl (lv_at hl 0 rfl) ?_
  refine lv_iconst (v := (nI 2)) hx hb dX7_forgets_1 (by decide) ?_
  refine lv_iconst (v := (nI 0)) hx hb dX7_forgets_2 (by decide) ?_
  obtain ⟨k1, hw⟩ := hw
  refine hv_cVV (rm := rm_X7_passesAll) (As := [.int (nI 2), .int (nI 0)]) (rest := []) (k := 2) (ci := 7) hx hb hml hown hKK hH cf7 k1 (m_X7_passesAll v0 (nI 2) (nI 0) _ _ hw) cw_X7_303 ⟨Nat.le_of_ble_eq_true rfl, Nat.le_of_ble_eq_true rfl⟩ rfl hl.1 rfl (Nat.le_of_ble_eq_true rfl) ⟨Nat.le_of_ble_eq_true rfl, Nat.le_of_ble_eq_true rfl⟩ dX7_forgets_3 (fun h2 H locs hH hw => ?_)
  exact hv_vret hx hb hr hlk hH hw dX7_forgets_6
abbrev rm_X7_remembers : Room := { frames := 2, cells := 0, slots := 0, locals := 44 }
set_option maxHeartbeats 4000000 in
set_option maxRecDepth 100000 in
theorem m_X7_remembers {l : Launch} {G : Gl} {B sz : Nat} {S : St} (v0 : Nat) (h : Hp) (Q : Hp → Prop) (hw : w_X7_remembers S v0 h Q) : MV l G B sz S yX7_remembers cX7_remembers 1 rm_X7_remembers [.ref v0] h Q := by
  refine met_of rfl rfl ?_
  intro p e s m args below meth c hMB H ls hH hl
  obtain ⟨hx, hb, hml, hown, hKK, hr, hlk⟩ := hMB
  replace hl : lv_has ls 1 [(0, .ref v0)] := hl
  unfold w_X7_remembers at hw
  show W p l e rm_X7_remembers s m args below meth c H [] 0 0 (QV G B S sz below args s Q) (F0 m 0 ls [])
  generalize ([] : List Loc) = locs at hH ⊢
  refine lv_aload_n hx hb dX7_remembers_0 rfl (lv_at hl 0 rfl) ?_
  obtain ⟨k1, hw⟩ := hw
  refine hv_get (ci := 7) (k := 30) (v := .int (h v0 30)) hx hb hown hKK hH cf7 (by decide) fl_X7_310 rfl k1 rfl dX7_remembers_1 ?_
  refine lv_bipush (v := (nI 8)) hx hb dX7_remembers_4 (by decide) ?_
  refine lv_icmp_ne (tgt := 25) hx hb dX7_remembers_6 (by decide) (fun c2 => ?_) (fun c2 => ?_)
  · have hw := ite_f hw c2
    refine lv_aload_n hx hb dX7_remembers_25 rfl (lv_at hl 0 rfl) ?_
    refine lv_dup hx hb dX7_remembers_26 rfl ?_
    refine hv_get (ci := 7) (k := 30) (v := .int (h v0 30)) hx hb hown hKK hH cf7 (by decide) fl_X7_310 rfl k1 rfl dX7_remembers_27 ?_
    refine lv_iconst (v := (nI 1)) hx hb dX7_remembers_30 (by decide) ?_
    refine lv_iadd hx hb dX7_remembers_31 ?_
    refine hv_put (ci := 7) (k := 30) hx hb hown hKK hH cf7 (by decide) fl_X7_310 rfl rfl rfl k1 rfl rfl dX7_remembers_32 (fun H locs hH => ?_)
    refine lv_aload_n hx hb dX7_remembers_35 rfl (lv_at hl 0 rfl) ?_
    refine lv_iconst (v := (nI 3)) hx hb dX7_remembers_36 (by decide) ?_
    refine lv_aload_n hx hb dX7_remembers_37 rfl (lv_at hl 0 rfl) ?_
    refine hv_get (ci := 7) (k := 29) (v := .int ((up h v0 30 ((h v0 30) + (nI 1))) v0 29)) hx hb hown hKK hH cf7 (by decide) fl_X7_327 rfl k1 rfl dX7_remembers_38 ?_
    refine lv_aload_n hx hb dX7_remembers_41 rfl (lv_at hl 0 rfl) ?_
    refine hv_get (ci := 7) (k := 30) (v := .int ((up h v0 30 ((h v0 30) + (nI 1))) v0 30)) hx hb hown hKK hH cf7 (by decide) fl_X7_310 rfl k1 rfl dX7_remembers_42 ?_
    refine lv_iadd hx hb dX7_remembers_45 ?_
    refine lv_iconst (v := (nI 1)) hx hb dX7_remembers_46 (by decide) ?_
    refine lv_isub hx hb dX7_remembers_47 ?_
    refine lv_bipush (v := (nI 8)) hx hb dX7_remembers_48 (by decide) ?_
    refine lv_irem hx hb dX7_remembers_50 (by decide) ?_
    refine lv_iadd hx hb dX7_remembers_51 ?_
    refine lv_iconst (v := (nI 1)) hx hb dX7_remembers_52 (by decide) ?_
    refine hv_cVV (rm := rm_X7_passesAll) (As := [.int ((nI 3) + (irem ((((up h v0 30 ((h v0 30) + (nI 1))) v0 29) + ((up h v0 30 ((h v0 30) + (nI 1))) v0 30)) - (nI 1)) (nI 8))), .int (nI 1)]) (rest := []) (k := 2) (ci := 7) hx hb hml hown hKK hH cf7 k1 (m_X7_passesAll v0 ((nI 3) + (irem ((((up h v0 30 ((h v0 30) + (nI 1))) v0 29) + ((up h v0 30 ((h v0 30) + (nI 1))) v0 30)) - (nI 1)) (nI 8))) (nI 1) _ _ hw) cw_X7_303 ⟨Nat.le_of_ble_eq_true rfl, Nat.le_of_ble_eq_true rfl⟩ rfl hl.1 rfl (Nat.le_of_ble_eq_true rfl) ⟨Nat.le_of_ble_eq_true rfl, Nat.le_of_ble_eq_true rfl⟩ dX7_remembers_53 (fun h4 H locs hH hw => ?_)
    exact hv_vret hx hb hr hlk hH hw dX7_remembers_56
  · have hw := ite_t hw c2
    refine lv_aload_n hx hb dX7_remembers_9 rfl (lv_at hl 0 rfl) ?_
    refine lv_aload_n hx hb dX7_remembers_10 rfl (lv_at hl 0 rfl) ?_
    refine hv_get (ci := 7) (k := 29) (v := .int (h v0 29)) hx hb hown hKK hH cf7 (by decide) fl_X7_327 rfl k1 rfl dX7_remembers_11 ?_
    refine lv_iconst (v := (nI 1)) hx hb dX7_remembers_14 (by decide) ?_
    refine lv_iadd hx hb dX7_remembers_15 ?_
    refine lv_bipush (v := (nI 8)) hx hb dX7_remembers_16 (by decide) ?_
    refine lv_irem hx hb dX7_remembers_18 (by decide) ?_
    refine hv_put (ci := 7) (k := 29) hx hb hown hKK hH cf7 (by decide) fl_X7_327 rfl rfl rfl k1 rfl rfl dX7_remembers_19 (fun H locs hH => ?_)
    refine lv_goto (tgt := 35) hx hb dX7_remembers_22 (by decide) ?_
    refine lv_aload_n hx hb dX7_remembers_35 rfl (lv_at hl 0 rfl) ?_
    refine lv_iconst (v := (nI 3)) hx hb dX7_remembers_36 (by decide) ?_
    refine lv_aload_n hx hb dX7_remembers_37 rfl (lv_at hl 0 rfl) ?_
    refine hv_get (ci := 7) (k := 29) (v := .int ((up h v0 29 (irem ((h v0 29) + (nI 1)) (nI 8))) v0 29)) hx hb hown hKK hH cf7 (by decide) fl_X7_327 rfl k1 rfl dX7_remembers_38 ?_
    refine lv_aload_n hx hb dX7_remembers_41 rfl (lv_at hl 0 rfl) ?_
    refine hv_get (ci := 7) (k := 30) (v := .int ((up h v0 29 (irem ((h v0 29) + (nI 1)) (nI 8))) v0 30)) hx hb hown hKK hH cf7 (by decide) fl_X7_310 rfl k1 rfl dX7_remembers_42 ?_
    refine lv_iadd hx hb dX7_remembers_45 ?_
    refine lv_iconst (v := (nI 1)) hx hb dX7_remembers_46 (by decide) ?_
    refine lv_isub hx hb dX7_remembers_47 ?_
    refine lv_bipush (v := (nI 8)) hx hb dX7_remembers_48 (by decide) ?_
    refine lv_irem hx hb dX7_remembers_50 (by decide) ?_
    refine lv_iadd hx hb dX7_remembers_51 ?_
    refine lv_iconst (v := (nI 1)) hx hb dX7_remembers_52 (by decide) ?_
    refine hv_cVV (rm := rm_X7_passesAll) (As := [.int ((nI 3) + (irem ((((up h v0 29 (irem ((h v0 29) + (nI 1)) (nI 8))) v0 29) + ((up h v0 29 (irem ((h v0 29) + (nI 1)) (nI 8))) v0 30)) - (nI 1)) (nI 8))), .int (nI 1)]) (rest := []) (k := 2) (ci := 7) hx hb hml hown hKK hH cf7 k1 (m_X7_passesAll v0 ((nI 3) + (irem ((((up h v0 29 (irem ((h v0 29) + (nI 1)) (nI 8))) v0 29) + ((up h v0 29 (irem ((h v0 29) + (nI 1)) (nI 8))) v0 30)) - (nI 1)) (nI 8))) (nI 1) _ _ hw) cw_X7_303 ⟨Nat.le_of_ble_eq_true rfl, Nat.le_of_ble_eq_true rfl⟩ rfl hl.1 rfl (Nat.le_of_ble_eq_true rfl) ⟨Nat.le_of_ble_eq_true rfl, Nat.le_of_ble_eq_true rfl⟩ dX7_remembers_53 (fun h3 H locs hH hw => ?_)
    exact hv_vret hx hb hr hlk hH hw dX7_remembers_56
abbrev rm_X7_back : Room := { frames := 2, cells := 0, slots := 0, locals := 44 }
set_option maxHeartbeats 4000000 in
set_option maxRecDepth 100000 in
theorem m_X7_back {l : Launch} {G : Gl} {B sz : Nat} {S : St} (v0 : Nat) (h : Hp) (Q : Int32 → Hp → Prop) (hw : w_X7_back S v0 h Q) : MI l G B sz S yX7_back cX7_back 1 .int rm_X7_back [.ref v0] h Q := by
  refine met_of rfl rfl ?_
  intro p e s m args below meth c hMB H ls hH hl
  obtain ⟨hx, hb, hml, hown, hKK, hr, hlk⟩ := hMB
  replace hl : lv_has ls 1 [(0, .ref v0)] := hl
  unfold w_X7_back at hw
  show W p l e rm_X7_back s m args below meth c H [] 0 0 (QI G B S sz below args s Q) (F0 m 0 ls [])
  generalize ([] : List Loc) = locs at hH ⊢
  refine lv_aload_n hx hb dX7_back_0 rfl (lv_at hl 0 rfl) ?_
  obtain ⟨k1, hw⟩ := hw
  refine hv_get (ci := 7) (k := 30) (v := .int (h v0 30)) hx hb hown hKK hH cf7 (by decide) fl_X7_310 rfl k1 rfl dX7_back_1 ?_
  refine lv_if_ne (tgt := 14) hx hb dX7_back_4 (by decide) (fun c2 => ?_) (fun c2 => ?_)
  · have hw := ite_f hw c2
    refine lv_aload_n hx hb dX7_back_14 rfl (lv_at hl 0 rfl) ?_
    refine lv_iconst (v := (nI 3)) hx hb dX7_back_15 (by decide) ?_
    refine lv_aload_n hx hb dX7_back_16 rfl (lv_at hl 0 rfl) ?_
    refine hv_get (ci := 7) (k := 29) (v := .int (h v0 29)) hx hb hown hKK hH cf7 (by decide) fl_X7_327 rfl k1 rfl dX7_back_17 ?_
    refine lv_aload_n hx hb dX7_back_20 rfl (lv_at hl 0 rfl) ?_
    refine hv_get (ci := 7) (k := 30) (v := .int (h v0 30)) hx hb hown hKK hH cf7 (by decide) fl_X7_310 rfl k1 rfl dX7_back_21 ?_
    refine lv_iadd hx hb dX7_back_24 ?_
    refine lv_iconst (v := (nI 1)) hx hb dX7_back_25 (by decide) ?_
    refine lv_isub hx hb dX7_back_26 ?_
    refine lv_bipush (v := (nI 8)) hx hb dX7_back_27 (by decide) ?_
    refine lv_irem hx hb dX7_back_29 (by decide) ?_
    refine lv_iadd hx hb dX7_back_30 ?_
    refine lv_iconst (v := (nI 0)) hx hb dX7_back_31 (by decide) ?_
    refine hv_cVV (rm := rm_X7_passesAll) (As := [.int ((nI 3) + (irem (((h v0 29) + (h v0 30)) - (nI 1)) (nI 8))), .int (nI 0)]) (rest := []) (k := 2) (ci := 7) hx hb hml hown hKK hH cf7 k1 (m_X7_passesAll v0 ((nI 3) + (irem (((h v0 29) + (h v0 30)) - (nI 1)) (nI 8))) (nI 0) _ _ hw) cw_X7_303 ⟨Nat.le_of_ble_eq_true rfl, Nat.le_of_ble_eq_true rfl⟩ rfl hl.1 rfl (Nat.le_of_ble_eq_true rfl) ⟨Nat.le_of_ble_eq_true rfl, Nat.le_of_ble_eq_true rfl⟩ dX7_back_32 (fun h5 H locs hH hw => ?_)
    refine lv_aload_n hx hb dX7_back_35 rfl (lv_at hl 0 rfl) ?_
    refine lv_dup hx hb dX7_back_36 rfl ?_
    refine hv_get (ci := 7) (k := 30) (v := .int (h5 v0 30)) hx hb hown hKK hH cf7 (by decide) fl_X7_310 rfl k1 rfl dX7_back_37 ?_
    refine lv_iconst (v := (nI 1)) hx hb dX7_back_40 (by decide) ?_
    refine lv_isub hx hb dX7_back_41 ?_
    refine hv_put (ci := 7) (k := 30) hx hb hown hKK hH cf7 (by decide) fl_X7_310 rfl rfl rfl k1 rfl rfl dX7_back_42 (fun H locs hH => ?_)
    refine lv_aload_n hx hb dX7_back_45 rfl (lv_at hl 0 rfl) ?_
    refine hv_get (ci := 7) (k := 30) (v := .int ((up h5 v0 30 ((h5 v0 30) - (nI 1))) v0 30)) hx hb hown hKK hH cf7 (by decide) fl_X7_310 rfl k1 rfl dX7_back_46 ?_
    exact hv_iret hx hb hr hlk hH hw dX7_back_49
  · have hw := ite_t hw c2
    refine lv_aload_n hx hb dX7_back_7 rfl (lv_at hl 0 rfl) ?_
    refine lv_bipush (v := (-3)) hx hb dX7_back_8 (by decide) ?_
    refine hv_cVI (rm := rm_X7_no) (As := [.int (-3)]) (rest := []) (k := 1) (ci := 7) hx hb hml hown hKK hH cf7 k1 (m_X7_no v0 (-3) _ _ hw) cw_X7_170 ⟨Nat.le_of_ble_eq_true rfl, Nat.le_of_ble_eq_true rfl⟩ rfl hl.1 rfl (Nat.le_of_ble_eq_true rfl) ⟨Nat.le_of_ble_eq_true rfl, Nat.le_of_ble_eq_true rfl⟩ dX7_back_10 (fun r4 h3 H locs hH hw => ?_)
    exact hv_iret hx hb hr hlk hH hw dX7_back_13
abbrev rm_X7_image : Room := { frames := 2, cells := 0, slots := 0, locals := 44 }
set_option maxHeartbeats 4000000 in
set_option maxRecDepth 100000 in
theorem m_X7_image {l : Launch} {G : Gl} {B sz : Nat} {S : St} (v0 : Nat) (h : Hp) (Q : Int32 → Hp → Prop) (hw : w_X7_image S v0 h Q) : MI l G B sz S yX7_image cX7_image 1 .int rm_X7_image [.ref v0] h Q := by
  refine met_of rfl rfl ?_
  intro p e s m args below meth c hMB H ls hH hl
  obtain ⟨hx, hb, hml, hown, hKK, hr, hlk⟩ := hMB
  replace hl : lv_has ls 1 [(0, .ref v0)] := hl
  unfold w_X7_image at hw
  show W p l e rm_X7_image s m args below meth c H [] 0 0 (QI G B S sz below args s Q) (F0 m 0 ls [])
  generalize ([] : List Loc) = locs at hH ⊢
  refine lv_aload_n hx hb dX7_image_0 rfl (lv_at hl 0 rfl) ?_
  refine lv_iconst (v := (nI 1)) hx hb dX7_image_1 (by decide) ?_
  obtain ⟨k1, hw⟩ := hw
  refine hv_put (ci := 7) (k := 26) hx hb hown hKK hH cf7 (by decide) fl_X7_330 rfl rfl rfl k1 rfl rfl dX7_image_2 (fun H locs hH => ?_)
  refine lv_aload_n hx hb dX7_image_5 rfl (lv_at hl 0 rfl) ?_
  refine lv_iconst (v := (nI 0)) hx hb dX7_image_6 (by decide) ?_
  refine lv_iconst (v := (nI 1)) hx hb dX7_image_7 (by decide) ?_
  refine hv_cVV (rm := rm_X7_passesAll) (As := [.int (nI 0), .int (nI 1)]) (rest := []) (k := 2) (ci := 7) hx hb hml hown hKK hH cf7 k1 (m_X7_passesAll v0 (nI 0) (nI 1) _ _ hw) cw_X7_303 ⟨Nat.le_of_ble_eq_true rfl, Nat.le_of_ble_eq_true rfl⟩ rfl hl.1 rfl (Nat.le_of_ble_eq_true rfl) ⟨Nat.le_of_ble_eq_true rfl, Nat.le_of_ble_eq_true rfl⟩ dX7_image_8 (fun h2 H locs hH hw => ?_)
  refine lv_aload_n hx hb dX7_image_11 rfl (lv_at hl 0 rfl) ?_
  refine hv_get (ci := 7) (k := 14) (v := .int (h2 v0 14)) hx hb hown hKK hH cf7 (by decide) fl_X7_136 rfl k1 rfl dX7_image_12 ?_
  exact hv_iret hx hb hr hlk hH hw dX7_image_15
abbrev rm_X7_restore : Room := { frames := 2, cells := 0, slots := 0, locals := 44 }
set_option maxHeartbeats 4000000 in
set_option maxRecDepth 100000 in
theorem m_X7_restore {l : Launch} {G : Gl} {B sz : Nat} {S : St} (v0 : Nat) (h : Hp) (Q : Int32 → Hp → Prop) (hw : w_X7_restore S v0 h Q) : MI l G B sz S yX7_restore cX7_restore 1 .int rm_X7_restore [.ref v0] h Q := by
  refine met_of rfl rfl ?_
  intro p e s m args below meth c hMB H ls hH hl
  obtain ⟨hx, hb, hml, hown, hKK, hr, hlk⟩ := hMB
  replace hl : lv_has ls 1 [(0, .ref v0)] := hl
  unfold w_X7_restore at hw
  show W p l e rm_X7_restore s m args below meth c H [] 0 0 (QI G B S sz below args s Q) (F0 m 0 ls [])
  generalize ([] : List Loc) = locs at hH ⊢
  refine lv_aload_n hx hb dX7_restore_0 rfl (lv_at hl 0 rfl) ?_
  obtain ⟨k1, hw⟩ := hw
  refine hv_get (ci := 7) (k := 26) (v := .int (h v0 26)) hx hb hown hKK hH cf7 (by decide) fl_X7_330 rfl k1 rfl dX7_restore_1 ?_
  refine lv_if_ne (tgt := 14) hx hb dX7_restore_4 (by decide) (fun c2 => ?_) (fun c2 => ?_)
  · have hw := ite_f hw c2
    refine lv_aload_n hx hb dX7_restore_14 rfl (lv_at hl 0 rfl) ?_
    refine lv_iconst (v := (nI 0)) hx hb dX7_restore_15 (by decide) ?_
    refine lv_iconst (v := (nI 0)) hx hb dX7_restore_16 (by decide) ?_
    refine hv_cVV (rm := rm_X7_passesAll) (As := [.int (nI 0), .int (nI 0)]) (rest := []) (k := 2) (ci := 7) hx hb hml hown hKK hH cf7 k1 (m_X7_passesAll v0 (nI 0) (nI 0) _ _ hw) cw_X7_303 ⟨Nat.le_of_ble_eq_true rfl, Nat.le_of_ble_eq_true rfl⟩ rfl hl.1 rfl (Nat.le_of_ble_eq_true rfl) ⟨Nat.le_of_ble_eq_true rfl, Nat.le_of_ble_eq_true rfl⟩ dX7_restore_17 (fun h5 H locs hH hw => ?_)
    refine lv_aload_n hx hb dX7_restore_20 rfl (lv_at hl 0 rfl) ?_
    refine lv_iconst (v := (nI 0)) hx hb dX7_restore_21 (by decide) ?_
    refine hv_put (ci := 7) (k := 30) hx hb hown hKK hH cf7 (by decide) fl_X7_310 rfl rfl rfl k1 rfl rfl dX7_restore_22 (fun H locs hH => ?_)
    refine lv_aload_n hx hb dX7_restore_25 rfl (lv_at hl 0 rfl) ?_
    refine hv_get (ci := 7) (k := 14) (v := .int ((up h5 v0 30 (nI 0)) v0 14)) hx hb hown hKK hH cf7 (by decide) fl_X7_136 rfl k1 rfl dX7_restore_26 ?_
    exact hv_iret hx hb hr hlk hH hw dX7_restore_29
  · have hw := ite_t hw c2
    refine lv_aload_n hx hb dX7_restore_7 rfl (lv_at hl 0 rfl) ?_
    refine lv_bipush (v := (-3)) hx hb dX7_restore_8 (by decide) ?_
    refine hv_cVI (rm := rm_X7_no) (As := [.int (-3)]) (rest := []) (k := 1) (ci := 7) hx hb hml hown hKK hH cf7 k1 (m_X7_no v0 (-3) _ _ hw) cw_X7_170 ⟨Nat.le_of_ble_eq_true rfl, Nat.le_of_ble_eq_true rfl⟩ rfl hl.1 rfl (Nat.le_of_ble_eq_true rfl) ⟨Nat.le_of_ble_eq_true rfl, Nat.le_of_ble_eq_true rfl⟩ dX7_restore_10 (fun r4 h3 H locs hH hw => ?_)
    exact hv_iret hx hb hr hlk hH hw dX7_restore_13
abbrev rm_X7_head : Room := { frames := 2, cells := 0, slots := 0, locals := 45 }
set_option maxHeartbeats 4000000 in
set_option maxRecDepth 100000 in
theorem m_X7_head {l : Launch} {G : Gl} {B sz : Nat} {S : St} (v0 : Nat) (v1 : Int32) (v2 : Int32) (h : Hp) (Q : Int32 → Hp → Prop) (hw : w_X7_head S v0 v1 v2 h Q) : MI l G B sz S yX7_head cX7_head 3 .int rm_X7_head [.ref v0, .int v1, .int v2] h Q := by
  refine met_of rfl rfl ?_
  intro p e s m args below meth c hMB H ls hH hl
  obtain ⟨hx, hb, hml, hown, hKK, hr, hlk⟩ := hMB
  replace hl : lv_has ls 3 [(0, .ref v0), (1, .int v1), (2, .int v2)] := hl
  unfold w_X7_head at hw
  show W p l e rm_X7_head s m args below meth c H [] 0 0 (QI G B S sz below args s Q) (F0 m 0 ls [])
  generalize ([] : List Loc) = locs at hH ⊢
  refine lv_aload_n hx hb dX7_head_0 rfl (lv_at hl 0 rfl) ?_
  refine lv_iload_n hx hb dX7_head_1 rfl (lv_at hl 1 rfl) ?_
  obtain ⟨k1, hw⟩ := hw
  refine hv_cVI (rm := rm_X7_isHead) (As := [.int v1]) (rest := []) (k := 1) (ci := 7) hx hb hml hown hKK hH cf7 k1 (m_X7_isHead v0 v1 _ _ hw) cw_X7_89 ⟨Nat.le_of_ble_eq_true rfl, Nat.le_of_ble_eq_true rfl⟩ rfl hl.1 rfl (Nat.le_of_ble_eq_true rfl) ⟨Nat.le_of_ble_eq_true rfl, Nat.le_of_ble_eq_true rfl⟩ dX7_head_2 (fun r3 h2 H locs hH hw => ?_)
  refine lv_if_ne (tgt := 14) hx hb dX7_head_5 (by decide) (fun c4 => ?_) (fun c4 => ?_)
  · have hw := ite_f hw c4
    refine lv_iload_n hx hb dX7_head_14 rfl (lv_at hl 2 rfl) ?_
    by_cases c7 : v2 = (nI 0)
    · have hw := ite_t hw c7
      refine lv_tableIn (tgt := 76) hx hb dX7_head_15 (by rw [c7]; decide) (by rw [c7]; decide) (by rw [c7]; rfl) (by decide) ?_
      refine lv_aload_n hx hb dX7_head_76 rfl (lv_at hl 0 rfl) ?_
      refine hv_get (ci := 7) (k := 4) (v := .ref (S.2 v0 4)) hx hb hown hKK hH cf7 (by decide) fl_X7_22 rfl k1 rfl dX7_head_77 ?_
      refine lv_iload_n hx hb dX7_head_80 rfl (lv_at hl 1 rfl) ?_
      obtain ⟨k8, hw⟩ := hw
      refine hv_iald hx hb hKK hH k8 dX7_head_81 ?_
      exact hv_iret hx hb hr hlk hH hw dX7_head_82
    have hw := ite_f hw c7
    by_cases c9 : v2 = (nI 1)
    · have hw := ite_t hw c9
      refine lv_tableIn (tgt := 83) hx hb dX7_head_15 (by rw [c9]; decide) (by rw [c9]; decide) (by rw [c9]; rfl) (by decide) ?_
      refine lv_aload_n hx hb dX7_head_83 rfl (lv_at hl 0 rfl) ?_
      refine hv_get (ci := 7) (k := 5) (v := .ref (S.2 v0 5)) hx hb hown hKK hH cf7 (by decide) fl_X7_25 rfl k1 rfl dX7_head_84 ?_
      refine lv_iload_n hx hb dX7_head_87 rfl (lv_at hl 1 rfl) ?_
      obtain ⟨k10, hw⟩ := hw
      refine hv_iald hx hb hKK hH k10 dX7_head_88 ?_
      exact hv_iret hx hb hr hlk hH hw dX7_head_89
    have hw := ite_f hw c9
    by_cases c11 : v2 = (nI 2)
    · have hw := ite_t hw c11
      refine lv_tableIn (tgt := 90) hx hb dX7_head_15 (by rw [c11]; decide) (by rw [c11]; decide) (by rw [c11]; rfl) (by decide) ?_
      refine lv_aload_n hx hb dX7_head_90 rfl (lv_at hl 0 rfl) ?_
      refine hv_get (ci := 7) (k := 6) (v := .ref (S.2 v0 6)) hx hb hown hKK hH cf7 (by decide) fl_X7_28 rfl k1 rfl dX7_head_91 ?_
      refine lv_iload_n hx hb dX7_head_94 rfl (lv_at hl 1 rfl) ?_
      obtain ⟨k12, hw⟩ := hw
      refine hv_iald hx hb hKK hH k12 dX7_head_95 ?_
      exact hv_iret hx hb hr hlk hH hw dX7_head_96
    have hw := ite_f hw c11
    by_cases c13 : v2 = (nI 3)
    · have hw := ite_t hw c13
      refine lv_tableIn (tgt := 97) hx hb dX7_head_15 (by rw [c13]; decide) (by rw [c13]; decide) (by rw [c13]; rfl) (by decide) ?_
      refine lv_aload_n hx hb dX7_head_97 rfl (lv_at hl 0 rfl) ?_
      refine hv_get (ci := 7) (k := 7) (v := .ref (S.2 v0 7)) hx hb hown hKK hH cf7 (by decide) fl_X7_31 rfl k1 rfl dX7_head_98 ?_
      refine lv_iload_n hx hb dX7_head_101 rfl (lv_at hl 1 rfl) ?_
      obtain ⟨k14, hw⟩ := hw
      refine hv_iald hx hb hKK hH k14 dX7_head_102 ?_
      exact hv_iret hx hb hr hlk hH hw dX7_head_103
    have hw := ite_f hw c13
    by_cases c15 : v2 = (nI 4)
    · have hw := ite_t hw c15
      refine lv_tableIn (tgt := 104) hx hb dX7_head_15 (by rw [c15]; decide) (by rw [c15]; decide) (by rw [c15]; rfl) (by decide) ?_
      refine lv_aload_n hx hb dX7_head_104 rfl (lv_at hl 0 rfl) ?_
      refine hv_get (ci := 7) (k := 8) (v := .ref (S.2 v0 8)) hx hb hown hKK hH cf7 (by decide) fl_X7_34 rfl k1 rfl dX7_head_105 ?_
      refine lv_iload_n hx hb dX7_head_108 rfl (lv_at hl 1 rfl) ?_
      obtain ⟨k16, hw⟩ := hw
      refine hv_iald hx hb hKK hH k16 dX7_head_109 ?_
      exact hv_iret hx hb hr hlk hH hw dX7_head_110
    have hw := ite_f hw c15
    by_cases c17 : v2 = (nI 5)
    · have hw := ite_t hw c17
      refine lv_tableIn (tgt := 111) hx hb dX7_head_15 (by rw [c17]; decide) (by rw [c17]; decide) (by rw [c17]; rfl) (by decide) ?_
      refine lv_aload_n hx hb dX7_head_111 rfl (lv_at hl 0 rfl) ?_
      refine hv_get (ci := 7) (k := 9) (v := .ref (S.2 v0 9)) hx hb hown hKK hH cf7 (by decide) fl_X7_37 rfl k1 rfl dX7_head_112 ?_
      refine lv_iload_n hx hb dX7_head_115 rfl (lv_at hl 1 rfl) ?_
      obtain ⟨k18, hw⟩ := hw
      refine hv_iald hx hb hKK hH k18 dX7_head_116 ?_
      exact hv_iret hx hb hr hlk hH hw dX7_head_117
    have hw := ite_f hw c17
    by_cases c19 : v2 = (nI 6)
    · have hw := ite_t hw c19
      refine lv_tableIn (tgt := 118) hx hb dX7_head_15 (by rw [c19]; decide) (by rw [c19]; decide) (by rw [c19]; rfl) (by decide) ?_
      refine lv_aload_n hx hb dX7_head_118 rfl (lv_at hl 0 rfl) ?_
      refine hv_get (ci := 7) (k := 10) (v := .ref (S.2 v0 10)) hx hb hown hKK hH cf7 (by decide) fl_X7_40 rfl k1 rfl dX7_head_119 ?_
      refine lv_iload_n hx hb dX7_head_122 rfl (lv_at hl 1 rfl) ?_
      obtain ⟨k20, hw⟩ := hw
      refine hv_iald hx hb hKK hH k20 dX7_head_123 ?_
      exact hv_iret hx hb hr hlk hH hw dX7_head_124
    have hw := ite_f hw c19
    by_cases c21 : v2 = (nI 7)
    · have hw := ite_t hw c21
      refine lv_tableIn (tgt := 125) hx hb dX7_head_15 (by rw [c21]; decide) (by rw [c21]; decide) (by rw [c21]; rfl) (by decide) ?_
      refine lv_aload_n hx hb dX7_head_125 rfl (lv_at hl 0 rfl) ?_
      refine hv_get (ci := 7) (k := 11) (v := .ref (S.2 v0 11)) hx hb hown hKK hH cf7 (by decide) fl_X7_43 rfl k1 rfl dX7_head_126 ?_
      refine lv_iload_n hx hb dX7_head_129 rfl (lv_at hl 1 rfl) ?_
      obtain ⟨k22, hw⟩ := hw
      refine hv_iald hx hb hKK hH k22 dX7_head_130 ?_
      exact hv_iret hx hb hr hlk hH hw dX7_head_131
    have hw := ite_f hw c21
    by_cases c23 : v2 = (nI 8)
    · have hw := ite_t hw c23
      refine lv_tableIn (tgt := 132) hx hb dX7_head_15 (by rw [c23]; decide) (by rw [c23]; decide) (by rw [c23]; rfl) (by decide) ?_
      refine lv_aload_n hx hb dX7_head_132 rfl (lv_at hl 0 rfl) ?_
      refine lv_iload_n hx hb dX7_head_133 rfl (lv_at hl 1 rfl) ?_
      refine hv_cVI (rm := rm_X7_steps) (As := [.int v1]) (rest := []) (k := 1) (ci := 7) hx hb hml hown hKK hH cf7 k1 (m_X7_steps v0 v1 _ _ hw) cw_X7_142 ⟨Nat.le_of_ble_eq_true rfl, Nat.le_of_ble_eq_true rfl⟩ rfl hl.1 rfl (Nat.le_of_ble_eq_true rfl) ⟨Nat.le_of_ble_eq_true rfl, Nat.le_of_ble_eq_true rfl⟩ dX7_head_134 (fun r25 h24 H locs hH hw => ?_)
      exact hv_iret hx hb hr hlk hH hw dX7_head_137
    have hw := ite_f hw c23
    by_cases c26 : v2 = (nI 9)
    · have hw := ite_t hw c26
      refine lv_tableIn (tgt := 138) hx hb dX7_head_15 (by rw [c26]; decide) (by rw [c26]; decide) (by rw [c26]; rfl) (by decide) ?_
      refine lv_aload_n hx hb dX7_head_138 rfl (lv_at hl 0 rfl) ?_
      refine lv_iload_n hx hb dX7_head_139 rfl (lv_at hl 1 rfl) ?_
      refine hv_cVI (rm := rm_X7_weight) (As := [.int v1]) (rest := []) (k := 1) (ci := 7) hx hb hml hown hKK hH cf7 k1 (m_X7_weight v0 v1 _ _ hw) cw_X7_107 ⟨Nat.le_of_ble_eq_true rfl, Nat.le_of_ble_eq_true rfl⟩ rfl hl.1 rfl (Nat.le_of_ble_eq_true rfl) ⟨Nat.le_of_ble_eq_true rfl, Nat.le_of_ble_eq_true rfl⟩ dX7_head_140 (fun r28 h27 H locs hH hw => ?_)
      exact hv_iret hx hb hr hlk hH hw dX7_head_143
    have hw := ite_f hw c26
    by_cases c29 : v2 = (nI 10)
    · have hw := ite_t hw c29
      refine lv_tableIn (tgt := 144) hx hb dX7_head_15 (by rw [c29]; decide) (by rw [c29]; decide) (by rw [c29]; rfl) (by decide) ?_
      refine lv_aload_n hx hb dX7_head_144 rfl (lv_at hl 0 rfl) ?_
      refine lv_iload_n hx hb dX7_head_145 rfl (lv_at hl 1 rfl) ?_
      refine lv_aload_n hx hb dX7_head_146 rfl (lv_at hl 0 rfl) ?_
      refine hv_get (ci := 7) (k := 14) (v := .int (h2 v0 14)) hx hb hown hKK hH cf7 (by decide) fl_X7_136 rfl k1 rfl dX7_head_147 ?_
      refine lv_iconst (v := (nI 1)) hx hb dX7_head_150 (by decide) ?_
      refine lv_iadd hx hb dX7_head_151 ?_
      refine hv_cVI (rm := rm_X7_veers) (As := [.int v1, .int ((h2 v0 14) + (nI 1))]) (rest := []) (k := 2) (ci := 7) hx hb hml hown hKK hH cf7 k1 (m_X7_veers v0 v1 ((h2 v0 14) + (nI 1)) _ _ hw) cw_X7_139 ⟨Nat.le_of_ble_eq_true rfl, Nat.le_of_ble_eq_true rfl⟩ rfl hl.1 rfl (Nat.le_of_ble_eq_true rfl) ⟨Nat.le_of_ble_eq_true rfl, Nat.le_of_ble_eq_true rfl⟩ dX7_head_152 (fun r31 h30 H locs hH hw => ?_)
      exact hv_iret hx hb hr hlk hH hw dX7_head_155
    have hw := ite_f hw c29
    by_cases c32 : v2 = (nI 11)
    · have hw := ite_t hw c32
      refine lv_tableIn (tgt := 156) hx hb dX7_head_15 (by rw [c32]; decide) (by rw [c32]; decide) (by rw [c32]; rfl) (by decide) ?_
      refine lv_aload_n hx hb dX7_head_156 rfl (lv_at hl 0 rfl) ?_
      refine lv_iload_n hx hb dX7_head_157 rfl (lv_at hl 1 rfl) ?_
      refine hv_cVI (rm := rm_X7_enough) (As := [.int v1]) (rest := []) (k := 1) (ci := 7) hx hb hml hown hKK hH cf7 k1 (m_X7_enough v0 v1 _ _ hw) cw_X7_154 ⟨Nat.le_of_ble_eq_true rfl, Nat.le_of_ble_eq_true rfl⟩ rfl hl.1 rfl (Nat.le_of_ble_eq_true rfl) ⟨Nat.le_of_ble_eq_true rfl, Nat.le_of_ble_eq_true rfl⟩ dX7_head_158 (fun r34 h33 H locs hH hw => ?_)
      exact hv_iret hx hb hr hlk hH hw dX7_head_161
    have hw := ite_f hw c32
    refine lv_tableOut (tgt := 162) hx hb dX7_head_15 (by have := ne_toInt (k := 0) (by decide) c7; have := ne_toInt (k := 1) (by decide) c9; have := ne_toInt (k := 2) (by decide) c11; have := ne_toInt (k := 3) (by decide) c13; have := ne_toInt (k := 4) (by decide) c15; have := ne_toInt (k := 5) (by decide) c17; have := ne_toInt (k := 6) (by decide) c19; have := ne_toInt (k := 7) (by decide) c21; have := ne_toInt (k := 8) (by decide) c23; have := ne_toInt (k := 9) (by decide) c26; have := ne_toInt (k := 10) (by decide) c29; have := ne_toInt (k := 11) (by decide) c32; omega) (by decide) ?_
    refine lv_aload_n hx hb dX7_head_162 rfl (lv_at hl 0 rfl) ?_
    refine lv_bipush (v := (-2)) hx hb dX7_head_163 (by decide) ?_
    refine hv_cVI (rm := rm_X7_no) (As := [.int (-2)]) (rest := []) (k := 1) (ci := 7) hx hb hml hown hKK hH cf7 k1 (m_X7_no v0 (-2) _ _ hw) cw_X7_170 ⟨Nat.le_of_ble_eq_true rfl, Nat.le_of_ble_eq_true rfl⟩ rfl hl.1 rfl (Nat.le_of_ble_eq_true rfl) ⟨Nat.le_of_ble_eq_true rfl, Nat.le_of_ble_eq_true rfl⟩ dX7_head_165 (fun r36 h35 H locs hH hw => ?_)
    exact hv_iret hx hb hr hlk hH hw dX7_head_168
  · have hw := ite_t hw c4
    refine lv_aload_n hx hb dX7_head_8 rfl (lv_at hl 0 rfl) ?_
    refine lv_iconst (v := (-1)) hx hb dX7_head_9 (by decide) ?_
    refine hv_cVI (rm := rm_X7_no) (As := [.int (-1)]) (rest := []) (k := 1) (ci := 7) hx hb hml hown hKK hH cf7 k1 (m_X7_no v0 (-1) _ _ hw) cw_X7_170 ⟨Nat.le_of_ble_eq_true rfl, Nat.le_of_ble_eq_true rfl⟩ rfl hl.1 rfl (Nat.le_of_ble_eq_true rfl) ⟨Nat.le_of_ble_eq_true rfl, Nat.le_of_ble_eq_true rfl⟩ dX7_head_10 (fun r6 h5 H locs hH hw => ?_)
    exact hv_iret hx hb hr hlk hH hw dX7_head_13
abbrev rm_X7_headsOn : Room := { frames := 0, cells := 0, slots := 0, locals := 0 }
set_option maxHeartbeats 4000000 in
set_option maxRecDepth 100000 in
theorem m_X7_headsOn {l : Launch} {G : Gl} {B sz : Nat} {S : St} (v0 : Nat) (v1 : Int32) (h : Hp) (Q : Int32 → Hp → Prop) (hw : w_X7_headsOn S v0 v1 h Q) : MI l G B sz S yX7_headsOn cX7_headsOn 4 .int rm_X7_headsOn [.ref v0, .int v1] h Q := by
  refine met_of rfl rfl ?_
  intro p e s m args below meth c hMB H ls hH hl
  obtain ⟨hx, hb, hml, hown, hKK, hr, hlk⟩ := hMB
  replace hl : lv_has ls 4 [(0, .ref v0), (1, .int v1)] := hl
  have c4 : ∀  (v0 : Nat) (v1 : Int32) (v2 : Int32) (v3 : Int32) (h : Hp) (H : Heap) (locs : List Loc) (ls : Array Slot), HH G B S h sz s H locs → lv_has ls 4 [(0, .ref v0), (1, .int v1), (2, .int v2), (3, .int v3)] → w_X7_headsOn_c4 S v0 v1 v2 v3 h Q → W p l e rm_X7_headsOn s m args below meth c H locs 0 0 (QI G B S sz below args s Q) (F0 m 4 ls []) := by
    intro  v0 v1 v2 v3 h H locs ls hH hl hw
    unfold w_X7_headsOn_c4 at hw
    obtain ⟨P4, hP4⟩ : ∃ P : Int32 → Int32 → Hp → Prop, ∀ (v2 : Int32) (v3 : Int32) (h : Hp), P v2 v3 h ↔ (∀ (H : Heap) (locs : List Loc) (ls : Array Slot), HH G B S h sz s H locs → lv_has ls 4 [(0, .ref v0), (1, .int v1), (2, .int v2), (3, .int v3)] → W p l e rm_X7_headsOn s m args below meth c H locs 0 0 (QI G B S sz below args s Q) (F0 m 4 ls [])) := ⟨_, fun v2 v3 h => Iff.rfl⟩
    refine (hP4 v2 v3 h).1 (hw P4 (fun v2 v3 h hw => (hP4 v2 v3 h).2 (fun H locs ls hH hl => ?_))) H locs ls hH hl
    have hK4 : ∀ (v2 : Int32) (v3 : Int32) (h : Hp) (H : Heap) (locs : List Loc) (ls : Array Slot), HH G B S h sz s H locs → lv_has ls 4 [(0, .ref v0), (1, .int v1), (2, .int v2), (3, .int v3)] → P4 v2 v3 h → W p l e rm_X7_headsOn s m args below meth c H locs 0 0 (QI G B S sz below args s Q) (F0 m 4 ls []) := fun v2 v3 h H locs ls hH hl hk => (hP4 v2 v3 h).1 hk H locs ls hH hl
    refine lv_iload_n hx hb dX7_headsOn_4 rfl (lv_at hl 3 rfl) ?_
    refine lv_aload_n hx hb dX7_headsOn_5 rfl (lv_at hl 0 rfl) ?_
    obtain ⟨k1, hw⟩ := hw
    refine hv_get (ci := 7) (k := 13) (v := .int (h v0 13)) hx hb hown hKK hH cf7 (by decide) fl_X7_79 rfl k1 rfl dX7_headsOn_6 ?_
    refine lv_icmp_ge (tgt := 38) hx hb dX7_headsOn_9 (by decide) (fun c2 => ?_) (fun c2 => ?_)
    · have hw := ite_t hw c2
      refine lv_iload_n hx hb dX7_headsOn_38 rfl (lv_at hl 2 rfl) ?_
      exact hv_iret hx hb hr hlk hH hw dX7_headsOn_39
    · have hw := ite_f hw c2
      refine lv_iload_n hx hb dX7_headsOn_12 rfl (lv_at hl 2 rfl) ?_
      refine lv_aload_n hx hb dX7_headsOn_13 rfl (lv_at hl 0 rfl) ?_
      refine hv_get (ci := 7) (k := 6) (v := .ref (S.2 v0 6)) hx hb hown hKK hH cf7 (by decide) fl_X7_28 rfl k1 rfl dX7_headsOn_14 ?_
      refine lv_iload_n hx hb dX7_headsOn_17 rfl (lv_at hl 3 rfl) ?_
      obtain ⟨k3, hw⟩ := hw
      refine hv_iald hx hb hKK hH k3 dX7_headsOn_18 ?_
      refine lv_iload_n hx hb dX7_headsOn_19 rfl (lv_at hl 1 rfl) ?_
      refine lv_icmp_ne (tgt := 29) hx hb dX7_headsOn_20 (by decide) (fun c4 => ?_) (fun c4 => ?_)
      · have hw := ite_f hw c4
        refine lv_iconst (v := (nI 0)) hx hb dX7_headsOn_29 (by decide) ?_
        refine lv_ior hx hb dX7_headsOn_30 ?_
        refine lv_istore_n (lv' := [(2, .int (v2 ||| (nI 0))), (0, .ref v0), (1, .int v1), (3, .int v3)]) hx hb dX7_headsOn_31 rfl hl (by decide) rfl (fun ls hl => ?_)
        refine lv_iinc (v := v3 + (nI 1)) (lv' := [(3, .int (v3 + (nI 1))), (2, .int (v2 ||| (nI 0))), (0, .ref v0), (1, .int v1)]) hx hb dX7_headsOn_32 hl (k := 3) rfl rfl (by decide) rfl (fun ls hl => ?_)
        refine lv_goto (tgt := 4) hx hb dX7_headsOn_35 (by decide) ?_
        exact hK4 _ _ _ H locs ls hH (lv_sub hl [2, 3, 1, 0] rfl) hw
      · have hw := ite_t hw c4
        refine lv_iconst (v := (nI 1)) hx hb dX7_headsOn_23 (by decide) ?_
        refine lv_iload_n hx hb dX7_headsOn_24 rfl (lv_at hl 3 rfl) ?_
        refine lv_ishl hx hb dX7_headsOn_25 ?_
        refine lv_goto (tgt := 30) hx hb dX7_headsOn_26 (by decide) ?_
        refine lv_ior hx hb dX7_headsOn_30 ?_
        refine lv_istore_n (lv' := [(2, .int (v2 ||| (ishl (nI 1) v3))), (0, .ref v0), (1, .int v1), (3, .int v3)]) hx hb dX7_headsOn_31 rfl hl (by decide) rfl (fun ls hl => ?_)
        refine lv_iinc (v := v3 + (nI 1)) (lv' := [(3, .int (v3 + (nI 1))), (2, .int (v2 ||| (ishl (nI 1) v3))), (0, .ref v0), (1, .int v1)]) hx hb dX7_headsOn_32 hl (k := 3) rfl rfl (by decide) rfl (fun ls hl => ?_)
        refine lv_goto (tgt := 4) hx hb dX7_headsOn_35 (by decide) ?_
        exact hK4 _ _ _ H locs ls hH (lv_sub hl [2, 3, 1, 0] rfl) hw
  unfold w_X7_headsOn at hw
  show W p l e rm_X7_headsOn s m args below meth c H [] 0 0 (QI G B S sz below args s Q) (F0 m 0 ls [])
  generalize ([] : List Loc) = locs at hH ⊢
  refine lv_iconst (v := (nI 0)) hx hb dX7_headsOn_0 (by decide) ?_
  refine lv_istore_n (lv' := [(2, .int (nI 0)), (0, .ref v0), (1, .int v1)]) hx hb dX7_headsOn_1 rfl hl (by decide) rfl (fun ls hl => ?_)
  refine lv_iconst (v := (nI 0)) hx hb dX7_headsOn_2 (by decide) ?_
  refine lv_istore_n (lv' := [(3, .int (nI 0)), (2, .int (nI 0)), (0, .ref v0), (1, .int v1)]) hx hb dX7_headsOn_3 rfl hl (by decide) rfl (fun ls hl => ?_)
  exact c4 _ _ _ _ _ H locs ls hH (lv_sub hl [2, 3, 1, 0] rfl) hw
abbrev rm_X7_field : Room := { frames := 2, cells := 0, slots := 0, locals := 42 }
set_option maxHeartbeats 4000000 in
set_option maxRecDepth 100000 in
theorem m_X7_field {l : Launch} {G : Gl} {B sz : Nat} {S : St} (v0 : Nat) (v1 : Int32) (v2 : Int32) (h : Hp) (Q : Int32 → Hp → Prop) (hw : w_X7_field S v0 v1 v2 h Q) : MI l G B sz S yX7_field cX7_field 3 .int rm_X7_field [.ref v0, .int v1, .int v2] h Q := by
  refine met_of rfl rfl ?_
  intro p e s m args below meth c hMB H ls hH hl
  obtain ⟨hx, hb, hml, hown, hKK, hr, hlk⟩ := hMB
  replace hl : lv_has ls 3 [(0, .ref v0), (1, .int v1), (2, .int v2)] := hl
  unfold w_X7_field at hw
  show W p l e rm_X7_field s m args below meth c H [] 0 0 (QI G B S sz below args s Q) (F0 m 0 ls [])
  generalize ([] : List Loc) = locs at hH ⊢
  refine lv_iload_n hx hb dX7_field_0 rfl (lv_at hl 1 rfl) ?_
  refine hv_cSI (rm := rm_X7_isField) (As := [.int v1]) (rest := []) (k := 1) hx hb hml hown hKK hH (m_X7_isField v1 _ _ hw) cw_X7_244 ⟨Nat.le_of_ble_eq_true rfl, Nat.le_of_ble_eq_true rfl⟩ rfl hl.1 rfl (Nat.le_of_ble_eq_true rfl) ⟨Nat.le_of_ble_eq_true rfl, Nat.le_of_ble_eq_true rfl⟩ dX7_field_1 (fun r2 h1 H locs hH hw => ?_)
  refine lv_if_ne (tgt := 13) hx hb dX7_field_4 (by decide) (fun c3 => ?_) (fun c3 => ?_)
  · have hw := ite_f hw c3
    refine lv_iload_n hx hb dX7_field_13 rfl (lv_at hl 2 rfl) ?_
    by_cases c7 : v2 = (nI 0)
    · have hw := ite_t hw c7
      refine lv_tableIn (tgt := 44) hx hb dX7_field_14 (by rw [c7]; decide) (by rw [c7]; decide) (by rw [c7]; rfl) (by decide) ?_
      refine lv_aload_n hx hb dX7_field_44 rfl (lv_at hl 0 rfl) ?_
      obtain ⟨k8, hw⟩ := hw
      refine hv_get (ci := 7) (k := 1) (v := .ref (S.2 v0 1)) hx hb hown hKK hH cf7 (by decide) fl_X7_13 rfl k8 rfl dX7_field_45 ?_
      refine lv_iload_n hx hb dX7_field_48 rfl (lv_at hl 1 rfl) ?_
      obtain ⟨k9, hw⟩ := hw
      refine hv_iald hx hb hKK hH k9 dX7_field_49 ?_
      exact hv_iret hx hb hr hlk hH hw dX7_field_50
    have hw := ite_f hw c7
    by_cases c10 : v2 = (nI 1)
    · have hw := ite_t hw c10
      refine lv_tableIn (tgt := 51) hx hb dX7_field_14 (by rw [c10]; decide) (by rw [c10]; decide) (by rw [c10]; rfl) (by decide) ?_
      refine lv_aload_n hx hb dX7_field_51 rfl (lv_at hl 0 rfl) ?_
      obtain ⟨k11, hw⟩ := hw
      refine hv_get (ci := 7) (k := 2) (v := .ref (S.2 v0 2)) hx hb hown hKK hH cf7 (by decide) fl_X7_16 rfl k11 rfl dX7_field_52 ?_
      refine lv_iload_n hx hb dX7_field_55 rfl (lv_at hl 1 rfl) ?_
      obtain ⟨k12, hw⟩ := hw
      refine hv_iald hx hb hKK hH k12 dX7_field_56 ?_
      exact hv_iret hx hb hr hlk hH hw dX7_field_57
    have hw := ite_f hw c10
    by_cases c13 : v2 = (nI 2)
    · have hw := ite_t hw c13
      refine lv_tableIn (tgt := 58) hx hb dX7_field_14 (by rw [c13]; decide) (by rw [c13]; decide) (by rw [c13]; rfl) (by decide) ?_
      refine lv_aload_n hx hb dX7_field_58 rfl (lv_at hl 0 rfl) ?_
      obtain ⟨k14, hw⟩ := hw
      refine hv_get (ci := 7) (k := 3) (v := .ref (S.2 v0 3)) hx hb hown hKK hH cf7 (by decide) fl_X7_19 rfl k14 rfl dX7_field_59 ?_
      refine lv_iload_n hx hb dX7_field_62 rfl (lv_at hl 1 rfl) ?_
      obtain ⟨k15, hw⟩ := hw
      refine hv_iald hx hb hKK hH k15 dX7_field_63 ?_
      exact hv_iret hx hb hr hlk hH hw dX7_field_64
    have hw := ite_f hw c13
    by_cases c16 : v2 = (nI 3)
    · have hw := ite_t hw c16
      refine lv_tableIn (tgt := 65) hx hb dX7_field_14 (by rw [c16]; decide) (by rw [c16]; decide) (by rw [c16]; rfl) (by decide) ?_
      refine lv_aload_n hx hb dX7_field_65 rfl (lv_at hl 0 rfl) ?_
      refine lv_iload_n hx hb dX7_field_66 rfl (lv_at hl 1 rfl) ?_
      obtain ⟨k17, hw⟩ := hw
      refine hv_cVI (rm := rm_X7_headsOn) (As := [.int v1]) (rest := []) (k := 1) (ci := 7) hx hb hml hown hKK hH cf7 k17 (m_X7_headsOn v0 v1 _ _ hw) cw_X7_333 ⟨Nat.le_of_ble_eq_true rfl, Nat.le_of_ble_eq_true rfl⟩ rfl hl.1 rfl (Nat.le_of_ble_eq_true rfl) ⟨Nat.le_of_ble_eq_true rfl, Nat.le_of_ble_eq_true rfl⟩ dX7_field_67 (fun r19 h18 H locs hH hw => ?_)
      exact hv_iret hx hb hr hlk hH hw dX7_field_70
    have hw := ite_f hw c16
    refine lv_tableOut (tgt := 71) hx hb dX7_field_14 (by have := ne_toInt (k := 0) (by decide) c7; have := ne_toInt (k := 1) (by decide) c10; have := ne_toInt (k := 2) (by decide) c13; have := ne_toInt (k := 3) (by decide) c16; omega) (by decide) ?_
    refine lv_aload_n hx hb dX7_field_71 rfl (lv_at hl 0 rfl) ?_
    refine lv_bipush (v := (-2)) hx hb dX7_field_72 (by decide) ?_
    obtain ⟨k20, hw⟩ := hw
    refine hv_cVI (rm := rm_X7_no) (As := [.int (-2)]) (rest := []) (k := 1) (ci := 7) hx hb hml hown hKK hH cf7 k20 (m_X7_no v0 (-2) _ _ hw) cw_X7_170 ⟨Nat.le_of_ble_eq_true rfl, Nat.le_of_ble_eq_true rfl⟩ rfl hl.1 rfl (Nat.le_of_ble_eq_true rfl) ⟨Nat.le_of_ble_eq_true rfl, Nat.le_of_ble_eq_true rfl⟩ dX7_field_74 (fun r22 h21 H locs hH hw => ?_)
    exact hv_iret hx hb hr hlk hH hw dX7_field_77
  · have hw := ite_t hw c3
    refine lv_aload_n hx hb dX7_field_7 rfl (lv_at hl 0 rfl) ?_
    refine lv_iconst (v := (-1)) hx hb dX7_field_8 (by decide) ?_
    obtain ⟨k4, hw⟩ := hw
    refine hv_cVI (rm := rm_X7_no) (As := [.int (-1)]) (rest := []) (k := 1) (ci := 7) hx hb hml hown hKK hH cf7 k4 (m_X7_no v0 (-1) _ _ hw) cw_X7_170 ⟨Nat.le_of_ble_eq_true rfl, Nat.le_of_ble_eq_true rfl⟩ rfl hl.1 rfl (Nat.le_of_ble_eq_true rfl) ⟨Nat.le_of_ble_eq_true rfl, Nat.le_of_ble_eq_true rfl⟩ dX7_field_9 (fun r6 h5 H locs hH hw => ?_)
    exact hv_iret hx hb hr hlk hH hw dX7_field_12
abbrev rm_X7_comes : Room := { frames := 2, cells := 0, slots := 0, locals := 42 }
set_option maxHeartbeats 4000000 in
set_option maxRecDepth 100000 in
theorem m_X7_comes {l : Launch} {G : Gl} {B sz : Nat} {S : St} (v0 : Nat) (v1 : Int32) (v2 : Int32) (v3 : Int32) (v4 : Int32) (h : Hp) (Q : Int32 → Hp → Prop) (hw : w_X7_comes S v0 v1 v2 v3 v4 h Q) : MI l G B sz S yX7_comes cX7_comes 6 .int rm_X7_comes [.ref v0, .int v1, .int v2, .int v3, .int v4] h Q := by
  refine met_of rfl rfl ?_
  intro p e s m args below meth c hMB H ls hH hl
  obtain ⟨hx, hb, hml, hown, hKK, hr, hlk⟩ := hMB
  replace hl : lv_has ls 6 [(0, .ref v0), (1, .int v1), (2, .int v2), (3, .int v3), (4, .int v4)] := hl
  have c67 : ∀  (v0 : Nat) (v1 : Int32) (v2 : Int32) (v3 : Int32) (v4 : Int32) (s0 : Int32) (h : Hp) (H : Heap) (locs : List Loc) (ls : Array Slot), HH G B S h sz s H locs → lv_has ls 6 [(0, .ref v0), (1, .int v1), (2, .int v2), (3, .int v3), (4, .int v4)] → w_X7_comes_c67 S v0 v1 v2 v3 v4 s0 h Q → W p l e rm_X7_comes s m args below meth c H locs 0 0 (QI G B S sz below args s Q) (F0 m 67 ls [.int s0]) := by
    intro  v0 v1 v2 v3 v4 s0 h H locs ls hH hl hw
    unfold w_X7_comes_c67 at hw
    refine lv_istore (lv' := [(5, .int s0), (0, .ref v0), (1, .int v1), (2, .int v2), (3, .int v3), (4, .int v4)]) hx hb dX7_comes_67 hl (by decide) rfl (fun ls hl => ?_)
    refine lv_iload hx hb dX7_comes_69 (lv_at hl 0 rfl) ?_
    refine lv_if_eq (tgt := 81) hx hb dX7_comes_71 (by decide) (fun c1 => ?_) (fun c1 => ?_)
    · have hw := ite_t hw c1
      refine lv_aload_n hx hb dX7_comes_81 rfl (lv_at hl 1 rfl) ?_
      refine lv_iload_n hx hb dX7_comes_82 rfl (lv_at hl 2 rfl) ?_
      refine lv_iload_n hx hb dX7_comes_83 rfl (lv_at hl 3 rfl) ?_
      refine lv_iload_n hx hb dX7_comes_84 rfl (lv_at hl 4 rfl) ?_
      obtain ⟨k2, hw⟩ := hw
      refine hv_cVV (rm := rm_X7_isMore) (As := [.int v1, .int v2, .int v3]) (rest := []) (k := 3) (ci := 7) hx hb hml hown hKK hH cf7 k2 (m_X7_isMore v0 v1 v2 v3 _ _ hw) cw_X7_247 ⟨Nat.le_of_ble_eq_true rfl, Nat.le_of_ble_eq_true rfl⟩ rfl hl.1 rfl (Nat.le_of_ble_eq_true rfl) ⟨Nat.le_of_ble_eq_true rfl, Nat.le_of_ble_eq_true rfl⟩ dX7_comes_85 (fun h3 H locs hH hw => ?_)
      refine lv_aload_n hx hb dX7_comes_88 rfl (lv_at hl 1 rfl) ?_
      refine hv_get (ci := 7) (k := 12) (v := .ref (S.2 v0 12)) hx hb hown hKK hH cf7 (by decide) fl_X7_46 rfl k2 rfl dX7_comes_89 ?_
      refine lv_bipush (v := (nI 6)) hx hb dX7_comes_92 (by decide) ?_
      refine lv_aload_n hx hb dX7_comes_94 rfl (lv_at hl 1 rfl) ?_
      refine hv_get (ci := 7) (k := 13) (v := .int (h3 v0 13)) hx hb hown hKK hH cf7 (by decide) fl_X7_79 rfl k2 rfl dX7_comes_95 ?_
      refine lv_iconst (v := (nI 1)) hx hb dX7_comes_98 (by decide) ?_
      refine lv_isub hx hb dX7_comes_99 ?_
      refine lv_imul hx hb dX7_comes_100 ?_
      refine lv_iload hx hb dX7_comes_101 (lv_at hl 5 rfl) ?_
      obtain ⟨k4, hw⟩ := hw
      refine hv_iast hx hb hKK hH k4 dX7_comes_103 (fun H locs hH => ?_)
      refine lv_aload_n hx hb dX7_comes_104 rfl (lv_at hl 1 rfl) ?_
      refine hv_get (ci := 7) (k := 11) (v := .ref (S.2 v0 11)) hx hb hown hKK hH cf7 (by decide) fl_X7_43 rfl k2 rfl dX7_comes_105 ?_
      refine lv_aload_n hx hb dX7_comes_108 rfl (lv_at hl 1 rfl) ?_
      refine hv_get (ci := 7) (k := 13) (v := .int ((up h3 (S.2 v0 12) (ix ((nI 6) * ((h3 v0 13) - (nI 1)))) v4) v0 13)) hx hb hown hKK hH cf7 (by decide) fl_X7_79 rfl k2 rfl dX7_comes_109 ?_
      refine lv_iconst (v := (nI 1)) hx hb dX7_comes_112 (by decide) ?_
      refine lv_isub hx hb dX7_comes_113 ?_
      refine lv_iconst (v := (nI 1)) hx hb dX7_comes_114 (by decide) ?_
      obtain ⟨k5, hw⟩ := hw
      refine hv_iast hx hb hKK hH k5 dX7_comes_115 (fun H locs hH => ?_)
      refine lv_aload_n hx hb dX7_comes_116 rfl (lv_at hl 1 rfl) ?_
      refine lv_iconst (v := (nI 0)) hx hb dX7_comes_117 (by decide) ?_
      refine hv_put (ci := 7) (k := 30) hx hb hown hKK hH cf7 (by decide) fl_X7_310 rfl rfl rfl k2 rfl rfl dX7_comes_118 (fun H locs hH => ?_)
      refine lv_aload_n hx hb dX7_comes_121 rfl (lv_at hl 1 rfl) ?_
      refine hv_get (ci := 7) (k := 13) (v := .int ((up (up (up h3 (S.2 v0 12) (ix ((nI 6) * ((h3 v0 13) - (nI 1)))) v4) (S.2 v0 11) (ix (((up h3 (S.2 v0 12) (ix ((nI 6) * ((h3 v0 13) - (nI 1)))) v4) v0 13) - (nI 1))) (nI 1)) v0 30 (nI 0)) v0 13)) hx hb hown hKK hH cf7 (by decide) fl_X7_79 rfl k2 rfl dX7_comes_122 ?_
      refine lv_iconst (v := (nI 1)) hx hb dX7_comes_125 (by decide) ?_
      refine lv_isub hx hb dX7_comes_126 ?_
      exact hv_iret hx hb hr hlk hH hw dX7_comes_127
    · have hw := ite_f hw c1
      refine lv_aload_n hx hb dX7_comes_74 rfl (lv_at hl 1 rfl) ?_
      refine lv_iload hx hb dX7_comes_75 (lv_at hl 0 rfl) ?_
      obtain ⟨k6, hw⟩ := hw
      refine hv_cVI (rm := rm_X7_no) (As := [.int s0]) (rest := []) (k := 1) (ci := 7) hx hb hml hown hKK hH cf7 k6 (m_X7_no v0 s0 _ _ hw) cw_X7_170 ⟨Nat.le_of_ble_eq_true rfl, Nat.le_of_ble_eq_true rfl⟩ rfl hl.1 rfl (Nat.le_of_ble_eq_true rfl) ⟨Nat.le_of_ble_eq_true rfl, Nat.le_of_ble_eq_true rfl⟩ dX7_comes_77 (fun r8 h7 H locs hH hw => ?_)
      exact hv_iret hx hb hr hlk hH hw dX7_comes_80
  unfold w_X7_comes at hw
  show W p l e rm_X7_comes s m args below meth c H [] 0 0 (QI G B S sz below args s Q) (F0 m 0 ls [])
  generalize ([] : List Loc) = locs at hH ⊢
  refine lv_iload_n hx hb dX7_comes_0 rfl (lv_at hl 1 rfl) ?_
  refine lv_iconst (v := (nI 0)) hx hb dX7_comes_1 (by decide) ?_
  refine lv_bipush (v := (nI 7)) hx hb dX7_comes_2 (by decide) ?_
  refine hv_cSI (rm := rm_X7_isIn) (As := [.int v1, .int (nI 0), .int (nI 7)]) (rest := []) (k := 3) hx hb hml hown hKK hH (m_X7_isIn v1 (nI 0) (nI 7) _ _ hw) cw_X7_85 ⟨Nat.le_of_ble_eq_true rfl, Nat.le_of_ble_eq_true rfl⟩ rfl hl.1 rfl (Nat.le_of_ble_eq_true rfl) ⟨Nat.le_of_ble_eq_true rfl, Nat.le_of_ble_eq_true rfl⟩ dX7_comes_4 (fun r2 h1 H locs hH hw => ?_)
  refine lv_if_ne (tgt := 15) hx hb dX7_comes_7 (by decide) (fun c3 => ?_) (fun c3 => ?_)
  · have hw := ite_f hw c3
    refine lv_iload_n hx hb dX7_comes_15 rfl (lv_at hl 2 rfl) ?_
    refine lv_if_lt (tgt := 24) hx hb dX7_comes_16 (by decide) (fun c4 => ?_) (fun c4 => ?_)
    · have hw := ite_t hw c4
      refine lv_bipush (v := (-4)) hx hb dX7_comes_24 (by decide) ?_
      refine lv_goto (tgt := 67) hx hb dX7_comes_26 (by decide) ?_
      exact c67 _ _ _ _ _ _ _ H locs ls hH (lv_sub hl [0, 1, 2, 3, 4] rfl) hw
    · have hw := ite_f hw c4
      refine lv_iload hx hb dX7_comes_19 (lv_at hl 4 rfl) ?_
      refine lv_if_ge (tgt := 29) hx hb dX7_comes_21 (by decide) (fun c5 => ?_) (fun c5 => ?_)
      · have hw := ite_t hw c5
        refine lv_iload_n hx hb dX7_comes_29 rfl (lv_at hl 2 rfl) ?_
        refine lv_bipush (v := (nI 9)) hx hb dX7_comes_30 (by decide) ?_
        refine lv_icmp_gt (tgt := 50) hx hb dX7_comes_32 (by decide) (fun c6 => ?_) (fun c6 => ?_)
        · have hw := ite_t hw c6
          refine lv_bipush (v := (-6)) hx hb dX7_comes_50 (by decide) ?_
          refine lv_goto (tgt := 67) hx hb dX7_comes_52 (by decide) ?_
          exact c67 _ _ _ _ _ _ _ H locs ls hH (lv_sub hl [0, 1, 2, 3, 4] rfl) hw
        · have hw := ite_f hw c6
          refine lv_iload hx hb dX7_comes_35 (lv_at hl 4 rfl) ?_
          refine lv_bipush (v := (nI 25)) hx hb dX7_comes_37 (by decide) ?_
          refine lv_icmp_gt (tgt := 50) hx hb dX7_comes_39 (by decide) (fun c7 => ?_) (fun c7 => ?_)
          · have hw := ite_t hw c7
            refine lv_bipush (v := (-6)) hx hb dX7_comes_50 (by decide) ?_
            refine lv_goto (tgt := 67) hx hb dX7_comes_52 (by decide) ?_
            exact c67 _ _ _ _ _ _ _ H locs ls hH (lv_sub hl [0, 1, 2, 3, 4] rfl) hw
          · have hw := ite_f hw c7
            refine lv_aload_n hx hb dX7_comes_42 rfl (lv_at hl 0 rfl) ?_
            obtain ⟨k8, hw⟩ := hw
            refine hv_get (ci := 7) (k := 13) (v := .int (h1 v0 13)) hx hb hown hKK hH cf7 (by decide) fl_X7_79 rfl k8 rfl dX7_comes_43 ?_
            refine lv_iconst (v := (nI 5)) hx hb dX7_comes_46 (by decide) ?_
            refine lv_icmp_ne (tgt := 55) hx hb dX7_comes_47 (by decide) (fun c9 => ?_) (fun c9 => ?_)
            · have hw := ite_f hw c9
              refine lv_iload_n hx hb dX7_comes_55 rfl (lv_at hl 3 rfl) ?_
              refine hv_cSI (rm := rm_X7_isField) (As := [.int v3]) (rest := []) (k := 1) hx hb hml hown hKK hH (m_X7_isField v3 _ _ hw) cw_X7_244 ⟨Nat.le_of_ble_eq_true rfl, Nat.le_of_ble_eq_true rfl⟩ rfl hl.1 rfl (Nat.le_of_ble_eq_true rfl) ⟨Nat.le_of_ble_eq_true rfl, Nat.le_of_ble_eq_true rfl⟩ dX7_comes_56 (fun r11 h10 H locs hH hw => ?_)
              refine lv_if_ne (tgt := 66) hx hb dX7_comes_59 (by decide) (fun c12 => ?_) (fun c12 => ?_)
              · have hw := ite_f hw c12
                refine lv_iconst (v := (nI 0)) hx hb dX7_comes_66 (by decide) ?_
                exact c67 _ _ _ _ _ _ _ H locs ls hH (lv_sub hl [0, 1, 2, 3, 4] rfl) hw
              · have hw := ite_t hw c12
                refine lv_iconst (v := (-1)) hx hb dX7_comes_62 (by decide) ?_
                refine lv_goto (tgt := 67) hx hb dX7_comes_63 (by decide) ?_
                exact c67 _ _ _ _ _ _ _ H locs ls hH (lv_sub hl [0, 1, 2, 3, 4] rfl) hw
            · have hw := ite_t hw c9
              refine lv_bipush (v := (-6)) hx hb dX7_comes_50 (by decide) ?_
              refine lv_goto (tgt := 67) hx hb dX7_comes_52 (by decide) ?_
              exact c67 _ _ _ _ _ _ _ H locs ls hH (lv_sub hl [0, 1, 2, 3, 4] rfl) hw
      · have hw := ite_f hw c5
        refine lv_bipush (v := (-4)) hx hb dX7_comes_24 (by decide) ?_
        refine lv_goto (tgt := 67) hx hb dX7_comes_26 (by decide) ?_
        exact c67 _ _ _ _ _ _ _ H locs ls hH (lv_sub hl [0, 1, 2, 3, 4] rfl) hw
  · have hw := ite_t hw c3
    refine lv_bipush (v := (-2)) hx hb dX7_comes_10 (by decide) ?_
    refine lv_goto (tgt := 67) hx hb dX7_comes_12 (by decide) ?_
    exact c67 _ _ _ _ _ _ _ H locs ls hH (lv_sub hl [0, 1, 2, 3, 4] rfl) hw
abbrev rm_X7_puts : Room := { frames := 0, cells := 0, slots := 0, locals := 0 }
set_option maxHeartbeats 4000000 in
set_option maxRecDepth 100000 in
theorem m_X7_puts {l : Launch} {G : Gl} {B sz : Nat} {S : St} (v0 : Nat) (v1 : Int32) (v2 : Int32) (h : Hp) (Q : Hp → Prop) (hw : w_X7_puts S v0 v1 v2 h Q) : MV l G B sz S yX7_puts cX7_puts 3 rm_X7_puts [.ref v0, .int v1, .int v2] h Q := by
  refine met_of rfl rfl ?_
  intro p e s m args below meth c hMB H ls hH hl
  obtain ⟨hx, hb, hml, hown, hKK, hr, hlk⟩ := hMB
  replace hl : lv_has ls 3 [(0, .ref v0), (1, .int v1), (2, .int v2)] := hl
  unfold w_X7_puts at hw
  show W p l e rm_X7_puts s m args below meth c H [] 0 0 (QV G B S sz below args s Q) (F0 m 0 ls [])
  generalize ([] : List Loc) = locs at hH ⊢
  refine lv_aload_n hx hb dX7_puts_0 rfl (lv_at hl 0 rfl) ?_
  obtain ⟨k1, hw⟩ := hw
  refine hv_get (ci := 7) (k := 12) (v := .ref (S.2 v0 12)) hx hb hown hKK hH cf7 (by decide) fl_X7_46 rfl k1 rfl dX7_puts_1 ?_
  refine lv_bipush (v := (nI 6)) hx hb dX7_puts_4 (by decide) ?_
  refine lv_iload_n hx hb dX7_puts_6 rfl (lv_at hl 1 rfl) ?_
  refine lv_imul hx hb dX7_puts_7 ?_
  refine lv_aload_n hx hb dX7_puts_8 rfl (lv_at hl 0 rfl) ?_
  refine hv_get (ci := 7) (k := 11) (v := .ref (S.2 v0 11)) hx hb hown hKK hH cf7 (by decide) fl_X7_43 rfl k1 rfl dX7_puts_9 ?_
  refine lv_iload_n hx hb dX7_puts_12 rfl (lv_at hl 1 rfl) ?_
  obtain ⟨k2, hw⟩ := hw
  refine hv_iald hx hb hKK hH k2 dX7_puts_13 ?_
  refine lv_iadd hx hb dX7_puts_14 ?_
  refine lv_iload_n hx hb dX7_puts_15 rfl (lv_at hl 2 rfl) ?_
  obtain ⟨k3, hw⟩ := hw
  refine hv_iast hx hb hKK hH k3 dX7_puts_16 (fun H locs hH => ?_)
  refine lv_aload_n hx hb dX7_puts_17 rfl (lv_at hl 0 rfl) ?_
  refine hv_get (ci := 7) (k := 11) (v := .ref (S.2 v0 11)) hx hb hown hKK hH cf7 (by decide) fl_X7_43 rfl k1 rfl dX7_puts_18 ?_
  refine lv_iload_n hx hb dX7_puts_21 rfl (lv_at hl 1 rfl) ?_
  refine lv_dup2_11 hx hb dX7_puts_22 rfl rfl ?_
  refine hv_iald hx hb hKK hH k2 dX7_puts_23 ?_
  refine lv_iconst (v := (nI 1)) hx hb dX7_puts_24 (by decide) ?_
  refine lv_iadd hx hb dX7_puts_25 ?_
  refine hv_iast hx hb hKK hH k2 dX7_puts_26 (fun H locs hH => ?_)
  exact hv_vret hx hb hr hlk hH hw dX7_puts_27
abbrev rm_X7_named : Room := { frames := 3, cells := 0, slots := 0, locals := 64 }
set_option maxHeartbeats 4000000 in
set_option maxRecDepth 100000 in
theorem m_X7_named {l : Launch} {G : Gl} {B sz : Nat} {S : St} (v0 : Nat) (v1 : Int32) (v2 : Int32) (h : Hp) (Q : Int32 → Hp → Prop) (hw : w_X7_named S v0 v1 v2 h Q) : MI l G B sz S yX7_named cX7_named 4 .int rm_X7_named [.ref v0, .int v1, .int v2] h Q := by
  refine met_of rfl rfl ?_
  intro p e s m args below meth c hMB H ls hH hl
  obtain ⟨hx, hb, hml, hown, hKK, hr, hlk⟩ := hMB
  replace hl : lv_has ls 4 [(0, .ref v0), (1, .int v1), (2, .int v2)] := hl
  have c19 : ∀  (v0 : Nat) (v1 : Int32) (v2 : Int32) (s0 : Int32) (h : Hp) (H : Heap) (locs : List Loc) (ls : Array Slot), HH G B S h sz s H locs → lv_has ls 4 [(0, .ref v0), (1, .int v1), (2, .int v2)] → w_X7_named_c19 S v0 v1 v2 s0 h Q → W p l e rm_X7_named s m args below meth c H locs 0 0 (QI G B S sz below args s Q) (F0 m 19 ls [.int s0]) := by
    intro  v0 v1 v2 s0 h H locs ls hH hl hw
    unfold w_X7_named_c19 at hw
    refine lv_istore_n (lv' := [(3, .int s0), (0, .ref v0), (1, .int v1), (2, .int v2)]) hx hb dX7_named_19 rfl hl (by decide) rfl (fun ls hl => ?_)
    refine lv_iload_n hx hb dX7_named_20 rfl (lv_at hl 0 rfl) ?_
    refine lv_if_ne (tgt := 38) hx hb dX7_named_21 (by decide) (fun c1 => ?_) (fun c1 => ?_)
    · have hw := ite_f hw c1
      refine lv_iload_n hx hb dX7_named_38 rfl (lv_at hl 0 rfl) ?_
      refine lv_if_eq (tgt := 48) hx hb dX7_named_39 (by decide) (fun c => absurd c c1) (fun _ => ?_)
      refine lv_aload_n hx hb dX7_named_42 rfl (lv_at hl 1 rfl) ?_
      refine lv_iload_n hx hb dX7_named_43 rfl (lv_at hl 0 rfl) ?_
      obtain ⟨k9, hw⟩ := hw
      refine hv_cVI (rm := rm_X7_no) (As := [.int s0]) (rest := []) (k := 1) (ci := 7) hx hb hml hown hKK hH cf7 k9 (m_X7_no v0 s0 _ _ hw) cw_X7_170 ⟨Nat.le_of_ble_eq_true rfl, Nat.le_of_ble_eq_true rfl⟩ rfl hl.1 rfl (Nat.le_of_ble_eq_true rfl) ⟨Nat.le_of_ble_eq_true rfl, Nat.le_of_ble_eq_true rfl⟩ dX7_named_44 (fun r11 h10 H locs hH hw => ?_)
      exact hv_iret hx hb hr hlk hH hw dX7_named_47
    · have hw := ite_t hw c1
      refine lv_aload_n hx hb dX7_named_24 rfl (lv_at hl 1 rfl) ?_
      obtain ⟨k2, hw⟩ := hw
      refine hv_get (ci := 7) (k := 11) (v := .ref (S.2 v0 11)) hx hb hown hKK hH cf7 (by decide) fl_X7_43 rfl k2 rfl dX7_named_25 ?_
      refine lv_iload_n hx hb dX7_named_28 rfl (lv_at hl 2 rfl) ?_
      obtain ⟨k3, hw⟩ := hw
      refine hv_iald hx hb hKK hH k3 dX7_named_29 ?_
      refine lv_bipush (v := (nI 6)) hx hb dX7_named_30 (by decide) ?_
      refine lv_icmp_ne (tgt := 38) hx hb dX7_named_32 (by decide) (fun c4 => ?_) (fun c4 => ?_)
      · have hw := ite_f hw c4
        refine lv_iload_n hx hb dX7_named_38 rfl (lv_at hl 0 rfl) ?_
        refine lv_if_eq (tgt := 48) hx hb dX7_named_39 (by decide) (fun _ => ?_) (fun c => absurd c1 c)
        refine lv_aload_n hx hb dX7_named_48 rfl (lv_at hl 1 rfl) ?_
        refine hv_cVV (rm := rm_X7_remembers) (As := []) (rest := []) (k := 0) (ci := 7) hx hb hml hown hKK hH cf7 k2 (m_X7_remembers v0 _ _ hw) cw_X7_336 ⟨Nat.le_of_ble_eq_true rfl, Nat.le_of_ble_eq_true rfl⟩ rfl hl.1 rfl (Nat.le_of_ble_eq_true rfl) ⟨Nat.le_of_ble_eq_true rfl, Nat.le_of_ble_eq_true rfl⟩ dX7_named_49 (fun h7 H locs hH hw => ?_)
        refine lv_aload_n hx hb dX7_named_52 rfl (lv_at hl 1 rfl) ?_
        refine lv_iload_n hx hb dX7_named_53 rfl (lv_at hl 2 rfl) ?_
        refine lv_iload_n hx hb dX7_named_54 rfl (lv_at hl 3 rfl) ?_
        refine hv_cVV (rm := rm_X7_puts) (As := [.int v1, .int v2]) (rest := []) (k := 2) (ci := 7) hx hb hml hown hKK hH cf7 k2 (m_X7_puts v0 v1 v2 _ _ hw) cw_X7_339 ⟨Nat.le_of_ble_eq_true rfl, Nat.le_of_ble_eq_true rfl⟩ rfl hl.1 rfl (Nat.le_of_ble_eq_true rfl) ⟨Nat.le_of_ble_eq_true rfl, Nat.le_of_ble_eq_true rfl⟩ dX7_named_55 (fun h8 H locs hH hw => ?_)
        refine lv_aload_n hx hb dX7_named_58 rfl (lv_at hl 1 rfl) ?_
        refine hv_get (ci := 7) (k := 11) (v := .ref (S.2 v0 11)) hx hb hown hKK hH cf7 (by decide) fl_X7_43 rfl k2 rfl dX7_named_59 ?_
        refine lv_iload_n hx hb dX7_named_62 rfl (lv_at hl 2 rfl) ?_
        refine hv_iald hx hb hKK hH k3 dX7_named_63 ?_
        exact hv_iret hx hb hr hlk hH hw dX7_named_64
      · have hw := ite_t hw c4
        refine lv_bipush (v := (-6)) hx hb dX7_named_35 (by decide) ?_
        refine lv_istore_n (lv' := [(3, .int (-6)), (0, .ref v0), (1, .int v1), (2, .int v2)]) hx hb dX7_named_37 rfl hl (by decide) rfl (fun ls hl => ?_)
        refine lv_iload_n hx hb dX7_named_38 rfl (lv_at hl 0 rfl) ?_
        refine lv_if_eq (tgt := 48) hx hb dX7_named_39 (by decide) (fun c => absurd c (by decide)) (fun _ => ?_)
        refine lv_aload_n hx hb dX7_named_42 rfl (lv_at hl 1 rfl) ?_
        refine lv_iload_n hx hb dX7_named_43 rfl (lv_at hl 0 rfl) ?_
        refine hv_cVI (rm := rm_X7_no) (As := [.int (-6)]) (rest := []) (k := 1) (ci := 7) hx hb hml hown hKK hH cf7 k2 (m_X7_no v0 (-6) _ _ hw) cw_X7_170 ⟨Nat.le_of_ble_eq_true rfl, Nat.le_of_ble_eq_true rfl⟩ rfl hl.1 rfl (Nat.le_of_ble_eq_true rfl) ⟨Nat.le_of_ble_eq_true rfl, Nat.le_of_ble_eq_true rfl⟩ dX7_named_44 (fun r6 h5 H locs hH hw => ?_)
        exact hv_iret hx hb hr hlk hH hw dX7_named_47
  unfold w_X7_named at hw
  show W p l e rm_X7_named s m args below meth c H [] 0 0 (QI G B S sz below args s Q) (F0 m 0 ls [])
  generalize ([] : List Loc) = locs at hH ⊢
  refine lv_aload_n hx hb dX7_named_0 rfl (lv_at hl 0 rfl) ?_
  refine lv_iload_n hx hb dX7_named_1 rfl (lv_at hl 1 rfl) ?_
  obtain ⟨k1, hw⟩ := hw
  refine hv_cVI (rm := rm_X7_isHead) (As := [.int v1]) (rest := []) (k := 1) (ci := 7) hx hb hml hown hKK hH cf7 k1 (m_X7_isHead v0 v1 _ _ hw) cw_X7_89 ⟨Nat.le_of_ble_eq_true rfl, Nat.le_of_ble_eq_true rfl⟩ rfl hl.1 rfl (Nat.le_of_ble_eq_true rfl) ⟨Nat.le_of_ble_eq_true rfl, Nat.le_of_ble_eq_true rfl⟩ dX7_named_2 (fun r3 h2 H locs hH hw => ?_)
  refine lv_if_ne (tgt := 12) hx hb dX7_named_5 (by decide) (fun c4 => ?_) (fun c4 => ?_)
  · have hw := ite_f hw c4
    refine lv_iload_n hx hb dX7_named_12 rfl (lv_at hl 2 rfl) ?_
    refine lv_iconst (v := (nI 0)) hx hb dX7_named_13 (by decide) ?_
    refine lv_bipush (v := (nI 25)) hx hb dX7_named_14 (by decide) ?_
    refine hv_cSI (rm := rm_X7_bound) (As := [.int v2, .int (nI 0), .int (nI 25)]) (rest := []) (k := 3) hx hb hml hown hKK hH (m_X7_bound v2 (nI 0) (nI 25) _ _ hw) cw_X7_163 ⟨Nat.le_of_ble_eq_true rfl, Nat.le_of_ble_eq_true rfl⟩ rfl hl.1 rfl (Nat.le_of_ble_eq_true rfl) ⟨Nat.le_of_ble_eq_true rfl, Nat.le_of_ble_eq_true rfl⟩ dX7_named_16 (fun r6 h5 H locs hH hw => ?_)
    exact c19 _ _ _ _ _ H locs ls hH (lv_sub hl [0, 1, 2] rfl) hw
  · have hw := ite_t hw c4
    refine lv_iconst (v := (-1)) hx hb dX7_named_8 (by decide) ?_
    refine lv_goto (tgt := 19) hx hb dX7_named_9 (by decide) ?_
    exact c19 _ _ _ _ _ H locs ls hH (lv_sub hl [0, 1, 2] rfl) hw
abbrev rm_X7_faces : Room := { frames := 3, cells := 0, slots := 0, locals := 64 }
set_option maxHeartbeats 4000000 in
set_option maxRecDepth 100000 in
theorem m_X7_faces {l : Launch} {G : Gl} {B sz : Nat} {S : St} (v0 : Nat) (v1 : Int32) (v2 : Int32) (h : Hp) (Q : Int32 → Hp → Prop) (hw : w_X7_faces S v0 v1 v2 h Q) : MI l G B sz S yX7_faces cX7_faces 5 .int rm_X7_faces [.ref v0, .int v1, .int v2] h Q := by
  refine met_of rfl rfl ?_
  intro p e s m args below meth c hMB H ls hH hl
  obtain ⟨hx, hb, hml, hown, hKK, hr, hlk⟩ := hMB
  replace hl : lv_has ls 5 [(0, .ref v0), (1, .int v1), (2, .int v2)] := hl
  unfold w_X7_faces at hw
  show W p l e rm_X7_faces s m args below meth c H [] 0 0 (QI G B S sz below args s Q) (F0 m 0 ls [])
  generalize ([] : List Loc) = locs at hH ⊢
  refine lv_aload_n hx hb dX7_faces_0 rfl (lv_at hl 0 rfl) ?_
  refine lv_iload_n hx hb dX7_faces_1 rfl (lv_at hl 1 rfl) ?_
  obtain ⟨k1, hw⟩ := hw
  refine hv_cVI (rm := rm_X7_isHead) (As := [.int v1]) (rest := []) (k := 1) (ci := 7) hx hb hml hown hKK hH cf7 k1 (m_X7_isHead v0 v1 _ _ hw) cw_X7_89 ⟨Nat.le_of_ble_eq_true rfl, Nat.le_of_ble_eq_true rfl⟩ rfl hl.1 rfl (Nat.le_of_ble_eq_true rfl) ⟨Nat.le_of_ble_eq_true rfl, Nat.le_of_ble_eq_true rfl⟩ dX7_faces_2 (fun r3 h2 H locs hH hw => ?_)
  refine lv_if_ne (tgt := 12) hx hb dX7_faces_5 (by decide) (fun c4 => ?_) (fun c4 => ?_)
  · have hw := ite_f hw c4
    refine lv_iload_n hx hb dX7_faces_12 rfl (lv_at hl 2 rfl) ?_
    refine lv_iconst (v := (nI 0)) hx hb dX7_faces_13 (by decide) ?_
    refine lv_iconst (v := (nI 3)) hx hb dX7_faces_14 (by decide) ?_
    refine hv_cSI (rm := rm_X7_bound) (As := [.int v2, .int (nI 0), .int (nI 3)]) (rest := []) (k := 3) hx hb hml hown hKK hH (m_X7_bound v2 (nI 0) (nI 3) _ _ hw) cw_X7_163 ⟨Nat.le_of_ble_eq_true rfl, Nat.le_of_ble_eq_true rfl⟩ rfl hl.1 rfl (Nat.le_of_ble_eq_true rfl) ⟨Nat.le_of_ble_eq_true rfl, Nat.le_of_ble_eq_true rfl⟩ dX7_faces_15 (fun r8 h7 H locs hH hw => ?_)
    refine lv_istore_n (lv' := [(3, .int r8), (0, .ref v0), (1, .int v1), (2, .int v2)]) hx hb dX7_faces_18 rfl hl (by decide) rfl (fun ls hl => ?_)
    refine lv_iload_n hx hb dX7_faces_19 rfl (lv_at hl 0 rfl) ?_
    refine lv_if_eq (tgt := 29) hx hb dX7_faces_20 (by decide) (fun c9 => ?_) (fun c9 => ?_)
    · have hw := ite_t hw c9
      refine lv_aload_n hx hb dX7_faces_29 rfl (lv_at hl 1 rfl) ?_
      refine hv_cVV (rm := rm_X7_remembers) (As := []) (rest := []) (k := 0) (ci := 7) hx hb hml hown hKK hH cf7 k1 (m_X7_remembers v0 _ _ hw) cw_X7_336 ⟨Nat.le_of_ble_eq_true rfl, Nat.le_of_ble_eq_true rfl⟩ rfl hl.1 rfl (Nat.le_of_ble_eq_true rfl) ⟨Nat.le_of_ble_eq_true rfl, Nat.le_of_ble_eq_true rfl⟩ dX7_faces_30 (fun h10 H locs hH hw => ?_)
      refine lv_aload_n hx hb dX7_faces_33 rfl (lv_at hl 1 rfl) ?_
      refine hv_get (ci := 7) (k := 7) (v := .ref (S.2 v0 7)) hx hb hown hKK hH cf7 (by decide) fl_X7_31 rfl k1 rfl dX7_faces_34 ?_
      refine lv_iload_n hx hb dX7_faces_37 rfl (lv_at hl 2 rfl) ?_
      obtain ⟨k11, hw⟩ := hw
      refine hv_iald hx hb hKK hH k11 dX7_faces_38 ?_
      refine lv_istore (lv' := [(4, .int (h10 (S.2 v0 7) (ix v1))), (3, .int r8), (0, .ref v0), (1, .int v1), (2, .int v2)]) hx hb dX7_faces_39 hl (by decide) rfl (fun ls hl => ?_)
      refine lv_aload_n hx hb dX7_faces_41 rfl (lv_at hl 2 rfl) ?_
      refine hv_get (ci := 7) (k := 7) (v := .ref (S.2 v0 7)) hx hb hown hKK hH cf7 (by decide) fl_X7_31 rfl k1 rfl dX7_faces_42 ?_
      refine lv_iload_n hx hb dX7_faces_45 rfl (lv_at hl 3 rfl) ?_
      refine lv_iload_n hx hb dX7_faces_46 rfl (lv_at hl 4 rfl) ?_
      refine hv_iast hx hb hKK hH k11 dX7_faces_47 (fun H locs hH => ?_)
      refine lv_iload hx hb dX7_faces_48 (lv_at hl 0 rfl) ?_
      exact hv_iret hx hb hr hlk hH hw dX7_faces_50
    · have hw := ite_f hw c9
      refine lv_aload_n hx hb dX7_faces_23 rfl (lv_at hl 1 rfl) ?_
      refine lv_iload_n hx hb dX7_faces_24 rfl (lv_at hl 0 rfl) ?_
      refine hv_cVI (rm := rm_X7_no) (As := [.int r8]) (rest := []) (k := 1) (ci := 7) hx hb hml hown hKK hH cf7 k1 (m_X7_no v0 r8 _ _ hw) cw_X7_170 ⟨Nat.le_of_ble_eq_true rfl, Nat.le_of_ble_eq_true rfl⟩ rfl hl.1 rfl (Nat.le_of_ble_eq_true rfl) ⟨Nat.le_of_ble_eq_true rfl, Nat.le_of_ble_eq_true rfl⟩ dX7_faces_25 (fun r13 h12 H locs hH hw => ?_)
      exact hv_iret hx hb hr hlk hH hw dX7_faces_28
  · have hw := ite_t hw c4
    refine lv_iconst (v := (-1)) hx hb dX7_faces_8 (by decide) ?_
    refine lv_goto (tgt := 18) hx hb dX7_faces_9 (by decide) ?_
    refine lv_istore_n (lv' := [(3, .int (-1)), (0, .ref v0), (1, .int v1), (2, .int v2)]) hx hb dX7_faces_18 rfl hl (by decide) rfl (fun ls hl => ?_)
    refine lv_iload_n hx hb dX7_faces_19 rfl (lv_at hl 0 rfl) ?_
    refine lv_if_eq (tgt := 29) hx hb dX7_faces_20 (by decide) (fun c => absurd c (by decide)) (fun _ => ?_)
    refine lv_aload_n hx hb dX7_faces_23 rfl (lv_at hl 1 rfl) ?_
    refine lv_iload_n hx hb dX7_faces_24 rfl (lv_at hl 0 rfl) ?_
    refine hv_cVI (rm := rm_X7_no) (As := [.int (-1)]) (rest := []) (k := 1) (ci := 7) hx hb hml hown hKK hH cf7 k1 (m_X7_no v0 (-1) _ _ hw) cw_X7_170 ⟨Nat.le_of_ble_eq_true rfl, Nat.le_of_ble_eq_true rfl⟩ rfl hl.1 rfl (Nat.le_of_ble_eq_true rfl) ⟨Nat.le_of_ble_eq_true rfl, Nat.le_of_ble_eq_true rfl⟩ dX7_faces_25 (fun r6 h5 H locs hH hw => ?_)
    exact hv_iret hx hb hr hlk hH hw dX7_faces_28
abbrev rm_X7_does : Room := { frames := 3, cells := 0, slots := 0, locals := 64 }
set_option maxHeartbeats 4000000 in
set_option maxRecDepth 100000 in
theorem m_X7_does {l : Launch} {G : Gl} {B sz : Nat} {S : St} (v0 : Nat) (v1 : Int32) (v2 : Int32) (h : Hp) (Q : Int32 → Hp → Prop) (hw : w_X7_does S v0 v1 v2 h Q) : MI l G B sz S yX7_does cX7_does 5 .int rm_X7_does [.ref v0, .int v1, .int v2] h Q := by
  refine met_of rfl rfl ?_
  intro p e s m args below meth c hMB H ls hH hl
  obtain ⟨hx, hb, hml, hown, hKK, hr, hlk⟩ := hMB
  replace hl : lv_has ls 5 [(0, .ref v0), (1, .int v1), (2, .int v2)] := hl
  unfold w_X7_does at hw
  show W p l e rm_X7_does s m args below meth c H [] 0 0 (QI G B S sz below args s Q) (F0 m 0 ls [])
  generalize ([] : List Loc) = locs at hH ⊢
  refine lv_aload_n hx hb dX7_does_0 rfl (lv_at hl 0 rfl) ?_
  refine lv_iload_n hx hb dX7_does_1 rfl (lv_at hl 1 rfl) ?_
  obtain ⟨k1, hw⟩ := hw
  refine hv_cVI (rm := rm_X7_isHead) (As := [.int v1]) (rest := []) (k := 1) (ci := 7) hx hb hml hown hKK hH cf7 k1 (m_X7_isHead v0 v1 _ _ hw) cw_X7_89 ⟨Nat.le_of_ble_eq_true rfl, Nat.le_of_ble_eq_true rfl⟩ rfl hl.1 rfl (Nat.le_of_ble_eq_true rfl) ⟨Nat.le_of_ble_eq_true rfl, Nat.le_of_ble_eq_true rfl⟩ dX7_does_2 (fun r3 h2 H locs hH hw => ?_)
  refine lv_if_ne (tgt := 12) hx hb dX7_does_5 (by decide) (fun c4 => ?_) (fun c4 => ?_)
  · have hw := ite_f hw c4
    refine lv_iload_n hx hb dX7_does_12 rfl (lv_at hl 2 rfl) ?_
    refine lv_iconst (v := (nI 0)) hx hb dX7_does_13 (by decide) ?_
    refine lv_iconst (v := (nI 4)) hx hb dX7_does_14 (by decide) ?_
    refine hv_cSI (rm := rm_X7_isIn) (As := [.int v2, .int (nI 0), .int (nI 4)]) (rest := []) (k := 3) hx hb hml hown hKK hH (m_X7_isIn v2 (nI 0) (nI 4) _ _ hw) cw_X7_85 ⟨Nat.le_of_ble_eq_true rfl, Nat.le_of_ble_eq_true rfl⟩ rfl hl.1 rfl (Nat.le_of_ble_eq_true rfl) ⟨Nat.le_of_ble_eq_true rfl, Nat.le_of_ble_eq_true rfl⟩ dX7_does_15 (fun r8 h7 H locs hH hw => ?_)
    refine lv_if_ne (tgt := 26) hx hb dX7_does_18 (by decide) (fun c9 => ?_) (fun c9 => ?_)
    · have hw := ite_f hw c9
      refine lv_iconst (v := (nI 0)) hx hb dX7_does_26 (by decide) ?_
      refine lv_istore_n (lv' := [(3, .int (nI 0)), (0, .ref v0), (1, .int v1), (2, .int v2)]) hx hb dX7_does_27 rfl hl (by decide) rfl (fun ls hl => ?_)
      refine lv_iload_n hx hb dX7_does_28 rfl (lv_at hl 0 rfl) ?_
      refine lv_if_eq (tgt := 38) hx hb dX7_does_29 (by decide) (fun _ => ?_) (fun c => absurd (by decide) c)
      refine lv_aload_n hx hb dX7_does_38 rfl (lv_at hl 1 rfl) ?_
      refine hv_cVV (rm := rm_X7_remembers) (As := []) (rest := []) (k := 0) (ci := 7) hx hb hml hown hKK hH cf7 k1 (m_X7_remembers v0 _ _ hw) cw_X7_336 ⟨Nat.le_of_ble_eq_true rfl, Nat.le_of_ble_eq_true rfl⟩ rfl hl.1 rfl (Nat.le_of_ble_eq_true rfl) ⟨Nat.le_of_ble_eq_true rfl, Nat.le_of_ble_eq_true rfl⟩ dX7_does_39 (fun h12 H locs hH hw => ?_)
      refine lv_aload_n hx hb dX7_does_42 rfl (lv_at hl 1 rfl) ?_
      refine hv_get (ci := 7) (k := 8) (v := .ref (S.2 v0 8)) hx hb hown hKK hH cf7 (by decide) fl_X7_34 rfl k1 rfl dX7_does_43 ?_
      refine lv_iload_n hx hb dX7_does_46 rfl (lv_at hl 2 rfl) ?_
      obtain ⟨k13, hw⟩ := hw
      refine hv_iald hx hb hKK hH k13 dX7_does_47 ?_
      refine lv_istore (lv' := [(4, .int (h12 (S.2 v0 8) (ix v1))), (3, .int (nI 0)), (0, .ref v0), (1, .int v1), (2, .int v2)]) hx hb dX7_does_48 hl (by decide) rfl (fun ls hl => ?_)
      refine lv_aload_n hx hb dX7_does_50 rfl (lv_at hl 2 rfl) ?_
      refine hv_get (ci := 7) (k := 8) (v := .ref (S.2 v0 8)) hx hb hown hKK hH cf7 (by decide) fl_X7_34 rfl k1 rfl dX7_does_51 ?_
      refine lv_iload_n hx hb dX7_does_54 rfl (lv_at hl 3 rfl) ?_
      refine lv_iload_n hx hb dX7_does_55 rfl (lv_at hl 4 rfl) ?_
      refine hv_iast hx hb hKK hH k13 dX7_does_56 (fun H locs hH => ?_)
      refine lv_iload hx hb dX7_does_57 (lv_at hl 0 rfl) ?_
      exact hv_iret hx hb hr hlk hH hw dX7_does_59
    · have hw := ite_t hw c9
      refine lv_bipush (v := (-2)) hx hb dX7_does_21 (by decide) ?_
      refine lv_goto (tgt := 27) hx hb dX7_does_23 (by decide) ?_
      refine lv_istore_n (lv' := [(3, .int (-2)), (0, .ref v0), (1, .int v1), (2, .int v2)]) hx hb dX7_does_27 rfl hl (by decide) rfl (fun ls hl => ?_)
      refine lv_iload_n hx hb dX7_does_28 rfl (lv_at hl 0 rfl) ?_
      refine lv_if_eq (tgt := 38) hx hb dX7_does_29 (by decide) (fun c => absurd c (by decide)) (fun _ => ?_)
      refine lv_aload_n hx hb dX7_does_32 rfl (lv_at hl 1 rfl) ?_
      refine lv_iload_n hx hb dX7_does_33 rfl (lv_at hl 0 rfl) ?_
      refine hv_cVI (rm := rm_X7_no) (As := [.int (-2)]) (rest := []) (k := 1) (ci := 7) hx hb hml hown hKK hH cf7 k1 (m_X7_no v0 (-2) _ _ hw) cw_X7_170 ⟨Nat.le_of_ble_eq_true rfl, Nat.le_of_ble_eq_true rfl⟩ rfl hl.1 rfl (Nat.le_of_ble_eq_true rfl) ⟨Nat.le_of_ble_eq_true rfl, Nat.le_of_ble_eq_true rfl⟩ dX7_does_34 (fun r11 h10 H locs hH hw => ?_)
      exact hv_iret hx hb hr hlk hH hw dX7_does_37
  · have hw := ite_t hw c4
    refine lv_iconst (v := (-1)) hx hb dX7_does_8 (by decide) ?_
    refine lv_goto (tgt := 27) hx hb dX7_does_9 (by decide) ?_
    refine lv_istore_n (lv' := [(3, .int (-1)), (0, .ref v0), (1, .int v1), (2, .int v2)]) hx hb dX7_does_27 rfl hl (by decide) rfl (fun ls hl => ?_)
    refine lv_iload_n hx hb dX7_does_28 rfl (lv_at hl 0 rfl) ?_
    refine lv_if_eq (tgt := 38) hx hb dX7_does_29 (by decide) (fun c => absurd c (by decide)) (fun _ => ?_)
    refine lv_aload_n hx hb dX7_does_32 rfl (lv_at hl 1 rfl) ?_
    refine lv_iload_n hx hb dX7_does_33 rfl (lv_at hl 0 rfl) ?_
    refine hv_cVI (rm := rm_X7_no) (As := [.int (-1)]) (rest := []) (k := 1) (ci := 7) hx hb hml hown hKK hH cf7 k1 (m_X7_no v0 (-1) _ _ hw) cw_X7_170 ⟨Nat.le_of_ble_eq_true rfl, Nat.le_of_ble_eq_true rfl⟩ rfl hl.1 rfl (Nat.le_of_ble_eq_true rfl) ⟨Nat.le_of_ble_eq_true rfl, Nat.le_of_ble_eq_true rfl⟩ dX7_does_34 (fun r6 h5 H locs hH hw => ?_)
    exact hv_iret hx hb hr hlk hH hw dX7_does_37
abbrev rm_X7_joins : Room := { frames := 3, cells := 0, slots := 0, locals := 64 }
set_option maxHeartbeats 4000000 in
set_option maxRecDepth 100000 in
theorem m_X7_joins {l : Launch} {G : Gl} {B sz : Nat} {S : St} (v0 : Nat) (v1 : Int32) (v2 : Int32) (h : Hp) (Q : Int32 → Hp → Prop) (hw : w_X7_joins S v0 v1 v2 h Q) : MI l G B sz S yX7_joins cX7_joins 5 .int rm_X7_joins [.ref v0, .int v1, .int v2] h Q := by
  refine met_of rfl rfl ?_
  intro p e s m args below meth c hMB H ls hH hl
  obtain ⟨hx, hb, hml, hown, hKK, hr, hlk⟩ := hMB
  replace hl : lv_has ls 5 [(0, .ref v0), (1, .int v1), (2, .int v2)] := hl
  unfold w_X7_joins at hw
  show W p l e rm_X7_joins s m args below meth c H [] 0 0 (QI G B S sz below args s Q) (F0 m 0 ls [])
  generalize ([] : List Loc) = locs at hH ⊢
  refine lv_aload_n hx hb dX7_joins_0 rfl (lv_at hl 0 rfl) ?_
  refine lv_iload_n hx hb dX7_joins_1 rfl (lv_at hl 1 rfl) ?_
  obtain ⟨k1, hw⟩ := hw
  refine hv_cVI (rm := rm_X7_isHead) (As := [.int v1]) (rest := []) (k := 1) (ci := 7) hx hb hml hown hKK hH cf7 k1 (m_X7_isHead v0 v1 _ _ hw) cw_X7_89 ⟨Nat.le_of_ble_eq_true rfl, Nat.le_of_ble_eq_true rfl⟩ rfl hl.1 rfl (Nat.le_of_ble_eq_true rfl) ⟨Nat.le_of_ble_eq_true rfl, Nat.le_of_ble_eq_true rfl⟩ dX7_joins_2 (fun r3 h2 H locs hH hw => ?_)
  refine lv_if_ne (tgt := 12) hx hb dX7_joins_5 (by decide) (fun c4 => ?_) (fun c4 => ?_)
  · have hw := ite_f hw c4
    refine lv_iload_n hx hb dX7_joins_12 rfl (lv_at hl 2 rfl) ?_
    refine lv_iconst (v := (nI 0)) hx hb dX7_joins_13 (by decide) ?_
    refine lv_bipush (v := (nI 99)) hx hb dX7_joins_14 (by decide) ?_
    refine hv_cSI (rm := rm_X7_bound) (As := [.int v2, .int (nI 0), .int (nI 99)]) (rest := []) (k := 3) hx hb hml hown hKK hH (m_X7_bound v2 (nI 0) (nI 99) _ _ hw) cw_X7_163 ⟨Nat.le_of_ble_eq_true rfl, Nat.le_of_ble_eq_true rfl⟩ rfl hl.1 rfl (Nat.le_of_ble_eq_true rfl) ⟨Nat.le_of_ble_eq_true rfl, Nat.le_of_ble_eq_true rfl⟩ dX7_joins_16 (fun r8 h7 H locs hH hw => ?_)
    refine lv_istore_n (lv' := [(3, .int r8), (0, .ref v0), (1, .int v1), (2, .int v2)]) hx hb dX7_joins_19 rfl hl (by decide) rfl (fun ls hl => ?_)
    refine lv_iload_n hx hb dX7_joins_20 rfl (lv_at hl 0 rfl) ?_
    refine lv_if_eq (tgt := 30) hx hb dX7_joins_21 (by decide) (fun c9 => ?_) (fun c9 => ?_)
    · have hw := ite_t hw c9
      refine lv_aload_n hx hb dX7_joins_30 rfl (lv_at hl 1 rfl) ?_
      refine hv_cVV (rm := rm_X7_remembers) (As := []) (rest := []) (k := 0) (ci := 7) hx hb hml hown hKK hH cf7 k1 (m_X7_remembers v0 _ _ hw) cw_X7_336 ⟨Nat.le_of_ble_eq_true rfl, Nat.le_of_ble_eq_true rfl⟩ rfl hl.1 rfl (Nat.le_of_ble_eq_true rfl) ⟨Nat.le_of_ble_eq_true rfl, Nat.le_of_ble_eq_true rfl⟩ dX7_joins_31 (fun h10 H locs hH hw => ?_)
      refine lv_aload_n hx hb dX7_joins_34 rfl (lv_at hl 1 rfl) ?_
      refine hv_get (ci := 7) (k := 9) (v := .ref (S.2 v0 9)) hx hb hown hKK hH cf7 (by decide) fl_X7_37 rfl k1 rfl dX7_joins_35 ?_
      refine lv_iload_n hx hb dX7_joins_38 rfl (lv_at hl 2 rfl) ?_
      obtain ⟨k11, hw⟩ := hw
      refine hv_iald hx hb hKK hH k11 dX7_joins_39 ?_
      refine lv_istore (lv' := [(4, .int (h10 (S.2 v0 9) (ix v1))), (3, .int r8), (0, .ref v0), (1, .int v1), (2, .int v2)]) hx hb dX7_joins_40 hl (by decide) rfl (fun ls hl => ?_)
      refine lv_aload_n hx hb dX7_joins_42 rfl (lv_at hl 2 rfl) ?_
      refine hv_get (ci := 7) (k := 9) (v := .ref (S.2 v0 9)) hx hb hown hKK hH cf7 (by decide) fl_X7_37 rfl k1 rfl dX7_joins_43 ?_
      refine lv_iload_n hx hb dX7_joins_46 rfl (lv_at hl 3 rfl) ?_
      refine lv_iload_n hx hb dX7_joins_47 rfl (lv_at hl 4 rfl) ?_
      refine hv_iast hx hb hKK hH k11 dX7_joins_48 (fun H locs hH => ?_)
      refine lv_iload hx hb dX7_joins_49 (lv_at hl 0 rfl) ?_
      exact hv_iret hx hb hr hlk hH hw dX7_joins_51
    · have hw := ite_f hw c9
      refine lv_aload_n hx hb dX7_joins_24 rfl (lv_at hl 1 rfl) ?_
      refine lv_iload_n hx hb dX7_joins_25 rfl (lv_at hl 0 rfl) ?_
      refine hv_cVI (rm := rm_X7_no) (As := [.int r8]) (rest := []) (k := 1) (ci := 7) hx hb hml hown hKK hH cf7 k1 (m_X7_no v0 r8 _ _ hw) cw_X7_170 ⟨Nat.le_of_ble_eq_true rfl, Nat.le_of_ble_eq_true rfl⟩ rfl hl.1 rfl (Nat.le_of_ble_eq_true rfl) ⟨Nat.le_of_ble_eq_true rfl, Nat.le_of_ble_eq_true rfl⟩ dX7_joins_26 (fun r13 h12 H locs hH hw => ?_)
      exact hv_iret hx hb hr hlk hH hw dX7_joins_29
  · have hw := ite_t hw c4
    refine lv_iconst (v := (-1)) hx hb dX7_joins_8 (by decide) ?_
    refine lv_goto (tgt := 19) hx hb dX7_joins_9 (by decide) ?_
    refine lv_istore_n (lv' := [(3, .int (-1)), (0, .ref v0), (1, .int v1), (2, .int v2)]) hx hb dX7_joins_19 rfl hl (by decide) rfl (fun ls hl => ?_)
    refine lv_iload_n hx hb dX7_joins_20 rfl (lv_at hl 0 rfl) ?_
    refine lv_if_eq (tgt := 30) hx hb dX7_joins_21 (by decide) (fun c => absurd c (by decide)) (fun _ => ?_)
    refine lv_aload_n hx hb dX7_joins_24 rfl (lv_at hl 1 rfl) ?_
    refine lv_iload_n hx hb dX7_joins_25 rfl (lv_at hl 0 rfl) ?_
    refine hv_cVI (rm := rm_X7_no) (As := [.int (-1)]) (rest := []) (k := 1) (ci := 7) hx hb hml hown hKK hH cf7 k1 (m_X7_no v0 (-1) _ _ hw) cw_X7_170 ⟨Nat.le_of_ble_eq_true rfl, Nat.le_of_ble_eq_true rfl⟩ rfl hl.1 rfl (Nat.le_of_ble_eq_true rfl) ⟨Nat.le_of_ble_eq_true rfl, Nat.le_of_ble_eq_true rfl⟩ dX7_joins_26 (fun r6 h5 H locs hH hw => ?_)
    exact hv_iret hx hb hr hlk hH hw dX7_joins_29
abbrev rm_X7_walls : Room := { frames := 3, cells := 0, slots := 0, locals := 64 }
set_option maxHeartbeats 4000000 in
set_option maxRecDepth 100000 in
theorem m_X7_walls {l : Launch} {G : Gl} {B sz : Nat} {S : St} (v0 : Nat) (v1 : Int32) (v2 : Int32) (h : Hp) (Q : Int32 → Hp → Prop) (hw : w_X7_walls S v0 v1 v2 h Q) : MI l G B sz S yX7_walls cX7_walls 5 .int rm_X7_walls [.ref v0, .int v1, .int v2] h Q := by
  refine met_of rfl rfl ?_
  intro p e s m args below meth c hMB H ls hH hl
  obtain ⟨hx, hb, hml, hown, hKK, hr, hlk⟩ := hMB
  replace hl : lv_has ls 5 [(0, .ref v0), (1, .int v1), (2, .int v2)] := hl
  unfold w_X7_walls at hw
  show W p l e rm_X7_walls s m args below meth c H [] 0 0 (QI G B S sz below args s Q) (F0 m 0 ls [])
  generalize ([] : List Loc) = locs at hH ⊢
  refine lv_iload_n hx hb dX7_walls_0 rfl (lv_at hl 1 rfl) ?_
  refine hv_cSI (rm := rm_X7_isField) (As := [.int v1]) (rest := []) (k := 1) hx hb hml hown hKK hH (m_X7_isField v1 _ _ hw) cw_X7_244 ⟨Nat.le_of_ble_eq_true rfl, Nat.le_of_ble_eq_true rfl⟩ rfl hl.1 rfl (Nat.le_of_ble_eq_true rfl) ⟨Nat.le_of_ble_eq_true rfl, Nat.le_of_ble_eq_true rfl⟩ dX7_walls_1 (fun r2 h1 H locs hH hw => ?_)
  refine lv_if_ne (tgt := 11) hx hb dX7_walls_4 (by decide) (fun c3 => ?_) (fun c3 => ?_)
  · have hw := ite_f hw c3
    refine lv_iload_n hx hb dX7_walls_11 rfl (lv_at hl 2 rfl) ?_
    refine lv_iconst (v := (nI 0)) hx hb dX7_walls_12 (by decide) ?_
    refine lv_bipush (v := (nI 9)) hx hb dX7_walls_13 (by decide) ?_
    refine hv_cSI (rm := rm_X7_bound) (As := [.int v2, .int (nI 0), .int (nI 9)]) (rest := []) (k := 3) hx hb hml hown hKK hH (m_X7_bound v2 (nI 0) (nI 9) _ _ hw) cw_X7_163 ⟨Nat.le_of_ble_eq_true rfl, Nat.le_of_ble_eq_true rfl⟩ rfl hl.1 rfl (Nat.le_of_ble_eq_true rfl) ⟨Nat.le_of_ble_eq_true rfl, Nat.le_of_ble_eq_true rfl⟩ dX7_walls_15 (fun r8 h7 H locs hH hw => ?_)
    refine lv_istore_n (lv' := [(3, .int r8), (0, .ref v0), (1, .int v1), (2, .int v2)]) hx hb dX7_walls_18 rfl hl (by decide) rfl (fun ls hl => ?_)
    refine lv_iload_n hx hb dX7_walls_19 rfl (lv_at hl 0 rfl) ?_
    refine lv_if_eq (tgt := 29) hx hb dX7_walls_20 (by decide) (fun c9 => ?_) (fun c9 => ?_)
    · have hw := ite_t hw c9
      refine lv_aload_n hx hb dX7_walls_29 rfl (lv_at hl 1 rfl) ?_
      obtain ⟨k10, hw⟩ := hw
      refine hv_cVV (rm := rm_X7_remembers) (As := []) (rest := []) (k := 0) (ci := 7) hx hb hml hown hKK hH cf7 k10 (m_X7_remembers v0 _ _ hw) cw_X7_336 ⟨Nat.le_of_ble_eq_true rfl, Nat.le_of_ble_eq_true rfl⟩ rfl hl.1 rfl (Nat.le_of_ble_eq_true rfl) ⟨Nat.le_of_ble_eq_true rfl, Nat.le_of_ble_eq_true rfl⟩ dX7_walls_30 (fun h11 H locs hH hw => ?_)
      refine lv_aload_n hx hb dX7_walls_33 rfl (lv_at hl 1 rfl) ?_
      refine hv_get (ci := 7) (k := 1) (v := .ref (S.2 v0 1)) hx hb hown hKK hH cf7 (by decide) fl_X7_13 rfl k10 rfl dX7_walls_34 ?_
      refine lv_iload_n hx hb dX7_walls_37 rfl (lv_at hl 2 rfl) ?_
      obtain ⟨k12, hw⟩ := hw
      refine hv_iald hx hb hKK hH k12 dX7_walls_38 ?_
      refine lv_istore (lv' := [(4, .int (h11 (S.2 v0 1) (ix v1))), (3, .int r8), (0, .ref v0), (1, .int v1), (2, .int v2)]) hx hb dX7_walls_39 hl (by decide) rfl (fun ls hl => ?_)
      refine lv_aload_n hx hb dX7_walls_41 rfl (lv_at hl 2 rfl) ?_
      refine hv_get (ci := 7) (k := 1) (v := .ref (S.2 v0 1)) hx hb hown hKK hH cf7 (by decide) fl_X7_13 rfl k10 rfl dX7_walls_42 ?_
      refine lv_iload_n hx hb dX7_walls_45 rfl (lv_at hl 3 rfl) ?_
      refine lv_iload_n hx hb dX7_walls_46 rfl (lv_at hl 4 rfl) ?_
      refine hv_iast hx hb hKK hH k12 dX7_walls_47 (fun H locs hH => ?_)
      refine lv_iload hx hb dX7_walls_48 (lv_at hl 0 rfl) ?_
      exact hv_iret hx hb hr hlk hH hw dX7_walls_50
    · have hw := ite_f hw c9
      refine lv_aload_n hx hb dX7_walls_23 rfl (lv_at hl 1 rfl) ?_
      refine lv_iload_n hx hb dX7_walls_24 rfl (lv_at hl 0 rfl) ?_
      obtain ⟨k13, hw⟩ := hw
      refine hv_cVI (rm := rm_X7_no) (As := [.int r8]) (rest := []) (k := 1) (ci := 7) hx hb hml hown hKK hH cf7 k13 (m_X7_no v0 r8 _ _ hw) cw_X7_170 ⟨Nat.le_of_ble_eq_true rfl, Nat.le_of_ble_eq_true rfl⟩ rfl hl.1 rfl (Nat.le_of_ble_eq_true rfl) ⟨Nat.le_of_ble_eq_true rfl, Nat.le_of_ble_eq_true rfl⟩ dX7_walls_25 (fun r15 h14 H locs hH hw => ?_)
      exact hv_iret hx hb hr hlk hH hw dX7_walls_28
  · have hw := ite_t hw c3
    refine lv_iconst (v := (-1)) hx hb dX7_walls_7 (by decide) ?_
    refine lv_goto (tgt := 18) hx hb dX7_walls_8 (by decide) ?_
    refine lv_istore_n (lv' := [(3, .int (-1)), (0, .ref v0), (1, .int v1), (2, .int v2)]) hx hb dX7_walls_18 rfl hl (by decide) rfl (fun ls hl => ?_)
    refine lv_iload_n hx hb dX7_walls_19 rfl (lv_at hl 0 rfl) ?_
    refine lv_if_eq (tgt := 29) hx hb dX7_walls_20 (by decide) (fun c => absurd c (by decide)) (fun _ => ?_)
    refine lv_aload_n hx hb dX7_walls_23 rfl (lv_at hl 1 rfl) ?_
    refine lv_iload_n hx hb dX7_walls_24 rfl (lv_at hl 0 rfl) ?_
    obtain ⟨k4, hw⟩ := hw
    refine hv_cVI (rm := rm_X7_no) (As := [.int (-1)]) (rest := []) (k := 1) (ci := 7) hx hb hml hown hKK hH cf7 k4 (m_X7_no v0 (-1) _ _ hw) cw_X7_170 ⟨Nat.le_of_ble_eq_true rfl, Nat.le_of_ble_eq_true rfl⟩ rfl hl.1 rfl (Nat.le_of_ble_eq_true rfl) ⟨Nat.le_of_ble_eq_true rfl, Nat.le_of_ble_eq_true rfl⟩ dX7_walls_25 (fun r6 h5 H locs hH hw => ?_)
    exact hv_iret hx hb hr hlk hH hw dX7_walls_28
abbrev rm_X7_folk : Room := { frames := 3, cells := 0, slots := 0, locals := 64 }
set_option maxHeartbeats 4000000 in
set_option maxRecDepth 100000 in
theorem m_X7_folk {l : Launch} {G : Gl} {B sz : Nat} {S : St} (v0 : Nat) (v1 : Int32) (v2 : Int32) (v3 : Int32) (h : Hp) (Q : Int32 → Hp → Prop) (hw : w_X7_folk S v0 v1 v2 v3 h Q) : MI l G B sz S yX7_folk cX7_folk 6 .int rm_X7_folk [.ref v0, .int v1, .int v2, .int v3] h Q := by
  refine met_of rfl rfl ?_
  intro p e s m args below meth c hMB H ls hH hl
  obtain ⟨hx, hb, hml, hown, hKK, hr, hlk⟩ := hMB
  replace hl : lv_has ls 6 [(0, .ref v0), (1, .int v1), (2, .int v2), (3, .int v3)] := hl
  have c42 : ∀  (v0 : Nat) (v1 : Int32) (v2 : Int32) (v3 : Int32) (s0 : Int32) (h : Hp) (H : Heap) (locs : List Loc) (ls : Array Slot), HH G B S h sz s H locs → lv_has ls 6 [(0, .ref v0), (1, .int v1), (2, .int v2), (3, .int v3)] → w_X7_folk_c42 S v0 v1 v2 v3 s0 h Q → W p l e rm_X7_folk s m args below meth c H locs 0 0 (QI G B S sz below args s Q) (F0 m 42 ls [.int s0]) := by
    intro  v0 v1 v2 v3 s0 h H locs ls hH hl hw
    unfold w_X7_folk_c42 at hw
    refine lv_istore (lv' := [(4, .int s0), (0, .ref v0), (1, .int v1), (2, .int v2), (3, .int v3)]) hx hb dX7_folk_42 hl (by decide) rfl (fun ls hl => ?_)
    refine lv_iload hx hb dX7_folk_44 (lv_at hl 0 rfl) ?_
    refine lv_if_eq (tgt := 56) hx hb dX7_folk_46 (by decide) (fun c1 => ?_) (fun c1 => ?_)
    · have hw := ite_t hw c1
      refine lv_aload_n hx hb dX7_folk_56 rfl (lv_at hl 1 rfl) ?_
      obtain ⟨k2, hw⟩ := hw
      refine hv_cVV (rm := rm_X7_remembers) (As := []) (rest := []) (k := 0) (ci := 7) hx hb hml hown hKK hH cf7 k2 (m_X7_remembers v0 _ _ hw) cw_X7_336 ⟨Nat.le_of_ble_eq_true rfl, Nat.le_of_ble_eq_true rfl⟩ rfl hl.1 rfl (Nat.le_of_ble_eq_true rfl) ⟨Nat.le_of_ble_eq_true rfl, Nat.le_of_ble_eq_true rfl⟩ dX7_folk_57 (fun h3 H locs hH hw => ?_)
      refine lv_bipush (v := (nI 10)) hx hb dX7_folk_60 (by decide) ?_
      refine lv_aload_n hx hb dX7_folk_62 rfl (lv_at hl 1 rfl) ?_
      refine hv_get (ci := 7) (k := 3) (v := .ref (S.2 v0 3)) hx hb hown hKK hH cf7 (by decide) fl_X7_19 rfl k2 rfl dX7_folk_63 ?_
      refine lv_iload_n hx hb dX7_folk_66 rfl (lv_at hl 2 rfl) ?_
      obtain ⟨k4, hw⟩ := hw
      refine hv_iald hx hb hKK hH k4 dX7_folk_67 ?_
      refine lv_imul hx hb dX7_folk_68 ?_
      refine lv_aload_n hx hb dX7_folk_69 rfl (lv_at hl 1 rfl) ?_
      refine hv_get (ci := 7) (k := 2) (v := .ref (S.2 v0 2)) hx hb hown hKK hH cf7 (by decide) fl_X7_16 rfl k2 rfl dX7_folk_70 ?_
      refine lv_iload_n hx hb dX7_folk_73 rfl (lv_at hl 2 rfl) ?_
      obtain ⟨k5, hw⟩ := hw
      refine hv_iald hx hb hKK hH k5 dX7_folk_74 ?_
      refine lv_iadd hx hb dX7_folk_75 ?_
      refine lv_istore (lv' := [(5, .int (((nI 10) * (h3 (S.2 v0 3) (ix v1))) + (h3 (S.2 v0 2) (ix v1)))), (4, .int s0), (0, .ref v0), (1, .int v1), (2, .int v2), (3, .int v3)]) hx hb dX7_folk_76 hl (by decide) rfl (fun ls hl => ?_)
      refine lv_aload_n hx hb dX7_folk_78 rfl (lv_at hl 2 rfl) ?_
      refine hv_get (ci := 7) (k := 2) (v := .ref (S.2 v0 2)) hx hb hown hKK hH cf7 (by decide) fl_X7_16 rfl k2 rfl dX7_folk_79 ?_
      refine lv_iload_n hx hb dX7_folk_82 rfl (lv_at hl 3 rfl) ?_
      refine lv_iload_n hx hb dX7_folk_83 rfl (lv_at hl 4 rfl) ?_
      refine hv_iast hx hb hKK hH k5 dX7_folk_84 (fun H locs hH => ?_)
      refine lv_aload_n hx hb dX7_folk_85 rfl (lv_at hl 2 rfl) ?_
      refine hv_get (ci := 7) (k := 3) (v := .ref (S.2 v0 3)) hx hb hown hKK hH cf7 (by decide) fl_X7_19 rfl k2 rfl dX7_folk_86 ?_
      refine lv_iload_n hx hb dX7_folk_89 rfl (lv_at hl 3 rfl) ?_
      refine lv_iload_n hx hb dX7_folk_90 rfl (lv_at hl 5 rfl) ?_
      refine hv_iast hx hb hKK hH k4 dX7_folk_91 (fun H locs hH => ?_)
      refine lv_iload hx hb dX7_folk_92 (lv_at hl 0 rfl) ?_
      exact hv_iret hx hb hr hlk hH hw dX7_folk_94
    · have hw := ite_f hw c1
      refine lv_aload_n hx hb dX7_folk_49 rfl (lv_at hl 1 rfl) ?_
      refine lv_iload hx hb dX7_folk_50 (lv_at hl 0 rfl) ?_
      obtain ⟨k6, hw⟩ := hw
      refine hv_cVI (rm := rm_X7_no) (As := [.int s0]) (rest := []) (k := 1) (ci := 7) hx hb hml hown hKK hH cf7 k6 (m_X7_no v0 s0 _ _ hw) cw_X7_170 ⟨Nat.le_of_ble_eq_true rfl, Nat.le_of_ble_eq_true rfl⟩ rfl hl.1 rfl (Nat.le_of_ble_eq_true rfl) ⟨Nat.le_of_ble_eq_true rfl, Nat.le_of_ble_eq_true rfl⟩ dX7_folk_52 (fun r8 h7 H locs hH hw => ?_)
      exact hv_iret hx hb hr hlk hH hw dX7_folk_55
  unfold w_X7_folk at hw
  show W p l e rm_X7_folk s m args below meth c H [] 0 0 (QI G B S sz below args s Q) (F0 m 0 ls [])
  generalize ([] : List Loc) = locs at hH ⊢
  refine lv_iload_n hx hb dX7_folk_0 rfl (lv_at hl 1 rfl) ?_
  refine hv_cSI (rm := rm_X7_isField) (As := [.int v1]) (rest := []) (k := 1) hx hb hml hown hKK hH (m_X7_isField v1 _ _ hw) cw_X7_244 ⟨Nat.le_of_ble_eq_true rfl, Nat.le_of_ble_eq_true rfl⟩ rfl hl.1 rfl (Nat.le_of_ble_eq_true rfl) ⟨Nat.le_of_ble_eq_true rfl, Nat.le_of_ble_eq_true rfl⟩ dX7_folk_1 (fun r2 h1 H locs hH hw => ?_)
  refine lv_if_ne (tgt := 11) hx hb dX7_folk_4 (by decide) (fun c3 => ?_) (fun c3 => ?_)
  · have hw := ite_f hw c3
    refine lv_iload_n hx hb dX7_folk_11 rfl (lv_at hl 2 rfl) ?_
    refine lv_if_lt (tgt := 19) hx hb dX7_folk_12 (by decide) (fun c4 => ?_) (fun c4 => ?_)
    · have hw := ite_t hw c4
      refine lv_bipush (v := (-4)) hx hb dX7_folk_19 (by decide) ?_
      refine lv_goto (tgt := 42) hx hb dX7_folk_21 (by decide) ?_
      exact c42 _ _ _ _ _ _ H locs ls hH (lv_sub hl [0, 1, 2, 3] rfl) hw
    · have hw := ite_f hw c4
      refine lv_iload_n hx hb dX7_folk_15 rfl (lv_at hl 3 rfl) ?_
      refine lv_if_ge (tgt := 24) hx hb dX7_folk_16 (by decide) (fun c5 => ?_) (fun c5 => ?_)
      · have hw := ite_t hw c5
        refine lv_iload_n hx hb dX7_folk_24 rfl (lv_at hl 2 rfl) ?_
        refine lv_bipush (v := (nI 9)) hx hb dX7_folk_25 (by decide) ?_
        refine lv_icmp_gt (tgt := 36) hx hb dX7_folk_27 (by decide) (fun c6 => ?_) (fun c6 => ?_)
        · have hw := ite_t hw c6
          refine lv_bipush (v := (-6)) hx hb dX7_folk_36 (by decide) ?_
          refine lv_goto (tgt := 42) hx hb dX7_folk_38 (by decide) ?_
          exact c42 _ _ _ _ _ _ H locs ls hH (lv_sub hl [0, 1, 2, 3] rfl) hw
        · have hw := ite_f hw c6
          refine lv_iload_n hx hb dX7_folk_30 rfl (lv_at hl 3 rfl) ?_
          refine lv_bipush (v := (nI 25)) hx hb dX7_folk_31 (by decide) ?_
          refine lv_icmp_le (tgt := 41) hx hb dX7_folk_33 (by decide) (fun c7 => ?_) (fun c7 => ?_)
          · have hw := ite_t hw c7
            refine lv_iconst (v := (nI 0)) hx hb dX7_folk_41 (by decide) ?_
            exact c42 _ _ _ _ _ _ H locs ls hH (lv_sub hl [0, 1, 2, 3] rfl) hw
          · have hw := ite_f hw c7
            refine lv_bipush (v := (-6)) hx hb dX7_folk_36 (by decide) ?_
            refine lv_goto (tgt := 42) hx hb dX7_folk_38 (by decide) ?_
            exact c42 _ _ _ _ _ _ H locs ls hH (lv_sub hl [0, 1, 2, 3] rfl) hw
      · have hw := ite_f hw c5
        refine lv_bipush (v := (-4)) hx hb dX7_folk_19 (by decide) ?_
        refine lv_goto (tgt := 42) hx hb dX7_folk_21 (by decide) ?_
        exact c42 _ _ _ _ _ _ H locs ls hH (lv_sub hl [0, 1, 2, 3] rfl) hw
  · have hw := ite_t hw c3
    refine lv_iconst (v := (-1)) hx hb dX7_folk_7 (by decide) ?_
    refine lv_goto (tgt := 42) hx hb dX7_folk_8 (by decide) ?_
    exact c42 _ _ _ _ _ _ H locs ls hH (lv_sub hl [0, 1, 2, 3] rfl) hw
abbrev rm_X7_nights : Room := { frames := 7, cells := 0, slots := 0, locals := 161 }
set_option maxHeartbeats 4000000 in
set_option maxRecDepth 100000 in
theorem m_X7_nights {l : Launch} {G : Gl} {B sz : Nat} {S : St} (v0 : Nat) (v1 : Int32) (h : Hp) (Q : Int32 → Hp → Prop) (hw : w_X7_nights S v0 v1 h Q) : MI l G B sz S yX7_nights cX7_nights 3 .int rm_X7_nights [.ref v0, .int v1] h Q := by
  refine met_of rfl rfl ?_
  intro p e s m args below meth c hMB H ls hH hl
  obtain ⟨hx, hb, hml, hown, hKK, hr, hlk⟩ := hMB
  replace hl : lv_has ls 3 [(0, .ref v0), (1, .int v1)] := hl
  unfold w_X7_nights at hw
  show W p l e rm_X7_nights s m args below meth c H [] 0 0 (QI G B S sz below args s Q) (F0 m 0 ls [])
  generalize ([] : List Loc) = locs at hH ⊢
  refine lv_iload_n hx hb dX7_nights_0 rfl (lv_at hl 1 rfl) ?_
  refine lv_iconst (v := (nI 1)) hx hb dX7_nights_1 (by decide) ?_
  refine lv_bipush (v := (nI 60)) hx hb dX7_nights_2 (by decide) ?_
  refine hv_cSI (rm := rm_X7_bound) (As := [.int v1, .int (nI 1), .int (nI 60)]) (rest := []) (k := 3) hx hb hml hown hKK hH (m_X7_bound v1 (nI 1) (nI 60) _ _ hw) cw_X7_163 ⟨Nat.le_of_ble_eq_true rfl, Nat.le_of_ble_eq_true rfl⟩ rfl hl.1 rfl (Nat.le_of_ble_eq_true rfl) ⟨Nat.le_of_ble_eq_true rfl, Nat.le_of_ble_eq_true rfl⟩ dX7_nights_4 (fun r2 h1 H locs hH hw => ?_)
  refine lv_istore_n (lv' := [(2, .int r2), (0, .ref v0), (1, .int v1)]) hx hb dX7_nights_7 rfl hl (by decide) rfl (fun ls hl => ?_)
  refine lv_iload_n hx hb dX7_nights_8 rfl (lv_at hl 0 rfl) ?_
  refine lv_if_ne (tgt := 27) hx hb dX7_nights_9 (by decide) (fun c3 => ?_) (fun c3 => ?_)
  · have hw := ite_f hw c3
    refine lv_iload_n hx hb dX7_nights_27 rfl (lv_at hl 0 rfl) ?_
    refine lv_if_eq (tgt := 37) hx hb dX7_nights_28 (by decide) (fun c => absurd c c3) (fun _ => ?_)
    refine lv_aload_n hx hb dX7_nights_31 rfl (lv_at hl 1 rfl) ?_
    refine lv_iload_n hx hb dX7_nights_32 rfl (lv_at hl 0 rfl) ?_
    obtain ⟨k10, hw⟩ := hw
    refine hv_cVI (rm := rm_X7_no) (As := [.int r2]) (rest := []) (k := 1) (ci := 7) hx hb hml hown hKK hH cf7 k10 (m_X7_no v0 r2 _ _ hw) cw_X7_170 ⟨Nat.le_of_ble_eq_true rfl, Nat.le_of_ble_eq_true rfl⟩ rfl hl.1 rfl (Nat.le_of_ble_eq_true rfl) ⟨Nat.le_of_ble_eq_true rfl, Nat.le_of_ble_eq_true rfl⟩ dX7_nights_33 (fun r12 h11 H locs hH hw => ?_)
    exact hv_iret hx hb hr hlk hH hw dX7_nights_36
  · have hw := ite_t hw c3
    refine lv_aload_n hx hb dX7_nights_12 rfl (lv_at hl 1 rfl) ?_
    obtain ⟨k4, hw⟩ := hw
    refine hv_get (ci := 7) (k := 14) (v := .int (h1 v0 14)) hx hb hown hKK hH cf7 (by decide) fl_X7_136 rfl k4 rfl dX7_nights_13 ?_
    refine lv_iload_n hx hb dX7_nights_16 rfl (lv_at hl 2 rfl) ?_
    refine lv_iadd hx hb dX7_nights_17 ?_
    refine lv_sipush (v := (nI 999)) hx hb dX7_nights_18 (by decide) ?_
    refine lv_icmp_le (tgt := 27) hx hb dX7_nights_21 (by decide) (fun c5 => ?_) (fun c5 => ?_)
    · have hw := ite_t hw c5
      refine lv_iload_n hx hb dX7_nights_27 rfl (lv_at hl 0 rfl) ?_
      refine lv_if_eq (tgt := 37) hx hb dX7_nights_28 (by decide) (fun _ => ?_) (fun c => absurd c3 c)
      refine lv_aload_n hx hb dX7_nights_37 rfl (lv_at hl 1 rfl) ?_
      refine hv_cVV (rm := rm_X7_remembers) (As := []) (rest := []) (k := 0) (ci := 7) hx hb hml hown hKK hH cf7 k4 (m_X7_remembers v0 _ _ hw) cw_X7_336 ⟨Nat.le_of_ble_eq_true rfl, Nat.le_of_ble_eq_true rfl⟩ rfl hl.1 rfl (Nat.le_of_ble_eq_true rfl) ⟨Nat.le_of_ble_eq_true rfl, Nat.le_of_ble_eq_true rfl⟩ dX7_nights_38 (fun h6 H locs hH hw => ?_)
      refine lv_aload_n hx hb dX7_nights_41 rfl (lv_at hl 1 rfl) ?_
      refine lv_iload_n hx hb dX7_nights_42 rfl (lv_at hl 2 rfl) ?_
      refine hv_cVV (rm := rm_X7_goes) (As := [.int v1]) (rest := []) (k := 1) (ci := 7) hx hb hml hown hKK hH cf7 k4 (m_X7_goes v0 v1 _ _ hw) cw_X7_261 ⟨Nat.le_of_ble_eq_true rfl, Nat.le_of_ble_eq_true rfl⟩ rfl hl.1 rfl (Nat.le_of_ble_eq_true rfl) ⟨Nat.le_of_ble_eq_true rfl, Nat.le_of_ble_eq_true rfl⟩ dX7_nights_43 (fun h7 H locs hH hw => ?_)
      refine lv_aload_n hx hb dX7_nights_46 rfl (lv_at hl 1 rfl) ?_
      refine hv_get (ci := 7) (k := 15) (v := .int (h7 v0 15)) hx hb hown hKK hH cf7 (by decide) fl_X7_127 rfl k4 rfl dX7_nights_47 ?_
      exact hv_iret hx hb hr hlk hH hw dX7_nights_50
    · have hw := ite_f hw c5
      refine lv_bipush (v := (-6)) hx hb dX7_nights_24 (by decide) ?_
      refine lv_istore_n (lv' := [(2, .int (-6)), (0, .ref v0), (1, .int v1)]) hx hb dX7_nights_26 rfl hl (by decide) rfl (fun ls hl => ?_)
      refine lv_iload_n hx hb dX7_nights_27 rfl (lv_at hl 0 rfl) ?_
      refine lv_if_eq (tgt := 37) hx hb dX7_nights_28 (by decide) (fun c => absurd c (by decide)) (fun _ => ?_)
      refine lv_aload_n hx hb dX7_nights_31 rfl (lv_at hl 1 rfl) ?_
      refine lv_iload_n hx hb dX7_nights_32 rfl (lv_at hl 0 rfl) ?_
      refine hv_cVI (rm := rm_X7_no) (As := [.int (-6)]) (rest := []) (k := 1) (ci := 7) hx hb hml hown hKK hH cf7 k4 (m_X7_no v0 (-6) _ _ hw) cw_X7_170 ⟨Nat.le_of_ble_eq_true rfl, Nat.le_of_ble_eq_true rfl⟩ rfl hl.1 rfl (Nat.le_of_ble_eq_true rfl) ⟨Nat.le_of_ble_eq_true rfl, Nat.le_of_ble_eq_true rfl⟩ dX7_nights_33 (fun r9 h8 H locs hH hw => ?_)
      exact hv_iret hx hb hr hlk hH hw dX7_nights_36
abbrev rm_X7_headThen : Room := { frames := 7, cells := 0, slots := 0, locals := 161 }
set_option maxHeartbeats 4000000 in
set_option maxRecDepth 100000 in
theorem m_X7_headThen {l : Launch} {G : Gl} {B sz : Nat} {S : St} (v0 : Nat) (v1 : Int32) (v2 : Int32) (v3 : Int32) (h : Hp) (Q : Int32 → Hp → Prop) (hw : w_X7_headThen S v0 v1 v2 v3 h Q) : MI l G B sz S yX7_headThen cX7_headThen 6 .int rm_X7_headThen [.ref v0, .int v1, .int v2, .int v3] h Q := by
  refine met_of rfl rfl ?_
  intro p e s m args below meth c hMB H ls hH hl
  obtain ⟨hx, hb, hml, hown, hKK, hr, hlk⟩ := hMB
  replace hl : lv_has ls 6 [(0, .ref v0), (1, .int v1), (2, .int v2), (3, .int v3)] := hl
  have c39 : ∀  (v0 : Nat) (v1 : Int32) (v2 : Int32) (v3 : Int32) (v4 : Int32) (h : Hp) (H : Heap) (locs : List Loc) (ls : Array Slot), HH G B S h sz s H locs → lv_has ls 6 [(0, .ref v0), (1, .int v1), (2, .int v2), (3, .int v3), (4, .int v4)] → w_X7_headThen_c39 S v0 v1 v2 v3 v4 h Q → W p l e rm_X7_headThen s m args below meth c H locs 0 0 (QI G B S sz below args s Q) (F0 m 39 ls []) := by
    intro  v0 v1 v2 v3 v4 h H locs ls hH hl hw
    unfold w_X7_headThen_c39 at hw
    refine lv_iload hx hb dX7_headThen_39 (lv_at hl 4 rfl) ?_
    refine lv_if_eq (tgt := 51) hx hb dX7_headThen_41 (by decide) (fun c1 => ?_) (fun c1 => ?_)
    · have hw := ite_t hw c1
      refine lv_aload_n hx hb dX7_headThen_51 rfl (lv_at hl 0 rfl) ?_
      obtain ⟨k2, hw⟩ := hw
      refine hv_cVV (rm := rm_X7_minds) (As := []) (rest := []) (k := 0) (ci := 7) hx hb hml hown hKK hH cf7 k2 (m_X7_minds v0 _ _ hw) cw_X7_343 ⟨Nat.le_of_ble_eq_true rfl, Nat.le_of_ble_eq_true rfl⟩ rfl hl.1 rfl (Nat.le_of_ble_eq_true rfl) ⟨Nat.le_of_ble_eq_true rfl, Nat.le_of_ble_eq_true rfl⟩ dX7_headThen_52 (fun h3 H locs hH hw => ?_)
      refine lv_aload_n hx hb dX7_headThen_55 rfl (lv_at hl 0 rfl) ?_
      refine lv_iload_n hx hb dX7_headThen_56 rfl (lv_at hl 2 rfl) ?_
      refine hv_cVV (rm := rm_X7_goes) (As := [.int v2]) (rest := []) (k := 1) (ci := 7) hx hb hml hown hKK hH cf7 k2 (m_X7_goes v0 v2 _ _ hw) cw_X7_261 ⟨Nat.le_of_ble_eq_true rfl, Nat.le_of_ble_eq_true rfl⟩ rfl hl.1 rfl (Nat.le_of_ble_eq_true rfl) ⟨Nat.le_of_ble_eq_true rfl, Nat.le_of_ble_eq_true rfl⟩ dX7_headThen_57 (fun h4 H locs hH hw => ?_)
      refine lv_iload_n hx hb dX7_headThen_60 rfl (lv_at hl 3 rfl) ?_
      refine lv_if_ne (tgt := 73) hx hb dX7_headThen_61 (by decide) (fun c5 => ?_) (fun c5 => ?_)
      · have hw := ite_f hw c5
        refine lv_iload_n hx hb dX7_headThen_73 rfl (lv_at hl 3 rfl) ?_
        refine lv_iconst (v := (nI 1)) hx hb dX7_headThen_74 (by decide) ?_
        refine lv_icmp_ne (tgt := 87) hx hb dX7_headThen_75 (by decide) (fun c8 => ?_) (fun c8 => ?_)
        · have hw := ite_f hw c8
          refine lv_iload_n hx hb dX7_headThen_87 rfl (lv_at hl 3 rfl) ?_
          refine lv_iconst (v := (nI 2)) hx hb dX7_headThen_88 (by decide) ?_
          refine lv_icmp_ne (tgt := 101) hx hb dX7_headThen_89 (by decide) (fun c11 => ?_) (fun c11 => ?_)
          · have hw := ite_f hw c11
            refine lv_aload_n hx hb dX7_headThen_101 rfl (lv_at hl 0 rfl) ?_
            refine hv_get (ci := 7) (k := 10) (v := .ref (S.2 v0 10)) hx hb hown hKK hH cf7 (by decide) fl_X7_40 rfl k2 rfl dX7_headThen_102 ?_
            refine lv_iload_n hx hb dX7_headThen_105 rfl (lv_at hl 1 rfl) ?_
            obtain ⟨k14, hw⟩ := hw
            refine hv_iald hx hb hKK hH k14 dX7_headThen_106 ?_
            refine lv_istore (lv' := [(5, .int (h4 (S.2 v0 10) (ix v1))), (0, .ref v0), (1, .int v1), (2, .int v2), (3, .int v3), (4, .int v4)]) hx hb dX7_headThen_107 hl (by decide) rfl (fun ls hl => ?_)
            refine lv_aload_n hx hb dX7_headThen_109 rfl (lv_at hl 1 rfl) ?_
            refine hv_cVV (rm := rm_X7_forgets) (As := []) (rest := []) (k := 0) (ci := 7) hx hb hml hown hKK hH cf7 k2 (m_X7_forgets v0 _ _ hw) cw_X7_346 ⟨Nat.le_of_ble_eq_true rfl, Nat.le_of_ble_eq_true rfl⟩ rfl hl.1 rfl (Nat.le_of_ble_eq_true rfl) ⟨Nat.le_of_ble_eq_true rfl, Nat.le_of_ble_eq_true rfl⟩ dX7_headThen_110 (fun h15 H locs hH hw => ?_)
            refine lv_iload hx hb dX7_headThen_113 (lv_at hl 0 rfl) ?_
            exact hv_iret hx hb hr hlk hH hw dX7_headThen_115
          · have hw := ite_t hw c11
            refine lv_aload_n hx hb dX7_headThen_92 rfl (lv_at hl 0 rfl) ?_
            refine hv_get (ci := 7) (k := 9) (v := .ref (S.2 v0 9)) hx hb hown hKK hH cf7 (by decide) fl_X7_37 rfl k2 rfl dX7_headThen_93 ?_
            refine lv_iload_n hx hb dX7_headThen_96 rfl (lv_at hl 1 rfl) ?_
            obtain ⟨k12, hw⟩ := hw
            refine hv_iald hx hb hKK hH k12 dX7_headThen_97 ?_
            refine lv_goto (tgt := 107) hx hb dX7_headThen_98 (by decide) ?_
            refine lv_istore (lv' := [(5, .int (h4 (S.2 v0 9) (ix v1))), (0, .ref v0), (1, .int v1), (2, .int v2), (3, .int v3), (4, .int v4)]) hx hb dX7_headThen_107 hl (by decide) rfl (fun ls hl => ?_)
            refine lv_aload_n hx hb dX7_headThen_109 rfl (lv_at hl 1 rfl) ?_
            refine hv_cVV (rm := rm_X7_forgets) (As := []) (rest := []) (k := 0) (ci := 7) hx hb hml hown hKK hH cf7 k2 (m_X7_forgets v0 _ _ hw) cw_X7_346 ⟨Nat.le_of_ble_eq_true rfl, Nat.le_of_ble_eq_true rfl⟩ rfl hl.1 rfl (Nat.le_of_ble_eq_true rfl) ⟨Nat.le_of_ble_eq_true rfl, Nat.le_of_ble_eq_true rfl⟩ dX7_headThen_110 (fun h13 H locs hH hw => ?_)
            refine lv_iload hx hb dX7_headThen_113 (lv_at hl 0 rfl) ?_
            exact hv_iret hx hb hr hlk hH hw dX7_headThen_115
        · have hw := ite_t hw c8
          refine lv_aload_n hx hb dX7_headThen_78 rfl (lv_at hl 0 rfl) ?_
          refine hv_get (ci := 7) (k := 7) (v := .ref (S.2 v0 7)) hx hb hown hKK hH cf7 (by decide) fl_X7_31 rfl k2 rfl dX7_headThen_79 ?_
          refine lv_iload_n hx hb dX7_headThen_82 rfl (lv_at hl 1 rfl) ?_
          obtain ⟨k9, hw⟩ := hw
          refine hv_iald hx hb hKK hH k9 dX7_headThen_83 ?_
          refine lv_goto (tgt := 107) hx hb dX7_headThen_84 (by decide) ?_
          refine lv_istore (lv' := [(5, .int (h4 (S.2 v0 7) (ix v1))), (0, .ref v0), (1, .int v1), (2, .int v2), (3, .int v3), (4, .int v4)]) hx hb dX7_headThen_107 hl (by decide) rfl (fun ls hl => ?_)
          refine lv_aload_n hx hb dX7_headThen_109 rfl (lv_at hl 1 rfl) ?_
          refine hv_cVV (rm := rm_X7_forgets) (As := []) (rest := []) (k := 0) (ci := 7) hx hb hml hown hKK hH cf7 k2 (m_X7_forgets v0 _ _ hw) cw_X7_346 ⟨Nat.le_of_ble_eq_true rfl, Nat.le_of_ble_eq_true rfl⟩ rfl hl.1 rfl (Nat.le_of_ble_eq_true rfl) ⟨Nat.le_of_ble_eq_true rfl, Nat.le_of_ble_eq_true rfl⟩ dX7_headThen_110 (fun h10 H locs hH hw => ?_)
          refine lv_iload hx hb dX7_headThen_113 (lv_at hl 0 rfl) ?_
          exact hv_iret hx hb hr hlk hH hw dX7_headThen_115
      · have hw := ite_t hw c5
        refine lv_aload_n hx hb dX7_headThen_64 rfl (lv_at hl 0 rfl) ?_
        refine hv_get (ci := 7) (k := 6) (v := .ref (S.2 v0 6)) hx hb hown hKK hH cf7 (by decide) fl_X7_28 rfl k2 rfl dX7_headThen_65 ?_
        refine lv_iload_n hx hb dX7_headThen_68 rfl (lv_at hl 1 rfl) ?_
        obtain ⟨k6, hw⟩ := hw
        refine hv_iald hx hb hKK hH k6 dX7_headThen_69 ?_
        refine lv_goto (tgt := 107) hx hb dX7_headThen_70 (by decide) ?_
        refine lv_istore (lv' := [(5, .int (h4 (S.2 v0 6) (ix v1))), (0, .ref v0), (1, .int v1), (2, .int v2), (3, .int v3), (4, .int v4)]) hx hb dX7_headThen_107 hl (by decide) rfl (fun ls hl => ?_)
        refine lv_aload_n hx hb dX7_headThen_109 rfl (lv_at hl 1 rfl) ?_
        refine hv_cVV (rm := rm_X7_forgets) (As := []) (rest := []) (k := 0) (ci := 7) hx hb hml hown hKK hH cf7 k2 (m_X7_forgets v0 _ _ hw) cw_X7_346 ⟨Nat.le_of_ble_eq_true rfl, Nat.le_of_ble_eq_true rfl⟩ rfl hl.1 rfl (Nat.le_of_ble_eq_true rfl) ⟨Nat.le_of_ble_eq_true rfl, Nat.le_of_ble_eq_true rfl⟩ dX7_headThen_110 (fun h7 H locs hH hw => ?_)
        refine lv_iload hx hb dX7_headThen_113 (lv_at hl 0 rfl) ?_
        exact hv_iret hx hb hr hlk hH hw dX7_headThen_115
    · have hw := ite_f hw c1
      refine lv_aload_n hx hb dX7_headThen_44 rfl (lv_at hl 0 rfl) ?_
      refine lv_iload hx hb dX7_headThen_45 (lv_at hl 4 rfl) ?_
      obtain ⟨k16, hw⟩ := hw
      refine hv_cVI (rm := rm_X7_no) (As := [.int v4]) (rest := []) (k := 1) (ci := 7) hx hb hml hown hKK hH cf7 k16 (m_X7_no v0 v4 _ _ hw) cw_X7_170 ⟨Nat.le_of_ble_eq_true rfl, Nat.le_of_ble_eq_true rfl⟩ rfl hl.1 rfl (Nat.le_of_ble_eq_true rfl) ⟨Nat.le_of_ble_eq_true rfl, Nat.le_of_ble_eq_true rfl⟩ dX7_headThen_47 (fun r18 h17 H locs hH hw => ?_)
      exact hv_iret hx hb hr hlk hH hw dX7_headThen_50
  unfold w_X7_headThen at hw
  show W p l e rm_X7_headThen s m args below meth c H [] 0 0 (QI G B S sz below args s Q) (F0 m 0 ls [])
  generalize ([] : List Loc) = locs at hH ⊢
  refine lv_aload_n hx hb dX7_headThen_0 rfl (lv_at hl 0 rfl) ?_
  refine lv_iload_n hx hb dX7_headThen_1 rfl (lv_at hl 1 rfl) ?_
  obtain ⟨k1, hw⟩ := hw
  refine hv_cVI (rm := rm_X7_isHead) (As := [.int v1]) (rest := []) (k := 1) (ci := 7) hx hb hml hown hKK hH cf7 k1 (m_X7_isHead v0 v1 _ _ hw) cw_X7_89 ⟨Nat.le_of_ble_eq_true rfl, Nat.le_of_ble_eq_true rfl⟩ rfl hl.1 rfl (Nat.le_of_ble_eq_true rfl) ⟨Nat.le_of_ble_eq_true rfl, Nat.le_of_ble_eq_true rfl⟩ dX7_headThen_2 (fun r3 h2 H locs hH hw => ?_)
  refine lv_if_ne (tgt := 12) hx hb dX7_headThen_5 (by decide) (fun c4 => ?_) (fun c4 => ?_)
  · have hw := ite_f hw c4
    refine lv_iload_n hx hb dX7_headThen_12 rfl (lv_at hl 2 rfl) ?_
    refine lv_iconst (v := (nI 0)) hx hb dX7_headThen_13 (by decide) ?_
    refine lv_bipush (v := (nI 60)) hx hb dX7_headThen_14 (by decide) ?_
    refine hv_cSI (rm := rm_X7_bound) (As := [.int v2, .int (nI 0), .int (nI 60)]) (rest := []) (k := 3) hx hb hml hown hKK hH (m_X7_bound v2 (nI 0) (nI 60) _ _ hw) cw_X7_163 ⟨Nat.le_of_ble_eq_true rfl, Nat.le_of_ble_eq_true rfl⟩ rfl hl.1 rfl (Nat.le_of_ble_eq_true rfl) ⟨Nat.le_of_ble_eq_true rfl, Nat.le_of_ble_eq_true rfl⟩ dX7_headThen_16 (fun r6 h5 H locs hH hw => ?_)
    refine lv_istore (lv' := [(4, .int r6), (0, .ref v0), (1, .int v1), (2, .int v2), (3, .int v3)]) hx hb dX7_headThen_19 hl (by decide) rfl (fun ls hl => ?_)
    refine lv_iload hx hb dX7_headThen_21 (lv_at hl 0 rfl) ?_
    refine lv_if_ne (tgt := 39) hx hb dX7_headThen_23 (by decide) (fun c7 => ?_) (fun c7 => ?_)
    · have hw := ite_f hw c7
      exact c39 _ _ _ _ _ _ H locs ls hH (lv_sub hl [1, 2, 3, 4, 0] rfl) hw
    · have hw := ite_t hw c7
      refine lv_iload_n hx hb dX7_headThen_26 rfl (lv_at hl 4 rfl) ?_
      refine lv_iconst (v := (nI 0)) hx hb dX7_headThen_27 (by decide) ?_
      refine lv_iconst (v := (nI 3)) hx hb dX7_headThen_28 (by decide) ?_
      refine hv_cSI (rm := rm_X7_isIn) (As := [.int v3, .int (nI 0), .int (nI 3)]) (rest := []) (k := 3) hx hb hml hown hKK hH (m_X7_isIn v3 (nI 0) (nI 3) _ _ hw) cw_X7_85 ⟨Nat.le_of_ble_eq_true rfl, Nat.le_of_ble_eq_true rfl⟩ rfl hl.1 rfl (Nat.le_of_ble_eq_true rfl) ⟨Nat.le_of_ble_eq_true rfl, Nat.le_of_ble_eq_true rfl⟩ dX7_headThen_29 (fun r9 h8 H locs hH hw => ?_)
      refine lv_if_ne (tgt := 39) hx hb dX7_headThen_32 (by decide) (fun c10 => ?_) (fun c10 => ?_)
      · have hw := ite_f hw c10
        exact c39 _ _ _ _ _ _ H locs ls hH (lv_sub hl [1, 2, 3, 4, 0] rfl) hw
      · have hw := ite_t hw c10
        refine lv_bipush (v := (-2)) hx hb dX7_headThen_35 (by decide) ?_
        refine lv_istore (lv' := [(4, .int (-2)), (0, .ref v0), (1, .int v1), (2, .int v2), (3, .int v3)]) hx hb dX7_headThen_37 hl (by decide) rfl (fun ls hl => ?_)
        exact c39 _ _ _ _ _ _ H locs ls hH (lv_sub hl [1, 2, 3, 4, 0] rfl) hw
  · have hw := ite_t hw c4
    refine lv_iconst (v := (-1)) hx hb dX7_headThen_8 (by decide) ?_
    refine lv_goto (tgt := 19) hx hb dX7_headThen_9 (by decide) ?_
    refine lv_istore (lv' := [(4, .int (-1)), (0, .ref v0), (1, .int v1), (2, .int v2), (3, .int v3)]) hx hb dX7_headThen_19 hl (by decide) rfl (fun ls hl => ?_)
    refine lv_iload hx hb dX7_headThen_21 (lv_at hl 0 rfl) ?_
    refine lv_if_ne (tgt := 39) hx hb dX7_headThen_23 (by decide) (fun _ => ?_) (fun c => absurd c (by decide))
    exact c39 _ _ _ _ _ _ H locs ls hH (lv_sub hl [1, 2, 3, 4, 0] rfl) hw
abbrev rm_X7_setSettled : Room := { frames := 0, cells := 0, slots := 0, locals := 0 }
set_option maxHeartbeats 4000000 in
set_option maxRecDepth 100000 in
theorem m_X7_setSettled {l : Launch} {G : Gl} {B sz : Nat} {S : St} (v0 : Nat) (h : Hp) (Q : Int32 → Hp → Prop) (hw : w_X7_setSettled S v0 h Q) : MI l G B sz S yX7_setSettled cX7_setSettled 3 .int rm_X7_setSettled [.ref v0] h Q := by
  refine met_of rfl rfl ?_
  intro p e s m args below meth c hMB H ls hH hl
  obtain ⟨hx, hb, hml, hown, hKK, hr, hlk⟩ := hMB
  replace hl : lv_has ls 3 [(0, .ref v0)] := hl
  have c4 : ∀  (v0 : Nat) (v1 : Int32) (v2 : Int32) (h : Hp) (H : Heap) (locs : List Loc) (ls : Array Slot), HH G B S h sz s H locs → lv_has ls 3 [(0, .ref v0), (1, .int v1), (2, .int v2)] → w_X7_setSettled_c4 S v0 v1 v2 h Q → W p l e rm_X7_setSettled s m args below meth c H locs 0 0 (QI G B S sz below args s Q) (F0 m 4 ls []) := by
    intro  v0 v1 v2 h H locs ls hH hl hw
    unfold w_X7_setSettled_c4 at hw
    obtain ⟨P4, hP4⟩ : ∃ P : Int32 → Int32 → Hp → Prop, ∀ (v1 : Int32) (v2 : Int32) (h : Hp), P v1 v2 h ↔ (∀ (H : Heap) (locs : List Loc) (ls : Array Slot), HH G B S h sz s H locs → lv_has ls 3 [(0, .ref v0), (1, .int v1), (2, .int v2)] → W p l e rm_X7_setSettled s m args below meth c H locs 0 0 (QI G B S sz below args s Q) (F0 m 4 ls [])) := ⟨_, fun v1 v2 h => Iff.rfl⟩
    refine (hP4 v1 v2 h).1 (hw P4 (fun v1 v2 h hw => (hP4 v1 v2 h).2 (fun H locs ls hH hl => ?_))) H locs ls hH hl
    have hK4 : ∀ (v1 : Int32) (v2 : Int32) (h : Hp) (H : Heap) (locs : List Loc) (ls : Array Slot), HH G B S h sz s H locs → lv_has ls 3 [(0, .ref v0), (1, .int v1), (2, .int v2)] → P4 v1 v2 h → W p l e rm_X7_setSettled s m args below meth c H locs 0 0 (QI G B S sz below args s Q) (F0 m 4 ls []) := fun v1 v2 h H locs ls hH hl hk => (hP4 v1 v2 h).1 hk H locs ls hH hl
    refine lv_iload_n hx hb dX7_setSettled_4 rfl (lv_at hl 2 rfl) ?_
    refine lv_aload_n hx hb dX7_setSettled_5 rfl (lv_at hl 0 rfl) ?_
    obtain ⟨k1, hw⟩ := hw
    refine hv_get (ci := 7) (k := 13) (v := .int (h v0 13)) hx hb hown hKK hH cf7 (by decide) fl_X7_79 rfl k1 rfl dX7_setSettled_6 ?_
    refine lv_icmp_ge (tgt := 29) hx hb dX7_setSettled_9 (by decide) (fun c2 => ?_) (fun c2 => ?_)
    · have hw := ite_t hw c2
      refine lv_iload_n hx hb dX7_setSettled_29 rfl (lv_at hl 1 rfl) ?_
      exact hv_iret hx hb hr hlk hH hw dX7_setSettled_30
    · have hw := ite_f hw c2
      refine lv_iload_n hx hb dX7_setSettled_12 rfl (lv_at hl 1 rfl) ?_
      refine lv_aload_n hx hb dX7_setSettled_13 rfl (lv_at hl 0 rfl) ?_
      refine hv_get (ci := 7) (k := 10) (v := .ref (S.2 v0 10)) hx hb hown hKK hH cf7 (by decide) fl_X7_40 rfl k1 rfl dX7_setSettled_14 ?_
      refine lv_iload_n hx hb dX7_setSettled_17 rfl (lv_at hl 2 rfl) ?_
      obtain ⟨k3, hw⟩ := hw
      refine hv_iald hx hb hKK hH k3 dX7_setSettled_18 ?_
      refine lv_iload_n hx hb dX7_setSettled_19 rfl (lv_at hl 2 rfl) ?_
      refine lv_ishl hx hb dX7_setSettled_20 ?_
      refine lv_ior hx hb dX7_setSettled_21 ?_
      refine lv_istore_n (lv' := [(1, .int (v1 ||| (ishl (h (S.2 v0 10) (ix v2)) v2))), (0, .ref v0), (2, .int v2)]) hx hb dX7_setSettled_22 rfl hl (by decide) rfl (fun ls hl => ?_)
      refine lv_iinc (v := v2 + (nI 1)) (lv' := [(2, .int (v2 + (nI 1))), (1, .int (v1 ||| (ishl (h (S.2 v0 10) (ix v2)) v2))), (0, .ref v0)]) hx hb dX7_setSettled_23 hl (k := 2) rfl rfl (by decide) rfl (fun ls hl => ?_)
      refine lv_goto (tgt := 4) hx hb dX7_setSettled_26 (by decide) ?_
      exact hK4 _ _ _ H locs ls hH (lv_sub hl [2, 1, 0] rfl) hw
  unfold w_X7_setSettled at hw
  show W p l e rm_X7_setSettled s m args below meth c H [] 0 0 (QI G B S sz below args s Q) (F0 m 0 ls [])
  generalize ([] : List Loc) = locs at hH ⊢
  refine lv_iconst (v := (nI 0)) hx hb dX7_setSettled_0 (by decide) ?_
  refine lv_istore_n (lv' := [(1, .int (nI 0)), (0, .ref v0)]) hx hb dX7_setSettled_1 rfl hl (by decide) rfl (fun ls hl => ?_)
  refine lv_iconst (v := (nI 0)) hx hb dX7_setSettled_2 (by decide) ?_
  refine lv_istore_n (lv' := [(2, .int (nI 0)), (1, .int (nI 0)), (0, .ref v0)]) hx hb dX7_setSettled_3 rfl hl (by decide) rfl (fun ls hl => ?_)
  exact c4 _ _ _ _ H locs ls hH (lv_sub hl [2, 1, 0] rfl) hw
abbrev rm_X7_allOf : Room := { frames := 0, cells := 0, slots := 0, locals := 0 }
set_option maxHeartbeats 4000000 in
set_option maxRecDepth 100000 in
theorem m_X7_allOf {l : Launch} {G : Gl} {B sz : Nat} {S : St} (v0 : Nat) (v1 : Int32) (h : Hp) (Q : Int32 → Hp → Prop) (hw : w_X7_allOf S v0 v1 h Q) : MI l G B sz S yX7_allOf cX7_allOf 4 .int rm_X7_allOf [.ref v0, .int v1] h Q := by
  refine met_of rfl rfl ?_
  intro p e s m args below meth c hMB H ls hH hl
  obtain ⟨hx, hb, hml, hown, hKK, hr, hlk⟩ := hMB
  replace hl : lv_has ls 4 [(0, .ref v0), (1, .int v1)] := hl
  have c4 : ∀  (v0 : Nat) (v1 : Int32) (v2 : Int32) (v3 : Int32) (h : Hp) (H : Heap) (locs : List Loc) (ls : Array Slot), HH G B S h sz s H locs → lv_has ls 4 [(0, .ref v0), (1, .int v1), (2, .int v2), (3, .int v3)] → w_X7_allOf_c4 S v0 v1 v2 v3 h Q → W p l e rm_X7_allOf s m args below meth c H locs 0 0 (QI G B S sz below args s Q) (F0 m 4 ls []) := by
    intro  v0 v1 v2 v3 h H locs ls hH hl hw
    unfold w_X7_allOf_c4 at hw
    obtain ⟨P4, hP4⟩ : ∃ P : Int32 → Int32 → Hp → Prop, ∀ (v2 : Int32) (v3 : Int32) (h : Hp), P v2 v3 h ↔ (∀ (H : Heap) (locs : List Loc) (ls : Array Slot), HH G B S h sz s H locs → lv_has ls 4 [(0, .ref v0), (1, .int v1), (2, .int v2), (3, .int v3)] → W p l e rm_X7_allOf s m args below meth c H locs 0 0 (QI G B S sz below args s Q) (F0 m 4 ls [])) := ⟨_, fun v2 v3 h => Iff.rfl⟩
    refine (hP4 v2 v3 h).1 (hw P4 (fun v2 v3 h hw => (hP4 v2 v3 h).2 (fun H locs ls hH hl => ?_))) H locs ls hH hl
    have hK4 : ∀ (v2 : Int32) (v3 : Int32) (h : Hp) (H : Heap) (locs : List Loc) (ls : Array Slot), HH G B S h sz s H locs → lv_has ls 4 [(0, .ref v0), (1, .int v1), (2, .int v2), (3, .int v3)] → P4 v2 v3 h → W p l e rm_X7_allOf s m args below meth c H locs 0 0 (QI G B S sz below args s Q) (F0 m 4 ls []) := fun v2 v3 h H locs ls hH hl hk => (hP4 v2 v3 h).1 hk H locs ls hH hl
    refine lv_iload_n hx hb dX7_allOf_4 rfl (lv_at hl 3 rfl) ?_
    refine lv_iload_n hx hb dX7_allOf_5 rfl (lv_at hl 1 rfl) ?_
    refine lv_icmp_ge (tgt := 21) hx hb dX7_allOf_6 (by decide) (fun c1 => ?_) (fun c1 => ?_)
    · have hw := ite_t hw c1
      refine lv_iload_n hx hb dX7_allOf_21 rfl (lv_at hl 2 rfl) ?_
      exact hv_iret hx hb hr hlk hH hw dX7_allOf_22
    · have hw := ite_f hw c1
      refine lv_iload_n hx hb dX7_allOf_9 rfl (lv_at hl 2 rfl) ?_
      refine lv_aload_n hx hb dX7_allOf_10 rfl (lv_at hl 0 rfl) ?_
      refine lv_iload_n hx hb dX7_allOf_11 rfl (lv_at hl 3 rfl) ?_
      obtain ⟨k2, hw⟩ := hw
      refine hv_iald hx hb hKK hH k2 dX7_allOf_12 ?_
      refine lv_iadd hx hb dX7_allOf_13 ?_
      refine lv_istore_n (lv' := [(2, .int (v2 + (h v0 (ix v3)))), (0, .ref v0), (1, .int v1), (3, .int v3)]) hx hb dX7_allOf_14 rfl hl (by decide) rfl (fun ls hl => ?_)
      refine lv_iinc (v := v3 + (nI 1)) (lv' := [(3, .int (v3 + (nI 1))), (2, .int (v2 + (h v0 (ix v3)))), (0, .ref v0), (1, .int v1)]) hx hb dX7_allOf_15 hl (k := 3) rfl rfl (by decide) rfl (fun ls hl => ?_)
      refine lv_goto (tgt := 4) hx hb dX7_allOf_18 (by decide) ?_
      exact hK4 _ _ _ H locs ls hH (lv_sub hl [2, 3, 1, 0] rfl) hw
  unfold w_X7_allOf at hw
  show W p l e rm_X7_allOf s m args below meth c H [] 0 0 (QI G B S sz below args s Q) (F0 m 0 ls [])
  generalize ([] : List Loc) = locs at hH ⊢
  refine lv_iconst (v := (nI 0)) hx hb dX7_allOf_0 (by decide) ?_
  refine lv_istore_n (lv' := [(2, .int (nI 0)), (0, .ref v0), (1, .int v1)]) hx hb dX7_allOf_1 rfl hl (by decide) rfl (fun ls hl => ?_)
  refine lv_iconst (v := (nI 0)) hx hb dX7_allOf_2 (by decide) ?_
  refine lv_istore_n (lv' := [(3, .int (nI 0)), (2, .int (nI 0)), (0, .ref v0), (1, .int v1)]) hx hb dX7_allOf_3 rfl hl (by decide) rfl (fun ls hl => ?_)
  exact c4 _ _ _ _ _ H locs ls hH (lv_sub hl [2, 3, 1, 0] rfl) hw
abbrev rm_X7_then : Room := { frames := 7, cells := 0, slots := 0, locals := 161 }
set_option maxHeartbeats 4000000 in
set_option maxRecDepth 100000 in
theorem m_X7_then {l : Launch} {G : Gl} {B sz : Nat} {S : St} (v0 : Nat) (v1 : Int32) (v2 : Int32) (h : Hp) (Q : Int32 → Hp → Prop) (hw : w_X7_then S v0 v1 v2 h Q) : MI l G B sz S yX7_then cX7_then 5 .int rm_X7_then [.ref v0, .int v1, .int v2] h Q := by
  refine met_of rfl rfl ?_
  intro p e s m args below meth c hMB H ls hH hl
  obtain ⟨hx, hb, hml, hown, hKK, hr, hlk⟩ := hMB
  replace hl : lv_has ls 5 [(0, .ref v0), (1, .int v1), (2, .int v2)] := hl
  have c24 : ∀  (v0 : Nat) (v1 : Int32) (v2 : Int32) (v3 : Int32) (h : Hp) (H : Heap) (locs : List Loc) (ls : Array Slot), HH G B S h sz s H locs → lv_has ls 5 [(0, .ref v0), (1, .int v1), (2, .int v2), (3, .int v3)] → w_X7_then_c24 S v0 v1 v2 v3 h Q → W p l e rm_X7_then s m args below meth c H locs 0 0 (QI G B S sz below args s Q) (F0 m 24 ls []) := by
    intro  v0 v1 v2 v3 h H locs ls hH hl hw
    unfold w_X7_then_c24 at hw
    refine lv_iload_n hx hb dX7_then_24 rfl (lv_at hl 3 rfl) ?_
    refine lv_if_eq (tgt := 34) hx hb dX7_then_25 (by decide) (fun c1 => ?_) (fun c1 => ?_)
    · have hw := ite_t hw c1
      refine lv_aload_n hx hb dX7_then_34 rfl (lv_at hl 0 rfl) ?_
      obtain ⟨k2, hw⟩ := hw
      refine hv_cVV (rm := rm_X7_minds) (As := []) (rest := []) (k := 0) (ci := 7) hx hb hml hown hKK hH cf7 k2 (m_X7_minds v0 _ _ hw) cw_X7_343 ⟨Nat.le_of_ble_eq_true rfl, Nat.le_of_ble_eq_true rfl⟩ rfl hl.1 rfl (Nat.le_of_ble_eq_true rfl) ⟨Nat.le_of_ble_eq_true rfl, Nat.le_of_ble_eq_true rfl⟩ dX7_then_35 (fun h3 H locs hH hw => ?_)
      refine lv_aload_n hx hb dX7_then_38 rfl (lv_at hl 0 rfl) ?_
      refine lv_iload_n hx hb dX7_then_39 rfl (lv_at hl 1 rfl) ?_
      refine hv_cVV (rm := rm_X7_goes) (As := [.int v1]) (rest := []) (k := 1) (ci := 7) hx hb hml hown hKK hH cf7 k2 (m_X7_goes v0 v1 _ _ hw) cw_X7_261 ⟨Nat.le_of_ble_eq_true rfl, Nat.le_of_ble_eq_true rfl⟩ rfl hl.1 rfl (Nat.le_of_ble_eq_true rfl) ⟨Nat.le_of_ble_eq_true rfl, Nat.le_of_ble_eq_true rfl⟩ dX7_then_40 (fun h4 H locs hH hw => ?_)
      refine lv_iload_n hx hb dX7_then_43 rfl (lv_at hl 2 rfl) ?_
      refine lv_if_ne (tgt := 54) hx hb dX7_then_44 (by decide) (fun c5 => ?_) (fun c5 => ?_)
      · have hw := ite_f hw c5
        refine lv_iload_n hx hb dX7_then_54 rfl (lv_at hl 2 rfl) ?_
        refine lv_iconst (v := (nI 1)) hx hb dX7_then_55 (by decide) ?_
        refine lv_icmp_ne (tgt := 66) hx hb dX7_then_56 (by decide) (fun c7 => ?_) (fun c7 => ?_)
        · have hw := ite_f hw c7
          refine lv_iload_n hx hb dX7_then_66 rfl (lv_at hl 2 rfl) ?_
          refine lv_iconst (v := (nI 2)) hx hb dX7_then_67 (by decide) ?_
          refine lv_icmp_ne (tgt := 83) hx hb dX7_then_68 (by decide) (fun c11 => ?_) (fun c11 => ?_)
          · have hw := ite_f hw c11
            refine lv_aload_n hx hb dX7_then_83 rfl (lv_at hl 0 rfl) ?_
            refine hv_get (ci := 7) (k := 1) (v := .ref (S.2 v0 1)) hx hb hown hKK hH cf7 (by decide) fl_X7_13 rfl k2 rfl dX7_then_84 ?_
            refine lv_bipush (v := (nI 48)) hx hb dX7_then_87 (by decide) ?_
            refine hv_cSI (rm := rm_X7_allOf) (As := [.ref (S.2 v0 1), .int (nI 48)]) (rest := []) (k := 2) hx hb hml hown hKK hH (m_X7_allOf (S.2 v0 1) (nI 48) _ _ hw) cw_X7_352 ⟨Nat.le_of_ble_eq_true rfl, Nat.le_of_ble_eq_true rfl⟩ rfl hl.1 rfl (Nat.le_of_ble_eq_true rfl) ⟨Nat.le_of_ble_eq_true rfl, Nat.le_of_ble_eq_true rfl⟩ dX7_then_89 (fun r16 h15 H locs hH hw => ?_)
            refine lv_istore (lv' := [(4, .int r16), (0, .ref v0), (1, .int v1), (2, .int v2), (3, .int v3)]) hx hb dX7_then_92 hl (by decide) rfl (fun ls hl => ?_)
            refine lv_aload_n hx hb dX7_then_94 rfl (lv_at hl 1 rfl) ?_
            refine hv_cVV (rm := rm_X7_forgets) (As := []) (rest := []) (k := 0) (ci := 7) hx hb hml hown hKK hH cf7 k2 (m_X7_forgets v0 _ _ hw) cw_X7_346 ⟨Nat.le_of_ble_eq_true rfl, Nat.le_of_ble_eq_true rfl⟩ rfl hl.1 rfl (Nat.le_of_ble_eq_true rfl) ⟨Nat.le_of_ble_eq_true rfl, Nat.le_of_ble_eq_true rfl⟩ dX7_then_95 (fun h17 H locs hH hw => ?_)
            refine lv_iload hx hb dX7_then_98 (lv_at hl 0 rfl) ?_
            exact hv_iret hx hb hr hlk hH hw dX7_then_100
          · have hw := ite_t hw c11
            refine lv_aload_n hx hb dX7_then_71 rfl (lv_at hl 0 rfl) ?_
            refine hv_get (ci := 7) (k := 2) (v := .ref (S.2 v0 2)) hx hb hown hKK hH cf7 (by decide) fl_X7_16 rfl k2 rfl dX7_then_72 ?_
            refine lv_bipush (v := (nI 48)) hx hb dX7_then_75 (by decide) ?_
            refine hv_cSI (rm := rm_X7_allOf) (As := [.ref (S.2 v0 2), .int (nI 48)]) (rest := []) (k := 2) hx hb hml hown hKK hH (m_X7_allOf (S.2 v0 2) (nI 48) _ _ hw) cw_X7_352 ⟨Nat.le_of_ble_eq_true rfl, Nat.le_of_ble_eq_true rfl⟩ rfl hl.1 rfl (Nat.le_of_ble_eq_true rfl) ⟨Nat.le_of_ble_eq_true rfl, Nat.le_of_ble_eq_true rfl⟩ dX7_then_77 (fun r13 h12 H locs hH hw => ?_)
            refine lv_goto (tgt := 92) hx hb dX7_then_80 (by decide) ?_
            refine lv_istore (lv' := [(4, .int r13), (0, .ref v0), (1, .int v1), (2, .int v2), (3, .int v3)]) hx hb dX7_then_92 hl (by decide) rfl (fun ls hl => ?_)
            refine lv_aload_n hx hb dX7_then_94 rfl (lv_at hl 1 rfl) ?_
            refine hv_cVV (rm := rm_X7_forgets) (As := []) (rest := []) (k := 0) (ci := 7) hx hb hml hown hKK hH cf7 k2 (m_X7_forgets v0 _ _ hw) cw_X7_346 ⟨Nat.le_of_ble_eq_true rfl, Nat.le_of_ble_eq_true rfl⟩ rfl hl.1 rfl (Nat.le_of_ble_eq_true rfl) ⟨Nat.le_of_ble_eq_true rfl, Nat.le_of_ble_eq_true rfl⟩ dX7_then_95 (fun h14 H locs hH hw => ?_)
            refine lv_iload hx hb dX7_then_98 (lv_at hl 0 rfl) ?_
            exact hv_iret hx hb hr hlk hH hw dX7_then_100
        · have hw := ite_t hw c7
          refine lv_aload_n hx hb dX7_then_59 rfl (lv_at hl 0 rfl) ?_
          refine hv_cVI (rm := rm_X7_setSettled) (As := []) (rest := []) (k := 0) (ci := 7) hx hb hml hown hKK hH cf7 k2 (m_X7_setSettled v0 _ _ hw) cw_X7_349 ⟨Nat.le_of_ble_eq_true rfl, Nat.le_of_ble_eq_true rfl⟩ rfl hl.1 rfl (Nat.le_of_ble_eq_true rfl) ⟨Nat.le_of_ble_eq_true rfl, Nat.le_of_ble_eq_true rfl⟩ dX7_then_60 (fun r9 h8 H locs hH hw => ?_)
          refine lv_goto (tgt := 92) hx hb dX7_then_63 (by decide) ?_
          refine lv_istore (lv' := [(4, .int r9), (0, .ref v0), (1, .int v1), (2, .int v2), (3, .int v3)]) hx hb dX7_then_92 hl (by decide) rfl (fun ls hl => ?_)
          refine lv_aload_n hx hb dX7_then_94 rfl (lv_at hl 1 rfl) ?_
          refine hv_cVV (rm := rm_X7_forgets) (As := []) (rest := []) (k := 0) (ci := 7) hx hb hml hown hKK hH cf7 k2 (m_X7_forgets v0 _ _ hw) cw_X7_346 ⟨Nat.le_of_ble_eq_true rfl, Nat.le_of_ble_eq_true rfl⟩ rfl hl.1 rfl (Nat.le_of_ble_eq_true rfl) ⟨Nat.le_of_ble_eq_true rfl, Nat.le_of_ble_eq_true rfl⟩ dX7_then_95 (fun h10 H locs hH hw => ?_)
          refine lv_iload hx hb dX7_then_98 (lv_at hl 0 rfl) ?_
          exact hv_iret hx hb hr hlk hH hw dX7_then_100
      · have hw := ite_t hw c5
        refine lv_aload_n hx hb dX7_then_47 rfl (lv_at hl 0 rfl) ?_
        refine hv_get (ci := 7) (k := 15) (v := .int (h4 v0 15)) hx hb hown hKK hH cf7 (by decide) fl_X7_127 rfl k2 rfl dX7_then_48 ?_
        refine lv_goto (tgt := 92) hx hb dX7_then_51 (by decide) ?_
        refine lv_istore (lv' := [(4, .int (h4 v0 15)), (0, .ref v0), (1, .int v1), (2, .int v2), (3, .int v3)]) hx hb dX7_then_92 hl (by decide) rfl (fun ls hl => ?_)
        refine lv_aload_n hx hb dX7_then_94 rfl (lv_at hl 1 rfl) ?_
        refine hv_cVV (rm := rm_X7_forgets) (As := []) (rest := []) (k := 0) (ci := 7) hx hb hml hown hKK hH cf7 k2 (m_X7_forgets v0 _ _ hw) cw_X7_346 ⟨Nat.le_of_ble_eq_true rfl, Nat.le_of_ble_eq_true rfl⟩ rfl hl.1 rfl (Nat.le_of_ble_eq_true rfl) ⟨Nat.le_of_ble_eq_true rfl, Nat.le_of_ble_eq_true rfl⟩ dX7_then_95 (fun h6 H locs hH hw => ?_)
        refine lv_iload hx hb dX7_then_98 (lv_at hl 0 rfl) ?_
        exact hv_iret hx hb hr hlk hH hw dX7_then_100
    · have hw := ite_f hw c1
      refine lv_aload_n hx hb dX7_then_28 rfl (lv_at hl 0 rfl) ?_
      refine lv_iload_n hx hb dX7_then_29 rfl (lv_at hl 3 rfl) ?_
      obtain ⟨k18, hw⟩ := hw
      refine hv_cVI (rm := rm_X7_no) (As := [.int v3]) (rest := []) (k := 1) (ci := 7) hx hb hml hown hKK hH cf7 k18 (m_X7_no v0 v3 _ _ hw) cw_X7_170 ⟨Nat.le_of_ble_eq_true rfl, Nat.le_of_ble_eq_true rfl⟩ rfl hl.1 rfl (Nat.le_of_ble_eq_true rfl) ⟨Nat.le_of_ble_eq_true rfl, Nat.le_of_ble_eq_true rfl⟩ dX7_then_30 (fun r20 h19 H locs hH hw => ?_)
      exact hv_iret hx hb hr hlk hH hw dX7_then_33
  unfold w_X7_then at hw
  show W p l e rm_X7_then s m args below meth c H [] 0 0 (QI G B S sz below args s Q) (F0 m 0 ls [])
  generalize ([] : List Loc) = locs at hH ⊢
  refine lv_iload_n hx hb dX7_then_0 rfl (lv_at hl 1 rfl) ?_
  refine lv_iconst (v := (nI 0)) hx hb dX7_then_1 (by decide) ?_
  refine lv_bipush (v := (nI 60)) hx hb dX7_then_2 (by decide) ?_
  refine hv_cSI (rm := rm_X7_bound) (As := [.int v1, .int (nI 0), .int (nI 60)]) (rest := []) (k := 3) hx hb hml hown hKK hH (m_X7_bound v1 (nI 0) (nI 60) _ _ hw) cw_X7_163 ⟨Nat.le_of_ble_eq_true rfl, Nat.le_of_ble_eq_true rfl⟩ rfl hl.1 rfl (Nat.le_of_ble_eq_true rfl) ⟨Nat.le_of_ble_eq_true rfl, Nat.le_of_ble_eq_true rfl⟩ dX7_then_4 (fun r2 h1 H locs hH hw => ?_)
  refine lv_istore_n (lv' := [(3, .int r2), (0, .ref v0), (1, .int v1), (2, .int v2)]) hx hb dX7_then_7 rfl hl (by decide) rfl (fun ls hl => ?_)
  refine lv_iload_n hx hb dX7_then_8 rfl (lv_at hl 0 rfl) ?_
  refine lv_if_ne (tgt := 24) hx hb dX7_then_9 (by decide) (fun c3 => ?_) (fun c3 => ?_)
  · have hw := ite_f hw c3
    exact c24 _ _ _ _ _ H locs ls hH (lv_sub hl [1, 2, 3, 0] rfl) hw
  · have hw := ite_t hw c3
    refine lv_iload_n hx hb dX7_then_12 rfl (lv_at hl 3 rfl) ?_
    refine lv_iconst (v := (nI 0)) hx hb dX7_then_13 (by decide) ?_
    refine lv_iconst (v := (nI 3)) hx hb dX7_then_14 (by decide) ?_
    refine hv_cSI (rm := rm_X7_isIn) (As := [.int v2, .int (nI 0), .int (nI 3)]) (rest := []) (k := 3) hx hb hml hown hKK hH (m_X7_isIn v2 (nI 0) (nI 3) _ _ hw) cw_X7_85 ⟨Nat.le_of_ble_eq_true rfl, Nat.le_of_ble_eq_true rfl⟩ rfl hl.1 rfl (Nat.le_of_ble_eq_true rfl) ⟨Nat.le_of_ble_eq_true rfl, Nat.le_of_ble_eq_true rfl⟩ dX7_then_15 (fun r5 h4 H locs hH hw => ?_)
    refine lv_if_ne (tgt := 24) hx hb dX7_then_18 (by decide) (fun c6 => ?_) (fun c6 => ?_)
    · have hw := ite_f hw c6
      exact c24 _ _ _ _ _ H locs ls hH (lv_sub hl [1, 2, 3, 0] rfl) hw
    · have hw := ite_t hw c6
      refine lv_bipush (v := (-2)) hx hb dX7_then_21 (by decide) ?_
      refine lv_istore_n (lv' := [(3, .int (-2)), (0, .ref v0), (1, .int v1), (2, .int v2)]) hx hb dX7_then_23 rfl hl (by decide) rfl (fun ls hl => ?_)
      exact c24 _ _ _ _ _ H locs ls hH (lv_sub hl [1, 2, 3, 0] rfl) hw
abbrev rm_X7_when : Room := { frames := 6, cells := 0, slots := 0, locals := 139 }
set_option maxHeartbeats 4000000 in
set_option maxRecDepth 100000 in
theorem m_X7_when {l : Launch} {G : Gl} {B sz : Nat} {S : St} (v0 : Nat) (v1 : Int32) (v2 : Int32) (h : Hp) (Q : Int32 → Hp → Prop) (hw : w_X7_when S v0 v1 v2 h Q) : MI l G B sz S yX7_when cX7_when 5 .int rm_X7_when [.ref v0, .int v1, .int v2] h Q := by
  refine met_of rfl rfl ?_
  intro p e s m args below meth c hMB H ls hH hl
  obtain ⟨hx, hb, hml, hown, hKK, hr, hlk⟩ := hMB
  replace hl : lv_has ls 5 [(0, .ref v0), (1, .int v1), (2, .int v2)] := hl
  have c31 : ∀  (v0 : Nat) (v1 : Int32) (v2 : Int32) (v3 : Int32) (v4 : Int32) (h : Hp) (H : Heap) (locs : List Loc) (ls : Array Slot), HH G B S h sz s H locs → lv_has ls 5 [(0, .ref v0), (1, .int v1), (2, .int v2), (3, .int v3), (4, .int v4)] → w_X7_when_c31 S v0 v1 v2 v3 v4 h Q → W p l e rm_X7_when s m args below meth c H locs 0 0 (QI G B S sz below args s Q) (F0 m 31 ls []) := by
    intro  v0 v1 v2 v3 v4 h H locs ls hH hl hw
    unfold w_X7_when_c31 at hw
    obtain ⟨P31, hP31⟩ : ∃ P : Int32 → Int32 → Hp → Prop, ∀ (v3 : Int32) (v4 : Int32) (h : Hp), P v3 v4 h ↔ (∀ (H : Heap) (locs : List Loc) (ls : Array Slot), HH G B S h sz s H locs → lv_has ls 5 [(0, .ref v0), (1, .int v1), (2, .int v2), (3, .int v3), (4, .int v4)] → W p l e rm_X7_when s m args below meth c H locs 0 0 (QI G B S sz below args s Q) (F0 m 31 ls [])) := ⟨_, fun v3 v4 h => Iff.rfl⟩
    refine (hP31 v3 v4 h).1 (hw P31 (fun v3 v4 h hw => (hP31 v3 v4 h).2 (fun H locs ls hH hl => ?_))) H locs ls hH hl
    have hK31 : ∀ (v3 : Int32) (v4 : Int32) (h : Hp) (H : Heap) (locs : List Loc) (ls : Array Slot), HH G B S h sz s H locs → lv_has ls 5 [(0, .ref v0), (1, .int v1), (2, .int v2), (3, .int v3), (4, .int v4)] → P31 v3 v4 h → W p l e rm_X7_when s m args below meth c H locs 0 0 (QI G B S sz below args s Q) (F0 m 31 ls []) := fun v3 v4 h H locs ls hH hl hk => (hP31 v3 v4 h).1 hk H locs ls hH hl
    refine lv_iload hx hb dX7_when_31 (lv_at hl 4 rfl) ?_
    refine lv_bipush (v := (nI 60)) hx hb dX7_when_33 (by decide) ?_
    refine lv_icmp_gt (tgt := 70) hx hb dX7_when_35 (by decide) (fun c1 => ?_) (fun c1 => ?_)
    · have hw := ite_t hw c1
      refine lv_aload_n hx hb dX7_when_70 rfl (lv_at hl 0 rfl) ?_
      obtain ⟨k2, hw⟩ := hw
      refine hv_cVV (rm := rm_X7_forgets) (As := []) (rest := []) (k := 0) (ci := 7) hx hb hml hown hKK hH cf7 k2 (m_X7_forgets v0 _ _ hw) cw_X7_346 ⟨Nat.le_of_ble_eq_true rfl, Nat.le_of_ble_eq_true rfl⟩ rfl hl.1 rfl (Nat.le_of_ble_eq_true rfl) ⟨Nat.le_of_ble_eq_true rfl, Nat.le_of_ble_eq_true rfl⟩ dX7_when_71 (fun h3 H locs hH hw => ?_)
      refine lv_iload_n hx hb dX7_when_74 rfl (lv_at hl 3 rfl) ?_
      exact hv_iret hx hb hr hlk hH hw dX7_when_75
    · have hw := ite_f hw c1
      refine lv_iload_n hx hb dX7_when_38 rfl (lv_at hl 3 rfl) ?_
      refine lv_if_ge (tgt := 70) hx hb dX7_when_39 (by decide) (fun c4 => ?_) (fun c4 => ?_)
      · have hw := ite_t hw c4
        refine lv_aload_n hx hb dX7_when_70 rfl (lv_at hl 0 rfl) ?_
        obtain ⟨k5, hw⟩ := hw
        refine hv_cVV (rm := rm_X7_forgets) (As := []) (rest := []) (k := 0) (ci := 7) hx hb hml hown hKK hH cf7 k5 (m_X7_forgets v0 _ _ hw) cw_X7_346 ⟨Nat.le_of_ble_eq_true rfl, Nat.le_of_ble_eq_true rfl⟩ rfl hl.1 rfl (Nat.le_of_ble_eq_true rfl) ⟨Nat.le_of_ble_eq_true rfl, Nat.le_of_ble_eq_true rfl⟩ dX7_when_71 (fun h6 H locs hH hw => ?_)
        refine lv_iload_n hx hb dX7_when_74 rfl (lv_at hl 3 rfl) ?_
        exact hv_iret hx hb hr hlk hH hw dX7_when_75
      · have hw := ite_f hw c4
        refine lv_aload_n hx hb dX7_when_42 rfl (lv_at hl 0 rfl) ?_
        obtain ⟨k7, hw⟩ := hw
        refine hv_get (ci := 7) (k := 6) (v := .ref (S.2 v0 6)) hx hb hown hKK hH cf7 (by decide) fl_X7_28 rfl k7 rfl dX7_when_43 ?_
        refine lv_iload_n hx hb dX7_when_46 rfl (lv_at hl 1 rfl) ?_
        obtain ⟨k8, hw⟩ := hw
        refine hv_iald hx hb hKK hH k8 dX7_when_47 ?_
        refine lv_iload_n hx hb dX7_when_48 rfl (lv_at hl 2 rfl) ?_
        refine lv_icmp_ne (tgt := 57) hx hb dX7_when_49 (by decide) (fun c9 => ?_) (fun c9 => ?_)
        · have hw := ite_f hw c9
          refine lv_bipush (v := (-9)) hx hb dX7_when_57 (by decide) ?_
          refine lv_istore_n (lv' := [(3, .int (-9)), (0, .ref v0), (1, .int v1), (2, .int v2), (4, .int v4)]) hx hb dX7_when_59 rfl hl (by decide) rfl (fun ls hl => ?_)
          refine lv_aload_n hx hb dX7_when_60 rfl (lv_at hl 1 rfl) ?_
          refine hv_cVV (rm := rm_X7_goesNight) (As := []) (rest := []) (k := 0) (ci := 7) hx hb hml hown hKK hH cf7 k7 (m_X7_goesNight v0 _ _ hw) cw_X7_160 ⟨Nat.le_of_ble_eq_true rfl, Nat.le_of_ble_eq_true rfl⟩ rfl hl.1 rfl (Nat.le_of_ble_eq_true rfl) ⟨Nat.le_of_ble_eq_true rfl, Nat.le_of_ble_eq_true rfl⟩ dX7_when_61 (fun h11 H locs hH hw => ?_)
          refine lv_iinc (v := v4 + (nI 1)) (lv' := [(4, .int (v4 + (nI 1))), (3, .int (-9)), (0, .ref v0), (1, .int v1), (2, .int v2)]) hx hb dX7_when_64 hl (k := 4) rfl rfl (by decide) rfl (fun ls hl => ?_)
          refine lv_goto (tgt := 31) hx hb dX7_when_67 (by decide) ?_
          exact hK31 _ _ _ H locs ls hH (lv_sub hl [2, 3, 4, 1, 0] rfl) hw
        · have hw := ite_t hw c9
          refine lv_iload hx hb dX7_when_52 (lv_at hl 4 rfl) ?_
          refine lv_goto (tgt := 59) hx hb dX7_when_54 (by decide) ?_
          refine lv_istore_n (lv' := [(3, .int v4), (0, .ref v0), (1, .int v1), (2, .int v2), (4, .int v4)]) hx hb dX7_when_59 rfl hl (by decide) rfl (fun ls hl => ?_)
          refine lv_aload_n hx hb dX7_when_60 rfl (lv_at hl 1 rfl) ?_
          refine hv_cVV (rm := rm_X7_goesNight) (As := []) (rest := []) (k := 0) (ci := 7) hx hb hml hown hKK hH cf7 k7 (m_X7_goesNight v0 _ _ hw) cw_X7_160 ⟨Nat.le_of_ble_eq_true rfl, Nat.le_of_ble_eq_true rfl⟩ rfl hl.1 rfl (Nat.le_of_ble_eq_true rfl) ⟨Nat.le_of_ble_eq_true rfl, Nat.le_of_ble_eq_true rfl⟩ dX7_when_61 (fun h10 H locs hH hw => ?_)
          refine lv_iinc (v := v4 + (nI 1)) (lv' := [(4, .int (v4 + (nI 1))), (3, .int v4), (0, .ref v0), (1, .int v1), (2, .int v2)]) hx hb dX7_when_64 hl (k := 4) rfl rfl (by decide) rfl (fun ls hl => ?_)
          refine lv_goto (tgt := 31) hx hb dX7_when_67 (by decide) ?_
          exact hK31 _ _ _ H locs ls hH (lv_sub hl [2, 3, 4, 1, 0] rfl) hw
  unfold w_X7_when at hw
  show W p l e rm_X7_when s m args below meth c H [] 0 0 (QI G B S sz below args s Q) (F0 m 0 ls [])
  generalize ([] : List Loc) = locs at hH ⊢
  refine lv_aload_n hx hb dX7_when_0 rfl (lv_at hl 0 rfl) ?_
  refine lv_iload_n hx hb dX7_when_1 rfl (lv_at hl 1 rfl) ?_
  obtain ⟨k1, hw⟩ := hw
  refine hv_cVI (rm := rm_X7_isHead) (As := [.int v1]) (rest := []) (k := 1) (ci := 7) hx hb hml hown hKK hH cf7 k1 (m_X7_isHead v0 v1 _ _ hw) cw_X7_89 ⟨Nat.le_of_ble_eq_true rfl, Nat.le_of_ble_eq_true rfl⟩ rfl hl.1 rfl (Nat.le_of_ble_eq_true rfl) ⟨Nat.le_of_ble_eq_true rfl, Nat.le_of_ble_eq_true rfl⟩ dX7_when_2 (fun r3 h2 H locs hH hw => ?_)
  refine lv_if_eq (tgt := 15) hx hb dX7_when_5 (by decide) (fun c4 => ?_) (fun c4 => ?_)
  · have hw := ite_t hw c4
    refine lv_aload_n hx hb dX7_when_15 rfl (lv_at hl 0 rfl) ?_
    refine lv_iconst (v := (-1)) hx hb dX7_when_16 (by decide) ?_
    refine hv_cVI (rm := rm_X7_no) (As := [.int (-1)]) (rest := []) (k := 1) (ci := 7) hx hb hml hown hKK hH cf7 k1 (m_X7_no v0 (-1) _ _ hw) cw_X7_170 ⟨Nat.le_of_ble_eq_true rfl, Nat.le_of_ble_eq_true rfl⟩ rfl hl.1 rfl (Nat.le_of_ble_eq_true rfl) ⟨Nat.le_of_ble_eq_true rfl, Nat.le_of_ble_eq_true rfl⟩ dX7_when_17 (fun r6 h5 H locs hH hw => ?_)
    exact hv_iret hx hb hr hlk hH hw dX7_when_20
  · have hw := ite_f hw c4
    refine lv_iload_n hx hb dX7_when_8 rfl (lv_at hl 2 rfl) ?_
    refine hv_cSI (rm := rm_X7_isField) (As := [.int v2]) (rest := []) (k := 1) hx hb hml hown hKK hH (m_X7_isField v2 _ _ hw) cw_X7_244 ⟨Nat.le_of_ble_eq_true rfl, Nat.le_of_ble_eq_true rfl⟩ rfl hl.1 rfl (Nat.le_of_ble_eq_true rfl) ⟨Nat.le_of_ble_eq_true rfl, Nat.le_of_ble_eq_true rfl⟩ dX7_when_9 (fun r8 h7 H locs hH hw => ?_)
    refine lv_if_ne (tgt := 21) hx hb dX7_when_12 (by decide) (fun c9 => ?_) (fun c9 => ?_)
    · have hw := ite_f hw c9
      refine lv_bipush (v := (-9)) hx hb dX7_when_21 (by decide) ?_
      refine lv_istore_n (lv' := [(3, .int (-9)), (0, .ref v0), (1, .int v1), (2, .int v2)]) hx hb dX7_when_23 rfl hl (by decide) rfl (fun ls hl => ?_)
      refine lv_aload_n hx hb dX7_when_24 rfl (lv_at hl 1 rfl) ?_
      refine hv_cVV (rm := rm_X7_minds) (As := []) (rest := []) (k := 0) (ci := 7) hx hb hml hown hKK hH cf7 k1 (m_X7_minds v0 _ _ hw) cw_X7_343 ⟨Nat.le_of_ble_eq_true rfl, Nat.le_of_ble_eq_true rfl⟩ rfl hl.1 rfl (Nat.le_of_ble_eq_true rfl) ⟨Nat.le_of_ble_eq_true rfl, Nat.le_of_ble_eq_true rfl⟩ dX7_when_25 (fun h12 H locs hH hw => ?_)
      refine lv_iconst (v := (nI 0)) hx hb dX7_when_28 (by decide) ?_
      refine lv_istore (lv' := [(4, .int (nI 0)), (3, .int (-9)), (0, .ref v0), (1, .int v1), (2, .int v2)]) hx hb dX7_when_29 hl (by decide) rfl (fun ls hl => ?_)
      exact c31 _ _ _ _ _ _ H locs ls hH (lv_sub hl [2, 3, 4, 1, 0] rfl) hw
    · have hw := ite_t hw c9
      refine lv_aload_n hx hb dX7_when_15 rfl (lv_at hl 0 rfl) ?_
      refine lv_iconst (v := (-1)) hx hb dX7_when_16 (by decide) ?_
      refine hv_cVI (rm := rm_X7_no) (As := [.int (-1)]) (rest := []) (k := 1) (ci := 7) hx hb hml hown hKK hH cf7 k1 (m_X7_no v0 (-1) _ _ hw) cw_X7_170 ⟨Nat.le_of_ble_eq_true rfl, Nat.le_of_ble_eq_true rfl⟩ rfl hl.1 rfl (Nat.le_of_ble_eq_true rfl) ⟨Nat.le_of_ble_eq_true rfl, Nat.le_of_ble_eq_true rfl⟩ dX7_when_17 (fun r11 h10 H locs hH hw => ?_)
      exact hv_iret hx hb hr hlk hH hw dX7_when_20
