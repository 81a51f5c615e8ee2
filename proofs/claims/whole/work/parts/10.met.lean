abbrev rm_J6_numberOfTrailingZeros_0f7a4 : Room := { frames := 0, cells := 0, slots := 0, locals := 0 }
set_option maxHeartbeats 4000000 in
set_option maxRecDepth 100000 in
theorem m_J6_numberOfTrailingZeros_0f7a4 {l : Launch} {G : Gl} {B sz : Nat} {S : St} (v0 : Int32) (h : Hp) (Q : Int32 → Hp → Prop) (hw : w_J6_numberOfTrailingZeros_0f7a4 S v0 h Q) : MI l G B sz S yJ6_numberOfTrailingZeros_0f7a4 cJ6_numberOfTrailingZeros_0f7a4 2 .int rm_J6_numberOfTrailingZeros_0f7a4 [.int v0] h Q := by
  refine met_of rfl rfl ?_
  intro p e s m args below meth c hMB H ls hH hl
  obtain ⟨hx, hb, hml, hown, hKK, hr, hlk⟩ := hMB
  replace hl : lv_has ls 2 [(0, .int v0)] := hl
  have c49 : ∀  (v0 : Int32) (v1 : Int32) (h : Hp) (H : Heap) (locs : List Loc) (ls : Array Slot), HH G B S h sz s H locs → lv_has ls 2 [(0, .int v0), (1, .int v1)] → w_J6_numberOfTrailingZeros_0f7a4_c49 S v0 v1 h Q → W p l e rm_J6_numberOfTrailingZeros_0f7a4 s m args below meth c H locs 0 0 (QI G B S sz below args s Q) (F0 m 49 ls []) := by
    intro  v0 v1 h H locs ls hH hl hw
    unfold w_J6_numberOfTrailingZeros_0f7a4_c49 at hw
    refine lv_iload_n hx hb dJ6_numberOfTrailingZeros_0f7a4_49 rfl (lv_at hl 0 rfl) ?_
    refine lv_bipush (v := (nI 16)) hx hb dJ6_numberOfTrailingZeros_0f7a4_50 (by decide) ?_
    refine lv_icmp_le (tgt := 62) hx hb dJ6_numberOfTrailingZeros_0f7a4_52 (by decide) (fun c1 => ?_) (fun c1 => ?_)
    · have hw := ite_t hw c1
      refine lv_iload_n hx hb dJ6_numberOfTrailingZeros_0f7a4_62 rfl (lv_at hl 0 rfl) ?_
      refine lv_iconst (v := (nI 4)) hx hb dJ6_numberOfTrailingZeros_0f7a4_63 (by decide) ?_
      refine lv_icmp_le (tgt := 74) hx hb dJ6_numberOfTrailingZeros_0f7a4_64 (by decide) (fun c2 => ?_) (fun c2 => ?_)
      · have hw := ite_t hw c2
        refine lv_iload_n hx hb dJ6_numberOfTrailingZeros_0f7a4_74 rfl (lv_at hl 1 rfl) ?_
        refine lv_iload_n hx hb dJ6_numberOfTrailingZeros_0f7a4_75 rfl (lv_at hl 0 rfl) ?_
        refine lv_iconst (v := (nI 1)) hx hb dJ6_numberOfTrailingZeros_0f7a4_76 (by decide) ?_
        refine lv_iushr (v := iushr v0 (nI 1)) hx hb dJ6_numberOfTrailingZeros_0f7a4_77 rfl ?_
        refine lv_iadd hx hb dJ6_numberOfTrailingZeros_0f7a4_78 ?_
        exact hv_iret hx hb hr hlk hH hw dJ6_numberOfTrailingZeros_0f7a4_79
      · have hw := ite_f hw c2
        refine lv_iinc (v := v1 + (nI 2)) (lv' := [(1, .int (v1 + (nI 2))), (0, .int v0)]) hx hb dJ6_numberOfTrailingZeros_0f7a4_67 hl (k := 1) rfl rfl (by decide) rfl (fun ls hl => ?_)
        refine lv_iload_n hx hb dJ6_numberOfTrailingZeros_0f7a4_70 rfl (lv_at hl 1 rfl) ?_
        refine lv_iconst (v := (nI 2)) hx hb dJ6_numberOfTrailingZeros_0f7a4_71 (by decide) ?_
        refine lv_iushr (v := iushr v0 (nI 2)) hx hb dJ6_numberOfTrailingZeros_0f7a4_72 rfl ?_
        refine lv_istore_n (lv' := [(0, .int (iushr v0 (nI 2))), (1, .int (v1 + (nI 2)))]) hx hb dJ6_numberOfTrailingZeros_0f7a4_73 rfl hl (by decide) rfl (fun ls hl => ?_)
        refine lv_iload_n hx hb dJ6_numberOfTrailingZeros_0f7a4_74 rfl (lv_at hl 1 rfl) ?_
        refine lv_iload_n hx hb dJ6_numberOfTrailingZeros_0f7a4_75 rfl (lv_at hl 0 rfl) ?_
        refine lv_iconst (v := (nI 1)) hx hb dJ6_numberOfTrailingZeros_0f7a4_76 (by decide) ?_
        refine lv_iushr (v := iushr (iushr v0 (nI 2)) (nI 1)) hx hb dJ6_numberOfTrailingZeros_0f7a4_77 rfl ?_
        refine lv_iadd hx hb dJ6_numberOfTrailingZeros_0f7a4_78 ?_
        exact hv_iret hx hb hr hlk hH hw dJ6_numberOfTrailingZeros_0f7a4_79
    · have hw := ite_f hw c1
      refine lv_iinc (v := v1 + (nI 4)) (lv' := [(1, .int (v1 + (nI 4))), (0, .int v0)]) hx hb dJ6_numberOfTrailingZeros_0f7a4_55 hl (k := 1) rfl rfl (by decide) rfl (fun ls hl => ?_)
      refine lv_iload_n hx hb dJ6_numberOfTrailingZeros_0f7a4_58 rfl (lv_at hl 1 rfl) ?_
      refine lv_iconst (v := (nI 4)) hx hb dJ6_numberOfTrailingZeros_0f7a4_59 (by decide) ?_
      refine lv_iushr (v := iushr v0 (nI 4)) hx hb dJ6_numberOfTrailingZeros_0f7a4_60 rfl ?_
      refine lv_istore_n (lv' := [(0, .int (iushr v0 (nI 4))), (1, .int (v1 + (nI 4)))]) hx hb dJ6_numberOfTrailingZeros_0f7a4_61 rfl hl (by decide) rfl (fun ls hl => ?_)
      refine lv_iload_n hx hb dJ6_numberOfTrailingZeros_0f7a4_62 rfl (lv_at hl 0 rfl) ?_
      refine lv_iconst (v := (nI 4)) hx hb dJ6_numberOfTrailingZeros_0f7a4_63 (by decide) ?_
      refine lv_icmp_le (tgt := 74) hx hb dJ6_numberOfTrailingZeros_0f7a4_64 (by decide) (fun c3 => ?_) (fun c3 => ?_)
      · have hw := ite_t hw c3
        refine lv_iload_n hx hb dJ6_numberOfTrailingZeros_0f7a4_74 rfl (lv_at hl 1 rfl) ?_
        refine lv_iload_n hx hb dJ6_numberOfTrailingZeros_0f7a4_75 rfl (lv_at hl 0 rfl) ?_
        refine lv_iconst (v := (nI 1)) hx hb dJ6_numberOfTrailingZeros_0f7a4_76 (by decide) ?_
        refine lv_iushr (v := iushr (iushr v0 (nI 4)) (nI 1)) hx hb dJ6_numberOfTrailingZeros_0f7a4_77 rfl ?_
        refine lv_iadd hx hb dJ6_numberOfTrailingZeros_0f7a4_78 ?_
        exact hv_iret hx hb hr hlk hH hw dJ6_numberOfTrailingZeros_0f7a4_79
      · have hw := ite_f hw c3
        refine lv_iinc (v := (v1 + (nI 4)) + (nI 2)) (lv' := [(1, .int ((v1 + (nI 4)) + (nI 2))), (0, .int (iushr v0 (nI 4)))]) hx hb dJ6_numberOfTrailingZeros_0f7a4_67 hl (k := 1) rfl rfl (by decide) rfl (fun ls hl => ?_)
        refine lv_iload_n hx hb dJ6_numberOfTrailingZeros_0f7a4_70 rfl (lv_at hl 1 rfl) ?_
        refine lv_iconst (v := (nI 2)) hx hb dJ6_numberOfTrailingZeros_0f7a4_71 (by decide) ?_
        refine lv_iushr (v := iushr (iushr v0 (nI 4)) (nI 2)) hx hb dJ6_numberOfTrailingZeros_0f7a4_72 rfl ?_
        refine lv_istore_n (lv' := [(0, .int (iushr (iushr v0 (nI 4)) (nI 2))), (1, .int ((v1 + (nI 4)) + (nI 2)))]) hx hb dJ6_numberOfTrailingZeros_0f7a4_73 rfl hl (by decide) rfl (fun ls hl => ?_)
        refine lv_iload_n hx hb dJ6_numberOfTrailingZeros_0f7a4_74 rfl (lv_at hl 1 rfl) ?_
        refine lv_iload_n hx hb dJ6_numberOfTrailingZeros_0f7a4_75 rfl (lv_at hl 0 rfl) ?_
        refine lv_iconst (v := (nI 1)) hx hb dJ6_numberOfTrailingZeros_0f7a4_76 (by decide) ?_
        refine lv_iushr (v := iushr (iushr (iushr v0 (nI 4)) (nI 2)) (nI 1)) hx hb dJ6_numberOfTrailingZeros_0f7a4_77 rfl ?_
        refine lv_iadd hx hb dJ6_numberOfTrailingZeros_0f7a4_78 ?_
        exact hv_iret hx hb hr hlk hH hw dJ6_numberOfTrailingZeros_0f7a4_79
  unfold w_J6_numberOfTrailingZeros_0f7a4 at hw
  show W p l e rm_J6_numberOfTrailingZeros_0f7a4 s m args below meth c H [] 0 0 (QI G B S sz below args s Q) (F0 m 0 ls [])
  generalize ([] : List Loc) = locs at hH ⊢
  refine lv_iload_n hx hb dJ6_numberOfTrailingZeros_0f7a4_0 rfl (lv_at hl 0 rfl) ?_
  refine lv_iconst (v := (-1)) hx hb dJ6_numberOfTrailingZeros_0f7a4_1 (by decide) ?_
  refine lv_ixor hx hb dJ6_numberOfTrailingZeros_0f7a4_2 ?_
  refine lv_iload_n hx hb dJ6_numberOfTrailingZeros_0f7a4_3 rfl (lv_at hl 0 rfl) ?_
  refine lv_iconst (v := (nI 1)) hx hb dJ6_numberOfTrailingZeros_0f7a4_4 (by decide) ?_
  refine lv_isub hx hb dJ6_numberOfTrailingZeros_0f7a4_5 ?_
  refine lv_iand hx hb dJ6_numberOfTrailingZeros_0f7a4_6 ?_
  refine lv_istore_n (lv' := [(0, .int ((v0 ^^^ (-1)) &&& (v0 - (nI 1))))]) hx hb dJ6_numberOfTrailingZeros_0f7a4_7 rfl hl (by decide) rfl (fun ls hl => ?_)
  refine lv_iload_n hx hb dJ6_numberOfTrailingZeros_0f7a4_8 rfl (lv_at hl 0 rfl) ?_
  refine lv_if_gt (tgt := 17) hx hb dJ6_numberOfTrailingZeros_0f7a4_9 (by decide) (fun c1 => ?_) (fun c1 => ?_)
  · have hw := ite_t hw c1
    refine lv_iconst (v := (nI 1)) hx hb dJ6_numberOfTrailingZeros_0f7a4_17 (by decide) ?_
    refine lv_istore_n (lv' := [(1, .int (nI 1)), (0, .int ((v0 ^^^ (-1)) &&& (v0 - (nI 1))))]) hx hb dJ6_numberOfTrailingZeros_0f7a4_18 rfl hl (by decide) rfl (fun ls hl => ?_)
    refine lv_iload_n hx hb dJ6_numberOfTrailingZeros_0f7a4_19 rfl (lv_at hl 1 rfl) ?_
    refine lv_ldcw (v := (65536 : Int32)) hx hb hown (hKK.use kc_J6_264 rfl _) dJ6_numberOfTrailingZeros_0f7a4_20 ?_
    refine lv_icmp_le (tgt := 34) hx hb dJ6_numberOfTrailingZeros_0f7a4_23 (by decide) (fun c2 => ?_) (fun c2 => ?_)
    · have hw := ite_t hw c2
      refine lv_iload_n hx hb dJ6_numberOfTrailingZeros_0f7a4_34 rfl (lv_at hl 1 rfl) ?_
      refine lv_sipush (v := (nI 256)) hx hb dJ6_numberOfTrailingZeros_0f7a4_35 (by decide) ?_
      refine lv_icmp_le (tgt := 49) hx hb dJ6_numberOfTrailingZeros_0f7a4_38 (by decide) (fun c3 => ?_) (fun c3 => ?_)
      · have hw := ite_t hw c3
        exact c49 _ _ _ H locs ls hH (lv_sub hl [1, 0] rfl) hw
      · have hw := ite_f hw c3
        refine lv_iinc (v := (nI 1) + (nI 8)) (lv' := [(1, .int ((nI 1) + (nI 8))), (0, .int ((v0 ^^^ (-1)) &&& (v0 - (nI 1))))]) hx hb dJ6_numberOfTrailingZeros_0f7a4_41 hl (k := 0) rfl rfl (by decide) rfl (fun ls hl => ?_)
        refine lv_iload_n hx hb dJ6_numberOfTrailingZeros_0f7a4_44 rfl (lv_at hl 1 rfl) ?_
        refine lv_bipush (v := (nI 8)) hx hb dJ6_numberOfTrailingZeros_0f7a4_45 (by decide) ?_
        refine lv_iushr (v := iushr ((v0 ^^^ (-1)) &&& (v0 - (nI 1))) (nI 8)) hx hb dJ6_numberOfTrailingZeros_0f7a4_47 rfl ?_
        refine lv_istore_n (lv' := [(0, .int (iushr ((v0 ^^^ (-1)) &&& (v0 - (nI 1))) (nI 8))), (1, .int ((nI 1) + (nI 8)))]) hx hb dJ6_numberOfTrailingZeros_0f7a4_48 rfl hl (by decide) rfl (fun ls hl => ?_)
        exact c49 _ _ _ H locs ls hH (lv_sub hl [0, 1] rfl) hw
    · have hw := ite_f hw c2
      refine lv_iinc (v := (nI 1) + (nI 16)) (lv' := [(1, .int ((nI 1) + (nI 16))), (0, .int ((v0 ^^^ (-1)) &&& (v0 - (nI 1))))]) hx hb dJ6_numberOfTrailingZeros_0f7a4_26 hl (k := 0) rfl rfl (by decide) rfl (fun ls hl => ?_)
      refine lv_iload_n hx hb dJ6_numberOfTrailingZeros_0f7a4_29 rfl (lv_at hl 1 rfl) ?_
      refine lv_bipush (v := (nI 16)) hx hb dJ6_numberOfTrailingZeros_0f7a4_30 (by decide) ?_
      refine lv_iushr (v := iushr ((v0 ^^^ (-1)) &&& (v0 - (nI 1))) (nI 16)) hx hb dJ6_numberOfTrailingZeros_0f7a4_32 rfl ?_
      refine lv_istore_n (lv' := [(0, .int (iushr ((v0 ^^^ (-1)) &&& (v0 - (nI 1))) (nI 16))), (1, .int ((nI 1) + (nI 16)))]) hx hb dJ6_numberOfTrailingZeros_0f7a4_33 rfl hl (by decide) rfl (fun ls hl => ?_)
      refine lv_iload_n hx hb dJ6_numberOfTrailingZeros_0f7a4_34 rfl (lv_at hl 0 rfl) ?_
      refine lv_sipush (v := (nI 256)) hx hb dJ6_numberOfTrailingZeros_0f7a4_35 (by decide) ?_
      refine lv_icmp_le (tgt := 49) hx hb dJ6_numberOfTrailingZeros_0f7a4_38 (by decide) (fun c4 => ?_) (fun c4 => ?_)
      · have hw := ite_t hw c4
        exact c49 _ _ _ H locs ls hH (lv_sub hl [0, 1] rfl) hw
      · have hw := ite_f hw c4
        refine lv_iinc (v := ((nI 1) + (nI 16)) + (nI 8)) (lv' := [(1, .int (((nI 1) + (nI 16)) + (nI 8))), (0, .int (iushr ((v0 ^^^ (-1)) &&& (v0 - (nI 1))) (nI 16)))]) hx hb dJ6_numberOfTrailingZeros_0f7a4_41 hl (k := 1) rfl rfl (by decide) rfl (fun ls hl => ?_)
        refine lv_iload_n hx hb dJ6_numberOfTrailingZeros_0f7a4_44 rfl (lv_at hl 1 rfl) ?_
        refine lv_bipush (v := (nI 8)) hx hb dJ6_numberOfTrailingZeros_0f7a4_45 (by decide) ?_
        refine lv_iushr (v := iushr (iushr ((v0 ^^^ (-1)) &&& (v0 - (nI 1))) (nI 16)) (nI 8)) hx hb dJ6_numberOfTrailingZeros_0f7a4_47 rfl ?_
        refine lv_istore_n (lv' := [(0, .int (iushr (iushr ((v0 ^^^ (-1)) &&& (v0 - (nI 1))) (nI 16)) (nI 8))), (1, .int (((nI 1) + (nI 16)) + (nI 8)))]) hx hb dJ6_numberOfTrailingZeros_0f7a4_48 rfl hl (by decide) rfl (fun ls hl => ?_)
        exact c49 _ _ _ H locs ls hH (lv_sub hl [0, 1] rfl) hw
  · have hw := ite_f hw c1
    refine lv_iload_n hx hb dJ6_numberOfTrailingZeros_0f7a4_12 rfl (lv_at hl 0 rfl) ?_
    refine lv_bipush (v := (nI 32)) hx hb dJ6_numberOfTrailingZeros_0f7a4_13 (by decide) ?_
    refine lv_iand hx hb dJ6_numberOfTrailingZeros_0f7a4_15 ?_
    exact hv_iret hx hb hr hlk hH hw dJ6_numberOfTrailingZeros_0f7a4_16
abbrev rm_J6_bitCount_0f7a4 : Room := { frames := 0, cells := 0, slots := 0, locals := 0 }
set_option maxHeartbeats 4000000 in
set_option maxRecDepth 100000 in
theorem m_J6_bitCount_0f7a4 {l : Launch} {G : Gl} {B sz : Nat} {S : St} (v0 : Int32) (h : Hp) (Q : Int32 → Hp → Prop) (hw : w_J6_bitCount_0f7a4 S v0 h Q) : MI l G B sz S yJ6_bitCount_0f7a4 cJ6_bitCount_0f7a4 1 .int rm_J6_bitCount_0f7a4 [.int v0] h Q := by
  refine met_of rfl rfl ?_
  intro p e s m args below meth c hMB H ls hH hl
  obtain ⟨hx, hb, hml, hown, hKK, hr, hlk⟩ := hMB
  replace hl : lv_has ls 1 [(0, .int v0)] := hl
  unfold w_J6_bitCount_0f7a4 at hw
  show W p l e rm_J6_bitCount_0f7a4 s m args below meth c H [] 0 0 (QI G B S sz below args s Q) (F0 m 0 ls [])
  generalize ([] : List Loc) = locs at hH ⊢
  refine lv_iload_n hx hb dJ6_bitCount_0f7a4_0 rfl (lv_at hl 0 rfl) ?_
  refine lv_iload_n hx hb dJ6_bitCount_0f7a4_1 rfl (lv_at hl 0 rfl) ?_
  refine lv_iconst (v := (nI 1)) hx hb dJ6_bitCount_0f7a4_2 (by decide) ?_
  refine lv_iushr (v := iushr v0 (nI 1)) hx hb dJ6_bitCount_0f7a4_3 rfl ?_
  refine lv_ldcw (v := (1431655765 : Int32)) hx hb hown (hKK.use kc_J6_265 rfl _) dJ6_bitCount_0f7a4_4 ?_
  refine lv_iand hx hb dJ6_bitCount_0f7a4_7 ?_
  refine lv_isub hx hb dJ6_bitCount_0f7a4_8 ?_
  refine lv_istore_n (lv' := [(0, .int (v0 - ((iushr v0 (nI 1)) &&& (1431655765 : Int32))))]) hx hb dJ6_bitCount_0f7a4_9 rfl hl (by decide) rfl (fun ls hl => ?_)
  refine lv_iload_n hx hb dJ6_bitCount_0f7a4_10 rfl (lv_at hl 0 rfl) ?_
  refine lv_ldcw (v := (858993459 : Int32)) hx hb hown (hKK.use kc_J6_266 rfl _) dJ6_bitCount_0f7a4_11 ?_
  refine lv_iand hx hb dJ6_bitCount_0f7a4_14 ?_
  refine lv_iload_n hx hb dJ6_bitCount_0f7a4_15 rfl (lv_at hl 0 rfl) ?_
  refine lv_iconst (v := (nI 2)) hx hb dJ6_bitCount_0f7a4_16 (by decide) ?_
  refine lv_iushr (v := iushr (v0 - ((iushr v0 (nI 1)) &&& (1431655765 : Int32))) (nI 2)) hx hb dJ6_bitCount_0f7a4_17 rfl ?_
  refine lv_ldcw (v := (858993459 : Int32)) hx hb hown (hKK.use kc_J6_266 rfl _) dJ6_bitCount_0f7a4_18 ?_
  refine lv_iand hx hb dJ6_bitCount_0f7a4_21 ?_
  refine lv_iadd hx hb dJ6_bitCount_0f7a4_22 ?_
  refine lv_istore_n (lv' := [(0, .int (((v0 - ((iushr v0 (nI 1)) &&& (1431655765 : Int32))) &&& (858993459 : Int32)) + ((iushr (v0 - ((iushr v0 (nI 1)) &&& (1431655765 : Int32))) (nI 2)) &&& (858993459 : Int32))))]) hx hb dJ6_bitCount_0f7a4_23 rfl hl (by decide) rfl (fun ls hl => ?_)
  refine lv_iload_n hx hb dJ6_bitCount_0f7a4_24 rfl (lv_at hl 0 rfl) ?_
  refine lv_iload_n hx hb dJ6_bitCount_0f7a4_25 rfl (lv_at hl 0 rfl) ?_
  refine lv_iconst (v := (nI 4)) hx hb dJ6_bitCount_0f7a4_26 (by decide) ?_
  refine lv_iushr (v := iushr (((v0 - ((iushr v0 (nI 1)) &&& (1431655765 : Int32))) &&& (858993459 : Int32)) + ((iushr (v0 - ((iushr v0 (nI 1)) &&& (1431655765 : Int32))) (nI 2)) &&& (858993459 : Int32))) (nI 4)) hx hb dJ6_bitCount_0f7a4_27 rfl ?_
  refine lv_iadd hx hb dJ6_bitCount_0f7a4_28 ?_
  refine lv_ldcw (v := (252645135 : Int32)) hx hb hown (hKK.use kc_J6_267 rfl _) dJ6_bitCount_0f7a4_29 ?_
  refine lv_iand hx hb dJ6_bitCount_0f7a4_32 ?_
  refine lv_istore_n (lv' := [(0, .int (((((v0 - ((iushr v0 (nI 1)) &&& (1431655765 : Int32))) &&& (858993459 : Int32)) + ((iushr (v0 - ((iushr v0 (nI 1)) &&& (1431655765 : Int32))) (nI 2)) &&& (858993459 : Int32))) + (iushr (((v0 - ((iushr v0 (nI 1)) &&& (1431655765 : Int32))) &&& (858993459 : Int32)) + ((iushr (v0 - ((iushr v0 (nI 1)) &&& (1431655765 : Int32))) (nI 2)) &&& (858993459 : Int32))) (nI 4))) &&& (252645135 : Int32)))]) hx hb dJ6_bitCount_0f7a4_33 rfl hl (by decide) rfl (fun ls hl => ?_)
  refine lv_iload_n hx hb dJ6_bitCount_0f7a4_34 rfl (lv_at hl 0 rfl) ?_
  refine lv_iload_n hx hb dJ6_bitCount_0f7a4_35 rfl (lv_at hl 0 rfl) ?_
  refine lv_bipush (v := (nI 8)) hx hb dJ6_bitCount_0f7a4_36 (by decide) ?_
  refine lv_iushr (v := iushr (((((v0 - ((iushr v0 (nI 1)) &&& (1431655765 : Int32))) &&& (858993459 : Int32)) + ((iushr (v0 - ((iushr v0 (nI 1)) &&& (1431655765 : Int32))) (nI 2)) &&& (858993459 : Int32))) + (iushr (((v0 - ((iushr v0 (nI 1)) &&& (1431655765 : Int32))) &&& (858993459 : Int32)) + ((iushr (v0 - ((iushr v0 (nI 1)) &&& (1431655765 : Int32))) (nI 2)) &&& (858993459 : Int32))) (nI 4))) &&& (252645135 : Int32)) (nI 8)) hx hb dJ6_bitCount_0f7a4_38 rfl ?_
  refine lv_iadd hx hb dJ6_bitCount_0f7a4_39 ?_
  refine lv_istore_n (lv' := [(0, .int ((((((v0 - ((iushr v0 (nI 1)) &&& (1431655765 : Int32))) &&& (858993459 : Int32)) + ((iushr (v0 - ((iushr v0 (nI 1)) &&& (1431655765 : Int32))) (nI 2)) &&& (858993459 : Int32))) + (iushr (((v0 - ((iushr v0 (nI 1)) &&& (1431655765 : Int32))) &&& (858993459 : Int32)) + ((iushr (v0 - ((iushr v0 (nI 1)) &&& (1431655765 : Int32))) (nI 2)) &&& (858993459 : Int32))) (nI 4))) &&& (252645135 : Int32)) + (iushr (((((v0 - ((iushr v0 (nI 1)) &&& (1431655765 : Int32))) &&& (858993459 : Int32)) + ((iushr (v0 - ((iushr v0 (nI 1)) &&& (1431655765 : Int32))) (nI 2)) &&& (858993459 : Int32))) + (iushr (((v0 - ((iushr v0 (nI 1)) &&& (1431655765 : Int32))) &&& (858993459 : Int32)) + ((iushr (v0 - ((iushr v0 (nI 1)) &&& (1431655765 : Int32))) (nI 2)) &&& (858993459 : Int32))) (nI 4))) &&& (252645135 : Int32)) (nI 8))))]) hx hb dJ6_bitCount_0f7a4_40 rfl hl (by decide) rfl (fun ls hl => ?_)
  refine lv_iload_n hx hb dJ6_bitCount_0f7a4_41 rfl (lv_at hl 0 rfl) ?_
  refine lv_iload_n hx hb dJ6_bitCount_0f7a4_42 rfl (lv_at hl 0 rfl) ?_
  refine lv_bipush (v := (nI 16)) hx hb dJ6_bitCount_0f7a4_43 (by decide) ?_
  refine lv_iushr (v := iushr ((((((v0 - ((iushr v0 (nI 1)) &&& (1431655765 : Int32))) &&& (858993459 : Int32)) + ((iushr (v0 - ((iushr v0 (nI 1)) &&& (1431655765 : Int32))) (nI 2)) &&& (858993459 : Int32))) + (iushr (((v0 - ((iushr v0 (nI 1)) &&& (1431655765 : Int32))) &&& (858993459 : Int32)) + ((iushr (v0 - ((iushr v0 (nI 1)) &&& (1431655765 : Int32))) (nI 2)) &&& (858993459 : Int32))) (nI 4))) &&& (252645135 : Int32)) + (iushr (((((v0 - ((iushr v0 (nI 1)) &&& (1431655765 : Int32))) &&& (858993459 : Int32)) + ((iushr (v0 - ((iushr v0 (nI 1)) &&& (1431655765 : Int32))) (nI 2)) &&& (858993459 : Int32))) + (iushr (((v0 - ((iushr v0 (nI 1)) &&& (1431655765 : Int32))) &&& (858993459 : Int32)) + ((iushr (v0 - ((iushr v0 (nI 1)) &&& (1431655765 : Int32))) (nI 2)) &&& (858993459 : Int32))) (nI 4))) &&& (252645135 : Int32)) (nI 8))) (nI 16)) hx hb dJ6_bitCount_0f7a4_45 rfl ?_
  refine lv_iadd hx hb dJ6_bitCount_0f7a4_46 ?_
  refine lv_istore_n (lv' := [(0, .int (((((((v0 - ((iushr v0 (nI 1)) &&& (1431655765 : Int32))) &&& (858993459 : Int32)) + ((iushr (v0 - ((iushr v0 (nI 1)) &&& (1431655765 : Int32))) (nI 2)) &&& (858993459 : Int32))) + (iushr (((v0 - ((iushr v0 (nI 1)) &&& (1431655765 : Int32))) &&& (858993459 : Int32)) + ((iushr (v0 - ((iushr v0 (nI 1)) &&& (1431655765 : Int32))) (nI 2)) &&& (858993459 : Int32))) (nI 4))) &&& (252645135 : Int32)) + (iushr (((((v0 - ((iushr v0 (nI 1)) &&& (1431655765 : Int32))) &&& (858993459 : Int32)) + ((iushr (v0 - ((iushr v0 (nI 1)) &&& (1431655765 : Int32))) (nI 2)) &&& (858993459 : Int32))) + (iushr (((v0 - ((iushr v0 (nI 1)) &&& (1431655765 : Int32))) &&& (858993459 : Int32)) + ((iushr (v0 - ((iushr v0 (nI 1)) &&& (1431655765 : Int32))) (nI 2)) &&& (858993459 : Int32))) (nI 4))) &&& (252645135 : Int32)) (nI 8))) + (iushr ((((((v0 - ((iushr v0 (nI 1)) &&& (1431655765 : Int32))) &&& (858993459 : Int32)) + ((iushr (v0 - ((iushr v0 (nI 1)) &&& (1431655765 : Int32))) (nI 2)) &&& (858993459 : Int32))) + (iushr (((v0 - ((iushr v0 (nI 1)) &&& (1431655765 : Int32))) &&& (858993459 : Int32)) + ((iushr (v0 - ((iushr v0 (nI 1)) &&& (1431655765 : Int32))) (nI 2)) &&& (858993459 : Int32))) (nI 4))) &&& (252645135 : Int32)) + (iushr (((((v0 - ((iushr v0 (nI 1)) &&& (1431655765 : Int32))) &&& (858993459 : Int32)) + ((iushr (v0 - ((iushr v0 (nI 1)) &&& (1431655765 : Int32))) (nI 2)) &&& (858993459 : Int32))) + (iushr (((v0 - ((iushr v0 (nI 1)) &&& (1431655765 : Int32))) &&& (858993459 : Int32)) + ((iushr (v0 - ((iushr v0 (nI 1)) &&& (1431655765 : Int32))) (nI 2)) &&& (858993459 : Int32))) (nI 4))) &&& (252645135 : Int32)) (nI 8))) (nI 16))))]) hx hb dJ6_bitCount_0f7a4_47 rfl hl (by decide) rfl (fun ls hl => ?_)
  refine lv_iload_n hx hb dJ6_bitCount_0f7a4_48 rfl (lv_at hl 0 rfl) ?_
  refine lv_bipush (v := (nI 63)) hx hb dJ6_bitCount_0f7a4_49 (by decide) ?_
  refine lv_iand hx hb dJ6_bitCount_0f7a4_51 ?_
  exact hv_iret hx hb hr hlk hH hw dJ6_bitCount_0f7a4_52
abbrev rm_X0_begin : Room := { frames := 0, cells := 0, slots := 0, locals := 0 }
set_option maxHeartbeats 4000000 in
set_option maxRecDepth 100000 in
theorem m_X0_begin {l : Launch} {G : Gl} {B sz : Nat} {S : St} (v0 : Nat) (v1 : Int32) (v2 : Int32) (v3 : Int32) (h : Hp) (Q : Hp → Prop) (hw : w_X0_begin S v0 v1 v2 v3 h Q) : MV l G B sz S yX0_begin cX0_begin 4 rm_X0_begin [.ref v0, .int v1, .int v2, .int v3] h Q := by
  refine met_of rfl rfl ?_
  intro p e s m args below meth c hMB H ls hH hl
  obtain ⟨hx, hb, hml, hown, hKK, hr, hlk⟩ := hMB
  replace hl : lv_has ls 4 [(0, .ref v0), (1, .int v1), (2, .int v2), (3, .int v3)] := hl
  unfold w_X0_begin at hw
  show W p l e rm_X0_begin s m args below meth c H [] 0 0 (QV G B S sz below args s Q) (F0 m 0 ls [])
  generalize ([] : List Loc) = locs at hH ⊢
  refine lv_aload_n hx hb dX0_begin_0 rfl (lv_at hl 0 rfl) ?_
  refine lv_iload_n hx hb dX0_begin_1 rfl (lv_at hl 1 rfl) ?_
  obtain ⟨k1, hw⟩ := hw
  refine hv_put (ci := 0) (k := 0) hx hb hown hKK hH cf0 (by decide) fl_X0_15 rfl rfl rfl k1 rfl rfl dX0_begin_2 (fun H locs hH => ?_)
  refine lv_aload_n hx hb dX0_begin_5 rfl (lv_at hl 0 rfl) ?_
  refine lv_iload_n hx hb dX0_begin_6 rfl (lv_at hl 2 rfl) ?_
  refine hv_put (ci := 0) (k := 1) hx hb hown hKK hH cf0 (by decide) fl_X0_19 rfl rfl rfl k1 rfl rfl dX0_begin_7 (fun H locs hH => ?_)
  refine lv_aload_n hx hb dX0_begin_10 rfl (lv_at hl 0 rfl) ?_
  refine lv_iconst (v := (nI 0)) hx hb dX0_begin_11 (by decide) ?_
  refine hv_put (ci := 0) (k := 3) hx hb hown hKK hH cf0 (by decide) fl_X0_22 rfl rfl rfl k1 rfl rfl dX0_begin_12 (fun H locs hH => ?_)
  refine lv_aload_n hx hb dX0_begin_15 rfl (lv_at hl 0 rfl) ?_
  refine lv_iload_n hx hb dX0_begin_16 rfl (lv_at hl 3 rfl) ?_
  refine hv_put (ci := 0) (k := 4) hx hb hown hKK hH cf0 (by decide) fl_X0_25 rfl rfl rfl k1 rfl rfl dX0_begin_17 (fun H locs hH => ?_)
  refine lv_aload_n hx hb dX0_begin_20 rfl (lv_at hl 0 rfl) ?_
  refine lv_iconst (v := (nI 0)) hx hb dX0_begin_21 (by decide) ?_
  refine hv_put (ci := 0) (k := 5) hx hb hown hKK hH cf0 (by decide) fl_X0_28 rfl rfl rfl k1 rfl rfl dX0_begin_22 (fun H locs hH => ?_)
  refine lv_aload_n hx hb dX0_begin_25 rfl (lv_at hl 0 rfl) ?_
  refine lv_iconst (v := (nI 0)) hx hb dX0_begin_26 (by decide) ?_
  refine hv_put (ci := 0) (k := 6) hx hb hown hKK hH cf0 (by decide) fl_X0_31 rfl rfl rfl k1 rfl rfl dX0_begin_27 (fun H locs hH => ?_)
  refine lv_aload_n hx hb dX0_begin_30 rfl (lv_at hl 0 rfl) ?_
  refine lv_iconst (v := (nI 0)) hx hb dX0_begin_31 (by decide) ?_
  refine hv_put (ci := 0) (k := 7) hx hb hown hKK hH cf0 (by decide) fl_X0_34 rfl rfl rfl k1 rfl rfl dX0_begin_32 (fun H locs hH => ?_)
  refine lv_aload_n hx hb dX0_begin_35 rfl (lv_at hl 0 rfl) ?_
  refine lv_iconst (v := (nI 0)) hx hb dX0_begin_36 (by decide) ?_
  refine hv_put (ci := 0) (k := 8) hx hb hown hKK hH cf0 (by decide) fl_X0_37 rfl rfl rfl k1 rfl rfl dX0_begin_37 (fun H locs hH => ?_)
  exact hv_vret hx hb hr hlk hH hw dX0_begin_40
abbrev rm_X0_copyName : Room := { frames := 1, cells := 0, slots := 0, locals := 60 }
set_option maxHeartbeats 4000000 in
set_option maxRecDepth 100000 in
theorem m_X0_copyName {l : Launch} {G : Gl} {B sz : Nat} {S : St} (v0 : Nat) (v1 : Nat) (h : Hp) (Q : Hp → Prop) (hw : w_X0_copyName S v0 v1 h Q) : MV l G B sz S yX0_copyName cX0_copyName 2 rm_X0_copyName [.ref v0, .ref v1] h Q := by
  refine met_of rfl rfl ?_
  intro p e s m args below meth c hMB H ls hH hl
  obtain ⟨hx, hb, hml, hown, hKK, hr, hlk⟩ := hMB
  replace hl : lv_has ls 2 [(0, .ref v0), (1, .ref v1)] := hl
  unfold w_X0_copyName at hw
  show W p l e rm_X0_copyName s m args below meth c H [] 0 0 (QV G B S sz below args s Q) (F0 m 0 ls [])
  generalize ([] : List Loc) = locs at hH ⊢
  refine lv_aload_n hx hb dX0_copyName_0 rfl (lv_at hl 0 rfl) ?_
  refine lv_aload_n hx hb dX0_copyName_1 rfl (lv_at hl 1 rfl) ?_
  obtain ⟨k1, hw⟩ := hw
  refine hv_get (ci := 0) (k := 3) (v := .int (h v1 3)) hx hb hown hKK hH cf0 (by decide) fl_X0_22 rfl k1 rfl dX0_copyName_2 ?_
  obtain ⟨k2, hw⟩ := hw
  refine hv_put (ci := 0) (k := 3) hx hb hown hKK hH cf0 (by decide) fl_X0_22 rfl rfl rfl k2 rfl rfl dX0_copyName_5 (fun H locs hH => ?_)
  refine lv_aload_n hx hb dX0_copyName_8 rfl (lv_at hl 1 rfl) ?_
  refine hv_get (ci := 0) (k := 2) (v := .ref (S.2 v1 2)) hx hb hown hKK hH cf0 (by decide) fl_X0_9 rfl k1 rfl dX0_copyName_9 ?_
  refine lv_iconst (v := (nI 0)) hx hb dX0_copyName_12 (by decide) ?_
  refine lv_aload_n hx hb dX0_copyName_13 rfl (lv_at hl 0 rfl) ?_
  refine hv_get (ci := 0) (k := 2) (v := .ref (S.2 v0 2)) hx hb hown hKK hH cf0 (by decide) fl_X0_9 rfl k2 rfl dX0_copyName_14 ?_
  refine lv_iconst (v := (nI 0)) hx hb dX0_copyName_17 (by decide) ?_
  refine lv_bipush (v := (nI 6)) hx hb dX0_copyName_18 (by decide) ?_
  obtain ⟨k3, hw⟩ := hw
  refine hv_copy hx hb (hml.trans hl.1.symm) hown hKK hH ml_X0_45 k3 (Nat.le_of_ble_eq_true rfl) (by decide) dX0_copyName_20 (fun H locs hH => ?_)
  exact hv_vret hx hb hr hlk hH hw dX0_copyName_23
abbrev rm_X0_become : Room := { frames := 2, cells := 0, slots := 0, locals := 81 }
set_option maxHeartbeats 4000000 in
set_option maxRecDepth 100000 in
theorem m_X0_become {l : Launch} {G : Gl} {B sz : Nat} {S : St} (v0 : Nat) (v1 : Nat) (h : Hp) (Q : Hp → Prop) (hw : w_X0_become S v0 v1 h Q) : MV l G B sz S yX0_become cX0_become 2 rm_X0_become [.ref v0, .ref v1] h Q := by
  refine met_of rfl rfl ?_
  intro p e s m args below meth c hMB H ls hH hl
  obtain ⟨hx, hb, hml, hown, hKK, hr, hlk⟩ := hMB
  replace hl : lv_has ls 2 [(0, .ref v0), (1, .ref v1)] := hl
  unfold w_X0_become at hw
  show W p l e rm_X0_become s m args below meth c H [] 0 0 (QV G B S sz below args s Q) (F0 m 0 ls [])
  generalize ([] : List Loc) = locs at hH ⊢
  refine lv_aload_n hx hb dX0_become_0 rfl (lv_at hl 0 rfl) ?_
  refine lv_aload_n hx hb dX0_become_1 rfl (lv_at hl 1 rfl) ?_
  obtain ⟨k1, hw⟩ := hw
  refine hv_get (ci := 0) (k := 0) (v := .int (h v1 0)) hx hb hown hKK hH cf0 (by decide) fl_X0_15 rfl k1 rfl dX0_become_2 ?_
  obtain ⟨k2, hw⟩ := hw
  refine hv_put (ci := 0) (k := 0) hx hb hown hKK hH cf0 (by decide) fl_X0_15 rfl rfl rfl k2 rfl rfl dX0_become_5 (fun H locs hH => ?_)
  refine lv_aload_n hx hb dX0_become_8 rfl (lv_at hl 0 rfl) ?_
  refine lv_aload_n hx hb dX0_become_9 rfl (lv_at hl 1 rfl) ?_
  refine hv_get (ci := 0) (k := 1) (v := .int ((up h v0 0 (h v1 0)) v1 1)) hx hb hown hKK hH cf0 (by decide) fl_X0_19 rfl k1 rfl dX0_become_10 ?_
  refine hv_put (ci := 0) (k := 1) hx hb hown hKK hH cf0 (by decide) fl_X0_19 rfl rfl rfl k2 rfl rfl dX0_become_13 (fun H locs hH => ?_)
  refine lv_aload_n hx hb dX0_become_16 rfl (lv_at hl 0 rfl) ?_
  refine lv_aload_n hx hb dX0_become_17 rfl (lv_at hl 1 rfl) ?_
  refine hv_cVV (rm := rm_X0_copyName) (As := [.ref v1]) (rest := []) (k := 1) (ci := 0) hx hb hml hown hKK hH cf0 k2 (m_X0_copyName v0 v1 _ _ hw) cw_X0_41 ⟨Nat.le_of_ble_eq_true rfl, Nat.le_of_ble_eq_true rfl⟩ rfl hl.1 rfl (Nat.le_of_ble_eq_true rfl) ⟨Nat.le_of_ble_eq_true rfl, Nat.le_of_ble_eq_true rfl⟩ dX0_become_18 (fun h3 H locs hH hw => ?_)
  refine lv_aload_n hx hb dX0_become_21 rfl (lv_at hl 0 rfl) ?_
  refine lv_aload_n hx hb dX0_become_22 rfl (lv_at hl 1 rfl) ?_
  refine hv_get (ci := 0) (k := 4) (v := .int (h3 v1 4)) hx hb hown hKK hH cf0 (by decide) fl_X0_25 rfl k1 rfl dX0_become_23 ?_
  refine hv_put (ci := 0) (k := 4) hx hb hown hKK hH cf0 (by decide) fl_X0_25 rfl rfl rfl k2 rfl rfl dX0_become_26 (fun H locs hH => ?_)
  refine lv_aload_n hx hb dX0_become_29 rfl (lv_at hl 0 rfl) ?_
  refine lv_aload_n hx hb dX0_become_30 rfl (lv_at hl 1 rfl) ?_
  refine hv_get (ci := 0) (k := 5) (v := .int ((up h3 v0 4 (h3 v1 4)) v1 5)) hx hb hown hKK hH cf0 (by decide) fl_X0_28 rfl k1 rfl dX0_become_31 ?_
  refine hv_put (ci := 0) (k := 5) hx hb hown hKK hH cf0 (by decide) fl_X0_28 rfl rfl rfl k2 rfl rfl dX0_become_34 (fun H locs hH => ?_)
  refine lv_aload_n hx hb dX0_become_37 rfl (lv_at hl 0 rfl) ?_
  refine lv_aload_n hx hb dX0_become_38 rfl (lv_at hl 1 rfl) ?_
  refine hv_get (ci := 0) (k := 6) (v := .int ((up (up h3 v0 4 (h3 v1 4)) v0 5 ((up h3 v0 4 (h3 v1 4)) v1 5)) v1 6)) hx hb hown hKK hH cf0 (by decide) fl_X0_31 rfl k1 rfl dX0_become_39 ?_
  refine hv_put (ci := 0) (k := 6) hx hb hown hKK hH cf0 (by decide) fl_X0_31 rfl rfl rfl k2 rfl rfl dX0_become_42 (fun H locs hH => ?_)
  refine lv_aload_n hx hb dX0_become_45 rfl (lv_at hl 0 rfl) ?_
  refine lv_aload_n hx hb dX0_become_46 rfl (lv_at hl 1 rfl) ?_
  refine hv_get (ci := 0) (k := 7) (v := .int ((up (up (up h3 v0 4 (h3 v1 4)) v0 5 ((up h3 v0 4 (h3 v1 4)) v1 5)) v0 6 ((up (up h3 v0 4 (h3 v1 4)) v0 5 ((up h3 v0 4 (h3 v1 4)) v1 5)) v1 6)) v1 7)) hx hb hown hKK hH cf0 (by decide) fl_X0_34 rfl k1 rfl dX0_become_47 ?_
  refine hv_put (ci := 0) (k := 7) hx hb hown hKK hH cf0 (by decide) fl_X0_34 rfl rfl rfl k2 rfl rfl dX0_become_50 (fun H locs hH => ?_)
  refine lv_aload_n hx hb dX0_become_53 rfl (lv_at hl 0 rfl) ?_
  refine lv_aload_n hx hb dX0_become_54 rfl (lv_at hl 1 rfl) ?_
  refine hv_get (ci := 0) (k := 8) (v := .int ((up (up (up (up h3 v0 4 (h3 v1 4)) v0 5 ((up h3 v0 4 (h3 v1 4)) v1 5)) v0 6 ((up (up h3 v0 4 (h3 v1 4)) v0 5 ((up h3 v0 4 (h3 v1 4)) v1 5)) v1 6)) v0 7 ((up (up (up h3 v0 4 (h3 v1 4)) v0 5 ((up h3 v0 4 (h3 v1 4)) v1 5)) v0 6 ((up (up h3 v0 4 (h3 v1 4)) v0 5 ((up h3 v0 4 (h3 v1 4)) v1 5)) v1 6)) v1 7)) v1 8)) hx hb hown hKK hH cf0 (by decide) fl_X0_37 rfl k1 rfl dX0_become_55 ?_
  obtain ⟨k4, hw⟩ := hw
  refine hv_put (ci := 0) (k := 8) hx hb hown hKK hH cf0 (by decide) fl_X0_37 rfl rfl rfl k2 (bo_n k4) (bo_f k4) dX0_become_58 (fun H locs hH => ?_)
  exact hv_vret hx hb hr hlk hH hw dX0_become_61
abbrev rm_X0_steps : Room := { frames := 0, cells := 0, slots := 0, locals := 0 }
set_option maxHeartbeats 4000000 in
set_option maxRecDepth 100000 in
theorem m_X0_steps {l : Launch} {G : Gl} {B sz : Nat} {S : St} (v0 : Nat) (h : Hp) (Q : Int32 → Hp → Prop) (hw : w_X0_steps S v0 h Q) : MI l G B sz S yX0_steps cX0_steps 1 .int rm_X0_steps [.ref v0] h Q := by
  refine met_of rfl rfl ?_
  intro p e s m args below meth c hMB H ls hH hl
  obtain ⟨hx, hb, hml, hown, hKK, hr, hlk⟩ := hMB
  replace hl : lv_has ls 1 [(0, .ref v0)] := hl
  unfold w_X0_steps at hw
  show W p l e rm_X0_steps s m args below meth c H [] 0 0 (QI G B S sz below args s Q) (F0 m 0 ls [])
  generalize ([] : List Loc) = locs at hH ⊢
  refine lv_aload_n hx hb dX0_steps_0 rfl (lv_at hl 0 rfl) ?_
  obtain ⟨k1, hw⟩ := hw
  refine hv_get (ci := 0) (k := 0) (v := .int (h v0 0)) hx hb hown hKK hH cf0 (by decide) fl_X0_15 rfl k1 rfl dX0_steps_1 ?_
  by_cases c2 : (h v0 0) = (nI 1)
  · have hw := ite_t hw c2
    refine lv_tableIn (tgt := 48) hx hb dX0_steps_4 (by rw [c2]; decide) (by rw [c2]; decide) (by rw [c2]; rfl) (by decide) ?_
    refine lv_iconst (v := (nI 2)) hx hb dX0_steps_48 (by decide) ?_
    exact hv_iret hx hb hr hlk hH hw dX0_steps_49
  have hw := ite_f hw c2
  by_cases c3 : (h v0 0) = (nI 2)
  · have hw := ite_t hw c3
    refine lv_tableIn (tgt := 50) hx hb dX0_steps_4 (by rw [c3]; decide) (by rw [c3]; decide) (by rw [c3]; rfl) (by decide) ?_
    refine lv_aload_n hx hb dX0_steps_50 rfl (lv_at hl 0 rfl) ?_
    refine hv_get (ci := 0) (k := 1) (v := .int (h v0 1)) hx hb hown hKK hH cf0 (by decide) fl_X0_19 rfl k1 rfl dX0_steps_51 ?_
    refine lv_iconst (v := (nI 3)) hx hb dX0_steps_54 (by decide) ?_
    refine lv_idiv hx hb dX0_steps_55 (by decide) ?_
    refine lv_iconst (v := (nI 1)) hx hb dX0_steps_56 (by decide) ?_
    refine lv_iadd hx hb dX0_steps_57 ?_
    exact hv_iret hx hb hr hlk hH hw dX0_steps_58
  have hw := ite_f hw c3
  by_cases c4 : (h v0 0) = (nI 5)
  · have hw := ite_t hw c4
    refine lv_tableIn (tgt := 59) hx hb dX0_steps_4 (by rw [c4]; decide) (by rw [c4]; decide) (by rw [c4]; rfl) (by decide) ?_
    refine lv_aload_n hx hb dX0_steps_59 rfl (lv_at hl 0 rfl) ?_
    refine hv_get (ci := 0) (k := 3) (v := .int (h v0 3)) hx hb hown hKK hH cf0 (by decide) fl_X0_22 rfl k1 rfl dX0_steps_60 ?_
    refine lv_iconst (v := (nI 2)) hx hb dX0_steps_63 (by decide) ?_
    refine lv_idiv hx hb dX0_steps_64 (by decide) ?_
    exact hv_iret hx hb hr hlk hH hw dX0_steps_65
  have hw := ite_f hw c4
  by_cases c5 : (h v0 0) = (nI 6)
  · have hw := ite_t hw c5
    refine lv_tableIn (tgt := 66) hx hb dX0_steps_4 (by rw [c5]; decide) (by rw [c5]; decide) (by rw [c5]; rfl) (by decide) ?_
    refine lv_aload_n hx hb dX0_steps_66 rfl (lv_at hl 0 rfl) ?_
    refine hv_get (ci := 0) (k := 1) (v := .int (h v0 1)) hx hb hown hKK hH cf0 (by decide) fl_X0_19 rfl k1 rfl dX0_steps_67 ?_
    refine lv_iconst (v := (nI 3)) hx hb dX0_steps_70 (by decide) ?_
    refine lv_idiv hx hb dX0_steps_71 (by decide) ?_
    refine lv_iconst (v := (nI 2)) hx hb dX0_steps_72 (by decide) ?_
    refine lv_iadd hx hb dX0_steps_73 ?_
    exact hv_iret hx hb hr hlk hH hw dX0_steps_74
  have hw := ite_f hw c5
  by_cases c6 : (h v0 0) = (nI 7)
  · have hw := ite_t hw c6
    refine lv_tableIn (tgt := 75) hx hb dX0_steps_4 (by rw [c6]; decide) (by rw [c6]; decide) (by rw [c6]; rfl) (by decide) ?_
    refine lv_iconst (v := (nI 2)) hx hb dX0_steps_75 (by decide) ?_
    exact hv_iret hx hb hr hlk hH hw dX0_steps_76
  have hw := ite_f hw c6
  have wd : W p l e rm_X0_steps s m args below meth c H locs 0 0 (QI G B S sz below args s Q) (F0 m 77 ls []) := by
    refine lv_iconst (v := (nI 1)) hx hb dX0_steps_77 (by decide) ?_
    exact hv_iret hx hb hr hlk hH hw dX0_steps_78
  by_cases c7 : (h v0 0) = (nI 3)
  · exact lv_tableIn (tgt := 77) hx hb dX0_steps_4 (by rw [c7]; decide) (by rw [c7]; decide) (by rw [c7]; rfl) (by decide) wd
  by_cases c8 : (h v0 0) = (nI 4)
  · exact lv_tableIn (tgt := 77) hx hb dX0_steps_4 (by rw [c8]; decide) (by rw [c8]; decide) (by rw [c8]; rfl) (by decide) wd
  refine lv_tableOut (tgt := 77) hx hb dX0_steps_4 (by have := ne_toInt (k := 1) (by decide) c2; have := ne_toInt (k := 2) (by decide) c3; have := ne_toInt (k := 5) (by decide) c4; have := ne_toInt (k := 6) (by decide) c5; have := ne_toInt (k := 7) (by decide) c6; have := ne_toInt (k := 3) (by decide) c7; have := ne_toInt (k := 4) (by decide) c8; omega) (by decide) wd
abbrev rm_X0_weight : Room := { frames := 0, cells := 0, slots := 0, locals := 0 }
set_option maxHeartbeats 4000000 in
set_option maxRecDepth 100000 in
theorem m_X0_weight {l : Launch} {G : Gl} {B sz : Nat} {S : St} (v0 : Nat) (h : Hp) (Q : Int32 → Hp → Prop) (hw : w_X0_weight S v0 h Q) : MI l G B sz S yX0_weight cX0_weight 2 .int rm_X0_weight [.ref v0] h Q := by
  refine met_of rfl rfl ?_
  intro p e s m args below meth c hMB H ls hH hl
  obtain ⟨hx, hb, hml, hown, hKK, hr, hlk⟩ := hMB
  replace hl : lv_has ls 2 [(0, .ref v0)] := hl
  unfold w_X0_weight at hw
  show W p l e rm_X0_weight s m args below meth c H [] 0 0 (QI G B S sz below args s Q) (F0 m 0 ls [])
  generalize ([] : List Loc) = locs at hH ⊢
  refine lv_aload_n hx hb dX0_weight_0 rfl (lv_at hl 0 rfl) ?_
  obtain ⟨k1, hw⟩ := hw
  refine hv_get (ci := 0) (k := 1) (v := .int (h v0 1)) hx hb hown hKK hH cf0 (by decide) fl_X0_19 rfl k1 rfl dX0_weight_1 ?_
  refine lv_iconst (v := (nI 1)) hx hb dX0_weight_4 (by decide) ?_
  refine lv_iadd hx hb dX0_weight_5 ?_
  refine lv_istore_n (lv' := [(1, .int ((h v0 1) + (nI 1))), (0, .ref v0)]) hx hb dX0_weight_6 rfl hl (by decide) rfl (fun ls hl => ?_)
  refine lv_aload_n hx hb dX0_weight_7 rfl (lv_at hl 1 rfl) ?_
  refine hv_get (ci := 0) (k := 0) (v := .int (h v0 0)) hx hb hown hKK hH cf0 (by decide) fl_X0_15 rfl k1 rfl dX0_weight_8 ?_
  by_cases c2 : (h v0 0) = (nI 1)
  · have hw := ite_t hw c2
    refine lv_tableIn (tgt := 52) hx hb dX0_weight_11 (by rw [c2]; decide) (by rw [c2]; decide) (by rw [c2]; rfl) (by decide) ?_
    refine lv_iconst (v := (nI 2)) hx hb dX0_weight_52 (by decide) ?_
    refine lv_iload_n hx hb dX0_weight_53 rfl (lv_at hl 0 rfl) ?_
    refine lv_imul hx hb dX0_weight_54 ?_
    exact hv_iret hx hb hr hlk hH hw dX0_weight_55
  have hw := ite_f hw c2
  by_cases c3 : (h v0 0) = (nI 2)
  · have hw := ite_t hw c3
    refine lv_tableIn (tgt := 56) hx hb dX0_weight_11 (by rw [c3]; decide) (by rw [c3]; decide) (by rw [c3]; rfl) (by decide) ?_
    refine lv_bipush (v := (nI 9)) hx hb dX0_weight_56 (by decide) ?_
    exact hv_iret hx hb hr hlk hH hw dX0_weight_58
  have hw := ite_f hw c3
  by_cases c4 : (h v0 0) = (nI 3)
  · have hw := ite_t hw c4
    refine lv_tableIn (tgt := 59) hx hb dX0_weight_11 (by rw [c4]; decide) (by rw [c4]; decide) (by rw [c4]; rfl) (by decide) ?_
    refine lv_iload_n hx hb dX0_weight_59 rfl (lv_at hl 0 rfl) ?_
    refine lv_iconst (v := (nI 2)) hx hb dX0_weight_60 (by decide) ?_
    refine lv_idiv hx hb dX0_weight_61 (by decide) ?_
    exact hv_iret hx hb hr hlk hH hw dX0_weight_62
  have hw := ite_f hw c4
  by_cases c5 : (h v0 0) = (nI 4)
  · have hw := ite_t hw c5
    refine lv_tableIn (tgt := 63) hx hb dX0_weight_11 (by rw [c5]; decide) (by rw [c5]; decide) (by rw [c5]; rfl) (by decide) ?_
    refine lv_iconst (v := (nI 2)) hx hb dX0_weight_63 (by decide) ?_
    refine lv_iload_n hx hb dX0_weight_64 rfl (lv_at hl 0 rfl) ?_
    refine lv_imul hx hb dX0_weight_65 ?_
    refine lv_iconst (v := (nI 3)) hx hb dX0_weight_66 (by decide) ?_
    refine lv_iadd hx hb dX0_weight_67 ?_
    exact hv_iret hx hb hr hlk hH hw dX0_weight_68
  have hw := ite_f hw c5
  by_cases c6 : (h v0 0) = (nI 5)
  · have hw := ite_t hw c6
    refine lv_tableIn (tgt := 69) hx hb dX0_weight_11 (by rw [c6]; decide) (by rw [c6]; decide) (by rw [c6]; rfl) (by decide) ?_
    refine lv_iload_n hx hb dX0_weight_69 rfl (lv_at hl 0 rfl) ?_
    refine lv_iconst (v := (nI 2)) hx hb dX0_weight_70 (by decide) ?_
    refine lv_idiv hx hb dX0_weight_71 (by decide) ?_
    refine lv_iconst (v := (nI 2)) hx hb dX0_weight_72 (by decide) ?_
    refine lv_iadd hx hb dX0_weight_73 ?_
    exact hv_iret hx hb hr hlk hH hw dX0_weight_74
  have hw := ite_f hw c6
  by_cases c7 : (h v0 0) = (nI 6)
  · have hw := ite_t hw c7
    refine lv_tableIn (tgt := 75) hx hb dX0_weight_11 (by rw [c7]; decide) (by rw [c7]; decide) (by rw [c7]; rfl) (by decide) ?_
    refine lv_bipush (v := (nI 9)) hx hb dX0_weight_75 (by decide) ?_
    refine lv_aload_n hx hb dX0_weight_77 rfl (lv_at hl 1 rfl) ?_
    refine hv_get (ci := 0) (k := 1) (v := .int (h v0 1)) hx hb hown hKK hH cf0 (by decide) fl_X0_19 rfl k1 rfl dX0_weight_78 ?_
    refine lv_isub hx hb dX0_weight_81 ?_
    exact hv_iret hx hb hr hlk hH hw dX0_weight_82
  have hw := ite_f hw c7
  by_cases c8 : (h v0 0) = (nI 7)
  · have hw := ite_t hw c8
    refine lv_tableIn (tgt := 83) hx hb dX0_weight_11 (by rw [c8]; decide) (by rw [c8]; decide) (by rw [c8]; rfl) (by decide) ?_
    refine lv_iconst (v := (nI 2)) hx hb dX0_weight_83 (by decide) ?_
    refine lv_iload_n hx hb dX0_weight_84 rfl (lv_at hl 0 rfl) ?_
    refine lv_imul hx hb dX0_weight_85 ?_
    refine lv_iconst (v := (nI 3)) hx hb dX0_weight_86 (by decide) ?_
    refine lv_iadd hx hb dX0_weight_87 ?_
    exact hv_iret hx hb hr hlk hH hw dX0_weight_88
  have hw := ite_f hw c8
  refine lv_tableOut (tgt := 89) hx hb dX0_weight_11 (by have := ne_toInt (k := 1) (by decide) c2; have := ne_toInt (k := 2) (by decide) c3; have := ne_toInt (k := 3) (by decide) c4; have := ne_toInt (k := 4) (by decide) c5; have := ne_toInt (k := 5) (by decide) c6; have := ne_toInt (k := 6) (by decide) c7; have := ne_toInt (k := 7) (by decide) c8; omega) (by decide) ?_
  refine lv_iload_n hx hb dX0_weight_89 rfl (lv_at hl 0 rfl) ?_
  exact hv_iret hx hb hr hlk hH hw dX0_weight_90
abbrev rm_X0_isVowel : Room := { frames := 0, cells := 0, slots := 0, locals := 0 }
set_option maxHeartbeats 4000000 in
set_option maxRecDepth 100000 in
theorem m_X0_isVowel {l : Launch} {G : Gl} {B sz : Nat} {S : St} (v0 : Int32) (h : Hp) (Q : Int32 → Hp → Prop) (hw : w_X0_isVowel S v0 h Q) : MI l G B sz S yX0_isVowel cX0_isVowel 1 .boolean rm_X0_isVowel [.int v0] h Q := by
  refine met_of rfl rfl ?_
  intro p e s m args below meth c hMB H ls hH hl
  obtain ⟨hx, hb, hml, hown, hKK, hr, hlk⟩ := hMB
  replace hl : lv_has ls 1 [(0, .int v0)] := hl
  unfold w_X0_isVowel at hw
  show W p l e rm_X0_isVowel s m args below meth c H [] 0 0 (QI G B S sz below args s Q) (F0 m 0 ls [])
  generalize ([] : List Loc) = locs at hH ⊢
  refine lv_bipush (v := (nI 97)) hx hb dX0_isVowel_0 (by decide) ?_
  refine lv_iload_n hx hb dX0_isVowel_2 rfl (lv_at hl 0 rfl) ?_
  refine lv_iadd hx hb dX0_isVowel_3 ?_
  by_cases c1 : ((nI 97) + v0) = (nI 97)
  · have hw := ite_t hw c1
    refine lv_lookup (tgt := 56) (off := 52) hx hb dX0_isVowel_4 (by decide) (by (rw [c1]) <;> rfl) (by decide) ?_
    refine lv_iconst (v := (nI 1)) hx hb dX0_isVowel_56 (by decide) ?_
    exact hv_zret hx hb hr hlk hH (Or.inr rfl) hw dX0_isVowel_57
  have hw := ite_f hw c1
  by_cases c2 : ((nI 97) + v0) = (nI 101)
  · have hw := ite_t hw c2
    refine lv_lookup (tgt := 56) (off := 52) hx hb dX0_isVowel_4 (by decide) (by (rw [c2]) <;> rfl) (by decide) ?_
    refine lv_iconst (v := (nI 1)) hx hb dX0_isVowel_56 (by decide) ?_
    exact hv_zret hx hb hr hlk hH (Or.inr rfl) hw dX0_isVowel_57
  have hw := ite_f hw c2
  by_cases c3 : ((nI 97) + v0) = (nI 105)
  · have hw := ite_t hw c3
    refine lv_lookup (tgt := 56) (off := 52) hx hb dX0_isVowel_4 (by decide) (by (rw [c3]) <;> rfl) (by decide) ?_
    refine lv_iconst (v := (nI 1)) hx hb dX0_isVowel_56 (by decide) ?_
    exact hv_zret hx hb hr hlk hH (Or.inr rfl) hw dX0_isVowel_57
  have hw := ite_f hw c3
  by_cases c4 : ((nI 97) + v0) = (nI 111)
  · have hw := ite_t hw c4
    refine lv_lookup (tgt := 56) (off := 52) hx hb dX0_isVowel_4 (by decide) (by (rw [c4]) <;> rfl) (by decide) ?_
    refine lv_iconst (v := (nI 1)) hx hb dX0_isVowel_56 (by decide) ?_
    exact hv_zret hx hb hr hlk hH (Or.inr rfl) hw dX0_isVowel_57
  have hw := ite_f hw c4
  by_cases c5 : ((nI 97) + v0) = (nI 117)
  · have hw := ite_t hw c5
    refine lv_lookup (tgt := 56) (off := 52) hx hb dX0_isVowel_4 (by decide) (by (rw [c5]) <;> rfl) (by decide) ?_
    refine lv_iconst (v := (nI 1)) hx hb dX0_isVowel_56 (by decide) ?_
    exact hv_zret hx hb hr hlk hH (Or.inr rfl) hw dX0_isVowel_57
  have hw := ite_f hw c5
  refine lv_lookup (tgt := 58) (off := 54) hx hb dX0_isVowel_4 (by decide) (by show Op.lookupswitch.offset [(97, 52), (101, 52), (105, 52), (111, 52), (117, 52)] 54 _ = 54; (rw [lv_osw (a := 97) (o := 52) c1 rfl, lv_osw (a := 101) (o := 52) c2 rfl, lv_osw (a := 105) (o := 52) c3 rfl, lv_osw (a := 111) (o := 52) c4 rfl, lv_osw (a := 117) (o := 52) c5 rfl]) <;> rfl) (by decide) ?_
  refine lv_iconst (v := (nI 0)) hx hb dX0_isVowel_58 (by decide) ?_
  exact hv_zret hx hb hr hlk hH (Or.inl rfl) hw dX0_isVowel_59
abbrev rm_X0_veers : Room := { frames := 1, cells := 0, slots := 0, locals := 20 }
set_option maxHeartbeats 4000000 in
set_option maxRecDepth 100000 in
theorem m_X0_veers {l : Launch} {G : Gl} {B sz : Nat} {S : St} (v0 : Nat) (v1 : Int32) (h : Hp) (Q : Int32 → Hp → Prop) (hw : w_X0_veers S v0 v1 h Q) : MI l G B sz S yX0_veers cX0_veers 5 .int rm_X0_veers [.ref v0, .int v1] h Q := by
  refine met_of rfl rfl ?_
  intro p e s m args below meth c hMB H ls hH hl
  obtain ⟨hx, hb, hml, hown, hKK, hr, hlk⟩ := hMB
  replace hl : lv_has ls 5 [(0, .ref v0), (1, .int v1)] := hl
  have c41 : ∀  (v0 : Nat) (v1 : Int32) (v2 : Int32) (v3 : Int32) (s0 : Int32) (h : Hp) (H : Heap) (locs : List Loc) (ls : Array Slot), HH G B S h sz s H locs → lv_has ls 5 [(0, .ref v0), (1, .int v1), (2, .int v2), (3, .int v3)] → w_X0_veers_c41 S v0 v1 v2 v3 s0 h Q → W p l e rm_X0_veers s m args below meth c H locs 0 0 (QI G B S sz below args s Q) (F0 m 41 ls [.int s0]) := by
    intro  v0 v1 v2 v3 s0 h H locs ls hH hl hw
    unfold w_X0_veers_c41 at hw
    refine lv_istore (lv' := [(4, .int s0), (0, .ref v0), (1, .int v1), (2, .int v2), (3, .int v3)]) hx hb dX0_veers_41 hl (by decide) rfl (fun ls hl => ?_)
    refine lv_aload_n hx hb dX0_veers_43 rfl (lv_at hl 1 rfl) ?_
    obtain ⟨k1, hw⟩ := hw
    refine hv_get (ci := 0) (k := 0) (v := .int (h v0 0)) hx hb hown hKK hH cf0 (by decide) fl_X0_15 rfl k1 rfl dX0_veers_44 ?_
    by_cases c2 : (h v0 0) = (nI 1)
    · have hw := ite_t hw c2
      refine lv_tableIn (tgt := 88) hx hb dX0_veers_47 (by rw [c2]; decide) (by rw [c2]; decide) (by rw [c2]; rfl) (by decide) ?_
      refine lv_iload_n hx hb dX0_veers_88 rfl (lv_at hl 3 rfl) ?_
      exact hv_iret hx hb hr hlk hH hw dX0_veers_89
    have hw := ite_f hw c2
    by_cases c3 : (h v0 0) = (nI 3)
    · have hw := ite_t hw c3
      refine lv_tableIn (tgt := 90) hx hb dX0_veers_47 (by rw [c3]; decide) (by rw [c3]; decide) (by rw [c3]; rfl) (by decide) ?_
      refine lv_iload_n hx hb dX0_veers_90 rfl (lv_at hl 4 rfl) ?_
      exact hv_iret hx hb hr hlk hH hw dX0_veers_91
    have hw := ite_f hw c3
    by_cases c4 : (h v0 0) = (nI 4)
    · have hw := ite_t hw c4
      refine lv_tableIn (tgt := 92) hx hb dX0_veers_47 (by rw [c4]; decide) (by rw [c4]; decide) (by rw [c4]; rfl) (by decide) ?_
      refine lv_iload hx hb dX0_veers_92 (lv_at hl 0 rfl) ?_
      exact hv_iret hx hb hr hlk hH hw dX0_veers_94
    have hw := ite_f hw c4
    by_cases c5 : (h v0 0) = (nI 5)
    · have hw := ite_t hw c5
      refine lv_tableIn (tgt := 95) hx hb dX0_veers_47 (by rw [c5]; decide) (by rw [c5]; decide) (by rw [c5]; rfl) (by decide) ?_
      refine lv_iload_n hx hb dX0_veers_95 rfl (lv_at hl 4 rfl) ?_
      refine lv_iconst (v := (nI 1)) hx hb dX0_veers_96 (by decide) ?_
      refine lv_iadd hx hb dX0_veers_97 ?_
      exact hv_iret hx hb hr hlk hH hw dX0_veers_98
    have hw := ite_f hw c5
    by_cases c6 : (h v0 0) = (nI 6)
    · have hw := ite_t hw c6
      refine lv_tableIn (tgt := 99) hx hb dX0_veers_47 (by rw [c6]; decide) (by rw [c6]; decide) (by rw [c6]; rfl) (by decide) ?_
      refine lv_iload_n hx hb dX0_veers_99 rfl (lv_at hl 2 rfl) ?_
      refine lv_iconst (v := (nI 2)) hx hb dX0_veers_100 (by decide) ?_
      refine lv_irem hx hb dX0_veers_101 (by decide) ?_
      refine lv_if_ne (tgt := 109) hx hb dX0_veers_102 (by decide) (fun c7 => ?_) (fun c7 => ?_)
      · have hw := ite_f hw c7
        refine lv_iconst (v := (nI 1)) hx hb dX0_veers_109 (by decide) ?_
        exact hv_iret hx hb hr hlk hH hw dX0_veers_110
      · have hw := ite_t hw c7
        refine lv_iconst (v := (nI 0)) hx hb dX0_veers_105 (by decide) ?_
        refine lv_goto (tgt := 110) hx hb dX0_veers_106 (by decide) ?_
        exact hv_iret hx hb hr hlk hH hw dX0_veers_110
    have hw := ite_f hw c6
    by_cases c8 : (h v0 0) = (nI 7)
    · have hw := ite_t hw c8
      refine lv_tableIn (tgt := 111) hx hb dX0_veers_47 (by rw [c8]; decide) (by rw [c8]; decide) (by rw [c8]; rfl) (by decide) ?_
      refine lv_aload_n hx hb dX0_veers_111 rfl (lv_at hl 1 rfl) ?_
      refine hv_get (ci := 0) (k := 3) (v := .int (h v0 3)) hx hb hown hKK hH cf0 (by decide) fl_X0_22 rfl k1 rfl dX0_veers_112 ?_
      refine lv_if_le (tgt := 134) hx hb dX0_veers_115 (by decide) (fun c9 => ?_) (fun c9 => ?_)
      · have hw := ite_t hw c9
        refine lv_iload hx hb dX0_veers_134 (lv_at hl 0 rfl) ?_
        exact hv_iret hx hb hr hlk hH hw dX0_veers_136
      · have hw := ite_f hw c9
        refine lv_aload_n hx hb dX0_veers_118 rfl (lv_at hl 1 rfl) ?_
        refine hv_get (ci := 0) (k := 2) (v := .ref (S.2 v0 2)) hx hb hown hKK hH cf0 (by decide) fl_X0_9 rfl k1 rfl dX0_veers_119 ?_
        refine lv_iconst (v := (nI 0)) hx hb dX0_veers_122 (by decide) ?_
        obtain ⟨k10, hw⟩ := hw
        refine hv_iald hx hb hKK hH k10 dX0_veers_123 ?_
        refine hv_cSI (rm := rm_X0_isVowel) (As := [.int (h (S.2 v0 2) (ix (nI 0)))]) (rest := []) (k := 1) hx hb hml hown hKK hH (m_X0_isVowel (h (S.2 v0 2) (ix (nI 0))) _ _ hw) cw_X0_51 ⟨Nat.le_of_ble_eq_true rfl, Nat.le_of_ble_eq_true rfl⟩ rfl hl.1 rfl (Nat.le_of_ble_eq_true rfl) ⟨Nat.le_of_ble_eq_true rfl, Nat.le_of_ble_eq_true rfl⟩ dX0_veers_124 (fun r12 h11 H locs hH hw => ?_)
        refine lv_if_eq (tgt := 134) hx hb dX0_veers_127 (by decide) (fun c13 => ?_) (fun c13 => ?_)
        · have hw := ite_t hw c13
          refine lv_iload hx hb dX0_veers_134 (lv_at hl 0 rfl) ?_
          exact hv_iret hx hb hr hlk hH hw dX0_veers_136
        · have hw := ite_f hw c13
          refine lv_iconst (v := (nI 3)) hx hb dX0_veers_130 (by decide) ?_
          refine lv_goto (tgt := 136) hx hb dX0_veers_131 (by decide) ?_
          exact hv_iret hx hb hr hlk hH hw dX0_veers_136
    have hw := ite_f hw c8
    have wd : W p l e rm_X0_veers s m args below meth c H locs 0 0 (QI G B S sz below args s Q) (F0 m 137 ls []) := by
      refine lv_iconst (v := (nI 0)) hx hb dX0_veers_137 (by decide) ?_
      exact hv_iret hx hb hr hlk hH hw dX0_veers_138
    by_cases c14 : (h v0 0) = (nI 2)
    · exact lv_tableIn (tgt := 137) hx hb dX0_veers_47 (by rw [c14]; decide) (by rw [c14]; decide) (by rw [c14]; rfl) (by decide) wd
    refine lv_tableOut (tgt := 137) hx hb dX0_veers_47 (by have := ne_toInt (k := 1) (by decide) c2; have := ne_toInt (k := 3) (by decide) c3; have := ne_toInt (k := 4) (by decide) c4; have := ne_toInt (k := 5) (by decide) c5; have := ne_toInt (k := 6) (by decide) c6; have := ne_toInt (k := 7) (by decide) c8; have := ne_toInt (k := 2) (by decide) c14; omega) (by decide) wd
  have c11 : ∀  (v0 : Nat) (v1 : Int32) (s0 : Int32) (h : Hp) (H : Heap) (locs : List Loc) (ls : Array Slot), HH G B S h sz s H locs → lv_has ls 5 [(0, .ref v0), (1, .int v1)] → w_X0_veers_c11 S v0 v1 s0 h Q → W p l e rm_X0_veers s m args below meth c H locs 0 0 (QI G B S sz below args s Q) (F0 m 11 ls [.int s0]) := by
    intro  v0 v1 s0 h H locs ls hH hl hw
    unfold w_X0_veers_c11 at hw
    refine lv_istore_n (lv' := [(2, .int s0), (0, .ref v0), (1, .int v1)]) hx hb dX0_veers_11 rfl hl (by decide) rfl (fun ls hl => ?_)
    refine lv_iload_n hx hb dX0_veers_12 rfl (lv_at hl 2 rfl) ?_
    refine lv_aload_n hx hb dX0_veers_13 rfl (lv_at hl 1 rfl) ?_
    obtain ⟨k1, hw⟩ := hw
    refine hv_get (ci := 0) (k := 1) (v := .int (h v0 1)) hx hb hown hKK hH cf0 (by decide) fl_X0_19 rfl k1 rfl dX0_veers_14 ?_
    refine lv_iconst (v := (nI 2)) hx hb dX0_veers_17 (by decide) ?_
    refine lv_iadd hx hb dX0_veers_18 ?_
    obtain ⟨k2, hw⟩ := hw
    refine lv_irem hx hb dX0_veers_19 k2 ?_
    refine lv_if_ne (tgt := 27) hx hb dX0_veers_20 (by decide) (fun c3 => ?_) (fun c3 => ?_)
    · have hw := ite_f hw c3
      refine lv_iconst (v := (nI 0)) hx hb dX0_veers_27 (by decide) ?_
      refine lv_istore_n (lv' := [(3, .int (nI 0)), (2, .int s0), (0, .ref v0), (1, .int v1)]) hx hb dX0_veers_28 rfl hl (by decide) rfl (fun ls hl => ?_)
      refine lv_aload_n hx hb dX0_veers_29 rfl (lv_at hl 2 rfl) ?_
      refine hv_get (ci := 0) (k := 7) (v := .int (h v0 7)) hx hb hown hKK hH cf0 (by decide) fl_X0_34 rfl k1 rfl dX0_veers_30 ?_
      refine lv_if_ne (tgt := 40) hx hb dX0_veers_33 (by decide) (fun c5 => ?_) (fun c5 => ?_)
      · have hw := ite_f hw c5
        refine lv_iload_n hx hb dX0_veers_40 rfl (lv_at hl 1 rfl) ?_
        exact c41 _ _ _ _ _ _ H locs ls hH (lv_sub hl [2, 3, 1, 0] rfl) hw
      · have hw := ite_t hw c5
        refine lv_iconst (v := (nI 2)) hx hb dX0_veers_36 (by decide) ?_
        refine lv_goto (tgt := 41) hx hb dX0_veers_37 (by decide) ?_
        exact c41 _ _ _ _ _ _ H locs ls hH (lv_sub hl [2, 3, 1, 0] rfl) hw
    · have hw := ite_t hw c3
      refine lv_iconst (v := (nI 3)) hx hb dX0_veers_23 (by decide) ?_
      refine lv_goto (tgt := 28) hx hb dX0_veers_24 (by decide) ?_
      refine lv_istore_n (lv' := [(3, .int (nI 3)), (2, .int s0), (0, .ref v0), (1, .int v1)]) hx hb dX0_veers_28 rfl hl (by decide) rfl (fun ls hl => ?_)
      refine lv_aload_n hx hb dX0_veers_29 rfl (lv_at hl 2 rfl) ?_
      refine hv_get (ci := 0) (k := 7) (v := .int (h v0 7)) hx hb hown hKK hH cf0 (by decide) fl_X0_34 rfl k1 rfl dX0_veers_30 ?_
      refine lv_if_ne (tgt := 40) hx hb dX0_veers_33 (by decide) (fun c4 => ?_) (fun c4 => ?_)
      · have hw := ite_f hw c4
        refine lv_iload_n hx hb dX0_veers_40 rfl (lv_at hl 1 rfl) ?_
        exact c41 _ _ _ _ _ _ H locs ls hH (lv_sub hl [2, 3, 1, 0] rfl) hw
      · have hw := ite_t hw c4
        refine lv_iconst (v := (nI 2)) hx hb dX0_veers_36 (by decide) ?_
        refine lv_goto (tgt := 41) hx hb dX0_veers_37 (by decide) ?_
        exact c41 _ _ _ _ _ _ H locs ls hH (lv_sub hl [2, 3, 1, 0] rfl) hw
  unfold w_X0_veers at hw
  show W p l e rm_X0_veers s m args below meth c H [] 0 0 (QI G B S sz below args s Q) (F0 m 0 ls [])
  generalize ([] : List Loc) = locs at hH ⊢
  refine lv_iload_n hx hb dX0_veers_0 rfl (lv_at hl 1 rfl) ?_
  refine lv_iconst (v := (nI 4)) hx hb dX0_veers_1 (by decide) ?_
  refine lv_irem hx hb dX0_veers_2 (by decide) ?_
  refine lv_if_ne (tgt := 10) hx hb dX0_veers_3 (by decide) (fun c1 => ?_) (fun c1 => ?_)
  · have hw := ite_f hw c1
    refine lv_iconst (v := (nI 0)) hx hb dX0_veers_10 (by decide) ?_
    exact c11 _ _ _ _ H locs ls hH (lv_sub hl [0, 1] rfl) hw
  · have hw := ite_t hw c1
    refine lv_iconst (v := (nI 1)) hx hb dX0_veers_6 (by decide) ?_
    refine lv_goto (tgt := 11) hx hb dX0_veers_7 (by decide) ?_
    exact c11 _ _ _ _ H locs ls hH (lv_sub hl [0, 1] rfl) hw
abbrev rm_X0_enough : Room := { frames := 0, cells := 0, slots := 0, locals := 0 }
set_option maxHeartbeats 4000000 in
set_option maxRecDepth 100000 in
theorem m_X0_enough {l : Launch} {G : Gl} {B sz : Nat} {S : St} (v0 : Nat) (h : Hp) (Q : Int32 → Hp → Prop) (hw : w_X0_enough S v0 h Q) : MI l G B sz S yX0_enough cX0_enough 1 .int rm_X0_enough [.ref v0] h Q := by
  refine met_of rfl rfl ?_
  intro p e s m args below meth c hMB H ls hH hl
  obtain ⟨hx, hb, hml, hown, hKK, hr, hlk⟩ := hMB
  replace hl : lv_has ls 1 [(0, .ref v0)] := hl
  unfold w_X0_enough at hw
  show W p l e rm_X0_enough s m args below meth c H [] 0 0 (QI G B S sz below args s Q) (F0 m 0 ls [])
  generalize ([] : List Loc) = locs at hH ⊢
  refine lv_aload_n hx hb dX0_enough_0 rfl (lv_at hl 0 rfl) ?_
  obtain ⟨k1, hw⟩ := hw
  refine hv_get (ci := 0) (k := 0) (v := .int (h v0 0)) hx hb hown hKK hH cf0 (by decide) fl_X0_15 rfl k1 rfl dX0_enough_1 ?_
  by_cases c2 : (h v0 0) = (nI 0)
  · have hw := ite_t hw c2
    refine lv_tableIn (tgt := 52) hx hb dX0_enough_4 (by rw [c2]; decide) (by rw [c2]; decide) (by rw [c2]; rfl) (by decide) ?_
    refine lv_bipush (v := (nI 20)) hx hb dX0_enough_52 (by decide) ?_
    exact hv_iret hx hb hr hlk hH hw dX0_enough_54
  have hw := ite_f hw c2
  by_cases c3 : (h v0 0) = (nI 1)
  · have hw := ite_t hw c3
    refine lv_tableIn (tgt := 55) hx hb dX0_enough_4 (by rw [c3]; decide) (by rw [c3]; decide) (by rw [c3]; rfl) (by decide) ?_
    refine lv_bipush (v := (nI 40)) hx hb dX0_enough_55 (by decide) ?_
    exact hv_iret hx hb hr hlk hH hw dX0_enough_57
  have hw := ite_f hw c3
  by_cases c4 : (h v0 0) = (nI 2)
  · have hw := ite_t hw c4
    refine lv_tableIn (tgt := 58) hx hb dX0_enough_4 (by rw [c4]; decide) (by rw [c4]; decide) (by rw [c4]; rfl) (by decide) ?_
    refine lv_bipush (v := (nI 99)) hx hb dX0_enough_58 (by decide) ?_
    exact hv_iret hx hb hr hlk hH hw dX0_enough_60
  have hw := ite_f hw c4
  by_cases c5 : (h v0 0) = (nI 4)
  · have hw := ite_t hw c5
    refine lv_tableIn (tgt := 61) hx hb dX0_enough_4 (by rw [c5]; decide) (by rw [c5]; decide) (by rw [c5]; rfl) (by decide) ?_
    refine lv_bipush (v := (nI 35)) hx hb dX0_enough_61 (by decide) ?_
    exact hv_iret hx hb hr hlk hH hw dX0_enough_63
  have hw := ite_f hw c5
  by_cases c6 : (h v0 0) = (nI 6)
  · have hw := ite_t hw c6
    refine lv_tableIn (tgt := 64) hx hb dX0_enough_4 (by rw [c6]; decide) (by rw [c6]; decide) (by rw [c6]; rfl) (by decide) ?_
    refine lv_bipush (v := (nI 49)) hx hb dX0_enough_64 (by decide) ?_
    exact hv_iret hx hb hr hlk hH hw dX0_enough_66
  have hw := ite_f hw c6
  by_cases c7 : (h v0 0) = (nI 7)
  · have hw := ite_t hw c7
    refine lv_tableIn (tgt := 67) hx hb dX0_enough_4 (by rw [c7]; decide) (by rw [c7]; decide) (by rw [c7]; rfl) (by decide) ?_
    refine lv_bipush (v := (nI 35)) hx hb dX0_enough_67 (by decide) ?_
    refine lv_aload_n hx hb dX0_enough_69 rfl (lv_at hl 0 rfl) ?_
    refine hv_get (ci := 0) (k := 1) (v := .int (h v0 1)) hx hb hown hKK hH cf0 (by decide) fl_X0_19 rfl k1 rfl dX0_enough_70 ?_
    refine lv_iconst (v := (nI 2)) hx hb dX0_enough_73 (by decide) ?_
    refine lv_idiv hx hb dX0_enough_74 (by decide) ?_
    refine lv_isub hx hb dX0_enough_75 ?_
    exact hv_iret hx hb hr hlk hH hw dX0_enough_76
  have hw := ite_f hw c7
  have wd : W p l e rm_X0_enough s m args below meth c H locs 0 0 (QI G B S sz below args s Q) (F0 m 77 ls []) := by
    refine lv_aload_n hx hb dX0_enough_77 rfl (lv_at hl 0 rfl) ?_
    refine hv_get (ci := 0) (k := 1) (v := .int (h v0 1)) hx hb hown hKK hH cf0 (by decide) fl_X0_19 rfl k1 rfl dX0_enough_78 ?_
    refine lv_iconst (v := (nI 5)) hx hb dX0_enough_81 (by decide) ?_
    refine lv_iadd hx hb dX0_enough_82 ?_
    exact hv_iret hx hb hr hlk hH hw dX0_enough_83
  by_cases c8 : (h v0 0) = (nI 3)
  · exact lv_tableIn (tgt := 77) hx hb dX0_enough_4 (by rw [c8]; decide) (by rw [c8]; decide) (by rw [c8]; rfl) (by decide) wd
  by_cases c9 : (h v0 0) = (nI 5)
  · exact lv_tableIn (tgt := 77) hx hb dX0_enough_4 (by rw [c9]; decide) (by rw [c9]; decide) (by rw [c9]; rfl) (by decide) wd
  refine lv_tableOut (tgt := 77) hx hb dX0_enough_4 (by have := ne_toInt (k := 0) (by decide) c2; have := ne_toInt (k := 1) (by decide) c3; have := ne_toInt (k := 2) (by decide) c4; have := ne_toInt (k := 4) (by decide) c5; have := ne_toInt (k := 6) (by decide) c6; have := ne_toInt (k := 7) (by decide) c7; have := ne_toInt (k := 3) (by decide) c8; have := ne_toInt (k := 5) (by decide) c9; omega) (by decide) wd
abbrev rm_X0_goes : Room := { frames := 0, cells := 0, slots := 0, locals := 0 }
set_option maxHeartbeats 4000000 in
set_option maxRecDepth 100000 in
theorem m_X0_goes {l : Launch} {G : Gl} {B sz : Nat} {S : St} (v0 : Nat) (h : Hp) (Q : Int32 → Hp → Prop) (hw : w_X0_goes S v0 h Q) : MI l G B sz S yX0_goes cX0_goes 1 .boolean rm_X0_goes [.ref v0] h Q := by
  refine met_of rfl rfl ?_
  intro p e s m args below meth c hMB H ls hH hl
  obtain ⟨hx, hb, hml, hown, hKK, hr, hlk⟩ := hMB
  replace hl : lv_has ls 1 [(0, .ref v0)] := hl
  unfold w_X0_goes at hw
  show W p l e rm_X0_goes s m args below meth c H [] 0 0 (QI G B S sz below args s Q) (F0 m 0 ls [])
  generalize ([] : List Loc) = locs at hH ⊢
  refine lv_aload_n hx hb dX0_goes_0 rfl (lv_at hl 0 rfl) ?_
  obtain ⟨k1, hw⟩ := hw
  refine hv_get (ci := 0) (k := 8) (v := .int (h v0 8)) hx hb hown hKK hH cf0 (by decide) fl_X0_37 rfl k1 rfl dX0_goes_1 ?_
  refine lv_if_ne (tgt := 19) hx hb dX0_goes_4 (by decide) (fun c2 => ?_) (fun c2 => ?_)
  · have hw := ite_f hw c2
    refine lv_iconst (v := (nI 0)) hx hb dX0_goes_19 (by decide) ?_
    exact hv_zret hx hb hr hlk hH (Or.inl rfl) hw dX0_goes_20
  · have hw := ite_t hw c2
    refine lv_aload_n hx hb dX0_goes_7 rfl (lv_at hl 0 rfl) ?_
    refine hv_get (ci := 0) (k := 6) (v := .int (h v0 6)) hx hb hown hKK hH cf0 (by decide) fl_X0_31 rfl k1 rfl dX0_goes_8 ?_
    refine lv_iconst (v := (nI 4)) hx hb dX0_goes_11 (by decide) ?_
    refine lv_icmp_eq (tgt := 19) hx hb dX0_goes_12 (by decide) (fun c3 => ?_) (fun c3 => ?_)
    · have hw := ite_t hw c3
      refine lv_iconst (v := (nI 0)) hx hb dX0_goes_19 (by decide) ?_
      exact hv_zret hx hb hr hlk hH (Or.inl rfl) hw dX0_goes_20
    · have hw := ite_f hw c3
      refine lv_iconst (v := (nI 1)) hx hb dX0_goes_15 (by decide) ?_
      refine lv_goto (tgt := 20) hx hb dX0_goes_16 (by decide) ?_
      exact hv_zret hx hb hr hlk hH (Or.inr rfl) hw dX0_goes_20
abbrev rm_X0_quartersByWord : Room := { frames := 0, cells := 0, slots := 0, locals := 0 }
set_option maxHeartbeats 4000000 in
set_option maxRecDepth 100000 in
theorem m_X0_quartersByWord {l : Launch} {G : Gl} {B sz : Nat} {S : St} (v0 : Nat) (h : Hp) (Q : Int32 → Hp → Prop) (hw : w_X0_quartersByWord S v0 h Q) : MI l G B sz S yX0_quartersByWord cX0_quartersByWord 1 .int rm_X0_quartersByWord [.ref v0] h Q := by
  refine met_of rfl rfl ?_
  intro p e s m args below meth c hMB H ls hH hl
  obtain ⟨hx, hb, hml, hown, hKK, hr, hlk⟩ := hMB
  replace hl : lv_has ls 1 [(0, .ref v0)] := hl
  unfold w_X0_quartersByWord at hw
  show W p l e rm_X0_quartersByWord s m args below meth c H [] 0 0 (QI G B S sz below args s Q) (F0 m 0 ls [])
  generalize ([] : List Loc) = locs at hH ⊢
  refine lv_aload_n hx hb dX0_quartersByWord_0 rfl (lv_at hl 0 rfl) ?_
  obtain ⟨k1, hw⟩ := hw
  refine hv_get (ci := 0) (k := 6) (v := .int (h v0 6)) hx hb hown hKK hH cf0 (by decide) fl_X0_31 rfl k1 rfl dX0_quartersByWord_1 ?_
  by_cases c2 : (h v0 6) = (nI 1)
  · have hw := ite_t hw c2
    refine lv_tableIn (tgt := 32) hx hb dX0_quartersByWord_4 (by rw [c2]; decide) (by rw [c2]; decide) (by rw [c2]; rfl) (by decide) ?_
    refine lv_iconst (v := (nI 3)) hx hb dX0_quartersByWord_32 (by decide) ?_
    exact hv_iret hx hb hr hlk hH hw dX0_quartersByWord_33
  have hw := ite_f hw c2
  by_cases c3 : (h v0 6) = (nI 2)
  · have hw := ite_t hw c3
    refine lv_tableIn (tgt := 34) hx hb dX0_quartersByWord_4 (by rw [c3]; decide) (by rw [c3]; decide) (by rw [c3]; rfl) (by decide) ?_
    refine lv_iconst (v := (nI 1)) hx hb dX0_quartersByWord_34 (by decide) ?_
    exact hv_iret hx hb hr hlk hH hw dX0_quartersByWord_35
  have hw := ite_f hw c3
  by_cases c4 : (h v0 6) = (nI 3)
  · have hw := ite_t hw c4
    refine lv_tableIn (tgt := 36) hx hb dX0_quartersByWord_4 (by rw [c4]; decide) (by rw [c4]; decide) (by rw [c4]; rfl) (by decide) ?_
    refine lv_iconst (v := (nI 2)) hx hb dX0_quartersByWord_36 (by decide) ?_
    exact hv_iret hx hb hr hlk hH hw dX0_quartersByWord_37
  have hw := ite_f hw c4
  refine lv_tableOut (tgt := 38) hx hb dX0_quartersByWord_4 (by have := ne_toInt (k := 1) (by decide) c2; have := ne_toInt (k := 2) (by decide) c3; have := ne_toInt (k := 3) (by decide) c4; omega) (by decide) ?_
  refine lv_iconst (v := (nI 0)) hx hb dX0_quartersByWord_38 (by decide) ?_
  exact hv_iret hx hb hr hlk hH hw dX0_quartersByWord_39
abbrev rm_X0_turn : Room := { frames := 0, cells := 0, slots := 0, locals := 0 }
set_option maxHeartbeats 4000000 in
set_option maxRecDepth 100000 in
theorem m_X0_turn {l : Launch} {G : Gl} {B sz : Nat} {S : St} (v0 : Nat) (v1 : Int32) (h : Hp) (Q : Hp → Prop) (hw : w_X0_turn S v0 v1 h Q) : MV l G B sz S yX0_turn cX0_turn 2 rm_X0_turn [.ref v0, .int v1] h Q := by
  refine met_of rfl rfl ?_
  intro p e s m args below meth c hMB H ls hH hl
  obtain ⟨hx, hb, hml, hown, hKK, hr, hlk⟩ := hMB
  replace hl : lv_has ls 2 [(0, .ref v0), (1, .int v1)] := hl
  unfold w_X0_turn at hw
  show W p l e rm_X0_turn s m args below meth c H [] 0 0 (QV G B S sz below args s Q) (F0 m 0 ls [])
  generalize ([] : List Loc) = locs at hH ⊢
  refine lv_aload_n hx hb dX0_turn_0 rfl (lv_at hl 0 rfl) ?_
  refine lv_aload_n hx hb dX0_turn_1 rfl (lv_at hl 0 rfl) ?_
  obtain ⟨k1, hw⟩ := hw
  refine hv_get (ci := 0) (k := 5) (v := .int (h v0 5)) hx hb hown hKK hH cf0 (by decide) fl_X0_28 rfl k1 rfl dX0_turn_2 ?_
  refine lv_iload_n hx hb dX0_turn_5 rfl (lv_at hl 1 rfl) ?_
  refine lv_iadd hx hb dX0_turn_6 ?_
  refine lv_iconst (v := (nI 4)) hx hb dX0_turn_7 (by decide) ?_
  refine lv_irem hx hb dX0_turn_8 (by decide) ?_
  refine hv_put (ci := 0) (k := 5) hx hb hown hKK hH cf0 (by decide) fl_X0_28 rfl rfl rfl k1 rfl rfl dX0_turn_9 (fun H locs hH => ?_)
  exact hv_vret hx hb hr hlk hH hw dX0_turn_12
abbrev rm_X0_gain : Room := { frames := 1, cells := 0, slots := 0, locals := 21 }
set_option maxHeartbeats 4000000 in
set_option maxRecDepth 100000 in
theorem m_X0_gain {l : Launch} {G : Gl} {B sz : Nat} {S : St} (v0 : Nat) (v1 : Int32) (h : Hp) (Q : Hp → Prop) (hw : w_X0_gain S v0 v1 h Q) : MV l G B sz S yX0_gain cX0_gain 2 rm_X0_gain [.ref v0, .int v1] h Q := by
  refine met_of rfl rfl ?_
  intro p e s m args below meth c hMB H ls hH hl
  obtain ⟨hx, hb, hml, hown, hKK, hr, hlk⟩ := hMB
  replace hl : lv_has ls 2 [(0, .ref v0), (1, .int v1)] := hl
  unfold w_X0_gain at hw
  show W p l e rm_X0_gain s m args below meth c H [] 0 0 (QV G B S sz below args s Q) (F0 m 0 ls [])
  generalize ([] : List Loc) = locs at hH ⊢
  refine lv_aload_n hx hb dX0_gain_0 rfl (lv_at hl 0 rfl) ?_
  refine lv_aload_n hx hb dX0_gain_1 rfl (lv_at hl 0 rfl) ?_
  obtain ⟨k1, hw⟩ := hw
  refine hv_get (ci := 0) (k := 7) (v := .int (h v0 7)) hx hb hown hKK hH cf0 (by decide) fl_X0_34 rfl k1 rfl dX0_gain_2 ?_
  refine lv_iload_n hx hb dX0_gain_5 rfl (lv_at hl 1 rfl) ?_
  refine lv_iadd hx hb dX0_gain_6 ?_
  refine lv_bipush (v := (nI 99)) hx hb dX0_gain_7 (by decide) ?_
  refine va_mmin hx hb (hml.trans hl.1.symm) hown (hKK.use ml_X0_55 rfl _) (hKK.use ml_min rfl _) (hKK.use ml_math rfl _) (hKK.use ml_min_c rfl _) (Nat.le_of_ble_eq_true rfl) (Nat.le_of_ble_eq_true rfl) (Nat.le_of_ble_eq_true rfl) (Nat.le_of_ble_eq_true rfl) dX0_gain_9 ?_
  refine hv_put (ci := 0) (k := 7) hx hb hown hKK hH cf0 (by decide) fl_X0_34 rfl rfl rfl k1 rfl rfl dX0_gain_12 (fun H locs hH => ?_)
  exact hv_vret hx hb hr hlk hH hw dX0_gain_15
abbrev rm_X0_hasFullName : Room := { frames := 0, cells := 0, slots := 0, locals := 0 }
set_option maxHeartbeats 4000000 in
set_option maxRecDepth 100000 in
theorem m_X0_hasFullName {l : Launch} {G : Gl} {B sz : Nat} {S : St} (v0 : Nat) (h : Hp) (Q : Int32 → Hp → Prop) (hw : w_X0_hasFullName S v0 h Q) : MI l G B sz S yX0_hasFullName cX0_hasFullName 1 .boolean rm_X0_hasFullName [.ref v0] h Q := by
  refine met_of rfl rfl ?_
  intro p e s m args below meth c hMB H ls hH hl
  obtain ⟨hx, hb, hml, hown, hKK, hr, hlk⟩ := hMB
  replace hl : lv_has ls 1 [(0, .ref v0)] := hl
  unfold w_X0_hasFullName at hw
  show W p l e rm_X0_hasFullName s m args below meth c H [] 0 0 (QI G B S sz below args s Q) (F0 m 0 ls [])
  generalize ([] : List Loc) = locs at hH ⊢
  refine lv_aload_n hx hb dX0_hasFullName_0 rfl (lv_at hl 0 rfl) ?_
  obtain ⟨k1, hw⟩ := hw
  refine hv_get (ci := 0) (k := 3) (v := .int (h v0 3)) hx hb hown hKK hH cf0 (by decide) fl_X0_22 rfl k1 rfl dX0_hasFullName_1 ?_
  refine lv_bipush (v := (nI 6)) hx hb dX0_hasFullName_4 (by decide) ?_
  refine lv_icmp_lt (tgt := 13) hx hb dX0_hasFullName_6 (by decide) (fun c2 => ?_) (fun c2 => ?_)
  · have hw := ite_t hw c2
    refine lv_iconst (v := (nI 0)) hx hb dX0_hasFullName_13 (by decide) ?_
    exact hv_zret hx hb hr hlk hH (Or.inl rfl) hw dX0_hasFullName_14
  · have hw := ite_f hw c2
    refine lv_iconst (v := (nI 1)) hx hb dX0_hasFullName_9 (by decide) ?_
    refine lv_goto (tgt := 14) hx hb dX0_hasFullName_10 (by decide) ?_
    exact hv_zret hx hb hr hlk hH (Or.inr rfl) hw dX0_hasFullName_14
abbrev rm_X0_lengthenName : Room := { frames := 1, cells := 0, slots := 0, locals := 20 }
set_option maxHeartbeats 4000000 in
set_option maxRecDepth 100000 in
theorem m_X0_lengthenName {l : Launch} {G : Gl} {B sz : Nat} {S : St} (v0 : Nat) (v1 : Int32) (h : Hp) (Q : Hp → Prop) (hw : w_X0_lengthenName S v0 v1 h Q) : MV l G B sz S yX0_lengthenName cX0_lengthenName 2 rm_X0_lengthenName [.ref v0, .int v1] h Q := by
  refine met_of rfl rfl ?_
  intro p e s m args below meth c hMB H ls hH hl
  obtain ⟨hx, hb, hml, hown, hKK, hr, hlk⟩ := hMB
  replace hl : lv_has ls 2 [(0, .ref v0), (1, .int v1)] := hl
  unfold w_X0_lengthenName at hw
  show W p l e rm_X0_lengthenName s m args below meth c H [] 0 0 (QV G B S sz below args s Q) (F0 m 0 ls [])
  generalize ([] : List Loc) = locs at hH ⊢
  refine lv_aload_n hx hb dX0_lengthenName_0 rfl (lv_at hl 0 rfl) ?_
  obtain ⟨k1, hw⟩ := hw
  refine hv_cVI (rm := rm_X0_hasFullName) (As := []) (rest := []) (k := 0) (ci := 0) hx hb hml hown hKK hH cf0 k1 (m_X0_hasFullName v0 _ _ hw) cw_X0_61 ⟨Nat.le_of_ble_eq_true rfl, Nat.le_of_ble_eq_true rfl⟩ rfl hl.1 rfl (Nat.le_of_ble_eq_true rfl) ⟨Nat.le_of_ble_eq_true rfl, Nat.le_of_ble_eq_true rfl⟩ dX0_lengthenName_1 (fun r3 h2 H locs hH hw => ?_)
  refine lv_if_ne (tgt := 27) hx hb dX0_lengthenName_4 (by decide) (fun c4 => ?_) (fun c4 => ?_)
  · have hw := ite_f hw c4
    exact hv_vret hx hb hr hlk hH hw dX0_lengthenName_27
  · have hw := ite_t hw c4
    refine lv_aload_n hx hb dX0_lengthenName_7 rfl (lv_at hl 0 rfl) ?_
    refine hv_get (ci := 0) (k := 2) (v := .ref (S.2 v0 2)) hx hb hown hKK hH cf0 (by decide) fl_X0_9 rfl k1 rfl dX0_lengthenName_8 ?_
    refine lv_aload_n hx hb dX0_lengthenName_11 rfl (lv_at hl 0 rfl) ?_
    refine hv_get (ci := 0) (k := 3) (v := .int (h2 v0 3)) hx hb hown hKK hH cf0 (by decide) fl_X0_22 rfl k1 rfl dX0_lengthenName_12 ?_
    refine lv_iload_n hx hb dX0_lengthenName_15 rfl (lv_at hl 1 rfl) ?_
    obtain ⟨k5, hw⟩ := hw
    refine hv_iast hx hb hKK hH k5 dX0_lengthenName_16 (fun H locs hH => ?_)
    refine lv_aload_n hx hb dX0_lengthenName_17 rfl (lv_at hl 0 rfl) ?_
    refine lv_dup hx hb dX0_lengthenName_18 rfl ?_
    refine hv_get (ci := 0) (k := 3) (v := .int ((up h2 (S.2 v0 2) (ix (h2 v0 3)) v1) v0 3)) hx hb hown hKK hH cf0 (by decide) fl_X0_22 rfl k1 rfl dX0_lengthenName_19 ?_
    refine lv_iconst (v := (nI 1)) hx hb dX0_lengthenName_22 (by decide) ?_
    refine lv_iadd hx hb dX0_lengthenName_23 ?_
    refine hv_put (ci := 0) (k := 3) hx hb hown hKK hH cf0 (by decide) fl_X0_22 rfl rfl rfl k1 rfl rfl dX0_lengthenName_24 (fun H locs hH => ?_)
    exact hv_vret hx hb hr hlk hH hw dX0_lengthenName_27
abbrev rm_X0_hasLetter : Room := { frames := 0, cells := 0, slots := 0, locals := 0 }
set_option maxHeartbeats 4000000 in
set_option maxRecDepth 100000 in
theorem m_X0_hasLetter {l : Launch} {G : Gl} {B sz : Nat} {S : St} (v0 : Nat) (v1 : Int32) (h : Hp) (Q : Int32 → Hp → Prop) (hw : w_X0_hasLetter S v0 v1 h Q) : MI l G B sz S yX0_hasLetter cX0_hasLetter 3 .boolean rm_X0_hasLetter [.ref v0, .int v1] h Q := by
  refine met_of rfl rfl ?_
  intro p e s m args below meth c hMB H ls hH hl
  obtain ⟨hx, hb, hml, hown, hKK, hr, hlk⟩ := hMB
  replace hl : lv_has ls 3 [(0, .ref v0), (1, .int v1)] := hl
  have c2 : ∀  (v0 : Nat) (v1 : Int32) (v2 : Int32) (h : Hp) (H : Heap) (locs : List Loc) (ls : Array Slot), HH G B S h sz s H locs → lv_has ls 3 [(0, .ref v0), (1, .int v1), (2, .int v2)] → w_X0_hasLetter_c2 S v0 v1 v2 h Q → W p l e rm_X0_hasLetter s m args below meth c H locs 0 0 (QI G B S sz below args s Q) (F0 m 2 ls []) := by
    intro  v0 v1 v2 h H locs ls hH hl hw
    unfold w_X0_hasLetter_c2 at hw
    obtain ⟨P2, hP2⟩ : ∃ P : Int32 → Hp → Prop, ∀ (v2 : Int32) (h : Hp), P v2 h ↔ (∀ (H : Heap) (locs : List Loc) (ls : Array Slot), HH G B S h sz s H locs → lv_has ls 3 [(0, .ref v0), (1, .int v1), (2, .int v2)] → W p l e rm_X0_hasLetter s m args below meth c H locs 0 0 (QI G B S sz below args s Q) (F0 m 2 ls [])) := ⟨_, fun v2 h => Iff.rfl⟩
    refine (hP2 v2 h).1 (hw P2 (fun v2 h hw => (hP2 v2 h).2 (fun H locs ls hH hl => ?_))) H locs ls hH hl
    have hK2 : ∀ (v2 : Int32) (h : Hp) (H : Heap) (locs : List Loc) (ls : Array Slot), HH G B S h sz s H locs → lv_has ls 3 [(0, .ref v0), (1, .int v1), (2, .int v2)] → P2 v2 h → W p l e rm_X0_hasLetter s m args below meth c H locs 0 0 (QI G B S sz below args s Q) (F0 m 2 ls []) := fun v2 h H locs ls hH hl hk => (hP2 v2 h).1 hk H locs ls hH hl
    refine lv_iload_n hx hb dX0_hasLetter_2 rfl (lv_at hl 2 rfl) ?_
    refine lv_aload_n hx hb dX0_hasLetter_3 rfl (lv_at hl 0 rfl) ?_
    obtain ⟨k1, hw⟩ := hw
    refine hv_get (ci := 0) (k := 3) (v := .int (h v0 3)) hx hb hown hKK hH cf0 (by decide) fl_X0_22 rfl k1 rfl dX0_hasLetter_4 ?_
    refine lv_icmp_ge (tgt := 28) hx hb dX0_hasLetter_7 (by decide) (fun c2 => ?_) (fun c2 => ?_)
    · have hw := ite_t hw c2
      refine lv_iconst (v := (nI 0)) hx hb dX0_hasLetter_28 (by decide) ?_
      exact hv_zret hx hb hr hlk hH (Or.inl rfl) hw dX0_hasLetter_29
    · have hw := ite_f hw c2
      refine lv_aload_n hx hb dX0_hasLetter_10 rfl (lv_at hl 0 rfl) ?_
      refine hv_get (ci := 0) (k := 2) (v := .ref (S.2 v0 2)) hx hb hown hKK hH cf0 (by decide) fl_X0_9 rfl k1 rfl dX0_hasLetter_11 ?_
      refine lv_iload_n hx hb dX0_hasLetter_14 rfl (lv_at hl 2 rfl) ?_
      obtain ⟨k3, hw⟩ := hw
      refine hv_iald hx hb hKK hH k3 dX0_hasLetter_15 ?_
      refine lv_iload_n hx hb dX0_hasLetter_16 rfl (lv_at hl 1 rfl) ?_
      refine lv_icmp_ne (tgt := 22) hx hb dX0_hasLetter_17 (by decide) (fun c4 => ?_) (fun c4 => ?_)
      · have hw := ite_f hw c4
        refine lv_iinc (v := v2 + (nI 1)) (lv' := [(2, .int (v2 + (nI 1))), (0, .ref v0), (1, .int v1)]) hx hb dX0_hasLetter_22 hl (k := 2) rfl rfl (by decide) rfl (fun ls hl => ?_)
        refine lv_goto (tgt := 2) hx hb dX0_hasLetter_25 (by decide) ?_
        exact hK2 _ _ H locs ls hH (lv_sub hl [1, 2, 0] rfl) hw
      · have hw := ite_t hw c4
        refine lv_iconst (v := (nI 1)) hx hb dX0_hasLetter_20 (by decide) ?_
        exact hv_zret hx hb hr hlk hH (Or.inr rfl) hw dX0_hasLetter_21
  unfold w_X0_hasLetter at hw
  show W p l e rm_X0_hasLetter s m args below meth c H [] 0 0 (QI G B S sz below args s Q) (F0 m 0 ls [])
  generalize ([] : List Loc) = locs at hH ⊢
  refine lv_iconst (v := (nI 0)) hx hb dX0_hasLetter_0 (by decide) ?_
  refine lv_istore_n (lv' := [(2, .int (nI 0)), (0, .ref v0), (1, .int v1)]) hx hb dX0_hasLetter_1 rfl hl (by decide) rfl (fun ls hl => ?_)
  exact c2 _ _ _ _ H locs ls hH (lv_sub hl [1, 2, 0] rfl) hw
abbrev rm_X0_vowelsInName : Room := { frames := 1, cells := 0, slots := 0, locals := 20 }
set_option maxHeartbeats 4000000 in
set_option maxRecDepth 100000 in
theorem m_X0_vowelsInName {l : Launch} {G : Gl} {B sz : Nat} {S : St} (v0 : Nat) (h : Hp) (Q : Int32 → Hp → Prop) (hw : w_X0_vowelsInName S v0 h Q) : MI l G B sz S yX0_vowelsInName cX0_vowelsInName 3 .int rm_X0_vowelsInName [.ref v0] h Q := by
  refine met_of rfl rfl ?_
  intro p e s m args below meth c hMB H ls hH hl
  obtain ⟨hx, hb, hml, hown, hKK, hr, hlk⟩ := hMB
  replace hl : lv_has ls 3 [(0, .ref v0)] := hl
  have c4 : ∀  (v0 : Nat) (v1 : Int32) (v2 : Int32) (h : Hp) (H : Heap) (locs : List Loc) (ls : Array Slot), HH G B S h sz s H locs → lv_has ls 3 [(0, .ref v0), (1, .int v1), (2, .int v2)] → w_X0_vowelsInName_c4 S v0 v1 v2 h Q → W p l e rm_X0_vowelsInName s m args below meth c H locs 0 0 (QI G B S sz below args s Q) (F0 m 4 ls []) := by
    intro  v0 v1 v2 h H locs ls hH hl hw
    unfold w_X0_vowelsInName_c4 at hw
    obtain ⟨P4, hP4⟩ : ∃ P : Int32 → Int32 → Hp → Prop, ∀ (v1 : Int32) (v2 : Int32) (h : Hp), P v1 v2 h ↔ (∀ (H : Heap) (locs : List Loc) (ls : Array Slot), HH G B S h sz s H locs → lv_has ls 3 [(0, .ref v0), (1, .int v1), (2, .int v2)] → W p l e rm_X0_vowelsInName s m args below meth c H locs 0 0 (QI G B S sz below args s Q) (F0 m 4 ls [])) := ⟨_, fun v1 v2 h => Iff.rfl⟩
    refine (hP4 v1 v2 h).1 (hw P4 (fun v1 v2 h hw => (hP4 v1 v2 h).2 (fun H locs ls hH hl => ?_))) H locs ls hH hl
    have hK4 : ∀ (v1 : Int32) (v2 : Int32) (h : Hp) (H : Heap) (locs : List Loc) (ls : Array Slot), HH G B S h sz s H locs → lv_has ls 3 [(0, .ref v0), (1, .int v1), (2, .int v2)] → P4 v1 v2 h → W p l e rm_X0_vowelsInName s m args below meth c H locs 0 0 (QI G B S sz below args s Q) (F0 m 4 ls []) := fun v1 v2 h H locs ls hH hl hk => (hP4 v1 v2 h).1 hk H locs ls hH hl
    refine lv_iload_n hx hb dX0_vowelsInName_4 rfl (lv_at hl 2 rfl) ?_
    refine lv_aload_n hx hb dX0_vowelsInName_5 rfl (lv_at hl 0 rfl) ?_
    obtain ⟨k1, hw⟩ := hw
    refine hv_get (ci := 0) (k := 3) (v := .int (h v0 3)) hx hb hown hKK hH cf0 (by decide) fl_X0_22 rfl k1 rfl dX0_vowelsInName_6 ?_
    refine lv_icmp_ge (tgt := 33) hx hb dX0_vowelsInName_9 (by decide) (fun c2 => ?_) (fun c2 => ?_)
    · have hw := ite_t hw c2
      refine lv_iload_n hx hb dX0_vowelsInName_33 rfl (lv_at hl 1 rfl) ?_
      exact hv_iret hx hb hr hlk hH hw dX0_vowelsInName_34
    · have hw := ite_f hw c2
      refine lv_aload_n hx hb dX0_vowelsInName_12 rfl (lv_at hl 0 rfl) ?_
      refine hv_get (ci := 0) (k := 2) (v := .ref (S.2 v0 2)) hx hb hown hKK hH cf0 (by decide) fl_X0_9 rfl k1 rfl dX0_vowelsInName_13 ?_
      refine lv_iload_n hx hb dX0_vowelsInName_16 rfl (lv_at hl 2 rfl) ?_
      obtain ⟨k3, hw⟩ := hw
      refine hv_iald hx hb hKK hH k3 dX0_vowelsInName_17 ?_
      refine hv_cSI (rm := rm_X0_isVowel) (As := [.int (h (S.2 v0 2) (ix v2))]) (rest := []) (k := 1) hx hb hml hown hKK hH (m_X0_isVowel (h (S.2 v0 2) (ix v2)) _ _ hw) cw_X0_51 ⟨Nat.le_of_ble_eq_true rfl, Nat.le_of_ble_eq_true rfl⟩ rfl hl.1 rfl (Nat.le_of_ble_eq_true rfl) ⟨Nat.le_of_ble_eq_true rfl, Nat.le_of_ble_eq_true rfl⟩ dX0_vowelsInName_18 (fun r5 h4 H locs hH hw => ?_)
      refine lv_if_eq (tgt := 27) hx hb dX0_vowelsInName_21 (by decide) (fun c6 => ?_) (fun c6 => ?_)
      · have hw := ite_t hw c6
        refine lv_iinc (v := v2 + (nI 1)) (lv' := [(2, .int (v2 + (nI 1))), (0, .ref v0), (1, .int v1)]) hx hb dX0_vowelsInName_27 hl (k := 2) rfl rfl (by decide) rfl (fun ls hl => ?_)
        refine lv_goto (tgt := 4) hx hb dX0_vowelsInName_30 (by decide) ?_
        exact hK4 _ _ _ H locs ls hH (lv_sub hl [1, 2, 0] rfl) hw
      · have hw := ite_f hw c6
        refine lv_iinc (v := v1 + (nI 1)) (lv' := [(1, .int (v1 + (nI 1))), (0, .ref v0), (2, .int v2)]) hx hb dX0_vowelsInName_24 hl (k := 1) rfl rfl (by decide) rfl (fun ls hl => ?_)
        refine lv_iinc (v := v2 + (nI 1)) (lv' := [(2, .int (v2 + (nI 1))), (1, .int (v1 + (nI 1))), (0, .ref v0)]) hx hb dX0_vowelsInName_27 hl (k := 2) rfl rfl (by decide) rfl (fun ls hl => ?_)
        refine lv_goto (tgt := 4) hx hb dX0_vowelsInName_30 (by decide) ?_
        exact hK4 _ _ _ H locs ls hH (lv_sub hl [2, 1, 0] rfl) hw
  unfold w_X0_vowelsInName at hw
  show W p l e rm_X0_vowelsInName s m args below meth c H [] 0 0 (QI G B S sz below args s Q) (F0 m 0 ls [])
  generalize ([] : List Loc) = locs at hH ⊢
  refine lv_iconst (v := (nI 0)) hx hb dX0_vowelsInName_0 (by decide) ?_
  refine lv_istore_n (lv' := [(1, .int (nI 0)), (0, .ref v0)]) hx hb dX0_vowelsInName_1 rfl hl (by decide) rfl (fun ls hl => ?_)
  refine lv_iconst (v := (nI 0)) hx hb dX0_vowelsInName_2 (by decide) ?_
  refine lv_istore_n (lv' := [(2, .int (nI 0)), (1, .int (nI 0)), (0, .ref v0)]) hx hb dX0_vowelsInName_3 rfl hl (by decide) rfl (fun ls hl => ?_)
  exact c4 _ _ _ _ H locs ls hH (lv_sub hl [2, 1, 0] rfl) hw
abbrev rm_X0_nameAgainst : Room := { frames := 0, cells := 0, slots := 0, locals := 0 }
set_option maxHeartbeats 4000000 in
set_option maxRecDepth 100000 in
theorem m_X0_nameAgainst {l : Launch} {G : Gl} {B sz : Nat} {S : St} (v0 : Nat) (v1 : Nat) (h : Hp) (Q : Int32 → Hp → Prop) (hw : w_X0_nameAgainst S v0 v1 h Q) : MI l G B sz S yX0_nameAgainst cX0_nameAgainst 3 .int rm_X0_nameAgainst [.ref v0, .ref v1] h Q := by
  refine met_of rfl rfl ?_
  intro p e s m args below meth c hMB H ls hH hl
  obtain ⟨hx, hb, hml, hown, hKK, hr, hlk⟩ := hMB
  replace hl : lv_has ls 3 [(0, .ref v0), (1, .ref v1)] := hl
  have c2 : ∀  (v0 : Nat) (v1 : Nat) (v2 : Int32) (h : Hp) (H : Heap) (locs : List Loc) (ls : Array Slot), HH G B S h sz s H locs → lv_has ls 3 [(0, .ref v0), (1, .ref v1), (2, .int v2)] → w_X0_nameAgainst_c2 S v0 v1 v2 h Q → W p l e rm_X0_nameAgainst s m args below meth c H locs 0 0 (QI G B S sz below args s Q) (F0 m 2 ls []) := by
    intro  v0 v1 v2 h H locs ls hH hl hw
    unfold w_X0_nameAgainst_c2 at hw
    obtain ⟨P2, hP2⟩ : ∃ P : Int32 → Hp → Prop, ∀ (v2 : Int32) (h : Hp), P v2 h ↔ (∀ (H : Heap) (locs : List Loc) (ls : Array Slot), HH G B S h sz s H locs → lv_has ls 3 [(0, .ref v0), (1, .ref v1), (2, .int v2)] → W p l e rm_X0_nameAgainst s m args below meth c H locs 0 0 (QI G B S sz below args s Q) (F0 m 2 ls [])) := ⟨_, fun v2 h => Iff.rfl⟩
    refine (hP2 v2 h).1 (hw P2 (fun v2 h hw => (hP2 v2 h).2 (fun H locs ls hH hl => ?_))) H locs ls hH hl
    have hK2 : ∀ (v2 : Int32) (h : Hp) (H : Heap) (locs : List Loc) (ls : Array Slot), HH G B S h sz s H locs → lv_has ls 3 [(0, .ref v0), (1, .ref v1), (2, .int v2)] → P2 v2 h → W p l e rm_X0_nameAgainst s m args below meth c H locs 0 0 (QI G B S sz below args s Q) (F0 m 2 ls []) := fun v2 h H locs ls hH hl hk => (hP2 v2 h).1 hk H locs ls hH hl
    refine lv_iload_n hx hb dX0_nameAgainst_2 rfl (lv_at hl 2 rfl) ?_
    refine lv_aload_n hx hb dX0_nameAgainst_3 rfl (lv_at hl 0 rfl) ?_
    obtain ⟨k1, hw⟩ := hw
    refine hv_get (ci := 0) (k := 3) (v := .int (h v0 3)) hx hb hown hKK hH cf0 (by decide) fl_X0_22 rfl k1 rfl dX0_nameAgainst_4 ?_
    refine lv_icmp_ge (tgt := 53) hx hb dX0_nameAgainst_7 (by decide) (fun c2 => ?_) (fun c2 => ?_)
    · have hw := ite_t hw c2
      refine lv_aload_n hx hb dX0_nameAgainst_53 rfl (lv_at hl 0 rfl) ?_
      refine hv_get (ci := 0) (k := 3) (v := .int (h v0 3)) hx hb hown hKK hH cf0 (by decide) fl_X0_22 rfl k1 rfl dX0_nameAgainst_54 ?_
      refine lv_aload_n hx hb dX0_nameAgainst_57 rfl (lv_at hl 1 rfl) ?_
      obtain ⟨k3, hw⟩ := hw
      refine hv_get (ci := 0) (k := 3) (v := .int (h v1 3)) hx hb hown hKK hH cf0 (by decide) fl_X0_22 rfl k3 rfl dX0_nameAgainst_58 ?_
      refine lv_isub hx hb dX0_nameAgainst_61 ?_
      exact hv_iret hx hb hr hlk hH hw dX0_nameAgainst_62
    · have hw := ite_f hw c2
      refine lv_iload_n hx hb dX0_nameAgainst_10 rfl (lv_at hl 2 rfl) ?_
      refine lv_aload_n hx hb dX0_nameAgainst_11 rfl (lv_at hl 1 rfl) ?_
      obtain ⟨k4, hw⟩ := hw
      refine hv_get (ci := 0) (k := 3) (v := .int (h v1 3)) hx hb hown hKK hH cf0 (by decide) fl_X0_22 rfl k4 rfl dX0_nameAgainst_12 ?_
      refine lv_icmp_ge (tgt := 53) hx hb dX0_nameAgainst_15 (by decide) (fun c5 => ?_) (fun c5 => ?_)
      · have hw := ite_t hw c5
        refine lv_aload_n hx hb dX0_nameAgainst_53 rfl (lv_at hl 0 rfl) ?_
        refine hv_get (ci := 0) (k := 3) (v := .int (h v0 3)) hx hb hown hKK hH cf0 (by decide) fl_X0_22 rfl k1 rfl dX0_nameAgainst_54 ?_
        refine lv_aload_n hx hb dX0_nameAgainst_57 rfl (lv_at hl 1 rfl) ?_
        refine hv_get (ci := 0) (k := 3) (v := .int (h v1 3)) hx hb hown hKK hH cf0 (by decide) fl_X0_22 rfl k4 rfl dX0_nameAgainst_58 ?_
        refine lv_isub hx hb dX0_nameAgainst_61 ?_
        exact hv_iret hx hb hr hlk hH hw dX0_nameAgainst_62
      · have hw := ite_f hw c5
        refine lv_aload_n hx hb dX0_nameAgainst_18 rfl (lv_at hl 0 rfl) ?_
        refine hv_get (ci := 0) (k := 2) (v := .ref (S.2 v0 2)) hx hb hown hKK hH cf0 (by decide) fl_X0_9 rfl k1 rfl dX0_nameAgainst_19 ?_
        refine lv_iload_n hx hb dX0_nameAgainst_22 rfl (lv_at hl 2 rfl) ?_
        obtain ⟨k6, hw⟩ := hw
        refine hv_iald hx hb hKK hH k6 dX0_nameAgainst_23 ?_
        refine lv_aload_n hx hb dX0_nameAgainst_24 rfl (lv_at hl 1 rfl) ?_
        refine hv_get (ci := 0) (k := 2) (v := .ref (S.2 v1 2)) hx hb hown hKK hH cf0 (by decide) fl_X0_9 rfl k4 rfl dX0_nameAgainst_25 ?_
        refine lv_iload_n hx hb dX0_nameAgainst_28 rfl (lv_at hl 2 rfl) ?_
        obtain ⟨k7, hw⟩ := hw
        refine hv_iald hx hb hKK hH k7 dX0_nameAgainst_29 ?_
        refine lv_icmp_eq (tgt := 47) hx hb dX0_nameAgainst_30 (by decide) (fun c8 => ?_) (fun c8 => ?_)
        · have hw := ite_t hw c8
          refine lv_iinc (v := v2 + (nI 1)) (lv' := [(2, .int (v2 + (nI 1))), (0, .ref v0), (1, .ref v1)]) hx hb dX0_nameAgainst_47 hl (k := 2) rfl rfl (by decide) rfl (fun ls hl => ?_)
          refine lv_goto (tgt := 2) hx hb dX0_nameAgainst_50 (by decide) ?_
          exact hK2 _ _ H locs ls hH (lv_sub hl [1, 2, 0] rfl) hw
        · have hw := ite_f hw c8
          refine lv_aload_n hx hb dX0_nameAgainst_33 rfl (lv_at hl 0 rfl) ?_
          refine hv_get (ci := 0) (k := 2) (v := .ref (S.2 v0 2)) hx hb hown hKK hH cf0 (by decide) fl_X0_9 rfl k1 rfl dX0_nameAgainst_34 ?_
          refine lv_iload_n hx hb dX0_nameAgainst_37 rfl (lv_at hl 2 rfl) ?_
          refine hv_iald hx hb hKK hH k6 dX0_nameAgainst_38 ?_
          refine lv_aload_n hx hb dX0_nameAgainst_39 rfl (lv_at hl 1 rfl) ?_
          refine hv_get (ci := 0) (k := 2) (v := .ref (S.2 v1 2)) hx hb hown hKK hH cf0 (by decide) fl_X0_9 rfl k4 rfl dX0_nameAgainst_40 ?_
          refine lv_iload_n hx hb dX0_nameAgainst_43 rfl (lv_at hl 2 rfl) ?_
          refine hv_iald hx hb hKK hH k7 dX0_nameAgainst_44 ?_
          refine lv_isub hx hb dX0_nameAgainst_45 ?_
          exact hv_iret hx hb hr hlk hH hw dX0_nameAgainst_46
  unfold w_X0_nameAgainst at hw
  show W p l e rm_X0_nameAgainst s m args below meth c H [] 0 0 (QI G B S sz below args s Q) (F0 m 0 ls [])
  generalize ([] : List Loc) = locs at hH ⊢
  refine lv_iconst (v := (nI 0)) hx hb dX0_nameAgainst_0 (by decide) ?_
  refine lv_istore_n (lv' := [(2, .int (nI 0)), (0, .ref v0), (1, .ref v1)]) hx hb dX0_nameAgainst_1 rfl hl (by decide) rfl (fun ls hl => ?_)
  exact c2 _ _ _ _ H locs ls hH (lv_sub hl [1, 2, 0] rfl) hw
abbrev rm_X0_placesAlike : Room := { frames := 0, cells := 0, slots := 0, locals := 0 }
set_option maxHeartbeats 4000000 in
set_option maxRecDepth 100000 in
theorem m_X0_placesAlike {l : Launch} {G : Gl} {B sz : Nat} {S : St} (v0 : Nat) (v1 : Nat) (h : Hp) (Q : Int32 → Hp → Prop) (hw : w_X0_placesAlike S v0 v1 h Q) : MI l G B sz S yX0_placesAlike cX0_placesAlike 4 .int rm_X0_placesAlike [.ref v0, .ref v1] h Q := by
  refine met_of rfl rfl ?_
  intro p e s m args below meth c hMB H ls hH hl
  obtain ⟨hx, hb, hml, hown, hKK, hr, hlk⟩ := hMB
  replace hl : lv_has ls 4 [(0, .ref v0), (1, .ref v1)] := hl
  have c4 : ∀  (v0 : Nat) (v1 : Nat) (v2 : Int32) (v3 : Int32) (h : Hp) (H : Heap) (locs : List Loc) (ls : Array Slot), HH G B S h sz s H locs → lv_has ls 4 [(0, .ref v0), (1, .ref v1), (2, .int v2), (3, .int v3)] → w_X0_placesAlike_c4 S v0 v1 v2 v3 h Q → W p l e rm_X0_placesAlike s m args below meth c H locs 0 0 (QI G B S sz below args s Q) (F0 m 4 ls []) := by
    intro  v0 v1 v2 v3 h H locs ls hH hl hw
    unfold w_X0_placesAlike_c4 at hw
    obtain ⟨P4, hP4⟩ : ∃ P : Int32 → Int32 → Hp → Prop, ∀ (v2 : Int32) (v3 : Int32) (h : Hp), P v2 v3 h ↔ (∀ (H : Heap) (locs : List Loc) (ls : Array Slot), HH G B S h sz s H locs → lv_has ls 4 [(0, .ref v0), (1, .ref v1), (2, .int v2), (3, .int v3)] → W p l e rm_X0_placesAlike s m args below meth c H locs 0 0 (QI G B S sz below args s Q) (F0 m 4 ls [])) := ⟨_, fun v2 v3 h => Iff.rfl⟩
    refine (hP4 v2 v3 h).1 (hw P4 (fun v2 v3 h hw => (hP4 v2 v3 h).2 (fun H locs ls hH hl => ?_))) H locs ls hH hl
    have hK4 : ∀ (v2 : Int32) (v3 : Int32) (h : Hp) (H : Heap) (locs : List Loc) (ls : Array Slot), HH G B S h sz s H locs → lv_has ls 4 [(0, .ref v0), (1, .ref v1), (2, .int v2), (3, .int v3)] → P4 v2 v3 h → W p l e rm_X0_placesAlike s m args below meth c H locs 0 0 (QI G B S sz below args s Q) (F0 m 4 ls []) := fun v2 v3 h H locs ls hH hl hk => (hP4 v2 v3 h).1 hk H locs ls hH hl
    refine lv_iload_n hx hb dX0_placesAlike_4 rfl (lv_at hl 3 rfl) ?_
    refine lv_aload_n hx hb dX0_placesAlike_5 rfl (lv_at hl 0 rfl) ?_
    obtain ⟨k1, hw⟩ := hw
    refine hv_get (ci := 0) (k := 3) (v := .int (h v0 3)) hx hb hown hKK hH cf0 (by decide) fl_X0_22 rfl k1 rfl dX0_placesAlike_6 ?_
    refine lv_icmp_ge (tgt := 44) hx hb dX0_placesAlike_9 (by decide) (fun c2 => ?_) (fun c2 => ?_)
    · have hw := ite_t hw c2
      refine lv_iload_n hx hb dX0_placesAlike_44 rfl (lv_at hl 2 rfl) ?_
      exact hv_iret hx hb hr hlk hH hw dX0_placesAlike_45
    · have hw := ite_f hw c2
      refine lv_iload_n hx hb dX0_placesAlike_12 rfl (lv_at hl 3 rfl) ?_
      refine lv_aload_n hx hb dX0_placesAlike_13 rfl (lv_at hl 1 rfl) ?_
      obtain ⟨k3, hw⟩ := hw
      refine hv_get (ci := 0) (k := 3) (v := .int (h v1 3)) hx hb hown hKK hH cf0 (by decide) fl_X0_22 rfl k3 rfl dX0_placesAlike_14 ?_
      refine lv_icmp_ge (tgt := 44) hx hb dX0_placesAlike_17 (by decide) (fun c4 => ?_) (fun c4 => ?_)
      · have hw := ite_t hw c4
        refine lv_iload_n hx hb dX0_placesAlike_44 rfl (lv_at hl 2 rfl) ?_
        exact hv_iret hx hb hr hlk hH hw dX0_placesAlike_45
      · have hw := ite_f hw c4
        refine lv_aload_n hx hb dX0_placesAlike_20 rfl (lv_at hl 0 rfl) ?_
        refine hv_get (ci := 0) (k := 2) (v := .ref (S.2 v0 2)) hx hb hown hKK hH cf0 (by decide) fl_X0_9 rfl k1 rfl dX0_placesAlike_21 ?_
        refine lv_iload_n hx hb dX0_placesAlike_24 rfl (lv_at hl 3 rfl) ?_
        obtain ⟨k5, hw⟩ := hw
        refine hv_iald hx hb hKK hH k5 dX0_placesAlike_25 ?_
        refine lv_aload_n hx hb dX0_placesAlike_26 rfl (lv_at hl 1 rfl) ?_
        refine hv_get (ci := 0) (k := 2) (v := .ref (S.2 v1 2)) hx hb hown hKK hH cf0 (by decide) fl_X0_9 rfl k3 rfl dX0_placesAlike_27 ?_
        refine lv_iload_n hx hb dX0_placesAlike_30 rfl (lv_at hl 3 rfl) ?_
        obtain ⟨k6, hw⟩ := hw
        refine hv_iald hx hb hKK hH k6 dX0_placesAlike_31 ?_
        refine lv_icmp_ne (tgt := 38) hx hb dX0_placesAlike_32 (by decide) (fun c7 => ?_) (fun c7 => ?_)
        · have hw := ite_f hw c7
          refine lv_iinc (v := v3 + (nI 1)) (lv' := [(3, .int (v3 + (nI 1))), (0, .ref v0), (1, .ref v1), (2, .int v2)]) hx hb dX0_placesAlike_38 hl (k := 3) rfl rfl (by decide) rfl (fun ls hl => ?_)
          refine lv_goto (tgt := 4) hx hb dX0_placesAlike_41 (by decide) ?_
          exact hK4 _ _ _ H locs ls hH (lv_sub hl [1, 2, 3, 0] rfl) hw
        · have hw := ite_t hw c7
          refine lv_iinc (v := v2 + (nI 1)) (lv' := [(2, .int (v2 + (nI 1))), (0, .ref v0), (1, .ref v1), (3, .int v3)]) hx hb dX0_placesAlike_35 hl (k := 2) rfl rfl (by decide) rfl (fun ls hl => ?_)
          refine lv_iinc (v := v3 + (nI 1)) (lv' := [(3, .int (v3 + (nI 1))), (2, .int (v2 + (nI 1))), (0, .ref v0), (1, .ref v1)]) hx hb dX0_placesAlike_38 hl (k := 3) rfl rfl (by decide) rfl (fun ls hl => ?_)
          refine lv_goto (tgt := 4) hx hb dX0_placesAlike_41 (by decide) ?_
          exact hK4 _ _ _ H locs ls hH (lv_sub hl [2, 3, 1, 0] rfl) hw
  unfold w_X0_placesAlike at hw
  show W p l e rm_X0_placesAlike s m args below meth c H [] 0 0 (QI G B S sz below args s Q) (F0 m 0 ls [])
  generalize ([] : List Loc) = locs at hH ⊢
  refine lv_iconst (v := (nI 0)) hx hb dX0_placesAlike_0 (by decide) ?_
  refine lv_istore_n (lv' := [(2, .int (nI 0)), (0, .ref v0), (1, .ref v1)]) hx hb dX0_placesAlike_1 rfl hl (by decide) rfl (fun ls hl => ?_)
  refine lv_iconst (v := (nI 0)) hx hb dX0_placesAlike_2 (by decide) ?_
  refine lv_istore_n (lv' := [(3, .int (nI 0)), (2, .int (nI 0)), (0, .ref v0), (1, .ref v1)]) hx hb dX0_placesAlike_3 rfl hl (by decide) rfl (fun ls hl => ?_)
  exact c4 _ _ _ _ _ H locs ls hH (lv_sub hl [2, 3, 1, 0] rfl) hw
abbrev rm_X0_lettersAlikeAhead : Room := { frames := 0, cells := 0, slots := 0, locals := 0 }
set_option maxHeartbeats 4000000 in
set_option maxRecDepth 100000 in
theorem m_X0_lettersAlikeAhead {l : Launch} {G : Gl} {B sz : Nat} {S : St} (v0 : Nat) (v1 : Nat) (h : Hp) (Q : Int32 → Hp → Prop) (hw : w_X0_lettersAlikeAhead S v0 v1 h Q) : MI l G B sz S yX0_lettersAlikeAhead cX0_lettersAlikeAhead 3 .int rm_X0_lettersAlikeAhead [.ref v0, .ref v1] h Q := by
  refine met_of rfl rfl ?_
  intro p e s m args below meth c hMB H ls hH hl
  obtain ⟨hx, hb, hml, hown, hKK, hr, hlk⟩ := hMB
  replace hl : lv_has ls 3 [(0, .ref v0), (1, .ref v1)] := hl
  have c2 : ∀  (v0 : Nat) (v1 : Nat) (v2 : Int32) (h : Hp) (H : Heap) (locs : List Loc) (ls : Array Slot), HH G B S h sz s H locs → lv_has ls 3 [(0, .ref v0), (1, .ref v1), (2, .int v2)] → w_X0_lettersAlikeAhead_c2 S v0 v1 v2 h Q → W p l e rm_X0_lettersAlikeAhead s m args below meth c H locs 0 0 (QI G B S sz below args s Q) (F0 m 2 ls []) := by
    intro  v0 v1 v2 h H locs ls hH hl hw
    unfold w_X0_lettersAlikeAhead_c2 at hw
    obtain ⟨P2, hP2⟩ : ∃ P : Int32 → Hp → Prop, ∀ (v2 : Int32) (h : Hp), P v2 h ↔ (∀ (H : Heap) (locs : List Loc) (ls : Array Slot), HH G B S h sz s H locs → lv_has ls 3 [(0, .ref v0), (1, .ref v1), (2, .int v2)] → W p l e rm_X0_lettersAlikeAhead s m args below meth c H locs 0 0 (QI G B S sz below args s Q) (F0 m 2 ls [])) := ⟨_, fun v2 h => Iff.rfl⟩
    refine (hP2 v2 h).1 (hw P2 (fun v2 h hw => (hP2 v2 h).2 (fun H locs ls hH hl => ?_))) H locs ls hH hl
    have hK2 : ∀ (v2 : Int32) (h : Hp) (H : Heap) (locs : List Loc) (ls : Array Slot), HH G B S h sz s H locs → lv_has ls 3 [(0, .ref v0), (1, .ref v1), (2, .int v2)] → P2 v2 h → W p l e rm_X0_lettersAlikeAhead s m args below meth c H locs 0 0 (QI G B S sz below args s Q) (F0 m 2 ls []) := fun v2 h H locs ls hH hl hk => (hP2 v2 h).1 hk H locs ls hH hl
    refine lv_iload_n hx hb dX0_lettersAlikeAhead_2 rfl (lv_at hl 2 rfl) ?_
    refine lv_aload_n hx hb dX0_lettersAlikeAhead_3 rfl (lv_at hl 0 rfl) ?_
    obtain ⟨k1, hw⟩ := hw
    refine hv_get (ci := 0) (k := 3) (v := .int (h v0 3)) hx hb hown hKK hH cf0 (by decide) fl_X0_22 rfl k1 rfl dX0_lettersAlikeAhead_4 ?_
    refine lv_icmp_ge (tgt := 39) hx hb dX0_lettersAlikeAhead_7 (by decide) (fun c2 => ?_) (fun c2 => ?_)
    · have hw := ite_t hw c2
      refine lv_iload_n hx hb dX0_lettersAlikeAhead_39 rfl (lv_at hl 2 rfl) ?_
      exact hv_iret hx hb hr hlk hH hw dX0_lettersAlikeAhead_40
    · have hw := ite_f hw c2
      refine lv_iload_n hx hb dX0_lettersAlikeAhead_10 rfl (lv_at hl 2 rfl) ?_
      refine lv_aload_n hx hb dX0_lettersAlikeAhead_11 rfl (lv_at hl 1 rfl) ?_
      obtain ⟨k3, hw⟩ := hw
      refine hv_get (ci := 0) (k := 3) (v := .int (h v1 3)) hx hb hown hKK hH cf0 (by decide) fl_X0_22 rfl k3 rfl dX0_lettersAlikeAhead_12 ?_
      refine lv_icmp_ge (tgt := 39) hx hb dX0_lettersAlikeAhead_15 (by decide) (fun c4 => ?_) (fun c4 => ?_)
      · have hw := ite_t hw c4
        refine lv_iload_n hx hb dX0_lettersAlikeAhead_39 rfl (lv_at hl 2 rfl) ?_
        exact hv_iret hx hb hr hlk hH hw dX0_lettersAlikeAhead_40
      · have hw := ite_f hw c4
        refine lv_aload_n hx hb dX0_lettersAlikeAhead_18 rfl (lv_at hl 0 rfl) ?_
        refine hv_get (ci := 0) (k := 2) (v := .ref (S.2 v0 2)) hx hb hown hKK hH cf0 (by decide) fl_X0_9 rfl k1 rfl dX0_lettersAlikeAhead_19 ?_
        refine lv_iload_n hx hb dX0_lettersAlikeAhead_22 rfl (lv_at hl 2 rfl) ?_
        obtain ⟨k5, hw⟩ := hw
        refine hv_iald hx hb hKK hH k5 dX0_lettersAlikeAhead_23 ?_
        refine lv_aload_n hx hb dX0_lettersAlikeAhead_24 rfl (lv_at hl 1 rfl) ?_
        refine hv_get (ci := 0) (k := 2) (v := .ref (S.2 v1 2)) hx hb hown hKK hH cf0 (by decide) fl_X0_9 rfl k3 rfl dX0_lettersAlikeAhead_25 ?_
        refine lv_iload_n hx hb dX0_lettersAlikeAhead_28 rfl (lv_at hl 2 rfl) ?_
        obtain ⟨k6, hw⟩ := hw
        refine hv_iald hx hb hKK hH k6 dX0_lettersAlikeAhead_29 ?_
        refine lv_icmp_ne (tgt := 39) hx hb dX0_lettersAlikeAhead_30 (by decide) (fun c7 => ?_) (fun c7 => ?_)
        · have hw := ite_f hw c7
          refine lv_iload_n hx hb dX0_lettersAlikeAhead_39 rfl (lv_at hl 2 rfl) ?_
          exact hv_iret hx hb hr hlk hH hw dX0_lettersAlikeAhead_40
        · have hw := ite_t hw c7
          refine lv_iinc (v := v2 + (nI 1)) (lv' := [(2, .int (v2 + (nI 1))), (0, .ref v0), (1, .ref v1)]) hx hb dX0_lettersAlikeAhead_33 hl (k := 2) rfl rfl (by decide) rfl (fun ls hl => ?_)
          refine lv_goto (tgt := 2) hx hb dX0_lettersAlikeAhead_36 (by decide) ?_
          exact hK2 _ _ H locs ls hH (lv_sub hl [1, 2, 0] rfl) hw
  unfold w_X0_lettersAlikeAhead at hw
  show W p l e rm_X0_lettersAlikeAhead s m args below meth c H [] 0 0 (QI G B S sz below args s Q) (F0 m 0 ls [])
  generalize ([] : List Loc) = locs at hH ⊢
  refine lv_iconst (v := (nI 0)) hx hb dX0_lettersAlikeAhead_0 (by decide) ?_
  refine lv_istore_n (lv' := [(2, .int (nI 0)), (0, .ref v0), (1, .ref v1)]) hx hb dX0_lettersAlikeAhead_1 rfl hl (by decide) rfl (fun ls hl => ?_)
  exact c2 _ _ _ _ H locs ls hH (lv_sub hl [1, 2, 0] rfl) hw
abbrev rm_X0_lettersShared : Room := { frames := 1, cells := 0, slots := 0, locals := 22 }
set_option maxHeartbeats 4000000 in
set_option maxRecDepth 100000 in
theorem m_X0_lettersShared {l : Launch} {G : Gl} {B sz : Nat} {S : St} (v0 : Nat) (v1 : Nat) (h : Hp) (Q : Int32 → Hp → Prop) (hw : w_X0_lettersShared S v0 v1 h Q) : MI l G B sz S yX0_lettersShared cX0_lettersShared 4 .int rm_X0_lettersShared [.ref v0, .ref v1] h Q := by
  refine met_of rfl rfl ?_
  intro p e s m args below meth c hMB H ls hH hl
  obtain ⟨hx, hb, hml, hown, hKK, hr, hlk⟩ := hMB
  replace hl : lv_has ls 4 [(0, .ref v0), (1, .ref v1)] := hl
  have c4 : ∀  (v0 : Nat) (v1 : Nat) (v2 : Int32) (v3 : Int32) (h : Hp) (H : Heap) (locs : List Loc) (ls : Array Slot), HH G B S h sz s H locs → lv_has ls 4 [(0, .ref v0), (1, .ref v1), (2, .int v2), (3, .int v3)] → w_X0_lettersShared_c4 S v0 v1 v2 v3 h Q → W p l e rm_X0_lettersShared s m args below meth c H locs 0 0 (QI G B S sz below args s Q) (F0 m 4 ls []) := by
    intro  v0 v1 v2 v3 h H locs ls hH hl hw
    unfold w_X0_lettersShared_c4 at hw
    obtain ⟨P4, hP4⟩ : ∃ P : Int32 → Int32 → Hp → Prop, ∀ (v2 : Int32) (v3 : Int32) (h : Hp), P v2 v3 h ↔ (∀ (H : Heap) (locs : List Loc) (ls : Array Slot), HH G B S h sz s H locs → lv_has ls 4 [(0, .ref v0), (1, .ref v1), (2, .int v2), (3, .int v3)] → W p l e rm_X0_lettersShared s m args below meth c H locs 0 0 (QI G B S sz below args s Q) (F0 m 4 ls [])) := ⟨_, fun v2 v3 h => Iff.rfl⟩
    refine (hP4 v2 v3 h).1 (hw P4 (fun v2 v3 h hw => (hP4 v2 v3 h).2 (fun H locs ls hH hl => ?_))) H locs ls hH hl
    have hK4 : ∀ (v2 : Int32) (v3 : Int32) (h : Hp) (H : Heap) (locs : List Loc) (ls : Array Slot), HH G B S h sz s H locs → lv_has ls 4 [(0, .ref v0), (1, .ref v1), (2, .int v2), (3, .int v3)] → P4 v2 v3 h → W p l e rm_X0_lettersShared s m args below meth c H locs 0 0 (QI G B S sz below args s Q) (F0 m 4 ls []) := fun v2 v3 h H locs ls hH hl hk => (hP4 v2 v3 h).1 hk H locs ls hH hl
    refine lv_iload_n hx hb dX0_lettersShared_4 rfl (lv_at hl 3 rfl) ?_
    refine lv_bipush (v := (nI 26)) hx hb dX0_lettersShared_5 (by decide) ?_
    refine lv_icmp_ge (tgt := 35) hx hb dX0_lettersShared_7 (by decide) (fun c1 => ?_) (fun c1 => ?_)
    · have hw := ite_t hw c1
      refine lv_iload_n hx hb dX0_lettersShared_35 rfl (lv_at hl 2 rfl) ?_
      exact hv_iret hx hb hr hlk hH hw dX0_lettersShared_36
    · have hw := ite_f hw c1
      refine lv_aload_n hx hb dX0_lettersShared_10 rfl (lv_at hl 0 rfl) ?_
      refine lv_iload_n hx hb dX0_lettersShared_11 rfl (lv_at hl 3 rfl) ?_
      obtain ⟨k2, hw⟩ := hw
      refine hv_cVI (rm := rm_X0_hasLetter) (As := [.int v3]) (rest := []) (k := 1) (ci := 0) hx hb hml hown hKK hH cf0 k2 (m_X0_hasLetter v0 v3 _ _ hw) cw_X0_65 ⟨Nat.le_of_ble_eq_true rfl, Nat.le_of_ble_eq_true rfl⟩ rfl hl.1 rfl (Nat.le_of_ble_eq_true rfl) ⟨Nat.le_of_ble_eq_true rfl, Nat.le_of_ble_eq_true rfl⟩ dX0_lettersShared_12 (fun r4 h3 H locs hH hw => ?_)
      refine lv_if_eq (tgt := 29) hx hb dX0_lettersShared_15 (by decide) (fun c5 => ?_) (fun c5 => ?_)
      · have hw := ite_t hw c5
        refine lv_iinc (v := v3 + (nI 1)) (lv' := [(3, .int (v3 + (nI 1))), (0, .ref v0), (1, .ref v1), (2, .int v2)]) hx hb dX0_lettersShared_29 hl (k := 3) rfl rfl (by decide) rfl (fun ls hl => ?_)
        refine lv_goto (tgt := 4) hx hb dX0_lettersShared_32 (by decide) ?_
        exact hK4 _ _ _ H locs ls hH (lv_sub hl [1, 2, 3, 0] rfl) hw
      · have hw := ite_f hw c5
        refine lv_aload_n hx hb dX0_lettersShared_18 rfl (lv_at hl 1 rfl) ?_
        refine lv_iload_n hx hb dX0_lettersShared_19 rfl (lv_at hl 3 rfl) ?_
        obtain ⟨k6, hw⟩ := hw
        refine hv_cVI (rm := rm_X0_hasLetter) (As := [.int v3]) (rest := []) (k := 1) (ci := 0) hx hb hml hown hKK hH cf0 k6 (m_X0_hasLetter v1 v3 _ _ hw) cw_X0_65 ⟨Nat.le_of_ble_eq_true rfl, Nat.le_of_ble_eq_true rfl⟩ rfl hl.1 rfl (Nat.le_of_ble_eq_true rfl) ⟨Nat.le_of_ble_eq_true rfl, Nat.le_of_ble_eq_true rfl⟩ dX0_lettersShared_20 (fun r8 h7 H locs hH hw => ?_)
        refine lv_if_eq (tgt := 29) hx hb dX0_lettersShared_23 (by decide) (fun c9 => ?_) (fun c9 => ?_)
        · have hw := ite_t hw c9
          refine lv_iinc (v := v3 + (nI 1)) (lv' := [(3, .int (v3 + (nI 1))), (0, .ref v0), (1, .ref v1), (2, .int v2)]) hx hb dX0_lettersShared_29 hl (k := 3) rfl rfl (by decide) rfl (fun ls hl => ?_)
          refine lv_goto (tgt := 4) hx hb dX0_lettersShared_32 (by decide) ?_
          exact hK4 _ _ _ H locs ls hH (lv_sub hl [1, 2, 3, 0] rfl) hw
        · have hw := ite_f hw c9
          refine lv_iinc (v := v2 + (nI 1)) (lv' := [(2, .int (v2 + (nI 1))), (0, .ref v0), (1, .ref v1), (3, .int v3)]) hx hb dX0_lettersShared_26 hl (k := 2) rfl rfl (by decide) rfl (fun ls hl => ?_)
          refine lv_iinc (v := v3 + (nI 1)) (lv' := [(3, .int (v3 + (nI 1))), (2, .int (v2 + (nI 1))), (0, .ref v0), (1, .ref v1)]) hx hb dX0_lettersShared_29 hl (k := 3) rfl rfl (by decide) rfl (fun ls hl => ?_)
          refine lv_goto (tgt := 4) hx hb dX0_lettersShared_32 (by decide) ?_
          exact hK4 _ _ _ H locs ls hH (lv_sub hl [2, 3, 1, 0] rfl) hw
  unfold w_X0_lettersShared at hw
  show W p l e rm_X0_lettersShared s m args below meth c H [] 0 0 (QI G B S sz below args s Q) (F0 m 0 ls [])
  generalize ([] : List Loc) = locs at hH ⊢
  refine lv_iconst (v := (nI 0)) hx hb dX0_lettersShared_0 (by decide) ?_
  refine lv_istore_n (lv' := [(2, .int (nI 0)), (0, .ref v0), (1, .ref v1)]) hx hb dX0_lettersShared_1 rfl hl (by decide) rfl (fun ls hl => ?_)
  refine lv_iconst (v := (nI 0)) hx hb dX0_lettersShared_2 (by decide) ?_
  refine lv_istore_n (lv' := [(3, .int (nI 0)), (2, .int (nI 0)), (0, .ref v0), (1, .ref v1)]) hx hb dX0_lettersShared_3 rfl hl (by decide) rfl (fun ls hl => ?_)
  exact c4 _ _ _ _ _ H locs ls hH (lv_sub hl [2, 3, 1, 0] rfl) hw
abbrev rm_X1_copy : Room := { frames := 3, cells := 0, slots := 0, locals := 102 }
set_option maxHeartbeats 4000000 in
set_option maxRecDepth 100000 in
theorem m_X1_copy {l : Launch} {G : Gl} {B sz : Nat} {S : St} (v0 : Nat) (v1 : Nat) (h : Hp) (Q : Hp → Prop) (hw : w_X1_copy S v0 v1 h Q) : MV l G B sz S yX1_copy cX1_copy 3 rm_X1_copy [.ref v0, .ref v1] h Q := by
  refine met_of rfl rfl ?_
  intro p e s m args below meth c hMB H ls hH hl
  obtain ⟨hx, hb, hml, hown, hKK, hr, hlk⟩ := hMB
  replace hl : lv_has ls 3 [(0, .ref v0), (1, .ref v1)] := hl
  have c47 : ∀  (v0 : Nat) (v1 : Nat) (v2 : Int32) (h : Hp) (H : Heap) (locs : List Loc) (ls : Array Slot), HH G B S h sz s H locs → lv_has ls 3 [(0, .ref v0), (1, .ref v1), (2, .int v2)] → w_X1_copy_c47 S v0 v1 v2 h Q → W p l e rm_X1_copy s m args below meth c H locs 0 0 (QV G B S sz below args s Q) (F0 m 47 ls []) := by
    intro  v0 v1 v2 h H locs ls hH hl hw
    unfold w_X1_copy_c47 at hw
    obtain ⟨P47, hP47⟩ : ∃ P : Int32 → Hp → Prop, ∀ (v2 : Int32) (h : Hp), P v2 h ↔ (∀ (H : Heap) (locs : List Loc) (ls : Array Slot), HH G B S h sz s H locs → lv_has ls 3 [(0, .ref v0), (1, .ref v1), (2, .int v2)] → W p l e rm_X1_copy s m args below meth c H locs 0 0 (QV G B S sz below args s Q) (F0 m 47 ls [])) := ⟨_, fun v2 h => Iff.rfl⟩
    refine (hP47 v2 h).1 (hw P47 (fun v2 h hw => (hP47 v2 h).2 (fun H locs ls hH hl => ?_))) H locs ls hH hl
    have hK47 : ∀ (v2 : Int32) (h : Hp) (H : Heap) (locs : List Loc) (ls : Array Slot), HH G B S h sz s H locs → lv_has ls 3 [(0, .ref v0), (1, .ref v1), (2, .int v2)] → P47 v2 h → W p l e rm_X1_copy s m args below meth c H locs 0 0 (QV G B S sz below args s Q) (F0 m 47 ls []) := fun v2 h H locs ls hH hl hk => (hP47 v2 h).1 hk H locs ls hH hl
    refine lv_iload_n hx hb dX1_copy_47 rfl (lv_at hl 2 rfl) ?_
    refine lv_aload_n hx hb dX1_copy_48 rfl (lv_at hl 1 rfl) ?_
    obtain ⟨k1, hw⟩ := hw
    refine hv_get (ci := 1) (k := 4) (v := .int (h v1 4)) hx hb hown hKK hH cf1 (by decide) fl_X1_34 rfl k1 rfl dX1_copy_49 ?_
    refine lv_icmp_ge (tgt := 76) hx hb dX1_copy_52 (by decide) (fun c2 => ?_) (fun c2 => ?_)
    · have hw := ite_t hw c2
      refine lv_aload_n hx hb dX1_copy_76 rfl (lv_at hl 0 rfl) ?_
      refine lv_aload_n hx hb dX1_copy_77 rfl (lv_at hl 1 rfl) ?_
      refine hv_get (ci := 1) (k := 4) (v := .int (h v1 4)) hx hb hown hKK hH cf1 (by decide) fl_X1_34 rfl k1 rfl dX1_copy_78 ?_
      obtain ⟨k3, hw⟩ := hw
      refine hv_put (ci := 1) (k := 4) hx hb hown hKK hH cf1 (by decide) fl_X1_34 rfl rfl rfl k3 rfl rfl dX1_copy_81 (fun H locs hH => ?_)
      refine lv_aload_n hx hb dX1_copy_84 rfl (lv_at hl 0 rfl) ?_
      refine lv_aload_n hx hb dX1_copy_85 rfl (lv_at hl 1 rfl) ?_
      refine hv_get (ci := 1) (k := 5) (v := .int ((up h v0 4 (h v1 4)) v1 5)) hx hb hown hKK hH cf1 (by decide) fl_X1_42 rfl k1 rfl dX1_copy_86 ?_
      refine hv_put (ci := 1) (k := 5) hx hb hown hKK hH cf1 (by decide) fl_X1_42 rfl rfl rfl k3 rfl rfl dX1_copy_89 (fun H locs hH => ?_)
      refine lv_aload_n hx hb dX1_copy_92 rfl (lv_at hl 0 rfl) ?_
      refine lv_aload_n hx hb dX1_copy_93 rfl (lv_at hl 1 rfl) ?_
      refine hv_get (ci := 1) (k := 6) (v := .int ((up (up h v0 4 (h v1 4)) v0 5 ((up h v0 4 (h v1 4)) v1 5)) v1 6)) hx hb hown hKK hH cf1 (by decide) fl_X1_45 rfl k1 rfl dX1_copy_94 ?_
      refine hv_put (ci := 1) (k := 6) hx hb hown hKK hH cf1 (by decide) fl_X1_45 rfl rfl rfl k3 rfl rfl dX1_copy_97 (fun H locs hH => ?_)
      exact hv_vret hx hb hr hlk hH hw dX1_copy_100
    · have hw := ite_f hw c2
      refine lv_aload_n hx hb dX1_copy_55 rfl (lv_at hl 0 rfl) ?_
      obtain ⟨k4, hw⟩ := hw
      refine hv_get (ci := 1) (k := 3) (v := .ref (S.2 v0 3)) hx hb hown hKK hH cf1 (by decide) fl_X1_23 rfl k4 rfl dX1_copy_56 ?_
      refine lv_iload_n hx hb dX1_copy_59 rfl (lv_at hl 2 rfl) ?_
      obtain ⟨k5, hw⟩ := hw
      refine hv_aald (t := 1) hx hb (by decide) hKK hH k5 dX1_copy_60 ?_
      refine lv_aload_n hx hb dX1_copy_61 rfl (lv_at hl 1 rfl) ?_
      refine hv_get (ci := 1) (k := 3) (v := .ref (S.2 v1 3)) hx hb hown hKK hH cf1 (by decide) fl_X1_23 rfl k1 rfl dX1_copy_62 ?_
      refine lv_iload_n hx hb dX1_copy_65 rfl (lv_at hl 2 rfl) ?_
      obtain ⟨k6, hw⟩ := hw
      refine hv_aald (t := 1) hx hb (by decide) hKK hH k6 dX1_copy_66 ?_
      obtain ⟨k7, hw⟩ := hw
      refine hv_cVV (rm := rm_X0_become) (As := [.ref (S.2 (S.2 v1 3) (ix v2))]) (rest := []) (k := 1) (ci := 0) hx hb hml hown hKK hH cf0 k7 (m_X0_become (S.2 (S.2 v0 3) (ix v2)) (S.2 (S.2 v1 3) (ix v2)) _ _ hw) cw_X1_38 ⟨Nat.le_of_ble_eq_true rfl, Nat.le_of_ble_eq_true rfl⟩ rfl hl.1 rfl (Nat.le_of_ble_eq_true rfl) ⟨Nat.le_of_ble_eq_true rfl, Nat.le_of_ble_eq_true rfl⟩ dX1_copy_67 (fun h8 H locs hH hw => ?_)
      refine lv_iinc (v := v2 + (nI 1)) (lv' := [(2, .int (v2 + (nI 1))), (0, .ref v0), (1, .ref v1)]) hx hb dX1_copy_70 hl (k := 2) rfl rfl (by decide) rfl (fun ls hl => ?_)
      refine lv_goto (tgt := 47) hx hb dX1_copy_73 (by decide) ?_
      exact hK47 _ _ H locs ls hH (lv_sub hl [1, 2, 0] rfl) hw
  unfold w_X1_copy at hw
  show W p l e rm_X1_copy s m args below meth c H [] 0 0 (QV G B S sz below args s Q) (F0 m 0 ls [])
  generalize ([] : List Loc) = locs at hH ⊢
  refine lv_aload_n hx hb dX1_copy_0 rfl (lv_at hl 1 rfl) ?_
  obtain ⟨k1, hw⟩ := hw
  refine hv_get (ci := 1) (k := 0) (v := .ref (S.2 v1 0)) hx hb hown hKK hH cf1 (by decide) fl_X1_9 rfl k1 rfl dX1_copy_1 ?_
  refine lv_iconst (v := (nI 0)) hx hb dX1_copy_4 (by decide) ?_
  refine lv_aload_n hx hb dX1_copy_5 rfl (lv_at hl 0 rfl) ?_
  obtain ⟨k2, hw⟩ := hw
  refine hv_get (ci := 1) (k := 0) (v := .ref (S.2 v0 0)) hx hb hown hKK hH cf1 (by decide) fl_X1_9 rfl k2 rfl dX1_copy_6 ?_
  refine lv_iconst (v := (nI 0)) hx hb dX1_copy_9 (by decide) ?_
  refine lv_bipush (v := (nI 48)) hx hb dX1_copy_10 (by decide) ?_
  obtain ⟨k3, hw⟩ := hw
  refine hv_copy hx hb (hml.trans hl.1.symm) hown hKK hH ml_X1_28 k3 (Nat.le_of_ble_eq_true rfl) (by decide) dX1_copy_12 (fun H locs hH => ?_)
  refine lv_aload_n hx hb dX1_copy_15 rfl (lv_at hl 1 rfl) ?_
  refine hv_get (ci := 1) (k := 1) (v := .ref (S.2 v1 1)) hx hb hown hKK hH cf1 (by decide) fl_X1_15 rfl k1 rfl dX1_copy_16 ?_
  refine lv_iconst (v := (nI 0)) hx hb dX1_copy_19 (by decide) ?_
  refine lv_aload_n hx hb dX1_copy_20 rfl (lv_at hl 0 rfl) ?_
  refine hv_get (ci := 1) (k := 1) (v := .ref (S.2 v0 1)) hx hb hown hKK hH cf1 (by decide) fl_X1_15 rfl k2 rfl dX1_copy_21 ?_
  refine lv_iconst (v := (nI 0)) hx hb dX1_copy_24 (by decide) ?_
  refine lv_bipush (v := (nI 48)) hx hb dX1_copy_25 (by decide) ?_
  obtain ⟨k4, hw⟩ := hw
  refine hv_copy hx hb (hml.trans hl.1.symm) hown hKK hH ml_X1_28 k4 (Nat.le_of_ble_eq_true rfl) (by decide) dX1_copy_27 (fun H locs hH => ?_)
  refine lv_aload_n hx hb dX1_copy_30 rfl (lv_at hl 1 rfl) ?_
  refine hv_get (ci := 1) (k := 2) (v := .ref (S.2 v1 2)) hx hb hown hKK hH cf1 (by decide) fl_X1_18 rfl k1 rfl dX1_copy_31 ?_
  refine lv_iconst (v := (nI 0)) hx hb dX1_copy_34 (by decide) ?_
  refine lv_aload_n hx hb dX1_copy_35 rfl (lv_at hl 0 rfl) ?_
  refine hv_get (ci := 1) (k := 2) (v := .ref (S.2 v0 2)) hx hb hown hKK hH cf1 (by decide) fl_X1_18 rfl k2 rfl dX1_copy_36 ?_
  refine lv_iconst (v := (nI 0)) hx hb dX1_copy_39 (by decide) ?_
  refine lv_bipush (v := (nI 48)) hx hb dX1_copy_40 (by decide) ?_
  obtain ⟨k5, hw⟩ := hw
  refine hv_copy hx hb (hml.trans hl.1.symm) hown hKK hH ml_X1_28 k5 (Nat.le_of_ble_eq_true rfl) (by decide) dX1_copy_42 (fun H locs hH => ?_)
  refine lv_iconst (v := (nI 0)) hx hb dX1_copy_45 (by decide) ?_
  refine lv_istore_n (lv' := [(2, .int (nI 0)), (0, .ref v0), (1, .ref v1)]) hx hb dX1_copy_46 rfl hl (by decide) rfl (fun ls hl => ?_)
  exact c47 _ _ _ _ H locs ls hH (lv_sub hl [1, 2, 0] rfl) hw
abbrev rm_X1_isFull : Room := { frames := 0, cells := 0, slots := 0, locals := 0 }
set_option maxHeartbeats 4000000 in
set_option maxRecDepth 100000 in
theorem m_X1_isFull {l : Launch} {G : Gl} {B sz : Nat} {S : St} (v0 : Nat) (h : Hp) (Q : Int32 → Hp → Prop) (hw : w_X1_isFull S v0 h Q) : MI l G B sz S yX1_isFull cX1_isFull 1 .boolean rm_X1_isFull [.ref v0] h Q := by
  refine met_of rfl rfl ?_
  intro p e s m args below meth c hMB H ls hH hl
  obtain ⟨hx, hb, hml, hown, hKK, hr, hlk⟩ := hMB
  replace hl : lv_has ls 1 [(0, .ref v0)] := hl
  unfold w_X1_isFull at hw
  show W p l e rm_X1_isFull s m args below meth c H [] 0 0 (QI G B S sz below args s Q) (F0 m 0 ls [])
  generalize ([] : List Loc) = locs at hH ⊢
  refine lv_aload_n hx hb dX1_isFull_0 rfl (lv_at hl 0 rfl) ?_
  obtain ⟨k1, hw⟩ := hw
  refine hv_get (ci := 1) (k := 4) (v := .int (h v0 4)) hx hb hown hKK hH cf1 (by decide) fl_X1_34 rfl k1 rfl dX1_isFull_1 ?_
  refine lv_iconst (v := (nI 5)) hx hb dX1_isFull_4 (by decide) ?_
  refine lv_icmp_lt (tgt := 12) hx hb dX1_isFull_5 (by decide) (fun c2 => ?_) (fun c2 => ?_)
  · have hw := ite_t hw c2
    refine lv_iconst (v := (nI 0)) hx hb dX1_isFull_12 (by decide) ?_
    exact hv_zret hx hb hr hlk hH (Or.inl rfl) hw dX1_isFull_13
  · have hw := ite_f hw c2
    refine lv_iconst (v := (nI 1)) hx hb dX1_isFull_8 (by decide) ?_
    refine lv_goto (tgt := 13) hx hb dX1_isFull_9 (by decide) ?_
    exact hv_zret hx hb hr hlk hH (Or.inr rfl) hw dX1_isFull_13
abbrev rm_X1_addHead : Room := { frames := 1, cells := 0, slots := 0, locals := 23 }
set_option maxHeartbeats 4000000 in
set_option maxRecDepth 100000 in
theorem m_X1_addHead {l : Launch} {G : Gl} {B sz : Nat} {S : St} (v0 : Nat) (v1 : Int32) (v2 : Int32) (v3 : Int32) (h : Hp) (Q : Hp → Prop) (hw : w_X1_addHead S v0 v1 v2 v3 h Q) : MV l G B sz S yX1_addHead cX1_addHead 4 rm_X1_addHead [.ref v0, .int v1, .int v2, .int v3] h Q := by
  refine met_of rfl rfl ?_
  intro p e s m args below meth c hMB H ls hH hl
  obtain ⟨hx, hb, hml, hown, hKK, hr, hlk⟩ := hMB
  replace hl : lv_has ls 4 [(0, .ref v0), (1, .int v1), (2, .int v2), (3, .int v3)] := hl
  unfold w_X1_addHead at hw
  show W p l e rm_X1_addHead s m args below meth c H [] 0 0 (QV G B S sz below args s Q) (F0 m 0 ls [])
  generalize ([] : List Loc) = locs at hH ⊢
  refine lv_aload_n hx hb dX1_addHead_0 rfl (lv_at hl 0 rfl) ?_
  obtain ⟨k1, hw⟩ := hw
  refine hv_cVI (rm := rm_X1_isFull) (As := []) (rest := []) (k := 0) (ci := 1) hx hb hml hown hKK hH cf1 k1 (m_X1_isFull v0 _ _ hw) cw_X1_48 ⟨Nat.le_of_ble_eq_true rfl, Nat.le_of_ble_eq_true rfl⟩ rfl hl.1 rfl (Nat.le_of_ble_eq_true rfl) ⟨Nat.le_of_ble_eq_true rfl, Nat.le_of_ble_eq_true rfl⟩ dX1_addHead_1 (fun r3 h2 H locs hH hw => ?_)
  refine lv_if_ne (tgt := 32) hx hb dX1_addHead_4 (by decide) (fun c4 => ?_) (fun c4 => ?_)
  · have hw := ite_f hw c4
    exact hv_vret hx hb hr hlk hH hw dX1_addHead_32
  · have hw := ite_t hw c4
    refine lv_aload_n hx hb dX1_addHead_7 rfl (lv_at hl 0 rfl) ?_
    refine hv_get (ci := 1) (k := 3) (v := .ref (S.2 v0 3)) hx hb hown hKK hH cf1 (by decide) fl_X1_23 rfl k1 rfl dX1_addHead_8 ?_
    refine lv_aload_n hx hb dX1_addHead_11 rfl (lv_at hl 0 rfl) ?_
    refine hv_get (ci := 1) (k := 4) (v := .int (h2 v0 4)) hx hb hown hKK hH cf1 (by decide) fl_X1_34 rfl k1 rfl dX1_addHead_12 ?_
    obtain ⟨k5, hw⟩ := hw
    refine hv_aald (t := 1) hx hb (by decide) hKK hH k5 dX1_addHead_15 ?_
    refine lv_iload_n hx hb dX1_addHead_16 rfl (lv_at hl 1 rfl) ?_
    refine lv_iload_n hx hb dX1_addHead_17 rfl (lv_at hl 2 rfl) ?_
    refine lv_iload_n hx hb dX1_addHead_18 rfl (lv_at hl 3 rfl) ?_
    obtain ⟨k6, hw⟩ := hw
    refine hv_cVV (rm := rm_X0_begin) (As := [.int v1, .int v2, .int v3]) (rest := []) (k := 3) (ci := 0) hx hb hml hown hKK hH cf0 k6 (m_X0_begin (S.2 (S.2 v0 3) (ix (h2 v0 4))) v1 v2 v3 _ _ hw) cw_X1_52 ⟨Nat.le_of_ble_eq_true rfl, Nat.le_of_ble_eq_true rfl⟩ rfl hl.1 rfl (Nat.le_of_ble_eq_true rfl) ⟨Nat.le_of_ble_eq_true rfl, Nat.le_of_ble_eq_true rfl⟩ dX1_addHead_19 (fun h7 H locs hH hw => ?_)
    refine lv_aload_n hx hb dX1_addHead_22 rfl (lv_at hl 0 rfl) ?_
    refine lv_dup hx hb dX1_addHead_23 rfl ?_
    refine hv_get (ci := 1) (k := 4) (v := .int (h7 v0 4)) hx hb hown hKK hH cf1 (by decide) fl_X1_34 rfl k1 rfl dX1_addHead_24 ?_
    refine lv_iconst (v := (nI 1)) hx hb dX1_addHead_27 (by decide) ?_
    refine lv_iadd hx hb dX1_addHead_28 ?_
    refine hv_put (ci := 1) (k := 4) hx hb hown hKK hH cf1 (by decide) fl_X1_34 rfl rfl rfl k1 rfl rfl dX1_addHead_29 (fun H locs hH => ?_)
    exact hv_vret hx hb hr hlk hH hw dX1_addHead_32
abbrev rm_X1_lengthenNewestName : Room := { frames := 2, cells := 0, slots := 0, locals := 41 }
set_option maxHeartbeats 4000000 in
set_option maxRecDepth 100000 in
theorem m_X1_lengthenNewestName {l : Launch} {G : Gl} {B sz : Nat} {S : St} (v0 : Nat) (v1 : Int32) (h : Hp) (Q : Hp → Prop) (hw : w_X1_lengthenNewestName S v0 v1 h Q) : MV l G B sz S yX1_lengthenNewestName cX1_lengthenNewestName 2 rm_X1_lengthenNewestName [.ref v0, .int v1] h Q := by
  refine met_of rfl rfl ?_
  intro p e s m args below meth c hMB H ls hH hl
  obtain ⟨hx, hb, hml, hown, hKK, hr, hlk⟩ := hMB
  replace hl : lv_has ls 2 [(0, .ref v0), (1, .int v1)] := hl
  unfold w_X1_lengthenNewestName at hw
  show W p l e rm_X1_lengthenNewestName s m args below meth c H [] 0 0 (QV G B S sz below args s Q) (F0 m 0 ls [])
  generalize ([] : List Loc) = locs at hH ⊢
  refine lv_aload_n hx hb dX1_lengthenNewestName_0 rfl (lv_at hl 0 rfl) ?_
  obtain ⟨k1, hw⟩ := hw
  refine hv_get (ci := 1) (k := 4) (v := .int (h v0 4)) hx hb hown hKK hH cf1 (by decide) fl_X1_34 rfl k1 rfl dX1_lengthenNewestName_1 ?_
  refine lv_if_le (tgt := 22) hx hb dX1_lengthenNewestName_4 (by decide) (fun c2 => ?_) (fun c2 => ?_)
  · have hw := ite_t hw c2
    exact hv_vret hx hb hr hlk hH hw dX1_lengthenNewestName_22
  · have hw := ite_f hw c2
    refine lv_aload_n hx hb dX1_lengthenNewestName_7 rfl (lv_at hl 0 rfl) ?_
    refine hv_get (ci := 1) (k := 3) (v := .ref (S.2 v0 3)) hx hb hown hKK hH cf1 (by decide) fl_X1_23 rfl k1 rfl dX1_lengthenNewestName_8 ?_
    refine lv_aload_n hx hb dX1_lengthenNewestName_11 rfl (lv_at hl 0 rfl) ?_
    refine hv_get (ci := 1) (k := 4) (v := .int (h v0 4)) hx hb hown hKK hH cf1 (by decide) fl_X1_34 rfl k1 rfl dX1_lengthenNewestName_12 ?_
    refine lv_iconst (v := (nI 1)) hx hb dX1_lengthenNewestName_15 (by decide) ?_
    refine lv_isub hx hb dX1_lengthenNewestName_16 ?_
    obtain ⟨k3, hw⟩ := hw
    refine hv_aald (t := 1) hx hb (by decide) hKK hH k3 dX1_lengthenNewestName_17 ?_
    refine lv_iload_n hx hb dX1_lengthenNewestName_18 rfl (lv_at hl 1 rfl) ?_
    obtain ⟨k4, hw⟩ := hw
    refine hv_cVV (rm := rm_X0_lengthenName) (As := [.int v1]) (rest := []) (k := 1) (ci := 0) hx hb hml hown hKK hH cf0 k4 (m_X0_lengthenName (S.2 (S.2 v0 3) (ix ((h v0 4) - (nI 1)))) v1 _ _ hw) cw_X1_56 ⟨Nat.le_of_ble_eq_true rfl, Nat.le_of_ble_eq_true rfl⟩ rfl hl.1 rfl (Nat.le_of_ble_eq_true rfl) ⟨Nat.le_of_ble_eq_true rfl, Nat.le_of_ble_eq_true rfl⟩ dX1_lengthenNewestName_19 (fun h5 H locs hH hw => ?_)
    exact hv_vret hx hb hr hlk hH hw dX1_lengthenNewestName_22
abbrev rm_X1_beside : Room := { frames := 0, cells := 0, slots := 0, locals := 0 }
set_option maxHeartbeats 4000000 in
set_option maxRecDepth 100000 in
theorem m_X1_beside {l : Launch} {G : Gl} {B sz : Nat} {S : St} (v0 : Int32) (v1 : Int32) (h : Hp) (Q : Int32 → Hp → Prop) (hw : w_X1_beside S v0 v1 h Q) : MI l G B sz S yX1_beside cX1_beside 3 .int rm_X1_beside [.int v0, .int v1] h Q := by
  refine met_of rfl rfl ?_
  intro p e s m args below meth c hMB H ls hH hl
  obtain ⟨hx, hb, hml, hown, hKK, hr, hlk⟩ := hMB
  replace hl : lv_has ls 3 [(0, .int v0), (1, .int v1)] := hl
  unfold w_X1_beside at hw
  show W p l e rm_X1_beside s m args below meth c H [] 0 0 (QI G B S sz below args s Q) (F0 m 0 ls [])
  generalize ([] : List Loc) = locs at hH ⊢
  refine lv_iload_n hx hb dX1_beside_0 rfl (lv_at hl 0 rfl) ?_
  refine lv_bipush (v := (nI 8)) hx hb dX1_beside_1 (by decide) ?_
  refine lv_irem hx hb dX1_beside_3 (by decide) ?_
  refine lv_istore_n (lv' := [(2, .int (irem v0 (nI 8))), (0, .int v0), (1, .int v1)]) hx hb dX1_beside_4 rfl hl (by decide) rfl (fun ls hl => ?_)
  refine lv_iload_n hx hb dX1_beside_5 rfl (lv_at hl 2 rfl) ?_
  by_cases c1 : v1 = (nI 0)
  · have hw := ite_t hw c1
    refine lv_tableIn (tgt := 36) hx hb dX1_beside_6 (by rw [c1]; decide) (by rw [c1]; decide) (by rw [c1]; rfl) (by decide) ?_
    refine lv_iload_n hx hb dX1_beside_36 rfl (lv_at hl 1 rfl) ?_
    refine lv_bipush (v := (nI 8)) hx hb dX1_beside_37 (by decide) ?_
    refine lv_icmp_lt (tgt := 49) hx hb dX1_beside_39 (by decide) (fun c2 => ?_) (fun c2 => ?_)
    · have hw := ite_t hw c2
      refine lv_iconst (v := (-1)) hx hb dX1_beside_49 (by decide) ?_
      exact hv_iret hx hb hr hlk hH hw dX1_beside_50
    · have hw := ite_f hw c2
      refine lv_iload_n hx hb dX1_beside_42 rfl (lv_at hl 1 rfl) ?_
      refine lv_bipush (v := (nI 8)) hx hb dX1_beside_43 (by decide) ?_
      refine lv_isub hx hb dX1_beside_45 ?_
      refine lv_goto (tgt := 50) hx hb dX1_beside_46 (by decide) ?_
      exact hv_iret hx hb hr hlk hH hw dX1_beside_50
  have hw := ite_f hw c1
  by_cases c3 : v1 = (nI 1)
  · have hw := ite_t hw c3
    refine lv_tableIn (tgt := 51) hx hb dX1_beside_6 (by rw [c3]; decide) (by rw [c3]; decide) (by rw [c3]; rfl) (by decide) ?_
    refine lv_iload_n hx hb dX1_beside_51 rfl (lv_at hl 0 rfl) ?_
    refine lv_bipush (v := (nI 7)) hx hb dX1_beside_52 (by decide) ?_
    refine lv_icmp_ge (tgt := 63) hx hb dX1_beside_54 (by decide) (fun c4 => ?_) (fun c4 => ?_)
    · have hw := ite_t hw c4
      refine lv_iconst (v := (-1)) hx hb dX1_beside_63 (by decide) ?_
      exact hv_iret hx hb hr hlk hH hw dX1_beside_64
    · have hw := ite_f hw c4
      refine lv_iload_n hx hb dX1_beside_57 rfl (lv_at hl 1 rfl) ?_
      refine lv_iconst (v := (nI 1)) hx hb dX1_beside_58 (by decide) ?_
      refine lv_iadd hx hb dX1_beside_59 ?_
      refine lv_goto (tgt := 64) hx hb dX1_beside_60 (by decide) ?_
      exact hv_iret hx hb hr hlk hH hw dX1_beside_64
  have hw := ite_f hw c3
  by_cases c5 : v1 = (nI 2)
  · have hw := ite_t hw c5
    refine lv_tableIn (tgt := 65) hx hb dX1_beside_6 (by rw [c5]; decide) (by rw [c5]; decide) (by rw [c5]; rfl) (by decide) ?_
    refine lv_iload_n hx hb dX1_beside_65 rfl (lv_at hl 1 rfl) ?_
    refine lv_bipush (v := (nI 40)) hx hb dX1_beside_66 (by decide) ?_
    refine lv_icmp_ge (tgt := 78) hx hb dX1_beside_68 (by decide) (fun c6 => ?_) (fun c6 => ?_)
    · have hw := ite_t hw c6
      refine lv_iconst (v := (-1)) hx hb dX1_beside_78 (by decide) ?_
      exact hv_iret hx hb hr hlk hH hw dX1_beside_79
    · have hw := ite_f hw c6
      refine lv_iload_n hx hb dX1_beside_71 rfl (lv_at hl 1 rfl) ?_
      refine lv_bipush (v := (nI 8)) hx hb dX1_beside_72 (by decide) ?_
      refine lv_iadd hx hb dX1_beside_74 ?_
      refine lv_goto (tgt := 79) hx hb dX1_beside_75 (by decide) ?_
      exact hv_iret hx hb hr hlk hH hw dX1_beside_79
  have hw := ite_f hw c5
  by_cases c7 : v1 = (nI 3)
  · have hw := ite_t hw c7
    refine lv_tableIn (tgt := 80) hx hb dX1_beside_6 (by rw [c7]; decide) (by rw [c7]; decide) (by rw [c7]; rfl) (by decide) ?_
    refine lv_iload_n hx hb dX1_beside_80 rfl (lv_at hl 0 rfl) ?_
    refine lv_if_le (tgt := 90) hx hb dX1_beside_81 (by decide) (fun c8 => ?_) (fun c8 => ?_)
    · have hw := ite_t hw c8
      refine lv_iconst (v := (-1)) hx hb dX1_beside_90 (by decide) ?_
      exact hv_iret hx hb hr hlk hH hw dX1_beside_91
    · have hw := ite_f hw c8
      refine lv_iload_n hx hb dX1_beside_84 rfl (lv_at hl 1 rfl) ?_
      refine lv_iconst (v := (nI 1)) hx hb dX1_beside_85 (by decide) ?_
      refine lv_isub hx hb dX1_beside_86 ?_
      refine lv_goto (tgt := 91) hx hb dX1_beside_87 (by decide) ?_
      exact hv_iret hx hb hr hlk hH hw dX1_beside_91
  have hw := ite_f hw c7
  refine lv_tableOut (tgt := 92) hx hb dX1_beside_6 (by have := ne_toInt (k := 0) (by decide) c1; have := ne_toInt (k := 1) (by decide) c3; have := ne_toInt (k := 2) (by decide) c5; have := ne_toInt (k := 3) (by decide) c7; omega) (by decide) ?_
  refine lv_iconst (v := (-1)) hx hb dX1_beside_92 (by decide) ?_
  exact hv_iret hx hb hr hlk hH hw dX1_beside_93
abbrev rm_X1_go : Room := { frames := 1, cells := 0, slots := 0, locals := 22 }
set_option maxHeartbeats 4000000 in
set_option maxRecDepth 100000 in
theorem m_X1_go {l : Launch} {G : Gl} {B sz : Nat} {S : St} (v0 : Nat) (v1 : Nat) (h : Hp) (Q : Hp → Prop) (hw : w_X1_go S v0 v1 h Q) : MV l G B sz S yX1_go cX1_go 5 rm_X1_go [.ref v0, .ref v1] h Q := by
  refine met_of rfl rfl ?_
  intro p e s m args below meth c hMB H ls hH hl
  obtain ⟨hx, hb, hml, hown, hKK, hr, hlk⟩ := hMB
  replace hl : lv_has ls 5 [(0, .ref v0), (1, .ref v1)] := hl
  have c7 : ∀  (v0 : Nat) (v1 : Nat) (v2 : Int32) (v3 : Int32) (h : Hp) (H : Heap) (locs : List Loc) (ls : Array Slot), HH G B S h sz s H locs → lv_has ls 5 [(0, .ref v0), (1, .ref v1), (2, .int v2), (3, .int v3)] → w_X1_go_c7 S v0 v1 v2 v3 h Q → W p l e rm_X1_go s m args below meth c H locs 0 0 (QV G B S sz below args s Q) (F0 m 7 ls []) := by
    intro  v0 v1 v2 v3 h H locs ls hH hl hw
    unfold w_X1_go_c7 at hw
    obtain ⟨P7, hP7⟩ : ∃ P : Int32 → Hp → Prop, ∀ (v3 : Int32) (h : Hp), P v3 h ↔ (∀ (H : Heap) (locs : List Loc) (ls : Array Slot), HH G B S h sz s H locs → lv_has ls 5 [(0, .ref v0), (1, .ref v1), (2, .int v2), (3, .int v3)] → W p l e rm_X1_go s m args below meth c H locs 0 0 (QV G B S sz below args s Q) (F0 m 7 ls [])) := ⟨_, fun v3 h => Iff.rfl⟩
    refine (hP7 v3 h).1 (hw P7 (fun v3 h hw => (hP7 v3 h).2 (fun H locs ls hH hl => ?_))) H locs ls hH hl
    have hK7 : ∀ (v3 : Int32) (h : Hp) (H : Heap) (locs : List Loc) (ls : Array Slot), HH G B S h sz s H locs → lv_has ls 5 [(0, .ref v0), (1, .ref v1), (2, .int v2), (3, .int v3)] → P7 v3 h → W p l e rm_X1_go s m args below meth c H locs 0 0 (QV G B S sz below args s Q) (F0 m 7 ls []) := fun v3 h H locs ls hH hl hk => (hP7 v3 h).1 hk H locs ls hH hl
    refine lv_iload_n hx hb dX1_go_7 rfl (lv_at hl 3 rfl) ?_
    refine lv_iload_n hx hb dX1_go_8 rfl (lv_at hl 2 rfl) ?_
    refine lv_icmp_ge (tgt := 83) hx hb dX1_go_9 (by decide) (fun c1 => ?_) (fun c1 => ?_)
    · have hw := ite_t hw c1
      exact hv_vret hx hb hr hlk hH hw dX1_go_83
    · have hw := ite_f hw c1
      refine lv_aload_n hx hb dX1_go_12 rfl (lv_at hl 1 rfl) ?_
      obtain ⟨k2, hw⟩ := hw
      refine hv_getN (ci := 0) (k := 4) (v := .int (h v1 4)) hx hb hown hKK hH cf0 (by decide) fl_X1_99 rfl k2 rfl dX1_go_13 ?_
      refine lv_aload_n hx hb dX1_go_16 rfl (lv_at hl 1 rfl) ?_
      refine hv_getN (ci := 0) (k := 5) (v := .int (h v1 5)) hx hb hown hKK hH cf0 (by decide) fl_X1_102 rfl k2 rfl dX1_go_17 ?_
      refine hv_cSI (rm := rm_X1_beside) (As := [.int (h v1 4), .int (h v1 5)]) (rest := []) (k := 2) hx hb hml hown hKK hH (m_X1_beside (h v1 4) (h v1 5) _ _ hw) cw_X1_105 ⟨Nat.le_of_ble_eq_true rfl, Nat.le_of_ble_eq_true rfl⟩ rfl hl.1 rfl (Nat.le_of_ble_eq_true rfl) ⟨Nat.le_of_ble_eq_true rfl, Nat.le_of_ble_eq_true rfl⟩ dX1_go_20 (fun r4 h3 H locs hH hw => ?_)
      refine lv_istore (lv' := [(4, .int r4), (0, .ref v0), (1, .ref v1), (2, .int v2), (3, .int v3)]) hx hb dX1_go_23 hl (by decide) rfl (fun ls hl => ?_)
      refine lv_iload hx hb dX1_go_25 (lv_at hl 0 rfl) ?_
      refine lv_iconst (v := (-1)) hx hb dX1_go_27 (by decide) ?_
      refine lv_icmp_ne (tgt := 37) hx hb dX1_go_28 (by decide) (fun c5 => ?_) (fun c5 => ?_)
      · have hw := ite_f hw c5
        refine lv_aload_n hx hb dX1_go_37 rfl (lv_at hl 1 rfl) ?_
        obtain ⟨k7, hw⟩ := hw
        refine hv_get (ci := 1) (k := 0) (v := .ref (S.2 v0 0)) hx hb hown hKK hH cf1 (by decide) fl_X1_9 rfl k7 rfl dX1_go_38 ?_
        refine lv_iload hx hb dX1_go_41 (lv_at hl 0 rfl) ?_
        obtain ⟨k8, hw⟩ := hw
        refine hv_iald hx hb hKK hH k8 dX1_go_43 ?_
        refine lv_if_le (tgt := 71) hx hb dX1_go_44 (by decide) (fun c9 => ?_) (fun c9 => ?_)
        · have hw := ite_t hw c9
          refine lv_aload_n hx hb dX1_go_71 rfl (lv_at hl 2 rfl) ?_
          refine lv_iload hx hb dX1_go_72 (lv_at hl 0 rfl) ?_
          refine hv_putN (ci := 0) (k := 4) hx hb hown hKK hH cf0 (by decide) fl_X1_99 rfl rfl rfl k2 rfl rfl dX1_go_74 (fun H locs hH => ?_)
          refine lv_iinc (v := v3 + (nI 1)) (lv' := [(3, .int (v3 + (nI 1))), (4, .int r4), (0, .ref v0), (1, .ref v1), (2, .int v2)]) hx hb dX1_go_77 hl (k := 4) rfl rfl (by decide) rfl (fun ls hl => ?_)
          refine lv_goto (tgt := 7) hx hb dX1_go_80 (by decide) ?_
          exact hK7 _ _ H locs ls hH (lv_sub hl [2, 3, 4, 0] rfl) hw
        · have hw := ite_f hw c9
          refine lv_aload_n hx hb dX1_go_47 rfl (lv_at hl 1 rfl) ?_
          refine hv_get (ci := 1) (k := 0) (v := .ref (S.2 v0 0)) hx hb hown hKK hH cf1 (by decide) fl_X1_9 rfl k7 rfl dX1_go_48 ?_
          refine lv_iload hx hb dX1_go_51 (lv_at hl 0 rfl) ?_
          refine lv_aload_n hx hb dX1_go_53 rfl (lv_at hl 1 rfl) ?_
          refine hv_get (ci := 1) (k := 0) (v := .ref (S.2 v0 0)) hx hb hown hKK hH cf1 (by decide) fl_X1_9 rfl k7 rfl dX1_go_54 ?_
          refine lv_iload hx hb dX1_go_57 (lv_at hl 0 rfl) ?_
          refine hv_iald hx hb hKK hH k8 dX1_go_59 ?_
          refine lv_aload_n hx hb dX1_go_60 rfl (lv_at hl 2 rfl) ?_
          refine hv_cVI (rm := rm_X0_weight) (As := []) (rest := [.int (h3 (S.2 v0 0) (ix r4)), .int r4, .ref (S.2 v0 0)]) (k := 0) (ci := 0) hx hb hml hown hKK hH cf0 k2 (m_X0_weight v1 _ _ hw) cw_X1_109 ⟨Nat.le_of_ble_eq_true rfl, Nat.le_of_ble_eq_true rfl⟩ rfl hl.1 rfl (Nat.le_of_ble_eq_true rfl) ⟨Nat.le_of_ble_eq_true rfl, Nat.le_of_ble_eq_true rfl⟩ dX1_go_61 (fun r11 h10 H locs hH hw => ?_)
          refine lv_isub hx hb dX1_go_64 ?_
          refine lv_iconst (v := (nI 0)) hx hb dX1_go_65 (by decide) ?_
          refine va_mmax hx hb (hml.trans hl.1.symm) hown (hKK.use ml_X1_112 rfl _) (hKK.use ml_max rfl _) (hKK.use ml_math rfl _) (hKK.use ml_max_c rfl _) (Nat.le_of_ble_eq_true rfl) (Nat.le_of_ble_eq_true rfl) (Nat.le_of_ble_eq_true rfl) (Nat.le_of_ble_eq_true rfl) dX1_go_66 ?_
          refine hv_iast hx hb hKK hH k8 dX1_go_69 (fun H locs hH => ?_)
          exact hv_vret hx hb hr hlk hH hw dX1_go_70
      · have hw := ite_t hw c5
        refine lv_aload_n hx hb dX1_go_31 rfl (lv_at hl 2 rfl) ?_
        refine lv_iconst (v := (nI 2)) hx hb dX1_go_32 (by decide) ?_
        refine hv_cVV (rm := rm_X0_turn) (As := [.int (nI 2)]) (rest := []) (k := 1) (ci := 0) hx hb hml hown hKK hH cf0 k2 (m_X0_turn v1 (nI 2) _ _ hw) cw_X1_74 ⟨Nat.le_of_ble_eq_true rfl, Nat.le_of_ble_eq_true rfl⟩ rfl hl.1 rfl (Nat.le_of_ble_eq_true rfl) ⟨Nat.le_of_ble_eq_true rfl, Nat.le_of_ble_eq_true rfl⟩ dX1_go_33 (fun h6 H locs hH hw => ?_)
        exact hv_vret hx hb hr hlk hH hw dX1_go_36
  unfold w_X1_go at hw
  show W p l e rm_X1_go s m args below meth c H [] 0 0 (QV G B S sz below args s Q) (F0 m 0 ls [])
  generalize ([] : List Loc) = locs at hH ⊢
  refine lv_aload_n hx hb dX1_go_0 rfl (lv_at hl 1 rfl) ?_
  obtain ⟨k1, hw⟩ := hw
  refine hv_cVI (rm := rm_X0_steps) (As := []) (rest := []) (k := 0) (ci := 0) hx hb hml hown hKK hH cf0 k1 (m_X0_steps v1 _ _ hw) cw_X1_96 ⟨Nat.le_of_ble_eq_true rfl, Nat.le_of_ble_eq_true rfl⟩ rfl hl.1 rfl (Nat.le_of_ble_eq_true rfl) ⟨Nat.le_of_ble_eq_true rfl, Nat.le_of_ble_eq_true rfl⟩ dX1_go_1 (fun r3 h2 H locs hH hw => ?_)
  refine lv_istore_n (lv' := [(2, .int r3), (0, .ref v0), (1, .ref v1)]) hx hb dX1_go_4 rfl hl (by decide) rfl (fun ls hl => ?_)
  refine lv_iconst (v := (nI 0)) hx hb dX1_go_5 (by decide) ?_
  refine lv_istore_n (lv' := [(3, .int (nI 0)), (2, .int r3), (0, .ref v0), (1, .ref v1)]) hx hb dX1_go_6 rfl hl (by decide) rfl (fun ls hl => ?_)
  exact c7 _ _ _ _ _ H locs ls hH (lv_sub hl [2, 3, 1, 0] rfl) hw
abbrev rm_X1_gather : Room := { frames := 2, cells := 0, slots := 0, locals := 42 }
set_option maxHeartbeats 4000000 in
set_option maxRecDepth 100000 in
theorem m_X1_gather {l : Launch} {G : Gl} {B sz : Nat} {S : St} (v0 : Nat) (v1 : Nat) (h : Hp) (Q : Hp → Prop) (hw : w_X1_gather S v0 v1 h Q) : MV l G B sz S yX1_gather cX1_gather 2 rm_X1_gather [.ref v0, .ref v1] h Q := by
  refine met_of rfl rfl ?_
  intro p e s m args below meth c hMB H ls hH hl
  obtain ⟨hx, hb, hml, hown, hKK, hr, hlk⟩ := hMB
  replace hl : lv_has ls 2 [(0, .ref v0), (1, .ref v1)] := hl
  unfold w_X1_gather at hw
  show W p l e rm_X1_gather s m args below meth c H [] 0 0 (QV G B S sz below args s Q) (F0 m 0 ls [])
  generalize ([] : List Loc) = locs at hH ⊢
  refine lv_aload_n hx hb dX1_gather_0 rfl (lv_at hl 1 rfl) ?_
  refine lv_aload_n hx hb dX1_gather_1 rfl (lv_at hl 0 rfl) ?_
  obtain ⟨k1, hw⟩ := hw
  refine hv_get (ci := 1) (k := 2) (v := .ref (S.2 v0 2)) hx hb hown hKK hH cf1 (by decide) fl_X1_18 rfl k1 rfl dX1_gather_2 ?_
  refine lv_aload_n hx hb dX1_gather_5 rfl (lv_at hl 1 rfl) ?_
  obtain ⟨k2, hw⟩ := hw
  refine hv_getN (ci := 0) (k := 4) (v := .int (h v1 4)) hx hb hown hKK hH cf0 (by decide) fl_X1_99 rfl k2 rfl dX1_gather_6 ?_
  obtain ⟨k3, hw⟩ := hw
  refine hv_iald hx hb hKK hH k3 dX1_gather_9 ?_
  refine hv_cVI (rm := rm_X0_hasLetter) (As := [.int (h (S.2 v0 2) (ix (h v1 4)))]) (rest := []) (k := 1) (ci := 0) hx hb hml hown hKK hH cf0 k2 (m_X0_hasLetter v1 (h (S.2 v0 2) (ix (h v1 4))) _ _ hw) cw_X1_117 ⟨Nat.le_of_ble_eq_true rfl, Nat.le_of_ble_eq_true rfl⟩ rfl hl.1 rfl (Nat.le_of_ble_eq_true rfl) ⟨Nat.le_of_ble_eq_true rfl, Nat.le_of_ble_eq_true rfl⟩ dX1_gather_10 (fun r5 h4 H locs hH hw => ?_)
  refine lv_if_eq (tgt := 39) hx hb dX1_gather_13 (by decide) (fun c6 => ?_) (fun c6 => ?_)
  · have hw := ite_t hw c6
    exact hv_vret hx hb hr hlk hH hw dX1_gather_39
  · have hw := ite_f hw c6
    refine lv_aload_n hx hb dX1_gather_16 rfl (lv_at hl 1 rfl) ?_
    refine lv_aload_n hx hb dX1_gather_17 rfl (lv_at hl 0 rfl) ?_
    refine hv_get (ci := 1) (k := 1) (v := .ref (S.2 v0 1)) hx hb hown hKK hH cf1 (by decide) fl_X1_15 rfl k1 rfl dX1_gather_18 ?_
    refine lv_aload_n hx hb dX1_gather_21 rfl (lv_at hl 1 rfl) ?_
    refine hv_getN (ci := 0) (k := 4) (v := .int (h4 v1 4)) hx hb hown hKK hH cf0 (by decide) fl_X1_99 rfl k2 rfl dX1_gather_22 ?_
    obtain ⟨k7, hw⟩ := hw
    refine hv_iald hx hb hKK hH k7 dX1_gather_25 ?_
    refine hv_cVV (rm := rm_X0_gain) (As := [.int (h4 (S.2 v0 1) (ix (h4 v1 4)))]) (rest := []) (k := 1) (ci := 0) hx hb hml hown hKK hH cf0 k2 (m_X0_gain v1 (h4 (S.2 v0 1) (ix (h4 v1 4))) _ _ hw) cw_X1_121 ⟨Nat.le_of_ble_eq_true rfl, Nat.le_of_ble_eq_true rfl⟩ rfl hl.1 rfl (Nat.le_of_ble_eq_true rfl) ⟨Nat.le_of_ble_eq_true rfl, Nat.le_of_ble_eq_true rfl⟩ dX1_gather_26 (fun h8 H locs hH hw => ?_)
    refine lv_aload_n hx hb dX1_gather_29 rfl (lv_at hl 0 rfl) ?_
    refine hv_get (ci := 1) (k := 1) (v := .ref (S.2 v0 1)) hx hb hown hKK hH cf1 (by decide) fl_X1_15 rfl k1 rfl dX1_gather_30 ?_
    refine lv_aload_n hx hb dX1_gather_33 rfl (lv_at hl 1 rfl) ?_
    refine hv_getN (ci := 0) (k := 4) (v := .int (h8 v1 4)) hx hb hown hKK hH cf0 (by decide) fl_X1_99 rfl k2 rfl dX1_gather_34 ?_
    refine lv_iconst (v := (nI 0)) hx hb dX1_gather_37 (by decide) ?_
    obtain ⟨k9, hw⟩ := hw
    refine hv_iast hx hb hKK hH k9 dX1_gather_38 (fun H locs hH => ?_)
    exact hv_vret hx hb hr hlk hH hw dX1_gather_39
abbrev rm_X1_leastAwakeBeside : Room := { frames := 0, cells := 0, slots := 0, locals := 0 }
set_option maxHeartbeats 4000000 in
set_option maxRecDepth 100000 in
theorem m_X1_leastAwakeBeside {l : Launch} {G : Gl} {B sz : Nat} {S : St} (v0 : Nat) (v1 : Int32) (h : Hp) (Q : Int32 → Hp → Prop) (hw : w_X1_leastAwakeBeside S v0 v1 h Q) : MI l G B sz S yX1_leastAwakeBeside cX1_leastAwakeBeside 3 .int rm_X1_leastAwakeBeside [.ref v0, .int v1] h Q := by
  refine met_of rfl rfl ?_
  intro p e s m args below meth c hMB H ls hH hl
  obtain ⟨hx, hb, hml, hown, hKK, hr, hlk⟩ := hMB
  replace hl : lv_has ls 3 [(0, .ref v0), (1, .int v1)] := hl
  have c2 : ∀  (v0 : Nat) (v1 : Int32) (v2 : Int32) (h : Hp) (H : Heap) (locs : List Loc) (ls : Array Slot), HH G B S h sz s H locs → lv_has ls 3 [(0, .ref v0), (1, .int v1), (2, .int v2)] → w_X1_leastAwakeBeside_c2 S v0 v1 v2 h Q → W p l e rm_X1_leastAwakeBeside s m args below meth c H locs 0 0 (QI G B S sz below args s Q) (F0 m 2 ls []) := by
    intro  v0 v1 v2 h H locs ls hH hl hw
    unfold w_X1_leastAwakeBeside_c2 at hw
    obtain ⟨P2, hP2⟩ : ∃ P : Int32 → Hp → Prop, ∀ (v2 : Int32) (h : Hp), P v2 h ↔ (∀ (H : Heap) (locs : List Loc) (ls : Array Slot), HH G B S h sz s H locs → lv_has ls 3 [(0, .ref v0), (1, .int v1), (2, .int v2)] → W p l e rm_X1_leastAwakeBeside s m args below meth c H locs 0 0 (QI G B S sz below args s Q) (F0 m 2 ls [])) := ⟨_, fun v2 h => Iff.rfl⟩
    refine (hP2 v2 h).1 (hw P2 (fun v2 h hw => (hP2 v2 h).2 (fun H locs ls hH hl => ?_))) H locs ls hH hl
    have hK2 : ∀ (v2 : Int32) (h : Hp) (H : Heap) (locs : List Loc) (ls : Array Slot), HH G B S h sz s H locs → lv_has ls 3 [(0, .ref v0), (1, .int v1), (2, .int v2)] → P2 v2 h → W p l e rm_X1_leastAwakeBeside s m args below meth c H locs 0 0 (QI G B S sz below args s Q) (F0 m 2 ls []) := fun v2 h H locs ls hH hl hk => (hP2 v2 h).1 hk H locs ls hH hl
    refine lv_iload_n hx hb dX1_leastAwakeBeside_2 rfl (lv_at hl 2 rfl) ?_
    refine lv_aload_n hx hb dX1_leastAwakeBeside_3 rfl (lv_at hl 0 rfl) ?_
    obtain ⟨k1, hw⟩ := hw
    refine hv_get (ci := 1) (k := 4) (v := .int (h v0 4)) hx hb hown hKK hH cf1 (by decide) fl_X1_34 rfl k1 rfl dX1_leastAwakeBeside_4 ?_
    refine lv_icmp_ge (tgt := 56) hx hb dX1_leastAwakeBeside_7 (by decide) (fun c2 => ?_) (fun c2 => ?_)
    · have hw := ite_t hw c2
      refine lv_iconst (v := (-1)) hx hb dX1_leastAwakeBeside_56 (by decide) ?_
      exact hv_iret hx hb hr hlk hH hw dX1_leastAwakeBeside_57
    · have hw := ite_f hw c2
      refine lv_iload_n hx hb dX1_leastAwakeBeside_10 rfl (lv_at hl 2 rfl) ?_
      refine lv_iload_n hx hb dX1_leastAwakeBeside_11 rfl (lv_at hl 1 rfl) ?_
      refine lv_icmp_eq (tgt := 50) hx hb dX1_leastAwakeBeside_12 (by decide) (fun c3 => ?_) (fun c3 => ?_)
      · have hw := ite_t hw c3
        refine lv_iinc (v := v2 + (nI 1)) (lv' := [(2, .int (v2 + (nI 1))), (0, .ref v0), (1, .int v1)]) hx hb dX1_leastAwakeBeside_50 hl (k := 2) rfl rfl (by decide) rfl (fun ls hl => ?_)
        refine lv_goto (tgt := 2) hx hb dX1_leastAwakeBeside_53 (by decide) ?_
        exact hK2 _ _ H locs ls hH (lv_sub hl [1, 2, 0] rfl) hw
      · have hw := ite_f hw c3
        refine lv_aload_n hx hb dX1_leastAwakeBeside_15 rfl (lv_at hl 0 rfl) ?_
        refine hv_get (ci := 1) (k := 3) (v := .ref (S.2 v0 3)) hx hb hown hKK hH cf1 (by decide) fl_X1_23 rfl k1 rfl dX1_leastAwakeBeside_16 ?_
        refine lv_iload_n hx hb dX1_leastAwakeBeside_19 rfl (lv_at hl 2 rfl) ?_
        obtain ⟨k4, hw⟩ := hw
        refine hv_aald (t := 1) hx hb (by decide) hKK hH k4 dX1_leastAwakeBeside_20 ?_
        obtain ⟨k5, hw⟩ := hw
        refine hv_getN (ci := 0) (k := 4) (v := .int (h (S.2 (S.2 v0 3) (ix v2)) 4)) hx hb hown hKK hH cf0 (by decide) fl_X1_99 rfl k5 rfl dX1_leastAwakeBeside_21 ?_
        refine lv_aload_n hx hb dX1_leastAwakeBeside_24 rfl (lv_at hl 0 rfl) ?_
        refine hv_get (ci := 1) (k := 3) (v := .ref (S.2 v0 3)) hx hb hown hKK hH cf1 (by decide) fl_X1_23 rfl k1 rfl dX1_leastAwakeBeside_25 ?_
        refine lv_iload_n hx hb dX1_leastAwakeBeside_28 rfl (lv_at hl 1 rfl) ?_
        obtain ⟨k6, hw⟩ := hw
        refine hv_aald (t := 1) hx hb (by decide) hKK hH k6 dX1_leastAwakeBeside_29 ?_
        obtain ⟨k7, hw⟩ := hw
        refine hv_getN (ci := 0) (k := 4) (v := .int (h (S.2 (S.2 v0 3) (ix v1)) 4)) hx hb hown hKK hH cf0 (by decide) fl_X1_99 rfl k7 rfl dX1_leastAwakeBeside_30 ?_
        refine lv_icmp_ne (tgt := 50) hx hb dX1_leastAwakeBeside_33 (by decide) (fun c8 => ?_) (fun c8 => ?_)
        · have hw := ite_f hw c8
          refine lv_iinc (v := v2 + (nI 1)) (lv' := [(2, .int (v2 + (nI 1))), (0, .ref v0), (1, .int v1)]) hx hb dX1_leastAwakeBeside_50 hl (k := 2) rfl rfl (by decide) rfl (fun ls hl => ?_)
          refine lv_goto (tgt := 2) hx hb dX1_leastAwakeBeside_53 (by decide) ?_
          exact hK2 _ _ H locs ls hH (lv_sub hl [1, 2, 0] rfl) hw
        · have hw := ite_t hw c8
          refine lv_aload_n hx hb dX1_leastAwakeBeside_36 rfl (lv_at hl 0 rfl) ?_
          refine hv_get (ci := 1) (k := 3) (v := .ref (S.2 v0 3)) hx hb hown hKK hH cf1 (by decide) fl_X1_23 rfl k1 rfl dX1_leastAwakeBeside_37 ?_
          refine lv_iload_n hx hb dX1_leastAwakeBeside_40 rfl (lv_at hl 2 rfl) ?_
          refine hv_aald (t := 1) hx hb (by decide) hKK hH k4 dX1_leastAwakeBeside_41 ?_
          refine hv_getN (ci := 0) (k := 8) (v := .int (h (S.2 (S.2 v0 3) (ix v2)) 8)) hx hb hown hKK hH cf0 (by decide) fl_X1_92 rfl k5 rfl dX1_leastAwakeBeside_42 ?_
          refine lv_if_ne (tgt := 50) hx hb dX1_leastAwakeBeside_45 (by decide) (fun c9 => ?_) (fun c9 => ?_)
          · have hw := ite_f hw c9
            refine lv_iinc (v := v2 + (nI 1)) (lv' := [(2, .int (v2 + (nI 1))), (0, .ref v0), (1, .int v1)]) hx hb dX1_leastAwakeBeside_50 hl (k := 2) rfl rfl (by decide) rfl (fun ls hl => ?_)
            refine lv_goto (tgt := 2) hx hb dX1_leastAwakeBeside_53 (by decide) ?_
            exact hK2 _ _ H locs ls hH (lv_sub hl [1, 2, 0] rfl) hw
          · have hw := ite_t hw c9
            refine lv_iload_n hx hb dX1_leastAwakeBeside_48 rfl (lv_at hl 2 rfl) ?_
            exact hv_iret hx hb hr hlk hH hw dX1_leastAwakeBeside_49
  unfold w_X1_leastAwakeBeside at hw
  show W p l e rm_X1_leastAwakeBeside s m args below meth c H [] 0 0 (QI G B S sz below args s Q) (F0 m 0 ls [])
  generalize ([] : List Loc) = locs at hH ⊢
  refine lv_iconst (v := (nI 0)) hx hb dX1_leastAwakeBeside_0 (by decide) ?_
  refine lv_istore_n (lv' := [(2, .int (nI 0)), (0, .ref v0), (1, .int v1)]) hx hb dX1_leastAwakeBeside_1 rfl hl (by decide) rfl (fun ls hl => ?_)
  exact c2 _ _ _ _ H locs ls hH (lv_sub hl [1, 2, 0] rfl) hw
abbrev rm_X1_meet : Room := { frames := 2, cells := 0, slots := 0, locals := 42 }
set_option maxHeartbeats 4000000 in
set_option maxRecDepth 100000 in
theorem m_X1_meet {l : Launch} {G : Gl} {B sz : Nat} {S : St} (v0 : Nat) (v1 : Int32) (h : Hp) (Q : Hp → Prop) (hw : w_X1_meet S v0 v1 h Q) : MV l G B sz S yX1_meet cX1_meet 9 rm_X1_meet [.ref v0, .int v1] h Q := by
  refine met_of rfl rfl ?_
  intro p e s m args below meth c hMB H ls hH hl
  obtain ⟨hx, hb, hml, hown, hKK, hr, hlk⟩ := hMB
  replace hl : lv_has ls 9 [(0, .ref v0), (1, .int v1)] := hl
  have c89 : ∀  (v3 : Nat) (v4 : Nat) (v5 : Int32) (s0 : Nat) (h : Hp) (H : Heap) (locs : List Loc) (ls : Array Slot), HH G B S h sz s H locs → lv_has ls 9 [(3, .ref v3), (4, .ref v4), (5, .int v5)] → w_X1_meet_c89 S v3 v4 v5 s0 h Q → W p l e rm_X1_meet s m args below meth c H locs 0 0 (QV G B S sz below args s Q) (F0 m 89 ls [.ref s0]) := by
    intro  v3 v4 v5 s0 h H locs ls hH hl hw
    unfold w_X1_meet_c89 at hw
    refine lv_astore (lv' := [(6, .ref s0), (3, .ref v3), (4, .ref v4), (5, .int v5)]) hx hb dX1_meet_89 hl (by decide) rfl (fun ls hl => ?_)
    refine lv_iload hx hb dX1_meet_91 (lv_at hl 3 rfl) ?_
    refine lv_if_ge (tgt := 101) hx hb dX1_meet_93 (by decide) (fun c1 => ?_) (fun c1 => ?_)
    · have hw := ite_t hw c1
      refine lv_aload_n hx hb dX1_meet_101 rfl (lv_at hl 1 rfl) ?_
      refine lv_astore (lv' := [(7, .ref v3), (6, .ref s0), (3, .ref v3), (4, .ref v4), (5, .int v5)]) hx hb dX1_meet_102 hl (by decide) rfl (fun ls hl => ?_)
      refine lv_aload hx hb dX1_meet_104 (lv_at hl 1 rfl) ?_
      obtain ⟨k2, hw⟩ := hw
      refine hv_getN (ci := 0) (k := 7) (v := .int (h s0 7)) hx hb hown hKK hH cf0 (by decide) fl_X1_86 rfl k2 rfl dX1_meet_106 ?_
      refine lv_iconst (v := (nI 2)) hx hb dX1_meet_109 (by decide) ?_
      refine lv_idiv hx hb dX1_meet_110 (by decide) ?_
      refine lv_istore (lv' := [(8, .int ((h s0 7) / (nI 2))), (7, .ref v3), (6, .ref s0), (3, .ref v3), (4, .ref v4), (5, .int v5)]) hx hb dX1_meet_111 hl (by decide) rfl (fun ls hl => ?_)
      refine lv_aload hx hb dX1_meet_113 (lv_at hl 2 rfl) ?_
      refine lv_iconst (v := (nI 2)) hx hb dX1_meet_115 (by decide) ?_
      refine hv_cVV (rm := rm_X0_turn) (As := [.int (nI 2)]) (rest := []) (k := 1) (ci := 0) hx hb hml hown hKK hH cf0 k2 (m_X0_turn s0 (nI 2) _ _ hw) cw_X1_74 ⟨Nat.le_of_ble_eq_true rfl, Nat.le_of_ble_eq_true rfl⟩ rfl hl.1 rfl (Nat.le_of_ble_eq_true rfl) ⟨Nat.le_of_ble_eq_true rfl, Nat.le_of_ble_eq_true rfl⟩ dX1_meet_116 (fun h3 H locs hH hw => ?_)
      refine lv_aload hx hb dX1_meet_119 (lv_at hl 2 rfl) ?_
      refine lv_dup hx hb dX1_meet_121 rfl ?_
      refine hv_getN (ci := 0) (k := 7) (v := .int (h3 s0 7)) hx hb hown hKK hH cf0 (by decide) fl_X1_86 rfl k2 rfl dX1_meet_122 ?_
      refine lv_iload hx hb dX1_meet_125 (lv_at hl 0 rfl) ?_
      refine lv_isub hx hb dX1_meet_127 ?_
      refine hv_putN (ci := 0) (k := 7) hx hb hown hKK hH cf0 (by decide) fl_X1_86 rfl rfl rfl k2 rfl rfl dX1_meet_128 (fun H locs hH => ?_)
      refine lv_aload hx hb dX1_meet_131 (lv_at hl 1 rfl) ?_
      refine lv_iload hx hb dX1_meet_133 (lv_at hl 0 rfl) ?_
      obtain ⟨k4, hw⟩ := hw
      refine hv_cVV (rm := rm_X0_gain) (As := [.int ((h s0 7) / (nI 2))]) (rest := []) (k := 1) (ci := 0) hx hb hml hown hKK hH cf0 k4 (m_X0_gain v3 ((h s0 7) / (nI 2)) _ _ hw) cw_X1_121 ⟨Nat.le_of_ble_eq_true rfl, Nat.le_of_ble_eq_true rfl⟩ rfl hl.1 rfl (Nat.le_of_ble_eq_true rfl) ⟨Nat.le_of_ble_eq_true rfl, Nat.le_of_ble_eq_true rfl⟩ dX1_meet_135 (fun h5 H locs hH hw => ?_)
      exact hv_vret hx hb hr hlk hH hw dX1_meet_138
    · have hw := ite_f hw c1
      refine lv_aload hx hb dX1_meet_96 (lv_at hl 2 rfl) ?_
      refine lv_goto (tgt := 102) hx hb dX1_meet_98 (by decide) ?_
      refine lv_astore (lv' := [(7, .ref v4), (6, .ref s0), (3, .ref v3), (4, .ref v4), (5, .int v5)]) hx hb dX1_meet_102 hl (by decide) rfl (fun ls hl => ?_)
      refine lv_aload hx hb dX1_meet_104 (lv_at hl 1 rfl) ?_
      obtain ⟨k6, hw⟩ := hw
      refine hv_getN (ci := 0) (k := 7) (v := .int (h s0 7)) hx hb hown hKK hH cf0 (by decide) fl_X1_86 rfl k6 rfl dX1_meet_106 ?_
      refine lv_iconst (v := (nI 2)) hx hb dX1_meet_109 (by decide) ?_
      refine lv_idiv hx hb dX1_meet_110 (by decide) ?_
      refine lv_istore (lv' := [(8, .int ((h s0 7) / (nI 2))), (7, .ref v4), (6, .ref s0), (3, .ref v3), (4, .ref v4), (5, .int v5)]) hx hb dX1_meet_111 hl (by decide) rfl (fun ls hl => ?_)
      refine lv_aload hx hb dX1_meet_113 (lv_at hl 2 rfl) ?_
      refine lv_iconst (v := (nI 2)) hx hb dX1_meet_115 (by decide) ?_
      refine hv_cVV (rm := rm_X0_turn) (As := [.int (nI 2)]) (rest := []) (k := 1) (ci := 0) hx hb hml hown hKK hH cf0 k6 (m_X0_turn s0 (nI 2) _ _ hw) cw_X1_74 ⟨Nat.le_of_ble_eq_true rfl, Nat.le_of_ble_eq_true rfl⟩ rfl hl.1 rfl (Nat.le_of_ble_eq_true rfl) ⟨Nat.le_of_ble_eq_true rfl, Nat.le_of_ble_eq_true rfl⟩ dX1_meet_116 (fun h7 H locs hH hw => ?_)
      refine lv_aload hx hb dX1_meet_119 (lv_at hl 2 rfl) ?_
      refine lv_dup hx hb dX1_meet_121 rfl ?_
      refine hv_getN (ci := 0) (k := 7) (v := .int (h7 s0 7)) hx hb hown hKK hH cf0 (by decide) fl_X1_86 rfl k6 rfl dX1_meet_122 ?_
      refine lv_iload hx hb dX1_meet_125 (lv_at hl 0 rfl) ?_
      refine lv_isub hx hb dX1_meet_127 ?_
      refine hv_putN (ci := 0) (k := 7) hx hb hown hKK hH cf0 (by decide) fl_X1_86 rfl rfl rfl k6 rfl rfl dX1_meet_128 (fun H locs hH => ?_)
      refine lv_aload hx hb dX1_meet_131 (lv_at hl 1 rfl) ?_
      refine lv_iload hx hb dX1_meet_133 (lv_at hl 0 rfl) ?_
      obtain ⟨k8, hw⟩ := hw
      refine hv_cVV (rm := rm_X0_gain) (As := [.int ((h s0 7) / (nI 2))]) (rest := []) (k := 1) (ci := 0) hx hb hml hown hKK hH cf0 k8 (m_X0_gain v4 ((h s0 7) / (nI 2)) _ _ hw) cw_X1_121 ⟨Nat.le_of_ble_eq_true rfl, Nat.le_of_ble_eq_true rfl⟩ rfl hl.1 rfl (Nat.le_of_ble_eq_true rfl) ⟨Nat.le_of_ble_eq_true rfl, Nat.le_of_ble_eq_true rfl⟩ dX1_meet_135 (fun h9 H locs hH hw => ?_)
      exact hv_vret hx hb hr hlk hH hw dX1_meet_138
  unfold w_X1_meet at hw
  show W p l e rm_X1_meet s m args below meth c H [] 0 0 (QV G B S sz below args s Q) (F0 m 0 ls [])
  generalize ([] : List Loc) = locs at hH ⊢
  refine lv_aload_n hx hb dX1_meet_0 rfl (lv_at hl 0 rfl) ?_
  refine lv_iload_n hx hb dX1_meet_1 rfl (lv_at hl 1 rfl) ?_
  obtain ⟨k1, hw⟩ := hw
  refine hv_cVI (rm := rm_X1_leastAwakeBeside) (As := [.int v1]) (rest := []) (k := 1) (ci := 1) hx hb hml hown hKK hH cf1 k1 (m_X1_leastAwakeBeside v0 v1 _ _ hw) cw_X1_124 ⟨Nat.le_of_ble_eq_true rfl, Nat.le_of_ble_eq_true rfl⟩ rfl hl.1 rfl (Nat.le_of_ble_eq_true rfl) ⟨Nat.le_of_ble_eq_true rfl, Nat.le_of_ble_eq_true rfl⟩ dX1_meet_2 (fun r3 h2 H locs hH hw => ?_)
  refine lv_istore_n (lv' := [(2, .int r3), (0, .ref v0), (1, .int v1)]) hx hb dX1_meet_5 rfl hl (by decide) rfl (fun ls hl => ?_)
  refine lv_iload_n hx hb dX1_meet_6 rfl (lv_at hl 0 rfl) ?_
  refine lv_iconst (v := (-1)) hx hb dX1_meet_7 (by decide) ?_
  refine lv_icmp_ne (tgt := 12) hx hb dX1_meet_8 (by decide) (fun c4 => ?_) (fun c4 => ?_)
  · have hw := ite_f hw c4
    refine lv_aload_n hx hb dX1_meet_12 rfl (lv_at hl 1 rfl) ?_
    refine lv_aload_n hx hb dX1_meet_13 rfl (lv_at hl 1 rfl) ?_
    refine hv_get (ci := 1) (k := 6) (v := .int (h2 v0 6)) hx hb hown hKK hH cf1 (by decide) fl_X1_45 rfl k1 rfl dX1_meet_14 ?_
    refine lv_iconst (v := (nI 1)) hx hb dX1_meet_17 (by decide) ?_
    refine lv_iadd hx hb dX1_meet_18 ?_
    refine lv_sipush (v := (nI 9999)) hx hb dX1_meet_19 (by decide) ?_
    refine va_mmin hx hb (hml.trans hl.1.symm) hown (hKK.use ml_X1_127 rfl _) (hKK.use ml_min rfl _) (hKK.use ml_math rfl _) (hKK.use ml_min_c rfl _) (Nat.le_of_ble_eq_true rfl) (Nat.le_of_ble_eq_true rfl) (Nat.le_of_ble_eq_true rfl) (Nat.le_of_ble_eq_true rfl) dX1_meet_22 ?_
    refine hv_put (ci := 1) (k := 6) hx hb hown hKK hH cf1 (by decide) fl_X1_45 rfl rfl rfl k1 rfl rfl dX1_meet_25 (fun H locs hH => ?_)
    refine lv_aload_n hx hb dX1_meet_28 rfl (lv_at hl 1 rfl) ?_
    refine hv_get (ci := 1) (k := 3) (v := .ref (S.2 v0 3)) hx hb hown hKK hH cf1 (by decide) fl_X1_23 rfl k1 rfl dX1_meet_29 ?_
    refine lv_iload_n hx hb dX1_meet_32 rfl (lv_at hl 2 rfl) ?_
    obtain ⟨k5, hw⟩ := hw
    refine hv_aald (t := 1) hx hb (by decide) hKK hH k5 dX1_meet_33 ?_
    refine lv_astore_n (lv' := [(3, .ref (S.2 (S.2 v0 3) (ix v1))), (2, .int r3), (0, .ref v0), (1, .int v1)]) hx hb dX1_meet_34 rfl hl (by decide) rfl (fun ls hl => ?_)
    refine lv_aload_n hx hb dX1_meet_35 rfl (lv_at hl 2 rfl) ?_
    refine hv_get (ci := 1) (k := 3) (v := .ref (S.2 v0 3)) hx hb hown hKK hH cf1 (by decide) fl_X1_23 rfl k1 rfl dX1_meet_36 ?_
    refine lv_iload_n hx hb dX1_meet_39 rfl (lv_at hl 1 rfl) ?_
    obtain ⟨k6, hw⟩ := hw
    refine hv_aald (t := 1) hx hb (by decide) hKK hH k6 dX1_meet_40 ?_
    refine lv_astore (lv' := [(4, .ref (S.2 (S.2 v0 3) (ix r3))), (3, .ref (S.2 (S.2 v0 3) (ix v1))), (2, .int r3), (0, .ref v0), (1, .int v1)]) hx hb dX1_meet_41 hl (by decide) rfl (fun ls hl => ?_)
    refine lv_aload_n hx hb dX1_meet_43 rfl (lv_at hl 1 rfl) ?_
    obtain ⟨k7, hw⟩ := hw
    refine hv_cVI (rm := rm_X0_weight) (As := []) (rest := []) (k := 0) (ci := 0) hx hb hml hown hKK hH cf0 k7 (m_X0_weight (S.2 (S.2 v0 3) (ix v1)) _ _ hw) cw_X1_109 ⟨Nat.le_of_ble_eq_true rfl, Nat.le_of_ble_eq_true rfl⟩ rfl hl.1 rfl (Nat.le_of_ble_eq_true rfl) ⟨Nat.le_of_ble_eq_true rfl, Nat.le_of_ble_eq_true rfl⟩ dX1_meet_44 (fun r9 h8 H locs hH hw => ?_)
    refine lv_aload hx hb dX1_meet_47 (lv_at hl 0 rfl) ?_
    obtain ⟨k10, hw⟩ := hw
    refine hv_cVI (rm := rm_X0_weight) (As := []) (rest := [.int r9]) (k := 0) (ci := 0) hx hb hml hown hKK hH cf0 k10 (m_X0_weight (S.2 (S.2 v0 3) (ix r3)) _ _ hw) cw_X1_109 ⟨Nat.le_of_ble_eq_true rfl, Nat.le_of_ble_eq_true rfl⟩ rfl hl.1 rfl (Nat.le_of_ble_eq_true rfl) ⟨Nat.le_of_ble_eq_true rfl, Nat.le_of_ble_eq_true rfl⟩ dX1_meet_49 (fun r12 h11 H locs hH hw => ?_)
    refine lv_isub hx hb dX1_meet_52 ?_
    refine lv_istore (lv' := [(5, .int (r9 - r12)), (4, .ref (S.2 (S.2 v0 3) (ix r3))), (3, .ref (S.2 (S.2 v0 3) (ix v1))), (2, .int r3), (0, .ref v0), (1, .int v1)]) hx hb dX1_meet_53 hl (by decide) rfl (fun ls hl => ?_)
    refine lv_iload hx hb dX1_meet_55 (lv_at hl 0 rfl) ?_
    refine lv_if_ne (tgt := 68) hx hb dX1_meet_57 (by decide) (fun c13 => ?_) (fun c13 => ?_)
    · have hw := ite_f hw c13
      refine lv_iload hx hb dX1_meet_68 (lv_at hl 0 rfl) ?_
      refine lv_if_ne (tgt := 78) hx hb dX1_meet_70 (by decide) (fun _ => ?_) (fun c => absurd c c13)
      refine lv_iload hx hb dX1_meet_78 (lv_at hl 0 rfl) ?_
      refine lv_if_ge (tgt := 87) hx hb dX1_meet_80 (by decide) (fun c19 => ?_) (fun c19 => ?_)
      · have hw := ite_t hw c19
        refine lv_aload hx hb dX1_meet_87 (lv_at hl 1 rfl) ?_
        exact c89 _ _ _ _ _ H locs ls hH (lv_sub hl [2, 1, 0] rfl) hw
      · have hw := ite_f hw c19
        refine lv_aload_n hx hb dX1_meet_83 rfl (lv_at hl 2 rfl) ?_
        refine lv_goto (tgt := 89) hx hb dX1_meet_84 (by decide) ?_
        exact c89 _ _ _ _ _ H locs ls hH (lv_sub hl [2, 1, 0] rfl) hw
    · have hw := ite_t hw c13
      refine lv_aload_n hx hb dX1_meet_60 rfl (lv_at hl 2 rfl) ?_
      refine lv_aload hx hb dX1_meet_61 (lv_at hl 1 rfl) ?_
      refine hv_cVI (rm := rm_X0_nameAgainst) (As := [.ref (S.2 (S.2 v0 3) (ix r3))]) (rest := []) (k := 1) (ci := 0) hx hb hml hown hKK hH cf0 k7 (m_X0_nameAgainst (S.2 (S.2 v0 3) (ix v1)) (S.2 (S.2 v0 3) (ix r3)) _ _ hw) cw_X1_130 ⟨Nat.le_of_ble_eq_true rfl, Nat.le_of_ble_eq_true rfl⟩ rfl hl.1 rfl (Nat.le_of_ble_eq_true rfl) ⟨Nat.le_of_ble_eq_true rfl, Nat.le_of_ble_eq_true rfl⟩ dX1_meet_63 (fun r15 h14 H locs hH hw => ?_)
      refine lv_istore (lv' := [(5, .int r15), (4, .ref (S.2 (S.2 v0 3) (ix r3))), (3, .ref (S.2 (S.2 v0 3) (ix v1))), (2, .int r3), (0, .ref v0), (1, .int v1)]) hx hb dX1_meet_66 hl (by decide) rfl (fun ls hl => ?_)
      refine lv_iload hx hb dX1_meet_68 (lv_at hl 0 rfl) ?_
      refine lv_if_ne (tgt := 78) hx hb dX1_meet_70 (by decide) (fun c16 => ?_) (fun c16 => ?_)
      · have hw := ite_f hw c16
        refine lv_iload hx hb dX1_meet_78 (lv_at hl 0 rfl) ?_
        refine lv_if_ge (tgt := 87) hx hb dX1_meet_80 (by decide) (fun c18 => ?_) (fun c18 => ?_)
        · have hw := ite_t hw c18
          refine lv_aload hx hb dX1_meet_87 (lv_at hl 1 rfl) ?_
          exact c89 _ _ _ _ _ H locs ls hH (lv_sub hl [2, 1, 0] rfl) hw
        · have hw := ite_f hw c18
          refine lv_aload_n hx hb dX1_meet_83 rfl (lv_at hl 2 rfl) ?_
          refine lv_goto (tgt := 89) hx hb dX1_meet_84 (by decide) ?_
          exact c89 _ _ _ _ _ H locs ls hH (lv_sub hl [2, 1, 0] rfl) hw
      · have hw := ite_t hw c16
        refine lv_iload_n hx hb dX1_meet_73 rfl (lv_at hl 3 rfl) ?_
        refine lv_iload_n hx hb dX1_meet_74 rfl (lv_at hl 5 rfl) ?_
        refine lv_isub hx hb dX1_meet_75 ?_
        refine lv_istore (lv' := [(5, .int (r3 - v1)), (4, .ref (S.2 (S.2 v0 3) (ix r3))), (3, .ref (S.2 (S.2 v0 3) (ix v1))), (2, .int r3), (0, .ref v0), (1, .int v1)]) hx hb dX1_meet_76 hl (by decide) rfl (fun ls hl => ?_)
        refine lv_iload hx hb dX1_meet_78 (lv_at hl 0 rfl) ?_
        refine lv_if_ge (tgt := 87) hx hb dX1_meet_80 (by decide) (fun c17 => ?_) (fun c17 => ?_)
        · have hw := ite_t hw c17
          refine lv_aload hx hb dX1_meet_87 (lv_at hl 1 rfl) ?_
          exact c89 _ _ _ _ _ H locs ls hH (lv_sub hl [2, 1, 0] rfl) hw
        · have hw := ite_f hw c17
          refine lv_aload_n hx hb dX1_meet_83 rfl (lv_at hl 2 rfl) ?_
          refine lv_goto (tgt := 89) hx hb dX1_meet_84 (by decide) ?_
          exact c89 _ _ _ _ _ H locs ls hH (lv_sub hl [2, 1, 0] rfl) hw
  · have hw := ite_t hw c4
    exact hv_vret hx hb hr hlk hH hw dX1_meet_11
abbrev rm_X1_takeTurn : Room := { frames := 3, cells := 0, slots := 0, locals := 70 }
set_option maxHeartbeats 4000000 in
set_option maxRecDepth 100000 in
theorem m_X1_takeTurn {l : Launch} {G : Gl} {B sz : Nat} {S : St} (v0 : Nat) (v1 : Int32) (h : Hp) (Q : Hp → Prop) (hw : w_X1_takeTurn S v0 v1 h Q) : MV l G B sz S yX1_takeTurn cX1_takeTurn 3 rm_X1_takeTurn [.ref v0, .int v1] h Q := by
  refine met_of rfl rfl ?_
  intro p e s m args below meth c hMB H ls hH hl
  obtain ⟨hx, hb, hml, hown, hKK, hr, hlk⟩ := hMB
  replace hl : lv_has ls 3 [(0, .ref v0), (1, .int v1)] := hl
  unfold w_X1_takeTurn at hw
  show W p l e rm_X1_takeTurn s m args below meth c H [] 0 0 (QV G B S sz below args s Q) (F0 m 0 ls [])
  generalize ([] : List Loc) = locs at hH ⊢
  refine lv_aload_n hx hb dX1_takeTurn_0 rfl (lv_at hl 0 rfl) ?_
  obtain ⟨k1, hw⟩ := hw
  refine hv_get (ci := 1) (k := 3) (v := .ref (S.2 v0 3)) hx hb hown hKK hH cf1 (by decide) fl_X1_23 rfl k1 rfl dX1_takeTurn_1 ?_
  refine lv_iload_n hx hb dX1_takeTurn_4 rfl (lv_at hl 1 rfl) ?_
  obtain ⟨k2, hw⟩ := hw
  refine hv_aald (t := 1) hx hb (by decide) hKK hH k2 dX1_takeTurn_5 ?_
  refine lv_astore_n (lv' := [(2, .ref (S.2 (S.2 v0 3) (ix v1))), (0, .ref v0), (1, .int v1)]) hx hb dX1_takeTurn_6 rfl hl (by decide) rfl (fun ls hl => ?_)
  refine lv_aload_n hx hb dX1_takeTurn_7 rfl (lv_at hl 0 rfl) ?_
  refine lv_aload_n hx hb dX1_takeTurn_8 rfl (lv_at hl 0 rfl) ?_
  obtain ⟨k3, hw⟩ := hw
  refine hv_cVI (rm := rm_X0_quartersByWord) (As := []) (rest := [.ref (S.2 (S.2 v0 3) (ix v1))]) (k := 0) (ci := 0) hx hb hml hown hKK hH cf0 k3 (m_X0_quartersByWord (S.2 (S.2 v0 3) (ix v1)) _ _ hw) cw_X1_66 ⟨Nat.le_of_ble_eq_true rfl, Nat.le_of_ble_eq_true rfl⟩ rfl hl.1 rfl (Nat.le_of_ble_eq_true rfl) ⟨Nat.le_of_ble_eq_true rfl, Nat.le_of_ble_eq_true rfl⟩ dX1_takeTurn_9 (fun r5 h4 H locs hH hw => ?_)
  refine lv_aload_n hx hb dX1_takeTurn_12 rfl (lv_at hl 0 rfl) ?_
  refine lv_aload_n hx hb dX1_takeTurn_13 rfl (lv_at hl 1 rfl) ?_
  refine hv_get (ci := 1) (k := 5) (v := .int (h4 v0 5)) hx hb hown hKK hH cf1 (by decide) fl_X1_42 rfl k1 rfl dX1_takeTurn_14 ?_
  refine hv_cVI (rm := rm_X0_veers) (As := [.int (h4 v0 5)]) (rest := [.int r5, .ref (S.2 (S.2 v0 3) (ix v1))]) (k := 1) (ci := 0) hx hb hml hown hKK hH cf0 k3 (m_X0_veers (S.2 (S.2 v0 3) (ix v1)) (h4 v0 5) _ _ hw) cw_X1_70 ⟨Nat.le_of_ble_eq_true rfl, Nat.le_of_ble_eq_true rfl⟩ rfl hl.1 rfl (Nat.le_of_ble_eq_true rfl) ⟨Nat.le_of_ble_eq_true rfl, Nat.le_of_ble_eq_true rfl⟩ dX1_takeTurn_17 (fun r7 h6 H locs hH hw => ?_)
  refine lv_iadd hx hb dX1_takeTurn_20 ?_
  refine hv_cVV (rm := rm_X0_turn) (As := [.int (r5 + r7)]) (rest := []) (k := 1) (ci := 0) hx hb hml hown hKK hH cf0 k3 (m_X0_turn (S.2 (S.2 v0 3) (ix v1)) (r5 + r7) _ _ hw) cw_X1_74 ⟨Nat.le_of_ble_eq_true rfl, Nat.le_of_ble_eq_true rfl⟩ rfl hl.1 rfl (Nat.le_of_ble_eq_true rfl) ⟨Nat.le_of_ble_eq_true rfl, Nat.le_of_ble_eq_true rfl⟩ dX1_takeTurn_21 (fun h8 H locs hH hw => ?_)
  refine lv_aload_n hx hb dX1_takeTurn_24 rfl (lv_at hl 1 rfl) ?_
  refine lv_aload_n hx hb dX1_takeTurn_25 rfl (lv_at hl 0 rfl) ?_
  refine hv_cVV (rm := rm_X1_go) (As := [.ref (S.2 (S.2 v0 3) (ix v1))]) (rest := []) (k := 1) (ci := 1) hx hb hml hown hKK hH cf1 k1 (m_X1_go v0 (S.2 (S.2 v0 3) (ix v1)) _ _ hw) cw_X1_77 ⟨Nat.le_of_ble_eq_true rfl, Nat.le_of_ble_eq_true rfl⟩ rfl hl.1 rfl (Nat.le_of_ble_eq_true rfl) ⟨Nat.le_of_ble_eq_true rfl, Nat.le_of_ble_eq_true rfl⟩ dX1_takeTurn_26 (fun h9 H locs hH hw => ?_)
  refine lv_aload_n hx hb dX1_takeTurn_29 rfl (lv_at hl 1 rfl) ?_
  refine lv_aload_n hx hb dX1_takeTurn_30 rfl (lv_at hl 0 rfl) ?_
  refine hv_cVV (rm := rm_X1_gather) (As := [.ref (S.2 (S.2 v0 3) (ix v1))]) (rest := []) (k := 1) (ci := 1) hx hb hml hown hKK hH cf1 k1 (m_X1_gather v0 (S.2 (S.2 v0 3) (ix v1)) _ _ hw) cw_X1_80 ⟨Nat.le_of_ble_eq_true rfl, Nat.le_of_ble_eq_true rfl⟩ rfl hl.1 rfl (Nat.le_of_ble_eq_true rfl) ⟨Nat.le_of_ble_eq_true rfl, Nat.le_of_ble_eq_true rfl⟩ dX1_takeTurn_31 (fun h10 H locs hH hw => ?_)
  refine lv_aload_n hx hb dX1_takeTurn_34 rfl (lv_at hl 1 rfl) ?_
  refine lv_iload_n hx hb dX1_takeTurn_35 rfl (lv_at hl 2 rfl) ?_
  refine hv_cVV (rm := rm_X1_meet) (As := [.int v1]) (rest := []) (k := 1) (ci := 1) hx hb hml hown hKK hH cf1 k1 (m_X1_meet v0 v1 _ _ hw) cw_X1_83 ⟨Nat.le_of_ble_eq_true rfl, Nat.le_of_ble_eq_true rfl⟩ rfl hl.1 rfl (Nat.le_of_ble_eq_true rfl) ⟨Nat.le_of_ble_eq_true rfl, Nat.le_of_ble_eq_true rfl⟩ dX1_takeTurn_36 (fun h11 H locs hH hw => ?_)
  refine lv_aload_n hx hb dX1_takeTurn_39 rfl (lv_at hl 0 rfl) ?_
  refine hv_getN (ci := 0) (k := 7) (v := .int (h11 (S.2 (S.2 v0 3) (ix v1)) 7)) hx hb hown hKK hH cf0 (by decide) fl_X1_86 rfl k3 rfl dX1_takeTurn_40 ?_
  refine lv_aload_n hx hb dX1_takeTurn_43 rfl (lv_at hl 0 rfl) ?_
  refine hv_cVI (rm := rm_X0_enough) (As := []) (rest := [.int (h11 (S.2 (S.2 v0 3) (ix v1)) 7)]) (k := 0) (ci := 0) hx hb hml hown hKK hH cf0 k3 (m_X0_enough (S.2 (S.2 v0 3) (ix v1)) _ _ hw) cw_X1_89 ⟨Nat.le_of_ble_eq_true rfl, Nat.le_of_ble_eq_true rfl⟩ rfl hl.1 rfl (Nat.le_of_ble_eq_true rfl) ⟨Nat.le_of_ble_eq_true rfl, Nat.le_of_ble_eq_true rfl⟩ dX1_takeTurn_44 (fun r13 h12 H locs hH hw => ?_)
  refine lv_icmp_lt (tgt := 55) hx hb dX1_takeTurn_47 (by decide) (fun c14 => ?_) (fun c14 => ?_)
  · have hw := ite_t hw c14
    exact hv_vret hx hb hr hlk hH hw dX1_takeTurn_55
  · have hw := ite_f hw c14
    refine lv_aload_n hx hb dX1_takeTurn_50 rfl (lv_at hl 0 rfl) ?_
    refine lv_iconst (v := (nI 1)) hx hb dX1_takeTurn_51 (by decide) ?_
    refine hv_putN (ci := 0) (k := 8) hx hb hown hKK hH cf0 (by decide) fl_X1_92 rfl rfl rfl k3 rfl rfl dX1_takeTurn_52 (fun H locs hH => ?_)
    exact hv_vret hx hb hr hlk hH hw dX1_takeTurn_55
abbrev rm_X1_passNights : Room := { frames := 4, cells := 0, slots := 0, locals := 92 }
set_option maxHeartbeats 4000000 in
set_option maxRecDepth 100000 in
theorem m_X1_passNights {l : Launch} {G : Gl} {B sz : Nat} {S : St} (v0 : Nat) (v1 : Int32) (h : Hp) (Q : Hp → Prop) (hw : w_X1_passNights S v0 v1 h Q) : MV l G B sz S yX1_passNights cX1_passNights 4 rm_X1_passNights [.ref v0, .int v1] h Q := by
  refine met_of rfl rfl ?_
  intro p e s m args below meth c hMB H ls hH hl
  obtain ⟨hx, hb, hml, hown, hKK, hr, hlk⟩ := hMB
  replace hl : lv_has ls 4 [(0, .ref v0), (1, .int v1)] := hl
  have c19 : ∀ (v0 : Nat) (v1 : Int32) (P2 : Int32 → Hp → Prop) (_ : ∀ (v2 : Int32) (h : Hp) (H : Heap) (locs : List Loc) (ls : Array Slot), HH G B S h sz s H locs → lv_has ls 4 [(0, .ref v0), (1, .int v1), (2, .int v2)] → P2 v2 h → W p l e rm_X1_passNights s m args below meth c H locs 0 0 (QV G B S sz below args s Q) (F0 m 2 ls [])) (v2 : Int32) (v3 : Int32) (h : Hp) (H : Heap) (locs : List Loc) (ls : Array Slot), HH G B S h sz s H locs → lv_has ls 4 [(0, .ref v0), (1, .int v1), (2, .int v2), (3, .int v3)] → w_X1_passNights_c19 S v0 v1 v2 v3 h Q P2 → W p l e rm_X1_passNights s m args below meth c H locs 0 0 (QV G B S sz below args s Q) (F0 m 19 ls []) := by
    intro v0 v1 P2 hK2 v2 v3 h H locs ls hH hl hw
    unfold w_X1_passNights_c19 at hw
    obtain ⟨P19, hP19⟩ : ∃ P : Int32 → Hp → Prop, ∀ (v3 : Int32) (h : Hp), P v3 h ↔ (∀ (H : Heap) (locs : List Loc) (ls : Array Slot), HH G B S h sz s H locs → lv_has ls 4 [(0, .ref v0), (1, .int v1), (2, .int v2), (3, .int v3)] → W p l e rm_X1_passNights s m args below meth c H locs 0 0 (QV G B S sz below args s Q) (F0 m 19 ls [])) := ⟨_, fun v3 h => Iff.rfl⟩
    refine (hP19 v3 h).1 (hw P19 (fun v3 h hw => (hP19 v3 h).2 (fun H locs ls hH hl => ?_))) H locs ls hH hl
    have hK19 : ∀ (v3 : Int32) (h : Hp) (H : Heap) (locs : List Loc) (ls : Array Slot), HH G B S h sz s H locs → lv_has ls 4 [(0, .ref v0), (1, .int v1), (2, .int v2), (3, .int v3)] → P19 v3 h → W p l e rm_X1_passNights s m args below meth c H locs 0 0 (QV G B S sz below args s Q) (F0 m 19 ls []) := fun v3 h H locs ls hH hl hk => (hP19 v3 h).1 hk H locs ls hH hl
    refine lv_iload_n hx hb dX1_passNights_19 rfl (lv_at hl 3 rfl) ?_
    refine lv_aload_n hx hb dX1_passNights_20 rfl (lv_at hl 0 rfl) ?_
    obtain ⟨k1, hw⟩ := hw
    refine hv_get (ci := 1) (k := 4) (v := .int (h v0 4)) hx hb hown hKK hH cf1 (by decide) fl_X1_34 rfl k1 rfl dX1_passNights_21 ?_
    refine lv_icmp_ge (tgt := 50) hx hb dX1_passNights_24 (by decide) (fun c2 => ?_) (fun c2 => ?_)
    · have hw := ite_t hw c2
      refine lv_iinc (v := v2 + (nI 1)) (lv' := [(2, .int (v2 + (nI 1))), (0, .ref v0), (1, .int v1), (3, .int v3)]) hx hb dX1_passNights_50 hl (k := 2) rfl rfl (by decide) rfl (fun ls hl => ?_)
      refine lv_goto (tgt := 2) hx hb dX1_passNights_53 (by decide) ?_
      exact hK2 _ _ H locs ls hH (lv_sub hl [1, 2, 0] rfl) hw
    · have hw := ite_f hw c2
      refine lv_aload_n hx hb dX1_passNights_27 rfl (lv_at hl 0 rfl) ?_
      refine hv_get (ci := 1) (k := 3) (v := .ref (S.2 v0 3)) hx hb hown hKK hH cf1 (by decide) fl_X1_23 rfl k1 rfl dX1_passNights_28 ?_
      refine lv_iload_n hx hb dX1_passNights_31 rfl (lv_at hl 3 rfl) ?_
      obtain ⟨k3, hw⟩ := hw
      refine hv_aald (t := 1) hx hb (by decide) hKK hH k3 dX1_passNights_32 ?_
      obtain ⟨k4, hw⟩ := hw
      refine hv_cVI (rm := rm_X0_goes) (As := []) (rest := []) (k := 0) (ci := 0) hx hb hml hown hKK hH cf0 k4 (m_X0_goes (S.2 (S.2 v0 3) (ix v3)) _ _ hw) cw_X1_60 ⟨Nat.le_of_ble_eq_true rfl, Nat.le_of_ble_eq_true rfl⟩ rfl hl.1 rfl (Nat.le_of_ble_eq_true rfl) ⟨Nat.le_of_ble_eq_true rfl, Nat.le_of_ble_eq_true rfl⟩ dX1_passNights_33 (fun r6 h5 H locs hH hw => ?_)
      refine lv_if_eq (tgt := 44) hx hb dX1_passNights_36 (by decide) (fun c7 => ?_) (fun c7 => ?_)
      · have hw := ite_t hw c7
        refine lv_iinc (v := v3 + (nI 1)) (lv' := [(3, .int (v3 + (nI 1))), (0, .ref v0), (1, .int v1), (2, .int v2)]) hx hb dX1_passNights_44 hl (k := 3) rfl rfl (by decide) rfl (fun ls hl => ?_)
        refine lv_goto (tgt := 19) hx hb dX1_passNights_47 (by decide) ?_
        exact hK19 _ _ H locs ls hH (lv_sub hl [1, 2, 3, 0] rfl) hw
      · have hw := ite_f hw c7
        refine lv_aload_n hx hb dX1_passNights_39 rfl (lv_at hl 0 rfl) ?_
        refine lv_iload_n hx hb dX1_passNights_40 rfl (lv_at hl 3 rfl) ?_
        refine hv_cVV (rm := rm_X1_takeTurn) (As := [.int v3]) (rest := []) (k := 1) (ci := 1) hx hb hml hown hKK hH cf1 k1 (m_X1_takeTurn v0 v3 _ _ hw) cw_X1_63 ⟨Nat.le_of_ble_eq_true rfl, Nat.le_of_ble_eq_true rfl⟩ rfl hl.1 rfl (Nat.le_of_ble_eq_true rfl) ⟨Nat.le_of_ble_eq_true rfl, Nat.le_of_ble_eq_true rfl⟩ dX1_passNights_41 (fun h8 H locs hH hw => ?_)
        refine lv_iinc (v := v3 + (nI 1)) (lv' := [(3, .int (v3 + (nI 1))), (0, .ref v0), (1, .int v1), (2, .int v2)]) hx hb dX1_passNights_44 hl (k := 3) rfl rfl (by decide) rfl (fun ls hl => ?_)
        refine lv_goto (tgt := 19) hx hb dX1_passNights_47 (by decide) ?_
        exact hK19 _ _ H locs ls hH (lv_sub hl [1, 2, 3, 0] rfl) hw
  have c2 : ∀  (v0 : Nat) (v1 : Int32) (v2 : Int32) (h : Hp) (H : Heap) (locs : List Loc) (ls : Array Slot), HH G B S h sz s H locs → lv_has ls 4 [(0, .ref v0), (1, .int v1), (2, .int v2)] → w_X1_passNights_c2 S v0 v1 v2 h Q → W p l e rm_X1_passNights s m args below meth c H locs 0 0 (QV G B S sz below args s Q) (F0 m 2 ls []) := by
    intro  v0 v1 v2 h H locs ls hH hl hw
    unfold w_X1_passNights_c2 at hw
    obtain ⟨P2, hP2⟩ : ∃ P : Int32 → Hp → Prop, ∀ (v2 : Int32) (h : Hp), P v2 h ↔ (∀ (H : Heap) (locs : List Loc) (ls : Array Slot), HH G B S h sz s H locs → lv_has ls 4 [(0, .ref v0), (1, .int v1), (2, .int v2)] → W p l e rm_X1_passNights s m args below meth c H locs 0 0 (QV G B S sz below args s Q) (F0 m 2 ls [])) := ⟨_, fun v2 h => Iff.rfl⟩
    refine (hP2 v2 h).1 (hw P2 (fun v2 h hw => (hP2 v2 h).2 (fun H locs ls hH hl => ?_))) H locs ls hH hl
    have hK2 : ∀ (v2 : Int32) (h : Hp) (H : Heap) (locs : List Loc) (ls : Array Slot), HH G B S h sz s H locs → lv_has ls 4 [(0, .ref v0), (1, .int v1), (2, .int v2)] → P2 v2 h → W p l e rm_X1_passNights s m args below meth c H locs 0 0 (QV G B S sz below args s Q) (F0 m 2 ls []) := fun v2 h H locs ls hH hl hk => (hP2 v2 h).1 hk H locs ls hH hl
    refine lv_iload_n hx hb dX1_passNights_2 rfl (lv_at hl 2 rfl) ?_
    refine lv_iload_n hx hb dX1_passNights_3 rfl (lv_at hl 1 rfl) ?_
    refine lv_icmp_ge (tgt := 56) hx hb dX1_passNights_4 (by decide) (fun c1 => ?_) (fun c1 => ?_)
    · have hw := ite_t hw c1
      exact hv_vret hx hb hr hlk hH hw dX1_passNights_56
    · have hw := ite_f hw c1
      refine lv_aload_n hx hb dX1_passNights_7 rfl (lv_at hl 0 rfl) ?_
      refine lv_dup hx hb dX1_passNights_8 rfl ?_
      obtain ⟨k2, hw⟩ := hw
      refine hv_get (ci := 1) (k := 5) (v := .int (h v0 5)) hx hb hown hKK hH cf1 (by decide) fl_X1_42 rfl k2 rfl dX1_passNights_9 ?_
      refine lv_iconst (v := (nI 1)) hx hb dX1_passNights_12 (by decide) ?_
      refine lv_iadd hx hb dX1_passNights_13 ?_
      refine hv_put (ci := 1) (k := 5) hx hb hown hKK hH cf1 (by decide) fl_X1_42 rfl rfl rfl k2 rfl rfl dX1_passNights_14 (fun H locs hH => ?_)
      refine lv_iconst (v := (nI 0)) hx hb dX1_passNights_17 (by decide) ?_
      refine lv_istore_n (lv' := [(3, .int (nI 0)), (0, .ref v0), (1, .int v1), (2, .int v2)]) hx hb dX1_passNights_18 rfl hl (by decide) rfl (fun ls hl => ?_)
      exact c19 _ _ _ hK2 _ _ _ H locs ls hH (lv_sub hl [1, 2, 3, 0] rfl) hw
  unfold w_X1_passNights at hw
  show W p l e rm_X1_passNights s m args below meth c H [] 0 0 (QV G B S sz below args s Q) (F0 m 0 ls [])
  generalize ([] : List Loc) = locs at hH ⊢
  refine lv_iconst (v := (nI 0)) hx hb dX1_passNights_0 (by decide) ?_
  refine lv_istore_n (lv' := [(2, .int (nI 0)), (0, .ref v0), (1, .int v1)]) hx hb dX1_passNights_1 rfl hl (by decide) rfl (fun ls hl => ?_)
  exact c2 _ _ _ _ H locs ls hH (lv_sub hl [1, 2, 0] rfl) hw
abbrev rm_X1_rainNight : Room := { frames := 0, cells := 0, slots := 0, locals := 0 }
set_option maxHeartbeats 4000000 in
set_option maxRecDepth 100000 in
theorem m_X1_rainNight {l : Launch} {G : Gl} {B sz : Nat} {S : St} (v0 : Nat) (h : Hp) (Q : Hp → Prop) (hw : w_X1_rainNight S v0 h Q) : MV l G B sz S yX1_rainNight cX1_rainNight 1 rm_X1_rainNight [.ref v0] h Q := by
  refine met_of rfl rfl ?_
  intro p e s m args below meth c hMB H ls hH hl
  obtain ⟨hx, hb, hml, hown, hKK, hr, hlk⟩ := hMB
  replace hl : lv_has ls 1 [(0, .ref v0)] := hl
  unfold w_X1_rainNight at hw
  show W p l e rm_X1_rainNight s m args below meth c H [] 0 0 (QV G B S sz below args s Q) (F0 m 0 ls [])
  generalize ([] : List Loc) = locs at hH ⊢
  refine lv_aload_n hx hb dX1_rainNight_0 rfl (lv_at hl 0 rfl) ?_
  refine lv_dup hx hb dX1_rainNight_1 rfl ?_
  obtain ⟨k1, hw⟩ := hw
  refine hv_get (ci := 1) (k := 5) (v := .int (h v0 5)) hx hb hown hKK hH cf1 (by decide) fl_X1_42 rfl k1 rfl dX1_rainNight_2 ?_
  refine lv_iconst (v := (nI 1)) hx hb dX1_rainNight_5 (by decide) ?_
  refine lv_iadd hx hb dX1_rainNight_6 ?_
  refine hv_put (ci := 1) (k := 5) hx hb hown hKK hH cf1 (by decide) fl_X1_42 rfl rfl rfl k1 rfl rfl dX1_rainNight_7 (fun H locs hH => ?_)
  exact hv_vret hx hb hr hlk hH hw dX1_rainNight_10
abbrev rm_X1_headsOn : Room := { frames := 0, cells := 0, slots := 0, locals := 0 }
set_option maxHeartbeats 4000000 in
set_option maxRecDepth 100000 in
theorem m_X1_headsOn {l : Launch} {G : Gl} {B sz : Nat} {S : St} (v0 : Nat) (v1 : Int32) (h : Hp) (Q : Int32 → Hp → Prop) (hw : w_X1_headsOn S v0 v1 h Q) : MI l G B sz S yX1_headsOn cX1_headsOn 4 .int rm_X1_headsOn [.ref v0, .int v1] h Q := by
  refine met_of rfl rfl ?_
  intro p e s m args below meth c hMB H ls hH hl
  obtain ⟨hx, hb, hml, hown, hKK, hr, hlk⟩ := hMB
  replace hl : lv_has ls 4 [(0, .ref v0), (1, .int v1)] := hl
  have c4 : ∀  (v0 : Nat) (v1 : Int32) (v2 : Int32) (v3 : Int32) (h : Hp) (H : Heap) (locs : List Loc) (ls : Array Slot), HH G B S h sz s H locs → lv_has ls 4 [(0, .ref v0), (1, .int v1), (2, .int v2), (3, .int v3)] → w_X1_headsOn_c4 S v0 v1 v2 v3 h Q → W p l e rm_X1_headsOn s m args below meth c H locs 0 0 (QI G B S sz below args s Q) (F0 m 4 ls []) := by
    intro  v0 v1 v2 v3 h H locs ls hH hl hw
    unfold w_X1_headsOn_c4 at hw
    obtain ⟨P4, hP4⟩ : ∃ P : Int32 → Int32 → Hp → Prop, ∀ (v2 : Int32) (v3 : Int32) (h : Hp), P v2 v3 h ↔ (∀ (H : Heap) (locs : List Loc) (ls : Array Slot), HH G B S h sz s H locs → lv_has ls 4 [(0, .ref v0), (1, .int v1), (2, .int v2), (3, .int v3)] → W p l e rm_X1_headsOn s m args below meth c H locs 0 0 (QI G B S sz below args s Q) (F0 m 4 ls [])) := ⟨_, fun v2 v3 h => Iff.rfl⟩
    refine (hP4 v2 v3 h).1 (hw P4 (fun v2 v3 h hw => (hP4 v2 v3 h).2 (fun H locs ls hH hl => ?_))) H locs ls hH hl
    have hK4 : ∀ (v2 : Int32) (v3 : Int32) (h : Hp) (H : Heap) (locs : List Loc) (ls : Array Slot), HH G B S h sz s H locs → lv_has ls 4 [(0, .ref v0), (1, .int v1), (2, .int v2), (3, .int v3)] → P4 v2 v3 h → W p l e rm_X1_headsOn s m args below meth c H locs 0 0 (QI G B S sz below args s Q) (F0 m 4 ls []) := fun v2 v3 h H locs ls hH hl hk => (hP4 v2 v3 h).1 hk H locs ls hH hl
    refine lv_iload_n hx hb dX1_headsOn_4 rfl (lv_at hl 3 rfl) ?_
    refine lv_aload_n hx hb dX1_headsOn_5 rfl (lv_at hl 0 rfl) ?_
    obtain ⟨k1, hw⟩ := hw
    refine hv_get (ci := 1) (k := 4) (v := .int (h v0 4)) hx hb hown hKK hH cf1 (by decide) fl_X1_34 rfl k1 rfl dX1_headsOn_6 ?_
    refine lv_icmp_ge (tgt := 37) hx hb dX1_headsOn_9 (by decide) (fun c2 => ?_) (fun c2 => ?_)
    · have hw := ite_t hw c2
      refine lv_iload_n hx hb dX1_headsOn_37 rfl (lv_at hl 2 rfl) ?_
      exact hv_iret hx hb hr hlk hH hw dX1_headsOn_38
    · have hw := ite_f hw c2
      refine lv_aload_n hx hb dX1_headsOn_12 rfl (lv_at hl 0 rfl) ?_
      refine hv_get (ci := 1) (k := 3) (v := .ref (S.2 v0 3)) hx hb hown hKK hH cf1 (by decide) fl_X1_23 rfl k1 rfl dX1_headsOn_13 ?_
      refine lv_iload_n hx hb dX1_headsOn_16 rfl (lv_at hl 3 rfl) ?_
      obtain ⟨k3, hw⟩ := hw
      refine hv_aald (t := 1) hx hb (by decide) hKK hH k3 dX1_headsOn_17 ?_
      obtain ⟨k4, hw⟩ := hw
      refine hv_getN (ci := 0) (k := 4) (v := .int (h (S.2 (S.2 v0 3) (ix v3)) 4)) hx hb hown hKK hH cf0 (by decide) fl_X1_99 rfl k4 rfl dX1_headsOn_18 ?_
      refine lv_iload_n hx hb dX1_headsOn_21 rfl (lv_at hl 1 rfl) ?_
      refine lv_icmp_ne (tgt := 31) hx hb dX1_headsOn_22 (by decide) (fun c5 => ?_) (fun c5 => ?_)
      · have hw := ite_f hw c5
        refine lv_iinc (v := v3 + (nI 1)) (lv' := [(3, .int (v3 + (nI 1))), (0, .ref v0), (1, .int v1), (2, .int v2)]) hx hb dX1_headsOn_31 hl (k := 3) rfl rfl (by decide) rfl (fun ls hl => ?_)
        refine lv_goto (tgt := 4) hx hb dX1_headsOn_34 (by decide) ?_
        exact hK4 _ _ _ H locs ls hH (lv_sub hl [1, 2, 3, 0] rfl) hw
      · have hw := ite_t hw c5
        refine lv_iload_n hx hb dX1_headsOn_25 rfl (lv_at hl 2 rfl) ?_
        refine lv_iconst (v := (nI 1)) hx hb dX1_headsOn_26 (by decide) ?_
        refine lv_iload_n hx hb dX1_headsOn_27 rfl (lv_at hl 3 rfl) ?_
        refine lv_ishl hx hb dX1_headsOn_28 ?_
        refine lv_ior hx hb dX1_headsOn_29 ?_
        refine lv_istore_n (lv' := [(2, .int (v2 ||| (ishl (nI 1) v3))), (0, .ref v0), (1, .int v1), (3, .int v3)]) hx hb dX1_headsOn_30 rfl hl (by decide) rfl (fun ls hl => ?_)
        refine lv_iinc (v := v3 + (nI 1)) (lv' := [(3, .int (v3 + (nI 1))), (2, .int (v2 ||| (ishl (nI 1) v3))), (0, .ref v0), (1, .int v1)]) hx hb dX1_headsOn_31 hl (k := 3) rfl rfl (by decide) rfl (fun ls hl => ?_)
        refine lv_goto (tgt := 4) hx hb dX1_headsOn_34 (by decide) ?_
        exact hK4 _ _ _ H locs ls hH (lv_sub hl [2, 3, 1, 0] rfl) hw
  unfold w_X1_headsOn at hw
  show W p l e rm_X1_headsOn s m args below meth c H [] 0 0 (QI G B S sz below args s Q) (F0 m 0 ls [])
  generalize ([] : List Loc) = locs at hH ⊢
  refine lv_iconst (v := (nI 0)) hx hb dX1_headsOn_0 (by decide) ?_
  refine lv_istore_n (lv' := [(2, .int (nI 0)), (0, .ref v0), (1, .int v1)]) hx hb dX1_headsOn_1 rfl hl (by decide) rfl (fun ls hl => ?_)
  refine lv_iconst (v := (nI 0)) hx hb dX1_headsOn_2 (by decide) ?_
  refine lv_istore_n (lv' := [(3, .int (nI 0)), (2, .int (nI 0)), (0, .ref v0), (1, .int v1)]) hx hb dX1_headsOn_3 rfl hl (by decide) rfl (fun ls hl => ?_)
  exact c4 _ _ _ _ _ H locs ls hH (lv_sub hl [2, 3, 1, 0] rfl) hw
abbrev rm_X1_settledBits : Room := { frames := 0, cells := 0, slots := 0, locals := 0 }
set_option maxHeartbeats 4000000 in
set_option maxRecDepth 100000 in
theorem m_X1_settledBits {l : Launch} {G : Gl} {B sz : Nat} {S : St} (v0 : Nat) (h : Hp) (Q : Int32 → Hp → Prop) (hw : w_X1_settledBits S v0 h Q) : MI l G B sz S yX1_settledBits cX1_settledBits 3 .int rm_X1_settledBits [.ref v0] h Q := by
  refine met_of rfl rfl ?_
  intro p e s m args below meth c hMB H ls hH hl
  obtain ⟨hx, hb, hml, hown, hKK, hr, hlk⟩ := hMB
  replace hl : lv_has ls 3 [(0, .ref v0)] := hl
  have c4 : ∀  (v0 : Nat) (v1 : Int32) (v2 : Int32) (h : Hp) (H : Heap) (locs : List Loc) (ls : Array Slot), HH G B S h sz s H locs → lv_has ls 3 [(0, .ref v0), (1, .int v1), (2, .int v2)] → w_X1_settledBits_c4 S v0 v1 v2 h Q → W p l e rm_X1_settledBits s m args below meth c H locs 0 0 (QI G B S sz below args s Q) (F0 m 4 ls []) := by
    intro  v0 v1 v2 h H locs ls hH hl hw
    unfold w_X1_settledBits_c4 at hw
    obtain ⟨P4, hP4⟩ : ∃ P : Int32 → Int32 → Hp → Prop, ∀ (v1 : Int32) (v2 : Int32) (h : Hp), P v1 v2 h ↔ (∀ (H : Heap) (locs : List Loc) (ls : Array Slot), HH G B S h sz s H locs → lv_has ls 3 [(0, .ref v0), (1, .int v1), (2, .int v2)] → W p l e rm_X1_settledBits s m args below meth c H locs 0 0 (QI G B S sz below args s Q) (F0 m 4 ls [])) := ⟨_, fun v1 v2 h => Iff.rfl⟩
    refine (hP4 v1 v2 h).1 (hw P4 (fun v1 v2 h hw => (hP4 v1 v2 h).2 (fun H locs ls hH hl => ?_))) H locs ls hH hl
    have hK4 : ∀ (v1 : Int32) (v2 : Int32) (h : Hp) (H : Heap) (locs : List Loc) (ls : Array Slot), HH G B S h sz s H locs → lv_has ls 3 [(0, .ref v0), (1, .int v1), (2, .int v2)] → P4 v1 v2 h → W p l e rm_X1_settledBits s m args below meth c H locs 0 0 (QI G B S sz below args s Q) (F0 m 4 ls []) := fun v1 v2 h H locs ls hH hl hk => (hP4 v1 v2 h).1 hk H locs ls hH hl
    refine lv_iload_n hx hb dX1_settledBits_4 rfl (lv_at hl 2 rfl) ?_
    refine lv_aload_n hx hb dX1_settledBits_5 rfl (lv_at hl 0 rfl) ?_
    obtain ⟨k1, hw⟩ := hw
    refine hv_get (ci := 1) (k := 4) (v := .int (h v0 4)) hx hb hown hKK hH cf1 (by decide) fl_X1_34 rfl k1 rfl dX1_settledBits_6 ?_
    refine lv_icmp_ge (tgt := 36) hx hb dX1_settledBits_9 (by decide) (fun c2 => ?_) (fun c2 => ?_)
    · have hw := ite_t hw c2
      refine lv_iload_n hx hb dX1_settledBits_36 rfl (lv_at hl 1 rfl) ?_
      exact hv_iret hx hb hr hlk hH hw dX1_settledBits_37
    · have hw := ite_f hw c2
      refine lv_aload_n hx hb dX1_settledBits_12 rfl (lv_at hl 0 rfl) ?_
      refine hv_get (ci := 1) (k := 3) (v := .ref (S.2 v0 3)) hx hb hown hKK hH cf1 (by decide) fl_X1_23 rfl k1 rfl dX1_settledBits_13 ?_
      refine lv_iload_n hx hb dX1_settledBits_16 rfl (lv_at hl 2 rfl) ?_
      obtain ⟨k3, hw⟩ := hw
      refine hv_aald (t := 1) hx hb (by decide) hKK hH k3 dX1_settledBits_17 ?_
      obtain ⟨k4, hw⟩ := hw
      refine hv_getN (ci := 0) (k := 8) (v := .int (h (S.2 (S.2 v0 3) (ix v2)) 8)) hx hb hown hKK hH cf0 (by decide) fl_X1_92 rfl k4 rfl dX1_settledBits_18 ?_
      refine lv_if_eq (tgt := 30) hx hb dX1_settledBits_21 (by decide) (fun c5 => ?_) (fun c5 => ?_)
      · have hw := ite_t hw c5
        refine lv_iinc (v := v2 + (nI 1)) (lv' := [(2, .int (v2 + (nI 1))), (0, .ref v0), (1, .int v1)]) hx hb dX1_settledBits_30 hl (k := 2) rfl rfl (by decide) rfl (fun ls hl => ?_)
        refine lv_goto (tgt := 4) hx hb dX1_settledBits_33 (by decide) ?_
        exact hK4 _ _ _ H locs ls hH (lv_sub hl [1, 2, 0] rfl) hw
      · have hw := ite_f hw c5
        refine lv_iload_n hx hb dX1_settledBits_24 rfl (lv_at hl 1 rfl) ?_
        refine lv_iconst (v := (nI 1)) hx hb dX1_settledBits_25 (by decide) ?_
        refine lv_iload_n hx hb dX1_settledBits_26 rfl (lv_at hl 2 rfl) ?_
        refine lv_ishl hx hb dX1_settledBits_27 ?_
        refine lv_ior hx hb dX1_settledBits_28 ?_
        refine lv_istore_n (lv' := [(1, .int (v1 ||| (ishl (nI 1) v2))), (0, .ref v0), (2, .int v2)]) hx hb dX1_settledBits_29 rfl hl (by decide) rfl (fun ls hl => ?_)
        refine lv_iinc (v := v2 + (nI 1)) (lv' := [(2, .int (v2 + (nI 1))), (1, .int (v1 ||| (ishl (nI 1) v2))), (0, .ref v0)]) hx hb dX1_settledBits_30 hl (k := 2) rfl rfl (by decide) rfl (fun ls hl => ?_)
        refine lv_goto (tgt := 4) hx hb dX1_settledBits_33 (by decide) ?_
        exact hK4 _ _ _ H locs ls hH (lv_sub hl [2, 1, 0] rfl) hw
  unfold w_X1_settledBits at hw
  show W p l e rm_X1_settledBits s m args below meth c H [] 0 0 (QI G B S sz below args s Q) (F0 m 0 ls [])
  generalize ([] : List Loc) = locs at hH ⊢
  refine lv_iconst (v := (nI 0)) hx hb dX1_settledBits_0 (by decide) ?_
  refine lv_istore_n (lv' := [(1, .int (nI 0)), (0, .ref v0)]) hx hb dX1_settledBits_1 rfl hl (by decide) rfl (fun ls hl => ?_)
  refine lv_iconst (v := (nI 0)) hx hb dX1_settledBits_2 (by decide) ?_
  refine lv_istore_n (lv' := [(2, .int (nI 0)), (1, .int (nI 0)), (0, .ref v0)]) hx hb dX1_settledBits_3 rfl hl (by decide) rfl (fun ls hl => ?_)
  exact c4 _ _ _ _ H locs ls hH (lv_sub hl [2, 1, 0] rfl) hw
abbrev rm_X1_followersOf : Room := { frames := 0, cells := 0, slots := 0, locals := 0 }
set_option maxHeartbeats 4000000 in
set_option maxRecDepth 100000 in
theorem m_X1_followersOf {l : Launch} {G : Gl} {B sz : Nat} {S : St} (v0 : Nat) (v1 : Int32) (h : Hp) (Q : Int32 → Hp → Prop) (hw : w_X1_followersOf S v0 v1 h Q) : MI l G B sz S yX1_followersOf cX1_followersOf 4 .int rm_X1_followersOf [.ref v0, .int v1] h Q := by
  refine met_of rfl rfl ?_
  intro p e s m args below meth c hMB H ls hH hl
  obtain ⟨hx, hb, hml, hown, hKK, hr, hlk⟩ := hMB
  replace hl : lv_has ls 4 [(0, .ref v0), (1, .int v1)] := hl
  have c4 : ∀  (v0 : Nat) (v1 : Int32) (v2 : Int32) (v3 : Int32) (h : Hp) (H : Heap) (locs : List Loc) (ls : Array Slot), HH G B S h sz s H locs → lv_has ls 4 [(0, .ref v0), (1, .int v1), (2, .int v2), (3, .int v3)] → w_X1_followersOf_c4 S v0 v1 v2 v3 h Q → W p l e rm_X1_followersOf s m args below meth c H locs 0 0 (QI G B S sz below args s Q) (F0 m 4 ls []) := by
    intro  v0 v1 v2 v3 h H locs ls hH hl hw
    unfold w_X1_followersOf_c4 at hw
    obtain ⟨P4, hP4⟩ : ∃ P : Int32 → Int32 → Hp → Prop, ∀ (v2 : Int32) (v3 : Int32) (h : Hp), P v2 v3 h ↔ (∀ (H : Heap) (locs : List Loc) (ls : Array Slot), HH G B S h sz s H locs → lv_has ls 4 [(0, .ref v0), (1, .int v1), (2, .int v2), (3, .int v3)] → W p l e rm_X1_followersOf s m args below meth c H locs 0 0 (QI G B S sz below args s Q) (F0 m 4 ls [])) := ⟨_, fun v2 v3 h => Iff.rfl⟩
    refine (hP4 v2 v3 h).1 (hw P4 (fun v2 v3 h hw => (hP4 v2 v3 h).2 (fun H locs ls hH hl => ?_))) H locs ls hH hl
    have hK4 : ∀ (v2 : Int32) (v3 : Int32) (h : Hp) (H : Heap) (locs : List Loc) (ls : Array Slot), HH G B S h sz s H locs → lv_has ls 4 [(0, .ref v0), (1, .int v1), (2, .int v2), (3, .int v3)] → P4 v2 v3 h → W p l e rm_X1_followersOf s m args below meth c H locs 0 0 (QI G B S sz below args s Q) (F0 m 4 ls []) := fun v2 v3 h H locs ls hH hl hk => (hP4 v2 v3 h).1 hk H locs ls hH hl
    refine lv_iload_n hx hb dX1_followersOf_4 rfl (lv_at hl 3 rfl) ?_
    refine lv_aload_n hx hb dX1_followersOf_5 rfl (lv_at hl 0 rfl) ?_
    obtain ⟨k1, hw⟩ := hw
    refine hv_get (ci := 1) (k := 4) (v := .int (h v0 4)) hx hb hown hKK hH cf1 (by decide) fl_X1_34 rfl k1 rfl dX1_followersOf_6 ?_
    refine lv_icmp_ge (tgt := 39) hx hb dX1_followersOf_9 (by decide) (fun c2 => ?_) (fun c2 => ?_)
    · have hw := ite_t hw c2
      refine lv_iload_n hx hb dX1_followersOf_39 rfl (lv_at hl 2 rfl) ?_
      exact hv_iret hx hb hr hlk hH hw dX1_followersOf_40
    · have hw := ite_f hw c2
      refine lv_iload_n hx hb dX1_followersOf_12 rfl (lv_at hl 1 rfl) ?_
      refine lv_iload_n hx hb dX1_followersOf_13 rfl (lv_at hl 3 rfl) ?_
      refine lv_ishr hx hb dX1_followersOf_14 ?_
      refine lv_iconst (v := (nI 1)) hx hb dX1_followersOf_15 (by decide) ?_
      refine lv_iand hx hb dX1_followersOf_16 ?_
      refine lv_iconst (v := (nI 1)) hx hb dX1_followersOf_17 (by decide) ?_
      refine lv_icmp_ne (tgt := 33) hx hb dX1_followersOf_18 (by decide) (fun c3 => ?_) (fun c3 => ?_)
      · have hw := ite_f hw c3
        refine lv_iinc (v := v3 + (nI 1)) (lv' := [(3, .int (v3 + (nI 1))), (0, .ref v0), (1, .int v1), (2, .int v2)]) hx hb dX1_followersOf_33 hl (k := 3) rfl rfl (by decide) rfl (fun ls hl => ?_)
        refine lv_goto (tgt := 4) hx hb dX1_followersOf_36 (by decide) ?_
        exact hK4 _ _ _ H locs ls hH (lv_sub hl [1, 2, 3, 0] rfl) hw
      · have hw := ite_t hw c3
        refine lv_iload_n hx hb dX1_followersOf_21 rfl (lv_at hl 2 rfl) ?_
        refine lv_aload_n hx hb dX1_followersOf_22 rfl (lv_at hl 0 rfl) ?_
        refine hv_get (ci := 1) (k := 3) (v := .ref (S.2 v0 3)) hx hb hown hKK hH cf1 (by decide) fl_X1_23 rfl k1 rfl dX1_followersOf_23 ?_
        refine lv_iload_n hx hb dX1_followersOf_26 rfl (lv_at hl 3 rfl) ?_
        obtain ⟨k4, hw⟩ := hw
        refine hv_aald (t := 1) hx hb (by decide) hKK hH k4 dX1_followersOf_27 ?_
        obtain ⟨k5, hw⟩ := hw
        refine hv_getN (ci := 0) (k := 7) (v := .int (h (S.2 (S.2 v0 3) (ix v3)) 7)) hx hb hown hKK hH cf0 (by decide) fl_X1_86 rfl k5 rfl dX1_followersOf_28 ?_
        refine lv_iadd hx hb dX1_followersOf_31 ?_
        refine lv_istore_n (lv' := [(2, .int (v2 + (h (S.2 (S.2 v0 3) (ix v3)) 7))), (0, .ref v0), (1, .int v1), (3, .int v3)]) hx hb dX1_followersOf_32 rfl hl (by decide) rfl (fun ls hl => ?_)
        refine lv_iinc (v := v3 + (nI 1)) (lv' := [(3, .int (v3 + (nI 1))), (2, .int (v2 + (h (S.2 (S.2 v0 3) (ix v3)) 7))), (0, .ref v0), (1, .int v1)]) hx hb dX1_followersOf_33 hl (k := 3) rfl rfl (by decide) rfl (fun ls hl => ?_)
        refine lv_goto (tgt := 4) hx hb dX1_followersOf_36 (by decide) ?_
        exact hK4 _ _ _ H locs ls hH (lv_sub hl [2, 3, 1, 0] rfl) hw
  unfold w_X1_followersOf at hw
  show W p l e rm_X1_followersOf s m args below meth c H [] 0 0 (QI G B S sz below args s Q) (F0 m 0 ls [])
  generalize ([] : List Loc) = locs at hH ⊢
  refine lv_iconst (v := (nI 0)) hx hb dX1_followersOf_0 (by decide) ?_
  refine lv_istore_n (lv' := [(2, .int (nI 0)), (0, .ref v0), (1, .int v1)]) hx hb dX1_followersOf_1 rfl hl (by decide) rfl (fun ls hl => ?_)
  refine lv_iconst (v := (nI 0)) hx hb dX1_followersOf_2 (by decide) ?_
  refine lv_istore_n (lv' := [(3, .int (nI 0)), (2, .int (nI 0)), (0, .ref v0), (1, .int v1)]) hx hb dX1_followersOf_3 rfl hl (by decide) rfl (fun ls hl => ?_)
  exact c4 _ _ _ _ _ H locs ls hH (lv_sub hl [2, 3, 1, 0] rfl) hw
abbrev rm_X1_allFollowers : Room := { frames := 1, cells := 0, slots := 0, locals := 23 }
set_option maxHeartbeats 4000000 in
set_option maxRecDepth 100000 in
theorem m_X1_allFollowers {l : Launch} {G : Gl} {B sz : Nat} {S : St} (v0 : Nat) (h : Hp) (Q : Int32 → Hp → Prop) (hw : w_X1_allFollowers S v0 h Q) : MI l G B sz S yX1_allFollowers cX1_allFollowers 1 .int rm_X1_allFollowers [.ref v0] h Q := by
  refine met_of rfl rfl ?_
  intro p e s m args below meth c hMB H ls hH hl
  obtain ⟨hx, hb, hml, hown, hKK, hr, hlk⟩ := hMB
  replace hl : lv_has ls 1 [(0, .ref v0)] := hl
  unfold w_X1_allFollowers at hw
  show W p l e rm_X1_allFollowers s m args below meth c H [] 0 0 (QI G B S sz below args s Q) (F0 m 0 ls [])
  generalize ([] : List Loc) = locs at hH ⊢
  refine lv_aload_n hx hb dX1_allFollowers_0 rfl (lv_at hl 0 rfl) ?_
  refine lv_iconst (v := (nI 1)) hx hb dX1_allFollowers_1 (by decide) ?_
  refine lv_aload_n hx hb dX1_allFollowers_2 rfl (lv_at hl 0 rfl) ?_
  obtain ⟨k1, hw⟩ := hw
  refine hv_get (ci := 1) (k := 4) (v := .int (h v0 4)) hx hb hown hKK hH cf1 (by decide) fl_X1_34 rfl k1 rfl dX1_allFollowers_3 ?_
  refine lv_ishl hx hb dX1_allFollowers_6 ?_
  refine lv_iconst (v := (nI 1)) hx hb dX1_allFollowers_7 (by decide) ?_
  refine lv_isub hx hb dX1_allFollowers_8 ?_
  refine hv_cVI (rm := rm_X1_followersOf) (As := [.int ((ishl (nI 1) (h v0 4)) - (nI 1))]) (rest := []) (k := 1) (ci := 1) hx hb hml hown hKK hH cf1 k1 (m_X1_followersOf v0 ((ishl (nI 1) (h v0 4)) - (nI 1)) _ _ hw) cw_X1_134 ⟨Nat.le_of_ble_eq_true rfl, Nat.le_of_ble_eq_true rfl⟩ rfl hl.1 rfl (Nat.le_of_ble_eq_true rfl) ⟨Nat.le_of_ble_eq_true rfl, Nat.le_of_ble_eq_true rfl⟩ dX1_allFollowers_9 (fun r3 h2 H locs hH hw => ?_)
  exact hv_iret hx hb hr hlk hH hw dX1_allFollowers_12
abbrev rm_X1_sumOf : Room := { frames := 0, cells := 0, slots := 0, locals := 0 }
set_option maxHeartbeats 4000000 in
set_option maxRecDepth 100000 in
theorem m_X1_sumOf {l : Launch} {G : Gl} {B sz : Nat} {S : St} (v0 : Nat) (h : Hp) (Q : Int32 → Hp → Prop) (hw : w_X1_sumOf S v0 h Q) : MI l G B sz S yX1_sumOf cX1_sumOf 3 .int rm_X1_sumOf [.ref v0] h Q := by
  refine met_of rfl rfl ?_
  intro p e s m args below meth c hMB H ls hH hl
  obtain ⟨hx, hb, hml, hown, hKK, hr, hlk⟩ := hMB
  replace hl : lv_has ls 3 [(0, .ref v0)] := hl
  have c4 : ∀  (v0 : Nat) (v1 : Int32) (v2 : Int32) (h : Hp) (H : Heap) (locs : List Loc) (ls : Array Slot), HH G B S h sz s H locs → lv_has ls 3 [(0, .ref v0), (1, .int v1), (2, .int v2)] → w_X1_sumOf_c4 S v0 v1 v2 h Q → W p l e rm_X1_sumOf s m args below meth c H locs 0 0 (QI G B S sz below args s Q) (F0 m 4 ls []) := by
    intro  v0 v1 v2 h H locs ls hH hl hw
    unfold w_X1_sumOf_c4 at hw
    obtain ⟨P4, hP4⟩ : ∃ P : Int32 → Int32 → Hp → Prop, ∀ (v1 : Int32) (v2 : Int32) (h : Hp), P v1 v2 h ↔ (∀ (H : Heap) (locs : List Loc) (ls : Array Slot), HH G B S h sz s H locs → lv_has ls 3 [(0, .ref v0), (1, .int v1), (2, .int v2)] → W p l e rm_X1_sumOf s m args below meth c H locs 0 0 (QI G B S sz below args s Q) (F0 m 4 ls [])) := ⟨_, fun v1 v2 h => Iff.rfl⟩
    refine (hP4 v1 v2 h).1 (hw P4 (fun v1 v2 h hw => (hP4 v1 v2 h).2 (fun H locs ls hH hl => ?_))) H locs ls hH hl
    have hK4 : ∀ (v1 : Int32) (v2 : Int32) (h : Hp) (H : Heap) (locs : List Loc) (ls : Array Slot), HH G B S h sz s H locs → lv_has ls 3 [(0, .ref v0), (1, .int v1), (2, .int v2)] → P4 v1 v2 h → W p l e rm_X1_sumOf s m args below meth c H locs 0 0 (QI G B S sz below args s Q) (F0 m 4 ls []) := fun v1 v2 h H locs ls hH hl hk => (hP4 v1 v2 h).1 hk H locs ls hH hl
    refine lv_iload_n hx hb dX1_sumOf_4 rfl (lv_at hl 2 rfl) ?_
    refine lv_aload_n hx hb dX1_sumOf_5 rfl (lv_at hl 0 rfl) ?_
    obtain ⟨n1, k2, hw⟩ := hw
    refine hv_alen hx hb hKK hH k2 dX1_sumOf_6 ?_
    refine lv_icmp_ge (tgt := 22) hx hb dX1_sumOf_7 (by decide) (fun c3 => ?_) (fun c3 => ?_)
    · have hw := ite_t hw c3
      refine lv_iload_n hx hb dX1_sumOf_22 rfl (lv_at hl 1 rfl) ?_
      exact hv_iret hx hb hr hlk hH hw dX1_sumOf_23
    · have hw := ite_f hw c3
      refine lv_iload_n hx hb dX1_sumOf_10 rfl (lv_at hl 1 rfl) ?_
      refine lv_aload_n hx hb dX1_sumOf_11 rfl (lv_at hl 0 rfl) ?_
      refine lv_iload_n hx hb dX1_sumOf_12 rfl (lv_at hl 2 rfl) ?_
      obtain ⟨k4, hw⟩ := hw
      refine hv_iald hx hb hKK hH k4 dX1_sumOf_13 ?_
      refine lv_iadd hx hb dX1_sumOf_14 ?_
      refine lv_istore_n (lv' := [(1, .int (v1 + (h v0 (ix v2)))), (0, .ref v0), (2, .int v2)]) hx hb dX1_sumOf_15 rfl hl (by decide) rfl (fun ls hl => ?_)
      refine lv_iinc (v := v2 + (nI 1)) (lv' := [(2, .int (v2 + (nI 1))), (1, .int (v1 + (h v0 (ix v2)))), (0, .ref v0)]) hx hb dX1_sumOf_16 hl (k := 2) rfl rfl (by decide) rfl (fun ls hl => ?_)
      refine lv_goto (tgt := 4) hx hb dX1_sumOf_19 (by decide) ?_
      exact hK4 _ _ _ H locs ls hH (lv_sub hl [2, 1, 0] rfl) hw
  unfold w_X1_sumOf at hw
  show W p l e rm_X1_sumOf s m args below meth c H [] 0 0 (QI G B S sz below args s Q) (F0 m 0 ls [])
  generalize ([] : List Loc) = locs at hH ⊢
  refine lv_iconst (v := (nI 0)) hx hb dX1_sumOf_0 (by decide) ?_
  refine lv_istore_n (lv' := [(1, .int (nI 0)), (0, .ref v0)]) hx hb dX1_sumOf_1 rfl hl (by decide) rfl (fun ls hl => ?_)
  refine lv_iconst (v := (nI 0)) hx hb dX1_sumOf_2 (by decide) ?_
  refine lv_istore_n (lv' := [(2, .int (nI 0)), (1, .int (nI 0)), (0, .ref v0)]) hx hb dX1_sumOf_3 rfl hl (by decide) rfl (fun ls hl => ?_)
  exact c4 _ _ _ _ H locs ls hH (lv_sub hl [2, 1, 0] rfl) hw
abbrev rm_X1_allPeople : Room := { frames := 1, cells := 0, slots := 0, locals := 22 }
set_option maxHeartbeats 4000000 in
set_option maxRecDepth 100000 in
theorem m_X1_allPeople {l : Launch} {G : Gl} {B sz : Nat} {S : St} (v0 : Nat) (h : Hp) (Q : Int32 → Hp → Prop) (hw : w_X1_allPeople S v0 h Q) : MI l G B sz S yX1_allPeople cX1_allPeople 1 .int rm_X1_allPeople [.ref v0] h Q := by
  refine met_of rfl rfl ?_
  intro p e s m args below meth c hMB H ls hH hl
  obtain ⟨hx, hb, hml, hown, hKK, hr, hlk⟩ := hMB
  replace hl : lv_has ls 1 [(0, .ref v0)] := hl
  unfold w_X1_allPeople at hw
  show W p l e rm_X1_allPeople s m args below meth c H [] 0 0 (QI G B S sz below args s Q) (F0 m 0 ls [])
  generalize ([] : List Loc) = locs at hH ⊢
  refine lv_aload_n hx hb dX1_allPeople_0 rfl (lv_at hl 0 rfl) ?_
  obtain ⟨k1, hw⟩ := hw
  refine hv_get (ci := 1) (k := 1) (v := .ref (S.2 v0 1)) hx hb hown hKK hH cf1 (by decide) fl_X1_15 rfl k1 rfl dX1_allPeople_1 ?_
  refine hv_cSI (rm := rm_X1_sumOf) (As := [.ref (S.2 v0 1)]) (rest := []) (k := 1) hx hb hml hown hKK hH (m_X1_sumOf (S.2 v0 1) _ _ hw) cw_X1_137 ⟨Nat.le_of_ble_eq_true rfl, Nat.le_of_ble_eq_true rfl⟩ rfl hl.1 rfl (Nat.le_of_ble_eq_true rfl) ⟨Nat.le_of_ble_eq_true rfl, Nat.le_of_ble_eq_true rfl⟩ dX1_allPeople_4 (fun r3 h2 H locs hH hw => ?_)
  exact hv_iret hx hb hr hlk hH hw dX1_allPeople_7
abbrev rm_X1_allWalls : Room := { frames := 1, cells := 0, slots := 0, locals := 22 }
set_option maxHeartbeats 4000000 in
set_option maxRecDepth 100000 in
theorem m_X1_allWalls {l : Launch} {G : Gl} {B sz : Nat} {S : St} (v0 : Nat) (h : Hp) (Q : Int32 → Hp → Prop) (hw : w_X1_allWalls S v0 h Q) : MI l G B sz S yX1_allWalls cX1_allWalls 1 .int rm_X1_allWalls [.ref v0] h Q := by
  refine met_of rfl rfl ?_
  intro p e s m args below meth c hMB H ls hH hl
  obtain ⟨hx, hb, hml, hown, hKK, hr, hlk⟩ := hMB
  replace hl : lv_has ls 1 [(0, .ref v0)] := hl
  unfold w_X1_allWalls at hw
  show W p l e rm_X1_allWalls s m args below meth c H [] 0 0 (QI G B S sz below args s Q) (F0 m 0 ls [])
  generalize ([] : List Loc) = locs at hH ⊢
  refine lv_aload_n hx hb dX1_allWalls_0 rfl (lv_at hl 0 rfl) ?_
  obtain ⟨k1, hw⟩ := hw
  refine hv_get (ci := 1) (k := 0) (v := .ref (S.2 v0 0)) hx hb hown hKK hH cf1 (by decide) fl_X1_9 rfl k1 rfl dX1_allWalls_1 ?_
  refine hv_cSI (rm := rm_X1_sumOf) (As := [.ref (S.2 v0 0)]) (rest := []) (k := 1) hx hb hml hown hKK hH (m_X1_sumOf (S.2 v0 0) _ _ hw) cw_X1_137 ⟨Nat.le_of_ble_eq_true rfl, Nat.le_of_ble_eq_true rfl⟩ rfl hl.1 rfl (Nat.le_of_ble_eq_true rfl) ⟨Nat.le_of_ble_eq_true rfl, Nat.le_of_ble_eq_true rfl⟩ dX1_allWalls_4 (fun r3 h2 H locs hH hw => ?_)
  exact hv_iret hx hb hr hlk hH hw dX1_allWalls_7
abbrev rm_X1_vowels : Room := { frames := 2, cells := 0, slots := 0, locals := 42 }
set_option maxHeartbeats 4000000 in
set_option maxRecDepth 100000 in
theorem m_X1_vowels {l : Launch} {G : Gl} {B sz : Nat} {S : St} (v0 : Nat) (h : Hp) (Q : Int32 → Hp → Prop) (hw : w_X1_vowels S v0 h Q) : MI l G B sz S yX1_vowels cX1_vowels 3 .int rm_X1_vowels [.ref v0] h Q := by
  refine met_of rfl rfl ?_
  intro p e s m args below meth c hMB H ls hH hl
  obtain ⟨hx, hb, hml, hown, hKK, hr, hlk⟩ := hMB
  replace hl : lv_has ls 3 [(0, .ref v0)] := hl
  have c4 : ∀  (v0 : Nat) (v1 : Int32) (v2 : Int32) (h : Hp) (H : Heap) (locs : List Loc) (ls : Array Slot), HH G B S h sz s H locs → lv_has ls 3 [(0, .ref v0), (1, .int v1), (2, .int v2)] → w_X1_vowels_c4 S v0 v1 v2 h Q → W p l e rm_X1_vowels s m args below meth c H locs 0 0 (QI G B S sz below args s Q) (F0 m 4 ls []) := by
    intro  v0 v1 v2 h H locs ls hH hl hw
    unfold w_X1_vowels_c4 at hw
    obtain ⟨P4, hP4⟩ : ∃ P : Int32 → Int32 → Hp → Prop, ∀ (v1 : Int32) (v2 : Int32) (h : Hp), P v1 v2 h ↔ (∀ (H : Heap) (locs : List Loc) (ls : Array Slot), HH G B S h sz s H locs → lv_has ls 3 [(0, .ref v0), (1, .int v1), (2, .int v2)] → W p l e rm_X1_vowels s m args below meth c H locs 0 0 (QI G B S sz below args s Q) (F0 m 4 ls [])) := ⟨_, fun v1 v2 h => Iff.rfl⟩
    refine (hP4 v1 v2 h).1 (hw P4 (fun v1 v2 h hw => (hP4 v1 v2 h).2 (fun H locs ls hH hl => ?_))) H locs ls hH hl
    have hK4 : ∀ (v1 : Int32) (v2 : Int32) (h : Hp) (H : Heap) (locs : List Loc) (ls : Array Slot), HH G B S h sz s H locs → lv_has ls 3 [(0, .ref v0), (1, .int v1), (2, .int v2)] → P4 v1 v2 h → W p l e rm_X1_vowels s m args below meth c H locs 0 0 (QI G B S sz below args s Q) (F0 m 4 ls []) := fun v1 v2 h H locs ls hH hl hk => (hP4 v1 v2 h).1 hk H locs ls hH hl
    refine lv_iload_n hx hb dX1_vowels_4 rfl (lv_at hl 2 rfl) ?_
    refine lv_aload_n hx hb dX1_vowels_5 rfl (lv_at hl 0 rfl) ?_
    obtain ⟨k1, hw⟩ := hw
    refine hv_get (ci := 1) (k := 4) (v := .int (h v0 4)) hx hb hown hKK hH cf1 (by decide) fl_X1_34 rfl k1 rfl dX1_vowels_6 ?_
    refine lv_icmp_ge (tgt := 30) hx hb dX1_vowels_9 (by decide) (fun c2 => ?_) (fun c2 => ?_)
    · have hw := ite_t hw c2
      refine lv_iload_n hx hb dX1_vowels_30 rfl (lv_at hl 1 rfl) ?_
      exact hv_iret hx hb hr hlk hH hw dX1_vowels_31
    · have hw := ite_f hw c2
      refine lv_iload_n hx hb dX1_vowels_12 rfl (lv_at hl 1 rfl) ?_
      refine lv_aload_n hx hb dX1_vowels_13 rfl (lv_at hl 0 rfl) ?_
      refine hv_get (ci := 1) (k := 3) (v := .ref (S.2 v0 3)) hx hb hown hKK hH cf1 (by decide) fl_X1_23 rfl k1 rfl dX1_vowels_14 ?_
      refine lv_iload_n hx hb dX1_vowels_17 rfl (lv_at hl 2 rfl) ?_
      obtain ⟨k3, hw⟩ := hw
      refine hv_aald (t := 1) hx hb (by decide) hKK hH k3 dX1_vowels_18 ?_
      obtain ⟨k4, hw⟩ := hw
      refine hv_cVI (rm := rm_X0_vowelsInName) (As := []) (rest := [.int v1]) (k := 0) (ci := 0) hx hb hml hown hKK hH cf0 k4 (m_X0_vowelsInName (S.2 (S.2 v0 3) (ix v2)) _ _ hw) cw_X1_141 ⟨Nat.le_of_ble_eq_true rfl, Nat.le_of_ble_eq_true rfl⟩ rfl hl.1 rfl (Nat.le_of_ble_eq_true rfl) ⟨Nat.le_of_ble_eq_true rfl, Nat.le_of_ble_eq_true rfl⟩ dX1_vowels_19 (fun r6 h5 H locs hH hw => ?_)
      refine lv_iadd hx hb dX1_vowels_22 ?_
      refine lv_istore_n (lv' := [(1, .int (v1 + r6)), (0, .ref v0), (2, .int v2)]) hx hb dX1_vowels_23 rfl hl (by decide) rfl (fun ls hl => ?_)
      refine lv_iinc (v := v2 + (nI 1)) (lv' := [(2, .int (v2 + (nI 1))), (1, .int (v1 + r6)), (0, .ref v0)]) hx hb dX1_vowels_24 hl (k := 2) rfl rfl (by decide) rfl (fun ls hl => ?_)
      refine lv_goto (tgt := 4) hx hb dX1_vowels_27 (by decide) ?_
      exact hK4 _ _ _ H locs ls hH (lv_sub hl [2, 1, 0] rfl) hw
  unfold w_X1_vowels at hw
  show W p l e rm_X1_vowels s m args below meth c H [] 0 0 (QI G B S sz below args s Q) (F0 m 0 ls [])
  generalize ([] : List Loc) = locs at hH ⊢
  refine lv_iconst (v := (nI 0)) hx hb dX1_vowels_0 (by decide) ?_
  refine lv_istore_n (lv' := [(1, .int (nI 0)), (0, .ref v0)]) hx hb dX1_vowels_1 rfl hl (by decide) rfl (fun ls hl => ?_)
  refine lv_iconst (v := (nI 0)) hx hb dX1_vowels_2 (by decide) ?_
  refine lv_istore_n (lv' := [(2, .int (nI 0)), (1, .int (nI 0)), (0, .ref v0)]) hx hb dX1_vowels_3 rfl hl (by decide) rfl (fun ls hl => ?_)
  exact c4 _ _ _ _ H locs ls hH (lv_sub hl [2, 1, 0] rfl) hw
abbrev rm_X1_isInSomeName : Room := { frames := 1, cells := 0, slots := 0, locals := 22 }
set_option maxHeartbeats 4000000 in
set_option maxRecDepth 100000 in
theorem m_X1_isInSomeName {l : Launch} {G : Gl} {B sz : Nat} {S : St} (v0 : Nat) (v1 : Int32) (h : Hp) (Q : Int32 → Hp → Prop) (hw : w_X1_isInSomeName S v0 v1 h Q) : MI l G B sz S yX1_isInSomeName cX1_isInSomeName 3 .boolean rm_X1_isInSomeName [.ref v0, .int v1] h Q := by
  refine met_of rfl rfl ?_
  intro p e s m args below meth c hMB H ls hH hl
  obtain ⟨hx, hb, hml, hown, hKK, hr, hlk⟩ := hMB
  replace hl : lv_has ls 3 [(0, .ref v0), (1, .int v1)] := hl
  have c2 : ∀  (v0 : Nat) (v1 : Int32) (v2 : Int32) (h : Hp) (H : Heap) (locs : List Loc) (ls : Array Slot), HH G B S h sz s H locs → lv_has ls 3 [(0, .ref v0), (1, .int v1), (2, .int v2)] → w_X1_isInSomeName_c2 S v0 v1 v2 h Q → W p l e rm_X1_isInSomeName s m args below meth c H locs 0 0 (QI G B S sz below args s Q) (F0 m 2 ls []) := by
    intro  v0 v1 v2 h H locs ls hH hl hw
    unfold w_X1_isInSomeName_c2 at hw
    obtain ⟨P2, hP2⟩ : ∃ P : Int32 → Hp → Prop, ∀ (v2 : Int32) (h : Hp), P v2 h ↔ (∀ (H : Heap) (locs : List Loc) (ls : Array Slot), HH G B S h sz s H locs → lv_has ls 3 [(0, .ref v0), (1, .int v1), (2, .int v2)] → W p l e rm_X1_isInSomeName s m args below meth c H locs 0 0 (QI G B S sz below args s Q) (F0 m 2 ls [])) := ⟨_, fun v2 h => Iff.rfl⟩
    refine (hP2 v2 h).1 (hw P2 (fun v2 h hw => (hP2 v2 h).2 (fun H locs ls hH hl => ?_))) H locs ls hH hl
    have hK2 : ∀ (v2 : Int32) (h : Hp) (H : Heap) (locs : List Loc) (ls : Array Slot), HH G B S h sz s H locs → lv_has ls 3 [(0, .ref v0), (1, .int v1), (2, .int v2)] → P2 v2 h → W p l e rm_X1_isInSomeName s m args below meth c H locs 0 0 (QI G B S sz below args s Q) (F0 m 2 ls []) := fun v2 h H locs ls hH hl hk => (hP2 v2 h).1 hk H locs ls hH hl
    refine lv_iload_n hx hb dX1_isInSomeName_2 rfl (lv_at hl 2 rfl) ?_
    refine lv_aload_n hx hb dX1_isInSomeName_3 rfl (lv_at hl 0 rfl) ?_
    obtain ⟨k1, hw⟩ := hw
    refine hv_get (ci := 1) (k := 4) (v := .int (h v0 4)) hx hb hown hKK hH cf1 (by decide) fl_X1_34 rfl k1 rfl dX1_isInSomeName_4 ?_
    refine lv_icmp_ge (tgt := 31) hx hb dX1_isInSomeName_7 (by decide) (fun c2 => ?_) (fun c2 => ?_)
    · have hw := ite_t hw c2
      refine lv_iconst (v := (nI 0)) hx hb dX1_isInSomeName_31 (by decide) ?_
      exact hv_zret hx hb hr hlk hH (Or.inl rfl) hw dX1_isInSomeName_32
    · have hw := ite_f hw c2
      refine lv_aload_n hx hb dX1_isInSomeName_10 rfl (lv_at hl 0 rfl) ?_
      refine hv_get (ci := 1) (k := 3) (v := .ref (S.2 v0 3)) hx hb hown hKK hH cf1 (by decide) fl_X1_23 rfl k1 rfl dX1_isInSomeName_11 ?_
      refine lv_iload_n hx hb dX1_isInSomeName_14 rfl (lv_at hl 2 rfl) ?_
      obtain ⟨k3, hw⟩ := hw
      refine hv_aald (t := 1) hx hb (by decide) hKK hH k3 dX1_isInSomeName_15 ?_
      refine lv_iload_n hx hb dX1_isInSomeName_16 rfl (lv_at hl 1 rfl) ?_
      obtain ⟨k4, hw⟩ := hw
      refine hv_cVI (rm := rm_X0_hasLetter) (As := [.int v1]) (rest := []) (k := 1) (ci := 0) hx hb hml hown hKK hH cf0 k4 (m_X0_hasLetter (S.2 (S.2 v0 3) (ix v2)) v1 _ _ hw) cw_X1_117 ⟨Nat.le_of_ble_eq_true rfl, Nat.le_of_ble_eq_true rfl⟩ rfl hl.1 rfl (Nat.le_of_ble_eq_true rfl) ⟨Nat.le_of_ble_eq_true rfl, Nat.le_of_ble_eq_true rfl⟩ dX1_isInSomeName_17 (fun r6 h5 H locs hH hw => ?_)
      refine lv_if_eq (tgt := 25) hx hb dX1_isInSomeName_20 (by decide) (fun c7 => ?_) (fun c7 => ?_)
      · have hw := ite_t hw c7
        refine lv_iinc (v := v2 + (nI 1)) (lv' := [(2, .int (v2 + (nI 1))), (0, .ref v0), (1, .int v1)]) hx hb dX1_isInSomeName_25 hl (k := 2) rfl rfl (by decide) rfl (fun ls hl => ?_)
        refine lv_goto (tgt := 2) hx hb dX1_isInSomeName_28 (by decide) ?_
        exact hK2 _ _ H locs ls hH (lv_sub hl [1, 2, 0] rfl) hw
      · have hw := ite_f hw c7
        refine lv_iconst (v := (nI 1)) hx hb dX1_isInSomeName_23 (by decide) ?_
        exact hv_zret hx hb hr hlk hH (Or.inr rfl) hw dX1_isInSomeName_24
  unfold w_X1_isInSomeName at hw
  show W p l e rm_X1_isInSomeName s m args below meth c H [] 0 0 (QI G B S sz below args s Q) (F0 m 0 ls [])
  generalize ([] : List Loc) = locs at hH ⊢
  refine lv_iconst (v := (nI 0)) hx hb dX1_isInSomeName_0 (by decide) ?_
  refine lv_istore_n (lv' := [(2, .int (nI 0)), (0, .ref v0), (1, .int v1)]) hx hb dX1_isInSomeName_1 rfl hl (by decide) rfl (fun ls hl => ?_)
  exact c2 _ _ _ _ H locs ls hH (lv_sub hl [1, 2, 0] rfl) hw
abbrev rm_X1_hungry : Room := { frames := 2, cells := 0, slots := 0, locals := 44 }
set_option maxHeartbeats 4000000 in
set_option maxRecDepth 100000 in
theorem m_X1_hungry {l : Launch} {G : Gl} {B sz : Nat} {S : St} (v0 : Nat) (h : Hp) (Q : Int32 → Hp → Prop) (hw : w_X1_hungry S v0 h Q) : MI l G B sz S yX1_hungry cX1_hungry 3 .int rm_X1_hungry [.ref v0] h Q := by
  refine met_of rfl rfl ?_
  intro p e s m args below meth c hMB H ls hH hl
  obtain ⟨hx, hb, hml, hown, hKK, hr, hlk⟩ := hMB
  replace hl : lv_has ls 3 [(0, .ref v0)] := hl
  have c4 : ∀  (v0 : Nat) (v1 : Int32) (v2 : Int32) (h : Hp) (H : Heap) (locs : List Loc) (ls : Array Slot), HH G B S h sz s H locs → lv_has ls 3 [(0, .ref v0), (1, .int v1), (2, .int v2)] → w_X1_hungry_c4 S v0 v1 v2 h Q → W p l e rm_X1_hungry s m args below meth c H locs 0 0 (QI G B S sz below args s Q) (F0 m 4 ls []) := by
    intro  v0 v1 v2 h H locs ls hH hl hw
    unfold w_X1_hungry_c4 at hw
    obtain ⟨P4, hP4⟩ : ∃ P : Int32 → Int32 → Hp → Prop, ∀ (v1 : Int32) (v2 : Int32) (h : Hp), P v1 v2 h ↔ (∀ (H : Heap) (locs : List Loc) (ls : Array Slot), HH G B S h sz s H locs → lv_has ls 3 [(0, .ref v0), (1, .int v1), (2, .int v2)] → W p l e rm_X1_hungry s m args below meth c H locs 0 0 (QI G B S sz below args s Q) (F0 m 4 ls [])) := ⟨_, fun v1 v2 h => Iff.rfl⟩
    refine (hP4 v1 v2 h).1 (hw P4 (fun v1 v2 h hw => (hP4 v1 v2 h).2 (fun H locs ls hH hl => ?_))) H locs ls hH hl
    have hK4 : ∀ (v1 : Int32) (v2 : Int32) (h : Hp) (H : Heap) (locs : List Loc) (ls : Array Slot), HH G B S h sz s H locs → lv_has ls 3 [(0, .ref v0), (1, .int v1), (2, .int v2)] → P4 v1 v2 h → W p l e rm_X1_hungry s m args below meth c H locs 0 0 (QI G B S sz below args s Q) (F0 m 4 ls []) := fun v1 v2 h H locs ls hH hl hk => (hP4 v1 v2 h).1 hk H locs ls hH hl
    refine lv_iload_n hx hb dX1_hungry_4 rfl (lv_at hl 2 rfl) ?_
    refine lv_bipush (v := (nI 48)) hx hb dX1_hungry_5 (by decide) ?_
    refine lv_icmp_ge (tgt := 38) hx hb dX1_hungry_7 (by decide) (fun c1 => ?_) (fun c1 => ?_)
    · have hw := ite_t hw c1
      refine lv_iload_n hx hb dX1_hungry_38 rfl (lv_at hl 1 rfl) ?_
      exact hv_iret hx hb hr hlk hH hw dX1_hungry_39
    · have hw := ite_f hw c1
      refine lv_aload_n hx hb dX1_hungry_10 rfl (lv_at hl 0 rfl) ?_
      refine lv_aload_n hx hb dX1_hungry_11 rfl (lv_at hl 0 rfl) ?_
      obtain ⟨k2, hw⟩ := hw
      refine hv_get (ci := 1) (k := 2) (v := .ref (S.2 v0 2)) hx hb hown hKK hH cf1 (by decide) fl_X1_18 rfl k2 rfl dX1_hungry_12 ?_
      refine lv_iload_n hx hb dX1_hungry_15 rfl (lv_at hl 2 rfl) ?_
      obtain ⟨k3, hw⟩ := hw
      refine hv_iald hx hb hKK hH k3 dX1_hungry_16 ?_
      refine hv_cVI (rm := rm_X1_isInSomeName) (As := [.int (h (S.2 v0 2) (ix v2))]) (rest := []) (k := 1) (ci := 1) hx hb hml hown hKK hH cf1 k2 (m_X1_isInSomeName v0 (h (S.2 v0 2) (ix v2)) _ _ hw) cw_X1_144 ⟨Nat.le_of_ble_eq_true rfl, Nat.le_of_ble_eq_true rfl⟩ rfl hl.1 rfl (Nat.le_of_ble_eq_true rfl) ⟨Nat.le_of_ble_eq_true rfl, Nat.le_of_ble_eq_true rfl⟩ dX1_hungry_17 (fun r5 h4 H locs hH hw => ?_)
      refine lv_if_ne (tgt := 32) hx hb dX1_hungry_20 (by decide) (fun c6 => ?_) (fun c6 => ?_)
      · have hw := ite_f hw c6
        refine lv_iinc (v := v2 + (nI 1)) (lv' := [(2, .int (v2 + (nI 1))), (0, .ref v0), (1, .int v1)]) hx hb dX1_hungry_32 hl (k := 2) rfl rfl (by decide) rfl (fun ls hl => ?_)
        refine lv_goto (tgt := 4) hx hb dX1_hungry_35 (by decide) ?_
        exact hK4 _ _ _ H locs ls hH (lv_sub hl [1, 2, 0] rfl) hw
      · have hw := ite_t hw c6
        refine lv_iload_n hx hb dX1_hungry_23 rfl (lv_at hl 1 rfl) ?_
        refine lv_aload_n hx hb dX1_hungry_24 rfl (lv_at hl 0 rfl) ?_
        refine hv_get (ci := 1) (k := 1) (v := .ref (S.2 v0 1)) hx hb hown hKK hH cf1 (by decide) fl_X1_15 rfl k2 rfl dX1_hungry_25 ?_
        refine lv_iload_n hx hb dX1_hungry_28 rfl (lv_at hl 2 rfl) ?_
        obtain ⟨k7, hw⟩ := hw
        refine hv_iald hx hb hKK hH k7 dX1_hungry_29 ?_
        refine lv_iadd hx hb dX1_hungry_30 ?_
        refine lv_istore_n (lv' := [(1, .int (v1 + (h4 (S.2 v0 1) (ix v2)))), (0, .ref v0), (2, .int v2)]) hx hb dX1_hungry_31 rfl hl (by decide) rfl (fun ls hl => ?_)
        refine lv_iinc (v := v2 + (nI 1)) (lv' := [(2, .int (v2 + (nI 1))), (1, .int (v1 + (h4 (S.2 v0 1) (ix v2)))), (0, .ref v0)]) hx hb dX1_hungry_32 hl (k := 2) rfl rfl (by decide) rfl (fun ls hl => ?_)
        refine lv_goto (tgt := 4) hx hb dX1_hungry_35 (by decide) ?_
        exact hK4 _ _ _ H locs ls hH (lv_sub hl [2, 1, 0] rfl) hw
  unfold w_X1_hungry at hw
  show W p l e rm_X1_hungry s m args below meth c H [] 0 0 (QI G B S sz below args s Q) (F0 m 0 ls [])
  generalize ([] : List Loc) = locs at hH ⊢
  refine lv_iconst (v := (nI 0)) hx hb dX1_hungry_0 (by decide) ?_
  refine lv_istore_n (lv' := [(1, .int (nI 0)), (0, .ref v0)]) hx hb dX1_hungry_1 rfl hl (by decide) rfl (fun ls hl => ?_)
  refine lv_iconst (v := (nI 0)) hx hb dX1_hungry_2 (by decide) ?_
  refine lv_istore_n (lv' := [(2, .int (nI 0)), (1, .int (nI 0)), (0, .ref v0)]) hx hb dX1_hungry_3 rfl hl (by decide) rfl (fun ls hl => ?_)
  exact c4 _ _ _ _ H locs ls hH (lv_sub hl [2, 1, 0] rfl) hw
abbrev rm_X1_alone : Room := { frames := 1, cells := 0, slots := 0, locals := 23 }
set_option maxHeartbeats 4000000 in
set_option maxRecDepth 100000 in
theorem m_X1_alone {l : Launch} {G : Gl} {B sz : Nat} {S : St} (v0 : Nat) (h : Hp) (Q : Int32 → Hp → Prop) (hw : w_X1_alone S v0 h Q) : MI l G B sz S yX1_alone cX1_alone 3 .int rm_X1_alone [.ref v0] h Q := by
  refine met_of rfl rfl ?_
  intro p e s m args below meth c hMB H ls hH hl
  obtain ⟨hx, hb, hml, hown, hKK, hr, hlk⟩ := hMB
  replace hl : lv_has ls 3 [(0, .ref v0)] := hl
  have c4 : ∀  (v0 : Nat) (v1 : Int32) (v2 : Int32) (h : Hp) (H : Heap) (locs : List Loc) (ls : Array Slot), HH G B S h sz s H locs → lv_has ls 3 [(0, .ref v0), (1, .int v1), (2, .int v2)] → w_X1_alone_c4 S v0 v1 v2 h Q → W p l e rm_X1_alone s m args below meth c H locs 0 0 (QI G B S sz below args s Q) (F0 m 4 ls []) := by
    intro  v0 v1 v2 h H locs ls hH hl hw
    unfold w_X1_alone_c4 at hw
    obtain ⟨P4, hP4⟩ : ∃ P : Int32 → Int32 → Hp → Prop, ∀ (v1 : Int32) (v2 : Int32) (h : Hp), P v1 v2 h ↔ (∀ (H : Heap) (locs : List Loc) (ls : Array Slot), HH G B S h sz s H locs → lv_has ls 3 [(0, .ref v0), (1, .int v1), (2, .int v2)] → W p l e rm_X1_alone s m args below meth c H locs 0 0 (QI G B S sz below args s Q) (F0 m 4 ls [])) := ⟨_, fun v1 v2 h => Iff.rfl⟩
    refine (hP4 v1 v2 h).1 (hw P4 (fun v1 v2 h hw => (hP4 v1 v2 h).2 (fun H locs ls hH hl => ?_))) H locs ls hH hl
    have hK4 : ∀ (v1 : Int32) (v2 : Int32) (h : Hp) (H : Heap) (locs : List Loc) (ls : Array Slot), HH G B S h sz s H locs → lv_has ls 3 [(0, .ref v0), (1, .int v1), (2, .int v2)] → P4 v1 v2 h → W p l e rm_X1_alone s m args below meth c H locs 0 0 (QI G B S sz below args s Q) (F0 m 4 ls []) := fun v1 v2 h H locs ls hH hl hk => (hP4 v1 v2 h).1 hk H locs ls hH hl
    refine lv_iload_n hx hb dX1_alone_4 rfl (lv_at hl 2 rfl) ?_
    refine lv_aload_n hx hb dX1_alone_5 rfl (lv_at hl 0 rfl) ?_
    obtain ⟨k1, hw⟩ := hw
    refine hv_get (ci := 1) (k := 4) (v := .int (h v0 4)) hx hb hown hKK hH cf1 (by decide) fl_X1_34 rfl k1 rfl dX1_alone_6 ?_
    refine lv_icmp_ge (tgt := 43) hx hb dX1_alone_9 (by decide) (fun c2 => ?_) (fun c2 => ?_)
    · have hw := ite_t hw c2
      refine lv_iload_n hx hb dX1_alone_43 rfl (lv_at hl 1 rfl) ?_
      exact hv_iret hx hb hr hlk hH hw dX1_alone_44
    · have hw := ite_f hw c2
      refine lv_aload_n hx hb dX1_alone_12 rfl (lv_at hl 0 rfl) ?_
      refine lv_aload_n hx hb dX1_alone_13 rfl (lv_at hl 0 rfl) ?_
      refine hv_get (ci := 1) (k := 3) (v := .ref (S.2 v0 3)) hx hb hown hKK hH cf1 (by decide) fl_X1_23 rfl k1 rfl dX1_alone_14 ?_
      refine lv_iload_n hx hb dX1_alone_17 rfl (lv_at hl 2 rfl) ?_
      obtain ⟨k3, hw⟩ := hw
      refine hv_aald (t := 1) hx hb (by decide) hKK hH k3 dX1_alone_18 ?_
      obtain ⟨k4, hw⟩ := hw
      refine hv_getN (ci := 0) (k := 4) (v := .int (h (S.2 (S.2 v0 3) (ix v2)) 4)) hx hb hown hKK hH cf0 (by decide) fl_X1_99 rfl k4 rfl dX1_alone_19 ?_
      refine hv_cVI (rm := rm_X1_headsOn) (As := [.int (h (S.2 (S.2 v0 3) (ix v2)) 4)]) (rest := []) (k := 1) (ci := 1) hx hb hml hown hKK hH cf1 k1 (m_X1_headsOn v0 (h (S.2 (S.2 v0 3) (ix v2)) 4) _ _ hw) cw_X1_147 ⟨Nat.le_of_ble_eq_true rfl, Nat.le_of_ble_eq_true rfl⟩ rfl hl.1 rfl (Nat.le_of_ble_eq_true rfl) ⟨Nat.le_of_ble_eq_true rfl, Nat.le_of_ble_eq_true rfl⟩ dX1_alone_22 (fun r6 h5 H locs hH hw => ?_)
      refine lv_iconst (v := (nI 1)) hx hb dX1_alone_25 (by decide) ?_
      refine lv_iload_n hx hb dX1_alone_26 rfl (lv_at hl 2 rfl) ?_
      refine lv_ishl hx hb dX1_alone_27 ?_
      refine lv_icmp_ne (tgt := 37) hx hb dX1_alone_28 (by decide) (fun c7 => ?_) (fun c7 => ?_)
      · have hw := ite_f hw c7
        refine lv_iinc (v := v2 + (nI 1)) (lv' := [(2, .int (v2 + (nI 1))), (0, .ref v0), (1, .int v1)]) hx hb dX1_alone_37 hl (k := 2) rfl rfl (by decide) rfl (fun ls hl => ?_)
        refine lv_goto (tgt := 4) hx hb dX1_alone_40 (by decide) ?_
        exact hK4 _ _ _ H locs ls hH (lv_sub hl [1, 2, 0] rfl) hw
      · have hw := ite_t hw c7
        refine lv_iload_n hx hb dX1_alone_31 rfl (lv_at hl 1 rfl) ?_
        refine lv_iconst (v := (nI 1)) hx hb dX1_alone_32 (by decide) ?_
        refine lv_iload_n hx hb dX1_alone_33 rfl (lv_at hl 2 rfl) ?_
        refine lv_ishl hx hb dX1_alone_34 ?_
        refine lv_ior hx hb dX1_alone_35 ?_
        refine lv_istore_n (lv' := [(1, .int (v1 ||| (ishl (nI 1) v2))), (0, .ref v0), (2, .int v2)]) hx hb dX1_alone_36 rfl hl (by decide) rfl (fun ls hl => ?_)
        refine lv_iinc (v := v2 + (nI 1)) (lv' := [(2, .int (v2 + (nI 1))), (1, .int (v1 ||| (ishl (nI 1) v2))), (0, .ref v0)]) hx hb dX1_alone_37 hl (k := 2) rfl rfl (by decide) rfl (fun ls hl => ?_)
        refine lv_goto (tgt := 4) hx hb dX1_alone_40 (by decide) ?_
        exact hK4 _ _ _ H locs ls hH (lv_sub hl [2, 1, 0] rfl) hw
  unfold w_X1_alone at hw
  show W p l e rm_X1_alone s m args below meth c H [] 0 0 (QI G B S sz below args s Q) (F0 m 0 ls [])
  generalize ([] : List Loc) = locs at hH ⊢
  refine lv_iconst (v := (nI 0)) hx hb dX1_alone_0 (by decide) ?_
  refine lv_istore_n (lv' := [(1, .int (nI 0)), (0, .ref v0)]) hx hb dX1_alone_1 rfl hl (by decide) rfl (fun ls hl => ?_)
  refine lv_iconst (v := (nI 0)) hx hb dX1_alone_2 (by decide) ?_
  refine lv_istore_n (lv' := [(2, .int (nI 0)), (1, .int (nI 0)), (0, .ref v0)]) hx hb dX1_alone_3 rfl hl (by decide) rfl (fun ls hl => ?_)
  exact c4 _ _ _ _ H locs ls hH (lv_sub hl [2, 1, 0] rfl) hw
abbrev rm_X2_think : Room := { frames := 4, cells := 0, slots := 0, locals := 124 }
set_option maxHeartbeats 4000000 in
set_option maxRecDepth 100000 in
theorem m_X2_think {l : Launch} {G : Gl} {B sz : Nat} {S : St} (v0 : Nat) (v1 : Nat) (h : Hp) (Q : Nat → Hp → Prop) (hw : w_X2_think S v0 v1 h Q) : MA l G B sz S yX2_think cX2_think 2 (.object RX1) rm_X2_think [.ref v0, .ref v1] h Q := by
  refine met_of rfl rfl ?_
  intro p e s m args below meth c hMB H ls hH hl
  obtain ⟨hx, hb, hml, hown, hKK, hr, hlk⟩ := hMB
  replace hl : lv_has ls 2 [(0, .ref v0), (1, .ref v1)] := hl
  unfold w_X2_think at hw
  show W p l e rm_X2_think s m args below meth c H [] 0 0 (QA G B S sz below args s Q) (F0 m 0 ls [])
  generalize ([] : List Loc) = locs at hH ⊢
  refine lv_aload_n hx hb dX2_think_0 rfl (lv_at hl 0 rfl) ?_
  obtain ⟨k1, hw⟩ := hw
  refine hv_get (ci := 2) (k := 0) (v := .ref (S.2 v0 0)) hx hb hown hKK hH cf2 (by decide) fl_X2_12 rfl k1 rfl dX2_think_1 ?_
  refine lv_aload_n hx hb dX2_think_4 rfl (lv_at hl 1 rfl) ?_
  obtain ⟨k2, hw⟩ := hw
  refine hv_cVV (rm := rm_X1_copy) (As := [.ref v1]) (rest := []) (k := 1) (ci := 1) hx hb hml hown hKK hH cf1 k2 (m_X1_copy (S.2 v0 0) v1 _ _ hw) cw_X2_25 ⟨Nat.le_of_ble_eq_true rfl, Nat.le_of_ble_eq_true rfl⟩ rfl hl.1 rfl (Nat.le_of_ble_eq_true rfl) ⟨Nat.le_of_ble_eq_true rfl, Nat.le_of_ble_eq_true rfl⟩ dX2_think_5 (fun h3 H locs hH hw => ?_)
  refine lv_aload_n hx hb dX2_think_8 rfl (lv_at hl 0 rfl) ?_
  refine hv_get (ci := 2) (k := 0) (v := .ref (S.2 v0 0)) hx hb hown hKK hH cf2 (by decide) fl_X2_12 rfl k1 rfl dX2_think_9 ?_
  exact hv_aret hx hb hr hlk hH hw dX2_think_12
abbrev rm_X2_behindNights : Room := { frames := 5, cells := 0, slots := 0, locals := 145 }
set_option maxHeartbeats 4000000 in
set_option maxRecDepth 100000 in
theorem m_X2_behindNights {l : Launch} {G : Gl} {B sz : Nat} {S : St} (v0 : Nat) (v1 : Nat) (v2 : Int32) (h : Hp) (Q : Nat → Hp → Prop) (hw : w_X2_behindNights S v0 v1 v2 h Q) : MA l G B sz S yX2_behindNights cX2_behindNights 3 (.object RX1) rm_X2_behindNights [.ref v0, .ref v1, .int v2] h Q := by
  refine met_of rfl rfl ?_
  intro p e s m args below meth c hMB H ls hH hl
  obtain ⟨hx, hb, hml, hown, hKK, hr, hlk⟩ := hMB
  replace hl : lv_has ls 3 [(0, .ref v0), (1, .ref v1), (2, .int v2)] := hl
  unfold w_X2_behindNights at hw
  show W p l e rm_X2_behindNights s m args below meth c H [] 0 0 (QA G B S sz below args s Q) (F0 m 0 ls [])
  generalize ([] : List Loc) = locs at hH ⊢
  refine lv_aload_n hx hb dX2_behindNights_0 rfl (lv_at hl 0 rfl) ?_
  refine lv_aload_n hx hb dX2_behindNights_1 rfl (lv_at hl 1 rfl) ?_
  obtain ⟨k1, hw⟩ := hw
  refine hv_cVA (rm := rm_X2_think) (As := [.ref v1]) (rest := []) (k := 1) (ci := 2) hx hb hml hown hKK hH cf2 k1 (m_X2_think v0 v1 _ _ hw) cw_X2_29 ⟨Nat.le_of_ble_eq_true rfl, Nat.le_of_ble_eq_true rfl⟩ rfl hl.1 rfl (Nat.le_of_ble_eq_true rfl) ⟨Nat.le_of_ble_eq_true rfl, Nat.le_of_ble_eq_true rfl⟩ dX2_behindNights_2 (fun r3 h2 H locs hH hw => ?_)
  refine lv_pop hx hb dX2_behindNights_5 rfl ?_
  refine lv_aload_n hx hb dX2_behindNights_6 rfl (lv_at hl 0 rfl) ?_
  refine hv_get (ci := 2) (k := 0) (v := .ref (S.2 v0 0)) hx hb hown hKK hH cf2 (by decide) fl_X2_12 rfl k1 rfl dX2_behindNights_7 ?_
  refine lv_iload_n hx hb dX2_behindNights_10 rfl (lv_at hl 2 rfl) ?_
  obtain ⟨k4, hw⟩ := hw
  refine hv_cVV (rm := rm_X1_passNights) (As := [.int v2]) (rest := []) (k := 1) (ci := 1) hx hb hml hown hKK hH cf1 k4 (m_X1_passNights (S.2 v0 0) v2 _ _ hw) cw_X2_33 ⟨Nat.le_of_ble_eq_true rfl, Nat.le_of_ble_eq_true rfl⟩ rfl hl.1 rfl (Nat.le_of_ble_eq_true rfl) ⟨Nat.le_of_ble_eq_true rfl, Nat.le_of_ble_eq_true rfl⟩ dX2_behindNights_11 (fun h5 H locs hH hw => ?_)
  refine lv_aload_n hx hb dX2_behindNights_14 rfl (lv_at hl 0 rfl) ?_
  refine hv_get (ci := 2) (k := 0) (v := .ref (S.2 v0 0)) hx hb hown hKK hH cf2 (by decide) fl_X2_12 rfl k1 rfl dX2_behindNights_15 ?_
  exact hv_aret hx hb hr hlk hH hw dX2_behindNights_18
abbrev rm_X2_nightsUntilOn : Room := { frames := 5, cells := 0, slots := 0, locals := 145 }
set_option maxHeartbeats 4000000 in
set_option maxRecDepth 100000 in
theorem m_X2_nightsUntilOn {l : Launch} {G : Gl} {B sz : Nat} {S : St} (v0 : Nat) (v1 : Nat) (v2 : Int32) (v3 : Int32) (h : Hp) (Q : Int32 → Hp → Prop) (hw : w_X2_nightsUntilOn S v0 v1 v2 v3 h Q) : MI l G B sz S yX2_nightsUntilOn cX2_nightsUntilOn 5 .int rm_X2_nightsUntilOn [.ref v0, .ref v1, .int v2, .int v3] h Q := by
  refine met_of rfl rfl ?_
  intro p e s m args below meth c hMB H ls hH hl
  obtain ⟨hx, hb, hml, hown, hKK, hr, hlk⟩ := hMB
  replace hl : lv_has ls 5 [(0, .ref v0), (1, .ref v1), (2, .int v2), (3, .int v3)] := hl
  have c9 : ∀  (v0 : Nat) (v2 : Int32) (v3 : Int32) (v4 : Int32) (h : Hp) (H : Heap) (locs : List Loc) (ls : Array Slot), HH G B S h sz s H locs → lv_has ls 5 [(0, .ref v0), (2, .int v2), (3, .int v3), (4, .int v4)] → w_X2_nightsUntilOn_c9 S v0 v2 v3 v4 h Q → W p l e rm_X2_nightsUntilOn s m args below meth c H locs 0 0 (QI G B S sz below args s Q) (F0 m 9 ls []) := by
    intro  v0 v2 v3 v4 h H locs ls hH hl hw
    unfold w_X2_nightsUntilOn_c9 at hw
    obtain ⟨P9, hP9⟩ : ∃ P : Int32 → Hp → Prop, ∀ (v4 : Int32) (h : Hp), P v4 h ↔ (∀ (H : Heap) (locs : List Loc) (ls : Array Slot), HH G B S h sz s H locs → lv_has ls 5 [(0, .ref v0), (2, .int v2), (3, .int v3), (4, .int v4)] → W p l e rm_X2_nightsUntilOn s m args below meth c H locs 0 0 (QI G B S sz below args s Q) (F0 m 9 ls [])) := ⟨_, fun v4 h => Iff.rfl⟩
    refine (hP9 v4 h).1 (hw P9 (fun v4 h hw => (hP9 v4 h).2 (fun H locs ls hH hl => ?_))) H locs ls hH hl
    have hK9 : ∀ (v4 : Int32) (h : Hp) (H : Heap) (locs : List Loc) (ls : Array Slot), HH G B S h sz s H locs → lv_has ls 5 [(0, .ref v0), (2, .int v2), (3, .int v3), (4, .int v4)] → P9 v4 h → W p l e rm_X2_nightsUntilOn s m args below meth c H locs 0 0 (QI G B S sz below args s Q) (F0 m 9 ls []) := fun v4 h H locs ls hH hl hk => (hP9 v4 h).1 hk H locs ls hH hl
    refine lv_iload hx hb dX2_nightsUntilOn_9 (lv_at hl 3 rfl) ?_
    refine lv_bipush (v := (nI 60)) hx hb dX2_nightsUntilOn_11 (by decide) ?_
    refine lv_icmp_gt (tgt := 49) hx hb dX2_nightsUntilOn_13 (by decide) (fun c1 => ?_) (fun c1 => ?_)
    · have hw := ite_t hw c1
      refine lv_bipush (v := (-9)) hx hb dX2_nightsUntilOn_49 (by decide) ?_
      exact hv_iret hx hb hr hlk hH hw dX2_nightsUntilOn_51
    · have hw := ite_f hw c1
      refine lv_aload_n hx hb dX2_nightsUntilOn_16 rfl (lv_at hl 0 rfl) ?_
      obtain ⟨k2, hw⟩ := hw
      refine hv_get (ci := 2) (k := 0) (v := .ref (S.2 v0 0)) hx hb hown hKK hH cf2 (by decide) fl_X2_12 rfl k2 rfl dX2_nightsUntilOn_17 ?_
      obtain ⟨k3, hw⟩ := hw
      refine hv_getN (ci := 1) (k := 3) (v := .ref (S.2 (S.2 v0 0) 3)) hx hb hown hKK hH cf1 (by decide) fl_X2_37 rfl k3 rfl dX2_nightsUntilOn_20 ?_
      refine lv_iload_n hx hb dX2_nightsUntilOn_23 rfl (lv_at hl 1 rfl) ?_
      obtain ⟨k4, hw⟩ := hw
      refine hv_aald (t := 1) hx hb (by decide) hKK hH k4 dX2_nightsUntilOn_24 ?_
      obtain ⟨k5, hw⟩ := hw
      refine hv_getN (ci := 0) (k := 4) (v := .int (h (S.2 (S.2 (S.2 v0 0) 3) (ix v2)) 4)) hx hb hown hKK hH cf0 (by decide) fl_X2_41 rfl k5 rfl dX2_nightsUntilOn_25 ?_
      refine lv_iload_n hx hb dX2_nightsUntilOn_28 rfl (lv_at hl 2 rfl) ?_
      refine lv_icmp_ne (tgt := 35) hx hb dX2_nightsUntilOn_29 (by decide) (fun c6 => ?_) (fun c6 => ?_)
      · have hw := ite_f hw c6
        refine lv_aload_n hx hb dX2_nightsUntilOn_35 rfl (lv_at hl 0 rfl) ?_
        refine hv_get (ci := 2) (k := 0) (v := .ref (S.2 v0 0)) hx hb hown hKK hH cf2 (by decide) fl_X2_12 rfl k2 rfl dX2_nightsUntilOn_36 ?_
        refine lv_iconst (v := (nI 1)) hx hb dX2_nightsUntilOn_39 (by decide) ?_
        refine hv_cVV (rm := rm_X1_passNights) (As := [.int (nI 1)]) (rest := []) (k := 1) (ci := 1) hx hb hml hown hKK hH cf1 k3 (m_X1_passNights (S.2 v0 0) (nI 1) _ _ hw) cw_X2_33 ⟨Nat.le_of_ble_eq_true rfl, Nat.le_of_ble_eq_true rfl⟩ rfl hl.1 rfl (Nat.le_of_ble_eq_true rfl) ⟨Nat.le_of_ble_eq_true rfl, Nat.le_of_ble_eq_true rfl⟩ dX2_nightsUntilOn_40 (fun h7 H locs hH hw => ?_)
        refine lv_iinc (v := v4 + (nI 1)) (lv' := [(4, .int (v4 + (nI 1))), (0, .ref v0), (2, .int v2), (3, .int v3)]) hx hb dX2_nightsUntilOn_43 hl (k := 3) rfl rfl (by decide) rfl (fun ls hl => ?_)
        refine lv_goto (tgt := 9) hx hb dX2_nightsUntilOn_46 (by decide) ?_
        exact hK9 _ _ H locs ls hH (lv_sub hl [1, 2, 3, 0] rfl) hw
      · have hw := ite_t hw c6
        refine lv_iload hx hb dX2_nightsUntilOn_32 (lv_at hl 3 rfl) ?_
        exact hv_iret hx hb hr hlk hH hw dX2_nightsUntilOn_34
  unfold w_X2_nightsUntilOn at hw
  show W p l e rm_X2_nightsUntilOn s m args below meth c H [] 0 0 (QI G B S sz below args s Q) (F0 m 0 ls [])
  generalize ([] : List Loc) = locs at hH ⊢
  refine lv_aload_n hx hb dX2_nightsUntilOn_0 rfl (lv_at hl 0 rfl) ?_
  refine lv_aload_n hx hb dX2_nightsUntilOn_1 rfl (lv_at hl 1 rfl) ?_
  obtain ⟨k1, hw⟩ := hw
  refine hv_cVA (rm := rm_X2_think) (As := [.ref v1]) (rest := []) (k := 1) (ci := 2) hx hb hml hown hKK hH cf2 k1 (m_X2_think v0 v1 _ _ hw) cw_X2_29 ⟨Nat.le_of_ble_eq_true rfl, Nat.le_of_ble_eq_true rfl⟩ rfl hl.1 rfl (Nat.le_of_ble_eq_true rfl) ⟨Nat.le_of_ble_eq_true rfl, Nat.le_of_ble_eq_true rfl⟩ dX2_nightsUntilOn_2 (fun r3 h2 H locs hH hw => ?_)
  refine lv_pop hx hb dX2_nightsUntilOn_5 rfl ?_
  refine lv_iconst (v := (nI 0)) hx hb dX2_nightsUntilOn_6 (by decide) ?_
  refine lv_istore (lv' := [(4, .int (nI 0)), (0, .ref v0), (1, .ref v1), (2, .int v2), (3, .int v3)]) hx hb dX2_nightsUntilOn_7 hl (by decide) rfl (fun ls hl => ?_)
  exact c9 _ _ _ _ _ H locs ls hH (lv_sub hl [1, 3, 4, 0] rfl) hw
abbrev rm_X2_nightsUntilSettled : Room := { frames := 5, cells := 0, slots := 0, locals := 145 }
set_option maxHeartbeats 4000000 in
set_option maxRecDepth 100000 in
theorem m_X2_nightsUntilSettled {l : Launch} {G : Gl} {B sz : Nat} {S : St} (v0 : Nat) (v1 : Nat) (v2 : Int32) (h : Hp) (Q : Int32 → Hp → Prop) (hw : w_X2_nightsUntilSettled S v0 v1 v2 h Q) : MI l G B sz S yX2_nightsUntilSettled cX2_nightsUntilSettled 4 .int rm_X2_nightsUntilSettled [.ref v0, .ref v1, .int v2] h Q := by
  refine met_of rfl rfl ?_
  intro p e s m args below meth c hMB H ls hH hl
  obtain ⟨hx, hb, hml, hown, hKK, hr, hlk⟩ := hMB
  replace hl : lv_has ls 4 [(0, .ref v0), (1, .ref v1), (2, .int v2)] := hl
  have c8 : ∀  (v0 : Nat) (v2 : Int32) (v3 : Int32) (h : Hp) (H : Heap) (locs : List Loc) (ls : Array Slot), HH G B S h sz s H locs → lv_has ls 4 [(0, .ref v0), (2, .int v2), (3, .int v3)] → w_X2_nightsUntilSettled_c8 S v0 v2 v3 h Q → W p l e rm_X2_nightsUntilSettled s m args below meth c H locs 0 0 (QI G B S sz below args s Q) (F0 m 8 ls []) := by
    intro  v0 v2 v3 h H locs ls hH hl hw
    unfold w_X2_nightsUntilSettled_c8 at hw
    obtain ⟨P8, hP8⟩ : ∃ P : Int32 → Hp → Prop, ∀ (v3 : Int32) (h : Hp), P v3 h ↔ (∀ (H : Heap) (locs : List Loc) (ls : Array Slot), HH G B S h sz s H locs → lv_has ls 4 [(0, .ref v0), (2, .int v2), (3, .int v3)] → W p l e rm_X2_nightsUntilSettled s m args below meth c H locs 0 0 (QI G B S sz below args s Q) (F0 m 8 ls [])) := ⟨_, fun v3 h => Iff.rfl⟩
    refine (hP8 v3 h).1 (hw P8 (fun v3 h hw => (hP8 v3 h).2 (fun H locs ls hH hl => ?_))) H locs ls hH hl
    have hK8 : ∀ (v3 : Int32) (h : Hp) (H : Heap) (locs : List Loc) (ls : Array Slot), HH G B S h sz s H locs → lv_has ls 4 [(0, .ref v0), (2, .int v2), (3, .int v3)] → P8 v3 h → W p l e rm_X2_nightsUntilSettled s m args below meth c H locs 0 0 (QI G B S sz below args s Q) (F0 m 8 ls []) := fun v3 h H locs ls hH hl hk => (hP8 v3 h).1 hk H locs ls hH hl
    refine lv_iload_n hx hb dX2_nightsUntilSettled_8 rfl (lv_at hl 2 rfl) ?_
    refine lv_bipush (v := (nI 60)) hx hb dX2_nightsUntilSettled_9 (by decide) ?_
    refine lv_icmp_gt (tgt := 45) hx hb dX2_nightsUntilSettled_11 (by decide) (fun c1 => ?_) (fun c1 => ?_)
    · have hw := ite_t hw c1
      refine lv_bipush (v := (-9)) hx hb dX2_nightsUntilSettled_45 (by decide) ?_
      exact hv_iret hx hb hr hlk hH hw dX2_nightsUntilSettled_47
    · have hw := ite_f hw c1
      refine lv_aload_n hx hb dX2_nightsUntilSettled_14 rfl (lv_at hl 0 rfl) ?_
      obtain ⟨k2, hw⟩ := hw
      refine hv_get (ci := 2) (k := 0) (v := .ref (S.2 v0 0)) hx hb hown hKK hH cf2 (by decide) fl_X2_12 rfl k2 rfl dX2_nightsUntilSettled_15 ?_
      obtain ⟨k3, hw⟩ := hw
      refine hv_getN (ci := 1) (k := 3) (v := .ref (S.2 (S.2 v0 0) 3)) hx hb hown hKK hH cf1 (by decide) fl_X2_37 rfl k3 rfl dX2_nightsUntilSettled_18 ?_
      refine lv_iload_n hx hb dX2_nightsUntilSettled_21 rfl (lv_at hl 1 rfl) ?_
      obtain ⟨k4, hw⟩ := hw
      refine hv_aald (t := 1) hx hb (by decide) hKK hH k4 dX2_nightsUntilSettled_22 ?_
      obtain ⟨k5, hw⟩ := hw
      refine hv_getN (ci := 0) (k := 8) (v := .int (h (S.2 (S.2 (S.2 v0 0) 3) (ix v2)) 8)) hx hb hown hKK hH cf0 (by decide) fl_X2_47 rfl k5 rfl dX2_nightsUntilSettled_23 ?_
      refine lv_if_eq (tgt := 31) hx hb dX2_nightsUntilSettled_26 (by decide) (fun c6 => ?_) (fun c6 => ?_)
      · have hw := ite_t hw c6
        refine lv_aload_n hx hb dX2_nightsUntilSettled_31 rfl (lv_at hl 0 rfl) ?_
        refine hv_get (ci := 2) (k := 0) (v := .ref (S.2 v0 0)) hx hb hown hKK hH cf2 (by decide) fl_X2_12 rfl k2 rfl dX2_nightsUntilSettled_32 ?_
        refine lv_iconst (v := (nI 1)) hx hb dX2_nightsUntilSettled_35 (by decide) ?_
        refine hv_cVV (rm := rm_X1_passNights) (As := [.int (nI 1)]) (rest := []) (k := 1) (ci := 1) hx hb hml hown hKK hH cf1 k3 (m_X1_passNights (S.2 v0 0) (nI 1) _ _ hw) cw_X2_33 ⟨Nat.le_of_ble_eq_true rfl, Nat.le_of_ble_eq_true rfl⟩ rfl hl.1 rfl (Nat.le_of_ble_eq_true rfl) ⟨Nat.le_of_ble_eq_true rfl, Nat.le_of_ble_eq_true rfl⟩ dX2_nightsUntilSettled_36 (fun h7 H locs hH hw => ?_)
        refine lv_iinc (v := v3 + (nI 1)) (lv' := [(3, .int (v3 + (nI 1))), (0, .ref v0), (2, .int v2)]) hx hb dX2_nightsUntilSettled_39 hl (k := 2) rfl rfl (by decide) rfl (fun ls hl => ?_)
        refine lv_goto (tgt := 8) hx hb dX2_nightsUntilSettled_42 (by decide) ?_
        exact hK8 _ _ H locs ls hH (lv_sub hl [1, 2, 0] rfl) hw
      · have hw := ite_f hw c6
        refine lv_iload_n hx hb dX2_nightsUntilSettled_29 rfl (lv_at hl 2 rfl) ?_
        exact hv_iret hx hb hr hlk hH hw dX2_nightsUntilSettled_30
  unfold w_X2_nightsUntilSettled at hw
  show W p l e rm_X2_nightsUntilSettled s m args below meth c H [] 0 0 (QI G B S sz below args s Q) (F0 m 0 ls [])
  generalize ([] : List Loc) = locs at hH ⊢
  refine lv_aload_n hx hb dX2_nightsUntilSettled_0 rfl (lv_at hl 0 rfl) ?_
  refine lv_aload_n hx hb dX2_nightsUntilSettled_1 rfl (lv_at hl 1 rfl) ?_
  obtain ⟨k1, hw⟩ := hw
  refine hv_cVA (rm := rm_X2_think) (As := [.ref v1]) (rest := []) (k := 1) (ci := 2) hx hb hml hown hKK hH cf2 k1 (m_X2_think v0 v1 _ _ hw) cw_X2_29 ⟨Nat.le_of_ble_eq_true rfl, Nat.le_of_ble_eq_true rfl⟩ rfl hl.1 rfl (Nat.le_of_ble_eq_true rfl) ⟨Nat.le_of_ble_eq_true rfl, Nat.le_of_ble_eq_true rfl⟩ dX2_nightsUntilSettled_2 (fun r3 h2 H locs hH hw => ?_)
  refine lv_pop hx hb dX2_nightsUntilSettled_5 rfl ?_
  refine lv_iconst (v := (nI 0)) hx hb dX2_nightsUntilSettled_6 (by decide) ?_
  refine lv_istore_n (lv' := [(3, .int (nI 0)), (0, .ref v0), (1, .ref v1), (2, .int v2)]) hx hb dX2_nightsUntilSettled_7 rfl hl (by decide) rfl (fun ls hl => ?_)
  exact c8 _ _ _ _ H locs ls hH (lv_sub hl [1, 3, 0] rfl) hw
abbrev rm_X2_firstToSettle : Room := { frames := 5, cells := 0, slots := 0, locals := 145 }
set_option maxHeartbeats 4000000 in
set_option maxRecDepth 100000 in
theorem m_X2_firstToSettle {l : Launch} {G : Gl} {B sz : Nat} {S : St} (v0 : Nat) (v1 : Nat) (h : Hp) (Q : Int32 → Hp → Prop) (hw : w_X2_firstToSettle S v0 v1 h Q) : MI l G B sz S yX2_firstToSettle cX2_firstToSettle 4 .int rm_X2_firstToSettle [.ref v0, .ref v1] h Q := by
  refine met_of rfl rfl ?_
  intro p e s m args below meth c hMB H ls hH hl
  obtain ⟨hx, hb, hml, hown, hKK, hr, hlk⟩ := hMB
  replace hl : lv_has ls 4 [(0, .ref v0), (1, .ref v1)] := hl
  have c8 : ∀  (v0 : Nat) (v1 : Nat) (v2 : Int32) (h : Hp) (H : Heap) (locs : List Loc) (ls : Array Slot), HH G B S h sz s H locs → lv_has ls 4 [(0, .ref v0), (1, .ref v1), (2, .int v2)] → w_X2_firstToSettle_c8 S v0 v1 v2 h Q → W p l e rm_X2_firstToSettle s m args below meth c H locs 0 0 (QI G B S sz below args s Q) (F0 m 8 ls []) := by
    intro  v0 v1 v2 h H locs ls hH hl hw
    unfold w_X2_firstToSettle_c8 at hw
    obtain ⟨P8, hP8⟩ : ∃ P : Int32 → Hp → Prop, ∀ (v2 : Int32) (h : Hp), P v2 h ↔ (∀ (H : Heap) (locs : List Loc) (ls : Array Slot), HH G B S h sz s H locs → lv_has ls 4 [(0, .ref v0), (1, .ref v1), (2, .int v2)] → W p l e rm_X2_firstToSettle s m args below meth c H locs 0 0 (QI G B S sz below args s Q) (F0 m 8 ls [])) := ⟨_, fun v2 h => Iff.rfl⟩
    refine (hP8 v2 h).1 (hw P8 (fun v2 h hw => (hP8 v2 h).2 (fun H locs ls hH hl => ?_))) H locs ls hH hl
    have hK8 : ∀ (v2 : Int32) (h : Hp) (H : Heap) (locs : List Loc) (ls : Array Slot), HH G B S h sz s H locs → lv_has ls 4 [(0, .ref v0), (1, .ref v1), (2, .int v2)] → P8 v2 h → W p l e rm_X2_firstToSettle s m args below meth c H locs 0 0 (QI G B S sz below args s Q) (F0 m 8 ls []) := fun v2 h H locs ls hH hl hk => (hP8 v2 h).1 hk H locs ls hH hl
    refine lv_iload_n hx hb dX2_firstToSettle_8 rfl (lv_at hl 2 rfl) ?_
    refine lv_bipush (v := (nI 60)) hx hb dX2_firstToSettle_9 (by decide) ?_
    refine lv_icmp_ge (tgt := 52) hx hb dX2_firstToSettle_11 (by decide) (fun c1 => ?_) (fun c1 => ?_)
    · have hw := ite_t hw c1
      refine lv_bipush (v := (-9)) hx hb dX2_firstToSettle_52 (by decide) ?_
      exact hv_iret hx hb hr hlk hH hw dX2_firstToSettle_54
    · have hw := ite_f hw c1
      refine lv_aload_n hx hb dX2_firstToSettle_14 rfl (lv_at hl 0 rfl) ?_
      obtain ⟨k2, hw⟩ := hw
      refine hv_get (ci := 2) (k := 0) (v := .ref (S.2 v0 0)) hx hb hown hKK hH cf2 (by decide) fl_X2_12 rfl k2 rfl dX2_firstToSettle_15 ?_
      refine lv_iconst (v := (nI 1)) hx hb dX2_firstToSettle_18 (by decide) ?_
      obtain ⟨k3, hw⟩ := hw
      refine hv_cVV (rm := rm_X1_passNights) (As := [.int (nI 1)]) (rest := []) (k := 1) (ci := 1) hx hb hml hown hKK hH cf1 k3 (m_X1_passNights (S.2 v0 0) (nI 1) _ _ hw) cw_X2_33 ⟨Nat.le_of_ble_eq_true rfl, Nat.le_of_ble_eq_true rfl⟩ rfl hl.1 rfl (Nat.le_of_ble_eq_true rfl) ⟨Nat.le_of_ble_eq_true rfl, Nat.le_of_ble_eq_true rfl⟩ dX2_firstToSettle_19 (fun h4 H locs hH hw => ?_)
      refine lv_aload_n hx hb dX2_firstToSettle_22 rfl (lv_at hl 0 rfl) ?_
      refine hv_get (ci := 2) (k := 0) (v := .ref (S.2 v0 0)) hx hb hown hKK hH cf2 (by decide) fl_X2_12 rfl k2 rfl dX2_firstToSettle_23 ?_
      refine hv_cVI (rm := rm_X1_settledBits) (As := []) (rest := []) (k := 0) (ci := 1) hx hb hml hown hKK hH cf1 k3 (m_X1_settledBits (S.2 v0 0) _ _ hw) cw_X2_51 ⟨Nat.le_of_ble_eq_true rfl, Nat.le_of_ble_eq_true rfl⟩ rfl hl.1 rfl (Nat.le_of_ble_eq_true rfl) ⟨Nat.le_of_ble_eq_true rfl, Nat.le_of_ble_eq_true rfl⟩ dX2_firstToSettle_26 (fun r6 h5 H locs hH hw => ?_)
      refine lv_aload_n hx hb dX2_firstToSettle_29 rfl (lv_at hl 1 rfl) ?_
      obtain ⟨k7, hw⟩ := hw
      refine hv_cVI (rm := rm_X1_settledBits) (As := []) (rest := [.int r6]) (k := 0) (ci := 1) hx hb hml hown hKK hH cf1 k7 (m_X1_settledBits v1 _ _ hw) cw_X2_51 ⟨Nat.le_of_ble_eq_true rfl, Nat.le_of_ble_eq_true rfl⟩ rfl hl.1 rfl (Nat.le_of_ble_eq_true rfl) ⟨Nat.le_of_ble_eq_true rfl, Nat.le_of_ble_eq_true rfl⟩ dX2_firstToSettle_30 (fun r9 h8 H locs hH hw => ?_)
      refine lv_iconst (v := (-1)) hx hb dX2_firstToSettle_33 (by decide) ?_
      refine lv_ixor hx hb dX2_firstToSettle_34 ?_
      refine lv_iand hx hb dX2_firstToSettle_35 ?_
      refine lv_istore_n (lv' := [(3, .int (r6 &&& (r9 ^^^ (-1)))), (0, .ref v0), (1, .ref v1), (2, .int v2)]) hx hb dX2_firstToSettle_36 rfl hl (by decide) rfl (fun ls hl => ?_)
      refine lv_iload_n hx hb dX2_firstToSettle_37 rfl (lv_at hl 0 rfl) ?_
      refine lv_if_eq (tgt := 46) hx hb dX2_firstToSettle_38 (by decide) (fun c10 => ?_) (fun c10 => ?_)
      · have hw := ite_t hw c10
        refine lv_iinc (v := v2 + (nI 1)) (lv' := [(2, .int (v2 + (nI 1))), (3, .int (r6 &&& (r9 ^^^ (-1)))), (0, .ref v0), (1, .ref v1)]) hx hb dX2_firstToSettle_46 hl (k := 3) rfl rfl (by decide) rfl (fun ls hl => ?_)
        refine lv_goto (tgt := 8) hx hb dX2_firstToSettle_49 (by decide) ?_
        exact hK8 _ _ H locs ls hH (lv_sub hl [2, 3, 0] rfl) hw
      · have hw := ite_f hw c10
        refine lv_iload_n hx hb dX2_firstToSettle_41 rfl (lv_at hl 0 rfl) ?_
        refine hv_cSI (rm := rm_J6_numberOfTrailingZeros_0f7a4) (As := [.int (r6 &&& (r9 ^^^ (-1)))]) (rest := []) (k := 1) hx hb hml hown hKK hH (m_J6_numberOfTrailingZeros_0f7a4 (r6 &&& (r9 ^^^ (-1))) _ _ hw) cw_X2_55 ⟨Nat.le_of_ble_eq_true rfl, Nat.le_of_ble_eq_true rfl⟩ rfl hl.1 rfl (Nat.le_of_ble_eq_true rfl) ⟨Nat.le_of_ble_eq_true rfl, Nat.le_of_ble_eq_true rfl⟩ dX2_firstToSettle_42 (fun r12 h11 H locs hH hw => ?_)
        exact hv_iret hx hb hr hlk hH hw dX2_firstToSettle_45
  unfold w_X2_firstToSettle at hw
  show W p l e rm_X2_firstToSettle s m args below meth c H [] 0 0 (QI G B S sz below args s Q) (F0 m 0 ls [])
  generalize ([] : List Loc) = locs at hH ⊢
  refine lv_aload_n hx hb dX2_firstToSettle_0 rfl (lv_at hl 0 rfl) ?_
  refine lv_aload_n hx hb dX2_firstToSettle_1 rfl (lv_at hl 1 rfl) ?_
  obtain ⟨k1, hw⟩ := hw
  refine hv_cVA (rm := rm_X2_think) (As := [.ref v1]) (rest := []) (k := 1) (ci := 2) hx hb hml hown hKK hH cf2 k1 (m_X2_think v0 v1 _ _ hw) cw_X2_29 ⟨Nat.le_of_ble_eq_true rfl, Nat.le_of_ble_eq_true rfl⟩ rfl hl.1 rfl (Nat.le_of_ble_eq_true rfl) ⟨Nat.le_of_ble_eq_true rfl, Nat.le_of_ble_eq_true rfl⟩ dX2_firstToSettle_2 (fun r3 h2 H locs hH hw => ?_)
  refine lv_pop hx hb dX2_firstToSettle_5 rfl ?_
  refine lv_iconst (v := (nI 0)) hx hb dX2_firstToSettle_6 (by decide) ?_
  refine lv_istore_n (lv' := [(2, .int (nI 0)), (0, .ref v0), (1, .ref v1)]) hx hb dX2_firstToSettle_7 rfl hl (by decide) rfl (fun ls hl => ?_)
  exact c8 _ _ _ _ H locs ls hH (lv_sub hl [1, 2, 0] rfl) hw
abbrev rm_X2_nightsUntilTogether : Room := { frames := 5, cells := 0, slots := 0, locals := 145 }
set_option maxHeartbeats 4000000 in
set_option maxRecDepth 100000 in
theorem m_X2_nightsUntilTogether {l : Launch} {G : Gl} {B sz : Nat} {S : St} (v0 : Nat) (v1 : Nat) (v2 : Int32) (v3 : Int32) (h : Hp) (Q : Int32 → Hp → Prop) (hw : w_X2_nightsUntilTogether S v0 v1 v2 v3 h Q) : MI l G B sz S yX2_nightsUntilTogether cX2_nightsUntilTogether 5 .int rm_X2_nightsUntilTogether [.ref v0, .ref v1, .int v2, .int v3] h Q := by
  refine met_of rfl rfl ?_
  intro p e s m args below meth c hMB H ls hH hl
  obtain ⟨hx, hb, hml, hown, hKK, hr, hlk⟩ := hMB
  replace hl : lv_has ls 5 [(0, .ref v0), (1, .ref v1), (2, .int v2), (3, .int v3)] := hl
  have c9 : ∀  (v0 : Nat) (v2 : Int32) (v3 : Int32) (v4 : Int32) (h : Hp) (H : Heap) (locs : List Loc) (ls : Array Slot), HH G B S h sz s H locs → lv_has ls 5 [(0, .ref v0), (2, .int v2), (3, .int v3), (4, .int v4)] → w_X2_nightsUntilTogether_c9 S v0 v2 v3 v4 h Q → W p l e rm_X2_nightsUntilTogether s m args below meth c H locs 0 0 (QI G B S sz below args s Q) (F0 m 9 ls []) := by
    intro  v0 v2 v3 v4 h H locs ls hH hl hw
    unfold w_X2_nightsUntilTogether_c9 at hw
    obtain ⟨P9, hP9⟩ : ∃ P : Int32 → Hp → Prop, ∀ (v4 : Int32) (h : Hp), P v4 h ↔ (∀ (H : Heap) (locs : List Loc) (ls : Array Slot), HH G B S h sz s H locs → lv_has ls 5 [(0, .ref v0), (2, .int v2), (3, .int v3), (4, .int v4)] → W p l e rm_X2_nightsUntilTogether s m args below meth c H locs 0 0 (QI G B S sz below args s Q) (F0 m 9 ls [])) := ⟨_, fun v4 h => Iff.rfl⟩
    refine (hP9 v4 h).1 (hw P9 (fun v4 h hw => (hP9 v4 h).2 (fun H locs ls hH hl => ?_))) H locs ls hH hl
    have hK9 : ∀ (v4 : Int32) (h : Hp) (H : Heap) (locs : List Loc) (ls : Array Slot), HH G B S h sz s H locs → lv_has ls 5 [(0, .ref v0), (2, .int v2), (3, .int v3), (4, .int v4)] → P9 v4 h → W p l e rm_X2_nightsUntilTogether s m args below meth c H locs 0 0 (QI G B S sz below args s Q) (F0 m 9 ls []) := fun v4 h H locs ls hH hl hk => (hP9 v4 h).1 hk H locs ls hH hl
    refine lv_iload hx hb dX2_nightsUntilTogether_9 (lv_at hl 3 rfl) ?_
    refine lv_bipush (v := (nI 60)) hx hb dX2_nightsUntilTogether_11 (by decide) ?_
    refine lv_icmp_gt (tgt := 60) hx hb dX2_nightsUntilTogether_13 (by decide) (fun c1 => ?_) (fun c1 => ?_)
    · have hw := ite_t hw c1
      refine lv_bipush (v := (-9)) hx hb dX2_nightsUntilTogether_60 (by decide) ?_
      exact hv_iret hx hb hr hlk hH hw dX2_nightsUntilTogether_62
    · have hw := ite_f hw c1
      refine lv_aload_n hx hb dX2_nightsUntilTogether_16 rfl (lv_at hl 0 rfl) ?_
      obtain ⟨k2, hw⟩ := hw
      refine hv_get (ci := 2) (k := 0) (v := .ref (S.2 v0 0)) hx hb hown hKK hH cf2 (by decide) fl_X2_12 rfl k2 rfl dX2_nightsUntilTogether_17 ?_
      obtain ⟨k3, hw⟩ := hw
      refine hv_getN (ci := 1) (k := 3) (v := .ref (S.2 (S.2 v0 0) 3)) hx hb hown hKK hH cf1 (by decide) fl_X2_37 rfl k3 rfl dX2_nightsUntilTogether_20 ?_
      refine lv_iload_n hx hb dX2_nightsUntilTogether_23 rfl (lv_at hl 1 rfl) ?_
      obtain ⟨k4, hw⟩ := hw
      refine hv_aald (t := 1) hx hb (by decide) hKK hH k4 dX2_nightsUntilTogether_24 ?_
      obtain ⟨k5, hw⟩ := hw
      refine hv_getN (ci := 0) (k := 4) (v := .int (h (S.2 (S.2 (S.2 v0 0) 3) (ix v2)) 4)) hx hb hown hKK hH cf0 (by decide) fl_X2_41 rfl k5 rfl dX2_nightsUntilTogether_25 ?_
      refine lv_aload_n hx hb dX2_nightsUntilTogether_28 rfl (lv_at hl 0 rfl) ?_
      refine hv_get (ci := 2) (k := 0) (v := .ref (S.2 v0 0)) hx hb hown hKK hH cf2 (by decide) fl_X2_12 rfl k2 rfl dX2_nightsUntilTogether_29 ?_
      refine hv_getN (ci := 1) (k := 3) (v := .ref (S.2 (S.2 v0 0) 3)) hx hb hown hKK hH cf1 (by decide) fl_X2_37 rfl k3 rfl dX2_nightsUntilTogether_32 ?_
      refine lv_iload_n hx hb dX2_nightsUntilTogether_35 rfl (lv_at hl 2 rfl) ?_
      obtain ⟨k6, hw⟩ := hw
      refine hv_aald (t := 1) hx hb (by decide) hKK hH k6 dX2_nightsUntilTogether_36 ?_
      obtain ⟨k7, hw⟩ := hw
      refine hv_getN (ci := 0) (k := 4) (v := .int (h (S.2 (S.2 (S.2 v0 0) 3) (ix v3)) 4)) hx hb hown hKK hH cf0 (by decide) fl_X2_41 rfl k7 rfl dX2_nightsUntilTogether_37 ?_
      refine lv_icmp_ne (tgt := 46) hx hb dX2_nightsUntilTogether_40 (by decide) (fun c8 => ?_) (fun c8 => ?_)
      · have hw := ite_f hw c8
        refine lv_aload_n hx hb dX2_nightsUntilTogether_46 rfl (lv_at hl 0 rfl) ?_
        refine hv_get (ci := 2) (k := 0) (v := .ref (S.2 v0 0)) hx hb hown hKK hH cf2 (by decide) fl_X2_12 rfl k2 rfl dX2_nightsUntilTogether_47 ?_
        refine lv_iconst (v := (nI 1)) hx hb dX2_nightsUntilTogether_50 (by decide) ?_
        refine hv_cVV (rm := rm_X1_passNights) (As := [.int (nI 1)]) (rest := []) (k := 1) (ci := 1) hx hb hml hown hKK hH cf1 k3 (m_X1_passNights (S.2 v0 0) (nI 1) _ _ hw) cw_X2_33 ⟨Nat.le_of_ble_eq_true rfl, Nat.le_of_ble_eq_true rfl⟩ rfl hl.1 rfl (Nat.le_of_ble_eq_true rfl) ⟨Nat.le_of_ble_eq_true rfl, Nat.le_of_ble_eq_true rfl⟩ dX2_nightsUntilTogether_51 (fun h9 H locs hH hw => ?_)
        refine lv_iinc (v := v4 + (nI 1)) (lv' := [(4, .int (v4 + (nI 1))), (0, .ref v0), (2, .int v2), (3, .int v3)]) hx hb dX2_nightsUntilTogether_54 hl (k := 3) rfl rfl (by decide) rfl (fun ls hl => ?_)
        refine lv_goto (tgt := 9) hx hb dX2_nightsUntilTogether_57 (by decide) ?_
        exact hK9 _ _ H locs ls hH (lv_sub hl [1, 2, 3, 0] rfl) hw
      · have hw := ite_t hw c8
        refine lv_iload hx hb dX2_nightsUntilTogether_43 (lv_at hl 3 rfl) ?_
        exact hv_iret hx hb hr hlk hH hw dX2_nightsUntilTogether_45
  unfold w_X2_nightsUntilTogether at hw
  show W p l e rm_X2_nightsUntilTogether s m args below meth c H [] 0 0 (QI G B S sz below args s Q) (F0 m 0 ls [])
  generalize ([] : List Loc) = locs at hH ⊢
  refine lv_aload_n hx hb dX2_nightsUntilTogether_0 rfl (lv_at hl 0 rfl) ?_
  refine lv_aload_n hx hb dX2_nightsUntilTogether_1 rfl (lv_at hl 1 rfl) ?_
  obtain ⟨k1, hw⟩ := hw
  refine hv_cVA (rm := rm_X2_think) (As := [.ref v1]) (rest := []) (k := 1) (ci := 2) hx hb hml hown hKK hH cf2 k1 (m_X2_think v0 v1 _ _ hw) cw_X2_29 ⟨Nat.le_of_ble_eq_true rfl, Nat.le_of_ble_eq_true rfl⟩ rfl hl.1 rfl (Nat.le_of_ble_eq_true rfl) ⟨Nat.le_of_ble_eq_true rfl, Nat.le_of_ble_eq_true rfl⟩ dX2_nightsUntilTogether_2 (fun r3 h2 H locs hH hw => ?_)
  refine lv_pop hx hb dX2_nightsUntilTogether_5 rfl ?_
  refine lv_iconst (v := (nI 0)) hx hb dX2_nightsUntilTogether_6 (by decide) ?_
  refine lv_istore (lv' := [(4, .int (nI 0)), (0, .ref v0), (1, .ref v1), (2, .int v2), (3, .int v3)]) hx hb dX2_nightsUntilTogether_7 hl (by decide) rfl (fun ls hl => ?_)
  exact c9 _ _ _ _ _ H locs ls hH (lv_sub hl [1, 3, 4, 0] rfl) hw
