def w_X0_init (T : St2) (sz : Nat) (v0 : Nat) (h : Hp) (Q : St2 → Nat → Hp → Prop) : Prop := ∀ (T1 : St2) (r2 z3 : Nat) (h4 : Hp), T1 = nwT T sz (.inr (0, 6)) → r2 = sz → z3 = sz + 1 → h4 = zr h sz → (T1.1 v0 = some (.inl 0) ∧ (∀ (T10 : St2), T10 = stR T1 v0 2 r2 → (Q T10 z3 h4)))
abbrev rm_X0_init : Room := { frames := 1, cells := 1, slots := 6, locals := 12 }
set_option maxHeartbeats 4000000 in
set_option maxRecDepth 100000 in
theorem m_X0_init {l : Launch} {Z : Zg} {G : Gl} {B : Nat} (T : St2) (sz : Nat) (v0 : Nat) (h : Hp) (Q : St2 → Nat → Hp → Prop) (hw : w_X0_init T sz v0 h Q) : MC Z l G B T sz yX0_init cX0_init 1 rm_X0_init [.ref v0] h Q := by
  refine met_ofn rfl rfl rfl ?_
  intro p e s m args below meth c hNB H ls hH hl
  obtain ⟨hx, hb, hml, hown, hKK, hr, hlk, hSK, hNK, hin⟩ := hNB
  replace hl : lv_has ls 1 [(0, .ref v0)] := hl
  unfold w_X0_init at hw
  show W p l e rm_X0_init s m args below meth c H [] 0 0 (MQ below (va_Qv (fun u : St2 × Nat × Hp => Q u.1 u.2.1 u.2.2) (PPq G B) (PPa B)) args s rm_X0_init.cells rm_X0_init.slots (PPa B)) (F0 m 0 ls [])
  generalize ([] : List Loc) = locs at hH ⊢
  refine lv_aload_n hx hb dX0_init_0 rfl (lv_at hl 0 rfl) ?_
  refine W.objInit hx hb hown (hKK.use ol_X0_3 rfl _) (hKK.use oi_i rfl _) (hKK.use oi_c rfl _) rfl (by rw [hml]; exact hl.1) rfl dX0_init_1 (Nat.le_of_ble_eq_true rfl) (Nat.le_of_ble_eq_true rfl) ?_
  show W p l e rm_X0_init s m args below meth c H locs 0 0 _ (F0 m 4 ls [])
  refine lv_aload_n hx hb dX0_init_4 rfl (lv_at hl 0 rfl) ?_
  refine lv_bipush (v := (nI 6)) hx hb dX0_init_5 (by decide) ?_
  refine hn_newi (N := 6) hx hb hKK hH (nI_pos (by decide)) (nI_clamp (by decide)) (by decide) (Nat.le_of_ble_eq_true rfl) (Nat.le_of_ble_eq_true rfl) dX0_init_7 (fun T1 r2 z3 h4 H e5 e6 e7 e8 hH => ?_)
  have hw := hw T1 r2 z3 h4 e5 e6 e7 e8
  obtain ⟨k9, hw⟩ := hw
  refine hn_putr (ci := 0) (k := 2) (ty := tyX0) hx hb hown hKK hin hH cf0 (by decide) fl_X0_9 (Or.inr ⟨rfl, rfl⟩) rfl k9 rfl rfl dX0_init_9 (fun T10 H locs e11 hH => ?_)
  have hw := hw T10 e11
  exact hn_vret hx hb hr hlk hH hw dX0_init_12
def w_X1_init (T : St2) (sz : Nat) (v0 : Nat) (h : Hp) (Q : St2 → Nat → Hp → Prop) : Prop := ∀ (T1 : St2) (r2 z3 : Nat) (h4 : Hp), T1 = nwT T sz (.inr (0, 48)) → r2 = sz → z3 = sz + 1 → h4 = zr h sz → (T1.1 v0 = some (.inl 1) ∧ (∀ (T10 : St2), T10 = stR T1 v0 0 r2 → (∀ (T12 : St2) (r13 z14 : Nat) (h15 : Hp), T12 = nwT T10 z3 (.inr (0, 48)) → r13 = z3 → z14 = z3 + 1 → h15 = zr h4 z3 → (T12.1 v0 = some (.inl 1) ∧ (∀ (T21 : St2), T21 = stR T12 v0 1 r13 → (∀ (T23 : St2) (r24 z25 : Nat) (h26 : Hp), T23 = nwT T21 z14 (.inr (0, 48)) → r24 = z14 → z25 = z14 + 1 → h26 = zr h15 z14 → (T23.1 v0 = some (.inl 1) ∧ (∀ (T32 : St2), T32 = stR T23 v0 2 r24 → (∀ (T34 : St2) (r35 z36 : Nat) (h37 : Hp), T34 = nwT T32 z25 (.inr (1, 5)) → r35 = z25 → z36 = z25 + 1 → h37 = zr h26 z25 → (T34.1 v0 = some (.inl 1) ∧ (∀ (T43 : St2), T43 = stR T34 v0 3 r35 → (T43.1 v0 = some (.inl 1) ∧ (∃ r46, T43.2 v0 3 = some r46 ∧ (∀ (T48 : St2) (r49 z50 : Nat) (h51 : Hp), T48 = nwT T43 z36 (.inl 0) → r49 = z36 → z50 = z36 + 1 → h51 = zr h37 z36 → (w_X0_init T48 z50 r49 h51 (fun T56 z57 h58 => (∃ n59, T56.1 r46 = some (.inr (1, n59)) ∧ 0 < n59 ∧ n59 < 2 ^ 31 ∧ T56.1 r49 = some (.inl 0) ∧ (∀ (T64 : St2), T64 = stR T56 r46 0 r49 → (T64.1 v0 = some (.inl 1) ∧ (∃ r67, T64.2 v0 3 = some r67 ∧ (∀ (T69 : St2) (r70 z71 : Nat) (h72 : Hp), T69 = nwT T64 z57 (.inl 0) → r70 = z57 → z71 = z57 + 1 → h72 = zr h58 z57 → (w_X0_init T69 z71 r70 h72 (fun T77 z78 h79 => (∃ n80, T77.1 r67 = some (.inr (1, n80)) ∧ 1 < n80 ∧ n80 < 2 ^ 31 ∧ T77.1 r70 = some (.inl 0) ∧ (∀ (T85 : St2), T85 = stR T77 r67 1 r70 → (T85.1 v0 = some (.inl 1) ∧ (∃ r88, T85.2 v0 3 = some r88 ∧ (∀ (T90 : St2) (r91 z92 : Nat) (h93 : Hp), T90 = nwT T85 z78 (.inl 0) → r91 = z78 → z92 = z78 + 1 → h93 = zr h79 z78 → (w_X0_init T90 z92 r91 h93 (fun T98 z99 h100 => (∃ n101, T98.1 r88 = some (.inr (1, n101)) ∧ 2 < n101 ∧ n101 < 2 ^ 31 ∧ T98.1 r91 = some (.inl 0) ∧ (∀ (T106 : St2), T106 = stR T98 r88 2 r91 → (T106.1 v0 = some (.inl 1) ∧ (∃ r109, T106.2 v0 3 = some r109 ∧ (∀ (T111 : St2) (r112 z113 : Nat) (h114 : Hp), T111 = nwT T106 z99 (.inl 0) → r112 = z99 → z113 = z99 + 1 → h114 = zr h100 z99 → (w_X0_init T111 z113 r112 h114 (fun T119 z120 h121 => (∃ n122, T119.1 r109 = some (.inr (1, n122)) ∧ 3 < n122 ∧ n122 < 2 ^ 31 ∧ T119.1 r112 = some (.inl 0) ∧ (∀ (T127 : St2), T127 = stR T119 r109 3 r112 → (T127.1 v0 = some (.inl 1) ∧ (∃ r130, T127.2 v0 3 = some r130 ∧ (∀ (T132 : St2) (r133 z134 : Nat) (h135 : Hp), T132 = nwT T127 z120 (.inl 0) → r133 = z120 → z134 = z120 + 1 → h135 = zr h121 z120 → (w_X0_init T132 z134 r133 h135 (fun T140 z141 h142 => (∃ n143, T140.1 r130 = some (.inr (1, n143)) ∧ 4 < n143 ∧ n143 < 2 ^ 31 ∧ T140.1 r133 = some (.inl 0) ∧ (∀ (T148 : St2), T148 = stR T140 r130 4 r133 → (Q T148 z141 h142)))))))))))))))))))))))))))))))))))))))))))))))
abbrev rm_X1_init : Room := { frames := 2, cells := 14, slots := 224, locals := 32 }
set_option maxHeartbeats 4000000 in
set_option maxRecDepth 100000 in
theorem m_X1_init {l : Launch} {Z : Zg} {G : Gl} {B : Nat} (T : St2) (sz : Nat) (v0 : Nat) (h : Hp) (Q : St2 → Nat → Hp → Prop) (hw : w_X1_init T sz v0 h Q) : MC Z l G B T sz yX1_init cX1_init 2 rm_X1_init [.ref v0] h Q := by
  refine met_ofn rfl rfl rfl ?_
  intro p e s m args below meth c hNB H ls hH hl
  obtain ⟨hx, hb, hml, hown, hKK, hr, hlk, hSK, hNK, hin⟩ := hNB
  replace hl : lv_has ls 2 [(0, .ref v0)] := hl
  unfold w_X1_init at hw
  show W p l e rm_X1_init s m args below meth c H [] 0 0 (MQ below (va_Qv (fun u : St2 × Nat × Hp => Q u.1 u.2.1 u.2.2) (PPq G B) (PPa B)) args s rm_X1_init.cells rm_X1_init.slots (PPa B)) (F0 m 0 ls [])
  generalize ([] : List Loc) = locs at hH ⊢
  refine lv_aload_n hx hb dX1_init_0 rfl (lv_at hl 0 rfl) ?_
  refine W.objInit hx hb hown (hKK.use ol_X1_3 rfl _) (hKK.use oi_i rfl _) (hKK.use oi_c rfl _) rfl (by rw [hml]; exact hl.1) rfl dX1_init_1 (Nat.le_of_ble_eq_true rfl) (Nat.le_of_ble_eq_true rfl) ?_
  show W p l e rm_X1_init s m args below meth c H locs 0 0 _ (F0 m 4 ls [])
  refine lv_aload_n hx hb dX1_init_4 rfl (lv_at hl 0 rfl) ?_
  refine lv_bipush (v := (nI 48)) hx hb dX1_init_5 (by decide) ?_
  refine hn_newi (N := 48) hx hb hKK hH (nI_pos (by decide)) (nI_clamp (by decide)) (by decide) (Nat.le_of_ble_eq_true rfl) (Nat.le_of_ble_eq_true rfl) dX1_init_7 (fun T1 r2 z3 h4 H e5 e6 e7 e8 hH => ?_)
  have hw := hw T1 r2 z3 h4 e5 e6 e7 e8
  obtain ⟨k9, hw⟩ := hw
  refine hn_putr (ci := 1) (k := 0) (ty := tyX1) hx hb hown hKK hin hH cf1 (by decide) fl_X1_9 (Or.inr ⟨rfl, rfl⟩) rfl k9 rfl rfl dX1_init_9 (fun T10 H locs e11 hH => ?_)
  have hw := hw T10 e11
  refine lv_aload_n hx hb dX1_init_12 rfl (lv_at hl 0 rfl) ?_
  refine lv_bipush (v := (nI 48)) hx hb dX1_init_13 (by decide) ?_
  refine hn_newi (N := 48) hx hb hKK hH (nI_pos (by decide)) (nI_clamp (by decide)) (by decide) (Nat.le_of_ble_eq_true rfl) (Nat.le_of_ble_eq_true rfl) dX1_init_15 (fun T12 r13 z14 h15 H e16 e17 e18 e19 hH => ?_)
  have hw := hw T12 r13 z14 h15 e16 e17 e18 e19
  obtain ⟨k20, hw⟩ := hw
  refine hn_putr (ci := 1) (k := 1) (ty := tyX1) hx hb hown hKK hin hH cf1 (by decide) fl_X1_15 (Or.inr ⟨rfl, rfl⟩) rfl k20 rfl rfl dX1_init_17 (fun T21 H locs e22 hH => ?_)
  have hw := hw T21 e22
  refine lv_aload_n hx hb dX1_init_20 rfl (lv_at hl 0 rfl) ?_
  refine lv_bipush (v := (nI 48)) hx hb dX1_init_21 (by decide) ?_
  refine hn_newi (N := 48) hx hb hKK hH (nI_pos (by decide)) (nI_clamp (by decide)) (by decide) (Nat.le_of_ble_eq_true rfl) (Nat.le_of_ble_eq_true rfl) dX1_init_23 (fun T23 r24 z25 h26 H e27 e28 e29 e30 hH => ?_)
  have hw := hw T23 r24 z25 h26 e27 e28 e29 e30
  obtain ⟨k31, hw⟩ := hw
  refine hn_putr (ci := 1) (k := 2) (ty := tyX1) hx hb hown hKK hin hH cf1 (by decide) fl_X1_18 (Or.inr ⟨rfl, rfl⟩) rfl k31 rfl rfl dX1_init_25 (fun T32 H locs e33 hH => ?_)
  have hw := hw T32 e33
  refine lv_aload_n hx hb dX1_init_28 rfl (lv_at hl 0 rfl) ?_
  refine lv_iconst (v := (nI 5)) hx hb dX1_init_29 (by decide) ?_
  refine hn_newq (t := 1) (N := 5) hx hb (by decide) hown cl_X1_21 hNK.1 hKK (hKK.1.2 1 _ rfl).2 hH (nI_pos (by decide)) (nI_clamp (by decide)) (by decide) (Nat.le_of_ble_eq_true rfl) (Nat.le_of_ble_eq_true rfl) dX1_init_30 (fun T34 r35 z36 h37 H e38 e39 e40 e41 hH => ?_)
  have hw := hw T34 r35 z36 h37 e38 e39 e40 e41
  obtain ⟨k42, hw⟩ := hw
  refine hn_putr (ci := 1) (k := 3) (ty := tyX1) hx hb hown hKK hin hH cf1 (by decide) fl_X1_23 (Or.inr ⟨rfl, rfl⟩) rfl k42 rfl rfl dX1_init_33 (fun T43 H locs e44 hH => ?_)
  have hw := hw T43 e44
  refine lv_iconst (v := (nI 0)) hx hb dX1_init_36 (by decide) ?_
  refine lv_istore_n (lv' := [(1, .int (nI 0)), (0, .ref v0)]) hx hb dX1_init_37 rfl hl (by decide) rfl (fun ls hl => ?_)
  refine lv_iload_n hx hb dX1_init_38 rfl (lv_at hl 0 rfl) ?_
  refine lv_iconst (v := (nI 5)) hx hb dX1_init_39 (by decide) ?_
  refine lv_icmp_ge (tgt := 62) hx hb dX1_init_40 (by decide) (fun c => absurd c (by decide)) (fun _ => ?_)
  refine lv_aload_n hx hb dX1_init_43 rfl (lv_at hl 1 rfl) ?_
  obtain ⟨k45, hw⟩ := hw
  obtain ⟨r46, k47, hw⟩ := hw
  refine hn_get (ci := 1) (k := 3) (ty := tyX1) hx hb hown hKK hH cf1 (by decide) fl_X1_23 rfl k45 k47 dX1_init_44 ?_
  refine lv_iload_n hx hb dX1_init_47 rfl (lv_at hl 0 rfl) ?_
  refine hn_new (ci := 0) (ty := tyX0) hx hb hown hKK hH cf0 cl_X1_21 in_X0 wi_X0 df_0 (Nat.le_of_ble_eq_true rfl) (Nat.le_of_ble_eq_true rfl) dX1_init_48 (fun T48 r49 z50 h51 H e52 e53 e54 e55 hH => ?_)
  have hw := hw T48 r49 z50 h51 e52 e53 e54 e55
  refine lv_dup hx hb dX1_init_51 rfl ?_
  refine hn_cI (rm := rm_X0_init) (As := []) (rest := [.ref r49, .int (nI 0), .ref r46]) (k := 0) hx hb hml hown hKK hSK hNK hH (m_X0_init _ _ _ _ _ hw) ci_X1_27 ⟨(Nat.le_of_ble_eq_true rfl), (Nat.le_of_ble_eq_true rfl)⟩ rfl hl.1 rfl (Nat.le_of_ble_eq_true rfl) ⟨(Nat.le_of_ble_eq_true rfl), (Nat.le_of_ble_eq_true rfl)⟩ dX1_init_52 (fun T56 z57 h58 H locs hH hw => ?_)
  obtain ⟨n59, k60, k61, k62, k63, hw⟩ := hw
  refine hn_aast (t := 1) (ci := 0) hx hb (by decide) cf0 hKK (hKK.1.2 1 _ rfl).2 hH k60 k63 rfl k61 k62 dX1_init_55 (fun T64 H locs e65 hH => ?_)
  have hw := hw T64 e65
  refine lv_iinc (v := (nI 1)) (lv' := [(1, .int (nI 1)), (0, .ref v0)]) hx hb dX1_init_56 hl (k := 0) rfl (by decide) (by decide) rfl (fun ls hl => ?_)
  refine lv_goto (tgt := 38) hx hb dX1_init_59 (by decide) ?_
  refine lv_iload_n hx hb dX1_init_38 rfl (lv_at hl 0 rfl) ?_
  refine lv_iconst (v := (nI 5)) hx hb dX1_init_39 (by decide) ?_
  refine lv_icmp_ge (tgt := 62) hx hb dX1_init_40 (by decide) (fun c => absurd c (by decide)) (fun _ => ?_)
  refine lv_aload_n hx hb dX1_init_43 rfl (lv_at hl 1 rfl) ?_
  obtain ⟨k66, hw⟩ := hw
  obtain ⟨r67, k68, hw⟩ := hw
  refine hn_get (ci := 1) (k := 3) (ty := tyX1) hx hb hown hKK hH cf1 (by decide) fl_X1_23 rfl k66 k68 dX1_init_44 ?_
  refine lv_iload_n hx hb dX1_init_47 rfl (lv_at hl 0 rfl) ?_
  refine hn_new (ci := 0) (ty := tyX0) hx hb hown hKK hH cf0 cl_X1_21 in_X0 wi_X0 df_0 (Nat.le_of_ble_eq_true rfl) (Nat.le_of_ble_eq_true rfl) dX1_init_48 (fun T69 r70 z71 h72 H e73 e74 e75 e76 hH => ?_)
  have hw := hw T69 r70 z71 h72 e73 e74 e75 e76
  refine lv_dup hx hb dX1_init_51 rfl ?_
  refine hn_cI (rm := rm_X0_init) (As := []) (rest := [.ref r70, .int (nI 1), .ref r67]) (k := 0) hx hb hml hown hKK hSK hNK hH (m_X0_init _ _ _ _ _ hw) ci_X1_27 ⟨(Nat.le_of_ble_eq_true rfl), (Nat.le_of_ble_eq_true rfl)⟩ rfl hl.1 rfl (Nat.le_of_ble_eq_true rfl) ⟨(Nat.le_of_ble_eq_true rfl), (Nat.le_of_ble_eq_true rfl)⟩ dX1_init_52 (fun T77 z78 h79 H locs hH hw => ?_)
  obtain ⟨n80, k81, k82, k83, k84, hw⟩ := hw
  refine hn_aast (t := 1) (ci := 0) hx hb (by decide) cf0 hKK (hKK.1.2 1 _ rfl).2 hH k81 k84 rfl k82 k83 dX1_init_55 (fun T85 H locs e86 hH => ?_)
  have hw := hw T85 e86
  refine lv_iinc (v := (nI 2)) (lv' := [(1, .int (nI 2)), (0, .ref v0)]) hx hb dX1_init_56 hl (k := 0) rfl (by decide) (by decide) rfl (fun ls hl => ?_)
  refine lv_goto (tgt := 38) hx hb dX1_init_59 (by decide) ?_
  refine lv_iload_n hx hb dX1_init_38 rfl (lv_at hl 0 rfl) ?_
  refine lv_iconst (v := (nI 5)) hx hb dX1_init_39 (by decide) ?_
  refine lv_icmp_ge (tgt := 62) hx hb dX1_init_40 (by decide) (fun c => absurd c (by decide)) (fun _ => ?_)
  refine lv_aload_n hx hb dX1_init_43 rfl (lv_at hl 1 rfl) ?_
  obtain ⟨k87, hw⟩ := hw
  obtain ⟨r88, k89, hw⟩ := hw
  refine hn_get (ci := 1) (k := 3) (ty := tyX1) hx hb hown hKK hH cf1 (by decide) fl_X1_23 rfl k87 k89 dX1_init_44 ?_
  refine lv_iload_n hx hb dX1_init_47 rfl (lv_at hl 0 rfl) ?_
  refine hn_new (ci := 0) (ty := tyX0) hx hb hown hKK hH cf0 cl_X1_21 in_X0 wi_X0 df_0 (Nat.le_of_ble_eq_true rfl) (Nat.le_of_ble_eq_true rfl) dX1_init_48 (fun T90 r91 z92 h93 H e94 e95 e96 e97 hH => ?_)
  have hw := hw T90 r91 z92 h93 e94 e95 e96 e97
  refine lv_dup hx hb dX1_init_51 rfl ?_
  refine hn_cI (rm := rm_X0_init) (As := []) (rest := [.ref r91, .int (nI 2), .ref r88]) (k := 0) hx hb hml hown hKK hSK hNK hH (m_X0_init _ _ _ _ _ hw) ci_X1_27 ⟨(Nat.le_of_ble_eq_true rfl), (Nat.le_of_ble_eq_true rfl)⟩ rfl hl.1 rfl (Nat.le_of_ble_eq_true rfl) ⟨(Nat.le_of_ble_eq_true rfl), (Nat.le_of_ble_eq_true rfl)⟩ dX1_init_52 (fun T98 z99 h100 H locs hH hw => ?_)
  obtain ⟨n101, k102, k103, k104, k105, hw⟩ := hw
  refine hn_aast (t := 1) (ci := 0) hx hb (by decide) cf0 hKK (hKK.1.2 1 _ rfl).2 hH k102 k105 rfl k103 k104 dX1_init_55 (fun T106 H locs e107 hH => ?_)
  have hw := hw T106 e107
  refine lv_iinc (v := (nI 3)) (lv' := [(1, .int (nI 3)), (0, .ref v0)]) hx hb dX1_init_56 hl (k := 0) rfl (by decide) (by decide) rfl (fun ls hl => ?_)
  refine lv_goto (tgt := 38) hx hb dX1_init_59 (by decide) ?_
  refine lv_iload_n hx hb dX1_init_38 rfl (lv_at hl 0 rfl) ?_
  refine lv_iconst (v := (nI 5)) hx hb dX1_init_39 (by decide) ?_
  refine lv_icmp_ge (tgt := 62) hx hb dX1_init_40 (by decide) (fun c => absurd c (by decide)) (fun _ => ?_)
  refine lv_aload_n hx hb dX1_init_43 rfl (lv_at hl 1 rfl) ?_
  obtain ⟨k108, hw⟩ := hw
  obtain ⟨r109, k110, hw⟩ := hw
  refine hn_get (ci := 1) (k := 3) (ty := tyX1) hx hb hown hKK hH cf1 (by decide) fl_X1_23 rfl k108 k110 dX1_init_44 ?_
  refine lv_iload_n hx hb dX1_init_47 rfl (lv_at hl 0 rfl) ?_
  refine hn_new (ci := 0) (ty := tyX0) hx hb hown hKK hH cf0 cl_X1_21 in_X0 wi_X0 df_0 (Nat.le_of_ble_eq_true rfl) (Nat.le_of_ble_eq_true rfl) dX1_init_48 (fun T111 r112 z113 h114 H e115 e116 e117 e118 hH => ?_)
  have hw := hw T111 r112 z113 h114 e115 e116 e117 e118
  refine lv_dup hx hb dX1_init_51 rfl ?_
  refine hn_cI (rm := rm_X0_init) (As := []) (rest := [.ref r112, .int (nI 3), .ref r109]) (k := 0) hx hb hml hown hKK hSK hNK hH (m_X0_init _ _ _ _ _ hw) ci_X1_27 ⟨(Nat.le_of_ble_eq_true rfl), (Nat.le_of_ble_eq_true rfl)⟩ rfl hl.1 rfl (Nat.le_of_ble_eq_true rfl) ⟨(Nat.le_of_ble_eq_true rfl), (Nat.le_of_ble_eq_true rfl)⟩ dX1_init_52 (fun T119 z120 h121 H locs hH hw => ?_)
  obtain ⟨n122, k123, k124, k125, k126, hw⟩ := hw
  refine hn_aast (t := 1) (ci := 0) hx hb (by decide) cf0 hKK (hKK.1.2 1 _ rfl).2 hH k123 k126 rfl k124 k125 dX1_init_55 (fun T127 H locs e128 hH => ?_)
  have hw := hw T127 e128
  refine lv_iinc (v := (nI 4)) (lv' := [(1, .int (nI 4)), (0, .ref v0)]) hx hb dX1_init_56 hl (k := 0) rfl (by decide) (by decide) rfl (fun ls hl => ?_)
  refine lv_goto (tgt := 38) hx hb dX1_init_59 (by decide) ?_
  refine lv_iload_n hx hb dX1_init_38 rfl (lv_at hl 0 rfl) ?_
  refine lv_iconst (v := (nI 5)) hx hb dX1_init_39 (by decide) ?_
  refine lv_icmp_ge (tgt := 62) hx hb dX1_init_40 (by decide) (fun c => absurd c (by decide)) (fun _ => ?_)
  refine lv_aload_n hx hb dX1_init_43 rfl (lv_at hl 1 rfl) ?_
  obtain ⟨k129, hw⟩ := hw
  obtain ⟨r130, k131, hw⟩ := hw
  refine hn_get (ci := 1) (k := 3) (ty := tyX1) hx hb hown hKK hH cf1 (by decide) fl_X1_23 rfl k129 k131 dX1_init_44 ?_
  refine lv_iload_n hx hb dX1_init_47 rfl (lv_at hl 0 rfl) ?_
  refine hn_new (ci := 0) (ty := tyX0) hx hb hown hKK hH cf0 cl_X1_21 in_X0 wi_X0 df_0 (Nat.le_of_ble_eq_true rfl) (Nat.le_of_ble_eq_true rfl) dX1_init_48 (fun T132 r133 z134 h135 H e136 e137 e138 e139 hH => ?_)
  have hw := hw T132 r133 z134 h135 e136 e137 e138 e139
  refine lv_dup hx hb dX1_init_51 rfl ?_
  refine hn_cI (rm := rm_X0_init) (As := []) (rest := [.ref r133, .int (nI 4), .ref r130]) (k := 0) hx hb hml hown hKK hSK hNK hH (m_X0_init _ _ _ _ _ hw) ci_X1_27 ⟨(Nat.le_of_ble_eq_true rfl), (Nat.le_of_ble_eq_true rfl)⟩ rfl hl.1 rfl (Nat.le_of_ble_eq_true rfl) ⟨(Nat.le_of_ble_eq_true rfl), (Nat.le_of_ble_eq_true rfl)⟩ dX1_init_52 (fun T140 z141 h142 H locs hH hw => ?_)
  obtain ⟨n143, k144, k145, k146, k147, hw⟩ := hw
  refine hn_aast (t := 1) (ci := 0) hx hb (by decide) cf0 hKK (hKK.1.2 1 _ rfl).2 hH k144 k147 rfl k145 k146 dX1_init_55 (fun T148 H locs e149 hH => ?_)
  have hw := hw T148 e149
  refine lv_iinc (v := (nI 5)) (lv' := [(1, .int (nI 5)), (0, .ref v0)]) hx hb dX1_init_56 hl (k := 0) rfl (by decide) (by decide) rfl (fun ls hl => ?_)
  refine lv_goto (tgt := 38) hx hb dX1_init_59 (by decide) ?_
  refine lv_iload_n hx hb dX1_init_38 rfl (lv_at hl 0 rfl) ?_
  refine lv_iconst (v := (nI 5)) hx hb dX1_init_39 (by decide) ?_
  refine lv_icmp_ge (tgt := 62) hx hb dX1_init_40 (by decide) (fun _ => ?_) (fun c => absurd (by decide) c)
  exact hn_vret hx hb hr hlk hH hw dX1_init_62
def w_X2_init (T : St2) (sz : Nat) (v0 : Nat) (h : Hp) (Q : St2 → Nat → Hp → Prop) : Prop := ∀ (T1 : St2) (r2 z3 : Nat) (h4 : Hp), T1 = nwT T sz (.inl 1) → r2 = sz → z3 = sz + 1 → h4 = zr h sz → (w_X1_init T1 z3 r2 h4 (fun T9 z10 h11 => (T9.1 v0 = some (.inl 2) ∧ (∀ (T13 : St2), T13 = stR T9 v0 0 r2 → (∀ (T15 : St2) (r16 z17 : Nat) (h18 : Hp), T15 = nwT T13 z10 (.inr (0, 4)) → r16 = z10 → z17 = z10 + 1 → h18 = zr h11 z10 → (T15.1 v0 = some (.inl 2) ∧ (∀ (T24 : St2), T24 = stR T15 v0 1 r16 → (∀ (T26 : St2) (r27 z28 : Nat) (h29 : Hp), T26 = nwT T24 z17 (.inr (0, 4)) → r27 = z17 → z28 = z17 + 1 → h29 = zr h18 z17 → (T26.1 v0 = some (.inl 2) ∧ (∀ (T35 : St2), T35 = stR T26 v0 2 r27 → (Q T35 z28 h29)))))))))))
abbrev rm_X2_init : Room := { frames := 3, cells := 17, slots := 239, locals := 53 }
set_option maxHeartbeats 4000000 in
set_option maxRecDepth 100000 in
theorem m_X2_init {l : Launch} {Z : Zg} {G : Gl} {B : Nat} (T : St2) (sz : Nat) (v0 : Nat) (h : Hp) (Q : St2 → Nat → Hp → Prop) (hw : w_X2_init T sz v0 h Q) : MC Z l G B T sz yX2_init cX2_init 1 rm_X2_init [.ref v0] h Q := by
  refine met_ofn rfl rfl rfl ?_
  intro p e s m args below meth c hNB H ls hH hl
  obtain ⟨hx, hb, hml, hown, hKK, hr, hlk, hSK, hNK, hin⟩ := hNB
  replace hl : lv_has ls 1 [(0, .ref v0)] := hl
  unfold w_X2_init at hw
  show W p l e rm_X2_init s m args below meth c H [] 0 0 (MQ below (va_Qv (fun u : St2 × Nat × Hp => Q u.1 u.2.1 u.2.2) (PPq G B) (PPa B)) args s rm_X2_init.cells rm_X2_init.slots (PPa B)) (F0 m 0 ls [])
  generalize ([] : List Loc) = locs at hH ⊢
  refine lv_aload_n hx hb dX2_init_0 rfl (lv_at hl 0 rfl) ?_
  refine W.objInit hx hb hown (hKK.use ol_X2_3 rfl _) (hKK.use oi_i rfl _) (hKK.use oi_c rfl _) rfl (by rw [hml]; exact hl.1) rfl dX2_init_1 (Nat.le_of_ble_eq_true rfl) (Nat.le_of_ble_eq_true rfl) ?_
  show W p l e rm_X2_init s m args below meth c H locs 0 0 _ (F0 m 4 ls [])
  refine lv_aload_n hx hb dX2_init_4 rfl (lv_at hl 0 rfl) ?_
  refine hn_new (ci := 1) (ty := tyX1) hx hb hown hKK hH cf1 cl_X2_9 in_X1 wi_X1 df_1 (Nat.le_of_ble_eq_true rfl) (Nat.le_of_ble_eq_true rfl) dX2_init_5 (fun T1 r2 z3 h4 H e5 e6 e7 e8 hH => ?_)
  have hw := hw T1 r2 z3 h4 e5 e6 e7 e8
  refine lv_dup hx hb dX2_init_8 rfl ?_
  refine hn_cI (rm := rm_X1_init) (As := []) (rest := [.ref r2, .ref v0]) (k := 0) hx hb hml hown hKK hSK hNK hH (m_X1_init _ _ _ _ _ hw) ci_X2_11 ⟨(Nat.le_of_ble_eq_true rfl), (Nat.le_of_ble_eq_true rfl)⟩ rfl hl.1 rfl (Nat.le_of_ble_eq_true rfl) ⟨(Nat.le_of_ble_eq_true rfl), (Nat.le_of_ble_eq_true rfl)⟩ dX2_init_9 (fun T9 z10 h11 H locs hH hw => ?_)
  obtain ⟨k12, hw⟩ := hw
  refine hn_putr (ci := 2) (k := 0) (ty := tyX2) hx hb hown hKK hin hH cf2 (by decide) fl_X2_12 (Or.inr ⟨rfl, rfl⟩) rfl k12 rfl rfl dX2_init_12 (fun T13 H locs e14 hH => ?_)
  have hw := hw T13 e14
  refine lv_aload_n hx hb dX2_init_15 rfl (lv_at hl 0 rfl) ?_
  refine lv_iconst (v := (nI 4)) hx hb dX2_init_16 (by decide) ?_
  refine hn_newi (N := 4) hx hb hKK hH (nI_pos (by decide)) (nI_clamp (by decide)) (by decide) (Nat.le_of_ble_eq_true rfl) (Nat.le_of_ble_eq_true rfl) dX2_init_17 (fun T15 r16 z17 h18 H e19 e20 e21 e22 hH => ?_)
  have hw := hw T15 r16 z17 h18 e19 e20 e21 e22
  obtain ⟨k23, hw⟩ := hw
  refine hn_putr (ci := 2) (k := 1) (ty := tyX2) hx hb hown hKK hin hH cf2 (by decide) fl_X2_18 (Or.inr ⟨rfl, rfl⟩) rfl k23 rfl rfl dX2_init_19 (fun T24 H locs e25 hH => ?_)
  have hw := hw T24 e25
  refine lv_aload_n hx hb dX2_init_22 rfl (lv_at hl 0 rfl) ?_
  refine lv_iconst (v := (nI 4)) hx hb dX2_init_23 (by decide) ?_
  refine hn_newi (N := 4) hx hb hKK hH (nI_pos (by decide)) (nI_clamp (by decide)) (by decide) (Nat.le_of_ble_eq_true rfl) (Nat.le_of_ble_eq_true rfl) dX2_init_24 (fun T26 r27 z28 h29 H e30 e31 e32 e33 hH => ?_)
  have hw := hw T26 r27 z28 h29 e30 e31 e32 e33
  obtain ⟨k34, hw⟩ := hw
  refine hn_putr (ci := 2) (k := 2) (ty := tyX2) hx hb hown hKK hin hH cf2 (by decide) fl_X2_22 (Or.inr ⟨rfl, rfl⟩) rfl k34 rfl rfl dX2_init_26 (fun T35 H locs e36 hH => ?_)
  have hw := hw T35 e36
  exact hn_vret hx hb hr hlk hH hw dX2_init_29
def w_X3_init (T : St2) (sz : Nat) (v0 : Nat) (h : Hp) (Q : St2 → Nat → Hp → Prop) : Prop := ∀ (T1 : St2) (r2 z3 : Nat) (h4 : Hp), T1 = nwT T sz (.inr (2, 8)) → r2 = sz → z3 = sz + 1 → h4 = zr h sz → (T1.1 v0 = some (.inl 3) ∧ (∀ (T10 : St2), T10 = stR T1 v0 0 r2 → (T10.1 v0 = some (.inl 3) ∧ (∃ r13, T10.2 v0 0 = some r13 ∧ (∀ (T15 : St2) (r16 z17 : Nat) (h18 : Hp), T15 = nwT T10 z3 (.inl 1) → r16 = z3 → z17 = z3 + 1 → h18 = zr h4 z3 → (w_X1_init T15 z17 r16 h18 (fun T23 z24 h25 => (∃ n26, T23.1 r13 = some (.inr (2, n26)) ∧ 0 < n26 ∧ n26 < 2 ^ 31 ∧ T23.1 r16 = some (.inl 1) ∧ (∀ (T31 : St2), T31 = stR T23 r13 0 r16 → (T31.1 v0 = some (.inl 3) ∧ (∃ r34, T31.2 v0 0 = some r34 ∧ (∀ (T36 : St2) (r37 z38 : Nat) (h39 : Hp), T36 = nwT T31 z24 (.inl 1) → r37 = z24 → z38 = z24 + 1 → h39 = zr h25 z24 → (w_X1_init T36 z38 r37 h39 (fun T44 z45 h46 => (∃ n47, T44.1 r34 = some (.inr (2, n47)) ∧ 1 < n47 ∧ n47 < 2 ^ 31 ∧ T44.1 r37 = some (.inl 1) ∧ (∀ (T52 : St2), T52 = stR T44 r34 1 r37 → (T52.1 v0 = some (.inl 3) ∧ (∃ r55, T52.2 v0 0 = some r55 ∧ (∀ (T57 : St2) (r58 z59 : Nat) (h60 : Hp), T57 = nwT T52 z45 (.inl 1) → r58 = z45 → z59 = z45 + 1 → h60 = zr h46 z45 → (w_X1_init T57 z59 r58 h60 (fun T65 z66 h67 => (∃ n68, T65.1 r55 = some (.inr (2, n68)) ∧ 2 < n68 ∧ n68 < 2 ^ 31 ∧ T65.1 r58 = some (.inl 1) ∧ (∀ (T73 : St2), T73 = stR T65 r55 2 r58 → (T73.1 v0 = some (.inl 3) ∧ (∃ r76, T73.2 v0 0 = some r76 ∧ (∀ (T78 : St2) (r79 z80 : Nat) (h81 : Hp), T78 = nwT T73 z66 (.inl 1) → r79 = z66 → z80 = z66 + 1 → h81 = zr h67 z66 → (w_X1_init T78 z80 r79 h81 (fun T86 z87 h88 => (∃ n89, T86.1 r76 = some (.inr (2, n89)) ∧ 3 < n89 ∧ n89 < 2 ^ 31 ∧ T86.1 r79 = some (.inl 1) ∧ (∀ (T94 : St2), T94 = stR T86 r76 3 r79 → (T94.1 v0 = some (.inl 3) ∧ (∃ r97, T94.2 v0 0 = some r97 ∧ (∀ (T99 : St2) (r100 z101 : Nat) (h102 : Hp), T99 = nwT T94 z87 (.inl 1) → r100 = z87 → z101 = z87 + 1 → h102 = zr h88 z87 → (w_X1_init T99 z101 r100 h102 (fun T107 z108 h109 => (∃ n110, T107.1 r97 = some (.inr (2, n110)) ∧ 4 < n110 ∧ n110 < 2 ^ 31 ∧ T107.1 r100 = some (.inl 1) ∧ (∀ (T115 : St2), T115 = stR T107 r97 4 r100 → (T115.1 v0 = some (.inl 3) ∧ (∃ r118, T115.2 v0 0 = some r118 ∧ (∀ (T120 : St2) (r121 z122 : Nat) (h123 : Hp), T120 = nwT T115 z108 (.inl 1) → r121 = z108 → z122 = z108 + 1 → h123 = zr h109 z108 → (w_X1_init T120 z122 r121 h123 (fun T128 z129 h130 => (∃ n131, T128.1 r118 = some (.inr (2, n131)) ∧ 5 < n131 ∧ n131 < 2 ^ 31 ∧ T128.1 r121 = some (.inl 1) ∧ (∀ (T136 : St2), T136 = stR T128 r118 5 r121 → (T136.1 v0 = some (.inl 3) ∧ (∃ r139, T136.2 v0 0 = some r139 ∧ (∀ (T141 : St2) (r142 z143 : Nat) (h144 : Hp), T141 = nwT T136 z129 (.inl 1) → r142 = z129 → z143 = z129 + 1 → h144 = zr h130 z129 → (w_X1_init T141 z143 r142 h144 (fun T149 z150 h151 => (∃ n152, T149.1 r139 = some (.inr (2, n152)) ∧ 6 < n152 ∧ n152 < 2 ^ 31 ∧ T149.1 r142 = some (.inl 1) ∧ (∀ (T157 : St2), T157 = stR T149 r139 6 r142 → (T157.1 v0 = some (.inl 3) ∧ (∃ r160, T157.2 v0 0 = some r160 ∧ (∀ (T162 : St2) (r163 z164 : Nat) (h165 : Hp), T162 = nwT T157 z150 (.inl 1) → r163 = z150 → z164 = z150 + 1 → h165 = zr h151 z150 → (w_X1_init T162 z164 r163 h165 (fun T170 z171 h172 => (∃ n173, T170.1 r160 = some (.inr (2, n173)) ∧ 7 < n173 ∧ n173 < 2 ^ 31 ∧ T170.1 r163 = some (.inl 1) ∧ (∀ (T178 : St2), T178 = stR T170 r160 7 r163 → (Q T178 z171 h172)))))))))))))))))))))))))))))))))))))))))))))))))))))))))))
abbrev rm_X3_init : Room := { frames := 3, cells := 121, slots := 1856, locals := 53 }
set_option maxHeartbeats 4000000 in
set_option maxRecDepth 100000 in
theorem m_X3_init {l : Launch} {Z : Zg} {G : Gl} {B : Nat} (T : St2) (sz : Nat) (v0 : Nat) (h : Hp) (Q : St2 → Nat → Hp → Prop) (hw : w_X3_init T sz v0 h Q) : MC Z l G B T sz yX3_init cX3_init 2 rm_X3_init [.ref v0] h Q := by
  refine met_ofn rfl rfl rfl ?_
  intro p e s m args below meth c hNB H ls hH hl
  obtain ⟨hx, hb, hml, hown, hKK, hr, hlk, hSK, hNK, hin⟩ := hNB
  replace hl : lv_has ls 2 [(0, .ref v0)] := hl
  unfold w_X3_init at hw
  show W p l e rm_X3_init s m args below meth c H [] 0 0 (MQ below (va_Qv (fun u : St2 × Nat × Hp => Q u.1 u.2.1 u.2.2) (PPq G B) (PPa B)) args s rm_X3_init.cells rm_X3_init.slots (PPa B)) (F0 m 0 ls [])
  generalize ([] : List Loc) = locs at hH ⊢
  refine lv_aload_n hx hb dX3_init_0 rfl (lv_at hl 0 rfl) ?_
  refine W.objInit hx hb hown (hKK.use ol_X3_1 rfl _) (hKK.use oi_i rfl _) (hKK.use oi_c rfl _) rfl (by rw [hml]; exact hl.1) rfl dX3_init_1 (Nat.le_of_ble_eq_true rfl) (Nat.le_of_ble_eq_true rfl) ?_
  show W p l e rm_X3_init s m args below meth c H locs 0 0 _ (F0 m 4 ls [])
  refine lv_aload_n hx hb dX3_init_4 rfl (lv_at hl 0 rfl) ?_
  refine lv_bipush (v := (nI 8)) hx hb dX3_init_5 (by decide) ?_
  refine hn_newq (t := 2) (N := 8) hx hb (by decide) hown cl_X3_9 hNK.2.1 hKK (hKK.1.2 2 _ rfl).2 hH (nI_pos (by decide)) (nI_clamp (by decide)) (by decide) (Nat.le_of_ble_eq_true rfl) (Nat.le_of_ble_eq_true rfl) dX3_init_7 (fun T1 r2 z3 h4 H e5 e6 e7 e8 hH => ?_)
  have hw := hw T1 r2 z3 h4 e5 e6 e7 e8
  obtain ⟨k9, hw⟩ := hw
  refine hn_putr (ci := 3) (k := 0) (ty := tyX3) hx hb hown hKK hin hH cf3 (by decide) fl_X3_11 (Or.inr ⟨rfl, rfl⟩) rfl k9 rfl rfl dX3_init_10 (fun T10 H locs e11 hH => ?_)
  have hw := hw T10 e11
  refine lv_iconst (v := (nI 0)) hx hb dX3_init_13 (by decide) ?_
  refine lv_istore_n (lv' := [(1, .int (nI 0)), (0, .ref v0)]) hx hb dX3_init_14 rfl hl (by decide) rfl (fun ls hl => ?_)
  refine lv_iload_n hx hb dX3_init_15 rfl (lv_at hl 0 rfl) ?_
  refine lv_bipush (v := (nI 8)) hx hb dX3_init_16 (by decide) ?_
  refine lv_icmp_ge (tgt := 40) hx hb dX3_init_18 (by decide) (fun c => absurd c (by decide)) (fun _ => ?_)
  refine lv_aload_n hx hb dX3_init_21 rfl (lv_at hl 1 rfl) ?_
  obtain ⟨k12, hw⟩ := hw
  obtain ⟨r13, k14, hw⟩ := hw
  refine hn_get (ci := 3) (k := 0) (ty := tyX3) hx hb hown hKK hH cf3 (by decide) fl_X3_11 rfl k12 k14 dX3_init_22 ?_
  refine lv_iload_n hx hb dX3_init_25 rfl (lv_at hl 0 rfl) ?_
  refine hn_new (ci := 1) (ty := tyX1) hx hb hown hKK hH cf1 cl_X3_9 in_X1 wi_X1 df_1 (Nat.le_of_ble_eq_true rfl) (Nat.le_of_ble_eq_true rfl) dX3_init_26 (fun T15 r16 z17 h18 H e19 e20 e21 e22 hH => ?_)
  have hw := hw T15 r16 z17 h18 e19 e20 e21 e22
  refine lv_dup hx hb dX3_init_29 rfl ?_
  refine hn_cI (rm := rm_X1_init) (As := []) (rest := [.ref r16, .int (nI 0), .ref r13]) (k := 0) hx hb hml hown hKK hSK hNK hH (m_X1_init _ _ _ _ _ hw) ci_X3_15 ⟨(Nat.le_of_ble_eq_true rfl), (Nat.le_of_ble_eq_true rfl)⟩ rfl hl.1 rfl (Nat.le_of_ble_eq_true rfl) ⟨(Nat.le_of_ble_eq_true rfl), (Nat.le_of_ble_eq_true rfl)⟩ dX3_init_30 (fun T23 z24 h25 H locs hH hw => ?_)
  obtain ⟨n26, k27, k28, k29, k30, hw⟩ := hw
  refine hn_aast (t := 2) (ci := 1) hx hb (by decide) cf1 hKK (hKK.1.2 2 _ rfl).2 hH k27 k30 rfl k28 k29 dX3_init_33 (fun T31 H locs e32 hH => ?_)
  have hw := hw T31 e32
  refine lv_iinc (v := (nI 1)) (lv' := [(1, .int (nI 1)), (0, .ref v0)]) hx hb dX3_init_34 hl (k := 0) rfl (by decide) (by decide) rfl (fun ls hl => ?_)
  refine lv_goto (tgt := 15) hx hb dX3_init_37 (by decide) ?_
  refine lv_iload_n hx hb dX3_init_15 rfl (lv_at hl 0 rfl) ?_
  refine lv_bipush (v := (nI 8)) hx hb dX3_init_16 (by decide) ?_
  refine lv_icmp_ge (tgt := 40) hx hb dX3_init_18 (by decide) (fun c => absurd c (by decide)) (fun _ => ?_)
  refine lv_aload_n hx hb dX3_init_21 rfl (lv_at hl 1 rfl) ?_
  obtain ⟨k33, hw⟩ := hw
  obtain ⟨r34, k35, hw⟩ := hw
  refine hn_get (ci := 3) (k := 0) (ty := tyX3) hx hb hown hKK hH cf3 (by decide) fl_X3_11 rfl k33 k35 dX3_init_22 ?_
  refine lv_iload_n hx hb dX3_init_25 rfl (lv_at hl 0 rfl) ?_
  refine hn_new (ci := 1) (ty := tyX1) hx hb hown hKK hH cf1 cl_X3_9 in_X1 wi_X1 df_1 (Nat.le_of_ble_eq_true rfl) (Nat.le_of_ble_eq_true rfl) dX3_init_26 (fun T36 r37 z38 h39 H e40 e41 e42 e43 hH => ?_)
  have hw := hw T36 r37 z38 h39 e40 e41 e42 e43
  refine lv_dup hx hb dX3_init_29 rfl ?_
  refine hn_cI (rm := rm_X1_init) (As := []) (rest := [.ref r37, .int (nI 1), .ref r34]) (k := 0) hx hb hml hown hKK hSK hNK hH (m_X1_init _ _ _ _ _ hw) ci_X3_15 ⟨(Nat.le_of_ble_eq_true rfl), (Nat.le_of_ble_eq_true rfl)⟩ rfl hl.1 rfl (Nat.le_of_ble_eq_true rfl) ⟨(Nat.le_of_ble_eq_true rfl), (Nat.le_of_ble_eq_true rfl)⟩ dX3_init_30 (fun T44 z45 h46 H locs hH hw => ?_)
  obtain ⟨n47, k48, k49, k50, k51, hw⟩ := hw
  refine hn_aast (t := 2) (ci := 1) hx hb (by decide) cf1 hKK (hKK.1.2 2 _ rfl).2 hH k48 k51 rfl k49 k50 dX3_init_33 (fun T52 H locs e53 hH => ?_)
  have hw := hw T52 e53
  refine lv_iinc (v := (nI 2)) (lv' := [(1, .int (nI 2)), (0, .ref v0)]) hx hb dX3_init_34 hl (k := 0) rfl (by decide) (by decide) rfl (fun ls hl => ?_)
  refine lv_goto (tgt := 15) hx hb dX3_init_37 (by decide) ?_
  refine lv_iload_n hx hb dX3_init_15 rfl (lv_at hl 0 rfl) ?_
  refine lv_bipush (v := (nI 8)) hx hb dX3_init_16 (by decide) ?_
  refine lv_icmp_ge (tgt := 40) hx hb dX3_init_18 (by decide) (fun c => absurd c (by decide)) (fun _ => ?_)
  refine lv_aload_n hx hb dX3_init_21 rfl (lv_at hl 1 rfl) ?_
  obtain ⟨k54, hw⟩ := hw
  obtain ⟨r55, k56, hw⟩ := hw
  refine hn_get (ci := 3) (k := 0) (ty := tyX3) hx hb hown hKK hH cf3 (by decide) fl_X3_11 rfl k54 k56 dX3_init_22 ?_
  refine lv_iload_n hx hb dX3_init_25 rfl (lv_at hl 0 rfl) ?_
  refine hn_new (ci := 1) (ty := tyX1) hx hb hown hKK hH cf1 cl_X3_9 in_X1 wi_X1 df_1 (Nat.le_of_ble_eq_true rfl) (Nat.le_of_ble_eq_true rfl) dX3_init_26 (fun T57 r58 z59 h60 H e61 e62 e63 e64 hH => ?_)
  have hw := hw T57 r58 z59 h60 e61 e62 e63 e64
  refine lv_dup hx hb dX3_init_29 rfl ?_
  refine hn_cI (rm := rm_X1_init) (As := []) (rest := [.ref r58, .int (nI 2), .ref r55]) (k := 0) hx hb hml hown hKK hSK hNK hH (m_X1_init _ _ _ _ _ hw) ci_X3_15 ⟨(Nat.le_of_ble_eq_true rfl), (Nat.le_of_ble_eq_true rfl)⟩ rfl hl.1 rfl (Nat.le_of_ble_eq_true rfl) ⟨(Nat.le_of_ble_eq_true rfl), (Nat.le_of_ble_eq_true rfl)⟩ dX3_init_30 (fun T65 z66 h67 H locs hH hw => ?_)
  obtain ⟨n68, k69, k70, k71, k72, hw⟩ := hw
  refine hn_aast (t := 2) (ci := 1) hx hb (by decide) cf1 hKK (hKK.1.2 2 _ rfl).2 hH k69 k72 rfl k70 k71 dX3_init_33 (fun T73 H locs e74 hH => ?_)
  have hw := hw T73 e74
  refine lv_iinc (v := (nI 3)) (lv' := [(1, .int (nI 3)), (0, .ref v0)]) hx hb dX3_init_34 hl (k := 0) rfl (by decide) (by decide) rfl (fun ls hl => ?_)
  refine lv_goto (tgt := 15) hx hb dX3_init_37 (by decide) ?_
  refine lv_iload_n hx hb dX3_init_15 rfl (lv_at hl 0 rfl) ?_
  refine lv_bipush (v := (nI 8)) hx hb dX3_init_16 (by decide) ?_
  refine lv_icmp_ge (tgt := 40) hx hb dX3_init_18 (by decide) (fun c => absurd c (by decide)) (fun _ => ?_)
  refine lv_aload_n hx hb dX3_init_21 rfl (lv_at hl 1 rfl) ?_
  obtain ⟨k75, hw⟩ := hw
  obtain ⟨r76, k77, hw⟩ := hw
  refine hn_get (ci := 3) (k := 0) (ty := tyX3) hx hb hown hKK hH cf3 (by decide) fl_X3_11 rfl k75 k77 dX3_init_22 ?_
  refine lv_iload_n hx hb dX3_init_25 rfl (lv_at hl 0 rfl) ?_
  refine hn_new (ci := 1) (ty := tyX1) hx hb hown hKK hH cf1 cl_X3_9 in_X1 wi_X1 df_1 (Nat.le_of_ble_eq_true rfl) (Nat.le_of_ble_eq_true rfl) dX3_init_26 (fun T78 r79 z80 h81 H e82 e83 e84 e85 hH => ?_)
  have hw := hw T78 r79 z80 h81 e82 e83 e84 e85
  refine lv_dup hx hb dX3_init_29 rfl ?_
  refine hn_cI (rm := rm_X1_init) (As := []) (rest := [.ref r79, .int (nI 3), .ref r76]) (k := 0) hx hb hml hown hKK hSK hNK hH (m_X1_init _ _ _ _ _ hw) ci_X3_15 ⟨(Nat.le_of_ble_eq_true rfl), (Nat.le_of_ble_eq_true rfl)⟩ rfl hl.1 rfl (Nat.le_of_ble_eq_true rfl) ⟨(Nat.le_of_ble_eq_true rfl), (Nat.le_of_ble_eq_true rfl)⟩ dX3_init_30 (fun T86 z87 h88 H locs hH hw => ?_)
  obtain ⟨n89, k90, k91, k92, k93, hw⟩ := hw
  refine hn_aast (t := 2) (ci := 1) hx hb (by decide) cf1 hKK (hKK.1.2 2 _ rfl).2 hH k90 k93 rfl k91 k92 dX3_init_33 (fun T94 H locs e95 hH => ?_)
  have hw := hw T94 e95
  refine lv_iinc (v := (nI 4)) (lv' := [(1, .int (nI 4)), (0, .ref v0)]) hx hb dX3_init_34 hl (k := 0) rfl (by decide) (by decide) rfl (fun ls hl => ?_)
  refine lv_goto (tgt := 15) hx hb dX3_init_37 (by decide) ?_
  refine lv_iload_n hx hb dX3_init_15 rfl (lv_at hl 0 rfl) ?_
  refine lv_bipush (v := (nI 8)) hx hb dX3_init_16 (by decide) ?_
  refine lv_icmp_ge (tgt := 40) hx hb dX3_init_18 (by decide) (fun c => absurd c (by decide)) (fun _ => ?_)
  refine lv_aload_n hx hb dX3_init_21 rfl (lv_at hl 1 rfl) ?_
  obtain ⟨k96, hw⟩ := hw
  obtain ⟨r97, k98, hw⟩ := hw
  refine hn_get (ci := 3) (k := 0) (ty := tyX3) hx hb hown hKK hH cf3 (by decide) fl_X3_11 rfl k96 k98 dX3_init_22 ?_
  refine lv_iload_n hx hb dX3_init_25 rfl (lv_at hl 0 rfl) ?_
  refine hn_new (ci := 1) (ty := tyX1) hx hb hown hKK hH cf1 cl_X3_9 in_X1 wi_X1 df_1 (Nat.le_of_ble_eq_true rfl) (Nat.le_of_ble_eq_true rfl) dX3_init_26 (fun T99 r100 z101 h102 H e103 e104 e105 e106 hH => ?_)
  have hw := hw T99 r100 z101 h102 e103 e104 e105 e106
  refine lv_dup hx hb dX3_init_29 rfl ?_
  refine hn_cI (rm := rm_X1_init) (As := []) (rest := [.ref r100, .int (nI 4), .ref r97]) (k := 0) hx hb hml hown hKK hSK hNK hH (m_X1_init _ _ _ _ _ hw) ci_X3_15 ⟨(Nat.le_of_ble_eq_true rfl), (Nat.le_of_ble_eq_true rfl)⟩ rfl hl.1 rfl (Nat.le_of_ble_eq_true rfl) ⟨(Nat.le_of_ble_eq_true rfl), (Nat.le_of_ble_eq_true rfl)⟩ dX3_init_30 (fun T107 z108 h109 H locs hH hw => ?_)
  obtain ⟨n110, k111, k112, k113, k114, hw⟩ := hw
  refine hn_aast (t := 2) (ci := 1) hx hb (by decide) cf1 hKK (hKK.1.2 2 _ rfl).2 hH k111 k114 rfl k112 k113 dX3_init_33 (fun T115 H locs e116 hH => ?_)
  have hw := hw T115 e116
  refine lv_iinc (v := (nI 5)) (lv' := [(1, .int (nI 5)), (0, .ref v0)]) hx hb dX3_init_34 hl (k := 0) rfl (by decide) (by decide) rfl (fun ls hl => ?_)
  refine lv_goto (tgt := 15) hx hb dX3_init_37 (by decide) ?_
  refine lv_iload_n hx hb dX3_init_15 rfl (lv_at hl 0 rfl) ?_
  refine lv_bipush (v := (nI 8)) hx hb dX3_init_16 (by decide) ?_
  refine lv_icmp_ge (tgt := 40) hx hb dX3_init_18 (by decide) (fun c => absurd c (by decide)) (fun _ => ?_)
  refine lv_aload_n hx hb dX3_init_21 rfl (lv_at hl 1 rfl) ?_
  obtain ⟨k117, hw⟩ := hw
  obtain ⟨r118, k119, hw⟩ := hw
  refine hn_get (ci := 3) (k := 0) (ty := tyX3) hx hb hown hKK hH cf3 (by decide) fl_X3_11 rfl k117 k119 dX3_init_22 ?_
  refine lv_iload_n hx hb dX3_init_25 rfl (lv_at hl 0 rfl) ?_
  refine hn_new (ci := 1) (ty := tyX1) hx hb hown hKK hH cf1 cl_X3_9 in_X1 wi_X1 df_1 (Nat.le_of_ble_eq_true rfl) (Nat.le_of_ble_eq_true rfl) dX3_init_26 (fun T120 r121 z122 h123 H e124 e125 e126 e127 hH => ?_)
  have hw := hw T120 r121 z122 h123 e124 e125 e126 e127
  refine lv_dup hx hb dX3_init_29 rfl ?_
  refine hn_cI (rm := rm_X1_init) (As := []) (rest := [.ref r121, .int (nI 5), .ref r118]) (k := 0) hx hb hml hown hKK hSK hNK hH (m_X1_init _ _ _ _ _ hw) ci_X3_15 ⟨(Nat.le_of_ble_eq_true rfl), (Nat.le_of_ble_eq_true rfl)⟩ rfl hl.1 rfl (Nat.le_of_ble_eq_true rfl) ⟨(Nat.le_of_ble_eq_true rfl), (Nat.le_of_ble_eq_true rfl)⟩ dX3_init_30 (fun T128 z129 h130 H locs hH hw => ?_)
  obtain ⟨n131, k132, k133, k134, k135, hw⟩ := hw
  refine hn_aast (t := 2) (ci := 1) hx hb (by decide) cf1 hKK (hKK.1.2 2 _ rfl).2 hH k132 k135 rfl k133 k134 dX3_init_33 (fun T136 H locs e137 hH => ?_)
  have hw := hw T136 e137
  refine lv_iinc (v := (nI 6)) (lv' := [(1, .int (nI 6)), (0, .ref v0)]) hx hb dX3_init_34 hl (k := 0) rfl (by decide) (by decide) rfl (fun ls hl => ?_)
  refine lv_goto (tgt := 15) hx hb dX3_init_37 (by decide) ?_
  refine lv_iload_n hx hb dX3_init_15 rfl (lv_at hl 0 rfl) ?_
  refine lv_bipush (v := (nI 8)) hx hb dX3_init_16 (by decide) ?_
  refine lv_icmp_ge (tgt := 40) hx hb dX3_init_18 (by decide) (fun c => absurd c (by decide)) (fun _ => ?_)
  refine lv_aload_n hx hb dX3_init_21 rfl (lv_at hl 1 rfl) ?_
  obtain ⟨k138, hw⟩ := hw
  obtain ⟨r139, k140, hw⟩ := hw
  refine hn_get (ci := 3) (k := 0) (ty := tyX3) hx hb hown hKK hH cf3 (by decide) fl_X3_11 rfl k138 k140 dX3_init_22 ?_
  refine lv_iload_n hx hb dX3_init_25 rfl (lv_at hl 0 rfl) ?_
  refine hn_new (ci := 1) (ty := tyX1) hx hb hown hKK hH cf1 cl_X3_9 in_X1 wi_X1 df_1 (Nat.le_of_ble_eq_true rfl) (Nat.le_of_ble_eq_true rfl) dX3_init_26 (fun T141 r142 z143 h144 H e145 e146 e147 e148 hH => ?_)
  have hw := hw T141 r142 z143 h144 e145 e146 e147 e148
  refine lv_dup hx hb dX3_init_29 rfl ?_
  refine hn_cI (rm := rm_X1_init) (As := []) (rest := [.ref r142, .int (nI 6), .ref r139]) (k := 0) hx hb hml hown hKK hSK hNK hH (m_X1_init _ _ _ _ _ hw) ci_X3_15 ⟨(Nat.le_of_ble_eq_true rfl), (Nat.le_of_ble_eq_true rfl)⟩ rfl hl.1 rfl (Nat.le_of_ble_eq_true rfl) ⟨(Nat.le_of_ble_eq_true rfl), (Nat.le_of_ble_eq_true rfl)⟩ dX3_init_30 (fun T149 z150 h151 H locs hH hw => ?_)
  obtain ⟨n152, k153, k154, k155, k156, hw⟩ := hw
  refine hn_aast (t := 2) (ci := 1) hx hb (by decide) cf1 hKK (hKK.1.2 2 _ rfl).2 hH k153 k156 rfl k154 k155 dX3_init_33 (fun T157 H locs e158 hH => ?_)
  have hw := hw T157 e158
  refine lv_iinc (v := (nI 7)) (lv' := [(1, .int (nI 7)), (0, .ref v0)]) hx hb dX3_init_34 hl (k := 0) rfl (by decide) (by decide) rfl (fun ls hl => ?_)
  refine lv_goto (tgt := 15) hx hb dX3_init_37 (by decide) ?_
  refine lv_iload_n hx hb dX3_init_15 rfl (lv_at hl 0 rfl) ?_
  refine lv_bipush (v := (nI 8)) hx hb dX3_init_16 (by decide) ?_
  refine lv_icmp_ge (tgt := 40) hx hb dX3_init_18 (by decide) (fun c => absurd c (by decide)) (fun _ => ?_)
  refine lv_aload_n hx hb dX3_init_21 rfl (lv_at hl 1 rfl) ?_
  obtain ⟨k159, hw⟩ := hw
  obtain ⟨r160, k161, hw⟩ := hw
  refine hn_get (ci := 3) (k := 0) (ty := tyX3) hx hb hown hKK hH cf3 (by decide) fl_X3_11 rfl k159 k161 dX3_init_22 ?_
  refine lv_iload_n hx hb dX3_init_25 rfl (lv_at hl 0 rfl) ?_
  refine hn_new (ci := 1) (ty := tyX1) hx hb hown hKK hH cf1 cl_X3_9 in_X1 wi_X1 df_1 (Nat.le_of_ble_eq_true rfl) (Nat.le_of_ble_eq_true rfl) dX3_init_26 (fun T162 r163 z164 h165 H e166 e167 e168 e169 hH => ?_)
  have hw := hw T162 r163 z164 h165 e166 e167 e168 e169
  refine lv_dup hx hb dX3_init_29 rfl ?_
  refine hn_cI (rm := rm_X1_init) (As := []) (rest := [.ref r163, .int (nI 7), .ref r160]) (k := 0) hx hb hml hown hKK hSK hNK hH (m_X1_init _ _ _ _ _ hw) ci_X3_15 ⟨(Nat.le_of_ble_eq_true rfl), (Nat.le_of_ble_eq_true rfl)⟩ rfl hl.1 rfl (Nat.le_of_ble_eq_true rfl) ⟨(Nat.le_of_ble_eq_true rfl), (Nat.le_of_ble_eq_true rfl)⟩ dX3_init_30 (fun T170 z171 h172 H locs hH hw => ?_)
  obtain ⟨n173, k174, k175, k176, k177, hw⟩ := hw
  refine hn_aast (t := 2) (ci := 1) hx hb (by decide) cf1 hKK (hKK.1.2 2 _ rfl).2 hH k174 k177 rfl k175 k176 dX3_init_33 (fun T178 H locs e179 hH => ?_)
  have hw := hw T178 e179
  refine lv_iinc (v := (nI 8)) (lv' := [(1, .int (nI 8)), (0, .ref v0)]) hx hb dX3_init_34 hl (k := 0) rfl (by decide) (by decide) rfl (fun ls hl => ?_)
  refine lv_goto (tgt := 15) hx hb dX3_init_37 (by decide) ?_
  refine lv_iload_n hx hb dX3_init_15 rfl (lv_at hl 0 rfl) ?_
  refine lv_bipush (v := (nI 8)) hx hb dX3_init_16 (by decide) ?_
  refine lv_icmp_ge (tgt := 40) hx hb dX3_init_18 (by decide) (fun _ => ?_) (fun c => absurd (by decide) c)
  exact hn_vret hx hb hr hlk hH hw dX3_init_40
def w_X4_init (T : St2) (sz : Nat) (v0 : Nat) (h : Hp) (Q : St2 → Nat → Hp → Prop) : Prop := ∀ (T1 : St2) (r2 z3 : Nat) (h4 : Hp), T1 = nwT T sz (.inr (0, 96)) → r2 = sz → z3 = sz + 1 → h4 = zr h sz → (T1.1 v0 = some (.inl 4) ∧ (∀ (T10 : St2), T10 = stR T1 v0 0 r2 → (∀ (T12 : St2) (r13 z14 : Nat) (h15 : Hp), T12 = nwT T10 z3 (.inr (0, 4)) → r13 = z3 → z14 = z3 + 1 → h15 = zr h4 z3 → (T12.1 v0 = some (.inl 4) ∧ (∀ (T21 : St2), T21 = stR T12 v0 2 r13 → (∀ (T23 : St2) (r24 z25 : Nat) (h26 : Hp), T23 = nwT T21 z14 (.inr (0, 4)) → r24 = z14 → z25 = z14 + 1 → h26 = zr h15 z14 → (T23.1 v0 = some (.inl 4) ∧ (∀ (T32 : St2), T32 = stR T23 v0 3 r24 → (Q T32 z25 h26)))))))))
abbrev rm_X4_init : Room := { frames := 1, cells := 3, slots := 104, locals := 12 }
set_option maxHeartbeats 4000000 in
set_option maxRecDepth 100000 in
theorem m_X4_init {l : Launch} {Z : Zg} {G : Gl} {B : Nat} (T : St2) (sz : Nat) (v0 : Nat) (h : Hp) (Q : St2 → Nat → Hp → Prop) (hw : w_X4_init T sz v0 h Q) : MC Z l G B T sz yX4_init cX4_init 1 rm_X4_init [.ref v0] h Q := by
  refine met_ofn rfl rfl rfl ?_
  intro p e s m args below meth c hNB H ls hH hl
  obtain ⟨hx, hb, hml, hown, hKK, hr, hlk, hSK, hNK, hin⟩ := hNB
  replace hl : lv_has ls 1 [(0, .ref v0)] := hl
  unfold w_X4_init at hw
  show W p l e rm_X4_init s m args below meth c H [] 0 0 (MQ below (va_Qv (fun u : St2 × Nat × Hp => Q u.1 u.2.1 u.2.2) (PPq G B) (PPa B)) args s rm_X4_init.cells rm_X4_init.slots (PPa B)) (F0 m 0 ls [])
  generalize ([] : List Loc) = locs at hH ⊢
  refine lv_aload_n hx hb dX4_init_0 rfl (lv_at hl 0 rfl) ?_
  refine W.objInit hx hb hown (hKK.use ol_X4_3 rfl _) (hKK.use oi_i rfl _) (hKK.use oi_c rfl _) rfl (by rw [hml]; exact hl.1) rfl dX4_init_1 (Nat.le_of_ble_eq_true rfl) (Nat.le_of_ble_eq_true rfl) ?_
  show W p l e rm_X4_init s m args below meth c H locs 0 0 _ (F0 m 4 ls [])
  refine lv_aload_n hx hb dX4_init_4 rfl (lv_at hl 0 rfl) ?_
  refine lv_bipush (v := (nI 96)) hx hb dX4_init_5 (by decide) ?_
  refine hn_newi (N := 96) hx hb hKK hH (nI_pos (by decide)) (nI_clamp (by decide)) (by decide) (Nat.le_of_ble_eq_true rfl) (Nat.le_of_ble_eq_true rfl) dX4_init_7 (fun T1 r2 z3 h4 H e5 e6 e7 e8 hH => ?_)
  have hw := hw T1 r2 z3 h4 e5 e6 e7 e8
  obtain ⟨k9, hw⟩ := hw
  refine hn_putr (ci := 4) (k := 0) (ty := tyX4) hx hb hown hKK hin hH cf4 (by decide) fl_X4_11 (Or.inr ⟨rfl, rfl⟩) rfl k9 rfl rfl dX4_init_9 (fun T10 H locs e11 hH => ?_)
  have hw := hw T10 e11
  refine lv_aload_n hx hb dX4_init_12 rfl (lv_at hl 0 rfl) ?_
  refine lv_iconst (v := (nI 4)) hx hb dX4_init_13 (by decide) ?_
  refine hn_newi (N := 4) hx hb hKK hH (nI_pos (by decide)) (nI_clamp (by decide)) (by decide) (Nat.le_of_ble_eq_true rfl) (Nat.le_of_ble_eq_true rfl) dX4_init_14 (fun T12 r13 z14 h15 H e16 e17 e18 e19 hH => ?_)
  have hw := hw T12 r13 z14 h15 e16 e17 e18 e19
  obtain ⟨k20, hw⟩ := hw
  refine hn_putr (ci := 4) (k := 2) (ty := tyX4) hx hb hown hKK hin hH cf4 (by decide) fl_X4_15 (Or.inr ⟨rfl, rfl⟩) rfl k20 rfl rfl dX4_init_16 (fun T21 H locs e22 hH => ?_)
  have hw := hw T21 e22
  refine lv_aload_n hx hb dX4_init_19 rfl (lv_at hl 0 rfl) ?_
  refine lv_iconst (v := (nI 4)) hx hb dX4_init_20 (by decide) ?_
  refine hn_newi (N := 4) hx hb hKK hH (nI_pos (by decide)) (nI_clamp (by decide)) (by decide) (Nat.le_of_ble_eq_true rfl) (Nat.le_of_ble_eq_true rfl) dX4_init_21 (fun T23 r24 z25 h26 H e27 e28 e29 e30 hH => ?_)
  have hw := hw T23 r24 z25 h26 e27 e28 e29 e30
  obtain ⟨k31, hw⟩ := hw
  refine hn_putr (ci := 4) (k := 3) (ty := tyX4) hx hb hown hKK hin hH cf4 (by decide) fl_X4_18 (Or.inr ⟨rfl, rfl⟩) rfl k31 rfl rfl dX4_init_23 (fun T32 H locs e33 hH => ?_)
  have hw := hw T32 e33
  exact hn_vret hx hb hr hlk hH hw dX4_init_26
def w_X5_init (T : St2) (sz : Nat) (v0 : Nat) (h : Hp) (Q : St2 → Nat → Hp → Prop) : Prop := ∀ (T1 : St2) (r2 z3 : Nat) (h4 : Hp), T1 = nwT T sz (.inr (0, 48)) → r2 = sz → z3 = sz + 1 → h4 = zr h sz → (T1.1 v0 = some (.inl 5) ∧ (∀ (T10 : St2), T10 = stR T1 v0 0 r2 → (∀ (T12 : St2) (r13 z14 : Nat) (h15 : Hp), T12 = nwT T10 z3 (.inr (0, 48)) → r13 = z3 → z14 = z3 + 1 → h15 = zr h4 z3 → (T12.1 v0 = some (.inl 5) ∧ (∀ (T21 : St2), T21 = stR T12 v0 1 r13 → (Q T21 z14 h15))))))
abbrev rm_X5_init : Room := { frames := 1, cells := 2, slots := 96, locals := 12 }
set_option maxHeartbeats 4000000 in
set_option maxRecDepth 100000 in
theorem m_X5_init {l : Launch} {Z : Zg} {G : Gl} {B : Nat} (T : St2) (sz : Nat) (v0 : Nat) (h : Hp) (Q : St2 → Nat → Hp → Prop) (hw : w_X5_init T sz v0 h Q) : MC Z l G B T sz yX5_init cX5_init 1 rm_X5_init [.ref v0] h Q := by
  refine met_ofn rfl rfl rfl ?_
  intro p e s m args below meth c hNB H ls hH hl
  obtain ⟨hx, hb, hml, hown, hKK, hr, hlk, hSK, hNK, hin⟩ := hNB
  replace hl : lv_has ls 1 [(0, .ref v0)] := hl
  unfold w_X5_init at hw
  show W p l e rm_X5_init s m args below meth c H [] 0 0 (MQ below (va_Qv (fun u : St2 × Nat × Hp => Q u.1 u.2.1 u.2.2) (PPq G B) (PPa B)) args s rm_X5_init.cells rm_X5_init.slots (PPa B)) (F0 m 0 ls [])
  generalize ([] : List Loc) = locs at hH ⊢
  refine lv_aload_n hx hb dX5_init_0 rfl (lv_at hl 0 rfl) ?_
  refine W.objInit hx hb hown (hKK.use ol_X5_3 rfl _) (hKK.use oi_i rfl _) (hKK.use oi_c rfl _) rfl (by rw [hml]; exact hl.1) rfl dX5_init_1 (Nat.le_of_ble_eq_true rfl) (Nat.le_of_ble_eq_true rfl) ?_
  show W p l e rm_X5_init s m args below meth c H locs 0 0 _ (F0 m 4 ls [])
  refine lv_aload_n hx hb dX5_init_4 rfl (lv_at hl 0 rfl) ?_
  refine lv_bipush (v := (nI 48)) hx hb dX5_init_5 (by decide) ?_
  refine hn_newi (N := 48) hx hb hKK hH (nI_pos (by decide)) (nI_clamp (by decide)) (by decide) (Nat.le_of_ble_eq_true rfl) (Nat.le_of_ble_eq_true rfl) dX5_init_7 (fun T1 r2 z3 h4 H e5 e6 e7 e8 hH => ?_)
  have hw := hw T1 r2 z3 h4 e5 e6 e7 e8
  obtain ⟨k9, hw⟩ := hw
  refine hn_putr (ci := 5) (k := 0) (ty := tyX5) hx hb hown hKK hin hH cf5 (by decide) fl_X5_9 (Or.inr ⟨rfl, rfl⟩) rfl k9 rfl rfl dX5_init_9 (fun T10 H locs e11 hH => ?_)
  have hw := hw T10 e11
  refine lv_aload_n hx hb dX5_init_12 rfl (lv_at hl 0 rfl) ?_
  refine lv_bipush (v := (nI 48)) hx hb dX5_init_13 (by decide) ?_
  refine hn_newi (N := 48) hx hb hKK hH (nI_pos (by decide)) (nI_clamp (by decide)) (by decide) (Nat.le_of_ble_eq_true rfl) (Nat.le_of_ble_eq_true rfl) dX5_init_15 (fun T12 r13 z14 h15 H e16 e17 e18 e19 hH => ?_)
  have hw := hw T12 r13 z14 h15 e16 e17 e18 e19
  obtain ⟨k20, hw⟩ := hw
  refine hn_putr (ci := 5) (k := 1) (ty := tyX5) hx hb hown hKK hin hH cf5 (by decide) fl_X5_15 (Or.inr ⟨rfl, rfl⟩) rfl k20 rfl rfl dX5_init_17 (fun T21 H locs e22 hH => ?_)
  have hw := hw T21 e22
  exact hn_vret hx hb hr hlk hH hw dX5_init_20
def w_X6_init (T : St2) (sz : Nat) (v0 : Nat) (h : Hp) (Q : St2 → Nat → Hp → Prop) : Prop := ∀ (T1 : St2) (r2 z3 : Nat) (h4 : Hp), T1 = nwT T sz (.inl 1) → r2 = sz → z3 = sz + 1 → h4 = zr h sz → (w_X1_init T1 z3 r2 h4 (fun T9 z10 h11 => (T9.1 v0 = some (.inl 6) ∧ (∀ (T13 : St2), T13 = stR T9 v0 0 r2 → (∀ (T15 : St2) (r16 z17 : Nat) (h18 : Hp), T15 = nwT T13 z10 (.inl 1) → r16 = z10 → z17 = z10 + 1 → h18 = zr h11 z10 → (w_X1_init T15 z17 r16 h18 (fun T23 z24 h25 => (T23.1 v0 = some (.inl 6) ∧ (∀ (T27 : St2), T27 = stR T23 v0 1 r16 → (∀ (T29 : St2) (r30 z31 : Nat) (h32 : Hp), T29 = nwT T27 z24 (.inl 3) → r30 = z24 → z31 = z24 + 1 → h32 = zr h25 z24 → (w_X3_init T29 z31 r30 h32 (fun T37 z38 h39 => (T37.1 v0 = some (.inl 6) ∧ (∀ (T41 : St2), T41 = stR T37 v0 3 r30 → (∀ (T43 : St2) (r44 z45 : Nat) (h46 : Hp), T43 = nwT T41 z38 (.inl 4) → r44 = z38 → z45 = z38 + 1 → h46 = zr h39 z38 → (w_X4_init T43 z45 r44 h46 (fun T51 z52 h53 => (T51.1 v0 = some (.inl 6) ∧ (∀ (T55 : St2), T55 = stR T51 v0 4 r44 → (∀ (T57 : St2) (r58 z59 : Nat) (h60 : Hp), T57 = nwT T55 z52 (.inl 2) → r58 = z52 → z59 = z52 + 1 → h60 = zr h53 z52 → (w_X2_init T57 z59 r58 h60 (fun T65 z66 h67 => (T65.1 v0 = some (.inl 6) ∧ (∀ (T69 : St2), T69 = stR T65 v0 5 r58 → (∀ (T71 : St2) (r72 z73 : Nat) (h74 : Hp), T71 = nwT T69 z66 (.inl 5) → r72 = z66 → z73 = z66 + 1 → h74 = zr h67 z66 → (w_X5_init T71 z73 r72 h74 (fun T79 z80 h81 => (T79.1 v0 = some (.inl 6) ∧ (∀ (T83 : St2), T83 = stR T79 v0 6 r72 → (∀ (T85 : St2) (r86 z87 : Nat) (h88 : Hp), T85 = nwT T83 z80 (.inr (0, 12)) → r86 = z80 → z87 = z80 + 1 → h88 = zr h81 z80 → (T85.1 v0 = some (.inl 6) ∧ (∀ (T94 : St2), T94 = stR T85 v0 7 r86 → (∀ (T96 : St2) (r97 z98 : Nat) (h99 : Hp), T96 = nwT T94 z87 (.inr (0, 7)) → r97 = z87 → z98 = z87 + 1 → h99 = zr h88 z87 → (T96.1 v0 = some (.inl 6) ∧ (∀ (T105 : St2), T105 = stR T96 v0 9 r97 → (Q T105 z98 h99))))))))))))))))))))))))))))))))))))
abbrev rm_X6_init : Room := { frames := 4, cells := 179, slots := 2790, locals := 74 }
set_option maxHeartbeats 4000000 in
set_option maxRecDepth 100000 in
theorem m_X6_init {l : Launch} {Z : Zg} {G : Gl} {B : Nat} (T : St2) (sz : Nat) (v0 : Nat) (h : Hp) (Q : St2 → Nat → Hp → Prop) (hw : w_X6_init T sz v0 h Q) : MC Z l G B T sz yX6_init cX6_init 1 rm_X6_init [.ref v0] h Q := by
  refine met_ofn rfl rfl rfl ?_
  intro p e s m args below meth c hNB H ls hH hl
  obtain ⟨hx, hb, hml, hown, hKK, hr, hlk, hSK, hNK, hin⟩ := hNB
  replace hl : lv_has ls 1 [(0, .ref v0)] := hl
  unfold w_X6_init at hw
  show W p l e rm_X6_init s m args below meth c H [] 0 0 (MQ below (va_Qv (fun u : St2 × Nat × Hp => Q u.1 u.2.1 u.2.2) (PPq G B) (PPa B)) args s rm_X6_init.cells rm_X6_init.slots (PPa B)) (F0 m 0 ls [])
  generalize ([] : List Loc) = locs at hH ⊢
  refine lv_aload_n hx hb dX6_init_0 rfl (lv_at hl 0 rfl) ?_
  refine W.objInit hx hb hown (hKK.use ol_X6_1 rfl _) (hKK.use oi_i rfl _) (hKK.use oi_c rfl _) rfl (by rw [hml]; exact hl.1) rfl dX6_init_1 (Nat.le_of_ble_eq_true rfl) (Nat.le_of_ble_eq_true rfl) ?_
  show W p l e rm_X6_init s m args below meth c H locs 0 0 _ (F0 m 4 ls [])
  refine lv_aload_n hx hb dX6_init_4 rfl (lv_at hl 0 rfl) ?_
  refine hn_new (ci := 1) (ty := tyX1) hx hb hown hKK hH cf1 cl_X6_7 in_X1 wi_X1 df_1 (Nat.le_of_ble_eq_true rfl) (Nat.le_of_ble_eq_true rfl) dX6_init_5 (fun T1 r2 z3 h4 H e5 e6 e7 e8 hH => ?_)
  have hw := hw T1 r2 z3 h4 e5 e6 e7 e8
  refine lv_dup hx hb dX6_init_8 rfl ?_
  refine hn_cI (rm := rm_X1_init) (As := []) (rest := [.ref r2, .ref v0]) (k := 0) hx hb hml hown hKK hSK hNK hH (m_X1_init _ _ _ _ _ hw) ci_X6_9 ⟨(Nat.le_of_ble_eq_true rfl), (Nat.le_of_ble_eq_true rfl)⟩ rfl hl.1 rfl (Nat.le_of_ble_eq_true rfl) ⟨(Nat.le_of_ble_eq_true rfl), (Nat.le_of_ble_eq_true rfl)⟩ dX6_init_9 (fun T9 z10 h11 H locs hH hw => ?_)
  obtain ⟨k12, hw⟩ := hw
  refine hn_putr (ci := 6) (k := 0) (ty := tyX6) hx hb hown hKK hin hH cf6 (by decide) fl_X6_10 (Or.inr ⟨rfl, rfl⟩) rfl k12 rfl rfl dX6_init_12 (fun T13 H locs e14 hH => ?_)
  have hw := hw T13 e14
  refine lv_aload_n hx hb dX6_init_15 rfl (lv_at hl 0 rfl) ?_
  refine hn_new (ci := 1) (ty := tyX1) hx hb hown hKK hH cf1 cl_X6_7 in_X1 wi_X1 df_1 (Nat.le_of_ble_eq_true rfl) (Nat.le_of_ble_eq_true rfl) dX6_init_16 (fun T15 r16 z17 h18 H e19 e20 e21 e22 hH => ?_)
  have hw := hw T15 r16 z17 h18 e19 e20 e21 e22
  refine lv_dup hx hb dX6_init_19 rfl ?_
  refine hn_cI (rm := rm_X1_init) (As := []) (rest := [.ref r16, .ref v0]) (k := 0) hx hb hml hown hKK hSK hNK hH (m_X1_init _ _ _ _ _ hw) ci_X6_9 ⟨(Nat.le_of_ble_eq_true rfl), (Nat.le_of_ble_eq_true rfl)⟩ rfl hl.1 rfl (Nat.le_of_ble_eq_true rfl) ⟨(Nat.le_of_ble_eq_true rfl), (Nat.le_of_ble_eq_true rfl)⟩ dX6_init_20 (fun T23 z24 h25 H locs hH hw => ?_)
  obtain ⟨k26, hw⟩ := hw
  refine hn_putr (ci := 6) (k := 1) (ty := tyX6) hx hb hown hKK hin hH cf6 (by decide) fl_X6_16 (Or.inr ⟨rfl, rfl⟩) rfl k26 rfl rfl dX6_init_23 (fun T27 H locs e28 hH => ?_)
  have hw := hw T27 e28
  refine lv_aload_n hx hb dX6_init_26 rfl (lv_at hl 0 rfl) ?_
  refine hn_new (ci := 3) (ty := tyX3) hx hb hown hKK hH cf3 cl_X6_19 in_X3 wi_X3 df_3 (Nat.le_of_ble_eq_true rfl) (Nat.le_of_ble_eq_true rfl) dX6_init_27 (fun T29 r30 z31 h32 H e33 e34 e35 e36 hH => ?_)
  have hw := hw T29 r30 z31 h32 e33 e34 e35 e36
  refine lv_dup hx hb dX6_init_30 rfl ?_
  refine hn_cI (rm := rm_X3_init) (As := []) (rest := [.ref r30, .ref v0]) (k := 0) hx hb hml hown hKK hSK hNK hH (m_X3_init _ _ _ _ _ hw) ci_X6_21 ⟨(Nat.le_of_ble_eq_true rfl), (Nat.le_of_ble_eq_true rfl)⟩ rfl hl.1 rfl (Nat.le_of_ble_eq_true rfl) ⟨(Nat.le_of_ble_eq_true rfl), (Nat.le_of_ble_eq_true rfl)⟩ dX6_init_31 (fun T37 z38 h39 H locs hH hw => ?_)
  obtain ⟨k40, hw⟩ := hw
  refine hn_putr (ci := 6) (k := 3) (ty := tyX6) hx hb hown hKK hin hH cf6 (by decide) fl_X6_22 (Or.inr ⟨rfl, rfl⟩) rfl k40 rfl rfl dX6_init_34 (fun T41 H locs e42 hH => ?_)
  have hw := hw T41 e42
  refine lv_aload_n hx hb dX6_init_37 rfl (lv_at hl 0 rfl) ?_
  refine hn_new (ci := 4) (ty := tyX4) hx hb hown hKK hH cf4 cl_X6_26 in_X4 wi_X4 df_4 (Nat.le_of_ble_eq_true rfl) (Nat.le_of_ble_eq_true rfl) dX6_init_38 (fun T43 r44 z45 h46 H e47 e48 e49 e50 hH => ?_)
  have hw := hw T43 r44 z45 h46 e47 e48 e49 e50
  refine lv_dup hx hb dX6_init_41 rfl ?_
  refine hn_cI (rm := rm_X4_init) (As := []) (rest := [.ref r44, .ref v0]) (k := 0) hx hb hml hown hKK hSK hNK hH (m_X4_init _ _ _ _ _ hw) ci_X6_28 ⟨(Nat.le_of_ble_eq_true rfl), (Nat.le_of_ble_eq_true rfl)⟩ rfl hl.1 rfl (Nat.le_of_ble_eq_true rfl) ⟨(Nat.le_of_ble_eq_true rfl), (Nat.le_of_ble_eq_true rfl)⟩ dX6_init_42 (fun T51 z52 h53 H locs hH hw => ?_)
  obtain ⟨k54, hw⟩ := hw
  refine hn_putr (ci := 6) (k := 4) (ty := tyX6) hx hb hown hKK hin hH cf6 (by decide) fl_X6_29 (Or.inr ⟨rfl, rfl⟩) rfl k54 rfl rfl dX6_init_45 (fun T55 H locs e56 hH => ?_)
  have hw := hw T55 e56
  refine lv_aload_n hx hb dX6_init_48 rfl (lv_at hl 0 rfl) ?_
  refine hn_new (ci := 2) (ty := tyX2) hx hb hown hKK hH cf2 cl_X6_33 in_X2 wi_X2 df_2 (Nat.le_of_ble_eq_true rfl) (Nat.le_of_ble_eq_true rfl) dX6_init_49 (fun T57 r58 z59 h60 H e61 e62 e63 e64 hH => ?_)
  have hw := hw T57 r58 z59 h60 e61 e62 e63 e64
  refine lv_dup hx hb dX6_init_52 rfl ?_
  refine hn_cI (rm := rm_X2_init) (As := []) (rest := [.ref r58, .ref v0]) (k := 0) hx hb hml hown hKK hSK hNK hH (m_X2_init _ _ _ _ _ hw) ci_X6_35 ⟨(Nat.le_of_ble_eq_true rfl), (Nat.le_of_ble_eq_true rfl)⟩ rfl hl.1 rfl (Nat.le_of_ble_eq_true rfl) ⟨(Nat.le_of_ble_eq_true rfl), (Nat.le_of_ble_eq_true rfl)⟩ dX6_init_53 (fun T65 z66 h67 H locs hH hw => ?_)
  obtain ⟨k68, hw⟩ := hw
  refine hn_putr (ci := 6) (k := 5) (ty := tyX6) hx hb hown hKK hin hH cf6 (by decide) fl_X6_36 (Or.inr ⟨rfl, rfl⟩) rfl k68 rfl rfl dX6_init_56 (fun T69 H locs e70 hH => ?_)
  have hw := hw T69 e70
  refine lv_aload_n hx hb dX6_init_59 rfl (lv_at hl 0 rfl) ?_
  refine hn_new (ci := 5) (ty := tyX5) hx hb hown hKK hH cf5 cl_X6_40 in_X5 wi_X5 df_5 (Nat.le_of_ble_eq_true rfl) (Nat.le_of_ble_eq_true rfl) dX6_init_60 (fun T71 r72 z73 h74 H e75 e76 e77 e78 hH => ?_)
  have hw := hw T71 r72 z73 h74 e75 e76 e77 e78
  refine lv_dup hx hb dX6_init_63 rfl ?_
  refine hn_cI (rm := rm_X5_init) (As := []) (rest := [.ref r72, .ref v0]) (k := 0) hx hb hml hown hKK hSK hNK hH (m_X5_init _ _ _ _ _ hw) ci_X6_42 ⟨(Nat.le_of_ble_eq_true rfl), (Nat.le_of_ble_eq_true rfl)⟩ rfl hl.1 rfl (Nat.le_of_ble_eq_true rfl) ⟨(Nat.le_of_ble_eq_true rfl), (Nat.le_of_ble_eq_true rfl)⟩ dX6_init_64 (fun T79 z80 h81 H locs hH hw => ?_)
  obtain ⟨k82, hw⟩ := hw
  refine hn_putr (ci := 6) (k := 6) (ty := tyX6) hx hb hown hKK hin hH cf6 (by decide) fl_X6_43 (Or.inr ⟨rfl, rfl⟩) rfl k82 rfl rfl dX6_init_67 (fun T83 H locs e84 hH => ?_)
  have hw := hw T83 e84
  refine lv_aload_n hx hb dX6_init_70 rfl (lv_at hl 0 rfl) ?_
  refine lv_bipush (v := (nI 12)) hx hb dX6_init_71 (by decide) ?_
  refine hn_newi (N := 12) hx hb hKK hH (nI_pos (by decide)) (nI_clamp (by decide)) (by decide) (Nat.le_of_ble_eq_true rfl) (Nat.le_of_ble_eq_true rfl) dX6_init_73 (fun T85 r86 z87 h88 H e89 e90 e91 e92 hH => ?_)
  have hw := hw T85 r86 z87 h88 e89 e90 e91 e92
  obtain ⟨k93, hw⟩ := hw
  refine hn_putr (ci := 6) (k := 7) (ty := tyX6) hx hb hown hKK hin hH cf6 (by decide) fl_X6_47 (Or.inr ⟨rfl, rfl⟩) rfl k93 rfl rfl dX6_init_75 (fun T94 H locs e95 hH => ?_)
  have hw := hw T94 e95
  refine lv_aload_n hx hb dX6_init_78 rfl (lv_at hl 0 rfl) ?_
  refine lv_bipush (v := (nI 7)) hx hb dX6_init_79 (by decide) ?_
  refine hn_newi (N := 7) hx hb hKK hH (nI_pos (by decide)) (nI_clamp (by decide)) (by decide) (Nat.le_of_ble_eq_true rfl) (Nat.le_of_ble_eq_true rfl) dX6_init_81 (fun T96 r97 z98 h99 H e100 e101 e102 e103 hH => ?_)
  have hw := hw T96 r97 z98 h99 e100 e101 e102 e103
  obtain ⟨k104, hw⟩ := hw
  refine hn_putr (ci := 6) (k := 9) (ty := tyX6) hx hb hown hKK hin hH cf6 (by decide) fl_X6_51 (Or.inr ⟨rfl, rfl⟩) rfl k104 rfl rfl dX6_init_83 (fun T105 H locs e106 hH => ?_)
  have hw := hw T105 e106
  exact hn_vret hx hb hr hlk hH hw dX6_init_86
def w_X7_init (T : St2) (sz : Nat) (v0 : Nat) (h : Hp) (Q : St2 → Nat → Hp → Prop) : Prop := ∀ (T1 : St2) (r2 z3 : Nat) (h4 : Hp), T1 = nwT T sz (.inr (0, 7)) → r2 = sz → z3 = sz + 1 → h4 = zr h sz → (T1.1 v0 = some (.inl 7) ∧ (∀ (T10 : St2), T10 = stR T1 v0 0 r2 → (∀ (T12 : St2) (r13 z14 : Nat) (h15 : Hp), T12 = nwT T10 z3 (.inr (0, 48)) → r13 = z3 → z14 = z3 + 1 → h15 = zr h4 z3 → (T12.1 v0 = some (.inl 7) ∧ (∀ (T21 : St2), T21 = stR T12 v0 1 r13 → (∀ (T23 : St2) (r24 z25 : Nat) (h26 : Hp), T23 = nwT T21 z14 (.inr (0, 48)) → r24 = z14 → z25 = z14 + 1 → h26 = zr h15 z14 → (T23.1 v0 = some (.inl 7) ∧ (∀ (T32 : St2), T32 = stR T23 v0 2 r24 → (∀ (T34 : St2) (r35 z36 : Nat) (h37 : Hp), T34 = nwT T32 z25 (.inr (0, 48)) → r35 = z25 → z36 = z25 + 1 → h37 = zr h26 z25 → (T34.1 v0 = some (.inl 7) ∧ (∀ (T43 : St2), T43 = stR T34 v0 3 r35 → (∀ (T45 : St2) (r46 z47 : Nat) (h48 : Hp), T45 = nwT T43 z36 (.inr (0, 5)) → r46 = z36 → z47 = z36 + 1 → h48 = zr h37 z36 → (T45.1 v0 = some (.inl 7) ∧ (∀ (T54 : St2), T54 = stR T45 v0 4 r46 → (∀ (T56 : St2) (r57 z58 : Nat) (h59 : Hp), T56 = nwT T54 z47 (.inr (0, 5)) → r57 = z47 → z58 = z47 + 1 → h59 = zr h48 z47 → (T56.1 v0 = some (.inl 7) ∧ (∀ (T65 : St2), T65 = stR T56 v0 5 r57 → (∀ (T67 : St2) (r68 z69 : Nat) (h70 : Hp), T67 = nwT T65 z58 (.inr (0, 5)) → r68 = z58 → z69 = z58 + 1 → h70 = zr h59 z58 → (T67.1 v0 = some (.inl 7) ∧ (∀ (T76 : St2), T76 = stR T67 v0 6 r68 → (∀ (T78 : St2) (r79 z80 : Nat) (h81 : Hp), T78 = nwT T76 z69 (.inr (0, 5)) → r79 = z69 → z80 = z69 + 1 → h81 = zr h70 z69 → (T78.1 v0 = some (.inl 7) ∧ (∀ (T87 : St2), T87 = stR T78 v0 7 r79 → (∀ (T89 : St2) (r90 z91 : Nat) (h92 : Hp), T89 = nwT T87 z80 (.inr (0, 5)) → r90 = z80 → z91 = z80 + 1 → h92 = zr h81 z80 → (T89.1 v0 = some (.inl 7) ∧ (∀ (T98 : St2), T98 = stR T89 v0 8 r90 → (∀ (T100 : St2) (r101 z102 : Nat) (h103 : Hp), T100 = nwT T98 z91 (.inr (0, 5)) → r101 = z91 → z102 = z91 + 1 → h103 = zr h92 z91 → (T100.1 v0 = some (.inl 7) ∧ (∀ (T109 : St2), T109 = stR T100 v0 9 r101 → (∀ (T111 : St2) (r112 z113 : Nat) (h114 : Hp), T111 = nwT T109 z102 (.inr (0, 5)) → r112 = z102 → z113 = z102 + 1 → h114 = zr h103 z102 → (T111.1 v0 = some (.inl 7) ∧ (∀ (T120 : St2), T120 = stR T111 v0 10 r112 → (∀ (T122 : St2) (r123 z124 : Nat) (h125 : Hp), T122 = nwT T120 z113 (.inr (0, 5)) → r123 = z113 → z124 = z113 + 1 → h125 = zr h114 z113 → (T122.1 v0 = some (.inl 7) ∧ (∀ (T131 : St2), T131 = stR T122 v0 11 r123 → (∀ (T133 : St2) (r134 z135 : Nat) (h136 : Hp), T133 = nwT T131 z124 (.inr (0, 30)) → r134 = z124 → z135 = z124 + 1 → h136 = zr h125 z124 → (T133.1 v0 = some (.inl 7) ∧ (∀ (T142 : St2), T142 = stR T133 v0 12 r134 → (∀ (T144 : St2) (r145 z146 : Nat) (h147 : Hp), T144 = nwT T142 z135 (.inr (0, 96)) → r145 = z135 → z146 = z135 + 1 → h147 = zr h136 z135 → (T144.1 v0 = some (.inl 7) ∧ (∀ (T153 : St2), T153 = stR T144 v0 16 r145 → (∀ (T155 : St2) (r156 z157 : Nat) (h158 : Hp), T155 = nwT T153 z146 (.inr (0, 25)) → r156 = z146 → z157 = z146 + 1 → h158 = zr h147 z146 → (T155.1 v0 = some (.inl 7) ∧ (∀ (T164 : St2), T164 = stR T155 v0 17 r156 → (∀ (T166 : St2) (r167 z168 : Nat) (h169 : Hp), T166 = nwT T164 z157 (.inr (0, 25)) → r167 = z157 → z168 = z157 + 1 → h169 = zr h158 z157 → (T166.1 v0 = some (.inl 7) ∧ (∀ (T175 : St2), T175 = stR T166 v0 18 r167 → (∀ (T177 : St2) (r178 z179 : Nat) (h180 : Hp), T177 = nwT T175 z168 (.inr (0, 25)) → r178 = z168 → z179 = z168 + 1 → h180 = zr h169 z168 → (T177.1 v0 = some (.inl 7) ∧ (∀ (T186 : St2), T186 = stR T177 v0 19 r178 → (∀ (T188 : St2) (r189 z190 : Nat) (h191 : Hp), T188 = nwT T186 z179 (.inr (0, 75)) → r189 = z179 → z190 = z179 + 1 → h191 = zr h180 z179 → (T188.1 v0 = some (.inl 7) ∧ (∀ (T197 : St2), T197 = stR T188 v0 20 r189 → (∀ (T199 : St2) (r200 z201 : Nat) (h202 : Hp), T199 = nwT T197 z190 (.inr (0, 75)) → r200 = z190 → z201 = z190 + 1 → h202 = zr h191 z190 → (T199.1 v0 = some (.inl 7) ∧ (∀ (T208 : St2), T208 = stR T199 v0 21 r200 → (∀ (T210 : St2) (r211 z212 : Nat) (h213 : Hp), T210 = nwT T208 z201 (.inr (0, 2400)) → r211 = z201 → z212 = z201 + 1 → h213 = zr h202 z201 → (T210.1 v0 = some (.inl 7) ∧ (∀ (T219 : St2), T219 = stR T210 v0 25 r211 → (∀ (T221 : St2) (r222 z223 : Nat) (h224 : Hp), T221 = nwT T219 z212 (.inr (0, 12)) → r222 = z212 → z223 = z212 + 1 → h224 = zr h213 z212 → (T221.1 v0 = some (.inl 7) ∧ (∀ (T230 : St2), T230 = stR T221 v0 31 r222 → (∀ (T232 : St2) (r233 z234 : Nat) (h235 : Hp), T232 = nwT T230 z223 (.inr (0, 8)) → r233 = z223 → z234 = z223 + 1 → h235 = zr h224 z223 → (T232.1 v0 = some (.inl 7) ∧ (∀ (T241 : St2), T241 = stR T232 v0 33 r233 → (∀ (T243 : St2) (r244 z245 : Nat) (h246 : Hp), T243 = nwT T241 z234 (.inr (0, 48)) → r244 = z234 → z245 = z234 + 1 → h246 = zr h235 z234 → (T243.1 v0 = some (.inl 7) ∧ (∀ (T252 : St2), T252 = stR T243 v0 34 r244 → (T252.1 v0 = some (.inl 7) ∧ (∀ (h255 : Hp), h255 = up h246 v0 13 (nI 0) → (Q T252 z245 h255)))))))))))))))))))))))))))))))))))))))))))))))))))))))))))))))))))))))
abbrev rm_X7_init : Room := { frames := 1, cells := 23, slots := 3010, locals := 12 }
set_option maxHeartbeats 4000000 in
set_option maxRecDepth 100000 in
theorem m_X7_init {l : Launch} {Z : Zg} {G : Gl} {B : Nat} (T : St2) (sz : Nat) (v0 : Nat) (h : Hp) (Q : St2 → Nat → Hp → Prop) (hw : w_X7_init T sz v0 h Q) : MC Z l G B T sz yX7_init cX7_init 1 rm_X7_init [.ref v0] h Q := by
  refine met_ofn rfl rfl rfl ?_
  intro p e s m args below meth c hNB H ls hH hl
  obtain ⟨hx, hb, hml, hown, hKK, hr, hlk, hSK, hNK, hin⟩ := hNB
  replace hl : lv_has ls 1 [(0, .ref v0)] := hl
  unfold w_X7_init at hw
  show W p l e rm_X7_init s m args below meth c H [] 0 0 (MQ below (va_Qv (fun u : St2 × Nat × Hp => Q u.1 u.2.1 u.2.2) (PPq G B) (PPa B)) args s rm_X7_init.cells rm_X7_init.slots (PPa B)) (F0 m 0 ls [])
  generalize ([] : List Loc) = locs at hH ⊢
  refine lv_aload_n hx hb dX7_init_0 rfl (lv_at hl 0 rfl) ?_
  refine W.objInit hx hb hown (hKK.use ol_X7_1 rfl _) (hKK.use oi_i rfl _) (hKK.use oi_c rfl _) rfl (by rw [hml]; exact hl.1) rfl dX7_init_1 (Nat.le_of_ble_eq_true rfl) (Nat.le_of_ble_eq_true rfl) ?_
  show W p l e rm_X7_init s m args below meth c H locs 0 0 _ (F0 m 4 ls [])
  refine lv_aload_n hx hb dX7_init_4 rfl (lv_at hl 0 rfl) ?_
  refine lv_bipush (v := (nI 7)) hx hb dX7_init_5 (by decide) ?_
  refine hn_newi (N := 7) hx hb hKK hH (nI_pos (by decide)) (nI_clamp (by decide)) (by decide) (Nat.le_of_ble_eq_true rfl) (Nat.le_of_ble_eq_true rfl) dX7_init_7 (fun T1 r2 z3 h4 H e5 e6 e7 e8 hH => ?_)
  have hw := hw T1 r2 z3 h4 e5 e6 e7 e8
  obtain ⟨k9, hw⟩ := hw
  refine hn_putr (ci := 7) (k := 0) (ty := tyX7) hx hb hown hKK hin hH cf7 (by decide) fl_X7_7 (Or.inr ⟨rfl, rfl⟩) rfl k9 rfl rfl dX7_init_9 (fun T10 H locs e11 hH => ?_)
  have hw := hw T10 e11
  refine lv_aload_n hx hb dX7_init_12 rfl (lv_at hl 0 rfl) ?_
  refine lv_bipush (v := (nI 48)) hx hb dX7_init_13 (by decide) ?_
  refine hn_newi (N := 48) hx hb hKK hH (nI_pos (by decide)) (nI_clamp (by decide)) (by decide) (Nat.le_of_ble_eq_true rfl) (Nat.le_of_ble_eq_true rfl) dX7_init_15 (fun T12 r13 z14 h15 H e16 e17 e18 e19 hH => ?_)
  have hw := hw T12 r13 z14 h15 e16 e17 e18 e19
  obtain ⟨k20, hw⟩ := hw
  refine hn_putr (ci := 7) (k := 1) (ty := tyX7) hx hb hown hKK hin hH cf7 (by decide) fl_X7_13 (Or.inr ⟨rfl, rfl⟩) rfl k20 rfl rfl dX7_init_17 (fun T21 H locs e22 hH => ?_)
  have hw := hw T21 e22
  refine lv_aload_n hx hb dX7_init_20 rfl (lv_at hl 0 rfl) ?_
  refine lv_bipush (v := (nI 48)) hx hb dX7_init_21 (by decide) ?_
  refine hn_newi (N := 48) hx hb hKK hH (nI_pos (by decide)) (nI_clamp (by decide)) (by decide) (Nat.le_of_ble_eq_true rfl) (Nat.le_of_ble_eq_true rfl) dX7_init_23 (fun T23 r24 z25 h26 H e27 e28 e29 e30 hH => ?_)
  have hw := hw T23 r24 z25 h26 e27 e28 e29 e30
  obtain ⟨k31, hw⟩ := hw
  refine hn_putr (ci := 7) (k := 2) (ty := tyX7) hx hb hown hKK hin hH cf7 (by decide) fl_X7_16 (Or.inr ⟨rfl, rfl⟩) rfl k31 rfl rfl dX7_init_25 (fun T32 H locs e33 hH => ?_)
  have hw := hw T32 e33
  refine lv_aload_n hx hb dX7_init_28 rfl (lv_at hl 0 rfl) ?_
  refine lv_bipush (v := (nI 48)) hx hb dX7_init_29 (by decide) ?_
  refine hn_newi (N := 48) hx hb hKK hH (nI_pos (by decide)) (nI_clamp (by decide)) (by decide) (Nat.le_of_ble_eq_true rfl) (Nat.le_of_ble_eq_true rfl) dX7_init_31 (fun T34 r35 z36 h37 H e38 e39 e40 e41 hH => ?_)
  have hw := hw T34 r35 z36 h37 e38 e39 e40 e41
  obtain ⟨k42, hw⟩ := hw
  refine hn_putr (ci := 7) (k := 3) (ty := tyX7) hx hb hown hKK hin hH cf7 (by decide) fl_X7_19 (Or.inr ⟨rfl, rfl⟩) rfl k42 rfl rfl dX7_init_33 (fun T43 H locs e44 hH => ?_)
  have hw := hw T43 e44
  refine lv_aload_n hx hb dX7_init_36 rfl (lv_at hl 0 rfl) ?_
  refine lv_iconst (v := (nI 5)) hx hb dX7_init_37 (by decide) ?_
  refine hn_newi (N := 5) hx hb hKK hH (nI_pos (by decide)) (nI_clamp (by decide)) (by decide) (Nat.le_of_ble_eq_true rfl) (Nat.le_of_ble_eq_true rfl) dX7_init_38 (fun T45 r46 z47 h48 H e49 e50 e51 e52 hH => ?_)
  have hw := hw T45 r46 z47 h48 e49 e50 e51 e52
  obtain ⟨k53, hw⟩ := hw
  refine hn_putr (ci := 7) (k := 4) (ty := tyX7) hx hb hown hKK hin hH cf7 (by decide) fl_X7_22 (Or.inr ⟨rfl, rfl⟩) rfl k53 rfl rfl dX7_init_40 (fun T54 H locs e55 hH => ?_)
  have hw := hw T54 e55
  refine lv_aload_n hx hb dX7_init_43 rfl (lv_at hl 0 rfl) ?_
  refine lv_iconst (v := (nI 5)) hx hb dX7_init_44 (by decide) ?_
  refine hn_newi (N := 5) hx hb hKK hH (nI_pos (by decide)) (nI_clamp (by decide)) (by decide) (Nat.le_of_ble_eq_true rfl) (Nat.le_of_ble_eq_true rfl) dX7_init_45 (fun T56 r57 z58 h59 H e60 e61 e62 e63 hH => ?_)
  have hw := hw T56 r57 z58 h59 e60 e61 e62 e63
  obtain ⟨k64, hw⟩ := hw
  refine hn_putr (ci := 7) (k := 5) (ty := tyX7) hx hb hown hKK hin hH cf7 (by decide) fl_X7_25 (Or.inr ⟨rfl, rfl⟩) rfl k64 rfl rfl dX7_init_47 (fun T65 H locs e66 hH => ?_)
  have hw := hw T65 e66
  refine lv_aload_n hx hb dX7_init_50 rfl (lv_at hl 0 rfl) ?_
  refine lv_iconst (v := (nI 5)) hx hb dX7_init_51 (by decide) ?_
  refine hn_newi (N := 5) hx hb hKK hH (nI_pos (by decide)) (nI_clamp (by decide)) (by decide) (Nat.le_of_ble_eq_true rfl) (Nat.le_of_ble_eq_true rfl) dX7_init_52 (fun T67 r68 z69 h70 H e71 e72 e73 e74 hH => ?_)
  have hw := hw T67 r68 z69 h70 e71 e72 e73 e74
  obtain ⟨k75, hw⟩ := hw
  refine hn_putr (ci := 7) (k := 6) (ty := tyX7) hx hb hown hKK hin hH cf7 (by decide) fl_X7_28 (Or.inr ⟨rfl, rfl⟩) rfl k75 rfl rfl dX7_init_54 (fun T76 H locs e77 hH => ?_)
  have hw := hw T76 e77
  refine lv_aload_n hx hb dX7_init_57 rfl (lv_at hl 0 rfl) ?_
  refine lv_iconst (v := (nI 5)) hx hb dX7_init_58 (by decide) ?_
  refine hn_newi (N := 5) hx hb hKK hH (nI_pos (by decide)) (nI_clamp (by decide)) (by decide) (Nat.le_of_ble_eq_true rfl) (Nat.le_of_ble_eq_true rfl) dX7_init_59 (fun T78 r79 z80 h81 H e82 e83 e84 e85 hH => ?_)
  have hw := hw T78 r79 z80 h81 e82 e83 e84 e85
  obtain ⟨k86, hw⟩ := hw
  refine hn_putr (ci := 7) (k := 7) (ty := tyX7) hx hb hown hKK hin hH cf7 (by decide) fl_X7_31 (Or.inr ⟨rfl, rfl⟩) rfl k86 rfl rfl dX7_init_61 (fun T87 H locs e88 hH => ?_)
  have hw := hw T87 e88
  refine lv_aload_n hx hb dX7_init_64 rfl (lv_at hl 0 rfl) ?_
  refine lv_iconst (v := (nI 5)) hx hb dX7_init_65 (by decide) ?_
  refine hn_newi (N := 5) hx hb hKK hH (nI_pos (by decide)) (nI_clamp (by decide)) (by decide) (Nat.le_of_ble_eq_true rfl) (Nat.le_of_ble_eq_true rfl) dX7_init_66 (fun T89 r90 z91 h92 H e93 e94 e95 e96 hH => ?_)
  have hw := hw T89 r90 z91 h92 e93 e94 e95 e96
  obtain ⟨k97, hw⟩ := hw
  refine hn_putr (ci := 7) (k := 8) (ty := tyX7) hx hb hown hKK hin hH cf7 (by decide) fl_X7_34 (Or.inr ⟨rfl, rfl⟩) rfl k97 rfl rfl dX7_init_68 (fun T98 H locs e99 hH => ?_)
  have hw := hw T98 e99
  refine lv_aload_n hx hb dX7_init_71 rfl (lv_at hl 0 rfl) ?_
  refine lv_iconst (v := (nI 5)) hx hb dX7_init_72 (by decide) ?_
  refine hn_newi (N := 5) hx hb hKK hH (nI_pos (by decide)) (nI_clamp (by decide)) (by decide) (Nat.le_of_ble_eq_true rfl) (Nat.le_of_ble_eq_true rfl) dX7_init_73 (fun T100 r101 z102 h103 H e104 e105 e106 e107 hH => ?_)
  have hw := hw T100 r101 z102 h103 e104 e105 e106 e107
  obtain ⟨k108, hw⟩ := hw
  refine hn_putr (ci := 7) (k := 9) (ty := tyX7) hx hb hown hKK hin hH cf7 (by decide) fl_X7_37 (Or.inr ⟨rfl, rfl⟩) rfl k108 rfl rfl dX7_init_75 (fun T109 H locs e110 hH => ?_)
  have hw := hw T109 e110
  refine lv_aload_n hx hb dX7_init_78 rfl (lv_at hl 0 rfl) ?_
  refine lv_iconst (v := (nI 5)) hx hb dX7_init_79 (by decide) ?_
  refine hn_newi (N := 5) hx hb hKK hH (nI_pos (by decide)) (nI_clamp (by decide)) (by decide) (Nat.le_of_ble_eq_true rfl) (Nat.le_of_ble_eq_true rfl) dX7_init_80 (fun T111 r112 z113 h114 H e115 e116 e117 e118 hH => ?_)
  have hw := hw T111 r112 z113 h114 e115 e116 e117 e118
  obtain ⟨k119, hw⟩ := hw
  refine hn_putr (ci := 7) (k := 10) (ty := tyX7) hx hb hown hKK hin hH cf7 (by decide) fl_X7_40 (Or.inr ⟨rfl, rfl⟩) rfl k119 rfl rfl dX7_init_82 (fun T120 H locs e121 hH => ?_)
  have hw := hw T120 e121
  refine lv_aload_n hx hb dX7_init_85 rfl (lv_at hl 0 rfl) ?_
  refine lv_iconst (v := (nI 5)) hx hb dX7_init_86 (by decide) ?_
  refine hn_newi (N := 5) hx hb hKK hH (nI_pos (by decide)) (nI_clamp (by decide)) (by decide) (Nat.le_of_ble_eq_true rfl) (Nat.le_of_ble_eq_true rfl) dX7_init_87 (fun T122 r123 z124 h125 H e126 e127 e128 e129 hH => ?_)
  have hw := hw T122 r123 z124 h125 e126 e127 e128 e129
  obtain ⟨k130, hw⟩ := hw
  refine hn_putr (ci := 7) (k := 11) (ty := tyX7) hx hb hown hKK hin hH cf7 (by decide) fl_X7_43 (Or.inr ⟨rfl, rfl⟩) rfl k130 rfl rfl dX7_init_89 (fun T131 H locs e132 hH => ?_)
  have hw := hw T131 e132
  refine lv_aload_n hx hb dX7_init_92 rfl (lv_at hl 0 rfl) ?_
  refine lv_bipush (v := (nI 30)) hx hb dX7_init_93 (by decide) ?_
  refine hn_newi (N := 30) hx hb hKK hH (nI_pos (by decide)) (nI_clamp (by decide)) (by decide) (Nat.le_of_ble_eq_true rfl) (Nat.le_of_ble_eq_true rfl) dX7_init_95 (fun T133 r134 z135 h136 H e137 e138 e139 e140 hH => ?_)
  have hw := hw T133 r134 z135 h136 e137 e138 e139 e140
  obtain ⟨k141, hw⟩ := hw
  refine hn_putr (ci := 7) (k := 12) (ty := tyX7) hx hb hown hKK hin hH cf7 (by decide) fl_X7_46 (Or.inr ⟨rfl, rfl⟩) rfl k141 rfl rfl dX7_init_97 (fun T142 H locs e143 hH => ?_)
  have hw := hw T142 e143
  refine lv_aload_n hx hb dX7_init_100 rfl (lv_at hl 0 rfl) ?_
  refine lv_bipush (v := (nI 96)) hx hb dX7_init_101 (by decide) ?_
  refine hn_newi (N := 96) hx hb hKK hH (nI_pos (by decide)) (nI_clamp (by decide)) (by decide) (Nat.le_of_ble_eq_true rfl) (Nat.le_of_ble_eq_true rfl) dX7_init_103 (fun T144 r145 z146 h147 H e148 e149 e150 e151 hH => ?_)
  have hw := hw T144 r145 z146 h147 e148 e149 e150 e151
  obtain ⟨k152, hw⟩ := hw
  refine hn_putr (ci := 7) (k := 16) (ty := tyX7) hx hb hown hKK hin hH cf7 (by decide) fl_X7_49 (Or.inr ⟨rfl, rfl⟩) rfl k152 rfl rfl dX7_init_105 (fun T153 H locs e154 hH => ?_)
  have hw := hw T153 e154
  refine lv_aload_n hx hb dX7_init_108 rfl (lv_at hl 0 rfl) ?_
  refine lv_bipush (v := (nI 25)) hx hb dX7_init_109 (by decide) ?_
  refine hn_newi (N := 25) hx hb hKK hH (nI_pos (by decide)) (nI_clamp (by decide)) (by decide) (Nat.le_of_ble_eq_true rfl) (Nat.le_of_ble_eq_true rfl) dX7_init_111 (fun T155 r156 z157 h158 H e159 e160 e161 e162 hH => ?_)
  have hw := hw T155 r156 z157 h158 e159 e160 e161 e162
  obtain ⟨k163, hw⟩ := hw
  refine hn_putr (ci := 7) (k := 17) (ty := tyX7) hx hb hown hKK hin hH cf7 (by decide) fl_X7_52 (Or.inr ⟨rfl, rfl⟩) rfl k163 rfl rfl dX7_init_113 (fun T164 H locs e165 hH => ?_)
  have hw := hw T164 e165
  refine lv_aload_n hx hb dX7_init_116 rfl (lv_at hl 0 rfl) ?_
  refine lv_bipush (v := (nI 25)) hx hb dX7_init_117 (by decide) ?_
  refine hn_newi (N := 25) hx hb hKK hH (nI_pos (by decide)) (nI_clamp (by decide)) (by decide) (Nat.le_of_ble_eq_true rfl) (Nat.le_of_ble_eq_true rfl) dX7_init_119 (fun T166 r167 z168 h169 H e170 e171 e172 e173 hH => ?_)
  have hw := hw T166 r167 z168 h169 e170 e171 e172 e173
  obtain ⟨k174, hw⟩ := hw
  refine hn_putr (ci := 7) (k := 18) (ty := tyX7) hx hb hown hKK hin hH cf7 (by decide) fl_X7_55 (Or.inr ⟨rfl, rfl⟩) rfl k174 rfl rfl dX7_init_121 (fun T175 H locs e176 hH => ?_)
  have hw := hw T175 e176
  refine lv_aload_n hx hb dX7_init_124 rfl (lv_at hl 0 rfl) ?_
  refine lv_bipush (v := (nI 25)) hx hb dX7_init_125 (by decide) ?_
  refine hn_newi (N := 25) hx hb hKK hH (nI_pos (by decide)) (nI_clamp (by decide)) (by decide) (Nat.le_of_ble_eq_true rfl) (Nat.le_of_ble_eq_true rfl) dX7_init_127 (fun T177 r178 z179 h180 H e181 e182 e183 e184 hH => ?_)
  have hw := hw T177 r178 z179 h180 e181 e182 e183 e184
  obtain ⟨k185, hw⟩ := hw
  refine hn_putr (ci := 7) (k := 19) (ty := tyX7) hx hb hown hKK hin hH cf7 (by decide) fl_X7_58 (Or.inr ⟨rfl, rfl⟩) rfl k185 rfl rfl dX7_init_129 (fun T186 H locs e187 hH => ?_)
  have hw := hw T186 e187
  refine lv_aload_n hx hb dX7_init_132 rfl (lv_at hl 0 rfl) ?_
  refine lv_bipush (v := (nI 75)) hx hb dX7_init_133 (by decide) ?_
  refine hn_newi (N := 75) hx hb hKK hH (nI_pos (by decide)) (nI_clamp (by decide)) (by decide) (Nat.le_of_ble_eq_true rfl) (Nat.le_of_ble_eq_true rfl) dX7_init_135 (fun T188 r189 z190 h191 H e192 e193 e194 e195 hH => ?_)
  have hw := hw T188 r189 z190 h191 e192 e193 e194 e195
  obtain ⟨k196, hw⟩ := hw
  refine hn_putr (ci := 7) (k := 20) (ty := tyX7) hx hb hown hKK hin hH cf7 (by decide) fl_X7_61 (Or.inr ⟨rfl, rfl⟩) rfl k196 rfl rfl dX7_init_137 (fun T197 H locs e198 hH => ?_)
  have hw := hw T197 e198
  refine lv_aload_n hx hb dX7_init_140 rfl (lv_at hl 0 rfl) ?_
  refine lv_bipush (v := (nI 75)) hx hb dX7_init_141 (by decide) ?_
  refine hn_newi (N := 75) hx hb hKK hH (nI_pos (by decide)) (nI_clamp (by decide)) (by decide) (Nat.le_of_ble_eq_true rfl) (Nat.le_of_ble_eq_true rfl) dX7_init_143 (fun T199 r200 z201 h202 H e203 e204 e205 e206 hH => ?_)
  have hw := hw T199 r200 z201 h202 e203 e204 e205 e206
  obtain ⟨k207, hw⟩ := hw
  refine hn_putr (ci := 7) (k := 21) (ty := tyX7) hx hb hown hKK hin hH cf7 (by decide) fl_X7_64 (Or.inr ⟨rfl, rfl⟩) rfl k207 rfl rfl dX7_init_145 (fun T208 H locs e209 hH => ?_)
  have hw := hw T208 e209
  refine lv_aload_n hx hb dX7_init_148 rfl (lv_at hl 0 rfl) ?_
  refine lv_sipush (v := (nI 2400)) hx hb dX7_init_149 (by decide) ?_
  refine hn_newi (N := 2400) hx hb hKK hH (nI_pos (by decide)) (nI_clamp (by decide)) (by decide) (Nat.le_of_ble_eq_true rfl) (Nat.le_of_ble_eq_true rfl) dX7_init_152 (fun T210 r211 z212 h213 H e214 e215 e216 e217 hH => ?_)
  have hw := hw T210 r211 z212 h213 e214 e215 e216 e217
  obtain ⟨k218, hw⟩ := hw
  refine hn_putr (ci := 7) (k := 25) (ty := tyX7) hx hb hown hKK hin hH cf7 (by decide) fl_X7_67 (Or.inr ⟨rfl, rfl⟩) rfl k218 rfl rfl dX7_init_154 (fun T219 H locs e220 hH => ?_)
  have hw := hw T219 e220
  refine lv_aload_n hx hb dX7_init_157 rfl (lv_at hl 0 rfl) ?_
  refine lv_bipush (v := (nI 12)) hx hb dX7_init_158 (by decide) ?_
  refine hn_newi (N := 12) hx hb hKK hH (nI_pos (by decide)) (nI_clamp (by decide)) (by decide) (Nat.le_of_ble_eq_true rfl) (Nat.le_of_ble_eq_true rfl) dX7_init_160 (fun T221 r222 z223 h224 H e225 e226 e227 e228 hH => ?_)
  have hw := hw T221 r222 z223 h224 e225 e226 e227 e228
  obtain ⟨k229, hw⟩ := hw
  refine hn_putr (ci := 7) (k := 31) (ty := tyX7) hx hb hown hKK hin hH cf7 (by decide) fl_X7_70 (Or.inr ⟨rfl, rfl⟩) rfl k229 rfl rfl dX7_init_162 (fun T230 H locs e231 hH => ?_)
  have hw := hw T230 e231
  refine lv_aload_n hx hb dX7_init_165 rfl (lv_at hl 0 rfl) ?_
  refine lv_bipush (v := (nI 8)) hx hb dX7_init_166 (by decide) ?_
  refine hn_newi (N := 8) hx hb hKK hH (nI_pos (by decide)) (nI_clamp (by decide)) (by decide) (Nat.le_of_ble_eq_true rfl) (Nat.le_of_ble_eq_true rfl) dX7_init_168 (fun T232 r233 z234 h235 H e236 e237 e238 e239 hH => ?_)
  have hw := hw T232 r233 z234 h235 e236 e237 e238 e239
  obtain ⟨k240, hw⟩ := hw
  refine hn_putr (ci := 7) (k := 33) (ty := tyX7) hx hb hown hKK hin hH cf7 (by decide) fl_X7_73 (Or.inr ⟨rfl, rfl⟩) rfl k240 rfl rfl dX7_init_170 (fun T241 H locs e242 hH => ?_)
  have hw := hw T241 e242
  refine lv_aload_n hx hb dX7_init_173 rfl (lv_at hl 0 rfl) ?_
  refine lv_bipush (v := (nI 48)) hx hb dX7_init_174 (by decide) ?_
  refine hn_newi (N := 48) hx hb hKK hH (nI_pos (by decide)) (nI_clamp (by decide)) (by decide) (Nat.le_of_ble_eq_true rfl) (Nat.le_of_ble_eq_true rfl) dX7_init_176 (fun T243 r244 z245 h246 H e247 e248 e249 e250 hH => ?_)
  have hw := hw T243 r244 z245 h246 e247 e248 e249 e250
  obtain ⟨k251, hw⟩ := hw
  refine hn_putr (ci := 7) (k := 34) (ty := tyX7) hx hb hown hKK hin hH cf7 (by decide) fl_X7_76 (Or.inr ⟨rfl, rfl⟩) rfl k251 rfl rfl dX7_init_178 (fun T252 H locs e253 hH => ?_)
  have hw := hw T252 e253
  refine lv_aload_n hx hb dX7_init_181 rfl (lv_at hl 0 rfl) ?_
  refine lv_iconst (v := (nI 0)) hx hb dX7_init_182 (by decide) ?_
  obtain ⟨k254, hw⟩ := hw
  refine hn_puti (ci := 7) (k := 13) (ty := tyX7) hx hb hown hKK hH cf7 (by decide) fl_X7_79 rfl rfl k254 rfl rfl dX7_init_183 (fun h255 H locs e256 hH => ?_)
  have hw := hw h255 e256
  exact hn_vret hx hb hr hlk hH hw dX7_init_186
def w_J5_init_d00df (T : St2) (sz : Nat) (v0 : Nat) (h : Hp) (Q : St2 → Nat → Hp → Prop) : Prop := ∀ (T1 : St2) (r2 z3 : Nat) (h4 : Hp), T1 = nwT T sz (.inr (3, 16)) → r2 = sz → z3 = sz + 1 → h4 = zr h sz → (T1.1 v0 = some (.inl 8) ∧ (∀ (T10 : St2), T10 = stR T1 v0 0 r2 → (T10.1 v0 = some (.inl 8) ∧ (∀ (h13 : Hp), h13 = up h4 v0 1 (nI 0) → (Q T10 z3 h13)))))
abbrev rm_J5_init_d00df : Room := { frames := 1, cells := 1, slots := 16, locals := 12 }
set_option maxHeartbeats 4000000 in
set_option maxRecDepth 100000 in
theorem m_J5_init_d00df {l : Launch} {Z : Zg} {G : Gl} {B : Nat} (T : St2) (sz : Nat) (v0 : Nat) (h : Hp) (Q : St2 → Nat → Hp → Prop) (hw : w_J5_init_d00df T sz v0 h Q) : MC Z l G B T sz yJ5_init_d00df cJ5_init_d00df 2 rm_J5_init_d00df [.ref v0, .int (nI 16)] h Q := by
  refine met_ofn rfl rfl rfl ?_
  intro p e s m args below meth c hNB H ls hH hl
  obtain ⟨hx, hb, hml, hown, hKK, hr, hlk, hSK, hNK, hin⟩ := hNB
  replace hl : lv_has ls 2 [(0, .ref v0), (1, .int (nI 16))] := hl
  unfold w_J5_init_d00df at hw
  show W p l e rm_J5_init_d00df s m args below meth c H [] 0 0 (MQ below (va_Qv (fun u : St2 × Nat × Hp => Q u.1 u.2.1 u.2.2) (PPq G B) (PPa B)) args s rm_J5_init_d00df.cells rm_J5_init_d00df.slots (PPa B)) (F0 m 0 ls [])
  generalize ([] : List Loc) = locs at hH ⊢
  refine lv_aload_n hx hb dJ5_init_d00df_0 rfl (lv_at hl 0 rfl) ?_
  refine W.objInit hx hb hown (hKK.use ol_J5_3 rfl _) (hKK.use oi_i rfl _) (hKK.use oi_c rfl _) rfl (by rw [hml]; exact hl.1) rfl dJ5_init_d00df_1 (Nat.le_of_ble_eq_true rfl) (Nat.le_of_ble_eq_true rfl) ?_
  show W p l e rm_J5_init_d00df s m args below meth c H locs 0 0 _ (F0 m 4 ls [])
  refine va_gets hx hb hSK.2.2.1 hH.2 hown (hKK.use fl_J5_18 rfl _) (fun _ h => h) dJ5_init_d00df_4 ?_
  refine lv_if_eq (tgt := 25) hx hb dJ5_init_d00df_7 (by decide) (fun c => absurd c (by decide)) (fun _ => ?_)
  refine lv_aload_n hx hb dJ5_init_d00df_10 rfl (lv_at hl 0 rfl) ?_
  refine lv_iload_n hx hb dJ5_init_d00df_11 rfl (lv_at hl 1 rfl) ?_
  refine hn_newb (N := 16) hx hb hKK hNK hH (nI_pos (by decide)) (nI_clamp (by decide)) (by decide) (Nat.le_of_ble_eq_true rfl) (Nat.le_of_ble_eq_true rfl) dJ5_init_d00df_12 (fun T1 r2 z3 h4 H e5 e6 e7 e8 hH => ?_)
  have hw := hw T1 r2 z3 h4 e5 e6 e7 e8
  obtain ⟨k9, hw⟩ := hw
  refine hn_putr (ci := 8) (k := 0) (ty := tyJ4) hx hb hown hKK hin hH cf8 (by decide) fl_J5_15 (Or.inl rfl) rfl k9 rfl rfl dJ5_init_d00df_14 (fun T10 H locs e11 hH => ?_)
  have hw := hw T10 e11
  refine lv_aload_n hx hb dJ5_init_d00df_17 rfl (lv_at hl 0 rfl) ?_
  refine lv_iconst (v := (nI 0)) hx hb dJ5_init_d00df_18 (by decide) ?_
  obtain ⟨k12, hw⟩ := hw
  refine hn_puti (ci := 8) (k := 1) (ty := tyJ4) hx hb hown hKK hH cf8 (by decide) fl_J5_22 rfl rfl k12 rfl rfl dJ5_init_d00df_19 (fun h13 H locs e14 hH => ?_)
  have hw := hw h13 e14
  refine lv_goto (tgt := 38) hx hb dJ5_init_d00df_22 (by decide) ?_
  exact hn_vret hx hb hr hlk hH hw dJ5_init_d00df_38
def w_J4_init_da8c8 (T : St2) (sz : Nat) (v0 : Nat) (h : Hp) (Q : St2 → Nat → Hp → Prop) : Prop := w_J5_init_d00df T sz v0 h (fun T1 z2 h3 => (Q T1 z2 h3))
abbrev rm_J4_init_da8c8 : Room := { frames := 2, cells := 1, slots := 16, locals := 33 }
set_option maxHeartbeats 4000000 in
set_option maxRecDepth 100000 in
theorem m_J4_init_da8c8 {l : Launch} {Z : Zg} {G : Gl} {B : Nat} (T : St2) (sz : Nat) (v0 : Nat) (h : Hp) (Q : St2 → Nat → Hp → Prop) (hw : w_J4_init_da8c8 T sz v0 h Q) : MC Z l G B T sz yJ4_init_da8c8 cJ4_init_da8c8 1 rm_J4_init_da8c8 [.ref v0] h Q := by
  refine met_ofn rfl rfl rfl ?_
  intro p e s m args below meth c hNB H ls hH hl
  obtain ⟨hx, hb, hml, hown, hKK, hr, hlk, hSK, hNK, hin⟩ := hNB
  replace hl : lv_has ls 1 [(0, .ref v0)] := hl
  unfold w_J4_init_da8c8 at hw
  show W p l e rm_J4_init_da8c8 s m args below meth c H [] 0 0 (MQ below (va_Qv (fun u : St2 × Nat × Hp => Q u.1 u.2.1 u.2.2) (PPq G B) (PPa B)) args s rm_J4_init_da8c8.cells rm_J4_init_da8c8.slots (PPa B)) (F0 m 0 ls [])
  generalize ([] : List Loc) = locs at hH ⊢
  refine lv_aload_n hx hb dJ4_init_da8c8_0 rfl (lv_at hl 0 rfl) ?_
  refine lv_bipush (v := (nI 16)) hx hb dJ4_init_da8c8_1 (by decide) ?_
  refine hn_cI (rm := rm_J5_init_d00df) (As := [.int (nI 16)]) (rest := []) (k := 1) hx hb hml hown hKK hSK hNK hH (m_J5_init_d00df _ _ _ _ _ hw) ci_J4_1 ⟨(Nat.le_of_ble_eq_true rfl), (Nat.le_of_ble_eq_true rfl)⟩ rfl hl.1 rfl (Nat.le_of_ble_eq_true rfl) ⟨(Nat.le_of_ble_eq_true rfl), (Nat.le_of_ble_eq_true rfl)⟩ dJ4_init_da8c8_3 (fun T1 z2 h3 H locs hH hw => ?_)
  exact hn_vret hx hb hr hlk hH hw dJ4_init_da8c8_6
