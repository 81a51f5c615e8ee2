/-! THE START: the machine as the Statement gives it, the loop of the law -/
theorem cl_L_7 : Cond.classLink RL 7 RX6 ∈ lw_tbl := tbl_in (List.mem_append_left _ (List.mem_of_getElem? (l := tables_1_1) (i := 20) rfl))
theorem cl_L_10 : Cond.classLink RL 10 RX7 ∈ lw_tbl := tbl_in (List.mem_append_right _ (List.mem_append_right _ (List.mem_append_right _ (List.mem_append_right _ (List.mem_append_left _ (List.mem_of_getElem? (l := tables_1_5) (i := 96) rfl))))))
theorem in_X6 : Cond.instantiable RX6 10 ∈ lw_tbl := tbl_in (List.mem_append_left _ (List.mem_of_getElem? (l := tables_1_1) (i := 21) rfl))
theorem in_X7 : Cond.instantiable RX7 36 ∈ lw_tbl := tbl_in (List.mem_append_right _ (List.mem_append_right _ (List.mem_append_right _ (List.mem_append_right _ (List.mem_append_left _ (List.mem_of_getElem? (l := tables_1_5) (i := 97) rfl))))))
theorem wl_L_9 : Cond.methodLink RL 9 yX6_init ∈ lw_tbl := tbl_in (List.mem_append_left _ (List.mem_of_getElem? (l := tables_1_1) (i := 22) rfl))
theorem wn_X6_init : Cond.instanceMethod yX6_init ∈ lw_tbl := tbl_in (List.mem_append_left _ (List.mem_of_getElem? (l := tables_1_1) (i := 23) rfl))
theorem wc_X6_init : Cond.code yX6_init cX6_init 1 none ∈ lw_tbl := tbl_in (List.mem_append_left _ (List.mem_of_getElem? (l := tables_1_1) (i := 24) rfl))
theorem ci_L_9 : CWi RL 9 yX6_init cX6_init 1 0 := ⟨Or.inl wl_L_9, wn_X6_init, rfl, wi_X6, wc_X6_init, by decide +kernel, by decide +kernel, by decide +kernel⟩
theorem wl_L_12 : Cond.methodLink RL 12 yX7_init ∈ lw_tbl := tbl_in (List.mem_append_right _ (List.mem_append_right _ (List.mem_append_right _ (List.mem_append_right _ (List.mem_append_left _ (List.mem_of_getElem? (l := tables_1_5) (i := 98) rfl))))))
theorem wn_X7_init : Cond.instanceMethod yX7_init ∈ lw_tbl := tbl_in (List.mem_append_right _ (List.mem_append_right _ (List.mem_append_right _ (List.mem_append_right _ (List.mem_append_left _ (List.mem_of_getElem? (l := tables_1_5) (i := 99) rfl))))))
theorem wc_X7_init : Cond.code yX7_init cX7_init 1 none ∈ lw_tbl := tbl_in (List.mem_append_right _ (List.mem_append_right _ (List.mem_append_right _ (List.mem_append_right _ (List.mem_append_left _ (List.mem_of_getElem? (l := tables_1_5) (i := 100) rfl))))))
theorem ci_L_12 : CWi RL 12 yX7_init cX7_init 1 0 := ⟨Or.inl wl_L_12, wn_X7_init, rfl, wi_X7, wc_X7_init, by decide +kernel, by decide +kernel, by decide +kernel⟩
theorem k_ls0 : (Cond.laysStatic "java/lang/String" "COMPACT_STRINGS" "Z") ∈ lw_tbl := tbl_in (List.mem_append_right _ (List.mem_append_left _ (List.mem_of_getElem? (l := tables_1_2) (i := 73) rfl)))
theorem k_ls1 : (Cond.laysStatic "jdk/internal/util/Preconditions" "SIOOBE_FORMATTER" "Ljava/util/function/BiFunction;") ∈ lw_tbl := tbl_in (List.mem_append_right _ (List.mem_append_left _ (List.mem_of_getElem? (l := tables_1_2) (i := 89) rfl)))
theorem k_ls2 : (Cond.laysStatic "java/lang/Integer" "DigitOnes" "[B") ∈ lw_tbl := tbl_in (List.mem_append_right _ (List.mem_append_right _ (List.mem_append_right _ (List.mem_append_left _ (List.mem_of_getElem? (l := tables_1_4) (i := 186) rfl)))))
theorem k_ls3 : (Cond.laysStatic "java/lang/Integer" "DigitTens" "[B") ∈ lw_tbl := tbl_in (List.mem_append_right _ (List.mem_append_right _ (List.mem_append_right _ (List.mem_append_left _ (List.mem_of_getElem? (l := tables_1_4) (i := 188) rfl)))))
theorem k_i0 : Cond.initialized "java/lang/String" ∈ lw_tbl := tbl_in (List.mem_append_left _ (List.mem_of_getElem? (l := tables_1_1) (i := 10) rfl))
theorem k_i1 : Cond.initialized "jdk/internal/util/Preconditions" ∈ lw_tbl := tbl_in (List.mem_append_left _ (List.mem_of_getElem? (l := tables_1_1) (i := 12) rfl))
theorem k_i2 : Cond.initialized "java/lang/Integer" ∈ lw_tbl := tbl_in (List.mem_append_left _ (List.mem_of_getElem? (l := tables_1_1) (i := 15) rfl))
theorem k_ac0 : (Cond.arrayClass FieldType.int) ∈ lw_tbl := tbl_in (List.mem_append_left _ (List.mem_of_getElem? (l := tables_1_1) (i := 91) rfl))
theorem k_ac3 : (Cond.arrayClass FieldType.byte) ∈ lw_tbl := tbl_in (List.mem_append_right _ (List.mem_append_right _ (List.mem_append_left _ (List.mem_of_getElem? (l := tables_1_3) (i := 34) rfl))))
theorem k_ao1 : Cond.arrayOver (.object RX0) ∈ lw_tbl := tbl_in (List.mem_append_left _ (List.mem_of_getElem? (l := tables_1_1) (i := 35) rfl))
theorem k_ao2 : Cond.arrayOver (.object RX1) ∈ lw_tbl := tbl_in (List.mem_append_left _ (List.mem_of_getElem? (l := tables_1_1) (i := 139) rfl))
theorem k_sr0 : Cond.stringRef RX4 39 "lady queen slaver child saint collier pirate mermaid" ∈ lw_tbl := tbl_in (List.mem_append_right _ (List.mem_append_left _ (List.mem_of_getElem? (l := tables_1_2) (i := 59) rfl)))
theorem k_sr1 : Cond.stringRef RX4 49 "wall folk face does joins nights" ∈ lw_tbl := tbl_in (List.mem_append_right _ (List.mem_append_left _ (List.mem_of_getElem? (l := tables_1_2) (i := 161) rfl)))
theorem k_sr2 : Cond.stringRef RX4 103 "n e s w" ∈ lw_tbl := tbl_in (List.mem_append_right _ (List.mem_append_left _ (List.mem_of_getElem? (l := tables_1_2) (i := 174) rfl)))
theorem k_sr3 : Cond.stringRef RX4 114 "on left right back rest" ∈ lw_tbl := tbl_in (List.mem_append_right _ (List.mem_append_left _ (List.mem_of_getElem? (l := tables_1_2) (i := 179) rfl)))
theorem k_sr4 : Cond.stringRef RX0 77 "nesw" ∈ lw_tbl := tbl_in (List.mem_append_right _ (List.mem_append_right _ (List.mem_append_right _ (List.mem_append_left _ (List.mem_of_getElem? (l := tables_1_4) (i := 206) rfl)))))
theorem k_pm : Cond.privateMethod yJ5_ensureCapacityInternal_d00df ∈ lw_tbl := tbl_in (List.mem_append_right _ (List.mem_append_right _ (List.mem_append_right _ (List.mem_append_left _ (List.mem_of_getElem? (l := tables_1_4) (i := 111) rfl)))))
def FLs : List Cond := flatC (Jvm.Cond.and given_1 narrow_1)
def tmS (i : Nat) : Term := if i = 0 then .string RX4 39 else if i = 1 then .string RX4 49 else if i = 2 then .string RX4 103 else if i = 3 then .string RX4 114 else .string RX0 77
def bsS (i : Nat) : Nat := if i = 0 then 237 else if i = 1 then 293 else if i = 2 then 330 else if i = 3 then 343 else 373
def tmV (i : Nat) : Term := .field (tmS i) "java/lang/String" "value" "[B"
def neS (i j : Nat) : Nat := if j = 1 then 325 else if j = 2 then 337 + i else if j = 3 then 366 + i else 377 + i
set_option maxRecDepth 100000 in
theorem f_el : ∀ i, i < 5 → ∀ j, j < sLl.getD i 0 → FLs[bsS i + j]? = some (Cond.eq (.elem (tmV i) (.int (Int32.ofNat j))) (.int ((sBl.getD i []).getD j 0))) := by decide +kernel
set_option maxRecDepth 100000 in
theorem f_hd : ∀ i, i < 5 → FLs[bsS i - 4]? = some (Cond.exactly (tmS i) "java/lang/String") ∧ FLs[bsS i - 3]? = some (Cond.eq (.field (tmS i) "java/lang/String" "coder" "B") (.int 0)) ∧ FLs[bsS i - 2]? = some (Cond.arrayOf (tmV i) .byte) ∧ FLs[bsS i - 1]? = some (Cond.eq (.length (tmV i)) (.int (Int32.ofNat (sLl.getD i 0)))) := by decide +kernel
set_option maxRecDepth 100000 in
theorem f_ne : ∀ j, j < 5 → ∀ i, i < j → FLs[neS i j]? = some (Cond.not (Cond.eq (tmS i) (tmS j))) := by decide +kernel
set_option maxRecDepth 100000 in
theorem f_on : ∀ j, j < 100 → FLs[12 + j]? = some (Cond.eq (.elem (.static "java/lang/Integer" "DigitOnes" "[B") (.int (Int32.ofNat j))) (.int (dOn j))) := by decide +kernel
set_option maxRecDepth 100000 in
theorem f_te : ∀ j, j < 100 → FLs[115 + j]? = some (Cond.eq (.elem (.static "java/lang/Integer" "DigitTens" "[B") (.int (Int32.ofNat j))) (.int (dTe j))) := by decide +kernel
set_option maxRecDepth 100000 in
theorem f_st : FLs[4]? = some (Cond.eq (.static "java/lang/String" "COMPACT_STRINGS" "Z") (.int 1)) ∧ FLs[5]? = some (Cond.isRef (.static "jdk/internal/util/Preconditions" "SIOOBE_FORMATTER" "Ljava/util/function/BiFunction;")) ∧ (FLs[10]? = some (Cond.arrayOf (.static "java/lang/Integer" "DigitOnes" "[B") .byte) ∧ FLs[11]? = some (Cond.eq (.length (.static "java/lang/Integer" "DigitOnes" "[B")) (.int (Int32.ofNat 100)))) ∧ FLs[113]? = some (Cond.arrayOf (.static "java/lang/Integer" "DigitTens" "[B") .byte) ∧ FLs[114]? = some (Cond.eq (.length (.static "java/lang/Integer" "DigitTens" "[B")) (.int (Int32.ofNat 100))) := by decide +kernel
theorem sl_lt : ∀ i, i < 5 → sLl.getD i 0 < 2 ^ 31 := by decide +kernel
set_option maxRecDepth 100000 in
theorem SK_start {s : State} {b : Nat} (hts : ∀ w ∈ lw_tbl, w.before #[Value.ref b] s = true) (hgv : (Jvm.Cond.and given_1 narrow_1).before #[Value.ref b] s = true) : ∃ Z, SK Z s.heap.size s := by
  have hs : ∀ w ∈ FLs, w.before #[Value.ref b] s = true := flat_of_before _ hgv
  have at_ : ∀ {i : Nat} {w : Cond}, FLs[i]? = some w → w.before #[Value.ref b] s = true := fun h => hs _ (List.mem_of_getElem? h)
  have hA : ∀ a : Nat, a < s.heap.size → ¬ (fun q => s.heap.size ≤ q) a := fun a h => Nat.not_le.mpr h
  obtain ⟨adK, adV, hV, hE⟩ := vk_Sof (args := #[Value.ref b]) (s := s) (N := 5) (tm := tmS) (len := sLl) (byt := sBl) (A := fun q => s.heap.size ≤ q) sl_lt (fun i hi => at_ (f_hd i hi).1) (fun i hi => at_ (f_hd i hi).2.1) (fun i hi => at_ (f_hd i hi).2.2.1) (fun i hi => at_ (f_hd i hi).2.2.2) (fun i hi j hj => at_ (f_el i hi j hj)) (fun i j hi hj hne => by
    rcases Nat.lt_or_gt_of_ne hne with h | h
    · exact Or.inl (at_ (f_ne j hj i h))
    · exact Or.inr (at_ (f_ne i hi j h))) hA
  obtain ⟨o1, ho, hoT⟩ := va_Tof (args := #[Value.ref b]) (s := s) (f := fun j => .int (dOn j)) (N := 100) (A := fun q => s.heap.size ≤ q) (by decide) (at_ f_st.2.2.1.1) (va_eqt (at_ f_st.2.2.1.2)) (fun j hj => va_eqt (at_ (f_on j hj))) hA
  obtain ⟨o2, hp, hpT⟩ := va_Tof (args := #[Value.ref b]) (s := s) (f := fun j => .int (dTe j)) (N := 100) (A := fun q => s.heap.size ≤ q) (by decide) (at_ f_st.2.2.2.1) (va_eqt (at_ f_st.2.2.2.2)) (fun j hj => va_eqt (at_ (f_te j hj))) hA
  refine ⟨(adK, adV, o1, o2), hV, ⟨vk_R.of (hts _ k_sr0) (hE 0 (by decide)), vk_R.of (hts _ k_sr1) (hE 1 (by decide)), vk_R.of (hts _ k_sr2) (hE 2 (by decide)), vk_R.of (hts _ k_sr3) (hE 3 (by decide)), vk_R.of (hts _ k_sr4) (hE 4 (by decide))⟩, va_Zof (hts _ k_ls0) (hts _ k_i0) (va_eqt (at_ f_st.1)) hA, va_Zqof (hts _ k_ls1) (hts _ k_i1) (at_ f_st.2.1) hA, ⟨va_Zref (hts _ k_ls2) (hts _ k_i2) ho hA, hoT⟩, ⟨va_Zref (hts _ k_ls3) (hts _ k_i2) hp hA, hpT⟩, ?_⟩
  exact va_tabs (okw_on rfl) rfl (sel_sub (args := #[Value.ref b]) (n := 4) (by decide) (hts _ in_J4) (hts _ k_pm) (hts _ wn_J5_ensureCapacityInternal_d00df) (hts _ wsm_J5_ensureCapacityInternal_d00df))
theorem ac_any {s : State} {a a' : Array Value} {ty : FieldType} (h : (Cond.arrayClass ty).before a s = true) : (Cond.arrayClass ty).before a' s = true := by simpa [Cond.before, Cond.holds, Cond.value] using h
theorem KK_start {s : State} {b : Nat} (hts : ∀ w ∈ lw_tbl, w.before #[Value.ref b] s = true) : (∃ G, KK G s) ∧ NK s := by
  obtain ⟨c0, i0, q0⟩ := u_known (C := RX0) (T := TX0) (N := 9) (n := 9) hts (fun w hw => (cf0.2.1 w hw).1) (hts _ in_X0)
  obtain ⟨c1, i1, q1⟩ := u_known (C := RX1) (T := TX1) (N := 7) (n := 7) hts (fun w hw => (cf1.2.1 w hw).1) (hts _ in_X1)
  obtain ⟨c2, i2, q2⟩ := u_known (C := RX2) (T := TX2) (N := 4) (n := 4) hts (fun w hw => (cf2.2.1 w hw).1) (hts _ in_X2)
  obtain ⟨c3, i3, q3⟩ := u_known (C := RX3) (T := TX3) (N := 3) (n := 3) hts (fun w hw => (cf3.2.1 w hw).1) (hts _ in_X3)
  obtain ⟨c4, i4, q4⟩ := u_known (C := RX4) (T := TX4) (N := 5) (n := 5) hts (fun w hw => (cf4.2.1 w hw).1) (hts _ in_X4)
  obtain ⟨c5, i5, q5⟩ := u_known (C := RX5) (T := TX5) (N := 2) (n := 2) hts (fun w hw => (cf5.2.1 w hw).1) (hts _ in_X5)
  obtain ⟨c6, i6, q6⟩ := u_known (C := RX6) (T := TX6) (N := 10) (n := 10) hts (fun w hw => (cf6.2.1 w hw).1) (hts _ in_X6)
  obtain ⟨c7, i7, q7⟩ := u_known (C := RX7) (T := TX7) (N := 36) (n := 36) hts (fun w hw => (cf7.2.1 w hw).1) (hts _ in_X7)
  obtain ⟨c8, i8, q8⟩ := u_known (C := RJ4) (T := TJ4) (N := 4) (n := 4) hts (fun w hw => (cf8.2.1 w hw).1) (hts _ in_J4)
  obtain ⟨a0, k0, m0, e01, e02, e03⟩ := Cond.arrayClass_spec (hts _ k_ac0)
  obtain ⟨a3, k3, m3, e31, e32, e33⟩ := Cond.arrayClass_spec (hts _ k_ac3)
  obtain ⟨m1, a1, k1, e11, e12, e13, e14, e15⟩ := Cond.arrayOver_spec (hts _ k_ao1)
  obtain ⟨m2, a2, k2, e21, e22, e23, e24, e25⟩ := Cond.arrayOver_spec (hts _ k_ao2)
  refine ⟨⟨(fun k => match k with | 0 => c0 | 1 => c1 | 2 => c2 | 3 => c3 | 4 => c4 | 5 => c5 | 6 => c6 | 7 => c7 | _ => c8, fun k => match k with | 0 => i0 | 1 => i1 | 2 => i2 | 3 => i3 | 4 => i4 | 5 => i5 | 6 => i6 | 7 => i7 | _ => i8, fun k => match k with | 0 => a0 | 1 => a1 | 2 => a2 | _ => a3), ⟨fun k q hq => ?_, fun k q hq => ?_⟩, fun w hw ho => va_tabs (okw_on ho) rfl (hts w hw), ac_any (hts _ k_ac0)⟩, va_AO.of (hts _ k_ao1), va_AO.of (hts _ k_ao2), ac_any (hts _ k_ac3)⟩
  · match k, hq with
    | 0, hq => cases hq; exact q0
    | 1, hq => cases hq; exact q1
    | 2, hq => cases hq; exact q2
    | 3, hq => cases hq; exact q3
    | 4, hq => cases hq; exact q4
    | 5, hq => cases hq; exact q5
    | 6, hq => cases hq; exact q6
    | 7, hq => cases hq; exact q7
    | 8, hq => cases hq; exact q8
    | k + 9, hq => simp [clsT] at hq
  · match k, hq with
    | 0, hq => cases hq; exact ⟨fun n z => ⟨fun k h => (by cases h), k0, e02, m0, e03⟩, e01⟩
    | 1, hq => cases hq; exact ⟨fun n z => ⟨fun k h => (by cases h), k1, e13, m1, e14⟩, k1, m1, e13, e14, e11, e15⟩
    | 2, hq => cases hq; exact ⟨fun n z => ⟨fun k h => (by cases h), k2, e23, m2, e24⟩, k2, m2, e23, e24, e21, e25⟩
    | 3, hq => cases hq; exact ⟨fun n z => ⟨fun k h => (by cases h), k3, e32, m3, e33⟩, e31⟩
    | k + 4, hq => simp at hq
theorem X6I_keep {T T' : St2} {x : Nat} (e : Eq2 T T' x (x + 180)) (X : X6I T x) : X6I T' x := by
  obtain ⟨t, ⟨r0, r1, r3, r4, r5, r6, r7, r9⟩, fn, fi, fp, ft, md, fw, fr, ff⟩ := X
  have f : ∀ k, T'.2 x k = T.2 x k := fun k => (e x (by omega) (by omega)).2 k
  have g : ∀ a c, x ≤ a → c ≤ x + 180 → Eq2 T T' a c := fun a c h1 h2 q g1 g2 => e q (by omega) (by omega)
  exact ⟨((e x (by omega) (by omega)).1).trans t, ⟨(f 0).trans r0, (f 1).trans r1, (f 3).trans r3, (f 4).trans r4, (f 5).trans r5, (f 6).trans r6, (f 7).trans r7, (f 9).trans r9⟩, LI_keep (g _ _ (by omega) (by omega)) fn, LI_keep (g _ _ (by omega) (by omega)) fi, PI_keep (g _ _ (by omega) (by omega)) fp, MG_keep (g _ _ (by omega) (by omega)) ft, MD_keep (g _ _ (by omega) (by omega)) md, MG_keep (g _ _ (by omega) (by omega)) fw, ((e _ (by omega) (by omega)).1).trans fr, ((e _ (by omega) (by omega)).1).trans ff⟩
section LOOP
variable {p : Program} {l : Launch} {e : Env} {s : State} {m : MethodId} {below : List Frame} {meth : Method} {c : Code} {b L : Nat} {xs : Nat → Int32} {Z : Zg} {G : Gl} {x : Nat}
set_option maxHeartbeats 4000000 in
set_option maxRecDepth 100000 in
theorem law_loop (C : LC p s m meth c b L xs Z G) : ∀ (n j : Nat) (S : St) (h : Hp) (sz : Nat) (H : Heap) (locs : List Loc) (ls : Array Slot) (A : Ab), L < 6 * j + 6 * n + 6 → 6 * j ≤ L → HH G s.heap.size S h sz s H locs → lv_has ls 4 (LLs b x (6 * j)) → SI S h x A → LW p l e s m below meth c b H locs (1000 + 2 * j) (10000 + 20 * j) (F0 m 18 ls []) := by
  obtain ⟨hx, hb, hml, hown, hKK, hSK, hNK, hr, hlk, hX, hbl, hL⟩ := id C
  have hbA : ¬ (fun q : Nat => s.heap.size ≤ q) b := Nat.not_le.mpr hbl
  intro n
  induction n with
  | zero =>
    intro j S h sz H locs ls A hn hj hH hl hI
    refine lv_iload_n hx hb dL_law_18 rfl (lv_at hl 3 rfl) ?_
    refine lv_aload_n hx hb dL_law_19 rfl (lv_at hl 0 rfl) ?_
    refine va_slen hx hb hX hbl hbA hH.2 dL_law_20 ?_
    refine lv_bipush (v := nI 6) hx hb dL_law_21 (by decide) ?_
    refine lv_isub hx hb dL_law_23 ?_
    refine lv_icmp_gt (tgt := 1557) hx hb dL_law_24 (by decide) (fun _ => ?_) (fun k => ?_)
    · refine lv_iconst (v := 1) hx hb dL_law_1557 (by decide) ?_
      refine va_forget hH.2.2.2 ?_
      refine W.widen (k := 600000) (n := 7302250) (by omega) (by omega) ?_
      exact lw_ret hx hb hr hlk dL_law_1558
    · exfalso
      refine k ?_
      rw [Int32.lt_iff_toInt_lt]
      have e1 := q_subT (show L < 2 ^ 30 by omega) (show 6 < 2 ^ 30 by decide)
      have e2 := nI_toInt (show 6 * j < 2 ^ 31 by omega)
      show (nI L - nI 6).toInt < _
      omega
  | succ n ih =>
    intro j S h sz H locs ls A hn hj hH hl hI
    refine lv_iload_n hx hb dL_law_18 rfl (lv_at hl 3 rfl) ?_
    refine lv_aload_n hx hb dL_law_19 rfl (lv_at hl 0 rfl) ?_
    refine va_slen hx hb hX hbl hbA hH.2 dL_law_20 ?_
    refine lv_bipush (v := nI 6) hx hb dL_law_21 (by decide) ?_
    refine lv_isub hx hb dL_law_23 ?_
    have e1 := q_subT (show L < 2 ^ 30 by omega) (show 6 < 2 ^ 30 by decide)
    have e2 := nI_toInt (show 6 * j < 2 ^ 31 by omega)
    refine lv_icmp_gt (tgt := 1557) hx hb dL_law_24 (by decide) (fun _ => ?_) (fun k => ?_)
    · refine lv_iconst (v := 1) hx hb dL_law_1557 (by decide) ?_
      refine va_forget hH.2.2.2 ?_
      refine W.widen (k := 600000) (n := 7302250) (by omega) (by omega) ?_
      exact lw_ret hx hb hr hlk dL_law_1558
    · have hi : 6 * j + 6 ≤ L := by
        have k : ¬ (nI L - nI 6) < nI (6 * j) := k
        rw [Int32.lt_iff_toInt_lt] at k
        omega
      refine lv_aload_n hx hb dL_law_27 rfl (lv_at hl 0 rfl) ?_
      refine lv_iload_n hx hb dL_law_28 rfl (lv_at hl 3 rfl) ?_
      refine va_sld hx hb hX hbl hbA hH.2 (vp_in_nI (by omega) (by omega)) dL_law_29 ?_
      refine lv_bipush (v := nI 63) hx hb dL_law_30 (by decide) ?_
      refine lv_iand hx hb dL_law_32 ?_
      obtain ⟨k, hk, ev⟩ := pk_andE (xs (nI (6 * j)).toNatClampNeg) (m := nI 63) 6 (by decide)
      rw [ev]
      have hc : 1000 + 2 * j + 2 ≤ 600000 := by omega
      have hs : 10000 + 20 * j + 20 ≤ 7302250 := by omega
      have K : ∀ (S1 : St) (sz1 : Nat) (h1 : Hp) (H1 : Heap) (locs1 : List Loc) (A1 : Ab), HH G s.heap.size S1 h1 sz1 s H1 locs1 → SI S1 h1 x A1 → LW p l e s m below meth c b H1 locs1 (1000 + 2 * j + 2) (10000 + 20 * j + 20) (F0 m 1551 ls []) := by
        intro S1 sz1 h1 H1 locs1 A1 hH1 hI1
        refine lv_iinc (v := nI (6 * (j + 1))) (lv' := [(3, .int (nI (6 * (j + 1)))), (0, .ref b), (1, .ref x), (2, .ref (x + 180))]) hx hb dL_law_1551 hl (k := 3) rfl (by show nI (6 * j) + nI 6 = _; rw [nI_add]; rfl) (by decide) rfl (fun ls hl => ?_)
        refine lv_goto (tgt := 18) hx hb dL_law_1554 (by decide) ?_
        have := ih (j + 1) S1 h1 sz1 H1 locs1 ls A1 (by omega) (by omega) hH1 (lv_sub hl [1, 2, 3, 0] rfl) hI1
        rw [show 1000 + 2 * (j + 1) = 1000 + 2 * j + 2 by omega, show 10000 + 20 * (j + 1) = 10000 + 20 * j + 20 by omega] at this
        exact this
      by_cases c0 : k = 0
      · subst c0
        refine lv_tableIn (tgt := 220) hx hb dL_law_33 (by decide) (by decide) (by rfl) (by decide) ?_
        exact lc_0 C hH hl hI hi hc hs K
      by_cases c1 : k = 1
      · subst c1
        refine lv_tableIn (tgt := 243) hx hb dL_law_33 (by decide) (by decide) (by rfl) (by decide) ?_
        exact lc_1 C hH hl hI hi hc hs K
      by_cases c2 : k = 2
      · subst c2
        refine lv_tableIn (tgt := 256) hx hb dL_law_33 (by decide) (by decide) (by rfl) (by decide) ?_
        exact lc_2 C hH hl hI hi hc hs K
      by_cases c3 : k = 3
      · subst c3
        refine lv_tableIn (tgt := 289) hx hb dL_law_33 (by decide) (by decide) (by rfl) (by decide) ?_
        exact lc_3 C hH hl hI hi hc hs K
      by_cases c4 : k = 4
      · subst c4
        refine lv_tableIn (tgt := 322) hx hb dL_law_33 (by decide) (by decide) (by rfl) (by decide) ?_
        exact lc_4 C hH hl hI hi hc hs K
      by_cases c5 : k = 5
      · subst c5
        refine lv_tableIn (tgt := 375) hx hb dL_law_33 (by decide) (by decide) (by rfl) (by decide) ?_
        exact lc_5 C hH hl hI hi hc hs K
      by_cases c6 : k = 6
      · subst c6
        refine lv_tableIn (tgt := 408) hx hb dL_law_33 (by decide) (by decide) (by rfl) (by decide) ?_
        exact lc_6 C hH hl hI hi hc hs K
      by_cases c7 : k = 7
      · subst c7
        refine lv_tableIn (tgt := 441) hx hb dL_law_33 (by decide) (by decide) (by rfl) (by decide) ?_
        exact lc_7 C hH hl hI hi hc hs K
      by_cases c8 : k = 8
      · subst c8
        refine lv_tableIn (tgt := 474) hx hb dL_law_33 (by decide) (by decide) (by rfl) (by decide) ?_
        exact lc_8 C hH hl hI hi hc hs K
      by_cases c9 : k = 9
      · subst c9
        refine lv_tableIn (tgt := 507) hx hb dL_law_33 (by decide) (by decide) (by rfl) (by decide) ?_
        exact lc_9 C hH hl hI hi hc hs K
      by_cases c10 : k = 10
      · subst c10
        refine lv_tableIn (tgt := 540) hx hb dL_law_33 (by decide) (by decide) (by rfl) (by decide) ?_
        exact lc_10 C hH hl hI hi hc hs K
      by_cases c11 : k = 11
      · subst c11
        refine lv_tableIn (tgt := 583) hx hb dL_law_33 (by decide) (by decide) (by rfl) (by decide) ?_
        exact lc_11 C hH hl hI hi hc hs K
      by_cases c12 : k = 12
      · subst c12
        refine lv_tableIn (tgt := 606) hx hb dL_law_33 (by decide) (by decide) (by rfl) (by decide) ?_
        exact lc_12 C hH hl hI hi hc hs K
      by_cases c13 : k = 13
      · subst c13
        refine lv_tableIn (tgt := 619) hx hb dL_law_33 (by decide) (by decide) (by rfl) (by decide) ?_
        exact lc_13 C hH hl hI hi hc hs K
      by_cases c14 : k = 14
      · subst c14
        refine lv_tableIn (tgt := 662) hx hb dL_law_33 (by decide) (by decide) (by rfl) (by decide) ?_
        exact lc_14 C hH hl hI hi hc hs K
      by_cases c15 : k = 15
      · subst c15
        refine lv_tableIn (tgt := 695) hx hb dL_law_33 (by decide) (by decide) (by rfl) (by decide) ?_
        exact lc_15 C hH hl hI hi hc hs K
      by_cases c16 : k = 16
      · subst c16
        refine lv_tableIn (tgt := 728) hx hb dL_law_33 (by decide) (by decide) (by rfl) (by decide) ?_
        exact lc_16 C hH hl hI hi hc hs K
      by_cases c17 : k = 17
      · subst c17
        refine lv_tableIn (tgt := 751) hx hb dL_law_33 (by decide) (by decide) (by rfl) (by decide) ?_
        exact lc_17 C hH hl hI hi hc hs K
      by_cases c18 : k = 18
      · subst c18
        refine lv_tableIn (tgt := 784) hx hb dL_law_33 (by decide) (by decide) (by rfl) (by decide) ?_
        exact lc_18 C hH hl hI hi hc hs K
      by_cases c19 : k = 19
      · subst c19
        refine lv_tableIn (tgt := 827) hx hb dL_law_33 (by decide) (by decide) (by rfl) (by decide) ?_
        exact lc_19 C hH hl hI hi hc hs K
      by_cases c20 : k = 20
      · subst c20
        refine lv_tableIn (tgt := 870) hx hb dL_law_33 (by decide) (by decide) (by rfl) (by decide) ?_
        exact lc_20 C hH hl hI hi hc hs K
      by_cases c21 : k = 21
      · subst c21
        refine lv_tableIn (tgt := 913) hx hb dL_law_33 (by decide) (by decide) (by rfl) (by decide) ?_
        exact lc_21 C hH hl hI hi hc hs K
      by_cases c22 : k = 22
      · subst c22
        refine lv_tableIn (tgt := 956) hx hb dL_law_33 (by decide) (by decide) (by rfl) (by decide) ?_
        exact lc_22 C hH hl hI hi hc hs K
      by_cases c23 : k = 23
      · subst c23
        refine lv_tableIn (tgt := 979) hx hb dL_law_33 (by decide) (by decide) (by rfl) (by decide) ?_
        exact lc_23 C hH hl hI hi hc hs K
      by_cases c24 : k = 24
      · subst c24
        refine lv_tableIn (tgt := 1012) hx hb dL_law_33 (by decide) (by decide) (by rfl) (by decide) ?_
        exact lc_24 C hH hl hI hi hc hs K
      by_cases c25 : k = 25
      · subst c25
        refine lv_tableIn (tgt := 1035) hx hb dL_law_33 (by decide) (by decide) (by rfl) (by decide) ?_
        exact lc_25 C hH hl hI hi hc hs K
      by_cases c26 : k = 26
      · subst c26
        refine lv_tableIn (tgt := 1078) hx hb dL_law_33 (by decide) (by decide) (by rfl) (by decide) ?_
        exact lc_26 C hH hl hI hi hc hs K
      by_cases c27 : k = 27
      · subst c27
        refine lv_tableIn (tgt := 1142) hx hb dL_law_33 (by decide) (by decide) (by rfl) (by decide) ?_
        exact lc_27 C hH hl hI hi hc hs K
      by_cases c28 : k = 28
      · subst c28
        refine lv_tableIn (tgt := 1185) hx hb dL_law_33 (by decide) (by decide) (by rfl) (by decide) ?_
        exact lc_28 C hH hl hI hi hc hs K
      by_cases c29 : k = 29
      · subst c29
        refine lv_tableIn (tgt := 1208) hx hb dL_law_33 (by decide) (by decide) (by rfl) (by decide) ?_
        exact lc_29 C hH hl hI hi hc hs K
      by_cases c30 : k = 30
      · subst c30
        refine lv_tableIn (tgt := 1241) hx hb dL_law_33 (by decide) (by decide) (by rfl) (by decide) ?_
        exact lc_30 C hH hl hI hi hc hs K
      by_cases c31 : k = 31
      · subst c31
        refine lv_tableIn (tgt := 1264) hx hb dL_law_33 (by decide) (by decide) (by rfl) (by decide) ?_
        exact lc_31 C hH hl hI hi hc hs K
      by_cases c32 : k = 32
      · subst c32
        refine lv_tableIn (tgt := 1298) hx hb dL_law_33 (by decide) (by decide) (by rfl) (by decide) ?_
        exact lc_32 C hH hl hI hi hc hs K
      by_cases c33 : k = 33
      · subst c33
        refine lv_tableIn (tgt := 1331) hx hb dL_law_33 (by decide) (by decide) (by rfl) (by decide) ?_
        exact lc_33 C hH hl hI hi hc hs K
      by_cases c34 : k = 34
      · subst c34
        refine lv_tableIn (tgt := 1364) hx hb dL_law_33 (by decide) (by decide) (by rfl) (by decide) ?_
        exact lc_34 C hH hl hI hi hc hs K
      by_cases c35 : k = 35
      · subst c35
        refine lv_tableIn (tgt := 1387) hx hb dL_law_33 (by decide) (by decide) (by rfl) (by decide) ?_
        exact lc_35 C hH hl hI hi hc hs K
      by_cases c36 : k = 36
      · subst c36
        refine lv_tableIn (tgt := 1410) hx hb dL_law_33 (by decide) (by decide) (by rfl) (by decide) ?_
        exact lc_36 C hH hl hI hi hc hs K
      by_cases c37 : k = 37
      · subst c37
        refine lv_tableIn (tgt := 1433) hx hb dL_law_33 (by decide) (by decide) (by rfl) (by decide) ?_
        exact lc_37 C hH hl hI hi hc hs K
      by_cases c38 : k = 38
      · subst c38
        refine lv_tableIn (tgt := 1446) hx hb dL_law_33 (by decide) (by decide) (by rfl) (by decide) ?_
        exact lc_38 C hH hl hI hi hc hs K
      by_cases c39 : k = 39
      · subst c39
        refine lv_tableIn (tgt := 1459) hx hb dL_law_33 (by decide) (by decide) (by rfl) (by decide) ?_
        exact lc_39 C hH hl hI hi hc hs K
      by_cases c40 : k = 40
      · subst c40
        refine lv_tableIn (tgt := 1502) hx hb dL_law_33 (by decide) (by decide) (by rfl) (by decide) ?_
        exact lc_40 C hH hl hI hi hc hs K
      by_cases c41 : k = 41
      · subst c41
        refine lv_tableIn (tgt := 1515) hx hb dL_law_33 (by decide) (by decide) (by rfl) (by decide) ?_
        exact lc_41 C hH hl hI hi hc hs K
      by_cases c42 : k = 42
      · subst c42
        refine lv_tableIn (tgt := 1528) hx hb dL_law_33 (by decide) (by decide) (by rfl) (by decide) ?_
        exact lc_42 C hH hl hI hi hc hs K
      refine lv_tableOut (tgt := 1551) hx hb dL_law_33 (by have := nI_toInt (show k < 2 ^ 31 by omega); omega) (by decide) ?_
      exact W.widen (k := 1000 + 2 * j + 2) (n := 10000 + 20 * j + 20) (by omega) (by omega) (K S sz h H locs A hH hI)
end LOOP
def T00 : St2 := (fun _ => none, fun _ _ => none)
def h00 : Hp := fun _ _ => nI 0
set_option maxHeartbeats 4000000 in
set_option maxRecDepth 100000 in
theorem whole_start {p : Program} {e : Env} {s : State} {m : MethodId} {below : List Frame} {meth : Method} {c : Code} (l : Launch) (hflags : l.flags = flags0) {b L : Nat} {xs : Nat → Int32} (hL : L ≤ 3072) (C0 : lw_At p s m meth c b L xs) : W p l e room_1 s m #[Value.ref b] below meth c s.heap [] 0 0 (lw_Z below #[Value.ref b] s) (entryFrame m ([Value.ref b] : List Value).toArray 4) := by
  obtain ⟨hx, hb, hr, hml, hown, hts, hX, hbl, hlk, hgv⟩ := C0
  obtain ⟨⟨G, hKK⟩, hNK⟩ := KK_start hts
  obtain ⟨Z, hSK⟩ := SK_start hts hgv
  have hown : s.vm.findClass RL = some m.cls := hown
  have C : LC p s m meth c b L xs Z G := ⟨hx, hb, hml, hown, hKK, hSK, hNK, hr, hlk, hX, hbl, hL⟩
  have hl := lv_entry ([.ref b]) (n := 4) (Nat.le_of_ble_eq_true rfl)
  rw [lg_entry_eq]
  generalize (lg_sl ([.ref b]) ++ List.replicate (4 - (lg_sl ([.ref b])).length) Slot.unset).toArray = ls at hl ⊢
  have hl : lv_has ls 4 [(0, .ref b)] := hl
  have hH0 : HH2 G s.heap.size T00 h00 s.heap.size s s.heap [] := ⟨⟨⟨rfl, Nat.le_refl _⟩, fun a y hy => by cases hy⟩, va_S.rf⟩
  refine hn_new (ci := 6) (ty := tyX6) hx hb hown hKK hH0 cf6 cl_L_7 in_X6 wi_X6 df_6 (Nat.le_of_ble_eq_true rfl) (Nat.le_of_ble_eq_true rfl) dL_law_0 (fun T1 r sz1 h1 H e1 e2 e3 e4 hH => ?_)
  refine lv_dup hx hb dL_law_3 rfl ?_
  subst e2 e3 e4 e1
  refine hn_cI (rm := rm_X6_init) (As := []) (rest := [.ref s.heap.size]) (k := 0) hx hb hml hown hKK hSK hNK hH (m_X6_init _ _ _ _ (fun T' z h' => z = s.heap.size + 180 ∧ X6I T' s.heap.size ∧ Z0 h' s.heap.size (s.heap.size + 180)) (x_new6 (nw1 _ _ _) rfl (fun k => zr0 _ _ _) (fun T' h' ag X zz => ⟨rfl, X, zz⟩))) ci_L_9 ⟨Nat.le_of_ble_eq_true rfl, Nat.le_of_ble_eq_true rfl⟩ rfl hl.1 rfl (Nat.le_of_ble_eq_true rfl) ⟨Nat.le_of_ble_eq_true rfl, Nat.le_of_ble_eq_true rfl⟩ dL_law_4 (fun T2 z2 h2 H locs hH hw => ?_)
  obtain ⟨g1, X, zz⟩ := hw
  subst g1
  refine lv_astore_n (lv' := [(1, .ref s.heap.size), (0, .ref b)]) hx hb dL_law_7 rfl hl (by decide) rfl (fun ls hl => ?_)
  refine hn_new (ci := 7) (ty := tyX7) hx hb hown hKK hH cf7 cl_L_10 in_X7 wi_X7 df_7 (Nat.le_of_ble_eq_true rfl) (Nat.le_of_ble_eq_true rfl) dL_law_8 (fun T3 r sz3 h3 H e1 e2 e3 e4 hH => ?_)
  refine lv_dup hx hb dL_law_11 rfl ?_
  subst e2 e3 e4 e1
  refine hn_cI (rm := rm_X7_init) (As := []) (rest := [.ref (s.heap.size + 180)]) (k := 0) hx hb hml hown hKK hSK hNK hH (m_X7_init _ _ _ _ (fun T' z h' => z = s.heap.size + 180 + 24 ∧ Ag (nwT T2 (s.heap.size + 180) (.inl 7)) T' (zr h2 (s.heap.size + 180)) h' (s.heap.size + 180) ∧ MG 7 fl7 sz7 T' (s.heap.size + 180) 23 ∧ Z0 h' (s.heap.size + 180) (s.heap.size + 180 + 24)) (x_model2 (nw1 _ _ _) rfl (fun k => zr0 _ _ _) (fun T' h' ag M zz => ⟨rfl, ag, M, zz⟩))) ci_L_12 ⟨Nat.le_of_ble_eq_true rfl, Nat.le_of_ble_eq_true rfl⟩ rfl hl.1 rfl (Nat.le_of_ble_eq_true rfl) ⟨Nat.le_of_ble_eq_true rfl, Nat.le_of_ble_eq_true rfl⟩ dL_law_12 (fun T4 z4 h4 H locs hH hw => ?_)
  obtain ⟨g1, ag, M, zz4⟩ := hw
  subst g1
  have ag2 : Ag T2 T4 h2 h4 (s.heap.size + 180) := Ag_tr (Ag_nw T2 h2 (s.heap.size + 180) (.inl 7)) ag (Nat.le_refl _)
  have X4 := X6I_keep (Eq2_ag ag2) X
  have hI : SI (fromT T4) h4 s.heap.size A00 := SI_0 (from_X X4) (from_M M) (Z0_ag ag2 zz zz4)
  have hHS := HH_of2 (from_cmp T4) hH
  refine lv_astore_n (lv' := [(2, .ref (s.heap.size + 180)), (1, .ref s.heap.size), (0, .ref b)]) hx hb dL_law_15 rfl hl (by decide) rfl (fun ls hl => ?_)
  refine lv_iconst (v := nI 0) hx hb dL_law_16 (by decide) ?_
  refine lv_istore_n (lv' := [(3, .int (nI 0)), (2, .ref (s.heap.size + 180)), (1, .ref s.heap.size), (0, .ref b)]) hx hb dL_law_17 rfl hl (by decide) rfl (fun ls hl => ?_)
  refine W.widen (k := 1000 + 2 * 0) (n := 10000 + 20 * 0) (Nat.le_of_ble_eq_true rfl) (Nat.le_of_ble_eq_true rfl) ?_
  exact law_loop C L 0 (fromT T4) h4 _ H locs ls A00 (by omega) (by omega) hHS (lv_sub hl [3, 2, 1, 0] rfl) hI
