/-! THE LAW: what its body stands on; its cases -/
def LC (p : Program) (s : State) (m : MethodId) (meth : Method) (c : Code) (b L : Nat) (xs : Nat → Int32) (Z : Zg) (G : Gl) : Prop := p.tables.exec = Jvm.exec ∧ c.code = code ∧ c.maxLocals = 4 ∧ s.vm.findClass RL = some m.cls ∧ KK G s ∧ SK Z s.heap.size s ∧ NK s ∧ meth.sig.returnType = ret ∧ meth.locks = false ∧ va_X b L xs s s.heap ∧ b < s.heap.size ∧ L ≤ 3072
abbrev LW (p : Program) (l : Launch) (e : Env) (s : State) (m : MethodId) (below : List Frame) (meth : Method) (c : Code) (b : Nat) (H : Heap) (locs : List Loc) (cells slots : Nat) (g : JFrame) : Prop := W p l e room_1 s m #[Value.ref b] below meth c H locs cells slots (lw_Z below #[Value.ref b] s) g
abbrev LLs (b x i : Nat) : List (Nat × Value) := [(0, .ref b), (1, .ref x), (2, .ref (x + 180)), (3, .int (nI i))]
/-- all that stands lies below the heap's end -/
theorem HH.ge {G : Gl} {B sz x : Nat} {S : St} {h : Hp} {s : State} {H : Heap} {locs : List Loc} {A : Ab} (hH : HH G B S h sz s H locs) (hI : SI S h x A) : ∀ a y, S.1 a = some y → a < sz := by
  intro a y hy
  have g := (hH.1.2 a y hy).2
  rw [← hH.1.1.1]
  cases y with
  | inl ci =>
    obtain ⟨r, -, cell, q, -⟩ := g
    exact (Array.getElem?_eq_some_iff.mp q).1
  | inr y => exact (Array.getElem?_eq_some_iff.mp g.1).1
section LAW
variable {p : Program} {l : Launch} {e : Env} {s : State} {m : MethodId} {below : List Frame} {meth : Method} {c : Code} {b L : Nat} {xs : Nat → Int32} {Z : Zg} {G : Gl} {x : Nat}
set_option maxHeartbeats 4000000 in
set_option maxRecDepth 100000 in
theorem lc_0 (C : LC p s m meth c b L xs Z G) {S : St} {h : Hp} {sz : Nat} {H : Heap} {locs : List Loc} {ls : Array Slot} {A : Ab} {i cells slots : Nat} (hH : HH G s.heap.size S h sz s H locs) (hl : lv_has ls 4 (LLs b x i)) (hI : SI S h x A) (hi : i + 6 ≤ L) (hc : cells + 2 ≤ 600000) (hs : slots + 20 ≤ 7302250) (kk : ∀ (S1 : St) (sz1 : Nat) (h1 : Hp) (H1 : Heap) (locs1 : List Loc) (A1 : Ab), HH G s.heap.size S1 h1 sz1 s H1 locs1 → SI S1 h1 x A1 → LW p l e s m below meth c b H1 locs1 (cells + 2) (slots + 20) (F0 m 1551 ls [])) : LW p l e s m below meth c b H locs cells slots (F0 m 220 ls []) := by
  obtain ⟨hx, hb, hml, hown, hKK, hSK, hNK, hr, hlk, hX, hbl, hL⟩ := C
  have hbA : ¬ (fun q : Nat => s.heap.size ≤ q) b := Nat.not_le.mpr hbl
  refine lv_aload_n hx hb dL_law_220 rfl (lv_at hl 1 rfl) ?_
  refine lv_aload_n hx hb dL_law_221 rfl (lv_at hl 0 rfl) ?_
  refine lv_iload_n hx hb dL_law_222 rfl (lv_at hl 3 rfl) ?_
  refine lv_iconst (v := (nI 1)) hx hb dL_law_223 (by decide) ?_
  refine lv_iadd hx hb dL_law_224 ?_
  refine va_sld hx hb hX hbl hbA hH.2 (by rw [nI_add]; exact vp_in_nI (by omega) (by omega)) dL_law_225 ?_
  refine hv_cVI (rm := rm_X6_feed) (As := [.int (xs (ix (nI i + nI 1)))]) (rest := []) (k := 1) (ci := 6) hx hb hml hown hKK hH cf6 hI.1.1.1.1 (m_X6_feed x _ _ _ (op_feed hI (Q := fun r r' h2 => r = r' ∧ ∃ A', SI S h2 x A') (fun r A' h' hS => ⟨rfl, A', hS⟩))) cw_L_13 ⟨Nat.le_of_ble_eq_true rfl, Nat.le_of_ble_eq_true rfl⟩ rfl hl.1 rfl (Nat.le_of_ble_eq_true rfl) ⟨by show cells + 0 ≤ 600000; omega, by show slots + 0 ≤ 7302250; omega⟩ dL_law_226 (fun r1 h1 H locs hH hw => ?_)
  refine lv_aload_n hx hb dL_law_229 rfl (lv_at hl 2 rfl) ?_
  refine lv_aload_n hx hb dL_law_230 rfl (lv_at hl 0 rfl) ?_
  refine lv_iload_n hx hb dL_law_231 rfl (lv_at hl 3 rfl) ?_
  refine lv_iconst (v := (nI 1)) hx hb dL_law_232 (by decide) ?_
  refine lv_iadd hx hb dL_law_233 ?_
  refine va_sld hx hb hX hbl hbA hH.2 (by rw [nI_add]; exact vp_in_nI (by omega) (by omega)) dL_law_234 ?_
  refine hv_cVI (rm := rm_X7_feed) (As := [.int (xs (ix (nI i + nI 1)))]) (rest := [.int r1]) (k := 1) (ci := 7) hx hb hml hown hKK hH cf7 hI.2.1.1.1 (m_X7_feed (x + 180) _ _ _ hw) cw_L_17 ⟨Nat.le_of_ble_eq_true rfl, Nat.le_of_ble_eq_true rfl⟩ rfl hl.1 rfl (Nat.le_of_ble_eq_true rfl) ⟨by show cells + 0 + 0 ≤ 600000; omega, by show slots + 0 + 0 ≤ 7302250; omega⟩ dL_law_235 (fun r2 h2 H locs hH hw => ?_)
  obtain ⟨er, A', hS⟩ := hw
  refine lv_icmp_eq (tgt := 1551) hx hb dL_law_238 (by decide) (fun _ => ?_) (fun c => absurd er c)
  refine W.widen (k := cells + 2) (n := slots + 20) (by show cells + 0 + 0 ≤ cells + 2; omega) (by show slots + 0 + 0 ≤ slots + 20; omega) ?_
  exact kk S sz h2 H locs A' hH hS
set_option maxHeartbeats 4000000 in
set_option maxRecDepth 100000 in
theorem lc_1 (C : LC p s m meth c b L xs Z G) {S : St} {h : Hp} {sz : Nat} {H : Heap} {locs : List Loc} {ls : Array Slot} {A : Ab} {i cells slots : Nat} (hH : HH G s.heap.size S h sz s H locs) (hl : lv_has ls 4 (LLs b x i)) (hI : SI S h x A) (hi : i + 6 ≤ L) (hc : cells + 2 ≤ 600000) (hs : slots + 20 ≤ 7302250) (kk : ∀ (S1 : St) (sz1 : Nat) (h1 : Hp) (H1 : Heap) (locs1 : List Loc) (A1 : Ab), HH G s.heap.size S1 h1 sz1 s H1 locs1 → SI S1 h1 x A1 → LW p l e s m below meth c b H1 locs1 (cells + 2) (slots + 20) (F0 m 1551 ls [])) : LW p l e s m below meth c b H locs cells slots (F0 m 243 ls []) := by
  obtain ⟨hx, hb, hml, hown, hKK, hSK, hNK, hr, hlk, hX, hbl, hL⟩ := C
  have hbA : ¬ (fun q : Nat => s.heap.size ≤ q) b := Nat.not_le.mpr hbl
  refine lv_aload_n hx hb dL_law_243 rfl (lv_at hl 1 rfl) ?_
  refine hz_cVI (rm := rm_X6_land) (As := []) (rest := []) (k := 0) (ci := 6) hx hb hml hown hKK hSK hH cf6 hI.1.1.1.1 (m_X6_land x  _ _ (op_land hI (Q := fun r r' h2 => r = r' ∧ ∃ A', SI S h2 x A') (fun r A' h' hS => ⟨rfl, A', hS⟩))) cw_L_18 ⟨Nat.le_of_ble_eq_true rfl, Nat.le_of_ble_eq_true rfl⟩ rfl hl.1 rfl (Nat.le_of_ble_eq_true rfl) ⟨by show cells + 0 ≤ 600000; omega, by show slots + 0 ≤ 7302250; omega⟩ dL_law_244 (fun r1 h1 H locs hH hw => ?_)
  refine lv_aload_n hx hb dL_law_247 rfl (lv_at hl 2 rfl) ?_
  refine hv_cVI (rm := rm_X7_land) (As := []) (rest := [.int r1]) (k := 0) (ci := 7) hx hb hml hown hKK hH cf7 hI.2.1.1.1 (m_X7_land (x + 180)  _ _ hw) cw_L_22 ⟨Nat.le_of_ble_eq_true rfl, Nat.le_of_ble_eq_true rfl⟩ rfl hl.1 rfl (Nat.le_of_ble_eq_true rfl) ⟨by show cells + 0 + 0 ≤ 600000; omega, by show slots + 0 + 0 ≤ 7302250; omega⟩ dL_law_248 (fun r2 h2 H locs hH hw => ?_)
  obtain ⟨er, A', hS⟩ := hw
  refine lv_icmp_eq (tgt := 1551) hx hb dL_law_251 (by decide) (fun _ => ?_) (fun c => absurd er c)
  refine W.widen (k := cells + 2) (n := slots + 20) (by show cells + 0 + 0 ≤ cells + 2; omega) (by show slots + 0 + 0 ≤ slots + 20; omega) ?_
  exact kk S sz h2 H locs A' hH hS
set_option maxHeartbeats 4000000 in
set_option maxRecDepth 100000 in
theorem lc_2 (C : LC p s m meth c b L xs Z G) {S : St} {h : Hp} {sz : Nat} {H : Heap} {locs : List Loc} {ls : Array Slot} {A : Ab} {i cells slots : Nat} (hH : HH G s.heap.size S h sz s H locs) (hl : lv_has ls 4 (LLs b x i)) (hI : SI S h x A) (hi : i + 6 ≤ L) (hc : cells + 2 ≤ 600000) (hs : slots + 20 ≤ 7302250) (kk : ∀ (S1 : St) (sz1 : Nat) (h1 : Hp) (H1 : Heap) (locs1 : List Loc) (A1 : Ab), HH G s.heap.size S1 h1 sz1 s H1 locs1 → SI S1 h1 x A1 → LW p l e s m below meth c b H1 locs1 (cells + 2) (slots + 20) (F0 m 1551 ls [])) : LW p l e s m below meth c b H locs cells slots (F0 m 256 ls []) := by
  obtain ⟨hx, hb, hml, hown, hKK, hSK, hNK, hr, hlk, hX, hbl, hL⟩ := C
  have hbA : ¬ (fun q : Nat => s.heap.size ≤ q) b := Nat.not_le.mpr hbl
  refine lv_aload_n hx hb dL_law_256 rfl (lv_at hl 1 rfl) ?_
  refine lv_aload_n hx hb dL_law_257 rfl (lv_at hl 0 rfl) ?_
  refine lv_iload_n hx hb dL_law_258 rfl (lv_at hl 3 rfl) ?_
  refine lv_iconst (v := (nI 1)) hx hb dL_law_259 (by decide) ?_
  refine lv_iadd hx hb dL_law_260 ?_
  refine va_sld hx hb hX hbl hbA hH.2 (by rw [nI_add]; exact vp_in_nI (by omega) (by omega)) dL_law_261 ?_
  refine lv_aload_n hx hb dL_law_262 rfl (lv_at hl 0 rfl) ?_
  refine lv_iload_n hx hb dL_law_263 rfl (lv_at hl 3 rfl) ?_
  refine lv_iconst (v := (nI 2)) hx hb dL_law_264 (by decide) ?_
  refine lv_iadd hx hb dL_law_265 ?_
  refine va_sld hx hb hX hbl hbA hH.2 (by rw [nI_add]; exact vp_in_nI (by omega) (by omega)) dL_law_266 ?_
  refine hv_cVI (rm := rm_X6_head) (As := [.int (xs (ix (nI i + nI 1))), .int (xs (ix (nI i + nI 2)))]) (rest := []) (k := 2) (ci := 6) hx hb hml hown hKK hH cf6 hI.1.1.1.1 (m_X6_head x _ _ _ _ (op_head hI (Q := fun r r' h2 => r = r' ∧ ∃ A', SI S h2 x A') (fun r A' h' hS => ⟨rfl, A', hS⟩))) cw_L_23 ⟨Nat.le_of_ble_eq_true rfl, Nat.le_of_ble_eq_true rfl⟩ rfl hl.1 rfl (Nat.le_of_ble_eq_true rfl) ⟨by show cells + 0 ≤ 600000; omega, by show slots + 0 ≤ 7302250; omega⟩ dL_law_267 (fun r1 h1 H locs hH hw => ?_)
  refine lv_aload_n hx hb dL_law_270 rfl (lv_at hl 2 rfl) ?_
  refine lv_aload_n hx hb dL_law_271 rfl (lv_at hl 0 rfl) ?_
  refine lv_iload_n hx hb dL_law_272 rfl (lv_at hl 3 rfl) ?_
  refine lv_iconst (v := (nI 1)) hx hb dL_law_273 (by decide) ?_
  refine lv_iadd hx hb dL_law_274 ?_
  refine va_sld hx hb hX hbl hbA hH.2 (by rw [nI_add]; exact vp_in_nI (by omega) (by omega)) dL_law_275 ?_
  refine lv_aload_n hx hb dL_law_276 rfl (lv_at hl 0 rfl) ?_
  refine lv_iload_n hx hb dL_law_277 rfl (lv_at hl 3 rfl) ?_
  refine lv_iconst (v := (nI 2)) hx hb dL_law_278 (by decide) ?_
  refine lv_iadd hx hb dL_law_279 ?_
  refine va_sld hx hb hX hbl hbA hH.2 (by rw [nI_add]; exact vp_in_nI (by omega) (by omega)) dL_law_280 ?_
  refine hv_cVI (rm := rm_X7_head) (As := [.int (xs (ix (nI i + nI 1))), .int (xs (ix (nI i + nI 2)))]) (rest := [.int r1]) (k := 2) (ci := 7) hx hb hml hown hKK hH cf7 hI.2.1.1.1 (m_X7_head (x + 180) _ _ _ _ hw) cw_L_27 ⟨Nat.le_of_ble_eq_true rfl, Nat.le_of_ble_eq_true rfl⟩ rfl hl.1 rfl (Nat.le_of_ble_eq_true rfl) ⟨by show cells + 0 + 0 ≤ 600000; omega, by show slots + 0 + 0 ≤ 7302250; omega⟩ dL_law_281 (fun r2 h2 H locs hH hw => ?_)
  obtain ⟨er, A', hS⟩ := hw
  refine lv_icmp_eq (tgt := 1551) hx hb dL_law_284 (by decide) (fun _ => ?_) (fun c => absurd er c)
  refine W.widen (k := cells + 2) (n := slots + 20) (by show cells + 0 + 0 ≤ cells + 2; omega) (by show slots + 0 + 0 ≤ slots + 20; omega) ?_
  exact kk S sz h2 H locs A' hH hS
set_option maxHeartbeats 4000000 in
set_option maxRecDepth 100000 in
theorem lc_3 (C : LC p s m meth c b L xs Z G) {S : St} {h : Hp} {sz : Nat} {H : Heap} {locs : List Loc} {ls : Array Slot} {A : Ab} {i cells slots : Nat} (hH : HH G s.heap.size S h sz s H locs) (hl : lv_has ls 4 (LLs b x i)) (hI : SI S h x A) (hi : i + 6 ≤ L) (hc : cells + 2 ≤ 600000) (hs : slots + 20 ≤ 7302250) (kk : ∀ (S1 : St) (sz1 : Nat) (h1 : Hp) (H1 : Heap) (locs1 : List Loc) (A1 : Ab), HH G s.heap.size S1 h1 sz1 s H1 locs1 → SI S1 h1 x A1 → LW p l e s m below meth c b H1 locs1 (cells + 2) (slots + 20) (F0 m 1551 ls [])) : LW p l e s m below meth c b H locs cells slots (F0 m 289 ls []) := by
  obtain ⟨hx, hb, hml, hown, hKK, hSK, hNK, hr, hlk, hX, hbl, hL⟩ := C
  have hbA : ¬ (fun q : Nat => s.heap.size ≤ q) b := Nat.not_le.mpr hbl
  refine lv_aload_n hx hb dL_law_289 rfl (lv_at hl 1 rfl) ?_
  refine lv_aload_n hx hb dL_law_290 rfl (lv_at hl 0 rfl) ?_
  refine lv_iload_n hx hb dL_law_291 rfl (lv_at hl 3 rfl) ?_
  refine lv_iconst (v := (nI 1)) hx hb dL_law_292 (by decide) ?_
  refine lv_iadd hx hb dL_law_293 ?_
  refine va_sld hx hb hX hbl hbA hH.2 (by rw [nI_add]; exact vp_in_nI (by omega) (by omega)) dL_law_294 ?_
  refine lv_aload_n hx hb dL_law_295 rfl (lv_at hl 0 rfl) ?_
  refine lv_iload_n hx hb dL_law_296 rfl (lv_at hl 3 rfl) ?_
  refine lv_iconst (v := (nI 2)) hx hb dL_law_297 (by decide) ?_
  refine lv_iadd hx hb dL_law_298 ?_
  refine va_sld hx hb hX hbl hbA hH.2 (by rw [nI_add]; exact vp_in_nI (by omega) (by omega)) dL_law_299 ?_
  refine hv_cVI (rm := rm_X6_field) (As := [.int (xs (ix (nI i + nI 1))), .int (xs (ix (nI i + nI 2)))]) (rest := []) (k := 2) (ci := 6) hx hb hml hown hKK hH cf6 hI.1.1.1.1 (m_X6_field x _ _ _ _ (op_field hI (Q := fun r r' h2 => r = r' ∧ ∃ A', SI S h2 x A') (fun r A' h' hS => ⟨rfl, A', hS⟩))) cw_L_28 ⟨Nat.le_of_ble_eq_true rfl, Nat.le_of_ble_eq_true rfl⟩ rfl hl.1 rfl (Nat.le_of_ble_eq_true rfl) ⟨by show cells + 0 ≤ 600000; omega, by show slots + 0 ≤ 7302250; omega⟩ dL_law_300 (fun r1 h1 H locs hH hw => ?_)
  refine lv_aload_n hx hb dL_law_303 rfl (lv_at hl 2 rfl) ?_
  refine lv_aload_n hx hb dL_law_304 rfl (lv_at hl 0 rfl) ?_
  refine lv_iload_n hx hb dL_law_305 rfl (lv_at hl 3 rfl) ?_
  refine lv_iconst (v := (nI 1)) hx hb dL_law_306 (by decide) ?_
  refine lv_iadd hx hb dL_law_307 ?_
  refine va_sld hx hb hX hbl hbA hH.2 (by rw [nI_add]; exact vp_in_nI (by omega) (by omega)) dL_law_308 ?_
  refine lv_aload_n hx hb dL_law_309 rfl (lv_at hl 0 rfl) ?_
  refine lv_iload_n hx hb dL_law_310 rfl (lv_at hl 3 rfl) ?_
  refine lv_iconst (v := (nI 2)) hx hb dL_law_311 (by decide) ?_
  refine lv_iadd hx hb dL_law_312 ?_
  refine va_sld hx hb hX hbl hbA hH.2 (by rw [nI_add]; exact vp_in_nI (by omega) (by omega)) dL_law_313 ?_
  refine hv_cVI (rm := rm_X7_field) (As := [.int (xs (ix (nI i + nI 1))), .int (xs (ix (nI i + nI 2)))]) (rest := [.int r1]) (k := 2) (ci := 7) hx hb hml hown hKK hH cf7 hI.2.1.1.1 (m_X7_field (x + 180) _ _ _ _ hw) cw_L_31 ⟨Nat.le_of_ble_eq_true rfl, Nat.le_of_ble_eq_true rfl⟩ rfl hl.1 rfl (Nat.le_of_ble_eq_true rfl) ⟨by show cells + 0 + 0 ≤ 600000; omega, by show slots + 0 + 0 ≤ 7302250; omega⟩ dL_law_314 (fun r2 h2 H locs hH hw => ?_)
  obtain ⟨er, A', hS⟩ := hw
  refine lv_icmp_eq (tgt := 1551) hx hb dL_law_317 (by decide) (fun _ => ?_) (fun c => absurd er c)
  refine W.widen (k := cells + 2) (n := slots + 20) (by show cells + 0 + 0 ≤ cells + 2; omega) (by show slots + 0 + 0 ≤ slots + 20; omega) ?_
  exact kk S sz h2 H locs A' hH hS
set_option maxHeartbeats 4000000 in
set_option maxRecDepth 100000 in
theorem lc_4 (C : LC p s m meth c b L xs Z G) {S : St} {h : Hp} {sz : Nat} {H : Heap} {locs : List Loc} {ls : Array Slot} {A : Ab} {i cells slots : Nat} (hH : HH G s.heap.size S h sz s H locs) (hl : lv_has ls 4 (LLs b x i)) (hI : SI S h x A) (hi : i + 6 ≤ L) (hc : cells + 2 ≤ 600000) (hs : slots + 20 ≤ 7302250) (kk : ∀ (S1 : St) (sz1 : Nat) (h1 : Hp) (H1 : Heap) (locs1 : List Loc) (A1 : Ab), HH G s.heap.size S1 h1 sz1 s H1 locs1 → SI S1 h1 x A1 → LW p l e s m below meth c b H1 locs1 (cells + 2) (slots + 20) (F0 m 1551 ls [])) : LW p l e s m below meth c b H locs cells slots (F0 m 322 ls []) := by
  obtain ⟨hx, hb, hml, hown, hKK, hSK, hNK, hr, hlk, hX, hbl, hL⟩ := C
  have hbA : ¬ (fun q : Nat => s.heap.size ≤ q) b := Nat.not_le.mpr hbl
  refine lv_aload_n hx hb dL_law_322 rfl (lv_at hl 1 rfl) ?_
  refine lv_aload_n hx hb dL_law_323 rfl (lv_at hl 0 rfl) ?_
  refine lv_iload_n hx hb dL_law_324 rfl (lv_at hl 3 rfl) ?_
  refine lv_iconst (v := (nI 1)) hx hb dL_law_325 (by decide) ?_
  refine lv_iadd hx hb dL_law_326 ?_
  refine va_sld hx hb hX hbl hbA hH.2 (by rw [nI_add]; exact vp_in_nI (by omega) (by omega)) dL_law_327 ?_
  refine lv_aload_n hx hb dL_law_328 rfl (lv_at hl 0 rfl) ?_
  refine lv_iload_n hx hb dL_law_329 rfl (lv_at hl 3 rfl) ?_
  refine lv_iconst (v := (nI 2)) hx hb dL_law_330 (by decide) ?_
  refine lv_iadd hx hb dL_law_331 ?_
  refine va_sld hx hb hX hbl hbA hH.2 (by rw [nI_add]; exact vp_in_nI (by omega) (by omega)) dL_law_332 ?_
  refine lv_aload_n hx hb dL_law_333 rfl (lv_at hl 0 rfl) ?_
  refine lv_iload_n hx hb dL_law_334 rfl (lv_at hl 3 rfl) ?_
  refine lv_iconst (v := (nI 3)) hx hb dL_law_335 (by decide) ?_
  refine lv_iadd hx hb dL_law_336 ?_
  refine va_sld hx hb hX hbl hbA hH.2 (by rw [nI_add]; exact vp_in_nI (by omega) (by omega)) dL_law_337 ?_
  refine lv_aload_n hx hb dL_law_338 rfl (lv_at hl 0 rfl) ?_
  refine lv_iload_n hx hb dL_law_339 rfl (lv_at hl 3 rfl) ?_
  refine lv_iconst (v := (nI 4)) hx hb dL_law_340 (by decide) ?_
  refine lv_iadd hx hb dL_law_341 ?_
  refine va_sld hx hb hX hbl hbA hH.2 (by rw [nI_add]; exact vp_in_nI (by omega) (by omega)) dL_law_342 ?_
  refine hv_cVI (rm := rm_X6_comes) (As := [.int (xs (ix (nI i + nI 1))), .int (xs (ix (nI i + nI 2))), .int (xs (ix (nI i + nI 3))), .int (xs (ix (nI i + nI 4)))]) (rest := []) (k := 4) (ci := 6) hx hb hml hown hKK hH cf6 hI.1.1.1.1 (m_X6_comes x _ _ _ _ _ _ (op_comes hI (Q := fun r r' h2 => r = r' ∧ ∃ A', SI S h2 x A') (fun r A' h' hS => ⟨rfl, A', hS⟩))) cw_L_32 ⟨Nat.le_of_ble_eq_true rfl, Nat.le_of_ble_eq_true rfl⟩ rfl hl.1 rfl (Nat.le_of_ble_eq_true rfl) ⟨by show cells + 0 ≤ 600000; omega, by show slots + 0 ≤ 7302250; omega⟩ dL_law_343 (fun r1 h1 H locs hH hw => ?_)
  refine lv_aload_n hx hb dL_law_346 rfl (lv_at hl 2 rfl) ?_
  refine lv_aload_n hx hb dL_law_347 rfl (lv_at hl 0 rfl) ?_
  refine lv_iload_n hx hb dL_law_348 rfl (lv_at hl 3 rfl) ?_
  refine lv_iconst (v := (nI 1)) hx hb dL_law_349 (by decide) ?_
  refine lv_iadd hx hb dL_law_350 ?_
  refine va_sld hx hb hX hbl hbA hH.2 (by rw [nI_add]; exact vp_in_nI (by omega) (by omega)) dL_law_351 ?_
  refine lv_aload_n hx hb dL_law_352 rfl (lv_at hl 0 rfl) ?_
  refine lv_iload_n hx hb dL_law_353 rfl (lv_at hl 3 rfl) ?_
  refine lv_iconst (v := (nI 2)) hx hb dL_law_354 (by decide) ?_
  refine lv_iadd hx hb dL_law_355 ?_
  refine va_sld hx hb hX hbl hbA hH.2 (by rw [nI_add]; exact vp_in_nI (by omega) (by omega)) dL_law_356 ?_
  refine lv_aload_n hx hb dL_law_357 rfl (lv_at hl 0 rfl) ?_
  refine lv_iload_n hx hb dL_law_358 rfl (lv_at hl 3 rfl) ?_
  refine lv_iconst (v := (nI 3)) hx hb dL_law_359 (by decide) ?_
  refine lv_iadd hx hb dL_law_360 ?_
  refine va_sld hx hb hX hbl hbA hH.2 (by rw [nI_add]; exact vp_in_nI (by omega) (by omega)) dL_law_361 ?_
  refine lv_aload_n hx hb dL_law_362 rfl (lv_at hl 0 rfl) ?_
  refine lv_iload_n hx hb dL_law_363 rfl (lv_at hl 3 rfl) ?_
  refine lv_iconst (v := (nI 4)) hx hb dL_law_364 (by decide) ?_
  refine lv_iadd hx hb dL_law_365 ?_
  refine va_sld hx hb hX hbl hbA hH.2 (by rw [nI_add]; exact vp_in_nI (by omega) (by omega)) dL_law_366 ?_
  refine hv_cVI (rm := rm_X7_comes) (As := [.int (xs (ix (nI i + nI 1))), .int (xs (ix (nI i + nI 2))), .int (xs (ix (nI i + nI 3))), .int (xs (ix (nI i + nI 4)))]) (rest := [.int r1]) (k := 4) (ci := 7) hx hb hml hown hKK hH cf7 hI.2.1.1.1 (m_X7_comes (x + 180) _ _ _ _ _ _ hw) cw_L_36 ⟨Nat.le_of_ble_eq_true rfl, Nat.le_of_ble_eq_true rfl⟩ rfl hl.1 rfl (Nat.le_of_ble_eq_true rfl) ⟨by show cells + 0 + 0 ≤ 600000; omega, by show slots + 0 + 0 ≤ 7302250; omega⟩ dL_law_367 (fun r2 h2 H locs hH hw => ?_)
  obtain ⟨er, A', hS⟩ := hw
  refine lv_icmp_eq (tgt := 1551) hx hb dL_law_370 (by decide) (fun _ => ?_) (fun c => absurd er c)
  refine W.widen (k := cells + 2) (n := slots + 20) (by show cells + 0 + 0 ≤ cells + 2; omega) (by show slots + 0 + 0 ≤ slots + 20; omega) ?_
  exact kk S sz h2 H locs A' hH hS
set_option maxHeartbeats 4000000 in
set_option maxRecDepth 100000 in
theorem lc_5 (C : LC p s m meth c b L xs Z G) {S : St} {h : Hp} {sz : Nat} {H : Heap} {locs : List Loc} {ls : Array Slot} {A : Ab} {i cells slots : Nat} (hH : HH G s.heap.size S h sz s H locs) (hl : lv_has ls 4 (LLs b x i)) (hI : SI S h x A) (hi : i + 6 ≤ L) (hc : cells + 2 ≤ 600000) (hs : slots + 20 ≤ 7302250) (kk : ∀ (S1 : St) (sz1 : Nat) (h1 : Hp) (H1 : Heap) (locs1 : List Loc) (A1 : Ab), HH G s.heap.size S1 h1 sz1 s H1 locs1 → SI S1 h1 x A1 → LW p l e s m below meth c b H1 locs1 (cells + 2) (slots + 20) (F0 m 1551 ls [])) : LW p l e s m below meth c b H locs cells slots (F0 m 375 ls []) := by
  obtain ⟨hx, hb, hml, hown, hKK, hSK, hNK, hr, hlk, hX, hbl, hL⟩ := C
  have hbA : ¬ (fun q : Nat => s.heap.size ≤ q) b := Nat.not_le.mpr hbl
  refine lv_aload_n hx hb dL_law_375 rfl (lv_at hl 1 rfl) ?_
  refine lv_aload_n hx hb dL_law_376 rfl (lv_at hl 0 rfl) ?_
  refine lv_iload_n hx hb dL_law_377 rfl (lv_at hl 3 rfl) ?_
  refine lv_iconst (v := (nI 1)) hx hb dL_law_378 (by decide) ?_
  refine lv_iadd hx hb dL_law_379 ?_
  refine va_sld hx hb hX hbl hbA hH.2 (by rw [nI_add]; exact vp_in_nI (by omega) (by omega)) dL_law_380 ?_
  refine lv_aload_n hx hb dL_law_381 rfl (lv_at hl 0 rfl) ?_
  refine lv_iload_n hx hb dL_law_382 rfl (lv_at hl 3 rfl) ?_
  refine lv_iconst (v := (nI 2)) hx hb dL_law_383 (by decide) ?_
  refine lv_iadd hx hb dL_law_384 ?_
  refine va_sld hx hb hX hbl hbA hH.2 (by rw [nI_add]; exact vp_in_nI (by omega) (by omega)) dL_law_385 ?_
  refine hv_cVI (rm := rm_X6_named) (As := [.int (xs (ix (nI i + nI 1))), .int (xs (ix (nI i + nI 2)))]) (rest := []) (k := 2) (ci := 6) hx hb hml hown hKK hH cf6 hI.1.1.1.1 (m_X6_named x _ _ _ _ (op_named hI (Q := fun r r' h2 => r = r' ∧ ∃ A', SI S h2 x A') (fun r A' h' hS => ⟨rfl, A', hS⟩))) cw_L_37 ⟨Nat.le_of_ble_eq_true rfl, Nat.le_of_ble_eq_true rfl⟩ rfl hl.1 rfl (Nat.le_of_ble_eq_true rfl) ⟨by show cells + 0 ≤ 600000; omega, by show slots + 0 ≤ 7302250; omega⟩ dL_law_386 (fun r1 h1 H locs hH hw => ?_)
  refine lv_aload_n hx hb dL_law_389 rfl (lv_at hl 2 rfl) ?_
  refine lv_aload_n hx hb dL_law_390 rfl (lv_at hl 0 rfl) ?_
  refine lv_iload_n hx hb dL_law_391 rfl (lv_at hl 3 rfl) ?_
  refine lv_iconst (v := (nI 1)) hx hb dL_law_392 (by decide) ?_
  refine lv_iadd hx hb dL_law_393 ?_
  refine va_sld hx hb hX hbl hbA hH.2 (by rw [nI_add]; exact vp_in_nI (by omega) (by omega)) dL_law_394 ?_
  refine lv_aload_n hx hb dL_law_395 rfl (lv_at hl 0 rfl) ?_
  refine lv_iload_n hx hb dL_law_396 rfl (lv_at hl 3 rfl) ?_
  refine lv_iconst (v := (nI 2)) hx hb dL_law_397 (by decide) ?_
  refine lv_iadd hx hb dL_law_398 ?_
  refine va_sld hx hb hX hbl hbA hH.2 (by rw [nI_add]; exact vp_in_nI (by omega) (by omega)) dL_law_399 ?_
  refine hv_cVI (rm := rm_X7_named) (As := [.int (xs (ix (nI i + nI 1))), .int (xs (ix (nI i + nI 2)))]) (rest := [.int r1]) (k := 2) (ci := 7) hx hb hml hown hKK hH cf7 hI.2.1.1.1 (m_X7_named (x + 180) _ _ _ _ hw) cw_L_40 ⟨Nat.le_of_ble_eq_true rfl, Nat.le_of_ble_eq_true rfl⟩ rfl hl.1 rfl (Nat.le_of_ble_eq_true rfl) ⟨by show cells + 0 + 0 ≤ 600000; omega, by show slots + 0 + 0 ≤ 7302250; omega⟩ dL_law_400 (fun r2 h2 H locs hH hw => ?_)
  obtain ⟨er, A', hS⟩ := hw
  refine lv_icmp_eq (tgt := 1551) hx hb dL_law_403 (by decide) (fun _ => ?_) (fun c => absurd er c)
  refine W.widen (k := cells + 2) (n := slots + 20) (by show cells + 0 + 0 ≤ cells + 2; omega) (by show slots + 0 + 0 ≤ slots + 20; omega) ?_
  exact kk S sz h2 H locs A' hH hS
set_option maxHeartbeats 4000000 in
set_option maxRecDepth 100000 in
theorem lc_6 (C : LC p s m meth c b L xs Z G) {S : St} {h : Hp} {sz : Nat} {H : Heap} {locs : List Loc} {ls : Array Slot} {A : Ab} {i cells slots : Nat} (hH : HH G s.heap.size S h sz s H locs) (hl : lv_has ls 4 (LLs b x i)) (hI : SI S h x A) (hi : i + 6 ≤ L) (hc : cells + 2 ≤ 600000) (hs : slots + 20 ≤ 7302250) (kk : ∀ (S1 : St) (sz1 : Nat) (h1 : Hp) (H1 : Heap) (locs1 : List Loc) (A1 : Ab), HH G s.heap.size S1 h1 sz1 s H1 locs1 → SI S1 h1 x A1 → LW p l e s m below meth c b H1 locs1 (cells + 2) (slots + 20) (F0 m 1551 ls [])) : LW p l e s m below meth c b H locs cells slots (F0 m 408 ls []) := by
  obtain ⟨hx, hb, hml, hown, hKK, hSK, hNK, hr, hlk, hX, hbl, hL⟩ := C
  have hbA : ¬ (fun q : Nat => s.heap.size ≤ q) b := Nat.not_le.mpr hbl
  refine lv_aload_n hx hb dL_law_408 rfl (lv_at hl 1 rfl) ?_
  refine lv_aload_n hx hb dL_law_409 rfl (lv_at hl 0 rfl) ?_
  refine lv_iload_n hx hb dL_law_410 rfl (lv_at hl 3 rfl) ?_
  refine lv_iconst (v := (nI 1)) hx hb dL_law_411 (by decide) ?_
  refine lv_iadd hx hb dL_law_412 ?_
  refine va_sld hx hb hX hbl hbA hH.2 (by rw [nI_add]; exact vp_in_nI (by omega) (by omega)) dL_law_413 ?_
  refine lv_aload_n hx hb dL_law_414 rfl (lv_at hl 0 rfl) ?_
  refine lv_iload_n hx hb dL_law_415 rfl (lv_at hl 3 rfl) ?_
  refine lv_iconst (v := (nI 2)) hx hb dL_law_416 (by decide) ?_
  refine lv_iadd hx hb dL_law_417 ?_
  refine va_sld hx hb hX hbl hbA hH.2 (by rw [nI_add]; exact vp_in_nI (by omega) (by omega)) dL_law_418 ?_
  refine hv_cVI (rm := rm_X6_faces) (As := [.int (xs (ix (nI i + nI 1))), .int (xs (ix (nI i + nI 2)))]) (rest := []) (k := 2) (ci := 6) hx hb hml hown hKK hH cf6 hI.1.1.1.1 (m_X6_faces x _ _ _ _ (op_faces hI (Q := fun r r' h2 => r = r' ∧ ∃ A', SI S h2 x A') (fun r A' h' hS => ⟨rfl, A', hS⟩))) cw_L_41 ⟨Nat.le_of_ble_eq_true rfl, Nat.le_of_ble_eq_true rfl⟩ rfl hl.1 rfl (Nat.le_of_ble_eq_true rfl) ⟨by show cells + 0 ≤ 600000; omega, by show slots + 0 ≤ 7302250; omega⟩ dL_law_419 (fun r1 h1 H locs hH hw => ?_)
  refine lv_aload_n hx hb dL_law_422 rfl (lv_at hl 2 rfl) ?_
  refine lv_aload_n hx hb dL_law_423 rfl (lv_at hl 0 rfl) ?_
  refine lv_iload_n hx hb dL_law_424 rfl (lv_at hl 3 rfl) ?_
  refine lv_iconst (v := (nI 1)) hx hb dL_law_425 (by decide) ?_
  refine lv_iadd hx hb dL_law_426 ?_
  refine va_sld hx hb hX hbl hbA hH.2 (by rw [nI_add]; exact vp_in_nI (by omega) (by omega)) dL_law_427 ?_
  refine lv_aload_n hx hb dL_law_428 rfl (lv_at hl 0 rfl) ?_
  refine lv_iload_n hx hb dL_law_429 rfl (lv_at hl 3 rfl) ?_
  refine lv_iconst (v := (nI 2)) hx hb dL_law_430 (by decide) ?_
  refine lv_iadd hx hb dL_law_431 ?_
  refine va_sld hx hb hX hbl hbA hH.2 (by rw [nI_add]; exact vp_in_nI (by omega) (by omega)) dL_law_432 ?_
  refine hv_cVI (rm := rm_X7_faces) (As := [.int (xs (ix (nI i + nI 1))), .int (xs (ix (nI i + nI 2)))]) (rest := [.int r1]) (k := 2) (ci := 7) hx hb hml hown hKK hH cf7 hI.2.1.1.1 (m_X7_faces (x + 180) _ _ _ _ hw) cw_L_44 ⟨Nat.le_of_ble_eq_true rfl, Nat.le_of_ble_eq_true rfl⟩ rfl hl.1 rfl (Nat.le_of_ble_eq_true rfl) ⟨by show cells + 0 + 0 ≤ 600000; omega, by show slots + 0 + 0 ≤ 7302250; omega⟩ dL_law_433 (fun r2 h2 H locs hH hw => ?_)
  obtain ⟨er, A', hS⟩ := hw
  refine lv_icmp_eq (tgt := 1551) hx hb dL_law_436 (by decide) (fun _ => ?_) (fun c => absurd er c)
  refine W.widen (k := cells + 2) (n := slots + 20) (by show cells + 0 + 0 ≤ cells + 2; omega) (by show slots + 0 + 0 ≤ slots + 20; omega) ?_
  exact kk S sz h2 H locs A' hH hS
set_option maxHeartbeats 4000000 in
set_option maxRecDepth 100000 in
theorem lc_7 (C : LC p s m meth c b L xs Z G) {S : St} {h : Hp} {sz : Nat} {H : Heap} {locs : List Loc} {ls : Array Slot} {A : Ab} {i cells slots : Nat} (hH : HH G s.heap.size S h sz s H locs) (hl : lv_has ls 4 (LLs b x i)) (hI : SI S h x A) (hi : i + 6 ≤ L) (hc : cells + 2 ≤ 600000) (hs : slots + 20 ≤ 7302250) (kk : ∀ (S1 : St) (sz1 : Nat) (h1 : Hp) (H1 : Heap) (locs1 : List Loc) (A1 : Ab), HH G s.heap.size S1 h1 sz1 s H1 locs1 → SI S1 h1 x A1 → LW p l e s m below meth c b H1 locs1 (cells + 2) (slots + 20) (F0 m 1551 ls [])) : LW p l e s m below meth c b H locs cells slots (F0 m 441 ls []) := by
  obtain ⟨hx, hb, hml, hown, hKK, hSK, hNK, hr, hlk, hX, hbl, hL⟩ := C
  have hbA : ¬ (fun q : Nat => s.heap.size ≤ q) b := Nat.not_le.mpr hbl
  refine lv_aload_n hx hb dL_law_441 rfl (lv_at hl 1 rfl) ?_
  refine lv_aload_n hx hb dL_law_442 rfl (lv_at hl 0 rfl) ?_
  refine lv_iload_n hx hb dL_law_443 rfl (lv_at hl 3 rfl) ?_
  refine lv_iconst (v := (nI 1)) hx hb dL_law_444 (by decide) ?_
  refine lv_iadd hx hb dL_law_445 ?_
  refine va_sld hx hb hX hbl hbA hH.2 (by rw [nI_add]; exact vp_in_nI (by omega) (by omega)) dL_law_446 ?_
  refine lv_aload_n hx hb dL_law_447 rfl (lv_at hl 0 rfl) ?_
  refine lv_iload_n hx hb dL_law_448 rfl (lv_at hl 3 rfl) ?_
  refine lv_iconst (v := (nI 2)) hx hb dL_law_449 (by decide) ?_
  refine lv_iadd hx hb dL_law_450 ?_
  refine va_sld hx hb hX hbl hbA hH.2 (by rw [nI_add]; exact vp_in_nI (by omega) (by omega)) dL_law_451 ?_
  refine hv_cVI (rm := rm_X6_does) (As := [.int (xs (ix (nI i + nI 1))), .int (xs (ix (nI i + nI 2)))]) (rest := []) (k := 2) (ci := 6) hx hb hml hown hKK hH cf6 hI.1.1.1.1 (m_X6_does x _ _ _ _ (op_does hI (Q := fun r r' h2 => r = r' ∧ ∃ A', SI S h2 x A') (fun r A' h' hS => ⟨rfl, A', hS⟩))) cw_L_45 ⟨Nat.le_of_ble_eq_true rfl, Nat.le_of_ble_eq_true rfl⟩ rfl hl.1 rfl (Nat.le_of_ble_eq_true rfl) ⟨by show cells + 0 ≤ 600000; omega, by show slots + 0 ≤ 7302250; omega⟩ dL_law_452 (fun r1 h1 H locs hH hw => ?_)
  refine lv_aload_n hx hb dL_law_455 rfl (lv_at hl 2 rfl) ?_
  refine lv_aload_n hx hb dL_law_456 rfl (lv_at hl 0 rfl) ?_
  refine lv_iload_n hx hb dL_law_457 rfl (lv_at hl 3 rfl) ?_
  refine lv_iconst (v := (nI 1)) hx hb dL_law_458 (by decide) ?_
  refine lv_iadd hx hb dL_law_459 ?_
  refine va_sld hx hb hX hbl hbA hH.2 (by rw [nI_add]; exact vp_in_nI (by omega) (by omega)) dL_law_460 ?_
  refine lv_aload_n hx hb dL_law_461 rfl (lv_at hl 0 rfl) ?_
  refine lv_iload_n hx hb dL_law_462 rfl (lv_at hl 3 rfl) ?_
  refine lv_iconst (v := (nI 2)) hx hb dL_law_463 (by decide) ?_
  refine lv_iadd hx hb dL_law_464 ?_
  refine va_sld hx hb hX hbl hbA hH.2 (by rw [nI_add]; exact vp_in_nI (by omega) (by omega)) dL_law_465 ?_
  refine hv_cVI (rm := rm_X7_does) (As := [.int (xs (ix (nI i + nI 1))), .int (xs (ix (nI i + nI 2)))]) (rest := [.int r1]) (k := 2) (ci := 7) hx hb hml hown hKK hH cf7 hI.2.1.1.1 (m_X7_does (x + 180) _ _ _ _ hw) cw_L_48 ⟨Nat.le_of_ble_eq_true rfl, Nat.le_of_ble_eq_true rfl⟩ rfl hl.1 rfl (Nat.le_of_ble_eq_true rfl) ⟨by show cells + 0 + 0 ≤ 600000; omega, by show slots + 0 + 0 ≤ 7302250; omega⟩ dL_law_466 (fun r2 h2 H locs hH hw => ?_)
  obtain ⟨er, A', hS⟩ := hw
  refine lv_icmp_eq (tgt := 1551) hx hb dL_law_469 (by decide) (fun _ => ?_) (fun c => absurd er c)
  refine W.widen (k := cells + 2) (n := slots + 20) (by show cells + 0 + 0 ≤ cells + 2; omega) (by show slots + 0 + 0 ≤ slots + 20; omega) ?_
  exact kk S sz h2 H locs A' hH hS
set_option maxHeartbeats 4000000 in
set_option maxRecDepth 100000 in
theorem lc_8 (C : LC p s m meth c b L xs Z G) {S : St} {h : Hp} {sz : Nat} {H : Heap} {locs : List Loc} {ls : Array Slot} {A : Ab} {i cells slots : Nat} (hH : HH G s.heap.size S h sz s H locs) (hl : lv_has ls 4 (LLs b x i)) (hI : SI S h x A) (hi : i + 6 ≤ L) (hc : cells + 2 ≤ 600000) (hs : slots + 20 ≤ 7302250) (kk : ∀ (S1 : St) (sz1 : Nat) (h1 : Hp) (H1 : Heap) (locs1 : List Loc) (A1 : Ab), HH G s.heap.size S1 h1 sz1 s H1 locs1 → SI S1 h1 x A1 → LW p l e s m below meth c b H1 locs1 (cells + 2) (slots + 20) (F0 m 1551 ls [])) : LW p l e s m below meth c b H locs cells slots (F0 m 474 ls []) := by
  obtain ⟨hx, hb, hml, hown, hKK, hSK, hNK, hr, hlk, hX, hbl, hL⟩ := C
  have hbA : ¬ (fun q : Nat => s.heap.size ≤ q) b := Nat.not_le.mpr hbl
  refine lv_aload_n hx hb dL_law_474 rfl (lv_at hl 1 rfl) ?_
  refine lv_aload_n hx hb dL_law_475 rfl (lv_at hl 0 rfl) ?_
  refine lv_iload_n hx hb dL_law_476 rfl (lv_at hl 3 rfl) ?_
  refine lv_iconst (v := (nI 1)) hx hb dL_law_477 (by decide) ?_
  refine lv_iadd hx hb dL_law_478 ?_
  refine va_sld hx hb hX hbl hbA hH.2 (by rw [nI_add]; exact vp_in_nI (by omega) (by omega)) dL_law_479 ?_
  refine lv_aload_n hx hb dL_law_480 rfl (lv_at hl 0 rfl) ?_
  refine lv_iload_n hx hb dL_law_481 rfl (lv_at hl 3 rfl) ?_
  refine lv_iconst (v := (nI 2)) hx hb dL_law_482 (by decide) ?_
  refine lv_iadd hx hb dL_law_483 ?_
  refine va_sld hx hb hX hbl hbA hH.2 (by rw [nI_add]; exact vp_in_nI (by omega) (by omega)) dL_law_484 ?_
  refine hv_cVI (rm := rm_X6_joins) (As := [.int (xs (ix (nI i + nI 1))), .int (xs (ix (nI i + nI 2)))]) (rest := []) (k := 2) (ci := 6) hx hb hml hown hKK hH cf6 hI.1.1.1.1 (m_X6_joins x _ _ _ _ (op_joins hI (Q := fun r r' h2 => r = r' ∧ ∃ A', SI S h2 x A') (fun r A' h' hS => ⟨rfl, A', hS⟩))) cw_L_49 ⟨Nat.le_of_ble_eq_true rfl, Nat.le_of_ble_eq_true rfl⟩ rfl hl.1 rfl (Nat.le_of_ble_eq_true rfl) ⟨by show cells + 0 ≤ 600000; omega, by show slots + 0 ≤ 7302250; omega⟩ dL_law_485 (fun r1 h1 H locs hH hw => ?_)
  refine lv_aload_n hx hb dL_law_488 rfl (lv_at hl 2 rfl) ?_
  refine lv_aload_n hx hb dL_law_489 rfl (lv_at hl 0 rfl) ?_
  refine lv_iload_n hx hb dL_law_490 rfl (lv_at hl 3 rfl) ?_
  refine lv_iconst (v := (nI 1)) hx hb dL_law_491 (by decide) ?_
  refine lv_iadd hx hb dL_law_492 ?_
  refine va_sld hx hb hX hbl hbA hH.2 (by rw [nI_add]; exact vp_in_nI (by omega) (by omega)) dL_law_493 ?_
  refine lv_aload_n hx hb dL_law_494 rfl (lv_at hl 0 rfl) ?_
  refine lv_iload_n hx hb dL_law_495 rfl (lv_at hl 3 rfl) ?_
  refine lv_iconst (v := (nI 2)) hx hb dL_law_496 (by decide) ?_
  refine lv_iadd hx hb dL_law_497 ?_
  refine va_sld hx hb hX hbl hbA hH.2 (by rw [nI_add]; exact vp_in_nI (by omega) (by omega)) dL_law_498 ?_
  refine hv_cVI (rm := rm_X7_joins) (As := [.int (xs (ix (nI i + nI 1))), .int (xs (ix (nI i + nI 2)))]) (rest := [.int r1]) (k := 2) (ci := 7) hx hb hml hown hKK hH cf7 hI.2.1.1.1 (m_X7_joins (x + 180) _ _ _ _ hw) cw_L_52 ⟨Nat.le_of_ble_eq_true rfl, Nat.le_of_ble_eq_true rfl⟩ rfl hl.1 rfl (Nat.le_of_ble_eq_true rfl) ⟨by show cells + 0 + 0 ≤ 600000; omega, by show slots + 0 + 0 ≤ 7302250; omega⟩ dL_law_499 (fun r2 h2 H locs hH hw => ?_)
  obtain ⟨er, A', hS⟩ := hw
  refine lv_icmp_eq (tgt := 1551) hx hb dL_law_502 (by decide) (fun _ => ?_) (fun c => absurd er c)
  refine W.widen (k := cells + 2) (n := slots + 20) (by show cells + 0 + 0 ≤ cells + 2; omega) (by show slots + 0 + 0 ≤ slots + 20; omega) ?_
  exact kk S sz h2 H locs A' hH hS
set_option maxHeartbeats 4000000 in
set_option maxRecDepth 100000 in
theorem lc_9 (C : LC p s m meth c b L xs Z G) {S : St} {h : Hp} {sz : Nat} {H : Heap} {locs : List Loc} {ls : Array Slot} {A : Ab} {i cells slots : Nat} (hH : HH G s.heap.size S h sz s H locs) (hl : lv_has ls 4 (LLs b x i)) (hI : SI S h x A) (hi : i + 6 ≤ L) (hc : cells + 2 ≤ 600000) (hs : slots + 20 ≤ 7302250) (kk : ∀ (S1 : St) (sz1 : Nat) (h1 : Hp) (H1 : Heap) (locs1 : List Loc) (A1 : Ab), HH G s.heap.size S1 h1 sz1 s H1 locs1 → SI S1 h1 x A1 → LW p l e s m below meth c b H1 locs1 (cells + 2) (slots + 20) (F0 m 1551 ls [])) : LW p l e s m below meth c b H locs cells slots (F0 m 507 ls []) := by
  obtain ⟨hx, hb, hml, hown, hKK, hSK, hNK, hr, hlk, hX, hbl, hL⟩ := C
  have hbA : ¬ (fun q : Nat => s.heap.size ≤ q) b := Nat.not_le.mpr hbl
  refine lv_aload_n hx hb dL_law_507 rfl (lv_at hl 1 rfl) ?_
  refine lv_aload_n hx hb dL_law_508 rfl (lv_at hl 0 rfl) ?_
  refine lv_iload_n hx hb dL_law_509 rfl (lv_at hl 3 rfl) ?_
  refine lv_iconst (v := (nI 1)) hx hb dL_law_510 (by decide) ?_
  refine lv_iadd hx hb dL_law_511 ?_
  refine va_sld hx hb hX hbl hbA hH.2 (by rw [nI_add]; exact vp_in_nI (by omega) (by omega)) dL_law_512 ?_
  refine lv_aload_n hx hb dL_law_513 rfl (lv_at hl 0 rfl) ?_
  refine lv_iload_n hx hb dL_law_514 rfl (lv_at hl 3 rfl) ?_
  refine lv_iconst (v := (nI 2)) hx hb dL_law_515 (by decide) ?_
  refine lv_iadd hx hb dL_law_516 ?_
  refine va_sld hx hb hX hbl hbA hH.2 (by rw [nI_add]; exact vp_in_nI (by omega) (by omega)) dL_law_517 ?_
  refine hv_cVI (rm := rm_X6_walls) (As := [.int (xs (ix (nI i + nI 1))), .int (xs (ix (nI i + nI 2)))]) (rest := []) (k := 2) (ci := 6) hx hb hml hown hKK hH cf6 hI.1.1.1.1 (m_X6_walls x _ _ _ _ (op_walls hI (Q := fun r r' h2 => r = r' ∧ ∃ A', SI S h2 x A') (fun r A' h' hS => ⟨rfl, A', hS⟩))) cw_L_53 ⟨Nat.le_of_ble_eq_true rfl, Nat.le_of_ble_eq_true rfl⟩ rfl hl.1 rfl (Nat.le_of_ble_eq_true rfl) ⟨by show cells + 0 ≤ 600000; omega, by show slots + 0 ≤ 7302250; omega⟩ dL_law_518 (fun r1 h1 H locs hH hw => ?_)
  refine lv_aload_n hx hb dL_law_521 rfl (lv_at hl 2 rfl) ?_
  refine lv_aload_n hx hb dL_law_522 rfl (lv_at hl 0 rfl) ?_
  refine lv_iload_n hx hb dL_law_523 rfl (lv_at hl 3 rfl) ?_
  refine lv_iconst (v := (nI 1)) hx hb dL_law_524 (by decide) ?_
  refine lv_iadd hx hb dL_law_525 ?_
  refine va_sld hx hb hX hbl hbA hH.2 (by rw [nI_add]; exact vp_in_nI (by omega) (by omega)) dL_law_526 ?_
  refine lv_aload_n hx hb dL_law_527 rfl (lv_at hl 0 rfl) ?_
  refine lv_iload_n hx hb dL_law_528 rfl (lv_at hl 3 rfl) ?_
  refine lv_iconst (v := (nI 2)) hx hb dL_law_529 (by decide) ?_
  refine lv_iadd hx hb dL_law_530 ?_
  refine va_sld hx hb hX hbl hbA hH.2 (by rw [nI_add]; exact vp_in_nI (by omega) (by omega)) dL_law_531 ?_
  refine hv_cVI (rm := rm_X7_walls) (As := [.int (xs (ix (nI i + nI 1))), .int (xs (ix (nI i + nI 2)))]) (rest := [.int r1]) (k := 2) (ci := 7) hx hb hml hown hKK hH cf7 hI.2.1.1.1 (m_X7_walls (x + 180) _ _ _ _ hw) cw_L_56 ⟨Nat.le_of_ble_eq_true rfl, Nat.le_of_ble_eq_true rfl⟩ rfl hl.1 rfl (Nat.le_of_ble_eq_true rfl) ⟨by show cells + 0 + 0 ≤ 600000; omega, by show slots + 0 + 0 ≤ 7302250; omega⟩ dL_law_532 (fun r2 h2 H locs hH hw => ?_)
  obtain ⟨er, A', hS⟩ := hw
  refine lv_icmp_eq (tgt := 1551) hx hb dL_law_535 (by decide) (fun _ => ?_) (fun c => absurd er c)
  refine W.widen (k := cells + 2) (n := slots + 20) (by show cells + 0 + 0 ≤ cells + 2; omega) (by show slots + 0 + 0 ≤ slots + 20; omega) ?_
  exact kk S sz h2 H locs A' hH hS
set_option maxHeartbeats 4000000 in
set_option maxRecDepth 100000 in
theorem lc_10 (C : LC p s m meth c b L xs Z G) {S : St} {h : Hp} {sz : Nat} {H : Heap} {locs : List Loc} {ls : Array Slot} {A : Ab} {i cells slots : Nat} (hH : HH G s.heap.size S h sz s H locs) (hl : lv_has ls 4 (LLs b x i)) (hI : SI S h x A) (hi : i + 6 ≤ L) (hc : cells + 2 ≤ 600000) (hs : slots + 20 ≤ 7302250) (kk : ∀ (S1 : St) (sz1 : Nat) (h1 : Hp) (H1 : Heap) (locs1 : List Loc) (A1 : Ab), HH G s.heap.size S1 h1 sz1 s H1 locs1 → SI S1 h1 x A1 → LW p l e s m below meth c b H1 locs1 (cells + 2) (slots + 20) (F0 m 1551 ls [])) : LW p l e s m below meth c b H locs cells slots (F0 m 540 ls []) := by
  obtain ⟨hx, hb, hml, hown, hKK, hSK, hNK, hr, hlk, hX, hbl, hL⟩ := C
  have hbA : ¬ (fun q : Nat => s.heap.size ≤ q) b := Nat.not_le.mpr hbl
  refine lv_aload_n hx hb dL_law_540 rfl (lv_at hl 1 rfl) ?_
  refine lv_aload_n hx hb dL_law_541 rfl (lv_at hl 0 rfl) ?_
  refine lv_iload_n hx hb dL_law_542 rfl (lv_at hl 3 rfl) ?_
  refine lv_iconst (v := (nI 1)) hx hb dL_law_543 (by decide) ?_
  refine lv_iadd hx hb dL_law_544 ?_
  refine va_sld hx hb hX hbl hbA hH.2 (by rw [nI_add]; exact vp_in_nI (by omega) (by omega)) dL_law_545 ?_
  refine lv_aload_n hx hb dL_law_546 rfl (lv_at hl 0 rfl) ?_
  refine lv_iload_n hx hb dL_law_547 rfl (lv_at hl 3 rfl) ?_
  refine lv_iconst (v := (nI 2)) hx hb dL_law_548 (by decide) ?_
  refine lv_iadd hx hb dL_law_549 ?_
  refine va_sld hx hb hX hbl hbA hH.2 (by rw [nI_add]; exact vp_in_nI (by omega) (by omega)) dL_law_550 ?_
  refine lv_aload_n hx hb dL_law_551 rfl (lv_at hl 0 rfl) ?_
  refine lv_iload_n hx hb dL_law_552 rfl (lv_at hl 3 rfl) ?_
  refine lv_iconst (v := (nI 3)) hx hb dL_law_553 (by decide) ?_
  refine lv_iadd hx hb dL_law_554 ?_
  refine va_sld hx hb hX hbl hbA hH.2 (by rw [nI_add]; exact vp_in_nI (by omega) (by omega)) dL_law_555 ?_
  refine hv_cVI (rm := rm_X6_folk) (As := [.int (xs (ix (nI i + nI 1))), .int (xs (ix (nI i + nI 2))), .int (xs (ix (nI i + nI 3)))]) (rest := []) (k := 3) (ci := 6) hx hb hml hown hKK hH cf6 hI.1.1.1.1 (m_X6_folk x _ _ _ _ _ (op_folk hI (Q := fun r r' h2 => r = r' ∧ ∃ A', SI S h2 x A') (fun r A' h' hS => ⟨rfl, A', hS⟩))) cw_L_57 ⟨Nat.le_of_ble_eq_true rfl, Nat.le_of_ble_eq_true rfl⟩ rfl hl.1 rfl (Nat.le_of_ble_eq_true rfl) ⟨by show cells + 0 ≤ 600000; omega, by show slots + 0 ≤ 7302250; omega⟩ dL_law_556 (fun r1 h1 H locs hH hw => ?_)
  refine lv_aload_n hx hb dL_law_559 rfl (lv_at hl 2 rfl) ?_
  refine lv_aload_n hx hb dL_law_560 rfl (lv_at hl 0 rfl) ?_
  refine lv_iload_n hx hb dL_law_561 rfl (lv_at hl 3 rfl) ?_
  refine lv_iconst (v := (nI 1)) hx hb dL_law_562 (by decide) ?_
  refine lv_iadd hx hb dL_law_563 ?_
  refine va_sld hx hb hX hbl hbA hH.2 (by rw [nI_add]; exact vp_in_nI (by omega) (by omega)) dL_law_564 ?_
  refine lv_aload_n hx hb dL_law_565 rfl (lv_at hl 0 rfl) ?_
  refine lv_iload_n hx hb dL_law_566 rfl (lv_at hl 3 rfl) ?_
  refine lv_iconst (v := (nI 2)) hx hb dL_law_567 (by decide) ?_
  refine lv_iadd hx hb dL_law_568 ?_
  refine va_sld hx hb hX hbl hbA hH.2 (by rw [nI_add]; exact vp_in_nI (by omega) (by omega)) dL_law_569 ?_
  refine lv_aload_n hx hb dL_law_570 rfl (lv_at hl 0 rfl) ?_
  refine lv_iload_n hx hb dL_law_571 rfl (lv_at hl 3 rfl) ?_
  refine lv_iconst (v := (nI 3)) hx hb dL_law_572 (by decide) ?_
  refine lv_iadd hx hb dL_law_573 ?_
  refine va_sld hx hb hX hbl hbA hH.2 (by rw [nI_add]; exact vp_in_nI (by omega) (by omega)) dL_law_574 ?_
  refine hv_cVI (rm := rm_X7_folk) (As := [.int (xs (ix (nI i + nI 1))), .int (xs (ix (nI i + nI 2))), .int (xs (ix (nI i + nI 3)))]) (rest := [.int r1]) (k := 3) (ci := 7) hx hb hml hown hKK hH cf7 hI.2.1.1.1 (m_X7_folk (x + 180) _ _ _ _ _ hw) cw_L_61 ⟨Nat.le_of_ble_eq_true rfl, Nat.le_of_ble_eq_true rfl⟩ rfl hl.1 rfl (Nat.le_of_ble_eq_true rfl) ⟨by show cells + 0 + 0 ≤ 600000; omega, by show slots + 0 + 0 ≤ 7302250; omega⟩ dL_law_575 (fun r2 h2 H locs hH hw => ?_)
  obtain ⟨er, A', hS⟩ := hw
  refine lv_icmp_eq (tgt := 1551) hx hb dL_law_578 (by decide) (fun _ => ?_) (fun c => absurd er c)
  refine W.widen (k := cells + 2) (n := slots + 20) (by show cells + 0 + 0 ≤ cells + 2; omega) (by show slots + 0 + 0 ≤ slots + 20; omega) ?_
  exact kk S sz h2 H locs A' hH hS
set_option maxHeartbeats 4000000 in
set_option maxRecDepth 100000 in
theorem lc_11 (C : LC p s m meth c b L xs Z G) {S : St} {h : Hp} {sz : Nat} {H : Heap} {locs : List Loc} {ls : Array Slot} {A : Ab} {i cells slots : Nat} (hH : HH G s.heap.size S h sz s H locs) (hl : lv_has ls 4 (LLs b x i)) (hI : SI S h x A) (hi : i + 6 ≤ L) (hc : cells + 2 ≤ 600000) (hs : slots + 20 ≤ 7302250) (kk : ∀ (S1 : St) (sz1 : Nat) (h1 : Hp) (H1 : Heap) (locs1 : List Loc) (A1 : Ab), HH G s.heap.size S1 h1 sz1 s H1 locs1 → SI S1 h1 x A1 → LW p l e s m below meth c b H1 locs1 (cells + 2) (slots + 20) (F0 m 1551 ls [])) : LW p l e s m below meth c b H locs cells slots (F0 m 583 ls []) := by
  obtain ⟨hx, hb, hml, hown, hKK, hSK, hNK, hr, hlk, hX, hbl, hL⟩ := C
  have hbA : ¬ (fun q : Nat => s.heap.size ≤ q) b := Nat.not_le.mpr hbl
  refine lv_aload_n hx hb dL_law_583 rfl (lv_at hl 1 rfl) ?_
  refine lv_aload_n hx hb dL_law_584 rfl (lv_at hl 0 rfl) ?_
  refine lv_iload_n hx hb dL_law_585 rfl (lv_at hl 3 rfl) ?_
  refine lv_iconst (v := (nI 1)) hx hb dL_law_586 (by decide) ?_
  refine lv_iadd hx hb dL_law_587 ?_
  refine va_sld hx hb hX hbl hbA hH.2 (by rw [nI_add]; exact vp_in_nI (by omega) (by omega)) dL_law_588 ?_
  refine hv_cVI (rm := rm_X6_nights) (As := [.int (xs (ix (nI i + nI 1)))]) (rest := []) (k := 1) (ci := 6) hx hb hml hown hKK hH cf6 hI.1.1.1.1 (m_X6_nights x _ _ _ (op_nights hI (Q := fun r r' h2 => r = r' ∧ ∃ A', SI S h2 x A') (fun r A' h' hS => ⟨rfl, A', hS⟩))) cw_L_62 ⟨Nat.le_of_ble_eq_true rfl, Nat.le_of_ble_eq_true rfl⟩ rfl hl.1 rfl (Nat.le_of_ble_eq_true rfl) ⟨by show cells + 0 ≤ 600000; omega, by show slots + 0 ≤ 7302250; omega⟩ dL_law_589 (fun r1 h1 H locs hH hw => ?_)
  refine lv_aload_n hx hb dL_law_592 rfl (lv_at hl 2 rfl) ?_
  refine lv_aload_n hx hb dL_law_593 rfl (lv_at hl 0 rfl) ?_
  refine lv_iload_n hx hb dL_law_594 rfl (lv_at hl 3 rfl) ?_
  refine lv_iconst (v := (nI 1)) hx hb dL_law_595 (by decide) ?_
  refine lv_iadd hx hb dL_law_596 ?_
  refine va_sld hx hb hX hbl hbA hH.2 (by rw [nI_add]; exact vp_in_nI (by omega) (by omega)) dL_law_597 ?_
  refine hv_cVI (rm := rm_X7_nights) (As := [.int (xs (ix (nI i + nI 1)))]) (rest := [.int r1]) (k := 1) (ci := 7) hx hb hml hown hKK hH cf7 hI.2.1.1.1 (m_X7_nights (x + 180) _ _ _ hw) cw_L_65 ⟨Nat.le_of_ble_eq_true rfl, Nat.le_of_ble_eq_true rfl⟩ rfl hl.1 rfl (Nat.le_of_ble_eq_true rfl) ⟨by show cells + 0 + 0 ≤ 600000; omega, by show slots + 0 + 0 ≤ 7302250; omega⟩ dL_law_598 (fun r2 h2 H locs hH hw => ?_)
  obtain ⟨er, A', hS⟩ := hw
  refine lv_icmp_eq (tgt := 1551) hx hb dL_law_601 (by decide) (fun _ => ?_) (fun c => absurd er c)
  refine W.widen (k := cells + 2) (n := slots + 20) (by show cells + 0 + 0 ≤ cells + 2; omega) (by show slots + 0 + 0 ≤ slots + 20; omega) ?_
  exact kk S sz h2 H locs A' hH hS
set_option maxHeartbeats 4000000 in
set_option maxRecDepth 100000 in
theorem lc_12 (C : LC p s m meth c b L xs Z G) {S : St} {h : Hp} {sz : Nat} {H : Heap} {locs : List Loc} {ls : Array Slot} {A : Ab} {i cells slots : Nat} (hH : HH G s.heap.size S h sz s H locs) (hl : lv_has ls 4 (LLs b x i)) (hI : SI S h x A) (hi : i + 6 ≤ L) (hc : cells + 2 ≤ 600000) (hs : slots + 20 ≤ 7302250) (kk : ∀ (S1 : St) (sz1 : Nat) (h1 : Hp) (H1 : Heap) (locs1 : List Loc) (A1 : Ab), HH G s.heap.size S1 h1 sz1 s H1 locs1 → SI S1 h1 x A1 → LW p l e s m below meth c b H1 locs1 (cells + 2) (slots + 20) (F0 m 1551 ls [])) : LW p l e s m below meth c b H locs cells slots (F0 m 606 ls []) := by
  obtain ⟨hx, hb, hml, hown, hKK, hSK, hNK, hr, hlk, hX, hbl, hL⟩ := C
  have hbA : ¬ (fun q : Nat => s.heap.size ≤ q) b := Nat.not_le.mpr hbl
  refine lv_aload_n hx hb dL_law_606 rfl (lv_at hl 1 rfl) ?_
  refine hv_cVI (rm := rm_X6_back) (As := []) (rest := []) (k := 0) (ci := 6) hx hb hml hown hKK hH cf6 hI.1.1.1.1 (m_X6_back x  _ _ (op_back hI (Q := fun r r' h2 => r = r' ∧ ∃ A', SI S h2 x A') (fun r A' h' hS => ⟨rfl, A', hS⟩))) cw_L_66 ⟨Nat.le_of_ble_eq_true rfl, Nat.le_of_ble_eq_true rfl⟩ rfl hl.1 rfl (Nat.le_of_ble_eq_true rfl) ⟨by show cells + 0 ≤ 600000; omega, by show slots + 0 ≤ 7302250; omega⟩ dL_law_607 (fun r1 h1 H locs hH hw => ?_)
  refine lv_aload_n hx hb dL_law_610 rfl (lv_at hl 2 rfl) ?_
  refine hv_cVI (rm := rm_X7_back) (As := []) (rest := [.int r1]) (k := 0) (ci := 7) hx hb hml hown hKK hH cf7 hI.2.1.1.1 (m_X7_back (x + 180)  _ _ hw) cw_L_69 ⟨Nat.le_of_ble_eq_true rfl, Nat.le_of_ble_eq_true rfl⟩ rfl hl.1 rfl (Nat.le_of_ble_eq_true rfl) ⟨by show cells + 0 + 0 ≤ 600000; omega, by show slots + 0 + 0 ≤ 7302250; omega⟩ dL_law_611 (fun r2 h2 H locs hH hw => ?_)
  obtain ⟨er, A', hS⟩ := hw
  refine lv_icmp_eq (tgt := 1551) hx hb dL_law_614 (by decide) (fun _ => ?_) (fun c => absurd er c)
  refine W.widen (k := cells + 2) (n := slots + 20) (by show cells + 0 + 0 ≤ cells + 2; omega) (by show slots + 0 + 0 ≤ slots + 20; omega) ?_
  exact kk S sz h2 H locs A' hH hS
set_option maxHeartbeats 4000000 in
set_option maxRecDepth 100000 in
theorem lc_13 (C : LC p s m meth c b L xs Z G) {S : St} {h : Hp} {sz : Nat} {H : Heap} {locs : List Loc} {ls : Array Slot} {A : Ab} {i cells slots : Nat} (hH : HH G s.heap.size S h sz s H locs) (hl : lv_has ls 4 (LLs b x i)) (hI : SI S h x A) (hi : i + 6 ≤ L) (hc : cells + 2 ≤ 600000) (hs : slots + 20 ≤ 7302250) (kk : ∀ (S1 : St) (sz1 : Nat) (h1 : Hp) (H1 : Heap) (locs1 : List Loc) (A1 : Ab), HH G s.heap.size S1 h1 sz1 s H1 locs1 → SI S1 h1 x A1 → LW p l e s m below meth c b H1 locs1 (cells + 2) (slots + 20) (F0 m 1551 ls [])) : LW p l e s m below meth c b H locs cells slots (F0 m 619 ls []) := by
  obtain ⟨hx, hb, hml, hown, hKK, hSK, hNK, hr, hlk, hX, hbl, hL⟩ := C
  have hbA : ¬ (fun q : Nat => s.heap.size ≤ q) b := Nat.not_le.mpr hbl
  refine lv_aload_n hx hb dL_law_619 rfl (lv_at hl 1 rfl) ?_
  refine lv_aload_n hx hb dL_law_620 rfl (lv_at hl 0 rfl) ?_
  refine lv_iload_n hx hb dL_law_621 rfl (lv_at hl 3 rfl) ?_
  refine lv_iconst (v := (nI 1)) hx hb dL_law_622 (by decide) ?_
  refine lv_iadd hx hb dL_law_623 ?_
  refine va_sld hx hb hX hbl hbA hH.2 (by rw [nI_add]; exact vp_in_nI (by omega) (by omega)) dL_law_624 ?_
  refine lv_aload_n hx hb dL_law_625 rfl (lv_at hl 0 rfl) ?_
  refine lv_iload_n hx hb dL_law_626 rfl (lv_at hl 3 rfl) ?_
  refine lv_iconst (v := (nI 2)) hx hb dL_law_627 (by decide) ?_
  refine lv_iadd hx hb dL_law_628 ?_
  refine va_sld hx hb hX hbl hbA hH.2 (by rw [nI_add]; exact vp_in_nI (by omega) (by omega)) dL_law_629 ?_
  refine lv_aload_n hx hb dL_law_630 rfl (lv_at hl 0 rfl) ?_
  refine lv_iload_n hx hb dL_law_631 rfl (lv_at hl 3 rfl) ?_
  refine lv_iconst (v := (nI 3)) hx hb dL_law_632 (by decide) ?_
  refine lv_iadd hx hb dL_law_633 ?_
  refine va_sld hx hb hX hbl hbA hH.2 (by rw [nI_add]; exact vp_in_nI (by omega) (by omega)) dL_law_634 ?_
  refine hv_cVI (rm := rm_X6_headThen) (As := [.int (xs (ix (nI i + nI 1))), .int (xs (ix (nI i + nI 2))), .int (xs (ix (nI i + nI 3)))]) (rest := []) (k := 3) (ci := 6) hx hb hml hown hKK hH cf6 hI.1.1.1.1 (m_X6_headThen x _ _ _ _ _ (op_headThen hI (Q := fun r r' h2 => r = r' ∧ ∃ A', SI S h2 x A') (fun r A' h' hS => ⟨rfl, A', hS⟩))) cw_L_70 ⟨Nat.le_of_ble_eq_true rfl, Nat.le_of_ble_eq_true rfl⟩ rfl hl.1 rfl (Nat.le_of_ble_eq_true rfl) ⟨by show cells + 0 ≤ 600000; omega, by show slots + 0 ≤ 7302250; omega⟩ dL_law_635 (fun r1 h1 H locs hH hw => ?_)
  refine lv_aload_n hx hb dL_law_638 rfl (lv_at hl 2 rfl) ?_
  refine lv_aload_n hx hb dL_law_639 rfl (lv_at hl 0 rfl) ?_
  refine lv_iload_n hx hb dL_law_640 rfl (lv_at hl 3 rfl) ?_
  refine lv_iconst (v := (nI 1)) hx hb dL_law_641 (by decide) ?_
  refine lv_iadd hx hb dL_law_642 ?_
  refine va_sld hx hb hX hbl hbA hH.2 (by rw [nI_add]; exact vp_in_nI (by omega) (by omega)) dL_law_643 ?_
  refine lv_aload_n hx hb dL_law_644 rfl (lv_at hl 0 rfl) ?_
  refine lv_iload_n hx hb dL_law_645 rfl (lv_at hl 3 rfl) ?_
  refine lv_iconst (v := (nI 2)) hx hb dL_law_646 (by decide) ?_
  refine lv_iadd hx hb dL_law_647 ?_
  refine va_sld hx hb hX hbl hbA hH.2 (by rw [nI_add]; exact vp_in_nI (by omega) (by omega)) dL_law_648 ?_
  refine lv_aload_n hx hb dL_law_649 rfl (lv_at hl 0 rfl) ?_
  refine lv_iload_n hx hb dL_law_650 rfl (lv_at hl 3 rfl) ?_
  refine lv_iconst (v := (nI 3)) hx hb dL_law_651 (by decide) ?_
  refine lv_iadd hx hb dL_law_652 ?_
  refine va_sld hx hb hX hbl hbA hH.2 (by rw [nI_add]; exact vp_in_nI (by omega) (by omega)) dL_law_653 ?_
  refine hv_cVI (rm := rm_X7_headThen) (As := [.int (xs (ix (nI i + nI 1))), .int (xs (ix (nI i + nI 2))), .int (xs (ix (nI i + nI 3)))]) (rest := [.int r1]) (k := 3) (ci := 7) hx hb hml hown hKK hH cf7 hI.2.1.1.1 (m_X7_headThen (x + 180) _ _ _ _ _ hw) cw_L_73 ⟨Nat.le_of_ble_eq_true rfl, Nat.le_of_ble_eq_true rfl⟩ rfl hl.1 rfl (Nat.le_of_ble_eq_true rfl) ⟨by show cells + 0 + 0 ≤ 600000; omega, by show slots + 0 + 0 ≤ 7302250; omega⟩ dL_law_654 (fun r2 h2 H locs hH hw => ?_)
  obtain ⟨er, A', hS⟩ := hw
  refine lv_icmp_eq (tgt := 1551) hx hb dL_law_657 (by decide) (fun _ => ?_) (fun c => absurd er c)
  refine W.widen (k := cells + 2) (n := slots + 20) (by show cells + 0 + 0 ≤ cells + 2; omega) (by show slots + 0 + 0 ≤ slots + 20; omega) ?_
  exact kk S sz h2 H locs A' hH hS
set_option maxHeartbeats 4000000 in
set_option maxRecDepth 100000 in
theorem lc_14 (C : LC p s m meth c b L xs Z G) {S : St} {h : Hp} {sz : Nat} {H : Heap} {locs : List Loc} {ls : Array Slot} {A : Ab} {i cells slots : Nat} (hH : HH G s.heap.size S h sz s H locs) (hl : lv_has ls 4 (LLs b x i)) (hI : SI S h x A) (hi : i + 6 ≤ L) (hc : cells + 2 ≤ 600000) (hs : slots + 20 ≤ 7302250) (kk : ∀ (S1 : St) (sz1 : Nat) (h1 : Hp) (H1 : Heap) (locs1 : List Loc) (A1 : Ab), HH G s.heap.size S1 h1 sz1 s H1 locs1 → SI S1 h1 x A1 → LW p l e s m below meth c b H1 locs1 (cells + 2) (slots + 20) (F0 m 1551 ls [])) : LW p l e s m below meth c b H locs cells slots (F0 m 662 ls []) := by
  obtain ⟨hx, hb, hml, hown, hKK, hSK, hNK, hr, hlk, hX, hbl, hL⟩ := C
  have hbA : ¬ (fun q : Nat => s.heap.size ≤ q) b := Nat.not_le.mpr hbl
  refine lv_aload_n hx hb dL_law_662 rfl (lv_at hl 1 rfl) ?_
  refine lv_aload_n hx hb dL_law_663 rfl (lv_at hl 0 rfl) ?_
  refine lv_iload_n hx hb dL_law_664 rfl (lv_at hl 3 rfl) ?_
  refine lv_iconst (v := (nI 1)) hx hb dL_law_665 (by decide) ?_
  refine lv_iadd hx hb dL_law_666 ?_
  refine va_sld hx hb hX hbl hbA hH.2 (by rw [nI_add]; exact vp_in_nI (by omega) (by omega)) dL_law_667 ?_
  refine lv_aload_n hx hb dL_law_668 rfl (lv_at hl 0 rfl) ?_
  refine lv_iload_n hx hb dL_law_669 rfl (lv_at hl 3 rfl) ?_
  refine lv_iconst (v := (nI 2)) hx hb dL_law_670 (by decide) ?_
  refine lv_iadd hx hb dL_law_671 ?_
  refine va_sld hx hb hX hbl hbA hH.2 (by rw [nI_add]; exact vp_in_nI (by omega) (by omega)) dL_law_672 ?_
  refine hv_cVI (rm := rm_X6_then) (As := [.int (xs (ix (nI i + nI 1))), .int (xs (ix (nI i + nI 2)))]) (rest := []) (k := 2) (ci := 6) hx hb hml hown hKK hH cf6 hI.1.1.1.1 (m_X6_then x _ _ _ _ (op_then hI (Q := fun r r' h2 => r = r' ∧ ∃ A', SI S h2 x A') (fun r A' h' hS => ⟨rfl, A', hS⟩))) cw_L_74 ⟨Nat.le_of_ble_eq_true rfl, Nat.le_of_ble_eq_true rfl⟩ rfl hl.1 rfl (Nat.le_of_ble_eq_true rfl) ⟨by show cells + 0 ≤ 600000; omega, by show slots + 0 ≤ 7302250; omega⟩ dL_law_673 (fun r1 h1 H locs hH hw => ?_)
  refine lv_aload_n hx hb dL_law_676 rfl (lv_at hl 2 rfl) ?_
  refine lv_aload_n hx hb dL_law_677 rfl (lv_at hl 0 rfl) ?_
  refine lv_iload_n hx hb dL_law_678 rfl (lv_at hl 3 rfl) ?_
  refine lv_iconst (v := (nI 1)) hx hb dL_law_679 (by decide) ?_
  refine lv_iadd hx hb dL_law_680 ?_
  refine va_sld hx hb hX hbl hbA hH.2 (by rw [nI_add]; exact vp_in_nI (by omega) (by omega)) dL_law_681 ?_
  refine lv_aload_n hx hb dL_law_682 rfl (lv_at hl 0 rfl) ?_
  refine lv_iload_n hx hb dL_law_683 rfl (lv_at hl 3 rfl) ?_
  refine lv_iconst (v := (nI 2)) hx hb dL_law_684 (by decide) ?_
  refine lv_iadd hx hb dL_law_685 ?_
  refine va_sld hx hb hX hbl hbA hH.2 (by rw [nI_add]; exact vp_in_nI (by omega) (by omega)) dL_law_686 ?_
  refine hv_cVI (rm := rm_X7_then) (As := [.int (xs (ix (nI i + nI 1))), .int (xs (ix (nI i + nI 2)))]) (rest := [.int r1]) (k := 2) (ci := 7) hx hb hml hown hKK hH cf7 hI.2.1.1.1 (m_X7_then (x + 180) _ _ _ _ hw) cw_L_77 ⟨Nat.le_of_ble_eq_true rfl, Nat.le_of_ble_eq_true rfl⟩ rfl hl.1 rfl (Nat.le_of_ble_eq_true rfl) ⟨by show cells + 0 + 0 ≤ 600000; omega, by show slots + 0 + 0 ≤ 7302250; omega⟩ dL_law_687 (fun r2 h2 H locs hH hw => ?_)
  obtain ⟨er, A', hS⟩ := hw
  refine lv_icmp_eq (tgt := 1551) hx hb dL_law_690 (by decide) (fun _ => ?_) (fun c => absurd er c)
  refine W.widen (k := cells + 2) (n := slots + 20) (by show cells + 0 + 0 ≤ cells + 2; omega) (by show slots + 0 + 0 ≤ slots + 20; omega) ?_
  exact kk S sz h2 H locs A' hH hS
set_option maxHeartbeats 4000000 in
set_option maxRecDepth 100000 in
theorem lc_15 (C : LC p s m meth c b L xs Z G) {S : St} {h : Hp} {sz : Nat} {H : Heap} {locs : List Loc} {ls : Array Slot} {A : Ab} {i cells slots : Nat} (hH : HH G s.heap.size S h sz s H locs) (hl : lv_has ls 4 (LLs b x i)) (hI : SI S h x A) (hi : i + 6 ≤ L) (hc : cells + 2 ≤ 600000) (hs : slots + 20 ≤ 7302250) (kk : ∀ (S1 : St) (sz1 : Nat) (h1 : Hp) (H1 : Heap) (locs1 : List Loc) (A1 : Ab), HH G s.heap.size S1 h1 sz1 s H1 locs1 → SI S1 h1 x A1 → LW p l e s m below meth c b H1 locs1 (cells + 2) (slots + 20) (F0 m 1551 ls [])) : LW p l e s m below meth c b H locs cells slots (F0 m 695 ls []) := by
  obtain ⟨hx, hb, hml, hown, hKK, hSK, hNK, hr, hlk, hX, hbl, hL⟩ := C
  have hbA : ¬ (fun q : Nat => s.heap.size ≤ q) b := Nat.not_le.mpr hbl
  refine lv_aload_n hx hb dL_law_695 rfl (lv_at hl 1 rfl) ?_
  refine lv_aload_n hx hb dL_law_696 rfl (lv_at hl 0 rfl) ?_
  refine lv_iload_n hx hb dL_law_697 rfl (lv_at hl 3 rfl) ?_
  refine lv_iconst (v := (nI 1)) hx hb dL_law_698 (by decide) ?_
  refine lv_iadd hx hb dL_law_699 ?_
  refine va_sld hx hb hX hbl hbA hH.2 (by rw [nI_add]; exact vp_in_nI (by omega) (by omega)) dL_law_700 ?_
  refine lv_aload_n hx hb dL_law_701 rfl (lv_at hl 0 rfl) ?_
  refine lv_iload_n hx hb dL_law_702 rfl (lv_at hl 3 rfl) ?_
  refine lv_iconst (v := (nI 2)) hx hb dL_law_703 (by decide) ?_
  refine lv_iadd hx hb dL_law_704 ?_
  refine va_sld hx hb hX hbl hbA hH.2 (by rw [nI_add]; exact vp_in_nI (by omega) (by omega)) dL_law_705 ?_
  refine hv_cVI (rm := rm_X6_when) (As := [.int (xs (ix (nI i + nI 1))), .int (xs (ix (nI i + nI 2)))]) (rest := []) (k := 2) (ci := 6) hx hb hml hown hKK hH cf6 hI.1.1.1.1 (m_X6_when x _ _ _ _ (op_when hI (Q := fun r r' h2 => r = r' ∧ ∃ A', SI S h2 x A') (fun r A' h' hS => ⟨rfl, A', hS⟩))) cw_L_78 ⟨Nat.le_of_ble_eq_true rfl, Nat.le_of_ble_eq_true rfl⟩ rfl hl.1 rfl (Nat.le_of_ble_eq_true rfl) ⟨by show cells + 0 ≤ 600000; omega, by show slots + 0 ≤ 7302250; omega⟩ dL_law_706 (fun r1 h1 H locs hH hw => ?_)
  refine lv_aload_n hx hb dL_law_709 rfl (lv_at hl 2 rfl) ?_
  refine lv_aload_n hx hb dL_law_710 rfl (lv_at hl 0 rfl) ?_
  refine lv_iload_n hx hb dL_law_711 rfl (lv_at hl 3 rfl) ?_
  refine lv_iconst (v := (nI 1)) hx hb dL_law_712 (by decide) ?_
  refine lv_iadd hx hb dL_law_713 ?_
  refine va_sld hx hb hX hbl hbA hH.2 (by rw [nI_add]; exact vp_in_nI (by omega) (by omega)) dL_law_714 ?_
  refine lv_aload_n hx hb dL_law_715 rfl (lv_at hl 0 rfl) ?_
  refine lv_iload_n hx hb dL_law_716 rfl (lv_at hl 3 rfl) ?_
  refine lv_iconst (v := (nI 2)) hx hb dL_law_717 (by decide) ?_
  refine lv_iadd hx hb dL_law_718 ?_
  refine va_sld hx hb hX hbl hbA hH.2 (by rw [nI_add]; exact vp_in_nI (by omega) (by omega)) dL_law_719 ?_
  refine hv_cVI (rm := rm_X7_when) (As := [.int (xs (ix (nI i + nI 1))), .int (xs (ix (nI i + nI 2)))]) (rest := [.int r1]) (k := 2) (ci := 7) hx hb hml hown hKK hH cf7 hI.2.1.1.1 (m_X7_when (x + 180) _ _ _ _ hw) cw_L_81 ⟨Nat.le_of_ble_eq_true rfl, Nat.le_of_ble_eq_true rfl⟩ rfl hl.1 rfl (Nat.le_of_ble_eq_true rfl) ⟨by show cells + 0 + 0 ≤ 600000; omega, by show slots + 0 + 0 ≤ 7302250; omega⟩ dL_law_720 (fun r2 h2 H locs hH hw => ?_)
  obtain ⟨er, A', hS⟩ := hw
  refine lv_icmp_eq (tgt := 1551) hx hb dL_law_723 (by decide) (fun _ => ?_) (fun c => absurd er c)
  refine W.widen (k := cells + 2) (n := slots + 20) (by show cells + 0 + 0 ≤ cells + 2; omega) (by show slots + 0 + 0 ≤ slots + 20; omega) ?_
  exact kk S sz h2 H locs A' hH hS
set_option maxHeartbeats 4000000 in
set_option maxRecDepth 100000 in
theorem lc_16 (C : LC p s m meth c b L xs Z G) {S : St} {h : Hp} {sz : Nat} {H : Heap} {locs : List Loc} {ls : Array Slot} {A : Ab} {i cells slots : Nat} (hH : HH G s.heap.size S h sz s H locs) (hl : lv_has ls 4 (LLs b x i)) (hI : SI S h x A) (hi : i + 6 ≤ L) (hc : cells + 2 ≤ 600000) (hs : slots + 20 ≤ 7302250) (kk : ∀ (S1 : St) (sz1 : Nat) (h1 : Hp) (H1 : Heap) (locs1 : List Loc) (A1 : Ab), HH G s.heap.size S1 h1 sz1 s H1 locs1 → SI S1 h1 x A1 → LW p l e s m below meth c b H1 locs1 (cells + 2) (slots + 20) (F0 m 1551 ls [])) : LW p l e s m below meth c b H locs cells slots (F0 m 728 ls []) := by
  obtain ⟨hx, hb, hml, hown, hKK, hSK, hNK, hr, hlk, hX, hbl, hL⟩ := C
  have hbA : ¬ (fun q : Nat => s.heap.size ≤ q) b := Nat.not_le.mpr hbl
  refine lv_aload_n hx hb dL_law_728 rfl (lv_at hl 1 rfl) ?_
  refine lv_aload_n hx hb dL_law_729 rfl (lv_at hl 0 rfl) ?_
  refine lv_iload_n hx hb dL_law_730 rfl (lv_at hl 3 rfl) ?_
  refine lv_iconst (v := (nI 1)) hx hb dL_law_731 (by decide) ?_
  refine lv_iadd hx hb dL_law_732 ?_
  refine va_sld hx hb hX hbl hbA hH.2 (by rw [nI_add]; exact vp_in_nI (by omega) (by omega)) dL_law_733 ?_
  refine hv_cVI (rm := rm_X6_settles) (As := [.int (xs (ix (nI i + nI 1)))]) (rest := []) (k := 1) (ci := 6) hx hb hml hown hKK hH cf6 hI.1.1.1.1 (m_X6_settles x _ _ _ (op_settles hI (Q := fun r r' h2 => r = r' ∧ ∃ A', SI S h2 x A') (fun r A' h' hS => ⟨rfl, A', hS⟩))) cw_L_82 ⟨Nat.le_of_ble_eq_true rfl, Nat.le_of_ble_eq_true rfl⟩ rfl hl.1 rfl (Nat.le_of_ble_eq_true rfl) ⟨by show cells + 0 ≤ 600000; omega, by show slots + 0 ≤ 7302250; omega⟩ dL_law_734 (fun r1 h1 H locs hH hw => ?_)
  refine lv_aload_n hx hb dL_law_737 rfl (lv_at hl 2 rfl) ?_
  refine lv_aload_n hx hb dL_law_738 rfl (lv_at hl 0 rfl) ?_
  refine lv_iload_n hx hb dL_law_739 rfl (lv_at hl 3 rfl) ?_
  refine lv_iconst (v := (nI 1)) hx hb dL_law_740 (by decide) ?_
  refine lv_iadd hx hb dL_law_741 ?_
  refine va_sld hx hb hX hbl hbA hH.2 (by rw [nI_add]; exact vp_in_nI (by omega) (by omega)) dL_law_742 ?_
  refine hv_cVI (rm := rm_X7_settles) (As := [.int (xs (ix (nI i + nI 1)))]) (rest := [.int r1]) (k := 1) (ci := 7) hx hb hml hown hKK hH cf7 hI.2.1.1.1 (m_X7_settles (x + 180) _ _ _ hw) cw_L_85 ⟨Nat.le_of_ble_eq_true rfl, Nat.le_of_ble_eq_true rfl⟩ rfl hl.1 rfl (Nat.le_of_ble_eq_true rfl) ⟨by show cells + 0 + 0 ≤ 600000; omega, by show slots + 0 + 0 ≤ 7302250; omega⟩ dL_law_743 (fun r2 h2 H locs hH hw => ?_)
  obtain ⟨er, A', hS⟩ := hw
  refine lv_icmp_eq (tgt := 1551) hx hb dL_law_746 (by decide) (fun _ => ?_) (fun c => absurd er c)
  refine W.widen (k := cells + 2) (n := slots + 20) (by show cells + 0 + 0 ≤ cells + 2; omega) (by show slots + 0 + 0 ≤ slots + 20; omega) ?_
  exact kk S sz h2 H locs A' hH hS
set_option maxHeartbeats 4000000 in
set_option maxRecDepth 100000 in
theorem lc_17 (C : LC p s m meth c b L xs Z G) {S : St} {h : Hp} {sz : Nat} {H : Heap} {locs : List Loc} {ls : Array Slot} {A : Ab} {i cells slots : Nat} (hH : HH G s.heap.size S h sz s H locs) (hl : lv_has ls 4 (LLs b x i)) (hI : SI S h x A) (hi : i + 6 ≤ L) (hc : cells + 2 ≤ 600000) (hs : slots + 20 ≤ 7302250) (kk : ∀ (S1 : St) (sz1 : Nat) (h1 : Hp) (H1 : Heap) (locs1 : List Loc) (A1 : Ab), HH G s.heap.size S1 h1 sz1 s H1 locs1 → SI S1 h1 x A1 → LW p l e s m below meth c b H1 locs1 (cells + 2) (slots + 20) (F0 m 1551 ls [])) : LW p l e s m below meth c b H locs cells slots (F0 m 751 ls []) := by
  obtain ⟨hx, hb, hml, hown, hKK, hSK, hNK, hr, hlk, hX, hbl, hL⟩ := C
  have hbA : ¬ (fun q : Nat => s.heap.size ≤ q) b := Nat.not_le.mpr hbl
  refine lv_aload_n hx hb dL_law_751 rfl (lv_at hl 1 rfl) ?_
  refine lv_aload_n hx hb dL_law_752 rfl (lv_at hl 0 rfl) ?_
  refine lv_iload_n hx hb dL_law_753 rfl (lv_at hl 3 rfl) ?_
  refine lv_iconst (v := (nI 1)) hx hb dL_law_754 (by decide) ?_
  refine lv_iadd hx hb dL_law_755 ?_
  refine va_sld hx hb hX hbl hbA hH.2 (by rw [nI_add]; exact vp_in_nI (by omega) (by omega)) dL_law_756 ?_
  refine lv_aload_n hx hb dL_law_757 rfl (lv_at hl 0 rfl) ?_
  refine lv_iload_n hx hb dL_law_758 rfl (lv_at hl 3 rfl) ?_
  refine lv_iconst (v := (nI 2)) hx hb dL_law_759 (by decide) ?_
  refine lv_iadd hx hb dL_law_760 ?_
  refine va_sld hx hb hX hbl hbA hH.2 (by rw [nI_add]; exact vp_in_nI (by omega) (by omega)) dL_law_761 ?_
  refine hv_cVI (rm := rm_X6_meeting) (As := [.int (xs (ix (nI i + nI 1))), .int (xs (ix (nI i + nI 2)))]) (rest := []) (k := 2) (ci := 6) hx hb hml hown hKK hH cf6 hI.1.1.1.1 (m_X6_meeting x _ _ _ _ (op_meeting hI (Q := fun r r' h2 => r = r' ∧ ∃ A', SI S h2 x A') (fun r A' h' hS => ⟨rfl, A', hS⟩))) cw_L_86 ⟨Nat.le_of_ble_eq_true rfl, Nat.le_of_ble_eq_true rfl⟩ rfl hl.1 rfl (Nat.le_of_ble_eq_true rfl) ⟨by show cells + 0 ≤ 600000; omega, by show slots + 0 ≤ 7302250; omega⟩ dL_law_762 (fun r1 h1 H locs hH hw => ?_)
  refine lv_aload_n hx hb dL_law_765 rfl (lv_at hl 2 rfl) ?_
  refine lv_aload_n hx hb dL_law_766 rfl (lv_at hl 0 rfl) ?_
  refine lv_iload_n hx hb dL_law_767 rfl (lv_at hl 3 rfl) ?_
  refine lv_iconst (v := (nI 1)) hx hb dL_law_768 (by decide) ?_
  refine lv_iadd hx hb dL_law_769 ?_
  refine va_sld hx hb hX hbl hbA hH.2 (by rw [nI_add]; exact vp_in_nI (by omega) (by omega)) dL_law_770 ?_
  refine lv_aload_n hx hb dL_law_771 rfl (lv_at hl 0 rfl) ?_
  refine lv_iload_n hx hb dL_law_772 rfl (lv_at hl 3 rfl) ?_
  refine lv_iconst (v := (nI 2)) hx hb dL_law_773 (by decide) ?_
  refine lv_iadd hx hb dL_law_774 ?_
  refine va_sld hx hb hX hbl hbA hH.2 (by rw [nI_add]; exact vp_in_nI (by omega) (by omega)) dL_law_775 ?_
  refine hv_cVI (rm := rm_X7_meeting) (As := [.int (xs (ix (nI i + nI 1))), .int (xs (ix (nI i + nI 2)))]) (rest := [.int r1]) (k := 2) (ci := 7) hx hb hml hown hKK hH cf7 hI.2.1.1.1 (m_X7_meeting (x + 180) _ _ _ _ hw) cw_L_89 ⟨Nat.le_of_ble_eq_true rfl, Nat.le_of_ble_eq_true rfl⟩ rfl hl.1 rfl (Nat.le_of_ble_eq_true rfl) ⟨by show cells + 0 + 0 ≤ 600000; omega, by show slots + 0 + 0 ≤ 7302250; omega⟩ dL_law_776 (fun r2 h2 H locs hH hw => ?_)
  obtain ⟨er, A', hS⟩ := hw
  refine lv_icmp_eq (tgt := 1551) hx hb dL_law_779 (by decide) (fun _ => ?_) (fun c => absurd er c)
  refine W.widen (k := cells + 2) (n := slots + 20) (by show cells + 0 + 0 ≤ cells + 2; omega) (by show slots + 0 + 0 ≤ slots + 20; omega) ?_
  exact kk S sz h2 H locs A' hH hS
set_option maxHeartbeats 4000000 in
set_option maxRecDepth 100000 in
theorem lc_18 (C : LC p s m meth c b L xs Z G) {S : St} {h : Hp} {sz : Nat} {H : Heap} {locs : List Loc} {ls : Array Slot} {A : Ab} {i cells slots : Nat} (hH : HH G s.heap.size S h sz s H locs) (hl : lv_has ls 4 (LLs b x i)) (hI : SI S h x A) (hi : i + 6 ≤ L) (hc : cells + 2 ≤ 600000) (hs : slots + 20 ≤ 7302250) (kk : ∀ (S1 : St) (sz1 : Nat) (h1 : Hp) (H1 : Heap) (locs1 : List Loc) (A1 : Ab), HH G s.heap.size S1 h1 sz1 s H1 locs1 → SI S1 h1 x A1 → LW p l e s m below meth c b H1 locs1 (cells + 2) (slots + 20) (F0 m 1551 ls [])) : LW p l e s m below meth c b H locs cells slots (F0 m 784 ls []) := by
  obtain ⟨hx, hb, hml, hown, hKK, hSK, hNK, hr, hlk, hX, hbl, hL⟩ := C
  have hbA : ¬ (fun q : Nat => s.heap.size ≤ q) b := Nat.not_le.mpr hbl
  refine lv_aload_n hx hb dL_law_784 rfl (lv_at hl 1 rfl) ?_
  refine lv_aload_n hx hb dL_law_785 rfl (lv_at hl 0 rfl) ?_
  refine lv_iload_n hx hb dL_law_786 rfl (lv_at hl 3 rfl) ?_
  refine lv_iconst (v := (nI 1)) hx hb dL_law_787 (by decide) ?_
  refine lv_iadd hx hb dL_law_788 ?_
  refine va_sld hx hb hX hbl hbA hH.2 (by rw [nI_add]; exact vp_in_nI (by omega) (by omega)) dL_law_789 ?_
  refine lv_aload_n hx hb dL_law_790 rfl (lv_at hl 0 rfl) ?_
  refine lv_iload_n hx hb dL_law_791 rfl (lv_at hl 3 rfl) ?_
  refine lv_iconst (v := (nI 2)) hx hb dL_law_792 (by decide) ?_
  refine lv_iadd hx hb dL_law_793 ?_
  refine va_sld hx hb hX hbl hbA hH.2 (by rw [nI_add]; exact vp_in_nI (by omega) (by omega)) dL_law_794 ?_
  refine lv_aload_n hx hb dL_law_795 rfl (lv_at hl 0 rfl) ?_
  refine lv_iload_n hx hb dL_law_796 rfl (lv_at hl 3 rfl) ?_
  refine lv_iconst (v := (nI 3)) hx hb dL_law_797 (by decide) ?_
  refine lv_iadd hx hb dL_law_798 ?_
  refine va_sld hx hb hX hbl hbA hH.2 (by rw [nI_add]; exact vp_in_nI (by omega) (by omega)) dL_law_799 ?_
  refine hv_cVI (rm := rm_X6_bestWord) (As := [.int (xs (ix (nI i + nI 1))), .int (xs (ix (nI i + nI 2))), .int (xs (ix (nI i + nI 3)))]) (rest := []) (k := 3) (ci := 6) hx hb hml hown hKK hH cf6 hI.1.1.1.1 (m_X6_bestWord x _ _ _ _ _ (op_bestWord hI (Q := fun r r' h2 => r = r' ∧ ∃ A', SI S h2 x A') (fun r A' h' hS => ⟨rfl, A', hS⟩))) cw_L_90 ⟨Nat.le_of_ble_eq_true rfl, Nat.le_of_ble_eq_true rfl⟩ rfl hl.1 rfl (Nat.le_of_ble_eq_true rfl) ⟨by show cells + 0 ≤ 600000; omega, by show slots + 0 ≤ 7302250; omega⟩ dL_law_800 (fun r1 h1 H locs hH hw => ?_)
  refine lv_aload_n hx hb dL_law_803 rfl (lv_at hl 2 rfl) ?_
  refine lv_aload_n hx hb dL_law_804 rfl (lv_at hl 0 rfl) ?_
  refine lv_iload_n hx hb dL_law_805 rfl (lv_at hl 3 rfl) ?_
  refine lv_iconst (v := (nI 1)) hx hb dL_law_806 (by decide) ?_
  refine lv_iadd hx hb dL_law_807 ?_
  refine va_sld hx hb hX hbl hbA hH.2 (by rw [nI_add]; exact vp_in_nI (by omega) (by omega)) dL_law_808 ?_
  refine lv_aload_n hx hb dL_law_809 rfl (lv_at hl 0 rfl) ?_
  refine lv_iload_n hx hb dL_law_810 rfl (lv_at hl 3 rfl) ?_
  refine lv_iconst (v := (nI 2)) hx hb dL_law_811 (by decide) ?_
  refine lv_iadd hx hb dL_law_812 ?_
  refine va_sld hx hb hX hbl hbA hH.2 (by rw [nI_add]; exact vp_in_nI (by omega) (by omega)) dL_law_813 ?_
  refine lv_aload_n hx hb dL_law_814 rfl (lv_at hl 0 rfl) ?_
  refine lv_iload_n hx hb dL_law_815 rfl (lv_at hl 3 rfl) ?_
  refine lv_iconst (v := (nI 3)) hx hb dL_law_816 (by decide) ?_
  refine lv_iadd hx hb dL_law_817 ?_
  refine va_sld hx hb hX hbl hbA hH.2 (by rw [nI_add]; exact vp_in_nI (by omega) (by omega)) dL_law_818 ?_
  refine hv_cVI (rm := rm_X7_bestWord) (As := [.int (xs (ix (nI i + nI 1))), .int (xs (ix (nI i + nI 2))), .int (xs (ix (nI i + nI 3)))]) (rest := [.int r1]) (k := 3) (ci := 7) hx hb hml hown hKK hH cf7 hI.2.1.1.1 (m_X7_bestWord (x + 180) _ _ _ _ _ hw) cw_L_93 ⟨Nat.le_of_ble_eq_true rfl, Nat.le_of_ble_eq_true rfl⟩ rfl hl.1 rfl (Nat.le_of_ble_eq_true rfl) ⟨by show cells + 0 + 0 ≤ 600000; omega, by show slots + 0 + 0 ≤ 7302250; omega⟩ dL_law_819 (fun r2 h2 H locs hH hw => ?_)
  obtain ⟨er, A', hS⟩ := hw
  refine lv_icmp_eq (tgt := 1551) hx hb dL_law_822 (by decide) (fun _ => ?_) (fun c => absurd er c)
  refine W.widen (k := cells + 2) (n := slots + 20) (by show cells + 0 + 0 ≤ cells + 2; omega) (by show slots + 0 + 0 ≤ slots + 20; omega) ?_
  exact kk S sz h2 H locs A' hH hS
set_option maxHeartbeats 4000000 in
set_option maxRecDepth 100000 in
theorem lc_19 (C : LC p s m meth c b L xs Z G) {S : St} {h : Hp} {sz : Nat} {H : Heap} {locs : List Loc} {ls : Array Slot} {A : Ab} {i cells slots : Nat} (hH : HH G s.heap.size S h sz s H locs) (hl : lv_has ls 4 (LLs b x i)) (hI : SI S h x A) (hi : i + 6 ≤ L) (hc : cells + 2 ≤ 600000) (hs : slots + 20 ≤ 7302250) (kk : ∀ (S1 : St) (sz1 : Nat) (h1 : Hp) (H1 : Heap) (locs1 : List Loc) (A1 : Ab), HH G s.heap.size S1 h1 sz1 s H1 locs1 → SI S1 h1 x A1 → LW p l e s m below meth c b H1 locs1 (cells + 2) (slots + 20) (F0 m 1551 ls [])) : LW p l e s m below meth c b H locs cells slots (F0 m 827 ls []) := by
  obtain ⟨hx, hb, hml, hown, hKK, hSK, hNK, hr, hlk, hX, hbl, hL⟩ := C
  have hbA : ¬ (fun q : Nat => s.heap.size ≤ q) b := Nat.not_le.mpr hbl
  refine lv_aload_n hx hb dL_law_827 rfl (lv_at hl 1 rfl) ?_
  refine lv_aload_n hx hb dL_law_828 rfl (lv_at hl 0 rfl) ?_
  refine lv_iload_n hx hb dL_law_829 rfl (lv_at hl 3 rfl) ?_
  refine lv_iconst (v := (nI 1)) hx hb dL_law_830 (by decide) ?_
  refine lv_iadd hx hb dL_law_831 ?_
  refine va_sld hx hb hX hbl hbA hH.2 (by rw [nI_add]; exact vp_in_nI (by omega) (by omega)) dL_law_832 ?_
  refine lv_aload_n hx hb dL_law_833 rfl (lv_at hl 0 rfl) ?_
  refine lv_iload_n hx hb dL_law_834 rfl (lv_at hl 3 rfl) ?_
  refine lv_iconst (v := (nI 2)) hx hb dL_law_835 (by decide) ?_
  refine lv_iadd hx hb dL_law_836 ?_
  refine va_sld hx hb hX hbl hbA hH.2 (by rw [nI_add]; exact vp_in_nI (by omega) (by omega)) dL_law_837 ?_
  refine lv_aload_n hx hb dL_law_838 rfl (lv_at hl 0 rfl) ?_
  refine lv_iload_n hx hb dL_law_839 rfl (lv_at hl 3 rfl) ?_
  refine lv_iconst (v := (nI 3)) hx hb dL_law_840 (by decide) ?_
  refine lv_iadd hx hb dL_law_841 ?_
  refine va_sld hx hb hX hbl hbA hH.2 (by rw [nI_add]; exact vp_in_nI (by omega) (by omega)) dL_law_842 ?_
  refine hv_cVI (rm := rm_X6_bestLetter) (As := [.int (xs (ix (nI i + nI 1))), .int (xs (ix (nI i + nI 2))), .int (xs (ix (nI i + nI 3)))]) (rest := []) (k := 3) (ci := 6) hx hb hml hown hKK hH cf6 hI.1.1.1.1 (m_X6_bestLetter x _ _ _ _ _ (op_bestLetter hI (Q := fun r r' h2 => r = r' ∧ ∃ A', SI S h2 x A') (fun r A' h' hS => ⟨rfl, A', hS⟩))) cw_L_94 ⟨Nat.le_of_ble_eq_true rfl, Nat.le_of_ble_eq_true rfl⟩ rfl hl.1 rfl (Nat.le_of_ble_eq_true rfl) ⟨by show cells + 0 ≤ 600000; omega, by show slots + 0 ≤ 7302250; omega⟩ dL_law_843 (fun r1 h1 H locs hH hw => ?_)
  refine lv_aload_n hx hb dL_law_846 rfl (lv_at hl 2 rfl) ?_
  refine lv_aload_n hx hb dL_law_847 rfl (lv_at hl 0 rfl) ?_
  refine lv_iload_n hx hb dL_law_848 rfl (lv_at hl 3 rfl) ?_
  refine lv_iconst (v := (nI 1)) hx hb dL_law_849 (by decide) ?_
  refine lv_iadd hx hb dL_law_850 ?_
  refine va_sld hx hb hX hbl hbA hH.2 (by rw [nI_add]; exact vp_in_nI (by omega) (by omega)) dL_law_851 ?_
  refine lv_aload_n hx hb dL_law_852 rfl (lv_at hl 0 rfl) ?_
  refine lv_iload_n hx hb dL_law_853 rfl (lv_at hl 3 rfl) ?_
  refine lv_iconst (v := (nI 2)) hx hb dL_law_854 (by decide) ?_
  refine lv_iadd hx hb dL_law_855 ?_
  refine va_sld hx hb hX hbl hbA hH.2 (by rw [nI_add]; exact vp_in_nI (by omega) (by omega)) dL_law_856 ?_
  refine lv_aload_n hx hb dL_law_857 rfl (lv_at hl 0 rfl) ?_
  refine lv_iload_n hx hb dL_law_858 rfl (lv_at hl 3 rfl) ?_
  refine lv_iconst (v := (nI 3)) hx hb dL_law_859 (by decide) ?_
  refine lv_iadd hx hb dL_law_860 ?_
  refine va_sld hx hb hX hbl hbA hH.2 (by rw [nI_add]; exact vp_in_nI (by omega) (by omega)) dL_law_861 ?_
  refine hv_cVI (rm := rm_X7_bestLetter) (As := [.int (xs (ix (nI i + nI 1))), .int (xs (ix (nI i + nI 2))), .int (xs (ix (nI i + nI 3)))]) (rest := [.int r1]) (k := 3) (ci := 7) hx hb hml hown hKK hH cf7 hI.2.1.1.1 (m_X7_bestLetter (x + 180) _ _ _ _ _ hw) cw_L_97 ⟨Nat.le_of_ble_eq_true rfl, Nat.le_of_ble_eq_true rfl⟩ rfl hl.1 rfl (Nat.le_of_ble_eq_true rfl) ⟨by show cells + 0 + 0 ≤ 600000; omega, by show slots + 0 + 0 ≤ 7302250; omega⟩ dL_law_862 (fun r2 h2 H locs hH hw => ?_)
  obtain ⟨er, A', hS⟩ := hw
  refine lv_icmp_eq (tgt := 1551) hx hb dL_law_865 (by decide) (fun _ => ?_) (fun c => absurd er c)
  refine W.widen (k := cells + 2) (n := slots + 20) (by show cells + 0 + 0 ≤ cells + 2; omega) (by show slots + 0 + 0 ≤ slots + 20; omega) ?_
  exact kk S sz h2 H locs A' hH hS
set_option maxHeartbeats 4000000 in
set_option maxRecDepth 100000 in
theorem lc_20 (C : LC p s m meth c b L xs Z G) {S : St} {h : Hp} {sz : Nat} {H : Heap} {locs : List Loc} {ls : Array Slot} {A : Ab} {i cells slots : Nat} (hH : HH G s.heap.size S h sz s H locs) (hl : lv_has ls 4 (LLs b x i)) (hI : SI S h x A) (hi : i + 6 ≤ L) (hc : cells + 2 ≤ 600000) (hs : slots + 20 ≤ 7302250) (kk : ∀ (S1 : St) (sz1 : Nat) (h1 : Hp) (H1 : Heap) (locs1 : List Loc) (A1 : Ab), HH G s.heap.size S1 h1 sz1 s H1 locs1 → SI S1 h1 x A1 → LW p l e s m below meth c b H1 locs1 (cells + 2) (slots + 20) (F0 m 1551 ls [])) : LW p l e s m below meth c b H locs cells slots (F0 m 870 ls []) := by
  obtain ⟨hx, hb, hml, hown, hKK, hSK, hNK, hr, hlk, hX, hbl, hL⟩ := C
  have hbA : ¬ (fun q : Nat => s.heap.size ≤ q) b := Nat.not_le.mpr hbl
  refine lv_aload_n hx hb dL_law_870 rfl (lv_at hl 1 rfl) ?_
  refine lv_aload_n hx hb dL_law_871 rfl (lv_at hl 0 rfl) ?_
  refine lv_iload_n hx hb dL_law_872 rfl (lv_at hl 3 rfl) ?_
  refine lv_iconst (v := (nI 1)) hx hb dL_law_873 (by decide) ?_
  refine lv_iadd hx hb dL_law_874 ?_
  refine va_sld hx hb hX hbl hbA hH.2 (by rw [nI_add]; exact vp_in_nI (by omega) (by omega)) dL_law_875 ?_
  refine lv_aload_n hx hb dL_law_876 rfl (lv_at hl 0 rfl) ?_
  refine lv_iload_n hx hb dL_law_877 rfl (lv_at hl 3 rfl) ?_
  refine lv_iconst (v := (nI 2)) hx hb dL_law_878 (by decide) ?_
  refine lv_iadd hx hb dL_law_879 ?_
  refine va_sld hx hb hX hbl hbA hH.2 (by rw [nI_add]; exact vp_in_nI (by omega) (by omega)) dL_law_880 ?_
  refine lv_aload_n hx hb dL_law_881 rfl (lv_at hl 0 rfl) ?_
  refine lv_iload_n hx hb dL_law_882 rfl (lv_at hl 3 rfl) ?_
  refine lv_iconst (v := (nI 3)) hx hb dL_law_883 (by decide) ?_
  refine lv_iadd hx hb dL_law_884 ?_
  refine va_sld hx hb hX hbl hbA hH.2 (by rw [nI_add]; exact vp_in_nI (by omega) (by omega)) dL_law_885 ?_
  refine hv_cVI (rm := rm_X6_holds) (As := [.int (xs (ix (nI i + nI 1))), .int (xs (ix (nI i + nI 2))), .int (xs (ix (nI i + nI 3)))]) (rest := []) (k := 3) (ci := 6) hx hb hml hown hKK hH cf6 hI.1.1.1.1 (m_X6_holds x _ _ _ _ _ (op_holds hI (Q := fun r r' h2 => r = r' ∧ ∃ A', SI S h2 x A') (fun r A' h' hS => ⟨rfl, A', hS⟩))) cw_L_98 ⟨Nat.le_of_ble_eq_true rfl, Nat.le_of_ble_eq_true rfl⟩ rfl hl.1 rfl (Nat.le_of_ble_eq_true rfl) ⟨by show cells + 0 ≤ 600000; omega, by show slots + 0 ≤ 7302250; omega⟩ dL_law_886 (fun r1 h1 H locs hH hw => ?_)
  refine lv_aload_n hx hb dL_law_889 rfl (lv_at hl 2 rfl) ?_
  refine lv_aload_n hx hb dL_law_890 rfl (lv_at hl 0 rfl) ?_
  refine lv_iload_n hx hb dL_law_891 rfl (lv_at hl 3 rfl) ?_
  refine lv_iconst (v := (nI 1)) hx hb dL_law_892 (by decide) ?_
  refine lv_iadd hx hb dL_law_893 ?_
  refine va_sld hx hb hX hbl hbA hH.2 (by rw [nI_add]; exact vp_in_nI (by omega) (by omega)) dL_law_894 ?_
  refine lv_aload_n hx hb dL_law_895 rfl (lv_at hl 0 rfl) ?_
  refine lv_iload_n hx hb dL_law_896 rfl (lv_at hl 3 rfl) ?_
  refine lv_iconst (v := (nI 2)) hx hb dL_law_897 (by decide) ?_
  refine lv_iadd hx hb dL_law_898 ?_
  refine va_sld hx hb hX hbl hbA hH.2 (by rw [nI_add]; exact vp_in_nI (by omega) (by omega)) dL_law_899 ?_
  refine lv_aload_n hx hb dL_law_900 rfl (lv_at hl 0 rfl) ?_
  refine lv_iload_n hx hb dL_law_901 rfl (lv_at hl 3 rfl) ?_
  refine lv_iconst (v := (nI 3)) hx hb dL_law_902 (by decide) ?_
  refine lv_iadd hx hb dL_law_903 ?_
  refine va_sld hx hb hX hbl hbA hH.2 (by rw [nI_add]; exact vp_in_nI (by omega) (by omega)) dL_law_904 ?_
  refine hv_cVI (rm := rm_X7_holds) (As := [.int (xs (ix (nI i + nI 1))), .int (xs (ix (nI i + nI 2))), .int (xs (ix (nI i + nI 3)))]) (rest := [.int r1]) (k := 3) (ci := 7) hx hb hml hown hKK hH cf7 hI.2.1.1.1 (m_X7_holds (x + 180) _ _ _ _ _ hw) cw_L_101 ⟨Nat.le_of_ble_eq_true rfl, Nat.le_of_ble_eq_true rfl⟩ rfl hl.1 rfl (Nat.le_of_ble_eq_true rfl) ⟨by show cells + 0 + 0 ≤ 600000; omega, by show slots + 0 + 0 ≤ 7302250; omega⟩ dL_law_905 (fun r2 h2 H locs hH hw => ?_)
  obtain ⟨er, A', hS⟩ := hw
  refine lv_icmp_eq (tgt := 1551) hx hb dL_law_908 (by decide) (fun _ => ?_) (fun c => absurd er c)
  refine W.widen (k := cells + 2) (n := slots + 20) (by show cells + 0 + 0 ≤ cells + 2; omega) (by show slots + 0 + 0 ≤ slots + 20; omega) ?_
  exact kk S sz h2 H locs A' hH hS
set_option maxHeartbeats 4000000 in
set_option maxRecDepth 100000 in
theorem lc_21 (C : LC p s m meth c b L xs Z G) {S : St} {h : Hp} {sz : Nat} {H : Heap} {locs : List Loc} {ls : Array Slot} {A : Ab} {i cells slots : Nat} (hH : HH G s.heap.size S h sz s H locs) (hl : lv_has ls 4 (LLs b x i)) (hI : SI S h x A) (hi : i + 6 ≤ L) (hc : cells + 2 ≤ 600000) (hs : slots + 20 ≤ 7302250) (kk : ∀ (S1 : St) (sz1 : Nat) (h1 : Hp) (H1 : Heap) (locs1 : List Loc) (A1 : Ab), HH G s.heap.size S1 h1 sz1 s H1 locs1 → SI S1 h1 x A1 → LW p l e s m below meth c b H1 locs1 (cells + 2) (slots + 20) (F0 m 1551 ls [])) : LW p l e s m below meth c b H locs cells slots (F0 m 913 ls []) := by
  obtain ⟨hx, hb, hml, hown, hKK, hSK, hNK, hr, hlk, hX, hbl, hL⟩ := C
  have hbA : ¬ (fun q : Nat => s.heap.size ≤ q) b := Nat.not_le.mpr hbl
  refine lv_aload_n hx hb dL_law_913 rfl (lv_at hl 1 rfl) ?_
  refine lv_aload_n hx hb dL_law_914 rfl (lv_at hl 0 rfl) ?_
  refine lv_iload_n hx hb dL_law_915 rfl (lv_at hl 3 rfl) ?_
  refine lv_iconst (v := (nI 1)) hx hb dL_law_916 (by decide) ?_
  refine lv_iadd hx hb dL_law_917 ?_
  refine va_sld hx hb hX hbl hbA hH.2 (by rw [nI_add]; exact vp_in_nI (by omega) (by omega)) dL_law_918 ?_
  refine lv_aload_n hx hb dL_law_919 rfl (lv_at hl 0 rfl) ?_
  refine lv_iload_n hx hb dL_law_920 rfl (lv_at hl 3 rfl) ?_
  refine lv_iconst (v := (nI 2)) hx hb dL_law_921 (by decide) ?_
  refine lv_iadd hx hb dL_law_922 ?_
  refine va_sld hx hb hX hbl hbA hH.2 (by rw [nI_add]; exact vp_in_nI (by omega) (by omega)) dL_law_923 ?_
  refine lv_aload_n hx hb dL_law_924 rfl (lv_at hl 0 rfl) ?_
  refine lv_iload_n hx hb dL_law_925 rfl (lv_at hl 3 rfl) ?_
  refine lv_iconst (v := (nI 3)) hx hb dL_law_926 (by decide) ?_
  refine lv_iadd hx hb dL_law_927 ?_
  refine va_sld hx hb hX hbl hbA hH.2 (by rw [nI_add]; exact vp_in_nI (by omega) (by omega)) dL_law_928 ?_
  refine hv_cVI (rm := rm_X6_wallFor) (As := [.int (xs (ix (nI i + nI 1))), .int (xs (ix (nI i + nI 2))), .int (xs (ix (nI i + nI 3)))]) (rest := []) (k := 3) (ci := 6) hx hb hml hown hKK hH cf6 hI.1.1.1.1 (m_X6_wallFor x _ _ _ _ _ (op_wallFor hI (Q := fun r r' h2 => r = r' ∧ ∃ A', SI S h2 x A') (fun r A' h' hS => ⟨rfl, A', hS⟩))) cw_L_102 ⟨Nat.le_of_ble_eq_true rfl, Nat.le_of_ble_eq_true rfl⟩ rfl hl.1 rfl (Nat.le_of_ble_eq_true rfl) ⟨by show cells + 0 ≤ 600000; omega, by show slots + 0 ≤ 7302250; omega⟩ dL_law_929 (fun r1 h1 H locs hH hw => ?_)
  refine lv_aload_n hx hb dL_law_932 rfl (lv_at hl 2 rfl) ?_
  refine lv_aload_n hx hb dL_law_933 rfl (lv_at hl 0 rfl) ?_
  refine lv_iload_n hx hb dL_law_934 rfl (lv_at hl 3 rfl) ?_
  refine lv_iconst (v := (nI 1)) hx hb dL_law_935 (by decide) ?_
  refine lv_iadd hx hb dL_law_936 ?_
  refine va_sld hx hb hX hbl hbA hH.2 (by rw [nI_add]; exact vp_in_nI (by omega) (by omega)) dL_law_937 ?_
  refine lv_aload_n hx hb dL_law_938 rfl (lv_at hl 0 rfl) ?_
  refine lv_iload_n hx hb dL_law_939 rfl (lv_at hl 3 rfl) ?_
  refine lv_iconst (v := (nI 2)) hx hb dL_law_940 (by decide) ?_
  refine lv_iadd hx hb dL_law_941 ?_
  refine va_sld hx hb hX hbl hbA hH.2 (by rw [nI_add]; exact vp_in_nI (by omega) (by omega)) dL_law_942 ?_
  refine lv_aload_n hx hb dL_law_943 rfl (lv_at hl 0 rfl) ?_
  refine lv_iload_n hx hb dL_law_944 rfl (lv_at hl 3 rfl) ?_
  refine lv_iconst (v := (nI 3)) hx hb dL_law_945 (by decide) ?_
  refine lv_iadd hx hb dL_law_946 ?_
  refine va_sld hx hb hX hbl hbA hH.2 (by rw [nI_add]; exact vp_in_nI (by omega) (by omega)) dL_law_947 ?_
  refine hv_cVI (rm := rm_X7_wallFor) (As := [.int (xs (ix (nI i + nI 1))), .int (xs (ix (nI i + nI 2))), .int (xs (ix (nI i + nI 3)))]) (rest := [.int r1]) (k := 3) (ci := 7) hx hb hml hown hKK hH cf7 hI.2.1.1.1 (m_X7_wallFor (x + 180) _ _ _ _ _ hw) cw_L_105 ⟨Nat.le_of_ble_eq_true rfl, Nat.le_of_ble_eq_true rfl⟩ rfl hl.1 rfl (Nat.le_of_ble_eq_true rfl) ⟨by show cells + 0 + 0 ≤ 600000; omega, by show slots + 0 + 0 ≤ 7302250; omega⟩ dL_law_948 (fun r2 h2 H locs hH hw => ?_)
  obtain ⟨er, A', hS⟩ := hw
  refine lv_icmp_eq (tgt := 1551) hx hb dL_law_951 (by decide) (fun _ => ?_) (fun c => absurd er c)
  refine W.widen (k := cells + 2) (n := slots + 20) (by show cells + 0 + 0 ≤ cells + 2; omega) (by show slots + 0 + 0 ≤ slots + 20; omega) ?_
  exact kk S sz h2 H locs A' hH hS
set_option maxHeartbeats 4000000 in
set_option maxRecDepth 100000 in
theorem lc_22 (C : LC p s m meth c b L xs Z G) {S : St} {h : Hp} {sz : Nat} {H : Heap} {locs : List Loc} {ls : Array Slot} {A : Ab} {i cells slots : Nat} (hH : HH G s.heap.size S h sz s H locs) (hl : lv_has ls 4 (LLs b x i)) (hI : SI S h x A) (hi : i + 6 ≤ L) (hc : cells + 2 ≤ 600000) (hs : slots + 20 ≤ 7302250) (kk : ∀ (S1 : St) (sz1 : Nat) (h1 : Hp) (H1 : Heap) (locs1 : List Loc) (A1 : Ab), HH G s.heap.size S1 h1 sz1 s H1 locs1 → SI S1 h1 x A1 → LW p l e s m below meth c b H1 locs1 (cells + 2) (slots + 20) (F0 m 1551 ls [])) : LW p l e s m below meth c b H locs cells slots (F0 m 956 ls []) := by
  obtain ⟨hx, hb, hml, hown, hKK, hSK, hNK, hr, hlk, hX, hbl, hL⟩ := C
  have hbA : ¬ (fun q : Nat => s.heap.size ≤ q) b := Nat.not_le.mpr hbl
  refine lv_aload_n hx hb dL_law_956 rfl (lv_at hl 1 rfl) ?_
  refine lv_aload_n hx hb dL_law_957 rfl (lv_at hl 0 rfl) ?_
  refine lv_iload_n hx hb dL_law_958 rfl (lv_at hl 3 rfl) ?_
  refine lv_iconst (v := (nI 1)) hx hb dL_law_959 (by decide) ?_
  refine lv_iadd hx hb dL_law_960 ?_
  refine va_sld hx hb hX hbl hbA hH.2 (by rw [nI_add]; exact vp_in_nI (by omega) (by omega)) dL_law_961 ?_
  refine hv_cVI (rm := rm_X6_names) (As := [.int (xs (ix (nI i + nI 1)))]) (rest := []) (k := 1) (ci := 6) hx hb hml hown hKK hH cf6 hI.1.1.1.1 (m_X6_names x _ _ _ (op_names hI (Q := fun r r' h2 => r = r' ∧ ∃ A', SI S h2 x A') (fun r A' h' hS => ⟨rfl, A', hS⟩))) cw_L_106 ⟨Nat.le_of_ble_eq_true rfl, Nat.le_of_ble_eq_true rfl⟩ rfl hl.1 rfl (Nat.le_of_ble_eq_true rfl) ⟨by show cells + 0 ≤ 600000; omega, by show slots + 0 ≤ 7302250; omega⟩ dL_law_962 (fun r1 h1 H locs hH hw => ?_)
  refine lv_aload_n hx hb dL_law_965 rfl (lv_at hl 2 rfl) ?_
  refine lv_aload_n hx hb dL_law_966 rfl (lv_at hl 0 rfl) ?_
  refine lv_iload_n hx hb dL_law_967 rfl (lv_at hl 3 rfl) ?_
  refine lv_iconst (v := (nI 1)) hx hb dL_law_968 (by decide) ?_
  refine lv_iadd hx hb dL_law_969 ?_
  refine va_sld hx hb hX hbl hbA hH.2 (by rw [nI_add]; exact vp_in_nI (by omega) (by omega)) dL_law_970 ?_
  refine hv_cVI (rm := rm_X7_names) (As := [.int (xs (ix (nI i + nI 1)))]) (rest := [.int r1]) (k := 1) (ci := 7) hx hb hml hown hKK hH cf7 hI.2.1.1.1 (m_X7_names (x + 180) _ _ _ hw) cw_L_109 ⟨Nat.le_of_ble_eq_true rfl, Nat.le_of_ble_eq_true rfl⟩ rfl hl.1 rfl (Nat.le_of_ble_eq_true rfl) ⟨by show cells + 0 + 0 ≤ 600000; omega, by show slots + 0 + 0 ≤ 7302250; omega⟩ dL_law_971 (fun r2 h2 H locs hH hw => ?_)
  obtain ⟨er, A', hS⟩ := hw
  refine lv_icmp_eq (tgt := 1551) hx hb dL_law_974 (by decide) (fun _ => ?_) (fun c => absurd er c)
  refine W.widen (k := cells + 2) (n := slots + 20) (by show cells + 0 + 0 ≤ cells + 2; omega) (by show slots + 0 + 0 ≤ slots + 20; omega) ?_
  exact kk S sz h2 H locs A' hH hS
set_option maxHeartbeats 4000000 in
set_option maxRecDepth 100000 in
theorem lc_23 (C : LC p s m meth c b L xs Z G) {S : St} {h : Hp} {sz : Nat} {H : Heap} {locs : List Loc} {ls : Array Slot} {A : Ab} {i cells slots : Nat} (hH : HH G s.heap.size S h sz s H locs) (hl : lv_has ls 4 (LLs b x i)) (hI : SI S h x A) (hi : i + 6 ≤ L) (hc : cells + 2 ≤ 600000) (hs : slots + 20 ≤ 7302250) (kk : ∀ (S1 : St) (sz1 : Nat) (h1 : Hp) (H1 : Heap) (locs1 : List Loc) (A1 : Ab), HH G s.heap.size S1 h1 sz1 s H1 locs1 → SI S1 h1 x A1 → LW p l e s m below meth c b H1 locs1 (cells + 2) (slots + 20) (F0 m 1551 ls [])) : LW p l e s m below meth c b H locs cells slots (F0 m 979 ls []) := by
  obtain ⟨hx, hb, hml, hown, hKK, hSK, hNK, hr, hlk, hX, hbl, hL⟩ := C
  have hbA : ¬ (fun q : Nat => s.heap.size ≤ q) b := Nat.not_le.mpr hbl
  refine lv_aload_n hx hb dL_law_979 rfl (lv_at hl 1 rfl) ?_
  refine lv_aload_n hx hb dL_law_980 rfl (lv_at hl 0 rfl) ?_
  refine lv_iload_n hx hb dL_law_981 rfl (lv_at hl 3 rfl) ?_
  refine lv_iconst (v := (nI 1)) hx hb dL_law_982 (by decide) ?_
  refine lv_iadd hx hb dL_law_983 ?_
  refine va_sld hx hb hX hbl hbA hH.2 (by rw [nI_add]; exact vp_in_nI (by omega) (by omega)) dL_law_984 ?_
  refine lv_aload_n hx hb dL_law_985 rfl (lv_at hl 0 rfl) ?_
  refine lv_iload_n hx hb dL_law_986 rfl (lv_at hl 3 rfl) ?_
  refine lv_iconst (v := (nI 2)) hx hb dL_law_987 (by decide) ?_
  refine lv_iadd hx hb dL_law_988 ?_
  refine va_sld hx hb hX hbl hbA hH.2 (by rw [nI_add]; exact vp_in_nI (by omega) (by omega)) dL_law_989 ?_
  refine hv_cVI (rm := rm_X6_whatKind) (As := [.int (xs (ix (nI i + nI 1))), .int (xs (ix (nI i + nI 2)))]) (rest := []) (k := 2) (ci := 6) hx hb hml hown hKK hH cf6 hI.1.1.1.1 (m_X6_whatKind x _ _ _ _ (op_whatKind hI (Q := fun r r' h2 => r = r' ∧ ∃ A', SI S h2 x A') (fun r A' h' hS => ⟨rfl, A', hS⟩))) cw_L_110 ⟨Nat.le_of_ble_eq_true rfl, Nat.le_of_ble_eq_true rfl⟩ rfl hl.1 rfl (Nat.le_of_ble_eq_true rfl) ⟨by show cells + 0 ≤ 600000; omega, by show slots + 0 ≤ 7302250; omega⟩ dL_law_990 (fun r1 h1 H locs hH hw => ?_)
  refine lv_aload_n hx hb dL_law_993 rfl (lv_at hl 2 rfl) ?_
  refine lv_aload_n hx hb dL_law_994 rfl (lv_at hl 0 rfl) ?_
  refine lv_iload_n hx hb dL_law_995 rfl (lv_at hl 3 rfl) ?_
  refine lv_iconst (v := (nI 1)) hx hb dL_law_996 (by decide) ?_
  refine lv_iadd hx hb dL_law_997 ?_
  refine va_sld hx hb hX hbl hbA hH.2 (by rw [nI_add]; exact vp_in_nI (by omega) (by omega)) dL_law_998 ?_
  refine lv_aload_n hx hb dL_law_999 rfl (lv_at hl 0 rfl) ?_
  refine lv_iload_n hx hb dL_law_1000 rfl (lv_at hl 3 rfl) ?_
  refine lv_iconst (v := (nI 2)) hx hb dL_law_1001 (by decide) ?_
  refine lv_iadd hx hb dL_law_1002 ?_
  refine va_sld hx hb hX hbl hbA hH.2 (by rw [nI_add]; exact vp_in_nI (by omega) (by omega)) dL_law_1003 ?_
  refine hv_cVI (rm := rm_X7_whatKind) (As := [.int (xs (ix (nI i + nI 1))), .int (xs (ix (nI i + nI 2)))]) (rest := [.int r1]) (k := 2) (ci := 7) hx hb hml hown hKK hH cf7 hI.2.1.1.1 (m_X7_whatKind (x + 180) _ _ _ _ hw) cw_L_113 ⟨Nat.le_of_ble_eq_true rfl, Nat.le_of_ble_eq_true rfl⟩ rfl hl.1 rfl (Nat.le_of_ble_eq_true rfl) ⟨by show cells + 0 + 0 ≤ 600000; omega, by show slots + 0 + 0 ≤ 7302250; omega⟩ dL_law_1004 (fun r2 h2 H locs hH hw => ?_)
  obtain ⟨er, A', hS⟩ := hw
  refine lv_icmp_eq (tgt := 1551) hx hb dL_law_1007 (by decide) (fun _ => ?_) (fun c => absurd er c)
  refine W.widen (k := cells + 2) (n := slots + 20) (by show cells + 0 + 0 ≤ cells + 2; omega) (by show slots + 0 + 0 ≤ slots + 20; omega) ?_
  exact kk S sz h2 H locs A' hH hS
set_option maxHeartbeats 4000000 in
set_option maxRecDepth 100000 in
theorem lc_24 (C : LC p s m meth c b L xs Z G) {S : St} {h : Hp} {sz : Nat} {H : Heap} {locs : List Loc} {ls : Array Slot} {A : Ab} {i cells slots : Nat} (hH : HH G s.heap.size S h sz s H locs) (hl : lv_has ls 4 (LLs b x i)) (hI : SI S h x A) (hi : i + 6 ≤ L) (hc : cells + 2 ≤ 600000) (hs : slots + 20 ≤ 7302250) (kk : ∀ (S1 : St) (sz1 : Nat) (h1 : Hp) (H1 : Heap) (locs1 : List Loc) (A1 : Ab), HH G s.heap.size S1 h1 sz1 s H1 locs1 → SI S1 h1 x A1 → LW p l e s m below meth c b H1 locs1 (cells + 2) (slots + 20) (F0 m 1551 ls [])) : LW p l e s m below meth c b H locs cells slots (F0 m 1012 ls []) := by
  obtain ⟨hx, hb, hml, hown, hKK, hSK, hNK, hr, hlk, hX, hbl, hL⟩ := C
  have hbA : ¬ (fun q : Nat => s.heap.size ≤ q) b := Nat.not_le.mpr hbl
  refine lv_aload_n hx hb dL_law_1012 rfl (lv_at hl 1 rfl) ?_
  refine lv_aload_n hx hb dL_law_1013 rfl (lv_at hl 0 rfl) ?_
  refine lv_iload_n hx hb dL_law_1014 rfl (lv_at hl 3 rfl) ?_
  refine lv_iconst (v := (nI 1)) hx hb dL_law_1015 (by decide) ?_
  refine lv_iadd hx hb dL_law_1016 ?_
  refine va_sld hx hb hX hbl hbA hH.2 (by rw [nI_add]; exact vp_in_nI (by omega) (by omega)) dL_law_1017 ?_
  refine hv_cVI (rm := rm_X6_whatWord) (As := [.int (xs (ix (nI i + nI 1)))]) (rest := []) (k := 1) (ci := 6) hx hb hml hown hKK hH cf6 hI.1.1.1.1 (m_X6_whatWord x _ _ _ (op_whatWord hI (Q := fun r r' h2 => r = r' ∧ ∃ A', SI S h2 x A') (fun r A' h' hS => ⟨rfl, A', hS⟩))) cw_L_114 ⟨Nat.le_of_ble_eq_true rfl, Nat.le_of_ble_eq_true rfl⟩ rfl hl.1 rfl (Nat.le_of_ble_eq_true rfl) ⟨by show cells + 0 ≤ 600000; omega, by show slots + 0 ≤ 7302250; omega⟩ dL_law_1018 (fun r1 h1 H locs hH hw => ?_)
  refine lv_aload_n hx hb dL_law_1021 rfl (lv_at hl 2 rfl) ?_
  refine lv_aload_n hx hb dL_law_1022 rfl (lv_at hl 0 rfl) ?_
  refine lv_iload_n hx hb dL_law_1023 rfl (lv_at hl 3 rfl) ?_
  refine lv_iconst (v := (nI 1)) hx hb dL_law_1024 (by decide) ?_
  refine lv_iadd hx hb dL_law_1025 ?_
  refine va_sld hx hb hX hbl hbA hH.2 (by rw [nI_add]; exact vp_in_nI (by omega) (by omega)) dL_law_1026 ?_
  refine hv_cVI (rm := rm_X7_whatWord) (As := [.int (xs (ix (nI i + nI 1)))]) (rest := [.int r1]) (k := 1) (ci := 7) hx hb hml hown hKK hH cf7 hI.2.1.1.1 (m_X7_whatWord (x + 180) _ _ _ hw) cw_L_117 ⟨Nat.le_of_ble_eq_true rfl, Nat.le_of_ble_eq_true rfl⟩ rfl hl.1 rfl (Nat.le_of_ble_eq_true rfl) ⟨by show cells + 0 + 0 ≤ 600000; omega, by show slots + 0 + 0 ≤ 7302250; omega⟩ dL_law_1027 (fun r2 h2 H locs hH hw => ?_)
  obtain ⟨er, A', hS⟩ := hw
  refine lv_icmp_eq (tgt := 1551) hx hb dL_law_1030 (by decide) (fun _ => ?_) (fun c => absurd er c)
  refine W.widen (k := cells + 2) (n := slots + 20) (by show cells + 0 + 0 ≤ cells + 2; omega) (by show slots + 0 + 0 ≤ slots + 20; omega) ?_
  exact kk S sz h2 H locs A' hH hS
set_option maxHeartbeats 4000000 in
set_option maxRecDepth 100000 in
theorem lc_25 (C : LC p s m meth c b L xs Z G) {S : St} {h : Hp} {sz : Nat} {H : Heap} {locs : List Loc} {ls : Array Slot} {A : Ab} {i cells slots : Nat} (hH : HH G s.heap.size S h sz s H locs) (hl : lv_has ls 4 (LLs b x i)) (hI : SI S h x A) (hi : i + 6 ≤ L) (hc : cells + 2 ≤ 600000) (hs : slots + 20 ≤ 7302250) (kk : ∀ (S1 : St) (sz1 : Nat) (h1 : Hp) (H1 : Heap) (locs1 : List Loc) (A1 : Ab), HH G s.heap.size S1 h1 sz1 s H1 locs1 → SI S1 h1 x A1 → LW p l e s m below meth c b H1 locs1 (cells + 2) (slots + 20) (F0 m 1551 ls [])) : LW p l e s m below meth c b H locs cells slots (F0 m 1035 ls []) := by
  obtain ⟨hx, hb, hml, hown, hKK, hSK, hNK, hr, hlk, hX, hbl, hL⟩ := C
  have hbA : ¬ (fun q : Nat => s.heap.size ≤ q) b := Nat.not_le.mpr hbl
  refine lv_aload_n hx hb dL_law_1035 rfl (lv_at hl 1 rfl) ?_
  refine lv_aload_n hx hb dL_law_1036 rfl (lv_at hl 0 rfl) ?_
  refine lv_iload_n hx hb dL_law_1037 rfl (lv_at hl 3 rfl) ?_
  refine lv_iconst (v := (nI 1)) hx hb dL_law_1038 (by decide) ?_
  refine lv_iadd hx hb dL_law_1039 ?_
  refine va_sld hx hb hX hbl hbA hH.2 (by rw [nI_add]; exact vp_in_nI (by omega) (by omega)) dL_law_1040 ?_
  refine lv_aload_n hx hb dL_law_1041 rfl (lv_at hl 0 rfl) ?_
  refine lv_iload_n hx hb dL_law_1042 rfl (lv_at hl 3 rfl) ?_
  refine lv_iconst (v := (nI 2)) hx hb dL_law_1043 (by decide) ?_
  refine lv_iadd hx hb dL_law_1044 ?_
  refine va_sld hx hb hX hbl hbA hH.2 (by rw [nI_add]; exact vp_in_nI (by omega) (by omega)) dL_law_1045 ?_
  refine lv_aload_n hx hb dL_law_1046 rfl (lv_at hl 0 rfl) ?_
  refine lv_iload_n hx hb dL_law_1047 rfl (lv_at hl 3 rfl) ?_
  refine lv_iconst (v := (nI 3)) hx hb dL_law_1048 (by decide) ?_
  refine lv_iadd hx hb dL_law_1049 ?_
  refine va_sld hx hb hX hbl hbA hH.2 (by rw [nI_add]; exact vp_in_nI (by omega) (by omega)) dL_law_1050 ?_
  refine hv_cVI (rm := rm_X6_two) (As := [.int (xs (ix (nI i + nI 1))), .int (xs (ix (nI i + nI 2))), .int (xs (ix (nI i + nI 3)))]) (rest := []) (k := 3) (ci := 6) hx hb hml hown hKK hH cf6 hI.1.1.1.1 (m_X6_two x _ _ _ _ _ (op_two hI (Q := fun r r' h2 => r = r' ∧ ∃ A', SI S h2 x A') (fun r A' h' hS => ⟨rfl, A', hS⟩))) cw_L_118 ⟨Nat.le_of_ble_eq_true rfl, Nat.le_of_ble_eq_true rfl⟩ rfl hl.1 rfl (Nat.le_of_ble_eq_true rfl) ⟨by show cells + 0 ≤ 600000; omega, by show slots + 0 ≤ 7302250; omega⟩ dL_law_1051 (fun r1 h1 H locs hH hw => ?_)
  refine lv_aload_n hx hb dL_law_1054 rfl (lv_at hl 2 rfl) ?_
  refine lv_aload_n hx hb dL_law_1055 rfl (lv_at hl 0 rfl) ?_
  refine lv_iload_n hx hb dL_law_1056 rfl (lv_at hl 3 rfl) ?_
  refine lv_iconst (v := (nI 1)) hx hb dL_law_1057 (by decide) ?_
  refine lv_iadd hx hb dL_law_1058 ?_
  refine va_sld hx hb hX hbl hbA hH.2 (by rw [nI_add]; exact vp_in_nI (by omega) (by omega)) dL_law_1059 ?_
  refine lv_aload_n hx hb dL_law_1060 rfl (lv_at hl 0 rfl) ?_
  refine lv_iload_n hx hb dL_law_1061 rfl (lv_at hl 3 rfl) ?_
  refine lv_iconst (v := (nI 2)) hx hb dL_law_1062 (by decide) ?_
  refine lv_iadd hx hb dL_law_1063 ?_
  refine va_sld hx hb hX hbl hbA hH.2 (by rw [nI_add]; exact vp_in_nI (by omega) (by omega)) dL_law_1064 ?_
  refine lv_aload_n hx hb dL_law_1065 rfl (lv_at hl 0 rfl) ?_
  refine lv_iload_n hx hb dL_law_1066 rfl (lv_at hl 3 rfl) ?_
  refine lv_iconst (v := (nI 3)) hx hb dL_law_1067 (by decide) ?_
  refine lv_iadd hx hb dL_law_1068 ?_
  refine va_sld hx hb hX hbl hbA hH.2 (by rw [nI_add]; exact vp_in_nI (by omega) (by omega)) dL_law_1069 ?_
  refine hv_cVI (rm := rm_X7_two) (As := [.int (xs (ix (nI i + nI 1))), .int (xs (ix (nI i + nI 2))), .int (xs (ix (nI i + nI 3)))]) (rest := [.int r1]) (k := 3) (ci := 7) hx hb hml hown hKK hH cf7 hI.2.1.1.1 (m_X7_two (x + 180) _ _ _ _ _ hw) cw_L_121 ⟨Nat.le_of_ble_eq_true rfl, Nat.le_of_ble_eq_true rfl⟩ rfl hl.1 rfl (Nat.le_of_ble_eq_true rfl) ⟨by show cells + 0 + 0 ≤ 600000; omega, by show slots + 0 + 0 ≤ 7302250; omega⟩ dL_law_1070 (fun r2 h2 H locs hH hw => ?_)
  obtain ⟨er, A', hS⟩ := hw
  refine lv_icmp_eq (tgt := 1551) hx hb dL_law_1073 (by decide) (fun _ => ?_) (fun c => absurd er c)
  refine W.widen (k := cells + 2) (n := slots + 20) (by show cells + 0 + 0 ≤ cells + 2; omega) (by show slots + 0 + 0 ≤ slots + 20; omega) ?_
  exact kk S sz h2 H locs A' hH hS
set_option maxHeartbeats 4000000 in
set_option maxRecDepth 100000 in
theorem lc_26 (C : LC p s m meth c b L xs Z G) {S : St} {h : Hp} {sz : Nat} {H : Heap} {locs : List Loc} {ls : Array Slot} {A : Ab} {i cells slots : Nat} (hH : HH G s.heap.size S h sz s H locs) (hl : lv_has ls 4 (LLs b x i)) (hI : SI S h x A) (hi : i + 6 ≤ L) (hc : cells + 2 ≤ 600000) (hs : slots + 20 ≤ 7302250) (kk : ∀ (S1 : St) (sz1 : Nat) (h1 : Hp) (H1 : Heap) (locs1 : List Loc) (A1 : Ab), HH G s.heap.size S1 h1 sz1 s H1 locs1 → SI S1 h1 x A1 → LW p l e s m below meth c b H1 locs1 (cells + 2) (slots + 20) (F0 m 1551 ls [])) : LW p l e s m below meth c b H locs cells slots (F0 m 1078 ls []) := by
  obtain ⟨hx, hb, hml, hown, hKK, hSK, hNK, hr, hlk, hX, hbl, hL⟩ := C
  have hbA : ¬ (fun q : Nat => s.heap.size ≤ q) b := Nat.not_le.mpr hbl
  refine lv_aload_n hx hb dL_law_1078 rfl (lv_at hl 1 rfl) ?_
  refine lv_aload_n hx hb dL_law_1079 rfl (lv_at hl 0 rfl) ?_
  refine lv_iload_n hx hb dL_law_1080 rfl (lv_at hl 3 rfl) ?_
  refine lv_iconst (v := (nI 1)) hx hb dL_law_1081 (by decide) ?_
  refine lv_iadd hx hb dL_law_1082 ?_
  refine va_sld hx hb hX hbl hbA hH.2 (by rw [nI_add]; exact vp_in_nI (by omega) (by omega)) dL_law_1083 ?_
  refine lv_aload_n hx hb dL_law_1084 rfl (lv_at hl 0 rfl) ?_
  refine lv_iload_n hx hb dL_law_1085 rfl (lv_at hl 3 rfl) ?_
  refine lv_iconst (v := (nI 2)) hx hb dL_law_1086 (by decide) ?_
  refine lv_iadd hx hb dL_law_1087 ?_
  refine va_sld hx hb hX hbl hbA hH.2 (by rw [nI_add]; exact vp_in_nI (by omega) (by omega)) dL_law_1088 ?_
  refine lv_aload_n hx hb dL_law_1089 rfl (lv_at hl 0 rfl) ?_
  refine lv_iload_n hx hb dL_law_1090 rfl (lv_at hl 3 rfl) ?_
  refine lv_iconst (v := (nI 3)) hx hb dL_law_1091 (by decide) ?_
  refine lv_iadd hx hb dL_law_1092 ?_
  refine va_sld hx hb hX hbl hbA hH.2 (by rw [nI_add]; exact vp_in_nI (by omega) (by omega)) dL_law_1093 ?_
  refine lv_aload_n hx hb dL_law_1094 rfl (lv_at hl 0 rfl) ?_
  refine lv_iload_n hx hb dL_law_1095 rfl (lv_at hl 3 rfl) ?_
  refine lv_iconst (v := (nI 4)) hx hb dL_law_1096 (by decide) ?_
  refine lv_iadd hx hb dL_law_1097 ?_
  refine va_sld hx hb hX hbl hbA hH.2 (by rw [nI_add]; exact vp_in_nI (by omega) (by omega)) dL_law_1098 ?_
  refine lv_aload_n hx hb dL_law_1099 rfl (lv_at hl 0 rfl) ?_
  refine lv_iload_n hx hb dL_law_1100 rfl (lv_at hl 3 rfl) ?_
  refine lv_iconst (v := (nI 5)) hx hb dL_law_1101 (by decide) ?_
  refine lv_iadd hx hb dL_law_1102 ?_
  refine va_sld hx hb hX hbl hbA hH.2 (by rw [nI_add]; exact vp_in_nI (by omega) (by omega)) dL_law_1103 ?_
  refine hv_cVL (rm := rm_X6_rain) (As := [.int (xs (ix (nI i + nI 1))), .int (xs (ix (nI i + nI 2))), .int (xs (ix (nI i + nI 3))), .int (xs (ix (nI i + nI 4))), .int (xs (ix (nI i + nI 5)))]) (rest := []) (k := 5) (ci := 6) hx hb hml hown hKK hH cf6 hI.1.1.1.1 (m_X6_rain x _ _ _ _ _ _ _ (op_rain hI (Q := fun r r' h2 => r = r' ∧ ∃ A', SI S h2 x A') (fun r A' h' hS => ⟨rfl, A', hS⟩))) cw_L_122 ⟨Nat.le_of_ble_eq_true rfl, Nat.le_of_ble_eq_true rfl⟩ rfl hl.1 rfl (Nat.le_of_ble_eq_true rfl) ⟨by show cells + 0 ≤ 600000; omega, by show slots + 0 ≤ 7302250; omega⟩ dL_law_1104 (fun r1 h1 H locs hH hw => ?_)
  refine lv_aload_n hx hb dL_law_1107 rfl (lv_at hl 2 rfl) ?_
  refine lv_aload_n hx hb dL_law_1108 rfl (lv_at hl 0 rfl) ?_
  refine lv_iload_n hx hb dL_law_1109 rfl (lv_at hl 3 rfl) ?_
  refine lv_iconst (v := (nI 1)) hx hb dL_law_1110 (by decide) ?_
  refine lv_iadd hx hb dL_law_1111 ?_
  refine va_sld hx hb hX hbl hbA hH.2 (by rw [nI_add]; exact vp_in_nI (by omega) (by omega)) dL_law_1112 ?_
  refine lv_aload_n hx hb dL_law_1113 rfl (lv_at hl 0 rfl) ?_
  refine lv_iload_n hx hb dL_law_1114 rfl (lv_at hl 3 rfl) ?_
  refine lv_iconst (v := (nI 2)) hx hb dL_law_1115 (by decide) ?_
  refine lv_iadd hx hb dL_law_1116 ?_
  refine va_sld hx hb hX hbl hbA hH.2 (by rw [nI_add]; exact vp_in_nI (by omega) (by omega)) dL_law_1117 ?_
  refine lv_aload_n hx hb dL_law_1118 rfl (lv_at hl 0 rfl) ?_
  refine lv_iload_n hx hb dL_law_1119 rfl (lv_at hl 3 rfl) ?_
  refine lv_iconst (v := (nI 3)) hx hb dL_law_1120 (by decide) ?_
  refine lv_iadd hx hb dL_law_1121 ?_
  refine va_sld hx hb hX hbl hbA hH.2 (by rw [nI_add]; exact vp_in_nI (by omega) (by omega)) dL_law_1122 ?_
  refine lv_aload_n hx hb dL_law_1123 rfl (lv_at hl 0 rfl) ?_
  refine lv_iload_n hx hb dL_law_1124 rfl (lv_at hl 3 rfl) ?_
  refine lv_iconst (v := (nI 4)) hx hb dL_law_1125 (by decide) ?_
  refine lv_iadd hx hb dL_law_1126 ?_
  refine va_sld hx hb hX hbl hbA hH.2 (by rw [nI_add]; exact vp_in_nI (by omega) (by omega)) dL_law_1127 ?_
  refine lv_aload_n hx hb dL_law_1128 rfl (lv_at hl 0 rfl) ?_
  refine lv_iload_n hx hb dL_law_1129 rfl (lv_at hl 3 rfl) ?_
  refine lv_iconst (v := (nI 5)) hx hb dL_law_1130 (by decide) ?_
  refine lv_iadd hx hb dL_law_1131 ?_
  refine va_sld hx hb hX hbl hbA hH.2 (by rw [nI_add]; exact vp_in_nI (by omega) (by omega)) dL_law_1132 ?_
  refine hv_cVL (rm := rm_X7_rain) (As := [.int (xs (ix (nI i + nI 1))), .int (xs (ix (nI i + nI 2))), .int (xs (ix (nI i + nI 3))), .int (xs (ix (nI i + nI 4))), .int (xs (ix (nI i + nI 5)))]) (rest := [.long r1]) (k := 5) (ci := 7) hx hb hml hown hKK hH cf7 hI.2.1.1.1 (m_X7_rain (x + 180) _ _ _ _ _ _ _ hw) cw_L_126 ⟨Nat.le_of_ble_eq_true rfl, Nat.le_of_ble_eq_true rfl⟩ rfl hl.1 rfl (Nat.le_of_ble_eq_true rfl) ⟨by show cells + 0 + 0 ≤ 600000; omega, by show slots + 0 + 0 ≤ 7302250; omega⟩ dL_law_1133 (fun r2 h2 H locs hH hw => ?_)
  obtain ⟨er, A', hS⟩ := hw
  refine W.lcmp hx hb dL_law_1136 ?_
  refine lv_if_eq (tgt := 1551) hx hb dL_law_1137 (by decide) (fun _ => ?_) (fun c => absurd ((lg_cmp_eq _ _).mpr er) c)
  refine W.widen (k := cells + 2) (n := slots + 20) (by show cells + 0 + 0 ≤ cells + 2; omega) (by show slots + 0 + 0 ≤ slots + 20; omega) ?_
  exact kk S sz h2 H locs A' hH hS
set_option maxHeartbeats 4000000 in
set_option maxRecDepth 100000 in
theorem lc_27 (C : LC p s m meth c b L xs Z G) {S : St} {h : Hp} {sz : Nat} {H : Heap} {locs : List Loc} {ls : Array Slot} {A : Ab} {i cells slots : Nat} (hH : HH G s.heap.size S h sz s H locs) (hl : lv_has ls 4 (LLs b x i)) (hI : SI S h x A) (hi : i + 6 ≤ L) (hc : cells + 2 ≤ 600000) (hs : slots + 20 ≤ 7302250) (kk : ∀ (S1 : St) (sz1 : Nat) (h1 : Hp) (H1 : Heap) (locs1 : List Loc) (A1 : Ab), HH G s.heap.size S1 h1 sz1 s H1 locs1 → SI S1 h1 x A1 → LW p l e s m below meth c b H1 locs1 (cells + 2) (slots + 20) (F0 m 1551 ls [])) : LW p l e s m below meth c b H locs cells slots (F0 m 1142 ls []) := by
  obtain ⟨hx, hb, hml, hown, hKK, hSK, hNK, hr, hlk, hX, hbl, hL⟩ := C
  have hbA : ¬ (fun q : Nat => s.heap.size ≤ q) b := Nat.not_le.mpr hbl
  refine lv_aload_n hx hb dL_law_1142 rfl (lv_at hl 1 rfl) ?_
  refine lv_aload_n hx hb dL_law_1143 rfl (lv_at hl 0 rfl) ?_
  refine lv_iload_n hx hb dL_law_1144 rfl (lv_at hl 3 rfl) ?_
  refine lv_iconst (v := (nI 1)) hx hb dL_law_1145 (by decide) ?_
  refine lv_iadd hx hb dL_law_1146 ?_
  refine va_sld hx hb hX hbl hbA hH.2 (by rw [nI_add]; exact vp_in_nI (by omega) (by omega)) dL_law_1147 ?_
  refine lv_aload_n hx hb dL_law_1148 rfl (lv_at hl 0 rfl) ?_
  refine lv_iload_n hx hb dL_law_1149 rfl (lv_at hl 3 rfl) ?_
  refine lv_iconst (v := (nI 2)) hx hb dL_law_1150 (by decide) ?_
  refine lv_iadd hx hb dL_law_1151 ?_
  refine va_sld hx hb hX hbl hbA hH.2 (by rw [nI_add]; exact vp_in_nI (by omega) (by omega)) dL_law_1152 ?_
  refine lv_aload_n hx hb dL_law_1153 rfl (lv_at hl 0 rfl) ?_
  refine lv_iload_n hx hb dL_law_1154 rfl (lv_at hl 3 rfl) ?_
  refine lv_iconst (v := (nI 3)) hx hb dL_law_1155 (by decide) ?_
  refine lv_iadd hx hb dL_law_1156 ?_
  refine va_sld hx hb hX hbl hbA hH.2 (by rw [nI_add]; exact vp_in_nI (by omega) (by omega)) dL_law_1157 ?_
  refine hv_cVI (rm := rm_X6_like) (As := [.int (xs (ix (nI i + nI 1))), .int (xs (ix (nI i + nI 2))), .int (xs (ix (nI i + nI 3)))]) (rest := []) (k := 3) (ci := 6) hx hb hml hown hKK hH cf6 hI.1.1.1.1 (m_X6_like x _ _ _ _ _ (op_like hI (Q := fun r r' h2 => r = r' ∧ ∃ A', SI S h2 x A') (fun r A' h' hS => ⟨rfl, A', hS⟩))) cw_L_127 ⟨Nat.le_of_ble_eq_true rfl, Nat.le_of_ble_eq_true rfl⟩ rfl hl.1 rfl (Nat.le_of_ble_eq_true rfl) ⟨by show cells + 0 ≤ 600000; omega, by show slots + 0 ≤ 7302250; omega⟩ dL_law_1158 (fun r1 h1 H locs hH hw => ?_)
  refine lv_aload_n hx hb dL_law_1161 rfl (lv_at hl 2 rfl) ?_
  refine lv_aload_n hx hb dL_law_1162 rfl (lv_at hl 0 rfl) ?_
  refine lv_iload_n hx hb dL_law_1163 rfl (lv_at hl 3 rfl) ?_
  refine lv_iconst (v := (nI 1)) hx hb dL_law_1164 (by decide) ?_
  refine lv_iadd hx hb dL_law_1165 ?_
  refine va_sld hx hb hX hbl hbA hH.2 (by rw [nI_add]; exact vp_in_nI (by omega) (by omega)) dL_law_1166 ?_
  refine lv_aload_n hx hb dL_law_1167 rfl (lv_at hl 0 rfl) ?_
  refine lv_iload_n hx hb dL_law_1168 rfl (lv_at hl 3 rfl) ?_
  refine lv_iconst (v := (nI 2)) hx hb dL_law_1169 (by decide) ?_
  refine lv_iadd hx hb dL_law_1170 ?_
  refine va_sld hx hb hX hbl hbA hH.2 (by rw [nI_add]; exact vp_in_nI (by omega) (by omega)) dL_law_1171 ?_
  refine lv_aload_n hx hb dL_law_1172 rfl (lv_at hl 0 rfl) ?_
  refine lv_iload_n hx hb dL_law_1173 rfl (lv_at hl 3 rfl) ?_
  refine lv_iconst (v := (nI 3)) hx hb dL_law_1174 (by decide) ?_
  refine lv_iadd hx hb dL_law_1175 ?_
  refine va_sld hx hb hX hbl hbA hH.2 (by rw [nI_add]; exact vp_in_nI (by omega) (by omega)) dL_law_1176 ?_
  refine hv_cVI (rm := rm_X7_like) (As := [.int (xs (ix (nI i + nI 1))), .int (xs (ix (nI i + nI 2))), .int (xs (ix (nI i + nI 3)))]) (rest := [.int r1]) (k := 3) (ci := 7) hx hb hml hown hKK hH cf7 hI.2.1.1.1 (m_X7_like (x + 180) _ _ _ _ _ hw) cw_L_130 ⟨Nat.le_of_ble_eq_true rfl, Nat.le_of_ble_eq_true rfl⟩ rfl hl.1 rfl (Nat.le_of_ble_eq_true rfl) ⟨by show cells + 0 + 0 ≤ 600000; omega, by show slots + 0 + 0 ≤ 7302250; omega⟩ dL_law_1177 (fun r2 h2 H locs hH hw => ?_)
  obtain ⟨er, A', hS⟩ := hw
  refine lv_icmp_eq (tgt := 1551) hx hb dL_law_1180 (by decide) (fun _ => ?_) (fun c => absurd er c)
  refine W.widen (k := cells + 2) (n := slots + 20) (by show cells + 0 + 0 ≤ cells + 2; omega) (by show slots + 0 + 0 ≤ slots + 20; omega) ?_
  exact kk S sz h2 H locs A' hH hS
set_option maxHeartbeats 4000000 in
set_option maxRecDepth 100000 in
theorem lc_28 (C : LC p s m meth c b L xs Z G) {S : St} {h : Hp} {sz : Nat} {H : Heap} {locs : List Loc} {ls : Array Slot} {A : Ab} {i cells slots : Nat} (hH : HH G s.heap.size S h sz s H locs) (hl : lv_has ls 4 (LLs b x i)) (hI : SI S h x A) (hi : i + 6 ≤ L) (hc : cells + 2 ≤ 600000) (hs : slots + 20 ≤ 7302250) (kk : ∀ (S1 : St) (sz1 : Nat) (h1 : Hp) (H1 : Heap) (locs1 : List Loc) (A1 : Ab), HH G s.heap.size S1 h1 sz1 s H1 locs1 → SI S1 h1 x A1 → LW p l e s m below meth c b H1 locs1 (cells + 2) (slots + 20) (F0 m 1551 ls [])) : LW p l e s m below meth c b H locs cells slots (F0 m 1185 ls []) := by
  obtain ⟨hx, hb, hml, hown, hKK, hSK, hNK, hr, hlk, hX, hbl, hL⟩ := C
  have hbA : ¬ (fun q : Nat => s.heap.size ≤ q) b := Nat.not_le.mpr hbl
  refine lv_aload_n hx hb dL_law_1185 rfl (lv_at hl 1 rfl) ?_
  refine lv_aload_n hx hb dL_law_1186 rfl (lv_at hl 0 rfl) ?_
  refine lv_iload_n hx hb dL_law_1187 rfl (lv_at hl 3 rfl) ?_
  refine lv_iconst (v := (nI 1)) hx hb dL_law_1188 (by decide) ?_
  refine lv_iadd hx hb dL_law_1189 ?_
  refine va_sld hx hb hX hbl hbA hH.2 (by rw [nI_add]; exact vp_in_nI (by omega) (by omega)) dL_law_1190 ?_
  refine hv_cVI (rm := rm_X6_rank) (As := [.int (xs (ix (nI i + nI 1)))]) (rest := []) (k := 1) (ci := 6) hx hb hml hown hKK hH cf6 hI.1.1.1.1 (m_X6_rank x _ _ _ (op_rank hI (Q := fun r r' h2 => r = r' ∧ ∃ A', SI S h2 x A') (fun r A' h' hS => ⟨rfl, A', hS⟩))) cw_L_131 ⟨Nat.le_of_ble_eq_true rfl, Nat.le_of_ble_eq_true rfl⟩ rfl hl.1 rfl (Nat.le_of_ble_eq_true rfl) ⟨by show cells + 0 ≤ 600000; omega, by show slots + 0 ≤ 7302250; omega⟩ dL_law_1191 (fun r1 h1 H locs hH hw => ?_)
  refine lv_aload_n hx hb dL_law_1194 rfl (lv_at hl 2 rfl) ?_
  refine lv_aload_n hx hb dL_law_1195 rfl (lv_at hl 0 rfl) ?_
  refine lv_iload_n hx hb dL_law_1196 rfl (lv_at hl 3 rfl) ?_
  refine lv_iconst (v := (nI 1)) hx hb dL_law_1197 (by decide) ?_
  refine lv_iadd hx hb dL_law_1198 ?_
  refine va_sld hx hb hX hbl hbA hH.2 (by rw [nI_add]; exact vp_in_nI (by omega) (by omega)) dL_law_1199 ?_
  refine hv_cVI (rm := rm_X7_rank) (As := [.int (xs (ix (nI i + nI 1)))]) (rest := [.int r1]) (k := 1) (ci := 7) hx hb hml hown hKK hH cf7 hI.2.1.1.1 (m_X7_rank (x + 180) _ _ _ hw) cw_L_134 ⟨Nat.le_of_ble_eq_true rfl, Nat.le_of_ble_eq_true rfl⟩ rfl hl.1 rfl (Nat.le_of_ble_eq_true rfl) ⟨by show cells + 0 + 0 ≤ 600000; omega, by show slots + 0 + 0 ≤ 7302250; omega⟩ dL_law_1200 (fun r2 h2 H locs hH hw => ?_)
  obtain ⟨er, A', hS⟩ := hw
  refine lv_icmp_eq (tgt := 1551) hx hb dL_law_1203 (by decide) (fun _ => ?_) (fun c => absurd er c)
  refine W.widen (k := cells + 2) (n := slots + 20) (by show cells + 0 + 0 ≤ cells + 2; omega) (by show slots + 0 + 0 ≤ slots + 20; omega) ?_
  exact kk S sz h2 H locs A' hH hS
set_option maxHeartbeats 4000000 in
set_option maxRecDepth 100000 in
theorem lc_29 (C : LC p s m meth c b L xs Z G) {S : St} {h : Hp} {sz : Nat} {H : Heap} {locs : List Loc} {ls : Array Slot} {A : Ab} {i cells slots : Nat} (hH : HH G s.heap.size S h sz s H locs) (hl : lv_has ls 4 (LLs b x i)) (hI : SI S h x A) (hi : i + 6 ≤ L) (hc : cells + 2 ≤ 600000) (hs : slots + 20 ≤ 7302250) (kk : ∀ (S1 : St) (sz1 : Nat) (h1 : Hp) (H1 : Heap) (locs1 : List Loc) (A1 : Ab), HH G s.heap.size S1 h1 sz1 s H1 locs1 → SI S1 h1 x A1 → LW p l e s m below meth c b H1 locs1 (cells + 2) (slots + 20) (F0 m 1551 ls [])) : LW p l e s m below meth c b H locs cells slots (F0 m 1208 ls []) := by
  obtain ⟨hx, hb, hml, hown, hKK, hSK, hNK, hr, hlk, hX, hbl, hL⟩ := C
  have hbA : ¬ (fun q : Nat => s.heap.size ≤ q) b := Nat.not_le.mpr hbl
  refine lv_aload_n hx hb dL_law_1208 rfl (lv_at hl 1 rfl) ?_
  refine lv_aload_n hx hb dL_law_1209 rfl (lv_at hl 0 rfl) ?_
  refine lv_iload_n hx hb dL_law_1210 rfl (lv_at hl 3 rfl) ?_
  refine lv_iconst (v := (nI 1)) hx hb dL_law_1211 (by decide) ?_
  refine lv_iadd hx hb dL_law_1212 ?_
  refine va_sld hx hb hX hbl hbA hH.2 (by rw [nI_add]; exact vp_in_nI (by omega) (by omega)) dL_law_1213 ?_
  refine lv_aload_n hx hb dL_law_1214 rfl (lv_at hl 0 rfl) ?_
  refine lv_iload_n hx hb dL_law_1215 rfl (lv_at hl 3 rfl) ?_
  refine lv_iconst (v := (nI 2)) hx hb dL_law_1216 (by decide) ?_
  refine lv_iadd hx hb dL_law_1217 ?_
  refine va_sld hx hb hX hbl hbA hH.2 (by rw [nI_add]; exact vp_in_nI (by omega) (by omega)) dL_law_1218 ?_
  have hsz := hH.ge hI
  refine hg_cVI (rm := rm_X6_line) (As := [.int (xs (ix (nI i + nI 1))), .int (xs (ix (nI i + nI 2)))]) (rest := []) (k := 2) (ci := 6) hx hb hml hown hKK hSK hNK hH cf6 hI.1.1.1.1 (m_X6_line x _ _ _ _ (op_line hI hsz (Q := fun r r' S2 h2 => r = r' ∧ ∃ A', SI S2 h2 x A') (fun r A' S' h' hS => ⟨rfl, A', hS⟩))) cw_L_135 ⟨Nat.le_of_ble_eq_true rfl, Nat.le_of_ble_eq_true rfl⟩ rfl hl.1 rfl (Nat.le_of_ble_eq_true rfl) ⟨by show cells + 2 ≤ 600000; omega, by show slots + 20 ≤ 7302250; omega⟩ dL_law_1219 (fun r1 S sz h1 H locs hH hw => ?_)
  obtain ⟨hob, hw⟩ := hw
  refine lv_aload_n hx hb dL_law_1222 rfl (lv_at hl 2 rfl) ?_
  refine lv_aload_n hx hb dL_law_1223 rfl (lv_at hl 0 rfl) ?_
  refine lv_iload_n hx hb dL_law_1224 rfl (lv_at hl 3 rfl) ?_
  refine lv_iconst (v := (nI 1)) hx hb dL_law_1225 (by decide) ?_
  refine lv_iadd hx hb dL_law_1226 ?_
  refine va_sld hx hb hX hbl hbA hH.2 (by rw [nI_add]; exact vp_in_nI (by omega) (by omega)) dL_law_1227 ?_
  refine lv_aload_n hx hb dL_law_1228 rfl (lv_at hl 0 rfl) ?_
  refine lv_iload_n hx hb dL_law_1229 rfl (lv_at hl 3 rfl) ?_
  refine lv_iconst (v := (nI 2)) hx hb dL_law_1230 (by decide) ?_
  refine lv_iadd hx hb dL_law_1231 ?_
  refine va_sld hx hb hX hbl hbA hH.2 (by rw [nI_add]; exact vp_in_nI (by omega) (by omega)) dL_law_1232 ?_
  refine hv_cVI (rm := rm_X7_line) (As := [.int (xs (ix (nI i + nI 1))), .int (xs (ix (nI i + nI 2)))]) (rest := [.int r1]) (k := 2) (ci := 7) hx hb hml hown hKK hH cf7 hob (m_X7_line (x + 180) _ _ _ _ hw) cw_L_138 ⟨Nat.le_of_ble_eq_true rfl, Nat.le_of_ble_eq_true rfl⟩ rfl hl.1 rfl (Nat.le_of_ble_eq_true rfl) ⟨by show cells + 2 + 0 ≤ 600000; omega, by show slots + 20 + 0 ≤ 7302250; omega⟩ dL_law_1233 (fun r2 h2 H locs hH hw => ?_)
  obtain ⟨er, A', hS⟩ := hw
  refine lv_icmp_eq (tgt := 1551) hx hb dL_law_1236 (by decide) (fun _ => ?_) (fun c => absurd er c)
  refine W.widen (k := cells + 2) (n := slots + 20) (by show cells + 2 + 0 ≤ cells + 2; omega) (by show slots + 20 + 0 ≤ slots + 20; omega) ?_
  exact kk S sz h2 H locs A' hH hS
set_option maxHeartbeats 4000000 in
set_option maxRecDepth 100000 in
theorem lc_30 (C : LC p s m meth c b L xs Z G) {S : St} {h : Hp} {sz : Nat} {H : Heap} {locs : List Loc} {ls : Array Slot} {A : Ab} {i cells slots : Nat} (hH : HH G s.heap.size S h sz s H locs) (hl : lv_has ls 4 (LLs b x i)) (hI : SI S h x A) (hi : i + 6 ≤ L) (hc : cells + 2 ≤ 600000) (hs : slots + 20 ≤ 7302250) (kk : ∀ (S1 : St) (sz1 : Nat) (h1 : Hp) (H1 : Heap) (locs1 : List Loc) (A1 : Ab), HH G s.heap.size S1 h1 sz1 s H1 locs1 → SI S1 h1 x A1 → LW p l e s m below meth c b H1 locs1 (cells + 2) (slots + 20) (F0 m 1551 ls [])) : LW p l e s m below meth c b H locs cells slots (F0 m 1241 ls []) := by
  obtain ⟨hx, hb, hml, hown, hKK, hSK, hNK, hr, hlk, hX, hbl, hL⟩ := C
  have hbA : ¬ (fun q : Nat => s.heap.size ≤ q) b := Nat.not_le.mpr hbl
  refine lv_aload_n hx hb dL_law_1241 rfl (lv_at hl 1 rfl) ?_
  refine lv_aload_n hx hb dL_law_1242 rfl (lv_at hl 0 rfl) ?_
  refine lv_iload_n hx hb dL_law_1243 rfl (lv_at hl 3 rfl) ?_
  refine lv_iconst (v := (nI 1)) hx hb dL_law_1244 (by decide) ?_
  refine lv_iadd hx hb dL_law_1245 ?_
  refine va_sld hx hb hX hbl hbA hH.2 (by rw [nI_add]; exact vp_in_nI (by omega) (by omega)) dL_law_1246 ?_
  refine hv_cVI (rm := rm_X6_power) (As := [.int (xs (ix (nI i + nI 1)))]) (rest := []) (k := 1) (ci := 6) hx hb hml hown hKK hH cf6 hI.1.1.1.1 (m_X6_power x _ _ _ (op_power hI (Q := fun r r' h2 => r = r' ∧ ∃ A', SI S h2 x A') (fun r A' h' hS => ⟨rfl, A', hS⟩))) cw_L_139 ⟨Nat.le_of_ble_eq_true rfl, Nat.le_of_ble_eq_true rfl⟩ rfl hl.1 rfl (Nat.le_of_ble_eq_true rfl) ⟨by show cells + 0 ≤ 600000; omega, by show slots + 0 ≤ 7302250; omega⟩ dL_law_1247 (fun r1 h1 H locs hH hw => ?_)
  refine lv_aload_n hx hb dL_law_1250 rfl (lv_at hl 2 rfl) ?_
  refine lv_aload_n hx hb dL_law_1251 rfl (lv_at hl 0 rfl) ?_
  refine lv_iload_n hx hb dL_law_1252 rfl (lv_at hl 3 rfl) ?_
  refine lv_iconst (v := (nI 1)) hx hb dL_law_1253 (by decide) ?_
  refine lv_iadd hx hb dL_law_1254 ?_
  refine va_sld hx hb hX hbl hbA hH.2 (by rw [nI_add]; exact vp_in_nI (by omega) (by omega)) dL_law_1255 ?_
  refine hv_cVI (rm := rm_X7_power) (As := [.int (xs (ix (nI i + nI 1)))]) (rest := [.int r1]) (k := 1) (ci := 7) hx hb hml hown hKK hH cf7 hI.2.1.1.1 (m_X7_power (x + 180) _ _ _ hw) cw_L_142 ⟨Nat.le_of_ble_eq_true rfl, Nat.le_of_ble_eq_true rfl⟩ rfl hl.1 rfl (Nat.le_of_ble_eq_true rfl) ⟨by show cells + 0 + 0 ≤ 600000; omega, by show slots + 0 + 0 ≤ 7302250; omega⟩ dL_law_1256 (fun r2 h2 H locs hH hw => ?_)
  obtain ⟨er, A', hS⟩ := hw
  refine lv_icmp_eq (tgt := 1551) hx hb dL_law_1259 (by decide) (fun _ => ?_) (fun c => absurd er c)
  refine W.widen (k := cells + 2) (n := slots + 20) (by show cells + 0 + 0 ≤ cells + 2; omega) (by show slots + 0 + 0 ≤ slots + 20; omega) ?_
  exact kk S sz h2 H locs A' hH hS
set_option maxHeartbeats 4000000 in
set_option maxRecDepth 100000 in
theorem lc_31 (C : LC p s m meth c b L xs Z G) {S : St} {h : Hp} {sz : Nat} {H : Heap} {locs : List Loc} {ls : Array Slot} {A : Ab} {i cells slots : Nat} (hH : HH G s.heap.size S h sz s H locs) (hl : lv_has ls 4 (LLs b x i)) (hI : SI S h x A) (hi : i + 6 ≤ L) (hc : cells + 2 ≤ 600000) (hs : slots + 20 ≤ 7302250) (kk : ∀ (S1 : St) (sz1 : Nat) (h1 : Hp) (H1 : Heap) (locs1 : List Loc) (A1 : Ab), HH G s.heap.size S1 h1 sz1 s H1 locs1 → SI S1 h1 x A1 → LW p l e s m below meth c b H1 locs1 (cells + 2) (slots + 20) (F0 m 1551 ls [])) : LW p l e s m below meth c b H locs cells slots (F0 m 1264 ls []) := by
  obtain ⟨hx, hb, hml, hown, hKK, hSK, hNK, hr, hlk, hX, hbl, hL⟩ := C
  have hbA : ¬ (fun q : Nat => s.heap.size ≤ q) b := Nat.not_le.mpr hbl
  refine lv_aload_n hx hb dL_law_1264 rfl (lv_at hl 1 rfl) ?_
  refine lv_aload_n hx hb dL_law_1265 rfl (lv_at hl 0 rfl) ?_
  refine lv_iload_n hx hb dL_law_1266 rfl (lv_at hl 3 rfl) ?_
  refine lv_iconst (v := (nI 1)) hx hb dL_law_1267 (by decide) ?_
  refine lv_iadd hx hb dL_law_1268 ?_
  refine va_sld hx hb hX hbl hbA hH.2 (by rw [nI_add]; exact vp_in_nI (by omega) (by omega)) dL_law_1269 ?_
  refine lv_aload_n hx hb dL_law_1270 rfl (lv_at hl 0 rfl) ?_
  refine lv_iload_n hx hb dL_law_1271 rfl (lv_at hl 3 rfl) ?_
  refine lv_iconst (v := (nI 2)) hx hb dL_law_1272 (by decide) ?_
  refine lv_iadd hx hb dL_law_1273 ?_
  refine va_sld hx hb hX hbl hbA hH.2 (by rw [nI_add]; exact vp_in_nI (by omega) (by omega)) dL_law_1274 ?_
  refine hv_cVL (rm := rm_X6_share) (As := [.int (xs (ix (nI i + nI 1))), .int (xs (ix (nI i + nI 2)))]) (rest := []) (k := 2) (ci := 6) hx hb hml hown hKK hH cf6 hI.1.1.1.1 (m_X6_share x _ _ _ _ (op_share hI (Q := fun r r' h2 => r = r' ∧ ∃ A', SI S h2 x A') (fun r A' h' hS => ⟨rfl, A', hS⟩))) cw_L_143 ⟨Nat.le_of_ble_eq_true rfl, Nat.le_of_ble_eq_true rfl⟩ rfl hl.1 rfl (Nat.le_of_ble_eq_true rfl) ⟨by show cells + 0 ≤ 600000; omega, by show slots + 0 ≤ 7302250; omega⟩ dL_law_1275 (fun r1 h1 H locs hH hw => ?_)
  refine lv_aload_n hx hb dL_law_1278 rfl (lv_at hl 2 rfl) ?_
  refine lv_aload_n hx hb dL_law_1279 rfl (lv_at hl 0 rfl) ?_
  refine lv_iload_n hx hb dL_law_1280 rfl (lv_at hl 3 rfl) ?_
  refine lv_iconst (v := (nI 1)) hx hb dL_law_1281 (by decide) ?_
  refine lv_iadd hx hb dL_law_1282 ?_
  refine va_sld hx hb hX hbl hbA hH.2 (by rw [nI_add]; exact vp_in_nI (by omega) (by omega)) dL_law_1283 ?_
  refine lv_aload_n hx hb dL_law_1284 rfl (lv_at hl 0 rfl) ?_
  refine lv_iload_n hx hb dL_law_1285 rfl (lv_at hl 3 rfl) ?_
  refine lv_iconst (v := (nI 2)) hx hb dL_law_1286 (by decide) ?_
  refine lv_iadd hx hb dL_law_1287 ?_
  refine va_sld hx hb hX hbl hbA hH.2 (by rw [nI_add]; exact vp_in_nI (by omega) (by omega)) dL_law_1288 ?_
  refine hv_cVL (rm := rm_X7_share) (As := [.int (xs (ix (nI i + nI 1))), .int (xs (ix (nI i + nI 2)))]) (rest := [.long r1]) (k := 2) (ci := 7) hx hb hml hown hKK hH cf7 hI.2.1.1.1 (m_X7_share (x + 180) _ _ _ _ hw) cw_L_147 ⟨Nat.le_of_ble_eq_true rfl, Nat.le_of_ble_eq_true rfl⟩ rfl hl.1 rfl (Nat.le_of_ble_eq_true rfl) ⟨by show cells + 0 + 0 ≤ 600000; omega, by show slots + 0 + 0 ≤ 7302250; omega⟩ dL_law_1289 (fun r2 h2 H locs hH hw => ?_)
  obtain ⟨er, A', hS⟩ := hw
  refine W.lcmp hx hb dL_law_1292 ?_
  refine lv_if_eq (tgt := 1551) hx hb dL_law_1293 (by decide) (fun _ => ?_) (fun c => absurd ((lg_cmp_eq _ _).mpr er) c)
  refine W.widen (k := cells + 2) (n := slots + 20) (by show cells + 0 + 0 ≤ cells + 2; omega) (by show slots + 0 + 0 ≤ slots + 20; omega) ?_
  exact kk S sz h2 H locs A' hH hS
set_option maxHeartbeats 4000000 in
set_option maxRecDepth 100000 in
theorem lc_32 (C : LC p s m meth c b L xs Z G) {S : St} {h : Hp} {sz : Nat} {H : Heap} {locs : List Loc} {ls : Array Slot} {A : Ab} {i cells slots : Nat} (hH : HH G s.heap.size S h sz s H locs) (hl : lv_has ls 4 (LLs b x i)) (hI : SI S h x A) (hi : i + 6 ≤ L) (hc : cells + 2 ≤ 600000) (hs : slots + 20 ≤ 7302250) (kk : ∀ (S1 : St) (sz1 : Nat) (h1 : Hp) (H1 : Heap) (locs1 : List Loc) (A1 : Ab), HH G s.heap.size S1 h1 sz1 s H1 locs1 → SI S1 h1 x A1 → LW p l e s m below meth c b H1 locs1 (cells + 2) (slots + 20) (F0 m 1551 ls [])) : LW p l e s m below meth c b H locs cells slots (F0 m 1298 ls []) := by
  obtain ⟨hx, hb, hml, hown, hKK, hSK, hNK, hr, hlk, hX, hbl, hL⟩ := C
  have hbA : ¬ (fun q : Nat => s.heap.size ≤ q) b := Nat.not_le.mpr hbl
  refine lv_aload_n hx hb dL_law_1298 rfl (lv_at hl 1 rfl) ?_
  refine lv_aload_n hx hb dL_law_1299 rfl (lv_at hl 0 rfl) ?_
  refine lv_iload_n hx hb dL_law_1300 rfl (lv_at hl 3 rfl) ?_
  refine lv_iconst (v := (nI 1)) hx hb dL_law_1301 (by decide) ?_
  refine lv_iadd hx hb dL_law_1302 ?_
  refine va_sld hx hb hX hbl hbA hH.2 (by rw [nI_add]; exact vp_in_nI (by omega) (by omega)) dL_law_1303 ?_
  refine lv_aload_n hx hb dL_law_1304 rfl (lv_at hl 0 rfl) ?_
  refine lv_iload_n hx hb dL_law_1305 rfl (lv_at hl 3 rfl) ?_
  refine lv_iconst (v := (nI 2)) hx hb dL_law_1306 (by decide) ?_
  refine lv_iadd hx hb dL_law_1307 ?_
  refine va_sld hx hb hX hbl hbA hH.2 (by rw [nI_add]; exact vp_in_nI (by omega) (by omega)) dL_law_1308 ?_
  refine hv_cVI (rm := rm_X6_nearest) (As := [.int (xs (ix (nI i + nI 1))), .int (xs (ix (nI i + nI 2)))]) (rest := []) (k := 2) (ci := 6) hx hb hml hown hKK hH cf6 hI.1.1.1.1 (m_X6_nearest x _ _ _ _ (op_nearest hI (Q := fun r r' h2 => r = r' ∧ ∃ A', SI S h2 x A') (fun r A' h' hS => ⟨rfl, A', hS⟩))) cw_L_148 ⟨Nat.le_of_ble_eq_true rfl, Nat.le_of_ble_eq_true rfl⟩ rfl hl.1 rfl (Nat.le_of_ble_eq_true rfl) ⟨by show cells + 0 ≤ 600000; omega, by show slots + 0 ≤ 7302250; omega⟩ dL_law_1309 (fun r1 h1 H locs hH hw => ?_)
  refine lv_aload_n hx hb dL_law_1312 rfl (lv_at hl 2 rfl) ?_
  refine lv_aload_n hx hb dL_law_1313 rfl (lv_at hl 0 rfl) ?_
  refine lv_iload_n hx hb dL_law_1314 rfl (lv_at hl 3 rfl) ?_
  refine lv_iconst (v := (nI 1)) hx hb dL_law_1315 (by decide) ?_
  refine lv_iadd hx hb dL_law_1316 ?_
  refine va_sld hx hb hX hbl hbA hH.2 (by rw [nI_add]; exact vp_in_nI (by omega) (by omega)) dL_law_1317 ?_
  refine lv_aload_n hx hb dL_law_1318 rfl (lv_at hl 0 rfl) ?_
  refine lv_iload_n hx hb dL_law_1319 rfl (lv_at hl 3 rfl) ?_
  refine lv_iconst (v := (nI 2)) hx hb dL_law_1320 (by decide) ?_
  refine lv_iadd hx hb dL_law_1321 ?_
  refine va_sld hx hb hX hbl hbA hH.2 (by rw [nI_add]; exact vp_in_nI (by omega) (by omega)) dL_law_1322 ?_
  refine hv_cVI (rm := rm_X7_nearest) (As := [.int (xs (ix (nI i + nI 1))), .int (xs (ix (nI i + nI 2)))]) (rest := [.int r1]) (k := 2) (ci := 7) hx hb hml hown hKK hH cf7 hI.2.1.1.1 (m_X7_nearest (x + 180) _ _ _ _ hw) cw_L_151 ⟨Nat.le_of_ble_eq_true rfl, Nat.le_of_ble_eq_true rfl⟩ rfl hl.1 rfl (Nat.le_of_ble_eq_true rfl) ⟨by show cells + 0 + 0 ≤ 600000; omega, by show slots + 0 + 0 ≤ 7302250; omega⟩ dL_law_1323 (fun r2 h2 H locs hH hw => ?_)
  obtain ⟨er, A', hS⟩ := hw
  refine lv_icmp_eq (tgt := 1551) hx hb dL_law_1326 (by decide) (fun _ => ?_) (fun c => absurd er c)
  refine W.widen (k := cells + 2) (n := slots + 20) (by show cells + 0 + 0 ≤ cells + 2; omega) (by show slots + 0 + 0 ≤ slots + 20; omega) ?_
  exact kk S sz h2 H locs A' hH hS
set_option maxHeartbeats 4000000 in
set_option maxRecDepth 100000 in
theorem lc_33 (C : LC p s m meth c b L xs Z G) {S : St} {h : Hp} {sz : Nat} {H : Heap} {locs : List Loc} {ls : Array Slot} {A : Ab} {i cells slots : Nat} (hH : HH G s.heap.size S h sz s H locs) (hl : lv_has ls 4 (LLs b x i)) (hI : SI S h x A) (hi : i + 6 ≤ L) (hc : cells + 2 ≤ 600000) (hs : slots + 20 ≤ 7302250) (kk : ∀ (S1 : St) (sz1 : Nat) (h1 : Hp) (H1 : Heap) (locs1 : List Loc) (A1 : Ab), HH G s.heap.size S1 h1 sz1 s H1 locs1 → SI S1 h1 x A1 → LW p l e s m below meth c b H1 locs1 (cells + 2) (slots + 20) (F0 m 1551 ls [])) : LW p l e s m below meth c b H locs cells slots (F0 m 1331 ls []) := by
  obtain ⟨hx, hb, hml, hown, hKK, hSK, hNK, hr, hlk, hX, hbl, hL⟩ := C
  have hbA : ¬ (fun q : Nat => s.heap.size ≤ q) b := Nat.not_le.mpr hbl
  refine lv_aload_n hx hb dL_law_1331 rfl (lv_at hl 1 rfl) ?_
  refine lv_aload_n hx hb dL_law_1332 rfl (lv_at hl 0 rfl) ?_
  refine lv_iload_n hx hb dL_law_1333 rfl (lv_at hl 3 rfl) ?_
  refine lv_iconst (v := (nI 1)) hx hb dL_law_1334 (by decide) ?_
  refine lv_iadd hx hb dL_law_1335 ?_
  refine va_sld hx hb hX hbl hbA hH.2 (by rw [nI_add]; exact vp_in_nI (by omega) (by omega)) dL_law_1336 ?_
  refine lv_aload_n hx hb dL_law_1337 rfl (lv_at hl 0 rfl) ?_
  refine lv_iload_n hx hb dL_law_1338 rfl (lv_at hl 3 rfl) ?_
  refine lv_iconst (v := (nI 2)) hx hb dL_law_1339 (by decide) ?_
  refine lv_iadd hx hb dL_law_1340 ?_
  refine va_sld hx hb hX hbl hbA hH.2 (by rw [nI_add]; exact vp_in_nI (by omega) (by omega)) dL_law_1341 ?_
  refine hv_cVI (rm := rm_X6_way) (As := [.int (xs (ix (nI i + nI 1))), .int (xs (ix (nI i + nI 2)))]) (rest := []) (k := 2) (ci := 6) hx hb hml hown hKK hH cf6 hI.1.1.1.1 (m_X6_way x _ _ _ _ (op_way hI (Q := fun r r' h2 => r = r' ∧ ∃ A', SI S h2 x A') (fun r A' h' hS => ⟨rfl, A', hS⟩))) cw_L_152 ⟨Nat.le_of_ble_eq_true rfl, Nat.le_of_ble_eq_true rfl⟩ rfl hl.1 rfl (Nat.le_of_ble_eq_true rfl) ⟨by show cells + 0 ≤ 600000; omega, by show slots + 0 ≤ 7302250; omega⟩ dL_law_1342 (fun r1 h1 H locs hH hw => ?_)
  refine lv_aload_n hx hb dL_law_1345 rfl (lv_at hl 2 rfl) ?_
  refine lv_aload_n hx hb dL_law_1346 rfl (lv_at hl 0 rfl) ?_
  refine lv_iload_n hx hb dL_law_1347 rfl (lv_at hl 3 rfl) ?_
  refine lv_iconst (v := (nI 1)) hx hb dL_law_1348 (by decide) ?_
  refine lv_iadd hx hb dL_law_1349 ?_
  refine va_sld hx hb hX hbl hbA hH.2 (by rw [nI_add]; exact vp_in_nI (by omega) (by omega)) dL_law_1350 ?_
  refine lv_aload_n hx hb dL_law_1351 rfl (lv_at hl 0 rfl) ?_
  refine lv_iload_n hx hb dL_law_1352 rfl (lv_at hl 3 rfl) ?_
  refine lv_iconst (v := (nI 2)) hx hb dL_law_1353 (by decide) ?_
  refine lv_iadd hx hb dL_law_1354 ?_
  refine va_sld hx hb hX hbl hbA hH.2 (by rw [nI_add]; exact vp_in_nI (by omega) (by omega)) dL_law_1355 ?_
  refine hv_cVI (rm := rm_X7_way) (As := [.int (xs (ix (nI i + nI 1))), .int (xs (ix (nI i + nI 2)))]) (rest := [.int r1]) (k := 2) (ci := 7) hx hb hml hown hKK hH cf7 hI.2.1.1.1 (m_X7_way (x + 180) _ _ _ _ hw) cw_L_155 ⟨Nat.le_of_ble_eq_true rfl, Nat.le_of_ble_eq_true rfl⟩ rfl hl.1 rfl (Nat.le_of_ble_eq_true rfl) ⟨by show cells + 0 + 0 ≤ 600000; omega, by show slots + 0 + 0 ≤ 7302250; omega⟩ dL_law_1356 (fun r2 h2 H locs hH hw => ?_)
  obtain ⟨er, A', hS⟩ := hw
  refine lv_icmp_eq (tgt := 1551) hx hb dL_law_1359 (by decide) (fun _ => ?_) (fun c => absurd er c)
  refine W.widen (k := cells + 2) (n := slots + 20) (by show cells + 0 + 0 ≤ cells + 2; omega) (by show slots + 0 + 0 ≤ slots + 20; omega) ?_
  exact kk S sz h2 H locs A' hH hS
set_option maxHeartbeats 4000000 in
set_option maxRecDepth 100000 in
theorem lc_34 (C : LC p s m meth c b L xs Z G) {S : St} {h : Hp} {sz : Nat} {H : Heap} {locs : List Loc} {ls : Array Slot} {A : Ab} {i cells slots : Nat} (hH : HH G s.heap.size S h sz s H locs) (hl : lv_has ls 4 (LLs b x i)) (hI : SI S h x A) (hi : i + 6 ≤ L) (hc : cells + 2 ≤ 600000) (hs : slots + 20 ≤ 7302250) (kk : ∀ (S1 : St) (sz1 : Nat) (h1 : Hp) (H1 : Heap) (locs1 : List Loc) (A1 : Ab), HH G s.heap.size S1 h1 sz1 s H1 locs1 → SI S1 h1 x A1 → LW p l e s m below meth c b H1 locs1 (cells + 2) (slots + 20) (F0 m 1551 ls [])) : LW p l e s m below meth c b H locs cells slots (F0 m 1364 ls []) := by
  obtain ⟨hx, hb, hml, hown, hKK, hSK, hNK, hr, hlk, hX, hbl, hL⟩ := C
  have hbA : ¬ (fun q : Nat => s.heap.size ≤ q) b := Nat.not_le.mpr hbl
  refine lv_aload_n hx hb dL_law_1364 rfl (lv_at hl 1 rfl) ?_
  refine lv_aload_n hx hb dL_law_1365 rfl (lv_at hl 0 rfl) ?_
  refine lv_iload_n hx hb dL_law_1366 rfl (lv_at hl 3 rfl) ?_
  refine lv_iconst (v := (nI 1)) hx hb dL_law_1367 (by decide) ?_
  refine lv_iadd hx hb dL_law_1368 ?_
  refine va_sld hx hb hX hbl hbA hH.2 (by rw [nI_add]; exact vp_in_nI (by omega) (by omega)) dL_law_1369 ?_
  refine hv_cVI (rm := rm_X6_sight) (As := [.int (xs (ix (nI i + nI 1)))]) (rest := []) (k := 1) (ci := 6) hx hb hml hown hKK hH cf6 hI.1.1.1.1 (m_X6_sight x _ _ _ (op_sight hI (Q := fun r r' h2 => r = r' ∧ ∃ A', SI S h2 x A') (fun r A' h' hS => ⟨rfl, A', hS⟩))) cw_L_156 ⟨Nat.le_of_ble_eq_true rfl, Nat.le_of_ble_eq_true rfl⟩ rfl hl.1 rfl (Nat.le_of_ble_eq_true rfl) ⟨by show cells + 0 ≤ 600000; omega, by show slots + 0 ≤ 7302250; omega⟩ dL_law_1370 (fun r1 h1 H locs hH hw => ?_)
  refine lv_aload_n hx hb dL_law_1373 rfl (lv_at hl 2 rfl) ?_
  refine lv_aload_n hx hb dL_law_1374 rfl (lv_at hl 0 rfl) ?_
  refine lv_iload_n hx hb dL_law_1375 rfl (lv_at hl 3 rfl) ?_
  refine lv_iconst (v := (nI 1)) hx hb dL_law_1376 (by decide) ?_
  refine lv_iadd hx hb dL_law_1377 ?_
  refine va_sld hx hb hX hbl hbA hH.2 (by rw [nI_add]; exact vp_in_nI (by omega) (by omega)) dL_law_1378 ?_
  refine hv_cVI (rm := rm_X7_sight) (As := [.int (xs (ix (nI i + nI 1)))]) (rest := [.int r1]) (k := 1) (ci := 7) hx hb hml hown hKK hH cf7 hI.2.1.1.1 (m_X7_sight (x + 180) _ _ _ hw) cw_L_159 ⟨Nat.le_of_ble_eq_true rfl, Nat.le_of_ble_eq_true rfl⟩ rfl hl.1 rfl (Nat.le_of_ble_eq_true rfl) ⟨by show cells + 0 + 0 ≤ 600000; omega, by show slots + 0 + 0 ≤ 7302250; omega⟩ dL_law_1379 (fun r2 h2 H locs hH hw => ?_)
  obtain ⟨er, A', hS⟩ := hw
  refine lv_icmp_eq (tgt := 1551) hx hb dL_law_1382 (by decide) (fun _ => ?_) (fun c => absurd er c)
  refine W.widen (k := cells + 2) (n := slots + 20) (by show cells + 0 + 0 ≤ cells + 2; omega) (by show slots + 0 + 0 ≤ slots + 20; omega) ?_
  exact kk S sz h2 H locs A' hH hS
set_option maxHeartbeats 4000000 in
set_option maxRecDepth 100000 in
theorem lc_35 (C : LC p s m meth c b L xs Z G) {S : St} {h : Hp} {sz : Nat} {H : Heap} {locs : List Loc} {ls : Array Slot} {A : Ab} {i cells slots : Nat} (hH : HH G s.heap.size S h sz s H locs) (hl : lv_has ls 4 (LLs b x i)) (hI : SI S h x A) (hi : i + 6 ≤ L) (hc : cells + 2 ≤ 600000) (hs : slots + 20 ≤ 7302250) (kk : ∀ (S1 : St) (sz1 : Nat) (h1 : Hp) (H1 : Heap) (locs1 : List Loc) (A1 : Ab), HH G s.heap.size S1 h1 sz1 s H1 locs1 → SI S1 h1 x A1 → LW p l e s m below meth c b H1 locs1 (cells + 2) (slots + 20) (F0 m 1551 ls [])) : LW p l e s m below meth c b H locs cells slots (F0 m 1387 ls []) := by
  obtain ⟨hx, hb, hml, hown, hKK, hSK, hNK, hr, hlk, hX, hbl, hL⟩ := C
  have hbA : ¬ (fun q : Nat => s.heap.size ≤ q) b := Nat.not_le.mpr hbl
  refine lv_aload_n hx hb dL_law_1387 rfl (lv_at hl 1 rfl) ?_
  refine lv_aload_n hx hb dL_law_1388 rfl (lv_at hl 0 rfl) ?_
  refine lv_iload_n hx hb dL_law_1389 rfl (lv_at hl 3 rfl) ?_
  refine lv_iconst (v := (nI 1)) hx hb dL_law_1390 (by decide) ?_
  refine lv_iadd hx hb dL_law_1391 ?_
  refine va_sld hx hb hX hbl hbA hH.2 (by rw [nI_add]; exact vp_in_nI (by omega) (by omega)) dL_law_1392 ?_
  refine hv_cVI (rm := rm_X6_kinds) (As := [.int (xs (ix (nI i + nI 1)))]) (rest := []) (k := 1) (ci := 6) hx hb hml hown hKK hH cf6 hI.1.1.1.1 (m_X6_kinds x _ _ _ (op_kinds hI (Q := fun r r' h2 => r = r' ∧ ∃ A', SI S h2 x A') (fun r A' h' hS => ⟨rfl, A', hS⟩))) cw_L_160 ⟨Nat.le_of_ble_eq_true rfl, Nat.le_of_ble_eq_true rfl⟩ rfl hl.1 rfl (Nat.le_of_ble_eq_true rfl) ⟨by show cells + 0 ≤ 600000; omega, by show slots + 0 ≤ 7302250; omega⟩ dL_law_1393 (fun r1 h1 H locs hH hw => ?_)
  refine lv_aload_n hx hb dL_law_1396 rfl (lv_at hl 2 rfl) ?_
  refine lv_aload_n hx hb dL_law_1397 rfl (lv_at hl 0 rfl) ?_
  refine lv_iload_n hx hb dL_law_1398 rfl (lv_at hl 3 rfl) ?_
  refine lv_iconst (v := (nI 1)) hx hb dL_law_1399 (by decide) ?_
  refine lv_iadd hx hb dL_law_1400 ?_
  refine va_sld hx hb hX hbl hbA hH.2 (by rw [nI_add]; exact vp_in_nI (by omega) (by omega)) dL_law_1401 ?_
  refine hv_cVI (rm := rm_X7_kinds) (As := [.int (xs (ix (nI i + nI 1)))]) (rest := [.int r1]) (k := 1) (ci := 7) hx hb hml hown hKK hH cf7 hI.2.1.1.1 (m_X7_kinds (x + 180) _ _ _ hw) cw_L_163 ⟨Nat.le_of_ble_eq_true rfl, Nat.le_of_ble_eq_true rfl⟩ rfl hl.1 rfl (Nat.le_of_ble_eq_true rfl) ⟨by show cells + 0 + 0 ≤ 600000; omega, by show slots + 0 + 0 ≤ 7302250; omega⟩ dL_law_1402 (fun r2 h2 H locs hH hw => ?_)
  obtain ⟨er, A', hS⟩ := hw
  refine lv_icmp_eq (tgt := 1551) hx hb dL_law_1405 (by decide) (fun _ => ?_) (fun c => absurd er c)
  refine W.widen (k := cells + 2) (n := slots + 20) (by show cells + 0 + 0 ≤ cells + 2; omega) (by show slots + 0 + 0 ≤ slots + 20; omega) ?_
  exact kk S sz h2 H locs A' hH hS
set_option maxHeartbeats 4000000 in
set_option maxRecDepth 100000 in
theorem lc_36 (C : LC p s m meth c b L xs Z G) {S : St} {h : Hp} {sz : Nat} {H : Heap} {locs : List Loc} {ls : Array Slot} {A : Ab} {i cells slots : Nat} (hH : HH G s.heap.size S h sz s H locs) (hl : lv_has ls 4 (LLs b x i)) (hI : SI S h x A) (hi : i + 6 ≤ L) (hc : cells + 2 ≤ 600000) (hs : slots + 20 ≤ 7302250) (kk : ∀ (S1 : St) (sz1 : Nat) (h1 : Hp) (H1 : Heap) (locs1 : List Loc) (A1 : Ab), HH G s.heap.size S1 h1 sz1 s H1 locs1 → SI S1 h1 x A1 → LW p l e s m below meth c b H1 locs1 (cells + 2) (slots + 20) (F0 m 1551 ls [])) : LW p l e s m below meth c b H locs cells slots (F0 m 1410 ls []) := by
  obtain ⟨hx, hb, hml, hown, hKK, hSK, hNK, hr, hlk, hX, hbl, hL⟩ := C
  have hbA : ¬ (fun q : Nat => s.heap.size ≤ q) b := Nat.not_le.mpr hbl
  refine lv_aload_n hx hb dL_law_1410 rfl (lv_at hl 1 rfl) ?_
  refine lv_aload_n hx hb dL_law_1411 rfl (lv_at hl 0 rfl) ?_
  refine lv_iload_n hx hb dL_law_1412 rfl (lv_at hl 3 rfl) ?_
  refine lv_iconst (v := (nI 1)) hx hb dL_law_1413 (by decide) ?_
  refine lv_iadd hx hb dL_law_1414 ?_
  refine va_sld hx hb hX hbl hbA hH.2 (by rw [nI_add]; exact vp_in_nI (by omega) (by omega)) dL_law_1415 ?_
  refine hv_cVI (rm := rm_X6_row) (As := [.int (xs (ix (nI i + nI 1)))]) (rest := []) (k := 1) (ci := 6) hx hb hml hown hKK hH cf6 hI.1.1.1.1 (m_X6_row x _ _ _ (op_row hI (Q := fun r r' h2 => r = r' ∧ ∃ A', SI S h2 x A') (fun r A' h' hS => ⟨rfl, A', hS⟩))) cw_L_164 ⟨Nat.le_of_ble_eq_true rfl, Nat.le_of_ble_eq_true rfl⟩ rfl hl.1 rfl (Nat.le_of_ble_eq_true rfl) ⟨by show cells + 0 ≤ 600000; omega, by show slots + 0 ≤ 7302250; omega⟩ dL_law_1416 (fun r1 h1 H locs hH hw => ?_)
  refine lv_aload_n hx hb dL_law_1419 rfl (lv_at hl 2 rfl) ?_
  refine lv_aload_n hx hb dL_law_1420 rfl (lv_at hl 0 rfl) ?_
  refine lv_iload_n hx hb dL_law_1421 rfl (lv_at hl 3 rfl) ?_
  refine lv_iconst (v := (nI 1)) hx hb dL_law_1422 (by decide) ?_
  refine lv_iadd hx hb dL_law_1423 ?_
  refine va_sld hx hb hX hbl hbA hH.2 (by rw [nI_add]; exact vp_in_nI (by omega) (by omega)) dL_law_1424 ?_
  refine hv_cVI (rm := rm_X7_row) (As := [.int (xs (ix (nI i + nI 1)))]) (rest := [.int r1]) (k := 1) (ci := 7) hx hb hml hown hKK hH cf7 hI.2.1.1.1 (m_X7_row (x + 180) _ _ _ hw) cw_L_167 ⟨Nat.le_of_ble_eq_true rfl, Nat.le_of_ble_eq_true rfl⟩ rfl hl.1 rfl (Nat.le_of_ble_eq_true rfl) ⟨by show cells + 0 + 0 ≤ 600000; omega, by show slots + 0 + 0 ≤ 7302250; omega⟩ dL_law_1425 (fun r2 h2 H locs hH hw => ?_)
  obtain ⟨er, A', hS⟩ := hw
  refine lv_icmp_eq (tgt := 1551) hx hb dL_law_1428 (by decide) (fun _ => ?_) (fun c => absurd er c)
  refine W.widen (k := cells + 2) (n := slots + 20) (by show cells + 0 + 0 ≤ cells + 2; omega) (by show slots + 0 + 0 ≤ slots + 20; omega) ?_
  exact kk S sz h2 H locs A' hH hS
set_option maxHeartbeats 4000000 in
set_option maxRecDepth 100000 in
theorem lc_37 (C : LC p s m meth c b L xs Z G) {S : St} {h : Hp} {sz : Nat} {H : Heap} {locs : List Loc} {ls : Array Slot} {A : Ab} {i cells slots : Nat} (hH : HH G s.heap.size S h sz s H locs) (hl : lv_has ls 4 (LLs b x i)) (hI : SI S h x A) (hi : i + 6 ≤ L) (hc : cells + 2 ≤ 600000) (hs : slots + 20 ≤ 7302250) (kk : ∀ (S1 : St) (sz1 : Nat) (h1 : Hp) (H1 : Heap) (locs1 : List Loc) (A1 : Ab), HH G s.heap.size S1 h1 sz1 s H1 locs1 → SI S1 h1 x A1 → LW p l e s m below meth c b H1 locs1 (cells + 2) (slots + 20) (F0 m 1551 ls [])) : LW p l e s m below meth c b H locs cells slots (F0 m 1433 ls []) := by
  obtain ⟨hx, hb, hml, hown, hKK, hSK, hNK, hr, hlk, hX, hbl, hL⟩ := C
  have hbA : ¬ (fun q : Nat => s.heap.size ≤ q) b := Nat.not_le.mpr hbl
  refine lv_aload_n hx hb dL_law_1433 rfl (lv_at hl 1 rfl) ?_
  refine hv_cVI (rm := rm_X6_judge) (As := []) (rest := []) (k := 0) (ci := 6) hx hb hml hown hKK hH cf6 hI.1.1.1.1 (m_X6_judge x  _ _ (op_judge hI (Q := fun r r' h2 => r = r' ∧ ∃ A', SI S h2 x A') (fun r A' h' hS => ⟨rfl, A', hS⟩))) cw_L_168 ⟨Nat.le_of_ble_eq_true rfl, Nat.le_of_ble_eq_true rfl⟩ rfl hl.1 rfl (Nat.le_of_ble_eq_true rfl) ⟨by show cells + 0 ≤ 600000; omega, by show slots + 0 ≤ 7302250; omega⟩ dL_law_1434 (fun r1 h1 H locs hH hw => ?_)
  refine lv_aload_n hx hb dL_law_1437 rfl (lv_at hl 2 rfl) ?_
  refine hv_cVI (rm := rm_X7_judge) (As := []) (rest := [.int r1]) (k := 0) (ci := 7) hx hb hml hown hKK hH cf7 hI.2.1.1.1 (m_X7_judge (x + 180)  _ _ hw) cw_L_171 ⟨Nat.le_of_ble_eq_true rfl, Nat.le_of_ble_eq_true rfl⟩ rfl hl.1 rfl (Nat.le_of_ble_eq_true rfl) ⟨by show cells + 0 + 0 ≤ 600000; omega, by show slots + 0 + 0 ≤ 7302250; omega⟩ dL_law_1438 (fun r2 h2 H locs hH hw => ?_)
  obtain ⟨er, A', hS⟩ := hw
  refine lv_icmp_eq (tgt := 1551) hx hb dL_law_1441 (by decide) (fun _ => ?_) (fun c => absurd er c)
  refine W.widen (k := cells + 2) (n := slots + 20) (by show cells + 0 + 0 ≤ cells + 2; omega) (by show slots + 0 + 0 ≤ slots + 20; omega) ?_
  exact kk S sz h2 H locs A' hH hS
set_option maxHeartbeats 4000000 in
set_option maxRecDepth 100000 in
theorem lc_38 (C : LC p s m meth c b L xs Z G) {S : St} {h : Hp} {sz : Nat} {H : Heap} {locs : List Loc} {ls : Array Slot} {A : Ab} {i cells slots : Nat} (hH : HH G s.heap.size S h sz s H locs) (hl : lv_has ls 4 (LLs b x i)) (hI : SI S h x A) (hi : i + 6 ≤ L) (hc : cells + 2 ≤ 600000) (hs : slots + 20 ≤ 7302250) (kk : ∀ (S1 : St) (sz1 : Nat) (h1 : Hp) (H1 : Heap) (locs1 : List Loc) (A1 : Ab), HH G s.heap.size S1 h1 sz1 s H1 locs1 → SI S1 h1 x A1 → LW p l e s m below meth c b H1 locs1 (cells + 2) (slots + 20) (F0 m 1551 ls [])) : LW p l e s m below meth c b H locs cells slots (F0 m 1446 ls []) := by
  obtain ⟨hx, hb, hml, hown, hKK, hSK, hNK, hr, hlk, hX, hbl, hL⟩ := C
  have hbA : ¬ (fun q : Nat => s.heap.size ≤ q) b := Nat.not_le.mpr hbl
  refine lv_aload_n hx hb dL_law_1446 rfl (lv_at hl 1 rfl) ?_
  refine hv_cVI (rm := rm_X6_clear) (As := []) (rest := []) (k := 0) (ci := 6) hx hb hml hown hKK hH cf6 hI.1.1.1.1 (m_X6_clear x  _ _ (op_clear hI (Q := fun r r' h2 => r = r' ∧ ∃ A', SI S h2 x A') (fun r A' h' hS => ⟨rfl, A', hS⟩))) cw_L_172 ⟨Nat.le_of_ble_eq_true rfl, Nat.le_of_ble_eq_true rfl⟩ rfl hl.1 rfl (Nat.le_of_ble_eq_true rfl) ⟨by show cells + 0 ≤ 600000; omega, by show slots + 0 ≤ 7302250; omega⟩ dL_law_1447 (fun r1 h1 H locs hH hw => ?_)
  refine lv_aload_n hx hb dL_law_1450 rfl (lv_at hl 2 rfl) ?_
  refine hv_cVI (rm := rm_X7_clear) (As := []) (rest := [.int r1]) (k := 0) (ci := 7) hx hb hml hown hKK hH cf7 hI.2.1.1.1 (m_X7_clear (x + 180)  _ _ hw) cw_L_175 ⟨Nat.le_of_ble_eq_true rfl, Nat.le_of_ble_eq_true rfl⟩ rfl hl.1 rfl (Nat.le_of_ble_eq_true rfl) ⟨by show cells + 0 + 0 ≤ 600000; omega, by show slots + 0 + 0 ≤ 7302250; omega⟩ dL_law_1451 (fun r2 h2 H locs hH hw => ?_)
  obtain ⟨er, A', hS⟩ := hw
  refine lv_icmp_eq (tgt := 1551) hx hb dL_law_1454 (by decide) (fun _ => ?_) (fun c => absurd er c)
  refine W.widen (k := cells + 2) (n := slots + 20) (by show cells + 0 + 0 ≤ cells + 2; omega) (by show slots + 0 + 0 ≤ slots + 20; omega) ?_
  exact kk S sz h2 H locs A' hH hS
set_option maxHeartbeats 4000000 in
set_option maxRecDepth 100000 in
theorem lc_39 (C : LC p s m meth c b L xs Z G) {S : St} {h : Hp} {sz : Nat} {H : Heap} {locs : List Loc} {ls : Array Slot} {A : Ab} {i cells slots : Nat} (hH : HH G s.heap.size S h sz s H locs) (hl : lv_has ls 4 (LLs b x i)) (hI : SI S h x A) (hi : i + 6 ≤ L) (hc : cells + 2 ≤ 600000) (hs : slots + 20 ≤ 7302250) (kk : ∀ (S1 : St) (sz1 : Nat) (h1 : Hp) (H1 : Heap) (locs1 : List Loc) (A1 : Ab), HH G s.heap.size S1 h1 sz1 s H1 locs1 → SI S1 h1 x A1 → LW p l e s m below meth c b H1 locs1 (cells + 2) (slots + 20) (F0 m 1551 ls [])) : LW p l e s m below meth c b H locs cells slots (F0 m 1459 ls []) := by
  obtain ⟨hx, hb, hml, hown, hKK, hSK, hNK, hr, hlk, hX, hbl, hL⟩ := C
  have hbA : ¬ (fun q : Nat => s.heap.size ≤ q) b := Nat.not_le.mpr hbl
  refine lv_aload_n hx hb dL_law_1459 rfl (lv_at hl 1 rfl) ?_
  refine lv_aload_n hx hb dL_law_1460 rfl (lv_at hl 0 rfl) ?_
  refine lv_iload_n hx hb dL_law_1461 rfl (lv_at hl 3 rfl) ?_
  refine lv_iconst (v := (nI 1)) hx hb dL_law_1462 (by decide) ?_
  refine lv_iadd hx hb dL_law_1463 ?_
  refine va_sld hx hb hX hbl hbA hH.2 (by rw [nI_add]; exact vp_in_nI (by omega) (by omega)) dL_law_1464 ?_
  refine lv_aload_n hx hb dL_law_1465 rfl (lv_at hl 0 rfl) ?_
  refine lv_iload_n hx hb dL_law_1466 rfl (lv_at hl 3 rfl) ?_
  refine lv_iconst (v := (nI 2)) hx hb dL_law_1467 (by decide) ?_
  refine lv_iadd hx hb dL_law_1468 ?_
  refine va_sld hx hb hX hbl hbA hH.2 (by rw [nI_add]; exact vp_in_nI (by omega) (by omega)) dL_law_1469 ?_
  refine lv_aload_n hx hb dL_law_1470 rfl (lv_at hl 0 rfl) ?_
  refine lv_iload_n hx hb dL_law_1471 rfl (lv_at hl 3 rfl) ?_
  refine lv_iconst (v := (nI 3)) hx hb dL_law_1472 (by decide) ?_
  refine lv_iadd hx hb dL_law_1473 ?_
  refine va_sld hx hb hX hbl hbA hH.2 (by rw [nI_add]; exact vp_in_nI (by omega) (by omega)) dL_law_1474 ?_
  refine hv_cVI (rm := rm_X6_lots) (As := [.int (xs (ix (nI i + nI 1))), .int (xs (ix (nI i + nI 2))), .int (xs (ix (nI i + nI 3)))]) (rest := []) (k := 3) (ci := 6) hx hb hml hown hKK hH cf6 hI.1.1.1.1 (m_X6_lots x _ _ _ _ _ (op_lots hI (Q := fun r r' h2 => r = r' ∧ ∃ A', SI S h2 x A') (fun r A' h' hS => ⟨rfl, A', hS⟩))) cw_L_176 ⟨Nat.le_of_ble_eq_true rfl, Nat.le_of_ble_eq_true rfl⟩ rfl hl.1 rfl (Nat.le_of_ble_eq_true rfl) ⟨by show cells + 0 ≤ 600000; omega, by show slots + 0 ≤ 7302250; omega⟩ dL_law_1475 (fun r1 h1 H locs hH hw => ?_)
  refine lv_aload_n hx hb dL_law_1478 rfl (lv_at hl 2 rfl) ?_
  refine lv_aload_n hx hb dL_law_1479 rfl (lv_at hl 0 rfl) ?_
  refine lv_iload_n hx hb dL_law_1480 rfl (lv_at hl 3 rfl) ?_
  refine lv_iconst (v := (nI 1)) hx hb dL_law_1481 (by decide) ?_
  refine lv_iadd hx hb dL_law_1482 ?_
  refine va_sld hx hb hX hbl hbA hH.2 (by rw [nI_add]; exact vp_in_nI (by omega) (by omega)) dL_law_1483 ?_
  refine lv_aload_n hx hb dL_law_1484 rfl (lv_at hl 0 rfl) ?_
  refine lv_iload_n hx hb dL_law_1485 rfl (lv_at hl 3 rfl) ?_
  refine lv_iconst (v := (nI 2)) hx hb dL_law_1486 (by decide) ?_
  refine lv_iadd hx hb dL_law_1487 ?_
  refine va_sld hx hb hX hbl hbA hH.2 (by rw [nI_add]; exact vp_in_nI (by omega) (by omega)) dL_law_1488 ?_
  refine lv_aload_n hx hb dL_law_1489 rfl (lv_at hl 0 rfl) ?_
  refine lv_iload_n hx hb dL_law_1490 rfl (lv_at hl 3 rfl) ?_
  refine lv_iconst (v := (nI 3)) hx hb dL_law_1491 (by decide) ?_
  refine lv_iadd hx hb dL_law_1492 ?_
  refine va_sld hx hb hX hbl hbA hH.2 (by rw [nI_add]; exact vp_in_nI (by omega) (by omega)) dL_law_1493 ?_
  refine hv_cVI (rm := rm_X7_lots) (As := [.int (xs (ix (nI i + nI 1))), .int (xs (ix (nI i + nI 2))), .int (xs (ix (nI i + nI 3)))]) (rest := [.int r1]) (k := 3) (ci := 7) hx hb hml hown hKK hH cf7 hI.2.1.1.1 (m_X7_lots (x + 180) _ _ _ _ _ hw) cw_L_179 ⟨Nat.le_of_ble_eq_true rfl, Nat.le_of_ble_eq_true rfl⟩ rfl hl.1 rfl (Nat.le_of_ble_eq_true rfl) ⟨by show cells + 0 + 0 ≤ 600000; omega, by show slots + 0 + 0 ≤ 7302250; omega⟩ dL_law_1494 (fun r2 h2 H locs hH hw => ?_)
  obtain ⟨er, A', hS⟩ := hw
  refine lv_icmp_eq (tgt := 1551) hx hb dL_law_1497 (by decide) (fun _ => ?_) (fun c => absurd er c)
  refine W.widen (k := cells + 2) (n := slots + 20) (by show cells + 0 + 0 ≤ cells + 2; omega) (by show slots + 0 + 0 ≤ slots + 20; omega) ?_
  exact kk S sz h2 H locs A' hH hS
set_option maxHeartbeats 4000000 in
set_option maxRecDepth 100000 in
theorem lc_40 (C : LC p s m meth c b L xs Z G) {S : St} {h : Hp} {sz : Nat} {H : Heap} {locs : List Loc} {ls : Array Slot} {A : Ab} {i cells slots : Nat} (hH : HH G s.heap.size S h sz s H locs) (hl : lv_has ls 4 (LLs b x i)) (hI : SI S h x A) (hi : i + 6 ≤ L) (hc : cells + 2 ≤ 600000) (hs : slots + 20 ≤ 7302250) (kk : ∀ (S1 : St) (sz1 : Nat) (h1 : Hp) (H1 : Heap) (locs1 : List Loc) (A1 : Ab), HH G s.heap.size S1 h1 sz1 s H1 locs1 → SI S1 h1 x A1 → LW p l e s m below meth c b H1 locs1 (cells + 2) (slots + 20) (F0 m 1551 ls [])) : LW p l e s m below meth c b H locs cells slots (F0 m 1502 ls []) := by
  obtain ⟨hx, hb, hml, hown, hKK, hSK, hNK, hr, hlk, hX, hbl, hL⟩ := C
  have hbA : ¬ (fun q : Nat => s.heap.size ≤ q) b := Nat.not_le.mpr hbl
  refine lv_aload_n hx hb dL_law_1502 rfl (lv_at hl 1 rfl) ?_
  refine hv_cVI (rm := rm_X6_image) (As := []) (rest := []) (k := 0) (ci := 6) hx hb hml hown hKK hH cf6 hI.1.1.1.1 (m_X6_image x  _ _ (op_image hI (Q := fun r r' h2 => r = r' ∧ ∃ A', SI S h2 x A') (fun r A' h' hS => ⟨rfl, A', hS⟩))) cw_L_180 ⟨Nat.le_of_ble_eq_true rfl, Nat.le_of_ble_eq_true rfl⟩ rfl hl.1 rfl (Nat.le_of_ble_eq_true rfl) ⟨by show cells + 0 ≤ 600000; omega, by show slots + 0 ≤ 7302250; omega⟩ dL_law_1503 (fun r1 h1 H locs hH hw => ?_)
  refine lv_aload_n hx hb dL_law_1506 rfl (lv_at hl 2 rfl) ?_
  refine hv_cVI (rm := rm_X7_image) (As := []) (rest := [.int r1]) (k := 0) (ci := 7) hx hb hml hown hKK hH cf7 hI.2.1.1.1 (m_X7_image (x + 180)  _ _ hw) cw_L_183 ⟨Nat.le_of_ble_eq_true rfl, Nat.le_of_ble_eq_true rfl⟩ rfl hl.1 rfl (Nat.le_of_ble_eq_true rfl) ⟨by show cells + 0 + 0 ≤ 600000; omega, by show slots + 0 + 0 ≤ 7302250; omega⟩ dL_law_1507 (fun r2 h2 H locs hH hw => ?_)
  obtain ⟨er, A', hS⟩ := hw
  refine lv_icmp_eq (tgt := 1551) hx hb dL_law_1510 (by decide) (fun _ => ?_) (fun c => absurd er c)
  refine W.widen (k := cells + 2) (n := slots + 20) (by show cells + 0 + 0 ≤ cells + 2; omega) (by show slots + 0 + 0 ≤ slots + 20; omega) ?_
  exact kk S sz h2 H locs A' hH hS
set_option maxHeartbeats 4000000 in
set_option maxRecDepth 100000 in
theorem lc_41 (C : LC p s m meth c b L xs Z G) {S : St} {h : Hp} {sz : Nat} {H : Heap} {locs : List Loc} {ls : Array Slot} {A : Ab} {i cells slots : Nat} (hH : HH G s.heap.size S h sz s H locs) (hl : lv_has ls 4 (LLs b x i)) (hI : SI S h x A) (hi : i + 6 ≤ L) (hc : cells + 2 ≤ 600000) (hs : slots + 20 ≤ 7302250) (kk : ∀ (S1 : St) (sz1 : Nat) (h1 : Hp) (H1 : Heap) (locs1 : List Loc) (A1 : Ab), HH G s.heap.size S1 h1 sz1 s H1 locs1 → SI S1 h1 x A1 → LW p l e s m below meth c b H1 locs1 (cells + 2) (slots + 20) (F0 m 1551 ls [])) : LW p l e s m below meth c b H locs cells slots (F0 m 1515 ls []) := by
  obtain ⟨hx, hb, hml, hown, hKK, hSK, hNK, hr, hlk, hX, hbl, hL⟩ := C
  have hbA : ¬ (fun q : Nat => s.heap.size ≤ q) b := Nat.not_le.mpr hbl
  refine lv_aload_n hx hb dL_law_1515 rfl (lv_at hl 1 rfl) ?_
  refine hv_cVI (rm := rm_X6_restore) (As := []) (rest := []) (k := 0) (ci := 6) hx hb hml hown hKK hH cf6 hI.1.1.1.1 (m_X6_restore x  _ _ (op_restore hI (Q := fun r r' h2 => r = r' ∧ ∃ A', SI S h2 x A') (fun r A' h' hS => ⟨rfl, A', hS⟩))) cw_L_184 ⟨Nat.le_of_ble_eq_true rfl, Nat.le_of_ble_eq_true rfl⟩ rfl hl.1 rfl (Nat.le_of_ble_eq_true rfl) ⟨by show cells + 0 ≤ 600000; omega, by show slots + 0 ≤ 7302250; omega⟩ dL_law_1516 (fun r1 h1 H locs hH hw => ?_)
  refine lv_aload_n hx hb dL_law_1519 rfl (lv_at hl 2 rfl) ?_
  refine hv_cVI (rm := rm_X7_restore) (As := []) (rest := [.int r1]) (k := 0) (ci := 7) hx hb hml hown hKK hH cf7 hI.2.1.1.1 (m_X7_restore (x + 180)  _ _ hw) cw_L_187 ⟨Nat.le_of_ble_eq_true rfl, Nat.le_of_ble_eq_true rfl⟩ rfl hl.1 rfl (Nat.le_of_ble_eq_true rfl) ⟨by show cells + 0 + 0 ≤ 600000; omega, by show slots + 0 + 0 ≤ 7302250; omega⟩ dL_law_1520 (fun r2 h2 H locs hH hw => ?_)
  obtain ⟨er, A', hS⟩ := hw
  refine lv_icmp_eq (tgt := 1551) hx hb dL_law_1523 (by decide) (fun _ => ?_) (fun c => absurd er c)
  refine W.widen (k := cells + 2) (n := slots + 20) (by show cells + 0 + 0 ≤ cells + 2; omega) (by show slots + 0 + 0 ≤ slots + 20; omega) ?_
  exact kk S sz h2 H locs A' hH hS
set_option maxHeartbeats 4000000 in
set_option maxRecDepth 100000 in
theorem lc_42 (C : LC p s m meth c b L xs Z G) {S : St} {h : Hp} {sz : Nat} {H : Heap} {locs : List Loc} {ls : Array Slot} {A : Ab} {i cells slots : Nat} (hH : HH G s.heap.size S h sz s H locs) (hl : lv_has ls 4 (LLs b x i)) (hI : SI S h x A) (hi : i + 6 ≤ L) (hc : cells + 2 ≤ 600000) (hs : slots + 20 ≤ 7302250) (kk : ∀ (S1 : St) (sz1 : Nat) (h1 : Hp) (H1 : Heap) (locs1 : List Loc) (A1 : Ab), HH G s.heap.size S1 h1 sz1 s H1 locs1 → SI S1 h1 x A1 → LW p l e s m below meth c b H1 locs1 (cells + 2) (slots + 20) (F0 m 1551 ls [])) : LW p l e s m below meth c b H locs cells slots (F0 m 1528 ls []) := by
  obtain ⟨hx, hb, hml, hown, hKK, hSK, hNK, hr, hlk, hX, hbl, hL⟩ := C
  have hbA : ¬ (fun q : Nat => s.heap.size ≤ q) b := Nat.not_le.mpr hbl
  refine lv_aload_n hx hb dL_law_1528 rfl (lv_at hl 1 rfl) ?_
  refine lv_aload_n hx hb dL_law_1529 rfl (lv_at hl 0 rfl) ?_
  refine lv_iload_n hx hb dL_law_1530 rfl (lv_at hl 3 rfl) ?_
  refine lv_iconst (v := (nI 1)) hx hb dL_law_1531 (by decide) ?_
  refine lv_iadd hx hb dL_law_1532 ?_
  refine va_sld hx hb hX hbl hbA hH.2 (by rw [nI_add]; exact vp_in_nI (by omega) (by omega)) dL_law_1533 ?_
  refine hv_cVI (rm := rm_X6_count) (As := [.int (xs (ix (nI i + nI 1)))]) (rest := []) (k := 1) (ci := 6) hx hb hml hown hKK hH cf6 hI.1.1.1.1 (m_X6_count x _ _ _ (op_count hI (Q := fun r r' h2 => r = r' ∧ ∃ A', SI S h2 x A') (fun r A' h' hS => ⟨rfl, A', hS⟩))) cw_L_188 ⟨Nat.le_of_ble_eq_true rfl, Nat.le_of_ble_eq_true rfl⟩ rfl hl.1 rfl (Nat.le_of_ble_eq_true rfl) ⟨by show cells + 0 ≤ 600000; omega, by show slots + 0 ≤ 7302250; omega⟩ dL_law_1534 (fun r1 h1 H locs hH hw => ?_)
  refine lv_aload_n hx hb dL_law_1537 rfl (lv_at hl 2 rfl) ?_
  refine lv_aload_n hx hb dL_law_1538 rfl (lv_at hl 0 rfl) ?_
  refine lv_iload_n hx hb dL_law_1539 rfl (lv_at hl 3 rfl) ?_
  refine lv_iconst (v := (nI 1)) hx hb dL_law_1540 (by decide) ?_
  refine lv_iadd hx hb dL_law_1541 ?_
  refine va_sld hx hb hX hbl hbA hH.2 (by rw [nI_add]; exact vp_in_nI (by omega) (by omega)) dL_law_1542 ?_
  refine hv_cVI (rm := rm_X7_count) (As := [.int (xs (ix (nI i + nI 1)))]) (rest := [.int r1]) (k := 1) (ci := 7) hx hb hml hown hKK hH cf7 hI.2.1.1.1 (m_X7_count (x + 180) _ _ _ hw) cw_L_191 ⟨Nat.le_of_ble_eq_true rfl, Nat.le_of_ble_eq_true rfl⟩ rfl hl.1 rfl (Nat.le_of_ble_eq_true rfl) ⟨by show cells + 0 + 0 ≤ 600000; omega, by show slots + 0 + 0 ≤ 7302250; omega⟩ dL_law_1543 (fun r2 h2 H locs hH hw => ?_)
  obtain ⟨er, A', hS⟩ := hw
  refine lv_icmp_eq (tgt := 1551) hx hb dL_law_1546 (by decide) (fun _ => ?_) (fun c => absurd er c)
  refine W.widen (k := cells + 2) (n := slots + 20) (by show cells + 0 + 0 ≤ cells + 2; omega) (by show slots + 0 + 0 ≤ slots + 20; omega) ?_
  exact kk S sz h2 H locs A' hH hS
end LAW
