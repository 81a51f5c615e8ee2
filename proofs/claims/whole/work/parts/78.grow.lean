/-! METHODS THAT MAKE OBJECTS over the picture: rows made, a StringBuilder made; the picture grows -/
theorem arrV_congr {cA : ClassId} {n : Nat} {f g : Nat → Value} (e : ∀ j, j < n → f j = g j) : arrV cA n f = arrV cA n g := by
  unfold arrV
  congr 1
  congr 1
  funext j
  exact e j.val j.isLt
def ofS (S : St) : St2 := (S.1, fun a k => some (S.2 a k))
def nwS (S : St) (a n : Nat) : St := (fun q => if q = a then some (.inr (0, n)) else S.1 q, S.2)
def sbS (S : St) (a : Nat) : St := (fun q => if q = a then some (.inl 8) else if q = a + 1 then some (.inr (3, 16)) else S.1 q, fun q k => if q = a ∧ k = 0 then a + 1 else S.2 q k)
theorem HH2_of {G : Gl} {B sz : Nat} {S : St} {h : Hp} {s : State} {H : Heap} {locs : List Loc} (hH : HH G B S h sz s H locs) : HH2 G B (ofS S) h sz s H locs := by
  refine ⟨⟨hH.1.1, fun a x hx => ⟨(hH.1.2 a x hx).1, ?_⟩⟩, hH.2⟩
  have g := (hH.1.2 a x hx).2
  cases x with
  | inl ci => exact g
  | inr y => exact g
/-- complete cells of a picture being made -/
def Cmp (S : St) (T : St2) : Prop := ∀ a x, S.1 a = some x → T.1 a = some x ∧ (∀ ci, x = .inl ci → ∀ k, rfs ci k = true → T.2 a k = some (S.2 a k)) ∧ ∀ t n, x = .inr (t, n) → (t = 1 ∨ t = 2) → ∀ j, j < n → T.2 a j = some (S.2 a j)
theorem HH_of2 {G : Gl} {B sz : Nat} {S : St} {T : St2} {h : Hp} {s : State} {H : Heap} {locs : List Loc} (e : Cmp S T) (hH : HH2 G B T h sz s H locs) : HH G B S h sz s H locs := by
  refine ⟨⟨hH.1.1, fun a x hx => ?_⟩, hH.2⟩
  obtain ⟨e1, e2, e3⟩ := e a x hx
  obtain ⟨g0, g⟩ := hH.1.2 a x e1
  refine ⟨g0, ?_⟩
  cases x with
  | inl ci =>
    obtain ⟨r, g1, g2⟩ := g
    refine ⟨r, g1, g2.to (fun k hk => ?_)⟩
    by_cases c : rfs ci k = true
    · simp [cv2, cellV, c, e2 ci rfl k c, va_rf]
    · simp [cv2, cellV, c]
  | inr y =>
    obtain ⟨t, n⟩ := y
    refine ⟨g.1.trans (congrArg some (arrV_congr (fun j hj => ?_))), g.2⟩
    by_cases c : t = 0 ∨ t = 3
    · simp [aw2, arrW, c]
    · have h4 := g.2
      have e4 := e3 t n rfl (by have h5 : t < 4 := h4; omega) j hj
      simp [aw2, arrW, c, e4, va_rf]
abbrev PPg (Z : Zg) (G : Gl) (B : Nat) (S : St) (h : Hp) (sz : Nat) (av : List Value) : Array Value → State → Prop := va_Pc av (fun U => ((Hd G B S h sz U.heap ∧ KK G U) ∧ SK Z B U) ∧ NK U)
abbrev PPt (G : Gl) (B : Nat) : St × Nat × Hp → State → Prop := fun u t => Hd G B u.1 u.2.2 u.2.1 t.heap
abbrev MIg (Z : Zg) (l : Launch) (G : Gl) (B sz : Nat) (S : St) (y : MethodName) (cc : ByteArray) (n : Nat) (rt : FieldType) (rm : Room) (av : List Value) (h : Hp) (Q : Int32 → St → Nat → Hp → Prop) : Prop := Met l y [Cond.code y cc n (some rt)] rm (PPg Z G B S h sz av) (va_Qi (fun r (u : St × Nat × Hp) => Q r u.1 u.2.1 u.2.2) (PPt G B) (PPa B)) rm.cells rm.slots (PPa B)
abbrev QIg (G : Gl) (B : Nat) (below : List Frame) (args : Array Value) (s : State) (mc ms : Nat) (Q : Int32 → St → Nat → Hp → Prop) : State → Prop := MQ below (va_Qi (fun r (u : St × Nat × Hp) => Q r u.1 u.2.1 u.2.2) (PPt G B) (PPa B)) args s mc ms (PPa B)
theorem PPg.blind {Z : Zg} {G : Gl} {B : Nat} {S : St} {h : Hp} {sz : Nat} {av : List Value} : FrameBlind (PPg Z G B S h sz av) := fun a U g mk q => ⟨q.1, ⟨⟨q.2.1.1.1, q.2.1.1.2.calling g mk a⟩, q.2.1.2.calling g mk a⟩, q.2.2.calling g mk a⟩
theorem met_ofg {l : Launch} {Z : Zg} {G : Gl} {B sz : Nat} {S : St} {y : MethodName} {cc : ByteArray} {n : Nat} {ret : Option FieldType} {rm : Room} {av : List Value} {h : Hp} {Qc : Array Value → State → Outcome → State → Prop} (hy : plainName y.cls = true) (hlen : Nat.ble (lg_sl av).length n = true)
    (body : ∀ (p : Program) (e : Env) (s : State) (m : MethodId) (args : Array Value) (below : List Frame) (meth : Method) (c : Code), ((MB G B sz S p s m meth c cc n y.cls ret ∧ SK Z B s) ∧ NK s) → ∀ (H : Heap) (ls : Array Slot), HH G B S h sz s H [] → lv_has ls n (lv_args 0 av) → W p l e rm s m args below meth c H [] 0 0 (MQ below Qc args s rm.cells rm.slots (PPa B)) (F0 m 0 ls [])) : Met l y [Cond.code y cc n ret] rm (PPg Z G B S h sz av) Qc rm.cells rm.slots (PPa B) := by
  refine Met.ofW (cc := cc) (maxL := n) (ret := ret) hy rfl ?_
  intro p e s m args below meth c s₁ Bd hml hv
  obtain ⟨rfl, ⟨⟨hHd, hKK⟩, hSK⟩, hNK⟩ := hv
  have hown : s.vm.findClass y.cls = some m.cls := findClass_of_methodNamed Bd.named
  have hl := lv_entry av (n := n) (Nat.le_of_ble_eq_true hlen)
  rw [lg_entry_eq]
  exact body p e s m _ below meth c ⟨⟨⟨Bd.exec, Bd.bytes, hml, hown, hKK, Bd.returns, Bd.notSynchronized⟩, hSK⟩, hNK⟩ s.heap _ ⟨hHd, va_S.rf⟩ hl
section GROWS
variable {p : Program} {l : Launch} {e : Env} {R : Room} {s : State} {m : MethodId} {args : Array Value} {below : List Frame} {meth : Method} {c : Code} {H : Heap} {locs : List Loc} {cells slots : Nat} {Q : State → Prop} {cc : ByteArray} {pc : Nat} {ls : Array Slot} {rest : List Value} {Z : Zg} {G : Gl} {B : Nat} {S : St} {h : Hp} {sz a : Nat}
theorem hg_iret (hexec : p.tables.exec = Jvm.exec) (hb : c.code = cc) (hr : meth.sig.returnType = some .int) (hlocks : meth.locks = false) {mc ms : Nat} (hH : HH G B S h sz s H locs) (hc : cells ≤ mc) (hs : slots ≤ ms) {Q : Int32 → St → Nat → Hp → Prop} {v : Int32} (hq : Q v S sz h) (hdg : decode cc pc = .ok (.ireturn, 1)) : W p l e R s m args below meth c H locs cells slots (QIg G B below args s mc ms Q) (F0 m pc ls [.int v]) :=
  W.widen (k := mc) (n := ms) hc hs (W.iret hexec hb hr (fun t ht hW => ⟨⟨v, (S, sz, h), rfl, hq, by show Hd G B S h sz t.heap; rw [ht]; exact hH.1⟩, hH.2.F ht⟩) hH.2.2.2 hdg hlocks)
theorem hg_newi (hexec : p.tables.exec = Jvm.exec) (hb : c.code = cc) (hK : KK G s) (hH : HH G B S h sz s H locs) {n : Int32} {N : Nat} (hn : ¬ n < 0) (hN : n.toNatClampNeg = N) (hbytes : N * 4 ≤ 536870912) (hcells : cells + 1 ≤ R.cells) (hslots : slots + N ≤ R.slots) (hdg : decode cc pc = .ok (.newarray .int, 2))
    (kk : ∀ (S1 : St) (r sz1 : Nat) (h1 : Hp) (H1 : Heap), S1 = nwS S sz N → r = sz → sz1 = sz + 1 → h1 = zr h sz → HH G B S1 h1 sz1 s H1 locs → W p l e R s m args below meth c H1 locs (cells + 1) (slots + N) Q (F0 m (pc + 2) ls (.ref r :: rest))) : W p l e R s m args below meth c H locs cells slots Q (F0 m pc ls (.int n :: rest)) := by
  refine hn_newi hexec hb hK (HH2_of hH) hn hN hbytes hcells hslots hdg (fun T1 r sz1 h1 H1 e1 e2 e3 e4 hH1 => kk (nwS S sz N) r sz1 h1 H1 rfl e2 e3 e4 (HH_of2 ?_ hH1))
  subst e1
  intro a x hx
  by_cases c : a = sz
  · subst c
    have : x = .inr (0, N) := by simp only [nwS, if_pos] at hx; exact (Option.some.inj hx).symm
    subst this
    exact ⟨by simp [nwT], (fun ci h => by cases h), (fun t n h h2 => by cases h; omega)⟩
  · have hx' : S.1 a = some x := by simpa [nwS, c] using hx
    exact ⟨by simpa [nwT, ofS, c] using hx', (fun ci _ k _ => by simp [nwT, ofS, nwS, c]), (fun t n _ _ j _ => by simp [nwT, ofS, nwS, c])⟩
theorem x_sbInit {T : St2} {b : Nat} (hT : T.1 b = some (.inl 8)) (hb : b ≠ sz) {Q : St2 → Nat → Hp → Prop} (hQ : Q (stR (nwT T sz (.inr (3, 16))) b 0 sz) (sz + 1) (up (zr h sz) b 1 (nI 0))) : w_J4_init_da8c8 T sz b h Q := by
  unfold w_J4_init_da8c8 w_J5_init_d00df
  intro T1 r z h1 e1 e2 e3 e4
  subst e1 e2 e3 e4
  refine ⟨by simp [nwT, hb, hT], fun T2 e5 => ?_⟩
  subst e5
  refine ⟨by simp [stR, nwT, hb, hT], fun h2 e6 => ?_⟩
  subst e6
  exact hQ
theorem hg_sb (hexec : p.tables.exec = Jvm.exec) (hb : c.code = cc) {nL : Nat} (hml : c.maxLocals = nL) (hsize : ls.size = nL) {own : String} {i1 i2 : Nat} (hown : s.vm.findClass own = some m.cls) (hK : KK G s) (hSK : SK Z B s) (hNK : NK s) (hH : HH G B S h sz s H locs) (hcl : Cond.classLink own i1 RJ4 ∈ lw_tbl) (hinst : Cond.instantiable RJ4 4 ∈ lw_tbl) (hini : Cond.initialized RJ4 ∈ lw_tbl) (hcw : CWi own i2 yJ4_init_da8c8 cJ4_init_da8c8 1 0) (hR : rm_J4_init_da8c8.frames + 1 ≤ R.frames ∧ 8 + (1 + 11) + rm_J4_init_da8c8.locals ≤ R.locals) (hW : (((Value.ref 0 :: rest).map fun v => v.category)).sum ≤ 8) (hroom : cells + 2 ≤ R.cells ∧ slots + 20 ≤ R.slots) (hd1 : decode cc pc = .ok (.new i1, 3)) (hd2 : decode cc (pc + 3) = .ok (.dup, 1)) (hd3 : decode cc (pc + 4) = .ok (.invokespecial i2, 3))
    (kk : ∀ (S1 : St) (r sz1 : Nat) (h1 : Hp) (H1 : Heap) (locs1 : List Loc), S1 = sbS S sz → r = sz → sz1 = sz + 2 → h1 = zr (zr h sz) (sz + 1) → HH G B S1 h1 sz1 s H1 locs1 → W p l e R s m args below meth c H1 locs1 (cells + 2) (slots + 20) Q (F0 m (pc + 7) ls (.ref r :: rest))) : W p l e R s m args below meth c H locs cells slots Q (F0 m pc ls rest) := by
  have hr1 : rm_J4_init_da8c8.cells = 1 := rfl
  have hr2 : rm_J4_init_da8c8.slots = 16 := rfl
  refine hn_new (ci := 8) (ty := tyJ4) hexec hb hown hK (HH2_of hH) cf8 hcl hinst hini df_8 (by omega) (by omega) hd1 (fun T1 r sz1 h1 H1 e1 e2 e3 e4 hH1 => ?_)
  refine lv_dup hexec hb hd2 rfl ?_
  subst e2 e3 e4
  refine hn_cI (rm := rm_J4_init_da8c8) (As := []) (rest := .ref r :: rest) (k := 0) hexec hb hml hown hK hSK hNK hH1 (m_J4_init_da8c8 _ _ _ _ (fun T' z h' => T' = stR (nwT T1 (r + 1) (.inr (3, 16))) r 0 (r + 1) ∧ z = r + 2 ∧ h' = zr (zr h r) (r + 1)) (x_sbInit (by rw [e1]; simp [nwT]) (by omega) ⟨rfl, rfl, ?_⟩)) hcw hR rfl hsize rfl hW ⟨by omega, by omega⟩ hd3 (fun T2 z h2 H2 locs2 hH2 hw => ?_)
  · funext q k
    unfold up zr
    by_cases c : q = r ∧ k = 1
    · rw [if_pos c]
      by_cases c2 : q = r + 1
      · rw [if_pos c2]
      · rw [if_neg c2, if_pos c.1]
    · rw [if_neg c]
  · obtain ⟨g1, g2, g3⟩ := hw
    subst g1 g2 g3
    subst e1
    refine kk (sbS S r) r _ _ H2 locs2 rfl rfl rfl rfl (HH_of2 ?_ hH2)
    intro a x hx
    by_cases c : a = r
    · subst c
      have : x = .inl 8 := by simp only [sbS, if_pos] at hx; exact (Option.some.inj hx).symm
      subst this
      refine ⟨by simp [stR, nwT], fun ci hci k hk => ?_, fun t n h => by cases h⟩
      cases hci
      have k0 : k = 0 := Nat.eq_of_beq_eq_true hk
      subst k0
      simp [stR, sbS]
    · by_cases c2 : a = r + 1
      · subst c2
        have : x = .inr (3, 16) := by simp [sbS] at hx; exact hx.symm
        subst this
        exact ⟨by simp [stR, nwT], (fun ci h => by cases h), (fun t n h h2 => by cases h; omega)⟩
      · have hx' : S.1 a = some x := by simpa [sbS, c, c2] using hx
        exact ⟨by simpa [stR, nwT, ofS, c, c2] using hx', (fun ci _ k _ => by simp [stR, nwT, ofS, sbS, c, c2]), (fun t n _ _ j _ => by simp [stR, nwT, ofS, sbS, c, c2])⟩
end GROWS
section GCALLS
variable {p : Program} {l : Launch} {e : Env} {R : Room} {s : State} {m : MethodId} {args : Array Value} {below : List Frame} {meth : Method} {c : Code} {H : Heap} {locs : List Loc} {cells slots : Nat} {Q : State → Prop} {cc cy : ByteArray} {pc : Nat} {ls : Array Slot} {st rest : List Value} {Z : Zg} {G : Gl} {B : Nat} {S : St} {h : Hp} {sz : Nat} {own : String} {idx : Nat} {y : MethodName} {n nL k : Nat} {rm : Room} {As : List Value}
theorem pre_Vg {C : String} {F : u_T} {N ci b : Nat} {ty : Nat → FieldType} (hcf : CF ci C F N ty) (ho : ob S b ci) (hK : KK G s) (hSK : SK Z B s) (hNK : NK s) (hH : HH G B S h sz s H locs) : PreV s H C b (PPg Z G B S h sz (.ref b :: As)) As := by
  refine ⟨PPg.blind, ?_, fun U hU hW => ⟨rfl, ⟨⟨by rw [hU]; exact hH.1, hK.warm hW⟩, hSK.go hH.2 hU hW⟩, hNK.warm hW⟩⟩
  obtain ⟨-, r, h1, cell, q1, q2, q3, q4⟩ := hH.1.2 b _ ho
  have hr : r = (C, F, N) := Option.some.inj (h1.symm.trans hcf.1)
  subst hr
  exact ⟨cell, q1, by rw [q3]; rfl, by rw [q2]; exact (hK.1.1 ci _ hcf.1).2.1⟩
theorem hg_cVI (hexec : p.tables.exec = Jvm.exec) (hb : c.code = cc) (hml : c.maxLocals = nL) (hown : s.vm.findClass own = some m.cls) (hK : KK G s) (hSK : SK Z B s) (hNK : NK s) (hH : HH G B S h sz s H locs) {C : String} {F : u_T} {N ci b : Nat} {ty : Nat → FieldType} (hcf : CF ci C F N ty) (ho : ob S b ci) {rt : FieldType} {Qc : Int32 → St → Nat → Hp → Prop} (hM : MIg Z l G B sz S y cy n rt rm (.ref b :: As) h Qc) (hcw : CWv own idx C y cy n (some rt) k) (hR : rm.frames + 1 ≤ R.frames ∧ 8 + (n + 11) + rm.locals ≤ R.locals) (hn : As.length = k) (hsize : ls.size = nL) (hst : st = As.reverse ++ .ref b :: rest) (hW : (rest.map fun v => v.category).sum ≤ 8) (hroom : cells + rm.cells ≤ R.cells ∧ slots + rm.slots ≤ R.slots) (hdg : decode cc pc = .ok (.invokevirtual idx, 3))
    (kk : ∀ (r : Int32) (S1 : St) (sz1 : Nat) (u : Hp) (H1 : Heap) (locs1 : List Loc), HH G B S1 u sz1 s H1 locs1 → Qc r S1 sz1 u → W p l e R s m args below meth c H1 locs1 (cells + rm.cells) (slots + rm.slots) Q (F0 m (pc + 3) ls (.int r :: rest))) : W p l e R s m args below meth c H locs cells slots Q (F0 m pc ls st) := by
  subst hst
  exact va_calli (va_runV (As := As) (rest := rest) (Ts := []) (cells := cells) (slots := slots) ⟨hexec, hb, hml, hown, fun w hw => by cases hw⟩ hM ⟨cb_of hK hcw.2.1 hcw.2.2.1 hcw.2.2.2.1 hcw.2.2.2.2.1 hcw.2.2.2.2.2 hcw.1.1 hR, hK.use hcw.1.2.1 rfl args, hK.use hcw.1.2.2 rfl args⟩ (pre_Vg hcf ho hK hSK hNK hH) rfl hn hsize rfl (lv_room hW) hdg hroom) hH.2 (fun q _ h => h) (fun q h => h) (fun r u t H1 locs1 ht hvm hw hB hz hk hS => kk r u.1 u.2.1 u.2.2 H1 locs1 ⟨by rw [← ht]; exact hB, hS⟩ hw)
end GCALLS
