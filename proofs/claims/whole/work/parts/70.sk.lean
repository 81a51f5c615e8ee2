/-! CONSTANTS: String constants by their places, statics of the JDK; contracts that stand on them -/
abbrev Zg : Type := (Nat → Nat) × (Nat → Nat) × Nat × Nat
def sLl : List Nat := [52, 32, 7, 23, 4]
def sBl : List (List Int32) := [[108, 97, 100, 121, 32, 113, 117, 101, 101, 110, 32, 115, 108, 97, 118, 101, 114, 32, 99, 104, 105, 108, 100, 32, 115, 97, 105, 110, 116, 32, 99, 111, 108, 108, 105, 101, 114, 32, 112, 105, 114, 97, 116, 101, 32, 109, 101, 114, 109, 97, 105, 100], [119, 97, 108, 108, 32, 102, 111, 108, 107, 32, 102, 97, 99, 101, 32, 100, 111, 101, 115, 32, 106, 111, 105, 110, 115, 32, 110, 105, 103, 104, 116, 115], [110, 32, 101, 32, 115, 32, 119], [111, 110, 32, 108, 101, 102, 116, 32, 114, 105, 103, 104, 116, 32, 98, 97, 99, 107, 32, 114, 101, 115, 116], [110, 101, 115, 119]]
def sLen (i : Nat) : Nat := sLl.getD i 0
def sBy (i j : Nat) : Int32 := (sBl.getD i []).getD j 0
def dOn (j : Nat) : Int32 := nI (48 + j % 10)
def dTe (j : Nat) : Int32 := nI (48 + j / 10)
def SK (Z : Zg) (B : Nat) (U : State) : Prop := vk_S 5 sLl sBl Z.1 Z.2.1 (fun q => B ≤ q) U U.heap ∧ (vk_R RX4 39 "lady queen slaver child saint collier pirate mermaid" (Z.1 0) U ∧ vk_R RX4 49 "wall folk face does joins nights" (Z.1 1) U ∧ vk_R RX4 103 "n e s w" (Z.1 2) U ∧ vk_R RX4 114 "on left right back rest" (Z.1 3) U ∧ vk_R RX0 77 "nesw" (Z.1 4) U) ∧ va_Z "java/lang/String" "COMPACT_STRINGS" "Z" (.int (nI 1)) (fun q => B ≤ q) U U.heap ∧ va_Zq "jdk/internal/util/Preconditions" "SIOOBE_FORMATTER" "Ljava/util/function/BiFunction;" (fun q => B ≤ q) U U.heap ∧ (va_Z "java/lang/Integer" "DigitOnes" "[B" (.ref Z.2.2.1) (fun q => B ≤ q) U U.heap ∧ va_T .byte Z.2.2.1 100 (fun j => .int (dOn j)) (fun q => B ≤ q) U U.heap) ∧ (va_Z "java/lang/Integer" "DigitTens" "[B" (.ref Z.2.2.2) (fun q => B ≤ q) U U.heap ∧ va_T .byte Z.2.2.2 100 (fun j => .int (dTe j)) (fun q => B ≤ q) U U.heap) ∧ va_Nw (.selects RJ4 yJ5_ensureCapacityInternal_d00df yJ5_ensureCapacityInternal_d00df) U
theorem SK.go {Z : Zg} {B : Nat} {s U : State} {H : Heap} {locs : List Loc} (h : SK Z B s) (hS : va_S (fun q => B ≤ q) s.heap H locs) (hU : U.heap = H) (hW : s.WarmedH U.vm) : SK Z B U := by
  obtain ⟨h1, ⟨r0, r1, r2, r3, r4⟩, h3, h4, ⟨h5, h6⟩, ⟨h7, h8⟩, h9⟩ := h
  have e := hS.2.1
  unfold SK
  rw [hU]
  exact ⟨(vk_S.moved hW.alike h1).kept e, ⟨r0.warm hW, r1.warm hW, r2.warm hW, r3.warm hW, r4.warm hW⟩, (va_Z.moved hW.alike h3).kept e, (va_Zq.moved hW.alike h4).kept e, ⟨(va_Z.moved hW.alike h5).kept e, (va_T.moved hW.alike h6).kept e⟩, ⟨(va_Z.moved hW.alike h7).kept e, (va_T.moved hW.alike h8).kept e⟩, okw_warm rfl hW h9⟩
theorem SK.calling {Z : Zg} {B : Nat} {U : State} (h : SK Z B U) (g : JFrame) (mk : MethodId) (a : Array Value) : SK Z B (U.calling g mk a) := by
  obtain ⟨h1, ⟨r0, r1, r2, r3, r4⟩, h3, h4, ⟨h5, h6⟩, ⟨h7, h8⟩, h9⟩ := h
  have A : U.vm.Alike (U.calling g mk a).vm := Vm.Alike.refl U.vm
  exact ⟨vk_S.moved A h1, ⟨vk_R.same (u := U) rfl r0, vk_R.same (u := U) rfl r1, vk_R.same (u := U) rfl r2, vk_R.same (u := U) rfl r3, vk_R.same (u := U) rfl r4⟩, va_Z.moved A h3, va_Zq.moved A h4, ⟨va_Z.moved A h5, va_T.moved A h6⟩, ⟨va_Z.moved A h7, va_T.moved A h8⟩, va_Nw.same (u := U) (U := U.calling g mk a) rfl rfl h9⟩
abbrev PPs (Z : Zg) (G : Gl) (B : Nat) (S : St) (h : Hp) (sz : Nat) (av : List Value) : Array Value → State → Prop := va_Pc av (fun U => (Hd G B S h sz U.heap ∧ KK G U) ∧ SK Z B U)
abbrev MVs (Z : Zg) (l : Launch) (G : Gl) (B sz : Nat) (S : St) (y : MethodName) (cc : ByteArray) (n : Nat) (rm : Room) (av : List Value) (h : Hp) (Q : Hp → Prop) : Prop := Met l y [Cond.code y cc n none] rm (PPs Z G B S h sz av) (va_Qv Q (PPb G B S sz) (PPa B)) rm.cells rm.slots (PPa B)
abbrev MIs (Z : Zg) (l : Launch) (G : Gl) (B sz : Nat) (S : St) (y : MethodName) (cc : ByteArray) (n : Nat) (rt : FieldType) (rm : Room) (av : List Value) (h : Hp) (Q : Int32 → Hp → Prop) : Prop := Met l y [Cond.code y cc n (some rt)] rm (PPs Z G B S h sz av) (va_Qi Q (PPb G B S sz) (PPa B)) rm.cells rm.slots (PPa B)
abbrev MAs (Z : Zg) (l : Launch) (G : Gl) (B sz : Nat) (S : St) (y : MethodName) (cc : ByteArray) (n : Nat) (rt : FieldType) (rm : Room) (av : List Value) (h : Hp) (Q : Nat → Hp → Prop) : Prop := Met l y [Cond.code y cc n (some rt)] rm (PPs Z G B S h sz av) (va_Qr (S := Nat × Hp) (fun u => Q u.1 u.2) (fun u a t => u.1 = a ∧ Hd G B S u.2 sz t.heap) (PPa B)) rm.cells rm.slots (PPa B)
theorem PPs.blind {Z : Zg} {G : Gl} {B : Nat} {S : St} {h : Hp} {sz : Nat} {av : List Value} : FrameBlind (PPs Z G B S h sz av) := fun a U g mk q => ⟨q.1, ⟨q.2.1.1, q.2.1.2.calling g mk a⟩, q.2.2.calling g mk a⟩
theorem met_ofs {l : Launch} {Z : Zg} {G : Gl} {B sz : Nat} {S : St} {y : MethodName} {cc : ByteArray} {n : Nat} {ret : Option FieldType} {rm : Room} {av : List Value} {h : Hp} {Qc : Array Value → State → Outcome → State → Prop} (hy : plainName y.cls = true) (hlen : Nat.ble (lg_sl av).length n = true)
    (body : ∀ (p : Program) (e : Env) (s : State) (m : MethodId) (args : Array Value) (below : List Frame) (meth : Method) (c : Code), (MB G B sz S p s m meth c cc n y.cls ret ∧ SK Z B s) → ∀ (H : Heap) (ls : Array Slot), HH G B S h sz s H [] → lv_has ls n (lv_args 0 av) → W p l e rm s m args below meth c H [] 0 0 (MQ below Qc args s rm.cells rm.slots (PPa B)) (F0 m 0 ls [])) : Met l y [Cond.code y cc n ret] rm (PPs Z G B S h sz av) Qc rm.cells rm.slots (PPa B) := by
  refine Met.ofW (cc := cc) (maxL := n) (ret := ret) hy rfl ?_
  intro p e s m args below meth c s₁ Bd hml hv
  obtain ⟨rfl, ⟨hHd, hKK⟩, hSK⟩ := hv
  have hown : s.vm.findClass y.cls = some m.cls := findClass_of_methodNamed Bd.named
  have hl := lv_entry av (n := n) (Nat.le_of_ble_eq_true hlen)
  rw [lg_entry_eq]
  exact body p e s m _ below meth c ⟨⟨Bd.exec, Bd.bytes, hml, hown, hKK, Bd.returns, Bd.notSynchronized⟩, hSK⟩ s.heap _ ⟨hHd, va_S.rf⟩ hl
/-- the words of a call on an inherited method; of super's own -/
def CSel (C : String) (y : MethodName) : Prop := Cond.selects C y y ∈ lw_tbl ∨ (C = RJ4 ∧ y = yJ5_ensureCapacityInternal_d00df)
def CWp (own : String) (idx : Nat) (C : String) (y : MethodName) (cc : ByteArray) (n : Nat) (ret : Option FieldType) (k : Nat) : Prop := (Cond.methodLink own idx y ∈ lw_tbl ∧ Cond.sameMethod y.cls y.cls y.name y.desc ∈ lw_tbl ∧ CSel C y ∧ Cond.instanceMethod y ∈ lw_tbl) ∧ Cond.initialized y.cls ∈ lw_tbl ∧ Cond.code y cc n ret ∈ lw_tbl ∧ y.cls ≠ "java/lang/invoke/MethodHandle" ∧ y.cls ≠ "java/lang/invoke/VarHandle" ∧ (parseMethodDescriptor y.desc).map (fun d => d.parameters.length) = some k
def CWu (own : String) (idx : Nat) (y : MethodName) (cc : ByteArray) (n : Nat) (ret : Option FieldType) (k : Nat) : Prop := (Cond.methodLink own idx y ∈ lw_tbl ∧ Cond.sameMethod y.cls y.cls y.name y.desc ∈ lw_tbl ∧ Cond.superclass own y.cls ∈ lw_tbl ∧ Cond.instanceMethod y ∈ lw_tbl) ∧ Cond.initialized y.cls ∈ lw_tbl ∧ Cond.code y cc n ret ∈ lw_tbl ∧ y.name ≠ "<init>" ∧ (parseMethodDescriptor y.desc).map (fun d => d.parameters.length) = some k
theorem sel_sub {C : String} {y : MethodName} {s : State} {args : Array Value} {n : Nat} (hy : y.cls ≠ "java/lang/invoke/MethodHandle" ∧ y.cls ≠ "java/lang/invoke/VarHandle") (hins : (Cond.instantiable C n).before args s = true) (hpriv : (Cond.privateMethod y).before args s = true) (hinst : (Cond.instanceMethod y).before args s = true) (hsame : (Cond.sameMethod y.cls y.cls y.name y.desc).before args s = true) : (Cond.selects C y y).before args s = true := by
  obtain ⟨c, k, hc, hk, -, hniab, -, -⟩ := Cond.instantiable_spec hins
  obtain ⟨mk, methM, hnamed, hmethM, -, -⟩ := Cond.instanceMethod_spec hinst
  have hfound : s.methodFound? y.cls y.name y.desc = some mk := State.methodFound?_of_named hnamed hy
  obtain ⟨c2, k2, g1, g2, g3⟩ := Cond.sameMethod_class hsame
  have hcls : mk.cls = c2 := Option.some.inj ((findClass_of_methodNamed hnamed).symm.trans g1)
  have hsel : selectMethod {} s.vm c mk = .method mk := selectMethod_private hmethM (Cond.privateMethod_at hpriv mk methM hnamed hmethM)
  simp only [Cond.before, Cond.holds, Cond.value, hc, hfound, hnamed, hsel, hcls, g2]
  simp; exact g3
section ROWS2
variable {p : Program} {l : Launch} {e : Env} {R : Room} {s : State} {m : MethodId} {args : Array Value} {below : List Frame} {meth : Method} {c : Code} {H : Heap} {locs : List Loc} {cells slots : Nat} {Q : State → Prop} {cc : ByteArray} {pc : Nat} {ls : Array Slot} {rest : List Value} {Z : Zg} {G : Gl} {B : Nat} {S : St} {h : Hp} {sz a : Nat}
theorem CSel.use {C : String} {y : MethodName} (hc : CSel C y) (hK : KK G s) (hSK : SK Z B s) : (Cond.selects C y y).before args s = true := by
  rcases hc with h1 | ⟨rfl, rfl⟩
  · exact hK.use h1 rfl args
  · exact va_Nw.use (okw_on rfl) hSK.2.2.2.2.2.2
theorem hv_getP (hexec : p.tables.exec = Jvm.exec) (hb : c.code = cc) {own C : String} {T : u_T} {N ci index k : Nat} {ty : Nat → FieldType} (hown : s.vm.findClass own = some m.cls) (hK : KK G s) (hH : HH G B S h sz s H locs) (hcf : CF ci C T N ty) (hk : k < N) (hlink : Cond.fieldLink own index (T k).1 (T k).2.1 (T k).2.2.1 ∈ lw_tbl) (ho : ob S a ci) {v : Value} (hv : cellV S h a ci k = v) (hdg : decode cc pc = .ok (.getfield index, 3))
    (kk : W p l e R s m args below meth c H locs cells slots Q (F0 m (pc + 3) ls (v :: rest))) : W p l e R s m args below meth c H locs cells slots Q (F0 m pc ls (.ref a :: rest)) := by
  obtain ⟨hc, hin, -, -⟩ := hcf
  have hts : ∀ w ∈ u_ws C T N, w.before args s = true := fun w hw => hK.use (hin w hw).1 (hin w hw).2 args
  obtain ⟨-, r, h1, cell, q1, q2, q3, q4⟩ := hH.1.2 a _ ho
  have hr : r = (C, T, N) := Option.some.inj (h1.symm.trans hc)
  subst hr
  obtain ⟨hS, hfc, kC, hkC, hkind⟩ := hK.1.1 ci _ hc
  obtain ⟨cf, kf, fi, f, hi, hsl⟩ := hS k hk
  refine W.getf hexec hb hown (hK.use hlink rfl args) hi (u_facts hfc hkC (u_lays hts (fun _ h => h) hk) hi).1 q1 (by rw [q3]; exact fun h => by cases h) (v := v) ?_ rfl rfl hdg kk
  rw [hsl, q4 k hk, hv]
theorem hv_putP (hexec : p.tables.exec = Jvm.exec) (hb : c.code = cc) {own C : String} {T : u_T} {N ci index k : Nat} {ty : Nat → FieldType} (hown : s.vm.findClass own = some m.cls) (hK : KK G s) (hH : HH G B S h sz s H locs) (hcf : CF ci C T N ty) (hk : k < N) (hlink : Cond.fieldLink own index (T k).1 (T k).2.1 (T k).2.2.1 ∈ lw_tbl) (hfin : (T k).2.2.2 = false) (hr : rfs ci k = false) (ho : ob S a ci) {v : Int32} (hn : narrow (ty k) (.int v) = .int v) (hfit : fits (ty k) (.int v) = true) (hdg : decode cc pc = .ok (.putfield index, 3))
    (kk : ∀ (H1 : Heap) (locs1 : List Loc), HH G B S (up h a k v) sz s H1 locs1 → W p l e R s m args below meth c H1 locs1 cells slots Q (F0 m (pc + 3) ls rest)) : W p l e R s m args below meth c H locs cells slots Q (F0 m pc ls (.int v :: .ref a :: rest)) := by
  obtain ⟨hc, hin, hty, hnm⟩ := hcf
  have hts : ∀ w ∈ u_ws C T N, w.before args s = true := fun w hw => hK.use (hin w hw).1 (hin w hw).2 args
  have hap := va_apart (own := own) hts (fun _ h => h) ty hty hnm hK.1 hc
  obtain ⟨-, r, h1, cell, q1, q2, q3, q4⟩ := hH.1.2 a _ ho
  have hr' : r = (C, T, N) := Option.some.inj (h1.symm.trans hc)
  subst hr'
  obtain ⟨hS, hfc, kC, hkC, hkind⟩ := hK.1.1 ci _ hc
  obtain ⟨cf, kf, fi, f, hi, hsl⟩ := hS k hk
  have hlay := hts _ (u_in_lay hk)
  unfold u_lay at hlay
  rw [if_neg (by rw [hfin]; decide)] at hlay
  have hst := (u_facts hfc hkC (u_lays hts (fun _ h => h) hk) hi).1
  have h6 := u_store hfc hkC hkind hlay hi (hty k hk) hn hfit
  refine W.putK hexec hb (f := f) ⟨hown, hK.use hlink rfl args, ⟨_, _, _, hi⟩, hst⟩ (by rw [q2]; exact h6) q1 q3 (by rw [hsl]; exact k2_hasslot (q4 k hk)) rfl rfl hdg fun H' e1 e2 e3 => ?_
  rw [hsl] at e1 ⊢
  exact kk H' _ (hv_step hc hk hr hH ho ⟨_, e1, q2, q3, t_set q4 hap hk (.int v)⟩ e2 e3)
theorem arrW3 (S : St) (h : Hp) (a : Nat) : arrW S h a 3 = fun j => .int (h a j) := by funext j; simp [arrW]
theorem hv_bald (hexec : p.tables.exec = Jvm.exec) (hb : c.code = cc) (hK : KK G s) (hH : HH G B S h sz s H locs) {i : Int32} (hi : bin S a i) (hdg : decode cc pc = .ok (.baload, 1))
    (kk : W p l e R s m args below meth c H locs cells slots Q (F0 m (pc + 1) ls (.int (h a (ix i)) :: rest))) : W p l e R s m args below meth c H locs cells slots Q (F0 m pc ls (.int i :: .ref a :: rest)) := by
  obtain ⟨n, h1, h2⟩ := hi
  have h3 := (hH.1.2 a _ h1).2.1
  rw [arrW3] at h3
  exact va_bald (D := (G.1, G.2.1)) (cl := clsT) (ws := [(a, .inl (G.2.2 3, n, .inl (h a)))]) hexec hb hK.1 (fun k q hq => by
    match k, hq with
    | 0, hq => cases hq; exact h3) 0 3 rfl rfl h2 hdg kk
theorem hv_bast (hexec : p.tables.exec = Jvm.exec) (hb : c.code = cc) (hK : KK G s) (hH : HH G B S h sz s H locs) {i x : Int32} (hi : bin S a i) (hdg : decode cc pc = .ok (.bastore, 1))
    (kk : ∀ (H1 : Heap) (locs1 : List Loc), HH G B S (up h a (ix i) (i2b x)) sz s H1 locs1 → W p l e R s m args below meth c H1 locs1 cells slots Q (F0 m (pc + 1) ls rest)) : W p l e R s m args below meth c H locs cells slots Q (F0 m pc ls (.int x :: .int i :: .ref a :: rest)) := by
  obtain ⟨n, h1, h2⟩ := hi
  have h3 := (hH.1.2 a _ h1).2.1
  rw [arrW3] at h3
  refine W.bast hexec hb h3 ((hK.1.2 3 _ rfl).1 n (fun j => .int (h a j))) (fun q => by cases q) (by show ¬ (i < 0 ∨ (arrV _ _ _).slots.size ≤ _); rw [arrV_size]; exact h2) rfl rfl hdg fun H1 e1 e2 e3 => ?_
  refine kk H1 _ ⟨⟨⟨by rw [e2, hH.1.1.1], hH.1.1.2⟩, fun a' y hy => ⟨(hH.1.2 a' y hy).1, ?_⟩⟩, hH.2.put e2 e3 (hH.1.2 a _ h1).1⟩
  by_cases ha : a' = a
  · subst ha
    have : y = .inr (3, n) := Option.some.inj (hy.symm.trans h1)
    subst this
    refine ⟨?_, by show 3 < 4; decide⟩
    show H1[a']? = some (arrV (G.2.2 3) n (arrW S _ a' 3))
    rw [e1, arrW3, arrV_store]
    congr 2
    funext q
    by_cases hq : q = i.toNatClampNeg
    · subst hq
      simp [updV, up]
      try rfl
    · simp [updV, up, hq]
  · exact (hH.1.2 a' y hy).2.kept (e3 a' ha) (fun k' => by simp [up, ha])
theorem hv_blen (hexec : p.tables.exec = Jvm.exec) (hb : c.code = cc) (hK : KK G s) (hH : HH G B S h sz s H locs) {n : Nat} (hi : bln S a n) (hdg : decode cc pc = .ok (.arraylength, 1))
    (kk : W p l e R s m args below meth c H locs cells slots Q (F0 m (pc + 1) ls (.int (nI n) :: rest))) : W p l e R s m args below meth c H locs cells slots Q (F0 m pc ls (.ref a :: rest)) := by
  have h3 := (hH.1.2 a _ hi.1).2.1
  rw [arrW3] at h3
  exact va_alen (D := (G.1, G.2.1)) (cl := clsT) (ws := [(a, .inl (G.2.2 3, n, .inl (h a)))]) hexec hb hK.1 (fun k q hq => by
    match k, hq with
    | 0, hq => cases hq; exact h3) 0 3 rfl rfl rfl hdg kk
theorem hv_tlen (hexec : p.tables.exec = Jvm.exec) (hb : c.code = cc) {t n : Nat} {f : Nat → Value} {A : Nat → Prop} (hT : va_T .byte t n f A s s.heap) (hS : va_S A s.heap H locs) (hdg : decode cc pc = .ok (.arraylength, 1))
    (kk : W p l e R s m args below meth c H locs cells slots Q (F0 m (pc + 1) ls (.int (nI n) :: rest))) : W p l e R s m args below meth c H locs cells slots Q (F0 m pc ls (.ref t :: rest)) := by
  obtain ⟨cell, h1, h2, h3, h4, h5, h6, h7⟩ := hT
  exact W.alen (n := nI n) hexec hb (by rw [hS.2.1 t (Array.getElem?_eq_some_iff.mp h1).1 h7]; exact h1) h2 h5 rfl rfl hdg kk
theorem hv_fmt (hexec : p.tables.exec = Jvm.exec) (hb : c.code = cc) {C n d own : String} {index : Nat} {A : Nat → Prop} (hZ : va_Zq C n d A s s.heap) (hS : va_S A s.heap H locs) (hown : s.vm.findClass own = some m.cls) (hlink : (Cond.fieldLink own index C n d).before args s = true) (hdg : decode cc pc = .ok (.getstatic index, 3))
    (kk : ∀ v : Value, (v = .null ∨ ∃ t, v = .ref t) → W p l e R s m args below meth c H locs cells slots Q (F0 m (pc + 3) ls (v :: rest))) : W p l e R s m args below meth c H locs cells slots Q (F0 m pc ls rest) := by
  rcases hZ with hZ | ⟨t, hZ⟩
  · exact va_gets hexec hb hZ hS hown hlink (fun _ h => h) hdg (kk _ (Or.inl rfl))
  · exact va_gets hexec hb hZ hS hown hlink (fun _ h => h) hdg (kk _ (Or.inr ⟨_, rfl⟩))
theorem hz_cret (hexec : p.tables.exec = Jvm.exec) (hb : c.code = cc) (hr : meth.sig.returnType = some .char) (hlocks : meth.locks = false) (hH : HH G B S h sz s H locs) {mc ms : Nat} {Q : Int32 → Hp → Prop} {v : Int32} (hv : i2c v = v) (hq : Q v h) (hdg : decode cc pc = .ok (.ireturn, 1)) : W p l e R s m args below meth c H locs mc ms (MQ below (va_Qi Q (PPb G B S sz) (PPa B)) args s mc ms (PPa B)) (F0 m pc ls [.int v]) :=
  W.zret hexec hb hr (by show Value.int (i2c v) = .int v; rw [hv]) (fun t ht hW => ⟨⟨v, h, rfl, hq, by show Hd G B S h sz t.heap; rw [ht]; exact hH.1⟩, hH.2.F ht⟩) hH.2.2.2 hdg hlocks
theorem hz_bret (hexec : p.tables.exec = Jvm.exec) (hb : c.code = cc) (hr : meth.sig.returnType = some .byte) (hlocks : meth.locks = false) (hH : HH G B S h sz s H locs) {mc ms : Nat} {Q : Int32 → Hp → Prop} {v : Int32} (hv : i2b v = v) (hq : Q v h) (hdg : decode cc pc = .ok (.ireturn, 1)) : W p l e R s m args below meth c H locs mc ms (MQ below (va_Qi Q (PPb G B S sz) (PPa B)) args s mc ms (PPa B)) (F0 m pc ls [.int v]) :=
  W.zret hexec hb hr (by show Value.int (i2b v) = .int v; rw [hv]) (fun t ht hW => ⟨⟨v, h, rfl, hq, by show Hd G B S h sz t.heap; rw [ht]; exact hH.1⟩, hH.2.F ht⟩) hH.2.2.2 hdg hlocks
end ROWS2
section CALLS2
variable {p : Program} {l : Launch} {e : Env} {R : Room} {s : State} {m : MethodId} {args : Array Value} {below : List Frame} {meth : Method} {c : Code} {H : Heap} {locs : List Loc} {cells slots : Nat} {Q : State → Prop} {cc cy : ByteArray} {pc : Nat} {ls : Array Slot} {st rest : List Value} {Z : Zg} {G : Gl} {B : Nat} {S : St} {h : Hp} {sz : Nat} {own : String} {idx : Nat} {y : MethodName} {n nL k : Nat} {rm : Room} {As : List Value}
theorem pre_Ts (hK : KK G s) (hSK : SK Z B s) (hH : HH G B S h sz s H locs) : PreS s H (PPs Z G B S h sz As) As := ⟨PPs.blind, fun U hU hW => ⟨rfl, ⟨by rw [hU]; exact hH.1, hK.warm hW⟩, hSK.go hH.2 hU hW⟩⟩
theorem pre_Vs {C : String} {T : u_T} {N ci b : Nat} {ty : Nat → FieldType} (hcf : CF ci C T N ty) (ho : ob S b ci) (hK : KK G s) (hSK : SK Z B s) (hH : HH G B S h sz s H locs) : PreV s H C b (PPs Z G B S h sz (.ref b :: As)) As := by
  refine ⟨PPs.blind, ?_, fun U hU hW => ⟨rfl, ⟨by rw [hU]; exact hH.1, hK.warm hW⟩, hSK.go hH.2 hU hW⟩⟩
  obtain ⟨-, r, h1, cell, q1, q2, q3, q4⟩ := hH.1.2 b _ ho
  have hr : r = (C, T, N) := Option.some.inj (h1.symm.trans hcf.1)
  subst hr
  exact ⟨cell, q1, by rw [q3]; rfl, by rw [q2]; exact (hK.1.1 ci _ hcf.1).2.1⟩
theorem pre_Ss {i : Nat} (hi : i < 5) (hK : KK G s) (hSK : SK Z B s) (hH : HH G B S h sz s H locs) : PreV s H "java/lang/String" (Z.1 i) (PPs Z G B S h sz (.ref (Z.1 i) :: As)) As :=
  ⟨PPs.blind, vk_recv hSK.1 hi hH.2, fun U hU hW => ⟨rfl, ⟨by rw [hU]; exact hH.1, hK.warm hW⟩, hSK.go hH.2 hU hW⟩⟩
theorem cu_of {C : String} {ret : Option FieldType} (hK : KK G s) (hSK : SK Z B s) (hcw : CWp own idx C y cy n ret k) (hR : rm.frames + 1 ≤ R.frames ∧ 8 + (n + 11) + rm.locals ≤ R.locals) : va_CU R s args own C y.cls idx y y cy n ret [Cond.code y cy n ret] rm rm.cells rm.slots k := by
  obtain ⟨⟨h1, h2, h3, h4⟩, h5, h6, h7, h8, h9⟩ := hcw
  have hc := hK.use h6 rfl args
  refine ⟨⟨rfl, rfl, hR.1, hR.2, fun w hw a' U hW => ?_, List.mem_cons_self⟩, hc, hK.use h5 rfl args, ⟨h7, h8⟩, fun sig hs => ?_, hK.use h1 rfl args, hK.use h2 rfl args, va_Decl.of (hK.use h4 rfl args) hc, h3.use hK hSK, hK.use h4 rfl args⟩
  · rw [List.mem_singleton] at hw
    subst hw
    exact word_at hW (Or.inl rfl) hc
  · rw [hs] at h9
    exact (Option.some.inj h9).symm
theorem cs_of {ret : Option FieldType} (hK : KK G s) (hcw : CWu own idx y cy n ret k) (hR : rm.frames + 1 ≤ R.frames ∧ 8 + (n + 11) + rm.locals ≤ R.locals) : va_CS R s args own idx y cy n ret [Cond.code y cy n ret] rm rm.cells rm.slots k := by
  obtain ⟨⟨h1, h2, h3, h4⟩, h5, h6, h7, h9⟩ := hcw
  have hc := hK.use h6 rfl args
  refine ⟨⟨rfl, rfl, hR.1, hR.2, fun w hw a' U hW => ?_, List.mem_cons_self⟩, hK.use h1 rfl args, hK.use h2 rfl args, hK.use h3 rfl args, hK.use h4 rfl args, hK.use h5 rfl args, hc, h7, fun sig hs => ?_⟩
  · rw [List.mem_singleton] at hw
    subst hw
    exact word_at hW (Or.inl rfl) hc
  · rw [hs] at h9
    exact (Option.some.inj h9).symm
theorem hz_cVV (hexec : p.tables.exec = Jvm.exec) (hb : c.code = cc) (hml : c.maxLocals = nL) (hown : s.vm.findClass own = some m.cls) (hK : KK G s) (hSK : SK Z B s) (hH : HH G B S h sz s H locs) {C : String} {T : u_T} {N ci b : Nat} {ty : Nat → FieldType} (hcf : CF ci C T N ty) (ho : ob S b ci) {Qc : Hp → Prop} (hM : MVs Z l G B sz S y cy n rm (.ref b :: As) h Qc) (hcw : CWv own idx C y cy n none k) (hR : rm.frames + 1 ≤ R.frames ∧ 8 + (n + 11) + rm.locals ≤ R.locals) (hn : As.length = k) (hsize : ls.size = nL) (hst : st = As.reverse ++ .ref b :: rest) (hW : (rest.map fun v => v.category).sum ≤ 8) (hroom : cells + rm.cells ≤ R.cells ∧ slots + rm.slots ≤ R.slots) (hdg : decode cc pc = .ok (.invokevirtual idx, 3))
    (kk : ∀ (u : Hp) (H1 : Heap) (locs1 : List Loc), HH G B S u sz s H1 locs1 → Qc u → W p l e R s m args below meth c H1 locs1 (cells + rm.cells) (slots + rm.slots) Q (F0 m (pc + 3) ls rest)) : W p l e R s m args below meth c H locs cells slots Q (F0 m pc ls st) := by
  subst hst
  exact va_callv (va_runV (As := As) (rest := rest) (Ts := []) (cells := cells) (slots := slots) ⟨hexec, hb, hml, hown, fun w hw => by cases hw⟩ hM ⟨cb_of hK hcw.2.1 hcw.2.2.1 hcw.2.2.2.1 hcw.2.2.2.2.1 hcw.2.2.2.2.2 hcw.1.1 hR, hK.use hcw.1.2.1 rfl args, hK.use hcw.1.2.2 rfl args⟩ (pre_Vs hcf ho hK hSK hH) rfl hn hsize rfl (lv_room hW) hdg hroom) hH.2 (fun q _ h => h) (fun q h => h) (fun u t H1 locs1 ht hvm hw hB hz hk hS => kk u H1 locs1 ⟨by rw [← ht]; exact hB, hS⟩ hw)
theorem hz_cVI (hexec : p.tables.exec = Jvm.exec) (hb : c.code = cc) (hml : c.maxLocals = nL) (hown : s.vm.findClass own = some m.cls) (hK : KK G s) (hSK : SK Z B s) (hH : HH G B S h sz s H locs) {C : String} {T : u_T} {N ci b : Nat} {ty : Nat → FieldType} (hcf : CF ci C T N ty) (ho : ob S b ci) {rt : FieldType} {Qc : Int32 → Hp → Prop} (hM : MIs Z l G B sz S y cy n rt rm (.ref b :: As) h Qc) (hcw : CWv own idx C y cy n (some rt) k) (hR : rm.frames + 1 ≤ R.frames ∧ 8 + (n + 11) + rm.locals ≤ R.locals) (hn : As.length = k) (hsize : ls.size = nL) (hst : st = As.reverse ++ .ref b :: rest) (hW : (rest.map fun v => v.category).sum ≤ 8) (hroom : cells + rm.cells ≤ R.cells ∧ slots + rm.slots ≤ R.slots) (hdg : decode cc pc = .ok (.invokevirtual idx, 3))
    (kk : ∀ (r : Int32) (u : Hp) (H1 : Heap) (locs1 : List Loc), HH G B S u sz s H1 locs1 → Qc r u → W p l e R s m args below meth c H1 locs1 (cells + rm.cells) (slots + rm.slots) Q (F0 m (pc + 3) ls (.int r :: rest))) : W p l e R s m args below meth c H locs cells slots Q (F0 m pc ls st) := by
  subst hst
  exact va_calli (va_runV (As := As) (rest := rest) (Ts := []) (cells := cells) (slots := slots) ⟨hexec, hb, hml, hown, fun w hw => by cases hw⟩ hM ⟨cb_of hK hcw.2.1 hcw.2.2.1 hcw.2.2.2.1 hcw.2.2.2.2.1 hcw.2.2.2.2.2 hcw.1.1 hR, hK.use hcw.1.2.1 rfl args, hK.use hcw.1.2.2 rfl args⟩ (pre_Vs hcf ho hK hSK hH) rfl hn hsize rfl (lv_room hW) hdg hroom) hH.2 (fun q _ h => h) (fun q h => h) (fun r u t H1 locs1 ht hvm hw hB hz hk hS => kk r u H1 locs1 ⟨by rw [← ht]; exact hB, hS⟩ hw)
theorem hz_cVA (hexec : p.tables.exec = Jvm.exec) (hb : c.code = cc) (hml : c.maxLocals = nL) (hown : s.vm.findClass own = some m.cls) (hK : KK G s) (hSK : SK Z B s) (hH : HH G B S h sz s H locs) {C : String} {T : u_T} {N ci b : Nat} {ty : Nat → FieldType} (hcf : CF ci C T N ty) (ho : ob S b ci) {rt : FieldType} {Qc : Nat → Hp → Prop} (hM : MAs Z l G B sz S y cy n rt rm (.ref b :: As) h Qc) (hcw : CWv own idx C y cy n (some rt) k) (hR : rm.frames + 1 ≤ R.frames ∧ 8 + (n + 11) + rm.locals ≤ R.locals) (hn : As.length = k) (hsize : ls.size = nL) (hst : st = As.reverse ++ .ref b :: rest) (hW : (rest.map fun v => v.category).sum ≤ 8) (hroom : cells + rm.cells ≤ R.cells ∧ slots + rm.slots ≤ R.slots) (hdg : decode cc pc = .ok (.invokevirtual idx, 3))
    (kk : ∀ (r : Nat) (u : Hp) (H1 : Heap) (locs1 : List Loc), HH G B S u sz s H1 locs1 → Qc r u → W p l e R s m args below meth c H1 locs1 (cells + rm.cells) (slots + rm.slots) Q (F0 m (pc + 3) ls (.ref r :: rest))) : W p l e R s m args below meth c H locs cells slots Q (F0 m pc ls st) := by
  subst hst
  exact va_callr (va_runV (As := As) (rest := rest) (Ts := []) (cells := cells) (slots := slots) ⟨hexec, hb, hml, hown, fun w hw => by cases hw⟩ hM ⟨cb_of hK hcw.2.1 hcw.2.2.1 hcw.2.2.2.1 hcw.2.2.2.2.1 hcw.2.2.2.2.2 hcw.1.1 hR, hK.use hcw.1.2.1 rfl args, hK.use hcw.1.2.2 rfl args⟩ (pre_Vs hcf ho hK hSK hH) rfl hn hsize rfl (lv_room hW) hdg hroom) hH.2 (fun q _ h => h) (fun q h => h) (fun w a t H1 locs1 ht hvm hw hB hz hk hS => by obtain ⟨r, u⟩ := w; obtain ⟨e9, hB⟩ := hB; cases e9; exact kk r u H1 locs1 ⟨by rw [← ht]; exact hB, hS⟩ hw)
theorem hz_cSI (hexec : p.tables.exec = Jvm.exec) (hb : c.code = cc) (hml : c.maxLocals = nL) (hown : s.vm.findClass own = some m.cls) (hK : KK G s) (hSK : SK Z B s) (hH : HH G B S h sz s H locs) {i : Nat} (hi : i < 5) {rt : FieldType} {Qc : Int32 → Hp → Prop} (hM : MIs Z l G B sz S y cy n rt rm (.ref (Z.1 i) :: As) h Qc) (hcw : CWv own idx "java/lang/String" y cy n (some rt) k) (hR : rm.frames + 1 ≤ R.frames ∧ 8 + (n + 11) + rm.locals ≤ R.locals) (hn : As.length = k) (hsize : ls.size = nL) (hst : st = As.reverse ++ .ref (Z.1 i) :: rest) (hW : (rest.map fun v => v.category).sum ≤ 8) (hroom : cells + rm.cells ≤ R.cells ∧ slots + rm.slots ≤ R.slots) (hdg : decode cc pc = .ok (.invokevirtual idx, 3))
    (kk : ∀ (r : Int32) (u : Hp) (H1 : Heap) (locs1 : List Loc), HH G B S u sz s H1 locs1 → Qc r u → W p l e R s m args below meth c H1 locs1 (cells + rm.cells) (slots + rm.slots) Q (F0 m (pc + 3) ls (.int r :: rest))) : W p l e R s m args below meth c H locs cells slots Q (F0 m pc ls st) := by
  subst hst
  exact va_calli (va_runV (As := As) (rest := rest) (Ts := []) (cells := cells) (slots := slots) ⟨hexec, hb, hml, hown, fun w hw => by cases hw⟩ hM ⟨cb_of hK hcw.2.1 hcw.2.2.1 hcw.2.2.2.1 hcw.2.2.2.2.1 hcw.2.2.2.2.2 hcw.1.1 hR, hK.use hcw.1.2.1 rfl args, hK.use hcw.1.2.2 rfl args⟩ (pre_Ss hi hK hSK hH) rfl hn hsize rfl (lv_room hW) hdg hroom) hH.2 (fun q _ h => h) (fun q h => h) (fun r u t H1 locs1 ht hvm hw hB hz hk hS => kk r u H1 locs1 ⟨by rw [← ht]; exact hB, hS⟩ hw)
theorem hz_cTV (hexec : p.tables.exec = Jvm.exec) (hb : c.code = cc) (hml : c.maxLocals = nL) (hown : s.vm.findClass own = some m.cls) (hK : KK G s) (hSK : SK Z B s) (hH : HH G B S h sz s H locs)  {Qc : Hp → Prop} (hM : MVs Z l G B sz S y cy n rm As h Qc) (hcw : CWs own idx y cy n none k) (hR : rm.frames + 1 ≤ R.frames ∧ 8 + (n + 11) + rm.locals ≤ R.locals) (hn : As.length = k) (hsize : ls.size = nL) (hst : st = As.reverse ++ rest) (hW : (rest.map fun v => v.category).sum ≤ 8) (hroom : cells + rm.cells ≤ R.cells ∧ slots + rm.slots ≤ R.slots) (hdg : decode cc pc = .ok (.invokestatic idx, 3))
    (kk : ∀ (u : Hp) (H1 : Heap) (locs1 : List Loc), HH G B S u sz s H1 locs1 → Qc u → W p l e R s m args below meth c H1 locs1 (cells + rm.cells) (slots + rm.slots) Q (F0 m (pc + 3) ls rest)) : W p l e R s m args below meth c H locs cells slots Q (F0 m pc ls st) := by
  subst hst
  exact va_callv (va_runS (As := As) (rest := rest) (Ts := []) (cells := cells) (slots := slots) ⟨hexec, hb, hml, hown, fun w hw => by cases hw⟩ hM ⟨cb_of hK hcw.2.1 hcw.2.2.1 hcw.2.2.2.1 hcw.2.2.2.2.1 hcw.2.2.2.2.2 hcw.1.1 hR, hK.use hcw.1.2 rfl args⟩ (pre_Ts hK hSK hH) rfl hn hsize rfl (lv_room hW) hdg hroom) hH.2 (fun q _ h => h) (fun q h => h) (fun u t H1 locs1 ht hvm hw hB hz hk hS => kk u H1 locs1 ⟨by rw [← ht]; exact hB, hS⟩ hw)
theorem hz_cTI (hexec : p.tables.exec = Jvm.exec) (hb : c.code = cc) (hml : c.maxLocals = nL) (hown : s.vm.findClass own = some m.cls) (hK : KK G s) (hSK : SK Z B s) (hH : HH G B S h sz s H locs)  {rt : FieldType} {Qc : Int32 → Hp → Prop} (hM : MIs Z l G B sz S y cy n rt rm As h Qc) (hcw : CWs own idx y cy n (some rt) k) (hR : rm.frames + 1 ≤ R.frames ∧ 8 + (n + 11) + rm.locals ≤ R.locals) (hn : As.length = k) (hsize : ls.size = nL) (hst : st = As.reverse ++ rest) (hW : (rest.map fun v => v.category).sum ≤ 8) (hroom : cells + rm.cells ≤ R.cells ∧ slots + rm.slots ≤ R.slots) (hdg : decode cc pc = .ok (.invokestatic idx, 3))
    (kk : ∀ (r : Int32) (u : Hp) (H1 : Heap) (locs1 : List Loc), HH G B S u sz s H1 locs1 → Qc r u → W p l e R s m args below meth c H1 locs1 (cells + rm.cells) (slots + rm.slots) Q (F0 m (pc + 3) ls (.int r :: rest))) : W p l e R s m args below meth c H locs cells slots Q (F0 m pc ls st) := by
  subst hst
  exact va_calli (va_runS (As := As) (rest := rest) (Ts := []) (cells := cells) (slots := slots) ⟨hexec, hb, hml, hown, fun w hw => by cases hw⟩ hM ⟨cb_of hK hcw.2.1 hcw.2.2.1 hcw.2.2.2.1 hcw.2.2.2.2.1 hcw.2.2.2.2.2 hcw.1.1 hR, hK.use hcw.1.2 rfl args⟩ (pre_Ts hK hSK hH) rfl hn hsize rfl (lv_room hW) hdg hroom) hH.2 (fun q _ h => h) (fun q h => h) (fun r u t H1 locs1 ht hvm hw hB hz hk hS => kk r u H1 locs1 ⟨by rw [← ht]; exact hB, hS⟩ hw)
theorem hz_cPV (hexec : p.tables.exec = Jvm.exec) (hb : c.code = cc) (hml : c.maxLocals = nL) (hown : s.vm.findClass own = some m.cls) (hK : KK G s) (hSK : SK Z B s) (hH : HH G B S h sz s H locs) {C : String} {T : u_T} {N ci b : Nat} {ty : Nat → FieldType} (hcf : CF ci C T N ty) (ho : ob S b ci) {Qc : Hp → Prop} (hM : MVs Z l G B sz S y cy n rm (.ref b :: As) h Qc) (hcw : CWp own idx C y cy n none k) (hR : rm.frames + 1 ≤ R.frames ∧ 8 + (n + 11) + rm.locals ≤ R.locals) (hn : As.length = k) (hsize : ls.size = nL) (hst : st = As.reverse ++ .ref b :: rest) (hW : (rest.map fun v => v.category).sum ≤ 8) (hroom : cells + rm.cells ≤ R.cells ∧ slots + rm.slots ≤ R.slots) (hdg : decode cc pc = .ok (.invokevirtual idx, 3))
    (kk : ∀ (u : Hp) (H1 : Heap) (locs1 : List Loc), HH G B S u sz s H1 locs1 → Qc u → W p l e R s m args below meth c H1 locs1 (cells + rm.cells) (slots + rm.slots) Q (F0 m (pc + 3) ls rest)) : W p l e R s m args below meth c H locs cells slots Q (F0 m pc ls st) := by
  subst hst
  exact va_callv (va_runU (As := As) (rest := rest) (Ts := []) (cells := cells) (slots := slots) ⟨hexec, hb, hml, hown, fun w hw => by cases hw⟩ hM (cu_of hK hSK hcw hR) (pre_Vs hcf ho hK hSK hH) rfl hn hsize rfl (lv_room hW) hdg hroom) hH.2 (fun q _ h => h) (fun q h => h) (fun u t H1 locs1 ht hvm hw hB hz hk hS => kk u H1 locs1 ⟨by rw [← ht]; exact hB, hS⟩ hw)
theorem hz_cPI (hexec : p.tables.exec = Jvm.exec) (hb : c.code = cc) (hml : c.maxLocals = nL) (hown : s.vm.findClass own = some m.cls) (hK : KK G s) (hSK : SK Z B s) (hH : HH G B S h sz s H locs) {C : String} {T : u_T} {N ci b : Nat} {ty : Nat → FieldType} (hcf : CF ci C T N ty) (ho : ob S b ci) {rt : FieldType} {Qc : Int32 → Hp → Prop} (hM : MIs Z l G B sz S y cy n rt rm (.ref b :: As) h Qc) (hcw : CWp own idx C y cy n (some rt) k) (hR : rm.frames + 1 ≤ R.frames ∧ 8 + (n + 11) + rm.locals ≤ R.locals) (hn : As.length = k) (hsize : ls.size = nL) (hst : st = As.reverse ++ .ref b :: rest) (hW : (rest.map fun v => v.category).sum ≤ 8) (hroom : cells + rm.cells ≤ R.cells ∧ slots + rm.slots ≤ R.slots) (hdg : decode cc pc = .ok (.invokevirtual idx, 3))
    (kk : ∀ (r : Int32) (u : Hp) (H1 : Heap) (locs1 : List Loc), HH G B S u sz s H1 locs1 → Qc r u → W p l e R s m args below meth c H1 locs1 (cells + rm.cells) (slots + rm.slots) Q (F0 m (pc + 3) ls (.int r :: rest))) : W p l e R s m args below meth c H locs cells slots Q (F0 m pc ls st) := by
  subst hst
  exact va_calli (va_runU (As := As) (rest := rest) (Ts := []) (cells := cells) (slots := slots) ⟨hexec, hb, hml, hown, fun w hw => by cases hw⟩ hM (cu_of hK hSK hcw hR) (pre_Vs hcf ho hK hSK hH) rfl hn hsize rfl (lv_room hW) hdg hroom) hH.2 (fun q _ h => h) (fun q h => h) (fun r u t H1 locs1 ht hvm hw hB hz hk hS => kk r u H1 locs1 ⟨by rw [← ht]; exact hB, hS⟩ hw)
theorem hz_cUA (hexec : p.tables.exec = Jvm.exec) (hb : c.code = cc) (hml : c.maxLocals = nL) (hown : s.vm.findClass own = some m.cls) (hK : KK G s) (hSK : SK Z B s) (hH : HH G B S h sz s H locs) {C : String} {T : u_T} {N ci b : Nat} {ty : Nat → FieldType} (hcf : CF ci C T N ty) (ho : ob S b ci) {rt : FieldType} {Qc : Nat → Hp → Prop} (hM : MAs Z l G B sz S y cy n rt rm (.ref b :: As) h Qc) (hcw : CWu own idx y cy n (some rt) k) (hR : rm.frames + 1 ≤ R.frames ∧ 8 + (n + 11) + rm.locals ≤ R.locals) (hn : As.length = k) (hsize : ls.size = nL) (hst : st = As.reverse ++ .ref b :: rest) (hW : (rest.map fun v => v.category).sum ≤ 8) (hroom : cells + rm.cells ≤ R.cells ∧ slots + rm.slots ≤ R.slots) (hdg : decode cc pc = .ok (.invokespecial idx, 3))
    (kk : ∀ (r : Nat) (u : Hp) (H1 : Heap) (locs1 : List Loc), HH G B S u sz s H1 locs1 → Qc r u → W p l e R s m args below meth c H1 locs1 (cells + rm.cells) (slots + rm.slots) Q (F0 m (pc + 3) ls (.ref r :: rest))) : W p l e R s m args below meth c H locs cells slots Q (F0 m pc ls st) := by
  subst hst
  exact va_callr (va_runSU (As := As) (rest := rest) (Ts := []) (cells := cells) (slots := slots) ⟨(hK.1.1 ci _ hcf.1).2.1, (hK.1.1 ci _ hcf.1).2.2⟩ ⟨hexec, hb, hml, hown, fun w hw => by cases hw⟩ hM (cs_of hK hcw hR) (pre_Vs hcf ho hK hSK hH) rfl hn hsize rfl (lv_room hW) hdg hroom) hH.2 (fun q _ h => h) (fun q h => h) (fun w a t H1 locs1 ht hvm hw hB hz hk hS => by obtain ⟨r, u⟩ := w; obtain ⟨e9, hB⟩ := hB; cases e9; exact kk r u H1 locs1 ⟨by rw [← ht]; exact hB, hS⟩ hw)
theorem hz_cUI (hexec : p.tables.exec = Jvm.exec) (hb : c.code = cc) (hml : c.maxLocals = nL) (hown : s.vm.findClass own = some m.cls) (hK : KK G s) (hSK : SK Z B s) (hH : HH G B S h sz s H locs) {C : String} {T : u_T} {N ci b : Nat} {ty : Nat → FieldType} (hcf : CF ci C T N ty) (ho : ob S b ci) {rt : FieldType} {Qc : Int32 → Hp → Prop} (hM : MIs Z l G B sz S y cy n rt rm (.ref b :: As) h Qc) (hcw : CWu own idx y cy n (some rt) k) (hR : rm.frames + 1 ≤ R.frames ∧ 8 + (n + 11) + rm.locals ≤ R.locals) (hn : As.length = k) (hsize : ls.size = nL) (hst : st = As.reverse ++ .ref b :: rest) (hW : (rest.map fun v => v.category).sum ≤ 8) (hroom : cells + rm.cells ≤ R.cells ∧ slots + rm.slots ≤ R.slots) (hdg : decode cc pc = .ok (.invokespecial idx, 3))
    (kk : ∀ (r : Int32) (u : Hp) (H1 : Heap) (locs1 : List Loc), HH G B S u sz s H1 locs1 → Qc r u → W p l e R s m args below meth c H1 locs1 (cells + rm.cells) (slots + rm.slots) Q (F0 m (pc + 3) ls (.int r :: rest))) : W p l e R s m args below meth c H locs cells slots Q (F0 m pc ls st) := by
  subst hst
  exact va_calli (va_runSU (As := As) (rest := rest) (Ts := []) (cells := cells) (slots := slots) ⟨(hK.1.1 ci _ hcf.1).2.1, (hK.1.1 ci _ hcf.1).2.2⟩ ⟨hexec, hb, hml, hown, fun w hw => by cases hw⟩ hM (cs_of hK hcw hR) (pre_Vs hcf ho hK hSK hH) rfl hn hsize rfl (lv_room hW) hdg hroom) hH.2 (fun q _ h => h) (fun q h => h) (fun r u t H1 locs1 ht hvm hw hB hz hk hS => kk r u H1 locs1 ⟨by rw [← ht]; exact hB, hS⟩ hw)
end CALLS2
