/-! OBJECTS BEING MADE: a picture whose references may be null yet; rows of constructors -/
abbrev St2 : Type := (Nat → Option (Nat ⊕ (Nat × Nat))) × (Nat → Nat → Option Nat)
def cv2 (T : St2) (h : Hp) (a ci : Nat) : Nat → Value := fun k => if rfs ci k = true then va_rf (T.2 a k) else .int (h a k)
def aw2 (T : St2) (h : Hp) (a t : Nat) : Nat → Value := fun j => if t = 0 ∨ t = 3 then .int (h a j) else va_rf (T.2 a j)
def Hat2 (G : Gl) (T : St2) (h : Hp) (H : Heap) (a : Nat) (x : Nat ⊕ (Nat × Nat)) : Prop := match x with
  | .inl ci => ∃ r, clsT[ci]? = some r ∧ t_OB a (G.1 ci) r.2.2 (G.2.1 ci) H (cv2 T h a ci)
  | .inr y => H[a]? = some (arrV (G.2.2 y.1) y.2 (aw2 T h a y.1)) ∧ y.1 < 4
def Hd2 (G : Gl) (B : Nat) (T : St2) (h : Hp) (sz : Nat) (H : Heap) : Prop := (H.size = sz ∧ B ≤ sz) ∧ ∀ a x, T.1 a = some x → B ≤ a ∧ Hat2 G T h H a x
def HH2 (G : Gl) (B : Nat) (T : St2) (h : Hp) (sz : Nat) (s : State) (H : Heap) (locs : List Loc) : Prop := Hd2 G B T h sz H ∧ va_S (fun q => B ≤ q) s.heap H locs
theorem Hat2.kept {G : Gl} {T T1 : St2} {h h1 : Hp} {H H1 : Heap} {a : Nat} {x : Nat ⊕ (Nat × Nat)} (hat : Hat2 G T h H a x) (e : H1[a]? = H[a]?) (eh : ∀ k, h1 a k = h a k) (et : ∀ k, T1.2 a k = T.2 a k) : Hat2 G T1 h1 H1 a x := by
  cases x with
  | inl ci =>
    obtain ⟨r, h1, h2⟩ := hat
    exact ⟨r, h1, t_OB.to (h2.kept e) (fun k _ => by simp only [cv2, eh, et])⟩
  | inr y =>
    refine ⟨?_, hat.2⟩
    rw [e, hat.1]
    have : aw2 T h a y.1 = aw2 T1 h1 a y.1 := by funext j; simp only [aw2, eh, et]
    rw [this]
theorem Hat2.lt {G : Gl} {T : St2} {h : Hp} {H : Heap} {a : Nat} {x : Nat ⊕ (Nat × Nat)} (hat : Hat2 G T h H a x) : a < H.size := by
  cases x with
  | inl ci =>
    obtain ⟨r, -, cell, q, -⟩ := hat
    exact (Array.getElem?_eq_some_iff.mp q).1
  | inr y => exact (Array.getElem?_eq_some_iff.mp hat.1).1
def nwT (T : St2) (a : Nat) (x : Nat ⊕ (Nat × Nat)) : St2 := (fun q => if q = a then some x else T.1 q, fun q k => if q = a then none else T.2 q k)
def stR (T : St2) (a k r : Nat) : St2 := (T.1, fun q j => if q = a ∧ j = k then some r else T.2 q j)
def zr (h : Hp) (a : Nat) : Hp := fun q k => if q = a then nI 0 else h q k
def NK (U : State) : Prop := va_AO RX0 U ∧ va_AO RX1 U ∧ va_Nw (.arrayClass .byte) U
theorem NK.warm {s U : State} (h : NK s) (hW : s.WarmedH U.vm) : NK U := ⟨va_AO.moved hW.alike h.1, va_AO.moved hW.alike h.2.1, word_at hW (Or.inr ⟨_, rfl⟩) h.2.2⟩
theorem NK.calling {U : State} (h : NK U) (g : JFrame) (mk : MethodId) (a : Array Value) : NK (U.calling g mk a) := ⟨va_AO.moved (u := U) (U := U.calling g mk a) (Vm.Alike.refl U.vm) h.1, va_AO.moved (u := U) (U := U.calling g mk a) (Vm.Alike.refl U.vm) h.2.1, h.2.2⟩
abbrev PPn (Z : Zg) (G : Gl) (B : Nat) (T : St2) (h : Hp) (sz : Nat) (av : List Value) : Array Value → State → Prop := va_Pc av (fun U => ((Hd2 G B T h sz U.heap ∧ KK G U) ∧ SK Z B U) ∧ NK U)
abbrev PPq (G : Gl) (B : Nat) : St2 × Nat × Hp → State → Prop := fun u t => Hd2 G B u.1 u.2.2 u.2.1 t.heap
abbrev MC (Z : Zg) (l : Launch) (G : Gl) (B : Nat) (T : St2) (sz : Nat) (y : MethodName) (cc : ByteArray) (n : Nat) (rm : Room) (av : List Value) (h : Hp) (Q : St2 → Nat → Hp → Prop) : Prop := Met l y [Cond.code y cc n none] rm (PPn Z G B T h sz av) (va_Qv (fun u : St2 × Nat × Hp => Q u.1 u.2.1 u.2.2) (PPq G B) (PPa B)) rm.cells rm.slots (PPa B)
theorem PPn.blind {Z : Zg} {G : Gl} {B : Nat} {T : St2} {h : Hp} {sz : Nat} {av : List Value} : FrameBlind (PPn Z G B T h sz av) := fun a U g mk q => ⟨q.1, ⟨⟨q.2.1.1.1, q.2.1.1.2.calling g mk a⟩, q.2.1.2.calling g mk a⟩, q.2.2.calling g mk a⟩
/-- what a constructor's body stands on -/
def NB (Z : Zg) (G : Gl) (B : Nat) (p : Program) (s : State) (m : MethodId) (meth : Method) (c : Code) (cc : ByteArray) (n : Nat) (own : String) : Prop := p.tables.exec = Jvm.exec ∧ c.code = cc ∧ c.maxLocals = n ∧ s.vm.findClass own = some m.cls ∧ KK G s ∧ meth.sig.returnType = none ∧ meth.locks = false ∧ SK Z B s ∧ NK s ∧ meth.name = "<init>"
theorem met_ofn {l : Launch} {Z : Zg} {G : Gl} {B sz : Nat} {T : St2} {y : MethodName} {cc : ByteArray} {n : Nat} {rm : Room} {av : List Value} {h : Hp} {Qc : Array Value → State → Outcome → State → Prop} (hy : plainName y.cls = true) (hnm : y.name = "<init>") (hlen : Nat.ble (lg_sl av).length n = true)
    (body : ∀ (p : Program) (e : Env) (s : State) (m : MethodId) (args : Array Value) (below : List Frame) (meth : Method) (c : Code), NB Z G B p s m meth c cc n y.cls → ∀ (H : Heap) (ls : Array Slot), HH2 G B T h sz s H [] → lv_has ls n (lv_args 0 av) → W p l e rm s m args below meth c H [] 0 0 (MQ below Qc args s rm.cells rm.slots (PPa B)) (F0 m 0 ls [])) : Met l y [Cond.code y cc n none] rm (PPn Z G B T h sz av) Qc rm.cells rm.slots (PPa B) := by
  refine Met.ofW (cc := cc) (maxL := n) (ret := none) hy rfl ?_
  intro p e s m args below meth c s₁ Bd hml hv
  obtain ⟨rfl, ⟨⟨hHd, hKK⟩, hSK⟩, hNK⟩ := hv
  have hown : s.vm.findClass y.cls = some m.cls := findClass_of_methodNamed Bd.named
  have hl := lv_entry av (n := n) (Nat.le_of_ble_eq_true hlen)
  rw [lg_entry_eq]
  exact body p e s m _ below meth c ⟨Bd.exec, Bd.bytes, hml, hown, hKK, Bd.returns, Bd.notSynchronized, hSK, hNK, hnm ▸ (name_of_methodNamed Bd.named Bd.method).1⟩ s.heap _ ⟨hHd, va_S.rf⟩ hl
section CROWS
variable {p : Program} {l : Launch} {e : Env} {R : Room} {s : State} {m : MethodId} {args : Array Value} {below : List Frame} {meth : Method} {c : Code} {H : Heap} {locs : List Loc} {cells slots : Nat} {Q : State → Prop} {cc : ByteArray} {pc : Nat} {ls : Array Slot} {rest : List Value} {Z : Zg} {G : Gl} {B : Nat} {T : St2} {h : Hp} {sz a : Nat}
/-- a new cell at the heap's end -/
theorem hn_push (hH : HH2 G B T h sz s H locs) {H1 : Heap} (z1 : H1.size = H.size + 1) (o1 : ∀ q, q < H.size → H1[q]? = H[q]?) {x : Nat ⊕ (Nat × Nat)} (hx : Hat2 G (nwT T sz x) (zr h sz) H1 sz x) : HH2 G B (nwT T sz x) (zr h sz) (sz + 1) s H1 locs := by
  obtain ⟨⟨⟨h1, h2⟩, h3⟩, h4⟩ := hH
  refine ⟨⟨⟨by rw [z1, h1], by omega⟩, fun a' y hy => ?_⟩, ⟨Nat.le_trans h4.1 (by omega), fun q g1 g2 => (o1 q (Nat.lt_of_lt_of_le g1 h4.1)).trans (h4.2.1 q g1 g2), h4.2.2⟩⟩
  by_cases ha : a' = sz
  · subst ha
    have : y = x := by simp only [nwT, if_pos] at hy; exact (Option.some.inj hy).symm
    subst this
    exact ⟨h2, hx⟩
  · have hy' : T.1 a' = some y := by simpa [nwT, ha] using hy
    have g := h3 a' y hy'
    exact ⟨g.1, g.2.kept (o1 a' g.2.lt) (fun k => by simp [zr, ha]) (fun k => by simp [nwT, ha])⟩
theorem hn_new (hexec : p.tables.exec = Jvm.exec) (hb : c.code = cc) {own C : String} {F : u_T} {N ci index : Nat} {ty : Nat → FieldType} (hown : s.vm.findClass own = some m.cls) (hK : KK G s) (hH : HH2 G B T h sz s H locs) (hcf : CF ci C F N ty) (hcl : Cond.classLink own index C ∈ lw_tbl) (hinst : Cond.instantiable C N ∈ lw_tbl) (hini : Cond.initialized C ∈ lw_tbl) (hfs : ∀ j, j < N → defaultValue (ty j) = if rfs ci j = true then .null else .int (nI 0)) (hcells : cells + 1 ≤ R.cells) (hslots : slots + N ≤ R.slots) (hdg : decode cc pc = .ok (.new index, 3))
    (kk : ∀ (T1 : St2) (r sz1 : Nat) (h1 : Hp) (H1 : Heap), T1 = nwT T sz (.inl ci) → r = sz → sz1 = sz + 1 → h1 = zr h sz → HH2 G B T1 h1 sz1 s H1 locs → W p l e R s m args below meth c H1 locs (cells + 1) (slots + N) Q (F0 m (pc + 3) ls (.ref r :: rest))) : W p l e R s m args below meth c H locs cells slots Q (F0 m pc ls rest) := by
  obtain ⟨hc, hin, hty, hnm⟩ := hcf
  have hts : ∀ w ∈ u_ws C F N, w.before args s = true := fun w hw => hK.use (hin w hw).1 (hin w hw).2 args
  have hKn := hK.1.1 ci _ hc
  refine W.newcK hexec hb hown (hK.use hcl rfl args) (hK.use hinst rfl args) (hK.use hini rfl args) rfl hdg hcells hslots hKn.2.1 hH.1.1.1 fun H1 kC hkC e1 z1 o1 => ?_
  have hs := hH.1.1.1
  refine kk _ _ _ _ H1 rfl rfl rfl rfl (hn_push hH (by omega) (fun q hq => o1 q (by omega)) ⟨_, hc, (u_born ty hts (fun _ h => h) hKn hkC e1 hty).to (fun j hj => ?_)⟩)
  rw [hfs j hj]
  simp [cv2, nwT, zr, va_rf]
theorem hn_newa (hexec : p.tables.exec = Jvm.exec) (hb : c.code = cc) {atype : ArrayType} {t : Nat} (ht : t = 0 ∨ t = 3) (harr : (Cond.arrayClass (newarray.typeOf atype)).before args s = true) (hRA : s.vm.findClass ("[" ++ (newarray.typeOf atype).toString) = some (G.2.2 t)) (hd : defaultValue (newarray.typeOf atype) = .int (nI 0)) (hH : HH2 G B T h sz s H locs) {n : Int32} {N : Nat} (hn : ¬ n < 0) (hN : n.toNatClampNeg = N) (hbytes : N * componentBytes (newarray.typeOf atype) ≤ 536870912) (hcells : cells + 1 ≤ R.cells) (hslots : slots + N ≤ R.slots) (hdg : decode cc pc = .ok (.newarray atype, 2))
    (kk : ∀ (T1 : St2) (r sz1 : Nat) (h1 : Hp) (H1 : Heap), T1 = nwT T sz (.inr (t, N)) → r = sz → sz1 = sz + 1 → h1 = zr h sz → HH2 G B T1 h1 sz1 s H1 locs → W p l e R s m args below meth c H1 locs (cells + 1) (slots + N) Q (F0 m (pc + 2) ls (.ref r :: rest))) : W p l e R s m args below meth c H locs cells slots Q (F0 m pc ls (.int n :: rest)) := by
  refine va_newaK hexec hb harr rfl hdg rfl hn hN hbytes hcells hslots hH.1.1.1 fun H1 cA e1 z1 o1 hAr hNm => ?_
  have hs := hH.1.1.1
  have hcA : cA = G.2.2 t := Option.some.inj (hNm.symm.trans hRA)
  subst hcA
  refine kk _ _ _ _ H1 rfl rfl rfl rfl (hn_push hH (by omega) (fun q hq => o1 q (by omega)) ⟨?_, by show t < 4; omega⟩)
  rw [e1, hd]
  have : aw2 (nwT T sz (.inr (t, N))) (zr h sz) sz t = fun _ => .int (nI 0) := by funext j; simp [aw2, zr, ht]
  show _ = some (arrV (G.2.2 t) N (aw2 (nwT T sz (.inr (t, N))) (zr h sz) sz t))
  rw [this]
theorem hn_newi (hexec : p.tables.exec = Jvm.exec) (hb : c.code = cc) (hK : KK G s) (hH : HH2 G B T h sz s H locs) {n : Int32} {N : Nat} (hn : ¬ n < 0) (hN : n.toNatClampNeg = N) (hbytes : N * 4 ≤ 536870912) (hcells : cells + 1 ≤ R.cells) (hslots : slots + N ≤ R.slots) (hdg : decode cc pc = .ok (.newarray .int, 2))
    (kk : ∀ (T1 : St2) (r sz1 : Nat) (h1 : Hp) (H1 : Heap), T1 = nwT T sz (.inr (0, N)) → r = sz → sz1 = sz + 1 → h1 = zr h sz → HH2 G B T1 h1 sz1 s H1 locs → W p l e R s m args below meth c H1 locs (cells + 1) (slots + N) Q (F0 m (pc + 2) ls (.ref r :: rest))) : W p l e R s m args below meth c H locs cells slots Q (F0 m pc ls (.int n :: rest)) :=
  hn_newa (atype := .int) hexec hb (Or.inl rfl) (show (Cond.arrayClass .int).before args s = true by have := hK.2.2; simpa [va_Nw, Cond.before, Cond.holds, Cond.value] using this) (hK.1.2 0 _ rfl).2 rfl hH hn hN hbytes hcells hslots hdg kk
theorem hn_newb (hexec : p.tables.exec = Jvm.exec) (hb : c.code = cc) (hK : KK G s) (hNK : NK s) (hH : HH2 G B T h sz s H locs) {n : Int32} {N : Nat} (hn : ¬ n < 0) (hN : n.toNatClampNeg = N) (hbytes : N * 1 ≤ 536870912) (hcells : cells + 1 ≤ R.cells) (hslots : slots + N ≤ R.slots) (hdg : decode cc pc = .ok (.newarray .byte, 2))
    (kk : ∀ (T1 : St2) (r sz1 : Nat) (h1 : Hp) (H1 : Heap), T1 = nwT T sz (.inr (3, N)) → r = sz → sz1 = sz + 1 → h1 = zr h sz → HH2 G B T1 h1 sz1 s H1 locs → W p l e R s m args below meth c H1 locs (cells + 1) (slots + N) Q (F0 m (pc + 2) ls (.ref r :: rest))) : W p l e R s m args below meth c H locs cells slots Q (F0 m pc ls (.int n :: rest)) :=
  hn_newa (atype := .byte) hexec hb (Or.inr rfl) (show (Cond.arrayClass .byte).before args s = true by have := hNK.2.2; simpa [va_Nw, Cond.before, Cond.holds, Cond.value] using this) (hK.1.2 3 _ rfl).2 rfl hH hn hN hbytes hcells hslots hdg kk
theorem hn_newq (hexec : p.tables.exec = Jvm.exec) (hb : c.code = cc) {own C : String} {index t : Nat} (ht : t = 1 ∨ t = 2) (hown : s.vm.findClass own = some m.cls) (hcl : Cond.classLink own index C ∈ lw_tbl) (hAO : va_AO C s) (hK : KK G s) (hRA : va_RA s (G.2.2 t) (.object C)) (hH : HH2 G B T h sz s H locs) {n : Int32} {N : Nat} (hn : ¬ n < 0) (hN : n.toNatClampNeg = N) (hbytes : N * 4 ≤ 536870912) (hcells : cells + 1 ≤ R.cells) (hslots : slots + N ≤ R.slots) (hdg : decode cc pc = .ok (.anewarray index, 3))
    (kk : ∀ (T1 : St2) (r sz1 : Nat) (h1 : Hp) (H1 : Heap), T1 = nwT T sz (.inr (t, N)) → r = sz → sz1 = sz + 1 → h1 = zr h sz → HH2 G B T1 h1 sz1 s H1 locs → W p l e R s m args below meth c H1 locs (cells + 1) (slots + N) Q (F0 m (pc + 3) ls (.ref r :: rest))) : W p l e R s m args below meth c H locs cells slots Q (F0 m pc ls (.int n :: rest)) := by
  subst hN
  refine W.anew hexec hb hown (hK.use hcl rfl args) (va_AO.use hAO) rfl hdg rfl hn hbytes hcells hslots fun cA kA comp f1 f2 f3 f4 => ?_
  obtain ⟨kA', comp', g1, g2, g3, g4⟩ := hRA
  have hcA : cA = G.2.2 t := Option.some.inj (f1.symm.trans g4)
  subst hcA
  have hs := hH.1.1.1
  generalize hH1 : H.push ({ cls := G.2.2 t, slots := Array.replicate n.toNatClampNeg .null, vm := .none } : Cell) = H1
  have z1 : H1.size = H.size + 1 := by rw [← hH1, Array.size_push]
  have e1 : H1[H.size]? = some (arrV (G.2.2 t) n.toNatClampNeg (fun _ => .null)) := by rw [← hH1, Array.getElem?_push_size, ← arrV_new]
  have o1 : ∀ q : Nat, q < H.size → H1[q]? = H[q]? := fun q hq => by rw [← hH1, Array.getElem?_push, if_neg (Nat.ne_of_lt hq)]
  rw [hs] at e1 ⊢
  refine kk _ _ _ _ H1 rfl rfl rfl rfl (hn_push hH z1 o1 ⟨?_, by show t < 4; omega⟩)
  rw [e1]
  have h03 : ¬ (t = 0 ∨ t = 3) := by omega
  have : aw2 (nwT T sz (.inr (t, n.toNatClampNeg))) (zr h sz) sz t = fun _ => .null := by funext j; simp [aw2, h03, nwT, va_rf]
  show _ = some (arrV (G.2.2 t) n.toNatClampNeg (aw2 (nwT T sz (.inr (t, n.toNatClampNeg))) (zr h sz) sz t))
  rw [this]
/-- a slot of an object written -/
theorem hn_step {ci k N : Nat} {v : Value} {T1 : St2} {h1 : Hp} {C : String} {F : u_T} (hc : clsT[ci]? = some (C, F, N)) (hH : HH2 G B T h sz s H locs) (ho : T.1 a = some (.inl ci)) (e1 : T1.1 = T.1) (e2 : cv2 T1 h1 a ci = updV (cv2 T h a ci) k v) (e3 : ∀ q, q ≠ a → (∀ j, T1.2 q j = T.2 q j) ∧ ∀ j, h1 q j = h q j) {H1 : Heap} {i : Nat} (hob : t_OB a (G.1 ci) N (G.2.1 ci) H1 (updV (cv2 T h a ci) k v)) (z2 : H1.size = H.size) (o2 : ∀ q, q ≠ a → H1[q]? = H[q]?) : HH2 G B T1 h1 sz s H1 (locs ++ [⟨a, i⟩]) := by
  obtain ⟨⟨⟨g1, g2⟩, g3⟩, g4⟩ := hH
  refine ⟨⟨⟨by rw [z2, g1], g2⟩, fun a' x hx => ?_⟩, g4.put z2 o2 (g3 a _ ho).1⟩
  rw [e1] at hx
  refine ⟨(g3 a' x hx).1, ?_⟩
  by_cases ha : a' = a
  · subst ha
    have : x = .inl ci := Option.some.inj (hx.symm.trans ho)
    subst this
    exact ⟨_, hc, by rw [e2]; exact hob⟩
  · exact (g3 a' x hx).2.kept (o2 a' ha) (e3 a' ha).2 (e3 a' ha).1
theorem hn_putr (hexec : p.tables.exec = Jvm.exec) (hb : c.code = cc) {own C : String} {F : u_T} {N ci index k : Nat} {ty : Nat → FieldType} (hown : s.vm.findClass own = some m.cls) (hK : KK G s) (hin2 : meth.name = "<init>") (hH : HH2 G B T h sz s H locs) (hcf : CF ci C F N ty) (hk : k < N) (hlink : Cond.fieldLink own index (F k).1 (F k).2.1 (F k).2.2.1 ∈ lw_tbl) (hfin : (F k).2.2.2 = false ∨ ((F k).2.2.2 = true ∧ (F k).1 = own)) (hr : rfs ci k = true) (ho : T.1 a = some (.inl ci)) {v : Nat} (hn : narrow (ty k) (.ref v) = .ref v) (hfit : fits (ty k) (.ref v) = true) (hdg : decode cc pc = .ok (.putfield index, 3))
    (kk : ∀ (T1 : St2) (H1 : Heap) (locs1 : List Loc), T1 = stR T a k v → HH2 G B T1 h sz s H1 locs1 → W p l e R s m args below meth c H1 locs1 cells slots Q (F0 m (pc + 3) ls rest)) : W p l e R s m args below meth c H locs cells slots Q (F0 m pc ls (.ref v :: .ref a :: rest)) := by
  obtain ⟨hc, hin, hty, hnm⟩ := hcf
  have hts : ∀ w ∈ u_ws C F N, w.before args s = true := fun w hw => hK.use (hin w hw).1 (hin w hw).2 args
  have hap := va_apart (own := own) hts (fun _ h => h) ty hty hnm hK.1 hc
  obtain ⟨-, r, h1, cell, q1, q2, q3, q4⟩ := hH.1.2 a _ ho
  have hr' : r = (C, F, N) := Option.some.inj (h1.symm.trans hc)
  subst hr'
  obtain ⟨hS, hfc, kC, hkC, hkind⟩ := hK.1.1 ci _ hc
  obtain ⟨cf, kf, fi, f, hi, hsl⟩ := hS k hk
  have hlay := hts _ (u_in_lay hk)
  have hst := (u_facts hfc hkC (u_lays hts (fun _ h => h) hk) hi).1
  have fin : ∀ (H' : Heap) (i : Nat), H'[a]? = some (cell.setSlot (G.2.1 ci k) (.ref v)) → H'.size = H.size → (∀ q, q ≠ a → H'[q]? = H[q]?) → HH2 G B (stR T a k v) h sz s H' (locs ++ [⟨a, i⟩]) := by
    intro H' i e1 e2 e3
    refine hn_step (T1 := stR T a k v) (h1 := h) (k := k) (v := .ref v) hc hH ho rfl ?_ (fun q hq => ⟨fun j => by simp [stR, hq], fun j => rfl⟩) ⟨_, e1, q2, q3, t_set q4 hap hk (.ref v)⟩ e2 e3
    funext j
    by_cases hj : j = k
    · subst hj
      simp [cv2, hr, stR, updV, va_rf]
    · simp [cv2, stR, updV, hj]
  unfold u_lay at hlay
  rcases hfin with hfin | ⟨hfin, hdecl⟩
  · rw [if_neg (by rw [hfin]; decide)] at hlay
    have h6 := u_store hfc hkC hkind hlay hi (hty k hk) hn hfit
    refine W.putK hexec hb (f := f) ⟨hown, hK.use hlink rfl args, ⟨_, _, _, hi⟩, hst⟩ (by rw [q2]; exact h6) q1 q3 (by rw [hsl]; exact k2_hasslot (q4 k hk)) rfl rfl hdg fun H' e1 e2 e3 => ?_
    rw [hsl] at e1 ⊢
    exact kk _ H' _ rfl (fin H' _ e1 e2 e3)
  · rw [if_pos hfin] at hlay
    have hcf : m.cls = cf := by
      obtain ⟨_, _, c', _, _, _, -, -, hf', -, -, -, hown2, -⟩ := Cond.laysFinal_spec hlay
      have e1 : c' = cf := by have := hi.symm.trans hf'; simp at this; exact this.1.symm
      rw [hdecl] at hown2
      rw [← e1]; exact Option.some.inj (hown.symm.trans hown2)
    have h6 := u_fits hfc hkC hkind (Or.inr hlay) hi (hty k hk) hn hfit
    refine W.putFinK hexec hb hown (hK.use hlink rfl args) hi hst hcf hin2 (by rw [q2]; exact h6) q1 q3 (by rw [hsl]; exact k2_hasslot (q4 k hk)) rfl rfl hdg fun H' e1 e2 e3 => ?_
    rw [hsl] at e1 ⊢
    exact kk _ H' _ rfl (fin H' _ e1 e2 e3)
theorem hn_puti (hexec : p.tables.exec = Jvm.exec) (hb : c.code = cc) {own C : String} {F : u_T} {N ci index k : Nat} {ty : Nat → FieldType} (hown : s.vm.findClass own = some m.cls) (hK : KK G s) (hH : HH2 G B T h sz s H locs) (hcf : CF ci C F N ty) (hk : k < N) (hlink : Cond.fieldLink own index (F k).1 (F k).2.1 (F k).2.2.1 ∈ lw_tbl) (hfin : (F k).2.2.2 = false) (hr : rfs ci k = false) (ho : T.1 a = some (.inl ci)) {v : Int32} (hn : narrow (ty k) (.int v) = .int v) (hfit : fits (ty k) (.int v) = true) (hdg : decode cc pc = .ok (.putfield index, 3))
    (kk : ∀ (h1 : Hp) (H1 : Heap) (locs1 : List Loc), h1 = up h a k v → HH2 G B T h1 sz s H1 locs1 → W p l e R s m args below meth c H1 locs1 cells slots Q (F0 m (pc + 3) ls rest)) : W p l e R s m args below meth c H locs cells slots Q (F0 m pc ls (.int v :: .ref a :: rest)) := by
  obtain ⟨hc, hin, hty, hnm⟩ := hcf
  have hts : ∀ w ∈ u_ws C F N, w.before args s = true := fun w hw => hK.use (hin w hw).1 (hin w hw).2 args
  have hap := va_apart (own := own) hts (fun _ h => h) ty hty hnm hK.1 hc
  obtain ⟨-, r, h1, cell, q1, q2, q3, q4⟩ := hH.1.2 a _ ho
  have hr' : r = (C, F, N) := Option.some.inj (h1.symm.trans hc)
  subst hr'
  obtain ⟨hS, hfc, kC, hkC, hkind⟩ := hK.1.1 ci _ hc
  obtain ⟨cf, kf, fi, f, hi, hsl⟩ := hS k hk
  have hlay := hts _ (u_in_lay hk)
  unfold u_lay at hlay
  rw [if_neg (by rw [hfin]; decide)] at hlay
  have hst := (u_facts hfc hkC (u_lays hts (fun _ h => h) hk) hi).1
  have h6 := u_store hfc hkC hkind hlay hi (hty k hk) hn hfit
  refine W.putK hexec hb (f := f) ⟨hown, hK.use hlink rfl args, ⟨_, _, _, hi⟩, hst⟩ (by rw [q2]; exact h6) q1 q3 (by rw [hsl]; exact k2_hasslot (q4 k hk)) rfl rfl hdg fun H' e1 e2 e3 => ?_
  rw [hsl] at e1 ⊢
  refine kk _ H' _ rfl (hn_step (T1 := T) (h1 := up h a k v) (k := k) (v := .int v) hc hH ho rfl ?_ (fun q hq => ⟨fun j => rfl, fun j => by simp [up, hq]⟩) ⟨_, e1, q2, q3, t_set q4 hap hk (.int v)⟩ e2 e3)
  funext j
  by_cases hj : j = k
  · subst hj
    simp [cv2, hr, up, updV]
  · simp [cv2, up, updV, hj]
theorem hn_get (hexec : p.tables.exec = Jvm.exec) (hb : c.code = cc) {own C : String} {F : u_T} {N ci index k : Nat} {ty : Nat → FieldType} (hown : s.vm.findClass own = some m.cls) (hK : KK G s) (hH : HH2 G B T h sz s H locs) (hcf : CF ci C F N ty) (hk : k < N) (hlink : Cond.fieldLink own index (F k).1 (F k).2.1 (F k).2.2.1 ∈ lw_tbl) (hr : rfs ci k = true) (ho : T.1 a = some (.inl ci)) {v : Nat} (hv : T.2 a k = some v) (hdg : decode cc pc = .ok (.getfield index, 3))
    (kk : W p l e R s m args below meth c H locs cells slots Q (F0 m (pc + 3) ls (.ref v :: rest))) : W p l e R s m args below meth c H locs cells slots Q (F0 m pc ls (.ref a :: rest)) := by
  obtain ⟨hc, hin, -, -⟩ := hcf
  have hts : ∀ w ∈ u_ws C F N, w.before args s = true := fun w hw => hK.use (hin w hw).1 (hin w hw).2 args
  obtain ⟨-, r, h1, cell, q1, q2, q3, q4⟩ := hH.1.2 a _ ho
  have hr' : r = (C, F, N) := Option.some.inj (h1.symm.trans hc)
  subst hr'
  obtain ⟨hS, hfc, kC, hkC, hkind⟩ := hK.1.1 ci _ hc
  obtain ⟨cf, kf, fi, f, hi, hsl⟩ := hS k hk
  refine W.getf hexec hb hown (hK.use hlink rfl args) hi (u_facts hfc hkC (u_lays hts (fun _ h => h) hk) hi).1 q1 (by rw [q3]; exact fun h => by cases h) (v := .ref v) ?_ rfl rfl hdg kk
  rw [hsl, q4 k hk]
  simp [cv2, hr, hv, va_rf]
theorem hn_aast (hexec : p.tables.exec = Jvm.exec) (hb : c.code = cc) {C : String} {F : u_T} {N t n ci : Nat} {ty : Nat → FieldType} (ht : t = 1 ∨ t = 2) (hcf : CF ci C F N ty) (hK : KK G s) (hRA : va_RA s (G.2.2 t) (.object C)) (hH : HH2 G B T h sz s H locs) (ho : T.1 a = some (.inr (t, n))) {v : Nat} (hv : T.1 v = some (.inl ci)) {i : Int32} {j : Nat} (hi : i = nI j) (hj : j < n) (hn : n < 2 ^ 31) (hdg : decode cc pc = .ok (.aastore, 1))
    (kk : ∀ (T1 : St2) (H1 : Heap) (locs1 : List Loc), T1 = stR T a j v → HH2 G B T1 h sz s H1 locs1 → W p l e R s m args below meth c H1 locs1 cells slots Q (F0 m (pc + 1) ls rest)) : W p l e R s m args below meth c H locs cells slots Q (F0 m pc ls (.ref v :: .int i :: .ref a :: rest)) := by
  subst hi
  have hl : (nI j).toNatClampNeg = j := nI_clamp (by omega)
  have h03 : ¬ (t = 0 ∨ t = 3) := by omega
  obtain ⟨gB, g0, g4⟩ := hH.1.2 a _ ho
  obtain ⟨-, r', hr', cellV, g1, g2, g3, -⟩ := hH.1.2 v _ hv
  have hrr : r' = (C, F, N) := Option.some.inj (hr'.symm.trans hcf.1)
  subst hrr
  have hcls := (hK.1.1 ci _ hcf.1).2
  obtain ⟨kA, comp, k1, k2, k3, -⟩ := hRA
  have hcomp : comp = G.1 ci := Option.some.inj (k3.symm.trans hcls.1)
  subst hcomp
  obtain ⟨kC, hkC, -⟩ := hcls.2
  refine W.aast hexec hb g0 (fun q h => by cases h) (fun h => by cases h) k1 k2 rfl hkC ⟨nI_pos (by omega), by show _ < (arrV _ _ _).slots.size; rw [arrV_size, hl]; exact hj⟩ g1 (fun q h => by rw [g3] at h; cases h) (by rw [g2]; exact hkC) (by rw [g2]; exact va_assign hcls) rfl rfl hdg fun H1 e z oq => ?_
  refine kk _ H1 _ rfl ⟨⟨⟨by rw [z, hH.1.1.1], hH.1.1.2⟩, fun a' x hx => ⟨(hH.1.2 a' x hx).1, ?_⟩⟩, hH.2.put z oq gB⟩
  by_cases ha : a' = a
  · subst ha
    have : x = .inr (t, n) := Option.some.inj (hx.symm.trans ho)
    subst this
    refine ⟨?_, g4⟩
    rw [e, arrV_store, hl]
    show some (arrV (G.2.2 t) n _) = some (arrV (G.2.2 t) n (aw2 (stR T a' j v) h a' t))
    congr 2
    funext q
    by_cases hq : q = j
    · subst hq
      simp [updV, aw2, h03, stR, va_rf]
    · simp [updV, aw2, h03, stR, hq]
  · exact (hH.1.2 a' x hx).2.kept (oq a' ha) (fun k' => rfl) (fun k' => by simp [stR, ha])
theorem hn_vret (hexec : p.tables.exec = Jvm.exec) (hb : c.code = cc) (hr : meth.sig.returnType = none) (hlocks : meth.locks = false) {mc ms : Nat} (hH : HH2 G B T h sz s H locs) {Q : St2 → Nat → Hp → Prop} (hq : Q T sz h) (hdg : decode cc pc = .ok (.return_, 1)) : W p l e R s m args below meth c H locs mc ms (MQ below (va_Qv (fun u : St2 × Nat × Hp => Q u.1 u.2.1 u.2.2) (PPq G B) (PPa B)) args s mc ms (PPa B)) (F0 m pc ls []) :=
  W.vret hexec hb hr (fun t ht hW => ⟨⟨(T, sz, h), rfl, hq, by show Hd2 G B T h sz t.heap; rw [ht]; exact hH.1⟩, hH.2.F ht⟩) hH.2.2.2 hdg hlocks
end CROWS
/-- the words of a constructor's call -/
def CWi (own : String) (idx : Nat) (y : MethodName) (cc : ByteArray) (n k : Nat) : Prop := (Cond.methodLink own idx y ∈ lw_tbl ∨ ∃ host, Cond.methodLinkNest own idx y host ∈ lw_tbl) ∧ Cond.instanceMethod y ∈ lw_tbl ∧ y.name = "<init>" ∧ Cond.initialized y.cls ∈ lw_tbl ∧ Cond.code y cc n none ∈ lw_tbl ∧ y.cls ≠ "java/lang/invoke/MethodHandle" ∧ y.cls ≠ "java/lang/invoke/VarHandle" ∧ (parseMethodDescriptor y.desc).map (fun d => d.parameters.length) = some k
section CCALLS
variable {p : Program} {l : Launch} {e : Env} {R : Room} {s : State} {m : MethodId} {args : Array Value} {below : List Frame} {meth : Method} {c : Code} {H : Heap} {locs : List Loc} {cells slots : Nat} {Q : State → Prop} {cc cy : ByteArray} {pc : Nat} {ls : Array Slot} {st rest : List Value} {Z : Zg} {G : Gl} {B : Nat} {T : St2} {h : Hp} {sz : Nat} {own : String} {idx : Nat} {y : MethodName} {n nL k : Nat} {rm : Room} {As : List Value}
theorem hn_cI (hexec : p.tables.exec = Jvm.exec) (hb : c.code = cc) (hml : c.maxLocals = nL) (hown : s.vm.findClass own = some m.cls) (hK : KK G s) (hSK : SK Z B s) (hNK : NK s) (hH : HH2 G B T h sz s H locs) {b : Nat} {Qc : St2 → Nat → Hp → Prop} (hM : MC Z l G B T sz y cy n rm (.ref b :: As) h Qc) (hcw : CWi own idx y cy n k) (hR : rm.frames + 1 ≤ R.frames ∧ 8 + (n + 11) + rm.locals ≤ R.locals) (hn : As.length = k) (hsize : ls.size = nL) (hst : st = As.reverse ++ .ref b :: rest) (hW : (rest.map fun v => v.category).sum ≤ 8) (hroom : cells + rm.cells ≤ R.cells ∧ slots + rm.slots ≤ R.slots) (hdg : decode cc pc = .ok (.invokespecial idx, 3))
    (kk : ∀ (T1 : St2) (sz1 : Nat) (h1 : Hp) (H1 : Heap) (locs1 : List Loc), HH2 G B T1 h1 sz1 s H1 locs1 → Qc T1 sz1 h1 → W p l e R s m args below meth c H1 locs1 (cells + rm.cells) (slots + rm.slots) Q (F0 m (pc + 3) ls rest)) : W p l e R s m args below meth c H locs cells slots Q (F0 m pc ls st) := by
  subst hst
  obtain ⟨hl, h2, h3, h4, h5, h6, h7, h8⟩ := hcw
  have pre : PreS s H (PPn Z G B T h sz (.ref b :: As)) (.ref b :: As) := ⟨PPn.blind, fun U hU hW => ⟨rfl, ⟨⟨by rw [hU]; exact hH.1, hK.warm hW⟩, hSK.go hH.2 hU hW⟩, hNK.warm hW⟩⟩
  have hc := hK.use h5 rfl args
  rcases hl with h1 | ⟨host, h1⟩
  · exact va_callv (va_runI (As := As) (rest := rest) (Ts := []) (cells := cells) (slots := slots) ⟨hexec, hb, hml, hown, fun w hw => by cases hw⟩ hM ⟨cb_of hK h4 h5 h6 h7 h8 h1 hR, h3, hK.use h2 rfl args⟩ pre rfl hn hsize rfl (lv_room hW) hdg hroom) hH.2 (fun q _ h => h) (fun q h => h) (fun u t H1 locs1 ht hvm hw hB hz hk hS => kk u.1 u.2.1 u.2.2 H1 locs1 ⟨by rw [← ht]; exact hB, hS⟩ hw)
  · refine va_callv (va_runIN (host := host) (bytes := cy) (maxL := n) (As := As) (rest := rest) (Ts := []) (cells := cells) (slots := slots) ⟨hexec, hb, hml, hown, fun w hw => by cases hw⟩ hM ⟨⟨⟨rfl, rfl, hR.1, hR.2, fun w hw a' U hW => ?_, List.mem_cons_self⟩, hc, hK.use h4 rfl args, ⟨h6, h7⟩, fun sig hs => ?_, hK.use h1 rfl args⟩, h3, hK.use h2 rfl args⟩ pre rfl hn hsize rfl (lv_room hW) hdg hroom) hH.2 (fun q _ h => h) (fun q h => h) (fun u t H1 locs1 ht hvm hw hB hz hk hS => kk u.1 u.2.1 u.2.2 H1 locs1 ⟨by rw [← ht]; exact hB, hS⟩ hw)
    · rw [List.mem_singleton] at hw
      subst hw
      exact word_at hW (Or.inl rfl) hc
    · rw [hs] at h8
      exact (Option.some.inj h8).symm
end CCALLS
