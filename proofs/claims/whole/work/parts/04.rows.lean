/-! MACHINE ROWS over the picture of base: Hd says that a heap is the picture (S, h); HH says so inside a method, with what was written. -/
def okw : Cond → Bool
  | .fieldLinkNest .. => true
  | .methodLinkNest .. => true
  | w => w.onTables && w.keeps
theorem okw_on {w : Cond} (hw : okw w = true) : w.onTables = true := by
  cases w <;> first | rfl | (simp [okw] at hw; exact hw.1) | (simp [okw] at hw)
theorem okw_warm {w : Cond} (hw : okw w = true) {s U : State} (hW : s.WarmedH U.vm) (h : va_Nw w s) : va_Nw w U := by
  cases w <;> first | exact va_Nw.warmF hW h | exact va_Nw.warmM hW h | exact word_at hW (Or.inl hw) h
def clsT : List vw_C := [(RX0, TX0, 9), (RX1, TX1, 7), (RX2, TX2, 4), (RX3, TX3, 3), (RX4, TX4, 5), (RX5, TX5, 2), (RX6, TX6, 10), (RX7, TX7, 36), (RJ4, TJ4, 4)]
abbrev Gl : Type := (Nat → ClassId) × (Nat → Nat → Nat) × (Nat → ClassId)
def KK (G : Gl) (U : State) : Prop := va_K (G.1, G.2.1) clsT [(G.2.2 0, .int), (G.2.2 1, .object RX0), (G.2.2 2, .object RX1), (G.2.2 3, .byte)] U ∧ (∀ w ∈ lw_tbl, okw w = true → va_Nw w U) ∧ va_Nw (.arrayClass .int) U
theorem KK.warm {G : Gl} {s U : State} (h : KK G s) (hW : s.WarmedH U.vm) : KK G U := ⟨va_K.moved hW.alike h.1, fun w h1 h2 => okw_warm h2 hW (h.2.1 w h1 h2), word_at hW (Or.inr ⟨_, rfl⟩) h.2.2⟩
theorem KK.calling {G : Gl} {U : State} (h : KK G U) (g : JFrame) (mk : MethodId) (a : Array Value) : KK G (U.calling g mk a) := ⟨va_K.moved (u := U) (U := U.calling g mk a) (Vm.Alike.refl U.vm) h.1, fun w h1 h2 => va_Nw.same (u := U) (U := U.calling g mk a) (okw_on h2) rfl (h.2.1 w h1 h2), h.2.2⟩
theorem KK.use {G : Gl} {s : State} (h : KK G s) {w : Cond} (h1 : w ∈ lw_tbl) (h2 : okw w = true) (args : Array Value) : w.before args s = true := va_Nw.use (okw_on h2) (h.2.1 w h1 h2)
def cellV (S : St) (h : Hp) (a ci : Nat) : Nat → Value := fun k => if rfs ci k = true then .ref (S.2 a k) else .int (h a k)
def arrW (S : St) (h : Hp) (a t : Nat) : Nat → Value := fun j => if t = 0 ∨ t = 3 then .int (h a j) else .ref (S.2 a j)
def Hat (G : Gl) (S : St) (h : Hp) (H : Heap) (a : Nat) (x : Nat ⊕ (Nat × Nat)) : Prop := match x with
  | .inl ci => ∃ r, clsT[ci]? = some r ∧ t_OB a (G.1 ci) r.2.2 (G.2.1 ci) H (cellV S h a ci)
  | .inr y => H[a]? = some (arrV (G.2.2 y.1) y.2 (arrW S h a y.1)) ∧ y.1 < 4
def Hd (G : Gl) (B : Nat) (S : St) (h : Hp) (sz : Nat) (H : Heap) : Prop := (H.size = sz ∧ B ≤ sz) ∧ ∀ a x, S.1 a = some x → B ≤ a ∧ Hat G S h H a x
def HH (G : Gl) (B : Nat) (S : St) (h : Hp) (sz : Nat) (s : State) (H : Heap) (locs : List Loc) : Prop := Hd G B S h sz H ∧ va_S (fun q => B ≤ q) s.heap H locs
/-- a class's facts -/
def CF (ci : Nat) (C : String) (T : u_T) (N : Nat) (ty : Nat → FieldType) : Prop := clsT[ci]? = some (C, T, N) ∧ (∀ w ∈ u_ws C T N, w ∈ lw_tbl ∧ okw w = true) ∧ (∀ k, k < N → parseFieldDescriptor (T k).2.2.1 = some (ty k)) ∧ (∀ a, a < N → ∀ b, b < N → a ≠ b → (T a).2.1 ≠ (T b).2.1)
theorem Hat.kept {G : Gl} {S : St} {h h1 : Hp} {H H1 : Heap} {a : Nat} {x : Nat ⊕ (Nat × Nat)} (hat : Hat G S h H a x) (e : H1[a]? = H[a]?) (eh : ∀ k, h1 a k = h a k) : Hat G S h1 H1 a x := by
  cases x with
  | inl ci =>
    obtain ⟨r, h1, h2⟩ := hat
    exact ⟨r, h1, t_OB.to (h2.kept e) (fun k _ => by simp only [cellV, eh])⟩
  | inr y =>
    refine ⟨?_, hat.2⟩
    rw [e, hat.1]
    have : arrW S h a y.1 = arrW S h1 a y.1 := by funext j; simp only [arrW, eh]
    rw [this]
section ROWS
variable {p : Program} {l : Launch} {e : Env} {R : Room} {s : State} {m : MethodId} {args : Array Value} {below : List Frame} {meth : Method} {c : Code} {H : Heap} {locs : List Loc} {cells slots : Nat} {Q : State → Prop} {cc : ByteArray} {pc : Nat} {ls : Array Slot} {rest : List Value} {G : Gl} {B : Nat} {S : St} {h : Hp} {sz a : Nat}
theorem hv_get (hexec : p.tables.exec = Jvm.exec) (hb : c.code = cc) {own C : String} {T : u_T} {N ci index k : Nat} {ty : Nat → FieldType} (hown : s.vm.findClass own = some m.cls) (hK : KK G s) (hH : HH G B S h sz s H locs) (hcf : CF ci C T N ty) (hk : k < N) (hlink : Cond.fieldLink own index C (T k).2.1 (T k).2.2.1 ∈ lw_tbl) (hC : (T k).1 = C) (ho : ob S a ci) {v : Value} (hv : cellV S h a ci k = v) (hdg : decode cc pc = .ok (.getfield index, 3))
    (kk : W p l e R s m args below meth c H locs cells slots Q (F0 m (pc + 3) ls (v :: rest))) : W p l e R s m args below meth c H locs cells slots Q (F0 m pc ls (.ref a :: rest)) := by
  obtain ⟨hc, hin, -, -⟩ := hcf
  have hts : ∀ w ∈ u_ws C T N, w.before args s = true := fun w hw => hK.use (hin w hw).1 (hin w hw).2 args
  obtain ⟨-, r, h1, cell, q1, q2, q3, q4⟩ := hH.1.2 a _ ho
  have hr : r = (C, T, N) := Option.some.inj (h1.symm.trans hc)
  subst hr
  obtain ⟨hS, hfc, kC, hkC, hkind⟩ := hK.1.1 ci _ hc
  obtain ⟨cf, kf, fi, f, hi, hsl⟩ := hS k hk
  refine W.getf hexec hb hown (hK.use hlink rfl args) (hC ▸ hi) (u_facts hfc hkC (u_lays hts (fun _ h => h) hk) hi).1 q1 (by rw [q3]; exact fun h => by cases h) (v := v) ?_ rfl rfl hdg kk
  rw [hsl, q4 k hk, hv]
theorem hv_getN (hexec : p.tables.exec = Jvm.exec) (hb : c.code = cc) {own C host : String} {T : u_T} {N ci index k : Nat} {ty : Nat → FieldType} (hown : s.vm.findClass own = some m.cls) (hK : KK G s) (hH : HH G B S h sz s H locs) (hcf : CF ci C T N ty) (hk : k < N) (hlink : Cond.fieldLinkNest own index C (T k).2.1 (T k).2.2.1 host ∈ lw_tbl) (hC : (T k).1 = C) (ho : ob S a ci) {v : Value} (hv : cellV S h a ci k = v) (hdg : decode cc pc = .ok (.getfield index, 3))
    (kk : W p l e R s m args below meth c H locs cells slots Q (F0 m (pc + 3) ls (v :: rest))) : W p l e R s m args below meth c H locs cells slots Q (F0 m pc ls (.ref a :: rest)) := by
  obtain ⟨hc, hin, -, -⟩ := hcf
  have hts : ∀ w ∈ u_ws C T N, w.before args s = true := fun w hw => hK.use (hin w hw).1 (hin w hw).2 args
  obtain ⟨-, r, h1, cell, q1, q2, q3, q4⟩ := hH.1.2 a _ ho
  have hr : r = (C, T, N) := Option.some.inj (h1.symm.trans hc)
  subst hr
  obtain ⟨hS, hfc, kC, hkC, hkind⟩ := hK.1.1 ci _ hc
  obtain ⟨cf, kf, fi, f, hi, hsl⟩ := hS k hk
  refine va_Wgetf hexec hb hown (hK.use hlink rfl args) (hC ▸ hi) (u_facts hfc hkC (u_lays hts (fun _ h => h) hk) hi).1 q1 (by rw [q3]; exact fun h => by cases h) (v := v) ?_ rfl rfl hdg kk
  rw [hsl, q4 k hk, hv]
theorem up_same (h : Hp) (a k : Nat) (v : Int32) : up h a k v a k = v := by simp [up]
theorem up_ne {h : Hp} {a k a' k' : Nat} {v : Int32} (hne : ¬ (a' = a ∧ k' = k)) : up h a k v a' k' = h a' k' := by simp [up, hne]
theorem hv_step {ci k N : Nat} {v : Int32} {C : String} {T : u_T} (hc : clsT[ci]? = some (C, T, N)) (hk : k < N) (hr : rfs ci k = false) (hH : HH G B S h sz s H locs) (ho : ob S a ci) {H1 : Heap} {i : Nat} (hob : t_OB a (G.1 ci) N (G.2.1 ci) H1 (updV (cellV S h a ci) k (.int v))) (e2 : H1.size = H.size) (e3 : ∀ q, q ≠ a → H1[q]? = H[q]?) : HH G B S (up h a k v) sz s H1 (locs ++ [⟨a, i⟩]) := by
  obtain ⟨⟨⟨h1, h2⟩, h3⟩, h4⟩ := hH
  refine ⟨⟨⟨by rw [e2, h1], h2⟩, fun a' x hx => ⟨(h3 a' x hx).1, ?_⟩⟩, h4.put e2 e3 (h3 a _ ho).1⟩
  by_cases ha : a' = a
  · subst ha
    have : x = .inl ci := Option.some.inj (hx.symm.trans ho)
    subst this
    refine ⟨_, hc, t_OB.to hob (fun j _ => ?_)⟩
    by_cases hj : j = k
    · subst hj
      simp [updV, cellV, hr, up]
    · simp [updV, cellV, up, hj]
  · exact (h3 a' x hx).2.kept (e3 a' ha) (fun k' => by simp [up, ha])
theorem hv_put (hexec : p.tables.exec = Jvm.exec) (hb : c.code = cc) {own C : String} {T : u_T} {N ci index k : Nat} {ty : Nat → FieldType} (hown : s.vm.findClass own = some m.cls) (hK : KK G s) (hH : HH G B S h sz s H locs) (hcf : CF ci C T N ty) (hk : k < N) (hlink : Cond.fieldLink own index C (T k).2.1 (T k).2.2.1 ∈ lw_tbl) (hC : (T k).1 = C) (hfin : (T k).2.2.2 = false) (hr : rfs ci k = false) (ho : ob S a ci) {v : Int32} (hn : narrow (ty k) (.int v) = .int v) (hfit : fits (ty k) (.int v) = true) (hdg : decode cc pc = .ok (.putfield index, 3))
    (kk : ∀ (H1 : Heap) (locs1 : List Loc), HH G B S (up h a k v) sz s H1 locs1 → W p l e R s m args below meth c H1 locs1 cells slots Q (F0 m (pc + 3) ls rest)) : W p l e R s m args below meth c H locs cells slots Q (F0 m pc ls (.int v :: .ref a :: rest)) := by
  obtain ⟨hc, hin, hty, hnm⟩ := hcf
  have hts : ∀ w ∈ u_ws C T N, w.before args s = true := fun w hw => hK.use (hin w hw).1 (hin w hw).2 args
  have hap := va_apart (own := own) hts (fun _ h => h) ty hty hnm hK.1 hc
  obtain ⟨-, r, h1, cell, q1, q2, q3, q4⟩ := hH.1.2 a _ ho
  have hr' : r = (C, T, N) := Option.some.inj (h1.symm.trans hc)
  subst hr'
  obtain ⟨hS, hfc, kC, hkC, hkind⟩ := hK.1.1 ci _ hc
  obtain ⟨cf, kf, fi, f, hi, hsl⟩ := hS k hk
  have hlay := hts _ (u_in_lay hk)
  unfold u_lay at hlay
  rw [if_neg (by rw [hfin]; decide)] at hlay
  have hst := (u_facts hfc hkC (u_lays hts (fun _ h => h) hk) hi).1
  have h6 := u_store hfc hkC hkind hlay hi (hty k hk) hn hfit
  refine W.putK hexec hb (f := f) ⟨hown, hK.use hlink rfl args, ⟨_, _, _, hC ▸ hi⟩, hst⟩ (by rw [q2]; exact h6) q1 q3 (by rw [hsl]; exact k2_hasslot (q4 k hk)) rfl rfl hdg fun H' e1 e2 e3 => ?_
  rw [hsl] at e1 ⊢
  exact kk H' _ (hv_step hc hk hr hH ho ⟨_, e1, q2, q3, t_set q4 hap hk (.int v)⟩ e2 e3)
theorem hv_putN (hexec : p.tables.exec = Jvm.exec) (hb : c.code = cc) {own C host : String} {T : u_T} {N ci index k : Nat} {ty : Nat → FieldType} (hown : s.vm.findClass own = some m.cls) (hK : KK G s) (hH : HH G B S h sz s H locs) (hcf : CF ci C T N ty) (hk : k < N) (hlink : Cond.fieldLinkNest own index C (T k).2.1 (T k).2.2.1 host ∈ lw_tbl) (hC : (T k).1 = C) (hfin : (T k).2.2.2 = false) (hr : rfs ci k = false) (ho : ob S a ci) {v : Int32} (hn : narrow (ty k) (.int v) = .int v) (hfit : fits (ty k) (.int v) = true) (hdg : decode cc pc = .ok (.putfield index, 3))
    (kk : ∀ (H1 : Heap) (locs1 : List Loc), HH G B S (up h a k v) sz s H1 locs1 → W p l e R s m args below meth c H1 locs1 cells slots Q (F0 m (pc + 3) ls rest)) : W p l e R s m args below meth c H locs cells slots Q (F0 m pc ls (.int v :: .ref a :: rest)) := by
  obtain ⟨hc, hin, hty, hnm⟩ := hcf
  have hts : ∀ w ∈ u_ws C T N, w.before args s = true := fun w hw => hK.use (hin w hw).1 (hin w hw).2 args
  have hap := va_apart (own := own) hts (fun _ h => h) ty hty hnm hK.1 hc
  obtain ⟨-, r, h1, cell, q1, q2, q3, q4⟩ := hH.1.2 a _ ho
  have hr' : r = (C, T, N) := Option.some.inj (h1.symm.trans hc)
  subst hr'
  obtain ⟨hS, hfc, kC, hkC, hkind⟩ := hK.1.1 ci _ hc
  obtain ⟨cf, kf, fi, f, hi, hsl⟩ := hS k hk
  have hlay := hts _ (u_in_lay hk)
  unfold u_lay at hlay
  rw [if_neg (by rw [hfin]; decide)] at hlay
  have hst := (u_facts hfc hkC (u_lays hts (fun _ h => h) hk) hi).1
  have h6 := u_store hfc hkC hkind hlay hi (hty k hk) hn hfit
  refine va_WputK hexec hb (f := f) hown (hK.use hlink rfl args) (hC ▸ hi) hst (by rw [q2]; exact h6) q1 q3 (by rw [hsl]; exact k2_hasslot (q4 k hk)) rfl rfl hdg fun H' e1 e2 e3 => ?_
  rw [hsl] at e1 ⊢
  exact kk H' _ (hv_step hc hk hr hH ho ⟨_, e1, q2, q3, t_set q4 hap hk (.int v)⟩ e2 e3)
theorem arrW0 (S : St) (h : Hp) (a : Nat) : arrW S h a 0 = fun j => .int (h a j) := by funext j; simp [arrW]
theorem hv_iald (hexec : p.tables.exec = Jvm.exec) (hb : c.code = cc) (hK : KK G s) (hH : HH G B S h sz s H locs) {i : Int32} (hi : ain S a i) (hdg : decode cc pc = .ok (.iaload, 1))
    (kk : W p l e R s m args below meth c H locs cells slots Q (F0 m (pc + 1) ls (.int (h a (ix i)) :: rest))) : W p l e R s m args below meth c H locs cells slots Q (F0 m pc ls (.int i :: .ref a :: rest)) := by
  obtain ⟨n, h1, h2⟩ := hi
  have h3 := (hH.1.2 a _ h1).2.1
  rw [arrW0] at h3
  exact va_iald (D := (G.1, G.2.1)) (cl := clsT) (ws := [(a, .inl (G.2.2 0, n, .inl (h a)))]) hexec hb hK.1 (fun k q hq => by
    match k, hq with
    | 0, hq => cases hq; exact h3) 0 0 rfl rfl h2 hdg kk
theorem hv_iast (hexec : p.tables.exec = Jvm.exec) (hb : c.code = cc) (hK : KK G s) (hH : HH G B S h sz s H locs) {i x : Int32} (hi : ain S a i) (hdg : decode cc pc = .ok (.iastore, 1))
    (kk : ∀ (H1 : Heap) (locs1 : List Loc), HH G B S (up h a (ix i) x) sz s H1 locs1 → W p l e R s m args below meth c H1 locs1 cells slots Q (F0 m (pc + 1) ls rest)) : W p l e R s m args below meth c H locs cells slots Q (F0 m pc ls (.int x :: .int i :: .ref a :: rest)) := by
  obtain ⟨n, h1, h2⟩ := hi
  have h3 := (hH.1.2 a _ h1).2.1
  rw [arrW0] at h3
  refine W.iast hexec hb h3 ((hK.1.2 0 _ rfl).1 n (fun j => .int (h a j))) (fun q => by cases q) (by show ¬ (i < 0 ∨ (arrV _ _ _).slots.size ≤ _); rw [arrV_size]; exact h2) rfl rfl hdg fun H1 e1 e2 e3 => ?_
  refine kk H1 _ ⟨⟨⟨by rw [e2, hH.1.1.1], hH.1.1.2⟩, fun a' y hy => ⟨(hH.1.2 a' y hy).1, ?_⟩⟩, hH.2.put e2 e3 (hH.1.2 a _ h1).1⟩
  by_cases ha : a' = a
  · subst ha
    have : y = .inr (0, n) := Option.some.inj (hy.symm.trans h1)
    subst this
    refine ⟨?_, by show 0 < 4; decide⟩
    show H1[a']? = some (arrV (G.2.2 0) n (arrW S _ a' 0))
    rw [e1, arrW0, arrV_store]
    congr 2
    funext q
    by_cases hq : q = i.toNatClampNeg
    · subst hq
      simp [updV, up]
    · simp [updV, up, hq]
  · exact (hH.1.2 a' y hy).2.kept (e3 a' ha) (fun k' => by simp [up, ha])
theorem hv_aald (hexec : p.tables.exec = Jvm.exec) (hb : c.code = cc) {t : Nat} (ht : t = 1 ∨ t = 2) (hK : KK G s) (hH : HH G B S h sz s H locs) {i : Int32} (hi : rin S t a i) (hdg : decode cc pc = .ok (.aaload, 1))
    (kk : W p l e R s m args below meth c H locs cells slots Q (F0 m (pc + 1) ls (.ref (S.2 a (ix i)) :: rest))) : W p l e R s m args below meth c H locs cells slots Q (F0 m pc ls (.int i :: .ref a :: rest)) := by
  obtain ⟨n, h1, h2⟩ := hi
  have h3 := (hH.1.2 a _ h1).2.1
  have h4 : arrW S h a t = fun j => .ref (S.2 a j) := by
    funext j
    rcases ht with rfl | rfl <;> simp [arrW]
  rw [show arrW S h a (t, n).1 = arrW S h a t from rfl, h4] at h3
  have hlt : i.toNatClampNeg < n := Nat.not_le.mp fun q => h2 (Or.inr q)
  rcases ht with rfl | rfl
  · exact W.aald (v := .ref (S.2 a (ix i))) (ty := .object RX0) hexec hb h3 ((hK.1.2 1 _ rfl).1 n (fun j => .ref (S.2 a j))) rfl (fun q => by cases q) (by show ¬ (i < 0 ∨ (arrV _ _ _).slots.size ≤ _); rw [arrV_size]; exact h2) (by show (arrV _ _ _).slots[_]? = _; rw [arrV_read _ _ hlt]) rfl rfl hdg kk
  · exact W.aald (v := .ref (S.2 a (ix i))) (ty := .object RX1) hexec hb h3 ((hK.1.2 2 _ rfl).1 n (fun j => .ref (S.2 a j))) rfl (fun q => by cases q) (by show ¬ (i < 0 ∨ (arrV _ _ _).slots.size ≤ _); rw [arrV_size]; exact h2) (by show (arrV _ _ _).slots[_]? = _; rw [arrV_read _ _ hlt]) rfl rfl hdg kk
theorem hv_alen (hexec : p.tables.exec = Jvm.exec) (hb : c.code = cc) (hK : KK G s) (hH : HH G B S h sz s H locs) {n : Nat} (hi : aln S a n) (hdg : decode cc pc = .ok (.arraylength, 1))
    (kk : W p l e R s m args below meth c H locs cells slots Q (F0 m (pc + 1) ls (.int (nI n) :: rest))) : W p l e R s m args below meth c H locs cells slots Q (F0 m pc ls (.ref a :: rest)) := by
  have h3 := (hH.1.2 a _ hi.1).2.1
  rw [arrW0] at h3
  exact va_alen (D := (G.1, G.2.1)) (cl := clsT) (ws := [(a, .inl (G.2.2 0, n, .inl (h a)))]) hexec hb hK.1 (fun k q hq => by
    match k, hq with
    | 0, hq => cases hq; exact h3) 0 0 rfl rfl rfl hdg kk
end ROWS
/-! A METHOD'S CONTRACT over the picture, and how it is walked and called. -/
abbrev PPc (G : Gl) (B : Nat) (S : St) (h : Hp) (sz : Nat) (av : List Value) : Array Value → State → Prop := va_Pc av (fun U => Hd G B S h sz U.heap ∧ KK G U)
abbrev PPb (G : Gl) (B : Nat) (S : St) (sz : Nat) : Hp → State → Prop := fun u t => Hd G B S u sz t.heap
abbrev PPa (B : Nat) : Nat → Prop := fun q => B ≤ q
abbrev MV (l : Launch) (G : Gl) (B sz : Nat) (S : St) (y : MethodName) (cc : ByteArray) (n : Nat) (rm : Room) (av : List Value) (h : Hp) (Q : Hp → Prop) : Prop := Met l y [Cond.code y cc n none] rm (PPc G B S h sz av) (va_Qv Q (PPb G B S sz) (PPa B)) rm.cells rm.slots (PPa B)
abbrev MI (l : Launch) (G : Gl) (B sz : Nat) (S : St) (y : MethodName) (cc : ByteArray) (n : Nat) (rt : FieldType) (rm : Room) (av : List Value) (h : Hp) (Q : Int32 → Hp → Prop) : Prop := Met l y [Cond.code y cc n (some rt)] rm (PPc G B S h sz av) (va_Qi Q (PPb G B S sz) (PPa B)) rm.cells rm.slots (PPa B)
abbrev ML (l : Launch) (G : Gl) (B sz : Nat) (S : St) (y : MethodName) (cc : ByteArray) (n : Nat) (rm : Room) (av : List Value) (h : Hp) (Q : Int64 → Hp → Prop) : Prop := Met l y [Cond.code y cc n (some .long)] rm (PPc G B S h sz av) (va_Ql Q (PPb G B S sz) (PPa B)) rm.cells rm.slots (PPa B)
/-- an answer that is an address -/
abbrev MA (l : Launch) (G : Gl) (B sz : Nat) (S : St) (y : MethodName) (cc : ByteArray) (n : Nat) (rt : FieldType) (rm : Room) (av : List Value) (h : Hp) (Q : Nat → Hp → Prop) : Prop := Met l y [Cond.code y cc n (some rt)] rm (PPc G B S h sz av) (va_Qr (S := Nat × Hp) (fun u => Q u.1 u.2) (fun u a t => u.1 = a ∧ Hd G B S u.2 sz t.heap) (PPa B)) rm.cells rm.slots (PPa B)
theorem PPc.blind {G : Gl} {B : Nat} {S : St} {h : Hp} {sz : Nat} {av : List Value} : FrameBlind (PPc G B S h sz av) := fun a U g mk q => ⟨q.1, q.2.1, q.2.2.calling g mk a⟩
/-- what a method's body stands on -/
def MB (G : Gl) (B sz : Nat) (S : St) (p : Program) (s : State) (m : MethodId) (meth : Method) (c : Code) (cc : ByteArray) (n : Nat) (own : String) (ret : Option FieldType) : Prop := p.tables.exec = Jvm.exec ∧ c.code = cc ∧ c.maxLocals = n ∧ s.vm.findClass own = some m.cls ∧ KK G s ∧ meth.sig.returnType = ret ∧ meth.locks = false
theorem met_of {l : Launch} {G : Gl} {B sz : Nat} {S : St} {y : MethodName} {cc : ByteArray} {n : Nat} {ret : Option FieldType} {rm : Room} {av : List Value} {h : Hp} {Qc : Array Value → State → Outcome → State → Prop} (hy : plainName y.cls = true) (hlen : Nat.ble (lg_sl av).length n = true)
    (body : ∀ (p : Program) (e : Env) (s : State) (m : MethodId) (args : Array Value) (below : List Frame) (meth : Method) (c : Code), MB G B sz S p s m meth c cc n y.cls ret → ∀ (H : Heap) (ls : Array Slot), HH G B S h sz s H [] → lv_has ls n (lv_args 0 av) → W p l e rm s m args below meth c H [] 0 0 (MQ below Qc args s rm.cells rm.slots (PPa B)) (F0 m 0 ls [])) : Met l y [Cond.code y cc n ret] rm (PPc G B S h sz av) Qc rm.cells rm.slots (PPa B) := by
  refine Met.ofW (cc := cc) (maxL := n) (ret := ret) hy rfl ?_
  intro p e s m args below meth c s₁ Bd hml hv
  obtain ⟨rfl, hHd, hKK⟩ := hv
  have hown : s.vm.findClass y.cls = some m.cls := findClass_of_methodNamed Bd.named
  have hl := lv_entry av (n := n) (Nat.le_of_ble_eq_true hlen)
  rw [lg_entry_eq]
  exact body p e s m _ below meth c ⟨Bd.exec, Bd.bytes, hml, hown, hKK, Bd.returns, Bd.notSynchronized⟩ s.heap _ ⟨hHd, va_S.rf⟩ hl
section ENDS
variable {p : Program} {l : Launch} {e : Env} {R : Room} {s : State} {m : MethodId} {args : Array Value} {below : List Frame} {meth : Method} {c : Code} {H : Heap} {locs : List Loc} {mc ms : Nat} {cc : ByteArray} {pc : Nat} {ls : Array Slot} {G : Gl} {B : Nat} {S : St} {h : Hp} {sz : Nat}
theorem hv_vret (hexec : p.tables.exec = Jvm.exec) (hb : c.code = cc) (hr : meth.sig.returnType = none) (hlocks : meth.locks = false) (hH : HH G B S h sz s H locs) {Q : Hp → Prop} (hq : Q h) (hdg : decode cc pc = .ok (.return_, 1)) : W p l e R s m args below meth c H locs mc ms (MQ below (va_Qv Q (PPb G B S sz) (PPa B)) args s mc ms (PPa B)) (F0 m pc ls []) :=
  W.vret hexec hb hr (fun t ht hW => ⟨⟨h, rfl, hq, by show Hd G B S h sz t.heap; rw [ht]; exact hH.1⟩, hH.2.F ht⟩) hH.2.2.2 hdg hlocks
theorem hv_iret (hexec : p.tables.exec = Jvm.exec) (hb : c.code = cc) (hr : meth.sig.returnType = some .int) (hlocks : meth.locks = false) (hH : HH G B S h sz s H locs) {Q : Int32 → Hp → Prop} {v : Int32} (hq : Q v h) (hdg : decode cc pc = .ok (.ireturn, 1)) : W p l e R s m args below meth c H locs mc ms (MQ below (va_Qi Q (PPb G B S sz) (PPa B)) args s mc ms (PPa B)) (F0 m pc ls [.int v]) :=
  W.iret hexec hb hr (fun t ht hW => ⟨⟨v, h, rfl, hq, by show Hd G B S h sz t.heap; rw [ht]; exact hH.1⟩, hH.2.F ht⟩) hH.2.2.2 hdg hlocks
theorem hv_zret (hexec : p.tables.exec = Jvm.exec) (hb : c.code = cc) (hr : meth.sig.returnType = some .boolean) (hlocks : meth.locks = false) (hH : HH G B S h sz s H locs) {Q : Int32 → Hp → Prop} {v : Int32} (hv : bo v) (hq : Q v h) (hdg : decode cc pc = .ok (.ireturn, 1)) : W p l e R s m args below meth c H locs mc ms (MQ below (va_Qi Q (PPb G B S sz) (PPa B)) args s mc ms (PPa B)) (F0 m pc ls [.int v]) :=
  W.zret hexec hb hr (by rcases hv with rfl | rfl <;> rfl) (fun t ht hW => ⟨⟨v, h, rfl, hq, by show Hd G B S h sz t.heap; rw [ht]; exact hH.1⟩, hH.2.F ht⟩) hH.2.2.2 hdg hlocks
theorem hv_lret (hexec : p.tables.exec = Jvm.exec) (hb : c.code = cc) (hr : meth.sig.returnType = some .long) (hlocks : meth.locks = false) (hH : HH G B S h sz s H locs) {Q : Int64 → Hp → Prop} {v : Int64} (hq : Q v h) (hdg : decode cc pc = .ok (.lreturn, 1)) : W p l e R s m args below meth c H locs mc ms (MQ below (va_Ql Q (PPb G B S sz) (PPa B)) args s mc ms (PPa B)) (F0 m pc ls [.long v]) :=
  W.lret hexec hb hr (fun t ht hW => ⟨⟨v, h, rfl, hq, by show Hd G B S h sz t.heap; rw [ht]; exact hH.1⟩, hH.2.F ht⟩) hH.2.2.2 hdg hlocks
theorem hv_aret {C : String} (hexec : p.tables.exec = Jvm.exec) (hb : c.code = cc) (hr : meth.sig.returnType = some (.object C)) (hlocks : meth.locks = false) (hH : HH G B S h sz s H locs) {Q : Nat → Hp → Prop} {v : Nat} (hq : Q v h) (hdg : decode cc pc = .ok (.areturn, 1)) : W p l e R s m args below meth c H locs mc ms (MQ below (va_Qr (S := Nat × Hp) (fun u => Q u.1 u.2) (fun u a t => u.1 = a ∧ Hd G B S u.2 sz t.heap) (PPa B)) args s mc ms (PPa B)) (F0 m pc ls [.ref v]) :=
  W.aret hexec hb hr (Or.inl ⟨_, rfl⟩) (Or.inr ⟨v, rfl⟩) (fun t ht hW => ⟨⟨(v, h), v, rfl, hq, rfl, by show Hd G B S h sz t.heap; rw [ht]; exact hH.1⟩, hH.2.F ht⟩) hH.2.2.2 hdg hlocks
end ENDS
/-- the words of a call: instance, static -/
def CWv (own : String) (idx : Nat) (C : String) (y : MethodName) (cc : ByteArray) (n : Nat) (ret : Option FieldType) (k : Nat) : Prop := (Cond.methodLink own idx y ∈ lw_tbl ∧ Cond.instanceMethod y ∈ lw_tbl ∧ Cond.selects C y y ∈ lw_tbl) ∧ Cond.initialized y.cls ∈ lw_tbl ∧ Cond.code y cc n ret ∈ lw_tbl ∧ y.cls ≠ "java/lang/invoke/MethodHandle" ∧ y.cls ≠ "java/lang/invoke/VarHandle" ∧ (parseMethodDescriptor y.desc).map (fun d => d.parameters.length) = some k
def CWs (own : String) (idx : Nat) (y : MethodName) (cc : ByteArray) (n : Nat) (ret : Option FieldType) (k : Nat) : Prop := (Cond.methodLink own idx y ∈ lw_tbl ∧ Cond.static y ∈ lw_tbl) ∧ Cond.initialized y.cls ∈ lw_tbl ∧ Cond.code y cc n ret ∈ lw_tbl ∧ y.cls ≠ "java/lang/invoke/MethodHandle" ∧ y.cls ≠ "java/lang/invoke/VarHandle" ∧ (parseMethodDescriptor y.desc).map (fun d => d.parameters.length) = some k
section CALLS
variable {p : Program} {l : Launch} {e : Env} {R : Room} {s : State} {m : MethodId} {args : Array Value} {below : List Frame} {meth : Method} {c : Code} {H : Heap} {locs : List Loc} {cells slots : Nat} {Q : State → Prop} {cc cy : ByteArray} {pc : Nat} {ls : Array Slot} {st rest : List Value} {G : Gl} {B : Nat} {S : St} {h : Hp} {sz : Nat} {own : String} {idx : Nat} {y : MethodName} {n nL k : Nat} {rm : Room} {As : List Value}
theorem cb_of {ret : Option FieldType} (hK : KK G s) (hini : Cond.initialized y.cls ∈ lw_tbl) (hcode : Cond.code y cy n ret ∈ lw_tbl) (h1 : y.cls ≠ "java/lang/invoke/MethodHandle") (h2 : y.cls ≠ "java/lang/invoke/VarHandle") (h3 : (parseMethodDescriptor y.desc).map (fun d => d.parameters.length) = some k) (hlink : Cond.methodLink own idx y ∈ lw_tbl) (hR : rm.frames + 1 ≤ R.frames ∧ 8 + (n + 11) + rm.locals ≤ R.locals) : CallB R s args own idx y cy n ret [Cond.code y cy n ret] rm rm.cells rm.slots k := by
  have hc := hK.use hcode rfl args
  refine ⟨rfl, rfl, hR.1, hR.2, fun w hw a' U hW => ?_, List.mem_cons_self, hc, hK.use hini rfl args, ⟨h1, h2⟩, fun sig hs => ?_, hK.use hlink rfl args⟩
  · rw [List.mem_singleton] at hw
    subst hw
    exact word_at hW (Or.inl rfl) hc
  · rw [hs] at h3
    exact (Option.some.inj h3).symm
theorem pre_S (hK : KK G s) (hH : HH G B S h sz s H locs) : PreS s H (PPc G B S h sz As) As := ⟨PPc.blind, fun U hU hW => ⟨rfl, by rw [hU]; exact hH.1, hK.warm hW⟩⟩
theorem pre_V {C : String} {T : u_T} {N ci b : Nat} {ty : Nat → FieldType} (hcf : CF ci C T N ty) (ho : ob S b ci) (hK : KK G s) (hH : HH G B S h sz s H locs) : PreV s H C b (PPc G B S h sz (.ref b :: As)) As := by
  refine ⟨PPc.blind, ?_, fun U hU hW => ⟨rfl, by rw [hU]; exact hH.1, hK.warm hW⟩⟩
  obtain ⟨-, r, h1, cell, q1, q2, q3, q4⟩ := hH.1.2 b _ ho
  have hr : r = (C, T, N) := Option.some.inj (h1.symm.trans hcf.1)
  subst hr
  exact ⟨cell, q1, by rw [q3]; rfl, by rw [q2]; exact (hK.1.1 ci _ hcf.1).2.1⟩
theorem hv_cVV (hexec : p.tables.exec = Jvm.exec) (hb : c.code = cc) (hml : c.maxLocals = nL) (hown : s.vm.findClass own = some m.cls) (hK : KK G s) (hH : HH G B S h sz s H locs) {C : String} {T : u_T} {N ci b : Nat} {ty : Nat → FieldType} (hcf : CF ci C T N ty) (ho : ob S b ci) {Qc : Hp → Prop} (hM : MV l G B sz S y cy n rm (.ref b :: As) h Qc) (hcw : CWv own idx C y cy n none k) (hR : rm.frames + 1 ≤ R.frames ∧ 8 + (n + 11) + rm.locals ≤ R.locals) (hn : As.length = k) (hsize : ls.size = nL) (hst : st = As.reverse ++ .ref b :: rest) (hW : (rest.map fun v => v.category).sum ≤ 8) (hroom : cells + rm.cells ≤ R.cells ∧ slots + rm.slots ≤ R.slots) (hdg : decode cc pc = .ok (.invokevirtual idx, 3))
    (kk : ∀ (u : Hp) (H1 : Heap) (locs1 : List Loc), HH G B S u sz s H1 locs1 → Qc u → W p l e R s m args below meth c H1 locs1 (cells + rm.cells) (slots + rm.slots) Q (F0 m (pc + 3) ls rest)) : W p l e R s m args below meth c H locs cells slots Q (F0 m pc ls st) := by
  subst hst
  exact va_callv (va_runV (As := As) (rest := rest) (Ts := []) (cells := cells) (slots := slots) ⟨hexec, hb, hml, hown, fun w hw => by cases hw⟩ hM ⟨cb_of hK hcw.2.1 hcw.2.2.1 hcw.2.2.2.1 hcw.2.2.2.2.1 hcw.2.2.2.2.2 hcw.1.1 hR, hK.use hcw.1.2.1 rfl args, hK.use hcw.1.2.2 rfl args⟩ (pre_V hcf ho hK hH) rfl hn hsize rfl (lv_room hW) hdg hroom) hH.2 (fun q _ h => h) (fun q h => h) (fun u t H1 locs1 ht hvm hw hB hz hk hS => kk u H1 locs1 ⟨by rw [← ht]; exact hB, hS⟩ hw)
theorem hv_cVI (hexec : p.tables.exec = Jvm.exec) (hb : c.code = cc) (hml : c.maxLocals = nL) (hown : s.vm.findClass own = some m.cls) (hK : KK G s) (hH : HH G B S h sz s H locs) {C : String} {T : u_T} {N ci b : Nat} {ty : Nat → FieldType} (hcf : CF ci C T N ty) (ho : ob S b ci) {rt : FieldType} {Qc : Int32 → Hp → Prop} (hM : MI l G B sz S y cy n rt rm (.ref b :: As) h Qc) (hcw : CWv own idx C y cy n (some rt) k) (hR : rm.frames + 1 ≤ R.frames ∧ 8 + (n + 11) + rm.locals ≤ R.locals) (hn : As.length = k) (hsize : ls.size = nL) (hst : st = As.reverse ++ .ref b :: rest) (hW : (rest.map fun v => v.category).sum ≤ 8) (hroom : cells + rm.cells ≤ R.cells ∧ slots + rm.slots ≤ R.slots) (hdg : decode cc pc = .ok (.invokevirtual idx, 3))
    (kk : ∀ (r : Int32) (u : Hp) (H1 : Heap) (locs1 : List Loc), HH G B S u sz s H1 locs1 → Qc r u → W p l e R s m args below meth c H1 locs1 (cells + rm.cells) (slots + rm.slots) Q (F0 m (pc + 3) ls (.int r :: rest))) : W p l e R s m args below meth c H locs cells slots Q (F0 m pc ls st) := by
  subst hst
  exact va_calli (va_runV (As := As) (rest := rest) (Ts := []) (cells := cells) (slots := slots) ⟨hexec, hb, hml, hown, fun w hw => by cases hw⟩ hM ⟨cb_of hK hcw.2.1 hcw.2.2.1 hcw.2.2.2.1 hcw.2.2.2.2.1 hcw.2.2.2.2.2 hcw.1.1 hR, hK.use hcw.1.2.1 rfl args, hK.use hcw.1.2.2 rfl args⟩ (pre_V hcf ho hK hH) rfl hn hsize rfl (lv_room hW) hdg hroom) hH.2 (fun q _ h => h) (fun q h => h) (fun r u t H1 locs1 ht hvm hw hB hz hk hS => kk r u H1 locs1 ⟨by rw [← ht]; exact hB, hS⟩ hw)
theorem hv_cVL (hexec : p.tables.exec = Jvm.exec) (hb : c.code = cc) (hml : c.maxLocals = nL) (hown : s.vm.findClass own = some m.cls) (hK : KK G s) (hH : HH G B S h sz s H locs) {C : String} {T : u_T} {N ci b : Nat} {ty : Nat → FieldType} (hcf : CF ci C T N ty) (ho : ob S b ci) {Qc : Int64 → Hp → Prop} (hM : ML l G B sz S y cy n rm (.ref b :: As) h Qc) (hcw : CWv own idx C y cy n (some .long) k) (hR : rm.frames + 1 ≤ R.frames ∧ 8 + (n + 11) + rm.locals ≤ R.locals) (hn : As.length = k) (hsize : ls.size = nL) (hst : st = As.reverse ++ .ref b :: rest) (hW : (rest.map fun v => v.category).sum ≤ 8) (hroom : cells + rm.cells ≤ R.cells ∧ slots + rm.slots ≤ R.slots) (hdg : decode cc pc = .ok (.invokevirtual idx, 3))
    (kk : ∀ (r : Int64) (u : Hp) (H1 : Heap) (locs1 : List Loc), HH G B S u sz s H1 locs1 → Qc r u → W p l e R s m args below meth c H1 locs1 (cells + rm.cells) (slots + rm.slots) Q (F0 m (pc + 3) ls (.long r :: rest))) : W p l e R s m args below meth c H locs cells slots Q (F0 m pc ls st) := by
  subst hst
  exact va_calll (va_runV (As := As) (rest := rest) (Ts := []) (cells := cells) (slots := slots) ⟨hexec, hb, hml, hown, fun w hw => by cases hw⟩ hM ⟨cb_of hK hcw.2.1 hcw.2.2.1 hcw.2.2.2.1 hcw.2.2.2.2.1 hcw.2.2.2.2.2 hcw.1.1 hR, hK.use hcw.1.2.1 rfl args, hK.use hcw.1.2.2 rfl args⟩ (pre_V hcf ho hK hH) rfl hn hsize rfl (lv_room hW) hdg hroom) hH.2 (fun q _ h => h) (fun q h => h) (fun r u t H1 locs1 ht hvm hw hB hz hk hS => kk r u H1 locs1 ⟨by rw [← ht]; exact hB, hS⟩ hw)
theorem hv_cVA (hexec : p.tables.exec = Jvm.exec) (hb : c.code = cc) (hml : c.maxLocals = nL) (hown : s.vm.findClass own = some m.cls) (hK : KK G s) (hH : HH G B S h sz s H locs) {C : String} {T : u_T} {N ci b : Nat} {ty : Nat → FieldType} (hcf : CF ci C T N ty) (ho : ob S b ci) {rt : FieldType} {Qc : Nat → Hp → Prop} (hM : MA l G B sz S y cy n rt rm (.ref b :: As) h Qc) (hcw : CWv own idx C y cy n (some rt) k) (hR : rm.frames + 1 ≤ R.frames ∧ 8 + (n + 11) + rm.locals ≤ R.locals) (hn : As.length = k) (hsize : ls.size = nL) (hst : st = As.reverse ++ .ref b :: rest) (hW : (rest.map fun v => v.category).sum ≤ 8) (hroom : cells + rm.cells ≤ R.cells ∧ slots + rm.slots ≤ R.slots) (hdg : decode cc pc = .ok (.invokevirtual idx, 3))
    (kk : ∀ (r : Nat) (u : Hp) (H1 : Heap) (locs1 : List Loc), HH G B S u sz s H1 locs1 → Qc r u → W p l e R s m args below meth c H1 locs1 (cells + rm.cells) (slots + rm.slots) Q (F0 m (pc + 3) ls (.ref r :: rest))) : W p l e R s m args below meth c H locs cells slots Q (F0 m pc ls st) := by
  subst hst
  exact va_callr (va_runV (As := As) (rest := rest) (Ts := []) (cells := cells) (slots := slots) ⟨hexec, hb, hml, hown, fun w hw => by cases hw⟩ hM ⟨cb_of hK hcw.2.1 hcw.2.2.1 hcw.2.2.2.1 hcw.2.2.2.2.1 hcw.2.2.2.2.2 hcw.1.1 hR, hK.use hcw.1.2.1 rfl args, hK.use hcw.1.2.2 rfl args⟩ (pre_V hcf ho hK hH) rfl hn hsize rfl (lv_room hW) hdg hroom) hH.2 (fun q _ h => h) (fun q h => h) (fun w a t H1 locs1 ht hvm hw hB hz hk hS => by obtain ⟨r, u⟩ := w; obtain ⟨e9, hB⟩ := hB; cases e9; exact kk r u H1 locs1 ⟨by rw [← ht]; exact hB, hS⟩ hw)
theorem hv_cSV (hexec : p.tables.exec = Jvm.exec) (hb : c.code = cc) (hml : c.maxLocals = nL) (hown : s.vm.findClass own = some m.cls) (hK : KK G s) (hH : HH G B S h sz s H locs) {Qc : Hp → Prop} (hM : MV l G B sz S y cy n rm (As) h Qc) (hcw : CWs own idx y cy n none k) (hR : rm.frames + 1 ≤ R.frames ∧ 8 + (n + 11) + rm.locals ≤ R.locals) (hn : As.length = k) (hsize : ls.size = nL) (hst : st = As.reverse ++ rest) (hW : (rest.map fun v => v.category).sum ≤ 8) (hroom : cells + rm.cells ≤ R.cells ∧ slots + rm.slots ≤ R.slots) (hdg : decode cc pc = .ok (.invokestatic idx, 3))
    (kk : ∀ (u : Hp) (H1 : Heap) (locs1 : List Loc), HH G B S u sz s H1 locs1 → Qc u → W p l e R s m args below meth c H1 locs1 (cells + rm.cells) (slots + rm.slots) Q (F0 m (pc + 3) ls rest)) : W p l e R s m args below meth c H locs cells slots Q (F0 m pc ls st) := by
  subst hst
  exact va_callv (va_runS (As := As) (rest := rest) (Ts := []) (cells := cells) (slots := slots) ⟨hexec, hb, hml, hown, fun w hw => by cases hw⟩ hM ⟨cb_of hK hcw.2.1 hcw.2.2.1 hcw.2.2.2.1 hcw.2.2.2.2.1 hcw.2.2.2.2.2 hcw.1.1 hR, hK.use hcw.1.2 rfl args⟩ (pre_S hK hH) rfl hn hsize rfl (lv_room hW) hdg hroom) hH.2 (fun q _ h => h) (fun q h => h) (fun u t H1 locs1 ht hvm hw hB hz hk hS => kk u H1 locs1 ⟨by rw [← ht]; exact hB, hS⟩ hw)
theorem hv_cSI (hexec : p.tables.exec = Jvm.exec) (hb : c.code = cc) (hml : c.maxLocals = nL) (hown : s.vm.findClass own = some m.cls) (hK : KK G s) (hH : HH G B S h sz s H locs) {rt : FieldType} {Qc : Int32 → Hp → Prop} (hM : MI l G B sz S y cy n rt rm (As) h Qc) (hcw : CWs own idx y cy n (some rt) k) (hR : rm.frames + 1 ≤ R.frames ∧ 8 + (n + 11) + rm.locals ≤ R.locals) (hn : As.length = k) (hsize : ls.size = nL) (hst : st = As.reverse ++ rest) (hW : (rest.map fun v => v.category).sum ≤ 8) (hroom : cells + rm.cells ≤ R.cells ∧ slots + rm.slots ≤ R.slots) (hdg : decode cc pc = .ok (.invokestatic idx, 3))
    (kk : ∀ (r : Int32) (u : Hp) (H1 : Heap) (locs1 : List Loc), HH G B S u sz s H1 locs1 → Qc r u → W p l e R s m args below meth c H1 locs1 (cells + rm.cells) (slots + rm.slots) Q (F0 m (pc + 3) ls (.int r :: rest))) : W p l e R s m args below meth c H locs cells slots Q (F0 m pc ls st) := by
  subst hst
  exact va_calli (va_runS (As := As) (rest := rest) (Ts := []) (cells := cells) (slots := slots) ⟨hexec, hb, hml, hown, fun w hw => by cases hw⟩ hM ⟨cb_of hK hcw.2.1 hcw.2.2.1 hcw.2.2.2.1 hcw.2.2.2.2.1 hcw.2.2.2.2.2 hcw.1.1 hR, hK.use hcw.1.2 rfl args⟩ (pre_S hK hH) rfl hn hsize rfl (lv_room hW) hdg hroom) hH.2 (fun q _ h => h) (fun q h => h) (fun r u t H1 locs1 ht hvm hw hB hz hk hS => kk r u H1 locs1 ⟨by rw [← ht]; exact hB, hS⟩ hw)
theorem hv_cSL (hexec : p.tables.exec = Jvm.exec) (hb : c.code = cc) (hml : c.maxLocals = nL) (hown : s.vm.findClass own = some m.cls) (hK : KK G s) (hH : HH G B S h sz s H locs) {Qc : Int64 → Hp → Prop} (hM : ML l G B sz S y cy n rm (As) h Qc) (hcw : CWs own idx y cy n (some .long) k) (hR : rm.frames + 1 ≤ R.frames ∧ 8 + (n + 11) + rm.locals ≤ R.locals) (hn : As.length = k) (hsize : ls.size = nL) (hst : st = As.reverse ++ rest) (hW : (rest.map fun v => v.category).sum ≤ 8) (hroom : cells + rm.cells ≤ R.cells ∧ slots + rm.slots ≤ R.slots) (hdg : decode cc pc = .ok (.invokestatic idx, 3))
    (kk : ∀ (r : Int64) (u : Hp) (H1 : Heap) (locs1 : List Loc), HH G B S u sz s H1 locs1 → Qc r u → W p l e R s m args below meth c H1 locs1 (cells + rm.cells) (slots + rm.slots) Q (F0 m (pc + 3) ls (.long r :: rest))) : W p l e R s m args below meth c H locs cells slots Q (F0 m pc ls st) := by
  subst hst
  exact va_calll (va_runS (As := As) (rest := rest) (Ts := []) (cells := cells) (slots := slots) ⟨hexec, hb, hml, hown, fun w hw => by cases hw⟩ hM ⟨cb_of hK hcw.2.1 hcw.2.2.1 hcw.2.2.2.1 hcw.2.2.2.2.1 hcw.2.2.2.2.2 hcw.1.1 hR, hK.use hcw.1.2 rfl args⟩ (pre_S hK hH) rfl hn hsize rfl (lv_room hW) hdg hroom) hH.2 (fun q _ h => h) (fun q h => h) (fun r u t H1 locs1 ht hvm hw hB hz hk hS => kk r u H1 locs1 ⟨by rw [← ht]; exact hB, hS⟩ hw)
end CALLS
abbrev QV (G : Gl) (B : Nat) (S : St) (sz : Nat) (below : List Frame) (args : Array Value) (s : State) (Q : Hp → Prop) : State → Prop := MQ below (va_Qv Q (PPb G B S sz) (PPa B)) args s 0 0 (PPa B)
abbrev QI (G : Gl) (B : Nat) (S : St) (sz : Nat) (below : List Frame) (args : Array Value) (s : State) (Q : Int32 → Hp → Prop) : State → Prop := MQ below (va_Qi Q (PPb G B S sz) (PPa B)) args s 0 0 (PPa B)
abbrev QL (G : Gl) (B : Nat) (S : St) (sz : Nat) (below : List Frame) (args : Array Value) (s : State) (Q : Int64 → Hp → Prop) : State → Prop := MQ below (va_Ql Q (PPb G B S sz) (PPa B)) args s 0 0 (PPa B)
abbrev QA (G : Gl) (B : Nat) (S : St) (sz : Nat) (below : List Frame) (args : Array Value) (s : State) (Q : Nat → Hp → Prop) : State → Prop := MQ below (va_Qr (S := Nat × Hp) (fun u => Q u.1 u.2) (fun u a t => u.1 = a ∧ Hd G B S u.2 sz t.heap) (PPa B)) args s 0 0 (PPa B)
theorem bo_n {v : Int32} (h : bo v) : narrow .boolean (.int v) = .int v := by rcases h with rfl | rfl <;> rfl
theorem bo_f {v : Int32} (h : bo v) : fits .boolean (.int v) = true := by rcases h with rfl | rfl <;> rfl
theorem ne_toInt {x : Int32} {k : Nat} (hk : k < 2 ^ 31) (h : ¬ x = nI k) : x.toInt ≠ (k : Int) := fun e => h (Int32.toInt_inj.mp (by rw [e, nI_toInt hk]))
theorem tbl_in {w : Cond} (h : w ∈ tables_1_1 ++ (tables_1_2 ++ (tables_1_3 ++ (tables_1_4 ++ (tables_1_5 ++ (tables_1_6 ++ (tables_1_7 ++ tables_1_8))))))) : w ∈ lw_tbl := List.mem_append_right _ h
theorem sel_priv {q : MethodName × Nat} (h : q ∈ lw_privs_1 ++ (lw_privs_2 ++ (lw_privs_3 ++ (lw_privs_4 ++ (lw_privs_5 ++ lw_privs_6))))) : Cond.selects q.1.cls q.1 q.1 ∈ lw_tbl := List.mem_append_left _ (List.mem_map.mpr ⟨q, h, rfl⟩)
theorem ml_cnat : Cond.native arraycopyName ∈ lw_tbl := tbl_in (List.mem_append_right _ (List.mem_append_left _ (List.mem_of_getElem? (l := tables_1_2) (i := 41) rfl)))
theorem ml_csta : Cond.static arraycopyName ∈ lw_tbl := tbl_in (List.mem_append_right _ (List.mem_append_left _ (List.mem_of_getElem? (l := tables_1_2) (i := 40) rfl)))
theorem ml_cini : Cond.initialized "java/lang/System" ∈ lw_tbl := tbl_in (List.mem_append_left _ (List.mem_of_getElem? (l := tables_1_1) (i := 9) rfl))
section COPY
variable {p : Program} {l : Launch} {e : Env} {R : Room} {s : State} {m : MethodId} {args : Array Value} {below : List Frame} {meth : Method} {c : Code} {H : Heap} {locs : List Loc} {cells slots : Nat} {Q : State → Prop} {cc : ByteArray} {pc : Nat} {ls : Array Slot} {rest : List Value} {G : Gl} {B : Nat} {S : St} {h : Hp} {sz a b : Nat}
theorem hv_copy (hexec : p.tables.exec = Jvm.exec) (hb : c.code = cc) (hml : c.maxLocals = ls.size) {own : String} {index : Nat} (hown : s.vm.findClass own = some m.cls) (hK : KK G s) (hH : HH G B S h sz s H locs) (hlink : Cond.methodLink own index arraycopyName ∈ lw_tbl) {sp dp n : Int32} (hc : cin S a sp b dp n) (hframes : 1 ≤ R.frames) (hlocals : (rest.map fun v => v.category).sum + (nativeFrameWords "java/lang/System" "arraycopy" 5 + 11) ≤ R.locals) (hdg : decode cc pc = .ok (.invokestatic index, 3))
    (kk : ∀ (H1 : Heap) (locs1 : List Loc), HH G B S (cpy h a sp b dp n) sz s H1 locs1 → W p l e R s m args below meth c H1 locs1 cells slots Q (F0 m (pc + 3) ls rest)) : W p l e R s m args below meth c H locs cells slots Q (F0 m pc ls (.int n :: .int dp :: .ref b :: .int sp :: .ref a :: rest)) := by
  obtain ⟨n0, n1, ha, hb2, h1, h2, h3, h4, h5⟩ := hc
  have ga := (hH.1.2 a _ ha).2.1
  have gb := (hH.1.2 b _ hb2).2.1
  rw [arrW0] at ga gb
  have nn : ∀ z : Int32, ¬ z < 0 → z.toInt = (z.toNatClampNeg : Int) := by
    intro z hz
    have hz0 : (0 : Int) ≤ z.toInt := by
      have := Int32.not_lt.mp hz
      simpa using Int32.le_iff_toInt_le.mp this
    show z.toInt = ((z.toInt.toNat : Nat) : Int)
    omega
  intro T hT X
  obtain ⟨-, k0, hk0, cm0, hkk0⟩ := (hK.1.2 0 _ rfl).1 n0 (fun j => .int (h a j))
  obtain ⟨-, k1, hk1, cm1, hkk1⟩ := (hK.1.2 0 _ rfl).1 n1 (fun j => .int (h b j))
  obtain ⟨vm', X', step⟩ := X.arraycopy hexec hown (hK.use hlink rfl args) (hK.use ml_cnat rfl args) (hK.use ml_csta rfl args) (hK.use ml_cini rfl args) (src := a) (dst := b) (cs := vp_cell (G.2.2 0) (n0, .inl (h a))) (cd := vp_cell (G.2.2 0) (n1, .inl (h b))) (srcPos := sp) (destPos := dp) (n := n) (by rw [hT]; exact ga) (by rw [hT]; exact gb)
    (fun _ h => by cases h) (fun _ h => by cases h) (fun h => by cases h) (fun h => by cases h) hk0 hk1 hkk0 hkk1 (by simp [refKind]) h1 h2 h3
    (by rw [nn sp h1, nn n h3]; show ¬ _ > ((arrV (G.2.2 0) n0 (fun j => .int (h a j))).slots.size : Int); rw [arrV_size]; omega)
    (by rw [nn dp h2, nn n h3]; show ¬ _ > ((arrV (G.2.2 0) n1 (fun j => .int (h b j))).slots.size : Int); rw [arrV_size]; omega)
    (fun vm₁ _ i hi => by
      have e : (vp_cell (G.2.2 0) (n0, .inl (h a))).slots.getD (sp.toNatClampNeg + i) .null = .int (h a (sp.toNatClampNeg + i)) := by
        show (arrV (G.2.2 0) n0 (fun j => .int (h a j))).slots.getD _ _ = _
        rw [Array.getD_eq_getD_getElem?, arrV_read _ _ (by omega)]
        rfl
      refine ⟨?_, ?_⟩
      · rw [e]
        rfl
      · rw [e]
        exact trivial)
    (g := F0 m pc ls (.int n :: .int dp :: .ref b :: .int sp :: .ref a :: rest)) rfl (by rw [hml]) (rest := rest) rfl (by rw [hb]; exact hdg) hframes (by show 2 * 0 + _ + _ ≤ _; omega)
  have e1 : copied (vp_cell (G.2.2 0) (n0, .inl (h a))) (vp_cell (G.2.2 0) (n1, .inl (h b))) sp dp n = vp_cell (G.2.2 0) (n1, .inl (va_cpy (h a) (h b) sp.toNatClampNeg dp.toNatClampNeg n.toNatClampNeg)) := va_copied (fun z => .int z) (G.2.2 0) (G.2.2 0) (h a) (h b) h4
  rw [e1] at X' step
  have hl : b < H.size := (Array.getElem?_eq_some_iff.mp gb).1
  have hheap : ((T.setVm vm').setCell b (vp_cell (G.2.2 0) (n1, .inl (va_cpy (h a) (h b) sp.toNatClampNeg dp.toNatClampNeg n.toNatClampNeg)))).heap = H.setIfInBounds b (vp_cell (G.2.2 0) (n1, .inl (va_cpy (h a) (h b) sp.toNatClampNeg dp.toNatClampNeg n.toNatClampNeg))) := by rw [← hT]; rfl
  have oq : ∀ q : Nat, q ≠ b → (H.setIfInBounds b (vp_cell (G.2.2 0) (n1, .inl (va_cpy (h a) (h b) sp.toNatClampNeg dp.toNatClampNeg n.toNatClampNeg))))[q]? = H[q]? := fun q hq => by simp [Array.getElem?_setIfInBounds, Ne.symm hq]
  have hbB := (hH.1.2 b _ hb2).1
  obtain ⟨t, a1, b1⟩ := kk _ _ ⟨⟨⟨by simp; exact hH.1.1.1, hH.1.1.2⟩, fun a' x hx => ⟨(hH.1.2 a' x hx).1, by
      by_cases hab : a' = b
      · subst hab
        have : x = .inr (0, n1) := Option.some.inj (hx.symm.trans hb2)
        subst this
        refine ⟨?_, by show 0 < 4; decide⟩
        show (H.setIfInBounds a' _)[a']? = some (arrV (G.2.2 0) n1 (arrW S _ a' 0))
        rw [arrW0, Array.getElem?_setIfInBounds, if_pos rfl, if_pos hl]
        rw [vp_cell_i]
        congr 2
        funext q
        simp [cpy]
      · exact (hH.1.2 a' x hx).2.kept (oq a' hab) (fun k' => by simp [cpy, hab])⟩⟩, ⟨by simp; exact hH.2.1, fun q g1 g2 => by
      rw [oq q (fun e => g2 (by rw [e]; exact hbB))]
      exact hH.2.2.1 q g1 g2, fun q hq => by
      rcases List.mem_append.mp hq with h | h
      · exact hH.2.2.2 q h
      · obtain ⟨z, -, hz⟩ := List.mem_map.mp h
        rw [← hz]
        exact hbB⟩⟩ _ hheap X'
  exact ⟨t, step t a1, b1⟩
end COPY
