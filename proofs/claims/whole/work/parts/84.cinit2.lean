/-! PURE: what the constructors make, on -/
def MG (ci : Nat) (fl szf : Nat → Nat) (T : St2) (m n : Nat) : Prop := T.1 m = some (.inl ci) ∧ ∀ i, i < n → T.1 (m + (1 + i)) = some (.inr (0, szf i)) ∧ T.2 m (fl i) = some (m + (1 + i))
def stgM (ci : Nat) (T : St2) (z m : Nat) (h : Hp) (k len : Nat) (K : St2 → Nat → Hp → Prop) : Prop := ∀ (T1 : St2) (r z1 : Nat) (h1 : Hp), T1 = nwT T z (.inr (0, len)) → r = z → z1 = z + 1 → h1 = zr h z → (T1.1 m = some (.inl ci) ∧ (∀ (T2 : St2), T2 = stR T1 m k r → (K T2 z1 h1)))
theorem x_stgM {ci : Nat} {fl szf : Nat → Nat} {T0 T : St2} {h0 h : Hp} {z m n : Nat} (M : MG ci fl szf T m n) (A0 : Ag T0 T h0 h m) (hZ : Z0 h m (m + (1 + n))) (hf : ∀ i, i < n → fl i ≠ fl n) (hz : z = m + (1 + n)) {K : St2 → Nat → Hp → Prop} (hK : ∀ T' h', MG ci fl szf T' m (n + 1) → Ag T0 T' h0 h' m → Z0 h' m (m + (1 + (n + 1))) → K T' (m + (1 + (n + 1))) h') : stgM ci T z m h (fl n) (szf n) K := by
  intro T1 r z1 h1 e1 e2 e3 e4
  subst hz
  subst e2
  subst e3
  subst e4
  subst e1
  refine ⟨by rw [nw1n (by omega)]; exact M.1, fun T2 e5 => ?_⟩
  subst e5
  rw [show m + (1 + n) + 1 = m + (1 + (n + 1)) by omega]
  refine hK _ _ ⟨?_, fun i hi => ?_⟩ (Ag_tr A0 (Ag_tr (fun a ha => Ag_nw T h (m + (1 + n)) _ a (by omega)) (Ag_st (Nat.le_refl m)) (Nat.le_refl m)) (Nat.le_refl m)) (Z0_zr hZ)
  · show (nwT T _ _).1 m = _
    rw [nw1n (by omega)]; exact M.1
  · by_cases c : i = n
    · subst c
      exact ⟨nw1 _ _ _, st2 _ _ _ _⟩
    · obtain ⟨m1, m2⟩ := M.2 i (by omega)
      have g := hf i (by omega)
      refine ⟨?_, ?_⟩
      · show (nwT T _ _).1 _ = _
        rw [nw1n (by omega)]; exact m1
      · rw [st2n (by omega), nw2n (by omega)]; exact m2
theorem MG_0 {ci : Nat} {fl szf : Nat → Nat} {T : St2} {m : Nat} (hT : T.1 m = some (.inl ci)) : MG ci fl szf T m 0 := ⟨hT, fun i hi => absurd hi (by omega)⟩
theorem MG_keep {ci : Nat} {fl szf : Nat → Nat} {T T' : St2} {m n : Nat} (e : Eq2 T T' m (m + (1 + n))) (M : MG ci fl szf T m n) : MG ci fl szf T' m n := by
  refine ⟨((e m (by omega) (by omega)).1).trans M.1, fun i hi => ?_⟩
  obtain ⟨m1, m2⟩ := M.2 i hi
  exact ⟨((e _ (by omega) (by omega)).1).trans m1, ((e m (by omega) (by omega)).2 _).trans m2⟩
theorem Z1 {h : Hp} {b : Nat} (hh : ∀ k, h b k = nI 0) : Z0 h b (b + (1 + 0)) := fun a g1 g2 k => by rw [show a = b by omega]; exact hh k
def fl4 (i : Nat) : Nat := if i = 0 then 0 else i + 1
def sz4 (i : Nat) : Nat := if i = 0 then 96 else 4
theorem x_tale2 {T : St2} {h : Hp} {sz b : Nat} (hT : T.1 b = some (.inl 4)) (hz : sz = b + 1) (hh : ∀ k, h b k = nI 0) {Q : St2 → Nat → Hp → Prop} (hQ : ∀ T' h', Ag T T' h h' b → MG 4 fl4 sz4 T' b 3 → Z0 h' b (b + 4) → Q T' (b + 4) h') : w_X4_init T sz b h Q := by
  unfold w_X4_init
  refine x_stgM (fl := fl4) (szf := sz4) (n := 0) (MG_0 hT) (Ag_rf T h b) (Z1 hh) (by decide) (by omega) (fun T1 h1 M1 A1 z1 => ?_)
  refine x_stgM (fl := fl4) (szf := sz4) (n := 1) M1 A1 z1 (by decide) rfl (fun T1 h1 M1 A1 z1 => ?_)
  refine x_stgM (fl := fl4) (szf := sz4) (n := 2) M1 A1 z1 (by decide) rfl (fun T1 h1 M1 A1 z1 => ?_)
  exact hQ T1 h1 A1 M1 z1
def fl5 (i : Nat) : Nat := i
def sz5 (_ : Nat) : Nat := 48
theorem x_walk2 {T : St2} {h : Hp} {sz b : Nat} (hT : T.1 b = some (.inl 5)) (hz : sz = b + 1) (hh : ∀ k, h b k = nI 0) {Q : St2 → Nat → Hp → Prop} (hQ : ∀ T' h', Ag T T' h h' b → MG 5 fl5 sz5 T' b 2 → Z0 h' b (b + 3) → Q T' (b + 3) h') : w_X5_init T sz b h Q := by
  unfold w_X5_init
  refine x_stgM (fl := fl5) (szf := sz5) (n := 0) (MG_0 hT) (Ag_rf T h b) (Z1 hh) (by decide) (by omega) (fun T1 h1 M1 A1 z1 => ?_)
  refine x_stgM (fl := fl5) (szf := sz5) (n := 1) M1 A1 z1 (by decide) rfl (fun T1 h1 M1 A1 z1 => ?_)
  exact hQ T1 h1 A1 M1 z1
def fl7 (i : Nat) : Nat := if i < 13 then i else if i < 19 then i + 3 else if i = 19 then 25 else if i = 20 then 31 else if i = 21 then 33 else 34
def sz7 (i : Nat) : Nat := if i = 0 then 7 else if i < 4 then 48 else if i < 12 then 5 else if i = 12 then 30 else if i = 13 then 96 else if i < 17 then 25 else if i < 19 then 75 else if i = 19 then 2400 else if i = 20 then 12 else if i = 21 then 8 else 48
theorem x_model2 {T : St2} {h : Hp} {sz b : Nat} (hT : T.1 b = some (.inl 7)) (hz : sz = b + 1) (hh : ∀ k, h b k = nI 0) {Q : St2 → Nat → Hp → Prop} (hQ : ∀ T' h', Ag T T' h h' b → MG 7 fl7 sz7 T' b 23 → Z0 h' b (b + 24) → Q T' (b + 24) h') : w_X7_init T sz b h Q := by
  unfold w_X7_init
  refine x_stgM (fl := fl7) (szf := sz7) (n := 0) (MG_0 hT) (Ag_rf T h b) (Z1 hh) (by decide) (by omega) (fun T1 h1 M1 A1 z1 => ?_)
  refine x_stgM (fl := fl7) (szf := sz7) (n := 1) M1 A1 z1 (by decide) rfl (fun T1 h1 M1 A1 z1 => ?_)
  refine x_stgM (fl := fl7) (szf := sz7) (n := 2) M1 A1 z1 (by decide) rfl (fun T1 h1 M1 A1 z1 => ?_)
  refine x_stgM (fl := fl7) (szf := sz7) (n := 3) M1 A1 z1 (by decide) rfl (fun T1 h1 M1 A1 z1 => ?_)
  refine x_stgM (fl := fl7) (szf := sz7) (n := 4) M1 A1 z1 (by decide) rfl (fun T1 h1 M1 A1 z1 => ?_)
  refine x_stgM (fl := fl7) (szf := sz7) (n := 5) M1 A1 z1 (by decide) rfl (fun T1 h1 M1 A1 z1 => ?_)
  refine x_stgM (fl := fl7) (szf := sz7) (n := 6) M1 A1 z1 (by decide) rfl (fun T1 h1 M1 A1 z1 => ?_)
  refine x_stgM (fl := fl7) (szf := sz7) (n := 7) M1 A1 z1 (by decide) rfl (fun T1 h1 M1 A1 z1 => ?_)
  refine x_stgM (fl := fl7) (szf := sz7) (n := 8) M1 A1 z1 (by decide) rfl (fun T1 h1 M1 A1 z1 => ?_)
  refine x_stgM (fl := fl7) (szf := sz7) (n := 9) M1 A1 z1 (by decide) rfl (fun T1 h1 M1 A1 z1 => ?_)
  refine x_stgM (fl := fl7) (szf := sz7) (n := 10) M1 A1 z1 (by decide) rfl (fun T1 h1 M1 A1 z1 => ?_)
  refine x_stgM (fl := fl7) (szf := sz7) (n := 11) M1 A1 z1 (by decide) rfl (fun T1 h1 M1 A1 z1 => ?_)
  refine x_stgM (fl := fl7) (szf := sz7) (n := 12) M1 A1 z1 (by decide) rfl (fun T1 h1 M1 A1 z1 => ?_)
  refine x_stgM (fl := fl7) (szf := sz7) (n := 13) M1 A1 z1 (by decide) rfl (fun T1 h1 M1 A1 z1 => ?_)
  refine x_stgM (fl := fl7) (szf := sz7) (n := 14) M1 A1 z1 (by decide) rfl (fun T1 h1 M1 A1 z1 => ?_)
  refine x_stgM (fl := fl7) (szf := sz7) (n := 15) M1 A1 z1 (by decide) rfl (fun T1 h1 M1 A1 z1 => ?_)
  refine x_stgM (fl := fl7) (szf := sz7) (n := 16) M1 A1 z1 (by decide) rfl (fun T1 h1 M1 A1 z1 => ?_)
  refine x_stgM (fl := fl7) (szf := sz7) (n := 17) M1 A1 z1 (by decide) rfl (fun T1 h1 M1 A1 z1 => ?_)
  refine x_stgM (fl := fl7) (szf := sz7) (n := 18) M1 A1 z1 (by decide) rfl (fun T1 h1 M1 A1 z1 => ?_)
  refine x_stgM (fl := fl7) (szf := sz7) (n := 19) M1 A1 z1 (by decide) rfl (fun T1 h1 M1 A1 z1 => ?_)
  refine x_stgM (fl := fl7) (szf := sz7) (n := 20) M1 A1 z1 (by decide) rfl (fun T1 h1 M1 A1 z1 => ?_)
  refine x_stgM (fl := fl7) (szf := sz7) (n := 21) M1 A1 z1 (by decide) rfl (fun T1 h1 M1 A1 z1 => ?_)
  refine x_stgM (fl := fl7) (szf := sz7) (n := 22) M1 A1 z1 (by decide) rfl (fun T1 h1 M1 A1 z1 => ?_)
  refine ⟨M1.1, fun h2 e2 => ?_⟩
  have e3 : h2 = h1 := by
    rw [e2]
    funext q k
    unfold up
    by_cases c : q = b ∧ k = 13
    · rw [if_pos c, c.1]; exact (z1 b (by omega) (by omega) k).symm
    · rw [if_neg c]
  rw [e3]
  exact hQ T1 h1 A1 M1 z1
/-- the mind: her land, her two rows -/
def MD (T : St2) (b : Nat) : Prop := (T.1 b = some (.inl 2) ∧ T.2 b 0 = some (b + 1)) ∧ LI T (b + 1) 5 ∧ (T.1 (b + 16) = some (.inr (0, 4)) ∧ T.2 b 1 = some (b + 16)) ∧ T.1 (b + 17) = some (.inr (0, 4)) ∧ T.2 b 2 = some (b + 17)
theorem MD_keep {T T' : St2} {b : Nat} (e : Eq2 T T' b (b + 18)) (M : MD T b) : MD T' b := by
  obtain ⟨⟨m1, m2⟩, fm, ⟨r1, r2⟩, q1, q2⟩ := M
  have f : ∀ k, T'.2 b k = T.2 b k := fun k => (e b (by omega) (by omega)).2 k
  exact ⟨⟨((e _ (by omega) (by omega)).1).trans m1, (f 0).trans m2⟩, LI_keep (fun q g1 g2 => e q (by omega) (by omega)) fm, ⟨((e _ (by omega) (by omega)).1).trans r1, (f 1).trans r2⟩, ((e _ (by omega) (by omega)).1).trans q1, (f 2).trans q2⟩
theorem x_mind2 {T : St2} {h : Hp} {sz b : Nat} (hT : T.1 b = some (.inl 2)) (hz : sz = b + 1) (hh : ∀ k, h b k = nI 0) {Q : St2 → Nat → Hp → Prop} (hQ : ∀ T' h', Ag T T' h h' b → MD T' b → Z0 h' b (b + 18) → Q T' (b + 18) h') : w_X2_init T sz b h Q := by
  unfold w_X2_init
  subst hz
  intro T1 r1 z1 h1 e1 e2 e3 e4
  subst e2
  subst e3
  subst e4
  subst e1
  refine x_land2 (nw1 _ _ _) rfl (fun k => zr0 _ _ _) (fun T' h' ag L z => ?_)
  have k1 : T'.1 b = some (.inl 2) := ((ag b (by omega)).1).trans ((nw1n (by omega)).trans hT)
  refine ⟨k1, fun T2 e5 => ?_⟩
  subst e5
  have A1 : Ag T (stR T' b 0 (b + 1)) h h' b := Ag_tr (fun a ha => Ag_nw T h (b + 1) (.inl 1) a (by omega)) (Ag_tr (fun a ha => ag a (by omega)) (Ag_st (Nat.le_refl b)) (Nat.le_refl b)) (Nat.le_refl b)
  have Z1 : Z0 h' b (b + 16) := fun a g1 g2 k => by
    by_cases c : a = b
    · rw [c, (ag b (by omega)).2.2 k, zrn (by omega)]; exact hh k
    · exact z a (by omega) (by omega) k
  have L1 : LI (stR T' b 0 (b + 1)) (b + 1) 5 := LI_keep (T := T') (fun a g1 g2 => ⟨rfl, fun k => st2n (by omega)⟩) L
  have m1 : (stR T' b 0 (b + 1)).2 b 0 = some (b + 1) := st2 _ _ _ _
  have k2 : (stR T' b 0 (b + 1)).1 b = some (.inl 2) := k1
  clear ag L z k1
  generalize stR T' b 0 (b + 1) = T3 at A1 L1 m1 k2 ⊢
  intro T4 r2 z2 h2 e1 e2 e3 e4
  subst e2
  subst e3
  subst e4
  subst e1
  refine ⟨(nw1n (by omega)).trans k2, fun T5 e5 => ?_⟩
  have A2 : Ag T T5 h (zr h' (b + 16)) b := Ag_tr A1 (by rw [e5]; exact Ag_tr (fun a ha => Ag_nw T3 h' (b + 16) _ a (by omega)) (Ag_st (Nat.le_refl b)) (Nat.le_refl b)) (Nat.le_refl b)
  have k3 : T5.1 b = some (.inl 2) := by
    rw [e5]
    show (nwT T3 _ _).1 b = _
    rw [nw1n (by omega)]; exact k2
  have m2 : T5.2 b 0 = some (b + 1) := by rw [e5, st2n (by omega), nw2n (by omega)]; exact m1
  have L2 : LI T5 (b + 1) 5 := LI_keep (T := T3) (fun a g1 g2 => by
    rw [e5]
    refine ⟨?_, fun k => ?_⟩
    · show (nwT T3 _ _).1 a = _
      rw [nw1n (by omega)]
    · rw [st2n (by omega), nw2n (by omega)]) L1
  have p1 : T5.1 (b + 16) = some (.inr (0, 4)) := by rw [e5]; exact nw1 _ _ _
  have p2 : T5.2 b 1 = some (b + 16) := by rw [e5]; exact st2 _ _ _ _
  have Z2 : Z0 (zr h' (b + 16)) b (b + 17) := Z0_zr Z1
  clear e5 A1 L1 m1 k2
  intro T6 r3 z3 h3 e1 e2 e3 e4
  subst e2
  subst e3
  subst e4
  subst e1
  refine ⟨(nw1n (by omega)).trans k3, fun T7 e5 => ?_⟩
  subst e5
  refine hQ _ _ (Ag_tr A2 (Ag_tr (fun a ha => Ag_nw T5 _ (b + 17) _ a (by omega)) (Ag_st (Nat.le_refl b)) (Nat.le_refl b)) (Nat.le_refl b)) ⟨⟨?_, ?_⟩, LI_keep (T := T5) (fun a g1 g2 => ⟨?_, fun k => ?_⟩) L2, ⟨?_, ?_⟩, nw1 _ _ _, st2 _ _ _ _⟩ (Z0_zr Z2)
  · show (nwT T5 _ _).1 b = _
    rw [nw1n (by omega)]; exact k3
  · rw [st2n (by omega), nw2n (by omega)]; exact m2
  · show (nwT T5 _ _).1 a = _
    rw [nw1n (by omega)]
  · rw [st2n (by omega), nw2n (by omega)]
  · show (nwT T5 _ _).1 (b + 16) = _
    rw [nw1n (by omega)]; exact p1
  · rw [st2n (by omega), nw2n (by omega)]; exact p2
/-- a made thing put into a slot of its owner -/
theorem stg_E {T T' : St2} {h h' : Hp} {x c k : Nat} {y : Nat ⊕ (Nat × Nat)} (ag : Ag (nwT T c y) T' (zr h c) h' c) (hx : x < c) : (∀ a, a < c → (stR T' x k c).1 a = T.1 a) ∧ (∀ a j, a < c → ¬ (a = x ∧ j = k) → (stR T' x k c).2 a j = T.2 a j) ∧ (stR T' x k c).2 x k = some c ∧ ∀ a j, a < c → h' a j = h a j := by
  have g := Ag_tr (Ag_nw T h c y) ag (Nat.le_refl _)
  exact ⟨fun a ha => (g a ha).1, fun a j ha hn => (st2n hn).trans ((g a ha).2.1 j), st2 _ _ _ _, fun a j ha => (g a ha).2.2 j⟩
def X6I (T : St2) (x : Nat) : Prop := T.1 x = some (.inl 6) ∧ (T.2 x 0 = some (x + 1) ∧ T.2 x 1 = some (x + 16) ∧ T.2 x 3 = some (x + 31) ∧ T.2 x 4 = some (x + 153) ∧ T.2 x 5 = some (x + 157) ∧ T.2 x 6 = some (x + 175) ∧ T.2 x 7 = some (x + 178) ∧ T.2 x 9 = some (x + 179)) ∧ LI T (x + 1) 5 ∧ LI T (x + 16) 5 ∧ PI_ T (x + 31) 8 ∧ MG 4 fl4 sz4 T (x + 153) 3 ∧ MD T (x + 157) ∧ MG 5 fl5 sz5 T (x + 175) 2 ∧ T.1 (x + 178) = some (.inr (0, 12)) ∧ T.1 (x + 179) = some (.inr (0, 7))
theorem x_new6 {T : St2} {h : Hp} {sz x : Nat} (hT : T.1 x = some (.inl 6)) (hz : sz = x + 1) (hh : ∀ k, h x k = nI 0) {Q : St2 → Nat → Hp → Prop} (hQ : ∀ T' h', Ag T T' h h' x → X6I T' x → Z0 h' x (x + 180) → Q T' (x + 180) h') : w_X6_init T sz x h Q := by
  unfold w_X6_init
  subst hz
  have a0 : Ag T T h h x := Ag_rf T h x
  have z0 : Z0 h x (x + 1) := fun a g1 g2 k => by rw [show a = x by omega]; exact hh k
  have t0 : T.1 x = some (.inl 6) := hT
  intro Ta ra za ha e1 e2 e3 e4
  subst e2
  subst e3
  subst e4
  subst e1
  refine x_land2 (nw1 _ _ _) rfl (fun k => zr0 _ _ _) (fun T1b h1 ag M zz => ?_)
  have E := stg_E (k := 0) ag (show x < x + 1 by omega)
  refine ⟨(E.1 x (by omega)).trans t0, fun T1 eT => ?_⟩
  rw [← eT] at E
  have t1 := (E.1 x (by omega)).trans t0
  have r0 := E.2.2.1
  have f_now : LI T1 (x + 1) 5 := LI_keep (T := T1b) (fun a g1 g2 => by rw [eT]; exact ⟨rfl, fun j => st2n (by omega)⟩) M
  have a1 : Ag T T1 h h1 x := Ag_tr a0 (by rw [eT]; exact Ag_tr (fun a ha => Ag_nw _ _ (x + 1) _ a (by omega)) (Ag_tr (fun a ha => ag a (by omega)) (Ag_st (Nat.le_refl x)) (Nat.le_refl x)) (Nat.le_refl x)) (Nat.le_refl x)
  have z1 : Z0 h1 x (x + 16) := fun a g1 g2 k => by
    by_cases c : a < x + 1
    · rw [E.2.2.2 a k c]; exact z0 a g1 c k
    · exact zz a (by omega) (by omega) k
  clear E ag zz M
  intro Ta ra za ha e1 e2 e3 e4
  subst e2
  subst e3
  subst e4
  subst e1
  refine x_land2 (nw1 _ _ _) rfl (fun k => zr0 _ _ _) (fun T2b h2 ag M zz => ?_)
  have E := stg_E (k := 1) ag (show x < x + 16 by omega)
  refine ⟨(E.1 x (by omega)).trans t1, fun T2 eT => ?_⟩
  rw [← eT] at E
  have t2 := (E.1 x (by omega)).trans t1
  have r0 := (E.2.1 x 0 (by omega) (by omega)).trans r0
  have f_now := LI_keep (fun a g1 g2 => ⟨E.1 a (by omega), fun j => E.2.1 a j (by omega) (by omega)⟩) f_now
  have r1 := E.2.2.1
  have f_img : LI T2 (x + 16) 5 := LI_keep (T := T2b) (fun a g1 g2 => by rw [eT]; exact ⟨rfl, fun j => st2n (by omega)⟩) M
  have a2 : Ag T T2 h h2 x := Ag_tr a1 (by rw [eT]; exact Ag_tr (fun a ha => Ag_nw _ _ (x + 16) _ a (by omega)) (Ag_tr (fun a ha => ag a (by omega)) (Ag_st (Nat.le_refl x)) (Nat.le_refl x)) (Nat.le_refl x)) (Nat.le_refl x)
  have z2 : Z0 h2 x (x + 31) := fun a g1 g2 k => by
    by_cases c : a < x + 16
    · rw [E.2.2.2 a k c]; exact z1 a g1 c k
    · exact zz a (by omega) (by omega) k
  clear E ag zz M
  intro Ta ra za ha e1 e2 e3 e4
  subst e2
  subst e3
  subst e4
  subst e1
  refine x_past2 (nw1 _ _ _) rfl (fun k => zr0 _ _ _) (fun T3b h3 ag M zz => ?_)
  have E := stg_E (k := 3) ag (show x < x + 31 by omega)
  refine ⟨(E.1 x (by omega)).trans t2, fun T3 eT => ?_⟩
  rw [← eT] at E
  have t3 := (E.1 x (by omega)).trans t2
  have r0 := (E.2.1 x 0 (by omega) (by omega)).trans r0
  have f_now := LI_keep (fun a g1 g2 => ⟨E.1 a (by omega), fun j => E.2.1 a j (by omega) (by omega)⟩) f_now
  have r1 := (E.2.1 x 1 (by omega) (by omega)).trans r1
  have f_img := LI_keep (fun a g1 g2 => ⟨E.1 a (by omega), fun j => E.2.1 a j (by omega) (by omega)⟩) f_img
  have r3 := E.2.2.1
  have f_past : PI_ T3 (x + 31) 8 := PI_keep (T := T3b) (fun a g1 g2 => by rw [eT]; exact ⟨rfl, fun j => st2n (by omega)⟩) M
  have a3 : Ag T T3 h h3 x := Ag_tr a2 (by rw [eT]; exact Ag_tr (fun a ha => Ag_nw _ _ (x + 31) _ a (by omega)) (Ag_tr (fun a ha => ag a (by omega)) (Ag_st (Nat.le_refl x)) (Nat.le_refl x)) (Nat.le_refl x)) (Nat.le_refl x)
  have z3 : Z0 h3 x (x + 153) := fun a g1 g2 k => by
    by_cases c : a < x + 31
    · rw [E.2.2.2 a k c]; exact z2 a g1 c k
    · exact zz a (by omega) (by omega) k
  clear E ag zz M
  intro Ta ra za ha e1 e2 e3 e4
  subst e2
  subst e3
  subst e4
  subst e1
  refine x_tale2 (nw1 _ _ _) rfl (fun k => zr0 _ _ _) (fun T4b h4 ag M zz => ?_)
  have E := stg_E (k := 4) ag (show x < x + 153 by omega)
  refine ⟨(E.1 x (by omega)).trans t3, fun T4 eT => ?_⟩
  rw [← eT] at E
  have t4 := (E.1 x (by omega)).trans t3
  have r0 := (E.2.1 x 0 (by omega) (by omega)).trans r0
  have f_now := LI_keep (fun a g1 g2 => ⟨E.1 a (by omega), fun j => E.2.1 a j (by omega) (by omega)⟩) f_now
  have r1 := (E.2.1 x 1 (by omega) (by omega)).trans r1
  have f_img := LI_keep (fun a g1 g2 => ⟨E.1 a (by omega), fun j => E.2.1 a j (by omega) (by omega)⟩) f_img
  have r3 := (E.2.1 x 3 (by omega) (by omega)).trans r3
  have f_past := PI_keep (fun a g1 g2 => ⟨E.1 a (by omega), fun j => E.2.1 a j (by omega) (by omega)⟩) f_past
  have r4 := E.2.2.1
  have f_tale : MG 4 fl4 sz4 T4 (x + 153) 3 := MG_keep (T := T4b) (fun a g1 g2 => by rw [eT]; exact ⟨rfl, fun j => st2n (by omega)⟩) M
  have a4 : Ag T T4 h h4 x := Ag_tr a3 (by rw [eT]; exact Ag_tr (fun a ha => Ag_nw _ _ (x + 153) _ a (by omega)) (Ag_tr (fun a ha => ag a (by omega)) (Ag_st (Nat.le_refl x)) (Nat.le_refl x)) (Nat.le_refl x)) (Nat.le_refl x)
  have z4 : Z0 h4 x (x + 157) := fun a g1 g2 k => by
    by_cases c : a < x + 153
    · rw [E.2.2.2 a k c]; exact z3 a g1 c k
    · exact zz a (by omega) (by omega) k
  clear E ag zz M
  intro Ta ra za ha e1 e2 e3 e4
  subst e2
  subst e3
  subst e4
  subst e1
  refine x_mind2 (nw1 _ _ _) rfl (fun k => zr0 _ _ _) (fun T5b h5 ag M zz => ?_)
  have E := stg_E (k := 5) ag (show x < x + 157 by omega)
  refine ⟨(E.1 x (by omega)).trans t4, fun T5 eT => ?_⟩
  rw [← eT] at E
  have t5 := (E.1 x (by omega)).trans t4
  have r0 := (E.2.1 x 0 (by omega) (by omega)).trans r0
  have f_now := LI_keep (fun a g1 g2 => ⟨E.1 a (by omega), fun j => E.2.1 a j (by omega) (by omega)⟩) f_now
  have r1 := (E.2.1 x 1 (by omega) (by omega)).trans r1
  have f_img := LI_keep (fun a g1 g2 => ⟨E.1 a (by omega), fun j => E.2.1 a j (by omega) (by omega)⟩) f_img
  have r3 := (E.2.1 x 3 (by omega) (by omega)).trans r3
  have f_past := PI_keep (fun a g1 g2 => ⟨E.1 a (by omega), fun j => E.2.1 a j (by omega) (by omega)⟩) f_past
  have r4 := (E.2.1 x 4 (by omega) (by omega)).trans r4
  have f_tale := MG_keep (fun a g1 g2 => ⟨E.1 a (by omega), fun j => E.2.1 a j (by omega) (by omega)⟩) f_tale
  have r5 := E.2.2.1
  have f_md : MD T5 (x + 157) := MD_keep (T := T5b) (fun a g1 g2 => by rw [eT]; exact ⟨rfl, fun j => st2n (by omega)⟩) M
  have a5 : Ag T T5 h h5 x := Ag_tr a4 (by rw [eT]; exact Ag_tr (fun a ha => Ag_nw _ _ (x + 157) _ a (by omega)) (Ag_tr (fun a ha => ag a (by omega)) (Ag_st (Nat.le_refl x)) (Nat.le_refl x)) (Nat.le_refl x)) (Nat.le_refl x)
  have z5 : Z0 h5 x (x + 175) := fun a g1 g2 k => by
    by_cases c : a < x + 157
    · rw [E.2.2.2 a k c]; exact z4 a g1 c k
    · exact zz a (by omega) (by omega) k
  clear E ag zz M
  intro Ta ra za ha e1 e2 e3 e4
  subst e2
  subst e3
  subst e4
  subst e1
  refine x_walk2 (nw1 _ _ _) rfl (fun k => zr0 _ _ _) (fun T6b h6 ag M zz => ?_)
  have E := stg_E (k := 6) ag (show x < x + 175 by omega)
  refine ⟨(E.1 x (by omega)).trans t5, fun T6 eT => ?_⟩
  rw [← eT] at E
  have t6 := (E.1 x (by omega)).trans t5
  have r0 := (E.2.1 x 0 (by omega) (by omega)).trans r0
  have f_now := LI_keep (fun a g1 g2 => ⟨E.1 a (by omega), fun j => E.2.1 a j (by omega) (by omega)⟩) f_now
  have r1 := (E.2.1 x 1 (by omega) (by omega)).trans r1
  have f_img := LI_keep (fun a g1 g2 => ⟨E.1 a (by omega), fun j => E.2.1 a j (by omega) (by omega)⟩) f_img
  have r3 := (E.2.1 x 3 (by omega) (by omega)).trans r3
  have f_past := PI_keep (fun a g1 g2 => ⟨E.1 a (by omega), fun j => E.2.1 a j (by omega) (by omega)⟩) f_past
  have r4 := (E.2.1 x 4 (by omega) (by omega)).trans r4
  have f_tale := MG_keep (fun a g1 g2 => ⟨E.1 a (by omega), fun j => E.2.1 a j (by omega) (by omega)⟩) f_tale
  have r5 := (E.2.1 x 5 (by omega) (by omega)).trans r5
  have f_md := MD_keep (fun a g1 g2 => ⟨E.1 a (by omega), fun j => E.2.1 a j (by omega) (by omega)⟩) f_md
  have r6 := E.2.2.1
  have f_walk : MG 5 fl5 sz5 T6 (x + 175) 2 := MG_keep (T := T6b) (fun a g1 g2 => by rw [eT]; exact ⟨rfl, fun j => st2n (by omega)⟩) M
  have a6 : Ag T T6 h h6 x := Ag_tr a5 (by rw [eT]; exact Ag_tr (fun a ha => Ag_nw _ _ (x + 175) _ a (by omega)) (Ag_tr (fun a ha => ag a (by omega)) (Ag_st (Nat.le_refl x)) (Nat.le_refl x)) (Nat.le_refl x)) (Nat.le_refl x)
  have z6 : Z0 h6 x (x + 178) := fun a g1 g2 k => by
    by_cases c : a < x + 175
    · rw [E.2.2.2 a k c]; exact z5 a g1 c k
    · exact zz a (by omega) (by omega) k
  clear E ag zz M
  intro Ta ra za ha e1 e2 e3 e4
  subst e2
  subst e3
  subst e4
  subst e1
  have ag := Ag_rf (nwT T6 (x + 178) (.inr (0, 12))) (zr h6 (x + 178)) (x + 178)
  have E := stg_E (k := 7) ag (show x < x + 178 by omega)
  refine ⟨(E.1 x (by omega)).trans t6, fun T7 eT => ?_⟩
  rw [← eT] at E
  have t7 := (E.1 x (by omega)).trans t6
  have r0 := (E.2.1 x 0 (by omega) (by omega)).trans r0
  have f_now := LI_keep (fun a g1 g2 => ⟨E.1 a (by omega), fun j => E.2.1 a j (by omega) (by omega)⟩) f_now
  have r1 := (E.2.1 x 1 (by omega) (by omega)).trans r1
  have f_img := LI_keep (fun a g1 g2 => ⟨E.1 a (by omega), fun j => E.2.1 a j (by omega) (by omega)⟩) f_img
  have r3 := (E.2.1 x 3 (by omega) (by omega)).trans r3
  have f_past := PI_keep (fun a g1 g2 => ⟨E.1 a (by omega), fun j => E.2.1 a j (by omega) (by omega)⟩) f_past
  have r4 := (E.2.1 x 4 (by omega) (by omega)).trans r4
  have f_tale := MG_keep (fun a g1 g2 => ⟨E.1 a (by omega), fun j => E.2.1 a j (by omega) (by omega)⟩) f_tale
  have r5 := (E.2.1 x 5 (by omega) (by omega)).trans r5
  have f_md := MD_keep (fun a g1 g2 => ⟨E.1 a (by omega), fun j => E.2.1 a j (by omega) (by omega)⟩) f_md
  have r6 := (E.2.1 x 6 (by omega) (by omega)).trans r6
  have f_walk := MG_keep (fun a g1 g2 => ⟨E.1 a (by omega), fun j => E.2.1 a j (by omega) (by omega)⟩) f_walk
  have r7 := E.2.2.1
  have f_row : T7.1 (x + 178) = some (.inr (0, 12)) := by rw [eT]; exact nw1 _ _ _
  have a7 : Ag T T7 h (zr h6 (x + 178)) x := Ag_tr a6 (by rw [eT]; exact Ag_tr (fun a ha => Ag_nw _ _ (x + 178) _ a (by omega)) (Ag_tr (fun a ha => ag a (by omega)) (Ag_st (Nat.le_refl x)) (Nat.le_refl x)) (Nat.le_refl x)) (Nat.le_refl x)
  have z7 : Z0 (zr h6 (x + 178)) x (x + 179) := Z0_zr z6
  clear E ag
  intro Ta ra za ha e1 e2 e3 e4
  subst e2
  subst e3
  subst e4
  subst e1
  have ag := Ag_rf (nwT T7 (x + 179) (.inr (0, 7))) (zr (zr h6 (x + 178)) (x + 179)) (x + 179)
  have E := stg_E (k := 9) ag (show x < x + 179 by omega)
  refine ⟨(E.1 x (by omega)).trans t7, fun T8 eT => ?_⟩
  rw [← eT] at E
  have t8 := (E.1 x (by omega)).trans t7
  have r0 := (E.2.1 x 0 (by omega) (by omega)).trans r0
  have f_now := LI_keep (fun a g1 g2 => ⟨E.1 a (by omega), fun j => E.2.1 a j (by omega) (by omega)⟩) f_now
  have r1 := (E.2.1 x 1 (by omega) (by omega)).trans r1
  have f_img := LI_keep (fun a g1 g2 => ⟨E.1 a (by omega), fun j => E.2.1 a j (by omega) (by omega)⟩) f_img
  have r3 := (E.2.1 x 3 (by omega) (by omega)).trans r3
  have f_past := PI_keep (fun a g1 g2 => ⟨E.1 a (by omega), fun j => E.2.1 a j (by omega) (by omega)⟩) f_past
  have r4 := (E.2.1 x 4 (by omega) (by omega)).trans r4
  have f_tale := MG_keep (fun a g1 g2 => ⟨E.1 a (by omega), fun j => E.2.1 a j (by omega) (by omega)⟩) f_tale
  have r5 := (E.2.1 x 5 (by omega) (by omega)).trans r5
  have f_md := MD_keep (fun a g1 g2 => ⟨E.1 a (by omega), fun j => E.2.1 a j (by omega) (by omega)⟩) f_md
  have r6 := (E.2.1 x 6 (by omega) (by omega)).trans r6
  have f_walk := MG_keep (fun a g1 g2 => ⟨E.1 a (by omega), fun j => E.2.1 a j (by omega) (by omega)⟩) f_walk
  have r7 := (E.2.1 x 7 (by omega) (by omega)).trans r7
  have f_row := (E.1 (x + 178) (by omega)).trans f_row
  have r9 := E.2.2.1
  have f_ref : T8.1 (x + 179) = some (.inr (0, 7)) := by rw [eT]; exact nw1 _ _ _
  have a8 : Ag T T8 h (zr (zr h6 (x + 178)) (x + 179)) x := Ag_tr a7 (by rw [eT]; exact Ag_tr (fun a ha => Ag_nw _ _ (x + 179) _ a (by omega)) (Ag_tr (fun a ha => ag a (by omega)) (Ag_st (Nat.le_refl x)) (Nat.le_refl x)) (Nat.le_refl x)) (Nat.le_refl x)
  have z8 : Z0 (zr (zr h6 (x + 178)) (x + 179)) x (x + 180) := Z0_zr z7
  clear E ag
  exact hQ _ _ a8 ⟨t8, ⟨r0, r1, r3, r4, r5, r6, r7, r9⟩, f_now, f_img, f_past, f_tale, f_md, f_walk, f_row, f_ref⟩ z8
