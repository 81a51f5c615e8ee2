/-! PURE: what the constructors make -/
def H2 (T : St2) (a : Nat) : Prop := T.1 a = some (.inl 0) ∧ T.2 a 2 = some (a + 1) ∧ T.1 (a + 1) = some (.inr (0, 6))
def Ag (T T' : St2) (h h' : Hp) (b : Nat) : Prop := ∀ a, a < b → T'.1 a = T.1 a ∧ (∀ k, T'.2 a k = T.2 a k) ∧ ∀ k, h' a k = h a k
def Z0 (h : Hp) (b c : Nat) : Prop := ∀ a, b ≤ a → a < c → ∀ k, h a k = nI 0
def Eq2 (T T' : St2) (b c : Nat) : Prop := ∀ a, b ≤ a → a < c → T'.1 a = T.1 a ∧ ∀ k, T'.2 a k = T.2 a k
theorem Ag_rf (T : St2) (h : Hp) (b : Nat) : Ag T T h h b := fun _ _ => ⟨rfl, fun _ => rfl, fun _ => rfl⟩
theorem Ag_tr {T T1 T2 : St2} {h h1 h2 : Hp} {b c : Nat} (f : Ag T T1 h h1 b) (g : Ag T1 T2 h1 h2 c) (hc : b ≤ c) : Ag T T2 h h2 b := fun a ha => ⟨((g a (by omega)).1).trans (f a ha).1, fun k => ((g a (by omega)).2.1 k).trans ((f a ha).2.1 k), fun k => ((g a (by omega)).2.2 k).trans ((f a ha).2.2 k)⟩
theorem Ag_nw (T : St2) (h : Hp) (b : Nat) (y : Nat ⊕ (Nat × Nat)) : Ag T (nwT T b y) h (zr h b) b := fun a ha => by
  have e : a ≠ b := by omega
  exact ⟨by simp [nwT, e], fun k => by simp [nwT, e], fun k => by simp [zr, e]⟩
theorem Ag_st {T : St2} {h : Hp} {b c k r : Nat} (hc : b ≤ c) : Ag T (stR T c k r) h h b := fun a ha => by
  have e : a ≠ c := by omega
  exact ⟨rfl, fun k => by simp [stR, e], fun k => rfl⟩
theorem nw1 (T : St2) (b : Nat) (y : Nat ⊕ (Nat × Nat)) : (nwT T b y).1 b = some y := by simp [nwT]
theorem nw1n {T : St2} {a b : Nat} {y : Nat ⊕ (Nat × Nat)} (e : a ≠ b) : (nwT T b y).1 a = T.1 a := by simp [nwT, e]
theorem nw2n {T : St2} {a b : Nat} {y : Nat ⊕ (Nat × Nat)} (e : a ≠ b) (k : Nat) : (nwT T b y).2 a k = T.2 a k := by simp [nwT, e]
theorem st2 (T : St2) (a k r : Nat) : (stR T a k r).2 a k = some r := by simp [stR]
theorem st2n {T : St2} {a k r b j : Nat} (e : ¬ (b = a ∧ j = k)) : (stR T a k r).2 b j = T.2 b j := by simp [stR, e]
theorem zr0 (h : Hp) (a k : Nat) : zr h a a k = nI 0 := by simp [zr]
theorem zrn {h : Hp} {a b : Nat} (e : b ≠ a) (k : Nat) : zr h a b k = h b k := by simp [zr, e]
theorem Z0_zr {h : Hp} {b c : Nat} (z : Z0 h b c) : Z0 (zr h c) b (c + 1) := fun a h1 h2 k => by
  by_cases e : a = c
  · rw [e, zr0]
  · rw [zrn e]; exact z a h1 (by omega) k
theorem Z0_ag {T T' : St2} {h h' : Hp} {b c d : Nat} (f : Ag T T' h h' c) (z : Z0 h b c) (w : Z0 h' c d) : Z0 h' b d := fun a h1 h2 k => by
  by_cases e : a < c
  · rw [(f a e).2.2 k]; exact z a h1 e k
  · exact w a (by omega) h2 k
theorem Eq2_ag {T T' : St2} {h h' : Hp} {b c : Nat} (f : Ag T T' h h' c) : Eq2 T T' b c := fun a _ h2 => ⟨(f a h2).1, (f a h2).2.1⟩
theorem x_head2 {T : St2} {h : Hp} {sz b : Nat} (hT : T.1 b = some (.inl 0)) (hz : sz = b + 1) (hh : ∀ k, h b k = nI 0) {Q : St2 → Nat → Hp → Prop} (hQ : ∀ T' h', Ag T T' h h' b → H2 T' b → Z0 h' b (b + 2) → Q T' (b + 2) h') : w_X0_init T sz b h Q := by
  unfold w_X0_init
  intro T1 r z h1 e1 e2 e3 e4
  subst hz
  subst e2
  subst e3
  subst e4
  subst e1
  refine ⟨by rw [nw1n (by omega)]; exact hT, fun T2 e5 => ?_⟩
  subst e5
  refine hQ _ _ (Ag_tr (fun a ha => Ag_nw T h (b + 1) _ a (by omega)) (Ag_st (Nat.le_refl b)) (Nat.le_refl b)) ⟨?_, ?_, ?_⟩ (fun a h1 h2 k => ?_)
  · show (nwT T (b + 1) _).1 b = _
    rw [nw1n (by omega)]; exact hT
  · exact st2 _ _ _ _
  · exact nw1 _ _ _
  · by_cases e : a = b + 1
    · rw [e, zr0]
    · rw [zrn e, show a = b by omega]; exact hh k
def LI (T : St2) (b n : Nat) : Prop := T.1 b = some (.inl 1) ∧ (T.2 b 0 = some (b + 1) ∧ T.2 b 1 = some (b + 2) ∧ T.2 b 2 = some (b + 3) ∧ T.2 b 3 = some (b + 4)) ∧ (T.1 (b + 1) = some (.inr (0, 48)) ∧ T.1 (b + 2) = some (.inr (0, 48)) ∧ T.1 (b + 3) = some (.inr (0, 48)) ∧ T.1 (b + 4) = some (.inr (1, 5))) ∧ ∀ i, i < n → T.2 (b + 4) i = some (b + (5 + 2 * i)) ∧ H2 T (b + (5 + 2 * i))
theorem LI_keep {T T' : St2} {b n : Nat} (e : Eq2 T T' b (b + (5 + 2 * n))) (L : LI T b n) : LI T' b n := by
  obtain ⟨l1, ⟨l2, l3, l4, l5⟩, ⟨l6, l7, l8, l9⟩, l10⟩ := L
  have e1 : ∀ j, j < 5 + 2 * n → T'.1 (b + j) = T.1 (b + j) := fun j hj => (e (b + j) (by omega) (by omega)).1
  have e2 : ∀ j k, j < 5 + 2 * n → T'.2 (b + j) k = T.2 (b + j) k := fun j k hj => (e (b + j) (by omega) (by omega)).2 k
  have f2 : ∀ k, T'.2 b k = T.2 b k := fun k => (e b (by omega) (by omega)).2 k
  refine ⟨((e b (by omega) (by omega)).1).trans l1, ⟨(f2 0).trans l2, (f2 1).trans l3, (f2 2).trans l4, (f2 3).trans l5⟩, ⟨(e1 1 (by omega)).trans l6, (e1 2 (by omega)).trans l7, (e1 3 (by omega)).trans l8, (e1 4 (by omega)).trans l9⟩, fun i hi => ?_⟩
  obtain ⟨m1, m2, m3, m4⟩ := l10 i hi
  exact ⟨(e2 4 i (by omega)).trans m1, (e1 _ (by omega)).trans m2, (e2 _ 2 (by omega)).trans m3, ((e (b + (5 + 2 * i) + 1) (by omega) (by omega)).1).trans m4⟩
def stgL (T : St2) (z b : Nat) (h : Hp) (j : Nat) (K : St2 → Nat → Hp → Prop) : Prop := T.1 b = some (.inl 1) ∧ (∃ r3, T.2 b 3 = some r3 ∧ (∀ (T1 : St2) (r z1 : Nat) (h1 : Hp), T1 = nwT T z (.inl 0) → r = z → z1 = z + 1 → h1 = zr h z → (w_X0_init T1 z1 r h1 (fun T2 z2 h2 => (∃ n, T2.1 r3 = some (.inr (1, n)) ∧ j < n ∧ n < 2 ^ 31 ∧ T2.1 r = some (.inl 0) ∧ (∀ (T3 : St2), T3 = stR T2 r3 j r → (K T3 z2 h2)))))))
theorem x_stgL {T0 T : St2} {h0 h : Hp} {z b n : Nat} (L : LI T b n) (A0 : Ag T0 T h0 h b) (hZ : Z0 h b (b + (5 + 2 * n))) (hn : n < 5) (hz : z = b + (5 + 2 * n)) {K : St2 → Nat → Hp → Prop} (hK : ∀ T' h', LI T' b (n + 1) → Ag T0 T' h0 h' b → Z0 h' b (b + (5 + 2 * (n + 1))) → K T' (b + (5 + 2 * (n + 1))) h') : stgL T z b h n K := by
  refine ⟨L.1, b + 4, L.2.1.2.2.2, fun T1 r z1 h1 e1 e2 e3 e4 => ?_⟩
  subst hz
  subst e2
  subst e3
  subst e4
  subst e1
  refine x_head2 (nw1 _ _ _) rfl (fun k => zr0 _ _ _) (fun T' h' ag hd zz => ?_)
  have ag1 : Ag T T' h h' (b + (5 + 2 * n)) := Ag_tr (Ag_nw T h (b + (5 + 2 * n)) (.inl 0)) ag (Nat.le_refl _)
  have L1 : LI T' b n := LI_keep (Eq2_ag ag1) L
  refine ⟨5, L1.2.2.1.2.2.2, hn, by decide, hd.1, fun T3 e5 => ?_⟩
  subst e5
  have ez : b + (5 + 2 * (n + 1)) = b + (5 + 2 * n) + 2 := by omega
  rw [← ez]
  refine hK _ _ ?_ (Ag_tr A0 (Ag_tr (fun a ha => ag1 a (by omega)) (Ag_st (by omega)) (Nat.le_refl b)) (Nat.le_refl b)) (by rw [ez]; exact Z0_ag ag1 hZ zz)
  obtain ⟨l1, ⟨l2, l3, l4, l5⟩, l6, l10⟩ := L1
  have s : ∀ a k, a ≠ b + 4 → (stR T' (b + 4) n (b + (5 + 2 * n))).2 a k = T'.2 a k := fun a k ha => st2n (by omega)
  refine ⟨l1, ⟨(s b 0 (by omega)).trans l2, (s b 1 (by omega)).trans l3, (s b 2 (by omega)).trans l4, (s b 3 (by omega)).trans l5⟩, l6, fun i hi => ?_⟩
  by_cases c : i = n
  · subst c
    exact ⟨st2 _ _ _ _, hd.1, (s _ 2 (by omega)).trans hd.2.1, hd.2.2⟩
  · obtain ⟨m1, m2, m3, m4⟩ := l10 i (by omega)
    exact ⟨(st2n (by omega)).trans m1, m2, (s _ 2 (by omega)).trans m3, m4⟩
theorem x_land2 {T : St2} {h : Hp} {sz b : Nat} (hT : T.1 b = some (.inl 1)) (hz : sz = b + 1) (hh : ∀ k, h b k = nI 0) {Q : St2 → Nat → Hp → Prop} (hQ : ∀ T' h', Ag T T' h h' b → LI T' b 5 → Z0 h' b (b + 15) → Q T' (b + 15) h') : w_X1_init T sz b h Q := by
  unfold w_X1_init
  subst hz
  intro T1 r1 z1 h1 e1 e2 e3 e4
  subst e2
  subst e3
  have k1 : T1.1 b = some (.inl 1) := by rw [e1, nw1n (by omega)]; exact hT
  refine ⟨k1, fun T2 f1 => ?_⟩
  intro T3 r3 z3 h3 e31 e32 e33 e34
  subst e32
  subst e33
  have k3 : T3.1 b = some (.inl 1) := by rw [e31, nw1n (by omega), f1]; exact k1
  refine ⟨k3, fun T4 f3 => ?_⟩
  intro T5 r5 z5 h5 e51 e52 e53 e54
  subst e52
  subst e53
  have k5 : T5.1 b = some (.inl 1) := by rw [e51, nw1n (by omega), f3]; exact k3
  refine ⟨k5, fun T6 f5 => ?_⟩
  intro T7 r7 z7 h7 e71 e72 e73 e74
  subst e72
  subst e73
  have k7 : T7.1 b = some (.inl 1) := by rw [e71, nw1n (by omega), f5]; exact k5
  refine ⟨k7, fun T8 f7 => ?_⟩
  have a1 : Ag T T8 h h7 b := by
    rw [f7, e71, f5, e51, f3, e31, f1, e1, e74, e54, e34, e4]
    exact Ag_tr (fun a ha => Ag_nw T h (b + 1) _ a (by omega)) (Ag_tr (Ag_st (Nat.le_refl b)) (Ag_tr (fun a ha => Ag_nw _ _ (b + 1 + 1) _ a (by omega)) (Ag_tr (Ag_st (Nat.le_refl b)) (Ag_tr (fun a ha => Ag_nw _ _ (b + 1 + 1 + 1) _ a (by omega)) (Ag_tr (Ag_st (Nat.le_refl b)) (Ag_tr (fun a ha => Ag_nw _ _ (b + 1 + 1 + 1 + 1) _ a (by omega)) (Ag_st (Nat.le_refl b)) (Nat.le_refl b)) (Nat.le_refl b)) (Nat.le_refl b)) (Nat.le_refl b)) (Nat.le_refl b)) (Nat.le_refl b)) (Nat.le_refl b)
  have z0 : Z0 h7 b (b + (5 + 2 * 0)) := by
    rw [e74, e54, e34, e4]
    have s0 : Z0 h b (b + 1) := fun a g1 g2 k => by rw [show a = b by omega]; exact hh k
    exact Z0_zr (Z0_zr (Z0_zr (Z0_zr s0)))
  have L0 : LI T8 b 0 := by
    refine ⟨by rw [f7]; exact k7, ⟨?_, ?_, ?_, ?_⟩, ⟨?_, ?_, ?_, ?_⟩, fun i hi => absurd hi (by omega)⟩
    · rw [f7, st2n (by omega), e71, nw2n (by omega), f5, st2n (by omega), e51, nw2n (by omega), f3, st2n (by omega), e31, nw2n (by omega), f1, st2]
    · rw [f7, st2n (by omega), e71, nw2n (by omega), f5, st2n (by omega), e51, nw2n (by omega), f3, st2]
    · rw [f7, st2n (by omega), e71, nw2n (by omega), f5, st2]
    · rw [f7, st2]
    · rw [f7]
      show T7.1 _ = _
      rw [e71, nw1n (by omega), f5]
      show T5.1 _ = _
      rw [e51, nw1n (by omega), f3]
      show T3.1 _ = _
      rw [e31, nw1n (by omega), f1]
      show T1.1 _ = _
      rw [e1, nw1]
    · rw [f7]
      show T7.1 _ = _
      rw [e71, nw1n (by omega), f5]
      show T5.1 _ = _
      rw [e51, nw1n (by omega), f3]
      show T3.1 _ = _
      rw [e31, nw1]
    · rw [f7]
      show T7.1 _ = _
      rw [e71, nw1n (by omega), f5]
      show T5.1 _ = _
      rw [e51, nw1]
    · rw [f7]
      show T7.1 _ = _
      rw [e71, nw1]
  refine x_stgL L0 a1 z0 (by decide) (by omega) (fun T9 h9 L1 A1 Z1 => ?_)
  refine x_stgL L1 A1 Z1 (by decide) (by omega) (fun T9 h9 L1 A1 Z1 => ?_)
  refine x_stgL L1 A1 Z1 (by decide) (by omega) (fun T9 h9 L1 A1 Z1 => ?_)
  refine x_stgL L1 A1 Z1 (by decide) (by omega) (fun T9 h9 L1 A1 Z1 => ?_)
  refine x_stgL L1 A1 Z1 (by decide) (by omega) (fun T9 h9 L1 A1 Z1 => ?_)
  exact hQ T9 h9 A1 L1 Z1
def PI_ (T : St2) (b n : Nat) : Prop := T.1 b = some (.inl 3) ∧ T.2 b 0 = some (b + 1) ∧ T.1 (b + 1) = some (.inr (2, 8)) ∧ ∀ j, j < n → T.2 (b + 1) j = some (b + (2 + 15 * j)) ∧ LI T (b + (2 + 15 * j)) 5
theorem PI_keep {T T' : St2} {b n : Nat} (e : Eq2 T T' b (b + (2 + 15 * n))) (L : PI_ T b n) : PI_ T' b n := by
  obtain ⟨l1, l2, l3, l4⟩ := L
  refine ⟨((e b (by omega) (by omega)).1).trans l1, ((e b (by omega) (by omega)).2 0).trans l2, ((e (b + 1) (by omega) (by omega)).1).trans l3, fun j hj => ?_⟩
  obtain ⟨m1, m2⟩ := l4 j hj
  exact ⟨((e (b + 1) (by omega) (by omega)).2 j).trans m1, LI_keep (fun a g1 g2 => e a (by omega) (by omega)) m2⟩
def stgP (T : St2) (z b : Nat) (h : Hp) (j : Nat) (K : St2 → Nat → Hp → Prop) : Prop := T.1 b = some (.inl 3) ∧ (∃ r3, T.2 b 0 = some r3 ∧ (∀ (T1 : St2) (r z1 : Nat) (h1 : Hp), T1 = nwT T z (.inl 1) → r = z → z1 = z + 1 → h1 = zr h z → (w_X1_init T1 z1 r h1 (fun T2 z2 h2 => (∃ n, T2.1 r3 = some (.inr (2, n)) ∧ j < n ∧ n < 2 ^ 31 ∧ T2.1 r = some (.inl 1) ∧ (∀ (T3 : St2), T3 = stR T2 r3 j r → (K T3 z2 h2)))))))
theorem x_stgP {T0 T : St2} {h0 h : Hp} {z b n : Nat} (L : PI_ T b n) (A0 : Ag T0 T h0 h b) (hZ : Z0 h b (b + (2 + 15 * n))) (hn : n < 8) (hz : z = b + (2 + 15 * n)) {K : St2 → Nat → Hp → Prop} (hK : ∀ T' h', PI_ T' b (n + 1) → Ag T0 T' h0 h' b → Z0 h' b (b + (2 + 15 * (n + 1))) → K T' (b + (2 + 15 * (n + 1))) h') : stgP T z b h n K := by
  refine ⟨L.1, b + 1, L.2.1, fun T1 r z1 h1 e1 e2 e3 e4 => ?_⟩
  subst hz
  subst e2
  subst e3
  subst e4
  subst e1
  refine x_land2 (nw1 _ _ _) rfl (fun k => zr0 _ _ _) (fun T' h' ag hd zz => ?_)
  have ag1 : Ag T T' h h' (b + (2 + 15 * n)) := Ag_tr (Ag_nw T h (b + (2 + 15 * n)) (.inl 1)) ag (Nat.le_refl _)
  have L1 : PI_ T' b n := PI_keep (Eq2_ag ag1) L
  refine ⟨8, L1.2.2.1, hn, by decide, hd.1, fun T3 e5 => ?_⟩
  subst e5
  have ez : b + (2 + 15 * (n + 1)) = b + (2 + 15 * n) + 15 := by omega
  rw [← ez]
  refine hK _ _ ?_ (Ag_tr A0 (Ag_tr (fun a ha => ag1 a (by omega)) (Ag_st (by omega)) (Nat.le_refl b)) (Nat.le_refl b)) (by rw [ez]; exact Z0_ag ag1 hZ zz)
  obtain ⟨l1, l2, l3, l4⟩ := L1
  have s : ∀ a k, a ≠ b + 1 → (stR T' (b + 1) n (b + (2 + 15 * n))).2 a k = T'.2 a k := fun a k ha => st2n (by omega)
  refine ⟨l1, (s b 0 (by omega)).trans l2, l3, fun j hj => ?_⟩
  by_cases c : j = n
  · subst c
    exact ⟨st2 _ _ _ _, LI_keep (T := T') (fun a g1 g2 => ⟨rfl, fun k => s a k (by omega)⟩) hd⟩
  · obtain ⟨m1, m2⟩ := l4 j (by omega)
    exact ⟨(st2n (by omega)).trans m1, LI_keep (T := T') (fun a g1 g2 => ⟨rfl, fun k => s a k (by omega)⟩) m2⟩
theorem x_past2 {T : St2} {h : Hp} {sz b : Nat} (hT : T.1 b = some (.inl 3)) (hz : sz = b + 1) (hh : ∀ k, h b k = nI 0) {Q : St2 → Nat → Hp → Prop} (hQ : ∀ T' h', Ag T T' h h' b → PI_ T' b 8 → Z0 h' b (b + 122) → Q T' (b + 122) h') : w_X3_init T sz b h Q := by
  unfold w_X3_init
  subst hz
  intro T1 r1 z1 h1 e1 e2 e3 e4
  subst e2
  subst e3
  have k1 : T1.1 b = some (.inl 3) := by rw [e1, nw1n (by omega)]; exact hT
  refine ⟨k1, fun T2 f1 => ?_⟩
  have a1 : Ag T T2 h h1 b := by
    rw [f1, e1, e4]
    exact Ag_tr (fun a ha => Ag_nw T h (b + 1) _ a (by omega)) (Ag_st (Nat.le_refl b)) (Nat.le_refl b)
  have z0 : Z0 h1 b (b + (2 + 15 * 0)) := by
    rw [e4]
    have s0 : Z0 h b (b + 1) := fun a g1 g2 k => by rw [show a = b by omega]; exact hh k
    exact Z0_zr s0
  have L0 : PI_ T2 b 0 := by
    refine ⟨by rw [f1]; exact k1, by rw [f1, st2], ?_, fun i hi => absurd hi (by omega)⟩
    rw [f1]
    show T1.1 _ = _
    rw [e1, nw1]
  refine x_stgP L0 a1 z0 (by decide) (by omega) (fun T9 h9 L1 A1 Z1 => ?_)
  refine x_stgP L1 A1 Z1 (by decide) (by omega) (fun T9 h9 L1 A1 Z1 => ?_)
  refine x_stgP L1 A1 Z1 (by decide) (by omega) (fun T9 h9 L1 A1 Z1 => ?_)
  refine x_stgP L1 A1 Z1 (by decide) (by omega) (fun T9 h9 L1 A1 Z1 => ?_)
  refine x_stgP L1 A1 Z1 (by decide) (by omega) (fun T9 h9 L1 A1 Z1 => ?_)
  refine x_stgP L1 A1 Z1 (by decide) (by omega) (fun T9 h9 L1 A1 Z1 => ?_)
  refine x_stgP L1 A1 Z1 (by decide) (by omega) (fun T9 h9 L1 A1 Z1 => ?_)
  refine x_stgP L1 A1 Z1 (by decide) (by omega) (fun T9 h9 L1 A1 Z1 => ?_)
  exact hQ T9 h9 A1 L1 Z1
