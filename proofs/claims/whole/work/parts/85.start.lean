/-! PURE: the first state -/
def CmpAt (T : St2) (a : Nat) (y : Nat ⊕ (Nat × Nat)) : Prop := (∀ ci, y = .inl ci → ∀ k, rfs ci k = true → T.2 a k ≠ none) ∧ ∀ t n, y = .inr (t, n) → (t = 1 ∨ t = 2) → ∀ j, j < n → T.2 a j ≠ none
noncomputable def fromT (T : St2) : St := (fun a => match T.1 a with
  | some y => @ite _ (CmpAt T a y) (Classical.propDecidable _) (some y) none
  | none => none, fun a k => (T.2 a k).getD 0)
theorem from1 {T : St2} {a : Nat} {y : Nat ⊕ (Nat × Nat)} (h : T.1 a = some y) (c : CmpAt T a y) : (fromT T).1 a = some y := by
  unfold fromT
  simp only [h]
  exact if_pos c
theorem from2 {T : St2} {a k v : Nat} (h : T.2 a k = some v) : (fromT T).2 a k = v := by simp [fromT, h]
theorem from_cmp (T : St2) : Cmp (fromT T) T := by
  intro a x hx
  have g : T.1 a = some x ∧ CmpAt T a x := by
    unfold fromT at hx
    cases hy : T.1 a with
    | none => simp [hy] at hx
    | some y =>
      simp only [hy] at hx
      by_cases c : CmpAt T a y
      · rw [if_pos c] at hx
        cases hx
        exact ⟨rfl, c⟩
      · rw [if_neg c] at hx
        cases hx
  refine ⟨g.1, fun ci e k hk => ?_, fun t n e ht j hj => ?_⟩
  · have := g.2.1 ci e k hk
    cases hv : T.2 a k with
    | none => exact absurd hv this
    | some v => rw [from2 hv]
  · have := g.2.2 t n e ht j hj
    cases hv : T.2 a j with
    | none => exact absurd hv this
    | some v => rw [from2 hv]
theorem cm_i {T : St2} {a n : Nat} (h : T.1 a = some (.inr (0, n))) : (fromT T).1 a = some (.inr (0, n)) := from1 h ⟨fun ci e => (by cases e), fun t m e ht => by cases e; omega⟩
theorem cm_q {T : St2} {a t n : Nat} (h : T.1 a = some (.inr (t, n))) (c : ∀ j, j < n → ∃ v, T.2 a j = some v) : (fromT T).1 a = some (.inr (t, n)) := from1 h ⟨fun ci e => (by cases e), fun t' m e ht j hj => (by
  cases e
  obtain ⟨v, hv⟩ := c j hj
  rw [hv]; exact fun q => by cases q)⟩
theorem cm_o {T : St2} {a ci : Nat} (h : T.1 a = some (.inl ci)) (c : ∀ k, rfs ci k = true → ∃ v, T.2 a k = some v) : (fromT T).1 a = some (.inl ci) := from1 h ⟨fun ci' e k hk => (by
  cases e
  obtain ⟨v, hv⟩ := c k hk
  rw [hv]; exact fun q => by cases q), fun t m e => (by cases e)⟩
theorem from_L {T : St2} {b : Nat} (L : LI T b 5) : LayL (fromT T) b := by
  obtain ⟨l1, ⟨l2, l3, l4, l5⟩, ⟨l6, l7, l8, l9⟩, l10⟩ := L
  refine ⟨cm_o l1 (fun k hk => ?_), ⟨from2 l2, from2 l3, from2 l4, from2 l5⟩, ⟨cm_i l6, cm_i l7, cm_i l8, cm_q l9 (fun j hj => ⟨_, (l10 j hj).1⟩)⟩, fun i hi => ?_⟩
  · have hk : k < 4 := by simpa [rfs, Nat.blt_eq] using hk
    rcases (show k = 0 ∨ k = 1 ∨ k = 2 ∨ k = 3 by omega) with rfl | rfl | rfl | rfl
    · exact ⟨_, l2⟩
    · exact ⟨_, l3⟩
    · exact ⟨_, l4⟩
    · exact ⟨_, l5⟩
  · obtain ⟨m1, m2, m3, m4⟩ := l10 i hi
    refine ⟨from2 m1, cm_o m2 (fun k hk => ?_), from2 m3, cm_i m4⟩
    have hk : k = 2 := Nat.eq_of_beq_eq_true hk
    subst hk
    exact ⟨_, m3⟩
theorem from_X {T : St2} {x : Nat} (X : X6I T x) : LayX (fromT T) x := by
  obtain ⟨t, ⟨r0, r1, r3, r4, r5, r6, r7, r9⟩, fn, fi, fp, ft, ⟨⟨m1, m2⟩, fm, ⟨o1, o2⟩, u1, u2⟩, fw, fr, ff⟩ := X
  obtain ⟨p1, p2, p3, p4⟩ := fp
  have t0 := ft.2 0 (by decide)
  have t1 := ft.2 1 (by decide)
  have t2 := ft.2 2 (by decide)
  have w0 := fw.2 0 (by decide)
  have w1 := fw.2 1 (by decide)
  refine ⟨⟨cm_o t (fun k hk => ?_), from2 r0, from2 r1, from2 r3, from2 r4, from2 r5, from2 r6, from2 r7, from2 r9⟩, ⟨from_L fn, from_L fi, from_L fm, fun j hj => ⟨?_, ?_⟩⟩, ⟨cm_o p1 (fun k hk => ?_), from2 p2, cm_q p3 (fun j hj => ⟨_, (p4 j hj).1⟩)⟩, ⟨cm_o ft.1 (fun k hk => ?_), from2 t0.2, from2 t1.2, from2 t2.2, cm_i t0.1, cm_i t1.1, cm_i t2.1⟩, ⟨cm_o m1 (fun k hk => ?_), from2 m2⟩, ⟨cm_o fw.1 (fun k hk => ?_), from2 w0.2, from2 w1.2, cm_i w0.1, cm_i w1.1⟩, cm_i fr, cm_i ff, from2 o2, from2 u2, cm_i o1, cm_i u1⟩
  · have hk : k = 0 ∨ k = 1 ∨ k = 3 ∨ k = 4 ∨ k = 5 ∨ k = 6 ∨ k = 7 ∨ k = 9 := by
      simp [rfs, Nat.blt_eq] at hk
      omega
    rcases hk with rfl | rfl | rfl | rfl | rfl | rfl | rfl | rfl
    · exact ⟨_, r0⟩
    · exact ⟨_, r1⟩
    · exact ⟨_, r3⟩
    · exact ⟨_, r4⟩
    · exact ⟨_, r5⟩
    · exact ⟨_, r6⟩
    · exact ⟨_, r7⟩
    · exact ⟨_, r9⟩
  · have := (p4 j hj).2
    rw [show x + 31 + (2 + 15 * j) = x + (33 + 15 * j) by omega] at this
    exact from_L this
  · have := (p4 j hj).1
    rw [show x + 31 + (2 + 15 * j) = x + (33 + 15 * j) by omega] at this
    exact from2 this
  · have hk : k = 0 := Nat.eq_of_beq_eq_true hk
    subst hk
    exact ⟨_, p2⟩
  · have hk : k = 0 ∨ k = 2 ∨ k = 3 := by
      simp [rfs] at hk
      omega
    rcases hk with rfl | rfl | rfl
    · exact ⟨_, t0.2⟩
    · exact ⟨_, t1.2⟩
    · exact ⟨_, t2.2⟩
  · have hk : k < 3 := by simpa [rfs, Nat.blt_eq] using hk
    rcases (show k = 0 ∨ k = 1 ∨ k = 2 by omega) with rfl | rfl | rfl
    · exact ⟨_, m2⟩
    · exact ⟨_, o2⟩
    · exact ⟨_, u2⟩
  · have hk : k < 2 := by simpa [rfs, Nat.blt_eq] using hk
    rcases (show k = 0 ∨ k = 1 by omega) with rfl | rfl
    · exact ⟨_, w0.2⟩
    · exact ⟨_, w1.2⟩
theorem from_M {T : St2} {m : Nat} (M : MG 7 fl7 sz7 T m 23) : LayM (fromT T) m := by
  have g : ∀ i, i < 23 → (fromT T).1 (m + (1 + i)) = some (.inr (0, sz7 i)) ∧ (fromT T).2 m (fl7 i) = m + (1 + i) := fun i hi => ⟨cm_i (M.2 i hi).1, from2 (M.2 i hi).2⟩
  have R : ∀ k, rfs 7 k = true → ∃ i, i < 23 ∧ fl7 i = k := by
    intro k hk
    have hk : k < 13 ∨ (15 < k ∧ k < 22) ∨ k = 25 ∨ k = 31 ∨ k = 33 ∨ k = 34 := by
      simp [rfs, Nat.blt_eq] at hk
      omega
    rcases hk with h | h | h | h | h | h
    · exact ⟨k, by omega, by simp [fl7, h]⟩
    · refine ⟨k - 3, by omega, ?_⟩
      have h1 : ¬ k - 3 < 13 := by omega
      have h2 : k - 3 < 19 := by omega
      simp only [fl7, if_neg h1, if_pos h2]; omega
    · exact ⟨19, by decide, by rw [h]; decide⟩
    · exact ⟨20, by decide, by rw [h]; decide⟩
    · exact ⟨21, by decide, by rw [h]; decide⟩
    · exact ⟨22, by decide, by rw [h]; decide⟩
  refine ⟨cm_o M.1 (fun k hk => ?_), ⟨(g 0 (by decide)).2, (g 0 (by decide)).1⟩, ⟨(g 1 (by decide)).2, (g 1 (by decide)).1⟩, ⟨(g 2 (by decide)).2, (g 2 (by decide)).1⟩, ⟨(g 3 (by decide)).2, (g 3 (by decide)).1⟩, ⟨(g 4 (by decide)).2, (g 4 (by decide)).1⟩, ⟨(g 5 (by decide)).2, (g 5 (by decide)).1⟩, ⟨(g 6 (by decide)).2, (g 6 (by decide)).1⟩, ⟨(g 7 (by decide)).2, (g 7 (by decide)).1⟩, ⟨(g 8 (by decide)).2, (g 8 (by decide)).1⟩, ⟨(g 9 (by decide)).2, (g 9 (by decide)).1⟩, ⟨(g 10 (by decide)).2, (g 10 (by decide)).1⟩, ⟨(g 11 (by decide)).2, (g 11 (by decide)).1⟩, ⟨(g 12 (by decide)).2, (g 12 (by decide)).1⟩, ⟨(g 13 (by decide)).2, (g 13 (by decide)).1⟩, ⟨(g 14 (by decide)).2, (g 14 (by decide)).1⟩, ⟨(g 15 (by decide)).2, (g 15 (by decide)).1⟩, ⟨(g 16 (by decide)).2, (g 16 (by decide)).1⟩, ⟨(g 17 (by decide)).2, (g 17 (by decide)).1⟩, ⟨(g 18 (by decide)).2, (g 18 (by decide)).1⟩, ⟨(g 19 (by decide)).2, (g 19 (by decide)).1⟩, ⟨(g 20 (by decide)).2, (g 20 (by decide)).1⟩, ⟨(g 21 (by decide)).2, (g 21 (by decide)).1⟩, (g 22 (by decide)).2, (g 22 (by decide)).1⟩
  obtain ⟨i, hi, e⟩ := R k hk
  exact ⟨_, by rw [← e]; exact (M.2 i hi).2⟩
def L00 : Ld := fun _ _ => 0
def A00 : Ab := (L00, (0, L00), (0, fun _ => L00), (0, fun _ => 0), (0, fun _ => 0), fun _ => 0)
theorem WfL00 : WfL L00 := ⟨Nat.zero_le _, Nat.zero_le _, fun f hf => ⟨Nat.zero_le _, Nat.zero_le _, Nat.zero_le _⟩, fun i hi => absurd hi (Nat.not_lt_zero _)⟩
theorem WA00 : WA A00 := ⟨⟨WfL00, Nat.zero_le _⟩, ⟨Nat.zero_le _, fun h => absurd h (by decide)⟩, ⟨Nat.zero_le _, fun j hj => absurd hj (Nat.not_lt_zero _)⟩, ⟨Nat.zero_le _, fun j hj => absurd hj (Nat.not_lt_zero _)⟩, ⟨Nat.zero_le _, fun j hj => absurd hj (Nat.not_lt_zero _)⟩⟩
theorem SI_0 {S : St} {h : Hp} {x : Nat} (lx : LayX S x) (lm : LayM S (x + 180)) (z : Z0 h x (x + 204)) : SI S h x A00 := by
  have Z : ∀ o k, o < 204 → h (x + o) k = nI 0 := fun o k ho => z (x + o) (by omega) (by omega) k
  have Z' : ∀ k, h x k = nI 0 := fun k => z x (by omega) (by omega) k
  refine ⟨⟨lx, ⟨lx.2.1.1, ⟨⟨Z 1 4 (by decide), Z 1 5 (by decide), Z 1 6 (by decide)⟩, fun f hf => ⟨Z 2 f (by decide), Z 3 f (by decide), Z 4 f (by decide)⟩, fun i hi => absurd hi (Nat.not_lt_zero _)⟩, WfL00⟩, ⟨Z' 2, fun h => absurd h (by decide)⟩, ⟨Z 31 2 (by decide), 0, by decide, Z 31 1 (by decide), fun j hj => absurd hj (Nat.not_lt_zero _)⟩, ⟨Z 153 1 (by decide), fun j hj => absurd hj (Nat.not_lt_zero _)⟩, ⟨Z' 8, fun j hj => absurd hj (Nat.not_lt_zero _)⟩, fun w _ _ => Z 179 w (by decide), WA00⟩, ⟨lm, ⟨⟨Z 180 13 (by decide), Z 180 14 (by decide), Z 180 15 (by decide)⟩, fun f hf => ⟨Z 182 f (by decide), Z 183 f (by decide), Z 184 f (by decide)⟩, fun i hi => absurd hi (Nat.not_lt_zero _)⟩, WfL00⟩, ⟨Z 180 26 (by decide), fun h => absurd h (by decide)⟩, ⟨Z 180 30 (by decide), 0, by decide, Z 180 29 (by decide), fun j hj => absurd hj (Nat.not_lt_zero _)⟩, ⟨Z 180 22 (by decide), fun j hj => absurd hj (Nat.not_lt_zero _)⟩, ⟨Z 180 32 (by decide), fun j hj => absurd hj (Nat.not_lt_zero _)⟩, fun w _ _ => Z 181 w (by decide), WA00⟩
