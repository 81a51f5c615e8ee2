/-! PURE: the reference's object at m: its rows at m + 1 .. m + 23, its land -/
def LayM (S : St) (m : Nat) : Prop := S.1 m = some (.inl 7) ∧ (S.2 m 0 = m + 1 ∧ S.1 (m + 1) = some (.inr (0, 7))) ∧ (S.2 m 1 = m + 2 ∧ S.1 (m + 2) = some (.inr (0, 48))) ∧ (S.2 m 2 = m + 3 ∧ S.1 (m + 3) = some (.inr (0, 48))) ∧ (S.2 m 3 = m + 4 ∧ S.1 (m + 4) = some (.inr (0, 48))) ∧ (S.2 m 4 = m + 5 ∧ S.1 (m + 5) = some (.inr (0, 5))) ∧ (S.2 m 5 = m + 6 ∧ S.1 (m + 6) = some (.inr (0, 5))) ∧ (S.2 m 6 = m + 7 ∧ S.1 (m + 7) = some (.inr (0, 5))) ∧ (S.2 m 7 = m + 8 ∧ S.1 (m + 8) = some (.inr (0, 5))) ∧ (S.2 m 8 = m + 9 ∧ S.1 (m + 9) = some (.inr (0, 5))) ∧ (S.2 m 9 = m + 10 ∧ S.1 (m + 10) = some (.inr (0, 5))) ∧ (S.2 m 10 = m + 11 ∧ S.1 (m + 11) = some (.inr (0, 5))) ∧ (S.2 m 11 = m + 12 ∧ S.1 (m + 12) = some (.inr (0, 5))) ∧ (S.2 m 12 = m + 13 ∧ S.1 (m + 13) = some (.inr (0, 30))) ∧ (S.2 m 16 = m + 14 ∧ S.1 (m + 14) = some (.inr (0, 96))) ∧ (S.2 m 17 = m + 15 ∧ S.1 (m + 15) = some (.inr (0, 25))) ∧ (S.2 m 18 = m + 16 ∧ S.1 (m + 16) = some (.inr (0, 25))) ∧ (S.2 m 19 = m + 17 ∧ S.1 (m + 17) = some (.inr (0, 25))) ∧ (S.2 m 20 = m + 18 ∧ S.1 (m + 18) = some (.inr (0, 75))) ∧ (S.2 m 21 = m + 19 ∧ S.1 (m + 19) = some (.inr (0, 75))) ∧ (S.2 m 25 = m + 20 ∧ S.1 (m + 20) = some (.inr (0, 2400))) ∧ (S.2 m 31 = m + 21 ∧ S.1 (m + 21) = some (.inr (0, 12))) ∧ (S.2 m 33 = m + 22 ∧ S.1 (m + 22) = some (.inr (0, 8))) ∧ (S.2 m 34 = m + 23 ∧ S.1 (m + 23) = some (.inr (0, 48)))
theorem lr0 {S : St} {m : Nat} (l : LayM S m) : S.2 m 0 = m + 1 := l.2.1.1
theorem la0 {S : St} {m : Nat} (l : LayM S m) : S.1 (m + 1) = some (.inr (0, 7)) := l.2.1.2
theorem lr1 {S : St} {m : Nat} (l : LayM S m) : S.2 m 1 = m + 2 := l.2.2.1.1
theorem la1 {S : St} {m : Nat} (l : LayM S m) : S.1 (m + 2) = some (.inr (0, 48)) := l.2.2.1.2
theorem lr2 {S : St} {m : Nat} (l : LayM S m) : S.2 m 2 = m + 3 := l.2.2.2.1.1
theorem la2 {S : St} {m : Nat} (l : LayM S m) : S.1 (m + 3) = some (.inr (0, 48)) := l.2.2.2.1.2
theorem lr3 {S : St} {m : Nat} (l : LayM S m) : S.2 m 3 = m + 4 := l.2.2.2.2.1.1
theorem la3 {S : St} {m : Nat} (l : LayM S m) : S.1 (m + 4) = some (.inr (0, 48)) := l.2.2.2.2.1.2
theorem lr4 {S : St} {m : Nat} (l : LayM S m) : S.2 m 4 = m + 5 := l.2.2.2.2.2.1.1
theorem la4 {S : St} {m : Nat} (l : LayM S m) : S.1 (m + 5) = some (.inr (0, 5)) := l.2.2.2.2.2.1.2
theorem lr5 {S : St} {m : Nat} (l : LayM S m) : S.2 m 5 = m + 6 := l.2.2.2.2.2.2.1.1
theorem la5 {S : St} {m : Nat} (l : LayM S m) : S.1 (m + 6) = some (.inr (0, 5)) := l.2.2.2.2.2.2.1.2
theorem lr6 {S : St} {m : Nat} (l : LayM S m) : S.2 m 6 = m + 7 := l.2.2.2.2.2.2.2.1.1
theorem la6 {S : St} {m : Nat} (l : LayM S m) : S.1 (m + 7) = some (.inr (0, 5)) := l.2.2.2.2.2.2.2.1.2
theorem lr7 {S : St} {m : Nat} (l : LayM S m) : S.2 m 7 = m + 8 := l.2.2.2.2.2.2.2.2.1.1
theorem la7 {S : St} {m : Nat} (l : LayM S m) : S.1 (m + 8) = some (.inr (0, 5)) := l.2.2.2.2.2.2.2.2.1.2
theorem lr8 {S : St} {m : Nat} (l : LayM S m) : S.2 m 8 = m + 9 := l.2.2.2.2.2.2.2.2.2.1.1
theorem la8 {S : St} {m : Nat} (l : LayM S m) : S.1 (m + 9) = some (.inr (0, 5)) := l.2.2.2.2.2.2.2.2.2.1.2
theorem lr9 {S : St} {m : Nat} (l : LayM S m) : S.2 m 9 = m + 10 := l.2.2.2.2.2.2.2.2.2.2.1.1
theorem la9 {S : St} {m : Nat} (l : LayM S m) : S.1 (m + 10) = some (.inr (0, 5)) := l.2.2.2.2.2.2.2.2.2.2.1.2
theorem lr10 {S : St} {m : Nat} (l : LayM S m) : S.2 m 10 = m + 11 := l.2.2.2.2.2.2.2.2.2.2.2.1.1
theorem la10 {S : St} {m : Nat} (l : LayM S m) : S.1 (m + 11) = some (.inr (0, 5)) := l.2.2.2.2.2.2.2.2.2.2.2.1.2
theorem lr11 {S : St} {m : Nat} (l : LayM S m) : S.2 m 11 = m + 12 := l.2.2.2.2.2.2.2.2.2.2.2.2.1.1
theorem la11 {S : St} {m : Nat} (l : LayM S m) : S.1 (m + 12) = some (.inr (0, 5)) := l.2.2.2.2.2.2.2.2.2.2.2.2.1.2
theorem lr12 {S : St} {m : Nat} (l : LayM S m) : S.2 m 12 = m + 13 := l.2.2.2.2.2.2.2.2.2.2.2.2.2.1.1
theorem la12 {S : St} {m : Nat} (l : LayM S m) : S.1 (m + 13) = some (.inr (0, 30)) := l.2.2.2.2.2.2.2.2.2.2.2.2.2.1.2
theorem lr16 {S : St} {m : Nat} (l : LayM S m) : S.2 m 16 = m + 14 := l.2.2.2.2.2.2.2.2.2.2.2.2.2.2.1.1
theorem la16 {S : St} {m : Nat} (l : LayM S m) : S.1 (m + 14) = some (.inr (0, 96)) := l.2.2.2.2.2.2.2.2.2.2.2.2.2.2.1.2
theorem lr17 {S : St} {m : Nat} (l : LayM S m) : S.2 m 17 = m + 15 := l.2.2.2.2.2.2.2.2.2.2.2.2.2.2.2.1.1
theorem la17 {S : St} {m : Nat} (l : LayM S m) : S.1 (m + 15) = some (.inr (0, 25)) := l.2.2.2.2.2.2.2.2.2.2.2.2.2.2.2.1.2
theorem lr18 {S : St} {m : Nat} (l : LayM S m) : S.2 m 18 = m + 16 := l.2.2.2.2.2.2.2.2.2.2.2.2.2.2.2.2.1.1
theorem la18 {S : St} {m : Nat} (l : LayM S m) : S.1 (m + 16) = some (.inr (0, 25)) := l.2.2.2.2.2.2.2.2.2.2.2.2.2.2.2.2.1.2
theorem lr19 {S : St} {m : Nat} (l : LayM S m) : S.2 m 19 = m + 17 := l.2.2.2.2.2.2.2.2.2.2.2.2.2.2.2.2.2.1.1
theorem la19 {S : St} {m : Nat} (l : LayM S m) : S.1 (m + 17) = some (.inr (0, 25)) := l.2.2.2.2.2.2.2.2.2.2.2.2.2.2.2.2.2.1.2
theorem lr20 {S : St} {m : Nat} (l : LayM S m) : S.2 m 20 = m + 18 := l.2.2.2.2.2.2.2.2.2.2.2.2.2.2.2.2.2.2.1.1
theorem la20 {S : St} {m : Nat} (l : LayM S m) : S.1 (m + 18) = some (.inr (0, 75)) := l.2.2.2.2.2.2.2.2.2.2.2.2.2.2.2.2.2.2.1.2
theorem lr21 {S : St} {m : Nat} (l : LayM S m) : S.2 m 21 = m + 19 := l.2.2.2.2.2.2.2.2.2.2.2.2.2.2.2.2.2.2.2.1.1
theorem la21 {S : St} {m : Nat} (l : LayM S m) : S.1 (m + 19) = some (.inr (0, 75)) := l.2.2.2.2.2.2.2.2.2.2.2.2.2.2.2.2.2.2.2.1.2
theorem lr25 {S : St} {m : Nat} (l : LayM S m) : S.2 m 25 = m + 20 := l.2.2.2.2.2.2.2.2.2.2.2.2.2.2.2.2.2.2.2.2.1.1
theorem la25 {S : St} {m : Nat} (l : LayM S m) : S.1 (m + 20) = some (.inr (0, 2400)) := l.2.2.2.2.2.2.2.2.2.2.2.2.2.2.2.2.2.2.2.2.1.2
theorem lr31 {S : St} {m : Nat} (l : LayM S m) : S.2 m 31 = m + 21 := l.2.2.2.2.2.2.2.2.2.2.2.2.2.2.2.2.2.2.2.2.2.1.1
theorem la31 {S : St} {m : Nat} (l : LayM S m) : S.1 (m + 21) = some (.inr (0, 12)) := l.2.2.2.2.2.2.2.2.2.2.2.2.2.2.2.2.2.2.2.2.2.1.2
theorem lr33 {S : St} {m : Nat} (l : LayM S m) : S.2 m 33 = m + 22 := l.2.2.2.2.2.2.2.2.2.2.2.2.2.2.2.2.2.2.2.2.2.2.1.1
theorem la33 {S : St} {m : Nat} (l : LayM S m) : S.1 (m + 22) = some (.inr (0, 8)) := l.2.2.2.2.2.2.2.2.2.2.2.2.2.2.2.2.2.2.2.2.2.2.1.2
theorem lr34 {S : St} {m : Nat} (l : LayM S m) : S.2 m 34 = m + 23 := l.2.2.2.2.2.2.2.2.2.2.2.2.2.2.2.2.2.2.2.2.2.2.2.1
theorem la34 {S : St} {m : Nat} (l : LayM S m) : S.1 (m + 23) = some (.inr (0, 48)) := l.2.2.2.2.2.2.2.2.2.2.2.2.2.2.2.2.2.2.2.2.2.2.2.2
def KC (k c : Nat) : Prop := (k = 0 ∧ c = 5) ∨ (k = 1 ∧ c = 6) ∨ (k = 3 ∧ c = 12) ∨ (k = 4 ∧ c = 7) ∨ (k = 5 ∧ c = 8) ∨ (k = 6 ∧ c = 9) ∨ (k = 7 ∧ c = 10) ∨ (k = 8 ∧ c = 11)
def Rm (h : Hp) (m : Nat) (L : Ld) : Prop := (h m 13 = nI (L 0 4) ∧ h m 14 = nI (L 0 5) ∧ h m 15 = nI (L 0 6)) ∧ (∀ f, f < 48 → h (m + 2) f = nI (L 1 f) ∧ h (m + 3) f = nI (L 2 f) ∧ h (m + 4) f = nI (L 3 f)) ∧ ∀ i, i < L 0 4 → (∀ k c, KC k c → h (m + c) i = nI (L (5 + 2 * i) k)) ∧ ∀ k, k < L (5 + 2 * i) 3 → h (m + 13) (6 * i + k) = nI (L (6 + 2 * i) k)
def ML_ (S : St) (h : Hp) (m : Nat) (L : Ld) : Prop := LayM S m ∧ Rm h m L ∧ WfL L
/-- nothing of the reference's object but its land has changed, and nothing outside -/
def FrM (m : Nat) (h h' : Hp) : Prop := ∀ a k, ¬ ((a = m ∧ 13 ≤ k ∧ k ≤ 15) ∨ (m + 2 ≤ a ∧ a ≤ m + 13)) → h' a k = h a k
theorem FrM_rf {m : Nat} {h : Hp} : FrM m h h := fun _ _ _ => rfl
theorem FrM_tr {m : Nat} {h h1 h2 : Hp} (f : FrM m h h1) (g : FrM m h1 h2) : FrM m h h2 := fun a k q => (g a k q).trans (f a k q)
theorem FrM_up {m : Nat} {h h1 : Hp} (f : FrM m h h1) {o k : Nat} {v : Int32} (ho : 2 ≤ o ∧ o ≤ 13) : FrM m h (up h1 (m + o) k v) := fun a k' q => (up_ne (by omega)).trans (f a k' q)
theorem FrM_upg {m : Nat} {h h1 : Hp} (f : FrM m h h1) {k : Nat} {v : Int32} (hk : 13 ≤ k ∧ k ≤ 15) : FrM m h (up h1 m k v) := fun a k' q => (up_ne (by omega)).trans (f a k' q)
section MLAND
variable {S : St} {h : Hp} {m : Nat} {L : Ld}
theorem MLe (X : ML_ S h m L) {i k c : Nat} (hi : i < L 0 4) (kc : KC k c) : h (m + c) i = nI (L (5 + 2 * i) k) := (X.2.1.2.2 i hi).1 k c kc
theorem MLn (X : ML_ S h m L) {i k : Nat} (hi : i < L 0 4) (hk : k < L (5 + 2 * i) 3) : h (m + 13) (6 * i + k) = nI (L (6 + 2 * i) k) := (X.2.1.2.2 i hi).2 k hk
theorem MLb (X : ML_ S h m L) {i : Nat} (hi : i < L 0 4) : HB (L (5 + 2 * i)) (L (6 + 2 * i)) := X.2.2.2.2.2 i hi
theorem MLsetH (X : ML_ S h m L) {i k c v : Nat} (hi : i < L 0 4) (kc : KC k c) (h3 : k ≠ 3) (hv : HB (updL L (5 + 2 * i) k v (5 + 2 * i)) (L (6 + 2 * i))) : ML_ S (up h (m + c) i (nI v)) m (updL L (5 + 2 * i) k v) := by
  obtain ⟨l, r, w⟩ := X
  have e0 : ∀ j, updL L (5 + 2 * i) k v 0 j = L 0 j := fun j => updL_ne (by omega)
  have kc1 := kc
  unfold KC at kc1
  refine ⟨l, ⟨?_, fun f hf => ?_, fun j hj => ?_⟩, ?_⟩
  · simp only [e0]
    rw [up_ne (by omega), up_ne (by omega), up_ne (by omega)]
    exact r.1
  · rw [up_ne (by omega), up_ne (by omega), up_ne (by omega), updL_ne (by omega), updL_ne (by omega), updL_ne (by omega)]
    exact r.2.1 f hf
  · rw [e0] at hj
    refine ⟨fun k' c' kc' => ?_, fun k' hk' => ?_⟩
    · have kc2 := kc'
      unfold KC at kc2
      by_cases e : j = i ∧ k' = k
      · obtain ⟨rfl, rfl⟩ := e
        rw [show c' = c by omega, up_same, updL_same]
      · rw [up_ne (by omega), updL_ne (by omega)]
        exact (r.2.2 j hj).1 k' c' kc'
    · rw [updL_ne (by omega)] at hk'
      rw [up_ne (by omega), updL_ne (by omega)]
      exact (r.2.2 j hj).2 k' hk'
  · refine ⟨by rw [e0]; exact w.1, by rw [e0]; exact w.2.1, fun f hf => ?_, fun j hj => ?_⟩
    · rw [updL_ne (by omega), updL_ne (by omega), updL_ne (by omega)]
      exact w.2.2.1 f hf
    · rw [e0] at hj
      have e6 : updL L (5 + 2 * i) k v (6 + 2 * j) = L (6 + 2 * j) := by funext q; exact updL_ne (by omega)
      rw [e6]
      by_cases e : j = i
      · subst e; exact hv
      · have e5 : updL L (5 + 2 * i) k v (5 + 2 * j) = L (5 + 2 * j) := by funext q; exact updL_ne (by omega)
        rw [e5]; exact w.2.2.2 j hj
theorem MLsetF (X : ML_ S h m L) {o f v : Nat} (ho : o = 1 ∨ o = 2 ∨ o = 3) (hf : f < 48) (hv : v ≤ 9 ∨ (o = 3 ∧ v ≤ 25)) : ML_ S (up h (m + (o + 1)) f (nI v)) m (updL L o f v) := by
  obtain ⟨l, r, w⟩ := X
  have e0 : ∀ j, updL L o f v 0 j = L 0 j := fun j => updL_ne (by omega)
  have e5 : ∀ j, updL L o f v (5 + 2 * j) = L (5 + 2 * j) := fun j => by funext q; exact updL_ne (by omega)
  have e6 : ∀ j, updL L o f v (6 + 2 * j) = L (6 + 2 * j) := fun j => by funext q; exact updL_ne (by omega)
  refine ⟨l, ⟨?_, fun g hg => ?_, fun j hj => ?_⟩, by rw [e0]; exact w.1, by rw [e0]; exact w.2.1, fun g hg => ?_, fun j hj => ?_⟩
  · simp only [e0]
    rw [up_ne (by omega), up_ne (by omega), up_ne (by omega)]
    exact r.1
  · have := r.2.1 g hg
    refine ⟨?_, ?_, ?_⟩
    · by_cases e : o = 1 ∧ g = f
      · obtain ⟨rfl, rfl⟩ := e; rw [up_same, updL_same]
      · rw [up_ne (by omega), updL_ne (by omega)]; exact this.1
    · by_cases e : o = 2 ∧ g = f
      · obtain ⟨rfl, rfl⟩ := e; rw [up_same, updL_same]
      · rw [up_ne (by omega), updL_ne (by omega)]; exact this.2.1
    · by_cases e : o = 3 ∧ g = f
      · obtain ⟨rfl, rfl⟩ := e; rw [up_same, updL_same]
      · rw [up_ne (by omega), updL_ne (by omega)]; exact this.2.2
  · rw [e0] at hj
    rw [e5, e6]
    refine ⟨fun k' c' kc' => ?_, fun k' hk' => ?_⟩
    · have kc2 := kc'
      unfold KC at kc2
      rw [up_ne (by omega)]; exact (r.2.2 j hj).1 k' c' kc'
    · rw [up_ne (by omega)]; exact (r.2.2 j hj).2 k' hk'
  · have := w.2.2.1 g hg
    refine ⟨?_, ?_, ?_⟩
    · by_cases e : 1 = o ∧ g = f
      · obtain ⟨rfl, rfl⟩ := e; rw [updL_same]; omega
      · rw [updL_ne (by omega)]; exact this.1
    · by_cases e : 2 = o ∧ g = f
      · obtain ⟨rfl, rfl⟩ := e; rw [updL_same]; omega
      · rw [updL_ne (by omega)]; exact this.2.1
    · by_cases e : 3 = o ∧ g = f
      · obtain ⟨rfl, rfl⟩ := e; rw [updL_same]; omega
      · rw [updL_ne (by omega)]; exact this.2.2
  · rw [e0] at hj
    rw [e5, e6]; exact w.2.2.2 j hj
theorem MLsetG (X : ML_ S h m L) {k v : Nat} (hk : k = 5 ∨ (k = 6 ∧ v ≤ 9999)) : ML_ S (up h m (k + 9) (nI v)) m (updL L 0 k v) := by
  obtain ⟨l, r, w⟩ := X
  have e5 : ∀ j, updL L 0 k v (5 + 2 * j) = L (5 + 2 * j) := fun j => by funext q; exact updL_ne (by omega)
  have e6 : ∀ j, updL L 0 k v (6 + 2 * j) = L (6 + 2 * j) := fun j => by funext q; exact updL_ne (by omega)
  have e4 : updL L 0 k v 0 4 = L 0 4 := updL_ne (by omega)
  refine ⟨l, ⟨⟨?_, ?_, ?_⟩, fun g hg => ?_, fun j hj => ?_⟩, by rw [e4]; exact w.1, ?_, fun g hg => ?_, fun j hj => ?_⟩
  · rw [up_ne (by omega), e4]; exact r.1.1
  · by_cases e : k = 5
    · subst e; rw [up_same, updL_same]
    · rw [up_ne (by omega), updL_ne (by omega)]; exact r.1.2.1
  · by_cases e : k = 6
    · subst e; rw [up_same, updL_same]
    · rw [up_ne (by omega), updL_ne (by omega)]; exact r.1.2.2
  · rw [up_ne (by omega), up_ne (by omega), up_ne (by omega), updL_ne (by omega), updL_ne (by omega), updL_ne (by omega)]
    exact r.2.1 g hg
  · rw [e4] at hj
    rw [e5, e6]
    refine ⟨fun k' c' kc' => ?_, fun k' hk' => ?_⟩
    · have kc2 := kc'
      unfold KC at kc2
      rw [up_ne (by omega)]; exact (r.2.2 j hj).1 k' c' kc'
    · rw [up_ne (by omega)]; exact (r.2.2 j hj).2 k' hk'
  · by_cases e : k = 6
    · subst e; rw [updL_same]; omega
    · rw [updL_ne (by omega)]; exact w.2.1
  · rw [updL_ne (by omega), updL_ne (by omega), updL_ne (by omega)]; exact w.2.2.1 g hg
  · rw [e4] at hj; rw [e5, e6]; exact w.2.2.2 j hj
theorem y_steps (X : ML_ S h m L) {i : Nat} (hi : i < L 0 4) {Q : Int32 → Hp → Prop} (hQ : Q (nI (stepsF (L (5 + 2 * i)))) h) : w_X7_steps S m (nI i) h Q := by
  have l := X.1
  have w := X.2.2.1
  obtain ⟨b0, b1, b3, b4, b5, b6, b7, b8, bn⟩ := MLb X hi
  unfold w_X7_steps
  simp only [lr4 l, lr5 l, lr11 l, q_ix (show i < 2 ^ 31 by omega), MLe X hi (show KC 0 5 by unfold KC; omega), MLe X hi (show KC 1 6 by unfold KC; omega), MLe X hi (show KC 3 12 by unfold KC; omega)]
  refine ⟨l.1, q_ain (la5 l) (by omega) (by decide), q_ain (la4 l) (by omega) (by decide), ?_⟩
  have g := q_ain (S := S) (la11 l) (show i < 5 by omega) (by decide)
  simp (disch := omega) only [q_eq, q_div, nI_add, g, true_and]
  unfold stepsF at hQ
  grind
theorem y_weight (X : ML_ S h m L) {i : Nat} (hi : i < L 0 4) {Q : Int32 → Hp → Prop} (hQ : Q (nI (weightF (L (5 + 2 * i)))) h) : w_X7_weight S m (nI i) h Q := by
  have l := X.1
  have w := X.2.2.1
  obtain ⟨b0, b1, b3, b4, b5, b6, b7, b8, bn⟩ := MLb X hi
  unfold w_X7_weight
  simp only [lr4 l, lr5 l, q_ix (show i < 2 ^ 31 by omega), MLe X hi (show KC 0 5 by unfold KC; omega), MLe X hi (show KC 1 6 by unfold KC; omega)]
  refine ⟨l.1, q_ain (la5 l) (by omega) (by decide), q_ain (la4 l) (by omega) (by decide), ?_⟩
  simp (disch := omega) only [q_eq, q_div, q_sub, nI_add, pk_mul]
  unfold weightF at hQ
  have e1 : 2 * L (5 + 2 * i) 1 + 2 = 2 * (L (5 + 2 * i) 1 + 1) := by omega
  have e2 : 2 * L (5 + 2 * i) 1 + 5 = 2 * (L (5 + 2 * i) 1 + 1) + 3 := by omega
  rw [e1, e2]
  grind
theorem y_isVowel {c : Nat} (hc : c ≤ 25) {Q : Int32 → Hp → Prop} (h1 : (c = 0 ∨ c = 4 ∨ c = 8 ∨ c = 14 ∨ c = 20) → Q (nI 1) h) (h0 : ¬ (c = 0 ∨ c = 4 ∨ c = 8 ∨ c = 14 ∨ c = 20) → Q (nI 0) h) : w_X7_isVowel S (nI c) h Q := by
  unfold w_X7_isVowel
  simp (disch := omega) only [q_eq, q_eq0]
  grind
theorem y_saint (X : ML_ S h m L) {i d : Nat} (hi : i < L 0 4) (hd : d < 2 ^ 30) {Q : Int32 → Hp → Prop} (hQ : Q (nI (saintF (L (5 + 2 * i)) d)) h) : w_X7_veersAsSaint S m (nI i) (nI d) h Q := by
  have l := X.1
  have w := X.2.2.1
  obtain ⟨b0, b1, b3, b4, b5, b6, b7, b8, bn⟩ := MLb X hi
  unfold w_X7_veersAsSaint
  simp only [lr9 l, q_ix (show i < 2 ^ 31 by omega), MLe X hi (show KC 7 10 by unfold KC; omega)]
  refine ⟨l.1, q_ain (la9 l) (by omega) (by decide), ?_⟩
  simp (disch := omega) only [q_eq0, q_rem]
  unfold saintF at hQ
  grind
theorem y_veers (X : ML_ S h m L) {i d : Nat} (hi : i < L 0 4) (hd : d < 2 ^ 30) {Q : Int32 → Hp → Prop} (hQ : Q (nI (veersF (L (5 + 2 * i)) (L (6 + 2 * i)) d)) h) : w_X7_veers S m (nI i) (nI d) h Q := by
  have l := X.1
  have w := X.2.2.1
  have hb := MLb X hi
  obtain ⟨b0, b1, b3, b4, b5, b6, b7, b8, bn, b9⟩ := hb
  have hm := Nat.mod_lt d (show 0 < L (5 + 2 * i) 1 + 2 by omega)
  unfold w_X7_veers
  simp only [lr4 l, lr5 l, lr12 l, q_ix (show i < 2 ^ 31 by omega), MLe X hi (show KC 0 5 by unfold KC; omega), MLe X hi (show KC 1 6 by unfold KC; omega), pk_mul]
  refine ⟨l.1, q_ain (la5 l) (by omega) (by decide), q_ain (la4 l) (by omega) (by decide), ?_⟩
  have g := q_ain (S := S) (la12 l) (show 6 * i < 30 by omega) (by decide)
  have n0 : h (m + 13) (6 * i) = nI (L (6 + 2 * i) 0) := MLn X hi (k := 0) (by omega)
  simp (disch := omega) only [q_eq, q_eq0, q_rem, nI_add, g, true_and, q_ix, n0]
  unfold veersF at hQ
  have ne : ¬ L (5 + 2 * i) 1 + 2 = 0 := by omega
  by_cases k4 : L (5 + 2 * i) 0 = 4
  · simp only [k4] at hQ ⊢
    exact y_saint X hi hd hQ
  · by_cases k7 : L (5 + 2 * i) 0 = 7
    · rw [k7, if_neg (by decide), if_neg (by decide), if_neg (by decide), if_neg (by decide), if_neg (by decide), if_pos rfl] at hQ
      rw [k7, if_neg (by decide), if_neg (by decide), if_neg (by decide), if_neg (by decide), if_neg (by decide), if_pos rfl]
      refine y_isVowel (bn 0 (by omega)) (fun v => ?_) (fun v => ?_)
      · rw [if_neg (by decide)]; rwa [if_pos v] at hQ
      · rw [if_pos (by decide)]; exact y_saint X hi hd (by rwa [if_neg v] at hQ)
    · grind
theorem y_enough (X : ML_ S h m L) {i : Nat} (hi : i < L 0 4) {Q : Int32 → Hp → Prop} (hQ : Q (nI (enoughF (L (5 + 2 * i)))) h) : w_X7_enough S m (nI i) h Q := by
  have l := X.1
  have w := X.2.2.1
  obtain ⟨b0, b1, b3, b4, b5, b6, b7, b8, bn⟩ := MLb X hi
  unfold w_X7_enough
  simp only [lr4 l, lr5 l, q_ix (show i < 2 ^ 31 by omega), MLe X hi (show KC 0 5 by unfold KC; omega), MLe X hi (show KC 1 6 by unfold KC; omega)]
  refine ⟨l.1, q_ain (la5 l) (by omega) (by decide), q_ain (la4 l) (by omega) (by decide), ?_⟩
  simp (disch := omega) only [q_eq, q_div, q_sub, nI_add]
  unfold enoughF at hQ
  grind
theorem y_beside {f d : Nat} (hf : f ≤ 47) (hd : d ≤ 3) {Q : Int32 → Hp → Prop} (h0 : besF f d = 99 → Q (-9) h) (h1 : besF f d ≤ 47 → Q (nI (besF f d)) h) : w_X7_beside S (nI f) (nI d) h Q := by
  unfold w_X7_beside
  unfold besF at h0 h1
  simp (disch := omega) only [q_eq, q_lt, q_le, q_rem, q_eq0, nI_add]
  rcases (show d = 0 ∨ d = 1 ∨ d = 2 ∨ d = 3 by omega) with rfl | rfl | rfl | rfl
  · by_cases c : f < 8
    · have c2 : ¬ 8 ≤ f := by omega
      simp [c] at h0; simp [c2]; exact h0
    · have c2 : 8 ≤ f := by omega
      simp [c] at h1; simp [c2]; rw [q_sub (by omega)]; exact h1 (by omega)
  · by_cases c : f % 8 = 7
    · simp [c] at h0 ⊢; exact h0
    · simp [c] at h1 ⊢; exact h1 (by omega)
  · by_cases c : 40 ≤ f
    · have c2 : ¬ f < 40 := by omega
      simp [c] at h0; simp [c2]; exact h0
    · have c2 : f < 40 := by omega
      simp [c] at h1; simp [c2]; exact h1 (by omega)
  · by_cases c : f % 8 = 0
    · simp [c] at h0 ⊢; exact h0
    · simp [c] at h1 ⊢; rw [q_sub (by omega)]; exact h1 (by omega)
theorem y_quart {w : Nat} (hw : w ≤ 4) (h4 : w ≠ 4) {Q : Int32 → Hp → Prop} (hQ : Q (nI (quartF w)) h) : w_X7_quarters S (nI w) h Q := by
  unfold w_X7_quarters
  unfold quartF at hQ
  simp (disch := omega) only [q_eq, q_eq0]
  rcases (show w = 0 ∨ w = 1 ∨ w = 2 ∨ w = 3 by omega) with rfl | rfl | rfl | rfl
  · simpa using hQ
  · simpa using hQ
  · rw [if_neg (by decide), if_neg (by decide), q_sub (by decide)]; simpa using hQ
  · rw [if_neg (by decide), if_neg (by decide), q_sub (by decide)]; simpa using hQ
theorem y_turnsBack (X : ML_ S h m L) {i : Nat} (hi : i < L 0 4) {Q : Hp → Prop} (hQ : Q (up h (m + 8) i (nI ((L (5 + 2 * i) 5 + 2) % 4)))) : w_X7_turnsBack S m (nI i) h Q := by
  have l := X.1
  have w := X.2.2.1
  obtain ⟨b0, b1, b3, b4, b5, b6, b7, b8, bn⟩ := MLb X hi
  unfold w_X7_turnsBack
  simp only [lr7 l, q_ix (show i < 2 ^ 31 by omega), MLe X hi (show KC 5 8 by unfold KC; omega)]
  refine ⟨l.1, q_ain (la7 l) (by omega) (by decide), ?_⟩
  rw [nI_add, q_rem (by omega) (by decide) (by decide)]
  exact hQ
theorem y_held {a b : Nat} (ha : a < 2 ^ 31) (hb : b < 2 ^ 31) {Q : Int32 → Hp → Prop} (hQ : Q (nI (min a b)) h) : w_X7_held S (nI a) (nI b) h Q := by
  unfold w_X7_held
  simp only [q_le ha hb]
  by_cases c : a ≤ b
  · rw [if_pos c]; rwa [show min a b = a by omega] at hQ
  · rw [if_neg c]; rwa [show min a b = b by omega] at hQ
end MLAND
