/-! PURE: a land as numbers: L 0: 4 how many heads, 5 night, 6 told; L 1, L 2, L 3: walls, people, letters; L (5 + 2 i): head i's numbers; L (6 + 2 i): her letters -/
abbrev Ld : Type := Nat → Nat → Nat
def updL (L : Ld) (o k v : Nat) : Ld := fun o' k' => if o' = o ∧ k' = k then v else L o' k'
theorem updL_same (L : Ld) (o k v : Nat) : updL L o k v o k = v := by simp [updL]
theorem updL_ne {L : Ld} {o k v o' k' : Nat} (hn : ¬ (o' = o ∧ k' = k)) : updL L o k v o' k' = L o' k' := by simp [updL, hn]
def WfL (L : Ld) : Prop := L 0 4 ≤ 5 ∧ L 0 6 ≤ 9999 ∧ (∀ f, f < 48 → L 1 f ≤ 9 ∧ L 2 f ≤ 9 ∧ L 3 f ≤ 25) ∧ ∀ i, i < L 0 4 → HB (L (5 + 2 * i)) (L (6 + 2 * i))
def goF (i : Nat) : Nat → Ld → Ld
  | 0, L => L
  | n + 1, L => if besF (L (5 + 2 * i) 4) (L (5 + 2 * i) 5) = 99 then updL L (5 + 2 * i) 5 ((L (5 + 2 * i) 5 + 2) % 4) else if L 1 (besF (L (5 + 2 * i) 4) (L (5 + 2 * i) 5)) = 0 then goF i n (updL L (5 + 2 * i) 4 (besF (L (5 + 2 * i) 4) (L (5 + 2 * i) 5))) else updL L 1 (besF (L (5 + 2 * i) 4) (L (5 + 2 * i) 5)) (L 1 (besF (L (5 + 2 * i) 4) (L (5 + 2 * i) 5)) - weightF (L (5 + 2 * i)))
def gatherF (i : Nat) (L : Ld) : Ld := if hasF (L (6 + 2 * i)) (L 3 (L (5 + 2 * i) 4)) (L (5 + 2 * i) 3) = true then updL (updL L (5 + 2 * i) 7 (min (L (5 + 2 * i) 7 + L 2 (L (5 + 2 * i) 4)) 99)) 2 (L (5 + 2 * i) 4) 0 else L
def metF (L : Ld) (i : Nat) : Nat → Nat → Nat
  | 0, _ => 99
  | f + 1, k => if k ≠ i ∧ L (5 + 2 * k) 4 = L (5 + 2 * i) 4 ∧ L (5 + 2 * k) 8 = 0 then k else metF L i f (k + 1)
def lessF (L : Ld) (i j : Nat) : Bool := decide (weightF (L (5 + 2 * i)) < weightF (L (5 + 2 * j)) ∨ (weightF (L (5 + 2 * i)) = weightF (L (5 + 2 * j)) ∧ (ahead (L (5 + 2 * i)) (L (6 + 2 * i)) (L (5 + 2 * j)) (L (6 + 2 * j)) ∨ (alike (L (5 + 2 * i)) (L (6 + 2 * i)) (L (5 + 2 * j)) (L (6 + 2 * j)) ∧ j < i))))
def loseF (l g : Nat) (L : Ld) : Ld := updL (updL (updL L (5 + 2 * l) 5 ((L (5 + 2 * l) 5 + 2) % 4)) (5 + 2 * l) 7 (L (5 + 2 * l) 7 - L (5 + 2 * l) 7 / 2)) (5 + 2 * g) 7 (min (L (5 + 2 * g) 7 + L (5 + 2 * l) 7 / 2) 99)
def meetF (i : Nat) (L : Ld) : Ld := if metF L i (L 0 4) 0 = 99 then L else if lessF L i (metF L i (L 0 4) 0) = true then loseF i (metF L i (L 0 4) 0) (updL L 0 6 (min (L 0 6 + 1) 9999)) else loseF (metF L i (L 0 4) 0) i (updL L 0 6 (min (L 0 6 + 1) 9999))
def faceF (i : Nat) (L : Ld) : Ld := updL L (5 + 2 * i) 5 ((L (5 + 2 * i) 5 + (quartF (L (5 + 2 * i) 6) + veersF (L (5 + 2 * i)) (L (6 + 2 * i)) (L 0 5))) % 4)
def stayF (i : Nat) (L : Ld) : Ld := if enoughF (L (5 + 2 * i)) ≤ L (5 + 2 * i) 7 then updL L (5 + 2 * i) 8 1 else L
def takeF (i : Nat) (L : Ld) : Ld := stayF i (meetF i (gatherF i (goF i (stepsF (faceF i L (5 + 2 * i))) (faceF i L))))
def awakeF (L : Ld) (k : Nat) : Bool := decide (L (5 + 2 * k) 8 = 0 ∧ L (5 + 2 * k) 6 ≠ 4)
def turnsF (L : Ld) : Nat → Ld
  | 0 => L
  | k + 1 => if awakeF (turnsF L k) k = true then takeF k (turnsF L k) else turnsF L k
def nightF (L : Ld) : Ld := turnsF (updL L 0 5 (L 0 5 + 1)) (L 0 4)
def nightsF : Nat → Ld → Ld
  | 0, L => L
  | n + 1, L => nightsF n (nightF L)
theorem goF_0 (i : Nat) : ∀ (n : Nat) (L : Ld), goF i n L 0 = L 0
  | 0, L => rfl
  | n + 1, L => by
    simp only [goF]
    split
    · funext k; exact updL_ne (by omega)
    · split
      · rw [goF_0 i n]; funext k; exact updL_ne (by omega)
      · funext k; exact updL_ne (by omega)
theorem gatherF_0 (i : Nat) (L : Ld) : gatherF i L 0 = L 0 := by
  unfold gatherF
  split
  · funext k; rw [updL_ne (by omega), updL_ne (by omega)]
  · rfl
theorem loseF_0 (l g : Nat) (L : Ld) : loseF l g L 0 = L 0 := by
  unfold loseF
  funext k; rw [updL_ne (by omega), updL_ne (by omega), updL_ne (by omega)]
theorem meetF_0 (i : Nat) (L : Ld) : meetF i L 0 4 = L 0 4 ∧ meetF i L 0 5 = L 0 5 := by
  unfold meetF
  split
  · exact ⟨rfl, rfl⟩
  · split <;> rw [loseF_0] <;> exact ⟨updL_ne (by omega), updL_ne (by omega)⟩
theorem faceF_0 (i : Nat) (L : Ld) : faceF i L 0 = L 0 := by unfold faceF; funext k; exact updL_ne (by omega)
theorem stayF_0 (i : Nat) (L : Ld) : stayF i L 0 = L 0 := by
  unfold stayF
  split
  · funext k; exact updL_ne (by omega)
  · rfl
theorem takeF_0 (i : Nat) (L : Ld) : takeF i L 0 4 = L 0 4 ∧ takeF i L 0 5 = L 0 5 := by
  unfold takeF
  rw [stayF_0]
  have := meetF_0 i (gatherF i (goF i (stepsF (faceF i L (5 + 2 * i))) (faceF i L)))
  rw [gatherF_0, goF_0, faceF_0] at this
  exact this
theorem turnsF_0 (L : Ld) : ∀ k, turnsF L k 0 4 = L 0 4 ∧ turnsF L k 0 5 = L 0 5
  | 0 => ⟨rfl, rfl⟩
  | k + 1 => by
    have ih := turnsF_0 L k
    simp only [turnsF]
    split
    · have := takeF_0 k (turnsF L k); exact ⟨this.1.trans ih.1, this.2.trans ih.2⟩
    · exact ih
theorem nightF_0 (L : Ld) : nightF L 0 4 = L 0 4 ∧ nightF L 0 5 = L 0 5 + 1 := by
  have := turnsF_0 (updL L 0 5 (L 0 5 + 1)) (L 0 4)
  rw [updL_same] at this
  exact ⟨this.1.trans (updL_ne (by omega)), this.2⟩
theorem nightsF_0 : ∀ (n : Nat) (L : Ld), nightsF n L 0 4 = L 0 4 ∧ nightsF n L 0 5 = L 0 5 + n
  | 0, L => ⟨rfl, rfl⟩
  | n + 1, L => by
    have h1 := nightF_0 L
    have h2 := nightsF_0 n (nightF L)
    simp only [nightsF]
    omega
theorem nightsF_S : ∀ (n : Nat) (L : Ld), nightsF (n + 1) L = nightF (nightsF n L)
  | 0, L => rfl
  | n + 1, L => by
    show nightsF (n + 1) (nightF L) = nightF (nightsF n (nightF L))
    exact nightsF_S n (nightF L)
theorem metF_spec {L : Ld} {i : Nat} : ∀ (f k : Nat), metF L i f k = 99 ∨ (k ≤ metF L i f k ∧ metF L i f k < k + f ∧ metF L i f k ≠ i)
  | 0, k => Or.inl rfl
  | f + 1, k => by
    simp only [metF]
    split
    · rename_i c; exact Or.inr ⟨by omega, by omega, c.1⟩
    · rcases metF_spec (L := L) (i := i) f (k + 1) with h | h
      · exact Or.inl h
      · exact Or.inr ⟨by omega, by omega, h.2.2⟩
/-! the class's Land at b -/
def LayL (S : St) (b : Nat) : Prop := S.1 b = some (.inl 1) ∧ (S.2 b 0 = b + 1 ∧ S.2 b 1 = b + 2 ∧ S.2 b 2 = b + 3 ∧ S.2 b 3 = b + 4) ∧ (S.1 (b + 1) = some (.inr (0, 48)) ∧ S.1 (b + 2) = some (.inr (0, 48)) ∧ S.1 (b + 3) = some (.inr (0, 48)) ∧ S.1 (b + 4) = some (.inr (1, 5))) ∧ ∀ i, i < 5 → S.2 (b + 4) i = b + (5 + 2 * i) ∧ XS S (b + (5 + 2 * i))
def Rx (h : Hp) (b : Nat) (L : Ld) : Prop := (h b 4 = nI (L 0 4) ∧ h b 5 = nI (L 0 5) ∧ h b 6 = nI (L 0 6)) ∧ (∀ f, f < 48 → h (b + 1) f = nI (L 1 f) ∧ h (b + 2) f = nI (L 2 f) ∧ h (b + 3) f = nI (L 3 f)) ∧ ∀ i, i < L 0 4 → (∀ k, k ≤ 8 → k ≠ 2 → h (b + (5 + 2 * i)) k = nI (L (5 + 2 * i) k)) ∧ ∀ k, k < L (5 + 2 * i) 3 → h (b + (6 + 2 * i)) k = nI (L (6 + 2 * i) k)
def XL (S : St) (h : Hp) (b : Nat) (L : Ld) : Prop := LayL S b ∧ Rx h b L ∧ WfL L
/-- nothing outside of the land at b has changed -/
def Fr (b : Nat) (h h' : Hp) : Prop := ∀ a k, a < b ∨ b + 15 ≤ a → h' a k = h a k
theorem Fr_rf {b : Nat} {h : Hp} : Fr b h h := fun _ _ _ => rfl
theorem Fr_tr {b : Nat} {h h1 h2 : Hp} (f : Fr b h h1) (g : Fr b h1 h2) : Fr b h h2 := fun a k q => (g a k q).trans (f a k q)
theorem Fr_up {b : Nat} {h h1 : Hp} (f : Fr b h h1) {o k : Nat} {v : Int32} (ho : o < 15) : Fr b h (up h1 (b + o) k v) := fun a k' q => (up_ne (by omega)).trans (f a k' q)
theorem Fr_up0 {b : Nat} {h h1 : Hp} (f : Fr b h h1) {k : Nat} {v : Int32} : Fr b h (up h1 b k v) := fun a k' q => (up_ne (by omega)).trans (f a k' q)
section XLAND
variable {S : St} {h : Hp} {b : Nat} {L : Ld}
theorem XLhd (X : XL S h b L) {i : Nat} (hi : i < L 0 4) : XH S h (b + (5 + 2 * i)) (L (5 + 2 * i)) (L (6 + 2 * i)) := by
  obtain ⟨l, r, w⟩ := X
  have h5 := w.1
  have x := (l.2.2.2 i (by omega)).2
  refine ⟨x.1, x.2.1, x.2.2, (r.2.2 i hi).1, fun k hk => ?_, w.2.2.2 i hi⟩
  rw [show b + (5 + 2 * i) + 1 = b + (6 + 2 * i) by omega]
  exact (r.2.2 i hi).2 k hk
theorem XLsetH (X : XL S h b L) {i k v : Nat} (hi : i < L 0 4) (hk : k ≤ 8) (h2 : k ≠ 2) (h3 : k ≠ 3) (hv : HB (updL L (5 + 2 * i) k v (5 + 2 * i)) (L (6 + 2 * i))) : XL S (up h (b + (5 + 2 * i)) k (nI v)) b (updL L (5 + 2 * i) k v) := by
  obtain ⟨l, r, w⟩ := X
  have e0 : ∀ j, updL L (5 + 2 * i) k v 0 j = L 0 j := fun j => updL_ne (by omega)
  refine ⟨l, ⟨?_, fun f hf => ?_, fun j hj => ?_⟩, ?_⟩
  · simp only [e0]
    rw [up_ne (by omega), up_ne (by omega), up_ne (by omega)]
    exact r.1
  · rw [up_ne (by omega), up_ne (by omega), up_ne (by omega), updL_ne (by omega), updL_ne (by omega), updL_ne (by omega)]
    exact r.2.1 f hf
  · rw [e0] at hj
    refine ⟨fun k' h1' h2' => ?_, fun k' hk' => ?_⟩
    · by_cases e : j = i ∧ k' = k
      · obtain ⟨rfl, rfl⟩ := e
        rw [up_same, updL_same]
      · rw [up_ne (by omega), updL_ne (by omega)]
        exact (r.2.2 j hj).1 k' h1' h2'
    · rw [updL_ne (by omega)] at hk'
      rw [up_ne (by omega), updL_ne (by omega)]
      exact (r.2.2 j hj).2 k' hk'
  · refine ⟨by rw [e0]; exact w.1, by rw [e0]; exact w.2.1, fun f hf => ?_, fun j hj => ?_⟩
    · rw [updL_ne (by omega), updL_ne (by omega), updL_ne (by omega)]
      exact w.2.2.1 f hf
    · rw [e0] at hj
      have e6 : updL L (5 + 2 * i) k v (6 + 2 * j) = L (6 + 2 * j) := by funext q; exact updL_ne (by omega)
      rw [e6]
      by_cases e : j = i
      · subst e; exact hv
      · have e5 : updL L (5 + 2 * i) k v (5 + 2 * j) = L (5 + 2 * j) := by funext q; exact updL_ne (by omega)
        rw [e5]; exact w.2.2.2 j hj
theorem XLsetF (X : XL S h b L) {o f v : Nat} (ho : o = 1 ∨ o = 2 ∨ o = 3) (hf : f < 48) (hv : v ≤ 9 ∨ (o = 3 ∧ v ≤ 25)) : XL S (up h (b + o) f (nI v)) b (updL L o f v) := by
  obtain ⟨l, r, w⟩ := X
  have e0 : ∀ j, updL L o f v 0 j = L 0 j := fun j => updL_ne (by omega)
  have e5 : ∀ j, updL L o f v (5 + 2 * j) = L (5 + 2 * j) := fun j => by funext q; exact updL_ne (by omega)
  have e6 : ∀ j, updL L o f v (6 + 2 * j) = L (6 + 2 * j) := fun j => by funext q; exact updL_ne (by omega)
  refine ⟨l, ⟨?_, fun g hg => ?_, fun j hj => ?_⟩, by rw [e0]; exact w.1, by rw [e0]; exact w.2.1, fun g hg => ?_, fun j hj => ?_⟩
  · simp only [e0]
    rw [up_ne (by omega), up_ne (by omega), up_ne (by omega)]
    exact r.1
  · have := r.2.1 g hg
    refine ⟨?_, ?_, ?_⟩
    · by_cases e : o = 1 ∧ g = f
      · obtain ⟨rfl, rfl⟩ := e; rw [up_same, updL_same]
      · rw [up_ne (by omega), updL_ne (by omega)]; exact this.1
    · by_cases e : o = 2 ∧ g = f
      · obtain ⟨rfl, rfl⟩ := e; rw [up_same, updL_same]
      · rw [up_ne (by omega), updL_ne (by omega)]; exact this.2.1
    · by_cases e : o = 3 ∧ g = f
      · obtain ⟨rfl, rfl⟩ := e; rw [up_same, updL_same]
      · rw [up_ne (by omega), updL_ne (by omega)]; exact this.2.2
  · rw [e0] at hj
    rw [e5, e6]
    refine ⟨fun k' h1' h2' => ?_, fun k' hk' => ?_⟩
    · rw [up_ne (by omega)]; exact (r.2.2 j hj).1 k' h1' h2'
    · rw [up_ne (by omega)]; exact (r.2.2 j hj).2 k' hk'
  · have := w.2.2.1 g hg
    refine ⟨?_, ?_, ?_⟩
    · by_cases e : 1 = o ∧ g = f
      · obtain ⟨rfl, rfl⟩ := e; rw [updL_same]; omega
      · rw [updL_ne (by omega)]; exact this.1
    · by_cases e : 2 = o ∧ g = f
      · obtain ⟨rfl, rfl⟩ := e; rw [updL_same]; omega
      · rw [updL_ne (by omega)]; exact this.2.1
    · by_cases e : 3 = o ∧ g = f
      · obtain ⟨rfl, rfl⟩ := e; rw [updL_same]; omega
      · rw [updL_ne (by omega)]; exact this.2.2
  · rw [e0] at hj
    rw [e5, e6]; exact w.2.2.2 j hj
theorem XLsetG (X : XL S h b L) {k v : Nat} (hk : k = 5 ∨ (k = 6 ∧ v ≤ 9999)) : XL S (up h b k (nI v)) b (updL L 0 k v) := by
  obtain ⟨l, r, w⟩ := X
  have e5 : ∀ j, updL L 0 k v (5 + 2 * j) = L (5 + 2 * j) := fun j => by funext q; exact updL_ne (by omega)
  have e6 : ∀ j, updL L 0 k v (6 + 2 * j) = L (6 + 2 * j) := fun j => by funext q; exact updL_ne (by omega)
  have e4 : updL L 0 k v 0 4 = L 0 4 := updL_ne (by omega)
  refine ⟨l, ⟨⟨?_, ?_, ?_⟩, fun g hg => ?_, fun j hj => ?_⟩, by rw [e4]; exact w.1, ?_, fun g hg => ?_, fun j hj => ?_⟩
  · rw [up_ne (by omega), e4]; exact r.1.1
  · by_cases e : k = 5
    · subst e; rw [up_same, updL_same]
    · rw [up_ne (by omega), updL_ne (by omega)]; exact r.1.2.1
  · by_cases e : k = 6
    · subst e; rw [up_same, updL_same]
    · rw [up_ne (by omega), updL_ne (by omega)]; exact r.1.2.2
  · rw [up_ne (by omega), up_ne (by omega), up_ne (by omega), updL_ne (by omega), updL_ne (by omega), updL_ne (by omega)]
    exact r.2.1 g hg
  · rw [e4] at hj
    rw [e5, e6]
    refine ⟨fun k' h1' h2' => ?_, fun k' hk' => ?_⟩
    · rw [up_ne (by omega)]; exact (r.2.2 j hj).1 k' h1' h2'
    · rw [up_ne (by omega)]; exact (r.2.2 j hj).2 k' hk'
  · by_cases e : k = 6
    · subst e; rw [updL_same]; omega
    · rw [updL_ne (by omega)]; exact w.2.1
  · rw [updL_ne (by omega), updL_ne (by omega), updL_ne (by omega)]; exact w.2.2.1 g hg
  · rw [e4] at hj; rw [e5, e6]; exact w.2.2.2 j hj
end XLAND
