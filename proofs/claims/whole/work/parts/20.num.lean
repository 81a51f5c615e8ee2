/-! PURE: numbers -/
theorem q_div {a d : Nat} (ha : a < 2 ^ 31) (h0 : 0 < d) (hd : d < 2 ^ 31) : nI a / nI d = nI (a / d) := pk_div ha h0 hd
theorem q_rem {a d : Nat} (ha : a < 2 ^ 31) (h0 : 0 < d) (hd : d < 2 ^ 31) : irem (nI a) (nI d) = nI (a % d) := pk_rem ha h0 hd
theorem q_sub {a b : Nat} (h : b ≤ a) : nI a - nI b = nI (a - b) := pk_sub h
theorem q_ix {a : Nat} (ha : a < 2 ^ 31) : ix (nI a) = a := nI_clamp ha
theorem q_eq {a b : Nat} (ha : a < 2 ^ 31) (hb : b < 2 ^ 31) : (nI a = nI b) = (a = b) := propext (nI_eq ha hb)
theorem q_le {a b : Nat} (ha : a < 2 ^ 31) (hb : b < 2 ^ 31) : (nI a ≤ nI b) = (a ≤ b) := propext (nI_leI ha hb)
theorem q_lt {a b : Nat} (ha : a < 2 ^ 31) (hb : b < 2 ^ 31) : (nI a < nI b) = (a < b) := propext (nI_ltI ha hb)
theorem q_eq0 {a : Nat} (ha : a < 2 ^ 31) : (nI a = 0) = (a = 0) := by rw [← nI_0, q_eq ha (by decide)]
theorem q_lt0 {a : Nat} (ha : a < 2 ^ 31) : (nI a < 0) = False := by rw [← nI_0, q_lt ha (by decide)]; simp
theorem q_0le {a : Nat} (ha : a < 2 ^ 31) : (0 ≤ nI a) = True := by rw [← nI_0, q_le (by decide) ha]; simp
theorem q_0lt {a : Nat} (ha : a < 2 ^ 31) : (0 < nI a) = (0 < a) := by rw [← nI_0, q_lt (by decide) ha]
theorem q_le0 {a : Nat} (ha : a < 2 ^ 31) : (nI a ≤ 0) = (a = 0) := by rw [← nI_0, q_le ha (by decide)]; simp
theorem q_min {a b : Nat} (ha : a < 2 ^ 31) (hb : b < 2 ^ 31) : imin (nI a) (nI b) = nI (min a b) := by
  unfold imin; simp only [q_lt hb ha]; split <;> (congr 1; omega)
theorem q_max {a b : Nat} (ha : a < 2 ^ 31) (hb : b < 2 ^ 31) : imax (nI a) (nI b) = nI (max a b) := by
  unfold imax; simp only [q_lt ha hb]; split <;> (congr 1; omega)
theorem q_neg1 {a : Nat} (ha : a < 2 ^ 31) : (nI a = (-1)) = False := eq_false (fun e => by
  have := nI_toInt ha
  rw [e] at this
  have h2 : (-1 : Int32).toInt = -1 := by decide
  omega)
theorem q_n9 {a : Nat} (ha : a < 2 ^ 31) : (nI a = (-9)) = False := eq_false (fun e => by
  have := nI_toInt ha
  rw [e] at this
  have h2 : (-9 : Int32).toInt = -9 := by decide
  omega)
theorem q_ain {S : St} {a n k : Nat} (h : S.1 a = some (.inr (0, n))) (hk : k < n) (hn : n < 2 ^ 31) : ain S a (nI k) := ⟨n, h, vp_in_nI hk hn⟩
theorem q_rin {S : St} {a n k t : Nat} (h : S.1 a = some (.inr (t, n))) (hk : k < n) (hn : n < 2 ^ 31) : rin S t a (nI k) := ⟨n, h, vp_in_nI hk hn⟩
theorem q_subT {a b : Nat} (ha : a < 2 ^ 30) (hb : b < 2 ^ 30) : (nI a - nI b).toInt = (a : Int) - b := pk_sub_toInt ha hb
theorem q_sub0 {a b : Nat} (ha : a < 2 ^ 30) (hb : b < 2 ^ 30) : (nI a - nI b = 0) = (a = b) := propext ⟨fun e => by
  have := q_subT ha hb
  rw [e] at this
  have h2 : (0 : Int32).toInt = 0 := rfl
  omega, fun e => by subst e; simp⟩
theorem q_0sub {a b : Nat} (ha : a < 2 ^ 30) (hb : b < 2 ^ 30) : (0 ≤ nI a - nI b) = (b ≤ a) := propext (by
  rw [Int32.le_iff_toInt_le, q_subT ha hb]
  have h2 : (0 : Int32).toInt = 0 := rfl
  omega)
/-! ONE HEAD: her numbers A (0 kind, 1 figure, 3 letters, 4 field, 5 facing, 6 word, 7 followers, 8 settled), her letters N -/
def HB (A N : Nat → Nat) : Prop := A 0 ≤ 7 ∧ A 1 ≤ 9 ∧ A 3 ≤ 6 ∧ A 4 ≤ 47 ∧ A 5 ≤ 3 ∧ A 6 ≤ 4 ∧ A 7 ≤ 99 ∧ A 8 ≤ 1 ∧ (∀ k, k < A 3 → N k ≤ 25) ∧ 1 ≤ A 3
def stepsF (A : Nat → Nat) : Nat := if A 0 = 1 then 2 else if A 0 = 2 then A 1 / 3 + 1 else if A 0 = 5 then A 3 / 2 else if A 0 = 6 then A 1 / 3 + 2 else if A 0 = 7 then 2 else 1
def weightF (A : Nat → Nat) : Nat := if A 0 = 1 then 2 * (A 1 + 1) else if A 0 = 2 then 9 else if A 0 = 3 then (A 1 + 1) / 2 else if A 0 = 4 then 2 * (A 1 + 1) + 3 else if A 0 = 5 then (A 1 + 1) / 2 + 2 else if A 0 = 6 then 9 - A 1 else if A 0 = 7 then 2 * (A 1 + 1) + 3 else A 1 + 1
def vowF (c : Nat) : Prop := c = 0 ∨ c = 4 ∨ c = 8 ∨ c = 14 ∨ c = 20
def saintF (A : Nat → Nat) (d : Nat) : Nat := if A 7 = 0 then 2 else if d % 4 = 0 then 1 else 0
def veersF (A N : Nat → Nat) (d : Nat) : Nat := if A 0 = 1 then (if d % 4 = 0 then 1 else 0) else if A 0 = 3 then (if d % (A 1 + 2) = 0 then 3 else 0) else if A 0 = 4 then saintF A d else if A 0 = 5 then (if d % (A 1 + 2) = 0 then 4 else 1) else if A 0 = 6 then d % 2 else if A 0 = 7 then (if (N 0 = 0 ∨ N 0 = 4 ∨ N 0 = 8 ∨ N 0 = 14 ∨ N 0 = 20) then 3 else saintF A d) else 0
def enoughF (A : Nat → Nat) : Nat := if A 0 = 0 then 20 else if A 0 = 1 then 40 else if A 0 = 2 then 99 else if A 0 = 4 then 35 else if A 0 = 6 then 49 else if A 0 = 7 then 35 - A 1 / 2 else A 1 + 5
def quartF (w : Nat) : Nat := if w = 1 then 3 else if w = 2 then 1 else if w = 3 then 2 else 0
def hasF (N : Nat → Nat) (c : Nat) : Nat → Bool
  | 0 => false
  | n + 1 => hasF N c n || decide (N n = c)
theorem hasF_iff {N : Nat → Nat} {c : Nat} : ∀ {n : Nat}, hasF N c n = true ↔ ∃ k, k < n ∧ N k = c
  | 0 => by simp [hasF]
  | n + 1 => by
    simp only [hasF, Bool.or_eq_true, hasF_iff (n := n), decide_eq_true_eq]
    constructor
    · rintro (⟨k, h1, h2⟩ | h)
      · exact ⟨k, by omega, h2⟩
      · exact ⟨n, by omega, h⟩
    · rintro ⟨k, h1, h2⟩
      by_cases e : k = n
      · subst e; exact Or.inr h2
      · exact Or.inl ⟨k, by omega, h2⟩
/-- how many letters two names have in common from place k on, f at most -/
def cpF (N N' : Nat → Nat) (n n' : Nat) : Nat → Nat → Nat
  | 0, k => k
  | f + 1, k => if k < n ∧ k < n' ∧ N k = N' k then cpF N N' n n' f (k + 1) else k
/-- the first place from k on where they don't go on alike -/
def stopF (N N' : Nat → Nat) (n n' k : Nat) : Prop := ¬ (k < n ∧ k < n' ∧ N k = N' k)
theorem cpF_spec {N N' : Nat → Nat} {n n' : Nat} : ∀ (f k : Nat), n ≤ k + f → k ≤ cpF N N' n n' f k ∧ stopF N N' n n' (cpF N N' n n' f k) ∧ (∀ j, k ≤ j → j < cpF N N' n n' f k → j < n ∧ j < n' ∧ N j = N' j)
  | 0, k, h => by simp only [cpF, stopF]; exact ⟨Nat.le_refl _, by omega, by omega⟩
  | f + 1, k, h => by
    by_cases c : k < n ∧ k < n' ∧ N k = N' k
    · have ih := cpF_spec (N := N) (N' := N') (n := n) (n' := n') f (k + 1) (by omega)
      simp only [cpF, if_pos c]
      refine ⟨by omega, ih.2.1, fun j h1 h2 => ?_⟩
      by_cases e : j = k
      · subst e; exact c
      · exact ih.2.2 j (by omega) h2
    · simp only [cpF, if_neg c]
      exact ⟨Nat.le_refl _, c, by omega⟩
def cp (A N A' N' : Nat → Nat) : Nat := cpF N N' (A 3) (A' 3) 6 0
/-- a name is ahead of another; they are alike -/
abbrev ahead (A N A' N' : Nat → Nat) : Prop := cp A N A' N' < A' 3 ∧ (A 3 ≤ cp A N A' N' ∨ N (cp A N A' N') < N' (cp A N A' N'))
abbrev alike (A N A' N' : Nat → Nat) : Prop := A 3 ≤ cp A N A' N' ∧ A' 3 ≤ cp A N A' N'
def besF (f d : Nat) : Nat := if d = 0 then (if f < 8 then 99 else f - 8) else if d = 1 then (if f % 8 = 7 then 99 else f + 1) else if d = 2 then (if 40 ≤ f then 99 else f + 8) else if f % 8 = 0 then 99 else f - 1
theorem besF_lt {f d : Nat} (hf : f ≤ 47) : besF f d = 99 ∨ besF f d ≤ 47 := by unfold besF; (repeat' split) <;> omega
