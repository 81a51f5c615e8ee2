/-! PURE: the class's Head -/
def XH (S : St) (h : Hp) (a : Nat) (A N : Nat → Nat) : Prop := ob S a 0 ∧ S.2 a 2 = a + 1 ∧ S.1 (a + 1) = some (.inr (0, 6)) ∧ (∀ k, k ≤ 8 → k ≠ 2 → h a k = nI (A k)) ∧ (∀ k, k < A 3 → h (a + 1) k = nI (N k)) ∧ HB A N
section XHEAD
variable {S : St} {h : Hp} {a : Nat} {A N : Nat → Nat}
theorem XHe (H : XH S h a A N) {k : Nat} (h1 : k ≤ 8) (h2 : k ≠ 2) : h a k = nI (A k) := H.2.2.2.1 k h1 h2
theorem x_steps (H : XH S h a A N) {Q : Int32 → Hp → Prop} (hQ : Q (nI (stepsF A)) h) : w_X0_steps S a h Q := by
  obtain ⟨ho, -, -, e, -, b0, b1, b3, b4, b5, b6, b7, b8, bn⟩ := H
  unfold w_X0_steps
  refine ⟨ho, ?_⟩
  simp (disch := omega) only [e 0 (by decide) (by decide), e 1 (by decide) (by decide), e 3 (by decide) (by decide), q_eq, q_div, nI_add]
  unfold stepsF at hQ
  grind
theorem x_weight (H : XH S h a A N) {Q : Int32 → Hp → Prop} (hQ : Q (nI (weightF A)) h) : w_X0_weight S a h Q := by
  obtain ⟨ho, -, -, e, -, b0, b1, b3, b4, b5, b6, b7, b8, bn⟩ := H
  unfold w_X0_weight
  refine ⟨ho, ?_⟩
  simp (disch := omega) only [e 0 (by decide) (by decide), e 1 (by decide) (by decide), q_eq, q_div, q_sub, nI_add, pk_mul]
  unfold weightF at hQ
  grind
theorem x_isVowel {c : Nat} (hc : c ≤ 25) {Q : Int32 → Hp → Prop} (h1 : (c = 0 ∨ c = 4 ∨ c = 8 ∨ c = 14 ∨ c = 20) → Q (nI 1) h) (h0 : ¬ (c = 0 ∨ c = 4 ∨ c = 8 ∨ c = 14 ∨ c = 20) → Q (nI 0) h) : w_X0_isVowel S (nI c) h Q := by
  unfold w_X0_isVowel
  simp (disch := omega) only [q_eq, nI_add]
  grind
theorem x_veers (H : XH S h a A N) {d : Nat} (hd : d < 2 ^ 30) {Q : Int32 → Hp → Prop} (hQ : Q (nI (veersF A N d)) h) : w_X0_veers S a (nI d) h Q := by
  have K : ∀ (q sa ch : Nat), q ≤ 5 → sa ≤ 5 → ch ≤ 5 → (q = if d % 4 = 0 then 1 else 0) → (sa = saintF A d) → (ch = if d % (A 1 + 2) = 0 then 3 else 0) → w_X0_veers_c41 S a (nI d) (nI q) (nI ch) (nI sa) h Q := by
    intro q sa ch bq bs bc eq es ec
    obtain ⟨ho, r2, s1, e, en, b0, b1, b3, b4, b5, b6, b7, b8, bn, b9⟩ := H
    unfold w_X0_veers_c41
    refine ⟨ho, ?_⟩
    simp (disch := omega) only [e 0 (by decide) (by decide), e 3 (by decide) (by decide), q_eq, q_rem, q_eq0, q_le0, nI_add, r2, q_ix]
    unfold veersF at hQ
    subst es
    by_cases k7 : A 0 = 7
    · simp only [k7] at hQ ⊢
      simp only [if_neg (show ¬ A 3 = 0 by omega)]
      refine ⟨q_ain s1 (by decide) (by decide), ?_⟩
      rw [en 0 (by omega)]
      refine x_isVowel (bn 0 (by omega)) (fun v => ?_) (fun v => ?_)
      · simp (disch := omega) only [q_eq0]
        simpa [v] using hQ
      · simp (disch := omega) only [q_eq0]
        simpa [v] using hQ
    · grind
  obtain ⟨ho, r2, s1, e, en, b0, b1, b3, b4, b5, b6, b7, b8, bn, b9⟩ := H
  have K2 : ∀ q, q ≤ 5 → (q = if d % 4 = 0 then 1 else 0) → w_X0_veers_c11 S a (nI d) (nI q) h Q := by
    intro q bq eq
    unfold w_X0_veers_c11
    refine ⟨ho, ?_⟩
    have hm := Nat.mod_lt d (show 0 < A 1 + 2 by omega)
    simp (disch := omega) only [e 1 (by decide) (by decide), e 7 (by decide) (by decide), nI_add, q_eq0, q_rem]
    refine ⟨by omega, ?_⟩
    by_cases c : d % (A 1 + 2) = 0 <;> by_cases c7 : A 7 = 0 <;> simp only [c, c7, if_true, if_false] <;> refine K _ _ _ bq ?_ (by omega) eq ?_ ?_ <;> simp [saintF, c, c7, eq] <;> (try split) <;> omega
  unfold w_X0_veers
  simp (disch := omega) only [q_rem, q_eq0]
  by_cases c : d % 4 = 0
  · rw [if_pos c]; exact K2 1 (by decide) (by simp [c])
  · rw [if_neg c]; exact K2 0 (by decide) (by simp [c])
theorem x_enough (H : XH S h a A N) {Q : Int32 → Hp → Prop} (hQ : Q (nI (enoughF A)) h) : w_X0_enough S a h Q := by
  obtain ⟨ho, -, -, e, -, b0, b1, b3, b4, b5, b6, b7, b8, bn⟩ := H
  unfold w_X0_enough
  refine ⟨ho, ?_⟩
  simp (disch := omega) only [e 0 (by decide) (by decide), e 1 (by decide) (by decide), q_eq, q_div, q_sub, nI_add]
  unfold enoughF at hQ
  grind
theorem x_goes (H : XH S h a A N) {Q : Int32 → Hp → Prop} (h1 : (A 8 = 0 ∧ A 6 ≠ 4) → Q (nI 1) h) (h0 : ¬ (A 8 = 0 ∧ A 6 ≠ 4) → Q (nI 0) h) : w_X0_goes S a h Q := by
  obtain ⟨ho, -, -, e, -, b0, b1, b3, b4, b5, b6, b7, b8, bn⟩ := H
  unfold w_X0_goes
  refine ⟨ho, ?_⟩
  simp (disch := omega) only [e 8 (by decide) (by decide), e 6 (by decide) (by decide), q_eq, q_eq0]
  grind
theorem x_quart (H : XH S h a A N) {Q : Int32 → Hp → Prop} (hQ : Q (nI (quartF (A 6))) h) : w_X0_quartersByWord S a h Q := by
  obtain ⟨ho, -, -, e, -, b0, b1, b3, b4, b5, b6, b7, b8, bn⟩ := H
  unfold w_X0_quartersByWord
  refine ⟨ho, ?_⟩
  simp (disch := omega) only [e 6 (by decide) (by decide), q_eq]
  unfold quartF at hQ
  grind
theorem x_turn (H : XH S h a A N) {q : Nat} (hq : q < 1000) {Q : Hp → Prop} (hQ : Q (up h a 5 (nI ((A 5 + q) % 4)))) : w_X0_turn S a (nI q) h Q := by
  obtain ⟨ho, -, -, e, -, b0, b1, b3, b4, b5, b6, b7, b8, bn⟩ := H
  unfold w_X0_turn
  refine ⟨ho, ?_⟩
  simp (disch := omega) only [e 5 (by decide) (by decide), nI_add, q_rem]
  exact hQ
theorem x_gain (ho : ob S a 0) {f : Nat} (e : h a 7 = nI f) (hf : f ≤ 99) {q : Nat} (hq : q < 1000) {Q : Hp → Prop} (hQ : Q (up h a 7 (nI (min (f + q) 99)))) : w_X0_gain S a (nI q) h Q := by
  unfold w_X0_gain
  refine ⟨ho, ?_⟩
  rw [e, nI_add, q_min (by omega) (by omega)]
  exact hQ
theorem x_hasFull (H : XH S h a A N) {Q : Int32 → Hp → Prop} (h1 : A 3 = 6 → Q (nI 1) h) (h0 : A 3 < 6 → Q (nI 0) h) : w_X0_hasFullName S a h Q := by
  obtain ⟨ho, -, -, e, -, b0, b1, b3, b4, b5, b6, b7, b8, bn⟩ := H
  unfold w_X0_hasFullName
  refine ⟨ho, ?_⟩
  simp (disch := omega) only [e 3 (by decide) (by decide), q_lt]
  grind
theorem x_hasLetter (H : XH S h a A N) {c : Nat} (hc : c < 2 ^ 31) {Q : Int32 → Hp → Prop} (h1 : hasF N c (A 3) = true → Q (nI 1) h) (h0 : hasF N c (A 3) = false → Q (nI 0) h) : w_X0_hasLetter S a (nI c) h Q := by
  obtain ⟨ho, r2, s1, e, en, b0, b1, b3, b4, b5, b6, b7, b8, bn, b9⟩ := H
  unfold w_X0_hasLetter w_X0_hasLetter_c2
  intro P hP
  have K : ∀ (f k : Nat), A 3 ≤ k + f → k ≤ A 3 → hasF N c k = false → P (nI k) h := by
    intro f
    induction f with
    | zero =>
      intro k h2 h3 h4
      refine hP _ _ ⟨ho, ?_⟩
      simp only [e 3 (by decide) (by decide), q_le (show A 3 < 2 ^ 31 by omega) (show k < 2 ^ 31 by omega)]
      rw [if_pos (by omega)]
      exact h0 (by rw [show A 3 = k by omega]; exact h4)
    | succ f ih =>
      intro k h2 h3 h4
      refine hP _ _ ⟨ho, ?_⟩
      simp only [e 3 (by decide) (by decide), q_le (show A 3 < 2 ^ 31 by omega) (show k < 2 ^ 31 by omega)]
      by_cases g : A 3 ≤ k
      · rw [if_pos g]
        exact h0 (by rw [show A 3 = k by omega]; exact h4)
      · rw [if_neg g, r2]
        refine ⟨q_ain s1 (by omega) (by omega), ?_⟩
        simp only [q_ix (show k < 2 ^ 31 by omega), en k (by omega)]
        have := bn k (by omega)
        simp only [q_eq (show N k < 2 ^ 31 by omega) hc]
        by_cases g2 : N k = c
        · rw [if_pos g2]
          exact h1 (hasF_iff.mpr ⟨k, by omega, g2⟩)
        · rw [if_neg g2, nI_add]
          exact ih (k + 1) (by omega) (by omega) (by simp only [hasF, h4, Bool.false_or]; exact decide_eq_false g2)
  exact K 6 0 (by omega) (by omega) rfl
end XHEAD
