/-! PURE: the reference's night -/
section MNIGHT
variable {S : St} {h : Hp} {m : Nat} {L : Ld}
/-- whether a step is taken, and the land behind it -/
def stepF (i : Nat) (L : Ld) : Ld := if besF (L (5 + 2 * i) 4) (L (5 + 2 * i) 5) = 99 then updL L (5 + 2 * i) 5 ((L (5 + 2 * i) 5 + 2) % 4) else if L 1 (besF (L (5 + 2 * i) 4) (L (5 + 2 * i) 5)) = 0 then updL L (5 + 2 * i) 4 (besF (L (5 + 2 * i) 4) (L (5 + 2 * i) 5)) else updL L 1 (besF (L (5 + 2 * i) 4) (L (5 + 2 * i) 5)) (L 1 (besF (L (5 + 2 * i) 4) (L (5 + 2 * i) 5)) - weightF (L (5 + 2 * i)))
def onF (i : Nat) (L : Ld) : Prop := ¬ besF (L (5 + 2 * i) 4) (L (5 + 2 * i) 5) = 99 ∧ L 1 (besF (L (5 + 2 * i) 4) (L (5 + 2 * i) 5)) = 0
theorem goF_on {i n : Nat} {L : Ld} (g : onF i L) : goF i (n + 1) L = goF i n (stepF i L) := by
  simp only [goF, stepF]; rw [if_neg g.1, if_pos g.2, if_neg g.1, if_pos g.2]
theorem goF_off {i n : Nat} {L : Ld} (g : ¬ onF i L) : goF i (n + 1) L = stepF i L := by
  simp only [goF, stepF]
  by_cases c : besF (L (5 + 2 * i) 4) (L (5 + 2 * i) 5) = 99
  · rw [if_pos c, if_pos c]
  · rw [if_neg c, if_neg c]
    by_cases c2 : L 1 (besF (L (5 + 2 * i) 4) (L (5 + 2 * i) 5)) = 0
    · exact absurd ⟨c, c2⟩ g
    · rw [if_neg c2, if_neg c2]
theorem y_step (X : ML_ S h m L) {i : Nat} (hi : i < L 0 4) {Q : Int32 → Hp → Prop} (h1 : ∀ h', onF i L → ML_ S h' m (stepF i L) → FrM m h h' → Q (nI 1) h') (h0 : ∀ h', ¬ onF i L → ML_ S h' m (stepF i L) → FrM m h h' → Q (nI 0) h') : w_X7_takesStep S m (nI i) h Q := by
  have l := X.1
  have w := X.2.2.1
  have HBx := MLb X hi
  have b4 := HBx.2.2.2.1
  have b5 := HBx.2.2.2.2.1
  unfold w_X7_takesStep
  simp only [lr6 l, lr7 l, lr1 l, q_ix (show i < 2 ^ 31 by omega), MLe X hi (show KC 4 7 by unfold KC; omega), MLe X hi (show KC 5 8 by unfold KC; omega)]
  refine ⟨l.1, q_ain (la6 l) (by omega) (by decide), q_ain (la7 l) (by omega) (by decide), ?_⟩
  refine y_beside b4 b5 (fun e => ?_) (fun e => ?_)
  · rw [if_neg (by decide)]
    refine y_turnsBack X hi (h0 _ (fun q => q.1 e) ?_ (FrM_up FrM_rf (by decide)))
    unfold stepF; rw [if_pos e]
    exact MLsetH X hi (show KC 5 8 by unfold KC; omega) (by decide) (HB_up HBx (by omega))
  · have hne : ¬ besF (L (5 + 2 * i) 4) (L (5 + 2 * i) 5) = 99 := by omega
    unfold stepF at h0 h1
    rw [if_neg hne] at h0 h1
    simp only [onF] at h0 h1
    have wl := X.2.2.2.2.1 _ (show besF (L (5 + 2 * i) 4) (L (5 + 2 * i) 5) < 48 by omega)
    have rl := (X.2.1.2.1 _ (show besF (L (5 + 2 * i) 4) (L (5 + 2 * i) 5) < 48 by omega)).1
    generalize besF (L (5 + 2 * i) 4) (L (5 + 2 * i) 5) = nx at *
    simp only [q_0le (show nx < 2 ^ 31 by omega), if_true, q_ix (show nx < 2 ^ 31 by omega), rl]
    refine ⟨q_ain (la1 l) (by omega) (by decide), ?_⟩
    simp only [q_le0 (show L 1 nx < 2 ^ 31 by omega)]
    by_cases c : L 1 nx = 0
    · rw [if_pos c]
      rw [if_pos c] at h1
      exact h1 _ ⟨hne, c⟩ (MLsetH X hi (show KC 4 7 by unfold KC; omega) (by decide) (HB_up HBx (by omega))) (FrM_up FrM_rf (by decide))
    · rw [if_neg c]
      rw [if_neg c] at h0
      have hw := weightF_le HBx
      refine y_weight X hi ?_
      simp only [q_le (show L 1 nx < 2 ^ 31 by omega) (show weightF (L (5 + 2 * i)) < 2 ^ 31 by omega)]
      have X2 := MLsetF X (o := 1) (f := nx) (v := L 1 nx - weightF (L (5 + 2 * i))) (Or.inl rfl) (by omega) (by omega)
      have F2 : FrM m h (up h (m + 2) nx (nI (L 1 nx - weightF (L (5 + 2 * i))))) := FrM_up FrM_rf (by decide)
      by_cases c2 : L 1 nx ≤ weightF (L (5 + 2 * i))
      · rw [if_pos c2]
        rw [show L 1 nx - weightF (L (5 + 2 * i)) = 0 by omega] at *
        exact h0 _ (fun q => c q.2) X2 F2
      · rw [if_neg c2]
        refine y_weight X hi ?_
        rw [rl, q_sub (by omega)]
        exact h0 _ (fun q => c q.2) X2 F2
theorem y_hasLetter (X : ML_ S h m L) {i c : Nat} (hi : i < L 0 4) (hc : c < 2 ^ 31) {Q : Int32 → Hp → Prop} (h1 : hasF (L (6 + 2 * i)) c (L (5 + 2 * i) 3) = true → Q (nI 1) h) (h0 : hasF (L (6 + 2 * i)) c (L (5 + 2 * i) 3) = false → Q (nI 0) h) : w_X7_hasLetter S m (nI i) (nI c) h Q := by
  have l := X.1
  have w := X.2.2.1
  obtain ⟨b0, b1, b3, b4, b5, b6, b7, b8, bn, b9⟩ := MLb X hi
  unfold w_X7_hasLetter w_X7_hasLetter_c2
  intro P hP
  have K := q_upto (Pr := fun k => hasF (L (6 + 2 * i)) c k = false → P (nI k) h) (n := L (5 + 2 * i) 3) (by
    intro hf
    refine hP _ _ ⟨l.1, ?_⟩
    simp only [lr11 l, q_ix (show i < 2 ^ 31 by omega), MLe X hi (show KC 3 12 by unfold KC; omega)]
    refine ⟨q_ain (la11 l) (by omega) (by decide), ?_⟩
    simp only [q_le (show L (5 + 2 * i) 3 < 2 ^ 31 by omega) (show L (5 + 2 * i) 3 < 2 ^ 31 by omega)]
    rw [if_pos (Nat.le_refl _)]
    exact h0 hf) (by
    intro k hk ih hf
    refine hP _ _ ⟨l.1, ?_⟩
    simp only [lr11 l, lr12 l, q_ix (show i < 2 ^ 31 by omega), MLe X hi (show KC 3 12 by unfold KC; omega), pk_mul, nI_add, q_ix (show 6 * i + k < 2 ^ 31 by omega), MLn X hi hk]
    refine ⟨q_ain (la11 l) (by omega) (by decide), ?_⟩
    have := bn k hk
    simp only [q_le (show L (5 + 2 * i) 3 < 2 ^ 31 by omega) (show k < 2 ^ 31 by omega), q_eq (show L (6 + 2 * i) k < 2 ^ 31 by omega) hc]
    rw [if_neg (by omega)]
    refine ⟨q_ain (la12 l) (by omega) (by decide), ?_⟩
    by_cases g2 : L (6 + 2 * i) k = c
    · rw [if_pos g2]
      exact h1 (hasF_iff.mpr ⟨k, hk, g2⟩)
    · rw [if_neg g2]
      exact ih (by simp only [hasF, hf, Bool.false_or]; exact decide_eq_false g2))
  exact K 0 (by omega) rfl
theorem y_follow (X : ML_ S h m L) {i : Nat} (hi : i < L 0 4) {Q : Hp → Prop} (hQ : ∀ h', ML_ S h' m (gatherF i L) → FrM m h h' → Q h') : w_X7_isFollowed S m (nI i) h Q := by
  have l := X.1
  have w := X.2.2.1
  have HBx := MLb X hi
  have b4 := HBx.2.2.2.1
  have b7 := HBx.2.2.2.2.2.2.1
  have wl := X.2.2.2.2.1 _ (show L (5 + 2 * i) 4 < 48 by omega)
  have rl := X.2.1.2.1 _ (show L (5 + 2 * i) 4 < 48 by omega)
  unfold w_X7_isFollowed
  simp only [lr6 l, lr3 l, lr9 l, lr2 l, q_ix (show i < 2 ^ 31 by omega), MLe X hi (show KC 4 7 by unfold KC; omega), q_ix (show L (5 + 2 * i) 4 < 2 ^ 31 by omega), rl.2.2]
  refine ⟨l.1, q_ain (la6 l) (by omega) (by decide), q_ain (la3 l) (by omega) (by decide), ?_⟩
  unfold gatherF at hQ
  refine y_hasLetter X hi (by omega) (fun e => ?_) (fun e => ?_)
  · rw [if_neg (by decide)]
    rw [if_pos e] at hQ
    rw [MLe X hi (show KC 7 10 by unfold KC; omega), rl.2.1, nI_add]
    refine ⟨q_ain (la9 l) (by omega) (by decide), q_ain (la2 l) (by omega) (by decide), y_held (by omega) (by decide) ?_⟩
    have X2 := MLsetH X hi (show KC 7 10 by unfold KC; omega) (v := min (L (5 + 2 * i) 7 + L 2 (L (5 + 2 * i) 4)) 99) (by decide) (HB_up HBx (by omega))
    have X3 := MLsetF X2 (o := 2) (f := L (5 + 2 * i) 4) (v := 0) (by omega) (by omega) (by omega)
    exact hQ _ X3 (FrM_up (FrM_up FrM_rf (by decide)) (by decide))
  · rw [if_pos (by decide)]
    rw [if_neg (by rw [e]; decide)] at hQ
    exact hQ h X FrM_rf
theorem y_sameFrom (X : ML_ S h m L) {i j : Nat} (hi : i < L 0 4) (hj : j < L 0 4) {Q : Int32 → Hp → Prop} (hQ : Q (nI (cp (L (5 + 2 * i)) (L (6 + 2 * i)) (L (5 + 2 * j)) (L (6 + 2 * j)))) h) : w_X7_sameFrom S m (nI i) (nI j) h Q := by
  have l := X.1
  have w := X.2.2.1
  obtain ⟨b0, b1, b3, b4, b5, b6, b7, b8, bn, b9⟩ := MLb X hi
  obtain ⟨b0', b1', b3', b4', b5', b6', b7', b8', bn', b9'⟩ := MLb X hj
  unfold w_X7_sameFrom w_X7_sameFrom_c2
  intro P hP
  have K := q_upto (Pr := fun k => (∀ q, q < k → q < L (5 + 2 * i) 3 ∧ q < L (5 + 2 * j) 3 ∧ L (6 + 2 * i) q = L (6 + 2 * j) q) → P (nI k) h) (n := L (5 + 2 * i) 3) (by
    intro hk
    refine hP _ _ ⟨l.1, ?_⟩
    simp only [lr11 l, q_ix (show i < 2 ^ 31 by omega), MLe X hi (show KC 3 12 by unfold KC; omega)]
    refine ⟨q_ain (la11 l) (by omega) (by decide), ?_⟩
    simp only [q_le (show L (5 + 2 * i) 3 < 2 ^ 31 by omega) (show L (5 + 2 * i) 3 < 2 ^ 31 by omega)]
    rw [if_pos (Nat.le_refl _), ← q_cpeq (N := L (6 + 2 * i)) (N' := L (6 + 2 * j)) b3 hk (by omega)]
    exact hQ) (by
    intro k hkn ih hk
    refine hP _ _ ⟨l.1, ?_⟩
    simp only [lr11 l, lr12 l, q_ix (show i < 2 ^ 31 by omega), q_ix (show j < 2 ^ 31 by omega), MLe X hi (show KC 3 12 by unfold KC; omega), MLe X hj (show KC 3 12 by unfold KC; omega), pk_mul, nI_add, q_ix (show 6 * i + k < 2 ^ 31 by omega), q_ix (show 6 * j + k < 2 ^ 31 by omega), MLn X hi hkn]
    refine ⟨q_ain (la11 l) (by omega) (by decide), ?_⟩
    simp only [q_le (show L (5 + 2 * i) 3 < 2 ^ 31 by omega) (show k < 2 ^ 31 by omega), q_le (show L (5 + 2 * j) 3 < 2 ^ 31 by omega) (show k < 2 ^ 31 by omega)]
    rw [if_neg (by omega)]
    refine ⟨q_ain (la11 l) (by omega) (by decide), ?_⟩
    by_cases g : L (5 + 2 * j) 3 ≤ k
    · rw [if_pos g, ← q_cpeq (N := L (6 + 2 * i)) (N' := L (6 + 2 * j)) b3 hk (by omega)]
      exact hQ
    · rw [if_neg g, MLn X hj (by omega)]
      refine ⟨q_ain (la12 l) (by omega) (by decide), q_ain (la12 l) (by omega) (by decide), ?_⟩
      have n1 := bn k hkn
      have n2 := bn' k (by omega)
      simp only [q_eq (show L (6 + 2 * i) k < 2 ^ 31 by omega) (show L (6 + 2 * j) k < 2 ^ 31 by omega)]
      by_cases g2 : L (6 + 2 * i) k = L (6 + 2 * j) k
      · rw [if_pos g2]
        exact ih (fun q hq => by
          by_cases eq : q = k
          · subst eq; exact ⟨hkn, by omega, g2⟩
          · exact hk q (by omega))
      · rw [if_neg g2, ← q_cpeq (N := L (6 + 2 * i)) (N' := L (6 + 2 * j)) b3 hk (by omega)]
        exact hQ)
  exact K 0 (by omega) (fun q hq => absurd hq (by omega))
end MNIGHT
