/-! PURE: the reference's meetings and whole nights -/
section MMEET
variable {S : St} {h : Hp} {m : Nat} {L : Ld}
theorem q_m1 {a : Nat} (h : a < 2 ^ 31) : (-1 : Int32) - nI a < 0 ∧ (-1 : Int32) - nI a ≠ 0 := by
  have e : (-1 : Int32) - nI a = -nI (a + 1) := by
    rw [← nI_add, show nI 1 = 1 from rfl]
    grind
  rw [e]
  have h2 : (-nI (a + 1)).toInt = -((a + 1 : Nat) : Int) := by
    by_cases c : a + 1 < 2 ^ 31
    · exact sb_negT c
    · have : a + 1 = 2 ^ 31 := by omega
      rw [this]; decide
  constructor
  · rw [Int32.lt_iff_toInt_lt, h2]
    have : (0 : Int32).toInt = 0 := rfl
    omega
  · intro q
    rw [q] at h2
    have : (0 : Int32).toInt = 0 := rfl
    omega
theorem q_p1 {a : Nat} (h : a < 2 ^ 30) : (0 : Int32) ≤ nI a - (-1) ∧ nI a - (-1) ≠ 0 := by
  have e : nI a - (-1 : Int32) = nI (a + 1) := by
    rw [← nI_add, show nI 1 = 1 from rfl]
    grind
  rw [e]
  refine ⟨by rw [q_0le (by omega)]; trivial, fun q => ?_⟩
  rw [q_eq0 (by omega)] at q
  omega
theorem y_compares (X : ML_ S h m L) {i j : Nat} (hi : i < L 0 4) (hj : j < L 0 4) {Q : Int32 → Hp → Prop} (hQ : ∀ r : Int32, (0 ≤ r ↔ ¬ ahead (L (5 + 2 * i)) (L (6 + 2 * i)) (L (5 + 2 * j)) (L (6 + 2 * j))) → (r = 0 ↔ alike (L (5 + 2 * i)) (L (6 + 2 * i)) (L (5 + 2 * j)) (L (6 + 2 * j))) → Q r h) : w_X7_compares S m (nI i) (nI j) h Q := by
  have l := X.1
  have w := X.2.2.1
  have Bi := MLb X hi
  have Bj := MLb X hj
  obtain ⟨b0, b1, b3, b4, b5, b6, b7, b8, bn, b9⟩ := Bi
  obtain ⟨b0', b1', b3', b4', b5', b6', b7', b8', bn', b9'⟩ := Bj
  obtain ⟨-, g2, g3⟩ := cpF_spec (N := L (6 + 2 * i)) (N' := L (6 + 2 * j)) (n := L (5 + 2 * i) 3) (n' := L (5 + 2 * j) 3) 6 0 (by omega)
  have g2 : ¬ (cp (L (5 + 2 * i)) (L (6 + 2 * i)) (L (5 + 2 * j)) (L (6 + 2 * j)) < L (5 + 2 * i) 3 ∧ cp (L (5 + 2 * i)) (L (6 + 2 * i)) (L (5 + 2 * j)) (L (6 + 2 * j)) < L (5 + 2 * j) 3 ∧ L (6 + 2 * i) (cp (L (5 + 2 * i)) (L (6 + 2 * i)) (L (5 + 2 * j)) (L (6 + 2 * j))) = L (6 + 2 * j) (cp (L (5 + 2 * i)) (L (6 + 2 * i)) (L (5 + 2 * j)) (L (6 + 2 * j)))) := g2
  have g4 : cp (L (5 + 2 * i)) (L (6 + 2 * i)) (L (5 + 2 * j)) (L (6 + 2 * j)) ≤ 6 := by
    rcases Nat.eq_zero_or_pos (cp (L (5 + 2 * i)) (L (6 + 2 * i)) (L (5 + 2 * j)) (L (6 + 2 * j))) with q | q
    · omega
    · have := g3 (cp (L (5 + 2 * i)) (L (6 + 2 * i)) (L (5 + 2 * j)) (L (6 + 2 * j)) - 1) (by omega) (Nat.sub_lt q (by decide))
      omega
  unfold ahead alike at hQ
  unfold w_X7_compares
  refine ⟨l.1, y_sameFrom X hi hj ?_⟩
  generalize cp (L (5 + 2 * i)) (L (6 + 2 * i)) (L (5 + 2 * j)) (L (6 + 2 * j)) = k at *
  simp only [lr11 l, lr12 l, q_ix (show i < 2 ^ 31 by omega), MLe X hi (show KC 3 12 by unfold KC; omega), pk_mul, nI_add, q_ix (show 6 * i + k < 2 ^ 31 by omega)]
  refine ⟨q_ain (la11 l) (by omega) (by decide), ?_⟩
  simp only [q_le (show L (5 + 2 * i) 3 < 2 ^ 31 by omega) (show k < 2 ^ 31 by omega)]
  have T : ∀ s0 : Int32, (L (5 + 2 * j) 3 ≤ k → Q (s0 - (-1)) h) → (k < L (5 + 2 * j) 3 → Q (s0 - nI (L (6 + 2 * j) k)) h) → w_X7_compares_c32 S m (nI j) (nI k) s0 h Q := by
    intro s0 t1 t2
    unfold w_X7_compares_c32
    simp only [lr11 l, lr12 l, q_ix (show j < 2 ^ 31 by omega), MLe X hj (show KC 3 12 by unfold KC; omega), pk_mul, nI_add, q_ix (show 6 * j + k < 2 ^ 31 by omega)]
    refine ⟨l.1, q_ain (la11 l) (by omega) (by decide), ?_⟩
    simp only [q_le (show L (5 + 2 * j) 3 < 2 ^ 31 by omega) (show k < 2 ^ 31 by omega)]
    by_cases c : L (5 + 2 * j) 3 ≤ k
    · rw [if_pos c]; exact t1 c
    · rw [if_neg c, MLn X hj (by omega)]
      exact ⟨q_ain (la12 l) (by omega) (by decide), t2 (by omega)⟩
  by_cases c : L (5 + 2 * i) 3 ≤ k
  · rw [if_pos c]
    refine T _ (fun c2 => ?_) (fun c2 => ?_)
    · exact hQ _ ⟨fun _ => by omega, fun _ => by decide⟩ ⟨fun _ => ⟨c, c2⟩, fun _ => by decide⟩
    · have bb := bn' k c2
      have z := q_m1 (show L (6 + 2 * j) k < 2 ^ 31 by omega)
      exact hQ _ ⟨fun q => absurd z.1 (Int32.not_lt.mpr q), fun q => absurd ⟨c2, Or.inl c⟩ q⟩ ⟨fun q => absurd q z.2, fun q => absurd q.2 (by omega)⟩
  · rw [if_neg c, MLn X hi (by omega)]
    have bb := bn k (by omega)
    refine ⟨q_ain (la12 l) (by omega) (by decide), T _ (fun c2 => ?_) (fun c2 => ?_)⟩
    · have z := q_p1 (show L (6 + 2 * i) k < 2 ^ 30 by omega)
      exact hQ _ ⟨fun _ => by omega, fun _ => z.1⟩ ⟨fun q => absurd q z.2, fun q => absurd q.1 c⟩
    · have bb' := bn' k c2
      refine hQ _ ?_ ?_
      · rw [q_0sub (by omega) (by omega)]; omega
      · rw [q_sub0 (by omega) (by omega)]; omega
theorem y_lesser (X : ML_ S h m L) {i j : Nat} (hi : i < L 0 4) (hj : j < L 0 4) {Q : Int32 → Hp → Prop} (h1 : lessF L i j = true → Q (nI i) h) (h0 : ¬ lessF L i j = true → Q (nI j) h) : w_X7_lesserOf S m (nI i) (nI j) h Q := by
  have l := X.1
  have w := X.2.2.1
  have wi := weightF_le (MLb X hi)
  have wj := weightF_le (MLb X hj)
  unfold w_X7_lesserOf
  refine ⟨l.1, y_weight X hi (y_weight X hj ?_)⟩
  simp only [q_eq (show weightF (L (5 + 2 * i)) < 2 ^ 31 by omega) (show weightF (L (5 + 2 * j)) < 2 ^ 31 by omega)]
  by_cases cw : weightF (L (5 + 2 * i)) = weightF (L (5 + 2 * j))
  · rw [if_pos cw]
    refine y_compares X hi hj (fun r r1 r2 => ?_)
    by_cases ca : alike (L (5 + 2 * i)) (L (6 + 2 * i)) (L (5 + 2 * j)) (L (6 + 2 * j))
    · rw [if_pos (r2.mpr ca)]
      simp only [q_le (show i < 2 ^ 31 by omega) (show j < 2 ^ 31 by omega)]
      have la := lessF_a cw ca
      by_cases cj : i ≤ j
      · rw [if_pos cj]; exact h0 (by rw [la]; omega)
      · rw [if_neg cj]; exact h1 (by rw [la]; omega)
    · rw [if_neg (fun q => ca (r2.mp q))]
      have ln := lessF_n cw ca
      by_cases c0 : 0 ≤ r
      · rw [if_pos c0]; exact h0 (by rw [ln]; exact r1.mp c0)
      · rw [if_neg c0]
        refine h1 (by rw [ln]; exact Classical.byContradiction fun q => c0 (r1.mpr q))
  · rw [if_neg cw]
    refine y_weight X hi (y_weight X hj ?_)
    have lw := lessF_w cw
    simp only [q_le (show weightF (L (5 + 2 * j)) < 2 ^ 31 by omega) (show weightF (L (5 + 2 * i)) < 2 ^ 31 by omega)]
    by_cases c0 : weightF (L (5 + 2 * j)) ≤ weightF (L (5 + 2 * i))
    · rw [if_pos c0]; exact h0 (by rw [lw]; omega)
    · rw [if_neg c0]; exact h1 (by rw [lw]; omega)
theorem y_metBy (X : ML_ S h m L) {i : Nat} (hi : i < L 0 4) {Q : Int32 → Hp → Prop} (h0 : metF L i (L 0 4) 0 = 99 → Q (-9) h) (h1 : ∀ j, j < L 0 4 → j ≠ i → metF L i (L 0 4) 0 = j → Q (nI j) h) : w_X7_metBy S m (nI i) h Q := by
  have l := X.1
  have w := X.2.2.1
  unfold w_X7_metBy w_X7_metBy_c2
  intro P hP
  have K : ∀ (f k : Nat), k + f = L 0 4 → metF L i (L 0 4) 0 = metF L i f k → P (nI k) h := by
    intro f
    induction f with
    | zero =>
      intro k hk hm
      refine hP _ _ ⟨l.1, ?_⟩
      rw [X.2.1.1.1]
      simp only [q_le (show L 0 4 < 2 ^ 31 by omega) (show k < 2 ^ 31 by omega)]
      rw [if_pos (by omega)]
      exact h0 hm
    | succ f ih =>
      intro k hk hm
      have hk4 : k < L 0 4 := by omega
      have bk := MLb X hk4
      have bi := MLb X hi
      refine hP _ _ ⟨l.1, ?_⟩
      rw [X.2.1.1.1]
      simp only [q_le (show L 0 4 < 2 ^ 31 by omega) (show k < 2 ^ 31 by omega), q_eq (show k < 2 ^ 31 by omega) (show i < 2 ^ 31 by omega), nI_add, lr10 l, lr6 l, q_ix (show k < 2 ^ 31 by omega), q_ix (show i < 2 ^ 31 by omega), MLe X hk4 (show KC 8 11 by unfold KC; omega), MLe X hk4 (show KC 4 7 by unfold KC; omega), MLe X hi (show KC 4 7 by unfold KC; omega)]
      rw [if_neg (by omega)]
      by_cases c : k = i
      · rw [if_pos c]
        refine ih (k + 1) (by omega) ?_
        rw [hm]; simp only [metF]; rw [if_neg (by omega)]
      · rw [if_neg c]
        have b4 := bk.2.2.2.1
        have b4' := bi.2.2.2.1
        have b8 := bk.2.2.2.2.2.2.2.1
        refine ⟨q_ain (la10 l) (by omega) (by decide), ?_⟩
        simp only [q_eq (show L (5 + 2 * k) 4 < 2 ^ 31 by omega) (show L (5 + 2 * i) 4 < 2 ^ 31 by omega), q_eq0 (show L (5 + 2 * k) 8 < 2 ^ 31 by omega)]
        by_cases c3 : L (5 + 2 * k) 8 = 0
        · rw [if_pos c3]
          refine ⟨q_ain (la6 l) (by omega) (by decide), q_ain (la6 l) (by omega) (by decide), ?_⟩
          by_cases c2 : L (5 + 2 * k) 4 = L (5 + 2 * i) 4
          · rw [if_pos c2]
            refine h1 k (by omega) c ?_
            rw [hm]; simp only [metF]; rw [if_pos ⟨c, c2, c3⟩]
          · rw [if_neg c2]
            refine ih (k + 1) (by omega) ?_
            rw [hm]; simp only [metF]; rw [if_neg (fun q => c2 q.2.1)]
        · rw [if_neg c3]
          refine ih (k + 1) (by omega) ?_
          rw [hm]; simp only [metF]; rw [if_neg (fun q => c3 q.2.2)]
  exact K (L 0 4) 0 (by omega) rfl
theorem y_meets (X : ML_ S h m L) {i : Nat} (hi : i < L 0 4) {Q : Hp → Prop} (hQ : ∀ h', ML_ S h' m (meetF i L) → FrM m h h' → Q h') : w_X7_meets S m (nI i) h Q := by
  have l := X.1
  have w := X.2.2.1
  have w6 := X.2.2.2.1
  unfold w_X7_meets
  refine ⟨l.1, y_metBy X hi (fun e => ?_) (fun j hj hji e => ?_)⟩
  · rw [if_neg (by decide)]
    refine hQ h ?_ FrM_rf
    unfold meetF; rw [if_pos e]; exact X
  · have hm : meetF i L = if lessF L i j = true then loseF i j (updL L 0 6 (min (L 0 6 + 1) 9999)) else loseF j i (updL L 0 6 (min (L 0 6 + 1) 9999)) := by
      unfold meetF; rw [e, if_neg (by omega)]
    rw [hm] at hQ
    simp only [q_0le (show j < 2 ^ 31 by omega), if_true]
    rw [X.2.1.1.2.2, nI_add]
    refine y_held (by omega) (by decide) ?_
    have X1 := MLsetG X (k := 6) (v := min (L 0 6 + 1) 9999) (Or.inr ⟨rfl, by omega⟩)
    have c4 : updL L 0 6 (min (L 0 6 + 1) 9999) 0 4 = L 0 4 := updL_ne (by omega)
    have hl := @lessF_told L (min (L 0 6 + 1) 9999) i j
    have F1 : FrM m h (up h m 15 (nI (min (L 0 6 + 1) 9999))) := FrM_upg FrM_rf (by decide)
    rw [← hl] at hQ
    change ML_ S (up h m 15 (nI (min (L 0 6 + 1) 9999))) m _ at X1
    generalize up h m 15 (nI (min (L 0 6 + 1) 9999)) = h1 at *
    have hi1 : i < updL L 0 6 (min (L 0 6 + 1) 9999) 0 4 := by rw [c4]; exact hi
    have hj1 : j < updL L 0 6 (min (L 0 6 + 1) 9999) 0 4 := by rw [c4]; exact hj
    generalize updL L 0 6 (min (L 0 6 + 1) 9999) = M at *
    have T : ∀ a b : Nat, a < M 0 4 → b < M 0 4 → a ≠ b → a + b = i + j → (∀ h', ML_ S h' m (loseF a b M) → FrM m h h' → Q h') → (ain S (S.2 m 9) (nI a) ∧ (w_X7_turnsBack S m (nI a) h1 (fun h10 => (ain S (S.2 m 9) ((nI i + nI j) - nI a) ∧ (w_X7_held S (((up h10 (S.2 m 9) (ix (nI a)) ((h10 (S.2 m 9) (ix (nI a))) - ((h1 (S.2 m 9) (ix (nI a))) / (nI 2)))) (S.2 m 9) (ix ((nI i + nI j) - nI a))) + ((h1 (S.2 m 9) (ix (nI a))) / (nI 2))) (nI 99) (up h10 (S.2 m 9) (ix (nI a)) ((h10 (S.2 m 9) (ix (nI a))) - ((h1 (S.2 m 9) (ix (nI a))) / (nI 2)))) (fun r13 h12 => (Q (up h12 (S.2 m 9) (ix ((nI i + nI j) - nI a)) r13)))))))) := by
      intro a b ha hb hab es hq
      have hM4 := X1.2.2.1
      have Ba := MLb X1 ha
      have Bb := MLb X1 hb
      have a7 := Ba.2.2.2.2.2.2.1
      have b7 := Bb.2.2.2.2.2.2.1
      have a5 := Ba.2.2.2.2.1
      rw [nI_add, q_sub (show a ≤ i + j by omega), show i + j - a = b by omega, lr9 l, q_ix (show a < 2 ^ 31 by omega), q_ix (show b < 2 ^ 31 by omega)]
      refine ⟨q_ain (la9 l) (by omega) (by decide), y_turnsBack X1 ha ?_⟩
      have X2 := MLsetH X1 ha (show KC 5 8 by unfold KC; omega) (v := (M (5 + 2 * a) 5 + 2) % 4) (by decide) (HB_up Ba (by omega))
      have ea : h1 (m + 10) a = nI (M (5 + 2 * a) 7) := MLe X1 ha (show KC 7 10 by unfold KC; omega)
      have eb : h1 (m + 10) b = nI (M (5 + 2 * b) 7) := MLe X1 hb (show KC 7 10 by unfold KC; omega)
      rw [up_ne (a' := m + 10) (a := m + 8) (by omega), up_ne (a' := m + 10) (k' := b) (by omega), up_ne (a' := m + 10) (a := m + 8) (by omega), ea, eb, q_div (by omega) (by decide) (by decide), q_sub (by omega), nI_add]
      refine ⟨q_ain (la9 l) (by omega) (by decide), y_held (by omega) (by decide) ?_⟩
      have e6 : ∀ q, updL M (5 + 2 * a) 5 ((M (5 + 2 * a) 5 + 2) % 4) (6 + 2 * q) = M (6 + 2 * q) := fun q => by funext z; exact updL_ne (by omega)
      have X3 := MLsetH X2 (i := a) (by rw [updL_ne (by omega)]; exact ha) (show KC 7 10 by unfold KC; omega) (v := M (5 + 2 * a) 7 - M (5 + 2 * a) 7 / 2) (by decide) (HB_up (HB_up (by rw [e6]; exact Ba) (by omega)) (by omega))
      have e5' : updL (updL M (5 + 2 * a) 5 ((M (5 + 2 * a) 5 + 2) % 4)) (5 + 2 * a) 7 (M (5 + 2 * a) 7 - M (5 + 2 * a) 7 / 2) (5 + 2 * b) = M (5 + 2 * b) := by funext z; rw [updL_ne (by omega), updL_ne (by omega)]
      have e6' : updL (updL M (5 + 2 * a) 5 ((M (5 + 2 * a) 5 + 2) % 4)) (5 + 2 * a) 7 (M (5 + 2 * a) 7 - M (5 + 2 * a) 7 / 2) (6 + 2 * b) = M (6 + 2 * b) := by funext z; rw [updL_ne (by omega), updL_ne (by omega)]
      refine hq _ ?_ (FrM_tr F1 (FrM_up (FrM_up (FrM_up FrM_rf (by decide)) (by decide)) (by decide)))
      exact MLsetH X3 (i := b) (by rw [updL_ne (by omega), updL_ne (by omega)]; exact hb) (show KC 7 10 by unfold KC; omega) (by decide) (HB_up (by rw [e5', e6']; exact Bb) (by omega))
    refine y_lesser X1 hi1 hj1 (fun c => ?_) (fun c => ?_)
    · rw [if_pos c] at hQ
      exact T i j hi1 hj1 (by omega) rfl hQ
    · rw [if_neg c] at hQ
      exact T j i hj1 hi1 hji (by omega) hQ
theorem y_tail (X : ML_ S h m L) {i : Nat} (hi : i < L 0 4) {Q : Hp → Prop} (hQ : ∀ h', ML_ S h' m (stayF i (meetF i (gatherF i L))) → FrM m h h' → Q h') : w_X7_isFollowed S m (nI i) h (fun h3 => (w_X7_meets S m (nI i) h3 (fun h4 => (ain S (S.2 m 9) (nI i) ∧ (w_X7_enough S m (nI i) h4 (fun r7 h6 => (if (h4 (S.2 m 9) (ix (nI i))) < r7 then (Q h6) else (ain S (S.2 m 10) (nI i) ∧ (Q (up h6 (S.2 m 10) (ix (nI i)) (nI 1)))))))))))  := by
  have l := X.1
  have w := X.2.2.1
  refine y_follow X hi (fun h3 X3 F3 => ?_)
  have hi3 : i < gatherF i L 0 4 := by rw [gatherF_0]; exact hi
  refine y_meets X3 hi3 (fun h4 X4 F4 => ?_)
  have hi4 : i < meetF i (gatherF i L) 0 4 := by rw [(meetF_0 _ _).1]; exact hi3
  have F := FrM_tr F3 F4
  generalize meetF i (gatherF i L) = M at X4 hi4 hQ
  have B4 := MLb X4 hi4
  have e9 := enoughF_le B4
  have b7 := B4.2.2.2.2.2.2.1
  rw [lr9 l, lr10 l, q_ix (by omega), MLe X4 hi4 (show KC 7 10 by unfold KC; omega)]
  refine ⟨q_ain (la9 l) (by omega) (by decide), y_enough X4 hi4 ?_⟩
  simp only [q_lt (show M (5 + 2 * i) 7 < 2 ^ 31 by omega) (show enoughF (M (5 + 2 * i)) < 2 ^ 31 by omega)]
  unfold stayF at hQ
  by_cases c : M (5 + 2 * i) 7 < enoughF (M (5 + 2 * i))
  · rw [if_pos c]
    rw [if_neg (by omega)] at hQ
    exact hQ _ X4 F
  · rw [if_neg c]
    rw [if_pos (by omega)] at hQ
    exact ⟨q_ain (la10 l) (by omega) (by decide), hQ _ (MLsetH X4 hi4 (show KC 8 11 by unfold KC; omega) (by decide) (HB_up B4 (by omega))) (FrM_up F (by decide))⟩
theorem y_goesHead (X : ML_ S h m L) (hn : L 0 5 < 2 ^ 30) {i : Nat} (hi : i < L 0 4) {Q : Hp → Prop} (h1 : awakeF L i = true → ∀ h', ML_ S h' m (takeF i L) → FrM m h h' → Q h') (h0 : ¬ awakeF L i = true → Q h) : w_X7_goesHead S m (nI i) h Q := by
  have l := X.1
  have w := X.2.2.1
  have HBx := MLb X hi
  have b5 := HBx.2.2.2.2.1
  have b6 := HBx.2.2.2.2.2.1
  have b8 := HBx.2.2.2.2.2.2.2.1
  unfold w_X7_goesHead
  simp only [lr10 l, lr8 l, lr7 l, q_ix (show i < 2 ^ 31 by omega), MLe X hi (show KC 8 11 by unfold KC; omega), MLe X hi (show KC 6 9 by unfold KC; omega), MLe X hi (show KC 5 8 by unfold KC; omega), q_eq (show L (5 + 2 * i) 8 < 2 ^ 31 by omega) (show 1 < 2 ^ 31 by decide), q_eq (show L (5 + 2 * i) 6 < 2 ^ 31 by omega) (show 4 < 2 ^ 31 by decide)]
  refine ⟨l.1, q_ain (la10 l) (by omega) (by decide), ?_⟩
  by_cases c8 : L (5 + 2 * i) 8 = 1
  · rw [if_pos c8]; exact h0 (awakeF_f (by omega))
  · rw [if_neg c8]
    refine ⟨q_ain (la8 l) (by omega) (by decide), ?_⟩
    by_cases c6 : L (5 + 2 * i) 6 = 4
    · rw [if_pos c6]; exact h0 (awakeF_f (by omega))
    · rw [if_neg c6]
      have hQ := h1 (awakeF_t ⟨by omega, c6⟩)
      refine ⟨q_ain (la7 l) (by omega) (by decide), y_quart b6 c6 ?_⟩
      rw [X.2.1.1.2.1]
      refine y_veers X hi hn ?_
      have q1 := quartF_le (L (5 + 2 * i) 6)
      have q2 := veersF_le (N := L (6 + 2 * i)) (d := L 0 5) HBx
      rw [nI_add, nI_add, q_rem (by omega) (by decide) (by decide)]
      have X1 := MLsetH X hi (show KC 5 8 by unfold KC; omega) (v := (L (5 + 2 * i) 5 + (quartF (L (5 + 2 * i) 6) + veersF (L (5 + 2 * i)) (L (6 + 2 * i)) (L 0 5))) % 4) (by decide) (HB_up HBx (by omega))
      rw [Nat.add_assoc]
      have F1 : FrM m h (up h (m + 8) i (nI ((L (5 + 2 * i) 5 + (quartF (L (5 + 2 * i) 6) + veersF (L (5 + 2 * i)) (L (6 + 2 * i)) (L 0 5))) % 4))) := FrM_up FrM_rf (by decide)
      have hi1 : i < faceF i L 0 4 := by rw [faceF_0]; exact hi
      change ML_ S _ m (faceF i L) at X1
      generalize up h (m + 8) i (nI ((L (5 + 2 * i) 5 + (quartF (L (5 + 2 * i) 6) + veersF (L (5 + 2 * i)) (L (6 + 2 * i)) (L 0 5))) % 4)) = h2 at *
      have hst := stepsF_le (MLb X1 hi1)
      refine y_steps X1 hi1 ?_
      have ht : takeF i L = stayF i (meetF i (gatherF i (goF i (stepsF (faceF i L (5 + 2 * i))) (faceF i L)))) := rfl
      rw [ht] at hQ
      generalize stepsF (faceF i L (5 + 2 * i)) = st at *
      generalize faceF i L = M at *
      unfold w_X7_goesHead_c61
      intro P hP
      have K : ∀ (n : Nat) (M : Ld) (h2 : Hp), n ≤ 5 → ML_ S h2 m M → i < M 0 4 → FrM m h h2 → (∀ h', ML_ S h' m (stayF i (meetF i (gatherF i (goF i n M)))) → FrM m h h' → Q h') → P (nI n) h2 := by
        intro n
        induction n with
        | zero =>
          intro M h2 _ X2 hi2 F2 hQ2
          refine hP _ _ ?_
          rw [if_pos (by decide)]
          exact ⟨l.1, y_tail X2 hi2 (fun h' Y F => hQ2 h' Y (FrM_tr F2 F))⟩
        | succ n ih =>
          intro M h2 hn5 X2 hi2 F2 hQ2
          refine hP _ _ ?_
          simp only [q_le0 (show n + 1 < 2 ^ 31 by omega)]
          rw [if_neg (by omega)]
          refine ⟨l.1, y_step X2 hi2 (fun h3 g X3 F3 => ?_) (fun h3 g X3 F3 => ?_)⟩
          · rw [if_neg (by decide), show nI (n + 1) + -1 = nI n from pk_m1 n]
            rw [goF_on g] at hQ2
            have hi3 : i < stepF i M 0 4 := by
              unfold stepF; split
              · rw [updL_ne (by omega)]; exact hi2
              · split
                · rw [updL_ne (by omega)]; exact hi2
                · rw [updL_ne (by omega)]; exact hi2
            exact ih _ h3 (by omega) X3 hi3 (FrM_tr F2 F3) hQ2
          · rw [if_pos (by decide)]
            rw [goF_off g] at hQ2
            have hi3 : i < stepF i M 0 4 := by
              unfold stepF; split
              · rw [updL_ne (by omega)]; exact hi2
              · split
                · rw [updL_ne (by omega)]; exact hi2
                · rw [updL_ne (by omega)]; exact hi2
            exact y_tail X3 hi3 (fun h' Y F => hQ2 h' Y (FrM_tr F2 (FrM_tr F3 F)))
      exact K st M h2 hst X1 hi1 F1 hQ
theorem y_night (X : ML_ S h m L) (hn : L 0 5 + 1 < 2 ^ 30) {Q : Hp → Prop} (hQ : ∀ h', ML_ S h' m (nightF L) → FrM m h h' → Q h') : w_X7_goesNight S m h Q := by
  have l := X.1
  have w := X.2.2.1
  unfold w_X7_goesNight
  refine ⟨l.1, ?_⟩
  rw [X.2.1.1.2.1, nI_add]
  have X1 := MLsetG X (k := 5) (v := L 0 5 + 1) (Or.inl rfl)
  have c4 : updL L 0 5 (L 0 5 + 1) 0 4 = L 0 4 := updL_ne (by omega)
  unfold w_X7_goesNight_c12
  intro P2 hP2
  have K2 : ∀ (f k : Nat) (h2 : Hp), k + f = L 0 4 → ML_ S h2 m (turnsF (updL L 0 5 (L 0 5 + 1)) k) → FrM m h h2 → P2 (nI k) h2 := by
    intro f
    induction f with
    | zero =>
      intro k h2 hk X2 F2
      refine hP2 _ _ ⟨l.1, ?_⟩
      rw [X2.2.1.1.1, (turnsF_0 _ k).1, c4]
      simp only [q_le (show L 0 4 < 2 ^ 31 by omega) (show k < 2 ^ 31 by omega)]
      rw [if_pos (by omega)]
      have e : nightF L = turnsF (updL L 0 5 (L 0 5 + 1)) k := by unfold nightF; rw [show k = L 0 4 by omega]
      exact hQ h2 (by rw [e]; exact X2) F2
    | succ f ih2 =>
      intro k h2 hk X2 F2
      refine hP2 _ _ ⟨l.1, ?_⟩
      have ht := turnsF_0 (updL L 0 5 (L 0 5 + 1)) k
      have hm4 : k < turnsF (updL L 0 5 (L 0 5 + 1)) k 0 4 := by rw [ht.1, c4]; omega
      rw [X2.2.1.1.1, ht.1, c4]
      simp only [q_le (show L 0 4 < 2 ^ 31 by omega) (show k < 2 ^ 31 by omega), nI_add]
      rw [if_neg (by omega)]
      refine y_goesHead X2 (by rw [ht.2, updL_same]; omega) hm4 (fun g h3 X3 F3 => ih2 (k + 1) h3 (by omega) ?_ (FrM_tr F2 F3)) (fun g => ih2 (k + 1) h2 (by omega) ?_ F2)
      · rw [turnsF_t g]; exact X3
      · rw [turnsF_f g]; exact X2
  exact K2 (L 0 4) 0 _ (by omega) X1 (FrM_upg FrM_rf (by decide))
theorem y_goes (X : ML_ S h m L) {n : Nat} (hn : L 0 5 + n < 2 ^ 29) {Q : Hp → Prop} (hQ : ∀ h', ML_ S h' m (nightsF n L) → FrM m h h' → Q h') : w_X7_goes S m (nI n) h Q := by
  unfold w_X7_goes w_X7_goes_c2
  intro P hP
  have K : ∀ (j k : Nat) (L : Ld) (h : Hp), j + k = n → L 0 5 + j < 2 ^ 29 → ML_ S h m L → (∀ h', ML_ S h' m (nightsF j L) → FrM m h h' → Q h') → P (nI k) h := by
    intro j
    induction j with
    | zero =>
      intro k L h hk hn2 X hQ
      refine hP _ _ ?_
      simp only [q_le (show n < 2 ^ 31 by omega) (show k < 2 ^ 31 by omega)]
      rw [if_pos (by omega)]
      exact hQ h X FrM_rf
    | succ j ih =>
      intro k L h hk hn2 X hQ
      refine hP _ _ ?_
      simp only [q_le (show n < 2 ^ 31 by omega) (show k < 2 ^ 31 by omega), nI_add]
      rw [if_neg (by omega)]
      exact ⟨X.1.1, y_night X (by omega) (fun h2 X2 F2 => ih (k + 1) (nightF L) h2 (by omega) (by have := (nightF_0 L).2; omega) X2 (fun h' Y F => hQ h' Y (FrM_tr F2 F)))⟩
  exact K n 0 L h (by omega) (by omega) X hQ
end MMEET
