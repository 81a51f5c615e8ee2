/-! PURE: bits and sums -/
set_option maxRecDepth 100000 in
theorem q_or1 : ∀ k, k < 10 → ∀ a, a < 512 → a < 2 ^ k → nI a ||| ishl (nI 1) (nI k) = nI (a + 2 ^ k) := by decide +kernel
theorem q_or {k a : Nat} (hk : k < 10) (ha : a < 2 ^ k) : nI a ||| ishl (nI 1) (nI k) = nI (a + 2 ^ k) := q_or1 k hk a (Nat.lt_of_lt_of_le ha (by have := Nat.pow_le_pow_right (n := 2) (by decide) (show k ≤ 9 by omega); omega)) ha
theorem q_or00 : ∀ k, k < 5 → ∀ a, a < 32 → nI a ||| ishl (nI 0) (nI k) = nI a := by decide +kernel
theorem q_or0 {a : Nat} (k : Nat) (hk : k < 5) (ha : a < 32) : nI a ||| ishl (nI 0) (nI k) = nI a := q_or00 k hk a ha
theorem q_orz (v : Int32) : v ||| nI 0 = v := by
  rw [nI_0]; exact Int32.or_zero
theorem q_bit1 : ∀ s, s < 128 → ∀ i, i < 7 → (ishr (nI s) (nI i) &&& nI 1) = nI (s / 2 ^ i % 2) := by decide +kernel
theorem q_bit {s i : Nat} (hs : s < 128) (hi : i < 7) : (ishr (nI s) (nI i) &&& nI 1) = nI (s / 2 ^ i % 2) := q_bit1 s hs i hi
theorem q_shl1 : ∀ k, k < 10 → ishl (nI 1) (nI k) = nI (2 ^ k) := by decide +kernel
/-- bits of a thing that is so or not -/
def bitsF (p : Nat → Bool) : Nat → Nat
  | 0 => 0
  | k + 1 => bitsF p k + if p k = true then 2 ^ k else 0
theorem bitsF_lt (p : Nat → Bool) : ∀ k, bitsF p k < 2 ^ k
  | 0 => by simp [bitsF]
  | k + 1 => by
    have := bitsF_lt p k
    simp only [bitsF, Nat.pow_succ]
    split <;> omega
def sumF (f : Nat → Nat) : Nat → Nat
  | 0 => 0
  | k + 1 => sumF f k + f k
theorem sumF_le {f : Nat → Nat} {c : Nat} : ∀ n, (∀ i, i < n → f i ≤ c) → sumF f n ≤ c * n
  | 0, _ => Nat.zero_le _
  | n + 1, h => by
    have h1 := sumF_le n (fun i hi => h i (by omega))
    have h2 := h n (by omega)
    simp only [sumF, Nat.mul_succ]
    omega
/-- followers of a set of heads -/
def folF (L : Ld) (s : Nat) (i : Nat) : Nat := if s / 2 ^ i % 2 = 1 then L (5 + 2 * i) 7 else 0
def setF (L : Ld) : Nat := bitsF (fun i => decide (L (5 + 2 * i) 8 = 1)) (L 0 4)
def allF (L : Ld) : Nat := sumF (fun i => L (5 + 2 * i) 7) (L 0 4)
def pplF (L : Ld) : Nat := sumF (L 2) 48
def walF (L : Ld) : Nat := sumF (L 1) 48
section XBITS
variable {S : St} {h : Hp} {b m : Nat} {L : Ld}
theorem pow_le32 {k : Nat} (hk : k ≤ 5) : 2 ^ k ≤ 32 := by
  have := Nat.pow_le_pow_right (n := 2) (by decide) hk
  omega
theorem x_setBits (X : XL S h b L) {Q : Int32 → Hp → Prop} (hQ : Q (nI (setF L)) h) : w_X1_settledBits S b h Q := by
  have l := X.1
  have w := X.2.2.1
  unfold w_X1_settledBits w_X1_settledBits_c4
  intro P hP
  have K := q_upto (Pr := fun k => P (nI (bitsF (fun i => decide (L (5 + 2 * i) 8 = 1)) k)) (nI k) h) (n := L 0 4) (by
    refine hP _ _ _ ⟨l.1, ?_⟩
    rw [X.2.1.1.1]
    simp only [q_le (show L 0 4 < 2 ^ 31 by omega) (show L 0 4 < 2 ^ 31 by omega)]
    rw [if_pos (Nat.le_refl _)]; exact hQ) (by
    intro k hk ih
    have Hk := XLhd X hk
    have b8 := Hk.2.2.2.2.2.2.2.2.2.2.2.2.1
    refine hP _ _ _ ⟨l.1, ?_⟩
    rw [X.2.1.1.1]
    simp only [q_le (show L 0 4 < 2 ^ 31 by omega) (show k < 2 ^ 31 by omega)]
    rw [if_neg (by omega), l.2.1.2.2.2, q_ix (by omega), (l.2.2.2 k (by omega)).1, XHe Hk (by decide) (by decide), nI_add]
    refine ⟨q_rin l.2.2.1.2.2.2 (by omega) (by decide), Hk.1, ?_⟩
    simp only [q_eq0 (show L (5 + 2 * k) 8 < 2 ^ 31 by omega)]
    by_cases c : L (5 + 2 * k) 8 = 1
    · rw [if_neg (by omega), q_or (by omega) (bitsF_lt _ k)]
      simpa [bitsF, c] using ih
    · rw [if_pos (by omega)]
      simpa [bitsF, c] using ih)
  exact K 0 (by omega)
theorem y_setBits (X : ML_ S h m L) {Q : Int32 → Hp → Prop} (hQ : Q (nI (setF L)) h) : w_X7_setSettled S m h Q := by
  have l := X.1
  have w := X.2.2.1
  unfold w_X7_setSettled w_X7_setSettled_c4
  intro P hP
  have K := q_upto (Pr := fun k => P (nI (bitsF (fun i => decide (L (5 + 2 * i) 8 = 1)) k)) (nI k) h) (n := L 0 4) (by
    refine hP _ _ _ ⟨l.1, ?_⟩
    rw [X.2.1.1.1]
    simp only [q_le (show L 0 4 < 2 ^ 31 by omega) (show L 0 4 < 2 ^ 31 by omega)]
    rw [if_pos (Nat.le_refl _)]; exact hQ) (by
    intro k hk ih
    have b8 := (MLb X hk).2.2.2.2.2.2.2.1
    refine hP _ _ _ ⟨l.1, ?_⟩
    rw [X.2.1.1.1]
    simp only [q_le (show L 0 4 < 2 ^ 31 by omega) (show k < 2 ^ 31 by omega)]
    rw [if_neg (by omega), lr10 l, q_ix (by omega), MLe X hk (show KC 8 11 by unfold KC; omega), nI_add]
    refine ⟨q_ain (la10 l) (by omega) (by decide), ?_⟩
    have bl := bitsF_lt (fun i => decide (L (5 + 2 * i) 8 = 1)) k
    have p5 := pow_le32 (show k ≤ 5 by omega)
    rcases (show L (5 + 2 * k) 8 = 0 ∨ L (5 + 2 * k) 8 = 1 by omega) with c | c
    · rw [c, q_or0 k (by omega) (by omega)]
      simpa [bitsF, c] using ih
    · rw [c, q_or (by omega) bl]
      simpa [bitsF, c] using ih)
  exact K 0 (by omega)
theorem x_sumOf {a n c : Nat} {f : Nat → Nat} (ha : S.1 a = some (.inr (0, n))) (hn : n < 2 ^ 16) (hf : ∀ i, i < n → h a i = nI (f i)) {Q : Int32 → Hp → Prop} (hQ : Q (nI (sumF f n)) h) : w_X1_sumOf S a h Q := by
  unfold w_X1_sumOf w_X1_sumOf_c4
  intro P hP
  have K := q_upto (Pr := fun k => P (nI (sumF f k)) (nI k) h) (n := n) (by
    refine hP _ _ _ ⟨n, ⟨ha, by omega⟩, ?_⟩
    simp only [q_le (show n < 2 ^ 31 by omega) (show n < 2 ^ 31 by omega)]
    rw [if_pos (Nat.le_refl _)]; exact hQ) (by
    intro k hk ih
    refine hP _ _ _ ⟨n, ⟨ha, by omega⟩, ?_⟩
    simp only [q_le (show n < 2 ^ 31 by omega) (show k < 2 ^ 31 by omega)]
    rw [if_neg (by omega), q_ix (by omega), hf k hk, nI_add, nI_add]
    exact ⟨q_ain ha (by omega) (by omega), ih⟩)
  exact K 0 (by omega)
theorem y_allOf {a n c : Nat} {f : Nat → Nat} (ha : S.1 a = some (.inr (0, c))) (hc : c < 2 ^ 16) (hn : n ≤ c) (hf : ∀ i, i < n → h a i = nI (f i)) {Q : Int32 → Hp → Prop} (hQ : Q (nI (sumF f n)) h) : w_X7_allOf S a (nI n) h Q := by
  unfold w_X7_allOf w_X7_allOf_c4
  intro P hP
  have K := q_upto (Pr := fun k => P (nI (sumF f k)) (nI k) h) (n := n) (by
    refine hP _ _ _ ?_
    simp only [q_le (show n < 2 ^ 31 by omega) (show n < 2 ^ 31 by omega)]
    rw [if_pos (Nat.le_refl _)]; exact hQ) (by
    intro k hk ih
    refine hP _ _ _ ?_
    simp only [q_le (show n < 2 ^ 31 by omega) (show k < 2 ^ 31 by omega)]
    rw [if_neg (by omega), q_ix (by omega), hf k hk, nI_add, nI_add]
    exact ⟨q_ain ha (by omega) (by omega), ih⟩)
  exact K 0 (by omega)
theorem x_people (X : XL S h b L) {Q : Int32 → Hp → Prop} (hQ : Q (nI (pplF L)) h) : w_X1_allPeople S b h Q := by
  have l := X.1
  unfold w_X1_allPeople
  rw [l.2.1.2.1]
  exact ⟨l.1, x_sumOf (c := 0) l.2.2.1.2.1 (by decide) (fun i hi => (X.2.1.2.1 i hi).2.1) hQ⟩
theorem x_walls (X : XL S h b L) {Q : Int32 → Hp → Prop} (hQ : Q (nI (walF L)) h) : w_X1_allWalls S b h Q := by
  have l := X.1
  unfold w_X1_allWalls
  rw [l.2.1.1]
  exact ⟨l.1, x_sumOf (c := 0) l.2.2.1.1 (by decide) (fun i hi => (X.2.1.2.1 i hi).1) hQ⟩
theorem y_people (X : ML_ S h m L) {Q : Int32 → Hp → Prop} (hQ : Q (nI (pplF L)) h) : w_X7_allOf S (S.2 m 2) (nI 48) h Q := by
  rw [lr2 X.1]
  exact y_allOf (la2 X.1) (by decide) (by decide) (fun i hi => (X.2.1.2.1 i hi).2.1) hQ
theorem y_walls (X : ML_ S h m L) {Q : Int32 → Hp → Prop} (hQ : Q (nI (walF L)) h) : w_X7_allOf S (S.2 m 1) (nI 48) h Q := by
  rw [lr1 X.1]
  exact y_allOf (la1 X.1) (by decide) (by decide) (fun i hi => (X.2.1.2.1 i hi).1) hQ
theorem y_all (X : ML_ S h m L) {Q : Int32 → Hp → Prop} (hQ : Q (nI (allF L)) h) : w_X7_allOf S (S.2 m 9) (h m 13) h Q := by
  rw [lr9 X.1, X.2.1.1.1]
  exact y_allOf (la9 X.1) (by decide) X.2.2.1 (fun i hi => MLe X hi (show KC 7 10 by unfold KC; omega)) hQ
theorem x_folOf (X : XL S h b L) {s : Nat} (hs : s < 128) {Q : Int32 → Hp → Prop} (hQ : Q (nI (sumF (folF L s) (L 0 4))) h) : w_X1_followersOf S b (nI s) h Q := by
  have l := X.1
  have w := X.2.2.1
  unfold w_X1_followersOf w_X1_followersOf_c4
  intro P hP
  have K := q_upto (Pr := fun k => P (nI (sumF (folF L s) k)) (nI k) h) (n := L 0 4) (by
    refine hP _ _ _ ⟨l.1, ?_⟩
    rw [X.2.1.1.1]
    simp only [q_le (show L 0 4 < 2 ^ 31 by omega) (show L 0 4 < 2 ^ 31 by omega)]
    rw [if_pos (Nat.le_refl _)]; exact hQ) (by
    intro k hk ih
    have Hk := XLhd X hk
    refine hP _ _ _ ⟨l.1, ?_⟩
    rw [X.2.1.1.1, q_bit hs (by omega)]
    have hm : s / 2 ^ k % 2 < 2 := Nat.mod_lt _ (by decide)
    simp only [q_le (show L 0 4 < 2 ^ 31 by omega) (show k < 2 ^ 31 by omega), q_eq (show s / 2 ^ k % 2 < 2 ^ 31 by omega) (show 1 < 2 ^ 31 by decide)]
    rw [if_neg (by omega), l.2.1.2.2.2, q_ix (by omega), (l.2.2.2 k (by omega)).1, XHe Hk (by decide) (by decide), nI_add, nI_add]
    by_cases c : s / 2 ^ k % 2 = 1
    · rw [if_pos c]
      refine ⟨q_rin l.2.2.1.2.2.2 (by omega) (by decide), Hk.1, ?_⟩
      simpa [sumF, folF, c] using ih
    · rw [if_neg c]
      simpa [sumF, folF, c] using ih)
  exact K 0 (by omega)
theorem sumF_congr {f g : Nat → Nat} : ∀ n, (∀ i, i < n → f i = g i) → sumF f n = sumF g n
  | 0, _ => rfl
  | n + 1, h => by simp only [sumF]; rw [sumF_congr n (fun i hi => h i (by omega)), h n (by omega)]
theorem q_ones : ∀ k, k < 6 → ∀ i, i < k → (2 ^ k - 1) / 2 ^ i % 2 = 1 := by decide +kernel
theorem x_all (X : XL S h b L) {Q : Int32 → Hp → Prop} (hQ : Q (nI (allF L)) h) : w_X1_allFollowers S b h Q := by
  have l := X.1
  have w := X.2.2.1
  unfold w_X1_allFollowers
  rw [X.2.1.1.1, q_shl1 _ (by omega)]
  have p5 := pow_le32 w
  have p1 := Nat.one_le_two_pow (n := L 0 4)
  rw [q_sub (by omega)]
  refine ⟨l.1, x_folOf X (by omega) ?_⟩
  rw [show sumF (folF L (2 ^ L 0 4 - 1)) (L 0 4) = allF L from sumF_congr _ (fun i hi => by simp only [folF]; rw [if_pos (q_ones _ (by omega) i hi)])]
  exact hQ
end XBITS
