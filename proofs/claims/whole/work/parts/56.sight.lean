/-! PURE: sight -/
def vwlF (L : Ld) : Nat := sumF (fun i => vcF (L (6 + 2 * i)) (L (5 + 2 * i) 3)) (L 0 4)
def anyF (L : Ld) (c : Nat) : Nat → Bool
  | 0 => false
  | k + 1 => anyF L c k || hasF (L (6 + 2 * k)) c (L (5 + 2 * k) 3)
def hunF (L : Ld) : Nat := sumF (fun f => if anyF L (L 3 f) (L 0 4) = true then 0 else L 2 f) 48
def aloF (L : Ld) : Nat := bitsF (fun k => decide (hdsF L (L (5 + 2 * k) 4) = 2 ^ k)) (L 0 4)
theorem hdsF_lt {L : Ld} (h : L 0 4 ≤ 5) (f : Nat) : hdsF L f < 32 := by
  have h1 : hdsF L f < 2 ^ L 0 4 := bitsF_lt (fun i => decide (L (5 + 2 * i) 4 = f)) (L 0 4)
  have h2 := pow_le32 h
  omega
section SIGHT
variable {S : St} {h h' : Hp} {x m b : Nat} {A : Ab} {L : Ld}
theorem x_vowL (X : XL S h b L) {Q : Int32 → Hp → Prop} (hQ : Q (nI (vwlF L)) h) : w_X1_vowels S b h Q := by
  have l := X.1
  have w := X.2.2.1
  unfold w_X1_vowels w_X1_vowels_c4
  intro P hP
  have K := q_upto (Pr := fun k => P (nI (sumF (fun i => vcF (L (6 + 2 * i)) (L (5 + 2 * i) 3)) k)) (nI k) h) (n := L 0 4) (by
    refine hP _ _ _ ⟨l.1, ?_⟩
    rw [X.2.1.1.1]
    simp only [q_le (show L 0 4 < 2 ^ 31 by omega) (show L 0 4 < 2 ^ 31 by omega)]
    rw [if_pos (Nat.le_refl _)]; exact hQ) (by
    intro k hk ih
    have Hk := XLhd X hk
    refine hP _ _ _ ⟨l.1, ?_⟩
    rw [X.2.1.1.1]
    simp only [q_le (show L 0 4 < 2 ^ 31 by omega) (show k < 2 ^ 31 by omega)]
    rw [if_neg (by omega), l.2.1.2.2.2, q_ix (by omega), (l.2.2.2 k (by omega)).1]
    refine ⟨q_rin l.2.2.1.2.2.2 (by omega) (by decide), Hk.1, x_vowels Hk ?_⟩
    rw [nI_add, nI_add]; exact ih)
  exact K 0 (by omega)
theorem x_aloneL (X : XL S h b L) {Q : Int32 → Hp → Prop} (hQ : Q (nI (aloF L)) h) : w_X1_alone S b h Q := by
  have l := X.1
  have w := X.2.2.1
  unfold w_X1_alone w_X1_alone_c4
  intro P hP
  have K := q_upto (Pr := fun k => P (nI (bitsF (fun k => decide (hdsF L (L (5 + 2 * k) 4) = 2 ^ k)) k)) (nI k) h) (n := L 0 4) (by
    refine hP _ _ _ ⟨l.1, ?_⟩
    rw [X.2.1.1.1]
    simp only [q_le (show L 0 4 < 2 ^ 31 by omega) (show L 0 4 < 2 ^ 31 by omega)]
    rw [if_pos (Nat.le_refl _)]; exact hQ) (by
    intro k hk ih
    have Hk := XLhd X hk
    have b4 := Hk.2.2.2.2.2.2.2.2.1
    refine hP _ _ _ ⟨l.1, ?_⟩
    rw [X.2.1.1.1]
    simp only [q_le (show L 0 4 < 2 ^ 31 by omega) (show k < 2 ^ 31 by omega)]
    rw [if_neg (by omega), l.2.1.2.2.2, q_ix (by omega), (l.2.2.2 k (by omega)).1, XHe Hk (by decide) (by decide), nI_add]
    refine ⟨q_rin l.2.2.1.2.2.2 (by omega) (by decide), Hk.1, x_headsOn X (by omega) ?_⟩
    have hl := hdsF_lt w (L (5 + 2 * k) 4)
    have p5 := pow_le32 (show k ≤ 5 by omega)
    simp only [q_shl1 k (by omega), q_eq (show hdsF L (L (5 + 2 * k) 4) < 2 ^ 31 by omega) (show 2 ^ k < 2 ^ 31 by omega)]
    simp only [bitsF] at ih
    by_cases c : hdsF L (L (5 + 2 * k) 4) = 2 ^ k
    · rw [if_pos c, ← q_shl1 k (by omega), q_or (by omega) (bitsF_lt _ k)]
      rw [if_pos (decide_eq_true c)] at ih; exact ih
    · rw [if_neg c]
      rw [if_neg (by rw [decide_eq_false c]; decide)] at ih; exact ih)
  exact K 0 (by omega)
theorem x_someName (X : XL S h b L) {c : Nat} (hc : c < 2 ^ 31) {Q : Int32 → Hp → Prop} (hQ : Q (nI (if anyF L c (L 0 4) = true then 1 else 0)) h) : w_X1_isInSomeName S b (nI c) h Q := by
  have l := X.1
  have w := X.2.2.1
  unfold w_X1_isInSomeName w_X1_isInSomeName_c2
  intro P hP
  have M : ∀ (f k : Nat), anyF L c k = true → anyF L c (k + f) = true := by
    intro f
    induction f with
    | zero => intro k e; exact e
    | succ f ih =>
      intro k e
      show (anyF L c (k + f) || _) = true
      rw [ih k e]; rfl
  have K := q_upto (Pr := fun k => anyF L c k = false → P (nI k) h) (n := L 0 4) (by
    intro e
    refine hP _ _ ⟨l.1, ?_⟩
    rw [X.2.1.1.1]
    simp only [q_le (show L 0 4 < 2 ^ 31 by omega) (show L 0 4 < 2 ^ 31 by omega)]
    rw [if_pos (Nat.le_refl _)]
    rw [e, if_neg (by decide)] at hQ; exact hQ) (by
    intro k hk ih e
    have Hk := XLhd X hk
    refine hP _ _ ⟨l.1, ?_⟩
    rw [X.2.1.1.1]
    simp only [q_le (show L 0 4 < 2 ^ 31 by omega) (show k < 2 ^ 31 by omega)]
    rw [if_neg (by omega), l.2.1.2.2.2, q_ix (by omega), (l.2.2.2 k (by omega)).1]
    refine ⟨q_rin l.2.2.1.2.2.2 (by omega) (by decide), Hk.1, x_hasLetter Hk hc (fun g => ?_) (fun g => ?_)⟩
    · rw [if_neg (by decide)]
      have e1 : anyF L c (k + 1) = true := by show (anyF L c k || hasF (L (6 + 2 * k)) c (L (5 + 2 * k) 3)) = true; rw [e, g]; rfl
      have e2 := M (L 0 4 - (k + 1)) (k + 1) e1
      rw [show k + 1 + (L 0 4 - (k + 1)) = L 0 4 by omega] at e2
      rw [if_pos e2] at hQ; exact hQ
    · rw [if_pos (by decide), nI_add]
      exact ih (by show (anyF L c k || hasF (L (6 + 2 * k)) c (L (5 + 2 * k) 3)) = false; rw [e, g]; rfl))
  exact K 0 (by omega) rfl
theorem x_hungryL (X : XL S h b L) {Q : Int32 → Hp → Prop} (hQ : Q (nI (hunF L)) h) : w_X1_hungry S b h Q := by
  have l := X.1
  have w := X.2.2
  unfold w_X1_hungry w_X1_hungry_c4
  intro P hP
  have K := q_upto (Pr := fun k => P (nI (sumF (fun f => if anyF L (L 3 f) (L 0 4) = true then 0 else L 2 f) k)) (nI k) h) (n := 48) (by
    refine hP _ _ _ ?_
    rw [if_pos (by decide)]; exact hQ) (by
    intro k hk ih
    have wk := w.2.2.1 k hk
    refine hP _ _ _ ?_
    simp only [q_le (show 48 < 2 ^ 31 by omega) (show k < 2 ^ 31 by omega)]
    rw [if_neg (by omega), l.2.1.2.2.1, l.2.1.2.1, q_ix (by omega), (X.2.1.2.1 k hk).2.2]
    refine ⟨l.1, q_ain l.2.2.1.2.2.1 hk (by decide), x_someName X (by omega) ?_⟩
    rw [(X.2.1.2.1 k hk).2.1, nI_add, nI_add]
    simp only [sumF] at ih
    by_cases c : anyF L (L 3 k) (L 0 4) = true
    · rw [if_pos c, if_neg (by decide)]
      rw [if_pos c] at ih; exact ih
    · rw [if_neg c, if_pos (by decide)]
      rw [if_neg c] at ih
      exact ⟨q_ain l.2.2.1.2.1 hk (by decide), ih⟩)
  exact K 0 (by omega)
theorem y_vowL (X : ML_ S h m L) {Q : Int32 → Hp → Prop} (hQ : Q (nI (vwlF L)) h) : w_X7_vowels S m h Q := by
  have l := X.1
  have w := X.2.2.1
  unfold w_X7_vowels w_X7_vowels_c4
  intro P hP
  have K := q_upto (Pr := fun k => P (nI (sumF (fun i => vcF (L (6 + 2 * i)) (L (5 + 2 * i) 3)) k)) (nI k) h) (n := L 0 4) (by
    refine hP _ _ _ ⟨l.1, ?_⟩
    rw [X.2.1.1.1]
    simp only [q_le (show L 0 4 < 2 ^ 31 by omega) (show L 0 4 < 2 ^ 31 by omega)]
    rw [if_pos (Nat.le_refl _)]; exact hQ) (by
    intro k hk ih
    obtain ⟨b0, b1, b3, b4, b5, b6, b7, b8, bn, b9⟩ := MLb X hk
    refine hP _ _ _ ⟨l.1, ?_⟩
    rw [X.2.1.1.1]
    simp only [q_le (show L 0 4 < 2 ^ 31 by omega) (show k < 2 ^ 31 by omega)]
    rw [if_neg (by omega)]
    unfold w_X7_vowels_c14
    intro P2 hP2
    have K2 := q_upto (Pr := fun j => P2 (nI (sumF (fun i => vcF (L (6 + 2 * i)) (L (5 + 2 * i) 3)) k + vcF (L (6 + 2 * k)) j)) (nI j) h) (n := L (5 + 2 * k) 3) (by
      refine hP2 _ _ _ ⟨l.1, ?_⟩
      rw [lr11 l, q_ix (by omega), MLe X hk (show KC 3 12 by unfold KC; omega)]
      refine ⟨q_ain (la11 l) (by omega) (by decide), ?_⟩
      simp only [q_le (show L (5 + 2 * k) 3 < 2 ^ 31 by omega) (show L (5 + 2 * k) 3 < 2 ^ 31 by omega)]
      rw [if_pos (Nat.le_refl _), nI_add]; exact ih) (by
      intro j hj ih2
      have n1 := bn j hj
      refine hP2 _ _ _ ⟨l.1, ?_⟩
      rw [lr11 l, lr12 l, q_ix (by omega), MLe X hk (show KC 3 12 by unfold KC; omega), pk_mul, show nI (6 * k) + nI j = nI (6 * k + j) by rw [nI_add], q_ix (by omega), MLn X hk hj]
      refine ⟨q_ain (la11 l) (by omega) (by decide), ?_⟩
      simp only [q_le (show L (5 + 2 * k) 3 < 2 ^ 31 by omega) (show j < 2 ^ 31 by omega)]
      rw [if_neg (by omega)]
      refine ⟨q_ain (la12 l) (by omega) (by decide), y_isVowel n1 (fun v => ?_) (fun v => ?_)⟩
      · rw [if_neg (by decide), nI_add, nI_add]
        simpa [vcF, v, Nat.add_assoc] using ih2
      · rw [if_pos (by decide), nI_add, nI_add]
        simpa [vcF, v, Nat.add_assoc] using ih2)
    exact K2 0 (by omega))
  exact K 0 (by omega)
theorem y_aloneL (X : ML_ S h m L) {Q : Int32 → Hp → Prop} (hQ : Q (nI (aloF L)) h) : w_X7_alone S m h Q := by
  have l := X.1
  have w := X.2.2.1
  unfold w_X7_alone w_X7_alone_c4
  intro P hP
  have K := q_upto (Pr := fun k => P (nI (bitsF (fun k => decide (hdsF L (L (5 + 2 * k) 4) = 2 ^ k)) k)) (nI k) h) (n := L 0 4) (by
    refine hP _ _ _ ⟨l.1, ?_⟩
    rw [X.2.1.1.1]
    simp only [q_le (show L 0 4 < 2 ^ 31 by omega) (show L 0 4 < 2 ^ 31 by omega)]
    rw [if_pos (Nat.le_refl _)]; exact hQ) (by
    intro k hk ih
    have b4 := (MLb X hk).2.2.2.1
    refine hP _ _ _ ⟨l.1, ?_⟩
    rw [X.2.1.1.1]
    simp only [q_le (show L 0 4 < 2 ^ 31 by omega) (show k < 2 ^ 31 by omega)]
    rw [if_neg (by omega), lr6 l, q_ix (by omega), MLe X hk (show KC 4 7 by unfold KC; omega), nI_add]
    refine ⟨q_ain (la6 l) (by omega) (by decide), y_headsOn X (by omega) ?_⟩
    have hl := hdsF_lt w (L (5 + 2 * k) 4)
    have p5 := pow_le32 (show k ≤ 5 by omega)
    simp only [q_shl1 k (by omega), q_eq (show hdsF L (L (5 + 2 * k) 4) < 2 ^ 31 by omega) (show 2 ^ k < 2 ^ 31 by omega)]
    simp only [bitsF] at ih
    by_cases c : hdsF L (L (5 + 2 * k) 4) = 2 ^ k
    · rw [if_pos c, ← q_shl1 k (by omega), q_or (by omega) (bitsF_lt _ k)]
      rw [if_pos (decide_eq_true c)] at ih; exact ih
    · rw [if_neg c, q_orz]
      rw [if_neg (by rw [decide_eq_false c]; decide)] at ih; exact ih)
  exact K 0 (by omega)
theorem y_hungryL (X : ML_ S h m L) {Q : Int32 → Hp → Prop} (hQ : Q (nI (hunF L)) h) : w_X7_hungry S m h Q := by
  have l := X.1
  have w := X.2.2
  have h5 := w.1
  unfold w_X7_hungry w_X7_hungry_c4
  intro P hP
  have K := q_upto (Pr := fun k => ∀ v : Int32, (∀ j, j < 32 → bI v j = anyF L j k) → P v (nI k) h) (n := L 0 4) (by
    intro v hv
    refine hP _ _ _ ⟨l.1, ?_⟩
    rw [X.2.1.1.1]
    simp only [q_le (show L 0 4 < 2 ^ 31 by omega) (show L 0 4 < 2 ^ 31 by omega)]
    rw [if_pos (Nat.le_refl _)]
    unfold w_X7_hungry_c30
    intro P2 hP2
    have K2 := q_upto (Pr := fun k => P2 (nI (sumF (fun f => if anyF L (L 3 f) (L 0 4) = true then 0 else L 2 f) k)) (nI k) h) (n := 48) (by
      refine hP2 _ _ _ ?_
      rw [if_pos (by decide)]; exact hQ) (by
      intro k hk ih
      have wk := w.2.2.1 k hk
      refine hP2 _ _ _ ?_
      simp only [q_le (show 48 < 2 ^ 31 by omega) (show k < 2 ^ 31 by omega)]
      rw [if_neg (by omega), lr3 l, lr2 l, q_ix (by omega), (X.2.1.2.1 k hk).2.2]
      refine ⟨l.1, q_ain (la3 l) hk (by decide), ?_⟩
      unfold w_X7_has
      dsimp only
      rw [(X.2.1.2.1 k hk).2.1, nI_add, nI_add, nI_add]
      rw [q_bsh v (show L 3 k < 31 by omega), hv (L 3 k) (by omega)]
      simp only [sumF] at ih
      by_cases c : anyF L (L 3 k) (L 0 4) = true
      · rw [if_pos c, if_pos rfl, if_neg (by decide)]
        rw [if_pos c] at ih; exact ih
      · rw [if_neg c, if_neg (by decide), if_pos (by decide)]
        rw [if_neg c] at ih
        exact ⟨q_ain (la2 l) hk (by decide), ih⟩)
    exact K2 0 (by omega)) (by
    intro k hk ih v hv
    refine hP _ _ _ ⟨l.1, ?_⟩
    rw [X.2.1.1.1]
    simp only [q_le (show L 0 4 < 2 ^ 31 by omega) (show k < 2 ^ 31 by omega)]
    rw [if_neg (by omega), nI_add]
    refine y_lettersOf X hk (fun r hr => ih _ (fun j hj => ?_))
    show (v ||| r).toBitVec.getLsbD j = (anyF L j k || hasF (L (6 + 2 * k)) j (L (5 + 2 * k) 3))
    rw [Int32.toBitVec_or, BitVec.getLsbD_or]
    rw [← hv j hj, ← hr j hj])
  exact K 0 (by omega) (nI 0) (fun j _ => q_b0 j)
def sightA (A : Ab) (w : Int32) : Int32 × Ab := if w = nI 0 then (nI (vwlF (aL A)), A) else if w = nI 1 then (nI (hunF (aL A)), A) else if w = nI 2 then (nI (aloF (aL A)), A) else rfA A (-2)
theorem x_sight (X : XI S h x A) {w : Int32} {Q : Int32 → Hp → Prop} (hQ : ∀ h', XI S h' x (sightA A w).2 → FrX x h h' → Q (sightA A w).1 h') : w_X6_sight S x w h Q := by
  have l := X.1
  have l1 := l.2.1.1
  unfold w_X6_sight
  unfold sightA at hQ
  rw [l.1.2.1]
  by_cases c0 : w = nI 0
  · rw [if_pos c0]
    rw [if_pos c0] at hQ
    exact ⟨l.1.1, l1.1, x_vowL X.2.1 (hQ h X FrX_rf)⟩
  rw [if_neg c0]
  rw [if_neg c0] at hQ
  by_cases c1 : w = nI 1
  · rw [if_pos c1]
    rw [if_pos c1] at hQ
    exact ⟨l.1.1, l1.1, x_hungryL X.2.1 (hQ h X FrX_rf)⟩
  rw [if_neg c1]
  rw [if_neg c1] at hQ
  by_cases c2 : w = nI 2
  · rw [if_pos c2]
    rw [if_pos c2] at hQ
    exact ⟨l.1.1, l1.1, x_aloneL X.2.1 (hQ h X FrX_rf)⟩
  rw [if_neg c2]
  rw [if_neg c2] at hQ
  exact ⟨l.1.1, x_refuse X (by unfold rfok; decide) hQ⟩
theorem y_sight (X : MI_ S h m A) {w : Int32} {Q : Int32 → Hp → Prop} (hQ : ∀ h', MI_ S h' m (sightA A w).2 → FrY m h h' → Q (sightA A w).1 h') : w_X7_sight S m w h Q := by
  have l := X.1.1
  unfold w_X7_sight
  unfold sightA at hQ
  by_cases c0 : w = nI 0
  · rw [if_pos c0]
    rw [if_pos c0] at hQ
    exact ⟨l.1, y_vowL X.1 (hQ h X FrY_rf)⟩
  rw [if_neg c0]
  rw [if_neg c0] at hQ
  by_cases c1 : w = nI 1
  · rw [if_pos c1]
    rw [if_pos c1] at hQ
    exact ⟨l.1, y_hungryL X.1 (hQ h X FrY_rf)⟩
  rw [if_neg c1]
  rw [if_neg c1] at hQ
  by_cases c2 : w = nI 2
  · rw [if_pos c2]
    rw [if_pos c2] at hQ
    exact ⟨l.1, y_aloneL X.1 (hQ h X FrY_rf)⟩
  rw [if_neg c2]
  rw [if_neg c2] at hQ
  exact ⟨l.1, y_no X (by unfold rfok; decide) hQ⟩
theorem op_sight (H : SI S h x A) {w : Int32} {Q : Int32 → Int32 → Hp → Prop} (hQ : ∀ r A' h', SI S h' x A' → Q r r h') : w_X6_sight S x w h (fun r h1 => w_X7_sight S (x + 180) w h1 (fun r' h2 => Q r r' h2)) :=
  x_sight H.1 (fun h1 X1 F1 => y_sight (SI_m H F1) (fun h2 Y2 F2 => hQ _ _ h2 (SI_mk X1 Y2 F2)))
end SIGHT
