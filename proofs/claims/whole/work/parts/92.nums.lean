/-! PURE: land, numbers and names as the class reads them -/
/-- a part is letters all, or digits all -/
def PGP (k : Nat) (T : Nat → Nat) (b n : Nat) : Prop := 0 < n ∧ b + n ≤ k ∧ ((n ≤ 7 ∧ ∀ i, i < n → isS k T 97 122 (b + i)) ∨ (n ≤ 2 ∧ ∀ i, i < n → isS k T 48 57 (b + i)))
def GP (k : Nat) (T : Nat → Nat) (D : PS) : Prop := D.1 ≤ 3 ∧ ∀ j, j < D.1 → PGP k T (D.2.1 j) (D.2.2 j)
def nvF (T : Nat → Nat) (b n : Nat) : Nat := if n = 1 then T b - 48 else 10 * (T b - 48) + (T (b + 1) - 48)
def nuF (T : Nat → Nat) (D : PS) (j : Nat) : Nat := if j < D.1 ∧ T (D.2.1 j) ≤ 57 then nvF T (D.2.1 j) (D.2.2 j) else 999
abbrev ltF (T : Nat → Nat) (D : PS) (j : Nat) : Prop := j < D.1 ∧ 57 < T (D.2.1 j)
section NUMS
variable {k : Nat} {T : Nat → Nat} {D : PS}
theorem GP_ad {p : Nat} (G : GP k T D) (h3 : D.1 < 3) (hp : p ≤ k) (hn : paF k T p ≠ 0) : GP k T (adP D p (paF k T p)) := by
  refine ⟨h3, fun j hj => ?_⟩
  have hj : j < D.1 + 1 := hj
  show PGP k T (upN D.2.1 D.1 p j) (upN D.2.2 D.1 (paF k T p) j)
  by_cases c : j = D.1
  · subst c
    rw [upN_s, upN_s]
    exact ⟨by omega, pa_k hp, pa_c p⟩
  · rw [upN_n c, upN_n c]; exact G.2 j (by omega)
theorem tl_gp : ∀ (e r : Nat) (D : PS), D.1 + e = 3 → r ≤ k → GP k T D → (tlF k T e r D).1 = true → GP k T (tlF k T e r D).2.2 ∧ D.1 ≤ (tlF k T e r D).2.2.1
  | 0, r, D, hD, hr, G, ok => by
    simp only [tlF] at ok ⊢
    by_cases c : sgS k T r 59
    · rw [if_pos c]; exact ⟨G, Nat.le_refl _⟩
    · rw [if_neg c] at ok; exact absurd ok Bool.false_ne_true
  | e + 1, r, D, hD, hr, G, ok => by
    simp only [tlF] at ok ⊢
    by_cases c : sgS k T r 32
    · rw [if_pos c] at ok ⊢
      have c1 := c.1
      by_cases c5 : paF k T (r + 1) = 0
      · rw [if_pos c5] at ok; exact absurd ok Bool.false_ne_true
      · rw [if_neg c5] at ok ⊢
        have ih := tl_gp e (r + 1 + paF k T (r + 1)) (adP D (r + 1) (paF k T (r + 1))) (by show D.1 + 1 + e = 3; omega) (pa_k (by omega)) (GP_ad G (by omega) (by omega) c5) ok
        exact ⟨ih.1, Nat.le_trans (Nat.le_succ _) ih.2⟩
    · rw [if_neg c] at ok ⊢
      by_cases c9 : sgS k T r 59
      · rw [if_pos c9]; exact ⟨G, Nat.le_refl _⟩
      · rw [if_neg c9] at ok; exact absurd ok Bool.false_ne_true
theorem sm_gp {p : Nat} (hp : p ≤ k) (ok : (smF k T p).1 = true) : GP k T (smF k T p).2.2 ∧ 0 < leF k T p ∧ 1 ≤ (smF k T p).2.2.1 := by
  have wk : p + leF k T p ≤ k := rn_k _ _ _ _ hp
  unfold smF at ok ⊢
  by_cases c : leF k T p = 0
  · rw [if_pos c] at ok; exact absurd ok Bool.false_ne_true
  rw [if_neg c] at ok ⊢
  by_cases c2 : sgS k T (p + leF k T p) 32
  · rw [if_pos c2] at ok ⊢
    have c3 := c2.1
    by_cases c5 : paF k T (p + leF k T p + 1) = 0
    · rw [if_pos c5] at ok; exact absurd ok Bool.false_ne_true
    rw [if_neg c5] at ok ⊢
    have g := tl_gp 2 _ (adP DP0 (p + leF k T p + 1) (paF k T (p + leF k T p + 1))) rfl (pa_k (by omega)) (GP_ad ⟨by decide, fun j hj => absurd hj (Nat.not_lt_zero j)⟩ (by decide) (by omega) c5) ok
    exact ⟨g.1, by omega, g.2⟩
  · rw [if_neg c2] at ok; exact absurd ok Bool.false_ne_true
theorem nu_c {D : PS} (G : GP k T D) (j : Nat) : nuF T D j ≤ 99 ∨ nuF T D j = 999 := by
  unfold nuF
  split
  · rename_i c
    obtain ⟨g0, g1, g2⟩ := G.2 j c.1
    rcases g2 with g | g
    · have := g.2 0 g0
      rw [Nat.add_zero] at this
      omega
    · have t0 := g.2 0 g0
      rw [Nat.add_zero] at t0
      unfold nvF
      split
      · omega
      · have t1 := g.2 1 (by omega)
        omega
  · exact Or.inr rfl
end NUMS
section XNUMS
variable {S : St} {h h' : Hp} {x k p w : Nat} {T : Nat → Nat} {D : PS}
theorem PX_j (P : PX h x p w D) (G : GP k T D) {j : Nat} (hj : j < 3) : PXj h x k T D.1 (j + 1) (D.2.1 j) (D.2.2 j) := ⟨P.1, G.1, by omega, fun q => by
  obtain ⟨g0, g1, g2⟩ := G.2 j (by omega)
  exact ⟨(P.2.2.2 j (by omega)).1, (P.2.2.2 j (by omega)).2, by rcases g2 with g | g <;> omega, g1⟩⟩
theorem x_number (l : LayX S x) (C : CT h x k T) (P0 : PX h x p w D) (G : GP k T D) {j : Nat} (hj : j < 3) {u : Int32} {Q : Int32 → Hp → Prop} (hQ : Q (if nuF T D j = 999 then -1 else if u < nI (nuF T D j) then -1 else nI (nuF T D j)) h) : w_X4_number S (x + 153) (nI (j + 1)) u h Q := by
  have lt := l.2.2.2.1
  have k9 := C.2.2
  have g3 := G.1
  unfold w_X4_number
  rw [P0.1, lt.2.2.2.1, q_ix (show j + 1 < 2 ^ 31 by omega)]
  simp only [q_lt (show D.1 < 2 ^ 31 by omega) (show j + 1 < 2 ^ 31 by omega)]
  refine ⟨lt.1, ?_⟩
  unfold nuF at hQ
  by_cases c : j < D.1
  · rw [if_neg (by omega)]
    obtain ⟨g0, g1, g2⟩ := G.2 j c
    have n7 : D.2.2 j ≤ 7 := by rcases g2 with g | g <;> omega
    obtain ⟨e1, e2⟩ := P0.2.2.2 j c
    rw [e2]
    simp only [q_le (show 1 < 2 ^ 31 by decide) (show D.2.2 j < 2 ^ 31 by omega)]
    rw [if_pos (by omega)]
    refine ⟨q_ain lt.2.2.2.2.2.2 (by omega) (by decide), ?_⟩
    unfold w_X4_number_c25
    intro P hP
    have stop : ∀ a, Q (if u < nI a then -1 else nI a) h → P (nI a) (nI (D.2.2 j)) h := by
      intro a hq
      refine hP _ _ _ ⟨lt.1, ?_⟩
      rw [lt.2.2.2.1, q_ix (show j + 1 < 2 ^ 31 by omega), e2]
      simp only [q_le (show D.2.2 j < 2 ^ 31 by omega) (show D.2.2 j < 2 ^ 31 by omega)]
      rw [if_pos (Nat.le_refl _)]
      refine ⟨q_ain lt.2.2.2.2.2.2 (by omega) (by decide), ?_⟩
      by_cases c : u < nI a
      · rw [if_pos c] at hq ⊢; exact hq
      · rw [if_neg c] at hq ⊢; exact hq
    rcases g2 with g | g
    · have t0 := g.2 0 g0
      rw [Nat.add_zero] at t0
      rw [if_pos (if_neg (show ¬ (j < D.1 ∧ T (D.2.1 j) ≤ 57) by omega))] at hQ
      refine hP _ _ _ ⟨lt.1, ?_⟩
      rw [lt.2.2.2.1, q_ix (show j + 1 < 2 ^ 31 by omega), e2]
      simp only [q_le (show D.2.2 j < 2 ^ 31 by omega) (show 0 < 2 ^ 31 by decide)]
      rw [if_neg (by omega)]
      have tv := (C.2.1 _ t0.1).2
      refine ⟨q_ain lt.2.2.2.2.2.2 (by omega) (by decide), x_sign l C (by omega) e1 (i := 0) (by omega) (x_isD tv (fun q => ?_) (fun q => ?_))⟩
      · omega
      · rw [if_pos (by decide)]; exact hQ
    · have step : ∀ a i, i < D.2.2 j → a ≤ 9 → P (nI (10 * a + (T (D.2.1 j + i) - 48))) (nI (i + 1)) h → P (nI a) (nI i) h := by
        intro a i hi ha hh
        have t0 := g.2 i hi
        have tv := (C.2.1 _ t0.1).2
        refine hP _ _ _ ⟨lt.1, ?_⟩
        rw [lt.2.2.2.1, q_ix (show j + 1 < 2 ^ 31 by omega), e2]
        simp only [q_le (show D.2.2 j < 2 ^ 31 by omega) (show i < 2 ^ 31 by omega)]
        rw [if_neg (by omega)]
        refine ⟨q_ain lt.2.2.2.2.2.2 (by omega) (by decide), x_sign l C (by omega) e1 (by omega) (x_isD tv (fun _ => ?_) (fun q => absurd t0.2 q))⟩
        rw [if_neg (by decide), pk_mul, nI_add, q_sub (by omega), nI_add, show 10 * a + T (D.2.1 j + i) - 48 = 10 * a + (T (D.2.1 j + i) - 48) by omega]
        exact hh
      have t0 := g.2 0 g0
      rw [Nat.add_zero] at t0
      rw [if_pos (show j < D.1 ∧ T (D.2.1 j) ≤ 57 by omega)] at hQ
      unfold nvF at hQ
      refine step 0 0 g0 (by omega) ?_
      rw [Nat.add_zero, Nat.mul_zero, Nat.zero_add, Nat.zero_add]
      by_cases c1 : D.2.2 j = 1
      · rw [if_pos c1, if_neg (by omega)] at hQ
        have z := stop (T (D.2.1 j) - 48) hQ
        rw [c1] at z; exact z
      · have t1 := g.2 1 (by omega)
        rw [if_neg c1, if_neg (by omega)] at hQ
        refine step _ 1 (by omega) (by omega) ?_
        have z := stop (10 * (T (D.2.1 j) - 48) + (T (D.2.1 j + 1) - 48)) hQ
        rw [show D.2.2 j = 1 + 1 by omega] at z; exact z
  · rw [if_pos (by omega)]
    rw [if_pos (if_neg (fun q => c q.1))] at hQ
    exact hQ
theorem x_isName (l : LayX S x) (C : CT h x k T) (P0 : PX h x p w D) (G : GP k T D) {j : Nat} (hj : j < 3) {Q : Int32 → Hp → Prop} (h1 : ltF T D j → D.2.2 j ≤ 6 → Q (nI 1) h) (h0 : ¬ (ltF T D j ∧ D.2.2 j ≤ 6) → Q (nI 0) h) : w_X4_isName S (x + 153) (nI (j + 1)) h Q := by
  have lt := l.2.2.2.1
  have k9 := C.2.2
  have g3 := G.1
  unfold w_X4_isName
  rw [P0.1, lt.2.2.2.1, q_ix (show j + 1 < 2 ^ 31 by omega)]
  simp only [q_lt (show D.1 < 2 ^ 31 by omega) (show j + 1 < 2 ^ 31 by omega)]
  refine ⟨lt.1, ?_⟩
  by_cases c : j < D.1
  · rw [if_neg (by omega)]
    obtain ⟨g0, g1, g2⟩ := G.2 j c
    have n7 : D.2.2 j ≤ 7 := by rcases g2 with g | g <;> omega
    obtain ⟨e1, e2⟩ := P0.2.2.2 j c
    rw [e2]
    simp only [q_lt (show 6 < 2 ^ 31 by decide) (show D.2.2 j < 2 ^ 31 by omega)]
    refine ⟨q_ain lt.2.2.2.2.2.2 (by omega) (by decide), ?_⟩
    by_cases c6 : 6 < D.2.2 j
    · rw [if_pos c6]; exact h0 (fun q => by omega)
    rw [if_neg c6]
    have tv := (C.2.1 (D.2.1 j) (by omega)).2
    refine x_sign l C (by omega) e1 (i := 0) (by omega) (x_isL tv (fun q => ?_) (fun q => ?_))
    · rw [if_neg (by decide)]
      exact h1 ⟨c, by omega⟩ (by omega)
    · rw [if_pos (by decide)]
      refine h0 (fun y => ?_)
      rcases g2 with g | g
      · exact q (by have := g.2 0 g0; exact this.2)
      · have := g.2 0 g0
        rw [Nat.add_zero] at this
        have := y.1.2; omega
  · rw [if_pos (by omega)]
    exact h0 (fun q => c q.1.1)
theorem lt_in (G : GP k T D) {j : Nat} (hl : ltF T D j) {i : Nat} (hi : i < D.2.2 j) : isS k T 97 122 (D.2.1 j + i) := by
  obtain ⟨g0, g1, g2⟩ := G.2 j hl.1
  rcases g2 with g | g
  · exact g.2 i hi
  · have := g.2 0 g0
    rw [Nat.add_zero] at this
    have := hl.2; omega
theorem x_letterAt (l : LayX S x) (C : CT h x k T) (P0 : PX h x p w D) (G : GP k T D) {j i : Nat} (hj : j < 3) (hl : ltF T D j) (hi : i < D.2.2 j) {Q : Int32 → Hp → Prop} (hQ : Q (nI (T (D.2.1 j + i) - 97)) h) : w_X4_letterAt S (x + 153) (nI (j + 1)) (nI i) h Q := by
  have t := lt_in G hl hi
  unfold w_X4_letterAt
  refine ⟨l.2.2.2.1.1, x_sign l C (by omega) (P0.2.2.2 j hl.1).1 t.1 ?_⟩
  rw [q_sub t.2.1]
  exact hQ
end XNUMS
