/-! PURE: the class's Head, names and copies -/
theorem q_upto {Pr : Nat → Prop} {n : Nat} (hn : Pr n) (hs : ∀ k, k < n → Pr (k + 1) → Pr k) : ∀ k, k ≤ n → Pr k := by
  have K : ∀ (f k : Nat), n = k + f → Pr k := by
    intro f
    induction f with
    | zero => intro k e; rw [show k = n by omega]; exact hn
    | succ f ih => intro k e; exact hs k (by omega) (ih (k + 1) (by omega))
  exact fun k h => K (n - k) k (by omega)
theorem q_cpeq {A N A' N' : Nat → Nat} {k : Nat} (h3 : A 3 ≤ 6) (h1 : ∀ j, j < k → j < A 3 ∧ j < A' 3 ∧ N j = N' j) (h2 : ¬ (k < A 3 ∧ k < A' 3 ∧ N k = N' k)) : cp A N A' N' = k := by
  obtain ⟨-, g2, g3⟩ := cpF_spec (N := N) (N' := N') (n := A 3) (n' := A' 3) 6 0 (by omega)
  have g2 : ¬ (cp A N A' N' < A 3 ∧ cp A N A' N' < A' 3 ∧ N (cp A N A' N') = N' (cp A N A' N')) := g2
  rcases Nat.lt_trichotomy (cp A N A' N') k with q | q | q
  · exact absurd (h1 _ q) g2
  · exact q
  · exact absurd (g3 k (Nat.zero_le _) q) h2
def vcF (N : Nat → Nat) : Nat → Nat
  | 0 => 0
  | n + 1 => vcF N n + if (N n = 0 ∨ N n = 4 ∨ N n = 8 ∨ N n = 14 ∨ N n = 20) then 1 else 0
theorem vcF_le (N : Nat → Nat) : ∀ n, vcF N n ≤ n
  | 0 => Nat.le_refl _
  | n + 1 => by have := vcF_le N n; simp only [vcF]; split <;> omega
def plF (N N' : Nat → Nat) : Nat → Nat
  | 0 => 0
  | n + 1 => plF N N' n + if N n = N' n then 1 else 0
theorem plF_le (N N' : Nat → Nat) : ∀ n, plF N N' n ≤ n
  | 0 => Nat.le_refl _
  | n + 1 => by have := plF_le N N' n; simp only [plF]; split <;> omega
def shF (A N A' N' : Nat → Nat) : Nat → Nat
  | 0 => 0
  | c + 1 => shF A N A' N' c + if hasF N c (A 3) = true ∧ hasF N' c (A' 3) = true then 1 else 0
theorem shF_le (A N A' N' : Nat → Nat) : ∀ n, shF A N A' N' n ≤ n
  | 0 => Nat.le_refl _
  | n + 1 => by have := shF_le A N A' N' n; simp only [shF]; split <;> omega
section XNAMES
variable {S : St} {h : Hp} {a a' : Nat} {A N A' N' : Nat → Nat}
theorem x_vowels (H : XH S h a A N) {Q : Int32 → Hp → Prop} (hQ : Q (nI (vcF N (A 3))) h) : w_X0_vowelsInName S a h Q := by
  obtain ⟨ho, r2, s1, e, en, b0, b1, b3, b4, b5, b6, b7, b8, bn, b9⟩ := H
  unfold w_X0_vowelsInName w_X0_vowelsInName_c4
  intro P hP
  have K := q_upto (Pr := fun k => P (nI (vcF N k)) (nI k) h) (n := A 3) (by
    refine hP _ _ _ ⟨ho, ?_⟩
    simp only [e 3 (by decide) (by decide), q_le (show A 3 < 2 ^ 31 by omega) (show A 3 < 2 ^ 31 by omega)]
    rw [if_pos (Nat.le_refl _)]
    exact hQ) (by
    intro k hk ih
    refine hP _ _ _ ⟨ho, ?_⟩
    simp only [e 3 (by decide) (by decide), q_le (show A 3 < 2 ^ 31 by omega) (show k < 2 ^ 31 by omega)]
    rw [if_neg (by omega), r2]
    refine ⟨q_ain s1 (by omega) (by omega), ?_⟩
    rw [q_ix (by omega), en k hk]
    refine x_isVowel (bn k hk) (fun v => ?_) (fun v => ?_)
    · simp (disch := omega) only [q_eq0, nI_add]
      simpa [vcF, v] using ih
    · simp (disch := omega) only [q_eq0, nI_add]
      simpa [vcF, v] using ih)
  exact K 0 (by omega)
theorem x_nameAgainst (H : XH S h a A N) (H' : XH S h a' A' N') {Q : Int32 → Hp → Prop} (hQ : ∀ r : Int32, (0 ≤ r ↔ ¬ ahead A N A' N') → (r = 0 ↔ alike A N A' N') → Q r h) : w_X0_nameAgainst S a a' h Q := by
  obtain ⟨ho, r2, s1, e, en, b0, b1, b3, b4, b5, b6, b7, b8, bn, b9⟩ := H
  obtain ⟨ho', r2', s1', e', en', b0', b1', b3', b4', b5', b6', b7', b8', bn', b9'⟩ := H'
  unfold w_X0_nameAgainst w_X0_nameAgainst_c2
  intro P hP
  have E : ∀ k, k ≤ 6 → (∀ j, j < k → j < A 3 ∧ j < A' 3 ∧ N j = N' j) → ¬ (k < A 3 ∧ k < A' 3) → Q (nI (A 3) - nI (A' 3)) h := by
    intro k hk6 hk hs
    have hc := q_cpeq (N := N) (N' := N') b3 hk (by omega)
    refine hQ _ ?_ ?_
    · rw [q_0sub (by omega) (by omega)]
      unfold ahead; rw [hc]
      rcases Nat.eq_zero_or_pos k with q | q
      · omega
      · have := hk (k - 1) (by omega)
        omega
    · rw [q_sub0 (by omega) (by omega)]
      unfold alike; rw [hc]
      rcases Nat.eq_zero_or_pos k with q | q
      · omega
      · have := hk (k - 1) (by omega)
        omega
  have K := q_upto (Pr := fun k => (∀ j, j < k → j < A 3 ∧ j < A' 3 ∧ N j = N' j) → P (nI k) h) (n := A 3) (by
    intro hk
    refine hP _ _ ⟨ho, ?_⟩
    simp only [e 3 (by decide) (by decide), e' 3 (by decide) (by decide), q_le (show A 3 < 2 ^ 31 by omega) (show A 3 < 2 ^ 31 by omega)]
    rw [if_pos (Nat.le_refl _)]
    exact ⟨ho', E _ b3 hk (by omega)⟩) (by
    intro k hkn ih hk
    refine hP _ _ ⟨ho, ?_⟩
    simp only [e 3 (by decide) (by decide), e' 3 (by decide) (by decide), q_le (show A 3 < 2 ^ 31 by omega) (show k < 2 ^ 31 by omega), q_le (show A' 3 < 2 ^ 31 by omega) (show k < 2 ^ 31 by omega)]
    rw [if_neg (by omega)]
    refine ⟨ho', ?_⟩
    by_cases g : A' 3 ≤ k
    · rw [if_pos g]
      exact E k (by omega) hk (by omega)
    · rw [if_neg g, r2, r2']
      refine ⟨q_ain s1 (by omega) (by omega), q_ain s1' (by omega) (by omega), ?_⟩
      have n1 := bn k hkn
      have n2 := bn' k (by omega)
      simp only [q_ix (show k < 2 ^ 31 by omega), en k hkn, en' k (by omega), q_eq (show N k < 2 ^ 31 by omega) (show N' k < 2 ^ 31 by omega), nI_add]
      by_cases g2 : N k = N' k
      · rw [if_pos g2]
        exact ih (fun j hj => by
          by_cases ej : j = k
          · subst ej; exact ⟨hkn, by omega, g2⟩
          · exact hk j (by omega))
      · rw [if_neg g2]
        have hc := q_cpeq (N := N) (N' := N') b3 hk (by omega)
        refine hQ _ ?_ ?_
        · rw [q_0sub (by omega) (by omega)]
          unfold ahead; rw [hc]; omega
        · rw [q_sub0 (by omega) (by omega)]
          unfold alike; rw [hc]; omega)
  exact K 0 (by omega) (fun j q => absurd q (by omega))
theorem x_same (H : XH S h a A N) (H' : XH S h a' A' N') {Q : Int32 → Hp → Prop} (hQ : Q (nI (cp A N A' N')) h) : w_X0_lettersAlikeAhead S a a' h Q := by
  obtain ⟨ho, r2, s1, e, en, b0, b1, b3, b4, b5, b6, b7, b8, bn, b9⟩ := H
  obtain ⟨ho', r2', s1', e', en', b0', b1', b3', b4', b5', b6', b7', b8', bn', b9'⟩ := H'
  unfold w_X0_lettersAlikeAhead w_X0_lettersAlikeAhead_c2
  intro P hP
  have K := q_upto (Pr := fun k => (∀ j, j < k → j < A 3 ∧ j < A' 3 ∧ N j = N' j) → P (nI k) h) (n := A 3) (by
    intro hk
    refine hP _ _ ⟨ho, ?_⟩
    simp only [e 3 (by decide) (by decide), e' 3 (by decide) (by decide), q_le (show A 3 < 2 ^ 31 by omega) (show A 3 < 2 ^ 31 by omega)]
    rw [if_pos (Nat.le_refl _), ← q_cpeq (N := N) (N' := N') b3 hk (by omega)]
    exact hQ) (by
    intro k hkn ih hk
    refine hP _ _ ⟨ho, ?_⟩
    simp only [e 3 (by decide) (by decide), e' 3 (by decide) (by decide), q_le (show A 3 < 2 ^ 31 by omega) (show k < 2 ^ 31 by omega), q_le (show A' 3 < 2 ^ 31 by omega) (show k < 2 ^ 31 by omega)]
    rw [if_neg (by omega)]
    refine ⟨ho', ?_⟩
    by_cases g : A' 3 ≤ k
    · rw [if_pos g, ← q_cpeq (N := N) (N' := N') b3 hk (by omega)]
      exact hQ
    · rw [if_neg g, r2, r2']
      refine ⟨q_ain s1 (by omega) (by omega), q_ain s1' (by omega) (by omega), ?_⟩
      have n1 := bn k hkn
      have n2 := bn' k (by omega)
      simp only [q_ix (show k < 2 ^ 31 by omega), en k hkn, en' k (by omega), q_eq (show N k < 2 ^ 31 by omega) (show N' k < 2 ^ 31 by omega), nI_add]
      by_cases g2 : N k = N' k
      · rw [if_pos g2]
        exact ih (fun j hj => by
          by_cases ej : j = k
          · subst ej; exact ⟨hkn, by omega, g2⟩
          · exact hk j (by omega))
      · rw [if_neg g2, ← q_cpeq (N := N) (N' := N') b3 hk (by omega)]
        exact hQ)
  exact K 0 (by omega) (fun j q => absurd q (by omega))
theorem x_places (H : XH S h a A N) (H' : XH S h a' A' N') {Q : Int32 → Hp → Prop} (hQ : Q (nI (plF N N' (min (A 3) (A' 3)))) h) : w_X0_placesAlike S a a' h Q := by
  obtain ⟨ho, r2, s1, e, en, b0, b1, b3, b4, b5, b6, b7, b8, bn, b9⟩ := H
  obtain ⟨ho', r2', s1', e', en', b0', b1', b3', b4', b5', b6', b7', b8', bn', b9'⟩ := H'
  unfold w_X0_placesAlike w_X0_placesAlike_c4
  intro P hP
  have K := q_upto (Pr := fun k => P (nI (plF N N' k)) (nI k) h) (n := min (A 3) (A' 3)) (by
    refine hP _ _ _ ⟨ho, ?_⟩
    simp only [e 3 (by decide) (by decide), e' 3 (by decide) (by decide), q_le (show A 3 < 2 ^ 31 by omega) (show min (A 3) (A' 3) < 2 ^ 31 by omega), q_le (show A' 3 < 2 ^ 31 by omega) (show min (A 3) (A' 3) < 2 ^ 31 by omega)]
    by_cases g : A 3 ≤ min (A 3) (A' 3)
    · rw [if_pos g]; exact hQ
    · rw [if_neg g, if_pos (by omega)]; exact ⟨ho', hQ⟩) (by
    intro k hkn ih
    refine hP _ _ _ ⟨ho, ?_⟩
    simp only [e 3 (by decide) (by decide), e' 3 (by decide) (by decide), q_le (show A 3 < 2 ^ 31 by omega) (show k < 2 ^ 31 by omega), q_le (show A' 3 < 2 ^ 31 by omega) (show k < 2 ^ 31 by omega)]
    rw [if_neg (by omega), if_neg (by omega), r2, r2']
    refine ⟨ho', q_ain s1 (by omega) (by omega), q_ain s1' (by omega) (by omega), ?_⟩
    have n1 := bn k (by omega)
    have n2 := bn' k (by omega)
    simp only [q_ix (show k < 2 ^ 31 by omega), en k (by omega), en' k (by omega), q_eq (show N k < 2 ^ 31 by omega) (show N' k < 2 ^ 31 by omega), nI_add]
    by_cases g2 : N k = N' k
    · rw [if_pos g2]; simpa [plF, g2] using ih
    · rw [if_neg g2]; simpa [plF, g2] using ih)
  exact K 0 (by omega)
theorem x_shared (H : XH S h a A N) (H' : XH S h a' A' N') {Q : Int32 → Hp → Prop} (hQ : Q (nI (shF A N A' N' 26)) h) : w_X0_lettersShared S a a' h Q := by
  unfold w_X0_lettersShared w_X0_lettersShared_c4
  intro P hP
  have K := q_upto (Pr := fun k => P (nI (shF A N A' N' k)) (nI k) h) (n := 26) (by
    refine hP _ _ _ ?_
    rw [if_pos (by decide)]; exact hQ) (by
    intro k hkn ih
    refine hP _ _ _ ?_
    simp only [q_le (show 26 < 2 ^ 31 by omega) (show k < 2 ^ 31 by omega)]
    rw [if_neg (by omega)]
    refine ⟨H.1, x_hasLetter H (by omega) (fun v => ?_) (fun v => ?_)⟩
    · rw [if_neg (by decide)]
      refine ⟨H'.1, x_hasLetter H' (by omega) (fun v' => ?_) (fun v' => ?_)⟩
      · rw [if_neg (by decide), nI_add, nI_add]; simpa [shF, v, v'] using ih
      · rw [if_pos (by decide), nI_add]; simpa [shF, v, v'] using ih
    · rw [if_pos (by decide), nI_add]; simpa [shF, v] using ih)
  exact K 0 (by omega)
/-- a head's shape -/
def XS (S : St) (a : Nat) : Prop := ob S a 0 ∧ S.2 a 2 = a + 1 ∧ S.1 (a + 1) = some (.inr (0, 6))
theorem XHsh (H : XH S h a A N) : XS S a := ⟨H.1, H.2.1, H.2.2.1⟩
theorem x_lengthen (H : XH S h a A N) (hl : A 3 < 6) {c : Nat} {Q : Hp → Prop} (hQ : Q (up (up h (a + 1) (A 3) (nI c)) a 3 (nI (A 3 + 1)))) : w_X0_lengthenName S a (nI c) h Q := by
  have H2 := H
  obtain ⟨ho, r2, s1, e, en, b0, b1, b3, b4, b5, b6, b7, b8, bn, b9⟩ := H2
  unfold w_X0_lengthenName
  refine ⟨ho, x_hasFull H (fun v => by omega) (fun _ => ?_)⟩
  rw [if_pos (by decide), r2, e 3 (by decide) (by decide)]
  refine ⟨q_ain s1 (by omega) (by omega), ?_⟩
  rw [q_ix (by omega), up_ne (by omega), e 3 (by decide) (by decide), nI_add]
  exact hQ
theorem x_begin (ho : ob S a 0) {k f g : Int32} {Q : Hp → Prop} (hQ : ∀ h' : Hp, h' a 0 = k → h' a 1 = f → h' a 4 = g → (∀ j, j = 3 ∨ j = 5 ∨ j = 6 ∨ j = 7 ∨ j = 8 → h' a j = nI 0) → (∀ b j, b ≠ a → h' b j = h b j) → Q h') : w_X0_begin S a k f g h Q := by
  unfold w_X0_begin
  refine ⟨ho, hQ _ ?_ ?_ ?_ ?_ ?_⟩
  · simp [up]
  · simp [up]
  · simp [up]
  · rintro j (rfl | rfl | rfl | rfl | rfl) <;> simp [up]
  · intro b j hb; simp [up, hb]
theorem x_copyName (X : XS S a) (H' : XH S h a' A' N') (n1 : a' ≠ a) (n2 : a' + 1 ≠ a) (n3 : a' ≠ a + 1) {Q : Hp → Prop} (hQ : ∀ h' : Hp, h' a 3 = nI (A' 3) → (∀ k, k < A' 3 → h' (a + 1) k = nI (N' k)) → (∀ j, j ≠ 3 → h' a j = h a j) → (∀ b j, b ≠ a → b ≠ a + 1 → h' b j = h b j) → Q h') : w_X0_copyName S a a' h Q := by
  obtain ⟨ho, r2, s1⟩ := X
  obtain ⟨ho', r2', s1', e', en', b0', b1', b3', b4', b5', b6', b7', b8', bn', b9'⟩ := H'
  unfold w_X0_copyName
  rw [r2, r2', e' 3 (by decide) (by decide)]
  refine ⟨ho', ho, ⟨6, 6, s1', s1, by decide, by decide, by decide, by decide, by decide⟩, hQ _ ?_ ?_ ?_ ?_⟩
  · simp [cpy, up]
  · intro k hk
    simp only [cpy, if_pos]
    rw [show (nI 0).toNatClampNeg = 0 from rfl, show (nI 6).toNatClampNeg = 6 from rfl]
    rw [pk_cpy_in (by omega) (by omega), up_ne (by omega), Nat.zero_add, Nat.sub_zero]
    exact en' k hk
  · intro j hj; simp [cpy, up, hj]
  · intro b j h1 h2; simp [cpy, up, h1, h2]
theorem x_become (X : XS S a) (H' : XH S h a' A' N') (n1 : a' ≠ a) (n2 : a' + 1 ≠ a) (n3 : a' ≠ a + 1) {Q : Hp → Prop} (hQ : ∀ h' : Hp, XH S h' a A' N' → (∀ b j, b ≠ a → b ≠ a + 1 → h' b j = h b j) → Q h') : w_X0_become S a a' h Q := by
  have H2 := H'
  obtain ⟨ho', r2', s1', e', en', b0', b1', b3', b4', b5', b6', b7', b8', bn', b9'⟩ := H2
  unfold w_X0_become
  have H3 : XH S (up (up h a 0 (h a' 0)) a 1 ((up h a 0 (h a' 0)) a' 1)) a' A' N' := by
    refine ⟨ho', r2', s1', fun k h1 h2 => ?_, fun k hk => ?_, H'.2.2.2.2.2⟩
    · rw [up_ne (by omega), up_ne (by omega)]; exact e' k h1 h2
    · rw [up_ne (by omega), up_ne (by omega)]; exact en' k hk
  refine ⟨ho', X.1, x_copyName X H3 n1 n2 n3 (fun h1 g3 gn gj gb => ?_)⟩
  have ea : ∀ k, h1 a' k = h a' k := fun k => by rw [gb a' k n1 n3, up_ne (by omega), up_ne (by omega)]
  have hbo : ∀ x : Int32, x = nI (A' 8) → bo x := by
    intro x hx
    rcases (show A' 8 = 0 ∨ A' 8 = 1 by omega) with q | q <;> rw [hx, q]
    · exact Or.inl rfl
    · exact Or.inr rfl
  have u1 : ∀ (g : Hp) (k k' : Nat) (v : Int32), up g a k v a' k' = g a' k' := fun g k k' v => up_ne (by omega)
  simp only [u1, ea]
  refine ⟨hbo _ (e' 8 (by decide) (by decide)), hQ _ ⟨X.1, X.2.1, X.2.2, fun k h1 h2 => ?_, fun k hk => ?_, H'.2.2.2.2.2⟩ (fun b j q1 q2 => ?_)⟩
  · rcases (show k = 0 ∨ k = 1 ∨ k = 3 ∨ k = 4 ∨ k = 5 ∨ k = 6 ∨ k = 7 ∨ k = 8 by omega) with q | q | q | q | q | q | q | q <;> subst q
    · simp [up, gj, n1, e']
    · simp [up, gj, n1, e']
    · simp [up, g3]
    · simp [up, e']
    · simp [up, e']
    · simp [up, e']
    · simp [up, e']
    · simp [up, e']
  · rw [up_ne (by omega), up_ne (by omega), up_ne (by omega), up_ne (by omega), up_ne (by omega)]; exact gn k hk
  · rw [up_ne (by omega), up_ne (by omega), up_ne (by omega), up_ne (by omega), up_ne (by omega), gb b j q1 q2, up_ne (by omega), up_ne (by omega)]
end XNAMES
