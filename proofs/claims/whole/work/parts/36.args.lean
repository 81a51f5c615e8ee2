/-! PURE: arguments and refusals -/
abbrev inR (v : Int32) (n : Nat) : Prop := 0 ≤ v ∧ v < nI n
theorem inR_ex {v : Int32} {n : Nat} (h : inR v n) (hn : n < 2 ^ 31) : ∃ i, i < n ∧ v = nI i := by
  obtain ⟨j, hj, rfl⟩ := nI_of (x := v) (Int32.not_lt.mpr h.1)
  have := h.2
  rw [q_lt hj hn] at this
  exact ⟨j, this, rfl⟩
theorem inR_nI {i n : Nat} (hi : i < 2 ^ 31) (hn : n < 2 ^ 31) : inR (nI i) n ↔ i < n := by
  unfold inR
  rw [q_0le hi, q_lt hi hn]; simp
def fN (v : Int32) (a b : Nat) : Int32 := if v < nI a then -4 else if nI b < v then -6 else 0
def ckN (ok : Prop) [Decidable ok] (v : Int32) (a b : Nat) : Int32 := if ok then fN v a b else -1
def ckA (ok : Prop) [Decidable ok] (v : Int32) (a b : Nat) (w : Int32) (c : Nat) : Int32 := if ckN ok v a b = 0 then (if inR w c then 0 else -2) else ckN ok v a b
theorem fN_0 {v : Int32} {a b : Nat} (hb : b < 2 ^ 31) (hab : a ≤ b) (h : fN v a b = 0) : ∃ j, a ≤ j ∧ j ≤ b ∧ v = nI j := by
  unfold fN at h
  by_cases c : v < nI a
  · rw [if_pos c] at h; exact absurd h (by decide)
  · rw [if_neg c] at h
    by_cases c2 : nI b < v
    · rw [if_pos c2] at h; exact absurd h (by decide)
    · have h0 : ¬ v < 0 := fun q => c (by
        have := nI_pos' (show a < 2 ^ 31 by omega)
        exact Int32.lt_of_lt_of_le q this)
      obtain ⟨j, hj, rfl⟩ := nI_of h0
      rw [q_lt hj (by omega)] at c
      rw [q_lt (by omega) hj] at c2
      exact ⟨j, by omega, by omega, rfl⟩
theorem fN_c (v : Int32) (a b : Nat) : fN v a b = 0 ∨ rfok (fN v a b) := by
  unfold fN rfok
  split
  · exact Or.inr (by decide)
  · split
    · exact Or.inr (by decide)
    · exact Or.inl rfl
theorem ckN_c (ok : Prop) [Decidable ok] (v : Int32) (a b : Nat) : ckN ok v a b = 0 ∨ rfok (ckN ok v a b) := by
  unfold ckN
  split
  · exact fN_c v a b
  · exact Or.inr (Or.inl rfl)
theorem ckN_0 {ok : Prop} [Decidable ok] {v : Int32} {a b : Nat} (h : ckN ok v a b = 0) : ok ∧ fN v a b = 0 := by
  unfold ckN at h
  by_cases c : ok
  · rw [if_pos c] at h; exact ⟨c, h⟩
  · rw [if_neg c] at h; exact absurd h (by decide)
theorem ckA_c (ok : Prop) [Decidable ok] (v : Int32) (a b : Nat) (w : Int32) (c : Nat) : ckA ok v a b w c = 0 ∨ rfok (ckA ok v a b w c) := by
  unfold ckA
  split
  · split
    · exact Or.inl rfl
    · exact Or.inr (Or.inr (Or.inl rfl))
  · exact ckN_c ok v a b
theorem ckA_0 {ok : Prop} [Decidable ok] {v : Int32} {a b : Nat} {w : Int32} {c : Nat} (h : ckA ok v a b w c = 0) : ok ∧ fN v a b = 0 ∧ inR w c := by
  unfold ckA at h
  by_cases g : ckN ok v a b = 0
  · rw [if_pos g] at h
    by_cases g2 : inR w c
    · exact ⟨(ckN_0 g).1, (ckN_0 g).2, g2⟩
    · rw [if_neg g2] at h; exact absurd h (by decide)
  · rw [if_neg g] at h; exact absurd h g
section ARGS
variable {S : St} {h : Hp} {x m : Nat} {A : Ab}
theorem x_noHead (X : XI S h x A) {v : Int32} {Q : Int32 → Hp → Prop} (h0 : inR v (aL A 0 4) → Q (nI 0) h) (h1 : ¬ inR v (aL A 0 4) → Q (nI 1) h) : w_X6_noHead S x v h Q := by
  unfold w_X6_noHead
  have l := X.1
  rw [l.1.2.1, X.2.1.2.1.1.1]
  by_cases c : v < 0
  · rw [if_pos c]; exact h1 (fun q => absurd c (Int32.not_lt.mpr q.1))
  · rw [if_neg c]
    refine ⟨l.1.1, l.2.1.1.1, ?_⟩
    by_cases c2 : v < nI (aL A 0 4)
    · rw [if_pos c2]; exact h0 ⟨Int32.not_lt.mp c, c2⟩
    · rw [if_neg c2]; exact h1 (fun q => c2 q.2)
theorem x_noField {v : Int32} {Q : Int32 → Hp → Prop} (h0 : inR v 48 → Q (nI 0) h) (h1 : ¬ inR v 48 → Q (nI 1) h) : w_X6_noField S v h Q := by
  unfold w_X6_noField
  by_cases c : v < 0
  · rw [if_pos c]; exact h1 (fun q => absurd c (Int32.not_lt.mpr q.1))
  · rw [if_neg c]
    by_cases c2 : v < nI 48
    · rw [if_pos c2]; exact h0 ⟨Int32.not_lt.mp c, c2⟩
    · rw [if_neg c2]; exact h1 (fun q => c2 q.2)
theorem x_noPair (X : XI S h x A) {v w : Int32} {Q : Int32 → Hp → Prop} (h0 : (inR v (aL A 0 4) ∧ inR w (aL A 0 4) ∧ v ≠ w) → Q (nI 0) h) (h1 : ¬ (inR v (aL A 0 4) ∧ inR w (aL A 0 4) ∧ v ≠ w) → Q (nI 1) h) : w_X6_noPair S x v w h Q := by
  unfold w_X6_noPair
  refine ⟨X.1.1.1, x_noHead X (fun c => ?_) (fun c => ?_)⟩
  · rw [if_pos (by decide)]
    refine x_noHead X (fun c2 => ?_) (fun c2 => ?_)
    · rw [if_pos (by decide)]
      by_cases e : v = w
      · rw [if_pos e]; exact h1 (fun q => q.2.2 e)
      · rw [if_neg e]; exact h0 ⟨c, c2, e⟩
    · rw [if_neg (by decide)]; exact h1 (fun q => c2 q.2.1)
  · rw [if_neg (by decide)]; exact h1 (fun q => c q.1)
theorem x_faultN {nb v : Int32} {a b : Nat} {Q : Int32 → Hp → Prop} (hQ : Q (ckN (nb = 0) v a b) h) : w_X6_faultOfNumber S nb v (nI a) (nI b) h Q := by
  unfold w_X6_faultOfNumber
  unfold ckN fN at hQ
  by_cases c0 : nb = 0
  · rw [if_pos c0]
    rw [if_pos c0] at hQ
    by_cases c1 : nI a ≤ v
    · rw [if_pos c1]
      rw [if_neg (Int32.not_lt.mpr c1)] at hQ
      by_cases c2 : v ≤ nI b
      · rw [if_pos c2]
        rw [if_neg (Int32.not_lt.mpr c2)] at hQ; exact hQ
      · rw [if_neg c2]
        rw [if_pos (Int32.not_le.mp c2)] at hQ; exact hQ
    · rw [if_neg c1]
      rw [if_pos (Int32.not_le.mp c1)] at hQ; exact hQ
  · rw [if_neg c0]
    rw [if_neg c0] at hQ; exact hQ
theorem x_faultA {nb v w : Int32} {a b c : Nat} (hc : c < 2 ^ 30) {Q : Int32 → Hp → Prop} (hQ : Q (ckA (nb = 0) v a b w (c + 1)) h) : w_X6_faultOfAsked S nb v (nI a) (nI b) w (nI c) h Q := by
  unfold w_X6_faultOfAsked
  refine x_faultN ?_
  unfold ckA at hQ
  have ei : inR w (c + 1) ↔ ¬ w < 0 ∧ w ≤ nI c := by
    constructor
    · intro q
      obtain ⟨i, hi, rfl⟩ := inR_ex q (by omega)
      exact ⟨nI_pos (by omega), nI_le (by omega) (by omega)⟩
    · rintro ⟨q1, q2⟩
      obtain ⟨j, hj, rfl⟩ := nI_of q1
      rw [q_le hj (by omega)] at q2
      rw [inR_nI hj (by omega)]; omega
  by_cases g : ckN (nb = 0) v a b = 0
  · rw [if_pos g] at hQ
    simp only [g, if_true]
    by_cases c1 : w < 0
    · rw [if_pos c1]
      rw [if_neg (fun q => (ei.mp q).1 c1)] at hQ; exact hQ
    · rw [if_neg c1]
      by_cases c2 : w ≤ nI c
      · rw [if_pos c2]
        rw [if_pos (ei.mpr ⟨c1, c2⟩)] at hQ; exact hQ
      · rw [if_neg c2]
        rw [if_neg (fun q => c2 (ei.mp q).2)] at hQ; exact hQ
  · rw [if_neg g] at hQ
    simp only [g, if_false]
    split
    · exact hQ
    · split <;> exact hQ
theorem y_isIn {v a b : Int32} {Q : Int32 → Hp → Prop} (h1 : (a ≤ v ∧ v ≤ b) → Q (nI 1) h) (h0 : ¬ (a ≤ v ∧ v ≤ b) → Q (nI 0) h) : w_X7_isIn S v a b h Q := by
  unfold w_X7_isIn
  by_cases c : v < a
  · rw [if_pos c]; exact h0 (fun q => absurd c (Int32.not_lt.mpr q.1))
  · rw [if_neg c]
    by_cases c2 : b < v
    · rw [if_pos c2]; exact h0 (fun q => absurd c2 (Int32.not_lt.mpr q.2))
    · rw [if_neg c2]; exact h1 ⟨Int32.not_lt.mp c, Int32.not_lt.mp c2⟩
theorem inR_pred {v : Int32} {n : Nat} (hn : n < 2 ^ 30) : (nI 0 ≤ v ∧ v ≤ nI n - nI 1) ↔ inR v n := by
  unfold inR
  have e0 : nI 0 = 0 := nI_0
  rw [e0, Int32.le_iff_toInt_le, Int32.le_iff_toInt_le, Int32.lt_iff_toInt_lt, q_subT hn (by decide), nI_toInt (show n < 2 ^ 31 by omega)]
  have : (0 : Int32).toInt = 0 := rfl
  omega
theorem inR_le {v : Int32} {n : Nat} (hn : n < 2 ^ 29) : (nI 0 ≤ v ∧ v ≤ nI n) ↔ inR v (n + 1) := by
  have e := inR_pred (v := v) (n := n + 1) (by omega)
  rw [q_sub (show 1 ≤ n + 1 by omega), show n + 1 - 1 = n from rfl] at e
  exact e
theorem y_isHead {L : Ld} (X : ML_ S h m L) {v : Int32} {Q : Int32 → Hp → Prop} (h1 : inR v (L 0 4) → Q (nI 1) h) (h0 : ¬ inR v (L 0 4) → Q (nI 0) h) : w_X7_isHead S m v h Q := by
  unfold w_X7_isHead
  have w := X.2.2.1
  rw [X.2.1.1.1]
  refine ⟨X.1.1, y_isIn (fun c => ⟨Or.inr rfl, h1 ((inR_pred (by omega)).mp c)⟩) (fun c => ⟨Or.inl rfl, h0 (fun q => c ((inR_pred (by omega)).mpr q))⟩)⟩
theorem y_isField {v : Int32} {Q : Int32 → Hp → Prop} (h1 : inR v 48 → Q (nI 1) h) (h0 : ¬ inR v 48 → Q (nI 0) h) : w_X7_isField S v h Q := by
  unfold w_X7_isField
  exact y_isIn (fun c => ⟨Or.inr rfl, h1 ((inR_le (by decide)).mp c)⟩) (fun c => ⟨Or.inl rfl, h0 (fun q => c ((inR_le (by decide)).mpr q))⟩)
theorem y_areTwo {L : Ld} (X : ML_ S h m L) {v w : Int32} {Q : Int32 → Hp → Prop} (h1 : (inR v (L 0 4) ∧ inR w (L 0 4) ∧ v ≠ w) → Q (nI 1) h) (h0 : ¬ (inR v (L 0 4) ∧ inR w (L 0 4) ∧ v ≠ w) → Q (nI 0) h) : w_X7_areTwo S m v w h Q := by
  unfold w_X7_areTwo
  refine ⟨X.1.1, y_isHead X (fun c => ?_) (fun c => ?_)⟩
  · rw [if_neg (by decide)]
    refine y_isHead X (fun c2 => ?_) (fun c2 => ?_)
    · rw [if_neg (by decide)]
      by_cases e : v = w
      · rw [if_pos e]; exact h0 (fun q => q.2.2 e)
      · rw [if_neg e]; exact h1 ⟨c, c2, e⟩
    · rw [if_pos (by decide)]; exact h0 (fun q => c2 q.2.1)
  · rw [if_pos (by decide)]; exact h0 (fun q => c q.1)
theorem y_bound {v : Int32} {a b : Nat} {Q : Int32 → Hp → Prop} (hQ : Q (fN v a b) h) : w_X7_bound S v (nI a) (nI b) h Q := by
  unfold w_X7_bound
  unfold fN at hQ
  by_cases c1 : nI a ≤ v
  · rw [if_pos c1]
    rw [if_neg (Int32.not_lt.mpr c1)] at hQ
    by_cases c2 : v ≤ nI b
    · rw [if_pos c2]
      rw [if_neg (Int32.not_lt.mpr c2)] at hQ; exact hQ
    · rw [if_neg c2]
      rw [if_pos (Int32.not_le.mp c2)] at hQ; exact hQ
  · rw [if_neg c1]
    rw [if_pos (Int32.not_le.mp c1)] at hQ; exact hQ
end ARGS
/-! both sides stand for one state; op_.. : a call of the class, then of the reference: one answer, one state -/
def SI (S : St) (h : Hp) (x : Nat) (A : Ab) : Prop := XI S h x A ∧ MI_ S h (x + 180) A
theorem SI_mk {S : St} {h1 h2 : Hp} {x : Nat} {A : Ab} (X : XI S h1 x A) (Y : MI_ S h2 (x + 180) A) (f : FrY (x + 180) h1 h2) : SI S h2 x A := ⟨XI_frame X (fun a k q1 q2 => f a k (by omega)), Y⟩
theorem SI_m {S : St} {h h1 : Hp} {x : Nat} {A : Ab} (H : SI S h x A) (f : FrX x h h1) : MI_ S h1 (x + 180) A := MI_frame H.2 (fun a k q1 q2 => f a k (by omega))
