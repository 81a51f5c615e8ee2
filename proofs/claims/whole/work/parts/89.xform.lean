/-! PURE: land, the form as the class finds it -/
/-- the class's letters -/
def CT (h : Hp) (x k : Nat) (T : Nat → Nat) : Prop := h (x + 153) 1 = nI k ∧ (∀ i, i < k → h (x + 154) i = nI (T i) ∧ T i ≤ 255) ∧ k ≤ 96
def ofF (o : Option Nat) : Int32 := match o with
  | none => -1
  | some q => nI q
section XFORM
variable {S : St} {h h' : Hp} {x k : Nat} {T : Nat → Nat}
theorem x_isL {v : Nat} (hv : v ≤ 255) {Q : Int32 → Hp → Prop} (h1 : 97 ≤ v ∧ v ≤ 122 → Q (nI 1) h) (h0 : ¬ (97 ≤ v ∧ v ≤ 122) → Q (nI 0) h) : w_X4_isLetter S (nI v) h Q := by
  unfold w_X4_isLetter
  simp only [q_lt (show v < 2 ^ 31 by omega) (show 97 < 2 ^ 31 by decide), q_lt (show 122 < 2 ^ 31 by decide) (show v < 2 ^ 31 by omega)]
  by_cases c : v < 97
  · rw [if_pos c]; exact h0 (by omega)
  · rw [if_neg c]
    by_cases c2 : 122 < v
    · rw [if_pos c2]; exact h0 (by omega)
    · rw [if_neg c2]; exact h1 (by omega)
theorem x_isD {v : Nat} (hv : v ≤ 255) {Q : Int32 → Hp → Prop} (h1 : 48 ≤ v ∧ v ≤ 57 → Q (nI 1) h) (h0 : ¬ (48 ≤ v ∧ v ≤ 57) → Q (nI 0) h) : w_X4_isDigit S (nI v) h Q := by
  unfold w_X4_isDigit
  simp only [q_lt (show v < 2 ^ 31 by omega) (show 48 < 2 ^ 31 by decide), q_lt (show 57 < 2 ^ 31 by decide) (show v < 2 ^ 31 by omega)]
  by_cases c : v < 48
  · rw [if_pos c]; exact h0 (by omega)
  · rw [if_neg c]
    by_cases c2 : 57 < v
    · rw [if_pos c2]; exact h0 (by omega)
    · rw [if_neg c2]; exact h1 (by omega)
theorem x_c90 {P9 : Int32 → Int32 → Int32 → Int32 → Hp → Prop} {a part run p v : Nat} {dig : Int32} (hv : v ≤ 255) (hp : part ≤ 3) (hr : run ≤ 7) {Q : Int32 → Hp → Prop} (h1 : v = 32 → 0 < run → part < 3 → P9 (nI (part + 1)) (nI 0) dig (nI (p + 1)) h) (h2 : v = 59 → 0 < run → 0 < part → P9 (nI 0) (nI 0) dig (nI (p + 1)) h) (h0 : ¬ (v = 32 ∧ 0 < run ∧ part < 3) → ¬ (v = 59 ∧ 0 < run ∧ 0 < part) → Q (nI p) h) : w_X4_placeOfBadForm_c90 S a (nI part) (nI run) dig (nI p) (nI v) h Q P9 := by
  unfold w_X4_placeOfBadForm_c90
  simp only [q_eq (show v < 2 ^ 31 by omega) (show 32 < 2 ^ 31 by decide), q_eq (show v < 2 ^ 31 by omega) (show 59 < 2 ^ 31 by decide), q_le0 (show run < 2 ^ 31 by omega), q_le0 (show part < 2 ^ 31 by omega), q_le (show 3 < 2 ^ 31 by decide) (show part < 2 ^ 31 by omega), nI_add]
  by_cases c : v = 32
  · rw [if_pos c]
    by_cases c1 : run = 0
    · rw [if_pos c1, if_neg (by omega)]; exact h0 (by omega) (by omega)
    · rw [if_neg c1]
      by_cases c2 : 3 ≤ part
      · rw [if_pos c2, if_neg (by omega)]; exact h0 (by omega) (by omega)
      · rw [if_neg c2]; exact h1 c (by omega) (by omega)
  · rw [if_neg c]
    by_cases c0 : v = 59
    · rw [if_pos c0]
      by_cases c1 : run = 0
      · rw [if_pos c1]; exact h0 (by omega) (by omega)
      · rw [if_neg c1]
        by_cases c2 : part = 0
        · rw [if_pos c2]; exact h0 (by omega) (by omega)
        · rw [if_neg c2]; exact h2 c0 (by omega) (by omega)
    · rw [if_neg c0]; exact h0 (by omega) (by omega)
theorem x_form (l : LayX S x) (C : CT h x k T) {Q : Int32 → Hp → Prop} (hQ : Q (ofF (fmF k T 25 0)) h) : w_X4_placeOfBadForm S (x + 153) h Q := by
  obtain ⟨C1, C2, k9⟩ := C
  have lt := l.2.2.2.1
  unfold w_X4_placeOfBadForm w_X4_placeOfBadForm_c9
  intro P hP
  -- behind the letters and digits
  have sep : ∀ (part run p dig : Nat), part ≤ 3 → run ≤ 7 → dig ≤ 1 → p < k → ¬ (isS k T 97 122 p ∧ run < 7 ∧ (run = 0 ∨ dig = 0)) → ¬ (isS k T 48 57 p ∧ 0 < part ∧ run < 2 ∧ (run = 0 ∨ dig = 1)) → (sgS k T p 32 → 0 < run → part < 3 → P (nI (part + 1)) (nI 0) (nI dig) (nI (p + 1)) h) → (sgS k T p 59 → 0 < run → 0 < part → P (nI 0) (nI 0) (nI dig) (nI (p + 1)) h) → (¬ (sgS k T p 32 ∧ 0 < run ∧ part < 3) → ¬ (sgS k T p 59 ∧ 0 < run ∧ 0 < part) → Q (nI p) h) → P (nI part) (nI run) (nI dig) (nI p) h := by
    intro part run p dig a1 a2 a3 hp n1 n2 h1 h2 h0
    have t := (C2 p hp).2
    have Z : w_X4_placeOfBadForm_c90 S (x + 153) (nI part) (nI run) (nI dig) (nI p) (nI (T p)) h Q P := x_c90 t a1 a2 (fun e => h1 ⟨hp, e⟩) (fun e => h2 ⟨hp, e⟩) (fun e1 e2 => h0 (fun q => e1 ⟨q.1.2, q.2⟩) (fun q => e2 ⟨q.1.2, q.2⟩))
    have Z5 : w_X4_placeOfBadForm_c57 S (x + 153) (nI part) (nI run) (nI dig) (nI p) (nI (T p)) h Q P := by
      unfold w_X4_placeOfBadForm_c57
      refine x_isD t (fun c => ?_) (fun c => ?_)
      · rw [if_neg (by decide)]
        simp only [q_le0 (show part < 2 ^ 31 by omega), q_le (show 2 < 2 ^ 31 by decide) (show run < 2 ^ 31 by omega), q_eq0 (show run < 2 ^ 31 by omega), q_eq0 (show dig < 2 ^ 31 by omega)]
        by_cases c1 : part = 0
        · rw [if_pos c1]; exact Z
        rw [if_neg c1]
        by_cases c2 : 2 ≤ run
        · rw [if_pos c2]; exact Z
        rw [if_neg c2]
        have n3 : ¬ (run = 0 ∨ dig = 1) := fun q => n2 ⟨⟨hp, c.1, c.2⟩, by omega, by omega, q⟩
        rw [if_neg (by omega), if_pos (by omega)]
        exact Z
      · rw [if_pos (by decide)]; exact Z
    refine hP _ _ _ _ _ ⟨lt.1, ?_⟩
    rw [C1, lt.2.1, q_ix (by omega), (C2 p hp).1]
    simp only [q_le (show k < 2 ^ 31 by omega) (show p < 2 ^ 31 by omega)]
    rw [if_neg (by omega)]
    refine ⟨q_ain lt.2.2.2.2.1 (by omega) (by decide), x_isL t (fun c => ?_) (fun c => ?_)⟩
    · rw [if_neg (by decide)]
      simp only [q_le (show 7 < 2 ^ 31 by decide) (show run < 2 ^ 31 by omega), q_eq0 (show run < 2 ^ 31 by omega), q_eq0 (show dig < 2 ^ 31 by omega)]
      by_cases c2 : 7 ≤ run
      · rw [if_pos c2]; exact Z5
      rw [if_neg c2]
      have n3 : ¬ (run = 0 ∨ dig = 0) := fun q => n1 ⟨⟨hp, c.1, c.2⟩, by omega, q⟩
      rw [if_neg (by omega), if_neg (by omega)]
      exact Z5
    · rw [if_pos (by decide)]; exact Z5
  -- a run of letters
  have letters : ∀ (f part run p dig : Nat), run + f = 7 → dig ≤ 1 → (run = 0 ∨ dig = 0) → p ≤ k → P (nI part) (nI (run + rnF k T 97 122 f p)) (nI (if rnF k T 97 122 f p = 0 then dig else 0)) (nI (p + rnF k T 97 122 f p)) h → P (nI part) (nI run) (nI dig) (nI p) h := by
    intro f
    induction f with
    | zero => intro part run p dig _ _ _ _ hh; exact hh
    | succ f ih =>
      intro part run p dig a1 a2 a3 hp hh
      by_cases c : isS k T 97 122 p
      · have c1 := c.1
        rw [show rnF k T 97 122 (f + 1) p = rnF k T 97 122 f (p + 1) + 1 from if_pos c, if_neg (by omega), show run + (rnF k T 97 122 f (p + 1) + 1) = run + 1 + rnF k T 97 122 f (p + 1) by omega, show p + (rnF k T 97 122 f (p + 1) + 1) = p + 1 + rnF k T 97 122 f (p + 1) by omega] at hh
        have hn : P (nI part) (nI (run + 1)) (nI 0) (nI (p + 1)) h := by
          refine ih part (run + 1) (p + 1) 0 (by omega) (by omega) (Or.inr rfl) (by omega) ?_
          rw [show (if rnF k T 97 122 f (p + 1) = 0 then 0 else 0) = 0 by split <;> rfl]
          exact hh
        refine hP _ _ _ _ _ ⟨lt.1, ?_⟩
        rw [C1, lt.2.1, q_ix (by omega), (C2 p c1).1]
        simp only [q_le (show k < 2 ^ 31 by omega) (show p < 2 ^ 31 by omega)]
        rw [if_neg (by omega)]
        refine ⟨q_ain lt.2.2.2.2.1 (by omega) (by decide), x_isL (C2 p c1).2 (fun c => ?_) (fun c9 => absurd c.2 c9)⟩
        rw [if_neg (by decide)]
        simp only [q_le (show 7 < 2 ^ 31 by decide) (show run < 2 ^ 31 by omega), q_eq0 (show run < 2 ^ 31 by omega), q_eq0 (show dig < 2 ^ 31 by omega), nI_add]
        rw [if_neg (by omega)]
        by_cases c2 : run = 0
        · rw [if_pos c2]; exact hn
        · rw [if_neg c2, if_pos (by omega)]; exact hn
      · rw [show rnF k T 97 122 (f + 1) p = 0 from if_neg c, if_pos rfl] at hh
        exact hh
  have digits : ∀ (f part run p dig : Nat), run + f = 2 → 0 < part → part ≤ 3 → dig ≤ 1 → (run = 0 ∨ dig = 1) → p ≤ k → P (nI part) (nI (run + rnF k T 48 57 f p)) (nI (if rnF k T 48 57 f p = 0 then dig else 1)) (nI (p + rnF k T 48 57 f p)) h → P (nI part) (nI run) (nI dig) (nI p) h := by
    intro f
    induction f with
    | zero => intro part run p dig _ _ _ _ _ _ hh; exact hh
    | succ f ih =>
      intro part run p dig a1 a0 a4 a2 a3 hp hh
      by_cases c : isS k T 48 57 p
      · have c1 := c.1
        have t := (C2 p c1).2
        rw [show rnF k T 48 57 (f + 1) p = rnF k T 48 57 f (p + 1) + 1 from if_pos c, if_neg (by omega), show run + (rnF k T 48 57 f (p + 1) + 1) = run + 1 + rnF k T 48 57 f (p + 1) by omega, show p + (rnF k T 48 57 f (p + 1) + 1) = p + 1 + rnF k T 48 57 f (p + 1) by omega] at hh
        have hn : P (nI part) (nI (run + 1)) (nI 1) (nI (p + 1)) h := by
          refine ih part (run + 1) (p + 1) 1 (by omega) a0 a4 (by omega) (Or.inr rfl) (by omega) ?_
          rw [show (if rnF k T 48 57 f (p + 1) = 0 then 1 else 1) = 1 by split <;> rfl]
          exact hh
        refine hP _ _ _ _ _ ⟨lt.1, ?_⟩
        rw [C1, lt.2.1, q_ix (by omega), (C2 p c1).1]
        simp only [q_le (show k < 2 ^ 31 by omega) (show p < 2 ^ 31 by omega)]
        rw [if_neg (by omega)]
        refine ⟨q_ain lt.2.2.2.2.1 (by omega) (by decide), x_isL t (fun c9 => ?_) (fun c9 => ?_)⟩
        · have := c.2.2; omega
        rw [if_pos (by decide)]
        unfold w_X4_placeOfBadForm_c57
        refine x_isD t (fun _ => ?_) (fun c8 => absurd c.2 c8)
        rw [if_neg (by decide)]
        simp only [q_le0 (show part < 2 ^ 31 by omega), q_le (show 2 < 2 ^ 31 by decide) (show run < 2 ^ 31 by omega), q_eq0 (show run < 2 ^ 31 by omega), q_eq0 (show dig < 2 ^ 31 by omega), nI_add]
        rw [if_neg (by omega), if_neg (by omega)]
        by_cases c2 : run = 0
        · rw [if_pos c2]; exact hn
        · rw [if_neg c2, if_neg (by omega)]; exact hn
      · rw [show rnF k T 48 57 (f + 1) p = 0 from if_neg c, if_pos rfl] at hh
        exact hh
  have fin : ∀ (part run dig : Nat), part ≤ 3 → run ≤ 7 → (0 < k ∧ part = 0 ∧ run = 0 → Q (-1) h) → (¬ (0 < k ∧ part = 0 ∧ run = 0) → Q (nI k) h) → P (nI part) (nI run) (nI dig) (nI k) h := by
    intro part run dig a1 a2 h1 h0
    refine hP _ _ _ _ _ ⟨lt.1, ?_⟩
    rw [C1]
    simp only [q_le (show k < 2 ^ 31 by omega) (show k < 2 ^ 31 by omega), q_le0 (show k < 2 ^ 31 by omega), q_eq0 (show run < 2 ^ 31 by omega), q_eq0 (show part < 2 ^ 31 by omega)]
    rw [if_pos (Nat.le_refl _)]
    by_cases c : k = 0
    · rw [if_pos c]; exact h0 (by omega)
    rw [if_neg c]
    by_cases c2 : part = 0
    · rw [if_pos c2]
      by_cases c3 : run = 0
      · rw [if_pos c3]; exact h1 (by omega)
      · rw [if_neg c3]; exact h0 (by omega)
    · rw [if_neg c2]; exact h0 (by omega)
  have segE : ∀ (part p n dig : Nat), 0 < part → part ≤ 3 → dig ≤ 1 → 0 < n → n ≤ 7 → p + n ≤ k → (p + n < k → ¬ (isS k T 97 122 (p + n) ∧ n < 7 ∧ (n = 0 ∨ dig = 0))) → (p + n < k → ¬ (isS k T 48 57 (p + n) ∧ 0 < part ∧ n < 2 ∧ (n = 0 ∨ dig = 1))) → (sgS k T (p + n) 32 → part < 3 → P (nI (part + 1)) (nI 0) (nI dig) (nI (p + n + 1)) h) → (sgS k T (p + n) 59 → P (nI 0) (nI 0) (nI dig) (nI (p + n + 1)) h) → (¬ (sgS k T (p + n) 32 ∧ part < 3) → ¬ sgS k T (p + n) 59 → Q (nI (p + n)) h) → P (nI part) (nI n) (nI dig) (nI (p + n)) h := by
    intro part p n dig a0 a1 a2 n0 n7 hk g1 g2 h1 h2 h0
    by_cases c : p + n < k
    · exact sep part n (p + n) dig a1 n7 a2 c (g1 c) (g2 c) (fun e _ e2 => h1 e e2) (fun e _ _ => h2 e) (fun e1 e2 => h0 (fun q => e1 ⟨q.1, n0, q.2⟩) (fun q => e2 ⟨q, n0, a0⟩))
    · have e : p + n = k := by omega
      have hh := h0 (fun q => c q.1.1) (fun q => c q.1)
      rw [e] at hh ⊢
      exact fin part n dig a1 n7 (fun q => by omega) (fun _ => hh)
  have seg : ∀ (part p dig : Nat), 0 < part → part ≤ 3 → dig ≤ 1 → p ≤ k → (paF k T p = 0 → Q (nI p) h) → (paF k T p ≠ 0 → sgS k T (p + paF k T p) 32 → part < 3 → ∀ d, d ≤ 1 → P (nI (part + 1)) (nI 0) (nI d) (nI (p + paF k T p + 1)) h) → (paF k T p ≠ 0 → sgS k T (p + paF k T p) 59 → ∀ d, d ≤ 1 → P (nI 0) (nI 0) (nI d) (nI (p + paF k T p + 1)) h) → (paF k T p ≠ 0 → ¬ (sgS k T (p + paF k T p) 32 ∧ part < 3) → ¬ sgS k T (p + paF k T p) 59 → Q (nI (p + paF k T p)) h) → P (nI part) (nI 0) (nI dig) (nI p) h := by
    intro part p dig a0 a1 a2 hp z h1 h2 h0
    have l7 : leF k T p ≤ 7 := rn_le 97 122 7 p
    have d2 : diF k T p ≤ 2 := rn_le 48 57 2 p
    have lk : p + leF k T p ≤ k := rn_k _ _ _ _ hp
    have dk : p + diF k T p ≤ k := rn_k _ _ _ _ hp
    by_cases c : leF k T p = 0
    · have ep : paF k T p = diF k T p := by unfold paF; rw [if_pos c]
      rw [ep] at z h1 h2 h0
      have nl : ¬ isS k T 97 122 p := by
        have := rn_stop (k := k) (T := T) 97 122 7 p (show leF k T p < 7 by omega)
        rw [show rnF k T 97 122 7 p = 0 from c] at this
        exact this
      refine digits 2 part 0 p dig rfl a0 a1 a2 (Or.inl rfl) hp ?_
      rw [show rnF k T 48 57 2 p = diF k T p from rfl, Nat.zero_add]
      by_cases c2 : diF k T p = 0
      · rw [if_pos c2]
        have nd : ¬ isS k T 48 57 p := by
          have := rn_stop (k := k) (T := T) 48 57 2 p (show diF k T p < 2 by omega)
          rw [show rnF k T 48 57 2 p = 0 from c2] at this
          exact this
        rw [c2, Nat.add_zero]
        by_cases c3 : p < k
        · exact sep part 0 p dig a1 (by omega) a2 c3 (fun q => nl q.1) (fun q => nd q.1) (fun _ e _ => absurd e (Nat.lt_irrefl 0)) (fun _ e _ => absurd e (Nat.lt_irrefl 0)) (fun _ _ => z c2)
        · have e : p = k := by omega
          have hh := z c2
          rw [e] at hh ⊢
          exact fin part 0 dig a1 (by omega) (fun q => by omega) (fun _ => hh)
      · rw [if_neg c2]
        refine segE part p _ 1 a0 a1 (by omega) (by omega) (by omega) dk (fun _ q => by omega) (fun _ q => ?_) (fun e e2 => h1 c2 e e2 1 (by omega)) (fun e => h2 c2 e 1 (by omega)) (h0 c2)
        exact rn_stop (k := k) (T := T) 48 57 2 p q.2.2.1 q.1
    · have ep : paF k T p = leF k T p := by unfold paF; rw [if_neg c]
      rw [ep] at z h1 h2 h0
      refine letters 7 part 0 p dig rfl a2 (Or.inl rfl) hp ?_
      rw [show rnF k T 97 122 7 p = leF k T p from rfl, Nat.zero_add, if_neg c]
      refine segE part p _ 0 a0 a1 (by omega) (by omega) l7 lk (fun _ q => ?_) (fun _ q => by omega) (fun e e2 => h1 c e e2 0 (by omega)) (fun e => h2 c e 0 (by omega)) (h0 c)
      exact rn_stop (k := k) (T := T) 97 122 7 p q.2.1 q.1
  have partsL : ∀ (e part p dig : Nat) (D : PS), 0 < part → part + e = 3 → dig ≤ 1 → p ≤ k → (paF k T p = 0 → Q (nI p) h) → (paF k T p ≠ 0 → (tlF k T e (p + paF k T p) D).1 = true → ∀ d, d ≤ 1 → P (nI 0) (nI 0) (nI d) (nI (tlF k T e (p + paF k T p) D).2.1) h) → (paF k T p ≠ 0 → ¬ (tlF k T e (p + paF k T p) D).1 = true → Q (nI (tlF k T e (p + paF k T p) D).2.1) h) → P (nI part) (nI 0) (nI dig) (nI p) h := by
    intro e
    induction e with
    | zero =>
      intro part p dig D a0 a1 a2 hp z h1 h0
      simp only [tlF] at h1 h0
      refine seg part p dig a0 (by omega) a2 hp z (fun _ _ q => by omega) (fun c e => ?_) (fun c _ e => ?_)
      · have g := h1 c
        rw [if_pos e] at g; exact g rfl
      · have g := h0 c
        rw [if_neg e] at g; exact g Bool.false_ne_true
    | succ e ih =>
      intro part p dig D a0 a1 a2 hp z h1 h0
      simp only [tlF] at h1 h0
      refine seg part p dig a0 (by omega) a2 hp z (fun c e1 _ d hd => ?_) (fun c e1 => ?_) (fun c e2 e1 => ?_)
      · have g1 := h1 c
        have g0 := h0 c
        rw [if_pos e1] at g1 g0
        have e3 := e1.1
        refine ih (part + 1) _ d (adP D (p + paF k T p + 1) (paF k T (p + paF k T p + 1))) (by omega) (by omega) hd (by omega) (fun c5 => ?_) (fun c5 => ?_) (fun c5 => ?_)
        · rw [if_pos c5] at g0; exact g0 Bool.false_ne_true
        · rw [if_neg c5] at g1; exact g1
        · rw [if_neg c5] at g0; exact g0
      · have g := h1 c
        rw [if_neg (fun q => by have := q.2.symm.trans e1.2; omega), if_pos e1] at g; exact g rfl
      · have g := h0 c
        rw [if_neg (fun q => e2 ⟨q, by omega⟩), if_neg e1] at g; exact g Bool.false_ne_true
  have K : ∀ (f p dig : Nat), 100 ≤ p + 4 * f → p ≤ k → dig ≤ 1 → Q (ofF (fmF k T f p)) h → P (nI 0) (nI 0) (nI dig) (nI p) h := by
    intro f
    induction f with
    | zero => intro p dig a1 hp _ _; omega
    | succ f ih =>
      intro p dig a1 hp a2 hq
      simp only [fmF] at hq
      by_cases c0 : p < k ∨ p = 0
      · rw [if_pos c0] at hq
        have sk := sm_k (T := T) hp
        have g1 : (smF k T p).1 = true → ∀ d, d ≤ 1 → P (nI 0) (nI 0) (nI d) (nI (smF k T p).2.1) h := fun c d hd => by
          rw [if_pos c] at hq
          exact ih _ d (by have := sk.2 c; omega) sk.1 hd hq
        have g0 : ¬ (smF k T p).1 = true → Q (nI (smF k T p).2.1) h := fun c => by
          rw [if_neg c] at hq
          exact hq
        have l7 : leF k T p ≤ 7 := rn_le 97 122 7 p
        have lk : p + leF k T p ≤ k := rn_k _ _ _ _ hp
        unfold smF at g1 g0
        by_cases c : leF k T p = 0
        · rw [if_pos c] at g0
          have hh : Q (nI p) h := g0 Bool.false_ne_true
          have nl : ¬ isS k T 97 122 p := by
            have := rn_stop (k := k) (T := T) 97 122 7 p (show leF k T p < 7 by omega)
            rw [show rnF k T 97 122 7 p = 0 from c] at this
            exact this
          by_cases c3 : p < k
          · exact sep 0 0 p dig (by omega) (by omega) a2 c3 (fun q => nl q.1) (fun q => by omega) (fun _ e _ => absurd e (Nat.lt_irrefl 0)) (fun _ e _ => absurd e (Nat.lt_irrefl 0)) (fun _ _ => hh)
          · have e : p = k := by omega
            rw [e] at hh ⊢
            exact fin 0 0 dig (by omega) (by omega) (fun q => by omega) (fun _ => hh)
        · rw [if_neg c] at g1 g0
          refine letters 7 0 0 p dig rfl a2 (Or.inl rfl) hp ?_
          rw [show rnF k T 97 122 7 p = leF k T p from rfl, Nat.zero_add, if_neg c]
          by_cases c3 : p + leF k T p < k
          · refine sep 0 _ _ 0 (by omega) l7 (by omega) c3 (fun q => rn_stop (k := k) (T := T) 97 122 7 p q.2.1 q.1) (fun q => by omega) (fun e _ _ => ?_) (fun _ _ e => absurd e (Nat.lt_irrefl 0)) (fun e _ => ?_)
            · rw [if_pos e] at g1 g0
              refine partsL 2 1 _ 0 (adP DP0 (p + leF k T p + 1) (paF k T (p + leF k T p + 1))) (by omega) rfl (by omega) (by omega) (fun c5 => ?_) (fun c5 => ?_) (fun c5 => ?_)
              · rw [if_pos c5] at g0; exact g0 Bool.false_ne_true
              · rw [if_neg c5] at g1; exact g1
              · rw [if_neg c5] at g0; exact g0
            · rw [if_neg (fun q => e ⟨q, by omega, by omega⟩)] at g0; exact g0 Bool.false_ne_true
          · rw [if_neg (fun q => c3 q.1)] at g0
            have hh : Q (nI (p + leF k T p)) h := g0 Bool.false_ne_true
            have e : p + leF k T p = k := by omega
            rw [e] at hh ⊢
            exact fin 0 _ 0 (by omega) l7 (fun q => by omega) (fun _ => hh)
      · rw [if_neg c0] at hq
        have e : p = k := by omega
        rw [e]
        exact fin 0 0 dig (by omega) (by omega) (fun _ => hq) (fun q => absurd ⟨by omega, rfl, rfl⟩ q)
  exact K 25 0 0 (by omega) (Nat.zero_le _) (by omega) hQ
end XFORM
