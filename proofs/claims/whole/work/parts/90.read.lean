/-! PURE: land, what the class marks of a statement -/
section PAIN
variable {k : Nat} {T : Nat → Nat}
theorem le_in {p i : Nat} (h : i < leF k T p) : isS k T 97 122 (p + i) := rn_in 97 122 7 p i h
theorem di_in {p i : Nat} (h : i < diF k T p) : isS k T 48 57 (p + i) := rn_in 48 57 2 p i h
/-- a part is letters all, or digits all, two at most -/
theorem pa_c (p : Nat) : (paF k T p ≤ 7 ∧ ∀ i, i < paF k T p → isS k T 97 122 (p + i)) ∨ (paF k T p ≤ 2 ∧ ∀ i, i < paF k T p → isS k T 48 57 (p + i)) := by
  by_cases c : leF k T p = 0
  · have e : paF k T p = diF k T p := by unfold paF; rw [if_pos c]
    rw [e]
    exact Or.inr ⟨rn_le 48 57 2 p, fun i hi => di_in hi⟩
  · have e : paF k T p = leF k T p := by unfold paF; rw [if_neg c]
    rw [e]
    exact Or.inl ⟨rn_le 97 122 7 p, fun i hi => le_in hi⟩
theorem pa_ne {p i : Nat} (h : i < paF k T p) : p + i < k ∧ T (p + i) ≠ 32 ∧ T (p + i) ≠ 59 := by
  rcases pa_c (k := k) (T := T) p with c | c
  · have := c.2 i h; exact ⟨this.1, by omega, by omega⟩
  · have := c.2 i h; exact ⟨this.1, by omega, by omega⟩
end PAIN
def PX (h : Hp) (x p w : Nat) (D : PS) : Prop := h (x + 153) 4 = nI D.1 ∧ h (x + 155) 0 = nI p ∧ h (x + 156) 0 = nI w ∧ ∀ j, j < D.1 → h (x + 155) (j + 1) = nI (D.2.1 j) ∧ h (x + 156) (j + 1) = nI (D.2.2 j)
def FrE (x : Nat) (h h' : Hp) : Prop := ∀ a q, ¬ (a = x + 153 ∧ q = 4) → a ≠ x + 155 → a ≠ x + 156 → h' a q = h a q
theorem FrE_rf {x : Nat} {h : Hp} : FrE x h h := fun _ _ _ _ _ => rfl
theorem FrE_tr {x : Nat} {h h1 h2 : Hp} (f : FrE x h h1) (g : FrE x h1 h2) : FrE x h h2 := fun a q c1 c2 c3 => (g a q c1 c2 c3).trans (f a q c1 c2 c3)
section XREAD
variable {S : St} {h h' : Hp} {x k : Nat} {T : Nat → Nat}
theorem CT_E (C : CT h x k T) (f : FrE x h h') : CT h' x k T := ⟨by rw [f _ _ (by omega) (by omega) (by omega)]; exact C.1, fun i hi => by rw [f _ _ (by omega) (by omega) (by omega)]; exact C.2.1 i hi, C.2.2⟩
theorem x_read (l : LayX S x) (C : CT h x k T) {p : Nat} (hp : p ≤ k) (ok : (smF k T p).1 = true) {Q : Int32 → Hp → Prop} (hQ : ∀ h', FrE x h h' → PX h' x p (leF k T p) (smF k T p).2.2 → Q (nI (smF k T p).2.1) h') : w_X4_readStatement S (x + 153) (nI p) h Q := by
  have lt := l.2.2.2.1
  have k9 := C.2.2
  unfold w_X4_readStatement
  rw [lt.2.2.1, lt.2.2.2.1, q_ix (show 0 < 2 ^ 31 by decide)]
  refine ⟨lt.1, q_ain lt.2.2.2.2.2.1 (by decide) (by decide), q_ain lt.2.2.2.2.2.2 (by decide) (by decide), ?_⟩
  unfold w_X4_readStatement_c21
  intro P hP
  -- letters of one part
  have seg : ∀ (n i j c : Nat) (h1 : Hp), (∀ q, q < n → i + q < k ∧ T (i + q) ≠ 32 ∧ T (i + q) ≠ 59) → j ≤ 3 → FrE x h h1 → h1 (x + 153) 4 = nI j → h1 (x + 156) j = nI c → (∀ h2, FrE x h h2 → (∀ a q, ¬ (a = x + 156 ∧ q = j) → h2 a q = h1 a q) → h2 (x + 156) j = nI (c + n) → P (nI (i + n)) h2) → P (nI i) h1 := by
    intro n
    induction n with
    | zero => intro i j c h1 _ _ F1 _ e1 hh; exact hh h1 F1 (fun _ _ _ => rfl) e1
    | succ n ih =>
      intro i j c h1 ht hj F1 e4 e1 hh
      obtain ⟨t1, t2, t3⟩ := ht 0 (by omega)
      rw [Nat.add_zero] at t1 t2 t3
      have C1 := CT_E C F1
      have tv := (C1.2.1 i t1).2
      refine hP _ _ ⟨lt.1, ?_⟩
      rw [C1.1, lt.2.1, lt.2.2.2.1, q_ix (show i < 2 ^ 31 by omega), (C1.2.1 i t1).1, e4, q_ix (show j < 2 ^ 31 by omega), e1, nI_add, nI_add, nI_add]
      simp only [q_le (show k < 2 ^ 31 by omega) (show i < 2 ^ 31 by omega), q_eq (show T i < 2 ^ 31 by omega) (show 59 < 2 ^ 31 by decide), q_eq (show T i < 2 ^ 31 by omega) (show 32 < 2 ^ 31 by decide)]
      rw [if_neg (by omega), if_neg t3, if_neg t2]
      refine ⟨q_ain lt.2.2.2.2.1 (by omega) (by decide), q_ain lt.2.2.2.2.2.2 (by omega) (by decide), ?_⟩
      refine ih (i + 1) j (c + 1) _ (fun q hq => by have := ht (q + 1) (by omega); rw [show i + 1 + q = i + (q + 1) by omega]; exact this) hj ?_ ?_ (up_same _ _ _ _) (fun h2 F2 G2 e2 => ?_)
      · exact fun a q c1 c2 c3 => (up_ne (by omega)).trans (F1 a q c1 c2 c3)
      · rw [up_ne (by omega)]; exact e4
      · rw [show i + 1 + n = i + (n + 1) by omega]
        exact hh h2 F2 (fun a q c1 => (G2 a q c1).trans (up_ne c1)) (by rw [e2]; congr 1; omega)
  have tail : ∀ (e r : Nat) (D : PS) (h1 : Hp), D.1 + e = 3 → r ≤ k → FrE x h h1 → PX h1 x p (leF k T p) D → (tlF k T e r D).1 = true → (∀ h', FrE x h h' → PX h' x p (leF k T p) (tlF k T e r D).2.2 → Q (nI (tlF k T e r D).2.1) h') → P (nI r) h1 := by
    intro e
    have stop : ∀ (r : Nat) (h1 : Hp), sgS k T r 59 → FrE x h h1 → Q (nI (r + 1)) h1 → P (nI r) h1 := by
      intro r h1 c F1 hh
      have C1 := CT_E C F1
      have c1 := c.1
      refine hP _ _ ⟨lt.1, ?_⟩
      rw [C1.1, lt.2.1, q_ix (show r < 2 ^ 31 by omega), (C1.2.1 r c.1).1, c.2, nI_add]
      simp only [q_le (show k < 2 ^ 31 by omega) (show r < 2 ^ 31 by omega)]
      rw [if_neg (by omega), if_pos trivial]
      exact ⟨q_ain lt.2.2.2.2.1 (by omega) (by decide), hh⟩
    induction e with
    | zero =>
      intro r D h1 hD hr F1 P1 g hh
      simp only [tlF] at g hh
      by_cases c : sgS k T r 59
      · rw [if_pos c] at hh
        exact stop r h1 c F1 (hh h1 F1 P1)
      · rw [if_neg c] at g; exact absurd g Bool.false_ne_true
    | succ e ih =>
      intro r D h1 hD hr F1 P1 g hh
      simp only [tlF] at g hh
      by_cases c : sgS k T r 32
      · rw [if_pos c] at g hh
        have c1 := c.1
        by_cases c5 : paF k T (r + 1) = 0
        · rw [if_pos c5] at g; exact absurd g Bool.false_ne_true
        rw [if_neg c5] at g hh
        have C1 := CT_E C F1
        refine hP _ _ ⟨lt.1, ?_⟩
        rw [C1.1, lt.2.1, lt.2.2.1, lt.2.2.2.1, q_ix (show r < 2 ^ 31 by omega), (C1.2.1 r c.1).1, c.2, P1.1, nI_add, nI_add, up_same, q_ix (show D.1 + 1 < 2 ^ 31 by omega), up_ne (a := x + 155) (show ¬ (x + 153 = x + 155 ∧ 4 = D.1 + 1) by omega), up_same, q_ix (show D.1 + 1 < 2 ^ 31 by omega)]
        simp only [q_le (show k < 2 ^ 31 by omega) (show r < 2 ^ 31 by omega), q_le (show 3 < 2 ^ 31 by decide) (show D.1 < 2 ^ 31 by omega)]
        rw [if_neg (by omega), if_neg (by decide), if_pos trivial, if_neg (by omega)]
        refine ⟨q_ain lt.2.2.2.2.1 (by omega) (by decide), q_ain lt.2.2.2.2.2.1 (by omega) (by decide), q_ain lt.2.2.2.2.2.2 (by omega) (by decide), ?_⟩
        refine seg (paF k T (r + 1)) (r + 1) (D.1 + 1) 0 _ (fun q hq => pa_ne hq) (by omega) ?_ ?_ (up_same _ _ _ _) (fun h2 F2 G2 e2 => ?_)
        · exact fun a q c1 c2 c3 => by rw [up_ne (by omega), up_ne (by omega), up_ne (by omega)]; exact F1 a q c1 c2 c3
        · rw [up_ne (by omega), up_ne (by omega), up_same]
        · refine ih _ _ h2 (by show D.1 + 1 + e = 3; omega) (pa_k (by omega)) F2 ⟨?_, ?_, ?_, fun j hj => ?_⟩ g hh
          · rw [G2 _ _ (by omega), up_ne (by omega), up_ne (by omega), up_same]; rfl
          · rw [G2 _ _ (by omega), up_ne (by omega), up_ne (by omega), up_ne (by omega)]; exact P1.2.1
          · rw [G2 _ _ (by omega), up_ne (by omega), up_ne (by omega), up_ne (by omega)]; exact P1.2.2.1
          · have hj : j < D.1 + 1 := hj
            show _ = nI (upN D.2.1 D.1 (r + 1) j) ∧ _ = nI (upN D.2.2 D.1 (paF k T (r + 1)) j)
            by_cases c7 : j = D.1
            · subst c7
              rw [upN_s, upN_s, G2 _ _ (by omega), e2, up_ne (by omega), up_same, Nat.zero_add]
              exact ⟨rfl, rfl⟩
            · rw [upN_n c7, upN_n c7, G2 _ _ (by omega), G2 _ _ (by omega), up_ne (by omega), up_ne (by omega), up_ne (by omega), up_ne (by omega), up_ne (by omega), up_ne (by omega)]
              exact P1.2.2.2 j (by omega)
      · rw [if_neg c] at g hh
        by_cases c9 : sgS k T r 59
        · rw [if_pos c9] at hh
          exact stop r h1 c9 F1 (hh h1 F1 P1)
        · rw [if_neg c9] at g; exact absurd g Bool.false_ne_true
  have wk : p + leF k T p ≤ k := rn_k _ _ _ _ hp
  have F0 : FrE x h (up (up (up h (x + 153) 4 (nI 0)) (x + 155) 0 (nI p)) (x + 156) 0 (nI 0)) := fun a q c1 c2 c3 => by rw [up_ne (by omega), up_ne (by omega), up_ne (by omega)]
  refine seg (leF k T p) p 0 0 _ (fun q hq => ?_) (by omega) F0 (by rw [up_ne (by omega), up_ne (by omega), up_same]) (up_same _ _ _ _) (fun h2 F2 G2 e2 => ?_)
  · have := le_in (k := k) (T := T) (p := p) (i := q) hq
    exact ⟨this.1, by omega, by omega⟩
  · rw [Nat.zero_add] at e2
    have P2 : PX h2 x p (leF k T p) DP0 := ⟨by rw [G2 _ _ (by omega), up_ne (by omega), up_ne (by omega), up_same]; rfl, by rw [G2 _ _ (by omega), up_ne (by omega), up_same], e2, fun j hj => absurd hj (Nat.not_lt_zero j)⟩
    have z := tail 3 (p + leF k T p) DP0 h2 rfl wk F2 P2
    unfold smF at ok hQ
    simp only [tlF] at z
    by_cases c : leF k T p = 0
    · rw [if_pos c] at ok; exact absurd ok Bool.false_ne_true
    rw [if_neg c] at ok hQ
    by_cases c2 : sgS k T (p + leF k T p) 32
    · rw [if_pos c2] at ok hQ z
      by_cases c5 : paF k T (p + leF k T p + 1) = 0
      · rw [if_pos c5] at ok; exact absurd ok Bool.false_ne_true
      rw [if_neg c5] at ok hQ z
      exact z ok hQ
    · rw [if_neg c2] at ok; exact absurd ok Bool.false_ne_true
end XREAD
