/-! PURE: land, the form of the text: k letters T -/
abbrev isS (k : Nat) (T : Nat → Nat) (lo hi p : Nat) : Prop := p < k ∧ lo ≤ T p ∧ T p ≤ hi
abbrev sgS (k : Nat) (T : Nat → Nat) (p c : Nat) : Prop := p < k ∧ T p = c
/-- how many of a range stand at p, f at most -/
def rnF (k : Nat) (T : Nat → Nat) (lo hi : Nat) : Nat → Nat → Nat
  | 0, _ => 0
  | f + 1, p => if isS k T lo hi p then rnF k T lo hi f (p + 1) + 1 else 0
def leF (k : Nat) (T : Nat → Nat) (p : Nat) : Nat := rnF k T 97 122 7 p
def diF (k : Nat) (T : Nat → Nat) (p : Nat) : Nat := rnF k T 48 57 2 p
def paF (k : Nat) (T : Nat → Nat) (p : Nat) : Nat := if leF k T p = 0 then diF k T p else leF k T p
/-- parts: how many, where each begins, its letters -/
abbrev PS : Type := Nat × (Nat → Nat) × (Nat → Nat)
def DP0 : PS := (0, fun _ => 0, fun _ => 0)
def adP (D : PS) (p n : Nat) : PS := (D.1 + 1, upN D.2.1 D.1 p, upN D.2.2 D.1 n)
def tlF (k : Nat) (T : Nat → Nat) : Nat → Nat → PS → Bool × Nat × PS
  | 0, r, D => if sgS k T r 59 then (true, r + 1, D) else (false, r, D)
  | e + 1, r, D => if sgS k T r 32 then (if paF k T (r + 1) = 0 then (false, r + 1, D) else tlF k T e (r + 1 + paF k T (r + 1)) (adP D (r + 1) (paF k T (r + 1)))) else if sgS k T r 59 then (true, r + 1, D) else (false, r, D)
def smF (k : Nat) (T : Nat → Nat) (p : Nat) : Bool × Nat × PS := if leF k T p = 0 then (false, p, DP0) else if sgS k T (p + leF k T p) 32 then (if paF k T (p + leF k T p + 1) = 0 then (false, p + leF k T p + 1, DP0) else tlF k T 2 (p + leF k T p + 1 + paF k T (p + leF k T p + 1)) (adP DP0 (p + leF k T p + 1) (paF k T (p + leF k T p + 1)))) else (false, p + leF k T p, DP0)
/-- where the form is bad first -/
def fmF (k : Nat) (T : Nat → Nat) : Nat → Nat → Option Nat
  | 0, _ => none
  | f + 1, p => if p < k ∨ p = 0 then (if (smF k T p).1 = true then fmF k T f (smF k T p).2.1 else some (smF k T p).2.1) else none
section FORMF
variable {k : Nat} {T : Nat → Nat}
theorem rn_le (lo hi : Nat) : ∀ f p, rnF k T lo hi f p ≤ f
  | 0, _ => Nat.le_refl _
  | f + 1, p => by
    simp only [rnF]
    have := rn_le lo hi f (p + 1)
    split <;> omega
theorem rn_in (lo hi : Nat) : ∀ f p i, i < rnF k T lo hi f p → isS k T lo hi (p + i)
  | 0, _, i, h => absurd h (by simp [rnF])
  | f + 1, p, i, h => by
    simp only [rnF] at h
    by_cases c : isS k T lo hi p
    · rw [if_pos c] at h
      match i with
      | 0 => exact c
      | i + 1 =>
        have := rn_in lo hi f (p + 1) i (by omega)
        rw [show p + (i + 1) = p + 1 + i by omega]; exact this
    · rw [if_neg c] at h; exact absurd h (by omega)
theorem rn_stop (lo hi : Nat) : ∀ f p, rnF k T lo hi f p < f → ¬ isS k T lo hi (p + rnF k T lo hi f p)
  | 0, _, h => absurd h (by omega)
  | f + 1, p, h => by
    simp only [rnF] at h ⊢
    by_cases c : isS k T lo hi p
    · rw [if_pos c] at h ⊢
      have := rn_stop lo hi f (p + 1) (by omega)
      rw [show p + (rnF k T lo hi f (p + 1) + 1) = p + 1 + rnF k T lo hi f (p + 1) by omega]; exact this
    · rw [if_neg c]; exact c
theorem rn_k (lo hi f p : Nat) (hp : p ≤ k) : p + rnF k T lo hi f p ≤ k := by
  by_cases c : rnF k T lo hi f p = 0
  · omega
  · have := (rn_in (k := k) (T := T) lo hi f p (rnF k T lo hi f p - 1) (by omega)).1
    omega
theorem pa_k {p : Nat} (hp : p ≤ k) : p + paF k T p ≤ k := by
  unfold paF
  split
  · exact rn_k _ _ _ _ hp
  · exact rn_k _ _ _ _ hp
theorem pa_le (p : Nat) : paF k T p ≤ 7 := by
  have h1 : leF k T p ≤ 7 := rn_le _ _ _ _
  have h2 : diF k T p ≤ 2 := rn_le _ _ _ _
  unfold paF
  split <;> omega
theorem tl_k : ∀ (e r : Nat) (D : PS), r ≤ k → r ≤ (tlF k T e r D).2.1 ∧ (tlF k T e r D).2.1 ≤ k ∧ ((tlF k T e r D).1 = true → r + 1 ≤ (tlF k T e r D).2.1)
  | 0, r, D, h => by
    simp only [tlF]
    split
    · rename_i c; have := c.1; exact ⟨by show r ≤ r + 1; omega, by show r + 1 ≤ k; omega, fun _ => Nat.le_refl _⟩
    · exact ⟨Nat.le_refl _, h, fun q => absurd q Bool.false_ne_true⟩
  | e + 1, r, D, h => by
    simp only [tlF]
    split
    · rename_i c
      have c1 := c.1
      split
      · exact ⟨by show r ≤ r + 1; omega, by show r + 1 ≤ k; omega, fun q => absurd q Bool.false_ne_true⟩
      · have pk := pa_k (k := k) (T := T) (p := r + 1) (by omega)
        have ih := tl_k e (r + 1 + paF k T (r + 1)) (adP D (r + 1) (paF k T (r + 1))) pk
        exact ⟨by omega, ih.2.1, fun q => by have := ih.2.2 q; omega⟩
    · split
      · rename_i c; have := c.1; exact ⟨by show r ≤ r + 1; omega, by show r + 1 ≤ k; omega, fun _ => Nat.le_refl _⟩
      · exact ⟨Nat.le_refl _, h, fun q => absurd q Bool.false_ne_true⟩
theorem sm_k {p : Nat} (hp : p ≤ k) : (smF k T p).2.1 ≤ k ∧ ((smF k T p).1 = true → p + 4 ≤ (smF k T p).2.1) := by
  have w : p + leF k T p ≤ k := rn_k _ _ _ _ hp
  unfold smF
  split
  · exact ⟨hp, fun q => absurd q Bool.false_ne_true⟩
  · split
    · rename_i c
      have c1 := c.1
      split
      · exact ⟨by show p + leF k T p + 1 ≤ k; omega, fun q => absurd q Bool.false_ne_true⟩
      · have pk := pa_k (k := k) (T := T) (p := p + leF k T p + 1) (by omega)
        have ih := tl_k (T := T) 2 _ (adP DP0 (p + leF k T p + 1) (paF k T (p + leF k T p + 1))) pk
        exact ⟨ih.2.1, fun q => by have := ih.2.2 q; omega⟩
    · exact ⟨w, fun q => absurd q Bool.false_ne_true⟩
end FORMF
/-- the reference's tape -/
def RTp (h : Hp) (m k : Nat) (T : Nat → Nat) : Prop := h m 22 = nI k ∧ (∀ i, i < k → h (m + 14) i = nI (T i) ∧ T i ≤ 255) ∧ k ≤ 96
/-- only the reading has changed -/
def FrI (m : Nat) (h h' : Hp) : Prop := ∀ a q, ¬ (a = m ∧ q = 23) → h' a q = h a q
theorem FrI_rf {m : Nat} {h : Hp} : FrI m h h := fun _ _ _ => rfl
theorem FrI_tr {m : Nat} {h h1 h2 : Hp} (f : FrI m h h1) (g : FrI m h1 h2) : FrI m h h2 := fun a q c => (g a q c).trans (f a q c)
theorem FrI_up {m : Nat} {h h1 : Hp} (f : FrI m h h1) {v : Int32} : FrI m h (up h1 m 23 v) := fun a' q' c => (up_ne c).trans (f a' q' c)
/-- the reading, and the parts of statement s -/
def FrQ (m s : Nat) (h h' : Hp) : Prop := ∀ a q, ¬ (a = m ∧ q = 23) → ¬ (a = m + 17 ∧ q = s) → ¬ ((a = m + 18 ∨ a = m + 19) ∧ 3 * s ≤ q) → h' a q = h a q
theorem FrQ_rf {m s : Nat} {h : Hp} : FrQ m s h h := fun _ _ _ _ _ => rfl
theorem FrQ_tr {m s : Nat} {h h1 h2 : Hp} (f : FrQ m s h h1) (g : FrQ m s h1 h2) : FrQ m s h h2 := fun a q c1 c2 c3 => (g a q c1 c2 c3).trans (f a q c1 c2 c3)
theorem FrQ_I {m s : Nat} {h h1 : Hp} (f : FrI m h h1) : FrQ m s h h1 := fun a q c1 _ _ => f a q c1
theorem FrQ_up {m s : Nat} {h h1 : Hp} (f : FrQ m s h h1) {a q : Nat} {v : Int32} (hs : (a = m ∧ q = 23) ∨ (a = m + 17 ∧ q = s) ∨ ((a = m + 18 ∨ a = m + 19) ∧ 3 * s ≤ q)) : FrQ m s h (up h1 a q v) := fun a' q' c1 c2 c3 => (up_ne (by omega)).trans (f a' q' c1 c2 c3)
/-- the reading, and what is read of statement s -/
def FrL (m s : Nat) (h h' : Hp) : Prop := ∀ a q, ¬ (a = m ∧ q = 23) → ¬ ((a = m + 15 ∨ a = m + 16 ∨ a = m + 17) ∧ q = s) → ¬ ((a = m + 18 ∨ a = m + 19) ∧ 3 * s ≤ q) → h' a q = h a q
theorem FrL_rf {m s : Nat} {h : Hp} : FrL m s h h := fun _ _ _ _ _ => rfl
theorem FrL_tr {m s : Nat} {h h1 h2 : Hp} (f : FrL m s h h1) (g : FrL m s h1 h2) : FrL m s h h2 := fun a q c1 c2 c3 => (g a q c1 c2 c3).trans (f a q c1 c2 c3)
theorem FrL_Q {m s : Nat} {h h1 : Hp} (f : FrQ m s h h1) : FrL m s h h1 := fun a q c1 c2 c3 => f a q c1 (by omega) c3
theorem FrL_up {m s : Nat} {h h1 : Hp} (f : FrL m s h h1) {a q : Nat} {v : Int32} (hs : (a = m ∧ q = 23) ∨ ((a = m + 15 ∨ a = m + 16 ∨ a = m + 17) ∧ q = s) ∨ ((a = m + 18 ∨ a = m + 19) ∧ 3 * s ≤ q)) : FrL m s h (up h1 a q v) := fun a' q' c1 c2 c3 => (up_ne (by omega)).trans (f a' q' c1 c2 c3)
/-- the parts as the reference holds them -/
def PRt (h : Hp) (m s : Nat) (D : PS) : Prop := h (m + 17) s = nI D.1 ∧ ∀ i, i < D.1 → h (m + 18) (3 * s + i) = nI (D.2.1 i) ∧ h (m + 19) (3 * s + i) = nI (D.2.2 i)
section YFORM
variable {S : St} {h h' : Hp} {m k s p : Nat} {T : Nat → Nat}
theorem RTp_e (R : RTp h m k T) (e : ∀ a q, (a = m ∧ q = 22) ∨ a = m + 14 → h' a q = h a q) : RTp h' m k T := ⟨by rw [e _ _ (by omega)]; exact R.1, fun i hi => by rw [e _ _ (by omega)]; exact R.2.1 i hi, R.2.2⟩
theorem RTp_I (R : RTp h m k T) (f : FrI m h h') : RTp h' m k T := RTp_e R (fun a q c => f a q (by omega))
theorem RTp_Q (R : RTp h m k T) (f : FrQ m s h h') : RTp h' m k T := RTp_e R (fun a q c => f a q (by omega) (by omega) (by omega))
theorem RTp_L (R : RTp h m k T) (f : FrL m s h h') : RTp h' m k T := RTp_e R (fun a q c => f a q (by omega) (by omega) (by omega))
theorem y_sign (l : LayM S m) (R : RTp h m k T) (er : h m 23 = nI p) (hp : p ≤ 96) {Q : Int32 → Hp → Prop} (h1 : p < k → Q (nI (T p)) h) (h0 : ¬ p < k → Q (-1) h) : w_X7_sign S m h Q := by
  have k9 := R.2.2
  unfold w_X7_sign
  rw [R.1, er, lr16 l, q_ix (by omega)]
  simp only [q_le (show k < 2 ^ 31 by omega) (show p < 2 ^ 31 by omega)]
  refine ⟨l.1, ?_⟩
  by_cases c : p < k
  · rw [if_neg (by omega), (R.2.1 p c).1]
    exact ⟨q_ain (la16 l) (by omega) (by decide), h1 c⟩
  · rw [if_pos (by omega)]
    exact h0 c
theorem y_isS (l : LayM S m) (R : RTp h m k T) (er : h m 23 = nI p) (hp : p ≤ 96) {lo hi : Nat} (hlo : hi < 1000) {Q : Int32 → Hp → Prop} (h1 : isS k T lo hi p → Q (nI 1) h) (h0 : ¬ isS k T lo hi p → Q (nI 0) h) (hl : 0 < lo) (hlh : lo < 1000) : w_X7_sign S m h (fun r4 h3 => w_X7_isIn S r4 (nI lo) (nI hi) h3 Q) := by
  refine y_sign l R er hp (fun c => ?_) (fun c => ?_)
  · have t := (R.2.1 p c).2
    unfold w_X7_isIn
    simp only [q_lt (show T p < 2 ^ 31 by omega) (show lo < 2 ^ 31 by omega), q_lt (show hi < 2 ^ 31 by omega) (show T p < 2 ^ 31 by omega)]
    by_cases c1 : T p < lo
    · rw [if_pos c1]; exact h0 (fun q => by have := q.2.1; omega)
    · rw [if_neg c1]
      by_cases c2 : hi < T p
      · rw [if_pos c2]; exact h0 (fun q => by have := q.2.2; omega)
      · rw [if_neg c2]; exact h1 ⟨c, by omega, by omega⟩
  · unfold w_X7_isIn
    rw [if_pos (by
      have e : (nI lo).toInt = lo := nI_toInt (by omega)
      rw [Int32.lt_iff_toInt_lt, e]
      have : (-1 : Int32).toInt = -1 := by decide
      omega)]
    exact h0 (fun q => c q.1)
theorem y_some (l : LayM S m) (R : RTp h m k T) (er : h m 23 = nI p) (hp : p ≤ k) {lo hi f : Nat} (hl : 0 < lo) (hlh : lo < 1000) (hlo : hi < 1000) (hf : f ≤ 7) {Q : Int32 → Hp → Prop} (hQ : ∀ h', FrI m h h' → h' m 23 = nI (p + rnF k T lo hi f p) → Q (nI (rnF k T lo hi f p)) h') : w_X7_readsSome S m (nI lo) (nI hi) (nI f) h Q := by
  have k9 := R.2.2
  unfold w_X7_readsSome w_X7_readsSome_c3
  intro P hP
  have K : ∀ (r n : Nat) (h1 : Hp), n + r = f → FrI m h h1 → h1 m 23 = nI (p + n) → p + n ≤ k → rnF k T lo hi f p = n + rnF k T lo hi r (p + n) → P (nI n) h1 := by
    intro r
    induction r with
    | zero =>
      intro n h1 hn F1 e1 hk er1
      refine hP _ _ ?_
      simp only [q_le (show f < 2 ^ 31 by omega) (show n < 2 ^ 31 by omega)]
      rw [if_pos (by omega)]
      have e2 : rnF k T lo hi f p = n := er1
      rw [e2] at hQ
      exact hQ h1 F1 e1
    | succ r ih =>
      intro n h1 hn F1 e1 hk er1
      refine hP _ _ ?_
      simp only [q_le (show f < 2 ^ 31 by omega) (show n < 2 ^ 31 by omega)]
      rw [if_neg (by omega)]
      refine ⟨l.1, y_isS l (RTp_I R F1) e1 (by omega) hlo (fun c => ?_) (fun c => ?_) hl hlh⟩
      · rw [if_neg (by decide), e1, nI_add, nI_add]
        refine ih (n + 1) _ (by omega) (FrI_up F1) (up_same _ _ _ _) (by have := c.1; omega) ?_
        rw [er1]
        simp only [rnF]
        rw [if_pos c, show p + (n + 1) = p + n + 1 by omega]
        omega
      · rw [if_pos (by decide)]
        have e2 : rnF k T lo hi f p = n := by rw [er1]; simp only [rnF]; rw [if_neg c]; omega
        rw [e2] at hQ
        exact hQ h1 F1 e1
  exact K f 0 h (by omega) FrI_rf er hp (Nat.zero_add _).symm
theorem y_reads (l : LayM S m) (R : RTp h m k T) (er : h m 23 = nI p) (hp : p ≤ 96) {c : Nat} (hc : c < 1000) {Q : Int32 → Hp → Prop} (h1 : sgS k T p c → ∀ h', FrI m h h' → h' m 23 = nI (p + 1) → Q (nI 1) h') (h0 : ¬ sgS k T p c → Q (nI 0) h) : w_X7_reads S m (nI c) h Q := by
  unfold w_X7_reads
  refine ⟨l.1, y_sign l R er hp (fun c1 => ?_) (fun c1 => ?_)⟩
  · have t := (R.2.1 p c1).2
    simp only [q_eq (show T p < 2 ^ 31 by omega) (show c < 2 ^ 31 by omega)]
    by_cases c2 : T p = c
    · rw [if_pos c2, er, nI_add]
      exact h1 ⟨c1, c2⟩ _ (FrI_up FrI_rf) (up_same _ _ _ _)
    · rw [if_neg c2]
      exact h0 (fun q => c2 q.2)
  · rw [if_neg (fun e => (q_neg1 (show c < 2 ^ 31 by omega)).mp e.symm)]
    exact h0 (fun q => c1 q.1)
theorem y_rpart (l : LayM S m) (R : RTp h m k T) (e24 : h m 24 = nI s) (hs : s < 25) (er : h m 23 = nI p) (hp : p ≤ k) {D : PS} (hD : D.1 < 3) (P0 : PRt h m s D) {Q : Int32 → Hp → Prop} (hQ : ∀ h', FrQ m s h h' → h' m 23 = nI (p + paF k T p) → PRt h' m s (adP D p (paF k T p)) → Q (nI (if paF k T p = 0 then 0 else 1)) h') : w_X7_readsPart S m h Q := by
  have k9 := R.2.2
  unfold w_X7_readsPart
  rw [lr19 l, lr20 l, lr21 l, e24, q_ix (show s < 2 ^ 31 by omega), P0.1, pk_mul, nI_add, q_ix (show 3 * s + D.1 < 2 ^ 31 by omega), er]
  refine ⟨l.1, q_ain (la19 l) hs (by decide), q_ain (la20 l) (by omega) (by decide), ?_⟩
  have F0 : FrQ m s h (up h (m + 18) (3 * s + D.1) (nI p)) := FrQ_up FrQ_rf (by omega)
  have E : ∀ (n : Nat) (h1 : Hp), FrI m (up h (m + 18) (3 * s + D.1) (nI p)) h1 → h1 m 23 = nI (p + n) → n = paF k T p → (ain S (m + 19) (nI (3 * s + D.1)) ∧ (ain S (m + 17) ((up h1 (m + 19) (3 * s + D.1) (nI n)) m 24) ∧ (if nI n ≤ 0 then (Q (nI 0) (up (up h1 (m + 19) (3 * s + D.1) (nI n)) (m + 17) (ix ((up h1 (m + 19) (3 * s + D.1) (nI n)) m 24)) (((up h1 (m + 19) (3 * s + D.1) (nI n)) (m + 17) (ix ((up h1 (m + 19) (3 * s + D.1) (nI n)) m 24))) + nI 1))) else (Q (nI 1) (up (up h1 (m + 19) (3 * s + D.1) (nI n)) (m + 17) (ix ((up h1 (m + 19) (3 * s + D.1) (nI n)) m 24)) (((up h1 (m + 19) (3 * s + D.1) (nI n)) (m + 17) (ix ((up h1 (m + 19) (3 * s + D.1) (nI n)) m 24))) + nI 1)))))) := by
    intro n h1 F1 e1 en
    have n7 := pa_le (k := k) (T := T) p
    rw [← en] at n7
    have a1 : (up h1 (m + 19) (3 * s + D.1) (nI n)) m 24 = nI s := by rw [up_ne (by omega), F1 _ _ (by omega), up_ne (by omega)]; exact e24
    have a2 : (up h1 (m + 19) (3 * s + D.1) (nI n)) (m + 17) s = nI D.1 := by rw [up_ne (by omega), F1 _ _ (by omega), up_ne (by omega)]; exact P0.1
    rw [a1, q_ix (show s < 2 ^ 31 by omega), a2, nI_add]
    refine ⟨q_ain (la21 l) (by omega) (by decide), q_ain (la19 l) hs (by decide), ?_⟩
    have hq := hQ (up (up h1 (m + 19) (3 * s + D.1) (nI n)) (m + 17) s (nI (D.1 + 1))) (FrQ_up (FrQ_up (FrQ_tr F0 (FrQ_I F1)) (by omega)) (by omega)) (by rw [up_ne (by omega), up_ne (by omega), e1, en]) ⟨up_same _ _ _ _, fun i hi => ?_⟩
    · rw [← en] at hq
      simp only [q_le0 (show n < 2 ^ 31 by omega)]
      by_cases c : n = 0
      · rw [if_pos c] at hq ⊢; exact hq
      · rw [if_neg c] at hq ⊢; exact hq
    · have hi : i < D.1 + 1 := hi
      show _ = nI (upN D.2.1 D.1 p i) ∧ _ = nI (upN D.2.2 D.1 (paF k T p) i)
      by_cases c : i = D.1
      · subst c
        rw [upN_s, upN_s, up_ne (by omega), up_ne (by omega), F1 _ _ (by omega), up_same, up_ne (by omega), up_same, en]
        exact ⟨rfl, rfl⟩
      · rw [upN_n c, upN_n c, up_ne (by omega), up_ne (by omega), F1 _ _ (by omega), up_ne (by omega), up_ne (by omega), up_ne (by omega), F1 _ _ (by omega), up_ne (by omega)]
        exact P0.2 i (by omega)
  have R0 : RTp (up h (m + 18) (3 * s + D.1) (nI p)) m k T := RTp_Q R F0
  have e0 : (up h (m + 18) (3 * s + D.1) (nI p)) m 23 = nI p := by rw [up_ne (by omega)]; exact er
  refine y_some l R0 e0 hp (by decide) (by decide) (by decide) (by decide) (fun h1 F1 e1 => ?_)
  have l7 := rn_le (k := k) (T := T) 97 122 7 p
  simp only [q_eq0 (show rnF k T 97 122 7 p < 2 ^ 31 by omega)]
  by_cases c : rnF k T 97 122 7 p = 0
  · rw [if_pos c]
    rw [c, Nat.add_zero] at e1
    refine y_some l (RTp_I R0 F1) e1 hp (by decide) (by decide) (by decide) (by decide) (fun h2 F2 e2 => ?_)
    exact E _ h2 (FrI_tr F1 F2) e2 (by unfold paF leF diF; rw [if_pos c])
  · rw [if_neg c]
    exact E _ h1 F1 e1 (by unfold paF leF; rw [if_neg c])
theorem y_rtail (l : LayM S m) (R : RTp h m k T) (e24 : h m 24 = nI s) (hs : s < 25) {e r : Nat} (er : h m 23 = nI r) (hr : r ≤ k) {D : PS} (hD : D.1 + e = 3) (P0 : PRt h m s D) {Q : Int32 → Hp → Prop} (h1 : (tlF k T e r D).1 = true → ∀ h', FrQ m s h h' → h' m 23 = nI (tlF k T e r D).2.1 → PRt h' m s (tlF k T e r D).2.2 → Q (nI 1) h') (h0 : ¬ (tlF k T e r D).1 = true → ∀ h', FrQ m s h h' → h' m 23 = nI (tlF k T e r D).2.1 → Q (nI 0) h') : w_X7_statement_c72 S m h Q := by
  have k9 := R.2.2
  unfold w_X7_statement_c72
  intro P hP
  have K : ∀ (e r : Nat) (D : PS) (h2 : Hp), D.1 + e = 3 → FrQ m s h h2 → h2 m 23 = nI r → r ≤ k → PRt h2 m s D → ((tlF k T e r D).1 = true → ∀ h', FrQ m s h h' → h' m 23 = nI (tlF k T e r D).2.1 → PRt h' m s (tlF k T e r D).2.2 → Q (nI 1) h') → (¬ (tlF k T e r D).1 = true → ∀ h', FrQ m s h h' → h' m 23 = nI (tlF k T e r D).2.1 → Q (nI 0) h') → P h2 := by
    intro e
    induction e with
    | zero =>
      intro r D h2 hD F2 e2 hr P2 h1 h0
      refine hP _ ⟨l.1, ?_⟩
      have e4 : h2 m 24 = nI s := by rw [F2 _ _ (by omega) (by omega) (by omega)]; exact e24
      rw [e4, lr19 l, q_ix (show s < 2 ^ 31 by omega), P2.1]
      simp only [q_le (show 3 < 2 ^ 31 by decide) (show D.1 < 2 ^ 31 by omega)]
      rw [if_pos (by omega)]
      refine ⟨q_ain (la19 l) hs (by decide), ?_⟩
      simp only [tlF] at h1 h0
      refine y_reads l (RTp_Q R F2) e2 (by omega) (by decide) (fun c h3 F3 e3 => ?_) (fun c => ?_)
      · rw [if_pos c] at h1
        exact ⟨Or.inr rfl, h1 rfl h3 (FrQ_tr F2 (FrQ_I F3)) e3 ⟨by rw [F3 _ _ (by omega)]; exact P2.1, fun i hi => by rw [F3 _ _ (by omega), F3 _ _ (by omega)]; exact P2.2 i hi⟩⟩
      · rw [if_neg c] at h0
        exact ⟨Or.inl rfl, h0 Bool.false_ne_true h2 F2 e2⟩
    | succ e ih =>
      intro r D h2 hD F2 e2 hr P2 h1 h0
      refine hP _ ⟨l.1, ?_⟩
      have e4 : h2 m 24 = nI s := by rw [F2 _ _ (by omega) (by omega) (by omega)]; exact e24
      rw [e4, lr19 l, q_ix (show s < 2 ^ 31 by omega), P2.1]
      simp only [q_le (show 3 < 2 ^ 31 by decide) (show D.1 < 2 ^ 31 by omega)]
      rw [if_neg (by omega)]
      refine ⟨q_ain (la19 l) hs (by decide), ?_⟩
      simp only [tlF] at h1 h0
      refine y_reads l (RTp_Q R F2) e2 (by omega) (by decide) (fun c h3 F3 e3 => ?_) (fun c => ?_)
      · rw [if_neg (by decide)]
        rw [if_pos c] at h1 h0
        have c1 := c.1
        have F4 := FrQ_tr F2 (FrQ_I F3)
        refine y_rpart l (RTp_Q R F4) (by rw [F4 _ _ (by omega) (by omega) (by omega)]; exact e24) hs e3 (by omega) (D := D) (by omega) ⟨by rw [F3 _ _ (by omega)]; exact P2.1, fun i hi => by rw [F3 _ _ (by omega), F3 _ _ (by omega)]; exact P2.2 i hi⟩ (fun h5 F5 e5 P5 => ?_)
        by_cases c5 : paF k T (r + 1) = 0
        · rw [if_pos c5, if_pos (by decide)]
          rw [if_pos c5] at h0
          exact h0 Bool.false_ne_true h5 (FrQ_tr F4 F5) (by rw [e5, c5])
        · rw [if_neg c5, if_neg (by decide)]
          rw [if_neg c5] at h1 h0
          exact ih _ _ h5 (by show D.1 + 1 + e = 3; omega) (FrQ_tr F4 F5) e5 (pa_k (by omega)) P5 h1 h0
      · rw [if_pos (by decide)]
        rw [if_neg c] at h1 h0
        refine y_reads l (RTp_Q R F2) e2 (by omega) (by decide) (fun c h3 F3 e3 => ?_) (fun c => ?_)
        · rw [if_pos c] at h1
          exact ⟨Or.inr rfl, h1 rfl h3 (FrQ_tr F2 (FrQ_I F3)) e3 ⟨by rw [F3 _ _ (by omega)]; exact P2.1, fun i hi => by rw [F3 _ _ (by omega), F3 _ _ (by omega)]; exact P2.2 i hi⟩⟩
        · rw [if_neg c] at h0
          exact ⟨Or.inl rfl, h0 Bool.false_ne_true h2 F2 e2⟩
  exact K e r D h hD FrQ_rf er hr P0 h1 h0
/-- statement s as the reference holds it -/
def RecS (h : Hp) (m k : Nat) (T : Nat → Nat) (s p : Nat) : Prop := h (m + 15) s = nI p ∧ h (m + 16) s = nI (leF k T p) ∧ PRt h m s (smF k T p).2.2
theorem y_state (l : LayM S m) (R : RTp h m k T) (e24 : h m 24 = nI s) (hs : s < 25) (er : h m 23 = nI p) (hp : p ≤ k) {Q : Int32 → Hp → Prop} (h1 : (smF k T p).1 = true → ∀ h', FrL m s h h' → h' m 23 = nI (smF k T p).2.1 → RecS h' m k T s p → Q (nI 1) h') (h0 : ¬ (smF k T p).1 = true → ∀ h', FrL m s h h' → h' m 23 = nI (smF k T p).2.1 → Q (nI 0) h') : w_X7_statement S m h Q := by
  have k9 := R.2.2
  unfold w_X7_statement
  have a0 : (up h (m + 15) s (nI p)) m 24 = nI s := by rw [up_ne (by omega)]; exact e24
  rw [lr17 l, lr18 l, lr19 l, e24, er, q_ix (show s < 2 ^ 31 by omega), a0]
  have F0 : FrL m s h (up h (m + 15) s (nI p)) := FrL_up FrL_rf (by omega)
  refine ⟨l.1, q_ain (la17 l) hs (by decide), ?_⟩
  refine y_some l (RTp_L R F0) (by rw [up_ne (by omega)]; exact er) hp (by decide) (by decide) (by decide) (by decide) (fun h2 F2 e2 => ?_)
  have w7 : leF k T p ≤ 7 := rn_le (k := k) (T := T) 97 122 7 p
  have wk : p + leF k T p ≤ k := rn_k _ _ _ _ hp
  rw [show rnF k T 97 122 7 p = leF k T p from rfl]
  rw [show rnF k T 97 122 7 p = leF k T p from rfl] at e2
  have F3 : FrL m s h h2 := FrL_tr F0 (FrL_Q (FrQ_I F2))
  have a2 : h2 m 24 = nI s := by rw [F3 _ _ (by omega) (by omega) (by omega)]; exact e24
  have a3 : (up h2 (m + 16) s (nI (leF k T p))) m 24 = nI s := by rw [up_ne (by omega)]; exact a2
  rw [q_ix (show s < 2 ^ 31 by omega), a3, q_ix (show s < 2 ^ 31 by omega)]
  have a4 : (up (up h2 (m + 16) s (nI (leF k T p))) (m + 17) s (nI 0)) m 24 = nI s := by rw [up_ne (by omega)]; exact a3
  rw [a4, q_ix (show s < 2 ^ 31 by omega), up_ne (a := m + 17) (a' := m + 16) (show ¬ (m + 16 = m + 17 ∧ s = s) by omega), up_same]
  simp only [q_eq0 (show leF k T p < 2 ^ 31 by omega)]
  refine ⟨q_ain (la18 l) hs (by decide), q_ain (la19 l) hs (by decide), q_ain (la18 l) hs (by decide), ?_⟩
  have F4 : FrL m s h (up (up h2 (m + 16) s (nI (leF k T p))) (m + 17) s (nI 0)) := FrL_up (FrL_up F3 (by omega)) (by omega)
  have e4 : (up (up h2 (m + 16) s (nI (leF k T p))) (m + 17) s (nI 0)) m 23 = nI (p + leF k T p) := by rw [up_ne (by omega), up_ne (by omega)]; exact e2
  unfold smF at h1 h0
  by_cases c : leF k T p = 0
  · rw [if_pos c]
    rw [if_pos c] at h0
    exact h0 Bool.false_ne_true _ F4 (by rw [e4, c]; rfl)
  rw [if_neg c]
  rw [if_neg c] at h1 h0
  refine y_reads l (RTp_L R F4) e4 (by omega) (by decide) (fun c2 h5 F5 e5 => ?_) (fun c2 => ?_)
  · rw [if_neg (by decide)]
    rw [if_pos c2] at h1 h0
    have c3 := c2.1
    have F6 : FrL m s h h5 := FrL_tr F4 (FrL_Q (FrQ_I F5))
    have b24 : h5 m 24 = nI s := by rw [F6 _ _ (by omega) (by omega) (by omega)]; exact e24
    have b15 : h5 (m + 15) s = nI p := by rw [F5 _ _ (by omega), up_ne (by omega), up_ne (by omega), F2 _ _ (by omega)]; exact up_same _ _ _ _
    have b16 : h5 (m + 16) s = nI (leF k T p) := by rw [F5 _ _ (by omega), up_ne (by omega)]; exact up_same _ _ _ _
    refine y_rpart l (RTp_L R F6) b24 hs e5 (by omega) (D := DP0) (by decide) ⟨by rw [F5 _ _ (by omega)]; exact up_same _ _ _ _, fun i hi => absurd hi (Nat.not_lt_zero i)⟩ (fun h7 F7 e7 P7 => ?_)
    by_cases c5 : paF k T (p + leF k T p + 1) = 0
    · rw [if_pos c5, if_pos (by decide)]
      rw [if_pos c5] at h0
      exact h0 Bool.false_ne_true h7 (FrL_tr F6 (FrL_Q F7)) (by rw [e7, c5])
    · rw [if_neg c5, if_neg (by decide)]
      have F8 := FrL_tr F6 (FrL_Q F7)
      refine y_rtail l (RTp_L R F8) (by rw [F7 _ _ (by omega) (by omega) (by omega)]; exact b24) hs (e := 2) e7 (pa_k (by omega)) rfl P7 (fun g h9 F9 e9 P9 => ?_) (fun g h9 F9 e9 => ?_)
      · rw [if_neg c5] at h1
        refine h1 g h9 (FrL_tr F8 (FrL_Q F9)) e9 ⟨?_, ?_, ?_⟩
        · rw [F9 _ _ (by omega) (by omega) (by omega), F7 _ _ (by omega) (by omega) (by omega)]; exact b15
        · rw [F9 _ _ (by omega) (by omega) (by omega), F7 _ _ (by omega) (by omega) (by omega)]; exact b16
        · unfold smF
          rw [if_neg c, if_pos c2, if_neg c5]; exact P9
      · rw [if_neg c5] at h0
        exact h0 g h9 (FrL_tr F8 (FrL_Q F9)) e9
  · rw [if_pos (by decide)]
    rw [if_neg c2] at h0
    exact h0 Bool.false_ne_true _ F4 e4
end YFORM
