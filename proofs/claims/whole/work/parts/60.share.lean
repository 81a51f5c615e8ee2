/-! PURE: fractions in lowest terms; share -/
def frF (a b p : Nat) : Int64 := if a = 0 ∨ b = 0 then lN p else if p = 0 then lN (a / Nat.gcd a b) else lN (b / Nat.gcd a b)
theorem q_lcmp {a b : Nat} (ha : a < 2 ^ 63) (hb : b < 2 ^ 63) : (lcmp (lN a) (lN b) = 0) = (a = b) := propext ((lg_cmp_eq _ _).trans (pk_lEQ ha hb))
theorem q_lne {a : Nat} (h0 : 0 < a) (ha : a < 2 ^ 63) : ¬ lN a = 0 := fun e => by
  have := (pk_lEQ ha (show 0 < 2 ^ 63 by decide)).mp e
  omega
theorem q_lrem {a b : Nat} (ha : a < 2 ^ 63) (h0 : 0 < b) (hb : b < 2 ^ 63) : lrem (lN a) (lN b) = lN (a % b) := pk_lRem ha h0 hb
section TERMS
variable {S : St} {h h' : Hp} {x m : Nat} {A : Ab}
theorem x_terms {a b p : Nat} (ha : a < 2 ^ 40) (hb : b < 2 ^ 40) (hp : p ≤ 1) {Q : Int64 → Hp → Prop} (hQ : Q (frF a b p) h) : w_X6_inLowestTerms S (lN a) (lN b) (nI p) h Q := by
  unfold w_X6_inLowestTerms
  unfold frF at hQ
  simp only [q_lcmp (show a < 2 ^ 63 by omega) (show 0 < 2 ^ 63 by decide), q_lcmp (show b < 2 ^ 63 by omega) (show 0 < 2 ^ 63 by decide)]
  rw [nI_l (by omega)]
  by_cases a0 : a = 0
  · rw [if_pos a0]; rw [if_pos (Or.inl a0)] at hQ; exact hQ
  rw [if_neg a0]
  by_cases b0 : b = 0
  · rw [if_pos b0]; rw [if_pos (Or.inr b0)] at hQ; exact hQ
  rw [if_neg b0]
  rw [if_neg (by omega)] at hQ
  have G := gcN_gcd 40 a b 100 hb (by decide)
  have gp : 0 < Nat.gcd a b := Nat.gcd_pos_of_pos_left _ (by omega)
  have gl : Nat.gcd a b ≤ a := Nat.gcd_le_left _ (by omega)
  have E : w_X6_inLowestTerms_c60 S (lN a) (lN b) (nI p) (lN (Nat.gcd a b)) h Q := by
    unfold w_X6_inLowestTerms_c60
    simp only [q_eq0 (show p < 2 ^ 31 by omega), q_lcmp (show Nat.gcd a b < 2 ^ 63 by omega) (show 0 < 2 ^ 63 by decide)]
    by_cases p0 : p = 0
    · rw [if_pos p0, if_neg (by omega), pk_lDiv (by omega) gp (by omega)]
      rw [if_pos p0] at hQ
      exact ⟨q_lne gp (by omega), hQ⟩
    · rw [if_neg p0, if_neg (by omega), pk_lDiv (by omega) gp (by omega)]
      rw [if_neg p0] at hQ
      exact ⟨q_lne gp (by omega), hQ⟩
  unfold w_X6_inLowestTerms_c25
  intro P hP
  have K : ∀ (f k u w : Nat), k + f = 100 → u < 2 ^ 40 → w < 2 ^ 40 → gcN f u w = Nat.gcd a b → P (lN u) (lN w) (nI k) h := by
    intro f
    induction f with
    | zero =>
      intro k u w hk hu hw e
      refine hP _ _ _ _ ?_
      simp only [q_le (show 100 < 2 ^ 31 by decide) (show k < 2 ^ 31 by omega)]
      rw [if_pos (by omega)]
      have e : u = Nat.gcd a b := e
      rw [e]; exact E
    | succ f ih =>
      intro k u w hk hu hw e
      refine hP _ _ _ _ ?_
      simp only [q_le (show 100 < 2 ^ 31 by decide) (show k < 2 ^ 31 by omega)]
      rw [if_neg (by omega)]
      simp only [q_lcmp (show w < 2 ^ 63 by omega) (show 0 < 2 ^ 63 by decide)]
      by_cases w0 : w = 0
      · rw [if_pos w0]
        subst w0
        rw [gcN_0] at e
        rw [e]; exact E
      · rw [if_neg w0]
        refine ⟨q_lne (by omega) (by omega), ?_⟩
        rw [q_lrem (by omega) (by omega) (by omega), nI_add]
        have e : (if w = 0 then u else gcN f w (u % w)) = Nat.gcd a b := e
        rw [if_neg w0] at e
        exact ih (k + 1) w (u % w) (by omega) hw (by have := Nat.mod_lt u (show 0 < w by omega); omega) e
  exact K 100 0 a b rfl ha hb G
theorem y_div {a b : Nat} (ha : a < 2 ^ 40) (hb : b < 2 ^ 40) {Q : Int64 → Hp → Prop} (hQ : Q (lN (Nat.gcd a b)) h) : w_X7_divisor S (lN a) (lN b) h Q := by
  unfold w_X7_divisor w_X7_divisor_c6
  intro P hP
  have K : ∀ (n u w : Nat), w ≤ n → u < 2 ^ 40 → w < 2 ^ 40 → Nat.gcd u w = Nat.gcd a b → P (lN u) (lN w) h := by
    intro n
    induction n with
    | zero =>
      intro u w hn hu hw e
      refine hP _ _ _ ?_
      simp only [q_lcmp (show w < 2 ^ 63 by omega) (show 0 < 2 ^ 63 by decide)]
      rw [if_pos (by omega)]
      have w0 : w = 0 := by omega
      subst w0
      rw [Nat.gcd_zero_right] at e
      rw [e]; exact hQ
    | succ n ih =>
      intro u w hn hu hw e
      refine hP _ _ _ ?_
      simp only [q_lcmp (show w < 2 ^ 63 by omega) (show 0 < 2 ^ 63 by decide)]
      by_cases w0 : w = 0
      · rw [if_pos w0]
        subst w0
        rw [Nat.gcd_zero_right] at e
        rw [e]; exact hQ
      · rw [if_neg w0]
        have := Nat.mod_lt u (show 0 < w by omega)
        refine ⟨q_lne (by omega) (by omega), ?_⟩
        rw [q_lrem (by omega) (by omega) (by omega)]
        exact ih w (u % w) (by omega) hw (by omega) ((gcd_step u w).symm.trans e)
  exact K b a b (Nat.le_refl _) ha hb rfl
theorem y_part {a b p : Nat} (ha : a < 2 ^ 40) (hb : b < 2 ^ 40) (b0 : 0 < b) (hp : p ≤ 1) {Q : Int64 → Hp → Prop} (hQ : Q (frF a b p) h) : w_X7_partOf S (lN a) (lN b) (nI p) h Q := by
  unfold w_X7_partOf
  unfold frF at hQ
  have gp : 0 < Nat.gcd a b := Nat.gcd_pos_of_pos_right _ b0
  have gl : Nat.gcd a b ≤ b := Nat.gcd_le_right _ b0
  simp only [q_eq0 (show p < 2 ^ 31 by omega)]
  by_cases p0 : p = 0
  · rw [if_pos p0]
    refine y_div ha hb ⟨q_lne gp (by omega), ?_⟩
    rw [pk_lDiv (by omega) gp (by omega)]
    by_cases a0 : a = 0
    · rw [if_pos (Or.inl a0), p0] at hQ
      subst a0
      rw [Nat.zero_div]; exact hQ
    · rw [if_neg (by omega), if_pos p0] at hQ; exact hQ
  · rw [if_neg p0]
    refine y_div ha hb ⟨q_lne gp (by omega), ?_⟩
    rw [pk_lDiv (by omega) gp (by omega)]
    by_cases a0 : a = 0
    · rw [if_pos (Or.inl a0), show p = 1 by omega] at hQ
      subst a0
      rw [Nat.gcd_zero_left, Nat.div_self b0]; exact hQ
    · rw [if_neg (by omega), if_neg p0] at hQ; exact hQ
def shareA (A : Ab) (v w : Int32) : Int64 × Ab := if inR v (aL A 0 4) then (if inR w 2 then (frF (aL A (5 + 2 * ix v) 7) (allF (aL A)) (ix w), A) else rfL A (-2)) else rfL A (-1)
theorem in2 {w : Int32} : inR w 2 ↔ ¬ w < 0 ∧ w ≤ nI 1 := by
  have e := inR_le (v := w) (n := 1) (by decide)
  rw [← e, nI_0]
  exact ⟨fun q => ⟨Int32.not_lt.mpr q.1, q.2⟩, fun q => ⟨Int32.not_lt.mp q.1, q.2⟩⟩
theorem x_share (X : XI S h x A) {v w : Int32} {Q : Int64 → Hp → Prop} (hQ : ∀ h', XI S h' x (shareA A v w).2 → FrX x h h' → Q (shareA A v w).1 h') : w_X6_share S x v w h Q := by
  have l := X.1
  have l1 := l.2.1.1
  have wl := X.2.2.2.2.2.2.2.1.1
  have h5 := wl.1
  unfold w_X6_share
  unfold shareA at hQ
  refine ⟨l.1.1, x_noHead X (fun c => ?_) (fun c => ?_)⟩
  · rw [if_pos (by decide)]
    rw [if_pos c] at hQ
    by_cases c1 : w < 0
    · rw [if_pos c1]
      rw [if_neg (fun q => (in2.mp q).1 c1)] at hQ
      exact x_refuseL X (by unfold rfok; decide) hQ
    rw [if_neg c1]
    by_cases c2 : w ≤ nI 1
    · rw [if_pos c2]
      have c3 := in2.mpr ⟨c1, c2⟩
      rw [if_pos c3] at hQ
      obtain ⟨i, hi, rfl⟩ := inR_ex c (by omega)
      obtain ⟨p, hp, rfl⟩ := inR_ex c3 (by decide)
      rw [q_ix (by omega), q_ix (by omega)] at hQ
      have Hi := XLhd X.2.1 hi
      have b7 := Hi.2.2.2.2.2.2.2.2.2.2.2.1
      have al := allF_le wl
      rw [l.1.2.1, l1.2.1.2.2.2, q_ix (by omega), (l1.2.2.2 i (by omega)).1, XHe Hi (by decide) (by decide), nI_l (by omega)]
      refine ⟨l1.1, q_rin l1.2.2.1.2.2.2 (by omega) (by decide), Hi.1, x_all X.2.1 ?_⟩
      rw [nI_l (by omega)]
      exact x_terms (by omega) (by omega) (by omega) (hQ h X FrX_rf)
    · rw [if_neg c2]
      rw [if_neg (fun q => c2 (in2.mp q).2)] at hQ
      exact x_refuseL X (by unfold rfok; decide) hQ
  · rw [if_neg (by decide)]
    rw [if_neg c] at hQ
    exact x_refuseL X (Or.inl rfl) hQ
theorem y_share (X : MI_ S h m A) {v w : Int32} {Q : Int64 → Hp → Prop} (hQ : ∀ h', MI_ S h' m (shareA A v w).2 → FrY m h h' → Q (shareA A v w).1 h') : w_X7_share S m v w h Q := by
  have l := X.1.1
  have wl := X.1.2.2
  have h5 := wl.1
  unfold w_X7_share
  unfold shareA at hQ
  refine ⟨l.1, y_isHead X.1 (fun c => ?_) (fun c => ?_)⟩
  · rw [if_neg (by decide)]
    rw [if_pos c] at hQ
    refine y_isIn (fun c3 => ?_) (fun c3 => ?_)
    · rw [if_neg (by decide)]
      have c4 := (inR_le (v := w) (n := 1) (by decide)).mp c3
      rw [if_pos c4] at hQ
      obtain ⟨i, hi, rfl⟩ := inR_ex c (by omega)
      obtain ⟨p, hp, rfl⟩ := inR_ex c4 (by decide)
      rw [q_ix (by omega), q_ix (by omega)] at hQ
      have b7 := (MLb X.1 hi).2.2.2.2.2.2.1
      have al := allF_le wl
      unfold w_X7_share_c27
      rw [if_pos (by decide)]
      refine ⟨l.1, y_all X.1 ?_⟩
      simp only [q_eq0 (show allF (aL A) < 2 ^ 31 by omega)]
      have hq := hQ h X FrY_rf
      by_cases a0 : allF (aL A) = 0
      · rw [if_pos a0, nI_l (by omega)]
        unfold frF at hq
        rw [if_pos (Or.inr a0)] at hq; exact hq
      · rw [if_neg a0, lr9 l, q_ix (by omega), MLe X.1 hi (show KC 7 10 by unfold KC; omega), nI_l (by omega), nI_l (by omega)]
        exact ⟨q_ain (la9 l) (by omega) (by decide), y_part (by omega) (by omega) (by omega) (by omega) hq⟩
    · rw [if_pos (by decide)]
      rw [if_neg (fun q => c3 ((inR_le (v := w) (n := 1) (by decide)).mpr q))] at hQ
      unfold w_X7_share_c27
      rw [if_neg (by decide)]
      exact ⟨l.1, y_lowest X (by unfold rfok; decide) hQ⟩
  · rw [if_pos (by decide)]
    rw [if_neg c] at hQ
    unfold w_X7_share_c27
    rw [if_neg (by decide)]
    exact ⟨l.1, y_lowest X (Or.inl rfl) hQ⟩
theorem op_share (H : SI S h x A) {v w : Int32} {Q : Int64 → Int64 → Hp → Prop} (hQ : ∀ r A' h', SI S h' x A' → Q r r h') : w_X6_share S x v w h (fun r h1 => w_X7_share S (x + 180) v w h1 (fun r' h2 => Q r r' h2)) :=
  x_share H.1 (fun h1 X1 F1 => y_share (SI_m H F1) (fun h2 Y2 F2 => hQ _ _ h2 (SI_mk X1 Y2 F2)))
end TERMS
