/-! PURE: rain -/
def crsF (s : Nat) : Nat → Nat → Ld → Ld
  | 0, _, L => L
  | f + 1, j, L => crsF s f (j + 1) (if s / 2 ^ j % 2 = 1 then updL L 0 5 (L 0 5 + 1) else nightF L)
def wysF (s t : Nat) : Nat → Nat → Nat → Nat
  | 0, _, w => w
  | f + 1, j, w => wysF s t f (j + 1) (if s / 2 ^ j % 2 = 1 then w else w * (t - 1))
def wyF (L : Ld) (i f n t : Nat) : Nat := sumF (fun s => if crsF s n 0 L (5 + 2 * i) 4 = f then wysF s t n 0 1 else 0) (2 ^ n)
theorem wysF_le {s t : Nat} (ht : t ≤ 20) : ∀ f j w, wysF s t f j w ≤ w * 19 ^ f
  | 0, j, w => by simp [wysF]
  | f + 1, j, w => by
    simp only [wysF]
    have e : w * 19 ^ (f + 1) = (w * 19) * 19 ^ f := by rw [Nat.pow_succ, Nat.mul_assoc, Nat.mul_comm (19 ^ f) 19]
    refine Nat.le_trans (wysF_le ht f (j + 1) _) ?_
    rw [e]
    refine Nat.mul_le_mul_right _ ?_
    split
    · omega
    · exact Nat.mul_le_mul_left _ (by omega)
theorem wyF_lt {L : Ld} {i f n t : Nat} (hn : n ≤ 7) (ht : t ≤ 20) : wyF L i f n t < 2 ^ 40 := by
  have p1 : 19 ^ n ≤ 19 ^ 7 := Nat.pow_le_pow_right (by decide) hn
  have p2 : 2 ^ n ≤ 2 ^ 7 := Nat.pow_le_pow_right (by decide) hn
  have h1 : wyF L i f n t ≤ 19 ^ 7 * 2 ^ n := sumF_le (c := 19 ^ 7) (2 ^ n) (fun s _ => by
    split
    · have := wysF_le (s := s) ht n 0 1
      omega
    · exact Nat.zero_le _)
  have h2 : 19 ^ 7 * 2 ^ n ≤ 19 ^ 7 * 2 ^ 7 := Nat.mul_le_mul_left _ p2
  have h3 : 19 ^ 7 * 2 ^ 7 < 2 ^ 40 := by decide
  omega
theorem pw7 {n : Nat} (hn : n ≤ 7) : 2 ^ n ≤ 128 := by
  have := Nat.pow_le_pow_right (n := 2) (by decide) hn
  have e : 2 ^ 7 = 128 := by decide
  omega
theorem tn_lt {n t : Nat} (hn : n ≤ 7) (ht : t ≤ 20) : t ^ n < 2 ^ 40 := by
  have h1 : t ^ n ≤ 20 ^ n := Nat.pow_le_pow_left ht n
  have h2 : 20 ^ n ≤ 20 ^ 7 := Nat.pow_le_pow_right (by decide) hn
  have h3 : 20 ^ 7 < 2 ^ 40 := by decide
  omega
section RAIN
variable {S : St} {h h' : Hp} {x m : Nat} {A : Ab}
theorem x_waysOnto (X : XI S h x A) {i f n t : Nat} (hi : i < aL A 0 4) (hf : f < 48) (hn : n ≤ 7) (t2 : 2 ≤ t) (ht : t ≤ 20) {Q : Int64 → Hp → Prop} (hQ : ∀ h', XI S h' x A → FrX x h h' → Q (lN (wyF (aL A) i f n t)) h') : w_X2_waysOnto S (x + 157) (x + 1) (nI i) (nI f) (nI n) (nI t) h Q := by
  have l := X.1
  have hnt := X.2.2.2.2.2.2.2.1.2
  have h5 := X.2.2.2.2.2.2.2.1.1.1
  have p7 := pw7 hn
  have lt := l.2.1.2.2.1
  unfold w_X2_waysOnto w_X2_waysOnto_c6
  intro P hP
  have K : ∀ (r s : Nat) (h1 : Hp), s + r = 2 ^ n → XI S h1 x A → FrX x h h1 → P (lN (sumF (fun s => if crsF s n 0 (aL A) (5 + 2 * i) 4 = f then wysF s t n 0 1 else 0) s)) (nI s) h1 := by
    intro r
    induction r with
    | zero =>
      intro s h1 hs X1 F1
      refine hP _ _ _ ?_
      rw [q_shl1 n (by omega)]
      simp only [q_le (show 2 ^ n < 2 ^ 31 by omega) (show s < 2 ^ 31 by omega)]
      rw [if_pos (by omega)]
      have hs : s = 2 ^ n := by omega
      subst hs
      exact hQ h1 X1 F1
    | succ r ih =>
      intro s h1 hs X1 F1
      refine hP _ _ _ ?_
      rw [q_shl1 n (by omega)]
      simp only [q_le (show 2 ^ n < 2 ^ 31 by omega) (show s < 2 ^ 31 by omega)]
      rw [if_neg (by omega)]
      refine ⟨l.2.2.2.2.1.1, x_think X1 (fun h2 X2 Y2 F2 => ?_)⟩
      unfold w_X2_waysOnto_c27
      intro P2 hP2
      have K2 : ∀ (g j w : Nat) (M : Ld) (h3 : Hp), j + g = n → XL S h3 (x + 158) M → XI S h3 x A → FrX x h h3 → M 0 4 = aL A 0 4 → M 0 5 ≤ 999 + j → crsF s n 0 (aL A) = crsF s g j M → wysF s t n 0 1 = wysF s t g j w → P2 (lN w) (nI j) h3 := by
        intro g
        induction g with
        | zero =>
          intro j w M h3 hj Y3 X3 F3 e4 e5 ec ew
          have Hi := XLhd Y3 (show i < M 0 4 by omega)
          have b4 := Hi.2.2.2.2.2.2.2.2.1
          refine hP2 _ _ _ ?_
          simp only [q_le (show n < 2 ^ 31 by omega) (show j < 2 ^ 31 by omega)]
          rw [if_pos (by omega), l.2.2.2.2.1.2, lt.2.1.2.2.2, q_ix (by omega), (lt.2.2.2 i (by omega)).1, XHe Hi (by decide) (by decide), nI_add, lN_add]
          refine ⟨l.2.2.2.2.1.1, lt.1, q_rin lt.2.2.1.2.2.2 (by omega) (by decide), Hi.1, ?_⟩
          simp only [q_eq (show M (5 + 2 * i) 4 < 2 ^ 31 by omega) (show f < 2 ^ 31 by omega)]
          have ih := ih (s + 1) h3 (by omega) X3 F3
          simp only [sumF] at ih
          have ec : crsF s n 0 (aL A) = M := ec
          have ew : wysF s t n 0 1 = w := ew
          rw [ec, ew] at ih
          by_cases c : M (5 + 2 * i) 4 = f
          · rw [if_pos c]; rw [if_pos c] at ih; exact ih
          · rw [if_neg c]; rw [if_neg c] at ih; exact ih
        | succ g ih2 =>
          intro j w M h3 hj Y3 X3 F3 e4 e5 ec ew
          refine hP2 _ _ _ ?_
          simp only [q_le (show n < 2 ^ 31 by omega) (show j < 2 ^ 31 by omega)]
          rw [if_neg (by omega), q_bit (by omega) (by omega), l.2.2.2.2.1.2]
          have m2 : s / 2 ^ j % 2 < 2 := Nat.mod_lt _ (by decide)
          simp only [q_eq (show s / 2 ^ j % 2 < 2 ^ 31 by omega) (show 1 < 2 ^ 31 by decide)]
          simp only [crsF] at ec
          simp only [wysF] at ew
          by_cases c : s / 2 ^ j % 2 = 1
          · rw [if_pos c]
            rw [if_pos c] at ec ew
            refine ⟨l.2.2.2.2.1.1, lt.1, ?_⟩
            unfold w_X1_rainNight
            rw [Y3.2.1.1.2.1, nI_add, nI_add]
            have Y4 := XLsetG Y3 (k := 5) (v := M 0 5 + 1) (Or.inl rfl)
            have G4 : Fr (x + 158) h3 (up h3 (x + 158) 5 (nI (M 0 5 + 1))) := Fr_up0 Fr_rf
            refine ⟨lt.1, ih2 (j + 1) w _ _ (by omega) Y4 (XI_thought X3 G4) (FrX_tr F3 (FrX_of G4 (by omega))) ?_ ?_ ec ew⟩
            · rw [updL_ne (by omega)]; exact e4
            · rw [updL_same]; omega
          · rw [if_neg c]
            rw [if_neg c] at ec ew
            refine ⟨l.2.2.2.2.1.1, lt.1, x_pass Y3 (n := 1) (by omega) (fun h4 Y4 F4 => ?_)⟩
            rw [q_sub (by omega), nI_l (by omega), lN_mul, nI_add]
            have e0 := nightF_0 M
            exact ih2 (j + 1) (w * (t - 1)) (nightF M) h4 (by omega) Y4 (XI_thought X3 F4) (FrX_tr F3 (FrX_of F4 (by omega))) (by omega) (by omega) ec ew
      exact K2 n 0 1 (aL A) h2 (by omega) Y2 X2 (FrX_tr F1 (FrX_of F2 (by omega))) rfl (by omega) rfl rfl
  exact K (2 ^ n) 0 h (by omega) X FrX_rf
def rainA (A : Ab) (v f n t p : Int32) : Int64 × Ab := if inR v (aL A 0 4) ∧ inR f 48 then (if n < 0 then rfL A (-4) else if nI 2 ≤ t then (if nI 7 < n then rfL A (-6) else if t ≤ nI 20 then (if inR p 2 then (frF (wyF (aL A) (ix v) (ix f) (ix n) (ix t)) (ix t ^ ix n) (ix p), A) else rfL A (-2)) else rfL A (-6)) else rfL A (-4)) else rfL A (-1)
theorem rn_args {n t : Int32} (c1 : ¬ n < 0) (c2 : nI 2 ≤ t) (c3 : ¬ nI 7 < n) (c4 : t ≤ nI 20) : ∃ a b, n = nI a ∧ t = nI b ∧ a ≤ 7 ∧ 2 ≤ b ∧ b ≤ 20 := by
  obtain ⟨a, ha, rfl⟩ := nI_of c1
  have t0 : ¬ t < 0 := fun q => by
    have h1 : (nI 2).toInt = 2 := rfl
    rw [Int32.le_iff_toInt_le] at c2
    rw [Int32.lt_iff_toInt_lt] at q
    have h3 : (0 : Int32).toInt = 0 := rfl
    omega
  obtain ⟨b, hb, rfl⟩ := nI_of t0
  rw [q_le (by decide) hb] at c2
  rw [q_lt (by decide) ha] at c3
  rw [q_le hb (by decide)] at c4
  exact ⟨a, b, rfl, rfl, by omega, c2, c4⟩
theorem x_rain (X : XI S h x A) {v f n t p : Int32} {Q : Int64 → Hp → Prop} (hQ : ∀ h', XI S h' x (rainA A v f n t p).2 → FrX x h h' → Q (rainA A v f n t p).1 h') : w_X6_rain S x v f n t p h Q := by
  have l := X.1
  have h5 := X.2.2.2.2.2.2.2.1.1.1
  unfold w_X6_rain
  unfold rainA at hQ
  refine ⟨l.1.1, x_noHead X (fun c => ?_) (fun c => ?_)⟩
  · rw [if_pos (by decide)]
    refine x_noField (fun c2 => ?_) (fun c2 => ?_)
    · rw [if_pos (by decide)]
      rw [if_pos ⟨c, c2⟩] at hQ
      by_cases k1 : n < 0
      · rw [if_pos k1]; rw [if_pos k1] at hQ
        exact x_refuseL X (by unfold rfok; decide) hQ
      rw [if_neg k1]; rw [if_neg k1] at hQ
      by_cases k2 : nI 2 ≤ t
      · rw [if_pos k2]; rw [if_pos k2] at hQ
        by_cases k3 : nI 7 < n
        · rw [if_pos k3]; rw [if_pos k3] at hQ
          exact x_refuseL X (by unfold rfok; decide) hQ
        rw [if_neg k3]; rw [if_neg k3] at hQ
        by_cases k4 : t ≤ nI 20
        · rw [if_pos k4]; rw [if_pos k4] at hQ
          by_cases k5 : p < 0
          · rw [if_pos k5]
            rw [if_neg (fun q => (in2.mp q).1 k5)] at hQ
            exact x_refuseL X (by unfold rfok; decide) hQ
          rw [if_neg k5]
          by_cases k6 : p ≤ nI 1
          · rw [if_pos k6]
            have k7 := in2.mpr ⟨k5, k6⟩
            rw [if_pos k7] at hQ
            obtain ⟨i, hi, rfl⟩ := inR_ex c (by omega)
            obtain ⟨g, hg, rfl⟩ := inR_ex c2 (by decide)
            obtain ⟨q, hq, rfl⟩ := inR_ex k7 (by decide)
            obtain ⟨a, b, rfl, rfl, ha, b2, hb⟩ := rn_args k1 k2 k3 k4
            rw [q_ix (by omega), q_ix (by omega), q_ix (by omega), q_ix (by omega), q_ix (by omega)] at hQ
            unfold w_X6_rain_c82
            intro P hP
            have K := q_upto (Pr := fun k => P (lN (b ^ k)) (nI k) h) (n := a) (by
              refine hP _ _ _ ?_
              simp only [q_le (show a < 2 ^ 31 by omega) (show a < 2 ^ 31 by omega)]
              rw [if_pos (Nat.le_refl _), l.1.2.2.2.2.2.1, l.1.2.1]
              refine ⟨l.1.1, l.2.2.2.2.1.1, x_waysOnto X hi hg ha b2 hb (fun h1 X1 F1 => ?_)⟩
              exact x_terms (wyF_lt ha hb) (tn_lt ha hb) (by omega) (hQ h1 X1 F1)) (by
              intro k hk ih
              refine hP _ _ _ ?_
              simp only [q_le (show a < 2 ^ 31 by omega) (show k < 2 ^ 31 by omega)]
              rw [if_neg (by omega), nI_l (by omega), lN_mul, nI_add, ← Nat.pow_succ]
              exact ih)
            exact K 0 (Nat.zero_le _)
          · rw [if_neg k6]
            rw [if_neg (fun q => k6 (in2.mp q).2)] at hQ
            exact x_refuseL X (by unfold rfok; decide) hQ
        · rw [if_neg k4]; rw [if_neg k4] at hQ
          exact x_refuseL X (by unfold rfok; decide) hQ
      · rw [if_neg k2]; rw [if_neg k2] at hQ
        exact x_refuseL X (by unfold rfok; decide) hQ
    · rw [if_neg (by decide)]
      rw [if_neg (fun q => c2 q.2)] at hQ
      exact x_refuseL X (Or.inl rfl) hQ
  · rw [if_neg (by decide)]
    rw [if_neg (fun q => c q.1)] at hQ
    exact x_refuseL X (Or.inl rfl) hQ
theorem y_rain (X : MI_ S h m A) {v f n t p : Int32} {Q : Int64 → Hp → Prop} (hQ : ∀ h', MI_ S h' m (rainA A v f n t p).2 → FrY m h h' → Q (rainA A v f n t p).1 h') : w_X7_rain S m v f n t p h Q := by
  have l := X.1.1
  have hnt := X.2.2.2.2.2.2.1.2
  have h5 := X.1.2.2.1
  unfold w_X7_rain
  unfold rainA at hQ
  refine ⟨l.1, y_isHead X.1 (fun c => ?_) (fun c => ?_)⟩
  · rw [if_neg (by decide)]
    refine y_isField (fun c2 => ?_) (fun c2 => ?_)
    · rw [if_neg (by decide)]
      rw [if_pos ⟨c, c2⟩] at hQ
      by_cases k1 : n < 0
      · rw [if_pos k1]; rw [if_pos k1] at hQ
        exact y_lowest X (by unfold rfok; decide) hQ
      rw [if_neg k1]; rw [if_neg k1] at hQ
      by_cases k2 : nI 2 ≤ t
      · rw [if_pos k2]; rw [if_pos k2] at hQ
        by_cases k3 : nI 7 < n
        · rw [if_pos k3]; rw [if_pos k3] at hQ
          exact y_lowest X (by unfold rfok; decide) hQ
        rw [if_neg k3]; rw [if_neg k3] at hQ
        by_cases k4 : t ≤ nI 20
        · rw [if_pos k4]; rw [if_pos k4] at hQ
          refine y_isIn (fun k5 => ?_) (fun k5 => ?_)
          · rw [if_neg (by decide)]
            have k7 := (inR_le (v := p) (n := 1) (by decide)).mp k5
            rw [if_pos k7] at hQ
            obtain ⟨i, hi, rfl⟩ := inR_ex c (by omega)
            obtain ⟨g, hg, rfl⟩ := inR_ex c2 (by decide)
            obtain ⟨q, hq, rfl⟩ := inR_ex k7 (by decide)
            obtain ⟨a, b, rfl, rfl, ha, b2, hb⟩ := rn_args k1 k2 k3 k4
            rw [q_ix (by omega), q_ix (by omega), q_ix (by omega), q_ix (by omega), q_ix (by omega)] at hQ
            have p7 := pw7 ha
            unfold w_X7_rain_c91
            intro P hP
            have K := q_upto (Pr := fun k => P (lN (b ^ k)) (nI k) h) (n := a) (by
              refine hP _ _ _ ?_
              simp only [q_le (show a < 2 ^ 31 by omega) (show a < 2 ^ 31 by omega)]
              rw [if_pos (Nat.le_refl _)]
              unfold w_X7_rain_c114
              intro P1 hP1
              have K1 : ∀ (r s : Nat) (h1 : Hp), s + r = 2 ^ a → MI_ S h1 m A → FrY m h h1 → P1 (lN (sumF (fun s => if crsF s a 0 (aL A) (5 + 2 * i) 4 = g then wysF s b a 0 1 else 0) s)) (nI s) h1 := by
                intro r
                induction r with
                | zero =>
                  intro s h1 hs X1 F1
                  refine hP1 _ _ _ ?_
                  rw [q_shl1 a (by omega)]
                  simp only [q_le (show 2 ^ a < 2 ^ 31 by omega) (show s < 2 ^ 31 by omega)]
                  rw [if_pos (by omega)]
                  have hs : s = 2 ^ a := by omega
                  subst hs
                  exact y_part (wyF_lt (L := aL A) (i := i) (f := g) ha hb) (tn_lt ha hb) (Nat.pow_pos (by omega)) (by omega) (hQ h1 X1 F1)
                | succ r ih =>
                  intro s h1 hs X1 F1
                  refine hP1 _ _ _ ?_
                  rw [q_shl1 a (by omega)]
                  simp only [q_le (show 2 ^ a < 2 ^ 31 by omega) (show s < 2 ^ 31 by omega)]
                  rw [if_neg (by omega)]
                  refine ⟨l.1, y_minds X1.1 (fun h2 T2 D2 => ?_)⟩
                  unfold w_X7_rain_c132
                  intro P2 hP2
                  have K2 : ∀ (e j w : Nat) (M : Ld) (h3 : Hp), j + e = a → TH S h3 m (aL A) M → FrD m h1 h3 → M 0 4 = aL A 0 4 → M 0 5 ≤ 999 + j → crsF s a 0 (aL A) = crsF s e j M → wysF s b a 0 1 = wysF s b e j w → P2 (lN w) (nI j) h3 := by
                    intro e
                    induction e with
                    | zero =>
                      intro j w M h3 hj T3 D3 e4 e5 ec ew
                      have hiM : i < M 0 4 := by omega
                      have b4 := (MLb T3.1 hiM).2.2.2.1
                      refine hP2 _ _ _ ?_
                      simp only [q_le (show a < 2 ^ 31 by omega) (show j < 2 ^ 31 by omega)]
                      rw [if_pos (by omega), lr6 l, q_ix (by omega), MLe T3.1 hiM (show KC 4 7 by unfold KC; omega), nI_add, lN_add, lN_add]
                      refine ⟨l.1, q_ain (la6 l) (by omega) (by decide), ?_⟩
                      simp only [q_eq (show M (5 + 2 * i) 4 < 2 ^ 31 by omega) (show g < 2 ^ 31 by omega)]
                      have ec : crsF s a 0 (aL A) = M := ec
                      have ew : wysF s b a 0 1 = w := ew
                      by_cases c : M (5 + 2 * i) 4 = g
                      · rw [if_pos c]
                        refine y_forgets T3 (fun h4 Y4 D4 => ?_)
                        have ih := ih (s + 1) h4 (by omega) (MI_mind X1 Y4 (FrD_tr D3 D4)) (FrY_tr F1 (FrY_D (FrD_tr D3 D4)))
                        simp only [sumF] at ih
                        rw [ec, ew, if_pos c] at ih; exact ih
                      · rw [if_neg c]
                        refine y_forgets T3 (fun h4 Y4 D4 => ?_)
                        have ih := ih (s + 1) h4 (by omega) (MI_mind X1 Y4 (FrD_tr D3 D4)) (FrY_tr F1 (FrY_D (FrD_tr D3 D4)))
                        simp only [sumF] at ih
                        rw [ec, ew, if_neg c] at ih; exact ih
                    | succ e ih2 =>
                      intro j w M h3 hj T3 D3 e4 e5 ec ew
                      refine hP2 _ _ _ ?_
                      simp only [q_le (show a < 2 ^ 31 by omega) (show j < 2 ^ 31 by omega)]
                      rw [if_neg (by omega)]
                      simp only [crsF] at ec
                      simp only [wysF] at ew
                      refine y_has (by omega) (by omega) (fun c => ?_) (fun c => ?_)
                      · rw [if_pos c] at ec ew
                        rw [if_neg (by decide)]
                        refine y_has (by omega) (by omega) (fun _ => ?_) (fun c' => absurd c c')
                        rw [if_neg (by decide), T3.1.2.1.1.2.1, nI_add, nI_add, lN_mul, Nat.mul_one]
                        have Y4 := MLsetG T3.1 (k := 5) (v := M 0 5 + 1) (Or.inl rfl)
                        have G4 : FrM m h3 (up h3 m (5 + 9) (nI (M 0 5 + 1))) := FrM_upg FrM_rf (by omega)
                        refine ⟨l.1, ih2 (j + 1) w _ _ (by omega) (TH_M T3 Y4 G4) (FrD_tr D3 (FrD_of G4)) ?_ ?_ ec ew⟩
                        · rw [updL_ne (by omega)]; exact e4
                        · rw [updL_same]; omega
                      · rw [if_neg c] at ec ew
                        rw [if_pos (by decide)]
                        refine y_has (by omega) (by omega) (fun c' => absurd c' c) (fun _ => ?_)
                        rw [if_pos (by decide)]
                        refine ⟨l.1, y_night T3.1 (by omega) (fun h4 Y4 F4 => ?_)⟩
                        rw [q_sub (by omega), nI_l (by omega), lN_mul, nI_add]
                        have e0 := nightF_0 M
                        exact ih2 (j + 1) (w * (b - 1)) (nightF M) h4 (by omega) (TH_M T3 Y4 F4) (FrD_tr D3 (FrD_of F4)) (by omega) (by omega) ec ew
                  exact K2 a 0 1 (aL A) h2 (by omega) T2 D2 rfl (by omega) rfl rfl
              exact K1 (2 ^ a) 0 h (by omega) X FrY_rf) (by
              intro k hk ih
              refine hP _ _ _ ?_
              simp only [q_le (show a < 2 ^ 31 by omega) (show k < 2 ^ 31 by omega)]
              rw [if_neg (by omega), nI_l (by omega), lN_mul, nI_add, ← Nat.pow_succ]
              exact ih)
            exact K 0 (Nat.zero_le _)
          · rw [if_pos (by decide)]
            rw [if_neg (fun q => k5 ((inR_le (v := p) (n := 1) (by decide)).mpr q))] at hQ
            exact y_lowest X (by unfold rfok; decide) hQ
        · rw [if_neg k4]; rw [if_neg k4] at hQ
          exact y_lowest X (by unfold rfok; decide) hQ
      · rw [if_neg k2]; rw [if_neg k2] at hQ
        exact y_lowest X (by unfold rfok; decide) hQ
    · rw [if_pos (by decide)]
      rw [if_neg (fun q => c2 q.2)] at hQ
      exact y_lowest X (Or.inl rfl) hQ
  · rw [if_pos (by decide)]
    rw [if_neg (fun q => c q.1)] at hQ
    exact y_lowest X (Or.inl rfl) hQ
theorem op_rain (H : SI S h x A) {v f n t p : Int32} {Q : Int64 → Int64 → Hp → Prop} (hQ : ∀ r A' h', SI S h' x A' → Q r r h') : w_X6_rain S x v f n t p h (fun r h1 => w_X7_rain S (x + 180) v f n t p h1 (fun r' h2 => Q r r' h2)) :=
  x_rain H.1 (fun h1 X1 F1 => y_rain (SI_m H F1) (fun h2 Y2 F2 => hQ _ _ h2 (SI_mk X1 Y2 F2)))
end RAIN
