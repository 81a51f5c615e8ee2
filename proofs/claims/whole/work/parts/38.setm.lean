/-! PURE: settles of one, meeting -/
section SETM
variable {S : St} {h : Hp} {x m : Nat} {A : Ab}
theorem x_untilSettled (X : XI S h x A) {i : Nat} (hi : i < aL A 0 4) {Q : Int32 → Hp → Prop} (hQ : ∀ h', XI S h' x A → FrX x h h' → Q (srF (fun L => decide (L (5 + 2 * i) 8 = 1)) 61 0 (aL A)) h') : w_X2_nightsUntilSettled S (x + 157) (x + 1) (nI i) h Q := by
  have l := X.1
  have hn := X.2.2.2.2.2.2.2.1.2
  have h5 := X.2.2.2.2.2.2.2.1.1.1
  unfold w_X2_nightsUntilSettled
  refine ⟨l.2.2.2.2.1.1, x_think X (fun h1 X1 Y1 F1 => ?_)⟩
  unfold w_X2_nightsUntilSettled_c8
  intro P hP
  have K : ∀ (n k : Nat) (L : Ld) (h2 : Hp), n + k = 61 → XL S h2 (x + 158) L → L 0 4 = aL A 0 4 → L 0 5 ≤ 999 + k → XI S h2 x A → FrX x h h2 → srF (fun L => decide (L (5 + 2 * i) 8 = 1)) 61 0 (aL A) = srF (fun L => decide (L (5 + 2 * i) 8 = 1)) n k L → P (nI k) h2 := by
    intro n
    induction n with
    | zero =>
      intro k L h2 hk Y e4 e5 X2 F2 er
      refine hP _ _ ?_
      simp only [q_lt (show 60 < 2 ^ 31 by decide) (show k < 2 ^ 31 by omega)]
      rw [if_pos (by omega)]
      rw [er] at hQ
      exact hQ h2 X2 F2
    | succ n ih =>
      intro k L h2 hk Y e4 e5 X2 F2 er
      refine hP _ _ ?_
      have lt := l.2.1.2.2.1
      have Hi := XLhd Y (show i < L 0 4 by omega)
      have b8 := Hi.2.2.2.2.2.2.2.2.2.2.2.2.1
      simp only [q_lt (show 60 < 2 ^ 31 by decide) (show k < 2 ^ 31 by omega)]
      rw [if_neg (by omega), l.2.2.2.2.1.2, lt.2.1.2.2.2, q_ix (by omega), (lt.2.2.2 i (by omega)).1, XHe Hi (by decide) (by decide), nI_add]
      refine ⟨l.2.2.2.2.1.1, lt.1, q_rin lt.2.2.1.2.2.2 (by omega) (by decide), Hi.1, ?_⟩
      simp only [q_eq0 (show L (5 + 2 * i) 8 < 2 ^ 31 by omega)]
      by_cases c : L (5 + 2 * i) 8 = 1
      · rw [if_neg (by omega)]
        rw [er] at hQ
        simp only [srF, c, decide_true, if_true] at hQ
        exact hQ h2 X2 F2
      · rw [if_pos (by omega)]
        refine x_pass Y (n := 1) (by omega) (fun h3 Y3 F3 => ?_)
        have e0 := nightF_0 L
        refine ih (k + 1) (nightF L) h3 (by omega) Y3 (by omega) (by omega) (XI_thought X2 F3) (FrX_tr F2 (FrX_of F3 (by omega))) ?_
        rw [er]; simp only [srF, c, decide_false]; rfl
  exact K 61 0 (aL A) h1 (by omega) Y1 rfl (by omega) X1 (FrX_of F1 (by omega)) rfl
theorem x_untilTogether (X : XI S h x A) {i f : Nat} (hi : i < aL A 0 4) (hf : f < aL A 0 4) {Q : Int32 → Hp → Prop} (hQ : ∀ h', XI S h' x A → FrX x h h' → Q (srF (fun L => decide (L (5 + 2 * i) 4 = L (5 + 2 * f) 4)) 61 0 (aL A)) h') : w_X2_nightsUntilTogether S (x + 157) (x + 1) (nI i) (nI f) h Q := by
  have l := X.1
  have hn := X.2.2.2.2.2.2.2.1.2
  have h5 := X.2.2.2.2.2.2.2.1.1.1
  unfold w_X2_nightsUntilTogether
  refine ⟨l.2.2.2.2.1.1, x_think X (fun h1 X1 Y1 F1 => ?_)⟩
  unfold w_X2_nightsUntilTogether_c9
  intro P hP
  have K : ∀ (n k : Nat) (L : Ld) (h2 : Hp), n + k = 61 → XL S h2 (x + 158) L → L 0 4 = aL A 0 4 → L 0 5 ≤ 999 + k → XI S h2 x A → FrX x h h2 → srF (fun L => decide (L (5 + 2 * i) 4 = L (5 + 2 * f) 4)) 61 0 (aL A) = srF (fun L => decide (L (5 + 2 * i) 4 = L (5 + 2 * f) 4)) n k L → P (nI k) h2 := by
    intro n
    induction n with
    | zero =>
      intro k L h2 hk Y e4 e5 X2 F2 er
      refine hP _ _ ?_
      simp only [q_lt (show 60 < 2 ^ 31 by decide) (show k < 2 ^ 31 by omega)]
      rw [if_pos (by omega)]
      rw [er] at hQ
      exact hQ h2 X2 F2
    | succ n ih =>
      intro k L h2 hk Y e4 e5 X2 F2 er
      refine hP _ _ ?_
      have lt := l.2.1.2.2.1
      have Hi := XLhd Y (show i < L 0 4 by omega)
      have b4 := Hi.2.2.2.2.2.2.2.2.1
      have Hf := XLhd Y (show f < L 0 4 by omega)
      have f4 := Hf.2.2.2.2.2.2.2.2.1
      simp only [q_lt (show 60 < 2 ^ 31 by decide) (show k < 2 ^ 31 by omega)]
      rw [if_neg (by omega), l.2.2.2.2.1.2, lt.2.1.2.2.2, q_ix (by omega), q_ix (by omega), (lt.2.2.2 i (by omega)).1, (lt.2.2.2 f (by omega)).1, XHe Hi (by decide) (by decide), XHe Hf (by decide) (by decide), nI_add]
      refine ⟨l.2.2.2.2.1.1, lt.1, q_rin lt.2.2.1.2.2.2 (by omega) (by decide), Hi.1, q_rin lt.2.2.1.2.2.2 (by omega) (by decide), Hf.1, ?_⟩
      simp only [q_eq (show L (5 + 2 * i) 4 < 2 ^ 31 by omega) (show L (5 + 2 * f) 4 < 2 ^ 31 by omega)]
      by_cases c : L (5 + 2 * i) 4 = L (5 + 2 * f) 4
      · rw [if_pos c]
        rw [er] at hQ
        simp only [srF, c, decide_true, if_true] at hQ
        exact hQ h2 X2 F2
      · rw [if_neg c]
        refine x_pass Y (n := 1) (by omega) (fun h3 Y3 F3 => ?_)
        have e0 := nightF_0 L
        refine ih (k + 1) (nightF L) h3 (by omega) Y3 (by omega) (by omega) (XI_thought X2 F3) (FrX_tr F2 (FrX_of F3 (by omega))) ?_
        rw [er]; simp only [srF, c, decide_false]; rfl
  exact K 61 0 (aL A) h1 (by omega) Y1 rfl (by omega) X1 (FrX_of F1 (by omega)) rfl
theorem y_settlesWhen (X : MI_ S h m A) {i : Nat} (hi : i < aL A 0 4) {Q : Int32 → Hp → Prop} (hQ : ∀ h', MI_ S h' m A → FrY m h h' → Q (srF (fun L => decide (L (5 + 2 * i) 8 = 1)) 61 0 (aL A)) h') : w_X7_settlesWhen S m (nI i) h Q := by
  have l := X.1.1
  have hn := X.2.2.2.2.2.2.1.2
  have h5 := X.1.2.2.1
  unfold w_X7_settlesWhen
  refine ⟨l.1, ?_⟩
  refine y_minds X.1 (fun h1 T1 D1 => ?_)
  unfold w_X7_settlesWhen_c9
  intro P hP
  have E : ∀ (M : Ld) (h2 : Hp), TH S h2 m (aL A) M → FrD m h h2 → ob S m 7 ∧ w_X7_forgets S m h2 (fun h6 => Q (srF (fun L => decide (L (5 + 2 * i) 8 = 1)) 61 0 (aL A)) h6) := by
    intro M h2 T2 D2
    exact ⟨l.1, y_forgets T2 (fun h3 Y3 D3 => hQ h3 (MI_mind X Y3 (FrD_tr D2 D3)) (FrY_D (FrD_tr D2 D3)))⟩
  have K : ∀ (n k : Nat) (L : Ld) (h2 : Hp), n + k = 61 → TH S h2 m (aL A) L → L 0 4 = aL A 0 4 → L 0 5 ≤ 999 + k → FrD m h h2 → srF (fun L => decide (L (5 + 2 * i) 8 = 1)) 61 0 (aL A) = srF (fun L => decide (L (5 + 2 * i) 8 = 1)) n k L → P (-9) (nI k) h2 := by
    intro n
    induction n with
    | zero =>
      intro k L h2 hk T2 e4 e5 D2 er
      refine hP _ _ _ ?_
      simp only [q_lt (show 60 < 2 ^ 31 by decide) (show k < 2 ^ 31 by omega)]
      rw [if_pos (by omega)]
      have := E L h2 T2 D2
      rw [er] at this
      exact this
    | succ n ih =>
      intro k L h2 hk T2 e4 e5 D2 er
      refine hP _ _ _ ?_
      have hiL : i < L 0 4 := by omega
      have b8 := (MLb T2.1 hiL).2.2.2.2.2.2.2.1
      simp only [q_lt (show 60 < 2 ^ 31 by decide) (show k < 2 ^ 31 by omega)]
      rw [if_neg (by omega), if_neg (by decide), lr10 l, q_ix (by omega), MLe T2.1 hiL (show KC 8 11 by unfold KC; omega), nI_add]
      refine ⟨l.1, q_ain (la10 l) (by omega) (by decide), ?_⟩
      simp only [q_eq (show L (5 + 2 * i) 8 < 2 ^ 31 by omega) (show 1 < 2 ^ 31 by decide)]
      by_cases c : L (5 + 2 * i) 8 = 1
      · rw [if_pos c]
        refine y_night T2.1 (by omega) (fun h3 Y3 F3 => hP _ _ _ ?_)
        have := E (nightF L) h3 (TH_M T2 Y3 F3) (FrD_tr D2 (FrD_of F3))
        rw [er] at this
        simp only [srF, c, decide_true, if_true] at this
        simp only [q_lt (show 60 < 2 ^ 31 by decide) (show k + 1 < 2 ^ 31 by omega), q_0le (show k < 2 ^ 31 by omega), if_true]
        split <;> exact this
      · rw [if_neg c]
        refine y_night T2.1 (by omega) (fun h3 Y3 F3 => ?_)
        have e0 := nightF_0 L
        refine ih (k + 1) (nightF L) h3 (by omega) (TH_M T2 Y3 F3) (by omega) (by omega) (FrD_tr D2 (FrD_of F3)) ?_
        rw [er]; simp only [srF, c, decide_false]; rfl
  exact K 61 0 (aL A) h1 (by omega) T1 rfl (by omega) D1 rfl
def meetingA (A : Ab) (v w : Int32) : Int32 × Ab := if inR v (aL A 0 4) ∧ inR w (aL A 0 4) ∧ v ≠ w then (srF (fun L => decide (L (5 + 2 * ix v) 4 = L (5 + 2 * ix w) 4)) 61 0 (aL A), A) else rfA A (-1)
theorem x_meeting (X : XI S h x A) {v w : Int32} {Q : Int32 → Hp → Prop} (hQ : ∀ h', XI S h' x (meetingA A v w).2 → FrX x h h' → Q (meetingA A v w).1 h') : w_X6_meeting S x v w h Q := by
  have l := X.1
  have h5 := X.2.2.2.2.2.2.2.1.1.1
  unfold w_X6_meeting
  unfold meetingA at hQ
  refine ⟨l.1.1, x_noPair X (fun c => ?_) (fun c => ?_)⟩
  · rw [if_pos (by decide), l.1.2.2.2.2.2.1, l.1.2.1]
    rw [if_pos c] at hQ
    obtain ⟨i, hi, rfl⟩ := inR_ex c.1 (by omega)
    obtain ⟨f, hf, rfl⟩ := inR_ex c.2.1 (by omega)
    rw [q_ix (by omega), q_ix (by omega)] at hQ
    exact ⟨l.2.2.2.2.1.1, x_untilTogether X hi hf hQ⟩
  · rw [if_neg (by decide)]
    rw [if_neg c] at hQ
    exact x_refuse X (Or.inl rfl) hQ
theorem y_meeting (X : MI_ S h m A) {v w : Int32} {Q : Int32 → Hp → Prop} (hQ : ∀ h', MI_ S h' m (meetingA A v w).2 → FrY m h h' → Q (meetingA A v w).1 h') : w_X7_meeting S m v w h Q := by
  have l := X.1.1
  have hn := X.2.2.2.2.2.2.1.2
  have h5 := X.1.2.2.1
  unfold w_X7_meeting
  unfold meetingA at hQ
  refine ⟨l.1, y_areTwo X.1 (fun c => ?_) (fun c => ?_)⟩
  · rw [if_neg (by decide)]
    rw [if_pos c] at hQ
    obtain ⟨i, hi, rfl⟩ := inR_ex c.1 (by omega)
    obtain ⟨f, hf, rfl⟩ := inR_ex c.2.1 (by omega)
    rw [q_ix (by omega), q_ix (by omega)] at hQ
    refine y_minds X.1 (fun h1 T1 D1 => ?_)
    unfold w_X7_meeting_c25
    intro P hP
    have E : ∀ (M : Ld) (h2 : Hp), TH S h2 m (aL A) M → FrD m h h2 → ob S m 7 ∧ w_X7_forgets S m h2 (fun h6 => Q (srF (fun L => decide (L (5 + 2 * i) 4 = L (5 + 2 * f) 4)) 61 0 (aL A)) h6) := by
      intro M h2 T2 D2
      exact ⟨l.1, y_forgets T2 (fun h3 Y3 D3 => hQ h3 (MI_mind X Y3 (FrD_tr D2 D3)) (FrY_D (FrD_tr D2 D3)))⟩
    have K : ∀ (n k : Nat) (L : Ld) (h2 : Hp), n + k = 61 → TH S h2 m (aL A) L → L 0 4 = aL A 0 4 → L 0 5 ≤ 999 + k → FrD m h h2 → srF (fun L => decide (L (5 + 2 * i) 4 = L (5 + 2 * f) 4)) 61 0 (aL A) = srF (fun L => decide (L (5 + 2 * i) 4 = L (5 + 2 * f) 4)) n k L → P (-9) (nI k) h2 := by
      intro n
      induction n with
      | zero =>
        intro k L h2 hk T2 e4 e5 D2 er
        refine hP _ _ _ ?_
        simp only [q_lt (show 60 < 2 ^ 31 by decide) (show k < 2 ^ 31 by omega)]
        rw [if_pos (by omega)]
        have := E L h2 T2 D2
        rw [er] at this
        exact this
      | succ n ih =>
        intro k L h2 hk T2 e4 e5 D2 er
        refine hP _ _ _ ?_
        have hiL : i < L 0 4 := by omega
        have b4 := (MLb T2.1 hiL).2.2.2.1
        have hfL : f < L 0 4 := by omega
        have f4 := (MLb T2.1 hfL).2.2.2.1
        simp only [q_lt (show 60 < 2 ^ 31 by decide) (show k < 2 ^ 31 by omega)]
        rw [if_neg (by omega), if_neg (by decide), lr6 l, q_ix (by omega), q_ix (by omega), MLe T2.1 hiL (show KC 4 7 by unfold KC; omega), MLe T2.1 hfL (show KC 4 7 by unfold KC; omega), nI_add]
        refine ⟨l.1, q_ain (la6 l) (by omega) (by decide), q_ain (la6 l) (by omega) (by decide), ?_⟩
        simp only [q_eq (show L (5 + 2 * i) 4 < 2 ^ 31 by omega) (show L (5 + 2 * f) 4 < 2 ^ 31 by omega)]
        by_cases c : L (5 + 2 * i) 4 = L (5 + 2 * f) 4
        · rw [if_pos c]
          refine y_night T2.1 (by omega) (fun h3 Y3 F3 => hP _ _ _ ?_)
          have := E (nightF L) h3 (TH_M T2 Y3 F3) (FrD_tr D2 (FrD_of F3))
          rw [er] at this
          simp only [srF, c, decide_true, if_true] at this
          simp only [q_lt (show 60 < 2 ^ 31 by decide) (show k + 1 < 2 ^ 31 by omega), q_0le (show k < 2 ^ 31 by omega), if_true]
          split <;> exact this
        · rw [if_neg c]
          refine y_night T2.1 (by omega) (fun h3 Y3 F3 => ?_)
          have e0 := nightF_0 L
          refine ih (k + 1) (nightF L) h3 (by omega) (TH_M T2 Y3 F3) (by omega) (by omega) (FrD_tr D2 (FrD_of F3)) ?_
          rw [er]; simp only [srF, c, decide_false]; rfl
    exact K 61 0 (aL A) h1 (by omega) T1 rfl (by omega) D1 rfl
  · rw [if_pos (by decide)]
    rw [if_neg c] at hQ
    exact y_no X (Or.inl rfl) hQ
theorem op_meeting (H : SI S h x A) {v w : Int32} {Q : Int32 → Int32 → Hp → Prop} (hQ : ∀ r A' h', SI S h' x A' → Q r r h') : w_X6_meeting S x v w h (fun r h1 => w_X7_meeting S (x + 180) v w h1 (fun r' h2 => Q r r' h2)) :=
  x_meeting H.1 (fun h1 X1 F1 => y_meeting (SI_m H F1) (fun h2 Y2 F2 => hQ _ _ h2 (SI_mk X1 Y2 F2)))
end SETM
