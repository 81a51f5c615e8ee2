/-! PURE: whatKind, whatWord, judge, clear -/
def wsF (R : Nat → Nat) (i : Nat) : Nat → Nat → Ld → Bool
  | 0, _, _ => true
  | f + 1, k, L => if L (5 + 2 * i) 4 = R k then wsF R i f (k + 1) (nightF L) else false
section WHAT
variable {S : St} {h h' : Hp} {x m b : Nat} {A : Ab} {L : Ld}
theorem x_goesThat (X : XI S h x A) (Y : XL S h (x + 158) L) {i : Nat} (hi : i < L 0 4) (hn : L 0 5 ≤ 999) {Q : Int32 → Hp → Prop} (hQ : ∀ h', XI S h' x A → FrX x h h' → Q (if wsF (aRw A) i (aR A) 0 L = true then nI 1 else nI 0) h') : w_X2_goesThatWay S (x + 157) (nI i) (x + 178) (nI (aR A)) h Q := by
  have l := X.1
  have lt := l.2.1.2.2.1
  have w := X.2.2.2.2.2.2.2
  have r12 := w.2.2.2.2.1
  have h5 := Y.2.2.1
  unfold w_X2_goesThatWay w_X2_goesThatWay_c3
  intro P hP
  have K : ∀ (f k : Nat) (M : Ld) (h2 : Hp), f + k = aR A → XL S h2 (x + 158) M → M 0 4 = L 0 4 → M 0 5 ≤ 999 + k → XI S h2 x A → FrX x h h2 → wsF (aRw A) i (aR A) 0 L = wsF (aRw A) i f k (if k = 0 then M else nightF M) → P (nI k) h2 := by
    intro f
    induction f with
    | zero =>
      intro k M h2 hk Y2 e4 e5 X2 F2 er
      refine hP _ _ ?_
      simp only [q_le (show aR A < 2 ^ 31 by omega) (show k < 2 ^ 31 by omega)]
      rw [if_pos (by omega)]
      have := hQ h2 X2 F2
      rw [er, if_pos (by rfl)] at this
      exact this
    | succ f ih =>
      intro k M h2 hk Y2 e4 e5 X2 F2 er
      refine hP _ _ ?_
      have rk := w.2.2.2.2.2 k (by omega)
      simp only [q_le (show aR A < 2 ^ 31 by omega) (show k < 2 ^ 31 by omega)]
      rw [if_neg (by omega)]
      refine ⟨12, ⟨l.2.2.2.2.2.2.1, by decide⟩, ?_⟩
      simp only [q_le (show 12 < 2 ^ 31 by omega) (show k < 2 ^ 31 by omega)]
      rw [if_neg (by omega), l.2.2.2.2.1.2, lt.2.1.2.2.2, q_ix (by omega), q_ix (by omega), (lt.2.2.2 i (by omega)).1, nI_add]
      by_cases c0 : k = 0
      · subst c0
        have Hi := XLhd Y2 (show i < M 0 4 by omega)
        have b4 := Hi.2.2.2.2.2.2.2.2.1
        rw [if_pos (by decide), XHe Hi (by decide) (by decide), X2.2.2.2.2.2.1.2 0 (by omega)]
        refine ⟨l.2.2.2.2.1.1, lt.1, q_rin lt.2.2.1.2.2.2 (by omega) (by decide), Hi.1, q_ain l.2.2.2.2.2.2.1 (by omega) (by decide), ?_⟩
        simp only [q_eq (show M (5 + 2 * i) 4 < 2 ^ 31 by omega) (show aRw A 0 < 2 ^ 31 by omega)]
        rw [if_pos rfl] at er
        simp only [wsF] at er
        by_cases c : M (5 + 2 * i) 4 = aRw A 0
        · rw [if_pos c]
          rw [if_pos c] at er
          exact ih 1 M h2 (by omega) Y2 e4 (by omega) X2 F2 er
        · rw [if_neg c]
          rw [if_neg c] at er
          have := hQ h2 X2 F2
          rw [er, if_neg (by decide)] at this
          exact this
      · rw [if_neg (show ¬ nI k ≤ 0 by rw [← nI_0, q_le (by omega) (by decide)]; omega)]
        refine ⟨l.2.2.2.2.1.1, lt.1, x_pass Y2 (n := 1) (by omega) (fun h3 Y3 F3 => ?_)⟩
        have Y3 : XL S h3 (x + 158) (nightF M) := Y3
        have e0 := nightF_0 M
        have X3 := XI_thought X2 F3
        have F4 := FrX_tr F2 (FrX_of F3 (by omega))
        have Hi := XLhd Y3 (show i < nightF M 0 4 by omega)
        have b4 := Hi.2.2.2.2.2.2.2.2.1
        rw [XHe Hi (by decide) (by decide), X3.2.2.2.2.2.1.2 k (by omega)]
        refine ⟨q_rin lt.2.2.1.2.2.2 (by omega) (by decide), Hi.1, q_ain l.2.2.2.2.2.2.1 (by omega) (by decide), ?_⟩
        simp only [q_eq (show nightF M (5 + 2 * i) 4 < 2 ^ 31 by omega) (show aRw A k < 2 ^ 31 by omega)]
        rw [if_neg c0] at er
        simp only [wsF] at er
        by_cases c : nightF M (5 + 2 * i) 4 = aRw A k
        · rw [if_pos c]
          rw [if_pos c] at er
          exact ih (k + 1) (nightF M) h3 (by omega) Y3 (by omega) (by omega) X3 F4 er
        · rw [if_neg c]
          rw [if_neg c] at er
          have := hQ h3 X3 F4
          rw [er, if_neg (by decide)] at this
          exact this
  exact K (aR A) 0 L h (by omega) Y rfl (by omega) X FrX_rf rfl
def wbF (A : Ab) (tr i : Nat) : Nat := bitsF (fun c => wsF (aRw A) i (aR A) 0 (chF tr i c (aL A))) (chN tr)
theorem x_choices (X : XI S h x A) {tr i : Nat} (ht : tr < 3) (hi : i < aL A 0 4) {Q : Int32 → Hp → Prop} (hQ : ∀ h', XI S h' x A → FrX x h h' → Q (nI (wbF A tr i)) h') : w_X2_choicesOfWay S (x + 157) (x + 1) (nI i) (nI tr) (x + 178) (nI (aR A)) h Q := by
  have l := X.1
  have h9 := X.2.2.2.2.2.2.2.1.2
  have N : ∀ {Q : Int32 → Hp → Prop}, Q (nI (chN tr)) h → w_X2_choicesOf S (nI tr) h Q := by
    intro Q hQ
    unfold w_X2_choicesOf
    rcases (show tr = 0 ∨ tr = 1 ∨ tr = 2 by omega) with rfl | rfl | rfl
    · rw [if_pos rfl]; exact hQ
    · rw [if_neg (by decide), if_pos rfl]; exact hQ
    · rw [if_neg (by decide), if_neg (by decide), if_pos rfl]; exact hQ
  have c10 : chN tr ≤ 10 := by
    rcases (show tr = 0 ∨ tr = 1 ∨ tr = 2 by omega) with rfl | rfl | rfl <;> decide
  unfold w_X2_choicesOfWay
  refine N ?_
  unfold w_X2_choicesOfWay_c12
  intro P hP
  have K := q_upto (Pr := fun k => ∀ h1, XI S h1 x A → FrX x h h1 → P (nI (bitsF (fun c => wsF (aRw A) i (aR A) 0 (chF tr i c (aL A))) k)) (nI k) h1) (n := chN tr) (by
    intro h1 X1 F1
    refine hP _ _ _ ?_
    simp only [q_le (show chN tr < 2 ^ 31 by omega) (show chN tr < 2 ^ 31 by omega)]
    rw [if_pos (Nat.le_refl _)]; exact hQ h1 X1 F1) (by
    intro k hk ih h1 X1 F1
    refine hP _ _ _ ?_
    simp only [q_le (show chN tr < 2 ^ 31 by omega) (show k < 2 ^ 31 by omega)]
    rw [if_neg (by omega), nI_add]
    refine ⟨l.2.2.2.2.1.1, x_think X1 (fun h2 X2 Y2 F2 => x_choose l Y2 (by omega) hi (by omega) hk (fun h3 Y3 F3 => ?_))⟩
    have X3 := XI_thought X2 F3
    have F4 := FrX_tr F1 (FrX_tr (FrX_of F2 (by omega)) (FrX_of F3 (by omega)))
    refine x_goesThat X3 Y3 (by rw [chF_0]; exact hi) (by rw [chF_0]; exact h9) (fun h4 X4 F5 => ?_)
    have F6 := FrX_tr F4 F5
    have ih := ih h4 X4 F6
    simp only [bitsF] at ih
    by_cases c : wsF (aRw A) i (aR A) 0 (chF tr i k (aL A)) = true
    · rw [if_pos c, if_neg (by decide), q_or (by omega) (bitsF_lt _ k)]
      rw [if_pos c] at ih; exact ih
    · rw [if_neg c, if_pos (by decide)]
      rw [if_neg c] at ih; exact ih)
  exact K 0 (by omega) h X FrX_rf
def whatKindA (A : Ab) (v w : Int32) : Int32 × Ab := if inR v (aL A 0 4) then (if w = nI 0 then (nI (wbF A 0 (ix v)), A) else if w = nI 1 then (nI (wbF A 1 (ix v)), A) else rfA A (-2)) else rfA A (-1)
theorem x_whatKind (X : XI S h x A) {v w : Int32} {Q : Int32 → Hp → Prop} (hQ : ∀ h', XI S h' x (whatKindA A v w).2 → FrX x h h' → Q (whatKindA A v w).1 h') : w_X6_whatKind S x v w h Q := by
  have l := X.1
  have h5 := X.2.2.2.2.2.2.2.1.1.1
  unfold w_X6_whatKind
  unfold whatKindA at hQ
  refine ⟨l.1.1, x_noHead X (fun c => ?_) (fun c => ?_)⟩
  · rw [if_pos (by decide)]
    rw [if_pos c] at hQ
    obtain ⟨i, hi, rfl⟩ := inR_ex c (by omega)
    rw [q_ix (by omega)] at hQ
    rw [l.1.2.2.2.2.2.1, l.1.2.1, l.1.2.2.2.2.2.2.2.1, X.2.2.2.2.2.1.1]
    by_cases c0 : w = nI 0
    · rw [if_pos c0]
      rw [if_pos c0] at hQ
      exact ⟨l.2.2.2.2.1.1, x_choices X (by decide) hi hQ⟩
    rw [if_neg c0]
    rw [if_neg c0] at hQ
    by_cases c1 : w = nI 1
    · rw [if_pos c1]
      rw [if_pos c1] at hQ
      exact ⟨l.2.2.2.2.1.1, x_choices X (by decide) hi hQ⟩
    rw [if_neg c1]
    rw [if_neg c1] at hQ
    exact x_refuse X (by unfold rfok; decide) hQ
  · rw [if_neg (by decide)]
    rw [if_neg c] at hQ
    exact x_refuse X (by unfold rfok; decide) hQ
def whatWordA (A : Ab) (v : Int32) : Int32 × Ab := if inR v (aL A 0 4) then (nI (wbF A 2 (ix v)), A) else rfA A (-1)
theorem x_whatWord (X : XI S h x A) {v : Int32} {Q : Int32 → Hp → Prop} (hQ : ∀ h', XI S h' x (whatWordA A v).2 → FrX x h h' → Q (whatWordA A v).1 h') : w_X6_whatWord S x v h Q := by
  have l := X.1
  have h5 := X.2.2.2.2.2.2.2.1.1.1
  unfold w_X6_whatWord
  unfold whatWordA at hQ
  refine ⟨l.1.1, x_noHead X (fun c => ?_) (fun c => ?_)⟩
  · rw [if_pos (by decide)]
    rw [if_pos c] at hQ
    obtain ⟨i, hi, rfl⟩ := inR_ex c (by omega)
    rw [q_ix (by omega)] at hQ
    rw [l.1.2.2.2.2.2.1, l.1.2.1, l.1.2.2.2.2.2.2.2.1, X.2.2.2.2.2.1.1]
    exact ⟨l.2.2.2.2.1.1, x_choices X (by decide) hi hQ⟩
  · rw [if_neg (by decide)]
    rw [if_neg c] at hQ
    exact x_refuse X (by unfold rfok; decide) hQ
theorem y_wentSo {M : Ld} {i r : Nat} {R : Nat → Nat} (T : TH S h m L M) (hw : ∀ k, k < r → R k ≤ 99) (hr : r ≤ 12) (hi : i < M 0 4) (hn : M 0 5 ≤ 999) (e32 : h m 32 = nI r) (e21 : ∀ k, k < r → h (m + 21) k = nI (R k)) {Q : Int32 → Hp → Prop} (hQ : ∀ h' M', TH S h' m L M' → FrD m h h' → Q (if wsF R i r 0 M = true then nI 1 else nI 0) h') : w_X7_wentSo S m (nI i) h Q := by
  have l := T.1.1
  have h5 := T.1.2.2.1
  unfold w_X7_wentSo w_X7_wentSo_c2
  intro P hP
  have K : ∀ (f k : Nat) (N : Ld) (h2 : Hp), f + k = r → TH S h2 m L N → N 0 4 = M 0 4 → N 0 5 ≤ 999 + k → FrD m h h2 → wsF R i r 0 M = wsF R i f k N → P (nI k) h2 := by
    intro f
    induction f with
    | zero =>
      intro k N h2 hk T2 e4 e5 D2 er
      refine hP _ _ ⟨l.1, ?_⟩
      rw [D2 m 32 (by omega) (by omega) (by omega), e32]
      simp only [q_le (show r < 2 ^ 31 by omega) (show k < 2 ^ 31 by omega)]
      rw [if_pos (by omega)]
      have := hQ h2 N T2 D2
      rw [er, if_pos (by rfl)] at this
      exact this
    | succ f ih =>
      intro k N h2 hk T2 e4 e5 D2 er
      have hiN : i < N 0 4 := by omega
      have b4 := (MLb T2.1 hiN).2.2.2.1
      have rk := hw k (by omega)
      refine hP _ _ ⟨l.1, ?_⟩
      rw [D2 m 32 (by omega) (by omega) (by omega), e32]
      simp only [q_le (show r < 2 ^ 31 by omega) (show k < 2 ^ 31 by omega)]
      rw [if_neg (by omega), lr6 l, lr31 l, q_ix (by omega), q_ix (by omega), MLe T2.1 hiN (show KC 4 7 by unfold KC; omega), D2 (m + 21) k (by omega) (by omega) (by omega), e21 k (by omega), nI_add]
      refine ⟨q_ain (la6 l) (by omega) (by decide), q_ain (la31 l) (by omega) (by decide), ?_⟩
      simp only [q_eq (show N (5 + 2 * i) 4 < 2 ^ 31 by omega) (show R k < 2 ^ 31 by omega)]
      simp only [wsF] at er
      by_cases c : N (5 + 2 * i) 4 = R k
      · rw [if_pos c]
        rw [if_pos c] at er
        have e0 := nightF_0 N
        exact y_night T2.1 (by omega) (fun h3 Y3 F3 => ih (k + 1) (nightF N) h3 (by omega) (TH_M T2 Y3 F3) (by omega) (by omega) (FrD_tr D2 (FrD_of F3)) er)
      · rw [if_neg c]
        rw [if_neg c] at er
        have := hQ h2 N T2 D2
        rw [er, if_neg (by decide)] at this
        exact this
  exact K r 0 M h (by omega) T rfl (by omega) FrD_rf rfl
/-- one choice tried by the reference -/
theorem y_tries (X : MI_ S h m A) {tr i c k : Nat} (ht : tr = 0 ∧ c = 5 ∨ tr = 1 ∧ c = 6 ∨ tr = 2 ∧ c = 9) (hi : i < aL A 0 4) (hk : k < chN tr) {E : Hp → Prop} {E1 : Hp → Prop} {G : Hp → Prop} (hG : ∀ h3, ain S (m + c) (nI i) → w_X7_wentSo S m (nI i) (up h3 (m + c) i (nI k)) (fun r6 h5 => (if r6 = 0 then (w_X7_forgets S m h5 (fun h8 => E h8)) else (w_X7_forgets S m h5 (fun h9 => E1 h9)))) → G h3) (h1 : wsF (aRw A) i (aR A) 0 (chF tr i k (aL A)) = true → ∀ h', MI_ S h' m A → FrD m h h' → E1 h') (h0 : ¬ wsF (aRw A) i (aR A) 0 (chF tr i k (aL A)) = true → ∀ h', MI_ S h' m A → FrD m h h' → E h') : w_X7_minds S m h G := by
  have l := X.1.1
  have h5 := X.1.2.2.1
  have h9 := X.2.2.2.2.2.2.1.2
  have w := X.2.2.2.2.2.2
  have kk : k ≤ 9 := by
    rcases ht with ⟨rfl, _⟩ | ⟨rfl, _⟩ | ⟨rfl, _⟩ <;> (simp [chN] at hk; omega)
  refine y_minds X.1 (fun h3 T3 D3 => ?_)
  have Y : ML_ S (up h3 (m + c) i (nI k)) m (chF tr i k (aL A)) := by
    rcases ht with ⟨rfl, rfl⟩ | ⟨rfl, rfl⟩ | ⟨rfl, rfl⟩
    · simp [chN] at hk
      exact MLsetH T3.1 (c := 5) (k := 0) hi (by unfold KC; omega) (by decide) (HB_up (MLb T3.1 hi) (by omega))
    · simp [chN] at hk
      exact MLsetH T3.1 (c := 6) (k := 1) hi (by unfold KC; omega) (by decide) (HB_up (MLb T3.1 hi) (by omega))
    · simp [chN] at hk
      exact MLsetH T3.1 (c := 9) (k := 6) hi (by unfold KC; omega) (by decide) (HB_up (MLb T3.1 hi) (by omega))
  have ac : S.1 (m + c) = some (.inr (0, 5)) := by
    rcases ht with ⟨_, rfl⟩ | ⟨_, rfl⟩ | ⟨_, rfl⟩
    · exact la4 l
    · exact la5 l
    · exact la8 l
  have F4 : FrM m h3 (up h3 (m + c) i (nI k)) := FrM_up FrM_rf (by omega)
  have D4 := FrD_tr D3 (FrD_of F4)
  refine hG h3 (q_ain ac (by omega) (by decide)) (y_wentSo (TH_M T3 Y F4) w.2.2.2.2.2 w.2.2.2.2.1 (by rw [chF_0]; exact hi) (by rw [chF_0]; exact h9) (by rw [D4 _ _ (by omega) (by omega) (by omega)]; exact X.2.2.2.2.1.1) (fun q hq => by rw [D4 _ _ (by omega) (by omega) (by omega)]; exact X.2.2.2.2.1.2 q hq) (fun h5 M5 T5 D5 => ?_))
  by_cases g : wsF (aRw A) i (aR A) 0 (chF tr i k (aL A)) = true
  · rw [if_pos g, if_neg (by decide)]
    exact y_forgets T5 (fun h6 Y6 D6 => h1 g h6 (MI_mind X Y6 (FrD_tr D4 (FrD_tr D5 D6))) (FrD_tr D4 (FrD_tr D5 D6)))
  · rw [if_neg g, if_pos (by decide)]
    exact y_forgets T5 (fun h6 Y6 D6 => h0 g h6 (MI_mind X Y6 (FrD_tr D4 (FrD_tr D5 D6))) (FrD_tr D4 (FrD_tr D5 D6)))
theorem y_whatWord (X : MI_ S h m A) {v : Int32} {Q : Int32 → Hp → Prop} (hQ : ∀ h', MI_ S h' m (whatWordA A v).2 → FrY m h h' → Q (whatWordA A v).1 h') : w_X7_whatWord S m v h Q := by
  have l := X.1.1
  have h5 := X.1.2.2.1
  unfold w_X7_whatWord
  unfold whatWordA at hQ
  refine ⟨l.1, y_isHead X.1 (fun c => ?_) (fun c => ?_)⟩
  · rw [if_neg (by decide)]
    rw [if_pos c] at hQ
    obtain ⟨i, hi, rfl⟩ := inR_ex c (by omega)
    rw [q_ix (by omega)] at hQ
    unfold w_X7_whatWord_c18
    intro P hP
    have K := q_upto (Pr := fun k => ∀ h1, MI_ S h1 m A → FrD m h h1 → P (nI (bitsF (fun c => wsF (aRw A) i (aR A) 0 (chF 2 i c (aL A))) k)) (nI k) h1) (n := 5) (by
      intro h1 X1 F1
      refine hP _ _ _ ?_
      rw [if_pos (by decide)]; exact hQ h1 X1 (FrY_D F1)) (by
      intro k hk ih h1 X1 F1
      refine hP _ _ _ ?_
      simp only [q_lt (show 4 < 2 ^ 31 by omega) (show k < 2 ^ 31 by omega)]
      rw [if_neg (by omega), nI_add, lr8 l, q_ix (by omega)]
      refine ⟨l.1, y_tries X1 (tr := 2) (c := 9) (by omega) hi hk (fun h3 a b => ⟨a, b⟩) (fun g h2 X2 D2 => ?_) (fun g h2 X2 D2 => ?_)⟩
      · rw [q_or (by omega) (bitsF_lt _ k)]
        have ih := ih h2 X2 (FrD_tr F1 D2)
        simp only [bitsF] at ih
        rw [if_pos g] at ih; exact ih
      · rw [q_orz]
        have ih := ih h2 X2 (FrD_tr F1 D2)
        simp only [bitsF] at ih
        rw [if_neg g] at ih; exact ih)
    exact K 0 (by omega) h X FrD_rf
  · rw [if_pos (by decide)]
    rw [if_neg c] at hQ
    exact y_no X (by unfold rfok; decide) hQ
theorem y_whatKind (X : MI_ S h m A) {v w : Int32} {Q : Int32 → Hp → Prop} (hQ : ∀ h', MI_ S h' m (whatKindA A v w).2 → FrY m h h' → Q (whatKindA A v w).1 h') : w_X7_whatKind S m v w h Q := by
  have l := X.1.1
  have h5 := X.1.2.2.1
  unfold w_X7_whatKind
  unfold whatKindA at hQ
  refine ⟨l.1, y_isHead X.1 (fun c => ?_) (fun c => ?_)⟩
  · rw [if_neg (by decide)]
    rw [if_pos c] at hQ
    refine y_isIn (fun cw => ?_) (fun cw => ?_)
    · have cw : inR w 2 := (inR_le (n := 1) (by decide)).mp cw
      rw [if_neg (by decide)]
      obtain ⟨i, hi, rfl⟩ := inR_ex c (by omega)
      obtain ⟨e, he, rfl⟩ := inR_ex cw (by decide)
      rw [q_ix (by omega)] at hQ
      unfold w_X7_whatKind_c44 w_X7_whatKind_c87
      intro P hP
      rcases (show e = 0 ∨ e = 1 by omega) with rfl | rfl
      · rw [if_pos rfl] at hQ
        have K := q_upto (Pr := fun k => ∀ h1, MI_ S h1 m A → FrD m h h1 → P (nI (bitsF (fun c => wsF (aRw A) i (aR A) 0 (chF 0 i c (aL A))) k)) (nI k) h1) (n := 8) (by
          intro h1 X1 F1
          refine hP _ _ _ ?_
          rw [if_pos (by decide), if_pos (by decide)]; exact hQ h1 X1 (FrY_D F1)) (by
          intro k hk ih h1 X1 F1
          refine hP _ _ _ ?_
          simp only [q_le (show 8 < 2 ^ 31 by omega) (show k < 2 ^ 31 by omega)]
          rw [if_pos (by decide), if_neg (by omega), nI_add, lr4 l, q_ix (by omega)]
          refine ⟨l.1, ?_⟩
          refine y_tries X1 (tr := 0) (c := 5) (by omega) hi hk (fun h3 a b => ⟨a, l.1, b⟩) (fun g h2 X2 D2 => ?_) (fun g h2 X2 D2 => ?_)
          · rw [q_or (by omega) (bitsF_lt _ k)]
            have ih := ih h2 X2 (FrD_tr F1 D2)
            simp only [bitsF] at ih
            rw [if_pos g] at ih; exact ih
          · rw [q_orz]
            have ih := ih h2 X2 (FrD_tr F1 D2)
            simp only [bitsF] at ih
            rw [if_neg g] at ih; exact ih)
        exact K 0 (by omega) h X FrD_rf
      · rw [if_neg (by decide), if_pos rfl] at hQ
        have K := q_upto (Pr := fun k => ∀ h1, MI_ S h1 m A → FrD m h h1 → P (nI (bitsF (fun c => wsF (aRw A) i (aR A) 0 (chF 1 i c (aL A))) k)) (nI k) h1) (n := 10) (by
          intro h1 X1 F1
          refine hP _ _ _ ?_
          rw [if_neg (by decide), if_pos (by decide)]; exact hQ h1 X1 (FrY_D F1)) (by
          intro k hk ih h1 X1 F1
          refine hP _ _ _ ?_
          simp only [q_le (show 10 < 2 ^ 31 by omega) (show k < 2 ^ 31 by omega)]
          rw [if_neg (by decide), if_neg (by omega), nI_add, lr5 l, q_ix (by omega)]
          refine ⟨l.1, ?_⟩
          refine y_tries X1 (tr := 1) (c := 6) (by omega) hi hk (fun h3 a b => ⟨a, l.1, b⟩) (fun g h2 X2 D2 => ?_) (fun g h2 X2 D2 => ?_)
          · rw [q_or (by omega) (bitsF_lt _ k)]
            have ih := ih h2 X2 (FrD_tr F1 D2)
            simp only [bitsF] at ih
            rw [if_pos g] at ih; exact ih
          · rw [q_orz]
            have ih := ih h2 X2 (FrD_tr F1 D2)
            simp only [bitsF] at ih
            rw [if_neg g] at ih; exact ih)
        exact K 0 (by omega) h X FrD_rf
    · rw [if_pos (by decide)]
      have n3 : ¬ inR w 2 := fun q => cw ((inR_le (n := 1) (by decide)).mpr q)
      have hn : ∀ e, e < 2 → ¬ w = nI e := fun e he q => n3 (by rw [q]; exact (inR_nI (by omega) (by decide)).mpr he)
      rw [if_neg (hn 0 (by decide)), if_neg (hn 1 (by decide))] at hQ
      exact y_no X (by unfold rfok; decide) hQ
  · rw [if_pos (by decide)]
    rw [if_neg c] at hQ
    exact y_no X (by unfold rfok; decide) hQ
theorem op_whatKind (H : SI S h x A) {v w : Int32} {Q : Int32 → Int32 → Hp → Prop} (hQ : ∀ r A' h', SI S h' x A' → Q r r h') : w_X6_whatKind S x v w h (fun r h1 => w_X7_whatKind S (x + 180) v w h1 (fun r' h2 => Q r r' h2)) :=
  x_whatKind H.1 (fun h1 X1 F1 => y_whatKind (SI_m H F1) (fun h2 Y2 F2 => hQ _ _ h2 (SI_mk X1 Y2 F2)))
theorem op_whatWord (H : SI S h x A) {v : Int32} {Q : Int32 → Int32 → Hp → Prop} (hQ : ∀ r A' h', SI S h' x A' → Q r r h') : w_X6_whatWord S x v h (fun r h1 => w_X7_whatWord S (x + 180) v h1 (fun r' h2 => Q r r' h2)) :=
  x_whatWord H.1 (fun h1 X1 F1 => y_whatWord (SI_m H F1) (fun h2 Y2 F2 => hQ _ _ h2 (SI_mk X1 Y2 F2)))
end WHAT
