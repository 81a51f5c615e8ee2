/-! PURE: settles -/
def ntz4 (v0 v1 : Int32) : Int32 := if v0 ≤ (nI 16) then (if v0 ≤ (nI 4) then (v1 + (iushr v0 (nI 1))) else ((v1 + (nI 2)) + (iushr (iushr v0 (nI 2)) (nI 1)))) else (if (iushr v0 (nI 4)) ≤ (nI 4) then ((v1 + (nI 4)) + (iushr (iushr v0 (nI 4)) (nI 1))) else (((v1 + (nI 4)) + (nI 2)) + (iushr (iushr (iushr v0 (nI 4)) (nI 2)) (nI 1))))
def ntzV (v0 : Int32) : Int32 := if 0 < ((v0 ^^^ (-1)) &&& (v0 - (nI 1))) then (if ((v0 ^^^ (-1)) &&& (v0 - (nI 1))) ≤ (65536 : Int32) then (if ((v0 ^^^ (-1)) &&& (v0 - (nI 1))) ≤ (nI 256) then ntz4 ((v0 ^^^ (-1)) &&& (v0 - (nI 1))) (nI 1) else ntz4 (iushr ((v0 ^^^ (-1)) &&& (v0 - (nI 1))) (nI 8)) ((nI 1) + (nI 8))) else (if (iushr ((v0 ^^^ (-1)) &&& (v0 - (nI 1))) (nI 16)) ≤ (nI 256) then ntz4 (iushr ((v0 ^^^ (-1)) &&& (v0 - (nI 1))) (nI 16)) ((nI 1) + (nI 16)) else ntz4 (iushr (iushr ((v0 ^^^ (-1)) &&& (v0 - (nI 1))) (nI 16)) (nI 8)) (((nI 1) + (nI 16)) + (nI 8)))) else (((v0 ^^^ (-1)) &&& (v0 - (nI 1))) &&& (nI 32))
theorem ntz4_w {S : St} {h : Hp} {v0 v1 : Int32} {Q : Int32 → Hp → Prop} (hQ : Q (ntz4 v0 v1) h) : w_J6_numberOfTrailingZeros_0f7a4_c49 S v0 v1 h Q := by
  unfold w_J6_numberOfTrailingZeros_0f7a4_c49
  unfold ntz4 at hQ
  split
  · rename_i c
    rw [if_pos c] at hQ
    split
    · rename_i c2; rw [if_pos c2] at hQ; exact hQ
    · rename_i c2; rw [if_neg c2] at hQ; exact hQ
  · rename_i c
    rw [if_neg c] at hQ
    split
    · rename_i c2; rw [if_pos c2] at hQ; exact hQ
    · rename_i c2; rw [if_neg c2] at hQ; exact hQ
theorem ntzV_w {S : St} {h : Hp} {v : Int32} {Q : Int32 → Hp → Prop} (hQ : Q (ntzV v) h) : w_J6_numberOfTrailingZeros_0f7a4 S v h Q := by
  unfold w_J6_numberOfTrailingZeros_0f7a4
  unfold ntzV at hQ
  split
  · rename_i c
    rw [if_pos c] at hQ
    split
    · rename_i c2
      rw [if_pos c2] at hQ
      split
      · rename_i c3; rw [if_pos c3] at hQ; exact ntz4_w hQ
      · rename_i c3; rw [if_neg c3] at hQ; exact ntz4_w hQ
    · rename_i c2
      rw [if_neg c2] at hQ
      split
      · rename_i c3; rw [if_pos c3] at hQ; exact ntz4_w hQ
      · rename_i c3; rw [if_neg c3] at hQ; exact ntz4_w hQ
  · rename_i c
    rw [if_neg c] at hQ; exact hQ
def tzF (d : Nat) : Nat := if d % 2 = 1 then 0 else if d / 2 % 2 = 1 then 1 else if d / 4 % 2 = 1 then 2 else if d / 8 % 2 = 1 then 3 else 4
theorem q_ntz : ∀ d, d < 32 → d ≠ 0 → ntzV (nI d) = nI (tzF d) := by decide +kernel
def fstB (d : Nat) : Nat → Nat → Int32
  | 0, _ => -9
  | f + 1, i => if d / 2 ^ i % 2 = 1 then nI i else fstB d f (i + 1)
theorem q_fst1 : ∀ n, n < 6 → ∀ d, d < 32 → d < 2 ^ n → fstB d n 0 = if d = 0 then -9 else nI (tzF d) := by decide +kernel
def adn (a b : Nat) : Nat := a &&& (31 ^^^ b)
theorem q_adn1 : ∀ a, a < 32 → ∀ b, b < 32 → nI a &&& (nI b ^^^ (-1)) = nI (adn a b) := by decide +kernel
theorem adn_le (a b : Nat) : adn a b ≤ a := Nat.and_le_left
def dF (s : Nat) : Nat → Ld → Nat
  | 0, _ => 0
  | f + 1, L => if adn (setF (nightF L)) s = 0 then dF s f (nightF L) else adn (setF (nightF L)) s
def fstF (L : Ld) : Int32 := if dF (setF L) 60 L = 0 then -9 else nI (tzF (dF (setF L) 60 L))
theorem setF_lt {L : Ld} (h : L 0 4 ≤ 5) : setF L < 32 ∧ setF L < 2 ^ L 0 4 := by
  have h1 := bitsF_lt (fun i => decide (L (5 + 2 * i) 8 = 1)) (L 0 4)
  have h2 := pow_le32 h
  have h3 : setF L < 2 ^ L 0 4 := h1
  exact ⟨by omega, h3⟩
theorem dF_lt {s : Nat} : ∀ (f : Nat) (L : Ld), dF s f L < 2 ^ L 0 4
  | 0, L => by
    simp only [dF]; exact Nat.pow_pos (by decide)
  | f + 1, L => by
    simp only [dF]
    split
    · have := dF_lt (s := s) f (nightF L)
      rw [(nightF_0 L).1] at this
      exact this
    · have h1 := adn_le (setF (nightF L)) s
      have h2 : setF (nightF L) < 2 ^ nightF L 0 4 := bitsF_lt _ _
      rw [(nightF_0 L).1] at h2
      omega
section SETTLES
variable {S : St} {h h' : Hp} {x m b : Nat} {A : Ab} {L : Ld}
theorem x_firstSet (X : XI S h x A) {Q : Int32 → Hp → Prop} (hQ : ∀ h', XI S h' x A → FrX x h h' → Q (fstF (aL A)) h') : w_X2_firstToSettle S (x + 157) (x + 1) h Q := by
  have l := X.1
  have hn := X.2.2.2.2.2.2.2.1.2
  have h5 := X.2.2.2.2.2.2.2.1.1.1
  unfold w_X2_firstToSettle
  refine ⟨l.2.2.2.2.1.1, x_think X (fun h1 X1 Y1 F1 => ?_)⟩
  unfold w_X2_firstToSettle_c8
  intro P hP
  have K : ∀ (n k : Nat) (L : Ld) (h2 : Hp), n + k = 60 → XL S h2 (x + 158) L → L 0 4 = aL A 0 4 → L 0 5 ≤ 999 + k → XI S h2 x A → FrX x h h2 → dF (setF (aL A)) 60 (aL A) = dF (setF (aL A)) n L → P (nI k) h2 := by
    intro n
    induction n with
    | zero =>
      intro k L h2 hk Y e4 e5 X2 F2 er
      refine hP _ _ ?_
      simp only [q_le (show 60 < 2 ^ 31 by decide) (show k < 2 ^ 31 by omega)]
      rw [if_pos (by omega)]
      have := hQ h2 X2 F2
      unfold fstF at this
      have er0 : dF (setF (aL A)) 60 (aL A) = 0 := er
      rw [er0, if_pos rfl] at this
      exact this
    | succ n ih =>
      intro k L h2 hk Y e4 e5 X2 F2 er
      refine hP _ _ ?_
      have lt := l.2.1.2.2.1
      simp only [q_le (show 60 < 2 ^ 31 by decide) (show k < 2 ^ 31 by omega)]
      rw [if_neg (by omega), l.2.2.2.2.1.2, nI_add]
      refine ⟨l.2.2.2.2.1.1, lt.1, x_pass Y (n := 1) (by omega) (fun h3 Y3 F3 => ?_)⟩
      have Y3 : XL S h3 (x + 158) (nightF L) := Y3
      have e0 := nightF_0 L
      have X3 := XI_thought X2 F3
      have F4 := FrX_tr F2 (FrX_of F3 (by omega))
      refine x_setBits Y3 ⟨l.2.1.1.1, x_setBits X3.2.1 ?_⟩
      rw [q_adn1 _ (setF_lt (show nightF L 0 4 ≤ 5 by omega)).1 _ (setF_lt h5).1]
      have b1 := adn_le (setF (nightF L)) (setF (aL A))
      have b2 := (setF_lt (show nightF L 0 4 ≤ 5 by omega)).1
      simp only [q_eq0 (show adn (setF (nightF L)) (setF (aL A)) < 2 ^ 31 by omega)]
      by_cases c : adn (setF (nightF L)) (setF (aL A)) = 0
      · rw [if_pos c]
        refine ih (k + 1) (nightF L) h3 (by omega) Y3 (by omega) (by omega) X3 F4 ?_
        rw [er]; simp only [dF]; rw [if_pos c]
      · rw [if_neg c]
        refine ntzV_w ?_
        rw [q_ntz _ (by omega) c]
        have := hQ h3 X3 F4
        unfold fstF at this
        have er1 : dF (setF (aL A)) 60 (aL A) = adn (setF (nightF L)) (setF (aL A)) := by rw [er]; simp only [dF]; rw [if_neg c]
        rw [er1, if_neg c] at this
        exact this
  exact K 60 0 (aL A) h1 (by omega) Y1 rfl (by omega) X1 (FrX_of F1 (by omega)) rfl
theorem y_has {d i : Nat} (hd : d < 128) (hi : i < 7) {Q : Int32 → Hp → Prop} (h1 : d / 2 ^ i % 2 = 1 → Q (nI 1) h) (h0 : ¬ d / 2 ^ i % 2 = 1 → Q (nI 0) h) : w_X7_has S (nI d) (nI i) h Q := by
  unfold w_X7_has
  rw [q_bit hd hi]
  simp only [q_eq (show d / 2 ^ i % 2 < 2 ^ 31 by omega) (show 1 < 2 ^ 31 by decide)]
  by_cases c : d / 2 ^ i % 2 = 1
  · rw [if_pos c]; exact h1 c
  · rw [if_neg c]; exact h0 c
theorem y_fstB (X : ML_ S h m L) {d : Nat} (hd : d < 128) {Q : Int32 → Hp → Prop} (hQ : Q (fstB d (L 0 4) 0) h) : w_X7_firstToSettle_c48 S m (nI d) (nI 0) h Q := by
  have l := X.1
  have h5 := X.2.2.1
  unfold w_X7_firstToSettle_c48
  intro P hP
  have K : ∀ (n k : Nat), n + k = L 0 4 → fstB d (L 0 4) 0 = fstB d n k → P (nI k) h := by
    intro n
    induction n with
    | zero =>
      intro k hk er
      refine hP _ _ ⟨l.1, ?_⟩
      rw [X.2.1.1.1]
      simp only [q_le (show L 0 4 < 2 ^ 31 by omega) (show k < 2 ^ 31 by omega)]
      rw [if_pos (by omega)]
      rw [er] at hQ; exact hQ
    | succ n ih =>
      intro k hk er
      refine hP _ _ ⟨l.1, ?_⟩
      rw [X.2.1.1.1]
      simp only [q_le (show L 0 4 < 2 ^ 31 by omega) (show k < 2 ^ 31 by omega), nI_add]
      rw [if_neg (by omega)]
      refine y_has hd (by omega) (fun c => ?_) (fun c => ?_)
      · rw [if_neg (by decide)]
        rw [er] at hQ
        simp only [fstB] at hQ
        rw [if_pos c] at hQ; exact hQ
      · rw [if_pos (by decide)]
        refine ih (k + 1) (by omega) ?_
        rw [er]; simp only [fstB]; rw [if_neg c]
  exact K (L 0 4) 0 (by omega) rfl
theorem y_firstSet (X : MI_ S h m A) {Q : Int32 → Hp → Prop} (hQ : ∀ h', MI_ S h' m A → FrY m h h' → Q (fstF (aL A)) h') : w_X7_firstToSettle S m h Q := by
  have l := X.1.1
  have hn := X.2.2.2.2.2.2.1.2
  have h5 := X.1.2.2.1
  unfold w_X7_firstToSettle
  refine ⟨l.1, y_setBits X.1 (y_minds X.1 (fun h1 T1 D1 => ?_))⟩
  unfold w_X7_firstToSettle_c13
  intro P hP
  have E : ∀ (L : Ld) (d : Nat) (h2 : Hp), TH S h2 m (aL A) L → FrD m h h2 → dF (setF (aL A)) 60 (aL A) = d → ob S m 7 ∧ (w_X7_forgets S m h2 (fun h3 => (w_X7_firstToSettle_c48 S m (nI d) (nI 0) h3 Q))) := by
    intro L d h2 T2 D2 er
    refine ⟨l.1, y_forgets T2 (fun h3 Y3 D3 => ?_)⟩
    have dl := dF_lt (s := setF (aL A)) 60 (aL A)
    rw [er] at dl
    have p5 := pow_le32 h5
    refine y_fstB Y3 (by omega) ?_
    rw [q_fst1 _ (by omega) d (by omega) dl]
    have := hQ h3 (MI_mind X Y3 (FrD_tr D2 D3)) (FrY_D (FrD_tr D2 D3))
    unfold fstF at this
    rw [er] at this
    exact this
  have K : ∀ (n k d : Nat) (L : Ld) (h2 : Hp), n + k = 60 → TH S h2 m (aL A) L → L 0 4 = aL A 0 4 → L 0 5 ≤ 999 + k → FrD m h h2 → d < 32 → dF (setF (aL A)) 60 (aL A) = (if d = 0 then dF (setF (aL A)) n L else d) → P (nI d) (nI k) h2 := by
    intro n
    induction n with
    | zero =>
      intro k d L h2 hk T2 e4 e5 D2 hd er
      refine hP _ _ _ ?_
      simp only [q_le (show 60 < 2 ^ 31 by decide) (show k < 2 ^ 31 by omega)]
      rw [if_pos (by omega)]
      refine E L d h2 T2 D2 ?_
      rw [er]
      by_cases c : d = 0
      · rw [if_pos c, c]; rfl
      · rw [if_neg c]
    | succ n ih =>
      intro k d L h2 hk T2 e4 e5 D2 hd er
      refine hP _ _ _ ?_
      simp only [q_le (show 60 < 2 ^ 31 by decide) (show k < 2 ^ 31 by omega), q_eq0 (show d < 2 ^ 31 by omega), nI_add]
      rw [if_neg (by omega)]
      by_cases c : d = 0
      · rw [if_pos c]
        rw [if_pos c] at er
        refine ⟨l.1, y_night T2.1 (by omega) (fun h3 Y3 F3 => y_setBits Y3 ?_)⟩
        have e0 := nightF_0 L
        have b2 := (setF_lt (show nightF L 0 4 ≤ 5 by omega)).1
        have b1 := adn_le (setF (nightF L)) (setF (aL A))
        rw [q_adn1 _ b2 _ (setF_lt h5).1]
        refine ih (k + 1) _ (nightF L) h3 (by omega) (TH_M T2 Y3 F3) (by omega) (by omega) (FrD_tr D2 (FrD_of F3)) (by omega) ?_
        rw [er]; simp only [dF]
      · rw [if_neg c]
        rw [if_neg c] at er
        exact E L d h2 T2 D2 er
  exact K 60 0 0 (aL A) h1 (by omega) T1 rfl (by omega) D1 (by decide) rfl
def settlesA (A : Ab) (v : Int32) : Int32 × Ab := if v = -1 then (fstF (aL A), A) else if inR v (aL A 0 4) then (srF (fun L => decide (L (5 + 2 * ix v) 8 = 1)) 61 0 (aL A), A) else rfA A (-1)
theorem x_settles (X : XI S h x A) {v : Int32} {Q : Int32 → Hp → Prop} (hQ : ∀ h', XI S h' x (settlesA A v).2 → FrX x h h' → Q (settlesA A v).1 h') : w_X6_settles S x v h Q := by
  have l := X.1
  have h5 := X.2.2.2.2.2.2.2.1.1.1
  unfold w_X6_settles
  unfold settlesA at hQ
  rw [l.1.2.2.2.2.2.1, l.1.2.1]
  by_cases c0 : v = -1
  · rw [if_pos c0]
    rw [if_pos c0] at hQ
    exact ⟨l.1.1, l.2.2.2.2.1.1, x_firstSet X hQ⟩
  · rw [if_neg c0]
    rw [if_neg c0] at hQ
    refine ⟨l.1.1, x_noHead X (fun c => ?_) (fun c => ?_)⟩
    · rw [if_pos (by decide)]
      rw [if_pos c] at hQ
      obtain ⟨i, hi, rfl⟩ := inR_ex c (by omega)
      rw [q_ix (by omega)] at hQ
      exact ⟨l.2.2.2.2.1.1, x_untilSettled X hi hQ⟩
    · rw [if_neg (by decide)]
      rw [if_neg c] at hQ
      exact x_refuse X (Or.inl rfl) hQ
theorem q_mm1 {v : Int32} {n : Nat} (hn : n < 2 ^ 20) : ((-1 : Int32) ≤ v ∧ v ≤ nI n - nI 1) ↔ (v = -1 ∨ inR v n) := by
  have e := inR_pred (v := v) (n := n) (by omega)
  rw [show nI 0 = 0 from nI_0] at e
  have m1 : (-1 : Int32).toInt = -1 := rfl
  have z : (0 : Int32).toInt = 0 := rfl
  constructor
  · rintro ⟨h1, h2⟩
    by_cases c : v = -1
    · exact Or.inl c
    · refine Or.inr (e.mp ⟨?_, h2⟩)
      rw [Int32.le_iff_toInt_le] at h1 ⊢
      have : v.toInt ≠ -1 := fun q => c (Int32.toInt_inj.mp (q.trans m1.symm))
      omega
  · rintro (rfl | h)
    · refine ⟨Int32.le_refl _, ?_⟩
      rw [Int32.le_iff_toInt_le, q_subT (by omega) (by decide), m1]; omega
    · have := e.mpr h
      refine ⟨?_, this.2⟩
      have h1 := this.1
      rw [Int32.le_iff_toInt_le] at h1 ⊢
      omega
theorem y_settles (X : MI_ S h m A) {v : Int32} {Q : Int32 → Hp → Prop} (hQ : ∀ h', MI_ S h' m (settlesA A v).2 → FrY m h h' → Q (settlesA A v).1 h') : w_X7_settles S m v h Q := by
  have l := X.1.1
  have h5 := X.1.2.2.1
  unfold w_X7_settles
  unfold settlesA at hQ
  rw [X.1.2.1.1.1]
  refine ⟨l.1, y_isIn (fun c => ?_) (fun c => ?_)⟩
  · rw [if_neg (by decide)]
    rcases (q_mm1 (by omega)).mp c with c | c
    · rw [if_pos c] at hQ
      rw [if_neg (by rw [c]; decide)]
      exact y_firstSet X hQ
    · have c0 : ¬ v = -1 := fun q => absurd c.1 (by rw [q]; decide)
      rw [if_pos c.1]
      rw [if_neg c0, if_pos c] at hQ
      obtain ⟨i, hi, rfl⟩ := inR_ex c (by omega)
      rw [q_ix (by omega)] at hQ
      exact y_settlesWhen X hi hQ
  · rw [if_pos (by decide)]
    rw [if_neg (fun q => c ((q_mm1 (by omega)).mpr (Or.inl q))), if_neg (fun q => c ((q_mm1 (by omega)).mpr (Or.inr q)))] at hQ
    exact y_no X (Or.inl rfl) hQ
theorem op_settles (H : SI S h x A) {v : Int32} {Q : Int32 → Int32 → Hp → Prop} (hQ : ∀ r A' h', SI S h' x A' → Q r r h') : w_X6_settles S x v h (fun r h1 => w_X7_settles S (x + 180) v h1 (fun r' h2 => Q r r' h2)) :=
  x_settles H.1 (fun h1 X1 F1 => y_settles (SI_m H F1) (fun h2 Y2 F2 => hQ _ _ h2 (SI_mk X1 Y2 F2)))
end SETTLES
