/-! PURE: holds, wallFor -/
/-- the first number from k on that is so; -9 -/
def fsF (p : Nat → Bool) : Nat → Nat → Int32
  | 0, _ => -9
  | f + 1, k => if p k = true then nI k else fsF p f (k + 1)
/-- one comes to a field in one of the next nights -/
def cmF (i f : Nat) : Nat → Ld → Bool
  | 0, _ => false
  | n + 1, L => decide (nightF L (5 + 2 * i) 4 = f) || cmF i f n (nightF L)
section HOLDS
variable {S : St} {h : Hp} {x m : Nat} {A : Ab}
theorem x_leastWall (X : XI S h x A) {i f n : Nat} (hi : i < aL A 0 4) (hf : f < 48) (hn : n ≤ 60) {Q : Int32 → Hp → Prop} (hQ : ∀ h', XI S h' x A → FrX x h h' → Q (fsF (fun v => !(cmF i f n (updL (aL A) 1 f v))) 10 0) h') : w_X2_leastWallThatHolds S (x + 157) (x + 1) (nI i) (nI f) (nI n) h Q := by
  have l := X.1
  have h5 := X.2.2.2.2.2.2.2.1.1.1
  have h9 := X.2.2.2.2.2.2.2.1.2
  have lt := l.2.1.2.2.1
  have o2 := l.2.2.2.2.1.1
  unfold w_X2_leastWallThatHolds w_X2_leastWallThatHolds_c3
  intro P hP
  have K : ∀ (g k : Nat) (h1 : Hp), k + g = 10 → XI S h1 x A → FrX x h h1 → fsF (fun v => !(cmF i f n (updL (aL A) 1 f v))) 10 0 = fsF (fun v => !(cmF i f n (updL (aL A) 1 f v))) g k → P (nI k) h1 := by
    intro g
    induction g with
    | zero =>
      intro k h1 hk X1 F1 er
      refine hP _ _ ?_
      simp only [q_lt (show 9 < 2 ^ 31 by omega) (show k < 2 ^ 31 by omega)]
      rw [if_pos (by omega)]
      rw [er] at hQ
      exact hQ h1 X1 F1
    | succ g ih =>
      intro k h1 hk X1 F1 er
      refine hP _ _ ?_
      simp only [q_lt (show 9 < 2 ^ 31 by omega) (show k < 2 ^ 31 by omega)]
      rw [if_neg (by omega)]
      refine ⟨o2, x_think X1 (fun h2 X2 Y2 F2 => ?_)⟩
      rw [l.2.2.2.2.1.2, lt.2.1.1, q_ix (by omega)]
      refine ⟨lt.1, q_ain lt.2.2.1.1 hf (by decide), ?_⟩
      have Y3 := XLsetF Y2 (o := 1) (f := f) (v := k) (Or.inl rfl) hf (by omega)
      have F3 : Fr (x + 158) h2 (up h2 (x + 158 + 1) f (nI k)) := Fr_up Fr_rf (by decide)
      have e4 : updL (aL A) 1 f k 0 4 = aL A 0 4 := updL_ne (by omega)
      have e5 : updL (aL A) 1 f k 0 5 = aL A 0 5 := updL_ne (by omega)
      generalize up h2 (x + 158 + 1) f (nI k) = h3 at *
      have FF := FrX_tr F1 (FrX_tr (FrX_of F2 (by omega)) (FrX_of F3 (by omega)))
      have X3 := XI_thought X2 F3
      unfold w_X2_leastWallThatHolds_c33
      intro P2 hP2
      -- held, or not
      have D : ∀ (h4 : Hp), cmF i f n (updL (aL A) 1 f k) = true → XI S h4 x A → FrX x h h4 → P (nI k + nI 1) h4 := by
        intro h4 c X4 F4
        rw [nI_add]
        refine ih (k + 1) h4 (by omega) X4 F4 ?_
        rw [er]; simp [fsF, c]
      have E : ∀ (h4 : Hp), cmF i f n (updL (aL A) 1 f k) = false → XI S h4 x A → FrX x h h4 → Q (nI k) h4 := by
        intro h4 c X4 F4
        have := hQ h4 X4 F4
        rw [er] at this
        simp [fsF, c] at this
        exact this
      have K2 : ∀ (j t : Nat) (M : Ld) (h4 : Hp), t + j = n → XL S h4 (x + 158) M → M 0 4 = aL A 0 4 → M 0 5 ≤ 999 + t → XI S h4 x A → FrX x h h4 → cmF i f n (updL (aL A) 1 f k) = cmF i f j M → P2 (nI 1) (nI t) h4 := by
        intro j
        induction j with
        | zero =>
          intro t M h4 ht Y4 m4 m5 X4 F4 ec
          refine hP2 _ _ _ ?_
          simp only [q_le (show n < 2 ^ 31 by omega) (show t < 2 ^ 31 by omega)]
          rw [if_pos (by omega), if_neg (by decide)]
          exact E h4 ec X4 F4
        | succ j ih2 =>
          intro t M h4 ht Y4 m4 m5 X4 F4 ec
          refine hP2 _ _ _ ?_
          simp only [q_le (show n < 2 ^ 31 by omega) (show t < 2 ^ 31 by omega)]
          rw [if_neg (by omega), if_neg (by decide), l.2.2.2.2.1.2]
          refine ⟨o2, lt.1, x_pass Y4 (n := 1) (by omega) (fun h6 Y6 F6 => ?_)⟩
          have z := nightF_0 M
          have H6 := XLhd Y6 (show i < nightF M 0 4 by omega)
          have b4 := H6.2.2.2.2.2.2.2.2.1
          have b4 : nightF M (5 + 2 * i) 4 ≤ 47 := b4
          rw [lt.2.1.2.2.2, q_ix (by omega), (lt.2.2.2 i (by omega)).1, XHe H6 (by decide) (by decide)]
          refine ⟨q_rin lt.2.2.1.2.2.2 (by omega) (by decide), H6.1, ?_⟩
          rw [show nightsF 1 M = nightF M from rfl]
          simp only [q_eq (show nightF M (5 + 2 * i) 4 < 2 ^ 31 by omega) (show f < 2 ^ 31 by omega), nI_add]
          have X6 := XI_thought X4 F6
          have F7 := FrX_tr F4 (FrX_of F6 (by omega))
          by_cases c : nightF M (5 + 2 * i) 4 = f
          · rw [if_pos c]
            refine hP2 _ _ _ ?_
            have d := D h6 (by rw [ec]; simp [cmF, c]) X6 F7
            simp only [nI_0, if_true]
            split <;> exact d
          · rw [if_neg c]
            refine ih2 (t + 1) (nightF M) h6 (by omega) Y6 (by omega) (by omega) X6 F7 ?_
            rw [ec]; simp [cmF, c]
      exact K2 n 0 _ _ (by omega) Y3 e4 (by omega) X3 FF rfl
  exact K 10 0 h (by omega) X FrX_rf rfl
def holdsA (A : Ab) (v w n : Int32) : Int32 × Ab := if ckN (inR v (aL A 0 4) ∧ inR w 48) n 1 60 = 0 then (fsF (fun q => !(cmF (ix v) (ix w) (ix n) (updL (aL A) 1 (ix w) q))) 10 0, A) else rfA A (ckN (inR v (aL A 0 4) ∧ inR w 48) n 1 60)
theorem x_holds (X : XI S h x A) {v w n : Int32} {Q : Int32 → Hp → Prop} (hQ : ∀ h', XI S h' x (holdsA A v w n).2 → FrX x h h' → Q (holdsA A v w n).1 h') : w_X6_holds S x v w n h Q := by
  have l := X.1
  have h5 := X.2.2.2.2.2.2.2.1.1.1
  unfold w_X6_holds
  unfold holdsA at hQ
  have o2 := l.2.2.2.2.1.1
  have T : ∀ nb : Int32, (nb = 0 ↔ (inR v (aL A 0 4) ∧ inR w 48)) → w_X6_faultOfNumber S nb n (nI 1) (nI 60) h (fun r9 h8 => (if r9 = 0 then (ob S (S.2 x 5) 2 ∧ (w_X2_leastWallThatHolds S (S.2 x 5) (S.2 x 0) v w n h8 (fun r13 h12 => (Q r13 h12)))) else (w_X6_refuse S x r9 h8 (fun r15 h14 => (Q r15 h14))))) := by
    intro nb hnb
    refine x_faultN ?_
    rw [ckN_iff hnb]
    by_cases g : ckN (inR v (aL A 0 4) ∧ inR w 48) n 1 60 = 0
    · rw [if_pos g]
      rw [if_pos g] at hQ
      obtain ⟨⟨g1, g2⟩, g3⟩ := ckN_0 g
      obtain ⟨i, hi, rfl⟩ := inR_ex g1 (by omega)
      obtain ⟨f, hf, rfl⟩ := inR_ex g2 (by decide)
      obtain ⟨j, hj1, hj, rfl⟩ := fN_0 (by decide) (by decide) g3
      rw [q_ix (by omega), q_ix (by omega), q_ix (by omega)] at hQ
      rw [l.1.2.2.2.2.2.1, l.1.2.1]
      exact ⟨o2, x_leastWall X hi hf hj hQ⟩
    · rw [if_neg g]
      rw [if_neg g] at hQ
      exact x_refuse X (rf_of (ckN_c _ _ _ _) g) hQ
  refine ⟨l.1.1, x_noHead X (fun c => ?_) (fun c => ?_)⟩
  · rw [if_pos (by decide)]
    refine x_noField (fun c2 => ?_) (fun c2 => ?_)
    · rw [if_pos (by decide)]; exact T _ ⟨fun _ => ⟨c, c2⟩, fun _ => nI_0⟩
    · rw [if_neg (by decide)]; exact T _ ⟨fun q => absurd q (by decide), fun q => absurd q.2 c2⟩
  · rw [if_neg (by decide)]; exact T _ ⟨fun q => absurd q (by decide), fun q => absurd q.1 c⟩
theorem y_comesTo {L M : Ld} (T : TH S h m L M) {i f n : Nat} (hi : i < M 0 4) (hf : f < 48) (hn : M 0 5 + n < 2 ^ 29) {Q : Int32 → Hp → Prop} (hQ : ∀ (h' : Hp) (M' : Ld), TH S h' m L M' → FrM m h h' → Q (if cmF i f n M = true then nI 1 else nI 0) h') : w_X7_comesTo S m (nI i) (nI f) (nI n) h Q := by
  have l := T.1.1
  have hM5 := T.1.2.2.1
  unfold w_X7_comesTo w_X7_comesTo_c6
  intro P hP
  have K2 : ∀ (j t : Nat) (M' : Ld) (h4 : Hp), t + j = n → TH S h4 m L M' → M' 0 4 = M 0 4 → M' 0 5 = M 0 5 + t → FrM m h h4 → cmF i f n M = cmF i f j M' → P (nI 0) (nI t) h4 := by
    intro j
    induction j with
    | zero =>
      intro t M' h4 ht T4 m4 m5 F4 ec
      refine hP _ _ _ ?_
      simp only [q_le (show n < 2 ^ 31 by omega) (show t < 2 ^ 31 by omega)]
      rw [if_pos (by omega)]
      have := hQ h4 M' T4 F4
      rw [ec, if_neg (by simp [cmF])] at this
      exact ⟨Or.inl rfl, this⟩
    | succ j ih2 =>
      intro t M' h4 ht T4 m4 m5 F4 ec
      refine hP _ _ _ ?_
      simp only [q_le (show n < 2 ^ 31 by omega) (show t < 2 ^ 31 by omega)]
      rw [if_neg (by omega), if_pos (by decide)]
      refine ⟨l.1, y_night T4.1 (by omega) (fun h5 Y5 F5 => ?_)⟩
      have z := nightF_0 M'
      have hi5 : i < nightF M' 0 4 := by omega
      have b4 := (MLb Y5 hi5).2.2.2.1
      rw [lr6 l, q_ix (by omega), MLe Y5 hi5 (show KC 4 7 by unfold KC; omega), nI_add]
      refine ⟨q_ain (la6 l) (by omega) (by decide), ?_⟩
      simp only [q_eq (show nightF M' (5 + 2 * i) 4 < 2 ^ 31 by omega) (show f < 2 ^ 31 by omega)]
      by_cases c : nightF M' (5 + 2 * i) 4 = f
      · rw [if_pos c]
        refine hP _ _ _ ?_
        have := hQ h5 (nightF M') (TH_M T4 Y5 F5) (FrM_tr F4 F5)
        rw [ec, if_pos (by simp [cmF, c])] at this
        split
        · exact ⟨Or.inr rfl, this⟩
        · rw [if_neg (by decide)]; exact ⟨Or.inr rfl, this⟩
      · rw [if_neg c]
        refine ih2 (t + 1) (nightF M') h5 (by omega) (TH_M T4 Y5 F5) (by omega) (by omega) (FrM_tr F4 F5) ?_
        rw [ec]; simp [cmF, c]
  exact K2 n 0 M h (by omega) T rfl (by omega) FrM_rf rfl
theorem y_holds (X : MI_ S h m A) {v w n : Int32} {Q : Int32 → Hp → Prop} (hQ : ∀ h', MI_ S h' m (holdsA A v w n).2 → FrY m h h' → Q (holdsA A v w n).1 h') : w_X7_holds S m v w n h Q := by
  have l := X.1.1
  have h9 := X.2.2.2.2.2.2.1.2
  have h5 := X.1.2.2.1
  unfold w_X7_holds
  unfold holdsA at hQ
  refine ⟨l.1, y_isHead X.1 (fun c => ?_) (fun c => ?_)⟩
  · rw [if_neg (by decide)]
    refine y_isField (fun c2 => ?_) (fun c2 => ?_)
    · rw [if_neg (by decide)]
      refine y_bound ?_
      have e : ckN (inR v (aL A 0 4) ∧ inR w 48) n 1 60 = fN n 1 60 := by unfold ckN; rw [if_pos ⟨c, c2⟩]
      rw [e] at hQ
      by_cases g : fN n 1 60 = 0
      · rw [if_pos g]
        rw [if_pos g] at hQ
        obtain ⟨i, hi, rfl⟩ := inR_ex c (by omega)
        obtain ⟨f, hf, rfl⟩ := inR_ex c2 (by decide)
        obtain ⟨j, hj1, hj, rfl⟩ := fN_0 (by decide) (by decide) g
        rw [q_ix (by omega), q_ix (by omega), q_ix (by omega)] at hQ
        unfold w_X7_holds_c48
        intro P hP
        have K : ∀ (k : Nat) (h1 : Hp), k ≤ 10 → MI_ S h1 m A → FrY m h h1 → P (fsF (fun q => !(cmF i f j (updL (aL A) 1 f q))) (10 - k) k) (nI k - nI 1) h1 := by
          intro k
          induction k with
          | zero =>
            intro h1 _ X1 F1
            refine hP _ _ _ ?_
            rw [if_pos (by decide)]
            exact hQ h1 X1 F1
          | succ k ih =>
            intro h1 hk X1 F1
            refine hP _ _ _ ?_
            rw [q_sub (show 1 ≤ k + 1 by omega), show k + 1 - 1 = k from rfl]
            simp only [q_lt0 (show k < 2 ^ 31 by omega), if_false]
            refine ⟨l.1, y_minds X1.1 (fun h2 T2 D2 => ?_)⟩
            rw [lr1 l, q_ix (by omega)]
            have Y3 := MLsetF T2.1 (o := 1) (f := f) (v := k) (Or.inl rfl) hf (by omega)
            have F3 : FrM m h2 (up h2 (m + 2) f (nI k)) := FrM_up FrM_rf (by decide)
            have T3 := TH_M T2 Y3 F3
            have ek : nI k + (-1) = nI k - nI 1 := by rw [show nI 1 = 1 from rfl]; grind
            refine ⟨q_ain (la1 l) hf (by decide), y_comesTo (n := j) T3 (by rw [updL_ne (by omega)]; exact hi) hf (by rw [updL_ne (by omega)]; omega) (fun h4 M' T4 F4 => ?_)⟩
            have DD := FrD_tr D2 (FrD_tr (FrD_of F3) (FrD_of F4))
            have es : fsF (fun q => !(cmF i f j (updL (aL A) 1 f q))) (10 - k) k = if cmF i f j (updL (aL A) 1 f k) = true then fsF (fun q => !(cmF i f j (updL (aL A) 1 f q))) (10 - (k + 1)) (k + 1) else nI k := by
              rw [show 10 - k = (10 - (k + 1)) + 1 by omega]
              simp only [fsF]
              by_cases c9 : cmF i f j (updL (aL A) 1 f k) = true <;> simp [c9]
            by_cases cc : cmF i f j (updL (aL A) 1 f k) = true
            · rw [if_pos cc, if_neg (by decide)]
              rw [if_pos cc] at es
              refine y_forgets T4 (fun h5 Y5 D5 => ?_)
              have := ih h5 (by omega) (MI_mind X1 Y5 (FrD_tr DD D5)) (FrY_tr F1 (FrY_D (FrD_tr DD D5)))
              rw [es] at this
              rw [ek]; exact this
            · rw [if_neg cc, if_pos (by decide)]
              rw [if_neg cc] at es
              refine y_forgets T4 (fun h5 Y5 D5 => ?_)
              have := ih h5 (by omega) (MI_mind X1 Y5 (FrD_tr DD D5)) (FrY_tr F1 (FrY_D (FrD_tr DD D5)))
              rw [es] at this
              rw [ek]; exact this
        exact K 10 h (by omega) X FrY_rf
      · rw [if_neg g]
        rw [if_neg g] at hQ
        exact y_no X (rf_of (fN_c _ _ _) g) hQ
    · rw [if_pos (by decide)]
      have e : ckN (inR v (aL A 0 4) ∧ inR w 48) n 1 60 = -1 := by unfold ckN; rw [if_neg (fun q => c2 q.2)]
      rw [e, if_neg (by decide)] at hQ
      exact y_no X (Or.inl rfl) hQ
  · rw [if_pos (by decide)]
    have e : ckN (inR v (aL A 0 4) ∧ inR w 48) n 1 60 = -1 := by unfold ckN; rw [if_neg (fun q => c q.1)]
    rw [e, if_neg (by decide)] at hQ
    exact y_no X (Or.inl rfl) hQ
theorem op_holds (H : SI S h x A) {v w n : Int32} {Q : Int32 → Int32 → Hp → Prop} (hQ : ∀ r A' h', SI S h' x A' → Q r r h') : w_X6_holds S x v w n h (fun r h1 => w_X7_holds S (x + 180) v w n h1 (fun r' h2 => Q r r' h2)) :=
  x_holds H.1 (fun h1 X1 F1 => y_holds (SI_m H F1) (fun h2 Y2 F2 => hQ _ _ h2 (SI_mk X1 Y2 F2)))
/-- wallFor -/
def wallA (A : Ab) (v w n : Int32) : Int32 × Ab := if ckN (inR v (aL A 0 4) ∧ inR w 48) n 0 30 = 0 then (fsF (fun q => decide (nightsF (ix n) (updL (aL A) 1 q 9) (5 + 2 * ix v) 4 = ix w)) 48 0, A) else rfA A (ckN (inR v (aL A 0 4) ∧ inR w 48) n 0 30)
theorem x_fieldToWall (X : XI S h x A) {i f n : Nat} (hi : i < aL A 0 4) (hf : f < 48) (hn : n ≤ 60) {Q : Int32 → Hp → Prop} (hQ : ∀ h', XI S h' x A → FrX x h h' → Q (fsF (fun q => decide (nightsF n (updL (aL A) 1 q 9) (5 + 2 * i) 4 = f)) 48 0) h') : w_X2_fieldToWall S (x + 157) (x + 1) (nI i) (nI f) (nI n) h Q := by
  have l := X.1
  have h5 := X.2.2.2.2.2.2.2.1.1.1
  have h9 := X.2.2.2.2.2.2.2.1.2
  have lt := l.2.1.2.2.1
  have o2 := l.2.2.2.2.1.1
  unfold w_X2_fieldToWall w_X2_fieldToWall_c3
  intro P hP
  have K : ∀ (g k : Nat) (h1 : Hp), k + g = 48 → XI S h1 x A → FrX x h h1 → fsF (fun q => decide (nightsF n (updL (aL A) 1 q 9) (5 + 2 * i) 4 = f)) 48 0 = fsF (fun q => decide (nightsF n (updL (aL A) 1 q 9) (5 + 2 * i) 4 = f)) g k → P (nI k) h1 := by
    intro g
    induction g with
    | zero =>
      intro k h1 hk X1 F1 er
      refine hP _ _ ?_
      simp only [q_le (show 48 < 2 ^ 31 by omega) (show k < 2 ^ 31 by omega)]
      rw [if_pos (by omega)]
      rw [er] at hQ
      exact hQ h1 X1 F1
    | succ g ih =>
      intro k h1 hk X1 F1 er
      refine hP _ _ ?_
      simp only [q_le (show 48 < 2 ^ 31 by omega) (show k < 2 ^ 31 by omega), nI_add]
      rw [if_neg (by omega)]
      refine ⟨o2, x_think X1 (fun h2 X2 Y2 F2 => ?_)⟩
      rw [l.2.2.2.2.1.2, lt.2.1.1, q_ix (by omega)]
      refine ⟨lt.1, q_ain lt.2.2.1.1 (by omega) (by decide), ?_⟩
      have Y3 := XLsetF Y2 (o := 1) (f := k) (v := 9) (Or.inl rfl) (by omega) (by omega)
      have F3 : Fr (x + 158) h2 (up h2 (x + 158 + 1) k (nI 9)) := Fr_up Fr_rf (by decide)
      have e4 : updL (aL A) 1 k 9 0 4 = aL A 0 4 := updL_ne (by omega)
      have e5 : updL (aL A) 1 k 9 0 5 = aL A 0 5 := updL_ne (by omega)
      refine x_pass Y3 (by omega) (fun h6 Y6 F6 => ?_)
      have z := nightsF_0 n (updL (aL A) 1 k 9)
      have H6 := XLhd Y6 (show i < nightsF n (updL (aL A) 1 k 9) 0 4 by omega)
      have b4 := H6.2.2.2.2.2.2.2.2.1
      rw [lt.2.1.2.2.2, q_ix (by omega), (lt.2.2.2 i (by omega)).1, XHe H6 (by decide) (by decide)]
      refine ⟨q_rin lt.2.2.1.2.2.2 (by omega) (by decide), H6.1, ?_⟩
      simp only [q_eq (show nightsF n (updL (aL A) 1 k 9) (5 + 2 * i) 4 < 2 ^ 31 by omega) (show f < 2 ^ 31 by omega)]
      have X6 := XI_thought (XI_thought X2 F3) F6
      have F7 := FrX_tr F1 (FrX_tr (FrX_of F2 (by omega)) (FrX_tr (FrX_of F3 (by omega)) (FrX_of F6 (by omega))))
      by_cases c : nightsF n (updL (aL A) 1 k 9) (5 + 2 * i) 4 = f
      · rw [if_pos c]
        have := hQ h6 X6 F7
        rw [er] at this
        simp [fsF, c] at this
        exact this
      · rw [if_neg c]
        refine ih (k + 1) h6 (by omega) X6 F7 ?_
        rw [er]; simp [fsF, c]
  exact K 48 0 h (by omega) X FrX_rf rfl
theorem x_wallFor (X : XI S h x A) {v w n : Int32} {Q : Int32 → Hp → Prop} (hQ : ∀ h', XI S h' x (wallA A v w n).2 → FrX x h h' → Q (wallA A v w n).1 h') : w_X6_wallFor S x v w n h Q := by
  have l := X.1
  have h5 := X.2.2.2.2.2.2.2.1.1.1
  unfold w_X6_wallFor
  unfold wallA at hQ
  have o2 := l.2.2.2.2.1.1
  have T : ∀ nb : Int32, (nb = 0 ↔ (inR v (aL A 0 4) ∧ inR w 48)) → w_X6_faultOfNumber S nb n (nI 0) (nI 30) h (fun r9 h8 => (if r9 = 0 then (ob S (S.2 x 5) 2 ∧ (w_X2_fieldToWall S (S.2 x 5) (S.2 x 0) v w n h8 (fun r13 h12 => (Q r13 h12)))) else (w_X6_refuse S x r9 h8 (fun r15 h14 => (Q r15 h14))))) := by
    intro nb hnb
    refine x_faultN ?_
    rw [ckN_iff hnb]
    by_cases g : ckN (inR v (aL A 0 4) ∧ inR w 48) n 0 30 = 0
    · rw [if_pos g]
      rw [if_pos g] at hQ
      obtain ⟨⟨g1, g2⟩, g3⟩ := ckN_0 g
      obtain ⟨i, hi, rfl⟩ := inR_ex g1 (by omega)
      obtain ⟨f, hf, rfl⟩ := inR_ex g2 (by decide)
      obtain ⟨j, hj1, hj, rfl⟩ := fN_0 (by decide) (by decide) g3
      rw [q_ix (by omega), q_ix (by omega), q_ix (by omega)] at hQ
      rw [l.1.2.2.2.2.2.1, l.1.2.1]
      exact ⟨o2, x_fieldToWall X hi hf (by omega) hQ⟩
    · rw [if_neg g]
      rw [if_neg g] at hQ
      exact x_refuse X (rf_of (ckN_c _ _ _ _) g) hQ
  refine ⟨l.1.1, x_noHead X (fun c => ?_) (fun c => ?_)⟩
  · rw [if_pos (by decide)]
    refine x_noField (fun c2 => ?_) (fun c2 => ?_)
    · rw [if_pos (by decide)]; exact T _ ⟨fun _ => ⟨c, c2⟩, fun _ => nI_0⟩
    · rw [if_neg (by decide)]; exact T _ ⟨fun q => absurd q (by decide), fun q => absurd q.2 c2⟩
  · rw [if_neg (by decide)]; exact T _ ⟨fun q => absurd q (by decide), fun q => absurd q.1 c⟩
theorem y_wallFor (X : MI_ S h m A) {v w n : Int32} {Q : Int32 → Hp → Prop} (hQ : ∀ h', MI_ S h' m (wallA A v w n).2 → FrY m h h' → Q (wallA A v w n).1 h') : w_X7_wallFor S m v w n h Q := by
  have l := X.1.1
  have h9 := X.2.2.2.2.2.2.1.2
  have h5 := X.1.2.2.1
  unfold w_X7_wallFor
  unfold wallA at hQ
  refine ⟨l.1, y_isHead X.1 (fun c => ?_) (fun c => ?_)⟩
  · rw [if_neg (by decide)]
    refine y_isField (fun c2 => ?_) (fun c2 => ?_)
    · rw [if_neg (by decide)]
      refine y_bound ?_
      have e : ckN (inR v (aL A 0 4) ∧ inR w 48) n 0 30 = fN n 0 30 := by unfold ckN; rw [if_pos ⟨c, c2⟩]
      rw [e] at hQ
      by_cases g : fN n 0 30 = 0
      · rw [if_pos g]
        rw [if_pos g] at hQ
        obtain ⟨i, hi, rfl⟩ := inR_ex c (by omega)
        obtain ⟨f, hf, rfl⟩ := inR_ex c2 (by decide)
        obtain ⟨j, hj1, hj, rfl⟩ := fN_0 (by decide) (by decide) g
        rw [q_ix (by omega), q_ix (by omega), q_ix (by omega)] at hQ
        unfold w_X7_wallFor_c47
        intro P hP
        have K : ∀ (g k : Nat) (h1 : Hp), k + g = 48 → MI_ S h1 m A → FrY m h h1 → fsF (fun q => decide (nightsF j (updL (aL A) 1 q 9) (5 + 2 * i) 4 = f)) 48 0 = fsF (fun q => decide (nightsF j (updL (aL A) 1 q 9) (5 + 2 * i) 4 = f)) g k → P (-9) (nI k) h1 := by
          intro g
          induction g with
          | zero =>
            intro k h1 hk X1 F1 er
            refine hP _ _ _ ?_
            simp only [q_le (show 48 < 2 ^ 31 by omega) (show k < 2 ^ 31 by omega)]
            rw [if_pos (by omega)]
            rw [er] at hQ
            exact hQ h1 X1 F1
          | succ g ih =>
            intro k h1 hk X1 F1 er
            refine hP _ _ _ ?_
            simp only [q_le (show 48 < 2 ^ 31 by omega) (show k < 2 ^ 31 by omega), nI_add]
            rw [if_neg (by omega), if_neg (by decide)]
            refine ⟨l.1, y_minds X1.1 (fun h2 T2 D2 => ?_)⟩
            rw [lr1 l, lr6 l, q_ix (by omega), q_ix (by omega)]
            have Y3 := MLsetF T2.1 (o := 1) (f := k) (v := 9) (Or.inl rfl) (by omega) (by omega)
            have F3 : FrM m h2 (up h2 (m + 2) k (nI 9)) := FrM_up FrM_rf (by decide)
            have T3 := TH_M T2 Y3 F3
            refine ⟨q_ain (la1 l) (by omega) (by decide), y_goes Y3 (by rw [updL_ne (by omega)]; omega) (fun h4 Y4 F4 => ?_)⟩
            have T4 := TH_M T3 Y4 F4
            have DD := FrD_tr D2 (FrD_tr (FrD_of F3) (FrD_of F4))
            have hi4 : i < nightsF j (updL (aL A) 1 k 9) 0 4 := by rw [(nightsF_0 j _).1, updL_ne (by omega)]; exact hi
            have b4 := (MLb Y4 hi4).2.2.2.1
            rw [MLe Y4 hi4 (show KC 4 7 by unfold KC; omega)]
            refine ⟨q_ain (la6 l) (by omega) (by decide), ?_⟩
            simp only [q_eq (show nightsF j (updL (aL A) 1 k 9) (5 + 2 * i) 4 < 2 ^ 31 by omega) (show f < 2 ^ 31 by omega)]
            by_cases c : nightsF j (updL (aL A) 1 k 9) (5 + 2 * i) 4 = f
            · rw [if_pos c]
              refine y_forgets T4 (fun h5 Y5 D5 => hP _ _ _ ?_)
              have := hQ h5 (MI_mind X1 Y5 (FrD_tr DD D5)) (FrY_tr F1 (FrY_D (FrD_tr DD D5)))
              rw [er] at this
              simp [fsF, c] at this
              simp only [q_0le (show k < 2 ^ 31 by omega), if_true]
              split <;> exact this
            · rw [if_neg c]
              refine y_forgets T4 (fun h5 Y5 D5 => ih (k + 1) h5 (by omega) (MI_mind X1 Y5 (FrD_tr DD D5)) (FrY_tr F1 (FrY_D (FrD_tr DD D5))) ?_)
              rw [er]; simp [fsF, c]
        exact K 48 0 h (by omega) X FrY_rf rfl
      · rw [if_neg g]
        rw [if_neg g] at hQ
        exact y_no X (rf_of (fN_c _ _ _) g) hQ
    · rw [if_pos (by decide)]
      have e : ckN (inR v (aL A 0 4) ∧ inR w 48) n 0 30 = -1 := by unfold ckN; rw [if_neg (fun q => c2 q.2)]
      rw [e, if_neg (by decide)] at hQ
      exact y_no X (Or.inl rfl) hQ
  · rw [if_pos (by decide)]
    have e : ckN (inR v (aL A 0 4) ∧ inR w 48) n 0 30 = -1 := by unfold ckN; rw [if_neg (fun q => c q.1)]
    rw [e, if_neg (by decide)] at hQ
    exact y_no X (Or.inl rfl) hQ
theorem op_wallFor (H : SI S h x A) {v w n : Int32} {Q : Int32 → Int32 → Hp → Prop} (hQ : ∀ r A' h', SI S h' x A' → Q r r h') : w_X6_wallFor S x v w n h (fun r h1 => w_X7_wallFor S (x + 180) v w n h1 (fun r' h2 => Q r r' h2)) :=
  x_wallFor H.1 (fun h1 X1 F1 => y_wallFor (SI_m H F1) (fun h2 Y2 F2 => hQ _ _ h2 (SI_mk X1 Y2 F2)))
end HOLDS
