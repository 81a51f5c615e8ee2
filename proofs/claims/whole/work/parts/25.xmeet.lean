/-! PURE: the class's Land, meeting and whole nights -/
section XMEET
variable {S : St} {h : Hp} {b : Nat} {L : Ld}
theorem x_lose (X : XL S h b L) {l g : Nat} (hl : l < L 0 4) (hg : g < L 0 4) (hne : l ≠ g) {Q : Hp → Prop} (hQ : ∀ h', XL S h' b (loseF l g L) → Fr b h h' → Q h') : ob S (b + (5 + 2 * l)) 0 ∧ w_X0_turn S (b + (5 + 2 * l)) (nI 2) h (fun h3 => (ob S (b + (5 + 2 * g)) 0 ∧ (w_X0_gain S (b + (5 + 2 * g)) ((h (b + (5 + 2 * l)) 7) / (nI 2)) (up h3 (b + (5 + 2 * l)) 7 ((h3 (b + (5 + 2 * l)) 7) - ((h (b + (5 + 2 * l)) 7) / (nI 2)))) (fun h5 => (Q h5))))) := by
  have Hl := XLhd X hl
  have Hg := XLhd X hg
  have Bl := Hl.2.2.2.2.2
  have Bg := Hg.2.2.2.2.2
  have b5 := Bl.2.2.2.2.1
  have b7 := Bl.2.2.2.2.2.2.1
  have g7 := Bg.2.2.2.2.2.2.1
  have w := X.2.2.1
  refine ⟨Hl.1, x_turn Hl (by decide) ⟨Hg.1, ?_⟩⟩
  rw [up_ne (by omega), XHe Hl (by decide) (by decide), q_div (by omega) (by decide) (by decide), q_sub (by omega)]
  have X1 := XLsetH X hl (k := 5) (v := (L (5 + 2 * l) 5 + 2) % 4) (by decide) (by decide) (by decide) (HB_up Bl (by omega))
  have X2 := XLsetH X1 (i := l) (k := 7) (v := L (5 + 2 * l) 7 - L (5 + 2 * l) 7 / 2) (by rw [updL_ne (by omega)]; exact hl) (by decide) (by decide) (by decide) (HB_up (HB_up (by rw [show updL L (5 + 2 * l) 5 ((L (5 + 2 * l) 5 + 2) % 4) (6 + 2 * l) = L (6 + 2 * l) from by funext q; exact updL_ne (by omega)]; exact Bl) (by omega)) (by omega))
  refine x_gain Hg.1 (by rw [up_ne (by omega), up_ne (by omega)]; exact XHe Hg (by decide) (by decide)) g7 (by omega) ?_
  refine hQ _ ?_ (Fr_up (Fr_up (Fr_up Fr_rf (by omega)) (by omega)) (by omega))
  refine XLsetH X2 (i := g) (by rw [updL_ne (by omega), updL_ne (by omega)]; exact hg) (by decide) (by decide) (by decide) ?_
  refine HB_up ?_ (by omega)
  have e1 : ∀ q, updL (updL L (5 + 2 * l) 5 ((L (5 + 2 * l) 5 + 2) % 4)) (5 + 2 * l) 7 (L (5 + 2 * l) 7 - L (5 + 2 * l) 7 / 2) (5 + 2 * g) q = L (5 + 2 * g) q := fun q => by rw [updL_ne (by omega), updL_ne (by omega)]
  have e2 : ∀ q, updL (updL L (5 + 2 * l) 5 ((L (5 + 2 * l) 5 + 2) % 4)) (5 + 2 * l) 7 (L (5 + 2 * l) 7 - L (5 + 2 * l) 7 / 2) (6 + 2 * g) q = L (6 + 2 * g) q := fun q => by rw [updL_ne (by omega), updL_ne (by omega)]
  rw [show updL (updL L (5 + 2 * l) 5 ((L (5 + 2 * l) 5 + 2) % 4)) (5 + 2 * l) 7 (L (5 + 2 * l) 7 - L (5 + 2 * l) 7 / 2) (5 + 2 * g) = L (5 + 2 * g) from funext e1, show updL (updL L (5 + 2 * l) 5 ((L (5 + 2 * l) 5 + 2) % 4)) (5 + 2 * l) 7 (L (5 + 2 * l) 7 - L (5 + 2 * l) 7 / 2) (6 + 2 * g) = L (6 + 2 * g) from funext e2]
  exact Bg
theorem lessF_told {L : Ld} {v i j : Nat} : lessF (updL L 0 6 v) i j = lessF L i j := by
  have e5 : ∀ j, updL L 0 6 v (5 + 2 * j) = L (5 + 2 * j) := fun j => by funext q; exact updL_ne (by omega)
  have e6 : ∀ j, updL L 0 6 v (6 + 2 * j) = L (6 + 2 * j) := fun j => by funext q; exact updL_ne (by omega)
  simp only [lessF, e5, e6]
theorem lessF_w {L : Ld} {i j : Nat} (h : weightF (L (5 + 2 * i)) ≠ weightF (L (5 + 2 * j))) : lessF L i j = true ↔ weightF (L (5 + 2 * i)) < weightF (L (5 + 2 * j)) := by
  simp only [lessF, decide_eq_true_eq]; omega
theorem lessF_n {L : Ld} {i j : Nat} (h : weightF (L (5 + 2 * i)) = weightF (L (5 + 2 * j))) (ha : ¬ alike (L (5 + 2 * i)) (L (6 + 2 * i)) (L (5 + 2 * j)) (L (6 + 2 * j))) : lessF L i j = true ↔ ahead (L (5 + 2 * i)) (L (6 + 2 * i)) (L (5 + 2 * j)) (L (6 + 2 * j)) := by
  simp only [lessF, decide_eq_true_eq]
  constructor
  · rintro (q | ⟨_, q | q⟩)
    · omega
    · exact q
    · exact absurd q.1 ha
  · intro q; exact Or.inr ⟨h, Or.inl q⟩
theorem lessF_a {L : Ld} {i j : Nat} (h : weightF (L (5 + 2 * i)) = weightF (L (5 + 2 * j))) (ha : alike (L (5 + 2 * i)) (L (6 + 2 * i)) (L (5 + 2 * j)) (L (6 + 2 * j))) : lessF L i j = true ↔ j < i := by
  simp only [lessF, decide_eq_true_eq]
  constructor
  · rintro (q | ⟨_, q | q⟩)
    · omega
    · have := q.1; have := ha.2; omega
    · exact q.2
  · intro q; exact Or.inr ⟨h, Or.inr ⟨ha, q⟩⟩
theorem x_meet (X : XL S h b L) {i : Nat} (hi : i < L 0 4) {Q : Hp → Prop} (hQ : ∀ h', XL S h' b (meetF i L) → Fr b h h' → Q h') : w_X1_meet S b (nI i) h Q := by
  have l := X.1
  have w := X.2.2.1
  have w6 := X.2.2.2.1
  unfold w_X1_meet
  refine ⟨l.1, x_least X hi (fun e => ?_) (fun j hj hji e => ?_)⟩
  · rw [if_pos rfl]
    refine hQ h ?_ Fr_rf
    unfold meetF; rw [if_pos e]; exact X
  · have hm : meetF i L = if lessF L i j = true then loseF i j (updL L 0 6 (min (L 0 6 + 1) 9999)) else loseF j i (updL L 0 6 (min (L 0 6 + 1) 9999)) := by
      unfold meetF; rw [e, if_neg (by omega)]
    rw [hm] at hQ
    simp only [q_neg1 (show j < 2 ^ 31 by omega), if_false]
    rw [l.2.1.2.2.2, q_ix (by omega), q_ix (by omega), (l.2.2.2 i (by omega)).1, (l.2.2.2 j (by omega)).1, X.2.1.1.2.2, nI_add, q_min (by omega) (by decide)]
    have X1 := XLsetG X (k := 6) (v := min (L 0 6 + 1) 9999) (Or.inr ⟨rfl, by omega⟩)
    have c4 : updL L 0 6 (min (L 0 6 + 1) 9999) 0 4 = L 0 4 := updL_ne (by omega)
    have e5 : ∀ j, updL L 0 6 (min (L 0 6 + 1) 9999) (5 + 2 * j) = L (5 + 2 * j) := fun j => by funext q; exact updL_ne (by omega)
    have e6 : ∀ j, updL L 0 6 (min (L 0 6 + 1) 9999) (6 + 2 * j) = L (6 + 2 * j) := fun j => by funext q; exact updL_ne (by omega)
    have hl := @lessF_told L (min (L 0 6 + 1) 9999) i j
    have F1 : Fr b h (up h b 6 (nI (min (L 0 6 + 1) 9999))) := Fr_up0 Fr_rf
    have Hi := XLhd X1 (i := i) (by rw [c4]; exact hi)
    have Hj := XLhd X1 (i := j) (by rw [c4]; exact hj)
    rw [← hl] at hQ
    generalize updL L 0 6 (min (L 0 6 + 1) 9999) = M at *
    have wi := weightF_le Hi.2.2.2.2.2
    have wj := weightF_le Hj.2.2.2.2.2
    have T : ∀ (o : Int32), (0 ≤ o ↔ ¬ lessF M i j = true) → ∀ s0, ((0 ≤ o) → s0 = b + (5 + 2 * j)) → (¬ (0 ≤ o) → s0 = b + (5 + 2 * i)) → w_X1_meet_c89 S (b + (5 + 2 * i)) (b + (5 + 2 * j)) o s0 (up h b 6 (nI (min (L 0 6 + 1) 9999))) Q := by
      intro o ho s0 hs1 hs2
      unfold w_X1_meet_c89
      by_cases c : 0 ≤ o
      · rw [if_pos c, hs1 c]
        refine x_lose X1 (by rw [c4]; exact hj) (by rw [c4]; exact hi) hji (fun h' Y F => hQ h' ?_ (Fr_tr F1 F))
        rw [if_neg (ho.mp c)]; exact Y
      · rw [if_neg c, hs2 c]
        refine x_lose X1 (by rw [c4]; exact hi) (by rw [c4]; exact hj) (by omega) (fun h' Y F => hQ h' ?_ (Fr_tr F1 F))
        have : lessF M i j = true := by
          rcases Bool.eq_false_or_eq_true (lessF M i j) with q | q
          · exact q
          · exact absurd (ho.mpr (by rw [q]; decide)) c
        rw [if_pos this]; exact Y
    refine ⟨q_rin l.2.2.1.2.2.2 (by omega) (by decide), q_rin l.2.2.1.2.2.2 (by omega) (by decide), Hi.1, x_weight Hi ⟨Hj.1, x_weight Hj ?_⟩⟩
    simp only [q_sub0 (show weightF (M (5 + 2 * i)) < 2 ^ 30 by omega) (show weightF (M (5 + 2 * j)) < 2 ^ 30 by omega), q_0sub (show weightF (M (5 + 2 * i)) < 2 ^ 30 by omega) (show weightF (M (5 + 2 * j)) < 2 ^ 30 by omega)]
    by_cases cw : weightF (M (5 + 2 * i)) = weightF (M (5 + 2 * j))
    · rw [if_pos cw]
      refine x_nameAgainst Hi Hj (fun r r1 r2 => ?_)
      by_cases ca : alike (M (5 + 2 * i)) (M (6 + 2 * i)) (M (5 + 2 * j)) (M (6 + 2 * j))
      · rw [if_pos (r2.mpr ca)]
        simp only [q_0sub (show j < 2 ^ 30 by omega) (show i < 2 ^ 30 by omega)]
        have la := lessF_a cw ca
        by_cases cj : i ≤ j
        · rw [if_pos cj]
          have z : 0 ≤ nI j - nI i := by rw [q_0sub (by omega) (by omega)]; exact cj
          exact T _ ⟨fun _ => by rw [la]; omega, fun _ => z⟩ _ (fun _ => rfl) (fun q => absurd z q)
        · rw [if_neg cj]
          have z : ¬ 0 ≤ nI j - nI i := by rw [q_0sub (by omega) (by omega)]; exact cj
          exact T _ ⟨fun q => absurd q z, fun q => absurd (la.mpr (by omega)) q⟩ _ (fun q => absurd q z) (fun _ => rfl)
      · rw [if_neg (fun q => ca (r2.mp q))]
        have ln := lessF_n cw ca
        by_cases c0 : 0 ≤ r
        · rw [if_pos c0]
          exact T _ ⟨fun _ => by rw [ln]; exact r1.mp c0, fun _ => c0⟩ _ (fun _ => rfl) (fun q => absurd c0 q)
        · rw [if_neg c0]
          exact T _ ⟨fun q => absurd q c0, fun q => r1.mpr (by rw [← ln]; exact q)⟩ _ (fun q => absurd q c0) (fun _ => rfl)
    · rw [if_neg cw]
      have lw := lessF_w cw
      by_cases c0 : weightF (M (5 + 2 * j)) ≤ weightF (M (5 + 2 * i))
      · rw [if_pos c0]
        have z : 0 ≤ nI (weightF (M (5 + 2 * i))) - nI (weightF (M (5 + 2 * j))) := by rw [q_0sub (by omega) (by omega)]; exact c0
        exact T _ ⟨fun _ => by rw [lw]; omega, fun _ => z⟩ _ (fun _ => rfl) (fun q => absurd z q)
      · rw [if_neg c0]
        have z : ¬ 0 ≤ nI (weightF (M (5 + 2 * i))) - nI (weightF (M (5 + 2 * j))) := by rw [q_0sub (by omega) (by omega)]; exact c0
        exact T _ ⟨fun q => absurd q z, fun q => absurd (lw.mpr (by omega)) q⟩ _ (fun q => absurd q z) (fun _ => rfl)
theorem awakeF_t {L : Ld} {k : Nat} (g : L (5 + 2 * k) 8 = 0 ∧ L (5 + 2 * k) 6 ≠ 4) : awakeF L k = true := by unfold awakeF; exact decide_eq_true g
theorem awakeF_f {L : Ld} {k : Nat} (g : ¬ (L (5 + 2 * k) 8 = 0 ∧ L (5 + 2 * k) 6 ≠ 4)) : ¬ awakeF L k = true := by unfold awakeF; rw [decide_eq_true_eq]; exact g
theorem turnsF_t {L : Ld} {k : Nat} (g : awakeF (turnsF L k) k = true) : turnsF L (k + 1) = takeF k (turnsF L k) := by simp only [turnsF, if_pos g]
theorem turnsF_f {L : Ld} {k : Nat} (g : ¬ awakeF (turnsF L k) k = true) : turnsF L (k + 1) = turnsF L k := by simp only [turnsF, if_neg g]
theorem x_take (X : XL S h b L) (hn : L 0 5 < 2 ^ 30) {i : Nat} (hi : i < L 0 4) {Q : Hp → Prop} (hQ : ∀ h', XL S h' b (takeF i L) → Fr b h h' → Q h') : w_X1_takeTurn S b (nI i) h Q := by
  have l := X.1
  have w := X.2.2.1
  have H := XLhd X hi
  have HBx := H.2.2.2.2.2
  unfold w_X1_takeTurn
  rw [l.2.1.2.2.2, q_ix (by omega), (l.2.2.2 i (by omega)).1]
  refine ⟨l.1, q_rin l.2.2.1.2.2.2 (by omega) (by decide), H.1, x_quart H ?_⟩
  rw [X.2.1.1.2.1]
  refine x_veers H hn ?_
  have q1 := quartF_le (L (5 + 2 * i) 6)
  have q2 := veersF_le (N := L (6 + 2 * i)) (d := L 0 5) HBx
  rw [nI_add]
  refine x_turn H (by omega) ?_
  have b5 := HBx.2.2.2.2.1
  have X1 := XLsetH X hi (k := 5) (v := (L (5 + 2 * i) 5 + (quartF (L (5 + 2 * i) 6) + veersF (L (5 + 2 * i)) (L (6 + 2 * i)) (L 0 5))) % 4) (by decide) (by decide) (by decide) (HB_up HBx (by omega))
  have F1 : Fr b h (up h (b + (5 + 2 * i)) 5 (nI ((L (5 + 2 * i) 5 + (quartF (L (5 + 2 * i) 6) + veersF (L (5 + 2 * i)) (L (6 + 2 * i)) (L 0 5))) % 4))) := Fr_up Fr_rf (by omega)
  have hi1 : i < faceF i L 0 4 := by rw [faceF_0]; exact hi
  change XL S _ b (faceF i L) at X1
  refine x_go X1 hi1 (fun h2 X2 F2 => ?_)
  have hi2 : i < goF i (stepsF (faceF i L (5 + 2 * i))) (faceF i L) 0 4 := by rw [goF_0]; exact hi1
  refine x_gather X2 hi2 (fun h3 X3 F3 => ?_)
  have hi3 : i < gatherF i (goF i (stepsF (faceF i L (5 + 2 * i))) (faceF i L)) 0 4 := by rw [gatherF_0]; exact hi2
  refine x_meet X3 hi3 (fun h4 X4 F4 => ?_)
  have hi4 : i < meetF i (gatherF i (goF i (stepsF (faceF i L (5 + 2 * i))) (faceF i L))) 0 4 := by rw [(meetF_0 _ _).1]; exact hi3
  have F := Fr_tr F1 (Fr_tr F2 (Fr_tr F3 F4))
  have ht : takeF i L = stayF i (meetF i (gatherF i (goF i (stepsF (faceF i L (5 + 2 * i))) (faceF i L)))) := rfl
  rw [ht] at hQ
  generalize meetF i (gatherF i (goF i (stepsF (faceF i L (5 + 2 * i))) (faceF i L))) = M at X4 hi4 hQ
  have H4 := XLhd X4 hi4
  have B4 := H4.2.2.2.2.2
  have e9 := enoughF_le B4
  have b7 := B4.2.2.2.2.2.2.1
  refine x_enough H4 ?_
  rw [XHe H4 (by decide) (by decide)]
  simp only [q_lt (show M (5 + 2 * i) 7 < 2 ^ 31 by omega) (show enoughF (M (5 + 2 * i)) < 2 ^ 31 by omega)]
  unfold stayF at hQ
  by_cases c : M (5 + 2 * i) 7 < enoughF (M (5 + 2 * i))
  · rw [if_pos c]
    rw [if_neg (by omega)] at hQ
    exact hQ _ X4 F
  · rw [if_neg c]
    rw [if_pos (by omega)] at hQ
    exact hQ _ (XLsetH X4 hi4 (by decide) (by decide) (by decide) (HB_up B4 (by omega))) (Fr_up F (by omega))
theorem x_pass (X : XL S h b L) {n : Nat} (hn : L 0 5 + n < 2 ^ 29) {Q : Hp → Prop} (hQ : ∀ h', XL S h' b (nightsF n L) → Fr b h h' → Q h') : w_X1_passNights S b (nI n) h Q := by
  unfold w_X1_passNights w_X1_passNights_c2
  intro P hP
  have K : ∀ (j k : Nat) (L : Ld) (h : Hp), j + k = n → L 0 5 + j < 2 ^ 29 → XL S h b L → (∀ h', XL S h' b (nightsF j L) → Fr b h h' → Q h') → P (nI k) h := by
    intro j
    induction j with
    | zero =>
      intro k L h hk hn2 X hQ
      refine hP _ _ ?_
      simp only [q_le (show n < 2 ^ 31 by omega) (show k < 2 ^ 31 by omega)]
      rw [if_pos (by omega)]
      exact hQ h X Fr_rf
    | succ j ih =>
      intro k L h hk hn2 X hQ
      refine hP _ _ ?_
      simp only [q_le (show n < 2 ^ 31 by omega) (show k < 2 ^ 31 by omega)]
      rw [if_neg (by omega)]
      have l := X.1
      have w := X.2.2.1
      refine ⟨l.1, ?_⟩
      rw [X.2.1.1.2.1, nI_add]
      have X1 := XLsetG X (k := 5) (v := L 0 5 + 1) (Or.inl rfl)
      have c4 : updL L 0 5 (L 0 5 + 1) 0 4 = L 0 4 := updL_ne (by omega)
      unfold w_X1_passNights_c19
      intro P2 hP2
      have K2 : ∀ (f m : Nat) (h2 : Hp), m + f = L 0 4 → XL S h2 b (turnsF (updL L 0 5 (L 0 5 + 1)) m) → Fr b h h2 → P2 (nI m) h2 := by
        intro f
        induction f with
        | zero =>
          intro m h2 hm X2 F2
          refine hP2 _ _ ⟨l.1, ?_⟩
          rw [X2.2.1.1.1, (turnsF_0 _ m).1, c4]
          simp only [q_le (show L 0 4 < 2 ^ 31 by omega) (show m < 2 ^ 31 by omega), nI_add]
          rw [if_pos (by omega)]
          have e : nightF L = turnsF (updL L 0 5 (L 0 5 + 1)) m := by unfold nightF; rw [show m = L 0 4 by omega]
          refine ih (k + 1) (nightF L) h2 (by omega) (by have := (nightF_0 L).2; omega) (by rw [e]; exact X2) (fun h' Y F => hQ h' Y (Fr_tr F2 F))
        | succ f ih2 =>
          intro m h2 hm X2 F2
          refine hP2 _ _ ⟨l.1, ?_⟩
          have ht := turnsF_0 (updL L 0 5 (L 0 5 + 1)) m
          have hm4 : m < turnsF (updL L 0 5 (L 0 5 + 1)) m 0 4 := by rw [ht.1, c4]; omega
          have H := XLhd X2 hm4
          rw [X2.2.1.1.1, ht.1, c4]
          simp only [q_le (show L 0 4 < 2 ^ 31 by omega) (show m < 2 ^ 31 by omega), nI_add]
          rw [if_neg (by omega), l.2.1.2.2.2, q_ix (by omega), (l.2.2.2 m (by omega)).1]
          refine ⟨q_rin l.2.2.1.2.2.2 (by omega) (by decide), H.1, x_goes H (fun g => ?_) (fun g => ?_)⟩
          · rw [if_neg (by decide)]
            refine x_take X2 (by rw [ht.2, updL_same]; omega) hm4 (fun h3 X3 F3 => ih2 (m + 1) h3 (by omega) ?_ (Fr_tr F2 F3))
            rw [turnsF_t (awakeF_t g)]
            exact X3
          · rw [if_pos (by decide)]
            refine ih2 (m + 1) h2 (by omega) ?_ F2
            rw [turnsF_f (awakeF_f g)]
            exact X2
      exact K2 (L 0 4) 0 _ (by omega) X1 (Fr_up0 Fr_rf)
  exact K n 0 L h (by omega) (by omega) X hQ
end XMEET
