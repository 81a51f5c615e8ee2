/-! PURE: the class's Land, a night -/
theorem q_max0 {a b : Nat} (ha : a < 2 ^ 30) (hb : b < 2 ^ 30) : imax (nI a - nI b) (nI 0) = nI (a - b) := by
  unfold imax
  by_cases c : b ≤ a
  · rw [q_sub c]
    simp only [q_lt (show a - b < 2 ^ 31 by omega) (show 0 < 2 ^ 31 by omega)]
    rw [if_neg (by omega)]
  · have : nI a - nI b < nI 0 := by rw [nI_0]; exact pk_sneg hb (by omega)
    rw [if_pos this, show a - b = 0 by omega]
theorem HB_up {L : Ld} {o : Nat} {N : Nat → Nat} (H : HB (L o) N) {k v : Nat} (hv : (k = 4 ∧ v ≤ 47) ∨ (k = 5 ∧ v ≤ 3) ∨ (k = 6 ∧ v ≤ 4) ∨ (k = 7 ∧ v ≤ 99) ∨ (k = 8 ∧ v ≤ 1) ∨ (k = 0 ∧ v ≤ 7) ∨ (k = 1 ∧ v ≤ 9)) : HB (updL L o k v o) N := by
  obtain ⟨b0, b1, b3, b4, b5, b6, b7, b8, bn, b9⟩ := H
  have e3 : updL L o k v o 3 = L o 3 := updL_ne (by omega)
  have g : ∀ j, updL L o k v o j = if j = k then v else L o j := fun j => by simp [updL]
  unfold HB
  rw [e3]
  refine ⟨?_, ?_, b3, ?_, ?_, ?_, ?_, ?_, bn, b9⟩ <;> rw [g] <;> split <;> omega
theorem stepsF_le {A N : Nat → Nat} (H : HB A N) : stepsF A ≤ 5 := by
  obtain ⟨b0, b1, b3, b4, b5, b6, b7, b8, bn, b9⟩ := H
  unfold stepsF; (repeat' split) <;> omega
theorem weightF_le {A N : Nat → Nat} (H : HB A N) : weightF A ≤ 23 := by
  obtain ⟨b0, b1, b3, b4, b5, b6, b7, b8, bn, b9⟩ := H
  unfold weightF; (repeat' split) <;> omega
theorem enoughF_le {A N : Nat → Nat} (H : HB A N) : enoughF A ≤ 99 := by
  obtain ⟨b0, b1, b3, b4, b5, b6, b7, b8, bn, b9⟩ := H
  unfold enoughF; (repeat' split) <;> omega
theorem veersF_le {A N N' : Nat → Nat} {d : Nat} (H : HB A N') : veersF A N d ≤ 4 := by
  have : saintF A d ≤ 2 := by unfold saintF; (repeat' split) <;> omega
  unfold veersF; (repeat' split) <;> omega
theorem quartF_le (w : Nat) : quartF w ≤ 3 := by unfold quartF; (repeat' split) <;> omega
section XNIGHT
variable {S : St} {h : Hp} {b : Nat} {L : Ld}
theorem x_beside {f d : Nat} (hf : f ≤ 47) (hd : d ≤ 3) {Q : Int32 → Hp → Prop} (h0 : besF f d = 99 → Q (-1) h) (h1 : besF f d ≤ 47 → Q (nI (besF f d)) h) : w_X1_beside S (nI f) (nI d) h Q := by
  unfold w_X1_beside
  unfold besF at h0 h1
  simp (disch := omega) only [q_eq, q_lt, q_le, q_rem, q_le0, nI_add]
  rcases (show d = 0 ∨ d = 1 ∨ d = 2 ∨ d = 3 by omega) with rfl | rfl | rfl | rfl
  · by_cases c : f < 8
    · simp [c] at h0 ⊢; exact h0
    · simp [c] at h1 ⊢; rw [q_sub (by omega)]; exact h1 (by omega)
  · by_cases c : f % 8 = 7
    · simp [c] at h0 ⊢; exact h0
    · have c2 : ¬ 7 ≤ f % 8 := by omega
      simp [c] at h1; simp [c2]; exact h1 (by omega)
  · by_cases c : 40 ≤ f
    · simp [c] at h0 ⊢; exact h0
    · simp [c] at h1 ⊢; exact h1 (by omega)
  · by_cases c : f % 8 = 0
    · simp [c] at h0 ⊢; exact h0
    · simp [c] at h1 ⊢; rw [q_sub (by omega)]; exact h1 (by omega)
theorem x_go (X : XL S h b L) {i : Nat} (hi : i < L 0 4) {Q : Hp → Prop} (hQ : ∀ h', XL S h' b (goF i (stepsF (L (5 + 2 * i))) L) → Fr b h h' → Q h') : w_X1_go S b (b + (5 + 2 * i)) h Q := by
  unfold w_X1_go
  have hst := stepsF_le (XLhd X hi).2.2.2.2.2
  refine ⟨(XLhd X hi).1, x_steps (XLhd X hi) ?_⟩
  generalize stepsF (L (5 + 2 * i)) = st at hQ hst ⊢
  unfold w_X1_go_c7
  intro P hP
  have K : ∀ (n k : Nat) (L : Ld) (h : Hp), n + k = st → XL S h b L → i < L 0 4 → (∀ h', XL S h' b (goF i n L) → Fr b h h' → Q h') → P (nI k) h := by
    intro n
    induction n with
    | zero =>
      intro k L h hn X hi hQ
      refine hP _ _ ?_
      simp only [q_le (show st < 2 ^ 31 by omega) (show k < 2 ^ 31 by omega)]
      rw [if_pos (by omega)]
      exact hQ h X Fr_rf
    | succ n ih =>
      intro k L h hn X hi hQ
      refine hP _ _ ?_
      simp only [q_le (show st < 2 ^ 31 by omega) (show k < 2 ^ 31 by omega)]
      rw [if_neg (by omega)]
      have H := XLhd X hi
      have HBx := H.2.2.2.2.2
      refine ⟨H.1, ?_⟩
      rw [XHe H (by decide) (by decide), XHe H (by decide) (by decide)]
      have b4 := HBx.2.2.2.1
      have b5 := HBx.2.2.2.2.1
      refine x_beside b4 b5 (fun e => ?_) (fun e => ?_)
      · rw [if_pos rfl]
        refine x_turn H (by decide) (hQ _ ?_ (Fr_up Fr_rf (by have := X.2.2.1; omega)))
        have : goF i (n + 1) L = updL L (5 + 2 * i) 5 ((L (5 + 2 * i) 5 + 2) % 4) := by simp only [goF, if_pos e]
        rw [this]
        exact XLsetH X hi (by decide) (by decide) (by decide) (HB_up HBx (by omega))
      · have hne : ¬ besF (L (5 + 2 * i) 4) (L (5 + 2 * i) 5) = 99 := by omega
        simp only [q_neg1 (show besF (L (5 + 2 * i) 4) (L (5 + 2 * i) 5) < 2 ^ 31 by omega), if_false]
        have l := X.1
        rw [l.2.1.1]
        refine ⟨l.1, q_ain l.2.2.1.1 (by omega) (by decide), ?_⟩
        have wl := X.2.2.2.2.1 _ (show besF (L (5 + 2 * i) 4) (L (5 + 2 * i) 5) < 48 by omega)
        rw [q_ix (by omega), (X.2.1.2.1 _ (by omega)).1]
        simp only [q_le0 (show L 1 (besF (L (5 + 2 * i) 4) (L (5 + 2 * i) 5)) < 2 ^ 31 by omega)]
        by_cases c : L 1 (besF (L (5 + 2 * i) 4) (L (5 + 2 * i) 5)) = 0
        · rw [if_pos c, nI_add]
          have X2 := XLsetH X hi (k := 4) (v := besF (L (5 + 2 * i) 4) (L (5 + 2 * i) 5)) (by decide) (by decide) (by decide) (HB_up HBx (by omega))
          refine ih (k + 1) _ _ (by omega) X2 (by rw [updL_ne (by omega)]; exact hi) (fun h' Y F => hQ h' ?_ (Fr_tr (Fr_up Fr_rf (by have := X.2.2.1; omega)) F))
          have : goF i (n + 1) L = goF i n (updL L (5 + 2 * i) 4 (besF (L (5 + 2 * i) 4) (L (5 + 2 * i) 5))) := by simp only [goF, if_neg hne, if_pos c]
          rw [this]; exact Y
        · rw [if_neg c]
          have hw := weightF_le HBx
          refine x_weight H ?_
          rw [q_max0 (by omega) (by omega)]
          refine hQ _ ?_ (Fr_up Fr_rf (by decide))
          have : goF i (n + 1) L = updL L 1 (besF (L (5 + 2 * i) 4) (L (5 + 2 * i) 5)) (L 1 (besF (L (5 + 2 * i) 4) (L (5 + 2 * i) 5)) - weightF (L (5 + 2 * i))) := by simp only [goF, if_neg hne, if_neg c]
          rw [this]
          exact XLsetF X (Or.inl rfl) (by omega) (by omega)
  exact K st 0 L h (by omega) X hi hQ
theorem x_gather (X : XL S h b L) {i : Nat} (hi : i < L 0 4) {Q : Hp → Prop} (hQ : ∀ h', XL S h' b (gatherF i L) → Fr b h h' → Q h') : w_X1_gather S b (b + (5 + 2 * i)) h Q := by
  have H := XLhd X hi
  have HBx := H.2.2.2.2.2
  have b4 := HBx.2.2.2.1
  have b7 := HBx.2.2.2.2.2.2.1
  have l := X.1
  have wl := X.2.2.2.2.1 _ (show L (5 + 2 * i) 4 < 48 by omega)
  have rl := X.2.1.2.1 _ (show L (5 + 2 * i) 4 < 48 by omega)
  unfold w_X1_gather
  refine ⟨l.1, H.1, ?_⟩
  rw [l.2.1.2.2.1, l.2.1.2.1, XHe H (by decide) (by decide), q_ix (by omega), rl.2.2]
  refine ⟨q_ain l.2.2.1.2.2.1 (by omega) (by decide), ?_⟩
  have g := hQ
  unfold gatherF at g
  refine x_hasLetter H (by omega) (fun e => ?_) (fun e => ?_)
  · rw [if_pos e] at g
    simp only [q_eq0 (show 1 < 2 ^ 31 by decide), if_neg (show ¬ 1 = 0 by decide)]
    rw [XHe H (by decide) (by decide), q_ix (by omega), rl.2.1]
    refine ⟨q_ain l.2.2.1.2.1 (by omega) (by decide), x_gain H.1 (XHe H (by decide) (by decide)) b7 (by omega) ⟨?_, ?_⟩⟩
    · rw [up_ne (by omega), XHe H (by decide) (by decide)]
      exact q_ain l.2.2.1.2.1 (by omega) (by decide)
    · rw [up_ne (by omega), XHe H (by decide) (by decide), q_ix (by omega)]
      have X2 := XLsetH X hi (k := 7) (v := min (L (5 + 2 * i) 7 + L 2 (L (5 + 2 * i) 4)) 99) (by decide) (by decide) (by decide) (HB_up HBx (by omega))
      have X3 := XLsetF X2 (o := 2) (f := L (5 + 2 * i) 4) (v := 0) (by omega) (by omega) (by omega)
      exact g _ X3 (Fr_up (Fr_up Fr_rf (by have := X.2.2.1; omega)) (by decide))
  · rw [if_neg (by rw [e]; decide)] at g
    simp only [q_eq0 (show 0 < 2 ^ 31 by decide), if_true]
    exact g h X Fr_rf
theorem x_least (X : XL S h b L) {i : Nat} (hi : i < L 0 4) {Q : Int32 → Hp → Prop} (h0 : metF L i (L 0 4) 0 = 99 → Q (-1) h) (h1 : ∀ j, j < L 0 4 → j ≠ i → metF L i (L 0 4) 0 = j → Q (nI j) h) : w_X1_leastAwakeBeside S b (nI i) h Q := by
  have l := X.1
  have w := X.2.2.1
  unfold w_X1_leastAwakeBeside w_X1_leastAwakeBeside_c2
  intro P hP
  have K : ∀ (f k : Nat), k + f = L 0 4 → metF L i (L 0 4) 0 = metF L i f k → P (nI k) h := by
    intro f
    induction f with
    | zero =>
      intro k hk hm
      refine hP _ _ ⟨l.1, ?_⟩
      rw [X.2.1.1.1]
      simp only [q_le (show L 0 4 < 2 ^ 31 by omega) (show k < 2 ^ 31 by omega)]
      rw [if_pos (by omega)]
      exact h0 hm
    | succ f ih =>
      intro k hk hm
      have Hk := XLhd X (show k < L 0 4 by omega)
      have Hi := XLhd X hi
      have bk := Hk.2.2.2.2.2
      have bi := Hi.2.2.2.2.2
      refine hP _ _ ⟨l.1, ?_⟩
      rw [X.2.1.1.1]
      simp only [q_le (show L 0 4 < 2 ^ 31 by omega) (show k < 2 ^ 31 by omega), q_eq (show k < 2 ^ 31 by omega) (show i < 2 ^ 31 by omega)]
      rw [if_neg (by omega)]
      by_cases c : k = i
      · rw [if_pos c, nI_add]
        refine ih (k + 1) (by omega) ?_
        rw [hm]; simp only [metF]; rw [if_neg (by omega)]
      · rw [if_neg c, l.2.1.2.2.2, q_ix (by omega), q_ix (by omega), (l.2.2.2 k (by omega)).1, (l.2.2.2 i (by omega)).1]
        refine ⟨q_rin l.2.2.1.2.2.2 (by omega) (by decide), Hk.1, q_rin l.2.2.1.2.2.2 (by omega) (by decide), Hi.1, ?_⟩
        rw [XHe Hk (by decide) (by decide), XHe Hi (by decide) (by decide), XHe Hk (by decide) (by decide)]
        have b4 := bk.2.2.2.1
        have b4' := bi.2.2.2.1
        have b8 := bk.2.2.2.2.2.2.2.1
        simp only [q_eq (show L (5 + 2 * k) 4 < 2 ^ 31 by omega) (show L (5 + 2 * i) 4 < 2 ^ 31 by omega), q_eq0 (show L (5 + 2 * k) 8 < 2 ^ 31 by omega), nI_add]
        by_cases c2 : L (5 + 2 * k) 4 = L (5 + 2 * i) 4
        · rw [if_pos c2]
          by_cases c3 : L (5 + 2 * k) 8 = 0
          · rw [if_pos c3]
            refine h1 k (by omega) c ?_
            rw [hm]; simp only [metF]; rw [if_pos ⟨c, c2, c3⟩]
          · rw [if_neg c3]
            refine ih (k + 1) (by omega) ?_
            rw [hm]; simp only [metF]; rw [if_neg (fun q => c3 q.2.2)]
        · rw [if_neg c2]
          refine ih (k + 1) (by omega) ?_
          rw [hm]; simp only [metF]; rw [if_neg (fun q => c2 q.2.1)]
  exact K (L 0 4) 0 (by omega) rfl
end XNIGHT
