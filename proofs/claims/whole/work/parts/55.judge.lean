/-! PURE: judge, clear -/
def jdF (L : Ld) (R : Nat → Nat) : Nat → Nat → Int32
  | 0, _ => -9
  | f + 1, k => if k < L 0 4 ∧ L (5 + 2 * k) 4 = R k then jdF L R f (k + 1) else nI k
def judgeA (A : Ab) : Int32 × Ab := (jdF (aL A) (aRw A) (aR A) 0, sR A 0 (aRw A))
def clearA (A : Ab) : Int32 × Ab := (nI (aR A), sR A 0 (aRw A))
section JUDGE
variable {S : St} {h h' : Hp} {x m : Nat} {A : Ab}
theorem WA_row0 (w : WA A) : WA (sR A 0 (aRw A)) := ⟨w.1, w.2.1, w.2.2.1, w.2.2.2.1, ⟨Nat.zero_le _, fun i hi => absurd hi (Nat.not_lt_zero i)⟩⟩
theorem XI_row0 (X : XI S h x A) : XI S (up h x 8 (nI 0)) x (sR A 0 (aRw A)) := by
  obtain ⟨l, X1, Xi, Xp, Xt, Xr, Xf, w⟩ := X
  have e : ∀ a k, ¬ (a = x ∧ k = 8) → (up h x 8 (nI 0)) a k = h a k := fun a k q => up_ne (by omega)
  refine ⟨l, XL_same X1 (fun a k q1 q2 => e _ _ (by omega)), ⟨?_, fun t => ?_⟩, ⟨?_, ?_⟩, ⟨?_, fun i hi => ?_⟩, ⟨up_same _ _ _ _, fun i hi => absurd hi (Nat.not_lt_zero i)⟩, fun q h1 h2 => ?_, WA_row0 w⟩
  · rw [e _ _ (by omega)]; exact Xi.1
  · exact XL_same (Xi.2 t) (fun a k q1 q2 => e _ _ (by omega))
  · rw [e _ _ (by omega)]; exact Xp.1
  · obtain ⟨nx, n1, n2, n3⟩ := Xp.2
    refine ⟨nx, n1, ?_, fun j hj => XL_same (n3 j hj) (fun a k q1 q2 => e _ _ (by omega))⟩
    rw [e _ _ (by omega)]; exact n2
  · rw [e _ _ (by omega)]; exact Xt.1
  · rw [e _ _ (by omega)]; exact Xt.2 i hi
  · rw [e _ _ (by omega)]; exact Xf q h1 h2
theorem MI_row0 (X : MI_ S h m A) : MI_ S (up h m 32 (nI 0)) m (sR A 0 (aRw A)) := by
  obtain ⟨X1, Xi, Xp, Xt, Xr, Xf, w⟩ := X
  have e : ∀ a k, ¬ (a = m ∧ k = 32) → (up h m 32 (nI 0)) a k = h a k := fun a k q => up_ne (by omega)
  refine ⟨ML_same X1 (fun a k q => e _ _ (by omega)), ⟨?_, fun t => ?_⟩, ⟨?_, ?_⟩, ⟨?_, fun i hi => ?_⟩, ⟨up_same _ _ _ _, fun i hi => absurd hi (Nat.not_lt_zero i)⟩, fun q h1 h2 => ?_, WA_row0 w⟩
  · rw [e _ _ (by omega)]; exact Xi.1
  · exact KSx_same (Xi.2 t) (w.2.1.2 t).1 (fun k q1 q2 => e _ _ (by omega))
  · rw [e _ _ (by omega)]; exact Xp.1
  · obtain ⟨fb, n1, n2, n3⟩ := Xp.2
    refine ⟨fb, n1, ?_, fun j hj => KSx_same (n3 j hj) (w.2.2.1.2 j hj).1 (fun k q1 q2 => e _ _ (by omega))⟩
    rw [e _ _ (by omega)]; exact n2
  · rw [e _ _ (by omega)]; exact Xt.1
  · rw [e _ _ (by omega)]; exact Xt.2 i hi
  · rw [e _ _ (by omega)]; exact Xf q h1 h2
theorem op_clear (H : SI S h x A) {Q : Int32 → Int32 → Hp → Prop} (hQ : ∀ r A' h', SI S h' x A' → Q r r h') : w_X6_clear S x h (fun r h1 => w_X7_clear S (x + 180) h1 (fun r' h2 => Q r r' h2)) := by
  unfold w_X6_clear
  refine ⟨H.1.1.1.1, ?_⟩
  rw [H.1.2.2.2.2.2.1.1]
  have F1 : FrX x h (up h x 8 (nI 0)) := FrX_up0 FrX_rf
  have Y := SI_m H F1
  unfold w_X7_clear
  refine ⟨Y.1.1.1, ?_⟩
  rw [Y.2.2.2.2.1.1]
  exact hQ _ _ _ (SI_mk (XI_row0 H.1) (MI_row0 Y) (FrY_up0 FrY_rf))
theorem x_judge (X : XI S h x A) {Q : Int32 → Hp → Prop} (hQ : ∀ h', XI S h' x (judgeA A).2 → FrX x h h' → Q (judgeA A).1 h') : w_X6_judge S x h Q := by
  have l := X.1
  have l1 := l.2.1.1
  have w := X.2.2.2.2.2.2.2
  have h5 := w.1.1.1
  have r12 := w.2.2.2.2.1
  have G : Q (jdF (aL A) (aRw A) (aR A) 0) (up h x 8 (nI 0)) := hQ _ (XI_row0 X) (FrX_up0 FrX_rf)
  unfold w_X6_judge w_X6_judge_c5
  intro P hP
  have E : ∀ k k', k < 2 ^ 20 → jdF (aL A) (aRw A) (aR A) 0 = nI k → P (nI k) (nI k') h := by
    intro k k' hk er
    refine hP _ _ _ ⟨l.1.1, ?_⟩
    rw [er] at G
    simp only [q_n9 (show k < 2 ^ 31 by omega), if_false]
    split <;> exact G
  have K : ∀ (f k : Nat), f + k = aR A → jdF (aL A) (aRw A) (aR A) 0 = jdF (aL A) (aRw A) f k → P (-9) (nI k) h := by
    intro f
    induction f with
    | zero =>
      intro k hk er
      refine hP _ _ _ ⟨l.1.1, ?_⟩
      rw [X.2.2.2.2.2.1.1]
      simp only [q_le (show aR A < 2 ^ 31 by omega) (show k < 2 ^ 31 by omega)]
      rw [if_pos (by omega)]
      have er0 : jdF (aL A) (aRw A) (aR A) 0 = -9 := er
      rw [er0] at G; exact G
    | succ f ih =>
      intro k hk er
      have rk := w.2.2.2.2.2 k (by omega)
      simp only [jdF] at er
      refine hP _ _ _ ⟨l.1.1, ?_⟩
      rw [X.2.2.2.2.2.1.1, l.1.2.1, X.2.1.2.1.1.1]
      simp only [q_le (show aR A < 2 ^ 31 by omega) (show k < 2 ^ 31 by omega), q_le (show aL A 0 4 < 2 ^ 31 by omega) (show k < 2 ^ 31 by omega), nI_add]
      rw [if_neg (by omega), if_pos trivial]
      refine ⟨l1.1, ?_⟩
      by_cases c : aL A 0 4 ≤ k
      · rw [if_pos c]
        rw [if_neg (fun q => by omega)] at er
        exact E k (k + 1) (by omega) er
      · rw [if_neg c, l1.2.1.2.2.2, l.1.2.2.2.2.2.2.2.1, q_ix (by omega), (l1.2.2.2 k (by omega)).1]
        have Hk := XLhd X.2.1 (show k < aL A 0 4 by omega)
        have b4 := Hk.2.2.2.2.2.2.2.2.1
        rw [XHe Hk (by decide) (by decide), X.2.2.2.2.2.1.2 k (by omega)]
        refine ⟨q_rin l1.2.2.1.2.2.2 (by omega) (by decide), Hk.1, q_ain l.2.2.2.2.2.2.1 (by omega) (by decide), ?_⟩
        simp only [q_eq (show aL A (5 + 2 * k) 4 < 2 ^ 31 by omega) (show aRw A k < 2 ^ 31 by omega)]
        by_cases c2 : aL A (5 + 2 * k) 4 = aRw A k
        · rw [if_pos c2]
          rw [if_pos ⟨by omega, c2⟩] at er
          exact ih (k + 1) (by omega) er
        · rw [if_neg c2]
          rw [if_neg (fun q => c2 q.2)] at er
          exact E k (k + 1) (by omega) er
  exact K (aR A) 0 (by omega) rfl
theorem y_judge (X : MI_ S h m A) {Q : Int32 → Hp → Prop} (hQ : ∀ h', MI_ S h' m (judgeA A).2 → FrY m h h' → Q (judgeA A).1 h') : w_X7_judge S m h Q := by
  have l := X.1.1
  have w := X.2.2.2.2.2.2
  have h5 := w.1.1.1
  have r12 := w.2.2.2.2.1
  have X1 := MI_row0 X
  have G : Q (jdF (aL A) (aRw A) (aR A) 0) (up h m 32 (nI 0)) := hQ _ X1 (FrY_up0 FrY_rf)
  have R : ∀ k, k < aR A → (up h m 32 (nI 0)) (m + 21) k = nI (aRw A k) := fun k hk => by rw [up_ne (by omega)]; exact X.2.2.2.2.1.2 k hk
  unfold w_X7_judge
  rw [X.2.2.2.2.1.1]
  refine ⟨l.1, ?_⟩
  have Y : ML_ S (up h m 32 (nI 0)) m (aL A) := X1.1
  generalize up h m 32 (nI 0) = g at *
  unfold w_X7_judge_c12
  intro P hP
  have K : ∀ (f k : Nat), f + k = aR A → jdF (aL A) (aRw A) (aR A) 0 = jdF (aL A) (aRw A) f k → P (nI k) g := by
    intro f
    induction f with
    | zero =>
      intro k hk er
      refine hP _ _ ?_
      simp only [q_le (show aR A < 2 ^ 31 by omega) (show k < 2 ^ 31 by omega)]
      rw [if_pos (by omega)]
      have er0 : jdF (aL A) (aRw A) (aR A) 0 = -9 := er
      rw [er0] at G; exact G
    | succ f ih =>
      intro k hk er
      have rk := w.2.2.2.2.2 k (by omega)
      simp only [jdF] at er
      refine hP _ _ ?_
      simp only [q_le (show aR A < 2 ^ 31 by omega) (show k < 2 ^ 31 by omega), nI_add]
      rw [if_neg (by omega)]
      refine ⟨l.1, y_isHead Y (fun c => ?_) (fun c => ?_)⟩
      · have hk' : k < aL A 0 4 := (inR_nI (by omega) (by omega)).mp c
        have b4 := (MLb Y hk').2.2.2.1
        rw [if_neg (by decide), lr6 l, lr31 l, q_ix (by omega), MLe Y hk' (show KC 4 7 by unfold KC; omega), R k (by omega)]
        refine ⟨q_ain (la6 l) (by omega) (by decide), q_ain (la31 l) (by omega) (by decide), ?_⟩
        simp only [q_eq (show aL A (5 + 2 * k) 4 < 2 ^ 31 by omega) (show aRw A k < 2 ^ 31 by omega)]
        by_cases c2 : aL A (5 + 2 * k) 4 = aRw A k
        · rw [if_pos c2]
          rw [if_pos ⟨hk', c2⟩] at er
          exact ih (k + 1) (by omega) er
        · rw [if_neg c2]
          rw [if_neg (fun q => c2 q.2)] at er
          rw [er] at G; exact G
      · rw [if_pos (by decide)]
        rw [if_neg (fun q => c ((inR_nI (by omega) (by omega)).mpr q.1))] at er
        rw [er] at G; exact G
  exact K (aR A) 0 (by omega) rfl
theorem op_judge (H : SI S h x A) {Q : Int32 → Int32 → Hp → Prop} (hQ : ∀ r A' h', SI S h' x A' → Q r r h') : w_X6_judge S x h (fun r h1 => w_X7_judge S (x + 180) h1 (fun r' h2 => Q r r' h2)) :=
  x_judge H.1 (fun h1 X1 F1 => y_judge (SI_m H F1) (fun h2 Y2 F2 => hQ _ _ h2 (SI_mk X1 Y2 F2)))
end JUDGE
