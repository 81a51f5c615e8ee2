/-! PURE: power -/
abbrev fsum (L : Ld) (s : Nat) : Nat := sumF (folF L s) (L 0 4)
def pwF (L : Ld) (i s : Nat) : Bool := decide (s / 2 ^ i % 2 = 0 ∧ 2 * fsum L s ≤ allF L ∧ allF L < 2 * (fsum L s + L (5 + 2 * i) 7))
def powF (L : Ld) (i : Nat) : Nat := sumF (fun s => if pwF L i s = true then 1 else 0) (2 ^ L 0 4)
theorem fsum_le {L : Ld} (w : WfL L) (s : Nat) : fsum L s ≤ 495 := by
  have h5 := w.1
  have := sumF_le (f := folF L s) (c := 99) (L 0 4) (fun i hi => by
    have := (w.2.2.2 i hi).2.2.2.2.2.2.1
    unfold folF
    split <;> omega)
  have e : fsum L s = sumF (folF L s) (L 0 4) := rfl
  rw [e]; omega
section POWER
variable {S : St} {h h' : Hp} {x m b : Nat} {A : Ab} {L : Ld}
def powerA (A : Ab) (v : Int32) : Int32 × Ab := if inR v (aL A 0 4) then (nI (powF (aL A) (ix v)), A) else rfA A (-1)
theorem x_power (X : XI S h x A) {v : Int32} {Q : Int32 → Hp → Prop} (hQ : ∀ h', XI S h' x (powerA A v).2 → FrX x h h' → Q (powerA A v).1 h') : w_X6_power S x v h Q := by
  have l := X.1
  have l1 := l.2.1.1
  have w := X.2.1.2.2
  have h5 := w.1
  unfold w_X6_power
  unfold powerA at hQ
  refine ⟨l.1.1, x_noHead X (fun c => ?_) (fun c => ?_)⟩
  · rw [if_pos (by decide)]
    rw [if_pos c] at hQ
    obtain ⟨i, hi, rfl⟩ := inR_ex c (by omega)
    rw [q_ix (by omega)] at hQ
    have Hi := XLhd X.2.1 hi
    have b7 := Hi.2.2.2.2.2.2.2.2.2.2.2.1
    have p5 := pow_le32 h5
    have al := allF_le w
    rw [l.1.2.1, l1.2.1.2.2.2, q_ix (by omega), (l1.2.2.2 i (by omega)).1]
    refine ⟨l1.1, x_all X.2.1 ⟨q_rin l1.2.2.1.2.2.2 (by omega) (by decide), Hi.1, ?_⟩⟩
    rw [XHe Hi (by decide) (by decide)]
    unfold w_X6_power_c41
    intro P hP
    have K := q_upto (Pr := fun k => P (nI (sumF (fun s => if pwF (aL A) i s = true then 1 else 0) k)) (nI k) h) (n := 2 ^ aL A 0 4) (by
      refine hP _ _ _ ⟨l.1.1, ?_⟩
      rw [l.1.2.1, X.2.1.2.1.1.1, q_shl1 _ (by omega)]
      simp only [q_le (show 2 ^ aL A 0 4 < 2 ^ 31 by omega) (show 2 ^ aL A 0 4 < 2 ^ 31 by omega)]
      rw [if_pos (Nat.le_refl _)]; exact ⟨l1.1, hQ h X FrX_rf⟩) (by
      intro k hk ih
      simp only [sumF] at ih
      have fl := fsum_le w k
      refine hP _ _ _ ⟨l.1.1, ?_⟩
      rw [l.1.2.1, X.2.1.2.1.1.1, q_shl1 _ (by omega), q_bit (show k < 128 by omega) (show i < 7 by omega)]
      have hm : k / 2 ^ i % 2 < 2 := Nat.mod_lt _ (by decide)
      simp only [q_le (show 2 ^ aL A 0 4 < 2 ^ 31 by omega) (show k < 2 ^ 31 by omega), q_eq0 (show k / 2 ^ i % 2 < 2 ^ 31 by omega), nI_add]
      rw [if_neg (by omega)]
      refine ⟨l1.1, ?_⟩
      by_cases c0 : k / 2 ^ i % 2 = 0
      · rw [if_pos c0]
        refine x_folOf X.2.1 (by omega) ?_
        rw [pk_mul, nI_add, pk_mul]
        simp only [q_lt (show allF (aL A) < 2 ^ 31 by omega) (show 2 * fsum (aL A) k < 2 ^ 31 by omega), q_le (show 2 * (fsum (aL A) k + aL A (5 + 2 * i) 7) < 2 ^ 31 by omega) (show allF (aL A) < 2 ^ 31 by omega)]
        by_cases c1 : allF (aL A) < 2 * fsum (aL A) k
        · rw [if_pos c1]
          have e : pwF (aL A) i k = false := decide_eq_false (fun q => by omega)
          rw [e] at ih; exact ih
        rw [if_neg c1]
        by_cases c2 : 2 * (fsum (aL A) k + aL A (5 + 2 * i) 7) ≤ allF (aL A)
        · rw [if_pos c2]
          have e : pwF (aL A) i k = false := decide_eq_false (fun q => by omega)
          rw [e] at ih; exact ih
        · rw [if_neg c2]
          have e : pwF (aL A) i k = true := decide_eq_true ⟨c0, by omega, by omega⟩
          rw [e] at ih; exact ih
      · rw [if_neg c0]
        have e : pwF (aL A) i k = false := decide_eq_false (fun q => c0 q.1)
        rw [e] at ih; exact ih)
    exact K 0 (Nat.zero_le _)
  · rw [if_neg (by decide)]
    rw [if_neg c] at hQ
    exact x_refuse X (Or.inl rfl) hQ
theorem y_power (X : MI_ S h m A) {v : Int32} {Q : Int32 → Hp → Prop} (hQ : ∀ h', MI_ S h' m (powerA A v).2 → FrY m h h' → Q (powerA A v).1 h') : w_X7_power S m v h Q := by
  have l := X.1.1
  have w := X.1.2.2
  have h5 := w.1
  unfold w_X7_power
  unfold powerA at hQ
  refine ⟨l.1, y_isHead X.1 (fun c => ?_) (fun c => ?_)⟩
  · rw [if_neg (by decide)]
    rw [if_pos c] at hQ
    obtain ⟨i, hi, rfl⟩ := inR_ex c (by omega)
    rw [q_ix (by omega)] at hQ
    have b7 := (MLb X.1 hi).2.2.2.2.2.2.1
    have p5 := pow_le32 h5
    have al := allF_le w
    refine y_all X.1 ?_
    unfold w_X7_power_c31
    intro P hP
    have K := q_upto (Pr := fun k => P (nI (sumF (fun s => if pwF (aL A) i s = true then 1 else 0) k)) (nI k) h) (n := 2 ^ aL A 0 4) (by
      refine hP _ _ _ ⟨l.1, ?_⟩
      rw [X.1.2.1.1.1, q_shl1 _ (by omega)]
      simp only [q_le (show 2 ^ aL A 0 4 < 2 ^ 31 by omega) (show 2 ^ aL A 0 4 < 2 ^ 31 by omega)]
      rw [if_pos (Nat.le_refl _)]; exact hQ h X FrY_rf) (by
      intro k hk ih
      simp only [sumF] at ih
      have fl := fsum_le w k
      refine hP _ _ _ ⟨l.1, ?_⟩
      rw [X.1.2.1.1.1, q_shl1 _ (by omega)]
      simp only [q_le (show 2 ^ aL A 0 4 < 2 ^ 31 by omega) (show k < 2 ^ 31 by omega)]
      rw [if_neg (by omega)]
      refine y_has (by omega) (by omega) (fun c0 => ?_) (fun c0 => ?_)
      · rw [if_neg (by decide), nI_add]
        have e : pwF (aL A) i k = false := decide_eq_false (fun q => by omega)
        rw [e] at ih; exact ih
      · rw [if_pos (by decide)]
        have hm : k / 2 ^ i % 2 < 2 := Nat.mod_lt _ (by decide)
        unfold w_X7_power_c60
        intro P2 hP2
        have K2 := q_upto (Pr := fun j => P2 (nI (sumF (folF (aL A) k) j)) (nI j) h) (n := aL A 0 4) (by
          refine hP2 _ _ _ ⟨l.1, ?_⟩
          rw [X.1.2.1.1.1, lr9 l, q_ix (by omega), MLe X.1 hi (show KC 7 10 by unfold KC; omega)]
          simp only [q_le (show aL A 0 4 < 2 ^ 31 by omega) (show aL A 0 4 < 2 ^ 31 by omega)]
          rw [if_pos (Nat.le_refl _)]
          simp only [nI_add, pk_mul]
          simp only [q_lt (show allF (aL A) < 2 ^ 31 by omega) (show 2 * sumF (folF (aL A) k) (aL A 0 4) < 2 ^ 31 from (show 2 * fsum (aL A) k < 2 ^ 31 by omega)), q_le (show 2 * (sumF (folF (aL A) k) (aL A 0 4) + aL A (5 + 2 * i) 7) < 2 ^ 31 from (show 2 * (fsum (aL A) k + aL A (5 + 2 * i) 7) < 2 ^ 31 by omega)) (show allF (aL A) < 2 ^ 31 by omega)]
          by_cases c1 : allF (aL A) < 2 * fsum (aL A) k
          · rw [if_pos c1]
            have e : pwF (aL A) i k = false := decide_eq_false (fun q => by omega)
            rw [e] at ih; exact ih
          rw [if_neg c1]
          refine ⟨q_ain (la9 l) (by omega) (by decide), ?_⟩
          by_cases c2 : 2 * (fsum (aL A) k + aL A (5 + 2 * i) 7) ≤ allF (aL A)
          · rw [if_pos c2]
            have e : pwF (aL A) i k = false := decide_eq_false (fun q => by omega)
            rw [e] at ih; exact ih
          · rw [if_neg c2]
            have e : pwF (aL A) i k = true := decide_eq_true ⟨by omega, by omega, by omega⟩
            rw [e] at ih; exact ih) (by
          intro j hj ih2
          refine hP2 _ _ _ ⟨l.1, ?_⟩
          rw [X.1.2.1.1.1]
          simp only [q_le (show aL A 0 4 < 2 ^ 31 by omega) (show j < 2 ^ 31 by omega)]
          rw [if_neg (by omega)]
          simp only [sumF] at ih2
          refine y_has (by omega) (by omega) (fun c3 => ?_) (fun c3 => ?_)
          · rw [if_neg (by decide), lr9 l, q_ix (by omega), MLe X.1 hj (show KC 7 10 by unfold KC; omega)]
            simp only [nI_add]
            refine ⟨q_ain (la9 l) (by omega) (by decide), ?_⟩
            have e : folF (aL A) k j = aL A (5 + 2 * j) 7 := by unfold folF; rw [if_pos c3]
            rw [e] at ih2; exact ih2
          · rw [if_pos (by decide)]
            simp only [nI_add]
            have e : folF (aL A) k j = 0 := by unfold folF; rw [if_neg c3]
            rw [e] at ih2; exact ih2)
        exact K2 0 (by omega))
    exact K 0 (Nat.zero_le _)
  · rw [if_pos (by decide)]
    rw [if_neg c] at hQ
    exact y_no X (Or.inl rfl) hQ
theorem op_power (H : SI S h x A) {v : Int32} {Q : Int32 → Int32 → Hp → Prop} (hQ : ∀ r A' h', SI S h' x A' → Q r r h') : w_X6_power S x v h (fun r h1 => w_X7_power S (x + 180) v h1 (fun r' h2 => Q r r' h2)) :=
  x_power H.1 (fun h1 X1 F1 => y_power (SI_m H F1) (fun h2 Y2 F2 => hQ _ _ h2 (SI_mk X1 Y2 F2)))
end POWER
