/-! PURE: kinds, row, rank, nearest -/
section OPS51
variable {S : St} {h h' : Hp} {x m b : Nat} {A : Ab} {L : Ld}
def kndF (L : Ld) (k : Nat) : Nat := sumF (fun i => if L (5 + 2 * i) 0 = k then 1 else 0) (L 0 4)
def kindsA (A : Ab) (v : Int32) : Int32 × Ab := if inR v 8 then (nI (kndF (aL A) (ix v)), A) else rfA A (-2)
theorem x_kinds (X : XI S h x A) {v : Int32} {Q : Int32 → Hp → Prop} (hQ : ∀ h', XI S h' x (kindsA A v).2 → FrX x h h' → Q (kindsA A v).1 h') : w_X6_kinds S x v h Q := by
  have l := X.1
  have l1 := l.2.1.1
  have h5 := X.2.2.2.2.2.2.2.1.1.1
  unfold w_X6_kinds
  unfold kindsA at hQ
  by_cases c0 : v < 0
  · rw [if_pos c0]
    rw [if_neg (fun q => absurd c0 (Int32.not_lt.mpr q.1))] at hQ
    exact ⟨l.1.1, x_refuse X (by unfold rfok; decide) hQ⟩
  rw [if_neg c0]
  by_cases c1 : v < nI 8
  · rw [if_pos c1]
    have c : inR v 8 := ⟨Int32.not_lt.mp c0, c1⟩
    rw [if_pos c] at hQ
    obtain ⟨a, ha, rfl⟩ := inR_ex c (by omega)
    rw [q_ix (by omega)] at hQ
    unfold w_X6_kinds_c21
    intro P hP
    have K := q_upto (Pr := fun k => P (nI (sumF (fun i => if aL A (5 + 2 * i) 0 = a then 1 else 0) k)) (nI k) h) (n := aL A 0 4) (by
      refine hP _ _ _ ⟨l.1.1, ?_⟩
      rw [l.1.2.1, X.2.1.2.1.1.1]
      simp only [q_le (show aL A 0 4 < 2 ^ 31 by omega) (show aL A 0 4 < 2 ^ 31 by omega)]
      rw [if_pos (Nat.le_refl _)]; exact ⟨l1.1, hQ h X FrX_rf⟩) (by
      intro k hk ih
      have Hk := XLhd X.2.1 hk
      have b0 := Hk.2.2.2.2.2.1
      refine hP _ _ _ ⟨l.1.1, ?_⟩
      rw [l.1.2.1, X.2.1.2.1.1.1]
      simp only [q_le (show aL A 0 4 < 2 ^ 31 by omega) (show k < 2 ^ 31 by omega)]
      rw [if_neg (by omega), l1.2.1.2.2.2, q_ix (by omega), (l1.2.2.2 k (by omega)).1, XHe Hk (by decide) (by decide), nI_add, nI_add]
      refine ⟨l1.1, q_rin l1.2.2.1.2.2.2 (by omega) (by decide), Hk.1, ?_⟩
      simp only [q_eq (show aL A (5 + 2 * k) 0 < 2 ^ 31 by omega) (show a < 2 ^ 31 by omega)]
      by_cases c : aL A (5 + 2 * k) 0 = a
      · rw [if_pos c]
        simpa [sumF, c] using ih
      · rw [if_neg c]
        simpa [sumF, c] using ih)
    exact K 0 (by omega)
  · rw [if_neg c1]
    rw [if_neg (fun q => c1 q.2)] at hQ
    exact ⟨l.1.1, x_refuse X (by unfold rfok; decide) hQ⟩
theorem y_kinds (X : MI_ S h m A) {v : Int32} {Q : Int32 → Hp → Prop} (hQ : ∀ h', MI_ S h' m (kindsA A v).2 → FrY m h h' → Q (kindsA A v).1 h') : w_X7_kinds S m v h Q := by
  have l := X.1.1
  have h5 := X.1.2.2.1
  unfold w_X7_kinds
  unfold kindsA at hQ
  refine y_isIn (fun c => ?_) (fun c => ?_)
  · have c : inR v 8 := (inR_le (by decide)).mp c
    rw [if_neg (by decide)]
    rw [if_pos c] at hQ
    obtain ⟨a, ha, rfl⟩ := inR_ex c (by omega)
    rw [q_ix (by omega)] at hQ
    unfold w_X7_kinds_c21
    intro P hP
    have K := q_upto (Pr := fun k => P (nI (sumF (fun i => if aL A (5 + 2 * i) 0 = a then 1 else 0) k)) (nI k) h) (n := aL A 0 4) (by
      refine hP _ _ _ ⟨l.1, ?_⟩
      rw [X.1.2.1.1.1]
      simp only [q_le (show aL A 0 4 < 2 ^ 31 by omega) (show aL A 0 4 < 2 ^ 31 by omega)]
      rw [if_pos (Nat.le_refl _)]; exact hQ h X FrY_rf) (by
      intro k hk ih
      have b0 := (MLb X.1 hk).1
      refine hP _ _ _ ⟨l.1, ?_⟩
      rw [X.1.2.1.1.1]
      simp only [q_le (show aL A 0 4 < 2 ^ 31 by omega) (show k < 2 ^ 31 by omega)]
      rw [if_neg (by omega), lr4 l, q_ix (by omega), MLe X.1 hk (show KC 0 5 by unfold KC; omega), nI_add, nI_add, nI_add]
      refine ⟨q_ain (la4 l) (by omega) (by decide), ?_⟩
      simp only [q_eq (show aL A (5 + 2 * k) 0 < 2 ^ 31 by omega) (show a < 2 ^ 31 by omega)]
      by_cases c : aL A (5 + 2 * k) 0 = a
      · rw [if_pos c]
        simpa [sumF, c] using ih
      · rw [if_neg c]
        simpa [sumF, c] using ih)
    exact K 0 (by omega)
  · rw [if_pos (by decide)]
    rw [if_neg (fun q => c ((inR_le (by decide)).mpr q))] at hQ
    exact ⟨l.1, y_no X (by unfold rfok; decide) hQ⟩
theorem op_kinds (H : SI S h x A) {v : Int32} {Q : Int32 → Int32 → Hp → Prop} (hQ : ∀ r A' h', SI S h' x A' → Q r r h') : w_X6_kinds S x v h (fun r h1 => w_X7_kinds S (x + 180) v h1 (fun r' h2 => Q r r' h2)) :=
  x_kinds H.1 (fun h1 X1 F1 => y_kinds (SI_m H F1) (fun h2 Y2 F2 => hQ _ _ h2 (SI_mk X1 Y2 F2)))
def rowA (A : Ab) (v : Int32) : Int32 × Ab := if fN v 0 99 = 0 then (if aR A = 12 then rfA A (-6) else (nI (aR A + 1), sR A (aR A + 1) (fun i => if i = aR A then ix v else aRw A i))) else rfA A (fN v 0 99)
theorem WA_row (w : WA A) (hk : aR A ≠ 12) {j : Nat} (hj : j ≤ 99) : WA (sR A (aR A + 1) (fun i => if i = aR A then j else aRw A i)) := by
  obtain ⟨wl, wt, wb, wk, wr⟩ := w
  have := wr.1
  refine ⟨wl, wt, wb, wk, ⟨show aR A + 1 ≤ 12 by omega, fun i hi => ?_⟩⟩
  have hi : i < aR A + 1 := hi
  show (if i = aR A then j else aRw A i) ≤ 99
  split
  · exact hj
  · exact wr.2 i (by omega)
theorem x_row (X : XI S h x A) {v : Int32} {Q : Int32 → Hp → Prop} (hQ : ∀ h', XI S h' x (rowA A v).2 → FrX x h h' → Q (rowA A v).1 h') : w_X6_row S x v h Q := by
  have X0 := X
  obtain ⟨l, X1, Xi, Xp, Xt, Xr, Xf, w⟩ := X
  have k1 := w.2.2.2.2.1
  unfold w_X6_row
  unfold rowA at hQ
  by_cases c1 : v < 0
  · rw [if_neg (fun q => absurd c1 (Int32.not_lt.mpr q))]
    rw [fN_neg c1, if_neg (by decide)] at hQ
    exact ⟨l.1.1, x_refuse X0 (by unfold rfok; decide) hQ⟩
  · rw [if_pos (Int32.not_lt.mp c1)]
    obtain ⟨j, hj, rfl⟩ := nI_of c1
    rw [fN_nI hj (by decide)] at hQ
    simp only [q_lt (show 99 < 2 ^ 31 by decide) hj]
    by_cases c2 : 99 < j
    · rw [if_pos c2]
      rw [if_pos c2, if_neg (by decide)] at hQ
      exact ⟨l.1.1, x_refuse X0 (by unfold rfok; decide) hQ⟩
    · rw [if_neg c2, Xr.1]
      simp only [q_lt (show aR A < 2 ^ 31 by omega) (show 12 < 2 ^ 31 by decide)]
      rw [if_neg c2, if_pos rfl, q_ix (by omega)] at hQ
      refine ⟨l.1.1, ?_⟩
      by_cases c : aR A = 12
      · rw [if_neg (by omega)]
        rw [if_pos c] at hQ
        exact x_refuse X0 (by unfold rfok; decide) hQ
      · rw [if_pos (by omega), l.1.2.2.2.2.2.2.2.1, q_ix (by omega), up_same, up_ne (by omega), Xr.1, nI_add]
        rw [if_neg c] at hQ
        refine ⟨q_ain l.2.2.2.2.2.2.1 (by omega) (by decide), hQ _ ?_ (FrX_up0 (FrX_up FrX_rf (by decide)))⟩
        have e : ∀ a k, ¬ (a = x + 178) → ¬ (a = x ∧ k = 8) → (up (up h (x + 178) (aR A) (nI j)) x 8 (nI (aR A + 1))) a k = h a k := fun a k q1 q2 => by rw [up_ne (by omega), up_ne (by omega)]
        refine ⟨l, XL_same X1 (fun a k q1 q2 => e _ _ (by omega) (by omega)), ⟨?_, fun t => ?_⟩, ⟨?_, ?_⟩, ⟨?_, fun i hi => ?_⟩, ⟨up_same _ _ _ _, fun i hi => ?_⟩, fun q h1 h2 => ?_, WA_row w c (by omega)⟩
        · rw [e _ _ (by omega) (by omega)]; exact Xi.1
        · exact XL_same (Xi.2 t) (fun a k q1 q2 => e _ _ (by omega) (by omega))
        · rw [e _ _ (by omega) (by omega)]; exact Xp.1
        · obtain ⟨nx, n1, n2, n3⟩ := Xp.2
          refine ⟨nx, n1, ?_, fun j hj => XL_same (n3 j hj) (fun a k q1 q2 => e _ _ (by omega) (by omega))⟩
          rw [e _ _ (by omega) (by omega)]; exact n2
        · rw [e _ _ (by omega) (by omega)]; exact Xt.1
        · rw [e _ _ (by omega) (by omega)]; exact Xt.2 i hi
        · have hi : i < aR A + 1 := hi
          show _ = nI (if i = aR A then j else aRw A i)
          rw [up_ne (by omega)]
          by_cases ei : i = aR A
          · subst ei; rw [if_pos rfl, up_same]
          · rw [if_neg ei, up_ne (by omega)]; exact Xr.2 i (by omega)
        · rw [e _ _ (by omega) (by omega)]; exact Xf q h1 h2
theorem y_row (X : MI_ S h m A) {v : Int32} {Q : Int32 → Hp → Prop} (hQ : ∀ h', MI_ S h' m (rowA A v).2 → FrY m h h' → Q (rowA A v).1 h') : w_X7_row S m v h Q := by
  have X0 := X
  obtain ⟨X1, Xi, Xp, Xt, Xr, Xf, w⟩ := X
  have l := X1.1
  have k1 := w.2.2.2.2.1
  unfold w_X7_row
  unfold rowA at hQ
  refine y_bound ?_
  by_cases g : fN v 0 99 = 0
  · rw [if_pos g]
    rw [if_pos g] at hQ
    obtain ⟨j, hj1, hj, rfl⟩ := fN_0 (by decide) (by decide) g
    rw [q_ix (by omega)] at hQ
    rw [Xr.1]
    simp only [q_eq (show aR A < 2 ^ 31 by omega) (show 12 < 2 ^ 31 by decide)]
    refine ⟨l.1, ?_⟩
    by_cases c : aR A = 12
    · rw [if_pos c]
      rw [if_pos c] at hQ
      exact y_no X0 (by unfold rfok; decide) hQ
    · rw [if_neg c, lr31 l, q_ix (by omega), up_same, up_ne (by omega), Xr.1, nI_add]
      rw [if_neg c] at hQ
      refine ⟨q_ain (la31 l) (by omega) (by decide), hQ _ ?_ (FrY_up0 (FrY_up FrY_rf (by decide)))⟩
      have e : ∀ a k, ¬ (a = m + 21) → ¬ (a = m ∧ k = 32) → (up (up h (m + 21) (aR A) (nI j)) m 32 (nI (aR A + 1))) a k = h a k := fun a k q1 q2 => by rw [up_ne (by omega), up_ne (by omega)]
      refine ⟨ML_same X1 (fun a k q => e _ _ (by omega) (by omega)), ⟨?_, fun t => ?_⟩, ⟨?_, ?_⟩, ⟨?_, fun i hi => ?_⟩, ⟨up_same _ _ _ _, fun i hi => ?_⟩, fun q h1 h2 => ?_, WA_row w c hj⟩
      · rw [e _ _ (by omega) (by omega)]; exact Xi.1
      · exact KSx_same (Xi.2 t) (w.2.1.2 t).1 (fun k q1 q2 => e _ _ (by omega) (by omega))
      · rw [e _ _ (by omega) (by omega)]; exact Xp.1
      · obtain ⟨fb, n1, n2, n3⟩ := Xp.2
        refine ⟨fb, n1, ?_, fun j hj => KSx_same (n3 j hj) (w.2.2.1.2 j hj).1 (fun k q1 q2 => e _ _ (by omega) (by omega))⟩
        rw [e _ _ (by omega) (by omega)]; exact n2
      · rw [e _ _ (by omega) (by omega)]; exact Xt.1
      · rw [e _ _ (by omega) (by omega)]; exact Xt.2 i hi
      · have hi : i < aR A + 1 := hi
        show _ = nI (if i = aR A then j else aRw A i)
        rw [up_ne (by omega)]
        by_cases ei : i = aR A
        · subst ei; rw [if_pos rfl, up_same]
        · rw [if_neg ei, up_ne (by omega)]; exact Xr.2 i (by omega)
      · rw [e _ _ (by omega) (by omega)]; exact Xf q h1 h2
  · rw [if_neg g]
    rw [if_neg g] at hQ
    exact ⟨l.1, y_no X0 (rf_of (fN_c _ _ _) g) hQ⟩
theorem op_row (H : SI S h x A) {v : Int32} {Q : Int32 → Int32 → Hp → Prop} (hQ : ∀ r A' h', SI S h' x A' → Q r r h') : w_X6_row S x v h (fun r h1 => w_X7_row S (x + 180) v h1 (fun r' h2 => Q r r' h2)) :=
  x_row H.1 (fun h1 X1 F1 => y_row (SI_m H F1) (fun h2 Y2 F2 => hQ _ _ h2 (SI_mk X1 Y2 F2)))
def bfF (L : Ld) (i j : Nat) : Bool := decide (ahead (L (5 + 2 * j)) (L (6 + 2 * j)) (L (5 + 2 * i)) (L (6 + 2 * i)) ∨ (alike (L (5 + 2 * j)) (L (6 + 2 * j)) (L (5 + 2 * i)) (L (6 + 2 * i)) ∧ j < i))
def rnkF (L : Ld) (i : Nat) : Nat := sumF (fun j => if bfF L i j = true then 1 else 0) (L 0 4)
def rankA (A : Ab) (v : Int32) : Int32 × Ab := if inR v (aL A 0 4) then (nI (rnkF (aL A) (ix v)), A) else rfA A (-1)
theorem alike_n {A N A' N' : Nat → Nat} (e : alike A N A' N') (q : ahead A N A' N') : False := by unfold alike at e; unfold ahead at q; omega
theorem x_rank (X : XI S h x A) {v : Int32} {Q : Int32 → Hp → Prop} (hQ : ∀ h', XI S h' x (rankA A v).2 → FrX x h h' → Q (rankA A v).1 h') : w_X6_rank S x v h Q := by
  have l := X.1
  have l1 := l.2.1.1
  have h5 := X.2.2.2.2.2.2.2.1.1.1
  unfold w_X6_rank
  unfold rankA at hQ
  refine ⟨l.1.1, x_noHead X (fun c => ?_) (fun c => ?_)⟩
  · rw [if_pos (by decide)]
    rw [if_pos c] at hQ
    obtain ⟨i, hi, rfl⟩ := inR_ex c (by omega)
    rw [q_ix (by omega)] at hQ
    unfold w_X6_rank_c18
    intro P hP
    have K := q_upto (Pr := fun k => P (nI (sumF (fun j => if bfF (aL A) i j = true then 1 else 0) k)) (nI k) h) (n := aL A 0 4) (by
      refine hP _ _ _ ⟨l.1.1, ?_⟩
      rw [l.1.2.1, X.2.1.2.1.1.1]
      simp only [q_le (show aL A 0 4 < 2 ^ 31 by omega) (show aL A 0 4 < 2 ^ 31 by omega)]
      rw [if_pos (Nat.le_refl _)]; exact ⟨l1.1, hQ h X FrX_rf⟩) (by
      intro k hk ih
      have Hk := XLhd X.2.1 hk
      have Hi := XLhd X.2.1 hi
      refine hP _ _ _ ⟨l.1.1, ?_⟩
      rw [l.1.2.1, X.2.1.2.1.1.1]
      simp only [q_le (show aL A 0 4 < 2 ^ 31 by omega) (show k < 2 ^ 31 by omega), q_le (show i < 2 ^ 31 by omega) (show k < 2 ^ 31 by omega)]
      rw [if_neg (by omega), l1.2.1.2.2.2, q_ix (by omega), q_ix (by omega), (l1.2.2.2 k (by omega)).1, (l1.2.2.2 i (by omega)).1, nI_add, nI_add]
      refine ⟨l1.1, q_rin l1.2.2.1.2.2.2 (by omega) (by decide), q_rin l1.2.2.1.2.2.2 (by omega) (by decide), Hk.1, x_nameAgainst Hk Hi (fun r ra rb => ?_)⟩
      by_cases c1 : r < 0
      · rw [if_pos c1]
        have a1 : ahead (aL A (5 + 2 * k)) (aL A (6 + 2 * k)) (aL A (5 + 2 * i)) (aL A (6 + 2 * i)) := by
          refine Decidable.byContradiction (fun q => ?_)
          exact absurd c1 (Int32.not_lt.mpr (ra.mpr q))
        have : bfF (aL A) i k = true := decide_eq_true (Or.inl a1)
        simpa [sumF, this] using ih
      · rw [if_neg c1]
        have a1 := ra.mp (Int32.not_lt.mp c1)
        by_cases c2 : r = 0
        · rw [if_pos c2]
          have a2 := rb.mp c2
          by_cases c3 : i ≤ k
          · rw [if_pos c3]
            have : bfF (aL A) i k = false := decide_eq_false (fun q => q.elim a1 (fun q => by omega))
            simpa [sumF, this] using ih
          · rw [if_neg c3]
            have : bfF (aL A) i k = true := decide_eq_true (Or.inr ⟨a2, by omega⟩)
            simpa [sumF, this] using ih
        · rw [if_neg c2]
          have : bfF (aL A) i k = false := decide_eq_false (fun q => q.elim a1 (fun q => c2 (rb.mpr q.1)))
          simpa [sumF, this] using ih)
    exact K 0 (by omega)
  · rw [if_neg (by decide)]
    rw [if_neg c] at hQ
    exact x_refuse X (by unfold rfok; decide) hQ
theorem y_rank (X : MI_ S h m A) {v : Int32} {Q : Int32 → Hp → Prop} (hQ : ∀ h', MI_ S h' m (rankA A v).2 → FrY m h h' → Q (rankA A v).1 h') : w_X7_rank S m v h Q := by
  have l := X.1.1
  have h5 := X.1.2.2.1
  unfold w_X7_rank
  unfold rankA at hQ
  refine ⟨l.1, y_isHead X.1 (fun c => ?_) (fun c => ?_)⟩
  · rw [if_neg (by decide)]
    rw [if_pos c] at hQ
    obtain ⟨i, hi, rfl⟩ := inR_ex c (by omega)
    rw [q_ix (by omega)] at hQ
    unfold w_X7_rank_c18
    intro P hP
    have K := q_upto (Pr := fun k => P (nI (sumF (fun j => if bfF (aL A) i j = true then 1 else 0) k)) (nI k) h) (n := aL A 0 4) (by
      refine hP _ _ _ ⟨l.1, ?_⟩
      rw [X.1.2.1.1.1]
      simp only [q_le (show aL A 0 4 < 2 ^ 31 by omega) (show aL A 0 4 < 2 ^ 31 by omega)]
      rw [if_pos (Nat.le_refl _)]; exact hQ h X FrY_rf) (by
      intro k hk ih
      refine hP _ _ _ ⟨l.1, ?_⟩
      rw [X.1.2.1.1.1]
      simp only [q_le (show aL A 0 4 < 2 ^ 31 by omega) (show k < 2 ^ 31 by omega), q_le (show i < 2 ^ 31 by omega) (show k < 2 ^ 31 by omega)]
      rw [if_neg (by omega)]
      simp only [nI_add]
      refine y_compares X.1 hk hi (fun r ra rb => ?_)
      by_cases c1 : r < 0
      · rw [if_pos c1]
        have a1 : ahead (aL A (5 + 2 * k)) (aL A (6 + 2 * k)) (aL A (5 + 2 * i)) (aL A (6 + 2 * i)) := by
          refine Decidable.byContradiction (fun q => ?_)
          exact absurd c1 (Int32.not_lt.mpr (ra.mpr q))
        have : bfF (aL A) i k = true := decide_eq_true (Or.inl a1)
        simpa [sumF, this] using ih
      · rw [if_neg c1]
        have a1 := ra.mp (Int32.not_lt.mp c1)
        by_cases c2 : r = 0
        · rw [if_pos c2]
          have a2 := rb.mp c2
          by_cases c3 : i ≤ k
          · rw [if_pos c3]
            have : bfF (aL A) i k = false := decide_eq_false (fun q => q.elim a1 (fun q => by omega))
            simpa [sumF, this] using ih
          · rw [if_neg c3]
            have : bfF (aL A) i k = true := decide_eq_true (Or.inr ⟨a2, by omega⟩)
            simpa [sumF, this] using ih
        · rw [if_neg c2]
          have : bfF (aL A) i k = false := decide_eq_false (fun q => q.elim a1 (fun q => c2 (rb.mpr q.1)))
          simpa [sumF, this] using ih)
    exact K 0 (by omega)
  · rw [if_pos (by decide)]
    rw [if_neg c] at hQ
    exact y_no X (by unfold rfok; decide) hQ
theorem op_rank (H : SI S h x A) {v : Int32} {Q : Int32 → Int32 → Hp → Prop} (hQ : ∀ r A' h', SI S h' x A' → Q r r h') : w_X6_rank S x v h (fun r h1 => w_X7_rank S (x + 180) v h1 (fun r' h2 => Q r r' h2)) :=
  x_rank H.1 (fun h1 X1 F1 => y_rank (SI_m H F1) (fun h2 Y2 F2 => hQ _ _ h2 (SI_mk X1 Y2 F2)))
def aprF (a b : Nat) : Nat := if b ≤ a then a - b else b - a
def farF (a b : Nat) : Nat := aprF (a / 8) (b / 8) + aprF (a % 8) (b % 8)
theorem q_far1 : ∀ a, a < 48 → ∀ b, b < 48 → (iabs ((nI a / (nI 8)) - (nI b / (nI 8)))) + (iabs ((irem (nI a) (nI 8)) - (irem (nI b) (nI 8)))) = nI (farF a b) := by decide +kernel
theorem x_far {a b : Nat} (ha : a < 48) (hb : b < 48) {Q : Int32 → Hp → Prop} (hQ : Q (nI (farF a b)) h) : w_X5_stepsOff S (nI a) (nI b) h Q := by
  unfold w_X5_stepsOff
  rw [q_far1 a ha b hb]; exact hQ
theorem y_apart {a b : Nat} (ha : a < 2 ^ 20) (hb : b < 2 ^ 20) {Q : Int32 → Hp → Prop} (hQ : Q (nI (aprF a b)) h) : w_X7_apart S (nI a) (nI b) h Q := by
  unfold w_X7_apart
  unfold aprF at hQ
  simp only [q_le (show b < 2 ^ 31 by omega) (show a < 2 ^ 31 by omega)]
  by_cases c : b ≤ a
  · rw [if_pos c, q_sub c]
    rw [if_pos c] at hQ; exact hQ
  · rw [if_neg c, q_sub (by omega)]
    rw [if_neg c] at hQ; exact hQ
theorem y_far {a b : Nat} (ha : a < 48) (hb : b < 48) {Q : Int32 → Hp → Prop} (hQ : Q (nI (farF a b)) h) : w_X7_far S (nI a) (nI b) h Q := by
  unfold w_X7_far
  rw [q_div (by omega) (by decide) (by decide), q_div (by omega) (by decide) (by decide), q_rem (by omega) (by decide) (by decide), q_rem (by omega) (by decide) (by decide)]
  refine y_apart (by omega) (by omega) (y_apart (by omega) (by omega) ?_)
  rw [nI_add]; exact hQ
theorem farF_lt {a b : Nat} (ha : a < 48) (hb : b < 48) : farF a b < 13 := by
  unfold farF aprF
  split <;> split <;> omega
/-- who is nearest to field f among the first k -/
def nrF (L : Ld) (f : Nat) : Nat → Nat
  | 0 => 0
  | k + 1 => if k = 0 then 0 else if farF (L (5 + 2 * nrF L f k) 4) f ≤ farF (L (5 + 2 * k) 4) f then nrF L f k else k
theorem nrF_lt (L : Ld) (f : Nat) : ∀ k, 0 < k → nrF L f k < k
  | 0, h => absurd h (by omega)
  | k + 1, _ => by
    simp only [nrF]
    by_cases c : k = 0
    · rw [if_pos c]; omega
    · rw [if_neg c]
      have := nrF_lt L f k (by omega)
      split <;> omega
def nearA (A : Ab) (v w : Int32) : Int32 × Ab := if inR v 48 then (if inR w 2 then (if aL A 0 4 = 0 then -9 else if w = 0 then nI (nrF (aL A) (ix v) (aL A 0 4)) else nI (farF (aL A (5 + 2 * nrF (aL A) (ix v) (aL A 0 4)) 4) (ix v)), A) else rfA A (-2)) else rfA A (-1)
theorem x_nearest (X : XI S h x A) {v w : Int32} {Q : Int32 → Hp → Prop} (hQ : ∀ h', XI S h' x (nearA A v w).2 → FrX x h h' → Q (nearA A v w).1 h') : w_X6_nearest S x v w h Q := by
  have l := X.1
  have l1 := l.2.1.1
  have h5 := X.2.2.2.2.2.2.2.1.1.1
  unfold w_X6_nearest
  unfold nearA at hQ
  refine x_noField (fun c => ?_) (fun c => ?_)
  · rw [if_pos (by decide)]
    rw [if_pos c] at hQ
    by_cases c0 : w < 0
    · rw [if_pos c0]
      rw [if_neg (fun q => absurd c0 (Int32.not_lt.mpr q.1))] at hQ
      exact ⟨l.1.1, x_refuse X (by unfold rfok; decide) hQ⟩
    rw [if_neg c0]
    by_cases c1 : w ≤ nI 1
    · rw [if_pos c1]
      have cw : inR w 2 := (inR_le (n := 1) (by decide)).mp ⟨show nI 0 ≤ w from Int32.not_lt.mp c0, c1⟩
      rw [if_pos cw] at hQ
      obtain ⟨f, hf, rfl⟩ := inR_ex c (by omega)
      rw [q_ix (by omega)] at hQ
      have hQ := hQ h X FrX_rf
      dsimp only at hQ
      unfold w_X6_nearest_c39
      intro P hP
      have K : ∀ (n k : Nat), n + k = aL A 0 4 → 0 < k → P (nI (nrF (aL A) f k)) (nI (farF (aL A (5 + 2 * nrF (aL A) f k) 4) f)) (nI k) h := by
        intro n
        induction n with
        | zero =>
          intro k hk k0
          refine hP _ _ _ _ ⟨l.1.1, ?_⟩
          rw [l.1.2.1, X.2.1.2.1.1.1]
          simp only [q_le (show aL A 0 4 < 2 ^ 31 by omega) (show k < 2 ^ 31 by omega)]
          have ek : k = aL A 0 4 := by omega
          rw [if_pos (by omega), ek]
          rw [if_neg (show ¬ aL A 0 4 = 0 by omega)] at hQ
          refine ⟨l1.1, ?_⟩
          split
          · rename_i c2; rw [if_pos c2] at hQ; exact hQ
          · rename_i c2; rw [if_neg c2] at hQ; exact hQ
        | succ n ih =>
          intro k hk k0
          have hk' : k < aL A 0 4 := by omega
          have Hk := XLhd X.2.1 hk'
          have b4 := Hk.2.2.2.2.2.2.2.2.1
          have nl := nrF_lt (aL A) f k k0
          have Hn := XLhd X.2.1 (show nrF (aL A) f k < aL A 0 4 by omega)
          have n4 := Hn.2.2.2.2.2.2.2.2.1
          refine hP _ _ _ _ ⟨l.1.1, ?_⟩
          rw [l.1.2.1, X.2.1.2.1.1.1]
          simp only [q_le (show aL A 0 4 < 2 ^ 31 by omega) (show k < 2 ^ 31 by omega)]
          rw [if_neg (by omega), l1.2.1.2.2.2, q_ix (by omega), (l1.2.2.2 k (by omega)).1, XHe Hk (by decide) (by decide), nI_add]
          refine ⟨l1.1, q_rin l1.2.2.1.2.2.2 (by omega) (by decide), Hk.1, x_far (by omega) hf ?_⟩
          have f1 := farF_lt (show aL A (5 + 2 * k) 4 < 48 by omega) hf
          have f2 := farF_lt (show aL A (5 + 2 * nrF (aL A) f k) 4 < 48 by omega) hf
          simp only [q_n9 (show nrF (aL A) f k < 2 ^ 31 by omega), if_false, q_le (show farF (aL A (5 + 2 * nrF (aL A) f k) 4) f < 2 ^ 31 by omega) (show farF (aL A (5 + 2 * k) 4) f < 2 ^ 31 by omega)]
          have ih := ih (k + 1) (by omega) (by omega)
          simp only [nrF] at ih
          rw [if_neg (show ¬ k = 0 by omega)] at ih
          by_cases c2 : farF (aL A (5 + 2 * nrF (aL A) f k) 4) f ≤ farF (aL A (5 + 2 * k) 4) f
          · rw [if_pos c2]
            rw [if_pos c2] at ih; exact ih
          · rw [if_neg c2]
            rw [if_neg c2] at ih; exact ih
      refine hP _ _ _ _ ⟨l.1.1, ?_⟩
      rw [l.1.2.1, X.2.1.2.1.1.1]
      simp only [q_le (show aL A 0 4 < 2 ^ 31 by omega) (show 0 < 2 ^ 31 by omega)]
      by_cases c3 : aL A 0 4 = 0
      · rw [if_pos (by omega)]
        rw [if_pos c3] at hQ
        refine ⟨l1.1, ?_⟩
        split <;> exact hQ
      · have H0 := XLhd X.2.1 (show 0 < aL A 0 4 by omega)
        have b4 := H0.2.2.2.2.2.2.2.2.1
        rw [if_neg (by omega), l1.2.1.2.2.2, q_ix (by omega), (l1.2.2.2 0 (by omega)).1, XHe H0 (by decide) (by decide), nI_add]
        refine ⟨l1.1, q_rin l1.2.2.1.2.2.2 (by omega) (by decide), H0.1, x_far (by omega) hf ?_⟩
        rw [if_pos (by decide)]
        exact K (aL A 0 4 - 1) 1 (by omega) (by omega)
    · rw [if_neg c1]
      rw [if_neg (fun q => c1 ((inR_le (n := 1) (by decide)).mpr q).2)] at hQ
      exact ⟨l.1.1, x_refuse X (by unfold rfok; decide) hQ⟩
  · rw [if_neg (by decide)]
    rw [if_neg c] at hQ
    exact ⟨l.1.1, x_refuse X (by unfold rfok; decide) hQ⟩
theorem y_nearest (X : MI_ S h m A) {v w : Int32} {Q : Int32 → Hp → Prop} (hQ : ∀ h', MI_ S h' m (nearA A v w).2 → FrY m h h' → Q (nearA A v w).1 h') : w_X7_nearest S m v w h Q := by
  have l := X.1.1
  have h5 := X.1.2.2.1
  unfold w_X7_nearest
  unfold nearA at hQ
  refine y_isField (fun c => ?_) (fun c => ?_)
  · rw [if_neg (by decide)]
    rw [if_pos c] at hQ
    refine y_isIn (fun cw => ?_) (fun cw => ?_)
    · have cw : inR w 2 := (inR_le (n := 1) (by decide)).mp cw
      rw [if_neg (by decide)]
      rw [if_pos cw] at hQ
      obtain ⟨f, hf, rfl⟩ := inR_ex c (by omega)
      rw [q_ix (by omega)] at hQ
      have hQ := hQ h X FrY_rf
      dsimp only at hQ
      unfold w_X7_nearest_c44
      intro P hP
      have K : ∀ (n k : Nat), n + k = aL A 0 4 → 0 < k → P (nI (nrF (aL A) f k)) (nI k) h := by
        intro n
        induction n with
        | zero =>
          intro k hk k0
          have nl := nrF_lt (aL A) f k k0
          have hn : nrF (aL A) f k < aL A 0 4 := by omega
          have n4 := (MLb X.1 hn).2.2.2.1
          refine hP _ _ _ ⟨l.1, ?_⟩
          rw [X.1.2.1.1.1]
          simp only [q_le (show aL A 0 4 < 2 ^ 31 by omega) (show k < 2 ^ 31 by omega), q_0le (show nrF (aL A) f k < 2 ^ 31 by omega), if_true]
          rw [if_pos (by omega), lr6 l, q_ix (by omega), MLe X.1 hn (show KC 4 7 by unfold KC; omega)]
          have ek : k = aL A 0 4 := by omega
          rw [if_neg (show ¬ aL A 0 4 = 0 by omega), ← ek] at hQ
          split
          · rename_i c2; rw [if_pos c2] at hQ; exact hQ
          · rename_i c2; rw [if_neg c2] at hQ
            exact ⟨q_ain (la6 l) (by omega) (by decide), y_far (by omega) hf hQ⟩
        | succ n ih =>
          intro k hk k0
          have hk' : k < aL A 0 4 := by omega
          have b4 := (MLb X.1 hk').2.2.2.1
          have nl := nrF_lt (aL A) f k k0
          have hn : nrF (aL A) f k < aL A 0 4 := by omega
          have n4 := (MLb X.1 hn).2.2.2.1
          refine hP _ _ _ ⟨l.1, ?_⟩
          rw [X.1.2.1.1.1]
          simp only [q_le (show aL A 0 4 < 2 ^ 31 by omega) (show k < 2 ^ 31 by omega), q_lt0 (show nrF (aL A) f k < 2 ^ 31 by omega), if_false]
          rw [if_neg (by omega), lr6 l, q_ix (by omega), q_ix (by omega), MLe X.1 hk' (show KC 4 7 by unfold KC; omega), nI_add]
          refine ⟨q_ain (la6 l) (by omega) (by decide), y_far (by omega) hf ?_⟩
          rw [MLe X.1 hn (show KC 4 7 by unfold KC; omega)]
          refine ⟨q_ain (la6 l) (by omega) (by decide), y_far (by omega) hf ?_⟩
          have f1 := farF_lt (show aL A (5 + 2 * k) 4 < 48 by omega) hf
          have f2 := farF_lt (show aL A (5 + 2 * nrF (aL A) f k) 4 < 48 by omega) hf
          simp only [q_le (show farF (aL A (5 + 2 * nrF (aL A) f k) 4) f < 2 ^ 31 by omega) (show farF (aL A (5 + 2 * k) 4) f < 2 ^ 31 by omega)]
          have ih := ih (k + 1) (by omega) (by omega)
          simp only [nrF] at ih
          rw [if_neg (show ¬ k = 0 by omega)] at ih
          by_cases c2 : farF (aL A (5 + 2 * nrF (aL A) f k) 4) f ≤ farF (aL A (5 + 2 * k) 4) f
          · rw [if_pos c2]
            rw [if_pos c2] at ih; exact ih
          · rw [if_neg c2]
            rw [if_neg c2] at ih; exact ih
      refine hP _ _ _ ⟨l.1, ?_⟩
      rw [X.1.2.1.1.1]
      simp only [q_le (show aL A 0 4 < 2 ^ 31 by omega) (show 0 < 2 ^ 31 by omega)]
      by_cases c3 : aL A 0 4 = 0
      · rw [if_pos (by omega), if_neg (by decide)]
        rw [if_pos c3] at hQ
        exact hQ
      · rw [if_neg (by omega), if_pos (by decide), nI_add]
        exact K (aL A 0 4 - 1) 1 (by omega) (by omega)
    · rw [if_pos (by decide)]
      rw [if_neg (fun q => cw ((inR_le (n := 1) (by decide)).mpr q))] at hQ
      exact ⟨l.1, y_no X (by unfold rfok; decide) hQ⟩
  · rw [if_pos (by decide)]
    rw [if_neg c] at hQ
    exact ⟨l.1, y_no X (by unfold rfok; decide) hQ⟩
theorem op_nearest (H : SI S h x A) {v w : Int32} {Q : Int32 → Int32 → Hp → Prop} (hQ : ∀ r A' h', SI S h' x A' → Q r r h') : w_X6_nearest S x v w h (fun r h1 => w_X7_nearest S (x + 180) v w h1 (fun r' h2 => Q r r' h2)) :=
  x_nearest H.1 (fun h1 X1 F1 => y_nearest (SI_m H F1) (fun h2 Y2 F2 => hQ _ _ h2 (SI_mk X1 Y2 F2)))
end OPS51
