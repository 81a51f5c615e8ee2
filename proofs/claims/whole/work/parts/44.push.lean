/-! PURE: what can be taken back -/
def pushA (A : Ab) : Ab := sB A (if aN A = 8 then 8 else aN A + 1) (fun j => if aN A = 8 then (if j = 7 then aL A else aB A (j + 1)) else if j = aN A then aL A else aB A j)
def popA (A : Ab) : Ab := sL (sB A (aN A - 1) (aB A)) (aB A (aN A - 1))
theorem WA_push {A : Ab} (w : WA A) : WA (pushA A) := by
  obtain ⟨wl, wt, wb, wk, wr⟩ := w
  refine ⟨wl, wt, ⟨?_, fun j hj => ?_⟩, wk, wr⟩
  · show (if aN A = 8 then 8 else aN A + 1) ≤ 8
    have := wb.1
    split <;> omega
  · have hj : j < (if aN A = 8 then 8 else aN A + 1) := hj
    show WfL (if aN A = 8 then (if j = 7 then aL A else aB A (j + 1)) else if j = aN A then aL A else aB A j) ∧ (if aN A = 8 then (if j = 7 then aL A else aB A (j + 1)) else if j = aN A then aL A else aB A j) 0 5 ≤ 999
    by_cases c : aN A = 8
    · rw [if_pos c] at hj
      rw [if_pos c]
      by_cases c2 : j = 7
      · rw [if_pos c2]; exact wl
      · rw [if_neg c2]; exact wb.2 (j + 1) (by omega)
    · rw [if_neg c] at hj
      rw [if_neg c]
      by_cases c2 : j = aN A
      · rw [if_pos c2]; exact wl
      · rw [if_neg c2]; exact wb.2 j (by omega)
theorem WA_pop {A : Ab} (w : WA A) (hn : aN A ≠ 0) : WA (popA A) := by
  obtain ⟨wl, wt, wb, wk, wr⟩ := w
  have := wb.1
  exact ⟨wb.2 (aN A - 1) (by omega), wt, ⟨show aN A - 1 ≤ 8 by omega, fun j hj => wb.2 j (by have hj : j < aN A - 1 := hj; omega)⟩, wk, wr⟩
section PUSH
variable {S : St} {h h' : Hp} {x m : Nat} {A : Ab}
theorem XI_two (X : XI S h x A) {L : Ld} {n : Nat} {bk : Nat → Ld} (Y : XL S h' (x + 1) L) (P : XIp S h' x (sB A n bk)) (w : WA (sL (sB A n bk) L)) (e : ∀ a k, ¬ (x + 1 ≤ a ∧ a ≤ x + 15) → ¬ (x + 31 ≤ a ∧ a ≤ x + 152) → h' a k = h a k) : XI S h' x (sL (sB A n bk) L) := by
  obtain ⟨l, X1, Xi, Xp, Xt, Xr, Xf, _⟩ := X
  refine ⟨l, Y, ⟨?_, fun t => ?_⟩, P, ⟨?_, fun i hi => ?_⟩, ⟨?_, fun i hi => ?_⟩, fun q h1 h2 => ?_, w⟩
  · rw [e _ _ (by omega) (by omega)]; exact Xi.1
  · exact XL_same (Xi.2 t) (fun a k q1 q2 => e _ _ (by omega) (by omega))
  · rw [e _ _ (by omega) (by omega)]; exact Xt.1
  · rw [e _ _ (by omega) (by omega)]; exact Xt.2 i hi
  · rw [e _ _ (by omega) (by omega)]; exact Xr.1
  · rw [e _ _ (by omega) (by omega)]; exact Xr.2 i hi
  · rw [e _ _ (by omega) (by omega)]; exact Xf q h1 h2
theorem x_keep (X : XI S h x A) {Q : Hp → Prop} (hQ : ∀ h', XI S h' x (pushA A) → FrX x h h' → Q h') : w_X3_keep S (x + 31) (x + 1) h Q := by
  have l := X.1
  have w := X.2.2.2.2.2.2.2
  obtain ⟨n1, nx, n2, n3, n4⟩ := X.2.2.2.1
  have n8 := w.2.2.1.1
  unfold w_X3_keep
  rw [l.2.2.1.2.1, n3, q_ix (by omega), (l.2.1.2.2.2 nx n2).2]
  refine ⟨l.2.2.1.1, q_rin l.2.2.1.2.2 n2 (by decide), (l.2.1.2.2.2 nx n2).1.1, x_copy (l.2.1.2.2.2 nx n2).1 X.2.1 (by omega) (fun h4 Y F => ?_)⟩
  rw [F (x + 31) 1 (by omega), n3, nI_add, q_rem (by omega) (by decide) (by decide), up_ne (a := x + 31) (k := 1) (by omega), F (x + 31) 2 (by omega), n1, nI_add, q_min (by omega) (by decide)]
  refine hQ _ ?_ (FrX_up (FrX_up (FrX_of F (by omega)) (by decide)) (by decide))
  have G : ∀ a k, a ≠ x + 31 → (up (up h4 (x + 31) 1 (nI ((nx + 1) % 8))) (x + 31) 2 (nI (min (aN A + 1) 8))) a k = h4 a k := fun a k q => by rw [up_ne (by omega), up_ne (by omega)]
  refine XI_two X (L := aL A) ?_ ⟨?_, (nx + 1) % 8, by omega, ?_, fun j hj => ?_⟩ (WA_push w) (fun a k q1 q2 => ?_)
  · exact XL_same X.2.1 (fun a k q1 q2 => by rw [G _ _ (by omega)]; exact F _ _ (by omega))
  · rw [up_same]
    show nI (min (aN A + 1) 8) = nI (if aN A = 8 then 8 else aN A + 1)
    congr 1; split <;> omega
  · rw [up_ne (by omega), up_same]
  · have hj : j < (if aN A = 8 then 8 else aN A + 1) := hj
    show XL S (up (up h4 (x + 31) 1 (nI ((nx + 1) % 8))) (x + 31) 2 (nI (min (aN A + 1) 8))) (x + (33 + 15 * (((nx + 1) % 8 + 8 - (if aN A = 8 then 8 else aN A + 1) + j) % 8))) (if aN A = 8 then (if j = 7 then aL A else aB A (j + 1)) else if j = aN A then aL A else aB A j)
    have N : ∀ i, i < aN A → (nx + 8 - aN A + i) % 8 ≠ nx → XL S (up (up h4 (x + 31) 1 (nI ((nx + 1) % 8))) (x + 31) 2 (nI (min (aN A + 1) 8))) (x + (33 + 15 * ((nx + 8 - aN A + i) % 8))) (aB A i) := by
      intro i hi hs
      refine XL_same (n4 i hi) (fun a k q1 q2 => ?_)
      generalize (nx + 8 - aN A + i) % 8 = s at *
      rw [G _ _ (by omega)]; exact F _ _ (by omega)
    have Z : XL S (up (up h4 (x + 31) 1 (nI ((nx + 1) % 8))) (x + 31) 2 (nI (min (aN A + 1) 8))) (x + (33 + 15 * nx)) (aL A) := XL_same Y (fun a k q1 q2 => G _ _ (by omega))
    by_cases c : aN A = 8
    · rw [if_pos c] at hj
      rw [if_pos c, if_pos c]
      by_cases c2 : j = 7
      · rw [if_pos c2, show ((nx + 1) % 8 + 8 - 8 + j) % 8 = nx by omega]; exact Z
      · rw [if_neg c2, show ((nx + 1) % 8 + 8 - 8 + j) % 8 = (nx + 8 - aN A + (j + 1)) % 8 by omega]
        exact N (j + 1) (by omega) (by omega)
    · rw [if_neg c] at hj
      rw [if_neg c, if_neg c]
      by_cases c2 : j = aN A
      · rw [if_pos c2, show ((nx + 1) % 8 + 8 - (aN A + 1) + j) % 8 = nx by omega]; exact Z
      · rw [if_neg c2, show ((nx + 1) % 8 + 8 - (aN A + 1) + j) % 8 = (nx + 8 - aN A + j) % 8 by omega]
        exact N j (by omega) (by omega)
  · rw [G _ _ (by omega)]; exact F _ _ (by omega)
theorem x_takeBack (X : XI S h x A) (hn : aN A ≠ 0) {Q : Hp → Prop} (hQ : ∀ h', XI S h' x (popA A) → FrX x h h' → h' (x + 31) 2 = nI (aN A - 1) → Q h') : w_X3_takeBack S (x + 31) (x + 1) h Q := by
  have l := X.1
  have w := X.2.2.2.2.2.2.2
  obtain ⟨n1, nx, n2, n3, n4⟩ := X.2.2.2.1
  have n8 := w.2.2.1.1
  have c : ¬ nI (aN A) ≤ 0 := by rw [← nI_0, q_le (by omega) (by decide)]; omega
  unfold w_X3_takeBack
  rw [n1, if_neg c, n3, nI_add, q_sub (show 1 ≤ nx + 8 by omega), q_rem (by omega) (by decide) (by decide), up_same, l.2.2.1.2.1, q_ix (by omega), (l.2.1.2.2.2 ((nx + 8 - 1) % 8) (by omega)).2]
  have Y0 := n4 (aN A - 1) (by omega)
  rw [show (nx + 8 - aN A + (aN A - 1)) % 8 = (nx + 8 - 1) % 8 by omega] at Y0
  have Y1 : XL S (up h (x + 31) 1 (nI ((nx + 8 - 1) % 8))) (x + (33 + 15 * ((nx + 8 - 1) % 8))) (aB A (aN A - 1)) := XL_same Y0 (fun a k q1 q2 => up_ne (by omega))
  refine ⟨l.2.2.1.1, q_rin l.2.2.1.2.2 (by omega) (by decide), l.2.1.1.1, x_copy l.2.1.1 Y1 (by omega) (fun h5 Y F => ?_)⟩
  rw [F (x + 31) 2 (by omega), up_ne (a := x + 31) (k := 1) (by omega), n1, q_sub (show 1 ≤ aN A by omega)]
  refine hQ _ ?_ (FrX_up (FrX_tr (FrX_up FrX_rf (by decide)) (FrX_of F (by omega))) (by decide)) (up_same _ _ _ _)
  refine XI_two X (XL_same Y (fun a k q1 q2 => up_ne (by omega))) ⟨up_same _ _ _ _, (nx + 8 - 1) % 8, by omega, ?_, fun j hj => ?_⟩ (WA_pop w hn) (fun a k q1 q2 => ?_)
  · rw [up_ne (by omega), F _ _ (by omega), up_same]
  · have hj : j < aN A - 1 := hj
    show XL S _ (x + (33 + 15 * (((nx + 8 - 1) % 8 + 8 - (aN A - 1) + j) % 8))) (aB A j)
    rw [show ((nx + 8 - 1) % 8 + 8 - (aN A - 1) + j) % 8 = (nx + 8 - aN A + j) % 8 by omega]
    exact XL_same (n4 j (by omega)) (fun a k q1 q2 => by rw [up_ne (by omega), F _ _ (by omega), up_ne (by omega)])
  · rw [up_ne (by omega), F _ _ (by omega), up_ne (by omega)]
theorem x_forget (X : XI S h x A) {Q : Hp → Prop} (hQ : ∀ h', XI S h' x (sB A 0 (aB A)) → FrX x h h' → Q h') : w_X3_forget S (x + 31) h Q := by
  have l := X.1
  have w := X.2.2.2.2.2.2.2
  obtain ⟨n1, nx, n2, n3, n4⟩ := X.2.2.2.1
  unfold w_X3_forget
  refine ⟨l.2.2.1.1, hQ _ ?_ (FrX_up FrX_rf (by decide))⟩
  refine XI_two X (L := aL A) (XL_same X.2.1 (fun a k q1 q2 => up_ne (by omega))) ⟨up_same _ _ _ _, nx, n2, by rw [up_ne (by omega)]; exact n3, fun j hj => absurd hj (Nat.not_lt_zero j)⟩ ⟨w.1, w.2.1, ⟨Nat.zero_le _, fun j hj => absurd hj (Nat.not_lt_zero j)⟩, w.2.2.2⟩ (fun a k q1 q2 => up_ne (by omega))
theorem MI_two (X : MI_ S h m A) {L : Ld} {n : Nat} {bk : Nat → Ld} (Y : ML_ S h' m L) (P : MIp h' m (sB A n bk)) (w : WA (sL (sB A n bk) L)) (e : ∀ b k, ¬ (m + 2 ≤ b ∧ b ≤ m + 13) → ¬ (b = m ∧ ((13 ≤ k ∧ k ≤ 15) ∨ (27 ≤ k ∧ k ≤ 30))) → ¬ (b = m + 20 ∧ 654 ≤ k) → h' b k = h b k) : MI_ S h' m (sL (sB A n bk) L) := by
  obtain ⟨X1, Xi, Xp, Xt, Xr, Xf, w0⟩ := X
  refine ⟨Y, ⟨?_, fun t => ?_⟩, P, ⟨?_, fun i hi => ?_⟩, ⟨?_, fun i hi => ?_⟩, fun q h1 h2 => ?_, w⟩
  · rw [e _ _ (by omega) (by omega) (by omega)]; exact Xi.1
  · exact KSx_same (Xi.2 t) (w0.2.1.2 t).1 (fun k q1 q2 => e _ _ (by omega) (by omega) (by omega))
  · rw [e _ _ (by omega) (by omega) (by omega)]; exact Xt.1
  · rw [e _ _ (by omega) (by omega) (by omega)]; exact Xt.2 i hi
  · rw [e _ _ (by omega) (by omega) (by omega)]; exact Xr.1
  · rw [e _ _ (by omega) (by omega) (by omega)]; exact Xr.2 i hi
  · rw [e _ _ (by omega) (by omega) (by omega)]; exact Xf q h1 h2
theorem y_remembers (X : MI_ S h m A) {Q : Hp → Prop} (hQ : ∀ h', MI_ S h' m (pushA A) → FrY m h h' → Q h') : w_X7_remembers S m h Q := by
  have l := X.1.1
  have w := X.2.2.2.2.2.2
  obtain ⟨n1, fb, n2, n3, n4⟩ := X.2.2.1
  have n8 := w.2.2.1.1
  unfold w_X7_remembers
  rw [n1, n3]
  simp only [q_eq (show aN A < 2 ^ 31 by omega) (show 8 < 2 ^ 31 by decide), nI_add]
  refine ⟨l.1, ?_⟩
  have E : ∀ (h1 : Hp) (s fb' : Nat), (∀ b k, ¬ (b = m ∧ (k = 29 ∨ k = 30)) → h1 b k = h b k) → s < 8 → fb' < 8 → h1 m 30 = nI (if aN A = 8 then 8 else aN A + 1) → h1 m 29 = nI fb' → (fb' + (if aN A = 8 then 8 else aN A + 1) - 1) % 8 = s → (∀ j, j + 1 < (if aN A = 8 then 8 else aN A + 1) → (fb' + j) % 8 = (fb + (if aN A = 8 then j + 1 else j)) % 8) → w_X7_passesAll S m (nI (3 + s)) (nI 1) h1 (fun h3 => Q h3) := by
    intro h1 s fb' e1 hs hf e30 e29 es ej
    refine y_save (ML_same X.1 (fun a k q => e1 _ _ (by omega))) (w := 3 + s) (by omega) (fun h2 Y K F => hQ h2 ?_ (fun a k q => ?_))
    · refine MI_two X (L := aL A) Y ⟨?_, fb', hf, ?_, fun j hj => ?_⟩ (WA_push w) (fun b k q1 q2 q3 => ?_)
      · rw [F _ _ (by omega) (by omega)]; exact e30
      · rw [F _ _ (by omega) (by omega)]; exact e29
      · have hj : j < (if aN A = 8 then 8 else aN A + 1) := hj
        show KSx h2 m (3 + (fb' + j) % 8) (if aN A = 8 then (if j = 7 then aL A else aB A (j + 1)) else if j = aN A then aL A else aB A j)
        by_cases cl : j + 1 = (if aN A = 8 then 8 else aN A + 1)
        · rw [show (fb' + j) % 8 = s by rw [← es, ← cl]; rfl]
          have : (if aN A = 8 then (if j = 7 then aL A else aB A (j + 1)) else if j = aN A then aL A else aB A j) = aL A := by
            by_cases c : aN A = 8
            · rw [if_pos c] at cl; rw [if_pos c, if_pos (by omega)]
            · rw [if_neg c] at cl; rw [if_neg c, if_pos (by omega)]
          rw [this]; exact K
        · have ej := ej j (by omega)
          have ne : (fb' + j) % 8 ≠ s := by
            by_cases c : aN A = 8
            · rw [if_pos c] at es hj cl; omega
            · rw [if_neg c] at es hj cl; omega
          rw [ej] at ne ⊢
          have : (if aN A = 8 then (if j = 7 then aL A else aB A (j + 1)) else if j = aN A then aL A else aB A j) = aB A (if aN A = 8 then j + 1 else j) := by
            by_cases c : aN A = 8
            · rw [if_pos c] at cl; rw [if_pos c, if_pos c, if_neg (by omega)]
            · rw [if_neg c] at cl; rw [if_neg c, if_neg c, if_neg (by omega)]
          rw [this]
          have hj2 : (if aN A = 8 then j + 1 else j) < aN A := by
            by_cases c : aN A = 8
            · rw [if_pos c] at hj cl; rw [if_pos c]; omega
            · rw [if_neg c] at hj cl; rw [if_neg c]; omega
          refine KSx_same (n4 _ hj2) (w.2.2.1.2 _ hj2).1 (fun k q1 q2 => ?_)
          generalize (fb + (if aN A = 8 then j + 1 else j)) % 8 = t at *
          rw [F _ _ (by omega) (by omega)]; exact e1 _ _ (by omega)
      · rw [F _ _ (by omega) (by omega)]; exact e1 _ _ (by omega)
    · rw [F _ _ (by omega) (by omega)]; exact e1 _ _ (by omega)
  by_cases c : aN A = 8
  · rw [if_pos c, q_rem (by omega) (by decide) (by decide), up_same, up_ne (by omega), n1, nI_add, q_sub (by omega), q_rem (by omega) (by decide) (by decide), nI_add]
    refine E _ _ ((fb + 1) % 8) (fun b k q => up_ne (by omega)) (by omega) (by omega) ?_ (up_same _ _ _ _) ?_ (fun j hj => ?_)
    · rw [up_ne (by omega), n1, if_pos c, c]
    · rw [if_pos c, c]
    · rw [if_pos c]; omega
  · rw [if_neg c, up_same, up_ne (by omega), n3, nI_add, q_sub (by omega), q_rem (by omega) (by decide) (by decide), nI_add]
    refine E _ _ fb (fun b k q => up_ne (by omega)) (by omega) (by omega) ?_ ?_ ?_ (fun j hj => ?_)
    · rw [up_same, if_neg c]
    · rw [up_ne (by omega)]; exact n3
    · rw [if_neg c]
    · rw [if_neg c]
def backA (A : Ab) : Int32 × Ab := if aN A = 0 then rfA A (-3) else (nI (aN A - 1), popA A)
theorem x_back (X : XI S h x A) {Q : Int32 → Hp → Prop} (hQ : ∀ h', XI S h' x (backA A).2 → FrX x h h' → Q (backA A).1 h') : w_X6_back S x h Q := by
  have l := X.1
  have w := X.2.2.2.2.2.2.2
  have n8 := w.2.2.1.1
  unfold w_X6_back
  unfold backA at hQ
  rw [l.1.2.2.2.1, X.2.2.2.1.1]
  refine ⟨l.1.1, l.2.2.1.1, ?_⟩
  by_cases c : aN A = 0
  · rw [if_pos (by rw [c]; rfl)]
    rw [if_pos c] at hQ
    exact x_refuse X (by unfold rfok; decide) hQ
  · rw [if_neg (show ¬ nI (aN A) = 0 from fun q => c ((q_eq (show aN A < 2 ^ 31 by omega) (show 0 < 2 ^ 31 by decide)).mp q)), l.1.2.1]
    rw [if_neg c] at hQ
    refine x_takeBack X c (fun h' X' F' e => ?_)
    rw [e]; exact hQ h' X' F'
theorem y_back (X : MI_ S h m A) {Q : Int32 → Hp → Prop} (hQ : ∀ h', MI_ S h' m (backA A).2 → FrY m h h' → Q (backA A).1 h') : w_X7_back S m h Q := by
  have l := X.1.1
  have w := X.2.2.2.2.2.2
  obtain ⟨n1, fb, n2, n3, n4⟩ := X.2.2.1
  have n8 := w.2.2.1.1
  unfold w_X7_back
  unfold backA at hQ
  rw [n1]
  refine ⟨l.1, ?_⟩
  by_cases c : aN A = 0
  · rw [if_pos (by rw [c]; rfl)]
    rw [if_pos c] at hQ
    exact y_no X (by unfold rfok; decide) hQ
  · rw [if_neg (show ¬ nI (aN A) = 0 from fun q => c ((q_eq (show aN A < 2 ^ 31 by omega) (show 0 < 2 ^ 31 by decide)).mp q)), n3, nI_add, q_sub (show 1 ≤ fb + aN A by omega), q_rem (by omega) (by decide) (by decide), nI_add]
    rw [if_neg c] at hQ
    have K := n4 (aN A - 1) (by omega)
    rw [show fb + (aN A - 1) = fb + aN A - 1 by omega] at K
    refine y_load l (w := 3 + (fb + aN A - 1) % 8) (by omega) K (w.2.2.1.2 _ (by omega)).1 (fun h' Y F => ?_)
    have e30 : h' m 30 = nI (aN A) := by rw [F _ _ (by omega) (by omega)]; exact n1
    rw [e30, q_sub (show 1 ≤ aN A by omega), up_same]
    refine hQ _ ?_ (FrY_up0 (fun a k q => F a k (by omega) (by omega)))
    refine MI_two X (L := aB A (aN A - 1)) (ML_same Y (fun a k q => up_ne (by omega))) ⟨up_same _ _ _ _, fb, n2, ?_, fun j hj => ?_⟩ (WA_pop w c) (fun b k q1 q2 q3 => ?_)
    · rw [up_ne (by omega), F _ _ (by omega) (by omega)]; exact n3
    · have hj : j < aN A - 1 := hj
      refine KSx_same (n4 j (by omega)) (w.2.2.1.2 j (by omega)).1 (fun k q1 q2 => ?_)
      rw [up_ne (by omega), F _ _ (by omega) (by omega)]
    · rw [up_ne (by omega), F _ _ (by omega) (by omega)]
theorem op_back (H : SI S h x A) {Q : Int32 → Int32 → Hp → Prop} (hQ : ∀ r A' h', SI S h' x A' → Q r r h') : w_X6_back S x h (fun r h1 => w_X7_back S (x + 180) h1 (fun r' h2 => Q r r' h2)) :=
  x_back H.1 (fun h1 X1 F1 => y_back (SI_m H F1) (fun h2 Y2 F2 => hQ _ _ h2 (SI_mk X1 Y2 F2)))
end PUSH
