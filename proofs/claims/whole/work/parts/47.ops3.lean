/-! PURE: nights, image, restore, feed, head, field -/
section OPS3
variable {S : St} {h h' : Hp} {x m : Nat} {A : Ab}
def goNA (A : Ab) (n : Int32) : Int32 × Ab := if fN n 1 60 = 0 then (if aL A 0 5 + ix n ≤ 999 then (nI (nightsF (ix n) (aL A) 0 6), sL (pushA A) (nightsF (ix n) (aL A))) else rfA A (-6)) else rfA A (fN n 1 60)
theorem x_nightsOp (X : XI S h x A) {n : Int32} {Q : Int32 → Hp → Prop} (hQ : ∀ h', XI S h' x (goNA A n).2 → FrX x h h' → Q (goNA A n).1 h') : w_X6_nights S x n h Q := by
  have l := X.1
  have l1 := l.2.1.1
  have hn := X.2.2.2.2.2.2.2.1.2
  unfold w_X6_nights
  unfold goNA at hQ
  by_cases c1 : n < nI 1
  · rw [if_neg (Int32.not_le.mpr c1)]
    have e : fN n 1 60 = -4 := by unfold fN; rw [if_pos c1]
    rw [e, if_neg (by decide)] at hQ
    exact ⟨l.1.1, x_refuse X (by unfold rfok; decide) hQ⟩
  · rw [if_pos (Int32.not_lt.mp c1)]
    by_cases c2 : nI 60 < n
    · rw [if_pos c2]
      have e : fN n 1 60 = -6 := by unfold fN; rw [if_neg c1, if_pos c2]
      rw [e, if_neg (by decide)] at hQ
      exact ⟨l.1.1, x_refuse X (by unfold rfok; decide) hQ⟩
    · rw [if_neg c2]
      have e : fN n 1 60 = 0 := by unfold fN; rw [if_neg c1, if_neg c2]
      rw [if_pos e] at hQ
      obtain ⟨j, hj1, hj, rfl⟩ := fN_0 (by decide) (by decide) e
      rw [q_ix (by omega)] at hQ
      rw [l.1.2.1, X.2.1.2.1.1.2.1, nI_add]
      simp only [q_le (show aL A 0 5 + j < 2 ^ 31 by omega) (show 999 < 2 ^ 31 by decide)]
      refine ⟨l.1.1, l1.1, ?_⟩
      by_cases c3 : aL A 0 5 + j ≤ 999
      · rw [if_pos c3, l.1.2.2.2.1]
        rw [if_pos c3] at hQ
        refine ⟨l.2.2.1.1, x_keep X (fun h8 X8 F8 => x_pass (show XL S h8 (x + 1) (aL A) from X8.2.1) (by omega) (fun h9 Y9 F9 => ?_))⟩
        rw [Y9.2.1.1.2.2]
        exact hQ h9 (XI_now X8 Y9 F9 (by rw [(nightsF_0 j _).2]; omega)) (FrX_tr F8 (FrX_of F9 (by omega)))
      · rw [if_neg c3]
        rw [if_neg c3] at hQ
        exact x_refuse X (by unfold rfok; decide) hQ
theorem y_nightsOp (X : MI_ S h m A) {n : Int32} {Q : Int32 → Hp → Prop} (hQ : ∀ h', MI_ S h' m (goNA A n).2 → FrY m h h' → Q (goNA A n).1 h') : w_X7_nights S m n h Q := by
  have l := X.1.1
  have hn := X.2.2.2.2.2.2.1.2
  unfold w_X7_nights
  unfold goNA at hQ
  refine y_bound ?_
  by_cases g : fN n 1 60 = 0
  · rw [if_pos g]
    rw [if_pos g] at hQ
    obtain ⟨j, hj1, hj, rfl⟩ := fN_0 (by decide) (by decide) g
    rw [q_ix (by omega)] at hQ
    rw [X.1.2.1.1.2.1, nI_add]
    simp only [q_le (show aL A 0 5 + j < 2 ^ 31 by omega) (show 999 < 2 ^ 31 by decide)]
    refine ⟨l.1, ?_⟩
    by_cases c3 : aL A 0 5 + j ≤ 999
    · rw [if_pos c3]
      rw [if_pos c3] at hQ
      refine y_remembers X (fun h8 X8 F8 => y_goes (show ML_ S h8 m (aL A) from X8.1) (by omega) (fun h9 Y9 F9 => ?_))
      rw [Y9.2.1.1.2.2]
      exact hQ h9 (MI_rest X8 Y9 (by rw [(nightsF_0 j _).2]; omega) (FrD_of F9)) (FrY_tr F8 (FrY_M F9))
    · rw [if_neg c3]
      rw [if_neg c3] at hQ
      exact y_no X (by unfold rfok; decide) hQ
  · rw [if_neg g]
    rw [if_neg g] at hQ
    exact ⟨l.1, y_no X (rf_of (fN_c _ _ _) g) hQ⟩
theorem op_nights (H : SI S h x A) {n : Int32} {Q : Int32 → Int32 → Hp → Prop} (hQ : ∀ r A' h', SI S h' x A' → Q r r h') : w_X6_nights S x n h (fun r h1 => w_X7_nights S (x + 180) n h1 (fun r' h2 => Q r r' h2)) :=
  x_nightsOp H.1 (fun h1 X1 F1 => y_nightsOp (SI_m H F1) (fun h2 Y2 F2 => hQ _ _ h2 (SI_mk X1 Y2 F2)))
def imageA (A : Ab) : Int32 × Ab := (nI (aL A 0 5), sI A 1 (aL A))
theorem x_image (X : XI S h x A) {Q : Int32 → Hp → Prop} (hQ : ∀ h', XI S h' x (imageA A).2 → FrX x h h' → Q (imageA A).1 h') : w_X6_image S x h Q := by
  obtain ⟨l, X1, Xi, Xp, Xt, Xr, Xf, w⟩ := X
  have l1 := l.2.1.1
  unfold w_X6_image
  rw [l.1.2.1, l.1.2.2.1]
  refine ⟨l.1.1, l.2.1.2.1.1, x_copy l.2.1.2.1 X1 (by omega) (fun h3 Y F => ?_)⟩
  rw [up_ne (by omega), F _ _ (by omega), X1.2.1.1.2.1]
  refine ⟨l1.1, hQ _ ?_ (FrX_up0 (FrX_of F (by omega)))⟩
  have e : ∀ a k, ¬ (x + 16 ≤ a ∧ a ≤ x + 30) → ¬ (a = x ∧ k = 2) → (up h3 x 2 (nI 1)) a k = h a k := fun a k q1 q2 => by rw [up_ne (by omega), F _ _ (by omega)]
  refine ⟨l, XL_same X1 (fun a k q1 q2 => e _ _ (by omega) (by omega)), ⟨up_same _ _ _ _, fun _ => XL_same Y (fun a k q1 q2 => up_ne (by omega))⟩, ⟨?_, ?_⟩, ⟨?_, fun i hi => ?_⟩, ⟨?_, fun i hi => ?_⟩, fun q h1 h2 => ?_, w.1, ⟨Nat.le_refl _, fun _ => w.1⟩, w.2.2⟩
  · rw [e _ _ (by omega) (by omega)]; exact Xp.1
  · obtain ⟨nx, n1, n2, n3⟩ := Xp.2
    refine ⟨nx, n1, ?_, fun j hj => XL_same (n3 j hj) (fun a k q1 q2 => e _ _ (by omega) (by omega))⟩
    rw [e _ _ (by omega) (by omega)]; exact n2
  · rw [e _ _ (by omega) (by omega)]; exact Xt.1
  · rw [e _ _ (by omega) (by omega)]; exact Xt.2 i hi
  · rw [e _ _ (by omega) (by omega)]; exact Xr.1
  · rw [e _ _ (by omega) (by omega)]; exact Xr.2 i hi
  · rw [e _ _ (by omega) (by omega)]; exact Xf q h1 h2
theorem y_image (X : MI_ S h m A) {Q : Int32 → Hp → Prop} (hQ : ∀ h', MI_ S h' m (imageA A).2 → FrY m h h' → Q (imageA A).1 h') : w_X7_image S m h Q := by
  obtain ⟨X1, Xi, Xp, Xt, Xr, Xf, w⟩ := X
  have l := X1.1
  unfold w_X7_image
  refine ⟨l.1, y_save (ML_same X1 (fun a k q => up_ne (by omega))) (w := 0) (by omega) (fun h2 Y K F => ?_)⟩
  rw [Y.2.1.1.2.1]
  have e : ∀ b k, ¬ (b = m + 20 ∧ k < 218) → ¬ (b = m ∧ (k = 26 ∨ k = 27 ∨ k = 28)) → h2 b k = h b k := fun b k q1 q2 => by rw [F _ _ (by omega) (by omega), up_ne (by omega)]
  refine hQ h2 ⟨Y, ⟨?_, fun _ => K⟩, ⟨?_, ?_⟩, ⟨?_, fun i hi => ?_⟩, ⟨?_, fun i hi => ?_⟩, fun q h1 h2 => ?_, w.1, ⟨Nat.le_refl _, fun _ => w.1⟩, w.2.2⟩ (fun a k q => e _ _ (by omega) (by omega))
  · rw [F _ _ (by omega) (by omega), up_same]; rfl
  · rw [e _ _ (by omega) (by omega)]; exact Xp.1
  · obtain ⟨fb, n1, n2, n3⟩ := Xp.2
    refine ⟨fb, n1, ?_, fun j hj => KSx_same (n3 j hj) (w.2.2.1.2 j hj).1 (fun k q1 q2 => e _ _ (by omega) (by omega))⟩
    rw [e _ _ (by omega) (by omega)]; exact n2
  · rw [e _ _ (by omega) (by omega)]; exact Xt.1
  · rw [e _ _ (by omega) (by omega)]; exact Xt.2 i hi
  · rw [e _ _ (by omega) (by omega)]; exact Xr.1
  · rw [e _ _ (by omega) (by omega)]; exact Xr.2 i hi
  · rw [e _ _ (by omega) (by omega)]; exact Xf q h1 h2
theorem op_image (H : SI S h x A) {Q : Int32 → Int32 → Hp → Prop} (hQ : ∀ r A' h', SI S h' x A' → Q r r h') : w_X6_image S x h (fun r h1 => w_X7_image S (x + 180) h1 (fun r' h2 => Q r r' h2)) :=
  x_image H.1 (fun h1 X1 F1 => y_image (SI_m H F1) (fun h2 Y2 F2 => hQ _ _ h2 (SI_mk X1 Y2 F2)))
def restoreA (A : Ab) : Int32 × Ab := if aT A = 0 then rfA A (-3) else (nI (aI A 0 5), sL (sB A 0 (aB A)) (aI A))
theorem x_restore (X : XI S h x A) {Q : Int32 → Hp → Prop} (hQ : ∀ h', XI S h' x (restoreA A).2 → FrX x h h' → Q (restoreA A).1 h') : w_X6_restore S x h Q := by
  have l := X.1
  have l1 := l.2.1.1
  have w := X.2.2.2.2.2.2.2
  have t1 := w.2.1.1
  unfold w_X6_restore
  unfold restoreA at hQ
  rw [X.2.2.1.1]
  refine ⟨l.1.1, ?_⟩
  by_cases c : aT A = 0
  · rw [if_pos (by rw [c]; rfl)]
    rw [if_pos c] at hQ
    exact x_refuse X (by unfold rfok; decide) hQ
  · rw [if_neg (show ¬ nI (aT A) = 0 from fun q => c ((q_eq (show aT A < 2 ^ 31 by omega) (show 0 < 2 ^ 31 by decide)).mp q)), l.1.2.1, l.1.2.2.1, l.1.2.2.2.1]
    rw [if_neg c] at hQ
    have e1 : aT A = 1 := by omega
    refine ⟨l1.1, x_copy l1 (X.2.2.1.2 e1) (by omega) (fun h6 Y F => ⟨l.2.2.1.1, x_forget (XI_now X Y F (w.2.1.2 e1).2) (fun h8 X8 F8 => ?_)⟩)⟩
    rw [show h8 (x + 1) 5 = nI (aI A 0 5) from X8.2.1.2.1.1.2.1]
    exact hQ h8 X8 (FrX_tr (FrX_of F (by omega)) F8)
theorem y_restore (X : MI_ S h m A) {Q : Int32 → Hp → Prop} (hQ : ∀ h', MI_ S h' m (restoreA A).2 → FrY m h h' → Q (restoreA A).1 h') : w_X7_restore S m h Q := by
  have l := X.1.1
  have w := X.2.2.2.2.2.2
  have t1 := w.2.1.1
  unfold w_X7_restore
  unfold restoreA at hQ
  rw [X.2.1.1]
  refine ⟨l.1, ?_⟩
  by_cases c : aT A = 0
  · rw [if_pos (by rw [c]; rfl)]
    rw [if_pos c] at hQ
    exact y_no X (by unfold rfok; decide) hQ
  · rw [if_neg (show ¬ nI (aT A) = 0 from fun q => c ((q_eq (show aT A < 2 ^ 31 by omega) (show 0 < 2 ^ 31 by decide)).mp q))]
    rw [if_neg c] at hQ
    have e1 : aT A = 1 := by omega
    obtain ⟨n1, fb, n2, n3, n4⟩ := X.2.2.1
    refine y_load l (w := 0) (by omega) (X.2.1.2 e1) (w.2.1.2 e1).1 (fun h5 Y F => ?_)
    rw [up_ne (by omega), Y.2.1.1.2.1]
    refine hQ _ ?_ (FrY_up0 (fun a k q => F a k (by omega) (by omega)))
    exact MI_two X (L := aI A) (n := 0) (bk := aB A) (ML_same Y (fun a k q => up_ne (by omega))) ⟨up_same _ _ _ _, fb, n2, by rw [up_ne (by omega), F _ _ (by omega) (by omega)]; exact n3, fun j hj => absurd hj (Nat.not_lt_zero j)⟩ ⟨w.2.1.2 e1, w.2.1, ⟨Nat.zero_le _, fun j hj => absurd hj (Nat.not_lt_zero j)⟩, w.2.2.2⟩ (fun b k q1 q2 q3 => by rw [up_ne (by omega), F _ _ (by omega) (by omega)])
theorem op_restore (H : SI S h x A) {Q : Int32 → Int32 → Hp → Prop} (hQ : ∀ r A' h', SI S h' x A' → Q r r h') : w_X6_restore S x h (fun r h1 => w_X7_restore S (x + 180) h1 (fun r' h2 => Q r r' h2)) :=
  x_restore H.1 (fun h1 X1 F1 => y_restore (SI_m H F1) (fun h2 Y2 F2 => hQ _ _ h2 (SI_mk X1 Y2 F2)))
def feedA (A : Ab) (v : Int32) : Int32 × Ab := if fN v 0 255 = 0 then (if aK A = 96 then rfA A (-6) else (nI (aK A + 1), sT A (aK A + 1) (fun i => if i = aK A then ix v else aTp A i))) else rfA A (fN v 0 255)
theorem WA_feed (w : WA A) (hk : aK A ≠ 96) {j : Nat} (hj : j ≤ 255) : WA (sT A (aK A + 1) (fun i => if i = aK A then j else aTp A i)) := by
  obtain ⟨wl, wt, wb, wk, wr⟩ := w
  have := wk.1
  refine ⟨wl, wt, wb, ⟨show aK A + 1 ≤ 96 by omega, fun i hi => ?_⟩, wr⟩
  have hi : i < aK A + 1 := hi
  show (if i = aK A then j else aTp A i) ≤ 255
  split
  · exact hj
  · exact wk.2 i (by omega)
theorem x_feed (X : XI S h x A) {v : Int32} {Q : Int32 → Hp → Prop} (hQ : ∀ h', XI S h' x (feedA A v).2 → FrX x h h' → Q (feedA A v).1 h') : w_X6_feed S x v h Q := by
  have X0 := X
  obtain ⟨l, X1, Xi, Xp, Xt, Xr, Xf, w⟩ := X
  have k1 := w.2.2.2.1.1
  unfold w_X6_feed
  unfold feedA at hQ
  by_cases c1 : v < 0
  · rw [if_neg (fun q => absurd c1 (Int32.not_lt.mpr q))]
    rw [fN_neg c1, if_neg (by decide)] at hQ
    exact ⟨l.1.1, x_refuse X0 (by unfold rfok; decide) hQ⟩
  · rw [if_pos (Int32.not_lt.mp c1)]
    obtain ⟨j, hj, rfl⟩ := nI_of c1
    rw [fN_nI hj (by decide)] at hQ
    simp only [q_lt (show 255 < 2 ^ 31 by decide) hj]
    by_cases c2 : 255 < j
    · rw [if_pos c2]
      rw [if_pos c2, if_neg (by decide)] at hQ
      exact ⟨l.1.1, x_refuse X0 (by unfold rfok; decide) hQ⟩
    · rw [if_neg c2, l.1.2.2.2.2.1]
      rw [if_neg c2, if_pos rfl, q_ix (by omega)] at hQ
      have IF : ∀ {Q : Int32 → Hp → Prop}, (aK A = 96 → Q (nI 1) h) → (aK A ≠ 96 → Q (nI 0) h) → w_X4_isFull S (x + 153) h Q := by
        intro Q q1 q0
        unfold w_X4_isFull
        rw [Xt.1]
        simp only [q_lt (show aK A < 2 ^ 31 by omega) (show 96 < 2 ^ 31 by decide)]
        refine ⟨l.2.2.2.1.1, ?_⟩
        by_cases c : aK A = 96
        · rw [if_neg (by omega)]; exact q1 c
        · rw [if_pos (by omega)]; exact q0 c
      refine ⟨l.1.1, l.2.2.2.1.1, IF (fun c => ?_) (fun c => ?_)⟩
      · rw [if_neg (by decide)]
        rw [if_pos c] at hQ
        exact x_refuse X0 (by unfold rfok; decide) hQ
      · rw [if_pos (by decide)]
        rw [if_neg c] at hQ
        unfold w_X4_addLetter
        refine ⟨l.2.2.2.1.1, IF (fun c' => absurd c' c) (fun _ => ?_)⟩
        rw [if_pos (by decide), l.2.2.2.1.2.1, Xt.1, q_ix (by omega), up_same, up_ne (by omega), Xt.1, nI_add]
        refine ⟨q_ain l.2.2.2.1.2.2.2.2.1 (by omega) (by decide), hQ _ ?_ (FrX_up (FrX_up FrX_rf (by decide)) (by decide))⟩
        have e : ∀ a k, ¬ (a = x + 154) → ¬ (a = x + 153 ∧ k = 1) → (up (up h (x + 154) (aK A) (nI j)) (x + 153) 1 (nI (aK A + 1))) a k = h a k := fun a k q1 q2 => by rw [up_ne (by omega), up_ne (by omega)]
        refine ⟨l, XL_same X1 (fun a k q1 q2 => e _ _ (by omega) (by omega)), ⟨?_, fun t => ?_⟩, ⟨?_, ?_⟩, ⟨up_same _ _ _ _, fun i hi => ?_⟩, ⟨?_, fun i hi => ?_⟩, fun q h1 h2 => ?_, WA_feed w c (by omega)⟩
        · rw [e _ _ (by omega) (by omega)]; exact Xi.1
        · exact XL_same (Xi.2 t) (fun a k q1 q2 => e _ _ (by omega) (by omega))
        · rw [e _ _ (by omega) (by omega)]; exact Xp.1
        · obtain ⟨nx, n1, n2, n3⟩ := Xp.2
          refine ⟨nx, n1, ?_, fun j hj => XL_same (n3 j hj) (fun a k q1 q2 => e _ _ (by omega) (by omega))⟩
          rw [e _ _ (by omega) (by omega)]; exact n2
        · have hi : i < aK A + 1 := hi
          show _ = nI (if i = aK A then j else aTp A i)
          rw [up_ne (by omega)]
          by_cases ei : i = aK A
          · subst ei; rw [if_pos rfl, up_same]
          · rw [if_neg ei, up_ne (by omega)]; exact Xt.2 i (by omega)
        · rw [e _ _ (by omega) (by omega)]; exact Xr.1
        · rw [e _ _ (by omega) (by omega)]; exact Xr.2 i hi
        · rw [e _ _ (by omega) (by omega)]; exact Xf q h1 h2
theorem y_feed (X : MI_ S h m A) {v : Int32} {Q : Int32 → Hp → Prop} (hQ : ∀ h', MI_ S h' m (feedA A v).2 → FrY m h h' → Q (feedA A v).1 h') : w_X7_feed S m v h Q := by
  have X0 := X
  obtain ⟨X1, Xi, Xp, Xt, Xr, Xf, w⟩ := X
  have l := X1.1
  have k1 := w.2.2.2.1.1
  unfold w_X7_feed
  unfold feedA at hQ
  refine y_bound ?_
  by_cases g : fN v 0 255 = 0
  · rw [if_pos g]
    rw [if_pos g] at hQ
    obtain ⟨j, hj1, hj, rfl⟩ := fN_0 (by decide) (by decide) g
    rw [q_ix (by omega)] at hQ
    rw [Xt.1]
    simp only [q_eq (show aK A < 2 ^ 31 by omega) (show 96 < 2 ^ 31 by decide)]
    refine ⟨l.1, ?_⟩
    by_cases c : aK A = 96
    · rw [if_pos c]
      rw [if_pos c] at hQ
      exact y_no X0 (by unfold rfok; decide) hQ
    · rw [if_neg c, lr16 l, q_ix (by omega), up_same, up_ne (by omega), Xt.1, nI_add]
      rw [if_neg c] at hQ
      refine ⟨q_ain (la16 l) (by omega) (by decide), hQ _ ?_ (FrY_up0 (FrY_up FrY_rf (by decide)))⟩
      have e : ∀ a k, ¬ (a = m + 14) → ¬ (a = m ∧ k = 22) → (up (up h (m + 14) (aK A) (nI j)) m 22 (nI (aK A + 1))) a k = h a k := fun a k q1 q2 => by rw [up_ne (by omega), up_ne (by omega)]
      refine ⟨ML_same X1 (fun a k q => e _ _ (by omega) (by omega)), ⟨?_, fun t => ?_⟩, ⟨?_, ?_⟩, ⟨up_same _ _ _ _, fun i hi => ?_⟩, ⟨?_, fun i hi => ?_⟩, fun q h1 h2 => ?_, WA_feed w c hj⟩
      · rw [e _ _ (by omega) (by omega)]; exact Xi.1
      · exact KSx_same (Xi.2 t) (w.2.1.2 t).1 (fun k q1 q2 => e _ _ (by omega) (by omega))
      · rw [e _ _ (by omega) (by omega)]; exact Xp.1
      · obtain ⟨fb, n1, n2, n3⟩ := Xp.2
        refine ⟨fb, n1, ?_, fun j hj => KSx_same (n3 j hj) (w.2.2.1.2 j hj).1 (fun k q1 q2 => e _ _ (by omega) (by omega))⟩
        rw [e _ _ (by omega) (by omega)]; exact n2
      · have hi : i < aK A + 1 := hi
        show _ = nI (if i = aK A then j else aTp A i)
        rw [up_ne (by omega)]
        by_cases ei : i = aK A
        · subst ei; rw [if_pos rfl, up_same]
        · rw [if_neg ei, up_ne (by omega)]; exact Xt.2 i (by omega)
      · rw [e _ _ (by omega) (by omega)]; exact Xr.1
      · rw [e _ _ (by omega) (by omega)]; exact Xr.2 i hi
      · rw [e _ _ (by omega) (by omega)]; exact Xf q h1 h2
  · rw [if_neg g]
    rw [if_neg g] at hQ
    exact ⟨l.1, y_no X0 (rf_of (fN_c _ _ _) g) hQ⟩
theorem op_feed (H : SI S h x A) {v : Int32} {Q : Int32 → Int32 → Hp → Prop} (hQ : ∀ r A' h', SI S h' x A' → Q r r h') : w_X6_feed S x v h (fun r h1 => w_X7_feed S (x + 180) v h1 (fun r' h2 => Q r r' h2)) :=
  x_feed H.1 (fun h1 X1 F1 => y_feed (SI_m H F1) (fun h2 Y2 F2 => hQ _ _ h2 (SI_mk X1 Y2 F2)))
end OPS3
