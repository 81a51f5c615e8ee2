/-! PURE: land, what a statement does -/
/-- a head with n letters -/
def headL (L : Ld) (k f g : Nat) (T : Nat → Nat) (b n : Nat) : Ld := fun o j => if o = 0 ∧ j = 4 then L 0 4 + 1 else if o = 5 + 2 * L 0 4 then (if j = 3 then n else nhF k f g j) else if o = 6 + 2 * L 0 4 ∧ j < n then T (b + j) - 97 else L o j
theorem headL_1 (L : Ld) (k f g : Nat) (T : Nat → Nat) (b : Nat) : newL L k f g (T b - 97) = headL L k f g T b 1 := by
  funext o j
  unfold newL headL nhF
  by_cases c1 : o = 0 ∧ j = 4
  · rw [if_pos c1, if_pos c1]
  rw [if_neg c1, if_neg c1]
  by_cases c2 : o = 5 + 2 * L 0 4
  · rw [if_pos c2, if_pos c2]
    by_cases c3 : j = 3
    · rw [if_pos c3, if_neg (by omega), if_neg (by omega), if_pos c3]
    · rw [if_neg c3, if_neg c3]
  rw [if_neg c2, if_neg c2]
  by_cases c4 : o = 6 + 2 * L 0 4 ∧ j = 0
  · rw [if_pos c4, if_pos (by omega), c4.2]; rfl
  · rw [if_neg c4, if_neg (by omega)]
theorem headL_4 (L : Ld) (k f g : Nat) (T : Nat → Nat) (b n : Nat) : headL L k f g T b n 0 4 = L 0 4 + 1 := by unfold headL; rw [if_pos ⟨rfl, rfl⟩]
theorem headL_5 (L : Ld) (k f g : Nat) (T : Nat → Nat) (b n : Nat) : headL L k f g T b n 0 5 = L 0 5 := by unfold headL; rw [if_neg (by omega), if_neg (by omega), if_neg (by omega)]
theorem headL_3 (L : Ld) (k f g : Nat) (T : Nat → Nat) (b n : Nat) : headL L k f g T b n (5 + 2 * L 0 4) 3 = n := by unfold headL; rw [if_neg (by omega), if_pos rfl, if_pos rfl]
theorem headL_S (L : Ld) (k f g : Nat) (T : Nat → Nat) (b n : Nat) : adL (headL L k f g T b n) (L 0 4) (T (b + n) - 97) = headL L k f g T b (n + 1) := by
  unfold adL
  rw [headL_3]
  funext o j
  unfold updL headL
  by_cases c1 : o = 5 + 2 * L 0 4 ∧ j = 3
  · rw [if_pos c1, if_neg (by omega), if_pos c1.1, if_pos c1.2]
  rw [if_neg c1]
  by_cases c2 : o = 6 + 2 * L 0 4 ∧ j = n
  · rw [if_pos c2, if_neg (by omega), if_neg (by omega), if_pos (by omega), c2.2]
  rw [if_neg c2]
  by_cases c3 : o = 0 ∧ j = 4
  · rw [if_pos c3, if_pos c3]
  rw [if_neg c3, if_neg c3]
  by_cases c4 : o = 5 + 2 * L 0 4
  · rw [if_pos c4, if_pos c4, if_neg (by omega), if_neg (by omega)]
  rw [if_neg c4, if_neg c4]
  by_cases c5 : o = 6 + 2 * L 0 4 ∧ j < n
  · rw [if_pos c5, if_pos (by omega)]
  · rw [if_neg c5, if_neg (by omega)]
abbrev kdF (w : List Nat) : Nat := ixW w W0 0
abbrev ddF (w : List Nat) : Nat := ixW w W1 0
/-- what a statement with word w and parts D makes of a land -/
def stmF (T : Nat → Nat) (w : List Nat) (D : PS) (L : Ld) : Option Ld :=
  if kdF w ≠ 99 then (if D.1 = 3 ∧ nuF T D 0 ≤ 9 ∧ ltF T D 1 ∧ D.2.2 1 ≤ 6 ∧ nuF T D 2 ≤ 47 ∧ L 0 4 < 5 then some (headL L (kdF w) (nuF T D 0) (nuF T D 2) T (D.2.1 1) (D.2.2 1)) else none)
  else if ddF w = 0 then (if D.1 = 2 ∧ nuF T D 0 ≤ 47 ∧ nuF T D 1 ≤ 9 then some (updL L 1 (nuF T D 0) (nuF T D 1)) else none)
  else if ddF w = 1 then (if D.1 = 3 ∧ nuF T D 0 ≤ 47 ∧ nuF T D 1 ≤ 9 ∧ ltF T D 2 ∧ D.2.2 2 = 1 then some (updL (updL L 2 (nuF T D 0) (nuF T D 1)) 3 (nuF T D 0) (T (D.2.1 2) - 97)) else none)
  else if ddF w = 2 then (if D.1 = 2 ∧ nuF T D 0 < L 0 4 ∧ ixW (wlF T (D.2.1 1) (D.2.2 1)) W2 0 ≠ 99 then some (updL L (5 + 2 * nuF T D 0) 5 (ixW (wlF T (D.2.1 1) (D.2.2 1)) W2 0)) else none)
  else if ddF w = 3 then (if D.1 = 2 ∧ nuF T D 0 < L 0 4 ∧ ixW (wlF T (D.2.1 1) (D.2.2 1)) W3 0 ≠ 99 then some (updL L (5 + 2 * nuF T D 0) 6 (ixW (wlF T (D.2.1 1) (D.2.2 1)) W3 0)) else none)
  else if ddF w = 4 then (if D.1 = 2 ∧ nuF T D 0 < L 0 4 ∧ nuF T D 1 ≤ 99 then some (updL L (5 + 2 * nuF T D 0) 7 (nuF T D 1)) else none)
  else if ddF w = 5 then (if D.1 = 1 ∧ 1 ≤ nuF T D 0 ∧ nuF T D 0 ≤ 60 ∧ L 0 5 + nuF T D 0 ≤ 999 then some (nightsF (nuF T D 0) L) else none)
  else none
theorem ix_c (l : List Nat) : ∀ (ws : List (List Nat)) (i : Nat), i + ws.length ≤ 99 → ixW l ws i < i + ws.length ∨ ixW l ws i = 99
  | [], i, _ => Or.inr rfl
  | w :: r, i, h => by
    simp only [List.length_cons] at h ⊢
    show (if l = w then i else ixW l r (i + 1)) < _ ∨ (if l = w then i else ixW l r (i + 1)) = 99
    by_cases c : l = w
    · rw [if_pos c]; exact Or.inl (by omega)
    · rw [if_neg c]
      have := ix_c l r (i + 1) (by omega)
      omega
section XCMD
variable {S : St} {h h' : Hp} {x k p w : Nat} {T : Nat → Nat} {D : PS} {L : Ld}
theorem q_m1lt {a : Nat} (ha : a < 2 ^ 20) : (-1 : Int32) < 0 ∧ ¬ nI a < 0 ∧ 0 ≤ nI a ∧ ¬ (0 : Int32) ≤ -1 := ⟨by decide, by rw [q_lt0 (by omega)]; exact id, by rw [q_0le (by omega)]; trivial, by decide⟩
theorem x_numM (l : LayX S x) (C : CT h x k T) (P0 : PX h x p w D) (G : GP k T D) {j M : Nat} (hj : j < 3) (hM : M < 999) {Q : Int32 → Hp → Prop} (h1 : nuF T D j ≤ M → Q (nI (nuF T D j)) h) (h0 : ¬ nuF T D j ≤ M → Q (-1) h) : w_X4_number S (x + 153) (nI (j + 1)) (nI M) h Q := by
  refine x_number l C P0 G hj ?_
  have nc := nu_c G j
  simp only [q_lt (show M < 2 ^ 31 by omega) (show nuF T D j < 2 ^ 31 by omega)]
  by_cases c : nuF T D j = 999
  · rw [if_pos c]; exact h0 (by omega)
  · rw [if_neg c]
    by_cases c2 : M < nuF T D j
    · rw [if_pos c2]; exact h0 (by omega)
    · rw [if_neg c2]; exact h1 (by omega)
theorem x_numP (l : LayX S x) (C : CT h x k T) (P0 : PX h x p w D) (G : GP k T D) {j a : Nat} (hj : j < 3) (ha : a ≤ 5) {Q : Int32 → Hp → Prop} (h1 : nuF T D j < a → Q (nI (nuF T D j)) h) (h0 : ¬ nuF T D j < a → Q (-1) h) : w_X4_number S (x + 153) (nI (j + 1)) (nI a - nI 1) h Q := by
  refine x_number l C P0 G hj ?_
  have nc := nu_c G j
  have e : (nI a - nI 1 < nI (nuF T D j)) = (a ≤ nuF T D j) := propext (by
    have e1 : (nI a - nI 1).toInt = (a : Int) - 1 := q_subT (by omega) (by decide)
    have e2 : (nI (nuF T D j)).toInt = (nuF T D j : Int) := nI_toInt (by omega)
    rw [Int32.lt_iff_toInt_lt, e1, e2]; omega)
  simp only [e]
  by_cases c : nuF T D j = 999
  · rw [if_pos c]; exact h0 (by omega)
  · rw [if_neg c]
    by_cases c2 : a ≤ nuF T D j
    · rw [if_pos c2]; exact h0 (by omega)
    · rw [if_neg c2]; exact h1 (by omega)
theorem CT_F (C : CT h x k T) (f : Fr (x + 158) h h') : CT h' x k T := ⟨by rw [f _ _ (by omega)]; exact C.1, fun i hi => by rw [f _ _ (by omega)]; exact C.2.1 i hi, C.2.2⟩
theorem PX_F (P : PX h x p w D) (f : Fr (x + 158) h h') : PX h' x p w D := ⟨by rw [f _ _ (by omega)]; exact P.1, by rw [f _ _ (by omega)]; exact P.2.1, by rw [f _ _ (by omega)]; exact P.2.2.1, fun j hj => by rw [f _ _ (by omega), f _ _ (by omega)]; exact P.2.2.2 j hj⟩
theorem x_wallC (l : LayX S x) (C : CT h x k T) (P0 : PX h x p w D) (G : GP k T D) (X : XL S h (x + 158) L) {Q : Int32 → Hp → Prop} (h1 : (D.1 = 2 ∧ nuF T D 0 ≤ 47 ∧ nuF T D 1 ≤ 9) → ∀ h', XL S h' (x + 158) (updL L 1 (nuF T D 0) (nuF T D 1)) → Fr (x + 158) h h' → Q (nI 1) h') (h0 : ¬ (D.1 = 2 ∧ nuF T D 0 ≤ 47 ∧ nuF T D 1 ≤ 9) → Q (nI 0) h) : w_X4_wallComes S (x + 153) (x + 158) h Q := by
  have g3 := G.1
  have lx := X.1
  unfold w_X4_wallComes
  refine ⟨l.2.2.2.1.1, x_numM l C P0 G (j := 0) (by decide) (by decide) (fun c0 => ?_) (fun c0 => ?_)⟩
  · refine x_numM l C P0 G (j := 1) (by decide) (by decide) (fun c1 => ?_) (fun c1 => ?_)
    · rw [P0.1]
      simp only [q_eq (show D.1 < 2 ^ 31 by omega) (show 2 < 2 ^ 31 by decide)]
      by_cases c : D.1 = 2
      · rw [if_pos c, if_neg (q_m1lt (by omega)).2.1, if_pos (q_m1lt (by omega)).2.2.1, lx.2.1.1, q_ix (by omega)]
        exact ⟨lx.1, q_ain lx.2.2.1.1 (by omega) (by decide), h1 ⟨c, c0, c1⟩ _ (XLsetF X (o := 1) (Or.inl rfl) (by omega) (Or.inl c1)) (Fr_up Fr_rf (by decide))⟩
      · rw [if_neg c]; exact h0 (fun q => c q.1)
    · rw [P0.1]
      simp only [q_eq (show D.1 < 2 ^ 31 by omega) (show 2 < 2 ^ 31 by decide)]
      have z := h0 (fun q => c1 q.2.2)
      by_cases c : D.1 = 2
      · rw [if_pos c, if_neg (q_m1lt (by omega)).2.1, if_neg (q_m1lt (a := 0) (by decide)).2.2.2]; exact z
      · rw [if_neg c]; exact z
  · have z := h0 (fun q => c0 q.2.1)
    have E : ∀ r, (if (h (x + 153) 4) = (nI 2) then (if (-1 : Int32) < 0 then (Q (nI 0) h) else (if 0 ≤ r then (ob S (x + 158) 1 ∧ (ain S (S.2 (x + 158) 0) (-1) ∧ (Q (nI 1) (up h (S.2 (x + 158) 0) (ix (-1)) r)))) else (Q (nI 0) h))) else (Q (nI 0) h)) := fun r => by
      split
      · rw [if_pos (by decide)]; exact z
      · exact z
    refine x_numM l C P0 G (j := 1) (by decide) (by decide) (fun c1 => E _) (fun c1 => E _)
theorem x_folkC (l : LayX S x) (C : CT h x k T) (P0 : PX h x p w D) (G : GP k T D) (X : XL S h (x + 158) L) {Q : Int32 → Hp → Prop} (h1 : (D.1 = 3 ∧ nuF T D 0 ≤ 47 ∧ nuF T D 1 ≤ 9 ∧ ltF T D 2 ∧ D.2.2 2 = 1) → ∀ h', XL S h' (x + 158) (updL (updL L 2 (nuF T D 0) (nuF T D 1)) 3 (nuF T D 0) (T (D.2.1 2) - 97)) → Fr (x + 158) h h' → Q (nI 1) h') (h0 : ¬ (D.1 = 3 ∧ nuF T D 0 ≤ 47 ∧ nuF T D 1 ≤ 9 ∧ ltF T D 2 ∧ D.2.2 2 = 1) → Q (nI 0) h) : w_X4_folkCome S (x + 153) (x + 158) h Q := by
  have g3 := G.1
  have lx := X.1
  have lt := l.2.2.2.1
  unfold w_X4_folkCome
  refine ⟨lt.1, x_numM l C P0 G (j := 0) (by decide) (by decide) (fun c0 => ?_) (fun c0 => ?_)⟩
  · refine x_numM l C P0 G (j := 1) (by decide) (by decide) (fun c1 => ?_) (fun c1 => ?_)
    · rw [P0.1]
      simp only [q_eq (show D.1 < 2 ^ 31 by omega) (show 3 < 2 ^ 31 by decide)]
      by_cases c : D.1 = 3
      · rw [if_pos c, if_neg (q_m1lt (by omega)).2.1, if_neg (q_m1lt (by omega)).2.1]
        refine x_isName l C P0 G (j := 2) (by decide) (fun c2 c6 => ?_) (fun c2 => ?_)
        · rw [if_neg (by decide), lt.2.2.2.1, q_ix (show 3 < 2 ^ 31 by decide), (P0.2.2.2 2 c2.1).2]
          simp only [q_eq (show D.2.2 2 < 2 ^ 31 by omega) (show 1 < 2 ^ 31 by decide)]
          refine ⟨q_ain lt.2.2.2.2.2.2 (by decide) (by decide), ?_⟩
          by_cases c3 : D.2.2 2 = 1
          · rw [if_pos c3, lx.2.1.2.1, lx.2.1.2.2.1, q_ix (show nuF T D 0 < 2 ^ 31 by omega)]
            have F2 : Fr (x + 158) h (up h (x + 158 + 2) (nuF T D 0) (nI (nuF T D 1))) := Fr_up Fr_rf (by decide)
            have X2 := XLsetF X (o := 2) (f := nuF T D 0) (v := nuF T D 1) (Or.inr (Or.inl rfl)) (by omega) (Or.inl c1)
            have ti := lt_in G c2 (i := 0) (by omega)
            rw [Nat.add_zero] at ti
            refine ⟨lx.1, q_ain lx.2.2.1.2.1 (by omega) (by decide), x_letterAt l (CT_F C F2) (PX_F P0 F2) G (j := 2) (by decide) c2 (i := 0) (by omega) ?_⟩
            rw [show D.2.1 2 + 0 = D.2.1 2 from rfl]
            exact ⟨q_ain lx.2.2.1.2.2.1 (by omega) (by decide), h1 ⟨c, c0, c1, c2, c3⟩ _ (XLsetF X2 (o := 3) (v := T (D.2.1 2) - 97) (Or.inr (Or.inr rfl)) (by omega) (Or.inr ⟨rfl, by omega⟩)) (Fr_up F2 (o := 3) (by decide))⟩
          · rw [if_neg c3]; exact h0 (fun q => c3 q.2.2.2.2)
        · rw [if_pos (by decide)]; exact h0 (fun q => c2 ⟨q.2.2.2.1, by omega⟩)
      · rw [if_neg c]; exact h0 (fun q => c q.1)
    · have z := h0 (fun q => c1 q.2.2.1)
      split
      · rw [if_neg (q_m1lt (by omega)).2.1, if_pos (by decide)]; exact z
      · exact z
  · have z := h0 (fun q => c0 q.2.1)
    refine x_numM l C P0 G (j := 1) (by decide) (by decide) (fun c1 => ?_) (fun c1 => ?_)
    · split
      · rw [if_pos (by decide)]; exact z
      · exact z
    · split
      · rw [if_pos (by decide)]; exact z
      · exact z
theorem x_word (l : LayX S x) (C : CT h x k T) (P0 : PX h x p w D) (G : GP k T D) {v : Nat} (hv : v < 5) {ws : List (List Nat)} (hw : lwB v ws 0 = true) (hl : ws.length ≤ 20) {Q : Int32 → Hp → Prop} (h1 : 2 ≤ D.1 → Q (enW (ixW (wlF T (D.2.1 1) (D.2.2 1)) ws 0)) h) (h0 : ¬ 2 ≤ D.1 → Q (-1) h) : w_X4_placeAmong S (x + 153) (nI 2) v h Q := by
  refine x_place l C (PX_j P0 G (j := 1) (by decide)) hv hw hl ?_
  by_cases c : 1 + 1 ≤ D.1
  · rw [if_pos c]; exact h1 c
  · rw [if_neg c]; exact h0 c
theorem x_headC (l : LayX S x) (C : CT h x k T) (P0 : PX h x p w D) (G : GP k T D) (X : XL S h (x + 158) L) {v q : Nat} (hv : v < 5) {ws : List (List Nat)} (hw : lwB v ws 0 = true) (hl : ws.length ≤ 20) (hq : q = 5 ∨ q = 6) (hws : ∀ i, i < ws.length → (q = 5 ∧ i ≤ 3) ∨ (q = 6 ∧ i ≤ 4)) {Q : Int32 → Hp → Prop} (h1 : (D.1 = 2 ∧ nuF T D 0 < L 0 4 ∧ ixW (wlF T (D.2.1 1) (D.2.2 1)) ws 0 ≠ 99) → ∀ h', XL S h' (x + 158) (updL L (5 + 2 * nuF T D 0) q (ixW (wlF T (D.2.1 1) (D.2.2 1)) ws 0)) → Fr (x + 158) h h' → Q (nI 1) h') (h0 : ¬ (D.1 = 2 ∧ nuF T D 0 < L 0 4 ∧ ixW (wlF T (D.2.1 1) (D.2.2 1)) ws 0 ≠ 99) → Q (nI 0) h) : ob S (x + 158) 1 ∧ (ob S (x + 153) 4 ∧ (w_X4_number S (x + 153) (nI 1) ((h (x + 158) 4) - (nI 1)) h (fun r4 h3 => (w_X4_placeAmong S (x + 153) (nI 2) v h3 (fun r6 h5 => (if (h5 (x + 153) 4) = (nI 2) then (if r4 < 0 then (Q (nI 0) h5) else (if 0 ≤ r6 then (rin S 1 (S.2 (x + 158) 3) r4 ∧ (ob S (S.2 (S.2 (x + 158) 3) (ix r4)) 0 ∧ (Q (nI 1) (up h5 (S.2 (S.2 (x + 158) 3) (ix r4)) q r6)))) else (Q (nI 0) h5))) else (Q (nI 0) h5))))))) := by
  have g3 := G.1
  have lx := X.1
  have w5 := X.2.2.1
  have lt := l.2.2.2.1
  have ic := ix_c (wlF T (D.2.1 1) (D.2.2 1)) ws 0 (by omega)
  rw [X.2.1.1.1]
  refine ⟨lx.1, lt.1, x_numP l C P0 G (j := 0) (by decide) w5 (fun c0 => ?_) (fun c0 => ?_)⟩
  · refine x_word l C P0 G hv hw hl (fun c1 => ?_) (fun c1 => ?_)
    · rw [P0.1]
      simp only [q_eq (show D.1 < 2 ^ 31 by omega) (show 2 < 2 ^ 31 by decide)]
      by_cases c : D.1 = 2
      · rw [if_pos c, if_neg (q_m1lt (by omega)).2.1]
        unfold enW
        by_cases c2 : ixW (wlF T (D.2.1 1) (D.2.2 1)) ws 0 = 99
        · rw [if_pos c2, if_neg (q_m1lt (a := 0) (by decide)).2.2.2]
          exact h0 (fun q => q.2.2 c2)
        · rw [if_neg c2, if_pos (q_m1lt (by omega)).2.2.1, lx.2.1.2.2.2, q_ix (show nuF T D 0 < 2 ^ 31 by omega), (lx.2.2.2 _ (show nuF T D 0 < 5 by omega)).1]
          have Hi := XLhd X c0
          have hi := hws (ixW (wlF T (D.2.1 1) (D.2.2 1)) ws 0) (by omega)
          exact ⟨q_rin lx.2.2.1.2.2.2 (by omega) (by decide), Hi.1, h1 ⟨c, c0, c2⟩ _ (XLsetH X c0 (by omega) (by omega) (by omega) (HB_up Hi.2.2.2.2.2 (by omega))) (Fr_up Fr_rf (by omega))⟩
      · rw [if_neg c]; exact h0 (fun q => c q.1)
    · rw [P0.1]
      simp only [q_eq (show D.1 < 2 ^ 31 by omega) (show 2 < 2 ^ 31 by decide)]
      rw [if_neg (by omega)]
      exact h0 (fun q => c1 (by omega))
  · have z := h0 (fun q => c0 q.2.1)
    have E : ∀ r, (if (h (x + 153) 4) = (nI 2) then (if (-1 : Int32) < 0 then (Q (nI 0) h) else (if 0 ≤ r then (rin S 1 (S.2 (x + 158) 3) (-1) ∧ (ob S (S.2 (S.2 (x + 158) 3) (ix (-1))) 0 ∧ (Q (nI 1) (up h (S.2 (S.2 (x + 158) 3) (ix (-1))) q r)))) else (Q (nI 0) h))) else (Q (nI 0) h)) := fun r => by
      split
      · rw [if_pos (by decide)]; exact z
      · exact z
    exact x_word l C P0 G hv hw hl (fun c1 => E _) (fun c1 => E _)
theorem x_joinC (l : LayX S x) (C : CT h x k T) (P0 : PX h x p w D) (G : GP k T D) (X : XL S h (x + 158) L) {Q : Int32 → Hp → Prop} (h1 : (D.1 = 2 ∧ nuF T D 0 < L 0 4 ∧ nuF T D 1 ≤ 99) → ∀ h', XL S h' (x + 158) (updL L (5 + 2 * nuF T D 0) 7 (nuF T D 1)) → Fr (x + 158) h h' → Q (nI 1) h') (h0 : ¬ (D.1 = 2 ∧ nuF T D 0 < L 0 4 ∧ nuF T D 1 ≤ 99) → Q (nI 0) h) : w_X4_followersCome S (x + 153) (x + 158) h Q := by
  have g3 := G.1
  have lx := X.1
  have w5 := X.2.2.1
  have lt := l.2.2.2.1
  unfold w_X4_followersCome
  rw [X.2.1.1.1]
  refine ⟨lx.1, lt.1, x_numP l C P0 G (j := 0) (by decide) w5 (fun c0 => ?_) (fun c0 => ?_)⟩
  · refine x_numM l C P0 G (j := 1) (by decide) (by decide) (fun c1 => ?_) (fun c1 => ?_)
    · rw [P0.1]
      simp only [q_eq (show D.1 < 2 ^ 31 by omega) (show 2 < 2 ^ 31 by decide)]
      by_cases c : D.1 = 2
      · rw [if_pos c, if_neg (q_m1lt (by omega)).2.1, if_pos (q_m1lt (by omega)).2.2.1, lx.2.1.2.2.2, q_ix (show nuF T D 0 < 2 ^ 31 by omega), (lx.2.2.2 _ (show nuF T D 0 < 5 by omega)).1]
        have Hi := XLhd X c0
        exact ⟨q_rin lx.2.2.1.2.2.2 (by omega) (by decide), Hi.1, h1 ⟨c, c0, c1⟩ _ (XLsetH X c0 (by omega) (by omega) (by omega) (HB_up Hi.2.2.2.2.2 (by omega))) (Fr_up Fr_rf (by omega))⟩
      · rw [if_neg c]; exact h0 (fun q => c q.1)
    · have z := h0 (fun q => c1 q.2.2)
      split
      · rw [if_neg (q_m1lt (by omega)).2.1, if_neg (q_m1lt (a := 0) (by decide)).2.2.2]; exact z
      · exact z
  · have z := h0 (fun q => c0 q.2.1)
    refine x_numM l C P0 G (j := 1) (by decide) (by decide) (fun c1 => ?_) (fun c1 => ?_)
    · split
      · rw [if_pos (by decide)]; exact z
      · exact z
    · split
      · rw [if_pos (by decide)]; exact z
      · exact z
theorem x_nightC (l : LayX S x) (C : CT h x k T) (P0 : PX h x p w D) (G : GP k T D) (X : XL S h (x + 158) L) (hn : L 0 5 ≤ 999) {Q : Int32 → Hp → Prop} (h1 : (D.1 = 1 ∧ 1 ≤ nuF T D 0 ∧ nuF T D 0 ≤ 60 ∧ L 0 5 + nuF T D 0 ≤ 999) → ∀ h', XL S h' (x + 158) (nightsF (nuF T D 0) L) → Fr (x + 158) h h' → Q (nI 1) h') (h0 : ¬ (D.1 = 1 ∧ 1 ≤ nuF T D 0 ∧ nuF T D 0 ≤ 60 ∧ L 0 5 + nuF T D 0 ≤ 999) → Q (nI 0) h) : w_X4_nightsGoBy S (x + 153) (x + 158) h Q := by
  have g3 := G.1
  have lx := X.1
  unfold w_X4_nightsGoBy
  refine ⟨l.2.2.2.1.1, x_numM l C P0 G (j := 0) (by decide) (by decide) (fun c0 => ?_) (fun c0 => ?_)⟩
  · rw [P0.1, X.2.1.1.2.1, nI_add]
    simp only [q_eq (show D.1 < 2 ^ 31 by omega) (show 1 < 2 ^ 31 by decide), q_lt (show nuF T D 0 < 2 ^ 31 by omega) (show 1 < 2 ^ 31 by decide), q_le (show L 0 5 + nuF T D 0 < 2 ^ 31 by omega) (show 999 < 2 ^ 31 by decide)]
    by_cases c : D.1 = 1
    · rw [if_pos c]
      by_cases c1 : nuF T D 0 < 1
      · rw [if_pos c1]; exact h0 (fun q => by omega)
      rw [if_neg c1]
      by_cases c2 : L 0 5 + nuF T D 0 ≤ 999
      · rw [if_pos c2]
        exact ⟨lx.1, x_pass X (by omega) (fun h' X' F' => h1 ⟨c, by omega, c0, c2⟩ h' X' F')⟩
      · rw [if_neg c2]; exact ⟨lx.1, h0 (fun q => c2 q.2.2.2)⟩
    · rw [if_neg c]; exact h0 (fun q => c q.1)
  · have z := h0 (fun q => c0 q.2.2.1)
    split
    · rw [if_pos (by decide)]; exact z
    · exact z
end XCMD
