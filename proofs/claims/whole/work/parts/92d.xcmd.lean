/-! PURE: land, a head comes to the class's land; the class's statements -/
section XCMD2
variable {S : St} {h h' : Hp} {x b k p w : Nat} {T : Nat → Nat} {D : PS} {L : Ld}
theorem x_newHead2 (X : XL S h b L) {k f g c : Nat} (h5 : L 0 4 < 5) (hk : k ≤ 7) (hf : f ≤ 9) (hg : g ≤ 47) (hc : c ≤ 25) {R : Hp → Prop} (hR : ∀ h29, Fr b h h29 → (∀ Q : Hp → Prop, (∀ h', XL S h' b (newL L k f g c) → Fr b h h' → Q h') → w_X1_lengthenNewestName S b (nI c) h29 Q) → R h29) : w_X1_addHead S b (nI k) (nI f) (nI g) h R := by
  have l := X.1
  have xs := (l.2.2.2 (L 0 4) h5).2
  unfold w_X1_addHead w_X1_isFull
  rw [X.2.1.1.1]
  simp only [q_lt (show L 0 4 < 2 ^ 31 by omega) (show 5 < 2 ^ 31 by decide)]
  rw [if_pos h5, if_pos (by decide), l.2.1.2.2.2, X.2.1.1.1, q_ix (by omega), (l.2.2.2 (L 0 4) h5).1]
  refine ⟨l.1, l.1, q_rin l.2.2.1.2.2.2 h5 (by decide), xs.1, x_begin xs.1 (fun h7 g0 g1 g4 gz ge => ?_)⟩
  rw [ge b 4 (by omega), X.2.1.1.1, nI_add]
  refine hR _ (fun a q q1 => by rw [up_ne (by omega)]; exact ge _ _ (by omega)) (fun Q hQ => ?_)
  unfold w_X1_lengthenNewestName
  rw [up_same, if_neg (show ¬ nI (L 0 4 + 1) ≤ 0 by rw [← nI_0, q_le (by omega) (by decide)]; omega), q_sub (show 1 ≤ L 0 4 + 1 by omega), show L 0 4 + 1 - 1 = L 0 4 from rfl, l.2.1.2.2.2, q_ix (by omega), (l.2.2.2 (L 0 4) h5).1]
  refine ⟨l.1, q_rin l.2.2.1.2.2.2 h5 (by decide), xs.1, ?_⟩
  have V : ∀ a q, ¬ (a = b ∧ q = 4) → (up h7 b 4 (nI (L 0 4 + 1))) a q = h7 a q := fun a q g => up_ne (by omega)
  unfold w_X0_lengthenName w_X0_hasFullName
  rw [V _ _ (by omega), gz 3 (by decide), xs.2.1]
  refine ⟨xs.1, xs.1, ?_⟩
  rw [if_pos (by decide)]
  dsimp only
  rw [if_pos (by decide), V _ _ (by omega), gz 3 (by decide), q_ix (by decide), up_ne (by omega), V _ _ (by omega), gz 3 (by decide), nI_add]
  refine ⟨q_ain xs.2.2 (by decide) (by decide), hQ _ (XLnew X h5 hk hf hg hc ?_ (fun j h1 h2 => ?_) ?_ (fun a q q1 q2 q3 => ?_)) (fun a q g => ?_)⟩
  · rw [up_ne (by omega), up_ne (by omega), up_same]
  · by_cases e3 : j = 3
    · subst e3; rw [up_same]; rfl
    · rw [up_ne (by omega), up_ne (by omega), V _ _ (by omega)]
      unfold nhF
      by_cases e0 : j = 0
      · rw [if_pos e0, e0]; exact g0
      rw [if_neg e0]
      by_cases e1 : j = 1
      · rw [if_pos e1, e1]; exact g1
      rw [if_neg e1, if_neg e3]
      by_cases e4 : j = 4
      · rw [if_pos e4, e4]; exact g4
      rw [if_neg e4]; exact gz j (by omega)
  · rw [up_ne (by omega), show b + (6 + 2 * L 0 4) = b + (5 + 2 * L 0 4) + 1 by omega, up_same]
  · rw [up_ne (by omega), up_ne (by omega), V _ _ (by omega)]; exact ge _ _ (by omega)
  · rw [up_ne (by omega), up_ne (by omega), V _ _ (by omega)]; exact ge _ _ (by omega)
theorem x_newest (X : XL S h b L) {i c : Nat} (hi : L 0 4 = i + 1) (hl : L (5 + 2 * i) 3 < 6) (hc : c ≤ 25) {Q : Hp → Prop} (hQ : ∀ h', XL S h' b (adL L i c) → Fr b h h' → Q h') : w_X1_lengthenNewestName S b (nI c) h Q := by
  have l := X.1
  have w5 := X.2.2.1
  have Hi := XLhd X (show i < L 0 4 by omega)
  unfold w_X1_lengthenNewestName
  rw [X.2.1.1.1, hi, if_neg (show ¬ nI (i + 1) ≤ 0 by rw [← nI_0, q_le (by omega) (by decide)]; omega), q_sub (show 1 ≤ i + 1 by omega), show i + 1 - 1 = i from rfl, l.2.1.2.2.2, q_ix (show i < 2 ^ 31 by omega), (l.2.2.2 i (by omega)).1]
  refine ⟨l.1, q_rin l.2.2.1.2.2.2 (by omega) (by decide), Hi.1, x_lengthen Hi hl (hQ _ (XLadd X (by omega) hl hc) ?_)⟩
  intro a q g
  rw [up_ne (by omega), up_ne (by omega)]
theorem x_nameC (l : LayX S x) (C : CT h x k T) (P0 : PX h x p w D) (G : GP k T D) (X : XL S h (x + 158) L) {kd : Nat} (hkd : kd ≤ 7) {Q : Int32 → Hp → Prop} (h1 : (D.1 = 3 ∧ nuF T D 0 ≤ 9 ∧ ltF T D 1 ∧ D.2.2 1 ≤ 6 ∧ nuF T D 2 ≤ 47 ∧ L 0 4 < 5) → ∀ h', XL S h' (x + 158) (headL L kd (nuF T D 0) (nuF T D 2) T (D.2.1 1) (D.2.2 1)) → Fr (x + 158) h h' → Q (nI 1) h') (h0 : ¬ (D.1 = 3 ∧ nuF T D 0 ≤ 9 ∧ ltF T D 1 ∧ D.2.2 1 ≤ 6 ∧ nuF T D 2 ≤ 47 ∧ L 0 4 < 5) → Q (nI 0) h) : w_X4_headComes S (x + 153) (x + 158) (nI kd) h Q := by
  have g3 := G.1
  have lx := X.1
  have w5 := X.2.2.1
  have lt := l.2.2.2.1
  unfold w_X4_headComes
  have bad : ∀ r5 : Int32, ¬ (D.1 = 3 ∧ nuF T D 0 ≤ 9 ∧ ltF T D 1 ∧ D.2.2 1 ≤ 6 ∧ nuF T D 2 ≤ 47 ∧ L 0 4 < 5) → True := fun _ _ => trivial
  refine ⟨lt.1, x_numM l C P0 G (j := 0) (by decide) (by decide) (fun c0 => ?_) (fun c0 => ?_)⟩
  · refine x_numM l C P0 G (j := 2) (by decide) (by decide) (fun c1 => ?_) (fun c1 => ?_)
    · rw [P0.1]
      simp only [q_eq (show D.1 < 2 ^ 31 by omega) (show 3 < 2 ^ 31 by decide)]
      by_cases c : D.1 = 3
      · rw [if_pos c, if_neg (q_m1lt (by omega)).2.1]
        refine x_isName l C P0 G (j := 1) (by decide) (fun c2 c6 => ?_) (fun c2 => ?_)
        · rw [if_neg (by decide), if_neg (q_m1lt (by omega)).2.1]
          unfold w_X1_isFull
          rw [X.2.1.1.1]
          simp only [q_lt (show L 0 4 < 2 ^ 31 by omega) (show 5 < 2 ^ 31 by decide)]
          refine ⟨lx.1, lx.1, ?_⟩
          by_cases c5 : L 0 4 < 5
          · rw [if_pos c5, if_pos (by decide)]
            obtain ⟨g0, g1, -⟩ := G.2 1 c2.1
            have ti := lt_in G c2 (i := 0) (by omega)
            rw [show D.2.1 1 + 0 = D.2.1 1 from rfl] at ti
            refine x_newHead2 X (k := kd) (f := nuF T D 0) (g := nuF T D 2) (c := T (D.2.1 1) - 97) c5 hkd c0 c1 (by omega) (fun h2 F2 N2 => ?_)
            unfold w_X4_headComes_c62
            intro P hP
            have K : ∀ (r q : Nat) (h3 : Hp), 1 ≤ q → q + r = D.2.2 1 → XL S h3 (x + 158) (headL L kd (nuF T D 0) (nuF T D 2) T (D.2.1 1) q) → Fr (x + 158) h h3 → P (nI q) h3 := by
              intro r
              induction r with
              | zero =>
                intro q h3 q1 hq X3 F3
                have hq : q = D.2.2 1 := by omega
                subst hq
                refine hP _ _ ⟨lt.1, ?_⟩
                rw [lt.2.2.2.1, q_ix (show 2 < 2 ^ 31 by decide), ((PX_F P0 F3).2.2.2 1 c2.1).2]
                simp only [q_le (show D.2.2 1 < 2 ^ 31 by omega) (show D.2.2 1 < 2 ^ 31 by omega)]
                rw [if_pos (Nat.le_refl _)]
                exact ⟨q_ain lt.2.2.2.2.2.2 (by decide) (by decide), h1 ⟨c, c0, c2, c6, c1, c5⟩ h3 X3 F3⟩
              | succ r ih =>
                intro q h3 q1 hq X3 F3
                refine hP _ _ ⟨lt.1, ?_⟩
                rw [lt.2.2.2.1, q_ix (show 2 < 2 ^ 31 by decide), ((PX_F P0 F3).2.2.2 1 c2.1).2]
                simp only [q_le (show D.2.2 1 < 2 ^ 31 by omega) (show q < 2 ^ 31 by omega)]
                rw [if_neg (by omega)]
                have tq := lt_in G c2 (i := q) (by omega)
                refine ⟨q_ain lt.2.2.2.2.2.2 (by decide) (by decide), x_letterAt l (CT_F C F3) (PX_F P0 F3) G (j := 1) (by decide) c2 (by omega) ⟨lx.1, ?_⟩⟩
                refine x_newest X3 (i := L 0 4) (c := T (D.2.1 1 + q) - 97) (headL_4 _ _ _ _ _ _ _) (by rw [headL_3]; omega) (by omega) (fun h4 X4 F4 => ?_)
                rw [headL_S] at X4
                rw [nI_add]
                exact ih (q + 1) h4 (by omega) (by omega) X4 (Fr_tr F3 F4)
            refine hP _ _ ⟨lt.1, ?_⟩
            rw [lt.2.2.2.1, q_ix (show 2 < 2 ^ 31 by decide), ((PX_F P0 F2).2.2.2 1 c2.1).2]
            simp only [q_le (show D.2.2 1 < 2 ^ 31 by omega) (show 0 < 2 ^ 31 by decide)]
            rw [if_neg (by omega)]
            refine ⟨q_ain lt.2.2.2.2.2.2 (by decide) (by decide), x_letterAt l (CT_F C F2) (PX_F P0 F2) G (j := 1) (i := 0) (by decide) c2 (by omega) ⟨lx.1, ?_⟩⟩
            refine N2 _ (fun h3 X3 F3 => ?_)
            rw [headL_1] at X3
            rw [nI_add]
            exact K (D.2.2 1 - 1) 1 h3 (by omega) (by omega) X3 F3
          · rw [if_neg c5, if_neg (by decide)]; exact h0 (fun q => c5 q.2.2.2.2.2)
        · rw [if_pos (by decide)]; exact h0 (fun q => c2 ⟨q.2.2.1, q.2.2.2.1⟩)
      · rw [if_neg c]; exact h0 (fun q => c q.1)
    · have z := h0 (fun q => c1 q.2.2.2.2.1)
      split
      · rw [if_neg (q_m1lt (by omega)).2.1]
        refine x_isName l C P0 G (j := 1) (by decide) (fun c2 c6 => ?_) (fun c2 => ?_)
        · rw [if_neg (by decide), if_pos (by decide)]; exact z
        · rw [if_pos (by decide)]; exact z
      · exact z
  · have z := h0 (fun q => c0 q.2.1)
    refine x_numM l C P0 G (j := 2) (by decide) (by decide) (fun c1 => ?_) (fun c1 => ?_)
    · split
      · rw [if_pos (by decide)]; exact z
      · exact z
    · split
      · rw [if_pos (by decide)]; exact z
      · exact z
theorem PX_0 (P : PX h x p w D) (G : GP k T D) (hw : w ≤ 7) (hk : p + w ≤ k) : PXj h x k T D.1 0 p w := ⟨P.1, G.1, by omega, fun _ => ⟨P.2.1, P.2.2.1, hw, hk⟩⟩
theorem x_cmd (l : LayX S x) (C : CT h x k T) (P0 : PX h x p w D) (G : GP k T D) (hw : w ≤ 7) (hk : p + w ≤ k) (X : XL S h (x + 158) L) (hn : L 0 5 ≤ 999) {Q : Int32 → Hp → Prop} (h1 : ∀ L', stmF T (wlF T p w) D L = some L' → ∀ h', XL S h' (x + 158) L' → Fr (x + 158) h h' → Q (nI 1) h') (h0 : stmF T (wlF T p w) D L = none → Q (nI 0) h) : w_X4_comesTo S (x + 153) (x + 158) h Q := by
  have lt := l.2.2.2.1
  have b1 : bo (nI 1) := Or.inr rfl
  have b0 : bo (nI 0) := Or.inl rfl
  unfold stmF at h1 h0
  unfold w_X4_comesTo
  have kc := ix_c (wlF T p w) W0 0 (by decide)
  have dc := ix_c (wlF T p w) W1 0 (by decide)
  have kl : W0.length = 8 := rfl
  have dl : W1.length = 6 := rfl
  refine ⟨lt.1, x_place l C (PX_0 P0 G hw hk) (by decide) lw0 (by decide) ?_⟩
  rw [if_pos (Nat.zero_le _)]
  unfold enW
  by_cases c : ixW (wlF T p w) W0 0 = 99
  · rw [if_pos c, if_pos (by decide)]
    rw [if_neg (fun q => q c)] at h0
    simp only [kdF, c, ne_eq, not_true_eq_false, if_false] at h1
    refine x_place l C (PX_0 P0 G hw hk) (by decide) lw1 (by decide) ?_
    rw [if_pos (Nat.zero_le _)]
    unfold enW
    by_cases c9 : ixW (wlF T p w) W1 0 = 99
    · rw [if_pos c9, if_neg (by decide), if_neg (by decide), if_neg (by decide), if_neg (by decide), if_neg (by decide), if_neg (by decide)]
      simp only [ddF, c9] at h0
      exact h0 rfl
    rw [if_neg c9]
    simp only [q_eq (show ixW (wlF T p w) W1 0 < 2 ^ 31 by omega) (show 0 < 2 ^ 31 by decide), q_eq (show ixW (wlF T p w) W1 0 < 2 ^ 31 by omega) (show 1 < 2 ^ 31 by decide), q_eq (show ixW (wlF T p w) W1 0 < 2 ^ 31 by omega) (show 2 < 2 ^ 31 by decide), q_eq (show ixW (wlF T p w) W1 0 < 2 ^ 31 by omega) (show 3 < 2 ^ 31 by decide), q_eq (show ixW (wlF T p w) W1 0 < 2 ^ 31 by omega) (show 4 < 2 ^ 31 by decide), q_eq (show ixW (wlF T p w) W1 0 < 2 ^ 31 by omega) (show 5 < 2 ^ 31 by decide)]
    by_cases d0 : ixW (wlF T p w) W1 0 = 0
    · rw [if_pos d0]
      simp only [ddF, d0, if_true] at h1 h0
      exact x_wallC l C P0 G X (fun g h' X' F' => ⟨b1, h1 _ (if_pos g) h' X' F'⟩) (fun g => ⟨b0, h0 (if_neg g)⟩)
    rw [if_neg d0]
    simp only [ddF, d0, if_false] at h1 h0
    by_cases d1 : ixW (wlF T p w) W1 0 = 1
    · rw [if_pos d1]
      simp only [d1, if_true] at h1 h0
      exact x_folkC l C P0 G X (fun g h' X' F' => ⟨b1, h1 _ (if_pos g) h' X' F'⟩) (fun g => ⟨b0, h0 (if_neg g)⟩)
    rw [if_neg d1]
    simp only [d1, if_false] at h1 h0
    by_cases d2 : ixW (wlF T p w) W1 0 = 2
    · rw [if_pos d2]
      simp only [d2, if_true] at h1 h0
      unfold w_X4_headTurns
      exact x_headC (v := 2) (q := 5) (ws := W2) (Q := fun r h' => bo r ∧ Q r h') l C P0 G X (by decide) lw2 (by decide) (Or.inl rfl) (fun i hi => Or.inl ⟨rfl, by have : W2.length = 4 := rfl; omega⟩) (fun g h' X' F' => ⟨b1, h1 _ (if_pos g) h' X' F'⟩) (fun g => ⟨b0, h0 (if_neg g)⟩)
    rw [if_neg d2]
    simp only [d2, if_false] at h1 h0
    by_cases d3 : ixW (wlF T p w) W1 0 = 3
    · rw [if_pos d3]
      simp only [d3, if_true] at h1 h0
      unfold w_X4_wordComes
      exact x_headC (v := 3) (q := 6) (ws := W3) (Q := fun r h' => bo r ∧ Q r h') l C P0 G X (by decide) lw3 (by decide) (Or.inr rfl) (fun i hi => Or.inr ⟨rfl, by have : W3.length = 5 := rfl; omega⟩) (fun g h' X' F' => ⟨b1, h1 _ (if_pos g) h' X' F'⟩) (fun g => ⟨b0, h0 (if_neg g)⟩)
    rw [if_neg d3]
    simp only [d3, if_false] at h1 h0
    by_cases d4 : ixW (wlF T p w) W1 0 = 4
    · rw [if_pos d4]
      simp only [d4, if_true] at h1 h0
      exact x_joinC l C P0 G X (fun g h' X' F' => ⟨b1, h1 _ (if_pos g) h' X' F'⟩) (fun g => ⟨b0, h0 (if_neg g)⟩)
    rw [if_neg d4]
    simp only [d4, if_false] at h1 h0
    have d5 : ixW (wlF T p w) W1 0 = 5 := by omega
    rw [if_pos d5]
    simp only [d5, if_true] at h1 h0
    exact x_nightC l C P0 G X hn (fun g h' X' F' => ⟨b1, h1 _ (if_pos g) h' X' F'⟩) (fun g => ⟨b0, h0 (if_neg g)⟩)
  · rw [if_neg c, if_neg (q_m1lt (by omega)).2.1]
    rw [if_pos c] at h0
    simp only [kdF, c, ne_eq, not_false_eq_true, if_true] at h1
    exact x_nameC l C P0 G X (kd := ixW (wlF T p w) W0 0) (by omega) (fun g h' X' F' => ⟨b1, h1 _ (if_pos g) h' X' F'⟩) (fun g => ⟨b0, h0 (if_neg g)⟩)
end XCMD2
