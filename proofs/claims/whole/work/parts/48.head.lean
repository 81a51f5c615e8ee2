/-! PURE: head, field -/
def headA (A : Ab) (v w : Int32) : Int32 × Ab := if inR v (aL A 0 4) then (if w = nI 0 then (nI (aL A (5 + 2 * ix v) 0), A) else (if w = nI 1 then (nI (aL A (5 + 2 * ix v) 1), A) else (if w = nI 2 then (nI (aL A (5 + 2 * ix v) 4), A) else (if w = nI 3 then (nI (aL A (5 + 2 * ix v) 5), A) else (if w = nI 4 then (nI (aL A (5 + 2 * ix v) 6), A) else (if w = nI 5 then (nI (aL A (5 + 2 * ix v) 7), A) else (if w = nI 6 then (nI (aL A (5 + 2 * ix v) 8), A) else (if w = nI 7 then (nI (aL A (5 + 2 * ix v) 3), A) else (if w = nI 8 then (nI (stepsF (aL A (5 + 2 * ix v))), A) else (if w = nI 9 then (nI (weightF (aL A (5 + 2 * ix v))), A) else (if w = nI 10 then (nI (veersF (aL A (5 + 2 * ix v)) (aL A (6 + 2 * ix v)) (aL A 0 5 + 1)), A) else (if w = nI 11 then (nI (enoughF (aL A (5 + 2 * ix v))), A) else rfA A (-2))))))))))))) else rfA A (-1)
section HEAD
variable {S : St} {h h' : Hp} {x m : Nat} {A : Ab}
theorem x_headOp (X : XI S h x A) {v w : Int32} {Q : Int32 → Hp → Prop} (hQ : ∀ h', XI S h' x (headA A v w).2 → FrX x h h' → Q (headA A v w).1 h') : w_X6_head S x v w h Q := by
  have l := X.1
  have l1 := l.2.1.1
  have h5 := X.2.2.2.2.2.2.2.1.1.1
  have hn := X.2.2.2.2.2.2.2.1.2
  unfold w_X6_head
  unfold headA at hQ
  refine ⟨l.1.1, x_noHead X (fun c => ?_) (fun c => ?_)⟩
  · rw [if_pos (by decide)]
    rw [if_pos c] at hQ
    obtain ⟨i, hi, rfl⟩ := inR_ex c (by omega)
    rw [q_ix (by omega)] at hQ
    rw [l.1.2.1, l1.2.1.2.2.2, q_ix (by omega), (l1.2.2.2 i (by omega)).1]
    have Hi := XLhd X.2.1 hi
    refine ⟨l1.1, q_rin l1.2.2.1.2.2.2 (by omega) (by decide), ?_⟩
    by_cases c0 : w = nI 0
    · rw [if_pos c0]
      rw [if_pos c0] at hQ
      rw [XHe Hi (k := 0) (by decide) (by decide)]
      exact ⟨Hi.1, hQ h X FrX_rf⟩
    rw [if_neg c0]
    rw [if_neg c0] at hQ
    by_cases c1 : w = nI 1
    · rw [if_pos c1]
      rw [if_pos c1] at hQ
      rw [XHe Hi (k := 1) (by decide) (by decide)]
      exact ⟨Hi.1, hQ h X FrX_rf⟩
    rw [if_neg c1]
    rw [if_neg c1] at hQ
    by_cases c2 : w = nI 2
    · rw [if_pos c2]
      rw [if_pos c2] at hQ
      rw [XHe Hi (k := 4) (by decide) (by decide)]
      exact ⟨Hi.1, hQ h X FrX_rf⟩
    rw [if_neg c2]
    rw [if_neg c2] at hQ
    by_cases c3 : w = nI 3
    · rw [if_pos c3]
      rw [if_pos c3] at hQ
      rw [XHe Hi (k := 5) (by decide) (by decide)]
      exact ⟨Hi.1, hQ h X FrX_rf⟩
    rw [if_neg c3]
    rw [if_neg c3] at hQ
    by_cases c4 : w = nI 4
    · rw [if_pos c4]
      rw [if_pos c4] at hQ
      rw [XHe Hi (k := 6) (by decide) (by decide)]
      exact ⟨Hi.1, hQ h X FrX_rf⟩
    rw [if_neg c4]
    rw [if_neg c4] at hQ
    by_cases c5 : w = nI 5
    · rw [if_pos c5]
      rw [if_pos c5] at hQ
      rw [XHe Hi (k := 7) (by decide) (by decide)]
      exact ⟨Hi.1, hQ h X FrX_rf⟩
    rw [if_neg c5]
    rw [if_neg c5] at hQ
    by_cases c6 : w = nI 6
    · rw [if_pos c6]
      rw [if_pos c6] at hQ
      have b8 := Hi.2.2.2.2.2.2.2.2.2.2.2.2.1
      rw [XHe Hi (k := 8) (by decide) (by decide)]
      refine ⟨Hi.1, ?_⟩
      rcases (show aL A (5 + 2 * i) 8 = 0 ∨ aL A (5 + 2 * i) 8 = 1 by omega) with e | e
      · rw [e, if_pos (by decide)]
        rw [e] at hQ
        exact hQ h X FrX_rf
      · rw [e, if_neg (by decide)]
        rw [e] at hQ
        exact hQ h X FrX_rf
    rw [if_neg c6]
    rw [if_neg c6] at hQ
    by_cases c7 : w = nI 7
    · rw [if_pos c7]
      rw [if_pos c7] at hQ
      rw [XHe Hi (k := 3) (by decide) (by decide)]
      exact ⟨Hi.1, hQ h X FrX_rf⟩
    rw [if_neg c7]
    rw [if_neg c7] at hQ
    by_cases c8 : w = nI 8
    · rw [if_pos c8]
      rw [if_pos c8] at hQ
      exact ⟨Hi.1, x_steps Hi (hQ h X FrX_rf)⟩
    rw [if_neg c8]
    rw [if_neg c8] at hQ
    by_cases c9 : w = nI 9
    · rw [if_pos c9]
      rw [if_pos c9] at hQ
      exact ⟨Hi.1, x_weight Hi (hQ h X FrX_rf)⟩
    rw [if_neg c9]
    rw [if_neg c9] at hQ
    by_cases c10 : w = nI 10
    · rw [if_pos c10]
      rw [if_pos c10] at hQ
      rw [X.2.1.2.1.1.2.1, nI_add]
      exact ⟨Hi.1, x_veers Hi (by omega) (hQ h X FrX_rf)⟩
    rw [if_neg c10]
    rw [if_neg c10] at hQ
    by_cases c11 : w = nI 11
    · rw [if_pos c11]
      rw [if_pos c11] at hQ
      exact ⟨Hi.1, x_enough Hi (hQ h X FrX_rf)⟩
    rw [if_neg c11]
    rw [if_neg c11] at hQ
    exact x_refuse X (by unfold rfok; decide) hQ
  · rw [if_neg (by decide)]
    rw [if_neg c] at hQ
    exact x_refuse X (by unfold rfok; decide) hQ
theorem y_headOp (X : MI_ S h m A) {v w : Int32} {Q : Int32 → Hp → Prop} (hQ : ∀ h', MI_ S h' m (headA A v w).2 → FrY m h h' → Q (headA A v w).1 h') : w_X7_head S m v w h Q := by
  have l := X.1.1
  have h5 := X.1.2.2.1
  have hn := X.2.2.2.2.2.2.1.2
  unfold w_X7_head
  unfold headA at hQ
  refine ⟨l.1, y_isHead X.1 (fun c => ?_) (fun c => ?_)⟩
  · rw [if_neg (by decide)]
    rw [if_pos c] at hQ
    obtain ⟨i, hi, rfl⟩ := inR_ex c (by omega)
    rw [q_ix (by omega)] at hQ
    rw [lr4 l, lr5 l, lr6 l, lr7 l, lr8 l, lr9 l, lr10 l, lr11 l, q_ix (by omega)]
    by_cases c0 : w = nI 0
    · rw [if_pos c0]
      rw [if_pos c0] at hQ
      rw [MLe X.1 (k := 0) (c := 5) hi (by unfold KC; omega)]
      exact ⟨q_ain (la4 l) (by omega) (by decide), hQ h X FrY_rf⟩
    rw [if_neg c0]
    rw [if_neg c0] at hQ
    by_cases c1 : w = nI 1
    · rw [if_pos c1]
      rw [if_pos c1] at hQ
      rw [MLe X.1 (k := 1) (c := 6) hi (by unfold KC; omega)]
      exact ⟨q_ain (la5 l) (by omega) (by decide), hQ h X FrY_rf⟩
    rw [if_neg c1]
    rw [if_neg c1] at hQ
    by_cases c2 : w = nI 2
    · rw [if_pos c2]
      rw [if_pos c2] at hQ
      rw [MLe X.1 (k := 4) (c := 7) hi (by unfold KC; omega)]
      exact ⟨q_ain (la6 l) (by omega) (by decide), hQ h X FrY_rf⟩
    rw [if_neg c2]
    rw [if_neg c2] at hQ
    by_cases c3 : w = nI 3
    · rw [if_pos c3]
      rw [if_pos c3] at hQ
      rw [MLe X.1 (k := 5) (c := 8) hi (by unfold KC; omega)]
      exact ⟨q_ain (la7 l) (by omega) (by decide), hQ h X FrY_rf⟩
    rw [if_neg c3]
    rw [if_neg c3] at hQ
    by_cases c4 : w = nI 4
    · rw [if_pos c4]
      rw [if_pos c4] at hQ
      rw [MLe X.1 (k := 6) (c := 9) hi (by unfold KC; omega)]
      exact ⟨q_ain (la8 l) (by omega) (by decide), hQ h X FrY_rf⟩
    rw [if_neg c4]
    rw [if_neg c4] at hQ
    by_cases c5 : w = nI 5
    · rw [if_pos c5]
      rw [if_pos c5] at hQ
      rw [MLe X.1 (k := 7) (c := 10) hi (by unfold KC; omega)]
      exact ⟨q_ain (la9 l) (by omega) (by decide), hQ h X FrY_rf⟩
    rw [if_neg c5]
    rw [if_neg c5] at hQ
    by_cases c6 : w = nI 6
    · rw [if_pos c6]
      rw [if_pos c6] at hQ
      rw [MLe X.1 (k := 8) (c := 11) hi (by unfold KC; omega)]
      exact ⟨q_ain (la10 l) (by omega) (by decide), hQ h X FrY_rf⟩
    rw [if_neg c6]
    rw [if_neg c6] at hQ
    by_cases c7 : w = nI 7
    · rw [if_pos c7]
      rw [if_pos c7] at hQ
      rw [MLe X.1 (k := 3) (c := 12) hi (by unfold KC; omega)]
      exact ⟨q_ain (la11 l) (by omega) (by decide), hQ h X FrY_rf⟩
    rw [if_neg c7]
    rw [if_neg c7] at hQ
    by_cases c8 : w = nI 8
    · rw [if_pos c8]
      rw [if_pos c8] at hQ
      exact y_steps X.1 hi (hQ h X FrY_rf)
    rw [if_neg c8]
    rw [if_neg c8] at hQ
    by_cases c9 : w = nI 9
    · rw [if_pos c9]
      rw [if_pos c9] at hQ
      exact y_weight X.1 hi (hQ h X FrY_rf)
    rw [if_neg c9]
    rw [if_neg c9] at hQ
    by_cases c10 : w = nI 10
    · rw [if_pos c10]
      rw [if_pos c10] at hQ
      rw [X.1.2.1.1.2.1, nI_add]
      exact y_veers X.1 hi (by omega) (hQ h X FrY_rf)
    rw [if_neg c10]
    rw [if_neg c10] at hQ
    by_cases c11 : w = nI 11
    · rw [if_pos c11]
      rw [if_pos c11] at hQ
      exact y_enough X.1 hi (hQ h X FrY_rf)
    rw [if_neg c11]
    rw [if_neg c11] at hQ
    exact y_no X (by unfold rfok; decide) hQ
  · rw [if_pos (by decide)]
    rw [if_neg c] at hQ
    exact y_no X (by unfold rfok; decide) hQ
theorem op_head (H : SI S h x A) {v w : Int32} {Q : Int32 → Int32 → Hp → Prop} (hQ : ∀ r A' h', SI S h' x A' → Q r r h') : w_X6_head S x v w h (fun r h1 => w_X7_head S (x + 180) v w h1 (fun r' h2 => Q r r' h2)) :=
  x_headOp H.1 (fun h1 X1 F1 => y_headOp (SI_m H F1) (fun h2 Y2 F2 => hQ _ _ h2 (SI_mk X1 Y2 F2)))
def hdsF (L : Ld) (f : Nat) : Nat := bitsF (fun i => decide (L (5 + 2 * i) 4 = f)) (L 0 4)
theorem x_headsOn {L : Ld} {b f : Nat} (X : XL S h b L) (hf : f < 48) {Q : Int32 → Hp → Prop} (hQ : Q (nI (hdsF L f)) h) : w_X1_headsOn S b (nI f) h Q := by
  have l := X.1
  have w := X.2.2.1
  unfold w_X1_headsOn w_X1_headsOn_c4
  intro P hP
  have K := q_upto (Pr := fun k => P (nI (bitsF (fun i => decide (L (5 + 2 * i) 4 = f)) k)) (nI k) h) (n := L 0 4) (by
    refine hP _ _ _ ⟨l.1, ?_⟩
    rw [X.2.1.1.1]
    simp only [q_le (show L 0 4 < 2 ^ 31 by omega) (show L 0 4 < 2 ^ 31 by omega)]
    rw [if_pos (Nat.le_refl _)]; exact hQ) (by
    intro k hk ih
    have Hk := XLhd X hk
    have b4 := Hk.2.2.2.2.2.2.2.2.1
    refine hP _ _ _ ⟨l.1, ?_⟩
    rw [X.2.1.1.1]
    simp only [q_le (show L 0 4 < 2 ^ 31 by omega) (show k < 2 ^ 31 by omega)]
    rw [if_neg (by omega), l.2.1.2.2.2, q_ix (by omega), (l.2.2.2 k (by omega)).1, XHe Hk (by decide) (by decide), nI_add]
    refine ⟨q_rin l.2.2.1.2.2.2 (by omega) (by decide), Hk.1, ?_⟩
    simp only [q_eq (show L (5 + 2 * k) 4 < 2 ^ 31 by omega) (show f < 2 ^ 31 by omega)]
    by_cases c : L (5 + 2 * k) 4 = f
    · rw [if_pos c, q_or (by omega) (bitsF_lt _ k)]
      simpa [bitsF, c] using ih
    · rw [if_neg c]
      simpa [bitsF, c] using ih)
  exact K 0 (by omega)
theorem y_headsOn {L : Ld} {f : Nat} (X : ML_ S h m L) (hf : f < 48) {Q : Int32 → Hp → Prop} (hQ : Q (nI (hdsF L f)) h) : w_X7_headsOn S m (nI f) h Q := by
  have l := X.1
  have w := X.2.2.1
  unfold w_X7_headsOn w_X7_headsOn_c4
  intro P hP
  have K := q_upto (Pr := fun k => P (nI (bitsF (fun i => decide (L (5 + 2 * i) 4 = f)) k)) (nI k) h) (n := L 0 4) (by
    refine hP _ _ _ ⟨l.1, ?_⟩
    rw [X.2.1.1.1]
    simp only [q_le (show L 0 4 < 2 ^ 31 by omega) (show L 0 4 < 2 ^ 31 by omega)]
    rw [if_pos (Nat.le_refl _)]; exact hQ) (by
    intro k hk ih
    have b4 := (MLb X hk).2.2.2.1
    refine hP _ _ _ ⟨l.1, ?_⟩
    rw [X.2.1.1.1]
    simp only [q_le (show L 0 4 < 2 ^ 31 by omega) (show k < 2 ^ 31 by omega)]
    rw [if_neg (by omega), lr6 l, q_ix (by omega), MLe X hk (show KC 4 7 by unfold KC; omega), nI_add]
    refine ⟨q_ain (la6 l) (by omega) (by decide), ?_⟩
    simp only [q_eq (show L (5 + 2 * k) 4 < 2 ^ 31 by omega) (show f < 2 ^ 31 by omega)]
    by_cases c : L (5 + 2 * k) 4 = f
    · rw [if_pos c, q_or (by omega) (bitsF_lt _ k)]
      simpa [bitsF, c] using ih
    · rw [if_neg c, q_orz]
      simpa [bitsF, c] using ih)
  exact K 0 (by omega)
def fieldA (A : Ab) (v w : Int32) : Int32 × Ab := if inR v 48 then (if w = nI 0 then (nI (aL A 1 (ix v)), A) else (if w = nI 1 then (nI (aL A 2 (ix v)), A) else (if w = nI 2 then (nI (aL A 3 (ix v)), A) else (if w = nI 3 then (nI (hdsF (aL A) (ix v)), A) else rfA A (-2))))) else rfA A (-1)
theorem x_fieldOp (X : XI S h x A) {v w : Int32} {Q : Int32 → Hp → Prop} (hQ : ∀ h', XI S h' x (fieldA A v w).2 → FrX x h h' → Q (fieldA A v w).1 h') : w_X6_field S x v w h Q := by
  have l := X.1
  have l1 := l.2.1.1
  unfold w_X6_field
  unfold fieldA at hQ
  refine x_noField (fun c => ?_) (fun c => ?_)
  · rw [if_pos (by decide)]
    rw [if_pos c] at hQ
    obtain ⟨f, hf, rfl⟩ := inR_ex c (by omega)
    rw [q_ix (by omega)] at hQ
    rw [l.1.2.1, l1.2.1.1, l1.2.1.2.1, l1.2.1.2.2.1, q_ix (by omega)]
    have E := X.2.1.2.1.2.1 f hf
    by_cases c0 : w = nI 0
    · rw [if_pos c0, E.1]
      rw [if_pos c0] at hQ
      exact ⟨l.1.1, l1.1, q_ain l1.2.2.1.1 hf (by decide), hQ h X FrX_rf⟩
    rw [if_neg c0]
    rw [if_neg c0] at hQ
    by_cases c1 : w = nI 1
    · rw [if_pos c1, E.2.1]
      rw [if_pos c1] at hQ
      exact ⟨l.1.1, l1.1, q_ain l1.2.2.1.2.1 hf (by decide), hQ h X FrX_rf⟩
    rw [if_neg c1]
    rw [if_neg c1] at hQ
    by_cases c2 : w = nI 2
    · rw [if_pos c2, E.2.2]
      rw [if_pos c2] at hQ
      exact ⟨l.1.1, l1.1, q_ain l1.2.2.1.2.2.1 hf (by decide), hQ h X FrX_rf⟩
    rw [if_neg c2]
    rw [if_neg c2] at hQ
    by_cases c3 : w = nI 3
    · rw [if_pos c3]
      rw [if_pos c3] at hQ
      exact ⟨l.1.1, l1.1, x_headsOn X.2.1 hf (hQ h X FrX_rf)⟩
    rw [if_neg c3]
    rw [if_neg c3] at hQ
    exact ⟨l.1.1, x_refuse X (by unfold rfok; decide) hQ⟩
  · rw [if_neg (by decide)]
    rw [if_neg c] at hQ
    exact ⟨l.1.1, x_refuse X (by unfold rfok; decide) hQ⟩
theorem y_fieldOp (X : MI_ S h m A) {v w : Int32} {Q : Int32 → Hp → Prop} (hQ : ∀ h', MI_ S h' m (fieldA A v w).2 → FrY m h h' → Q (fieldA A v w).1 h') : w_X7_field S m v w h Q := by
  have l := X.1.1
  unfold w_X7_field
  unfold fieldA at hQ
  refine y_isField (fun c => ?_) (fun c => ?_)
  · rw [if_neg (by decide)]
    rw [if_pos c] at hQ
    obtain ⟨f, hf, rfl⟩ := inR_ex c (by omega)
    rw [q_ix (by omega)] at hQ
    rw [lr1 l, lr2 l, lr3 l, q_ix (by omega)]
    have E := X.1.2.1.2.1 f hf
    by_cases c0 : w = nI 0
    · rw [if_pos c0, E.1]
      rw [if_pos c0] at hQ
      exact ⟨l.1, q_ain (la1 l) hf (by decide), hQ h X FrY_rf⟩
    rw [if_neg c0]
    rw [if_neg c0] at hQ
    by_cases c1 : w = nI 1
    · rw [if_pos c1, E.2.1]
      rw [if_pos c1] at hQ
      exact ⟨l.1, q_ain (la2 l) hf (by decide), hQ h X FrY_rf⟩
    rw [if_neg c1]
    rw [if_neg c1] at hQ
    by_cases c2 : w = nI 2
    · rw [if_pos c2, E.2.2]
      rw [if_pos c2] at hQ
      exact ⟨l.1, q_ain (la3 l) hf (by decide), hQ h X FrY_rf⟩
    rw [if_neg c2]
    rw [if_neg c2] at hQ
    by_cases c3 : w = nI 3
    · rw [if_pos c3]
      rw [if_pos c3] at hQ
      exact ⟨l.1, y_headsOn X.1 hf (hQ h X FrY_rf)⟩
    rw [if_neg c3]
    rw [if_neg c3] at hQ
    exact ⟨l.1, y_no X (by unfold rfok; decide) hQ⟩
  · rw [if_pos (by decide)]
    rw [if_neg c] at hQ
    exact ⟨l.1, y_no X (by unfold rfok; decide) hQ⟩
theorem op_field (H : SI S h x A) {v w : Int32} {Q : Int32 → Int32 → Hp → Prop} (hQ : ∀ r A' h', SI S h' x A' → Q r r h') : w_X6_field S x v w h (fun r h1 => w_X7_field S (x + 180) v w h1 (fun r' h2 => Q r r' h2)) :=
  x_fieldOp H.1 (fun h1 X1 F1 => y_fieldOp (SI_m H F1) (fun h2 Y2 F2 => hQ _ _ h2 (SI_mk X1 Y2 F2)))
end HEAD
