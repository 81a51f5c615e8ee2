/-! PURE: the best letter -/
section LETTER
variable {S : St} {h : Hp} {x b m : Nat} {L : Ld} {A : Ab}
def bestLetterA (A : Ab) (v n w : Int32) : Int32 × Ab := if ckA (inR v (aL A 0 4)) n 0 30 w 2 = 0 then (if aL A (5 + 2 * ix v) 3 = 6 then -9 else if w = 0 then (bestF (aL A) 3 (ix v) (ix n)).1 else (bestF (aL A) 3 (ix v) (ix n)).2, A) else rfA A (ckA (inR v (aL A 0 4)) n 0 30 w 2)
theorem x_bestLetter (X : XI S h x A) {v n w : Int32} {Q : Int32 → Hp → Prop} (hQ : ∀ h', XI S h' x (bestLetterA A v n w).2 → FrX x h h' → Q (bestLetterA A v n w).1 h') : w_X6_bestLetter S x v n w h Q := by
  have l := X.1
  have h5 := X.2.2.2.2.2.2.2.1.1.1
  unfold w_X6_bestLetter
  unfold bestLetterA at hQ
  have o2 := l.2.2.2.2.1.1
  have T : ∀ nb : Int32, (nb = 0 ↔ inR v (aL A 0 4)) → w_X6_faultOfAsked S nb n (nI 0) (nI 30) w (nI 1) h (fun r5 h4 => (if r5 = 0 then (ob S (S.2 x 0) 1 ∧ (rin S 1 (S.2 (S.2 x 0) 3) v ∧ (ob S (S.2 (S.2 (S.2 x 0) 3) (ix v)) 0 ∧ (w_X0_hasFullName S (S.2 (S.2 (S.2 x 0) 3) (ix v)) h4 (fun r11 h10 => (if r11 = 0 then (if w = (nI 1) then (ob S (S.2 x 5) 2 ∧ (w_X2_bestChoice S (S.2 x 5) (S.2 x 0) v n (nI 3) (nI 1) h10 (fun r16 h15 => (Q r16 h15)))) else (ob S (S.2 x 5) 2 ∧ (w_X2_bestChoice S (S.2 x 5) (S.2 x 0) v n (nI 3) (nI 0) h10 (fun r19 h18 => (Q r19 h18))))) else (Q (-9) h10))))))) else (w_X6_refuse S x r5 h4 (fun r21 h20 => (Q r21 h20))))) := by
    intro nb hnb
    refine x_faultA (by decide) ?_
    rw [ckA_iff hnb]
    by_cases g : ckA (inR v (aL A 0 4)) n 0 30 w 2 = 0
    · rw [if_pos g] at hQ
      rw [show ckA (inR v (aL A 0 4)) n 0 30 w (1 + 1) = 0 from g, if_pos rfl]
      obtain ⟨g1, g2, g3⟩ := ckA_0 g
      obtain ⟨i, hi, rfl⟩ := inR_ex g1 (by omega)
      obtain ⟨j, -, hj, rfl⟩ := fN_0 (by decide) (by decide) g2
      obtain ⟨k, hk, rfl⟩ := inR_ex g3 (by decide)
      rw [q_ix (by omega), q_ix (by omega)] at hQ
      rw [l.1.2.2.2.2.2.1, l.1.2.1]
      have l1 := l.2.1.1
      have Hi := XLhd X.2.1 hi
      rw [l1.2.1.2.2.2, q_ix (by omega), (l1.2.2.2 i (by omega)).1]
      refine ⟨l1.1, q_rin l1.2.2.1.2.2.2 (by omega) (by decide), Hi.1, x_hasFull Hi (fun e6 => ?_) (fun e6 => ?_)⟩
      · rw [if_neg (by decide)]
        have := hQ h X FrX_rf; rw [if_pos e6] at this; exact this
      rw [if_pos (by decide)]
      rw [if_neg (by omega)] at hQ
      simp only [q_eq (show k < 2 ^ 31 by omega) (show 1 < 2 ^ 31 by decide)]
      simp only [q_eq0 (show k < 2 ^ 31 by omega)] at hQ
      by_cases c1 : k = 1
      · rw [if_pos c1]
        refine ⟨o2, x_best X hi (by omega) (by decide) (fun _ => e6) (fun h' Y F => ?_)⟩
        rw [if_neg (by decide)]
        have := hQ h' Y F; rw [if_neg (by omega)] at this; exact this
      · rw [if_neg c1]
        refine ⟨o2, x_best X hi (by omega) (by decide) (fun _ => e6) (fun h' Y F => ?_)⟩
        rw [if_pos (by decide)]
        have := hQ h' Y F; rw [if_pos (by omega)] at this; exact this
    · rw [if_neg g] at hQ
      rw [show ckA (inR v (aL A 0 4)) n 0 30 w (1 + 1) = ckA (inR v (aL A 0 4)) n 0 30 w 2 from rfl, if_neg g]
      exact x_refuse X (rf_of (ckA_c _ _ _ _ _ _) g) hQ
  refine ⟨l.1.1, x_noHead X (fun c => ?_) (fun c => ?_)⟩
  · exact T _ ⟨fun _ => c, fun _ => nI_0⟩
  · exact T _ ⟨fun q => absurd q (by decide), fun q => absurd q c⟩
theorem y_bestLetter (X : MI_ S h m A) {v n w : Int32} {Q : Int32 → Hp → Prop} (hQ : ∀ h', MI_ S h' m (bestLetterA A v n w).2 → FrY m h h' → Q (bestLetterA A v n w).1 h') : w_X7_bestLetter S m v n w h Q := by
  have l := X.1.1
  have h9 := X.2.2.2.2.2.2.1.2
  have h5 := X.1.2.2.1
  unfold bestLetterA at hQ
  have T : ∀ r, ((r = 0 ∧ ckN (inR v (aL A 0 4)) n 0 30 = 0) ∨ (r ≠ 0 ∧ r = ckN (inR v (aL A 0 4)) n 0 30)) → w_X7_bestLetter_c19 S m v n w r h Q := by
    intro r hr
    unfold w_X7_bestLetter_c19
    rcases hr with ⟨rfl, hr⟩ | ⟨hr0, hr⟩
    · rw [if_pos rfl]
      refine y_isIn (fun c2 => ?_) (fun c2 => ?_)
      · rw [if_neg (by decide)]
        have g : ckA (inR v (aL A 0 4)) n 0 30 w 2 = 0 := by unfold ckA; rw [if_pos hr, if_pos ((inR_le (by decide)).mp c2)]
        rw [if_pos g] at hQ
        obtain ⟨g1, g2, g3⟩ := ckA_0 g
        obtain ⟨i, hi, rfl⟩ := inR_ex g1 (by omega)
        obtain ⟨j, -, hj, rfl⟩ := fN_0 (by decide) (by decide) g2
        rw [q_ix (by omega), q_ix (by omega)] at hQ
        have b3 := (MLb X.1 hi).2.2.1
        rw [lr11 l, q_ix (by omega), MLe X.1 hi (show KC 3 12 by unfold KC; omega)]
        refine ⟨l.1, q_ain (la11 l) (by omega) (by decide), ?_⟩
        simp only [q_eq (show aL A (5 + 2 * i) 3 < 2 ^ 31 by omega) (show 6 < 2 ^ 31 by decide)]
        by_cases e6 : aL A (5 + 2 * i) 3 = 6
        · rw [if_pos e6]
          have := hQ h X FrY_rf; rw [if_pos e6] at this; exact this
        rw [if_neg e6]
        rw [if_neg e6] at hQ
        unfold w_X7_bestLetter_c76
        intro P hP
        have K : ∀ (f k : Nat) (bb mm : Int32) (h1 : Hp), k + f = 26 → MI_ S h1 m A → FrY m h h1 → bestF (aL A) 3 i j = bcF (fun c => nightsF j (chF 3 i c (aL A)) (5 + 2 * i) 7) f k bb mm → P bb mm (nI k) h1 := by
          intro f
          induction f with
          | zero =>
            intro k bb mm h1 hk X1 F1 er
            refine hP _ _ _ _ ?_
            simp only [q_le (show 26 < 2 ^ 31 by omega) (show k < 2 ^ 31 by omega)]
            rw [if_pos (by omega)]
            have hq := hQ h1 X1 F1
            rw [er] at hq
            simp only [bcF] at hq
            by_cases c : w = 0
            · rw [if_pos c]; rw [if_pos c] at hq; exact hq
            · rw [if_neg c]; rw [if_neg c] at hq; exact hq
          | succ f ih =>
            intro k bb mm h1 hk X1 F1 er
            refine hP _ _ _ _ ?_
            simp only [q_le (show 26 < 2 ^ 31 by omega) (show k < 2 ^ 31 by omega), nI_add]
            rw [if_neg (by omega)]
            refine ⟨l.1, y_minds X1.1 (fun h2 T2 D2 => ?_)⟩
            rw [lr9 l, q_ix (by omega)]
            refine y_puts T2.1 hi (by omega) (by omega) (fun h3 Y3 F3 => ?_)
            have T3 := TH_M T2 Y3 F3
            refine y_goes Y3 (by rw [adL_0]; omega) (fun h4 Y4 F4 => ?_)
            have T4 := TH_M T3 Y4 F4
            have DD := FrD_tr D2 (FrD_tr (FrD_of F3) (FrD_of F4))
            have ec : chF 3 i k (aL A) = adL (aL A) i k := rfl
            have hi4 : i < nightsF j (adL (aL A) i k) 0 4 := by rw [(nightsF_0 j _).1, adL_0]; exact hi
            rw [MLe Y4 hi4 (show KC 7 10 by unfold KC; omega)]
            refine ⟨q_ain (la9 l) (by omega) (by decide), y_forgets T4 (fun h5 Y5 D5 => ?_)⟩
            have X5 := MI_mind X1 Y5 (FrD_tr DD D5)
            have FF := FrY_tr F1 (FrY_D (FrD_tr DD D5))
            by_cases c : nI (nightsF j (chF 3 i k (aL A)) (5 + 2 * i) 7) ≤ mm
            · rw [if_neg (Int32.not_lt.mpr (by rw [← ec]; exact c))]
              refine ih (k + 1) _ _ h5 (by omega) X5 FF ?_
              rw [er]; simp only [bcF, if_pos c]
            · rw [if_pos (by rw [← ec]; exact Int32.not_le.mp c)]
              refine ih (k + 1) _ _ h5 (by omega) X5 FF ?_
              rw [er]; simp only [bcF]; rw [if_neg c, ec]
        exact K 26 0 _ _ h (by omega) X FrY_rf rfl
      · rw [if_pos (by decide)]
        have g : ckA (inR v (aL A 0 4)) n 0 30 w 2 = -2 := by unfold ckA; rw [if_pos hr, if_neg (fun q => c2 ((inR_le (by decide)).mpr q))]
        rw [g, if_neg (by decide)] at hQ
        exact ⟨l.1, y_no X (Or.inr (Or.inl rfl)) hQ⟩
    · rw [if_neg hr0]
      have g : ckA (inR v (aL A 0 4)) n 0 30 w 2 = r := by unfold ckA; rw [if_neg (by rw [← hr]; exact hr0), ← hr]
      rw [g, if_neg hr0] at hQ
      have := ckN_c (inR v (aL A 0 4)) n 0 30
      rw [← hr] at this
      exact ⟨l.1, y_no X (rf_of this hr0) hQ⟩
  unfold w_X7_bestLetter
  refine ⟨l.1, y_isHead X.1 (fun c => ?_) (fun c => ?_)⟩
  · rw [if_neg (by decide)]
    refine y_bound ?_
    have e : ckN (inR v (aL A 0 4)) n 0 30 = fN n 0 30 := by unfold ckN; rw [if_pos c]
    by_cases g : fN n 0 30 = 0
    · exact T _ (Or.inl ⟨g, by rw [e]; exact g⟩)
    · exact T _ (Or.inr ⟨g, e.symm⟩)
  · rw [if_pos (by decide)]
    exact T _ (Or.inr ⟨by decide, by unfold ckN; rw [if_neg c]⟩)
theorem op_bestLetter (H : SI S h x A) {v n w : Int32} {Q : Int32 → Int32 → Hp → Prop} (hQ : ∀ r A' h', SI S h' x A' → Q r r h') : w_X6_bestLetter S x v n w h (fun r h1 => w_X7_bestLetter S (x + 180) v n w h1 (fun r' h2 => Q r r' h2)) :=
  x_bestLetter H.1 (fun h1 X1 F1 => y_bestLetter (SI_m H F1) (fun h2 Y2 F2 => hQ _ _ h2 (SI_mk X1 Y2 F2)))
end LETTER
