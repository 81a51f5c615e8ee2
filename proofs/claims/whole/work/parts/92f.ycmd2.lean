/-! PURE: land, a head comes to the reference's land; its statements -/
section STMF
variable {T : Nat → Nat} {w : List Nat} {D : PS} {L : Ld}
theorem stm_k (hk : kdF w ≠ 99) : stmF T w D L = if D.1 = 3 ∧ nuF T D 0 ≤ 9 ∧ ltF T D 1 ∧ D.2.2 1 ≤ 6 ∧ nuF T D 2 ≤ 47 ∧ L 0 4 < 5 then some (headL L (kdF w) (nuF T D 0) (nuF T D 2) T (D.2.1 1) (D.2.2 1)) else none := by
  unfold stmF; rw [if_pos hk]
theorem stm_0 (hk : ¬ kdF w ≠ 99) (d : ddF w = 0) : stmF T w D L = if D.1 = 2 ∧ nuF T D 0 ≤ 47 ∧ nuF T D 1 ≤ 9 then some (updL L 1 (nuF T D 0) (nuF T D 1)) else none := by
  unfold stmF; rw [if_neg hk, if_pos d]
theorem stm_1 (hk : ¬ kdF w ≠ 99) (d : ddF w = 1) : stmF T w D L = if D.1 = 3 ∧ nuF T D 0 ≤ 47 ∧ nuF T D 1 ≤ 9 ∧ ltF T D 2 ∧ D.2.2 2 = 1 then some (updL (updL L 2 (nuF T D 0) (nuF T D 1)) 3 (nuF T D 0) (T (D.2.1 2) - 97)) else none := by
  unfold stmF; rw [if_neg hk, if_neg (by omega), if_pos d]
theorem stm_2 (hk : ¬ kdF w ≠ 99) (d : ddF w = 2) : stmF T w D L = if D.1 = 2 ∧ nuF T D 0 < L 0 4 ∧ ixW (wlF T (D.2.1 1) (D.2.2 1)) W2 0 ≠ 99 then some (updL L (5 + 2 * nuF T D 0) 5 (ixW (wlF T (D.2.1 1) (D.2.2 1)) W2 0)) else none := by
  unfold stmF; rw [if_neg hk, if_neg (by omega), if_neg (by omega), if_pos d]
theorem stm_3 (hk : ¬ kdF w ≠ 99) (d : ddF w = 3) : stmF T w D L = if D.1 = 2 ∧ nuF T D 0 < L 0 4 ∧ ixW (wlF T (D.2.1 1) (D.2.2 1)) W3 0 ≠ 99 then some (updL L (5 + 2 * nuF T D 0) 6 (ixW (wlF T (D.2.1 1) (D.2.2 1)) W3 0)) else none := by
  unfold stmF; rw [if_neg hk, if_neg (by omega), if_neg (by omega), if_neg (by omega), if_pos d]
theorem stm_4 (hk : ¬ kdF w ≠ 99) (d : ddF w = 4) : stmF T w D L = if D.1 = 2 ∧ nuF T D 0 < L 0 4 ∧ nuF T D 1 ≤ 99 then some (updL L (5 + 2 * nuF T D 0) 7 (nuF T D 1)) else none := by
  unfold stmF; rw [if_neg hk, if_neg (by omega), if_neg (by omega), if_neg (by omega), if_neg (by omega), if_pos d]
theorem stm_5 (hk : ¬ kdF w ≠ 99) (d : ddF w = 5) : stmF T w D L = if D.1 = 1 ∧ 1 ≤ nuF T D 0 ∧ nuF T D 0 ≤ 60 ∧ L 0 5 + nuF T D 0 ≤ 999 then some (nightsF (nuF T D 0) L) else none := by
  unfold stmF; rw [if_neg hk, if_neg (by omega), if_neg (by omega), if_neg (by omega), if_neg (by omega), if_neg (by omega), if_pos d]
theorem stm_9 (hk : ¬ kdF w ≠ 99) (d : ddF w = 99) : stmF T w D L = none := by
  unfold stmF; rw [if_neg hk, if_neg (by omega), if_neg (by omega), if_neg (by omega), if_neg (by omega), if_neg (by omega), if_neg (by omega)]
end STMF
section YCMD2
variable {S : St} {h h' : Hp} {m k s p w : Nat} {T : Nat → Nat} {D : PS} {L : Ld}
theorem y_nameC (C : TPm h m k T) (P0 : PRt h m s D) (G : GP k T D) (hs : s < 25) (X : ML_ S h m L) {kd : Nat} (hkd : kd ≤ 7) {Q : Int32 → Hp → Prop} (h1 : (D.1 = 3 ∧ nuF T D 0 ≤ 9 ∧ ltF T D 1 ∧ D.2.2 1 ≤ 6 ∧ nuF T D 2 ≤ 47 ∧ L 0 4 < 5) → ∀ h', ML_ S h' m (headL L kd (nuF T D 0) (nuF T D 2) T (D.2.1 1) (D.2.2 1)) → FrM m h h' → Q (nI 1) h') (h0 : ¬ (D.1 = 3 ∧ nuF T D 0 ≤ 9 ∧ ltF T D 1 ∧ D.2.2 1 ≤ 6 ∧ nuF T D 2 ≤ 47 ∧ L 0 4 < 5) → Q (nI 0) h) : w_X7_comesHead S m (nI s) (nI kd) h Q := by
  have l := X.1
  have g3 := G.1
  have w5 := X.2.2.1
  have k9 := C.2
  unfold w_X7_comesHead
  refine ⟨l.1, y_nr l C P0 G hs (by decide) (y_nr l C P0 G hs (by decide) ?_)⟩
  rw [lr19 l, lr21 l, q_ix (show s < 2 ^ 31 by omega), P0.1, pk_mul, nI_add, q_ix (show 3 * s + 1 < 2 ^ 31 by omega)]
  simp only [q_eq (show D.1 < 2 ^ 31 by omega) (show 3 < 2 ^ 31 by decide)]
  refine ⟨q_ain (la21 l) (by omega) (by decide), q_ain (la19 l) hs (by decide), ?_⟩
  by_cases c : D.1 = 3
  · rw [if_pos c]
    obtain ⟨g0, g1, g2⟩ := G.2 1 (by omega)
    have n7 : D.2.2 1 ≤ 7 := by rcases g2 with g | g <;> omega
    rw [(P0.2 1 (by omega)).2]
    refine y_inN G (by decide) (fun c0 => ?_) (fun c0 => ?_) (by decide)
    · rw [if_neg (by decide)]
      refine y_areLet l C P0 G hs (by decide) (fun c2 => ?_) (fun c2 => ?_)
      · rw [if_neg (by decide)]
        simp only [q_lt (show 6 < 2 ^ 31 by decide) (show D.2.2 1 < 2 ^ 31 by omega)]
        by_cases c6 : 6 < D.2.2 1
        · rw [if_pos c6]; exact h0 (fun q => by omega)
        rw [if_neg c6]
        refine y_fieldN G (fun c1 => ?_) (fun c1 => ?_)
        · rw [if_neg (by decide), X.2.1.1.1]
          simp only [q_eq (show L 0 4 < 2 ^ 31 by omega) (show 5 < 2 ^ 31 by decide)]
          by_cases c5 : L 0 4 = 5
          · rw [if_pos c5]; exact h0 (fun q => by omega)
          rw [if_neg c5, nr_ok G (by decide) c0.2, nr_ok G (by decide) c1]
          have h5 : L 0 4 < 5 := by omega
          refine y_isMore X h5 ?_
          have E : ∀ a q, ¬ (a = m ∧ q = 13) → ¬ (m + 5 ≤ a ∧ a ≤ m + 12 ∧ q = L 0 4) → (up (up (up (up (up (up (up (up (up h (m + 5) (L 0 4) (nI kd)) (m + 6) (L 0 4) (nI (nuF T D 0))) (m + 7) (L 0 4) (nI (nuF T D 2))) (m + 8) (L 0 4) (nI 0)) (m + 9) (L 0 4) (nI 0)) (m + 10) (L 0 4) (nI 0)) (m + 11) (L 0 4) (nI 0)) (m + 12) (L 0 4) (nI 0)) m 13 (nI (L 0 4 + 1))) a q = h a q := by
            intro a q q1 q2
            rw [up_ne (by omega), up_ne (by omega), up_ne (by omega), up_ne (by omega), up_ne (by omega), up_ne (by omega), up_ne (by omega), up_ne (by omega), up_ne (by omega)]
          have E13 : (up (up (up (up (up (up (up (up (up h (m + 5) (L 0 4) (nI kd)) (m + 6) (L 0 4) (nI (nuF T D 0))) (m + 7) (L 0 4) (nI (nuF T D 2))) (m + 8) (L 0 4) (nI 0)) (m + 9) (L 0 4) (nI 0)) (m + 10) (L 0 4) (nI 0)) (m + 11) (L 0 4) (nI 0)) (m + 12) (L 0 4) (nI 0)) m 13 (nI (L 0 4 + 1))) m 13 = nI (L 0 4 + 1) := up_same _ _ _ _
          have EH : ∀ j q, KC j q → q ≠ 12 → (up (up (up (up (up (up (up (up (up h (m + 5) (L 0 4) (nI kd)) (m + 6) (L 0 4) (nI (nuF T D 0))) (m + 7) (L 0 4) (nI (nuF T D 2))) (m + 8) (L 0 4) (nI 0)) (m + 9) (L 0 4) (nI 0)) (m + 10) (L 0 4) (nI 0)) (m + 11) (L 0 4) (nI 0)) (m + 12) (L 0 4) (nI 0)) m 13 (nI (L 0 4 + 1))) (m + q) (L 0 4) = nI (nhF kd (nuF T D 0) (nuF T D 2) j) := by
            rintro j q (⟨rfl, rfl⟩ | ⟨rfl, rfl⟩ | ⟨rfl, rfl⟩ | ⟨rfl, rfl⟩ | ⟨rfl, rfl⟩ | ⟨rfl, rfl⟩ | ⟨rfl, rfl⟩ | ⟨rfl, rfl⟩) q12
            · simp [up, nhF]
            · simp [up, nhF]
            · exact absurd rfl q12
            · simp [up, nhF]
            · simp [up, nhF]
            · simp [up, nhF]
            · simp [up, nhF]
            · simp [up, nhF]
          generalize up (up (up (up (up (up (up (up (up h (m + 5) (L 0 4) (nI kd)) (m + 6) (L 0 4) (nI (nuF T D 0))) (m + 7) (L 0 4) (nI (nuF T D 2))) (m + 8) (L 0 4) (nI 0)) (m + 9) (L 0 4) (nI 0)) (m + 10) (L 0 4) (nI 0)) (m + 11) (L 0 4) (nI 0)) (m + 12) (L 0 4) (nI 0)) m 13 (nI (L 0 4 + 1)) = h8 at *
          have F8 : FrM m h h8 := fun a q q1 => E a q (by omega) (by omega)
          unfold w_X7_comesHead_c92
          intro P hP
          -- one letter more
          have step : ∀ (q : Nat) (h2 : Hp), q < D.2.2 1 → FrM m h h2 → h2 m 13 = nI (L 0 4 + 1) → P (nI (q + 1)) (up h2 (m + 13) (6 * L 0 4 + q) (nI (T (D.2.1 1 + q) - 97))) → P (nI q) h2 := by
            intro q h2 hq F2 e13 hh
            have tq := lt_in G c2 hq
            refine hP _ _ ?_
            simp only [q_le (show D.2.2 1 < 2 ^ 31 by omega) (show q < 2 ^ 31 by omega)]
            rw [if_neg (by omega), lr20 l, lr16 l, lr12 l, pk_mul, nI_add, q_ix (show 3 * s + 1 < 2 ^ 31 by omega), ((PRt_F P0 F2).2 1 (by omega)).1, nI_add, q_ix (show D.2.1 1 + q < 2 ^ 31 by omega), ((TPm_F C F2).1 _ tq.1).1, q_sub tq.2.1, e13, q_sub (show 1 ≤ L 0 4 + 1 by omega), show L 0 4 + 1 - 1 = L 0 4 from rfl, pk_mul, nI_add, q_ix (show 6 * L 0 4 + q < 2 ^ 31 by omega), nI_add]
            exact ⟨l.1, q_ain (la20 l) (by omega) (by decide), q_ain (la16 l) (by omega) (by decide), q_ain (la12 l) (by omega) (by decide), hh⟩
          have K : ∀ (r q : Nat) (h2 : Hp), 1 ≤ q → q + r = D.2.2 1 → FrM m h h2 → h2 m 13 = nI (L 0 4 + 1) → ML_ S (up h2 (m + 12) (L 0 4) (nI q)) m (headL L kd (nuF T D 0) (nuF T D 2) T (D.2.1 1) q) → P (nI q) h2 := by
            intro r
            induction r with
            | zero =>
              intro q h2 q1 hq F2 e13 X2
              have hq : q = D.2.2 1 := by omega
              subst hq
              refine hP _ _ ?_
              simp only [q_le (show D.2.2 1 < 2 ^ 31 by omega) (show D.2.2 1 < 2 ^ 31 by omega)]
              rw [if_pos (Nat.le_refl _), lr11 l, e13, q_sub (show 1 ≤ L 0 4 + 1 by omega), show L 0 4 + 1 - 1 = L 0 4 from rfl, q_ix (show L 0 4 < 2 ^ 31 by omega)]
              exact ⟨l.1, q_ain (la11 l) (by omega) (by decide), h1 ⟨c, c0.2, c2, by omega, c1, h5⟩ _ X2 (FrM_up F2 (by omega))⟩
            | succ r ih =>
              intro q h2 q1 hq F2 e13 X2
              have tq := lt_in G c2 (i := q) (by omega)
              refine step q h2 (by omega) F2 e13 (ih (q + 1) _ (by omega) (by omega) (FrM_up F2 (by omega)) (by rw [up_ne (by omega)]; exact e13) ?_)
              have a := MLadd X2 (i := L 0 4) (c := T (D.2.1 1 + q) - 97) (by rw [headL_4]; omega) (by rw [headL_3]; omega) (by omega)
              rw [headL_3, headL_S] at a
              have e : up (up h2 (m + 13) (6 * L 0 4 + q) (nI (T (D.2.1 1 + q) - 97))) (m + 12) (L 0 4) (nI (q + 1)) = up (up (up h2 (m + 12) (L 0 4) (nI q)) (m + 13) (6 * L 0 4 + q) (nI (T (D.2.1 1 + q) - 97))) (m + 12) (L 0 4) (nI (q + 1)) := by
                funext a k
                unfold up
                by_cases y1 : a = m + 12 ∧ k = L 0 4
                · rw [if_pos y1, if_pos y1]
                · rw [if_neg y1, if_neg y1]
                  by_cases y2 : a = m + 13 ∧ k = 6 * L 0 4 + q
                  · rw [if_pos y2, if_pos y2]
                  · rw [if_neg y2, if_neg y2, if_neg y1]
              rw [e]; exact a
          have t0 := lt_in G c2 (i := 0) g0
          rw [show D.2.1 1 + 0 = D.2.1 1 from rfl] at t0
          refine step 0 h8 g0 F8 E13 (K (D.2.2 1 - 1) 1 _ (by omega) (by omega) (FrM_up F8 (by omega)) (by rw [up_ne (by omega)]; exact E13) ?_)
          rw [← headL_1]
          refine MLnew X (by omega) (by omega) (by omega) (by omega) (by omega) ?_ (fun j q kc => ?_) ?_ (fun a q q1 q2 q3 q4 => ?_)
          · rw [up_ne (by omega), up_ne (by omega)]; exact E13
          · have kc2 := kc
            unfold KC at kc2
            by_cases e12 : q = 12
            · have ej : j = 3 := by omega
              subst e12; subst ej
              rw [up_same]; rfl
            · rw [up_ne (by omega), up_ne (by omega)]; exact EH j q kc e12
          · rw [up_ne (by omega)]; exact up_same _ _ _ _
          · rw [up_ne (by omega), up_ne (by omega)]; exact E a q q1 q2
        · rw [if_pos (by decide)]; exact h0 (fun q => c1 q.2.2.2.2.1)
      · rw [if_pos (by decide)]; exact h0 (fun q => c2 q.2.2.1)
    · rw [if_pos (by decide)]; exact h0 (fun q => c0 ⟨Nat.zero_le _, q.2.1⟩)
  · rw [if_neg c]; exact h0 (fun q => c q.1)
theorem y_cmd (C : TPm h m k T) (P0 : PRt h m s D) (G : GP k T D) (hs : s < 25) (X : ML_ S h m L) (hn : L 0 5 ≤ 999) (ep : h (m + 15) s = nI p) (ew : h (m + 16) s = nI w) (hw : w ≤ 7) (hk : p + w ≤ k) (hl : ∀ i, i < w → isS k T 97 122 (p + i)) {Q : Int32 → Hp → Prop} (h1 : ∀ L', stmF T (wlF T p w) D L = some L' → ∀ h', ML_ S h' m L' → FrM m h h' → Q (nI 1) h') (h0 : stmF T (wlF T p w) D L = none → Q (nI 0) h) : w_X7_comesSaid S m (nI s) h Q := by
  have l := X.1
  have ls := ls_wl w p hl
  have ln : (wlF T p w).length ≤ 7 := by rw [wl_len]; exact hw
  have b1 : bo (nI 1) := Or.inr rfl
  have b0 : bo (nI 0) := Or.inl rfl
  unfold w_X7_comesSaid
  rw [lr17 l, lr18 l, q_ix (show s < 2 ^ 31 by omega), ep, ew]
  refine ⟨l.1, q_ain (la17 l) hs (by decide), q_ain (la18 l) hs (by decide), y_code l C hk hl (y_kind ls ln ?_)⟩
  rcases enY_c (ws := W0) (by decide) (wlF T p w) with ⟨y1, y2⟩ | ⟨y1, y2⟩
  · rw [y2, if_pos (by decide)]
    have hk9 : ¬ kdF (wlF T p w) ≠ 99 := fun q => q y1
    rw [show (755084 : Int64) = lN (cdA [119, 97, 108, 108] 0) by decide, show (212363 : Int64) = lN (cdA [102, 111, 108, 107] 0) by decide, show (197733 : Int64) = lN (cdA [102, 97, 99, 101] 0) by decide, show (146611 : Int64) = lN (cdA [100, 111, 101, 115] 0) by decide, show (10986963 : Int64) = lN (cdA [106, 111, 105, 110, 115] 0) by decide, show (479437459 : Int64) = lN (cdA [110, 105, 103, 104, 116, 115] 0) by decide]
    simp only [q_word ls ln (show lsB [119, 97, 108, 108] = true by decide) (by decide), q_word ls ln (show lsB [102, 111, 108, 107] = true by decide) (by decide), q_word ls ln (show lsB [102, 97, 99, 101] = true by decide) (by decide), q_word ls ln (show lsB [100, 111, 101, 115] = true by decide) (by decide), q_word ls ln (show lsB [106, 111, 105, 110, 115] = true by decide) (by decide), q_word ls ln (show lsB [110, 105, 103, 104, 116, 115] = true by decide) (by decide)]
    have dd : ddF (wlF T p w) = if wlF T p w = [119, 97, 108, 108] then 0 else if wlF T p w = [102, 111, 108, 107] then 1 else if wlF T p w = [102, 97, 99, 101] then 2 else if wlF T p w = [100, 111, 101, 115] then 3 else if wlF T p w = [106, 111, 105, 110, 115] then 4 else if wlF T p w = [110, 105, 103, 104, 116, 115] then 5 else 99 := rfl
    by_cases e0 : wlF T p w = [119, 97, 108, 108]
    · rw [if_pos e0] at dd ⊢
      rw [stm_0 hk9 dd] at h0
      exact y_wallC C P0 G hs X (fun g h' X' F' => ⟨b1, h1 _ (by rw [stm_0 hk9 dd]; exact if_pos g) h' X' F'⟩) (fun g => ⟨b0, h0 (if_neg g)⟩)
    rw [if_neg e0] at dd ⊢
    by_cases e1 : wlF T p w = [102, 111, 108, 107]
    · rw [if_pos e1] at dd ⊢
      rw [stm_1 hk9 dd] at h0
      exact y_folkC C P0 G hs X (fun g h' X' F' => ⟨b1, h1 _ (by rw [stm_1 hk9 dd]; exact if_pos g) h' X' F'⟩) (fun g => ⟨b0, h0 (if_neg g)⟩)
    rw [if_neg e1] at dd ⊢
    by_cases e2 : wlF T p w = [102, 97, 99, 101]
    · rw [if_pos e2] at dd ⊢
      rw [stm_2 hk9 dd] at h0
      unfold w_X7_comesFace
      rw [lr7 l]
      exact y_faceC (q := 5) (cc := 8) (a := m + 8) (ws := W2) (f := w_X7_faceSaid S) (Q := fun r h' => bo r ∧ Q r h') C P0 G hs X (Or.inl ⟨rfl, rfl⟩) rfl (la7 l) (by decide) (fun i hi => Or.inl ⟨rfl, by have : W2.length = 4 := rfl; omega⟩) (fun v R a b c => y_faceS a b c) (by decide) (by decide) (fun g h' X' F' => ⟨b1, h1 _ (by rw [stm_2 hk9 dd]; exact if_pos g) h' X' F'⟩) (fun g => ⟨b0, h0 (if_neg g)⟩)
    rw [if_neg e2] at dd ⊢
    by_cases e3 : wlF T p w = [100, 111, 101, 115]
    · rw [if_pos e3] at dd ⊢
      rw [stm_3 hk9 dd] at h0
      unfold w_X7_comesDoing
      rw [lr8 l]
      exact y_faceC (q := 6) (cc := 9) (a := m + 9) (ws := W3) (f := w_X7_doesSaid S) (Q := fun r h' => bo r ∧ Q r h') C P0 G hs X (Or.inr ⟨rfl, rfl⟩) rfl (la8 l) (by decide) (fun i hi => Or.inr ⟨rfl, by have : W3.length = 5 := rfl; omega⟩) (fun v R a b c => y_doesS a b c) (by decide) (by decide) (fun g h' X' F' => ⟨b1, h1 _ (by rw [stm_3 hk9 dd]; exact if_pos g) h' X' F'⟩) (fun g => ⟨b0, h0 (if_neg g)⟩)
    rw [if_neg e3] at dd ⊢
    by_cases e4 : wlF T p w = [106, 111, 105, 110, 115]
    · rw [if_pos e4] at dd ⊢
      rw [stm_4 hk9 dd] at h0
      exact y_joinC C P0 G hs X (fun g h' X' F' => ⟨b1, h1 _ (by rw [stm_4 hk9 dd]; exact if_pos g) h' X' F'⟩) (fun g => ⟨b0, h0 (if_neg g)⟩)
    rw [if_neg e4] at dd ⊢
    by_cases e5 : wlF T p w = [110, 105, 103, 104, 116, 115]
    · rw [if_pos e5] at dd ⊢
      rw [stm_5 hk9 dd] at h0
      refine y_nightC C P0 G hs X hn (fun g h' X' F' => ?_) (fun g => ?_)
      · rw [if_neg (by decide)]
        exact h1 _ (by rw [stm_5 hk9 dd]; exact if_pos g) h' X' F'
      · rw [if_pos (by decide)]
        exact h0 (if_neg g)
    rw [if_neg e5] at dd ⊢
    exact h0 (stm_9 hk9 dd)
  · have y3 : W0.length = 8 := rfl
    have hk9 : kdF (wlF T p w) ≠ 99 := by show ixW (wlF T p w) W0 0 ≠ 99; omega
    rw [y2, if_neg (by rw [q_lt0 (by omega)]; exact id)]
    refine y_kind ls ln ?_
    rw [y2]
    rw [stm_k hk9] at h0
    exact y_nameC C P0 G hs X (kd := ixW (wlF T p w) W0 0) (by omega) (fun g h' X' F' => ⟨b1, h1 _ (by rw [stm_k hk9]; exact if_pos g) h' X' F'⟩) (fun g => ⟨b0, h0 (if_neg g)⟩)
end YCMD2
