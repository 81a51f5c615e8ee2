/-! PURE: land, the reference's statements -/
def nyF (T : Nat → Nat) (D : PS) (j : Nat) : Int32 := if nuF T D j = 999 then -9 else nI (nuF T D j)
theorem ix_no {l : List Nat} (hl : ¬ lsA l) : ∀ (ws : List (List Nat)) (i : Nat), ws.all lsB = true → ixW l ws i = 99
  | [], _, _ => rfl
  | w :: r, i, h => by
    rw [List.all_cons, Bool.and_eq_true] at h
    show (if l = w then i else ixW l r (i + 1)) = 99
    rw [if_neg (fun e => hl (by rw [e]; exact ls_of h.1))]
    exact ix_no hl r (i + 1) h.2
section YCMD
variable {S : St} {h h' : Hp} {m k s p w : Nat} {T : Nat → Nat} {D : PS} {L : Ld}
theorem nr_ok (G : GP k T D) {j b : Nat} (hb : b < 999) (c : nuF T D j ≤ b) : nyF T D j = nI (nuF T D j) := if_neg (by omega)
theorem y_nr (l : LayM S m) (C : TPm h m k T) (P0 : PRt h m s D) (G : GP k T D) (hs : s < 25) {j : Nat} (hj : j < 3) {Q : Int32 → Hp → Prop} (hQ : Q (nyF T D j) h) : w_X7_numberOf S m (nI s) (nI j) h Q := y_number l C P0 G hs hj hQ
theorem y_inN (G : GP k T D) {j a b : Nat} (hb : b < 999) {Q : Int32 → Hp → Prop} (h1 : a ≤ nuF T D j ∧ nuF T D j ≤ b → Q (nI 1) h) (h0 : ¬ (a ≤ nuF T D j ∧ nuF T D j ≤ b) → Q (nI 0) h) (hab : a ≤ b) : w_X7_isIn S (nyF T D j) (nI a) (nI b) h Q := by
  have nc := nu_c G j
  unfold nyF
  refine y_isIn (fun c => ?_) (fun c => ?_)
  · by_cases e : nuF T D j = 999
    · rw [if_pos e] at c
      have := c.1
      have ea : (nI a).toInt = (a : Int) := nI_toInt (by omega)
      rw [Int32.le_iff_toInt_le, ea] at this
      have e9 : (-9 : Int32).toInt = -9 := by decide
      omega
    · rw [if_neg e, q_le (by omega) (by omega), q_le (by omega) (by omega)] at c
      exact h1 c
  · refine h0 (fun q => c ?_)
    rw [if_neg (by omega), q_le (by omega) (by omega), q_le (by omega) (by omega)]
    exact q
theorem y_fieldN (G : GP k T D) {j : Nat} {Q : Int32 → Hp → Prop} (h1 : nuF T D j ≤ 47 → Q (nI 1) h) (h0 : ¬ nuF T D j ≤ 47 → Q (nI 0) h) : w_X7_isField S (nyF T D j) h Q := by
  have nc := nu_c G j
  unfold nyF
  by_cases e : nuF T D j = 999
  · rw [if_pos e]
    exact y_isField (fun c => absurd c (by decide)) (fun _ => h0 (by omega))
  · rw [if_neg e]
    refine y_isField (fun c => ?_) (fun c => ?_)
    · rw [inR_nI (by omega) (by decide)] at c; exact h1 (by omega)
    · rw [inR_nI (by omega) (by decide)] at c; exact h0 (by omega)
theorem y_headN (G : GP k T D) (X : ML_ S h m L) {j : Nat} {Q : Int32 → Hp → Prop} (h1 : nuF T D j < L 0 4 → Q (nI 1) h) (h0 : ¬ nuF T D j < L 0 4 → Q (nI 0) h) : w_X7_isHead S m (nyF T D j) h Q := by
  have nc := nu_c G j
  have w5 := X.2.2.1
  unfold nyF
  by_cases e : nuF T D j = 999
  · rw [if_pos e]
    exact y_isHead X (fun c => absurd c.1 (by decide)) (fun _ => h0 (by omega))
  · rw [if_neg e]
    refine y_isHead X (fun c => ?_) (fun c => ?_)
    · rw [inR_nI (by omega) (by omega)] at c; exact h1 c
    · rw [inR_nI (by omega) (by omega)] at c; exact h0 c
theorem TPm_F (C : TPm h m k T) (f : FrM m h h') : TPm h' m k T := ⟨fun i hi => by rw [f _ _ (by omega)]; exact C.1 i hi, C.2⟩
theorem PRt_F (P : PRt h m s D) (f : FrM m h h') : PRt h' m s D := ⟨by rw [f _ _ (by omega)]; exact P.1, fun i hi => by rw [f _ _ (by omega), f _ _ (by omega)]; exact P.2 i hi⟩
theorem y_wallC (C : TPm h m k T) (P0 : PRt h m s D) (G : GP k T D) (hs : s < 25) (X : ML_ S h m L) {Q : Int32 → Hp → Prop} (h1 : (D.1 = 2 ∧ nuF T D 0 ≤ 47 ∧ nuF T D 1 ≤ 9) → ∀ h', ML_ S h' m (updL L 1 (nuF T D 0) (nuF T D 1)) → FrM m h h' → Q (nI 1) h') (h0 : ¬ (D.1 = 2 ∧ nuF T D 0 ≤ 47 ∧ nuF T D 1 ≤ 9) → Q (nI 0) h) : w_X7_comesWall S m (nI s) h Q := by
  have l := X.1
  have g3 := G.1
  unfold w_X7_comesWall
  rw [lr19 l, lr1 l, q_ix (show s < 2 ^ 31 by omega), P0.1]
  simp only [q_eq (show D.1 < 2 ^ 31 by omega) (show 2 < 2 ^ 31 by decide)]
  refine ⟨l.1, q_ain (la19 l) hs (by decide), ?_⟩
  by_cases c : D.1 = 2
  · rw [if_pos c]
    refine y_nr l C P0 G hs (by decide) (y_fieldN G (fun c0 => ?_) (fun c0 => ?_))
    · rw [if_neg (by decide)]
      refine y_nr l C P0 G hs (by decide) (y_inN G (by decide) (fun c1 => ?_) (fun c1 => ?_) (by decide))
      · rw [if_neg (by decide)]
        refine y_nr l C P0 G hs (by decide) (y_nr l C P0 G hs (by decide) ?_)
        rw [nr_ok G (by decide) c0, nr_ok G (by decide) c1.2, q_ix (by omega)]
        exact ⟨q_ain (la1 l) (by omega) (by decide), h1 ⟨c, c0, c1.2⟩ _ (MLsetF X (o := 1) (Or.inl rfl) (by omega) (Or.inl c1.2)) (FrM_up FrM_rf (by omega))⟩
      · rw [if_pos (by decide)]; exact h0 (fun q => c1 ⟨Nat.zero_le _, q.2.2⟩)
    · rw [if_pos (by decide)]; exact h0 (fun q => c0 q.2.1)
  · rw [if_neg c]; exact h0 (fun q => c q.1)
theorem y_folkC (C : TPm h m k T) (P0 : PRt h m s D) (G : GP k T D) (hs : s < 25) (X : ML_ S h m L) {Q : Int32 → Hp → Prop} (h1 : (D.1 = 3 ∧ nuF T D 0 ≤ 47 ∧ nuF T D 1 ≤ 9 ∧ ltF T D 2 ∧ D.2.2 2 = 1) → ∀ h', ML_ S h' m (updL (updL L 2 (nuF T D 0) (nuF T D 1)) 3 (nuF T D 0) (T (D.2.1 2) - 97)) → FrM m h h' → Q (nI 1) h') (h0 : ¬ (D.1 = 3 ∧ nuF T D 0 ≤ 47 ∧ nuF T D 1 ≤ 9 ∧ ltF T D 2 ∧ D.2.2 2 = 1) → Q (nI 0) h) : w_X7_comesFolk S m (nI s) h Q := by
  have l := X.1
  have g3 := G.1
  have k9 := C.2
  unfold w_X7_comesFolk
  rw [lr19 l, lr21 l, lr2 l, lr20 l, lr16 l, lr3 l, q_ix (show s < 2 ^ 31 by omega), P0.1, pk_mul, nI_add, q_ix (show 3 * s + 2 < 2 ^ 31 by omega)]
  simp only [q_eq (show D.1 < 2 ^ 31 by omega) (show 3 < 2 ^ 31 by decide)]
  refine ⟨l.1, q_ain (la19 l) hs (by decide), ?_⟩
  by_cases c : D.1 = 3
  · rw [if_pos c]
    refine y_nr l C P0 G hs (by decide) (y_fieldN G (fun c0 => ?_) (fun c0 => ?_))
    · rw [if_neg (by decide)]
      refine y_nr l C P0 G hs (by decide) (y_inN G (by decide) (fun c1 => ?_) (fun c1 => ?_) (by decide))
      · rw [if_neg (by decide)]
        refine y_areLet l C P0 G hs (by decide) (fun c2 => ?_) (fun c2 => ?_)
        · have gp := G.2 2 c2.1
          have n7 : D.2.2 2 ≤ 7 := by rcases gp.2.2 with g | g <;> omega
          rw [if_neg (by decide), (P0.2 2 c2.1).2]
          simp only [q_eq (show D.2.2 2 < 2 ^ 31 by omega) (show 1 < 2 ^ 31 by decide)]
          refine ⟨q_ain (la21 l) (by omega) (by decide), ?_⟩
          by_cases c3 : D.2.2 2 = 1
          · rw [if_pos c3]
            refine y_nr l C P0 G hs (by decide) (y_nr l C P0 G hs (by decide) ?_)
            rw [nr_ok G (by decide) c0, nr_ok G (by decide) c1.2, q_ix (by omega)]
            have F2 : FrM m h (up h (m + 3) (nuF T D 0) (nI (nuF T D 1))) := FrM_up FrM_rf (by omega)
            have X2 := MLsetF X (o := 2) (f := nuF T D 0) (v := nuF T D 1) (Or.inr (Or.inl rfl)) (by omega) (Or.inl c1.2)
            refine ⟨q_ain (la2 l) (by omega) (by decide), y_nr l (TPm_F C F2) (PRt_F P0 F2) G hs (by decide) ?_⟩
            have ti := lt_in G c2 (i := 0) (by omega)
            rw [show D.2.1 2 + 0 = D.2.1 2 from rfl] at ti
            rw [nr_ok G (by decide) c0, ((PRt_F P0 F2).2 2 c2.1).1, q_ix (show D.2.1 2 < 2 ^ 31 by omega), ((TPm_F C F2).1 _ ti.1).1, q_sub ti.2.1, q_ix (show nuF T D 0 < 2 ^ 31 by omega)]
            exact ⟨q_ain (la20 l) (by omega) (by decide), q_ain (la16 l) (by omega) (by decide), q_ain (la3 l) (by omega) (by decide), h1 ⟨c, c0, c1.2, c2, c3⟩ _ (MLsetF X2 (o := 3) (v := T (D.2.1 2) - 97) (Or.inr (Or.inr rfl)) (by omega) (Or.inr ⟨rfl, by omega⟩)) (FrM_up F2 (by omega))⟩
          · rw [if_neg c3]; exact h0 (fun q => c3 q.2.2.2.2)
        · rw [if_pos (by decide)]; exact h0 (fun q => c2 q.2.2.2.1)
      · rw [if_pos (by decide)]; exact h0 (fun q => c1 ⟨Nat.zero_le _, q.2.2.1⟩)
    · rw [if_pos (by decide)]; exact h0 (fun q => c0 q.2.1)
  · rw [if_neg c]; exact h0 (fun q => c q.1)
theorem y_faceS {v : List Nat} (hl : lsA v) (hn : v.length ≤ 7) {Q : Int32 → Hp → Prop} (hQ : Q (enY (ixW v W2 0)) h) : w_X7_faceSaid S (lN (cdA v 0)) h Q := by
  unfold w_X7_faceSaid
  rw [show (14 : Int64) = lN (cdA [110] 0) by decide, show (5 : Int64) = lN (cdA [101] 0) by decide, show (19 : Int64) = lN (cdA [115] 0) by decide, show (23 : Int64) = lN (cdA [119] 0) by decide]
  simp only [q_word hl hn (show lsB [110] = true by decide) (by decide), q_word hl hn (show lsB [101] = true by decide) (by decide), q_word hl hn (show lsB [115] = true by decide) (by decide), q_word hl hn (show lsB [119] = true by decide) (by decide)]
  simp only [W2, ixW] at hQ
  repeat' split
  all_goals (simp_all [enY])
theorem y_doesS {v : List Nat} (hl : lsA v) (hn : v.length ≤ 7) {Q : Int32 → Hp → Prop} (hQ : Q (enY (ixW v W3 0)) h) : w_X7_doesSaid S (lN (cdA v 0)) h Q := by
  unfold w_X7_doesSaid
  rw [show (494 : Int64) = lN (cdA [111, 110] 0) by decide, show (398548 : Int64) = lN (cdA [108, 101, 102, 116] 0) by decide, show (19176724 : Int64) = lN (cdA [114, 105, 103, 104, 116] 0) by decide, show (66667 : Int64) = lN (cdA [98, 97, 99, 107] 0) by decide, show (595572 : Int64) = lN (cdA [114, 101, 115, 116] 0) by decide]
  simp only [q_word hl hn (show lsB [111, 110] = true by decide) (by decide), q_word hl hn (show lsB [108, 101, 102, 116] = true by decide) (by decide), q_word hl hn (show lsB [114, 105, 103, 104, 116] = true by decide) (by decide), q_word hl hn (show lsB [98, 97, 99, 107] = true by decide) (by decide), q_word hl hn (show lsB [114, 101, 115, 116] = true by decide) (by decide)]
  simp only [W3, ixW] at hQ
  repeat' split
  all_goals (simp_all [enY])
/-- the word of the second part, by either table -/
theorem y_wordT (C : TPm h m k T) (P0 : PRt h m s D) (G : GP k T D) (hs : s < 25) (l : LayM S m) {ws : List (List Nat)} {f : Int64 → Hp → (Int32 → Hp → Prop) → Prop} (hf : ∀ (v : List Nat) (R : Int32 → Hp → Prop), lsA v → v.length ≤ 7 → R (enY (ixW v ws 0)) h → f (lN (cdA v 0)) h R) (hw : ws.all lsB = true) (h00 : ixW [] ws 0 = 99) (h2 : 2 ≤ D.1) {R : Int32 → Hp → Prop} (hR : R (enY (ixW (wlF T (D.2.1 1) (D.2.2 1)) ws 0)) h) : w_X7_wordOf S m (nI s) (nI 1) h (fun r3 h2 => f r3 h2 R) := by
  obtain ⟨g0, g1, g2⟩ := G.2 1 (by omega)
  have n7 : D.2.2 1 ≤ 7 := by rcases g2 with g | g <;> omega
  refine y_word l C P0 G hs (by decide) (fun c => ?_) (fun c => ?_)
  · exact hf _ R (ls_wl _ _ (fun i hi => lt_in G c hi)) (by rw [wl_len]; exact n7) hR
  · refine hf [] R (fun t ht => absurd ht List.not_mem_nil) (by decide) ?_
    have hb : T (D.2.1 1) ≤ 57 := Nat.not_lt.mp (fun q => c ⟨by omega, q⟩)
    have hn : ¬ lsA (wlF T (D.2.1 1) (D.2.2 1)) := fun q => by
      have := q ((wlF T (D.2.1 1) (D.2.2 1)).getD 0 0) (by
        rw [wl_get _ _ 0 g0]
        obtain ⟨n, hn⟩ : ∃ n, D.2.2 1 = n + 1 := ⟨D.2.2 1 - 1, by omega⟩
        rw [hn]
        exact List.mem_cons_self)
      rw [wl_get _ _ 0 g0, show D.2.1 1 + 0 = D.2.1 1 from rfl] at this
      omega
    rw [ix_no hn ws 0 hw] at hR
    rw [h00]
    exact hR
theorem enY_c {ws : List (List Nat)} (hl : ws.length ≤ 20) (v : List Nat) : (ixW v ws 0 = 99 ∧ enY (ixW v ws 0) = -9) ∨ (ixW v ws 0 < ws.length ∧ enY (ixW v ws 0) = nI (ixW v ws 0)) := by
  have := ix_c v ws 0 (by omega)
  unfold enY
  by_cases c : ixW v ws 0 = 99
  · exact Or.inl ⟨c, if_pos c⟩
  · exact Or.inr ⟨by omega, if_neg c⟩
theorem y_faceC (C : TPm h m k T) (P0 : PRt h m s D) (G : GP k T D) (hs : s < 25) (X : ML_ S h m L) {q cc : Nat} (hq : (q = 5 ∧ cc = 8) ∨ (q = 6 ∧ cc = 9)) {a : Nat} (ea : a = m + cc) (ha : S.1 a = some (.inr (0, 5))) {ws : List (List Nat)} (hl : ws.length ≤ 20) (hws : ∀ i, i < ws.length → (q = 5 ∧ i ≤ 3) ∨ (q = 6 ∧ i ≤ 4)) {f : Int64 → Hp → (Int32 → Hp → Prop) → Prop} (hf : ∀ (v : List Nat) (R : Int32 → Hp → Prop), lsA v → v.length ≤ 7 → R (enY (ixW v ws 0)) h → f (lN (cdA v 0)) h R) (hw : ws.all lsB = true) (h00 : ixW [] ws 0 = 99) {Q : Int32 → Hp → Prop} (h1 : (D.1 = 2 ∧ nuF T D 0 < L 0 4 ∧ ixW (wlF T (D.2.1 1) (D.2.2 1)) ws 0 ≠ 99) → ∀ h', ML_ S h' m (updL L (5 + 2 * nuF T D 0) q (ixW (wlF T (D.2.1 1) (D.2.2 1)) ws 0)) → FrM m h h' → Q (nI 1) h') (h0 : ¬ (D.1 = 2 ∧ nuF T D 0 < L 0 4 ∧ ixW (wlF T (D.2.1 1) (D.2.2 1)) ws 0 ≠ 99) → Q (nI 0) h) : ob S m 7 ∧ (w_X7_wordOf S m (nI s) (nI 1) h (fun r3 h2 => (f r3 h2 (fun r5 h4 => (ain S (S.2 m 19) (nI s) ∧ (if (h4 (S.2 m 19) (ix (nI s))) = (nI 2) then (w_X7_numberOf S m (nI s) (nI 0) h4 (fun r9 h8 => (w_X7_isHead S m r9 h8 (fun r11 h10 => (if r11 = 0 then (Q (nI 0) h10) else (if 0 ≤ r5 then (w_X7_numberOf S m (nI s) (nI 0) h10 (fun r15 h14 => (ain S a r15 ∧ (Q (nI 1) (up h14 a (ix r15) r5))))) else (Q (nI 0) h10))))))) else (Q (nI 0) h4))))))) := by
  have l := X.1
  have g3 := G.1
  have w5 := X.2.2.1
  refine ⟨l.1, ?_⟩
  have E : ∀ r5 : Int32, (D.1 = 2 → r5 = enY (ixW (wlF T (D.2.1 1) (D.2.2 1)) ws 0)) → (ain S (S.2 m 19) (nI s) ∧ (if (h (S.2 m 19) (ix (nI s))) = (nI 2) then (w_X7_numberOf S m (nI s) (nI 0) h (fun r9 h8 => (w_X7_isHead S m r9 h8 (fun r11 h10 => (if r11 = 0 then (Q (nI 0) h10) else (if 0 ≤ r5 then (w_X7_numberOf S m (nI s) (nI 0) h10 (fun r15 h14 => (ain S a r15 ∧ (Q (nI 1) (up h14 a (ix r15) r5))))) else (Q (nI 0) h10))))))) else (Q (nI 0) h))) := by
    intro r5 e5
    rw [lr19 l, q_ix (show s < 2 ^ 31 by omega), P0.1]
    simp only [q_eq (show D.1 < 2 ^ 31 by omega) (show 2 < 2 ^ 31 by decide)]
    refine ⟨q_ain (la19 l) hs (by decide), ?_⟩
    by_cases c : D.1 = 2
    · rw [if_pos c]
      refine y_nr l C P0 G hs (by decide) (y_headN G X (fun c0 => ?_) (fun c0 => ?_))
      · rw [if_neg (by decide), e5 c]
        rcases enY_c hl (wlF T (D.2.1 1) (D.2.2 1)) with ⟨y1, y2⟩ | ⟨y1, y2⟩
        · rw [y2, if_neg (by decide)]
          exact h0 (fun q => q.2.2 y1)
        · rw [y2, if_pos (by rw [q_0le (by omega)]; trivial)]
          refine y_nr l C P0 G hs (by decide) ?_
          rw [nr_ok G (b := 5) (by decide) (by omega), q_ix (show nuF T D 0 < 2 ^ 31 by omega)]
          have hi := hws _ y1
          subst ea
          refine ⟨q_ain ha (by omega) (by decide), h1 ⟨c, c0, by omega⟩ _ (MLsetH X c0 (k := q) (c := cc) (by unfold KC; omega) (by omega) (HB_up (MLb X c0) (by omega))) (FrM_up FrM_rf (by omega))⟩
      · rw [if_pos (by decide)]; exact h0 (fun q => c0 q.2.1)
    · rw [if_neg c]; exact h0 (fun q => c q.1)
  by_cases c : 2 ≤ D.1
  · exact y_wordT C P0 G hs l hf hw h00 c (E _ (fun _ => rfl))
  · refine y_word l C P0 G hs (by decide) (fun q => absurd q.1 (by omega)) (fun _ => ?_)
    exact hf [] _ (fun t ht => absurd ht List.not_mem_nil) (by decide) (E _ (fun q => by omega))
theorem y_joinC (C : TPm h m k T) (P0 : PRt h m s D) (G : GP k T D) (hs : s < 25) (X : ML_ S h m L) {Q : Int32 → Hp → Prop} (h1 : (D.1 = 2 ∧ nuF T D 0 < L 0 4 ∧ nuF T D 1 ≤ 99) → ∀ h', ML_ S h' m (updL L (5 + 2 * nuF T D 0) 7 (nuF T D 1)) → FrM m h h' → Q (nI 1) h') (h0 : ¬ (D.1 = 2 ∧ nuF T D 0 < L 0 4 ∧ nuF T D 1 ≤ 99) → Q (nI 0) h) : w_X7_comesJoining S m (nI s) h Q := by
  have l := X.1
  have g3 := G.1
  have w5 := X.2.2.1
  unfold w_X7_comesJoining
  rw [lr19 l, lr9 l, q_ix (show s < 2 ^ 31 by omega), P0.1]
  simp only [q_eq (show D.1 < 2 ^ 31 by omega) (show 2 < 2 ^ 31 by decide)]
  refine ⟨l.1, q_ain (la19 l) hs (by decide), ?_⟩
  by_cases c : D.1 = 2
  · rw [if_pos c]
    refine y_nr l C P0 G hs (by decide) (y_headN G X (fun c0 => ?_) (fun c0 => ?_))
    · rw [if_neg (by decide)]
      refine y_isNum l C P0 G hs (by decide) (fun c1 => ?_) (fun c1 => ?_)
      · have n1 : nuF T D 1 ≤ 99 := by
          rcases nu_c G 1 with y | y
          · exact y
          · unfold nuF at y
            rw [if_pos c1] at y
            obtain ⟨g0, g1, g2⟩ := G.2 1 c1.1
            have g : D.2.2 1 ≤ 2 ∧ ∀ i, i < D.2.2 1 → isS k T 48 57 (D.2.1 1 + i) := by
              rcases g2 with g | g
              · have := g.2 0 g0
                rw [Nat.add_zero] at this; omega
              · exact g
            unfold nvF at y
            by_cases y1 : D.2.2 1 = 1
            · rw [if_pos y1] at y; omega
            · rw [if_neg y1] at y
              have := g.2 1 (by omega)
              omega
        rw [if_neg (by decide)]
        refine y_nr l C P0 G hs (by decide) (y_nr l C P0 G hs (by decide) ?_)
        rw [nr_ok G (b := 5) (by decide) (by omega), nr_ok G (by decide) n1, q_ix (show nuF T D 0 < 2 ^ 31 by omega)]
        exact ⟨q_ain (la9 l) (by omega) (by decide), h1 ⟨c, c0, n1⟩ _ (MLsetH X c0 (k := 7) (c := 10) (by unfold KC; omega) (by omega) (HB_up (MLb X c0) (by omega))) (FrM_up FrM_rf (by omega))⟩
      · rw [if_pos (by decide)]
        refine h0 (fun q => ?_)
        have y := q.2.2
        unfold nuF at y
        rw [if_neg c1] at y
        omega
    · rw [if_pos (by decide)]; exact h0 (fun q => c0 q.2.1)
  · rw [if_neg c]; exact h0 (fun q => c q.1)
theorem y_nightC (C : TPm h m k T) (P0 : PRt h m s D) (G : GP k T D) (hs : s < 25) (X : ML_ S h m L) (hn : L 0 5 ≤ 999) {Q : Int32 → Hp → Prop} (h1 : (D.1 = 1 ∧ 1 ≤ nuF T D 0 ∧ nuF T D 0 ≤ 60 ∧ L 0 5 + nuF T D 0 ≤ 999) → ∀ h', ML_ S h' m (nightsF (nuF T D 0) L) → FrM m h h' → Q (nI 1) h') (h0 : ¬ (D.1 = 1 ∧ 1 ≤ nuF T D 0 ∧ nuF T D 0 ≤ 60 ∧ L 0 5 + nuF T D 0 ≤ 999) → Q (nI 0) h) : w_X7_comesNights S m (nI s) h Q := by
  have l := X.1
  have g3 := G.1
  unfold w_X7_comesNights
  refine ⟨l.1, y_nr l C P0 G hs (by decide) ?_⟩
  rw [lr19 l, q_ix (show s < 2 ^ 31 by omega), P0.1]
  simp only [q_eq (show D.1 < 2 ^ 31 by omega) (show 1 < 2 ^ 31 by decide)]
  refine ⟨q_ain (la19 l) hs (by decide), ?_⟩
  by_cases c : D.1 = 1
  · rw [if_pos c]
    refine y_inN G (by decide) (fun c1 => ?_) (fun c1 => ?_) (by decide)
    · rw [if_neg (by decide), X.2.1.1.2.1, nr_ok G (by decide) c1.2, nI_add]
      simp only [q_le (show L 0 5 + nuF T D 0 < 2 ^ 31 by omega) (show 999 < 2 ^ 31 by decide)]
      by_cases c2 : L 0 5 + nuF T D 0 ≤ 999
      · rw [if_pos c2]
        exact y_goes X (by omega) (fun h' X' F' => h1 ⟨c, c1.1, c1.2, c2⟩ h' X' F')
      · rw [if_neg c2]; exact h0 (fun q => c2 q.2.2.2)
    · rw [if_pos (by decide)]; exact h0 (fun q => c1 ⟨q.2.1, q.2.2.1⟩)
  · rw [if_neg c]; exact h0 (fun q => c q.1)
end YCMD
