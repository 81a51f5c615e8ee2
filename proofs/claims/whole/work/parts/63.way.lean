/-! PURE: ways -/
def rcF (L : Ld) (s : Nat) : Nat → Nat → Prop
  | 0, v => v = s
  | k + 1, v => rcF L s k v ∨ ∃ u d, rcF L s k u ∧ u < 48 ∧ d < 4 ∧ besF u d = v ∧ v < 48 ∧ L 1 v = 0
/-- d is the fewest steps to v; 99 none -/
def IsD (L : Ld) (s v d : Nat) : Prop := (d = 99 ∧ ∀ k, ¬ rcF L s k v) ∨ (d ≠ 99 ∧ rcF L s d v ∧ ∀ k, rcF L s k v → d ≤ k)
theorem IsD_one {L : Ld} {s v d e : Nat} (a : IsD L s v d) (b : IsD L s v e) : d = e := by
  rcases a with ⟨a1, a2⟩ | ⟨a1, a2, a3⟩
  · rcases b with ⟨b1, b2⟩ | ⟨b1, b2, b3⟩
    · omega
    · exact absurd b2 (a2 _)
  · rcases b with ⟨b1, b2⟩ | ⟨b1, b2, b3⟩
    · exact absurd a2 (b2 _)
    · have h1 := a3 _ b2
      have h2 := b3 _ a2
      omega
def upN (f : Nat → Nat) (k v : Nat) : Nat → Nat := fun j => if j = k then v else f j
theorem upN_s (f : Nat → Nat) (k v : Nat) : upN f k v k = v := by simp [upN]
theorem upN_n {f : Nat → Nat} {k v j : Nat} (h : j ≠ k) : upN f k v j = f j := by simp [upN, h]
def PRC (L : Ld) (D : Nat → Nat) (u d : Nat) : Prop := besF u d < 48 → L 1 (besF u d) = 0 → D (besF u d) ≠ 99 ∧ D (besF u d) ≤ D u + 1
def RCD (L : Ld) (s : Nat) (D : Nat → Nat) : Prop := D s = 0 ∧ ∀ v, v < 48 → D v ≠ 99 → rcF L s (D v) v
theorem way_done {L : Ld} {s : Nat} {D : Nat → Nat} (hs : s < 48) (R : RCD L s D) (P : ∀ u, u < 48 → D u ≠ 99 → ∀ d, d < 4 → PRC L D u d) : ∀ v, v < 48 → IsD L s v (D v) := by
  have C : ∀ k v, rcF L s k v → v < 48 → D v ≠ 99 ∧ D v ≤ k := by
    intro k
    induction k with
    | zero =>
      intro v hv _
      have hv : v = s := hv
      subst hv
      rw [R.1]; exact ⟨by decide, Nat.le_refl _⟩
    | succ k ih =>
      intro v hv v8
      rcases hv with hv | ⟨u, d, h1, h2, h3, h4, h5, h6⟩
      · have := ih v hv v8
        exact ⟨this.1, by omega⟩
      · have a := ih u h1 h2
        have b := P u h2 a.1 d h3 (by rw [h4]; exact h5) (by rw [h4]; exact h6)
        rw [h4] at b
        exact ⟨b.1, by omega⟩
  intro v hv
  by_cases c : D v = 99
  · exact Or.inl ⟨c, fun k q => (C k v q hv).1 c⟩
  · exact Or.inr ⟨c, R.2 v hv c, fun k q => (C k v q hv).2⟩
theorem PRC_up {L : Ld} {D : Nat → Nat} {u d n e : Nat} (P : PRC L D u d) (hn : D n = 99) (hu : u ≠ n) : PRC L (upN D n e) u d := by
  intro h1 h2
  have p := P h1 h2
  have w : besF u d ≠ n := fun q => p.1 (by rw [q]; exact hn)
  rw [upN_n w, upN_n hu]
  exact p
theorem RCD_up {L : Ld} {s : Nat} {D : Nat → Nat} (R : RCD L s D) {u d n : Nat} (hu : u < 48) (hD : D u ≠ 99) (hd : d < 4) (hb : besF u d = n) (h8 : n < 48) (hw : L 1 n = 0) (hn : D n = 99) : RCD L s (upN D n (D u + 1)) := by
  have sn : s ≠ n := fun q => by have := R.1; rw [q, hn] at this; exact absurd this (by decide)
  refine ⟨by rw [upN_n sn]; exact R.1, fun v hv hq => ?_⟩
  by_cases c : v = n
  · subst c
    rw [upN_s]
    exact Or.inr ⟨u, d, R.2 u hu hD, hu, hd, hb, h8, hw⟩
  · rw [upN_n c] at hq ⊢
    exact R.2 v hv hq
theorem sumF_one {f g : Nat → Nat} {k : Nat} (h0 : f k = 0) (h1 : g k = 1) (he : ∀ j, j ≠ k → g j = f j) : ∀ n, k < n → sumF g n = sumF f n + 1
  | 0, h => absurd h (by omega)
  | n + 1, h => by
    simp only [sumF]
    by_cases c : k = n
    · subst c
      have e := sumF_congr (f := g) (g := f) k (fun i hi => he i (by omega))
      rw [h0, h1, e]
    · have ih := sumF_one h0 h1 he n (by omega)
      rw [ih, he n (by omega)]; omega
def cntF (D : Nat → Nat) : Nat := sumF (fun v => if D v = 99 then 0 else 1) 48
theorem cntF_le (D : Nat → Nat) : cntF D ≤ 48 := by
  have := sumF_le (f := fun v => if D v = 99 then 0 else 1) (c := 1) 48 (fun i _ => by split <;> omega)
  unfold cntF; omega
theorem cntF_up {D : Nat → Nat} {n e : Nat} (h8 : n < 48) (hn : D n = 99) (he : e ≠ 99) : cntF (upN D n e) = cntF D + 1 := by
  unfold cntF
  refine sumF_one (k := n) ?_ ?_ ?_ 48 h8
  · rw [if_pos hn]
  · rw [upN_s, if_neg he]
  · intro j hj; rw [upN_n hj]
theorem cntF_1 (s : Nat) (hs : s < 48) : cntF (upN (fun _ => 99) s 0) = 1 := by
  rw [cntF_up hs rfl (by decide)]
  have : cntF (fun _ => 99) = 0 := by decide
  omega
def WI (L : Ld) (s : Nat) (D q : Nat → Nat) (c i : Nat) : Prop := RCD L s D ∧ cntF D = c ∧ (∀ j, j < c → q j < 48 ∧ D (q j) ≤ j) ∧ (∀ v, v < 48 → D v ≠ 99 → ∃ j, j < c ∧ q j = v) ∧ (∀ j k, j ≤ k → k < c → D (q j) ≤ D (q k)) ∧ (i < c → ∀ j, j < c → D (q j) ≤ D (q i) + 1) ∧ (∀ j, j < i → ∀ d, d < 4 → PRC L D (q j) d) ∧ i ≤ c
theorem WI_add {L : Ld} {s : Nat} {D q : Nat → Nat} {c i d n : Nat} (W : WI L s D q c i) (hi : i < c) (h8 : n < 48) (hn : D n = 99) (hw : L 1 n = 0) (hd : d < 4) (hb : besF (q i) d = n) : c < 48 ∧ WI L s (upN D n (D (q i) + 1)) (upN q c n) (c + 1) i := by
  obtain ⟨w1, w2, w3, w4, w5, w6, w7, w8⟩ := W
  have ci := w3 i hi
  have c8 := cntF_le D
  have c9 := cntF_up (e := D (q i) + 1) h8 hn (by omega)
  have c10 := cntF_le (upN D n (D (q i) + 1))
  have hc : c < 48 := by omega
  have hD : ∀ j, j < c → D (q j) ≠ 99 := fun j hj => by have := (w3 j hj).2; omega
  have hq : ∀ j, j < c → q j ≠ n := fun j hj e => hD j hj (by rw [e]; exact hn)
  have eq : ∀ j, j < c → upN q c n j = q j := fun j hj => upN_n (by omega)
  have eD : ∀ j, j < c → upN D n (D (q i) + 1) (q j) = D (q j) := fun j hj => upN_n (hq j hj)
  refine ⟨hc, RCD_up w1 ci.1 (hD i hi) hd hb h8 hw hn, by omega, ?_, ?_, ?_, ?_, ?_, by omega⟩
  · intro j hj
    by_cases e : j = c
    · subst e
      rw [upN_s, upN_s]; exact ⟨h8, by omega⟩
    · rw [eq j (by omega), eD j (by omega)]; exact w3 j (by omega)
  · intro v hv hvD
    by_cases e : v = n
    · subst e; exact ⟨c, by omega, upN_s _ _ _⟩
    · rw [upN_n e] at hvD
      obtain ⟨j, j1, j2⟩ := w4 v hv hvD
      exact ⟨j, by omega, by rw [eq j j1]; exact j2⟩
  · intro j k hjk hk
    by_cases e : k = c
    · subst e
      rw [upN_s, upN_s]
      by_cases e2 : j = k
      · subst e2; rw [upN_s, upN_s]; exact Nat.le_refl _
      · rw [eq j (by omega), eD j (by omega)]; exact w6 hi j (by omega)
    · rw [eq j (by omega), eD j (by omega), eq k (by omega), eD k (by omega)]; exact w5 j k hjk (by omega)
  · intro _ j hj
    rw [eq i hi, eD i hi]
    by_cases e : j = c
    · subst e; rw [upN_s, upN_s]; exact Nat.le_refl _
    · rw [eq j (by omega), eD j (by omega)]; exact w6 hi j (by omega)
  · intro j hj d' hd'
    rw [eq j (by omega)]
    exact PRC_up (w7 j hj d' hd') hn (hq j (by omega))
theorem WI_next {L : Ld} {s : Nat} {D q : Nat → Nat} {c i : Nat} (W : WI L s D q c i) (hi : i < c) (hp : ∀ d, d < 4 → PRC L D (q i) d) : WI L s D q c (i + 1) := by
  obtain ⟨w1, w2, w3, w4, w5, w6, w7, w8⟩ := W
  refine ⟨w1, w2, w3, w4, w5, fun h j hj => ?_, fun j hj d hd => ?_, by omega⟩
  · have h1 := w6 hi j hj
    have h2 := w5 i (i + 1) (by omega) h
    omega
  · by_cases e : j = i
    · subst e; exact hp d hd
    · exact w7 j (by omega) d hd
theorem WI_done {L : Ld} {s : Nat} {D q : Nat → Nat} {c : Nat} (hs : s < 48) (W : WI L s D q c c) : ∀ v, v < 48 → IsD L s v (D v) := by
  obtain ⟨w1, w2, w3, w4, w5, w6, w7, w8⟩ := W
  refine way_done hs w1 (fun u hu hD d hd => ?_)
  obtain ⟨j, j1, j2⟩ := w4 u hu hD
  rw [← j2]; exact w7 j j1 d hd
theorem WI_0 {L : Ld} {s : Nat} (hs : s < 48) (q : Nat → Nat) (h0 : q 0 = s) : WI L s (upN (fun _ => 99) s 0) q 1 0 := by
  have z : ∀ j, j < 1 → q j = s := fun j hj => by rw [show j = 0 by omega]; exact h0
  refine ⟨⟨upN_s _ _ _, fun v hv hD => ?_⟩, cntF_1 s hs, fun j hj => ?_, fun v hv hD => ?_, fun j k hjk hk => ?_, fun _ j hj => ?_, fun j hj => absurd hj (by omega), by omega⟩
  · by_cases c : v = s
    · subst c; rw [upN_s]; rfl
    · rw [upN_n c] at hD; exact absurd rfl hD
  · rw [z j hj, upN_s]; exact ⟨hs, by omega⟩
  · by_cases c : v = s
    · exact ⟨0, by omega, by rw [h0, c]⟩
    · rw [upN_n c] at hD; exact absurd rfl hD
  · rw [z j (by omega), z k hk]; exact Nat.le_refl _
  · rw [z j hj, h0]; omega
def enD (c : Int32) (d : Nat) : Int32 := if d = 99 then c else nI d
def WH (h : Hp) (x : Nat) (D q : Nat → Nat) (c : Nat) : Prop := (∀ v, v < 48 → h (x + 176) v = enD (-1) (D v)) ∧ ∀ j, j < c → h (x + 177) j = nI (q j)
def FrW (x : Nat) (h h' : Hp) : Prop := ∀ a k, a ≠ x + 176 → a ≠ x + 177 → h' a k = h a k
section WAY
variable {S : St} {h h' : Hp} {x m : Nat} {A : Ab}
theorem XI_W (X : XI S h x A) (f : FrW x h h') : XI S h' x A := XI_cong X (fun a k q1 q2 => f a k (by omega) (by omega))
theorem FrX_W {h1 : Hp} (f : FrW x h h1) : FrX x h h1 := fun a k q => f a k (by omega) (by omega)
theorem x_stepOn (X : XI S h x A) {s : Nat} {D q : Nat → Nat} {c i : Nat} (H : WH h x D q c) (W : WI (aL A) s D q c i) (hi : i < c) {Q : Int32 → Hp → Prop} (hQ : ∀ h' D' q' c', WH h' x D' q' c' → WI (aL A) s D' q' c' (i + 1) → XI S h' x A → FrW x h h' → c ≤ c' → Q (nI c') h') : w_X5_stepOn S (x + 175) (x + 1) (nI (q i)) (nI c) h Q := by
  have l := X.1
  have l1 := l.2.1.1
  unfold w_X5_stepOn w_X5_stepOn_c6
  intro P hP
  have K : ∀ (e d : Nat) (D' q' : Nat → Nat) (c' : Nat) (h1 : Hp), d + e = 4 → WH h1 x D' q' c' → WI (aL A) s D' q' c' i → c ≤ c' → q' i = q i → (∀ d', d' < d → PRC (aL A) D' (q' i) d') → XI S h1 x A → FrW x h h1 → P (nI c') (nI d) h1 := by
    intro e
    induction e with
    | zero =>
      intro d D' q' c' h1 hd H1 W1 hc eq hp X1 F1
      have c8 := cntF_le D'
      refine hP _ _ _ ?_
      simp only [q_le (show 4 < 2 ^ 31 by decide) (show d < 2 ^ 31 by omega)]
      rw [if_pos (by omega)]
      exact hQ h1 D' q' c' H1 (WI_next W1 (by omega) (fun d' hd' => hp d' (by omega))) X1 F1 hc
    | succ e ih =>
      intro d D' q' c' h1 hd H1 W1 hc eq hp X1 F1
      have c8 := cntF_le D'
      have w3 := W1.2.2.1 i (by omega)
      have wc := W1.2.1
      rw [eq] at w3
      have skip : PRC (aL A) D' (q' i) d → P (nI c') (nI d + nI 1) h1 := fun p => by
        rw [nI_add]
        refine ih (d + 1) D' q' c' h1 (by omega) H1 W1 hc eq (fun d' hd' => ?_) X1 F1
        by_cases e9 : d' = d
        · subst e9; exact p
        · exact hp d' (by omega)
      refine hP _ _ _ ?_
      simp only [q_le (show 4 < 2 ^ 31 by decide) (show d < 2 ^ 31 by omega)]
      rw [if_neg (by omega)]
      refine x_beside (by omega) (by omega) (fun b9 => ?_) (fun b9 => ?_)
      · rw [if_pos (by decide)]
        exact skip (fun b1 _ => absurd b1 (by rw [eq, b9]; decide))
      · rw [if_neg (by rw [q_neg1 (by omega)]; exact id)]
        rw [l.2.2.2.2.2.1.2.1, l.2.2.2.2.2.1.2.2.1, q_ix (by omega), q_ix (by omega), H1.1 _ (by omega), l1.2.1.1]
        refine ⟨l.2.2.2.2.2.1.1, q_ain l.2.2.2.2.2.1.2.2.2.1 (by omega) (by decide), ?_⟩
        by_cases hn : D' (besF (q i) d) = 99
        · have e1 : enD (-1) (D' (besF (q i) d)) = -1 := if_pos hn
          rw [e1, if_pos rfl, (X1.2.1.2.1.2.1 _ (by omega)).1]
          refine ⟨l1.1, q_ain l1.2.2.1.1 (by omega) (by decide), ?_⟩
          have wl := (X1.2.1.2.2.2.2.1 (besF (q i) d) (by omega)).1
          simp only [q_eq0 (show aL A 1 (besF (q i) d) < 2 ^ 31 by omega)]
          by_cases hw : aL A 1 (besF (q i) d) = 0
          · rw [if_pos hw]
            have hb : besF (q' i) d = besF (q i) d := by rw [eq]
            obtain ⟨hc8, W2⟩ := WI_add W1 (by omega) (show besF (q i) d < 48 by omega) hn hw (show d < 4 by omega) hb
            simp only [q_le (show 48 < 2 ^ 31 by decide) (show c' < 2 ^ 31 by omega)]
            rw [if_neg (by omega), q_ix (show c' < 2 ^ 31 by omega), H1.1 (q i) (by omega)]
            have dn : D' (q i) ≠ 99 := by omega
            have e2 : enD (-1) (D' (q i)) = nI (D' (q i)) := if_neg dn
            rw [e2, nI_add, nI_add, nI_add]
            refine ⟨q_ain l.2.2.2.2.2.1.2.2.2.1 (by omega) (by decide), q_ain l.2.2.2.2.2.1.2.2.2.2 (by omega) (by decide), ?_⟩
            have hqi : ∀ j, j < c' → q' j ≠ besF (q i) d := fun j hj e9 => by
              have := (W1.2.2.1 j hj).2
              rw [e9, hn] at this; omega
            refine ih (d + 1) _ _ (c' + 1) _ (by omega) ⟨fun v hv => ?_, fun j hj => ?_⟩ W2 (by omega) ?_ ?_ ?_ ?_
            · rw [up_ne (by omega)]
              by_cases e9 : v = besF (q i) d
              · rw [e9, up_same, upN_s, eq]
                exact (if_neg (by omega)).symm
              · rw [up_ne (by omega), upN_n e9]; exact H1.1 v hv
            · by_cases e9 : j = c'
              · rw [e9, up_same, upN_s]
              · rw [up_ne (by omega), up_ne (by omega), upN_n e9]; exact H1.2 j (by omega)
            · rw [upN_n (by omega)]; exact eq
            · intro d' hd'
              rw [upN_n (show i ≠ c' by omega)]
              by_cases e9 : d' = d
              · subst e9
                intro _ _
                rw [eq, upN_s, upN_n (show q i ≠ besF (q i) d' from fun e9 => hqi i (by omega) (by rw [eq]; exact e9))]
                exact ⟨by omega, Nat.le_refl _⟩
              · exact PRC_up (hp d' (by omega)) hn (hqi i (by omega))
            · exact XI_W X1 (fun a k a1 a2 => by rw [up_ne (by omega), up_ne (by omega)])
            · intro a k a1 a2
              rw [up_ne (by omega), up_ne (by omega)]; exact F1 a k a1 a2
          · rw [if_neg hw]
            exact skip (fun _ b2 => absurd b2 (by rw [eq]; exact hw))
        · have e1 : enD (-1) (D' (besF (q i) d)) = nI (D' (besF (q i) d)) := if_neg hn
          obtain ⟨j, j1, j2⟩ := W1.2.2.2.1 _ (show besF (q i) d < 48 by omega) hn
          have j3 := (W1.2.2.1 j j1).2
          have j4 := W1.2.2.2.2.2.1 (by omega) j j1
          rw [j2] at j3 j4
          rw [e1, if_neg (by rw [q_neg1 (by omega)]; exact id)]
          exact skip (fun _ _ => by rw [eq] at j4 ⊢; exact ⟨hn, j4⟩)
  exact K 4 0 D q c h (by omega) H W (Nat.le_refl _) rfl (fun d' hd' => absurd hd' (by omega)) X (fun _ _ _ _ => rfl)
theorem x_fewest (X : XI S h x A) {s v : Nat} (hs : s < 48) (hv : v < 48) {Q : Int32 → Hp → Prop} (hQ : ∀ h' d, IsD (aL A) s v d → XI S h' x A → FrX x h h' → Q (enD (-9) d) h') : w_X5_fewestSteps S (x + 175) (x + 1) (nI s) (nI v) h Q := by
  have l := X.1
  unfold w_X5_fewestSteps w_X5_fewestSteps_c3
  intro P hP
  have K : ∀ (r k : Nat) (h1 : Hp), k + r = 48 → (∀ j, j < k → h1 (x + 176) j = -1) → FrW x h h1 → P (nI k) h1 := by
    intro r
    induction r with
    | zero =>
      intro k h1 hk H1 F1
      refine hP _ _ ?_
      simp only [q_le (show 48 < 2 ^ 31 by decide) (show k < 2 ^ 31 by omega)]
      rw [if_pos (by omega), l.2.2.2.2.2.1.2.1, l.2.2.2.2.2.1.2.2.1, q_ix (by omega), q_ix (by omega)]
      refine ⟨l.2.2.2.2.2.1.1, q_ain l.2.2.2.2.2.1.2.2.2.1 (by omega) (by decide), q_ain l.2.2.2.2.2.1.2.2.2.2 (by omega) (by decide), ?_⟩
      unfold w_X5_fewestSteps_c44
      intro P2 hP2
      have F2 : FrW x h (up (up h1 (x + 176) s (nI 0)) (x + 177) 0 (nI s)) := fun a k a1 a2 => by rw [up_ne (by omega), up_ne (by omega)]; exact F1 a k a1 a2
      have H2 : WH (up (up h1 (x + 176) s (nI 0)) (x + 177) 0 (nI s)) x (upN (fun _ => 99) s 0) (fun _ => s) 1 := by
        refine ⟨fun u hu => ?_, fun j hj => ?_⟩
        · rw [up_ne (by omega)]
          by_cases e : u = s
          · rw [e, up_same, upN_s]; rfl
          · rw [up_ne (by omega), upN_n e]; exact H1 u (by omega)
        · rw [show j = 0 by omega, up_same]
      have fin : ∀ (D : Nat → Nat) (q : Nat → Nat) (c : Nat) (h2 : Hp), WH h2 x D q c → WI (aL A) s D q c c → XI S h2 x A → FrW x h h2 → (ob S (x + 175) 5 ∧ (ain S (S.2 (x + 175) 0) (nI v) ∧ (if (h2 (S.2 (x + 175) 0) (ix (nI v))) = (-1) then (Q (-9) h2) else (Q (h2 (S.2 (x + 175) 0) (ix (nI v))) h2)))) := by
        intro D q c h2 H2 W2 X2 F2
        have hd := WI_done hs W2 v hv
        have hq := hQ h2 _ hd X2 (FrX_W F2)
        rw [l.2.2.2.2.2.1.2.1, q_ix (by omega), H2.1 v hv]
        refine ⟨l.2.2.2.2.2.1.1, q_ain l.2.2.2.2.2.1.2.2.2.1 (by omega) (by decide), ?_⟩
        by_cases e : D v = 99
        · rw [show enD (-1) (D v) = -1 from if_pos e, if_pos rfl]
          rw [show enD (-9) (D v) = -9 from if_pos e] at hq; exact hq
        · obtain ⟨j, j1, j2⟩ := W2.2.2.2.1 v hv e
          have j3 := (W2.2.2.1 j j1).2
          have c8 := cntF_le D
          have wc := W2.2.1
          rw [j2] at j3
          rw [show enD (-1) (D v) = nI (D v) from if_neg e, if_neg (by rw [q_neg1 (by omega)]; exact id)]
          rw [show enD (-9) (D v) = nI (D v) from if_neg e] at hq; exact hq
      have K2 : ∀ (r i : Nat) (D q : Nat → Nat) (c : Nat) (h2 : Hp), i + r = 48 → WH h2 x D q c → WI (aL A) s D q c i → XI S h2 x A → FrW x h h2 → P2 (nI c) (nI i) h2 := by
        intro r
        induction r with
        | zero =>
          intro i D q c h2 hi H2 W2 X2 F2
          have c8 := cntF_le D
          have wc := W2.2.1
          have wi := W2.2.2.2.2.2.2.2
          refine hP2 _ _ _ ?_
          simp only [q_le (show c < 2 ^ 31 by omega) (show i < 2 ^ 31 by omega)]
          have ei : i = c := by omega
          rw [if_pos (by omega)]
          rw [ei] at W2
          exact fin D q c h2 H2 W2 X2 F2
        | succ r ih =>
          intro i D q c h2 hi H2 W2 X2 F2
          have c8 := cntF_le D
          have wc := W2.2.1
          have wi := W2.2.2.2.2.2.2.2
          refine hP2 _ _ _ ?_
          simp only [q_le (show c < 2 ^ 31 by omega) (show i < 2 ^ 31 by omega)]
          by_cases e : c ≤ i
          · rw [if_pos e]
            have ei : i = c := by omega
            rw [ei] at W2
            exact fin D q c h2 H2 W2 X2 F2
          · rw [if_neg e]
            simp only [q_le (show 48 < 2 ^ 31 by decide) (show i < 2 ^ 31 by omega)]
            rw [if_neg (by omega), l.2.2.2.2.2.1.2.2.1, q_ix (by omega), H2.2 i (by omega)]
            refine ⟨l.2.2.2.2.2.1.1, q_ain l.2.2.2.2.2.1.2.2.2.2 (by omega) (by decide), ?_⟩
            refine x_stepOn X2 H2 W2 (by omega) (fun h3 D3 q3 c3 H3 W3 X3 F3 _ => ?_)
            rw [nI_add]
            exact ih (i + 1) D3 q3 c3 h3 (by omega) H3 W3 X3 (fun a k a1 a2 => (F3 a k a1 a2).trans (F2 a k a1 a2))
      exact K2 48 0 _ _ 1 _ (by omega) H2 (WI_0 hs _ rfl) (XI_W X F2) F2
    | succ r ih =>
      intro k h1 hk H1 F1
      refine hP _ _ ?_
      simp only [q_le (show 48 < 2 ^ 31 by decide) (show k < 2 ^ 31 by omega)]
      rw [if_neg (by omega), l.2.2.2.2.2.1.2.1, q_ix (by omega), nI_add]
      refine ⟨l.2.2.2.2.2.1.1, q_ain l.2.2.2.2.2.1.2.2.2.1 (by omega) (by decide), ?_⟩
      refine ih (k + 1) _ (by omega) (fun j hj => ?_) (fun a k' a1 a2 => ?_)
      · by_cases e : j = k
        · rw [e, up_same]
        · rw [up_ne (by omega)]; exact H1 j (by omega)
      · rw [up_ne (by omega)]; exact F1 a k' a1 a2
  exact K 48 0 h (by omega) (fun j hj => absurd hj (by omega)) (fun _ _ _ _ => rfl)
theorem x_way (X : XI S h x A) {v w : Int32} {Q : Int32 → Hp → Prop} (h1 : ∀ s f d, s < 48 → f < 48 → v = nI s → w = nI f → IsD (aL A) s f d → ∀ h', XI S h' x A → FrX x h h' → Q (enD (-9) d) h') (h0 : ¬ (inR v 48 ∧ inR w 48) → ∀ h', XI S h' x (rfA A (-1)).2 → FrX x h h' → Q (rfA A (-1)).1 h') : w_X6_way S x v w h Q := by
  have l := X.1
  unfold w_X6_way
  refine x_noField (fun c => ?_) (fun c => ?_)
  · rw [if_pos (by decide)]
    refine x_noField (fun c2 => ?_) (fun c2 => ?_)
    · rw [if_pos (by decide), l.1.2.2.2.2.2.2.1, l.1.2.1]
      obtain ⟨s, hs, rfl⟩ := inR_ex c (by decide)
      obtain ⟨f, hf, rfl⟩ := inR_ex c2 (by decide)
      exact ⟨l.1.1, l.2.2.2.2.2.1.1, x_fewest X hs hf (fun h' d hd X' F' => h1 s f d hs hf rfl rfl hd h' X' F')⟩
    · rw [if_neg (by decide)]
      exact ⟨l.1.1, x_refuse X (Or.inl rfl) (h0 (fun q => c2 q.2))⟩
  · rw [if_neg (by decide)]
    exact ⟨l.1.1, x_refuse X (Or.inl rfl) (h0 (fun q => c q.1))⟩
end WAY
