/-! PURE: a letter more; choices; the best word, the best letter -/
def adL (L : Ld) (i c : Nat) : Ld := updL (updL L (6 + 2 * i) (L (5 + 2 * i) 3) c) (5 + 2 * i) 3 (L (5 + 2 * i) 3 + 1)
theorem adL_0 (L : Ld) (i c : Nat) : ∀ q, adL L i c 0 q = L 0 q := fun q => by unfold adL; rw [updL_ne (by omega), updL_ne (by omega)]
theorem adL_wf {L : Ld} {i c : Nat} (W : WfL L) (hi : i < L 0 4) (hl : L (5 + 2 * i) 3 < 6) (hc : c ≤ 25) : WfL (adL L i c) := by
  have e0 := adL_0 L i c
  refine ⟨by rw [e0]; exact W.1, by rw [e0]; exact W.2.1, fun f hf => ?_, fun j hj => ?_⟩
  · unfold adL
    rw [updL_ne (by omega), updL_ne (by omega), updL_ne (by omega), updL_ne (by omega), updL_ne (by omega), updL_ne (by omega)]
    exact W.2.2.1 f hf
  · rw [e0] at hj
    have Hj := W.2.2.2 j hj
    obtain ⟨b0, b1, b3, b4, b5, b6, b7, b8, bn, b9⟩ := Hj
    have e5 : ∀ q, ¬ (j = i ∧ q = 3) → adL L i c (5 + 2 * j) q = L (5 + 2 * j) q := fun q hq => by unfold adL; rw [updL_ne (by omega), updL_ne (by omega)]
    have e6 : ∀ q, ¬ (j = i ∧ q = L (5 + 2 * i) 3) → adL L i c (6 + 2 * j) q = L (6 + 2 * j) q := fun q hq => by unfold adL; rw [updL_ne (by omega), updL_ne (by omega)]
    unfold HB
    rw [e5 0 (by omega), e5 1 (by omega), e5 4 (by omega), e5 5 (by omega), e5 6 (by omega), e5 7 (by omega), e5 8 (by omega)]
    by_cases g : j = i
    · subst g
      have e3 : adL L j c (5 + 2 * j) 3 = L (5 + 2 * j) 3 + 1 := by unfold adL; rw [updL_same]
      rw [e3]
      refine ⟨b0, b1, by omega, b4, b5, b6, b7, b8, fun k hk => ?_, by omega⟩
      by_cases ek : k = L (5 + 2 * j) 3
      · subst ek
        have : adL L j c (6 + 2 * j) (L (5 + 2 * j) 3) = c := by unfold adL; rw [updL_ne (by omega), updL_same]
        rw [this]; exact hc
      · rw [e6 k (by omega)]; exact bn k (by omega)
    · rw [e5 3 (by omega)]
      exact ⟨b0, b1, b3, b4, b5, b6, b7, b8, fun k hk => by rw [e6 k (by omega)]; exact bn k hk, b9⟩
section CHOICE
variable {S : St} {h : Hp} {x b m : Nat} {L : Ld} {A : Ab}
theorem XLadd (X : XL S h b L) {i c : Nat} (hi : i < L 0 4) (hl : L (5 + 2 * i) 3 < 6) (hc : c ≤ 25) : XL S (up (up h (b + (5 + 2 * i) + 1) (L (5 + 2 * i) 3) (nI c)) (b + (5 + 2 * i)) 3 (nI (L (5 + 2 * i) 3 + 1))) b (adL L i c) := by
  obtain ⟨l, r, w⟩ := X
  have e0 := adL_0 L i c
  refine ⟨l, ⟨?_, fun f hf => ?_, fun j hj => ⟨fun k h1 h2 => ?_, fun k hk => ?_⟩⟩, adL_wf w hi hl hc⟩
  · rw [e0, e0, e0, up_ne (by omega), up_ne (by omega), up_ne (by omega), up_ne (by omega), up_ne (by omega), up_ne (by omega)]; exact r.1
  · unfold adL
    rw [updL_ne (by omega), updL_ne (by omega), updL_ne (by omega), updL_ne (by omega), updL_ne (by omega), updL_ne (by omega), up_ne (by omega), up_ne (by omega), up_ne (by omega), up_ne (by omega), up_ne (by omega), up_ne (by omega)]
    exact r.2.1 f hf
  · rw [e0] at hj
    by_cases g : j = i ∧ k = 3
    · obtain ⟨rfl, rfl⟩ := g
      unfold adL
      rw [up_same, updL_same]
    · unfold adL
      rw [up_ne (by omega), up_ne (by omega), updL_ne (by omega), updL_ne (by omega)]
      exact (r.2.2 j hj).1 k h1 h2
  · rw [e0] at hj
    by_cases g : j = i ∧ k = L (5 + 2 * i) 3
    · obtain ⟨rfl, rfl⟩ := g
      unfold adL
      rw [up_ne (by omega), show b + (6 + 2 * j) = b + (5 + 2 * j) + 1 by omega, up_same, updL_ne (by omega), updL_same]
    · have hk2 : k < L (5 + 2 * j) 3 := by
        unfold adL at hk
        by_cases ej : j = i
        · subst ej; rw [updL_same] at hk; omega
        · rw [updL_ne (by omega), updL_ne (by omega)] at hk; exact hk
      unfold adL
      rw [up_ne (by omega), up_ne (by omega), updL_ne (by omega), updL_ne (by omega)]
      exact (r.2.2 j hj).2 k hk2
theorem MLadd (X : ML_ S h m L) {i c : Nat} (hi : i < L 0 4) (hl : L (5 + 2 * i) 3 < 6) (hc : c ≤ 25) : ML_ S (up (up h (m + 13) (6 * i + L (5 + 2 * i) 3) (nI c)) (m + 12) i (nI (L (5 + 2 * i) 3 + 1))) m (adL L i c) := by
  obtain ⟨l, r, w⟩ := X
  have e0 := adL_0 L i c
  refine ⟨l, ⟨?_, fun f hf => ?_, fun j hj => ⟨fun k q kc => ?_, fun k hk => ?_⟩⟩, adL_wf w hi hl hc⟩
  · rw [e0, e0, e0, up_ne (by omega), up_ne (by omega), up_ne (by omega), up_ne (by omega), up_ne (by omega), up_ne (by omega)]; exact r.1
  · unfold adL
    rw [updL_ne (by omega), updL_ne (by omega), updL_ne (by omega), updL_ne (by omega), updL_ne (by omega), updL_ne (by omega), up_ne (by omega), up_ne (by omega), up_ne (by omega), up_ne (by omega), up_ne (by omega), up_ne (by omega)]
    exact r.2.1 f hf
  · rw [e0] at hj
    have kc2 := kc
    unfold KC at kc2
    by_cases g : j = i ∧ k = 3
    · obtain ⟨rfl, rfl⟩ := g
      unfold adL
      rw [show q = 12 by omega, up_same, updL_same]
    · unfold adL
      rw [up_ne (by omega), up_ne (by omega), updL_ne (by omega), updL_ne (by omega)]
      exact (r.2.2 j hj).1 k q kc
  · rw [e0] at hj
    have b3 := (w.2.2.2 j hj).2.2.1
    by_cases g : j = i ∧ k = L (5 + 2 * i) 3
    · obtain ⟨rfl, rfl⟩ := g
      unfold adL
      rw [up_ne (by omega), up_same, updL_ne (by omega), updL_same]
    · have hk2 : k < L (5 + 2 * j) 3 := by
        unfold adL at hk
        by_cases ej : j = i
        · subst ej; rw [updL_same] at hk; omega
        · rw [updL_ne (by omega), updL_ne (by omega)] at hk; exact hk
      unfold adL
      rw [up_ne (by omega), up_ne (by omega), updL_ne (by omega), updL_ne (by omega)]
      exact (r.2.2 j hj).2 k hk2
theorem y_puts (X : ML_ S h m L) {i c : Nat} (hi : i < L 0 4) (hl : L (5 + 2 * i) 3 < 6) (hc : c ≤ 25) {Q : Hp → Prop} (hQ : ∀ h', ML_ S h' m (adL L i c) → FrM m h h' → Q h') : w_X7_puts S m (nI i) (nI c) h Q := by
  have l := X.1
  have w := X.2.2.1
  unfold w_X7_puts
  rw [lr11 l, lr12 l, q_ix (by omega), MLe X hi (show KC 3 12 by unfold KC; omega), pk_mul, nI_add, q_ix (by omega), up_ne (by omega), MLe X hi (show KC 3 12 by unfold KC; omega), nI_add]
  exact ⟨l.1, q_ain (la11 l) (by omega) (by decide), q_ain (la12 l) (by omega) (by decide), hQ _ (MLadd X hi hl hc) (FrM_up (FrM_up FrM_rf (by decide)) (by decide))⟩
/-- what is chosen otherwise: 0 kind, 1 figure, 2 word, 3 a letter more -/
def chF (tr i c : Nat) (L : Ld) : Ld := if tr = 0 then updL L (5 + 2 * i) 0 c else if tr = 1 then updL L (5 + 2 * i) 1 c else if tr = 2 then updL L (5 + 2 * i) 6 c else adL L i c
def chN (tr : Nat) : Nat := if tr = 0 then 8 else if tr = 1 then 10 else if tr = 2 then 5 else 26
theorem chF_0 (tr i c : Nat) (L : Ld) : ∀ q, chF tr i c L 0 q = L 0 q := fun q => by
  unfold chF
  split
  · exact updL_ne (by omega)
  · split
    · exact updL_ne (by omega)
    · split
      · exact updL_ne (by omega)
      · exact adL_0 L i c q
theorem x_choose (l : LayX S x) (Y : XL S h (x + 158) L) {tr i c : Nat} (ht : tr ≤ 3) (hi : i < L 0 4) (hl : tr = 3 → L (5 + 2 * i) 3 < 6) (hc : c < chN tr) {Q : Hp → Prop} (hQ : ∀ h', XL S h' (x + 158) (chF tr i c L) → Fr (x + 158) h h' → Q h') : w_X2_choose S (x + 157) (nI i) (nI tr) (nI c) h Q := by
  have lt := Y.1
  have w := Y.2.2.1
  have Hi := XLhd Y hi
  have HBx := Hi.2.2.2.2.2
  unfold w_X2_choose
  rw [l.2.2.2.2.1.2, lt.2.1.2.2.2, q_ix (by omega), (lt.2.2.2 i (by omega)).1]
  have r1 := q_rin lt.2.2.1.2.2.2 (show i < 5 by omega) (by decide)
  simp only [q_eq (show tr < 2 ^ 31 by omega) (show 0 < 2 ^ 31 by decide), q_eq (show tr < 2 ^ 31 by omega) (show 1 < 2 ^ 31 by decide), q_eq (show tr < 2 ^ 31 by omega) (show 2 < 2 ^ 31 by decide)]
  have o2 := l.2.2.2.2.1.1
  unfold chF at hQ
  unfold chN at hc
  by_cases c0 : tr = 0
  · rw [if_pos c0]; rw [if_pos c0] at hQ hc
    exact ⟨o2, lt.1, r1, Hi.1, hQ _ (XLsetH Y hi (by decide) (by decide) (by decide) (HB_up HBx (by omega))) (Fr_up Fr_rf (by omega))⟩
  · rw [if_neg c0]; rw [if_neg c0] at hQ hc
    by_cases c1 : tr = 1
    · rw [if_pos c1]; rw [if_pos c1] at hQ hc
      exact ⟨o2, lt.1, r1, Hi.1, hQ _ (XLsetH Y hi (by decide) (by decide) (by decide) (HB_up HBx (by omega))) (Fr_up Fr_rf (by omega))⟩
    · rw [if_neg c1]; rw [if_neg c1] at hQ hc
      by_cases c2 : tr = 2
      · rw [if_pos c2]; rw [if_pos c2] at hQ hc
        exact ⟨o2, lt.1, r1, Hi.1, hQ _ (XLsetH Y hi (by decide) (by decide) (by decide) (HB_up HBx (by omega))) (Fr_up Fr_rf (by omega))⟩
      · rw [if_neg c2]; rw [if_neg c2] at hQ hc
        refine ⟨o2, lt.1, r1, Hi.1, x_lengthen Hi (hl (by omega)) (hQ _ (XLadd Y hi (hl (by omega)) (by omega)) ?_)⟩
        intro a k q
        rw [up_ne (by omega), up_ne (by omega)]
/-- the best of some choices from k on, what is best so far -/
def bcF (g : Nat → Nat) : Nat → Nat → Int32 → Int32 → Int32 × Int32
  | 0, _, b, m => (b, m)
  | f + 1, k, b, m => if nI (g k) ≤ m then bcF g f (k + 1) b m else bcF g f (k + 1) (nI k) (nI (g k))
def bestF (L : Ld) (tr i n : Nat) : Int32 × Int32 := bcF (fun c => nightsF n (chF tr i c L) (5 + 2 * i) 7) (chN tr) 0 (-9) (-9)
theorem x_best (X : XI S h x A) {i n tr : Nat} {fl : Int32} (hi : i < aL A 0 4) (hn : n ≤ 60) (ht : tr ≤ 3) (hl : tr = 3 → aL A (5 + 2 * i) 3 < 6) {Q : Int32 → Hp → Prop} (hQ : ∀ h', XI S h' x A → FrX x h h' → Q (if fl = 0 then (bestF (aL A) tr i n).1 else (bestF (aL A) tr i n).2) h') : w_X2_bestChoice S (x + 157) (x + 1) (nI i) (nI n) (nI tr) fl h Q := by
  have l := X.1
  have h5 := X.2.2.2.2.2.2.2.1.1.1
  have h9 := X.2.2.2.2.2.2.2.1.2
  unfold w_X2_bestChoice w_X2_choicesOf
  have G : w_X2_bestChoice_c18 S (x + 157) (x + 1) (nI i) (nI n) (nI tr) fl (nI (chN tr)) (-9) (-9) (nI 0) h Q := by
    unfold w_X2_bestChoice_c18
    intro P hP
    have hN : chN tr ≤ 26 := by unfold chN; (repeat' split) <;> omega
    have K : ∀ (f k : Nat) (bb mm : Int32) (h1 : Hp), k + f = chN tr → XI S h1 x A → FrX x h h1 → bestF (aL A) tr i n = bcF (fun c => nightsF n (chF tr i c (aL A)) (5 + 2 * i) 7) f k bb mm → P bb mm (nI k) h1 := by
      intro f
      induction f with
      | zero =>
        intro k bb mm h1 hk X1 F1 er
        refine hP _ _ _ _ ?_
        simp only [q_le (show chN tr < 2 ^ 31 by omega) (show k < 2 ^ 31 by omega)]
        rw [if_pos (by omega)]
        have hq := hQ h1 X1 F1
        rw [er] at hq
        simp only [bcF] at hq
        by_cases c : fl = 0
        · rw [if_pos c]; rw [if_pos c] at hq; exact hq
        · rw [if_neg c]; rw [if_neg c] at hq; exact hq
      | succ f ih =>
        intro k bb mm h1 hk X1 F1 er
        refine hP _ _ _ _ ?_
        simp only [q_le (show chN tr < 2 ^ 31 by omega) (show k < 2 ^ 31 by omega), nI_add]
        rw [if_neg (by omega)]
        refine ⟨l.2.2.2.2.1.1, x_think X1 (fun h2 X2 Y2 F2 => x_choose l Y2 ht hi hl (by omega) (fun h3 Y3 F3 => ?_))⟩
        have lt := l.2.1.2.2.1
        rw [l.2.2.2.2.1.2]
        refine ⟨lt.1, x_pass Y3 (by rw [chF_0]; omega) (fun h4 Y4 F4 => ?_)⟩
        have e4 : nightsF n (chF tr i k (aL A)) 0 4 = aL A 0 4 := by rw [(nightsF_0 n _).1, chF_0]
        have H4 := XLhd Y4 (show i < nightsF n (chF tr i k (aL A)) 0 4 by omega)
        rw [lt.2.1.2.2.2, q_ix (by omega), (lt.2.2.2 i (by omega)).1, XHe H4 (by decide) (by decide)]
        refine ⟨q_rin lt.2.2.1.2.2.2 (by omega) (by decide), H4.1, ?_⟩
        have X4 := XI_thought (XI_thought X2 F3) F4
        have FF := FrX_tr F1 (FrX_tr (FrX_of F2 (by omega)) (FrX_tr (FrX_of F3 (by omega)) (FrX_of F4 (by omega))))
        by_cases c : nI (nightsF n (chF tr i k (aL A)) (5 + 2 * i) 7) ≤ mm
        · rw [if_pos c]
          refine ih (k + 1) _ _ h4 (by omega) X4 FF ?_
          rw [er]; simp only [bcF, if_pos c]
        · rw [if_neg c]
          refine ih (k + 1) _ _ h4 (by omega) X4 FF ?_
          rw [er]; simp only [bcF, if_neg c]
    exact K (chN tr) 0 _ _ h (by omega) X FrX_rf rfl
  unfold chN at G
  simp only [q_eq (show tr < 2 ^ 31 by omega) (show 0 < 2 ^ 31 by decide), q_eq (show tr < 2 ^ 31 by omega) (show 1 < 2 ^ 31 by decide), q_eq (show tr < 2 ^ 31 by omega) (show 2 < 2 ^ 31 by decide)]
  by_cases c0 : tr = 0
  · rw [if_pos c0]; rw [if_pos c0] at G; exact G
  · rw [if_neg c0]; rw [if_neg c0] at G
    by_cases c1 : tr = 1
    · rw [if_pos c1]; rw [if_pos c1] at G; exact G
    · rw [if_neg c1]; rw [if_neg c1] at G
      by_cases c2 : tr = 2
      · rw [if_pos c2]; rw [if_pos c2] at G; exact G
      · rw [if_neg c2]; rw [if_neg c2] at G; exact G
def bestWordA (A : Ab) (v n w : Int32) : Int32 × Ab := if ckA (inR v (aL A 0 4)) n 0 60 w 2 = 0 then (if w = 0 then (bestF (aL A) 2 (ix v) (ix n)).1 else (bestF (aL A) 2 (ix v) (ix n)).2, A) else rfA A (ckA (inR v (aL A 0 4)) n 0 60 w 2)
theorem x_bestWord (X : XI S h x A) {v n w : Int32} {Q : Int32 → Hp → Prop} (hQ : ∀ h', XI S h' x (bestWordA A v n w).2 → FrX x h h' → Q (bestWordA A v n w).1 h') : w_X6_bestWord S x v n w h Q := by
  have l := X.1
  have h5 := X.2.2.2.2.2.2.2.1.1.1
  unfold w_X6_bestWord
  unfold bestWordA at hQ
  have o2 := l.2.2.2.2.1.1
  have T : ∀ nb : Int32, (nb = 0 ↔ inR v (aL A 0 4)) → w_X6_faultOfAsked S nb n (nI 0) (nI 60) w (nI 1) h (fun r5 h4 => (if r5 = 0 then (if w = (nI 1) then (ob S (S.2 x 5) 2 ∧ (w_X2_bestChoice S (S.2 x 5) (S.2 x 0) v n (nI 2) (nI 1) h4 (fun r10 h9 => (Q r10 h9)))) else (ob S (S.2 x 5) 2 ∧ (w_X2_bestChoice S (S.2 x 5) (S.2 x 0) v n (nI 2) (nI 0) h4 (fun r13 h12 => (Q r13 h12))))) else (w_X6_refuse S x r5 h4 (fun r15 h14 => (Q r15 h14))))) := by
    intro nb hnb
    refine x_faultA (by decide) ?_
    rw [ckA_iff hnb]
    by_cases g : ckA (inR v (aL A 0 4)) n 0 60 w 2 = 0
    · rw [if_pos g] at hQ
      rw [show ckA (inR v (aL A 0 4)) n 0 60 w (1 + 1) = 0 from g, if_pos rfl]
      obtain ⟨g1, g2, g3⟩ := ckA_0 g
      obtain ⟨i, hi, rfl⟩ := inR_ex g1 (by omega)
      obtain ⟨j, -, hj, rfl⟩ := fN_0 (by decide) (by decide) g2
      obtain ⟨k, hk, rfl⟩ := inR_ex g3 (by decide)
      rw [q_ix (by omega), q_ix (by omega)] at hQ
      rw [l.1.2.2.2.2.2.1, l.1.2.1]
      simp only [q_eq (show k < 2 ^ 31 by omega) (show 1 < 2 ^ 31 by decide)]
      simp only [q_eq0 (show k < 2 ^ 31 by omega)] at hQ
      by_cases c1 : k = 1
      · rw [if_pos c1]
        refine ⟨o2, x_best X hi hj (by decide) (fun q => absurd q (by decide)) (fun h' Y F => ?_)⟩
        rw [if_neg (by decide)]
        have := hQ h' Y F; rw [if_neg (by omega)] at this; exact this
      · rw [if_neg c1]
        refine ⟨o2, x_best X hi hj (by decide) (fun q => absurd q (by decide)) (fun h' Y F => ?_)⟩
        rw [if_pos (by decide)]
        have := hQ h' Y F; rw [if_pos (by omega)] at this; exact this
    · rw [if_neg g] at hQ
      rw [show ckA (inR v (aL A 0 4)) n 0 60 w (1 + 1) = ckA (inR v (aL A 0 4)) n 0 60 w 2 from rfl, if_neg g]
      exact x_refuse X (rf_of (ckA_c _ _ _ _ _ _) g) hQ
  refine ⟨l.1.1, x_noHead X (fun c => ?_) (fun c => ?_)⟩
  · exact T _ ⟨fun _ => c, fun _ => nI_0⟩
  · exact T _ ⟨fun q => absurd q (by decide), fun q => absurd q c⟩
theorem y_bestWord (X : MI_ S h m A) {v n w : Int32} {Q : Int32 → Hp → Prop} (hQ : ∀ h', MI_ S h' m (bestWordA A v n w).2 → FrY m h h' → Q (bestWordA A v n w).1 h') : w_X7_bestWord S m v n w h Q := by
  have l := X.1.1
  have h9 := X.2.2.2.2.2.2.1.2
  have h5 := X.1.2.2.1
  unfold bestWordA at hQ
  have T : ∀ r, ((r = 0 ∧ ckN (inR v (aL A 0 4)) n 0 60 = 0) ∨ (r ≠ 0 ∧ r = ckN (inR v (aL A 0 4)) n 0 60)) → w_X7_bestWord_c19 S m v n w r h Q := by
    intro r hr
    unfold w_X7_bestWord_c19
    rcases hr with ⟨rfl, hr⟩ | ⟨hr0, hr⟩
    · rw [if_pos rfl]
      refine y_isIn (fun c2 => ?_) (fun c2 => ?_)
      · rw [if_neg (by decide)]
        have g : ckA (inR v (aL A 0 4)) n 0 60 w 2 = 0 := by unfold ckA; rw [if_pos hr, if_pos ((inR_le (by decide)).mp c2)]
        rw [if_pos g] at hQ
        obtain ⟨g1, g2, g3⟩ := ckA_0 g
        obtain ⟨i, hi, rfl⟩ := inR_ex g1 (by omega)
        obtain ⟨j, -, hj, rfl⟩ := fN_0 (by decide) (by decide) g2
        rw [q_ix (by omega), q_ix (by omega)] at hQ
        unfold w_X7_bestWord_c62
        intro P hP
        have K : ∀ (f k : Nat) (bb mm : Int32) (h1 : Hp), k + f = 5 → MI_ S h1 m A → FrY m h h1 → bestF (aL A) 2 i j = bcF (fun c => nightsF j (chF 2 i c (aL A)) (5 + 2 * i) 7) f k bb mm → P bb mm (nI k) h1 := by
          intro f
          induction f with
          | zero =>
            intro k bb mm h1 hk X1 F1 er
            refine hP _ _ _ _ ?_
            simp only [q_lt (show 4 < 2 ^ 31 by omega) (show k < 2 ^ 31 by omega)]
            rw [if_pos (by omega)]
            have hq := hQ h1 X1 F1
            rw [er] at hq
            simp only [bcF] at hq
            by_cases c : w = 0
            · rw [if_pos c]; rw [if_pos c] at hq; exact hq
            · rw [if_neg c]; rw [if_neg c] at hq; exact hq
          | succ f ih =>
            intro k bb mm h1 hk X1 F1 er
            refine hP _ _ _ _ ?_
            simp only [q_lt (show 4 < 2 ^ 31 by omega) (show k < 2 ^ 31 by omega), nI_add]
            rw [if_neg (by omega)]
            refine ⟨l.1, y_minds X1.1 (fun h2 T2 D2 => ?_)⟩
            rw [lr8 l, lr9 l, q_ix (by omega)]
            have Y3 := MLsetH T2.1 hi (show KC 6 9 by unfold KC; omega) (v := k) (by decide) (HB_up (MLb T2.1 hi) (by omega))
            have T3 := TH_M T2 Y3 (FrM_up FrM_rf (by decide))
            refine ⟨q_ain (la8 l) (by omega) (by decide), y_goes Y3 (by rw [updL_ne (by omega)]; omega) (fun h4 Y4 F4 => ?_)⟩
            have T4 := TH_M T3 Y4 F4
            have DD := FrD_tr D2 (FrD_tr (FrD_of (FrM_up FrM_rf (by decide))) (FrD_of F4))
            have ec : chF 2 i k (aL A) = updL (aL A) (5 + 2 * i) 6 k := rfl
            have hi4 : i < nightsF j (updL (aL A) (5 + 2 * i) 6 k) 0 4 := by rw [(nightsF_0 j _).1, updL_ne (by omega)]; exact hi
            rw [MLe Y4 hi4 (show KC 7 10 by unfold KC; omega)]
            refine ⟨q_ain (la9 l) (by omega) (by decide), y_forgets T4 (fun h5 Y5 D5 => ?_)⟩
            have X5 := MI_mind X1 Y5 (FrD_tr DD D5)
            have FF := FrY_tr F1 (FrY_D (FrD_tr DD D5))
            by_cases c : nI (nightsF j (chF 2 i k (aL A)) (5 + 2 * i) 7) ≤ mm
            · rw [if_neg (Int32.not_lt.mpr (by rw [← ec]; exact c))]
              refine ih (k + 1) _ _ h5 (by omega) X5 FF ?_
              rw [er]; simp only [bcF, if_pos c]
            · rw [if_pos (by rw [← ec]; exact Int32.not_le.mp c)]
              refine ih (k + 1) _ _ h5 (by omega) X5 FF ?_
              rw [er]; simp only [bcF]; rw [if_neg c, ec]
        exact K 5 0 _ _ h (by omega) X FrY_rf rfl
      · rw [if_pos (by decide)]
        have g : ckA (inR v (aL A 0 4)) n 0 60 w 2 = -2 := by unfold ckA; rw [if_pos hr, if_neg (fun q => c2 ((inR_le (by decide)).mpr q))]
        rw [g, if_neg (by decide)] at hQ
        exact ⟨l.1, y_no X (Or.inr (Or.inl rfl)) hQ⟩
    · rw [if_neg hr0]
      have g : ckA (inR v (aL A 0 4)) n 0 60 w 2 = r := by unfold ckA; rw [if_neg (by rw [← hr]; exact hr0), ← hr]
      rw [g, if_neg hr0] at hQ
      have := ckN_c (inR v (aL A 0 4)) n 0 60
      rw [← hr] at this
      exact ⟨l.1, y_no X (rf_of this hr0) hQ⟩
  unfold w_X7_bestWord
  refine ⟨l.1, y_isHead X.1 (fun c => ?_) (fun c => ?_)⟩
  · rw [if_neg (by decide)]
    refine y_bound ?_
    have e : ckN (inR v (aL A 0 4)) n 0 60 = fN n 0 60 := by unfold ckN; rw [if_pos c]
    by_cases g : fN n 0 60 = 0
    · exact T _ (Or.inl ⟨g, by rw [e]; exact g⟩)
    · exact T _ (Or.inr ⟨g, e.symm⟩)
  · rw [if_pos (by decide)]
    exact T _ (Or.inr ⟨by decide, by unfold ckN; rw [if_neg c]⟩)
theorem op_bestWord (H : SI S h x A) {v n w : Int32} {Q : Int32 → Int32 → Hp → Prop} (hQ : ∀ r A' h', SI S h' x A' → Q r r h') : w_X6_bestWord S x v n w h (fun r h1 => w_X7_bestWord S (x + 180) v n w h1 (fun r' h2 => Q r r' h2)) :=
  x_bestWord H.1 (fun h1 X1 F1 => y_bestWord (SI_m H F1) (fun h2 Y2 F2 => hQ _ _ h2 (SI_mk X1 Y2 F2)))
end CHOICE
