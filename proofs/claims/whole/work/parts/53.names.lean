/-! PURE: names -/
def swL (L : Ld) (i j : Nat) : Ld := fun o k => if o = 5 + 2 * i ∧ k = 3 then L (5 + 2 * j) 3 else if o = 5 + 2 * j ∧ k = 3 then L (5 + 2 * i) 3 else if o = 6 + 2 * i then L (6 + 2 * j) k else if o = 6 + 2 * j then L (6 + 2 * i) k else L o k
theorem swL_o {L : Ld} {i j o k : Nat} (h1 : ¬ (o = 5 + 2 * i ∧ k = 3)) (h2 : ¬ (o = 5 + 2 * j ∧ k = 3)) (h3 : o ≠ 6 + 2 * i) (h4 : o ≠ 6 + 2 * j) : swL L i j o k = L o k := by
  unfold swL; rw [if_neg h1, if_neg h2, if_neg h3, if_neg h4]
theorem swL_i3 (L : Ld) (i j : Nat) : swL L i j (5 + 2 * i) 3 = L (5 + 2 * j) 3 := by unfold swL; rw [if_pos ⟨rfl, rfl⟩]
theorem swL_j3 {L : Ld} {i j : Nat} (hn : i ≠ j) : swL L i j (5 + 2 * j) 3 = L (5 + 2 * i) 3 := by unfold swL; rw [if_neg (by omega), if_pos ⟨rfl, rfl⟩]
theorem swL_in (L : Ld) (i j k : Nat) : swL L i j (6 + 2 * i) k = L (6 + 2 * j) k := by unfold swL; rw [if_neg (by omega), if_neg (by omega), if_pos rfl]
theorem swL_jn {L : Ld} {i j k : Nat} (hn : i ≠ j) : swL L i j (6 + 2 * j) k = L (6 + 2 * i) k := by unfold swL; rw [if_neg (by omega), if_neg (by omega), if_neg (by omega), if_pos rfl]
theorem swL_HB {L : Ld} {i j a b : Nat} (hA : HB (L (5 + 2 * a)) (L (6 + 2 * a))) (hB : HB (L (5 + 2 * b)) (L (6 + 2 * b))) (e3 : swL L i j (5 + 2 * a) 3 = L (5 + 2 * b) 3) (e : ∀ k, k ≠ 3 → swL L i j (5 + 2 * a) k = L (5 + 2 * a) k) (en : ∀ k, swL L i j (6 + 2 * a) k = L (6 + 2 * b) k) : HB (swL L i j (5 + 2 * a)) (swL L i j (6 + 2 * a)) := by
  unfold HB
  rw [e3, e 0 (by decide), e 1 (by decide), e 4 (by decide), e 5 (by decide), e 6 (by decide), e 7 (by decide), e 8 (by decide)]
  refine ⟨hA.1, hA.2.1, hB.2.2.1, hA.2.2.2.1, hA.2.2.2.2.1, hA.2.2.2.2.2.1, hA.2.2.2.2.2.2.1, hA.2.2.2.2.2.2.2.1, fun k hk => ?_, hB.2.2.2.2.2.2.2.2.2⟩
  rw [en]; exact hB.2.2.2.2.2.2.2.2.1 k hk
theorem swL_W {L : Ld} (w : WfL L) {i j : Nat} (hi : i < L 0 4) (hj : j < L 0 4) (hn : i ≠ j) : WfL (swL L i j) := by
  refine ⟨by rw [swL_o (by omega) (by omega) (by omega) (by omega)]; exact w.1, by rw [swL_o (by omega) (by omega) (by omega) (by omega)]; exact w.2.1, fun f hf => ?_, fun q hq => ?_⟩
  · rw [swL_o (by omega) (by omega) (by omega) (by omega), swL_o (by omega) (by omega) (by omega) (by omega), swL_o (by omega) (by omega) (by omega) (by omega)]
    exact w.2.2.1 f hf
  · rw [swL_o (by omega) (by omega) (by omega) (by omega)] at hq
    by_cases e1 : q = i
    · subst e1
      exact swL_HB (w.2.2.2 q hi) (w.2.2.2 j hj) (swL_i3 L q j) (fun k hk => swL_o (by omega) (by omega) (by omega) (by omega)) (swL_in L q j)
    · by_cases e2 : q = j
      · subst e2
        exact swL_HB (w.2.2.2 q hj) (w.2.2.2 i hi) (swL_j3 hn) (fun k hk => swL_o (by omega) (by omega) (by omega) (by omega)) (fun k => swL_jn hn)
      · have e5 : swL L i j (5 + 2 * q) = L (5 + 2 * q) := by funext k; exact swL_o (by omega) (by omega) (by omega) (by omega)
        have e6 : swL L i j (6 + 2 * q) = L (6 + 2 * q) := by funext k; exact swL_o (by omega) (by omega) (by omega) (by omega)
        rw [e5, e6]; exact w.2.2.2 q hq
theorem allF_le {L : Ld} (w : WfL L) : allF L ≤ 495 := by
  have h5 := w.1
  have := sumF_le (f := fun i => L (5 + 2 * i) 7) (c := 99) (L 0 4) (fun i hi => (w.2.2.2 i hi).2.2.2.2.2.2.1)
  have e : allF L = sumF (fun i => L (5 + 2 * i) 7) (L 0 4) := rfl
  rw [e]; omega
def nmS (L : Ld) (n i j : Nat) (s : Int32 × Nat) : Int32 × Nat := if s.2 < allF (nightsF n (swL L i j)) then (nI (10 * i + j), allF (nightsF n (swL L i j))) else s
def nmI (L : Ld) (n i : Nat) : Nat → Nat → Int32 × Nat → Int32 × Nat
  | 0, _, s => s
  | f + 1, j, s => nmI L n i f (j + 1) (nmS L n i j s)
def nmO (L : Ld) (n : Nat) : Nat → Nat → Int32 × Nat → Int32 × Nat
  | 0, _, s => s
  | f + 1, i, s => nmO L n f (i + 1) (nmI L n i (L 0 4 - (i + 1)) (i + 1) s)
def nmF (L : Ld) (n : Nat) : Int32 := (nmO L n (L 0 4) 0 (-9, allF (nightsF n L))).1
section NAMES
variable {S : St} {h h' : Hp} {x m b : Nat} {A : Ab} {L : Ld}
theorem XLswap (X : XL S h b L) {i j : Nat} (hi : i < L 0 4) (hj : j < L 0 4) (hn : i ≠ j) (a3 : h' (b + (5 + 2 * i)) 3 = nI (L (5 + 2 * j) 3)) (an : ∀ k, k < L (5 + 2 * j) 3 → h' (b + (6 + 2 * i)) k = nI (L (6 + 2 * j) k)) (b3 : h' (b + (5 + 2 * j)) 3 = nI (L (5 + 2 * i) 3)) (bn : ∀ k, k < L (5 + 2 * i) 3 → h' (b + (6 + 2 * j)) k = nI (L (6 + 2 * i) k)) (e : ∀ a k, ¬ (a = b + (5 + 2 * i) ∧ k = 3) → ¬ (a = b + (5 + 2 * j) ∧ k = 3) → a ≠ b + (6 + 2 * i) → a ≠ b + (6 + 2 * j) → h' a k = h a k) : XL S h' b (swL L i j) := by
  obtain ⟨l, r, w⟩ := X
  have h5 := w.1
  refine ⟨l, ⟨⟨?_, ?_, ?_⟩, fun q hq => ?_, fun q hq => ?_⟩, swL_W w hi hj hn⟩
  · rw [swL_o (by omega) (by omega) (by omega) (by omega), e _ _ (by omega) (by omega) (by omega) (by omega)]; exact r.1.1
  · rw [swL_o (by omega) (by omega) (by omega) (by omega), e _ _ (by omega) (by omega) (by omega) (by omega)]; exact r.1.2.1
  · rw [swL_o (by omega) (by omega) (by omega) (by omega), e _ _ (by omega) (by omega) (by omega) (by omega)]; exact r.1.2.2
  · rw [swL_o (by omega) (by omega) (by omega) (by omega), swL_o (by omega) (by omega) (by omega) (by omega), swL_o (by omega) (by omega) (by omega) (by omega), e _ _ (by omega) (by omega) (by omega) (by omega), e _ _ (by omega) (by omega) (by omega) (by omega), e _ _ (by omega) (by omega) (by omega) (by omega)]; exact r.2.1 q hq
  · rw [swL_o (by omega) (by omega) (by omega) (by omega)] at hq
    by_cases e1 : q = i
    · subst e1
      refine ⟨fun k h1 h2 => ?_, fun k hk => ?_⟩
      · by_cases e3 : k = 3
        · subst e3; rw [swL_i3]; exact a3
        · rw [swL_o (by omega) (by omega) (by omega) (by omega), e _ _ (by omega) (by omega) (by omega) (by omega)]; exact (r.2.2 q hi).1 k h1 h2
      · rw [swL_i3] at hk
        rw [swL_in]; exact an k hk
    · by_cases e2 : q = j
      · subst e2
        refine ⟨fun k h1 h2 => ?_, fun k hk => ?_⟩
        · by_cases e3 : k = 3
          · subst e3; rw [swL_j3 hn]; exact b3
          · rw [swL_o (by omega) (by omega) (by omega) (by omega), e _ _ (by omega) (by omega) (by omega) (by omega)]; exact (r.2.2 q hj).1 k h1 h2
        · rw [swL_j3 hn] at hk
          rw [swL_jn hn]; exact bn k hk
      · have e5 : swL L i j (5 + 2 * q) = L (5 + 2 * q) := by funext k; exact swL_o (by omega) (by omega) (by omega) (by omega)
        have e6 : swL L i j (6 + 2 * q) = L (6 + 2 * q) := by funext k; exact swL_o (by omega) (by omega) (by omega) (by omega)
        rw [e5, e6]
        refine ⟨fun k h1 h2 => ?_, fun k hk => ?_⟩
        · rw [e _ _ (by omega) (by omega) (by omega) (by omega)]; exact (r.2.2 q hq).1 k h1 h2
        · rw [e _ _ (by omega) (by omega) (by omega) (by omega)]; exact (r.2.2 q hq).2 k hk
theorem y_changes (X : ML_ S h m L) {i j : Nat} (hi : i < L 0 4) (hj : j < L 0 4) (hn : i ≠ j) {Q : Hp → Prop} (hQ : ∀ h', ML_ S h' m (swL L i j) → FrM m h h' → Q h') : w_X7_changesNames S m (nI i) (nI j) h Q := by
  have X0 := X
  obtain ⟨l, r, w⟩ := X
  have h5 := w.1
  unfold w_X7_changesNames w_X7_changesNames_c2
  intro P hP
  have K : ∀ (f k : Nat) (h1 : Hp), f + k = 6 → (∀ q, q < k → h1 (m + 13) (6 * i + q) = h (m + 13) (6 * j + q) ∧ h1 (m + 13) (6 * j + q) = h (m + 13) (6 * i + q)) → (∀ a q, ¬ (a = m + 13 ∧ ((6 * i ≤ q ∧ q < 6 * i + k) ∨ (6 * j ≤ q ∧ q < 6 * j + k))) → h1 a q = h a q) → P (nI k) h1 := by
    intro f
    induction f with
    | zero =>
      intro k h1 hk g1 g2
      have ek : k = 6 := by omega
      subst ek
      refine hP _ _ ?_
      rw [if_pos (by decide), lr11 l, q_ix (by omega), q_ix (by omega), g2 (m + 12) j (by omega), g2 (m + 12) i (by omega), MLe X0 hi (show KC 3 12 by unfold KC; omega), MLe X0 hj (show KC 3 12 by unfold KC; omega)]
      have bi := (MLb X0 hi).2.2.1
      have bj := (MLb X0 hj).2.2.1
      have E : ∀ a q, ¬ (a = m + 13 ∧ ((6 * i ≤ q ∧ q < 6 * i + 6) ∨ (6 * j ≤ q ∧ q < 6 * j + 6))) → ¬ (a = m + 12 ∧ (q = i ∨ q = j)) → (up (up h1 (m + 12) i (nI (L (5 + 2 * j) 3))) (m + 12) j (nI (L (5 + 2 * i) 3))) a q = h a q := by
        intro a q q1 q2
        rw [up_ne (by omega), up_ne (by omega)]; exact g2 a q q1
      have N : ∀ q, (up (up h1 (m + 12) i (nI (L (5 + 2 * j) 3))) (m + 12) j (nI (L (5 + 2 * i) 3))) (m + 13) q = h1 (m + 13) q := fun q => by rw [up_ne (by omega), up_ne (by omega)]
      refine ⟨l.1, q_ain (la11 l) (by omega) (by decide), q_ain (la11 l) (by omega) (by decide), hQ _ ⟨l, ⟨⟨?_, ?_, ?_⟩, fun q hq => ?_, fun q hq => ?_⟩, swL_W w hi hj hn⟩ (fun a q q1 => ?_)⟩
      · rw [swL_o (by omega) (by omega) (by omega) (by omega), E _ _ (by omega) (by omega)]; exact r.1.1
      · rw [swL_o (by omega) (by omega) (by omega) (by omega), E _ _ (by omega) (by omega)]; exact r.1.2.1
      · rw [swL_o (by omega) (by omega) (by omega) (by omega), E _ _ (by omega) (by omega)]; exact r.1.2.2
      · rw [swL_o (by omega) (by omega) (by omega) (by omega), swL_o (by omega) (by omega) (by omega) (by omega), swL_o (by omega) (by omega) (by omega) (by omega), E _ _ (by omega) (by omega), E _ _ (by omega) (by omega), E _ _ (by omega) (by omega)]; exact r.2.1 q hq
      · rw [swL_o (by omega) (by omega) (by omega) (by omega)] at hq
        by_cases e1 : q = i
        · subst e1
          refine ⟨fun k c kc => ?_, fun k hk => ?_⟩
          · have kc2 := kc
            unfold KC at kc2
            by_cases e3 : k = 3
            · have ec : c = 12 := by omega
              subst e3; subst ec
              rw [swL_i3, up_ne (by omega), up_same]
            · rw [swL_o (by omega) (by omega) (by omega) (by omega), E _ _ (by omega) (by omega)]; exact (r.2.2 q hi).1 k c kc
          · rw [swL_i3] at hk
            rw [swL_in, N, (g1 k (by omega)).1]; exact MLn X0 hj hk
        · by_cases e2 : q = j
          · subst e2
            refine ⟨fun k c kc => ?_, fun k hk => ?_⟩
            · have kc2 := kc
              unfold KC at kc2
              by_cases e3 : k = 3
              · have ec : c = 12 := by omega
                subst e3; subst ec
                rw [swL_j3 hn, up_same]
              · rw [swL_o (by omega) (by omega) (by omega) (by omega), E _ _ (by omega) (by omega)]; exact (r.2.2 q hj).1 k c kc
            · rw [swL_j3 hn] at hk
              rw [swL_jn hn, N, (g1 k (by omega)).2]; exact MLn X0 hi hk
          · have e5 : swL L i j (5 + 2 * q) = L (5 + 2 * q) := by funext k; exact swL_o (by omega) (by omega) (by omega) (by omega)
            have e6 : swL L i j (6 + 2 * q) = L (6 + 2 * q) := by funext k; exact swL_o (by omega) (by omega) (by omega) (by omega)
            have b3 := (MLb X0 hq).2.2.1
            rw [e5, e6]
            refine ⟨fun k c kc => ?_, fun k hk => ?_⟩
            · have kc2 := kc
              unfold KC at kc2
              rw [E _ _ (by omega) (by omega)]; exact (r.2.2 q hq).1 k c kc
            · rw [E _ _ (by omega) (by omega)]; exact (r.2.2 q hq).2 k hk
      · exact E _ _ (by omega) (by omega)
    | succ f ih =>
      intro k h1 hk g1 g2
      refine hP _ _ ?_
      simp only [q_le (show 6 < 2 ^ 31 by decide) (show k < 2 ^ 31 by omega)]
      rw [if_neg (by omega), lr12 l, pk_mul, pk_mul, nI_add, nI_add, nI_add, q_ix (by omega), q_ix (by omega), g2 (m + 13) (6 * j + k) (by omega), g2 (m + 13) (6 * i + k) (by omega)]
      refine ⟨l.1, q_ain (la12 l) (by omega) (by decide), q_ain (la12 l) (by omega) (by decide), ih (k + 1) _ (by omega) (fun q hq => ?_) (fun a q q1 => ?_)⟩
      · by_cases eq : q = k
        · subst eq
          exact ⟨by rw [up_ne (by omega), up_same], by rw [up_same]⟩
        · exact ⟨by rw [up_ne (by omega), up_ne (by omega)]; exact (g1 q (by omega)).1, by rw [up_ne (by omega), up_ne (by omega)]; exact (g1 q (by omega)).2⟩
      · rw [up_ne (by omega), up_ne (by omega)]; exact g2 a q (by omega)
  exact K 6 0 h (by omega) (fun q hq => absurd hq (by omega)) (fun a q _ => rfl)
theorem x_namesTo (X : XI S h x A) {n : Nat} (hn : n ≤ 30) {Q : Int32 → Hp → Prop} (hQ : ∀ h', XI S h' x A → FrX x h h' → Q (nmF (aL A) n) h') : w_X2_namesToChange S (x + 157) (x + 1) (nI n) h Q := by
  have l := X.1
  have l1 := l.2.1.1
  have lt := l.2.1.2.2.1
  have h9 := X.2.2.2.2.2.2.2.1.2
  have h5 := X.2.2.2.2.2.2.2.1.1.1
  unfold w_X2_namesToChange
  refine ⟨l.2.2.2.2.1.1, x_behind X (by omega) (fun h2 X2 Y2 F2 => ⟨lt.1, x_all Y2 ?_⟩)⟩
  unfold w_X2_namesToChange_c17
  intro P hP
  have K : ∀ (f i : Nat) (s : Int32 × Nat) (h3 : Hp), f + i = aL A 0 4 → s.2 ≤ 495 → XI S h3 x A → FrX x h h3 → nmF (aL A) n = (nmO (aL A) n f i s).1 → P s.1 (nI s.2) (nI i) h3 := by
    intro f
    induction f with
    | zero =>
      intro i s h3 hi hs X3 F3 er
      refine hP _ _ _ _ ⟨l1.1, ?_⟩
      rw [X3.2.1.2.1.1.1]
      simp only [q_le (show aL A 0 4 < 2 ^ 31 by omega) (show i < 2 ^ 31 by omega)]
      rw [if_pos (by omega)]
      have := hQ h3 X3 F3
      rw [er] at this; exact this
    | succ f ih =>
      intro i s h3 hi hs X3 F3 er
      refine hP _ _ _ _ ⟨l1.1, ?_⟩
      rw [X3.2.1.2.1.1.1]
      simp only [q_le (show aL A 0 4 < 2 ^ 31 by omega) (show i < 2 ^ 31 by omega)]
      rw [if_neg (by omega), nI_add]
      unfold w_X2_namesToChange_c32
      intro P2 hP2
      have K2 : ∀ (g j : Nat) (s : Int32 × Nat) (h4 : Hp), g + j = aL A 0 4 → i < j → s.2 ≤ 495 → XI S h4 x A → FrX x h h4 → nmF (aL A) n = (nmO (aL A) n f (i + 1) (nmI (aL A) n i g j s)).1 → P2 s.1 (nI s.2) (nI j) h4 := by
        intro g
        induction g with
        | zero =>
          intro j s h4 hj hij hs X4 F4 er
          refine hP2 _ _ _ _ ⟨l1.1, ?_⟩
          rw [X4.2.1.2.1.1.1]
          simp only [q_le (show aL A 0 4 < 2 ^ 31 by omega) (show j < 2 ^ 31 by omega)]
          rw [if_pos (by omega), nI_add]
          exact ih (i + 1) s h4 (by omega) hs X4 F4 er
        | succ g ih2 =>
          intro j s h4 hj hij hs X4 F4 er
          have hi' : i < aL A 0 4 := by omega
          have hj' : j < aL A 0 4 := by omega
          refine hP2 _ _ _ _ ⟨l1.1, ?_⟩
          rw [X4.2.1.2.1.1.1]
          simp only [q_le (show aL A 0 4 < 2 ^ 31 by omega) (show j < 2 ^ 31 by omega)]
          rw [if_neg (by omega), l.2.2.2.2.1.2, lt.2.1.2.2.2, l1.2.1.2.2.2, q_ix (by omega), q_ix (by omega), (lt.2.2.2 i (by omega)).1, (lt.2.2.2 j (by omega)).1, (l1.2.2.2 i (by omega)).1, (l1.2.2.2 j (by omega)).1, nI_add, pk_mul, nI_add]
          refine ⟨l.2.2.2.2.1.1, x_think X4 (fun h5 X5 Y5 F5 => ?_)⟩
          have Hj := XLhd X5.2.1 hj'
          refine ⟨lt.1, q_rin lt.2.2.1.2.2.2 (by omega) (by decide), q_rin l1.2.2.1.2.2.2 (by omega) (by decide), (lt.2.2.2 i (by omega)).2.1, x_copyName (lt.2.2.2 i (by omega)).2 Hj (by omega) (by omega) (by omega) (fun h6 c3 cn cj cf => ?_)⟩
          have X6 := XI_thought X5 (show Fr (x + 158) h5 h6 from fun a k g => cf a k (by omega) (by omega))
          have Hi := XLhd X6.2.1 hi'
          refine ⟨q_rin lt.2.2.1.2.2.2 (by omega) (by decide), q_rin l1.2.2.1.2.2.2 (by omega) (by decide), (lt.2.2.2 j (by omega)).2.1, x_copyName (lt.2.2.2 j (by omega)).2 Hi (by omega) (by omega) (by omega) (fun h7 d3 dn dj df => ?_)⟩
          have Y7 : XL S h7 (x + 158) (swL (aL A) i j) := by
            refine XLswap Y5 hi' hj' (by omega) ?_ (fun k hk => ?_) d3 (fun k hk => ?_) (fun a k q1 q2 q3 q4 => ?_)
            · rw [df _ _ (by omega) (by omega)]; exact c3
            · rw [df _ _ (by omega) (by omega), show x + 158 + (6 + 2 * i) = x + 158 + (5 + 2 * i) + 1 by omega]; exact cn k hk
            · rw [show x + 158 + (6 + 2 * j) = x + 158 + (5 + 2 * j) + 1 by omega]; exact dn k hk
            · have e1 : h7 a k = h6 a k := by
                by_cases c : a = x + 158 + (5 + 2 * j)
                · subst c; exact dj k (by omega)
                · exact df a k c (by omega)
              have e2 : h6 a k = h5 a k := by
                by_cases c : a = x + 158 + (5 + 2 * i)
                · subst c; exact cj k (by omega)
                · exact cf a k c (by omega)
              exact e1.trans e2
          have X7 := XI_thought X6 (show Fr (x + 158) h6 h7 from fun a k g => df a k (by omega) (by omega))
          have F7 : FrX x h h7 := fun a k q => by rw [df _ _ (by omega) (by omega), cf _ _ (by omega) (by omega), F5 _ _ (by omega)]; exact F4 a k q
          refine x_pass Y7 (by rw [swL_o (by omega) (by omega) (by omega) (by omega)]; omega) (fun h8 Y8 F8 => x_all Y8 ?_)
          have X8 := XI_thought X7 F8
          have F8' := FrX_tr F7 (FrX_of F8 (by omega))
          have al := allF_le Y8.2.2
          simp only [q_le (show allF (nightsF n (swL (aL A) i j)) < 2 ^ 31 by omega) (show s.2 < 2 ^ 31 by omega)]
          by_cases c : s.2 < allF (nightsF n (swL (aL A) i j))
          · rw [if_neg (by omega)]
            refine x_all Y8 ?_
            have := ih2 (j + 1) (nmS (aL A) n i j s) h8 (by omega) (by omega) (by unfold nmS; rw [if_pos c]; exact al) X8 F8' er
            unfold nmS at this
            rw [if_pos c] at this; exact this
          · rw [if_pos (by omega)]
            have := ih2 (j + 1) (nmS (aL A) n i j s) h8 (by omega) (by omega) (by unfold nmS; rw [if_neg c]; exact hs) X8 F8' er
            unfold nmS at this
            rw [if_neg c] at this; exact this
      exact K2 (aL A 0 4 - (i + 1)) (i + 1) s h3 (by omega) (by omega) hs X3 F3 er
  exact K (aL A 0 4) 0 (-9, allF (nightsF n (aL A))) h2 (by omega) (allF_le Y2.2.2) X2 F2 rfl
def namesA (A : Ab) (n : Int32) : Int32 × Ab := if fN n 0 30 = 0 then (nmF (aL A) (ix n), A) else rfA A (fN n 0 30)
theorem x_names (X : XI S h x A) {n : Int32} {Q : Int32 → Hp → Prop} (hQ : ∀ h', XI S h' x (namesA A n).2 → FrX x h h' → Q (namesA A n).1 h') : w_X6_names S x n h Q := by
  have l := X.1
  unfold w_X6_names
  unfold namesA at hQ
  refine x_faultN ?_
  have e : ckN (nI 0 = 0) n 0 30 = fN n 0 30 := by unfold ckN; rw [if_pos nI_0]
  rw [e]
  by_cases g : fN n 0 30 = 0
  · rw [if_pos g]
    rw [if_pos g] at hQ
    obtain ⟨j, hj1, hj, rfl⟩ := fN_0 (by decide) (by decide) g
    rw [q_ix (by omega)] at hQ
    rw [l.1.2.2.2.2.2.1, l.1.2.1]
    exact ⟨l.1.1, l.2.2.2.2.1.1, x_namesTo X hj hQ⟩
  · rw [if_neg g]
    rw [if_neg g] at hQ
    exact ⟨l.1.1, x_refuse X (rf_of (fN_c _ _ _) g) hQ⟩
theorem y_names (X : MI_ S h m A) {n : Int32} {Q : Int32 → Hp → Prop} (hQ : ∀ h', MI_ S h' m (namesA A n).2 → FrY m h h' → Q (namesA A n).1 h') : w_X7_names S m n h Q := by
  have l := X.1.1
  have h5 := X.1.2.2.1
  have h9 := X.2.2.2.2.2.2.1.2
  unfold w_X7_names
  unfold namesA at hQ
  refine y_bound ?_
  by_cases g : fN n 0 30 = 0
  · rw [if_pos g]
    rw [if_pos g] at hQ
    obtain ⟨n, hj1, hn, rfl⟩ := fN_0 (by decide) (by decide) g
    rw [q_ix (by omega)] at hQ
    refine ⟨l.1, y_minds X.1 (fun h1 T1 D1 => y_goes T1.1 (by omega) (fun h2 Y2 F2 => y_all Y2 (y_forgets (TH_M T1 Y2 F2) (fun h3 Y3 D3 => ?_))))⟩
    have X3 := MI_mind X Y3 (FrD_tr D1 (FrD_tr (FrD_of F2) D3))
    have D3' := FrD_tr D1 (FrD_tr (FrD_of F2) D3)
    unfold w_X7_names_c50
    intro P hP
    have K : ∀ (f i : Nat) (s : Int32 × Nat) (h3 : Hp), f + i = aL A 0 4 → s.2 ≤ 495 → MI_ S h3 m A → FrD m h h3 → nmF (aL A) n = (nmO (aL A) n f i s).1 → P s.1 (nI s.2) (nI i) h3 := by
      intro f
      induction f with
      | zero =>
        intro i s h3 hi hs X3 F3 er
        refine hP _ _ _ _ ⟨l.1, ?_⟩
        rw [X3.1.2.1.1.1]
        simp only [q_le (show aL A 0 4 < 2 ^ 31 by omega) (show i < 2 ^ 31 by omega)]
        rw [if_pos (by omega)]
        have := hQ h3 X3 (FrY_D F3)
        rw [er] at this; exact this
      | succ f ih =>
        intro i s h3 hi hs X3 F3 er
        refine hP _ _ _ _ ⟨l.1, ?_⟩
        rw [X3.1.2.1.1.1]
        simp only [q_le (show aL A 0 4 < 2 ^ 31 by omega) (show i < 2 ^ 31 by omega)]
        rw [if_neg (by omega), nI_add]
        unfold w_X7_names_c65
        intro P2 hP2
        have K2 : ∀ (g j : Nat) (s : Int32 × Nat) (h4 : Hp), g + j = aL A 0 4 → i < j → s.2 ≤ 495 → MI_ S h4 m A → FrD m h h4 → nmF (aL A) n = (nmO (aL A) n f (i + 1) (nmI (aL A) n i g j s)).1 → P2 s.1 (nI s.2) (nI j) h4 := by
          intro g
          induction g with
          | zero =>
            intro j s h4 hj hij hs X4 F4 er
            refine hP2 _ _ _ _ ⟨l.1, ?_⟩
            rw [X4.1.2.1.1.1]
            simp only [q_le (show aL A 0 4 < 2 ^ 31 by omega) (show j < 2 ^ 31 by omega)]
            rw [if_pos (by omega), nI_add]
            exact ih (i + 1) s h4 (by omega) hs X4 F4 er
          | succ g ih2 =>
            intro j s h4 hj hij hs X4 F4 er
            have hi' : i < aL A 0 4 := by omega
            have hj' : j < aL A 0 4 := by omega
            refine hP2 _ _ _ _ ⟨l.1, ?_⟩
            rw [X4.1.2.1.1.1]
            simp only [q_le (show aL A 0 4 < 2 ^ 31 by omega) (show j < 2 ^ 31 by omega)]
            rw [if_neg (by omega), nI_add, pk_mul, nI_add]
            refine y_minds X4.1 (fun h5 T5 D5 => y_changes T5.1 hi' hj' (by omega) (fun h6 Y6 F6 => y_goes Y6 (by rw [swL_o (by omega) (by omega) (by omega) (by omega)]; omega) (fun h7 Y7 F7 => y_all Y7 (y_forgets (TH_M (TH_M T5 Y6 F6) Y7 F7) (fun h8 Y8 D8 => ?_)))))
            have D := FrD_tr D5 (FrD_tr (FrD_of F6) (FrD_tr (FrD_of F7) D8))
            have X8 := MI_mind X4 Y8 D
            have F8' := FrD_tr F4 D
            have al := allF_le Y7.2.2
            simp only [q_lt (show s.2 < 2 ^ 31 by omega) (show allF (nightsF n (swL (aL A) i j)) < 2 ^ 31 by omega)]
            by_cases c : s.2 < allF (nightsF n (swL (aL A) i j))
            · rw [if_pos c]
              have := ih2 (j + 1) (nmS (aL A) n i j s) h8 (by omega) (by omega) (by unfold nmS; rw [if_pos c]; exact al) X8 F8' er
              unfold nmS at this
              rw [if_pos c] at this; exact this
            · rw [if_neg c]
              have := ih2 (j + 1) (nmS (aL A) n i j s) h8 (by omega) (by omega) (by unfold nmS; rw [if_neg c]; exact hs) X8 F8' er
              unfold nmS at this
              rw [if_neg c] at this; exact this
        exact K2 (aL A 0 4 - (i + 1)) (i + 1) s h3 (by omega) (by omega) hs X3 F3 er
    exact K (aL A 0 4) 0 (-9, allF (nightsF n (aL A))) h3 (by omega) (allF_le Y2.2.2) X3 D3' rfl
  · rw [if_neg g]
    rw [if_neg g] at hQ
    exact ⟨l.1, y_no X (rf_of (fN_c _ _ _) g) hQ⟩
theorem op_names (H : SI S h x A) {n : Int32} {Q : Int32 → Int32 → Hp → Prop} (hQ : ∀ r A' h', SI S h' x A' → Q r r h') : w_X6_names S x n h (fun r h1 => w_X7_names S (x + 180) n h1 (fun r' h2 => Q r r' h2)) :=
  x_names H.1 (fun h1 X1 F1 => y_names (SI_m H F1) (fun h2 Y2 F2 => hQ _ _ h2 (SI_mk X1 Y2 F2)))
end NAMES
