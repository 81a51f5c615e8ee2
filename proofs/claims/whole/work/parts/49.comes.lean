/-! PURE: comes -/
def nhF (k f g : Nat) (j : Nat) : Nat := if j = 0 then k else if j = 1 then f else if j = 3 then 1 else if j = 4 then g else 0
def newL (L : Ld) (k f g c : Nat) : Ld := fun o j => if o = 0 ∧ j = 4 then L 0 4 + 1 else if o = 5 + 2 * L 0 4 then nhF k f g j else if o = 6 + 2 * L 0 4 ∧ j = 0 then c else L o j
theorem newL_4 (L : Ld) (k f g c : Nat) : newL L k f g c 0 4 = L 0 4 + 1 := by unfold newL; rw [if_pos ⟨rfl, rfl⟩]
theorem newL_h (L : Ld) (k f g c j : Nat) : newL L k f g c (5 + 2 * L 0 4) j = nhF k f g j := by unfold newL; rw [if_neg (by omega), if_pos rfl]
theorem newL_c (L : Ld) (k f g c : Nat) : newL L k f g c (6 + 2 * L 0 4) 0 = c := by unfold newL; rw [if_neg (by omega), if_neg (by omega), if_pos ⟨rfl, rfl⟩]
theorem newL_o {L : Ld} {k f g c o j : Nat} (h : ¬ (o = 0 ∧ j = 4)) (h1 : o ≠ 5 + 2 * L 0 4) (h2 : ¬ (o = 6 + 2 * L 0 4 ∧ j = 0)) : newL L k f g c o j = L o j := by unfold newL; rw [if_neg h, if_neg h1, if_neg h2]
theorem newL_W {L : Ld} (w : WfL L) {k f g c : Nat} (h5 : L 0 4 < 5) (hk : k ≤ 7) (hf : f ≤ 9) (hg : g ≤ 47) (hc : c ≤ 25) : WfL (newL L k f g c) := by
  refine ⟨by rw [newL_4]; omega, by rw [newL_o (by omega) (by omega) (by omega)]; exact w.2.1, fun q hq => ?_, fun i hi => ?_⟩
  · rw [newL_o (by omega) (by omega) (by omega), newL_o (by omega) (by omega) (by omega), newL_o (by omega) (by omega) (by omega)]
    exact w.2.2.1 q hq
  · rw [newL_4] at hi
    by_cases e : i = L 0 4
    · subst e
      unfold HB
      simp only [newL_h]
      refine ⟨hk, hf, show 1 ≤ 6 by decide, hg, show 0 ≤ 3 by decide, show 0 ≤ 4 by decide, show 0 ≤ 99 by decide, show 0 ≤ 1 by decide, fun q hq => ?_, show 1 ≤ 1 by decide⟩
      have hq : q < 1 := hq
      rw [show q = 0 by omega, newL_c]; exact hc
    · have e5 : newL L k f g c (5 + 2 * i) = L (5 + 2 * i) := by funext j; exact newL_o (by omega) (by omega) (by omega)
      have e6 : newL L k f g c (6 + 2 * i) = L (6 + 2 * i) := by funext j; exact newL_o (by omega) (by omega) (by omega)
      rw [e5, e6]; exact w.2.2.2 i (by omega)
section COMES
variable {S : St} {h h' : Hp} {x m b : Nat} {A : Ab} {L : Ld}
theorem XLnew (X : XL S h b L) {k f g c : Nat} (h5 : L 0 4 < 5) (hk : k ≤ 7) (hf : f ≤ 9) (hg : g ≤ 47) (hc : c ≤ 25) (e4 : h' b 4 = nI (L 0 4 + 1)) (eh : ∀ j, j ≤ 8 → j ≠ 2 → h' (b + (5 + 2 * L 0 4)) j = nI (nhF k f g j)) (en : h' (b + (6 + 2 * L 0 4)) 0 = nI c) (e : ∀ a q, ¬ (a = b ∧ q = 4) → a ≠ b + (5 + 2 * L 0 4) → a ≠ b + (6 + 2 * L 0 4) → h' a q = h a q) : XL S h' b (newL L k f g c) := by
  obtain ⟨l, r, w⟩ := X
  refine ⟨l, ⟨⟨by rw [newL_4]; exact e4, ?_, ?_⟩, fun q hq => ?_, fun i hi => ?_⟩, newL_W w h5 hk hf hg hc⟩
  · rw [newL_o (by omega) (by omega) (by omega), e _ _ (by omega) (by omega) (by omega)]; exact r.1.2.1
  · rw [newL_o (by omega) (by omega) (by omega), e _ _ (by omega) (by omega) (by omega)]; exact r.1.2.2
  · rw [newL_o (by omega) (by omega) (by omega), newL_o (by omega) (by omega) (by omega), newL_o (by omega) (by omega) (by omega), e _ _ (by omega) (by omega) (by omega), e _ _ (by omega) (by omega) (by omega), e _ _ (by omega) (by omega) (by omega)]; exact r.2.1 q hq
  · rw [newL_4] at hi
    by_cases ei : i = L 0 4
    · subst ei
      refine ⟨fun j h1 h2 => by rw [newL_h]; exact eh j h1 h2, fun j hj => ?_⟩
      rw [newL_h] at hj
      have hj : j < 1 := hj
      rw [show j = 0 by omega, newL_c]; exact en
    · have e5 : newL L k f g c (5 + 2 * i) = L (5 + 2 * i) := by funext j; exact newL_o (by omega) (by omega) (by omega)
      have e6 : newL L k f g c (6 + 2 * i) = L (6 + 2 * i) := by funext j; exact newL_o (by omega) (by omega) (by omega)
      rw [e5, e6]
      refine ⟨fun j h1 h2 => ?_, fun j hj => ?_⟩
      · rw [e _ _ (by omega) (by omega) (by omega)]; exact (r.2.2 i (by omega)).1 j h1 h2
      · rw [e _ _ (by omega) (by omega) (by omega)]; exact (r.2.2 i (by omega)).2 j hj
theorem MLnew (X : ML_ S h m L) {k f g c : Nat} (h5 : L 0 4 < 5) (hk : k ≤ 7) (hf : f ≤ 9) (hg : g ≤ 47) (hc : c ≤ 25) (e4 : h' m 13 = nI (L 0 4 + 1)) (eh : ∀ j q, KC j q → h' (m + q) (L 0 4) = nI (nhF k f g j)) (en : h' (m + 13) (6 * L 0 4) = nI c) (e : ∀ a q, ¬ (a = m ∧ q = 13) → ¬ (m + 5 ≤ a ∧ a ≤ m + 12 ∧ q = L 0 4) → ¬ (a = m + 13 ∧ q = 6 * L 0 4) → ¬ (a = m ∧ q = 30) → h' a q = h a q) : ML_ S h' m (newL L k f g c) := by
  obtain ⟨l, r, w⟩ := X
  refine ⟨l, ⟨⟨by rw [newL_4]; exact e4, ?_, ?_⟩, fun q hq => ?_, fun i hi => ?_⟩, newL_W w h5 hk hf hg hc⟩
  · rw [newL_o (by omega) (by omega) (by omega), e _ _ (by omega) (by omega) (by omega) (by omega)]; exact r.1.2.1
  · rw [newL_o (by omega) (by omega) (by omega), e _ _ (by omega) (by omega) (by omega) (by omega)]; exact r.1.2.2
  · rw [newL_o (by omega) (by omega) (by omega), newL_o (by omega) (by omega) (by omega), newL_o (by omega) (by omega) (by omega), e _ _ (by omega) (by omega) (by omega) (by omega), e _ _ (by omega) (by omega) (by omega) (by omega), e _ _ (by omega) (by omega) (by omega) (by omega)]; exact r.2.1 q hq
  · rw [newL_4] at hi
    by_cases ei : i = L 0 4
    · subst ei
      refine ⟨fun j q kc => by rw [newL_h]; exact eh j q kc, fun j hj => ?_⟩
      rw [newL_h] at hj
      have hj : j < 1 := hj
      rw [show j = 0 by omega, newL_c]; exact en
    · have e5 : newL L k f g c (5 + 2 * i) = L (5 + 2 * i) := by funext j; exact newL_o (by omega) (by omega) (by omega)
      have e6 : newL L k f g c (6 + 2 * i) = L (6 + 2 * i) := by funext j; exact newL_o (by omega) (by omega) (by omega)
      rw [e5, e6]
      refine ⟨fun j q kc => ?_, fun j hj => ?_⟩
      · have kc2 := kc
        unfold KC at kc2
        rw [e _ _ (by omega) (by omega) (by omega) (by omega)]; exact (r.2.2 i (by omega)).1 j q kc
      · have b3 := (w.2.2.2 i (by omega)).2.2.1
        rw [e _ _ (by omega) (by omega) (by omega) (by omega)]; exact (r.2.2 i (by omega)).2 j hj
/-- a head comes, with one letter -/
theorem x_newHead (X : XL S h b L) {k f g c : Nat} (h5 : L 0 4 < 5) (hk : k ≤ 7) (hf : f ≤ 9) (hg : g ≤ 47) (hc : c ≤ 25) {Q : Hp → Prop} (hQ : ∀ h', XL S h' b (newL L k f g c) → Fr b h h' → Q h') : w_X1_addHead S b (nI k) (nI f) (nI g) h (fun h29 => w_X1_lengthenNewestName S b (nI c) h29 (fun h30 => Q h30)) := by
  have l := X.1
  have xs := (l.2.2.2 (L 0 4) h5).2
  unfold w_X1_addHead w_X1_isFull
  rw [X.2.1.1.1]
  simp only [q_lt (show L 0 4 < 2 ^ 31 by omega) (show 5 < 2 ^ 31 by decide)]
  rw [if_pos h5, if_pos (by decide), l.2.1.2.2.2, X.2.1.1.1, q_ix (by omega), (l.2.2.2 (L 0 4) h5).1]
  refine ⟨l.1, l.1, q_rin l.2.2.1.2.2.2 h5 (by decide), xs.1, x_begin xs.1 (fun h7 g0 g1 g4 gz ge => ?_)⟩
  rw [ge b 4 (by omega), X.2.1.1.1, nI_add]
  unfold w_X1_lengthenNewestName
  rw [up_same, if_neg (show ¬ nI (L 0 4 + 1) ≤ 0 by rw [← nI_0, q_le (by omega) (by decide)]; omega), q_sub (show 1 ≤ L 0 4 + 1 by omega), show L 0 4 + 1 - 1 = L 0 4 from rfl, l.2.1.2.2.2, q_ix (by omega), (l.2.2.2 (L 0 4) h5).1]
  refine ⟨l.1, q_rin l.2.2.1.2.2.2 h5 (by decide), xs.1, ?_⟩
  have V : ∀ a q, ¬ (a = b ∧ q = 4) → (up h7 b 4 (nI (L 0 4 + 1))) a q = h7 a q := fun a q g => up_ne (by omega)
  unfold w_X0_lengthenName w_X0_hasFullName
  rw [V _ _ (by omega), gz 3 (by decide), xs.2.1]
  refine ⟨xs.1, xs.1, ?_⟩
  rw [if_pos (by decide)]
  dsimp only
  rw [if_pos (by decide), V _ _ (by omega), gz 3 (by decide), q_ix (by decide), up_ne (by omega), V _ _ (by omega), gz 3 (by decide), nI_add]
  refine ⟨q_ain xs.2.2 (by decide) (by decide), hQ _ (XLnew X h5 hk hf hg hc ?_ (fun j h1 h2 => ?_) ?_ (fun a q q1 q2 q3 => ?_)) (fun a q g => ?_)⟩
  · rw [up_ne (by omega), up_ne (by omega), up_same]
  · by_cases e3 : j = 3
    · subst e3; rw [up_same]; rfl
    · rw [up_ne (by omega), up_ne (by omega), V _ _ (by omega)]
      unfold nhF
      by_cases e0 : j = 0
      · rw [if_pos e0, e0]; exact g0
      rw [if_neg e0]
      by_cases e1 : j = 1
      · rw [if_pos e1, e1]; exact g1
      rw [if_neg e1, if_neg e3]
      by_cases e4 : j = 4
      · rw [if_pos e4, e4]; exact g4
      rw [if_neg e4]; exact gz j (by omega)
  · rw [up_ne (by omega), show b + (6 + 2 * L 0 4) = b + (5 + 2 * L 0 4) + 1 by omega, up_same]
  · rw [up_ne (by omega), up_ne (by omega), V _ _ (by omega)]; exact ge _ _ (by omega)
  · rw [up_ne (by omega), up_ne (by omega), V _ _ (by omega)]; exact ge _ _ (by omega)
def comesA (A : Ab) (k f g c : Int32) : Int32 × Ab := if inR k 8 then (if f < 0 ∨ c < 0 then rfA A (-4) else if nI 9 < f ∨ nI 25 < c ∨ aL A 0 4 = 5 then rfA A (-6) else if inR g 48 then (nI (aL A 0 4), sL (sB A 0 (aB A)) (newL (aL A) (ix k) (ix f) (ix g) (ix c))) else rfA A (-1)) else rfA A (-2)
theorem x_comes (X : XI S h x A) {k f g c : Int32} {Q : Int32 → Hp → Prop} (hQ : ∀ h', XI S h' x (comesA A k f g c).2 → FrX x h h' → Q (comesA A k f g c).1 h') : w_X6_comes S x k f g c h Q := by
  have l := X.1
  have l1 := l.2.1.1
  have h5 := X.2.2.2.2.2.2.2.1.1.1
  have hn := X.2.2.2.2.2.2.2.1.2
  unfold w_X6_comes
  unfold comesA at hQ
  by_cases c0 : k < 0
  · rw [if_pos c0]
    rw [if_neg (fun q => absurd c0 (Int32.not_lt.mpr q.1))] at hQ
    exact ⟨l.1.1, x_refuse X (by unfold rfok; decide) hQ⟩
  rw [if_neg c0]
  by_cases c1 : k < nI 8
  · have ck : inR k 8 := ⟨Int32.not_lt.mp c0, c1⟩
    rw [if_pos c1]
    rw [if_pos ck] at hQ
    by_cases c2 : f < 0
    · rw [if_pos c2]
      rw [if_pos (Or.inl c2)] at hQ
      exact ⟨l.1.1, x_refuse X (by unfold rfok; decide) hQ⟩
    rw [if_neg c2]
    by_cases c3 : c < 0
    · rw [if_neg (fun q => absurd c3 (Int32.not_lt.mpr q))]
      rw [if_pos (Or.inr c3)] at hQ
      exact ⟨l.1.1, x_refuse X (by unfold rfok; decide) hQ⟩
    rw [if_pos (Int32.not_lt.mp c3)]
    rw [if_neg (fun q => q.elim c2 c3)] at hQ
    by_cases c4 : nI 9 < f
    · rw [if_pos c4]
      rw [if_pos (Or.inl c4)] at hQ
      exact ⟨l.1.1, x_refuse X (by unfold rfok; decide) hQ⟩
    rw [if_neg c4]
    by_cases c5 : nI 25 < c
    · rw [if_pos ((q_26 c3 25 (by decide)).mpr c5)]
      rw [if_pos (Or.inr (Or.inl c5))] at hQ
      exact ⟨l.1.1, x_refuse X (by unfold rfok; decide) hQ⟩
    rw [if_neg (fun q => c5 ((q_26 c3 25 (by decide)).mp q)), l.1.2.1]
    unfold w_X1_isFull
    rw [X.2.1.2.1.1.1]
    simp only [q_lt (show aL A 0 4 < 2 ^ 31 by omega) (show 5 < 2 ^ 31 by decide)]
    refine ⟨l.1.1, l1.1, l1.1, ?_⟩
    by_cases c6 : aL A 0 4 = 5
    · rw [if_neg (by omega), if_neg (by decide)]
      rw [if_pos (Or.inr (Or.inr c6))] at hQ
      exact x_refuse X (by unfold rfok; decide) hQ
    rw [if_pos (by omega), if_pos (by decide)]
    rw [if_neg (fun q => q.elim c4 (fun q => q.elim c5 c6))] at hQ
    refine x_noField (fun c7 => ?_) (fun c7 => ?_)
    · rw [if_pos (by decide), l.1.2.2.2.1]
      rw [if_pos c7] at hQ
      obtain ⟨k, hk, rfl⟩ := inR_ex ck (by omega)
      obtain ⟨g, hg, rfl⟩ := inR_ex c7 (by omega)
      obtain ⟨f, hf, rfl⟩ := nI_of c2
      obtain ⟨c, hc, rfl⟩ := nI_of c3
      rw [q_lt (by decide) hf] at c4
      rw [q_lt (by decide) hc] at c5
      rw [q_ix (by omega), q_ix (by omega), q_ix (by omega), q_ix (by omega)] at hQ
      refine ⟨l.2.2.1.1, x_forget X (fun h8 X8 F8 => x_newHead (show XL S h8 (x + 1) (aL A) from X8.2.1) (by omega) (by omega) (by omega) (by omega) (by omega) (fun h9 Y9 F9 => ?_))⟩
      rw [Y9.2.1.1.1, newL_4, q_sub (show 1 ≤ aL A 0 4 + 1 by omega), show aL A 0 4 + 1 - 1 = aL A 0 4 from rfl]
      exact hQ h9 (XI_now X8 Y9 F9 (by rw [newL_o (by omega) (by omega) (by omega)]; exact hn)) (FrX_tr F8 (FrX_of F9 (by omega)))
    · rw [if_neg (by decide)]
      rw [if_neg c7] at hQ
      exact x_refuse X (by unfold rfok; decide) hQ
  · rw [if_neg c1]
    rw [if_neg (fun q => c1 q.2)] at hQ
    exact ⟨l.1.1, x_refuse X (by unfold rfok; decide) hQ⟩
theorem y_isMore (X : ML_ S h m L) (h5 : L 0 4 < 5) {k f g : Int32} {Q : Hp → Prop} (hQ : Q (up (up (up (up (up (up (up (up (up h (m + 5) (L 0 4) k) (m + 6) (L 0 4) f) (m + 7) (L 0 4) g) (m + 8) (L 0 4) (nI 0)) (m + 9) (L 0 4) (nI 0)) (m + 10) (L 0 4) (nI 0)) (m + 11) (L 0 4) (nI 0)) (m + 12) (L 0 4) (nI 0)) m 13 (nI (L 0 4 + 1)))) : w_X7_isMore S m k f g h Q := by
  have l := X.1
  have u5 : ∀ (g : Hp) k v, (up g (m + 5) k v) m 13 = g m 13 := fun _ _ _ => up_ne (by omega)
  have u6 : ∀ (g : Hp) k v, (up g (m + 6) k v) m 13 = g m 13 := fun _ _ _ => up_ne (by omega)
  have u7 : ∀ (g : Hp) k v, (up g (m + 7) k v) m 13 = g m 13 := fun _ _ _ => up_ne (by omega)
  have u8 : ∀ (g : Hp) k v, (up g (m + 8) k v) m 13 = g m 13 := fun _ _ _ => up_ne (by omega)
  have u9 : ∀ (g : Hp) k v, (up g (m + 9) k v) m 13 = g m 13 := fun _ _ _ => up_ne (by omega)
  have u10 : ∀ (g : Hp) k v, (up g (m + 10) k v) m 13 = g m 13 := fun _ _ _ => up_ne (by omega)
  have u11 : ∀ (g : Hp) k v, (up g (m + 11) k v) m 13 = g m 13 := fun _ _ _ => up_ne (by omega)
  have u12 : ∀ (g : Hp) k v, (up g (m + 12) k v) m 13 = g m 13 := fun _ _ _ => up_ne (by omega)
  unfold w_X7_isMore
  simp only [lr4 l, lr5 l, lr6 l, lr7 l, lr8 l, lr9 l, lr10 l, lr11 l, u5, u6, u7, u8, u9, u10, u11, u12, X.2.1.1.1, q_ix (show L 0 4 < 2 ^ 31 by omega), nI_add]
  exact ⟨l.1, q_ain (la4 l) h5 (by decide), q_ain (la5 l) h5 (by decide), q_ain (la6 l) h5 (by decide), q_ain (la7 l) h5 (by decide), q_ain (la8 l) h5 (by decide), q_ain (la9 l) h5 (by decide), q_ain (la10 l) h5 (by decide), q_ain (la11 l) h5 (by decide), hQ⟩
theorem y_comes (X : MI_ S h m A) {k f g c : Int32} {Q : Int32 → Hp → Prop} (hQ : ∀ h', MI_ S h' m (comesA A k f g c).2 → FrY m h h' → Q (comesA A k f g c).1 h') : w_X7_comes S m k f g c h Q := by
  have l := X.1.1
  have h5 := X.1.2.2.1
  have hn := X.2.2.2.2.2.2.1.2
  unfold w_X7_comes
  unfold comesA at hQ
  have R : ∀ c0 : Int32, rfok c0 → (∀ h', MI_ S h' m (rfA A c0).2 → FrY m h h' → Q (rfA A c0).1 h') → w_X7_comes_c67 S m k f g c c0 h Q := by
    intro c0 hc hq
    unfold w_X7_comes_c67
    rw [if_neg (show ¬ c0 = 0 by rcases hc with rfl | rfl | rfl | rfl | rfl <;> decide)]
    exact ⟨l.1, y_no X hc hq⟩
  refine y_isIn (fun ck => ?_) (fun ck => ?_)
  · have ck : inR k 8 := (inR_le (by decide)).mp ck
    rw [if_neg (by decide)]
    rw [if_pos ck] at hQ
    by_cases c2 : f < 0
    · rw [if_pos c2]
      rw [if_pos (Or.inl c2)] at hQ
      exact R _ (by unfold rfok; decide) hQ
    rw [if_neg c2]
    by_cases c3 : c < 0
    · rw [if_neg (fun q => absurd c3 (Int32.not_lt.mpr q))]
      rw [if_pos (Or.inr c3)] at hQ
      exact R _ (by unfold rfok; decide) hQ
    rw [if_pos (Int32.not_lt.mp c3)]
    rw [if_neg (fun q => q.elim c2 c3)] at hQ
    by_cases c4 : nI 9 < f
    · rw [if_pos c4]
      rw [if_pos (Or.inl c4)] at hQ
      exact R _ (by unfold rfok; decide) hQ
    rw [if_neg c4]
    by_cases c5 : nI 25 < c
    · rw [if_pos c5]
      rw [if_pos (Or.inr (Or.inl c5))] at hQ
      exact R _ (by unfold rfok; decide) hQ
    rw [if_neg c5, X.1.2.1.1.1]
    simp only [q_eq (show aL A 0 4 < 2 ^ 31 by omega) (show 5 < 2 ^ 31 by decide)]
    refine ⟨l.1, ?_⟩
    by_cases c6 : aL A 0 4 = 5
    · rw [if_pos c6]
      rw [if_pos (Or.inr (Or.inr c6))] at hQ
      exact R _ (by unfold rfok; decide) hQ
    rw [if_neg c6]
    rw [if_neg (fun q => q.elim c4 (fun q => q.elim c5 c6))] at hQ
    refine y_isField (fun c7 => ?_) (fun c7 => ?_)
    · rw [if_neg (by decide)]
      rw [if_pos c7] at hQ
      obtain ⟨k, hk, rfl⟩ := inR_ex ck (by omega)
      obtain ⟨g, hg, rfl⟩ := inR_ex c7 (by omega)
      obtain ⟨f, hf, rfl⟩ := nI_of c2
      obtain ⟨c, hc, rfl⟩ := nI_of c3
      rw [q_lt (by decide) hf] at c4
      rw [q_lt (by decide) hc] at c5
      rw [q_ix (by omega), q_ix (by omega), q_ix (by omega), q_ix (by omega)] at hQ
      unfold w_X7_comes_c67
      rw [if_pos (by decide)]
      refine ⟨l.1, y_isMore X.1 (by omega) ?_⟩
      have E : ∀ a q, ¬ (a = m ∧ q = 13) → ¬ (m + 5 ≤ a ∧ a ≤ m + 12 ∧ q = aL A 0 4) → (up (up (up (up (up (up (up (up (up h (m + 5) (aL A 0 4) (nI k)) (m + 6) (aL A 0 4) (nI f)) (m + 7) (aL A 0 4) (nI g)) (m + 8) (aL A 0 4) (nI 0)) (m + 9) (aL A 0 4) (nI 0)) (m + 10) (aL A 0 4) (nI 0)) (m + 11) (aL A 0 4) (nI 0)) (m + 12) (aL A 0 4) (nI 0)) m 13 (nI (aL A 0 4 + 1))) a q = h a q := by
        intro a q q1 q2
        rw [up_ne (by omega), up_ne (by omega), up_ne (by omega), up_ne (by omega), up_ne (by omega), up_ne (by omega), up_ne (by omega), up_ne (by omega), up_ne (by omega)]
      have E13 : (up (up (up (up (up (up (up (up (up h (m + 5) (aL A 0 4) (nI k)) (m + 6) (aL A 0 4) (nI f)) (m + 7) (aL A 0 4) (nI g)) (m + 8) (aL A 0 4) (nI 0)) (m + 9) (aL A 0 4) (nI 0)) (m + 10) (aL A 0 4) (nI 0)) (m + 11) (aL A 0 4) (nI 0)) (m + 12) (aL A 0 4) (nI 0)) m 13 (nI (aL A 0 4 + 1))) m 13 = nI (aL A 0 4 + 1) := up_same _ _ _ _
      have EH : ∀ j q, KC j q → q ≠ 12 → (up (up (up (up (up (up (up (up (up h (m + 5) (aL A 0 4) (nI k)) (m + 6) (aL A 0 4) (nI f)) (m + 7) (aL A 0 4) (nI g)) (m + 8) (aL A 0 4) (nI 0)) (m + 9) (aL A 0 4) (nI 0)) (m + 10) (aL A 0 4) (nI 0)) (m + 11) (aL A 0 4) (nI 0)) (m + 12) (aL A 0 4) (nI 0)) m 13 (nI (aL A 0 4 + 1))) (m + q) (aL A 0 4) = nI (nhF k f g j) := by
        rintro j q (⟨rfl, rfl⟩ | ⟨rfl, rfl⟩ | ⟨rfl, rfl⟩ | ⟨rfl, rfl⟩ | ⟨rfl, rfl⟩ | ⟨rfl, rfl⟩ | ⟨rfl, rfl⟩ | ⟨rfl, rfl⟩) q12
        · simp [up, nhF]
        · simp [up, nhF]
        · exact absurd rfl q12
        · simp [up, nhF]
        · simp [up, nhF]
        · simp [up, nhF]
        · simp [up, nhF]
        · simp [up, nhF]
      generalize up (up (up (up (up (up (up (up (up h (m + 5) (aL A 0 4) (nI k)) (m + 6) (aL A 0 4) (nI f)) (m + 7) (aL A 0 4) (nI g)) (m + 8) (aL A 0 4) (nI 0)) (m + 9) (aL A 0 4) (nI 0)) (m + 10) (aL A 0 4) (nI 0)) (m + 11) (aL A 0 4) (nI 0)) (m + 12) (aL A 0 4) (nI 0)) m 13 (nI (aL A 0 4 + 1)) = h8 at *
      rw [E13, q_sub (show 1 ≤ aL A 0 4 + 1 by omega), show aL A 0 4 + 1 - 1 = aL A 0 4 from rfl, pk_mul, lr12 l, lr11 l, q_ix (by omega), up_ne (a := m + 13) (a' := m) (k' := 13) (by omega), E13, q_sub (show 1 ≤ aL A 0 4 + 1 by omega), show aL A 0 4 + 1 - 1 = aL A 0 4 from rfl, q_ix (by omega)]
      refine ⟨q_ain (la12 l) (by omega) (by decide), q_ain (la11 l) (by omega) (by decide), ?_⟩
      rw [up_ne (a := m) (a' := m) (k := 30) (k' := 13) (by omega), up_ne (a := m + 12) (a' := m) (k' := 13) (by omega), up_ne (a := m + 13) (a' := m) (k' := 13) (by omega), E13, q_sub (show 1 ≤ aL A 0 4 + 1 by omega), show aL A 0 4 + 1 - 1 = aL A 0 4 from rfl]
      obtain ⟨n1, fb, n2, n3, n4⟩ := X.2.2.1
      have w := X.2.2.2.2.2.2
      have Y : ML_ S (up (up (up h8 (m + 13) (6 * aL A 0 4) (nI c)) (m + 12) (aL A 0 4) (nI 1)) m 30 (nI 0)) m (newL (aL A) k f g c) := by
        refine MLnew X.1 (by omega) (by omega) (by omega) (by omega) (by omega) ?_ (fun j q kc => ?_) ?_ (fun a q q1 q2 q3 q4 => ?_)
        · rw [up_ne (by omega), up_ne (by omega), up_ne (by omega)]; exact E13
        · have kc2 := kc
          unfold KC at kc2
          by_cases e12 : q = 12
          · have ej : j = 3 := by omega
            subst e12; subst ej
            rw [up_ne (by omega), up_same]; rfl
          · rw [up_ne (by omega), up_ne (by omega), up_ne (by omega)]; exact EH j q kc e12
        · rw [up_ne (by omega), up_ne (by omega), up_same]
        · rw [up_ne (by omega), up_ne (by omega), up_ne (by omega)]; exact E a q q1 q2
      refine hQ _ (MI_two X (n := 0) (bk := aB A) Y ⟨up_same _ _ _ _, fb, n2, ?_, fun j hj => absurd hj (Nat.not_lt_zero j)⟩ ⟨⟨Y.2.2, ?_⟩, w.2.1, ⟨Nat.zero_le _, fun j hj => absurd hj (Nat.not_lt_zero j)⟩, w.2.2.2⟩ (fun b q q1 q2 q3 => ?_)) (fun a q q1 => ?_)
      · rw [up_ne (by omega), up_ne (by omega), up_ne (by omega), E _ _ (by omega) (by omega)]; exact n3
      · show newL (aL A) k f g c 0 5 ≤ 999
        rw [newL_o (by omega) (by omega) (by omega)]; exact hn
      · rw [up_ne (by omega), up_ne (by omega), up_ne (by omega)]; exact E _ _ (by omega) (by omega)
      · rw [up_ne (by omega), up_ne (by omega), up_ne (by omega)]; exact E _ _ (by omega) (by omega)
    · rw [if_pos (by decide)]
      rw [if_neg c7] at hQ
      exact R _ (by unfold rfok; decide) hQ
  · rw [if_pos (by decide)]
    rw [if_neg (fun q => ck ((inR_le (by decide)).mpr q))] at hQ
    exact R _ (by unfold rfok; decide) hQ
theorem op_comes (H : SI S h x A) {k f g c : Int32} {Q : Int32 → Int32 → Hp → Prop} (hQ : ∀ r A' h', SI S h' x A' → Q r r h') : w_X6_comes S x k f g c h (fun r h1 => w_X7_comes S (x + 180) k f g c h1 (fun r' h2 => Q r r' h2)) :=
  x_comes H.1 (fun h1 X1 F1 => y_comes (SI_m H F1) (fun h2 Y2 F2 => hQ _ _ h2 (SI_mk X1 Y2 F2)))
end COMES
