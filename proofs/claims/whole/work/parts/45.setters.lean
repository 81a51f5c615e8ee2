/-! PURE: faces, does, joins, named, walls, folk, nights, image, restore, feed -/
section SETTERS
variable {S : St} {h h' : Hp} {x m : Nat} {A : Ab}
def setHA (A : Ab) (i k : Nat) (w : Nat) : Int32 × Ab := (nI (aL A (5 + 2 * i) k), sL (pushA A) (updL (aL A) (5 + 2 * i) k w))
theorem x_setH (X : XI S h x A) {i k w : Nat} (hi : i < aL A 0 4) (hk : k = 5 ∧ w ≤ 3 ∨ k = 6 ∧ w ≤ 4 ∨ k = 7 ∧ w ≤ 99) {Q : Int32 → Hp → Prop} (hQ : ∀ h', XI S h' x (setHA A i k w).2 → FrX x h h' → Q (setHA A i k w).1 h') : ob S (S.2 x 3) 3 ∧ (w_X3_keep S (S.2 x 3) (S.2 x 0) h (fun h8 => (ob S (S.2 x 0) 1 ∧ (rin S 1 (S.2 (S.2 x 0) 3) (nI i) ∧ (ob S (S.2 (S.2 (S.2 x 0) 3) (ix (nI i))) 0 ∧ (Q (h8 (S.2 (S.2 (S.2 x 0) 3) (ix (nI i))) k) (up h8 (S.2 (S.2 (S.2 x 0) 3) (ix (nI i))) k (nI w)))))))) := by
  have l := X.1
  have h5 := X.2.2.2.2.2.2.2.1.1.1
  have l1 := l.2.1.1
  rw [l.1.2.2.2.1, l.1.2.1, l1.2.1.2.2.2, q_ix (by omega), (l1.2.2.2 i (by omega)).1]
  refine ⟨l.2.2.1.1, x_keep X (fun h8 X8 F8 => ?_)⟩
  have Hi := XLhd X8.2.1 hi
  have e : h8 (x + 1 + (5 + 2 * i)) k = nI (aL A (5 + 2 * i) k) := XHe Hi (by omega) (by omega)
  rw [e]
  refine ⟨l1.1, q_rin l1.2.2.1.2.2.2 (by omega) (by decide), Hi.1, hQ _ ?_ (fun a q g => by rw [up_ne (by omega)]; exact F8 a q g)⟩
  have Y : XL S (up h8 (x + 1 + (5 + 2 * i)) k (nI w)) (x + 1) (updL (aL A) (5 + 2 * i) k w) := XLsetH X8.2.1 hi (by omega) (by omega) (by omega) (HB_up (X8.2.1.2.2.2.2.2 i hi) (by omega))
  exact XI_now X8 Y (Fr_up Fr_rf (by omega)) (by rw [updL_ne (by omega)]; exact X8.2.2.2.2.2.2.2.1.2)
theorem y_setH (X : MI_ S h m A) {i k c w : Nat} (hi : i < aL A 0 4) (hk : k = 5 ∧ c = 8 ∧ w ≤ 3 ∨ k = 6 ∧ c = 9 ∧ w ≤ 4 ∨ k = 7 ∧ c = 10 ∧ w ≤ 99) {Q : Int32 → Hp → Prop} (hQ : ∀ h', MI_ S h' m (setHA A i k w).2 → FrY m h h' → Q (setHA A i k w).1 h') : w_X7_remembers S m h (fun h10 => (ain S (m + c) (nI i) ∧ (Q (h10 (m + c) (ix (nI i))) (up h10 (m + c) (ix (nI i)) (nI w))))) := by
  have l := X.1.1
  have h5 := X.1.2.2.1
  have kc : KC k c := by unfold KC; omega
  refine y_remembers X (fun h8 X8 F8 => ?_)
  rw [q_ix (by omega), MLe X8.1 hi kc]
  have ac : S.1 (m + c) = some (.inr (0, 5)) := by
    rcases hk with ⟨_, rfl, _⟩ | ⟨_, rfl, _⟩ | ⟨_, rfl, _⟩
    · exact la7 l
    · exact la8 l
    · exact la9 l
  refine ⟨q_ain ac (by omega) (by decide), hQ _ ?_ (FrY_tr F8 (FrY_up FrY_rf (by omega)))⟩
  have Y : ML_ S (up h8 (m + c) i (nI w)) m (updL (aL A) (5 + 2 * i) k w) := MLsetH X8.1 hi kc (by omega) (HB_up (MLb X8.1 hi) (by omega))
  exact MI_rest X8 Y (by rw [updL_ne (by omega)]; exact X8.2.2.2.2.2.2.1.2) (FrD_of (FrM_up FrM_rf (by omega)))
def facesA (A : Ab) (v w : Int32) : Int32 × Ab := if ckN (inR v (aL A 0 4)) w 0 3 = 0 then setHA A (ix v) 5 (ix w) else rfA A (ckN (inR v (aL A 0 4)) w 0 3)
def joinsA (A : Ab) (v w : Int32) : Int32 × Ab := if ckN (inR v (aL A 0 4)) w 0 99 = 0 then setHA A (ix v) 7 (ix w) else rfA A (ckN (inR v (aL A 0 4)) w 0 99)
def doesA (A : Ab) (v w : Int32) : Int32 × Ab := if inR v (aL A 0 4) then (if inR w 5 then setHA A (ix v) 6 (ix w) else rfA A (-2)) else rfA A (-1)
theorem x_faces (X : XI S h x A) {v w : Int32} {Q : Int32 → Hp → Prop} (hQ : ∀ h', XI S h' x (facesA A v w).2 → FrX x h h' → Q (facesA A v w).1 h') : w_X6_faces S x v w h Q := by
  have l := X.1
  have h5 := X.2.2.2.2.2.2.2.1.1.1
  unfold w_X6_faces
  unfold facesA at hQ
  have T : ∀ nb : Int32, (nb = 0 ↔ inR v (aL A 0 4)) → w_X6_faultOfNumber S nb w (nI 0) (nI 3) h (fun r5 h4 => (if r5 = 0 then (ob S (S.2 x 3) 3 ∧ (w_X3_keep S (S.2 x 3) (S.2 x 0) h4 (fun h8 => (ob S (S.2 x 0) 1 ∧ (rin S 1 (S.2 (S.2 x 0) 3) v ∧ (ob S (S.2 (S.2 (S.2 x 0) 3) (ix v)) 0 ∧ (Q (h8 (S.2 (S.2 (S.2 x 0) 3) (ix v)) 5) (up h8 (S.2 (S.2 (S.2 x 0) 3) (ix v)) 5 w)))))))) else (w_X6_refuse S x r5 h4 (fun r13 h12 => (Q r13 h12))))) := by
    intro nb hnb
    refine x_faultN ?_
    rw [ckN_iff hnb]
    by_cases g : ckN (inR v (aL A 0 4)) w 0 3 = 0
    · rw [if_pos g]
      rw [if_pos g] at hQ
      obtain ⟨g1, g3⟩ := ckN_0 g
      obtain ⟨i, hi, rfl⟩ := inR_ex g1 (by omega)
      obtain ⟨j, hj1, hj, rfl⟩ := fN_0 (by decide) (by decide) g3
      refine x_setH X hi (by omega) (fun h' X' F' => ?_)
      have := hQ h'
      rw [q_ix (by omega), q_ix (by omega)] at this
      exact this X' F'
    · rw [if_neg g]
      rw [if_neg g] at hQ
      exact x_refuse X (rf_of (ckN_c _ _ _ _) g) hQ
  refine ⟨l.1.1, x_noHead X (fun c => ?_) (fun c => ?_)⟩
  · exact T _ ⟨fun _ => c, fun _ => nI_0⟩
  · exact T _ ⟨fun q => absurd q (by decide), fun q => absurd q c⟩
theorem x_joins (X : XI S h x A) {v w : Int32} {Q : Int32 → Hp → Prop} (hQ : ∀ h', XI S h' x (joinsA A v w).2 → FrX x h h' → Q (joinsA A v w).1 h') : w_X6_joins S x v w h Q := by
  have l := X.1
  have h5 := X.2.2.2.2.2.2.2.1.1.1
  unfold w_X6_joins
  unfold joinsA at hQ
  have T : ∀ nb : Int32, (nb = 0 ↔ inR v (aL A 0 4)) → w_X6_faultOfNumber S nb w (nI 0) (nI 99) h (fun r5 h4 => (if r5 = 0 then (ob S (S.2 x 3) 3 ∧ (w_X3_keep S (S.2 x 3) (S.2 x 0) h4 (fun h8 => (ob S (S.2 x 0) 1 ∧ (rin S 1 (S.2 (S.2 x 0) 3) v ∧ (ob S (S.2 (S.2 (S.2 x 0) 3) (ix v)) 0 ∧ (Q (h8 (S.2 (S.2 (S.2 x 0) 3) (ix v)) 7) (up h8 (S.2 (S.2 (S.2 x 0) 3) (ix v)) 7 w)))))))) else (w_X6_refuse S x r5 h4 (fun r13 h12 => (Q r13 h12))))) := by
    intro nb hnb
    refine x_faultN ?_
    rw [ckN_iff hnb]
    by_cases g : ckN (inR v (aL A 0 4)) w 0 99 = 0
    · rw [if_pos g]
      rw [if_pos g] at hQ
      obtain ⟨g1, g3⟩ := ckN_0 g
      obtain ⟨i, hi, rfl⟩ := inR_ex g1 (by omega)
      obtain ⟨j, hj1, hj, rfl⟩ := fN_0 (by decide) (by decide) g3
      refine x_setH X hi (by omega) (fun h' X' F' => ?_)
      have := hQ h'
      rw [q_ix (by omega), q_ix (by omega)] at this
      exact this X' F'
    · rw [if_neg g]
      rw [if_neg g] at hQ
      exact x_refuse X (rf_of (ckN_c _ _ _ _) g) hQ
  refine ⟨l.1.1, x_noHead X (fun c => ?_) (fun c => ?_)⟩
  · exact T _ ⟨fun _ => c, fun _ => nI_0⟩
  · exact T _ ⟨fun q => absurd q (by decide), fun q => absurd q c⟩
theorem x_does (X : XI S h x A) {v w : Int32} {Q : Int32 → Hp → Prop} (hQ : ∀ h', XI S h' x (doesA A v w).2 → FrX x h h' → Q (doesA A v w).1 h') : w_X6_does S x v w h Q := by
  have l := X.1
  have h5 := X.2.2.2.2.2.2.2.1.1.1
  unfold w_X6_does
  unfold doesA at hQ
  refine ⟨l.1.1, x_noHead X (fun c => ?_) (fun c => ?_)⟩
  · rw [if_pos (by decide)]
    rw [if_pos c] at hQ
    by_cases c1 : w < 0
    · rw [if_pos c1]
      rw [if_neg (fun q => absurd c1 (Int32.not_lt.mpr q.1))] at hQ
      exact x_refuse X (by unfold rfok; decide) hQ
    · rw [if_neg c1]
      by_cases c2 : w < nI 5
      · rw [if_pos c2]
        have g2 : inR w 5 := ⟨Int32.not_lt.mp c1, c2⟩
        rw [if_pos g2] at hQ
        obtain ⟨i, hi, rfl⟩ := inR_ex c (by omega)
        obtain ⟨j, hj, rfl⟩ := inR_ex g2 (by omega)
        refine x_setH X hi (by omega) (fun h' X' F' => ?_)
        have := hQ h'
        rw [q_ix (by omega), q_ix (by omega)] at this
        exact this X' F'
      · rw [if_neg c2]
        rw [if_neg (fun q => c2 q.2)] at hQ
        exact x_refuse X (by unfold rfok; decide) hQ
  · rw [if_neg (by decide)]
    rw [if_neg c] at hQ
    exact x_refuse X (by unfold rfok; decide) hQ
theorem y_faces (X : MI_ S h m A) {v w : Int32} {Q : Int32 → Hp → Prop} (hQ : ∀ h', MI_ S h' m (facesA A v w).2 → FrY m h h' → Q (facesA A v w).1 h') : w_X7_faces S m v w h Q := by
  have l := X.1.1
  have h5 := X.1.2.2.1
  unfold w_X7_faces
  unfold facesA at hQ
  refine ⟨l.1, y_isHead X.1 (fun c => ?_) (fun c => ?_)⟩
  · rw [if_neg (by decide)]
    have e : ckN (inR v (aL A 0 4)) w 0 3 = fN w 0 3 := by unfold ckN; rw [if_pos c]
    rw [e] at hQ
    refine y_bound ?_
    by_cases g : fN w 0 3 = 0
    · rw [if_pos g]
      rw [if_pos g] at hQ
      obtain ⟨i, hi, rfl⟩ := inR_ex c (by omega)
      obtain ⟨j, hj1, hj, rfl⟩ := fN_0 (by decide) (by decide) g
      rw [lr7 l]
      refine y_setH X (c := 8) (k := 5) hi (by omega) (fun h' X' F' => ?_)
      have := hQ h'
      rw [q_ix (by omega), q_ix (by omega)] at this
      exact this X' F'
    · rw [if_neg g]
      rw [if_neg g] at hQ
      exact y_no X (rf_of (fN_c _ _ _) g) hQ
  · rw [if_pos (by decide)]
    have e : ckN (inR v (aL A 0 4)) w 0 3 = -1 := by unfold ckN; rw [if_neg c]
    rw [e, if_neg (by decide)] at hQ
    exact y_no X (by unfold rfok; decide) hQ
theorem y_joins (X : MI_ S h m A) {v w : Int32} {Q : Int32 → Hp → Prop} (hQ : ∀ h', MI_ S h' m (joinsA A v w).2 → FrY m h h' → Q (joinsA A v w).1 h') : w_X7_joins S m v w h Q := by
  have l := X.1.1
  have h5 := X.1.2.2.1
  unfold w_X7_joins
  unfold joinsA at hQ
  refine ⟨l.1, y_isHead X.1 (fun c => ?_) (fun c => ?_)⟩
  · rw [if_neg (by decide)]
    have e : ckN (inR v (aL A 0 4)) w 0 99 = fN w 0 99 := by unfold ckN; rw [if_pos c]
    rw [e] at hQ
    refine y_bound ?_
    by_cases g : fN w 0 99 = 0
    · rw [if_pos g]
      rw [if_pos g] at hQ
      obtain ⟨i, hi, rfl⟩ := inR_ex c (by omega)
      obtain ⟨j, hj1, hj, rfl⟩ := fN_0 (by decide) (by decide) g
      rw [lr9 l]
      refine y_setH X (c := 10) (k := 7) hi (by omega) (fun h' X' F' => ?_)
      have := hQ h'
      rw [q_ix (by omega), q_ix (by omega)] at this
      exact this X' F'
    · rw [if_neg g]
      rw [if_neg g] at hQ
      exact y_no X (rf_of (fN_c _ _ _) g) hQ
  · rw [if_pos (by decide)]
    have e : ckN (inR v (aL A 0 4)) w 0 99 = -1 := by unfold ckN; rw [if_neg c]
    rw [e, if_neg (by decide)] at hQ
    exact y_no X (by unfold rfok; decide) hQ
theorem y_does (X : MI_ S h m A) {v w : Int32} {Q : Int32 → Hp → Prop} (hQ : ∀ h', MI_ S h' m (doesA A v w).2 → FrY m h h' → Q (doesA A v w).1 h') : w_X7_does S m v w h Q := by
  have l := X.1.1
  have h5 := X.1.2.2.1
  unfold w_X7_does
  unfold doesA at hQ
  refine ⟨l.1, y_isHead X.1 (fun c => ?_) (fun c => ?_)⟩
  · rw [if_neg (by decide)]
    rw [if_pos c] at hQ
    refine y_isIn (fun g => ?_) (fun g => ?_)
    · rw [if_neg (by decide)]
      have g2 : inR w 5 := (inR_le (by decide)).mp g
      rw [if_pos g2] at hQ
      obtain ⟨i, hi, rfl⟩ := inR_ex c (by omega)
      obtain ⟨j, hj, rfl⟩ := inR_ex g2 (by decide)
      rw [lr8 l]
      refine y_setH X (c := 9) (k := 6) hi (by omega) (fun h' X' F' => ?_)
      have := hQ h'
      rw [q_ix (by omega), q_ix (by omega)] at this
      exact this X' F'
    · rw [if_pos (by decide)]
      rw [if_neg (fun q => g ((inR_le (by decide)).mpr q))] at hQ
      exact y_no X (by unfold rfok; decide) hQ
  · rw [if_pos (by decide)]
    rw [if_neg c] at hQ
    exact y_no X (by unfold rfok; decide) hQ
theorem op_faces (H : SI S h x A) {v w : Int32} {Q : Int32 → Int32 → Hp → Prop} (hQ : ∀ r A' h', SI S h' x A' → Q r r h') : w_X6_faces S x v w h (fun r h1 => w_X7_faces S (x + 180) v w h1 (fun r' h2 => Q r r' h2)) :=
  x_faces H.1 (fun h1 X1 F1 => y_faces (SI_m H F1) (fun h2 Y2 F2 => hQ _ _ h2 (SI_mk X1 Y2 F2)))
theorem op_joins (H : SI S h x A) {v w : Int32} {Q : Int32 → Int32 → Hp → Prop} (hQ : ∀ r A' h', SI S h' x A' → Q r r h') : w_X6_joins S x v w h (fun r h1 => w_X7_joins S (x + 180) v w h1 (fun r' h2 => Q r r' h2)) :=
  x_joins H.1 (fun h1 X1 F1 => y_joins (SI_m H F1) (fun h2 Y2 F2 => hQ _ _ h2 (SI_mk X1 Y2 F2)))
theorem op_does (H : SI S h x A) {v w : Int32} {Q : Int32 → Int32 → Hp → Prop} (hQ : ∀ r A' h', SI S h' x A' → Q r r h') : w_X6_does S x v w h (fun r h1 => w_X7_does S (x + 180) v w h1 (fun r' h2 => Q r r' h2)) :=
  x_does H.1 (fun h1 X1 F1 => y_does (SI_m H F1) (fun h2 Y2 F2 => hQ _ _ h2 (SI_mk X1 Y2 F2)))
end SETTERS
