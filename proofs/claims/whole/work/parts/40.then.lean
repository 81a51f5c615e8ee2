/-! PURE: headThen, then, count -/
section THEN
variable {S : St} {h : Hp} {x m : Nat} {A : Ab}
theorem x_behind (X : XI S h x A) {n : Nat} (hn : n ≤ 60) {Q : Nat → Hp → Prop} (hQ : ∀ h', XI S h' x A → XL S h' (x + 158) (nightsF n (aL A)) → FrX x h h' → Q (x + 158) h') : w_X2_behindNights S (x + 157) (x + 1) (nI n) h Q := by
  have l := X.1
  have h9 := X.2.2.2.2.2.2.2.1.2
  unfold w_X2_behindNights
  refine ⟨l.2.2.2.2.1.1, x_think X (fun h1 X1 Y1 F1 => ?_)⟩
  rw [l.2.2.2.2.1.2]
  exact ⟨l.2.1.2.2.1.1, x_pass Y1 (by omega) (fun h2 Y2 F2 => hQ h2 (XI_thought X1 F2) Y2 (FrX_tr (FrX_of F1 (by omega)) (FrX_of F2 (by omega))))⟩
def htF (L : Ld) (i : Nat) (w : Int32) : Int32 := if w = 0 then nI (L (5 + 2 * i) 4) else if w = nI 1 then nI (L (5 + 2 * i) 5) else if w = nI 2 then nI (L (5 + 2 * i) 7) else nI (L (5 + 2 * i) 8)
def headThenA (A : Ab) (v n w : Int32) : Int32 × Ab := if ckA (inR v (aL A 0 4)) n 0 60 w 4 = 0 then (htF (nightsF (ix n) (aL A)) (ix v) w, A) else rfA A (ckA (inR v (aL A 0 4)) n 0 60 w 4)
theorem ckA_iff {p q : Prop} [Decidable p] [Decidable q] (e : p ↔ q) (v : Int32) (a b : Nat) (w : Int32) (c : Nat) : ckA p v a b w c = ckA q v a b w c := by
  unfold ckA ckN
  by_cases g : p
  · simp only [if_pos g, if_pos (e.mp g)]
  · simp only [if_neg g, if_neg (fun k => g (e.mpr k))]
theorem ckN_iff {p q : Prop} [Decidable p] [Decidable q] (e : p ↔ q) (v : Int32) (a b : Nat) : ckN p v a b = ckN q v a b := by
  unfold ckN
  by_cases g : p
  · simp only [if_pos g, if_pos (e.mp g)]
  · simp only [if_neg g, if_neg (fun k => g (e.mpr k))]
theorem rf_of {c : Int32} (h : c = 0 ∨ rfok c) (n : ¬ c = 0) : rfok c := h.resolve_left n
theorem x_headThen (X : XI S h x A) {v n w : Int32} {Q : Int32 → Hp → Prop} (hQ : ∀ h', XI S h' x (headThenA A v n w).2 → FrX x h h' → Q (headThenA A v n w).1 h') : w_X6_headThen S x v n w h Q := by
  have l := X.1
  have h5 := X.2.2.2.2.2.2.2.1.1.1
  unfold w_X6_headThen
  unfold headThenA at hQ
  have T : ∀ nb : Int32, (nb = 0 ↔ inR v (aL A 0 4)) → w_X6_faultOfAsked S nb n (nI 0) (nI 60) w (nI 3) h (fun r5 h4 => (if r5 = 0 then (ob S (S.2 x 5) 2 ∧ (w_X2_behindNights S (S.2 x 5) (S.2 x 0) n h4 (fun r9 h8 => (ob S r9 1 ∧ (rin S 1 (S.2 r9 3) v ∧ (if w = (nI 0) then (ob S (S.2 (S.2 r9 3) (ix v)) 0 ∧ (Q (h8 (S.2 (S.2 r9 3) (ix v)) 4) h8)) else (if w = (nI 1) then (ob S (S.2 (S.2 r9 3) (ix v)) 0 ∧ (Q (h8 (S.2 (S.2 r9 3) (ix v)) 5) h8)) else (if w = (nI 2) then (ob S (S.2 (S.2 r9 3) (ix v)) 0 ∧ (Q (h8 (S.2 (S.2 r9 3) (ix v)) 7) h8)) else (ob S (S.2 (S.2 r9 3) (ix v)) 0 ∧ (if (h8 (S.2 (S.2 r9 3) (ix v)) 8) = 0 then (Q (nI 0) h8) else (Q (nI 1) h8))))))))))) else (w_X6_refuse S x r5 h4 (fun r21 h20 => (Q r21 h20))))) := by
    intro nb hnb
    refine x_faultA (by decide) ?_
    rw [ckA_iff hnb]
    by_cases g : ckA (inR v (aL A 0 4)) n 0 60 w 4 = 0
    · rw [if_pos g] at hQ
      rw [show ckA (inR v (aL A 0 4)) n 0 60 w (3 + 1) = 0 from g, if_pos rfl]
      obtain ⟨g1, g2, g3⟩ := ckA_0 g
      obtain ⟨i, hi, rfl⟩ := inR_ex g1 (by omega)
      obtain ⟨j, -, hj, rfl⟩ := fN_0 (by decide) (by decide) g2
      rw [q_ix (by omega), q_ix (by omega)] at hQ
      rw [l.1.2.2.2.2.2.1, l.1.2.1]
      refine ⟨l.2.2.2.2.1.1, x_behind X hj (fun h8 X8 Y8 F8 => ?_)⟩
      have lt := l.2.1.2.2.1
      have Hi := XLhd Y8 (show i < nightsF j (aL A) 0 4 by rw [(nightsF_0 j (aL A)).1]; exact hi)
      have b8 := Hi.2.2.2.2.2.2.2.2.2.2.2.2.1
      rw [lt.2.1.2.2.2, q_ix (by omega), (lt.2.2.2 i (by omega)).1, XHe Hi (by decide) (by decide), XHe Hi (by decide) (by decide), XHe Hi (by decide) (by decide), XHe Hi (by decide) (by decide)]
      have hq := hQ h8 X8 F8
      unfold htF at hq
      refine ⟨lt.1, q_rin lt.2.2.1.2.2.2 (by omega) (by decide), ?_⟩
      rw [show (nI 0 : Int32) = 0 from nI_0]
      by_cases c0 : w = 0
      · rw [if_pos c0]; rw [if_pos c0] at hq; exact ⟨Hi.1, hq⟩
      · rw [if_neg c0]; rw [if_neg c0] at hq
        by_cases c1 : w = nI 1
        · rw [if_pos c1]; rw [if_pos c1] at hq; exact ⟨Hi.1, hq⟩
        · rw [if_neg c1]; rw [if_neg c1] at hq
          by_cases c2 : w = nI 2
          · rw [if_pos c2]; rw [if_pos c2] at hq; exact ⟨Hi.1, hq⟩
          · rw [if_neg c2]; rw [if_neg c2] at hq
            refine ⟨Hi.1, ?_⟩
            rcases (show nightsF j (aL A) (5 + 2 * i) 8 = 0 ∨ nightsF j (aL A) (5 + 2 * i) 8 = 1 by omega) with e | e
            · rw [e] at hq ⊢; rw [if_pos nI_0]; rw [nI_0] at hq; exact hq
            · rw [e] at hq ⊢; rw [if_neg (by decide)]; exact hq
    · rw [if_neg g] at hQ
      rw [show ckA (inR v (aL A 0 4)) n 0 60 w (3 + 1) = ckA (inR v (aL A 0 4)) n 0 60 w 4 from rfl, if_neg g]
      exact x_refuse X (rf_of (ckA_c _ _ _ _ _ _) g) hQ
  refine ⟨l.1.1, x_noHead X (fun c => ?_) (fun c => ?_)⟩
  · exact T _ ⟨fun _ => c, fun _ => nI_0⟩
  · exact T _ ⟨fun q => absurd q (by decide), fun q => absurd q c⟩
theorem y_ckA {ok : Prop} [Decidable ok] {v w : Int32} {a b c : Nat} (hc : c < 2 ^ 28) {T : Int32 → Prop} (h1 : ok → T (ckA ok v a b w (c + 1))) (h0 : ¬ ok → T (-1)) : T (ckA ok v a b w (c + 1)) := by
  by_cases g : ok
  · exact h1 g
  · unfold ckA ckN
    simp only [if_neg g]
    rw [if_neg (by decide)]
    exact h0 g
theorem y_headThen (X : MI_ S h m A) {v n w : Int32} {Q : Int32 → Hp → Prop} (hQ : ∀ h', MI_ S h' m (headThenA A v n w).2 → FrY m h h' → Q (headThenA A v n w).1 h') : w_X7_headThen S m v n w h Q := by
  have l := X.1.1
  have h9 := X.2.2.2.2.2.2.1.2
  have h5 := X.1.2.2.1
  unfold headThenA at hQ
  have T : ∀ r, r = ckA (inR v (aL A 0 4)) n 0 60 w 4 → w_X7_headThen_c39 S m v n w r h Q := by
    intro r hr
    unfold w_X7_headThen_c39
    rw [← hr] at hQ
    by_cases g : r = 0
    · rw [if_pos g]
      rw [if_pos g] at hQ
      rw [hr] at g
      obtain ⟨g1, g2, g3⟩ := ckA_0 g
      obtain ⟨i, hi, rfl⟩ := inR_ex g1 (by omega)
      obtain ⟨j, -, hj, rfl⟩ := fN_0 (by decide) (by decide) g2
      rw [q_ix (by omega), q_ix (by omega)] at hQ
      refine ⟨l.1, y_minds X.1 (fun h1 T1 D1 => y_goes T1.1 (by omega) (fun h2 Y2 F2 => ?_))⟩
      have T2 := TH_M T1 Y2 F2
      have D2 := FrD_tr D1 (FrD_of F2)
      have hi2 : i < nightsF j (aL A) 0 4 := by rw [(nightsF_0 j (aL A)).1]; exact hi
      rw [lr6 l, lr7 l, lr9 l, lr10 l, q_ix (by omega), MLe Y2 hi2 (show KC 4 7 by unfold KC; omega), MLe Y2 hi2 (show KC 5 8 by unfold KC; omega), MLe Y2 hi2 (show KC 7 10 by unfold KC; omega), MLe Y2 hi2 (show KC 8 11 by unfold KC; omega)]
      unfold htF at hQ
      by_cases c0 : w = 0
      · rw [if_pos c0]; simp only [if_pos c0] at hQ
        exact ⟨q_ain (la6 l) (by omega) (by decide), y_forgets T2 (fun h3 Y3 D3 => hQ h3 (MI_mind X Y3 (FrD_tr D2 D3)) (FrY_D (FrD_tr D2 D3)))⟩
      · rw [if_neg c0]; simp only [if_neg c0] at hQ
        by_cases c1 : w = nI 1
        · rw [if_pos c1]; simp only [if_pos c1] at hQ
          exact ⟨q_ain (la7 l) (by omega) (by decide), y_forgets T2 (fun h3 Y3 D3 => hQ h3 (MI_mind X Y3 (FrD_tr D2 D3)) (FrY_D (FrD_tr D2 D3)))⟩
        · rw [if_neg c1]; simp only [if_neg c1] at hQ
          by_cases c2 : w = nI 2
          · rw [if_pos c2]; simp only [if_pos c2] at hQ
            exact ⟨q_ain (la9 l) (by omega) (by decide), y_forgets T2 (fun h3 Y3 D3 => hQ h3 (MI_mind X Y3 (FrD_tr D2 D3)) (FrY_D (FrD_tr D2 D3)))⟩
          · rw [if_neg c2]; simp only [if_neg c2] at hQ
            exact ⟨q_ain (la10 l) (by omega) (by decide), y_forgets T2 (fun h3 Y3 D3 => hQ h3 (MI_mind X Y3 (FrD_tr D2 D3)) (FrY_D (FrD_tr D2 D3)))⟩
    · rw [if_neg g]
      rw [if_neg g] at hQ
      have := ckA_c (inR v (aL A 0 4)) n 0 60 w 4
      rw [← hr] at this
      exact ⟨l.1, y_no X (rf_of this g) hQ⟩
  unfold w_X7_headThen
  refine ⟨l.1, y_isHead X.1 (fun c => ?_) (fun c => ?_)⟩
  · rw [if_neg (by decide)]
    refine y_bound ?_
    have e : ckN (inR v (aL A 0 4)) n 0 60 = fN n 0 60 := by unfold ckN; rw [if_pos c]
    by_cases g : fN n 0 60 = 0
    · rw [if_pos g]
      refine y_isIn (fun c2 => ?_) (fun c2 => ?_)
      · rw [if_neg (by decide)]
        refine T _ ?_
        unfold ckA; rw [e, if_pos g, if_pos ((inR_le (by decide)).mp c2), g]
      · rw [if_pos (by decide)]
        refine T _ ?_
        unfold ckA; rw [e, if_pos g, if_neg (fun q => c2 ((inR_le (by decide)).mpr q))]
    · rw [if_neg g]
      refine T _ ?_
      unfold ckA; rw [e, if_neg g]
  · rw [if_pos (by decide)]
    refine T _ ?_
    have e : ckN (inR v (aL A 0 4)) n 0 60 = -1 := by unfold ckN; rw [if_neg c]
    unfold ckA; rw [e, if_neg (by decide)]
theorem op_headThen (H : SI S h x A) {v n w : Int32} {Q : Int32 → Int32 → Hp → Prop} (hQ : ∀ r A' h', SI S h' x A' → Q r r h') : w_X6_headThen S x v n w h (fun r h1 => w_X7_headThen S (x + 180) v n w h1 (fun r' h2 => Q r r' h2)) :=
  x_headThen H.1 (fun h1 X1 F1 => y_headThen (SI_m H F1) (fun h2 Y2 F2 => hQ _ _ h2 (SI_mk X1 Y2 F2)))
/-- then -/
def thF (L : Ld) (w : Int32) : Int32 := if w = 0 then nI (L 0 6) else if w = nI 1 then nI (setF L) else if w = nI 2 then nI (pplF L) else nI (walF L)
def thenA (A : Ab) (n w : Int32) : Int32 × Ab := if ckA True n 0 60 w 4 = 0 then (thF (nightsF (ix n) (aL A)) w, A) else rfA A (ckA True n 0 60 w 4)
theorem x_then (X : XI S h x A) {n w : Int32} {Q : Int32 → Hp → Prop} (hQ : ∀ h', XI S h' x (thenA A n w).2 → FrX x h h' → Q (thenA A n w).1 h') : w_X6_then S x n w h Q := by
  have l := X.1
  unfold w_X6_then
  unfold thenA at hQ
  refine x_faultA (by decide) ?_
  rw [ckA_iff (show (nI 0 = 0) ↔ True from ⟨fun _ => trivial, fun _ => nI_0⟩)]
  by_cases g : ckA True n 0 60 w 4 = 0
  · rw [if_pos g] at hQ
    rw [show ckA True n 0 60 w (3 + 1) = 0 from g, if_pos rfl]
    obtain ⟨-, g2, g3⟩ := ckA_0 g
    obtain ⟨j, -, hj, rfl⟩ := fN_0 (by decide) (by decide) g2
    rw [q_ix (by omega)] at hQ
    rw [l.1.2.2.2.2.2.1, l.1.2.1]
    refine ⟨l.1.1, l.2.2.2.2.1.1, x_behind X hj (fun h8 X8 Y8 F8 => ?_)⟩
    have lt := l.2.1.2.2.1
    have hq := hQ h8 X8 F8
    unfold thF at hq
    rw [show (nI 0 : Int32) = 0 from nI_0]
    by_cases c0 : w = 0
    · rw [if_pos c0]; rw [if_pos c0] at hq
      rw [Y8.2.1.1.2.2]; exact ⟨lt.1, hq⟩
    · rw [if_neg c0]; rw [if_neg c0] at hq
      by_cases c1 : w = nI 1
      · rw [if_pos c1]; rw [if_pos c1] at hq; exact ⟨lt.1, x_setBits Y8 hq⟩
      · rw [if_neg c1]; rw [if_neg c1] at hq
        by_cases c2 : w = nI 2
        · rw [if_pos c2]; rw [if_pos c2] at hq; exact ⟨lt.1, x_people Y8 hq⟩
        · rw [if_neg c2]; rw [if_neg c2] at hq; exact ⟨lt.1, x_walls Y8 hq⟩
  · rw [if_neg g] at hQ
    rw [show ckA True n 0 60 w (3 + 1) = ckA True n 0 60 w 4 from rfl, if_neg g]
    exact ⟨l.1.1, x_refuse X (rf_of (ckA_c _ _ _ _ _ _) g) hQ⟩
theorem y_then (X : MI_ S h m A) {n w : Int32} {Q : Int32 → Hp → Prop} (hQ : ∀ h', MI_ S h' m (thenA A n w).2 → FrY m h h' → Q (thenA A n w).1 h') : w_X7_then S m n w h Q := by
  have l := X.1.1
  have h9 := X.2.2.2.2.2.2.1.2
  unfold thenA at hQ
  have T : ∀ r, r = ckA True n 0 60 w 4 → w_X7_then_c24 S m n w r h Q := by
    intro r hr
    unfold w_X7_then_c24
    rw [← hr] at hQ
    by_cases g : r = 0
    · rw [if_pos g]
      rw [if_pos g] at hQ
      rw [hr] at g
      obtain ⟨-, g2, g3⟩ := ckA_0 g
      obtain ⟨j, -, hj, rfl⟩ := fN_0 (by decide) (by decide) g2
      rw [q_ix (by omega)] at hQ
      refine ⟨l.1, y_minds X.1 (fun h1 T1 D1 => y_goes T1.1 (by omega) (fun h2 Y2 F2 => ?_))⟩
      have T2 := TH_M T1 Y2 F2
      have D2 := FrD_tr D1 (FrD_of F2)
      have fin : ∀ r : Int32, r = thF (nightsF j (aL A)) w → w_X7_forgets S m h2 (fun h14 => Q r h14) := fun r er => y_forgets T2 (fun h3 Y3 D3 => by rw [er]; exact hQ h3 (MI_mind X Y3 (FrD_tr D2 D3)) (FrY_D (FrD_tr D2 D3)))
      unfold thF at fin
      by_cases c0 : w = 0
      · rw [if_pos c0, Y2.2.1.1.2.2]
        exact fin _ (by rw [if_pos c0])
      · rw [if_neg c0]
        by_cases c1 : w = nI 1
        · rw [if_pos c1]
          exact y_setBits Y2 (fin _ (by rw [if_neg c0, if_pos c1]))
        · rw [if_neg c1]
          by_cases c2 : w = nI 2
          · rw [if_pos c2]
            exact y_people Y2 (fin _ (by rw [if_neg c0, if_neg c1, if_pos c2]))
          · rw [if_neg c2]
            exact y_walls Y2 (fin _ (by rw [if_neg c0, if_neg c1, if_neg c2]))
    · rw [if_neg g]
      rw [if_neg g] at hQ
      have := ckA_c True n 0 60 w 4
      rw [← hr] at this
      exact ⟨l.1, y_no X (rf_of this g) hQ⟩
  unfold w_X7_then
  refine y_bound ?_
  have e : ckN True n 0 60 = fN n 0 60 := by unfold ckN; rw [if_pos trivial]
  by_cases g : fN n 0 60 = 0
  · rw [if_pos g]
    refine y_isIn (fun c2 => ?_) (fun c2 => ?_)
    · rw [if_neg (by decide)]
      refine T _ ?_
      unfold ckA; rw [e, if_pos g, if_pos ((inR_le (by decide)).mp c2), g]
    · rw [if_pos (by decide)]
      refine T _ ?_
      unfold ckA; rw [e, if_pos g, if_neg (fun q => c2 ((inR_le (by decide)).mpr q))]
  · rw [if_neg g]
    refine T _ ?_
    unfold ckA; rw [e, if_neg g]
theorem op_then (H : SI S h x A) {n w : Int32} {Q : Int32 → Int32 → Hp → Prop} (hQ : ∀ r A' h', SI S h' x A' → Q r r h') : w_X6_then S x n w h (fun r h1 => w_X7_then S (x + 180) n w h1 (fun r' h2 => Q r r' h2)) :=
  x_then H.1 (fun h1 X1 F1 => y_then (SI_m H F1) (fun h2 Y2 F2 => hQ _ _ h2 (SI_mk X1 Y2 F2)))
/-- count -/
def countF (A : Ab) (w : Int32) : Int32 := if w = nI 0 then nI (aL A 0 4) else if w = nI 1 then nI (aL A 0 5) else if w = nI 2 then nI (aL A 0 6) else if w = nI 3 then nI (setF (aL A)) else if w = nI 4 then nI (allF (aL A)) else if w = nI 5 then nI (pplF (aL A)) else if w = nI 6 then nI (walF (aL A)) else if w = nI 7 then nI (aK A) else if w = nI 8 then nI (aR A) else if w = nI 9 then nI (aN A) else if nI 11 ≤ w ∧ w ≤ nI 16 then nI (aF A (ix (w - nI 10))) else -9
theorem x_count (X : XI S h x A) {w : Int32} {Q : Int32 → Hp → Prop} (hQ : Q (countF A w) h) : w_X6_count S x w h Q := by
  have l := X.1
  have Y := X.2.1
  unfold w_X6_count
  rw [l.1.2.1, l.1.2.2.2.1, l.1.2.2.2.2.1, l.1.2.2.2.2.2.2.2.2, Y.2.1.1.1, Y.2.1.1.2.1, Y.2.1.1.2.2, X.2.2.2.2.1.1, X.2.2.2.2.2.1.1, X.2.2.2.1.1]
  unfold countF at hQ
  have o := l.1.1
  have o1 := l.2.1.1.1
  by_cases c0 : w = nI 0
  · rw [if_pos c0]; rw [if_pos c0] at hQ; exact ⟨o, o1, hQ⟩
  rw [if_neg c0]; rw [if_neg c0] at hQ
  by_cases c1 : w = nI 1
  · rw [if_pos c1]; rw [if_pos c1] at hQ; exact ⟨o, o1, hQ⟩
  rw [if_neg c1]; rw [if_neg c1] at hQ
  by_cases c2 : w = nI 2
  · rw [if_pos c2]; rw [if_pos c2] at hQ; exact ⟨o, o1, hQ⟩
  rw [if_neg c2]; rw [if_neg c2] at hQ
  by_cases c3 : w = nI 3
  · rw [if_pos c3]; rw [if_pos c3] at hQ; exact ⟨o, o1, x_setBits Y hQ⟩
  rw [if_neg c3]; rw [if_neg c3] at hQ
  by_cases c4 : w = nI 4
  · rw [if_pos c4]; rw [if_pos c4] at hQ; exact ⟨o, o1, x_all Y hQ⟩
  rw [if_neg c4]; rw [if_neg c4] at hQ
  by_cases c5 : w = nI 5
  · rw [if_pos c5]; rw [if_pos c5] at hQ; exact ⟨o, o1, x_people Y hQ⟩
  rw [if_neg c5]; rw [if_neg c5] at hQ
  by_cases c6 : w = nI 6
  · rw [if_pos c6]; rw [if_pos c6] at hQ; exact ⟨o, o1, x_walls Y hQ⟩
  rw [if_neg c6]; rw [if_neg c6] at hQ
  by_cases c7 : w = nI 7
  · rw [if_pos c7]; rw [if_pos c7] at hQ; exact ⟨o, l.2.2.2.1.1, hQ⟩
  rw [if_neg c7]; rw [if_neg c7] at hQ
  by_cases c8 : w = nI 8
  · rw [if_pos c8]; rw [if_pos c8] at hQ; exact ⟨o, hQ⟩
  rw [if_neg c8]; rw [if_neg c8] at hQ
  by_cases c9 : w = nI 9
  · rw [if_pos c9]; rw [if_pos c9] at hQ; exact ⟨o, l.2.2.1.1, hQ⟩
  rw [if_neg c9]; rw [if_neg c9] at hQ
  by_cases d1 : w < nI 11
  · rw [if_pos d1]; rw [if_neg (fun q => absurd d1 (Int32.not_lt.mpr q.1))] at hQ; exact hQ
  rw [if_neg d1]
  by_cases d2 : nI 16 < w
  · rw [if_pos d2]; rw [if_neg (fun q => absurd d2 (Int32.not_lt.mpr q.2))] at hQ; exact hQ
  rw [if_neg d2]
  rw [if_pos ⟨Int32.not_lt.mp d1, Int32.not_lt.mp d2⟩] at hQ
  have w0 : ¬ w < 0 := fun q => d1 (Int32.lt_of_lt_of_le q (nI_pos' (by decide)))
  obtain ⟨j, hj, rfl⟩ := nI_of w0
  rw [q_lt hj (by decide)] at d1
  rw [q_lt (by decide) hj] at d2
  rw [q_sub (by omega), q_ix (by omega)] at hQ ⊢
  rw [X.2.2.2.2.2.2.1 _ (by omega) (by omega)]
  exact ⟨o, q_ain l.2.2.2.2.2.2.2.1 (by omega) (by decide), hQ⟩
theorem y_count (X : MI_ S h m A) {w : Int32} {Q : Int32 → Hp → Prop} (hQ : Q (countF A w) h) : w_X7_count S m w h Q := by
  have l := X.1.1
  have o := l.1
  unfold w_X7_count
  have ec : ∀ k, k ≤ 10 → ¬ (nI 11 ≤ nI k ∧ nI k ≤ nI 16) := fun k hk q => by
    have := q.1; rw [q_le (by decide) (by omega)] at this; omega
  unfold countF at hQ
  refine y_isIn (fun c => ?_) (fun c => ?_)
  · rw [if_neg (by decide)]
    have w0 : ¬ w < 0 := fun q => absurd (Int32.lt_of_lt_of_le q (nI_pos' (show 11 < 2 ^ 31 by decide))) (Int32.not_lt.mpr c.1)
    obtain ⟨j, hj, rfl⟩ := nI_of w0
    have c1 := c.1
    have c2 := c.2
    rw [q_le (by decide) hj] at c1
    rw [q_le hj (by decide)] at c2
    simp only [q_eq hj (show 0 < 2 ^ 31 by decide), q_eq hj (show 1 < 2 ^ 31 by decide), q_eq hj (show 2 < 2 ^ 31 by decide), q_eq hj (show 3 < 2 ^ 31 by decide), q_eq hj (show 4 < 2 ^ 31 by decide), q_eq hj (show 5 < 2 ^ 31 by decide), q_eq hj (show 6 < 2 ^ 31 by decide), q_eq hj (show 7 < 2 ^ 31 by decide), q_eq hj (show 8 < 2 ^ 31 by decide), q_eq hj (show 9 < 2 ^ 31 by decide)] at hQ
    rw [if_neg (by omega), if_neg (by omega), if_neg (by omega), if_neg (by omega), if_neg (by omega), if_neg (by omega), if_neg (by omega), if_neg (by omega), if_neg (by omega), if_neg (by omega), if_pos c] at hQ
    rw [q_sub (by omega), q_ix (by omega)] at hQ ⊢
    rw [lr0 l, X.2.2.2.2.2.1 _ (by omega) (by omega)]
    exact ⟨o, q_ain (la0 l) (by omega) (by decide), hQ⟩
  · rw [if_pos (by decide)]
    rw [if_neg c] at hQ
    by_cases c0 : w = nI 0
    · rw [if_pos c0]; rw [if_pos c0] at hQ; rw [X.1.2.1.1.1]; exact ⟨o, hQ⟩
    rw [if_neg c0]; rw [if_neg c0] at hQ
    by_cases c1 : w = nI 1
    · rw [if_pos c1, X.1.2.1.1.2.1]; rw [if_pos c1] at hQ; exact ⟨o, hQ⟩
    rw [if_neg c1]; rw [if_neg c1] at hQ
    by_cases c2 : w = nI 2
    · rw [if_pos c2, X.1.2.1.1.2.2]; rw [if_pos c2] at hQ; exact ⟨o, hQ⟩
    rw [if_neg c2]; rw [if_neg c2] at hQ
    by_cases c3 : w = nI 3
    · rw [if_pos c3]; rw [if_pos c3] at hQ; exact ⟨o, y_setBits X.1 hQ⟩
    rw [if_neg c3]; rw [if_neg c3] at hQ
    by_cases c4 : w = nI 4
    · rw [if_pos c4]; rw [if_pos c4] at hQ; exact ⟨o, y_all X.1 hQ⟩
    rw [if_neg c4]; rw [if_neg c4] at hQ
    by_cases c5 : w = nI 5
    · rw [if_pos c5]; rw [if_pos c5] at hQ; exact ⟨o, y_people X.1 hQ⟩
    rw [if_neg c5]; rw [if_neg c5] at hQ
    by_cases c6 : w = nI 6
    · rw [if_pos c6]; rw [if_pos c6] at hQ; exact ⟨o, y_walls X.1 hQ⟩
    rw [if_neg c6]; rw [if_neg c6] at hQ
    by_cases c7 : w = nI 7
    · rw [if_pos c7, X.2.2.2.1.1]; rw [if_pos c7] at hQ; exact ⟨o, hQ⟩
    rw [if_neg c7]; rw [if_neg c7] at hQ
    by_cases c8 : w = nI 8
    · rw [if_pos c8, X.2.2.2.2.1.1]; rw [if_pos c8] at hQ; exact ⟨o, hQ⟩
    rw [if_neg c8]; rw [if_neg c8] at hQ
    by_cases c9 : w = nI 9
    · rw [if_pos c9, X.2.2.1.1]; rw [if_pos c9] at hQ; exact ⟨o, hQ⟩
    rw [if_neg c9]; rw [if_neg c9] at hQ
    exact hQ
theorem op_count (H : SI S h x A) {w : Int32} {Q : Int32 → Int32 → Hp → Prop} (hQ : ∀ r A' h', SI S h' x A' → Q r r h') : w_X6_count S x w h (fun r h1 => w_X7_count S (x + 180) w h1 (fun r' h2 => Q r r' h2)) :=
  x_count H.1 (y_count H.2 (hQ _ _ h H))
end THEN
