/-! PURE: named, walls, folk, nights, image, restore, feed -/
theorem fN_neg {v : Int32} (h : v < 0) (b : Nat) : fN v 0 b = -4 := by unfold fN; rw [if_pos (show v < nI 0 from h)]
theorem fN_nI {j b : Nat} (hj : j < 2 ^ 31) (hb : b < 2 ^ 31) : fN (nI j) 0 b = if b < j then -6 else 0 := by
  unfold fN
  rw [if_neg (show ¬ nI j < nI 0 from nI_pos hj)]
  simp only [q_lt hb hj]
theorem q_26 {v : Int32} (h : ¬ v < 0) (b : Nat) (hb : b < 2 ^ 30) : nI (b + 1) ≤ v ↔ nI b < v := by
  obtain ⟨j, hj, rfl⟩ := nI_of h
  rw [q_le (by omega) hj, q_lt (by omega) hj]; omega
section SETTERS2
variable {S : St} {h h' : Hp} {x m : Nat} {A : Ab}
theorem x_noX {Q : Int32 → Hp → Prop} {c : Int32} (X : XI S h x A) (hc : rfok c) (hQ : ∀ h', XI S h' x (rfA A c).2 → FrX x h h' → Q (rfA A c).1 h') : w_X6_refuse S x c h (fun r h => Q r h) := x_refuse X hc hQ
def namedA (A : Ab) (v w : Int32) : Int32 × Ab := if ckN (inR v (aL A 0 4)) w 0 25 = 0 then (if aL A (5 + 2 * ix v) 3 = 6 then rfA A (-6) else (nI (aL A (5 + 2 * ix v) 3 + 1), sL (pushA A) (adL (aL A) (ix v) (ix w)))) else rfA A (ckN (inR v (aL A 0 4)) w 0 25)
theorem x_named (X : XI S h x A) {v w : Int32} {Q : Int32 → Hp → Prop} (hQ : ∀ h', XI S h' x (namedA A v w).2 → FrX x h h' → Q (namedA A v w).1 h') : w_X6_named S x v w h Q := by
  have l := X.1
  have h5 := X.2.2.2.2.2.2.2.1.1.1
  have l1 := l.2.1.1
  unfold w_X6_named
  unfold namedA at hQ
  refine ⟨l.1.1, x_noHead X (fun c => ?_) (fun c => ?_)⟩
  · rw [if_pos (by decide)]
    have e : ckN (inR v (aL A 0 4)) w 0 25 = fN w 0 25 := by unfold ckN; rw [if_pos c]
    rw [e] at hQ
    obtain ⟨i, hi, rfl⟩ := inR_ex c (by omega)
    by_cases c1 : w < 0
    · rw [if_neg (fun q => absurd c1 (Int32.not_lt.mpr q))]
      rw [fN_neg c1, if_neg (by decide)] at hQ
      exact x_refuse X (by unfold rfok; decide) hQ
    · rw [if_pos (Int32.not_lt.mp c1), l.1.2.1, l1.2.1.2.2.2, q_ix (by omega), (l1.2.2.2 i (by omega)).1]
      obtain ⟨j, hj, rfl⟩ := nI_of c1
      simp only [q_le (show 26 < 2 ^ 31 by decide) hj]
      rw [fN_nI hj (by decide)] at hQ
      refine ⟨l1.1, q_rin l1.2.2.1.2.2.2 (by omega) (by decide), ?_⟩
      by_cases c2 : 26 ≤ j
      · rw [if_pos c2]
        rw [if_pos (show 25 < j by omega), if_neg (by decide)] at hQ
        exact x_refuse X (by unfold rfok; decide) hQ
      · rw [if_neg c2]
        rw [if_neg (show ¬ 25 < j by omega), if_pos rfl, q_ix (by omega), q_ix (by omega)] at hQ
        have Hi := XLhd X.2.1 hi
        refine ⟨Hi.1, x_hasFull Hi (fun e6 => ?_) (fun e6 => ?_)⟩
        · rw [if_neg (by decide)]
          rw [if_pos e6] at hQ
          exact x_refuse X (by unfold rfok; decide) hQ
        · rw [if_pos (by decide), l.1.2.2.2.1]
          rw [if_neg (by omega)] at hQ
          refine ⟨l.2.2.1.1, x_keep X (fun h8 X8 F8 => x_lengthen (XLhd X8.2.1 hi) e6 ?_)⟩
          rw [up_same]
          refine hQ _ ?_ (fun a q g => by rw [up_ne (by omega), up_ne (by omega)]; exact F8 a q g)
          have Y := XLadd X8.2.1 (i := i) (c := j) hi e6 (by omega)
          exact XI_now X8 Y (fun a q g => by rw [up_ne (by omega), up_ne (by omega)]) (by unfold adL; rw [updL_ne (by omega), updL_ne (by omega)]; exact X8.2.2.2.2.2.2.2.1.2)
  · rw [if_neg (by decide)]
    have e : ckN (inR v (aL A 0 4)) w 0 25 = -1 := by unfold ckN; rw [if_neg c]
    rw [e, if_neg (by decide)] at hQ
    exact x_refuse X (by unfold rfok; decide) hQ
theorem y_named (X : MI_ S h m A) {v w : Int32} {Q : Int32 → Hp → Prop} (hQ : ∀ h', MI_ S h' m (namedA A v w).2 → FrY m h h' → Q (namedA A v w).1 h') : w_X7_named S m v w h Q := by
  have l := X.1.1
  have h5 := X.1.2.2.1
  unfold w_X7_named
  unfold namedA at hQ
  refine ⟨l.1, y_isHead X.1 (fun c => ?_) (fun c => ?_)⟩
  · rw [if_neg (by decide)]
    have e : ckN (inR v (aL A 0 4)) w 0 25 = fN w 0 25 := by unfold ckN; rw [if_pos c]
    rw [e] at hQ
    refine y_bound ?_
    unfold w_X7_named_c19
    by_cases g : fN w 0 25 = 0
    · rw [if_pos g]
      rw [if_pos g] at hQ
      obtain ⟨i, hi, rfl⟩ := inR_ex c (by omega)
      obtain ⟨j, hj1, hj, rfl⟩ := fN_0 (by decide) (by decide) g
      rw [q_ix (by omega), q_ix (by omega)] at hQ
      have b3 := (MLb X.1 hi).2.2.1
      rw [lr11 l, q_ix (by omega), MLe X.1 hi (show KC 3 12 by unfold KC; omega)]
      simp only [q_eq (show aL A (5 + 2 * i) 3 < 2 ^ 31 by omega) (show 6 < 2 ^ 31 by decide)]
      refine ⟨l.1, q_ain (la11 l) (by omega) (by decide), ?_⟩
      by_cases c6 : aL A (5 + 2 * i) 3 = 6
      · rw [if_pos c6]
        rw [if_pos c6] at hQ
        exact y_no X (by unfold rfok; decide) hQ
      · rw [if_neg c6]
        rw [if_neg c6] at hQ
        refine y_remembers X (fun h8 X8 F8 => y_puts (show ML_ S h8 m (aL A) from X8.1) hi (by omega) (show j ≤ 25 by omega) (fun h9 Y9 F9 => ?_))
        have e0 : adL (aL A) i j 0 4 = aL A 0 4 := by unfold adL; rw [updL_ne (by omega), updL_ne (by omega)]
        rw [MLe Y9 (show i < adL (aL A) i j 0 4 by omega) (show KC 3 12 by unfold KC; omega)]
        rw [show adL (aL A) i j (5 + 2 * i) 3 = aL A (5 + 2 * i) 3 + 1 by unfold adL; rw [updL_same]]
        exact hQ _ (MI_rest X8 Y9 (by unfold adL; rw [updL_ne (by omega), updL_ne (by omega)]; exact X8.2.2.2.2.2.2.1.2) (FrD_of F9)) (FrY_tr F8 (FrY_M F9))
    · rw [if_neg g]
      rw [if_neg g] at hQ
      exact ⟨l.1, y_no X (rf_of (fN_c _ _ _) g) hQ⟩
  · rw [if_pos (by decide)]
    have e : ckN (inR v (aL A 0 4)) w 0 25 = -1 := by unfold ckN; rw [if_neg c]
    rw [e, if_neg (by decide)] at hQ
    unfold w_X7_named_c19
    rw [if_neg (by decide)]
    exact ⟨l.1, y_no X (by unfold rfok; decide) hQ⟩
theorem op_named (H : SI S h x A) {v w : Int32} {Q : Int32 → Int32 → Hp → Prop} (hQ : ∀ r A' h', SI S h' x A' → Q r r h') : w_X6_named S x v w h (fun r h1 => w_X7_named S (x + 180) v w h1 (fun r' h2 => Q r r' h2)) :=
  x_named H.1 (fun h1 X1 F1 => y_named (SI_m H F1) (fun h2 Y2 F2 => hQ _ _ h2 (SI_mk X1 Y2 F2)))
def wallsA (A : Ab) (v w : Int32) : Int32 × Ab := if ckN (inR v 48) w 0 9 = 0 then (nI (aL A 1 (ix v)), sL (pushA A) (updL (aL A) 1 (ix v) (ix w))) else rfA A (ckN (inR v 48) w 0 9)
theorem x_setWall (X : XI S h x A) {v w : Int32} {Q : Int32 → Hp → Prop} (hQ : ∀ h', XI S h' x (wallsA A v w).2 → FrX x h h' → Q (wallsA A v w).1 h') : w_X6_walls S x v w h Q := by
  have l := X.1
  have l1 := l.2.1.1
  unfold w_X6_walls
  unfold wallsA at hQ
  have T : ∀ nb : Int32, (nb = 0 ↔ inR v 48) → w_X6_faultOfNumber S nb w (nI 0) (nI 9) h (fun r4 h3 => (if r4 = 0 then (ob S x 6 ∧ (ob S (S.2 x 3) 3 ∧ (w_X3_keep S (S.2 x 3) (S.2 x 0) h3 (fun h8 => (ob S (S.2 x 0) 1 ∧ (ain S (S.2 (S.2 x 0) 0) v ∧ (Q (h8 (S.2 (S.2 x 0) 0) (ix v)) (up h8 (S.2 (S.2 x 0) 0) (ix v) w)))))))) else (ob S x 6 ∧ (w_X6_refuse S x r4 h3 (fun r13 h12 => (Q r13 h12)))))) := by
    intro nb hnb
    refine x_faultN ?_
    rw [ckN_iff hnb]
    by_cases g : ckN (inR v 48) w 0 9 = 0
    · rw [if_pos g]
      rw [if_pos g] at hQ
      obtain ⟨g1, g3⟩ := ckN_0 g
      obtain ⟨f, hf, rfl⟩ := inR_ex g1 (by omega)
      obtain ⟨j, hj1, hj, rfl⟩ := fN_0 (by decide) (by decide) g3
      rw [q_ix (by omega), q_ix (by omega)] at hQ
      rw [l.1.2.2.2.1, l.1.2.1, l1.2.1.1, q_ix (by omega)]
      refine ⟨l.1.1, l.2.2.1.1, x_keep X (fun h8 X8 F8 => ?_)⟩
      rw [(X8.2.1.2.1.2.1 f hf).1]
      refine ⟨l1.1, q_ain l1.2.2.1.1 hf (by decide), hQ _ ?_ (fun a q g => by rw [up_ne (by omega)]; exact F8 a q g)⟩
      exact XI_now X8 (XLsetF X8.2.1 (o := 1) (Or.inl rfl) hf (Or.inl hj)) (Fr_up Fr_rf (by omega)) (by rw [updL_ne (by omega)]; exact X8.2.2.2.2.2.2.2.1.2)
    · rw [if_neg g]
      rw [if_neg g] at hQ
      exact ⟨l.1.1, x_refuse X (rf_of (ckN_c _ _ _ _) g) hQ⟩
  refine x_noField (fun c => ?_) (fun c => ?_)
  · exact T _ ⟨fun _ => c, fun _ => nI_0⟩
  · exact T _ ⟨fun q => absurd q (by decide), fun q => absurd q c⟩
theorem y_setWall (X : MI_ S h m A) {v w : Int32} {Q : Int32 → Hp → Prop} (hQ : ∀ h', MI_ S h' m (wallsA A v w).2 → FrY m h h' → Q (wallsA A v w).1 h') : w_X7_walls S m v w h Q := by
  have l := X.1.1
  unfold w_X7_walls
  unfold wallsA at hQ
  refine y_isField (fun c => ?_) (fun c => ?_)
  · rw [if_neg (by decide)]
    have e : ckN (inR v 48) w 0 9 = fN w 0 9 := by unfold ckN; rw [if_pos c]
    rw [e] at hQ
    refine y_bound ?_
    by_cases g : fN w 0 9 = 0
    · rw [if_pos g]
      rw [if_pos g] at hQ
      obtain ⟨f, hf, rfl⟩ := inR_ex c (by omega)
      obtain ⟨j, hj1, hj, rfl⟩ := fN_0 (by decide) (by decide) g
      rw [q_ix (by omega), q_ix (by omega)] at hQ
      rw [lr1 l, q_ix (by omega)]
      refine ⟨l.1, y_remembers X (fun h8 X8 F8 => ?_)⟩
      rw [(X8.1.2.1.2.1 f hf).1]
      refine ⟨q_ain (la1 l) hf (by decide), hQ _ ?_ (FrY_tr F8 (FrY_up FrY_rf (by omega)))⟩
      exact MI_rest X8 (MLsetF X8.1 (o := 1) (Or.inl rfl) hf (Or.inl hj)) (by rw [updL_ne (by omega)]; exact X8.2.2.2.2.2.2.1.2) (FrD_of (FrM_up FrM_rf (by omega)))
    · rw [if_neg g]
      rw [if_neg g] at hQ
      exact ⟨l.1, y_no X (rf_of (fN_c _ _ _) g) hQ⟩
  · rw [if_pos (by decide)]
    have e : ckN (inR v 48) w 0 9 = -1 := by unfold ckN; rw [if_neg c]
    rw [e, if_neg (by decide)] at hQ
    exact ⟨l.1, y_no X (by unfold rfok; decide) hQ⟩
theorem op_walls (H : SI S h x A) {v w : Int32} {Q : Int32 → Int32 → Hp → Prop} (hQ : ∀ r A' h', SI S h' x A' → Q r r h') : w_X6_walls S x v w h (fun r h1 => w_X7_walls S (x + 180) v w h1 (fun r' h2 => Q r r' h2)) :=
  x_setWall H.1 (fun h1 X1 F1 => y_setWall (SI_m H F1) (fun h2 Y2 F2 => hQ _ _ h2 (SI_mk X1 Y2 F2)))
def folkA (A : Ab) (v p q : Int32) : Int32 × Ab := if inR v 48 then (if p < 0 ∨ q < 0 then rfA A (-4) else if nI 9 < p ∨ nI 25 < q then rfA A (-6) else (nI (10 * aL A 3 (ix v) + aL A 2 (ix v)), sL (pushA A) (updL (updL (aL A) 2 (ix v) (ix p)) 3 (ix v) (ix q)))) else rfA A (-1)
theorem x_folk (X : XI S h x A) {v p q : Int32} {Q : Int32 → Hp → Prop} (hQ : ∀ h', XI S h' x (folkA A v p q).2 → FrX x h h' → Q (folkA A v p q).1 h') : w_X6_folk S x v p q h Q := by
  have l := X.1
  have l1 := l.2.1.1
  unfold w_X6_folk
  unfold folkA at hQ
  refine x_noField (fun c => ?_) (fun c => ?_)
  · rw [if_pos (by decide)]
    rw [if_pos c] at hQ
    by_cases c1 : p < 0
    · rw [if_pos c1]
      rw [if_pos (Or.inl c1)] at hQ
      exact ⟨l.1.1, x_refuse X (by unfold rfok; decide) hQ⟩
    · rw [if_neg c1]
      by_cases c2 : q < 0
      · rw [if_neg (fun g => absurd c2 (Int32.not_lt.mpr g))]
        rw [if_pos (Or.inr c2)] at hQ
        exact ⟨l.1.1, x_refuse X (by unfold rfok; decide) hQ⟩
      · rw [if_pos (Int32.not_lt.mp c2)]
        rw [if_neg (fun g => g.elim c1 c2)] at hQ
        by_cases c3 : nI 9 < p
        · rw [if_pos c3]
          rw [if_pos (Or.inl c3)] at hQ
          exact ⟨l.1.1, x_refuse X (by unfold rfok; decide) hQ⟩
        · rw [if_neg c3]
          by_cases c4 : nI 25 < q
          · rw [if_neg (fun g => absurd ((q_26 c2 25 (by decide)).mpr c4) (Int32.not_le.mpr g))]
            rw [if_pos (Or.inr c4)] at hQ
            exact ⟨l.1.1, x_refuse X (by unfold rfok; decide) hQ⟩
          · rw [if_pos (Int32.not_le.mp (fun g => c4 ((q_26 c2 25 (by decide)).mp g)))]
            rw [if_neg (fun g => g.elim c3 c4)] at hQ
            obtain ⟨f, hf, rfl⟩ := inR_ex c (by omega)
            obtain ⟨i, hi, rfl⟩ := nI_of c1
            obtain ⟨j, hj, rfl⟩ := nI_of c2
            rw [q_lt (by decide) hi] at c3
            rw [q_lt (by decide) hj] at c4
            rw [q_ix (by omega), q_ix (by omega), q_ix (by omega)] at hQ
            rw [l.1.2.2.2.1, l.1.2.1, l1.2.1.2.1, l1.2.1.2.2.1, q_ix (by omega)]
            refine ⟨l.1.1, l.2.2.1.1, x_keep X (fun h8 X8 F8 => ?_)⟩
            rw [(X8.2.1.2.1.2.1 f hf).2.1, (X8.2.1.2.1.2.1 f hf).2.2, pk_mul, nI_add]
            refine ⟨l1.1, q_ain l1.2.2.1.2.2.1 hf (by decide), q_ain l1.2.2.1.2.1 hf (by decide), hQ _ ?_ (fun a q g => by rw [up_ne (by omega), up_ne (by omega)]; exact F8 a q g)⟩
            exact XI_now X8 (XLsetF (XLsetF X8.2.1 (o := 2) (Or.inr (Or.inl rfl)) hf (Or.inl (by omega))) (o := 3) (Or.inr (Or.inr rfl)) hf (Or.inr ⟨rfl, by omega⟩)) (Fr_up (Fr_up Fr_rf (by omega)) (by omega)) (by rw [updL_ne (by omega), updL_ne (by omega)]; exact X8.2.2.2.2.2.2.2.1.2)
  · rw [if_neg (by decide)]
    rw [if_neg c] at hQ
    exact ⟨l.1.1, x_refuse X (by unfold rfok; decide) hQ⟩
theorem y_folk (X : MI_ S h m A) {v p q : Int32} {Q : Int32 → Hp → Prop} (hQ : ∀ h', MI_ S h' m (folkA A v p q).2 → FrY m h h' → Q (folkA A v p q).1 h') : w_X7_folk S m v p q h Q := by
  have l := X.1.1
  unfold w_X7_folk w_X7_folk_c42
  unfold folkA at hQ
  refine y_isField (fun c => ?_) (fun c => ?_)
  · rw [if_neg (by decide)]
    rw [if_pos c] at hQ
    by_cases c1 : p < 0
    · rw [if_pos c1, if_neg (by decide)]
      rw [if_pos (Or.inl c1)] at hQ
      exact ⟨l.1, y_no X (by unfold rfok; decide) hQ⟩
    · rw [if_neg c1]
      by_cases c2 : q < 0
      · rw [if_neg (fun g => absurd c2 (Int32.not_lt.mpr g)), if_neg (by decide)]
        rw [if_pos (Or.inr c2)] at hQ
        exact ⟨l.1, y_no X (by unfold rfok; decide) hQ⟩
      · rw [if_pos (Int32.not_lt.mp c2)]
        rw [if_neg (fun g => g.elim c1 c2)] at hQ
        by_cases c3 : nI 9 < p
        · rw [if_pos c3, if_neg (by decide)]
          rw [if_pos (Or.inl c3)] at hQ
          exact ⟨l.1, y_no X (by unfold rfok; decide) hQ⟩
        · rw [if_neg c3]
          by_cases c4 : nI 25 < q
          · rw [if_neg (Int32.not_le.mpr c4), if_neg (by decide)]
            rw [if_pos (Or.inr c4)] at hQ
            exact ⟨l.1, y_no X (by unfold rfok; decide) hQ⟩
          · rw [if_pos (Int32.not_lt.mp c4), if_pos (by decide)]
            rw [if_neg (fun g => g.elim c3 c4)] at hQ
            obtain ⟨f, hf, rfl⟩ := inR_ex c (by omega)
            obtain ⟨i, hi, rfl⟩ := nI_of c1
            obtain ⟨j, hj, rfl⟩ := nI_of c2
            rw [q_lt (by decide) hi] at c3
            rw [q_lt (by decide) hj] at c4
            rw [q_ix (by omega), q_ix (by omega), q_ix (by omega)] at hQ
            rw [lr2 l, lr3 l, q_ix (by omega)]
            refine ⟨l.1, y_remembers X (fun h8 X8 F8 => ?_)⟩
            rw [(X8.1.2.1.2.1 f hf).2.1, (X8.1.2.1.2.1 f hf).2.2, pk_mul, nI_add]
            refine ⟨q_ain (la3 l) hf (by decide), q_ain (la2 l) hf (by decide), hQ _ ?_ (FrY_tr F8 (FrY_up (FrY_up FrY_rf (by omega)) (by omega)))⟩
            exact MI_rest X8 (MLsetF (MLsetF X8.1 (o := 2) (Or.inr (Or.inl rfl)) hf (Or.inl (by omega))) (o := 3) (Or.inr (Or.inr rfl)) hf (Or.inr ⟨rfl, by omega⟩)) (by rw [updL_ne (by omega), updL_ne (by omega)]; exact X8.2.2.2.2.2.2.1.2) (FrD_of (FrM_up (FrM_up FrM_rf (by omega)) (by omega)))
  · rw [if_pos (by decide), if_neg (by decide)]
    rw [if_neg c] at hQ
    exact ⟨l.1, y_no X (by unfold rfok; decide) hQ⟩
theorem op_folk (H : SI S h x A) {v p q : Int32} {Q : Int32 → Int32 → Hp → Prop} (hQ : ∀ r A' h', SI S h' x A' → Q r r h') : w_X6_folk S x v p q h (fun r h1 => w_X7_folk S (x + 180) v p q h1 (fun r' h2 => Q r r' h2)) :=
  x_folk H.1 (fun h1 X1 F1 => y_folk (SI_m H F1) (fun h2 Y2 F2 => hQ _ _ h2 (SI_mk X1 Y2 F2)))
end SETTERS2
