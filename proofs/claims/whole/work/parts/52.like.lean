/-! PURE: like -/
abbrev bI (v : Int32) (j : Nat) : Bool := v.toBitVec.getLsbD j
theorem q_b0 (j : Nat) : bI (nI 0) j = false := by
  show (0#32).getLsbD j = false
  simp
theorem q_bs : ∀ c, c < 31 → ∀ j, j < 32 → bI (ishl (nI 1) (nI c)) j = decide (j = c) := by decide +kernel
theorem q_bor (v : Int32) {c j : Nat} (hc : c < 31) (hj : j < 32) : bI (v ||| ishl (nI 1) (nI c)) j = (bI v j || decide (j = c)) := by
  have := q_bs c hc j hj
  unfold bI at this ⊢
  rw [Int32.toBitVec_or, BitVec.getLsbD_or, this]
theorem q_band (a b : Int32) (j : Nat) : bI (a &&& b) j = (bI a j && bI b j) := by
  unfold bI
  rw [Int32.toBitVec_and, BitVec.getLsbD_and]
theorem q_smod : ∀ j, j < 31 → ((nI j &&& 31).toBitVec.smod 32).toNat = j := by decide +kernel
theorem q_b1 : ∀ i, i < 32 → (nI 1).toBitVec.getLsbD i = decide (i = 0) := by decide +kernel
theorem q_bsh (v : Int32) {j : Nat} (hj : j < 31) : (ishr v (nI j) &&& nI 1) = nI (if bI v j = true then 1 else 0) := by
  have e : (ishr v (nI j)).toBitVec.getLsbD 0 = bI v j := by
    show (v >>> (nI j &&& 31)).toBitVec.getLsbD 0 = v.toBitVec.getLsbD j
    rw [Int32.toBitVec_shiftRight]
    show (v.toBitVec.sshiftRight ((nI j &&& 31).toBitVec.smod 32).toNat).getLsbD 0 = v.toBitVec.getLsbD j
    rw [q_smod j hj, BitVec.getLsbD_sshiftRight]
    simp; omega
  apply Int32.toBitVec_inj.mp
  apply BitVec.eq_of_getLsbD_eq
  intro i hi
  rw [Int32.toBitVec_and, BitVec.getLsbD_and, q_b1 i hi]
  by_cases i0 : i = 0
  · subst i0
    rw [e]
    cases c : bI v j
    · show (false && _) = (nI 0).toBitVec.getLsbD 0
      rfl
    · show (true && _) = (nI 1).toBitVec.getLsbD 0
      rfl
  · rw [decide_eq_false i0, Bool.and_false]
    cases c : bI v j
    · exact (q_b0 i).symm
    · show false = (nI 1).toBitVec.getLsbD i
      rw [q_b1 i hi, decide_eq_false i0]
theorem sumF_cg {f g : Nat → Nat} : ∀ n, (∀ i, i < n → f i = g i) → sumF f n = sumF g n
  | 0, _ => rfl
  | n + 1, h => by simp only [sumF]; rw [sumF_cg n (fun i hi => h i (by omega)), h n (by omega)]
theorem shF_sum (A N A' N' : Nat → Nat) : ∀ c, shF A N A' N' c = sumF (fun j => if hasF N j (A 3) = true ∧ hasF N' j (A' 3) = true then 1 else 0) c
  | 0 => rfl
  | c + 1 => by simp only [shF, sumF]; rw [shF_sum A N A' N' c]
theorem sumF_31 {f : Nat → Nat} (z : ∀ q, 26 ≤ q → f q = 0) : sumF f 31 = sumF f 26 := by
  show sumF f 26 + f 26 + f 27 + f 28 + f 29 + f 30 = sumF f 26
  rw [z 26 (by decide), z 27 (by decide), z 28 (by decide), z 29 (by decide), z 30 (by decide)]
  rfl
section LIKE
variable {S : St} {h h' : Hp} {x m b : Nat} {A : Ab} {L : Ld}
theorem y_samePlaces (X : ML_ S h m L) {i j : Nat} (hi : i < L 0 4) (hj : j < L 0 4) {Q : Int32 → Hp → Prop} (hQ : Q (nI (plF (L (6 + 2 * i)) (L (6 + 2 * j)) (min (L (5 + 2 * i) 3) (L (5 + 2 * j) 3)))) h) : w_X7_samePlaces S m (nI i) (nI j) h Q := by
  have l := X.1
  have w := X.2.2.1
  obtain ⟨b0, b1, b3, b4, b5, b6, b7, b8, bn, b9⟩ := MLb X hi
  obtain ⟨b0', b1', b3', b4', b5', b6', b7', b8', bn', b9'⟩ := MLb X hj
  unfold w_X7_samePlaces w_X7_samePlaces_c5
  intro P hP
  have K := q_upto (Pr := fun k => P (nI (plF (L (6 + 2 * i)) (L (6 + 2 * j)) k)) (nI k) h) (n := min (L (5 + 2 * i) 3) (L (5 + 2 * j) 3)) (by
    refine hP _ _ _ ⟨l.1, ?_⟩
    simp only [lr11 l, q_ix (show i < 2 ^ 31 by omega), q_ix (show j < 2 ^ 31 by omega), MLe X hi (show KC 3 12 by unfold KC; omega), MLe X hj (show KC 3 12 by unfold KC; omega)]
    refine ⟨q_ain (la11 l) (by omega) (by decide), ?_⟩
    simp only [q_le (show L (5 + 2 * i) 3 < 2 ^ 31 by omega) (show min (L (5 + 2 * i) 3) (L (5 + 2 * j) 3) < 2 ^ 31 by omega), q_le (show L (5 + 2 * j) 3 < 2 ^ 31 by omega) (show min (L (5 + 2 * i) 3) (L (5 + 2 * j) 3) < 2 ^ 31 by omega)]
    by_cases g : L (5 + 2 * i) 3 ≤ min (L (5 + 2 * i) 3) (L (5 + 2 * j) 3)
    · rw [if_pos g]; exact hQ
    · rw [if_neg g, if_pos (by omega)]; exact ⟨q_ain (la11 l) (by omega) (by decide), hQ⟩) (by
    intro k hkn ih
    refine hP _ _ _ ⟨l.1, ?_⟩
    simp only [lr11 l, lr12 l, q_ix (show i < 2 ^ 31 by omega), q_ix (show j < 2 ^ 31 by omega), MLe X hi (show KC 3 12 by unfold KC; omega), MLe X hj (show KC 3 12 by unfold KC; omega), pk_mul, nI_add, q_ix (show 6 * i + k < 2 ^ 31 by omega), q_ix (show 6 * j + k < 2 ^ 31 by omega), MLn X hi (show k < L (5 + 2 * i) 3 by omega), MLn X hj (show k < L (5 + 2 * j) 3 by omega)]
    refine ⟨q_ain (la11 l) (by omega) (by decide), ?_⟩
    simp only [q_le (show L (5 + 2 * i) 3 < 2 ^ 31 by omega) (show k < 2 ^ 31 by omega), q_le (show L (5 + 2 * j) 3 < 2 ^ 31 by omega) (show k < 2 ^ 31 by omega)]
    rw [if_neg (by omega), if_neg (by omega)]
    refine ⟨q_ain (la11 l) (by omega) (by decide), q_ain (la12 l) (by omega) (by decide), q_ain (la12 l) (by omega) (by decide), ?_⟩
    have n1 := bn k (by omega)
    have n2 := bn' k (by omega)
    simp only [q_eq (show L (6 + 2 * i) k < 2 ^ 31 by omega) (show L (6 + 2 * j) k < 2 ^ 31 by omega)]
    by_cases g2 : L (6 + 2 * i) k = L (6 + 2 * j) k
    · rw [if_pos g2]; simpa [plF, g2] using ih
    · rw [if_neg g2]; simpa [plF, g2] using ih)
  exact K 0 (by omega)
theorem y_lettersOf (X : ML_ S h m L) {i : Nat} (hi : i < L 0 4) {Q : Int32 → Hp → Prop} (hQ : ∀ v : Int32, (∀ j, j < 32 → bI v j = hasF (L (6 + 2 * i)) j (L (5 + 2 * i) 3)) → Q v h) : w_X7_lettersOf S m (nI i) h Q := by
  have l := X.1
  have w := X.2.2.1
  obtain ⟨b0, b1, b3, b4, b5, b6, b7, b8, bn, b9⟩ := MLb X hi
  unfold w_X7_lettersOf w_X7_lettersOf_c4
  intro P hP
  have K := q_upto (Pr := fun k => ∀ v : Int32, (∀ j, j < 32 → bI v j = hasF (L (6 + 2 * i)) j k) → P v (nI k) h) (n := L (5 + 2 * i) 3) (by
    intro v hv
    refine hP _ _ _ ⟨l.1, ?_⟩
    simp only [lr11 l, q_ix (show i < 2 ^ 31 by omega), MLe X hi (show KC 3 12 by unfold KC; omega)]
    refine ⟨q_ain (la11 l) (by omega) (by decide), ?_⟩
    simp only [q_le (show L (5 + 2 * i) 3 < 2 ^ 31 by omega) (show L (5 + 2 * i) 3 < 2 ^ 31 by omega)]
    rw [if_pos (Nat.le_refl _)]; exact hQ v hv) (by
    intro k hkn ih v hv
    refine hP _ _ _ ⟨l.1, ?_⟩
    simp only [lr11 l, lr12 l, q_ix (show i < 2 ^ 31 by omega), MLe X hi (show KC 3 12 by unfold KC; omega), pk_mul, nI_add, q_ix (show 6 * i + k < 2 ^ 31 by omega), MLn X hi hkn]
    refine ⟨q_ain (la11 l) (by omega) (by decide), ?_⟩
    simp only [q_le (show L (5 + 2 * i) 3 < 2 ^ 31 by omega) (show k < 2 ^ 31 by omega)]
    rw [if_neg (by omega)]
    have n1 := bn k hkn
    refine ⟨q_ain (la12 l) (by omega) (by decide), ih _ (fun j hj => ?_)⟩
    rw [q_bor v (show L (6 + 2 * i) k < 31 by omega) hj, hv j hj]
    simp only [hasF]
    congr 1
    exact decide_eq_decide.mpr ⟨Eq.symm, Eq.symm⟩)
  exact K 0 (by omega) (nI 0) (fun j _ => q_b0 j)
theorem y_bits {v : Int32} {Q : Int32 → Hp → Prop} (hQ : Q (nI (sumF (fun j => if bI v j = true then 1 else 0) 31)) h) : w_X7_bits S v h Q := by
  unfold w_X7_bits w_X7_bits_c4
  intro P hP
  have K := q_upto (Pr := fun k => P (nI (sumF (fun j => if bI v j = true then 1 else 0) k)) (nI k) h) (n := 31) (by
    refine hP _ _ _ ?_
    rw [if_pos (by decide)]; exact hQ) (by
    intro k hk ih
    refine hP _ _ _ ?_
    simp only [q_le (show 31 < 2 ^ 31 by omega) (show k < 2 ^ 31 by omega)]
    rw [if_neg (by omega), q_bsh v hk, nI_add, nI_add]
    exact ih)
  exact K 0 (by omega)
def likeA (A : Ab) (v u w : Int32) : Int32 × Ab := if inR v (aL A 0 4) ∧ inR u (aL A 0 4) ∧ v ≠ u then (if w = nI 0 then (nI (plF (aL A (6 + 2 * ix v)) (aL A (6 + 2 * ix u)) (min (aL A (5 + 2 * ix v) 3) (aL A (5 + 2 * ix u) 3))), A) else if w = nI 1 then (nI (cp (aL A (5 + 2 * ix v)) (aL A (6 + 2 * ix v)) (aL A (5 + 2 * ix u)) (aL A (6 + 2 * ix u))), A) else if w = nI 2 then (nI (shF (aL A (5 + 2 * ix v)) (aL A (6 + 2 * ix v)) (aL A (5 + 2 * ix u)) (aL A (6 + 2 * ix u)) 26), A) else rfA A (-2)) else rfA A (-1)
theorem x_like (X : XI S h x A) {v u w : Int32} {Q : Int32 → Hp → Prop} (hQ : ∀ h', XI S h' x (likeA A v u w).2 → FrX x h h' → Q (likeA A v u w).1 h') : w_X6_like S x v u w h Q := by
  have l := X.1
  have l1 := l.2.1.1
  have h5 := X.2.2.2.2.2.2.2.1.1.1
  unfold w_X6_like
  unfold likeA at hQ
  refine ⟨l.1.1, x_noPair X (fun c => ?_) (fun c => ?_)⟩
  · rw [if_pos (by decide)]
    rw [if_pos c] at hQ
    obtain ⟨i, hi, rfl⟩ := inR_ex c.1 (by omega)
    obtain ⟨j, hj, rfl⟩ := inR_ex c.2.1 (by omega)
    rw [q_ix (by omega), q_ix (by omega)] at hQ
    have Hi := XLhd X.2.1 hi
    have Hj := XLhd X.2.1 hj
    rw [l.1.2.1, l1.2.1.2.2.2, q_ix (by omega), q_ix (by omega), (l1.2.2.2 i (by omega)).1, (l1.2.2.2 j (by omega)).1]
    refine ⟨l1.1, q_rin l1.2.2.1.2.2.2 (by omega) (by decide), q_rin l1.2.2.1.2.2.2 (by omega) (by decide), ?_⟩
    by_cases c0 : w = nI 0
    · rw [if_pos c0]
      rw [if_pos c0] at hQ
      exact ⟨Hi.1, x_places Hi Hj (hQ h X FrX_rf)⟩
    rw [if_neg c0]
    rw [if_neg c0] at hQ
    by_cases c1 : w = nI 1
    · rw [if_pos c1]
      rw [if_pos c1] at hQ
      exact ⟨Hi.1, x_same Hi Hj (hQ h X FrX_rf)⟩
    rw [if_neg c1]
    rw [if_neg c1] at hQ
    by_cases c2 : w = nI 2
    · rw [if_pos c2]
      rw [if_pos c2] at hQ
      exact ⟨Hi.1, x_shared Hi Hj (hQ h X FrX_rf)⟩
    rw [if_neg c2]
    rw [if_neg c2] at hQ
    exact x_refuse X (by unfold rfok; decide) hQ
  · rw [if_neg (by decide)]
    rw [if_neg c] at hQ
    exact x_refuse X (by unfold rfok; decide) hQ
theorem y_like (X : MI_ S h m A) {v u w : Int32} {Q : Int32 → Hp → Prop} (hQ : ∀ h', MI_ S h' m (likeA A v u w).2 → FrY m h h' → Q (likeA A v u w).1 h') : w_X7_like S m v u w h Q := by
  have l := X.1.1
  have h5 := X.1.2.2.1
  unfold w_X7_like w_X7_like_c28
  unfold likeA at hQ
  refine ⟨l.1, y_areTwo X.1 (fun c => ?_) (fun c => ?_)⟩
  · rw [if_neg (by decide)]
    rw [if_pos c] at hQ
    refine y_isIn (fun cw => ?_) (fun cw => ?_)
    · have cw : inR w 3 := (inR_le (n := 2) (by decide)).mp cw
      rw [if_neg (by decide), if_pos (by decide)]
      obtain ⟨i, hi, rfl⟩ := inR_ex c.1 (by omega)
      obtain ⟨j, hj, rfl⟩ := inR_ex c.2.1 (by omega)
      obtain ⟨e, he, rfl⟩ := inR_ex cw (by decide)
      rw [q_ix (by omega), q_ix (by omega)] at hQ
      simp only [q_eq (show e < 2 ^ 31 by omega) (show 0 < 2 ^ 31 by decide), q_eq (show e < 2 ^ 31 by omega) (show 1 < 2 ^ 31 by decide), q_eq (show e < 2 ^ 31 by omega) (show 2 < 2 ^ 31 by decide)] at hQ
      simp only [q_eq0 (show e < 2 ^ 31 by omega), q_eq (show e < 2 ^ 31 by omega) (show 1 < 2 ^ 31 by decide)]
      by_cases c0 : e = 0
      · rw [if_pos c0]
        rw [if_pos c0] at hQ
        exact ⟨l.1, y_samePlaces X.1 hi hj (hQ h X FrY_rf)⟩
      rw [if_neg c0]
      rw [if_neg c0] at hQ
      by_cases c1 : e = 1
      · rw [if_pos c1]
        rw [if_pos c1] at hQ
        exact ⟨l.1, y_sameFrom X.1 hi hj (hQ h X FrY_rf)⟩
      rw [if_neg c1]
      rw [if_neg c1, if_pos (by omega)] at hQ
      refine ⟨l.1, y_lettersOf X.1 hi (fun r hr => y_lettersOf X.1 hj (fun r' hr' => y_bits ?_))⟩
      have e26 : sumF (fun q => if bI (r &&& r') q = true then 1 else 0) 31 = shF (aL A (5 + 2 * i)) (aL A (6 + 2 * i)) (aL A (5 + 2 * j)) (aL A (6 + 2 * j)) 26 := by
        rw [shF_sum]
        rw [sumF_cg (g := fun q => if hasF (aL A (6 + 2 * i)) q (aL A (5 + 2 * i) 3) = true ∧ hasF (aL A (6 + 2 * j)) q (aL A (5 + 2 * j) 3) = true then 1 else 0) 31 (fun q hq => by
          rw [q_band, hr q (by omega), hr' q (by omega)]
          simp only [Bool.and_eq_true])]
        have z : ∀ q, 26 ≤ q → (if hasF (aL A (6 + 2 * i)) q (aL A (5 + 2 * i) 3) = true ∧ hasF (aL A (6 + 2 * j)) q (aL A (5 + 2 * j) 3) = true then 1 else 0) = 0 := by
          intro q hq
          refine if_neg (fun g => ?_)
          obtain ⟨k, hk, ek⟩ := hasF_iff.mp g.1
          have := (MLb X.1 hi).2.2.2.2.2.2.2.2.1 k hk
          omega
        exact sumF_31 z
      rw [e26]
      exact hQ h X FrY_rf
    · rw [if_pos (by decide), if_neg (by decide)]
      have n3 : ¬ inR w 3 := fun q => cw ((inR_le (n := 2) (by decide)).mpr q)
      have hn : ∀ e, e < 3 → ¬ w = nI e := fun e he q => n3 (by rw [q]; exact (inR_nI (by omega) (by decide)).mpr he)
      rw [if_neg (hn 0 (by decide)), if_neg (hn 1 (by decide)), if_neg (hn 2 (by decide))] at hQ
      exact ⟨l.1, y_no X (by unfold rfok; decide) hQ⟩
  · rw [if_pos (by decide), if_neg (by decide)]
    rw [if_neg c] at hQ
    exact ⟨l.1, y_no X (by unfold rfok; decide) hQ⟩
theorem op_like (H : SI S h x A) {v u w : Int32} {Q : Int32 → Int32 → Hp → Prop} (hQ : ∀ r A' h', SI S h' x A' → Q r r h') : w_X6_like S x v u w h (fun r h1 => w_X7_like S (x + 180) v u w h1 (fun r' h2 => Q r r' h2)) :=
  x_like H.1 (fun h1 X1 F1 => y_like (SI_m H F1) (fun h2 Y2 F2 => hQ _ _ h2 (SI_mk X1 Y2 F2)))
end LIKE
