/-! PURE: land, numbers and words as the reference reads them -/
def cdA : List Nat → Nat → Nat
  | [], v => v
  | t :: r, v => cdA r (32 * v + (t - 96))
def dcA : Nat → Nat → List Nat → List Nat
  | 0, _, acc => acc
  | f + 1, c, acc => if c = 0 then acc else dcA f (c / 32) ((c % 32 + 96) :: acc)
def lsA (l : List Nat) : Prop := ∀ t ∈ l, 97 ≤ t ∧ t ≤ 122
theorem dc_0 : ∀ (f : Nat) (acc : List Nat), dcA f 0 acc = acc
  | 0, _ => rfl
  | f + 1, acc => if_pos rfl
theorem dc_cd : ∀ (l : List Nat) (f v : Nat) (acc : List Nat), lsA l → dcA (f + l.length) (cdA l v) acc = dcA f v (l ++ acc)
  | [], f, v, acc, _ => rfl
  | t :: r, f, v, acc, h => by
    have ht := h t List.mem_cons_self
    have ih := dc_cd r (f + 1) (32 * v + (t - 96)) acc (fun q hq => h q (List.mem_cons_of_mem _ hq))
    have e : f + (t :: r).length = f + 1 + r.length := by simp only [List.length_cons]; omega
    rw [e]
    show dcA (f + 1 + r.length) (cdA r (32 * v + (t - 96))) acc = _
    rw [ih]
    show (if 32 * v + (t - 96) = 0 then _ else dcA f ((32 * v + (t - 96)) / 32) (((32 * v + (t - 96)) % 32 + 96) :: (r ++ acc))) = _
    rw [if_neg (by omega), show (32 * v + (t - 96)) / 32 = v by omega, show (32 * v + (t - 96)) % 32 + 96 = t by omega]
    rfl
theorem cd_inj {l l' : List Nat} (h : lsA l) (h' : lsA l') (n : l.length ≤ 20) (n' : l'.length ≤ 20) (e : cdA l 0 = cdA l' 0) : l = l' := by
  have a := dc_cd l (20 - l.length) 0 [] h
  have b := dc_cd l' (20 - l'.length) 0 [] h'
  rw [show 20 - l.length + l.length = 20 by omega, dc_0, List.append_nil] at a
  rw [show 20 - l'.length + l'.length = 20 by omega, dc_0, List.append_nil] at b
  rw [← a, ← b, e]
theorem cd_lt : ∀ (l : List Nat) (v : Nat), lsA l → cdA l v < (v + 1) * 32 ^ l.length
  | [], v, _ => by simp [cdA]
  | t :: r, v, h => by
    have ht := h t List.mem_cons_self
    have ih := cd_lt r (32 * v + (t - 96)) (fun q hq => h q (List.mem_cons_of_mem _ hq))
    show cdA r (32 * v + (t - 96)) < _
    refine Nat.lt_of_lt_of_le ih ?_
    rw [List.length_cons, Nat.pow_succ, Nat.mul_comm (32 ^ r.length) 32, ← Nat.mul_assoc]
    exact Nat.mul_le_mul_right _ (by omega)
theorem ls_wl {k : Nat} {T : Nat → Nat} : ∀ (n b : Nat), (∀ i, i < n → isS k T 97 122 (b + i)) → lsA (wlF T b n)
  | 0, _, _ => fun t ht => absurd ht List.not_mem_nil
  | n + 1, b, h => fun t ht => by
    rcases List.mem_cons.mp ht with e | e
    · have := h 0 (by omega)
      rw [Nat.add_zero] at this
      subst e; exact this.2
    · exact ls_wl n (b + 1) (fun i hi => by have := h (i + 1) (by omega); rw [show b + 1 + i = b + (i + 1) by omega]; exact this) t e
def lsB (l : List Nat) : Bool := l.all (fun t => decide (97 ≤ t ∧ t ≤ 122))
theorem ls_of {l : List Nat} (h : lsB l = true) : lsA l := fun t ht => of_decide_eq_true (List.all_eq_true.mp h t ht)
/-- a word by its code -/
theorem q_word {l w : List Nat} (hl : lsA l) (hn : l.length ≤ 7) (hw : lsB w = true) (hm : w.length ≤ 7) : (lcmp (lN (cdA l 0)) (lN (cdA w 0)) = 0) = (l = w) := by
  have p7 : ∀ n, n ≤ 7 → 32 ^ n ≤ 2 ^ 40 := by decide +kernel
  have a := cd_lt l 0 hl
  have b := cd_lt w 0 (ls_of hw)
  have a2 := p7 _ hn
  have b2 := p7 _ hm
  rw [Nat.zero_add, Nat.one_mul] at a b
  rw [q_lcmp (by omega) (by omega)]
  exact propext ⟨fun e => cd_inj hl (ls_of hw) (by omega) (by omega) e, fun e => by rw [e]⟩
def enY (i : Nat) : Int32 := if i = 99 then -9 else nI i
/-- the tape, told or not -/
def TPm (h : Hp) (m k : Nat) (T : Nat → Nat) : Prop := (∀ i, i < k → h (m + 14) i = nI (T i) ∧ T i ≤ 255) ∧ k ≤ 96
section YNUMS
variable {S : St} {h h' : Hp} {m k s : Nat} {T : Nat → Nat} {D : PS}
theorem y_isNum (l : LayM S m) (C : TPm h m k T) (P0 : PRt h m s D) (G : GP k T D) (hs : s < 25) {j : Nat} (hj : j < 3) {Q : Int32 → Hp → Prop} (h1 : j < D.1 ∧ T (D.2.1 j) ≤ 57 → Q (nI 1) h) (h0 : ¬ (j < D.1 ∧ T (D.2.1 j) ≤ 57) → Q (nI 0) h) : w_X7_isNumber S m (nI s) (nI j) h Q := by
  have k9 := C.2
  have g3 := G.1
  unfold w_X7_isNumber
  rw [lr19 l, lr20 l, lr16 l, q_ix (show s < 2 ^ 31 by omega), P0.1, pk_mul, nI_add, q_ix (show 3 * s + j < 2 ^ 31 by omega)]
  simp only [q_le (show D.1 < 2 ^ 31 by omega) (show j < 2 ^ 31 by omega)]
  refine ⟨l.1, q_ain (la19 l) hs (by decide), ?_⟩
  by_cases c : j < D.1
  · rw [if_neg (by omega)]
    obtain ⟨g0, g1, -⟩ := G.2 j c
    obtain ⟨t1, t2⟩ := C.1 (D.2.1 j) (by omega)
    rw [(P0.2 j c).1, q_ix (by omega), t1]
    simp only [q_lt (show 57 < 2 ^ 31 by decide) (show T (D.2.1 j) < 2 ^ 31 by omega)]
    refine ⟨q_ain (la20 l) (by omega) (by decide), q_ain (la16 l) (by omega) (by decide), ?_⟩
    by_cases c2 : 57 < T (D.2.1 j)
    · rw [if_pos c2]; exact h0 (by omega)
    · rw [if_neg c2]; exact h1 ⟨c, by omega⟩
  · rw [if_pos (by omega)]; exact h0 (fun q => c q.1)
theorem y_areLet (l : LayM S m) (C : TPm h m k T) (P0 : PRt h m s D) (G : GP k T D) (hs : s < 25) {j : Nat} (hj : j < 3) {Q : Int32 → Hp → Prop} (h1 : ltF T D j → Q (nI 1) h) (h0 : ¬ ltF T D j → Q (nI 0) h) : w_X7_areLetters S m (nI s) (nI j) h Q := by
  have k9 := C.2
  have g3 := G.1
  unfold w_X7_areLetters
  rw [lr19 l, lr20 l, lr16 l, q_ix (show s < 2 ^ 31 by omega), P0.1, pk_mul, nI_add, q_ix (show 3 * s + j < 2 ^ 31 by omega)]
  simp only [q_le (show D.1 < 2 ^ 31 by omega) (show j < 2 ^ 31 by omega)]
  refine ⟨l.1, q_ain (la19 l) hs (by decide), ?_⟩
  by_cases c : j < D.1
  · rw [if_neg (by omega)]
    obtain ⟨g0, g1, -⟩ := G.2 j c
    obtain ⟨t1, t2⟩ := C.1 (D.2.1 j) (by omega)
    rw [(P0.2 j c).1, q_ix (by omega), t1]
    simp only [q_le (show T (D.2.1 j) < 2 ^ 31 by omega) (show 57 < 2 ^ 31 by decide)]
    refine ⟨q_ain (la20 l) (by omega) (by decide), q_ain (la16 l) (by omega) (by decide), ?_⟩
    by_cases c2 : T (D.2.1 j) ≤ 57
    · rw [if_pos c2]; exact h0 (by omega)
    · rw [if_neg c2]; exact h1 ⟨c, by omega⟩
  · rw [if_pos (by omega)]; exact h0 (fun q => c q.1)
theorem y_number (l : LayM S m) (C : TPm h m k T) (P0 : PRt h m s D) (G : GP k T D) (hs : s < 25) {j : Nat} (hj : j < 3) {Q : Int32 → Hp → Prop} (hQ : Q (if nuF T D j = 999 then -9 else nI (nuF T D j)) h) : w_X7_numberOf S m (nI s) (nI j) h Q := by
  have k9 := C.2
  have g3 := G.1
  have nc := nu_c G j
  unfold w_X7_numberOf
  refine ⟨l.1, y_isNum l C P0 G hs hj (fun c => ?_) (fun c => ?_)⟩
  · rw [if_neg (by decide)]
    obtain ⟨g0, g1, g2⟩ := G.2 j c.1
    have g : D.2.2 j ≤ 2 ∧ ∀ i, i < D.2.2 j → isS k T 48 57 (D.2.1 j + i) := by
      rcases g2 with g | g
      · have := g.2 0 g0
        rw [Nat.add_zero] at this; omega
      · exact g
    obtain ⟨p1, p2⟩ := P0.2 j c.1
    have s0 := g.2 0 g0
    rw [Nat.add_zero] at s0
    rw [lr20 l, lr21 l, lr16 l, pk_mul, nI_add, q_ix (show 3 * s + j < 2 ^ 31 by omega), p1, p2, q_ix (show D.2.1 j < 2 ^ 31 by omega), (C.1 _ s0.1).1, nI_add, q_ix (show D.2.1 j + 1 < 2 ^ 31 by omega)]
    simp only [q_eq (show D.2.2 j < 2 ^ 31 by omega) (show 1 < 2 ^ 31 by decide)]
    refine ⟨q_ain (la20 l) (by omega) (by decide), q_ain (la16 l) (by omega) (by decide), q_ain (la21 l) (by omega) (by decide), ?_⟩
    have en : nuF T D j = nvF T (D.2.1 j) (D.2.2 j) := if_pos c
    unfold nvF at en
    rw [q_sub (show 48 ≤ T (D.2.1 j) by omega)]
    by_cases c1 : D.2.2 j = 1
    · rw [if_pos c1] at en ⊢
      rw [if_neg (by omega), en] at hQ
      exact hQ
    · rw [if_neg c1] at en ⊢
      have s1 := g.2 1 (by omega)
      rw [if_neg (by omega), en] at hQ
      rw [(C.1 _ s1.1).1, pk_mul, nI_add, q_sub (by omega), show 10 * (T (D.2.1 j) - 48) + T (D.2.1 j + 1) - 48 = 10 * (T (D.2.1 j) - 48) + (T (D.2.1 j + 1) - 48) by omega]
      exact ⟨q_ain (la16 l) (by omega) (by decide), hQ⟩
  · rw [if_pos (by decide)]
    have en : nuF T D j = 999 := if_neg c
    rw [if_pos en] at hQ
    exact hQ
theorem y_code (l : LayM S m) (C : TPm h m k T) {b n : Nat} (hb : b + n ≤ k) (hl : ∀ i, i < n → isS k T 97 122 (b + i)) {Q : Int64 → Hp → Prop} (hQ : Q (lN (cdA (wlF T b n) 0)) h) : w_X7_codeAt S m (nI b) (nI n) h Q := by
  have k9 := C.2
  unfold w_X7_codeAt w_X7_codeAt_c5
  intro P hP
  have K : ∀ (r b' v : Nat), b' + r = b + n → b ≤ b' → cdA (wlF T b n) 0 = cdA (wlF T b' r) v → P (lN v) (nI b') h := by
    intro r
    induction r with
    | zero =>
      intro b' v h1 h2 e
      refine hP _ _ _ ?_
      rw [nI_add]
      simp only [q_le (show b + n < 2 ^ 31 by omega) (show b' < 2 ^ 31 by omega)]
      rw [if_pos (by omega)]
      have e : cdA (wlF T b n) 0 = v := e
      rw [← e]; exact hQ
    | succ r ih =>
      intro b' v h1 h2 e
      have t := hl (b' - b) (by omega)
      rw [show b + (b' - b) = b' by omega] at t
      refine hP _ _ _ ?_
      rw [nI_add, lr16 l, q_ix (show b' < 2 ^ 31 by omega), (C.1 b' t.1).1, nI_l (show T b' < 2 ^ 31 by omega), show (32 : Int64) = lN 32 from rfl, show (97 : Int64) = lN 97 from rfl, lN_mul, lN_add, lN_sub (by omega), lN_add, nI_add]
      simp only [q_le (show b + n < 2 ^ 31 by omega) (show b' < 2 ^ 31 by omega)]
      rw [if_neg (by omega)]
      refine ⟨l.1, q_ain (la16 l) (by omega) (by decide), ih (b' + 1) _ (by omega) (by omega) ?_⟩
      rw [e, show 32 * v + T b' - 97 + 1 = 32 * v + (T b' - 96) by omega]
      rfl
  exact K n b 0 rfl (Nat.le_refl _) rfl
/-- the code of a part, 0 if it is none of letters -/
theorem y_word (l : LayM S m) (C : TPm h m k T) (P0 : PRt h m s D) (G : GP k T D) (hs : s < 25) {j : Nat} (hj : j < 3) {Q : Int64 → Hp → Prop} (h1 : ltF T D j → Q (lN (cdA (wlF T (D.2.1 j) (D.2.2 j)) 0)) h) (h0 : ¬ ltF T D j → Q (lN 0) h) : w_X7_wordOf S m (nI s) (nI j) h Q := by
  unfold w_X7_wordOf
  refine ⟨l.1, y_areLet l C P0 G hs hj (fun c => ?_) (fun c => ?_)⟩
  · rw [if_neg (by decide)]
    obtain ⟨g0, g1, g2⟩ := G.2 j c.1
    rw [lr20 l, lr21 l, pk_mul, nI_add, q_ix (show 3 * s + j < 2 ^ 31 by omega), (P0.2 j c.1).1, (P0.2 j c.1).2]
    exact ⟨q_ain (la20 l) (by omega) (by decide), q_ain (la21 l) (by omega) (by decide), y_code l C g1 (fun i hi => lt_in G c hi) (h1 c)⟩
  · rw [if_pos (by decide)]; exact h0 c
theorem y_kind {w : List Nat} (hl : lsA w) (hn : w.length ≤ 7) {Q : Int32 → Hp → Prop} (hQ : Q (enY (ixW w W0 0)) h) : w_X7_kindSaid S (lN (cdA w 0)) h Q := by
  unfold w_X7_kindSaid
  rw [show (394393 : Int64) = lN (cdA [108, 97, 100, 121] 0) by decide, show (18519214 : Int64) = lN (cdA [113, 117, 101, 101, 110] 0) by decide, show (650172594 : Int64) = lN (cdA [115, 108, 97, 118, 101, 114] 0) by decide, show (3417476 : Int64) = lN (cdA [99, 104, 105, 108, 100] 0) by decide, show (19965396 : Int64) = lN (cdA [115, 97, 105, 110, 116] 0) by decide, show (3737527474 : Int64) = lN (cdA [99, 111, 108, 108, 105, 101, 114] 0) by decide, show (546899589 : Int64) = lN (cdA [112, 105, 114, 97, 116, 101] 0) by decide, show (14145717540 : Int64) = lN (cdA [109, 101, 114, 109, 97, 105, 100] 0) by decide]
  simp only [q_word hl hn (show lsB [108, 97, 100, 121] = true by decide) (by decide), q_word hl hn (show lsB [113, 117, 101, 101, 110] = true by decide) (by decide), q_word hl hn (show lsB [115, 108, 97, 118, 101, 114] = true by decide) (by decide), q_word hl hn (show lsB [99, 104, 105, 108, 100] = true by decide) (by decide), q_word hl hn (show lsB [115, 97, 105, 110, 116] = true by decide) (by decide), q_word hl hn (show lsB [99, 111, 108, 108, 105, 101, 114] = true by decide) (by decide), q_word hl hn (show lsB [112, 105, 114, 97, 116, 101] = true by decide) (by decide), q_word hl hn (show lsB [109, 101, 114, 109, 97, 105, 100] = true by decide) (by decide)]
  simp only [W0, ixW] at hQ
  repeat' split
  all_goals (rename_i c; first | (simp only [c, if_true, if_false] at hQ) | skip)
  all_goals (simp_all [enY])
end YNUMS
