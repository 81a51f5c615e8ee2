/-! PURE: land, words and numbers as the class reads them -/
def wlF (T : Nat → Nat) : Nat → Nat → List Nat
  | _, 0 => []
  | b, n + 1 => T b :: wlF T (b + 1) n
def ixW (l : List Nat) : List (List Nat) → Nat → Nat
  | [], _ => 99
  | w :: r, i => if l = w then i else ixW l r (i + 1)
def enW (i : Nat) : Int32 := if i = 99 then -1 else nI i
def lwA (v : Nat) (w : List Nat) (b : Nat) : Bool := (List.range w.length).all (fun i => decide (sBy v (b + i) = nI (w.getD i 0)) && (decide (w.getD i 0 ≠ 32) && (decide (w.getD i 0 < 128) && decide (b + i < sLen v))))
/-- words laid in a string from b on -/
def lwB (v : Nat) : List (List Nat) → Nat → Bool
  | [], _ => false
  | w :: r, b => lwA v w b && (bif r.isEmpty then decide (b + w.length = sLen v) else ((decide (b + w.length < sLen v) && decide (sBy v (b + w.length) = nI 32)) && lwB v r (b + w.length + 1)))
def W0 : List (List Nat) := [[108, 97, 100, 121], [113, 117, 101, 101, 110], [115, 108, 97, 118, 101, 114], [99, 104, 105, 108, 100], [115, 97, 105, 110, 116], [99, 111, 108, 108, 105, 101, 114], [112, 105, 114, 97, 116, 101], [109, 101, 114, 109, 97, 105, 100]]
def W1 : List (List Nat) := [[119, 97, 108, 108], [102, 111, 108, 107], [102, 97, 99, 101], [100, 111, 101, 115], [106, 111, 105, 110, 115], [110, 105, 103, 104, 116, 115]]
def W2 : List (List Nat) := [[110], [101], [115], [119]]
def W3 : List (List Nat) := [[111, 110], [108, 101, 102, 116], [114, 105, 103, 104, 116], [98, 97, 99, 107], [114, 101, 115, 116]]
theorem lw0 : lwB 0 W0 0 = true := by decide +kernel
theorem lw1 : lwB 1 W1 0 = true := by decide +kernel
theorem lw2 : lwB 2 W2 0 = true := by decide +kernel
theorem lw3 : lwB 3 W3 0 = true := by decide +kernel
theorem wl_eq {T : Nat → Nat} : ∀ (n b : Nat) (w : List Nat), n = w.length → (∀ i, i < n → T (b + i) = w.getD i 0) → wlF T b n = w
  | 0, b, w, e, _ => (List.eq_nil_of_length_eq_zero e.symm).symm
  | n + 1, b, [], e, _ => absurd e (Nat.succ_ne_zero n)
  | n + 1, b, a :: w, e, h => by
    have h0 := h 0 (by omega)
    have ih := wl_eq (T := T) n (b + 1) w (by simpa using e) (fun i hi => by
      have := h (i + 1) (by omega)
      rw [show b + 1 + i = b + (i + 1) by omega, this]; rfl)
    show T b :: wlF T (b + 1) n = a :: w
    rw [ih]
    exact congrArg (· :: w) h0
theorem wl_len {T : Nat → Nat} : ∀ (n b : Nat), (wlF T b n).length = n
  | 0, _ => rfl
  | n + 1, b => by show (wlF T (b + 1) n).length + 1 = n + 1; rw [wl_len n (b + 1)]
theorem wl_get {T : Nat → Nat} : ∀ (n b i : Nat), i < n → (wlF T b n).getD i 0 = T (b + i)
  | 0, _, i, h => absurd h (by omega)
  | n + 1, b, 0, _ => rfl
  | n + 1, b, i + 1, h => by
    show (wlF T (b + 1) n).getD i 0 = T (b + (i + 1))
    rw [wl_get n (b + 1) i (by omega), show b + 1 + i = b + (i + 1) by omega]
/-- a part j (0 the word) as the class has marked it -/
def PXj (h : Hp) (x k : Nat) (T : Nat → Nat) (np j b n : Nat) : Prop := h (x + 153) 4 = nI np ∧ np ≤ 3 ∧ j ≤ 3 ∧ (j ≤ np → h (x + 155) j = nI b ∧ h (x + 156) j = nI n ∧ n ≤ 7 ∧ b + n ≤ k)
section XWORDS
variable {S : St} {h h' : Hp} {x k : Nat} {T : Nat → Nat}
theorem x_len {v : Nat} (hv : v < 5) {Q : Int32 → Hp → Prop} (hQ : Q (nI (sLen v)) h) : w_J0_length_8abf5 S v h Q := by
  unfold w_J0_length_8abf5 w_J0_coder_7d493
  refine ⟨hv, hv, by decide, ?_⟩
  show Q (ishr (nI (sLen v)) (nI 0)) h
  rw [q_sh0]
  exact hQ
theorem sLen_lt : ∀ v, v < 5 → sLen v < 100 := by decide +kernel
theorem x_char {v e u : Nat} (hv : v < 5) (he : e < sLen v) (eu : sBy v e = nI u) (hu : u < 128) {Q : Int32 → Hp → Prop} (hQ : Q (nI u) h) : w_J0_charAt_5068e S v (nI e) h Q := by
  have s1 := sLen_lt v hv
  obtain ⟨-, -, t1, t2⟩ := q_c128 _ hu
  unfold w_J0_charAt_5068e w_J0_isLatin1_aae02
  refine ⟨hv, hv, ?_⟩
  show if nI 1 = 0 then False else _
  rw [if_neg (by decide)]
  unfold w_J1_charAt_3b067 w_J0_checkIndex_df160 w_J3_checkIndex_8e157
  refine ⟨hv, fun f1 => ?_⟩
  simp only [q_lt0 (show e < 2 ^ 31 by omega), q_lt (show e < 2 ^ 31 by omega) (show sLen v < 2 ^ 31 by omega)]
  rw [if_neg id, if_pos he, q_ix (by omega), eu, t2]
  exact ⟨vp_in_nI he (by omega), t1, t1, hQ⟩
theorem x_sign (l : LayX S x) (C : CT h x k T) {j b i : Nat} (hj : j ≤ 3) (eb : h (x + 155) j = nI b) (hi : b + i < k) {Q : Int32 → Hp → Prop} (hQ : Q (nI (T (b + i))) h) : w_X4_signAt S (x + 153) (nI j) (nI i) h Q := by
  have lt := l.2.2.2.1
  have k9 := C.2.2
  unfold w_X4_signAt
  rw [C.1, lt.2.1, lt.2.2.1, q_ix (show j < 2 ^ 31 by omega), eb, nI_add, q_ix (show b + i < 2 ^ 31 by omega), (C.2.1 _ hi).1]
  simp only [q_le (show k < 2 ^ 31 by omega) (show b + i < 2 ^ 31 by omega)]
  rw [if_neg (by omega)]
  exact ⟨lt.1, q_ain lt.2.2.2.2.2.1 (by omega) (by decide), q_ain lt.2.2.2.2.1 (by omega) (by decide), hQ⟩
theorem x_isAt (l : LayX S x) (C : CT h x k T) {j b n : Nat} (hj : j ≤ 3) (eb : h (x + 155) j = nI b) (en : h (x + 156) j = nI n) (hn : n ≤ 7) (hk : b + n ≤ k) {v s : Nat} (hv : v < 5) {w : List Nat} (ew : n = w.length) (hw : ∀ i, i < n → sBy v (s + i) = nI (w.getD i 0) ∧ w.getD i 0 < 128 ∧ s + i < sLen v) {Q : Int32 → Hp → Prop} (h1 : wlF T b n = w → Q (nI 1) h) (h0 : wlF T b n ≠ w → Q (nI 0) h) : w_X4_isAt S (x + 153) (nI j) v (nI s) h Q := by
  have lt := l.2.2.2.1
  have k9 := C.2.2
  have sl := sLen_lt v hv
  unfold w_X4_isAt w_X4_isAt_c3
  intro P hP
  have K : ∀ (r i : Nat), i + r = n → (∀ q, q < i → T (b + q) = w.getD q 0) → P (nI i) h := by
    intro r
    induction r with
    | zero =>
      intro i hi hh
      refine hP _ _ ⟨lt.1, ?_⟩
      rw [lt.2.2.2.1, q_ix (show j < 2 ^ 31 by omega), en]
      simp only [q_le (show n < 2 ^ 31 by omega) (show i < 2 ^ 31 by omega)]
      rw [if_pos (by omega)]
      exact ⟨q_ain lt.2.2.2.2.2.2 (by omega) (by decide), h1 (wl_eq n b w ew (fun q hq => hh q (by omega)))⟩
    | succ r ih =>
      intro i hi hh
      obtain ⟨w1, w2, w3⟩ := hw i (by omega)
      refine hP _ _ ⟨lt.1, ?_⟩
      rw [lt.2.2.2.1, q_ix (show j < 2 ^ 31 by omega), en, nI_add]
      simp only [q_le (show n < 2 ^ 31 by omega) (show i < 2 ^ 31 by omega)]
      rw [if_neg (by omega)]
      refine ⟨q_ain lt.2.2.2.2.2.2 (by omega) (by decide), hv, x_len hv ?_⟩
      simp only [q_le (show sLen v < 2 ^ 31 by omega) (show s + i < 2 ^ 31 by omega)]
      rw [if_neg (by omega)]
      have tv := (C.2.1 (b + i) (by omega)).2
      refine x_sign l C hj eb (by omega) (x_char hv w3 w1 w2 ?_)
      simp only [q_eq (show T (b + i) < 2 ^ 31 by omega) (show w.getD i 0 < 2 ^ 31 by omega)]
      by_cases c : T (b + i) = w.getD i 0
      · rw [if_pos c, nI_add]
        refine ih (i + 1) (by omega) (fun q hq => ?_)
        by_cases e : q = i
        · subst e; exact c
        · exact hh q (by omega)
      · rw [if_neg c]
        refine h0 (fun e => c ?_)
        rw [← e, wl_get n b i (by omega)]
  exact K n 0 (by omega) (fun q hq => absurd hq (by omega))
theorem x_place (l : LayX S x) (C : CT h x k T) {np j b n : Nat} (X : PXj h x k T np j b n) {v : Nat} (hv : v < 5) {ws : List (List Nat)} (hw : lwB v ws 0 = true) (hl : ws.length ≤ 20) {Q : Int32 → Hp → Prop} (hQ : Q (if j ≤ np then enW (ixW (wlF T b n) ws 0) else -1) h) : w_X4_placeAmong S (x + 153) (nI j) v h Q := by
  obtain ⟨X1, X2, X3, X4⟩ := X
  have lt := l.2.2.2.1
  have k9 := C.2.2
  have sl := sLen_lt v hv
  unfold w_X4_placeAmong w_X4_placeAmong_c8
  intro P hP
  have K : ∀ (ws : List (List Nat)) (i s : Nat), lwB v ws s = true → i + ws.length ≤ 20 → s ≤ 100 → Q (if j ≤ np then enW (ixW (wlF T b n) ws i) else -1) h → P (nI i) (nI s) (nI s) h := by
    intro ws
    induction ws with
    | nil => intro i s hb; exact absurd hb Bool.false_ne_true
    | cons w r ih =>
      intro i s hb hi hs hq
      have hb : (lwA v w s && (bif r.isEmpty then decide (s + w.length = sLen v) else ((decide (s + w.length < sLen v) && decide (sBy v (s + w.length) = nI 32)) && lwB v r (s + w.length + 1)))) = true := hb
      rw [Bool.and_eq_true] at hb
      obtain ⟨b1, b2⟩ := hb
      have W : ∀ q, q < w.length → sBy v (s + q) = nI (w.getD q 0) ∧ w.getD q 0 ≠ 32 ∧ w.getD q 0 < 128 ∧ s + q < sLen v := fun q hq => by
        have := List.all_eq_true.mp b1 q (List.mem_range.mpr hq)
        simpa using this
      simp only [List.length_cons] at hi
      have sw : s + w.length ≤ sLen v := by
        cases r with
        | nil => exact Nat.le_of_eq (of_decide_eq_true b2)
        | cons a r =>
          have b4 : ((decide (s + w.length < sLen v) && decide (sBy v (s + w.length) = nI 32)) && lwB v (a :: r) (s + w.length + 1)) = true := b2
          rw [Bool.and_eq_true, Bool.and_eq_true] at b4
          exact Nat.le_of_lt (of_decide_eq_true b4.1.1)
      have nx : Q (if j ≤ np then enW (ixW (wlF T b n) r (i + 1)) else -1) h → P (nI (i + 1)) (nI (s + w.length + 1)) (nI (s + w.length + 1)) h := fun hq => by
        cases r with
        | nil =>
          have e : s + w.length = sLen v := of_decide_eq_true b2
          refine hP _ _ _ _ ⟨hv, x_len hv ?_⟩
          simp only [q_lt (show sLen v < 2 ^ 31 by omega) (show s + w.length + 1 < 2 ^ 31 by omega)]
          rw [if_pos (by omega)]
          rw [show (if j ≤ np then enW (ixW (wlF T b n) [] (i + 1)) else -1) = -1 by split <;> rfl] at hq
          exact hq
        | cons a r =>
          have b3 : lwB v (a :: r) (s + w.length + 1) = true := by
            have b4 : ((decide (s + w.length < sLen v) && decide (sBy v (s + w.length) = nI 32)) && lwB v (a :: r) (s + w.length + 1)) = true := b2
            rw [Bool.and_eq_true] at b4
            exact b4.2
          exact ih (i + 1) _ b3 (by simp only [List.length_cons] at hi ⊢; omega) (by omega) hq
      have Z : w_X4_placeAmong_c37 S (x + 153) (nI j) v (nI i) (nI s) (nI (s + w.length)) h Q P := by
        unfold w_X4_placeAmong_c37
        rw [X1, lt.2.2.2.1, q_ix (show j < 2 ^ 31 by omega), q_sub (by omega), nI_add, nI_add]
        simp only [q_lt (show np < 2 ^ 31 by omega) (show j < 2 ^ 31 by omega)]
        refine ⟨lt.1, ?_⟩
        simp only [ixW] at hq
        by_cases c : j ≤ np
        · rw [if_neg (by omega)]
          rw [if_pos c] at hq nx
          obtain ⟨x1, x2, x3, x4⟩ := X4 c
          rw [x2, show s + w.length - s = w.length by omega]
          simp only [q_eq (show n < 2 ^ 31 by omega) (show w.length < 2 ^ 31 by omega)]
          refine ⟨q_ain lt.2.2.2.2.2.2 (by omega) (by decide), ?_⟩
          by_cases c2 : n = w.length
          · rw [if_pos c2]
            refine x_isAt l C X3 x1 x2 x3 x4 hv c2 (fun q hq => by have := W q (by omega); exact ⟨this.1, this.2.2.1, this.2.2.2⟩) (fun e => ?_) (fun e => ?_)
            · rw [if_neg (by decide)]
              rw [if_pos e] at hq
              unfold enW at hq
              rw [if_neg (by omega)] at hq
              exact hq
            · rw [if_pos (by decide)]
              rw [if_neg e] at hq
              exact nx hq
          · rw [if_neg c2]
            rw [if_neg (fun e => c2 (by rw [← e, wl_len]))] at hq
            exact nx hq
        · rw [if_pos (by omega)]
          rw [if_neg c] at hq nx
          exact nx hq
      have I : ∀ (t q : Nat), q + t = w.length → P (nI i) (nI s) (nI (s + q)) h := by
        intro t
        induction t with
        | zero =>
          intro q hq2
          have e : q = w.length := by omega
          subst e
          refine hP _ _ _ _ ⟨hv, x_len hv ?_⟩
          simp only [q_lt (show sLen v < 2 ^ 31 by omega) (show s + w.length < 2 ^ 31 by omega)]
          rw [if_neg (by omega)]
          refine x_len hv ?_
          simp only [q_eq (show s + w.length < 2 ^ 31 by omega) (show sLen v < 2 ^ 31 by omega)]
          by_cases c : s + w.length = sLen v
          · rw [if_pos c]; exact Z
          · rw [if_neg c]
            have e2 : sBy v (s + w.length) = nI 32 := by
              cases r with
              | nil => exact absurd (of_decide_eq_true b2) c
              | cons a r =>
                have b4 : ((decide (s + w.length < sLen v) && decide (sBy v (s + w.length) = nI 32)) && lwB v (a :: r) (s + w.length + 1)) = true := b2
                rw [Bool.and_eq_true, Bool.and_eq_true] at b4
                exact of_decide_eq_true b4.1.2
            refine x_char hv (by omega) e2 (by decide) ?_
            rw [if_pos rfl]; exact Z
        | succ t ih2 =>
          intro q hq2
          obtain ⟨w1, w2, w3, w4⟩ := W q (by omega)
          refine hP _ _ _ _ ⟨hv, x_len hv ?_⟩
          simp only [q_lt (show sLen v < 2 ^ 31 by omega) (show s + q < 2 ^ 31 by omega)]
          rw [if_neg (by omega)]
          refine x_len hv ?_
          simp only [q_eq (show s + q < 2 ^ 31 by omega) (show sLen v < 2 ^ 31 by omega)]
          rw [if_neg (by omega)]
          refine x_char hv w4 w1 w3 ?_
          simp only [q_eq (show w.getD q 0 < 2 ^ 31 by omega) (show 32 < 2 ^ 31 by decide)]
          rw [if_neg w2, nI_add, show s + q + 1 = s + (q + 1) by omega]
          exact ih2 (q + 1) (by omega)
      exact I w.length 0 (by omega)
  exact K ws 0 0 hw (by omega) (by omega) hQ
end XWORDS
