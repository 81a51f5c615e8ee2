/-! PURE: line -/
def dgs (n : Nat) : Nat := if 10 ≤ n then 2 else 1
def dgt (n j : Nat) : Nat := if 10 ≤ n then (if j = 1 then 48 + n % 10 else 48 + n / 10) else 48 + n % 10
def sidF (d : Nat) : Nat := if d = 0 then 110 else if d = 1 then 101 else if d = 2 then 115 else 119
def lnF (A N : Nat → Nat) (p : Nat) : Nat := if p < A 3 then 97 + N p else if p = A 3 then 32 else if p - A 3 - 1 < dgs (A 4) then dgt (A 4) (p - A 3 - 1) else if p - A 3 - 1 - dgs (A 4) = 0 then sidF (A 5) else if A 8 = 1 then 33 else dgt (A 7) (p - A 3 - 1 - dgs (A 4) - 1)
def lenF (A : Nat → Nat) : Nat := A 3 + 1 + dgs (A 4) + 1 + if A 8 = 1 then 1 else dgs (A 7)
def lineF (A N : Nat → Nat) (p : Nat) : Int32 := if p < lenF A then nI (lnF A N p) else -9
theorem dgs_c (n : Nat) : (dgs n = 1 ∧ n < 10) ∨ (dgs n = 2 ∧ 10 ≤ n) := by unfold dgs; split <;> omega
theorem lenF_le {A N : Nat → Nat} (H : HB A N) : lenF A ≤ 12 := by
  have h3 := H.2.2.1
  have a := dgs_c (A 4)
  have b := dgs_c (A 7)
  unfold lenF
  split <;> omega
theorem q_c128 : ∀ a, a < 128 → i2b (i2b (nI a)) = nI a ∧ i2b (nI a) = nI a ∧ i2c (nI a) = nI a ∧ i2c (nI a &&& nI 255) = nI a := by decide +kernel
theorem q_n100 : ∀ n, n < 100 → -(-nI n) = nI n ∧ (-nI n ≤ -10 ↔ 10 ≤ n) ∧ ¬ (-nI n ≤ (nI 10) * (-10)) ∧ (-100 : Int32) < -nI n ∧ (-9 ≤ -nI n ↔ n < 10) ∧ i2b (dOn n) = nI (48 + n % 10) ∧ i2b (dTe n) = nI (48 + n / 10) := by decide +kernel
theorem q_pm1 (k : Nat) : nI (k + 1) + (-1) = nI k := by
  rw [← nI_add, Int32.add_assoc, show nI 1 + (-1) = 0 by decide, Int32.add_zero]
theorem q_sh0 (n : Nat) : ishr (nI n) (nI 0) = nI n := by
  show nI n >>> (nI 0 &&& 31) = nI n
  rw [show nI 0 &&& 31 = (0 : Int32) by decide]
  simp
/-- a StringBuilder at b -/
def SBl (S : St) (b : Nat) : Prop := ob S b 8 ∧ S.2 b 0 = b + 1 ∧ S.1 (b + 1) = some (.inr (3, 16))
def SBd (A N : Nat → Nat) (h : Hp) (b c : Nat) : Prop := h b 1 = nI 0 ∧ h b 3 = nI c ∧ ∀ q, q < c → h (b + 1) q = nI (lnF A N q)
def FrB (b : Nat) (h h' : Hp) : Prop := ∀ q k, q ≠ b → q ≠ b + 1 → h' q k = h q k
theorem FrB_tr {b : Nat} {h h1 h2 : Hp} (f : FrB b h h1) (g : FrB b h1 h2) : FrB b h h2 := fun q k q1 q2 => (g q k q1 q2).trans (f q k q1 q2)
section LINE
variable {S : St} {h h' : Hp} {x m b c : Nat} {A : Ab} {M N : Nat → Nat}
theorem zb_cap (l : SBl S b) (B : SBd M N h b c) {k : Nat} (hc : k ≤ 16) {Q : Hp → Prop} (hQ : Q h) : w_J5_ensureCapacityInternal_d00df S b (nI k) h Q := by
  unfold w_J5_ensureCapacityInternal_d00df
  rw [l.2.1, B.1]
  refine ⟨l.1, 16, ⟨l.2.2, by decide⟩, ?_⟩
  rw [q_sh0]
  have e : nI k - nI 16 ≤ 0 := by
    have h16 : ∀ k, k < 17 → nI k - nI 16 ≤ 0 := by decide +kernel
    exact h16 k (by omega)
  rw [if_pos e]
  exact hQ
theorem zb_lat (l : SBl S b) (B : SBd M N h b c) {Q : Int32 → Hp → Prop} (hQ : Q (nI 1) h) : w_J5_isLatin1_aae02 S b h Q := by
  unfold w_J5_isLatin1_aae02
  rw [B.1]
  exact ⟨l.1, by rw [if_pos (by decide)]; exact hQ⟩
theorem zb_chr (l : SBl S b) (B : SBd M N h b c) (hc : c < 16) {a : Nat} (ha : a < 128) (e : lnF M N c = a) {Q : Nat → Hp → Prop} (hQ : ∀ h', SBd M N h' b (c + 1) → FrB b h h' → Q b h') : w_J4_append_cf468 S b (nI a) h Q := by
  unfold w_J4_append_cf468 w_J5_append_3fe6f
  rw [B.2.1, nI_add]
  refine ⟨l.1, l.1, zb_cap l B (by omega) (zb_lat l B ?_)⟩
  rw [if_neg (by decide)]
  unfold w_J1_canEncode_fc78d
  simp only [q_lt (show 255 < 2 ^ 31 by decide) (show a < 2 ^ 31 by omega)]
  rw [if_neg (by omega), if_neg (by decide), l.2.1, B.2.1, q_ix (by omega), nI_add, (q_c128 a ha).1]
  refine ⟨⟨16, l.2.2, vp_in_nI hc (by decide)⟩, hQ _ ⟨?_, ?_, fun q hq => ?_⟩ (fun q k q1 q2 => ?_)⟩
  · rw [up_ne (by omega), up_ne (by omega)]; exact B.1
  · rw [up_ne (by omega), up_same]
  · by_cases c1 : q = c
    · subst c1; rw [up_same, e]
    · rw [up_ne (by omega), up_ne (by omega)]; exact B.2.2 q (by omega)
  · rw [up_ne (by omega), up_ne (by omega)]
theorem zb_int (l : SBl S b) (B : SBd M N h b c) (hc : c + 2 ≤ 16) {n : Nat} (hn : n < 100) (e : ∀ j, j < dgs n → lnF M N (c + j) = dgt n j) {Q : Nat → Hp → Prop} (hQ : ∀ h', SBd M N h' b (c + dgs n) → FrB b h h' → Q b h') : w_J4_append_bf812 S b (nI n) h Q := by
  obtain ⟨n1, n2, n3, n4, n5, n6, n7⟩ := q_n100 n hn
  unfold w_J4_append_bf812 w_J5_append_c97b9
  refine ⟨l.1, l.1, ?_⟩
  have E : w_J5_ensureCapacityInternal_d00df S b ((h b 3) + nI (dgs n)) h (fun h4 => (w_J5_isLatin1_aae02 S b h4 (fun r6 h5 => (if r6 = 0 then (False) else (w_J6_getChars_ba4f3 S (nI n) ((h b 3) + nI (dgs n)) (S.2 b 0) h5 (fun r9 h8 => (Q b (up h8 b 3 ((h b 3) + nI (dgs n)))))))))) := by
    have d := dgs_c n
    rw [B.2.1, nI_add, l.2.1]
    refine zb_cap l B (by omega) (zb_lat l B ?_)
    rw [if_neg (by decide)]
    unfold w_J6_getChars_ba4f3 w_J6_getChars_ba4f3_c22
    simp only [q_0le (show n < 2 ^ 31 by omega)]
    rw [if_pos trivial, if_pos n4, n1, q_ix (by omega)]
    refine ⟨vp_in_nI hn (by decide), ?_⟩
    by_cases c9 : n < 10
    · have d1 : dgs n = 1 := by omega
      rw [d1]
      rw [d1] at e hQ
      rw [if_pos (n5.mpr c9), if_pos (by decide), n6, q_pm1, q_ix (by omega)]
      refine ⟨⟨16, l.2.2, vp_in_nI (by omega) (by decide)⟩, hQ _ ⟨?_, ?_, fun q hq => ?_⟩ (fun q k q1 q2 => ?_)⟩
      · rw [up_ne (by omega), up_ne (by omega)]; exact B.1
      · rw [up_same]
      · rw [up_ne (by omega)]
        by_cases c1 : q = c
        · subst c1
          have := e 0 (by decide)
          unfold dgt at this
          rw [if_neg (by omega)] at this
          rw [up_same]
          exact congrArg nI this.symm
        · rw [up_ne (by omega)]; exact B.2.2 q (by omega)
      · rw [up_ne (by omega), up_ne (by omega)]
    · have d1 : dgs n = 2 := by omega
      rw [d1]
      rw [d1] at e hQ
      rw [if_neg (fun q => c9 (n5.mp q)), if_pos (by decide), n6, n7, q_pm1, q_pm1, q_ix (by omega), q_ix (by omega)]
      refine ⟨⟨16, l.2.2, vp_in_nI (by omega) (by decide)⟩, ⟨16, l.2.2, vp_in_nI (by omega) (by decide)⟩, hQ _ ⟨?_, ?_, fun q hq => ?_⟩ (fun q k q1 q2 => ?_)⟩
      · rw [up_ne (by omega), up_ne (by omega), up_ne (by omega)]; exact B.1
      · rw [up_same]
      · rw [up_ne (by omega)]
        by_cases c1 : q = c
        · subst c1
          have := e 0 (by decide)
          unfold dgt at this
          rw [if_pos (by omega), if_neg (by decide)] at this
          rw [up_same]
          exact congrArg nI this.symm
        · rw [up_ne (by omega)]
          by_cases c2 : q = c + 1
          · subst c2
            have := e 1 (by decide)
            unfold dgt at this
            rw [if_pos (by omega), if_pos rfl] at this
            rw [up_same]
            exact congrArg nI this.symm
          · rw [up_ne (by omega)]; exact B.2.2 q (by omega)
      · rw [up_ne (by omega), up_ne (by omega), up_ne (by omega)]
  unfold w_J6_stringSize_0f7a4 w_J6_stringSize_0f7a4_c16
  simp only [q_lt0 (show n < 2 ^ 31 by omega)]
  rw [if_neg id]
  intro P hP
  refine hP _ _ _ ?_
  rw [if_neg (by decide)]
  by_cases c9 : 10 ≤ n
  · rw [if_pos (n2.mpr c9), nI_add]
    refine hP _ _ _ ?_
    rw [if_neg (by decide), if_neg n3, nI_add]
    have d1 : dgs n = 2 := if_pos c9
    rw [d1] at E
    exact E
  · rw [if_neg (fun q => c9 (n2.mp q)), nI_add]
    have d1 : dgs n = 1 := if_neg c9
    rw [d1] at E
    exact E
theorem q_nesw : ∀ d, d < 4 → sBy 4 d = nI (sidF d) ∧ sidF d < 128 := by decide +kernel
theorem zb_nesw {d : Nat} (hd : d < 4) {Q : Int32 → Hp → Prop} (hQ : Q (nI (sidF d)) h) : w_J0_charAt_5068e S 4 (nI d) h Q := by
  obtain ⟨s1, s2⟩ := q_nesw d hd
  obtain ⟨-, -, t1, t2⟩ := q_c128 _ s2
  unfold w_J0_charAt_5068e w_J0_isLatin1_aae02
  refine ⟨by decide, by decide, ?_⟩
  show if nI 1 = 0 then False else _
  rw [if_neg (by decide)]
  unfold w_J1_charAt_3b067 w_J0_checkIndex_df160 w_J3_checkIndex_8e157
  refine ⟨by decide, fun f1 => ?_⟩
  rw [show sLen 4 = 4 from rfl]
  simp only [q_lt0 (show d < 2 ^ 31 by omega), q_lt (show d < 2 ^ 31 by omega) (show 4 < 2 ^ 31 by decide)]
  rw [if_neg id, if_pos hd, q_ix (by omega), s1, t2]
  exact ⟨vp_in_nI hd (by decide), t1, t1, hQ⟩
theorem x_tell {a : Nat} (H : XH S h a M N) (l : SBl S b) (B : SBd M N h b 0) (n1 : a ≠ b) (n2 : a ≠ b + 1) (n3 : a + 1 ≠ b) {Q : Hp → Prop} (hQ : ∀ h', SBd M N h' b (lenF M) → FrB b h h' → Q h') : w_X0_tell S a b h Q := by
  obtain ⟨o1, o2, o3, o4, o5, o6⟩ := H
  obtain ⟨-, -, b3, b4, b5, -, b7, b8, bN, -⟩ := o6
  have d4 := dgs_c (M 4)
  have d7 := dgs_c (M 7)
  unfold w_X0_tell w_X0_tell_c2
  intro P hP
  have K : ∀ (r k : Nat) (h1 : Hp), k + r = M 3 → SBd M N h1 b k → FrB b h h1 → P (nI k) h1 := by
    intro r
    induction r with
    | zero =>
      intro k h1 hk B1 F1
      have hk : k = M 3 := by omega
      subst hk
      refine hP _ _ ⟨o1, ?_⟩
      rw [F1 a 3 n1 n2, o4 3 (by decide) (by decide)]
      simp only [q_le (show M 3 < 2 ^ 31 by omega) (show M 3 < 2 ^ 31 by omega)]
      rw [if_pos (Nat.le_refl _)]
      refine ⟨l.1, zb_chr l B1 (by omega) (a := 32) (by decide) (by unfold lnF; rw [if_neg (by omega), if_pos rfl]) (fun h2 B2 F2 => ?_)⟩
      have F2 := FrB_tr F1 F2
      rw [F2 a 4 n1 n2, o4 4 (by decide) (by decide)]
      refine ⟨l.1, zb_int l B2 (by omega) (by omega) (fun j hj => ?_) (fun h3 B3 F3 => ?_)⟩
      · unfold lnF
        rw [if_neg (by omega), if_neg (by omega), if_pos (by omega)]
        congr 1; omega
      have F3 := FrB_tr F2 F3
      rw [F3 a 5 n1 n2, o4 5 (by decide) (by decide)]
      refine ⟨by decide, zb_nesw (by omega) ?_⟩
      refine ⟨l.1, zb_chr l B3 (by omega) (q_nesw (M 5) (by omega)).2 ?_ (fun h4 B4 F4 => ?_)⟩
      · unfold lnF
        rw [if_neg (by omega), if_neg (by omega), if_neg (by omega), if_pos (by omega)]
      have F4 := FrB_tr F3 F4
      rw [F4 a 8 n1 n2, F4 a 7 n1 n2, o4 7 (by decide) (by decide), o4 8 (by decide) (by decide)]
      simp only [q_eq0 (show M 8 < 2 ^ 31 by omega)]
      unfold lenF at hQ
      by_cases c8 : M 8 = 0
      · rw [if_pos c8]
        rw [if_neg (show ¬ M 8 = 1 by omega)] at hQ
        refine zb_int l B4 (by omega) (by omega) (fun j hj => ?_) (fun h5 B5 F5 => hQ h5 B5 (FrB_tr F4 F5))
        unfold lnF
        rw [if_neg (by omega), if_neg (by omega), if_neg (by omega), if_neg (by omega), if_neg (by omega)]
        congr 1; omega
      · rw [if_neg c8]
        rw [if_pos (show M 8 = 1 by omega)] at hQ
        refine zb_chr l B4 (by omega) (a := 33) (by decide) ?_ (fun h5 B5 F5 => hQ h5 B5 (FrB_tr F4 F5))
        unfold lnF
        rw [if_neg (by omega), if_neg (by omega), if_neg (by omega), if_neg (by omega), if_pos (by omega)]
    | succ r ih =>
      intro k h1 hk B1 F1
      refine hP _ _ ⟨o1, ?_⟩
      rw [F1 a 3 n1 n2, o4 3 (by decide) (by decide)]
      simp only [q_le (show M 3 < 2 ^ 31 by omega) (show k < 2 ^ 31 by omega)]
      have bk := bN k (by omega)
      rw [if_neg (by omega), o2, q_ix (by omega), F1 (a + 1) k (by omega) (by omega), o5 k (by omega), nI_add, nI_add, (q_c128 _ (show 97 + N k < 128 by omega)).2.2.1]
      refine ⟨q_ain o3 (by omega) (by decide), l.1, zb_chr l B1 (by omega) (by omega) (by unfold lnF; rw [if_pos (by omega)]) (fun h2 B2 F2 => ih (k + 1) h2 (by omega) B2 (FrB_tr F1 F2))⟩
  exact K (M 3) 0 h (by omega) B (fun _ _ _ _ => rfl)
theorem dgt_lt {n : Nat} (hn : n < 100) (j : Nat) : dgt n j < 128 := by unfold dgt; split <;> (try split) <;> omega
theorem lnF_lt (H : HB M N) (p : Nat) : lnF M N p < 128 := by
  obtain ⟨-, -, b3, b4, b5, -, b7, b8, bN, -⟩ := H
  have q4 := dgt_lt (show M 4 < 100 by omega)
  have q7 := dgt_lt (show M 7 < 100 by omega)
  have s := (q_nesw (M 5) (by omega)).2
  unfold lnF
  split
  · have := bN p (by assumption); omega
  split
  · omega
  split
  · exact q4 _
  split
  · exact s
  split
  · omega
  · exact q7 _
def lineA (A : Ab) (v w : Int32) : Int32 × Ab := if inR v (aL A 0 4) then (if 0 ≤ w then (lineF (aL A (5 + 2 * ix v)) (aL A (6 + 2 * ix v)) (ix w), A) else rfA A (-4)) else rfA A (-1)
theorem lenF_3 (M : Nat → Nat) : M 3 < lenF M := by unfold lenF; omega
theorem zb_at {p : Nat} (l : SBl S b) (B : SBd M N h b (lenF M)) (H : HB M N) (hp : p < lenF M) {Q : Int32 → Hp → Prop} (hQ : Q (nI (lnF M N p)) h) : w_J4_charAt_5068e S b (nI p) h Q := by
  have l12 := lenF_le H
  obtain ⟨-, -, t1, t2⟩ := q_c128 _ (lnF_lt (N := N) H p)
  unfold w_J4_charAt_5068e w_J5_charAt_5068e
  rw [l.2.1, B.1, B.2.1]
  refine ⟨l.1, l.1, 16, ⟨l.2.2, by decide⟩, ?_⟩
  unfold w_J0_checkIndex_df160 w_J3_checkIndex_8e157
  intro f1
  rw [q_sh0, q_min (show lenF M < 2 ^ 31 by omega) (show 16 < 2 ^ 31 by decide), Nat.min_eq_left (by omega)]
  simp only [q_lt0 (show p < 2 ^ 31 by omega), q_lt (show p < 2 ^ 31 by omega) (show lenF M < 2 ^ 31 by omega)]
  rw [if_neg id, if_pos hp, if_pos (by decide), q_ix (by omega), B.2.2 p hp, t2]
  exact ⟨⟨16, l.2.2, vp_in_nI (by omega) (by decide)⟩, t1, t1, hQ⟩
theorem GrS_sb {sz : Nat} (hsz : ∀ a y, S.1 a = some y → a < sz) : GrS S (sbS S sz) := fun a y h => by
  have := hsz a y h
  refine ⟨?_, funext (fun k => ?_)⟩
  · show (if a = sz then _ else if a = sz + 1 then _ else S.1 a) = some y
    rw [if_neg (by omega), if_neg (by omega)]; exact h
  · show (if a = sz ∧ k = 0 then sz + 1 else S.2 a k) = S.2 a k
    rw [if_neg (by omega)]
theorem x_line (H : SI S h x A) {sz : Nat} (hsz : ∀ a y, S.1 a = some y → a < sz) {v w : Int32} {Q : Int32 → St → Nat → Hp → Prop} (hQ : ∀ S' sz' h', XI S' h' x (lineA A v w).2 → MI_ S' h' (x + 180) A → Q (lineA A v w).1 S' sz' h') : w_X6_line S sz x v w h Q := by
  have X := H.1
  have l := X.1
  have h5 := X.2.1.2.2.1
  unfold w_X6_line
  unfold lineA at hQ
  refine ⟨l.1.1, x_noHead X (fun c => ?_) (fun c => ?_)⟩
  · rw [if_pos (by decide)]
    rw [if_pos c] at hQ
    by_cases c0 : 0 ≤ w
    · rw [if_pos c0]
      rw [if_pos c0] at hQ
      obtain ⟨i, hi, rfl⟩ := inR_ex c (by omega)
      obtain ⟨p, hp, rfl⟩ := nI_of (x := w) (Int32.not_lt.mpr c0)
      rw [q_ix (by omega), q_ix (by omega)] at hQ
      intro S1 r1 sz1 h1 e1 e2 e3 e4
      have z2 := hsz _ _ (la34 H.2.1.1)
      have g : GrS S S1 := by rw [e1]; exact GrS_sb hsz
      have F : ∀ a k, a < sz → h1 a k = h a k := fun a k q => by
        rw [e4]; show (if a = sz + 1 then _ else if a = sz then _ else h a k) = _
        rw [if_neg (by omega), if_neg (by omega)]
      have X1 : XI S1 h1 x A := XI_frame (XI_gr g X) (fun a k q1 q2 => F a k (by omega))
      have Y1 : MI_ S1 h1 (x + 180) A := MI_frame (MI_gr g H.2) (fun a k q1 q2 => F a k (by omega))
      have l1 := X1.1
      have ll := l1.2.1.1
      have Hi := XLhd X1.2.1 hi
      have sl : SBl S1 r1 := by
        rw [e1, e2]
        refine ⟨?_, ?_, ?_⟩
        · show (if sz = sz then _ else _) = _
          rw [if_pos rfl]
        · show (if sz = sz ∧ 0 = 0 then sz + 1 else _) = _
          rw [if_pos ⟨rfl, rfl⟩]
        · show (if sz + 1 = sz then _ else if sz + 1 = sz + 1 then _ else _) = _
          rw [if_neg (by omega), if_pos rfl]
      have z : ∀ k, h1 r1 k = nI 0 := fun k => by
        rw [e4, e2]; show (if sz = sz + 1 then _ else if sz = sz then _ else _) = _
        rw [if_neg (by omega), if_pos rfl]
      have B0 : SBd (aL A (5 + 2 * i)) (aL A (6 + 2 * i)) h1 r1 0 := ⟨z 1, z 3, fun q hq => absurd hq (by omega)⟩
      show ob S1 x 6 ∧ _
      rw [l1.1.2.1, ll.2.1.2.2.2, q_ix (by omega), (ll.2.2.2 i (by omega)).1]
      refine ⟨l1.1.1, ll.1, q_rin ll.2.2.1.2.2.2 (by omega) (by decide), Hi.1, ?_⟩
      refine x_tell Hi sl B0 (by omega) (by omega) (by omega) (fun h2 B2 F2 => ?_)
      have X2 : XI S1 h2 x A := XI_frame X1 (fun a k q1 q2 => F2 a k (by omega) (by omega))
      have Y2 : MI_ S1 h2 (x + 180) A := MI_frame Y1 (fun a k q1 q2 => F2 a k (by omega) (by omega))
      have hq := hQ S1 sz1 h2 X2 Y2
      have l12 := lenF_le Hi.2.2.2.2.2
      refine ⟨sl.1, ⟨sl.1, ⟨sl.1, ?_⟩⟩⟩
      rw [B2.2.1]
      simp only [q_le (show lenF (aL A (5 + 2 * i)) < 2 ^ 31 by omega) hp]
      unfold lineF at hq
      by_cases c2 : p < lenF (aL A (5 + 2 * i))
      · rw [if_neg (by omega)]
        rw [if_pos c2] at hq
        exact zb_at sl B2 Hi.2.2.2.2.2 c2 hq
      · rw [if_pos (by omega)]
        rw [if_neg c2] at hq
        exact hq
    · rw [if_neg c0]
      rw [if_neg c0] at hQ
      exact x_refuse X (by unfold rfok; decide) (fun h' X' F' => hQ _ _ h' X' (SI_m H F'))
  · rw [if_neg (by decide)]
    rw [if_neg c] at hQ
    exact x_refuse X (Or.inl rfl) (fun h' X' F' => hQ _ _ h' X' (SI_m H F'))
theorem y_digits {n : Nat} (hn : n < 100) {Q : Int32 → Hp → Prop} (hQ : Q (nI (dgs n)) h) : w_X7_digitsOf S (nI n) h Q := by
  unfold w_X7_digitsOf
  unfold dgs at hQ
  simp only [q_le (show 10 < 2 ^ 31 by decide) (show n < 2 ^ 31 by omega)]
  by_cases c : 10 ≤ n
  · rw [if_pos c]; rw [if_pos c] at hQ; exact hQ
  · rw [if_neg c]; rw [if_neg c] at hQ; exact hQ
theorem y_digit {n j : Nat} (hn : n < 100) (hj : j < 100) {Q : Int32 → Hp → Prop} (hQ : Q (nI (dgt n j)) h) : w_X7_digitOf S (nI n) (nI j) h Q := by
  unfold w_X7_digitOf
  refine y_digits hn ?_
  have d := dgs_c n
  simp only [q_eq (show dgs n < 2 ^ 31 by omega) (show 1 < 2 ^ 31 by decide), q_eq (show j < 2 ^ 31 by omega) (show 1 < 2 ^ 31 by decide)]
  rw [q_rem (show n < 2 ^ 31 by omega) (by decide) (by decide), q_div (show n < 2 ^ 31 by omega) (by decide) (by decide), nI_add, nI_add]
  unfold dgt at hQ
  by_cases c : 10 ≤ n
  · rw [if_pos c] at hQ
    rw [if_neg (by omega)]
    by_cases c1 : j = 1
    · rw [if_pos c1] at hQ ⊢; exact hQ
    · rw [if_neg c1] at hQ ⊢; exact hQ
  · rw [if_neg c] at hQ
    rw [if_pos (by omega)]
    exact hQ
theorem y_side {d : Nat} (hd : d < 4) {Q : Int32 → Hp → Prop} (hQ : Q (nI (sidF d)) h) : w_X7_sideOf S (nI d) h Q := by
  unfold w_X7_sideOf
  unfold sidF at hQ
  simp only [q_eq0 (show d < 2 ^ 31 by omega), q_eq (show d < 2 ^ 31 by omega) (show 1 < 2 ^ 31 by decide), q_eq (show d < 2 ^ 31 by omega) (show 2 < 2 ^ 31 by decide)]
  split
  · rename_i c; rw [if_pos c] at hQ; exact hQ
  · rename_i c; rw [if_neg c] at hQ
    split
    · rename_i c; rw [if_pos c] at hQ; exact hQ
    · rename_i c; rw [if_neg c] at hQ
      split
      · rename_i c; rw [if_pos c] at hQ; exact hQ
      · rename_i c; rw [if_neg c] at hQ; exact hQ
theorem y_lineAt {L : Ld} (X : ML_ S h m L) {i p : Nat} (hi : i < L 0 4) (hp : p ≤ 30) {Q : Int32 → Hp → Prop} (hQ : Q (lineF (L (5 + 2 * i)) (L (6 + 2 * i)) p) h) : w_X7_lineAt S m (nI i) (nI p) h Q := by
  have l := X.1
  have h5 := X.2.2.1
  obtain ⟨-, -, b3, b4, b5, -, b7, b8, bN, -⟩ := MLb X hi
  have d4 := dgs_c (L (5 + 2 * i) 4)
  have d7 := dgs_c (L (5 + 2 * i) 7)
  unfold w_X7_lineAt
  rw [lr11 l, lr12 l, lr6 l, lr7 l, lr9 l, lr10 l, pk_mul, nI_add, q_ix (show i < 2 ^ 31 by omega), q_ix (show 6 * i + p < 2 ^ 31 by omega), MLe X hi (show KC 3 12 by unfold KC; omega), MLe X hi (show KC 4 7 by unfold KC; omega)]
  simp only [q_le (show L (5 + 2 * i) 3 < 2 ^ 31 by omega) (show p < 2 ^ 31 by omega), q_eq (show p < 2 ^ 31 by omega) (show L (5 + 2 * i) 3 < 2 ^ 31 by omega)]
  refine ⟨l.1, q_ain (la11 l) (by omega) (by decide), ?_⟩
  unfold lineF lenF lnF at hQ
  by_cases c1 : p < L (5 + 2 * i) 3
  · rw [if_neg (by omega)]
    rw [if_pos (by omega), if_pos c1] at hQ
    rw [(X.2.1.2.2 i hi).2 p c1, nI_add]
    exact ⟨q_ain (la12 l) (by omega) (by decide), hQ⟩
  rw [if_pos (by omega)]
  by_cases c2 : p = L (5 + 2 * i) 3
  · rw [if_pos c2]
    rw [if_pos (by omega), if_neg c1, if_pos c2] at hQ
    exact hQ
  rw [if_neg c2]
  rw [if_neg c1, if_neg c2] at hQ
  rw [q_sub (show L (5 + 2 * i) 3 ≤ p by omega), q_sub (show 1 ≤ p - L (5 + 2 * i) 3 by omega)]
  refine ⟨q_ain (la6 l) (by omega) (by decide), y_digits (by omega) ?_⟩
  simp only [q_le (show dgs (L (5 + 2 * i) 4) < 2 ^ 31 by omega) (show p - L (5 + 2 * i) 3 - 1 < 2 ^ 31 by omega)]
  by_cases c3 : p - L (5 + 2 * i) 3 - 1 < dgs (L (5 + 2 * i) 4)
  · rw [if_neg (by omega)]
    rw [if_pos (by omega), if_pos c3] at hQ
    rw [MLe X hi (show KC 4 7 by unfold KC; omega)]
    exact y_digit (by omega) (by omega) hQ
  rw [if_pos (by omega), q_sub (show dgs (L (5 + 2 * i) 4) ≤ p - L (5 + 2 * i) 3 - 1 by omega)]
  rw [if_neg c3] at hQ
  simp only [q_eq0 (show p - L (5 + 2 * i) 3 - 1 - dgs (L (5 + 2 * i) 4) < 2 ^ 31 by omega), q_eq (show p - L (5 + 2 * i) 3 - 1 - dgs (L (5 + 2 * i) 4) < 2 ^ 31 by omega) (show 1 < 2 ^ 31 by decide)]
  by_cases c4 : p - L (5 + 2 * i) 3 - 1 - dgs (L (5 + 2 * i) 4) = 0
  · rw [if_pos c4]
    rw [if_pos (by omega), if_pos c4] at hQ
    rw [MLe X hi (show KC 5 8 by unfold KC; omega)]
    exact ⟨q_ain (la7 l) (by omega) (by decide), y_side (by omega) hQ⟩
  rw [if_neg c4]
  rw [if_neg c4] at hQ
  rw [MLe X hi (show KC 8 11 by unfold KC; omega), MLe X hi (show KC 7 10 by unfold KC; omega)]
  simp only [q_eq (show L (5 + 2 * i) 8 < 2 ^ 31 by omega) (show 1 < 2 ^ 31 by decide)]
  refine ⟨q_ain (la10 l) (by omega) (by decide), ?_⟩
  by_cases c5 : L (5 + 2 * i) 8 = 1
  · rw [if_pos c5]
    rw [if_pos c5, if_pos c5] at hQ
    by_cases c6 : p - L (5 + 2 * i) 3 - 1 - dgs (L (5 + 2 * i) 4) = 1
    · rw [if_pos c6]
      rw [if_pos (by omega)] at hQ
      exact hQ
    · rw [if_neg c6]
      rw [if_neg (by omega)] at hQ
      exact hQ
  rw [if_neg c5]
  rw [if_neg c5, if_neg c5] at hQ
  rw [q_sub (show 1 ≤ p - L (5 + 2 * i) 3 - 1 - dgs (L (5 + 2 * i) 4) by omega)]
  refine ⟨q_ain (la9 l) (by omega) (by decide), y_digits (by omega) ?_⟩
  simp only [q_le (show dgs (L (5 + 2 * i) 7) < 2 ^ 31 by omega) (show p - L (5 + 2 * i) 3 - 1 - dgs (L (5 + 2 * i) 4) - 1 < 2 ^ 31 by omega)]
  by_cases c7 : dgs (L (5 + 2 * i) 7) ≤ p - L (5 + 2 * i) 3 - 1 - dgs (L (5 + 2 * i) 4) - 1
  · rw [if_pos c7]
    rw [if_neg (by omega)] at hQ
    exact hQ
  · rw [if_neg c7]
    rw [if_pos (by omega)] at hQ
    rw [MLe X hi (show KC 7 10 by unfold KC; omega)]
    exact y_digit (by omega) (by omega) hQ
theorem y_line (X : MI_ S h m A) {v w : Int32} {Q : Int32 → Hp → Prop} (hQ : ∀ h', MI_ S h' m (lineA A v w).2 → FrY m h h' → Q (lineA A v w).1 h') : w_X7_line S m v w h Q := by
  have l := X.1.1
  have h5 := X.1.2.2.1
  unfold w_X7_line
  unfold lineA at hQ
  refine ⟨l.1, y_isHead X.1 (fun c => ?_) (fun c => ?_)⟩
  · rw [if_neg (by decide)]
    rw [if_pos c] at hQ
    by_cases c0 : 0 ≤ w
    · rw [if_pos c0]
      rw [if_pos c0] at hQ
      obtain ⟨i, hi, rfl⟩ := inR_ex c (by omega)
      obtain ⟨p, hp, rfl⟩ := nI_of (x := w) (Int32.not_lt.mpr c0)
      rw [q_ix (by omega), q_ix (by omega)] at hQ
      have hq := hQ h X FrY_rf
      simp only [q_le hp (show 30 < 2 ^ 31 by decide)]
      by_cases c1 : p ≤ 30
      · rw [if_pos c1]
        exact y_lineAt X.1 hi c1 hq
      · rw [if_neg c1]
        have l12 := lenF_le (MLb X.1 hi)
        unfold lineF at hq
        rw [if_neg (by omega)] at hq
        exact hq
    · rw [if_neg c0]
      rw [if_neg c0] at hQ
      exact y_no X (by unfold rfok; decide) hQ
  · rw [if_pos (by decide)]
    rw [if_neg c] at hQ
    exact y_no X (Or.inl rfl) hQ
theorem op_line {sz : Nat} (H : SI S h x A) (hsz : ∀ a y, S.1 a = some y → a < sz) {v w : Int32} {Q : Int32 → Int32 → St → Hp → Prop} (hQ : ∀ r A' S' h', SI S' h' x A' → Q r r S' h') : w_X6_line S sz x v w h (fun r S1 sz1 h1 => ob S1 (x + 180) 7 ∧ w_X7_line S1 (x + 180) v w h1 (fun r' h2 => Q r r' S1 h2)) :=
  x_line H hsz (fun S' sz' h' X' Y' => ⟨Y'.1.1.1, y_line Y' (fun h2 Y2 F2 => hQ _ _ S' h2 (SI_mk X' Y2 F2))⟩)
end LINE
