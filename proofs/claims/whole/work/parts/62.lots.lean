/-! PURE: the reference's scratch; lots -/
/-- what of the reference is scratch: reading (23), statements (24), keeping (27), cursor (28), lots (35), its said rows, the thought kept, ends, off -/
def Scr (m a k : Nat) : Prop := (a = m ∧ (k = 23 ∨ k = 24 ∨ k = 27 ∨ k = 28 ∨ k = 35)) ∨ (m + 15 ≤ a ∧ a ≤ m + 19) ∨ a = m + 22 ∨ a = m + 23 ∨ (a = m + 20 ∧ 436 ≤ k ∧ k < 654)
def FrS (m : Nat) (h h' : Hp) : Prop := ∀ a k, ¬ (m + 2 ≤ a ∧ a ≤ m + 13) → ¬ (a = m ∧ 13 ≤ k ∧ k ≤ 15) → ¬ Scr m a k → h' a k = h a k
theorem FrS_rf {m : Nat} {h : Hp} : FrS m h h := fun _ _ _ _ _ => rfl
theorem FrS_tr {m : Nat} {h h1 h2 : Hp} (f : FrS m h h1) (g : FrS m h1 h2) : FrS m h h2 := fun a k q1 q2 q3 => (g a k q1 q2 q3).trans (f a k q1 q2 q3)
theorem FrS_D {m : Nat} {h h1 : Hp} (f : FrD m h h1) : FrS m h h1 := fun a k q1 q2 q3 => by unfold Scr at q3; exact f a k q1 (by omega) (by omega)
theorem FrS_M {m : Nat} {h h1 : Hp} (f : FrM m h h1) : FrS m h h1 := FrS_D (FrD_of f)
theorem FrS_up {m : Nat} {h h1 : Hp} (f : FrS m h h1) {a k : Nat} {v : Int32} (hs : Scr m a k) : FrS m h (up h1 a k v) := fun a' k' q1 q2 q3 => (up_ne (fun e => q3 (by rw [e.1, e.2]; exact hs))).trans (f a' k' q1 q2 q3)
theorem FrY_S {m : Nat} {h h1 : Hp} (f : FrS m h h1) : FrY m h h1 := fun a k q => f a k (by omega) (by omega) (by unfold Scr; omega)
section SCR
variable {S : St} {h h' : Hp} {m : Nat} {A : Ab}
theorem MI_restS (X : MI_ S h m A) {L : Ld} (Y : ML_ S h' m L) (hn : L 0 5 ≤ 999) (e : FrS m h h') : MI_ S h' m (sL A L) := by
  obtain ⟨X1, Xi, Xp, Xt, Xr, Xf, w⟩ := X
  obtain ⟨wl, wt, wb, wk, wr⟩ := w
  have E : ∀ a k, ¬ (m + 2 ≤ a ∧ a ≤ m + 13) → ¬ (a = m ∧ 13 ≤ k ∧ k ≤ 15) → ¬ ((a = m ∧ (k = 23 ∨ k = 24 ∨ k = 27 ∨ k = 28 ∨ k = 35)) ∨ (m + 15 ≤ a ∧ a ≤ m + 19) ∨ a = m + 22 ∨ a = m + 23 ∨ (a = m + 20 ∧ 436 ≤ k ∧ k < 654)) → h' a k = h a k := e
  refine ⟨Y, ⟨?_, fun t => ?_⟩, ⟨?_, ?_⟩, ⟨?_, fun i hi => ?_⟩, ⟨?_, fun i hi => ?_⟩, fun q h1 h2 => ?_, ⟨Y.2.2, hn⟩, wt, wb, wk, wr⟩
  · rw [E _ _ (by omega) (by omega) (by omega)]; exact Xi.1
  · exact KSx_same (Xi.2 t) (wt.2 t).1 (fun k q1 q2 => E _ _ (by omega) (by omega) (by omega))
  · rw [E _ _ (by omega) (by omega) (by omega)]; exact Xp.1
  · obtain ⟨fb, n1, n2, n3⟩ := Xp.2
    refine ⟨fb, n1, ?_, fun j hj => KSx_same (n3 j hj) (wb.2 j hj).1 (fun k q1 q2 => E _ _ (by omega) (by omega) (by omega))⟩
    rw [E _ _ (by omega) (by omega) (by omega)]; exact n2
  · rw [E _ _ (by omega) (by omega) (by omega)]; exact Xt.1
  · rw [E _ _ (by omega) (by omega) (by omega)]; exact Xt.2 i hi
  · rw [E _ _ (by omega) (by omega) (by omega)]; exact Xr.1
  · rw [E _ _ (by omega) (by omega) (by omega)]; exact Xr.2 i hi
  · rw [E _ _ (by omega) (by omega) (by omega)]; exact Xf q h1 h2
theorem MI_mindS (X : MI_ S h m A) (Y : ML_ S h' m (aL A)) (e : FrS m h h') : MI_ S h' m A := MI_restS X Y X.2.2.2.2.2.2.1.2 e
/-- only scratch has changed -/
theorem MI_scr (X : MI_ S h m A) (e : ∀ a k, ¬ Scr m a k → h' a k = h a k) : MI_ S h' m A := MI_mindS X (ML_same X.1 (fun a k q => e a k (by unfold Scr; omega))) (fun a k _ _ q => e a k q)
theorem TH_S {h1 : Hp} {L M M1 : Ld} (X : TH S h m L M) (Y : ML_ S h1 m M1) (f : ∀ k, h1 (m + 20) k = h (m + 20) k) : TH S h1 m L M1 := ⟨Y, KSx_same X.2.1 X.2.2 (fun k _ _ => f k), X.2.2⟩
end SCR
def popF (s : Nat) : Nat := s % 2 + s / 2 % 2 + s / 4 % 2 + s / 8 % 2 + s / 16 % 2
theorem pop_add : ∀ k, k < 5 → ∀ a, a < 2 ^ k → popF (a + 2 ^ k) = popF a + 1 := by decide +kernel
theorem pop_bits (p : Nat → Bool) : ∀ k, k ≤ 5 → popF (bitsF p k) = sumF (fun i => if p i = true then 1 else 0) k
  | 0, _ => by simp [popF, bitsF, sumF]
  | k + 1, hk => by
    have ih := pop_bits p k (by omega)
    simp only [bitsF, sumF]
    by_cases c : p k = true
    · rw [if_pos c, if_pos c, pop_add k (by omega) _ (bitsF_lt p k), ih]
    · rw [if_neg c, if_neg c, Nat.add_zero, Nat.add_zero, ih]
def bcV (v0 : Int32) : Int32 := ((((((((v0 - ((iushr v0 (nI 1)) &&& (1431655765 : Int32))) &&& (858993459 : Int32)) + ((iushr (v0 - ((iushr v0 (nI 1)) &&& (1431655765 : Int32))) (nI 2)) &&& (858993459 : Int32))) + (iushr (((v0 - ((iushr v0 (nI 1)) &&& (1431655765 : Int32))) &&& (858993459 : Int32)) + ((iushr (v0 - ((iushr v0 (nI 1)) &&& (1431655765 : Int32))) (nI 2)) &&& (858993459 : Int32))) (nI 4))) &&& (252645135 : Int32)) + (iushr (((((v0 - ((iushr v0 (nI 1)) &&& (1431655765 : Int32))) &&& (858993459 : Int32)) + ((iushr (v0 - ((iushr v0 (nI 1)) &&& (1431655765 : Int32))) (nI 2)) &&& (858993459 : Int32))) + (iushr (((v0 - ((iushr v0 (nI 1)) &&& (1431655765 : Int32))) &&& (858993459 : Int32)) + ((iushr (v0 - ((iushr v0 (nI 1)) &&& (1431655765 : Int32))) (nI 2)) &&& (858993459 : Int32))) (nI 4))) &&& (252645135 : Int32)) (nI 8))) + (iushr ((((((v0 - ((iushr v0 (nI 1)) &&& (1431655765 : Int32))) &&& (858993459 : Int32)) + ((iushr (v0 - ((iushr v0 (nI 1)) &&& (1431655765 : Int32))) (nI 2)) &&& (858993459 : Int32))) + (iushr (((v0 - ((iushr v0 (nI 1)) &&& (1431655765 : Int32))) &&& (858993459 : Int32)) + ((iushr (v0 - ((iushr v0 (nI 1)) &&& (1431655765 : Int32))) (nI 2)) &&& (858993459 : Int32))) (nI 4))) &&& (252645135 : Int32)) + (iushr (((((v0 - ((iushr v0 (nI 1)) &&& (1431655765 : Int32))) &&& (858993459 : Int32)) + ((iushr (v0 - ((iushr v0 (nI 1)) &&& (1431655765 : Int32))) (nI 2)) &&& (858993459 : Int32))) + (iushr (((v0 - ((iushr v0 (nI 1)) &&& (1431655765 : Int32))) &&& (858993459 : Int32)) + ((iushr (v0 - ((iushr v0 (nI 1)) &&& (1431655765 : Int32))) (nI 2)) &&& (858993459 : Int32))) (nI 4))) &&& (252645135 : Int32)) (nI 8))) (nI 16))) &&& (nI 63))
theorem bcV_w {S : St} {h : Hp} {v : Int32} {Q : Int32 → Hp → Prop} (hQ : Q (bcV v) h) : w_J6_bitCount_0f7a4 S v h Q := by
  unfold w_J6_bitCount_0f7a4
  exact hQ
theorem bcV_ok : ∀ s, s < 32 → bcV (nI s) = nI (popF s) := by decide +kernel
def stF (L : Ld) : Nat := sumF (fun i => L (5 + 2 * i) 8) (L 0 4)
theorem set_lt {L : Ld} (w : WfL L) : setF L < 32 := by
  have h1 : setF L < 2 ^ L 0 4 := bitsF_lt (fun i => decide (L (5 + 2 * i) 8 = 1)) (L 0 4)
  have h2 := pow_le32 w.1
  omega
theorem pop_set {L : Ld} (w : WfL L) : popF (setF L) = stF L := by
  unfold setF stF
  rw [pop_bits _ _ w.1]
  refine sumF_congr _ (fun i hi => ?_)
  have b8 := (w.2.2.2 i hi).2.2.2.2.2.2.2.1
  by_cases c : L (5 + 2 * i) 8 = 1
  · rw [if_pos (decide_eq_true c), c]
  · rw [if_neg (by rw [decide_eq_false c]; decide)]; omega
theorem x_bitCount {S : St} {h : Hp} {L : Ld} (w : WfL L) {Q : Int32 → Hp → Prop} (hQ : Q (nI (stF L)) h) : w_J6_bitCount_0f7a4 S (nI (setF L)) h Q := by
  refine bcV_w ?_
  rw [bcV_ok _ (set_lt w), pop_set w]
  exact hQ
def nxZ (z : Int32) : Int32 := z * (1103515245 : Int32) + nI 12345
def drN (z : Int32) (n : Nat) : Nat := z.toBitVec.toNat % 2 ^ 31 / 65536 % n
theorem drN_lt (z : Int32) {n : Nat} (h0 : 0 < n) : drN z n < n := Nat.mod_lt _ h0
theorem q_draw (z : Int32) {n : Nat} (h0 : 0 < n) (hn : n < 2 ^ 31) : irem ((z &&& (2147483647 : Int32)) / (65536 : Int32)) (nI n) = nI (drN z n) := by
  rw [pk_and z 31 (by decide), show (65536 : Int32) = nI 65536 from rfl, q_div (Nat.mod_lt _ (by decide)) (by decide) (by decide), q_rem (by have := Nat.mod_lt z.toBitVec.toNat (show 0 < 2 ^ 31 by decide); omega) h0 hn]
  rfl
def scF : Nat → Nat → Int32 → Ld → Int32 × Ld
  | 0, _, z, L => (z, L)
  | f + 1, i, z, L => scF f (i + 1) (nxZ (nxZ z)) (updL (updL L (5 + 2 * i) 4 (drN (nxZ z) 48)) (5 + 2 * i) 5 (drN (nxZ (nxZ z)) 4))
def mesF (w : Nat) (L : Ld) : Int32 := if w = 0 then nI (L 0 6) else nI (stF L)
def gmF (w : Nat) (L : Ld) : Nat → Int32 → Int32 → Int32
  | 0, _, a => a
  | r + 1, z, a => gmF w L r (scF (L 0 4) 0 z L).1 (a + (mesF w (nightsF 12 (scF (L 0 4) 0 z L).2) - mesF w L))
theorem scF_0 : ∀ (f i : Nat) (z : Int32) (L : Ld), (scF f i z L).2 0 = L 0
  | 0, i, z, L => rfl
  | f + 1, i, z, L => by
    simp only [scF]
    rw [scF_0 f (i + 1)]
    funext k
    rw [updL_ne (by omega), updL_ne (by omega)]
section LOTS
variable {S : St} {h h' : Hp} {x m : Nat} {A : Ab}
theorem x_draw {a : Nat} (ho : ob S a 2) {z : Int32} (ez : h a 3 = z) {n : Nat} (h0 : 0 < n) (hn : n < 2 ^ 31) {Q : Int32 → Hp → Prop} (hQ : Q (nI (drN (nxZ z) n)) (up h a 3 (nxZ z))) : w_X2_drawBelow S a (nI n) h Q := by
  unfold w_X2_drawBelow
  rw [ez, up_same, q_draw _ h0 hn]
  simp only [q_le0 hn, q_eq0 hn]
  rw [if_neg (by omega)]
  exact ⟨ho, by decide, by omega, hQ⟩
def FrT (x : Nat) (h h' : Hp) : Prop := ∀ a k, a < x + 157 ∨ x + 175 ≤ a → h' a k = h a k
theorem x_scatter (l : LayX S x) {L0 : Ld} (X : XL S h (x + 158) L0) {z : Int32} (ez : h (x + 157) 3 = z) {Q : Hp → Prop} (hQ : ∀ h', XL S h' (x + 158) (scF (L0 0 4) 0 z L0).2 → h' (x + 157) 3 = (scF (L0 0 4) 0 z L0).1 → FrT x h h' → Q h') : w_X2_scatterHeads S (x + 157) h Q := by
  have h5 := X.2.2.1
  have lt := l.2.1.2.2.1
  unfold w_X2_scatterHeads w_X2_scatterHeads_c2
  intro P hP
  have K : ∀ (f i : Nat) (z : Int32) (L : Ld) (h1 : Hp), i + f = L0 0 4 → XL S h1 (x + 158) L → h1 (x + 157) 3 = z → L 0 4 = L0 0 4 → FrT x h h1 → scF (L0 0 4) 0 (h (x + 157) 3) L0 = scF f i z L → P (nI i) h1 := by
    intro f
    induction f with
    | zero =>
      intro i z L h1 hi Y ez1 e4 F1 es
      refine hP _ _ ?_
      rw [l.2.2.2.2.1.2, Y.2.1.1.1]
      simp only [q_le (show L 0 4 < 2 ^ 31 by omega) (show i < 2 ^ 31 by omega)]
      rw [if_pos (by omega)]
      rw [ez] at es
      refine ⟨l.2.2.2.2.1.1, lt.1, hQ h1 ?_ ?_ F1⟩
      · rw [es]; exact Y
      · rw [es]; exact ez1
    | succ f ih =>
      intro i z L h1 hi Y ez1 e4 F1 es
      have Hi := XLhd Y (show i < L 0 4 by omega)
      refine hP _ _ ?_
      rw [l.2.2.2.2.1.2, Y.2.1.1.1]
      simp only [q_le (show L 0 4 < 2 ^ 31 by omega) (show i < 2 ^ 31 by omega)]
      rw [if_neg (by omega), lt.2.1.2.2.2, q_ix (by omega), (lt.2.2.2 i (by omega)).1]
      refine ⟨l.2.2.2.2.1.1, lt.1, q_rin lt.2.2.1.2.2.2 (by omega) (by decide), ?_⟩
      refine x_draw l.2.2.2.2.1.1 ez1 (by decide) (by decide) ?_
      refine ⟨Hi.1, ?_⟩
      have d1 := drN_lt (nxZ z) (show 0 < 48 by decide)
      have Y1 : XL S (up h1 (x + 157) 3 (nxZ z)) (x + 158) L := XL_same Y (fun a k q1 q2 => up_ne (by omega))
      have Y2 := XLsetH Y1 (show i < L 0 4 by omega) (k := 4) (v := drN (nxZ z) 48) (by decide) (by decide) (by decide) (HB_up (Y.2.2.2.2.2 i (by omega)) (Or.inl ⟨rfl, by omega⟩))
      have e1 : (up (up h1 (x + 157) 3 (nxZ z)) (x + 158 + (5 + 2 * i)) 4 (nI (drN (nxZ z) 48))) (x + 157) 3 = nxZ z := by rw [up_ne (by omega), up_same]
      refine x_draw l.2.2.2.2.1.1 e1 (by decide) (by decide) ?_
      have d2 := drN_lt (nxZ (nxZ z)) (show 0 < 4 by decide)
      have Y3 : XL S (up (up (up h1 (x + 157) 3 (nxZ z)) (x + 158 + (5 + 2 * i)) 4 (nI (drN (nxZ z) 48))) (x + 157) 3 (nxZ (nxZ z))) (x + 158) _ := XL_same Y2 (fun a k q1 q2 => up_ne (by omega))
      have e4' : (updL L (5 + 2 * i) 4 (drN (nxZ z) 48)) 0 4 = L 0 4 := updL_ne (by omega)
      have Y4 := XLsetH Y3 (i := i) (by rw [e4']; omega) (k := 5) (v := drN (nxZ (nxZ z)) 4) (by decide) (by decide) (by decide) (HB_up (Y3.2.2.2.2.2 i (by rw [e4']; omega)) (Or.inr (Or.inl ⟨rfl, by omega⟩)))
      rw [nI_add]
      refine ih (i + 1) (nxZ (nxZ z)) _ _ (by omega) Y4 ?_ ?_ ?_ es
      · rw [up_ne (by omega), up_same]
      · rw [updL_ne (by omega), e4']; exact e4
      · intro a k q
        rw [up_ne (by omega), up_ne (by omega), up_ne (by omega), up_ne (by omega)]
        exact F1 a k q
  exact K (L0 0 4) 0 z L0 h (by omega) X ez rfl (fun _ _ _ => rfl) (by rw [ez])
theorem XI_T (X : XI S h x A) (f : FrT x h h') : XI S h' x A := XI_cong X (fun a k q1 q2 => f a k (by omega))
theorem FrX_T {h1 : Hp} (f : FrT x h h1) : FrX x h h1 := fun a k q => f a k (by omega)
theorem x_play (X : XI S h x A) {n w : Nat} {z : Int32} (hn : n ≤ 20) (hw : w ≤ 1) {Q : Int32 → Hp → Prop} (hQ : ∀ h', XI S h' x A → FrX x h h' → Q (gmF w (aL A) n z 0) h') : w_X2_playGames S (x + 157) (x + 1) (nI n) z (nI w) h Q := by
  have l := X.1
  have hnt := X.2.2.2.2.2.2.2.1.2
  have wf := X.2.2.2.2.2.2.2.1.1
  have h5 := wf.1
  have lt := l.2.1.2.2.1
  unfold w_X2_playGames
  refine ⟨l.2.2.2.2.1.1, ?_⟩
  unfold w_X2_playGames_c14
  intro P hP
  have F0 : FrT x h (up h (x + 157) 3 z) := fun a k q => up_ne (by omega)
  have K : ∀ (r i : Nat) (y a b : Int32) (h1 : Hp), i + r = n → XI S h1 x A → FrX x h h1 → h1 (x + 157) 3 = y → gmF 0 (aL A) n z 0 = gmF 0 (aL A) r y a → gmF 1 (aL A) n z 0 = gmF 1 (aL A) r y b → P a b (nI i) h1 := by
    intro r
    induction r with
    | zero =>
      intro i y a b h1 hi X1 F1 ey ea eb
      refine hP _ _ _ _ ?_
      simp only [q_le (show n < 2 ^ 31 by omega) (show i < 2 ^ 31 by omega), q_eq0 (show w < 2 ^ 31 by omega)]
      rw [if_pos (by omega)]
      have hq := hQ h1 X1 F1
      by_cases c : w = 0
      · rw [if_pos c]; rw [c, ea] at hq; exact hq
      · rw [if_neg c]; rw [show w = 1 by omega, eb] at hq; exact hq
    | succ r ih =>
      intro i y a b h1 hi X1 F1 ey ea eb
      refine hP _ _ _ _ ?_
      simp only [q_le (show n < 2 ^ 31 by omega) (show i < 2 ^ 31 by omega)]
      rw [if_neg (by omega), l.2.2.2.2.1.2]
      refine ⟨l.2.2.2.2.1.1, x_think X1 (fun h2 X2 Y2 F2 => ?_)⟩
      refine x_scatter l Y2 (z := y) (by rw [F2 _ _ (by omega)]; exact ey) (fun h3 Y3 e3 F3 => ?_)
      have e0 : (scF (aL A 0 4) 0 y (aL A)).2 0 = aL A 0 := scF_0 _ _ _ _
      have e05 : (scF (aL A 0 4) 0 y (aL A)).2 0 5 = aL A 0 5 := by rw [e0]
      refine ⟨lt.1, x_pass Y3 (n := 12) (by omega) (fun h4 Y4 F4 => ?_)⟩
      have X4 : XI S h4 x A := XI_thought (XI_T X2 F3) F4
      have G4 : FrX x h1 h4 := FrX_tr (FrX_of F2 (by omega)) (FrX_tr (FrX_T F3) (FrX_of F4 (by omega)))
      refine ⟨l.2.1.1.1, x_setBits Y4 (x_bitCount Y4.2.2 (x_setBits X4.2.1 (x_bitCount X4.2.1.2.2 ?_)))⟩
      rw [Y4.2.1.1.2.2, X4.2.1.2.1.1.2.2, nI_add]
      refine ih (i + 1) _ _ _ h4 (by omega) X4 (FrX_tr F1 G4) ?_ ea eb
      rw [F4 _ _ (by omega)]; exact e3
  exact K n 0 z (nI 0) (nI 0) _ (by omega) (XI_T X F0) (FrX_T F0) (up_same _ _ _ _) rfl rfl
def lotsA (A : Ab) (n z w : Int32) : Int32 × Ab := if ckA True n 1 20 w 2 = 0 then (gmF (ix w) (aL A) (ix n) z 0, A) else rfA A (ckA True n 1 20 w 2)
theorem x_lots (X : XI S h x A) {n z w : Int32} {Q : Int32 → Hp → Prop} (hQ : ∀ h', XI S h' x (lotsA A n z w).2 → FrX x h h' → Q (lotsA A n z w).1 h') : w_X6_lots S x n z w h Q := by
  have l := X.1
  unfold w_X6_lots
  unfold lotsA at hQ
  refine x_faultA (by decide) ?_
  rw [ckA_iff (show (nI 0 = 0) ↔ True from ⟨fun _ => trivial, fun _ => nI_0⟩)]
  by_cases g : ckA True n 1 20 w 2 = 0
  · rw [if_pos g] at hQ
    rw [show ckA True n 1 20 w (1 + 1) = 0 from g, if_pos rfl]
    obtain ⟨-, g2, g3⟩ := ckA_0 g
    obtain ⟨j, j1, hj, rfl⟩ := fN_0 (by decide) (by decide) g2
    obtain ⟨q, hq, rfl⟩ := inR_ex g3 (by decide)
    rw [q_ix (by omega), q_ix (by omega)] at hQ
    rw [l.1.2.2.2.2.2.1, l.1.2.1]
    simp only [q_eq (show q < 2 ^ 31 by omega) (show 1 < 2 ^ 31 by decide)]
    refine ⟨l.1.1, ?_⟩
    by_cases c : q = 1
    · rw [if_pos c]
      subst c
      exact ⟨l.2.2.2.2.1.1, x_play X hj (by decide) hQ⟩
    · rw [if_neg c]
      have c : q = 0 := by omega
      subst c
      exact ⟨l.2.2.2.2.1.1, x_play X hj (by decide) hQ⟩
  · rw [if_neg g] at hQ
    rw [show ckA True n 1 20 w (1 + 1) = ckA True n 1 20 w 2 from rfl, if_neg g]
    exact ⟨l.1.1, x_refuse X (rf_of (ckA_c _ _ _ _ _ _) g) hQ⟩
theorem y_draw (l : LayM S m) {z : Int32} (ez : h m 35 = z) {n : Nat} (h0 : 0 < n) (hn : n < 2 ^ 31) {Q : Int32 → Hp → Prop} (hQ : Q (nI (drN (nxZ z) n)) (up h m 35 (nxZ z))) : w_X7_draw S m (nI n) h Q := by
  unfold w_X7_draw
  rw [ez, up_same, q_draw _ h0 hn]
  simp only [q_eq0 hn]
  exact ⟨l.1, by decide, by omega, hQ⟩
theorem y_byLot {L0 : Ld} (X : ML_ S h m L0) {z : Int32} (ez : h m 35 = z) {Q : Hp → Prop} (hQ : ∀ h', ML_ S h' m (scF (L0 0 4) 0 z L0).2 → h' m 35 = (scF (L0 0 4) 0 z L0).1 → FrS m h h' → (∀ k, h' (m + 20) k = h (m + 20) k) → Q h') : w_X7_standsByLot S m h Q := by
  have l := X.1
  have h5 := X.2.2.1
  unfold w_X7_standsByLot w_X7_standsByLot_c2
  intro P hP
  have K : ∀ (f i : Nat) (z : Int32) (L : Ld) (h1 : Hp), i + f = L0 0 4 → ML_ S h1 m L → h1 m 35 = z → L 0 4 = L0 0 4 → FrS m h h1 → (∀ k, h1 (m + 20) k = h (m + 20) k) → scF (L0 0 4) 0 (h m 35) L0 = scF f i z L → P (nI i) h1 := by
    intro f
    induction f with
    | zero =>
      intro i z L h1 hi Y ez1 e4 F1 F2 es
      refine hP _ _ ⟨l.1, ?_⟩
      rw [Y.2.1.1.1]
      simp only [q_le (show L 0 4 < 2 ^ 31 by omega) (show i < 2 ^ 31 by omega)]
      rw [if_pos (by omega)]
      rw [ez] at es
      refine hQ h1 ?_ ?_ F1 F2
      · rw [es]; exact Y
      · rw [es]; exact ez1
    | succ f ih =>
      intro i z L h1 hi Y ez1 e4 F1 F2 es
      refine hP _ _ ⟨l.1, ?_⟩
      rw [Y.2.1.1.1]
      simp only [q_le (show L 0 4 < 2 ^ 31 by omega) (show i < 2 ^ 31 by omega)]
      rw [if_neg (by omega)]
      refine y_draw l ez1 (by decide) (by decide) ?_
      rw [lr6 l, lr7 l, q_ix (by omega)]
      refine ⟨q_ain (la6 l) (by omega) (by decide), ?_⟩
      have d1 := drN_lt (nxZ z) (show 0 < 48 by decide)
      have Y1 : ML_ S (up h1 m 35 (nxZ z)) m L := ML_same Y (fun a k q => up_ne (by omega))
      have Y2 := MLsetH Y1 (show i < L 0 4 by omega) (k := 4) (c := 7) (v := drN (nxZ z) 48) (by unfold KC; omega) (by decide) (HB_up (Y.2.2.2.2.2 i (by omega)) (Or.inl ⟨rfl, by omega⟩))
      have e1 : (up (up h1 m 35 (nxZ z)) (m + 7) i (nI (drN (nxZ z) 48))) m 35 = nxZ z := by rw [up_ne (by omega), up_same]
      refine y_draw l e1 (by decide) (by decide) ?_
      refine ⟨q_ain (la7 l) (by omega) (by decide), ?_⟩
      have d2 := drN_lt (nxZ (nxZ z)) (show 0 < 4 by decide)
      have Y3 : ML_ S (up (up (up h1 m 35 (nxZ z)) (m + 7) i (nI (drN (nxZ z) 48))) m 35 (nxZ (nxZ z))) m _ := ML_same Y2 (fun a k q => up_ne (by omega))
      have e4' : (updL L (5 + 2 * i) 4 (drN (nxZ z) 48)) 0 4 = L 0 4 := updL_ne (by omega)
      have Y4 := MLsetH Y3 (i := i) (by rw [e4']; omega) (k := 5) (c := 8) (v := drN (nxZ (nxZ z)) 4) (by unfold KC; omega) (by decide) (HB_up (Y3.2.2.2.2.2 i (by rw [e4']; omega)) (Or.inr (Or.inl ⟨rfl, by omega⟩)))
      rw [nI_add]
      refine ih (i + 1) (nxZ (nxZ z)) _ _ (by omega) Y4 ?_ ?_ ?_ ?_ es
      · rw [up_ne (by omega), up_same]
      · rw [updL_ne (by omega), e4']; exact e4
      · intro a k q1 q2 q3
        have q4 := q3
        unfold Scr at q4
        rw [up_ne (by omega), up_ne (by omega), up_ne (by omega), up_ne (by omega)]
        exact F1 a k q1 q2 q3
      · intro k
        rw [up_ne (by omega), up_ne (by omega), up_ne (by omega), up_ne (by omega)]
        exact F2 k
  exact K (L0 0 4) 0 z L0 h (by omega) X ez rfl FrS_rf (fun _ => rfl) (by rw [ez])
theorem y_stall {L : Ld} (X : ML_ S h m L) {Q : Int32 → Hp → Prop} (hQ : Q (nI (stF L)) h) : w_X7_allOf S (S.2 m 10) (h m 13) h Q := by
  have l := X.1
  rw [lr10 l, X.2.1.1.1]
  exact y_allOf (c := 5) (f := fun i => L (5 + 2 * i) 8) (la10 l) (by decide) X.2.2.1 (fun i hi => MLe X hi (show KC 8 11 by unfold KC; omega)) hQ
theorem y_lots (X : MI_ S h m A) {n z w : Int32} {Q : Int32 → Hp → Prop} (hQ : ∀ h', MI_ S h' m (lotsA A n z w).2 → FrY m h h' → Q (lotsA A n z w).1 h') : w_X7_lots S m n z w h Q := by
  have l := X.1.1
  have hnt := X.2.2.2.2.2.2.1.2
  have wf := X.2.2.2.2.2.2.1.1
  unfold w_X7_lots
  unfold lotsA at hQ
  refine y_bound ?_
  have e : ckN True n 1 20 = fN n 1 20 := by unfold ckN; rw [if_pos trivial]
  by_cases g : fN n 1 20 = 0
  · rw [if_pos g]
    refine y_isIn (fun c2 => ?_) (fun c2 => ?_)
    · rw [if_neg (by decide)]
      have c3 := (inR_le (by decide)).mp c2
      have g0 : ckA True n 1 20 w 2 = 0 := by unfold ckA; rw [e, if_pos g, if_pos c3]
      rw [if_pos g0] at hQ
      obtain ⟨j, j1, hj, rfl⟩ := fN_0 (by decide) (by decide) g
      obtain ⟨q, hq, rfl⟩ := inR_ex c3 (by decide)
      rw [q_ix (by omega), q_ix (by omega)] at hQ
      refine ⟨l.1, ?_⟩
      unfold w_X7_lots_c50
      intro P hP
      have K : ∀ (r i : Nat) (y a : Int32) (h1 : Hp), i + r = j → MI_ S h1 m A → FrY m h h1 → h1 m 35 = y → gmF q (aL A) j z 0 = gmF q (aL A) r y a → P a (nI i) h1 := by
        intro r
        induction r with
        | zero =>
          intro i y a h1 hi X1 F1 ey ea
          refine hP _ _ _ ?_
          simp only [q_le (show j < 2 ^ 31 by omega) (show i < 2 ^ 31 by omega)]
          rw [if_pos (by omega)]
          have hq := hQ h1 X1 F1
          rw [ea] at hq; exact hq
        | succ r ih =>
          intro i y a h1 hi X1 F1 ey ea
          refine hP _ _ _ ?_
          simp only [q_le (show j < 2 ^ 31 by omega) (show i < 2 ^ 31 by omega), q_eq0 (show q < 2 ^ 31 by omega)]
          rw [if_neg (by omega)]
          have E : ∀ s0, s0 = mesF q (aL A) → w_X7_lots_c78 S m (nI j) (nI q) a (nI i) s0 h1 Q P := by
            intro s0 es
            unfold w_X7_lots_c78
            refine ⟨l.1, y_minds X1.1 (fun h2 T2 D2 => ?_)⟩
            refine y_byLot T2.1 (z := y) (by rw [D2 _ _ (by omega) (by omega) (by omega)]; exact ey) (fun h3 Y3 e3 F3 G3 => ?_)
            have e0 : (scF (aL A 0 4) 0 y (aL A)).2 0 = aL A 0 := scF_0 _ _ _ _
            have e05 : (scF (aL A 0 4) 0 y (aL A)).2 0 5 = aL A 0 5 := by rw [e0]
            refine y_goes Y3 (n := 12) (by omega) (fun h4 Y4 F4 => ?_)
            have T4 := TH_M (TH_S T2 Y3 G3) Y4 F4
            have D4 := FrS_tr (FrS_D D2) (FrS_tr F3 (FrS_M F4))
            have e4 : h4 m 35 = (scF (aL A 0 4) 0 y (aL A)).1 := by rw [F4 _ _ (by omega)]; exact e3
            simp only [q_eq0 (show q < 2 ^ 31 by omega)]
            by_cases c : q = 0
            · rw [if_pos c, Y4.2.1.1.2.2, nI_add]
              refine y_forgets T4 (fun h5 Y5 D5 => ?_)
              have D6 := FrS_tr D4 (FrS_D D5)
              refine ih (i + 1) (scF (aL A 0 4) 0 y (aL A)).1 _ h5 (by omega) (MI_mindS X1 Y5 D6) (FrY_tr F1 (FrY_S D6)) (by rw [D5 _ _ (by omega) (by omega) (by omega)]; exact e4) ?_
              rw [ea, es]; subst c; rfl
            · rw [if_neg c]
              refine y_stall Y4 (y_forgets T4 (fun h5 Y5 D5 => ?_))
              have D6 := FrS_tr D4 (FrS_D D5)
              rw [nI_add]
              refine ih (i + 1) (scF (aL A 0 4) 0 y (aL A)).1 _ h5 (by omega) (MI_mindS X1 Y5 D6) (FrY_tr F1 (FrY_S D6)) (by rw [D5 _ _ (by omega) (by omega) (by omega)]; exact e4) ?_
              have c : q = 1 := by omega
              rw [ea, es]; subst c; rfl
          by_cases c : q = 0
          · rw [if_pos c, X1.1.2.1.1.2.2]
            exact ⟨l.1, E _ (by unfold mesF; rw [if_pos c])⟩
          · rw [if_neg c]
            exact ⟨l.1, y_stall X1.1 (E _ (by unfold mesF; rw [if_neg c]))⟩
      have X0 : MI_ S (up h m 35 z) m A := MI_scr X (fun a k q3 => up_ne (fun e => q3 (Or.inl ⟨e.1, by omega⟩)))
      exact K j 0 z (nI 0) _ (by omega) X0 (FrY_up0 FrY_rf) (up_same _ _ _ _) rfl
    · rw [if_pos (by decide)]
      have g0 : ckA True n 1 20 w 2 = -2 := by unfold ckA; rw [e, if_pos g, if_neg (fun q => c2 ((inR_le (by decide)).mpr q))]
      rw [g0, if_neg (by decide)] at hQ
      exact ⟨l.1, y_no X (by unfold rfok; decide) hQ⟩
  · rw [if_neg g]
    have g0 : ckA True n 1 20 w 2 = fN n 1 20 := by unfold ckA; rw [e, if_neg g]
    rw [g0, if_neg g] at hQ
    exact ⟨l.1, y_no X (rf_of (fN_c _ _ _) g) hQ⟩
theorem op_lots (H : SI S h x A) {n z w : Int32} {Q : Int32 → Int32 → Hp → Prop} (hQ : ∀ r A' h', SI S h' x A' → Q r r h') : w_X6_lots S x n z w h (fun r h1 => w_X7_lots S (x + 180) n z w h1 (fun r' h2 => Q r r' h2)) :=
  x_lots H.1 (fun h1 X1 F1 => y_lots (SI_m H F1) (fun h2 Y2 F2 => hQ _ _ h2 (SI_mk X1 Y2 F2)))
end LOTS
