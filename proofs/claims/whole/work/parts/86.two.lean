/-! PURE: two -/
/-- the picture has grown -/
def GrS (S S' : St) : Prop := ∀ a y, S.1 a = some y → S'.1 a = some y ∧ S'.2 a = S.2 a
theorem GrS_rf {S : St} : GrS S S := fun _ _ h => ⟨h, rfl⟩
theorem GrS_tr {S S1 S2 : St} (f : GrS S S1) (g : GrS S1 S2) : GrS S S2 := fun a y h => ⟨(g a y (f a y h).1).1, (g a y (f a y h).1).2.trans (f a y h).2⟩
theorem GrS_nw {S : St} {sz n : Nat} (hsz : ∀ a y, S.1 a = some y → a < sz) : GrS S (nwS S sz n) := fun a y h => ⟨by
  have := hsz a y h
  show (if a = sz then _ else S.1 a) = some y
  rw [if_neg (by omega)]; exact h, rfl⟩
theorem hsz_nw {S : St} {sz n : Nat} (hsz : ∀ a y, S.1 a = some y → a < sz) : ∀ a y, (nwS S sz n).1 a = some y → a < sz + 1 := fun a y h => by
  by_cases c : a = sz
  · omega
  · have h2 : (if a = sz then some (.inr (0, n)) else S.1 a) = some y := h
    rw [if_neg c] at h2
    have := hsz a y h2
    omega
theorem XS_gr {S S' : St} (g : GrS S S') {a : Nat} (H : XS S a) : XS S' a := ⟨(g _ _ H.1).1, by rw [(g _ _ H.1).2]; exact H.2.1, (g _ _ H.2.2).1⟩
theorem LayL_gr {S S' : St} (g : GrS S S') {b : Nat} (l : LayL S b) : LayL S' b := ⟨(g _ _ l.1).1, by rw [(g _ _ l.1).2]; exact l.2.1, ⟨(g _ _ l.2.2.1.1).1, (g _ _ l.2.2.1.2.1).1, (g _ _ l.2.2.1.2.2.1).1, (g _ _ l.2.2.1.2.2.2).1⟩, fun i hi => ⟨by rw [(g _ _ l.2.2.1.2.2.2).2]; exact (l.2.2.2 i hi).1, XS_gr g (l.2.2.2 i hi).2⟩⟩
theorem XL_gr {S S' : St} (g : GrS S S') {h : Hp} {b : Nat} {L : Ld} (X : XL S h b L) : XL S' h b L := ⟨LayL_gr g X.1, X.2⟩
theorem LayX_gr {S S' : St} (g : GrS S S') {x : Nat} (l : LayX S x) : LayX S' x := by
  refine ⟨⟨(g _ _ l.1.1).1, ?_⟩, ⟨LayL_gr g l.2.1.1, LayL_gr g l.2.1.2.1, LayL_gr g l.2.1.2.2.1, fun j hj => ⟨LayL_gr g (l.2.1.2.2.2 j hj).1, ?_⟩⟩, ⟨(g _ _ l.2.2.1.1).1, ?_, (g _ _ l.2.2.1.2.2).1⟩, ⟨(g _ _ l.2.2.2.1.1).1, ?_, ?_, ?_, (g _ _ l.2.2.2.1.2.2.2.2.1).1, (g _ _ l.2.2.2.1.2.2.2.2.2.1).1, (g _ _ l.2.2.2.1.2.2.2.2.2.2).1⟩, ⟨(g _ _ l.2.2.2.2.1.1).1, ?_⟩, ⟨(g _ _ l.2.2.2.2.2.1.1).1, ?_, ?_, (g _ _ l.2.2.2.2.2.1.2.2.2.1).1, (g _ _ l.2.2.2.2.2.1.2.2.2.2).1⟩, (g _ _ l.2.2.2.2.2.2.1).1, (g _ _ l.2.2.2.2.2.2.2.1).1, ?_, ?_, (g _ _ l.2.2.2.2.2.2.2.2.2.2.1).1, (g _ _ l.2.2.2.2.2.2.2.2.2.2.2).1⟩
  · rw [(g _ _ l.1.1).2]; exact l.1.2
  · rw [(g _ _ l.2.2.1.2.2).2]; exact (l.2.1.2.2.2 j hj).2
  · rw [(g _ _ l.2.2.1.1).2]; exact l.2.2.1.2.1
  · rw [(g _ _ l.2.2.2.1.1).2]; exact l.2.2.2.1.2.1
  · rw [(g _ _ l.2.2.2.1.1).2]; exact l.2.2.2.1.2.2.1
  · rw [(g _ _ l.2.2.2.1.1).2]; exact l.2.2.2.1.2.2.2.1
  · rw [(g _ _ l.2.2.2.2.1.1).2]; exact l.2.2.2.2.1.2
  · rw [(g _ _ l.2.2.2.2.2.1.1).2]; exact l.2.2.2.2.2.1.2.1
  · rw [(g _ _ l.2.2.2.2.2.1.1).2]; exact l.2.2.2.2.2.1.2.2.1
  · rw [(g _ _ l.2.2.2.2.1.1).2]; exact l.2.2.2.2.2.2.2.2.1
  · rw [(g _ _ l.2.2.2.2.1.1).2]; exact l.2.2.2.2.2.2.2.2.2.1
theorem XI_gr {S S' : St} (g : GrS S S') {h : Hp} {x : Nat} {A : Ab} (X : XI S h x A) : XI S' h x A := by
  obtain ⟨l, X1, Xi, Xp, Xt, Xr, Xf, wa⟩ := X
  obtain ⟨p1, nx, n1, n2, n3⟩ := Xp
  exact ⟨LayX_gr g l, XL_gr g X1, ⟨Xi.1, fun t => XL_gr g (Xi.2 t)⟩, ⟨p1, nx, n1, n2, fun j hj => XL_gr g (n3 j hj)⟩, Xt, Xr, Xf, wa⟩
theorem LayM_gr {S S' : St} (g : GrS S S') {m : Nat} (l : LayM S m) : LayM S' m := by
  unfold LayM
  rw [(g _ _ l.1).2]
  exact ⟨(g _ _ l.1).1, ⟨lr0 l, (g _ _ (la0 l)).1⟩, ⟨lr1 l, (g _ _ (la1 l)).1⟩, ⟨lr2 l, (g _ _ (la2 l)).1⟩, ⟨lr3 l, (g _ _ (la3 l)).1⟩, ⟨lr4 l, (g _ _ (la4 l)).1⟩, ⟨lr5 l, (g _ _ (la5 l)).1⟩, ⟨lr6 l, (g _ _ (la6 l)).1⟩, ⟨lr7 l, (g _ _ (la7 l)).1⟩, ⟨lr8 l, (g _ _ (la8 l)).1⟩, ⟨lr9 l, (g _ _ (la9 l)).1⟩, ⟨lr10 l, (g _ _ (la10 l)).1⟩, ⟨lr11 l, (g _ _ (la11 l)).1⟩, ⟨lr12 l, (g _ _ (la12 l)).1⟩, ⟨lr16 l, (g _ _ (la16 l)).1⟩, ⟨lr17 l, (g _ _ (la17 l)).1⟩, ⟨lr18 l, (g _ _ (la18 l)).1⟩, ⟨lr19 l, (g _ _ (la19 l)).1⟩, ⟨lr20 l, (g _ _ (la20 l)).1⟩, ⟨lr21 l, (g _ _ (la21 l)).1⟩, ⟨lr25 l, (g _ _ (la25 l)).1⟩, ⟨lr31 l, (g _ _ (la31 l)).1⟩, ⟨lr33 l, (g _ _ (la33 l)).1⟩, ⟨lr34 l, (g _ _ (la34 l)).1⟩⟩
theorem MI_gr {S S' : St} (g : GrS S S') {h : Hp} {m : Nat} {A : Ab} (X : MI_ S h m A) : MI_ S' h m A := ⟨⟨LayM_gr g X.1.1, X.1.2⟩, X.2⟩
/-- the chosen word of one of two -/
def wiF (c i : Nat) (L : Ld) : Ld := if c = 1 then updL L (5 + 2 * i) 6 4 else L
theorem wiF_0 (c i : Nat) (L : Ld) (q : Nat) : wiF c i L 0 q = L 0 q := by
  unfold wiF
  split
  · exact updL_ne (by omega)
  · rfl
def prF (L : Ld) (i j n p : Nat) : Ld := nightsF n (wiF (p % 2) j (wiF (p / 2) i L))
theorem prF_4 (L : Ld) (i j n p : Nat) : prF L i j n p 0 4 = L 0 4 := by
  unfold prF
  rw [(nightsF_0 n _).1, wiF_0, wiF_0]
def e1F (L : Ld) (i j n p : Nat) : Nat := prF L i j n p (5 + 2 * i) 7 + 5 * (p / 2)
def e2F (L : Ld) (i j n p : Nat) : Nat := prF L i j n p (5 + 2 * j) 7 + 5 * (p % 2)
def scnF (f g : Nat → Nat) : Nat → Nat → Int32
  | 0, _ => -9
  | r + 1, p => if f p < f (p ^^^ 2) then scnF f g r (p + 1) else if g p < g (p ^^^ 1) then scnF f g r (p + 1) else nI (10 * (p / 2) + p % 2)
theorem scnF_S (f g : Nat → Nat) (r p : Nat) : scnF f g (r + 1) p = if f p < f (p ^^^ 2) then scnF f g r (p + 1) else if g p < g (p ^^^ 1) then scnF f g r (p + 1) else nI (10 * (p / 2) + p % 2) := rfl
theorem q_p4 : ∀ p, p < 4 → ishr (nI p) (nI 1) = nI (p / 2) ∧ nI p &&& nI 1 = nI (p % 2) ∧ nI p ^^^ nI 2 = nI (p ^^^ 2) ∧ nI p ^^^ nI 1 = nI (p ^^^ 1) ∧ (p ^^^ 2) < 4 ∧ (p ^^^ 1) < 4 := by decide +kernel
/-- the rows of ends -/
def RowE (L : Ld) (i j n k : Nat) (f g : Nat → Int32) : Prop := ∀ q, q < k → f q = nI (e1F L i j n q) ∧ g q = nI (e2F L i j n q) ∧ e1F L i j n q < 2 ^ 30 ∧ e2F L i j n q < 2 ^ 30
section TWO
variable {S : St} {h h' : Hp} {x m : Nat} {A : Ab}
theorem x_restIf (l : LayX S x) {L : Ld} (Y : XL S h (x + 158) L) {i c : Nat} (hi : i < L 0 4) (hc : c < 2) {Q : Hp → Prop} (hQ : ∀ h', XL S h' (x + 158) (wiF c i L) → Fr (x + 158) h h' → Q h') : w_X2_restIf S (x + 157) (nI i) (nI c) h Q := by
  unfold w_X2_restIf
  unfold wiF at hQ
  simp only [q_eq (show c < 2 ^ 31 by omega) (show 1 < 2 ^ 31 by decide)]
  by_cases c1 : c = 1
  · rw [if_pos c1]
    rw [if_pos c1] at hQ
    exact ⟨l.2.2.2.2.1.1, x_choose l Y (tr := 2) (c := 4) (by decide) hi (fun e => absurd e (by decide)) (by decide) (fun h' Y' F' => hQ h' Y' F')⟩
  · rw [if_neg c1]
    rw [if_neg c1] at hQ
    exact hQ h Y Fr_rf
theorem x_steady (X : XI S h x A) {i j n : Nat} (hi : i < aL A 0 4) (hj : j < aL A 0 4) (hn : n ≤ 30) {Q : Int32 → Hp → Prop} (hQ : ∀ h', XI S h' x A → FrX x h h' → Q (scnF (e1F (aL A) i j n) (e2F (aL A) i j n) 4 0) h') : w_X2_steadyPair S (x + 157) (x + 1) (nI i) (nI j) (nI n) h Q := by
  have l := X.1
  have hnt := X.2.2.2.2.2.2.2.1.2
  have h5 := X.2.1.2.2.1
  have lt := l.2.1.2.2.1
  obtain ⟨r1, r2, t1, t7⟩ := l.2.2.2.2.2.2.2.2
  unfold w_X2_steadyPair w_X2_steadyPair_c3
  intro P hP
  have K : ∀ (r p : Nat) (h1 : Hp), p + r = 4 → XI S h1 x A → FrX x h h1 → RowE (aL A) i j n p (h1 (x + 173)) (h1 (x + 174)) → P (nI p) h1 := by
    intro r
    induction r with
    | zero =>
      intro p h1 hp X1 F1 R1
      have hp : p = 4 := by omega
      subst hp
      refine hP _ _ ?_
      rw [if_pos (by decide)]
      have hq := hQ h1 X1 F1
      unfold w_X2_steadyPair_c103
      intro P2 hP2
      have K2 : ∀ (r p : Nat), p + r = 4 → scnF (e1F (aL A) i j n) (e2F (aL A) i j n) 4 0 = scnF (e1F (aL A) i j n) (e2F (aL A) i j n) r p → P2 (nI p) h1 := by
        intro r
        induction r with
        | zero =>
          intro p hp er
          refine hP2 _ _ ?_
          have hp : p = 4 := by omega
          subst hp
          rw [if_pos (by decide)]
          rw [er] at hq
          exact hq
        | succ r ih =>
          intro p hp er
          refine hP2 _ _ ?_
          obtain ⟨s1, s2, s3, s4, s5, s6⟩ := q_p4 p (by omega)
          simp only [q_le (show 4 < 2 ^ 31 by decide) (show p < 2 ^ 31 by omega)]
          rw [if_neg (by omega), r1, r2, s1, s2, s3, s4, nI_add, pk_mul, nI_add, q_ix (by omega), q_ix (show (p ^^^ 2) < 2 ^ 31 by omega), q_ix (show (p ^^^ 1) < 2 ^ 31 by omega)]
          obtain ⟨u1, u2, u3, u4⟩ := R1 p (by omega)
          obtain ⟨v1, v2, v3, v4⟩ := R1 _ s5
          obtain ⟨w1, w2, w3, w4⟩ := R1 _ s6
          rw [u1, u2, v1, w2]
          simp only [q_lt (show e1F (aL A) i j n p < 2 ^ 31 by omega) (show e1F (aL A) i j n (p ^^^ 2) < 2 ^ 31 by omega), q_lt (show e2F (aL A) i j n p < 2 ^ 31 by omega) (show e2F (aL A) i j n (p ^^^ 1) < 2 ^ 31 by omega)]
          rw [scnF_S _ _ r p] at er
          refine ⟨l.2.2.2.2.1.1, q_ain t1 s5 (by decide), q_ain t1 (by omega) (by decide), ?_⟩
          by_cases c1 : e1F (aL A) i j n p < e1F (aL A) i j n (p ^^^ 2)
          · rw [if_pos c1]
            rw [if_pos c1] at er
            exact ih (p + 1) (by omega) er
          rw [if_neg c1]
          rw [if_neg c1] at er
          refine ⟨q_ain t7 s6 (by decide), q_ain t7 (by omega) (by decide), ?_⟩
          by_cases c2 : e2F (aL A) i j n p < e2F (aL A) i j n (p ^^^ 1)
          · rw [if_pos c2]
            rw [if_pos c2] at er
            exact ih (p + 1) (by omega) er
          · rw [if_neg c2]
            rw [if_neg c2] at er
            rw [er] at hq
            exact hq
      exact K2 4 0 (by omega) rfl
    | succ r ih =>
      intro p h1 hp X1 F1 R1
      refine hP _ _ ?_
      obtain ⟨s1, s2, -⟩ := q_p4 p (by omega)
      simp only [q_le (show 4 < 2 ^ 31 by decide) (show p < 2 ^ 31 by omega)]
      rw [if_neg (by omega), s1, s2, r1, r2, l.2.2.2.2.1.2]
      refine ⟨l.2.2.2.2.1.1, x_think X1 (fun h2 X2 Y2 F2 => ?_)⟩
      refine x_restIf l Y2 hi (by omega) (fun h3 Y3 F3 => ?_)
      refine x_restIf l Y3 (i := j) (by rw [wiF_0]; exact hj) (by omega) (fun h4 Y4 F4 => ?_)
      refine ⟨lt.1, x_pass Y4 (n := n) (by rw [wiF_0, wiF_0]; omega) (fun h6 Y6 F6 => ?_)⟩
      have e4 : nightsF n (wiF (p % 2) j (wiF (p / 2) i (aL A))) 0 4 = aL A 0 4 := prF_4 (aL A) i j n p
      have Hi := XLhd Y6 (i := i) (by rw [e4]; exact hi)
      have Hj := XLhd Y6 (i := j) (by rw [e4]; exact hj)
      have G6 : Fr (x + 158) h1 h6 := Fr_tr F2 (Fr_tr F3 (Fr_tr F4 F6))
      have bi := Hi.2.2.2.2.2.2.2.2.2.2.2.1
      have bj := Hj.2.2.2.2.2.2.2.2.2.2.2.1
      rw [lt.2.1.2.2.2, q_ix (show i < 2 ^ 31 by omega), q_ix (show j < 2 ^ 31 by omega), q_ix (show p < 2 ^ 31 by omega), (lt.2.2.2 i (by omega)).1, (lt.2.2.2 j (by omega)).1, XHe Hi (by decide) (by decide), up_ne (a := x + 173) (show ¬ (x + 158 + (5 + 2 * j) = x + 173 ∧ 7 = p) by omega), XHe Hj (by decide) (by decide), pk_mul, pk_mul, nI_add, nI_add, nI_add]
      refine ⟨q_rin lt.2.2.1.2.2.2 (by omega) (by decide), Hi.1, q_ain t1 (by omega) (by decide), q_rin lt.2.2.1.2.2.2 (by omega) (by decide), Hj.1, q_ain t7 (by omega) (by decide), ?_⟩
      refine ih (p + 1) _ (by omega) ?_ ?_ ?_
      · exact XI_cong (XI_thought X1 G6) (fun a k q1 q2 => by rw [up_ne (by omega), up_ne (by omega)])
      · intro a k q1
        rw [up_ne (by omega), up_ne (by omega), G6 a k (by omega)]
        exact F1 a k q1
      · intro q hq
        by_cases e : q = p
        · subst e
          rw [up_ne (by omega), up_same, up_same]
          exact ⟨rfl, rfl, by unfold e1F prF; omega, by unfold e2F prF; omega⟩
        · rw [up_ne (by omega), up_ne (by omega), up_ne (by omega), up_ne (by omega), G6 (x + 173) q (by omega), G6 (x + 174) q (by omega)]
          exact R1 q (by omega)
  exact K 4 0 h (by omega) X FrX_rf (fun q hq => absurd hq (by omega))
def twA (A : Ab) (v w n : Int32) : Int32 × Ab := if inR v (aL A 0 4) ∧ inR w (aL A 0 4) ∧ v ≠ w then (if fN n 1 30 = 0 then (scnF (e1F (aL A) (ix v) (ix w) (ix n)) (e2F (aL A) (ix v) (ix w) (ix n)) 4 0, A) else rfA A (fN n 1 30)) else rfA A (-1)
theorem x_two (X : XI S h x A) {v w n : Int32} {Q : Int32 → Hp → Prop} (hQ : ∀ h', XI S h' x (twA A v w n).2 → FrX x h h' → Q (twA A v w n).1 h') : w_X6_two S x v w n h Q := by
  have l := X.1
  have h5 := X.2.1.2.2.1
  unfold w_X6_two
  unfold twA at hQ
  refine ⟨l.1.1, x_noPair X (fun c => ?_) (fun c => ?_)⟩
  · refine x_faultN ?_
    rw [if_pos c] at hQ
    rw [show ckN (nI 0 = 0) n 1 30 = fN n 1 30 from if_pos nI_0]
    by_cases g : fN n 1 30 = 0
    · rw [if_pos g]
      rw [if_pos g] at hQ
      obtain ⟨i, hi, rfl⟩ := inR_ex c.1 (by omega)
      obtain ⟨j, hj, rfl⟩ := inR_ex c.2.1 (by omega)
      obtain ⟨k, k1, k2, rfl⟩ := fN_0 (by decide) (by decide) g
      rw [q_ix (by omega), q_ix (by omega), q_ix (by omega)] at hQ
      rw [l.1.2.2.2.2.2.1, l.1.2.1]
      exact ⟨l.2.2.2.2.1.1, x_steady X hi hj k2 hQ⟩
    · rw [if_neg g]
      rw [if_neg g] at hQ
      exact x_refuse X (rf_of (fN_c _ _ _) g) hQ
  · refine x_faultN ?_
    rw [if_neg c] at hQ
    rw [show ckN (nI 1 = 0) n 1 30 = -1 from if_neg (by decide), if_neg (by decide)]
    exact x_refuse X (Or.inl rfl) hQ
theorem TH_wi {L M : Ld} (T : TH S h m L M) {i : Nat} (hi : i < M 0 4) : TH S (up h (m + 9) i (nI 4)) m L (updL M (5 + 2 * i) 6 4) := ⟨MLsetH T.1 hi (k := 6) (c := 9) (v := 4) (by unfold KC; omega) (by decide) (HB_up (T.1.2.2.2.2.2 i hi) (by omega)), KSx_same T.2.1 T.2.2 (fun k _ _ => up_ne (by omega)), T.2.2⟩
theorem y_findEnds (X : MI_ S h m A) {i j n : Nat} (hi : i < aL A 0 4) (hj : j < aL A 0 4) (hn : n ≤ 30) {Q : Hp → Prop} (hQ : ∀ h', MI_ S h' m A → FrY m h h' → RowE (aL A) i j n 4 (fun q => h' (m + 22) (2 * q)) (fun q => h' (m + 22) (2 * q + 1)) → Q h') : w_X7_findEnds S m (nI i) (nI j) (nI n) h Q := by
  have l := X.1.1
  have hnt := X.2.2.2.2.2.2.1.2
  have h5 := X.1.2.2.1
  unfold w_X7_findEnds w_X7_findEnds_c3
  intro P hP
  have K : ∀ (r p : Nat) (h1 : Hp), p + r = 4 → MI_ S h1 m A → FrY m h h1 → RowE (aL A) i j n p (fun q => h1 (m + 22) (2 * q)) (fun q => h1 (m + 22) (2 * q + 1)) → P (nI p) h1 := by
    intro r
    induction r with
    | zero =>
      intro p h1 hp X1 F1 R1
      have hp : p = 4 := by omega
      subst hp
      refine hP _ _ ?_
      rw [if_pos (by decide)]
      exact hQ h1 X1 F1 R1
    | succ r ih =>
      intro p h1 hp X1 F1 R1
      refine hP _ _ ?_
      simp only [q_div (show p < 2 ^ 31 by omega) (show 0 < 2 by decide) (show 2 < 2 ^ 31 by decide), q_rem (show p < 2 ^ 31 by omega) (show 0 < 2 by decide) (show 2 < 2 ^ 31 by decide), q_le (show 4 < 2 ^ 31 by decide) (show p < 2 ^ 31 by omega), q_eq (show p / 2 < 2 ^ 31 by omega) (show 1 < 2 ^ 31 by decide), q_eq (show p % 2 < 2 ^ 31 by omega) (show 1 < 2 ^ 31 by decide)]
      rw [if_neg (by omega), lr8 l]
      rw [q_ix (show i < 2 ^ 31 by omega), q_ix (show j < 2 ^ 31 by omega)]
      refine ⟨l.1, y_minds X1.1 (fun h2 T2 D2 => ?_)⟩
      have E : ∀ (h3 : Hp), TH S h3 m (aL A) (wiF (p % 2) j (wiF (p / 2) i (aL A))) → FrD m h1 h3 → w_X7_findEnds_c43 S m (nI i) (nI j) (nI n) (nI p) h3 Q P := by
        intro h3 T3 D3
        unfold w_X7_findEnds_c43
        refine ⟨l.1, y_goes T3.1 (n := n) (by rw [wiF_0, wiF_0]; omega) (fun h4 Y4 F4 => ?_)⟩
        have T4 := TH_M T3 Y4 F4
        have D4 := FrD_tr D3 (FrD_of F4)
        have e4 : nightsF n (wiF (p % 2) j (wiF (p / 2) i (aL A))) 0 4 = aL A 0 4 := prF_4 (aL A) i j n p
        have bi := (Y4.2.2.2.2.2 i (by rw [e4]; exact hi)).2.2.2.2.2.2.1
        have bj := (Y4.2.2.2.2.2 j (by rw [e4]; exact hj)).2.2.2.2.2.2.1
        simp only [q_div (show p < 2 ^ 31 by omega) (show 0 < 2 by decide) (show 2 < 2 ^ 31 by decide), q_rem (show p < 2 ^ 31 by omega) (show 0 < 2 by decide) (show 2 < 2 ^ 31 by decide)]
        rw [lr9 l, lr33 l, q_ix (show i < 2 ^ 31 by omega), q_ix (show j < 2 ^ 31 by omega), pk_mul, pk_mul, pk_mul, nI_add, nI_add, q_ix (show 2 * p < 2 ^ 31 by omega), q_ix (show 2 * p + 1 < 2 ^ 31 by omega), up_ne (a := m + 22) (show ¬ (m + 10 = m + 22 ∧ j = 2 * p) by omega), MLe Y4 (i := i) (by rw [e4]; exact hi) (show KC 7 10 by unfold KC; omega), MLe Y4 (i := j) (by rw [e4]; exact hj) (show KC 7 10 by unfold KC; omega), nI_add, nI_add]
        refine ⟨q_ain (la9 l) (by omega) (by decide), q_ain (la33 l) (by omega) (by decide), q_ain (la9 l) (by omega) (by decide), q_ain (la33 l) (by omega) (by decide), ?_⟩
        have T5 : ∀ (a b : Nat) (u1 u2 : Int32), TH S (up (up h4 (m + 22) a u1) (m + 22) b u2) m (aL A) (nightsF n (wiF (p % 2) j (wiF (p / 2) i (aL A)))) := fun a b u1 u2 => ⟨ML_same T4.1 (fun a k q => by rw [up_ne (by omega), up_ne (by omega)]), KSx_same T4.2.1 T4.2.2 (fun k _ _ => by rw [up_ne (by omega), up_ne (by omega)]), T4.2.2⟩
        refine y_forgets (T5 _ _ _ _) (fun h5 Y5 D5 => ?_)
        have S5 : FrS m h1 h5 := FrS_tr (FrS_up (FrS_up (FrS_D D4) (by unfold Scr; omega)) (by unfold Scr; omega)) (FrS_D D5)
        refine ih (p + 1) h5 (by omega) (MI_mindS X1 Y5 S5) (FrY_tr F1 (FrY_S S5)) (fun q hq => ?_)
        show h5 (m + 22) (2 * q) = _ ∧ h5 (m + 22) (2 * q + 1) = _ ∧ _
        rw [D5 (m + 22) _ (by omega) (by omega) (by omega), D5 (m + 22) _ (by omega) (by omega) (by omega)]
        by_cases e : q = p
        · subst e
          rw [up_ne (by omega), up_same, up_same]
          exact ⟨rfl, rfl, by unfold e1F prF; omega, by unfold e2F prF; omega⟩
        · rw [up_ne (by omega), up_ne (by omega), up_ne (by omega), up_ne (by omega), D4 (m + 22) _ (by omega) (by omega) (by omega), D4 (m + 22) _ (by omega) (by omega) (by omega)]
          exact R1 q (by omega)
      have U : ∀ (h0 : Hp) (u : Nat), FrD m h1 h0 → FrD m h1 (up h0 (m + 9) u (nI 4)) := fun h0 u D a k q1 q2 q3 => (up_ne (by omega)).trans (D a k q1 q2 q3)
      by_cases c1 : p / 2 = 1
      · rw [if_pos c1]
        refine ⟨q_ain (la8 l) (by omega) (by decide), ?_⟩
        by_cases c2 : p % 2 = 1
        · rw [if_pos c2]
          refine ⟨q_ain (la8 l) (by omega) (by decide), E _ ?_ (U _ _ (U _ _ D2))⟩
          unfold wiF
          rw [if_pos c1, if_pos c2]
          exact TH_wi (TH_wi T2 hi) (by rw [updL_ne (by omega)]; exact hj)
        · rw [if_neg c2]
          refine E _ ?_ (U _ _ D2)
          unfold wiF
          rw [if_pos c1, if_neg c2]
          exact TH_wi T2 hi
      · rw [if_neg c1]
        by_cases c2 : p % 2 = 1
        · rw [if_pos c2]
          refine ⟨q_ain (la8 l) (by omega) (by decide), E _ ?_ (U _ _ D2)⟩
          unfold wiF
          rw [if_neg c1, if_pos c2]
          exact TH_wi T2 hj
        · rw [if_neg c2]
          refine E _ ?_ D2
          unfold wiF
          rw [if_neg c1, if_neg c2]
          exact T2
  exact K 4 0 h (by omega) X FrY_rf (fun q hq => absurd hq (by omega))
theorem y_two (X : MI_ S h m A) {v w n : Int32} {Q : Int32 → Hp → Prop} (hQ : ∀ h', MI_ S h' m (twA A v w n).2 → FrY m h h' → Q (twA A v w n).1 h') : w_X7_two S m v w n h Q := by
  have l := X.1.1
  have h5 := X.1.2.2.1
  unfold w_X7_two
  unfold twA at hQ
  refine ⟨l.1, y_areTwo X.1 (fun c => ?_) (fun c => ?_)⟩
  · rw [if_neg (by decide)]
    rw [if_pos c] at hQ
    refine y_bound ?_
    by_cases g : fN n 1 30 = 0
    · rw [if_pos g]
      rw [if_pos g] at hQ
      obtain ⟨i, hi, rfl⟩ := inR_ex c.1 (by omega)
      obtain ⟨j, hj, rfl⟩ := inR_ex c.2.1 (by omega)
      obtain ⟨k, k1, k2, rfl⟩ := fN_0 (by decide) (by decide) g
      rw [q_ix (by omega), q_ix (by omega), q_ix (by omega)] at hQ
      refine y_findEnds X hi hj k2 (fun h1 X1 F1 R1 => ?_)
      have hq := hQ h1 X1 F1
      unfold w_X7_two_c44
      intro P2 hP2
      have K2 : ∀ (r p : Nat), p + r = 4 → scnF (e1F (aL A) i j k) (e2F (aL A) i j k) 4 0 = scnF (e1F (aL A) i j k) (e2F (aL A) i j k) r p → P2 (nI p) h1 := by
        intro r
        induction r with
        | zero =>
          intro p hp er
          refine hP2 _ _ ?_
          have hp : p = 4 := by omega
          subst hp
          rw [if_pos (by decide)]
          rw [er] at hq
          exact hq
        | succ r ih =>
          intro p hp er
          refine hP2 _ _ ?_
          obtain ⟨s1, s2, s3, s4, s5, s6⟩ := q_p4 p (by omega)
          simp only [q_div (show p < 2 ^ 31 by omega) (show 0 < 2 by decide) (show 2 < 2 ^ 31 by decide), q_rem (show p < 2 ^ 31 by omega) (show 0 < 2 by decide) (show 2 < 2 ^ 31 by decide), q_le (show 4 < 2 ^ 31 by decide) (show p < 2 ^ 31 by omega), s3, s4, pk_mul, nI_add]
          obtain ⟨u1, u2, u3, u4⟩ := R1 p (by omega)
          obtain ⟨v1, v2, v3, v4⟩ := R1 _ s5
          obtain ⟨w1, w2, w3, w4⟩ := R1 _ s6
          dsimp only at u1 u2 v1 w2
          rw [if_neg (by omega), lr33 l, q_ix (show 2 * p < 2 ^ 31 by omega), q_ix (show 2 * (p ^^^ 2) < 2 ^ 31 by omega), q_ix (show 2 * p + 1 < 2 ^ 31 by omega), q_ix (show 2 * (p ^^^ 1) + 1 < 2 ^ 31 by omega), u1, u2, v1, w2]
          simp only [q_lt (show e1F (aL A) i j k p < 2 ^ 31 by omega) (show e1F (aL A) i j k (p ^^^ 2) < 2 ^ 31 by omega), q_lt (show e2F (aL A) i j k p < 2 ^ 31 by omega) (show e2F (aL A) i j k (p ^^^ 1) < 2 ^ 31 by omega)]
          rw [scnF_S _ _ r p] at er
          refine ⟨l.1, q_ain (la33 l) (by omega) (by decide), q_ain (la33 l) (by omega) (by decide), ?_⟩
          by_cases c1 : e1F (aL A) i j k p < e1F (aL A) i j k (p ^^^ 2)
          · rw [if_pos c1]
            rw [if_pos c1] at er
            exact ih (p + 1) (by omega) er
          rw [if_neg c1]
          rw [if_neg c1] at er
          refine ⟨q_ain (la33 l) (by omega) (by decide), q_ain (la33 l) (by omega) (by decide), ?_⟩
          by_cases c2 : e2F (aL A) i j k p < e2F (aL A) i j k (p ^^^ 1)
          · rw [if_pos c2]
            rw [if_pos c2] at er
            exact ih (p + 1) (by omega) er
          · rw [if_neg c2]
            rw [if_neg c2] at er
            rw [er] at hq
            exact hq
      exact K2 4 0 (by omega) rfl
    · rw [if_neg g]
      rw [if_neg g] at hQ
      exact y_no X (rf_of (fN_c _ _ _) g) hQ
  · rw [if_pos (by decide)]
    rw [if_neg c] at hQ
    exact y_no X (Or.inl rfl) hQ
theorem op_two (H : SI S h x A) {v w n : Int32} {Q : Int32 → Int32 → Hp → Prop} (hQ : ∀ r A' h', SI S h' x A' → Q r r h') : w_X6_two S x v w n h (fun r h1 => w_X7_two S (x + 180) v w n h1 (fun r' h2 => Q r r' h2)) :=
  x_two H.1 (fun h1 X1 F1 => y_two (SI_m H F1) (fun h2 Y2 F2 => hQ _ _ h2 (SI_mk X1 Y2 F2)))
end TWO
