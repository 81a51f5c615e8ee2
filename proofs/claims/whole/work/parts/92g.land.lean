/-! PURE: land, the whole call -/
def posF (k : Nat) (T : Nat → Nat) : Nat → Nat
  | 0 => 0
  | t + 1 => (smF k T (posF k T t)).2.1
/-- statements one after the other -/
def rnL (k : Nat) (T : Nat → Nat) : Nat → Nat → Nat → Ld → Int32 × Option Ld
  | 0, _, s, L => (nI s, some L)
  | f + 1, p, s, L => if p < k then (match stmF T (wlF T p (leF k T p)) (smF k T p).2.2 L with
    | some L' => rnL k T f (smF k T p).2.1 (s + 1) L'
    | none => ((-2000) - nI p, none)) else (nI s, some L)
def landR (A : Ab) (r : Int32) (o : Option Ld) : Int32 × Ab := match o with
  | some L => (r, sL (sB (sT A 0 (aTp A)) 0 (aB A)) L)
  | none => (r, sT A 0 (aTp A))
def landA (A : Ab) : Int32 × Ab := match fmF (aK A) (aTp A) 25 0 with
  | some q => ((-1000) - nI q, sT A 0 (aTp A))
  | none => landR A (rnL (aK A) (aTp A) 25 0 0 (aL A)).1 (rnL (aK A) (aTp A) 25 0 0 (aL A)).2
theorem stm_n {T : Nat → Nat} {w : List Nat} {D : PS} {L L' : Ld} (hn : L 0 5 ≤ 999) (e : stmF T w D L = some L') : L' 0 5 ≤ 999 := by
  unfold stmF at e
  repeat' split at e
  all_goals first
    | (injection e with e; subst e; first
      | (rw [headL_5]; exact hn)
      | (rw [updL_ne (by omega), updL_ne (by omega)]; exact hn)
      | (rw [updL_ne (by omega)]; exact hn)
      | (rw [(nightsF_0 _ _).2]; omega))
    | (cases e; done)
theorem q_neg : ∀ p, p < 200 → ((-2000 : Int32) - nI p < 0 ∧ (-2000 : Int32) - nI p ≤ 0) ∧ ((-1000 : Int32) - nI p < 0 ∧ (-1000 : Int32) - nI p ≤ 0) := by decide +kernel
section XLAND
variable {S : St} {h h' : Hp} {x m : Nat} {A : Ab}
theorem XI_tape0 (X : XI S h x A) : XI S (up h (x + 153) 1 (nI 0)) x (sT A 0 (aTp A)) := by
  obtain ⟨l, X1, Xi, Xp, Xt, Xr, Xf, wa⟩ := X
  have U : ∀ a k, ¬ (a = x + 153 ∧ k = 1) → (up h (x + 153) 1 (nI 0)) a k = h a k := fun a k q => up_ne q
  refine ⟨l, XL_same X1 (fun a k q1 q2 => U _ _ (by omega)), ⟨?_, fun t => ?_⟩, ⟨?_, ?_⟩, ⟨up_same _ _ _ _, fun i hi => absurd hi (Nat.not_lt_zero i)⟩, ⟨?_, fun i hi => ?_⟩, fun q h1 h2 => ?_, wa.1, wa.2.1, wa.2.2.1, ⟨Nat.zero_le _, fun i hi => absurd hi (Nat.not_lt_zero i)⟩, wa.2.2.2.2⟩
  · rw [U _ _ (by omega)]; exact Xi.1
  · exact XL_same (Xi.2 t) (fun a k q1 q2 => U _ _ (by omega))
  · rw [U _ _ (by omega)]; exact Xp.1
  · obtain ⟨nx, n1, n2, n3⟩ := Xp.2
    refine ⟨nx, n1, ?_, fun j hj => XL_same (n3 j hj) (fun a k q1 q2 => U _ _ (by omega))⟩
    rw [U _ _ (by omega)]; exact n2
  · rw [U _ _ (by omega)]; exact Xr.1
  · rw [U _ _ (by omega)]; exact Xr.2 i hi
  · rw [U _ _ (by omega)]; exact Xf q h1 h2
theorem fm_none {k : Nat} {T : Nat → Nat} {f p : Nat} (e : fmF k T (f + 1) p = none) (hp : p < k ∨ p = 0) : (smF k T p).1 = true ∧ fmF k T f (smF k T p).2.1 = none := by
  simp only [fmF] at e
  rw [if_pos hp] at e
  by_cases c : (smF k T p).1 = true
  · rw [if_pos c] at e; exact ⟨c, e⟩
  · rw [if_neg c] at e; exact absurd e (by simp)
theorem fm_k {k : Nat} {T : Nat → Nat} : ∀ (f p q : Nat), p ≤ k → fmF k T f p = some q → q ≤ k
  | 0, _, _, _, e => by simp [fmF] at e
  | f + 1, p, q, hp, e => by
    simp only [fmF] at e
    have sk := sm_k (T := T) hp
    by_cases c : p < k ∨ p = 0
    · rw [if_pos c] at e
      by_cases c2 : (smF k T p).1 = true
      · rw [if_pos c2] at e; exact fm_k f _ q sk.1 e
      · rw [if_neg c2] at e
        injection e with e
        rw [← e]; exact sk.1
    · rw [if_neg c] at e; exact absurd e (by simp)
theorem x_land (X : XI S h x A) {Q : Int32 → Hp → Prop} (hQ : ∀ h', XI S h' x (landA A).2 → FrX x h h' → Q (landA A).1 h') : w_X6_land S x h Q := by
  have l := X.1
  have wa := X.2.2.2.2.2.2.2
  have k9 := wa.2.2.2.1.1
  have CX : ∀ h1, XI S h1 x A → CT h1 x (aK A) (aTp A) := fun h1 X1 => ⟨X1.2.2.2.2.1.1, fun i hi => ⟨X1.2.2.2.2.1.2 i hi, wa.2.2.2.1.2 i hi⟩, k9⟩
  unfold w_X6_land
  rw [l.1.2.2.2.2.1, l.1.2.2.2.2.2.1, l.1.2.1]
  have body : ∀ (Q : Int32 → Hp → Prop) (v2 v4 v5 : Int32) (h0 : Hp), (∀ P : Int32 → Int32 → Int32 → Hp → Prop, (∀ (v2 v4 v5 : Int32) (h1 : Hp), XI S h1 x A → v2 < 0 → v2 ≤ 0 → (∀ h', XI S h' x (sT A 0 (aTp A)) → FrX x h1 h' → Q v2 h') → P v2 v4 v5 h1) → (∀ (s p : Nat) (L : Ld) (h1 : Hp), XI S h1 x A → XL S h1 (x + 158) L → L 0 5 ≤ 999 → 0 < s → s < 1000 → p = aK A → (∀ h', XI S h' x (sL (sB (sT A 0 (aTp A)) 0 (aB A)) L) → FrX x h1 h' → Q (nI s) h') → P (nI s) (nI p) (nI s) h1) → (∀ (s p : Nat) (L : Ld) (h1 : Hp), XI S h1 x A → XL S h1 (x + 158) L → L 0 5 ≤ 999 → s ≤ p → p < aK A → (smF (aK A) (aTp A) p).1 = true → (∀ L', stmF (aTp A) (wlF (aTp A) p (leF (aK A) (aTp A) p)) (smF (aK A) (aTp A) p).2.2 L = some L' → ∀ h', XI S h' x A → XL S h' (x + 158) L' → FrX x h1 h' → P (nI (s + 1)) (nI (smF (aK A) (aTp A) p).2.1) (nI (s + 1)) h') → (stmF (aTp A) (wlF (aTp A) p (leF (aK A) (aTp A) p)) (smF (aK A) (aTp A) p).2.2 L = none → ∀ h', XI S h' x A → FrX x h1 h' → P ((-2000) - nI p) (nI (smF (aK A) (aTp A) p).2.1) (nI (s + 1)) h') → P (nI s) (nI p) (nI s) h1) → P v2 v4 v5 h0) → w_X6_land_c40 S x (x + 158) v2 v4 v5 h0 Q := by
    intro Q v2 v4 v5 h0 hh
    unfold w_X6_land_c40
    intro P hP
    have forget : ∀ (R : Hp → Prop) (h1 : Hp), R (up h1 (x + 153) 1 (nI 0)) → w_X4_forget S (x + 153) h1 R := fun R h1 hr => ⟨l.2.2.2.1.1, hr⟩
    refine hh P ?_ ?_ ?_
    · intro v2 v4 v5 h1 X1 n1 n2 hq
      refine hP _ _ _ _ ⟨l.1.1, ?_⟩
      rw [l.1.2.2.2.2.1]
      have z : Q v2 (up h1 (x + 153) 1 (nI 0)) := hq _ (XI_tape0 X1) (FrX_up FrX_rf (by decide))
      refine ⟨l.2.2.2.1.1, ?_⟩
      split
      · exact forget _ _ z
      · split
        · exact forget _ _ z
        · exact forget _ _ z
    · intro s p L h1 X1 Y1 hn s0 s9 hp hq
      have z : w_X4_forget S (x + 153) h1 (fun h4 => (if nI s ≤ 0 then (Q (nI s) h4) else (ob S (S.2 x 0) 1 ∧ (w_X1_copy S (S.2 x 0) (x + 158) h4 (fun h7 => (ob S (S.2 x 3) 3 ∧ (w_X3_forget S (S.2 x 3) h7 (fun h9 => (Q (nI s) h9))))))))) := by
        refine forget _ _ ?_
        rw [if_neg (by rw [q_le0 (by omega)]; omega), l.1.2.1, l.1.2.2.2.1]
        have Y2 : XL S (up h1 (x + 153) 1 (nI 0)) (x + 158) L := XL_same Y1 (fun a k q1 q2 => up_ne (by omega))
        refine ⟨l.2.1.1.1, x_copy l.2.1.1 Y2 (by omega) (fun h7 Y7 F7 => ⟨l.2.2.1.1, ?_⟩)⟩
        have X7 := XI_now (XI_tape0 X1) Y7 F7 hn
        refine x_forget X7 (fun h9 X9 F9 => hq h9 X9 (FrX_tr (FrX_up FrX_rf (o := 153) (by decide)) (FrX_tr (FrX_of F7 (by omega)) F9)))
      refine hP _ _ _ _ ⟨l.1.1, ?_⟩
      rw [l.1.2.2.2.2.1]
      refine ⟨l.2.2.2.1.1, ?_⟩
      split
      · exact z
      · rw [if_pos (by rw [X1.2.2.2.2.1.1, hp]; exact Int32.le_refl _)]
        exact z
    · intro s p L h1 X1 Y1 hn hs hp ok hs1 hs0
      refine hP _ _ _ _ ⟨l.1.1, ?_⟩
      rw [l.1.2.2.2.2.1, X1.2.2.2.2.1.1]
      simp only [q_le (show aK A < 2 ^ 31 by omega) (show s < 2 ^ 31 by omega), q_le (show aK A < 2 ^ 31 by omega) (show p < 2 ^ 31 by omega)]
      rw [if_neg (by omega), if_neg (by omega), if_neg (by rw [q_lt0 (by omega)]; exact id)]
      have C1 := CX h1 X1
      have sg := sm_gp (Nat.le_of_lt hp) ok
      refine ⟨l.2.2.2.1.1, x_read l C1 (Nat.le_of_lt hp) ok (fun h2 F2 P2 => ?_)⟩
      have X2 : XI S h2 x A := XI_cong X1 (fun a k q1 q2 => F2 a k q2 (by omega) (by omega))
      have Y2 : XL S h2 (x + 158) L := XL_same Y1 (fun a k q1 q2 => F2 a k (by omega) (by omega) (by omega))
      have G2 : FrX x h1 h2 := fun a k q => F2 a k (by omega) (by omega) (by omega)
      refine x_cmd l (CX h2 X2) P2 sg.1 (rn_le 97 122 7 p) (rn_k 97 122 7 p (Nat.le_of_lt hp)) Y2 hn (fun L' e h3 Y3 F3 => ?_) (fun e => ?_)
      · rw [if_neg (by decide), nI_add]
        exact hs1 L' e h3 (XI_thought X2 F3) Y3 (FrX_tr G2 (FrX_of F3 (by omega)))
      · rw [if_pos (by decide), nI_add]
        exact hs0 e h2 X2 G2
  refine ⟨l.1.1, l.2.2.2.1.1, x_form l (CX h X) ?_⟩
  unfold landA at hQ
  cases hf : fmF (aK A) (aTp A) 25 0 with
  | some q =>
    rw [hf] at hQ
    have hq : ∀ h', XI S h' x (sT A 0 (aTp A)) → FrX x h h' → Q ((-1000) - nI q) h' := hQ
    have qk := fm_k 25 0 q (Nat.zero_le _) hf
    show if (0 : Int32) ≤ nI q then _ else _
    rw [if_pos (by rw [q_0le (by omega)]; trivial)]
    obtain ⟨-, n1, n2⟩ := q_neg q (by omega)
    exact ⟨l.2.2.2.2.1.1, x_think X (fun h1 X1 Y1 F1 => body Q _ _ _ h1 (fun P bad fin step => bad _ _ _ h1 X1 n1 n2 (fun h' X' F' => hq h' X' (FrX_tr (FrX_of F1 (by omega)) F'))))⟩
  | none =>
    rw [hf] at hQ
    show if (0 : Int32) ≤ -1 then _ else _
    rw [if_neg (by decide)]
    refine ⟨l.2.2.2.2.1.1, x_think X (fun h1 X1 Y1 F1 => body Q _ _ _ h1 (fun P bad fin step => ?_))⟩
    have K : ∀ (f p s : Nat) (L : Ld) (h2 : Hp), fmF (aK A) (aTp A) f p = none → p ≤ aK A → 100 ≤ p + 4 * f → 4 * s ≤ p → (0 < s ∨ (p = 0 ∧ s = 0)) → XI S h2 x A → XL S h2 (x + 158) L → L 0 5 ≤ 999 → FrX x h h2 → (∀ h', XI S h' x (landR A (rnL (aK A) (aTp A) f p s L).1 (rnL (aK A) (aTp A) f p s L).2).2 → FrX x h h' → Q (landR A (rnL (aK A) (aTp A) f p s L).1 (rnL (aK A) (aTp A) f p s L).2).1 h') → P (nI s) (nI p) (nI s) h2 := by
      intro f
      induction f with
      | zero => intro p s L h2 _ a1 a2; omega
      | succ f ih =>
        intro p s L h2 e hp hf4 hs hs0 X2 Y2 hn F2 hq
        by_cases c : p < aK A
        · have fe := fm_none e (Or.inl c)
          have sk := sm_k (T := aTp A) hp
          have sk2 := sk.2 fe.1
          refine step s p L h2 X2 Y2 hn (by omega) c fe.1 (fun L' e1 h3 X3 Y3 F3 => ?_) (fun e1 h3 X3 F3 => ?_)
          · refine ih _ (s + 1) L' h3 fe.2 sk.1 (by omega) (by omega) (Or.inl (by omega)) X3 Y3 (stm_n hn e1) (FrX_tr F2 F3) ?_
            have er : rnL (aK A) (aTp A) (f + 1) p s L = rnL (aK A) (aTp A) f (smF (aK A) (aTp A) p).2.1 (s + 1) L' := by
              simp only [rnL]
              rw [if_pos c, e1]
            rw [er] at hq
            exact hq
          · have er : rnL (aK A) (aTp A) (f + 1) p s L = ((-2000) - nI p, none) := by
              simp only [rnL]
              rw [if_pos c, e1]
            rw [er] at hq
            obtain ⟨⟨n1, n2⟩, -⟩ := q_neg p (by omega)
            exact bad _ _ _ h3 X3 n1 n2 (fun h' X' F' => hq h' X' (FrX_tr F2 (FrX_tr F3 F')))
        · have er : rnL (aK A) (aTp A) (f + 1) p s L = (nI s, some L) := by
            simp only [rnL]
            rw [if_neg c]
          rw [er] at hq
          have s0 : 0 < s := by
            rcases hs0 with q | q
            · exact q
            · have fe := fm_none e (Or.inr q.1)
              have := (sm_k (T := aTp A) hp).2 fe.1
              have := (sm_k (T := aTp A) hp).1
              omega
          exact fin s p L h2 X2 Y2 hn s0 (by omega) (by omega) (fun h' X' F' => hq h' X' (FrX_tr F2 F'))
    exact K 25 0 0 (aL A) h1 hf (Nat.zero_le _) (by omega) (by omega) (Or.inr ⟨rfl, rfl⟩) X1 Y1 wa.1.2 (FrX_of F1 (by omega)) hQ
end XLAND
