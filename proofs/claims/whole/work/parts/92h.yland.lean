/-! PURE: land, the reference's whole call -/
/-- what reading changes -/
def GrY (m : Nat) (h h' : Hp) : Prop := ∀ a q, ¬ (a = m ∧ (q = 23 ∨ q = 24)) → ¬ (m + 15 ≤ a ∧ a ≤ m + 19) → h' a q = h a q
/-- what the call changes -/
def GrK (m : Nat) (h h' : Hp) : Prop := ∀ a q, ¬ (m + 2 ≤ a ∧ a ≤ m + 13) → ¬ (a = m ∧ ((13 ≤ q ∧ q ≤ 15) ∨ (22 ≤ q ∧ q ≤ 24) ∨ q = 27 ∨ q = 28 ∨ q = 30)) → ¬ (m + 15 ≤ a ∧ a ≤ m + 19) → ¬ (a = m + 20 ∧ 218 ≤ q ∧ q < 436) → h' a q = h a q
theorem GrK_tr {m : Nat} {h h1 h2 : Hp} (f : GrK m h h1) (g : GrK m h1 h2) : GrK m h h2 := fun a q c1 c2 c3 c4 => (g a q c1 c2 c3 c4).trans (f a q c1 c2 c3 c4)
theorem fm_S (k : Nat) (T : Nat → Nat) (f p : Nat) : fmF k T (f + 1) p = if p < k ∨ p = 0 then (if (smF k T p).1 = true then fmF k T f (smF k T p).2.1 else some (smF k T p).2.1) else none := rfl
section YLAND
variable {S : St} {h h' : Hp} {m : Nat} {A : Ab}
theorem FrY_K (f : GrK m h h') : FrY m h h' := fun a q c => f a q (by omega) (by omega) (by omega) (by omega)
theorem MI_land (X : MI_ S h m A) {L : Ld} (Y : ML_ S h' m L) (hn : L 0 5 ≤ 999) (e22 : h' m 22 = nI 0) {n : Nat} (hN : n = 0 ∨ n = aN A) (e30 : h' m 30 = nI n) (e : GrK m h h') : MI_ S h' m (sL (sB (sT A 0 (aTp A)) n (aB A)) L) := by
  obtain ⟨X1, Xi, Xp, Xt, Xr, Xf, w⟩ := X
  obtain ⟨wl, wt, wb, wk, wr⟩ := w
  have E : ∀ a q, ¬ (m + 2 ≤ a ∧ a ≤ m + 13) → ¬ (a = m ∧ ((13 ≤ q ∧ q ≤ 15) ∨ (22 ≤ q ∧ q ≤ 24) ∨ q = 27 ∨ q = 28 ∨ q = 30)) → ¬ (m + 15 ≤ a ∧ a ≤ m + 19) → ¬ (a = m + 20 ∧ 218 ≤ q ∧ q < 436) → h' a q = h a q := e
  obtain ⟨p1, fb, p2, p3, p4⟩ := Xp
  have nn : n ≤ aN A := by rcases hN with q | q <;> omega
  refine ⟨Y, ⟨?_, fun t => ?_⟩, ⟨e30, fb, p2, ?_, fun j hj => ?_⟩, ⟨e22, fun i hi => absurd hi (Nat.not_lt_zero i)⟩, ⟨?_, fun i hi => ?_⟩, fun q h1 h2 => ?_, ⟨Y.2.2, hn⟩, wt, ⟨Nat.le_trans nn wb.1, fun j hj => wb.2 j (Nat.lt_of_lt_of_le hj nn)⟩, ⟨Nat.zero_le _, fun i hi => absurd hi (Nat.not_lt_zero i)⟩, wr⟩
  · rw [E _ _ (by omega) (by omega) (by omega) (by omega)]; exact Xi.1
  · exact KSx_same (Xi.2 t) (wt.2 t).1 (fun k q1 q2 => E _ _ (by omega) (by omega) (by omega) (by omega))
  · rw [E _ _ (by omega) (by omega) (by omega) (by omega)]; exact p3
  · have hj : j < n := hj
    exact KSx_same (p4 j (by omega)) (wb.2 j (by omega)).1 (fun k q1 q2 => E _ _ (by omega) (by omega) (by omega) (by omega))
  · rw [E _ _ (by omega) (by omega) (by omega) (by omega)]; exact Xr.1
  · rw [E _ _ (by omega) (by omega) (by omega) (by omega)]; exact Xr.2 i hi
  · rw [E _ _ (by omega) (by omega) (by omega) (by omega)]; exact Xf q h1 h2
theorem RecS_e {k : Nat} {T : Nat → Nat} {t p : Nat} (R : RecS h m k T t p) (g3 : (smF k T p).2.2.1 ≤ 3) (e : ∀ a q, ((a = m + 15 ∨ a = m + 16 ∨ a = m + 17) ∧ q = t) ∨ ((a = m + 18 ∨ a = m + 19) ∧ q < 3 * t + 3) → h' a q = h a q) : RecS h' m k T t p := ⟨by rw [e _ _ (by omega)]; exact R.1, by rw [e _ _ (by omega)]; exact R.2.1, by rw [e _ _ (by omega)]; exact R.2.2.1, fun i hi => by rw [e _ _ (by omega), e _ _ (by omega)]; exact R.2.2.2 i hi⟩
theorem y_land (X : MI_ S h m A) {Q : Int32 → Hp → Prop} (hQ : ∀ h', MI_ S h' m (landA A).2 → FrY m h h' → Q (landA A).1 h') : w_X7_land S m h Q := by
  have l := X.1.1
  have wa := X.2.2.2.2.2.2
  have k9 := wa.2.2.2.1.1
  unfold w_X7_land w_X7_land_c12
  refine ⟨l.1, ?_⟩
  intro P hP
  -- the end of the call, all statements read
  have good : ∀ (N : Nat) (h1 : Hp), fmF (aK A) (aTp A) 25 0 = none → N ≤ 24 → posF (aK A) (aTp A) N = aK A → h1 m 24 = nI N → (∀ t, t < N → RecS h1 m (aK A) (aTp A) t (posF (aK A) (aTp A) t) ∧ (smF (aK A) (aTp A) (posF (aK A) (aTp A) t)).1 = true ∧ posF (aK A) (aTp A) t < aK A) → GrY m h h1 → w_X7_passesAll S m (nI 1) (nI 1) (up h1 m 22 (nI 0)) (fun h12 => (w_X7_land_c86 S m (nI 0) h12 Q)) := by
    intro N h1 hf hN eN e24 RC F1
    unfold landA at hQ
    rw [hf] at hQ
    have F2 : ∀ a q, ¬ (a = m ∧ (22 ≤ q ∧ q ≤ 24)) → ¬ (m + 15 ≤ a ∧ a ≤ m + 19) → (up h1 m 22 (nI 0)) a q = h a q := fun a q c1 c2 => by rw [up_ne (by omega)]; exact F1 a q (by omega) c2
    have Y2 : ML_ S (up h1 m 22 (nI 0)) m (aL A) := ML_same X.1 (fun a q c => F2 a q (by omega) (by omega))
    refine y_save Y2 (w := 1) (by decide) (fun h3 Y3 K3 F3 => ?_)
    have G3 : GrK m h h3 := fun a q c1 c2 c3 c4 => by rw [F3 a q (by omega) (by omega)]; exact F2 a q (by omega) c3
    have C3 : TPm h3 m (aK A) (aTp A) := ⟨fun i hi => ⟨by rw [F3 _ _ (by omega) (by omega), F2 _ _ (by omega) (by omega)]; exact X.2.2.2.1.2 i hi, wa.2.2.2.1.2 i hi⟩, k9⟩
    unfold w_X7_land_c86
    intro P2 hP2
    have K : ∀ (r t f : Nat) (L : Ld) (h4 : Hp), t + r = N → t + f = 25 → ML_ S h4 m L → L 0 5 ≤ 999 → FrM m h3 h4 → (∀ h', MI_ S h' m (landR A (rnL (aK A) (aTp A) f (posF (aK A) (aTp A) t) t L).1 (rnL (aK A) (aTp A) f (posF (aK A) (aTp A) t) t L).2).2 → FrY m h h' → Q (landR A (rnL (aK A) (aTp A) f (posF (aK A) (aTp A) t) t L).1 (rnL (aK A) (aTp A) f (posF (aK A) (aTp A) t) t L).2).1 h') → P2 (nI t) h4 := by
      intro r
      induction r with
      | zero =>
        intro t f L h4 ht hf2 Y4 hn F4 hq
        have ht : t = N := by omega
        subst ht
        refine hP2 _ _ ⟨l.1, ?_⟩
        have z24 : h4 m 24 = nI t := by rw [F4 _ _ (by omega), F3 _ _ (by omega) (by omega), up_ne (by omega)]; exact e24
        rw [z24]
        simp only [q_le (show t < 2 ^ 31 by omega) (show t < 2 ^ 31 by omega)]
        rw [if_pos (Nat.le_refl _), up_ne (by omega), z24]
        obtain ⟨f, rfl⟩ : ∃ f', f = f' + 1 := ⟨f - 1, by omega⟩
        have er : rnL (aK A) (aTp A) (f + 1) (posF (aK A) (aTp A) t) t L = (nI t, some L) := by
          simp only [rnL]
          rw [if_neg (by omega)]
        rw [er] at hq
        have G4 : GrK m h (up h4 m 30 (nI 0)) := fun a q c1 c2 c3 c4 => by rw [up_ne (by omega), F4 a q (by omega)]; exact G3 a q c1 c2 c3 c4
        refine hq _ (MI_land X (n := 0) (ML_same Y4 (fun a q c => up_ne (by omega))) hn ?_ (Or.inl rfl) (up_same _ _ _ _) G4) (FrY_K G4)
        rw [up_ne (by omega), F4 _ _ (by omega), F3 _ _ (by omega) (by omega)]; exact up_same _ _ _ _
      | succ r ih =>
        intro t f L h4 ht hf2 Y4 hn F4 hq
        refine hP2 _ _ ⟨l.1, ?_⟩
        have z24 : h4 m 24 = nI N := by rw [F4 _ _ (by omega), F3 _ _ (by omega) (by omega), up_ne (by omega)]; exact e24
        rw [z24]
        simp only [q_le (show N < 2 ^ 31 by omega) (show t < 2 ^ 31 by omega)]
        rw [if_neg (by omega)]
        obtain ⟨R1, ok, pk⟩ := RC t (by omega)
        have sg := sm_gp (Nat.le_of_lt pk) ok
        have R4 : RecS h4 m (aK A) (aTp A) t (posF (aK A) (aTp A) t) := RecS_e R1 sg.1.1 (fun a q c => by rw [F4 _ _ (by omega), F3 _ _ (by omega) (by omega), up_ne (by omega)])
        obtain ⟨f, rfl⟩ : ∃ f', f = f' + 1 := ⟨f - 1, by omega⟩
        refine y_cmd (TPm_F C3 F4) R4.2.2 sg.1 (by omega) Y4 hn R4.1 R4.2.1 (rn_le 97 122 7 _) (rn_k 97 122 7 _ (Nat.le_of_lt pk)) (fun i hi => le_in hi) (fun L' e1 h5 Y5 F5 => ?_) (fun e1 => ?_)
        · rw [if_neg (by decide), nI_add]
          refine ih (t + 1) f L' h5 (by omega) (by omega) Y5 (stm_n hn e1) (FrM_tr F4 F5) ?_
          have er : rnL (aK A) (aTp A) (f + 1) (posF (aK A) (aTp A) t) t L = rnL (aK A) (aTp A) f (posF (aK A) (aTp A) (t + 1)) (t + 1) L' := by
            simp only [rnL]
            rw [if_pos pk, e1]
            rfl
          rw [er] at hq
          exact hq
        · rw [if_pos (by decide)]
          have er : rnL (aK A) (aTp A) (f + 1) (posF (aK A) (aTp A) t) t L = ((-2000) - nI (posF (aK A) (aTp A) t), none) := by
            simp only [rnL]
            rw [if_pos pk, e1]
          rw [er] at hq
          refine y_load l (w := 1) (by decide) (KSx_same K3 X.1.2.2 (fun q _ _ => F4 _ _ (by omega))) X.1.2.2 (fun h6 Y6 F6 => ?_)
          rw [lr17 l, q_ix (show t < 2 ^ 31 by omega), F6 _ _ (by omega) (by omega), R4.1]
          refine ⟨q_ain (la17 l) (by omega) (by decide), ?_⟩
          have G6 : GrK m h h6 := fun a q c1 c2 c3 c4 => by rw [F6 a q c1 (by omega), F4 a q (by omega)]; exact G3 a q c1 c2 c3 c4
          refine hq h6 (MI_land X (n := aN A) Y6 wa.1.2 ?_ (Or.inr rfl) ?_ G6) (FrY_K G6)
          · rw [F6 _ _ (by omega) (by omega), F4 _ _ (by omega), F3 _ _ (by omega) (by omega)]; exact up_same _ _ _ _
          · rw [F6 _ _ (by omega) (by omega), F4 _ _ (by omega), F3 _ _ (by omega) (by omega), F2 _ _ (by omega) (by omega)]; exact X.2.2.1.1
    exact K N 0 25 (aL A) h3 (by omega) rfl Y3 wa.1.2 FrM_rf hQ
  -- the end at a fault of form
  have bad : ∀ (q : Nat) (h1 : Hp), fmF (aK A) (aTp A) 25 0 = some q → h1 m 23 = nI q → GrY m h h1 → P (nI 0) h1 := by
    intro q h1 hf e23 F1
    unfold landA at hQ
    rw [hf] at hQ
    refine hP _ _ ?_
    rw [if_pos (by decide), up_ne (by omega), e23]
    have G1 : GrK m h (up h1 m 22 (nI 0)) := fun a q c1 c2 c3 c4 => by rw [up_ne (by omega)]; exact F1 a q (by omega) c3
    refine ⟨l.1, hQ _ (MI_land X (n := aN A) (ML_same X.1 (fun a q c => by rw [up_ne (by omega)]; exact F1 a q (by omega) (by omega))) wa.1.2 (up_same _ _ _ _) (Or.inr rfl) ?_ G1) (FrY_K G1)⟩
    rw [up_ne (by omega), F1 _ _ (by omega) (by omega)]; exact X.2.2.1.1
  have K1 : ∀ (f s : Nat) (h1 : Hp), fmF (aK A) (aTp A) 25 0 = fmF (aK A) (aTp A) f (posF (aK A) (aTp A) s) → 100 ≤ posF (aK A) (aTp A) s + 4 * f → posF (aK A) (aTp A) s ≤ aK A → 4 * s ≤ posF (aK A) (aTp A) s → h1 m 23 = nI (posF (aK A) (aTp A) s) → h1 m 24 = nI s → (∀ t, t < s → RecS h1 m (aK A) (aTp A) t (posF (aK A) (aTp A) t) ∧ (smF (aK A) (aTp A) (posF (aK A) (aTp A) t)).1 = true ∧ posF (aK A) (aTp A) t < aK A) → GrY m h h1 → P (nI 1) h1 := by
    intro f
    induction f with
    | zero => intro s h1 _ a1 a2; omega
    | succ f ih =>
      intro s h1 ef a1 hp hs e23 e24 RC F1
      have R1 : RTp h1 m (aK A) (aTp A) := ⟨by rw [F1 _ _ (by omega) (by omega)]; exact X.2.2.2.1.1, fun i hi => ⟨by rw [F1 _ _ (by omega) (by omega)]; exact X.2.2.2.1.2 i hi, wa.2.2.2.1.2 i hi⟩, k9⟩
      have E : (posF (aK A) (aTp A) s < aK A ∨ posF (aK A) (aTp A) s = 0) → w_X7_statement S m h1 (fun r6 h5 => (if r6 = 0 then (P r6 (up h5 m 24 ((h5 m 24) + (nI 0)))) else (P r6 (up h5 m 24 ((h5 m 24) + (nI 1)))))) := by
        intro c
        have sk := sm_k (T := aTp A) hp
        rw [fm_S (aK A) (aTp A) f, if_pos c] at ef
        refine y_state l R1 e24 (by omega) e23 hp (fun ok h2 F2 e2 R2 => ?_) (fun ok h2 F2 e2 => ?_)
        · have k4 := sk.2 ok
          rw [if_neg (by decide), F2 _ _ (by omega) (by omega) (by omega), e24, nI_add]
          rw [if_pos ok] at ef
          have U : ∀ a q, ¬ (a = m ∧ q = 24) → (up h2 m 24 (nI (s + 1))) a q = h2 a q := fun a q c => up_ne c
          refine ih (s + 1) _ ef (by show 100 ≤ (smF (aK A) (aTp A) (posF (aK A) (aTp A) s)).2.1 + 4 * f; omega) sk.1 (by show 4 * (s + 1) ≤ (smF (aK A) (aTp A) (posF (aK A) (aTp A) s)).2.1; omega) (by rw [U _ _ (by omega)]; exact e2) (up_same _ _ _ _) (fun t ht => ?_) (fun a q c1 c2 => by rw [U _ _ (by omega), F2 _ _ (by omega) (by omega) (by omega)]; exact F1 a q c1 c2)
          by_cases ct : t = s
          · subst ct
            exact ⟨RecS_e R2 (sm_gp hp ok).1.1 (fun a q c => U a q (by omega)), ok, by omega⟩
          · obtain ⟨r1, r2, r3⟩ := RC t (by omega)
            exact ⟨RecS_e r1 (sm_gp (Nat.le_of_lt r3) r2).1.1 (fun a q c => by rw [U _ _ (by omega)]; exact F2 a q (by omega) (by omega) (by omega)), r2, r3⟩
        · rw [if_pos (by decide)]
          rw [if_neg ok] at ef
          exact bad _ _ ef (by rw [up_ne (by omega)]; exact e2) (fun a q c1 c2 => by rw [up_ne (by omega), F2 _ _ (by omega) (by omega) (by omega)]; exact F1 a q c1 c2)
      refine hP _ _ ?_
      rw [if_neg (by decide), e23, R1.1, e24]
      simp only [q_lt (show posF (aK A) (aTp A) s < 2 ^ 31 by omega) (show aK A < 2 ^ 31 by omega), q_eq0 (show s < 2 ^ 31 by omega)]
      refine ⟨l.1, ?_⟩
      by_cases c : posF (aK A) (aTp A) s < aK A
      · rw [if_pos c]
        exact E (Or.inl c)
      · rw [if_neg c]
        by_cases c0 : s = 0
        · rw [if_pos c0]
          exact E (Or.inr (by rw [c0]; rfl))
        · rw [if_neg c0]
          have c1 : ¬ (posF (aK A) (aTp A) s < aK A ∨ posF (aK A) (aTp A) s = 0) := by omega
          rw [fm_S (aK A) (aTp A) f, if_neg c1] at ef
          exact good s h1 ef (by omega) (by omega) e24 RC F1
  refine K1 25 0 _ rfl (by show 100 ≤ 0 + 4 * 25; omega) (Nat.zero_le _) (Nat.zero_le _) (by rw [up_ne (by omega)]; exact up_same _ _ _ _) (up_same _ _ _ _) (fun t ht => absurd ht (Nat.not_lt_zero t)) (fun a q c1 c2 => by rw [up_ne (by omega), up_ne (by omega)])
theorem op_land {x : Nat} (H : SI S h x A) {Q : Int32 → Int32 → Hp → Prop} (hQ : ∀ r A' h', SI S h' x A' → Q r r h') : w_X6_land S x h (fun r h1 => w_X7_land S (x + 180) h1 (fun r' h2 => Q r r' h2)) :=
  x_land H.1 (fun h1 X1 F1 => y_land (SI_m H F1) (fun h2 Y2 F2 => hQ _ _ h2 (SI_mk X1 Y2 F2)))
end YLAND
