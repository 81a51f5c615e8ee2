/-! PURE: the reference's land kept and taken back -/
section MSAVE
variable {S : St} {h : Hp} {m : Nat} {L : Ld}
theorem y_save (X : ML_ S h m L) {w : Nat} (hw : w ≤ 10) {Q : Hp → Prop} (hQ : ∀ h', ML_ S h' m L → KSx h' m w L → (∀ b k, ¬ (b = m + 20 ∧ 218 * w ≤ k ∧ k < 218 * w + 218) → ¬ (b = m ∧ (k = 27 ∨ k = 28)) → h' b k = h b k) → Q h') : w_X7_passesAll S m (nI w) (nI 1) h Q := by
  refine y_keepAll X.1 hw (fun h' R G U => hQ h' ?_ ?_ U)
  · obtain ⟨l, r, wf⟩ := X
    refine ⟨l, ⟨?_, fun f hf => ?_, fun i hi => ⟨fun k c kc => ?_, fun k hk => ?_⟩⟩, wf⟩
    · rw [U m 13 (by omega) (by omega), U m 14 (by omega) (by omega), U m 15 (by omega) (by omega)]; exact r.1
    · rw [U (m + 2) f (by omega) (by omega), U (m + 3) f (by omega) (by omega), U (m + 4) f (by omega) (by omega)]; exact r.2.1 f hf
    · have kc2 := kc
      unfold KC at kc2
      rw [U (m + c) i (by omega) (by omega)]; exact (r.2.2 i hi).1 k c kc
    · rw [U (m + 13) _ (by omega) (by omega)]; exact (r.2.2 i hi).2 k hk
  · obtain ⟨l, r, wf⟩ := X
    obtain ⟨r1, r2, r3, r4, r5, r6, r7, r8, r9, r10, r11, r12⟩ := R
    have w5 := wf.1
    refine ⟨⟨G.1.trans r.1.1, G.2.1.trans r.1.2.1, G.2.2.trans r.1.2.2⟩, fun f hf => ⟨?_, ?_, ?_⟩, fun i hi => ⟨fun k c kc => ?_, fun k hk => ?_⟩⟩
    · have := r1 f hf; rw [Nat.zero_add] at this; exact this.trans (r.2.1 f hf).1
    · exact (r2 f hf).trans (r.2.1 f hf).2.1
    · exact (r3 f hf).trans (r.2.1 f hf).2.2
    · have e := (r.2.2 i hi).1 k c kc
      rcases kc with ⟨rfl, rfl⟩ | ⟨rfl, rfl⟩ | ⟨rfl, rfl⟩ | ⟨rfl, rfl⟩ | ⟨rfl, rfl⟩ | ⟨rfl, rfl⟩ | ⟨rfl, rfl⟩ | ⟨rfl, rfl⟩
      · exact (r4 i (by omega)).trans e
      · exact (r5 i (by omega)).trans e
      · exact (r11 i (by omega)).trans e
      · exact (r6 i (by omega)).trans e
      · exact (r7 i (by omega)).trans e
      · exact (r8 i (by omega)).trans e
      · exact (r9 i (by omega)).trans e
      · exact (r10 i (by omega)).trans e
    · have b3 := (wf.2.2.2 i hi).2.2.1
      exact (r12 (6 * i + k) (by omega)).trans ((r.2.2 i hi).2 k hk)
theorem y_load (l : LayM S m) {w : Nat} (hw : w ≤ 10) (K : KSx h m w L) (wf : WfL L) {Q : Hp → Prop} (hQ : ∀ h', ML_ S h' m L → (∀ b k, ¬ (m + 2 ≤ b ∧ b ≤ m + 13) → ¬ (b = m ∧ (k = 27 ∨ k = 28 ∨ k = 13 ∨ k = 14 ∨ k = 15)) → h' b k = h b k) → Q h') : w_X7_passesAll S m (nI w) (nI 0) h Q := by
  refine y_putAll l hw (fun h' R G U => hQ h' ⟨l, ?_, wf⟩ U)
  obtain ⟨r1, r2, r3, r4, r5, r6, r7, r8, r9, r10, r11, r12⟩ := R
  have w5 := wf.1
  refine ⟨⟨G.1.trans K.1.1, G.2.1.trans K.1.2.1, G.2.2.trans K.1.2.2⟩, fun f hf => ⟨?_, ?_, ?_⟩, fun i hi => ⟨fun k c kc => ?_, fun k hk => ?_⟩⟩
  · have := r1 f hf; rw [Nat.zero_add] at this; exact this.trans (K.2.1 f hf).1
  · exact (r2 f hf).trans (K.2.1 f hf).2.1
  · exact (r3 f hf).trans (K.2.1 f hf).2.2
  · have e := (K.2.2 i hi).1 k c kc
    rcases kc with ⟨rfl, rfl⟩ | ⟨rfl, rfl⟩ | ⟨rfl, rfl⟩ | ⟨rfl, rfl⟩ | ⟨rfl, rfl⟩ | ⟨rfl, rfl⟩ | ⟨rfl, rfl⟩ | ⟨rfl, rfl⟩
    · exact (r4 i (by omega)).trans e
    · exact (r5 i (by omega)).trans e
    · exact (r11 i (by omega)).trans e
    · exact (r6 i (by omega)).trans e
    · exact (r7 i (by omega)).trans e
    · exact (r8 i (by omega)).trans e
    · exact (r9 i (by omega)).trans e
    · exact (r10 i (by omega)).trans e
  · have b3 := (wf.2.2.2 i hi).2.2.1
    exact (r12 (6 * i + k) (by omega)).trans ((K.2.2 i hi).2 k hk)
theorem KSx_same {h1 : Hp} {w : Nat} (K : KSx h m w L) (wf : WfL L) (e : ∀ k, 218 * w ≤ k → k < 218 * w + 218 → h1 (m + 20) k = h (m + 20) k) : KSx h1 m w L := by
  have w5 := wf.1
  refine ⟨⟨?_, ?_, ?_⟩, fun f hf => ⟨?_, ?_, ?_⟩, fun i hi => ⟨fun k c kc => ?_, fun k hk => ?_⟩⟩
  · rw [e _ (by omega) (by omega)]; exact K.1.1
  · rw [e _ (by omega) (by omega)]; exact K.1.2.1
  · rw [e _ (by omega) (by omega)]; exact K.1.2.2
  · rw [e _ (by omega) (by omega)]; exact (K.2.1 f hf).1
  · rw [e _ (by omega) (by omega)]; exact (K.2.1 f hf).2.1
  · rw [e _ (by omega) (by omega)]; exact (K.2.1 f hf).2.2
  · have kc2 := kc
    unfold KC at kc2
    rw [e _ (by omega) (by omega)]; exact (K.2.2 i hi).1 k c kc
  · have b3 := (wf.2.2.2 i hi).2.2.1
    rw [e _ (by omega) (by omega)]; exact (K.2.2 i hi).2 k hk
/-- what a thought may change: the land's cells, the thought's place in 'kept', the cursor -/
def FrD (m : Nat) (h h' : Hp) : Prop := ∀ b k, ¬ (m + 2 ≤ b ∧ b ≤ m + 13) → ¬ (b = m ∧ ((13 ≤ k ∧ k ≤ 15) ∨ k = 27 ∨ k = 28)) → ¬ (b = m + 20 ∧ 436 ≤ k ∧ k < 654) → h' b k = h b k
theorem FrD_rf : FrD m h h := fun _ _ _ _ _ => rfl
theorem FrD_tr {h1 h2 : Hp} (f : FrD m h h1) (g : FrD m h1 h2) : FrD m h h2 := fun b k q1 q2 q3 => (g b k q1 q2 q3).trans (f b k q1 q2 q3)
theorem FrD_of {h1 : Hp} (f : FrM m h h1) : FrD m h h1 := fun b k q1 q2 q3 => f b k (by omega)
/-- in a thought: the land as it is thought, the land as it is kept -/
def TH (S : St) (h : Hp) (m : Nat) (L M : Ld) : Prop := ML_ S h m M ∧ KSx h m 2 L ∧ WfL L
theorem TH_M {h1 : Hp} {M M1 : Ld} (X : TH S h m L M) (Y : ML_ S h1 m M1) (f : FrM m h h1) : TH S h1 m L M1 := ⟨Y, KSx_same X.2.1 X.2.2 (fun k _ _ => f _ _ (by omega)), X.2.2⟩
theorem y_minds (X : ML_ S h m L) {Q : Hp → Prop} (hQ : ∀ h', TH S h' m L L → FrD m h h' → Q h') : w_X7_minds S m h Q := by
  unfold w_X7_minds
  exact ⟨X.1.1, y_save X (by decide) (fun h' Y K U => hQ h' ⟨Y, K, X.2.2⟩ (fun b k q1 q2 q3 => U b k (by omega) (by omega)))⟩
theorem y_forgets {M : Ld} (X : TH S h m L M) {Q : Hp → Prop} (hQ : ∀ h', ML_ S h' m L → FrD m h h' → Q h') : w_X7_forgets S m h Q := by
  unfold w_X7_forgets
  exact ⟨X.1.1.1, y_load X.1.1 (by decide) X.2.1 X.2.2 (fun h' Y U => hQ h' Y (fun b k q1 q2 q3 => U b k q1 (by omega)))⟩
end MSAVE
section XCOPY
variable {S : St} {h : Hp} {b b' : Nat} {L : Ld}
/-- the land at b' copied to b -/
theorem x_copy (l : LayL S b) (X : XL S h b' L) (hd : b + 15 ≤ b' ∨ b' + 15 ≤ b) {Q : Hp → Prop} (hQ : ∀ h', XL S h' b L → Fr b h h' → Q h') : w_X1_copy S b b' h Q := by
  have l' := X.1
  have wf := X.2.2
  have w5 := wf.1
  unfold w_X1_copy
  rw [l.2.1.1, l.2.1.2.1, l.2.1.2.2.1, l'.2.1.1, l'.2.1.2.1, l'.2.1.2.2.1]
  refine ⟨l'.1, l.1, ⟨48, 48, l'.2.2.1.1, l.2.2.1.1, by decide, by decide, by decide, by decide, by decide⟩, ⟨48, 48, l'.2.2.1.2.1, l.2.2.1.2.1, by decide, by decide, by decide, by decide, by decide⟩, ⟨48, 48, l'.2.2.1.2.2.1, l.2.2.1.2.2.1, by decide, by decide, by decide, by decide, by decide⟩, ?_⟩
  have rc : ∀ (g : Hp) (p q a k : Nat), a ≠ q → cpy g p (nI 0) q (nI 0) (nI 48) a k = g a k := fun g p q a k n => by simp [cpy, n]
  have rd : ∀ (g : Hp) (p q k : Nat), k < 48 → cpy g p (nI 0) q (nI 0) (nI 48) q k = g p k := fun g p q k hk => by
    simp only [cpy, if_true]
    rw [show (nI 0).toNatClampNeg = 0 from rfl, show (nI 48).toNatClampNeg = 48 from rfl, pk_cpy_in (by omega) (by omega), Nat.zero_add, Nat.sub_zero]
  have F0 : Fr b h (cpy (cpy (cpy h (b' + 1) (nI 0) (b + 1) (nI 0) (nI 48)) (b' + 2) (nI 0) (b + 2) (nI 0) (nI 48)) (b' + 3) (nI 0) (b + 3) (nI 0) (nI 48)) := fun a k q => by rw [rc _ _ _ _ _ (by omega), rc _ _ _ _ _ (by omega), rc _ _ _ _ _ (by omega)]
  have W : ∀ f, f < 48 → (cpy (cpy (cpy h (b' + 1) (nI 0) (b + 1) (nI 0) (nI 48)) (b' + 2) (nI 0) (b + 2) (nI 0) (nI 48)) (b' + 3) (nI 0) (b + 3) (nI 0) (nI 48)) (b + 1) f = nI (L 1 f) ∧ (cpy (cpy (cpy h (b' + 1) (nI 0) (b + 1) (nI 0) (nI 48)) (b' + 2) (nI 0) (b + 2) (nI 0) (nI 48)) (b' + 3) (nI 0) (b + 3) (nI 0) (nI 48)) (b + 2) f = nI (L 2 f) ∧ (cpy (cpy (cpy h (b' + 1) (nI 0) (b + 1) (nI 0) (nI 48)) (b' + 2) (nI 0) (b + 2) (nI 0) (nI 48)) (b' + 3) (nI 0) (b + 3) (nI 0) (nI 48)) (b + 3) f = nI (L 3 f) := fun f hf => by
    have := X.2.1.2.1 f hf
    refine ⟨?_, ?_, ?_⟩
    · rw [rc _ _ _ _ _ (by omega), rc _ _ _ _ _ (by omega), rd _ _ _ _ hf]; exact this.1
    · rw [rc _ _ _ _ _ (by omega), rd _ _ _ _ hf, rc _ _ _ _ _ (by omega)]; exact this.2.1
    · rw [rd _ _ _ _ hf, rc _ _ _ _ _ (by omega), rc _ _ _ _ _ (by omega)]; exact this.2.2
  generalize cpy (cpy (cpy h (b' + 1) (nI 0) (b + 1) (nI 0) (nI 48)) (b' + 2) (nI 0) (b + 2) (nI 0) (nI 48)) (b' + 3) (nI 0) (b + 3) (nI 0) (nI 48) = h0 at *
  unfold w_X1_copy_c47
  intro P hP
  have K : ∀ (f k : Nat) (h1 : Hp), k + f = L 0 4 → Fr b h h1 → (∀ f, f < 48 → h1 (b + 1) f = nI (L 1 f) ∧ h1 (b + 2) f = nI (L 2 f) ∧ h1 (b + 3) f = nI (L 3 f)) → (∀ i, i < k → XH S h1 (b + (5 + 2 * i)) (L (5 + 2 * i)) (L (6 + 2 * i))) → P (nI k) h1 := by
    intro f
    induction f with
    | zero =>
      intro k h1 hk F W H
      refine hP _ _ ⟨l'.1, ?_⟩
      have e : ∀ q, h1 b' q = h b' q := fun q => F _ _ (by omega)
      rw [e, X.2.1.1.1]
      simp only [q_le (show L 0 4 < 2 ^ 31 by omega) (show k < 2 ^ 31 by omega)]
      rw [if_pos (by omega)]
      have hne : b' ≠ b := by omega
      have u : ∀ (g : Hp) (q : Nat) (v : Int32), ∀ q', up g b q v b' q' = g b' q' := fun g q v q' => up_ne (by omega)
      simp only [u, e, X.2.1.1.2.1, X.2.1.1.2.2]
      refine ⟨l.1, hQ _ ⟨l, ⟨⟨?_, ?_, ?_⟩, fun f hf => ?_, fun i hi => ?_⟩, wf⟩ (Fr_up0 (Fr_up0 (Fr_up0 F)))⟩
      · rw [up_ne (by omega), up_ne (by omega), up_same]
      · rw [up_ne (by omega), up_same]
      · rw [up_same]
      · rw [up_ne (by omega), up_ne (by omega), up_ne (by omega), up_ne (by omega), up_ne (by omega), up_ne (by omega), up_ne (by omega), up_ne (by omega), up_ne (by omega)]
        exact W f hf
      · have Hi := H i (by omega)
        refine ⟨fun q g1 g2 => ?_, fun q g1 => ?_⟩
        · rw [up_ne (by omega), up_ne (by omega), up_ne (by omega)]; exact XHe Hi g1 g2
        · rw [up_ne (by omega), up_ne (by omega), up_ne (by omega), show b + (6 + 2 * i) = b + (5 + 2 * i) + 1 by omega]
          exact Hi.2.2.2.2.1 q g1
    | succ f ih =>
      intro k h1 hk F W H
      refine hP _ _ ⟨l'.1, ?_⟩
      have e : ∀ a q, (a < b ∨ b + 15 ≤ a) → h1 a q = h a q := F
      rw [e _ _ (by omega), X.2.1.1.1]
      simp only [q_le (show L 0 4 < 2 ^ 31 by omega) (show k < 2 ^ 31 by omega), nI_add]
      rw [if_neg (by omega), l.2.1.2.2.2, l'.2.1.2.2.2, q_ix (by omega), (l.2.2.2 k (by omega)).1, (l'.2.2.2 k (by omega)).1]
      have Hk := XLhd X (show k < L 0 4 by omega)
      have Hk1 : XH S h1 (b' + (5 + 2 * k)) (L (5 + 2 * k)) (L (6 + 2 * k)) := by
        refine ⟨Hk.1, Hk.2.1, Hk.2.2.1, fun q g1 g2 => ?_, fun q g1 => ?_, Hk.2.2.2.2.2⟩
        · rw [e _ _ (by omega)]; exact XHe Hk g1 g2
        · rw [e _ _ (by omega)]; exact Hk.2.2.2.2.1 q g1
      have xs := (l.2.2.2 k (by omega)).2
      refine ⟨l.1, q_rin l.2.2.1.2.2.2 (by omega) (by decide), q_rin l'.2.2.1.2.2.2 (by omega) (by decide), xs.1, x_become xs Hk1 (by omega) (by omega) (by omega) (fun h2 Y G => ?_)⟩
      refine ih (k + 1) h2 (by omega) (fun a q g => by rw [G _ _ (by omega) (by omega)]; exact F a q g) (fun g hg => ?_) (fun i hi => ?_)
      · rw [G _ _ (by omega) (by omega), G _ _ (by omega) (by omega), G _ _ (by omega) (by omega)]; exact W g hg
      · by_cases ei : i = k
        · subst ei; exact Y
        · have Hi := H i (by omega)
          refine ⟨Hi.1, Hi.2.1, Hi.2.2.1, fun q g1 g2 => ?_, fun q g1 => ?_, Hi.2.2.2.2.2⟩
          · rw [G _ _ (by omega) (by omega)]; exact XHe Hi g1 g2
          · rw [G _ _ (by omega) (by omega)]; exact Hi.2.2.2.2.1 q g1
  exact K (L 0 4) 0 h0 (by omega) F0 W (fun i hi => absurd hi (by omega))
end XCOPY
