/-! PURE: the whole state: L the land; (t, I) the image; (n, bk) what can be taken back; (k, T) letters; (r, R) the ROW; F the refusals -/
abbrev Ab : Type := Ld × (Nat × Ld) × (Nat × (Nat → Ld)) × (Nat × (Nat → Nat)) × (Nat × (Nat → Nat)) × (Nat → Nat)
abbrev aL (A : Ab) : Ld := A.1
abbrev aT (A : Ab) : Nat := A.2.1.1
abbrev aI (A : Ab) : Ld := A.2.1.2
abbrev aN (A : Ab) : Nat := A.2.2.1.1
abbrev aB (A : Ab) : Nat → Ld := A.2.2.1.2
abbrev aK (A : Ab) : Nat := A.2.2.2.1.1
abbrev aTp (A : Ab) : Nat → Nat := A.2.2.2.1.2
abbrev aR (A : Ab) : Nat := A.2.2.2.2.1.1
abbrev aRw (A : Ab) : Nat → Nat := A.2.2.2.2.1.2
abbrev aF (A : Ab) : Nat → Nat := A.2.2.2.2.2
abbrev sL (A : Ab) (L : Ld) : Ab := (L, A.2)
abbrev sI (A : Ab) (t : Nat) (I : Ld) : Ab := (A.1, (t, I), A.2.2)
abbrev sB (A : Ab) (n : Nat) (bk : Nat → Ld) : Ab := (A.1, A.2.1, (n, bk), A.2.2.2)
abbrev sT (A : Ab) (k : Nat) (T : Nat → Nat) : Ab := (A.1, A.2.1, A.2.2.1, (k, T), A.2.2.2.2)
abbrev sR (A : Ab) (r : Nat) (R : Nat → Nat) : Ab := (A.1, A.2.1, A.2.2.1, A.2.2.2.1, (r, R), A.2.2.2.2.2)
abbrev sF (A : Ab) (F : Nat → Nat) : Ab := (A.1, A.2.1, A.2.2.1, A.2.2.2.1, A.2.2.2.2.1, F)
def WA (A : Ab) : Prop := (WfL (aL A) ∧ aL A 0 5 ≤ 999) ∧ (aT A ≤ 1 ∧ (aT A = 1 → WfL (aI A) ∧ aI A 0 5 ≤ 999)) ∧ (aN A ≤ 8 ∧ ∀ j, j < aN A → WfL (aB A j) ∧ aB A j 0 5 ≤ 999) ∧ (aK A ≤ 96 ∧ ∀ i, i < aK A → aTp A i ≤ 255) ∧ (aR A ≤ 12 ∧ ∀ i, i < aR A → aRw A i ≤ 99)
def upF (F : Nat → Nat) (w : Nat) : Nat → Nat := fun j => if j = w then F w + 1 else F j
/-- a refusal by its code -/
def rfA (A : Ab) (c : Int32) : Int32 × Ab := (c, sF A (upF (aF A) (ix (-c))))
def rfok (c : Int32) : Prop := c = -1 ∨ c = -2 ∨ c = -3 ∨ c = -4 ∨ c = -6
def LayX (S : St) (x : Nat) : Prop := (S.1 x = some (.inl 6) ∧ S.2 x 0 = x + 1 ∧ S.2 x 1 = x + 16 ∧ S.2 x 3 = x + 31 ∧ S.2 x 4 = x + 153 ∧ S.2 x 5 = x + 157 ∧ S.2 x 6 = x + 175 ∧ S.2 x 7 = x + 178 ∧ S.2 x 9 = x + 179) ∧ (LayL S (x + 1) ∧ LayL S (x + 16) ∧ LayL S (x + 158) ∧ ∀ j, j < 8 → LayL S (x + (33 + 15 * j)) ∧ S.2 (x + 32) j = x + (33 + 15 * j)) ∧ (S.1 (x + 31) = some (.inl 3) ∧ S.2 (x + 31) 0 = x + 32 ∧ S.1 (x + 32) = some (.inr (2, 8))) ∧ (S.1 (x + 153) = some (.inl 4) ∧ S.2 (x + 153) 0 = x + 154 ∧ S.2 (x + 153) 2 = x + 155 ∧ S.2 (x + 153) 3 = x + 156 ∧ S.1 (x + 154) = some (.inr (0, 96)) ∧ S.1 (x + 155) = some (.inr (0, 4)) ∧ S.1 (x + 156) = some (.inr (0, 4))) ∧ (S.1 (x + 157) = some (.inl 2) ∧ S.2 (x + 157) 0 = x + 158) ∧ (S.1 (x + 175) = some (.inl 5) ∧ S.2 (x + 175) 0 = x + 176 ∧ S.2 (x + 175) 1 = x + 177 ∧ S.1 (x + 176) = some (.inr (0, 48)) ∧ S.1 (x + 177) = some (.inr (0, 48))) ∧ S.1 (x + 178) = some (.inr (0, 12)) ∧ S.1 (x + 179) = some (.inr (0, 7)) ∧ S.2 (x + 157) 1 = x + 173 ∧ S.2 (x + 157) 2 = x + 174 ∧ S.1 (x + 173) = some (.inr (0, 4)) ∧ S.1 (x + 174) = some (.inr (0, 4))
def XIi (S : St) (h : Hp) (x : Nat) (A : Ab) : Prop := h x 2 = nI (aT A) ∧ (aT A = 1 → XL S h (x + 16) (aI A))
def XIp (S : St) (h : Hp) (x : Nat) (A : Ab) : Prop := h (x + 31) 2 = nI (aN A) ∧ ∃ nx, nx < 8 ∧ h (x + 31) 1 = nI nx ∧ ∀ j, j < aN A → XL S h (x + (33 + 15 * ((nx + 8 - aN A + j) % 8))) (aB A j)
def XIt (h : Hp) (x : Nat) (A : Ab) : Prop := h (x + 153) 1 = nI (aK A) ∧ ∀ i, i < aK A → h (x + 154) i = nI (aTp A i)
def XIr (h : Hp) (x : Nat) (A : Ab) : Prop := h x 8 = nI (aR A) ∧ ∀ i, i < aR A → h (x + 178) i = nI (aRw A i)
def XIf (h : Hp) (x : Nat) (A : Ab) : Prop := ∀ w, 1 ≤ w → w ≤ 6 → h (x + 179) w = nI (aF A w)
def XI (S : St) (h : Hp) (x : Nat) (A : Ab) : Prop := LayX S x ∧ XL S h (x + 1) (aL A) ∧ XIi S h x A ∧ XIp S h x A ∧ XIt h x A ∧ XIr h x A ∧ XIf h x A ∧ WA A
def FrX (x : Nat) (h h' : Hp) : Prop := ∀ a k, (a < x ∨ x + 180 ≤ a) → h' a k = h a k
theorem FrX_rf {x : Nat} {h : Hp} : FrX x h h := fun _ _ _ => rfl
theorem FrX_tr {x : Nat} {h h1 h2 : Hp} (f : FrX x h h1) (g : FrX x h1 h2) : FrX x h h2 := fun a k q => (g a k q).trans (f a k q)
theorem FrX_up {x : Nat} {h h1 : Hp} (f : FrX x h h1) {o k : Nat} {v : Int32} (ho : o < 180) : FrX x h (up h1 (x + o) k v) := fun a k' q => (up_ne (by omega)).trans (f a k' q)
theorem FrX_up0 {x : Nat} {h h1 : Hp} (f : FrX x h h1) {k : Nat} {v : Int32} : FrX x h (up h1 x k v) := fun a k' q => (up_ne (by omega)).trans (f a k' q)
theorem FrX_of {x o : Nat} {h h1 : Hp} (f : Fr (x + o) h h1) (ho : o ≤ 163) : FrX x h h1 := fun a k q => f a k (by omega)
theorem XL_same {S : St} {h h' : Hp} {b : Nat} {L : Ld} (X : XL S h b L) (e : ∀ a k, b ≤ a → a < b + 15 → h' a k = h a k) : XL S h' b L := by
  obtain ⟨l, r, w⟩ := X
  have w5 := w.1
  refine ⟨l, ⟨?_, fun f hf => ?_, fun i hi => ⟨fun k h1 h2 => ?_, fun k hk => ?_⟩⟩, w⟩
  · rw [e _ _ (by omega) (by omega), e _ _ (by omega) (by omega), e _ _ (by omega) (by omega)]; exact r.1
  · rw [e _ _ (by omega) (by omega), e _ _ (by omega) (by omega), e _ _ (by omega) (by omega)]; exact r.2.1 f hf
  · rw [e _ _ (by omega) (by omega)]; exact (r.2.2 i hi).1 k h1 h2
  · rw [e _ _ (by omega) (by omega)]; exact (r.2.2 i hi).2 k hk
section XSTATE
variable {S : St} {h h' : Hp} {x : Nat} {A : Ab}
/-- all but the land now -/
theorem XI_rest (e : ∀ a k, ¬ (x + 1 ≤ a ∧ a ≤ x + 15) → ¬ (x + 155 ≤ a ∧ a ≤ x + 177) → ¬ (a = x + 153 ∧ k = 4) → h' a k = h a k) (X : XI S h x A) : XIi S h' x A ∧ XIp S h' x A ∧ XIt h' x A ∧ XIr h' x A ∧ XIf h' x A := by
  obtain ⟨l, X1, Xi, Xp, Xt, Xr, Xf, w⟩ := X
  refine ⟨⟨?_, fun t => ?_⟩, ⟨?_, ?_⟩, ⟨?_, fun i hi => ?_⟩, ⟨?_, fun i hi => ?_⟩, fun q h1 h2 => ?_⟩
  · rw [e _ _ (by omega) (by omega) (by omega)]; exact Xi.1
  · exact XL_same (Xi.2 t) (fun a k q1 q2 => e _ _ (by omega) (by omega) (by omega))
  · rw [e _ _ (by omega) (by omega) (by omega)]; exact Xp.1
  · obtain ⟨nx, n1, n2, n3⟩ := Xp.2
    refine ⟨nx, n1, ?_, fun j hj => XL_same (n3 j hj) (fun a k q1 q2 => e _ _ (by omega) (by omega) (by omega))⟩
    rw [e _ _ (by omega) (by omega) (by omega)]; exact n2
  · rw [e _ _ (by omega) (by omega) (by omega)]; exact Xt.1
  · rw [e _ _ (by omega) (by omega) (by omega)]; exact Xt.2 i hi
  · rw [e _ _ (by omega) (by omega) (by omega)]; exact Xr.1
  · rw [e _ _ (by omega) (by omega) (by omega)]; exact Xr.2 i hi
  · rw [e _ _ (by omega) (by omega) (by omega)]; exact Xf q h1 h2
theorem XI_cong (X : XI S h x A) (e : ∀ a k, ¬ (x + 155 ≤ a ∧ a ≤ x + 177) → ¬ (a = x + 153 ∧ k = 4) → h' a k = h a k) : XI S h' x A := by
  have r := XI_rest (h' := h') (fun a k _ q2 q3 => e a k q2 q3) X
  exact ⟨X.1, XL_same X.2.1 (fun a k q1 q2 => e _ _ (by omega) (by omega)), r.1, r.2.1, r.2.2.1, r.2.2.2.1, r.2.2.2.2, X.2.2.2.2.2.2.2⟩
theorem XI_thought (X : XI S h x A) (f : Fr (x + 158) h h') : XI S h' x A := XI_cong X (fun a k q1 q2 => f a k (by omega))
theorem XI_now (X : XI S h x A) {L : Ld} (Y : XL S h' (x + 1) L) (f : Fr (x + 1) h h') (hn : L 0 5 ≤ 999) : XI S h' x (sL A L) := by
  have r := XI_rest (h' := h') (fun a k q1 _ _ => f a k (by omega)) X
  have w := X.2.2.2.2.2.2.2
  exact ⟨X.1, Y, r.1, r.2.1, r.2.2.1, r.2.2.2.1, r.2.2.2.2, ⟨Y.2.2, hn⟩, w.2⟩
theorem XI_frame (X : XI S h x A) (e : ∀ a k, x ≤ a → a < x + 180 → h' a k = h a k) : XI S h' x A := by
  obtain ⟨l, X1, Xi, Xp, Xt, Xr, Xf, w⟩ := X
  refine ⟨l, XL_same X1 (fun a k q1 q2 => e _ _ (by omega) (by omega)), ⟨?_, fun t => ?_⟩, ⟨?_, ?_⟩, ⟨?_, fun i hi => ?_⟩, ⟨?_, fun i hi => ?_⟩, fun q h1 h2 => ?_, w⟩
  · rw [e _ _ (by omega) (by omega)]; exact Xi.1
  · exact XL_same (Xi.2 t) (fun a k q1 q2 => e _ _ (by omega) (by omega))
  · rw [e _ _ (by omega) (by omega)]; exact Xp.1
  · obtain ⟨nx, n1, n2, n3⟩ := Xp.2
    refine ⟨nx, n1, ?_, fun j hj => XL_same (n3 j hj) (fun a k q1 q2 => e _ _ (by omega) (by omega))⟩
    rw [e _ _ (by omega) (by omega)]; exact n2
  · rw [e _ _ (by omega) (by omega)]; exact Xt.1
  · rw [e _ _ (by omega) (by omega)]; exact Xt.2 i hi
  · rw [e _ _ (by omega) (by omega)]; exact Xr.1
  · rw [e _ _ (by omega) (by omega)]; exact Xr.2 i hi
  · rw [e _ _ (by omega) (by omega)]; exact Xf q h1 h2
theorem rfok_ix {c : Int32} (hc : rfok c) : ∃ w, 1 ≤ w ∧ w ≤ 6 ∧ -c = nI w := by
  rcases hc with rfl | rfl | rfl | rfl | rfl
  · exact ⟨1, by decide, by decide, by decide⟩
  · exact ⟨2, by decide, by decide, by decide⟩
  · exact ⟨3, by decide, by decide, by decide⟩
  · exact ⟨4, by decide, by decide, by decide⟩
  · exact ⟨6, by decide, by decide, by decide⟩
theorem x_refuse (X : XI S h x A) {c : Int32} (hc : rfok c) {Q : Int32 → Hp → Prop} (hQ : ∀ h', XI S h' x (rfA A c).2 → FrX x h h' → Q (rfA A c).1 h') : w_X6_refuse S x c h Q := by
  unfold w_X6_refuse
  have c1 : ¬ (-1 : Int32) < c := by rcases hc with rfl | rfl | rfl | rfl | rfl <;> decide
  have c2 : ¬ c < (-6 : Int32) := by rcases hc with rfl | rfl | rfl | rfl | rfl <;> decide
  rw [if_neg c1, if_neg c2]
  obtain ⟨w, w1, w6, ew⟩ := rfok_ix hc
  obtain ⟨l, X1, Xi, Xp, Xt, Xr, Xf, wa⟩ := X
  unfold rfA at hQ
  rw [ew] at hQ ⊢
  rw [l.1.2.2.2.2.2.2.2.2, q_ix (by omega), Xf w w1 w6, nI_add]
  rw [q_ix (by omega)] at hQ
  refine ⟨l.1.1, q_ain l.2.2.2.2.2.2.2.1 (by omega) (by decide), hQ _ ?_ (FrX_up FrX_rf (by decide))⟩
  have X0 : XI S h x A := ⟨l, X1, Xi, Xp, Xt, Xr, Xf, wa⟩
  have U : ∀ a k, a ≠ x + 179 → (up h (x + 179) w (nI (aF A w + 1))) a k = h a k := fun a k q => up_ne (by omega)
  refine ⟨l, XL_same X1 (fun a k q1 q2 => U _ _ (by omega)), ⟨?_, fun t => ?_⟩, ⟨?_, ?_⟩, ⟨?_, fun i hi => ?_⟩, ⟨?_, fun i hi => ?_⟩, fun q h1 h2 => ?_, wa⟩
  · rw [U _ _ (by omega)]; exact Xi.1
  · exact XL_same (Xi.2 t) (fun a k q1 q2 => U _ _ (by omega))
  · rw [U _ _ (by omega)]; exact Xp.1
  · obtain ⟨nx, n1, n2, n3⟩ := Xp.2
    refine ⟨nx, n1, ?_, fun j hj => XL_same (n3 j hj) (fun a k q1 q2 => U _ _ (by omega))⟩
    rw [U _ _ (by omega)]; exact n2
  · rw [U _ _ (by omega)]; exact Xt.1
  · rw [U _ _ (by omega)]; exact Xt.2 i hi
  · rw [U _ _ (by omega)]; exact Xr.1
  · rw [U _ _ (by omega)]; exact Xr.2 i hi
  · show up h (x + 179) w (nI (aF A w + 1)) (x + 179) q = nI (upF (aF A) w q)
    unfold upF
    by_cases e : q = w
    · subst e; rw [up_same, if_pos rfl]
    · rw [up_ne (by omega), if_neg e]; exact Xf q h1 h2
end XSTATE
/-! the reference's whole state -/
def MIp (h : Hp) (m : Nat) (A : Ab) : Prop := h m 30 = nI (aN A) ∧ ∃ fb, fb < 8 ∧ h m 29 = nI fb ∧ ∀ j, j < aN A → KSx h m (3 + (fb + j) % 8) (aB A j)
def MI_ (S : St) (h : Hp) (m : Nat) (A : Ab) : Prop := ML_ S h m (aL A) ∧ (h m 26 = nI (aT A) ∧ (aT A = 1 → KSx h m 0 (aI A))) ∧ MIp h m A ∧ (h m 22 = nI (aK A) ∧ ∀ i, i < aK A → h (m + 14) i = nI (aTp A i)) ∧ (h m 32 = nI (aR A) ∧ ∀ i, i < aR A → h (m + 21) i = nI (aRw A i)) ∧ (∀ w, 1 ≤ w → w ≤ 6 → h (m + 1) w = nI (aF A w)) ∧ WA A
def FrY (m : Nat) (h h' : Hp) : Prop := ∀ a k, (a < m ∨ m + 24 ≤ a) → h' a k = h a k
theorem FrY_rf {m : Nat} {h : Hp} : FrY m h h := fun _ _ _ => rfl
theorem FrY_tr {m : Nat} {h h1 h2 : Hp} (f : FrY m h h1) (g : FrY m h1 h2) : FrY m h h2 := fun a k q => (g a k q).trans (f a k q)
theorem FrY_up {m : Nat} {h h1 : Hp} (f : FrY m h h1) {o k : Nat} {v : Int32} (ho : o < 24) : FrY m h (up h1 (m + o) k v) := fun a k' q => (up_ne (by omega)).trans (f a k' q)
theorem FrY_up0 {m : Nat} {h h1 : Hp} (f : FrY m h h1) {k : Nat} {v : Int32} : FrY m h (up h1 m k v) := fun a k' q => (up_ne (by omega)).trans (f a k' q)
theorem FrY_D {m : Nat} {h h1 : Hp} (f : FrD m h h1) : FrY m h h1 := fun a k q => f a k (by omega) (by omega) (by omega)
theorem FrY_M {m : Nat} {h h1 : Hp} (f : FrM m h h1) : FrY m h h1 := fun a k q => f a k (by omega)
theorem ML_same {S : St} {h h' : Hp} {m : Nat} {L : Ld} (X : ML_ S h m L) (e : ∀ a k, (m + 2 ≤ a ∧ a ≤ m + 13) ∨ (a = m ∧ 13 ≤ k ∧ k ≤ 15) → h' a k = h a k) : ML_ S h' m L := by
  obtain ⟨l, r, w⟩ := X
  refine ⟨l, ⟨?_, fun f hf => ?_, fun i hi => ⟨fun k c kc => ?_, fun k hk => ?_⟩⟩, w⟩
  · rw [e _ _ (by omega), e _ _ (by omega), e _ _ (by omega)]; exact r.1
  · rw [e _ _ (by omega), e _ _ (by omega), e _ _ (by omega)]; exact r.2.1 f hf
  · have kc2 := kc
    unfold KC at kc2
    rw [e _ _ (by omega)]; exact (r.2.2 i hi).1 k c kc
  · rw [e _ _ (by omega)]; exact (r.2.2 i hi).2 k hk
section MSTATE
variable {S : St} {h h' : Hp} {m : Nat} {A : Ab}
theorem MI_rest (X : MI_ S h m A) {L : Ld} (Y : ML_ S h' m L) (hn : L 0 5 ≤ 999) (e : FrD m h h') : MI_ S h' m (sL A L) := by
  obtain ⟨X1, Xi, Xp, Xt, Xr, Xf, w⟩ := X
  obtain ⟨wl, wt, wb, wk, wr⟩ := w
  refine ⟨Y, ⟨?_, fun t => ?_⟩, ⟨?_, ?_⟩, ⟨?_, fun i hi => ?_⟩, ⟨?_, fun i hi => ?_⟩, fun q h1 h2 => ?_, ⟨Y.2.2, hn⟩, wt, wb, wk, wr⟩
  · rw [e _ _ (by omega) (by omega) (by omega)]; exact Xi.1
  · exact KSx_same (Xi.2 t) (wt.2 t).1 (fun k q1 q2 => e _ _ (by omega) (by omega) (by omega))
  · rw [e _ _ (by omega) (by omega) (by omega)]; exact Xp.1
  · obtain ⟨fb, n1, n2, n3⟩ := Xp.2
    refine ⟨fb, n1, ?_, fun j hj => KSx_same (n3 j hj) (wb.2 j hj).1 (fun k q1 q2 => e _ _ (by omega) (by omega) (by omega))⟩
    rw [e _ _ (by omega) (by omega) (by omega)]; exact n2
  · rw [e _ _ (by omega) (by omega) (by omega)]; exact Xt.1
  · rw [e _ _ (by omega) (by omega) (by omega)]; exact Xt.2 i hi
  · rw [e _ _ (by omega) (by omega) (by omega)]; exact Xr.1
  · rw [e _ _ (by omega) (by omega) (by omega)]; exact Xr.2 i hi
  · rw [e _ _ (by omega) (by omega) (by omega)]; exact Xf q h1 h2
theorem MI_mind (X : MI_ S h m A) (Y : ML_ S h' m (aL A)) (e : FrD m h h') : MI_ S h' m A := MI_rest X Y X.2.2.2.2.2.2.1.2 e
theorem MI_frame (X : MI_ S h m A) (e : ∀ a k, m ≤ a → a < m + 24 → h' a k = h a k) : MI_ S h' m A := by
  obtain ⟨X1, Xi, Xp, Xt, Xr, Xf, w⟩ := X
  obtain ⟨wl, wt, wb, wk, wr⟩ := w
  refine ⟨ML_same X1 (fun a k q => e _ _ (by omega) (by omega)), ⟨?_, fun t => ?_⟩, ⟨?_, ?_⟩, ⟨?_, fun i hi => ?_⟩, ⟨?_, fun i hi => ?_⟩, fun q h1 h2 => ?_, wl, wt, wb, wk, wr⟩
  · rw [e _ _ (by omega) (by omega)]; exact Xi.1
  · exact KSx_same (Xi.2 t) (wt.2 t).1 (fun k q1 q2 => e _ _ (by omega) (by omega))
  · rw [e _ _ (by omega) (by omega)]; exact Xp.1
  · obtain ⟨fb, n1, n2, n3⟩ := Xp.2
    refine ⟨fb, n1, ?_, fun j hj => KSx_same (n3 j hj) (wb.2 j hj).1 (fun k q1 q2 => e _ _ (by omega) (by omega))⟩
    rw [e _ _ (by omega) (by omega)]; exact n2
  · rw [e _ _ (by omega) (by omega)]; exact Xt.1
  · rw [e _ _ (by omega) (by omega)]; exact Xt.2 i hi
  · rw [e _ _ (by omega) (by omega)]; exact Xr.1
  · rw [e _ _ (by omega) (by omega)]; exact Xr.2 i hi
  · rw [e _ _ (by omega) (by omega)]; exact Xf q h1 h2
theorem y_no (X : MI_ S h m A) {c : Int32} (hc : rfok c) {Q : Int32 → Hp → Prop} (hQ : ∀ h', MI_ S h' m (rfA A c).2 → FrY m h h' → Q (rfA A c).1 h') : w_X7_no S m c h Q := by
  unfold w_X7_no
  obtain ⟨w, w1, w6, ew⟩ := rfok_ix hc
  obtain ⟨X1, Xi, Xp, Xt, Xr, Xf, wa⟩ := X
  have l := X1.1
  unfold rfA at hQ
  rw [ew] at hQ ⊢
  rw [lr0 l, q_ix (by omega), Xf w w1 w6, nI_add]
  rw [q_ix (by omega)] at hQ
  refine ⟨l.1, q_ain (la0 l) (by omega) (by decide), hQ _ ?_ (FrY_up FrY_rf (by decide))⟩
  have U : ∀ a k, a ≠ m + 1 → (up h (m + 1) w (nI (aF A w + 1))) a k = h a k := fun a k q => up_ne (by omega)
  refine ⟨ML_same X1 (fun a k q => U _ _ (by omega)), ⟨?_, fun t => ?_⟩, ⟨?_, ?_⟩, ⟨?_, fun i hi => ?_⟩, ⟨?_, fun i hi => ?_⟩, fun q h1 h2 => ?_, wa⟩
  · rw [U _ _ (by omega)]; exact Xi.1
  · exact KSx_same (Xi.2 t) (wa.2.1.2 t).1 (fun k q1 q2 => U _ _ (by omega))
  · rw [U _ _ (by omega)]; exact Xp.1
  · obtain ⟨fb, n1, n2, n3⟩ := Xp.2
    refine ⟨fb, n1, ?_, fun j hj => KSx_same (n3 j hj) (wa.2.2.1.2 j hj).1 (fun k q1 q2 => U _ _ (by omega))⟩
    rw [U _ _ (by omega)]; exact n2
  · rw [U _ _ (by omega)]; exact Xt.1
  · rw [U _ _ (by omega)]; exact Xt.2 i hi
  · rw [U _ _ (by omega)]; exact Xr.1
  · rw [U _ _ (by omega)]; exact Xr.2 i hi
  · show up h (m + 1) w (nI (aF A w + 1)) (m + 1) q = nI (upF (aF A) w q)
    unfold upF
    by_cases e : q = w
    · subst e; rw [up_same, if_pos rfl]
    · rw [up_ne (by omega), if_neg e]; exact Xf q h1 h2
end MSTATE
