/-! PURE: the reference's passing of its land to a place of 'kept', and back -/
section MPASS
variable {S : St} {h : Hp} {m : Nat}
/-- what passing a row to 'kept' does; what passing it back does -/
theorem y_keep (l : LayM S m) {a n c : Nat} (ha : S.1 a = some (.inr (0, n))) (hn : n < 2 ^ 20) (hc : c + n ≤ 2400) (h27 : h m 27 = nI 1) (h28 : h m 28 = nI c) (hma : a ≠ m) (hka : a ≠ m + 20) {Q : Hp → Prop} (hQ : ∀ h' : Hp, h' m 28 = nI (c + n) → (∀ j, j < n → h' (m + 20) (c + j) = h a j) → (∀ b k, ¬ (b = m + 20 ∧ c ≤ k ∧ k < c + n) → ¬ (b = m ∧ k = 28) → h' b k = h b k) → Q h') : w_X7_passes S m a h Q := by
  unfold w_X7_passes w_X7_passes_c2
  intro P hP
  have K : ∀ (f k : Nat) (h1 : Hp), k + f = n → h1 m 28 = nI (c + k) → (∀ j, j < k → h1 (m + 20) (c + j) = h a j) → (∀ b q, ¬ (b = m + 20 ∧ c ≤ q ∧ q < c + k) → ¬ (b = m ∧ q = 28) → h1 b q = h b q) → P (nI k) h1 := by
    intro f
    induction f with
    | zero =>
      intro k h1 hk g1 g2 g3
      refine hP _ _ ⟨n, ⟨ha, by omega⟩, ?_⟩
      simp only [q_le (show n < 2 ^ 31 by omega) (show k < 2 ^ 31 by omega)]
      rw [if_pos (by omega)]
      have e : k = n := by omega
      subst e
      exact hQ h1 g1 g2 g3
    | succ f ih =>
      intro k h1 hk g1 g2 g3
      refine hP _ _ ⟨n, ⟨ha, by omega⟩, ?_⟩
      simp only [q_le (show n < 2 ^ 31 by omega) (show k < 2 ^ 31 by omega)]
      have e27 : h1 m 27 = nI 1 := by rw [g3 m 27 (by omega) (by omega)]; exact h27
      have ea : h1 a k = h a k := g3 a k (by omega) (by omega)
      rw [if_neg (by omega), e27, if_neg (by decide), lr25 l, g1, q_ix (show c + k < 2 ^ 31 by omega), q_ix (show k < 2 ^ 31 by omega), ea, nI_add]
      refine ⟨l.1, q_ain ha (by omega) (by omega), q_ain (la25 l) (by omega) (by decide), ?_⟩
      rw [up_ne (a' := m) (a := m + 20) (by omega), g1, nI_add]
      refine ih (k + 1) _ (by omega) (up_same _ _ _ _) (fun j hj => ?_) (fun b q q1 q2 => ?_)
      · rw [up_ne (by omega)]
        by_cases e : j = k
        · subst e; rw [up_same]
        · rw [up_ne (by omega)]; exact g2 j (by omega)
      · rw [up_ne (by omega), up_ne (by omega)]; exact g3 b q (by omega) q2
  exact K n 0 h (by omega) h28 (fun j hj => absurd hj (by omega)) (fun _ _ _ _ => rfl)
theorem y_put (l : LayM S m) {a n c : Nat} (ha : S.1 a = some (.inr (0, n))) (hn : n < 2 ^ 20) (hc : c + n ≤ 2400) (h27 : h m 27 = nI 0) (h28 : h m 28 = nI c) (hma : a ≠ m) (hka : a ≠ m + 20) {Q : Hp → Prop} (hQ : ∀ h' : Hp, h' m 28 = nI (c + n) → (∀ j, j < n → h' a j = h (m + 20) (c + j)) → (∀ b k, ¬ (b = a ∧ k < n) → ¬ (b = m ∧ k = 28) → h' b k = h b k) → Q h') : w_X7_passes S m a h Q := by
  unfold w_X7_passes w_X7_passes_c2
  intro P hP
  have K : ∀ (f k : Nat) (h1 : Hp), k + f = n → h1 m 28 = nI (c + k) → (∀ j, j < k → h1 a j = h (m + 20) (c + j)) → (∀ b q, ¬ (b = a ∧ q < k) → ¬ (b = m ∧ q = 28) → h1 b q = h b q) → P (nI k) h1 := by
    intro f
    induction f with
    | zero =>
      intro k h1 hk g1 g2 g3
      refine hP _ _ ⟨n, ⟨ha, by omega⟩, ?_⟩
      simp only [q_le (show n < 2 ^ 31 by omega) (show k < 2 ^ 31 by omega)]
      rw [if_pos (by omega)]
      have e : k = n := by omega
      subst e
      exact hQ h1 g1 g2 g3
    | succ f ih =>
      intro k h1 hk g1 g2 g3
      refine hP _ _ ⟨n, ⟨ha, by omega⟩, ?_⟩
      simp only [q_le (show n < 2 ^ 31 by omega) (show k < 2 ^ 31 by omega)]
      have e27 : h1 m 27 = nI 0 := by rw [g3 m 27 (by omega) (by omega)]; exact h27
      have ea : h1 (m + 20) (c + k) = h (m + 20) (c + k) := g3 (m + 20) (c + k) (by omega) (by omega)
      rw [if_neg (by omega), e27, if_pos (by decide), lr25 l, g1, q_ix (show c + k < 2 ^ 31 by omega), q_ix (show k < 2 ^ 31 by omega), ea, nI_add]
      refine ⟨l.1, q_ain (la25 l) (by omega) (by decide), q_ain ha (by omega) (by omega), ?_⟩
      rw [up_ne (a' := m) (a := a) (by omega), g1, nI_add]
      refine ih (k + 1) _ (by omega) (up_same _ _ _ _) (fun j hj => ?_) (fun b q q1 q2 => ?_)
      · rw [up_ne (by omega)]
        by_cases e : j = k
        · subst e; rw [up_same]
        · rw [up_ne (by omega)]; exact g2 j (by omega)
      · rw [up_ne (by omega), up_ne (by omega)]; exact g3 b q (by omega) q2
  exact K n 0 h (by omega) h28 (fun j hj => absurd hj (by omega)) (fun _ _ _ _ => rfl)
theorem y_keep1 (l : LayM S m) {c : Nat} {v : Int32} (hc : c < 2400) (h27 : h m 27 = nI 1) (h28 : h m 28 = nI c) {Q : Int32 → Hp → Prop} (hQ : ∀ h' : Hp, h' m 28 = nI (c + 1) → h' (m + 20) c = v → (∀ b k, ¬ (b = m + 20 ∧ k = c) → ¬ (b = m ∧ k = 28) → h' b k = h b k) → Q v h') : w_X7_passOne S m v h Q := by
  unfold w_X7_passOne w_X7_passOne_c20
  rw [h27, if_neg (by decide), if_neg (by decide), lr25 l, h28, q_ix (show c < 2 ^ 31 by omega)]
  refine ⟨l.1, l.1, q_ain (la25 l) hc (by decide), ?_⟩
  rw [up_ne (a' := m) (a := m + 20) (by omega), h28, nI_add]
  refine hQ _ (up_same _ _ _ _) ?_ (fun b k q1 q2 => ?_)
  · rw [up_ne (by omega), up_same]
  · rw [up_ne (by omega), up_ne (by omega)]
theorem y_put1 (l : LayM S m) {c : Nat} {v : Int32} (hc : c < 2400) (h27 : h m 27 = nI 0) (h28 : h m 28 = nI c) {Q : Int32 → Hp → Prop} (hQ : ∀ h' : Hp, h' m 28 = nI (c + 1) → (∀ b k, ¬ (b = m ∧ k = 28) → h' b k = h b k) → Q (h (m + 20) c) h') : w_X7_passOne S m v h Q := by
  unfold w_X7_passOne w_X7_passOne_c20
  rw [h27, if_pos (by decide), if_pos (by decide), lr25 l, h28, q_ix (show c < 2 ^ 31 by omega), nI_add]
  exact ⟨l.1, q_ain (la25 l) hc (by decide), l.1, hQ _ (up_same _ _ _ _) (fun b k q => up_ne (by omega))⟩
/-- segment w of 'kept' holds the land -/
def KSx (h : Hp) (m w : Nat) (L : Ld) : Prop := (h (m + 20) (218 * w + 214) = nI (L 0 4) ∧ h (m + 20) (218 * w + 215) = nI (L 0 5) ∧ h (m + 20) (218 * w + 216) = nI (L 0 6)) ∧ (∀ f, f < 48 → h (m + 20) (218 * w + f) = nI (L 1 f) ∧ h (m + 20) (218 * w + (48 + f)) = nI (L 2 f) ∧ h (m + 20) (218 * w + (96 + f)) = nI (L 3 f)) ∧ ∀ i, i < L 0 4 → (∀ k c, KC k c → h (m + 20) (218 * w + (144 + 5 * (c - 5) + i)) = nI (L (5 + 2 * i) k)) ∧ ∀ k, k < L (5 + 2 * i) 3 → h (m + 20) (218 * w + (184 + (6 * i + k))) = nI (L (6 + 2 * i) k)
theorem y_keepAll (l : LayM S m) {w : Nat} (hw : w ≤ 10) {Q : Hp → Prop} (hQ : ∀ h' : Hp, ((∀ j, j < 48 → h' (m + 20) (218 * w + (0 + j)) = h (m + 2) j) ∧ (∀ j, j < 48 → h' (m + 20) (218 * w + (48 + j)) = h (m + 3) j) ∧ (∀ j, j < 48 → h' (m + 20) (218 * w + (96 + j)) = h (m + 4) j) ∧ (∀ j, j < 5 → h' (m + 20) (218 * w + (144 + j)) = h (m + 5) j) ∧ (∀ j, j < 5 → h' (m + 20) (218 * w + (149 + j)) = h (m + 6) j) ∧ (∀ j, j < 5 → h' (m + 20) (218 * w + (154 + j)) = h (m + 7) j) ∧ (∀ j, j < 5 → h' (m + 20) (218 * w + (159 + j)) = h (m + 8) j) ∧ (∀ j, j < 5 → h' (m + 20) (218 * w + (164 + j)) = h (m + 9) j) ∧ (∀ j, j < 5 → h' (m + 20) (218 * w + (169 + j)) = h (m + 10) j) ∧ (∀ j, j < 5 → h' (m + 20) (218 * w + (174 + j)) = h (m + 11) j) ∧ (∀ j, j < 5 → h' (m + 20) (218 * w + (179 + j)) = h (m + 12) j) ∧ (∀ j, j < 30 → h' (m + 20) (218 * w + (184 + j)) = h (m + 13) j)) → (h' (m + 20) (218 * w + 214) = h m 13 ∧ h' (m + 20) (218 * w + 215) = h m 14 ∧ h' (m + 20) (218 * w + 216) = h m 15) → (∀ b k, ¬ (b = m + 20 ∧ 218 * w ≤ k ∧ k < 218 * w + 218) → ¬ (b = m ∧ (k = 27 ∨ k = 28)) → h' b k = h b k) → Q h') : w_X7_passesAll S m (nI w) (nI 1) h Q := by
  unfold w_X7_passesAll
  rw [pk_mul, lr1 l, lr2 l, lr3 l, lr4 l, lr5 l, lr6 l, lr7 l, lr8 l, lr9 l, lr10 l, lr11 l, lr12 l]
  refine ⟨l.1, Or.inr rfl, ?_⟩
  have s27 : (up (up h m 28 (nI (218 * w))) m 27 (nI 1)) m 27 = nI 1 := up_same _ _ _ _
  have s28 : (up (up h m 28 (nI (218 * w))) m 27 (nI 1)) m 28 = nI (218 * w) := by rw [up_ne (by omega), up_same]
  have f0 : ∀ b k, ¬ (b = m ∧ (k = 27 ∨ k = 28)) → (up (up h m 28 (nI (218 * w))) m 27 (nI 1)) b k = h b k := fun b k q => by rw [up_ne (by omega), up_ne (by omega)]
  generalize up (up h m 28 (nI (218 * w))) m 27 (nI 1) = g0 at *
  refine y_keep (h := g0) (c := 218 * w + 0) l (la1 l) (by decide) (by omega) s27 s28 (by omega) (by omega) (fun g1 t28 r0 u0 => ?_)
  have s27 : g1 m 27 = nI 1 := by rw [u0 m 27 (by omega) (by omega)]; exact s27
  have s28 : g1 m 28 = nI (218 * w + 48) := t28
  refine y_keep (h := g1) (c := 218 * w + 48) l (la2 l) (by decide) (by omega) s27 s28 (by omega) (by omega) (fun g2 t28 r1 u1 => ?_)
  have s27 : g2 m 27 = nI 1 := by rw [u1 m 27 (by omega) (by omega)]; exact s27
  have s28 : g2 m 28 = nI (218 * w + 96) := t28
  refine y_keep (h := g2) (c := 218 * w + 96) l (la3 l) (by decide) (by omega) s27 s28 (by omega) (by omega) (fun g3 t28 r2 u2 => ?_)
  have s27 : g3 m 27 = nI 1 := by rw [u2 m 27 (by omega) (by omega)]; exact s27
  have s28 : g3 m 28 = nI (218 * w + 144) := t28
  refine y_keep (h := g3) (c := 218 * w + 144) l (la4 l) (by decide) (by omega) s27 s28 (by omega) (by omega) (fun g4 t28 r3 u3 => ?_)
  have s27 : g4 m 27 = nI 1 := by rw [u3 m 27 (by omega) (by omega)]; exact s27
  have s28 : g4 m 28 = nI (218 * w + 149) := t28
  refine y_keep (h := g4) (c := 218 * w + 149) l (la5 l) (by decide) (by omega) s27 s28 (by omega) (by omega) (fun g5 t28 r4 u4 => ?_)
  have s27 : g5 m 27 = nI 1 := by rw [u4 m 27 (by omega) (by omega)]; exact s27
  have s28 : g5 m 28 = nI (218 * w + 154) := t28
  refine y_keep (h := g5) (c := 218 * w + 154) l (la6 l) (by decide) (by omega) s27 s28 (by omega) (by omega) (fun g6 t28 r5 u5 => ?_)
  have s27 : g6 m 27 = nI 1 := by rw [u5 m 27 (by omega) (by omega)]; exact s27
  have s28 : g6 m 28 = nI (218 * w + 159) := t28
  refine y_keep (h := g6) (c := 218 * w + 159) l (la7 l) (by decide) (by omega) s27 s28 (by omega) (by omega) (fun g7 t28 r6 u6 => ?_)
  have s27 : g7 m 27 = nI 1 := by rw [u6 m 27 (by omega) (by omega)]; exact s27
  have s28 : g7 m 28 = nI (218 * w + 164) := t28
  refine y_keep (h := g7) (c := 218 * w + 164) l (la8 l) (by decide) (by omega) s27 s28 (by omega) (by omega) (fun g8 t28 r7 u7 => ?_)
  have s27 : g8 m 27 = nI 1 := by rw [u7 m 27 (by omega) (by omega)]; exact s27
  have s28 : g8 m 28 = nI (218 * w + 169) := t28
  refine y_keep (h := g8) (c := 218 * w + 169) l (la9 l) (by decide) (by omega) s27 s28 (by omega) (by omega) (fun g9 t28 r8 u8 => ?_)
  have s27 : g9 m 27 = nI 1 := by rw [u8 m 27 (by omega) (by omega)]; exact s27
  have s28 : g9 m 28 = nI (218 * w + 174) := t28
  refine y_keep (h := g9) (c := 218 * w + 174) l (la10 l) (by decide) (by omega) s27 s28 (by omega) (by omega) (fun g10 t28 r9 u9 => ?_)
  have s27 : g10 m 27 = nI 1 := by rw [u9 m 27 (by omega) (by omega)]; exact s27
  have s28 : g10 m 28 = nI (218 * w + 179) := t28
  refine y_keep (h := g10) (c := 218 * w + 179) l (la11 l) (by decide) (by omega) s27 s28 (by omega) (by omega) (fun g11 t28 r10 u10 => ?_)
  have s27 : g11 m 27 = nI 1 := by rw [u10 m 27 (by omega) (by omega)]; exact s27
  have s28 : g11 m 28 = nI (218 * w + 184) := t28
  refine y_keep (h := g11) (c := 218 * w + 184) l (la12 l) (by decide) (by omega) s27 s28 (by omega) (by omega) (fun g12 t28 r11 u11 => ?_)
  have s27 : g12 m 27 = nI 1 := by rw [u11 m 27 (by omega) (by omega)]; exact s27
  have s28 : g12 m 28 = nI (218 * w + 214) := t28
  refine y_keep1 (h := g12) (c := 218 * w + 214) l (by omega) s27 s28 (fun g13 t28 r12 u12 => ?_)
  have s27 : (up g13 m 13 (g12 m 13)) m 27 = nI 1 := by rw [up_ne (by omega), u12 m 27 (by omega) (by omega)]; exact s27
  have s28 : (up g13 m 13 (g12 m 13)) m 28 = nI (218 * w + 215) := by rw [up_ne (by omega)]; exact t28
  refine y_keep1 (c := 218 * w + 215) l (by omega) s27 s28 (fun g14 t28 r13 u13 => ?_)
  have s27 : (up g14 m 14 ((up g13 m 13 (g12 m 13)) m 14)) m 27 = nI 1 := by rw [up_ne (by omega), u13 m 27 (by omega) (by omega)]; exact s27
  have s28 : (up g14 m 14 ((up g13 m 13 (g12 m 13)) m 14)) m 28 = nI (218 * w + 216) := by rw [up_ne (by omega)]; exact t28
  refine y_keep1 (c := 218 * w + 216) l (by omega) s27 s28 (fun g15 t28 r14 u14 => ?_)
  have e13 : ∀ b k, ¬ (b = m + 20 ∧ 218 * w ≤ k ∧ k < 218 * w + 218) → ¬ (b = m ∧ (k = 27 ∨ k = 28)) → g12 b k = h b k := fun b k q1 q2 => by rw [u11 b k (by omega) (by omega), u10 b k (by omega) (by omega), u9 b k (by omega) (by omega), u8 b k (by omega) (by omega), u7 b k (by omega) (by omega), u6 b k (by omega) (by omega), u5 b k (by omega) (by omega), u4 b k (by omega) (by omega), u3 b k (by omega) (by omega), u2 b k (by omega) (by omega), u1 b k (by omega) (by omega), u0 b k (by omega) (by omega)]; exact f0 b k (by omega)
  have d14 : (up g13 m 13 (g12 m 13)) m 14 = h m 14 := by rw [up_ne (by omega), u12 m 14 (by omega) (by omega)]; exact e13 m 14 (by omega) (by omega)
  have d15 : (up g14 m 14 ((up g13 m 13 (g12 m 13)) m 14)) m 15 = h m 15 := by rw [up_ne (by omega), u13 m 15 (by omega) (by omega), up_ne (by omega), u12 m 15 (by omega) (by omega)]; exact e13 m 15 (by omega) (by omega)
  have d13 : g12 m 13 = h m 13 := e13 m 13 (by omega) (by omega)
  rw [d15]
  have z20 : ∀ k, ¬ (k = 218 * w + 214 ∨ k = 218 * w + 215 ∨ k = 218 * w + 216) → (up g15 m 15 (h m 15)) (m + 20) k = g12 (m + 20) k := fun k q => by rw [up_ne (by omega), u14 (m + 20) k (by omega) (by omega), up_ne (by omega), u13 (m + 20) k (by omega) (by omega), up_ne (by omega), u12 (m + 20) k (by omega) (by omega)]
  refine hQ _ ⟨fun j hj => by rw [z20 _ (by omega), u11 _ _ (by omega) (by omega), u10 _ _ (by omega) (by omega), u9 _ _ (by omega) (by omega), u8 _ _ (by omega) (by omega), u7 _ _ (by omega) (by omega), u6 _ _ (by omega) (by omega), u5 _ _ (by omega) (by omega), u4 _ _ (by omega) (by omega), u3 _ _ (by omega) (by omega), u2 _ _ (by omega) (by omega), u1 _ _ (by omega) (by omega), ← Nat.add_assoc, r0 j hj]; exact f0 _ _ (by omega), fun j hj => by rw [z20 _ (by omega), u11 _ _ (by omega) (by omega), u10 _ _ (by omega) (by omega), u9 _ _ (by omega) (by omega), u8 _ _ (by omega) (by omega), u7 _ _ (by omega) (by omega), u6 _ _ (by omega) (by omega), u5 _ _ (by omega) (by omega), u4 _ _ (by omega) (by omega), u3 _ _ (by omega) (by omega), u2 _ _ (by omega) (by omega), ← Nat.add_assoc, r1 j hj, u0 _ _ (by omega) (by omega)]; exact f0 _ _ (by omega), fun j hj => by rw [z20 _ (by omega), u11 _ _ (by omega) (by omega), u10 _ _ (by omega) (by omega), u9 _ _ (by omega) (by omega), u8 _ _ (by omega) (by omega), u7 _ _ (by omega) (by omega), u6 _ _ (by omega) (by omega), u5 _ _ (by omega) (by omega), u4 _ _ (by omega) (by omega), u3 _ _ (by omega) (by omega), ← Nat.add_assoc, r2 j hj, u1 _ _ (by omega) (by omega), u0 _ _ (by omega) (by omega)]; exact f0 _ _ (by omega), fun j hj => by rw [z20 _ (by omega), u11 _ _ (by omega) (by omega), u10 _ _ (by omega) (by omega), u9 _ _ (by omega) (by omega), u8 _ _ (by omega) (by omega), u7 _ _ (by omega) (by omega), u6 _ _ (by omega) (by omega), u5 _ _ (by omega) (by omega), u4 _ _ (by omega) (by omega), ← Nat.add_assoc, r3 j hj, u2 _ _ (by omega) (by omega), u1 _ _ (by omega) (by omega), u0 _ _ (by omega) (by omega)]; exact f0 _ _ (by omega), fun j hj => by rw [z20 _ (by omega), u11 _ _ (by omega) (by omega), u10 _ _ (by omega) (by omega), u9 _ _ (by omega) (by omega), u8 _ _ (by omega) (by omega), u7 _ _ (by omega) (by omega), u6 _ _ (by omega) (by omega), u5 _ _ (by omega) (by omega), ← Nat.add_assoc, r4 j hj, u3 _ _ (by omega) (by omega), u2 _ _ (by omega) (by omega), u1 _ _ (by omega) (by omega), u0 _ _ (by omega) (by omega)]; exact f0 _ _ (by omega), fun j hj => by rw [z20 _ (by omega), u11 _ _ (by omega) (by omega), u10 _ _ (by omega) (by omega), u9 _ _ (by omega) (by omega), u8 _ _ (by omega) (by omega), u7 _ _ (by omega) (by omega), u6 _ _ (by omega) (by omega), ← Nat.add_assoc, r5 j hj, u4 _ _ (by omega) (by omega), u3 _ _ (by omega) (by omega), u2 _ _ (by omega) (by omega), u1 _ _ (by omega) (by omega), u0 _ _ (by omega) (by omega)]; exact f0 _ _ (by omega), fun j hj => by rw [z20 _ (by omega), u11 _ _ (by omega) (by omega), u10 _ _ (by omega) (by omega), u9 _ _ (by omega) (by omega), u8 _ _ (by omega) (by omega), u7 _ _ (by omega) (by omega), ← Nat.add_assoc, r6 j hj, u5 _ _ (by omega) (by omega), u4 _ _ (by omega) (by omega), u3 _ _ (by omega) (by omega), u2 _ _ (by omega) (by omega), u1 _ _ (by omega) (by omega), u0 _ _ (by omega) (by omega)]; exact f0 _ _ (by omega), fun j hj => by rw [z20 _ (by omega), u11 _ _ (by omega) (by omega), u10 _ _ (by omega) (by omega), u9 _ _ (by omega) (by omega), u8 _ _ (by omega) (by omega), ← Nat.add_assoc, r7 j hj, u6 _ _ (by omega) (by omega), u5 _ _ (by omega) (by omega), u4 _ _ (by omega) (by omega), u3 _ _ (by omega) (by omega), u2 _ _ (by omega) (by omega), u1 _ _ (by omega) (by omega), u0 _ _ (by omega) (by omega)]; exact f0 _ _ (by omega), fun j hj => by rw [z20 _ (by omega), u11 _ _ (by omega) (by omega), u10 _ _ (by omega) (by omega), u9 _ _ (by omega) (by omega), ← Nat.add_assoc, r8 j hj, u7 _ _ (by omega) (by omega), u6 _ _ (by omega) (by omega), u5 _ _ (by omega) (by omega), u4 _ _ (by omega) (by omega), u3 _ _ (by omega) (by omega), u2 _ _ (by omega) (by omega), u1 _ _ (by omega) (by omega), u0 _ _ (by omega) (by omega)]; exact f0 _ _ (by omega), fun j hj => by rw [z20 _ (by omega), u11 _ _ (by omega) (by omega), u10 _ _ (by omega) (by omega), ← Nat.add_assoc, r9 j hj, u8 _ _ (by omega) (by omega), u7 _ _ (by omega) (by omega), u6 _ _ (by omega) (by omega), u5 _ _ (by omega) (by omega), u4 _ _ (by omega) (by omega), u3 _ _ (by omega) (by omega), u2 _ _ (by omega) (by omega), u1 _ _ (by omega) (by omega), u0 _ _ (by omega) (by omega)]; exact f0 _ _ (by omega), fun j hj => by rw [z20 _ (by omega), u11 _ _ (by omega) (by omega), ← Nat.add_assoc, r10 j hj, u9 _ _ (by omega) (by omega), u8 _ _ (by omega) (by omega), u7 _ _ (by omega) (by omega), u6 _ _ (by omega) (by omega), u5 _ _ (by omega) (by omega), u4 _ _ (by omega) (by omega), u3 _ _ (by omega) (by omega), u2 _ _ (by omega) (by omega), u1 _ _ (by omega) (by omega), u0 _ _ (by omega) (by omega)]; exact f0 _ _ (by omega), fun j hj => by rw [z20 _ (by omega), ← Nat.add_assoc, r11 j hj, u10 _ _ (by omega) (by omega), u9 _ _ (by omega) (by omega), u8 _ _ (by omega) (by omega), u7 _ _ (by omega) (by omega), u6 _ _ (by omega) (by omega), u5 _ _ (by omega) (by omega), u4 _ _ (by omega) (by omega), u3 _ _ (by omega) (by omega), u2 _ _ (by omega) (by omega), u1 _ _ (by omega) (by omega), u0 _ _ (by omega) (by omega)]; exact f0 _ _ (by omega)⟩ ⟨?_, ?_, ?_⟩ (fun b k q1 q2 => ?_)
  · rw [up_ne (by omega), u14 _ _ (by omega) (by omega), up_ne (by omega), u13 _ _ (by omega) (by omega), up_ne (by omega)]; exact r12.trans d13
  · rw [up_ne (by omega), u14 _ _ (by omega) (by omega), up_ne (by omega)]; exact r13.trans d14
  · rw [up_ne (by omega)]; exact r14.trans d15
  · by_cases e : b = m ∧ (k = 13 ∨ k = 14 ∨ k = 15)
    · obtain ⟨rfl, e | e | e⟩ := e
      · subst e; rw [up_ne (by omega), u14 _ _ (by omega) (by omega), up_ne (by omega), u13 _ _ (by omega) (by omega), up_same]; exact d13
      · subst e; rw [up_ne (by omega), u14 _ _ (by omega) (by omega), up_same]; exact d14
      · subst e; rw [up_same]
    · rw [up_ne (by omega), u14 _ _ (by omega) (by omega), up_ne (by omega), u13 _ _ (by omega) (by omega), up_ne (by omega), u12 _ _ (by omega) (by omega)]; exact e13 b k (by omega) (by omega)
theorem y_putAll (l : LayM S m) {w : Nat} (hw : w ≤ 10) {Q : Hp → Prop} (hQ : ∀ h' : Hp, ((∀ j, j < 48 → h' (m + 2) j = h (m + 20) (218 * w + (0 + j))) ∧ (∀ j, j < 48 → h' (m + 3) j = h (m + 20) (218 * w + (48 + j))) ∧ (∀ j, j < 48 → h' (m + 4) j = h (m + 20) (218 * w + (96 + j))) ∧ (∀ j, j < 5 → h' (m + 5) j = h (m + 20) (218 * w + (144 + j))) ∧ (∀ j, j < 5 → h' (m + 6) j = h (m + 20) (218 * w + (149 + j))) ∧ (∀ j, j < 5 → h' (m + 7) j = h (m + 20) (218 * w + (154 + j))) ∧ (∀ j, j < 5 → h' (m + 8) j = h (m + 20) (218 * w + (159 + j))) ∧ (∀ j, j < 5 → h' (m + 9) j = h (m + 20) (218 * w + (164 + j))) ∧ (∀ j, j < 5 → h' (m + 10) j = h (m + 20) (218 * w + (169 + j))) ∧ (∀ j, j < 5 → h' (m + 11) j = h (m + 20) (218 * w + (174 + j))) ∧ (∀ j, j < 5 → h' (m + 12) j = h (m + 20) (218 * w + (179 + j))) ∧ (∀ j, j < 30 → h' (m + 13) j = h (m + 20) (218 * w + (184 + j)))) → (h' m 13 = h (m + 20) (218 * w + 214) ∧ h' m 14 = h (m + 20) (218 * w + 215) ∧ h' m 15 = h (m + 20) (218 * w + 216)) → (∀ b k, ¬ (m + 2 ≤ b ∧ b ≤ m + 13) → ¬ (b = m ∧ (k = 27 ∨ k = 28 ∨ k = 13 ∨ k = 14 ∨ k = 15)) → h' b k = h b k) → Q h') : w_X7_passesAll S m (nI w) (nI 0) h Q := by
  unfold w_X7_passesAll
  rw [pk_mul, lr1 l, lr2 l, lr3 l, lr4 l, lr5 l, lr6 l, lr7 l, lr8 l, lr9 l, lr10 l, lr11 l, lr12 l]
  refine ⟨l.1, Or.inl rfl, ?_⟩
  have s27 : (up (up h m 28 (nI (218 * w))) m 27 (nI 0)) m 27 = nI 0 := up_same _ _ _ _
  have s28 : (up (up h m 28 (nI (218 * w))) m 27 (nI 0)) m 28 = nI (218 * w) := by rw [up_ne (by omega), up_same]
  have f0 : ∀ b k, ¬ (b = m ∧ (k = 27 ∨ k = 28)) → (up (up h m 28 (nI (218 * w))) m 27 (nI 0)) b k = h b k := fun b k q => by rw [up_ne (by omega), up_ne (by omega)]
  generalize up (up h m 28 (nI (218 * w))) m 27 (nI 0) = g0 at *
  refine y_put (h := g0) (c := 218 * w + 0) l (la1 l) (by decide) (by omega) s27 s28 (by omega) (by omega) (fun g1 t28 r0 u0 => ?_)
  have s27 : g1 m 27 = nI 0 := by rw [u0 m 27 (by omega) (by omega)]; exact s27
  have s28 : g1 m 28 = nI (218 * w + 48) := t28
  refine y_put (h := g1) (c := 218 * w + 48) l (la2 l) (by decide) (by omega) s27 s28 (by omega) (by omega) (fun g2 t28 r1 u1 => ?_)
  have s27 : g2 m 27 = nI 0 := by rw [u1 m 27 (by omega) (by omega)]; exact s27
  have s28 : g2 m 28 = nI (218 * w + 96) := t28
  refine y_put (h := g2) (c := 218 * w + 96) l (la3 l) (by decide) (by omega) s27 s28 (by omega) (by omega) (fun g3 t28 r2 u2 => ?_)
  have s27 : g3 m 27 = nI 0 := by rw [u2 m 27 (by omega) (by omega)]; exact s27
  have s28 : g3 m 28 = nI (218 * w + 144) := t28
  refine y_put (h := g3) (c := 218 * w + 144) l (la4 l) (by decide) (by omega) s27 s28 (by omega) (by omega) (fun g4 t28 r3 u3 => ?_)
  have s27 : g4 m 27 = nI 0 := by rw [u3 m 27 (by omega) (by omega)]; exact s27
  have s28 : g4 m 28 = nI (218 * w + 149) := t28
  refine y_put (h := g4) (c := 218 * w + 149) l (la5 l) (by decide) (by omega) s27 s28 (by omega) (by omega) (fun g5 t28 r4 u4 => ?_)
  have s27 : g5 m 27 = nI 0 := by rw [u4 m 27 (by omega) (by omega)]; exact s27
  have s28 : g5 m 28 = nI (218 * w + 154) := t28
  refine y_put (h := g5) (c := 218 * w + 154) l (la6 l) (by decide) (by omega) s27 s28 (by omega) (by omega) (fun g6 t28 r5 u5 => ?_)
  have s27 : g6 m 27 = nI 0 := by rw [u5 m 27 (by omega) (by omega)]; exact s27
  have s28 : g6 m 28 = nI (218 * w + 159) := t28
  refine y_put (h := g6) (c := 218 * w + 159) l (la7 l) (by decide) (by omega) s27 s28 (by omega) (by omega) (fun g7 t28 r6 u6 => ?_)
  have s27 : g7 m 27 = nI 0 := by rw [u6 m 27 (by omega) (by omega)]; exact s27
  have s28 : g7 m 28 = nI (218 * w + 164) := t28
  refine y_put (h := g7) (c := 218 * w + 164) l (la8 l) (by decide) (by omega) s27 s28 (by omega) (by omega) (fun g8 t28 r7 u7 => ?_)
  have s27 : g8 m 27 = nI 0 := by rw [u7 m 27 (by omega) (by omega)]; exact s27
  have s28 : g8 m 28 = nI (218 * w + 169) := t28
  refine y_put (h := g8) (c := 218 * w + 169) l (la9 l) (by decide) (by omega) s27 s28 (by omega) (by omega) (fun g9 t28 r8 u8 => ?_)
  have s27 : g9 m 27 = nI 0 := by rw [u8 m 27 (by omega) (by omega)]; exact s27
  have s28 : g9 m 28 = nI (218 * w + 174) := t28
  refine y_put (h := g9) (c := 218 * w + 174) l (la10 l) (by decide) (by omega) s27 s28 (by omega) (by omega) (fun g10 t28 r9 u9 => ?_)
  have s27 : g10 m 27 = nI 0 := by rw [u9 m 27 (by omega) (by omega)]; exact s27
  have s28 : g10 m 28 = nI (218 * w + 179) := t28
  refine y_put (h := g10) (c := 218 * w + 179) l (la11 l) (by decide) (by omega) s27 s28 (by omega) (by omega) (fun g11 t28 r10 u10 => ?_)
  have s27 : g11 m 27 = nI 0 := by rw [u10 m 27 (by omega) (by omega)]; exact s27
  have s28 : g11 m 28 = nI (218 * w + 184) := t28
  refine y_put (h := g11) (c := 218 * w + 184) l (la12 l) (by decide) (by omega) s27 s28 (by omega) (by omega) (fun g12 t28 r11 u11 => ?_)
  have s27 : g12 m 27 = nI 0 := by rw [u11 m 27 (by omega) (by omega)]; exact s27
  have s28 : g12 m 28 = nI (218 * w + 214) := t28
  refine y_put1 (h := g12) (c := 218 * w + 214) l (by omega) s27 s28 (fun g13 t28 u12 => ?_)
  have k20 : ∀ k, g12 (m + 20) k = h (m + 20) k := fun k => by rw [u11 _ _ (by omega) (by omega), u10 _ _ (by omega) (by omega), u9 _ _ (by omega) (by omega), u8 _ _ (by omega) (by omega), u7 _ _ (by omega) (by omega), u6 _ _ (by omega) (by omega), u5 _ _ (by omega) (by omega), u4 _ _ (by omega) (by omega), u3 _ _ (by omega) (by omega), u2 _ _ (by omega) (by omega), u1 _ _ (by omega) (by omega), u0 _ _ (by omega) (by omega)]; exact f0 _ _ (by omega)
  rw [k20]
  have s27 : (up g13 m 13 (h (m + 20) (218 * w + 214))) m 27 = nI 0 := by rw [up_ne (by omega), u12 m 27 (by omega)]; exact s27
  have s28 : (up g13 m 13 (h (m + 20) (218 * w + 214))) m 28 = nI (218 * w + 215) := by rw [up_ne (by omega)]; exact t28
  refine y_put1 (c := 218 * w + 215) l (by omega) s27 s28 (fun g14 t28 u13 => ?_)
  rw [up_ne (a' := m + 20) (a := m) (by omega), u12 (m + 20) _ (by omega), k20]
  have s27 : (up g14 m 14 (h (m + 20) (218 * w + 215))) m 27 = nI 0 := by rw [up_ne (by omega), u13 m 27 (by omega)]; exact s27
  have s28 : (up g14 m 14 (h (m + 20) (218 * w + 215))) m 28 = nI (218 * w + 216) := by rw [up_ne (by omega)]; exact t28
  refine y_put1 (c := 218 * w + 216) l (by omega) s27 s28 (fun g15 t28 u14 => ?_)
  rw [up_ne (a' := m + 20) (a := m) (by omega), u13 (m + 20) _ (by omega), up_ne (a' := m + 20) (a := m) (by omega), u12 (m + 20) _ (by omega), k20]
  have z : ∀ b k, b ≠ m → (up g15 m 15 (h (m + 20) (218 * w + 216))) b k = g12 b k := fun b k q => by rw [up_ne (by omega), u14 _ _ (by omega), up_ne (by omega), u13 _ _ (by omega), up_ne (by omega), u12 _ _ (by omega)]
  refine hQ _ ⟨fun j hj => by rw [z _ _ (by omega), u11 _ _ (by omega) (by omega), u10 _ _ (by omega) (by omega), u9 _ _ (by omega) (by omega), u8 _ _ (by omega) (by omega), u7 _ _ (by omega) (by omega), u6 _ _ (by omega) (by omega), u5 _ _ (by omega) (by omega), u4 _ _ (by omega) (by omega), u3 _ _ (by omega) (by omega), u2 _ _ (by omega) (by omega), u1 _ _ (by omega) (by omega), r0 j hj, Nat.add_assoc]; exact f0 _ _ (by omega), fun j hj => by rw [z _ _ (by omega), u11 _ _ (by omega) (by omega), u10 _ _ (by omega) (by omega), u9 _ _ (by omega) (by omega), u8 _ _ (by omega) (by omega), u7 _ _ (by omega) (by omega), u6 _ _ (by omega) (by omega), u5 _ _ (by omega) (by omega), u4 _ _ (by omega) (by omega), u3 _ _ (by omega) (by omega), u2 _ _ (by omega) (by omega), r1 j hj, Nat.add_assoc, u0 _ _ (by omega) (by omega)]; exact f0 _ _ (by omega), fun j hj => by rw [z _ _ (by omega), u11 _ _ (by omega) (by omega), u10 _ _ (by omega) (by omega), u9 _ _ (by omega) (by omega), u8 _ _ (by omega) (by omega), u7 _ _ (by omega) (by omega), u6 _ _ (by omega) (by omega), u5 _ _ (by omega) (by omega), u4 _ _ (by omega) (by omega), u3 _ _ (by omega) (by omega), r2 j hj, Nat.add_assoc, u1 _ _ (by omega) (by omega), u0 _ _ (by omega) (by omega)]; exact f0 _ _ (by omega), fun j hj => by rw [z _ _ (by omega), u11 _ _ (by omega) (by omega), u10 _ _ (by omega) (by omega), u9 _ _ (by omega) (by omega), u8 _ _ (by omega) (by omega), u7 _ _ (by omega) (by omega), u6 _ _ (by omega) (by omega), u5 _ _ (by omega) (by omega), u4 _ _ (by omega) (by omega), r3 j hj, Nat.add_assoc, u2 _ _ (by omega) (by omega), u1 _ _ (by omega) (by omega), u0 _ _ (by omega) (by omega)]; exact f0 _ _ (by omega), fun j hj => by rw [z _ _ (by omega), u11 _ _ (by omega) (by omega), u10 _ _ (by omega) (by omega), u9 _ _ (by omega) (by omega), u8 _ _ (by omega) (by omega), u7 _ _ (by omega) (by omega), u6 _ _ (by omega) (by omega), u5 _ _ (by omega) (by omega), r4 j hj, Nat.add_assoc, u3 _ _ (by omega) (by omega), u2 _ _ (by omega) (by omega), u1 _ _ (by omega) (by omega), u0 _ _ (by omega) (by omega)]; exact f0 _ _ (by omega), fun j hj => by rw [z _ _ (by omega), u11 _ _ (by omega) (by omega), u10 _ _ (by omega) (by omega), u9 _ _ (by omega) (by omega), u8 _ _ (by omega) (by omega), u7 _ _ (by omega) (by omega), u6 _ _ (by omega) (by omega), r5 j hj, Nat.add_assoc, u4 _ _ (by omega) (by omega), u3 _ _ (by omega) (by omega), u2 _ _ (by omega) (by omega), u1 _ _ (by omega) (by omega), u0 _ _ (by omega) (by omega)]; exact f0 _ _ (by omega), fun j hj => by rw [z _ _ (by omega), u11 _ _ (by omega) (by omega), u10 _ _ (by omega) (by omega), u9 _ _ (by omega) (by omega), u8 _ _ (by omega) (by omega), u7 _ _ (by omega) (by omega), r6 j hj, Nat.add_assoc, u5 _ _ (by omega) (by omega), u4 _ _ (by omega) (by omega), u3 _ _ (by omega) (by omega), u2 _ _ (by omega) (by omega), u1 _ _ (by omega) (by omega), u0 _ _ (by omega) (by omega)]; exact f0 _ _ (by omega), fun j hj => by rw [z _ _ (by omega), u11 _ _ (by omega) (by omega), u10 _ _ (by omega) (by omega), u9 _ _ (by omega) (by omega), u8 _ _ (by omega) (by omega), r7 j hj, Nat.add_assoc, u6 _ _ (by omega) (by omega), u5 _ _ (by omega) (by omega), u4 _ _ (by omega) (by omega), u3 _ _ (by omega) (by omega), u2 _ _ (by omega) (by omega), u1 _ _ (by omega) (by omega), u0 _ _ (by omega) (by omega)]; exact f0 _ _ (by omega), fun j hj => by rw [z _ _ (by omega), u11 _ _ (by omega) (by omega), u10 _ _ (by omega) (by omega), u9 _ _ (by omega) (by omega), r8 j hj, Nat.add_assoc, u7 _ _ (by omega) (by omega), u6 _ _ (by omega) (by omega), u5 _ _ (by omega) (by omega), u4 _ _ (by omega) (by omega), u3 _ _ (by omega) (by omega), u2 _ _ (by omega) (by omega), u1 _ _ (by omega) (by omega), u0 _ _ (by omega) (by omega)]; exact f0 _ _ (by omega), fun j hj => by rw [z _ _ (by omega), u11 _ _ (by omega) (by omega), u10 _ _ (by omega) (by omega), r9 j hj, Nat.add_assoc, u8 _ _ (by omega) (by omega), u7 _ _ (by omega) (by omega), u6 _ _ (by omega) (by omega), u5 _ _ (by omega) (by omega), u4 _ _ (by omega) (by omega), u3 _ _ (by omega) (by omega), u2 _ _ (by omega) (by omega), u1 _ _ (by omega) (by omega), u0 _ _ (by omega) (by omega)]; exact f0 _ _ (by omega), fun j hj => by rw [z _ _ (by omega), u11 _ _ (by omega) (by omega), r10 j hj, Nat.add_assoc, u9 _ _ (by omega) (by omega), u8 _ _ (by omega) (by omega), u7 _ _ (by omega) (by omega), u6 _ _ (by omega) (by omega), u5 _ _ (by omega) (by omega), u4 _ _ (by omega) (by omega), u3 _ _ (by omega) (by omega), u2 _ _ (by omega) (by omega), u1 _ _ (by omega) (by omega), u0 _ _ (by omega) (by omega)]; exact f0 _ _ (by omega), fun j hj => by rw [z _ _ (by omega), r11 j hj, Nat.add_assoc, u10 _ _ (by omega) (by omega), u9 _ _ (by omega) (by omega), u8 _ _ (by omega) (by omega), u7 _ _ (by omega) (by omega), u6 _ _ (by omega) (by omega), u5 _ _ (by omega) (by omega), u4 _ _ (by omega) (by omega), u3 _ _ (by omega) (by omega), u2 _ _ (by omega) (by omega), u1 _ _ (by omega) (by omega), u0 _ _ (by omega) (by omega)]; exact f0 _ _ (by omega)⟩ ⟨?_, ?_, ?_⟩ (fun b k q1 q2 => ?_)
  · rw [up_ne (by omega), u14 _ _ (by omega), up_ne (by omega), u13 _ _ (by omega), up_same]
  · rw [up_ne (by omega), u14 _ _ (by omega), up_same]
  · rw [up_same]
  · rw [up_ne (by omega), u14 _ _ (by omega), up_ne (by omega), u13 _ _ (by omega), up_ne (by omega), u12 _ _ (by omega), u11 _ _ (by omega) (by omega), u10 _ _ (by omega) (by omega), u9 _ _ (by omega) (by omega), u8 _ _ (by omega) (by omega), u7 _ _ (by omega) (by omega), u6 _ _ (by omega) (by omega), u5 _ _ (by omega) (by omega), u4 _ _ (by omega) (by omega), u3 _ _ (by omega) (by omega), u2 _ _ (by omega) (by omega), u1 _ _ (by omega) (by omega), u0 _ _ (by omega) (by omega)]; exact f0 b k (by omega)
end MPASS
