/-! PURE: ways, the reference -/
def OH (h : Hp) (m : Nat) (D : Nat → Nat) : Prop := ∀ v, v < 48 → h (m + 23) v = enD (-9) (D v)
def FrO (m : Nat) (h h' : Hp) : Prop := ∀ a k, a ≠ m + 23 → h' a k = h a k
def YI (L : Ld) (s : Nat) (D : Nat → Nat) (n : Nat) : Prop := RCD L s D ∧ (∀ v, v < 48 → D v ≠ 99 → D v ≤ n) ∧ n + 1 ≤ cntF D ∧ ∀ u, u < 48 → D u ≠ 99 → D u < n → ∀ d, d < 4 → PRC L D u d
def IPD (L : Ld) (s : Nat) (D : Nat → Nat) (n f g c0 : Nat) : Prop := RCD L s D ∧ (∀ v, v < 48 → D v ≠ 99 → D v ≤ n + 1) ∧ ((g = 0 ∧ ∀ v, v < 48 → D v ≠ 99 → D v ≤ n) ∨ (g = 1 ∧ c0 + 1 ≤ cntF D)) ∧ c0 ≤ cntF D ∧ (∀ u, u < 48 → D u ≠ 99 → (D u < n ∨ (D u = n ∧ u < f)) → ∀ d, d < 4 → PRC L D u d) ∧ n + 1 ≤ c0
theorem enD_eq {d n : Nat} (hd : d < 2 ^ 31) (hn : n < 99) : (enD (-9) d = nI n) = (d = n) := propext (by
  unfold enD
  by_cases c : d = 99
  · rw [if_pos c]
    have e := q_n9 (show n < 2 ^ 31 by omega)
    exact ⟨fun q => by have : nI n = -9 := q.symm; rw [e] at this; exact this.elim, fun q => by omega⟩
  · rw [if_neg c, q_eq hd (by omega)])
theorem enD_pos {d : Nat} (hd : d < 2 ^ 31) : (0 ≤ enD (-9) d) = (d ≠ 99) := propext (by
  unfold enD
  by_cases c : d = 99
  · rw [if_pos c]
    exact ⟨fun q => absurd q (by decide), fun q => absurd c q⟩
  · rw [if_neg c, q_0le hd]
    exact ⟨fun _ => c, fun _ => trivial⟩)
theorem IPD_up {L : Ld} {s : Nat} {D : Nat → Nat} {n f g c0 d x : Nat} (I : IPD L s D n f g c0) (hf : f < 48) (ef : D f = n) (hd : d < 4) (hb : besF f d = x) (h8 : x < 48) (hw : L 1 x = 0) (hx : D x = 99) (n8 : n < 98) : IPD L s (upN D x (n + 1)) n f 1 c0 := by
  obtain ⟨i1, i2, i3, i4, i5, i6⟩ := I
  have cu := cntF_up (e := n + 1) h8 hx (by omega)
  have r := RCD_up i1 hf (by omega) hd hb h8 hw hx
  rw [ef] at r
  refine ⟨r, fun v hv hD => ?_, Or.inr ⟨rfl, by omega⟩, by omega, fun u hu hD hc d' hd' => ?_, i6⟩
  · by_cases e : v = x
    · rw [e, upN_s]; exact Nat.le_refl _
    · rw [upN_n e] at hD ⊢; exact i2 v hv hD
  · by_cases e : u = x
    · rw [e, upN_s] at hc; omega
    · rw [upN_n e] at hD hc
      exact PRC_up (i5 u hu hD hc d' hd') hx e
section YWAY
variable {S : St} {h h' : Hp} {x m : Nat} {A : Ab}
theorem MI_O (X : MI_ S h m A) (f : FrO m h h') : MI_ S h' m A := MI_scr X (fun a k q => f a k (fun e => q (by unfold Scr; omega)))
theorem y_further (X : MI_ S h m A) {s n : Nat} {D : Nat → Nat} (H : OH h m D) (Y : YI (aL A) s D n) {Q : Int32 → Hp → Prop} (h0 : ∀ h' D', OH h' m D' → FrO m h h' → RCD (aL A) s D' → (∀ u, u < 48 → D' u ≠ 99 → ∀ d, d < 4 → PRC (aL A) D' u d) → Q (nI 0) h') (h1 : ∀ h' D', OH h' m D' → FrO m h h' → YI (aL A) s D' (n + 1) → cntF D + 1 ≤ cntF D' → Q (nI 1) h') : w_X7_goesFurther S m (nI n) h Q := by
  have l := X.1.1
  have c8 := cntF_le D
  have yn := Y.2.2.1
  unfold w_X7_goesFurther w_X7_goesFurther_c4
  intro P hP
  have K : ∀ (r f : Nat) (D' : Nat → Nat) (g : Nat) (h2 : Hp), f + r = 48 → OH h2 m D' → FrO m h h2 → IPD (aL A) s D' n f g (cntF D) → P (nI g) (nI f) h2 := by
    intro r
    induction r with
    | zero =>
      intro f D' g h2 hf H2 F2 I
      refine hP _ _ _ ?_
      simp only [q_le (show 48 < 2 ^ 31 by decide) (show f < 2 ^ 31 by omega)]
      rw [if_pos (by omega)]
      obtain ⟨i1, i2, i3, i4, i5, i6⟩ := I
      rcases i3 with ⟨rfl, i7⟩ | ⟨rfl, i7⟩
      · exact ⟨Or.inl rfl, h0 h2 D' H2 F2 i1 (fun u hu hD d hd => i5 u hu hD (by have := i7 u hu hD; omega) d hd)⟩
      · exact ⟨Or.inr rfl, h1 h2 D' H2 F2 ⟨i1, i2, by omega, fun u hu hD hc d hd => i5 u hu hD (by omega) d hd⟩ i7⟩
    | succ r ih =>
      intro f D' g h2 hf H2 F2 I
      refine hP _ _ _ ?_
      simp only [q_le (show 48 < 2 ^ 31 by decide) (show f < 2 ^ 31 by omega)]
      rw [if_neg (by omega)]
      unfold w_X7_goesFurther_c13
      intro P2 hP2
      have K2 : ∀ (e d : Nat) (D' : Nat → Nat) (g : Nat) (h2 : Hp), d + e = 4 → OH h2 m D' → FrO m h h2 → IPD (aL A) s D' n f g (cntF D) → (D' f = n → ∀ d', d' < d → PRC (aL A) D' f d') → P2 (nI g) (nI d) h2 := by
        intro e
        induction e with
        | zero =>
          intro d D' g h2 hd H2 F2 I hp
          refine hP2 _ _ _ ?_
          simp only [q_le (show 4 < 2 ^ 31 by decide) (show d < 2 ^ 31 by omega)]
          rw [if_pos (by omega), nI_add]
          refine ih (f + 1) D' g h2 (by omega) H2 F2 ⟨I.1, I.2.1, I.2.2.1, I.2.2.2.1, fun u hu hD hc d' hd' => ?_, I.2.2.2.2.2⟩
          by_cases e9 : u = f
          · by_cases e10 : D' f = n
            · rw [e9]; exact hp e10 d' (by omega)
            · rw [e9] at hc ⊢
              exact I.2.2.2.2.1 f (by omega) (by rw [← e9]; exact hD) (by omega) d' hd'
          · exact I.2.2.2.2.1 u hu hD (by omega) d' hd'
        | succ e ih2 =>
          intro d D' g h2 hd H2 F2 I hp
          have X2 := MI_O X F2
          have i8 := cntF_le D'
          have bF : D' f < 2 ^ 31 := by
            by_cases e9 : D' f = 99
            · omega
            · have := I.2.1 f (by omega) e9; omega
          refine hP2 _ _ _ ?_
          simp only [q_le (show 4 < 2 ^ 31 by decide) (show d < 2 ^ 31 by omega)]
          rw [if_neg (by omega), lr34 l, lr1 l, q_ix (by omega), H2 f (by omega)]
          refine ⟨l.1, q_ain (la34 l) (by omega) (by decide), ?_⟩
          simp only [enD_eq bF (show n < 99 by omega)]
          by_cases ef : D' f = n
          · rw [if_pos ef]
            have skip : PRC (aL A) D' f d → P2 (nI g) (nI d + nI 1) h2 := fun p => by
              rw [nI_add]
              refine ih2 (d + 1) D' g h2 (by omega) H2 F2 I (fun ef d' hd' => ?_)
              by_cases e9 : d' = d
              · rw [e9]; exact p
              · exact hp ef d' (by omega)
            refine y_beside (by omega) (by omega) (fun b9 => ?_) (fun b9 => ?_)
            · rw [if_pos (by decide)]
              exact skip (fun b1 _ => absurd b1 (by rw [b9]; decide))
            · simp only [q_lt0 (show besF f d < 2 ^ 31 by omega)]
              rw [if_neg id, q_ix (by omega), H2 (besF f d) (by omega)]
              refine ⟨q_ain (la34 l) (by omega) (by decide), ?_⟩
              have bN : D' (besF f d) < 2 ^ 31 := by
                by_cases e9 : D' (besF f d) = 99
                · omega
                · have := I.2.1 _ (show besF f d < 48 by omega) e9; omega
              simp only [enD_pos bN]
              by_cases hn : D' (besF f d) = 99
              · rw [if_neg (fun q => q hn), (X2.1.2.1.2.1 _ (show besF f d < 48 by omega)).1]
                have wl := (X2.1.2.2.2.2.1 (besF f d) (by omega)).1
                simp only [q_le0 (show aL A 1 (besF f d) < 2 ^ 31 by omega)]
                refine ⟨q_ain (la1 l) (by omega) (by decide), ?_⟩
                by_cases hw : aL A 1 (besF f d) = 0
                · rw [if_pos hw, nI_add, nI_add]
                  have I2 := IPD_up I (show f < 48 by omega) ef (show d < 4 by omega) rfl (show besF f d < 48 by omega) hw hn (by omega)
                  have fn : f ≠ besF f d := fun q => by rw [← q] at hn; omega
                  refine ih2 (d + 1) _ 1 _ (by omega) (fun v hv => ?_) (fun a k q => ?_) I2 (fun _ d' hd' => ?_)
                  · by_cases e9 : v = besF f d
                    · rw [e9, up_same, upN_s]; exact (if_neg (by omega)).symm
                    · rw [up_ne (by omega), upN_n e9]; exact H2 v hv
                  · rw [up_ne (by omega)]; exact F2 a k q
                  · by_cases e9 : d' = d
                    · rw [e9]
                      intro _ _
                      rw [upN_s, upN_n fn]
                      exact ⟨by omega, by omega⟩
                    · exact PRC_up (hp ef d' (by omega)) hn fn
                · rw [if_neg hw]
                  exact skip (fun _ b2 => absurd b2 hw)
              · rw [if_pos hn]
                have := I.2.1 _ (show besF f d < 48 by omega) hn
                exact skip (fun _ _ => ⟨hn, by omega⟩)
          · rw [if_neg ef, nI_add]
            refine ih (f + 1) D' g h2 (by omega) H2 F2 ⟨I.1, I.2.1, I.2.2.1, I.2.2.2.1, fun u hu hD hc d' hd' => ?_, I.2.2.2.2.2⟩
            refine I.2.2.2.2.1 u hu hD ?_ d' hd'
            by_cases e9 : u = f
            · rw [e9] at hc ⊢; omega
            · omega
      exact K2 4 0 D' g h2 (by omega) H2 F2 I (fun _ d' hd' => absurd hd' (by omega))
  exact K 48 0 D 0 h (by omega) H (fun _ _ _ => rfl) ⟨Y.1, fun v hv hD => by have := Y.2.1 v hv hD; omega, Or.inl ⟨rfl, Y.2.1⟩, Nat.le_refl _, fun u hu hD hc d hd => Y.2.2.2 u hu hD (by omega) d hd, yn⟩
theorem y_way (X : MI_ S h m A) {v w : Int32} {Q : Int32 → Hp → Prop} (h1 : ∀ s f d, s < 48 → f < 48 → v = nI s → w = nI f → IsD (aL A) s f d → ∀ h', MI_ S h' m A → FrY m h h' → Q (enD (-9) d) h') (h0 : ¬ (inR v 48 ∧ inR w 48) → ∀ h', MI_ S h' m (rfA A (-1)).2 → FrY m h h' → Q (rfA A (-1)).1 h') : w_X7_way S m v w h Q := by
  have l := X.1.1
  unfold w_X7_way
  refine y_isField (fun c => ?_) (fun c => ?_)
  · rw [if_neg (by decide)]
    refine y_isField (fun c2 => ?_) (fun c2 => ?_)
    · rw [if_neg (by decide)]
      obtain ⟨s, hs, rfl⟩ := inR_ex c (by decide)
      obtain ⟨f, hf, rfl⟩ := inR_ex c2 (by decide)
      have h1 := fun d => h1 s f d hs hf rfl rfl
      unfold w_X7_way_c22
      intro P hP
      have K : ∀ (r k : Nat) (h2 : Hp), k + r = 48 → (∀ j, j < k → h2 (m + 23) j = -9) → FrO m h h2 → P (nI k) h2 := by
        intro r
        induction r with
        | zero =>
          intro k h2 hk H2 F2
          refine hP _ _ ?_
          simp only [q_le (show 48 < 2 ^ 31 by decide) (show k < 2 ^ 31 by omega)]
          rw [if_pos (by omega), lr34 l, q_ix (by omega)]
          refine ⟨l.1, q_ain (la34 l) (by omega) (by decide), ?_⟩
          unfold w_X7_way_c51
          intro P2 hP2
          have K2 : ∀ (r n : Nat) (D : Nat → Nat) (h3 : Hp), 48 ≤ cntF D + r → OH h3 m D → FrO m h h3 → YI (aL A) s D n → P2 (nI n) h3 := by
            intro r
            induction r with
            | zero =>
              intro n D h3 hr H3 F3 Y3
              refine hP2 _ _ ⟨l.1, ?_⟩
              refine y_further (MI_O X F3) H3 Y3 (fun h4 D' H4 F4 R4 P4 => ?_) (fun h4 D' H4 F4 Y4 c4 => ?_)
              · rw [if_pos (by decide), lr34 l, q_ix (by omega), H4 f hf]
                have F5 : FrO m h h4 := fun a k q => (F4 a k q).trans (F3 a k q)
                exact ⟨q_ain (la34 l) (by omega) (by decide), h1 _ (way_done hs R4 P4 f hf) h4 (MI_O X F5) (fun a k q => F5 a k (by omega))⟩
              · have := cntF_le D'
                omega
            | succ r ih =>
              intro n D h3 hr H3 F3 Y3
              refine hP2 _ _ ⟨l.1, ?_⟩
              refine y_further (MI_O X F3) H3 Y3 (fun h4 D' H4 F4 R4 P4 => ?_) (fun h4 D' H4 F4 Y4 c4 => ?_)
              · rw [if_pos (by decide), lr34 l, q_ix (by omega), H4 f hf]
                have F5 : FrO m h h4 := fun a k q => (F4 a k q).trans (F3 a k q)
                exact ⟨q_ain (la34 l) (by omega) (by decide), h1 _ (way_done hs R4 P4 f hf) h4 (MI_O X F5) (fun a k q => F5 a k (by omega))⟩
              · rw [if_neg (by decide), nI_add]
                exact ih (n + 1) D' h4 (by omega) H4 (fun a k q => (F4 a k q).trans (F3 a k q)) Y4
          refine K2 48 0 (upN (fun _ => 99) s 0) _ (by omega) (fun v hv => ?_) (fun a k q => ?_) ?_
          · by_cases e : v = s
            · rw [e, up_same, upN_s]; rfl
            · rw [up_ne (by omega), upN_n e]; exact H2 v (by omega)
          · rw [up_ne (by omega)]; exact F2 a k q
          · have c1 := cntF_1 s hs
            refine ⟨⟨upN_s _ _ _, fun v hv hD => ?_⟩, fun v hv hD => ?_, by omega, fun u hu hD hc => absurd hc (by omega)⟩
            · by_cases e : v = s
              · rw [e, upN_s]; rfl
              · rw [upN_n e] at hD; exact absurd rfl hD
            · by_cases e : v = s
              · rw [e, upN_s]; exact Nat.le_refl _
              · rw [upN_n e] at hD; exact absurd rfl hD
        | succ r ih =>
          intro k h2 hk H2 F2
          refine hP _ _ ?_
          simp only [q_le (show 48 < 2 ^ 31 by decide) (show k < 2 ^ 31 by omega)]
          rw [if_neg (by omega), lr34 l, q_ix (by omega), nI_add]
          refine ⟨l.1, q_ain (la34 l) (by omega) (by decide), ?_⟩
          refine ih (k + 1) _ (by omega) (fun j hj => ?_) (fun a k' q => ?_)
          · by_cases e : j = k
            · rw [e, up_same]
            · rw [up_ne (by omega)]; exact H2 j (by omega)
          · rw [up_ne (by omega)]; exact F2 a k' q
      exact K 48 0 h (by omega) (fun j hj => absurd hj (by omega)) (fun _ _ _ => rfl)
    · rw [if_pos (by decide)]
      exact ⟨l.1, y_no X (Or.inl rfl) (h0 (fun q => c2 q.2))⟩
  · rw [if_pos (by decide)]
    exact ⟨l.1, y_no X (Or.inl rfl) (h0 (fun q => c q.1))⟩
theorem op_way (H : SI S h x A) {v w : Int32} {Q : Int32 → Int32 → Hp → Prop} (hQ : ∀ r A' h', SI S h' x A' → Q r r h') : w_X6_way S x v w h (fun r h1 => w_X7_way S (x + 180) v w h1 (fun r' h2 => Q r r' h2)) := by
  refine x_way H.1 (fun s f d hs hf ev ew hd h1 X1 F1 => ?_) (fun hn h1 X1 F1 => ?_)
  · refine y_way (SI_m H F1) (fun s' f' d' hs' hf' ev' ew' hd' h2 Y2 F2 => ?_) (fun hn _ _ _ => ?_)
    · rw [ev, q_eq (by omega) (by omega)] at ev'
      rw [ew, q_eq (by omega) (by omega)] at ew'
      subst ev'
      subst ew'
      rw [IsD_one hd' hd]
      exact hQ _ A h2 (SI_mk X1 Y2 F2)
    · exact absurd ⟨by rw [ev, inR_nI (by omega) (by decide)]; exact hs, by rw [ew, inR_nI (by omega) (by decide)]; exact hf⟩ hn
  · refine y_way (SI_m H F1) (fun s' f' d' hs' hf' ev' ew' hd' h2 Y2 F2 => ?_) (fun _ h2 Y2 F2 => hQ _ _ h2 (SI_mk X1 Y2 F2))
    exact absurd ⟨by rw [ev', inR_nI (by omega) (by decide)]; exact hs', by rw [ew', inR_nI (by omega) (by decide)]; exact hf'⟩ hn
end YWAY
