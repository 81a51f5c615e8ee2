/-! PURE: the highest shared divisor by steps -/
def gcN : Nat → Nat → Nat → Nat
  | 0, a, _ => a
  | f + 1, a, b => if b = 0 then a else gcN f b (a % b)
theorem gcN_0 (k a : Nat) : gcN k a 0 = a := by
  cases k with
  | zero => rfl
  | succ k => simp [gcN]
theorem gcd_step (a b : Nat) : Nat.gcd a b = Nat.gcd b (a % b) := by
  rw [Nat.gcd_comm a b, Nat.gcd_rec b a, Nat.gcd_comm]
theorem gcN_gcd : ∀ (f a b k : Nat), b < 2 ^ f → 2 * f ≤ k → gcN k a b = Nat.gcd a b := by
  intro f
  induction f with
  | zero =>
    intro a b k hb hk
    have e : b = 0 := by simp at hb; exact hb
    subst e
    rw [gcN_0, Nat.gcd_zero_right]
  | succ f ih =>
    intro a b k hb hk
    by_cases c : b = 0
    · subst c
      rw [gcN_0, Nat.gcd_zero_right]
    · obtain ⟨k, rfl⟩ : ∃ j, k = j + 2 := ⟨k - 2, by omega⟩
      rw [gcd_step]
      show (if b = 0 then a else gcN (k + 1) b (a % b)) = _
      rw [if_neg c]
      by_cases c2 : a % b = 0
      · rw [c2, gcN_0, Nat.gcd_zero_right]
      · rw [gcd_step]
        show (if a % b = 0 then b else gcN k (a % b) (b % (a % b))) = _
        rw [if_neg c2]
        have h1 : a % b < b := Nat.mod_lt _ (by omega)
        generalize a % b = r at *
        have h2 : b % r < r := Nat.mod_lt _ (by omega)
        have h3 : r + b % r ≤ b := by
          have e := Nat.div_add_mod b r
          have p : 1 ≤ b / r := Nat.div_pos (by omega) (by omega)
          have m : r * 1 ≤ r * (b / r) := Nat.mul_le_mul_left r p
          omega
        have h4 : 2 ^ (f + 1) = 2 * 2 ^ f := by rw [Nat.pow_succ, Nat.mul_comm]
        exact ih r (b % r) k (by omega) (by omega)
