/-! PURE: refusals of a long answer -/
def rfL (A : Ab) (c : Int32) : Int64 × Ab := ((4000000000000000000 : Int64) - c.toInt64, (rfA A c).2)
section LONGS
variable {S : St} {h h' : Hp} {x m : Nat} {A : Ab}
theorem x_refuseL (X : XI S h x A) {c : Int32} (hc : rfok c) {Q : Int64 → Hp → Prop} (hQ : ∀ h', XI S h' x (rfL A c).2 → FrX x h h' → Q (rfL A c).1 h') : w_X6_refuseLong S x c h Q := by
  unfold w_X6_refuseLong
  exact ⟨X.1.1.1, x_refuse X hc (fun h' X' F' => hQ h' X' F')⟩
theorem y_lowest (X : MI_ S h m A) {c : Int32} (hc : rfok c) {Q : Int64 → Hp → Prop} (hQ : ∀ h', MI_ S h' m (rfL A c).2 → FrY m h h' → Q (rfL A c).1 h') : w_X7_lowestOf S m c h Q := by
  have := y_no X hc (Q := fun r h' => Q ((4000000000000000000 : Int64) - r.toInt64) h') (fun h' X' F' => hQ h' X' F')
  unfold w_X7_no at this
  unfold w_X7_lowestOf
  exact this
end LONGS
