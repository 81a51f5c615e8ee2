/-! STUBS: calls whose pure halves are not done yet -/
section STUBS
variable {S : St} {h : Hp} {x sz : Nat} {A : Ab}
theorem op_land (H : SI S h x A) {Q : Int32 → Int32 → Hp → Prop} (hQ : ∀ r A' h', SI S h' x A' → Q r r h') : w_X6_land S x h (fun r h1 => w_X7_land S (x + 178) h1 (fun r' h2 => Q r r' h2)) := by
  sorry
end STUBS
