/-! STUBS: calls whose pure halves are not done yet -/
section STUBS
variable {S : St} {h : Hp} {x sz : Nat} {A : Ab}
theorem op_line (H : SI S h x A) (hsz : ∀ a y, S.1 a = some y → a < sz) {v w : Int32} {Q : Int32 → Int32 → St → Hp → Prop} (hQ : ∀ r A' S' h', SI S' h' x A' → Q r r S' h') : w_X6_line S sz x v w h (fun r S1 sz1 h1 => ob S1 (x + 178) 7 ∧ w_X7_line S1 (x + 178) v w h1 (fun r' h2 => Q r r' S1 h2)) := by
  sorry
theorem op_land (H : SI S h x A) {Q : Int32 → Int32 → Hp → Prop} (hQ : ∀ r A' h', SI S h' x A' → Q r r h') : w_X6_land S x h (fun r h1 => w_X7_land S (x + 178) h1 (fun r' h2 => Q r r' h2)) := by
  sorry
end STUBS
