/-! PURE BASE: the shape of a heap of objects and int rows, its numbers, and the words that the printed predicates (w_..) are made of. -/
/-- S.1 a: object of class number ci (inl ci) or a row (inr (kind, length); kind 0 ints, 1 Heads, 2 Lands, 3 bytes); S.2 a k: the address that slot k of a holds -/
abbrev St : Type := (Nat → Option (Nat ⊕ (Nat × Nat))) × (Nat → Nat → Nat)
/-- the numbers: address, slot -/
abbrev Hp : Type := Nat → Nat → Int32
def up (h : Hp) (a k : Nat) (v : Int32) : Hp := fun a' k' => if a' = a ∧ k' = k then v else h a' k'
/-- rows copied: n from sp of a to dp of b -/
def cpy (h : Hp) (a : Nat) (sp : Int32) (b : Nat) (dp n : Int32) : Hp := fun a' k => if a' = b then va_cpy (h a) (h b) sp.toNatClampNeg dp.toNatClampNeg n.toNatClampNeg k else h a' k
def rfs (ci k : Nat) : Bool := match ci with
  | 0 => Nat.beq k 2
  | 1 => Nat.blt k 4
  | 2 => Nat.blt k 3
  | 3 => Nat.beq k 0
  | 4 => (Nat.beq k 0 || Nat.beq k 2) || Nat.beq k 3
  | 5 => Nat.blt k 2
  | 6 => ((Nat.blt k 2) || (Nat.beq k 3 || Nat.beq k 4)) || ((Nat.beq k 5 || Nat.beq k 6) || (Nat.beq k 7 || Nat.beq k 9))
  | 7 => (Nat.blt k 13 || (Nat.blt 15 k && Nat.blt k 22)) || ((Nat.beq k 25 || Nat.beq k 31) || (Nat.beq k 33 || Nat.beq k 34))
  | 8 => Nat.beq k 0
  | _ => false
def ob (S : St) (a ci : Nat) : Prop := S.1 a = some (.inl ci)
/-- an int row at a, the index within -/
def ain (S : St) (a : Nat) (i : Int32) : Prop := ∃ n, S.1 a = some (.inr (0, n)) ∧ vp_in i n
/-- a byte row at a, the index within -/
def bin (S : St) (a : Nat) (i : Int32) : Prop := ∃ n, S.1 a = some (.inr (3, n)) ∧ vp_in i n
def bln (S : St) (a n : Nat) : Prop := S.1 a = some (.inr (3, n)) ∧ n < 2 ^ 31
abbrev i2b (x : Int32) : Int32 := x.toInt8.toInt32
/-- a row of references of a kind -/
def rin (S : St) (t a : Nat) (i : Int32) : Prop := ∃ n, S.1 a = some (.inr (t, n)) ∧ vp_in i n
def aln (S : St) (a n : Nat) : Prop := S.1 a = some (.inr (0, n)) ∧ n < 2 ^ 31
def cin (S : St) (a : Nat) (sp : Int32) (b : Nat) (dp n : Int32) : Prop := ∃ n0 n1, S.1 a = some (.inr (0, n0)) ∧ S.1 b = some (.inr (0, n1)) ∧ ¬ sp < 0 ∧ ¬ dp < 0 ∧ ¬ n < 0 ∧ sp.toNatClampNeg + n.toNatClampNeg ≤ n0 ∧ dp.toNatClampNeg + n.toNatClampNeg ≤ n1
abbrev ix (i : Int32) : Nat := i.toNatClampNeg
abbrev irem (x y : Int32) : Int32 := x - x / y * y
abbrev lrem (x y : Int64) : Int64 := x - x / y * y
abbrev imin (x y : Int32) : Int32 := if y < x then y else x
abbrev imax (x y : Int32) : Int32 := if x < y then y else x
abbrev ishl (x y : Int32) : Int32 := x <<< (y &&& 31)
abbrev ishr (x y : Int32) : Int32 := x >>> (y &&& 31)
abbrev iushr (x y : Int32) : Int32 := (x.toUInt32 >>> (y.toUInt32 &&& Int32.toUInt32 31)).toInt32
abbrev i2c (x : Int32) : Int32 := (x.toUInt32 % 65536).toInt32
abbrev lcmp (x y : Int64) : Int32 := lg_cmp x y
def bo (v : Int32) : Prop := v = 0 ∨ v = 1
theorem ite_t {c : Prop} [Decidable c] {A B : Prop} (h : if c then A else B) (hc : c) : A := by rwa [if_pos hc] at h
theorem ite_f {c : Prop} [Decidable c] {A B : Prop} (h : if c then A else B) (hc : ¬ c) : B := by rwa [if_neg hc] at h
abbrev iabs (x : Int32) : Int32 := if 0 ≤ x then x else 0 - x
