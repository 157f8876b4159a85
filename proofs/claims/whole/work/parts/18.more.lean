/-! longs out of bits; the state read -/
def orl (f : Nat → Int64) : Nat → Int64
  | 0 => 0
  | i + 1 => orl f i ||| f i
/-- the bits of a value: two or four of them -/
def b2 (v : Int32) : Int32 := if v = -1 then nI 3 else jrem v (nI 3)
def b4 (v : Int32) : Int32 := if v = -1 then nI 15 else if nI 14 < v then nI 14 else v
/-- the state b holds: the c pieces pc at the places w, twisted t -/
def holdsAt (iv : Nat → Nat → Int32) (b c : Nat) (pc w t : Nat → Nat) : Prop := (∀ i, i < c → iv (b + 1) (pc i) = nI (w i)) ∧ ∀ i, i < c → iv (b + 2) (pc i) = nI (t i)
