/-- the quiet actions behind a move -/
def kQui (K : Nat → BitVec 64) (a b q : Nat) : Nat := if kKind K b = 0 then (if kKind K a = 6 then 0 else q + 1) else 0
