/-- the kind and length of each cell, in the order in which the law's run makes them -/
def shL : List (Nat × Nat) := [(11, 14)]
def sh (k : Nat) : Nat × Nat := shL.getD k (99, 0)
