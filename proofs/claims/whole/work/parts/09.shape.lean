def xnn : Nat := 3
def xshL : List (Nat × Nat × List Nat) := [(5, 2, [2, 3, 4, 5, 6, 7, 8, 9, 0, 0]), (0, 60, [])]
def xsh (a : Nat) : Nat × Nat × List Nat := xshL.getD a (9, 0, [])
