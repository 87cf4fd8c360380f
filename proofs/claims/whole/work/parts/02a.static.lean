/-! ===== the static world: kinds of the objects that the constructors make, by their numbers ===== -/
def qKL : List (Nat × Nat) := [(9, 16), (21, 900), (4, 10), (21, 0), (2, 7), (1, 20), (20, 36), (20, 216), (20, 6), (20, 6), (20, 6), (20, 6), (20, 900), (0, 8), (20, 7), (20, 64), (1, 20), (20, 36), (20, 216), (20, 6), (20, 6), (20, 6), (20, 6), (20, 900), (7, 3), (25, 8), (0, 8), (0, 8), (0, 8), (0, 8), (0, 8), (0, 8), (0, 8), (0, 8), (7, 3), (25, 8), (0, 8), (0, 8), (0, 8), (0, 8), (0, 8), (0, 8), (0, 8), (0, 8), (3, 3), (26, 11), (7, 3), (25, 8), (0, 8), (0, 8), (0, 8), (0, 8), (0, 8), (0, 8), (0, 8), (0, 8), (7, 3), (25, 8), (0, 8), (0, 8), (0, 8), (0, 8), (0, 8), (0, 8), (0, 8), (0, 8), (7, 3), (25, 8), (0, 8), (0, 8), (0, 8), (0, 8), (0, 8), (0, 8), (0, 8), (0, 8), (7, 3), (25, 8), (0, 8), (0, 8), (0, 8), (0, 8), (0, 8), (0, 8), (0, 8), (0, 8), (7, 3), (25, 8), (0, 8), (0, 8), (0, 8), (0, 8), (0, 8), (0, 8), (0, 8), (0, 8), (7, 3), (25, 8), (0, 8), (0, 8), (0, 8), (0, 8), (0, 8), (0, 8), (0, 8), (0, 8), (7, 3), (25, 8), (0, 8), (0, 8), (0, 8), (0, 8), (0, 8), (0, 8), (0, 8), (0, 8), (7, 3), (25, 8), (0, 8), (0, 8), (0, 8), (0, 8), (0, 8), (0, 8), (0, 8), (0, 8), (7, 3), (25, 8), (0, 8), (0, 8), (0, 8), (0, 8), (0, 8), (0, 8), (0, 8), (0, 8), (7, 3), (25, 8), (0, 8), (0, 8), (0, 8), (0, 8), (0, 8), (0, 8), (0, 8), (0, 8), (7, 3), (25, 8), (0, 8), (0, 8), (0, 8), (0, 8), (0, 8), (0, 8), (0, 8), (0, 8), (0, 8), (5, 6), (20, 6), (20, 6), (8, 4), (0, 8), (20, 4), (24, 8), (27, 4), (28, 2), (26, 2), (23, 2), (6, 3), (24, 40), (6, 3), (24, 40), (6, 3), (24, 40), (6, 3), (24, 40), (1, 20), (20, 36), (20, 216), (20, 6), (20, 6), (20, 6), (20, 6), (20, 900), (7, 3), (25, 8), (0, 8), (0, 8), (0, 8), (0, 8), (0, 8), (0, 8), (0, 8), (0, 8), (1, 20), (20, 36), (20, 216), (20, 6), (20, 6), (20, 6), (20, 6), (20, 900), (7, 3), (25, 8), (0, 8), (0, 8), (0, 8), (0, 8), (0, 8), (0, 8), (0, 8), (0, 8), (10, 39), (20, 5736), (23, 2), (20, 900), (20, 1912), (20, 8), (20, 900), (20, 66), (20, 6), (20, 6), (20, 4), (20, 4), (24, 160), (21, 6480), (22, 12960)]
def qK (i : Nat) : Nat × Nat := qKL.getD i (99, 0)
/-- a reference field that never changes: how far behind its object the object it names stands -/
def qOL : List (List (Option Nat)) := [[none, none, none, none, none, none, none, none],
  [some 1, some 2, some 3, some 4, some 5, some 6, some 7, none, none, none, none, none, none, none, none, none, none, none, none, none],
  [some 1, some 9, some 10, some 11, none, none, none],
  [some 1, none, none],
  [some 14, none, none, none, none, none, none, none, none, none],
  [some 1, some 2, none, none, none, none],
  [some 1, none, none],
  [some 1, none, none],
  [some 1, some 2, none, none],
  [some 1, none, some 2, some 4, some 5, some 24, some 34, some 44, some 156, some 157, some 160, some 163, some 164, some 165, some 166, some 167],
  [none, some 1, some 2, some 3, some 4, none, none, none, none, none, none, none, none, none, none, none, some 5, some 6, none, none, some 7, none, none, none, none, none, some 8, some 9, none, none, none, none, none, none, none, none, some 10, some 11, some 12]]
def qO (c k : Nat) : Option Nat := (qOL.getD c []).getD k none
/-- the type of a field: 0 int, 1 boolean, 2 a reference -/
def qTL : List (List Nat) := [[0, 0, 0, 0, 1, 0, 0, 0], [2, 2, 2, 2, 2, 2, 2, 0, 0, 0, 0, 0, 0, 0, 0, 0, 0, 0, 0, 0], [2, 2, 2, 2, 2, 2, 0], [2, 0, 0], [2, 0, 0, 2, 0, 0, 0, 0, 0, 0], [2, 2, 0, 0, 0, 0], [2, 0, 0], [2, 0, 0], [2, 2, 0, 0], [2, 0, 2, 2, 2, 2, 2, 2, 2, 2, 2, 2, 2, 2, 2, 2], [0, 2, 2, 2, 2, 0, 0, 0, 0, 0, 0, 0, 0, 0, 0, 0, 2, 2, 0, 0, 2, 0, 0, 0, 0, 0, 2, 2, 0, 0, 0, 0, 0, 0, 0, 0, 2, 2, 2]]
def qT (c k : Nat) : Nat := (qTL.getD c []).getD k 9
/-- an element of a row of references: how far behind the row: first, step -/
def qEl (i j : Nat) : Nat := if (qK i).1 = 25 then i + 1 + j else if i = 45 then i + 1 + 10 * j else if i = 164 then i + 4 + 2 * j else if i = 165 then i + 11 + 18 * j else i + 18 + 18 * j
