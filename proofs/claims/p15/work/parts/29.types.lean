/-! ===== the sorts of data of the checker with lines ===== -/
/-- a line: coefficients of numbers, and a constant -/
abbrev rX : Type := List (Nat × Int) × Int
/-- what a place is: (0, lo, hi) an int; (1, lo, hi) a long; (2, _, _, G, a, b, c) the cell a*k + b + c*j of the group G; (3, lo, hi, G) the cell of the group G whose number is held -/
abbrev rT : Type := Nat × Int × Int × Nat × Int × Int × Int
/-- a group of cells: their kind, how many places, how many cells, what the places are -/
abbrev rGr : Type := Nat × Nat × Int × List rT
abbrev rA : Type := Nat → Int → Nat
abbrev rHp : Type := Nat → Int → Int → Int
/-- a value: (0, _, x) an int, (1, _, x) a long, (2, G, x) the cell x of the group G, (3, ..) null, (7, _, x) the script, x being its length, (8, ..) some reference -/
abbrev rV : Type := Nat × Nat × rX
/-- a version of the heap: (0, (G, k, j, v)) one place is written; (1, _, what may have changed, what is true of all of it) -/
abbrev rD : Type := Nat × (Nat × rX × rX × rX) × Nat × List Nat
/-- what a place held: version, group, cell, place, value -/
abbrev rMm : Type := Nat × Nat × rX × rX × rX
/-- ranges, facts, locals, stack, versions (the newest first), what places held, cells and slots made -/
abbrev rS : Type := aRg × List rX × List (Nat × rV) × List rV × List rD × List rMm × Nat × Nat
/-- something that is true at all places: ranges of its numbers, places, guards, what follows; which others help to show it, at which lines; ahead of which place it is cut at the noughts of which line -/
abbrev rIT : Type := List (Int × Int) × List (Nat × rX × rX) × List rX × List rX × List (Nat × List rX) × List (Nat × rX)
/-- a case of a method: the method, its room, how it begins (the arguments on the stack), what is true of all places then, how it ends, with what it throws -/
abbrev rI : Type := Nat × (Nat × Nat × Nat × Nat × Nat × Nat) × rS × List Nat × List rS × List (Nat × rS)
/-- where something that is true at all places is used: place, which, at which lines (sums of terms; 0: of the stack, 1: of a local, 2: a constant) -/
abbrev rHn : Type := Nat × Nat × List (List (Nat × Nat × Int))
/-- a body, its hints, and where the state is cut: place, which of the stack, at which number -/
abbrev rBd : Type := aBd × List rHn × List (Nat × Nat × Int) × List Nat
