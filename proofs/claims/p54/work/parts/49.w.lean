/-! names that whole's parts stand on -/
def Lst (i : Int32) : List Value := [.ref 1000002, .ref 0, .ref 316, .ref 335, .ref 336, .int i, dv, dv, dv, dv]
abbrev I4 : Type := Nat → Nat → Int32
