/-! a model is made -/
def mv_0 : mv := (fun _ => 0, fun _ _ => 0, 0, fun _ => 0)
abbrev mo_o0 (m : Nat) : va_E := .inr (11, [.null, .int 0, .null, .null, .int 0, .int 0, .int 0, .null, .null, .null, .null, .int 0, .null, .null, .null, .null, .null, .null, .null, .null, .null, .null, .null, .null, .int 0, .int 0, .int 0, .int 0, .int 0, .null, .null, .null, .null, .null, .null, .null, .null, .null, .null, .int 0, .int 0, .int 0, .null, .int 0, .int 0, .int 0, .long 0, .int 0, .int 0, .null, .null, .null, .null, .int 0])
abbrev mo_o1 (m : Nat) : va_E := .inr (11, [.ref (m + 1), .int 0, .null, .null, .int 0, .int 0, .int 0, .null, .null, .null, .null, .int 0, .null, .null, .null, .null, .null, .null, .null, .null, .null, .null, .null, .null, .int 0, .int 0, .int 0, .int 0, .int 0, .null, .null, .null, .null, .null, .null, .null, .null, .null, .null, .int 0, .int 0, .int 0, .null, .int 0, .int 0, .int 0, .long 0, .int 0, .int 0, .null, .null, .null, .null, .int 0])
abbrev mo_o2 (m : Nat) : va_E := .inr (11, [.ref (m + 1), .int 0, .ref (m + 2), .null, .int 0, .int 0, .int 0, .null, .null, .null, .null, .int 0, .null, .null, .null, .null, .null, .null, .null, .null, .null, .null, .null, .null, .int 0, .int 0, .int 0, .int 0, .int 0, .null, .null, .null, .null, .null, .null, .null, .null, .null, .null, .int 0, .int 0, .int 0, .null, .int 0, .int 0, .int 0, .long 0, .int 0, .int 0, .null, .null, .null, .null, .int 0])
abbrev mo_o3 (m : Nat) : va_E := .inr (11, [.ref (m + 1), .int 0, .ref (m + 2), .ref (m + 3), .int 0, .int 0, .int 0, .null, .null, .null, .null, .int 0, .null, .null, .null, .null, .null, .null, .null, .null, .null, .null, .null, .null, .int 0, .int 0, .int 0, .int 0, .int 0, .null, .null, .null, .null, .null, .null, .null, .null, .null, .null, .int 0, .int 0, .int 0, .null, .int 0, .int 0, .int 0, .long 0, .int 0, .int 0, .null, .null, .null, .null, .int 0])
abbrev mo_o4 (m : Nat) : va_E := .inr (11, [.ref (m + 1), .int 0, .ref (m + 2), .ref (m + 3), .int 0, .int 0, .int 0, .ref (m + 4), .null, .null, .null, .int 0, .null, .null, .null, .null, .null, .null, .null, .null, .null, .null, .null, .null, .int 0, .int 0, .int 0, .int 0, .int 0, .null, .null, .null, .null, .null, .null, .null, .null, .null, .null, .int 0, .int 0, .int 0, .null, .int 0, .int 0, .int 0, .long 0, .int 0, .int 0, .null, .null, .null, .null, .int 0])
abbrev mo_o5 (m : Nat) : va_E := .inr (11, [.ref (m + 1), .int 0, .ref (m + 2), .ref (m + 3), .int 0, .int 0, .int 0, .ref (m + 4), .ref (m + 5), .null, .null, .int 0, .null, .null, .null, .null, .null, .null, .null, .null, .null, .null, .null, .null, .int 0, .int 0, .int 0, .int 0, .int 0, .null, .null, .null, .null, .null, .null, .null, .null, .null, .null, .int 0, .int 0, .int 0, .null, .int 0, .int 0, .int 0, .long 0, .int 0, .int 0, .null, .null, .null, .null, .int 0])
abbrev mo_o6 (m : Nat) : va_E := .inr (11, [.ref (m + 1), .int 0, .ref (m + 2), .ref (m + 3), .int 0, .int 0, .int 0, .ref (m + 4), .ref (m + 5), .ref (m + 6), .null, .int 0, .null, .null, .null, .null, .null, .null, .null, .null, .null, .null, .null, .null, .int 0, .int 0, .int 0, .int 0, .int 0, .null, .null, .null, .null, .null, .null, .null, .null, .null, .null, .int 0, .int 0, .int 0, .null, .int 0, .int 0, .int 0, .long 0, .int 0, .int 0, .null, .null, .null, .null, .int 0])
abbrev mo_o7 (m : Nat) : va_E := .inr (11, [.ref (m + 1), .int 0, .ref (m + 2), .ref (m + 3), .int 0, .int 0, .int 0, .ref (m + 4), .ref (m + 5), .ref (m + 6), .ref (m + 7), .int 0, .null, .null, .null, .null, .null, .null, .null, .null, .null, .null, .null, .null, .int 0, .int 0, .int 0, .int 0, .int 0, .null, .null, .null, .null, .null, .null, .null, .null, .null, .null, .int 0, .int 0, .int 0, .null, .int 0, .int 0, .int 0, .long 0, .int 0, .int 0, .null, .null, .null, .null, .int 0])
abbrev mo_o8 (m : Nat) : va_E := .inr (11, [.ref (m + 1), .int 0, .ref (m + 2), .ref (m + 3), .int 0, .int 0, .int 0, .ref (m + 4), .ref (m + 5), .ref (m + 6), .ref (m + 7), .int 0, .ref (m + 8), .null, .null, .null, .null, .null, .null, .null, .null, .null, .null, .null, .int 0, .int 0, .int 0, .int 0, .int 0, .null, .null, .null, .null, .null, .null, .null, .null, .null, .null, .int 0, .int 0, .int 0, .null, .int 0, .int 0, .int 0, .long 0, .int 0, .int 0, .null, .null, .null, .null, .int 0])
abbrev mo_o9 (m : Nat) : va_E := .inr (11, [.ref (m + 1), .int 0, .ref (m + 2), .ref (m + 3), .int 0, .int 0, .int 0, .ref (m + 4), .ref (m + 5), .ref (m + 6), .ref (m + 7), .int 0, .ref (m + 8), .ref (m + 9), .null, .null, .null, .null, .null, .null, .null, .null, .null, .null, .int 0, .int 0, .int 0, .int 0, .int 0, .null, .null, .null, .null, .null, .null, .null, .null, .null, .null, .int 0, .int 0, .int 0, .null, .int 0, .int 0, .int 0, .long 0, .int 0, .int 0, .null, .null, .null, .null, .int 0])
abbrev mo_o10 (m : Nat) : va_E := .inr (11, [.ref (m + 1), .int 0, .ref (m + 2), .ref (m + 3), .int 0, .int 0, .int 0, .ref (m + 4), .ref (m + 5), .ref (m + 6), .ref (m + 7), .int 0, .ref (m + 8), .ref (m + 9), .ref (m + 10), .null, .null, .null, .null, .null, .null, .null, .null, .null, .int 0, .int 0, .int 0, .int 0, .int 0, .null, .null, .null, .null, .null, .null, .null, .null, .null, .null, .int 0, .int 0, .int 0, .null, .int 0, .int 0, .int 0, .long 0, .int 0, .int 0, .null, .null, .null, .null, .int 0])
abbrev mo_o11 (m : Nat) : va_E := .inr (11, [.ref (m + 1), .int 0, .ref (m + 2), .ref (m + 3), .int 0, .int 0, .int 0, .ref (m + 4), .ref (m + 5), .ref (m + 6), .ref (m + 7), .int 0, .ref (m + 8), .ref (m + 9), .ref (m + 10), .ref (m + 11), .null, .null, .null, .null, .null, .null, .null, .null, .int 0, .int 0, .int 0, .int 0, .int 0, .null, .null, .null, .null, .null, .null, .null, .null, .null, .null, .int 0, .int 0, .int 0, .null, .int 0, .int 0, .int 0, .long 0, .int 0, .int 0, .null, .null, .null, .null, .int 0])
abbrev mo_o12 (m : Nat) : va_E := .inr (11, [.ref (m + 1), .int 0, .ref (m + 2), .ref (m + 3), .int 0, .int 0, .int 0, .ref (m + 4), .ref (m + 5), .ref (m + 6), .ref (m + 7), .int 0, .ref (m + 8), .ref (m + 9), .ref (m + 10), .ref (m + 11), .ref (m + 12), .null, .null, .null, .null, .null, .null, .null, .int 0, .int 0, .int 0, .int 0, .int 0, .null, .null, .null, .null, .null, .null, .null, .null, .null, .null, .int 0, .int 0, .int 0, .null, .int 0, .int 0, .int 0, .long 0, .int 0, .int 0, .null, .null, .null, .null, .int 0])
abbrev mo_o13 (m : Nat) : va_E := .inr (11, [.ref (m + 1), .int 0, .ref (m + 2), .ref (m + 3), .int 0, .int 0, .int 0, .ref (m + 4), .ref (m + 5), .ref (m + 6), .ref (m + 7), .int 0, .ref (m + 8), .ref (m + 9), .ref (m + 10), .ref (m + 11), .ref (m + 12), .ref (m + 13), .null, .null, .null, .null, .null, .null, .int 0, .int 0, .int 0, .int 0, .int 0, .null, .null, .null, .null, .null, .null, .null, .null, .null, .null, .int 0, .int 0, .int 0, .null, .int 0, .int 0, .int 0, .long 0, .int 0, .int 0, .null, .null, .null, .null, .int 0])
abbrev mo_o14 (m : Nat) : va_E := .inr (11, [.ref (m + 1), .int 0, .ref (m + 2), .ref (m + 3), .int 0, .int 0, .int 0, .ref (m + 4), .ref (m + 5), .ref (m + 6), .ref (m + 7), .int 0, .ref (m + 8), .ref (m + 9), .ref (m + 10), .ref (m + 11), .ref (m + 12), .ref (m + 13), .ref (m + 14), .null, .null, .null, .null, .null, .int 0, .int 0, .int 0, .int 0, .int 0, .null, .null, .null, .null, .null, .null, .null, .null, .null, .null, .int 0, .int 0, .int 0, .null, .int 0, .int 0, .int 0, .long 0, .int 0, .int 0, .null, .null, .null, .null, .int 0])
abbrev mo_o15 (m : Nat) : va_E := .inr (11, [.ref (m + 1), .int 0, .ref (m + 2), .ref (m + 3), .int 0, .int 0, .int 0, .ref (m + 4), .ref (m + 5), .ref (m + 6), .ref (m + 7), .int 0, .ref (m + 8), .ref (m + 9), .ref (m + 10), .ref (m + 11), .ref (m + 12), .ref (m + 13), .ref (m + 14), .ref (m + 15), .null, .null, .null, .null, .int 0, .int 0, .int 0, .int 0, .int 0, .null, .null, .null, .null, .null, .null, .null, .null, .null, .null, .int 0, .int 0, .int 0, .null, .int 0, .int 0, .int 0, .long 0, .int 0, .int 0, .null, .null, .null, .null, .int 0])
abbrev mo_o16 (m : Nat) : va_E := .inr (11, [.ref (m + 1), .int 0, .ref (m + 2), .ref (m + 3), .int 0, .int 0, .int 0, .ref (m + 4), .ref (m + 5), .ref (m + 6), .ref (m + 7), .int 0, .ref (m + 8), .ref (m + 9), .ref (m + 10), .ref (m + 11), .ref (m + 12), .ref (m + 13), .ref (m + 14), .ref (m + 15), .ref (m + 16), .null, .null, .null, .int 0, .int 0, .int 0, .int 0, .int 0, .null, .null, .null, .null, .null, .null, .null, .null, .null, .null, .int 0, .int 0, .int 0, .null, .int 0, .int 0, .int 0, .long 0, .int 0, .int 0, .null, .null, .null, .null, .int 0])
abbrev mo_o17 (m : Nat) : va_E := .inr (11, [.ref (m + 1), .int 0, .ref (m + 2), .ref (m + 3), .int 0, .int 0, .int 0, .ref (m + 4), .ref (m + 5), .ref (m + 6), .ref (m + 7), .int 0, .ref (m + 8), .ref (m + 9), .ref (m + 10), .ref (m + 11), .ref (m + 12), .ref (m + 13), .ref (m + 14), .ref (m + 15), .ref (m + 16), .ref (m + 17), .null, .null, .int 0, .int 0, .int 0, .int 0, .int 0, .null, .null, .null, .null, .null, .null, .null, .null, .null, .null, .int 0, .int 0, .int 0, .null, .int 0, .int 0, .int 0, .long 0, .int 0, .int 0, .null, .null, .null, .null, .int 0])
abbrev mo_o18 (m : Nat) : va_E := .inr (11, [.ref (m + 1), .int 0, .ref (m + 2), .ref (m + 3), .int 0, .int 0, .int 0, .ref (m + 4), .ref (m + 5), .ref (m + 6), .ref (m + 7), .int 0, .ref (m + 8), .ref (m + 9), .ref (m + 10), .ref (m + 11), .ref (m + 12), .ref (m + 13), .ref (m + 14), .ref (m + 15), .ref (m + 16), .ref (m + 17), .ref (m + 18), .null, .int 0, .int 0, .int 0, .int 0, .int 0, .null, .null, .null, .null, .null, .null, .null, .null, .null, .null, .int 0, .int 0, .int 0, .null, .int 0, .int 0, .int 0, .long 0, .int 0, .int 0, .null, .null, .null, .null, .int 0])
abbrev mo_o19 (m : Nat) : va_E := .inr (11, [.ref (m + 1), .int 0, .ref (m + 2), .ref (m + 3), .int 0, .int 0, .int 0, .ref (m + 4), .ref (m + 5), .ref (m + 6), .ref (m + 7), .int 0, .ref (m + 8), .ref (m + 9), .ref (m + 10), .ref (m + 11), .ref (m + 12), .ref (m + 13), .ref (m + 14), .ref (m + 15), .ref (m + 16), .ref (m + 17), .ref (m + 18), .ref (m + 19), .int 0, .int 0, .int 0, .int 0, .int 0, .null, .null, .null, .null, .null, .null, .null, .null, .null, .null, .int 0, .int 0, .int 0, .null, .int 0, .int 0, .int 0, .long 0, .int 0, .int 0, .null, .null, .null, .null, .int 0])
abbrev mo_o20 (m : Nat) : va_E := .inr (11, [.ref (m + 1), .int 0, .ref (m + 2), .ref (m + 3), .int 0, .int 0, .int 0, .ref (m + 4), .ref (m + 5), .ref (m + 6), .ref (m + 7), .int 0, .ref (m + 8), .ref (m + 9), .ref (m + 10), .ref (m + 11), .ref (m + 12), .ref (m + 13), .ref (m + 14), .ref (m + 15), .ref (m + 16), .ref (m + 17), .ref (m + 18), .ref (m + 19), .int 0, .int 0, .int 0, .int 0, .int 0, .ref (m + 20), .null, .null, .null, .null, .null, .null, .null, .null, .null, .int 0, .int 0, .int 0, .null, .int 0, .int 0, .int 0, .long 0, .int 0, .int 0, .null, .null, .null, .null, .int 0])
abbrev mo_o21 (m : Nat) : va_E := .inr (11, [.ref (m + 1), .int 0, .ref (m + 2), .ref (m + 3), .int 0, .int 0, .int 0, .ref (m + 4), .ref (m + 5), .ref (m + 6), .ref (m + 7), .int 0, .ref (m + 8), .ref (m + 9), .ref (m + 10), .ref (m + 11), .ref (m + 12), .ref (m + 13), .ref (m + 14), .ref (m + 15), .ref (m + 16), .ref (m + 17), .ref (m + 18), .ref (m + 19), .int 0, .int 0, .int 0, .int 0, .int 0, .ref (m + 20), .ref (m + 21), .null, .null, .null, .null, .null, .null, .null, .null, .int 0, .int 0, .int 0, .null, .int 0, .int 0, .int 0, .long 0, .int 0, .int 0, .null, .null, .null, .null, .int 0])
abbrev mo_o22 (m : Nat) : va_E := .inr (11, [.ref (m + 1), .int 0, .ref (m + 2), .ref (m + 3), .int 0, .int 0, .int 0, .ref (m + 4), .ref (m + 5), .ref (m + 6), .ref (m + 7), .int 0, .ref (m + 8), .ref (m + 9), .ref (m + 10), .ref (m + 11), .ref (m + 12), .ref (m + 13), .ref (m + 14), .ref (m + 15), .ref (m + 16), .ref (m + 17), .ref (m + 18), .ref (m + 19), .int 0, .int 0, .int 0, .int 0, .int 0, .ref (m + 20), .ref (m + 21), .ref (m + 22), .null, .null, .null, .null, .null, .null, .null, .int 0, .int 0, .int 0, .null, .int 0, .int 0, .int 0, .long 0, .int 0, .int 0, .null, .null, .null, .null, .int 0])
abbrev mo_o23 (m : Nat) : va_E := .inr (11, [.ref (m + 1), .int 0, .ref (m + 2), .ref (m + 3), .int 0, .int 0, .int 0, .ref (m + 4), .ref (m + 5), .ref (m + 6), .ref (m + 7), .int 0, .ref (m + 8), .ref (m + 9), .ref (m + 10), .ref (m + 11), .ref (m + 12), .ref (m + 13), .ref (m + 14), .ref (m + 15), .ref (m + 16), .ref (m + 17), .ref (m + 18), .ref (m + 19), .int 0, .int 0, .int 0, .int 0, .int 0, .ref (m + 20), .ref (m + 21), .ref (m + 22), .ref (m + 23), .null, .null, .null, .null, .null, .null, .int 0, .int 0, .int 0, .null, .int 0, .int 0, .int 0, .long 0, .int 0, .int 0, .null, .null, .null, .null, .int 0])
abbrev mo_o24 (m : Nat) : va_E := .inr (11, [.ref (m + 1), .int 0, .ref (m + 2), .ref (m + 3), .int 0, .int 0, .int 0, .ref (m + 4), .ref (m + 5), .ref (m + 6), .ref (m + 7), .int 0, .ref (m + 8), .ref (m + 9), .ref (m + 10), .ref (m + 11), .ref (m + 12), .ref (m + 13), .ref (m + 14), .ref (m + 15), .ref (m + 16), .ref (m + 17), .ref (m + 18), .ref (m + 19), .int 0, .int 0, .int 0, .int 0, .int 0, .ref (m + 20), .ref (m + 21), .ref (m + 22), .ref (m + 23), .ref (m + 24), .null, .null, .null, .null, .null, .int 0, .int 0, .int 0, .null, .int 0, .int 0, .int 0, .long 0, .int 0, .int 0, .null, .null, .null, .null, .int 0])
abbrev mo_o25 (m : Nat) : va_E := .inr (11, [.ref (m + 1), .int 0, .ref (m + 2), .ref (m + 3), .int 0, .int 0, .int 0, .ref (m + 4), .ref (m + 5), .ref (m + 6), .ref (m + 7), .int 0, .ref (m + 8), .ref (m + 9), .ref (m + 10), .ref (m + 11), .ref (m + 12), .ref (m + 13), .ref (m + 14), .ref (m + 15), .ref (m + 16), .ref (m + 17), .ref (m + 18), .ref (m + 19), .int 0, .int 0, .int 0, .int 0, .int 0, .ref (m + 20), .ref (m + 21), .ref (m + 22), .ref (m + 23), .ref (m + 24), .ref (m + 25), .null, .null, .null, .null, .int 0, .int 0, .int 0, .null, .int 0, .int 0, .int 0, .long 0, .int 0, .int 0, .null, .null, .null, .null, .int 0])
abbrev mo_o26 (m : Nat) : va_E := .inr (11, [.ref (m + 1), .int 0, .ref (m + 2), .ref (m + 3), .int 0, .int 0, .int 0, .ref (m + 4), .ref (m + 5), .ref (m + 6), .ref (m + 7), .int 0, .ref (m + 8), .ref (m + 9), .ref (m + 10), .ref (m + 11), .ref (m + 12), .ref (m + 13), .ref (m + 14), .ref (m + 15), .ref (m + 16), .ref (m + 17), .ref (m + 18), .ref (m + 19), .int 0, .int 0, .int 0, .int 0, .int 0, .ref (m + 20), .ref (m + 21), .ref (m + 22), .ref (m + 23), .ref (m + 24), .ref (m + 25), .ref (m + 26), .null, .null, .null, .int 0, .int 0, .int 0, .null, .int 0, .int 0, .int 0, .long 0, .int 0, .int 0, .null, .null, .null, .null, .int 0])
abbrev mo_o27 (m : Nat) : va_E := .inr (11, [.ref (m + 1), .int 0, .ref (m + 2), .ref (m + 3), .int 0, .int 0, .int 0, .ref (m + 4), .ref (m + 5), .ref (m + 6), .ref (m + 7), .int 0, .ref (m + 8), .ref (m + 9), .ref (m + 10), .ref (m + 11), .ref (m + 12), .ref (m + 13), .ref (m + 14), .ref (m + 15), .ref (m + 16), .ref (m + 17), .ref (m + 18), .ref (m + 19), .int 0, .int 0, .int 0, .int 0, .int 0, .ref (m + 20), .ref (m + 21), .ref (m + 22), .ref (m + 23), .ref (m + 24), .ref (m + 25), .ref (m + 26), .ref (m + 27), .null, .null, .int 0, .int 0, .int 0, .null, .int 0, .int 0, .int 0, .long 0, .int 0, .int 0, .null, .null, .null, .null, .int 0])
abbrev mo_o28 (m : Nat) : va_E := .inr (11, [.ref (m + 1), .int 0, .ref (m + 2), .ref (m + 3), .int 0, .int 0, .int 0, .ref (m + 4), .ref (m + 5), .ref (m + 6), .ref (m + 7), .int 0, .ref (m + 8), .ref (m + 9), .ref (m + 10), .ref (m + 11), .ref (m + 12), .ref (m + 13), .ref (m + 14), .ref (m + 15), .ref (m + 16), .ref (m + 17), .ref (m + 18), .ref (m + 19), .int 0, .int 0, .int 0, .int 0, .int 0, .ref (m + 20), .ref (m + 21), .ref (m + 22), .ref (m + 23), .ref (m + 24), .ref (m + 25), .ref (m + 26), .ref (m + 27), .ref (m + 28), .null, .int 0, .int 0, .int 0, .null, .int 0, .int 0, .int 0, .long 0, .int 0, .int 0, .null, .null, .null, .null, .int 0])
abbrev mo_o29 (m : Nat) : va_E := .inr (11, [.ref (m + 1), .int 0, .ref (m + 2), .ref (m + 3), .int 0, .int 0, .int 0, .ref (m + 4), .ref (m + 5), .ref (m + 6), .ref (m + 7), .int 0, .ref (m + 8), .ref (m + 9), .ref (m + 10), .ref (m + 11), .ref (m + 12), .ref (m + 13), .ref (m + 14), .ref (m + 15), .ref (m + 16), .ref (m + 17), .ref (m + 18), .ref (m + 19), .int 0, .int 0, .int 0, .int 0, .int 0, .ref (m + 20), .ref (m + 21), .ref (m + 22), .ref (m + 23), .ref (m + 24), .ref (m + 25), .ref (m + 26), .ref (m + 27), .ref (m + 28), .ref (m + 29), .int 0, .int 0, .int 0, .null, .int 0, .int 0, .int 0, .long 0, .int 0, .int 0, .null, .null, .null, .null, .int 0])
abbrev mo_o30 (m : Nat) : va_E := .inr (11, [.ref (m + 1), .int 0, .ref (m + 2), .ref (m + 3), .int 0, .int 0, .int 0, .ref (m + 4), .ref (m + 5), .ref (m + 6), .ref (m + 7), .int 0, .ref (m + 8), .ref (m + 9), .ref (m + 10), .ref (m + 11), .ref (m + 12), .ref (m + 13), .ref (m + 14), .ref (m + 15), .ref (m + 16), .ref (m + 17), .ref (m + 18), .ref (m + 19), .int 0, .int 0, .int 0, .int 0, .int 0, .ref (m + 20), .ref (m + 21), .ref (m + 22), .ref (m + 23), .ref (m + 24), .ref (m + 25), .ref (m + 26), .ref (m + 27), .ref (m + 28), .ref (m + 29), .int 0, .int 0, .int 0, .ref (m + 30), .int 0, .int 0, .int 0, .long 0, .int 0, .int 0, .null, .null, .null, .null, .int 0])
abbrev mo_o31 (m : Nat) : va_E := .inr (11, [.ref (m + 1), .int 0, .ref (m + 2), .ref (m + 3), .int 0, .int 0, .int 0, .ref (m + 4), .ref (m + 5), .ref (m + 6), .ref (m + 7), .int 0, .ref (m + 8), .ref (m + 9), .ref (m + 10), .ref (m + 11), .ref (m + 12), .ref (m + 13), .ref (m + 14), .ref (m + 15), .ref (m + 16), .ref (m + 17), .ref (m + 18), .ref (m + 19), .int 0, .int 0, .int 0, .int 0, .int 0, .ref (m + 20), .ref (m + 21), .ref (m + 22), .ref (m + 23), .ref (m + 24), .ref (m + 25), .ref (m + 26), .ref (m + 27), .ref (m + 28), .ref (m + 29), .int 0, .int 0, .int 0, .ref (m + 30), .int 0, .int 0, .int 0, .long 0, .int 0, .int 0, .ref (m + 31), .null, .null, .null, .int 0])
abbrev mo_o32 (m : Nat) : va_E := .inr (11, [.ref (m + 1), .int 0, .ref (m + 2), .ref (m + 3), .int 0, .int 0, .int 0, .ref (m + 4), .ref (m + 5), .ref (m + 6), .ref (m + 7), .int 0, .ref (m + 8), .ref (m + 9), .ref (m + 10), .ref (m + 11), .ref (m + 12), .ref (m + 13), .ref (m + 14), .ref (m + 15), .ref (m + 16), .ref (m + 17), .ref (m + 18), .ref (m + 19), .int 0, .int 0, .int 0, .int 0, .int 0, .ref (m + 20), .ref (m + 21), .ref (m + 22), .ref (m + 23), .ref (m + 24), .ref (m + 25), .ref (m + 26), .ref (m + 27), .ref (m + 28), .ref (m + 29), .int 0, .int 0, .int 0, .ref (m + 30), .int 0, .int 0, .int 0, .long 0, .int 0, .int 0, .ref (m + 31), .ref (m + 32), .null, .null, .int 0])
abbrev mo_o33 (m : Nat) : va_E := .inr (11, [.ref (m + 1), .int 0, .ref (m + 2), .ref (m + 3), .int 0, .int 0, .int 0, .ref (m + 4), .ref (m + 5), .ref (m + 6), .ref (m + 7), .int 0, .ref (m + 8), .ref (m + 9), .ref (m + 10), .ref (m + 11), .ref (m + 12), .ref (m + 13), .ref (m + 14), .ref (m + 15), .ref (m + 16), .ref (m + 17), .ref (m + 18), .ref (m + 19), .int 0, .int 0, .int 0, .int 0, .int 0, .ref (m + 20), .ref (m + 21), .ref (m + 22), .ref (m + 23), .ref (m + 24), .ref (m + 25), .ref (m + 26), .ref (m + 27), .ref (m + 28), .ref (m + 29), .int 0, .int 0, .int 0, .ref (m + 30), .int 0, .int 0, .int 0, .long 0, .int 0, .int 0, .ref (m + 31), .ref (m + 32), .ref (m + 33), .null, .int 0])
abbrev mo_o34 (m : Nat) : va_E := .inr (11, [.ref (m + 1), .int 0, .ref (m + 2), .ref (m + 3), .int 0, .int 0, .int 0, .ref (m + 4), .ref (m + 5), .ref (m + 6), .ref (m + 7), .int 0, .ref (m + 8), .ref (m + 9), .ref (m + 10), .ref (m + 11), .ref (m + 12), .ref (m + 13), .ref (m + 14), .ref (m + 15), .ref (m + 16), .ref (m + 17), .ref (m + 18), .ref (m + 19), .int 0, .int 0, .int 0, .int 0, .int 0, .ref (m + 20), .ref (m + 21), .ref (m + 22), .ref (m + 23), .ref (m + 24), .ref (m + 25), .ref (m + 26), .ref (m + 27), .ref (m + 28), .ref (m + 29), .int 0, .int 0, .int 0, .ref (m + 30), .int 0, .int 0, .int 0, .long 0, .int 0, .int 0, .ref (m + 31), .ref (m + 32), .ref (m + 33), .ref (m + 34), .int 0])
def mo_tl : List va_E := [am_ia 1 0 (fun _ => 0), am_ia 1 600 (fun _ => 0), am_ia 1 1200 (fun _ => 0), am_ia 1 600 (fun _ => 0), am_ia 1 8 (fun _ => 0), am_ia 1 8 (fun _ => 0), am_ia 1 8 (fun _ => 0), am_ia 1 8 (fun _ => 0), am_ia 1 32 (fun _ => 0), am_ia 1 32 (fun _ => 0), am_ia 1 32 (fun _ => 0), am_ia 1 32 (fun _ => 0), am_ia 1 32 (fun _ => 0), am_ia 1 32 (fun _ => 0), am_ia 1 32 (fun _ => 0), am_ia 1 32 (fun _ => 0), am_ia 1 32 (fun _ => 0), am_ia 1 32 (fun _ => 0), am_ia 1 32 (fun _ => 0), am_ia 1 32 (fun _ => 0), am_ia 1 32 (fun _ => 0), am_ia 1 32 (fun _ => 0), am_ia 1 32 (fun _ => 0), am_ia 1 32 (fun _ => 0), am_ia 1 32 (fun _ => 0), am_ia 1 32 (fun _ => 0), am_ia 1 32 (fun _ => 0), am_ia 1 32 (fun _ => 0), am_ia 1 32 (fun _ => 0), am_ia 1 1000 (fun _ => 0), am_ia 1 1000 (fun _ => 0), am_ja 2 16 (fun _ => 0), am_ia 1 16 (fun _ => 0), am_ia 1 16 (fun _ => 0), am_ia 1 16 (fun _ => 0)]
def mo_as (h : am_H) (m j : Nat) : Prop := ∀ i, 0 < i → i ≤ j → h[m + i]? = mo_tl[i]?
theorem mo_as.st {h h' h'' : am_H} {m j : Nat} {e : va_E} (A : mo_as h m j) (f1 : ∀ a n, ko a n h h') (x : h'[m + (j + 1)]? = some e) (he : mo_tl[j + 1]? = some e) (f2 : ko m 1 h' h'') (hj : j + 1 < mo_tl.length) : mo_as h'' m (j + 1) := fun i h0 h1 => by
  by_cases z : i = j + 1
  · rw [z, he]
    exact f2 _ _ (Or.inr (by omega)) x
  · have q := A i h0 (by omega)
    have hi : i < mo_tl.length := by omega
    rw [List.getElem?_eq_getElem hi] at q ⊢
    exact f2 _ _ (Or.inr (by omega)) (f1 0 0 _ _ (Or.inr (Nat.zero_le _)) q)
theorem m_MO_init {l : Launch} {G : am_G} {h : am_H} {m : Nat} (r : h[m]? = some (mo_o0 m)) (hl : h.length = m + 1) : am_M l G M_MO_init [.ref m] h (fun r h' => r = none ∧ h'.length = m + 35 ∧ am_mo h' m mv_0 ∧ ko m 35 h h') := by
  refine am_M.of (by decide) (Nat.le_of_ble_eq_true rfl) (fun X hB hR => ?_)
  show am_Z X 0 [.ref m] [] h 0 0
  have A0 : mo_as h m 0 := fun i h0 h1 => by omega
  have K0 : ko m 35 h h := ko.rf
  have lp0 := hl
  have rp0 := r
  refine am_aload_n hB d_MO_init_0 rfl rfl rfl ?_
  refine am_obj hB hR d_MO_init_1 O_MO_1 ⟨by decide, Nat.le_of_ble_eq_true rfl⟩ ?_
  refine am_aload_n hB d_MO_init_4 rfl rfl rfl ?_
  refine ai_sipush hB d_MO_init_5 (by decide) ?_
  refine am_newI hB d_MO_init_8 ty_1 tb_221 (by decide) (N := 600) (by decide) (by decide) (by rw [hR.room]; decide) (by rw [hR.room]; decide) (q := m + 1) lp0 rfl rfl rfl ?_
  refine am_gapp (fun n1 ln xn fn => ?_)
  rw [lp0] at ln xn
  have rn := fn 0 0 _ _ (Or.inr (Nat.zero_le _)) rp0
  refine am_putF hB d_MO_init_10 P_MO_7_11 (hR.name.trans rfl) rn (by simp) (am_fit.r rfl (Or.inr ⟨_, rfl⟩)) rfl ?_
  refine am_gset (e := mo_o1 m) (fun p1 lp1 rp1 fp => ?_) rn
  have lp1 : p1.length = m + 2 := lp1.trans ln
  have A1 : mo_as p1 m 1 := A0.st fn xn rfl fp (by decide)
  have K1 : ko m 35 h p1 := (K0.tr (fn _ _)).tr (fp.sub (Nat.le_refl m) (by omega))
  clear fn fp xn ln rn rp0 lp0 A0 K0
  show am_Z X 13 [.ref m] [] p1 1 600
  refine am_aload_n hB d_MO_init_13 rfl rfl rfl ?_
  refine ai_sipush hB d_MO_init_14 (by decide) ?_
  refine am_newI hB d_MO_init_17 ty_1 tb_221 (by decide) (N := 1200) (by decide) (by decide) (by rw [hR.room]; decide) (by rw [hR.room]; decide) (q := m + 2) lp1 rfl rfl rfl ?_
  refine am_gapp (fun n2 ln xn fn => ?_)
  rw [lp1] at ln xn
  have rn := fn 0 0 _ _ (Or.inr (Nat.zero_le _)) rp1
  refine am_putF hB d_MO_init_19 P_MO_13_11 (hR.name.trans rfl) rn (by simp) (am_fit.r rfl (Or.inr ⟨_, rfl⟩)) rfl ?_
  refine am_gset (e := mo_o2 m) (fun p2 lp2 rp2 fp => ?_) rn
  have lp2 : p2.length = m + 3 := lp2.trans ln
  have A2 : mo_as p2 m 2 := A1.st fn xn rfl fp (by decide)
  have K2 : ko m 35 h p2 := (K1.tr (fn _ _)).tr (fp.sub (Nat.le_refl m) (by omega))
  clear fn fp xn ln rn rp1 lp1 A1 K1
  show am_Z X 22 [.ref m] [] p2 2 1800
  refine am_aload_n hB d_MO_init_22 rfl rfl rfl ?_
  refine ai_sipush hB d_MO_init_23 (by decide) ?_
  refine am_newI hB d_MO_init_26 ty_1 tb_221 (by decide) (N := 600) (by decide) (by decide) (by rw [hR.room]; decide) (by rw [hR.room]; decide) (q := m + 3) lp2 rfl rfl rfl ?_
  refine am_gapp (fun n3 ln xn fn => ?_)
  rw [lp2] at ln xn
  have rn := fn 0 0 _ _ (Or.inr (Nat.zero_le _)) rp2
  refine am_putF hB d_MO_init_28 P_MO_16_11 (hR.name.trans rfl) rn (by simp) (am_fit.r rfl (Or.inr ⟨_, rfl⟩)) rfl ?_
  refine am_gset (e := mo_o3 m) (fun p3 lp3 rp3 fp => ?_) rn
  have lp3 : p3.length = m + 4 := lp3.trans ln
  have A3 : mo_as p3 m 3 := A2.st fn xn rfl fp (by decide)
  have K3 : ko m 35 h p3 := (K2.tr (fn _ _)).tr (fp.sub (Nat.le_refl m) (by omega))
  clear fn fp xn ln rn rp2 lp2 A2 K2
  show am_Z X 31 [.ref m] [] p3 3 2400
  refine am_aload_n hB d_MO_init_31 rfl rfl rfl ?_
  refine ai_bipush hB d_MO_init_32 (by decide) ?_
  refine am_newI hB d_MO_init_34 ty_1 tb_221 (by decide) (N := 8) (by decide) (by decide) (by rw [hR.room]; decide) (by rw [hR.room]; decide) (q := m + 4) lp3 rfl rfl rfl ?_
  refine am_gapp (fun n4 ln xn fn => ?_)
  rw [lp3] at ln xn
  have rn := fn 0 0 _ _ (Or.inr (Nat.zero_le _)) rp3
  refine am_putF hB d_MO_init_36 P_MO_19_11 (hR.name.trans rfl) rn (by simp) (am_fit.r rfl (Or.inr ⟨_, rfl⟩)) rfl ?_
  refine am_gset (e := mo_o4 m) (fun p4 lp4 rp4 fp => ?_) rn
  have lp4 : p4.length = m + 5 := lp4.trans ln
  have A4 : mo_as p4 m 4 := A3.st fn xn rfl fp (by decide)
  have K4 : ko m 35 h p4 := (K3.tr (fn _ _)).tr (fp.sub (Nat.le_refl m) (by omega))
  clear fn fp xn ln rn rp3 lp3 A3 K3
  show am_Z X 39 [.ref m] [] p4 4 2408
  refine am_aload_n hB d_MO_init_39 rfl rfl rfl ?_
  refine ai_bipush hB d_MO_init_40 (by decide) ?_
  refine am_newI hB d_MO_init_42 ty_1 tb_221 (by decide) (N := 8) (by decide) (by decide) (by rw [hR.room]; decide) (by rw [hR.room]; decide) (q := m + 5) lp4 rfl rfl rfl ?_
  refine am_gapp (fun n5 ln xn fn => ?_)
  rw [lp4] at ln xn
  have rn := fn 0 0 _ _ (Or.inr (Nat.zero_le _)) rp4
  refine am_putF hB d_MO_init_44 P_MO_22_11 (hR.name.trans rfl) rn (by simp) (am_fit.r rfl (Or.inr ⟨_, rfl⟩)) rfl ?_
  refine am_gset (e := mo_o5 m) (fun p5 lp5 rp5 fp => ?_) rn
  have lp5 : p5.length = m + 6 := lp5.trans ln
  have A5 : mo_as p5 m 5 := A4.st fn xn rfl fp (by decide)
  have K5 : ko m 35 h p5 := (K4.tr (fn _ _)).tr (fp.sub (Nat.le_refl m) (by omega))
  clear fn fp xn ln rn rp4 lp4 A4 K4
  show am_Z X 47 [.ref m] [] p5 5 2416
  refine am_aload_n hB d_MO_init_47 rfl rfl rfl ?_
  refine ai_bipush hB d_MO_init_48 (by decide) ?_
  refine am_newI hB d_MO_init_50 ty_1 tb_221 (by decide) (N := 8) (by decide) (by decide) (by rw [hR.room]; decide) (by rw [hR.room]; decide) (q := m + 6) lp5 rfl rfl rfl ?_
  refine am_gapp (fun n6 ln xn fn => ?_)
  rw [lp5] at ln xn
  have rn := fn 0 0 _ _ (Or.inr (Nat.zero_le _)) rp5
  refine am_putF hB d_MO_init_52 P_MO_25_11 (hR.name.trans rfl) rn (by simp) (am_fit.r rfl (Or.inr ⟨_, rfl⟩)) rfl ?_
  refine am_gset (e := mo_o6 m) (fun p6 lp6 rp6 fp => ?_) rn
  have lp6 : p6.length = m + 7 := lp6.trans ln
  have A6 : mo_as p6 m 6 := A5.st fn xn rfl fp (by decide)
  have K6 : ko m 35 h p6 := (K5.tr (fn _ _)).tr (fp.sub (Nat.le_refl m) (by omega))
  clear fn fp xn ln rn rp5 lp5 A5 K5
  show am_Z X 55 [.ref m] [] p6 6 2424
  refine am_aload_n hB d_MO_init_55 rfl rfl rfl ?_
  refine ai_bipush hB d_MO_init_56 (by decide) ?_
  refine am_newI hB d_MO_init_58 ty_1 tb_221 (by decide) (N := 8) (by decide) (by decide) (by rw [hR.room]; decide) (by rw [hR.room]; decide) (q := m + 7) lp6 rfl rfl rfl ?_
  refine am_gapp (fun n7 ln xn fn => ?_)
  rw [lp6] at ln xn
  have rn := fn 0 0 _ _ (Or.inr (Nat.zero_le _)) rp6
  refine am_putF hB d_MO_init_60 P_MO_28_11 (hR.name.trans rfl) rn (by simp) (am_fit.r rfl (Or.inr ⟨_, rfl⟩)) rfl ?_
  refine am_gset (e := mo_o7 m) (fun p7 lp7 rp7 fp => ?_) rn
  have lp7 : p7.length = m + 8 := lp7.trans ln
  have A7 : mo_as p7 m 7 := A6.st fn xn rfl fp (by decide)
  have K7 : ko m 35 h p7 := (K6.tr (fn _ _)).tr (fp.sub (Nat.le_refl m) (by omega))
  clear fn fp xn ln rn rp6 lp6 A6 K6
  show am_Z X 63 [.ref m] [] p7 7 2432
  refine am_aload_n hB d_MO_init_63 rfl rfl rfl ?_
  refine ai_bipush hB d_MO_init_64 (by decide) ?_
  refine am_newI hB d_MO_init_66 ty_1 tb_221 (by decide) (N := 32) (by decide) (by decide) (by rw [hR.room]; decide) (by rw [hR.room]; decide) (q := m + 8) lp7 rfl rfl rfl ?_
  refine am_gapp (fun n8 ln xn fn => ?_)
  rw [lp7] at ln xn
  have rn := fn 0 0 _ _ (Or.inr (Nat.zero_le _)) rp7
  refine am_putF hB d_MO_init_68 P_MO_31_11 (hR.name.trans rfl) rn (by simp) (am_fit.r rfl (Or.inr ⟨_, rfl⟩)) rfl ?_
  refine am_gset (e := mo_o8 m) (fun p8 lp8 rp8 fp => ?_) rn
  have lp8 : p8.length = m + 9 := lp8.trans ln
  have A8 : mo_as p8 m 8 := A7.st fn xn rfl fp (by decide)
  have K8 : ko m 35 h p8 := (K7.tr (fn _ _)).tr (fp.sub (Nat.le_refl m) (by omega))
  clear fn fp xn ln rn rp7 lp7 A7 K7
  show am_Z X 71 [.ref m] [] p8 8 2464
  refine am_aload_n hB d_MO_init_71 rfl rfl rfl ?_
  refine ai_bipush hB d_MO_init_72 (by decide) ?_
  refine am_newI hB d_MO_init_74 ty_1 tb_221 (by decide) (N := 32) (by decide) (by decide) (by rw [hR.room]; decide) (by rw [hR.room]; decide) (q := m + 9) lp8 rfl rfl rfl ?_
  refine am_gapp (fun n9 ln xn fn => ?_)
  rw [lp8] at ln xn
  have rn := fn 0 0 _ _ (Or.inr (Nat.zero_le _)) rp8
  refine am_putF hB d_MO_init_76 P_MO_34_11 (hR.name.trans rfl) rn (by simp) (am_fit.r rfl (Or.inr ⟨_, rfl⟩)) rfl ?_
  refine am_gset (e := mo_o9 m) (fun p9 lp9 rp9 fp => ?_) rn
  have lp9 : p9.length = m + 10 := lp9.trans ln
  have A9 : mo_as p9 m 9 := A8.st fn xn rfl fp (by decide)
  have K9 : ko m 35 h p9 := (K8.tr (fn _ _)).tr (fp.sub (Nat.le_refl m) (by omega))
  clear fn fp xn ln rn rp8 lp8 A8 K8
  show am_Z X 79 [.ref m] [] p9 9 2496
  refine am_aload_n hB d_MO_init_79 rfl rfl rfl ?_
  refine ai_bipush hB d_MO_init_80 (by decide) ?_
  refine am_newI hB d_MO_init_82 ty_1 tb_221 (by decide) (N := 32) (by decide) (by decide) (by rw [hR.room]; decide) (by rw [hR.room]; decide) (q := m + 10) lp9 rfl rfl rfl ?_
  refine am_gapp (fun n10 ln xn fn => ?_)
  rw [lp9] at ln xn
  have rn := fn 0 0 _ _ (Or.inr (Nat.zero_le _)) rp9
  refine am_putF hB d_MO_init_84 P_MO_37_11 (hR.name.trans rfl) rn (by simp) (am_fit.r rfl (Or.inr ⟨_, rfl⟩)) rfl ?_
  refine am_gset (e := mo_o10 m) (fun p10 lp10 rp10 fp => ?_) rn
  have lp10 : p10.length = m + 11 := lp10.trans ln
  have A10 : mo_as p10 m 10 := A9.st fn xn rfl fp (by decide)
  have K10 : ko m 35 h p10 := (K9.tr (fn _ _)).tr (fp.sub (Nat.le_refl m) (by omega))
  clear fn fp xn ln rn rp9 lp9 A9 K9
  show am_Z X 87 [.ref m] [] p10 10 2528
  refine am_aload_n hB d_MO_init_87 rfl rfl rfl ?_
  refine ai_bipush hB d_MO_init_88 (by decide) ?_
  refine am_newI hB d_MO_init_90 ty_1 tb_221 (by decide) (N := 32) (by decide) (by decide) (by rw [hR.room]; decide) (by rw [hR.room]; decide) (q := m + 11) lp10 rfl rfl rfl ?_
  refine am_gapp (fun n11 ln xn fn => ?_)
  rw [lp10] at ln xn
  have rn := fn 0 0 _ _ (Or.inr (Nat.zero_le _)) rp10
  refine am_putF hB d_MO_init_92 P_MO_40_11 (hR.name.trans rfl) rn (by simp) (am_fit.r rfl (Or.inr ⟨_, rfl⟩)) rfl ?_
  refine am_gset (e := mo_o11 m) (fun p11 lp11 rp11 fp => ?_) rn
  have lp11 : p11.length = m + 12 := lp11.trans ln
  have A11 : mo_as p11 m 11 := A10.st fn xn rfl fp (by decide)
  have K11 : ko m 35 h p11 := (K10.tr (fn _ _)).tr (fp.sub (Nat.le_refl m) (by omega))
  clear fn fp xn ln rn rp10 lp10 A10 K10
  show am_Z X 95 [.ref m] [] p11 11 2560
  refine am_aload_n hB d_MO_init_95 rfl rfl rfl ?_
  refine ai_bipush hB d_MO_init_96 (by decide) ?_
  refine am_newI hB d_MO_init_98 ty_1 tb_221 (by decide) (N := 32) (by decide) (by decide) (by rw [hR.room]; decide) (by rw [hR.room]; decide) (q := m + 12) lp11 rfl rfl rfl ?_
  refine am_gapp (fun n12 ln xn fn => ?_)
  rw [lp11] at ln xn
  have rn := fn 0 0 _ _ (Or.inr (Nat.zero_le _)) rp11
  refine am_putF hB d_MO_init_100 P_MO_43_11 (hR.name.trans rfl) rn (by simp) (am_fit.r rfl (Or.inr ⟨_, rfl⟩)) rfl ?_
  refine am_gset (e := mo_o12 m) (fun p12 lp12 rp12 fp => ?_) rn
  have lp12 : p12.length = m + 13 := lp12.trans ln
  have A12 : mo_as p12 m 12 := A11.st fn xn rfl fp (by decide)
  have K12 : ko m 35 h p12 := (K11.tr (fn _ _)).tr (fp.sub (Nat.le_refl m) (by omega))
  clear fn fp xn ln rn rp11 lp11 A11 K11
  show am_Z X 103 [.ref m] [] p12 12 2592
  refine am_aload_n hB d_MO_init_103 rfl rfl rfl ?_
  refine ai_bipush hB d_MO_init_104 (by decide) ?_
  refine am_newI hB d_MO_init_106 ty_1 tb_221 (by decide) (N := 32) (by decide) (by decide) (by rw [hR.room]; decide) (by rw [hR.room]; decide) (q := m + 13) lp12 rfl rfl rfl ?_
  refine am_gapp (fun n13 ln xn fn => ?_)
  rw [lp12] at ln xn
  have rn := fn 0 0 _ _ (Or.inr (Nat.zero_le _)) rp12
  refine am_putF hB d_MO_init_108 P_MO_46_11 (hR.name.trans rfl) rn (by simp) (am_fit.r rfl (Or.inr ⟨_, rfl⟩)) rfl ?_
  refine am_gset (e := mo_o13 m) (fun p13 lp13 rp13 fp => ?_) rn
  have lp13 : p13.length = m + 14 := lp13.trans ln
  have A13 : mo_as p13 m 13 := A12.st fn xn rfl fp (by decide)
  have K13 : ko m 35 h p13 := (K12.tr (fn _ _)).tr (fp.sub (Nat.le_refl m) (by omega))
  clear fn fp xn ln rn rp12 lp12 A12 K12
  show am_Z X 111 [.ref m] [] p13 13 2624
  refine am_aload_n hB d_MO_init_111 rfl rfl rfl ?_
  refine ai_bipush hB d_MO_init_112 (by decide) ?_
  refine am_newI hB d_MO_init_114 ty_1 tb_221 (by decide) (N := 32) (by decide) (by decide) (by rw [hR.room]; decide) (by rw [hR.room]; decide) (q := m + 14) lp13 rfl rfl rfl ?_
  refine am_gapp (fun n14 ln xn fn => ?_)
  rw [lp13] at ln xn
  have rn := fn 0 0 _ _ (Or.inr (Nat.zero_le _)) rp13
  refine am_putF hB d_MO_init_116 P_MO_49_11 (hR.name.trans rfl) rn (by simp) (am_fit.r rfl (Or.inr ⟨_, rfl⟩)) rfl ?_
  refine am_gset (e := mo_o14 m) (fun p14 lp14 rp14 fp => ?_) rn
  have lp14 : p14.length = m + 15 := lp14.trans ln
  have A14 : mo_as p14 m 14 := A13.st fn xn rfl fp (by decide)
  have K14 : ko m 35 h p14 := (K13.tr (fn _ _)).tr (fp.sub (Nat.le_refl m) (by omega))
  clear fn fp xn ln rn rp13 lp13 A13 K13
  show am_Z X 119 [.ref m] [] p14 14 2656
  refine am_aload_n hB d_MO_init_119 rfl rfl rfl ?_
  refine ai_bipush hB d_MO_init_120 (by decide) ?_
  refine am_newI hB d_MO_init_122 ty_1 tb_221 (by decide) (N := 32) (by decide) (by decide) (by rw [hR.room]; decide) (by rw [hR.room]; decide) (q := m + 15) lp14 rfl rfl rfl ?_
  refine am_gapp (fun n15 ln xn fn => ?_)
  rw [lp14] at ln xn
  have rn := fn 0 0 _ _ (Or.inr (Nat.zero_le _)) rp14
  refine am_putF hB d_MO_init_124 P_MO_52_11 (hR.name.trans rfl) rn (by simp) (am_fit.r rfl (Or.inr ⟨_, rfl⟩)) rfl ?_
  refine am_gset (e := mo_o15 m) (fun p15 lp15 rp15 fp => ?_) rn
  have lp15 : p15.length = m + 16 := lp15.trans ln
  have A15 : mo_as p15 m 15 := A14.st fn xn rfl fp (by decide)
  have K15 : ko m 35 h p15 := (K14.tr (fn _ _)).tr (fp.sub (Nat.le_refl m) (by omega))
  clear fn fp xn ln rn rp14 lp14 A14 K14
  show am_Z X 127 [.ref m] [] p15 15 2688
  refine am_aload_n hB d_MO_init_127 rfl rfl rfl ?_
  refine ai_bipush hB d_MO_init_128 (by decide) ?_
  refine am_newI hB d_MO_init_130 ty_1 tb_221 (by decide) (N := 32) (by decide) (by decide) (by rw [hR.room]; decide) (by rw [hR.room]; decide) (q := m + 16) lp15 rfl rfl rfl ?_
  refine am_gapp (fun n16 ln xn fn => ?_)
  rw [lp15] at ln xn
  have rn := fn 0 0 _ _ (Or.inr (Nat.zero_le _)) rp15
  refine am_putF hB d_MO_init_132 P_MO_55_11 (hR.name.trans rfl) rn (by simp) (am_fit.r rfl (Or.inr ⟨_, rfl⟩)) rfl ?_
  refine am_gset (e := mo_o16 m) (fun p16 lp16 rp16 fp => ?_) rn
  have lp16 : p16.length = m + 17 := lp16.trans ln
  have A16 : mo_as p16 m 16 := A15.st fn xn rfl fp (by decide)
  have K16 : ko m 35 h p16 := (K15.tr (fn _ _)).tr (fp.sub (Nat.le_refl m) (by omega))
  clear fn fp xn ln rn rp15 lp15 A15 K15
  show am_Z X 135 [.ref m] [] p16 16 2720
  refine am_aload_n hB d_MO_init_135 rfl rfl rfl ?_
  refine ai_bipush hB d_MO_init_136 (by decide) ?_
  refine am_newI hB d_MO_init_138 ty_1 tb_221 (by decide) (N := 32) (by decide) (by decide) (by rw [hR.room]; decide) (by rw [hR.room]; decide) (q := m + 17) lp16 rfl rfl rfl ?_
  refine am_gapp (fun n17 ln xn fn => ?_)
  rw [lp16] at ln xn
  have rn := fn 0 0 _ _ (Or.inr (Nat.zero_le _)) rp16
  refine am_putF hB d_MO_init_140 P_MO_58_11 (hR.name.trans rfl) rn (by simp) (am_fit.r rfl (Or.inr ⟨_, rfl⟩)) rfl ?_
  refine am_gset (e := mo_o17 m) (fun p17 lp17 rp17 fp => ?_) rn
  have lp17 : p17.length = m + 18 := lp17.trans ln
  have A17 : mo_as p17 m 17 := A16.st fn xn rfl fp (by decide)
  have K17 : ko m 35 h p17 := (K16.tr (fn _ _)).tr (fp.sub (Nat.le_refl m) (by omega))
  clear fn fp xn ln rn rp16 lp16 A16 K16
  show am_Z X 143 [.ref m] [] p17 17 2752
  refine am_aload_n hB d_MO_init_143 rfl rfl rfl ?_
  refine ai_bipush hB d_MO_init_144 (by decide) ?_
  refine am_newI hB d_MO_init_146 ty_1 tb_221 (by decide) (N := 32) (by decide) (by decide) (by rw [hR.room]; decide) (by rw [hR.room]; decide) (q := m + 18) lp17 rfl rfl rfl ?_
  refine am_gapp (fun n18 ln xn fn => ?_)
  rw [lp17] at ln xn
  have rn := fn 0 0 _ _ (Or.inr (Nat.zero_le _)) rp17
  refine am_putF hB d_MO_init_148 P_MO_61_11 (hR.name.trans rfl) rn (by simp) (am_fit.r rfl (Or.inr ⟨_, rfl⟩)) rfl ?_
  refine am_gset (e := mo_o18 m) (fun p18 lp18 rp18 fp => ?_) rn
  have lp18 : p18.length = m + 19 := lp18.trans ln
  have A18 : mo_as p18 m 18 := A17.st fn xn rfl fp (by decide)
  have K18 : ko m 35 h p18 := (K17.tr (fn _ _)).tr (fp.sub (Nat.le_refl m) (by omega))
  clear fn fp xn ln rn rp17 lp17 A17 K17
  show am_Z X 151 [.ref m] [] p18 18 2784
  refine am_aload_n hB d_MO_init_151 rfl rfl rfl ?_
  refine ai_bipush hB d_MO_init_152 (by decide) ?_
  refine am_newI hB d_MO_init_154 ty_1 tb_221 (by decide) (N := 32) (by decide) (by decide) (by rw [hR.room]; decide) (by rw [hR.room]; decide) (q := m + 19) lp18 rfl rfl rfl ?_
  refine am_gapp (fun n19 ln xn fn => ?_)
  rw [lp18] at ln xn
  have rn := fn 0 0 _ _ (Or.inr (Nat.zero_le _)) rp18
  refine am_putF hB d_MO_init_156 P_MO_64_11 (hR.name.trans rfl) rn (by simp) (am_fit.r rfl (Or.inr ⟨_, rfl⟩)) rfl ?_
  refine am_gset (e := mo_o19 m) (fun p19 lp19 rp19 fp => ?_) rn
  have lp19 : p19.length = m + 20 := lp19.trans ln
  have A19 : mo_as p19 m 19 := A18.st fn xn rfl fp (by decide)
  have K19 : ko m 35 h p19 := (K18.tr (fn _ _)).tr (fp.sub (Nat.le_refl m) (by omega))
  clear fn fp xn ln rn rp18 lp18 A18 K18
  show am_Z X 159 [.ref m] [] p19 19 2816
  refine am_aload_n hB d_MO_init_159 rfl rfl rfl ?_
  refine ai_bipush hB d_MO_init_160 (by decide) ?_
  refine am_newI hB d_MO_init_162 ty_1 tb_221 (by decide) (N := 32) (by decide) (by decide) (by rw [hR.room]; decide) (by rw [hR.room]; decide) (q := m + 20) lp19 rfl rfl rfl ?_
  refine am_gapp (fun n20 ln xn fn => ?_)
  rw [lp19] at ln xn
  have rn := fn 0 0 _ _ (Or.inr (Nat.zero_le _)) rp19
  refine am_putF hB d_MO_init_164 P_MO_67_11 (hR.name.trans rfl) rn (by simp) (am_fit.r rfl (Or.inr ⟨_, rfl⟩)) rfl ?_
  refine am_gset (e := mo_o20 m) (fun p20 lp20 rp20 fp => ?_) rn
  have lp20 : p20.length = m + 21 := lp20.trans ln
  have A20 : mo_as p20 m 20 := A19.st fn xn rfl fp (by decide)
  have K20 : ko m 35 h p20 := (K19.tr (fn _ _)).tr (fp.sub (Nat.le_refl m) (by omega))
  clear fn fp xn ln rn rp19 lp19 A19 K19
  show am_Z X 167 [.ref m] [] p20 20 2848
  refine am_aload_n hB d_MO_init_167 rfl rfl rfl ?_
  refine ai_bipush hB d_MO_init_168 (by decide) ?_
  refine am_newI hB d_MO_init_170 ty_1 tb_221 (by decide) (N := 32) (by decide) (by decide) (by rw [hR.room]; decide) (by rw [hR.room]; decide) (q := m + 21) lp20 rfl rfl rfl ?_
  refine am_gapp (fun n21 ln xn fn => ?_)
  rw [lp20] at ln xn
  have rn := fn 0 0 _ _ (Or.inr (Nat.zero_le _)) rp20
  refine am_putF hB d_MO_init_172 P_MO_70_11 (hR.name.trans rfl) rn (by simp) (am_fit.r rfl (Or.inr ⟨_, rfl⟩)) rfl ?_
  refine am_gset (e := mo_o21 m) (fun p21 lp21 rp21 fp => ?_) rn
  have lp21 : p21.length = m + 22 := lp21.trans ln
  have A21 : mo_as p21 m 21 := A20.st fn xn rfl fp (by decide)
  have K21 : ko m 35 h p21 := (K20.tr (fn _ _)).tr (fp.sub (Nat.le_refl m) (by omega))
  clear fn fp xn ln rn rp20 lp20 A20 K20
  show am_Z X 175 [.ref m] [] p21 21 2880
  refine am_aload_n hB d_MO_init_175 rfl rfl rfl ?_
  refine ai_bipush hB d_MO_init_176 (by decide) ?_
  refine am_newI hB d_MO_init_178 ty_1 tb_221 (by decide) (N := 32) (by decide) (by decide) (by rw [hR.room]; decide) (by rw [hR.room]; decide) (q := m + 22) lp21 rfl rfl rfl ?_
  refine am_gapp (fun n22 ln xn fn => ?_)
  rw [lp21] at ln xn
  have rn := fn 0 0 _ _ (Or.inr (Nat.zero_le _)) rp21
  refine am_putF hB d_MO_init_180 P_MO_73_11 (hR.name.trans rfl) rn (by simp) (am_fit.r rfl (Or.inr ⟨_, rfl⟩)) rfl ?_
  refine am_gset (e := mo_o22 m) (fun p22 lp22 rp22 fp => ?_) rn
  have lp22 : p22.length = m + 23 := lp22.trans ln
  have A22 : mo_as p22 m 22 := A21.st fn xn rfl fp (by decide)
  have K22 : ko m 35 h p22 := (K21.tr (fn _ _)).tr (fp.sub (Nat.le_refl m) (by omega))
  clear fn fp xn ln rn rp21 lp21 A21 K21
  show am_Z X 183 [.ref m] [] p22 22 2912
  refine am_aload_n hB d_MO_init_183 rfl rfl rfl ?_
  refine ai_bipush hB d_MO_init_184 (by decide) ?_
  refine am_newI hB d_MO_init_186 ty_1 tb_221 (by decide) (N := 32) (by decide) (by decide) (by rw [hR.room]; decide) (by rw [hR.room]; decide) (q := m + 23) lp22 rfl rfl rfl ?_
  refine am_gapp (fun n23 ln xn fn => ?_)
  rw [lp22] at ln xn
  have rn := fn 0 0 _ _ (Or.inr (Nat.zero_le _)) rp22
  refine am_putF hB d_MO_init_188 P_MO_76_11 (hR.name.trans rfl) rn (by simp) (am_fit.r rfl (Or.inr ⟨_, rfl⟩)) rfl ?_
  refine am_gset (e := mo_o23 m) (fun p23 lp23 rp23 fp => ?_) rn
  have lp23 : p23.length = m + 24 := lp23.trans ln
  have A23 : mo_as p23 m 23 := A22.st fn xn rfl fp (by decide)
  have K23 : ko m 35 h p23 := (K22.tr (fn _ _)).tr (fp.sub (Nat.le_refl m) (by omega))
  clear fn fp xn ln rn rp22 lp22 A22 K22
  show am_Z X 191 [.ref m] [] p23 23 2944
  refine am_aload_n hB d_MO_init_191 rfl rfl rfl ?_
  refine ai_bipush hB d_MO_init_192 (by decide) ?_
  refine am_newI hB d_MO_init_194 ty_1 tb_221 (by decide) (N := 32) (by decide) (by decide) (by rw [hR.room]; decide) (by rw [hR.room]; decide) (q := m + 24) lp23 rfl rfl rfl ?_
  refine am_gapp (fun n24 ln xn fn => ?_)
  rw [lp23] at ln xn
  have rn := fn 0 0 _ _ (Or.inr (Nat.zero_le _)) rp23
  refine am_putF hB d_MO_init_196 P_MO_79_11 (hR.name.trans rfl) rn (by simp) (am_fit.r rfl (Or.inr ⟨_, rfl⟩)) rfl ?_
  refine am_gset (e := mo_o24 m) (fun p24 lp24 rp24 fp => ?_) rn
  have lp24 : p24.length = m + 25 := lp24.trans ln
  have A24 : mo_as p24 m 24 := A23.st fn xn rfl fp (by decide)
  have K24 : ko m 35 h p24 := (K23.tr (fn _ _)).tr (fp.sub (Nat.le_refl m) (by omega))
  clear fn fp xn ln rn rp23 lp23 A23 K23
  show am_Z X 199 [.ref m] [] p24 24 2976
  refine am_aload_n hB d_MO_init_199 rfl rfl rfl ?_
  refine ai_bipush hB d_MO_init_200 (by decide) ?_
  refine am_newI hB d_MO_init_202 ty_1 tb_221 (by decide) (N := 32) (by decide) (by decide) (by rw [hR.room]; decide) (by rw [hR.room]; decide) (q := m + 25) lp24 rfl rfl rfl ?_
  refine am_gapp (fun n25 ln xn fn => ?_)
  rw [lp24] at ln xn
  have rn := fn 0 0 _ _ (Or.inr (Nat.zero_le _)) rp24
  refine am_putF hB d_MO_init_204 P_MO_82_11 (hR.name.trans rfl) rn (by simp) (am_fit.r rfl (Or.inr ⟨_, rfl⟩)) rfl ?_
  refine am_gset (e := mo_o25 m) (fun p25 lp25 rp25 fp => ?_) rn
  have lp25 : p25.length = m + 26 := lp25.trans ln
  have A25 : mo_as p25 m 25 := A24.st fn xn rfl fp (by decide)
  have K25 : ko m 35 h p25 := (K24.tr (fn _ _)).tr (fp.sub (Nat.le_refl m) (by omega))
  clear fn fp xn ln rn rp24 lp24 A24 K24
  show am_Z X 207 [.ref m] [] p25 25 3008
  refine am_aload_n hB d_MO_init_207 rfl rfl rfl ?_
  refine ai_bipush hB d_MO_init_208 (by decide) ?_
  refine am_newI hB d_MO_init_210 ty_1 tb_221 (by decide) (N := 32) (by decide) (by decide) (by rw [hR.room]; decide) (by rw [hR.room]; decide) (q := m + 26) lp25 rfl rfl rfl ?_
  refine am_gapp (fun n26 ln xn fn => ?_)
  rw [lp25] at ln xn
  have rn := fn 0 0 _ _ (Or.inr (Nat.zero_le _)) rp25
  refine am_putF hB d_MO_init_212 P_MO_85_11 (hR.name.trans rfl) rn (by simp) (am_fit.r rfl (Or.inr ⟨_, rfl⟩)) rfl ?_
  refine am_gset (e := mo_o26 m) (fun p26 lp26 rp26 fp => ?_) rn
  have lp26 : p26.length = m + 27 := lp26.trans ln
  have A26 : mo_as p26 m 26 := A25.st fn xn rfl fp (by decide)
  have K26 : ko m 35 h p26 := (K25.tr (fn _ _)).tr (fp.sub (Nat.le_refl m) (by omega))
  clear fn fp xn ln rn rp25 lp25 A25 K25
  show am_Z X 215 [.ref m] [] p26 26 3040
  refine am_aload_n hB d_MO_init_215 rfl rfl rfl ?_
  refine ai_bipush hB d_MO_init_216 (by decide) ?_
  refine am_newI hB d_MO_init_218 ty_1 tb_221 (by decide) (N := 32) (by decide) (by decide) (by rw [hR.room]; decide) (by rw [hR.room]; decide) (q := m + 27) lp26 rfl rfl rfl ?_
  refine am_gapp (fun n27 ln xn fn => ?_)
  rw [lp26] at ln xn
  have rn := fn 0 0 _ _ (Or.inr (Nat.zero_le _)) rp26
  refine am_putF hB d_MO_init_220 P_MO_88_11 (hR.name.trans rfl) rn (by simp) (am_fit.r rfl (Or.inr ⟨_, rfl⟩)) rfl ?_
  refine am_gset (e := mo_o27 m) (fun p27 lp27 rp27 fp => ?_) rn
  have lp27 : p27.length = m + 28 := lp27.trans ln
  have A27 : mo_as p27 m 27 := A26.st fn xn rfl fp (by decide)
  have K27 : ko m 35 h p27 := (K26.tr (fn _ _)).tr (fp.sub (Nat.le_refl m) (by omega))
  clear fn fp xn ln rn rp26 lp26 A26 K26
  show am_Z X 223 [.ref m] [] p27 27 3072
  refine am_aload_n hB d_MO_init_223 rfl rfl rfl ?_
  refine ai_bipush hB d_MO_init_224 (by decide) ?_
  refine am_newI hB d_MO_init_226 ty_1 tb_221 (by decide) (N := 32) (by decide) (by decide) (by rw [hR.room]; decide) (by rw [hR.room]; decide) (q := m + 28) lp27 rfl rfl rfl ?_
  refine am_gapp (fun n28 ln xn fn => ?_)
  rw [lp27] at ln xn
  have rn := fn 0 0 _ _ (Or.inr (Nat.zero_le _)) rp27
  refine am_putF hB d_MO_init_228 P_MO_91_11 (hR.name.trans rfl) rn (by simp) (am_fit.r rfl (Or.inr ⟨_, rfl⟩)) rfl ?_
  refine am_gset (e := mo_o28 m) (fun p28 lp28 rp28 fp => ?_) rn
  have lp28 : p28.length = m + 29 := lp28.trans ln
  have A28 : mo_as p28 m 28 := A27.st fn xn rfl fp (by decide)
  have K28 : ko m 35 h p28 := (K27.tr (fn _ _)).tr (fp.sub (Nat.le_refl m) (by omega))
  clear fn fp xn ln rn rp27 lp27 A27 K27
  show am_Z X 231 [.ref m] [] p28 28 3104
  refine am_aload_n hB d_MO_init_231 rfl rfl rfl ?_
  refine ai_sipush hB d_MO_init_232 (by decide) ?_
  refine am_newI hB d_MO_init_235 ty_1 tb_221 (by decide) (N := 1000) (by decide) (by decide) (by rw [hR.room]; decide) (by rw [hR.room]; decide) (q := m + 29) lp28 rfl rfl rfl ?_
  refine am_gapp (fun n29 ln xn fn => ?_)
  rw [lp28] at ln xn
  have rn := fn 0 0 _ _ (Or.inr (Nat.zero_le _)) rp28
  refine am_putF hB d_MO_init_237 P_MO_94_11 (hR.name.trans rfl) rn (by simp) (am_fit.r rfl (Or.inr ⟨_, rfl⟩)) rfl ?_
  refine am_gset (e := mo_o29 m) (fun p29 lp29 rp29 fp => ?_) rn
  have lp29 : p29.length = m + 30 := lp29.trans ln
  have A29 : mo_as p29 m 29 := A28.st fn xn rfl fp (by decide)
  have K29 : ko m 35 h p29 := (K28.tr (fn _ _)).tr (fp.sub (Nat.le_refl m) (by omega))
  clear fn fp xn ln rn rp28 lp28 A28 K28
  show am_Z X 240 [.ref m] [] p29 29 4104
  refine am_aload_n hB d_MO_init_240 rfl rfl rfl ?_
  refine ai_sipush hB d_MO_init_241 (by decide) ?_
  refine am_newI hB d_MO_init_244 ty_1 tb_221 (by decide) (N := 1000) (by decide) (by decide) (by rw [hR.room]; decide) (by rw [hR.room]; decide) (q := m + 30) lp29 rfl rfl rfl ?_
  refine am_gapp (fun n30 ln xn fn => ?_)
  rw [lp29] at ln xn
  have rn := fn 0 0 _ _ (Or.inr (Nat.zero_le _)) rp29
  refine am_putF hB d_MO_init_246 P_MO_97_11 (hR.name.trans rfl) rn (by simp) (am_fit.r rfl (Or.inr ⟨_, rfl⟩)) rfl ?_
  refine am_gset (e := mo_o30 m) (fun p30 lp30 rp30 fp => ?_) rn
  have lp30 : p30.length = m + 31 := lp30.trans ln
  have A30 : mo_as p30 m 30 := A29.st fn xn rfl fp (by decide)
  have K30 : ko m 35 h p30 := (K29.tr (fn _ _)).tr (fp.sub (Nat.le_refl m) (by omega))
  clear fn fp xn ln rn rp29 lp29 A29 K29
  show am_Z X 249 [.ref m] [] p30 30 5104
  refine am_aload_n hB d_MO_init_249 rfl rfl rfl ?_
  refine ai_bipush hB d_MO_init_250 (by decide) ?_
  refine am_newJ hB d_MO_init_252 ty_2 tb_220 (by decide) (N := 16) (by decide) (by decide) (by rw [hR.room]; decide) (by rw [hR.room]; decide) (q := m + 31) lp30 rfl rfl rfl ?_
  refine am_gapp (fun n31 ln xn fn => ?_)
  rw [lp30] at ln xn
  have rn := fn 0 0 _ _ (Or.inr (Nat.zero_le _)) rp30
  refine am_putF hB d_MO_init_254 P_MO_100_11 (hR.name.trans rfl) rn (by simp) (am_fit.r rfl (Or.inr ⟨_, rfl⟩)) rfl ?_
  refine am_gset (e := mo_o31 m) (fun p31 lp31 rp31 fp => ?_) rn
  have lp31 : p31.length = m + 32 := lp31.trans ln
  have A31 : mo_as p31 m 31 := A30.st fn xn rfl fp (by decide)
  have K31 : ko m 35 h p31 := (K30.tr (fn _ _)).tr (fp.sub (Nat.le_refl m) (by omega))
  clear fn fp xn ln rn rp30 lp30 A30 K30
  show am_Z X 257 [.ref m] [] p31 31 5120
  refine am_aload_n hB d_MO_init_257 rfl rfl rfl ?_
  refine ai_bipush hB d_MO_init_258 (by decide) ?_
  refine am_newI hB d_MO_init_260 ty_1 tb_221 (by decide) (N := 16) (by decide) (by decide) (by rw [hR.room]; decide) (by rw [hR.room]; decide) (q := m + 32) lp31 rfl rfl rfl ?_
  refine am_gapp (fun n32 ln xn fn => ?_)
  rw [lp31] at ln xn
  have rn := fn 0 0 _ _ (Or.inr (Nat.zero_le _)) rp31
  refine am_putF hB d_MO_init_262 P_MO_104_11 (hR.name.trans rfl) rn (by simp) (am_fit.r rfl (Or.inr ⟨_, rfl⟩)) rfl ?_
  refine am_gset (e := mo_o32 m) (fun p32 lp32 rp32 fp => ?_) rn
  have lp32 : p32.length = m + 33 := lp32.trans ln
  have A32 : mo_as p32 m 32 := A31.st fn xn rfl fp (by decide)
  have K32 : ko m 35 h p32 := (K31.tr (fn _ _)).tr (fp.sub (Nat.le_refl m) (by omega))
  clear fn fp xn ln rn rp31 lp31 A31 K31
  show am_Z X 265 [.ref m] [] p32 32 5136
  refine am_aload_n hB d_MO_init_265 rfl rfl rfl ?_
  refine ai_bipush hB d_MO_init_266 (by decide) ?_
  refine am_newI hB d_MO_init_268 ty_1 tb_221 (by decide) (N := 16) (by decide) (by decide) (by rw [hR.room]; decide) (by rw [hR.room]; decide) (q := m + 33) lp32 rfl rfl rfl ?_
  refine am_gapp (fun n33 ln xn fn => ?_)
  rw [lp32] at ln xn
  have rn := fn 0 0 _ _ (Or.inr (Nat.zero_le _)) rp32
  refine am_putF hB d_MO_init_270 P_MO_107_11 (hR.name.trans rfl) rn (by simp) (am_fit.r rfl (Or.inr ⟨_, rfl⟩)) rfl ?_
  refine am_gset (e := mo_o33 m) (fun p33 lp33 rp33 fp => ?_) rn
  have lp33 : p33.length = m + 34 := lp33.trans ln
  have A33 : mo_as p33 m 33 := A32.st fn xn rfl fp (by decide)
  have K33 : ko m 35 h p33 := (K32.tr (fn _ _)).tr (fp.sub (Nat.le_refl m) (by omega))
  clear fn fp xn ln rn rp32 lp32 A32 K32
  show am_Z X 273 [.ref m] [] p33 33 5152
  refine am_aload_n hB d_MO_init_273 rfl rfl rfl ?_
  refine ai_bipush hB d_MO_init_274 (by decide) ?_
  refine am_newI hB d_MO_init_276 ty_1 tb_221 (by decide) (N := 16) (by decide) (by decide) (by rw [hR.room]; decide) (by rw [hR.room]; decide) (q := m + 34) lp33 rfl rfl rfl ?_
  refine am_gapp (fun n34 ln xn fn => ?_)
  rw [lp33] at ln xn
  have rn := fn 0 0 _ _ (Or.inr (Nat.zero_le _)) rp33
  refine am_putF hB d_MO_init_278 P_MO_110_11 (hR.name.trans rfl) rn (by simp) (am_fit.r rfl (Or.inr ⟨_, rfl⟩)) rfl ?_
  refine am_gset (e := mo_o34 m) (fun p34 lp34 rp34 fp => ?_) rn
  have lp34 : p34.length = m + 35 := lp34.trans ln
  have A34 : mo_as p34 m 34 := A33.st fn xn rfl fp (by decide)
  have K34 : ko m 35 h p34 := (K33.tr (fn _ _)).tr (fp.sub (Nat.le_refl m) (by omega))
  clear fn fp xn ln rn rp33 lp33 A33 K33
  show am_Z X 281 [.ref m] [] p34 34 5168
  refine am_vret hB hR d_MO_init_281 rfl ?_ (by decide) (by decide)
  exact ⟨rfl, lp34, ⟨rp34, A34 1 (by decide) (by decide), A34 2 (by decide) (by decide), A34 3 (by decide) (by decide), A34 4 (by decide) (by decide), A34 5 (by decide) (by decide), A34 6 (by decide) (by decide), A34 7 (by decide) (by decide), A34 8 (by decide) (by decide), A34 9 (by decide) (by decide), A34 10 (by decide) (by decide), A34 11 (by decide) (by decide), A34 12 (by decide) (by decide), A34 13 (by decide) (by decide), A34 14 (by decide) (by decide), A34 15 (by decide) (by decide), A34 16 (by decide) (by decide), A34 17 (by decide) (by decide), A34 18 (by decide) (by decide), A34 19 (by decide) (by decide), A34 20 (by decide) (by decide), A34 21 (by decide) (by decide), A34 22 (by decide) (by decide), A34 23 (by decide) (by decide), A34 24 (by decide) (by decide), A34 25 (by decide) (by decide), A34 26 (by decide) (by decide), A34 27 (by decide) (by decide), A34 28 (by decide) (by decide), A34 29 (by decide) (by decide), A34 30 (by decide) (by decide), A34 31 (by decide) (by decide), A34 32 (by decide) (by decide), A34 33 (by decide) (by decide), A34 34 (by decide) (by decide)⟩, K34⟩
