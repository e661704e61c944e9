/-! typeOf -/
def am_typ (b : Int32) : Int32 := if b < 97 then (if b < 48 then (if b = 40 ∨ b = 41 ∨ b = 42 ∨ b = 43 ∨ b = 45 ∨ b = 47 then 3 else 4) else if 57 < b then (if b = 59 ∨ b = 60 ∨ b = 61 then 3 else 4) else 2) else if 122 < b then 4 else 1
def F_X8_typeOf (i0 : Int32) (iv : am_I) : Option Int32 := if i0.toInt8.toInt32 = i0 then some (am_typ i0) else none
theorem R_X8_typeOf {E : am_E} {S : am_S} {Q : am_O → am_S → am_I → Prop} {i0 : Int32} {iv : am_I} {y : Int32} (e : F_X8_typeOf i0 iv = some y) (h : Q (.inl (some (.int y))) S iv) {d : Nat} (hd : 6 ≤ d) : am_M E d mX8_typeOf 0 0 [.int i0] S iv Q := sorry
