/-! the layout of the cells that the two constructors make; small facts -/
theorem vp_lit {i : Int32} {n : Nat} (h : ¬ (i < 0 ∨ n ≤ i.toNatClampNeg)) : vp_in i n := h
/-- 1 or 0 -/
def am_bi (b : Bool) : Int32 := if b then 1 else 0
theorem am_bi_n (b : Bool) : narrow .boolean (.int (am_bi b)) = .int (am_bi b) := by cases b <;> rfl
theorem am_bi_01 (b : Bool) : am_bi b = 0 ∨ am_bi b = 1 := by cases b <;> decide
theorem am_bi_t {b : Bool} (h : b = true) : am_bi b = 1 := by rw [h]; rfl
theorem am_bi_f {b : Bool} (h : b = false) : am_bi b = 0 := by rw [h]; rfl
theorem am_bi_eq0 (b : Bool) : am_bi b = 0 ↔ b = false := by cases b <;> decide
theorem am_bi_ne0 (b : Bool) : ¬ am_bi b = 0 ↔ b = true := by cases b <;> decide
def am_lay (a : Nat) : Option am_K := match a with
  | 0 => some (.inl 9)
  | 1 => some (.inr (.byte, 700))
  | 2 => some (.inl 0)
  | 3 => some (.inl 2)
  | 4 => some (.inr (.int, 10))
  | 5 => some (.inr (.int, 10))
  | 6 => some (.inr (.int, 10))
  | 7 => some (.inr (.int, 10))
  | 8 => some (.inr (.int, 10))
  | 9 => some (.inr (.int, 10))
  | 10 => some (.inr (.int, 10))
  | 11 => some (.inr (.int, 10))
  | 12 => some (.inl 4)
  | 13 => some (.inr (.int, 5))
  | 14 => some (.inr (.int, 5))
  | 15 => some (.inr (.int, 5))
  | 16 => some (.inl 5)
  | 17 => some (.inr (.int, 5))
  | 18 => some (.inr (.int, 700))
  | 19 => some (.inr (.int, 64))
  | 20 => some (.inr (.int, 7))
  | 21 => some (.inr (.int, 1024))
  | 22 => some (.inl 0)
  | 23 => some (.inl 2)
  | 24 => some (.inr (.int, 10))
  | 25 => some (.inr (.int, 10))
  | 26 => some (.inr (.int, 10))
  | 27 => some (.inr (.int, 10))
  | 28 => some (.inr (.int, 10))
  | 29 => some (.inr (.int, 10))
  | 30 => some (.inr (.int, 10))
  | 31 => some (.inr (.int, 10))
  | 32 => some (.inl 4)
  | 33 => some (.inr (.int, 5))
  | 34 => some (.inr (.int, 5))
  | 35 => some (.inr (.int, 5))
  | 36 => some (.inl 5)
  | 37 => some (.inr (.int, 5))
  | 38 => some (.inr (.int, 700))
  | 39 => some (.inr (.int, 64))
  | 40 => some (.inr (.int, 7))
  | 41 => some (.inr (.int, 1024))
  | 42 => some (.inl 7)
  | 43 => some (.inr (.int, 5))
  | 44 => some (.inr (.int, 100))
  | 45 => some (.inr (.int, 100))
  | 46 => some (.inl 7)
  | 47 => some (.inr (.int, 5))
  | 48 => some (.inr (.int, 100))
  | 49 => some (.inr (.int, 100))
  | 50 => some (.inl 6)
  | 51 => some (.inr (.int, 0))
  | 52 => some (.inr (.int, 0))
  | 53 => some (.inr (.int, 10))
  | 54 => some (.inl 10)
  | 55 => some (.inr (am_S0, 4))
  | 56 => some (.inr (am_S0, 3))
  | 57 => some (.inr (am_S0, 7))
  | 58 => some (.inr (.int, 20))
  | 59 => some (.inr (.int, 20))
  | 60 => some (.inr (.int, 20))
  | 61 => some (.inr (.int, 20))
  | 62 => some (.inr (.int, 20))
  | 63 => some (.inr (.int, 20))
  | 64 => some (.inr (.int, 10))
  | 65 => some (.inr (.int, 10))
  | 66 => some (.inr (.int, 10))
  | 67 => some (.inr (.int, 8))
  | 68 => some (.inr (.int, 8))
  | 69 => some (.inr (.int, 1400))
  | 70 => some (.inr (.int, 2))
  | 71 => some (.inr (.int, 700))
  | 72 => some (.inr (.int, 5))
  | 73 => some (.inr (.int, 100))
  | 74 => some (.inr (.int, 100))
  | 75 => some (.inr (.int, 7))
  | 76 => some (.inr (.int, 60))
  | 77 => some (.inr (.int, 32768))
  | 78 => some (.inr (.int, 32768))
  | 79 => some (.inr (.int, 32768))
  | 80 => some (.inr (.int, 32768))
  | 81 => some (.inr (.int, 32768))
  | 82 => some (.inr (.boolean, 1024))
  | 83 => some (.inr (.int, 5))
  | 84 => some (.inr (.int, 5))
  | 85 => some (.inr (.int, 100))
  | 86 => some (.inr (.int, 100))
  | 87 => some (.inr (.int, 2))
  | 88 => some (.inr (.long, 1))
  | _ => none
def am_lref (a j : Nat) : Option Nat := match a, j with
  | 0, 0 => some 1
  | 0, 5 => some 42
  | 0, 6 => some 46
  | 0, 8 => some 50
  | 2, 7 => some 3
  | 2, 8 => some 12
  | 2, 9 => some 16
  | 2, 10 => some 20
  | 2, 11 => some 21
  | 3, 1 => some 4
  | 3, 2 => some 5
  | 3, 3 => some 6
  | 3, 4 => some 7
  | 3, 5 => some 8
  | 3, 6 => some 9
  | 3, 7 => some 10
  | 3, 8 => some 11
  | 12, 1 => some 13
  | 12, 2 => some 14
  | 12, 3 => some 15
  | 16, 2 => some 17
  | 16, 3 => some 18
  | 16, 4 => some 19
  | 22, 7 => some 23
  | 22, 8 => some 32
  | 22, 9 => some 36
  | 22, 10 => some 40
  | 22, 11 => some 41
  | 23, 1 => some 24
  | 23, 2 => some 25
  | 23, 3 => some 26
  | 23, 4 => some 27
  | 23, 5 => some 28
  | 23, 6 => some 29
  | 23, 7 => some 30
  | 23, 8 => some 31
  | 32, 1 => some 33
  | 32, 2 => some 34
  | 32, 3 => some 35
  | 36, 2 => some 37
  | 36, 3 => some 38
  | 36, 4 => some 39
  | 42, 6 => some 43
  | 42, 7 => some 44
  | 42, 8 => some 45
  | 46, 6 => some 47
  | 46, 7 => some 48
  | 46, 8 => some 49
  | 54, 0 => some 55
  | 54, 1 => some 56
  | 54, 2 => some 57
  | 54, 4 => some 58
  | 54, 5 => some 59
  | 54, 6 => some 60
  | 54, 7 => some 61
  | 54, 8 => some 62
  | 54, 9 => some 63
  | 54, 10 => some 64
  | 54, 11 => some 65
  | 54, 12 => some 66
  | 54, 13 => some 67
  | 54, 14 => some 68
  | 54, 15 => some 69
  | 54, 16 => some 70
  | 54, 17 => some 71
  | 54, 33 => some 72
  | 54, 34 => some 73
  | 54, 35 => some 74
  | 54, 36 => some 75
  | 54, 37 => some 76
  | 54, 38 => some 77
  | 54, 39 => some 78
  | 54, 40 => some 79
  | 54, 41 => some 80
  | 54, 42 => some 81
  | 54, 43 => some 82
  | 54, 46 => some 83
  | 54, 53 => some 84
  | 54, 54 => some 85
  | 54, 55 => some 86
  | 54, 56 => some 87
  | 55, 0 => some 35
  | 55, 1 => some 36
  | 55, 2 => some 37
  | 55, 3 => some 38
  | 56, 0 => some 39
  | 56, 1 => some 40
  | 56, 2 => some 41
  | 57, 0 => some 42
  | 57, 1 => some 43
  | 57, 2 => some 44
  | 57, 3 => some 45
  | 57, 4 => some 46
  | 57, 5 => some 47
  | 57, 6 => some 48
  | _, _ => none
/-- the fixed cells stand -/
def am_Lay (S : am_S) : Prop := (∀ a t, am_lay a = some t → S.1 a = some t) ∧ (∀ a j b, am_lref a j = some b → S.2.1 a j = some b) ∧ 89 ≤ S.2.2.2
theorem pn_X0 : plainName RX0 = true := by decide +kernel
theorem pn_X1 : plainName RX1 = true := by decide +kernel
theorem pn_X2 : plainName RX2 = true := by decide +kernel
theorem pn_X3 : plainName RX3 = true := by decide +kernel
theorem pn_X4 : plainName RX4 = true := by decide +kernel
theorem pn_X5 : plainName RX5 = true := by decide +kernel
theorem pn_X6 : plainName RX6 = true := by decide +kernel
theorem pn_X7 : plainName RX7 = true := by decide +kernel
theorem pn_X8 : plainName RX8 = true := by decide +kernel
theorem pn_X9 : plainName RX9 = true := by decide +kernel
theorem pn_X10 : plainName RX10 = true := by decide +kernel
theorem pn_L : plainName RL = true := by decide +kernel
