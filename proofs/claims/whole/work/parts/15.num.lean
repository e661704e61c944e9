/-! small numbers, sets as bits; the abstract city: a table c; c 0 0 how many drawers, c 0 1 REACH, c 0 2 how many people, c 0 3 how many rules, c 0 4 COLUMNS, c 0 5 STORIES, c 0 6..9 BASE RISE PART CHANCE; c 1 kinds, c 2 columns, c 3 stories, c 4 lengths, c 5 wide, c 6 homes, c 7 shops (one more, 0: none), c 8 weights -/
abbrev cy_n (c : Nat → Nat → Nat) : Nat := c 0 0
abbrev cy_re (c : Nat → Nat → Nat) : Nat := c 0 1
abbrev cy_p (c : Nat → Nat → Nat) : Nat := c 0 2
abbrev cy_r (c : Nat → Nat → Nat) : Nat := c 0 3
abbrev cy_kd (c : Nat → Nat → Nat) (j : Nat) : Nat := c 1 j
abbrev cy_co (c : Nat → Nat → Nat) (j : Nat) : Nat := c 2 j
abbrev cy_st (c : Nat → Nat → Nat) (j : Nat) : Nat := c 3 j
abbrev cy_le (c : Nat → Nat → Nat) (j : Nat) : Nat := c 4 j
abbrev cy_wi (c : Nat → Nat → Nat) (j : Nat) : Nat := c 5 j
abbrev cy_ho (c : Nat → Nat → Nat) (j : Nat) : Nat := c 6 j
abbrev cy_sh (c : Nat → Nat → Nat) (j : Nat) : Nat := c 7 j
abbrev cy_we (c : Nat → Nat → Nat) (j : Nat) : Nat := c 8 j
/-- a city as a text can tell it -/
def cy_ok (c : Nat → Nat → Nat) : Prop :=
  cy_n c ≤ 10 ∧ (1 ≤ cy_re c ∧ cy_re c ≤ 9) ∧ cy_p c ≤ 5 ∧ cy_r c ≤ 4 ∧ (1 ≤ c 0 4 ∧ c 0 4 ≤ 6) ∧ (1 ≤ c 0 5 ∧ c 0 5 ≤ 9) ∧ (c 0 6 ≤ 99 ∧ c 0 7 ≤ 99 ∧ c 0 8 ≤ 99 ∧ c 0 9 ≤ 1000) ∧
  (∀ j, j < cy_n c → cy_kd c j ≤ 3 ∧ cy_co c j + cy_wi c j < c 0 4 ∧ cy_st c j < c 0 5 ∧ 1 ≤ cy_le c j ∧ cy_le c j ≤ 9 ∧ cy_wi c j ≤ 1) ∧
  (∀ p, p < cy_p c → cy_ho c p < cy_n c ∧ cy_kd c (cy_ho c p) = 0 ∧ cy_sh c p ≤ cy_n c ∧ (cy_sh c p ≠ 0 → cy_kd c (cy_sh c p - 1) = 1) ∧ cy_we c p ≤ 99)
/-- the shop's number, NONE: -1 -/
def cy_shI (c : Nat → Nat → Nat) (p : Nat) : Int32 := if cy_sh c p = 0 then -1 else nI (cy_sh c p - 1)
theorem am_has : ∀ s, s < 1024 → ∀ d, d < 10 → decide (nI s >>> (nI d &&& 31) &&& 1 = 1) = s.testBit d := by decide +kernel
theorem am_has5 : ∀ s, s < 32 → ∀ d, d < 10 → decide (nI s >>> (nI d &&& 31) &&& 1 = 1) = s.testBit d := by decide +kernel
theorem am_bit1 : ∀ s, s < 1024 → ∀ d, d < 10 → nI s >>> (nI d &&& 31) &&& 1 = am_bi (s.testBit d) := by decide +kernel
theorem am_shl1 : ∀ d, d < 11 → (1 : Int32) <<< (nI d &&& 31) = nI (2 ^ d) := by decide +kernel
theorem am_lt {a b : Nat} (ha : a < 65536) (hb : b < 65536) : nI a < nI b ↔ a < b := nI_ltI (by omega) (by omega)
theorem am_le {a b : Nat} (ha : a < 65536) (hb : b < 65536) : nI a ≤ nI b ↔ a ≤ b := nI_leI (by omega) (by omega)
theorem am_eq {a b : Nat} (ha : a < 65536) (hb : b < 65536) : nI a = nI b ↔ a = b := nI_eq (by omega) (by omega)
theorem am_cl {a : Nat} (ha : a < 65536) : (nI a).toNatClampNeg = a := nI_clamp (by omega)
theorem am_vin {i n : Nat} (h : i < n) (hn : n < 65536) : vp_in (nI i) n := vp_in_nI h (by omega)
