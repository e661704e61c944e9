/-! small numbers, sets as bits; the abstract city: a table c; c 0 0 how many drawers, c 0 1 REACH, c 0 2 how many people, c 0 3 how many rules, c 0 4 COLUMNS, c 0 5 STORIES, c 0 6..9 BASE RISE PART CHANCE; c 1 kinds, c 2 columns, c 3 stories, c 4 lengths, c 5 wide, c 6 homes, c 7 shops (one more, 0: none), c 8 weights -/
abbrev cy_n (c : Nat → Nat → Nat) : Nat := c 0 0
abbrev cy_re (c : Nat → Nat → Nat) : Nat := c 0 1
abbrev cy_p (c : Nat → Nat → Nat) : Nat := c 0 2
abbrev cy_r (c : Nat → Nat → Nat) : Nat := c 0 3
abbrev cy_kd (c : Nat → Nat → Nat) (j : Nat) : Nat := c 1 j
abbrev cy_co (c : Nat → Nat → Nat) (j : Nat) : Nat := c 2 j
abbrev cy_st (c : Nat → Nat → Nat) (j : Nat) : Nat := c 3 j
abbrev cy_le (c : Nat → Nat → Nat) (j : Nat) : Nat := c 4 j
abbrev cy_wi (c : Nat → Nat → Nat) (j : Nat) : Nat := c 5 j
abbrev cy_ho (c : Nat → Nat → Nat) (j : Nat) : Nat := c 6 j
abbrev cy_sh (c : Nat → Nat → Nat) (j : Nat) : Nat := c 7 j
abbrev cy_we (c : Nat → Nat → Nat) (j : Nat) : Nat := c 8 j
/-- a city as a text can tell it -/
def cy_ok (c : Nat → Nat → Nat) : Prop :=
  cy_n c ≤ 10 ∧ (1 ≤ cy_re c ∧ cy_re c ≤ 9) ∧ cy_p c ≤ 5 ∧ cy_r c ≤ 4 ∧ (1 ≤ c 0 4 ∧ c 0 4 ≤ 6) ∧ (1 ≤ c 0 5 ∧ c 0 5 ≤ 9) ∧ (c 0 6 ≤ 99 ∧ c 0 7 ≤ 99 ∧ c 0 8 ≤ 99 ∧ c 0 9 ≤ 1000) ∧
  (∀ j, j < cy_n c → cy_kd c j ≤ 3 ∧ cy_co c j + cy_wi c j < c 0 4 ∧ cy_st c j < c 0 5 ∧ 1 ≤ cy_le c j ∧ cy_le c j ≤ 9 ∧ cy_wi c j ≤ 1) ∧
  (∀ p, p < cy_p c → cy_ho c p < cy_n c ∧ cy_kd c (cy_ho c p) = 0 ∧ cy_sh c p ≤ cy_n c ∧ (cy_sh c p ≠ 0 → cy_kd c (cy_sh c p - 1) = 1) ∧ cy_we c p ≤ 99)
/-- the shop's number, NONE: -1 -/
def cy_shI (c : Nat → Nat → Nat) (p : Nat) : Int32 := if cy_sh c p = 0 then -1 else nI (cy_sh c p - 1)
theorem am_has : ∀ s, s < 1024 → ∀ d, d < 10 → decide (nI s >>> (nI d &&& 31) &&& 1 = 1) = s.testBit d := by decide +kernel
theorem am_has5 : ∀ s, s < 32 → ∀ d, d < 10 → decide (nI s >>> (nI d &&& 31) &&& 1 = 1) = s.testBit d := by decide +kernel
theorem am_bit1 : ∀ s, s < 1024 → ∀ d, d < 10 → nI s >>> (nI d &&& 31) &&& 1 = am_bi (s.testBit d) := by decide +kernel
theorem am_shl1 : ∀ d, d < 11 → (1 : Int32) <<< (nI d &&& 31) = nI (2 ^ d) := by decide +kernel
theorem am_lt {a b : Nat} (ha : a < 65536) (hb : b < 65536) : nI a < nI b ↔ a < b := nI_ltI (by omega) (by omega)
theorem am_le {a b : Nat} (ha : a < 65536) (hb : b < 65536) : nI a ≤ nI b ↔ a ≤ b := nI_leI (by omega) (by omega)
theorem am_eq {a b : Nat} (ha : a < 65536) (hb : b < 65536) : nI a = nI b ↔ a = b := nI_eq (by omega) (by omega)
theorem am_cl {a : Nat} (ha : a < 65536) : (nI a).toNatClampNeg = a := nI_clamp (by omega)
theorem am_vin {i n : Nat} (h : i < n) (hn : n < 65536) : vp_in (nI i) n := vp_in_nI h (by omega)
theorem am_subin : ∀ a, a < 16 → ∀ b, b < 16 → ∀ r, r < 16 → decide (¬ (nI a - nI b < 1) ∧ ¬ (nI r < nI a - nI b)) = (decide (b < a) && decide (a ≤ b + r)) := by decide +kernel
theorem fa_and (a b : Nat) : nI a &&& nI b = nI (a &&& b) := by
  apply Int32.toBitVec_inj.1
  show BitVec.ofNat 32 a &&& BitVec.ofNat 32 b = BitVec.ofNat 32 (a &&& b)
  apply BitVec.eq_of_getLsbD_eq
  intro i hi
  simp [hi]
theorem fa_or (a b : Nat) : nI a ||| nI b = nI (a ||| b) := by
  apply Int32.toBitVec_inj.1
  show BitVec.ofNat 32 a ||| BitVec.ofNat 32 b = BitVec.ofNat 32 (a ||| b)
  apply BitVec.eq_of_getLsbD_eq
  intro i hi
  simp [hi]
theorem fb_xorI (a b : Nat) : nI a ^^^ nI b = nI (a ^^^ b) := by
  apply Int32.toBitVec_inj.1
  show BitVec.ofNat 32 a ^^^ BitVec.ofNat 32 b = BitVec.ofNat 32 (a ^^^ b)
  apply BitVec.eq_of_getLsbD_eq
  intro i hi
  simp [hi]
theorem fb_bit_set (n j i : Nat) : (n ||| 2 ^ j).testBit i = (n.testBit i || decide (i = j)) := by
  rw [Nat.testBit_or]
  by_cases h : j = i
  · subst h; simp
  · have h2 : ¬ i = j := fun e => h e.symm
    first | (simp [Nat.testBit_two_pow, h, h2]; done) | (simp [Nat.testBit_two_pow_of_ne h, h2]; done)
theorem fb_bit_flip (n j i : Nat) : (n ^^^ 2 ^ j).testBit i = (n.testBit i ^^ decide (i = j)) := by
  rw [Nat.testBit_xor]
  by_cases h : j = i
  · subst h; simp
  · have h2 : ¬ i = j := fun e => h e.symm
    first | (simp [Nat.testBit_two_pow, h, h2]; done) | (simp [Nat.testBit_two_pow_of_ne h, h2]; done)
theorem am_orlt {a b k : Nat} (ha : a < 2 ^ k) (hb : b < 2 ^ k) : a ||| b < 2 ^ k := Nat.or_lt_two_pow ha hb
theorem am_andlt {a b k : Nat} (ha : a < 2 ^ k) : a &&& b < 2 ^ k := Nat.lt_of_le_of_lt Nat.and_le_left ha
theorem am_p2 {a k : Nat} (h : a < k) : 2 ^ a < 2 ^ k := Nat.pow_lt_pow_right (by decide) h
/-- the same but for some cells -/
def am_eqx (L : List Nat) (iv iv' : am_I) : Prop := ∀ a, a ∉ L → iv' a = iv a
theorem am_eqx.rf (L : List Nat) (iv : am_I) : am_eqx L iv iv := fun _ _ => rfl
theorem am_eqx.tr {L : List Nat} {a b c : am_I} (h1 : am_eqx L a b) (h2 : am_eqx L b c) : am_eqx L a c := fun x hx => (h2 x hx).trans (h1 x hx)
theorem am_eqx.w {L : List Nat} {iv iv' : am_I} (h : am_eqx L iv iv') {a : Nat} (ha : a ∈ L) (k : Nat) (x : Int32) : am_eqx L iv (am_w iv' a k x) := fun b hb => (am_w_other iv' k x (fun e => hb (by rw [e]; exact ha))).trans (h b hb)
theorem am_eqx.up {L L' : List Nat} {iv iv' : am_I} (h : am_eqx L iv iv') (hL : ∀ a ∈ L, a ∈ L') : am_eqx L' iv iv' := fun a ha => h a (fun q => ha (hL a q))
