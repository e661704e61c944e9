/-! a drawer, a person, a set: whether there is such a one -/
def xin (x : Int32) (n : Nat) : Bool := decide (¬ x < 0 ∧ ¬ nI n ≤ x)
theorem xin_t {x : Int32} {n : Nat} (hn : n < 65536) (h : xin x n = true) : ∃ d, d < n ∧ x = nI d := by
  obtain ⟨h1, h2⟩ := of_decide_eq_true h
  obtain ⟨j, h3, rfl⟩ := nI_of h1
  rw [nI_leI (by omega) h3] at h2
  exact ⟨j, by omega, rfl⟩
theorem xin_i {d n : Nat} (hd : d < n) (hn : n < 65536) : xin (nI d) n = true := decide_eq_true ⟨nI_pos (by omega), nI_ge hd (by omega)⟩
section B51
variable {w pp np : Nat} {iv iv' : am_I} {c : Nat → Nat → Nat} {ρ : ru_T}
theorem P_isIn0 {x : Int32} {n : Nat} (hn : n < 65536) : F_X10_isIn x 0 (nI n - 1) iv = some (am_bi (xin x n)) := by
  unfold F_X10_isIn
  by_cases h1 : x < 0
  · rw [if_pos h1, show xin x n = false by simp [xin, h1]]; rfl
  · rw [if_neg h1]
    obtain ⟨j, h3, rfl⟩ := nI_of h1
    by_cases h0 : n = 0
    · subst h0
      rw [if_pos (by
        rw [Int32.lt_iff_toInt_lt, nI_toInt h3, show (nI 0 - 1 : Int32).toInt = -1 by decide]; omega)]
      rw [show xin (nI j) 0 = false by
        rw [xin, decide_eq_false_iff_not]
        intro q
        exact q.2 (nI_le (Nat.zero_le _) h3)]
      rfl
    · rw [nI_s1 (by omega)]
      by_cases h4 : j < n
      · rw [if_neg (nI_nlt (by omega) (by omega)), xin_i h4 hn]; rfl
      · rw [if_pos (nI_lt (by omega) h3)]
        rw [show xin (nI j) n = false by
          rw [xin, decide_eq_false_iff_not]
          intro q
          exact q.2 (nI_le (by omega) h3)]
        rfl
theorem P_isDrawer (hC : mo_C iv c) (hc : cy_ok c) {x : Int32} : F_X10_isDrawer x iv = some (am_bi (xin x (cy_n c))) := by
  have hn := hc.1
  unfold F_X10_isDrawer
  rw [cl2, hC.1.2.2.1, P_isIn0 (by omega), am_o1_s, if01]
theorem P_isPerson (hC : mo_C iv c) (hc : cy_ok c) {x : Int32} : F_X10_isPerson x iv = some (am_bi (xin x (cy_p c))) := by
  have hn := hc.2.2.1
  unfold F_X10_isPerson
  rw [cl3, hC.1.2.2.2.1, P_isIn0 (by omega), am_o1_s, if01]
theorem P_isSet (hC : mo_C iv c) (hc : cy_ok c) {x : Int32} : F_X10_isSet x iv = some (am_bi (xin x (2 ^ cy_n c))) := by
  have hn := hc.1
  have h10 := cy_p10 hn
  unfold F_X10_isSet
  rw [cl2, hC.1.2.2.1, am_shl1 _ (by omega), P_isIn0 (by omega), am_o1_s, if01]
theorem K_isDrawer (hC : cl_C w iv c) {x : Int32} : F_X9_isDrawer w x iv = some (am_bi (xin x (cy_n c))) := by
  unfold F_X9_isDrawer
  rw [hC.1.2.2.2.1]
  by_cases h1 : x < 0
  · simp [h1, xin, am_bi]
  · by_cases h2 : nI (cy_n c) ≤ x <;> simp [h1, h2, xin, am_bi]
theorem K_demandDrawer (hC : cl_C w iv c) {x : Int32} : F_X9_demandDrawer w x iv = some (if xin x (cy_n c) then some () else none) := by
  unfold F_X9_demandDrawer
  rw [K_isDrawer hC, am_o1_s, ifb]
  cases xin x (cy_n c) <;> rfl
theorem K_demandPerson (hC : cl_C w iv c) {x : Int32} : F_X9_demandPerson w x iv = some (if xin x (cy_p c) then some () else none) := by
  unfold F_X9_demandPerson
  rw [hC.1.2.2.2.2.1]
  by_cases h1 : x < 0
  · simp [h1, xin]
  · by_cases h2 : nI (cy_p c) ≤ x
    · have : ¬ x < nI (cy_p c) := Int32.not_lt.mpr h2
      simp [h1, h2, this, xin]
    · have : x < nI (cy_p c) := Int32.not_le.mp h2
      simp [h1, h2, this, xin]
theorem set_in {x : Int32} {n : Nat} (hn : n ≤ 10) : (x &&& (nI (2 ^ n - 1) ^^^ (-1 : Int32)) = 0) ↔ xin x (2 ^ n) = true := by
  have h10 := cy_p10 hn
  constructor
  · intro h
    have hb : ∀ i, i ≥ n → x.toBitVec.toNat.testBit i = false := by
      intro i hi
      by_cases h32 : i < 32
      · have h1 := congrArg (fun y : Int32 => y.toBitVec.getLsbD i) h
        have h2 : (x &&& (nI (2 ^ n - 1) ^^^ (-1 : Int32))).toBitVec = x.toBitVec &&& ((nI (2 ^ n - 1)).toBitVec ^^^ (-1 : Int32).toBitVec) := rfl
        simp only [h2, BitVec.getLsbD_and, BitVec.getLsbD_xor, nI_bit h32, m1_bit i h32, Nat.testBit_two_pow_sub_one] at h1
        have h3 : decide (i < n) = false := by simp; omega
        rw [h3] at h1
        simpa [BitVec.getLsbD] using h1
      · exact Nat.testBit_lt_two_pow (Nat.lt_of_lt_of_le x.toBitVec.isLt (Nat.pow_le_pow_right (by decide) (by omega)))
    have hlt : x.toBitVec.toNat < 2 ^ n := Nat.lt_pow_two_of_testBit _ hb
    have hx : x = nI x.toBitVec.toNat := by
      apply Int32.toBitVec_inj.1
      rw [nI_toBV, BitVec.ofNat_toNat]
      simp
    rw [hx]
    exact xin_i hlt (by omega)
  · intro h
    obtain ⟨s, h1, rfl⟩ := xin_t (by omega) h
    rw [nI_andn, an_mask, Nat.div_eq_of_lt h1, Nat.zero_mul]
    rfl
theorem K_demandSet (hC : cl_C w iv c) (hc : cy_ok c) {x : Int32} : F_X9_demandSet w x iv = some (if xin x (2 ^ cy_n c) then some () else none) := by
  have hn := hc.1
  have h10 := cy_p10 hn
  have h1 : 1 ≤ 2 ^ cy_n c := Nat.one_le_two_pow
  unfold F_X9_demandSet F_X2_all
  rw [hC.1.2.2.2.1, am_shl1 _ (by omega), nI_s1 h1, am_o1_s]
  have hs := set_in (x := x) hn
  by_cases h : xin x (2 ^ cy_n c) = true
  · rw [if_pos (hs.mpr h), h]; rfl
  · rw [if_neg (fun q => h (hs.mp q)), if_neg h]
theorem P_fail : F_X10_fail 1 iv = some (0, am_w iv 54 3 1) := rfl
theorem am_codes (x y : Int32) : am_w (am_w iv 54 3 x) 54 3 y = am_w iv 54 3 y := by
  funext a j
  rw [am_w_r, am_w_r, am_w_r]
  by_cases h : a = 54 <;> by_cases h2 : j = 3 <;> simp [h, h2]
end B51
