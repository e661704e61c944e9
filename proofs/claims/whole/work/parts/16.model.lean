/-! the model's methods that read: contracts -/
/-- the model's city, as its rows have it -/
def mo_C (iv : am_I) (c : Nat → Nat → Nat) : Prop :=
  (iv 58 0 = nI (c 0 4) ∧ iv 58 1 = nI (c 0 5) ∧ iv 58 2 = nI (cy_n c) ∧ iv 58 3 = nI (cy_p c) ∧ iv 58 4 = nI (cy_re c) ∧ iv 58 5 = nI (cy_r c) ∧ iv 58 6 = nI (c 0 6) ∧ iv 58 7 = nI (c 0 7) ∧ iv 58 8 = nI (c 0 8) ∧ iv 58 9 = nI (c 0 9)) ∧
  (∀ j, j < cy_n c → iv 59 j = nI (cy_kd c j) ∧ iv 60 j = nI (cy_co c j) ∧ iv 61 j = nI (cy_st c j) ∧ iv 62 j = nI (cy_le c j) ∧ iv 63 j = nI (cy_wi c j)) ∧
  (∀ p, p < cy_p c → iv 64 p = nI (cy_ho c p) ∧ iv 65 p = cy_shI c p ∧ iv 66 p = nI (cy_we c p))
/-- two drawers share a column -/
def cy_sha (c : Nat → Nat → Nat) (a b : Nat) : Bool := decide (cy_co c a ≤ cy_co c b + cy_wi c b) && decide (cy_co c b ≤ cy_co c a + cy_wi c a)
/-- a carrier k of d -/
def cy_car (c : Nat → Nat → Nat) (d k : Nat) : Bool := cy_sha c k d && (decide (cy_st c k < cy_st c d) && decide (cy_st c d ≤ cy_st c k + cy_re c))
def cy_any (f : Nat → Bool) : Nat → Bool
  | 0 => false
  | n + 1 => cy_any f n || f n
theorem cy_any_iff {f : Nat → Bool} : ∀ {n : Nat}, cy_any f n = true ↔ ∃ k, k < n ∧ f k = true
  | 0 => by simp [cy_any]
  | n + 1 => by
    simp only [cy_any, Bool.or_eq_true, cy_any_iff (n := n)]
    constructor
    · rintro (⟨k, h1, h2⟩ | h)
      · exact ⟨k, by omega, h2⟩
      · exact ⟨n, by omega, h⟩
    · rintro ⟨k, h1, h2⟩
      by_cases e : k = n
      · subst e; exact Or.inr h2
      · exact Or.inl ⟨k, by omega, h2⟩
theorem cy_any_false {f : Nat → Bool} {n : Nat} (h : ∀ k, k < n → f k = false) : cy_any f n = false := by
  cases e : cy_any f n with
  | false => rfl
  | true =>
    obtain ⟨k, h1, h2⟩ := cy_any_iff.mp e
    rw [h k h1] at h2
    cases h2
/-- d is reached, if car are out and reached -/
def cy_isR (c : Nat → Nat → Nat) (d car : Nat) : Bool := decide (cy_st c d < cy_re c) || cy_any (fun k => car.testBit k && cy_car c d k) (cy_n c)
section B16
variable {E : am_E} {d k n : Nat} {S : am_S} {iv : am_I} {Q : am_O → am_S → am_I → Prop} {c : Nat → Nat → Nat}
theorem M_isIn {v a b : Int32} (h : Q (.inl (some (.int (am_bi (decide (¬ v < a ∧ ¬ b < v)))))) S iv) : am_M E d mX10_isIn 0 0 [.int v, .int a, .int b] S iv Q := by
  refine am_enter (js := []) rfl pn_X10 rfl rfl rfl (Nat.le_of_ble_eq_true rfl) ?_
  refine (sX10_isIn_0 (sX10_isIn_1 ?_))
  refine sX10_isIn_2 (fun e2 => ?_) (fun e2 => ?_)
  · refine (sX10_isIn_14 (sX10_isIn_15 rfl ?_))
    simpa [am_bi, *] using h
  · refine (sX10_isIn_5 (sX10_isIn_6 ?_))
    refine sX10_isIn_7 (fun e7 => ?_) (fun e7 => ?_)
    · refine (sX10_isIn_14 (sX10_isIn_15 rfl ?_))
      simpa [am_bi, *] using h
    · refine (sX10_isIn_10 (sX10_isIn_11 (sX10_isIn_15 rfl ?_)))
      simpa [am_bi, *] using h
theorem M_has {v a : Int32} (h : Q (.inl (some (.int (am_bi (decide (v >>> (a &&& 31) &&& 1 = 1)))))) S iv) : am_M E d mX10_has 0 0 [.int v, .int a] S iv Q := by
  refine am_enter (js := []) rfl pn_X10 rfl rfl rfl (Nat.le_of_ble_eq_true rfl) ?_
  refine (sX10_has_0 (sX10_has_1 (sX10_has_2 (sX10_has_3 (sX10_has_4 (sX10_has_5 ?_))))))
  refine sX10_has_6 (fun e6 => ?_) (fun e6 => ?_)
  · refine (sX10_has_13 (sX10_has_14 rfl ?_))
    simpa [am_bi, *] using h
  · refine (sX10_has_9 (sX10_has_10 (sX10_has_14 rfl ?_)))
    simpa [am_bi, *] using h
theorem M_shares (hL : am_Lay S) (hC : mo_C iv c) (hc : cy_ok c) {a b : Nat} (ha : a < cy_n c) (hb : b < cy_n c) (h : Q (.inl (some (.int (am_bi (cy_sha c a b))))) S iv) : am_M E d mX10_shares 0 0 [.ref 54, .int (nI a), .int (nI b)] S iv Q := by
  have hn := hc.1
  have ga := hc.2.2.2.2.2.2.2.1 a ha
  have gb := hc.2.2.2.2.2.2.2.1 b hb
  have h4 := hc.2.2.2.2.1.2
  obtain ⟨a1, a2, a3, a4, a5⟩ := hC.2.1 a ha
  obtain ⟨b1, b2, b3, b4, b5⟩ := hC.2.1 b hb
  have ea : (nI a).toNatClampNeg = a := am_cl (by omega)
  have eb : (nI b).toNatClampNeg = b := am_cl (by omega)
  refine am_enter (js := []) rfl pn_X10 rfl rfl rfl (Nat.le_of_ble_eq_true rfl) ?_
  refine (sX10_shares_0 rfl (sX10_shares_1 (hL.1 _ _ rfl) (hL.2.1 _ _ _ rfl) (sX10_shares_4 (sX10_shares_5 (hL.1 _ _ rfl) (am_vin (by omega) (by omega)) (sX10_shares_6 rfl (sX10_shares_7 (hL.1 _ _ rfl) (hL.2.1 _ _ _ rfl) (sX10_shares_10 (sX10_shares_11 (hL.1 _ _ rfl) (am_vin (by omega) (by omega)) (sX10_shares_12 rfl (sX10_shares_13 (hL.1 _ _ rfl) (hL.2.1 _ _ _ rfl) (sX10_shares_16 (sX10_shares_17 (hL.1 _ _ rfl) (am_vin (by omega) (by omega)) (sX10_shares_18 ?_)))))))))))))
  simp only [ea, eb, a2, a5, b2, b5, nI_add]
  refine sX10_shares_19 (fun e => ?_) (fun e => ?_)
  · rw [am_lt (by omega) (by omega)] at e
    refine (sX10_shares_48 (sX10_shares_49 rfl ?_))
    have e2 : cy_sha c a b = false := by simp only [cy_sha, Bool.and_eq_false_iff, decide_eq_false_iff_not]; omega
    rw [e2] at h
    exact h
  · rw [am_lt (by omega) (by omega)] at e
    refine (sX10_shares_22 rfl (sX10_shares_23 (hL.1 _ _ rfl) (hL.2.1 _ _ _ rfl) (sX10_shares_26 (sX10_shares_27 (hL.1 _ _ rfl) (am_vin (by omega) (by omega)) (sX10_shares_28 rfl (sX10_shares_29 (hL.1 _ _ rfl) (hL.2.1 _ _ _ rfl) (sX10_shares_32 (sX10_shares_33 (hL.1 _ _ rfl) (am_vin (by omega) (by omega)) (sX10_shares_34 rfl (sX10_shares_35 (hL.1 _ _ rfl) (hL.2.1 _ _ _ rfl) (sX10_shares_38 (sX10_shares_39 (hL.1 _ _ rfl) (am_vin (by omega) (by omega)) (sX10_shares_40 ?_)))))))))))))
    simp only [ea, eb, a2, a5, b2, b5, nI_add]
    refine sX10_shares_41 (fun e3 => ?_) (fun e3 => ?_)
    · rw [am_lt (by omega) (by omega)] at e3
      refine (sX10_shares_48 (sX10_shares_49 rfl ?_))
      have e2 : cy_sha c a b = false := by simp only [cy_sha, Bool.and_eq_false_iff, decide_eq_false_iff_not]; omega
      rw [e2] at h
      exact h
    · rw [am_lt (by omega) (by omega)] at e3
      refine (sX10_shares_44 (sX10_shares_45 (sX10_shares_49 rfl ?_)))
      have e2 : cy_sha c a b = true := by simp only [cy_sha, Bool.and_eq_true, decide_eq_true_eq]; omega
      rw [e2] at h
      exact h
theorem M_isReachedBy (hL : am_Lay S) (hC : mo_C iv c) (hc : cy_ok c) {a s : Nat} (ha : a < cy_n c) (hs : s < 1024) (h : Q (.inl (some (.int (am_bi (cy_isR c a s))))) S iv) : am_M E (d + 1) mX10_isReachedBy 0 0 [.ref 54, .int (nI a), .int (nI s)] S iv Q := by
  have hn := hc.1
  have ga := hc.2.2.2.2.2.2.2.1 a ha
  have h5 := hc.2.2.2.2.2.1.2
  have hre := hc.2.1
  have ea : (nI a).toNatClampNeg = a := am_cl (by omega)
  have a3 := (hC.2.1 a ha).2.2.1
  have r4 := hC.1.2.2.2.2.1
  have r2 := hC.1.2.2.1
  have l2 : (2 : Int32).toNatClampNeg = 2 := by decide
  have l4 : (4 : Int32).toNatClampNeg = 4 := by decide
  refine am_enter (js := [.double 0]) rfl pn_X10 rfl rfl rfl (Nat.le_of_ble_eq_true rfl) ?_
  refine (sX10_isReachedBy_0 rfl (sX10_isReachedBy_1 (hL.1 _ _ rfl) (hL.2.1 _ _ _ rfl) (sX10_isReachedBy_4 (sX10_isReachedBy_5 (hL.1 _ _ rfl) (am_vin (by omega) (by omega)) (sX10_isReachedBy_6 rfl (sX10_isReachedBy_7 (hL.1 _ _ rfl) (hL.2.1 _ _ _ rfl) (sX10_isReachedBy_10 (sX10_isReachedBy_11 (hL.1 _ _ rfl) (vp_lit (by decide)) ?_))))))))
  simp only [ea, a3, l4, r4]
  refine sX10_isReachedBy_12 (fun e => ?_) (fun e => ?_)
  · rw [am_le (by omega) (by omega)] at e
    refine (sX10_isReachedBy_17 (sX10_isReachedBy_18 ?_))
    have loop : ∀ r i, i + r = cy_n c → (∀ q, q < i → (s.testBit q && cy_car c a q) = false) → am_R E (d + 1) mX10_isReachedBy 0 0 19 [.ref 54, .int (nI a), .int (nI s), .int (nI i)] [] S iv Q := by
      intro r
      induction r with
      | zero =>
        intro i hi hno
        refine (sX10_isReachedBy_19 (sX10_isReachedBy_20 rfl (sX10_isReachedBy_21 (hL.1 _ _ rfl) (hL.2.1 _ _ _ rfl) (sX10_isReachedBy_24 (sX10_isReachedBy_25 (hL.1 _ _ rfl) (vp_lit (by decide)) ?_)))))
        simp only [l2, r2]
        refine sX10_isReachedBy_26 (fun e2 => ?_) (fun e2 => ?_)
        · refine (sX10_isReachedBy_80 (sX10_isReachedBy_81 rfl ?_))
          have e3 : cy_isR c a s = false := by
            simp only [cy_isR, Bool.or_eq_false_iff, decide_eq_false_iff_not]
            exact ⟨by omega, cy_any_false (fun q hq => hno q (by omega))⟩
          rw [e3] at h
          exact h
        · rw [am_le (by omega) (by omega)] at e2
          omega
      | succ r ih =>
        intro i hi hno
        have gi := hc.2.2.2.2.2.2.2.1 i (by omega)
        have ei : (nI i).toNatClampNeg = i := am_cl (by omega)
        have i3 := (hC.2.1 i (by omega)).2.2.1
        have next : (s.testBit i && cy_car c a i) = false → am_R E (d + 1) mX10_isReachedBy 0 0 74 [.ref 54, .int (nI a), .int (nI s), .int (nI i)] [] S iv Q := by
          intro hi2
          refine (sX10_isReachedBy_74 (sX10_isReachedBy_77 ?_))
          rw [nI_1]
          exact ih (i + 1) (by omega) (fun q hq => by
            by_cases e9 : q = i
            · rw [e9]; exact hi2
            · exact hno q (by omega))
        refine (sX10_isReachedBy_19 (sX10_isReachedBy_20 rfl (sX10_isReachedBy_21 (hL.1 _ _ rfl) (hL.2.1 _ _ _ rfl) (sX10_isReachedBy_24 (sX10_isReachedBy_25 (hL.1 _ _ rfl) (vp_lit (by decide)) ?_)))))
        simp only [l2, r2]
        refine sX10_isReachedBy_26 (fun e2 => ?_) (fun e2 => ?_)
        · rw [am_le (by omega) (by omega)] at e2
          omega
        · refine (sX10_isReachedBy_29 (sX10_isReachedBy_30 (sX10_isReachedBy_31 (Nat.le_of_ble_eq_true rfl) (M_has ?_))))
          rw [am_has s hs i (by omega)]
          refine sX10_isReachedBy_34 (fun e3 => ?_) (fun e3 => ?_)
          · rw [am_bi_eq0] at e3
            exact next (by rw [e3]; rfl)
          · rw [am_bi_ne0] at e3
            refine (sX10_isReachedBy_37 rfl (sX10_isReachedBy_38 (sX10_isReachedBy_39 (sX10_isReachedBy_40 (hL.1 _ _ rfl) (Nat.le_of_ble_eq_true rfl) (M_shares hL hC hc (by omega) (by omega) ?_)))))
            refine sX10_isReachedBy_43 (fun e4 => ?_) (fun e4 => ?_)
            · rw [am_bi_eq0] at e4
              exact next (by simp [cy_car, e4])
            · rw [am_bi_ne0] at e4
              refine (sX10_isReachedBy_46 rfl (sX10_isReachedBy_47 (hL.1 _ _ rfl) (hL.2.1 _ _ _ rfl) (sX10_isReachedBy_50 (sX10_isReachedBy_51 (hL.1 _ _ rfl) (am_vin (by omega) (by omega)) (sX10_isReachedBy_52 rfl (sX10_isReachedBy_53 (hL.1 _ _ rfl) (hL.2.1 _ _ _ rfl) (sX10_isReachedBy_56 (sX10_isReachedBy_57 (hL.1 _ _ rfl) (am_vin (by omega) (by omega)) (sX10_isReachedBy_58 (sX10_isReachedBy_59 (sX10_isReachedBy_60 rfl (sX10_isReachedBy_61 (hL.1 _ _ rfl) (hL.2.1 _ _ _ rfl) (sX10_isReachedBy_64 (sX10_isReachedBy_65 (hL.1 _ _ rfl) (vp_lit (by decide)) (sX10_isReachedBy_66 (Nat.le_of_ble_eq_true rfl) (M_isIn ?_))))))))))))))))
              simp only [ea, ei, a3, i3, l4, r4]
              sorry
    exact loop (cy_n c) 0 (by omega) (fun q hq => absurd hq (Nat.not_lt_zero _))
  · rw [am_le (by omega) (by omega)] at e
    refine (sX10_isReachedBy_15 (sX10_isReachedBy_16 rfl ?_))
    have e3 : cy_isR c a s = true := by
      simp only [cy_isR, Bool.or_eq_true, decide_eq_true_eq]
      exact Or.inl (by omega)
    rw [e3] at h
    exact h
end B16
