/-! small methods; layout -/
theorem vp_lit {i : Int32} {n : Nat} (h : ¬ (i < 0 ∨ n ≤ i.toNatClampNeg)) : vp_in i n := h
/-- 1 or 0 -/
def am_bi (b : Bool) : Int32 := if b then 1 else 0
theorem am_bi_n (b : Bool) : narrow .boolean (.int (am_bi b)) = .int (am_bi b) := by cases b <;> rfl
theorem am_bi_01 (b : Bool) : am_bi b = 0 ∨ am_bi b = 1 := by cases b <;> decide
theorem am_bi_t {b : Bool} (h : b = true) : am_bi b = 1 := by rw [h]; rfl
theorem am_bi_f {b : Bool} (h : b = false) : am_bi b = 0 := by rw [h]; rfl
section B14
variable {E : am_E} {d k n : Nat} {S : am_S} {iv : am_I} {Q : am_O → am_S → am_I → Prop}
theorem cJ9_max {x y : Int32} (h : Q (.inl (some (.int (if x < y then y else x)))) S iv) : am_M E d mJ9_max_7cf53 0 0 [.int x, .int y] S iv Q := by
  refine am_enterF (js := []) rfl (by decide +kernel) rfl rfl rfl (Nat.le_of_ble_eq_true rfl) ?_
  refine (sJ9_max_7cf53_0 (sJ9_max_7cf53_1 ?_))
  refine sJ9_max_7cf53_2 (fun e2 => ?_) (fun e2 => ?_)
  · refine (sJ9_max_7cf53_9 (sJ9_max_7cf53_10 ?_))
    simpa [*] using h
  · refine (sJ9_max_7cf53_5 (sJ9_max_7cf53_6 (sJ9_max_7cf53_10 ?_)))
    simpa [*] using h
theorem cJ9_min {x y : Int32} (h : Q (.inl (some (.int (if y < x then y else x)))) S iv) : am_M E d mJ9_min_7cf53 0 0 [.int x, .int y] S iv Q := by
  refine am_enterF (js := []) rfl (by decide +kernel) rfl rfl rfl (Nat.le_of_ble_eq_true rfl) ?_
  refine (sJ9_min_7cf53_0 (sJ9_min_7cf53_1 ?_))
  refine sJ9_min_7cf53_2 (fun e2 => ?_) (fun e2 => ?_)
  · refine (sJ9_min_7cf53_9 (sJ9_min_7cf53_10 ?_))
    simpa [*] using h
  · refine (sJ9_min_7cf53_5 (sJ9_min_7cf53_6 (sJ9_min_7cf53_10 ?_)))
    simpa [*] using h
theorem cJ9_abs {x : Int32} (h : Q (.inl (some (.int (if 0 ≤ x then x else -x)))) S iv) : am_M E d mJ9_abs_0f7a4 0 0 [.int x] S iv Q := by
  refine am_enterF (js := []) rfl (by decide +kernel) rfl rfl rfl (Nat.le_of_ble_eq_true rfl) ?_
  refine (sJ9_abs_0f7a4_0 ?_)
  refine sJ9_abs_0f7a4_1 (fun e1 => ?_) (fun e1 => ?_)
  · refine (sJ9_abs_0f7a4_9 (sJ9_abs_0f7a4_10 ?_))
    simpa [*] using h
  · refine (sJ9_abs_0f7a4_4 (sJ9_abs_0f7a4_5 (sJ9_abs_0f7a4_6 (sJ9_abs_0f7a4_10 ?_))))
    simpa [*] using h
theorem cX10_isIn {v a b : Int32} (h : Q (.inl (some (.int (am_bi (decide (a ≤ v ∧ v ≤ b)))))) S iv) : am_M E d mX10_isIn 0 0 [.int v, .int a, .int b] S iv Q := by
  refine am_enter (js := []) rfl (by decide +kernel) rfl rfl rfl (Nat.le_of_ble_eq_true rfl) ?_
  refine (sX10_isIn_0 (sX10_isIn_1 ?_))
  refine sX10_isIn_2 (fun e2 => ?_) (fun e2 => ?_)
  · refine (sX10_isIn_14 (sX10_isIn_15 rfl ?_))
    simpa [am_bi, *] using h
  · refine (sX10_isIn_5 (sX10_isIn_6 ?_))
    refine sX10_isIn_7 (fun e7 => ?_) (fun e7 => ?_)
    · refine (sX10_isIn_14 (sX10_isIn_15 rfl ?_))
      simpa [am_bi, *] using h
    · refine (sX10_isIn_10 (sX10_isIn_11 (sX10_isIn_15 ?_ ?_)))
      simpa [am_bi, *] using h
theorem cX10_has {v a : Int32} (h : Q (.inl (some (.int (am_bi (decide (v >>> (a &&& 31) &&& 1 = 1)))))) S iv) : am_M E d mX10_has 0 0 [.int v, .int a] S iv Q := by
  refine am_enter (js := []) rfl (by decide +kernel) rfl rfl rfl (Nat.le_of_ble_eq_true rfl) ?_
  refine (sX10_has_0 (sX10_has_1 (sX10_has_2 (sX10_has_3 (sX10_has_4 (sX10_has_5 ?_))))))
  refine sX10_has_6 (fun e6 => ?_) (fun e6 => ?_)
  · refine (sX10_has_13 (sX10_has_14 rfl ?_))
    simpa [am_bi, *] using h
  · refine (sX10_has_9 (sX10_has_10 (sX10_has_14 ?_ ?_)))
    simpa [am_bi, *] using h
theorem cX10_isLetter {v : Int32} (h : Q (.inl (some (.int (am_bi (decide (97 ≤ v ∧ v ≤ 122)))))) S iv) : am_M E d mX10_isLetter 0 0 [.int v] S iv Q := by
  refine am_enter (js := []) rfl (by decide +kernel) rfl rfl rfl (Nat.le_of_ble_eq_true rfl) ?_
  refine (sX10_isLetter_0 (sX10_isLetter_1 ?_))
  refine sX10_isLetter_3 (fun e3 => ?_) (fun e3 => ?_)
  · refine (sX10_isLetter_16 (sX10_isLetter_17 rfl ?_))
    simpa [am_bi, *] using h
  · refine (sX10_isLetter_6 (sX10_isLetter_7 ?_))
    refine sX10_isLetter_9 (fun e9 => ?_) (fun e9 => ?_)
    · refine (sX10_isLetter_16 (sX10_isLetter_17 rfl ?_))
      simpa [am_bi, *] using h
    · refine (sX10_isLetter_12 (sX10_isLetter_13 (sX10_isLetter_17 ?_ ?_)))
      simpa [am_bi, *] using h
theorem cX10_isDigit {v : Int32} (h : Q (.inl (some (.int (am_bi (decide (48 ≤ v ∧ v ≤ 57)))))) S iv) : am_M E d mX10_isDigit 0 0 [.int v] S iv Q := by
  refine am_enter (js := []) rfl (by decide +kernel) rfl rfl rfl (Nat.le_of_ble_eq_true rfl) ?_
  refine (sX10_isDigit_0 (sX10_isDigit_1 ?_))
  refine sX10_isDigit_3 (fun e3 => ?_) (fun e3 => ?_)
  · refine (sX10_isDigit_16 (sX10_isDigit_17 rfl ?_))
    simpa [am_bi, *] using h
  · refine (sX10_isDigit_6 (sX10_isDigit_7 ?_))
    refine sX10_isDigit_9 (fun e9 => ?_) (fun e9 => ?_)
    · refine (sX10_isDigit_16 (sX10_isDigit_17 rfl ?_))
      simpa [am_bi, *] using h
    · refine (sX10_isDigit_12 (sX10_isDigit_13 (sX10_isDigit_17 ?_ ?_)))
      simpa [am_bi, *] using h
end B14
