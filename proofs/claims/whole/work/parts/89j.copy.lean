/-! the spare city becomes a copy -/
theorem am_cp_r (iv : am_I) (a0 a x b j : Nat) : am_cp iv a0 a (0 : Int32).toNatClampNeg (0 : Int32).toNatClampNeg x b j = if b = a then (if j < x then iv a0 j else iv a j) else iv b j := by
  unfold am_cp
  by_cases e : b = a
  · rw [if_pos e, if_pos e]; simp [va_cpy, cl0]
  · rw [if_neg e, if_neg e]
section B89j
variable {w v : Nat} {iv : am_I} {c : Nat → Nat → Nat} {ρ : ru_T}
theorem K_copyFrom (hwv : w = 2 ∧ v = 22 ∨ w = 22 ∧ v = 2) (hC : cl_C v iv c) (hok : cy_ok c) (hR : cl_R v iv ρ (cy_r c)) (hr : ru_ok ρ (cy_r c)) : ∃ iv', F_X0_copyFrom w v iv = some iv' ∧ cl_C w iv' c ∧ cl_R w iv' ρ (cy_r c) := by
  have hL := hr.2.1
  have hn := hok.1
  have hp := hok.2.2.1
  have hr4 := hok.2.2.2.1
  obtain ⟨h1, h2, h3⟩ := hC
  obtain ⟨r1, r2, r3⟩ := hR
  unfold F_X0_copyFrom F_X2_copyFrom F_X4_copyFrom F_X5_copyFrom
  rw [am_o1_s, am_o1_s]
  have c10 : (10 : Int32).toNatClampNeg = 10 := by decide
  have c5 : (5 : Int32).toNatClampNeg = 5 := by decide
  rcases hwv with ⟨rfl, rfl⟩ | ⟨rfl, rfl⟩
  · simp only [am_w_r, am_cp_r, c10, c5, r2]
    simp only [Nat.reduceAdd, Nat.reduceEqDiff, if_true, if_false, reduceCtorEq, r2, am_cl (show ρ.1 (cy_r c) < 65536 by omega)]
    rw [if_pos ⟨nI_pos (by omega), by rw [cl0]; omega, by rw [cl0]; omega⟩, am_o1_s]
    refine ⟨_, rfl, ⟨?_, fun j hj => ?_, fun p hp' => ?_⟩, fun r hr' => ?_, ?_, fun k hk => ?_⟩
    · simp only [am_w_r, am_cp_r]; simpa using h1
    · simp only [am_w_r, am_cp_r]; simp [show j < 10 by omega]; exact h2 j hj
    · simp only [am_w_r, am_cp_r]; simp [show p < 5 by omega]; exact h3 p hp'
    · simp only [am_w_r, am_cp_r]; simp [show r < 5 by omega]; exact r1 r hr'
    · simp only [am_w_r, am_cp_r]; simp <;> exact r2
    · simp only [am_w_r, am_cp_r]; simp [hk]; exact r3 k hk
  · simp only [am_w_r, am_cp_r, c10, c5, r2]
    simp only [Nat.reduceAdd, Nat.reduceEqDiff, if_true, if_false, reduceCtorEq, r2, am_cl (show ρ.1 (cy_r c) < 65536 by omega)]
    rw [if_pos ⟨nI_pos (by omega), by rw [cl0]; omega, by rw [cl0]; omega⟩, am_o1_s]
    refine ⟨_, rfl, ⟨?_, fun j hj => ?_, fun p hp' => ?_⟩, fun r hr' => ?_, ?_, fun k hk => ?_⟩
    · simp only [am_w_r, am_cp_r]; simpa using h1
    · simp only [am_w_r, am_cp_r]; simp [show j < 10 by omega]; exact h2 j hj
    · simp only [am_w_r, am_cp_r]; simp [show p < 5 by omega]; exact h3 p hp'
    · simp only [am_w_r, am_cp_r]; simp [show r < 5 by omega]; exact r1 r hr'
    · simp only [am_w_r, am_cp_r]; simp <;> exact r2
    · simp only [am_w_r, am_cp_r]; simp [hk]; exact r3 k hk
end B89j
