/-! the city in which two homes are married -/
def cy_mar (c : Nat → Nat → Nat) (a b : Nat) : Nat → Nat → Nat := fun x y => if x = 2 ∧ y = a then (if cy_co c b < cy_co c a then cy_co c b else cy_co c a) else if x = 5 ∧ y = a then 1 else if x = 4 ∧ y = a then (if cy_le c a < cy_le c b then cy_le c b else cy_le c a) else if x = 6 then (if c 6 y = b then a else c 6 y) else c x y
section B89h
variable {w : Nat} {iv : am_I} {c : Nat → Nat → Nat} {a b : Nat} {ρ : ru_T}
theorem mar_o {x y : Nat} (h : x ≠ 6) (hy : ¬ (y = a ∧ (x = 2 ∨ x = 4 ∨ x = 5))) : cy_mar c a b x y = c x y := by
  unfold cy_mar; rw [if_neg (by omega), if_neg (by omega), if_neg (by omega), if_neg h]
theorem mar_a : cy_mar c a b 2 a = (if cy_co c b < cy_co c a then cy_co c b else cy_co c a) ∧ cy_mar c a b 5 a = 1 ∧ cy_mar c a b 4 a = (if cy_le c a < cy_le c b then cy_le c b else cy_le c a) := by
  unfold cy_mar; simp
theorem mar_6 {y : Nat} : cy_mar c a b 6 y = if c 6 y = b then a else c 6 y := by
  unfold cy_mar; rw [if_neg (by omega), if_neg (by omega), if_neg (by omega), if_pos rfl]
theorem mry_i (h : cy_mry c a b = true) : cy_kd c a = 0 ∧ cy_kd c b = 0 ∧ cy_wi c a = 0 ∧ cy_wi c b = 0 ∧ cy_st c a = cy_st c b ∧ (cy_co c a + 1 = cy_co c b ∨ cy_co c b + 1 = cy_co c a) := by
  unfold cy_mry at h
  simpa using h
theorem mar_ok (hok : cy_ok c) (ha : a < cy_n c) (hb : b < cy_n c) (hm : cy_mry c a b = true) : cy_ok (cy_mar c a b) := by
  obtain ⟨a1, a2, a3, a4, a5, a6, a7, a8, a9⟩ := hok
  obtain ⟨m1, m2, m3, m4, m5, m6⟩ := mry_i hm
  obtain ⟨u1, u2, u3⟩ := mar_a (c := c) (a := a) (b := b)
  have z0 : ∀ y, cy_mar c a b 0 y = c 0 y := fun y => mar_o (by decide) (by omega)
  have z1 : ∀ y, cy_mar c a b 1 y = c 1 y := fun y => mar_o (by decide) (by omega)
  have z3 : ∀ y, cy_mar c a b 3 y = c 3 y := fun y => mar_o (by decide) (by omega)
  have z7 : ∀ y, cy_mar c a b 7 y = c 7 y := fun y => mar_o (by decide) (by omega)
  have z8 : ∀ y, cy_mar c a b 8 y = c 8 y := fun y => mar_o (by decide) (by omega)
  obtain ⟨d1, d2, d3, d4, d5, d6⟩ := a8 a ha
  obtain ⟨e1, e2, e3, e4, e5, e6⟩ := a8 b hb
  unfold cy_ok
  simp only [cy_n, cy_re, cy_p, cy_r, cy_kd, cy_co, cy_st, cy_le, cy_wi, cy_ho, cy_sh, cy_we, z0, z1, z3, z7, z8] at *
  refine ⟨a1, a2, a3, a4, a5, a6, a7, fun j hj => ?_, fun p hp => ?_⟩
  · by_cases e : j = a
    · subst e
      rw [u1, u2, u3]
      refine ⟨d1, ?_, d3, ?_, ?_, by omega⟩
      · by_cases q : c 2 b < c 2 j
        · rw [if_pos q]; omega
        · rw [if_neg q]; omega
      · by_cases q : c 4 j < c 4 b
        · rw [if_pos q]; omega
        · rw [if_neg q]; omega
      · by_cases q : c 4 j < c 4 b
        · rw [if_pos q]; omega
        · rw [if_neg q]; omega
    · rw [mar_o (by decide) (by omega), mar_o (by decide) (by omega), mar_o (by decide) (by omega)]
      exact a8 j hj
  · obtain ⟨f1, f2, f3, f4, f5⟩ := a9 p hp
    rw [mar_6]
    by_cases q : c 6 p = b
    · rw [if_pos q]; exact ⟨ha, m1, f3, f4, f5⟩
    · rw [if_neg q]; exact ⟨f1, f2, f3, f4, f5⟩
end B89h
