/-! behind a refused text the old city stands -/
section B89f
variable {iv iv' : am_I} {c : Nat → Nat → Nat} {ρ : ru_T}
/-- the first halves are as they were -/
def fh (iv iv' : am_I) : Prop := ∀ a k, (58 ≤ a ∧ a ≤ 63 ∧ k < 10 ∨ 64 ≤ a ∧ a ≤ 66 ∧ k < 5 ∨ 67 ≤ a ∧ a ≤ 68 ∧ k < 4 ∨ a = 69 ∧ k < 700) → iv' a k = iv a k
theorem fh.C (h : mo_C iv c) (hok : cy_ok c) (e : fh iv iv') : mo_C iv' c := by
  obtain ⟨h1, h2, h3⟩ := h
  have hn := hok.1
  have hp := hok.2.2.1
  refine ⟨?_, fun j hj => ?_, fun p hp' => ?_⟩
  · rw [e _ _ (by omega), e _ _ (by omega), e _ _ (by omega), e _ _ (by omega), e _ _ (by omega), e _ _ (by omega), e _ _ (by omega), e _ _ (by omega), e _ _ (by omega), e _ _ (by omega)]
    exact h1
  · rw [e _ _ (by omega), e _ _ (by omega), e _ _ (by omega), e _ _ (by omega), e _ _ (by omega)]
    exact h2 j hj
  · rw [e _ _ (by omega), e _ _ (by omega), e _ _ (by omega)]
    exact h3 p hp'
theorem fh.R (h : mo_R iv ρ (cy_r c)) (hok : cy_ok c) (hr : ru_ok ρ (cy_r c)) (e : fh iv iv') : mo_R iv' ρ (cy_r c) := by
  have hr4 := hok.2.2.2.1
  have hL := hr.2.1
  refine ⟨fun r hr' => ?_, fun k hk => ?_⟩
  · rw [e _ _ (by omega), e _ _ (by omega)]; exact h.1 r hr'
  · rw [e _ _ (by omega)]; exact h.2 k hk
theorem fh.RM (h : RM iv c ρ) (e : fh iv iv') : RM iv' c ρ := ⟨h.1, h.2.1, fh.C h.2.2.1 h.1 e, fh.R h.2.2.2 h.1 h.2.1 e⟩
/-- what S_city says of the cells gives the first halves -/
theorem fh.of {M : am_I} (h : ∀ a k, ¬ hs a k → ¬ (a = 54 ∧ (k = 3 ∨ k = 18 ∨ k = 20 ∨ k = 27)) → M a k = iv a k) {x y : Int32} : fh iv (am_w (am_w M 54 27 x) 70 0 y) := fun a k q => by
  rw [am_w_other _ _ _ (by omega), am_w_other _ _ _ (by omega)]
  exact h a k (by unfold hs; omega) (by omega)
end B89f
