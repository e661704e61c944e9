/-! the law's contract, and the claim -/
theorem IP0 : IP am_S00 am_I00 0 [] [] := ⟨rfl, fun a ha => absurd ha (Nat.not_lt_zero _), fun _ _ => rfl, fun _ _ => rfl, fun q hq => (by cases hq), fun q hq => (by cases hq)⟩
theorem am_law : am_Law := by
  intro E hL
  refine am_R.deep (d := 902) ?_ (by omega)
  refine am_R.less (k := 6232 + 1) (n := 3478156 + 11) ?_ (by omega) (by omega)
  have hP0 := IP0
  generalize am_S00 = S0 at hP0 ⊢
  generalize am_I00 = iv0 at hP0 ⊢
  refine sL_law_0 (k := 6232) (n := 3478156) ?_
  have hP1 := hP0.new (t := .inl 9) (m' := 1) rfl rfl
  rw [hP0.1]
  generalize am_new S0 (.inl 9) = S1 at hP1 ⊢
  generalize am_0 S0 iv0 = iv1 at hP1 ⊢
  refine sL_law_3 rfl (sL_law_4 (k' := 53) (k := 6179) (n' := 4996) (n := 3473160) (Nat.le_of_ble_eq_true rfl) (N_X9_init_0 (d := 898) hP1 (fun S2 iv2 hP2 => ⟨rfl, ?_⟩)))
  refine sL_law_7 rfl (sL_law_8 (k := 6178) (n := 3473103) ?_)
  have hP3 := hP2.new (t := .inl 10) (m' := 55) rfl rfl
  rw [hP2.1]
  generalize am_new S2 (.inl 10) = S3 at hP3 ⊢
  generalize am_0 S2 iv2 = iv3 at hP3 ⊢
  refine sL_law_11 rfl (sL_law_12 (k' := 33) (k := 6145) (n' := 167630) (n := 3305473) (Nat.le_of_ble_eq_true rfl) (N_X10_init_54 (d := 900) hP3 (fun S4 iv4 hP4 => ⟨rfl, ?_⟩)))
  refine sL_law_15 rfl (sL_law_16 (sL_law_17 (k := 6144) (n := 3305472) (m := 1) (by decide) (by decide) (by decide) ?_))
  have hP5 := hP4.new (t := .inr (.long, 1)) (m' := 89) rfl rfl
  rw [hP4.1]
  generalize am_new S4 (.inr (.long, 1)) = S5 at hP5 ⊢
  generalize am_0 S4 iv4 = iv5 at hP5 ⊢
  refine sL_law_19 rfl (sL_law_20 (sL_law_21 ?_))
  exact law_loop hL 512 0 0 (by omega) (by omega) S5 iv5 _ _ (IP.IV hP5)
theorem i_vc : Claimed_1_1 ∧ Claimed_1_2 := i_vc_open am_law
