/-! calls that only look: fault, count, drawer, person, may, broken, rent, row -/
def ob {α : Type} (b : Bool) (x : α) : Option α := if b then some x else none
section B52
variable {w pp np : Nat} {iv iv' : am_I} {c : Nat → Nat → Nat} {ρ : ru_T}
def ci_of (x : Int32) (k : Nat) : Prop := 0 ≤ x.toInt ∧ x.toInt ≤ k
theorem ci_n {x : Int32} {k : Nat} (h : ¬ (x.toInt < 0 ∨ (k : Int) < x.toInt)) (hk : k < 65536) : ∃ j, j ≤ k ∧ x = nI j := by
  have h1 : ¬ x < 0 := by rw [Int32.lt_iff_toInt_lt]; rw [show (0 : Int32).toInt = 0 by decide]; omega
  obtain ⟨j, h3, rfl⟩ := nI_of h1
  rw [nI_toInt h3] at h
  exact ⟨j, by omega, rfl⟩
theorem C_fault (h : Rel w pp np iv c ρ) (hw : w = 2 ∨ w = 22) (hp : 51 ≤ pp ∧ (pp < 54 ∨ 89 ≤ pp)) : ∃ v iv2, F_X9_fault w iv = some v ∧ F_X10_fault iv = some (v, iv2) ∧ Rel w pp np iv2 c ρ := by
  refine ⟨iv 0 2, _, rfl, ?_, h.code hw hp 0⟩
  unfold F_X10_fault
  rw [am_code1 _ (by decide), ← h.2.2.2.2.2.1]
theorem C_count (h : Rel w pp np iv c ρ) (hw : w = 2 ∨ w = 22) (hp : 51 ≤ pp ∧ (pp < 54 ∨ 89 ≤ pp)) (x : Int32) : agr (Rel w pp np · c ρ) (wv iv (F_X9_count w x iv)) iv (F_X10_count x) := by
  have hr := h.code hw hp 0
  obtain ⟨⟨hc, -, hC, -⟩, ⟨⟨kC, -, -, -⟩, -⟩, ⟨o, a, f, m, -, ⟨s0, s1, s2, s3⟩, ⟨m0, m1, m2, m3⟩, -, -, -, r4, r5⟩, -, ⟨t, -, t1, t2, -⟩, -, -⟩ := h
  obtain ⟨q0, q1, q2, q3, q4, q5, -⟩ := hC.1
  obtain ⟨k0, k1, k2, k3, k4, k5⟩ := kC.1
  have o58 : am_w iv 54 3 0 58 = iv 58 := am_w_other _ _ _ (by decide)
  have o70 : am_w iv 54 3 0 70 = iv 70 := am_w_other _ _ _ (by decide)
  by_cases hx : x.toInt < 0 ∨ 12 < x.toInt
  · left
    refine ⟨by unfold F_X9_count; rw [if_pos hx]; rfl, 0, am_w iv 54 3 1, ?_, am_code0 _, by rw [← am_codes 0 1]; exact hr.code hw hp 1⟩
    have e5 : (5 : Int32) = nI 6 - 1 := by decide
    unfold F_X10_count
    rw [e5, P_isIn0 (by decide), am_o1_s, ifb]
    have hf : xin x 6 = false := by
      cases hq : xin x 6 with
      | false => rfl
      | true =>
        obtain ⟨d, hd, rfl⟩ := xin_t (by decide) hq
        rw [nI_toInt (by omega)] at hx
        omega
    rw [hf, if_neg (by decide), if_pos (by omega), P_fail, am_o2_s, am_codes]
  · right
    obtain ⟨j, hj, rfl⟩ := ci_n (k := 12) hx (by decide)
    have key : ∀ v, F_X9_count w (nI j) iv = some (some v) → F_X10_count (nI j) iv = some (v, am_w iv 54 3 0) → ∃ v iv1 iv2, wv iv (F_X9_count w (nI j) iv) = some (some (v, iv1)) ∧ F_X10_count (nI j) iv1 = some (v, iv2) ∧ iv2 54 3 = 0 ∧ Rel w pp np iv2 c ρ := by
      intro v h1 h2
      exact ⟨v, iv, _, by rw [h1]; rfl, h2, am_code0 _, hr⟩
    match j, hj with
    | 0, _ => exact key (iv w 0) rfl (by rw [k0, ← q0]; show some ((am_w iv 54 3 0) 58 0, _) = _; rw [o58])
    | 1, _ => exact key (iv w 1) rfl (by rw [k1, ← q1]; show some ((am_w iv 54 3 0) 58 1, _) = _; rw [o58])
    | 2, _ => exact key (iv (w + 1) 0) rfl (by rw [k3, ← q2]; show some ((am_w iv 54 3 0) 58 2, _) = _; rw [o58])
    | 3, _ => exact key (iv (w + 10) 0) rfl (by rw [k4, ← q3]; show some ((am_w iv 54 3 0) 58 3, _) = _; rw [o58])
    | 4, _ => exact key (iv w 2) rfl (by rw [k2, ← q4]; show some ((am_w iv 54 3 0) 58 4, _) = _; rw [o58])
    | 5, _ => exact key (iv (w + 14) 0) rfl (by rw [k5, ← q5]; show some ((am_w iv 54 3 0) 58 5, _) = _; rw [o58])
    | 6, _ => exact key (iv 42 0) rfl (by rw [s0, ← m0]; show some ((am_w iv 54 3 0) 54 29, _) = _; rw [am_code1 _ (by decide)])
    | 7, _ => exact key (iv 42 3) rfl (by rw [s3, ← m3]; show some ((am_w iv 54 3 0) 54 32, _) = _; rw [am_code1 _ (by decide)])
    | 8, _ => exact key (iv 42 2) rfl (by rw [s2, ← m2]; show some ((am_w iv 54 3 0) 54 31, _) = _; rw [am_code1 _ (by decide)])
    | 9, _ => exact key (iv 42 1) rfl (by rw [s1, ← m1]; show some ((am_w iv 54 3 0) 54 30, _) = _; rw [am_code1 _ (by decide)])
    | 10, _ => exact key (iv 0 1) rfl (by rw [t1, ← t2]; show some ((am_w iv 54 3 0) 54 18, _) = _; rw [am_code1 _ (by decide)])
    | 11, _ => exact key (iv 42 4) rfl (by rw [r4]; show some ((am_w iv 54 3 0) 70 0, _) = _; rw [o70])
    | 12, _ => exact key (iv 42 5) rfl (by rw [r5]; show some ((am_w iv 54 3 0) 70 1, _) = _; rw [o70])
/-- the rent of one -/
def cy_ren (c : Nat → Nat → Nat) (d : Nat) : Nat := if cy_kd c d = 2 then 0 else if cy_wi c d = 1 then 2 * (c 0 6 + c 0 7 * cy_st c d + c 0 8 * cy_le c d) else c 0 6 + c 0 7 * cy_st c d + c 0 8 * cy_le c d
theorem P_rentOf (hC : mo_C iv c) (hc : cy_ok c) {d : Nat} (hd : d < cy_n c) : F_X10_rentOf (nI d) iv = some (nI (cy_ren c d)) := by
  have hn := hc.1
  have g := hc.2.2.2.2.2.2.2.1 d hd
  obtain ⟨d1, -, d3, d4, d5⟩ := hC.2.1 d hd
  obtain ⟨-, -, -, -, -, -, q6, q7, q8, -⟩ := hC.1
  have hv : vp_b (nI d) 20 = true := vb (by omega) (by decide)
  have e2 : (nI (cy_kd c d) = nI 2) ↔ cy_kd c d = 2 := am_eq (by omega) (by decide)
  have e1 : (nI (cy_wi c d) = 1) ↔ cy_wi c d = 1 := am_eq (by omega) (by decide)
  unfold F_X10_rentOf cy_ren
  rw [am_cl (by omega), cl6, cl7, cl8, d1, d3, d4, d5, q6, q7, q8, nI_mul, nI_mul, nI_add, nI_add, show (2 : Int32) = nI 2 from rfl, nI_mul]
  rw [if_pos hv, if_pos hv, if_pos hv]
  by_cases h2 : cy_kd c d = 2
  · rw [if_pos (by rw [h2]), if_pos h2]; rfl
  · rw [if_neg (fun q => h2 (e2.mp q)), if_neg h2, if_pos hv]
    by_cases h1 : cy_wi c d = 1
    · rw [if_pos (e1.mpr h1), if_pos h1]
    · rw [if_neg (fun q => h1 (e1.mp q)), if_neg h1]
theorem K_rentOf (hC : cl_C w iv c) (hB : cl_B w iv c) (hc : cy_ok c) {d : Nat} (hd : d < cy_n c) : F_X0_rentOf w (nI d) iv = some (nI (cy_ren c d)) := by
  have hn := hc.1
  have g := hc.2.2.2.2.2.2.2.1 d hd
  obtain ⟨d1, -, -, d4, d5⟩ := hC.2.1 d hd
  obtain ⟨b1, b2, b3, -⟩ := hB
  have hv : vp_b (nI d) 10 = true := vb (by omega) (by decide)
  have e2 : (nI (cy_kd c d) = nI 2) ↔ cy_kd c d = 2 := am_eq (by omega) (by decide)
  unfold F_X0_rentOf cy_ren
  rw [am_cl (by omega), d1, d4, d5, b1, b2, b3, nI_mul, nI_mul, nI_add, nI_add, K_isWide hC hc hd, am_o1_s, ifb, show (2 : Int32) = nI 2 from rfl, nI_mul, if_pos hv, if_pos hv, if_pos hv]
  by_cases h2 : cy_kd c d = 2
  · rw [if_pos (by rw [h2]), if_pos h2]; rfl
  · rw [if_neg (fun q => h2 (e2.mp q)), if_neg h2]
    by_cases h1 : cy_wi c d = 1 <;> simp [h1]
theorem C_rent (h : Rel w pp np iv c ρ) (hw : w = 2 ∨ w = 22) (hp : 51 ≤ pp ∧ (pp < 54 ∨ 89 ≤ pp)) : ∃ v iv2, F_X9_rent w iv = some v ∧ F_X10_rent iv = some (v, iv2) ∧ Rel w pp np iv2 c ρ := by
  have hr := h.code hw hp 0
  have hc := h.1.1
  have hn := hc.1
  have hC := hr.1.2.2.1
  have kC := h.2.1.1.1
  let sq : Nat → Nat := fun i => Nat.rec 0 (fun k s => s + cy_ren c k) i
  have l1 : am_loop (fun s : (Int32 × Int32) => B_X9_rent_4 w iv s.1 s.2) ((0 : Int32), (0 : Int32)) = some (nI (sq (cy_n c))) := by
    refine am_loop_seq (fun i => (nI (sq i), nI i)) (cy_n c) (by omega) rfl (fun d hd => ?_) ?_
    · show B_X9_rent_4 _ _ (nI (sq d)) (nI d) = some (Sum.inl (nI (sq d + cy_ren c d), nI (d + 1)))
      unfold B_X9_rent_4
      rw [kC.1.2.2.2.1, nle (by omega) (by omega), if_neg (by omega), K_rentOf kC h.2.1.2 hc hd, am_o1_s, nI_add, nI_1]
    · show B_X9_rent_4 _ _ _ (nI (cy_n c)) = _
      unfold B_X9_rent_4
      rw [kC.1.2.2.2.1, if_pos (Int32.le_refl _)]
  have l2 : am_loop (fun s : (Int32 × Int32) => B_X10_rent_9 (am_w iv 54 3 0) s.1 s.2) ((0 : Int32), (0 : Int32)) = some (nI (sq (cy_n c))) := by
    refine am_loop_seq (fun i => (nI (sq i), nI i)) (cy_n c) (by omega) rfl (fun d hd => ?_) ?_
    · show B_X10_rent_9 _ (nI (sq d)) (nI d) = some (Sum.inl (nI (sq d + cy_ren c d), nI (d + 1)))
      unfold B_X10_rent_9
      rw [cl2, hC.1.2.2.1, nle (by omega) (by omega), if_neg (by omega), P_rentOf hC hc hd, am_o1_s, nI_add, nI_1]
    · show B_X10_rent_9 _ _ (nI (cy_n c)) = _
      unfold B_X10_rent_9
      rw [cl2, hC.1.2.2.1, if_pos (Int32.le_refl _)]
  refine ⟨nI (sq (cy_n c)), am_w iv 54 3 0, ?_, ?_, hr⟩
  · unfold F_X9_rent; rw [l1, am_o1_s]
  · unfold F_X10_rent; rw [l2, am_o1_s]
end B52
