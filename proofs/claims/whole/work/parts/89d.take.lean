/-! reading a city on both sides: the new city is taken -/
def zro (iv : am_I) : Nat → am_I
  | 0 => iv
  | k + 1 => am_w (zro iv k) 72 k 0
theorem zro_r (iv : am_I) (a j : Nat) : ∀ k, zro iv k a j = if a = 72 ∧ j < k then 0 else iv a j
  | 0 => by rw [if_neg (by omega)]; rfl
  | k + 1 => by
    show am_w (zro iv k) 72 k 0 a j = _
    rw [am_w_r, zro_r iv a j k]
    by_cases e : a = 72
    · by_cases e2 : j = k
      · rw [if_pos e, if_pos e2, if_pos (by omega)]
      · rw [if_pos e, if_neg e2]
        by_cases e3 : j < k
        · rw [if_pos ⟨e, e3⟩, if_pos (by omega)]
        · rw [if_neg (by omega), if_neg (by omega)]
    · rw [if_neg e, if_neg (by omega), if_neg (by omega)]
theorem hlf_h (iv : am_I) (aa h a j : Nat) : hlf iv aa h h a j = if a = aa ∧ j < h then iv aa (h + j) else iv a j := hlf_r iv aa h a j h (Nat.le_refl _)
/-- all halves -/
def hvs (iv : am_I) : am_I := hlf (hlf (hlf (hlf (hlf (hlf (hlf (hlf (hlf (hlf (hlf (hlf iv 58 10 10) 59 10 10) 60 10 10) 61 10 10) 62 10 10) 63 10 10) 64 5 5) 65 5 5) 66 5 5) 67 4 4) 68 4 4) 69 700 700
theorem hvs_r (iv : am_I) (a j : Nat) : hvs iv a j = if 58 ≤ a ∧ a ≤ 63 ∧ j < 10 then iv a (10 + j) else if 64 ≤ a ∧ a ≤ 66 ∧ j < 5 then iv a (5 + j) else if 67 ≤ a ∧ a ≤ 68 ∧ j < 4 then iv a (4 + j) else if a = 69 ∧ j < 700 then iv a (700 + j) else iv a j := by
  unfold hvs
  by_cases ha : 58 ≤ a ∧ a ≤ 69
  · have : a = 58 ∨ a = 59 ∨ a = 60 ∨ a = 61 ∨ a = 62 ∨ a = 63 ∨ a = 64 ∨ a = 65 ∨ a = 66 ∨ a = 67 ∨ a = 68 ∨ a = 69 := by omega
    rcases this with rfl | rfl | rfl | rfl | rfl | rfl | rfl | rfl | rfl | rfl | rfl | rfl <;> simp [hlf_h]
  · have hne : a ≠ 58 ∧ a ≠ 59 ∧ a ≠ 60 ∧ a ≠ 61 ∧ a ≠ 62 ∧ a ≠ 63 ∧ a ≠ 64 ∧ a ≠ 65 ∧ a ≠ 66 ∧ a ≠ 67 ∧ a ≠ 68 ∧ a ≠ 69 := by omega
    obtain ⟨q1, q2, q3, q4, q5, q6, q7, q8, q9, q10, q11, q12⟩ := hne
    rw [if_neg (by omega), if_neg (by omega), if_neg (by omega), if_neg (by omega)]
    simp [hlf_h, q1, q2, q3, q4, q5, q6, q7, q8, q9, q10, q11, q12]
def tk4 (iv : am_I) : am_I := am_w (am_w (am_w (am_w (hvs iv) 54 29 (0 : Int32)) 54 30 (0 : Int32)) 54 31 (0 : Int32)) 54 32 (0 : Int32)
def tk (iv : am_I) : am_I := am_w (am_w (zro (tk4 iv) 5) 54 45 (-1 : Int32)) 54 48 (0 : Int32)
theorem P_take (iv : am_I) : F_X10_take iv = some (tk iv) := by
  unfold F_X10_take
  rw [P_half (h := 10) (by decide) rfl (by decide), am_o1_s, P_half (h := 10) (by decide) rfl (by decide), am_o1_s, P_half (h := 10) (by decide) rfl (by decide), am_o1_s, P_half (h := 10) (by decide) rfl (by decide), am_o1_s, P_half (h := 10) (by decide) rfl (by decide), am_o1_s, P_half (h := 10) (by decide) rfl (by decide), am_o1_s, P_half (h := 5) (by decide) rfl (by decide), am_o1_s, P_half (h := 5) (by decide) rfl (by decide), am_o1_s, P_half (h := 5) (by decide) rfl (by decide), am_o1_s, P_half (h := 4) (by decide) rfl (by decide), am_o1_s, P_half (h := 4) (by decide) rfl (by decide), am_o1_s, P_half (h := 700) (by decide) rfl (by decide), am_o1_s]
  have hl : am_loop (fun s : (Int32 × am_I) => B_X10_take_106 s.1 s.2) ((0 : Int32), tk4 iv) = some (zro (tk4 iv) 5) := by
    refine am_loop_seq (fun k => (nI k, zro (tk4 iv) k)) 5 (by decide) rfl (fun k hk => ?_) ?_
    · show B_X10_take_106 (nI k) (zro (tk4 iv) k) = some (.inl (nI (k + 1), am_w (zro (tk4 iv) k) 72 k 0))
      unfold B_X10_take_106
      rw [if_neg (show ¬ (5 : Int32) ≤ nI k from nI_ge hk (by decide)), if_pos (vb hk (by decide)), am_cl (by omega), show nI k + (1 : Int32) = nI (k + 1) from nI_1 k]
    · show B_X10_take_106 (nI 5) (zro (tk4 iv) 5) = _
      unfold B_X10_take_106
      rw [if_pos (show (5 : Int32) ≤ nI 5 by decide)]
  have hl' := hl
  unfold tk4 hvs at hl
  rw [hl, am_o1_s]; rfl
theorem tk_r (iv : am_I) (a j : Nat) (h54 : a ≠ 54) (h72 : a ≠ 72) : tk iv a j = hvs iv a j := by
  unfold tk tk4
  rw [am_w_other _ _ _ h54, am_w_other _ _ _ h54, zro_r, if_neg (fun q => h72 q.1), am_w_other _ _ _ h54, am_w_other _ _ _ h54, am_w_other _ _ _ h54, am_w_other _ _ _ h54]
theorem tk_54 (iv : am_I) (j : Nat) : tk iv 54 j = if j = 48 then 0 else if j = 45 then -1 else if 29 ≤ j ∧ j ≤ 32 then 0 else iv 54 j := by
  unfold tk tk4
  simp only [am_w_r, zro_r, hvs_r]
  by_cases e48 : j = 48
  · simp [e48]
  · by_cases e45 : j = 45
    · simp [e45]
    · by_cases e : 29 ≤ j ∧ j ≤ 32
      · have : j = 29 ∨ j = 30 ∨ j = 31 ∨ j = 32 := by omega
        rcases this with rfl | rfl | rfl | rfl <;> simp
      · rw [if_neg e48, if_neg e45, if_neg e]
        simp [e48, e45, show ¬ j = 29 by omega, show ¬ j = 30 by omega, show ¬ j = 31 by omega, show ¬ j = 32 by omega]
theorem tk_72 (iv : am_I) (j : Nat) (hj : j < 5) : tk iv 72 j = 0 := by
  unfold tk
  rw [am_w_other _ _ _ (by decide), am_w_other _ _ _ (by decide), zro_r, if_pos ⟨rfl, hj⟩]
section B89d
variable {iv : am_I} {c : Nat → Nat → Nat} {ρ : ru_T}
theorem tk_C (h : mo_H iv c) (hok : cy_ok c) : mo_C (tk iv) c := by
  obtain ⟨h1, h2, h3⟩ := h
  have r1 : ∀ a j, 58 ≤ a → a ≤ 63 → j < 10 → tk iv a j = iv a (10 + j) := fun a j q1 q2 q3 => by rw [tk_r _ _ _ (by omega) (by omega), hvs_r, if_pos ⟨q1, q2, q3⟩]
  have r2 : ∀ a j, 64 ≤ a → a ≤ 66 → j < 5 → tk iv a j = iv a (5 + j) := fun a j q1 q2 q3 => by rw [tk_r _ _ _ (by omega) (by omega), hvs_r, if_neg (by omega), if_pos ⟨q1, q2, q3⟩]
  have hn := hok.1
  have hp := hok.2.2.1
  refine ⟨?_, fun j hj => ?_, fun p hp' => ?_⟩
  · rw [r1 _ _ (by decide) (by decide) (by decide), r1 _ _ (by decide) (by decide) (by decide), r1 _ _ (by decide) (by decide) (by decide), r1 _ _ (by decide) (by decide) (by decide), r1 _ _ (by decide) (by decide) (by decide), r1 _ _ (by decide) (by decide) (by decide), r1 _ _ (by decide) (by decide) (by decide), r1 _ _ (by decide) (by decide) (by decide), r1 _ _ (by decide) (by decide) (by decide), r1 _ _ (by decide) (by decide) (by decide)]
    exact h1
  · rw [r1 _ _ (by decide) (by decide) (by omega), r1 _ _ (by decide) (by decide) (by omega), r1 _ _ (by decide) (by decide) (by omega), r1 _ _ (by decide) (by decide) (by omega), r1 _ _ (by decide) (by decide) (by omega)]
    exact h2 j hj
  · rw [r2 _ _ (by decide) (by decide) (by omega), r2 _ _ (by decide) (by decide) (by omega), r2 _ _ (by decide) (by decide) (by omega)]
    exact h3 p hp'
theorem tk_R {nr : Nat} (h : mo_Z iv ρ nr) (hr : nr ≤ 4) (hL : ρ.1 nr ≤ 700) : mo_R (tk iv) ρ nr := by
  have r1 : ∀ a j, 67 ≤ a → a ≤ 68 → j < 4 → tk iv a j = iv a (4 + j) := fun a j q1 q2 q3 => by rw [tk_r _ _ _ (by omega) (by omega), hvs_r, if_neg (by omega), if_neg (by omega), if_pos ⟨q1, q2, q3⟩]
  have r2 : ∀ j, j < 700 → tk iv 69 j = iv 69 (700 + j) := fun j q3 => by rw [tk_r _ _ _ (by omega) (by omega), hvs_r, if_neg (by omega), if_neg (by omega), if_neg (by omega), if_pos ⟨rfl, q3⟩]
  refine ⟨fun r hr' => ?_, fun k hk => ?_⟩
  · rw [r1 _ _ (by decide) (by decide) (by omega), r1 _ _ (by decide) (by decide) (by omega)]
    exact h.1 r hr'
  · rw [r2 _ (by omega)]; exact h.2.2 k hk
end B89d
