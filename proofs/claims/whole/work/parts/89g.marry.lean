/-! two homes that can marry -/
def cy_mry (c : Nat → Nat → Nat) (a b : Nat) : Bool := decide (cy_kd c a = 0) && (decide (cy_kd c b = 0) && (decide (cy_wi c a = 0) && (decide (cy_wi c b = 0) && (decide (cy_st c a = cy_st c b) && decide (cy_co c a + 1 = cy_co c b ∨ cy_co c b + 1 = cy_co c a)))))
theorem apK : ∀ x, x < 6 → ∀ y, y < 6 → ((if (0 : Int32) < (if nI x - nI y < nI y - nI x then nI y - nI x else nI x - nI y) then (if nI x - nI y < nI y - nI x then nI y - nI x else nI x - nI y) else (0 : Int32)) = 1 ↔ (x + 1 = y ∨ y + 1 = x)) := by decide +kernel
theorem apP : ∀ x, x < 6 → ∀ y, y < 6 → ((if (0 : Int32) ≤ nI x - nI y then nI x - nI y else -(nI x - nI y)) = 1 ↔ (x + 1 = y ∨ y + 1 = x)) := by decide +kernel
section B89g
variable {w : Nat} {iv : am_I} {c : Nat → Nat → Nat}
theorem K_canMarry {a b : Nat} (h : cl_C w iv c) (hok : cy_ok c) (ha : a < cy_n c) (hb : b < cy_n c) : F_X2_canMarry w (nI a) (nI b) iv = some (am_bi (cy_mry c a b)) := by
  obtain ⟨a1, a2, a3, a4, a5, a6, a7, a8, a9⟩ := hok
  obtain ⟨h1, h2, h3⟩ := h
  obtain ⟨p1, p2, p3, p4, p5⟩ := h2 a ha
  obtain ⟨q1, q2, q3, q4, q5⟩ := h2 b hb
  obtain ⟨d1, d2, d3, d4, d5, d6⟩ := a8 a ha
  obtain ⟨e1, e2, e3, e4, e5, e6⟩ := a8 b hb
  have va : vp_b (nI a) 10 = true := vb (show a < 10 by omega) (by decide)
  have vb' : vp_b (nI b) 10 = true := vb (show b < 10 by omega) (by decide)
  have wide : ∀ x, x < cy_n c → F_X2_isWide w (nI x) iv = some (am_bi (!decide (cy_wi c x = 0))) := fun x hx => by
    have vx : vp_b (nI x) 10 = true := vb (show x < 10 by omega) (by decide)
    obtain ⟨r1, r2, r3, r4, r5⟩ := h2 x hx
    have r6 := (a8 x hx).2.1
    unfold F_X2_isWide
    rw [if_pos vx, if_pos vx, am_cl (show x < 65536 by omega), r2, r3, nle (by omega) (by omega)]
    by_cases z : cy_wi c x = 0
    · rw [if_pos (by omega), decide_eq_true z]; rfl
    · rw [if_neg (by omega), decide_eq_false z]; rfl
  unfold F_X2_canMarry cy_mry
  rw [if_pos va, am_cl (show a < 65536 by omega), am_cl (show b < 65536 by omega), p1, q1, p4, q4, show (0 : Int32) = nI 0 from rfl, neq (by omega) (by omega), neq (by omega) (by omega)]
  rw [if_pos vb', wide a ha, am_o1_s, wide b hb, am_o1_s, if_pos va, if_pos vb', neq (by omega) (by omega)]
  by_cases z1 : cy_kd c a = 0
  · by_cases z2 : cy_kd c b = 0
    · rw [if_pos z1, if_pos z2]
      by_cases z3 : cy_wi c a = 0
      · by_cases z4 : cy_wi c b = 0
        · rw [decide_eq_true z3, decide_eq_true z4]
          rw [show (nI 0 : Int32) = 0 from rfl, if_pos (show am_bi (!true) = 0 from rfl), if_pos (show am_bi (!true) = 0 from rfl)]
          by_cases z5 : cy_st c a = cy_st c b
          · rw [if_pos z5]
            unfold F_X2_columnsApart
            rw [if_pos va, if_pos vb', if_pos vb', if_pos va, am_cl (show a < 65536 by omega), am_cl (show b < 65536 by omega), p2, p3, q2, q3, z3, z4, Nat.add_zero, Nat.add_zero, am_o1_s]
            have ap := apK (cy_co c a) (by omega) (cy_co c b) (by omega)
            by_cases z6 : cy_co c a + 1 = cy_co c b ∨ cy_co c b + 1 = cy_co c a
            · rw [if_pos (ap.mpr z6), decide_eq_true z1, decide_eq_true z2, decide_eq_true z5, decide_eq_true z6]; rfl
            · rw [if_neg (fun q => z6 (ap.mp q)), decide_eq_false z6]; simp; rfl
          · rw [if_neg z5, decide_eq_false z5]; simp; rfl
        · rw [decide_eq_true z3, decide_eq_false z4]
          rw [show (nI 0 : Int32) = 0 from rfl, if_pos (show am_bi (!true) = 0 from rfl), if_neg (show ¬ am_bi (!false) = 0 by decide)]
          simp; rfl
      · rw [decide_eq_false z3]
        rw [show (nI 0 : Int32) = 0 from rfl, if_neg (show ¬ am_bi (!false) = 0 by decide)]
        simp; rfl
    · rw [if_pos z1, if_neg z2, decide_eq_false z2]; simp; rfl
  · rw [if_neg z1, decide_eq_false z1]; rfl
end B89g
