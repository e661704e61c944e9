/-! two homes that can marry -/
def cy_mry (c : Nat → Nat → Nat) (a b : Nat) : Bool := decide (cy_kd c a = 0) && (decide (cy_kd c b = 0) && (decide (cy_wi c a = 0) && (decide (cy_wi c b = 0) && (decide (cy_st c a = cy_st c b) && decide (cy_co c a + 1 = cy_co c b ∨ cy_co c b + 1 = cy_co c a)))))
theorem apK : ∀ x, x < 6 → ∀ y, y < 6 → ((if (0 : Int32) < (if nI x - nI y < nI y - nI x then nI y - nI x else nI x - nI y) then (if nI x - nI y < nI y - nI x then nI y - nI x else nI x - nI y) else (0 : Int32)) = 1 ↔ (x + 1 = y ∨ y + 1 = x)) := by decide +kernel
theorem apP : ∀ x, x < 6 → ∀ y, y < 6 → ((if (0 : Int32) ≤ nI x - nI y then nI x - nI y else -(nI x - nI y)) = 1 ↔ (x + 1 = y ∨ y + 1 = x)) := by decide +kernel
section B89g
variable {w : Nat} {iv : am_I} {c : Nat → Nat → Nat}
theorem K_canMarry {a b : Nat} (h : cl_C w iv c) (hok : cy_ok c) (ha : a < cy_n c) (hb : b < cy_n c) : F_X2_canMarry w (nI a) (nI b) iv = some (am_bi (cy_mry c a b)) := by
  obtain ⟨a1, a2, a3, a4, a5, a6, a7, a8, a9⟩ := hok
  obtain ⟨h1, h2, h3⟩ := h
  obtain ⟨p1, p2, p3, p4, p5⟩ := h2 a ha
  obtain ⟨q1, q2, q3, q4, q5⟩ := h2 b hb
  obtain ⟨d1, d2, d3, d4, d5, d6⟩ := a8 a ha
  obtain ⟨e1, e2, e3, e4, e5, e6⟩ := a8 b hb
  have va : vp_b (nI a) 10 = true := vb (show a < 10 by omega) (by decide)
  have vb' : vp_b (nI b) 10 = true := vb (show b < 10 by omega) (by decide)
  have wide : ∀ x, x < cy_n c → F_X2_isWide w (nI x) iv = some (am_bi (!decide (cy_wi c x = 0))) := fun x hx => by
    have vx : vp_b (nI x) 10 = true := vb (show x < 10 by omega) (by decide)
    obtain ⟨r1, r2, r3, r4, r5⟩ := h2 x hx
    have r6 := (a8 x hx).2.1
    unfold F_X2_isWide
    rw [if_pos vx, if_pos vx, am_cl (show x < 65536 by omega), r2, r3, nle (by omega) (by omega)]
    by_cases z : cy_wi c x = 0
    · rw [if_pos (by omega), decide_eq_true z]; rfl
    · rw [if_neg (by omega), decide_eq_false z]; rfl
  unfold F_X2_canMarry cy_mry
  rw [if_pos va, am_cl (show a < 65536 by omega), am_cl (show b < 65536 by omega), p1, q1, p4, q4, show (0 : Int32) = nI 0 from rfl, neq (by omega) (by omega), neq (by omega) (by omega)]
  rw [if_pos vb', wide a ha, am_o1_s, wide b hb, am_o1_s, if_pos va, if_pos vb', neq (by omega) (by omega)]
  by_cases z1 : cy_kd c a = 0
  · by_cases z2 : cy_kd c b = 0
    · rw [if_pos z1, if_pos z2]
      by_cases z3 : cy_wi c a = 0
      · by_cases z4 : cy_wi c b = 0
        · rw [decide_eq_true z3, decide_eq_true z4]
          rw [show (nI 0 : Int32) = 0 from rfl, if_pos (show am_bi (!true) = 0 from rfl), if_pos (show am_bi (!true) = 0 from rfl)]
          by_cases z5 : cy_st c a = cy_st c b
          · rw [if_pos z5]
            unfold F_X2_columnsApart
            rw [if_pos va, if_pos vb', if_pos vb', if_pos va, am_cl (show a < 65536 by omega), am_cl (show b < 65536 by omega), p2, p3, q2, q3, z3, z4, Nat.add_zero, Nat.add_zero, am_o1_s]
            have ap := apK (cy_co c a) (by omega) (cy_co c b) (by omega)
            by_cases z6 : cy_co c a + 1 = cy_co c b ∨ cy_co c b + 1 = cy_co c a
            · rw [if_pos (ap.mpr z6), decide_eq_true z1, decide_eq_true z2, decide_eq_true z5, decide_eq_true z6]; rfl
            · rw [if_neg (fun q => z6 (ap.mp q)), decide_eq_false z6]; simp; rfl
          · rw [if_neg z5, decide_eq_false z5]; simp; rfl
        · rw [decide_eq_true z3, decide_eq_false z4]
          rw [show (nI 0 : Int32) = 0 from rfl, if_pos (show am_bi (!true) = 0 from rfl), if_neg (show ¬ am_bi (!false) = 0 by decide)]
          simp; rfl
      · rw [decide_eq_false z3]
        rw [show (nI 0 : Int32) = 0 from rfl, if_neg (show ¬ am_bi (!false) = 0 by decide)]
        simp; rfl
    · rw [if_pos z1, if_neg z2, decide_eq_false z2]; simp; rfl
  · rw [if_neg z1, decide_eq_false z1]; rfl
theorem P_canMarry {a b s : Nat} (h : mo_C iv c) (hok : cy_ok c) (ha : a < cy_n c) (hb : b < cy_n c) (hs : s < 1024) (ho : iv 54 29 ||| iv 54 30 = nI s) : F_X10_canMarry (nI a) (nI b) iv = some (am_bi (cy_mry c a b && (!s.testBit a && !s.testBit b))) := by
  obtain ⟨a1, a2, a3, a4, a5, a6, a7, a8, a9⟩ := hok
  obtain ⟨h1, h2, h3⟩ := h
  obtain ⟨p1, p2, p3, p4, p5⟩ := h2 a ha
  obtain ⟨q1, q2, q3, q4, q5⟩ := h2 b hb
  obtain ⟨d1, d2, d3, d4, d5, d6⟩ := a8 a ha
  obtain ⟨e1, e2, e3, e4, e5, e6⟩ := a8 b hb
  have va : vp_b (nI a) 20 = true := vb (show a < 20 by omega) (by decide)
  have vb' : vp_b (nI b) 20 = true := vb (show b < 20 by omega) (by decide)
  have ba := am_bit0 (s := s) (d := a) hs (by omega)
  have bb := am_bit0 (s := s) (d := b) hs (by omega)
  have no : ∀ x, J_X10_canMarry_63 (nI a) (nI b) 0 x = some 0 := fun x => by unfold J_X10_canMarry_63; rw [if_pos rfl]
  unfold F_X10_canMarry J_X10_canMarry_62 cy_mry
  rw [no, neq (by omega) (by omega), if_pos va, if_pos vb', if_pos va, if_pos vb', if_pos va, if_pos vb', am_cl (show a < 65536 by omega), am_cl (show b < 65536 by omega), p1, q1, p2, q2, p3, q3]
  have k0 : ∀ x : Nat, x < 65536 → ((nI x = 0) ↔ x = 0) := fun x hx => am_eq hx (show 0 < 65536 by decide)
  by_cases z0 : a = b
  · rw [if_pos z0]
    subst z0
    rw [decide_eq_false (show ¬ (cy_co c a + 1 = cy_co c a ∨ cy_co c a + 1 = cy_co c a) by omega)]; simp; rfl
  · rw [if_neg z0]
    by_cases z1 : cy_kd c a = 0
    · rw [if_pos ((k0 _ (by omega)).mpr z1)]
      by_cases z2 : cy_kd c b = 0
      · rw [if_pos ((k0 _ (by omega)).mpr z2), neq (by omega) (by omega)]
        by_cases z5 : cy_st c a = cy_st c b
        · rw [if_pos z5]
          have ap := apP (cy_co c a) (by omega) (cy_co c b) (by omega)
          by_cases z6 : cy_co c a + 1 = cy_co c b ∨ cy_co c b + 1 = cy_co c a
          · rw [if_pos (ap.mpr z6)]
            unfold J_X10_canMarry_63
            rw [if_neg (show ¬ (1 : Int32) = 0 by decide), if_pos va, if_pos vb', am_cl (show a < 65536 by omega), am_cl (show b < 65536 by omega), p5, q5, ho]
            by_cases z3 : cy_wi c a = 0
            · rw [if_pos ((k0 _ (by omega)).mpr z3)]
              by_cases z4 : cy_wi c b = 0
              · rw [if_pos ((k0 _ (by omega)).mpr z4)]
                cases za : s.testBit a with
                | true =>
                  rw [if_neg (fun q => by rw [ba, za] at q; cases q)]; simp; rfl
                | false =>
                  rw [if_pos (by rw [ba]; exact za)]
                  cases zb : s.testBit b with
                  | true => rw [if_neg (fun q => by rw [bb, zb] at q; cases q)]; simp; rfl
                  | false =>
                    rw [if_pos (by rw [bb]; exact zb), decide_eq_true z1, decide_eq_true z2, decide_eq_true z3, decide_eq_true z4, decide_eq_true z5, decide_eq_true z6]; rfl
              · rw [if_neg (fun q => z4 ((k0 _ (by omega)).mp q)), decide_eq_false z4]; simp; rfl
            · rw [if_neg (fun q => z3 ((k0 _ (by omega)).mp q)), decide_eq_false z3]; simp; rfl
          · rw [if_neg (fun q => z6 (ap.mp q)), decide_eq_false z6]; simp; rfl
        · rw [if_neg z5, decide_eq_false z5]; simp; rfl
      · rw [if_neg (fun q => z2 ((k0 _ (by omega)).mp q)), decide_eq_false z2]; simp; rfl
    · rw [if_neg (fun q => z1 ((k0 _ (by omega)).mp q)), decide_eq_false z1]; rfl
end B89g
