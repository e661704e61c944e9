/-! reading a city on both sides: how it begins -/
def dv (k : Nat) : Int32 := if k = 0 then 3 else if k = 1 then 4 else if k = 4 then 2 else 0
def dfl (iv : am_I) : Nat → am_I
  | 0 => iv
  | k + 1 => am_w (dfl iv k) 58 (10 + k) (dv k)
theorem dfl_r (iv : am_I) (a j : Nat) : ∀ k, dfl iv k a j = if a = 58 ∧ 10 ≤ j ∧ j < 10 + k then dv (j - 10) else iv a j
  | 0 => by rw [if_neg (by omega)]; rfl
  | k + 1 => by
    show am_w (dfl iv k) 58 (10 + k) (dv k) a j = _
    rw [am_w_r, dfl_r iv a j k]
    by_cases e : a = 58
    · by_cases e2 : j = 10 + k
      · rw [if_pos e, if_pos e2, if_pos (by omega), e2, show 10 + k - 10 = k by omega]
      · rw [if_pos e, if_neg e2]
        by_cases e3 : 10 ≤ j ∧ j < 10 + k
        · rw [if_pos (by omega), if_pos (by omega)]
        · rw [if_neg (by omega), if_neg (by omega)]
    · rw [if_neg e, if_neg (by omega), if_neg (by omega)]
theorem P_dfl (iv : am_I) : am_loop (fun s : (Int32 × am_I) => B_X10_city_56 s.1 s.2) ((10 : Int32), iv) = some (dfl iv 10) := by
  refine am_loop_seq (fun k => (nI (10 + k), dfl iv k)) 10 (by decide) rfl (fun k hk => ?_) ?_
  · show B_X10_city_56 (nI (10 + k)) (dfl iv k) = some (.inl (nI (10 + (k + 1)), am_w (dfl iv k) 58 (10 + k) (dv k)))
    have J : ∀ x, J_X10_city_98 (nI (10 + k)) (nI (10 + k)) x (dfl iv k) = some (.inl (nI (10 + (k + 1)), am_w (dfl iv k) 58 (10 + k) x)) := fun x => by
      unfold J_X10_city_98
      rw [if_pos (vb (show 10 + k < 20 by omega) (by decide)), am_cl (by omega), show nI (10 + k) + (1 : Int32) = nI (10 + (k + 1)) from nI_1 (10 + k)]
    unfold B_X10_city_56
    rw [J, J, J, J, if_neg (show ¬ (20 : Int32) ≤ nI (10 + k) from nI_ge (show 10 + k < 20 by omega) (by decide)), show (10 : Int32) = nI 10 from rfl, show (11 : Int32) = nI 11 from rfl, show (14 : Int32) = nI 14 from rfl, neq (by omega) (by omega), neq (by omega) (by omega), neq (by omega) (by omega)]
    unfold dv
    by_cases e0 : k = 0
    · rw [if_pos (by omega), if_pos e0]
    · rw [if_neg (by omega), if_neg e0]
      by_cases e1 : k = 1
      · rw [if_pos (by omega), if_pos e1]
      · rw [if_neg (by omega), if_neg e1]
        by_cases e4 : k = 4
        · rw [if_pos (by omega), if_pos e4]
        · rw [if_neg (by omega), if_neg e4]
  · show B_X10_city_56 (nI 20) (dfl iv 10) = _
    unfold B_X10_city_56
    rw [if_pos (show (20 : Int32) ≤ nI 20 by decide)]
/-- the city before any line -/
def cy0 : Nat → Nat → Nat := fun a b => if a = 0 then (if b = 4 then 3 else if b = 5 then 4 else if b = 1 then 2 else 0) else 0
def ru0 : ru_T := (fun _ => 0, fun _ => 0)
theorem cy0_ok : cy_ok cy0 := by
  refine ⟨by decide, by decide, by decide, by decide, by decide, by decide, by decide, fun j hj => absurd hj (Nat.not_lt_zero _), fun p hp => absurd hp (Nat.not_lt_zero _)⟩
section B89c
variable {w t rr xr : Nat} {ivc ivm ivc' ivm' iv : am_I} {τ : Nat → Nat} {n : Nat}
theorem K_clear : F_X0_clear w iv = some (am_w (am_w (am_w (am_w (am_w (am_w (am_w (am_w (am_w (am_w (am_w iv w 0 (3 : Int32)) w 1 (4 : Int32)) w 2 (2 : Int32)) w 3 (0 : Int32)) w 4 (0 : Int32)) w 5 (0 : Int32)) w 6 (0 : Int32)) (w + 1) 0 (0 : Int32)) (w + 10) 0 (0 : Int32)) (w + 14) 0 (0 : Int32)) (w + 14) 1 (0 : Int32)) := by
  unfold F_X0_clear F_X5_clear
  rw [am_o1_s]
theorem CP0 (hw : w = 2 ∨ w = 22) (h15 : iv (w + 15) 0 = 0) (hm : ∀ k, k < 10 → ivm 58 (10 + k) = dv k) (h28 : ivm 54 28 = 0) : CP w (am_w (am_w (am_w (am_w (am_w (am_w (am_w (am_w (am_w (am_w (am_w iv w 0 (3 : Int32)) w 1 (4 : Int32)) w 2 (2 : Int32)) w 3 (0 : Int32)) w 4 (0 : Int32)) w 5 (0 : Int32)) w 6 (0 : Int32)) (w + 1) 0 (0 : Int32)) (w + 10) 0 (0 : Int32)) (w + 14) 0 (0 : Int32)) (w + 14) 1 (0 : Int32)) ivm cy0 ru0 := by
  refine ⟨⟨?_, fun j hj => absurd hj (Nat.not_lt_zero _), fun p hp => absurd hp (Nat.not_lt_zero _)⟩, ?_, ⟨?_, fun j hj => absurd hj (Nat.not_lt_zero _), fun p hp => absurd hp (Nat.not_lt_zero _)⟩, cy0_ok, ⟨fun r hr => ?_, ?_, fun k hk => absurd hk (Nat.not_lt_zero _)⟩, ⟨fun r hr => absurd hr (Nat.not_lt_zero _), h28, fun k hk => absurd hk (Nat.not_lt_zero _)⟩, rfl, Nat.zero_le _, fun r hr => absurd hr (Nat.not_lt_zero _)⟩
  · simp [am_w_r]
    exact ⟨rfl, rfl, rfl, rfl, rfl, rfl⟩
  · unfold cl_B
    simp [am_w_r]
    exact ⟨rfl, rfl, rfl, rfl⟩
  · exact ⟨hm 0 (by decide), hm 1 (by decide), hm 2 (by decide), hm 3 (by decide), hm 4 (by decide), hm 5 (by decide), hm 6 (by decide), hm 7 (by decide), hm 8 (by decide), hm 9 (by decide)⟩
  · have : r = 0 := Nat.le_zero.mp hr
    subst this
    simp [am_w_r]; exact h15
  · simp [am_w_r]; rfl
/-- the second half becomes the first -/
def hlf (iv : am_I) (aa h : Nat) : Nat → am_I
  | 0 => iv
  | k + 1 => am_w (hlf iv aa h k) aa k (hlf iv aa h k aa (h + k))
theorem hlf_r (iv : am_I) (aa h a j : Nat) : ∀ k, k ≤ h → hlf iv aa h k a j = if a = aa ∧ j < k then iv aa (h + j) else iv a j
  | 0, _ => by rw [if_neg (by omega)]; rfl
  | k + 1, hk => by
    show am_w (hlf iv aa h k) aa k (hlf iv aa h k aa (h + k)) a j = _
    rw [am_w_r, hlf_r iv aa h a j k (by omega), hlf_r iv aa h aa (h + k) k (by omega), if_neg (show ¬ (aa = aa ∧ h + k < k) by omega)]
    by_cases e : a = aa
    · by_cases e2 : j = k
      · rw [if_pos e, if_pos e2, if_pos (by omega), e2]
      · rw [if_pos e, if_neg e2]
        by_cases e3 : j < k
        · rw [if_pos ⟨e, e3⟩, if_pos (by omega)]
        · rw [if_neg (by omega), if_neg (by omega)]
    · rw [if_neg e, if_neg (by omega), if_neg (by omega)]
theorem P_half {aa h m : Nat} (hh : h ≤ 700) (hm : m = 2 * h) (hd : Int32.ofNat m / (2 : Int32) = nI h) : F_X10_takeHalf aa m iv = some (hlf iv aa h h) := by
  unfold F_X10_takeHalf
  rw [am_loop_seq (f := fun s : (Int32 × am_I) => B_X10_takeHalf_2 aa m s.1 s.2) (x := hlf iv aa h h) (s := ((0 : Int32), iv)) (fun k => (nI k, hlf iv aa h k)) h (by omega) rfl (fun k hk => ?_) ?_, am_o1_s]
  · show B_X10_takeHalf_2 aa m (nI h) (hlf iv aa h h) = _
    unfold B_X10_takeHalf_2
    rw [hd, if_pos (Int32.le_refl _)]
  · show B_X10_takeHalf_2 aa m (nI k) (hlf iv aa h k) = some (.inl (nI (k + 1), am_w (hlf iv aa h k) aa k (hlf iv aa h k aa (h + k))))
    unfold B_X10_takeHalf_2
    rw [hd, nle (by omega) (by omega), if_neg (by omega), nI_add, if_pos (vb (show h + k < m by omega) (by omega)), if_pos (vb (show k < m by omega) (by omega)), am_cl (show k < 65536 by omega), am_cl (show h + k < 65536 by omega), show nI k + (1 : Int32) = nI (k + 1) from nI_1 k]
end B89c
