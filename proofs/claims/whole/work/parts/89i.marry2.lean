/-! the class marries two homes -/
section B89i
variable {w : Nat} {iv : am_I} {c : Nat → Nat → Nat} {a b : Nat} {ρ : ru_T}
/-- the homes' row, k of them looked at -/
def mho (w : Nat) (iv : am_I) (a b : Nat) (g : Nat → Nat) : Nat → am_I
  | 0 => iv
  | k + 1 => am_w (mho w iv a b g k) (w + 11) k (nI (if g k = b then a else g k))
theorem mho_r (x j : Nat) (g : Nat → Nat) : ∀ k, mho w iv a b g k x j = if x = w + 11 ∧ j < k then nI (if g j = b then a else g j) else iv x j
  | 0 => by rw [if_neg (by omega)]; rfl
  | k + 1 => by
    show am_w (mho w iv a b g k) (w + 11) k (nI (if g k = b then a else g k)) x j = _
    rw [am_w_r, mho_r x j g k]
    by_cases e : x = w + 11
    · by_cases e2 : j = k
      · rw [if_pos e, if_pos e2, if_pos (show x = w + 11 ∧ j < k + 1 by omega), e2]
      · rw [if_pos e, if_neg e2]
        by_cases e3 : j < k
        · rw [if_pos ⟨e, e3⟩, if_pos (show x = w + 11 ∧ j < k + 1 by omega)]
        · rw [if_neg (show ¬ (x = w + 11 ∧ j < k) by omega), if_neg (show ¬ (x = w + 11 ∧ j < k + 1) by omega)]
    · rw [if_neg e, if_neg (show ¬ (x = w + 11 ∧ j < k) by omega), if_neg (show ¬ (x = w + 11 ∧ j < k + 1) by omega)]
theorem K_marry (h : cl_C w iv c) (hR : cl_R w iv ρ (cy_r c)) (hok : cy_ok c) (ha : a < cy_n c) (hb : b < cy_n c) (hm : cy_mry c a b = true) : ∃ iv', F_X0_marry w (nI a) (nI b) iv = some iv' ∧ cl_W w iv' (cy_mar c a b) ρ := by
  have hok2 := mar_ok hok ha hb hm
  obtain ⟨a1, a2, a3, a4, a5, a6, a7, a8, a9⟩ := hok
  obtain ⟨h1, h2, h3⟩ := h
  obtain ⟨p1, p2, p3, p4, p5⟩ := h2 a ha
  obtain ⟨q1, q2, q3, q4, q5⟩ := h2 b hb
  obtain ⟨d1, d2, d3, d4, d5, d6⟩ := a8 a ha
  obtain ⟨e1, e2, e3, e4, e5, e6⟩ := a8 b hb
  have va : vp_b (nI a) 10 = true := vb (show a < 10 by omega) (by decide)
  have vb' : vp_b (nI b) 10 = true := vb (show b < 10 by omega) (by decide)
  have hp10 : iv (w + 10) 0 = nI (cy_p c) := h1.2.2.2.2.1
  have mn : (if nI (cy_co c b) < nI (cy_co c a) then nI (cy_co c b) else nI (cy_co c a)) = nI (if cy_co c b < cy_co c a then cy_co c b else cy_co c a) := by
    rw [nlt (by omega) (by omega)]; split <;> rfl
  have mx : (if nI (cy_le c a) < nI (cy_le c b) then nI (cy_le c b) else nI (cy_le c a)) = nI (if cy_le c a < cy_le c b then cy_le c b else cy_le c a) := by
    rw [nlt (by omega) (by omega)]; split <;> rfl
  have o3 : ∀ (x : am_I) (k : Nat) (v : Int32) (j : Nat), am_w x (w + 3) k v (w + 6) j = x (w + 6) j := fun x k v j => by rw [am_w_other _ _ _ (by omega)]
  have o4 : ∀ (x : am_I) (k : Nat) (v : Int32) (j : Nat), am_w x (w + 4) k v (w + 6) j = x (w + 6) j := fun x k v j => by rw [am_w_other _ _ _ (by omega)]
  have oo : ∀ (x : am_I) (k : Nat) (v : Int32), am_w x (w + 3) k v (w + 3) k = v := fun x k v => by rw [am_w_r, if_pos rfl, if_pos rfl]
  unfold F_X0_marry
  simp only [va, vb', if_true, am_cl (show a < 65536 by omega), am_cl (show b < 65536 by omega), p2, q2, mn, oo, o3, o4, p5, q5, mx, show ∀ x, nI x + (1 : Int32) = nI (x + 1) from nI_1]
  generalize hW : am_w (am_w (am_w iv (w + 3) a (nI (if cy_co c b < cy_co c a then cy_co c b else cy_co c a))) (w + 4) a (nI ((if cy_co c b < cy_co c a then cy_co c b else cy_co c a) + 1))) (w + 6) a (nI (if cy_le c a < cy_le c b then cy_le c b else cy_le c a)) = W
  have w11 : ∀ j, W (w + 11) j = iv (w + 11) j := fun j => by rw [← hW]; simp [am_w_r]
  have w10 : W (w + 10) 0 = nI (cy_p c) := by rw [← hW]; simp [am_w_r]; exact hp10
  have t10 : ∀ k, mho w W a b (c 6) k (w + 10) 0 = nI (cy_p c) := fun k => by rw [mho_r, if_neg (show ¬ (w + 10 = w + 11 ∧ 0 < k) by omega)]; exact w10
  have lp : am_loop (fun s : (Int32 × am_I) => B_X0_marry_82 w (nI a) (nI b) s.1 s.2) ((0 : Int32), W) = some (mho w W a b (c 6) (cy_p c)) := by
    refine am_loop_seq (fun k => (nI k, mho w W a b (c 6) k)) (cy_p c) (by omega) rfl (fun k hk => ?_) ?_
    · show B_X0_marry_82 w (nI a) (nI b) (nI k) (mho w W a b (c 6) k) = some (.inl (nI (k + 1), am_w (mho w W a b (c 6) k) (w + 11) k (nI (if c 6 k = b then a else c 6 k))))
      have hk5 : vp_b (nI k) 5 = true := vb (show k < 5 by omega) (by decide)
      have c6 : mho w W a b (c 6) k (w + 11) k = nI (c 6 k) := by rw [mho_r, if_neg (show ¬ (w + 11 = w + 11 ∧ k < k) by omega), w11]; exact (h3 k hk).1
      have c6b : c 6 k < c 0 0 := (a9 k hk).1
      have a1' : c 0 0 ≤ 10 := a1
      unfold B_X0_marry_82 J_X0_marry_127
      rw [t10, nle (by omega) (by omega), if_neg (show ¬ cy_p c ≤ k by omega), if_pos hk5, if_pos hk5, if_pos hk5, if_pos hk5, am_cl (show k < 65536 by omega), c6, neq (by omega) (by omega), nI_1]
      by_cases z : c 6 k = b
      · rw [if_pos z, if_pos z]
      · rw [if_neg z, if_neg z]
    · show B_X0_marry_82 w (nI a) (nI b) (nI (cy_p c)) (mho w W a b (c 6) (cy_p c)) = _
      unfold B_X0_marry_82
      rw [t10, if_pos (Int32.le_refl _)]
  rw [lp, am_o1_s]
  obtain ⟨u1, u2, u3⟩ := mar_a (c := c) (a := a) (b := b)
  have z0 : ∀ y, cy_mar c a b 0 y = c 0 y := fun y => mar_o (by decide) (by omega)
  have R : ∀ x j, x ≠ w + 11 → mho w W a b (c 6) (cy_p c) x j = W x j := fun x j hx => by rw [mho_r, if_neg (fun q => hx q.1)]
  have hR' : cl_R w (mho w W a b (c 6) (cy_p c)) ρ (cy_r (cy_mar c a b)) := by
    rw [show cy_r (cy_mar c a b) = cy_r c from z0 3]
    have v : ∀ x j, w + 14 ≤ x → mho w W a b (c 6) (cy_p c) x j = iv x j := fun x j hx => by
      rw [R x j (by omega), ← hW, am_w_other _ _ _ (by omega), am_w_other _ _ _ (by omega), am_w_other _ _ _ (by omega)]
    exact ⟨fun r hr => by rw [v _ _ (by omega)]; exact hR.1 r hr, by rw [v _ _ (by omega)]; exact hR.2.1, fun k hk => by rw [v _ _ (by omega)]; exact hR.2.2 k hk⟩
  refine (fun (hC' : cl_C w (mho w W a b (c 6) (cy_p c)) (cy_mar c a b)) => ?_) ?_
  · obtain ⟨iv', s1, s2⟩ := K_settle hC' hok2 hR'
    rw [s1, am_o1_s]
    exact ⟨iv', rfl, s2⟩
  refine ⟨?_, fun j hj => ?_, fun p hp => ?_⟩
  · rw [R _ _ (by omega), R _ _ (by omega), R _ _ (by omega), R _ _ (by omega), R _ _ (by omega), R _ _ (by omega)]
    simp only [cy_n, cy_re, cy_p, cy_r, z0]
    rw [← hW]; simp [am_w_r]; exact h1
  · have hj' : j < cy_n c := by show j < c 0 0; rw [← z0 0]; exact hj
    rw [R _ _ (by omega), R _ _ (by omega), R _ _ (by omega), R _ _ (by omega), R _ _ (by omega)]
    show W (w + 2) j = nI (cy_mar c a b 1 j) ∧ W (w + 3) j = nI (cy_mar c a b 2 j) ∧ W (w + 4) j = nI (cy_mar c a b 2 j + cy_mar c a b 5 j) ∧ W (w + 5) j = nI (cy_mar c a b 3 j) ∧ W (w + 6) j = nI (cy_mar c a b 4 j)
    rw [show cy_mar c a b 1 j = c 1 j from mar_o (by decide) (by omega), show cy_mar c a b 3 j = c 3 j from mar_o (by decide) (by omega)]
    have hj2 := h2 j hj'
    by_cases e : j = a
    · subst e
      rw [u1, u2, u3, ← hW]
      simp [am_w_r]; exact ⟨hj2.1, hj2.2.2.2.1⟩
    · rw [mar_o (by decide) (by omega), mar_o (by decide) (by omega), mar_o (by decide) (by omega), ← hW]
      simp [am_w_r, e]; exact hj2
  · have hp' : p < cy_p c := by show p < c 0 2; rw [← z0 2]; exact hp
    have h3p := h3 p hp'
    unfold cy_shI
    show mho w W a b (c 6) (cy_p c) (w + 11) p = nI (cy_mar c a b 6 p) ∧ mho w W a b (c 6) (cy_p c) (w + 12) p = (if cy_mar c a b 7 p = 0 then -1 else nI (cy_mar c a b 7 p - 1)) ∧ mho w W a b (c 6) (cy_p c) (w + 13) p = nI (cy_mar c a b 8 p)
    rw [mar_6, mar_o (x := 7) (by decide) (by omega), mar_o (x := 8) (by decide) (by omega), mho_r, if_pos ⟨rfl, hp'⟩, R _ _ (by omega), R _ _ (by omega), ← hW]
    simp [am_w_r]; exact h3p.2
end B89i
