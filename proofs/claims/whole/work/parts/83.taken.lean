/-! reading a line on both sides: a place that is taken, a drawer more -/
theorem am_loop_anyO {ρ : Type} {f : Int32 → Option (Int32 ⊕ ρ)} {p : Nat → Bool} {o n : Nat} {x y : ρ} (hn : n < 60000) (hs : ∀ i, i < n → f (nI (o + i)) = some (if p i then .inr y else .inl (nI (o + (i + 1))))) (hx : f (nI (o + n)) = some (.inr x)) : am_loop f (nI o) = some (if cy_any p n then y else x) := by
  obtain ⟨a1, a2, a3⟩ := cy_fst_s p n
  by_cases e : cy_fst p n < n
  · have hp := a3 e
    rw [if_pos (cy_any_iff.mpr ⟨_, e, hp⟩)]
    refine am_loop_seq (fun i => nI (o + i)) (cy_fst p n) (by omega) rfl (fun k hk => ?_) ?_
    · show f (nI (o + k)) = _
      rw [hs k (by omega), a2 k hk]; rfl
    · show f (nI (o + cy_fst p n)) = _
      rw [hs _ e, hp]; rfl
  · have en : cy_fst p n = n := by omega
    rw [en] at a2
    rw [if_neg (by rw [cy_any_false.mpr a2]; decide)]
    refine am_loop_seq (fun i => nI (o + i)) n (by omega) rfl (fun k hk => ?_) hx
    show f (nI (o + k)) = _
    rw [hs k hk, a2 k hk]; rfl
/-- a drawer that has the place -/
def cy_at (c : Nat → Nat → Nat) (x y j : Nat) : Bool := decide (cy_st c j = y) && (decide (cy_co c j ≤ x) && decide (x ≤ cy_co c j + cy_wi c j))
def cy_tk (c : Nat → Nat → Nat) (x y : Nat) : Bool := cy_any (cy_at c x y) (cy_n c)
section B83
variable {w t rr xr : Nat} {ivc ivm ivc' ivm' iv : am_I} {τ : Nat → Nat} {n ty fi be : Nat} {c : Nat → Nat → Nat} {ρ : ru_T} {f : Nat → Bool}
theorem K_taken {x y : Nat} (h : cl_C w iv c) (hok : cy_ok c) (hx : x < 100) (hy : y < 100) : F_X2_isTaken w (nI x) (nI y) iv = some (am_bi (cy_tk c x y)) := by
  obtain ⟨a1, a2, a3, a4, a5, a6, a7, a8, a9⟩ := hok
  obtain ⟨h1, h2, h3⟩ := h
  unfold F_X2_isTaken
  rw [am_loop_any (f := fun s : Int32 => B_X2_isTaken_2 w (nI x) (nI y) iv s) (p := cy_at c x y) (n := cy_n c) (x := .inl ()) (y := .inr (1 : Int32)) (by omega) (fun i hi => ?_) ?_]
  · unfold cy_tk
    cases cy_any (cy_at c x y) (cy_n c) <;> rfl
  · show B_X2_isTaken_2 w (nI x) (nI y) iv (nI (cy_n c)) = _
    unfold B_X2_isTaken_2
    rw [h1.2.2.2.1, if_pos (Int32.le_refl _)]
  · show B_X2_isTaken_2 w (nI x) (nI y) iv (nI i) = _
    obtain ⟨b1, b2, b3, b4, b5⟩ := h2 i hi
    obtain ⟨d1, d2, d3, d4, d5, d6⟩ := a8 i hi
    unfold B_X2_isTaken_2 cy_at
    rw [h1.2.2.2.1, nle (by omega) (by omega), if_neg (by omega), if_pos (vb (show i < 10 by omega) (by decide)), if_pos (vb (show i < 10 by omega) (by decide)), if_pos (vb (show i < 10 by omega) (by decide)), am_cl (by omega), b2, b3, b4, neq (by omega) (by omega), nlt (by omega) (by omega), nlt (by omega) (by omega), show nI i + (1 : Int32) = nI (i + 1) from nI_1 i]
    by_cases e1 : cy_st c i = y
    · by_cases e2 : x < cy_co c i
      · rw [if_pos e1, if_pos e2]; simp [e1]; intro q; omega
      · by_cases e3 : cy_co c i + cy_wi c i < x
        · rw [if_pos e1, if_neg e2, if_pos e3]; simp [e1]; omega
        · rw [if_pos e1, if_neg e2, if_neg e3]; simp [e1]; omega
    · rw [if_neg e1]; simp [e1]
theorem P_taken {x y : Nat} (h : ∀ j, j < cy_n c → iv 60 (10 + j) = nI (cy_co c j) ∧ iv 61 (10 + j) = nI (cy_st c j) ∧ iv 63 (10 + j) = nI (cy_wi c j)) (hok : cy_ok c) (hx : x < 100) (hy : y < 100) : F_X10_isTaken (nI x) (nI y) (nI (cy_n c)) iv = some (am_bi (cy_tk c x y)) := by
  obtain ⟨a1, a2, a3, a4, a5, a6, a7, a8, a9⟩ := hok
  unfold F_X10_isTaken
  rw [show (10 : Int32) = nI 10 from rfl, am_loop_anyO (f := fun s : Int32 => B_X10_isTaken_4 (nI x) (nI y) (nI (cy_n c)) iv s) (p := cy_at c x y) (n := cy_n c) (x := .inl ()) (y := .inr (1 : Int32)) (by omega) (fun i hi => ?_) ?_]
  · unfold cy_tk
    cases cy_any (cy_at c x y) (cy_n c) <;> rfl
  · show B_X10_isTaken_4 (nI x) (nI y) (nI (cy_n c)) iv (nI (10 + cy_n c)) = _
    unfold B_X10_isTaken_4
    rw [show (10 : Int32) = nI 10 from rfl, nI_add, if_pos (Int32.le_refl _)]
  · show B_X10_isTaken_4 (nI x) (nI y) (nI (cy_n c)) iv (nI (10 + i)) = _
    obtain ⟨b1, b2, b3⟩ := h i hi
    obtain ⟨d1, d2, d3, d4, d5, d6⟩ := a8 i hi
    unfold B_X10_isTaken_4 cy_at
    rw [show (10 : Int32) = nI 10 from rfl, nI_add, nle (by omega) (by omega), if_neg (by omega), if_pos (vb (show 10 + i < 20 by omega) (by decide)), if_pos (vb (show 10 + i < 20 by omega) (by decide)), if_pos (vb (show 10 + i < 20 by omega) (by decide)), if_pos (vb (show 10 + i < 20 by omega) (by decide)), am_cl (by omega), b1, b2, b3, nI_add, neq (by omega) (by omega), nlt (by omega) (by omega), nlt (by omega) (by omega), show nI (10 + i) + (1 : Int32) = nI (10 + (i + 1)) from nI_1 (10 + i)]
    by_cases e1 : cy_st c i = y
    · by_cases e2 : x < cy_co c i
      · rw [if_pos e1, if_pos e2]; simp [e1]; intro q; omega
      · by_cases e3 : cy_co c i + cy_wi c i < x
        · rw [if_pos e1, if_neg e2, if_pos e3]; simp [e1]; omega
        · rw [if_pos e1, if_neg e2, if_neg e3]; simp [e1]; omega
    · rw [if_neg e1]; simp [e1]
/-- a city with a drawer more -/
def addD (c : Nat → Nat → Nat) (kd co st le wi : Nat) : Nat → Nat → Nat := fun a b => if a = 0 then (if b = 0 then c 0 0 + 1 else c 0 b) else if b = c 0 0 then (if a = 1 then kd else if a = 2 then co else if a = 3 then st else if a = 4 then le else if a = 5 then wi else c a b) else c a b
variable {kd co st le wi : Nat}
theorem addD_o {a b : Nat} (ha : a ≠ 0) (hb : b ≠ c 0 0) : addD c kd co st le wi a b = c a b := by unfold addD; rw [if_neg ha, if_neg hb]
theorem addD_p {a b : Nat} (ha : 6 ≤ a) : addD c kd co st le wi a b = c a b := by
  unfold addD; rw [if_neg (by omega)]
  by_cases e : b = c 0 0
  · rw [if_pos e, if_neg (by omega), if_neg (by omega), if_neg (by omega), if_neg (by omega), if_neg (by omega)]
  · rw [if_neg e]
theorem addD_0 {b : Nat} (hb : b ≠ 0) : addD c kd co st le wi 0 b = c 0 b := by unfold addD; rw [if_pos rfl, if_neg hb]
theorem addD_n : addD c kd co st le wi 0 0 = c 0 0 + 1 := rfl
theorem addD_1 : addD c kd co st le wi 1 (c 0 0) = kd ∧ addD c kd co st le wi 2 (c 0 0) = co ∧ addD c kd co st le wi 3 (c 0 0) = st ∧ addD c kd co st le wi 4 (c 0 0) = le ∧ addD c kd co st le wi 5 (c 0 0) = wi := by
  unfold addD; simp
theorem addD_ok (h : cy_ok c) (hn : c 0 0 < 10) (h1 : kd ≤ 3) (h2 : co + wi < c 0 4) (h3 : st < c 0 5) (h4 : 1 ≤ le ∧ le ≤ 9) (h5 : wi ≤ 1) : cy_ok (addD c kd co st le wi) := by
  obtain ⟨a1, a2, a3, a4, a5, a6, a7, a8, a9⟩ := h
  obtain ⟨b1, b2, b3, b4, b5⟩ := addD_1 (c := c) (kd := kd) (co := co) (st := st) (le := le) (wi := wi)
  refine ⟨by show c 0 0 + 1 ≤ 10; omega, ?_, ?_, ?_, ?_, ?_, ?_, fun j hj => ?_, fun p hp => ?_⟩
  · show 1 ≤ addD c kd co st le wi 0 1 ∧ addD c kd co st le wi 0 1 ≤ 9
    rw [addD_0 (by decide)]; exact a2
  · show addD c kd co st le wi 0 2 ≤ 5
    rw [addD_0 (by decide)]; exact a3
  · show addD c kd co st le wi 0 3 ≤ 4
    rw [addD_0 (by decide)]; exact a4
  · rw [addD_0 (by decide)]; exact a5
  · rw [addD_0 (by decide)]; exact a6
  · rw [addD_0 (by decide), addD_0 (by decide), addD_0 (by decide), addD_0 (by decide)]; exact a7
  · have hj' : j < c 0 0 + 1 := hj
    show addD c kd co st le wi 1 j ≤ 3 ∧ addD c kd co st le wi 2 j + addD c kd co st le wi 5 j < addD c kd co st le wi 0 4 ∧ addD c kd co st le wi 3 j < addD c kd co st le wi 0 5 ∧ 1 ≤ addD c kd co st le wi 4 j ∧ addD c kd co st le wi 4 j ≤ 9 ∧ addD c kd co st le wi 5 j ≤ 1
    rw [addD_0 (by decide), addD_0 (by decide)]
    by_cases e : j = c 0 0
    · subst e; rw [b1, b2, b3, b4, b5]; exact ⟨h1, h2, h3, h4.1, h4.2, h5⟩
    · rw [addD_o (by decide) e, addD_o (by decide) e, addD_o (by decide) e, addD_o (by decide) e, addD_o (by decide) e]
      exact a8 j (show j < c 0 0 by omega)
  · have hp' : p < c 0 2 := hp
    obtain ⟨d1, d2, d3, d4, d5⟩ := a9 p hp'
    have d1' : c 6 p < c 0 0 := d1
    have d3' : c 7 p ≤ c 0 0 := d3
    show addD c kd co st le wi 6 p < c 0 0 + 1 ∧ addD c kd co st le wi 1 (addD c kd co st le wi 6 p) = 0 ∧ addD c kd co st le wi 7 p ≤ c 0 0 + 1 ∧ (addD c kd co st le wi 7 p ≠ 0 → addD c kd co st le wi 1 (addD c kd co st le wi 7 p - 1) = 1) ∧ addD c kd co st le wi 8 p ≤ 99
    rw [addD_p (a := 6) (by decide), addD_p (a := 7) (by decide), addD_p (a := 8) (by decide), addD_o (by decide) (show c 6 p ≠ c 0 0 by omega)]
    refine ⟨by omega, d2, by omega, fun q => ?_, d5⟩
    rw [addD_o (by decide) (show c 7 p - 1 ≠ c 0 0 by omega)]
    exact d4 q
theorem CP.add (hw : w = 2 ∨ w = 22) (ht : 89 ≤ t) (hrr : 89 ≤ rr) (h : CP w ivc ivm c ρ) (hok : cy_ok (addD c kd co st le wi)) (c0 : ivc' (w + 1) 0 = nI (cy_n c + 1)) (c1 : ivc' (w + 2) (cy_n c) = nI kd ∧ ivc' (w + 3) (cy_n c) = nI co ∧ ivc' (w + 4) (cy_n c) = nI (co + wi) ∧ ivc' (w + 5) (cy_n c) = nI st ∧ ivc' (w + 6) (cy_n c) = nI le)
    (hc : ∀ a k, a ≠ t → a ≠ rr → ¬ (a = w + 1 ∧ k = 0) → ¬ (w + 2 ≤ a ∧ a ≤ w + 6 ∧ k = cy_n c) → ivc' a k = ivc a k) (m0 : ivm' 58 12 = nI (cy_n c + 1)) (m1 : ivm' 59 (10 + cy_n c) = nI kd ∧ ivm' 60 (10 + cy_n c) = nI co ∧ ivm' 61 (10 + cy_n c) = nI st ∧ ivm' 62 (10 + cy_n c) = nI le ∧ ivm' 63 (10 + cy_n c) = nI wi)
    (hm : ∀ a k, (a ≠ 54 ∨ k = 28) → ¬ (a = 58 ∧ k = 12) → ¬ (59 ≤ a ∧ a ≤ 63 ∧ k = 10 + cy_n c) → ivm' a k = ivm a k) : CP w ivc' ivm' (addD c kd co st le wi) ρ := by
  obtain ⟨⟨h1, h1b, h1c⟩, h2, ⟨h3, h3b, h3c⟩, h4, h5, h6, h7⟩ := h
  obtain ⟨b1, b2, b3, b4, b5⟩ := addD_1 (c := c) (kd := kd) (co := co) (st := st) (le := le) (wi := wi)
  have er : cy_r (addD c kd co st le wi) = cy_r c := addD_0 (by decide)
  have hsh : ∀ p, cy_shI (addD c kd co st le wi) p = cy_shI c p := fun p => by unfold cy_shI; rw [show cy_sh (addD c kd co st le wi) p = cy_sh c p from addD_p (by decide)]
  have hc' : ∀ a k, (a < w + 1 ∧ w ≤ a ∨ w + 7 ≤ a ∧ a ≤ w + 16) → ivc' a k = ivc a k := fun a k q => hc a k (by omega) (by omega) (by omega) (by omega)
  have hc2 : ∀ a k, w + 2 ≤ a → a ≤ w + 6 → k ≠ cy_n c → ivc' a k = ivc a k := fun a k q1 q2 q3 => hc a k (by omega) (by omega) (by omega) (by omega)
  refine ⟨⟨?_, fun j hj => ?_, fun p hp => ?_⟩, ?_, ⟨?_, fun j hj => ?_, fun p hp => ?_⟩, hok, ?_, ?_, ?_⟩
  · rw [c0, hc' _ _ (by omega), hc' _ _ (by omega), hc' _ _ (by omega), hc' _ _ (by omega), hc' _ _ (by omega), er, show cy_re (addD c kd co st le wi) = cy_re c from addD_0 (by decide), show cy_p (addD c kd co st le wi) = cy_p c from addD_0 (by decide), addD_0 (by decide), addD_0 (by decide)]
    exact ⟨h1.1, h1.2.1, h1.2.2.1, rfl, h1.2.2.2.2⟩
  · have hj' : j < c 0 0 + 1 := hj
    by_cases e : j = c 0 0
    · subst e
      show ivc' (w + 2) (cy_n c) = nI (addD c kd co st le wi 1 (c 0 0)) ∧ ivc' (w + 3) (cy_n c) = nI (addD c kd co st le wi 2 (c 0 0)) ∧ ivc' (w + 4) (cy_n c) = nI (addD c kd co st le wi 2 (c 0 0) + addD c kd co st le wi 5 (c 0 0)) ∧ ivc' (w + 5) (cy_n c) = nI (addD c kd co st le wi 3 (c 0 0)) ∧ ivc' (w + 6) (cy_n c) = nI (addD c kd co st le wi 4 (c 0 0))
      rw [b1, b2, b3, b4, b5]; exact c1
    · show ivc' (w + 2) j = nI (addD c kd co st le wi 1 j) ∧ ivc' (w + 3) j = nI (addD c kd co st le wi 2 j) ∧ ivc' (w + 4) j = nI (addD c kd co st le wi 2 j + addD c kd co st le wi 5 j) ∧ ivc' (w + 5) j = nI (addD c kd co st le wi 3 j) ∧ ivc' (w + 6) j = nI (addD c kd co st le wi 4 j)
      rw [addD_o (by decide) e, addD_o (by decide) e, addD_o (by decide) e, addD_o (by decide) e, addD_o (by decide) e, hc2 _ _ (by omega) (by omega) e, hc2 _ _ (by omega) (by omega) e, hc2 _ _ (by omega) (by omega) e, hc2 _ _ (by omega) (by omega) e, hc2 _ _ (by omega) (by omega) e]
      exact h1b j (show j < c 0 0 by omega)
  · have hp' : p < c 0 2 := hp
    rw [hsh, hc' _ _ (by omega), hc' _ _ (by omega), hc' _ _ (by omega), show cy_ho (addD c kd co st le wi) p = cy_ho c p from addD_p (by decide), show cy_we (addD c kd co st le wi) p = cy_we c p from addD_p (by decide)]
    exact h1c p hp'
  · unfold cl_B
    rw [hc' _ _ (by omega), hc' _ _ (by omega), hc' _ _ (by omega), hc' _ _ (by omega), addD_0 (by decide), addD_0 (by decide), addD_0 (by decide), addD_0 (by decide)]
    exact h2
  · rw [m0, hm _ _ (by omega) (by omega) (by omega), hm _ _ (by omega) (by omega) (by omega), hm _ _ (by omega) (by omega) (by omega), hm _ _ (by omega) (by omega) (by omega), hm _ _ (by omega) (by omega) (by omega), hm _ _ (by omega) (by omega) (by omega), hm _ _ (by omega) (by omega) (by omega), hm _ _ (by omega) (by omega) (by omega), hm _ _ (by omega) (by omega) (by omega), er, show cy_re (addD c kd co st le wi) = cy_re c from addD_0 (by decide), show cy_p (addD c kd co st le wi) = cy_p c from addD_0 (by decide), addD_0 (by decide), addD_0 (by decide), addD_0 (by decide), addD_0 (by decide), addD_0 (by decide), addD_0 (by decide)]
    exact ⟨h3.1, h3.2.1, rfl, h3.2.2.2⟩
  · have hj' : j < c 0 0 + 1 := hj
    by_cases e : j = c 0 0
    · subst e
      show ivm' 59 (10 + cy_n c) = nI (addD c kd co st le wi 1 (c 0 0)) ∧ ivm' 60 (10 + cy_n c) = nI (addD c kd co st le wi 2 (c 0 0)) ∧ ivm' 61 (10 + cy_n c) = nI (addD c kd co st le wi 3 (c 0 0)) ∧ ivm' 62 (10 + cy_n c) = nI (addD c kd co st le wi 4 (c 0 0)) ∧ ivm' 63 (10 + cy_n c) = nI (addD c kd co st le wi 5 (c 0 0))
      rw [b1, b2, b3, b4, b5]; exact m1
    · show ivm' 59 (10 + j) = nI (addD c kd co st le wi 1 j) ∧ ivm' 60 (10 + j) = nI (addD c kd co st le wi 2 j) ∧ ivm' 61 (10 + j) = nI (addD c kd co st le wi 3 j) ∧ ivm' 62 (10 + j) = nI (addD c kd co st le wi 4 j) ∧ ivm' 63 (10 + j) = nI (addD c kd co st le wi 5 j)
      have e' : ¬ (10 + j = 10 + cy_n c) := fun q => e (show j = c 0 0 from Nat.add_left_cancel q)
      rw [addD_o (by decide) e, addD_o (by decide) e, addD_o (by decide) e, addD_o (by decide) e, addD_o (by decide) e, hm _ _ (by omega) (by omega) (by omega), hm _ _ (by omega) (by omega) (by omega), hm _ _ (by omega) (by omega) (by omega), hm _ _ (by omega) (by omega) (by omega), hm _ _ (by omega) (by omega) (by omega)]
      exact h3b j (show j < c 0 0 by omega)
  · have hp' : p < c 0 2 := hp
    rw [hsh, hm _ _ (by omega) (by omega) (by omega), hm _ _ (by omega) (by omega) (by omega), hm _ _ (by omega) (by omega) (by omega), show cy_ho (addD c kd co st le wi) p = cy_ho c p from addD_p (by decide), show cy_we (addD c kd co st le wi) p = cy_we c p from addD_p (by decide)]
    exact h3c p hp'
  · rw [er]
    exact ⟨fun r hr => by rw [hc' _ _ (by omega)]; exact h5.1 r hr, by rw [hc' _ _ (by omega)]; exact h5.2.1, fun k hk => by rw [hc' _ _ (by omega)]; exact h5.2.2 k hk⟩
  · rw [er]
    exact ⟨fun r hr => by rw [hm _ _ (by omega) (by omega) (by omega), hm _ _ (by omega) (by omega) (by omega)]; exact h6.1 r hr, by rw [hm _ _ (by omega) (by omega) (by omega)]; exact h6.2.1, fun k hk => by rw [hm _ _ (by omega) (by omega) (by omega)]; exact h6.2.2 k hk⟩
  · rw [er]; exact h7
end B83
