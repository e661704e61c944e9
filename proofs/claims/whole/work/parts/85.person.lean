/-! reading a line on both sides: a person -/
/-- a city with a person more -/
def addP (c : Nat → Nat → Nat) (ho sh we : Nat) : Nat → Nat → Nat := fun a b => if a = 0 then (if b = 2 then c 0 2 + 1 else c 0 b) else if b = c 0 2 then (if a = 6 then ho else if a = 7 then sh else if a = 8 then we else c a b) else c a b
section B85
variable {w t rr xr : Nat} {ivc ivm ivc' ivm' iv : am_I} {τ : Nat → Nat} {n ty fi be : Nat} {c : Nat → Nat → Nat} {ρ : ru_T} {f : Nat → Bool} {ho sh we : Nat}
theorem addP_o {a b : Nat} (ha : a ≠ 0) (hb : b ≠ c 0 2) : addP c ho sh we a b = c a b := by unfold addP; rw [if_neg ha, if_neg hb]
theorem addP_p {a b : Nat} (h0 : a ≠ 0) (ha : a < 6) : addP c ho sh we a b = c a b := by
  unfold addP; rw [if_neg h0]
  by_cases e : b = c 0 2
  · rw [if_pos e, if_neg (by omega), if_neg (by omega), if_neg (by omega)]
  · rw [if_neg e]
theorem addP_0 {b : Nat} (hb : b ≠ 2) : addP c ho sh we 0 b = c 0 b := by unfold addP; rw [if_pos rfl, if_neg hb]
theorem addP_1 : addP c ho sh we 6 (c 0 2) = ho ∧ addP c ho sh we 7 (c 0 2) = sh ∧ addP c ho sh we 8 (c 0 2) = we := by unfold addP; simp
theorem addP_ok (h : cy_ok c) (hn : c 0 2 < 5) (h1 : ho < c 0 0) (h2 : c 1 ho = 0) (h3 : sh ≤ c 0 0) (h4 : sh ≠ 0 → c 1 (sh - 1) = 1) (h5 : we ≤ 99) : cy_ok (addP c ho sh we) := by
  obtain ⟨a1, a2, a3, a4, a5, a6, a7, a8, a9⟩ := h
  obtain ⟨b1, b2, b3⟩ := addP_1 (c := c) (ho := ho) (sh := sh) (we := we)
  refine ⟨?_, ?_, by show c 0 2 + 1 ≤ 5; omega, ?_, ?_, ?_, ?_, fun j hj => ?_, fun p hp => ?_⟩
  · show addP c ho sh we 0 0 ≤ 10
    rw [addP_0 (by decide)]; exact a1
  · show 1 ≤ addP c ho sh we 0 1 ∧ addP c ho sh we 0 1 ≤ 9
    rw [addP_0 (by decide)]; exact a2
  · show addP c ho sh we 0 3 ≤ 4
    rw [addP_0 (by decide)]; exact a4
  · rw [addP_0 (by decide)]; exact a5
  · rw [addP_0 (by decide)]; exact a6
  · rw [addP_0 (by decide), addP_0 (by decide), addP_0 (by decide), addP_0 (by decide)]; exact a7
  · have hj' : j < c 0 0 := hj
    show addP c ho sh we 1 j ≤ 3 ∧ addP c ho sh we 2 j + addP c ho sh we 5 j < addP c ho sh we 0 4 ∧ addP c ho sh we 3 j < addP c ho sh we 0 5 ∧ 1 ≤ addP c ho sh we 4 j ∧ addP c ho sh we 4 j ≤ 9 ∧ addP c ho sh we 5 j ≤ 1
    rw [addP_0 (by decide), addP_0 (by decide), addP_p (a := 1) (by decide) (by decide), addP_p (a := 2) (by decide) (by decide), addP_p (a := 3) (by decide) (by decide), addP_p (a := 4) (by decide) (by decide), addP_p (a := 5) (by decide) (by decide)]
    exact a8 j hj'
  · have hp' : p < c 0 2 + 1 := hp
    show addP c ho sh we 6 p < addP c ho sh we 0 0 ∧ addP c ho sh we 1 (addP c ho sh we 6 p) = 0 ∧ addP c ho sh we 7 p ≤ addP c ho sh we 0 0 ∧ (addP c ho sh we 7 p ≠ 0 → addP c ho sh we 1 (addP c ho sh we 7 p - 1) = 1) ∧ addP c ho sh we 8 p ≤ 99
    rw [addP_0 (by decide), addP_p (a := 1) (by decide) (by decide), addP_p (a := 1) (by decide) (by decide)]
    by_cases e : p = c 0 2
    · subst e; rw [b1, b2, b3]; exact ⟨h1, h2, h3, h4, h5⟩
    · rw [addP_o (by decide) e, addP_o (by decide) e, addP_o (by decide) e]
      exact a9 p (show p < c 0 2 by omega)
theorem CP.person (hw : w = 2 ∨ w = 22) (ht : 89 ≤ t) (hrr : 89 ≤ rr) (h : CP w ivc ivm c ρ) (hok : cy_ok (addP c ho sh we)) (c0 : ivc' (w + 10) 0 = nI (cy_p c + 1)) (c1 : ivc' (w + 11) (cy_p c) = nI ho ∧ ivc' (w + 12) (cy_p c) = (if sh = 0 then -1 else nI (sh - 1)) ∧ ivc' (w + 13) (cy_p c) = nI we)
    (hc : ∀ a k, a ≠ t → a ≠ rr → ¬ (a = w + 10 ∧ k = 0) → ¬ (w + 11 ≤ a ∧ a ≤ w + 13 ∧ k = cy_p c) → ivc' a k = ivc a k) (m0 : ivm' 58 13 = nI (cy_p c + 1)) (m1 : ivm' 64 (5 + cy_p c) = nI ho ∧ ivm' 65 (5 + cy_p c) = (if sh = 0 then -1 else nI (sh - 1)) ∧ ivm' 66 (5 + cy_p c) = nI we)
    (hm : ∀ a k, (a ≠ 54 ∨ k = 28) → ¬ (a = 58 ∧ k = 13) → ¬ (64 ≤ a ∧ a ≤ 66 ∧ k = 5 + cy_p c) → ivm' a k = ivm a k) : CP w ivc' ivm' (addP c ho sh we) ρ := by
  obtain ⟨⟨h1, h1b, h1c⟩, h2, ⟨h3, h3b, h3c⟩, h4, h5, h6, h7⟩ := h
  obtain ⟨b1, b2, b3⟩ := addP_1 (c := c) (ho := ho) (sh := sh) (we := we)
  have er : cy_r (addP c ho sh we) = cy_r c := addP_0 (by decide)
  have en : cy_n (addP c ho sh we) = cy_n c := addP_0 (by decide)
  have hc' : ∀ a k, (a < w + 10 ∧ w ≤ a ∨ w + 14 ≤ a ∧ a ≤ w + 16) → ivc' a k = ivc a k := fun a k q => hc a k (by omega) (by omega) (by omega) (by omega)
  have hc2 : ∀ a k, w + 11 ≤ a → a ≤ w + 13 → k ≠ cy_p c → ivc' a k = ivc a k := fun a k q1 q2 q3 => hc a k (by omega) (by omega) (by omega) (by omega)
  have hm' : ∀ a k, (a ≠ 54 ∨ k = 28) → ¬ (a = 58 ∧ k = 13) → (a < 64 ∨ 66 < a) → ivm' a k = ivm a k := fun a k q1 q2 q3 => hm a k q1 q2 (by omega)
  refine ⟨⟨?_, fun j hj => ?_, fun p hp => ?_⟩, ?_, ⟨?_, fun j hj => ?_, fun p hp => ?_⟩, hok, ?_, ?_, ?_⟩
  · rw [c0, hc' _ _ (by omega), hc' _ _ (by omega), hc' _ _ (by omega), hc' _ _ (by omega), hc' _ _ (by omega), er, en, show cy_re (addP c ho sh we) = cy_re c from addP_0 (by decide), addP_0 (by decide), addP_0 (by decide)]
    exact ⟨h1.1, h1.2.1, h1.2.2.1, h1.2.2.2.1, rfl, h1.2.2.2.2.2⟩
  · rw [en] at hj
    show ivc' (w + 2) j = nI (addP c ho sh we 1 j) ∧ ivc' (w + 3) j = nI (addP c ho sh we 2 j) ∧ ivc' (w + 4) j = nI (addP c ho sh we 2 j + addP c ho sh we 5 j) ∧ ivc' (w + 5) j = nI (addP c ho sh we 3 j) ∧ ivc' (w + 6) j = nI (addP c ho sh we 4 j)
    rw [hc' _ _ (by omega), hc' _ _ (by omega), hc' _ _ (by omega), hc' _ _ (by omega), hc' _ _ (by omega), addP_p (a := 1) (by decide) (by decide), addP_p (a := 2) (by decide) (by decide), addP_p (a := 3) (by decide) (by decide), addP_p (a := 4) (by decide) (by decide), addP_p (a := 5) (by decide) (by decide)]
    exact h1b j hj
  · have hp' : p < c 0 2 + 1 := hp
    unfold cy_shI
    show ivc' (w + 11) p = nI (addP c ho sh we 6 p) ∧ ivc' (w + 12) p = (if addP c ho sh we 7 p = 0 then -1 else nI (addP c ho sh we 7 p - 1)) ∧ ivc' (w + 13) p = nI (addP c ho sh we 8 p)
    by_cases e : p = c 0 2
    · subst e
      rw [b1, b2, b3]; exact c1
    · rw [addP_o (by decide) e, addP_o (by decide) e, addP_o (by decide) e, hc2 _ _ (by omega) (by omega) e, hc2 _ _ (by omega) (by omega) e, hc2 _ _ (by omega) (by omega) e]
      exact h1c p (show p < c 0 2 by omega)
  · unfold cl_B
    rw [hc' _ _ (by omega), hc' _ _ (by omega), hc' _ _ (by omega), hc' _ _ (by omega), addP_0 (by decide), addP_0 (by decide), addP_0 (by decide), addP_0 (by decide)]
    exact h2
  · rw [m0, hm' _ _ (by omega) (by omega) (by omega), hm' _ _ (by omega) (by omega) (by omega), hm' _ _ (by omega) (by omega) (by omega), hm' _ _ (by omega) (by omega) (by omega), hm' _ _ (by omega) (by omega) (by omega), hm' _ _ (by omega) (by omega) (by omega), hm' _ _ (by omega) (by omega) (by omega), hm' _ _ (by omega) (by omega) (by omega), hm' _ _ (by omega) (by omega) (by omega), er, en, show cy_re (addP c ho sh we) = cy_re c from addP_0 (by decide), addP_0 (by decide), addP_0 (by decide), addP_0 (by decide), addP_0 (by decide), addP_0 (by decide), addP_0 (by decide)]
    exact ⟨h3.1, h3.2.1, h3.2.2.1, rfl, h3.2.2.2.2⟩
  · rw [en] at hj
    show ivm' 59 (10 + j) = nI (addP c ho sh we 1 j) ∧ ivm' 60 (10 + j) = nI (addP c ho sh we 2 j) ∧ ivm' 61 (10 + j) = nI (addP c ho sh we 3 j) ∧ ivm' 62 (10 + j) = nI (addP c ho sh we 4 j) ∧ ivm' 63 (10 + j) = nI (addP c ho sh we 5 j)
    rw [hm' _ _ (by omega) (by omega) (by omega), hm' _ _ (by omega) (by omega) (by omega), hm' _ _ (by omega) (by omega) (by omega), hm' _ _ (by omega) (by omega) (by omega), hm' _ _ (by omega) (by omega) (by omega), addP_p (a := 1) (by decide) (by decide), addP_p (a := 2) (by decide) (by decide), addP_p (a := 3) (by decide) (by decide), addP_p (a := 4) (by decide) (by decide), addP_p (a := 5) (by decide) (by decide)]
    exact h3b j hj
  · have hp' : p < c 0 2 + 1 := hp
    unfold cy_shI
    show ivm' 64 (5 + p) = nI (addP c ho sh we 6 p) ∧ ivm' 65 (5 + p) = (if addP c ho sh we 7 p = 0 then -1 else nI (addP c ho sh we 7 p - 1)) ∧ ivm' 66 (5 + p) = nI (addP c ho sh we 8 p)
    by_cases e : p = c 0 2
    · subst e
      rw [b1, b2, b3]; exact m1
    · have e' : ¬ (5 + p = 5 + cy_p c) := fun q => e (show p = c 0 2 from Nat.add_left_cancel q)
      rw [addP_o (by decide) e, addP_o (by decide) e, addP_o (by decide) e, hm _ _ (by omega) (by omega) (by omega), hm _ _ (by omega) (by omega) (by omega), hm _ _ (by omega) (by omega) (by omega)]
      exact h3c p (show p < c 0 2 by omega)
  · rw [er]
    exact ⟨fun r hr => by rw [hc' _ _ (by omega)]; exact h5.1 r hr, by rw [hc' _ _ (by omega)]; exact h5.2.1, fun k hk => by rw [hc' _ _ (by omega)]; exact h5.2.2 k hk⟩
  · rw [er]
    exact ⟨fun r hr => by rw [hm' _ _ (by omega) (by omega) (by omega), hm' _ _ (by omega) (by omega) (by omega)]; exact h6.1 r hr, by rw [hm' _ _ (by omega) (by omega) (by omega)]; exact h6.2.1, fun k hk => by rw [hm' _ _ (by omega) (by omega) (by omega)]; exact h6.2.2 k hk⟩
  · rw [er]; exact h7
theorem K_addP {m : Nat} {i1 : Int32} (h : iv (w + 10) 0 = nI m) (hm : m < 5) : F_X4_add w i1 iv = some (am_w (am_w (am_w (am_w iv (w + 11) m i1) (w + 12) m (-1)) (w + 13) m 1) (w + 10) 0 (nI (m + 1))) := by
  unfold F_X4_add
  have o1 : ∀ (x : am_I) (k : Nat) (v : Int32), am_w x (w + 11) k v (w + 10) 0 = x (w + 10) 0 := fun x k v => by rw [am_w_other _ _ _ (by omega)]
  have o2 : ∀ (x : am_I) (k : Nat) (v : Int32), am_w x (w + 12) k v (w + 10) 0 = x (w + 10) 0 := fun x k v => by rw [am_w_other _ _ _ (by omega)]
  have o3 : ∀ (x : am_I) (k : Nat) (v : Int32), am_w x (w + 13) k v (w + 10) 0 = x (w + 10) 0 := fun x k v => by rw [am_w_other _ _ _ (by omega)]
  simp only [o1, o2, o3, h, am_cl (show m < 65536 by omega), vb hm (by decide), if_true, show nI m + (1 : Int32) = nI (m + 1) from nI_1 m]
  rw [if_neg (show ¬ (5 : Int32) ≤ nI m from nI_ge hm (by decide))]
/-- a drawer of a kind told on both sides -/
theorem S_of {i : Nat} (hx : TX τ n) (hw : w = 2 ∨ w = 22) (ht : 89 ≤ t) (hrr : 89 ≤ rr) (hr : rr ≠ t) (h : TR t ivc ivm τ n ty fi be) (hok : cy_ok c) (hi : i < 4) (hcn : ivc (w + 1) 0 = nI (cy_n c)) (hck : ∀ j, j < cy_n c → ivc (w + 2) j = nI (cy_kd c j)) (hmn : ivm 58 12 = nI (cy_n c)) (hmk : ∀ j, j < cy_n c → ivm 59 (10 + j) = nI (cy_kd c j)) :
    (∃ v ivc' ivm' ty' fi' be', v < cy_n c ∧ cy_kd c v = i ∧ F_X1_readDrawerOf w t rr xr (nI i) ivc = some (1, ivc') ∧ F_X10_readOne (nI i) ivm = some (nI v, ivm') ∧ ivc' rr 6 = nI v ∧ TR t ivc' ivm' τ n ty' fi' be' ∧ fi < fi' ∧ fC t rr ivc ivc' ∧ fM ivm ivm') ∨
    (∃ ivc' ivm' x, F_X1_readDrawerOf w t rr xr (nI i) ivc = some (0, ivc') ∧ F_X10_readOne (nI i) ivm = some (x, ivm') ∧ EE t ivc' ivm' ∧ fM ivm ivm') := by
  obtain ⟨k1, k2, k3, k4, k5, k6, k7, k8, k9⟩ := hok
  unfold F_X1_readDrawerOf F_X10_readOne J_X10_readOne_35 J_X10_readOne_60
  have sn := S_see (w := w) (xr := xr) (lo := 0) (hi := 9999) hx h ht hrr hr (by decide) (by decide)
  rw [show nI 0 = (0 : Int32) from rfl, show nI 9999 = (9999 : Int32) from rfl] at sn
  rcases sn with ⟨v, y1, y2, y3, g1, g2⟩ | ⟨ivc3, ivm3, g1, g2, g3, g4⟩
  · have h' : TR t (am_w ivc rr 6 (nI v)) ivm τ n ty fi be := h.wc (by omega) hr
    have h25 := h.2.2.2
    rw [g1, am_o2_s, if_neg (show ¬ (1 : Int32) = 0 by decide), g2, am_o2_s, if_pos h25, show (12 : Int32).toNatClampNeg = 12 from by decide, hmn, show am_w ivc rr 6 (nI v) rr 6 = nI v by rw [am_w_r, if_pos rfl, if_pos rfl], am_w_other _ _ _ (show w + 1 ≠ rr by omega), am_w_other _ _ _ (show w + 2 ≠ rr by omega), hcn, nlt (by omega) (by omega), nlt (by omega) (by omega)]
    by_cases q : v < cy_n c
    · have hkv := hck v q
      have hmv := hmk v q
      have hkk := (k8 v q).1
      rw [if_pos q, if_pos q, if_pos (vb (show v < 10 by omega) (by decide)), am_cl (show v < 65536 by omega), hkv, neq (by omega) (by omega), if_pos h25, show (10 : Int32) + nI v = nI (10 + v) from nI_add 10 v, if_pos (vb (show 10 + v < 20 by omega) (by decide)), am_cl (show 10 + v < 65536 by omega), hmv, neq (by omega) (by omega)]
      by_cases e : cy_kd c v = i
      · obtain ⟨ivc1, ivm1, a1, a2, a3, a4, a5, a6⟩ := h'.adv hx ht t
        have hfb := (h.2.2.1.2.2.2.2.1 (by omega)).1
        rw [if_pos e, if_pos e, a1, am_o1_s, if_pos h25, a2, am_o1_s]
        refine Or.inl ⟨v, ivc1, ivm1, _, _, _, q, e, rfl, rfl, ?_, a3, by omega, fun a k ha hk => ?_, a6⟩
        · rw [a5 rr 6 hr (Or.inl hr), am_w_r, if_pos rfl, if_pos rfl]
        · rw [a5 a k ha (Or.inl ha), am_w_r]
          by_cases e : a = rr
          · rw [if_pos e, if_neg (by omega)]
          · rw [if_neg e]
      · unfold F_X8_refuse
        rw [if_neg e, if_neg e, am_o2_s, if_pos (Or.inl rfl), P_wrong h25, am_o1_s, if_neg (nbw (by decide))]
        exact Or.inr ⟨_, _, _, rfl, rfl, EE.of h'.1 h'.2.1 (by decide), fM.wr⟩
    · unfold F_X8_refuse
      rw [if_neg q, if_neg q, am_o2_s, if_pos (Or.inl rfl), P_wrong h25, am_o1_s, if_neg (nbw (by decide))]
      exact Or.inr ⟨_, _, _, rfl, rfl, EE.of h'.1 h'.2.1 (by decide), fM.wr⟩
  · rw [g1, am_o2_s, if_pos (show (0 : Int32) = 0 from rfl), g2, am_o2_s, if_neg g3.1, if_neg g3.1, if_neg g3.1]
    exact Or.inr ⟨_, _, _, rfl, rfl, g3, g4⟩
end B85
