/-! who, odds -/
theorem am_abs : ∀ a, a < 10 → ∀ b, b < 10 → ∀ r, r < 10 → decide (nI r < (if 0 ≤ nI a - nI b then nI a - nI b else -(nI a - nI b))) = !(decide (a ≤ b + r) && decide (b ≤ a + r)) := by decide +kernel
theorem am_apart2 : ∀ a, a < 7 → ∀ b, b < 7 → ∀ x, x < 2 → ∀ y, y < 2 → (if (0 : Int32) < (if nI a - nI b - nI y < nI b - nI a - nI x then nI b - nI a - nI x else nI a - nI b - nI y) then (if nI a - nI b - nI y < nI b - nI a - nI x then nI b - nI a - nI x else nI a - nI b - nI y) else 0) = nI (max (a - (b + y)) (b - (a + x))) := by decide +kernel
section B57
variable {w pp np : Nat} {iv iv' iv2 : am_I} {c : Nat → Nat → Nat} {ρ : ru_T}
def cy_hd (c : Nat → Nat → Nat) (o d p : Nat) : Bool := !decide (cy_ho c p = d) && (o.testBit (cy_ho c p) && ((decide (cy_st c (cy_ho c p) ≤ cy_st c d + cy_re c) && decide (cy_st c d ≤ cy_st c (cy_ho c p) + cy_re c)) && decide (cy_ap c (cy_ho c p) d ≤ 1)))
theorem P_columnsApart (hC : mo_C iv c) (hc : cy_ok c) {a b : Nat} (ha : a < cy_n c) (hb : b < cy_n c) : F_X10_columnsApart (nI a) (nI b) iv = some (nI (cy_ap c a b)) := by
  have hn := hc.1
  have ga := hc.2.2.2.2.2.2.2.1 a ha
  have gb := hc.2.2.2.2.2.2.2.1 b hb
  have h4 := hc.2.2.2.2.1.2
  obtain ⟨-, a2, -, -, a5⟩ := hC.2.1 a ha
  obtain ⟨-, b2, -, -, b5⟩ := hC.2.1 b hb
  unfold F_X10_columnsApart
  have va : vp_b (nI a) 20 = true := vb (by omega) (by decide)
  have vb' : vp_b (nI b) 20 = true := vb (by omega) (by decide)
  rw [if_pos va, if_pos vb', if_pos vb', if_pos vb', if_pos va, if_pos va, am_cl (show a < 65536 by omega), am_cl (show b < 65536 by omega), a2, a5, b2, b5, am_apart2 _ (by omega) _ (by omega) _ (by omega) _ (by omega)]
  rfl
theorem K_handsNear {o d : Nat} (hC : cl_C w iv c) (hc : cy_ok c) (ho : o < 1024) (hd : d < cy_n c) : F_X0_handsNear w (nI d) (nI o) iv = some (nI (cy_bits (cy_hd c o d) (cy_p c))) := by
  have hn := hc.1
  have hp5 := hc.2.2.1
  have gd := hc.2.2.2.2.2.2.2.1 d hd
  have h59 := hc.2.2.2.2.2.1.2
  have h46 := hc.2.2.2.2.1.2
  have hre := hc.2.1
  obtain ⟨-, -, -, d4, -⟩ := hC.2.1 d hd
  have hl : am_loop (fun s : (Int32 × Int32) => B_X0_handsNear_5 w (nI d) (nI o) iv s.1 s.2) ((0 : Int32), (0 : Int32)) = some (nI (cy_bits (cy_hd c o d) (cy_p c))) := by
    refine am_loop_seq (fun i => (nI (cy_bits (cy_hd c o d) i), nI i)) (cy_p c) (by omega) rfl (fun p hp => ?_) ?_
    · obtain ⟨g1, g2, g3, g4, g5⟩ := hc.2.2.2.2.2.2.2.2 p hp
      obtain ⟨k1, -, -⟩ := hC.2.2 p hp
      obtain ⟨-, -, -, h4, -⟩ := hC.2.1 _ g1
      have gh := hc.2.2.2.2.2.2.2.1 _ g1
      show B_X0_handsNear_5 _ _ _ _ (nI (cy_bits _ p)) (nI p) = some (Sum.inl (nI (cy_bits (cy_hd c o d) p ||| if cy_hd c o d p then 2 ^ p else 0), nI (p + 1)))
      unfold B_X0_handsNear_5
      have ab := am_abs (cy_st c (cy_ho c p)) (by omega) (cy_st c d) (by omega) (cy_re c) (by omega)
      rw [hC.1.2.2.2.2.1, nle (by omega) (by omega), if_neg (by omega), if_pos (vb (show p < 5 by omega) (by decide)), am_cl (show p < 65536 by omega), k1, am_cl (show cy_ho c p < 65536 by omega), am_cl (show d < 65536 by omega), h4, d4, hC.1.2.2.1, if_pos (vb (show cy_ho c p < 10 by omega) (by decide)), if_pos (vb (show d < 10 by omega) (by decide)), K_columnsApart hC hc g1 hd, am_o1_s, am_shl1 p (by omega), fa_or, nI_1]
      rw [neq (by omega) (by omega)]
      unfold cy_hd
      by_cases h1 : cy_ho c p = d
      · rw [if_pos h1]; simp [h1]
      · rw [if_neg h1]
        by_cases h2 : o.testBit (cy_ho c p) = false
        · rw [if_pos ((am_bitt (by omega)).mpr h2)]; simp [h2]
        · rw [if_neg (fun q => h2 ((am_bitt (by omega)).mp q))]
          have h2' : o.testBit (cy_ho c p) = true := by simpa using h2
          by_cases h3 : nI (cy_re c) < (if 0 ≤ nI (cy_st c (cy_ho c p)) - nI (cy_st c d) then nI (cy_st c (cy_ho c p)) - nI (cy_st c d) else -(nI (cy_st c (cy_ho c p)) - nI (cy_st c d)))
          · rw [if_pos h3]
            rw [decide_eq_true h3] at ab
            have ab' : (decide (cy_st c (cy_ho c p) ≤ cy_st c d + cy_re c) && decide (cy_st c d ≤ cy_st c (cy_ho c p) + cy_re c)) = false := by
              revert ab
              cases (decide (cy_st c (cy_ho c p) ≤ cy_st c d + cy_re c) && decide (cy_st c d ≤ cy_st c (cy_ho c p) + cy_re c)) <;> simp
            rw [ab']; simp
          · rw [if_neg h3]
            rw [decide_eq_false h3] at ab
            have ab' : (decide (cy_st c (cy_ho c p) ≤ cy_st c d + cy_re c) && decide (cy_st c d ≤ cy_st c (cy_ho c p) + cy_re c)) = true := by
              revert ab
              cases (decide (cy_st c (cy_ho c p) ≤ cy_st c d + cy_re c) && decide (cy_st c d ≤ cy_st c (cy_ho c p) + cy_re c)) <;> simp
            rw [ab', h2']
            have hap : cy_ap c (cy_ho c p) d < 65536 := by unfold cy_ap; omega
            rw [show (1 : Int32) = nI 1 from rfl, nlt (by omega) hap]
            by_cases h4 : 1 < cy_ap c (cy_ho c p) d
            · rw [if_pos h4]; simp [h1, show ¬ cy_ap c (cy_ho c p) d ≤ 1 by omega]
            · rw [if_neg h4]; simp [h1, show cy_ap c (cy_ho c p) d ≤ 1 by omega]
    · show B_X0_handsNear_5 _ _ _ _ _ (nI (cy_p c)) = _
      unfold B_X0_handsNear_5
      rw [hC.1.2.2.2.2.1, if_pos (Int32.le_refl _)]
  unfold F_X0_handsNear
  rw [hl, am_o1_s]
theorem P_whoCould {o d : Nat} (hC : mo_C iv c) (hc : cy_ok c) (h29 : iv 54 29 = nI o) (ho : o < 1024) (hd : d < cy_n c) : F_X10_whoCould (nI d) iv = some (nI (cy_bits (cy_hd c o d) (cy_p c))) := by
  have hn := hc.1
  have hp5 := hc.2.2.1
  have gd := hc.2.2.2.2.2.2.2.1 d hd
  have h59 := hc.2.2.2.2.2.1.2
  have h46 := hc.2.2.2.2.1.2
  have hre := hc.2.1
  obtain ⟨-, -, d3, -, -⟩ := hC.2.1 d hd
  obtain ⟨-, -, -, q3, q4, -⟩ := hC.1
  have hl : am_loop (fun s : (Int32 × Int32) => B_X10_whoCould_4 (nI d) iv s.1 s.2) ((0 : Int32), (0 : Int32)) = some (nI (cy_bits (cy_hd c o d) (cy_p c))) := by
    refine am_loop_seq (fun i => (nI (cy_bits (cy_hd c o d) i), nI i)) (cy_p c) (by omega) rfl (fun p hp => ?_) ?_
    · obtain ⟨g1, g2, g3, g4, g5⟩ := hc.2.2.2.2.2.2.2.2 p hp
      obtain ⟨k1, -, -⟩ := hC.2.2 p hp
      obtain ⟨-, -, h3, -, -⟩ := hC.2.1 _ g1
      have gh := hc.2.2.2.2.2.2.2.1 _ g1
      show B_X10_whoCould_4 _ _ (nI (cy_bits _ p)) (nI p) = some (Sum.inl (nI (cy_bits (cy_hd c o d) p ||| if cy_hd c o d p then 2 ^ p else 0), nI (p + 1)))
      unfold B_X10_whoCould_4
      have ab := am_abs (cy_st c (cy_ho c p)) (by omega) (cy_st c d) (by omega) (cy_re c) (by omega)
      rw [cl3, q3, nle (by omega) (by omega), if_neg (by omega), if_pos (vb (show p < 10 by omega) (by decide)), am_cl (show p < 65536 by omega), k1, am_cl (show cy_ho c p < 65536 by omega), am_cl (show d < 65536 by omega), h3, d3, cl4, q4, if_pos (vb (show cy_ho c p < 20 by omega) (by decide)), if_pos (vb (show d < 20 by omega) (by decide)), P_columnsApart hC hc g1 hd, am_o1_s, h29, P_has ho (by omega), am_o1_s, ifb]
      unfold J_X10_whoCould_81 J_X10_whoCould_82 J_X10_whoCould_97
      rw [if_pos (show (0 : Int32) = 0 from rfl), if_neg (show ¬ (1 : Int32) = 0 by decide), am_shl1 p (by omega), fa_or, nI_1, show nI (cy_bits (cy_hd c o d) p) ||| (0 : Int32) = nI (cy_bits (cy_hd c o d) p ||| 0) from fa_or _ 0, Nat.or_zero]
      rw [neq (by omega) (by omega)]
      have hh : cy_hd c o d p = (!decide (cy_ho c p = d) && (o.testBit (cy_ho c p) && ((decide (cy_st c (cy_ho c p) ≤ cy_st c d + cy_re c) && decide (cy_st c d ≤ cy_st c (cy_ho c p) + cy_re c)) && decide (cy_ap c (cy_ho c p) d ≤ 1)))) := rfl
      by_cases h1 : cy_ho c p = d
      · rw [if_pos h1, hh]; simp [h1]
      · rw [if_neg h1]
        cases h2 : o.testBit (cy_ho c p) with
        | false => rw [hh, h2]; simp
        | true =>
          rw [if_pos rfl]
          by_cases h3 : nI (cy_re c) < (if 0 ≤ nI (cy_st c (cy_ho c p)) - nI (cy_st c d) then nI (cy_st c (cy_ho c p)) - nI (cy_st c d) else -(nI (cy_st c (cy_ho c p)) - nI (cy_st c d)))
          · rw [if_pos h3]
            rw [decide_eq_true h3] at ab
            have ab' : (decide (cy_st c (cy_ho c p) ≤ cy_st c d + cy_re c) && decide (cy_st c d ≤ cy_st c (cy_ho c p) + cy_re c)) = false := by
              revert ab
              cases (decide (cy_st c (cy_ho c p) ≤ cy_st c d + cy_re c) && decide (cy_st c d ≤ cy_st c (cy_ho c p) + cy_re c)) <;> simp
            rw [hh, ab']; simp
          · rw [if_neg h3]
            rw [decide_eq_false h3] at ab
            have ab' : (decide (cy_st c (cy_ho c p) ≤ cy_st c d + cy_re c) && decide (cy_st c d ≤ cy_st c (cy_ho c p) + cy_re c)) = true := by
              revert ab
              cases (decide (cy_st c (cy_ho c p) ≤ cy_st c d + cy_re c) && decide (cy_st c d ≤ cy_st c (cy_ho c p) + cy_re c)) <;> simp
            have hap : cy_ap c (cy_ho c p) d < 65536 := by unfold cy_ap; omega
            rw [hh, ab', h2, show (1 : Int32) = nI 1 from rfl, nlt (by omega) hap]
            by_cases h4 : 1 < cy_ap c (cy_ho c p) d
            · rw [if_pos h4]; simp [h1, show ¬ cy_ap c (cy_ho c p) d ≤ 1 by omega]
            · rw [if_neg h4]; simp [h1, show cy_ap c (cy_ho c p) d ≤ 1 by omega]
    · show B_X10_whoCould_4 _ _ _ (nI (cy_p c)) = _
      unfold B_X10_whoCould_4
      rw [cl3, q3, if_pos (Int32.le_refl _)]
  unfold F_X10_whoCould
  rw [hl, am_o1_s]
theorem C_who (h : Rel w pp np iv c ρ) (hw : w = 2 ∨ w = 22) (hp : 51 ≤ pp ∧ (pp < 54 ∨ 89 ≤ pp)) (x : Int32) : agr (Rel w pp np · c ρ) (wv iv (F_X9_who w x iv)) iv (F_X10_who x) := by
  have hr := h.code hw hp 0
  have hc := h.1.1
  have hn := hc.1
  have h10 := cy_p10 hn
  have hC := hr.1.2.2.1
  have kC := h.2.1.1.1
  cases hx : xin x (cy_n c) with
  | false =>
    refine agr.no h hw hp (v := 0) ?_ ?_
    · unfold F_X9_who; rw [K_demandDrawer kC, hx]; rfl
    · unfold F_X10_who; rw [P_isDrawer hC hc, hx, am_o1_s, if_pos (show am_bi false = 0 from rfl), P_fail, am_o2_s, am_codes]
  | true =>
    obtain ⟨d, hd, rfl⟩ := xin_t (by omega) hx
    obtain ⟨o, a, f, m, ⟨b1, -⟩, ⟨s0, -⟩, ⟨m0, -⟩, -⟩ := h.2.2.1
    have hdx : F_X9_demandDrawer w (nI d) iv = some (some ()) := by rw [K_demandDrawer kC, hx]; rfl
    have e29 : am_w iv 54 3 0 54 29 = nI o := by rw [am_code1 _ (by decide)]; exact m0
    have hmx : F_X10_who (nI d) iv = if o.testBit d then some (nI (cy_bits (cy_hd c o d) (cy_p c)), am_w iv 54 3 0) else some (-1, am_w iv 54 3 0) := by
      unfold F_X10_who
      rw [P_isDrawer hC hc, hx, am_o1_s, if_neg (show ¬ am_bi true = 0 by decide), e29, P_has (by omega) (by omega), am_o1_s, ifb, P_whoCould hC hc e29 (by omega) hd, am_o1_s]
    have hkx : F_X9_who w (nI d) iv = if o.testBit d then some (some (nI (cy_bits (cy_hd c o d) (cy_p c)))) else some (some (-1)) := by
      unfold F_X9_who
      rw [hdx]
      show (if (((iv 42 0) >>> (nI d &&& 31)) &&& (1 : Int32)) = 0 then some (some (-1 : Int32)) else (am_o1 (F_X0_handsNear w (nI d) (iv 42 0) iv) fun v2 => some (some v2))) = _
      rw [s0, K_handsNear kC hc (by omega) hd, am_o1_s]
      cases hb : o.testBit d with
      | false => rw [if_pos ((am_bitt (by omega)).mpr hb), if_neg (by decide)]
      | true => rw [if_neg (fun q => by rw [am_bitt (by omega), hb] at q; cases q), if_pos rfl]
    cases hb : o.testBit d with
    | false =>
      rw [hb, if_neg (by decide)] at hmx hkx
      exact agr.yes h hw hp (v := -1) (by rw [hkx]; rfl) hmx
    | true =>
      rw [hb, if_pos rfl] at hmx hkx
      exact agr.yes h hw hp (by rw [hkx]; rfl) hmx
/-- the weights of a set of people -/
def cy_ws (c : Nat → Nat → Nat) (s : Nat) : Nat → Nat
  | 0 => 0
  | p + 1 => cy_ws c s p + if s.testBit p then cy_we c p else 0
theorem cy_ws_le (hc : cy_ok c) (s : Nat) : ∀ i, i ≤ cy_p c → cy_ws c s i ≤ 99 * i
  | 0, _ => Nat.le_refl _
  | p + 1, hp => by
    have h1 := cy_ws_le hc s p (by omega)
    have h2 := (hc.2.2.2.2.2.2.2.2 p (by omega)).2.2.2.2
    unfold cy_ws
    split <;> omega
theorem cy_ws_ge {c : Nat → Nat → Nat} (s : Nat) {q : Nat} (hq : s.testBit q = true) : ∀ i, q < i → cy_we c q ≤ cy_ws c s i
  | 0, h => absurd h (Nat.not_lt_zero _)
  | p + 1, h => by
    unfold cy_ws
    by_cases e : q = p
    · rw [← e, hq]; simp
    · have := cy_ws_ge (c := c) s hq p (by omega)
      omega
theorem K_weightOf {s : Nat} (hC : cl_C w iv c) (hc : cy_ok c) : F_X4_weightOf w (nI s) iv = some (nI (cy_ws c s (cy_p c))) := by
  have hp5 := hc.2.2.1
  have hl : am_loop (fun q : (Int32 × Int32) => B_X4_weightOf_4 w (nI s) iv q.1 q.2) ((0 : Int32), (0 : Int32)) = some (nI (cy_ws c s (cy_p c))) := by
    refine am_loop_seq (fun i => (nI (cy_ws c s i), nI i)) (cy_p c) (by omega) rfl (fun p hp => ?_) ?_
    · obtain ⟨-, -, k3⟩ := hC.2.2 p hp
      show B_X4_weightOf_4 _ _ _ (nI (cy_ws c s p)) (nI p) = some (Sum.inl (nI (cy_ws c s p + if s.testBit p then cy_we c p else 0), nI (p + 1)))
      unfold B_X4_weightOf_4 J_X4_weightOf_31
      rw [hC.1.2.2.2.2.1, nle (by omega) (by omega), if_neg (by omega), if_pos (vb (show p < 5 by omega) (by decide)), am_cl (by omega), k3, nI_add, nI_1, show nI (cy_ws c s p) + (0 : Int32) = nI (cy_ws c s p + 0) from nI_add _ 0]
      cases hb : s.testBit p with
      | false => rw [if_pos ((am_bitt (by omega)).mpr hb)]; rfl
      | true => rw [if_neg (fun q => by rw [am_bitt (by omega), hb] at q; cases q)]; rfl
    · show B_X4_weightOf_4 _ _ _ _ (nI (cy_p c)) = _
      unfold B_X4_weightOf_4
      rw [hC.1.2.2.2.2.1, if_pos (Int32.le_refl _)]
  unfold F_X4_weightOf
  rw [hl, am_o1_s]
theorem P_weights {s : Nat} {i2 i3 : Int32} (hC : mo_C iv c) (hc : cy_ok c) (hs : s < 32) : am_loop (fun q : (Int32 × Int32) => B_X10_odds_62 i2 i3 (nI s) iv q.1 q.2) ((0 : Int32), (0 : Int32)) = some (nI (cy_ws c s (cy_p c))) := by
  have hp5 := hc.2.2.1
  obtain ⟨-, -, -, q3, -⟩ := hC.1
  refine am_loop_seq (fun i => (nI (cy_ws c s i), nI i)) (cy_p c) (by omega) rfl (fun p hp => ?_) ?_
  · obtain ⟨-, -, k3⟩ := hC.2.2 p hp
    show B_X10_odds_62 _ _ _ _ (nI (cy_ws c s p)) (nI p) = some (Sum.inl (nI (cy_ws c s p + if s.testBit p then cy_we c p else 0), nI (p + 1)))
    unfold B_X10_odds_62 J_X10_odds_96
    rw [cl3, q3, nle (by omega) (by omega), if_neg (by omega), P_has (by omega) (by omega), am_o1_s, ifb, if_pos (vb (show p < 10 by omega) (by decide)), am_cl (by omega), k3, nI_add, nI_1, show nI (cy_ws c s p) + (0 : Int32) = nI (cy_ws c s p + 0) from nI_add _ 0]
    cases hb : s.testBit p <;> rfl
  · show B_X10_odds_62 _ _ _ _ _ (nI (cy_p c)) = _
    unfold B_X10_odds_62
    rw [cl3, q3, if_pos (Int32.le_refl _)]
theorem P_common {a b : Nat} (ha : a < 1000) (hb : b < 1000) : F_X10_common (nI a) (nI b) iv = some (nI (Nat.gcd a b)) := by
  obtain ⟨x, h1, h2⟩ := am_loop_inv (f := fun s : (Int32 × Int32) => B_X10_common_4 iv s.1 s.2) (fun s => ∃ a' b', s = (nI a', nI b') ∧ a' < 1000 ∧ b' < 1000 ∧ Nat.gcd a' b' = Nat.gcd a b) (fun s => s.2.toNatClampNeg) (X := fun x => x = nI (Nat.gcd a b)) (by
      rintro s ⟨a', b', rfl, a1, b1, g⟩
      show (∃ s', B_X10_common_4 iv (nI a') (nI b') = _ ∧ _) ∨ (∃ s', B_X10_common_4 iv (nI a') (nI b') = _ ∧ _)
      unfold B_X10_common_4
      by_cases h0 : b' = 0
      · right
        subst h0
        rw [if_pos (show nI 0 = 0 from rfl)]
        exact ⟨_, rfl, by rw [← g, Nat.gcd_zero_right]⟩
      · left
        have hne : ¬ nI b' = 0 := nI_ne0 (by omega) (by omega)
        rw [if_neg hne, if_neg hne, nI_rem (by omega) (by omega)]
        have hlt : a' % b' < b' := Nat.mod_lt _ (by omega)
        refine ⟨_, rfl, ⟨b', a' % b', rfl, b1, by omega, ?_⟩, ?_⟩
        · rw [← g, Nat.gcd_comm a' b', Nat.gcd_rec b' a', Nat.gcd_comm]
        · show (nI (a' % b')).toNatClampNeg < (nI b').toNatClampNeg
          rw [am_cl (by omega), am_cl (by omega)]; exact hlt) (nI a, nI b) ⟨a, b, rfl, ha, hb, rfl⟩ (by show (nI b).toNatClampNeg < _; rw [am_cl (by omega)]; omega)
  unfold F_X10_common
  rw [h1, am_o1_s, h2]
theorem K_commonDivisor {a b : Nat} (ha0 : 0 < a) (ha : a < 1000) (hb : b < 1000) : F_X9_commonDivisor (nI a) (nI b) iv = some (nI (Nat.gcd a b)) := by
  obtain ⟨x, h1, h2⟩ := am_loop_n (f := fun s : (Int32 × Int32 × Int32) => B_X9_commonDivisor_7 iv s.1 s.2.1 s.2.2) (fun t s => ∃ a' b', s = (nI a', nI b', nI t) ∧ a' < 1000 ∧ b' + t ≤ b ∧ Nat.gcd a' b' = Nat.gcd a b) (X := fun x => x = nI (Nat.gcd a b)) b (by omega) (by
      rintro t s ht ⟨a', b', rfl, a1, b1, g⟩
      show (∃ s', B_X9_commonDivisor_7 iv (nI a') (nI b') (nI t) = _ ∧ _) ∨ (∃ s', B_X9_commonDivisor_7 iv (nI a') (nI b') (nI t) = _ ∧ _)
      unfold B_X9_commonDivisor_7
      rw [if_neg (show ¬ (1000 : Int32) ≤ nI t from nI_ge (show t < 1000 by omega) (by decide))]
      by_cases h0 : b' = 0
      · right
        subst h0
        rw [if_pos (show nI 0 ≤ 0 by decide)]
        exact ⟨_, rfl, by rw [← g, Nat.gcd_zero_right]⟩
      · left
        rw [if_neg (nI_nle (by omega) (by omega)), if_neg (nI_ne0 (by omega) (by omega)), nI_rem (by omega) (by omega)]
        have hlt : a' % b' < b' := Nat.mod_lt _ (by omega)
        refine ⟨_, rfl, b', a' % b', by rw [nI_1], by omega, by omega, ?_⟩
        rw [← g, Nat.gcd_comm a' b', Nat.gcd_rec b' a', Nat.gcd_comm]) (by
      rintro s ⟨a', b', rfl, a1, b1, g⟩
      have h0 : b' = 0 := by omega
      subst h0
      refine ⟨nI a', ?_, by rw [← g, Nat.gcd_zero_right]⟩
      show B_X9_commonDivisor_7 iv (nI a') (nI 0) (nI b) = _
      unfold B_X9_commonDivisor_7
      rw [if_neg (show ¬ (1000 : Int32) ≤ nI b from nI_ge (show b < 1000 by omega) (by decide)), if_pos (show nI 0 ≤ 0 by decide)]) (nI a, nI b, (0 : Int32)) ⟨a, b, rfl, ha, by omega, rfl⟩
  have hg : 0 < Nat.gcd a b := Nat.gcd_pos_of_pos_left _ ha0
  have hgl : Nat.gcd a b ≤ a := Nat.gcd_le_left _ ha0
  unfold F_X9_commonDivisor J_X9_commonDivisor_35
  rw [h1, am_o1_s, h2, if_neg (nI_nle hg (by omega))]
theorem C_odds (h : Rel w pp np iv c ρ) (hw : w = 2 ∨ w = 22) (hp : 51 ≤ pp ∧ (pp < 54 ∨ 89 ≤ pp)) (x y z : Int32) : agr (Rel w pp np · c ρ) (wv iv (F_X9_odds w x y z iv)) iv (F_X10_odds x y z) := by
  have hr := h.code hw hp 0
  have hc := h.1.1
  have hn := hc.1
  have hp5 := hc.2.2.1
  have h10 := cy_p10 hn
  have hC := hr.1.2.2.1
  have kC := h.2.1.1.1
  have F0 : J_X10_odds_30 (am_w iv 54 3 0) = some (0, am_w iv 54 3 1) := by unfold J_X10_odds_30; rw [P_fail, am_o2_s, am_codes]
  cases hx : xin x (cy_n c) with
  | false =>
    refine agr.no h hw hp (v := 0) ?_ ?_
    · unfold F_X9_odds; rw [K_demandDrawer kC, hx]; rfl
    · unfold F_X10_odds; rw [P_isDrawer hC hc, hx, am_o1_s, if_pos (show am_bi false = 0 from rfl), F0]
  | true =>
    obtain ⟨d, hd, rfl⟩ := xin_t (by omega) hx
    have hdx : F_X9_demandDrawer w (nI d) iv = some (some ()) := by rw [K_demandDrawer kC, hx]; rfl
    cases hy : xin y (cy_p c) with
    | false =>
      refine agr.no h hw hp (v := 0) ?_ ?_
      · unfold F_X9_odds; rw [hdx]
        show wv iv (am_ot (F_X9_demandPerson w y iv) _) = _
        rw [K_demandPerson kC, hy]; rfl
      · unfold F_X10_odds; rw [P_isDrawer hC hc, hx, am_o1_s, if_neg (show ¬ am_bi true = 0 by decide), P_isPerson hC hc, hy, am_o1_s, if_pos (show am_bi false = 0 from rfl), F0]
    | true =>
      obtain ⟨p, hpp, rfl⟩ := xin_t (by omega) hy
      have hpx : F_X9_demandPerson w (nI p) iv = some (some ()) := by rw [K_demandPerson kC, hy]; rfl
      by_cases hz : z = 0 ∨ z = 1
      · obtain ⟨o, a, f, m, ⟨b1, -⟩, ⟨s0, -⟩, ⟨m0, -⟩, -⟩ := h.2.2.1
        have e29 : am_w iv 54 3 0 54 29 = nI o := by rw [am_code1 _ (by decide)]; exact m0
        have hk : F_X9_odds w (nI d) (nI p) z iv = J_X9_odds_30 w (nI d) (nI p) z iv := by
          unfold F_X9_odds
          rw [hdx]
          show am_ot (F_X9_demandPerson w (nI p) iv) _ = _
          rw [hpx]
          show (if z = 0 then _ else _) = _
          rcases hz with hz | hz
          · rw [if_pos hz]
          · rw [if_neg (by rw [hz]; decide), if_pos hz]
        rw [hk]
        have hz0 : ¬ z < 0 := by rcases hz with hz | hz <;> rw [hz] <;> decide
        have hz1 : z ≤ 1 := by rcases hz with hz | hz <;> rw [hz] <;> decide
        unfold J_X9_odds_30
        rw [s0]
        cases hb : o.testBit d with
        | false =>
          refine agr.yes h hw hp (v := -1) ?_ ?_
          · rw [if_pos ((am_bitt (by omega)).mpr hb)]; rfl
          · unfold F_X10_odds
            rw [P_isDrawer hC hc, hx, am_o1_s, if_neg (show ¬ am_bi true = 0 by decide), P_isPerson hC hc, hy, am_o1_s, if_neg (show ¬ am_bi true = 0 by decide), if_neg hz0, if_pos hz1, e29, P_has (by omega) (by omega), am_o1_s, hb, if_pos (show am_bi false = 0 from rfl)]
        | true =>
          generalize hH : cy_bits (cy_hd c o d) (cy_p c) = H
          have hHl : H < 32 := by rw [← hH]; exact Nat.lt_of_lt_of_le (cy_bits_lt _ _) (cy_p5 hp5)
          have kh := K_handsNear (o := o) kC hc (by omega) hd
          have ph := P_whoCould hC hc e29 (by omega) hd
          rw [hH] at kh ph
          obtain ⟨-, -, k3⟩ := kC.2.2 p hpp
          obtain ⟨-, -, p3⟩ := hC.2.2 p hpp
          have hwe := (hc.2.2.2.2.2.2.2.2 p hpp).2.2.2.2
          have hws := cy_ws_le hc H (cy_p c) (Nat.le_refl _)
          generalize hA : cy_ws c H (cy_p c) = A at hws
          have hA5 : A < 500 := by omega
          have hmo : ∀ (u : Nat), (u = if H.testBit p then cy_we c p else 0) → F_X10_odds (nI d) (nI p) z iv = J_X10_odds_124 z (nI A) (nI u) (am_w iv 54 3 0) := by
            intro u hu
            unfold F_X10_odds
            rw [P_isDrawer hC hc, hx, am_o1_s, if_neg (show ¬ am_bi true = 0 by decide), P_isPerson hC hc, hy, am_o1_s, if_neg (show ¬ am_bi true = 0 by decide), if_neg hz0, if_pos hz1, e29, P_has (by omega) (by omega), am_o1_s, hb, if_neg (show ¬ am_bi true = 0 by decide), ph, am_o1_s, P_weights hC hc hHl, am_o1_s, P_has (by omega) (by omega), am_o1_s, ifb, if_pos (vb (show p < 10 by omega) (by decide)), am_cl (by omega), p3, hA, hu]
            cases H.testBit p <;> rfl
          have hke : ∀ (u : Nat), (u = if H.testBit p then cy_we c p else 0) → (if ((nI o >>> (nI d &&& 31)) &&& (1 : Int32)) = 0 then some (some (-1 : Int32)) else (am_o1 (F_X0_handsNear w (nI d) (nI o) iv) fun v3 => (if ((v3 >>> (nI p &&& 31)) &&& (1 : Int32)) = 0 then J_X9_odds_88 w z v3 (0 : Int32) iv else (if vp_b (nI p) 5 then J_X9_odds_88 w z v3 (iv (w + 13) (nI p).toNatClampNeg) iv else none)))) = J_X9_odds_88 w z (nI H) (nI u) iv := by
            intro u hu
            rw [if_neg (fun q => by rw [am_bitt (by omega), hb] at q; cases q), kh, am_o1_s, if_pos (vb (show p < 5 by omega) (by decide)), am_cl (by omega), k3, hu]
            cases hq : H.testBit p with
            | false => rw [if_pos ((am_bitt (by omega)).mpr hq)]; rfl
            | true => rw [if_neg (fun q => by rw [am_bitt (by omega), hq] at q; cases q)]; rfl
          obtain ⟨u, hu⟩ : ∃ u, u = if H.testBit p then cy_we c p else 0 := ⟨_, rfl⟩
          rw [hke u hu]
          have hm9 := hmo u hu
          have hu99 : u ≤ 99 := by rw [hu]; split <;> omega
          by_cases hu0 : u = 0
          · subst hu0
            refine agr.yes h hw hp (v := z) ?_ ?_
            · unfold J_X9_odds_88; rw [if_pos (show nI 0 = 0 from rfl)]; rfl
            · rw [hm9]
              unfold J_X10_odds_124 J_X10_odds_142
              by_cases hA0 : A = 0
              · subst hA0
                rw [if_pos (show nI 0 = 0 from rfl)]
                rcases hz with hz | hz
                · rw [if_pos hz, if_neg (by decide), hz]; rfl
                · rw [if_neg (by rw [hz]; decide), if_pos (show nI 0 = 0 from rfl), hz]
              · have hAn : ¬ nI A = 0 := nI_ne0 (by omega) (by omega)
                rw [if_neg hAn, P_common (by omega) (by omega), am_o1_s, Nat.gcd_zero_right, if_neg hAn, if_neg hAn, if_neg hAn, nI_div (by omega) (by omega), nI_div (by omega) (by omega), Nat.zero_div, Nat.div_self (by omega)]
                rcases hz with hz | hz
                · rw [if_pos hz, hz]; rfl
                · rw [if_neg (by rw [hz]; decide), hz]; rfl
          · have hbit : H.testBit p = true := by
              cases hq : H.testBit p with
              | true => rfl
              | false => rw [hq] at hu; exact absurd hu hu0
            have hge : u ≤ A := by
              rw [hu, hbit, ← hA]; exact cy_ws_ge H hbit _ hpp
            have hAn : ¬ nI A = 0 := nI_ne0 (by omega) (by omega)
            have hg : 0 < Nat.gcd u A := Nat.gcd_pos_of_pos_left _ (by omega)
            have hgl : Nat.gcd u A ≤ u := Nat.gcd_le_left _ (by omega)
            have hgn : ¬ nI (Nat.gcd u A) = 0 := nI_ne0 hg (by omega)
            have hk8 : J_X9_odds_88 w z (nI H) (nI u) iv = some (some (if z = 0 then nI (u / Nat.gcd u A) else nI (A / Nat.gcd u A))) := by
              unfold J_X9_odds_88
              rw [if_neg (nI_ne0 (by omega) (by omega)), K_weightOf kC hc, am_o1_s, hA, K_commonDivisor (by omega) (by omega) (by omega), am_o1_s, if_neg hgn, if_neg hgn, nI_div (by omega) (by omega), nI_div (by omega) (by omega)]
              split <;> rfl
            refine agr.yes h hw hp (v := if z = 0 then nI (u / Nat.gcd u A) else nI (A / Nat.gcd u A)) ?_ ?_
            · rw [hk8]; rfl
            · rw [hm9]
              unfold J_X10_odds_124 J_X10_odds_142
              rw [if_neg hAn, P_common (by omega) (by omega), am_o1_s, Nat.gcd_comm A u, if_neg hgn, if_neg hgn, if_neg hAn, nI_div (by omega) (by omega), nI_div (by omega) (by omega)]
              split <;> rfl
      · have hz0 : ¬ z = 0 := fun q => hz (Or.inl q)
        have hz1 : ¬ z = 1 := fun q => hz (Or.inr q)
        refine agr.no h hw hp (v := 0) ?_ ?_
        · unfold F_X9_odds; rw [hdx]
          show wv iv (am_ot (F_X9_demandPerson w (nI p) iv) _) = _
          rw [hpx]
          show wv iv (if z = 0 then _ else _) = _
          rw [if_neg hz0, if_neg hz1]; rfl
        · unfold F_X10_odds
          rw [P_isDrawer hC hc, hx, am_o1_s, if_neg (show ¬ am_bi true = 0 by decide), P_isPerson hC hc, hy, am_o1_s, if_neg (show ¬ am_bi true = 0 by decide), F0]
          by_cases q : z < 0
          · rw [if_pos q]
          · rw [if_neg q, if_neg (fun q2 => by
              obtain ⟨j, h3, rfl⟩ := nI_of q
              rw [show (1 : Int32) = nI 1 from rfl, nI_leI h3 (by decide)] at q2
              match j, q2 with
              | 0, _ => exact hz0 rfl
              | 1, _ => exact hz1 rfl)]
end B57
