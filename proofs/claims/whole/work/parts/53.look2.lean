/-! calls that only look: drawer, person, may, broken, row -/
section B53
variable {w pp np : Nat} {iv iv' : am_I} {c : Nat → Nat → Nat} {ρ : ru_T}
/-- thrown on both sides -/
theorem agr.no {fc : Option (Option (Int32 × am_I))} {fm : am_I → Option (Int32 × am_I)} (h : Rel w pp np iv c ρ) (hw : w = 2 ∨ w = 22) (hp : 51 ≤ pp ∧ (pp < 54 ∨ 89 ≤ pp)) (h1 : fc = some none) {v : Int32} (h2 : fm iv = some (v, am_w iv 54 3 1)) : agr (Rel w pp np · c ρ) fc iv fm :=
  Or.inl ⟨h1, v, _, h2, am_code0 _, h.code hw hp 1⟩
/-- both answer, and nothing changes -/
theorem agr.yes {fc : Option (Option (Int32 × am_I))} {fm : am_I → Option (Int32 × am_I)} (h : Rel w pp np iv c ρ) (hw : w = 2 ∨ w = 22) (hp : 51 ≤ pp ∧ (pp < 54 ∨ 89 ≤ pp)) {v : Int32} (h1 : fc = some (some (v, iv))) (h2 : fm iv = some (v, am_w iv 54 3 0)) : agr (Rel w pp np · c ρ) fc iv fm :=
  Or.inr ⟨v, iv, _, h1, h2, am_code0 _, h.code hw hp 0⟩
theorem sm_j (hw : w = 2 ∨ w = 22) (hp : 51 ≤ pp ∧ (pp < 54 ∨ 89 ≤ pp)) (f : am_fr [w + 17, w + 18, w + 19] [] iv iv') : sm w pp iv iv' := sm.of f hw hp (fun a ha => by simp at ha; simp [ska]; omega) (fun q hq => by cases hq)
theorem sm_l (hw : w = 2 ∨ w = 22) (hp : 51 ≤ pp ∧ (pp < 54 ∨ 89 ≤ pp)) (f : am_fr [w + 17, w + 18] [] iv iv') : sm w pp iv iv' := sm.of f hw hp (fun a ha => by simp at ha; simp [ska]; omega) (fun q hq => by cases hq)
theorem sm_m (hw : w = 2 ∨ w = 22) (hp : 51 ≤ pp ∧ (pp < 54 ∨ 89 ≤ pp)) (f : am_fr [75, 76] [] iv iv') : sm w pp iv iv' := sm.of f hw hp (fun a ha => by simp at ha; simp [ska]; omega) (fun q hq => by cases hq)
theorem Rel.m (h : Rel w pp np iv c ρ) (hw : w = 2 ∨ w = 22) (hp : 51 ≤ pp ∧ (pp < 54 ∨ 89 ≤ pp)) (f : am_fr [75, 76] [] iv iv') : Rel w pp np iv' c ρ := h.fr' (sm_m hw hp f) (f.g (by simp; omega))
theorem C_drawer (h : Rel w pp np iv c ρ) (hw : w = 2 ∨ w = 22) (hp : 51 ≤ pp ∧ (pp < 54 ∨ 89 ≤ pp)) (x y : Int32) : agr (Rel w pp np · c ρ) (F_X9_drawer w x y iv) iv (F_X10_drawer x y) := by
  have hr := h.code hw hp 0
  have hc := h.1.1
  have hn := hc.1
  have hC := hr.1.2.2.1
  have kC := h.2.1.1.1
  cases hx : xin x (cy_n c) with
  | false =>
    refine agr.no h hw hp (v := 0) ?_ ?_
    · unfold F_X9_drawer; rw [K_demandDrawer kC, hx]; rfl
    · unfold F_X10_drawer; rw [P_isDrawer hC hc, hx, am_o1_s, if_pos (show am_bi false = 0 from rfl), P_fail, am_o2_s, am_codes]
  | true =>
    obtain ⟨d, hd, rfl⟩ := xin_t (by omega) hx
    have hdx : F_X9_demandDrawer w (nI d) iv = some (some ()) := by rw [K_demandDrawer kC, hx]; rfl
    have hmx : F_X10_isDrawer (nI d) (am_w iv 54 3 0) = some 1 := by rw [P_isDrawer hC hc, hx]; rfl
    by_cases hy : y.toInt < 0 ∨ 7 < y.toInt
    · refine agr.no h hw hp (v := 0) ?_ ?_
      · unfold F_X9_drawer; rw [hdx]; show (if y.toInt < 0 ∨ 7 < y.toInt then _ else _) = _; rw [if_pos hy]
      · unfold F_X10_drawer; rw [hmx, am_o1_s, if_neg (by decide), if_pos hy, P_fail, am_o2_s, am_codes]
    · obtain ⟨j, hj, rfl⟩ := ci_n (k := 7) hy (by decide)
      obtain ⟨o, a, f, m, ⟨ho, -⟩, ⟨s0, -⟩, -, -⟩ := h.2.2.1
      obtain ⟨o', a', f', m', -, ⟨s0', -⟩, ⟨m0, -⟩, -⟩ := hr.2.2.1
      have h10 := cy_p10 hn
      have o42 : am_w iv 54 3 0 42 = iv 42 := am_w_other _ _ _ (by decide)
      have m0' : am_w iv 54 3 0 54 29 = nI o := by rw [m0, ← s0', o42, s0]
      have g := hc.2.2.2.2.2.2.2.1 d hd
      obtain ⟨k1, k2, k3, k4, k5⟩ := kC.2.1 d hd
      obtain ⟨p1, p2, p3, p4, p5⟩ := hC.2.1 d hd
      have v10 : vp_b (nI d) 10 = true := vb (by omega) (by decide)
      have v20 : vp_b (nI d) 20 = true := vb (by omega) (by decide)
      have cd : (nI d).toNatClampNeg = d := am_cl (by omega)
      have A : ∀ (v : Int32), F_X9_drawer w (nI d) (nI j) iv = some (some (v, iv)) → F_X10_drawer (nI d) (nI j) iv = some (v, am_w iv 54 3 0) → agr (Rel w pp np · c ρ) (F_X9_drawer w (nI d) (nI j) iv) iv (F_X10_drawer (nI d) (nI j)) := fun v h1 h2 => agr.yes h hw hp h1 h2
      match j, hj with
      | 0, _ =>
        refine A (nI (cy_kd c d)) ?_ ?_
        · unfold F_X9_drawer; rw [hdx]; show (if vp_b (nI d) 10 then some (some (iv (w + 2) (nI d).toNatClampNeg, iv)) else none) = _; rw [if_pos v10, cd, k1]
        · unfold F_X10_drawer; rw [hmx]; show (if vp_b (nI d) 20 then some (am_w iv 54 3 0 59 (nI d).toNatClampNeg, am_w iv 54 3 0) else none) = _; rw [if_pos v20, cd, p1]
      | 1, _ =>
        refine A (nI (cy_co c d)) ?_ ?_
        · unfold F_X9_drawer; rw [hdx]; show (if vp_b (nI d) 10 then some (some (iv (w + 3) (nI d).toNatClampNeg, iv)) else none) = _; rw [if_pos v10, cd, k2]
        · unfold F_X10_drawer; rw [hmx]; show (if vp_b (nI d) 20 then some (am_w iv 54 3 0 60 (nI d).toNatClampNeg, am_w iv 54 3 0) else none) = _; rw [if_pos v20, cd, p2]
      | 2, _ =>
        refine A (nI (cy_st c d)) ?_ ?_
        · unfold F_X9_drawer; rw [hdx]; show (if vp_b (nI d) 10 then some (some (iv (w + 5) (nI d).toNatClampNeg, iv)) else none) = _; rw [if_pos v10, cd, k4]
        · unfold F_X10_drawer; rw [hmx]; show (if vp_b (nI d) 20 then some (am_w iv 54 3 0 61 (nI d).toNatClampNeg, am_w iv 54 3 0) else none) = _; rw [if_pos v20, cd, p3]
      | 3, _ =>
        refine A (nI (cy_le c d)) ?_ ?_
        · unfold F_X9_drawer; rw [hdx]; show (if vp_b (nI d) 10 then some (some (iv (w + 6) (nI d).toNatClampNeg, iv)) else none) = _; rw [if_pos v10, cd, k5]
        · unfold F_X10_drawer; rw [hmx]; show (if vp_b (nI d) 20 then some (am_w iv 54 3 0 62 (nI d).toNatClampNeg, am_w iv 54 3 0) else none) = _; rw [if_pos v20, cd, p4]
      | 4, _ =>
        refine A (nI (cy_wi c d)) ?_ ?_
        · unfold F_X9_drawer; rw [hdx]; show (am_o1 (F_X2_isWide w (nI d) iv) fun v6 => (if v6 = 0 then some (some ((0 : Int32), iv)) else some (some ((1 : Int32), iv)))) = _
          rw [K_isWide kC hc hd, am_o1_s, ifb]
          by_cases h1 : cy_wi c d = 1
          · simp [h1]; rfl
          · have h0 : cy_wi c d = 0 := by omega
            simp [h0]; rfl
        · unfold F_X10_drawer; rw [hmx]; show (if vp_b (nI d) 20 then some (am_w iv 54 3 0 63 (nI d).toNatClampNeg, am_w iv 54 3 0) else none) = _; rw [if_pos v20, cd, p5]
      | 5, _ =>
        refine A ((nI o >>> (nI d &&& 31)) &&& 1) ?_ ?_
        · unfold F_X9_drawer; rw [hdx]; show some (some (((iv 42 0) >>> (nI d &&& 31)) &&& (1 : Int32), iv)) = _; rw [s0]
        · unfold F_X10_drawer; rw [hmx]; show some (((am_w iv 54 3 0 54 29) >>> (nI d &&& 31)) &&& (1 : Int32), am_w iv 54 3 0) = _; rw [m0']
      | 6, _ =>
        obtain ⟨iv1, e1, w1⟩ := K_reachedBy h.2.1.1 hc h.1.2.1 (show o < 1024 by omega)
        have f1 := X_X0_reachedBy e1
        have h1 : Rel w pp np iv1 c ρ := h.fr (sm_j hw hp f1) w1
        have hr1 := h1.code hw hp 0
        refine Or.inr ⟨(nI (cy_rch c o) >>> (nI d &&& 31)) &&& 1, iv1, am_w iv1 54 3 0, ?_, ?_, am_code0 _, hr1⟩
        · unfold F_X9_drawer; rw [hdx]; show (am_o2 (F_X0_reachedBy w (iv 42 0) iv) fun v7 w7 => some (some (((v7 >>> (nI d &&& 31)) &&& (1 : Int32)), w7))) = _
          rw [s0, e1, am_o2_s]
        · unfold F_X10_drawer; rw [P_isDrawer hr1.1.2.2.1 hc, hx]
          show (am_o1 (F_X10_reachedBy ((am_w iv1 54 3 (0 : Int32)) 54 29) (am_w iv1 54 3 (0 : Int32))) fun v8 => some (((v8 >>> (nI d &&& 31)) &&& (1 : Int32)), (am_w iv1 54 3 (0 : Int32)))) = _
          have e29 : am_w iv1 54 3 0 54 29 = nI o := by rw [am_code1 _ (by decide), f1 54 29 (by simp; omega) (by simp), ← m0', am_code1 _ (by decide)]
          rw [e29, P_reachedBy hr1.1.2.2.1 hc (by omega), am_o1_s]
      | 7, _ =>
        refine A (nI (cy_ren c d)) ?_ ?_
        · unfold F_X9_drawer; rw [hdx]; show (am_o1 (F_X0_rentOf w (nI d) iv) fun v8 => some (some (v8, iv))) = _; rw [K_rentOf kC h.2.1.2 hc hd, am_o1_s]
        · unfold F_X10_drawer; rw [hmx]; show (am_o1 (F_X10_rentOf (nI d) (am_w iv 54 3 0)) fun v9 => some (v9, am_w iv 54 3 0)) = _; rw [P_rentOf hC hc hd, am_o1_s]
theorem C_person (h : Rel w pp np iv c ρ) (hw : w = 2 ∨ w = 22) (hp : 51 ≤ pp ∧ (pp < 54 ∨ 89 ≤ pp)) (x y : Int32) : agr (Rel w pp np · c ρ) (wv iv (F_X9_person w x y iv)) iv (F_X10_person x y) := by
  have hr := h.code hw hp 0
  have hc := h.1.1
  have hp5 := hc.2.2.1
  have hC := hr.1.2.2.1
  have kC := h.2.1.1.1
  cases hx : xin x (cy_p c) with
  | false =>
    refine agr.no h hw hp (v := 0) ?_ ?_
    · unfold F_X9_person; rw [K_demandPerson kC, hx]; rfl
    · unfold F_X10_person; rw [P_isPerson hC hc, hx, am_o1_s, if_pos (show am_bi false = 0 from rfl), P_fail, am_o2_s, am_codes]
  | true =>
    obtain ⟨p, hd, rfl⟩ := xin_t (by omega) hx
    have hdx : F_X9_demandPerson w (nI p) iv = some (some ()) := by rw [K_demandPerson kC, hx]; rfl
    have hmx : F_X10_isPerson (nI p) (am_w iv 54 3 0) = some 1 := by rw [P_isPerson hC hc, hx]; rfl
    by_cases hy : y.toInt < 0 ∨ 4 < y.toInt
    · refine agr.no h hw hp (v := 0) ?_ ?_
      · unfold F_X9_person; rw [hdx]; show wv iv (if y.toInt < 0 ∨ 4 < y.toInt then _ else _) = _; rw [if_pos hy]; rfl
      · have n0 : ¬ y = 0 := fun q => by rw [q, show (0 : Int32).toInt = 0 by decide] at hy; omega
        have n1 : ¬ y = 1 := fun q => by rw [q, show (1 : Int32).toInt = 1 by decide] at hy; omega
        have n2 : ¬ y = 2 := fun q => by rw [q, show (2 : Int32).toInt = 2 by decide] at hy; omega
        have n3 : ¬ y = 3 := fun q => by rw [q, show (3 : Int32).toInt = 3 by decide] at hy; omega
        have n4 : ¬ y = 4 := fun q => by rw [q, show (4 : Int32).toInt = 4 by decide] at hy; omega
        unfold F_X10_person; rw [hmx, am_o1_s, if_neg (by decide), if_neg n0, if_neg n1, if_neg n2, if_neg n3, if_neg n4, P_fail, am_o2_s, am_codes]
    · obtain ⟨j, hj, rfl⟩ := ci_n (k := 4) hy (by decide)
      obtain ⟨o, a, f, m, -, ⟨-, -, s2, -⟩, ⟨-, -, m2, -⟩, hu, -⟩ := h.2.2.1
      obtain ⟨k1, k2, k3⟩ := kC.2.2 p hd
      obtain ⟨p1, p2, p3⟩ := hC.2.2 p hd
      have v10 : vp_b (nI p) 10 = true := vb (by omega) (by decide)
      have v5 : vp_b (nI p) 5 = true := vb (by omega) (by decide)
      have cd : (nI p).toNatClampNeg = p := am_cl (by omega)
      have A : ∀ (v : Int32), F_X9_person w (nI p) (nI j) iv = some (some v) → F_X10_person (nI p) (nI j) iv = some (v, am_w iv 54 3 0) → agr (Rel w pp np · c ρ) (wv iv (F_X9_person w (nI p) (nI j) iv)) iv (F_X10_person (nI p) (nI j)) := fun v h1 h2 => agr.yes h hw hp (by rw [h1]; rfl) h2
      match j, hj with
      | 0, _ =>
        refine A (nI (cy_ho c p)) ?_ ?_
        · unfold F_X9_person; rw [hdx]; show (if vp_b (nI p) 5 then some (some (iv (w + 11) (nI p).toNatClampNeg)) else none) = _; rw [if_pos v5, cd, k1]
        · unfold F_X10_person; rw [hmx]; show (if vp_b (nI p) 10 then some (am_w iv 54 3 0 64 (nI p).toNatClampNeg, am_w iv 54 3 0) else none) = _; rw [if_pos v10, cd, p1]
      | 1, _ =>
        refine A (cy_shI c p) ?_ ?_
        · unfold F_X9_person; rw [hdx]; show (if vp_b (nI p) 5 then some (some (iv (w + 12) (nI p).toNatClampNeg)) else none) = _; rw [if_pos v5, cd, k2]
        · unfold F_X10_person; rw [hmx]; show (if vp_b (nI p) 10 then some (am_w iv 54 3 0 65 (nI p).toNatClampNeg, am_w iv 54 3 0) else none) = _; rw [if_pos v10, cd, p2]
      | 2, _ =>
        refine A (nI (cy_we c p)) ?_ ?_
        · unfold F_X9_person; rw [hdx]; show (if vp_b (nI p) 5 then some (some (iv (w + 13) (nI p).toNatClampNeg)) else none) = _; rw [if_pos v5, cd, k3]
        · unfold F_X10_person; rw [hmx]; show (if vp_b (nI p) 10 then some (am_w iv 54 3 0 66 (nI p).toNatClampNeg, am_w iv 54 3 0) else none) = _; rw [if_pos v10, cd, p3]
      | 3, _ =>
        refine A ((nI f >>> (nI p &&& 31)) &&& 1) ?_ ?_
        · unfold F_X9_person; rw [hdx]; show some (some (((iv 42 2) >>> (nI p &&& 31)) &&& (1 : Int32))) = _; rw [s2]
        · unfold F_X10_person; rw [hmx]; show some (((am_w iv 54 3 0 54 31) >>> (nI p &&& 31)) &&& (1 : Int32), am_w iv 54 3 0) = _; rw [am_code1 _ (by decide), m2]
      | 4, _ =>
        refine A (iv 43 p) ?_ ?_
        · unfold F_X9_person; rw [hdx]; show (if vp_b (nI p) 5 then some (some (iv 43 (nI p).toNatClampNeg)) else none) = _; rw [if_pos v5, cd]
        · unfold F_X10_person; rw [hmx]; show (if vp_b (nI p) 5 then some (am_w iv 54 3 0 72 (nI p).toNatClampNeg, am_w iv 54 3 0) else none) = _; rw [if_pos v5, cd, am_w_other _ _ _ (by decide), hu p (by omega)]
theorem C_may (h : Rel w pp np iv c ρ) (hw : w = 2 ∨ w = 22) (hp : 51 ≤ pp ∧ (pp < 54 ∨ 89 ≤ pp)) (x : Int32) : agr (Rel w pp np · c ρ) (F_X9_may w x iv) iv (F_X10_may x) := by
  have hr := h.code hw hp 0
  have hc := h.1.1
  have h10 := cy_p10 hc.1
  have hC := hr.1.2.2.1
  have kC := h.2.1.1.1
  cases hx : xin x (2 ^ cy_n c) with
  | false =>
    refine agr.no h hw hp (v := 0) ?_ ?_
    · unfold F_X9_may; rw [K_demandSet kC hc, hx]; rfl
    · unfold F_X10_may; rw [P_isSet hC hc, hx, am_o1_s, if_pos (show am_bi false = 0 from rfl), am_codes]
  | true =>
    obtain ⟨s, hs, rfl⟩ := xin_t (by omega) hx
    obtain ⟨iv1, e1, w1⟩ := K_canBe h.2.1.1 hc h.1.2.1 (show s < 1024 by omega)
    have f1 := X_X0_canBe e1
    have h1 : Rel w pp np iv1 c ρ := h.fr (sm_j hw hp f1) w1
    have hr1 := h1.code hw hp 0
    obtain ⟨iv2, e2⟩ := P_canBe hr1.1.2.2.1 hc hr1.1.2.2.2 hr1.1.2.1 (show s < 1024 by omega)
    have f2 := X_X10_canBe e2
    refine Or.inr ⟨am_bi (cy_can c ρ s), iv1, iv2, ?_, ?_, ?_, hr1.m hw hp f2⟩
    · unfold F_X9_may; rw [K_demandSet kC hc, hx]
      show (am_o2 (F_X0_canBe w (nI s) iv) fun v2 w2 => (if v2 = 0 ∨ v2 = 1 then some (some (v2, w2)) else none)) = _
      rw [e1, am_o2_s, if01]
    · unfold F_X10_may; rw [P_isSet hr1.1.2.2.1 hc, hx, am_o1_s, if_neg (by decide), e2, am_o2_s, if01]
    · rw [f2 54 3 (by decide) (by simp)]; exact am_code0 _
theorem C_broken (h : Rel w pp np iv c ρ) (hw : w = 2 ∨ w = 22) (hp : 51 ≤ pp ∧ (pp < 54 ∨ 89 ≤ pp)) (x : Int32) : agr (Rel w pp np · c ρ) (F_X9_broken w x iv) iv (F_X10_broken x) := by
  have hr := h.code hw hp 0
  have hc := h.1.1
  have h10 := cy_p10 hc.1
  have hC := hr.1.2.2.1
  have kC := h.2.1.1.1
  cases hx : xin x (2 ^ cy_n c) with
  | false =>
    refine agr.no h hw hp (v := 0) ?_ ?_
    · unfold F_X9_broken; rw [K_demandSet kC hc, hx]; rfl
    · unfold F_X10_broken; rw [P_isSet hC hc, hx, am_o1_s, if_pos (show am_bi false = 0 from rfl), P_fail, am_o2_s, am_codes]
  | true =>
    obtain ⟨s, hs, rfl⟩ := xin_t (by omega) hx
    obtain ⟨iv1, e1⟩ := K_leastBroken kC hc h.2.1.1.2.2.1 h.2.1.1.2.1 h.1.2.1 (show s < 1024 by omega)
    have f1 := X_X0_leastBroken e1
    have h1 : Rel w pp np iv1 c ρ := h.fr' (sm_l hw hp f1) (f1.g (by simp))
    have hr1 := h1.code hw hp 0
    obtain ⟨iv2, e2⟩ := P_brokenBy hr1.1.2.2.1 hc hr1.1.2.2.2 hr1.1.2.1 (show s < 1024 by omega)
    have f2 := X_X10_brokenBy e2
    refine Or.inr ⟨cy_enc (cy_r c) (cy_lb c ρ s), iv1, iv2, ?_, ?_, ?_, hr1.m hw hp f2⟩
    · unfold F_X9_broken; rw [K_demandSet kC hc, hx]
      show (am_o2 (F_X0_leastBroken w (nI s) iv) fun v2 w2 => some (some (v2, w2))) = _
      rw [e1, am_o2_s]
    · unfold F_X10_broken; rw [P_isSet hr1.1.2.2.1 hc, hx, am_o1_s, if_neg (by decide), e2, am_o2_s]
    · rw [f2 54 3 (by decide) (by simp)]; exact am_code0 _
theorem C_row (h : Rel w pp np iv c ρ) (hw : w = 2 ∨ w = 22) (hp : 51 ≤ pp ∧ (pp < 54 ∨ 89 ≤ pp)) (hnp : np < 65536) (x : Int32) : agr (Rel w pp np · c ρ) (wv iv (F_X9_row w pp np x iv)) iv (F_X10_row x) := by
  have o45 : am_w iv 54 3 0 54 45 = iv 54 45 := am_code1 _ (by decide)
  rcases h.2.2.2.2.2.2 with ⟨r1, r2⟩ | ⟨L, l1, l2, r1, r2, r3⟩
  · refine agr.no h hw hp (v := 0) ?_ ?_
    · unfold F_X9_row; rw [r1, if_pos rfl]; rfl
    · unfold F_X10_row; rw [o45, r2, if_pos rfl, P_fail, am_o2_s, am_codes]
  · have hne : ¬ nI L = -1 := cy_m1 (by omega)
    by_cases hx : x = -1
    · refine agr.yes h hw hp (v := nI L) ?_ ?_
      · unfold F_X9_row; rw [r1, if_neg hne, if_pos hx]; rfl
      · unfold F_X10_row; rw [o45, r2, if_neg hne, if_pos hx]
    · have hi := P_isIn0 (iv := am_w iv 54 3 0) (x := x) (n := L) (by omega)
      cases hq : xin x L with
      | false =>
        refine agr.no h hw hp (v := 0) ?_ ?_
        · unfold F_X9_row
          rw [r1, if_neg hne, if_neg hx]
          by_cases h0 : x < 0
          · rw [if_pos h0]; rfl
          · rw [if_neg h0, if_neg (fun q => by
              have : xin x L = true := decide_eq_true ⟨h0, Int32.not_le.mpr q⟩
              rw [hq] at this; cases this)]; rfl
        · unfold F_X10_row; rw [o45, r2, if_neg hne, if_neg hx, hi, hq, am_o1_s, if_pos (show am_bi false = 0 from rfl), P_fail, am_o2_s, am_codes]
      | true =>
        obtain ⟨i, hi2, rfl⟩ := xin_t (by omega) hq
        refine agr.yes h hw hp (v := iv pp i) ?_ ?_
        · unfold F_X9_row
          rw [r1, if_neg hne, if_neg hx, if_neg (nI_pos (by omega)), if_pos (nI_lt hi2 (by omega)), if_pos (vb (show i < np by omega) hnp), am_cl (by omega)]; rfl
        · unfold F_X10_row; rw [o45, r2, if_neg hne, if_neg hx, hi, hq, am_o1_s, if_neg (by decide), if_pos (vb (show i < 32768 by omega) (by decide)), am_cl (by omega), am_w_other _ _ _ (by decide), r3 i hi2]
end B53
