/-! the class: the rules, judge -/
theorem cv_num {g : Int32} (h : ¬ g ≤ -20) : cv g = g := by unfold cv; rw [if_neg h]
theorem sg_num7 {g : Int32} (h : sg_num g) : ¬ g < -7 ∧ ¬ g < 0 := by
  have h1 : 0 ≤ g := h
  rw [Int32.le_iff_toInt_le] at h1
  have e0 : (0 : Int32).toInt = 0 := by decide
  have e7 : (-7 : Int32).toInt = -7 := by decide
  constructor <;> (intro h2; rw [Int32.lt_iff_toInt_lt] at h2; omega)
theorem sg_val7 {g : Int32} (h : sg_val g) : ¬ g < -7 ∧ g < 0 ∧ vp_b (-1 - g) 7 = true := by
  rcases h with e | e | e | e | e | e | e <;> subst e <;> decide
theorem sg_bin7 {g : Int32} (h : sg_bin g) : cv g < -7 ∧ ¬ cv g = -18 := by
  rcases h with e | e | e | e | e | e | e | e <;> subst e <;> decide
section B33
variable {iv iv' : am_I} {c : Nat → Nat → Nat} {w : Nat}
theorem K_join {g x y : Int32} (hg : sg_bin g) : F_X5_join (cv g) x y iv = some (rk g x y) := by
  rcases hg with e | e | e | e | e | e | e | e <;> subst e
  · rw [show cv (-20) = (-10 : Int32) by decide]; unfold F_X5_join rk
    rw [show (-10 : Int32).toInt = -10 by decide]; rfl
  · rw [show cv (-21) = (-11 : Int32) by decide]; unfold F_X5_join rk
    rw [show (-11 : Int32).toInt = -11 by decide]; rfl
  · rw [show cv (-22) = (-12 : Int32) by decide]; unfold F_X5_join rk
    rw [show (-12 : Int32).toInt = -12 by decide]; rfl
  · rw [show cv (-23) = (-13 : Int32) by decide]; unfold F_X5_join rk
    rw [show (-13 : Int32).toInt = -13 by decide]
    by_cases h : y = 0
    · simp [h]
    · simp [h]
  · rw [show cv (-24) = (-14 : Int32) by decide]; unfold F_X5_join rk
    rw [show (-14 : Int32).toInt = -14 by decide]
    by_cases h : x < y
    · have h2 : ¬ y ≤ x := Int32.not_le.mpr h
      simp [h, h2]
    · have h2 : y ≤ x := Int32.not_lt.mp h
      simp [h, h2]
  · rw [show cv (-25) = (-15 : Int32) by decide]; unfold F_X5_join rk
    rw [show (-15 : Int32).toInt = -15 by decide]
    by_cases h : x = y <;> simp [h]
  · rw [show cv (-26) = (-16 : Int32) by decide]; unfold F_X5_join rk
    rw [show (-16 : Int32).toInt = -16 by decide]
    by_cases h : x = 0 <;> by_cases h2 : y = 0 <;> simp [h, h2]
  · rw [show cv (-27) = (-17 : Int32) by decide]; unfold F_X5_join rk
    rw [show (-17 : Int32).toInt = -17 by decide]
    by_cases h : x = 0 <;> by_cases h2 : y = 0 <;> simp [h, h2]
theorem K_holds {ρ : ru_T} {nr r : Nat} {vals : Nat → Int32} (hR : cl_R w iv ρ nr) (ho : ru_ok ρ nr) (hr : r < nr) (hn : nr ≤ 4) (hv : ∀ i, i < 7 → iv (w + 18) i = vals i) : ∃ iv', F_X5_holds w (nI r) iv = some (am_bi (ru_h ρ vals r), iv') := by
  have h1 := hR.1 r (by omega)
  have h2 := hR.1 (r + 1) (by omega)
  obtain ⟨hle, hwf⟩ := ho.2.2 r hr
  have hm : ρ.1 (r + 1) ≤ ρ.1 nr := ru_mono ho (nr - (r + 1)) (r + 1) (by omega)
  have h700 := ho.2.1
  have H : ∃ x, am_loop (fun s : (Int32 × Int32 × am_I) => B_X5_holds_10 w (nI r) s.1 s.2.1 s.2.2) ((0 : Int32), nI (ρ.1 r), iv) = some x ∧ x (w + 17) 0 = (sg_run vals ρ.2 (ρ.1 r) (ρ.1 (r + 1) - ρ.1 r)).2 0 := by
    refine am_loop_n (fun m s => s.1 = nI (sg_dp ρ.2 (ρ.1 r) m) ∧ s.2.1 = nI (ρ.1 r + m) ∧ am_fr [w + 17] [] iv s.2.2 ∧ ∀ i, i < sg_dp ρ.2 (ρ.1 r) m → s.2.2 (w + 17) i = (sg_run vals ρ.2 (ρ.1 r) m).2 i) (ρ.1 (r + 1) - ρ.1 r) (by omega) ?_ ?_ _ ⟨rfl, rfl, am_fr.rf _ _ _, fun i hi => absurd hi (Nat.not_lt_zero i)⟩
    · rintro m ⟨n0, k0, iv1⟩ hml ⟨a1, a2, a3, a4⟩
      dsimp only at a1 a2 a3 a4
      subst a1; subst a2
      left
      have b1 : iv1 (w + 15) (r + 1) = nI (ρ.1 (r + 1)) := by rw [a3.g (by simp)]; exact h2
      have b2 : iv1 (w + 16) (ρ.1 r + m) = cv (ρ.2 (ρ.1 r + m)) := by rw [a3.g (by simp)]; exact hR.2.2 _ (by omega)
      have b3 : iv1 (w + 18) = iv (w + 18) := a3.g (by simp)
      have ok := hwf.1 m hml
      have dle := sg_dp_le hwf m (Nat.le_of_lt hml)
      obtain ⟨g, hg⟩ : ∃ g, ρ.2 (ρ.1 r + m) = g := ⟨_, rfl⟩
      rw [hg] at ok b2
      show ∃ s', B_X5_holds_10 w (nI r) (nI (sg_dp ρ.2 (ρ.1 r) m)) (nI (ρ.1 r + m)) iv1 = _ ∧ _
      unfold B_X5_holds_10
      simp (disch := omega) only [nI_1, vb, am_cl, b1, nle, if_true, b2]
      rw [if_neg (by omega)]
      have c64 : ¬ (64 : Int32) ≤ nI (sg_dp ρ.2 (ρ.1 r) m) := by
        rw [show (64 : Int32) = nI 64 from rfl, am_le (by omega) (by omega)]; omega
      have K : ∀ y : Int32, y = (if g < 0 then vals ((-1 : Int32) - g).toNatClampNeg else g) → ¬ g ≤ -20 → ∃ s' : Int32 × Int32 × am_I, J_X5_holds_66 w (nI r) (nI (sg_dp ρ.2 (ρ.1 r) m)) (nI (ρ.1 r + m)) (nI (sg_dp ρ.2 (ρ.1 r) m)) y iv1 = some (.inl s') ∧ s'.1 = nI (sg_dp ρ.2 (ρ.1 r) (m + 1)) ∧ s'.2.1 = nI (ρ.1 r + (m + 1)) ∧ am_fr [w + 17] [] iv s'.2.2 ∧ ∀ i, i < sg_dp ρ.2 (ρ.1 r) (m + 1) → s'.2.2 (w + 17) i = (sg_run vals ρ.2 (ρ.1 r) (m + 1)).2 i := by
        intro y hy hg1
        obtain ⟨e1, e2⟩ := sg_push (vals := vals) hg hg1
        unfold J_X5_holds_66
        simp (disch := omega) only [vb, am_cl, if_true, nI_1]
        refine ⟨_, rfl, by rw [e1], by rw [Nat.add_assoc], a3.a (by simp), ?_⟩
        show ∀ i, i < _ → am_w iv1 (w + 17) _ y (w + 17) i = _
        rw [am_w_same, e1, e2]
        exact upd_ag hy (fun i h1 h2 => a4 i (by omega))
      rcases ok with ⟨hq, hd⟩ | ⟨hq, hd⟩ | ⟨hq, hd⟩
      · rcases hq with hq | hq
        · obtain ⟨g1, g2⟩ := sg_num_gt hq
          obtain ⟨g3, -⟩ := sg_num7 hq
          rw [cv_num g1, if_neg g3, if_neg c64, if_neg g2]
          exact K g (by rw [if_neg g2]) g1
        · obtain ⟨g1, g2, g3⟩ := sg_val_gt hq
          obtain ⟨g4, -, -⟩ := sg_val7 hq
          have g5 : ((-1 : Int32) - g).toNatClampNeg < 7 := (vp_nIof (vp_b_in g3)).2
          rw [cv_num g1, if_neg g4, if_neg c64, if_pos g2, if_pos g3]
          exact K _ (by rw [if_pos g2, b3]; exact hv _ g5) g1
      · obtain ⟨g1, g2⟩ := sg_bin7 hq
        obtain ⟨e1, e2⟩ := sg_join (vals := vals) hg hq
        rw [if_pos g1]
        unfold J_X5_holds_73
        rw [if_neg g2]
        unfold J_X5_holds_111
        rw [if_neg (by rw [show (1 : Int32) = nI 1 from rfl, am_le (by omega) (by omega)]; omega)]
        simp (disch := omega) only [nI_m1, nI_s1, vb, am_cl, if_true, K_join hq, am_o1_s, nI_1]
        refine ⟨_, rfl, by rw [e1], by rw [Nat.add_assoc], a3.a (by simp), ?_⟩
        show ∀ i, i < _ → am_w iv1 (w + 17) _ _ (w + 17) i = _
        rw [am_w_same, e1, e2]
        refine upd_ag ?_ (fun i h1 h2 => a4 i (by omega))
        rw [a4 _ (by omega), a4 _ (by omega)]
        rfl
      · obtain ⟨e1, e2⟩ := sg_not (vals := vals) hg hq
        have g1 : cv g = -18 := by rw [hq]; decide
        rw [g1, if_pos (by decide)]
        unfold J_X5_holds_73
        rw [if_pos rfl, if_neg (by rw [show (0 : Int32) = nI 0 from rfl, am_le (by omega) (by omega)]; omega)]
        simp (disch := omega) only [nI_s1, vb, am_cl, if_true]
        rw [a4 _ (by omega)]
        by_cases h0 : (sg_run vals ρ.2 (ρ.1 r) m).2 (sg_dp ρ.2 (ρ.1 r) m - 1) = 0
        · rw [if_pos h0]
          rw [if_pos h0] at e2
          unfold J_X5_holds_107
          simp (disch := omega) only [vb, am_cl, if_true, nI_1]
          refine ⟨_, rfl, by rw [e1], by rw [Nat.add_assoc], a3.a (by simp), ?_⟩
          show ∀ i, i < _ → am_w iv1 (w + 17) _ _ (w + 17) i = _
          rw [am_w_same, e1, e2]
          exact upd_ag rfl (fun i h1 h2 => a4 i (by omega))
        · rw [if_neg h0]
          rw [if_neg h0] at e2
          unfold J_X5_holds_107
          simp (disch := omega) only [vb, am_cl, if_true, nI_1]
          refine ⟨_, rfl, by rw [e1], by rw [Nat.add_assoc], a3.a (by simp), ?_⟩
          show ∀ i, i < _ → am_w iv1 (w + 17) _ _ (w + 17) i = _
          rw [am_w_same, e1, e2]
          exact upd_ag rfl (fun i h1 h2 => a4 i (by omega))
    · rintro ⟨n0, k0, iv1⟩ ⟨a1, a2, a3, a4⟩
      dsimp only at a1 a2 a3 a4
      subst a1; subst a2
      have b1 : iv1 (w + 15) (r + 1) = nI (ρ.1 (r + 1)) := by rw [a3.g (by simp)]; exact h2
      refine ⟨iv1, ?_, a4 0 (by rw [hwf.2]; decide)⟩
      show B_X5_holds_10 _ _ _ _ _ = _
      unfold B_X5_holds_10
      simp (disch := omega) only [nI_1, vb, am_cl, b1, nle, if_true]
      rw [if_pos (by omega)]
  obtain ⟨x, hx1, hx2⟩ := H
  unfold F_X5_holds
  simp (disch := omega) only [vb, am_cl, if_true, h1]
  rw [hx1]
  refine ⟨x, ?_⟩
  show (if x (w + 17) ((0 : Int32).toNatClampNeg) = 0 then _ else _) = _
  rw [cl0, hx2]
  unfold ru_h
  by_cases h0 : (sg_run vals ρ.2 (ρ.1 r) (ρ.1 (r + 1) - ρ.1 r)).2 0 = 0 <;> simp [h0, am_bi]
theorem K_leastBroken {ρ : ru_T} (hC : cl_C w iv c) (hc : cy_ok c) (hT : cl_T w iv c) (hR : cl_R w iv ρ (cy_r c)) (ho : ru_ok ρ (cy_r c)) {s : Nat} (hs : s < 1024) : ∃ iv', F_X0_leastBroken w (nI s) iv = some (cy_enc (cy_r c) (cy_lb c ρ s), iv') := by
  have hn := hc.1
  have hr4 := hc.2.2.2.1
  have r14 := hC.1.2.2.2.2.2
  have hA : ∀ a ∈ [w + 17, w + 18], a < w ∨ w + 17 ≤ a := by intro a ha; simp at ha; omega
  have hA7 : ∀ a ∈ [w + 17], a < w ∨ w + 17 ≤ a := by intro a ha; simp at ha; omega
  have hA8 : ∀ a ∈ [w + 18], a < w ∨ w + 17 ≤ a := by intro a ha; simp at ha; omega
  have hL : ∀ q ∈ ([] : List (Nat × Nat)), q.1 < w ∨ w + 17 ≤ q.1 := by intro q hq; cases hq
  have H : ∃ x, am_loop (fun s9 : (Int32 × Int32 × am_I) => B_X0_leastBroken_10 w (nI s) s9.1 s9.2.1 s9.2.2) (nI (cy_r c), (0 : Int32), iv) = some x ∧ am_fr [w + 17, w + 18] [] iv x.2 ∧ ∃ b, x.1 = nI b ∧ cy_LB c ρ s (cy_n c) b := by
    refine am_loop_n (fun m q => q.2.1 = nI m ∧ am_fr [w + 17, w + 18] [] iv q.2.2 ∧ ∃ b, q.1 = nI b ∧ cy_LB c ρ s m b) (cy_n c) (by omega) ?_ ?_ _ ⟨rfl, am_fr.rf _ _ _, cy_r c, rfl, Nat.le_refl _, fun j _ e he => absurd he (Nat.not_lt_zero _), fun q => absurd q (Nat.lt_irrefl _)⟩
    · rintro m ⟨b0, k0, iv1⟩ hm ⟨a1, a2, b, a3, a4⟩
      dsimp only at a1 a2 a3
      subst a1; subst a3
      have hbr := a4.1
      have hC1 : cl_C w iv1 c := hC.fr (a2.w hA hL)
      have hT1 : cl_T w iv1 c := hT.fr (a2.w hA hL)
      have hR1 : cl_R w iv1 ρ (cy_r c) := hR.fr (a2.w hA hL)
      show (∃ s', B_X0_leastBroken_10 _ _ _ (nI m) iv1 = _ ∧ _) ∨ (∃ s', B_X0_leastBroken_10 _ _ _ (nI m) iv1 = _ ∧ _)
      unfold B_X0_leastBroken_10
      simp (disch := omega) only [hC1.1.2.2.2.1, nle, am_bit0]
      rw [if_neg (by omega)]
      rw [show (0 : Int32) = nI 0 from rfl, nle (by omega) (by omega)]
      by_cases hb0 : b ≤ 0
      · rw [if_pos hb0]
        right
        refine ⟨_, rfl, a2, b, rfl, hbr, fun j hj => absurd hj (by omega), fun q => ?_⟩
        obtain ⟨e, g1, g2⟩ := a4.2.2 q
        exact ⟨e, by omega, g2⟩
      rw [if_neg hb0]
      left
      cases hb : s.testBit m with
      | false =>
        rw [if_pos rfl]
        exact ⟨_, rfl, nI_1 m, a2, b, rfl, cy_LB_skip a4 hb⟩
      | true =>
        rw [if_neg (by decide)]
        obtain ⟨iv2, e2, v2⟩ := K_lookAt hC1 hc hT1 hm hs
        have f2 := X_X0_lookAt e2
        rw [e2, am_o1_s]
        have hR2 : cl_R w iv2 ρ (cy_r c) := hR1.fr (f2.w hA8 hL)
        have G : ∃ x, am_loop (fun s9 : (Int32 × Int32 × am_I) => B_X0_leastBroken_45 w (nI s) (nI m) s9.1 s9.2.1 s9.2.2) (nI b, nI 0, iv2) = some x ∧ am_fr [w + 17, w + 18] [] iv x.2 ∧ ∃ b', x.1 = nI b' ∧ b' ≤ b ∧ (∀ j, j < b' → ru_h ρ (cy_va c m s) j = true) ∧ (b' < b → ru_h ρ (cy_va c m s) b' = false) := by
          refine am_loop_n (fun i q => q.2.1 = nI i ∧ am_fr [w + 17] [] iv2 q.2.2 ∧ ∃ b', q.1 = nI b' ∧ b' ≤ b ∧ (∀ j, j < b' → j < i → ru_h ρ (cy_va c m s) j = true) ∧ (b' < b → b' < i ∧ ru_h ρ (cy_va c m s) b' = false)) b (by omega) ?_ ?_ _ ⟨rfl, am_fr.rf _ _ _, b, rfl, Nat.le_refl _, fun j _ h => absurd h (Nat.not_lt_zero _), fun q => absurd q (Nat.lt_irrefl _)⟩
          · rintro i ⟨b9, k9, iv3⟩ hi ⟨d1, d2, b', d3, d4, d5, d6⟩
            dsimp only at d1 d2 d3
            subst d1; subst d3
            have hR3 : cl_R w iv3 ρ (cy_r c) := hR2.fr (d2.w hA7 hL)
            have v3 : ∀ q, q < 7 → iv3 (w + 18) q = cy_va c m s q := fun q hq => by rw [d2.g (by simp)]; exact v2 q hq
            obtain ⟨iv4, e4⟩ := K_holds hR3 ho (show i < cy_r c by omega) hr4 v3
            have f4 := X_X5_holds e4
            show (∃ s', B_X0_leastBroken_45 _ _ _ _ (nI i) iv3 = _ ∧ _) ∨ (∃ s', B_X0_leastBroken_45 _ _ _ _ (nI i) iv3 = _ ∧ _)
            unfold B_X0_leastBroken_45
            simp (disch := omega) only [nle, e4, am_o2_s, ifb]
            by_cases hib : b' ≤ i
            · rw [if_pos hib]
              right
              exact ⟨_, rfl, (a2.tr (f2.up (by simp) (by simp))).tr (d2.up (by simp) (by simp)), b', rfl, d4, fun j hj => d5 j hj (by omega), fun q => (d6 q).2⟩
            · rw [if_neg hib]
              left
              cases hh : ru_h ρ (cy_va c m s) i with
              | true =>
                rw [if_pos rfl]
                refine ⟨_, rfl, nI_1 i, d2.tr f4, b', rfl, d4, fun j hj hj2 => ?_, fun q => ⟨by have := (d6 q).1; omega, (d6 q).2⟩⟩
                by_cases ej : j = i
                · rw [ej]; exact hh
                · exact d5 j hj (by omega)
              | false =>
                rw [if_neg (by decide)]
                exact ⟨_, rfl, nI_1 i, d2.tr f4, i, rfl, by omega, fun j hj _ => d5 j (by omega) hj, fun _ => ⟨by omega, hh⟩⟩
          · rintro ⟨b9, k9, iv3⟩ ⟨d1, d2, b', d3, d4, d5, d6⟩
            dsimp only at d1 d2 d3
            subst d1; subst d3
            refine ⟨(nI b', iv3), ?_, (a2.tr (f2.up (by simp) (by simp))).tr (d2.up (by simp) (by simp)), b', rfl, d4, fun j hj => d5 j hj (by omega), fun q => (d6 q).2⟩
            show B_X0_leastBroken_45 _ _ _ _ _ iv3 = _
            unfold B_X0_leastBroken_45
            simp (disch := omega) only [nle]
            rw [if_pos (by omega)]
        obtain ⟨x, hx, g1, b', g2, g3, g4, g5⟩ := G
        rw [hx, am_o1_s]
        exact ⟨_, rfl, nI_1 m, g1, b', g2, cy_LB_step a4 hb g3 g4 g5⟩
    · rintro ⟨b0, k0, iv1⟩ ⟨a1, a2, b, a3, a4⟩
      dsimp only at a1 a2 a3
      subst a1; subst a3
      have hC1 : cl_C w iv1 c := hC.fr (a2.w hA hL)
      refine ⟨(nI b, iv1), ?_, a2, b, rfl, a4⟩
      show B_X0_leastBroken_10 _ _ _ _ iv1 = _
      unfold B_X0_leastBroken_10
      simp (disch := omega) only [hC1.1.2.2.2.1, nle]
      rw [if_pos (by omega)]
  obtain ⟨x, hx, h0, b, h1, h2⟩ := H
  refine ⟨x.2, ?_⟩
  have hb := h2.1
  unfold F_X0_leastBroken J_X0_leastBroken_82
  rw [r14, hx, am_o1_s, h1, h0.g (by simp), r14, nle (by omega) (by omega), ← cy_LB_lb h2]
  unfold cy_enc
  by_cases h9 : b < cy_r c
  · rw [if_neg (by omega), if_pos h9]
  · rw [if_pos (by omega), if_neg h9]
end B33
