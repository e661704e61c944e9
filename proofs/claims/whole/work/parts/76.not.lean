/-! reading an EXPR on both sides: tests, nots, the whole -/
theorem loop1 {σ ρ : Type} {f : σ → Option (σ ⊕ ρ)} {s s' : σ} {x : ρ} (h : f s = some (.inl s')) (h2 : f s' = some (.inr x)) : am_loop f s = some x :=
  am_loop_seq (fun i => if i = 0 then s else s') 1 (by omega) rfl (fun k hk => by
    have : k = 0 := by omega
    subst this
    exact h) h2
section B76
variable {w t rr xr : Nat} {ivc ivm ivc' ivm' : am_I} {τ : Nat → Nat} {n ty fi be k0 L D : Nat} {rc : Int32 → Int32 → am_I → Option (Int32 × am_I)} {rcm : Int32 → am_I → Option am_I}
/-- the model's test, without its nots -/
def mt (rcm : Int32 → am_I → Option am_I) (i : Int32) (iv : am_I) : Option am_I := am_o1 (F_X10_readSum rcm i iv) fun w5 => (am_o1 (F_X10_isMarked (60 : Int32) w5) fun v6 => (if v6 = 0 then (am_o1 (F_X10_isMarked (61 : Int32) w5) fun v13 => (if v13 = 0 then some w5 else am_o1 (F_X10_stepOn w5) fun w8 => am_o1 (F_X10_readSum rcm i w8) fun w9 => F_X10_lay (-25) w9)) else am_o1 (F_X10_stepOn w5) fun w8 => am_o1 (F_X10_readSum rcm i w8) fun w9 => F_X10_lay (-24) w9))
theorem o1_assoc {α β γ : Type} (o : Option α) (f : α → Option β) (g : β → Option γ) : am_o1 (am_o1 o f) g = am_o1 o fun a => am_o1 (f a) g := by cases o <;> rfl
theorem mt_tail (i k : Int32) (iv : am_I) : (am_o1 (F_X10_readSum rcm i iv) fun w5 => (am_o1 (F_X10_isMarked (60 : Int32) w5) fun v6 => (if v6 = 0 then (am_o1 (F_X10_isMarked (61 : Int32) w5) fun v13 => (if v13 = 0 then J_X10_readNot_93 rcm k w5 else J_X10_readNot_62 rcm i k w5)) else J_X10_readNot_62 rcm i k w5))) = am_o1 (mt rcm i iv) fun w => J_X10_readNot_93 rcm k w := by
  unfold mt
  rw [o1_assoc]
  cases h1 : F_X10_readSum rcm i iv with
  | none => rfl
  | some w5 =>
    rw [am_o1_s, am_o1_s, o1_assoc]
    unfold J_X10_readNot_62 J_X10_readNot_78
    cases h2 : F_X10_isMarked 60 w5 with
    | none => rfl
    | some v6 =>
      rw [am_o1_s, am_o1_s, am_o1_s]
      by_cases z : v6 = 0
      · rw [if_pos z, if_pos z, if_pos z, o1_assoc]
        cases h3 : F_X10_isMarked 61 w5 with
        | none => rfl
        | some v13 =>
          rw [am_o1_s, am_o1_s]
          by_cases z2 : v13 = 0
          · rw [if_pos z2, if_pos z2, am_o1_s]
          · rw [if_neg z2, if_neg z2, o1_assoc]
            congr 1; funext a; rw [o1_assoc]
      · rw [if_neg z, if_neg z, if_neg z, o1_assoc]
        congr 1; funext a; rw [o1_assoc]
theorem S_test {wi DM : Nat} (hx : TX τ n) (hw : w = 2 ∨ w = 22) (ht : 89 ≤ t) (hsub : SIM w t τ n k0 (DM + 1) (rc (nI 3 + 1) (nI wi)) (F_X10_readSum rcm (nI wi))) : SIM w t τ n k0 DM (G_X3_readLevel w t rr xr rc (nI 3) (nI wi)) (mt rcm (nI wi)) := by
  have hn := hx.1
  have hgs : ∀ ivc ty fi be, cT t ivc τ n ty fi be → TK τ n ty fi be → F_X3_signTold w t rr xr (nI 3) ivc = some (svz (g2s τ 60 61 (-24) (-25) ty fi be)) := by
    intro ivc ty fi be h1 h3
    unfold F_X3_signTold
    rw [if_neg (show ¬ ((nI 3).toInt < 0 ∨ 4 < (nI 3).toInt) by decide), if_neg (show ¬ nI 3 = 0 by decide), if_neg (show ¬ nI 3 = 1 by decide), if_neg (show ¬ nI 3 = 2 by decide), if_pos (show nI 3 = 3 from rfl)]
    unfold g2s
    rw [show (60 : Int32) = nI 60 from rfl, show (61 : Int32) = nI 61 from rfl, K_isSign hx h1 h3 (by decide), am_o1_s, ifb, K_isSign hx h1 h3 (by decide), am_o1_s, ifb]
    cases iss τ ty fi 60 <;> cases iss τ ty fi 61 <;> rfl
  intro ivc ivm ty fi be L D P h hL hD
  obtain ⟨b, ivc1, ivm1, e1, e2, e3, e4⟩ := hsub ivc ivm ty fi be L D P h hL (by omega)
  unfold G_X3_readLevel mt
  rw [if_neg (show ¬ nI 3 = 2 by decide), if_pos (show nI 3 < 6 by decide), e1, am_o2_s, e2, am_o1_s]
  cases b with
  | false =>
    have ee := e4 rfl
    rw [if_pos (show am_bi false = 0 from rfl), P_isMarkedBad ee.1, am_o1_s, if_pos rfl, P_isMarkedBad ee.1, am_o1_s, if_pos rfl]
    exact ⟨false, _, _, rfl, rfl, fun q => (by cases q), fun _ => ee⟩
  | true =>
    obtain ⟨ty', fi', be', L', g1, g2, g3, g4, g5, g6⟩ := e3 rfl
    rw [if_neg (show ¬ am_bi true = 0 by decide), if_pos (show nI 3 = 3 from rfl)]
    unfold J_X3_readLevel_48
    rw [hgs ivc1 ty' fi' be' g1.1 g1.2.2.1, am_o1_s, show (60 : Int32) = nI 60 from rfl, show (61 : Int32) = nI 61 from rfl, P_isMarked hx g1.2.1 g1.2.2.1 (by decide) g1.2.2.2.1, am_o1_s, ifb, P_isMarked hx g1.2.1 g1.2.2.1 (by decide) g1.2.2.2.1, am_o1_s, ifb]
    have MS : (if iss τ ty' fi' 60 = true then am_o1 (F_X10_stepOn ivm1) fun w8 => am_o1 (F_X10_readSum rcm (nI wi) w8) fun w9 => F_X10_lay (-24) w9 else if iss τ ty' fi' 61 = true then am_o1 (F_X10_stepOn ivm1) fun w8 => am_o1 (F_X10_readSum rcm (nI wi) w8) fun w9 => F_X10_lay (-25) w9 else some ivm1) = if g2s τ 60 61 (-24) (-25) ty' fi' be' = 0 then some ivm1 else am_o1 (F_X10_stepOn ivm1) fun w8 => am_o1 (F_X10_readSum rcm (nI wi) w8) fun w9 => F_X10_lay (g2s τ 60 61 (-24) (-25) ty' fi' be') w9 := by
      unfold g2s
      cases iss τ ty' fi' 60 <;> cases iss τ ty' fi' 61 <;> rfl
    rw [MS]
    by_cases hg0 : g2s τ 60 61 (-24) (-25) ty' fi' be' = 0
    · rw [if_pos hg0, loop0 (x := .inl ivc1) (by
        show B_X3_readLevel_59 w t rr xr rc (nI 3) (nI wi) 1 (svz (g2s τ 60 61 (-24) (-25) ty' fi' be')) 0 ivc1 = _
        unfold B_X3_readLevel_59
        rw [hg0, if_neg (show ¬ (1 : Int32) ≤ 0 by decide), show svz 0 = 0 from rfl, if_pos rfl]), am_lp_l]
      exact ⟨true, _, _, rfl, rfl, fun _ => ⟨ty', fi', be', L', g1, g2, g3, g4, g5, g6⟩, fun q => (by cases q)⟩
    · have gb : sg_bin (g2s τ 60 61 (-24) (-25) ty' fi' be') ∧ ty' ≠ 0 := by
        unfold g2s at hg0 ⊢
        by_cases z1 : iss τ ty' fi' 60 = true
        · rw [if_pos z1]; exact ⟨Or.inr (Or.inr (Or.inr (Or.inr (Or.inl rfl)))), by rw [iss_ty z1]; decide⟩
        · rw [if_neg z1] at hg0 ⊢
          by_cases z2 : iss τ ty' fi' 61 = true
          · rw [if_pos z2]; exact ⟨Or.inr (Or.inr (Or.inr (Or.inr (Or.inr (Or.inl rfl))))), by rw [iss_ty z2]; decide⟩
          · rw [if_neg z2] at hg0; exact absurd rfl hg0
      generalize g2s τ 60 61 (-24) (-25) ty' fi' be' = g at hg0 gb
      obtain ⟨gb, gt⟩ := gb
      obtain ⟨cv0, -⟩ := cv_bin gb
      have esv : svz g = cv g := by unfold svz; rw [if_neg hg0]
      have hfb := (g1.2.2.1.2.2.2.2.1 gt).1
      have hbn := g1.2.2.1.2.1
      obtain ⟨ivc2, ivm2, a1, a2, a3, a4, a5⟩ := g1.adv hx hw ht
      have q1 := a3.2.2.1.1
      obtain ⟨b, ivc3, ivm3, d1, d2, d3, d4⟩ := hsub ivc2 ivm2 _ _ _ L' (D + 1) (P + 1) a3 (by omega) (by omega)
      rw [if_neg hg0, a2, am_o1_s, d2, am_o1_s, esv]
      cases b with
      | false =>
        have ee := d4 rfl
        rw [P_layBad ee.1, loop0 (x := .inr ((0 : Int32), ivc3)) (by
          show B_X3_readLevel_59 w t rr xr rc (nI 3) (nI wi) 1 (cv g) 0 ivc1 = _
          unfold B_X3_readLevel_59
          rw [if_neg (show ¬ (1 : Int32) ≤ 0 by decide), if_neg cv0, a1, am_o1_s, d1, am_o2_s, if_pos (show am_bi false = 0 from rfl)]), am_lp_r]
        exact ⟨false, _, _, rfl, rfl, fun q => (by cases q), fun _ => ee⟩
      | true =>
        obtain ⟨ty2, fi2, be2, L2, y1, y2, y3, y4, y5, y6⟩ := d3 rfl
        have hfi' : fi2 ≤ n := Nat.le_trans y1.2.2.1.1 y1.2.2.1.2.1
        obtain ⟨ivc4, ivm4, l1, l2, l3, l5⟩ := y1.lay (g := g) hw ht (by omega) (Or.inr (Or.inl ⟨gb, by omega⟩))
        have hdep : sg_dep g (D + 1 + 1) = D + 1 := by
          obtain ⟨u1, u2⟩ := sg_bin_le gb
          unfold sg_dep; rw [if_pos u1, if_neg u2]; omega
        rw [hdep] at l3
        rw [l2, loop1 (s' := (svz (g2s τ 60 61 (-24) (-25) ty2 fi2 be2), (1 : Int32), ivc4)) (x := .inl ivc4) (by
          show B_X3_readLevel_59 w t rr xr rc (nI 3) (nI wi) 1 (cv g) 0 ivc1 = _
          unfold B_X3_readLevel_59
          rw [if_neg (show ¬ (1 : Int32) ≤ 0 by decide), if_neg cv0, a1, am_o1_s, d1, am_o2_s, if_neg (show ¬ am_bi true = 0 by decide), l1, am_o1_s, hgs ivc4 ty2 fi2 be2 l3.1 l3.2.2.1, am_o1_s]; rfl) (by
          show B_X3_readLevel_59 w t rr xr rc (nI 3) (nI wi) 1 _ 1 ivc4 = _
          unfold B_X3_readLevel_59
          rw [if_pos (Int32.le_refl _)]), am_lp_l]
        refine ⟨true, _, _, rfl, rfl, fun _ => ⟨ty2, fi2, be2, L2 + 1, l3, by omega, g3, by omega, by omega, fun k hk => ?_⟩, fun q => (by cases q)⟩
        rw [l5 k (by omega), y6 k (by omega), a5, g6 k hk]
/-- nots laid on both sides -/
theorem S_lays {kk : Nat} (hx : TX τ n) (hw : w = 2 ∨ w = 22) (ht : 89 ≤ t) (hkk : kk ≤ 6) : ∀ (r fc fm i : Nat), r + i = kk → r < fc → r < fm → ∀ ivc ivm L D, ER w t ivc ivm τ n ty fi be k0 L D → L + r ≤ fi → 1 ≤ D →
    ∃ ivc' ivm', am_wh (fun s : (Int32 × am_I) => B_X3_readNot_67 w t rr xr rc (nI kk) s.1 s.2) fc (nI i, ivc) = some ivc' ∧ am_wh (fun s : (Int32 × am_I) => B_X10_readNot_95 rcm (nI kk) s.1 s.2) fm (nI i, ivm) = some ivm' ∧ ER w t ivc' ivm' τ n ty fi be k0 (L + r) D ∧ kept ivm ivm' L
  | 0, fc, fm, i, e, h1, h2, ivc, ivm, L, D, h, hL, hD => by
    obtain ⟨fc, rfl⟩ : ∃ k, fc = k + 1 := ⟨fc - 1, by omega⟩
    obtain ⟨fm, rfl⟩ : ∃ k, fm = k + 1 := ⟨fm - 1, by omega⟩
    have : i = kk := by omega
    subst this
    refine ⟨ivc, ivm, ?_, ?_, h, kept.rf _ _⟩
    · show am_lp (B_X3_readNot_67 w t rr xr rc (nI i) (nI i) ivc) _ _ = _
      unfold B_X3_readNot_67
      rw [if_pos (Int32.le_refl _)]; rfl
    · show am_lp (B_X10_readNot_95 rcm (nI i) (nI i) ivm) _ _ = _
      unfold B_X10_readNot_95
      rw [if_pos (Int32.le_refl _)]; rfl
  | r + 1, fc, fm, i, e, h1, h2, ivc, ivm, L, D, h, hL, hD => by
    have hn := hx.1
    obtain ⟨fc, rfl⟩ : ∃ k, fc = k + 1 := ⟨fc - 1, by omega⟩
    obtain ⟨fm, rfl⟩ : ∃ k, fm = k + 1 := ⟨fm - 1, by omega⟩
    have hfn : fi ≤ n := Nat.le_trans h.2.2.1.1 h.2.2.1.2.1
    obtain ⟨ivc1, ivm1, l1, l2, l3, l5⟩ := h.lay (g := -28) hw ht (by omega) (Or.inr (Or.inr ⟨rfl, hD⟩))
    have hdep : sg_dep (-28) D = D := by unfold sg_dep; rw [if_pos (by decide), if_pos rfl]
    rw [hdep] at l3
    obtain ⟨ivc2, ivm2, a1, a2, a3, a4⟩ := S_lays hx hw ht hkk r fc fm (i + 1) (by omega) (by omega) (by omega) ivc1 ivm1 (L + 1) D l3 (by omega) hD
    refine ⟨ivc2, ivm2, ?_, ?_, by rw [show L + (r + 1) = L + 1 + r by omega]; exact a3, fun k hk => by rw [a4 k (by omega), l5 k hk]⟩
    · show am_lp (B_X3_readNot_67 w t rr xr rc (nI kk) (nI i) ivc) _ _ = _
      unfold B_X3_readNot_67
      rw [nle (by omega) (by omega), if_neg (by omega), show (-18 : Int32) = cv (-28) by decide, l1, am_o1_s, nI_1]
      exact a1
    · show am_lp (B_X10_readNot_95 rcm (nI kk) (nI i) ivm) _ _ = _
      unfold B_X10_readNot_95
      rw [nle (by omega) (by omega), if_neg (by omega), l2, am_o1_s, nI_1]
      exact a2
/-- the nots ahead, on both sides -/
theorem S_nots {wi : Nat} (hx : TX τ n) (hw : w = 2 ∨ w = 22) (ht : 89 ≤ t) : ∀ (r fc fm k : Nat), r + k = 6 → r < fc → r + 1 < fm → ∀ ivc ivm ty fi be L D P, ER w t ivc ivm τ n ty fi be k0 L D → L + (P + k) ≤ fi →
    ∃ k' ivc' ivm' ty' fi' be', k ≤ k' ∧ k' ≤ 6 ∧ am_wh (fun s : (Int32 × am_I) => B_X3_readNot_2 w t rr xr rc (nI wi) s.1 s.2) fc (nI k, ivc) = some (nI k', ivc') ∧ ER w t ivc' ivm' τ n ty' fi' be' k0 L D ∧ fi ≤ fi' ∧ L + (P + k') ≤ fi' ∧ (k < k' → be ≤ fi' ∧ ty ≠ 0) ∧ (k = k' → ty' = ty ∧ fi' = fi ∧ be' = be) ∧ (∀ q, ivm' 69 q = ivm 69 q) ∧
      ((isw τ ty' fi' be' (wb 55) = false ∧ am_wh (fun s : (Int32 × am_I) => B_X10_readNot_2 rcm (nI wi) s.1 s.2) fm (nI k, ivm) = some (nI k', ivm')) ∨
       (isw τ ty' fi' be' (wb 55) = true ∧ am_wh (fun s : (Int32 × am_I) => B_X10_readNot_2 rcm (nI wi) s.1 s.2) fm (nI k, ivm) = some (nI 7, am_w (am_w ivm' 54 25 2) 54 26 (ivm' 54 23))))
  | 0, fc, fm, k, e, h1, h2, ivc, ivm, ty, fi, be, L, D, P, h, hL => by
    obtain ⟨fc, rfl⟩ : ∃ k, fc = k + 1 := ⟨fc - 1, by omega⟩
    obtain ⟨fm, rfl⟩ : ∃ k, fm = k + 1 + 1 := ⟨fm - 2, by omega⟩
    have : k = 6 := by omega
    subst this
    refine ⟨6, ivc, ivm, ty, fi, be, Nat.le_refl _, Nat.le_refl _, ?_, h, Nat.le_refl _, hL, fun q => absurd q (Nat.lt_irrefl _), fun _ => ⟨rfl, rfl, rfl⟩, fun _ => rfl, ?_⟩
    · show am_lp (B_X3_readNot_2 w t rr xr rc (nI wi) (nI 6) ivc) _ _ = _
      unfold B_X3_readNot_2
      rw [if_pos (show (6 : Int32) ≤ nI 6 by decide)]; rfl
    · cases z : isw τ ty fi be (wb 55) with
      | false =>
        refine Or.inl ⟨rfl, ?_⟩
        show am_lp (B_X10_readNot_2 rcm (nI wi) (nI 6) ivm) _ _ = _
        unfold B_X10_readNot_2
        rw [P_is hx h.2.1 h.2.2.1 (by decide) h.2.2.2.1, z, am_o1_s, if_pos (show am_bi false = 0 from rfl)]; rfl
      | true =>
        refine Or.inr ⟨rfl, ?_⟩
        have hnb : ¬ am_w (am_w ivm 54 25 2) 54 26 (ivm 54 23) 54 25 = 0 := by simp [am_w_r]
        show am_lp (B_X10_readNot_2 rcm (nI wi) (nI 6) ivm) _ _ = _
        unfold B_X10_readNot_2
        rw [P_is hx h.2.1 h.2.2.1 (by decide) h.2.2.2.1, z, am_o1_s, if_neg (show ¬ am_bi true = 0 by decide), if_pos (show nI 6 = 6 from rfl), P_wrong h.2.2.2.1, am_o1_s]
        unfold J_X10_readNot_22
        rw [if_neg hnb, am_lp_l]
        show am_lp (B_X10_readNot_2 rcm (nI wi) (nI 6 + 1) _) _ _ = _
        unfold B_X10_readNot_2
        rw [P_isBad hnb, am_o1_s, if_pos rfl]; rfl
  | r + 1, fc, fm, k, e, h1, h2, ivc, ivm, ty, fi, be, L, D, P, h, hL => by
    obtain ⟨fc, rfl⟩ : ∃ k, fc = k + 1 := ⟨fc - 1, by omega⟩
    obtain ⟨fm, rfl⟩ : ∃ k, fm = k + 1 := ⟨fm - 1, by omega⟩
    have h6 : ¬ (6 : Int32) ≤ nI k := nI_ge (show k < 6 by omega) (by decide)
    have k6 : ¬ nI k = 6 := fun q => by
      have := (am_eq (show k < 65536 by omega) (show 6 < 65536 by decide)).mp q
      omega
    cases z : isw τ ty fi be (wb 55) with
    | false =>
      refine ⟨k, ivc, ivm, ty, fi, be, Nat.le_refl _, by omega, ?_, h, Nat.le_refl _, hL, fun q => absurd q (Nat.lt_irrefl _), fun _ => ⟨rfl, rfl, rfl⟩, fun _ => rfl, Or.inl ⟨z, ?_⟩⟩
      · show am_lp (B_X3_readNot_2 w t rr xr rc (nI wi) (nI k) ivc) _ _ = _
        unfold B_X3_readNot_2
        rw [if_neg h6, K_isWord hx h.1 h.2.2.1 (by decide), wb_ao.2.2, z, am_o1_s, if_pos (show am_bi false = 0 from rfl)]; rfl
      · show am_lp (B_X10_readNot_2 rcm (nI wi) (nI k) ivm) _ _ = _
        unfold B_X10_readNot_2
        rw [P_is hx h.2.1 h.2.2.1 (by decide) h.2.2.2.1, z, am_o1_s, if_pos (show am_bi false = 0 from rfl)]; rfl
    | true =>
      have gt : ty ≠ 0 := by rw [isw_ty z]; decide
      have hfb := (h.2.2.1.2.2.2.2.1 gt).1
      obtain ⟨ivc1, ivm1, a1, a2, a3, a4, a5⟩ := h.adv hx hw ht
      have q1 := a3.2.2.1.1
      obtain ⟨k', ivc', ivm', ty', fi', be', b1, b2, b3, b4, b5, b6, b7, b8, b9, b10⟩ := S_nots hx hw ht r fc fm (k + 1) (by omega) (by omega) (by omega) ivc1 ivm1 _ _ _ L D P a3 (by omega)
      have hmx : am_wh (fun s : (Int32 × am_I) => B_X10_readNot_2 rcm (nI wi) s.1 s.2) (fm + 1) (nI k, ivm) = am_wh (fun s : (Int32 × am_I) => B_X10_readNot_2 rcm (nI wi) s.1 s.2) fm (nI (k + 1), ivm1) := by
        show am_lp (B_X10_readNot_2 rcm (nI wi) (nI k) ivm) _ _ = _
        unfold B_X10_readNot_2 J_X10_readNot_22
        rw [P_is hx h.2.1 h.2.2.1 (by decide) h.2.2.2.1, z, am_o1_s, if_neg (show ¬ am_bi true = 0 by decide), if_neg k6, if_pos h.2.2.2.1, a2, am_o1_s, nI_1]; rfl
      refine ⟨k', ivc', ivm', ty', fi', be', by omega, b2, ?_, b4, by omega, b6, fun _ => ⟨by omega, gt⟩, fun q => by omega, fun q => by rw [b9, a5], ?_⟩
      · show am_lp (B_X3_readNot_2 w t rr xr rc (nI wi) (nI k) ivc) _ _ = _
        unfold B_X3_readNot_2
        rw [if_neg h6, K_isWord hx h.1 h.2.2.1 (by decide), wb_ao.2.2, z, am_o1_s, if_neg (show ¬ am_bi true = 0 by decide), a1, am_o1_s, nI_1]
        exact b3
      · rw [hmx]; exact b10
theorem S_not {wi DM : Nat} (hx : TX τ n) (hw : w = 2 ∨ w = 22) (ht : 89 ≤ t) (hsub : SIM w t τ n k0 DM (rc 3 (nI wi)) (mt rcm (nI wi))) : SIM w t τ n k0 DM (G_X3_readLevel w t rr xr rc (nI 2) (nI wi)) (F_X10_readNot rcm (nI wi)) := by
  intro ivc ivm ty fi be L D P h hL hD
  have hn := hx.1
  obtain ⟨k', ivc1, ivm1, ty1, fi1, be1, b1, b2, b3, b4, b5, b6, b7, b8, b9, b10⟩ := S_nots (rr := rr) (xr := xr) (rc := rc) (rcm := rcm) (wi := wi) hx hw ht 6 am_fu am_fu 0 rfl (by rw [am_fu_eq]; omega) (by rw [am_fu_eq]; omega) ivc ivm ty fi be L D P h (by omega)
  have c1 : am_loop (fun s : (Int32 × am_I) => B_X3_readNot_2 w t rr xr rc (nI wi) s.1 s.2) ((0 : Int32), ivc) = some (nI k', ivc1) := b3
  unfold G_X3_readLevel F_X3_readNot F_X10_readNot
  rw [if_pos (show nI 2 = 2 from rfl), c1, am_o1_s]
  unfold J_X3_readNot_33
  rw [K_isWord hx b4.1 b4.2.2.1 (by decide), wb_ao.2.2, am_o1_s, ifb]
  rcases b10 with ⟨z, m1⟩ | ⟨z, m1⟩
  · have m1' : am_loop (fun s : (Int32 × am_I) => B_X10_readNot_2 rcm (nI wi) s.1 s.2) ((0 : Int32), ivm) = some (nI k', ivm1) := m1
    rw [z, if_neg (show ¬ false = true by decide), m1', am_o1_s]
    dsimp only
    rw [mt_tail]
    obtain ⟨b, ivc2, ivm2, e1, e2, e3, e4⟩ := hsub ivc1 ivm1 _ _ _ L D (P + k') b4 (by omega) hD
    rw [e1, am_o2_s, e2, am_o1_s, ifb]
    cases b with
    | false =>
      have ee := e4 rfl
      rw [if_neg (show ¬ false = true by decide), am_o2_s, if_pos (Or.inl rfl), NB_nots ee.1 (by omega)]
      exact ⟨false, _, _, rfl, rfl, fun q => (by cases q), fun _ => ee⟩
    | true =>
      obtain ⟨ty2, fi2, be2, L2, y1, y2, y3, y4, y5, y6⟩ := e3 rfl
      rw [if_pos rfl]
      obtain ⟨ivc3, ivm3, l1, l2, l3, l4⟩ := S_lays (rr := rr) (xr := xr) (rc := rc) (rcm := rcm) hx hw ht b2 k' am_fu am_fu 0 (by omega) (by rw [am_fu_eq]; omega) (by rw [am_fu_eq]; omega) ivc2 ivm2 L2 (D + 1) y1 (by omega) (by omega)
      have l1' : am_loop (fun s : (Int32 × am_I) => B_X3_readNot_67 w t rr xr rc (nI k') s.1 s.2) ((0 : Int32), ivc2) = some ivc3 := l1
      have l2' : am_loop (fun s : (Int32 × am_I) => B_X10_readNot_95 rcm (nI k') s.1 s.2) ((0 : Int32), ivm2) = some ivm3 := l2
      unfold J_X10_readNot_93
      rw [l1', am_o1_s, l2', am_o1_s, am_o2_s, if_pos (Or.inr rfl)]
      have hbe : be ≤ fi2 ∧ ty ≠ 0 := by
        by_cases k0' : 0 < k'
        · obtain ⟨u1, u2⟩ := b7 k0'
          have := b4.2.2.1.1
          exact ⟨by omega, u2⟩
        · obtain ⟨u1, u2, u3⟩ := b8 (by omega)
          subst u1; subst u2; subst u3
          exact ⟨y2, y3⟩
      refine ⟨true, _, _, rfl, rfl, fun _ => ⟨ty2, fi2, be2, L2 + k', l3, hbe.1, hbe.2, by omega, by omega, fun k hk => ?_⟩, fun q => (by cases q)⟩
      rw [l4 k (by omega), y6 k hk, b9]
  · have m1' : am_loop (fun s : (Int32 × am_I) => B_X10_readNot_2 rcm (nI wi) s.1 s.2) ((0 : Int32), ivm) = some (nI 7, am_w (am_w ivm1 54 25 2) 54 26 (ivm1 54 23)) := m1
    have hnb : ¬ am_w (am_w ivm1 54 25 2) 54 26 (ivm1 54 23) 54 25 = 0 := by simp [am_w_r]
    rw [z, if_pos (show true = true from rfl), m1', am_o1_s]
    dsimp only
    rw [NB_notT hnb (by decide)]
    unfold F_X8_refuse
    rw [am_o2_s, if_pos (Or.inl rfl), am_o2_s, if_pos (Or.inl rfl)]
    exact ⟨false, _, _, rfl, rfl, fun q => (by cases q), fun _ => EE.of b4.1 b4.2.1 (by decide)⟩
end B76
