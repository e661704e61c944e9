/-! reading an EXPR on both sides: what signs join -/
section B75
variable {w t rr xr : Nat} {ivc ivm ivc' ivm' : am_I} {τ : Nat → Nat} {n ty fi be k0 L D : Nat} {rc : Int32 → Int32 → am_I → Option (Int32 × am_I)} {rcm : Int32 → am_I → Option am_I}
theorem SIM.le {DM DM' : Nat} {Fc : am_I → Option (Int32 × am_I)} {Fm : am_I → Option am_I} (h : SIM w t τ n k0 DM' Fc Fm) (hd : DM ≤ DM') : SIM w t τ n k0 DM Fc Fm := fun ivc ivm ty fi be L D P h1 h2 h3 => h ivc ivm ty fi be L D P h1 h2 (by omega)
theorem cv_bin {g : Int32} (h : sg_bin g) : ¬ cv g = 0 ∧ ¬ g = 0 := by
  rcases h with e | e | e | e | e | e | e | e <;> subst e <;> decide
def svz (g : Int32) : Int32 := if g = 0 then 0 else cv g
theorem S_chain {ℓ wi DM : Nat} {sub : am_I → Option am_I} {Bm : am_I → Option (am_I ⊕ am_I)} {g : Nat → Nat → Nat → Int32} (hx : TX τ n) (hw : w = 2 ∨ w = 22) (ht : 89 ≤ t)
    (hgs : ∀ ivc ty fi be, cT t ivc τ n ty fi be → TK τ n ty fi be → F_X3_signTold w t rr xr (nI ℓ) ivc = some (svz (g ty fi be)))
    (hgb : ∀ ty fi be, ¬ g ty fi be = 0 → sg_bin (g ty fi be) ∧ ty ≠ 0)
    (hBm : ∀ ivm ty fi be, mT ivm τ n ty fi be → TK τ n ty fi be → ivm 54 25 = 0 → Bm ivm = if g ty fi be = 0 then some (.inr ivm) else am_o1 (F_X10_stepOn ivm) fun w1 => am_o1 (sub w1) fun w2 => am_o1 (F_X10_lay (g ty fi be) w2) fun w3 => some (.inl w3))
    (hBb : ∀ ivm, ¬ ivm 54 25 = 0 → Bm ivm = some (.inr ivm))
    (hsub : SIM w t τ n k0 (DM + 1) (rc (nI ℓ + 1) (nI wi)) sub) :
    ∀ (m fc fm : Nat), m < fc → m + 1 < fm → ∀ ivc ivm ty fi be L D P i, n - fi ≤ m → ER w t ivc ivm τ n ty fi be k0 L D → L + P ≤ fi → 1 ≤ D → D ≤ DM + 1 → i ≤ fi →
      ∃ x ivm', am_wh (fun s : (Int32 × Int32 × am_I) => B_X3_readLevel_59 w t rr xr rc (nI ℓ) (nI wi) (700 : Int32) s.1 s.2.1 s.2.2) fc (svz (g ty fi be), nI i, ivc) = some x ∧ am_wh Bm fm ivm = some ivm' ∧ ((∃ ivc' ty' fi' be' L', x = .inl ivc' ∧ ER w t ivc' ivm' τ n ty' fi' be' k0 L' D ∧ fi ≤ fi' ∧ L' + P ≤ fi' ∧ L ≤ L' ∧ kept ivm ivm' L) ∨ (∃ ivc', x = .inr ((0 : Int32), ivc') ∧ EE t ivc' ivm')) := by
  have hn := hx.1
  intro m
  induction m with
  | zero =>
    intro fc fm hfc hfm ivc ivm ty fi be L D P i hm h hL h1 h2 hi
    obtain ⟨fc, rfl⟩ : ∃ k, fc = k + 1 := ⟨fc - 1, by omega⟩
    obtain ⟨fm, rfl⟩ : ∃ k, fm = k + 1 := ⟨fm - 1, by omega⟩
    have hg0 : g ty fi be = 0 := by
      by_cases e : g ty fi be = 0
      · exact e
      · have h9 := (hgb ty fi be e).2
        have := (h.2.2.1.2.2.2.2.1 h9).1
        have := h.2.2.1.2.1
        omega
    refine ⟨.inl ivc, ivm, ?_, ?_, Or.inl ⟨ivc, ty, fi, be, L, rfl, h, Nat.le_refl _, hL, Nat.le_refl _, kept.rf _ _⟩⟩
    · show am_lp (B_X3_readLevel_59 w t rr xr rc (nI ℓ) (nI wi) 700 (svz (g ty fi be)) (nI i) ivc) _ _ = _
      unfold B_X3_readLevel_59
      rw [show svz (g ty fi be) = 0 by rw [hg0]; rfl, if_pos rfl]
      split <;> rfl
    · show am_lp (Bm ivm) _ _ = _
      rw [hBm ivm ty fi be h.2.1 h.2.2.1 h.2.2.2.1, if_pos hg0]; rfl
  | succ m ih =>
    intro fc fm hfc hfm ivc ivm ty fi be L D P i hm h hL h1 h2 hi
    obtain ⟨fc, rfl⟩ : ∃ k, fc = k + 1 := ⟨fc - 1, by omega⟩
    obtain ⟨fm, rfl⟩ : ∃ k, fm = k + 1 := ⟨fm - 1, by omega⟩
    by_cases hg0 : g ty fi be = 0
    · refine ⟨.inl ivc, ivm, ?_, ?_, Or.inl ⟨ivc, ty, fi, be, L, rfl, h, Nat.le_refl _, hL, Nat.le_refl _, kept.rf _ _⟩⟩
      · show am_lp (B_X3_readLevel_59 w t rr xr rc (nI ℓ) (nI wi) 700 (svz (g ty fi be)) (nI i) ivc) _ _ = _
        unfold B_X3_readLevel_59
        rw [show svz (g ty fi be) = 0 by rw [hg0]; rfl, if_pos rfl]
        split <;> rfl
      · show am_lp (Bm ivm) _ _ = _
        rw [hBm ivm ty fi be h.2.1 h.2.2.1 h.2.2.2.1, if_pos hg0]; rfl
    · obtain ⟨gb, gt⟩ := hgb ty fi be hg0
      obtain ⟨cv0, -⟩ := cv_bin gb
      have hfb := (h.2.2.1.2.2.2.2.1 gt).1
      have hbn := h.2.2.1.2.1
      have esv : svz (g ty fi be) = cv (g ty fi be) := by unfold svz; rw [if_neg hg0]
      obtain ⟨ivc1, ivm1, a1, a2, a3, a4, a5⟩ := h.adv hx hw ht
      have q1 := a3.2.2.1.1
      obtain ⟨b, ivc2, ivm2, e1, e2, e3, e4⟩ := hsub ivc1 ivm1 _ _ _ L D (P + 1) a3 (by omega) h2
      have hB1 := hBm ivm ty fi be h.2.1 h.2.2.1 h.2.2.2.1
      rw [if_neg hg0, a2, am_o1_s, e2, am_o1_s] at hB1
      cases b with
      | false =>
        have ee := e4 rfl
        rw [P_layBad ee.1, am_o1_s] at hB1
        refine ⟨.inr (0, ivc2), ivm2, ?_, ?_, Or.inr ⟨ivc2, rfl, ee⟩⟩
        · show am_lp (B_X3_readLevel_59 w t rr xr rc (nI ℓ) (nI wi) 700 (svz (g ty fi be)) (nI i) ivc) _ _ = _
          unfold B_X3_readLevel_59
          rw [esv, if_neg (show ¬ (700 : Int32) ≤ nI i from nI_ge (show i < 700 by omega) (by decide)), if_neg cv0, a1, am_o1_s, e1, am_o2_s, if_pos (show am_bi false = 0 from rfl)]; rfl
        · show am_lp (Bm ivm) _ _ = _
          obtain ⟨fm, rfl⟩ : ∃ k, fm = k + 1 := ⟨fm - 1, by omega⟩
          rw [hB1]
          show am_lp (Bm ivm2) _ _ = _
          rw [hBb ivm2 ee.1]; rfl
      | true =>
        obtain ⟨ty', fi', be', L', g1, g2, g3, g4, g5, g6⟩ := e3 rfl
        have hfi' : fi' ≤ n := Nat.le_trans g1.2.2.1.1 g1.2.2.1.2.1
        obtain ⟨ivc3, ivm3, l1, l2, l3, l5⟩ := g1.lay (g := g ty fi be) hw ht (by omega) (Or.inr (Or.inl ⟨gb, by omega⟩))
        have hdep : sg_dep (g ty fi be) (D + 1) = D := by
          obtain ⟨u1, u2⟩ := sg_bin_le gb
          unfold sg_dep; rw [if_pos u1, if_neg u2]; omega
        rw [hdep] at l3
        rw [l2, am_o1_s] at hB1
        obtain ⟨x, ivm4, x1, x2, x3⟩ := ih fc fm (by omega) (by omega) ivc3 ivm3 ty' fi' be' (L' + 1) D P (i + 1) (by omega) l3 (by omega) h1 h2 (by omega)
        have K1 : kept ivm ivm3 L := fun k hk => by rw [l5 k (by omega), g6 k hk, a5]
        refine ⟨x, ivm4, ?_, ?_, ?_⟩
        · show am_lp (B_X3_readLevel_59 w t rr xr rc (nI ℓ) (nI wi) 700 (svz (g ty fi be)) (nI i) ivc) _ _ = _
          unfold B_X3_readLevel_59
          rw [esv, if_neg (show ¬ (700 : Int32) ≤ nI i from nI_ge (show i < 700 by omega) (by decide)), if_neg cv0, a1, am_o1_s, e1, am_o2_s, if_neg (show ¬ am_bi true = 0 by decide), l1, am_o1_s, hgs ivc3 ty' fi' be' l3.1 l3.2.2.1, am_o1_s, nI_1]
          exact x1
        · show am_lp (Bm ivm) _ _ = _
          rw [hB1]
          exact x2
        · rcases x3 with ⟨ivc', ty2, fi2, be2, L2, y1, y2, y3, y4, y5, y6⟩ | ⟨ivc', y1, y2⟩
          · exact Or.inl ⟨ivc', ty2, fi2, be2, L2, y1, y2, by omega, y4, by omega, K1.tr y6 (by omega)⟩
          · exact Or.inr ⟨ivc', y1, y2⟩
theorem S_level {ℓ wi DM : Nat} {sub : am_I → Option am_I} {Bm : am_I → Option (am_I ⊕ am_I)} {g : Nat → Nat → Nat → Int32} (hx : TX τ n) (hw : w = 2 ∨ w = 22) (ht : 89 ≤ t) (hl : ℓ < 6 ∧ ℓ ≠ 2 ∧ ℓ ≠ 3)
    (hgs : ∀ ivc ty fi be, cT t ivc τ n ty fi be → TK τ n ty fi be → F_X3_signTold w t rr xr (nI ℓ) ivc = some (svz (g ty fi be)))
    (hgb : ∀ ty fi be, ¬ g ty fi be = 0 → sg_bin (g ty fi be) ∧ ty ≠ 0)
    (hBm : ∀ ivm ty fi be, mT ivm τ n ty fi be → TK τ n ty fi be → ivm 54 25 = 0 → Bm ivm = if g ty fi be = 0 then some (.inr ivm) else am_o1 (F_X10_stepOn ivm) fun w1 => am_o1 (sub w1) fun w2 => am_o1 (F_X10_lay (g ty fi be) w2) fun w3 => some (.inl w3))
    (hBb : ∀ ivm, ¬ ivm 54 25 = 0 → Bm ivm = some (.inr ivm))
    (hsub : SIM w t τ n k0 (DM + 1) (rc (nI ℓ + 1) (nI wi)) sub) : SIM w t τ n k0 DM (G_X3_readLevel w t rr xr rc (nI ℓ) (nI wi)) (fun iv => am_o1 (sub iv) fun w1 => (am_o1 (am_loop Bm w1) fun a8 => some a8)) := by
  intro ivc ivm ty fi be L D P h hL hD
  have hn := hx.1
  obtain ⟨b, ivc1, ivm1, e1, e2, e3, e4⟩ := hsub ivc ivm ty fi be L D P h hL (by omega)
  unfold G_X3_readLevel
  rw [if_neg (show ¬ nI ℓ = 2 from fun q => hl.2.1 ((am_eq (by omega) (by decide)).mp q)), if_pos (show nI ℓ < 6 from nI_lt hl.1 (by decide)), e1, am_o2_s]
  show ∃ b ivc' ivm', _ ∧ am_o1 (sub ivm) (fun w1 => (am_o1 (am_loop Bm w1) fun a8 => some a8)) = _ ∧ _
  rw [e2, am_o1_s]
  cases b with
  | false =>
    have ee := e4 rfl
    rw [if_pos (show am_bi false = 0 from rfl), loop0 (hBb ivm1 ee.1), am_o1_s]
    exact ⟨false, _, _, rfl, rfl, fun q => (by cases q), fun _ => ee⟩
  | true =>
    obtain ⟨ty', fi', be', L', g1, g2, g3, g4, g5, g6⟩ := e3 rfl
    rw [if_neg (show ¬ am_bi true = 0 by decide), if_neg (show ¬ nI ℓ = 3 from fun q => hl.2.2 ((am_eq (by omega) (by decide)).mp q))]
    unfold J_X3_readLevel_48
    rw [hgs ivc1 ty' fi' be' g1.1 g1.2.2.1, am_o1_s]
    obtain ⟨x, ivm2, x1, x2, x3⟩ := S_chain hx hw ht hgs hgb hBm hBb hsub n am_fu am_fu (by rw [am_fu_eq]; omega) (by rw [am_fu_eq]; omega) ivc1 ivm1 ty' fi' be' L' (D + 1) P 0 (by omega) g1 g4 (by omega) (by omega) (Nat.zero_le _)
    have x1' : am_loop (fun s : (Int32 × Int32 × am_I) => B_X3_readLevel_59 w t rr xr rc (nI ℓ) (nI wi) (700 : Int32) s.1 s.2.1 s.2.2) (svz (g ty' fi' be'), (0 : Int32), ivc1) = some x := x1
    have x2' : am_loop Bm ivm1 = some ivm2 := x2
    rw [x1', x2', am_o1_s]
    rcases x3 with ⟨ivc', ty2, fi2, be2, L2, y1, y2, y3, y4, y5, y6⟩ | ⟨ivc', y1, y2⟩
    · subst y1
      rw [am_lp_l]
      exact ⟨true, _, _, rfl, rfl, fun _ => ⟨ty2, fi2, be2, L2, y2, by omega, g3, y4, by omega, g6.tr y6 (by omega)⟩, fun q => (by cases q)⟩
    · subst y1
      rw [am_lp_r]
      exact ⟨false, _, _, rfl, rfl, fun q => (by cases q), fun _ => y2⟩
theorem iss_ty {k : Nat} (h : iss τ ty fi k = true) : ty = 3 := by
  by_cases q : ty = 3
  · exact q
  · simp [iss, q] at h
theorem isw_ty {l : List Nat} (h : isw τ ty fi be l = true) : ty = 1 := by
  by_cases q : ty = 1
  · exact q
  · simp [isw, q] at h
/-- two signs -/
def g2s (τ : Nat → Nat) (k1 k2 : Nat) (x1 x2 : Int32) (ty fi _be : Nat) : Int32 := if iss τ ty fi k1 then x1 else if iss τ ty fi k2 then x2 else 0
def g1w (τ : Nat → Nat) (j : Nat) (x : Int32) (ty fi be : Nat) : Int32 := if isw τ ty fi be (wb j) then x else 0
theorem wb_ao : wb 19 = wb 57 ∧ wb 20 = wb 56 ∧ wb 11 = wb 55 := by decide +kernel
theorem S_prod {wi DM : Nat} (hx : TX τ n) (hw : w = 2 ∨ w = 22) (ht : 89 ≤ t) (hsub : SIM w t τ n k0 (DM + 1) (rc (nI 5 + 1) (nI wi)) (F_X10_readPart rcm (nI wi))) : SIM w t τ n k0 DM (G_X3_readLevel w t rr xr rc (nI 5) (nI wi)) (F_X10_readProduct rcm (nI wi)) := by
  refine S_level (g := g2s τ 42 47 (-22) (-23)) (Bm := fun s => B_X10_readProduct_5 rcm (nI wi) s) hx hw ht (by decide) ?_ ?_ ?_ ?_ hsub
  · intro ivc ty fi be h1 h3
    unfold F_X3_signTold
    rw [if_pos (show (nI 5).toInt < 0 ∨ 4 < (nI 5).toInt by decide)]
    unfold J_X3_signTold_146 g2s
    rw [show (42 : Int32) = nI 42 from rfl, show (47 : Int32) = nI 47 from rfl, K_isSign hx h1 h3 (by decide), am_o1_s, ifb, K_isSign hx h1 h3 (by decide), am_o1_s, ifb]
    cases iss τ ty fi 42 <;> cases iss τ ty fi 47 <;> rfl
  · intro ty fi be h
    unfold g2s at h ⊢
    by_cases z1 : iss τ ty fi 42 = true
    · rw [if_pos z1]; exact ⟨Or.inr (Or.inr (Or.inl rfl)), by rw [iss_ty z1]; decide⟩
    · rw [if_neg z1] at h ⊢
      by_cases z2 : iss τ ty fi 47 = true
      · rw [if_pos z2]; exact ⟨Or.inr (Or.inr (Or.inr (Or.inl rfl))), by rw [iss_ty z2]; decide⟩
      · rw [if_neg z2] at h; exact absurd rfl h
  · intro ivm ty fi be h2 h3 h4
    show B_X10_readProduct_5 rcm (nI wi) ivm = _
    unfold B_X10_readProduct_5 J_X10_readProduct_23 J_X10_readProduct_39 g2s
    rw [show (42 : Int32) = nI 42 from rfl, show (47 : Int32) = nI 47 from rfl, P_isMarked hx h2 h3 (by decide) h4, am_o1_s, ifb, P_isMarked hx h2 h3 (by decide) h4, am_o1_s, ifb, am_o1_s, ifb]
    cases iss τ ty fi 42 <;> cases iss τ ty fi 47 <;> rfl
  · intro ivm hb
    show B_X10_readProduct_5 rcm (nI wi) ivm = _
    unfold B_X10_readProduct_5
    rw [P_isMarkedBad hb, am_o1_s, if_pos rfl, P_isMarkedBad hb, am_o1_s, if_pos rfl]
theorem S_sum {wi DM : Nat} (hx : TX τ n) (hw : w = 2 ∨ w = 22) (ht : 89 ≤ t) (hsub : SIM w t τ n k0 (DM + 1) (rc (nI 4 + 1) (nI wi)) (F_X10_readProduct rcm (nI wi))) : SIM w t τ n k0 DM (G_X3_readLevel w t rr xr rc (nI 4) (nI wi)) (F_X10_readSum rcm (nI wi)) := by
  refine S_level (g := g2s τ 43 45 (-20) (-21)) (Bm := fun s => B_X10_readSum_5 rcm (nI wi) s) hx hw ht (by decide) ?_ ?_ ?_ ?_ hsub
  · intro ivc ty fi be h1 h3
    unfold F_X3_signTold
    rw [if_neg (show ¬ ((nI 4).toInt < 0 ∨ 4 < (nI 4).toInt) by decide), if_neg (show ¬ nI 4 = 0 by decide), if_neg (show ¬ nI 4 = 1 by decide), if_neg (show ¬ nI 4 = 2 by decide), if_neg (show ¬ nI 4 = 3 by decide), if_pos (show nI 4 = 4 from rfl)]
    unfold g2s
    rw [show (43 : Int32) = nI 43 from rfl, show (45 : Int32) = nI 45 from rfl, K_isSign hx h1 h3 (by decide), am_o1_s, ifb, K_isSign hx h1 h3 (by decide), am_o1_s, ifb]
    cases iss τ ty fi 43 <;> cases iss τ ty fi 45 <;> rfl
  · intro ty fi be h
    unfold g2s at h ⊢
    by_cases z1 : iss τ ty fi 43 = true
    · rw [if_pos z1]; exact ⟨Or.inl rfl, by rw [iss_ty z1]; decide⟩
    · rw [if_neg z1] at h ⊢
      by_cases z2 : iss τ ty fi 45 = true
      · rw [if_pos z2]; exact ⟨Or.inr (Or.inl rfl), by rw [iss_ty z2]; decide⟩
      · rw [if_neg z2] at h; exact absurd rfl h
  · intro ivm ty fi be h2 h3 h4
    show B_X10_readSum_5 rcm (nI wi) ivm = _
    unfold B_X10_readSum_5 J_X10_readSum_23 J_X10_readSum_39 g2s
    rw [show (43 : Int32) = nI 43 from rfl, show (45 : Int32) = nI 45 from rfl, P_isMarked hx h2 h3 (by decide) h4, am_o1_s, ifb, P_isMarked hx h2 h3 (by decide) h4, am_o1_s, ifb, am_o1_s, ifb]
    cases iss τ ty fi 43 <;> cases iss τ ty fi 45 <;> rfl
  · intro ivm hb
    show B_X10_readSum_5 rcm (nI wi) ivm = _
    unfold B_X10_readSum_5
    rw [P_isMarkedBad hb, am_o1_s, if_pos rfl, P_isMarkedBad hb, am_o1_s, if_pos rfl]
theorem S_and {wi DM : Nat} (hx : TX τ n) (hw : w = 2 ∨ w = 22) (ht : 89 ≤ t) (hsub : SIM w t τ n k0 (DM + 1) (rc (nI 1 + 1) (nI wi)) (F_X10_readNot rcm (nI wi))) : SIM w t τ n k0 DM (G_X3_readLevel w t rr xr rc (nI 1) (nI wi)) (F_X10_readAnd rcm (nI wi)) := by
  refine S_level (g := g1w τ 56 (-26)) (Bm := fun s => B_X10_readAnd_5 rcm (nI wi) s) hx hw ht (by decide) ?_ ?_ ?_ ?_ hsub
  · intro ivc ty fi be h1 h3
    unfold F_X3_signTold
    rw [if_neg (show ¬ ((nI 1).toInt < 0 ∨ 4 < (nI 1).toInt) by decide), if_neg (show ¬ nI 1 = 0 by decide), if_pos (show nI 1 = 1 from rfl)]
    unfold g1w
    rw [K_isWord hx h1 h3 (by decide), wb_ao.2.1, am_o1_s, ifb]
    cases isw τ ty fi be (wb 56) <;> rfl
  · intro ty fi be h
    unfold g1w at h ⊢
    by_cases z1 : isw τ ty fi be (wb 56) = true
    · rw [if_pos z1]; exact ⟨Or.inr (Or.inr (Or.inr (Or.inr (Or.inr (Or.inr (Or.inl rfl)))))), by rw [isw_ty z1]; decide⟩
    · rw [if_neg z1] at h; exact absurd rfl h
  · intro ivm ty fi be h2 h3 h4
    show B_X10_readAnd_5 rcm (nI wi) ivm = _
    unfold B_X10_readAnd_5 g1w
    rw [P_is hx h2 h3 (by decide) h4, am_o1_s, ifb]
    cases isw τ ty fi be (wb 56) <;> rfl
  · intro ivm hb
    show B_X10_readAnd_5 rcm (nI wi) ivm = _
    unfold B_X10_readAnd_5
    rw [P_isBad hb, am_o1_s, if_pos rfl]
theorem S_or {wi DM : Nat} (hx : TX τ n) (hw : w = 2 ∨ w = 22) (ht : 89 ≤ t) (hsub : SIM w t τ n k0 (DM + 1) (rc (nI 0 + 1) (nI wi)) (F_X10_readAnd rcm (nI wi))) : SIM w t τ n k0 DM (G_X3_readLevel w t rr xr rc (nI 0) (nI wi)) (J_X10_readExpression_62 rcm (nI wi)) := by
  refine S_level (g := g1w τ 57 (-27)) (Bm := fun s => B_X10_readExpression_67 rcm (nI wi) s) hx hw ht (by decide) ?_ ?_ ?_ ?_ hsub
  · intro ivc ty fi be h1 h3
    unfold F_X3_signTold
    rw [if_neg (show ¬ ((nI 0).toInt < 0 ∨ 4 < (nI 0).toInt) by decide), if_pos (show nI 0 = 0 from rfl)]
    unfold g1w
    rw [K_isWord hx h1 h3 (by decide), wb_ao.1, am_o1_s, ifb]
    cases isw τ ty fi be (wb 57) <;> rfl
  · intro ty fi be h
    unfold g1w at h ⊢
    by_cases z1 : isw τ ty fi be (wb 57) = true
    · rw [if_pos z1]; exact ⟨Or.inr (Or.inr (Or.inr (Or.inr (Or.inr (Or.inr (Or.inr rfl)))))), by rw [isw_ty z1]; decide⟩
    · rw [if_neg z1] at h; exact absurd rfl h
  · intro ivm ty fi be h2 h3 h4
    show B_X10_readExpression_67 rcm (nI wi) ivm = _
    unfold B_X10_readExpression_67 g1w
    rw [P_is hx h2 h3 (by decide) h4, am_o1_s, ifb]
    cases isw τ ty fi be (wb 57) <;> rfl
  · intro ivm hb
    show B_X10_readExpression_67 rcm (nI wi) ivm = _
    unfold B_X10_readExpression_67
    rw [P_isBad hb, am_o1_s, if_pos rfl]
end B75
