/-! reading an EXPR on both sides: the whole -/
section B77
variable {w t rr xr : Nat} {ivc ivm ivc' ivm' : am_I} {τ : Nat → Nat} {n ty fi be k0 L D : Nat} {rc : Int32 → Int32 → am_I → Option (Int32 × am_I)} {rcm : Int32 → am_I → Option am_I}
theorem N_part {i : Int32} (hx : TX τ n) (h : cT t ivc τ n ty fi be) (hk : TK τ n ty fi be) (t1 : ty ≠ 1) (t2 : ty ≠ 2) (t3 : iss τ ty fi 40 = false) : F_X3_readPart w t rr xr rc i ivc = some (0, am_w ivc t 5 1) := by
  obtain ⟨n1, n2, -⟩ := K_isNumber h hk
  unfold F_X3_readPart F_X8_refuse
  rw [show (40 : Int32) = nI 40 from rfl, K_isSign hx h hk (by decide), am_o1_s, t3, if_pos (show am_bi false = 0 from rfl), n1, am_o1_s, decide_eq_false t2, if_pos (show am_bi false = 0 from rfl), n2, am_o1_s, decide_eq_false t1, if_pos (show am_bi false = 0 from rfl), am_o2_s, if_pos (Or.inl rfl)]
theorem N_six (i : Int32) : G_X3_readLevel w t rr xr rc (nI 6) i ivc = am_o2 (F_X3_readPart w t rr xr rc i ivc) fun v8 w8 => (if v8 = 0 ∨ v8 = 1 then some (v8, w8) else none) := by
  unfold G_X3_readLevel
  rw [if_neg (show ¬ nI 6 = 2 by decide), if_neg (show ¬ nI 6 < 6 by decide)]
theorem N_lev {i : Int32} {ℓ : Nat} (h2 : nI ℓ ≠ 2) (h6 : nI ℓ < 6) (h : rc (nI ℓ + 1) i ivc = some (0, ivc')) : G_X3_readLevel w t rr xr rc (nI ℓ) i ivc = some (0, ivc') := by
  unfold G_X3_readLevel
  rw [if_neg h2, if_pos h6, h, am_o2_s, if_pos rfl]
theorem N_not {i : Int32} (hx : TX τ n) (h : cT t ivc τ n ty fi be) (hk : TK τ n ty fi be) (t1 : ty ≠ 1) (h0 : rc 3 i ivc = some (0, ivc')) : G_X3_readLevel w t rr xr rc (nI 2) i ivc = some (0, ivc') := by
  have z : isw τ ty fi be (wb 11) = false := by
    cases z : isw τ ty fi be (wb 11) with
    | false => rfl
    | true => exact absurd (isw_ty z) t1
  unfold G_X3_readLevel F_X3_readNot
  rw [if_pos (show nI 2 = 2 from rfl), loop0 (x := ((0 : Int32), ivc)) (by
    show B_X3_readNot_2 w t rr xr rc i 0 ivc = _
    unfold B_X3_readNot_2
    rw [if_neg (show ¬ (6 : Int32) ≤ 0 by decide), K_isWord hx h hk (by decide), z, am_o1_s, if_pos (show am_bi false = 0 from rfl)]), am_o1_s]
  unfold J_X3_readNot_33
  rw [K_isWord hx h hk (by decide), z, am_o1_s, if_pos (show am_bi false = 0 from rfl), h0, am_o2_s, if_pos rfl, am_o2_s, if_pos (Or.inl rfl)]
theorem N_all {i : Int32} (hx : TX τ n) (h : cT t ivc τ n ty fi be) (hk : TK τ n ty fi be) (t1 : ty ≠ 1) (t2 : ty ≠ 2) (t3 : iss τ ty fi 40 = false) (fu : Nat) : F_X3_readLevel w t rr xr (fu + 7) 0 i ivc = some (0, am_w ivc t 5 1) := by
  show G_X3_readLevel w t rr xr (F_X3_readLevel w t rr xr (fu + 6)) (nI 0) i ivc = _
  refine N_lev (by decide) (by decide) ?_
  show G_X3_readLevel w t rr xr (F_X3_readLevel w t rr xr (fu + 5)) (nI 1) i ivc = _
  refine N_lev (by decide) (by decide) ?_
  show G_X3_readLevel w t rr xr (F_X3_readLevel w t rr xr (fu + 4)) (nI 2) i ivc = _
  refine N_not hx h hk t1 ?_
  show G_X3_readLevel w t rr xr (F_X3_readLevel w t rr xr (fu + 3)) (nI 3) i ivc = _
  refine N_lev (by decide) (by decide) ?_
  show G_X3_readLevel w t rr xr (F_X3_readLevel w t rr xr (fu + 2)) (nI 4) i ivc = _
  refine N_lev (by decide) (by decide) ?_
  show G_X3_readLevel w t rr xr (F_X3_readLevel w t rr xr (fu + 1)) (nI 5) i ivc = _
  refine N_lev (by decide) (by decide) ?_
  show G_X3_readLevel w t rr xr (F_X3_readLevel w t rr xr fu) (nI 6) i ivc = _
  rw [N_six, N_part hx h hk t1 t2 t3, am_o2_s, if_pos (Or.inl rfl)]
theorem NB_expr {fm : Nat} {i : Int32} (hb : ¬ ivm 54 25 = 0) : F_X10_readExpression (fm + 1) i ivm = some ivm := by
  show G_X10_readExpression _ _ _ = _
  unfold G_X10_readExpression
  rw [if_neg hb]
/-- the model's beginning of an EXPR: what may begin one -/
theorem P_expr {i : Int32} (hx : TX τ n) (h2 : mT ivm τ n ty fi be) (hk : TK τ n ty fi be) (hb : ivm 54 25 = 0) : G_X10_readExpression rcm i ivm = J_X10_readExpression_38 rcm i (am_bi (decide (ty = 2) || (decide (ty = 1) || iss τ ty fi 40))) ivm := by
  unfold G_X10_readExpression J_X10_readExpression_33
  have e2 : (nI ty = 2) ↔ ty = 2 := am_eq (show ty < 65536 by have := hk.2.2.1; omega) (show 2 < 65536 by decide)
  have e1 : (nI ty = 1) ↔ ty = 1 := am_eq (show ty < 65536 by have := hk.2.2.1; omega) (show 1 < 65536 by decide)
  rw [if_pos hb, h2.2.2.1, show (40 : Int32) = nI 40 from rfl, P_isMarked hx h2 hk (by decide) hb, am_o1_s, ifb]
  by_cases t2 : ty = 2
  · rw [if_pos (e2.mpr t2), decide_eq_true t2]; rfl
  · rw [if_neg (fun q => t2 (e2.mp q)), decide_eq_false t2]
    by_cases t1 : ty = 1
    · rw [if_pos (e1.mpr t1), decide_eq_true t1]; rfl
    · rw [if_neg (fun q => t1 (e1.mp q)), decide_eq_false t1]
      cases iss τ ty fi 40 <;> rfl
theorem S_expr (hx : TX τ n) (hw : w = 2 ∨ w = 22) (ht : 89 ≤ t) : ∀ (j wi fu fm : Nat), wi + j = 6 → SIM w t τ n k0 (5 * wi) (F_X3_readExpr w t rr xr (F_X3_readLevel w t rr xr (fu + 7 * j)) (nI wi)) (F_X10_readExpression (fm + 1 + j) (nI wi))
  | 0, wi, fu, fm, e => by
    have : wi = 6 := by omega
    subst this
    intro ivc ivm ty fi be L D P h hL hD
    obtain ⟨n1, n2, -⟩ := K_isNumber h.1 h.2.2.1
    have hmod : F_X10_readExpression (fm + 1 + 0) (nI 6) ivm = J_X10_readExpression_38 (F_X10_readExpression fm) (nI 6) (am_bi (decide (ty = 2) || (decide (ty = 1) || iss τ ty fi 40))) ivm := P_expr hx h.2.1 h.2.2.1 h.2.2.2.1
    have hcl : F_X3_readExpr w t rr xr (F_X3_readLevel w t rr xr (fu + 7 * 0)) (nI 6) ivc = J_X3_readParenthesis_52 w t rr xr (F_X3_readLevel w t rr xr (fu + 7 * 0)) (am_bi (decide (ty = 2) || (decide (ty = 1) || iss τ ty fi 40))) ivc := by
      unfold F_X3_readExpr J_X3_readParenthesis_47
      rw [if_neg (show ¬ nI 6 < 6 by decide), n1, am_o1_s, ifb, n2, am_o1_s, ifb, show (40 : Int32) = nI 40 from rfl, K_isSign hx h.1 h.2.2.1 (by decide), am_o1_s, ifb]
      by_cases t2 : ty = 2
      · rw [decide_eq_true t2]; rfl
      · rw [decide_eq_false t2]
        by_cases t1 : ty = 1
        · rw [decide_eq_true t1]; rfl
        · rw [decide_eq_false t1]
          cases iss τ ty fi 40 <;> rfl
    rw [hmod, hcl]
    generalize (decide (ty = 2) || (decide (ty = 1) || iss τ ty fi 40)) = b
    unfold J_X10_readExpression_38 J_X3_readParenthesis_52 J_X3_readParenthesis_66 F_X8_refuse
    have hnb : ∀ k : Int32, ¬ k = 0 → ¬ am_w (am_w ivm 54 25 k) 54 26 (ivm 54 23) 54 25 = 0 := fun k hk => by simp [am_w_r]; exact hk
    cases b with
    | false =>
      rw [if_pos (show am_bi false = 0 from rfl), if_pos (show am_bi false = 0 from rfl), P_wrong h.2.2.2.1, am_o1_s, NB_exprT (hnb 1 (by decide)), am_o2_s, if_pos (Or.inl rfl)]
      exact ⟨false, _, _, rfl, rfl, fun q => (by cases q), fun _ => EE.of h.1 h.2.1 (by decide)⟩
    | true =>
      rw [if_neg (show ¬ am_bi true = 0 by decide), if_neg (show ¬ am_bi true = 0 by decide), if_pos (show nI 6 = 6 from rfl), P_wrong h.2.2.2.1, am_o1_s, NB_exprT (hnb 2 (by decide)), am_o2_s, if_pos (Or.inl rfl)]
      exact ⟨false, _, _, rfl, rfl, fun q => (by cases q), fun _ => EE.of h.1 h.2.1 (by decide)⟩
  | j + 1, wi, fu, fm, e => by
    have ih := S_expr hx hw ht j (wi + 1) fu fm (by omega)
    have hB : ∀ i iv, ¬ iv 54 25 = 0 → F_X10_readExpression (fm + 1 + j) i iv = some iv := fun i iv hb => by
      rw [show fm + 1 + j = (fm + j) + 1 by omega]; exact NB_expr hb
    have s6 := S_part (wi := wi) hx hw ht (by omega) ih hB
    generalize hfu : fu + 7 * j = fu' at s6 ih
    generalize hfm : fm + 1 + j = fm' at s6 ih hB
    rw [show fu + 7 * (j + 1) = fu' + 7 by omega, show fm + 1 + (j + 1) = fm' + 1 by omega]
    have s6' : SIM w t τ n k0 (5 * wi + 5) (F_X3_readLevel w t rr xr (fu' + 1) (nI 5 + 1) (nI wi)) (F_X10_readPart (F_X10_readExpression fm') (nI wi)) := by
      intro ivc ivm ty fi be L D P h hL hD
      obtain ⟨b, ivc1, ivm1, e1, e2, e3⟩ := s6 ivc ivm ty fi be L D P h hL hD
      refine ⟨b, ivc1, ivm1, ?_, e2, e3⟩
      show G_X3_readLevel w t rr xr (F_X3_readLevel w t rr xr fu') (nI 6) (nI wi) ivc = _
      rw [N_six, e1, am_o2_s]
      cases b <;> rfl
    have s5 := S_prod (DM := 5 * wi + 4) (rr := rr) (xr := xr) hx hw ht s6'
    have s4 := S_sum (DM := 5 * wi + 3) (rr := rr) (xr := xr) (rc := F_X3_readLevel w t rr xr (fu' + 2)) hx hw ht s5
    have s3 := S_test (DM := 5 * wi + 2) (rr := rr) (xr := xr) (rc := F_X3_readLevel w t rr xr (fu' + 3)) hx hw ht s4
    have s2 := S_not (rr := rr) (xr := xr) (rc := F_X3_readLevel w t rr xr (fu' + 4)) hx hw ht s3
    have s1 := S_and (DM := 5 * wi + 1) (rr := rr) (xr := xr) (rc := F_X3_readLevel w t rr xr (fu' + 5)) hx hw ht s2
    have s0 := S_or (DM := 5 * wi) (rr := rr) (xr := xr) (rc := F_X3_readLevel w t rr xr (fu' + 6)) hx hw ht s1
    intro ivc ivm ty fi be L D P h hL hD
    have hmod : F_X10_readExpression (fm' + 1) (nI wi) ivm = J_X10_readExpression_38 (F_X10_readExpression fm') (nI wi) (am_bi (decide (ty = 2) || (decide (ty = 1) || iss τ ty fi 40))) ivm := P_expr hx h.2.1 h.2.2.1 h.2.2.2.1
    unfold F_X3_readExpr
    rw [if_pos (show nI wi < 6 from nI_lt (show wi < 6 by omega) (by decide)), hmod]
    unfold J_X10_readExpression_38
    cases hb : (decide (ty = 2) || (decide (ty = 1) || iss τ ty fi 40)) with
    | false =>
      simp only [Bool.or_eq_false_iff, decide_eq_false_iff_not] at hb
      have hnb : ¬ am_w (am_w ivm 54 25 1) 54 26 (ivm 54 23) 54 25 = 0 := by simp [am_w_r]
      rw [N_all hx h.1 h.2.2.1 hb.2.1 hb.1 hb.2.2, am_o2_s, if_pos (Or.inl rfl), if_pos (show am_bi false = 0 from rfl), P_wrong h.2.2.2.1, am_o1_s, NB_exprT hnb]
      exact ⟨false, _, _, rfl, rfl, fun q => (by cases q), fun _ => EE.of h.1 h.2.1 (by decide)⟩
    | true =>
      have h6 : ¬ nI wi = 6 := fun q => by
        have := (am_eq (show wi < 65536 by omega) (show 6 < 65536 by decide)).mp q
        omega
      obtain ⟨b, ivc1, ivm1, e1, e2, e3⟩ := s0 ivc ivm ty fi be L D P h hL hD
      have e1' : F_X3_readLevel w t rr xr (fu' + 7) 0 (nI wi) ivc = some (am_bi b, ivc1) := e1
      rw [if_neg (show ¬ am_bi true = 0 by decide), if_neg h6, e1', am_o2_s, e2]
      exact ⟨b, ivc1, ivm1, by cases b <;> rfl, rfl, e3⟩
end B77
