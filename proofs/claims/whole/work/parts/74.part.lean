/-! reading an EXPR on both sides: a PART -/
theorem loop0 {σ ρ : Type} {f : σ → Option (σ ⊕ ρ)} {s : σ} {x : ρ} (h : f s = some (.inr x)) : am_loop f s = some x :=
  am_loop_seq (fun _ => s) 0 (by omega) rfl (fun z hz => absurd hz (Nat.not_lt_zero _)) h
section B74
variable {w t rr xr : Nat} {ivc ivm ivc' ivm' : am_I} {τ : Nat → Nat} {n ty fi be k0 L D : Nat} {rc : Int32 → Int32 → am_I → Option (Int32 × am_I)} {rcm : Int32 → am_I → Option am_I}
theorem NB_mark {k : Int32} (hb : ¬ ivm 54 25 = 0) : F_X10_mark k ivm = some ivm := by
  unfold F_X10_mark J_X10_mark_20
  rw [if_neg hb, if_neg hb]
theorem NB_part {i : Int32} (hb : ¬ ivm 54 25 = 0) : F_X10_readPart rcm i ivm = some ivm := by
  unfold F_X10_readPart; rw [if_neg hb]
theorem NB_prod {i : Int32} (hb : ¬ ivm 54 25 = 0) : F_X10_readProduct rcm i ivm = some ivm := by
  unfold F_X10_readProduct
  rw [NB_part hb, am_o1_s, loop0 (x := ivm) (by
    unfold B_X10_readProduct_5
    rw [P_isMarkedBad hb, am_o1_s, if_pos rfl, P_isMarkedBad hb, am_o1_s, if_pos rfl]), am_o1_s]
theorem NB_sum {i : Int32} (hb : ¬ ivm 54 25 = 0) : F_X10_readSum rcm i ivm = some ivm := by
  unfold F_X10_readSum
  rw [NB_prod hb, am_o1_s, loop0 (x := ivm) (by
    unfold B_X10_readSum_5
    rw [P_isMarkedBad hb, am_o1_s, if_pos rfl, P_isMarkedBad hb, am_o1_s, if_pos rfl]), am_o1_s]
theorem NB_nots {k : Nat} (hb : ¬ ivm 54 25 = 0) (hk : k < 100) : J_X10_readNot_93 rcm (nI k) ivm = some ivm := by
  unfold J_X10_readNot_93
  have l : am_loop (fun s : (Int32 × am_I) => B_X10_readNot_95 rcm (nI k) s.1 s.2) ((0 : Int32), ivm) = some ivm := by
    refine am_loop_seq (fun i => (nI i, ivm)) k (by omega) rfl (fun i hi => ?_) ?_
    · show B_X10_readNot_95 _ _ (nI i) ivm = _
      unfold B_X10_readNot_95
      rw [nle (by omega) (by omega), if_neg (by omega), P_layBad hb, am_o1_s, nI_1]
    · show B_X10_readNot_95 _ _ (nI k) ivm = _
      unfold B_X10_readNot_95
      rw [if_pos (Int32.le_refl _)]
  rw [l, am_o1_s]
theorem NB_notT {i : Int32} {k : Nat} (hb : ¬ ivm 54 25 = 0) (hk : k < 100) : (am_o1 (F_X10_readSum rcm i ivm) fun w5 => (am_o1 (F_X10_isMarked (60 : Int32) w5) fun v6 => (if v6 = 0 then (am_o1 (F_X10_isMarked (61 : Int32) w5) fun v13 => (if v13 = 0 then J_X10_readNot_93 rcm (nI k) w5 else J_X10_readNot_62 rcm i (nI k) w5)) else J_X10_readNot_62 rcm i (nI k) w5))) = some ivm := by
  rw [NB_sum hb, am_o1_s, P_isMarkedBad hb, am_o1_s, if_pos rfl, P_isMarkedBad hb, am_o1_s, if_pos rfl, NB_nots hb hk]
theorem NB_not {i : Int32} (hb : ¬ ivm 54 25 = 0) : F_X10_readNot rcm i ivm = some ivm := by
  unfold F_X10_readNot
  rw [loop0 (x := ((0 : Int32), ivm)) (by
    show B_X10_readNot_2 rcm i 0 ivm = _
    unfold B_X10_readNot_2
    rw [P_isBad hb, am_o1_s, if_pos rfl]), am_o1_s]
  exact NB_notT (k := 0) hb (by decide)
theorem NB_and {i : Int32} (hb : ¬ ivm 54 25 = 0) : F_X10_readAnd rcm i ivm = some ivm := by
  unfold F_X10_readAnd
  rw [NB_not hb, am_o1_s, loop0 (x := ivm) (by
    unfold B_X10_readAnd_5
    rw [P_isBad hb, am_o1_s, if_pos rfl]), am_o1_s]
theorem NB_exprT {i : Int32} (hb : ¬ ivm 54 25 = 0) : J_X10_readExpression_62 rcm i ivm = some ivm := by
  unfold J_X10_readExpression_62
  rw [NB_and hb, am_o1_s, loop0 (x := ivm) (by
    unfold B_X10_readExpression_67
    rw [P_isBad hb, am_o1_s, if_pos rfl]), am_o1_s]
theorem K_first {m : Nat} {p : Nat → Bool} (k : Nat) {x : Int32} (h0 : x = cy_enc m k) (h1 : k ≤ m) (h2 : ∀ i, i < k → p i = false) (h3 : k < m → p k = true) : some x = some (cy_enc m (cy_fst p m)) := by rw [← cy_fst_u h1 h2 h3, h0]
theorem wb_val : ∀ i, i < 7 → wb (12 + i) = wb (42 + i) := by decide +kernel
theorem lref57 : ∀ i, i < 7 → am_lref 57 i = some (42 + i) ∧ 42 + i < 58 := by
  intro i hi
  match i, hi with
  | 0, _ => exact ⟨rfl, by decide⟩
  | 1, _ => exact ⟨rfl, by decide⟩
  | 2, _ => exact ⟨rfl, by decide⟩
  | 3, _ => exact ⟨rfl, by decide⟩
  | 4, _ => exact ⟨rfl, by decide⟩
  | 5, _ => exact ⟨rfl, by decide⟩
  | 6, _ => exact ⟨rfl, by decide⟩
theorem K_valueTold (hx : TX τ n) (h : cT t ivc τ n ty fi be) (hk : TK τ n ty fi be) : F_X3_valueTold w t rr xr ivc = some (cy_enc 7 (cy_fst (fun i => isw τ ty fi be (wb (42 + i))) 7)) := by
  have e : ∀ i, i < 7 → F_X8_isWord t (12 + i) ivc = some (am_bi (isw τ ty fi be (wb (42 + i)))) := fun i hi => by rw [K_isWord hx h hk (by omega), wb_val i hi]
  generalize hp : (fun i => isw τ ty fi be (wb (42 + i))) = p
  have e' : ∀ i, i < 7 → F_X8_isWord t (12 + i) ivc = some (am_bi (p i)) := fun i hi => by rw [e i hi, ← hp]
  unfold F_X3_valueTold
  rw [show F_X8_isWord t 12 ivc = _ from e' 0 (by decide), am_o1_s, ifb]
  cases h0 : p 0 with
  | true => rw [if_pos rfl]; exact K_first (m := 7) 0 (by decide) (by decide) (fun i hi => absurd hi (Nat.not_lt_zero _)) (fun _ => h0)
  | false =>
    rw [if_neg (by decide), show F_X8_isWord t 13 ivc = _ from e' 1 (by decide), am_o1_s, ifb]
    cases h1 : p 1 with
    | true => rw [if_pos rfl]; exact K_first (m := 7) 1 (by decide) (by decide) (fun i hi => by match i, hi with | 0, _ => exact h0) (fun _ => h1)
    | false =>
      rw [if_neg (by decide), show F_X8_isWord t 14 ivc = _ from e' 2 (by decide), am_o1_s, ifb]
      cases h2 : p 2 with
      | true => rw [if_pos rfl]; exact K_first (m := 7) 2 (by decide) (by decide) (fun i hi => by match i, hi with | 0, _ => exact h0 | 1, _ => exact h1) (fun _ => h2)
      | false =>
        rw [if_neg (by decide), show F_X8_isWord t 15 ivc = _ from e' 3 (by decide), am_o1_s, ifb]
        cases h3 : p 3 with
        | true => rw [if_pos rfl]; exact K_first (m := 7) 3 (by decide) (by decide) (fun i hi => by match i, hi with | 0, _ => exact h0 | 1, _ => exact h1 | 2, _ => exact h2) (fun _ => h3)
        | false =>
          rw [if_neg (by decide), show F_X8_isWord t 16 ivc = _ from e' 4 (by decide), am_o1_s, ifb]
          cases h4 : p 4 with
          | true => rw [if_pos rfl]; exact K_first (m := 7) 4 (by decide) (by decide) (fun i hi => by match i, hi with | 0, _ => exact h0 | 1, _ => exact h1 | 2, _ => exact h2 | 3, _ => exact h3) (fun _ => h4)
          | false =>
            rw [if_neg (by decide), show F_X8_isWord t 17 ivc = _ from e' 5 (by decide), am_o1_s, ifb]
            cases h5 : p 5 with
            | true => rw [if_pos rfl]; exact K_first (m := 7) 5 (by decide) (by decide) (fun i hi => by match i, hi with | 0, _ => exact h0 | 1, _ => exact h1 | 2, _ => exact h2 | 3, _ => exact h3 | 4, _ => exact h4) (fun _ => h5)
            | false =>
              rw [if_neg (by decide), show F_X8_isWord t 18 ivc = _ from e' 6 (by decide), am_o1_s, ifb]
              cases h6 : p 6 with
              | true => rw [if_pos rfl]; exact K_first (m := 7) 6 (by decide) (by decide) (fun i hi => by match i, hi with | 0, _ => exact h0 | 1, _ => exact h1 | 2, _ => exact h2 | 3, _ => exact h3 | 4, _ => exact h4 | 5, _ => exact h5) (fun _ => h6)
              | false => rw [if_neg (by decide)]; exact K_first (m := 7) 7 (by decide) (by decide) (fun i hi => by match i, hi with | 0, _ => exact h0 | 1, _ => exact h1 | 2, _ => exact h2 | 3, _ => exact h3 | 4, _ => exact h4 | 5, _ => exact h5 | 6, _ => exact h6) (fun q => absurd q (by decide))
theorem sg_val7' : ∀ k, k < 7 → sg_val ((-1 : Int32) - nI k) ∧ cv ((-1 : Int32) - nI k) = (-1 : Int32) - nI k := by
  intro k hk
  match k, hk with
  | 0, _ => exact ⟨Or.inl (by decide), by decide⟩
  | 1, _ => exact ⟨Or.inr (Or.inl (by decide)), by decide⟩
  | 2, _ => exact ⟨Or.inr (Or.inr (Or.inl (by decide))), by decide⟩
  | 3, _ => exact ⟨Or.inr (Or.inr (Or.inr (Or.inl (by decide)))), by decide⟩
  | 4, _ => exact ⟨Or.inr (Or.inr (Or.inr (Or.inr (Or.inl (by decide))))), by decide⟩
  | 5, _ => exact ⟨Or.inr (Or.inr (Or.inr (Or.inr (Or.inr (Or.inl (by decide)))))), by decide⟩
  | 6, _ => exact ⟨Or.inr (Or.inr (Or.inr (Or.inr (Or.inr (Or.inr (by decide)))))), by decide⟩
theorem sg_dep_push {g : Int32} {m : Nat} (h : ¬ g ≤ -20) : sg_dep g m = m + 1 := by unfold sg_dep; rw [if_neg h]
theorem S_part {wi : Nat} (hx : TX τ n) (hw : w = 2 ∨ w = 22) (ht : 89 ≤ t) (hwi : wi < 6) (hE : SIM w t τ n k0 (5 * (wi + 1)) (F_X3_readExpr w t rr xr rc (nI (wi + 1))) (rcm (nI (wi + 1)))) (hB : ∀ i iv, ¬ iv 54 25 = 0 → rcm i iv = some iv) : SIM w t τ n k0 (5 * wi + 5) (F_X3_readPart w t rr xr rc (nI wi)) (F_X10_readPart rcm (nI wi)) := by
  intro ivc ivm ty fi be L D P h hL hD
  have hn := hx.1
  have h9 := h
  obtain ⟨h1, h2, h3, h4, h5⟩ := h
  obtain ⟨n1, n2, -⟩ := K_isNumber h1 h3
  have hty4 := h3.2.2.1
  have et : ivm 54 21 = nI ty := h2.2.2.1
  unfold F_X3_readPart F_X10_readPart
  rw [show (40 : Int32) = nI 40 from rfl, K_isSign hx h1 h3 (by decide), am_o1_s, ifb, h4, if_pos rfl, et]
  by_cases t3 : iss τ ty fi 40 = true
  · -- a parenthesis
    have ty3 : ty = 3 := by
      by_cases q : ty = 3
      · exact q
      · simp [iss, q] at t3
    rw [if_pos t3, if_neg (show ¬ nI ty = 2 by rw [ty3]; decide), if_neg (show ¬ nI ty = 1 by rw [ty3]; decide)]
    obtain ⟨ivc1, ivm1, a1, a2, a3, a4, a5⟩ := h9.adv hx hw ht
    have hfb := (h3.2.2.2.2.1 (by omega)).1
    obtain ⟨b, ivc2, ivm2, e1, e2, e3, e4⟩ := hE ivc1 ivm1 _ _ _ L D P a3 (by omega) (by omega)
    have mk : F_X10_mark (nI 40) ivm = some ivm1 := by
      unfold F_X10_mark J_X10_mark_20
      rw [if_pos h4, P_isMarked hx h2 h3 (by decide) h4, am_o1_s, t3, if_neg (show ¬ am_bi true = 0 by decide), if_pos h4, a2, am_o1_s]
    rw [N_paren a1 (show F_X3_readExpr w t rr xr rc (nI wi + (1 : Int32)) ivc1 = some (am_bi b, ivc2) by rw [show nI wi + (1 : Int32) = nI (wi + 1) from nI_1 wi]; exact e1), ifb, mk, am_o1_s, show nI wi + (1 : Int32) = nI (wi + 1) from nI_1 wi, e2, am_o1_s]
    cases b with
    | false =>
      have ee := e4 rfl
      rw [if_neg (by decide), am_o2_s, if_pos (Or.inl rfl), NB_mark ee.1, am_o1_s]
      exact ⟨false, _, _, rfl, rfl, fun q => (by cases q), fun _ => ee⟩
    | true =>
      obtain ⟨ty', fi', be', L', g1, g2, g3, g4, g5, g6⟩ := e3 rfl
      obtain ⟨i1, i2, i3, i4, i5⟩ := g1
      rw [if_pos rfl, show (41 : Int32) = nI 41 from rfl, K_isSign hx i1 i3 (by decide), am_o1_s, ifb]
      by_cases t4 : iss τ ty' fi' 41 = true
      · obtain ⟨ivc3, ivm3, c1, c2, c3, c4, c5⟩ := ER.adv ⟨i1, i2, i3, i4, i5⟩ hx hw ht
        have mk2 : F_X10_mark (nI 41) ivm2 = some ivm3 := by
          unfold F_X10_mark J_X10_mark_20
          rw [if_pos i4, P_isMarked hx i2 i3 (by decide) i4, am_o1_s, t4, if_neg (show ¬ am_bi true = 0 by decide), if_pos i4, c2, am_o1_s]
        rw [if_pos t4, c1, am_o1_s, am_o2_s, if_pos (Or.inr rfl), mk2, am_o1_s]
        have := i3.1
        have q1 := a3.2.2.1.1
        refine ⟨true, _, _, rfl, rfl, fun _ => ⟨_, _, _, L', c3, by omega, by omega, by omega, g5, ?_⟩, fun q => (by cases q)⟩
        intro k hk
        rw [c5, g6 k hk, a5]
      · have t4' : iss τ ty' fi' 41 = false := by simpa using t4
        have mk2 : F_X10_mark (nI 41) ivm2 = some (am_w (am_w ivm2 54 25 1) 54 26 (ivm2 54 23)) := by
          unfold F_X10_mark
          rw [if_pos i4, P_isMarked hx i2 i3 (by decide) i4, am_o1_s, t4', if_pos (show am_bi false = 0 from rfl), P_wrong i4, am_o1_s]
          unfold J_X10_mark_20
          rw [if_neg (by simp [am_w_r])]
        rw [if_neg t4]
        unfold F_X8_refuse
        rw [am_o2_s, if_pos (Or.inl rfl), am_o2_s, if_pos (Or.inl rfl), mk2, am_o1_s]
        exact ⟨false, _, _, rfl, rfl, fun q => (by cases q), fun _ => EE.of i1 i2 (by decide)⟩
  · rw [if_neg t3, n1, am_o1_s, ifb]
    by_cases t2 : ty = 2
    · -- a number
      rw [if_pos (by simp [t2]), if_pos (show nI ty = 2 by rw [t2]; rfl), K_isTooLong hx h1 h3, am_o1_s, ifb]
      obtain ⟨k1, k2, k3, k4, k5, k6⟩ := h3
      have hfb := (k5 (by omega)).1
      unfold F_X10_readNumber F_X10_numberNow
      rw [h4, if_pos rfl, et, if_pos (show nI ty = 2 by rw [t2]; rfl), h2.2.2.2.1, h2.2.2.2.2.1, nI_sub k1, show (4 : Int32) = nI 4 from rfl, nlt (by omega) (by omega)]
      by_cases l4 : 4 < be - fi
      · rw [if_pos (by simp [l4]), if_pos l4]
        unfold J_X10_numberNow_54 J_X10_numberNow_59 F_X8_refuse
        have hnb : ¬ am_w (am_w ivm 54 25 2) 54 26 (ivm 54 23) 54 25 = 0 := by simp [am_w_r]
        rw [P_wrong h4, am_o1_s, if_neg hnb, am_o2_s, if_pos (Or.inl rfl), am_o2_s, if_neg hnb, am_o2_s, P_layBad hnb, am_o1_s]
        exact ⟨false, _, _, rfl, rfl, fun q => (by cases q), fun _ => EE.of h1 h2 (by decide)⟩
      · have e22 := h2.2.2.2.2.2.2 t2 (by omega)
        have hv := nv4 h9.2.2.1 t2 (show be - fi ≤ 4 by omega)
        rw [if_neg (by simp; omega), if_neg l4, e22, if_neg (show ¬ nI (nv τ fi (be - fi)) < 0 from nI_pos (by omega)), if_pos (show nI (nv τ fi (be - fi)) ≤ 9999 from nI_le (show nv τ fi (be - fi) ≤ 9999 by omega) (by decide)), K_number hx h1 h9.2.2.1 t2 (by omega), am_o1_s]
        unfold J_X10_numberNow_59
        rw [if_pos h4, am_o2_s, if_pos h4, e22]
        -- the class lays, then steps; the model steps, then lays
        have hsn : sg_num (nI (nv τ fi (be - fi))) := nI_pos' (by omega)
        obtain ⟨gt1, gt2⟩ := sg_num_gt hsn
        have hcv : cv (nI (nv τ fi (be - fi))) = nI (nv τ fi (be - fi)) := cv_num gt1
        obtain ⟨ivc1, ivm1, l1, l2, l3, l5⟩ := h9.lay (g := nI (nv τ fi (be - fi))) hw ht (by omega) (Or.inl ⟨Or.inl hsn, by omega⟩)
        obtain ⟨ivc2, ivm2, a1, a2, a3, a4, a5⟩ := l3.adv hx hw ht
        rw [hcv] at l1
        obtain ⟨ivmS, s1, s2⟩ := P_stepOn hx h2.1 h2.2.1 h2.2.2.2.2.2.1 k2
        have fS := X_X10_stepOn s1
        have hb1 : ivmS 54 25 = 0 := by rw [fS 54 25 (by simp) (by simp)]; exact h4
        have h28 : ivmS 54 28 = nI L := by rw [fS 54 28 (by simp) (by simp)]; exact h5.1.2
        rw [s1, am_o1_s, am_o2_s, P_lay h28 (by omega) hb1, am_o1_s, l1, am_o1_s]
        unfold J_X3_readPart_116
        rw [a1, am_o1_s]
        rw [sg_dep_push gt1] at a3
        have k69 : ∀ k, am_w (am_w ivmS 69 (700 + L) (nI (nv τ fi (be - fi)))) 54 28 (nI (L + 1)) 69 k = ivm2 69 k := by
          intro k
          have e1 : ivm1 69 k = if k = 700 + L then nI (nv τ fi (be - fi)) else ivm 69 k := by
            have := P_lay (g := nI (nv τ fi (be - fi))) h5.1.2 (show L < 700 by omega) h4
            rw [this] at l2
            have := Option.some.inj l2
            rw [← this, am_w_other _ _ _ (by decide), am_w_r, if_pos rfl]
          rw [a5, e1, am_w_other _ _ _ (by decide), am_w_r, if_pos rfl, fS 69 k (by simp) (by simp)]
        refine ⟨true, ivc2, _, rfl, rfl, fun _ => ⟨_, _, _, L + 1, ⟨a3.1, ?_, a3.2.2.1, ?_, a3.2.2.2.2.fr rfl (fun _ => rfl) ?_ k69⟩, a4, by omega, by omega, by omega, ?_⟩, fun q => (by cases q)⟩
        · exact s2.fr (fun k => by rw [am_w_other _ _ _ (by decide), am_w_other _ _ _ (by decide)]) (fun k k1 k2 => by rw [am_w_r, if_pos rfl, if_neg (by omega), am_w_other _ _ _ (by decide)])
        · rw [am_w_r, if_pos rfl, if_neg (by decide), am_w_other _ _ _ (by decide)]; exact hb1
        · rw [am_w_r, if_pos rfl, if_pos rfl]; exact a3.2.2.2.2.1.2.symm
        · intro k hk
          rw [k69, a5, l5 k hk]
    · rw [if_neg (by simp [t2]), if_neg (show ¬ nI ty = 2 from fun q => t2 ((am_eq (by omega) (by decide)).mp q)), n2, am_o1_s, ifb]
      by_cases t1 : ty = 1
      · -- a word
        rw [if_pos (by simp [t1]), if_pos (show nI ty = 1 by rw [t1]; rfl), K_valueTold hx h1 h3, am_o1_s, P_which hx h2 h3 h4 (by decide) lref57, am_o1_s]
        have hle : cy_fst (fun i => isw τ ty fi be (wb (42 + i))) 7 ≤ 7 := (cy_fst_s _ 7).1
        generalize cy_fst (fun i => isw τ ty fi be (wb (42 + i))) 7 = k at hle ⊢
        by_cases hk7 : k < 7
        · have ek : cy_enc 7 k = nI k := by simp [cy_enc, hk7]
          obtain ⟨hsv, hcv⟩ := sg_val7' k hk7
          obtain ⟨gt1, -⟩ := sg_val_gt hsv
          have hfb := (h3.2.2.2.2.1 (by omega)).1
          have hbn := h3.2.1
          rw [ek, if_neg (cy_m1 (by omega)), if_neg (cy_m1 (by omega))]
          unfold F_X5_codeOfValue J_X10_readPart_56
          obtain ⟨ivc1, ivm1, l1, l2, l3, l5⟩ := h9.lay (g := (-1 : Int32) - nI k) hw ht (by omega) (Or.inl ⟨Or.inr hsv, by omega⟩)
          obtain ⟨ivc2, ivm2, a1, a2, a3, a4, a5⟩ := l3.adv hx hw ht
          rw [hcv] at l1
          rw [am_o1_s, l1, am_o1_s, l2, am_o1_s, if_pos l3.2.2.2.1, a2, am_o1_s]
          unfold J_X3_readPart_116
          rw [a1, am_o1_s]
          rw [sg_dep_push gt1] at a3
          exact ⟨true, _, _, rfl, rfl, fun _ => ⟨_, _, _, L + 1, a3, a4, by omega, by omega, by omega, fun k hk => by rw [a5, l5 k hk]⟩, fun q => (by cases q)⟩
        · have ek : cy_enc 7 k = -1 := by simp [cy_enc, hk7]
          rw [ek, if_pos rfl, if_pos rfl]
          unfold F_X8_refuse J_X10_readPart_56
          have hnb : ¬ am_w (am_w ivm 54 25 3) 54 26 (ivm 54 23) 54 25 = 0 := by simp [am_w_r]
          rw [am_o2_s, if_pos (Or.inl rfl), P_wrong h4, am_o1_s, P_layBad hnb, am_o1_s, if_neg hnb]
          exact ⟨false, _, _, rfl, rfl, fun q => (by cases q), fun _ => EE.of h1 h2 (by decide)⟩
      · rw [if_neg (by simp [t1]), if_neg (show ¬ nI ty = 1 from fun q => t1 ((am_eq (by omega) (by decide)).mp q))]
        have t3' : iss τ ty fi 40 = false := by simpa using t3
        have mk : F_X10_mark (nI 40) ivm = some (am_w (am_w ivm 54 25 1) 54 26 (ivm 54 23)) := by
          unfold F_X10_mark
          rw [if_pos h4, P_isMarked hx h2 h3 (by decide) h4, am_o1_s, t3', if_pos (show am_bi false = 0 from rfl), P_wrong h4, am_o1_s]
          unfold J_X10_mark_20
          rw [if_neg (by simp [am_w_r])]
        have hnb : ¬ am_w (am_w ivm 54 25 1) 54 26 (ivm 54 23) 54 25 = 0 := by simp [am_w_r]
        unfold F_X8_refuse
        rw [am_o2_s, if_pos (Or.inl rfl), mk, am_o1_s, hB _ _ hnb, am_o1_s, NB_mark hnb, am_o1_s]
        exact ⟨false, _, _, rfl, rfl, fun q => (by cases q), fun _ => EE.of h1 h2 (by decide)⟩
end B74
