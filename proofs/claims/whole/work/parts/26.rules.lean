/-! the rules, and the model's judging by them -/
/-- where the rules begin, their signs -/
abbrev ru_T : Type := (Nat → Nat) × (Nat → Int32)
def ru_ok (ρ : ru_T) (nr : Nat) : Prop := ρ.1 0 = 0 ∧ ρ.1 nr ≤ 700 ∧ ∀ r, r < nr → ρ.1 r ≤ ρ.1 (r + 1) ∧ sg_wf ρ.2 (ρ.1 r) (ρ.1 (r + 1) - ρ.1 r)
theorem ru_mono {ρ : ru_T} {nr : Nat} (h : ru_ok ρ nr) : ∀ (q r : Nat), r + q = nr → ρ.1 r ≤ ρ.1 nr
  | 0, r, e => by rw [show r = nr by omega]; exact Nat.le_refl _
  | q + 1, r, e => Nat.le_trans (h.2.2 r (by omega)).1 (ru_mono h q (r + 1) (by omega))
/-- whether a rule holds at some values -/
def ru_h (ρ : ru_T) (vals : Nat → Int32) (r : Nat) : Bool := !decide ((sg_run vals ρ.2 (ρ.1 r) (ρ.1 (r + 1) - ρ.1 r)).2 0 = 0)
def mo_R (iv : am_I) (ρ : ru_T) (nr : Nat) : Prop := (∀ r, r < nr → iv 67 r = nI (ρ.1 r) ∧ iv 68 r = nI (ρ.1 (r + 1))) ∧ ∀ k, k < ρ.1 nr → iv 69 k = ρ.2 k
theorem am_fr.g {A : List Nat} {x y : am_I} (h : am_fr A [] x y) {a : Nat} (ha : a ∉ A) : y a = x a := funext fun j => h a j ha List.not_mem_nil
theorem sg_push {vals : Nat → Int32} {sg : Nat → Int32} {k m : Nat} {g : Int32} (e : sg (k + m) = g) (h : ¬ g ≤ -20) : sg_dp sg k (m + 1) = sg_dp sg k m + 1 ∧ (sg_run vals sg k (m + 1)).2 = upd (sg_run vals sg k m).2 (sg_dp sg k m) (if g < 0 then vals ((-1 : Int32) - g).toNatClampNeg else g) := by
  constructor
  · show sg_dep (sg (k + m)) (sg_dp sg k m) = _
    rw [e]; unfold sg_dep; rw [if_neg h]
  · show (sg_st vals (sg (k + m)) (sg_run vals sg k m)).2 = _
    rw [e]; unfold sg_st; rw [if_neg h, sg_run_dp]
theorem sg_not {vals : Nat → Int32} {sg : Nat → Int32} {k m : Nat} {g : Int32} (e : sg (k + m) = g) (h : g = -28) : sg_dp sg k (m + 1) = sg_dp sg k m ∧ (sg_run vals sg k (m + 1)).2 = upd (sg_run vals sg k m).2 (sg_dp sg k m - 1) (if (sg_run vals sg k m).2 (sg_dp sg k m - 1) = 0 then 1 else 0) := by
  have h1 : (-28 : Int32) ≤ -20 := by decide
  constructor
  · show sg_dep (sg (k + m)) (sg_dp sg k m) = _
    rw [e, h]; unfold sg_dep; rw [if_pos h1, if_pos rfl]
  · show (sg_st vals (sg (k + m)) (sg_run vals sg k m)).2 = _
    rw [e, h]; unfold sg_st; rw [if_pos h1, if_pos rfl, sg_run_dp]
theorem sg_join {vals : Nat → Int32} {sg : Nat → Int32} {k m : Nat} {g : Int32} (e : sg (k + m) = g) (h : sg_bin g) : sg_dp sg k (m + 1) = sg_dp sg k m - 1 ∧ (sg_run vals sg k (m + 1)).2 = upd (sg_run vals sg k m).2 (sg_dp sg k m - 2) (rk g ((sg_run vals sg k m).2 (sg_dp sg k m - 2)) ((sg_run vals sg k m).2 (sg_dp sg k m - 1))) := by
  obtain ⟨h1, h2⟩ := sg_bin_le h
  constructor
  · show sg_dep (sg (k + m)) (sg_dp sg k m) = _
    rw [e]; unfold sg_dep; rw [if_pos h1, if_neg h2]
  · show (sg_st vals (sg (k + m)) (sg_run vals sg k m)).2 = _
    rw [e]; unfold sg_st; rw [if_pos h1, if_neg h2, sg_run_dp]
theorem upd_ag {f g : Nat → Int32} {n p : Nat} {v w : Int32} (hv : v = w) (h : ∀ i, i < n → i ≠ p → f i = g i) : ∀ i, i < n → upd f p v i = upd g p w i := by
  intro i hi
  unfold upd
  by_cases e : i = p
  · simp [e, hv]
  · simp [e, h i hi e]
theorem nI_sub {a b : Nat} (h : b ≤ a) : nI a - nI b = nI (a - b) := by
  have h1 : nI a = nI (a - b) + nI b := by rw [nI_add]; congr 1; omega
  rw [h1, Int32.add_sub_cancel]
theorem nI_s1 {a : Nat} (h : 1 ≤ a) : nI a - 1 = nI (a - 1) := nI_sub h
theorem nI_m1 {a : Nat} (h : 1 ≤ a) : nI a + (-1) = nI (a - 1) := by
  rw [← nI_s1 h, Int32.sub_eq_add_neg]
section B26
variable {iv : am_I} {c : Nat → Nat → Nat}
theorem P_holds {ρ : ru_T} {nr r : Nat} {vals : Nat → Int32} (hR : mo_R iv ρ nr) (ho : ru_ok ρ nr) (hr : r < nr) (hn : nr ≤ 4) (hv : ∀ i, i < 7 → iv 75 i = vals i) : ∃ iv', F_X10_holds (nI r) iv = some (am_bi (ru_h ρ vals r), iv') := by
  obtain ⟨h1, h2⟩ := hR.1 r hr
  obtain ⟨hle, hwf⟩ := ho.2.2 r hr
  have hm : ρ.1 (r + 1) ≤ ρ.1 nr := ru_mono ho (nr - (r + 1)) (r + 1) (by omega)
  have h700 := ho.2.1
  have H : ∃ x, am_loop (fun s : (Int32 × Int32 × am_I) => B_X10_holds_9 (nI r) s.1 s.2.1 s.2.2) ((0 : Int32), nI (ρ.1 r), iv) = some x ∧ x 76 0 = (sg_run vals ρ.2 (ρ.1 r) (ρ.1 (r + 1) - ρ.1 r)).2 0 := by
    refine am_loop_n (fun m s => s.1 = nI (sg_dp ρ.2 (ρ.1 r) m) ∧ s.2.1 = nI (ρ.1 r + m) ∧ am_fr [76] [] iv s.2.2 ∧ ∀ i, i < sg_dp ρ.2 (ρ.1 r) m → s.2.2 76 i = (sg_run vals ρ.2 (ρ.1 r) m).2 i) (ρ.1 (r + 1) - ρ.1 r) (by omega) ?_ ?_ _ ⟨rfl, rfl, am_fr.rf _ _ _, fun i hi => absurd hi (Nat.not_lt_zero i)⟩
    · rintro m ⟨n0, k0, iv1⟩ hml ⟨a1, a2, a3, a4⟩
      dsimp only at a1 a2 a3 a4
      subst a1; subst a2
      left
      have b1 : iv1 68 r = nI (ρ.1 (r + 1)) := by rw [a3.g (by decide)]; exact h2
      have b2 : iv1 69 (ρ.1 r + m) = ρ.2 (ρ.1 r + m) := by rw [a3.g (by decide)]; exact hR.2 _ (by omega)
      have b3 : iv1 75 = iv 75 := a3.g (by decide)
      have ok := hwf.1 m hml
      have dle := sg_dp_le hwf m (Nat.le_of_lt hml)
      obtain ⟨g, hg⟩ : ∃ g, ρ.2 (ρ.1 r + m) = g := ⟨_, rfl⟩
      rw [hg] at ok b2
      show ∃ s', B_X10_holds_9 (nI r) (nI (sg_dp ρ.2 (ρ.1 r) m)) (nI (ρ.1 r + m)) iv1 = _ ∧ _
      unfold B_X10_holds_9
      simp (disch := omega) only [vb, am_cl, b1, nle, if_true, b2]
      rw [if_neg (by omega)]
      have K : ∀ y : Int32, y = (if g < 0 then vals ((-1 : Int32) - g).toNatClampNeg else g) → ¬ g ≤ -20 → sg_dp ρ.2 (ρ.1 r) m < 60 → ∃ s' : Int32 × Int32 × am_I, J_X10_holds_58 (nI r) (nI (sg_dp ρ.2 (ρ.1 r) m)) (nI (ρ.1 r + m)) (nI (sg_dp ρ.2 (ρ.1 r) m)) y iv1 = some (.inl s') ∧ s'.1 = nI (sg_dp ρ.2 (ρ.1 r) (m + 1)) ∧ s'.2.1 = nI (ρ.1 r + (m + 1)) ∧ am_fr [76] [] iv s'.2.2 ∧ ∀ i, i < sg_dp ρ.2 (ρ.1 r) (m + 1) → s'.2.2 76 i = (sg_run vals ρ.2 (ρ.1 r) (m + 1)).2 i := by
        intro y hy hg1 hd
        obtain ⟨e1, e2⟩ := sg_push (vals := vals) hg hg1
        unfold J_X10_holds_58
        simp (disch := omega) only [vb, am_cl, if_true, nI_1]
        refine ⟨_, rfl, by rw [e1], by rw [Nat.add_assoc], a3.a (by decide), ?_⟩
        show ∀ i, i < _ → am_w iv1 76 _ y 76 i = _
        rw [am_w_same, e1, e2]
        exact upd_ag hy (fun i h1 h2 => a4 i (by omega))
      rcases ok with ⟨hq, hd⟩ | ⟨hq, hd⟩ | ⟨hq, hd⟩
      · rcases hq with hq | hq
        · obtain ⟨g1, g2⟩ := sg_num_gt hq
          rw [if_neg g1, if_neg g2]
          exact K g (by rw [if_neg g2]) g1 hd
        · obtain ⟨g1, g2, g3⟩ := sg_val_gt hq
          have g4 : ((-1 : Int32) - g).toNatClampNeg < 7 := (vp_nIof (vp_b_in g3)).2
          rw [if_neg g1, if_pos g2, if_pos g3]
          exact K _ (by rw [if_pos g2, b3]; exact hv _ g4) g1 hd
      · obtain ⟨g1, g2⟩ := sg_bin_le hq
        obtain ⟨e1, e2⟩ := sg_join (vals := vals) hg hq
        rw [if_pos g1, if_neg g2]
        simp (disch := omega) only [nI_m1, nI_s1, vb, am_cl, if_true, P_reckon hq, am_o1_s, nI_1]
        refine ⟨_, rfl, by rw [e1], by rw [Nat.add_assoc], a3.a (by decide), ?_⟩
        show ∀ i, i < _ → am_w iv1 76 _ _ 76 i = _
        rw [am_w_same, e1, e2]
        refine upd_ag ?_ (fun i h1 h2 => a4 i (by omega))
        rw [a4 _ (by omega), a4 _ (by omega)]
        rfl
      · obtain ⟨e1, e2⟩ := sg_not (vals := vals) hg hq
        have g1 : g ≤ -20 := by rw [hq]; decide
        rw [if_pos g1, if_pos hq]
        simp (disch := omega) only [nI_s1, vb, am_cl, if_true]
        rw [a4 _ (by omega)]
        by_cases h0 : (sg_run vals ρ.2 (ρ.1 r) m).2 (sg_dp ρ.2 (ρ.1 r) m - 1) = 0
        · rw [if_pos h0]
          rw [if_pos h0] at e2
          unfold J_X10_holds_95
          simp (disch := omega) only [vb, am_cl, if_true, nI_1]
          refine ⟨_, rfl, by rw [e1], by rw [Nat.add_assoc], a3.a (by decide), ?_⟩
          show ∀ i, i < _ → am_w iv1 76 _ _ 76 i = _
          rw [am_w_same, e1, e2]
          exact upd_ag rfl (fun i h1 h2 => a4 i (by omega))
        · rw [if_neg h0]
          rw [if_neg h0] at e2
          unfold J_X10_holds_95
          simp (disch := omega) only [vb, am_cl, if_true, nI_1]
          refine ⟨_, rfl, by rw [e1], by rw [Nat.add_assoc], a3.a (by decide), ?_⟩
          show ∀ i, i < _ → am_w iv1 76 _ _ 76 i = _
          rw [am_w_same, e1, e2]
          exact upd_ag rfl (fun i h1 h2 => a4 i (by omega))
    · rintro ⟨n0, k0, iv1⟩ ⟨a1, a2, a3, a4⟩
      dsimp only at a1 a2 a3 a4
      subst a1; subst a2
      have b1 : iv1 68 r = nI (ρ.1 (r + 1)) := by rw [a3.g (by decide)]; exact h2
      refine ⟨iv1, ?_, a4 0 (by rw [hwf.2]; decide)⟩
      show B_X10_holds_9 _ _ _ _ = _
      unfold B_X10_holds_9
      simp (disch := omega) only [vb, am_cl, b1, nle, if_true]
      rw [if_pos (by omega)]
  obtain ⟨x, hx1, hx2⟩ := H
  unfold F_X10_holds
  simp (disch := omega) only [vb, am_cl, if_true, h1]
  rw [hx1]
  refine ⟨x, ?_⟩
  show (if x 76 ((0 : Int32).toNatClampNeg) = 0 then _ else _) = _
  rw [cl0, hx2]
  unfold ru_h
  by_cases h0 : (sg_run vals ρ.2 (ρ.1 r) (ρ.1 (r + 1) - ρ.1 r)).2 0 = 0 <;> simp [h0, am_bi]
/-- the values of a drawer that is out -/
def cy_c5 (c : Nat → Nat → Nat) (s k : Nat) : Bool := s.testBit k && decide (cy_kd c k = 1)
def cy_c6 (c : Nat → Nat → Nat) (d s k : Nat) : Bool := s.testBit k && (cy_sha c k d && decide (cy_st c d < cy_st c k))
def cy_va (c : Nat → Nat → Nat) (d s i : Nat) : Int32 := if i = 0 then nI (cy_co c d) else if i = 1 then nI (cy_st c d) else if i = 2 then nI (cy_le c d) else if i = 3 then nI (cy_kd c d) else if i = 4 then nI (cy_pc s) else if i = 5 then nI (cy_cnt (cy_c5 c s) (cy_n c)) else nI (cy_cnt (cy_c6 c d s) (cy_n c))
theorem mo_C.fr {iv iv' : am_I} (h : mo_C iv c) (e : ∀ a, 58 ≤ a → a < 70 → iv' a = iv a) : mo_C iv' c := by
  unfold mo_C at h ⊢
  rw [e 58 (by decide) (by decide), e 59 (by decide) (by decide), e 60 (by decide) (by decide), e 61 (by decide) (by decide), e 62 (by decide) (by decide), e 63 (by decide) (by decide), e 64 (by decide) (by decide), e 65 (by decide) (by decide), e 66 (by decide) (by decide)]
  exact h
theorem mo_R.fr {iv iv' : am_I} {ρ : ru_T} {nr : Nat} (h : mo_R iv ρ nr) (e : ∀ a, 58 ≤ a → a < 70 → iv' a = iv a) : mo_R iv' ρ nr := by
  unfold mo_R at h ⊢
  rw [e 67 (by decide) (by decide), e 68 (by decide) (by decide), e 69 (by decide) (by decide)]
  exact h
theorem am_fr.m {iv iv' : am_I} {A : List Nat} {L : List (Nat × Nat)} (h : am_fr A L iv iv') (hA : (A.all fun a => decide (a < 58) || decide (70 ≤ a)) = true) (hL : (L.all fun q => decide (q.1 < 58) || decide (70 ≤ q.1)) = true) : ∀ a, 58 ≤ a → a < 70 → iv' a = iv a := by
  intro a h1 h2
  funext j
  refine h a j (fun q => ?_) (fun q => ?_)
  · have := List.all_eq_true.mp hA a q
    simp at this
    omega
  · have := List.all_eq_true.mp hL _ q
    simp at this
    omega
theorem P_ask (hC : mo_C iv c) (hc : cy_ok c) {d s : Nat} (hd : d < cy_n c) (hs : s < 1024) : ∃ iv', F_X10_ask (nI d) (nI s) iv = some iv' ∧ ∀ i, i < 7 → iv' 75 i = cy_va c d s i := by
  have hn := hc.1
  obtain ⟨d1, d2, d3, d4, d5⟩ := hC.2.1 d hd
  have gd := hc.2.2.2.2.2.2.2.1 d hd
  have h59 := hc.2.2.2.2.2.1.2
  unfold F_X10_ask
  simp (disch := omega) only [vb, am_cl, if_true, cl0, cl1, cl2, cl3, cl4, cl5, cl6, P_bitsOf hs, am_o1_s]
  generalize hv : am_w (am_w (am_w (am_w (am_w (am_w (am_w iv 75 0 _) 75 1 _) 75 2 _) 75 3 _) 75 4 _) 75 5 _) 75 6 _ = iv0
  have f0 : am_fr [75] [] iv iv0 := by
    rw [← hv]
    exact (((((((am_fr.rf _ _ _).a (by decide)).a (by decide)).a (by decide)).a (by decide)).a (by decide)).a (by decide)).a (by decide)
  have v0 : ∀ i, i < 5 → iv0 75 i = cy_va c d s i := by
    intro i hi
    rw [← hv]
    simp only [am_w_r, d1, d2, d3, d4]
    match i, hi with
    | 0, _ => simp [cy_va]
    | 1, _ => simp [cy_va]
    | 2, _ => simp [cy_va]
    | 3, _ => simp [cy_va]
    | 4, _ => simp [cy_va]
  have v5 : iv0 75 5 = 0 := by rw [← hv]; simp [am_w_r]
  have v6 : iv0 75 6 = 0 := by rw [← hv]; simp [am_w_r]
  have H : ∃ x, am_loop (fun s9 : (Int32 × am_I) => B_X10_ask_75 (nI d) (nI s) s9.1 s9.2) ((0 : Int32), iv0) = some x ∧ ∀ i, i < 7 → x 75 i = cy_va c d s i := by
    refine am_loop_n (fun m q => q.1 = nI m ∧ am_fr [75] [] iv q.2 ∧ (∀ i, i < 5 → q.2 75 i = cy_va c d s i) ∧ q.2 75 5 = nI (cy_cnt (cy_c5 c s) m) ∧ q.2 75 6 = nI (cy_cnt (cy_c6 c d s) m)) (cy_n c) (by omega) ?_ ?_ _ ⟨rfl, f0, v0, v5, v6⟩
    · rintro m ⟨k0, iv1⟩ hm ⟨a1, a2, a3, a5, a6⟩
      dsimp only at a1 a2 a3 a5 a6
      subst a1
      have hC1 : mo_C iv1 c := hC.fr (a2.m (by decide) (by decide))
      have gm := hc.2.2.2.2.2.2.2.1 m hm
      left
      show ∃ s', B_X10_ask_75 _ _ (nI m) iv1 = _ ∧ _
      unfold B_X10_ask_75
      have r2 := hC1.1.2.2.1
      obtain ⟨m1, m2, m3, m4, m5⟩ := hC1.2.1 m hm
      simp (disch := omega) only [cl2, r2, nle, P_has hs, am_o1_s, ifb, vb, am_cl, if_true, m1]
      rw [if_neg (by omega)]
      have c5 : cy_cnt (cy_c5 c s) (m + 1) = cy_cnt (cy_c5 c s) m + if cy_c5 c s m then 1 else 0 := rfl
      have c6 : cy_cnt (cy_c6 c d s) (m + 1) = cy_cnt (cy_c6 c d s) m + if cy_c6 c d s m then 1 else 0 := rfl
      have l5 := cy_cnt_le (cy_c5 c s) m
      have l6 := cy_cnt_le (cy_c6 c d s) m
      cases hb : s.testBit m with
      | false =>
        rw [if_neg (by decide)]
        refine ⟨_, rfl, nI_1 m, a2, a3, ?_, ?_⟩
        · rw [c5, show cy_c5 c s m = false by simp [cy_c5, hb]]; exact a5
        · rw [c6, show cy_c6 c d s m = false by simp [cy_c6, hb]]; exact a6
      | true =>
        rw [if_pos rfl]
        have K : ∀ y, y < 2 → (y = if cy_c5 c s m then 1 else 0) → ∃ s' : Int32 × am_I, J_X10_ask_118 (nI d) (nI s) (nI m) (5 : Int32) (iv1 75 (5 : Int32).toNatClampNeg) (nI y) iv1 = some (.inl s') ∧ s'.1 = nI (m + 1) ∧ am_fr [75] [] iv s'.2 ∧ (∀ i, i < 5 → s'.2 75 i = cy_va c d s i) ∧ s'.2 75 5 = nI (cy_cnt (cy_c5 c s) (m + 1)) ∧ s'.2 75 6 = nI (cy_cnt (cy_c6 c d s) (m + 1)) := by
          intro y hy hy2
          rw [cl5, a5]
          unfold J_X10_ask_118
          rw [cl5, cl6]
          generalize hw : am_w iv1 75 5 (nI (cy_cnt (cy_c5 c s) m + y)) = iv2
          rw [nI_add, hw]
          have f2 : am_fr [75] [] iv iv2 := by rw [← hw]; exact a2.a (by decide)
          have hC2 : mo_C iv2 c := hC.fr (f2.m (by decide) (by decide))
          have w5 : iv2 75 5 = nI (cy_cnt (cy_c5 c s) (m + 1)) := by rw [← hw, am_w_same, c5, hy2]; simp [upd]
          have w6 : iv2 75 6 = nI (cy_cnt (cy_c6 c d s) m) := by rw [← hw, am_w_r]; simpa using a6
          have w3 : ∀ i, i < 5 → iv2 75 i = cy_va c d s i := fun i hi => by rw [← hw, am_w_r, if_pos rfl, if_neg (by omega)]; exact a3 i hi
          have F : ∀ z, z < 2 → (z = if cy_c6 c d s m then 1 else 0) → ∃ s' : Int32 × am_I, J_X10_ask_162 (nI d) (nI s) (nI m) (6 : Int32) (iv2 75 6) (nI z) iv2 = some (.inl s') ∧ s'.1 = nI (m + 1) ∧ am_fr [75] [] iv s'.2 ∧ (∀ i, i < 5 → s'.2 75 i = cy_va c d s i) ∧ s'.2 75 5 = nI (cy_cnt (cy_c5 c s) (m + 1)) ∧ s'.2 75 6 = nI (cy_cnt (cy_c6 c d s) (m + 1)) := by
            intro z hz hz2
            unfold J_X10_ask_162
            rw [cl6, if_pos (by decide)]
            refine ⟨_, rfl, nI_1 m, f2.a (by decide), fun i hi => ?_, ?_, ?_⟩
            · show am_w iv2 75 6 (iv2 75 6 + nI z) 75 i = _
              rw [am_w_r, if_pos rfl, if_neg (by omega)]; exact w3 i hi
            · show am_w iv2 75 6 (iv2 75 6 + nI z) 75 5 = _
              rw [am_w_r, if_pos rfl, if_neg (by decide)]; exact w5
            · show am_w iv2 75 6 (iv2 75 6 + nI z) 75 6 = _
              rw [am_w_r, if_pos rfl, if_pos rfl, w6, nI_add, c6, hz2]
          obtain ⟨-, -, e3, -, -⟩ := hC2.2.1 d hd
          obtain ⟨-, -, n3, -, -⟩ := hC2.2.1 m hm
          rw [if_pos (by decide)]
          unfold J_X10_ask_161
          simp (disch := omega) only [P_shares hC2 hc hm hd, am_o1_s, ifb, vb, am_cl, if_true, e3, n3, nle, neq]
          by_cases h1 : m = d
          · rw [if_pos h1]
            exact F 0 (by omega) (by simp [cy_c6, h1])
          · rw [if_neg h1]
            cases h2 : cy_sha c m d with
            | false =>
              rw [if_neg (by decide)]
              exact F 0 (by omega) (by simp [cy_c6, h2])
            | true =>
              rw [if_pos rfl]
              by_cases h3 : cy_st c m ≤ cy_st c d
              · rw [if_pos h3]
                exact F 0 (by omega) (by simp [cy_c6]; omega)
              · rw [if_neg h3]
                exact F 1 (by omega) (by simp [cy_c6, h2, hb]; omega)
        by_cases hk : cy_kd c m = 1
        · rw [if_pos (by rw [hk]; rfl)]
          exact K 1 (by omega) (by simp [cy_c5, hb, hk])
        · rw [if_neg (show ¬ nI (cy_kd c m) = 1 from fun q => hk ((am_eq (by omega) (by decide)).mp q))]
          exact K 0 (by omega) (by simp [cy_c5, hk])
    · rintro ⟨k0, iv1⟩ ⟨a1, a2, a3, a5, a6⟩
      dsimp only at a1 a2 a3 a5 a6
      subst a1
      have r2 : iv1 58 2 = _ := (hC.fr (a2.m (by decide) (by decide))).1.2.2.1
      refine ⟨iv1, ?_, fun i hi => ?_⟩
      · show B_X10_ask_75 _ _ _ iv1 = _
        unfold B_X10_ask_75
        simp (disch := omega) only [cl2, r2, nle]
        rw [if_pos (by omega)]
      · by_cases h5 : i < 5
        · exact a3 i h5
        · by_cases h6 : i = 5
          · subst h6; rw [a5]; simp [cy_va]
          · have : i = 6 := by omega
            subst this; rw [a6]; simp [cy_va]
  obtain ⟨x, hx1, hx2⟩ := H
  rw [hx1]
  exact ⟨x, rfl, hx2⟩
end B26
