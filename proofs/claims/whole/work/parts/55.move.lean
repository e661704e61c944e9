/-! move -/
theorem and_p0 (a d : Nat) : a &&& 2 ^ d = 0 ↔ a.testBit d = false := by
  constructor
  · intro h
    have h1 := congrArg (fun y => Nat.testBit y d) h
    simpa [Nat.testBit_and] using h1
  · intro h
    refine Nat.eq_of_testBit_eq (fun i => ?_)
    rw [Nat.testBit_and, Nat.zero_testBit]
    by_cases e : d = i
    · subst e; rw [h]; rfl
    · rw [Nat.testBit_two_pow_of_ne e, Bool.and_false]
theorem nI_p0 {a d : Nat} (ha : a < 1024) (hd : d < 10) : (nI a &&& nI (2 ^ d) = 0) ↔ a.testBit d = false := by
  rw [fa_and, ← and_p0]
  exact nI_z (Nat.lt_of_le_of_lt Nat.and_le_left (by omega))
section B55
variable {w pp np : Nat} {iv iv' iv2 : am_I} {c : Nat → Nat → Nat} {ρ : ru_T}
def cy_tr (c : Nat → Nat → Nat) (ρ : ru_T) (o a m d : Nat) : Nat := if a.testBit d then 2 else if (cy_rch c o).testBit d then (if cy_can c ρ (o ^^^ 2 ^ d) then (if m = 100 then 5 else 0) else 4) else 3
theorem K_troubleOf {o a m d : Nat} (hW : cl_W w iv c ρ) (hc : cy_ok c) (hro : ru_ok ρ (cy_r c)) (hw : w = 2 ∨ w = 22) (h0 : iv 42 0 = nI o) (h1 : iv 42 1 = nI a) (h3 : iv 42 3 = nI m) (ho : o < 2 ^ cy_n c) (ha : a < 2 ^ cy_n c) (hm : m ≤ 100) (hd : d < cy_n c) : ∃ iv', F_X9_troubleOf w (nI d) iv = some (nI (cy_tr c ρ o a m d), iv') ∧ cl_W w iv' c ρ := by
  have hn := hc.1
  have h10 := cy_p10 hn
  unfold F_X9_troubleOf cy_tr
  rw [K_isDrawer hW.1, xin_i hd (by omega), am_o1_s, if_neg (show ¬ am_bi true = 0 by decide), h1, am_shl1 d (by omega)]
  cases hb : a.testBit d with
  | true =>
    rw [if_neg (fun q => by rw [nI_p0 (by omega) (by omega), hb] at q; cases q)]
    exact ⟨iv, rfl, hW⟩
  | false =>
    rw [if_pos ((nI_p0 (by omega) (by omega)).mpr hb), h0]
    obtain ⟨iv1, e1, w1⟩ := K_reachedBy hW hc hro (show o < 1024 by omega)
    have f1 := X_X0_reachedBy e1
    rw [e1, am_o2_s, if_neg (show ¬ false = true by decide)]
    have hrl := cy_rch_lt hc o
    cases hr : (cy_rch c o).testBit d with
    | false =>
      rw [if_pos ((nI_p0 hrl (by omega)).mpr hr)]
      exact ⟨iv1, rfl, w1⟩
    | true =>
      rw [if_neg (fun q => by rw [nI_p0 hrl (by omega), hr] at q; cases q), if_pos rfl, f1 42 0 (by simp; omega) (by simp), h0, fb_xorI]
      obtain ⟨iv2, e2, w2⟩ := K_canBe w1 hc hro (cy_x10 (show o < 1024 by omega) (show d < 10 by omega))
      have f2 := X_X0_canBe e2
      rw [e2, am_o2_s, ifb]
      cases hcn : cy_can c ρ (o ^^^ 2 ^ d) with
      | false => exact ⟨iv2, rfl, w2⟩
      | true =>
        rw [if_pos rfl, if_pos rfl, f2 42 3 (by simp; omega) (by simp), f1 42 3 (by simp; omega) (by simp), h3]
        by_cases hm2 : m = 100
        · rw [if_neg (by rw [hm2]; decide), if_pos hm2]
          exact ⟨iv2, rfl, w2⟩
        · rw [if_pos (show nI m < 100 from nI_lt (show m < 100 by omega) (by decide)), if_neg hm2]
          exact ⟨iv2, rfl, w2⟩
theorem P_troubleOf {o a m d : Nat} (hM : RM iv c ρ) (h0 : iv 54 29 = nI o) (h1 : iv 54 30 = nI a) (h3 : iv 54 32 = nI m) (ho : o < 2 ^ cy_n c) (ha : a < 2 ^ cy_n c) (hm : m ≤ 100) (hd : d < cy_n c) : ∃ iv', F_X10_troubleOf (nI d) iv = some (nI (cy_tr c ρ o a m d), iv') := by
  obtain ⟨hc, hro, hC, hR⟩ := hM
  have hn := hc.1
  have h10 := cy_p10 hn
  unfold F_X10_troubleOf cy_tr
  rw [P_isDrawer hC hc, xin_i hd (by omega), am_o1_s, if_neg (show ¬ am_bi true = 0 by decide), h1, P_has (by omega) (by omega), am_o1_s, ifb]
  cases hb : a.testBit d with
  | true => exact ⟨iv, rfl⟩
  | false =>
    rw [if_neg (show ¬ false = true by decide), h0, P_reachedBy hC hc (by omega), am_o1_s, P_has (cy_rch_lt hc o) (by omega), am_o1_s, ifb, if_neg (show ¬ false = true by decide)]
    cases hr : (cy_rch c o).testBit d with
    | false => exact ⟨iv, rfl⟩
    | true =>
      rw [if_pos rfl, if_pos rfl, am_shl1 d (by omega), fb_xorI]
      obtain ⟨iv2, e2⟩ := P_canBe hC hc hR hro (cy_x10 (show o < 1024 by omega) (show d < 10 by omega))
      have f2 := X_X10_canBe e2
      rw [e2, am_o2_s, ifb]
      cases hcn : cy_can c ρ (o ^^^ 2 ^ d) with
      | false => exact ⟨iv2, rfl⟩
      | true =>
        rw [if_pos rfl, if_pos rfl, f2 54 32 (by simp) (by simp), h3]
        by_cases hm2 : m = 100
        · rw [if_pos (show nI m = 100 by rw [hm2]; decide), if_pos hm2]
          exact ⟨iv2, rfl⟩
        · rw [if_neg (show ¬ nI m = 100 from fun q => hm2 ((am_eq (by omega) (by decide)).mp q)), if_neg hm2]
          exact ⟨iv2, rfl⟩
theorem C_move (h : Rel w pp np iv c ρ) (hw : w = 2 ∨ w = 22) (hp : 51 ≤ pp ∧ (pp < 54 ∨ 89 ≤ pp)) (x : Int32) : ∃ v iv1 iv2, F_X9_move w x iv = some (v, iv1) ∧ F_X10_move x iv1 = some (v, iv2) ∧ Rel w pp np iv2 c ρ := by
  have hc := h.1.1
  have hn := hc.1
  have h10 := cy_p10 hn
  -- refused
  have NO : ∀ (t : Nat) (iv1 iv3 : am_I), 0 < t → t < 10 → F_X9_troubleOf w x iv = some (nI t, iv1) → cl_W w iv1 c ρ → F_X10_troubleOf x (am_w (am_w iv1 42 5 (iv1 42 5 + 1)) 54 3 0) = some (nI t, iv3) → ∃ v iv1 iv2, F_X9_move w x iv = some (v, iv1) ∧ F_X10_move x iv1 = some (v, iv2) ∧ Rel w pp np iv2 c ρ := by
    intro t iv1 iv3 t1 t2 e1 w1 e3
    have f1 := X_X9_troubleOf e1
    have f3 := X_X10_troubleOf e3
    have h1 : Rel w pp np iv1 c ρ := h.fr (sm_j hw hp f1) w1
    refine ⟨nI t, am_w iv1 42 5 (iv1 42 5 + 1), am_w iv3 70 1 (iv3 70 1 + 1), ?_, ?_, ?_⟩
    · unfold F_X9_move
      rw [e1, am_o2_s, if_neg (nI_ne0 t1 (by omega))]
    · unfold F_X10_move
      rw [e3, am_o2_s, if_neg (nI_ne0 t1 (by omega)), cl1]
    · have f4 : am_fr [75, 76, 70] [(42, 5), (54, 3)] iv1 (am_w iv3 70 1 (iv3 70 1 + 1)) := (((((am_fr.rf _ _ _).f (by simp)).f (by simp)).tr (f3.up (by simp) (by simp)))).a (by simp)
      refine h1.sn (sn.of f4 hw hp (fun a ha => by simp at ha; rcases ha with rfl | rfl | rfl <;> simp [sna] <;> omega) (fun q hq => by simp at hq; rcases hq with rfl | rfl <;> simp [snf, sna] <;> omega)) (w1.fa f4 (fun a ha => by simp at ha; omega) (fun q hq => by simp at hq; rcases hq with rfl | rfl <;> simp <;> omega)) ?_
      obtain ⟨o, a, f, m, hb, ⟨s0, s1, s2, s3⟩, ⟨m0, m1, m2, m3⟩, r1, r2, r3, r4, r5⟩ := h1.2.2.1
      have g : ∀ a j, a ≠ 75 → a ≠ 76 → iv3 a j = am_w (am_w iv1 42 5 (iv1 42 5 + 1)) 54 3 0 a j := fun a j h1 h2 => f3 a j (by simp; omega) (by simp)
      refine ⟨o, a, f, m, hb, ⟨?_, ?_, ?_, ?_⟩, ⟨?_, ?_, ?_, ?_⟩, fun i hi => ?_, fun i hi => ?_, fun i hi => ?_, ?_, ?_⟩
      · simp [am_w_r, g, s0]
      · simp [am_w_r, g, s1]
      · simp [am_w_r, g, s2]
      · simp [am_w_r, g, s3]
      · simp [am_w_r, g, m0]
      · simp [am_w_r, g, m1]
      · simp [am_w_r, g, m2]
      · simp [am_w_r, g, m3]
      · simp [am_w_r, g]; exact r1 i hi
      · obtain ⟨z, z1, z2, z3⟩ := r2 i hi
        exact ⟨z, z1, by simp [am_w_r, g]; exact z2, by simp [am_w_r, g]; exact z3⟩
      · obtain ⟨z, z1, z2, z3⟩ := r3 i hi
        exact ⟨z, z1, by simp [am_w_r, g]; exact z2, by simp [am_w_r, g]; exact z3⟩
      · simp [am_w_r, g]; exact r4
      · simp [am_w_r, g]; exact r5
  have hM2 : ∀ iv1, Rel w pp np iv1 c ρ → RM (am_w (am_w iv1 42 5 (iv1 42 5 + 1)) 54 3 0) c ρ := fun iv1 h1 => h1.1.fr (fun a a1 a2 => by rw [am_w_other _ _ _ (by omega), am_w_other _ _ _ (by omega)])
  cases hx : xin x (cy_n c) with
  | false =>
    refine NO 1 iv (am_w (am_w iv 42 5 (iv 42 5 + 1)) 54 3 0) (by omega) (by omega) ?_ h.2.1.1 ?_
    · unfold F_X9_troubleOf
      rw [K_isDrawer h.2.1.1.1, hx, am_o1_s, if_pos (show am_bi false = 0 from rfl)]; rfl
    · unfold F_X10_troubleOf
      rw [P_isDrawer (hM2 iv h).2.2.1 hc, hx, am_o1_s, if_pos (show am_bi false = 0 from rfl)]; rfl
  | true =>
    obtain ⟨d, hd, rfl⟩ := xin_t (by omega) hx
    obtain ⟨o, a, f, m, ⟨b1, b2, b3, b4⟩, ⟨s0, s1, s2, s3⟩, ⟨m0, m1, m2, m3⟩, r1, r2, r3, r4, r5⟩ := h.2.2.1
    obtain ⟨iv1, e1, w1⟩ := K_troubleOf h.2.1.1 hc h.1.2.1 hw s0 s1 s3 b1 b2 b4 hd
    have f1 := X_X9_troubleOf e1
    have h1 : Rel w pp np iv1 c ρ := h.fr (sm_j hw hp f1) w1
    have g1 : ∀ a j, 42 ≤ a → iv1 a j = iv a j := fun a j ha => f1 a j (by simp; omega) (by simp)
    by_cases ht : cy_tr c ρ o a m d = 0
    · rw [ht] at e1
      have hm : m < 100 := by
        unfold cy_tr at ht
        split at ht
        · cases ht
        · split at ht
          · split at ht
            · split at ht
              · cases ht
              · omega
            · cases ht
          · cases ht
      have hod : o ^^^ 2 ^ d < 2 ^ cy_n c := cy_x2 b1 hd
      obtain ⟨iv2, e2, w2⟩ := K_fedBy w1 hc h.1.2.1 (show o ^^^ 2 ^ d < 1024 by omega)
      have f2 := X_X0_fedBy e2
      have h2 : Rel w pp np iv2 c ρ := h1.fr (sm_j hw hp f2) w2
      have g2 : ∀ a j, 42 ≤ a → iv2 a j = iv a j := fun a j ha => by rw [f2 a j (by simp; omega) (by simp)]; exact g1 a j ha
      have hfl := cy_fed_l hc (o ^^^ 2 ^ d)
      -- the class's move
      have e3 : F_X7_doMove 42 (nI d) (nI (cy_fed c (o ^^^ 2 ^ d))) iv2 = some (am_w (am_w (am_w (am_w (am_w iv2 44 m (nI d)) 45 m (nI f)) 42 3 (nI (m + 1))) 42 0 (nI (o ^^^ 2 ^ d))) 42 2 (nI (f ||| cy_fed c (o ^^^ 2 ^ d)))) := by
        have q3 : iv2 42 3 = nI m := by rw [g2 _ _ (by decide)]; exact s3
        have q2 : iv2 42 2 = nI f := by rw [g2 _ _ (by decide)]; exact s2
        have q0 : iv2 42 0 = nI o := by rw [g2 _ _ (by decide)]; exact s0
        unfold F_X7_doMove
        simp only [show 42 + 2 = 44 from rfl, show 42 + 3 = 45 from rfl]
        rw [q3, if_neg (nI_pos (by omega)), if_pos (show nI m < 100 from nI_lt hm (by decide)), am_cl (by omega)]
        have t1 : am_w iv2 44 m (nI d) 42 3 = nI m := by rw [am_w_other _ _ _ (by decide)]; exact q3
        have t2 : am_w iv2 44 m (nI d) 42 2 = nI f := by rw [am_w_other _ _ _ (by decide)]; exact q2
        rw [t1, t2, am_cl (by omega), if_pos (vb hm (by decide)), if_pos (vb hm (by decide))]
        have t3 : am_w (am_w iv2 44 m (nI d)) 45 m (nI f) 42 3 = nI m := by rw [am_w_other _ _ _ (by decide)]; exact t1
        rw [t3, nI_1]
        have t4 : am_w (am_w (am_w iv2 44 m (nI d)) 45 m (nI f)) 42 3 (nI (m + 1)) 42 0 = nI o := by simp [am_w_r, q0]
        rw [t4, am_shl1 d (by omega), fb_xorI]
        have t5 : am_w (am_w (am_w (am_w iv2 44 m (nI d)) 45 m (nI f)) 42 3 (nI (m + 1))) 42 0 (nI (o ^^^ 2 ^ d)) 42 2 = nI f := by simp [am_w_r, q2]
        rw [t5, fa_or]
      have f3 := X_X7_doMove e3
      generalize hv3 : am_w (am_w (am_w (am_w (am_w iv2 44 m (nI d)) 45 m (nI f)) 42 3 (nI (m + 1))) 42 0 (nI (o ^^^ 2 ^ d))) 42 2 (nI (f ||| cy_fed c (o ^^^ 2 ^ d))) = iv3 at e3 f3
      have g3 : ∀ a j, 46 ≤ a → iv3 a j = iv a j := fun a j ha => by
        rw [f3 a j (by simp; omega) (by simp; omega)]; exact g2 a j (by omega)
      have hM4 : RM (am_w iv3 54 3 0) c ρ := h.1.fr (fun a a1 a2 => funext fun j => by rw [am_w_other _ _ _ (by omega)]; exact g3 a j (by omega))
      have n29 : am_w iv3 54 3 0 54 29 = nI o := by rw [am_code1 _ (by decide), g3 _ _ (by decide)]; exact m0
      have n30 : am_w iv3 54 3 0 54 30 = nI a := by rw [am_code1 _ (by decide), g3 _ _ (by decide)]; exact m1
      have n31 : am_w iv3 54 3 0 54 31 = nI f := by rw [am_code1 _ (by decide), g3 _ _ (by decide)]; exact m2
      have n32 : am_w iv3 54 3 0 54 32 = nI m := by rw [am_code1 _ (by decide), g3 _ _ (by decide)]; exact m3
      obtain ⟨iv4, e4⟩ := P_troubleOf hM4 n29 n30 n32 b1 b2 b4 hd
      rw [ht] at e4
      have f4 := X_X10_troubleOf e4
      have k29 : iv4 54 29 = nI o := by rw [f4 _ _ (by simp) (by simp)]; exact n29
      have k31 : iv4 54 31 = nI f := by rw [f4 _ _ (by simp) (by simp)]; exact n31
      have k32 : iv4 54 32 = nI m := by rw [f4 _ _ (by simp) (by simp)]; exact n32
      let iv5 : am_I := am_w (am_w (am_w (am_w iv4 73 m (nI d)) 74 m (nI f)) 54 32 (nI (m + 1))) 54 29 (nI (o ^^^ 2 ^ d))
      have hM5 : RM iv5 c ρ := hM4.fr (fun a a1 a2 => funext fun j => by
        show am_w (am_w (am_w (am_w iv4 73 m (nI d)) 74 m (nI f)) 54 32 (nI (m + 1))) 54 29 (nI (o ^^^ 2 ^ d)) a j = _
        rw [am_w_other _ _ _ (by omega), am_w_other _ _ _ (by omega), am_w_other _ _ _ (by omega), am_w_other _ _ _ (by omega)]
        exact f4 a j (by simp; omega) (by simp))
      refine ⟨nI 0, iv3, am_w iv5 54 31 (nI (f ||| cy_fed c (o ^^^ 2 ^ d))), ?_, ?_, ?_⟩
      · unfold F_X9_move
        rw [e1, am_o2_s, if_pos (show nI 0 = 0 from rfl), g1 42 0 (by decide), s0, am_shl1 d (by omega), fb_xorI, e2, am_o2_s, e3, am_o1_s]
      · unfold F_X10_move
        rw [e4, am_o2_s, if_pos (show nI 0 = 0 from rfl), k32, am_cl (by omega)]
        have t1 : am_w iv4 73 m (nI d) 54 32 = nI m := by rw [am_w_other _ _ _ (by decide)]; exact k32
        have t2 : am_w iv4 73 m (nI d) 54 31 = nI f := by rw [am_w_other _ _ _ (by decide)]; exact k31
        rw [t1, t2, am_cl (by omega), if_pos (vb hm (by decide)), if_pos (vb hm (by decide))]
        have t3 : am_w (am_w iv4 73 m (nI d)) 74 m (nI f) 54 32 = nI m := by rw [am_w_other _ _ _ (by decide)]; exact t1
        rw [t3, show nI m + (1 : Int32) = nI (m + 1) from nI_1 m]
        have t4 : am_w (am_w (am_w iv4 73 m (nI d)) 74 m (nI f)) 54 32 (nI (m + 1)) 54 29 = nI o := by simp [am_w_r, k29]
        rw [t4, am_shl1 d (by omega), fb_xorI]
        have t5 : am_w (am_w (am_w (am_w iv4 73 m (nI d)) 74 m (nI f)) 54 32 (nI (m + 1))) 54 29 (nI (o ^^^ 2 ^ d)) 54 31 = nI f := by simp [am_w_r, k31]
        have t6 : am_w (am_w (am_w (am_w iv4 73 m (nI d)) 74 m (nI f)) 54 32 (nI (m + 1))) 54 29 (nI (o ^^^ 2 ^ d)) 54 29 = nI (o ^^^ 2 ^ d) := by simp [am_w_r]
        rw [t5, t6]
        have t7 := P_feedBy hM5.2.2.1 hc (f := f) (show o ^^^ 2 ^ d < 1024 by omega)
        show am_o1 (F_X10_feedBy (nI f) (nI (o ^^^ 2 ^ d)) iv5) _ = _
        rw [t7, am_o1_s]
        rfl
      · have g5 : ∀ a j, iv5 a j = if a = 54 then (if j = 29 then nI (o ^^^ 2 ^ d) else if j = 32 then nI (m + 1) else if j = 3 then 0 else iv3 54 j) else if a = 74 then (if j = m then nI f else iv4 74 j) else if a = 73 then (if j = m then nI d else iv4 73 j) else iv4 a j := by
          intro a j
          show am_w (am_w (am_w (am_w iv4 73 m (nI d)) 74 m (nI f)) 54 32 (nI (m + 1))) 54 29 (nI (o ^^^ 2 ^ d)) a j = _
          simp only [am_w_r]
          by_cases h54 : a = 54
          · subst h54
            by_cases h29 : j = 29
            · simp [h29]
            · by_cases h32 : j = 32
              · simp [h32]
              · simp [h29, h32]
                rw [f4 54 j (by simp) (by simp), am_w_r]
                simp
          · by_cases h74 : a = 74
            · subst h74; simp
            · by_cases h73 : a = 73
              · subst h73; simp
              · simp [h54, h74, h73]
        have fb : am_fr [44, 45, 73, 74, 75, 76] [(42, 0), (42, 2), (42, 3), (54, 3), (54, 29), (54, 31), (54, 32)] iv2 (am_w iv5 54 31 (nI (f ||| cy_fed c (o ^^^ 2 ^ d)))) := by
          refine am_fr.f ?_ (by simp)
          refine am_fr.f (am_fr.f (am_fr.a (am_fr.a ?_ (by simp)) (by simp)) (by simp)) (by simp)
          exact ((f3.up (by simp) (by simp)).f (by simp)).tr (f4.up (by simp) (by simp))
        refine h2.sn (sn.of fb hw hp (fun a ha => by simp at ha; rcases ha with rfl | rfl | rfl | rfl | rfl | rfl <;> simp [sna] <;> omega) (fun q hq => by simp at hq; rcases hq with rfl | rfl | rfl | rfl | rfl | rfl | rfl <;> simp [snf, sna] <;> omega)) (w2.fa fb (fun a ha => by simp at ha; omega) (fun q hq => by simp at hq; rcases hq with rfl | rfl | rfl | rfl | rfl | rfl | rfl <;> simp <;> omega)) ?_
        have g4 : ∀ a j, a ≠ 75 → a ≠ 76 → a ≠ 54 → iv4 a j = iv3 a j := fun a j a1 a2 a3 => by rw [f4 a j (by simp; omega) (by simp), am_w_other _ _ _ a3]
        have v3 : ∀ a j, iv3 a j = if a = 42 then (if j = 2 then nI (f ||| cy_fed c (o ^^^ 2 ^ d)) else if j = 0 then nI (o ^^^ 2 ^ d) else if j = 3 then nI (m + 1) else iv 42 j) else if a = 45 then (if j = m then nI f else iv 45 j) else if a = 44 then (if j = m then nI d else iv 44 j) else iv2 a j := by
          intro a j
          rw [← hv3]
          simp only [am_w_r]
          by_cases h42 : a = 42
          · subst h42; simp [g2]
          · by_cases h45 : a = 45
            · subst h45; simp [g2]
            · by_cases h44 : a = 44
              · subst h44; simp [g2]
              · simp [h42, h45, h44]
        have G : ∀ a j, a ≠ 54 → a ≠ 75 → a ≠ 76 → a ≠ 73 → a ≠ 74 → am_w iv5 54 31 (nI (f ||| cy_fed c (o ^^^ 2 ^ d))) a j = iv3 a j := fun a j a1 a2 a3 a4 a5 => by
          rw [am_w_other _ _ _ a1, g5, if_neg a1, if_neg a5, if_neg a4]; exact g4 a j a2 a3 a1
        have G73 : ∀ j, am_w iv5 54 31 (nI (f ||| cy_fed c (o ^^^ 2 ^ d))) 73 j = if j = m then nI d else iv 73 j := fun j => by
          rw [am_w_other _ _ _ (by decide), g5, g4 73 j (by decide) (by decide) (by decide), g3 73 j (by decide)]; simp
        have G74 : ∀ j, am_w iv5 54 31 (nI (f ||| cy_fed c (o ^^^ 2 ^ d))) 74 j = if j = m then nI f else iv 74 j := fun j => by
          rw [am_w_other _ _ _ (by decide), g5, g4 74 j (by decide) (by decide) (by decide), g3 74 j (by decide)]; simp
        have G54 : ∀ j, am_w iv5 54 31 (nI (f ||| cy_fed c (o ^^^ 2 ^ d))) 54 j = if j = 31 then nI (f ||| cy_fed c (o ^^^ 2 ^ d)) else if j = 29 then nI (o ^^^ 2 ^ d) else if j = 32 then nI (m + 1) else if j = 3 then 0 else iv 54 j := fun j => by
          rw [am_w_r, if_pos rfl, g5, if_pos rfl, g3 54 j (by decide)]
        refine ⟨o ^^^ 2 ^ d, a, f ||| cy_fed c (o ^^^ 2 ^ d), m + 1, ⟨hod, b2, am_orlt b3 (cy_bits_lt _ _), by omega⟩, ⟨?_, ?_, ?_, ?_⟩, ⟨?_, ?_, ?_, ?_⟩, fun i hi => ?_, fun i hi => ?_, fun i hi => ?_, ?_, ?_⟩
        · rw [G _ _ (by decide) (by decide) (by decide) (by decide) (by decide), v3]; simp
        · rw [G _ _ (by decide) (by decide) (by decide) (by decide) (by decide), v3]; simp; exact s1
        · rw [G _ _ (by decide) (by decide) (by decide) (by decide) (by decide), v3]; simp
        · rw [G _ _ (by decide) (by decide) (by decide) (by decide) (by decide), v3]; simp
        · rw [G54]; simp
        · rw [G54]; simp; exact m1
        · rw [G54]; simp
        · rw [G54]; simp
        · rw [G _ i (by decide) (by decide) (by decide) (by decide) (by decide), G 72 i (by decide) (by decide) (by decide) (by decide) (by decide), v3, v3]
          simp [g2]; exact r1 i hi
        · rw [G _ i (by decide) (by decide) (by decide) (by decide) (by decide), G73, v3]
          by_cases hi2 : i = m
          · exact ⟨d, hd, by simp [hi2], by simp [hi2]⟩
          · obtain ⟨z, z1, z2, z3⟩ := r2 i (by omega)
            exact ⟨z, z1, by simp [hi2]; exact z2, by simp [hi2]; exact z3⟩
        · rw [G _ i (by decide) (by decide) (by decide) (by decide) (by decide), G74, v3]
          by_cases hi2 : i = m
          · exact ⟨f, b3, by simp [hi2], by simp [hi2]⟩
          · obtain ⟨z, z1, z2, z3⟩ := r3 i (by omega)
            exact ⟨z, z1, by simp [hi2]; exact z2, by simp [hi2]; exact z3⟩
        · rw [G _ _ (by decide) (by decide) (by decide) (by decide) (by decide), G 70 _ (by decide) (by decide) (by decide) (by decide) (by decide), v3, v3]
          simp [g2]; exact r4
        · rw [G _ _ (by decide) (by decide) (by decide) (by decide) (by decide), G 70 _ (by decide) (by decide) (by decide) (by decide) (by decide), v3, v3]
          simp [g2]; exact r5
    · have q29 : ∀ (k : Nat), k ≠ 3 → am_w (am_w iv1 42 5 (iv1 42 5 + 1)) 54 3 0 54 k = iv 54 k := fun k hk => by rw [am_code1 _ hk, am_w_other _ _ _ (by decide)]; exact g1 54 k (by decide)
      obtain ⟨iv3, e3⟩ := P_troubleOf (hM2 iv1 h1) (by rw [q29 29 (by decide)]; exact m0) (by rw [q29 30 (by decide)]; exact m1) (by rw [q29 32 (by decide)]; exact m3) b1 b2 b4 hd
      refine NO _ iv1 iv3 (by omega) ?_ e1 w1 e3
      unfold cy_tr
      split
      · omega
      · split
        · split
          · split <;> omega
          · omega
        · omega
end B55
