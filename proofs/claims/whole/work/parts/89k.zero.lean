/-! a text that is read keeps the start of the first rule -/
def Hz (w : Nat) (x y : am_I) : Prop := (∃ r, r ≤ 4 ∧ x (w + 14) 0 = nI r) → (∃ r, r ≤ 4 ∧ y (w + 14) 0 = nI r) ∧ y (w + 15) 0 = x (w + 15) 0
theorem Hz.rf {w : Nat} (x : am_I) : Hz w x x := fun h => ⟨h, rfl⟩
theorem Hz.tr {w : Nat} {x y z : am_I} (h1 : Hz w x y) (h2 : Hz w y z) : Hz w x z := fun h => by
  obtain ⟨a1, a2⟩ := h1 h
  obtain ⟨b1, b2⟩ := h2 a1
  exact ⟨b1, b2.trans a2⟩
theorem Hz.st {w : Nat} {x y z : am_I} {A : List Nat} {L : List (Nat × Nat)} (h1 : Hz w x y) (h2 : am_fr A L y z) (h3 : (w + 14) ∉ A ∧ (w + 15) ∉ A) (h4 : (w + 14, 0) ∉ L ∧ (w + 15, 0) ∉ L) : Hz w x z := h1.tr fun h => ⟨by rw [h2 _ 0 h3.1 h4.1]; exact h, h2 _ 0 h3.2 h4.2⟩
theorem HZ_X5_endRule {w : Nat} {x y : am_I} (e : F_X5_endRule w x = some y) : Hz w x y := by
  intro h
  obtain ⟨r, hr, e0⟩ := h
  unfold F_X5_endRule at e
  by_cases hb : (4 : Int32) ≤ x (w + 14) 0
  · rw [if_pos hb] at e
    obtain rfl := Option.some.inj e
    exact ⟨⟨r, hr, e0⟩, rfl⟩
  · rw [if_neg hb] at e
    rw [e0, show (4 : Int32) = nI 4 from rfl, nI_leI (by omega) (by omega)] at hb
    rw [e0, show nI r + (1 : Int32) = nI (r + 1) from nI_1 r] at e
    have e1 : am_w x (w + 14) 0 (nI (r + 1)) (w + 14) 0 = nI (r + 1) := by rw [am_w_r, if_pos rfl, if_pos rfl]
    rw [e1, if_pos (vb (show r + 1 < 5 by omega) (by decide)), am_cl (by omega)] at e
    obtain rfl := Option.some.inj e
    refine ⟨⟨r + 1, by omega, ?_⟩, ?_⟩
    · rw [am_w_other _ _ _ (by omega)]; exact e1
    · rw [am_w_r, if_pos rfl, if_neg (by omega), am_w_other _ _ _ (by omega)]
theorem hz_X3_readRule {w : Nat} {t : Nat} {rr : Nat} {xr : Nat} {iv iv0 : am_I} (hf : Hz w iv0 iv) {y : Int32 × am_I} (e : F_X3_readRule w t rr xr  iv = some y) : Hz w iv0 y.2 := by
  replace e := am_if e; rcases e with ⟨hbr, e⟩ | ⟨hbr, e⟩
  · replace e := am_o1_i e; obtain ⟨w1, e1, e⟩ := e
    have f1 := Hz.st hf (X_X8_advance e1) (by simp) (by simp)
    replace e := am_o2_i e; obtain ⟨v2, w2, e2, e⟩ := e
    have f2 := Hz.st f1 (X_X3_readLevel e2) (by simp) (by simp)
    replace e := am_if e; rcases e with ⟨hbr, e⟩ | ⟨hbr, e⟩
    · obtain rfl := Option.some.inj e
      exact f2
    · replace e := am_o1_i e; obtain ⟨w3, e3, e⟩ := e
      have f3 := Hz.tr f2 (HZ_X5_endRule e3)
      obtain rfl := Option.some.inj e
      exact f3
  · replace e := am_o2_i e; obtain ⟨v4, w4, e4, e⟩ := e
    have f4 := Hz.st hf (X_X8_refuse e4) (by simp) (by simp)
    replace e := am_ck e; obtain ⟨c5, e⟩ := e
    obtain rfl := Option.some.inj e
    exact f4
theorem HZ_X3_readRule {w : Nat} {t : Nat} {rr : Nat} {xr : Nat} {iv iv' : am_I} {v' : Int32} (e : F_X3_readRule w t rr xr  iv = some (v', iv')) : Hz w iv iv' := hz_X3_readRule (Hz.rf _) e
theorem hz_X1_readLine {w : Nat} {t : Nat} {rr : Nat} {xr : Nat} {i1 : Int32} {iv iv0 : am_I} (hf : Hz w iv0 iv) {y : Int32 × am_I} (e : F_X1_readLine w t rr xr i1 iv = some y) : Hz w iv0 y.2 := by
  replace e := am_o1_i e; obtain ⟨v1, e1, e⟩ := e
  replace e := am_if e; rcases e with ⟨hbr, e⟩ | ⟨hbr, e⟩
  · replace e := am_o1_i e; obtain ⟨v2, e2, e⟩ := e
    replace e := am_if e; rcases e with ⟨hbr, e⟩ | ⟨hbr, e⟩
    · replace e := am_o1_i e; obtain ⟨v3, e3, e⟩ := e
      replace e := am_if e; rcases e with ⟨hbr, e⟩ | ⟨hbr, e⟩
      · replace e := am_o1_i e; obtain ⟨v4, e4, e⟩ := e
        replace e := am_if e; rcases e with ⟨hbr, e⟩ | ⟨hbr, e⟩
        · replace e := am_o1_i e; obtain ⟨v5, e5, e⟩ := e
          replace e := am_if e; rcases e with ⟨hbr, e⟩ | ⟨hbr, e⟩
          · replace e := am_o1_i e; obtain ⟨v6, e6, e⟩ := e
            replace e := am_if e; rcases e with ⟨hbr, e⟩ | ⟨hbr, e⟩
            · replace e := am_o1_i e; obtain ⟨v7, e7, e⟩ := e
              replace e := am_if e; rcases e with ⟨hbr, e⟩ | ⟨hbr, e⟩
              · replace e := am_o2_i e; obtain ⟨v8, w8, e8, e⟩ := e
                have f8 := Hz.st hf (X_X8_refuse e8) (by simp) (by simp)
                replace e := am_ck e; obtain ⟨c9, e⟩ := e
                obtain rfl := Option.some.inj e
                exact f8
              · replace e := am_if e; rcases e with ⟨hbr, e⟩ | ⟨hbr, e⟩
                · replace e := am_o2_i e; obtain ⟨v10, w10, e10, e⟩ := e
                  have f10 := Hz.st hf (X_X1_readWind e10) (by simp) (by simp)
                  replace e := am_ck e; obtain ⟨c11, e⟩ := e
                  obtain rfl := Option.some.inj e
                  exact f10
                · replace e := am_o2_i e; obtain ⟨v12, w12, e12, e⟩ := e
                  have f12 := Hz.st hf (X_X8_refuse e12) (by simp) (by simp)
                  replace e := am_ck e; obtain ⟨c13, e⟩ := e
                  obtain rfl := Option.some.inj e
                  exact f12
            · replace e := am_if e; rcases e with ⟨hbr, e⟩ | ⟨hbr, e⟩
              · replace e := am_o2_i e; obtain ⟨v14, w14, e14, e⟩ := e
                have f14 := Hz.st hf (X_X1_readRent e14) (by simp) (by simp)
                replace e := am_ck e; obtain ⟨c15, e⟩ := e
                obtain rfl := Option.some.inj e
                exact f14
              · replace e := am_o2_i e; obtain ⟨v16, w16, e16, e⟩ := e
                have f16 := Hz.st hf (X_X8_refuse e16) (by simp) (by simp)
                replace e := am_ck e; obtain ⟨c17, e⟩ := e
                obtain rfl := Option.some.inj e
                exact f16
          · replace e := am_if e; rcases e with ⟨hbr, e⟩ | ⟨hbr, e⟩
            · replace e := am_o2_i e; obtain ⟨v18, w18, e18, e⟩ := e
              have f18 := Hz.st hf (X_X1_readReach e18) (by simp) (by simp)
              replace e := am_ck e; obtain ⟨c19, e⟩ := e
              obtain rfl := Option.some.inj e
              exact f18
            · replace e := am_o2_i e; obtain ⟨v20, w20, e20, e⟩ := e
              have f20 := Hz.st hf (X_X8_refuse e20) (by simp) (by simp)
              replace e := am_ck e; obtain ⟨c21, e⟩ := e
              obtain rfl := Option.some.inj e
              exact f20
        · replace e := am_if e; rcases e with ⟨hbr, e⟩ | ⟨hbr, e⟩
          · replace e := am_o2_i e; obtain ⟨v22, w22, e22, e⟩ := e
            have f22 := Hz.st hf (X_X8_refuse e22) (by simp) (by simp)
            replace e := am_ck e; obtain ⟨c23, e⟩ := e
            obtain rfl := Option.some.inj e
            exact f22
          · replace e := am_o2_i e; obtain ⟨v24, w24, e24, e⟩ := e
            have f24 := Hz.st hf (X_X1_readWall e24) (by simp) (by simp)
            replace e := am_ck e; obtain ⟨c25, e⟩ := e
            obtain rfl := Option.some.inj e
            exact f24
      · replace e := am_o2_i e; obtain ⟨v26, w26, e26, e⟩ := e
        have f26 := Hz.tr hf (HZ_X3_readRule e26)
        replace e := am_ck e; obtain ⟨c27, e⟩ := e
        obtain rfl := Option.some.inj e
        exact f26
    · replace e := am_o2_i e; obtain ⟨v28, w28, e28, e⟩ := e
      have f28 := Hz.st hf (X_X1_readPerson e28) (by simp) (by simp)
      replace e := am_ck e; obtain ⟨c29, e⟩ := e
      obtain rfl := Option.some.inj e
      exact f28
  · replace e := am_o2_i e; obtain ⟨v30, w30, e30, e⟩ := e
    have f30 := Hz.st hf (X_X1_readDrawer e30) (by simp) (by simp)
    replace e := am_ck e; obtain ⟨c31, e⟩ := e
    obtain rfl := Option.some.inj e
    exact f30
theorem HZ_X1_readLine {w : Nat} {t : Nat} {rr : Nat} {xr : Nat} {i1 : Int32} {iv iv' : am_I} {v' : Int32} (e : F_X1_readLine w t rr xr i1 iv = some (v', iv')) : Hz w iv iv' := hz_X1_readLine (Hz.rf _) e
theorem hz_X1_readCity_43 {w : Nat} {t : Nat} {rr : Nat} {xr : Nat} {i1 k1 : Int32} {iv iv0 : am_I} (hf : Hz w iv0 iv) {y : (Int32 × am_I) ⊕ ((am_I) ⊕ (Int32 × am_I))} (e : J_X1_readCity_43 w t rr xr i1 k1 iv = some y) : Sum.elim (fun s : (Int32 × am_I) => Hz w iv0 s.2) (Sum.elim (fun a : (am_I) => Hz w iv0 a) (fun r : (Int32 × am_I) => Hz w iv0 r.2)) y := by
  replace e := am_o2_i e; obtain ⟨v4, w4, e4, e⟩ := e
  have f4 := Hz.tr hf (HZ_X1_readLine e4)
  replace e := am_if e; rcases e with ⟨hbr, e⟩ | ⟨hbr, e⟩
  · obtain rfl := Option.some.inj e
    exact f4
  · replace e := am_o2_i e; obtain ⟨v5, w5, e5, e⟩ := e
    have f5 := Hz.st f4 (X_X1_readSign e5) (by simp) (by simp)
    replace e := am_if e; rcases e with ⟨hbr, e⟩ | ⟨hbr, e⟩
    · obtain rfl := Option.some.inj e
      exact f5
    · obtain rfl := Option.some.inj e
      exact f5
theorem hzb_X1_readCity_16 {w : Nat} {t : Nat} {rr : Nat} {xr : Nat} {i1 : Int32} {iv iv0 : am_I} (hf : Hz w iv0 iv) {y : (Int32 × am_I) ⊕ ((am_I) ⊕ (Int32 × am_I))} (e : B_X1_readCity_16 w t rr xr i1 iv = some y) : Sum.elim (fun s : (Int32 × am_I) => Hz w iv0 s.2) (Sum.elim (fun a : (am_I) => Hz w iv0 a) (fun r : (Int32 × am_I) => Hz w iv0 r.2)) y := by
  replace e := am_if e; rcases e with ⟨hbr, e⟩ | ⟨hbr, e⟩
  · obtain rfl := Option.some.inj e
    exact hf
  · replace e := am_o1_i e; obtain ⟨v3, e3, e⟩ := e
    replace e := am_if e; rcases e with ⟨hbr, e⟩ | ⟨hbr, e⟩
    · replace e := am_if e; rcases e with ⟨hbr, e⟩ | ⟨hbr, e⟩
      · exact hz_X1_readCity_43 hf e
      · exact hz_X1_readCity_43 hf e
    · obtain rfl := Option.some.inj e
      exact hf
theorem hzl_X1_readCity_16 {w : Nat} {t : Nat} {rr : Nat} {xr : Nat} {iv0 : am_I} (s : (Int32 × am_I)) (hf : Hz w iv0 s.2) {x : ((am_I) ⊕ (Int32 × am_I))} (e : am_loop (fun s : (Int32 × am_I) => B_X1_readCity_16 w t rr xr s.1 s.2) s = some x) : (Sum.elim (fun a : (am_I) => Hz w iv0 a) (fun r : (Int32 × am_I) => Hz w iv0 r.2)) x :=
  am_wh_fr (f := fun s : (Int32 × am_I) => B_X1_readCity_16 w t rr xr s.1 s.2) (P := fun s => Hz w iv0 s.2) (K := Sum.elim (fun a : (am_I) => Hz w iv0 a) (fun r : (Int32 × am_I) => Hz w iv0 r.2)) (fun s y hf e => hzb_X1_readCity_16 hf e) am_fu s x hf e
theorem Z_readCity {w t rr xr : Nat} {iv iv' : am_I} {v' : Int32} (e : F_X1_readCity w t rr xr iv = some (v', iv')) : iv' (w + 15) 0 = iv (w + 15) 0 := by
  replace e := am_o1_i e; obtain ⟨w1, e1, e⟩ := e
  have c15 : w1 (w + 15) 0 = iv (w + 15) 0 := X_X0_clear e1 (w + 15) 0 (by simp) (by simp)
  have c14 : w1 (w + 14) 0 = nI 0 := by
    have k := K_clear (w := w) (iv := iv)
    rw [k] at e1
    obtain rfl := Option.some.inj e1
    rw [am_w_r, if_pos rfl, if_neg (by decide), am_w_r, if_pos rfl, if_pos rfl]; rfl
  replace e := am_o1_i e; obtain ⟨w2, e2, e⟩ := e
  have f2 : Hz w w1 w2 := Hz.st (Hz.rf _) (X_X8_advance e2) (by simp) (by simp)
  replace e := am_lp_i e; rcases e with ⟨a6, e6, e⟩ | ⟨r6, e6, e⟩
  · have f6 := hzl_X1_readCity_16 _ f2 e6
    replace e := am_o1_i e; obtain ⟨w7, e7, e⟩ := e
    have f7 : Hz w w1 w7 := Hz.st f6 (X_X0_settle e7) (by simp) (by simp)
    obtain rfl := (Prod.mk.inj (Option.some.inj e)).2
    exact ((f7 ⟨0, by omega, c14⟩).2).trans c15
  · have f6 := hzl_X1_readCity_16 _ f2 e6
    obtain rfl := Option.some.inj e
    exact ((f6 ⟨0, by omega, c14⟩).2).trans c15
