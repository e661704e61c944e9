/-! what they leave (by program) -/
theorem x_X1_readSign {w : Nat} {t : Nat} {rr : Nat} {xr : Nat} {i1 : Int32} {iv iv0 : am_I} (hf : am_fr [] [(t, 2), (t, 3), (t, 4), (t, 5)] iv0 iv) {y : Int32 × am_I} (e : F_X1_readSign w t rr xr i1 iv = some y) : am_fr [] [(t, 2), (t, 3), (t, 4), (t, 5)] iv0 y.2 := by
  replace e := am_o1_i e; obtain ⟨v1, e1, e⟩ := e
  replace e := am_if e; rcases e with ⟨hbr, e⟩ | ⟨hbr, e⟩
  · replace e := am_o2_i e; obtain ⟨v3, w3, e3, e⟩ := e
    have f3 := am_fr.tr hf (am_fr.up (X_X8_refuse e3) (by simp) (by simp))
    replace e := am_ck e; obtain ⟨c4, e⟩ := e
    obtain rfl := Option.some.inj e
    exact f3
  · replace e := am_o1_i e; obtain ⟨w2, e2, e⟩ := e
    have f2 := am_fr.tr hf (am_fr.up (X_X8_advance e2) (by simp) (by simp))
    obtain rfl := Option.some.inj e
    exact f2
theorem X_X1_readSign {w : Nat} {t : Nat} {rr : Nat} {xr : Nat} {i1 : Int32} {iv iv' : am_I} {v' : Int32} (e : F_X1_readSign w t rr xr i1 iv = some (v', iv')) : am_fr [] [(t, 2), (t, 3), (t, 4), (t, 5)] iv iv' := x_X1_readSign (am_fr.rf _ _ _) e
theorem x_X1_seeNumber_65 {w : Nat} {t : Nat} {rr : Nat} {xr : Nat} {iv iv0 : am_I} (hf : am_fr [] [(rr, 6), (t, 5)] iv0 iv) {y : Int32 × am_I} (e : J_X1_seeNumber_65 w t rr xr  iv = some y) : am_fr [] [(rr, 6), (t, 5)] iv0 y.2 := by
  replace e := am_o2_i e; obtain ⟨v4, w4, e4, e⟩ := e
  have f4 := am_fr.tr hf (am_fr.up (X_X8_refuse e4) (by simp) (by simp))
  replace e := am_if e; rcases e with ⟨hbr, e⟩ | ⟨hbr, e⟩
  · obtain rfl := Option.some.inj e
    exact f4
  · obtain rfl := Option.some.inj e
    exact f4
theorem x_X1_seeNumber {w : Nat} {t : Nat} {rr : Nat} {xr : Nat} {i1 i2 : Int32} {iv iv0 : am_I} (hf : am_fr [] [(rr, 6), (t, 5)] iv0 iv) {y : Int32 × am_I} (e : F_X1_seeNumber w t rr xr i1 i2 iv = some y) : am_fr [] [(rr, 6), (t, 5)] iv0 y.2 := by
  replace e := am_o1_i e; obtain ⟨v1, e1, e⟩ := e
  replace e := am_if e; rcases e with ⟨hbr, e⟩ | ⟨hbr, e⟩
  · replace e := am_o2_i e; obtain ⟨v7, w7, e7, e⟩ := e
    have f7 := am_fr.tr hf (am_fr.up (X_X8_refuse e7) (by simp) (by simp))
    replace e := am_ck e; obtain ⟨c8, e⟩ := e
    obtain rfl := Option.some.inj e
    exact f7
  · replace e := am_o1_i e; obtain ⟨v2, e2, e⟩ := e
    replace e := am_if e; rcases e with ⟨hbr, e⟩ | ⟨hbr, e⟩
    · replace e := am_o1_i e; obtain ⟨v3, e3, e⟩ := e
      replace e := am_if e; rcases e with ⟨hbr, e⟩ | ⟨hbr, e⟩
      · exact x_X1_seeNumber_65 (am_fr.f hf (by simp)) e
      · replace e := am_if e; rcases e with ⟨hbr, e⟩ | ⟨hbr, e⟩
        · obtain rfl := Option.some.inj e
          exact (am_fr.f hf (by simp))
        · exact x_X1_seeNumber_65 (am_fr.f hf (by simp)) e
    · replace e := am_o2_i e; obtain ⟨v5, w5, e5, e⟩ := e
      have f5 := am_fr.tr hf (am_fr.up (X_X8_refuse e5) (by simp) (by simp))
      replace e := am_ck e; obtain ⟨c6, e⟩ := e
      obtain rfl := Option.some.inj e
      exact f5
theorem X_X1_seeNumber {w : Nat} {t : Nat} {rr : Nat} {xr : Nat} {i1 i2 : Int32} {iv iv' : am_I} {v' : Int32} (e : F_X1_seeNumber w t rr xr i1 i2 iv = some (v', iv')) : am_fr [] [(rr, 6), (t, 5)] iv iv' := x_X1_seeNumber (am_fr.rf _ _ _) e
theorem x_X1_readNumber {w : Nat} {t : Nat} {rr : Nat} {xr : Nat} {i1 i2 : Int32} {iv iv0 : am_I} (hf : am_fr [] [(rr, 6), (t, 2), (t, 3), (t, 4), (t, 5)] iv0 iv) {y : Int32 × am_I} (e : F_X1_readNumber w t rr xr i1 i2 iv = some y) : am_fr [] [(rr, 6), (t, 2), (t, 3), (t, 4), (t, 5)] iv0 y.2 := by
  replace e := am_o2_i e; obtain ⟨v1, w1, e1, e⟩ := e
  have f1 := am_fr.tr hf (am_fr.up (X_X1_seeNumber e1) (by simp) (by simp))
  replace e := am_if e; rcases e with ⟨hbr, e⟩ | ⟨hbr, e⟩
  · obtain rfl := Option.some.inj e
    exact f1
  · replace e := am_o1_i e; obtain ⟨w2, e2, e⟩ := e
    have f2 := am_fr.tr f1 (am_fr.up (X_X8_advance e2) (by simp) (by simp))
    obtain rfl := Option.some.inj e
    exact f2
theorem X_X1_readNumber {w : Nat} {t : Nat} {rr : Nat} {xr : Nat} {i1 i2 : Int32} {iv iv' : am_I} {v' : Int32} (e : F_X1_readNumber w t rr xr i1 i2 iv = some (v', iv')) : am_fr [] [(rr, 6), (t, 2), (t, 3), (t, 4), (t, 5)] iv iv' := x_X1_readNumber (am_fr.rf _ _ _) e
theorem x_X1_readWall {w : Nat} {t : Nat} {rr : Nat} {xr : Nat} {iv iv0 : am_I} (hf : am_fr [] [(rr, 6), (t, 2), (t, 3), (t, 4), (t, 5), (w, 0), (w, 1)] iv0 iv) {y : Int32 × am_I} (e : F_X1_readWall w t rr xr  iv = some y) : am_fr [] [(rr, 6), (t, 2), (t, 3), (t, 4), (t, 5), (w, 0), (w, 1)] iv0 y.2 := by
  replace e := am_o1_i e; obtain ⟨w1, e1, e⟩ := e
  have f1 := am_fr.tr hf (am_fr.up (X_X8_advance e1) (by simp) (by simp))
  replace e := am_o2_i e; obtain ⟨v2, w2, e2, e⟩ := e
  have f2 := am_fr.tr f1 (am_fr.up (X_X1_readNumber e2) (by simp) (by simp))
  replace e := am_if e; rcases e with ⟨hbr, e⟩ | ⟨hbr, e⟩
  · obtain rfl := Option.some.inj e
    exact f2
  · replace e := am_o2_i e; obtain ⟨v3, w3, e3, e⟩ := e
    have f3 := am_fr.tr (am_fr.f f2 (by simp)) (am_fr.up (X_X1_readNumber e3) (by simp) (by simp))
    replace e := am_if e; rcases e with ⟨hbr, e⟩ | ⟨hbr, e⟩
    · obtain rfl := Option.some.inj e
      exact f3
    · obtain rfl := Option.some.inj e
      exact (am_fr.f f3 (by simp))
theorem X_X1_readWall {w : Nat} {t : Nat} {rr : Nat} {xr : Nat} {iv iv' : am_I} {v' : Int32} (e : F_X1_readWall w t rr xr  iv = some (v', iv')) : am_fr [] [(rr, 6), (t, 2), (t, 3), (t, 4), (t, 5), (w, 0), (w, 1)] iv iv' := x_X1_readWall (am_fr.rf _ _ _) e
theorem x_X1_readReach {w : Nat} {t : Nat} {rr : Nat} {xr : Nat} {iv iv0 : am_I} (hf : am_fr [] [(rr, 3), (rr, 6), (t, 2), (t, 3), (t, 4), (t, 5), (w, 2)] iv0 iv) {y : Int32 × am_I} (e : F_X1_readReach w t rr xr  iv = some y) : am_fr [] [(rr, 3), (rr, 6), (t, 2), (t, 3), (t, 4), (t, 5), (w, 2)] iv0 y.2 := by
  replace e := am_o1_i e; obtain ⟨w1, e1, e⟩ := e
  have f1 := am_fr.tr hf (am_fr.up (X_X8_advance e1) (by simp) (by simp))
  replace e := am_o2_i e; obtain ⟨v2, w2, e2, e⟩ := e
  have f2 := am_fr.tr f1 (am_fr.up (X_X1_readNumber e2) (by simp) (by simp))
  replace e := am_if e; rcases e with ⟨hbr, e⟩ | ⟨hbr, e⟩
  · obtain rfl := Option.some.inj e
    exact f2
  · obtain rfl := Option.some.inj e
    exact (am_fr.f (am_fr.f f2 (by simp)) (by simp))
theorem X_X1_readReach {w : Nat} {t : Nat} {rr : Nat} {xr : Nat} {iv iv' : am_I} {v' : Int32} (e : F_X1_readReach w t rr xr  iv = some (v', iv')) : am_fr [] [(rr, 3), (rr, 6), (t, 2), (t, 3), (t, 4), (t, 5), (w, 2)] iv iv' := x_X1_readReach (am_fr.rf _ _ _) e
theorem x_X1_readRent {w : Nat} {t : Nat} {rr : Nat} {xr : Nat} {iv iv0 : am_I} (hf : am_fr [] [(rr, 4), (rr, 6), (t, 2), (t, 3), (t, 4), (t, 5), (w, 3), (w, 4), (w, 5)] iv0 iv) {y : Int32 × am_I} (e : F_X1_readRent w t rr xr  iv = some y) : am_fr [] [(rr, 4), (rr, 6), (t, 2), (t, 3), (t, 4), (t, 5), (w, 3), (w, 4), (w, 5)] iv0 y.2 := by
  replace e := am_o1_i e; obtain ⟨w1, e1, e⟩ := e
  have f1 := am_fr.tr hf (am_fr.up (X_X8_advance e1) (by simp) (by simp))
  replace e := am_o2_i e; obtain ⟨v2, w2, e2, e⟩ := e
  have f2 := am_fr.tr f1 (am_fr.up (X_X1_readNumber e2) (by simp) (by simp))
  replace e := am_if e; rcases e with ⟨hbr, e⟩ | ⟨hbr, e⟩
  · obtain rfl := Option.some.inj e
    exact f2
  · replace e := am_o2_i e; obtain ⟨v3, w3, e3, e⟩ := e
    have f3 := am_fr.tr (am_fr.f f2 (by simp)) (am_fr.up (X_X1_readNumber e3) (by simp) (by simp))
    replace e := am_if e; rcases e with ⟨hbr, e⟩ | ⟨hbr, e⟩
    · obtain rfl := Option.some.inj e
      exact f3
    · replace e := am_o2_i e; obtain ⟨v4, w4, e4, e⟩ := e
      have f4 := am_fr.tr (am_fr.f f3 (by simp)) (am_fr.up (X_X1_readNumber e4) (by simp) (by simp))
      replace e := am_if e; rcases e with ⟨hbr, e⟩ | ⟨hbr, e⟩
      · obtain rfl := Option.some.inj e
        exact f4
      · obtain rfl := Option.some.inj e
        exact (am_fr.f (am_fr.f f4 (by simp)) (by simp))
theorem X_X1_readRent {w : Nat} {t : Nat} {rr : Nat} {xr : Nat} {iv iv' : am_I} {v' : Int32} (e : F_X1_readRent w t rr xr  iv = some (v', iv')) : am_fr [] [(rr, 4), (rr, 6), (t, 2), (t, 3), (t, 4), (t, 5), (w, 3), (w, 4), (w, 5)] iv iv' := x_X1_readRent (am_fr.rf _ _ _) e
theorem x_X1_readWind {w : Nat} {t : Nat} {rr : Nat} {xr : Nat} {iv iv0 : am_I} (hf : am_fr [] [(rr, 5), (rr, 6), (t, 2), (t, 3), (t, 4), (t, 5), (w, 6)] iv0 iv) {y : Int32 × am_I} (e : F_X1_readWind w t rr xr  iv = some y) : am_fr [] [(rr, 5), (rr, 6), (t, 2), (t, 3), (t, 4), (t, 5), (w, 6)] iv0 y.2 := by
  replace e := am_o1_i e; obtain ⟨w1, e1, e⟩ := e
  have f1 := am_fr.tr hf (am_fr.up (X_X8_advance e1) (by simp) (by simp))
  replace e := am_o2_i e; obtain ⟨v2, w2, e2, e⟩ := e
  have f2 := am_fr.tr f1 (am_fr.up (X_X1_readNumber e2) (by simp) (by simp))
  replace e := am_if e; rcases e with ⟨hbr, e⟩ | ⟨hbr, e⟩
  · obtain rfl := Option.some.inj e
    exact f2
  · obtain rfl := Option.some.inj e
    exact (am_fr.f (am_fr.f f2 (by simp)) (by simp))
theorem X_X1_readWind {w : Nat} {t : Nat} {rr : Nat} {xr : Nat} {iv iv' : am_I} {v' : Int32} (e : F_X1_readWind w t rr xr  iv = some (v', iv')) : am_fr [] [(rr, 5), (rr, 6), (t, 2), (t, 3), (t, 4), (t, 5), (w, 6)] iv iv' := x_X1_readWind (am_fr.rf _ _ _) e
theorem x_X1_readWide {w : Nat} {t : Nat} {rr : Nat} {xr : Nat} {i1 : Int32} {iv iv0 : am_I} (hf : am_fr [(w + 4)] [(t, 2), (t, 3), (t, 4), (t, 5)] iv0 iv) {y : Int32 × am_I} (e : F_X1_readWide w t rr xr i1 iv = some y) : am_fr [(w + 4)] [(t, 2), (t, 3), (t, 4), (t, 5)] iv0 y.2 := by
  replace e := am_ckv e; obtain ⟨c1, e⟩ := e
  replace e := am_if e; rcases e with ⟨hbr, e⟩ | ⟨hbr, e⟩
  · replace e := am_ckv e; obtain ⟨c2, e⟩ := e
    replace e := am_o1_i e; obtain ⟨v3, e3, e⟩ := e
    replace e := am_if e; rcases e with ⟨hbr, e⟩ | ⟨hbr, e⟩
    · replace e := am_ckv e; obtain ⟨c4, e⟩ := e
      replace e := am_o1_i e; obtain ⟨w5, e5, e⟩ := e
      have f5 := am_fr.tr (am_fr.a hf (by simp)) (am_fr.up (X_X8_advance e5) (by simp) (by simp))
      obtain rfl := Option.some.inj e
      exact f5
    · replace e := am_o2_i e; obtain ⟨v6, w6, e6, e⟩ := e
      have f6 := am_fr.tr hf (am_fr.up (X_X8_refuse e6) (by simp) (by simp))
      replace e := am_ck e; obtain ⟨c7, e⟩ := e
      obtain rfl := Option.some.inj e
      exact f6
  · replace e := am_o2_i e; obtain ⟨v8, w8, e8, e⟩ := e
    have f8 := am_fr.tr hf (am_fr.up (X_X8_refuse e8) (by simp) (by simp))
    replace e := am_ck e; obtain ⟨c9, e⟩ := e
    obtain rfl := Option.some.inj e
    exact f8
theorem X_X1_readWide {w : Nat} {t : Nat} {rr : Nat} {xr : Nat} {i1 : Int32} {iv iv' : am_I} {v' : Int32} (e : F_X1_readWide w t rr xr i1 iv = some (v', iv')) : am_fr [(w + 4)] [(t, 2), (t, 3), (t, 4), (t, 5)] iv iv' := x_X1_readWide (am_fr.rf _ _ _) e
theorem x_X1_readDrawer {w : Nat} {t : Nat} {rr : Nat} {xr : Nat} {i1 : Int32} {iv iv0 : am_I} (hf : am_fr [(w + 2), (w + 3), (w + 4), (w + 5), (w + 6)] [((w + 1), 0), (rr, 6), (t, 2), (t, 3), (t, 4), (t, 5)] iv0 iv) {y : Int32 × am_I} (e : F_X1_readDrawer w t rr xr i1 iv = some y) : am_fr [(w + 2), (w + 3), (w + 4), (w + 5), (w + 6)] [((w + 1), 0), (rr, 6), (t, 2), (t, 3), (t, 4), (t, 5)] iv0 y.2 := by
  replace e := am_if e; rcases e with ⟨hbr, e⟩ | ⟨hbr, e⟩
  · replace e := am_o1_i e; obtain ⟨w1, e1, e⟩ := e
    have f1 := am_fr.tr hf (am_fr.up (X_X8_advance e1) (by simp) (by simp))
    replace e := am_o2_i e; obtain ⟨v2, w2, e2, e⟩ := e
    have f2 := am_fr.tr f1 (am_fr.up (X_X1_readNumber e2) (by simp) (by simp))
    replace e := am_if e; rcases e with ⟨hbr, e⟩ | ⟨hbr, e⟩
    · obtain rfl := Option.some.inj e
      exact f2
    · replace e := am_o2_i e; obtain ⟨v3, w3, e3, e⟩ := e
      have f3 := am_fr.tr f2 (am_fr.up (X_X1_seeNumber e3) (by simp) (by simp))
      replace e := am_if e; rcases e with ⟨hbr, e⟩ | ⟨hbr, e⟩
      · obtain rfl := Option.some.inj e
        exact f3
      · replace e := am_o1_i e; obtain ⟨v4, e4, e⟩ := e
        replace e := am_if e; rcases e with ⟨hbr, e⟩ | ⟨hbr, e⟩
        · replace e := am_o1_i e; obtain ⟨w5, e5, e⟩ := e
          have f5 := am_fr.tr f3 (am_fr.up (X_X8_advance e5) (by simp) (by simp))
          replace e := am_o2_i e; obtain ⟨v6, w6, e6, e⟩ := e
          have f6 := am_fr.tr f5 (am_fr.up (X_X1_readNumber e6) (by simp) (by simp))
          replace e := am_if e; rcases e with ⟨hbr, e⟩ | ⟨hbr, e⟩
          · obtain rfl := Option.some.inj e
            exact f6
          · replace e := am_o1_i e; obtain ⟨w7, e7, e⟩ := e
            have f7 := am_fr.tr f6 (am_fr.up (X_X2_add e7) (by simp) (by simp))
            replace e := am_o1_i e; obtain ⟨v8, e8, e⟩ := e
            replace e := am_if e; rcases e with ⟨hbr, e⟩ | ⟨hbr, e⟩
            · obtain rfl := Option.some.inj e
              exact f7
            · replace e := am_o2_i e; obtain ⟨v9, w9, e9, e⟩ := e
              have f9 := am_fr.tr f7 (am_fr.up (X_X1_readWide e9) (by simp) (by simp))
              replace e := am_if e; rcases e with ⟨hbr, e⟩ | ⟨hbr, e⟩
              · obtain rfl := Option.some.inj e
                exact f9
              · obtain rfl := Option.some.inj e
                exact f9
        · replace e := am_o2_i e; obtain ⟨v10, w10, e10, e⟩ := e
          have f10 := am_fr.tr f3 (am_fr.up (X_X8_refuse e10) (by simp) (by simp))
          replace e := am_ck e; obtain ⟨c11, e⟩ := e
          obtain rfl := Option.some.inj e
          exact f10
  · replace e := am_o2_i e; obtain ⟨v12, w12, e12, e⟩ := e
    have f12 := am_fr.tr hf (am_fr.up (X_X8_refuse e12) (by simp) (by simp))
    replace e := am_ck e; obtain ⟨c13, e⟩ := e
    obtain rfl := Option.some.inj e
    exact f12
theorem X_X1_readDrawer {w : Nat} {t : Nat} {rr : Nat} {xr : Nat} {i1 : Int32} {iv iv' : am_I} {v' : Int32} (e : F_X1_readDrawer w t rr xr i1 iv = some (v', iv')) : am_fr [(w + 2), (w + 3), (w + 4), (w + 5), (w + 6)] [((w + 1), 0), (rr, 6), (t, 2), (t, 3), (t, 4), (t, 5)] iv iv' := x_X1_readDrawer (am_fr.rf _ _ _) e
theorem x_X1_readDrawerOf {w : Nat} {t : Nat} {rr : Nat} {xr : Nat} {i1 : Int32} {iv iv0 : am_I} (hf : am_fr [] [(rr, 6), (t, 2), (t, 3), (t, 4), (t, 5)] iv0 iv) {y : Int32 × am_I} (e : F_X1_readDrawerOf w t rr xr i1 iv = some y) : am_fr [] [(rr, 6), (t, 2), (t, 3), (t, 4), (t, 5)] iv0 y.2 := by
  replace e := am_o2_i e; obtain ⟨v1, w1, e1, e⟩ := e
  have f1 := am_fr.tr hf (am_fr.up (X_X1_seeNumber e1) (by simp) (by simp))
  replace e := am_if e; rcases e with ⟨hbr, e⟩ | ⟨hbr, e⟩
  · obtain rfl := Option.some.inj e
    exact f1
  · replace e := am_if e; rcases e with ⟨hbr, e⟩ | ⟨hbr, e⟩
    · replace e := am_ckv e; obtain ⟨c2, e⟩ := e
      replace e := am_if e; rcases e with ⟨hbr, e⟩ | ⟨hbr, e⟩
      · replace e := am_o1_i e; obtain ⟨w3, e3, e⟩ := e
        have f3 := am_fr.tr f1 (am_fr.up (X_X8_advance e3) (by simp) (by simp))
        obtain rfl := Option.some.inj e
        exact f3
      · replace e := am_o2_i e; obtain ⟨v4, w4, e4, e⟩ := e
        have f4 := am_fr.tr f1 (am_fr.up (X_X8_refuse e4) (by simp) (by simp))
        replace e := am_ck e; obtain ⟨c5, e⟩ := e
        obtain rfl := Option.some.inj e
        exact f4
    · replace e := am_o2_i e; obtain ⟨v6, w6, e6, e⟩ := e
      have f6 := am_fr.tr f1 (am_fr.up (X_X8_refuse e6) (by simp) (by simp))
      replace e := am_ck e; obtain ⟨c7, e⟩ := e
      obtain rfl := Option.some.inj e
      exact f6
theorem X_X1_readDrawerOf {w : Nat} {t : Nat} {rr : Nat} {xr : Nat} {i1 : Int32} {iv iv' : am_I} {v' : Int32} (e : F_X1_readDrawerOf w t rr xr i1 iv = some (v', iv')) : am_fr [] [(rr, 6), (t, 2), (t, 3), (t, 4), (t, 5)] iv iv' := x_X1_readDrawerOf (am_fr.rf _ _ _) e
theorem x_X1_readPerson_101 {w : Nat} {t : Nat} {rr : Nat} {xr : Nat} {i1 : Int32} {iv iv0 : am_I} (hf : am_fr [(w + 11), (w + 12), (w + 13)] [((w + 10), 0), (rr, 6), (t, 2), (t, 3), (t, 4), (t, 5)] iv0 iv) {y : Int32 × am_I} (e : J_X1_readPerson_101 w t rr xr i1 iv = some y) : am_fr [(w + 11), (w + 12), (w + 13)] [((w + 10), 0), (rr, 6), (t, 2), (t, 3), (t, 4), (t, 5)] iv0 y.2 := by
  replace e := am_o1_i e; obtain ⟨v5, e5, e⟩ := e
  replace e := am_if e; rcases e with ⟨hbr, e⟩ | ⟨hbr, e⟩
  · obtain rfl := Option.some.inj e
    exact hf
  · replace e := am_o1_i e; obtain ⟨w6, e6, e⟩ := e
    have f6 := am_fr.tr hf (am_fr.up (X_X8_advance e6) (by simp) (by simp))
    replace e := am_o2_i e; obtain ⟨v7, w7, e7, e⟩ := e
    have f7 := am_fr.tr f6 (am_fr.up (X_X1_readNumber e7) (by simp) (by simp))
    replace e := am_if e; rcases e with ⟨hbr, e⟩ | ⟨hbr, e⟩
    · obtain rfl := Option.some.inj e
      exact f7
    · replace e := am_ckv e; obtain ⟨c8, e⟩ := e
      obtain rfl := Option.some.inj e
      exact (am_fr.a f7 (by simp))
theorem x_X1_readPerson {w : Nat} {t : Nat} {rr : Nat} {xr : Nat} {iv iv0 : am_I} (hf : am_fr [(w + 11), (w + 12), (w + 13)] [((w + 10), 0), (rr, 6), (t, 2), (t, 3), (t, 4), (t, 5)] iv0 iv) {y : Int32 × am_I} (e : F_X1_readPerson w t rr xr  iv = some y) : am_fr [(w + 11), (w + 12), (w + 13)] [((w + 10), 0), (rr, 6), (t, 2), (t, 3), (t, 4), (t, 5)] iv0 y.2 := by
  replace e := am_if e; rcases e with ⟨hbr, e⟩ | ⟨hbr, e⟩
  · replace e := am_o1_i e; obtain ⟨w1, e1, e⟩ := e
    have f1 := am_fr.tr hf (am_fr.up (X_X8_advance e1) (by simp) (by simp))
    replace e := am_o2_i e; obtain ⟨v2, w2, e2, e⟩ := e
    have f2 := am_fr.tr f1 (am_fr.up (X_X1_readDrawerOf e2) (by simp) (by simp))
    replace e := am_if e; rcases e with ⟨hbr, e⟩ | ⟨hbr, e⟩
    · obtain rfl := Option.some.inj e
      exact f2
    · replace e := am_o1_i e; obtain ⟨w3, e3, e⟩ := e
      have f3 := am_fr.tr f2 (am_fr.up (X_X4_add e3) (by simp) (by simp))
      replace e := am_o1_i e; obtain ⟨v4, e4, e⟩ := e
      replace e := am_if e; rcases e with ⟨hbr, e⟩ | ⟨hbr, e⟩
      · exact x_X1_readPerson_101 f3 e
      · replace e := am_o1_i e; obtain ⟨w9, e9, e⟩ := e
        have f9 := am_fr.tr f3 (am_fr.up (X_X8_advance e9) (by simp) (by simp))
        replace e := am_o2_i e; obtain ⟨v10, w10, e10, e⟩ := e
        have f10 := am_fr.tr f9 (am_fr.up (X_X1_readDrawerOf e10) (by simp) (by simp))
        replace e := am_if e; rcases e with ⟨hbr, e⟩ | ⟨hbr, e⟩
        · obtain rfl := Option.some.inj e
          exact f10
        · replace e := am_ckv e; obtain ⟨c11, e⟩ := e
          exact x_X1_readPerson_101 (am_fr.a f10 (by simp)) e
  · replace e := am_o2_i e; obtain ⟨v12, w12, e12, e⟩ := e
    have f12 := am_fr.tr hf (am_fr.up (X_X8_refuse e12) (by simp) (by simp))
    replace e := am_ck e; obtain ⟨c13, e⟩ := e
    obtain rfl := Option.some.inj e
    exact f12
theorem X_X1_readPerson {w : Nat} {t : Nat} {rr : Nat} {xr : Nat} {iv iv' : am_I} {v' : Int32} (e : F_X1_readPerson w t rr xr  iv = some (v', iv')) : am_fr [(w + 11), (w + 12), (w + 13)] [((w + 10), 0), (rr, 6), (t, 2), (t, 3), (t, 4), (t, 5)] iv iv' := x_X1_readPerson (am_fr.rf _ _ _) e
theorem x_X1_readLine {w : Nat} {t : Nat} {rr : Nat} {xr : Nat} {i1 : Int32} {iv iv0 : am_I} (hf : am_fr [(w + 11), (w + 12), (w + 13), (w + 15), (w + 16), (w + 2), (w + 3), (w + 4), (w + 5), (w + 6)] [((w + 1), 0), ((w + 10), 0), ((w + 14), 0), ((w + 14), 1), (rr, 3), (rr, 4), (rr, 5), (rr, 6), (t, 2), (t, 3), (t, 4), (t, 5), (w, 0), (w, 1), (w, 2), (w, 3), (w, 4), (w, 5), (w, 6)] iv0 iv) {y : Int32 × am_I} (e : F_X1_readLine w t rr xr i1 iv = some y) : am_fr [(w + 11), (w + 12), (w + 13), (w + 15), (w + 16), (w + 2), (w + 3), (w + 4), (w + 5), (w + 6)] [((w + 1), 0), ((w + 10), 0), ((w + 14), 0), ((w + 14), 1), (rr, 3), (rr, 4), (rr, 5), (rr, 6), (t, 2), (t, 3), (t, 4), (t, 5), (w, 0), (w, 1), (w, 2), (w, 3), (w, 4), (w, 5), (w, 6)] iv0 y.2 := by
  replace e := am_o1_i e; obtain ⟨v1, e1, e⟩ := e
  replace e := am_if e; rcases e with ⟨hbr, e⟩ | ⟨hbr, e⟩
  · replace e := am_o1_i e; obtain ⟨v2, e2, e⟩ := e
    replace e := am_if e; rcases e with ⟨hbr, e⟩ | ⟨hbr, e⟩
    · replace e := am_o1_i e; obtain ⟨v3, e3, e⟩ := e
      replace e := am_if e; rcases e with ⟨hbr, e⟩ | ⟨hbr, e⟩
      · replace e := am_o1_i e; obtain ⟨v4, e4, e⟩ := e
        replace e := am_if e; rcases e with ⟨hbr, e⟩ | ⟨hbr, e⟩
        · replace e := am_o1_i e; obtain ⟨v5, e5, e⟩ := e
          replace e := am_if e; rcases e with ⟨hbr, e⟩ | ⟨hbr, e⟩
          · replace e := am_o1_i e; obtain ⟨v6, e6, e⟩ := e
            replace e := am_if e; rcases e with ⟨hbr, e⟩ | ⟨hbr, e⟩
            · replace e := am_o1_i e; obtain ⟨v7, e7, e⟩ := e
              replace e := am_if e; rcases e with ⟨hbr, e⟩ | ⟨hbr, e⟩
              · replace e := am_o2_i e; obtain ⟨v8, w8, e8, e⟩ := e
                have f8 := am_fr.tr hf (am_fr.up (X_X8_refuse e8) (by simp) (by simp))
                replace e := am_ck e; obtain ⟨c9, e⟩ := e
                obtain rfl := Option.some.inj e
                exact f8
              · replace e := am_if e; rcases e with ⟨hbr, e⟩ | ⟨hbr, e⟩
                · replace e := am_o2_i e; obtain ⟨v10, w10, e10, e⟩ := e
                  have f10 := am_fr.tr hf (am_fr.up (X_X1_readWind e10) (by simp) (by simp))
                  replace e := am_ck e; obtain ⟨c11, e⟩ := e
                  obtain rfl := Option.some.inj e
                  exact f10
                · replace e := am_o2_i e; obtain ⟨v12, w12, e12, e⟩ := e
                  have f12 := am_fr.tr hf (am_fr.up (X_X8_refuse e12) (by simp) (by simp))
                  replace e := am_ck e; obtain ⟨c13, e⟩ := e
                  obtain rfl := Option.some.inj e
                  exact f12
            · replace e := am_if e; rcases e with ⟨hbr, e⟩ | ⟨hbr, e⟩
              · replace e := am_o2_i e; obtain ⟨v14, w14, e14, e⟩ := e
                have f14 := am_fr.tr hf (am_fr.up (X_X1_readRent e14) (by simp) (by simp))
                replace e := am_ck e; obtain ⟨c15, e⟩ := e
                obtain rfl := Option.some.inj e
                exact f14
              · replace e := am_o2_i e; obtain ⟨v16, w16, e16, e⟩ := e
                have f16 := am_fr.tr hf (am_fr.up (X_X8_refuse e16) (by simp) (by simp))
                replace e := am_ck e; obtain ⟨c17, e⟩ := e
                obtain rfl := Option.some.inj e
                exact f16
          · replace e := am_if e; rcases e with ⟨hbr, e⟩ | ⟨hbr, e⟩
            · replace e := am_o2_i e; obtain ⟨v18, w18, e18, e⟩ := e
              have f18 := am_fr.tr hf (am_fr.up (X_X1_readReach e18) (by simp) (by simp))
              replace e := am_ck e; obtain ⟨c19, e⟩ := e
              obtain rfl := Option.some.inj e
              exact f18
            · replace e := am_o2_i e; obtain ⟨v20, w20, e20, e⟩ := e
              have f20 := am_fr.tr hf (am_fr.up (X_X8_refuse e20) (by simp) (by simp))
              replace e := am_ck e; obtain ⟨c21, e⟩ := e
              obtain rfl := Option.some.inj e
              exact f20
        · replace e := am_if e; rcases e with ⟨hbr, e⟩ | ⟨hbr, e⟩
          · replace e := am_o2_i e; obtain ⟨v22, w22, e22, e⟩ := e
            have f22 := am_fr.tr hf (am_fr.up (X_X8_refuse e22) (by simp) (by simp))
            replace e := am_ck e; obtain ⟨c23, e⟩ := e
            obtain rfl := Option.some.inj e
            exact f22
          · replace e := am_o2_i e; obtain ⟨v24, w24, e24, e⟩ := e
            have f24 := am_fr.tr hf (am_fr.up (X_X1_readWall e24) (by simp) (by simp))
            replace e := am_ck e; obtain ⟨c25, e⟩ := e
            obtain rfl := Option.some.inj e
            exact f24
      · replace e := am_o2_i e; obtain ⟨v26, w26, e26, e⟩ := e
        have f26 := am_fr.tr hf (am_fr.up (X_X3_readRule e26) (by simp) (by simp))
        replace e := am_ck e; obtain ⟨c27, e⟩ := e
        obtain rfl := Option.some.inj e
        exact f26
    · replace e := am_o2_i e; obtain ⟨v28, w28, e28, e⟩ := e
      have f28 := am_fr.tr hf (am_fr.up (X_X1_readPerson e28) (by simp) (by simp))
      replace e := am_ck e; obtain ⟨c29, e⟩ := e
      obtain rfl := Option.some.inj e
      exact f28
  · replace e := am_o2_i e; obtain ⟨v30, w30, e30, e⟩ := e
    have f30 := am_fr.tr hf (am_fr.up (X_X1_readDrawer e30) (by simp) (by simp))
    replace e := am_ck e; obtain ⟨c31, e⟩ := e
    obtain rfl := Option.some.inj e
    exact f30
theorem X_X1_readLine {w : Nat} {t : Nat} {rr : Nat} {xr : Nat} {i1 : Int32} {iv iv' : am_I} {v' : Int32} (e : F_X1_readLine w t rr xr i1 iv = some (v', iv')) : am_fr [(w + 11), (w + 12), (w + 13), (w + 15), (w + 16), (w + 2), (w + 3), (w + 4), (w + 5), (w + 6)] [((w + 1), 0), ((w + 10), 0), ((w + 14), 0), ((w + 14), 1), (rr, 3), (rr, 4), (rr, 5), (rr, 6), (t, 2), (t, 3), (t, 4), (t, 5), (w, 0), (w, 1), (w, 2), (w, 3), (w, 4), (w, 5), (w, 6)] iv iv' := x_X1_readLine (am_fr.rf _ _ _) e
theorem x_X1_readCity_43 {w : Nat} {t : Nat} {rr : Nat} {xr : Nat} {i1 k1 : Int32} {iv iv0 : am_I} (hf : am_fr [(w + 11), (w + 12), (w + 13), (w + 15), (w + 16), (w + 19), (w + 2), (w + 3), (w + 4), (w + 5), (w + 6), (w + 7), (w + 8), (w + 9)] [((w + 1), 0), ((w + 1), 10), ((w + 1), 9), ((w + 10), 0), ((w + 14), 0), ((w + 14), 1), (rr, 3), (rr, 4), (rr, 5), (rr, 6), (t, 2), (t, 3), (t, 4), (t, 5), (w, 0), (w, 1), (w, 2), (w, 3), (w, 4), (w, 5), (w, 6)] iv0 iv) {y : (Int32 × am_I) ⊕ ((am_I) ⊕ (Int32 × am_I))} (e : J_X1_readCity_43 w t rr xr i1 k1 iv = some y) : Sum.elim (fun s : (Int32 × am_I) => am_fr [(w + 11), (w + 12), (w + 13), (w + 15), (w + 16), (w + 19), (w + 2), (w + 3), (w + 4), (w + 5), (w + 6), (w + 7), (w + 8), (w + 9)] [((w + 1), 0), ((w + 1), 10), ((w + 1), 9), ((w + 10), 0), ((w + 14), 0), ((w + 14), 1), (rr, 3), (rr, 4), (rr, 5), (rr, 6), (t, 2), (t, 3), (t, 4), (t, 5), (w, 0), (w, 1), (w, 2), (w, 3), (w, 4), (w, 5), (w, 6)] iv0 s.2) (Sum.elim (fun a : (am_I) => am_fr [(w + 11), (w + 12), (w + 13), (w + 15), (w + 16), (w + 19), (w + 2), (w + 3), (w + 4), (w + 5), (w + 6), (w + 7), (w + 8), (w + 9)] [((w + 1), 0), ((w + 1), 10), ((w + 1), 9), ((w + 10), 0), ((w + 14), 0), ((w + 14), 1), (rr, 3), (rr, 4), (rr, 5), (rr, 6), (t, 2), (t, 3), (t, 4), (t, 5), (w, 0), (w, 1), (w, 2), (w, 3), (w, 4), (w, 5), (w, 6)] iv0 a) (fun r : (Int32 × am_I) => am_fr [(w + 11), (w + 12), (w + 13), (w + 15), (w + 16), (w + 19), (w + 2), (w + 3), (w + 4), (w + 5), (w + 6), (w + 7), (w + 8), (w + 9)] [((w + 1), 0), ((w + 1), 10), ((w + 1), 9), ((w + 10), 0), ((w + 14), 0), ((w + 14), 1), (rr, 3), (rr, 4), (rr, 5), (rr, 6), (t, 2), (t, 3), (t, 4), (t, 5), (w, 0), (w, 1), (w, 2), (w, 3), (w, 4), (w, 5), (w, 6)] iv0 r.2)) y := by
  replace e := am_o2_i e; obtain ⟨v4, w4, e4, e⟩ := e
  have f4 := am_fr.tr hf (am_fr.up (X_X1_readLine e4) (by simp) (by simp))
  replace e := am_if e; rcases e with ⟨hbr, e⟩ | ⟨hbr, e⟩
  · obtain rfl := Option.some.inj e
    exact f4
  · replace e := am_o2_i e; obtain ⟨v5, w5, e5, e⟩ := e
    have f5 := am_fr.tr f4 (am_fr.up (X_X1_readSign e5) (by simp) (by simp))
    replace e := am_if e; rcases e with ⟨hbr, e⟩ | ⟨hbr, e⟩
    · obtain rfl := Option.some.inj e
      exact f5
    · obtain rfl := Option.some.inj e
      exact f5
theorem xb_X1_readCity_16 {w : Nat} {t : Nat} {rr : Nat} {xr : Nat} {i1 : Int32} {iv iv0 : am_I} (hf : am_fr [(w + 11), (w + 12), (w + 13), (w + 15), (w + 16), (w + 19), (w + 2), (w + 3), (w + 4), (w + 5), (w + 6), (w + 7), (w + 8), (w + 9)] [((w + 1), 0), ((w + 1), 10), ((w + 1), 9), ((w + 10), 0), ((w + 14), 0), ((w + 14), 1), (rr, 3), (rr, 4), (rr, 5), (rr, 6), (t, 2), (t, 3), (t, 4), (t, 5), (w, 0), (w, 1), (w, 2), (w, 3), (w, 4), (w, 5), (w, 6)] iv0 iv) {y : (Int32 × am_I) ⊕ ((am_I) ⊕ (Int32 × am_I))} (e : B_X1_readCity_16 w t rr xr i1 iv = some y) : Sum.elim (fun s : (Int32 × am_I) => am_fr [(w + 11), (w + 12), (w + 13), (w + 15), (w + 16), (w + 19), (w + 2), (w + 3), (w + 4), (w + 5), (w + 6), (w + 7), (w + 8), (w + 9)] [((w + 1), 0), ((w + 1), 10), ((w + 1), 9), ((w + 10), 0), ((w + 14), 0), ((w + 14), 1), (rr, 3), (rr, 4), (rr, 5), (rr, 6), (t, 2), (t, 3), (t, 4), (t, 5), (w, 0), (w, 1), (w, 2), (w, 3), (w, 4), (w, 5), (w, 6)] iv0 s.2) (Sum.elim (fun a : (am_I) => am_fr [(w + 11), (w + 12), (w + 13), (w + 15), (w + 16), (w + 19), (w + 2), (w + 3), (w + 4), (w + 5), (w + 6), (w + 7), (w + 8), (w + 9)] [((w + 1), 0), ((w + 1), 10), ((w + 1), 9), ((w + 10), 0), ((w + 14), 0), ((w + 14), 1), (rr, 3), (rr, 4), (rr, 5), (rr, 6), (t, 2), (t, 3), (t, 4), (t, 5), (w, 0), (w, 1), (w, 2), (w, 3), (w, 4), (w, 5), (w, 6)] iv0 a) (fun r : (Int32 × am_I) => am_fr [(w + 11), (w + 12), (w + 13), (w + 15), (w + 16), (w + 19), (w + 2), (w + 3), (w + 4), (w + 5), (w + 6), (w + 7), (w + 8), (w + 9)] [((w + 1), 0), ((w + 1), 10), ((w + 1), 9), ((w + 10), 0), ((w + 14), 0), ((w + 14), 1), (rr, 3), (rr, 4), (rr, 5), (rr, 6), (t, 2), (t, 3), (t, 4), (t, 5), (w, 0), (w, 1), (w, 2), (w, 3), (w, 4), (w, 5), (w, 6)] iv0 r.2)) y := by
  replace e := am_if e; rcases e with ⟨hbr, e⟩ | ⟨hbr, e⟩
  · obtain rfl := Option.some.inj e
    exact hf
  · replace e := am_o1_i e; obtain ⟨v3, e3, e⟩ := e
    replace e := am_if e; rcases e with ⟨hbr, e⟩ | ⟨hbr, e⟩
    · replace e := am_if e; rcases e with ⟨hbr, e⟩ | ⟨hbr, e⟩
      · exact x_X1_readCity_43 hf e
      · exact x_X1_readCity_43 hf e
    · obtain rfl := Option.some.inj e
      exact hf
theorem xl_X1_readCity_16 {w : Nat} {t : Nat} {rr : Nat} {xr : Nat} {iv0 : am_I} (s : (Int32 × am_I)) (hf : am_fr [(w + 11), (w + 12), (w + 13), (w + 15), (w + 16), (w + 19), (w + 2), (w + 3), (w + 4), (w + 5), (w + 6), (w + 7), (w + 8), (w + 9)] [((w + 1), 0), ((w + 1), 10), ((w + 1), 9), ((w + 10), 0), ((w + 14), 0), ((w + 14), 1), (rr, 3), (rr, 4), (rr, 5), (rr, 6), (t, 2), (t, 3), (t, 4), (t, 5), (w, 0), (w, 1), (w, 2), (w, 3), (w, 4), (w, 5), (w, 6)] iv0 s.2) {x : ((am_I) ⊕ (Int32 × am_I))} (e : am_loop (fun s : (Int32 × am_I) => B_X1_readCity_16 w t rr xr s.1 s.2) s = some x) : (Sum.elim (fun a : (am_I) => am_fr [(w + 11), (w + 12), (w + 13), (w + 15), (w + 16), (w + 19), (w + 2), (w + 3), (w + 4), (w + 5), (w + 6), (w + 7), (w + 8), (w + 9)] [((w + 1), 0), ((w + 1), 10), ((w + 1), 9), ((w + 10), 0), ((w + 14), 0), ((w + 14), 1), (rr, 3), (rr, 4), (rr, 5), (rr, 6), (t, 2), (t, 3), (t, 4), (t, 5), (w, 0), (w, 1), (w, 2), (w, 3), (w, 4), (w, 5), (w, 6)] iv0 a) (fun r : (Int32 × am_I) => am_fr [(w + 11), (w + 12), (w + 13), (w + 15), (w + 16), (w + 19), (w + 2), (w + 3), (w + 4), (w + 5), (w + 6), (w + 7), (w + 8), (w + 9)] [((w + 1), 0), ((w + 1), 10), ((w + 1), 9), ((w + 10), 0), ((w + 14), 0), ((w + 14), 1), (rr, 3), (rr, 4), (rr, 5), (rr, 6), (t, 2), (t, 3), (t, 4), (t, 5), (w, 0), (w, 1), (w, 2), (w, 3), (w, 4), (w, 5), (w, 6)] iv0 r.2)) x :=
  am_wh_fr (f := fun s : (Int32 × am_I) => B_X1_readCity_16 w t rr xr s.1 s.2) (P := fun s => am_fr [(w + 11), (w + 12), (w + 13), (w + 15), (w + 16), (w + 19), (w + 2), (w + 3), (w + 4), (w + 5), (w + 6), (w + 7), (w + 8), (w + 9)] [((w + 1), 0), ((w + 1), 10), ((w + 1), 9), ((w + 10), 0), ((w + 14), 0), ((w + 14), 1), (rr, 3), (rr, 4), (rr, 5), (rr, 6), (t, 2), (t, 3), (t, 4), (t, 5), (w, 0), (w, 1), (w, 2), (w, 3), (w, 4), (w, 5), (w, 6)] iv0 s.2) (K := Sum.elim (fun a : (am_I) => am_fr [(w + 11), (w + 12), (w + 13), (w + 15), (w + 16), (w + 19), (w + 2), (w + 3), (w + 4), (w + 5), (w + 6), (w + 7), (w + 8), (w + 9)] [((w + 1), 0), ((w + 1), 10), ((w + 1), 9), ((w + 10), 0), ((w + 14), 0), ((w + 14), 1), (rr, 3), (rr, 4), (rr, 5), (rr, 6), (t, 2), (t, 3), (t, 4), (t, 5), (w, 0), (w, 1), (w, 2), (w, 3), (w, 4), (w, 5), (w, 6)] iv0 a) (fun r : (Int32 × am_I) => am_fr [(w + 11), (w + 12), (w + 13), (w + 15), (w + 16), (w + 19), (w + 2), (w + 3), (w + 4), (w + 5), (w + 6), (w + 7), (w + 8), (w + 9)] [((w + 1), 0), ((w + 1), 10), ((w + 1), 9), ((w + 10), 0), ((w + 14), 0), ((w + 14), 1), (rr, 3), (rr, 4), (rr, 5), (rr, 6), (t, 2), (t, 3), (t, 4), (t, 5), (w, 0), (w, 1), (w, 2), (w, 3), (w, 4), (w, 5), (w, 6)] iv0 r.2)) (fun s y hf e => xb_X1_readCity_16 hf e) am_fu s x hf e
theorem x_X1_readCity_66 {w : Nat} {t : Nat} {rr : Nat} {xr : Nat} {iv iv0 : am_I} (hf : am_fr [(w + 11), (w + 12), (w + 13), (w + 15), (w + 16), (w + 19), (w + 2), (w + 3), (w + 4), (w + 5), (w + 6), (w + 7), (w + 8), (w + 9)] [((w + 1), 0), ((w + 1), 10), ((w + 1), 9), ((w + 10), 0), ((w + 14), 0), ((w + 14), 1), (rr, 3), (rr, 4), (rr, 5), (rr, 6), (t, 2), (t, 3), (t, 4), (t, 5), (w, 0), (w, 1), (w, 2), (w, 3), (w, 4), (w, 5), (w, 6)] iv0 iv) {y : Int32 × am_I} (e : J_X1_readCity_66 w t rr xr  iv = some y) : am_fr [(w + 11), (w + 12), (w + 13), (w + 15), (w + 16), (w + 19), (w + 2), (w + 3), (w + 4), (w + 5), (w + 6), (w + 7), (w + 8), (w + 9)] [((w + 1), 0), ((w + 1), 10), ((w + 1), 9), ((w + 10), 0), ((w + 14), 0), ((w + 14), 1), (rr, 3), (rr, 4), (rr, 5), (rr, 6), (t, 2), (t, 3), (t, 4), (t, 5), (w, 0), (w, 1), (w, 2), (w, 3), (w, 4), (w, 5), (w, 6)] iv0 y.2 := by
  replace e := am_o1_i e; obtain ⟨w7, e7, e⟩ := e
  have f7 := am_fr.tr hf (am_fr.up (X_X0_settle e7) (by simp) (by simp))
  obtain rfl := Option.some.inj e
  exact f7
theorem x_X1_readCity {w : Nat} {t : Nat} {rr : Nat} {xr : Nat} {iv iv0 : am_I} (hf : am_fr [(w + 11), (w + 12), (w + 13), (w + 15), (w + 16), (w + 19), (w + 2), (w + 3), (w + 4), (w + 5), (w + 6), (w + 7), (w + 8), (w + 9)] [((w + 1), 0), ((w + 1), 10), ((w + 1), 9), ((w + 10), 0), ((w + 14), 0), ((w + 14), 1), (rr, 3), (rr, 4), (rr, 5), (rr, 6), (t, 2), (t, 3), (t, 4), (t, 5), (w, 0), (w, 1), (w, 2), (w, 3), (w, 4), (w, 5), (w, 6)] iv0 iv) {y : Int32 × am_I} (e : F_X1_readCity w t rr xr  iv = some y) : am_fr [(w + 11), (w + 12), (w + 13), (w + 15), (w + 16), (w + 19), (w + 2), (w + 3), (w + 4), (w + 5), (w + 6), (w + 7), (w + 8), (w + 9)] [((w + 1), 0), ((w + 1), 10), ((w + 1), 9), ((w + 10), 0), ((w + 14), 0), ((w + 14), 1), (rr, 3), (rr, 4), (rr, 5), (rr, 6), (t, 2), (t, 3), (t, 4), (t, 5), (w, 0), (w, 1), (w, 2), (w, 3), (w, 4), (w, 5), (w, 6)] iv0 y.2 := by
  replace e := am_o1_i e; obtain ⟨w1, e1, e⟩ := e
  have f1 := am_fr.tr hf (am_fr.up (X_X0_clear e1) (by simp) (by simp))
  replace e := am_o1_i e; obtain ⟨w2, e2, e⟩ := e
  have f2 := am_fr.tr f1 (am_fr.up (X_X8_advance e2) (by simp) (by simp))
  replace e := am_lp_i e; rcases e with ⟨a6, e6, e⟩ | ⟨r6, e6, e⟩
  · have f6 := xl_X1_readCity_16 _ f2 e6
    exact x_X1_readCity_66 f6 e
  · have f6 := xl_X1_readCity_16 _ f2 e6
    obtain rfl := Option.some.inj e
    exact f6
theorem X_X1_readCity {w : Nat} {t : Nat} {rr : Nat} {xr : Nat} {iv iv' : am_I} {v' : Int32} (e : F_X1_readCity w t rr xr  iv = some (v', iv')) : am_fr [(w + 11), (w + 12), (w + 13), (w + 15), (w + 16), (w + 19), (w + 2), (w + 3), (w + 4), (w + 5), (w + 6), (w + 7), (w + 8), (w + 9)] [((w + 1), 0), ((w + 1), 10), ((w + 1), 9), ((w + 10), 0), ((w + 14), 0), ((w + 14), 1), (rr, 3), (rr, 4), (rr, 5), (rr, 6), (t, 2), (t, 3), (t, 4), (t, 5), (w, 0), (w, 1), (w, 2), (w, 3), (w, 4), (w, 5), (w, 6)] iv iv' := x_X1_readCity (am_fr.rf _ _ _) e
