/-! what they leave (by program) -/
theorem x_X3_readRule {w : Nat} {t : Nat} {rr : Nat} {xr : Nat} {iv iv0 : am_I} (hf : am_fr [(w + 15), (w + 16)] [((w + 14), 0), ((w + 14), 1), (t, 2), (t, 3), (t, 4), (t, 5)] iv0 iv) {y : Int32 × am_I} (e : F_X3_readRule w t rr xr  iv = some y) : am_fr [(w + 15), (w + 16)] [((w + 14), 0), ((w + 14), 1), (t, 2), (t, 3), (t, 4), (t, 5)] iv0 y.2 := by
  replace e := am_if e; rcases e with ⟨hbr, e⟩ | ⟨hbr, e⟩
  · replace e := am_o1_i e; obtain ⟨w1, e1, e⟩ := e
    have f1 := am_fr.tr hf (am_fr.up (X_X8_advance e1) (by simp) (by simp))
    replace e := am_o2_i e; obtain ⟨v2, w2, e2, e⟩ := e
    have f2 := am_fr.tr f1 (am_fr.up (X_X3_readLevel e2) (by simp) (by simp))
    replace e := am_if e; rcases e with ⟨hbr, e⟩ | ⟨hbr, e⟩
    · obtain rfl := Option.some.inj e
      exact f2
    · replace e := am_o1_i e; obtain ⟨w3, e3, e⟩ := e
      have f3 := am_fr.tr f2 (am_fr.up (X_X5_endRule e3) (by simp) (by simp))
      obtain rfl := Option.some.inj e
      exact f3
  · replace e := am_o2_i e; obtain ⟨v4, w4, e4, e⟩ := e
    have f4 := am_fr.tr hf (am_fr.up (X_X8_refuse e4) (by simp) (by simp))
    replace e := am_ck e; obtain ⟨c5, e⟩ := e
    obtain rfl := Option.some.inj e
    exact f4
theorem X_X3_readRule {w : Nat} {t : Nat} {rr : Nat} {xr : Nat} {iv iv' : am_I} {v' : Int32} (e : F_X3_readRule w t rr xr  iv = some (v', iv')) : am_fr [(w + 15), (w + 16)] [((w + 14), 0), ((w + 14), 1), (t, 2), (t, 3), (t, 4), (t, 5)] iv iv' := x_X3_readRule (am_fr.rf _ _ _) e
