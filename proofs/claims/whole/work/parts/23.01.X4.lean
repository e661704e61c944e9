/-! what they leave (by program) -/
theorem x_X4_add {w : Nat} {i1 : Int32} {iv iv0 : am_I} (hf : am_fr [(w + 11), (w + 12), (w + 13)] [((w + 10), 0)] iv0 iv) {y : am_I} (e : F_X4_add w i1 iv = some y) : am_fr [(w + 11), (w + 12), (w + 13)] [((w + 10), 0)] iv0 y := by
  replace e := am_if e; rcases e with ⟨hbr, e⟩ | ⟨hbr, e⟩
  · obtain rfl := Option.some.inj e
    exact hf
  · replace e := am_ckv e; obtain ⟨c1, e⟩ := e
    replace e := am_ckv e; obtain ⟨c2, e⟩ := e
    replace e := am_ckv e; obtain ⟨c3, e⟩ := e
    obtain rfl := Option.some.inj e
    exact (am_fr.f (am_fr.a (am_fr.a (am_fr.a hf (by simp)) (by simp)) (by simp)) (by simp))
theorem X_X4_add {w : Nat} {i1 : Int32} {iv iv' : am_I} (e : F_X4_add w i1 iv = some iv') : am_fr [(w + 11), (w + 12), (w + 13)] [((w + 10), 0)] iv iv' := x_X4_add (am_fr.rf _ _ _) e
theorem x_X4_copyFrom {w : Nat} {v : Nat} {iv iv0 : am_I} (hf : am_fr [(w + 11), (w + 12), (w + 13)] [((w + 10), 0)] iv0 iv) {y : am_I} (e : F_X4_copyFrom w v  iv = some y) : am_fr [(w + 11), (w + 12), (w + 13)] [((w + 10), 0)] iv0 y := by
  obtain rfl := Option.some.inj e
  exact (am_fr.c (am_fr.c (am_fr.c (am_fr.f hf (by simp)) (by simp)) (by simp)) (by simp))
theorem X_X4_copyFrom {w : Nat} {v : Nat} {iv iv' : am_I} (e : F_X4_copyFrom w v  iv = some iv') : am_fr [(w + 11), (w + 12), (w + 13)] [((w + 10), 0)] iv iv' := x_X4_copyFrom (am_fr.rf _ _ _) e
