/-! what they leave (by program) -/
theorem x_X7_startAnew {u : Nat} {iv iv0 : am_I} (hf : am_fr [(u + 1)] [(u, 0), (u, 1), (u, 2), (u, 3)] iv0 iv) {y : am_I} (e : F_X7_startAnew u  iv = some y) : am_fr [(u + 1)] [(u, 0), (u, 1), (u, 2), (u, 3)] iv0 y := by
  obtain rfl := Option.some.inj e
  exact (am_fr.l (am_fr.f (am_fr.f (am_fr.f (am_fr.f hf (by simp)) (by simp)) (by simp)) (by simp)) (by simp))
theorem X_X7_startAnew {u : Nat} {iv iv' : am_I} (e : F_X7_startAnew u  iv = some iv') : am_fr [(u + 1)] [(u, 0), (u, 1), (u, 2), (u, 3)] iv iv' := x_X7_startAnew (am_fr.rf _ _ _) e
theorem x_X7_copyFrom {u : Nat} {q : Nat} {iv iv0 : am_I} (hf : am_fr [(u + 1), (u + 2), (u + 3)] [(u, 0), (u, 1), (u, 2), (u, 3), (u, 4), (u, 5)] iv0 iv) {y : am_I} (e : F_X7_copyFrom u q  iv = some y) : am_fr [(u + 1), (u + 2), (u + 3)] [(u, 0), (u, 1), (u, 2), (u, 3), (u, 4), (u, 5)] iv0 y := by
  obtain rfl := Option.some.inj e
  exact (am_fr.c (am_fr.c (am_fr.c (am_fr.f (am_fr.f (am_fr.f (am_fr.f (am_fr.f (am_fr.f hf (by simp)) (by simp)) (by simp)) (by simp)) (by simp)) (by simp)) (by simp)) (by simp)) (by simp))
theorem X_X7_copyFrom {u : Nat} {q : Nat} {iv iv' : am_I} (e : F_X7_copyFrom u q  iv = some iv') : am_fr [(u + 1), (u + 2), (u + 3)] [(u, 0), (u, 1), (u, 2), (u, 3), (u, 4), (u, 5)] iv iv' := x_X7_copyFrom (am_fr.rf _ _ _) e
theorem x_X7_doMove {u : Nat} {i1 i2 : Int32} {iv iv0 : am_I} (hf : am_fr [(u + 2), (u + 3)] [(u, 0), (u, 2), (u, 3)] iv0 iv) {y : am_I} (e : F_X7_doMove u i1 i2 iv = some y) : am_fr [(u + 2), (u + 3)] [(u, 0), (u, 2), (u, 3)] iv0 y := by
  replace e := am_if e; rcases e with ⟨hbr, e⟩ | ⟨hbr, e⟩
  · obtain rfl := Option.some.inj e
    exact hf
  · replace e := am_if e; rcases e with ⟨hbr, e⟩ | ⟨hbr, e⟩
    · replace e := am_ckv e; obtain ⟨c1, e⟩ := e
      replace e := am_ckv e; obtain ⟨c2, e⟩ := e
      obtain rfl := Option.some.inj e
      exact (am_fr.f (am_fr.f (am_fr.f (am_fr.a (am_fr.a hf (by simp)) (by simp)) (by simp)) (by simp)) (by simp))
    · obtain rfl := Option.some.inj e
      exact hf
theorem X_X7_doMove {u : Nat} {i1 i2 : Int32} {iv iv' : am_I} (e : F_X7_doMove u i1 i2 iv = some iv') : am_fr [(u + 2), (u + 3)] [(u, 0), (u, 2), (u, 3)] iv iv' := x_X7_doMove (am_fr.rf _ _ _) e
theorem x_X7_undoMove {u : Nat} {iv iv0 : am_I} (hf : am_fr [] [(u, 0), (u, 2), (u, 3)] iv0 iv) {y : Int32 × am_I} (e : F_X7_undoMove u  iv = some y) : am_fr [] [(u, 0), (u, 2), (u, 3)] iv0 y.2 := by
  replace e := am_if e; rcases e with ⟨hbr, e⟩ | ⟨hbr, e⟩
  · obtain rfl := Option.some.inj e
    exact hf
  · replace e := am_if e; rcases e with ⟨hbr, e⟩ | ⟨hbr, e⟩
    · replace e := am_ckv e; obtain ⟨c1, e⟩ := e
      replace e := am_ckv e; obtain ⟨c2, e⟩ := e
      obtain rfl := Option.some.inj e
      exact (am_fr.f (am_fr.f (am_fr.f hf (by simp)) (by simp)) (by simp))
    · obtain rfl := Option.some.inj e
      exact hf
theorem X_X7_undoMove {u : Nat} {iv iv' : am_I} {v' : Int32} (e : F_X7_undoMove u  iv = some (v', iv')) : am_fr [] [(u, 0), (u, 2), (u, 3)] iv iv' := x_X7_undoMove (am_fr.rf _ _ _) e
