/-! what they leave (by program) -/
theorem x_X8_advance_136 {t : Nat} {i1 : Int32} {iv iv0 : am_I} (hf : am_fr [] [(t, 2), (t, 3), (t, 4)] iv0 iv) {y : am_I} (e : J_X8_advance_136 t i1 iv = some y) : am_fr [] [(t, 2), (t, 3), (t, 4)] iv0 y := by
  obtain rfl := Option.some.inj e
  exact (am_fr.f hf (by simp))
theorem x_X8_advance_89 {t : Nat} {k0 : Int32} {iv iv0 : am_I} (hf : am_fr [] [(t, 2), (t, 3), (t, 4)] iv0 iv) {y : am_I} (e : J_X8_advance_89 t k0 iv = some y) : am_fr [] [(t, 2), (t, 3), (t, 4)] iv0 y := by
  replace e := am_o1_i e; obtain ⟨a6, e6, e⟩ := e
  exact x_X8_advance_136 hf e
theorem x_X8_advance_68 {t : Nat} {i1 k1 : Int32} {iv iv0 : am_I} (hf : am_fr [] [(t, 2), (t, 3), (t, 4)] iv0 iv) {y : am_I} (e : J_X8_advance_68 t i1 k1 iv = some y) : am_fr [] [(t, 2), (t, 3), (t, 4)] iv0 y := by
  replace e := am_if e; rcases e with ⟨hbr, e⟩ | ⟨hbr, e⟩
  · exact x_X8_advance_89 (am_fr.f hf (by simp)) e
  · exact x_X8_advance_89 (am_fr.f hf (by simp)) e
theorem x_X8_advance_41 {t : Nat} {i1 : Int32} {iv iv0 : am_I} (hf : am_fr [] [(t, 2), (t, 3), (t, 4)] iv0 iv) {y : am_I} (e : J_X8_advance_41 t i1 iv = some y) : am_fr [] [(t, 2), (t, 3), (t, 4)] iv0 y := by
  replace e := am_if e; rcases e with ⟨hbr, e⟩ | ⟨hbr, e⟩
  · exact x_X8_advance_68 (am_fr.f hf (by simp)) e
  · replace e := am_ckv e; obtain ⟨c7, e⟩ := e
    replace e := am_o1_i e; obtain ⟨v8, e8, e⟩ := e
    exact x_X8_advance_68 (am_fr.f hf (by simp)) e
theorem x_X8_advance {t : Nat} {iv iv0 : am_I} (hf : am_fr [] [(t, 2), (t, 3), (t, 4)] iv0 iv) {y : am_I} (e : F_X8_advance t  iv = some y) : am_fr [] [(t, 2), (t, 3), (t, 4)] iv0 y := by
  replace e := am_o1_i e; obtain ⟨a3, e3, e⟩ := e
  exact x_X8_advance_41 hf e
theorem X_X8_advance {t : Nat} {iv iv' : am_I} (e : F_X8_advance t  iv = some iv') : am_fr [] [(t, 2), (t, 3), (t, 4)] iv iv' := x_X8_advance (am_fr.rf _ _ _) e
theorem x_X8_refuse {t : Nat} {i1 : Int32} {iv iv0 : am_I} (hf : am_fr [] [(t, 5)] iv0 iv) {y : Int32 × am_I} (e : F_X8_refuse t i1 iv = some y) : am_fr [] [(t, 5)] iv0 y.2 := by
  obtain rfl := Option.some.inj e
  exact (am_fr.f hf (by simp))
theorem X_X8_refuse {t : Nat} {i1 : Int32} {iv iv' : am_I} {v' : Int32} (e : F_X8_refuse t i1 iv = some (v', iv')) : am_fr [] [(t, 5)] iv iv' := x_X8_refuse (am_fr.rf _ _ _) e
