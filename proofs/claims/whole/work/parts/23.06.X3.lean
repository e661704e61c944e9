/-! what they leave (by program) -/
theorem x_X3_readParenthesis_66 {w : Nat} {t : Nat} {rr : Nat} {xr : Nat} {rc : Int32 → Int32 → am_I → Option (Int32 × am_I)} (hrf : ∀ {y1 y2 v' : Int32} {iv iv' : am_I}, rc y1 y2 iv = some (v', iv') → am_fr [(w + 16)] [((w + 14), 1), (t, 2), (t, 3), (t, 4), (t, 5)] iv iv') {k1 : Int32} {iv iv0 : am_I} (hf : am_fr [(w + 16)] [((w + 14), 1), (t, 2), (t, 3), (t, 4), (t, 5)] iv0 iv) {y : Int32 × am_I} (e : J_X3_readParenthesis_66 w t rr xr rc k1 iv = some y) : am_fr [(w + 16)] [((w + 14), 1), (t, 2), (t, 3), (t, 4), (t, 5)] iv0 y.2 := by
  replace e := am_o2_i e; obtain ⟨v8, w8, e8, e⟩ := e
  have f8 := am_fr.tr hf (am_fr.up (X_X8_refuse e8) (by simp) (by simp))
  replace e := am_ck e; obtain ⟨c9, e⟩ := e
  obtain rfl := Option.some.inj e
  exact f8
theorem x_X3_readParenthesis_52 {w : Nat} {t : Nat} {rr : Nat} {xr : Nat} {rc : Int32 → Int32 → am_I → Option (Int32 × am_I)} (hrf : ∀ {y1 y2 v' : Int32} {iv iv' : am_I}, rc y1 y2 iv = some (v', iv') → am_fr [(w + 16)] [((w + 14), 1), (t, 2), (t, 3), (t, 4), (t, 5)] iv iv') {k0 : Int32} {iv iv0 : am_I} (hf : am_fr [(w + 16)] [((w + 14), 1), (t, 2), (t, 3), (t, 4), (t, 5)] iv0 iv) {y : Int32 × am_I} (e : J_X3_readParenthesis_52 w t rr xr rc k0 iv = some y) : am_fr [(w + 16)] [((w + 14), 1), (t, 2), (t, 3), (t, 4), (t, 5)] iv0 y.2 := by
  replace e := am_if e; rcases e with ⟨hbr, e⟩ | ⟨hbr, e⟩
  · exact x_X3_readParenthesis_66 hrf hf e
  · exact x_X3_readParenthesis_66 hrf hf e
theorem x_X3_readParenthesis_47 {w : Nat} {t : Nat} {rr : Nat} {xr : Nat} {rc : Int32 → Int32 → am_I → Option (Int32 × am_I)} (hrf : ∀ {y1 y2 v' : Int32} {iv iv' : am_I}, rc y1 y2 iv = some (v', iv') → am_fr [(w + 16)] [((w + 14), 1), (t, 2), (t, 3), (t, 4), (t, 5)] iv iv') {iv iv0 : am_I} (hf : am_fr [(w + 16)] [((w + 14), 1), (t, 2), (t, 3), (t, 4), (t, 5)] iv0 iv) {y : Int32 × am_I} (e : J_X3_readParenthesis_47 w t rr xr rc  iv = some y) : am_fr [(w + 16)] [((w + 14), 1), (t, 2), (t, 3), (t, 4), (t, 5)] iv0 y.2 := by
  exact x_X3_readParenthesis_52 hrf hf e
theorem x_X3_readParenthesis {w : Nat} {t : Nat} {rr : Nat} {xr : Nat} {rc : Int32 → Int32 → am_I → Option (Int32 × am_I)} (hrf : ∀ {y1 y2 v' : Int32} {iv iv' : am_I}, rc y1 y2 iv = some (v', iv') → am_fr [(w + 16)] [((w + 14), 1), (t, 2), (t, 3), (t, 4), (t, 5)] iv iv') {i1 : Int32} {iv iv0 : am_I} (hf : am_fr [(w + 16)] [((w + 14), 1), (t, 2), (t, 3), (t, 4), (t, 5)] iv0 iv) {y : Int32 × am_I} (e : F_X3_readParenthesis w t rr xr rc i1 iv = some y) : am_fr [(w + 16)] [((w + 14), 1), (t, 2), (t, 3), (t, 4), (t, 5)] iv0 y.2 := by
  replace e := am_o1_i e; obtain ⟨w1, e1, e⟩ := e
  have f1 := am_fr.tr hf (am_fr.up (X_X8_advance e1) (by simp) (by simp))
  replace e := am_if e; rcases e with ⟨hbr, e⟩ | ⟨hbr, e⟩
  · replace e := am_o2_i e; obtain ⟨v2, w2, e2, e⟩ := e
    have f2 := am_fr.tr f1 (am_fr.up (hrf e2) (by simp) (by simp))
    replace e := am_if e; rcases e with ⟨hbr, e⟩ | ⟨hbr, e⟩
    · obtain rfl := Option.some.inj e
      exact f2
    · replace e := am_o1_i e; obtain ⟨v3, e3, e⟩ := e
      replace e := am_if e; rcases e with ⟨hbr, e⟩ | ⟨hbr, e⟩
      · replace e := am_o2_i e; obtain ⟨v5, w5, e5, e⟩ := e
        have f5 := am_fr.tr f2 (am_fr.up (X_X8_refuse e5) (by simp) (by simp))
        replace e := am_ck e; obtain ⟨c6, e⟩ := e
        obtain rfl := Option.some.inj e
        exact f5
      · replace e := am_o1_i e; obtain ⟨w4, e4, e⟩ := e
        have f4 := am_fr.tr f2 (am_fr.up (X_X8_advance e4) (by simp) (by simp))
        obtain rfl := Option.some.inj e
        exact f4
  · replace e := am_o1_i e; obtain ⟨v7, e7, e⟩ := e
    replace e := am_if e; rcases e with ⟨hbr, e⟩ | ⟨hbr, e⟩
    · replace e := am_o1_i e; obtain ⟨v10, e10, e⟩ := e
      replace e := am_if e; rcases e with ⟨hbr, e⟩ | ⟨hbr, e⟩
      · replace e := am_o1_i e; obtain ⟨v11, e11, e⟩ := e
        replace e := am_if e; rcases e with ⟨hbr, e⟩ | ⟨hbr, e⟩
        · exact x_X3_readParenthesis_52 hrf f1 e
        · exact x_X3_readParenthesis_47 hrf f1 e
      · exact x_X3_readParenthesis_47 hrf f1 e
    · exact x_X3_readParenthesis_47 hrf f1 e
theorem X_X3_readParenthesis {w : Nat} {t : Nat} {rr : Nat} {xr : Nat} {rc : Int32 → Int32 → am_I → Option (Int32 × am_I)} (hrf : ∀ {y1 y2 v' : Int32} {iv iv' : am_I}, rc y1 y2 iv = some (v', iv') → am_fr [(w + 16)] [((w + 14), 1), (t, 2), (t, 3), (t, 4), (t, 5)] iv iv') {i1 : Int32} {iv iv' : am_I} {v' : Int32} (e : F_X3_readParenthesis w t rr xr rc i1 iv = some (v', iv')) : am_fr [(w + 16)] [((w + 14), 1), (t, 2), (t, 3), (t, 4), (t, 5)] iv iv' := x_X3_readParenthesis hrf (am_fr.rf _ _ _) e
theorem x_X3_readPart_116 {w : Nat} {t : Nat} {rr : Nat} {xr : Nat} {rc : Int32 → Int32 → am_I → Option (Int32 × am_I)} (hrf : ∀ {y1 y2 v' : Int32} {iv iv' : am_I}, rc y1 y2 iv = some (v', iv') → am_fr [(w + 16)] [((w + 14), 1), (t, 2), (t, 3), (t, 4), (t, 5)] iv iv') {iv iv0 : am_I} (hf : am_fr [(w + 16)] [((w + 14), 1), (t, 2), (t, 3), (t, 4), (t, 5)] iv0 iv) {y : Int32 × am_I} (e : J_X3_readPart_116 w t rr xr rc  iv = some y) : am_fr [(w + 16)] [((w + 14), 1), (t, 2), (t, 3), (t, 4), (t, 5)] iv0 y.2 := by
  replace e := am_o1_i e; obtain ⟨w9, e9, e⟩ := e
  have f9 := am_fr.tr hf (am_fr.up (X_X8_advance e9) (by simp) (by simp))
  obtain rfl := Option.some.inj e
  exact f9
theorem x_X3_readPart {w : Nat} {t : Nat} {rr : Nat} {xr : Nat} {rc : Int32 → Int32 → am_I → Option (Int32 × am_I)} (hrf : ∀ {y1 y2 v' : Int32} {iv iv' : am_I}, rc y1 y2 iv = some (v', iv') → am_fr [(w + 16)] [((w + 14), 1), (t, 2), (t, 3), (t, 4), (t, 5)] iv iv') {i1 : Int32} {iv iv0 : am_I} (hf : am_fr [(w + 16)] [((w + 14), 1), (t, 2), (t, 3), (t, 4), (t, 5)] iv0 iv) {y : Int32 × am_I} (e : F_X3_readPart w t rr xr rc i1 iv = some y) : am_fr [(w + 16)] [((w + 14), 1), (t, 2), (t, 3), (t, 4), (t, 5)] iv0 y.2 := by
  replace e := am_o1_i e; obtain ⟨v1, e1, e⟩ := e
  replace e := am_if e; rcases e with ⟨hbr, e⟩ | ⟨hbr, e⟩
  · replace e := am_o1_i e; obtain ⟨v2, e2, e⟩ := e
    replace e := am_if e; rcases e with ⟨hbr, e⟩ | ⟨hbr, e⟩
    · replace e := am_o1_i e; obtain ⟨v3, e3, e⟩ := e
      replace e := am_if e; rcases e with ⟨hbr, e⟩ | ⟨hbr, e⟩
      · replace e := am_o2_i e; obtain ⟨v4, w4, e4, e⟩ := e
        have f4 := am_fr.tr hf (am_fr.up (X_X8_refuse e4) (by simp) (by simp))
        replace e := am_ck e; obtain ⟨c5, e⟩ := e
        obtain rfl := Option.some.inj e
        exact f4
      · replace e := am_o1_i e; obtain ⟨v6, e6, e⟩ := e
        replace e := am_if e; rcases e with ⟨hbr, e⟩ | ⟨hbr, e⟩
        · replace e := am_o2_i e; obtain ⟨v10, w10, e10, e⟩ := e
          have f10 := am_fr.tr hf (am_fr.up (X_X8_refuse e10) (by simp) (by simp))
          replace e := am_ck e; obtain ⟨c11, e⟩ := e
          obtain rfl := Option.some.inj e
          exact f10
        · replace e := am_o1_i e; obtain ⟨v7, e7, e⟩ := e
          replace e := am_o1_i e; obtain ⟨w8, e8, e⟩ := e
          have f8 := am_fr.tr hf (am_fr.up (X_X5_add e8) (by simp) (by simp))
          exact x_X3_readPart_116 hrf f8 e
    · replace e := am_o1_i e; obtain ⟨v12, e12, e⟩ := e
      replace e := am_if e; rcases e with ⟨hbr, e⟩ | ⟨hbr, e⟩
      · replace e := am_o1_i e; obtain ⟨v13, e13, e⟩ := e
        replace e := am_o1_i e; obtain ⟨w14, e14, e⟩ := e
        have f14 := am_fr.tr hf (am_fr.up (X_X5_add e14) (by simp) (by simp))
        exact x_X3_readPart_116 hrf f14 e
      · replace e := am_o2_i e; obtain ⟨v15, w15, e15, e⟩ := e
        have f15 := am_fr.tr hf (am_fr.up (X_X8_refuse e15) (by simp) (by simp))
        replace e := am_ck e; obtain ⟨c16, e⟩ := e
        obtain rfl := Option.some.inj e
        exact f15
  · replace e := am_o2_i e; obtain ⟨v17, w17, e17, e⟩ := e
    have f17 := am_fr.tr hf (am_fr.up (X_X3_readParenthesis hrf e17) (by simp) (by simp))
    replace e := am_ck e; obtain ⟨c18, e⟩ := e
    obtain rfl := Option.some.inj e
    exact f17
theorem X_X3_readPart {w : Nat} {t : Nat} {rr : Nat} {xr : Nat} {rc : Int32 → Int32 → am_I → Option (Int32 × am_I)} (hrf : ∀ {y1 y2 v' : Int32} {iv iv' : am_I}, rc y1 y2 iv = some (v', iv') → am_fr [(w + 16)] [((w + 14), 1), (t, 2), (t, 3), (t, 4), (t, 5)] iv iv') {i1 : Int32} {iv iv' : am_I} {v' : Int32} (e : F_X3_readPart w t rr xr rc i1 iv = some (v', iv')) : am_fr [(w + 16)] [((w + 14), 1), (t, 2), (t, 3), (t, 4), (t, 5)] iv iv' := x_X3_readPart hrf (am_fr.rf _ _ _) e
theorem xb_X3_readNot_2 {w : Nat} {t : Nat} {rr : Nat} {xr : Nat} {rc : Int32 → Int32 → am_I → Option (Int32 × am_I)} (hrf : ∀ {y1 y2 v' : Int32} {iv iv' : am_I}, rc y1 y2 iv = some (v', iv') → am_fr [(w + 16)] [((w + 14), 1), (t, 2), (t, 3), (t, 4), (t, 5)] iv iv') {i1 i2 : Int32} {iv iv0 : am_I} (hf : am_fr [(w + 16)] [((w + 14), 1), (t, 2), (t, 3), (t, 4), (t, 5)] iv0 iv) {y : (Int32 × am_I) ⊕ (Int32 × am_I)} (e : B_X3_readNot_2 w t rr xr rc i1 i2 iv = some y) : Sum.elim (fun s : (Int32 × am_I) => am_fr [(w + 16)] [((w + 14), 1), (t, 2), (t, 3), (t, 4), (t, 5)] iv0 s.2) (fun a : (Int32 × am_I) => am_fr [(w + 16)] [((w + 14), 1), (t, 2), (t, 3), (t, 4), (t, 5)] iv0 a.2) y := by
  replace e := am_if e; rcases e with ⟨hbr, e⟩ | ⟨hbr, e⟩
  · obtain rfl := Option.some.inj e
    exact hf
  · replace e := am_o1_i e; obtain ⟨v1, e1, e⟩ := e
    replace e := am_if e; rcases e with ⟨hbr, e⟩ | ⟨hbr, e⟩
    · obtain rfl := Option.some.inj e
      exact hf
    · replace e := am_o1_i e; obtain ⟨w2, e2, e⟩ := e
      have f2 := am_fr.tr hf (am_fr.up (X_X8_advance e2) (by simp) (by simp))
      obtain rfl := Option.some.inj e
      exact f2
theorem xl_X3_readNot_2 {w : Nat} {t : Nat} {rr : Nat} {xr : Nat} {rc : Int32 → Int32 → am_I → Option (Int32 × am_I)} (hrf : ∀ {y1 y2 v' : Int32} {iv iv' : am_I}, rc y1 y2 iv = some (v', iv') → am_fr [(w + 16)] [((w + 14), 1), (t, 2), (t, 3), (t, 4), (t, 5)] iv iv') {i1 : Int32} {iv0 : am_I} (s : (Int32 × am_I)) (hf : am_fr [(w + 16)] [((w + 14), 1), (t, 2), (t, 3), (t, 4), (t, 5)] iv0 s.2) {x : (Int32 × am_I)} (e : am_loop (fun s : (Int32 × am_I) => B_X3_readNot_2 w t rr xr rc i1 s.1 s.2) s = some x) : (fun a : (Int32 × am_I) => am_fr [(w + 16)] [((w + 14), 1), (t, 2), (t, 3), (t, 4), (t, 5)] iv0 a.2) x :=
  am_wh_fr (f := fun s : (Int32 × am_I) => B_X3_readNot_2 w t rr xr rc i1 s.1 s.2) (P := fun s => am_fr [(w + 16)] [((w + 14), 1), (t, 2), (t, 3), (t, 4), (t, 5)] iv0 s.2) (K := fun a : (Int32 × am_I) => am_fr [(w + 16)] [((w + 14), 1), (t, 2), (t, 3), (t, 4), (t, 5)] iv0 a.2) (fun s y hf e => xb_X3_readNot_2 hrf hf e) am_fu s x hf e
theorem xb_X3_readNot_67 {w : Nat} {t : Nat} {rr : Nat} {xr : Nat} {rc : Int32 → Int32 → am_I → Option (Int32 × am_I)} (hrf : ∀ {y1 y2 v' : Int32} {iv iv' : am_I}, rc y1 y2 iv = some (v', iv') → am_fr [(w + 16)] [((w + 14), 1), (t, 2), (t, 3), (t, 4), (t, 5)] iv iv') {i2 i3 : Int32} {iv iv0 : am_I} (hf : am_fr [(w + 16)] [((w + 14), 1), (t, 2), (t, 3), (t, 4), (t, 5)] iv0 iv) {y : (Int32 × am_I) ⊕ (am_I)} (e : B_X3_readNot_67 w t rr xr rc i2 i3 iv = some y) : Sum.elim (fun s : (Int32 × am_I) => am_fr [(w + 16)] [((w + 14), 1), (t, 2), (t, 3), (t, 4), (t, 5)] iv0 s.2) (fun a : (am_I) => am_fr [(w + 16)] [((w + 14), 1), (t, 2), (t, 3), (t, 4), (t, 5)] iv0 a) y := by
  replace e := am_if e; rcases e with ⟨hbr, e⟩ | ⟨hbr, e⟩
  · obtain rfl := Option.some.inj e
    exact hf
  · replace e := am_o1_i e; obtain ⟨w6, e6, e⟩ := e
    have f6 := am_fr.tr hf (am_fr.up (X_X5_add e6) (by simp) (by simp))
    obtain rfl := Option.some.inj e
    exact f6
theorem xl_X3_readNot_67 {w : Nat} {t : Nat} {rr : Nat} {xr : Nat} {rc : Int32 → Int32 → am_I → Option (Int32 × am_I)} (hrf : ∀ {y1 y2 v' : Int32} {iv iv' : am_I}, rc y1 y2 iv = some (v', iv') → am_fr [(w + 16)] [((w + 14), 1), (t, 2), (t, 3), (t, 4), (t, 5)] iv iv') {i2 : Int32} {iv0 : am_I} (s : (Int32 × am_I)) (hf : am_fr [(w + 16)] [((w + 14), 1), (t, 2), (t, 3), (t, 4), (t, 5)] iv0 s.2) {x : (am_I)} (e : am_loop (fun s : (Int32 × am_I) => B_X3_readNot_67 w t rr xr rc i2 s.1 s.2) s = some x) : (fun a : (am_I) => am_fr [(w + 16)] [((w + 14), 1), (t, 2), (t, 3), (t, 4), (t, 5)] iv0 a) x :=
  am_wh_fr (f := fun s : (Int32 × am_I) => B_X3_readNot_67 w t rr xr rc i2 s.1 s.2) (P := fun s => am_fr [(w + 16)] [((w + 14), 1), (t, 2), (t, 3), (t, 4), (t, 5)] iv0 s.2) (K := fun a : (am_I) => am_fr [(w + 16)] [((w + 14), 1), (t, 2), (t, 3), (t, 4), (t, 5)] iv0 a) (fun s y hf e => xb_X3_readNot_67 hrf hf e) am_fu s x hf e
theorem x_X3_readNot_33 {w : Nat} {t : Nat} {rr : Nat} {xr : Nat} {rc : Int32 → Int32 → am_I → Option (Int32 × am_I)} (hrf : ∀ {y1 y2 v' : Int32} {iv iv' : am_I}, rc y1 y2 iv = some (v', iv') → am_fr [(w + 16)] [((w + 14), 1), (t, 2), (t, 3), (t, 4), (t, 5)] iv iv') {i1 i2 : Int32} {iv iv0 : am_I} (hf : am_fr [(w + 16)] [((w + 14), 1), (t, 2), (t, 3), (t, 4), (t, 5)] iv0 iv) {y : Int32 × am_I} (e : J_X3_readNot_33 w t rr xr rc i1 i2 iv = some y) : am_fr [(w + 16)] [((w + 14), 1), (t, 2), (t, 3), (t, 4), (t, 5)] iv0 y.2 := by
  replace e := am_o1_i e; obtain ⟨v4, e4, e⟩ := e
  replace e := am_if e; rcases e with ⟨hbr, e⟩ | ⟨hbr, e⟩
  · replace e := am_o2_i e; obtain ⟨v5, w5, e5, e⟩ := e
    have f5 := am_fr.tr hf (am_fr.up (hrf e5) (by simp) (by simp))
    replace e := am_if e; rcases e with ⟨hbr, e⟩ | ⟨hbr, e⟩
    · obtain rfl := Option.some.inj e
      exact f5
    · replace e := am_o1_i e; obtain ⟨a7, e7, e⟩ := e
      have f7 := xl_X3_readNot_67 hrf _ f5 e7
      obtain rfl := Option.some.inj e
      exact f7
  · replace e := am_o2_i e; obtain ⟨v8, w8, e8, e⟩ := e
    have f8 := am_fr.tr hf (am_fr.up (X_X8_refuse e8) (by simp) (by simp))
    replace e := am_ck e; obtain ⟨c9, e⟩ := e
    obtain rfl := Option.some.inj e
    exact f8
theorem x_X3_readNot {w : Nat} {t : Nat} {rr : Nat} {xr : Nat} {rc : Int32 → Int32 → am_I → Option (Int32 × am_I)} (hrf : ∀ {y1 y2 v' : Int32} {iv iv' : am_I}, rc y1 y2 iv = some (v', iv') → am_fr [(w + 16)] [((w + 14), 1), (t, 2), (t, 3), (t, 4), (t, 5)] iv iv') {i1 : Int32} {iv iv0 : am_I} (hf : am_fr [(w + 16)] [((w + 14), 1), (t, 2), (t, 3), (t, 4), (t, 5)] iv0 iv) {y : Int32 × am_I} (e : F_X3_readNot w t rr xr rc i1 iv = some y) : am_fr [(w + 16)] [((w + 14), 1), (t, 2), (t, 3), (t, 4), (t, 5)] iv0 y.2 := by
  replace e := am_o1_i e; obtain ⟨a3, e3, e⟩ := e
  have f3 := xl_X3_readNot_2 hrf _ hf e3
  exact x_X3_readNot_33 hrf f3 e
theorem X_X3_readNot {w : Nat} {t : Nat} {rr : Nat} {xr : Nat} {rc : Int32 → Int32 → am_I → Option (Int32 × am_I)} (hrf : ∀ {y1 y2 v' : Int32} {iv iv' : am_I}, rc y1 y2 iv = some (v', iv') → am_fr [(w + 16)] [((w + 14), 1), (t, 2), (t, 3), (t, 4), (t, 5)] iv iv') {i1 : Int32} {iv iv' : am_I} {v' : Int32} (e : F_X3_readNot w t rr xr rc i1 iv = some (v', iv')) : am_fr [(w + 16)] [((w + 14), 1), (t, 2), (t, 3), (t, 4), (t, 5)] iv iv' := x_X3_readNot hrf (am_fr.rf _ _ _) e
theorem xb_X3_readLevel_59 {w : Nat} {t : Nat} {rr : Nat} {xr : Nat} {rc : Int32 → Int32 → am_I → Option (Int32 × am_I)} (hrf : ∀ {y1 y2 v' : Int32} {iv iv' : am_I}, rc y1 y2 iv = some (v', iv') → am_fr [(w + 16)] [((w + 14), 1), (t, 2), (t, 3), (t, 4), (t, 5)] iv iv') {i1 i2 i3 i4 i5 : Int32} {iv iv0 : am_I} (hf : am_fr [(w + 16)] [((w + 14), 1), (t, 2), (t, 3), (t, 4), (t, 5)] iv0 iv) {y : (Int32 × Int32 × am_I) ⊕ ((am_I) ⊕ (Int32 × am_I))} (e : B_X3_readLevel_59 w t rr xr rc i1 i2 i3 i4 i5 iv = some y) : Sum.elim (fun s : (Int32 × Int32 × am_I) => am_fr [(w + 16)] [((w + 14), 1), (t, 2), (t, 3), (t, 4), (t, 5)] iv0 s.2.2) (Sum.elim (fun a : (am_I) => am_fr [(w + 16)] [((w + 14), 1), (t, 2), (t, 3), (t, 4), (t, 5)] iv0 a) (fun r : (Int32 × am_I) => am_fr [(w + 16)] [((w + 14), 1), (t, 2), (t, 3), (t, 4), (t, 5)] iv0 r.2)) y := by
  replace e := am_if e; rcases e with ⟨hbr, e⟩ | ⟨hbr, e⟩
  · obtain rfl := Option.some.inj e
    exact hf
  · replace e := am_if e; rcases e with ⟨hbr, e⟩ | ⟨hbr, e⟩
    · obtain rfl := Option.some.inj e
      exact hf
    · replace e := am_o1_i e; obtain ⟨w3, e3, e⟩ := e
      have f3 := am_fr.tr hf (am_fr.up (X_X8_advance e3) (by simp) (by simp))
      replace e := am_o2_i e; obtain ⟨v4, w4, e4, e⟩ := e
      have f4 := am_fr.tr f3 (am_fr.up (hrf e4) (by simp) (by simp))
      replace e := am_if e; rcases e with ⟨hbr, e⟩ | ⟨hbr, e⟩
      · obtain rfl := Option.some.inj e
        exact f4
      · replace e := am_o1_i e; obtain ⟨w5, e5, e⟩ := e
        have f5 := am_fr.tr f4 (am_fr.up (X_X5_add e5) (by simp) (by simp))
        replace e := am_o1_i e; obtain ⟨v6, e6, e⟩ := e
        obtain rfl := Option.some.inj e
        exact f5
theorem xl_X3_readLevel_59 {w : Nat} {t : Nat} {rr : Nat} {xr : Nat} {rc : Int32 → Int32 → am_I → Option (Int32 × am_I)} (hrf : ∀ {y1 y2 v' : Int32} {iv iv' : am_I}, rc y1 y2 iv = some (v', iv') → am_fr [(w + 16)] [((w + 14), 1), (t, 2), (t, 3), (t, 4), (t, 5)] iv iv') {i1 i2 i3 : Int32} {iv0 : am_I} (s : (Int32 × Int32 × am_I)) (hf : am_fr [(w + 16)] [((w + 14), 1), (t, 2), (t, 3), (t, 4), (t, 5)] iv0 s.2.2) {x : ((am_I) ⊕ (Int32 × am_I))} (e : am_loop (fun s : (Int32 × Int32 × am_I) => B_X3_readLevel_59 w t rr xr rc i1 i2 i3 s.1 s.2.1 s.2.2) s = some x) : (Sum.elim (fun a : (am_I) => am_fr [(w + 16)] [((w + 14), 1), (t, 2), (t, 3), (t, 4), (t, 5)] iv0 a) (fun r : (Int32 × am_I) => am_fr [(w + 16)] [((w + 14), 1), (t, 2), (t, 3), (t, 4), (t, 5)] iv0 r.2)) x :=
  am_wh_fr (f := fun s : (Int32 × Int32 × am_I) => B_X3_readLevel_59 w t rr xr rc i1 i2 i3 s.1 s.2.1 s.2.2) (P := fun s => am_fr [(w + 16)] [((w + 14), 1), (t, 2), (t, 3), (t, 4), (t, 5)] iv0 s.2.2) (K := Sum.elim (fun a : (am_I) => am_fr [(w + 16)] [((w + 14), 1), (t, 2), (t, 3), (t, 4), (t, 5)] iv0 a) (fun r : (Int32 × am_I) => am_fr [(w + 16)] [((w + 14), 1), (t, 2), (t, 3), (t, 4), (t, 5)] iv0 r.2)) (fun s y hf e => xb_X3_readLevel_59 hrf hf e) am_fu s x hf e
theorem x_X3_readLevel_48 {w : Nat} {t : Nat} {rr : Nat} {xr : Nat} {rc : Int32 → Int32 → am_I → Option (Int32 × am_I)} (hrf : ∀ {y1 y2 v' : Int32} {iv iv' : am_I}, rc y1 y2 iv = some (v', iv') → am_fr [(w + 16)] [((w + 14), 1), (t, 2), (t, 3), (t, 4), (t, 5)] iv iv') {i1 i2 k0 : Int32} {iv iv0 : am_I} (hf : am_fr [(w + 16)] [((w + 14), 1), (t, 2), (t, 3), (t, 4), (t, 5)] iv0 iv) {y : Int32 × am_I} (e : J_X3_readLevel_48 w t rr xr rc i1 i2 k0 iv = some y) : am_fr [(w + 16)] [((w + 14), 1), (t, 2), (t, 3), (t, 4), (t, 5)] iv0 y.2 := by
  replace e := am_o1_i e; obtain ⟨v2, e2, e⟩ := e
  replace e := am_lp_i e; rcases e with ⟨a7, e7, e⟩ | ⟨r7, e7, e⟩
  · have f7 := xl_X3_readLevel_59 hrf _ hf e7
    obtain rfl := Option.some.inj e
    exact f7
  · have f7 := xl_X3_readLevel_59 hrf _ hf e7
    obtain rfl := Option.some.inj e
    exact f7
theorem x_X3_readLevel {w : Nat} {t : Nat} {rr : Nat} {xr : Nat} {rc : Int32 → Int32 → am_I → Option (Int32 × am_I)} (hrf : ∀ {y1 y2 v' : Int32} {iv iv' : am_I}, rc y1 y2 iv = some (v', iv') → am_fr [(w + 16)] [((w + 14), 1), (t, 2), (t, 3), (t, 4), (t, 5)] iv iv') {i1 i2 : Int32} {iv iv0 : am_I} (hf : am_fr [(w + 16)] [((w + 14), 1), (t, 2), (t, 3), (t, 4), (t, 5)] iv0 iv) {y : Int32 × am_I} (e : G_X3_readLevel w t rr xr rc i1 i2 iv = some y) : am_fr [(w + 16)] [((w + 14), 1), (t, 2), (t, 3), (t, 4), (t, 5)] iv0 y.2 := by
  replace e := am_if e; rcases e with ⟨hbr, e⟩ | ⟨hbr, e⟩
  · replace e := am_o2_i e; obtain ⟨v10, w10, e10, e⟩ := e
    have f10 := am_fr.tr hf (am_fr.up (X_X3_readNot hrf e10) (by simp) (by simp))
    replace e := am_ck e; obtain ⟨c11, e⟩ := e
    obtain rfl := Option.some.inj e
    exact f10
  · replace e := am_if e; rcases e with ⟨hbr, e⟩ | ⟨hbr, e⟩
    · replace e := am_o2_i e; obtain ⟨v1, w1, e1, e⟩ := e
      have f1 := am_fr.tr hf (am_fr.up (hrf e1) (by simp) (by simp))
      replace e := am_if e; rcases e with ⟨hbr, e⟩ | ⟨hbr, e⟩
      · obtain rfl := Option.some.inj e
        exact f1
      · replace e := am_if e; rcases e with ⟨hbr, e⟩ | ⟨hbr, e⟩
        · exact x_X3_readLevel_48 hrf f1 e
        · exact x_X3_readLevel_48 hrf f1 e
    · replace e := am_o2_i e; obtain ⟨v8, w8, e8, e⟩ := e
      have f8 := am_fr.tr hf (am_fr.up (X_X3_readPart hrf e8) (by simp) (by simp))
      replace e := am_ck e; obtain ⟨c9, e⟩ := e
      obtain rfl := Option.some.inj e
      exact f8
theorem Xq_X3_readLevel {w : Nat} {t : Nat} {rr : Nat} {xr : Nat} {rc : Int32 → Int32 → am_I → Option (Int32 × am_I)} (hrf : ∀ {y1 y2 v' : Int32} {iv iv' : am_I}, rc y1 y2 iv = some (v', iv') → am_fr [(w + 16)] [((w + 14), 1), (t, 2), (t, 3), (t, 4), (t, 5)] iv iv') {i1 i2 : Int32} {iv iv' : am_I} {v' : Int32} (e : G_X3_readLevel w t rr xr rc i1 i2 iv = some (v', iv')) : am_fr [(w + 16)] [((w + 14), 1), (t, 2), (t, 3), (t, 4), (t, 5)] iv iv' := x_X3_readLevel hrf (am_fr.rf _ _ _) e
theorem XF_X3_readLevel (w t rr xr : Nat) : ∀ (fu : Nat) {y1 y2 v' : Int32} {iv iv' : am_I}, F_X3_readLevel w t rr xr fu y1 y2 iv = some (v', iv') → am_fr [(w + 16)] [((w + 14), 1), (t, 2), (t, 3), (t, 4), (t, 5)] iv iv'
  | 0, _, _, _, _, _, e => by cases e
  | fu + 1, _, _, _, _, _, e => x_X3_readLevel (rc := F_X3_readLevel w t rr xr fu) (XF_X3_readLevel w t rr xr fu) (am_fr.rf _ _ _) e
theorem X_X3_readLevel {w t rr xr : Nat} {y1 y2 v' : Int32} {iv iv' : am_I} (e : F_X3_readLevel w t rr xr 60 y1 y2 iv = some (v', iv')) : am_fr [(w + 16)] [((w + 14), 1), (t, 2), (t, 3), (t, 4), (t, 5)] iv iv' := XF_X3_readLevel w t rr xr 60 e
