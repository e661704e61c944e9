/-! what they leave (by program) -/
theorem x_X10_stepOn_26 {iv iv0 : am_I} (hf : am_fr [] [(54, 19), (54, 21), (54, 22), (54, 23), (54, 24)] iv0 iv) {y : (am_I) ⊕ (am_I)} (e : J_X10_stepOn_26  iv = some y) : Sum.elim (fun s : (am_I) => am_fr [] [(54, 19), (54, 21), (54, 22), (54, 23), (54, 24)] iv0 s) (fun a : (am_I) => am_fr [] [(54, 19), (54, 21), (54, 22), (54, 23), (54, 24)] iv0 a) y := by
  obtain rfl := Option.some.inj e
  exact (am_fr.f hf (by simp))
theorem xb_X10_stepOn_0 {iv iv0 : am_I} (hf : am_fr [] [(54, 19), (54, 21), (54, 22), (54, 23), (54, 24)] iv0 iv) {y : (am_I) ⊕ (am_I)} (e : B_X10_stepOn_0 iv = some y) : Sum.elim (fun s : (am_I) => am_fr [] [(54, 19), (54, 21), (54, 22), (54, 23), (54, 24)] iv0 s) (fun a : (am_I) => am_fr [] [(54, 19), (54, 21), (54, 22), (54, 23), (54, 24)] iv0 a) y := by
  replace e := am_o1_i e; obtain ⟨v1, e1, e⟩ := e
  replace e := am_if e; rcases e with ⟨hbr, e⟩ | ⟨hbr, e⟩
  · exact x_X10_stepOn_26 hf e
  · replace e := am_o1_i e; obtain ⟨v2, e2, e⟩ := e
    replace e := am_if e; rcases e with ⟨hbr, e⟩ | ⟨hbr, e⟩
    · exact x_X10_stepOn_26 hf e
    · obtain rfl := Option.some.inj e
      exact hf
theorem xl_X10_stepOn_0 {iv0 : am_I} (s : (am_I)) (hf : am_fr [] [(54, 19), (54, 21), (54, 22), (54, 23), (54, 24)] iv0 s) {x : (am_I)} (e : am_loop (fun s : (am_I) => B_X10_stepOn_0 s) s = some x) : (fun a : (am_I) => am_fr [] [(54, 19), (54, 21), (54, 22), (54, 23), (54, 24)] iv0 a) x :=
  am_wh_fr (f := fun s : (am_I) => B_X10_stepOn_0 s) (P := fun s => am_fr [] [(54, 19), (54, 21), (54, 22), (54, 23), (54, 24)] iv0 s) (K := fun a : (am_I) => am_fr [] [(54, 19), (54, 21), (54, 22), (54, 23), (54, 24)] iv0 a) (fun s y hf e => xb_X10_stepOn_0 hf e) am_fu s x hf e
theorem x_X10_stepOn_212 {iv iv0 : am_I} (hf : am_fr [] [(54, 19), (54, 21), (54, 22), (54, 23), (54, 24)] iv0 iv) {y : am_I} (e : J_X10_stepOn_212  iv = some y) : am_fr [] [(54, 19), (54, 21), (54, 22), (54, 23), (54, 24)] iv0 y := by
  obtain rfl := Option.some.inj e
  exact (am_fr.f hf (by simp))
theorem x_X10_stepOn_209 {k1 : Int32} {iv iv0 : am_I} (hf : am_fr [] [(54, 19), (54, 21), (54, 22), (54, 23), (54, 24)] iv0 iv) {y : am_I} (e : J_X10_stepOn_209 k1 iv = some y) : am_fr [] [(54, 19), (54, 21), (54, 22), (54, 23), (54, 24)] iv0 y := by
  exact x_X10_stepOn_212 (am_fr.f hf (by simp)) e
theorem xb_X10_stepOn_123 {iv iv0 : am_I} (hf : am_fr [] [(54, 19), (54, 21), (54, 22), (54, 23), (54, 24)] iv0 iv) {y : (am_I) ⊕ (am_I)} (e : B_X10_stepOn_123 iv = some y) : Sum.elim (fun s : (am_I) => am_fr [] [(54, 19), (54, 21), (54, 22), (54, 23), (54, 24)] iv0 s) (fun a : (am_I) => am_fr [] [(54, 19), (54, 21), (54, 22), (54, 23), (54, 24)] iv0 a) y := by
  replace e := am_o1_i e; obtain ⟨v8, e8, e⟩ := e
  replace e := am_o1_i e; obtain ⟨v9, e9, e⟩ := e
  replace e := am_if e; rcases e with ⟨hbr, e⟩ | ⟨hbr, e⟩
  · obtain rfl := Option.some.inj e
    exact hf
  · replace e := am_o1_i e; obtain ⟨v10, e10, e⟩ := e
    obtain rfl := Option.some.inj e
    exact (am_fr.f (am_fr.f hf (by simp)) (by simp))
theorem xl_X10_stepOn_123 {iv0 : am_I} (s : (am_I)) (hf : am_fr [] [(54, 19), (54, 21), (54, 22), (54, 23), (54, 24)] iv0 s) {x : (am_I)} (e : am_loop (fun s : (am_I) => B_X10_stepOn_123 s) s = some x) : (fun a : (am_I) => am_fr [] [(54, 19), (54, 21), (54, 22), (54, 23), (54, 24)] iv0 a) x :=
  am_wh_fr (f := fun s : (am_I) => B_X10_stepOn_123 s) (P := fun s => am_fr [] [(54, 19), (54, 21), (54, 22), (54, 23), (54, 24)] iv0 s) (K := fun a : (am_I) => am_fr [] [(54, 19), (54, 21), (54, 22), (54, 23), (54, 24)] iv0 a) (fun s y hf e => xb_X10_stepOn_123 hf e) am_fu s x hf e
theorem xb_X10_stepOn_76 {iv iv0 : am_I} (hf : am_fr [] [(54, 19), (54, 21), (54, 22), (54, 23), (54, 24)] iv0 iv) {y : (am_I) ⊕ (am_I)} (e : B_X10_stepOn_76 iv = some y) : Sum.elim (fun s : (am_I) => am_fr [] [(54, 19), (54, 21), (54, 22), (54, 23), (54, 24)] iv0 s) (fun a : (am_I) => am_fr [] [(54, 19), (54, 21), (54, 22), (54, 23), (54, 24)] iv0 a) y := by
  replace e := am_o1_i e; obtain ⟨v12, e12, e⟩ := e
  replace e := am_o1_i e; obtain ⟨v13, e13, e⟩ := e
  replace e := am_if e; rcases e with ⟨hbr, e⟩ | ⟨hbr, e⟩
  · obtain rfl := Option.some.inj e
    exact hf
  · obtain rfl := Option.some.inj e
    exact (am_fr.f hf (by simp))
theorem xl_X10_stepOn_76 {iv0 : am_I} (s : (am_I)) (hf : am_fr [] [(54, 19), (54, 21), (54, 22), (54, 23), (54, 24)] iv0 s) {x : (am_I)} (e : am_loop (fun s : (am_I) => B_X10_stepOn_76 s) s = some x) : (fun a : (am_I) => am_fr [] [(54, 19), (54, 21), (54, 22), (54, 23), (54, 24)] iv0 a) x :=
  am_wh_fr (f := fun s : (am_I) => B_X10_stepOn_76 s) (P := fun s => am_fr [] [(54, 19), (54, 21), (54, 22), (54, 23), (54, 24)] iv0 s) (K := fun a : (am_I) => am_fr [] [(54, 19), (54, 21), (54, 22), (54, 23), (54, 24)] iv0 a) (fun s y hf e => xb_X10_stepOn_76 hf e) am_fu s x hf e
theorem x_X10_stepOn {iv iv0 : am_I} (hf : am_fr [] [(54, 19), (54, 21), (54, 22), (54, 23), (54, 24)] iv0 iv) {y : am_I} (e : F_X10_stepOn  iv = some y) : am_fr [] [(54, 19), (54, 21), (54, 22), (54, 23), (54, 24)] iv0 y := by
  replace e := am_o1_i e; obtain ⟨a3, e3, e⟩ := e
  have f3 := xl_X10_stepOn_0 _ hf e3
  replace e := am_o1_i e; obtain ⟨v4, e4, e⟩ := e
  replace e := am_if e; rcases e with ⟨hbr, e⟩ | ⟨hbr, e⟩
  · exact x_X10_stepOn_212 (am_fr.f (am_fr.f f3 (by simp)) (by simp)) e
  · replace e := am_o1_i e; obtain ⟨v5, e5, e⟩ := e
    replace e := am_if e; rcases e with ⟨hbr, e⟩ | ⟨hbr, e⟩
    · replace e := am_o1_i e; obtain ⟨v6, e6, e⟩ := e
      replace e := am_if e; rcases e with ⟨hbr, e⟩ | ⟨hbr, e⟩
      · replace e := am_o1_i e; obtain ⟨v7, e7, e⟩ := e
        replace e := am_if e; rcases e with ⟨hbr, e⟩ | ⟨hbr, e⟩
        · exact x_X10_stepOn_209 (am_fr.f (am_fr.f f3 (by simp)) (by simp)) e
        · exact x_X10_stepOn_209 (am_fr.f (am_fr.f f3 (by simp)) (by simp)) e
      · replace e := am_o1_i e; obtain ⟨a11, e11, e⟩ := e
        have f11 := xl_X10_stepOn_123 _ (am_fr.f (am_fr.f f3 (by simp)) (by simp)) e11
        exact x_X10_stepOn_212 (am_fr.f f11 (by simp)) e
    · replace e := am_o1_i e; obtain ⟨a14, e14, e⟩ := e
      have f14 := xl_X10_stepOn_76 _ (am_fr.f f3 (by simp)) e14
      exact x_X10_stepOn_212 (am_fr.f f14 (by simp)) e
theorem X_X10_stepOn {iv iv' : am_I} (e : F_X10_stepOn  iv = some iv') : am_fr [] [(54, 19), (54, 21), (54, 22), (54, 23), (54, 24)] iv iv' := x_X10_stepOn (am_fr.rf _ _ _) e
theorem x_X10_wrong {i1 : Int32} {iv iv0 : am_I} (hf : am_fr [] [(54, 25), (54, 26)] iv0 iv) {y : am_I} (e : F_X10_wrong i1 iv = some y) : am_fr [] [(54, 25), (54, 26)] iv0 y := by
  replace e := am_if e; rcases e with ⟨hbr, e⟩ | ⟨hbr, e⟩
  · obtain rfl := Option.some.inj e
    exact (am_fr.f (am_fr.f hf (by simp)) (by simp))
  · obtain rfl := Option.some.inj e
    exact hf
theorem X_X10_wrong {i1 : Int32} {iv iv' : am_I} (e : F_X10_wrong i1 iv = some iv') : am_fr [] [(54, 25), (54, 26)] iv iv' := x_X10_wrong (am_fr.rf _ _ _) e
theorem x_X10_passes {j : Nat} {iv iv0 : am_I} (hf : am_fr [] [(54, 19), (54, 21), (54, 22), (54, 23), (54, 24)] iv0 iv) {y : Int32 × am_I} (e : F_X10_passes j  iv = some y) : am_fr [] [(54, 19), (54, 21), (54, 22), (54, 23), (54, 24)] iv0 y.2 := by
  replace e := am_o1_i e; obtain ⟨v1, e1, e⟩ := e
  replace e := am_if e; rcases e with ⟨hbr, e⟩ | ⟨hbr, e⟩
  · replace e := am_ck e; obtain ⟨c2, e⟩ := e
    obtain rfl := Option.some.inj e
    exact hf
  · replace e := am_o1_i e; obtain ⟨w3, e3, e⟩ := e
    have f3 := am_fr.tr hf (am_fr.up (X_X10_stepOn e3) (by simp) (by simp))
    replace e := am_ck e; obtain ⟨c4, e⟩ := e
    obtain rfl := Option.some.inj e
    exact f3
theorem X_X10_passes {j : Nat} {iv iv' : am_I} {v' : Int32} (e : F_X10_passes j  iv = some (v', iv')) : am_fr [] [(54, 19), (54, 21), (54, 22), (54, 23), (54, 24)] iv iv' := x_X10_passes (am_fr.rf _ _ _) e
theorem x_X10_mark_20 {iv iv0 : am_I} (hf : am_fr [] [(54, 19), (54, 21), (54, 22), (54, 23), (54, 24), (54, 25), (54, 26)] iv0 iv) {y : am_I} (e : J_X10_mark_20  iv = some y) : am_fr [] [(54, 19), (54, 21), (54, 22), (54, 23), (54, 24), (54, 25), (54, 26)] iv0 y := by
  replace e := am_if e; rcases e with ⟨hbr, e⟩ | ⟨hbr, e⟩
  · replace e := am_o1_i e; obtain ⟨w1, e1, e⟩ := e
    have f1 := am_fr.tr hf (am_fr.up (X_X10_stepOn e1) (by simp) (by simp))
    obtain rfl := Option.some.inj e
    exact f1
  · obtain rfl := Option.some.inj e
    exact hf
theorem x_X10_mark {i1 : Int32} {iv iv0 : am_I} (hf : am_fr [] [(54, 19), (54, 21), (54, 22), (54, 23), (54, 24), (54, 25), (54, 26)] iv0 iv) {y : am_I} (e : F_X10_mark i1 iv = some y) : am_fr [] [(54, 19), (54, 21), (54, 22), (54, 23), (54, 24), (54, 25), (54, 26)] iv0 y := by
  replace e := am_if e; rcases e with ⟨hbr, e⟩ | ⟨hbr, e⟩
  · replace e := am_o1_i e; obtain ⟨v2, e2, e⟩ := e
    replace e := am_if e; rcases e with ⟨hbr, e⟩ | ⟨hbr, e⟩
    · replace e := am_o1_i e; obtain ⟨w3, e3, e⟩ := e
      have f3 := am_fr.tr hf (am_fr.up (X_X10_wrong e3) (by simp) (by simp))
      exact x_X10_mark_20 f3 e
    · exact x_X10_mark_20 hf e
  · exact x_X10_mark_20 hf e
theorem X_X10_mark {i1 : Int32} {iv iv' : am_I} (e : F_X10_mark i1 iv = some iv') : am_fr [] [(54, 19), (54, 21), (54, 22), (54, 23), (54, 24), (54, 25), (54, 26)] iv iv' := x_X10_mark (am_fr.rf _ _ _) e
theorem x_X10_numberNow_59 {iv iv0 : am_I} (hf : am_fr [] [(54, 25), (54, 26)] iv0 iv) {y : Int32 × am_I} (e : J_X10_numberNow_59  iv = some y) : am_fr [] [(54, 25), (54, 26)] iv0 y.2 := by
  replace e := am_if e; rcases e with ⟨hbr, e⟩ | ⟨hbr, e⟩
  · obtain rfl := Option.some.inj e
    exact hf
  · obtain rfl := Option.some.inj e
    exact hf
theorem x_X10_numberNow_54 {iv iv0 : am_I} (hf : am_fr [] [(54, 25), (54, 26)] iv0 iv) {y : Int32 × am_I} (e : J_X10_numberNow_54  iv = some y) : am_fr [] [(54, 25), (54, 26)] iv0 y.2 := by
  replace e := am_o1_i e; obtain ⟨w1, e1, e⟩ := e
  have f1 := am_fr.tr hf (am_fr.up (X_X10_wrong e1) (by simp) (by simp))
  exact x_X10_numberNow_59 f1 e
theorem x_X10_numberNow {i1 i2 : Int32} {iv iv0 : am_I} (hf : am_fr [] [(54, 25), (54, 26)] iv0 iv) {y : Int32 × am_I} (e : F_X10_numberNow i1 i2 iv = some y) : am_fr [] [(54, 25), (54, 26)] iv0 y.2 := by
  replace e := am_if e; rcases e with ⟨hbr, e⟩ | ⟨hbr, e⟩
  · replace e := am_if e; rcases e with ⟨hbr, e⟩ | ⟨hbr, e⟩
    · replace e := am_if e; rcases e with ⟨hbr, e⟩ | ⟨hbr, e⟩
      · exact x_X10_numberNow_54 hf e
      · replace e := am_if e; rcases e with ⟨hbr, e⟩ | ⟨hbr, e⟩
        · exact x_X10_numberNow_54 hf e
        · replace e := am_if e; rcases e with ⟨hbr, e⟩ | ⟨hbr, e⟩
          · exact x_X10_numberNow_59 hf e
          · exact x_X10_numberNow_54 hf e
    · replace e := am_o1_i e; obtain ⟨w2, e2, e⟩ := e
      have f2 := am_fr.tr hf (am_fr.up (X_X10_wrong e2) (by simp) (by simp))
      exact x_X10_numberNow_59 f2 e
  · obtain rfl := Option.some.inj e
    exact hf
theorem X_X10_numberNow {i1 i2 : Int32} {iv iv' : am_I} {v' : Int32} (e : F_X10_numberNow i1 i2 iv = some (v', iv')) : am_fr [] [(54, 25), (54, 26)] iv iv' := x_X10_numberNow (am_fr.rf _ _ _) e
theorem x_X10_readNumber {i1 i2 : Int32} {iv iv0 : am_I} (hf : am_fr [] [(54, 19), (54, 21), (54, 22), (54, 23), (54, 24), (54, 25), (54, 26)] iv0 iv) {y : Int32 × am_I} (e : F_X10_readNumber i1 i2 iv = some y) : am_fr [] [(54, 19), (54, 21), (54, 22), (54, 23), (54, 24), (54, 25), (54, 26)] iv0 y.2 := by
  replace e := am_o2_i e; obtain ⟨v1, w1, e1, e⟩ := e
  have f1 := am_fr.tr hf (am_fr.up (X_X10_numberNow e1) (by simp) (by simp))
  replace e := am_if e; rcases e with ⟨hbr, e⟩ | ⟨hbr, e⟩
  · replace e := am_o1_i e; obtain ⟨w2, e2, e⟩ := e
    have f2 := am_fr.tr f1 (am_fr.up (X_X10_stepOn e2) (by simp) (by simp))
    obtain rfl := Option.some.inj e
    exact f2
  · obtain rfl := Option.some.inj e
    exact f1
theorem X_X10_readNumber {i1 i2 : Int32} {iv iv' : am_I} {v' : Int32} (e : F_X10_readNumber i1 i2 iv = some (v', iv')) : am_fr [] [(54, 19), (54, 21), (54, 22), (54, 23), (54, 24), (54, 25), (54, 26)] iv iv' := x_X10_readNumber (am_fr.rf _ _ _) e
theorem x_X10_lay {i1 : Int32} {iv iv0 : am_I} (hf : am_fr [69] [(54, 28)] iv0 iv) {y : am_I} (e : F_X10_lay i1 iv = some y) : am_fr [69] [(54, 28)] iv0 y := by
  replace e := am_if e; rcases e with ⟨hbr, e⟩ | ⟨hbr, e⟩
  · replace e := am_ckv e; obtain ⟨c1, e⟩ := e
    obtain rfl := Option.some.inj e
    exact (am_fr.f (am_fr.a hf (by simp)) (by simp))
  · obtain rfl := Option.some.inj e
    exact hf
theorem X_X10_lay {i1 : Int32} {iv iv' : am_I} (e : F_X10_lay i1 iv = some iv') : am_fr [69] [(54, 28)] iv iv' := x_X10_lay (am_fr.rf _ _ _) e
