/-! what they leave (by program) -/
theorem x_X10_fail {i1 : Int32} {iv iv0 : am_I} (hf : am_fr [] [(54, 3)] iv0 iv) {y : Int32 × am_I} (e : F_X10_fail i1 iv = some y) : am_fr [] [(54, 3)] iv0 y.2 := by
  obtain rfl := Option.some.inj e
  exact (am_fr.f hf (by simp))
theorem X_X10_fail {i1 : Int32} {iv iv' : am_I} {v' : Int32} (e : F_X10_fail i1 iv = some (v', iv')) : am_fr [] [(54, 3)] iv iv' := x_X10_fail (am_fr.rf _ _ _) e
theorem x_X10_readDrawer_250 {iv iv0 : am_I} (hf : am_fr [58, 59, 60, 61, 62, 63] [(54, 19), (54, 21), (54, 22), (54, 23), (54, 24), (54, 25), (54, 26)] iv0 iv) {y : am_I} (e : J_X10_readDrawer_250  iv = some y) : am_fr [58, 59, 60, 61, 62, 63] [(54, 19), (54, 21), (54, 22), (54, 23), (54, 24), (54, 25), (54, 26)] iv0 y := by
  obtain rfl := Option.some.inj e
  exact (am_fr.a hf (by simp))
theorem x_X10_readDrawer_239 {iv iv0 : am_I} (hf : am_fr [58, 59, 60, 61, 62, 63] [(54, 19), (54, 21), (54, 22), (54, 23), (54, 24), (54, 25), (54, 26)] iv0 iv) {y : am_I} (e : J_X10_readDrawer_239  iv = some y) : am_fr [58, 59, 60, 61, 62, 63] [(54, 19), (54, 21), (54, 22), (54, 23), (54, 24), (54, 25), (54, 26)] iv0 y := by
  replace e := am_if e; rcases e with ⟨hbr, e⟩ | ⟨hbr, e⟩
  · replace e := am_o1_i e; obtain ⟨w16, e16, e⟩ := e
    have f16 := am_fr.tr hf (am_fr.up (X_X10_stepOn e16) (by simp) (by simp))
    exact x_X10_readDrawer_250 f16 e
  · exact x_X10_readDrawer_250 hf e
theorem x_X10_readDrawer_169 {i2 k1 k2 : Int32} {iv iv0 : am_I} (hf : am_fr [58, 59, 60, 61, 62, 63] [(54, 19), (54, 21), (54, 22), (54, 23), (54, 24), (54, 25), (54, 26)] iv0 iv) {y : am_I} (e : J_X10_readDrawer_169 i2 k1 k2 iv = some y) : am_fr [58, 59, 60, 61, 62, 63] [(54, 19), (54, 21), (54, 22), (54, 23), (54, 24), (54, 25), (54, 26)] iv0 y := by
  replace e := am_ckv e; obtain ⟨c10, e⟩ := e
  replace e := am_ckv e; obtain ⟨c11, e⟩ := e
  replace e := am_if e; rcases e with ⟨hbr, e⟩ | ⟨hbr, e⟩
  · replace e := am_ckv e; obtain ⟨c12, e⟩ := e
    replace e := am_if e; rcases e with ⟨hbr, e⟩ | ⟨hbr, e⟩
    · replace e := am_o1_i e; obtain ⟨w18, e18, e⟩ := e
      have f18 := am_fr.tr (am_fr.a hf (by simp)) (am_fr.up (X_X10_wrong e18) (by simp) (by simp))
      exact x_X10_readDrawer_239 f18 e
    · replace e := am_ckv e; obtain ⟨c13, e⟩ := e
      replace e := am_ckv e; obtain ⟨c14, e⟩ := e
      replace e := am_o1_i e; obtain ⟨v15, e15, e⟩ := e
      replace e := am_if e; rcases e with ⟨hbr, e⟩ | ⟨hbr, e⟩
      · exact x_X10_readDrawer_239 (am_fr.a hf (by simp)) e
      · replace e := am_o1_i e; obtain ⟨w17, e17, e⟩ := e
        have f17 := am_fr.tr (am_fr.a hf (by simp)) (am_fr.up (X_X10_wrong e17) (by simp) (by simp))
        exact x_X10_readDrawer_239 f17 e
  · exact x_X10_readDrawer_250 (am_fr.a hf (by simp)) e
theorem x_X10_readDrawer_136 {i2 : Int32} {iv iv0 : am_I} (hf : am_fr [58, 59, 60, 61, 62, 63] [(54, 19), (54, 21), (54, 22), (54, 23), (54, 24), (54, 25), (54, 26)] iv0 iv) {y : am_I} (e : J_X10_readDrawer_136 i2 iv = some y) : am_fr [58, 59, 60, 61, 62, 63] [(54, 19), (54, 21), (54, 22), (54, 23), (54, 24), (54, 25), (54, 26)] iv0 y := by
  replace e := am_o2_i e; obtain ⟨v7, w7, e7, e⟩ := e
  have f7 := am_fr.tr hf (am_fr.up (X_X10_readNumber e7) (by simp) (by simp))
  replace e := am_ckv e; obtain ⟨c8, e⟩ := e
  replace e := am_o1_i e; obtain ⟨v9, e9, e⟩ := e
  replace e := am_if e; rcases e with ⟨hbr, e⟩ | ⟨hbr, e⟩
  · exact x_X10_readDrawer_169 (am_fr.a f7 (by simp)) e
  · exact x_X10_readDrawer_169 (am_fr.a f7 (by simp)) e
theorem x_X10_readDrawer_125 {i2 : Int32} {iv iv0 : am_I} (hf : am_fr [58, 59, 60, 61, 62, 63] [(54, 19), (54, 21), (54, 22), (54, 23), (54, 24), (54, 25), (54, 26)] iv0 iv) {y : am_I} (e : J_X10_readDrawer_125 i2 iv = some y) : am_fr [58, 59, 60, 61, 62, 63] [(54, 19), (54, 21), (54, 22), (54, 23), (54, 24), (54, 25), (54, 26)] iv0 y := by
  replace e := am_if e; rcases e with ⟨hbr, e⟩ | ⟨hbr, e⟩
  · replace e := am_o1_i e; obtain ⟨w19, e19, e⟩ := e
    have f19 := am_fr.tr hf (am_fr.up (X_X10_stepOn e19) (by simp) (by simp))
    exact x_X10_readDrawer_136 f19 e
  · exact x_X10_readDrawer_136 hf e
theorem x_X10_readDrawer_17 {i1 : Int32} {iv iv0 : am_I} (hf : am_fr [58, 59, 60, 61, 62, 63] [(54, 19), (54, 21), (54, 22), (54, 23), (54, 24), (54, 25), (54, 26)] iv0 iv) {y : am_I} (e : J_X10_readDrawer_17 i1 iv = some y) : am_fr [58, 59, 60, 61, 62, 63] [(54, 19), (54, 21), (54, 22), (54, 23), (54, 24), (54, 25), (54, 26)] iv0 y := by
  replace e := am_if e; rcases e with ⟨hbr, e⟩ | ⟨hbr, e⟩
  · replace e := am_o1_i e; obtain ⟨w1, e1, e⟩ := e
    have f1 := am_fr.tr hf (am_fr.up (X_X10_stepOn e1) (by simp) (by simp))
    replace e := am_ckv e; obtain ⟨c2, e⟩ := e
    replace e := am_o2_i e; obtain ⟨v3, w3, e3, e⟩ := e
    have f3 := am_fr.tr (am_fr.a f1 (by simp)) (am_fr.up (X_X10_readNumber e3) (by simp) (by simp))
    replace e := am_ckv e; obtain ⟨c4, e⟩ := e
    replace e := am_o2_i e; obtain ⟨v5, w5, e5, e⟩ := e
    have f5 := am_fr.tr (am_fr.a f3 (by simp)) (am_fr.up (X_X10_numberNow e5) (by simp) (by simp))
    replace e := am_ckv e; obtain ⟨c6, e⟩ := e
    replace e := am_if e; rcases e with ⟨hbr, e⟩ | ⟨hbr, e⟩
    · replace e := am_ckv e; obtain ⟨c20, e⟩ := e
      replace e := am_ckv e; obtain ⟨c21, e⟩ := e
      replace e := am_o1_i e; obtain ⟨v22, e22, e⟩ := e
      replace e := am_if e; rcases e with ⟨hbr, e⟩ | ⟨hbr, e⟩
      · exact x_X10_readDrawer_125 (am_fr.a f5 (by simp)) e
      · replace e := am_o1_i e; obtain ⟨w23, e23, e⟩ := e
        have f23 := am_fr.tr (am_fr.a f5 (by simp)) (am_fr.up (X_X10_wrong e23) (by simp) (by simp))
        exact x_X10_readDrawer_125 f23 e
    · exact x_X10_readDrawer_125 (am_fr.a f5 (by simp)) e
  · obtain rfl := Option.some.inj e
    exact hf
theorem x_X10_readDrawer {i1 : Int32} {iv iv0 : am_I} (hf : am_fr [58, 59, 60, 61, 62, 63] [(54, 19), (54, 21), (54, 22), (54, 23), (54, 24), (54, 25), (54, 26)] iv0 iv) {y : am_I} (e : F_X10_readDrawer i1 iv = some y) : am_fr [58, 59, 60, 61, 62, 63] [(54, 19), (54, 21), (54, 22), (54, 23), (54, 24), (54, 25), (54, 26)] iv0 y := by
  replace e := am_if e; rcases e with ⟨hbr, e⟩ | ⟨hbr, e⟩
  · replace e := am_o1_i e; obtain ⟨w24, e24, e⟩ := e
    have f24 := am_fr.tr hf (am_fr.up (X_X10_wrong e24) (by simp) (by simp))
    exact x_X10_readDrawer_17 f24 e
  · exact x_X10_readDrawer_17 hf e
theorem X_X10_readDrawer {i1 : Int32} {iv iv' : am_I} (e : F_X10_readDrawer i1 iv = some iv') : am_fr [58, 59, 60, 61, 62, 63] [(54, 19), (54, 21), (54, 22), (54, 23), (54, 24), (54, 25), (54, 26)] iv iv' := x_X10_readDrawer (am_fr.rf _ _ _) e
theorem x_X10_readOne_60 {i2 : Int32} {iv iv0 : am_I} (hf : am_fr [] [(54, 19), (54, 21), (54, 22), (54, 23), (54, 24), (54, 25), (54, 26)] iv0 iv) {y : Int32 × am_I} (e : J_X10_readOne_60 i2 iv = some y) : am_fr [] [(54, 19), (54, 21), (54, 22), (54, 23), (54, 24), (54, 25), (54, 26)] iv0 y.2 := by
  replace e := am_if e; rcases e with ⟨hbr, e⟩ | ⟨hbr, e⟩
  · replace e := am_o1_i e; obtain ⟨w2, e2, e⟩ := e
    have f2 := am_fr.tr hf (am_fr.up (X_X10_stepOn e2) (by simp) (by simp))
    obtain rfl := Option.some.inj e
    exact f2
  · obtain rfl := Option.some.inj e
    exact hf
theorem x_X10_readOne_35 {i1 i2 : Int32} {iv iv0 : am_I} (hf : am_fr [] [(54, 19), (54, 21), (54, 22), (54, 23), (54, 24), (54, 25), (54, 26)] iv0 iv) {y : Int32 × am_I} (e : J_X10_readOne_35 i1 i2 iv = some y) : am_fr [] [(54, 19), (54, 21), (54, 22), (54, 23), (54, 24), (54, 25), (54, 26)] iv0 y.2 := by
  replace e := am_if e; rcases e with ⟨hbr, e⟩ | ⟨hbr, e⟩
  · replace e := am_ckv e; obtain ⟨c3, e⟩ := e
    replace e := am_if e; rcases e with ⟨hbr, e⟩ | ⟨hbr, e⟩
    · exact x_X10_readOne_60 hf e
    · replace e := am_o1_i e; obtain ⟨w4, e4, e⟩ := e
      have f4 := am_fr.tr hf (am_fr.up (X_X10_wrong e4) (by simp) (by simp))
      exact x_X10_readOne_60 f4 e
  · exact x_X10_readOne_60 hf e
theorem x_X10_readOne {i1 : Int32} {iv iv0 : am_I} (hf : am_fr [] [(54, 19), (54, 21), (54, 22), (54, 23), (54, 24), (54, 25), (54, 26)] iv0 iv) {y : Int32 × am_I} (e : F_X10_readOne i1 iv = some y) : am_fr [] [(54, 19), (54, 21), (54, 22), (54, 23), (54, 24), (54, 25), (54, 26)] iv0 y.2 := by
  replace e := am_o2_i e; obtain ⟨v1, w1, e1, e⟩ := e
  have f1 := am_fr.tr hf (am_fr.up (X_X10_numberNow e1) (by simp) (by simp))
  replace e := am_if e; rcases e with ⟨hbr, e⟩ | ⟨hbr, e⟩
  · replace e := am_if e; rcases e with ⟨hbr, e⟩ | ⟨hbr, e⟩
    · exact x_X10_readOne_35 f1 e
    · replace e := am_o1_i e; obtain ⟨w5, e5, e⟩ := e
      have f5 := am_fr.tr f1 (am_fr.up (X_X10_wrong e5) (by simp) (by simp))
      exact x_X10_readOne_60 f5 e
  · exact x_X10_readOne_35 f1 e
theorem X_X10_readOne {i1 : Int32} {iv iv' : am_I} {v' : Int32} (e : F_X10_readOne i1 iv = some (v', iv')) : am_fr [] [(54, 19), (54, 21), (54, 22), (54, 23), (54, 24), (54, 25), (54, 26)] iv iv' := x_X10_readOne (am_fr.rf _ _ _) e
theorem x_X10_readPerson_100 {k1 k2 : Int32} {iv iv0 : am_I} (hf : am_fr [58, 64, 65, 66] [(54, 19), (54, 21), (54, 22), (54, 23), (54, 24), (54, 25), (54, 26)] iv0 iv) {y : am_I} (e : J_X10_readPerson_100 k1 k2 iv = some y) : am_fr [58, 64, 65, 66] [(54, 19), (54, 21), (54, 22), (54, 23), (54, 24), (54, 25), (54, 26)] iv0 y := by
  replace e := am_ckv e; obtain ⟨c7, e⟩ := e
  obtain rfl := Option.some.inj e
  exact (am_fr.a (am_fr.a hf (by simp)) (by simp))
theorem x_X10_readPerson_73 {i1 k1 k2 : Int32} {iv iv0 : am_I} (hf : am_fr [58, 64, 65, 66] [(54, 19), (54, 21), (54, 22), (54, 23), (54, 24), (54, 25), (54, 26)] iv0 iv) {y : am_I} (e : J_X10_readPerson_73 i1 k1 k2 iv = some y) : am_fr [58, 64, 65, 66] [(54, 19), (54, 21), (54, 22), (54, 23), (54, 24), (54, 25), (54, 26)] iv0 y := by
  replace e := am_ckv e; obtain ⟨c5, e⟩ := e
  replace e := am_o2_i e; obtain ⟨v6, w6, e6, e⟩ := e
  have f6 := am_fr.tr (am_fr.a hf (by simp)) (am_fr.up (X_X10_passes e6) (by simp) (by simp))
  replace e := am_if e; rcases e with ⟨hbr, e⟩ | ⟨hbr, e⟩
  · exact x_X10_readPerson_100 f6 e
  · replace e := am_o2_i e; obtain ⟨v8, w8, e8, e⟩ := e
    have f8 := am_fr.tr f6 (am_fr.up (X_X10_readNumber e8) (by simp) (by simp))
    exact x_X10_readPerson_100 f8 e
theorem x_X10_readPerson_16 {iv iv0 : am_I} (hf : am_fr [58, 64, 65, 66] [(54, 19), (54, 21), (54, 22), (54, 23), (54, 24), (54, 25), (54, 26)] iv0 iv) {y : am_I} (e : J_X10_readPerson_16  iv = some y) : am_fr [58, 64, 65, 66] [(54, 19), (54, 21), (54, 22), (54, 23), (54, 24), (54, 25), (54, 26)] iv0 y := by
  replace e := am_if e; rcases e with ⟨hbr, e⟩ | ⟨hbr, e⟩
  · replace e := am_o1_i e; obtain ⟨w1, e1, e⟩ := e
    have f1 := am_fr.tr hf (am_fr.up (X_X10_stepOn e1) (by simp) (by simp))
    replace e := am_o2_i e; obtain ⟨v2, w2, e2, e⟩ := e
    have f2 := am_fr.tr f1 (am_fr.up (X_X10_readOne e2) (by simp) (by simp))
    replace e := am_ckv e; obtain ⟨c3, e⟩ := e
    replace e := am_o2_i e; obtain ⟨v4, w4, e4, e⟩ := e
    have f4 := am_fr.tr (am_fr.a f2 (by simp)) (am_fr.up (X_X10_passes e4) (by simp) (by simp))
    replace e := am_if e; rcases e with ⟨hbr, e⟩ | ⟨hbr, e⟩
    · exact x_X10_readPerson_73 f4 e
    · replace e := am_o2_i e; obtain ⟨v9, w9, e9, e⟩ := e
      have f9 := am_fr.tr f4 (am_fr.up (X_X10_readOne e9) (by simp) (by simp))
      exact x_X10_readPerson_73 f9 e
  · obtain rfl := Option.some.inj e
    exact hf
theorem x_X10_readPerson {iv iv0 : am_I} (hf : am_fr [58, 64, 65, 66] [(54, 19), (54, 21), (54, 22), (54, 23), (54, 24), (54, 25), (54, 26)] iv0 iv) {y : am_I} (e : F_X10_readPerson  iv = some y) : am_fr [58, 64, 65, 66] [(54, 19), (54, 21), (54, 22), (54, 23), (54, 24), (54, 25), (54, 26)] iv0 y := by
  replace e := am_if e; rcases e with ⟨hbr, e⟩ | ⟨hbr, e⟩
  · replace e := am_o1_i e; obtain ⟨w10, e10, e⟩ := e
    have f10 := am_fr.tr hf (am_fr.up (X_X10_wrong e10) (by simp) (by simp))
    exact x_X10_readPerson_16 f10 e
  · exact x_X10_readPerson_16 hf e
theorem X_X10_readPerson {iv iv' : am_I} (e : F_X10_readPerson  iv = some iv') : am_fr [58, 64, 65, 66] [(54, 19), (54, 21), (54, 22), (54, 23), (54, 24), (54, 25), (54, 26)] iv iv' := x_X10_readPerson (am_fr.rf _ _ _) e
theorem x_X10_readRule_16 {iv iv0 : am_I} (hf : am_fr [58, 67, 68, 69] [(54, 19), (54, 21), (54, 22), (54, 23), (54, 24), (54, 25), (54, 26), (54, 28)] iv0 iv) {y : am_I} (e : J_X10_readRule_16  iv = some y) : am_fr [58, 67, 68, 69] [(54, 19), (54, 21), (54, 22), (54, 23), (54, 24), (54, 25), (54, 26), (54, 28)] iv0 y := by
  replace e := am_if e; rcases e with ⟨hbr, e⟩ | ⟨hbr, e⟩
  · replace e := am_o1_i e; obtain ⟨w1, e1, e⟩ := e
    have f1 := am_fr.tr hf (am_fr.up (X_X10_stepOn e1) (by simp) (by simp))
    replace e := am_ckv e; obtain ⟨c2, e⟩ := e
    replace e := am_o1_i e; obtain ⟨w3, e3, e⟩ := e
    have f3 := am_fr.tr (am_fr.a f1 (by simp)) (am_fr.up (X_X10_readExpression e3) (by simp) (by simp))
    replace e := am_ckv e; obtain ⟨c4, e⟩ := e
    obtain rfl := Option.some.inj e
    exact (am_fr.a (am_fr.a f3 (by simp)) (by simp))
  · obtain rfl := Option.some.inj e
    exact hf
theorem x_X10_readRule {iv iv0 : am_I} (hf : am_fr [58, 67, 68, 69] [(54, 19), (54, 21), (54, 22), (54, 23), (54, 24), (54, 25), (54, 26), (54, 28)] iv0 iv) {y : am_I} (e : F_X10_readRule  iv = some y) : am_fr [58, 67, 68, 69] [(54, 19), (54, 21), (54, 22), (54, 23), (54, 24), (54, 25), (54, 26), (54, 28)] iv0 y := by
  replace e := am_if e; rcases e with ⟨hbr, e⟩ | ⟨hbr, e⟩
  · replace e := am_o1_i e; obtain ⟨w5, e5, e⟩ := e
    have f5 := am_fr.tr hf (am_fr.up (X_X10_wrong e5) (by simp) (by simp))
    exact x_X10_readRule_16 f5 e
  · exact x_X10_readRule_16 hf e
theorem X_X10_readRule {iv iv' : am_I} (e : F_X10_readRule  iv = some iv') : am_fr [58, 67, 68, 69] [(54, 19), (54, 21), (54, 22), (54, 23), (54, 24), (54, 25), (54, 26), (54, 28)] iv iv' := x_X10_readRule (am_fr.rf _ _ _) e
theorem xb_X10_readOnce_51 {i2 : Int32} {iv iv0 : am_I} (hf : am_fr [58] [(54, 19), (54, 21), (54, 22), (54, 23), (54, 24), (54, 25), (54, 26)] iv0 iv) {y : (Int32 × am_I) ⊕ (am_I)} (e : B_X10_readOnce_51 i2 iv = some y) : Sum.elim (fun s : (Int32 × am_I) => am_fr [58] [(54, 19), (54, 21), (54, 22), (54, 23), (54, 24), (54, 25), (54, 26)] iv0 s.2) (fun a : (am_I) => am_fr [58] [(54, 19), (54, 21), (54, 22), (54, 23), (54, 24), (54, 25), (54, 26)] iv0 a) y := by
  replace e := am_if e; rcases e with ⟨hbr, e⟩ | ⟨hbr, e⟩
  · obtain rfl := Option.some.inj e
    exact hf
  · replace e := am_o2_i e; obtain ⟨v2, w2, e2, e⟩ := e
    have f2 := am_fr.tr hf (am_fr.up (X_X10_readNumber e2) (by simp) (by simp))
    replace e := am_ckv e; obtain ⟨c3, e⟩ := e
    obtain rfl := Option.some.inj e
    exact (am_fr.a f2 (by simp))
theorem xl_X10_readOnce_51 {iv0 : am_I} (s : (Int32 × am_I)) (hf : am_fr [58] [(54, 19), (54, 21), (54, 22), (54, 23), (54, 24), (54, 25), (54, 26)] iv0 s.2) {x : (am_I)} (e : am_loop (fun s : (Int32 × am_I) => B_X10_readOnce_51 s.1 s.2) s = some x) : (fun a : (am_I) => am_fr [58] [(54, 19), (54, 21), (54, 22), (54, 23), (54, 24), (54, 25), (54, 26)] iv0 a) x :=
  am_wh_fr (f := fun s : (Int32 × am_I) => B_X10_readOnce_51 s.1 s.2) (P := fun s => am_fr [58] [(54, 19), (54, 21), (54, 22), (54, 23), (54, 24), (54, 25), (54, 26)] iv0 s.2) (K := fun a : (am_I) => am_fr [58] [(54, 19), (54, 21), (54, 22), (54, 23), (54, 24), (54, 25), (54, 26)] iv0 a) (fun s y hf e => xb_X10_readOnce_51 hf e) am_fu s x hf e
theorem x_X10_readOnce {i1 : Int32} {iv iv0 : am_I} (hf : am_fr [58] [(54, 19), (54, 21), (54, 22), (54, 23), (54, 24), (54, 25), (54, 26)] iv0 iv) {y : am_I} (e : F_X10_readOnce i1 iv = some y) : am_fr [58] [(54, 19), (54, 21), (54, 22), (54, 23), (54, 24), (54, 25), (54, 26)] iv0 y := by
  replace e := am_o1_i e; obtain ⟨w1, e1, e⟩ := e
  have f1 := am_fr.tr hf (am_fr.up (X_X10_stepOn e1) (by simp) (by simp))
  replace e := am_if e; rcases e with ⟨hbr, e⟩ | ⟨hbr, e⟩
  · replace e := am_o2_i e; obtain ⟨v6, w6, e6, e⟩ := e
    have f6 := am_fr.tr f1 (am_fr.up (X_X10_readNumber e6) (by simp) (by simp))
    obtain rfl := Option.some.inj e
    exact (am_fr.a f6 (by simp))
  · replace e := am_if e; rcases e with ⟨hbr, e⟩ | ⟨hbr, e⟩
    · replace e := am_o2_i e; obtain ⟨v5, w5, e5, e⟩ := e
      have f5 := am_fr.tr f1 (am_fr.up (X_X10_readNumber e5) (by simp) (by simp))
      obtain rfl := Option.some.inj e
      exact (am_fr.a f5 (by simp))
    · replace e := am_o1_i e; obtain ⟨a4, e4, e⟩ := e
      have f4 := xl_X10_readOnce_51 _ f1 e4
      obtain rfl := Option.some.inj e
      exact f4
theorem X_X10_readOnce {i1 : Int32} {iv iv' : am_I} (e : F_X10_readOnce i1 iv = some iv') : am_fr [58] [(54, 19), (54, 21), (54, 22), (54, 23), (54, 24), (54, 25), (54, 26)] iv iv' := x_X10_readOnce (am_fr.rf _ _ _) e
theorem x_X10_readLine_196 {i1 i4 : Int32} {iv iv0 : am_I} (hf : am_fr [58, 59, 60, 61, 62, 63, 64, 65, 66, 67, 68, 69] [(54, 19), (54, 21), (54, 22), (54, 23), (54, 24), (54, 25), (54, 26), (54, 28)] iv0 iv) {y : Int32 × am_I} (e : J_X10_readLine_196 i1 i4 iv = some y) : am_fr [58, 59, 60, 61, 62, 63, 64, 65, 66, 67, 68, 69] [(54, 19), (54, 21), (54, 22), (54, 23), (54, 24), (54, 25), (54, 26), (54, 28)] iv0 y.2 := by
  replace e := am_o1_i e; obtain ⟨w8, e8, e⟩ := e
  have f8 := am_fr.tr hf (am_fr.up (X_X10_mark e8) (by simp) (by simp))
  obtain rfl := Option.some.inj e
  exact f8
theorem x_X10_readLine_168 {i1 i4 : Int32} {iv iv0 : am_I} (hf : am_fr [58, 59, 60, 61, 62, 63, 64, 65, 66, 67, 68, 69] [(54, 19), (54, 21), (54, 22), (54, 23), (54, 24), (54, 25), (54, 26), (54, 28)] iv0 iv) {y : Int32 × am_I} (e : J_X10_readLine_168 i1 i4 iv = some y) : am_fr [58, 59, 60, 61, 62, 63, 64, 65, 66, 67, 68, 69] [(54, 19), (54, 21), (54, 22), (54, 23), (54, 24), (54, 25), (54, 26), (54, 28)] iv0 y.2 := by
  replace e := am_o2_i e; obtain ⟨v6, w6, e6, e⟩ := e
  have f6 := am_fr.tr hf (am_fr.up (X_X10_readNumber e6) (by simp) (by simp))
  replace e := am_o2_i e; obtain ⟨v7, w7, e7, e⟩ := e
  have f7 := am_fr.tr (am_fr.a f6 (by simp)) (am_fr.up (X_X10_readNumber e7) (by simp) (by simp))
  exact x_X10_readLine_196 (am_fr.a f7 (by simp)) e
theorem x_X10_readLine_157 {i1 i4 : Int32} {iv iv0 : am_I} (hf : am_fr [58, 59, 60, 61, 62, 63, 64, 65, 66, 67, 68, 69] [(54, 19), (54, 21), (54, 22), (54, 23), (54, 24), (54, 25), (54, 26), (54, 28)] iv0 iv) {y : Int32 × am_I} (e : J_X10_readLine_157 i1 i4 iv = some y) : am_fr [58, 59, 60, 61, 62, 63, 64, 65, 66, 67, 68, 69] [(54, 19), (54, 21), (54, 22), (54, 23), (54, 24), (54, 25), (54, 26), (54, 28)] iv0 y.2 := by
  replace e := am_if e; rcases e with ⟨hbr, e⟩ | ⟨hbr, e⟩
  · replace e := am_o1_i e; obtain ⟨w9, e9, e⟩ := e
    have f9 := am_fr.tr hf (am_fr.up (X_X10_stepOn e9) (by simp) (by simp))
    exact x_X10_readLine_168 f9 e
  · exact x_X10_readLine_168 hf e
theorem x_X10_readLine_145 {i1 i4 : Int32} {iv iv0 : am_I} (hf : am_fr [58, 59, 60, 61, 62, 63, 64, 65, 66, 67, 68, 69] [(54, 19), (54, 21), (54, 22), (54, 23), (54, 24), (54, 25), (54, 26), (54, 28)] iv0 iv) {y : Int32 × am_I} (e : J_X10_readLine_145 i1 i4 iv = some y) : am_fr [58, 59, 60, 61, 62, 63, 64, 65, 66, 67, 68, 69] [(54, 19), (54, 21), (54, 22), (54, 23), (54, 24), (54, 25), (54, 26), (54, 28)] iv0 y.2 := by
  replace e := am_if e; rcases e with ⟨hbr, e⟩ | ⟨hbr, e⟩
  · exact x_X10_readLine_157 hf e
  · replace e := am_o1_i e; obtain ⟨w10, e10, e⟩ := e
    have f10 := am_fr.tr hf (am_fr.up (X_X10_wrong e10) (by simp) (by simp))
    exact x_X10_readLine_157 f10 e
theorem x_X10_readLine_78 {i1 i2 i3 i4 : Int32} {iv iv0 : am_I} (hf : am_fr [58, 59, 60, 61, 62, 63, 64, 65, 66, 67, 68, 69] [(54, 19), (54, 21), (54, 22), (54, 23), (54, 24), (54, 25), (54, 26), (54, 28)] iv0 iv) {y : Int32 × am_I} (e : J_X10_readLine_78 i1 i2 i3 i4 iv = some y) : am_fr [58, 59, 60, 61, 62, 63, 64, 65, 66, 67, 68, 69] [(54, 19), (54, 21), (54, 22), (54, 23), (54, 24), (54, 25), (54, 26), (54, 28)] iv0 y.2 := by
  replace e := am_if e; rcases e with ⟨hbr, e⟩ | ⟨hbr, e⟩
  · replace e := am_o1_i e; obtain ⟨v4, e4, e⟩ := e
    replace e := am_if e; rcases e with ⟨hbr, e⟩ | ⟨hbr, e⟩
    · replace e := am_o1_i e; obtain ⟨v5, e5, e⟩ := e
      replace e := am_if e; rcases e with ⟨hbr, e⟩ | ⟨hbr, e⟩
      · replace e := am_if e; rcases e with ⟨hbr, e⟩ | ⟨hbr, e⟩
        · exact x_X10_readLine_145 hf e
        · replace e := am_if e; rcases e with ⟨hbr, e⟩ | ⟨hbr, e⟩
          · replace e := am_o1_i e; obtain ⟨w11, e11, e⟩ := e
            have f11 := am_fr.tr hf (am_fr.up (X_X10_readOnce e11) (by simp) (by simp))
            exact x_X10_readLine_196 f11 e
          · exact x_X10_readLine_145 hf e
      · replace e := am_o1_i e; obtain ⟨w12, e12, e⟩ := e
        have f12 := am_fr.tr hf (am_fr.up (X_X10_readRule e12) (by simp) (by simp))
        exact x_X10_readLine_196 f12 e
    · replace e := am_o1_i e; obtain ⟨w13, e13, e⟩ := e
      have f13 := am_fr.tr hf (am_fr.up (X_X10_readPerson e13) (by simp) (by simp))
      exact x_X10_readLine_196 f13 e
  · replace e := am_o1_i e; obtain ⟨w14, e14, e⟩ := e
    have f14 := am_fr.tr hf (am_fr.up (X_X10_readDrawer e14) (by simp) (by simp))
    exact x_X10_readLine_196 f14 e
theorem x_X10_readLine_73 {i1 i2 i3 i4 : Int32} {iv iv0 : am_I} (hf : am_fr [58, 59, 60, 61, 62, 63, 64, 65, 66, 67, 68, 69] [(54, 19), (54, 21), (54, 22), (54, 23), (54, 24), (54, 25), (54, 26), (54, 28)] iv0 iv) {y : Int32 × am_I} (e : J_X10_readLine_73 i1 i2 i3 i4 iv = some y) : am_fr [58, 59, 60, 61, 62, 63, 64, 65, 66, 67, 68, 69] [(54, 19), (54, 21), (54, 22), (54, 23), (54, 24), (54, 25), (54, 26), (54, 28)] iv0 y.2 := by
  replace e := am_o1_i e; obtain ⟨w15, e15, e⟩ := e
  have f15 := am_fr.tr hf (am_fr.up (X_X10_wrong e15) (by simp) (by simp))
  exact x_X10_readLine_78 f15 e
theorem x_X10_readLine_59 {i1 i2 i3 i4 : Int32} {iv iv0 : am_I} (hf : am_fr [58, 59, 60, 61, 62, 63, 64, 65, 66, 67, 68, 69] [(54, 19), (54, 21), (54, 22), (54, 23), (54, 24), (54, 25), (54, 26), (54, 28)] iv0 iv) {y : Int32 × am_I} (e : J_X10_readLine_59 i1 i2 i3 i4 iv = some y) : am_fr [58, 59, 60, 61, 62, 63, 64, 65, 66, 67, 68, 69] [(54, 19), (54, 21), (54, 22), (54, 23), (54, 24), (54, 25), (54, 26), (54, 28)] iv0 y.2 := by
  replace e := am_if e; rcases e with ⟨hbr, e⟩ | ⟨hbr, e⟩
  · exact x_X10_readLine_78 hf e
  · replace e := am_if e; rcases e with ⟨hbr, e⟩ | ⟨hbr, e⟩
    · exact x_X10_readLine_78 hf e
    · exact x_X10_readLine_73 hf e
theorem x_X10_readLine_46 {i1 i2 i3 k0 : Int32} {iv iv0 : am_I} (hf : am_fr [58, 59, 60, 61, 62, 63, 64, 65, 66, 67, 68, 69] [(54, 19), (54, 21), (54, 22), (54, 23), (54, 24), (54, 25), (54, 26), (54, 28)] iv0 iv) {y : Int32 × am_I} (e : J_X10_readLine_46 i1 i2 i3 k0 iv = some y) : am_fr [58, 59, 60, 61, 62, 63, 64, 65, 66, 67, 68, 69] [(54, 19), (54, 21), (54, 22), (54, 23), (54, 24), (54, 25), (54, 26), (54, 28)] iv0 y.2 := by
  replace e := am_if e; rcases e with ⟨hbr, e⟩ | ⟨hbr, e⟩
  · replace e := am_if e; rcases e with ⟨hbr, e⟩ | ⟨hbr, e⟩
    · exact x_X10_readLine_59 hf e
    · exact x_X10_readLine_73 hf e
  · exact x_X10_readLine_59 hf e
theorem x_X10_readLine {i1 : Int32} {iv iv0 : am_I} (hf : am_fr [58, 59, 60, 61, 62, 63, 64, 65, 66, 67, 68, 69] [(54, 19), (54, 21), (54, 22), (54, 23), (54, 24), (54, 25), (54, 26), (54, 28)] iv0 iv) {y : Int32 × am_I} (e : F_X10_readLine i1 iv = some y) : am_fr [58, 59, 60, 61, 62, 63, 64, 65, 66, 67, 68, 69] [(54, 19), (54, 21), (54, 22), (54, 23), (54, 24), (54, 25), (54, 26), (54, 28)] iv0 y.2 := by
  replace e := am_o1_i e; obtain ⟨v1, e1, e⟩ := e
  replace e := am_o1_i e; obtain ⟨v2, e2, e⟩ := e
  replace e := am_o1_i e; obtain ⟨v3, e3, e⟩ := e
  replace e := am_if e; rcases e with ⟨hbr, e⟩ | ⟨hbr, e⟩
  · replace e := am_if e; rcases e with ⟨hbr, e⟩ | ⟨hbr, e⟩
    · exact x_X10_readLine_46 hf e
    · exact x_X10_readLine_46 hf e
  · exact x_X10_readLine_46 hf e
theorem X_X10_readLine {i1 : Int32} {iv iv' : am_I} {v' : Int32} (e : F_X10_readLine i1 iv = some (v', iv')) : am_fr [58, 59, 60, 61, 62, 63, 64, 65, 66, 67, 68, 69] [(54, 19), (54, 21), (54, 22), (54, 23), (54, 24), (54, 25), (54, 26), (54, 28)] iv iv' := x_X10_readLine (am_fr.rf _ _ _) e
theorem xb_X10_takeHalf_2 {aa : Nat} {m : Nat} {i1 : Int32} {iv iv0 : am_I} (hf : am_fr [aa] [] iv0 iv) {y : (Int32 × am_I) ⊕ (am_I)} (e : B_X10_takeHalf_2 aa m i1 iv = some y) : Sum.elim (fun s : (Int32 × am_I) => am_fr [aa] [] iv0 s.2) (fun a : (am_I) => am_fr [aa] [] iv0 a) y := by
  replace e := am_if e; rcases e with ⟨hbr, e⟩ | ⟨hbr, e⟩
  · obtain rfl := Option.some.inj e
    exact hf
  · replace e := am_ckv e; obtain ⟨c1, e⟩ := e
    replace e := am_ckv e; obtain ⟨c2, e⟩ := e
    obtain rfl := Option.some.inj e
    exact (am_fr.a hf (by simp))
theorem xl_X10_takeHalf_2 {aa : Nat} {m : Nat} {iv0 : am_I} (s : (Int32 × am_I)) (hf : am_fr [aa] [] iv0 s.2) {x : (am_I)} (e : am_loop (fun s : (Int32 × am_I) => B_X10_takeHalf_2 aa m s.1 s.2) s = some x) : (fun a : (am_I) => am_fr [aa] [] iv0 a) x :=
  am_wh_fr (f := fun s : (Int32 × am_I) => B_X10_takeHalf_2 aa m s.1 s.2) (P := fun s => am_fr [aa] [] iv0 s.2) (K := fun a : (am_I) => am_fr [aa] [] iv0 a) (fun s y hf e => xb_X10_takeHalf_2 hf e) am_fu s x hf e
theorem x_X10_takeHalf {aa : Nat} {m : Nat} {iv iv0 : am_I} (hf : am_fr [aa] [] iv0 iv) {y : am_I} (e : F_X10_takeHalf aa m  iv = some y) : am_fr [aa] [] iv0 y := by
  replace e := am_o1_i e; obtain ⟨a3, e3, e⟩ := e
  have f3 := xl_X10_takeHalf_2 _ hf e3
  obtain rfl := Option.some.inj e
  exact f3
theorem X_X10_takeHalf {aa : Nat} {m : Nat} {iv iv' : am_I} (e : F_X10_takeHalf aa m  iv = some iv') : am_fr [aa] [] iv iv' := x_X10_takeHalf (am_fr.rf _ _ _) e
theorem xb_X10_take_106 {i1 : Int32} {iv iv0 : am_I} (hf : am_fr [58, 59, 60, 61, 62, 63, 64, 65, 66, 67, 68, 69, 72] [(54, 29), (54, 30), (54, 31), (54, 32), (54, 45), (54, 48)] iv0 iv) {y : (Int32 × am_I) ⊕ (am_I)} (e : B_X10_take_106 i1 iv = some y) : Sum.elim (fun s : (Int32 × am_I) => am_fr [58, 59, 60, 61, 62, 63, 64, 65, 66, 67, 68, 69, 72] [(54, 29), (54, 30), (54, 31), (54, 32), (54, 45), (54, 48)] iv0 s.2) (fun a : (am_I) => am_fr [58, 59, 60, 61, 62, 63, 64, 65, 66, 67, 68, 69, 72] [(54, 29), (54, 30), (54, 31), (54, 32), (54, 45), (54, 48)] iv0 a) y := by
  replace e := am_if e; rcases e with ⟨hbr, e⟩ | ⟨hbr, e⟩
  · obtain rfl := Option.some.inj e
    exact hf
  · replace e := am_ckv e; obtain ⟨c13, e⟩ := e
    obtain rfl := Option.some.inj e
    exact (am_fr.a hf (by simp))
theorem xl_X10_take_106 {iv0 : am_I} (s : (Int32 × am_I)) (hf : am_fr [58, 59, 60, 61, 62, 63, 64, 65, 66, 67, 68, 69, 72] [(54, 29), (54, 30), (54, 31), (54, 32), (54, 45), (54, 48)] iv0 s.2) {x : (am_I)} (e : am_loop (fun s : (Int32 × am_I) => B_X10_take_106 s.1 s.2) s = some x) : (fun a : (am_I) => am_fr [58, 59, 60, 61, 62, 63, 64, 65, 66, 67, 68, 69, 72] [(54, 29), (54, 30), (54, 31), (54, 32), (54, 45), (54, 48)] iv0 a) x :=
  am_wh_fr (f := fun s : (Int32 × am_I) => B_X10_take_106 s.1 s.2) (P := fun s => am_fr [58, 59, 60, 61, 62, 63, 64, 65, 66, 67, 68, 69, 72] [(54, 29), (54, 30), (54, 31), (54, 32), (54, 45), (54, 48)] iv0 s.2) (K := fun a : (am_I) => am_fr [58, 59, 60, 61, 62, 63, 64, 65, 66, 67, 68, 69, 72] [(54, 29), (54, 30), (54, 31), (54, 32), (54, 45), (54, 48)] iv0 a) (fun s y hf e => xb_X10_take_106 hf e) am_fu s x hf e
theorem x_X10_take {iv iv0 : am_I} (hf : am_fr [58, 59, 60, 61, 62, 63, 64, 65, 66, 67, 68, 69, 72] [(54, 29), (54, 30), (54, 31), (54, 32), (54, 45), (54, 48)] iv0 iv) {y : am_I} (e : F_X10_take  iv = some y) : am_fr [58, 59, 60, 61, 62, 63, 64, 65, 66, 67, 68, 69, 72] [(54, 29), (54, 30), (54, 31), (54, 32), (54, 45), (54, 48)] iv0 y := by
  replace e := am_o1_i e; obtain ⟨w1, e1, e⟩ := e
  have f1 := am_fr.tr hf (am_fr.up (X_X10_takeHalf e1) (by simp) (by simp))
  replace e := am_o1_i e; obtain ⟨w2, e2, e⟩ := e
  have f2 := am_fr.tr f1 (am_fr.up (X_X10_takeHalf e2) (by simp) (by simp))
  replace e := am_o1_i e; obtain ⟨w3, e3, e⟩ := e
  have f3 := am_fr.tr f2 (am_fr.up (X_X10_takeHalf e3) (by simp) (by simp))
  replace e := am_o1_i e; obtain ⟨w4, e4, e⟩ := e
  have f4 := am_fr.tr f3 (am_fr.up (X_X10_takeHalf e4) (by simp) (by simp))
  replace e := am_o1_i e; obtain ⟨w5, e5, e⟩ := e
  have f5 := am_fr.tr f4 (am_fr.up (X_X10_takeHalf e5) (by simp) (by simp))
  replace e := am_o1_i e; obtain ⟨w6, e6, e⟩ := e
  have f6 := am_fr.tr f5 (am_fr.up (X_X10_takeHalf e6) (by simp) (by simp))
  replace e := am_o1_i e; obtain ⟨w7, e7, e⟩ := e
  have f7 := am_fr.tr f6 (am_fr.up (X_X10_takeHalf e7) (by simp) (by simp))
  replace e := am_o1_i e; obtain ⟨w8, e8, e⟩ := e
  have f8 := am_fr.tr f7 (am_fr.up (X_X10_takeHalf e8) (by simp) (by simp))
  replace e := am_o1_i e; obtain ⟨w9, e9, e⟩ := e
  have f9 := am_fr.tr f8 (am_fr.up (X_X10_takeHalf e9) (by simp) (by simp))
  replace e := am_o1_i e; obtain ⟨w10, e10, e⟩ := e
  have f10 := am_fr.tr f9 (am_fr.up (X_X10_takeHalf e10) (by simp) (by simp))
  replace e := am_o1_i e; obtain ⟨w11, e11, e⟩ := e
  have f11 := am_fr.tr f10 (am_fr.up (X_X10_takeHalf e11) (by simp) (by simp))
  replace e := am_o1_i e; obtain ⟨w12, e12, e⟩ := e
  have f12 := am_fr.tr f11 (am_fr.up (X_X10_takeHalf e12) (by simp) (by simp))
  replace e := am_o1_i e; obtain ⟨a14, e14, e⟩ := e
  have f14 := xl_X10_take_106 _ (am_fr.f (am_fr.f (am_fr.f (am_fr.f f12 (by simp)) (by simp)) (by simp)) (by simp)) e14
  obtain rfl := Option.some.inj e
  exact (am_fr.f (am_fr.f f14 (by simp)) (by simp))
theorem X_X10_take {iv iv' : am_I} (e : F_X10_take  iv = some iv') : am_fr [58, 59, 60, 61, 62, 63, 64, 65, 66, 67, 68, 69, 72] [(54, 29), (54, 30), (54, 31), (54, 32), (54, 45), (54, 48)] iv iv' := x_X10_take (am_fr.rf _ _ _) e
theorem x_X10_city_17 {iv iv0 : am_I} (hf : am_fr [58, 59, 60, 61, 62, 63, 64, 65, 66, 67, 68, 69, 70, 72] [(54, 18), (54, 19), (54, 20), (54, 21), (54, 22), (54, 23), (54, 24), (54, 25), (54, 26), (54, 27), (54, 28), (54, 29), (54, 3), (54, 30), (54, 31), (54, 32), (54, 45), (54, 48)] iv0 iv) {y : Int32 × am_I} (e : J_X10_city_17  iv = some y) : am_fr [58, 59, 60, 61, 62, 63, 64, 65, 66, 67, 68, 69, 70, 72] [(54, 18), (54, 19), (54, 20), (54, 21), (54, 22), (54, 23), (54, 24), (54, 25), (54, 26), (54, 27), (54, 28), (54, 29), (54, 3), (54, 30), (54, 31), (54, 32), (54, 45), (54, 48)] iv0 y.2 := by
  replace e := am_o2_i e; obtain ⟨v1, w1, e1, e⟩ := e
  have f1 := am_fr.tr hf (am_fr.up (X_X10_fail e1) (by simp) (by simp))
  obtain rfl := Option.some.inj e
  exact f1
theorem x_X10_city_98 {i2 k1 k2 : Int32} {iv iv0 : am_I} (hf : am_fr [58, 59, 60, 61, 62, 63, 64, 65, 66, 67, 68, 69, 70, 72] [(54, 18), (54, 19), (54, 20), (54, 21), (54, 22), (54, 23), (54, 24), (54, 25), (54, 26), (54, 27), (54, 28), (54, 29), (54, 3), (54, 30), (54, 31), (54, 32), (54, 45), (54, 48)] iv0 iv) {y : (Int32 × am_I) ⊕ (am_I)} (e : J_X10_city_98 i2 k1 k2 iv = some y) : Sum.elim (fun s : (Int32 × am_I) => am_fr [58, 59, 60, 61, 62, 63, 64, 65, 66, 67, 68, 69, 70, 72] [(54, 18), (54, 19), (54, 20), (54, 21), (54, 22), (54, 23), (54, 24), (54, 25), (54, 26), (54, 27), (54, 28), (54, 29), (54, 3), (54, 30), (54, 31), (54, 32), (54, 45), (54, 48)] iv0 s.2) (fun a : (am_I) => am_fr [58, 59, 60, 61, 62, 63, 64, 65, 66, 67, 68, 69, 70, 72] [(54, 18), (54, 19), (54, 20), (54, 21), (54, 22), (54, 23), (54, 24), (54, 25), (54, 26), (54, 27), (54, 28), (54, 29), (54, 3), (54, 30), (54, 31), (54, 32), (54, 45), (54, 48)] iv0 a) y := by
  replace e := am_ckv e; obtain ⟨c2, e⟩ := e
  obtain rfl := Option.some.inj e
  exact (am_fr.a hf (by simp))
theorem xb_X10_city_56 {i2 : Int32} {iv iv0 : am_I} (hf : am_fr [58, 59, 60, 61, 62, 63, 64, 65, 66, 67, 68, 69, 70, 72] [(54, 18), (54, 19), (54, 20), (54, 21), (54, 22), (54, 23), (54, 24), (54, 25), (54, 26), (54, 27), (54, 28), (54, 29), (54, 3), (54, 30), (54, 31), (54, 32), (54, 45), (54, 48)] iv0 iv) {y : (Int32 × am_I) ⊕ (am_I)} (e : B_X10_city_56 i2 iv = some y) : Sum.elim (fun s : (Int32 × am_I) => am_fr [58, 59, 60, 61, 62, 63, 64, 65, 66, 67, 68, 69, 70, 72] [(54, 18), (54, 19), (54, 20), (54, 21), (54, 22), (54, 23), (54, 24), (54, 25), (54, 26), (54, 27), (54, 28), (54, 29), (54, 3), (54, 30), (54, 31), (54, 32), (54, 45), (54, 48)] iv0 s.2) (fun a : (am_I) => am_fr [58, 59, 60, 61, 62, 63, 64, 65, 66, 67, 68, 69, 70, 72] [(54, 18), (54, 19), (54, 20), (54, 21), (54, 22), (54, 23), (54, 24), (54, 25), (54, 26), (54, 27), (54, 28), (54, 29), (54, 3), (54, 30), (54, 31), (54, 32), (54, 45), (54, 48)] iv0 a) y := by
  replace e := am_if e; rcases e with ⟨hbr, e⟩ | ⟨hbr, e⟩
  · obtain rfl := Option.some.inj e
    exact hf
  · replace e := am_if e; rcases e with ⟨hbr, e⟩ | ⟨hbr, e⟩
    · exact x_X10_city_98 hf e
    · replace e := am_if e; rcases e with ⟨hbr, e⟩ | ⟨hbr, e⟩
      · exact x_X10_city_98 hf e
      · replace e := am_if e; rcases e with ⟨hbr, e⟩ | ⟨hbr, e⟩
        · exact x_X10_city_98 hf e
        · exact x_X10_city_98 hf e
theorem xl_X10_city_56 {iv0 : am_I} (s : (Int32 × am_I)) (hf : am_fr [58, 59, 60, 61, 62, 63, 64, 65, 66, 67, 68, 69, 70, 72] [(54, 18), (54, 19), (54, 20), (54, 21), (54, 22), (54, 23), (54, 24), (54, 25), (54, 26), (54, 27), (54, 28), (54, 29), (54, 3), (54, 30), (54, 31), (54, 32), (54, 45), (54, 48)] iv0 s.2) {x : (am_I)} (e : am_loop (fun s : (Int32 × am_I) => B_X10_city_56 s.1 s.2) s = some x) : (fun a : (am_I) => am_fr [58, 59, 60, 61, 62, 63, 64, 65, 66, 67, 68, 69, 70, 72] [(54, 18), (54, 19), (54, 20), (54, 21), (54, 22), (54, 23), (54, 24), (54, 25), (54, 26), (54, 27), (54, 28), (54, 29), (54, 3), (54, 30), (54, 31), (54, 32), (54, 45), (54, 48)] iv0 a) x :=
  am_wh_fr (f := fun s : (Int32 × am_I) => B_X10_city_56 s.1 s.2) (P := fun s => am_fr [58, 59, 60, 61, 62, 63, 64, 65, 66, 67, 68, 69, 70, 72] [(54, 18), (54, 19), (54, 20), (54, 21), (54, 22), (54, 23), (54, 24), (54, 25), (54, 26), (54, 27), (54, 28), (54, 29), (54, 3), (54, 30), (54, 31), (54, 32), (54, 45), (54, 48)] iv0 s.2) (K := fun a : (am_I) => am_fr [58, 59, 60, 61, 62, 63, 64, 65, 66, 67, 68, 69, 70, 72] [(54, 18), (54, 19), (54, 20), (54, 21), (54, 22), (54, 23), (54, 24), (54, 25), (54, 26), (54, 27), (54, 28), (54, 29), (54, 3), (54, 30), (54, 31), (54, 32), (54, 45), (54, 48)] iv0 a) (fun s y hf e => xb_X10_city_56 hf e) am_fu s x hf e
theorem xb_X10_city_111 {i2 : Int32} {iv iv0 : am_I} (hf : am_fr [58, 59, 60, 61, 62, 63, 64, 65, 66, 67, 68, 69, 70, 72] [(54, 18), (54, 19), (54, 20), (54, 21), (54, 22), (54, 23), (54, 24), (54, 25), (54, 26), (54, 27), (54, 28), (54, 29), (54, 3), (54, 30), (54, 31), (54, 32), (54, 45), (54, 48)] iv0 iv) {y : (Int32 × am_I) ⊕ (am_I)} (e : B_X10_city_111 i2 iv = some y) : Sum.elim (fun s : (Int32 × am_I) => am_fr [58, 59, 60, 61, 62, 63, 64, 65, 66, 67, 68, 69, 70, 72] [(54, 18), (54, 19), (54, 20), (54, 21), (54, 22), (54, 23), (54, 24), (54, 25), (54, 26), (54, 27), (54, 28), (54, 29), (54, 3), (54, 30), (54, 31), (54, 32), (54, 45), (54, 48)] iv0 s.2) (fun a : (am_I) => am_fr [58, 59, 60, 61, 62, 63, 64, 65, 66, 67, 68, 69, 70, 72] [(54, 18), (54, 19), (54, 20), (54, 21), (54, 22), (54, 23), (54, 24), (54, 25), (54, 26), (54, 27), (54, 28), (54, 29), (54, 3), (54, 30), (54, 31), (54, 32), (54, 45), (54, 48)] iv0 a) y := by
  replace e := am_if e; rcases e with ⟨hbr, e⟩ | ⟨hbr, e⟩
  · replace e := am_if e; rcases e with ⟨hbr, e⟩ | ⟨hbr, e⟩
    · obtain rfl := Option.some.inj e
      exact hf
    · replace e := am_o2_i e; obtain ⟨v5, w5, e5, e⟩ := e
      have f5 := am_fr.tr hf (am_fr.up (X_X10_readLine e5) (by simp) (by simp))
      obtain rfl := Option.some.inj e
      exact f5
  · obtain rfl := Option.some.inj e
    exact hf
theorem xl_X10_city_111 {iv0 : am_I} (s : (Int32 × am_I)) (hf : am_fr [58, 59, 60, 61, 62, 63, 64, 65, 66, 67, 68, 69, 70, 72] [(54, 18), (54, 19), (54, 20), (54, 21), (54, 22), (54, 23), (54, 24), (54, 25), (54, 26), (54, 27), (54, 28), (54, 29), (54, 3), (54, 30), (54, 31), (54, 32), (54, 45), (54, 48)] iv0 s.2) {x : (am_I)} (e : am_loop (fun s : (Int32 × am_I) => B_X10_city_111 s.1 s.2) s = some x) : (fun a : (am_I) => am_fr [58, 59, 60, 61, 62, 63, 64, 65, 66, 67, 68, 69, 70, 72] [(54, 18), (54, 19), (54, 20), (54, 21), (54, 22), (54, 23), (54, 24), (54, 25), (54, 26), (54, 27), (54, 28), (54, 29), (54, 3), (54, 30), (54, 31), (54, 32), (54, 45), (54, 48)] iv0 a) x :=
  am_wh_fr (f := fun s : (Int32 × am_I) => B_X10_city_111 s.1 s.2) (P := fun s => am_fr [58, 59, 60, 61, 62, 63, 64, 65, 66, 67, 68, 69, 70, 72] [(54, 18), (54, 19), (54, 20), (54, 21), (54, 22), (54, 23), (54, 24), (54, 25), (54, 26), (54, 27), (54, 28), (54, 29), (54, 3), (54, 30), (54, 31), (54, 32), (54, 45), (54, 48)] iv0 s.2) (K := fun a : (am_I) => am_fr [58, 59, 60, 61, 62, 63, 64, 65, 66, 67, 68, 69, 70, 72] [(54, 18), (54, 19), (54, 20), (54, 21), (54, 22), (54, 23), (54, 24), (54, 25), (54, 26), (54, 27), (54, 28), (54, 29), (54, 3), (54, 30), (54, 31), (54, 32), (54, 45), (54, 48)] iv0 a) (fun s y hf e => xb_X10_city_111 hf e) am_fu s x hf e
theorem x_X10_city_134 {iv iv0 : am_I} (hf : am_fr [58, 59, 60, 61, 62, 63, 64, 65, 66, 67, 68, 69, 70, 72] [(54, 18), (54, 19), (54, 20), (54, 21), (54, 22), (54, 23), (54, 24), (54, 25), (54, 26), (54, 27), (54, 28), (54, 29), (54, 3), (54, 30), (54, 31), (54, 32), (54, 45), (54, 48)] iv0 iv) {y : Int32 × am_I} (e : J_X10_city_134  iv = some y) : am_fr [58, 59, 60, 61, 62, 63, 64, 65, 66, 67, 68, 69, 70, 72] [(54, 18), (54, 19), (54, 20), (54, 21), (54, 22), (54, 23), (54, 24), (54, 25), (54, 26), (54, 27), (54, 28), (54, 29), (54, 3), (54, 30), (54, 31), (54, 32), (54, 45), (54, 48)] iv0 y.2 := by
  replace e := am_if e; rcases e with ⟨hbr, e⟩ | ⟨hbr, e⟩
  · replace e := am_o1_i e; obtain ⟨w7, e7, e⟩ := e
    have f7 := am_fr.tr hf (am_fr.up (X_X10_take e7) (by simp) (by simp))
    obtain rfl := Option.some.inj e
    exact f7
  · obtain rfl := Option.some.inj e
    exact (am_fr.a (am_fr.f hf (by simp)) (by simp))
theorem x_X10_city {i1 : Int32} {iv iv0 : am_I} (hf : am_fr [58, 59, 60, 61, 62, 63, 64, 65, 66, 67, 68, 69, 70, 72] [(54, 18), (54, 19), (54, 20), (54, 21), (54, 22), (54, 23), (54, 24), (54, 25), (54, 26), (54, 27), (54, 28), (54, 29), (54, 3), (54, 30), (54, 31), (54, 32), (54, 45), (54, 48)] iv0 iv) {y : Int32 × am_I} (e : F_X10_city i1 iv = some y) : am_fr [58, 59, 60, 61, 62, 63, 64, 65, 66, 67, 68, 69, 70, 72] [(54, 18), (54, 19), (54, 20), (54, 21), (54, 22), (54, 23), (54, 24), (54, 25), (54, 26), (54, 27), (54, 28), (54, 29), (54, 3), (54, 30), (54, 31), (54, 32), (54, 45), (54, 48)] iv0 y.2 := by
  replace e := am_if e; rcases e with ⟨hbr, e⟩ | ⟨hbr, e⟩
  · exact x_X10_city_17 (am_fr.f hf (by simp)) e
  · replace e := am_if e; rcases e with ⟨hbr, e⟩ | ⟨hbr, e⟩
    · replace e := am_o1_i e; obtain ⟨a3, e3, e⟩ := e
      have f3 := xl_X10_city_56 _ (am_fr.f (am_fr.f (am_fr.f (am_fr.f (am_fr.f (am_fr.f (am_fr.f hf (by simp)) (by simp)) (by simp)) (by simp)) (by simp)) (by simp)) (by simp)) e3
      replace e := am_o1_i e; obtain ⟨w4, e4, e⟩ := e
      have f4 := am_fr.tr f3 (am_fr.up (X_X10_stepOn e4) (by simp) (by simp))
      replace e := am_o1_i e; obtain ⟨a6, e6, e⟩ := e
      have f6 := xl_X10_city_111 _ f4 e6
      exact x_X10_city_134 f6 e
    · exact x_X10_city_17 (am_fr.f hf (by simp)) e
theorem X_X10_city {i1 : Int32} {iv iv' : am_I} {v' : Int32} (e : F_X10_city i1 iv = some (v', iv')) : am_fr [58, 59, 60, 61, 62, 63, 64, 65, 66, 67, 68, 69, 70, 72] [(54, 18), (54, 19), (54, 20), (54, 21), (54, 22), (54, 23), (54, 24), (54, 25), (54, 26), (54, 27), (54, 28), (54, 29), (54, 3), (54, 30), (54, 31), (54, 32), (54, 45), (54, 48)] iv iv' := x_X10_city (am_fr.rf _ _ _) e
theorem x_X10_fault {iv iv0 : am_I} (hf : am_fr [] [(54, 3)] iv0 iv) {y : Int32 × am_I} (e : F_X10_fault  iv = some y) : am_fr [] [(54, 3)] iv0 y.2 := by
  obtain rfl := Option.some.inj e
  exact (am_fr.f hf (by simp))
theorem X_X10_fault {iv iv' : am_I} {v' : Int32} (e : F_X10_fault  iv = some (v', iv')) : am_fr [] [(54, 3)] iv iv' := x_X10_fault (am_fr.rf _ _ _) e
theorem x_X10_feed_76 {i1 i2 i3 i4 i5 i6 k0 : Int32} {iv iv0 : am_I} (hf : am_fr [71] [(54, 18), (54, 3)] iv0 iv) {y : (Int32 × am_I) ⊕ (am_I)} (e : J_X10_feed_76 i1 i2 i3 i4 i5 i6 k0 iv = some y) : Sum.elim (fun s : (Int32 × am_I) => am_fr [71] [(54, 18), (54, 3)] iv0 s.2) (fun a : (am_I) => am_fr [71] [(54, 18), (54, 3)] iv0 a) y := by
  replace e := am_ckv e; obtain ⟨c1, e⟩ := e
  obtain rfl := Option.some.inj e
  exact (am_fr.f (am_fr.a hf (by simp)) (by simp))
theorem xb_X10_feed_23 {i1 i2 i3 i4 i5 i6 : Int32} {iv iv0 : am_I} (hf : am_fr [71] [(54, 18), (54, 3)] iv0 iv) {y : (Int32 × am_I) ⊕ (am_I)} (e : B_X10_feed_23 i1 i2 i3 i4 i5 i6 iv = some y) : Sum.elim (fun s : (Int32 × am_I) => am_fr [71] [(54, 18), (54, 3)] iv0 s.2) (fun a : (am_I) => am_fr [71] [(54, 18), (54, 3)] iv0 a) y := by
  replace e := am_if e; rcases e with ⟨hbr, e⟩ | ⟨hbr, e⟩
  · obtain rfl := Option.some.inj e
    exact hf
  · replace e := am_if e; rcases e with ⟨hbr, e⟩ | ⟨hbr, e⟩
    · replace e := am_if e; rcases e with ⟨hbr, e⟩ | ⟨hbr, e⟩
      · replace e := am_if e; rcases e with ⟨hbr, e⟩ | ⟨hbr, e⟩
        · replace e := am_if e; rcases e with ⟨hbr, e⟩ | ⟨hbr, e⟩
          · exact x_X10_feed_76 hf e
          · exact x_X10_feed_76 hf e
        · exact x_X10_feed_76 hf e
      · exact x_X10_feed_76 hf e
    · exact x_X10_feed_76 hf e
theorem xl_X10_feed_23 {i1 i2 i3 i4 i5 : Int32} {iv0 : am_I} (s : (Int32 × am_I)) (hf : am_fr [71] [(54, 18), (54, 3)] iv0 s.2) {x : (am_I)} (e : am_loop (fun s : (Int32 × am_I) => B_X10_feed_23 i1 i2 i3 i4 i5 s.1 s.2) s = some x) : (fun a : (am_I) => am_fr [71] [(54, 18), (54, 3)] iv0 a) x :=
  am_wh_fr (f := fun s : (Int32 × am_I) => B_X10_feed_23 i1 i2 i3 i4 i5 s.1 s.2) (P := fun s => am_fr [71] [(54, 18), (54, 3)] iv0 s.2) (K := fun a : (am_I) => am_fr [71] [(54, 18), (54, 3)] iv0 a) (fun s y hf e => xb_X10_feed_23 hf e) am_fu s x hf e
theorem x_X10_feed {i1 i2 i3 i4 i5 : Int32} {iv iv0 : am_I} (hf : am_fr [71] [(54, 18), (54, 3)] iv0 iv) {y : Int32 × am_I} (e : F_X10_feed i1 i2 i3 i4 i5 iv = some y) : am_fr [71] [(54, 18), (54, 3)] iv0 y.2 := by
  replace e := am_if e; rcases e with ⟨hbr, e⟩ | ⟨hbr, e⟩
  · replace e := am_o1_i e; obtain ⟨a2, e2, e⟩ := e
    have f2 := xl_X10_feed_23 _ (am_fr.f hf (by simp)) e2
    obtain rfl := Option.some.inj e
    exact f2
  · obtain rfl := Option.some.inj e
    exact (am_fr.f hf (by simp))
theorem X_X10_feed {i1 i2 i3 i4 i5 : Int32} {iv iv' : am_I} {v' : Int32} (e : F_X10_feed i1 i2 i3 i4 i5 iv = some (v', iv')) : am_fr [71] [(54, 18), (54, 3)] iv iv' := x_X10_feed (am_fr.rf _ _ _) e
