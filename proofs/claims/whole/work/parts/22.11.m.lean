/-! what they leave (by program) -/
theorem x_X10_readPart_56 {rc : Int32 → am_I → Option am_I} (hrf : ∀ {x : Int32} {iv y : am_I}, rc x iv = some y → am_fr [69] [(54, 19), (54, 21), (54, 22), (54, 23), (54, 24), (54, 25), (54, 26), (54, 28)] iv y) {i2 : Int32} {iv iv0 : am_I} (hf : am_fr [69] [(54, 19), (54, 21), (54, 22), (54, 23), (54, 24), (54, 25), (54, 26), (54, 28)] iv0 iv) {y : am_I} (e : J_X10_readPart_56 rc i2 iv = some y) : am_fr [69] [(54, 19), (54, 21), (54, 22), (54, 23), (54, 24), (54, 25), (54, 26), (54, 28)] iv0 y := by
  replace e := am_o1_i e; obtain ⟨w5, e5, e⟩ := e
  have f5 := am_fr.tr hf (am_fr.up (X_X10_lay e5) (by simp) (by simp))
  replace e := am_if e; rcases e with ⟨hbr, e⟩ | ⟨hbr, e⟩
  · replace e := am_o1_i e; obtain ⟨w6, e6, e⟩ := e
    have f6 := am_fr.tr f5 (am_fr.up (X_X10_stepOn e6) (by simp) (by simp))
    obtain rfl := Option.some.inj e
    exact f6
  · obtain rfl := Option.some.inj e
    exact f5
theorem x_X10_readPart {rc : Int32 → am_I → Option am_I} (hrf : ∀ {x : Int32} {iv y : am_I}, rc x iv = some y → am_fr [69] [(54, 19), (54, 21), (54, 22), (54, 23), (54, 24), (54, 25), (54, 26), (54, 28)] iv y) {i1 : Int32} {iv iv0 : am_I} (hf : am_fr [69] [(54, 19), (54, 21), (54, 22), (54, 23), (54, 24), (54, 25), (54, 26), (54, 28)] iv0 iv) {y : am_I} (e : F_X10_readPart rc i1 iv = some y) : am_fr [69] [(54, 19), (54, 21), (54, 22), (54, 23), (54, 24), (54, 25), (54, 26), (54, 28)] iv0 y := by
  replace e := am_if e; rcases e with ⟨hbr, e⟩ | ⟨hbr, e⟩
  · replace e := am_if e; rcases e with ⟨hbr, e⟩ | ⟨hbr, e⟩
    · replace e := am_o2_i e; obtain ⟨v8, w8, e8, e⟩ := e
      have f8 := am_fr.tr hf (am_fr.up (X_X10_readNumber e8) (by simp) (by simp))
      replace e := am_o1_i e; obtain ⟨w9, e9, e⟩ := e
      have f9 := am_fr.tr f8 (am_fr.up (X_X10_lay e9) (by simp) (by simp))
      obtain rfl := Option.some.inj e
      exact f9
    · replace e := am_if e; rcases e with ⟨hbr, e⟩ | ⟨hbr, e⟩
      · replace e := am_o1_i e; obtain ⟨v4, e4, e⟩ := e
        replace e := am_if e; rcases e with ⟨hbr, e⟩ | ⟨hbr, e⟩
        · replace e := am_o1_i e; obtain ⟨w7, e7, e⟩ := e
          have f7 := am_fr.tr hf (am_fr.up (X_X10_wrong e7) (by simp) (by simp))
          exact x_X10_readPart_56 hrf f7 e
        · exact x_X10_readPart_56 hrf hf e
      · replace e := am_o1_i e; obtain ⟨w1, e1, e⟩ := e
        have f1 := am_fr.tr hf (am_fr.up (X_X10_mark e1) (by simp) (by simp))
        replace e := am_o1_i e; obtain ⟨w2, e2, e⟩ := e
        have f2 := am_fr.tr f1 (am_fr.up (hrf e2) (by simp) (by simp))
        replace e := am_o1_i e; obtain ⟨w3, e3, e⟩ := e
        have f3 := am_fr.tr f2 (am_fr.up (X_X10_mark e3) (by simp) (by simp))
        obtain rfl := Option.some.inj e
        exact f3
  · obtain rfl := Option.some.inj e
    exact hf
theorem X_X10_readPart {rc : Int32 → am_I → Option am_I} (hrf : ∀ {x : Int32} {iv y : am_I}, rc x iv = some y → am_fr [69] [(54, 19), (54, 21), (54, 22), (54, 23), (54, 24), (54, 25), (54, 26), (54, 28)] iv y) {i1 : Int32} {iv iv' : am_I} (e : F_X10_readPart rc i1 iv = some iv') : am_fr [69] [(54, 19), (54, 21), (54, 22), (54, 23), (54, 24), (54, 25), (54, 26), (54, 28)] iv iv' := x_X10_readPart hrf (am_fr.rf _ _ _) e
theorem x_X10_readProduct_39 {rc : Int32 → am_I → Option am_I} (hrf : ∀ {x : Int32} {iv y : am_I}, rc x iv = some y → am_fr [69] [(54, 19), (54, 21), (54, 22), (54, 23), (54, 24), (54, 25), (54, 26), (54, 28)] iv y) {i1 k0 : Int32} {iv iv0 : am_I} (hf : am_fr [69] [(54, 19), (54, 21), (54, 22), (54, 23), (54, 24), (54, 25), (54, 26), (54, 28)] iv0 iv) {y : (am_I) ⊕ (am_I)} (e : J_X10_readProduct_39 rc i1 k0 iv = some y) : Sum.elim (fun s : (am_I) => am_fr [69] [(54, 19), (54, 21), (54, 22), (54, 23), (54, 24), (54, 25), (54, 26), (54, 28)] iv0 s) (fun a : (am_I) => am_fr [69] [(54, 19), (54, 21), (54, 22), (54, 23), (54, 24), (54, 25), (54, 26), (54, 28)] iv0 a) y := by
  replace e := am_o1_i e; obtain ⟨w4, e4, e⟩ := e
  have f4 := am_fr.tr hf (am_fr.up (X_X10_stepOn e4) (by simp) (by simp))
  replace e := am_o1_i e; obtain ⟨w5, e5, e⟩ := e
  have f5 := am_fr.tr f4 (am_fr.up (X_X10_readPart hrf e5) (by simp) (by simp))
  replace e := am_o1_i e; obtain ⟨w6, e6, e⟩ := e
  have f6 := am_fr.tr f5 (am_fr.up (X_X10_lay e6) (by simp) (by simp))
  obtain rfl := Option.some.inj e
  exact f6
theorem x_X10_readProduct_23 {rc : Int32 → am_I → Option am_I} (hrf : ∀ {x : Int32} {iv y : am_I}, rc x iv = some y → am_fr [69] [(54, 19), (54, 21), (54, 22), (54, 23), (54, 24), (54, 25), (54, 26), (54, 28)] iv y) {i1 : Int32} {iv iv0 : am_I} (hf : am_fr [69] [(54, 19), (54, 21), (54, 22), (54, 23), (54, 24), (54, 25), (54, 26), (54, 28)] iv0 iv) {y : (am_I) ⊕ (am_I)} (e : J_X10_readProduct_23 rc i1 iv = some y) : Sum.elim (fun s : (am_I) => am_fr [69] [(54, 19), (54, 21), (54, 22), (54, 23), (54, 24), (54, 25), (54, 26), (54, 28)] iv0 s) (fun a : (am_I) => am_fr [69] [(54, 19), (54, 21), (54, 22), (54, 23), (54, 24), (54, 25), (54, 26), (54, 28)] iv0 a) y := by
  replace e := am_o1_i e; obtain ⟨v3, e3, e⟩ := e
  replace e := am_if e; rcases e with ⟨hbr, e⟩ | ⟨hbr, e⟩
  · exact x_X10_readProduct_39 hrf hf e
  · exact x_X10_readProduct_39 hrf hf e
theorem xb_X10_readProduct_5 {rc : Int32 → am_I → Option am_I} (hrf : ∀ {x : Int32} {iv y : am_I}, rc x iv = some y → am_fr [69] [(54, 19), (54, 21), (54, 22), (54, 23), (54, 24), (54, 25), (54, 26), (54, 28)] iv y) {i1 : Int32} {iv iv0 : am_I} (hf : am_fr [69] [(54, 19), (54, 21), (54, 22), (54, 23), (54, 24), (54, 25), (54, 26), (54, 28)] iv0 iv) {y : (am_I) ⊕ (am_I)} (e : B_X10_readProduct_5 rc i1 iv = some y) : Sum.elim (fun s : (am_I) => am_fr [69] [(54, 19), (54, 21), (54, 22), (54, 23), (54, 24), (54, 25), (54, 26), (54, 28)] iv0 s) (fun a : (am_I) => am_fr [69] [(54, 19), (54, 21), (54, 22), (54, 23), (54, 24), (54, 25), (54, 26), (54, 28)] iv0 a) y := by
  replace e := am_o1_i e; obtain ⟨v2, e2, e⟩ := e
  replace e := am_if e; rcases e with ⟨hbr, e⟩ | ⟨hbr, e⟩
  · replace e := am_o1_i e; obtain ⟨v7, e7, e⟩ := e
    replace e := am_if e; rcases e with ⟨hbr, e⟩ | ⟨hbr, e⟩
    · obtain rfl := Option.some.inj e
      exact hf
    · exact x_X10_readProduct_23 hrf hf e
  · exact x_X10_readProduct_23 hrf hf e
theorem xl_X10_readProduct_5 {rc : Int32 → am_I → Option am_I} (hrf : ∀ {x : Int32} {iv y : am_I}, rc x iv = some y → am_fr [69] [(54, 19), (54, 21), (54, 22), (54, 23), (54, 24), (54, 25), (54, 26), (54, 28)] iv y) {i1 : Int32} {iv0 : am_I} (s : (am_I)) (hf : am_fr [69] [(54, 19), (54, 21), (54, 22), (54, 23), (54, 24), (54, 25), (54, 26), (54, 28)] iv0 s) {x : (am_I)} (e : am_loop (fun s : (am_I) => B_X10_readProduct_5 rc i1 s) s = some x) : (fun a : (am_I) => am_fr [69] [(54, 19), (54, 21), (54, 22), (54, 23), (54, 24), (54, 25), (54, 26), (54, 28)] iv0 a) x :=
  am_wh_fr (f := fun s : (am_I) => B_X10_readProduct_5 rc i1 s) (P := fun s => am_fr [69] [(54, 19), (54, 21), (54, 22), (54, 23), (54, 24), (54, 25), (54, 26), (54, 28)] iv0 s) (K := fun a : (am_I) => am_fr [69] [(54, 19), (54, 21), (54, 22), (54, 23), (54, 24), (54, 25), (54, 26), (54, 28)] iv0 a) (fun s y hf e => xb_X10_readProduct_5 hrf hf e) am_fu s x hf e
theorem x_X10_readProduct {rc : Int32 → am_I → Option am_I} (hrf : ∀ {x : Int32} {iv y : am_I}, rc x iv = some y → am_fr [69] [(54, 19), (54, 21), (54, 22), (54, 23), (54, 24), (54, 25), (54, 26), (54, 28)] iv y) {i1 : Int32} {iv iv0 : am_I} (hf : am_fr [69] [(54, 19), (54, 21), (54, 22), (54, 23), (54, 24), (54, 25), (54, 26), (54, 28)] iv0 iv) {y : am_I} (e : F_X10_readProduct rc i1 iv = some y) : am_fr [69] [(54, 19), (54, 21), (54, 22), (54, 23), (54, 24), (54, 25), (54, 26), (54, 28)] iv0 y := by
  replace e := am_o1_i e; obtain ⟨w1, e1, e⟩ := e
  have f1 := am_fr.tr hf (am_fr.up (X_X10_readPart hrf e1) (by simp) (by simp))
  replace e := am_o1_i e; obtain ⟨a8, e8, e⟩ := e
  have f8 := xl_X10_readProduct_5 hrf _ f1 e8
  obtain rfl := Option.some.inj e
  exact f8
theorem X_X10_readProduct {rc : Int32 → am_I → Option am_I} (hrf : ∀ {x : Int32} {iv y : am_I}, rc x iv = some y → am_fr [69] [(54, 19), (54, 21), (54, 22), (54, 23), (54, 24), (54, 25), (54, 26), (54, 28)] iv y) {i1 : Int32} {iv iv' : am_I} (e : F_X10_readProduct rc i1 iv = some iv') : am_fr [69] [(54, 19), (54, 21), (54, 22), (54, 23), (54, 24), (54, 25), (54, 26), (54, 28)] iv iv' := x_X10_readProduct hrf (am_fr.rf _ _ _) e
theorem x_X10_readSum_39 {rc : Int32 → am_I → Option am_I} (hrf : ∀ {x : Int32} {iv y : am_I}, rc x iv = some y → am_fr [69] [(54, 19), (54, 21), (54, 22), (54, 23), (54, 24), (54, 25), (54, 26), (54, 28)] iv y) {i1 k0 : Int32} {iv iv0 : am_I} (hf : am_fr [69] [(54, 19), (54, 21), (54, 22), (54, 23), (54, 24), (54, 25), (54, 26), (54, 28)] iv0 iv) {y : (am_I) ⊕ (am_I)} (e : J_X10_readSum_39 rc i1 k0 iv = some y) : Sum.elim (fun s : (am_I) => am_fr [69] [(54, 19), (54, 21), (54, 22), (54, 23), (54, 24), (54, 25), (54, 26), (54, 28)] iv0 s) (fun a : (am_I) => am_fr [69] [(54, 19), (54, 21), (54, 22), (54, 23), (54, 24), (54, 25), (54, 26), (54, 28)] iv0 a) y := by
  replace e := am_o1_i e; obtain ⟨w4, e4, e⟩ := e
  have f4 := am_fr.tr hf (am_fr.up (X_X10_stepOn e4) (by simp) (by simp))
  replace e := am_o1_i e; obtain ⟨w5, e5, e⟩ := e
  have f5 := am_fr.tr f4 (am_fr.up (X_X10_readProduct hrf e5) (by simp) (by simp))
  replace e := am_o1_i e; obtain ⟨w6, e6, e⟩ := e
  have f6 := am_fr.tr f5 (am_fr.up (X_X10_lay e6) (by simp) (by simp))
  obtain rfl := Option.some.inj e
  exact f6
theorem x_X10_readSum_23 {rc : Int32 → am_I → Option am_I} (hrf : ∀ {x : Int32} {iv y : am_I}, rc x iv = some y → am_fr [69] [(54, 19), (54, 21), (54, 22), (54, 23), (54, 24), (54, 25), (54, 26), (54, 28)] iv y) {i1 : Int32} {iv iv0 : am_I} (hf : am_fr [69] [(54, 19), (54, 21), (54, 22), (54, 23), (54, 24), (54, 25), (54, 26), (54, 28)] iv0 iv) {y : (am_I) ⊕ (am_I)} (e : J_X10_readSum_23 rc i1 iv = some y) : Sum.elim (fun s : (am_I) => am_fr [69] [(54, 19), (54, 21), (54, 22), (54, 23), (54, 24), (54, 25), (54, 26), (54, 28)] iv0 s) (fun a : (am_I) => am_fr [69] [(54, 19), (54, 21), (54, 22), (54, 23), (54, 24), (54, 25), (54, 26), (54, 28)] iv0 a) y := by
  replace e := am_o1_i e; obtain ⟨v3, e3, e⟩ := e
  replace e := am_if e; rcases e with ⟨hbr, e⟩ | ⟨hbr, e⟩
  · exact x_X10_readSum_39 hrf hf e
  · exact x_X10_readSum_39 hrf hf e
theorem xb_X10_readSum_5 {rc : Int32 → am_I → Option am_I} (hrf : ∀ {x : Int32} {iv y : am_I}, rc x iv = some y → am_fr [69] [(54, 19), (54, 21), (54, 22), (54, 23), (54, 24), (54, 25), (54, 26), (54, 28)] iv y) {i1 : Int32} {iv iv0 : am_I} (hf : am_fr [69] [(54, 19), (54, 21), (54, 22), (54, 23), (54, 24), (54, 25), (54, 26), (54, 28)] iv0 iv) {y : (am_I) ⊕ (am_I)} (e : B_X10_readSum_5 rc i1 iv = some y) : Sum.elim (fun s : (am_I) => am_fr [69] [(54, 19), (54, 21), (54, 22), (54, 23), (54, 24), (54, 25), (54, 26), (54, 28)] iv0 s) (fun a : (am_I) => am_fr [69] [(54, 19), (54, 21), (54, 22), (54, 23), (54, 24), (54, 25), (54, 26), (54, 28)] iv0 a) y := by
  replace e := am_o1_i e; obtain ⟨v2, e2, e⟩ := e
  replace e := am_if e; rcases e with ⟨hbr, e⟩ | ⟨hbr, e⟩
  · replace e := am_o1_i e; obtain ⟨v7, e7, e⟩ := e
    replace e := am_if e; rcases e with ⟨hbr, e⟩ | ⟨hbr, e⟩
    · obtain rfl := Option.some.inj e
      exact hf
    · exact x_X10_readSum_23 hrf hf e
  · exact x_X10_readSum_23 hrf hf e
theorem xl_X10_readSum_5 {rc : Int32 → am_I → Option am_I} (hrf : ∀ {x : Int32} {iv y : am_I}, rc x iv = some y → am_fr [69] [(54, 19), (54, 21), (54, 22), (54, 23), (54, 24), (54, 25), (54, 26), (54, 28)] iv y) {i1 : Int32} {iv0 : am_I} (s : (am_I)) (hf : am_fr [69] [(54, 19), (54, 21), (54, 22), (54, 23), (54, 24), (54, 25), (54, 26), (54, 28)] iv0 s) {x : (am_I)} (e : am_loop (fun s : (am_I) => B_X10_readSum_5 rc i1 s) s = some x) : (fun a : (am_I) => am_fr [69] [(54, 19), (54, 21), (54, 22), (54, 23), (54, 24), (54, 25), (54, 26), (54, 28)] iv0 a) x :=
  am_wh_fr (f := fun s : (am_I) => B_X10_readSum_5 rc i1 s) (P := fun s => am_fr [69] [(54, 19), (54, 21), (54, 22), (54, 23), (54, 24), (54, 25), (54, 26), (54, 28)] iv0 s) (K := fun a : (am_I) => am_fr [69] [(54, 19), (54, 21), (54, 22), (54, 23), (54, 24), (54, 25), (54, 26), (54, 28)] iv0 a) (fun s y hf e => xb_X10_readSum_5 hrf hf e) am_fu s x hf e
theorem x_X10_readSum {rc : Int32 → am_I → Option am_I} (hrf : ∀ {x : Int32} {iv y : am_I}, rc x iv = some y → am_fr [69] [(54, 19), (54, 21), (54, 22), (54, 23), (54, 24), (54, 25), (54, 26), (54, 28)] iv y) {i1 : Int32} {iv iv0 : am_I} (hf : am_fr [69] [(54, 19), (54, 21), (54, 22), (54, 23), (54, 24), (54, 25), (54, 26), (54, 28)] iv0 iv) {y : am_I} (e : F_X10_readSum rc i1 iv = some y) : am_fr [69] [(54, 19), (54, 21), (54, 22), (54, 23), (54, 24), (54, 25), (54, 26), (54, 28)] iv0 y := by
  replace e := am_o1_i e; obtain ⟨w1, e1, e⟩ := e
  have f1 := am_fr.tr hf (am_fr.up (X_X10_readProduct hrf e1) (by simp) (by simp))
  replace e := am_o1_i e; obtain ⟨a8, e8, e⟩ := e
  have f8 := xl_X10_readSum_5 hrf _ f1 e8
  obtain rfl := Option.some.inj e
  exact f8
theorem X_X10_readSum {rc : Int32 → am_I → Option am_I} (hrf : ∀ {x : Int32} {iv y : am_I}, rc x iv = some y → am_fr [69] [(54, 19), (54, 21), (54, 22), (54, 23), (54, 24), (54, 25), (54, 26), (54, 28)] iv y) {i1 : Int32} {iv iv' : am_I} (e : F_X10_readSum rc i1 iv = some iv') : am_fr [69] [(54, 19), (54, 21), (54, 22), (54, 23), (54, 24), (54, 25), (54, 26), (54, 28)] iv iv' := x_X10_readSum hrf (am_fr.rf _ _ _) e
theorem x_X10_readNot_22 {rc : Int32 → am_I → Option am_I} (hrf : ∀ {x : Int32} {iv y : am_I}, rc x iv = some y → am_fr [69] [(54, 19), (54, 21), (54, 22), (54, 23), (54, 24), (54, 25), (54, 26), (54, 28)] iv y) {i1 i2 : Int32} {iv iv0 : am_I} (hf : am_fr [69] [(54, 19), (54, 21), (54, 22), (54, 23), (54, 24), (54, 25), (54, 26), (54, 28)] iv0 iv) {y : (Int32 × am_I) ⊕ (Int32 × am_I)} (e : J_X10_readNot_22 rc i1 i2 iv = some y) : Sum.elim (fun s : (Int32 × am_I) => am_fr [69] [(54, 19), (54, 21), (54, 22), (54, 23), (54, 24), (54, 25), (54, 26), (54, 28)] iv0 s.2) (fun a : (Int32 × am_I) => am_fr [69] [(54, 19), (54, 21), (54, 22), (54, 23), (54, 24), (54, 25), (54, 26), (54, 28)] iv0 a.2) y := by
  replace e := am_if e; rcases e with ⟨hbr, e⟩ | ⟨hbr, e⟩
  · replace e := am_o1_i e; obtain ⟨w2, e2, e⟩ := e
    have f2 := am_fr.tr hf (am_fr.up (X_X10_stepOn e2) (by simp) (by simp))
    obtain rfl := Option.some.inj e
    exact f2
  · obtain rfl := Option.some.inj e
    exact hf
theorem xb_X10_readNot_2 {rc : Int32 → am_I → Option am_I} (hrf : ∀ {x : Int32} {iv y : am_I}, rc x iv = some y → am_fr [69] [(54, 19), (54, 21), (54, 22), (54, 23), (54, 24), (54, 25), (54, 26), (54, 28)] iv y) {i1 i2 : Int32} {iv iv0 : am_I} (hf : am_fr [69] [(54, 19), (54, 21), (54, 22), (54, 23), (54, 24), (54, 25), (54, 26), (54, 28)] iv0 iv) {y : (Int32 × am_I) ⊕ (Int32 × am_I)} (e : B_X10_readNot_2 rc i1 i2 iv = some y) : Sum.elim (fun s : (Int32 × am_I) => am_fr [69] [(54, 19), (54, 21), (54, 22), (54, 23), (54, 24), (54, 25), (54, 26), (54, 28)] iv0 s.2) (fun a : (Int32 × am_I) => am_fr [69] [(54, 19), (54, 21), (54, 22), (54, 23), (54, 24), (54, 25), (54, 26), (54, 28)] iv0 a.2) y := by
  replace e := am_o1_i e; obtain ⟨v1, e1, e⟩ := e
  replace e := am_if e; rcases e with ⟨hbr, e⟩ | ⟨hbr, e⟩
  · obtain rfl := Option.some.inj e
    exact hf
  · replace e := am_if e; rcases e with ⟨hbr, e⟩ | ⟨hbr, e⟩
    · replace e := am_o1_i e; obtain ⟨w3, e3, e⟩ := e
      have f3 := am_fr.tr hf (am_fr.up (X_X10_wrong e3) (by simp) (by simp))
      exact x_X10_readNot_22 hrf f3 e
    · exact x_X10_readNot_22 hrf hf e
theorem xl_X10_readNot_2 {rc : Int32 → am_I → Option am_I} (hrf : ∀ {x : Int32} {iv y : am_I}, rc x iv = some y → am_fr [69] [(54, 19), (54, 21), (54, 22), (54, 23), (54, 24), (54, 25), (54, 26), (54, 28)] iv y) {i1 : Int32} {iv0 : am_I} (s : (Int32 × am_I)) (hf : am_fr [69] [(54, 19), (54, 21), (54, 22), (54, 23), (54, 24), (54, 25), (54, 26), (54, 28)] iv0 s.2) {x : (Int32 × am_I)} (e : am_loop (fun s : (Int32 × am_I) => B_X10_readNot_2 rc i1 s.1 s.2) s = some x) : (fun a : (Int32 × am_I) => am_fr [69] [(54, 19), (54, 21), (54, 22), (54, 23), (54, 24), (54, 25), (54, 26), (54, 28)] iv0 a.2) x :=
  am_wh_fr (f := fun s : (Int32 × am_I) => B_X10_readNot_2 rc i1 s.1 s.2) (P := fun s => am_fr [69] [(54, 19), (54, 21), (54, 22), (54, 23), (54, 24), (54, 25), (54, 26), (54, 28)] iv0 s.2) (K := fun a : (Int32 × am_I) => am_fr [69] [(54, 19), (54, 21), (54, 22), (54, 23), (54, 24), (54, 25), (54, 26), (54, 28)] iv0 a.2) (fun s y hf e => xb_X10_readNot_2 hrf hf e) am_fu s x hf e
theorem xb_X10_readNot_95 {rc : Int32 → am_I → Option am_I} (hrf : ∀ {x : Int32} {iv y : am_I}, rc x iv = some y → am_fr [69] [(54, 19), (54, 21), (54, 22), (54, 23), (54, 24), (54, 25), (54, 26), (54, 28)] iv y) {i2 i3 : Int32} {iv iv0 : am_I} (hf : am_fr [69] [(54, 19), (54, 21), (54, 22), (54, 23), (54, 24), (54, 25), (54, 26), (54, 28)] iv0 iv) {y : (Int32 × am_I) ⊕ (am_I)} (e : B_X10_readNot_95 rc i2 i3 iv = some y) : Sum.elim (fun s : (Int32 × am_I) => am_fr [69] [(54, 19), (54, 21), (54, 22), (54, 23), (54, 24), (54, 25), (54, 26), (54, 28)] iv0 s.2) (fun a : (am_I) => am_fr [69] [(54, 19), (54, 21), (54, 22), (54, 23), (54, 24), (54, 25), (54, 26), (54, 28)] iv0 a) y := by
  replace e := am_if e; rcases e with ⟨hbr, e⟩ | ⟨hbr, e⟩
  · obtain rfl := Option.some.inj e
    exact hf
  · replace e := am_o1_i e; obtain ⟨w11, e11, e⟩ := e
    have f11 := am_fr.tr hf (am_fr.up (X_X10_lay e11) (by simp) (by simp))
    obtain rfl := Option.some.inj e
    exact f11
theorem xl_X10_readNot_95 {rc : Int32 → am_I → Option am_I} (hrf : ∀ {x : Int32} {iv y : am_I}, rc x iv = some y → am_fr [69] [(54, 19), (54, 21), (54, 22), (54, 23), (54, 24), (54, 25), (54, 26), (54, 28)] iv y) {i2 : Int32} {iv0 : am_I} (s : (Int32 × am_I)) (hf : am_fr [69] [(54, 19), (54, 21), (54, 22), (54, 23), (54, 24), (54, 25), (54, 26), (54, 28)] iv0 s.2) {x : (am_I)} (e : am_loop (fun s : (Int32 × am_I) => B_X10_readNot_95 rc i2 s.1 s.2) s = some x) : (fun a : (am_I) => am_fr [69] [(54, 19), (54, 21), (54, 22), (54, 23), (54, 24), (54, 25), (54, 26), (54, 28)] iv0 a) x :=
  am_wh_fr (f := fun s : (Int32 × am_I) => B_X10_readNot_95 rc i2 s.1 s.2) (P := fun s => am_fr [69] [(54, 19), (54, 21), (54, 22), (54, 23), (54, 24), (54, 25), (54, 26), (54, 28)] iv0 s.2) (K := fun a : (am_I) => am_fr [69] [(54, 19), (54, 21), (54, 22), (54, 23), (54, 24), (54, 25), (54, 26), (54, 28)] iv0 a) (fun s y hf e => xb_X10_readNot_95 hrf hf e) am_fu s x hf e
theorem x_X10_readNot_93 {rc : Int32 → am_I → Option am_I} (hrf : ∀ {x : Int32} {iv y : am_I}, rc x iv = some y → am_fr [69] [(54, 19), (54, 21), (54, 22), (54, 23), (54, 24), (54, 25), (54, 26), (54, 28)] iv y) {i2 : Int32} {iv iv0 : am_I} (hf : am_fr [69] [(54, 19), (54, 21), (54, 22), (54, 23), (54, 24), (54, 25), (54, 26), (54, 28)] iv0 iv) {y : am_I} (e : J_X10_readNot_93 rc i2 iv = some y) : am_fr [69] [(54, 19), (54, 21), (54, 22), (54, 23), (54, 24), (54, 25), (54, 26), (54, 28)] iv0 y := by
  replace e := am_o1_i e; obtain ⟨a12, e12, e⟩ := e
  have f12 := xl_X10_readNot_95 hrf _ hf e12
  obtain rfl := Option.some.inj e
  exact f12
theorem x_X10_readNot_78 {rc : Int32 → am_I → Option am_I} (hrf : ∀ {x : Int32} {iv y : am_I}, rc x iv = some y → am_fr [69] [(54, 19), (54, 21), (54, 22), (54, 23), (54, 24), (54, 25), (54, 26), (54, 28)] iv y) {i1 i2 k0 : Int32} {iv iv0 : am_I} (hf : am_fr [69] [(54, 19), (54, 21), (54, 22), (54, 23), (54, 24), (54, 25), (54, 26), (54, 28)] iv0 iv) {y : am_I} (e : J_X10_readNot_78 rc i1 i2 k0 iv = some y) : am_fr [69] [(54, 19), (54, 21), (54, 22), (54, 23), (54, 24), (54, 25), (54, 26), (54, 28)] iv0 y := by
  replace e := am_o1_i e; obtain ⟨w8, e8, e⟩ := e
  have f8 := am_fr.tr hf (am_fr.up (X_X10_stepOn e8) (by simp) (by simp))
  replace e := am_o1_i e; obtain ⟨w9, e9, e⟩ := e
  have f9 := am_fr.tr f8 (am_fr.up (X_X10_readSum hrf e9) (by simp) (by simp))
  replace e := am_o1_i e; obtain ⟨w10, e10, e⟩ := e
  have f10 := am_fr.tr f9 (am_fr.up (X_X10_lay e10) (by simp) (by simp))
  exact x_X10_readNot_93 hrf f10 e
theorem x_X10_readNot_62 {rc : Int32 → am_I → Option am_I} (hrf : ∀ {x : Int32} {iv y : am_I}, rc x iv = some y → am_fr [69] [(54, 19), (54, 21), (54, 22), (54, 23), (54, 24), (54, 25), (54, 26), (54, 28)] iv y) {i1 i2 : Int32} {iv iv0 : am_I} (hf : am_fr [69] [(54, 19), (54, 21), (54, 22), (54, 23), (54, 24), (54, 25), (54, 26), (54, 28)] iv0 iv) {y : am_I} (e : J_X10_readNot_62 rc i1 i2 iv = some y) : am_fr [69] [(54, 19), (54, 21), (54, 22), (54, 23), (54, 24), (54, 25), (54, 26), (54, 28)] iv0 y := by
  replace e := am_o1_i e; obtain ⟨v7, e7, e⟩ := e
  replace e := am_if e; rcases e with ⟨hbr, e⟩ | ⟨hbr, e⟩
  · exact x_X10_readNot_78 hrf hf e
  · exact x_X10_readNot_78 hrf hf e
theorem x_X10_readNot {rc : Int32 → am_I → Option am_I} (hrf : ∀ {x : Int32} {iv y : am_I}, rc x iv = some y → am_fr [69] [(54, 19), (54, 21), (54, 22), (54, 23), (54, 24), (54, 25), (54, 26), (54, 28)] iv y) {i1 : Int32} {iv iv0 : am_I} (hf : am_fr [69] [(54, 19), (54, 21), (54, 22), (54, 23), (54, 24), (54, 25), (54, 26), (54, 28)] iv0 iv) {y : am_I} (e : F_X10_readNot rc i1 iv = some y) : am_fr [69] [(54, 19), (54, 21), (54, 22), (54, 23), (54, 24), (54, 25), (54, 26), (54, 28)] iv0 y := by
  replace e := am_o1_i e; obtain ⟨a4, e4, e⟩ := e
  have f4 := xl_X10_readNot_2 hrf _ hf e4
  replace e := am_o1_i e; obtain ⟨w5, e5, e⟩ := e
  have f5 := am_fr.tr f4 (am_fr.up (X_X10_readSum hrf e5) (by simp) (by simp))
  replace e := am_o1_i e; obtain ⟨v6, e6, e⟩ := e
  replace e := am_if e; rcases e with ⟨hbr, e⟩ | ⟨hbr, e⟩
  · replace e := am_o1_i e; obtain ⟨v13, e13, e⟩ := e
    replace e := am_if e; rcases e with ⟨hbr, e⟩ | ⟨hbr, e⟩
    · exact x_X10_readNot_93 hrf f5 e
    · exact x_X10_readNot_62 hrf f5 e
  · exact x_X10_readNot_62 hrf f5 e
theorem X_X10_readNot {rc : Int32 → am_I → Option am_I} (hrf : ∀ {x : Int32} {iv y : am_I}, rc x iv = some y → am_fr [69] [(54, 19), (54, 21), (54, 22), (54, 23), (54, 24), (54, 25), (54, 26), (54, 28)] iv y) {i1 : Int32} {iv iv' : am_I} (e : F_X10_readNot rc i1 iv = some iv') : am_fr [69] [(54, 19), (54, 21), (54, 22), (54, 23), (54, 24), (54, 25), (54, 26), (54, 28)] iv iv' := x_X10_readNot hrf (am_fr.rf _ _ _) e
theorem xb_X10_readAnd_5 {rc : Int32 → am_I → Option am_I} (hrf : ∀ {x : Int32} {iv y : am_I}, rc x iv = some y → am_fr [69] [(54, 19), (54, 21), (54, 22), (54, 23), (54, 24), (54, 25), (54, 26), (54, 28)] iv y) {i1 : Int32} {iv iv0 : am_I} (hf : am_fr [69] [(54, 19), (54, 21), (54, 22), (54, 23), (54, 24), (54, 25), (54, 26), (54, 28)] iv0 iv) {y : (am_I) ⊕ (am_I)} (e : B_X10_readAnd_5 rc i1 iv = some y) : Sum.elim (fun s : (am_I) => am_fr [69] [(54, 19), (54, 21), (54, 22), (54, 23), (54, 24), (54, 25), (54, 26), (54, 28)] iv0 s) (fun a : (am_I) => am_fr [69] [(54, 19), (54, 21), (54, 22), (54, 23), (54, 24), (54, 25), (54, 26), (54, 28)] iv0 a) y := by
  replace e := am_o1_i e; obtain ⟨v2, e2, e⟩ := e
  replace e := am_if e; rcases e with ⟨hbr, e⟩ | ⟨hbr, e⟩
  · obtain rfl := Option.some.inj e
    exact hf
  · replace e := am_o1_i e; obtain ⟨w3, e3, e⟩ := e
    have f3 := am_fr.tr hf (am_fr.up (X_X10_stepOn e3) (by simp) (by simp))
    replace e := am_o1_i e; obtain ⟨w4, e4, e⟩ := e
    have f4 := am_fr.tr f3 (am_fr.up (X_X10_readNot hrf e4) (by simp) (by simp))
    replace e := am_o1_i e; obtain ⟨w5, e5, e⟩ := e
    have f5 := am_fr.tr f4 (am_fr.up (X_X10_lay e5) (by simp) (by simp))
    obtain rfl := Option.some.inj e
    exact f5
theorem xl_X10_readAnd_5 {rc : Int32 → am_I → Option am_I} (hrf : ∀ {x : Int32} {iv y : am_I}, rc x iv = some y → am_fr [69] [(54, 19), (54, 21), (54, 22), (54, 23), (54, 24), (54, 25), (54, 26), (54, 28)] iv y) {i1 : Int32} {iv0 : am_I} (s : (am_I)) (hf : am_fr [69] [(54, 19), (54, 21), (54, 22), (54, 23), (54, 24), (54, 25), (54, 26), (54, 28)] iv0 s) {x : (am_I)} (e : am_loop (fun s : (am_I) => B_X10_readAnd_5 rc i1 s) s = some x) : (fun a : (am_I) => am_fr [69] [(54, 19), (54, 21), (54, 22), (54, 23), (54, 24), (54, 25), (54, 26), (54, 28)] iv0 a) x :=
  am_wh_fr (f := fun s : (am_I) => B_X10_readAnd_5 rc i1 s) (P := fun s => am_fr [69] [(54, 19), (54, 21), (54, 22), (54, 23), (54, 24), (54, 25), (54, 26), (54, 28)] iv0 s) (K := fun a : (am_I) => am_fr [69] [(54, 19), (54, 21), (54, 22), (54, 23), (54, 24), (54, 25), (54, 26), (54, 28)] iv0 a) (fun s y hf e => xb_X10_readAnd_5 hrf hf e) am_fu s x hf e
theorem x_X10_readAnd {rc : Int32 → am_I → Option am_I} (hrf : ∀ {x : Int32} {iv y : am_I}, rc x iv = some y → am_fr [69] [(54, 19), (54, 21), (54, 22), (54, 23), (54, 24), (54, 25), (54, 26), (54, 28)] iv y) {i1 : Int32} {iv iv0 : am_I} (hf : am_fr [69] [(54, 19), (54, 21), (54, 22), (54, 23), (54, 24), (54, 25), (54, 26), (54, 28)] iv0 iv) {y : am_I} (e : F_X10_readAnd rc i1 iv = some y) : am_fr [69] [(54, 19), (54, 21), (54, 22), (54, 23), (54, 24), (54, 25), (54, 26), (54, 28)] iv0 y := by
  replace e := am_o1_i e; obtain ⟨w1, e1, e⟩ := e
  have f1 := am_fr.tr hf (am_fr.up (X_X10_readNot hrf e1) (by simp) (by simp))
  replace e := am_o1_i e; obtain ⟨a6, e6, e⟩ := e
  have f6 := xl_X10_readAnd_5 hrf _ f1 e6
  obtain rfl := Option.some.inj e
  exact f6
theorem X_X10_readAnd {rc : Int32 → am_I → Option am_I} (hrf : ∀ {x : Int32} {iv y : am_I}, rc x iv = some y → am_fr [69] [(54, 19), (54, 21), (54, 22), (54, 23), (54, 24), (54, 25), (54, 26), (54, 28)] iv y) {i1 : Int32} {iv iv' : am_I} (e : F_X10_readAnd rc i1 iv = some iv') : am_fr [69] [(54, 19), (54, 21), (54, 22), (54, 23), (54, 24), (54, 25), (54, 26), (54, 28)] iv iv' := x_X10_readAnd hrf (am_fr.rf _ _ _) e
theorem xb_X10_readExpression_67 {rc : Int32 → am_I → Option am_I} (hrf : ∀ {x : Int32} {iv y : am_I}, rc x iv = some y → am_fr [69] [(54, 19), (54, 21), (54, 22), (54, 23), (54, 24), (54, 25), (54, 26), (54, 28)] iv y) {i1 : Int32} {iv iv0 : am_I} (hf : am_fr [69] [(54, 19), (54, 21), (54, 22), (54, 23), (54, 24), (54, 25), (54, 26), (54, 28)] iv0 iv) {y : (am_I) ⊕ (am_I)} (e : B_X10_readExpression_67 rc i1 iv = some y) : Sum.elim (fun s : (am_I) => am_fr [69] [(54, 19), (54, 21), (54, 22), (54, 23), (54, 24), (54, 25), (54, 26), (54, 28)] iv0 s) (fun a : (am_I) => am_fr [69] [(54, 19), (54, 21), (54, 22), (54, 23), (54, 24), (54, 25), (54, 26), (54, 28)] iv0 a) y := by
  replace e := am_o1_i e; obtain ⟨v2, e2, e⟩ := e
  replace e := am_if e; rcases e with ⟨hbr, e⟩ | ⟨hbr, e⟩
  · obtain rfl := Option.some.inj e
    exact hf
  · replace e := am_o1_i e; obtain ⟨w3, e3, e⟩ := e
    have f3 := am_fr.tr hf (am_fr.up (X_X10_stepOn e3) (by simp) (by simp))
    replace e := am_o1_i e; obtain ⟨w4, e4, e⟩ := e
    have f4 := am_fr.tr f3 (am_fr.up (X_X10_readAnd hrf e4) (by simp) (by simp))
    replace e := am_o1_i e; obtain ⟨w5, e5, e⟩ := e
    have f5 := am_fr.tr f4 (am_fr.up (X_X10_lay e5) (by simp) (by simp))
    obtain rfl := Option.some.inj e
    exact f5
theorem xl_X10_readExpression_67 {rc : Int32 → am_I → Option am_I} (hrf : ∀ {x : Int32} {iv y : am_I}, rc x iv = some y → am_fr [69] [(54, 19), (54, 21), (54, 22), (54, 23), (54, 24), (54, 25), (54, 26), (54, 28)] iv y) {i1 : Int32} {iv0 : am_I} (s : (am_I)) (hf : am_fr [69] [(54, 19), (54, 21), (54, 22), (54, 23), (54, 24), (54, 25), (54, 26), (54, 28)] iv0 s) {x : (am_I)} (e : am_loop (fun s : (am_I) => B_X10_readExpression_67 rc i1 s) s = some x) : (fun a : (am_I) => am_fr [69] [(54, 19), (54, 21), (54, 22), (54, 23), (54, 24), (54, 25), (54, 26), (54, 28)] iv0 a) x :=
  am_wh_fr (f := fun s : (am_I) => B_X10_readExpression_67 rc i1 s) (P := fun s => am_fr [69] [(54, 19), (54, 21), (54, 22), (54, 23), (54, 24), (54, 25), (54, 26), (54, 28)] iv0 s) (K := fun a : (am_I) => am_fr [69] [(54, 19), (54, 21), (54, 22), (54, 23), (54, 24), (54, 25), (54, 26), (54, 28)] iv0 a) (fun s y hf e => xb_X10_readExpression_67 hrf hf e) am_fu s x hf e
theorem x_X10_readExpression_62 {rc : Int32 → am_I → Option am_I} (hrf : ∀ {x : Int32} {iv y : am_I}, rc x iv = some y → am_fr [69] [(54, 19), (54, 21), (54, 22), (54, 23), (54, 24), (54, 25), (54, 26), (54, 28)] iv y) {i1 : Int32} {iv iv0 : am_I} (hf : am_fr [69] [(54, 19), (54, 21), (54, 22), (54, 23), (54, 24), (54, 25), (54, 26), (54, 28)] iv0 iv) {y : am_I} (e : J_X10_readExpression_62 rc i1 iv = some y) : am_fr [69] [(54, 19), (54, 21), (54, 22), (54, 23), (54, 24), (54, 25), (54, 26), (54, 28)] iv0 y := by
  replace e := am_o1_i e; obtain ⟨w1, e1, e⟩ := e
  have f1 := am_fr.tr hf (am_fr.up (X_X10_readAnd hrf e1) (by simp) (by simp))
  replace e := am_o1_i e; obtain ⟨a6, e6, e⟩ := e
  have f6 := xl_X10_readExpression_67 hrf _ f1 e6
  obtain rfl := Option.some.inj e
  exact f6
theorem x_X10_readExpression_38 {rc : Int32 → am_I → Option am_I} (hrf : ∀ {x : Int32} {iv y : am_I}, rc x iv = some y → am_fr [69] [(54, 19), (54, 21), (54, 22), (54, 23), (54, 24), (54, 25), (54, 26), (54, 28)] iv y) {i1 k0 : Int32} {iv iv0 : am_I} (hf : am_fr [69] [(54, 19), (54, 21), (54, 22), (54, 23), (54, 24), (54, 25), (54, 26), (54, 28)] iv0 iv) {y : am_I} (e : J_X10_readExpression_38 rc i1 k0 iv = some y) : am_fr [69] [(54, 19), (54, 21), (54, 22), (54, 23), (54, 24), (54, 25), (54, 26), (54, 28)] iv0 y := by
  replace e := am_if e; rcases e with ⟨hbr, e⟩ | ⟨hbr, e⟩
  · replace e := am_o1_i e; obtain ⟨w8, e8, e⟩ := e
    have f8 := am_fr.tr hf (am_fr.up (X_X10_wrong e8) (by simp) (by simp))
    exact x_X10_readExpression_62 hrf f8 e
  · replace e := am_if e; rcases e with ⟨hbr, e⟩ | ⟨hbr, e⟩
    · replace e := am_o1_i e; obtain ⟨w7, e7, e⟩ := e
      have f7 := am_fr.tr hf (am_fr.up (X_X10_wrong e7) (by simp) (by simp))
      exact x_X10_readExpression_62 hrf f7 e
    · exact x_X10_readExpression_62 hrf hf e
theorem x_X10_readExpression_33 {rc : Int32 → am_I → Option am_I} (hrf : ∀ {x : Int32} {iv y : am_I}, rc x iv = some y → am_fr [69] [(54, 19), (54, 21), (54, 22), (54, 23), (54, 24), (54, 25), (54, 26), (54, 28)] iv y) {i1 : Int32} {iv iv0 : am_I} (hf : am_fr [69] [(54, 19), (54, 21), (54, 22), (54, 23), (54, 24), (54, 25), (54, 26), (54, 28)] iv0 iv) {y : am_I} (e : J_X10_readExpression_33 rc i1 iv = some y) : am_fr [69] [(54, 19), (54, 21), (54, 22), (54, 23), (54, 24), (54, 25), (54, 26), (54, 28)] iv0 y := by
  exact x_X10_readExpression_38 hrf hf e
theorem x_X10_readExpression {rc : Int32 → am_I → Option am_I} (hrf : ∀ {x : Int32} {iv y : am_I}, rc x iv = some y → am_fr [69] [(54, 19), (54, 21), (54, 22), (54, 23), (54, 24), (54, 25), (54, 26), (54, 28)] iv y) {i1 : Int32} {iv iv0 : am_I} (hf : am_fr [69] [(54, 19), (54, 21), (54, 22), (54, 23), (54, 24), (54, 25), (54, 26), (54, 28)] iv0 iv) {y : am_I} (e : G_X10_readExpression rc i1 iv = some y) : am_fr [69] [(54, 19), (54, 21), (54, 22), (54, 23), (54, 24), (54, 25), (54, 26), (54, 28)] iv0 y := by
  replace e := am_if e; rcases e with ⟨hbr, e⟩ | ⟨hbr, e⟩
  · replace e := am_if e; rcases e with ⟨hbr, e⟩ | ⟨hbr, e⟩
    · exact x_X10_readExpression_33 hrf hf e
    · replace e := am_if e; rcases e with ⟨hbr, e⟩ | ⟨hbr, e⟩
      · exact x_X10_readExpression_33 hrf hf e
      · replace e := am_o1_i e; obtain ⟨v9, e9, e⟩ := e
        replace e := am_if e; rcases e with ⟨hbr, e⟩ | ⟨hbr, e⟩
        · exact x_X10_readExpression_38 hrf hf e
        · exact x_X10_readExpression_33 hrf hf e
  · obtain rfl := Option.some.inj e
    exact hf
theorem Xq_X10_readExpression {rc : Int32 → am_I → Option am_I} (hrf : ∀ {x : Int32} {iv y : am_I}, rc x iv = some y → am_fr [69] [(54, 19), (54, 21), (54, 22), (54, 23), (54, 24), (54, 25), (54, 26), (54, 28)] iv y) {i1 : Int32} {iv iv' : am_I} (e : G_X10_readExpression rc i1 iv = some iv') : am_fr [69] [(54, 19), (54, 21), (54, 22), (54, 23), (54, 24), (54, 25), (54, 26), (54, 28)] iv iv' := x_X10_readExpression hrf (am_fr.rf _ _ _) e
theorem XF_X10_readExpression : ∀ (fu : Nat) {x : Int32} {iv y : am_I}, F_X10_readExpression fu x iv = some y → am_fr [69] [(54, 19), (54, 21), (54, 22), (54, 23), (54, 24), (54, 25), (54, 26), (54, 28)] iv y
  | 0, _, _, _, e => by cases e
  | fu + 1, _, _, _, e => x_X10_readExpression (rc := F_X10_readExpression fu) (XF_X10_readExpression fu) (am_fr.rf _ _ _) e
theorem X_X10_readExpression {x : Int32} {iv y : am_I} (e : F_X10_readExpression 10 x iv = some y) : am_fr [69] [(54, 19), (54, 21), (54, 22), (54, 23), (54, 24), (54, 25), (54, 26), (54, 28)] iv y := XF_X10_readExpression 10 e
