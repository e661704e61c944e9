/-! what they leave (by program) -/
theorem x_X0_clear {w : Nat} {iv iv0 : am_I} (hf : am_fr [] [((w + 1), 0), ((w + 10), 0), ((w + 14), 0), ((w + 14), 1), (w, 0), (w, 1), (w, 2), (w, 3), (w, 4), (w, 5), (w, 6)] iv0 iv) {y : am_I} (e : F_X0_clear w  iv = some y) : am_fr [] [((w + 1), 0), ((w + 10), 0), ((w + 14), 0), ((w + 14), 1), (w, 0), (w, 1), (w, 2), (w, 3), (w, 4), (w, 5), (w, 6)] iv0 y := by
  replace e := am_o1_i e; obtain ⟨w1, e1, e⟩ := e
  have f1 := am_fr.tr (am_fr.f (am_fr.f (am_fr.f (am_fr.f (am_fr.f (am_fr.f (am_fr.f (am_fr.f (am_fr.f hf (by simp)) (by simp)) (by simp)) (by simp)) (by simp)) (by simp)) (by simp)) (by simp)) (by simp)) (am_fr.up (X_X5_clear e1) (by simp) (by simp))
  obtain rfl := Option.some.inj e
  exact f1
theorem X_X0_clear {w : Nat} {iv iv' : am_I} (e : F_X0_clear w  iv = some iv') : am_fr [] [((w + 1), 0), ((w + 10), 0), ((w + 14), 0), ((w + 14), 1), (w, 0), (w, 1), (w, 2), (w, 3), (w, 4), (w, 5), (w, 6)] iv iv' := x_X0_clear (am_fr.rf _ _ _) e
theorem x_X0_settle {w : Nat} {iv iv0 : am_I} (hf : am_fr [(w + 19), (w + 7), (w + 8), (w + 9)] [((w + 1), 10), ((w + 1), 9)] iv0 iv) {y : am_I} (e : F_X0_settle w  iv = some y) : am_fr [(w + 19), (w + 7), (w + 8), (w + 9)] [((w + 1), 10), ((w + 1), 9)] iv0 y := by
  replace e := am_o1_i e; obtain ⟨w1, e1, e⟩ := e
  have f1 := am_fr.tr hf (am_fr.up (X_X2_compare e1) (by simp) (by simp))
  obtain rfl := Option.some.inj e
  exact (am_fr.l f1 (by simp))
theorem X_X0_settle {w : Nat} {iv iv' : am_I} (e : F_X0_settle w  iv = some iv') : am_fr [(w + 19), (w + 7), (w + 8), (w + 9)] [((w + 1), 10), ((w + 1), 9)] iv iv' := x_X0_settle (am_fr.rf _ _ _) e
theorem x_X0_copyFrom {w : Nat} {v : Nat} {iv iv0 : am_I} (hf : am_fr [(w + 11), (w + 12), (w + 13), (w + 15), (w + 16), (w + 2), (w + 3), (w + 4), (w + 5), (w + 6)] [((w + 1), 0), ((w + 10), 0), ((w + 14), 0), ((w + 14), 1), (w, 0), (w, 1), (w, 2)] iv0 iv) {y : am_I} (e : F_X0_copyFrom w v  iv = some y) : am_fr [(w + 11), (w + 12), (w + 13), (w + 15), (w + 16), (w + 2), (w + 3), (w + 4), (w + 5), (w + 6)] [((w + 1), 0), ((w + 10), 0), ((w + 14), 0), ((w + 14), 1), (w, 0), (w, 1), (w, 2)] iv0 y := by
  replace e := am_o1_i e; obtain ⟨w1, e1, e⟩ := e
  have f1 := am_fr.tr (am_fr.f (am_fr.f (am_fr.f hf (by simp)) (by simp)) (by simp)) (am_fr.up (X_X2_copyFrom e1) (by simp) (by simp))
  replace e := am_o1_i e; obtain ⟨w2, e2, e⟩ := e
  have f2 := am_fr.tr f1 (am_fr.up (X_X4_copyFrom e2) (by simp) (by simp))
  replace e := am_o1_i e; obtain ⟨w3, e3, e⟩ := e
  have f3 := am_fr.tr f2 (am_fr.up (X_X5_copyFrom e3) (by simp) (by simp))
  obtain rfl := Option.some.inj e
  exact f3
theorem X_X0_copyFrom {w : Nat} {v : Nat} {iv iv' : am_I} (e : F_X0_copyFrom w v  iv = some iv') : am_fr [(w + 11), (w + 12), (w + 13), (w + 15), (w + 16), (w + 2), (w + 3), (w + 4), (w + 5), (w + 6)] [((w + 1), 0), ((w + 10), 0), ((w + 14), 0), ((w + 14), 1), (w, 0), (w, 1), (w, 2)] iv iv' := x_X0_copyFrom (am_fr.rf _ _ _) e
theorem x_X0_marry_127 {w : Nat} {i1 i2 i3 k1 k2 : Int32} {iv iv0 : am_I} (hf : am_fr [(w + 11), (w + 19), (w + 3), (w + 4), (w + 6), (w + 7), (w + 8), (w + 9)] [((w + 1), 10), ((w + 1), 9)] iv0 iv) {y : (Int32 × am_I) ⊕ (am_I)} (e : J_X0_marry_127 w i1 i2 i3 k1 k2 iv = some y) : Sum.elim (fun s : (Int32 × am_I) => am_fr [(w + 11), (w + 19), (w + 3), (w + 4), (w + 6), (w + 7), (w + 8), (w + 9)] [((w + 1), 10), ((w + 1), 9)] iv0 s.2) (fun a : (am_I) => am_fr [(w + 11), (w + 19), (w + 3), (w + 4), (w + 6), (w + 7), (w + 8), (w + 9)] [((w + 1), 10), ((w + 1), 9)] iv0 a) y := by
  replace e := am_ckv e; obtain ⟨c11, e⟩ := e
  obtain rfl := Option.some.inj e
  exact (am_fr.a hf (by simp))
theorem xb_X0_marry_82 {w : Nat} {i1 i2 i3 : Int32} {iv iv0 : am_I} (hf : am_fr [(w + 11), (w + 19), (w + 3), (w + 4), (w + 6), (w + 7), (w + 8), (w + 9)] [((w + 1), 10), ((w + 1), 9)] iv0 iv) {y : (Int32 × am_I) ⊕ (am_I)} (e : B_X0_marry_82 w i1 i2 i3 iv = some y) : Sum.elim (fun s : (Int32 × am_I) => am_fr [(w + 11), (w + 19), (w + 3), (w + 4), (w + 6), (w + 7), (w + 8), (w + 9)] [((w + 1), 10), ((w + 1), 9)] iv0 s.2) (fun a : (am_I) => am_fr [(w + 11), (w + 19), (w + 3), (w + 4), (w + 6), (w + 7), (w + 8), (w + 9)] [((w + 1), 10), ((w + 1), 9)] iv0 a) y := by
  replace e := am_if e; rcases e with ⟨hbr, e⟩ | ⟨hbr, e⟩
  · obtain rfl := Option.some.inj e
    exact hf
  · replace e := am_ckv e; obtain ⟨c9, e⟩ := e
    replace e := am_if e; rcases e with ⟨hbr, e⟩ | ⟨hbr, e⟩
    · exact x_X0_marry_127 hf e
    · replace e := am_ckv e; obtain ⟨c10, e⟩ := e
      exact x_X0_marry_127 hf e
theorem xl_X0_marry_82 {w : Nat} {i1 i2 : Int32} {iv0 : am_I} (s : (Int32 × am_I)) (hf : am_fr [(w + 11), (w + 19), (w + 3), (w + 4), (w + 6), (w + 7), (w + 8), (w + 9)] [((w + 1), 10), ((w + 1), 9)] iv0 s.2) {x : (am_I)} (e : am_loop (fun s : (Int32 × am_I) => B_X0_marry_82 w i1 i2 s.1 s.2) s = some x) : (fun a : (am_I) => am_fr [(w + 11), (w + 19), (w + 3), (w + 4), (w + 6), (w + 7), (w + 8), (w + 9)] [((w + 1), 10), ((w + 1), 9)] iv0 a) x :=
  am_wh_fr (f := fun s : (Int32 × am_I) => B_X0_marry_82 w i1 i2 s.1 s.2) (P := fun s => am_fr [(w + 11), (w + 19), (w + 3), (w + 4), (w + 6), (w + 7), (w + 8), (w + 9)] [((w + 1), 10), ((w + 1), 9)] iv0 s.2) (K := fun a : (am_I) => am_fr [(w + 11), (w + 19), (w + 3), (w + 4), (w + 6), (w + 7), (w + 8), (w + 9)] [((w + 1), 10), ((w + 1), 9)] iv0 a) (fun s y hf e => xb_X0_marry_82 hf e) am_fu s x hf e
theorem x_X0_marry {w : Nat} {i1 i2 : Int32} {iv iv0 : am_I} (hf : am_fr [(w + 11), (w + 19), (w + 3), (w + 4), (w + 6), (w + 7), (w + 8), (w + 9)] [((w + 1), 10), ((w + 1), 9)] iv0 iv) {y : am_I} (e : F_X0_marry w i1 i2 iv = some y) : am_fr [(w + 11), (w + 19), (w + 3), (w + 4), (w + 6), (w + 7), (w + 8), (w + 9)] [((w + 1), 10), ((w + 1), 9)] iv0 y := by
  replace e := am_ckv e; obtain ⟨c1, e⟩ := e
  replace e := am_ckv e; obtain ⟨c2, e⟩ := e
  replace e := am_ckv e; obtain ⟨c3, e⟩ := e
  replace e := am_ckv e; obtain ⟨c4, e⟩ := e
  replace e := am_ckv e; obtain ⟨c5, e⟩ := e
  replace e := am_ckv e; obtain ⟨c6, e⟩ := e
  replace e := am_ckv e; obtain ⟨c7, e⟩ := e
  replace e := am_ckv e; obtain ⟨c8, e⟩ := e
  replace e := am_o1_i e; obtain ⟨a12, e12, e⟩ := e
  have f12 := xl_X0_marry_82 _ (am_fr.a (am_fr.a (am_fr.a hf (by simp)) (by simp)) (by simp)) e12
  replace e := am_o1_i e; obtain ⟨w13, e13, e⟩ := e
  have f13 := am_fr.tr f12 (am_fr.up (X_X0_settle e13) (by simp) (by simp))
  obtain rfl := Option.some.inj e
  exact f13
theorem X_X0_marry {w : Nat} {i1 i2 : Int32} {iv iv' : am_I} (e : F_X0_marry w i1 i2 iv = some iv') : am_fr [(w + 11), (w + 19), (w + 3), (w + 4), (w + 6), (w + 7), (w + 8), (w + 9)] [((w + 1), 10), ((w + 1), 9)] iv iv' := x_X0_marry (am_fr.rf _ _ _) e
theorem x_X0_lookAt {w : Nat} {i1 i2 : Int32} {iv iv0 : am_I} (hf : am_fr [(w + 18)] [] iv0 iv) {y : am_I} (e : F_X0_lookAt w i1 i2 iv = some y) : am_fr [(w + 18)] [] iv0 y := by
  replace e := am_ckv e; obtain ⟨c1, e⟩ := e
  replace e := am_ckv e; obtain ⟨c2, e⟩ := e
  replace e := am_ckv e; obtain ⟨c3, e⟩ := e
  replace e := am_ckv e; obtain ⟨c4, e⟩ := e
  replace e := am_ckv e; obtain ⟨c5, e⟩ := e
  obtain rfl := Option.some.inj e
  exact (am_fr.a (am_fr.a (am_fr.a (am_fr.a (am_fr.a (am_fr.a (am_fr.a hf (by simp)) (by simp)) (by simp)) (by simp)) (by simp)) (by simp)) (by simp))
theorem X_X0_lookAt {w : Nat} {i1 i2 : Int32} {iv iv' : am_I} (e : F_X0_lookAt w i1 i2 iv = some iv') : am_fr [(w + 18)] [] iv iv' := x_X0_lookAt (am_fr.rf _ _ _) e
theorem xb_X0_leastBroken_45 {w : Nat} {i1 i3 i2 i4 : Int32} {iv iv0 : am_I} (hf : am_fr [(w + 17), (w + 18)] [] iv0 iv) {y : (Int32 × Int32 × am_I) ⊕ (Int32 × am_I)} (e : B_X0_leastBroken_45 w i1 i3 i2 i4 iv = some y) : Sum.elim (fun s : (Int32 × Int32 × am_I) => am_fr [(w + 17), (w + 18)] [] iv0 s.2.2) (fun a : (Int32 × am_I) => am_fr [(w + 17), (w + 18)] [] iv0 a.2) y := by
  replace e := am_if e; rcases e with ⟨hbr, e⟩ | ⟨hbr, e⟩
  · obtain rfl := Option.some.inj e
    exact hf
  · replace e := am_o2_i e; obtain ⟨v2, w2, e2, e⟩ := e
    have f2 := am_fr.tr hf (am_fr.up (X_X5_holds e2) (by simp) (by simp))
    replace e := am_if e; rcases e with ⟨hbr, e⟩ | ⟨hbr, e⟩
    · obtain rfl := Option.some.inj e
      exact f2
    · obtain rfl := Option.some.inj e
      exact f2
theorem xl_X0_leastBroken_45 {w : Nat} {i1 i3 : Int32} {iv0 : am_I} (s : (Int32 × Int32 × am_I)) (hf : am_fr [(w + 17), (w + 18)] [] iv0 s.2.2) {x : (Int32 × am_I)} (e : am_loop (fun s : (Int32 × Int32 × am_I) => B_X0_leastBroken_45 w i1 i3 s.1 s.2.1 s.2.2) s = some x) : (fun a : (Int32 × am_I) => am_fr [(w + 17), (w + 18)] [] iv0 a.2) x :=
  am_wh_fr (f := fun s : (Int32 × Int32 × am_I) => B_X0_leastBroken_45 w i1 i3 s.1 s.2.1 s.2.2) (P := fun s => am_fr [(w + 17), (w + 18)] [] iv0 s.2.2) (K := fun a : (Int32 × am_I) => am_fr [(w + 17), (w + 18)] [] iv0 a.2) (fun s y hf e => xb_X0_leastBroken_45 hf e) am_fu s x hf e
theorem xb_X0_leastBroken_10 {w : Nat} {i1 i2 i3 : Int32} {iv iv0 : am_I} (hf : am_fr [(w + 17), (w + 18)] [] iv0 iv) {y : (Int32 × Int32 × am_I) ⊕ (Int32 × am_I)} (e : B_X0_leastBroken_10 w i1 i2 i3 iv = some y) : Sum.elim (fun s : (Int32 × Int32 × am_I) => am_fr [(w + 17), (w + 18)] [] iv0 s.2.2) (fun a : (Int32 × am_I) => am_fr [(w + 17), (w + 18)] [] iv0 a.2) y := by
  replace e := am_if e; rcases e with ⟨hbr, e⟩ | ⟨hbr, e⟩
  · obtain rfl := Option.some.inj e
    exact hf
  · replace e := am_if e; rcases e with ⟨hbr, e⟩ | ⟨hbr, e⟩
    · obtain rfl := Option.some.inj e
      exact hf
    · replace e := am_if e; rcases e with ⟨hbr, e⟩ | ⟨hbr, e⟩
      · obtain rfl := Option.some.inj e
        exact hf
      · replace e := am_o1_i e; obtain ⟨w1, e1, e⟩ := e
        have f1 := am_fr.tr hf (am_fr.up (X_X0_lookAt e1) (by simp) (by simp))
        replace e := am_o1_i e; obtain ⟨a3, e3, e⟩ := e
        have f3 := xl_X0_leastBroken_45 _ f1 e3
        obtain rfl := Option.some.inj e
        exact f3
theorem xl_X0_leastBroken_10 {w : Nat} {i1 : Int32} {iv0 : am_I} (s : (Int32 × Int32 × am_I)) (hf : am_fr [(w + 17), (w + 18)] [] iv0 s.2.2) {x : (Int32 × am_I)} (e : am_loop (fun s : (Int32 × Int32 × am_I) => B_X0_leastBroken_10 w i1 s.1 s.2.1 s.2.2) s = some x) : (fun a : (Int32 × am_I) => am_fr [(w + 17), (w + 18)] [] iv0 a.2) x :=
  am_wh_fr (f := fun s : (Int32 × Int32 × am_I) => B_X0_leastBroken_10 w i1 s.1 s.2.1 s.2.2) (P := fun s => am_fr [(w + 17), (w + 18)] [] iv0 s.2.2) (K := fun a : (Int32 × am_I) => am_fr [(w + 17), (w + 18)] [] iv0 a.2) (fun s y hf e => xb_X0_leastBroken_10 hf e) am_fu s x hf e
theorem x_X0_leastBroken_82 {w : Nat} {i2 : Int32} {iv iv0 : am_I} (hf : am_fr [(w + 17), (w + 18)] [] iv0 iv) {y : Int32 × am_I} (e : J_X0_leastBroken_82 w i2 iv = some y) : am_fr [(w + 17), (w + 18)] [] iv0 y.2 := by
  replace e := am_if e; rcases e with ⟨hbr, e⟩ | ⟨hbr, e⟩
  · obtain rfl := Option.some.inj e
    exact hf
  · obtain rfl := Option.some.inj e
    exact hf
theorem x_X0_leastBroken {w : Nat} {i1 : Int32} {iv iv0 : am_I} (hf : am_fr [(w + 17), (w + 18)] [] iv0 iv) {y : Int32 × am_I} (e : F_X0_leastBroken w i1 iv = some y) : am_fr [(w + 17), (w + 18)] [] iv0 y.2 := by
  replace e := am_o1_i e; obtain ⟨a4, e4, e⟩ := e
  have f4 := xl_X0_leastBroken_10 _ hf e4
  exact x_X0_leastBroken_82 f4 e
theorem X_X0_leastBroken {w : Nat} {i1 : Int32} {iv iv' : am_I} {v' : Int32} (e : F_X0_leastBroken w i1 iv = some (v', iv')) : am_fr [(w + 17), (w + 18)] [] iv iv' := x_X0_leastBroken (am_fr.rf _ _ _) e
theorem x_X0_judge_62 {w : Nat} {i1 k1 k2 k3 : Int32} {iv iv0 : am_I} (hf : am_fr [(w + 17), (w + 18), (w + 19)] [] iv0 iv) {y : Int32 × am_I} (e : J_X0_judge_62 w i1 k1 k2 k3 iv = some y) : am_fr [(w + 17), (w + 18), (w + 19)] [] iv0 y.2 := by
  replace e := am_o1_i e; obtain ⟨v4, e4, e⟩ := e
  replace e := am_o1_i e; obtain ⟨v5, e5, e⟩ := e
  replace e := am_ckv e; obtain ⟨c6, e⟩ := e
  replace e := am_ckv e; obtain ⟨c7, e⟩ := e
  obtain rfl := Option.some.inj e
  exact (am_fr.a hf (by simp))
theorem x_X0_judge_46 {w : Nat} {i1 k0 : Int32} {iv iv0 : am_I} (hf : am_fr [(w + 17), (w + 18), (w + 19)] [] iv0 iv) {y : Int32 × am_I} (e : J_X0_judge_46 w i1 k0 iv = some y) : am_fr [(w + 17), (w + 18), (w + 19)] [] iv0 y.2 := by
  replace e := am_if e; rcases e with ⟨hbr, e⟩ | ⟨hbr, e⟩
  · exact x_X0_judge_62 hf e
  · exact x_X0_judge_62 hf e
theorem x_X0_judge_45 {w : Nat} {i1 : Int32} {iv iv0 : am_I} (hf : am_fr [(w + 17), (w + 18), (w + 19)] [] iv0 iv) {y : Int32 × am_I} (e : J_X0_judge_45 w i1 iv = some y) : am_fr [(w + 17), (w + 18), (w + 19)] [] iv0 y.2 := by
  exact x_X0_judge_46 hf e
theorem x_X0_judge {w : Nat} {i1 : Int32} {iv iv0 : am_I} (hf : am_fr [(w + 17), (w + 18), (w + 19)] [] iv0 iv) {y : Int32 × am_I} (e : F_X0_judge w i1 iv = some y) : am_fr [(w + 17), (w + 18), (w + 19)] [] iv0 y.2 := by
  replace e := am_if e; rcases e with ⟨hbr, e⟩ | ⟨hbr, e⟩
  · obtain rfl := Option.some.inj e
    exact hf
  · replace e := am_if e; rcases e with ⟨hbr, e⟩ | ⟨hbr, e⟩
    · replace e := am_ckv e; obtain ⟨c1, e⟩ := e
      replace e := am_if e; rcases e with ⟨hbr, e⟩ | ⟨hbr, e⟩
      · replace e := am_o1_i e; obtain ⟨v3, e3, e⟩ := e
        replace e := am_if e; rcases e with ⟨hbr, e⟩ | ⟨hbr, e⟩
        · exact x_X0_judge_45 hf e
        · replace e := am_o2_i e; obtain ⟨v8, w8, e8, e⟩ := e
          have f8 := am_fr.tr hf (am_fr.up (X_X0_leastBroken e8) (by simp) (by simp))
          replace e := am_if e; rcases e with ⟨hbr, e⟩ | ⟨hbr, e⟩
          · exact x_X0_judge_46 f8 e
          · exact x_X0_judge_45 f8 e
      · replace e := am_ckv e; obtain ⟨c2, e⟩ := e
        obtain rfl := Option.some.inj e
        exact hf
    · obtain rfl := Option.some.inj e
      exact hf
theorem X_X0_judge {w : Nat} {i1 : Int32} {iv iv' : am_I} {v' : Int32} (e : F_X0_judge w i1 iv = some (v', iv')) : am_fr [(w + 17), (w + 18), (w + 19)] [] iv iv' := x_X0_judge (am_fr.rf _ _ _) e
theorem x_X0_canBe {w : Nat} {i1 : Int32} {iv iv0 : am_I} (hf : am_fr [(w + 17), (w + 18), (w + 19)] [] iv0 iv) {y : Int32 × am_I} (e : F_X0_canBe w i1 iv = some y) : am_fr [(w + 17), (w + 18), (w + 19)] [] iv0 y.2 := by
  replace e := am_o2_i e; obtain ⟨v1, w1, e1, e⟩ := e
  have f1 := am_fr.tr hf (am_fr.up (X_X0_judge e1) (by simp) (by simp))
  replace e := am_if e; rcases e with ⟨hbr, e⟩ | ⟨hbr, e⟩
  · obtain rfl := Option.some.inj e
    exact f1
  · obtain rfl := Option.some.inj e
    exact f1
theorem X_X0_canBe {w : Nat} {i1 : Int32} {iv iv' : am_I} {v' : Int32} (e : F_X0_canBe w i1 iv = some (v', iv')) : am_fr [(w + 17), (w + 18), (w + 19)] [] iv iv' := x_X0_canBe (am_fr.rf _ _ _) e
theorem x_X0_reachedBy {w : Nat} {i1 : Int32} {iv iv0 : am_I} (hf : am_fr [(w + 17), (w + 18), (w + 19)] [] iv0 iv) {y : Int32 × am_I} (e : F_X0_reachedBy w i1 iv = some y) : am_fr [(w + 17), (w + 18), (w + 19)] [] iv0 y.2 := by
  replace e := am_o2_i e; obtain ⟨v1, w1, e1, e⟩ := e
  have f1 := am_fr.tr hf (am_fr.up (X_X0_judge e1) (by simp) (by simp))
  obtain rfl := Option.some.inj e
  exact f1
theorem X_X0_reachedBy {w : Nat} {i1 : Int32} {iv iv' : am_I} {v' : Int32} (e : F_X0_reachedBy w i1 iv = some (v', iv')) : am_fr [(w + 17), (w + 18), (w + 19)] [] iv iv' := x_X0_reachedBy (am_fr.rf _ _ _) e
theorem x_X0_fedBy {w : Nat} {i1 : Int32} {iv iv0 : am_I} (hf : am_fr [(w + 17), (w + 18), (w + 19)] [] iv0 iv) {y : Int32 × am_I} (e : F_X0_fedBy w i1 iv = some y) : am_fr [(w + 17), (w + 18), (w + 19)] [] iv0 y.2 := by
  replace e := am_o2_i e; obtain ⟨v1, w1, e1, e⟩ := e
  have f1 := am_fr.tr hf (am_fr.up (X_X0_judge e1) (by simp) (by simp))
  obtain rfl := Option.some.inj e
  exact f1
theorem X_X0_fedBy {w : Nat} {i1 : Int32} {iv iv' : am_I} {v' : Int32} (e : F_X0_fedBy w i1 iv = some (v', iv')) : am_fr [(w + 17), (w + 18), (w + 19)] [] iv iv' := x_X0_fedBy (am_fr.rf _ _ _) e
