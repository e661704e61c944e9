/-! what they leave (by program) -/
theorem x_X2_add {w : Nat} {i1 i2 i3 i4 : Int32} {iv iv0 : am_I} (hf : am_fr [(w + 2), (w + 3), (w + 4), (w + 5), (w + 6)] [((w + 1), 0)] iv0 iv) {y : am_I} (e : F_X2_add w i1 i2 i3 i4 iv = some y) : am_fr [(w + 2), (w + 3), (w + 4), (w + 5), (w + 6)] [((w + 1), 0)] iv0 y := by
  replace e := am_if e; rcases e with ⟨hbr, e⟩ | ⟨hbr, e⟩
  · obtain rfl := Option.some.inj e
    exact hf
  · replace e := am_ckv e; obtain ⟨c1, e⟩ := e
    replace e := am_ckv e; obtain ⟨c2, e⟩ := e
    replace e := am_ckv e; obtain ⟨c3, e⟩ := e
    replace e := am_ckv e; obtain ⟨c4, e⟩ := e
    replace e := am_ckv e; obtain ⟨c5, e⟩ := e
    obtain rfl := Option.some.inj e
    exact (am_fr.f (am_fr.a (am_fr.a (am_fr.a (am_fr.a (am_fr.a hf (by simp)) (by simp)) (by simp)) (by simp)) (by simp)) (by simp))
theorem X_X2_add {w : Nat} {i1 i2 i3 i4 : Int32} {iv iv' : am_I} (e : F_X2_add w i1 i2 i3 i4 iv = some iv') : am_fr [(w + 2), (w + 3), (w + 4), (w + 5), (w + 6)] [((w + 1), 0)] iv iv' := x_X2_add (am_fr.rf _ _ _) e
theorem x_X2_copyFrom {w : Nat} {v : Nat} {iv iv0 : am_I} (hf : am_fr [(w + 2), (w + 3), (w + 4), (w + 5), (w + 6)] [((w + 1), 0)] iv0 iv) {y : am_I} (e : F_X2_copyFrom w v  iv = some y) : am_fr [(w + 2), (w + 3), (w + 4), (w + 5), (w + 6)] [((w + 1), 0)] iv0 y := by
  obtain rfl := Option.some.inj e
  exact (am_fr.c (am_fr.c (am_fr.c (am_fr.c (am_fr.c (am_fr.f hf (by simp)) (by simp)) (by simp)) (by simp)) (by simp)) (by simp))
theorem X_X2_copyFrom {w : Nat} {v : Nat} {iv iv' : am_I} (e : F_X2_copyFrom w v  iv = some iv') : am_fr [(w + 2), (w + 3), (w + 4), (w + 5), (w + 6)] [((w + 1), 0)] iv iv' := x_X2_copyFrom (am_fr.rf _ _ _) e
theorem x_X2_compareTwo_68 {w : Nat} {i1 i2 i3 : Int32} {iv iv0 : am_I} (hf : am_fr [(w + 7), (w + 8), (w + 9)] [] iv0 iv) {y : am_I} (e : J_X2_compareTwo_68 w i1 i2 i3 iv = some y) : am_fr [(w + 7), (w + 8), (w + 9)] [] iv0 y := by
  replace e := am_ckv e; obtain ⟨c4, e⟩ := e
  replace e := am_ckv e; obtain ⟨c5, e⟩ := e
  replace e := am_if e; rcases e with ⟨hbr, e⟩ | ⟨hbr, e⟩
  · obtain rfl := Option.some.inj e
    exact hf
  · replace e := am_ckv e; obtain ⟨c6, e⟩ := e
    replace e := am_ckv e; obtain ⟨c7, e⟩ := e
    replace e := am_if e; rcases e with ⟨hbr, e⟩ | ⟨hbr, e⟩
    · obtain rfl := Option.some.inj e
      exact hf
    · replace e := am_ckv e; obtain ⟨c8, e⟩ := e
      replace e := am_ckv e; obtain ⟨c9, e⟩ := e
      obtain rfl := Option.some.inj e
      exact (am_fr.a hf (by simp))
theorem x_X2_compareTwo_66 {w : Nat} {i1 i2 i3 k1 k2 k3 : Int32} {iv iv0 : am_I} (hf : am_fr [(w + 7), (w + 8), (w + 9)] [] iv0 iv) {y : am_I} (e : J_X2_compareTwo_66 w i1 i2 i3 k1 k2 k3 iv = some y) : am_fr [(w + 7), (w + 8), (w + 9)] [] iv0 y := by
  replace e := am_ckv e; obtain ⟨c15, e⟩ := e
  exact x_X2_compareTwo_68 (am_fr.a hf (by simp)) e
theorem x_X2_compareTwo {w : Nat} {i1 i2 i3 : Int32} {iv iv0 : am_I} (hf : am_fr [(w + 7), (w + 8), (w + 9)] [] iv0 iv) {y : am_I} (e : F_X2_compareTwo w i1 i2 i3 iv = some y) : am_fr [(w + 7), (w + 8), (w + 9)] [] iv0 y := by
  replace e := am_o1_i e; obtain ⟨v1, e1, e⟩ := e
  replace e := am_if e; rcases e with ⟨hbr, e⟩ | ⟨hbr, e⟩
  · replace e := am_ckv e; obtain ⟨c2, e⟩ := e
    replace e := am_ckv e; obtain ⟨c3, e⟩ := e
    replace e := am_if e; rcases e with ⟨hbr, e⟩ | ⟨hbr, e⟩
    · exact x_X2_compareTwo_68 hf e
    · replace e := am_ckv e; obtain ⟨c10, e⟩ := e
      replace e := am_ckv e; obtain ⟨c11, e⟩ := e
      replace e := am_ckv e; obtain ⟨c12, e⟩ := e
      replace e := am_ckv e; obtain ⟨c13, e⟩ := e
      replace e := am_ckv e; obtain ⟨c14, e⟩ := e
      replace e := am_if e; rcases e with ⟨hbr, e⟩ | ⟨hbr, e⟩
      · exact x_X2_compareTwo_66 (am_fr.a hf (by simp)) e
      · exact x_X2_compareTwo_66 (am_fr.a hf (by simp)) e
  · obtain rfl := Option.some.inj e
    exact hf
theorem X_X2_compareTwo {w : Nat} {i1 i2 i3 : Int32} {iv iv' : am_I} (e : F_X2_compareTwo w i1 i2 i3 iv = some iv') : am_fr [(w + 7), (w + 8), (w + 9)] [] iv iv' := x_X2_compareTwo (am_fr.rf _ _ _) e
theorem xb_X2_compare_95 {w : Nat} {i1 i2 i3 : Int32} {iv iv0 : am_I} (hf : am_fr [(w + 7), (w + 8), (w + 9)] [((w + 1), 10), ((w + 1), 9)] iv0 iv) {y : (Int32 × am_I) ⊕ (am_I)} (e : B_X2_compare_95 w i1 i2 i3 iv = some y) : Sum.elim (fun s : (Int32 × am_I) => am_fr [(w + 7), (w + 8), (w + 9)] [((w + 1), 10), ((w + 1), 9)] iv0 s.2) (fun a : (am_I) => am_fr [(w + 7), (w + 8), (w + 9)] [((w + 1), 10), ((w + 1), 9)] iv0 a) y := by
  replace e := am_if e; rcases e with ⟨hbr, e⟩ | ⟨hbr, e⟩
  · obtain rfl := Option.some.inj e
    exact hf
  · replace e := am_o1_i e; obtain ⟨w6, e6, e⟩ := e
    have f6 := am_fr.tr hf (am_fr.up (X_X2_compareTwo e6) (by simp) (by simp))
    obtain rfl := Option.some.inj e
    exact f6
theorem xl_X2_compare_95 {w : Nat} {i1 i2 : Int32} {iv0 : am_I} (s : (Int32 × am_I)) (hf : am_fr [(w + 7), (w + 8), (w + 9)] [((w + 1), 10), ((w + 1), 9)] iv0 s.2) {x : (am_I)} (e : am_loop (fun s : (Int32 × am_I) => B_X2_compare_95 w i1 i2 s.1 s.2) s = some x) : (fun a : (am_I) => am_fr [(w + 7), (w + 8), (w + 9)] [((w + 1), 10), ((w + 1), 9)] iv0 a) x :=
  am_wh_fr (f := fun s : (Int32 × am_I) => B_X2_compare_95 w i1 i2 s.1 s.2) (P := fun s => am_fr [(w + 7), (w + 8), (w + 9)] [((w + 1), 10), ((w + 1), 9)] iv0 s.2) (K := fun a : (am_I) => am_fr [(w + 7), (w + 8), (w + 9)] [((w + 1), 10), ((w + 1), 9)] iv0 a) (fun s y hf e => xb_X2_compare_95 hf e) am_fu s x hf e
theorem x_X2_compare_68 {w : Nat} {i1 i2 k1 k2 : Int32} {iv iv0 : am_I} (hf : am_fr [(w + 7), (w + 8), (w + 9)] [((w + 1), 10), ((w + 1), 9)] iv0 iv) {y : (Int32 × am_I) ⊕ (am_I)} (e : J_X2_compare_68 w i1 i2 k1 k2 iv = some y) : Sum.elim (fun s : (Int32 × am_I) => am_fr [(w + 7), (w + 8), (w + 9)] [((w + 1), 10), ((w + 1), 9)] iv0 s.2) (fun a : (am_I) => am_fr [(w + 7), (w + 8), (w + 9)] [((w + 1), 10), ((w + 1), 9)] iv0 a) y := by
  replace e := am_ckv e; obtain ⟨c3, e⟩ := e
  replace e := am_ckv e; obtain ⟨c4, e⟩ := e
  replace e := am_ckv e; obtain ⟨c5, e⟩ := e
  replace e := am_o1_i e; obtain ⟨a7, e7, e⟩ := e
  have f7 := xl_X2_compare_95 _ (am_fr.a (am_fr.a (am_fr.a (am_fr.f hf (by simp)) (by simp)) (by simp)) (by simp)) e7
  obtain rfl := Option.some.inj e
  exact f7
theorem x_X2_compare_42 {w : Nat} {i1 i2 k1 k2 : Int32} {iv iv0 : am_I} (hf : am_fr [(w + 7), (w + 8), (w + 9)] [((w + 1), 10), ((w + 1), 9)] iv0 iv) {y : (Int32 × am_I) ⊕ (am_I)} (e : J_X2_compare_42 w i1 i2 k1 k2 iv = some y) : Sum.elim (fun s : (Int32 × am_I) => am_fr [(w + 7), (w + 8), (w + 9)] [((w + 1), 10), ((w + 1), 9)] iv0 s.2) (fun a : (am_I) => am_fr [(w + 7), (w + 8), (w + 9)] [((w + 1), 10), ((w + 1), 9)] iv0 a) y := by
  replace e := am_ckv e; obtain ⟨c2, e⟩ := e
  replace e := am_if e; rcases e with ⟨hbr, e⟩ | ⟨hbr, e⟩
  · exact x_X2_compare_68 (am_fr.f hf (by simp)) e
  · exact x_X2_compare_68 (am_fr.f hf (by simp)) e
theorem xb_X2_compare_12 {w : Nat} {i1 i2 : Int32} {iv iv0 : am_I} (hf : am_fr [(w + 7), (w + 8), (w + 9)] [((w + 1), 10), ((w + 1), 9)] iv0 iv) {y : (Int32 × am_I) ⊕ (am_I)} (e : B_X2_compare_12 w i1 i2 iv = some y) : Sum.elim (fun s : (Int32 × am_I) => am_fr [(w + 7), (w + 8), (w + 9)] [((w + 1), 10), ((w + 1), 9)] iv0 s.2) (fun a : (am_I) => am_fr [(w + 7), (w + 8), (w + 9)] [((w + 1), 10), ((w + 1), 9)] iv0 a) y := by
  replace e := am_if e; rcases e with ⟨hbr, e⟩ | ⟨hbr, e⟩
  · obtain rfl := Option.some.inj e
    exact hf
  · replace e := am_ckv e; obtain ⟨c1, e⟩ := e
    replace e := am_if e; rcases e with ⟨hbr, e⟩ | ⟨hbr, e⟩
    · exact x_X2_compare_42 hf e
    · exact x_X2_compare_42 hf e
theorem xl_X2_compare_12 {w : Nat} {i1 : Int32} {iv0 : am_I} (s : (Int32 × am_I)) (hf : am_fr [(w + 7), (w + 8), (w + 9)] [((w + 1), 10), ((w + 1), 9)] iv0 s.2) {x : (am_I)} (e : am_loop (fun s : (Int32 × am_I) => B_X2_compare_12 w i1 s.1 s.2) s = some x) : (fun a : (am_I) => am_fr [(w + 7), (w + 8), (w + 9)] [((w + 1), 10), ((w + 1), 9)] iv0 a) x :=
  am_wh_fr (f := fun s : (Int32 × am_I) => B_X2_compare_12 w i1 s.1 s.2) (P := fun s => am_fr [(w + 7), (w + 8), (w + 9)] [((w + 1), 10), ((w + 1), 9)] iv0 s.2) (K := fun a : (am_I) => am_fr [(w + 7), (w + 8), (w + 9)] [((w + 1), 10), ((w + 1), 9)] iv0 a) (fun s y hf e => xb_X2_compare_12 hf e) am_fu s x hf e
theorem x_X2_compare {w : Nat} {i1 : Int32} {iv iv0 : am_I} (hf : am_fr [(w + 7), (w + 8), (w + 9)] [((w + 1), 10), ((w + 1), 9)] iv0 iv) {y : am_I} (e : F_X2_compare w i1 iv = some y) : am_fr [(w + 7), (w + 8), (w + 9)] [((w + 1), 10), ((w + 1), 9)] iv0 y := by
  replace e := am_o1_i e; obtain ⟨a8, e8, e⟩ := e
  have f8 := xl_X2_compare_12 _ (am_fr.f (am_fr.f hf (by simp)) (by simp)) e8
  obtain rfl := Option.some.inj e
  exact f8
theorem X_X2_compare {w : Nat} {i1 : Int32} {iv iv' : am_I} (e : F_X2_compare w i1 iv = some iv') : am_fr [(w + 7), (w + 8), (w + 9)] [((w + 1), 10), ((w + 1), 9)] iv iv' := x_X2_compare (am_fr.rf _ _ _) e
