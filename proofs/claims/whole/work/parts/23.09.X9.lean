/-! what they leave (by program) -/
theorem xb_X9_append_2 {w : Nat} {i1 i2 : Int32} {iv iv0 : am_I} (hf : am_fr [1] [(0, 1)] iv0 iv) {y : (Int32 × am_I) ⊕ (am_I)} (e : B_X9_append_2 w i1 i2 iv = some y) : Sum.elim (fun s : (Int32 × am_I) => am_fr [1] [(0, 1)] iv0 s.2) (fun a : (am_I) => am_fr [1] [(0, 1)] iv0 a) y := by
  replace e := am_if e; rcases e with ⟨hbr, e⟩ | ⟨hbr, e⟩
  · obtain rfl := Option.some.inj e
    exact hf
  · replace e := am_if e; rcases e with ⟨hbr, e⟩ | ⟨hbr, e⟩
    · obtain rfl := Option.some.inj e
      exact hf
    · replace e := am_ckv e; obtain ⟨c1, e⟩ := e
      replace e := am_ck e; obtain ⟨c2, e⟩ := e
      obtain rfl := Option.some.inj e
      exact (am_fr.f (am_fr.a hf (by simp)) (by simp))
theorem xl_X9_append_2 {w : Nat} {i1 : Int32} {iv0 : am_I} (s : (Int32 × am_I)) (hf : am_fr [1] [(0, 1)] iv0 s.2) {x : (am_I)} (e : am_loop (fun s : (Int32 × am_I) => B_X9_append_2 w i1 s.1 s.2) s = some x) : (fun a : (am_I) => am_fr [1] [(0, 1)] iv0 a) x :=
  am_wh_fr (f := fun s : (Int32 × am_I) => B_X9_append_2 w i1 s.1 s.2) (P := fun s => am_fr [1] [(0, 1)] iv0 s.2) (K := fun a : (am_I) => am_fr [1] [(0, 1)] iv0 a) (fun s y hf e => xb_X9_append_2 hf e) am_fu s x hf e
theorem x_X9_append {w : Nat} {i1 : Int32} {iv iv0 : am_I} (hf : am_fr [1] [(0, 1)] iv0 iv) {y : am_I} (e : F_X9_append w i1 iv = some y) : am_fr [1] [(0, 1)] iv0 y := by
  replace e := am_o1_i e; obtain ⟨a3, e3, e⟩ := e
  have f3 := xl_X9_append_2 _ hf e3
  obtain rfl := Option.some.inj e
  exact f3
theorem X_X9_append {w : Nat} {i1 : Int32} {iv iv' : am_I} (e : F_X9_append w i1 iv = some iv') : am_fr [1] [(0, 1)] iv iv' := x_X9_append (am_fr.rf _ _ _) e
theorem x_X9_feed {w : Nat} {i1 i2 i3 i4 i5 : Int32} {iv iv0 : am_I} (hf : am_fr [1] [(0, 1)] iv0 iv) {y : Int32 × am_I} (e : F_X9_feed w i1 i2 i3 i4 i5 iv = some y) : am_fr [1] [(0, 1)] iv0 y.2 := by
  replace e := am_if e; rcases e with ⟨hbr, e⟩ | ⟨hbr, e⟩
  · replace e := am_o1_i e; obtain ⟨w1, e1, e⟩ := e
    have f1 := am_fr.tr hf (am_fr.up (X_X9_append e1) (by simp) (by simp))
    replace e := am_o1_i e; obtain ⟨w2, e2, e⟩ := e
    have f2 := am_fr.tr f1 (am_fr.up (X_X9_append e2) (by simp) (by simp))
    replace e := am_o1_i e; obtain ⟨w3, e3, e⟩ := e
    have f3 := am_fr.tr f2 (am_fr.up (X_X9_append e3) (by simp) (by simp))
    replace e := am_o1_i e; obtain ⟨w4, e4, e⟩ := e
    have f4 := am_fr.tr f3 (am_fr.up (X_X9_append e4) (by simp) (by simp))
    replace e := am_o1_i e; obtain ⟨w5, e5, e⟩ := e
    have f5 := am_fr.tr f4 (am_fr.up (X_X9_append e5) (by simp) (by simp))
    obtain rfl := Option.some.inj e
    exact f5
  · obtain rfl := Option.some.inj e
    exact hf
theorem X_X9_feed {w : Nat} {i1 i2 i3 i4 i5 : Int32} {iv iv' : am_I} {v' : Int32} (e : F_X9_feed w i1 i2 i3 i4 i5 iv = some (v', iv')) : am_fr [1] [(0, 1)] iv iv' := x_X9_feed (am_fr.rf _ _ _) e
theorem x_X9_troubleOf {w : Nat} {i1 : Int32} {iv iv0 : am_I} (hf : am_fr [(w + 17), (w + 18), (w + 19)] [] iv0 iv) {y : Int32 × am_I} (e : F_X9_troubleOf w i1 iv = some y) : am_fr [(w + 17), (w + 18), (w + 19)] [] iv0 y.2 := by
  replace e := am_o1_i e; obtain ⟨v1, e1, e⟩ := e
  replace e := am_if e; rcases e with ⟨hbr, e⟩ | ⟨hbr, e⟩
  · obtain rfl := Option.some.inj e
    exact hf
  · replace e := am_if e; rcases e with ⟨hbr, e⟩ | ⟨hbr, e⟩
    · replace e := am_o2_i e; obtain ⟨v2, w2, e2, e⟩ := e
      have f2 := am_fr.tr hf (am_fr.up (X_X0_reachedBy e2) (by simp) (by simp))
      replace e := am_if e; rcases e with ⟨hbr, e⟩ | ⟨hbr, e⟩
      · obtain rfl := Option.some.inj e
        exact f2
      · replace e := am_o2_i e; obtain ⟨v3, w3, e3, e⟩ := e
        have f3 := am_fr.tr f2 (am_fr.up (X_X0_canBe e3) (by simp) (by simp))
        replace e := am_if e; rcases e with ⟨hbr, e⟩ | ⟨hbr, e⟩
        · obtain rfl := Option.some.inj e
          exact f3
        · replace e := am_if e; rcases e with ⟨hbr, e⟩ | ⟨hbr, e⟩
          · obtain rfl := Option.some.inj e
            exact f3
          · obtain rfl := Option.some.inj e
            exact f3
    · obtain rfl := Option.some.inj e
      exact hf
theorem X_X9_troubleOf {w : Nat} {i1 : Int32} {iv iv' : am_I} {v' : Int32} (e : F_X9_troubleOf w i1 iv = some (v', iv')) : am_fr [(w + 17), (w + 18), (w + 19)] [] iv iv' := x_X9_troubleOf (am_fr.rf _ _ _) e
theorem x_X9_move {w : Nat} {i1 : Int32} {iv iv0 : am_I} (hf : am_fr [(w + 17), (w + 18), (w + 19), 44, 45] [(42, 0), (42, 2), (42, 3), (42, 5)] iv0 iv) {y : Int32 × am_I} (e : F_X9_move w i1 iv = some y) : am_fr [(w + 17), (w + 18), (w + 19), 44, 45] [(42, 0), (42, 2), (42, 3), (42, 5)] iv0 y.2 := by
  replace e := am_o2_i e; obtain ⟨v1, w1, e1, e⟩ := e
  have f1 := am_fr.tr hf (am_fr.up (X_X9_troubleOf e1) (by simp) (by simp))
  replace e := am_if e; rcases e with ⟨hbr, e⟩ | ⟨hbr, e⟩
  · replace e := am_o2_i e; obtain ⟨v2, w2, e2, e⟩ := e
    have f2 := am_fr.tr f1 (am_fr.up (X_X0_fedBy e2) (by simp) (by simp))
    replace e := am_o1_i e; obtain ⟨w3, e3, e⟩ := e
    have f3 := am_fr.tr f2 (am_fr.up (X_X7_doMove e3) (by simp) (by simp))
    obtain rfl := Option.some.inj e
    exact f3
  · obtain rfl := Option.some.inj e
    exact (am_fr.f f1 (by simp))
theorem X_X9_move {w : Nat} {i1 : Int32} {iv iv' : am_I} {v' : Int32} (e : F_X9_move w i1 iv = some (v', iv')) : am_fr [(w + 17), (w + 18), (w + 19), 44, 45] [(42, 0), (42, 2), (42, 3), (42, 5)] iv iv' := x_X9_move (am_fr.rf _ _ _) e
theorem x_X9_undo {w : Nat} {iv iv0 : am_I} (hf : am_fr [] [(42, 0), (42, 2), (42, 3)] iv0 iv) {y : Int32 × am_I} (e : F_X9_undo w  iv = some y) : am_fr [] [(42, 0), (42, 2), (42, 3)] iv0 y.2 := by
  replace e := am_o2_i e; obtain ⟨v1, w1, e1, e⟩ := e
  have f1 := am_fr.tr hf (am_fr.up (X_X7_undoMove e1) (by simp) (by simp))
  obtain rfl := Option.some.inj e
  exact f1
theorem X_X9_undo {w : Nat} {iv iv' : am_I} {v' : Int32} (e : F_X9_undo w  iv = some (v', iv')) : am_fr [] [(42, 0), (42, 2), (42, 3)] iv iv' := x_X9_undo (am_fr.rf _ _ _) e
theorem xb_X9_slam_34 {w : Nat} {i1 i2 : Int32} {iv iv0 : am_I} (hf : am_fr [43] [(42, 0)] iv0 iv) {y : (Int32 × am_I) ⊕ (am_I)} (e : B_X9_slam_34 w i1 i2 iv = some y) : Sum.elim (fun s : (Int32 × am_I) => am_fr [43] [(42, 0)] iv0 s.2) (fun a : (am_I) => am_fr [43] [(42, 0)] iv0 a) y := by
  replace e := am_if e; rcases e with ⟨hbr, e⟩ | ⟨hbr, e⟩
  · obtain rfl := Option.some.inj e
    exact hf
  · replace e := am_ckv e; obtain ⟨c1, e⟩ := e
    replace e := am_if e; rcases e with ⟨hbr, e⟩ | ⟨hbr, e⟩
    · replace e := am_ckv e; obtain ⟨c2, e⟩ := e
      replace e := am_ckv e; obtain ⟨c3, e⟩ := e
      obtain rfl := Option.some.inj e
      exact (am_fr.a hf (by simp))
    · obtain rfl := Option.some.inj e
      exact hf
theorem xl_X9_slam_34 {w : Nat} {i1 : Int32} {iv0 : am_I} (s : (Int32 × am_I)) (hf : am_fr [43] [(42, 0)] iv0 s.2) {x : (am_I)} (e : am_loop (fun s : (Int32 × am_I) => B_X9_slam_34 w i1 s.1 s.2) s = some x) : (fun a : (am_I) => am_fr [43] [(42, 0)] iv0 a) x :=
  am_wh_fr (f := fun s : (Int32 × am_I) => B_X9_slam_34 w i1 s.1 s.2) (P := fun s => am_fr [43] [(42, 0)] iv0 s.2) (K := fun a : (am_I) => am_fr [43] [(42, 0)] iv0 a) (fun s y hf e => xb_X9_slam_34 hf e) am_fu s x hf e
theorem x_X9_slam {w : Nat} {i1 : Int32} {iv iv0 : am_I} (hf : am_fr [43] [(42, 0)] iv0 iv) {y : am_I} (e : F_X9_slam w i1 iv = some y) : am_fr [43] [(42, 0)] iv0 y := by
  replace e := am_if e; rcases e with ⟨hbr, e⟩ | ⟨hbr, e⟩
  · obtain rfl := Option.some.inj e
    exact (am_fr.f hf (by simp))
  · replace e := am_o1_i e; obtain ⟨a4, e4, e⟩ := e
    have f4 := xl_X9_slam_34 _ (am_fr.f hf (by simp)) e4
    obtain rfl := Option.some.inj e
    exact f4
theorem X_X9_slam {w : Nat} {i1 : Int32} {iv iv' : am_I} (e : F_X9_slam w i1 iv = some iv') : am_fr [43] [(42, 0)] iv iv' := x_X9_slam (am_fr.rf _ _ _) e
theorem x_X9_image {w : Nat} {iv iv0 : am_I} (hf : am_fr [47, 48, 49] [(0, 7), (46, 0), (46, 1), (46, 2), (46, 3), (46, 4), (46, 5)] iv0 iv) {y : am_I} (e : F_X9_image w  iv = some y) : am_fr [47, 48, 49] [(0, 7), (46, 0), (46, 1), (46, 2), (46, 3), (46, 4), (46, 5)] iv0 y := by
  replace e := am_o1_i e; obtain ⟨w1, e1, e⟩ := e
  have f1 := am_fr.tr hf (am_fr.up (X_X7_copyFrom e1) (by simp) (by simp))
  obtain rfl := Option.some.inj e
  exact (am_fr.f f1 (by simp))
theorem X_X9_image {w : Nat} {iv iv' : am_I} (e : F_X9_image w  iv = some iv') : am_fr [47, 48, 49] [(0, 7), (46, 0), (46, 1), (46, 2), (46, 3), (46, 4), (46, 5)] iv iv' := x_X9_image (am_fr.rf _ _ _) e
theorem x_X9_restore {w : Nat} {iv iv0 : am_I} (hf : am_fr [43, 44, 45] [(42, 0), (42, 1), (42, 2), (42, 3), (42, 4), (42, 5)] iv0 iv) {y : Int32 × am_I} (e : F_X9_restore w  iv = some y) : am_fr [43, 44, 45] [(42, 0), (42, 1), (42, 2), (42, 3), (42, 4), (42, 5)] iv0 y.2 := by
  replace e := am_if e; rcases e with ⟨hbr, e⟩ | ⟨hbr, e⟩
  · replace e := am_ck e; obtain ⟨c1, e⟩ := e
    obtain rfl := Option.some.inj e
    exact hf
  · replace e := am_o1_i e; obtain ⟨w2, e2, e⟩ := e
    have f2 := am_fr.tr hf (am_fr.up (X_X7_copyFrom e2) (by simp) (by simp))
    replace e := am_ck e; obtain ⟨c3, e⟩ := e
    obtain rfl := Option.some.inj e
    exact f2
theorem X_X9_restore {w : Nat} {iv iv' : am_I} {v' : Int32} (e : F_X9_restore w  iv = some (v', iv')) : am_fr [43, 44, 45] [(42, 0), (42, 1), (42, 2), (42, 3), (42, 4), (42, 5)] iv iv' := x_X9_restore (am_fr.rf _ _ _) e
theorem x_X9_drawer {w : Nat} {i1 i2 : Int32} {iv iv0 : am_I} (hf : am_fr [(w + 17), (w + 18), (w + 19)] [] iv0 iv) {y : Option (Int32 × am_I)} (e : F_X9_drawer w i1 i2 iv = some y) : am_qt (fun v => am_fr [(w + 17), (w + 18), (w + 19)] [] iv0 v.2) True y := by
  replace e := am_ot_i e; rcases e with ⟨w1, e1, e⟩ | ⟨e1, e⟩
  · replace e := am_if e; rcases e with ⟨hbr, e⟩ | ⟨hbr, e⟩
    · obtain rfl := Option.some.inj e
      exact trivial
    · replace e := am_if e; rcases e with ⟨hbr, e⟩ | ⟨hbr, e⟩
      · replace e := am_ckv e; obtain ⟨c2, e⟩ := e
        obtain rfl := Option.some.inj e
        exact hf
      replace e := am_if e; rcases e with ⟨hbr, e⟩ | ⟨hbr, e⟩
      · replace e := am_ckv e; obtain ⟨c3, e⟩ := e
        obtain rfl := Option.some.inj e
        exact hf
      replace e := am_if e; rcases e with ⟨hbr, e⟩ | ⟨hbr, e⟩
      · replace e := am_ckv e; obtain ⟨c4, e⟩ := e
        obtain rfl := Option.some.inj e
        exact hf
      replace e := am_if e; rcases e with ⟨hbr, e⟩ | ⟨hbr, e⟩
      · replace e := am_ckv e; obtain ⟨c5, e⟩ := e
        obtain rfl := Option.some.inj e
        exact hf
      replace e := am_if e; rcases e with ⟨hbr, e⟩ | ⟨hbr, e⟩
      · replace e := am_o1_i e; obtain ⟨v6, e6, e⟩ := e
        replace e := am_if e; rcases e with ⟨hbr, e⟩ | ⟨hbr, e⟩
        · obtain rfl := Option.some.inj e
          exact hf
        · obtain rfl := Option.some.inj e
          exact hf
      replace e := am_if e; rcases e with ⟨hbr, e⟩ | ⟨hbr, e⟩
      · obtain rfl := Option.some.inj e
        exact hf
      replace e := am_if e; rcases e with ⟨hbr, e⟩ | ⟨hbr, e⟩
      · replace e := am_o2_i e; obtain ⟨v7, w7, e7, e⟩ := e
        have f7 := am_fr.tr hf (am_fr.up (X_X0_reachedBy e7) (by simp) (by simp))
        obtain rfl := Option.some.inj e
        exact f7
      replace e := am_if e; rcases e with ⟨hbr, e⟩ | ⟨hbr, e⟩
      · replace e := am_o1_i e; obtain ⟨v8, e8, e⟩ := e
        obtain rfl := Option.some.inj e
        exact hf
      cases e
  · obtain rfl := Option.some.inj e
    exact trivial
theorem X_X9_drawer {w : Nat} {i1 i2 : Int32} {iv : am_I} {y : Int32 × am_I} (e : F_X9_drawer w i1 i2 iv = some (some y)) : am_fr [(w + 17), (w + 18), (w + 19)] [] iv y.2 := x_X9_drawer (am_fr.rf _ _ _) e
theorem x_X9_may {w : Nat} {i1 : Int32} {iv iv0 : am_I} (hf : am_fr [(w + 17), (w + 18), (w + 19)] [] iv0 iv) {y : Option (Int32 × am_I)} (e : F_X9_may w i1 iv = some y) : am_qt (fun v => am_fr [(w + 17), (w + 18), (w + 19)] [] iv0 v.2) True y := by
  replace e := am_ot_i e; rcases e with ⟨w1, e1, e⟩ | ⟨e1, e⟩
  · replace e := am_o2_i e; obtain ⟨v2, w2, e2, e⟩ := e
    have f2 := am_fr.tr hf (am_fr.up (X_X0_canBe e2) (by simp) (by simp))
    replace e := am_ck e; obtain ⟨c3, e⟩ := e
    obtain rfl := Option.some.inj e
    exact f2
  · obtain rfl := Option.some.inj e
    exact trivial
theorem X_X9_may {w : Nat} {i1 : Int32} {iv : am_I} {y : Int32 × am_I} (e : F_X9_may w i1 iv = some (some y)) : am_fr [(w + 17), (w + 18), (w + 19)] [] iv y.2 := x_X9_may (am_fr.rf _ _ _) e
theorem x_X9_broken {w : Nat} {i1 : Int32} {iv iv0 : am_I} (hf : am_fr [(w + 17), (w + 18)] [] iv0 iv) {y : Option (Int32 × am_I)} (e : F_X9_broken w i1 iv = some y) : am_qt (fun v => am_fr [(w + 17), (w + 18)] [] iv0 v.2) True y := by
  replace e := am_ot_i e; rcases e with ⟨w1, e1, e⟩ | ⟨e1, e⟩
  · replace e := am_o2_i e; obtain ⟨v2, w2, e2, e⟩ := e
    have f2 := am_fr.tr hf (am_fr.up (X_X0_leastBroken e2) (by simp) (by simp))
    obtain rfl := Option.some.inj e
    exact f2
  · obtain rfl := Option.some.inj e
    exact trivial
theorem X_X9_broken {w : Nat} {i1 : Int32} {iv : am_I} {y : Int32 × am_I} (e : F_X9_broken w i1 iv = some (some y)) : am_fr [(w + 17), (w + 18)] [] iv y.2 := x_X9_broken (am_fr.rf _ _ _) e
theorem x_X9_sleeps_40 {w : Nat} {k1 : Int32} {iv iv0 : am_I} (hf : am_fr [] [(42, 1)] iv0 iv) {y : Option (am_I)} (e : J_X9_sleeps_40 w k1 iv = some y) : am_qt (fun v => am_fr [] [(42, 1)] iv0 v) True y := by
  obtain rfl := Option.some.inj e
  exact (am_fr.f hf (by simp))
theorem x_X9_sleeps {w : Nat} {i1 i2 : Int32} {iv iv0 : am_I} (hf : am_fr [] [(42, 1)] iv0 iv) {y : Option (am_I)} (e : F_X9_sleeps w i1 i2 iv = some y) : am_qt (fun v => am_fr [] [(42, 1)] iv0 v) True y := by
  replace e := am_ot_i e; rcases e with ⟨w1, e1, e⟩ | ⟨e1, e⟩
  · replace e := am_if e; rcases e with ⟨hbr, e⟩ | ⟨hbr, e⟩
    · exact x_X9_sleeps_40 hf e
    · exact x_X9_sleeps_40 hf e
  · obtain rfl := Option.some.inj e
    exact trivial
theorem X_X9_sleeps {w : Nat} {i1 i2 : Int32} {iv : am_I} {y : am_I} (e : F_X9_sleeps w i1 i2 iv = some (some y)) : am_fr [] [(42, 1)] iv y := x_X9_sleeps (am_fr.rf _ _ _) e
theorem xb_X9_wind_38 {w : Nat} {i2 i5 i3 i4 i6 : Int32} {iv iv0 : am_I} (hf : am_fr [43] [(42, 0), (42, 3)] iv0 iv) {y : (Int32 × Int32 × Int32 × am_I) ⊕ (Int32 × Int32 × am_I)} (e : B_X9_wind_38 w i2 i5 i3 i4 i6 iv = some y) : Sum.elim (fun s : (Int32 × Int32 × Int32 × am_I) => am_fr [43] [(42, 0), (42, 3)] iv0 s.2.2.2) (fun a : (Int32 × Int32 × am_I) => am_fr [43] [(42, 0), (42, 3)] iv0 a.2.2) y := by
  replace e := am_if e; rcases e with ⟨hbr, e⟩ | ⟨hbr, e⟩
  · obtain rfl := Option.some.inj e
    exact hf
  · replace e := am_if e; rcases e with ⟨hbr, e⟩ | ⟨hbr, e⟩
    · obtain rfl := Option.some.inj e
      exact hf
    · replace e := am_ckv e; obtain ⟨c1, e⟩ := e
      replace e := am_if e; rcases e with ⟨hbr, e⟩ | ⟨hbr, e⟩
      · obtain rfl := Option.some.inj e
        exact hf
      · replace e := am_o1_i e; obtain ⟨w2, e2, e⟩ := e
        have f2 := am_fr.tr hf (am_fr.up (X_X9_slam e2) (by simp) (by simp))
        obtain rfl := Option.some.inj e
        exact f2
theorem xl_X9_wind_38 {w : Nat} {i2 i5 : Int32} {iv0 : am_I} (s : (Int32 × Int32 × Int32 × am_I)) (hf : am_fr [43] [(42, 0), (42, 3)] iv0 s.2.2.2) {x : (Int32 × Int32 × am_I)} (e : am_loop (fun s : (Int32 × Int32 × Int32 × am_I) => B_X9_wind_38 w i2 i5 s.1 s.2.1 s.2.2.1 s.2.2.2) s = some x) : (fun a : (Int32 × Int32 × am_I) => am_fr [43] [(42, 0), (42, 3)] iv0 a.2.2) x :=
  am_wh_fr (f := fun s : (Int32 × Int32 × Int32 × am_I) => B_X9_wind_38 w i2 i5 s.1 s.2.1 s.2.2.1 s.2.2.2) (P := fun s => am_fr [43] [(42, 0), (42, 3)] iv0 s.2.2.2) (K := fun a : (Int32 × Int32 × am_I) => am_fr [43] [(42, 0), (42, 3)] iv0 a.2.2) (fun s y hf e => xb_X9_wind_38 hf e) am_fu s x hf e
theorem xb_X9_wind_29 {w : Nat} {i2 i3 i4 i5 : Int32} {iv iv0 : am_I} (hf : am_fr [43] [(42, 0), (42, 3)] iv0 iv) {y : (Int32 × Int32 × Int32 × am_I) ⊕ (Int32 × am_I)} (e : B_X9_wind_29 w i2 i3 i4 i5 iv = some y) : Sum.elim (fun s : (Int32 × Int32 × Int32 × am_I) => am_fr [43] [(42, 0), (42, 3)] iv0 s.2.2.2) (fun a : (Int32 × am_I) => am_fr [43] [(42, 0), (42, 3)] iv0 a.2) y := by
  replace e := am_if e; rcases e with ⟨hbr, e⟩ | ⟨hbr, e⟩
  · obtain rfl := Option.some.inj e
    exact hf
  · replace e := am_o1_i e; obtain ⟨a3, e3, e⟩ := e
    have f3 := xl_X9_wind_38 _ hf e3
    obtain rfl := Option.some.inj e
    exact f3
theorem xl_X9_wind_29 {w : Nat} {i2 : Int32} {iv0 : am_I} (s : (Int32 × Int32 × Int32 × am_I)) (hf : am_fr [43] [(42, 0), (42, 3)] iv0 s.2.2.2) {x : (Int32 × am_I)} (e : am_loop (fun s : (Int32 × Int32 × Int32 × am_I) => B_X9_wind_29 w i2 s.1 s.2.1 s.2.2.1 s.2.2.2) s = some x) : (fun a : (Int32 × am_I) => am_fr [43] [(42, 0), (42, 3)] iv0 a.2) x :=
  am_wh_fr (f := fun s : (Int32 × Int32 × Int32 × am_I) => B_X9_wind_29 w i2 s.1 s.2.1 s.2.2.1 s.2.2.2) (P := fun s => am_fr [43] [(42, 0), (42, 3)] iv0 s.2.2.2) (K := fun a : (Int32 × am_I) => am_fr [43] [(42, 0), (42, 3)] iv0 a.2) (fun s y hf e => xb_X9_wind_29 hf e) am_fu s x hf e
theorem x_X9_wind {w : Nat} {i1 i2 : Int32} {iv iv0 : am_I} (hf : am_fr [43] [(42, 0), (42, 3)] iv0 iv) {y : Option (Int32 × am_I)} (e : F_X9_wind w i1 i2 iv = some y) : am_qt (fun v => am_fr [43] [(42, 0), (42, 3)] iv0 v.2) True y := by
  replace e := am_if e; rcases e with ⟨hbr, e⟩ | ⟨hbr, e⟩
  · obtain rfl := Option.some.inj e
    exact trivial
  · replace e := am_if e; rcases e with ⟨hbr, e⟩ | ⟨hbr, e⟩
    · replace e := am_o1_i e; obtain ⟨a4, e4, e⟩ := e
      have f4 := xl_X9_wind_29 _ hf e4
      replace e := am_if e; rcases e with ⟨hbr, e⟩ | ⟨hbr, e⟩
      · obtain rfl := Option.some.inj e
        exact f4
      · obtain rfl := Option.some.inj e
        exact (am_fr.f f4 (by simp))
    · obtain rfl := Option.some.inj e
      exact trivial
theorem X_X9_wind {w : Nat} {i1 i2 : Int32} {iv : am_I} {y : Int32 × am_I} (e : F_X9_wind w i1 i2 iv = some (some y)) : am_fr [43] [(42, 0), (42, 3)] iv y.2 := x_X9_wind (am_fr.rf _ _ _) e
