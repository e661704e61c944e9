/-! what they leave (by program) -/
theorem x_X10_holds_95 {i1 i2 i3 k1 k2 : Int32} {iv iv0 : am_I} (hf : am_fr [76] [] iv0 iv) {y : (Int32 × Int32 × am_I) ⊕ (am_I)} (e : J_X10_holds_95 i1 i2 i3 k1 k2 iv = some y) : Sum.elim (fun s : (Int32 × Int32 × am_I) => am_fr [76] [] iv0 s.2.2) (fun a : (am_I) => am_fr [76] [] iv0 a) y := by
  replace e := am_ckv e; obtain ⟨c9, e⟩ := e
  obtain rfl := Option.some.inj e
  exact (am_fr.a hf (by simp))
theorem x_X10_holds_58 {i1 i2 i3 k1 k2 : Int32} {iv iv0 : am_I} (hf : am_fr [76] [] iv0 iv) {y : (Int32 × Int32 × am_I) ⊕ (am_I)} (e : J_X10_holds_58 i1 i2 i3 k1 k2 iv = some y) : Sum.elim (fun s : (Int32 × Int32 × am_I) => am_fr [76] [] iv0 s.2.2) (fun a : (am_I) => am_fr [76] [] iv0 a) y := by
  replace e := am_ckv e; obtain ⟨c11, e⟩ := e
  obtain rfl := Option.some.inj e
  exact (am_fr.a hf (by simp))
theorem xb_X10_holds_9 {i1 i2 i3 : Int32} {iv iv0 : am_I} (hf : am_fr [76] [] iv0 iv) {y : (Int32 × Int32 × am_I) ⊕ (am_I)} (e : B_X10_holds_9 i1 i2 i3 iv = some y) : Sum.elim (fun s : (Int32 × Int32 × am_I) => am_fr [76] [] iv0 s.2.2) (fun a : (am_I) => am_fr [76] [] iv0 a) y := by
  replace e := am_ckv e; obtain ⟨c2, e⟩ := e
  replace e := am_if e; rcases e with ⟨hbr, e⟩ | ⟨hbr, e⟩
  · obtain rfl := Option.some.inj e
    exact hf
  · replace e := am_ckv e; obtain ⟨c3, e⟩ := e
    replace e := am_if e; rcases e with ⟨hbr, e⟩ | ⟨hbr, e⟩
    · replace e := am_if e; rcases e with ⟨hbr, e⟩ | ⟨hbr, e⟩
      · replace e := am_ckv e; obtain ⟨c8, e⟩ := e
        replace e := am_if e; rcases e with ⟨hbr, e⟩ | ⟨hbr, e⟩
        · exact x_X10_holds_95 hf e
        · exact x_X10_holds_95 hf e
      · replace e := am_ckv e; obtain ⟨c4, e⟩ := e
        replace e := am_ckv e; obtain ⟨c5, e⟩ := e
        replace e := am_o1_i e; obtain ⟨v6, e6, e⟩ := e
        replace e := am_ckv e; obtain ⟨c7, e⟩ := e
        obtain rfl := Option.some.inj e
        exact (am_fr.a hf (by simp))
    · replace e := am_if e; rcases e with ⟨hbr, e⟩ | ⟨hbr, e⟩
      · replace e := am_ckv e; obtain ⟨c10, e⟩ := e
        exact x_X10_holds_58 hf e
      · exact x_X10_holds_58 hf e
theorem xl_X10_holds_9 {i1 : Int32} {iv0 : am_I} (s : (Int32 × Int32 × am_I)) (hf : am_fr [76] [] iv0 s.2.2) {x : (am_I)} (e : am_loop (fun s : (Int32 × Int32 × am_I) => B_X10_holds_9 i1 s.1 s.2.1 s.2.2) s = some x) : (fun a : (am_I) => am_fr [76] [] iv0 a) x :=
  am_wh_fr (f := fun s : (Int32 × Int32 × am_I) => B_X10_holds_9 i1 s.1 s.2.1 s.2.2) (P := fun s => am_fr [76] [] iv0 s.2.2) (K := fun a : (am_I) => am_fr [76] [] iv0 a) (fun s y hf e => xb_X10_holds_9 hf e) am_fu s x hf e
theorem x_X10_holds {i1 : Int32} {iv iv0 : am_I} (hf : am_fr [76] [] iv0 iv) {y : Int32 × am_I} (e : F_X10_holds i1 iv = some y) : am_fr [76] [] iv0 y.2 := by
  replace e := am_ckv e; obtain ⟨c1, e⟩ := e
  replace e := am_o1_i e; obtain ⟨a12, e12, e⟩ := e
  have f12 := xl_X10_holds_9 _ hf e12
  replace e := am_if e; rcases e with ⟨hbr, e⟩ | ⟨hbr, e⟩
  · obtain rfl := Option.some.inj e
    exact f12
  · obtain rfl := Option.some.inj e
    exact f12
theorem X_X10_holds {i1 : Int32} {iv iv' : am_I} {v' : Int32} (e : F_X10_holds i1 iv = some (v', iv')) : am_fr [76] [] iv iv' := x_X10_holds (am_fr.rf _ _ _) e
theorem x_X10_ask_162 {i1 i2 i3 k1 k2 k3 : Int32} {iv iv0 : am_I} (hf : am_fr [75] [] iv0 iv) {y : (Int32 × am_I) ⊕ (am_I)} (e : J_X10_ask_162 i1 i2 i3 k1 k2 k3 iv = some y) : Sum.elim (fun s : (Int32 × am_I) => am_fr [75] [] iv0 s.2) (fun a : (am_I) => am_fr [75] [] iv0 a) y := by
  replace e := am_ckv e; obtain ⟨c9, e⟩ := e
  obtain rfl := Option.some.inj e
  exact (am_fr.a hf (by simp))
theorem x_X10_ask_161 {i1 i2 i3 k1 k2 : Int32} {iv iv0 : am_I} (hf : am_fr [75] [] iv0 iv) {y : (Int32 × am_I) ⊕ (am_I)} (e : J_X10_ask_161 i1 i2 i3 k1 k2 iv = some y) : Sum.elim (fun s : (Int32 × am_I) => am_fr [75] [] iv0 s.2) (fun a : (am_I) => am_fr [75] [] iv0 a) y := by
  exact x_X10_ask_162 hf e
theorem x_X10_ask_118 {i1 i2 i3 k1 k2 k3 : Int32} {iv iv0 : am_I} (hf : am_fr [75] [] iv0 iv) {y : (Int32 × am_I) ⊕ (am_I)} (e : J_X10_ask_118 i1 i2 i3 k1 k2 k3 iv = some y) : Sum.elim (fun s : (Int32 × am_I) => am_fr [75] [] iv0 s.2) (fun a : (am_I) => am_fr [75] [] iv0 a) y := by
  replace e := am_ckv e; obtain ⟨c8, e⟩ := e
  replace e := am_if e; rcases e with ⟨hbr, e⟩ | ⟨hbr, e⟩
  · exact x_X10_ask_161 (am_fr.a hf (by simp)) e
  · replace e := am_o1_i e; obtain ⟨v10, e10, e⟩ := e
    replace e := am_if e; rcases e with ⟨hbr, e⟩ | ⟨hbr, e⟩
    · exact x_X10_ask_161 (am_fr.a hf (by simp)) e
    · replace e := am_ckv e; obtain ⟨c11, e⟩ := e
      replace e := am_ckv e; obtain ⟨c12, e⟩ := e
      replace e := am_if e; rcases e with ⟨hbr, e⟩ | ⟨hbr, e⟩
      · exact x_X10_ask_161 (am_fr.a hf (by simp)) e
      · exact x_X10_ask_162 (am_fr.a hf (by simp)) e
theorem xb_X10_ask_75 {i1 i2 i3 : Int32} {iv iv0 : am_I} (hf : am_fr [75] [] iv0 iv) {y : (Int32 × am_I) ⊕ (am_I)} (e : B_X10_ask_75 i1 i2 i3 iv = some y) : Sum.elim (fun s : (Int32 × am_I) => am_fr [75] [] iv0 s.2) (fun a : (am_I) => am_fr [75] [] iv0 a) y := by
  replace e := am_if e; rcases e with ⟨hbr, e⟩ | ⟨hbr, e⟩
  · obtain rfl := Option.some.inj e
    exact hf
  · replace e := am_o1_i e; obtain ⟨v6, e6, e⟩ := e
    replace e := am_if e; rcases e with ⟨hbr, e⟩ | ⟨hbr, e⟩
    · obtain rfl := Option.some.inj e
      exact hf
    · replace e := am_ckv e; obtain ⟨c7, e⟩ := e
      replace e := am_if e; rcases e with ⟨hbr, e⟩ | ⟨hbr, e⟩
      · exact x_X10_ask_118 hf e
      · exact x_X10_ask_118 hf e
theorem xl_X10_ask_75 {i1 i2 : Int32} {iv0 : am_I} (s : (Int32 × am_I)) (hf : am_fr [75] [] iv0 s.2) {x : (am_I)} (e : am_loop (fun s : (Int32 × am_I) => B_X10_ask_75 i1 i2 s.1 s.2) s = some x) : (fun a : (am_I) => am_fr [75] [] iv0 a) x :=
  am_wh_fr (f := fun s : (Int32 × am_I) => B_X10_ask_75 i1 i2 s.1 s.2) (P := fun s => am_fr [75] [] iv0 s.2) (K := fun a : (am_I) => am_fr [75] [] iv0 a) (fun s y hf e => xb_X10_ask_75 hf e) am_fu s x hf e
theorem x_X10_ask {i1 i2 : Int32} {iv iv0 : am_I} (hf : am_fr [75] [] iv0 iv) {y : am_I} (e : F_X10_ask i1 i2 iv = some y) : am_fr [75] [] iv0 y := by
  replace e := am_ckv e; obtain ⟨c1, e⟩ := e
  replace e := am_ckv e; obtain ⟨c2, e⟩ := e
  replace e := am_ckv e; obtain ⟨c3, e⟩ := e
  replace e := am_ckv e; obtain ⟨c4, e⟩ := e
  replace e := am_o1_i e; obtain ⟨v5, e5, e⟩ := e
  replace e := am_o1_i e; obtain ⟨a13, e13, e⟩ := e
  have f13 := xl_X10_ask_75 _ (am_fr.a (am_fr.a (am_fr.a (am_fr.a (am_fr.a (am_fr.a (am_fr.a hf (by simp)) (by simp)) (by simp)) (by simp)) (by simp)) (by simp)) (by simp)) e13
  obtain rfl := Option.some.inj e
  exact f13
theorem X_X10_ask {i1 i2 : Int32} {iv iv' : am_I} (e : F_X10_ask i1 i2 iv = some iv') : am_fr [75] [] iv iv' := x_X10_ask (am_fr.rf _ _ _) e
theorem x_X10_brokenBy_56 {i1 i2 i3 i4 : Int32} {iv iv0 : am_I} (hf : am_fr [75, 76] [] iv0 iv) {y : (Int32 × Int32 × am_I) ⊕ (Int32 × am_I)} (e : J_X10_brokenBy_56 i1 i2 i3 i4 iv = some y) : Sum.elim (fun s : (Int32 × Int32 × am_I) => am_fr [75, 76] [] iv0 s.2.2) (fun a : (Int32 × am_I) => am_fr [75, 76] [] iv0 a.2) y := by
  replace e := am_o2_i e; obtain ⟨v3, w3, e3, e⟩ := e
  have f3 := am_fr.tr hf (am_fr.up (X_X10_holds e3) (by simp) (by simp))
  replace e := am_if e; rcases e with ⟨hbr, e⟩ | ⟨hbr, e⟩
  · obtain rfl := Option.some.inj e
    exact f3
  · obtain rfl := Option.some.inj e
    exact f3
theorem xb_X10_brokenBy_34 {i1 i3 i2 i4 : Int32} {iv iv0 : am_I} (hf : am_fr [75, 76] [] iv0 iv) {y : (Int32 × Int32 × am_I) ⊕ (Int32 × am_I)} (e : B_X10_brokenBy_34 i1 i3 i2 i4 iv = some y) : Sum.elim (fun s : (Int32 × Int32 × am_I) => am_fr [75, 76] [] iv0 s.2.2) (fun a : (Int32 × am_I) => am_fr [75, 76] [] iv0 a.2) y := by
  replace e := am_if e; rcases e with ⟨hbr, e⟩ | ⟨hbr, e⟩
  · obtain rfl := Option.some.inj e
    exact hf
  · replace e := am_if e; rcases e with ⟨hbr, e⟩ | ⟨hbr, e⟩
    · exact x_X10_brokenBy_56 hf e
    · replace e := am_if e; rcases e with ⟨hbr, e⟩ | ⟨hbr, e⟩
      · obtain rfl := Option.some.inj e
        exact hf
      · exact x_X10_brokenBy_56 hf e
theorem xl_X10_brokenBy_34 {i1 i3 : Int32} {iv0 : am_I} (s : (Int32 × Int32 × am_I)) (hf : am_fr [75, 76] [] iv0 s.2.2) {x : (Int32 × am_I)} (e : am_loop (fun s : (Int32 × Int32 × am_I) => B_X10_brokenBy_34 i1 i3 s.1 s.2.1 s.2.2) s = some x) : (fun a : (Int32 × am_I) => am_fr [75, 76] [] iv0 a.2) x :=
  am_wh_fr (f := fun s : (Int32 × Int32 × am_I) => B_X10_brokenBy_34 i1 i3 s.1 s.2.1 s.2.2) (P := fun s => am_fr [75, 76] [] iv0 s.2.2) (K := fun a : (Int32 × am_I) => am_fr [75, 76] [] iv0 a.2) (fun s y hf e => xb_X10_brokenBy_34 hf e) am_fu s x hf e
theorem xb_X10_brokenBy_4 {i1 i2 i3 : Int32} {iv iv0 : am_I} (hf : am_fr [75, 76] [] iv0 iv) {y : (Int32 × Int32 × am_I) ⊕ (Int32 × am_I)} (e : B_X10_brokenBy_4 i1 i2 i3 iv = some y) : Sum.elim (fun s : (Int32 × Int32 × am_I) => am_fr [75, 76] [] iv0 s.2.2) (fun a : (Int32 × am_I) => am_fr [75, 76] [] iv0 a.2) y := by
  replace e := am_if e; rcases e with ⟨hbr, e⟩ | ⟨hbr, e⟩
  · obtain rfl := Option.some.inj e
    exact hf
  · replace e := am_o1_i e; obtain ⟨v1, e1, e⟩ := e
    replace e := am_if e; rcases e with ⟨hbr, e⟩ | ⟨hbr, e⟩
    · obtain rfl := Option.some.inj e
      exact hf
    · replace e := am_o1_i e; obtain ⟨w2, e2, e⟩ := e
      have f2 := am_fr.tr hf (am_fr.up (X_X10_ask e2) (by simp) (by simp))
      replace e := am_o1_i e; obtain ⟨a4, e4, e⟩ := e
      have f4 := xl_X10_brokenBy_34 _ f2 e4
      obtain rfl := Option.some.inj e
      exact f4
theorem xl_X10_brokenBy_4 {i1 : Int32} {iv0 : am_I} (s : (Int32 × Int32 × am_I)) (hf : am_fr [75, 76] [] iv0 s.2.2) {x : (Int32 × am_I)} (e : am_loop (fun s : (Int32 × Int32 × am_I) => B_X10_brokenBy_4 i1 s.1 s.2.1 s.2.2) s = some x) : (fun a : (Int32 × am_I) => am_fr [75, 76] [] iv0 a.2) x :=
  am_wh_fr (f := fun s : (Int32 × Int32 × am_I) => B_X10_brokenBy_4 i1 s.1 s.2.1 s.2.2) (P := fun s => am_fr [75, 76] [] iv0 s.2.2) (K := fun a : (Int32 × am_I) => am_fr [75, 76] [] iv0 a.2) (fun s y hf e => xb_X10_brokenBy_4 hf e) am_fu s x hf e
theorem x_X10_brokenBy {i1 : Int32} {iv iv0 : am_I} (hf : am_fr [75, 76] [] iv0 iv) {y : Int32 × am_I} (e : F_X10_brokenBy i1 iv = some y) : am_fr [75, 76] [] iv0 y.2 := by
  replace e := am_o1_i e; obtain ⟨a5, e5, e⟩ := e
  have f5 := xl_X10_brokenBy_4 _ hf e5
  obtain rfl := Option.some.inj e
  exact f5
theorem X_X10_brokenBy {i1 : Int32} {iv iv' : am_I} {v' : Int32} (e : F_X10_brokenBy i1 iv = some (v', iv')) : am_fr [75, 76] [] iv iv' := x_X10_brokenBy (am_fr.rf _ _ _) e
theorem xb_X10_canBe_37 {i1 i2 i3 : Int32} {iv iv0 : am_I} (hf : am_fr [75, 76] [] iv0 iv) {y : (Int32) ⊕ ((Unit) ⊕ (Int32 × am_I))} (e : B_X10_canBe_37 i1 i2 iv i3 = some y) : Sum.elim (fun s : (Int32) => True) (Sum.elim (fun a : (Unit) => True) (fun r : (Int32 × am_I) => am_fr [75, 76] [] iv0 r.2)) y := by
  replace e := am_if e; rcases e with ⟨hbr, e⟩ | ⟨hbr, e⟩
  · obtain rfl := Option.some.inj e
    exact trivial
  · replace e := am_o1_i e; obtain ⟨v3, e3, e⟩ := e
    replace e := am_if e; rcases e with ⟨hbr, e⟩ | ⟨hbr, e⟩
    · obtain rfl := Option.some.inj e
      exact trivial
    · replace e := am_o1_i e; obtain ⟨v4, e4, e⟩ := e
      replace e := am_if e; rcases e with ⟨hbr, e⟩ | ⟨hbr, e⟩
      · obtain rfl := Option.some.inj e
        exact trivial
      · replace e := am_ckv e; obtain ⟨c5, e⟩ := e
        replace e := am_ckv e; obtain ⟨c6, e⟩ := e
        replace e := am_if e; rcases e with ⟨hbr, e⟩ | ⟨hbr, e⟩
        · obtain rfl := Option.some.inj e
          exact trivial
        · replace e := am_ckv e; obtain ⟨c7, e⟩ := e
          replace e := am_ckv e; obtain ⟨c8, e⟩ := e
          replace e := am_if e; rcases e with ⟨hbr, e⟩ | ⟨hbr, e⟩
          · obtain rfl := Option.some.inj e
            exact trivial
          · obtain rfl := Option.some.inj e
            exact hf
theorem xl_X10_canBe_37 {i1 i2 : Int32} {iv : am_I} {iv0 : am_I} (s : (Int32)) (hf : am_fr [75, 76] [] iv0 iv) {x : ((Unit) ⊕ (Int32 × am_I))} (e : am_loop (fun s : (Int32) => B_X10_canBe_37 i1 i2 iv s) s = some x) : (Sum.elim (fun a : (Unit) => True) (fun r : (Int32 × am_I) => am_fr [75, 76] [] iv0 r.2)) x :=
  am_wh_fr (f := fun s : (Int32) => B_X10_canBe_37 i1 i2 iv s) (P := fun s => am_fr [75, 76] [] iv0 iv) (K := Sum.elim (fun a : (Unit) => True) (fun r : (Int32 × am_I) => am_fr [75, 76] [] iv0 r.2)) (fun s y hf e => am_elim hf (xb_X10_canBe_37 hf e)) am_fu s x hf e
theorem xb_X10_canBe_2 {i1 i2 : Int32} {iv iv0 : am_I} (hf : am_fr [75, 76] [] iv0 iv) {y : (Int32) ⊕ ((Unit) ⊕ (Int32 × am_I))} (e : B_X10_canBe_2 i1 iv i2 = some y) : Sum.elim (fun s : (Int32) => True) (Sum.elim (fun a : (Unit) => True) (fun r : (Int32 × am_I) => am_fr [75, 76] [] iv0 r.2)) y := by
  replace e := am_if e; rcases e with ⟨hbr, e⟩ | ⟨hbr, e⟩
  · obtain rfl := Option.some.inj e
    exact trivial
  · replace e := am_o1_i e; obtain ⟨v1, e1, e⟩ := e
    replace e := am_if e; rcases e with ⟨hbr, e⟩ | ⟨hbr, e⟩
    · obtain rfl := Option.some.inj e
      exact trivial
    · replace e := am_ckv e; obtain ⟨c2, e⟩ := e
      replace e := am_if e; rcases e with ⟨hbr, e⟩ | ⟨hbr, e⟩
      · obtain rfl := Option.some.inj e
        exact hf
      · replace e := am_lp_i e; rcases e with ⟨a9, e9, e⟩ | ⟨r9, e9, e⟩
        · have f9 := xl_X10_canBe_37 _ hf e9
          obtain rfl := Option.some.inj e
          exact trivial
        · have f9 := xl_X10_canBe_37 _ hf e9
          obtain rfl := Option.some.inj e
          exact f9
theorem xl_X10_canBe_2 {i1 : Int32} {iv : am_I} {iv0 : am_I} (s : (Int32)) (hf : am_fr [75, 76] [] iv0 iv) {x : ((Unit) ⊕ (Int32 × am_I))} (e : am_loop (fun s : (Int32) => B_X10_canBe_2 i1 iv s) s = some x) : (Sum.elim (fun a : (Unit) => True) (fun r : (Int32 × am_I) => am_fr [75, 76] [] iv0 r.2)) x :=
  am_wh_fr (f := fun s : (Int32) => B_X10_canBe_2 i1 iv s) (P := fun s => am_fr [75, 76] [] iv0 iv) (K := Sum.elim (fun a : (Unit) => True) (fun r : (Int32 × am_I) => am_fr [75, 76] [] iv0 r.2)) (fun s y hf e => am_elim hf (xb_X10_canBe_2 hf e)) am_fu s x hf e
theorem x_X10_canBe {i1 : Int32} {iv iv0 : am_I} (hf : am_fr [75, 76] [] iv0 iv) {y : Int32 × am_I} (e : F_X10_canBe i1 iv = some y) : am_fr [75, 76] [] iv0 y.2 := by
  replace e := am_lp_i e; rcases e with ⟨a10, e10, e⟩ | ⟨r10, e10, e⟩
  · have f10 := xl_X10_canBe_2 _ hf e10
    replace e := am_o2_i e; obtain ⟨v11, w11, e11, e⟩ := e
    have f11 := am_fr.tr hf (am_fr.up (X_X10_brokenBy e11) (by simp) (by simp))
    replace e := am_if e; rcases e with ⟨hbr, e⟩ | ⟨hbr, e⟩
    · obtain rfl := Option.some.inj e
      exact f11
    · obtain rfl := Option.some.inj e
      exact f11
  · have f10 := xl_X10_canBe_2 _ hf e10
    obtain rfl := Option.some.inj e
    exact f10
theorem X_X10_canBe {i1 : Int32} {iv iv' : am_I} {v' : Int32} (e : F_X10_canBe i1 iv = some (v', iv')) : am_fr [75, 76] [] iv iv' := x_X10_canBe (am_fr.rf _ _ _) e
theorem x_X10_may {i1 : Int32} {iv iv0 : am_I} (hf : am_fr [75, 76] [(54, 3)] iv0 iv) {y : Int32 × am_I} (e : F_X10_may i1 iv = some y) : am_fr [75, 76] [(54, 3)] iv0 y.2 := by
  replace e := am_o1_i e; obtain ⟨v1, e1, e⟩ := e
  replace e := am_if e; rcases e with ⟨hbr, e⟩ | ⟨hbr, e⟩
  · obtain rfl := Option.some.inj e
    exact (am_fr.f (am_fr.f hf (by simp)) (by simp))
  · replace e := am_o2_i e; obtain ⟨v2, w2, e2, e⟩ := e
    have f2 := am_fr.tr (am_fr.f hf (by simp)) (am_fr.up (X_X10_canBe e2) (by simp) (by simp))
    replace e := am_ck e; obtain ⟨c3, e⟩ := e
    obtain rfl := Option.some.inj e
    exact f2
theorem X_X10_may {i1 : Int32} {iv iv' : am_I} {v' : Int32} (e : F_X10_may i1 iv = some (v', iv')) : am_fr [75, 76] [(54, 3)] iv iv' := x_X10_may (am_fr.rf _ _ _) e
theorem x_X10_broken {i1 : Int32} {iv iv0 : am_I} (hf : am_fr [75, 76] [(54, 3)] iv0 iv) {y : Int32 × am_I} (e : F_X10_broken i1 iv = some y) : am_fr [75, 76] [(54, 3)] iv0 y.2 := by
  replace e := am_o1_i e; obtain ⟨v1, e1, e⟩ := e
  replace e := am_if e; rcases e with ⟨hbr, e⟩ | ⟨hbr, e⟩
  · replace e := am_o2_i e; obtain ⟨v2, w2, e2, e⟩ := e
    have f2 := am_fr.tr (am_fr.f hf (by simp)) (am_fr.up (X_X10_fail e2) (by simp) (by simp))
    obtain rfl := Option.some.inj e
    exact f2
  · replace e := am_o2_i e; obtain ⟨v3, w3, e3, e⟩ := e
    have f3 := am_fr.tr (am_fr.f hf (by simp)) (am_fr.up (X_X10_brokenBy e3) (by simp) (by simp))
    obtain rfl := Option.some.inj e
    exact f3
theorem X_X10_broken {i1 : Int32} {iv iv' : am_I} {v' : Int32} (e : F_X10_broken i1 iv = some (v', iv')) : am_fr [75, 76] [(54, 3)] iv iv' := x_X10_broken (am_fr.rf _ _ _) e
theorem x_X10_count_89 {i1 : Int32} {iv iv0 : am_I} (hf : am_fr [] [(54, 3)] iv0 iv) {y : Int32 × am_I} (e : J_X10_count_89 i1 iv = some y) : am_fr [] [(54, 3)] iv0 y.2 := by
  replace e := am_ckv e; obtain ⟨c3, e⟩ := e
  obtain rfl := Option.some.inj e
  exact hf
theorem x_X10_count {i1 : Int32} {iv iv0 : am_I} (hf : am_fr [] [(54, 3)] iv0 iv) {y : Int32 × am_I} (e : F_X10_count i1 iv = some y) : am_fr [] [(54, 3)] iv0 y.2 := by
  replace e := am_o1_i e; obtain ⟨v1, e1, e⟩ := e
  replace e := am_if e; rcases e with ⟨hbr, e⟩ | ⟨hbr, e⟩
  · replace e := am_if e; rcases e with ⟨hbr, e⟩ | ⟨hbr, e⟩
    · replace e := am_o2_i e; obtain ⟨v2, w2, e2, e⟩ := e
      have f2 := am_fr.tr (am_fr.f hf (by simp)) (am_fr.up (X_X10_fail e2) (by simp) (by simp))
      obtain rfl := Option.some.inj e
      exact f2
    · replace e := am_if e; rcases e with ⟨hbr, e⟩ | ⟨hbr, e⟩
      · obtain rfl := Option.some.inj e
        exact (am_fr.f hf (by simp))
      replace e := am_if e; rcases e with ⟨hbr, e⟩ | ⟨hbr, e⟩
      · obtain rfl := Option.some.inj e
        exact (am_fr.f hf (by simp))
      replace e := am_if e; rcases e with ⟨hbr, e⟩ | ⟨hbr, e⟩
      · obtain rfl := Option.some.inj e
        exact (am_fr.f hf (by simp))
      replace e := am_if e; rcases e with ⟨hbr, e⟩ | ⟨hbr, e⟩
      · obtain rfl := Option.some.inj e
        exact (am_fr.f hf (by simp))
      replace e := am_if e; rcases e with ⟨hbr, e⟩ | ⟨hbr, e⟩
      · obtain rfl := Option.some.inj e
        exact (am_fr.f hf (by simp))
      replace e := am_if e; rcases e with ⟨hbr, e⟩ | ⟨hbr, e⟩
      · exact x_X10_count_89 (am_fr.f hf (by simp)) e
      replace e := am_if e; rcases e with ⟨hbr, e⟩ | ⟨hbr, e⟩
      · exact x_X10_count_89 (am_fr.f hf (by simp)) e
      cases e
  · replace e := am_ckv e; obtain ⟨c4, e⟩ := e
    obtain rfl := Option.some.inj e
    exact (am_fr.f hf (by simp))
theorem X_X10_count {i1 : Int32} {iv iv' : am_I} {v' : Int32} (e : F_X10_count i1 iv = some (v', iv')) : am_fr [] [(54, 3)] iv iv' := x_X10_count (am_fr.rf _ _ _) e
theorem x_X10_drawer {i1 i2 : Int32} {iv iv0 : am_I} (hf : am_fr [] [(54, 3)] iv0 iv) {y : Int32 × am_I} (e : F_X10_drawer i1 i2 iv = some y) : am_fr [] [(54, 3)] iv0 y.2 := by
  replace e := am_o1_i e; obtain ⟨v1, e1, e⟩ := e
  replace e := am_if e; rcases e with ⟨hbr, e⟩ | ⟨hbr, e⟩
  · replace e := am_o2_i e; obtain ⟨v10, w10, e10, e⟩ := e
    have f10 := am_fr.tr (am_fr.f hf (by simp)) (am_fr.up (X_X10_fail e10) (by simp) (by simp))
    obtain rfl := Option.some.inj e
    exact f10
  · replace e := am_if e; rcases e with ⟨hbr, e⟩ | ⟨hbr, e⟩
    · replace e := am_o2_i e; obtain ⟨v2, w2, e2, e⟩ := e
      have f2 := am_fr.tr (am_fr.f hf (by simp)) (am_fr.up (X_X10_fail e2) (by simp) (by simp))
      obtain rfl := Option.some.inj e
      exact f2
    · replace e := am_if e; rcases e with ⟨hbr, e⟩ | ⟨hbr, e⟩
      · replace e := am_ckv e; obtain ⟨c3, e⟩ := e
        obtain rfl := Option.some.inj e
        exact (am_fr.f hf (by simp))
      replace e := am_if e; rcases e with ⟨hbr, e⟩ | ⟨hbr, e⟩
      · replace e := am_ckv e; obtain ⟨c4, e⟩ := e
        obtain rfl := Option.some.inj e
        exact (am_fr.f hf (by simp))
      replace e := am_if e; rcases e with ⟨hbr, e⟩ | ⟨hbr, e⟩
      · replace e := am_ckv e; obtain ⟨c5, e⟩ := e
        obtain rfl := Option.some.inj e
        exact (am_fr.f hf (by simp))
      replace e := am_if e; rcases e with ⟨hbr, e⟩ | ⟨hbr, e⟩
      · replace e := am_ckv e; obtain ⟨c6, e⟩ := e
        obtain rfl := Option.some.inj e
        exact (am_fr.f hf (by simp))
      replace e := am_if e; rcases e with ⟨hbr, e⟩ | ⟨hbr, e⟩
      · replace e := am_ckv e; obtain ⟨c7, e⟩ := e
        obtain rfl := Option.some.inj e
        exact (am_fr.f hf (by simp))
      replace e := am_if e; rcases e with ⟨hbr, e⟩ | ⟨hbr, e⟩
      · obtain rfl := Option.some.inj e
        exact (am_fr.f hf (by simp))
      replace e := am_if e; rcases e with ⟨hbr, e⟩ | ⟨hbr, e⟩
      · replace e := am_o1_i e; obtain ⟨v8, e8, e⟩ := e
        obtain rfl := Option.some.inj e
        exact (am_fr.f hf (by simp))
      replace e := am_if e; rcases e with ⟨hbr, e⟩ | ⟨hbr, e⟩
      · replace e := am_o1_i e; obtain ⟨v9, e9, e⟩ := e
        obtain rfl := Option.some.inj e
        exact (am_fr.f hf (by simp))
      cases e
theorem X_X10_drawer {i1 i2 : Int32} {iv iv' : am_I} {v' : Int32} (e : F_X10_drawer i1 i2 iv = some (v', iv')) : am_fr [] [(54, 3)] iv iv' := x_X10_drawer (am_fr.rf _ _ _) e
theorem x_X10_person {i1 i2 : Int32} {iv iv0 : am_I} (hf : am_fr [] [(54, 3)] iv0 iv) {y : Int32 × am_I} (e : F_X10_person i1 i2 iv = some y) : am_fr [] [(54, 3)] iv0 y.2 := by
  replace e := am_o1_i e; obtain ⟨v1, e1, e⟩ := e
  replace e := am_if e; rcases e with ⟨hbr, e⟩ | ⟨hbr, e⟩
  · replace e := am_o2_i e; obtain ⟨v7, w7, e7, e⟩ := e
    have f7 := am_fr.tr (am_fr.f hf (by simp)) (am_fr.up (X_X10_fail e7) (by simp) (by simp))
    obtain rfl := Option.some.inj e
    exact f7
  · replace e := am_if e; rcases e with ⟨hbr, e⟩ | ⟨hbr, e⟩
    · replace e := am_ckv e; obtain ⟨c6, e⟩ := e
      obtain rfl := Option.some.inj e
      exact (am_fr.f hf (by simp))
    · replace e := am_if e; rcases e with ⟨hbr, e⟩ | ⟨hbr, e⟩
      · replace e := am_ckv e; obtain ⟨c5, e⟩ := e
        obtain rfl := Option.some.inj e
        exact (am_fr.f hf (by simp))
      · replace e := am_if e; rcases e with ⟨hbr, e⟩ | ⟨hbr, e⟩
        · replace e := am_ckv e; obtain ⟨c4, e⟩ := e
          obtain rfl := Option.some.inj e
          exact (am_fr.f hf (by simp))
        · replace e := am_if e; rcases e with ⟨hbr, e⟩ | ⟨hbr, e⟩
          · obtain rfl := Option.some.inj e
            exact (am_fr.f hf (by simp))
          · replace e := am_if e; rcases e with ⟨hbr, e⟩ | ⟨hbr, e⟩
            · replace e := am_ckv e; obtain ⟨c3, e⟩ := e
              obtain rfl := Option.some.inj e
              exact (am_fr.f hf (by simp))
            · replace e := am_o2_i e; obtain ⟨v2, w2, e2, e⟩ := e
              have f2 := am_fr.tr (am_fr.f hf (by simp)) (am_fr.up (X_X10_fail e2) (by simp) (by simp))
              obtain rfl := Option.some.inj e
              exact f2
theorem X_X10_person {i1 i2 : Int32} {iv iv' : am_I} {v' : Int32} (e : F_X10_person i1 i2 iv = some (v', iv')) : am_fr [] [(54, 3)] iv iv' := x_X10_person (am_fr.rf _ _ _) e
theorem x_X10_troubleOf {i1 : Int32} {iv iv0 : am_I} (hf : am_fr [75, 76] [] iv0 iv) {y : Int32 × am_I} (e : F_X10_troubleOf i1 iv = some y) : am_fr [75, 76] [] iv0 y.2 := by
  replace e := am_o1_i e; obtain ⟨v1, e1, e⟩ := e
  replace e := am_if e; rcases e with ⟨hbr, e⟩ | ⟨hbr, e⟩
  · obtain rfl := Option.some.inj e
    exact hf
  · replace e := am_o1_i e; obtain ⟨v2, e2, e⟩ := e
    replace e := am_if e; rcases e with ⟨hbr, e⟩ | ⟨hbr, e⟩
    · replace e := am_o1_i e; obtain ⟨v3, e3, e⟩ := e
      replace e := am_o1_i e; obtain ⟨v4, e4, e⟩ := e
      replace e := am_if e; rcases e with ⟨hbr, e⟩ | ⟨hbr, e⟩
      · obtain rfl := Option.some.inj e
        exact hf
      · replace e := am_o2_i e; obtain ⟨v5, w5, e5, e⟩ := e
        have f5 := am_fr.tr hf (am_fr.up (X_X10_canBe e5) (by simp) (by simp))
        replace e := am_if e; rcases e with ⟨hbr, e⟩ | ⟨hbr, e⟩
        · obtain rfl := Option.some.inj e
          exact f5
        · replace e := am_if e; rcases e with ⟨hbr, e⟩ | ⟨hbr, e⟩
          · obtain rfl := Option.some.inj e
            exact f5
          · obtain rfl := Option.some.inj e
            exact f5
    · obtain rfl := Option.some.inj e
      exact hf
theorem X_X10_troubleOf {i1 : Int32} {iv iv' : am_I} {v' : Int32} (e : F_X10_troubleOf i1 iv = some (v', iv')) : am_fr [75, 76] [] iv iv' := x_X10_troubleOf (am_fr.rf _ _ _) e
theorem x_X10_move {i1 : Int32} {iv iv0 : am_I} (hf : am_fr [70, 73, 74, 75, 76] [(54, 29), (54, 3), (54, 31), (54, 32)] iv0 iv) {y : Int32 × am_I} (e : F_X10_move i1 iv = some y) : am_fr [70, 73, 74, 75, 76] [(54, 29), (54, 3), (54, 31), (54, 32)] iv0 y.2 := by
  replace e := am_o2_i e; obtain ⟨v1, w1, e1, e⟩ := e
  have f1 := am_fr.tr (am_fr.f hf (by simp)) (am_fr.up (X_X10_troubleOf e1) (by simp) (by simp))
  replace e := am_if e; rcases e with ⟨hbr, e⟩ | ⟨hbr, e⟩
  · replace e := am_ckv e; obtain ⟨c2, e⟩ := e
    replace e := am_ckv e; obtain ⟨c3, e⟩ := e
    replace e := am_o1_i e; obtain ⟨v4, e4, e⟩ := e
    obtain rfl := Option.some.inj e
    exact (am_fr.f (am_fr.f (am_fr.f (am_fr.a (am_fr.a f1 (by simp)) (by simp)) (by simp)) (by simp)) (by simp))
  · obtain rfl := Option.some.inj e
    exact (am_fr.a f1 (by simp))
theorem X_X10_move {i1 : Int32} {iv iv' : am_I} {v' : Int32} (e : F_X10_move i1 iv = some (v', iv')) : am_fr [70, 73, 74, 75, 76] [(54, 29), (54, 3), (54, 31), (54, 32)] iv iv' := x_X10_move (am_fr.rf _ _ _) e
theorem x_X10_undo {iv iv0 : am_I} (hf : am_fr [] [(54, 29), (54, 3), (54, 31), (54, 32)] iv0 iv) {y : Int32 × am_I} (e : F_X10_undo  iv = some y) : am_fr [] [(54, 29), (54, 3), (54, 31), (54, 32)] iv0 y.2 := by
  replace e := am_if e; rcases e with ⟨hbr, e⟩ | ⟨hbr, e⟩
  · obtain rfl := Option.some.inj e
    exact (am_fr.f hf (by simp))
  · replace e := am_ckv e; obtain ⟨c1, e⟩ := e
    replace e := am_ckv e; obtain ⟨c2, e⟩ := e
    obtain rfl := Option.some.inj e
    exact (am_fr.f (am_fr.f (am_fr.f (am_fr.f hf (by simp)) (by simp)) (by simp)) (by simp))
theorem X_X10_undo {iv iv' : am_I} {v' : Int32} (e : F_X10_undo  iv = some (v', iv')) : am_fr [] [(54, 29), (54, 3), (54, 31), (54, 32)] iv iv' := x_X10_undo (am_fr.rf _ _ _) e
theorem x_X10_sleeps_45 {k1 : Int32} {iv iv0 : am_I} (hf : am_fr [] [(54, 3), (54, 30)] iv0 iv) {y : am_I} (e : J_X10_sleeps_45 k1 iv = some y) : am_fr [] [(54, 3), (54, 30)] iv0 y := by
  obtain rfl := Option.some.inj e
  exact (am_fr.f hf (by simp))
theorem x_X10_sleeps {i1 i2 : Int32} {iv iv0 : am_I} (hf : am_fr [] [(54, 3), (54, 30)] iv0 iv) {y : am_I} (e : F_X10_sleeps i1 i2 iv = some y) : am_fr [] [(54, 3), (54, 30)] iv0 y := by
  replace e := am_o1_i e; obtain ⟨v1, e1, e⟩ := e
  replace e := am_if e; rcases e with ⟨hbr, e⟩ | ⟨hbr, e⟩
  · obtain rfl := Option.some.inj e
    exact (am_fr.f (am_fr.f hf (by simp)) (by simp))
  · replace e := am_if e; rcases e with ⟨hbr, e⟩ | ⟨hbr, e⟩
    · exact x_X10_sleeps_45 (am_fr.f hf (by simp)) e
    · exact x_X10_sleeps_45 (am_fr.f hf (by simp)) e
theorem X_X10_sleeps {i1 i2 : Int32} {iv iv' : am_I} (e : F_X10_sleeps i1 i2 iv = some iv') : am_fr [] [(54, 3), (54, 30)] iv iv' := x_X10_sleeps (am_fr.rf _ _ _) e
theorem xb_X10_be_2 {aa : Nat} {m : Nat} {bb : Nat} {m2 : Nat} {i2 : Int32} {iv iv0 : am_I} (hf : am_fr [aa] [] iv0 iv) {y : (Int32 × am_I) ⊕ (am_I)} (e : B_X10_be_2 aa m bb m2 i2 iv = some y) : Sum.elim (fun s : (Int32 × am_I) => am_fr [aa] [] iv0 s.2) (fun a : (am_I) => am_fr [aa] [] iv0 a) y := by
  replace e := am_if e; rcases e with ⟨hbr, e⟩ | ⟨hbr, e⟩
  · obtain rfl := Option.some.inj e
    exact hf
  · replace e := am_ckv e; obtain ⟨c1, e⟩ := e
    replace e := am_ckv e; obtain ⟨c2, e⟩ := e
    obtain rfl := Option.some.inj e
    exact (am_fr.a hf (by simp))
theorem xl_X10_be_2 {aa : Nat} {m : Nat} {bb : Nat} {m2 : Nat} {iv0 : am_I} (s : (Int32 × am_I)) (hf : am_fr [aa] [] iv0 s.2) {x : (am_I)} (e : am_loop (fun s : (Int32 × am_I) => B_X10_be_2 aa m bb m2 s.1 s.2) s = some x) : (fun a : (am_I) => am_fr [aa] [] iv0 a) x :=
  am_wh_fr (f := fun s : (Int32 × am_I) => B_X10_be_2 aa m bb m2 s.1 s.2) (P := fun s => am_fr [aa] [] iv0 s.2) (K := fun a : (am_I) => am_fr [aa] [] iv0 a) (fun s y hf e => xb_X10_be_2 hf e) am_fu s x hf e
theorem x_X10_be {aa : Nat} {m : Nat} {bb : Nat} {m2 : Nat} {iv iv0 : am_I} (hf : am_fr [aa] [] iv0 iv) {y : am_I} (e : F_X10_be aa m bb m2  iv = some y) : am_fr [aa] [] iv0 y := by
  replace e := am_o1_i e; obtain ⟨a3, e3, e⟩ := e
  have f3 := xl_X10_be_2 _ hf e3
  obtain rfl := Option.some.inj e
  exact f3
theorem X_X10_be {aa : Nat} {m : Nat} {bb : Nat} {m2 : Nat} {iv iv' : am_I} (e : F_X10_be aa m bb m2  iv = some iv') : am_fr [aa] [] iv iv' := x_X10_be (am_fr.rf _ _ _) e
theorem x_X10_slam_59 {i1 i2 k1 k2 k3 : Int32} {iv iv0 : am_I} (hf : am_fr [72] [(54, 29)] iv0 iv) {y : (Int32 × am_I) ⊕ (am_I)} (e : J_X10_slam_59 i1 i2 k1 k2 k3 iv = some y) : Sum.elim (fun s : (Int32 × am_I) => am_fr [72] [(54, 29)] iv0 s.2) (fun a : (am_I) => am_fr [72] [(54, 29)] iv0 a) y := by
  replace e := am_ckv e; obtain ⟨c3, e⟩ := e
  obtain rfl := Option.some.inj e
  exact (am_fr.a hf (by simp))
theorem x_X10_slam_58 {i1 i2 k1 k2 : Int32} {iv iv0 : am_I} (hf : am_fr [72] [(54, 29)] iv0 iv) {y : (Int32 × am_I) ⊕ (am_I)} (e : J_X10_slam_58 i1 i2 k1 k2 iv = some y) : Sum.elim (fun s : (Int32 × am_I) => am_fr [72] [(54, 29)] iv0 s.2) (fun a : (am_I) => am_fr [72] [(54, 29)] iv0 a) y := by
  exact x_X10_slam_59 hf e
theorem xb_X10_slam_16 {i1 i2 : Int32} {iv iv0 : am_I} (hf : am_fr [72] [(54, 29)] iv0 iv) {y : (Int32 × am_I) ⊕ (am_I)} (e : B_X10_slam_16 i1 i2 iv = some y) : Sum.elim (fun s : (Int32 × am_I) => am_fr [72] [(54, 29)] iv0 s.2) (fun a : (am_I) => am_fr [72] [(54, 29)] iv0 a) y := by
  replace e := am_if e; rcases e with ⟨hbr, e⟩ | ⟨hbr, e⟩
  · obtain rfl := Option.some.inj e
    exact hf
  · replace e := am_ckv e; obtain ⟨c1, e⟩ := e
    replace e := am_ckv e; obtain ⟨c2, e⟩ := e
    replace e := am_if e; rcases e with ⟨hbr, e⟩ | ⟨hbr, e⟩
    · replace e := am_o1_i e; obtain ⟨v4, e4, e⟩ := e
      replace e := am_if e; rcases e with ⟨hbr, e⟩ | ⟨hbr, e⟩
      · exact x_X10_slam_58 hf e
      · exact x_X10_slam_59 hf e
    · exact x_X10_slam_58 hf e
theorem xl_X10_slam_16 {i1 : Int32} {iv0 : am_I} (s : (Int32 × am_I)) (hf : am_fr [72] [(54, 29)] iv0 s.2) {x : (am_I)} (e : am_loop (fun s : (Int32 × am_I) => B_X10_slam_16 i1 s.1 s.2) s = some x) : (fun a : (am_I) => am_fr [72] [(54, 29)] iv0 a) x :=
  am_wh_fr (f := fun s : (Int32 × am_I) => B_X10_slam_16 i1 s.1 s.2) (P := fun s => am_fr [72] [(54, 29)] iv0 s.2) (K := fun a : (am_I) => am_fr [72] [(54, 29)] iv0 a) (fun s y hf e => xb_X10_slam_16 hf e) am_fu s x hf e
theorem x_X10_slam {i1 : Int32} {iv iv0 : am_I} (hf : am_fr [72] [(54, 29)] iv0 iv) {y : am_I} (e : F_X10_slam i1 iv = some y) : am_fr [72] [(54, 29)] iv0 y := by
  replace e := am_o1_i e; obtain ⟨a5, e5, e⟩ := e
  have f5 := xl_X10_slam_16 _ (am_fr.f hf (by simp)) e5
  obtain rfl := Option.some.inj e
  exact f5
theorem X_X10_slam {i1 : Int32} {iv iv' : am_I} (e : F_X10_slam i1 iv = some iv') : am_fr [72] [(54, 29)] iv iv' := x_X10_slam (am_fr.rf _ _ _) e
theorem xb_X10_goOn_15 {i1 i2 i3 i4 i5 : Int32} {iv iv0 : am_I} (hf : am_fr [77, 78, 79, 80] [(54, 44)] iv0 iv) {y : (Int32 × am_I) ⊕ (am_I)} (e : B_X10_goOn_15 i1 i2 i3 i4 i5 iv = some y) : Sum.elim (fun s : (Int32 × am_I) => am_fr [77, 78, 79, 80] [(54, 44)] iv0 s.2) (fun a : (am_I) => am_fr [77, 78, 79, 80] [(54, 44)] iv0 a) y := by
  replace e := am_if e; rcases e with ⟨hbr, e⟩ | ⟨hbr, e⟩
  · obtain rfl := Option.some.inj e
    exact hf
  · replace e := am_o1_i e; obtain ⟨v2, e2, e⟩ := e
    replace e := am_if e; rcases e with ⟨hbr, e⟩ | ⟨hbr, e⟩
    · replace e := am_o1_i e; obtain ⟨v3, e3, e⟩ := e
      replace e := am_if e; rcases e with ⟨hbr, e⟩ | ⟨hbr, e⟩
      · obtain rfl := Option.some.inj e
        exact hf
      · replace e := am_ckv e; obtain ⟨c4, e⟩ := e
        replace e := am_if e; rcases e with ⟨hbr, e⟩ | ⟨hbr, e⟩
        · obtain rfl := Option.some.inj e
          exact hf
        · replace e := am_o1_i e; obtain ⟨v5, e5, e⟩ := e
          replace e := am_ckv e; obtain ⟨c6, e⟩ := e
          replace e := am_if e; rcases e with ⟨hbr, e⟩ | ⟨hbr, e⟩
          · replace e := am_ckv e; obtain ⟨c7, e⟩ := e
            replace e := am_ckv e; obtain ⟨c8, e⟩ := e
            replace e := am_ckv e; obtain ⟨c9, e⟩ := e
            replace e := am_ckv e; obtain ⟨c10, e⟩ := e
            replace e := am_ckv e; obtain ⟨c11, e⟩ := e
            obtain rfl := Option.some.inj e
            exact (am_fr.f (am_fr.a (am_fr.a (am_fr.a (am_fr.a hf (by simp)) (by simp)) (by simp)) (by simp)) (by simp))
          · obtain rfl := Option.some.inj e
            exact hf
    · obtain rfl := Option.some.inj e
      exact hf
theorem xl_X10_goOn_15 {i1 i2 i3 i4 : Int32} {iv0 : am_I} (s : (Int32 × am_I)) (hf : am_fr [77, 78, 79, 80] [(54, 44)] iv0 s.2) {x : (am_I)} (e : am_loop (fun s : (Int32 × am_I) => B_X10_goOn_15 i1 i2 i3 i4 s.1 s.2) s = some x) : (fun a : (am_I) => am_fr [77, 78, 79, 80] [(54, 44)] iv0 a) x :=
  am_wh_fr (f := fun s : (Int32 × am_I) => B_X10_goOn_15 i1 i2 i3 i4 s.1 s.2) (P := fun s => am_fr [77, 78, 79, 80] [(54, 44)] iv0 s.2) (K := fun a : (am_I) => am_fr [77, 78, 79, 80] [(54, 44)] iv0 a) (fun s y hf e => xb_X10_goOn_15 hf e) am_fu s x hf e
theorem x_X10_goOn {i1 i2 : Int32} {iv iv0 : am_I} (hf : am_fr [77, 78, 79, 80] [(54, 44)] iv0 iv) {y : am_I} (e : F_X10_goOn i1 i2 iv = some y) : am_fr [77, 78, 79, 80] [(54, 44)] iv0 y := by
  replace e := am_o1_i e; obtain ⟨v1, e1, e⟩ := e
  replace e := am_o1_i e; obtain ⟨a12, e12, e⟩ := e
  have f12 := xl_X10_goOn_15 _ hf e12
  obtain rfl := Option.some.inj e
  exact f12
theorem X_X10_goOn {i1 i2 : Int32} {iv iv' : am_I} (e : F_X10_goOn i1 i2 iv = some iv') : am_fr [77, 78, 79, 80] [(54, 44)] iv iv' := x_X10_goOn (am_fr.rf _ _ _) e
theorem xb_X10_seek_2 {i1 i2 : Int32} {iv iv0 : am_I} (hf : am_fr [75, 76, 77, 78, 79, 80, 82] [(54, 44)] iv0 iv) {y : (Int32 × am_I) ⊕ (am_I)} (e : B_X10_seek_2 i1 i2 iv = some y) : Sum.elim (fun s : (Int32 × am_I) => am_fr [75, 76, 77, 78, 79, 80, 82] [(54, 44)] iv0 s.2) (fun a : (am_I) => am_fr [75, 76, 77, 78, 79, 80, 82] [(54, 44)] iv0 a) y := by
  replace e := am_if e; rcases e with ⟨hbr, e⟩ | ⟨hbr, e⟩
  · obtain rfl := Option.some.inj e
    exact hf
  · replace e := am_o2_i e; obtain ⟨v1, w1, e1, e⟩ := e
    have f1 := am_fr.tr hf (am_fr.up (X_X10_canBe e1) (by simp) (by simp))
    replace e := am_ckv e; obtain ⟨c2, e⟩ := e
    replace e := am_ck e; obtain ⟨c3, e⟩ := e
    obtain rfl := Option.some.inj e
    exact (am_fr.a f1 (by simp))
theorem xl_X10_seek_2 {i1 : Int32} {iv0 : am_I} (s : (Int32 × am_I)) (hf : am_fr [75, 76, 77, 78, 79, 80, 82] [(54, 44)] iv0 s.2) {x : (am_I)} (e : am_loop (fun s : (Int32 × am_I) => B_X10_seek_2 i1 s.1 s.2) s = some x) : (fun a : (am_I) => am_fr [75, 76, 77, 78, 79, 80, 82] [(54, 44)] iv0 a) x :=
  am_wh_fr (f := fun s : (Int32 × am_I) => B_X10_seek_2 i1 s.1 s.2) (P := fun s => am_fr [75, 76, 77, 78, 79, 80, 82] [(54, 44)] iv0 s.2) (K := fun a : (am_I) => am_fr [75, 76, 77, 78, 79, 80, 82] [(54, 44)] iv0 a) (fun s y hf e => xb_X10_seek_2 hf e) am_fu s x hf e
theorem xb_X10_seek_33 {i1 i2 : Int32} {iv iv0 : am_I} (hf : am_fr [75, 76, 77, 78, 79, 80, 82] [(54, 44)] iv0 iv) {y : (Int32 × am_I) ⊕ (am_I)} (e : B_X10_seek_33 i1 i2 iv = some y) : Sum.elim (fun s : (Int32 × am_I) => am_fr [75, 76, 77, 78, 79, 80, 82] [(54, 44)] iv0 s.2) (fun a : (am_I) => am_fr [75, 76, 77, 78, 79, 80, 82] [(54, 44)] iv0 a) y := by
  replace e := am_if e; rcases e with ⟨hbr, e⟩ | ⟨hbr, e⟩
  · obtain rfl := Option.some.inj e
    exact hf
  · replace e := am_ckv e; obtain ⟨c5, e⟩ := e
    obtain rfl := Option.some.inj e
    exact (am_fr.a hf (by simp))
theorem xl_X10_seek_33 {i1 : Int32} {iv0 : am_I} (s : (Int32 × am_I)) (hf : am_fr [75, 76, 77, 78, 79, 80, 82] [(54, 44)] iv0 s.2) {x : (am_I)} (e : am_loop (fun s : (Int32 × am_I) => B_X10_seek_33 i1 s.1 s.2) s = some x) : (fun a : (am_I) => am_fr [75, 76, 77, 78, 79, 80, 82] [(54, 44)] iv0 a) x :=
  am_wh_fr (f := fun s : (Int32 × am_I) => B_X10_seek_33 i1 s.1 s.2) (P := fun s => am_fr [75, 76, 77, 78, 79, 80, 82] [(54, 44)] iv0 s.2) (K := fun a : (am_I) => am_fr [75, 76, 77, 78, 79, 80, 82] [(54, 44)] iv0 a) (fun s y hf e => xb_X10_seek_33 hf e) am_fu s x hf e
theorem xb_X10_seek_89 {i1 i3 : Int32} {iv iv0 : am_I} (hf : am_fr [75, 76, 77, 78, 79, 80, 82] [(54, 44)] iv0 iv) {y : (Int32 × am_I) ⊕ (am_I)} (e : B_X10_seek_89 i1 i3 iv = some y) : Sum.elim (fun s : (Int32 × am_I) => am_fr [75, 76, 77, 78, 79, 80, 82] [(54, 44)] iv0 s.2) (fun a : (am_I) => am_fr [75, 76, 77, 78, 79, 80, 82] [(54, 44)] iv0 a) y := by
  replace e := am_if e; rcases e with ⟨hbr, e⟩ | ⟨hbr, e⟩
  · obtain rfl := Option.some.inj e
    exact hf
  · replace e := am_ckv e; obtain ⟨c8, e⟩ := e
    replace e := am_o1_i e; obtain ⟨w9, e9, e⟩ := e
    have f9 := am_fr.tr hf (am_fr.up (X_X10_goOn e9) (by simp) (by simp))
    obtain rfl := Option.some.inj e
    exact f9
theorem xl_X10_seek_89 {i1 : Int32} {iv0 : am_I} (s : (Int32 × am_I)) (hf : am_fr [75, 76, 77, 78, 79, 80, 82] [(54, 44)] iv0 s.2) {x : (am_I)} (e : am_loop (fun s : (Int32 × am_I) => B_X10_seek_89 i1 s.1 s.2) s = some x) : (fun a : (am_I) => am_fr [75, 76, 77, 78, 79, 80, 82] [(54, 44)] iv0 a) x :=
  am_wh_fr (f := fun s : (Int32 × am_I) => B_X10_seek_89 i1 s.1 s.2) (P := fun s => am_fr [75, 76, 77, 78, 79, 80, 82] [(54, 44)] iv0 s.2) (K := fun a : (am_I) => am_fr [75, 76, 77, 78, 79, 80, 82] [(54, 44)] iv0 a) (fun s y hf e => xb_X10_seek_89 hf e) am_fu s x hf e
theorem x_X10_seek {i1 : Int32} {iv iv0 : am_I} (hf : am_fr [75, 76, 77, 78, 79, 80, 82] [(54, 44)] iv0 iv) {y : am_I} (e : F_X10_seek i1 iv = some y) : am_fr [75, 76, 77, 78, 79, 80, 82] [(54, 44)] iv0 y := by
  replace e := am_o1_i e; obtain ⟨a4, e4, e⟩ := e
  have f4 := xl_X10_seek_2 _ hf e4
  replace e := am_o1_i e; obtain ⟨a6, e6, e⟩ := e
  have f6 := xl_X10_seek_33 _ f4 e6
  replace e := am_ckv e; obtain ⟨c7, e⟩ := e
  replace e := am_o1_i e; obtain ⟨a10, e10, e⟩ := e
  have f10 := xl_X10_seek_89 _ (am_fr.f (am_fr.a (am_fr.a f6 (by simp)) (by simp)) (by simp)) e10
  obtain rfl := Option.some.inj e
  exact f10
theorem X_X10_seek {i1 : Int32} {iv iv' : am_I} (e : F_X10_seek i1 iv = some iv') : am_fr [75, 76, 77, 78, 79, 80, 82] [(54, 44)] iv iv' := x_X10_seek (am_fr.rf _ _ _) e
theorem xb_X10_howSoon_43 {i4 i5 : Int32} {iv iv0 : am_I} (hf : am_fr [75, 76, 77, 78, 79, 80, 81, 82] [(54, 44), (54, 45)] iv0 iv) {y : (Int32 × Int32 × am_I) ⊕ (am_I)} (e : B_X10_howSoon_43 i4 i5 iv = some y) : Sum.elim (fun s : (Int32 × Int32 × am_I) => am_fr [75, 76, 77, 78, 79, 80, 81, 82] [(54, 44), (54, 45)] iv0 s.2.2) (fun a : (am_I) => am_fr [75, 76, 77, 78, 79, 80, 81, 82] [(54, 44), (54, 45)] iv0 a) y := by
  replace e := am_if e; rcases e with ⟨hbr, e⟩ | ⟨hbr, e⟩
  · obtain rfl := Option.some.inj e
    exact hf
  · replace e := am_ckv e; obtain ⟨c4, e⟩ := e
    replace e := am_ckv e; obtain ⟨c5, e⟩ := e
    replace e := am_ckv e; obtain ⟨c6, e⟩ := e
    obtain rfl := Option.some.inj e
    exact (am_fr.a hf (by simp))
theorem xl_X10_howSoon_43 {iv0 : am_I} (s : (Int32 × Int32 × am_I)) (hf : am_fr [75, 76, 77, 78, 79, 80, 81, 82] [(54, 44), (54, 45)] iv0 s.2.2) {x : (am_I)} (e : am_loop (fun s : (Int32 × Int32 × am_I) => B_X10_howSoon_43 s.1 s.2.1 s.2.2) s = some x) : (fun a : (am_I) => am_fr [75, 76, 77, 78, 79, 80, 81, 82] [(54, 44), (54, 45)] iv0 a) x :=
  am_wh_fr (f := fun s : (Int32 × Int32 × am_I) => B_X10_howSoon_43 s.1 s.2.1 s.2.2) (P := fun s => am_fr [75, 76, 77, 78, 79, 80, 81, 82] [(54, 44), (54, 45)] iv0 s.2.2) (K := fun a : (am_I) => am_fr [75, 76, 77, 78, 79, 80, 81, 82] [(54, 44), (54, 45)] iv0 a) (fun s y hf e => xb_X10_howSoon_43 hf e) am_fu s x hf e
theorem x_X10_howSoon {i1 i2 : Int32} {iv iv0 : am_I} (hf : am_fr [75, 76, 77, 78, 79, 80, 81, 82] [(54, 44), (54, 45)] iv0 iv) {y : Int32 × am_I} (e : F_X10_howSoon i1 i2 iv = some y) : am_fr [75, 76, 77, 78, 79, 80, 81, 82] [(54, 44), (54, 45)] iv0 y.2 := by
  replace e := am_o1_i e; obtain ⟨w1, e1, e⟩ := e
  have f1 := am_fr.tr hf (am_fr.up (X_X10_seek e1) (by simp) (by simp))
  replace e := am_o1_i e; obtain ⟨v2, e2, e⟩ := e
  replace e := am_if e; rcases e with ⟨hbr, e⟩ | ⟨hbr, e⟩
  · obtain rfl := Option.some.inj e
    exact f1
  · replace e := am_ckv e; obtain ⟨c3, e⟩ := e
    replace e := am_o1_i e; obtain ⟨a7, e7, e⟩ := e
    have f7 := xl_X10_howSoon_43 _ (am_fr.f f1 (by simp)) e7
    obtain rfl := Option.some.inj e
    exact f7
theorem X_X10_howSoon {i1 i2 : Int32} {iv iv' : am_I} {v' : Int32} (e : F_X10_howSoon i1 i2 iv = some (v', iv')) : am_fr [75, 76, 77, 78, 79, 80, 81, 82] [(54, 44), (54, 45)] iv iv' := x_X10_howSoon (am_fr.rf _ _ _) e
theorem x_X10_opens {i1 : Int32} {iv iv0 : am_I} (hf : am_fr [75, 76, 77, 78, 79, 80, 81, 82] [(54, 3), (54, 44), (54, 45)] iv0 iv) {y : Int32 × am_I} (e : F_X10_opens i1 iv = some y) : am_fr [75, 76, 77, 78, 79, 80, 81, 82] [(54, 3), (54, 44), (54, 45)] iv0 y.2 := by
  replace e := am_o1_i e; obtain ⟨v1, e1, e⟩ := e
  replace e := am_if e; rcases e with ⟨hbr, e⟩ | ⟨hbr, e⟩
  · replace e := am_o2_i e; obtain ⟨v2, w2, e2, e⟩ := e
    have f2 := am_fr.tr (am_fr.f hf (by simp)) (am_fr.up (X_X10_fail e2) (by simp) (by simp))
    obtain rfl := Option.some.inj e
    exact f2
  · replace e := am_o2_i e; obtain ⟨v3, w3, e3, e⟩ := e
    have f3 := am_fr.tr (am_fr.f hf (by simp)) (am_fr.up (X_X10_howSoon e3) (by simp) (by simp))
    obtain rfl := Option.some.inj e
    exact f3
theorem X_X10_opens {i1 : Int32} {iv iv' : am_I} {v' : Int32} (e : F_X10_opens i1 iv = some (v', iv')) : am_fr [75, 76, 77, 78, 79, 80, 81, 82] [(54, 3), (54, 44), (54, 45)] iv iv' := x_X10_opens (am_fr.rf _ _ _) e
theorem x_X10_shuts {i1 : Int32} {iv iv0 : am_I} (hf : am_fr [75, 76, 77, 78, 79, 80, 81, 82] [(54, 3), (54, 44), (54, 45)] iv0 iv) {y : Int32 × am_I} (e : F_X10_shuts i1 iv = some y) : am_fr [75, 76, 77, 78, 79, 80, 81, 82] [(54, 3), (54, 44), (54, 45)] iv0 y.2 := by
  replace e := am_o1_i e; obtain ⟨v1, e1, e⟩ := e
  replace e := am_if e; rcases e with ⟨hbr, e⟩ | ⟨hbr, e⟩
  · replace e := am_o2_i e; obtain ⟨v2, w2, e2, e⟩ := e
    have f2 := am_fr.tr (am_fr.f hf (by simp)) (am_fr.up (X_X10_fail e2) (by simp) (by simp))
    obtain rfl := Option.some.inj e
    exact f2
  · replace e := am_o2_i e; obtain ⟨v3, w3, e3, e⟩ := e
    have f3 := am_fr.tr (am_fr.f hf (by simp)) (am_fr.up (X_X10_howSoon e3) (by simp) (by simp))
    obtain rfl := Option.some.inj e
    exact f3
theorem X_X10_shuts {i1 : Int32} {iv iv' : am_I} {v' : Int32} (e : F_X10_shuts i1 iv = some (v', iv')) : am_fr [75, 76, 77, 78, 79, 80, 81, 82] [(54, 3), (54, 44), (54, 45)] iv iv' := x_X10_shuts (am_fr.rf _ _ _) e
theorem x_X10_bread {iv iv0 : am_I} (hf : am_fr [75, 76, 77, 78, 79, 80, 81, 82] [(54, 3), (54, 44), (54, 45)] iv0 iv) {y : Int32 × am_I} (e : F_X10_bread  iv = some y) : am_fr [75, 76, 77, 78, 79, 80, 81, 82] [(54, 3), (54, 44), (54, 45)] iv0 y.2 := by
  replace e := am_o2_i e; obtain ⟨v1, w1, e1, e⟩ := e
  have f1 := am_fr.tr (am_fr.f hf (by simp)) (am_fr.up (X_X10_howSoon e1) (by simp) (by simp))
  obtain rfl := Option.some.inj e
  exact f1
theorem X_X10_bread {iv iv' : am_I} {v' : Int32} (e : F_X10_bread  iv = some (v', iv')) : am_fr [75, 76, 77, 78, 79, 80, 81, 82] [(54, 3), (54, 44), (54, 45)] iv iv' := x_X10_bread (am_fr.rf _ _ _) e
theorem x_X10_row {i1 : Int32} {iv iv0 : am_I} (hf : am_fr [] [(54, 3)] iv0 iv) {y : Int32 × am_I} (e : F_X10_row i1 iv = some y) : am_fr [] [(54, 3)] iv0 y.2 := by
  replace e := am_if e; rcases e with ⟨hbr, e⟩ | ⟨hbr, e⟩
  · replace e := am_o2_i e; obtain ⟨v4, w4, e4, e⟩ := e
    have f4 := am_fr.tr (am_fr.f hf (by simp)) (am_fr.up (X_X10_fail e4) (by simp) (by simp))
    obtain rfl := Option.some.inj e
    exact f4
  · replace e := am_if e; rcases e with ⟨hbr, e⟩ | ⟨hbr, e⟩
    · obtain rfl := Option.some.inj e
      exact (am_fr.f hf (by simp))
    · replace e := am_o1_i e; obtain ⟨v1, e1, e⟩ := e
      replace e := am_if e; rcases e with ⟨hbr, e⟩ | ⟨hbr, e⟩
      · replace e := am_o2_i e; obtain ⟨v2, w2, e2, e⟩ := e
        have f2 := am_fr.tr (am_fr.f hf (by simp)) (am_fr.up (X_X10_fail e2) (by simp) (by simp))
        obtain rfl := Option.some.inj e
        exact f2
      · replace e := am_ckv e; obtain ⟨c3, e⟩ := e
        obtain rfl := Option.some.inj e
        exact (am_fr.f hf (by simp))
theorem X_X10_row {i1 : Int32} {iv iv' : am_I} {v' : Int32} (e : F_X10_row i1 iv = some (v', iv')) : am_fr [] [(54, 3)] iv iv' := x_X10_row (am_fr.rf _ _ _) e
theorem x_X10_everOut {i1 i2 : Int32} {iv iv0 : am_I} (hf : am_fr [75, 76, 77, 78, 79, 80, 82] [(54, 44)] iv0 iv) {y : Int32 × am_I} (e : F_X10_everOut i1 i2 iv = some y) : am_fr [75, 76, 77, 78, 79, 80, 82] [(54, 44)] iv0 y.2 := by
  replace e := am_o1_i e; obtain ⟨w1, e1, e⟩ := e
  have f1 := am_fr.tr hf (am_fr.up (X_X10_seek e1) (by simp) (by simp))
  replace e := am_o1_i e; obtain ⟨a3, e3, e⟩ := e
  replace e := am_o1_i e; obtain ⟨v4, e4, e⟩ := e
  obtain rfl := Option.some.inj e
  exact f1
theorem X_X10_everOut {i1 i2 : Int32} {iv iv' : am_I} {v' : Int32} (e : F_X10_everOut i1 i2 iv = some (v', iv')) : am_fr [75, 76, 77, 78, 79, 80, 82] [(54, 44)] iv iv' := x_X10_everOut (am_fr.rf _ _ _) e
theorem x_X10_harm {i1 : Int32} {iv iv0 : am_I} (hf : am_fr [75, 76, 77, 78, 79, 80, 82] [(54, 3), (54, 44)] iv0 iv) {y : Int32 × am_I} (e : F_X10_harm i1 iv = some y) : am_fr [75, 76, 77, 78, 79, 80, 82] [(54, 3), (54, 44)] iv0 y.2 := by
  replace e := am_o1_i e; obtain ⟨v1, e1, e⟩ := e
  replace e := am_if e; rcases e with ⟨hbr, e⟩ | ⟨hbr, e⟩
  · replace e := am_o2_i e; obtain ⟨v2, w2, e2, e⟩ := e
    have f2 := am_fr.tr (am_fr.f hf (by simp)) (am_fr.up (X_X10_fail e2) (by simp) (by simp))
    obtain rfl := Option.some.inj e
    exact f2
  · replace e := am_o2_i e; obtain ⟨v3, w3, e3, e⟩ := e
    have f3 := am_fr.tr (am_fr.f hf (by simp)) (am_fr.up (X_X10_everOut e3) (by simp) (by simp))
    replace e := am_o2_i e; obtain ⟨v4, w4, e4, e⟩ := e
    have f4 := am_fr.tr f3 (am_fr.up (X_X10_everOut e4) (by simp) (by simp))
    obtain rfl := Option.some.inj e
    exact f4
theorem X_X10_harm {i1 : Int32} {iv iv' : am_I} {v' : Int32} (e : F_X10_harm i1 iv = some (v', iv')) : am_fr [75, 76, 77, 78, 79, 80, 82] [(54, 3), (54, 44)] iv iv' := x_X10_harm (am_fr.rf _ _ _) e
theorem x_X10_soonBread {i1 : Int32} {iv iv0 : am_I} (hf : am_fr [75, 76, 77, 78, 79, 80, 82] [(54, 44)] iv0 iv) {y : Int32 × am_I} (e : F_X10_soonBread i1 iv = some y) : am_fr [75, 76, 77, 78, 79, 80, 82] [(54, 44)] iv0 y.2 := by
  replace e := am_o1_i e; obtain ⟨w1, e1, e⟩ := e
  have f1 := am_fr.tr hf (am_fr.up (X_X10_seek e1) (by simp) (by simp))
  replace e := am_o1_i e; obtain ⟨v2, e2, e⟩ := e
  replace e := am_if e; rcases e with ⟨hbr, e⟩ | ⟨hbr, e⟩
  · obtain rfl := Option.some.inj e
    exact f1
  · replace e := am_ckv e; obtain ⟨c3, e⟩ := e
    obtain rfl := Option.some.inj e
    exact f1
theorem X_X10_soonBread {i1 : Int32} {iv iv' : am_I} {v' : Int32} (e : F_X10_soonBread i1 iv = some (v', iv')) : am_fr [75, 76, 77, 78, 79, 80, 82] [(54, 44)] iv iv' := x_X10_soonBread (am_fr.rf _ _ _) e
theorem x_X10_married_21 {iv iv0 : am_I} (hf : am_fr [60, 62, 63, 64, 75, 76, 77, 78, 79, 80, 82, 83] [(54, 3), (54, 44)] iv0 iv) {y : Int32 × am_I} (e : J_X10_married_21  iv = some y) : am_fr [60, 62, 63, 64, 75, 76, 77, 78, 79, 80, 82, 83] [(54, 3), (54, 44)] iv0 y.2 := by
  replace e := am_o2_i e; obtain ⟨v2, w2, e2, e⟩ := e
  have f2 := am_fr.tr hf (am_fr.up (X_X10_fail e2) (by simp) (by simp))
  obtain rfl := Option.some.inj e
  exact f2
theorem xb_X10_married_125 {i1 i2 i3 i4 i5 i6 : Int32} {iv iv0 : am_I} (hf : am_fr [60, 62, 63, 64, 75, 76, 77, 78, 79, 80, 82, 83] [(54, 3), (54, 44)] iv0 iv) {y : (Int32 × am_I) ⊕ (am_I)} (e : B_X10_married_125 i1 i2 i3 i4 i5 i6 iv = some y) : Sum.elim (fun s : (Int32 × am_I) => am_fr [60, 62, 63, 64, 75, 76, 77, 78, 79, 80, 82, 83] [(54, 3), (54, 44)] iv0 s.2) (fun a : (am_I) => am_fr [60, 62, 63, 64, 75, 76, 77, 78, 79, 80, 82, 83] [(54, 3), (54, 44)] iv0 a) y := by
  replace e := am_if e; rcases e with ⟨hbr, e⟩ | ⟨hbr, e⟩
  · obtain rfl := Option.some.inj e
    exact hf
  · replace e := am_ckv e; obtain ⟨c14, e⟩ := e
    replace e := am_ckv e; obtain ⟨c15, e⟩ := e
    replace e := am_ckv e; obtain ⟨c16, e⟩ := e
    replace e := am_if e; rcases e with ⟨hbr, e⟩ | ⟨hbr, e⟩
    · replace e := am_ckv e; obtain ⟨c17, e⟩ := e
      obtain rfl := Option.some.inj e
      exact (am_fr.a (am_fr.a hf (by simp)) (by simp))
    · obtain rfl := Option.some.inj e
      exact (am_fr.a hf (by simp))
theorem xl_X10_married_125 {i1 i2 i3 i4 i5 : Int32} {iv0 : am_I} (s : (Int32 × am_I)) (hf : am_fr [60, 62, 63, 64, 75, 76, 77, 78, 79, 80, 82, 83] [(54, 3), (54, 44)] iv0 s.2) {x : (am_I)} (e : am_loop (fun s : (Int32 × am_I) => B_X10_married_125 i1 i2 i3 i4 i5 s.1 s.2) s = some x) : (fun a : (am_I) => am_fr [60, 62, 63, 64, 75, 76, 77, 78, 79, 80, 82, 83] [(54, 3), (54, 44)] iv0 a) x :=
  am_wh_fr (f := fun s : (Int32 × am_I) => B_X10_married_125 i1 i2 i3 i4 i5 s.1 s.2) (P := fun s => am_fr [60, 62, 63, 64, 75, 76, 77, 78, 79, 80, 82, 83] [(54, 3), (54, 44)] iv0 s.2) (K := fun a : (am_I) => am_fr [60, 62, 63, 64, 75, 76, 77, 78, 79, 80, 82, 83] [(54, 3), (54, 44)] iv0 a) (fun s y hf e => xb_X10_married_125 hf e) am_fu s x hf e
theorem xb_X10_married_210 {i3 i6 i7 : Int32} {iv iv0 : am_I} (hf : am_fr [60, 62, 63, 64, 75, 76, 77, 78, 79, 80, 82, 83] [(54, 3), (54, 44)] iv0 iv) {y : (Int32 × am_I) ⊕ (am_I)} (e : B_X10_married_210 i3 i6 i7 iv = some y) : Sum.elim (fun s : (Int32 × am_I) => am_fr [60, 62, 63, 64, 75, 76, 77, 78, 79, 80, 82, 83] [(54, 3), (54, 44)] iv0 s.2) (fun a : (am_I) => am_fr [60, 62, 63, 64, 75, 76, 77, 78, 79, 80, 82, 83] [(54, 3), (54, 44)] iv0 a) y := by
  replace e := am_if e; rcases e with ⟨hbr, e⟩ | ⟨hbr, e⟩
  · obtain rfl := Option.some.inj e
    exact hf
  · replace e := am_ckv e; obtain ⟨c23, e⟩ := e
    replace e := am_ckv e; obtain ⟨c24, e⟩ := e
    obtain rfl := Option.some.inj e
    exact (am_fr.a hf (by simp))
theorem xl_X10_married_210 {i3 i6 : Int32} {iv0 : am_I} (s : (Int32 × am_I)) (hf : am_fr [60, 62, 63, 64, 75, 76, 77, 78, 79, 80, 82, 83] [(54, 3), (54, 44)] iv0 s.2) {x : (am_I)} (e : am_loop (fun s : (Int32 × am_I) => B_X10_married_210 i3 i6 s.1 s.2) s = some x) : (fun a : (am_I) => am_fr [60, 62, 63, 64, 75, 76, 77, 78, 79, 80, 82, 83] [(54, 3), (54, 44)] iv0 a) x :=
  am_wh_fr (f := fun s : (Int32 × am_I) => B_X10_married_210 i3 i6 s.1 s.2) (P := fun s => am_fr [60, 62, 63, 64, 75, 76, 77, 78, 79, 80, 82, 83] [(54, 3), (54, 44)] iv0 s.2) (K := fun a : (am_I) => am_fr [60, 62, 63, 64, 75, 76, 77, 78, 79, 80, 82, 83] [(54, 3), (54, 44)] iv0 a) (fun s y hf e => xb_X10_married_210 hf e) am_fu s x hf e
theorem x_X10_married_48 {i1 i2 k0 : Int32} {iv iv0 : am_I} (hf : am_fr [60, 62, 63, 64, 75, 76, 77, 78, 79, 80, 82, 83] [(54, 3), (54, 44)] iv0 iv) {y : Int32 × am_I} (e : J_X10_married_48 i1 i2 k0 iv = some y) : am_fr [60, 62, 63, 64, 75, 76, 77, 78, 79, 80, 82, 83] [(54, 3), (54, 44)] iv0 y.2 := by
  replace e := am_if e; rcases e with ⟨hbr, e⟩ | ⟨hbr, e⟩
  · obtain rfl := Option.some.inj e
    exact hf
  · replace e := am_ckv e; obtain ⟨c5, e⟩ := e
    replace e := am_ckv e; obtain ⟨c6, e⟩ := e
    replace e := am_ckv e; obtain ⟨c7, e⟩ := e
    replace e := am_ckv e; obtain ⟨c8, e⟩ := e
    replace e := am_ckv e; obtain ⟨c9, e⟩ := e
    replace e := am_ckv e; obtain ⟨c10, e⟩ := e
    replace e := am_ckv e; obtain ⟨c11, e⟩ := e
    replace e := am_ckv e; obtain ⟨c12, e⟩ := e
    replace e := am_ckv e; obtain ⟨c13, e⟩ := e
    replace e := am_o1_i e; obtain ⟨a18, e18, e⟩ := e
    have f18 := xl_X10_married_125 _ (am_fr.a (am_fr.a (am_fr.a hf (by simp)) (by simp)) (by simp)) e18
    replace e := am_o2_i e; obtain ⟨v19, w19, e19, e⟩ := e
    have f19 := am_fr.tr f18 (am_fr.up (X_X10_soonBread e19) (by simp) (by simp))
    replace e := am_ckv e; obtain ⟨c20, e⟩ := e
    replace e := am_ckv e; obtain ⟨c21, e⟩ := e
    replace e := am_ckv e; obtain ⟨c22, e⟩ := e
    replace e := am_o1_i e; obtain ⟨a25, e25, e⟩ := e
    have f25 := xl_X10_married_210 _ (am_fr.a (am_fr.a (am_fr.a f19 (by simp)) (by simp)) (by simp)) e25
    replace e := am_if e; rcases e with ⟨hbr, e⟩ | ⟨hbr, e⟩
    · obtain rfl := Option.some.inj e
      exact f25
    · obtain rfl := Option.some.inj e
      exact f25
theorem x_X10_married {i1 i2 : Int32} {iv iv0 : am_I} (hf : am_fr [60, 62, 63, 64, 75, 76, 77, 78, 79, 80, 82, 83] [(54, 3), (54, 44)] iv0 iv) {y : Int32 × am_I} (e : F_X10_married i1 i2 iv = some y) : am_fr [60, 62, 63, 64, 75, 76, 77, 78, 79, 80, 82, 83] [(54, 3), (54, 44)] iv0 y.2 := by
  replace e := am_o1_i e; obtain ⟨v1, e1, e⟩ := e
  replace e := am_if e; rcases e with ⟨hbr, e⟩ | ⟨hbr, e⟩
  · exact x_X10_married_21 (am_fr.f hf (by simp)) e
  · replace e := am_o1_i e; obtain ⟨v3, e3, e⟩ := e
    replace e := am_if e; rcases e with ⟨hbr, e⟩ | ⟨hbr, e⟩
    · exact x_X10_married_21 (am_fr.f hf (by simp)) e
    · replace e := am_o1_i e; obtain ⟨v4, e4, e⟩ := e
      replace e := am_if e; rcases e with ⟨hbr, e⟩ | ⟨hbr, e⟩
      · exact x_X10_married_48 (am_fr.f hf (by simp)) e
      · replace e := am_o2_i e; obtain ⟨v26, w26, e26, e⟩ := e
        have f26 := am_fr.tr (am_fr.f hf (by simp)) (am_fr.up (X_X10_soonBread e26) (by simp) (by simp))
        exact x_X10_married_48 f26 e
theorem X_X10_married {i1 i2 : Int32} {iv iv' : am_I} {v' : Int32} (e : F_X10_married i1 i2 iv = some (v', iv')) : am_fr [60, 62, 63, 64, 75, 76, 77, 78, 79, 80, 82, 83] [(54, 3), (54, 44)] iv iv' := x_X10_married (am_fr.rf _ _ _) e
theorem x_X10_rent {iv iv0 : am_I} (hf : am_fr [] [(54, 3)] iv0 iv) {y : Int32 × am_I} (e : F_X10_rent  iv = some y) : am_fr [] [(54, 3)] iv0 y.2 := by
  replace e := am_o1_i e; obtain ⟨a2, e2, e⟩ := e
  obtain rfl := Option.some.inj e
  exact (am_fr.f hf (by simp))
theorem X_X10_rent {iv iv' : am_I} {v' : Int32} (e : F_X10_rent  iv = some (v', iv')) : am_fr [] [(54, 3)] iv iv' := x_X10_rent (am_fr.rf _ _ _) e
theorem xb_X10_wind_40 {i2 i4 i3 i5 : Int32} {iv iv0 : am_I} (hf : am_fr [72] [(54, 29), (54, 3), (54, 32), (54, 47)] iv0 iv) {y : (Int32 × Int32 × am_I) ⊕ (Int32 × am_I)} (e : B_X10_wind_40 i2 i4 i3 i5 iv = some y) : Sum.elim (fun s : (Int32 × Int32 × am_I) => am_fr [72] [(54, 29), (54, 3), (54, 32), (54, 47)] iv0 s.2.2) (fun a : (Int32 × am_I) => am_fr [72] [(54, 29), (54, 3), (54, 32), (54, 47)] iv0 a.2) y := by
  replace e := am_if e; rcases e with ⟨hbr, e⟩ | ⟨hbr, e⟩
  · obtain rfl := Option.some.inj e
    exact hf
  · replace e := am_o1_i e; obtain ⟨v2, e2, e⟩ := e
    replace e := am_if e; rcases e with ⟨hbr, e⟩ | ⟨hbr, e⟩
    · obtain rfl := Option.some.inj e
      exact hf
    · replace e := am_ckv e; obtain ⟨c3, e⟩ := e
      replace e := am_if e; rcases e with ⟨hbr, e⟩ | ⟨hbr, e⟩
      · replace e := am_o1_i e; obtain ⟨w4, e4, e⟩ := e
        have f4 := am_fr.tr (am_fr.f hf (by simp)) (am_fr.up (X_X10_slam e4) (by simp) (by simp))
        obtain rfl := Option.some.inj e
        exact f4
      · obtain rfl := Option.some.inj e
        exact (am_fr.f hf (by simp))
theorem xl_X10_wind_40 {i2 i4 : Int32} {iv0 : am_I} (s : (Int32 × Int32 × am_I)) (hf : am_fr [72] [(54, 29), (54, 3), (54, 32), (54, 47)] iv0 s.2.2) {x : (Int32 × am_I)} (e : am_loop (fun s : (Int32 × Int32 × am_I) => B_X10_wind_40 i2 i4 s.1 s.2.1 s.2.2) s = some x) : (fun a : (Int32 × am_I) => am_fr [72] [(54, 29), (54, 3), (54, 32), (54, 47)] iv0 a.2) x :=
  am_wh_fr (f := fun s : (Int32 × Int32 × am_I) => B_X10_wind_40 i2 i4 s.1 s.2.1 s.2.2) (P := fun s => am_fr [72] [(54, 29), (54, 3), (54, 32), (54, 47)] iv0 s.2.2) (K := fun a : (Int32 × am_I) => am_fr [72] [(54, 29), (54, 3), (54, 32), (54, 47)] iv0 a.2) (fun s y hf e => xb_X10_wind_40 hf e) am_fu s x hf e
theorem xb_X10_wind_31 {i2 i3 i4 : Int32} {iv iv0 : am_I} (hf : am_fr [72] [(54, 29), (54, 3), (54, 32), (54, 47)] iv0 iv) {y : (Int32 × Int32 × am_I) ⊕ (Int32 × am_I)} (e : B_X10_wind_31 i2 i3 i4 iv = some y) : Sum.elim (fun s : (Int32 × Int32 × am_I) => am_fr [72] [(54, 29), (54, 3), (54, 32), (54, 47)] iv0 s.2.2) (fun a : (Int32 × am_I) => am_fr [72] [(54, 29), (54, 3), (54, 32), (54, 47)] iv0 a.2) y := by
  replace e := am_if e; rcases e with ⟨hbr, e⟩ | ⟨hbr, e⟩
  · obtain rfl := Option.some.inj e
    exact hf
  · replace e := am_o1_i e; obtain ⟨a5, e5, e⟩ := e
    have f5 := xl_X10_wind_40 _ hf e5
    obtain rfl := Option.some.inj e
    exact f5
theorem xl_X10_wind_31 {i2 : Int32} {iv0 : am_I} (s : (Int32 × Int32 × am_I)) (hf : am_fr [72] [(54, 29), (54, 3), (54, 32), (54, 47)] iv0 s.2.2) {x : (Int32 × am_I)} (e : am_loop (fun s : (Int32 × Int32 × am_I) => B_X10_wind_31 i2 s.1 s.2.1 s.2.2) s = some x) : (fun a : (Int32 × am_I) => am_fr [72] [(54, 29), (54, 3), (54, 32), (54, 47)] iv0 a.2) x :=
  am_wh_fr (f := fun s : (Int32 × Int32 × am_I) => B_X10_wind_31 i2 s.1 s.2.1 s.2.2) (P := fun s => am_fr [72] [(54, 29), (54, 3), (54, 32), (54, 47)] iv0 s.2.2) (K := fun a : (Int32 × am_I) => am_fr [72] [(54, 29), (54, 3), (54, 32), (54, 47)] iv0 a.2) (fun s y hf e => xb_X10_wind_31 hf e) am_fu s x hf e
theorem x_X10_wind {i1 i2 : Int32} {iv iv0 : am_I} (hf : am_fr [72] [(54, 29), (54, 3), (54, 32), (54, 47)] iv0 iv) {y : Int32 × am_I} (e : F_X10_wind i1 i2 iv = some y) : am_fr [72] [(54, 29), (54, 3), (54, 32), (54, 47)] iv0 y.2 := by
  replace e := am_o1_i e; obtain ⟨v1, e1, e⟩ := e
  replace e := am_if e; rcases e with ⟨hbr, e⟩ | ⟨hbr, e⟩
  · replace e := am_o2_i e; obtain ⟨v7, w7, e7, e⟩ := e
    have f7 := am_fr.tr (am_fr.f hf (by simp)) (am_fr.up (X_X10_fail e7) (by simp) (by simp))
    obtain rfl := Option.some.inj e
    exact f7
  · replace e := am_o1_i e; obtain ⟨a6, e6, e⟩ := e
    have f6 := xl_X10_wind_31 _ (am_fr.f (am_fr.f hf (by simp)) (by simp)) e6
    replace e := am_if e; rcases e with ⟨hbr, e⟩ | ⟨hbr, e⟩
    · obtain rfl := Option.some.inj e
      exact f6
    · obtain rfl := Option.some.inj e
      exact (am_fr.f f6 (by simp))
theorem X_X10_wind {i1 i2 : Int32} {iv iv' : am_I} {v' : Int32} (e : F_X10_wind i1 i2 iv = some (v', iv')) : am_fr [72] [(54, 29), (54, 3), (54, 32), (54, 47)] iv iv' := x_X10_wind (am_fr.rf _ _ _) e
theorem x_X10_who {i1 : Int32} {iv iv0 : am_I} (hf : am_fr [] [(54, 3)] iv0 iv) {y : Int32 × am_I} (e : F_X10_who i1 iv = some y) : am_fr [] [(54, 3)] iv0 y.2 := by
  replace e := am_o1_i e; obtain ⟨v1, e1, e⟩ := e
  replace e := am_if e; rcases e with ⟨hbr, e⟩ | ⟨hbr, e⟩
  · replace e := am_o2_i e; obtain ⟨v4, w4, e4, e⟩ := e
    have f4 := am_fr.tr (am_fr.f hf (by simp)) (am_fr.up (X_X10_fail e4) (by simp) (by simp))
    obtain rfl := Option.some.inj e
    exact f4
  · replace e := am_o1_i e; obtain ⟨v2, e2, e⟩ := e
    replace e := am_if e; rcases e with ⟨hbr, e⟩ | ⟨hbr, e⟩
    · obtain rfl := Option.some.inj e
      exact (am_fr.f hf (by simp))
    · replace e := am_o1_i e; obtain ⟨v3, e3, e⟩ := e
      obtain rfl := Option.some.inj e
      exact (am_fr.f hf (by simp))
theorem X_X10_who {i1 : Int32} {iv iv' : am_I} {v' : Int32} (e : F_X10_who i1 iv = some (v', iv')) : am_fr [] [(54, 3)] iv iv' := x_X10_who (am_fr.rf _ _ _) e
theorem x_X10_odds_30 {iv iv0 : am_I} (hf : am_fr [] [(54, 3)] iv0 iv) {y : Int32 × am_I} (e : J_X10_odds_30  iv = some y) : am_fr [] [(54, 3)] iv0 y.2 := by
  replace e := am_o2_i e; obtain ⟨v2, w2, e2, e⟩ := e
  have f2 := am_fr.tr hf (am_fr.up (X_X10_fail e2) (by simp) (by simp))
  obtain rfl := Option.some.inj e
  exact f2
theorem x_X10_odds_142 {i3 i5 i6 k0 : Int32} {iv iv0 : am_I} (hf : am_fr [] [(54, 3)] iv0 iv) {y : Int32 × am_I} (e : J_X10_odds_142 i3 i5 i6 k0 iv = some y) : am_fr [] [(54, 3)] iv0 y.2 := by
  replace e := am_if e; rcases e with ⟨hbr, e⟩ | ⟨hbr, e⟩
  · replace e := am_ckn e; obtain ⟨c12, e⟩ := e
    obtain rfl := Option.some.inj e
    exact hf
  · replace e := am_if e; rcases e with ⟨hbr, e⟩ | ⟨hbr, e⟩
    · obtain rfl := Option.some.inj e
      exact hf
    · replace e := am_ckn e; obtain ⟨c11, e⟩ := e
      obtain rfl := Option.some.inj e
      exact hf
theorem x_X10_odds_124 {i3 i5 k0 : Int32} {iv iv0 : am_I} (hf : am_fr [] [(54, 3)] iv0 iv) {y : Int32 × am_I} (e : J_X10_odds_124 i3 i5 k0 iv = some y) : am_fr [] [(54, 3)] iv0 y.2 := by
  replace e := am_if e; rcases e with ⟨hbr, e⟩ | ⟨hbr, e⟩
  · exact x_X10_odds_142 hf e
  · replace e := am_o1_i e; obtain ⟨v10, e10, e⟩ := e
    exact x_X10_odds_142 hf e
theorem x_X10_odds {i1 i2 i3 : Int32} {iv iv0 : am_I} (hf : am_fr [] [(54, 3)] iv0 iv) {y : Int32 × am_I} (e : F_X10_odds i1 i2 i3 iv = some y) : am_fr [] [(54, 3)] iv0 y.2 := by
  replace e := am_o1_i e; obtain ⟨v1, e1, e⟩ := e
  replace e := am_if e; rcases e with ⟨hbr, e⟩ | ⟨hbr, e⟩
  · exact x_X10_odds_30 (am_fr.f hf (by simp)) e
  · replace e := am_o1_i e; obtain ⟨v3, e3, e⟩ := e
    replace e := am_if e; rcases e with ⟨hbr, e⟩ | ⟨hbr, e⟩
    · exact x_X10_odds_30 (am_fr.f hf (by simp)) e
    · replace e := am_if e; rcases e with ⟨hbr, e⟩ | ⟨hbr, e⟩
      · exact x_X10_odds_30 (am_fr.f hf (by simp)) e
      · replace e := am_if e; rcases e with ⟨hbr, e⟩ | ⟨hbr, e⟩
        · replace e := am_o1_i e; obtain ⟨v4, e4, e⟩ := e
          replace e := am_if e; rcases e with ⟨hbr, e⟩ | ⟨hbr, e⟩
          · obtain rfl := Option.some.inj e
            exact (am_fr.f hf (by simp))
          · replace e := am_o1_i e; obtain ⟨v5, e5, e⟩ := e
            replace e := am_o1_i e; obtain ⟨a8, e8, e⟩ := e
            replace e := am_o1_i e; obtain ⟨v9, e9, e⟩ := e
            replace e := am_if e; rcases e with ⟨hbr, e⟩ | ⟨hbr, e⟩
            · exact x_X10_odds_124 (am_fr.f hf (by simp)) e
            · replace e := am_ckv e; obtain ⟨c13, e⟩ := e
              exact x_X10_odds_124 (am_fr.f hf (by simp)) e
        · exact x_X10_odds_30 (am_fr.f hf (by simp)) e
theorem X_X10_odds {i1 i2 i3 : Int32} {iv iv' : am_I} {v' : Int32} (e : F_X10_odds i1 i2 i3 iv = some (v', iv')) : am_fr [] [(54, 3)] iv iv' := x_X10_odds (am_fr.rf _ _ _) e
theorem x_X10_image {iv iv0 : am_I} (hf : am_fr [84, 85, 86, 87] [(54, 3), (54, 48), (54, 49), (54, 50), (54, 51), (54, 52)] iv0 iv) {y : am_I} (e : F_X10_image  iv = some y) : am_fr [84, 85, 86, 87] [(54, 3), (54, 48), (54, 49), (54, 50), (54, 51), (54, 52)] iv0 y := by
  replace e := am_o1_i e; obtain ⟨w1, e1, e⟩ := e
  have f1 := am_fr.tr (am_fr.f (am_fr.f (am_fr.f (am_fr.f (am_fr.f (am_fr.f hf (by simp)) (by simp)) (by simp)) (by simp)) (by simp)) (by simp)) (am_fr.up (X_X10_be e1) (by simp) (by simp))
  replace e := am_o1_i e; obtain ⟨w2, e2, e⟩ := e
  have f2 := am_fr.tr f1 (am_fr.up (X_X10_be e2) (by simp) (by simp))
  replace e := am_o1_i e; obtain ⟨w3, e3, e⟩ := e
  have f3 := am_fr.tr f2 (am_fr.up (X_X10_be e3) (by simp) (by simp))
  replace e := am_o1_i e; obtain ⟨w4, e4, e⟩ := e
  have f4 := am_fr.tr f3 (am_fr.up (X_X10_be e4) (by simp) (by simp))
  obtain rfl := Option.some.inj e
  exact f4
theorem X_X10_image {iv iv' : am_I} (e : F_X10_image  iv = some iv') : am_fr [84, 85, 86, 87] [(54, 3), (54, 48), (54, 49), (54, 50), (54, 51), (54, 52)] iv iv' := x_X10_image (am_fr.rf _ _ _) e
theorem x_X10_restore {iv iv0 : am_I} (hf : am_fr [70, 72, 73, 74] [(54, 29), (54, 3), (54, 30), (54, 31), (54, 32)] iv0 iv) {y : Int32 × am_I} (e : F_X10_restore  iv = some y) : am_fr [70, 72, 73, 74] [(54, 29), (54, 3), (54, 30), (54, 31), (54, 32)] iv0 y.2 := by
  replace e := am_if e; rcases e with ⟨hbr, e⟩ | ⟨hbr, e⟩
  · obtain rfl := Option.some.inj e
    exact (am_fr.f hf (by simp))
  · replace e := am_o1_i e; obtain ⟨w1, e1, e⟩ := e
    have f1 := am_fr.tr (am_fr.f (am_fr.f (am_fr.f (am_fr.f (am_fr.f hf (by simp)) (by simp)) (by simp)) (by simp)) (by simp)) (am_fr.up (X_X10_be e1) (by simp) (by simp))
    replace e := am_o1_i e; obtain ⟨w2, e2, e⟩ := e
    have f2 := am_fr.tr f1 (am_fr.up (X_X10_be e2) (by simp) (by simp))
    replace e := am_o1_i e; obtain ⟨w3, e3, e⟩ := e
    have f3 := am_fr.tr f2 (am_fr.up (X_X10_be e3) (by simp) (by simp))
    replace e := am_o1_i e; obtain ⟨w4, e4, e⟩ := e
    have f4 := am_fr.tr f3 (am_fr.up (X_X10_be e4) (by simp) (by simp))
    obtain rfl := Option.some.inj e
    exact f4
theorem X_X10_restore {iv iv' : am_I} {v' : Int32} (e : F_X10_restore  iv = some (v', iv')) : am_fr [70, 72, 73, 74] [(54, 29), (54, 3), (54, 30), (54, 31), (54, 32)] iv iv' := x_X10_restore (am_fr.rf _ _ _) e
