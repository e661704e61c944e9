/-! what they leave (by program) -/
theorem x_X5_clear {w : Nat} {iv iv0 : am_I} (hf : am_fr [] [((w + 14), 0), ((w + 14), 1)] iv0 iv) {y : am_I} (e : F_X5_clear w  iv = some y) : am_fr [] [((w + 14), 0), ((w + 14), 1)] iv0 y := by
  obtain rfl := Option.some.inj e
  exact (am_fr.f (am_fr.f hf (by simp)) (by simp))
theorem X_X5_clear {w : Nat} {iv iv' : am_I} (e : F_X5_clear w  iv = some iv') : am_fr [] [((w + 14), 0), ((w + 14), 1)] iv iv' := x_X5_clear (am_fr.rf _ _ _) e
theorem x_X5_add {w : Nat} {i1 : Int32} {iv iv0 : am_I} (hf : am_fr [(w + 16)] [((w + 14), 1)] iv0 iv) {y : am_I} (e : F_X5_add w i1 iv = some y) : am_fr [(w + 16)] [((w + 14), 1)] iv0 y := by
  replace e := am_if e; rcases e with ⟨hbr, e⟩ | ⟨hbr, e⟩
  · obtain rfl := Option.some.inj e
    exact hf
  · replace e := am_ckv e; obtain ⟨c1, e⟩ := e
    obtain rfl := Option.some.inj e
    exact (am_fr.f (am_fr.a hf (by simp)) (by simp))
theorem X_X5_add {w : Nat} {i1 : Int32} {iv iv' : am_I} (e : F_X5_add w i1 iv = some iv') : am_fr [(w + 16)] [((w + 14), 1)] iv iv' := x_X5_add (am_fr.rf _ _ _) e
theorem x_X5_endRule {w : Nat} {iv iv0 : am_I} (hf : am_fr [(w + 15)] [((w + 14), 0)] iv0 iv) {y : am_I} (e : F_X5_endRule w  iv = some y) : am_fr [(w + 15)] [((w + 14), 0)] iv0 y := by
  replace e := am_if e; rcases e with ⟨hbr, e⟩ | ⟨hbr, e⟩
  · obtain rfl := Option.some.inj e
    exact hf
  · replace e := am_ckv e; obtain ⟨c1, e⟩ := e
    obtain rfl := Option.some.inj e
    exact (am_fr.a (am_fr.f hf (by simp)) (by simp))
theorem X_X5_endRule {w : Nat} {iv iv' : am_I} (e : F_X5_endRule w  iv = some iv') : am_fr [(w + 15)] [((w + 14), 0)] iv iv' := x_X5_endRule (am_fr.rf _ _ _) e
theorem x_X5_copyFrom {w : Nat} {v : Nat} {iv iv0 : am_I} (hf : am_fr [(w + 15), (w + 16)] [((w + 14), 0), ((w + 14), 1)] iv0 iv) {y : am_I} (e : F_X5_copyFrom w v  iv = some y) : am_fr [(w + 15), (w + 16)] [((w + 14), 0), ((w + 14), 1)] iv0 y := by
  replace e := am_ck e; obtain ⟨c1, e⟩ := e
  obtain rfl := Option.some.inj e
  exact (am_fr.c (am_fr.c (am_fr.f (am_fr.f hf (by simp)) (by simp)) (by simp)) (by simp))
theorem X_X5_copyFrom {w : Nat} {v : Nat} {iv iv' : am_I} (e : F_X5_copyFrom w v  iv = some iv') : am_fr [(w + 15), (w + 16)] [((w + 14), 0), ((w + 14), 1)] iv iv' := x_X5_copyFrom (am_fr.rf _ _ _) e
theorem x_X5_holds_111 {w : Nat} {i1 i3 i4 i5 : Int32} {iv iv0 : am_I} (hf : am_fr [(w + 17)] [] iv0 iv) {y : (Int32 × Int32 × am_I) ⊕ (am_I)} (e : J_X5_holds_111 w i1 i3 i4 i5 iv = some y) : Sum.elim (fun s : (Int32 × Int32 × am_I) => am_fr [(w + 17)] [] iv0 s.2.2) (fun a : (am_I) => am_fr [(w + 17)] [] iv0 a) y := by
  replace e := am_if e; rcases e with ⟨hbr, e⟩ | ⟨hbr, e⟩
  · obtain rfl := Option.some.inj e
    exact hf
  · replace e := am_ckv e; obtain ⟨c4, e⟩ := e
    replace e := am_ckv e; obtain ⟨c5, e⟩ := e
    replace e := am_o1_i e; obtain ⟨v6, e6, e⟩ := e
    replace e := am_ckv e; obtain ⟨c7, e⟩ := e
    obtain rfl := Option.some.inj e
    exact (am_fr.a hf (by simp))
theorem x_X5_holds_107 {w : Nat} {i1 i3 i4 k1 k2 : Int32} {iv iv0 : am_I} (hf : am_fr [(w + 17)] [] iv0 iv) {y : (Int32 × Int32 × am_I) ⊕ (am_I)} (e : J_X5_holds_107 w i1 i3 i4 k1 k2 iv = some y) : Sum.elim (fun s : (Int32 × Int32 × am_I) => am_fr [(w + 17)] [] iv0 s.2.2) (fun a : (am_I) => am_fr [(w + 17)] [] iv0 a) y := by
  replace e := am_ckv e; obtain ⟨c9, e⟩ := e
  obtain rfl := Option.some.inj e
  exact (am_fr.a hf (by simp))
theorem x_X5_holds_73 {w : Nat} {i1 i3 i4 i5 : Int32} {iv iv0 : am_I} (hf : am_fr [(w + 17)] [] iv0 iv) {y : (Int32 × Int32 × am_I) ⊕ (am_I)} (e : J_X5_holds_73 w i1 i3 i4 i5 iv = some y) : Sum.elim (fun s : (Int32 × Int32 × am_I) => am_fr [(w + 17)] [] iv0 s.2.2) (fun a : (am_I) => am_fr [(w + 17)] [] iv0 a) y := by
  replace e := am_if e; rcases e with ⟨hbr, e⟩ | ⟨hbr, e⟩
  · replace e := am_if e; rcases e with ⟨hbr, e⟩ | ⟨hbr, e⟩
    · exact x_X5_holds_111 hf e
    · replace e := am_ckv e; obtain ⟨c8, e⟩ := e
      replace e := am_if e; rcases e with ⟨hbr, e⟩ | ⟨hbr, e⟩
      · exact x_X5_holds_107 hf e
      · exact x_X5_holds_107 hf e
  · exact x_X5_holds_111 hf e
theorem x_X5_holds_66 {w : Nat} {i1 i3 i4 k1 k2 : Int32} {iv iv0 : am_I} (hf : am_fr [(w + 17)] [] iv0 iv) {y : (Int32 × Int32 × am_I) ⊕ (am_I)} (e : J_X5_holds_66 w i1 i3 i4 k1 k2 iv = some y) : Sum.elim (fun s : (Int32 × Int32 × am_I) => am_fr [(w + 17)] [] iv0 s.2.2) (fun a : (am_I) => am_fr [(w + 17)] [] iv0 a) y := by
  replace e := am_ckv e; obtain ⟨c11, e⟩ := e
  obtain rfl := Option.some.inj e
  exact (am_fr.a hf (by simp))
theorem xb_X5_holds_10 {w : Nat} {i1 i3 i4 : Int32} {iv iv0 : am_I} (hf : am_fr [(w + 17)] [] iv0 iv) {y : (Int32 × Int32 × am_I) ⊕ (am_I)} (e : B_X5_holds_10 w i1 i3 i4 iv = some y) : Sum.elim (fun s : (Int32 × Int32 × am_I) => am_fr [(w + 17)] [] iv0 s.2.2) (fun a : (am_I) => am_fr [(w + 17)] [] iv0 a) y := by
  replace e := am_ckv e; obtain ⟨c2, e⟩ := e
  replace e := am_if e; rcases e with ⟨hbr, e⟩ | ⟨hbr, e⟩
  · obtain rfl := Option.some.inj e
    exact hf
  · replace e := am_ckv e; obtain ⟨c3, e⟩ := e
    replace e := am_if e; rcases e with ⟨hbr, e⟩ | ⟨hbr, e⟩
    · exact x_X5_holds_73 hf e
    · replace e := am_if e; rcases e with ⟨hbr, e⟩ | ⟨hbr, e⟩
      · exact x_X5_holds_73 hf e
      · replace e := am_if e; rcases e with ⟨hbr, e⟩ | ⟨hbr, e⟩
        · replace e := am_ckv e; obtain ⟨c10, e⟩ := e
          exact x_X5_holds_66 hf e
        · exact x_X5_holds_66 hf e
theorem xl_X5_holds_10 {w : Nat} {i1 : Int32} {iv0 : am_I} (s : (Int32 × Int32 × am_I)) (hf : am_fr [(w + 17)] [] iv0 s.2.2) {x : (am_I)} (e : am_loop (fun s : (Int32 × Int32 × am_I) => B_X5_holds_10 w i1 s.1 s.2.1 s.2.2) s = some x) : (fun a : (am_I) => am_fr [(w + 17)] [] iv0 a) x :=
  am_wh_fr (f := fun s : (Int32 × Int32 × am_I) => B_X5_holds_10 w i1 s.1 s.2.1 s.2.2) (P := fun s => am_fr [(w + 17)] [] iv0 s.2.2) (K := fun a : (am_I) => am_fr [(w + 17)] [] iv0 a) (fun s y hf e => xb_X5_holds_10 hf e) am_fu s x hf e
theorem x_X5_holds {w : Nat} {i1 : Int32} {iv iv0 : am_I} (hf : am_fr [(w + 17)] [] iv0 iv) {y : Int32 × am_I} (e : F_X5_holds w i1 iv = some y) : am_fr [(w + 17)] [] iv0 y.2 := by
  replace e := am_ckv e; obtain ⟨c1, e⟩ := e
  replace e := am_o1_i e; obtain ⟨a12, e12, e⟩ := e
  have f12 := xl_X5_holds_10 _ hf e12
  replace e := am_if e; rcases e with ⟨hbr, e⟩ | ⟨hbr, e⟩
  · obtain rfl := Option.some.inj e
    exact f12
  · obtain rfl := Option.some.inj e
    exact f12
theorem X_X5_holds {w : Nat} {i1 : Int32} {iv iv' : am_I} {v' : Int32} (e : F_X5_holds w i1 iv = some (v', iv')) : am_fr [(w + 17)] [] iv iv' := x_X5_holds (am_fr.rf _ _ _) e
