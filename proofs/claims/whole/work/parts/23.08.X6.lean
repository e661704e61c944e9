/-! what they leave (by program) -/
theorem x_X6_note {fd : Nat} {nf : Nat} {sn : Nat} {ns : Nat} {i1 i2 : Int32} {iv iv0 : am_I} (hf : am_fr [fd, sn] [(50, 2)] iv0 iv) {y : Int32 × am_I} (e : F_X6_note fd nf sn ns i1 i2 iv = some y) : am_fr [fd, sn] [(50, 2)] iv0 y.2 := by
  replace e := am_if e; rcases e with ⟨hbr, e⟩ | ⟨hbr, e⟩
  · obtain rfl := Option.some.inj e
    exact hf
  · replace e := am_if e; rcases e with ⟨hbr, e⟩ | ⟨hbr, e⟩
    · obtain rfl := Option.some.inj e
      exact hf
    · replace e := am_ckv e; obtain ⟨c1, e⟩ := e
      replace e := am_if e; rcases e with ⟨hbr, e⟩ | ⟨hbr, e⟩
      · replace e := am_if e; rcases e with ⟨hbr, e⟩ | ⟨hbr, e⟩
        · replace e := am_ckv e; obtain ⟨c2, e⟩ := e
          replace e := am_ckv e; obtain ⟨c3, e⟩ := e
          replace e := am_ckv e; obtain ⟨c4, e⟩ := e
          obtain rfl := Option.some.inj e
          exact (am_fr.f (am_fr.a (am_fr.a hf (by simp)) (by simp)) (by simp))
        · obtain rfl := Option.some.inj e
          exact hf
      · obtain rfl := Option.some.inj e
        exact hf
theorem X_X6_note {fd : Nat} {nf : Nat} {sn : Nat} {ns : Nat} {i1 i2 : Int32} {iv iv' : am_I} {v' : Int32} (e : F_X6_note fd nf sn ns i1 i2 iv = some (v', iv')) : am_fr [fd, sn] [(50, 2)] iv iv' := x_X6_note (am_fr.rf _ _ _) e
theorem xb_X6_writeSteps_13 {fd : Nat} {nf : Nat} {sn : Nat} {ns : Nat} {pp : Nat} {np : Nat} {i4 i5 : Int32} {iv iv0 : am_I} (hf : am_fr [pp] [] iv0 iv) {y : (Int32 × Int32 × am_I) ⊕ ((am_I) ⊕ (am_I))} (e : B_X6_writeSteps_13 fd nf sn ns pp np i4 i5 iv = some y) : Sum.elim (fun s : (Int32 × Int32 × am_I) => am_fr [pp] [] iv0 s.2.2) (Sum.elim (fun a : (am_I) => am_fr [pp] [] iv0 a) (fun r : (am_I) => am_fr [pp] [] iv0 r)) y := by
  replace e := am_if e; rcases e with ⟨hbr, e⟩ | ⟨hbr, e⟩
  · obtain rfl := Option.some.inj e
    exact hf
  · replace e := am_if e; rcases e with ⟨hbr, e⟩ | ⟨hbr, e⟩
    · obtain rfl := Option.some.inj e
      exact hf
    · replace e := am_if e; rcases e with ⟨hbr, e⟩ | ⟨hbr, e⟩
      · obtain rfl := Option.some.inj e
        exact hf
      · replace e := am_ckv e; obtain ⟨c1, e⟩ := e
        replace e := am_if e; rcases e with ⟨hbr, e⟩ | ⟨hbr, e⟩
        · obtain rfl := Option.some.inj e
          exact hf
        · replace e := am_if e; rcases e with ⟨hbr, e⟩ | ⟨hbr, e⟩
          · replace e := am_ckv e; obtain ⟨c2, e⟩ := e
            replace e := am_ckv e; obtain ⟨c3, e⟩ := e
            replace e := am_ckv e; obtain ⟨c4, e⟩ := e
            obtain rfl := Option.some.inj e
            exact (am_fr.a hf (by simp))
          · obtain rfl := Option.some.inj e
            exact hf
theorem xl_X6_writeSteps_13 {fd : Nat} {nf : Nat} {sn : Nat} {ns : Nat} {pp : Nat} {np : Nat} {iv0 : am_I} (s : (Int32 × Int32 × am_I)) (hf : am_fr [pp] [] iv0 s.2.2) {x : ((am_I) ⊕ (am_I))} (e : am_loop (fun s : (Int32 × Int32 × am_I) => B_X6_writeSteps_13 fd nf sn ns pp np s.1 s.2.1 s.2.2) s = some x) : (Sum.elim (fun a : (am_I) => am_fr [pp] [] iv0 a) (fun r : (am_I) => am_fr [pp] [] iv0 r)) x :=
  am_wh_fr (f := fun s : (Int32 × Int32 × am_I) => B_X6_writeSteps_13 fd nf sn ns pp np s.1 s.2.1 s.2.2) (P := fun s => am_fr [pp] [] iv0 s.2.2) (K := Sum.elim (fun a : (am_I) => am_fr [pp] [] iv0 a) (fun r : (am_I) => am_fr [pp] [] iv0 r)) (fun s y hf e => xb_X6_writeSteps_13 hf e) am_fu s x hf e
theorem x_X6_writeSteps {fd : Nat} {nf : Nat} {sn : Nat} {ns : Nat} {pp : Nat} {np : Nat} {i1 i2 : Int32} {iv iv0 : am_I} (hf : am_fr [pp] [] iv0 iv) {y : am_I} (e : F_X6_writeSteps fd nf sn ns pp np i1 i2 iv = some y) : am_fr [pp] [] iv0 y := by
  replace e := am_lp_i e; rcases e with ⟨a5, e5, e⟩ | ⟨r5, e5, e⟩
  · have f5 := xl_X6_writeSteps_13 _ hf e5
    obtain rfl := Option.some.inj e
    exact f5
  · have f5 := xl_X6_writeSteps_13 _ hf e5
    obtain rfl := Option.some.inj e
    exact f5
theorem X_X6_writeSteps {fd : Nat} {nf : Nat} {sn : Nat} {ns : Nat} {pp : Nat} {np : Nat} {i1 i2 : Int32} {iv iv' : am_I} (e : F_X6_writeSteps fd nf sn ns pp np i1 i2 iv = some iv') : am_fr [pp] [] iv iv' := x_X6_writeSteps (am_fr.rf _ _ _) e
