/-! what they leave (by program) -/
theorem xb_X6_begin_47 {fd : Nat} {nf : Nat} {sn : Nat} {ns : Nat} {i3 i4 : Int32} {iv iv0 : am_I} (hf : am_fr [sn] [(50, 2)] iv0 iv) {y : (Int32 × am_I) ⊕ (am_I)} (e : B_X6_begin_47 fd nf sn ns i3 i4 iv = some y) : Sum.elim (fun s : (Int32 × am_I) => am_fr [sn] [(50, 2)] iv0 s.2) (fun a : (am_I) => am_fr [sn] [(50, 2)] iv0 a) y := by
  replace e := am_if e; rcases e with ⟨hbr, e⟩ | ⟨hbr, e⟩
  · obtain rfl := Option.some.inj e
    exact hf
  · replace e := am_if e; rcases e with ⟨hbr, e⟩ | ⟨hbr, e⟩
    · obtain rfl := Option.some.inj e
      exact hf
    · replace e := am_ckv e; obtain ⟨c1, e⟩ := e
      obtain rfl := Option.some.inj e
      exact (am_fr.a hf (by simp))
theorem xl_X6_begin_47 {fd : Nat} {nf : Nat} {sn : Nat} {ns : Nat} {i3 : Int32} {iv0 : am_I} (s : (Int32 × am_I)) (hf : am_fr [sn] [(50, 2)] iv0 s.2) {x : (am_I)} (e : am_loop (fun s : (Int32 × am_I) => B_X6_begin_47 fd nf sn ns i3 s.1 s.2) s = some x) : (fun a : (am_I) => am_fr [sn] [(50, 2)] iv0 a) x :=
  am_wh_fr (f := fun s : (Int32 × am_I) => B_X6_begin_47 fd nf sn ns i3 s.1 s.2) (P := fun s => am_fr [sn] [(50, 2)] iv0 s.2) (K := fun a : (am_I) => am_fr [sn] [(50, 2)] iv0 a) (fun s y hf e => xb_X6_begin_47 hf e) am_fu s x hf e
theorem x_X6_begin_77 {fd : Nat} {nf : Nat} {sn : Nat} {ns : Nat} {iv iv0 : am_I} (hf : am_fr [sn] [(50, 2)] iv0 iv) {y : am_I} (e : J_X6_begin_77 fd nf sn ns  iv = some y) : am_fr [sn] [(50, 2)] iv0 y := by
  obtain rfl := Option.some.inj e
  exact (am_fr.f hf (by simp))
theorem x_X6_begin_44 {fd : Nat} {nf : Nat} {sn : Nat} {ns : Nat} {i3 : Int32} {iv iv0 : am_I} (hf : am_fr [sn] [(50, 2)] iv0 iv) {y : am_I} (e : J_X6_begin_44 fd nf sn ns i3 iv = some y) : am_fr [sn] [(50, 2)] iv0 y := by
  replace e := am_o1_i e; obtain ⟨a2, e2, e⟩ := e
  have f2 := xl_X6_begin_47 _ hf e2
  exact x_X6_begin_77 f2 e
theorem x_X6_seek_223 {fd : Nat} {nf : Nat} {sn : Nat} {ns : Nat} {w : Nat} {i3 i4 i5 i6 i7 i9 i10 i11 i12 i13 i14 : Int32} {iv iv0 : am_I} (hf : am_fr [(w + 17), (w + 18), (w + 19), fd, sn] [(50, 2)] iv0 iv) {y : (Int32 × am_I) ⊕ ((am_I) ⊕ (Int32 × am_I))} (e : J_X6_seek_223 fd nf sn ns w i3 i4 i5 i6 i7 i9 i10 i11 i12 i13 i14 iv = some y) : Sum.elim (fun s : (Int32 × am_I) => am_fr [(w + 17), (w + 18), (w + 19), fd, sn] [(50, 2)] iv0 s.2) (Sum.elim (fun a : (am_I) => am_fr [(w + 17), (w + 18), (w + 19), fd, sn] [(50, 2)] iv0 a) (fun r : (Int32 × am_I) => am_fr [(w + 17), (w + 18), (w + 19), fd, sn] [(50, 2)] iv0 r.2)) y := by
  replace e := am_o2_i e; obtain ⟨v5, w5, e5, e⟩ := e
  have f5 := am_fr.tr hf (am_fr.up (X_X6_note e5) (by simp) (by simp))
  replace e := am_if e; rcases e with ⟨hbr, e⟩ | ⟨hbr, e⟩
  · obtain rfl := Option.some.inj e
    exact f5
  · replace e := am_if e; rcases e with ⟨hbr, e⟩ | ⟨hbr, e⟩
    · obtain rfl := Option.some.inj e
      exact f5
    · obtain rfl := Option.some.inj e
      exact f5
theorem xb_X6_seek_156 {fd : Nat} {nf : Nat} {sn : Nat} {ns : Nat} {w : Nat} {i3 i4 i5 i6 i7 i9 i10 i11 i12 i13 : Int32} {iv iv0 : am_I} (hf : am_fr [(w + 17), (w + 18), (w + 19), fd, sn] [(50, 2)] iv0 iv) {y : (Int32 × am_I) ⊕ ((am_I) ⊕ (Int32 × am_I))} (e : B_X6_seek_156 fd nf sn ns w i3 i4 i5 i6 i7 i9 i10 i11 i12 i13 iv = some y) : Sum.elim (fun s : (Int32 × am_I) => am_fr [(w + 17), (w + 18), (w + 19), fd, sn] [(50, 2)] iv0 s.2) (Sum.elim (fun a : (am_I) => am_fr [(w + 17), (w + 18), (w + 19), fd, sn] [(50, 2)] iv0 a) (fun r : (Int32 × am_I) => am_fr [(w + 17), (w + 18), (w + 19), fd, sn] [(50, 2)] iv0 r.2)) y := by
  replace e := am_if e; rcases e with ⟨hbr, e⟩ | ⟨hbr, e⟩
  · obtain rfl := Option.some.inj e
    exact hf
  · replace e := am_if e; rcases e with ⟨hbr, e⟩ | ⟨hbr, e⟩
    · obtain rfl := Option.some.inj e
      exact hf
    · replace e := am_o2_i e; obtain ⟨v4, w4, e4, e⟩ := e
      have f4 := am_fr.tr hf (am_fr.up (X_X0_canBe e4) (by simp) (by simp))
      replace e := am_if e; rcases e with ⟨hbr, e⟩ | ⟨hbr, e⟩
      · obtain rfl := Option.some.inj e
        exact f4
      · replace e := am_if e; rcases e with ⟨hbr, e⟩ | ⟨hbr, e⟩
        · exact x_X6_seek_223 f4 e
        · replace e := am_o2_i e; obtain ⟨v6, w6, e6, e⟩ := e
          have f6 := am_fr.tr f4 (am_fr.up (X_X0_fedBy e6) (by simp) (by simp))
          exact x_X6_seek_223 f6 e
theorem xl_X6_seek_156 {fd : Nat} {nf : Nat} {sn : Nat} {ns : Nat} {w : Nat} {i3 i4 i5 i6 i7 i9 i10 i11 i12 : Int32} {iv0 : am_I} (s : (Int32 × am_I)) (hf : am_fr [(w + 17), (w + 18), (w + 19), fd, sn] [(50, 2)] iv0 s.2) {x : ((am_I) ⊕ (Int32 × am_I))} (e : am_loop (fun s : (Int32 × am_I) => B_X6_seek_156 fd nf sn ns w i3 i4 i5 i6 i7 i9 i10 i11 i12 s.1 s.2) s = some x) : (Sum.elim (fun a : (am_I) => am_fr [(w + 17), (w + 18), (w + 19), fd, sn] [(50, 2)] iv0 a) (fun r : (Int32 × am_I) => am_fr [(w + 17), (w + 18), (w + 19), fd, sn] [(50, 2)] iv0 r.2)) x :=
  am_wh_fr (f := fun s : (Int32 × am_I) => B_X6_seek_156 fd nf sn ns w i3 i4 i5 i6 i7 i9 i10 i11 i12 s.1 s.2) (P := fun s => am_fr [(w + 17), (w + 18), (w + 19), fd, sn] [(50, 2)] iv0 s.2) (K := Sum.elim (fun a : (am_I) => am_fr [(w + 17), (w + 18), (w + 19), fd, sn] [(50, 2)] iv0 a) (fun r : (Int32 × am_I) => am_fr [(w + 17), (w + 18), (w + 19), fd, sn] [(50, 2)] iv0 r.2)) (fun s y hf e => xb_X6_seek_156 hf e) am_fu s x hf e
theorem xb_X6_seek_100 {fd : Nat} {nf : Nat} {sn : Nat} {ns : Nat} {w : Nat} {i3 i4 i5 i6 i7 i9 : Int32} {iv iv0 : am_I} (hf : am_fr [(w + 17), (w + 18), (w + 19), fd, sn] [(50, 2)] iv0 iv) {y : (Int32 × am_I) ⊕ ((am_I) ⊕ (Int32 × am_I))} (e : B_X6_seek_100 fd nf sn ns w i3 i4 i5 i6 i7 i9 iv = some y) : Sum.elim (fun s : (Int32 × am_I) => am_fr [(w + 17), (w + 18), (w + 19), fd, sn] [(50, 2)] iv0 s.2) (Sum.elim (fun a : (am_I) => am_fr [(w + 17), (w + 18), (w + 19), fd, sn] [(50, 2)] iv0 a) (fun r : (Int32 × am_I) => am_fr [(w + 17), (w + 18), (w + 19), fd, sn] [(50, 2)] iv0 r.2)) y := by
  replace e := am_if e; rcases e with ⟨hbr, e⟩ | ⟨hbr, e⟩
  · obtain rfl := Option.some.inj e
    exact hf
  · replace e := am_if e; rcases e with ⟨hbr, e⟩ | ⟨hbr, e⟩
    · obtain rfl := Option.some.inj e
      exact hf
    · replace e := am_ckv e; obtain ⟨c2, e⟩ := e
      replace e := am_o2_i e; obtain ⟨v3, w3, e3, e⟩ := e
      have f3 := am_fr.tr hf (am_fr.up (X_X0_reachedBy e3) (by simp) (by simp))
      replace e := am_lp_i e; rcases e with ⟨a7, e7, e⟩ | ⟨r7, e7, e⟩
      · have f7 := xl_X6_seek_156 _ f3 e7
        obtain rfl := Option.some.inj e
        exact f7
      · have f7 := xl_X6_seek_156 _ f3 e7
        obtain rfl := Option.some.inj e
        exact f7
theorem xl_X6_seek_100 {fd : Nat} {nf : Nat} {sn : Nat} {ns : Nat} {w : Nat} {i3 i4 i5 i6 i7 : Int32} {iv0 : am_I} (s : (Int32 × am_I)) (hf : am_fr [(w + 17), (w + 18), (w + 19), fd, sn] [(50, 2)] iv0 s.2) {x : ((am_I) ⊕ (Int32 × am_I))} (e : am_loop (fun s : (Int32 × am_I) => B_X6_seek_100 fd nf sn ns w i3 i4 i5 i6 i7 s.1 s.2) s = some x) : (Sum.elim (fun a : (am_I) => am_fr [(w + 17), (w + 18), (w + 19), fd, sn] [(50, 2)] iv0 a) (fun r : (Int32 × am_I) => am_fr [(w + 17), (w + 18), (w + 19), fd, sn] [(50, 2)] iv0 r.2)) x :=
  am_wh_fr (f := fun s : (Int32 × am_I) => B_X6_seek_100 fd nf sn ns w i3 i4 i5 i6 i7 s.1 s.2) (P := fun s => am_fr [(w + 17), (w + 18), (w + 19), fd, sn] [(50, 2)] iv0 s.2) (K := Sum.elim (fun a : (am_I) => am_fr [(w + 17), (w + 18), (w + 19), fd, sn] [(50, 2)] iv0 a) (fun r : (Int32 × am_I) => am_fr [(w + 17), (w + 18), (w + 19), fd, sn] [(50, 2)] iv0 r.2)) (fun s y hf e => xb_X6_seek_100 hf e) am_fu s x hf e
theorem x_X6_seek_75 {fd : Nat} {nf : Nat} {sn : Nat} {ns : Nat} {w : Nat} {i3 i4 i5 i6 i7 k0 : Int32} {iv iv0 : am_I} (hf : am_fr [(w + 17), (w + 18), (w + 19), fd, sn] [(50, 2)] iv0 iv) {y : Int32 × am_I} (e : J_X6_seek_75 fd nf sn ns w i3 i4 i5 i6 i7 k0 iv = some y) : am_fr [(w + 17), (w + 18), (w + 19), fd, sn] [(50, 2)] iv0 y.2 := by
  replace e := am_o2_i e; obtain ⟨v1, w1, e1, e⟩ := e
  have f1 := am_fr.tr hf (am_fr.up (X_X6_note e1) (by simp) (by simp))
  replace e := am_if e; rcases e with ⟨hbr, e⟩ | ⟨hbr, e⟩
  · obtain rfl := Option.some.inj e
    exact f1
  · replace e := am_lp_i e; rcases e with ⟨a8, e8, e⟩ | ⟨r8, e8, e⟩
    · have f8 := xl_X6_seek_100 _ f1 e8
      obtain rfl := Option.some.inj e
      exact f8
    · have f8 := xl_X6_seek_100 _ f1 e8
      obtain rfl := Option.some.inj e
      exact f8
theorem x_X6_seek_60 {fd : Nat} {nf : Nat} {sn : Nat} {ns : Nat} {w : Nat} {i2 i3 i4 i5 i6 i7 : Int32} {iv iv0 : am_I} (hf : am_fr [(w + 17), (w + 18), (w + 19), fd, sn] [(50, 2)] iv0 iv) {y : Int32 × am_I} (e : J_X6_seek_60 fd nf sn ns w i2 i3 i4 i5 i6 i7 iv = some y) : am_fr [(w + 17), (w + 18), (w + 19), fd, sn] [(50, 2)] iv0 y.2 := by
  replace e := am_if e; rcases e with ⟨hbr, e⟩ | ⟨hbr, e⟩
  · exact x_X6_seek_75 hf e
  · exact x_X6_seek_75 hf e
theorem x_X6_everOut_10 {fd : Nat} {nf : Nat} {sn : Nat} {ns : Nat} {iv iv0 : am_I} (hf : am_fr [] [] iv0 iv) {y : Int32 × am_I} (e : J_X6_everOut_10 fd nf sn ns  iv = some y) : am_fr [] [] iv0 y.2 := by
  replace e := am_o1_i e; obtain ⟨a2, e2, e⟩ := e
  obtain rfl := Option.some.inj e
  exact hf
