/-! an EXPR is laid in the second half only -/
def Hx (x y : am_I) : Prop := (∃ L, L ≤ 700 ∧ x 54 28 = nI L) → (∃ L, L ≤ 700 ∧ y 54 28 = nI L) ∧ ∀ k, k < 700 → y 69 k = x 69 k
theorem Hx.rf (x : am_I) : Hx x x := fun h => ⟨h, fun _ _ => rfl⟩
theorem Hx.tr {x y z : am_I} (h1 : Hx x y) (h2 : Hx y z) : Hx x z := fun h => by
  obtain ⟨a1, a2⟩ := h1 h
  obtain ⟨b1, b2⟩ := h2 a1
  exact ⟨b1, fun k hk => (b2 k hk).trans (a2 k hk)⟩
theorem Hx.st {x y z : am_I} {A : List Nat} {L : List (Nat × Nat)} (h1 : Hx x y) (h2 : am_fr A L y z) (h3 : 54 ∉ A ∧ 69 ∉ A) (h4 : (54, 28) ∉ L ∧ ∀ k, (69, k) ∉ L) : Hx x z := h1.tr fun h => ⟨by rw [h2 54 28 h3.1 h4.1]; exact h, fun k _ => h2 69 k h3.2 (h4.2 k)⟩
theorem H_X10_lay {g : Int32} {x y : am_I} (e : F_X10_lay g x = some y) : Hx x y := by
  intro h
  obtain ⟨L, hL, e28⟩ := h
  unfold F_X10_lay at e
  by_cases hb : x 54 25 = 0
  · rw [if_pos hb, e28, show (700 : Int32) = nI 700 from rfl, nI_add] at e
    by_cases hl : L < 700
    · rw [if_pos (vb (show 700 + L < 1400 by omega) (by decide)), am_cl (by omega), am_w_other _ _ _ (show (54 : Nat) ≠ 69 by decide), e28, show nI L + (1 : Int32) = nI (L + 1) from nI_1 L] at e
      obtain rfl := Option.some.inj e
      refine ⟨⟨L + 1, by omega, by rw [am_w_r, if_pos rfl, if_pos rfl]⟩, fun k hk => ?_⟩
      rw [am_w_other _ _ _ (by decide), am_w_r, if_pos rfl, if_neg (by omega)]
    · have : L = 700 := by omega
      subst this
      rw [if_neg (show ¬ vp_b (nI (700 + 700)) 1400 = true by decide)] at e
      cases e
  · rw [if_neg hb] at e
    obtain rfl := Option.some.inj e
    exact ⟨⟨L, hL, e28⟩, fun _ _ => rfl⟩
/-! what they leave (by program) -/
theorem h_X10_readPart_56 {rc : Int32 → am_I → Option am_I} (hrf : ∀ {x : Int32} {iv y : am_I}, rc x iv = some y → Hx iv y) {i2 : Int32} {iv iv0 : am_I} (hf : Hx iv0 iv) {y : am_I} (e : J_X10_readPart_56 rc i2 iv = some y) : Hx iv0 y := by
  replace e := am_o1_i e; obtain ⟨w5, e5, e⟩ := e
  have f5 := Hx.tr hf (H_X10_lay e5)
  replace e := am_if e; rcases e with ⟨hbr, e⟩ | ⟨hbr, e⟩
  · replace e := am_o1_i e; obtain ⟨w6, e6, e⟩ := e
    have f6 := Hx.st f5 (X_X10_stepOn e6) (by simp) (by simp)
    obtain rfl := Option.some.inj e
    exact f6
  · obtain rfl := Option.some.inj e
    exact f5
theorem h_X10_readPart {rc : Int32 → am_I → Option am_I} (hrf : ∀ {x : Int32} {iv y : am_I}, rc x iv = some y → Hx iv y) {i1 : Int32} {iv iv0 : am_I} (hf : Hx iv0 iv) {y : am_I} (e : F_X10_readPart rc i1 iv = some y) : Hx iv0 y := by
  replace e := am_if e; rcases e with ⟨hbr, e⟩ | ⟨hbr, e⟩
  · replace e := am_if e; rcases e with ⟨hbr, e⟩ | ⟨hbr, e⟩
    · replace e := am_o2_i e; obtain ⟨v8, w8, e8, e⟩ := e
      have f8 := Hx.st hf (X_X10_readNumber e8) (by simp) (by simp)
      replace e := am_o1_i e; obtain ⟨w9, e9, e⟩ := e
      have f9 := Hx.tr f8 (H_X10_lay e9)
      obtain rfl := Option.some.inj e
      exact f9
    · replace e := am_if e; rcases e with ⟨hbr, e⟩ | ⟨hbr, e⟩
      · replace e := am_o1_i e; obtain ⟨v4, e4, e⟩ := e
        replace e := am_if e; rcases e with ⟨hbr, e⟩ | ⟨hbr, e⟩
        · replace e := am_o1_i e; obtain ⟨w7, e7, e⟩ := e
          have f7 := Hx.st hf (X_X10_wrong e7) (by simp) (by simp)
          exact h_X10_readPart_56 hrf f7 e
        · exact h_X10_readPart_56 hrf hf e
      · replace e := am_o1_i e; obtain ⟨w1, e1, e⟩ := e
        have f1 := Hx.st hf (X_X10_mark e1) (by simp) (by simp)
        replace e := am_o1_i e; obtain ⟨w2, e2, e⟩ := e
        have f2 := Hx.tr f1 (hrf e2)
        replace e := am_o1_i e; obtain ⟨w3, e3, e⟩ := e
        have f3 := Hx.st f2 (X_X10_mark e3) (by simp) (by simp)
        obtain rfl := Option.some.inj e
        exact f3
  · obtain rfl := Option.some.inj e
    exact hf
theorem H_X10_readPart {rc : Int32 → am_I → Option am_I} (hrf : ∀ {x : Int32} {iv y : am_I}, rc x iv = some y → Hx iv y) {i1 : Int32} {iv iv' : am_I} (e : F_X10_readPart rc i1 iv = some iv') : Hx iv iv' := h_X10_readPart hrf (Hx.rf _) e
theorem h_X10_readProduct_39 {rc : Int32 → am_I → Option am_I} (hrf : ∀ {x : Int32} {iv y : am_I}, rc x iv = some y → Hx iv y) {i1 k0 : Int32} {iv iv0 : am_I} (hf : Hx iv0 iv) {y : (am_I) ⊕ (am_I)} (e : J_X10_readProduct_39 rc i1 k0 iv = some y) : Sum.elim (fun s : (am_I) => Hx iv0 s) (fun a : (am_I) => Hx iv0 a) y := by
  replace e := am_o1_i e; obtain ⟨w4, e4, e⟩ := e
  have f4 := Hx.st hf (X_X10_stepOn e4) (by simp) (by simp)
  replace e := am_o1_i e; obtain ⟨w5, e5, e⟩ := e
  have f5 := Hx.tr f4 (H_X10_readPart hrf e5)
  replace e := am_o1_i e; obtain ⟨w6, e6, e⟩ := e
  have f6 := Hx.tr f5 (H_X10_lay e6)
  obtain rfl := Option.some.inj e
  exact f6
theorem h_X10_readProduct_23 {rc : Int32 → am_I → Option am_I} (hrf : ∀ {x : Int32} {iv y : am_I}, rc x iv = some y → Hx iv y) {i1 : Int32} {iv iv0 : am_I} (hf : Hx iv0 iv) {y : (am_I) ⊕ (am_I)} (e : J_X10_readProduct_23 rc i1 iv = some y) : Sum.elim (fun s : (am_I) => Hx iv0 s) (fun a : (am_I) => Hx iv0 a) y := by
  replace e := am_o1_i e; obtain ⟨v3, e3, e⟩ := e
  replace e := am_if e; rcases e with ⟨hbr, e⟩ | ⟨hbr, e⟩
  · exact h_X10_readProduct_39 hrf hf e
  · exact h_X10_readProduct_39 hrf hf e
theorem hb_X10_readProduct_5 {rc : Int32 → am_I → Option am_I} (hrf : ∀ {x : Int32} {iv y : am_I}, rc x iv = some y → Hx iv y) {i1 : Int32} {iv iv0 : am_I} (hf : Hx iv0 iv) {y : (am_I) ⊕ (am_I)} (e : B_X10_readProduct_5 rc i1 iv = some y) : Sum.elim (fun s : (am_I) => Hx iv0 s) (fun a : (am_I) => Hx iv0 a) y := by
  replace e := am_o1_i e; obtain ⟨v2, e2, e⟩ := e
  replace e := am_if e; rcases e with ⟨hbr, e⟩ | ⟨hbr, e⟩
  · replace e := am_o1_i e; obtain ⟨v7, e7, e⟩ := e
    replace e := am_if e; rcases e with ⟨hbr, e⟩ | ⟨hbr, e⟩
    · obtain rfl := Option.some.inj e
      exact hf
    · exact h_X10_readProduct_23 hrf hf e
  · exact h_X10_readProduct_23 hrf hf e
theorem hl_X10_readProduct_5 {rc : Int32 → am_I → Option am_I} (hrf : ∀ {x : Int32} {iv y : am_I}, rc x iv = some y → Hx iv y) {i1 : Int32} {iv0 : am_I} (s : (am_I)) (hf : Hx iv0 s) {x : (am_I)} (e : am_loop (fun s : (am_I) => B_X10_readProduct_5 rc i1 s) s = some x) : (fun a : (am_I) => Hx iv0 a) x :=
  am_wh_fr (f := fun s : (am_I) => B_X10_readProduct_5 rc i1 s) (P := fun s => Hx iv0 s) (K := fun a : (am_I) => Hx iv0 a) (fun s y hf e => hb_X10_readProduct_5 hrf hf e) am_fu s x hf e
theorem h_X10_readProduct {rc : Int32 → am_I → Option am_I} (hrf : ∀ {x : Int32} {iv y : am_I}, rc x iv = some y → Hx iv y) {i1 : Int32} {iv iv0 : am_I} (hf : Hx iv0 iv) {y : am_I} (e : F_X10_readProduct rc i1 iv = some y) : Hx iv0 y := by
  replace e := am_o1_i e; obtain ⟨w1, e1, e⟩ := e
  have f1 := Hx.tr hf (H_X10_readPart hrf e1)
  replace e := am_o1_i e; obtain ⟨a8, e8, e⟩ := e
  have f8 := hl_X10_readProduct_5 hrf _ f1 e8
  obtain rfl := Option.some.inj e
  exact f8
theorem H_X10_readProduct {rc : Int32 → am_I → Option am_I} (hrf : ∀ {x : Int32} {iv y : am_I}, rc x iv = some y → Hx iv y) {i1 : Int32} {iv iv' : am_I} (e : F_X10_readProduct rc i1 iv = some iv') : Hx iv iv' := h_X10_readProduct hrf (Hx.rf _) e
theorem h_X10_readSum_39 {rc : Int32 → am_I → Option am_I} (hrf : ∀ {x : Int32} {iv y : am_I}, rc x iv = some y → Hx iv y) {i1 k0 : Int32} {iv iv0 : am_I} (hf : Hx iv0 iv) {y : (am_I) ⊕ (am_I)} (e : J_X10_readSum_39 rc i1 k0 iv = some y) : Sum.elim (fun s : (am_I) => Hx iv0 s) (fun a : (am_I) => Hx iv0 a) y := by
  replace e := am_o1_i e; obtain ⟨w4, e4, e⟩ := e
  have f4 := Hx.st hf (X_X10_stepOn e4) (by simp) (by simp)
  replace e := am_o1_i e; obtain ⟨w5, e5, e⟩ := e
  have f5 := Hx.tr f4 (H_X10_readProduct hrf e5)
  replace e := am_o1_i e; obtain ⟨w6, e6, e⟩ := e
  have f6 := Hx.tr f5 (H_X10_lay e6)
  obtain rfl := Option.some.inj e
  exact f6
theorem h_X10_readSum_23 {rc : Int32 → am_I → Option am_I} (hrf : ∀ {x : Int32} {iv y : am_I}, rc x iv = some y → Hx iv y) {i1 : Int32} {iv iv0 : am_I} (hf : Hx iv0 iv) {y : (am_I) ⊕ (am_I)} (e : J_X10_readSum_23 rc i1 iv = some y) : Sum.elim (fun s : (am_I) => Hx iv0 s) (fun a : (am_I) => Hx iv0 a) y := by
  replace e := am_o1_i e; obtain ⟨v3, e3, e⟩ := e
  replace e := am_if e; rcases e with ⟨hbr, e⟩ | ⟨hbr, e⟩
  · exact h_X10_readSum_39 hrf hf e
  · exact h_X10_readSum_39 hrf hf e
theorem hb_X10_readSum_5 {rc : Int32 → am_I → Option am_I} (hrf : ∀ {x : Int32} {iv y : am_I}, rc x iv = some y → Hx iv y) {i1 : Int32} {iv iv0 : am_I} (hf : Hx iv0 iv) {y : (am_I) ⊕ (am_I)} (e : B_X10_readSum_5 rc i1 iv = some y) : Sum.elim (fun s : (am_I) => Hx iv0 s) (fun a : (am_I) => Hx iv0 a) y := by
  replace e := am_o1_i e; obtain ⟨v2, e2, e⟩ := e
  replace e := am_if e; rcases e with ⟨hbr, e⟩ | ⟨hbr, e⟩
  · replace e := am_o1_i e; obtain ⟨v7, e7, e⟩ := e
    replace e := am_if e; rcases e with ⟨hbr, e⟩ | ⟨hbr, e⟩
    · obtain rfl := Option.some.inj e
      exact hf
    · exact h_X10_readSum_23 hrf hf e
  · exact h_X10_readSum_23 hrf hf e
theorem hl_X10_readSum_5 {rc : Int32 → am_I → Option am_I} (hrf : ∀ {x : Int32} {iv y : am_I}, rc x iv = some y → Hx iv y) {i1 : Int32} {iv0 : am_I} (s : (am_I)) (hf : Hx iv0 s) {x : (am_I)} (e : am_loop (fun s : (am_I) => B_X10_readSum_5 rc i1 s) s = some x) : (fun a : (am_I) => Hx iv0 a) x :=
  am_wh_fr (f := fun s : (am_I) => B_X10_readSum_5 rc i1 s) (P := fun s => Hx iv0 s) (K := fun a : (am_I) => Hx iv0 a) (fun s y hf e => hb_X10_readSum_5 hrf hf e) am_fu s x hf e
theorem h_X10_readSum {rc : Int32 → am_I → Option am_I} (hrf : ∀ {x : Int32} {iv y : am_I}, rc x iv = some y → Hx iv y) {i1 : Int32} {iv iv0 : am_I} (hf : Hx iv0 iv) {y : am_I} (e : F_X10_readSum rc i1 iv = some y) : Hx iv0 y := by
  replace e := am_o1_i e; obtain ⟨w1, e1, e⟩ := e
  have f1 := Hx.tr hf (H_X10_readProduct hrf e1)
  replace e := am_o1_i e; obtain ⟨a8, e8, e⟩ := e
  have f8 := hl_X10_readSum_5 hrf _ f1 e8
  obtain rfl := Option.some.inj e
  exact f8
theorem H_X10_readSum {rc : Int32 → am_I → Option am_I} (hrf : ∀ {x : Int32} {iv y : am_I}, rc x iv = some y → Hx iv y) {i1 : Int32} {iv iv' : am_I} (e : F_X10_readSum rc i1 iv = some iv') : Hx iv iv' := h_X10_readSum hrf (Hx.rf _) e
theorem h_X10_readNot_22 {rc : Int32 → am_I → Option am_I} (hrf : ∀ {x : Int32} {iv y : am_I}, rc x iv = some y → Hx iv y) {i1 i2 : Int32} {iv iv0 : am_I} (hf : Hx iv0 iv) {y : (Int32 × am_I) ⊕ (Int32 × am_I)} (e : J_X10_readNot_22 rc i1 i2 iv = some y) : Sum.elim (fun s : (Int32 × am_I) => Hx iv0 s.2) (fun a : (Int32 × am_I) => Hx iv0 a.2) y := by
  replace e := am_if e; rcases e with ⟨hbr, e⟩ | ⟨hbr, e⟩
  · replace e := am_o1_i e; obtain ⟨w2, e2, e⟩ := e
    have f2 := Hx.st hf (X_X10_stepOn e2) (by simp) (by simp)
    obtain rfl := Option.some.inj e
    exact f2
  · obtain rfl := Option.some.inj e
    exact hf
theorem hb_X10_readNot_2 {rc : Int32 → am_I → Option am_I} (hrf : ∀ {x : Int32} {iv y : am_I}, rc x iv = some y → Hx iv y) {i1 i2 : Int32} {iv iv0 : am_I} (hf : Hx iv0 iv) {y : (Int32 × am_I) ⊕ (Int32 × am_I)} (e : B_X10_readNot_2 rc i1 i2 iv = some y) : Sum.elim (fun s : (Int32 × am_I) => Hx iv0 s.2) (fun a : (Int32 × am_I) => Hx iv0 a.2) y := by
  replace e := am_o1_i e; obtain ⟨v1, e1, e⟩ := e
  replace e := am_if e; rcases e with ⟨hbr, e⟩ | ⟨hbr, e⟩
  · obtain rfl := Option.some.inj e
    exact hf
  · replace e := am_if e; rcases e with ⟨hbr, e⟩ | ⟨hbr, e⟩
    · replace e := am_o1_i e; obtain ⟨w3, e3, e⟩ := e
      have f3 := Hx.st hf (X_X10_wrong e3) (by simp) (by simp)
      exact h_X10_readNot_22 hrf f3 e
    · exact h_X10_readNot_22 hrf hf e
theorem hl_X10_readNot_2 {rc : Int32 → am_I → Option am_I} (hrf : ∀ {x : Int32} {iv y : am_I}, rc x iv = some y → Hx iv y) {i1 : Int32} {iv0 : am_I} (s : (Int32 × am_I)) (hf : Hx iv0 s.2) {x : (Int32 × am_I)} (e : am_loop (fun s : (Int32 × am_I) => B_X10_readNot_2 rc i1 s.1 s.2) s = some x) : (fun a : (Int32 × am_I) => Hx iv0 a.2) x :=
  am_wh_fr (f := fun s : (Int32 × am_I) => B_X10_readNot_2 rc i1 s.1 s.2) (P := fun s => Hx iv0 s.2) (K := fun a : (Int32 × am_I) => Hx iv0 a.2) (fun s y hf e => hb_X10_readNot_2 hrf hf e) am_fu s x hf e
theorem hb_X10_readNot_95 {rc : Int32 → am_I → Option am_I} (hrf : ∀ {x : Int32} {iv y : am_I}, rc x iv = some y → Hx iv y) {i2 i3 : Int32} {iv iv0 : am_I} (hf : Hx iv0 iv) {y : (Int32 × am_I) ⊕ (am_I)} (e : B_X10_readNot_95 rc i2 i3 iv = some y) : Sum.elim (fun s : (Int32 × am_I) => Hx iv0 s.2) (fun a : (am_I) => Hx iv0 a) y := by
  replace e := am_if e; rcases e with ⟨hbr, e⟩ | ⟨hbr, e⟩
  · obtain rfl := Option.some.inj e
    exact hf
  · replace e := am_o1_i e; obtain ⟨w11, e11, e⟩ := e
    have f11 := Hx.tr hf (H_X10_lay e11)
    obtain rfl := Option.some.inj e
    exact f11
theorem hl_X10_readNot_95 {rc : Int32 → am_I → Option am_I} (hrf : ∀ {x : Int32} {iv y : am_I}, rc x iv = some y → Hx iv y) {i2 : Int32} {iv0 : am_I} (s : (Int32 × am_I)) (hf : Hx iv0 s.2) {x : (am_I)} (e : am_loop (fun s : (Int32 × am_I) => B_X10_readNot_95 rc i2 s.1 s.2) s = some x) : (fun a : (am_I) => Hx iv0 a) x :=
  am_wh_fr (f := fun s : (Int32 × am_I) => B_X10_readNot_95 rc i2 s.1 s.2) (P := fun s => Hx iv0 s.2) (K := fun a : (am_I) => Hx iv0 a) (fun s y hf e => hb_X10_readNot_95 hrf hf e) am_fu s x hf e
theorem h_X10_readNot_93 {rc : Int32 → am_I → Option am_I} (hrf : ∀ {x : Int32} {iv y : am_I}, rc x iv = some y → Hx iv y) {i2 : Int32} {iv iv0 : am_I} (hf : Hx iv0 iv) {y : am_I} (e : J_X10_readNot_93 rc i2 iv = some y) : Hx iv0 y := by
  replace e := am_o1_i e; obtain ⟨a12, e12, e⟩ := e
  have f12 := hl_X10_readNot_95 hrf _ hf e12
  obtain rfl := Option.some.inj e
  exact f12
theorem h_X10_readNot_78 {rc : Int32 → am_I → Option am_I} (hrf : ∀ {x : Int32} {iv y : am_I}, rc x iv = some y → Hx iv y) {i1 i2 k0 : Int32} {iv iv0 : am_I} (hf : Hx iv0 iv) {y : am_I} (e : J_X10_readNot_78 rc i1 i2 k0 iv = some y) : Hx iv0 y := by
  replace e := am_o1_i e; obtain ⟨w8, e8, e⟩ := e
  have f8 := Hx.st hf (X_X10_stepOn e8) (by simp) (by simp)
  replace e := am_o1_i e; obtain ⟨w9, e9, e⟩ := e
  have f9 := Hx.tr f8 (H_X10_readSum hrf e9)
  replace e := am_o1_i e; obtain ⟨w10, e10, e⟩ := e
  have f10 := Hx.tr f9 (H_X10_lay e10)
  exact h_X10_readNot_93 hrf f10 e
theorem h_X10_readNot_62 {rc : Int32 → am_I → Option am_I} (hrf : ∀ {x : Int32} {iv y : am_I}, rc x iv = some y → Hx iv y) {i1 i2 : Int32} {iv iv0 : am_I} (hf : Hx iv0 iv) {y : am_I} (e : J_X10_readNot_62 rc i1 i2 iv = some y) : Hx iv0 y := by
  replace e := am_o1_i e; obtain ⟨v7, e7, e⟩ := e
  replace e := am_if e; rcases e with ⟨hbr, e⟩ | ⟨hbr, e⟩
  · exact h_X10_readNot_78 hrf hf e
  · exact h_X10_readNot_78 hrf hf e
theorem h_X10_readNot {rc : Int32 → am_I → Option am_I} (hrf : ∀ {x : Int32} {iv y : am_I}, rc x iv = some y → Hx iv y) {i1 : Int32} {iv iv0 : am_I} (hf : Hx iv0 iv) {y : am_I} (e : F_X10_readNot rc i1 iv = some y) : Hx iv0 y := by
  replace e := am_o1_i e; obtain ⟨a4, e4, e⟩ := e
  have f4 := hl_X10_readNot_2 hrf _ hf e4
  replace e := am_o1_i e; obtain ⟨w5, e5, e⟩ := e
  have f5 := Hx.tr f4 (H_X10_readSum hrf e5)
  replace e := am_o1_i e; obtain ⟨v6, e6, e⟩ := e
  replace e := am_if e; rcases e with ⟨hbr, e⟩ | ⟨hbr, e⟩
  · replace e := am_o1_i e; obtain ⟨v13, e13, e⟩ := e
    replace e := am_if e; rcases e with ⟨hbr, e⟩ | ⟨hbr, e⟩
    · exact h_X10_readNot_93 hrf f5 e
    · exact h_X10_readNot_62 hrf f5 e
  · exact h_X10_readNot_62 hrf f5 e
theorem H_X10_readNot {rc : Int32 → am_I → Option am_I} (hrf : ∀ {x : Int32} {iv y : am_I}, rc x iv = some y → Hx iv y) {i1 : Int32} {iv iv' : am_I} (e : F_X10_readNot rc i1 iv = some iv') : Hx iv iv' := h_X10_readNot hrf (Hx.rf _) e
theorem hb_X10_readAnd_5 {rc : Int32 → am_I → Option am_I} (hrf : ∀ {x : Int32} {iv y : am_I}, rc x iv = some y → Hx iv y) {i1 : Int32} {iv iv0 : am_I} (hf : Hx iv0 iv) {y : (am_I) ⊕ (am_I)} (e : B_X10_readAnd_5 rc i1 iv = some y) : Sum.elim (fun s : (am_I) => Hx iv0 s) (fun a : (am_I) => Hx iv0 a) y := by
  replace e := am_o1_i e; obtain ⟨v2, e2, e⟩ := e
  replace e := am_if e; rcases e with ⟨hbr, e⟩ | ⟨hbr, e⟩
  · obtain rfl := Option.some.inj e
    exact hf
  · replace e := am_o1_i e; obtain ⟨w3, e3, e⟩ := e
    have f3 := Hx.st hf (X_X10_stepOn e3) (by simp) (by simp)
    replace e := am_o1_i e; obtain ⟨w4, e4, e⟩ := e
    have f4 := Hx.tr f3 (H_X10_readNot hrf e4)
    replace e := am_o1_i e; obtain ⟨w5, e5, e⟩ := e
    have f5 := Hx.tr f4 (H_X10_lay e5)
    obtain rfl := Option.some.inj e
    exact f5
theorem hl_X10_readAnd_5 {rc : Int32 → am_I → Option am_I} (hrf : ∀ {x : Int32} {iv y : am_I}, rc x iv = some y → Hx iv y) {i1 : Int32} {iv0 : am_I} (s : (am_I)) (hf : Hx iv0 s) {x : (am_I)} (e : am_loop (fun s : (am_I) => B_X10_readAnd_5 rc i1 s) s = some x) : (fun a : (am_I) => Hx iv0 a) x :=
  am_wh_fr (f := fun s : (am_I) => B_X10_readAnd_5 rc i1 s) (P := fun s => Hx iv0 s) (K := fun a : (am_I) => Hx iv0 a) (fun s y hf e => hb_X10_readAnd_5 hrf hf e) am_fu s x hf e
theorem h_X10_readAnd {rc : Int32 → am_I → Option am_I} (hrf : ∀ {x : Int32} {iv y : am_I}, rc x iv = some y → Hx iv y) {i1 : Int32} {iv iv0 : am_I} (hf : Hx iv0 iv) {y : am_I} (e : F_X10_readAnd rc i1 iv = some y) : Hx iv0 y := by
  replace e := am_o1_i e; obtain ⟨w1, e1, e⟩ := e
  have f1 := Hx.tr hf (H_X10_readNot hrf e1)
  replace e := am_o1_i e; obtain ⟨a6, e6, e⟩ := e
  have f6 := hl_X10_readAnd_5 hrf _ f1 e6
  obtain rfl := Option.some.inj e
  exact f6
theorem H_X10_readAnd {rc : Int32 → am_I → Option am_I} (hrf : ∀ {x : Int32} {iv y : am_I}, rc x iv = some y → Hx iv y) {i1 : Int32} {iv iv' : am_I} (e : F_X10_readAnd rc i1 iv = some iv') : Hx iv iv' := h_X10_readAnd hrf (Hx.rf _) e
theorem hb_X10_readExpression_67 {rc : Int32 → am_I → Option am_I} (hrf : ∀ {x : Int32} {iv y : am_I}, rc x iv = some y → Hx iv y) {i1 : Int32} {iv iv0 : am_I} (hf : Hx iv0 iv) {y : (am_I) ⊕ (am_I)} (e : B_X10_readExpression_67 rc i1 iv = some y) : Sum.elim (fun s : (am_I) => Hx iv0 s) (fun a : (am_I) => Hx iv0 a) y := by
  replace e := am_o1_i e; obtain ⟨v2, e2, e⟩ := e
  replace e := am_if e; rcases e with ⟨hbr, e⟩ | ⟨hbr, e⟩
  · obtain rfl := Option.some.inj e
    exact hf
  · replace e := am_o1_i e; obtain ⟨w3, e3, e⟩ := e
    have f3 := Hx.st hf (X_X10_stepOn e3) (by simp) (by simp)
    replace e := am_o1_i e; obtain ⟨w4, e4, e⟩ := e
    have f4 := Hx.tr f3 (H_X10_readAnd hrf e4)
    replace e := am_o1_i e; obtain ⟨w5, e5, e⟩ := e
    have f5 := Hx.tr f4 (H_X10_lay e5)
    obtain rfl := Option.some.inj e
    exact f5
theorem hl_X10_readExpression_67 {rc : Int32 → am_I → Option am_I} (hrf : ∀ {x : Int32} {iv y : am_I}, rc x iv = some y → Hx iv y) {i1 : Int32} {iv0 : am_I} (s : (am_I)) (hf : Hx iv0 s) {x : (am_I)} (e : am_loop (fun s : (am_I) => B_X10_readExpression_67 rc i1 s) s = some x) : (fun a : (am_I) => Hx iv0 a) x :=
  am_wh_fr (f := fun s : (am_I) => B_X10_readExpression_67 rc i1 s) (P := fun s => Hx iv0 s) (K := fun a : (am_I) => Hx iv0 a) (fun s y hf e => hb_X10_readExpression_67 hrf hf e) am_fu s x hf e
theorem h_X10_readExpression_62 {rc : Int32 → am_I → Option am_I} (hrf : ∀ {x : Int32} {iv y : am_I}, rc x iv = some y → Hx iv y) {i1 : Int32} {iv iv0 : am_I} (hf : Hx iv0 iv) {y : am_I} (e : J_X10_readExpression_62 rc i1 iv = some y) : Hx iv0 y := by
  replace e := am_o1_i e; obtain ⟨w1, e1, e⟩ := e
  have f1 := Hx.tr hf (H_X10_readAnd hrf e1)
  replace e := am_o1_i e; obtain ⟨a6, e6, e⟩ := e
  have f6 := hl_X10_readExpression_67 hrf _ f1 e6
  obtain rfl := Option.some.inj e
  exact f6
theorem h_X10_readExpression_38 {rc : Int32 → am_I → Option am_I} (hrf : ∀ {x : Int32} {iv y : am_I}, rc x iv = some y → Hx iv y) {i1 k0 : Int32} {iv iv0 : am_I} (hf : Hx iv0 iv) {y : am_I} (e : J_X10_readExpression_38 rc i1 k0 iv = some y) : Hx iv0 y := by
  replace e := am_if e; rcases e with ⟨hbr, e⟩ | ⟨hbr, e⟩
  · replace e := am_o1_i e; obtain ⟨w8, e8, e⟩ := e
    have f8 := Hx.st hf (X_X10_wrong e8) (by simp) (by simp)
    exact h_X10_readExpression_62 hrf f8 e
  · replace e := am_if e; rcases e with ⟨hbr, e⟩ | ⟨hbr, e⟩
    · replace e := am_o1_i e; obtain ⟨w7, e7, e⟩ := e
      have f7 := Hx.st hf (X_X10_wrong e7) (by simp) (by simp)
      exact h_X10_readExpression_62 hrf f7 e
    · exact h_X10_readExpression_62 hrf hf e
theorem h_X10_readExpression_33 {rc : Int32 → am_I → Option am_I} (hrf : ∀ {x : Int32} {iv y : am_I}, rc x iv = some y → Hx iv y) {i1 : Int32} {iv iv0 : am_I} (hf : Hx iv0 iv) {y : am_I} (e : J_X10_readExpression_33 rc i1 iv = some y) : Hx iv0 y := by
  exact h_X10_readExpression_38 hrf hf e
theorem h_X10_readExpression {rc : Int32 → am_I → Option am_I} (hrf : ∀ {x : Int32} {iv y : am_I}, rc x iv = some y → Hx iv y) {i1 : Int32} {iv iv0 : am_I} (hf : Hx iv0 iv) {y : am_I} (e : G_X10_readExpression rc i1 iv = some y) : Hx iv0 y := by
  replace e := am_if e; rcases e with ⟨hbr, e⟩ | ⟨hbr, e⟩
  · replace e := am_if e; rcases e with ⟨hbr, e⟩ | ⟨hbr, e⟩
    · exact h_X10_readExpression_33 hrf hf e
    · replace e := am_if e; rcases e with ⟨hbr, e⟩ | ⟨hbr, e⟩
      · exact h_X10_readExpression_33 hrf hf e
      · replace e := am_o1_i e; obtain ⟨v9, e9, e⟩ := e
        replace e := am_if e; rcases e with ⟨hbr, e⟩ | ⟨hbr, e⟩
        · exact h_X10_readExpression_38 hrf hf e
        · exact h_X10_readExpression_33 hrf hf e
  · obtain rfl := Option.some.inj e
    exact hf
theorem Hq_X10_readExpression {rc : Int32 → am_I → Option am_I} (hrf : ∀ {x : Int32} {iv y : am_I}, rc x iv = some y → Hx iv y) {i1 : Int32} {iv iv' : am_I} (e : G_X10_readExpression rc i1 iv = some iv') : Hx iv iv' := h_X10_readExpression hrf (Hx.rf _) e
theorem HF_X10_readExpression : ∀ (fu : Nat) {x : Int32} {iv y : am_I}, F_X10_readExpression fu x iv = some y → Hx iv y
  | 0, _, _, _, e => by cases e
  | fu + 1, _, _, _, e => h_X10_readExpression (rc := F_X10_readExpression fu) (HF_X10_readExpression fu) (Hx.rf _) e
theorem H_X10_readExpression {x : Int32} {iv y : am_I} (e : F_X10_readExpression 10 x iv = some y) : Hx iv y := HF_X10_readExpression 10 e
