/-! each call on both sides: one contract -/
/-- what stands between calls -/
def IV (S : am_S) (iv : am_I) (nf : Nat) : Prop := ∃ w v fd sn ns pp np c ρ, SR S w v fd nf sn ns pp np ∧ Rel w pp np iv c ρ ∧ zz iv
def mx (nf M : Nat) : Nat := if nf < M then M else nf
theorem mx0 (nf : Nat) : nf = mx nf 0 := by unfold mx; rw [if_neg (by omega)]
def RI (r : Int32) : am_O := .inl (some (.int r))
def RV (_ : Int32) : am_O := .inl none
/-- thrown, and the model says so; or both answer r -/
def PO (X : String) (ro : Int32 → am_O) (fm : am_I → Option (Int32 × am_I)) (nf : Nat) (o : am_O) (S : am_S) (iv : am_I) : Prop := (o = .inr X ∧ ∃ y iv2, fm iv = some (y, iv2) ∧ iv2 54 3 = 1 ∧ IV S iv2 nf) ∨ ∃ r iv2, o = ro r ∧ fm iv = some (r, iv2) ∧ iv2 54 3 = 0 ∧ IV S iv2 nf
/-- both answer r -/
def PN (ro : Int32 → am_O) (fm : am_I → Option (Int32 × am_I)) (nf : Nat) (o : am_O) (S : am_S) (iv : am_I) : Prop := ∃ r iv2, o = ro r ∧ fm iv = some (r, iv2) ∧ IV S iv2 nf
def CC (E : am_E) (d : Nat) (M : am_Me) (as : List Value) (P : Nat → am_O → am_S → am_I → Prop) (S : am_S) (iv : am_I) (nf : Nat) : Prop := ∃ MM nf' k' n', (MM = 0 ∨ ∃ b, b ≤ 15 ∧ MM = 2 ^ b) ∧ nf' = mx nf MM ∧ k' ≤ 12 ∧ n' ≤ 6190 + sct nf MM ∧ ∀ Q : am_O → am_S → am_I → Prop, (∀ o' S' iv', P nf' o' S' iv' → Q o' S' iv') → am_M E d M k' n' as S iv Q
theorem wv_n {iv : am_I} {q : Option (Option Int32)} (h : wv iv q = some none) : q = some none := by
  cases q with
  | none => cases h
  | some a =>
    cases a with
    | none => rfl
    | some v => cases h
theorem wv_s {iv iv1 : am_I} {q : Option (Option Int32)} {r : Int32} (h : wv iv q = some (some (r, iv1))) : q = some (some r) ∧ iv1 = iv := by
  cases q with
  | none => cases h
  | some a =>
    cases a with
    | none => cases h
    | some v => cases h; exact ⟨rfl, rfl⟩
theorem zz.fr {iv iv' : am_I} {A : List Nat} {L : List (Nat × Nat)} (h : zz iv) (f : am_fr A L iv iv') (hA : 17 ∉ A ∧ 37 ∉ A) (hL : (17, 0) ∉ L ∧ (37, 0) ∉ L) : zz iv' := ⟨by rw [f 17 0 hA.1 hL.1]; exact h.1, by rw [f 37 0 hA.2 hL.2]; exact h.2⟩
section B96
variable {E : am_E} {S : am_S} {iv : am_I} {nf d : Nat}
theorem IV.ext {S' : am_S} (h : IV S iv nf) (e : ext S S') : IV S' iv nf := by
  obtain ⟨w, v, fd, sn, ns, pp, np, c, ρ, hS, hR, hz⟩ := h
  exact ⟨w, v, fd, sn, ns, pp, np, c, ρ, hS.ext e, hR, hz⟩

theorem CC_count (h : IV S iv nf) (x : Int32) : CC E (d + 900) mX9_count [.ref 0, .int x] (PO "java/util/NoSuchElementException" RI (F_X10_count x)) S iv nf := by
  obtain ⟨w, v, fd, sn, ns, pp, np, c, ρ, hS, hR, hz⟩ := h
  have hww : w = 2 ∨ w = 22 := by have := hS.2.2.2.2.1; omega
  have hpp : adr pp := hS.2.2.2.2.2.1.2.2

  refine ⟨0, nf, 1, 6, Or.inl rfl, mx0 nf, by omega, by omega, fun Q hQ => ?_⟩
  rcases C_count hR hww hpp x with ⟨e, y', iv2, e2, e3, hR2⟩ | ⟨r, iv1, iv2, e, e2, e3, hR2⟩
  · exact R_X9_count hS.1 hww hS.2.1.1 (wv_n e) (fun nx hnx => hQ _ _ _ (Or.inl ⟨rfl, y', iv2, e2, e3, w, v, fd, sn, ns, pp, np, c, ρ, hS.ext (ext.nx hnx), hR2, hz.fr (X_X10_count e2) (by simp) (by simp)⟩)) (by omega)
  · obtain ⟨e', rfl⟩ := wv_s e
    exact R_X9_count hS.1 hww hS.2.1.1 e' (hQ _ _ _ (Or.inr ⟨r, iv2, rfl, e2, e3, w, v, fd, sn, ns, pp, np, c, ρ, hS, hR2, hz.fr (X_X10_count e2) (by simp) (by simp)⟩)) (by omega)

theorem CC_person (h : IV S iv nf) (x y : Int32) : CC E (d + 900) mX9_person [.ref 0, .int x, .int y] (PO "java/util/NoSuchElementException" RI (F_X10_person x y)) S iv nf := by
  obtain ⟨w, v, fd, sn, ns, pp, np, c, ρ, hS, hR, hz⟩ := h
  have hww : w = 2 ∨ w = 22 := by have := hS.2.2.2.2.1; omega
  have hpp : adr pp := hS.2.2.2.2.2.1.2.2

  refine ⟨0, nf, 2, 12, Or.inl rfl, mx0 nf, by omega, by omega, fun Q hQ => ?_⟩
  rcases C_person hR hww hpp x y with ⟨e, y', iv2, e2, e3, hR2⟩ | ⟨r, iv1, iv2, e, e2, e3, hR2⟩
  · exact R_X9_person hS.1 hww hS.2.1.1 (wv_n e) (fun nx hnx => hQ _ _ _ (Or.inl ⟨rfl, y', iv2, e2, e3, w, v, fd, sn, ns, pp, np, c, ρ, hS.ext (ext.nx hnx), hR2, hz.fr (X_X10_person e2) (by simp) (by simp)⟩)) (by omega)
  · obtain ⟨e', rfl⟩ := wv_s e
    exact R_X9_person hS.1 hww hS.2.1.1 e' (hQ _ _ _ (Or.inr ⟨r, iv2, rfl, e2, e3, w, v, fd, sn, ns, pp, np, c, ρ, hS, hR2, hz.fr (X_X10_person e2) (by simp) (by simp)⟩)) (by omega)

theorem CC_who (h : IV S iv nf) (x : Int32) : CC E (d + 900) mX9_who [.ref 0, .int x] (PO "java/util/NoSuchElementException" RI (F_X10_who x)) S iv nf := by
  obtain ⟨w, v, fd, sn, ns, pp, np, c, ρ, hS, hR, hz⟩ := h
  have hww : w = 2 ∨ w = 22 := by have := hS.2.2.2.2.1; omega
  have hpp : adr pp := hS.2.2.2.2.2.1.2.2

  refine ⟨0, nf, 1, 6, Or.inl rfl, mx0 nf, by omega, by omega, fun Q hQ => ?_⟩
  rcases C_who hR hww hpp x with ⟨e, y', iv2, e2, e3, hR2⟩ | ⟨r, iv1, iv2, e, e2, e3, hR2⟩
  · exact R_X9_who hS.1 hww hS.2.1.1 (wv_n e) (fun nx hnx => hQ _ _ _ (Or.inl ⟨rfl, y', iv2, e2, e3, w, v, fd, sn, ns, pp, np, c, ρ, hS.ext (ext.nx hnx), hR2, hz.fr (X_X10_who e2) (by simp) (by simp)⟩)) (by omega)
  · obtain ⟨e', rfl⟩ := wv_s e
    exact R_X9_who hS.1 hww hS.2.1.1 e' (hQ _ _ _ (Or.inr ⟨r, iv2, rfl, e2, e3, w, v, fd, sn, ns, pp, np, c, ρ, hS, hR2, hz.fr (X_X10_who e2) (by simp) (by simp)⟩)) (by omega)

theorem CC_odds (h : IV S iv nf) (x y z : Int32) : CC E (d + 900) mX9_odds [.ref 0, .int x, .int y, .int z] (PO "java/util/NoSuchElementException" RI (F_X10_odds x y z)) S iv nf := by
  obtain ⟨w, v, fd, sn, ns, pp, np, c, ρ, hS, hR, hz⟩ := h
  have hww : w = 2 ∨ w = 22 := by have := hS.2.2.2.2.1; omega
  have hpp : adr pp := hS.2.2.2.2.2.1.2.2

  refine ⟨0, nf, 3, 18, Or.inl rfl, mx0 nf, by omega, by omega, fun Q hQ => ?_⟩
  rcases C_odds hR hww hpp x y z with ⟨e, y', iv2, e2, e3, hR2⟩ | ⟨r, iv1, iv2, e, e2, e3, hR2⟩
  · exact R_X9_odds hS.1 hww hS.2.1.1 (wv_n e) (fun nx hnx => hQ _ _ _ (Or.inl ⟨rfl, y', iv2, e2, e3, w, v, fd, sn, ns, pp, np, c, ρ, hS.ext (ext.nx hnx), hR2, hz.fr (X_X10_odds e2) (by simp) (by simp)⟩)) (by omega)
  · obtain ⟨e', rfl⟩ := wv_s e
    exact R_X9_odds hS.1 hww hS.2.1.1 e' (hQ _ _ _ (Or.inr ⟨r, iv2, rfl, e2, e3, w, v, fd, sn, ns, pp, np, c, ρ, hS, hR2, hz.fr (X_X10_odds e2) (by simp) (by simp)⟩)) (by omega)

theorem CC_row (h : IV S iv nf) (x : Int32) : CC E (d + 900) mX9_row [.ref 0, .int x] (PO "java/util/NoSuchElementException" RI (F_X10_row x)) S iv nf := by
  obtain ⟨w, v, fd, sn, ns, pp, np, c, ρ, hS, hR, hz⟩ := h
  have hww : w = 2 ∨ w = 22 := by have := hS.2.2.2.2.1; omega
  have hpp : adr pp := hS.2.2.2.2.2.1.2.2

  refine ⟨0, nf, 1, 6, Or.inl rfl, mx0 nf, by omega, by omega, fun Q hQ => ?_⟩
  rcases C_row hR hww hpp (by have := hS.2.2.2.2.2.2.2.2.2.2.2.1; omega) x with ⟨e, y', iv2, e2, e3, hR2⟩ | ⟨r, iv1, iv2, e, e2, e3, hR2⟩
  · exact R_X9_row hS.1 hww hS.2.1.1 hS.2.2.2.1 (wv_n e) (fun nx hnx => hQ _ _ _ (Or.inl ⟨rfl, y', iv2, e2, e3, w, v, fd, sn, ns, pp, np, c, ρ, hS.ext (ext.nx hnx), hR2, hz.fr (X_X10_row e2) (by simp) (by simp)⟩)) (by omega)
  · obtain ⟨e', rfl⟩ := wv_s e
    exact R_X9_row hS.1 hww hS.2.1.1 hS.2.2.2.1 e' (hQ _ _ _ (Or.inr ⟨r, iv2, rfl, e2, e3, w, v, fd, sn, ns, pp, np, c, ρ, hS, hR2, hz.fr (X_X10_row e2) (by simp) (by simp)⟩)) (by omega)

theorem CC_drawer (h : IV S iv nf) (x y : Int32) : CC E (d + 900) mX9_drawer [.ref 0, .int x, .int y] (PO "java/util/NoSuchElementException" RI (F_X10_drawer x y)) S iv nf := by
  obtain ⟨w, v, fd, sn, ns, pp, np, c, ρ, hS, hR, hz⟩ := h
  have hww : w = 2 ∨ w = 22 := by have := hS.2.2.2.2.1; omega
  have hpp : adr pp := hS.2.2.2.2.2.1.2.2

  refine ⟨0, nf, 2, 12, Or.inl rfl, mx0 nf, by omega, by omega, fun Q hQ => ?_⟩
  rcases C_drawer hR hww hpp x y with ⟨e, y', iv2, e2, e3, hR2⟩ | ⟨r, iv1, iv2, e, e2, e3, hR2⟩
  · exact R_X9_drawer hS.1 hww hS.2.1.1 e (fun nx hnx => hQ _ _ _ (Or.inl ⟨rfl, y', iv2, e2, e3, w, v, fd, sn, ns, pp, np, c, ρ, hS.ext (ext.nx hnx), hR2, hz.fr (X_X10_drawer e2) (by simp) (by simp)⟩)) (by omega)
  · have hz1 : zz iv1 := (hz.fr (X_X9_drawer e) (by simp; omega) (by simp))
    exact R_X9_drawer hS.1 hww hS.2.1.1 e (hQ _ _ _ (Or.inr ⟨r, iv2, rfl, e2, e3, w, v, fd, sn, ns, pp, np, c, ρ, hS, hR2, hz1.fr (X_X10_drawer e2) (by simp) (by simp)⟩)) (by omega)

theorem CC_may (h : IV S iv nf) (x : Int32) : CC E (d + 900) mX9_may [.ref 0, .int x] (PO "java/lang/IllegalArgumentException" RI (F_X10_may x)) S iv nf := by
  obtain ⟨w, v, fd, sn, ns, pp, np, c, ρ, hS, hR, hz⟩ := h
  have hww : w = 2 ∨ w = 22 := by have := hS.2.2.2.2.1; omega
  have hpp : adr pp := hS.2.2.2.2.2.1.2.2

  refine ⟨0, nf, 1, 6, Or.inl rfl, mx0 nf, by omega, by omega, fun Q hQ => ?_⟩
  rcases C_may hR hww hpp x with ⟨e, y', iv2, e2, e3, hR2⟩ | ⟨r, iv1, iv2, e, e2, e3, hR2⟩
  · exact R_X9_may hS.1 hww hS.2.1.1 e (fun nx hnx => hQ _ _ _ (Or.inl ⟨rfl, y', iv2, e2, e3, w, v, fd, sn, ns, pp, np, c, ρ, hS.ext (ext.nx hnx), hR2, hz.fr (X_X10_may e2) (by simp) (by simp)⟩)) (by omega)
  · have hz1 : zz iv1 := (hz.fr (X_X9_may e) (by simp; omega) (by simp))
    exact R_X9_may hS.1 hww hS.2.1.1 e (hQ _ _ _ (Or.inr ⟨r, iv2, rfl, e2, e3, w, v, fd, sn, ns, pp, np, c, ρ, hS, hR2, hz1.fr (X_X10_may e2) (by simp) (by simp)⟩)) (by omega)

theorem CC_broken (h : IV S iv nf) (x : Int32) : CC E (d + 900) mX9_broken [.ref 0, .int x] (PO "java/lang/IllegalArgumentException" RI (F_X10_broken x)) S iv nf := by
  obtain ⟨w, v, fd, sn, ns, pp, np, c, ρ, hS, hR, hz⟩ := h
  have hww : w = 2 ∨ w = 22 := by have := hS.2.2.2.2.1; omega
  have hpp : adr pp := hS.2.2.2.2.2.1.2.2

  refine ⟨0, nf, 1, 6, Or.inl rfl, mx0 nf, by omega, by omega, fun Q hQ => ?_⟩
  rcases C_broken hR hww hpp x with ⟨e, y', iv2, e2, e3, hR2⟩ | ⟨r, iv1, iv2, e, e2, e3, hR2⟩
  · exact R_X9_broken hS.1 hww hS.2.1.1 e (fun nx hnx => hQ _ _ _ (Or.inl ⟨rfl, y', iv2, e2, e3, w, v, fd, sn, ns, pp, np, c, ρ, hS.ext (ext.nx hnx), hR2, hz.fr (X_X10_broken e2) (by simp) (by simp)⟩)) (by omega)
  · have hz1 : zz iv1 := (hz.fr (X_X9_broken e) (by simp; omega) (by simp))
    exact R_X9_broken hS.1 hww hS.2.1.1 e (hQ _ _ _ (Or.inr ⟨r, iv2, rfl, e2, e3, w, v, fd, sn, ns, pp, np, c, ρ, hS, hR2, hz1.fr (X_X10_broken e2) (by simp) (by simp)⟩)) (by omega)

theorem CC_wind (h : IV S iv nf) (x y : Int32) : CC E (d + 900) mX9_wind [.ref 0, .int x, .int y] (PO "java/lang/IllegalArgumentException" RI (F_X10_wind x y)) S iv nf := by
  obtain ⟨w, v, fd, sn, ns, pp, np, c, ρ, hS, hR, hz⟩ := h
  have hww : w = 2 ∨ w = 22 := by have := hS.2.2.2.2.1; omega
  have hpp : adr pp := hS.2.2.2.2.2.1.2.2

  refine ⟨0, nf, 1, 6, Or.inl rfl, mx0 nf, by omega, by omega, fun Q hQ => ?_⟩
  rcases C_wind hR hww hpp x y with ⟨e, y', iv2, e2, e3, hR2⟩ | ⟨r, iv1, iv2, e, e2, e3, hR2⟩
  · exact R_X9_wind hS.1 hww hS.2.1.1 e (fun nx hnx => hQ _ _ _ (Or.inl ⟨rfl, y', iv2, e2, e3, w, v, fd, sn, ns, pp, np, c, ρ, hS.ext (ext.nx hnx), hR2, hz.fr (X_X10_wind e2) (by simp) (by simp)⟩)) (by omega)
  · have hz1 : zz iv1 := (hz.fr (X_X9_wind e) (by simp) (by simp))
    exact R_X9_wind hS.1 hww hS.2.1.1 e (hQ _ _ _ (Or.inr ⟨r, iv2, rfl, e2, e3, w, v, fd, sn, ns, pp, np, c, ρ, hS, hR2, hz1.fr (X_X10_wind e2) (by simp) (by simp)⟩)) (by omega)

theorem CC_sleeps (h : IV S iv nf) (x y : Int32) : CC E (d + 900) mX9_sleeps [.ref 0, .int x, .int y] (PO "java/util/NoSuchElementException" RV (fun i => (F_X10_sleeps x y i).map fun z => (0, z))) S iv nf := by
  obtain ⟨w, v, fd, sn, ns, pp, np, c, ρ, hS, hR, hz⟩ := h
  have hww : w = 2 ∨ w = 22 := by have := hS.2.2.2.2.1; omega
  have hpp : adr pp := hS.2.2.2.2.2.1.2.2
  refine ⟨0, nf, 1, 6, Or.inl rfl, mx0 nf, by omega, by omega, fun Q hQ => ?_⟩
  rcases C_sleeps hR hww hpp x y with ⟨e, iv2, e2, e3, hR2⟩ | ⟨iv1, iv2, e, e2, e3, hR2⟩
  · exact R_X9_sleeps hS.1 hww hS.2.1.1 e (fun nx hnx => hQ _ _ _ (Or.inl ⟨rfl, 0, iv2, by simp only [e2]; rfl, e3, w, v, fd, sn, ns, pp, np, c, ρ, hS.ext (ext.nx hnx), hR2, hz.fr (X_X10_sleeps e2) (by simp) (by simp)⟩)) (by omega)
  · have hz1 : zz iv1 := hz.fr (X_X9_sleeps e) (by simp) (by simp)
    exact R_X9_sleeps hS.1 hww hS.2.1.1 e (hQ _ _ _ (Or.inr ⟨0, iv2, rfl, by simp only [e2]; rfl, e3, w, v, fd, sn, ns, pp, np, c, ρ, hS, hR2, hz1.fr (X_X10_sleeps e2) (by simp) (by simp)⟩)) (by omega)

theorem CC_fault (h : IV S iv nf) : CC E (d + 900) mX9_fault [.ref 0] (PN RI F_X10_fault) S iv nf := by
  obtain ⟨w, v, fd, sn, ns, pp, np, c, ρ, hS, hR, hz⟩ := h
  have hww : w = 2 ∨ w = 22 := by have := hS.2.2.2.2.1; omega
  have hpp : adr pp := hS.2.2.2.2.2.1.2.2
  obtain ⟨r, iv2, e, e2, hR2⟩ := C_fault hR hww hpp
  refine ⟨0, nf, 0, 0, Or.inl rfl, mx0 nf, by omega, by omega, fun Q hQ => ?_⟩
  exact R_X9_fault hS.1 hww hS.2.1.1 e (hQ _ _ _ ⟨r, iv2, rfl, e2, w, v, fd, sn, ns, pp, np, c, ρ, hS, hR2, hz.fr (X_X10_fault e2) (by simp) (by simp)⟩) (by omega)

theorem CC_rent (h : IV S iv nf) : CC E (d + 900) mX9_rent [.ref 0] (PN RI F_X10_rent) S iv nf := by
  obtain ⟨w, v, fd, sn, ns, pp, np, c, ρ, hS, hR, hz⟩ := h
  have hww : w = 2 ∨ w = 22 := by have := hS.2.2.2.2.1; omega
  have hpp : adr pp := hS.2.2.2.2.2.1.2.2
  obtain ⟨r, iv2, e, e2, hR2⟩ := C_rent hR hww hpp
  refine ⟨0, nf, 0, 0, Or.inl rfl, mx0 nf, by omega, by omega, fun Q hQ => ?_⟩
  exact R_X9_rent hS.1 hww hS.2.1.1 e (hQ _ _ _ ⟨r, iv2, rfl, e2, w, v, fd, sn, ns, pp, np, c, ρ, hS, hR2, hz.fr (X_X10_rent e2) (by simp) (by simp)⟩) (by omega)

theorem CC_feed (h : IV S iv nf) (x y z p q : Int32) : CC E (d + 900) mX9_feed [.ref 0, .int x, .int y, .int z, .int p, .int q] (PN RI (F_X10_feed x y z p q)) S iv nf := by
  obtain ⟨w, v, fd, sn, ns, pp, np, c, ρ, hS, hR, hz⟩ := h
  have hww : w = 2 ∨ w = 22 := by have := hS.2.2.2.2.1; omega
  have hpp : adr pp := hS.2.2.2.2.2.1.2.2
  obtain ⟨r, iv1, iv2, e, e2, hR2⟩ := C_feed hR hww hpp x y z p q
  have hz1 : zz iv1 := hz.fr (X_X9_feed e) (by simp) (by simp)
  refine ⟨0, nf, 0, 0, Or.inl rfl, mx0 nf, by omega, by omega, fun Q hQ => ?_⟩
  exact R_X9_feed hS.1 hww hS.2.1.1 e (hQ _ _ _ ⟨r, iv2, rfl, e2, w, v, fd, sn, ns, pp, np, c, ρ, hS, hR2, hz1.fr (X_X10_feed e2) (by simp) (by simp)⟩) (by omega)

theorem CC_move (h : IV S iv nf) (x : Int32) : CC E (d + 900) mX9_move [.ref 0, .int x] (PN RI (F_X10_move x)) S iv nf := by
  obtain ⟨w, v, fd, sn, ns, pp, np, c, ρ, hS, hR, hz⟩ := h
  have hww : w = 2 ∨ w = 22 := by have := hS.2.2.2.2.1; omega
  have hpp : adr pp := hS.2.2.2.2.2.1.2.2
  obtain ⟨r, iv1, iv2, e, e2, hR2⟩ := C_move hR hww hpp x
  have hz1 : zz iv1 := hz.fr (X_X9_move e) (by simp; omega) (by simp)
  refine ⟨0, nf, 0, 0, Or.inl rfl, mx0 nf, by omega, by omega, fun Q hQ => ?_⟩
  exact R_X9_move hS.1 hww hS.2.1.1 e (hQ _ _ _ ⟨r, iv2, rfl, e2, w, v, fd, sn, ns, pp, np, c, ρ, hS, hR2, hz1.fr (X_X10_move e2) (by simp) (by simp)⟩) (by omega)

theorem CC_undo (h : IV S iv nf) : CC E (d + 900) mX9_undo [.ref 0] (PN RI F_X10_undo) S iv nf := by
  obtain ⟨w, v, fd, sn, ns, pp, np, c, ρ, hS, hR, hz⟩ := h
  have hww : w = 2 ∨ w = 22 := by have := hS.2.2.2.2.1; omega
  have hpp : adr pp := hS.2.2.2.2.2.1.2.2
  obtain ⟨r, iv1, iv2, e, e2, hR2⟩ := C_undo hR hww hpp 
  have hz1 : zz iv1 := hz.fr (X_X9_undo e) (by simp) (by simp)
  refine ⟨0, nf, 0, 0, Or.inl rfl, mx0 nf, by omega, by omega, fun Q hQ => ?_⟩
  exact R_X9_undo hS.1 hww hS.2.1.1 e (hQ _ _ _ ⟨r, iv2, rfl, e2, w, v, fd, sn, ns, pp, np, c, ρ, hS, hR2, hz1.fr (X_X10_undo e2) (by simp) (by simp)⟩) (by omega)

theorem CC_restore (h : IV S iv nf) : CC E (d + 900) mX9_restore [.ref 0] (PN RI F_X10_restore) S iv nf := by
  obtain ⟨w, v, fd, sn, ns, pp, np, c, ρ, hS, hR, hz⟩ := h
  have hww : w = 2 ∨ w = 22 := by have := hS.2.2.2.2.1; omega
  have hpp : adr pp := hS.2.2.2.2.2.1.2.2
  obtain ⟨r, iv1, iv2, e, e2, hR2⟩ := C_restore hR hww hpp 
  have hz1 : zz iv1 := hz.fr (X_X9_restore e) (by simp) (by simp)
  refine ⟨0, nf, 0, 0, Or.inl rfl, mx0 nf, by omega, by omega, fun Q hQ => ?_⟩
  exact R_X9_restore hS.1 hww hS.2.1.1 e (hQ _ _ _ ⟨r, iv2, rfl, e2, w, v, fd, sn, ns, pp, np, c, ρ, hS, hR2, hz1.fr (X_X10_restore e2) (by simp) (by simp)⟩) (by omega)

theorem CC_image (h : IV S iv nf) : CC E (d + 900) mX9_image [.ref 0] (PN RV (fun i => (F_X10_image i).map fun z => (0, z))) S iv nf := by
  obtain ⟨w, v, fd, sn, ns, pp, np, c, ρ, hS, hR, hz⟩ := h
  have hww : w = 2 ∨ w = 22 := by have := hS.2.2.2.2.1; omega
  have hpp : adr pp := hS.2.2.2.2.2.1.2.2
  obtain ⟨iv1, iv2, e, e2, hR2⟩ := C_image hR hww hpp
  have hz1 : zz iv1 := hz.fr (X_X9_image e) (by simp) (by simp)
  refine ⟨0, nf, 0, 0, Or.inl rfl, mx0 nf, by omega, by omega, fun Q hQ => ?_⟩
  exact R_X9_image hS.1 hww hS.2.1.1 e (hQ _ _ _ ⟨0, iv2, rfl, by simp only [e2]; rfl, w, v, fd, sn, ns, pp, np, c, ρ, hS, hR2, hz1.fr (X_X10_image e2) (by simp) (by simp)⟩) (by omega)

theorem M_opensT {Q : am_O → am_S → am_I → Prop} {w v fd sn ns pp np : Nat} {c : Nat → Nat → Nat} {ρ : ru_T} {x : Int32} (h : SR S w v fd nf sn ns pp np) (hR : Rel w pp np iv c ρ) (hx : xin x (cy_n c) = false) (hT : ∀ nx, S.2.2.2 ≤ nx → Q (.inr "java/util/NoSuchElementException") (S.1, S.2.1, S.2.2.1, nx) iv) : am_M E (d + 10) mX9_opens 1 6 [.ref 0, .int x] S iv Q := by
  have hL := h.1
  have hww : w = 2 ∨ w = 22 := by have := h.2.2.2.2.1; omega
  have h00 : S.1 0 = some (.inl 9) := hL.1 _ _ rfl
  refine am_enter (js := []) rfl pn_X9 rfl rfl rfl (Nat.le_of_ble_eq_true rfl) ?_
  refine sX9_opens_0 rfl (sX9_opens_1 (sX9_opens_2_k (k' := 1) (k := 0) (n' := 6) (n := 0) h00 (Nat.le_of_ble_eq_true rfl) (R_X9_demandDrawer hL hww h.2.1.1 (K_demandDrawer hR.2.1.1.1) ?_ (by omega))))
  rw [hx]
  exact fun nx hnx => am_Tout rfl (hT nx hnx)
theorem P_opensT {w pp np : Nat} {c : Nat → Nat → Nat} {ρ : ru_T} {x : Int32} (hR : Rel w pp np iv c ρ) (hw : w = 2 ∨ w = 22) (hp : adr pp) (hx : xin x (cy_n c) = false) : ∃ y iv2, F_X10_opens x iv = some (y, iv2) ∧ iv2 54 3 = 1 ∧ Rel w pp np iv2 c ρ := by
  have hR1 := hR.code hw hp 0
  refine ⟨0, am_w (am_w iv 54 3 0) 54 3 1, ?_, am_code0 _, hR1.code hw hp 1⟩
  unfold F_X10_opens
  rw [P_isDrawer hR1.1.2.2.1 hR.1.1, hx, am_o1_s, if_pos (show am_bi false = 0 from rfl)]
  rfl

theorem M_shutsT {Q : am_O → am_S → am_I → Prop} {w v fd sn ns pp np : Nat} {c : Nat → Nat → Nat} {ρ : ru_T} {x : Int32} (h : SR S w v fd nf sn ns pp np) (hR : Rel w pp np iv c ρ) (hx : xin x (cy_n c) = false) (hT : ∀ nx, S.2.2.2 ≤ nx → Q (.inr "java/util/NoSuchElementException") (S.1, S.2.1, S.2.2.1, nx) iv) : am_M E (d + 10) mX9_shuts 1 6 [.ref 0, .int x] S iv Q := by
  have hL := h.1
  have hww : w = 2 ∨ w = 22 := by have := h.2.2.2.2.1; omega
  have h00 : S.1 0 = some (.inl 9) := hL.1 _ _ rfl
  refine am_enter (js := []) rfl pn_X9 rfl rfl rfl (Nat.le_of_ble_eq_true rfl) ?_
  refine sX9_shuts_0 rfl (sX9_shuts_1 (sX9_shuts_2_k (k' := 1) (k := 0) (n' := 6) (n := 0) h00 (Nat.le_of_ble_eq_true rfl) (R_X9_demandDrawer hL hww h.2.1.1 (K_demandDrawer hR.2.1.1.1) ?_ (by omega))))
  rw [hx]
  exact fun nx hnx => am_Tout rfl (hT nx hnx)
theorem P_shutsT {w pp np : Nat} {c : Nat → Nat → Nat} {ρ : ru_T} {x : Int32} (hR : Rel w pp np iv c ρ) (hw : w = 2 ∨ w = 22) (hp : adr pp) (hx : xin x (cy_n c) = false) : ∃ y iv2, F_X10_shuts x iv = some (y, iv2) ∧ iv2 54 3 = 1 ∧ Rel w pp np iv2 c ρ := by
  have hR1 := hR.code hw hp 0
  refine ⟨0, am_w (am_w iv 54 3 0) 54 3 1, ?_, am_code0 _, hR1.code hw hp 1⟩
  unfold F_X10_shuts
  rw [P_isDrawer hR1.1.2.2.1 hR.1.1, hx, am_o1_s, if_pos (show am_bi false = 0 from rfl)]
  rfl

theorem M_harmT {Q : am_O → am_S → am_I → Prop} {w v fd sn ns pp np : Nat} {c : Nat → Nat → Nat} {ρ : ru_T} {x : Int32} (h : SR S w v fd nf sn ns pp np) (hR : Rel w pp np iv c ρ) (hx : xin x (cy_n c) = false) (hT : ∀ nx, S.2.2.2 ≤ nx → Q (.inr "java/util/NoSuchElementException") (S.1, S.2.1, S.2.2.1, nx) iv) : am_M E (d + 10) mX9_harm 1 6 [.ref 0, .int x] S iv Q := by
  have hL := h.1
  have hww : w = 2 ∨ w = 22 := by have := h.2.2.2.2.1; omega
  have h00 : S.1 0 = some (.inl 9) := hL.1 _ _ rfl
  refine am_enter (js := [.double 0, .double 0, .double 0]) rfl pn_X9 rfl rfl rfl (Nat.le_of_ble_eq_true rfl) ?_
  refine sX9_harm_0 rfl (sX9_harm_1 (sX9_harm_2_k (k' := 1) (k := 0) (n' := 6) (n := 0) h00 (Nat.le_of_ble_eq_true rfl) (R_X9_demandDrawer hL hww h.2.1.1 (K_demandDrawer hR.2.1.1.1) ?_ (by omega))))
  rw [hx]
  exact fun nx hnx => am_Tout rfl (hT nx hnx)
theorem P_harmT {w pp np : Nat} {c : Nat → Nat → Nat} {ρ : ru_T} {x : Int32} (hR : Rel w pp np iv c ρ) (hw : w = 2 ∨ w = 22) (hp : adr pp) (hx : xin x (cy_n c) = false) : ∃ y iv2, F_X10_harm x iv = some (y, iv2) ∧ iv2 54 3 = 1 ∧ Rel w pp np iv2 c ρ := by
  have hR1 := hR.code hw hp 0
  refine ⟨0, am_w (am_w iv 54 3 0) 54 3 1, ?_, am_code0 _, hR1.code hw hp 1⟩
  unfold F_X10_harm
  rw [P_isDrawer hR1.1.2.2.1 hR.1.1, hx, am_o1_s, if_pos (show am_bi false = 0 from rfl)]
  rfl

theorem CC_opens (h : IV S iv nf) (x : Int32) : CC E (d + 900) mX9_opens [.ref 0, .int x] (PO "java/util/NoSuchElementException" RI (F_X10_opens x)) S iv nf := by
  obtain ⟨w, v, fd, sn, ns, pp, np, c, ρ, hS, hR, hz⟩ := h
  have hww : w = 2 ∨ w = 22 := by have := hS.2.2.2.2.1; omega
  have hpp : adr pp := hS.2.2.2.2.2.1.2.2
  cases hx : xin x (cy_n c) with
  | false =>
    obtain ⟨y, iv2, e2, e3, hR2⟩ := P_opensT hR hww hpp hx
    refine ⟨0, nf, 1, 6, Or.inl rfl, mx0 nf, by omega, by omega, fun Q hQ => ?_⟩
    exact M_opensT (d := d + 890) hS hR hx (fun nx hnx => hQ _ _ _ (Or.inl ⟨rfl, y, iv2, e2, e3, w, v, fd, sn, ns, pp, np, c, ρ, hS.ext (ext.nx hnx), hR2, hz.fr (X_X10_opens e2) (by simp) (by simp)⟩))
  | true =>
    refine ⟨2 ^ cy_n c, mx nf (2 ^ cy_n c), 4, 6 + (sct nf (2 ^ cy_n c) + 6143), Or.inr ⟨cy_n c, by have := hR.1.1.1; omega, rfl⟩, rfl, by omega, by omega, fun Q hQ => ?_⟩
    refine M_opens (d := d + 890) hS hR (fun q => by rw [hx] at q; cases q) (fun S' iv1 r fd' nf' sn' ns' pp' np' _ hS' hn _ hu hA => ?_)
    obtain ⟨iv2, e2, e3, hR2⟩ := hA
    have hz1 : zz iv1 := ⟨by rw [hu.1]; exact hz.1, by rw [hu.2]; exact hz.2⟩
    subst hn
    exact hQ _ _ _ (Or.inr ⟨r, iv2, rfl, e2, e3, w, v, fd', sn', ns', pp', np', c, ρ, hS', hR2, hz1.fr (X_X10_opens e2) (by simp) (by simp)⟩)

theorem CC_shuts (h : IV S iv nf) (x : Int32) : CC E (d + 900) mX9_shuts [.ref 0, .int x] (PO "java/util/NoSuchElementException" RI (F_X10_shuts x)) S iv nf := by
  obtain ⟨w, v, fd, sn, ns, pp, np, c, ρ, hS, hR, hz⟩ := h
  have hww : w = 2 ∨ w = 22 := by have := hS.2.2.2.2.1; omega
  have hpp : adr pp := hS.2.2.2.2.2.1.2.2
  cases hx : xin x (cy_n c) with
  | false =>
    obtain ⟨y, iv2, e2, e3, hR2⟩ := P_shutsT hR hww hpp hx
    refine ⟨0, nf, 1, 6, Or.inl rfl, mx0 nf, by omega, by omega, fun Q hQ => ?_⟩
    exact M_shutsT (d := d + 890) hS hR hx (fun nx hnx => hQ _ _ _ (Or.inl ⟨rfl, y, iv2, e2, e3, w, v, fd, sn, ns, pp, np, c, ρ, hS.ext (ext.nx hnx), hR2, hz.fr (X_X10_shuts e2) (by simp) (by simp)⟩))
  | true =>
    refine ⟨2 ^ cy_n c, mx nf (2 ^ cy_n c), 4, 6 + (sct nf (2 ^ cy_n c) + 6143), Or.inr ⟨cy_n c, by have := hR.1.1.1; omega, rfl⟩, rfl, by omega, by omega, fun Q hQ => ?_⟩
    refine M_shuts (d := d + 890) hS hR (fun q => by rw [hx] at q; cases q) (fun S' iv1 r fd' nf' sn' ns' pp' np' _ hS' hn _ hu hA => ?_)
    obtain ⟨iv2, e2, e3, hR2⟩ := hA
    have hz1 : zz iv1 := ⟨by rw [hu.1]; exact hz.1, by rw [hu.2]; exact hz.2⟩
    subst hn
    exact hQ _ _ _ (Or.inr ⟨r, iv2, rfl, e2, e3, w, v, fd', sn', ns', pp', np', c, ρ, hS', hR2, hz1.fr (X_X10_shuts e2) (by simp) (by simp)⟩)

theorem CC_harm (h : IV S iv nf) (x : Int32) : CC E (d + 900) mX9_harm [.ref 0, .int x] (PO "java/util/NoSuchElementException" RI (F_X10_harm x)) S iv nf := by
  obtain ⟨w, v, fd, sn, ns, pp, np, c, ρ, hS, hR, hz⟩ := h
  have hww : w = 2 ∨ w = 22 := by have := hS.2.2.2.2.1; omega
  have hpp : adr pp := hS.2.2.2.2.2.1.2.2
  cases hx : xin x (cy_n c) with
  | false =>
    obtain ⟨y, iv2, e2, e3, hR2⟩ := P_harmT hR hww hpp hx
    refine ⟨0, nf, 1, 6, Or.inl rfl, mx0 nf, by omega, by omega, fun Q hQ => ?_⟩
    exact M_harmT (d := d + 890) hS hR hx (fun nx hnx => hQ _ _ _ (Or.inl ⟨rfl, y, iv2, e2, e3, w, v, fd, sn, ns, pp, np, c, ρ, hS.ext (ext.nx hnx), hR2, hz.fr (X_X10_harm e2) (by simp) (by simp)⟩))
  | true =>
    have hm1 : 2 ^ cy_n c ≤ mx nf (2 ^ cy_n c) := by unfold mx; split <;> omega
    have hm2 : sct (mx nf (2 ^ cy_n c)) (2 ^ cy_n c) = 0 := by unfold sct; rw [if_neg (by omega)]
    refine ⟨2 ^ cy_n c, mx nf (2 ^ cy_n c), 5, 6 + (sct nf (2 ^ cy_n c) + sct (mx nf (2 ^ cy_n c)) (2 ^ cy_n c)), Or.inr ⟨cy_n c, by have := hR.1.1.1; omega, rfl⟩, rfl, by omega, by omega, fun Q hQ => ?_⟩
    refine M_harm (d := d + 890) hS hR (fun q => by rw [hx] at q; cases q) (fun S' iv1 r fd' nf' nf1 sn' ns' _ hS' hn1 hn _ hu hA => ?_)
    obtain ⟨iv2, e2, e3, hR2⟩ := hA
    have hz1 : zz iv1 := ⟨by rw [hu.1]; exact hz.1, by rw [hu.2]; exact hz.2⟩
    have hn' : nf' = mx nf (2 ^ cy_n c) := by
      rw [hn, hn1, if_neg (show ¬ (if nf < 2 ^ cy_n c then 2 ^ cy_n c else nf) < 2 ^ cy_n c from by have := hm1; unfold mx at this; omega)]; rfl
    subst hn'
    exact hQ _ _ _ (Or.inr ⟨r, iv2, rfl, e2, e3, w, v, fd', sn', ns', pp, np, c, ρ, hS', hR2, hz1.fr (X_X10_harm e2) (by simp) (by simp)⟩)

theorem CC_bread (h : IV S iv nf) : CC E (d + 900) mX9_bread [.ref 0] (PN RI F_X10_bread) S iv nf := by
  obtain ⟨w, v, fd, sn, ns, pp, np, c, ρ, hS, hR, hz⟩ := h
  have hww : w = 2 ∨ w = 22 := by have := hS.2.2.2.2.1; omega
  have hpp : adr pp := hS.2.2.2.2.2.1.2.2
  refine ⟨kM c (kbr c), mx nf (kM c (kbr c)), 3, sct nf (kM c (kbr c)) + 6143, Or.inr ⟨kB c (kbr c), by have h1 := hR.1.1.1; have h2 := hR.1.1.2.2.1; unfold kB; split <;> omega, kB_M _⟩, rfl, by omega, by omega, fun Q hQ => ?_⟩
  refine M_bread (d := d + 890) hS hR (fun S' iv1 r fd' nf' sn' ns' pp' np' hS' hn _ hu hA => ?_)
  obtain ⟨iv2, e2, e3, hR2⟩ := hA
  have hz1 : zz iv1 := ⟨by rw [hu.1]; exact hz.1, by rw [hu.2]; exact hz.2⟩
  subst hn
  exact hQ _ _ _ ⟨r, iv2, rfl, e2, w, v, fd', sn', ns', pp', np', c, ρ, hS', hR2, hz1.fr (X_X10_bread e2) (by simp) (by simp)⟩

theorem CC_city (h : IV S iv nf) (x : Int32) : CC E (d + 900) mX9_city [.ref 0, .int x] (PO "java/lang/IllegalArgumentException" RI (F_X10_city x)) S iv nf := by
  obtain ⟨w, v, fd, sn, ns, pp, np, c, ρ, hS, hR, hz⟩ := h
  have hww : w = 2 ∨ w = 22 := by have := hS.2.2.2.2.1; omega
  have hpp : adr pp := hS.2.2.2.2.2.1.2.2
  refine ⟨0, nf, 3, 15, Or.inl rfl, mx0 nf, by omega, by omega, fun Q hQ => ?_⟩
  refine M_city (d := d + 50) hS hR hz (fun nx hnx hA => ?_) (fun S' iv1 r w' v' c' ρ' hS' hz1 hA => ?_)
  · obtain ⟨y, iv2, e2, e3, hR2⟩ := hA
    exact hQ _ _ _ (Or.inl ⟨rfl, y, iv2, e2, e3, w, v, fd, sn, ns, pp, np, c, ρ, hS.ext (ext.nx hnx), hR2, hz.fr (X_X10_city e2) (by simp) (by simp)⟩)
  · obtain ⟨iv2, e2, e3, hR2⟩ := hA
    exact hQ _ _ _ (Or.inr ⟨r, iv2, rfl, e2, e3, w', v', fd, sn, ns, pp, np, c', ρ', hS', hR2, hz1.fr (X_X10_city e2) (by simp) (by simp)⟩)

theorem P_marriedT {w pp np : Nat} {c : Nat → Nat → Nat} {ρ : ru_T} {x y : Int32} (hR : Rel w pp np iv c ρ) (hw : w = 2 ∨ w = 22) (hp : adr pp) (hx : xin x (cy_n c) = false ∨ xin y (cy_n c) = false) : ∃ r iv2, F_X10_married x y iv = some (r, iv2) ∧ iv2 54 3 = 1 ∧ Rel w pp np iv2 c ρ := by
  have hR1 := hR.code hw hp 0
  refine ⟨0, am_w (am_w iv 54 3 0) 54 3 1, ?_, am_code0 _, hR1.code hw hp 1⟩
  unfold F_X10_married
  rw [P_isDrawer hR1.1.2.2.1 hR.1.1, am_o1_s]
  cases hx1 : xin x (cy_n c) with
  | false => rw [if_pos (show am_bi false = 0 from rfl)]; rfl
  | true =>
    have hy1 : xin y (cy_n c) = false := by
      rcases hx with q | q
      · rw [hx1] at q; cases q
      · exact q
    rw [if_neg (show ¬ am_bi true = 0 by decide), P_isDrawer hR1.1.2.2.1 hR.1.1, am_o1_s, hy1, if_pos (show am_bi false = 0 from rfl)]; rfl
theorem CC_married (h : IV S iv nf) (x y : Int32) : CC E (d + 900) mX9_married [.ref 0, .int x, .int y] (PO "java/util/NoSuchElementException" RI (F_X10_married x y)) S iv nf := by
  obtain ⟨w, v, fd, sn, ns, pp, np, c, ρ, hS, hR, hz⟩ := h
  have hww : w = 2 ∨ w = 22 := by have := hS.2.2.2.2.1; omega
  have hpp : adr pp := hS.2.2.2.2.2.1.2.2
  by_cases hxy : xin x (cy_n c) = true ∧ xin y (cy_n c) = true
  · have hn := hR.1.1.1
    obtain ⟨a, ha, rfl⟩ := xin_t (by omega) hxy.1
    obtain ⟨b, hb, rfl⟩ := xin_t (by omega) hxy.2
    obtain ⟨o, as, f, m, ⟨b1, b2, b3, b4⟩, ⟨s0, s1, s2, s3⟩, ⟨m0, m1, m2, m3⟩, -⟩ := hR.2.2.1
    cases hc : cmr c a b (o ||| as) with
    | false =>
      refine ⟨0, nf, 2, 12, Or.inl rfl, mx0 nf, by omega, by omega, fun Q hQ => ?_⟩
      refine M_marriedN (d := d + 890) hS hR ha hb s0 s1 m0 m1 b1 b2 hc (fun hA => ?_)
      obtain ⟨iv2, e2, e3, hR2⟩ := hA
      exact hQ _ _ _ (Or.inr ⟨-101, iv2, rfl, e2, e3, w, v, fd, sn, ns, pp, np, c, ρ, hS, hR2, hz.fr (X_X10_married e2) (by simp) (by simp)⟩)
    | true =>
      refine ⟨kM c (kbr c), mx nf (kM c (kbr c)), 6, 12 + sct nf (kM c (kbr c)), Or.inr ⟨kB c (kbr c), by have h1 := hR.1.1.1; have h2 := hR.1.1.2.2.1; unfold kB; split <;> omega, kB_M _⟩, rfl, by omega, by omega, fun Q hQ => ?_⟩
      refine M_marriedY (d := d + 890) hS hR hz ha hb s0 s1 s2 m0 m1 m2 b1 b2 b3 hc (fun S' iv1 r fd' nf' sn' ns' hS' hn' hz1 hA => ?_)
      obtain ⟨iv2, e2, e3, hR2⟩ := hA
      subst hn'
      exact hQ _ _ _ (Or.inr ⟨r, iv2, rfl, e2, e3, w, v, fd', sn', ns', pp, np, c, ρ, hS', hR2, hz1.fr (X_X10_married e2) (by simp) (by simp)⟩)
  · have hx : xin x (cy_n c) = false ∨ xin y (cy_n c) = false := by
      cases hx1 : xin x (cy_n c) with
      | false => exact Or.inl rfl
      | true =>
        cases hy1 : xin y (cy_n c) with
        | false => exact Or.inr rfl
        | true => exact absurd ⟨hx1, hy1⟩ hxy
    obtain ⟨r, iv2, e2, e3, hR2⟩ := P_marriedT hR hww hpp hx
    refine ⟨0, nf, 2, 12, Or.inl rfl, mx0 nf, by omega, by omega, fun Q hQ => ?_⟩
    exact M_marriedT (d := d + 890) hS hR hx (fun nx hnx => hQ _ _ _ (Or.inl ⟨rfl, r, iv2, e2, e3, w, v, fd, sn, ns, pp, np, c, ρ, hS.ext (ext.nx hnx), hR2, hz.fr (X_X10_married e2) (by simp) (by simp)⟩))

end B96
