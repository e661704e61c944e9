/-! image, restore -/
section B56
variable {w pp np : Nat} {iv iv' iv2 : am_I} {c : Nat → Nat → Nat} {ρ : ru_T}
theorem P_be {aa m bb : Nat} (hm : m ≤ 1000) (hab : aa ≠ bb) : ∃ iv', F_X10_be aa m bb m iv = some iv' ∧ ∀ i, i < m → iv' aa i = iv bb i := by
  have H : ∃ x, am_loop (fun s : (Int32 × am_I) => B_X10_be_2 aa m bb m s.1 s.2) ((0 : Int32), iv) = some x ∧ ∀ i, i < m → x aa i = iv bb i := by
    refine am_loop_n (fun k s => s.1 = nI k ∧ am_fr [aa] [] iv s.2 ∧ ∀ i, i < k → s.2 aa i = iv bb i) m (by omega) ?_ ?_ _ ⟨rfl, am_fr.rf _ _ _, fun i hi => absurd hi (Nat.not_lt_zero _)⟩
    · rintro k ⟨k0, iv1⟩ hk ⟨a1, a2, a3⟩
      dsimp only at a1 a2 a3
      subst a1
      left
      show ∃ s', B_X10_be_2 _ _ _ _ (nI k) iv1 = _ ∧ _
      unfold B_X10_be_2
      rw [show Int32.ofNat m = nI m from rfl, nle (by omega) (by omega), if_neg (by omega), if_pos (vb hk (by omega)), if_pos (vb hk (by omega)), am_cl (by omega)]
      refine ⟨_, rfl, nI_1 k, a2.a (by simp), fun i hi => ?_⟩
      show am_w iv1 aa k (iv1 bb k) aa i = _
      rw [am_w_r, if_pos rfl]
      by_cases e : i = k
      · rw [if_pos e, e, a2 bb k (by simp; omega) (by simp)]
      · rw [if_neg e]; exact a3 i (by omega)
    · rintro ⟨k0, iv1⟩ ⟨a1, a2, a3⟩
      dsimp only at a1 a2 a3
      subst a1
      refine ⟨iv1, ?_, a3⟩
      show B_X10_be_2 _ _ _ _ _ iv1 = _
      unfold B_X10_be_2
      rw [show Int32.ofNat m = nI m from rfl, if_pos (Int32.le_refl _)]
  obtain ⟨x, h1, h2⟩ := H
  refine ⟨x, ?_, h2⟩
  unfold F_X10_be
  rw [h1, am_o1_s]
theorem cl100 : (100 : Int32).toNatClampNeg = 100 := by decide
theorem K_copyS {u q : Nat} (h : (u = 42 ∧ q = 46) ∨ (u = 46 ∧ q = 42)) : ∃ iv', F_X7_copyFrom u q iv = some iv' ∧ (∀ k, k < 6 → iv' u k = iv q k) ∧ (∀ i, i < 5 → iv' (u + 1) i = iv (q + 1) i) ∧ (∀ i, i < 100 → iv' (u + 2) i = iv (q + 2) i) ∧ ∀ i, i < 100 → iv' (u + 3) i = iv (q + 3) i := by
  unfold F_X7_copyFrom
  refine ⟨_, rfl, ?_, ?_, ?_, ?_⟩
  · intro k hk
    rcases h with ⟨rfl, rfl⟩ | ⟨rfl, rfl⟩
    · match k, hk with
      | 0, _ => simp [am_cp, am_w_r]
      | 1, _ => simp [am_cp, am_w_r]
      | 2, _ => simp [am_cp, am_w_r]
      | 3, _ => simp [am_cp, am_w_r]
      | 4, _ => simp [am_cp, am_w_r]
      | 5, _ => simp [am_cp, am_w_r]
    · match k, hk with
      | 0, _ => simp [am_cp, am_w_r]
      | 1, _ => simp [am_cp, am_w_r]
      | 2, _ => simp [am_cp, am_w_r]
      | 3, _ => simp [am_cp, am_w_r]
      | 4, _ => simp [am_cp, am_w_r]
      | 5, _ => simp [am_cp, am_w_r]
  · intro i hi
    rcases h with ⟨rfl, rfl⟩ | ⟨rfl, rfl⟩ <;> simp [am_cp, va_cpy, cl0, cl5, hi] <;> simp [am_w_r]
  · intro i hi
    rcases h with ⟨rfl, rfl⟩ | ⟨rfl, rfl⟩ <;> simp [am_cp, va_cpy, cl0, cl100, hi] <;> simp [am_w_r]
  · intro i hi
    rcases h with ⟨rfl, rfl⟩ | ⟨rfl, rfl⟩ <;> simp [am_cp, va_cpy, cl0, cl100, hi] <;> simp [am_w_r]
theorem C_image (h : Rel w pp np iv c ρ) (hw : w = 2 ∨ w = 22) (hp : 51 ≤ pp ∧ (pp < 54 ∨ 89 ≤ pp)) : ∃ iv1 iv2, F_X9_image w iv = some iv1 ∧ F_X10_image iv1 = some iv2 ∧ Rel w pp np iv2 c ρ := by
  obtain ⟨iva, ea, a1, a2, a3, a4⟩ := K_copyS (iv := iv) (u := 46) (q := 42) (Or.inr ⟨rfl, rfl⟩)
  have e1 : F_X9_image w iv = some (am_w iva 0 7 1) := by unfold F_X9_image; rw [ea, am_o1_s]
  have f1 := X_X9_image e1
  have fa := X_X7_copyFrom ea
  generalize hv1 : am_w iva 0 7 1 = iv1 at e1 f1
  let ivb : am_I := am_w (am_w (am_w (am_w (am_w (am_w iv1 54 3 0) 54 48 1) 54 49 (iv1 54 29)) 54 50 (iv1 54 30)) 54 51 (iv1 54 31)) 54 52 (iv1 54 32)
  obtain ⟨ivc, ec, c1⟩ := P_be (iv := ivb) (aa := 84) (m := 5) (bb := 72) (by decide) (by decide)
  obtain ⟨ivd, ed, d1⟩ := P_be (iv := ivc) (aa := 85) (m := 100) (bb := 73) (by decide) (by decide)
  obtain ⟨ive, ee, x1⟩ := P_be (iv := ivd) (aa := 86) (m := 100) (bb := 74) (by decide) (by decide)
  obtain ⟨ivf, ef, y1⟩ := P_be (iv := ive) (aa := 87) (m := 2) (bb := 70) (by decide) (by decide)
  have fc := X_X10_be ec
  have fd := X_X10_be ed
  have fe := X_X10_be ee
  have ff := X_X10_be ef
  have e2 : F_X10_image iv1 = some ivf := by
    unfold F_X10_image
    have q : (am_w (am_w (am_w (am_w (am_w (am_w iv1 54 3 (0 : Int32)) 54 48 (1 : Int32)) 54 49 ((am_w (am_w iv1 54 3 (0 : Int32)) 54 48 (1 : Int32)) 54 29)) 54 50 ((am_w (am_w (am_w iv1 54 3 (0 : Int32)) 54 48 (1 : Int32)) 54 49 ((am_w (am_w iv1 54 3 (0 : Int32)) 54 48 (1 : Int32)) 54 29)) 54 30)) 54 51 ((am_w (am_w (am_w (am_w iv1 54 3 (0 : Int32)) 54 48 (1 : Int32)) 54 49 ((am_w (am_w iv1 54 3 (0 : Int32)) 54 48 (1 : Int32)) 54 29)) 54 50 ((am_w (am_w (am_w iv1 54 3 (0 : Int32)) 54 48 (1 : Int32)) 54 49 ((am_w (am_w iv1 54 3 (0 : Int32)) 54 48 (1 : Int32)) 54 29)) 54 30)) 54 31)) 54 52 ((am_w (am_w (am_w (am_w (am_w iv1 54 3 (0 : Int32)) 54 48 (1 : Int32)) 54 49 ((am_w (am_w iv1 54 3 (0 : Int32)) 54 48 (1 : Int32)) 54 29)) 54 50 ((am_w (am_w (am_w iv1 54 3 (0 : Int32)) 54 48 (1 : Int32)) 54 49 ((am_w (am_w iv1 54 3 (0 : Int32)) 54 48 (1 : Int32)) 54 29)) 54 30)) 54 51 ((am_w (am_w (am_w (am_w iv1 54 3 (0 : Int32)) 54 48 (1 : Int32)) 54 49 ((am_w (am_w iv1 54 3 (0 : Int32)) 54 48 (1 : Int32)) 54 29)) 54 50 ((am_w (am_w (am_w iv1 54 3 (0 : Int32)) 54 48 (1 : Int32)) 54 49 ((am_w (am_w iv1 54 3 (0 : Int32)) 54 48 (1 : Int32)) 54 29)) 54 30)) 54 31)) 54 32)) = ivb := by
      show _ = am_w (am_w (am_w (am_w (am_w (am_w iv1 54 3 0) 54 48 1) 54 49 (iv1 54 29)) 54 50 (iv1 54 30)) 54 51 (iv1 54 31)) 54 52 (iv1 54 32)
      simp only [am_w_r]
      simp
    rw [q, ec, am_o1_s, ed, am_o1_s, ee, am_o1_s, ef, am_o1_s]
  have f2 := X_X10_image e2
  have F : am_fr [47, 48, 49, 84, 85, 86, 87] [(0, 7), (46, 0), (46, 1), (46, 2), (46, 3), (46, 4), (46, 5), (54, 3), (54, 48), (54, 49), (54, 50), (54, 51), (54, 52)] iv ivf := (f1.up (by simp) (by simp)).tr (f2.up (by simp) (by simp))
  have G : ∀ a j, a ≠ 0 → a ≠ 46 → a ≠ 47 → a ≠ 48 → a ≠ 49 → a ≠ 54 → a ≠ 84 → a ≠ 85 → a ≠ 86 → a ≠ 87 → ivf a j = iv a j := fun a j _ _ _ _ _ _ _ _ _ _ => F a j (by simp; omega) (by simp; omega)
  have G54 : ∀ j, j ≠ 3 → j < 48 ∨ 52 < j → ivf 54 j = iv 54 j := fun j _ _ => F 54 j (by simp) (by simp; omega)
  have G0 : ∀ j, j ≠ 7 → ivf 0 j = iv 0 j := fun j _ => F 0 j (by simp) (by simp; omega)
  have K46 : ∀ a j, 46 ≤ a → a < 50 → ivf a j = iva a j := fun a j a1 a2 => by
    rw [f2 a j (by simp; omega) (by simp; omega), ← hv1, am_w_other _ _ _ (by omega)]
  have I1 : ∀ a j, a ≠ 0 → a ≠ 46 → a ≠ 47 → a ≠ 48 → a ≠ 49 → iv1 a j = iv a j := fun a j _ _ _ _ _ => f1 a j (by simp; omega) (by simp; omega)
  have B54 : ∀ j, ivf 54 j = ivb 54 j := fun j => by
    rw [ff 54 j (by simp) (by simp), fe 54 j (by simp) (by simp), fd 54 j (by simp) (by simp), fc 54 j (by simp) (by simp)]
  have Bo : ∀ a j, a ≠ 54 → ivb a j = iv1 a j := fun a j ha => by
    show am_w (am_w (am_w (am_w (am_w (am_w iv1 54 3 0) 54 48 1) 54 49 (iv1 54 29)) 54 50 (iv1 54 30)) 54 51 (iv1 54 31)) 54 52 (iv1 54 32) a j = _
    rw [am_w_other _ _ _ ha, am_w_other _ _ _ ha, am_w_other _ _ _ ha, am_w_other _ _ _ ha, am_w_other _ _ _ ha, am_w_other _ _ _ ha]
  refine ⟨iv1, ivf, e1, e2, ?_⟩
  obtain ⟨o, a, f, m, hb, ⟨s0, s1, s2, s3⟩, ⟨m0, m1, m2, m3⟩, r1, r2, r3, r4, r5⟩ := h.2.2.1
  have hm := hb.2.2.2
  have hS : St 42 29 72 73 74 70 ivf c := h.2.2.1.fr (fun a ha => funext fun j => G a j (by omega) (by omega) (by omega) (by omega) (by omega) (by omega) (by omega) (by omega) (by omega) (by omega)) (fun k hk => G54 _ (by omega) (by omega))
  have hI : Im ivf c := by
    refine ⟨true, ?_, ?_, fun _ => ⟨o, a, f, m, hb, ⟨?_, ?_, ?_, ?_⟩, ⟨?_, ?_, ?_, ?_⟩, fun i hi => ?_, fun i hi => ?_, fun i hi => ?_, ?_, ?_⟩⟩
    · rw [f2 0 7 (by simp) (by simp), ← hv1]; simp [am_w_r, am_bi]
    · rw [B54]; show am_w (am_w (am_w (am_w (am_w (am_w iv1 54 3 0) 54 48 1) 54 49 (iv1 54 29)) 54 50 (iv1 54 30)) 54 51 (iv1 54 31)) 54 52 (iv1 54 32) 54 48 = _; simp [am_w_r, am_bi]
    · rw [K46 _ _ (by decide) (by decide), a1 0 (by decide)]; exact s0
    · rw [K46 _ _ (by decide) (by decide), a1 1 (by decide)]; exact s1
    · rw [K46 _ _ (by decide) (by decide), a1 2 (by decide)]; exact s2
    · rw [K46 _ _ (by decide) (by decide), a1 3 (by decide)]; exact s3
    · rw [B54]; show am_w (am_w (am_w (am_w (am_w (am_w iv1 54 3 0) 54 48 1) 54 49 (iv1 54 29)) 54 50 (iv1 54 30)) 54 51 (iv1 54 31)) 54 52 (iv1 54 32) 54 49 = _; simp [am_w_r, I1]; exact m0
    · rw [B54]; show am_w (am_w (am_w (am_w (am_w (am_w iv1 54 3 0) 54 48 1) 54 49 (iv1 54 29)) 54 50 (iv1 54 30)) 54 51 (iv1 54 31)) 54 52 (iv1 54 32) 54 50 = _; simp [am_w_r, I1]; exact m1
    · rw [B54]; show am_w (am_w (am_w (am_w (am_w (am_w iv1 54 3 0) 54 48 1) 54 49 (iv1 54 29)) 54 50 (iv1 54 30)) 54 51 (iv1 54 31)) 54 52 (iv1 54 32) 54 51 = _; simp [am_w_r, I1]; exact m2
    · rw [B54]; show am_w (am_w (am_w (am_w (am_w (am_w iv1 54 3 0) 54 48 1) 54 49 (iv1 54 29)) 54 50 (iv1 54 30)) 54 51 (iv1 54 31)) 54 52 (iv1 54 32) 54 52 = _; simp [am_w_r, I1]; exact m3
    · rw [K46 _ _ (by decide) (by decide), a2 i hi, ff 84 i (by simp) (by simp), fe 84 i (by simp) (by simp), fd 84 i (by simp) (by simp), c1 i hi, Bo 72 i (by decide), I1 72 i (by decide) (by decide) (by decide) (by decide) (by decide)]
      exact r1 i hi
    · obtain ⟨z, z1, z2, z3⟩ := r2 i hi
      refine ⟨z, z1, ?_, ?_⟩
      · rw [K46 _ _ (by decide) (by decide), a3 i (by omega)]; exact z2
      · rw [ff 85 i (by simp) (by simp), fe 85 i (by simp) (by simp), d1 i (by omega), fc 73 i (by simp) (by simp), Bo 73 i (by decide), I1 73 i (by decide) (by decide) (by decide) (by decide) (by decide)]; exact z3
    · obtain ⟨z, z1, z2, z3⟩ := r3 i hi
      refine ⟨z, z1, ?_, ?_⟩
      · rw [K46 _ _ (by decide) (by decide), a4 i (by omega)]; exact z2
      · rw [ff 86 i (by simp) (by simp), x1 i (by omega), fd 74 i (by simp) (by simp), fc 74 i (by simp) (by simp), Bo 74 i (by decide), I1 74 i (by decide) (by decide) (by decide) (by decide) (by decide)]; exact z3
    · rw [K46 _ _ (by decide) (by decide), a1 4 (by decide), y1 0 (by decide), fe 70 0 (by simp) (by simp), fd 70 0 (by simp) (by simp), fc 70 0 (by simp) (by simp), Bo 70 0 (by decide), I1 70 0 (by decide) (by decide) (by decide) (by decide) (by decide)]; exact r4
    · rw [K46 _ _ (by decide) (by decide), a1 5 (by decide), y1 1 (by decide), fe 70 1 (by simp) (by simp), fd 70 1 (by simp) (by simp), fc 70 1 (by simp) (by simp), Bo 70 1 (by decide), I1 70 1 (by decide) (by decide) (by decide) (by decide) (by decide)]; exact r5
  refine ⟨h.1.fr (fun a a1 a2 => funext fun j => G a j (by omega) (by omega) (by omega) (by omega) (by omega) (by omega) (by omega) (by omega) (by omega) (by omega)), h.2.1.fr (fun k hk => funext fun j => G _ j (by omega) (by omega) (by omega) (by omega) (by omega) (by omega) (by omega) (by omega) (by omega) (by omega)) (funext fun j => G _ j (by omega) (by omega) (by omega) (by omega) (by omega) (by omega) (by omega) (by omega) (by omega) (by omega)), hS, hI, ?_, ?_, ?_⟩
  · obtain ⟨t, t1, t2, t3, t4⟩ := h.2.2.2.2.1
    refine ⟨t, t1, by rw [G0 1 (by decide)]; exact t2, by rw [G54 18 (by decide) (by omega)]; exact t3, fun i hi => ?_⟩
    rw [G 71 i (by omega) (by omega) (by omega) (by omega) (by omega) (by omega) (by omega) (by omega) (by omega) (by omega), G 1 i (by omega) (by omega) (by omega) (by omega) (by omega) (by omega) (by omega) (by omega) (by omega) (by omega)]
    exact t4 i hi
  · rw [G0 2 (by decide), G54 27 (by decide) (by omega)]; exact h.2.2.2.2.2.1
  · have hr := h.2.2.2.2.2.2
    unfold Rw at hr ⊢
    rw [G0 10 (by decide), G54 45 (by decide) (by omega)]
    rcases hr with hr | ⟨L, l1, l2, l3, l4, l5⟩
    · exact Or.inl hr
    · refine Or.inr ⟨L, l1, l2, l3, l4, fun i hi => ?_⟩
      rw [G pp i (by omega) (by omega) (by omega) (by omega) (by omega) (by omega) (by omega) (by omega) (by omega) (by omega), G 81 i (by omega) (by omega) (by omega) (by omega) (by omega) (by omega) (by omega) (by omega) (by omega) (by omega)]
      exact l5 i hi
theorem C_restore (h : Rel w pp np iv c ρ) (hw : w = 2 ∨ w = 22) (hp : 51 ≤ pp ∧ (pp < 54 ∨ 89 ≤ pp)) : ∃ v iv1 iv2, F_X9_restore w iv = some (v, iv1) ∧ F_X10_restore iv1 = some (v, iv2) ∧ Rel w pp np iv2 c ρ := by
  obtain ⟨k, k1, k2, k3⟩ := h.2.2.2.1
  cases k with
  | false =>
    refine ⟨0, iv, am_w iv 54 3 0, ?_, ?_, h.code hw hp 0⟩
    · unfold F_X9_restore; rw [k1, if_pos (show am_bi false = 0 from rfl), if01]; rfl
    · unfold F_X10_restore; rw [am_code1 _ (by decide), k2, if_pos (show am_bi false = 0 from rfl)]
  | true =>
    obtain ⟨iva, ea, a1, a2, a3, a4⟩ := K_copyS (iv := iv) (u := 42) (q := 46) (Or.inl ⟨rfl, rfl⟩)
    have fa := X_X7_copyFrom ea
    have e1 : F_X9_restore w iv = some (1, iva) := by
      have q7 : iva 0 7 = am_bi true := by rw [fa 0 7 (by simp) (by simp)]; exact k1
      unfold F_X9_restore
      rw [k1, if_neg (show ¬ am_bi true = 0 by decide), ea, am_o1_s, q7, if01]; rfl
    let ivb : am_I := am_w (am_w (am_w (am_w (am_w iva 54 3 0) 54 29 (iva 54 49)) 54 30 (iva 54 50)) 54 31 (iva 54 51)) 54 32 (iva 54 52)
    obtain ⟨ivc, ec, c1⟩ := P_be (iv := ivb) (aa := 72) (m := 5) (bb := 84) (by decide) (by decide)
    obtain ⟨ivd, ed, d1⟩ := P_be (iv := ivc) (aa := 73) (m := 100) (bb := 85) (by decide) (by decide)
    obtain ⟨ive, ee, x1⟩ := P_be (iv := ivd) (aa := 74) (m := 100) (bb := 86) (by decide) (by decide)
    obtain ⟨ivf, ef, y1⟩ := P_be (iv := ive) (aa := 70) (m := 2) (bb := 87) (by decide) (by decide)
    have fc := X_X10_be ec
    have fd := X_X10_be ed
    have fe := X_X10_be ee
    have ff := X_X10_be ef
    have e2 : F_X10_restore iva = some (1, ivf) := by
      have q48 : am_w iva 54 3 0 54 48 = am_bi true := by rw [am_code1 _ (by decide), fa 54 48 (by simp) (by simp)]; exact k2
      unfold F_X10_restore
      rw [q48, if_neg (show ¬ am_bi true = 0 by decide)]
      have q : (am_w (am_w (am_w (am_w (am_w iva 54 3 (0 : Int32)) 54 29 ((am_w iva 54 3 (0 : Int32)) 54 49)) 54 30 ((am_w (am_w iva 54 3 (0 : Int32)) 54 29 ((am_w iva 54 3 (0 : Int32)) 54 49)) 54 50)) 54 31 ((am_w (am_w (am_w iva 54 3 (0 : Int32)) 54 29 ((am_w iva 54 3 (0 : Int32)) 54 49)) 54 30 ((am_w (am_w iva 54 3 (0 : Int32)) 54 29 ((am_w iva 54 3 (0 : Int32)) 54 49)) 54 50)) 54 51)) 54 32 ((am_w (am_w (am_w (am_w iva 54 3 (0 : Int32)) 54 29 ((am_w iva 54 3 (0 : Int32)) 54 49)) 54 30 ((am_w (am_w iva 54 3 (0 : Int32)) 54 29 ((am_w iva 54 3 (0 : Int32)) 54 49)) 54 50)) 54 31 ((am_w (am_w (am_w iva 54 3 (0 : Int32)) 54 29 ((am_w iva 54 3 (0 : Int32)) 54 49)) 54 30 ((am_w (am_w iva 54 3 (0 : Int32)) 54 29 ((am_w iva 54 3 (0 : Int32)) 54 49)) 54 50)) 54 51)) 54 52)) = ivb := by
        show _ = am_w (am_w (am_w (am_w (am_w iva 54 3 0) 54 29 (iva 54 49)) 54 30 (iva 54 50)) 54 31 (iva 54 51)) 54 32 (iva 54 52)
        simp only [am_w_r]
        simp
      rw [q, ec, am_o1_s, ed, am_o1_s, ee, am_o1_s, ef, am_o1_s]
    have f2 := X_X10_restore e2
    have F : am_fr [43, 44, 45, 70, 72, 73, 74] [(42, 0), (42, 1), (42, 2), (42, 3), (42, 4), (42, 5), (54, 29), (54, 3), (54, 30), (54, 31), (54, 32)] iv ivf := (fa.up (by simp) (by simp)).tr (f2.up (by simp) (by simp))
    refine ⟨1, iva, ivf, e1, e2, ?_⟩
    refine h.sn (sn.of F hw hp (fun a ha => by simp at ha; rcases ha with rfl | rfl | rfl | rfl | rfl | rfl | rfl <;> simp [sna] <;> omega) (fun q hq => by simp at hq; rcases hq with rfl | rfl | rfl | rfl | rfl | rfl | rfl | rfl | rfl | rfl | rfl <;> simp [snf, sna] <;> omega)) (h.2.1.1.fa F (fun a ha => by simp at ha; omega) (fun q hq => by simp at hq; rcases hq with rfl | rfl | rfl | rfl | rfl | rfl | rfl | rfl | rfl | rfl | rfl <;> simp <;> omega)) ?_
    obtain ⟨o, a, f, m, hb, ⟨s0, s1, s2, s3⟩, ⟨m0, m1, m2, m3⟩, r1, r2, r3, r4, r5⟩ := k3 rfl
    have hm := hb.2.2.2
    have K42 : ∀ a j, 42 ≤ a → a < 46 → ivf a j = iva a j := fun a j a1 a2 => f2 a j (by simp; omega) (by simp; omega)
    have I1 : ∀ a j, a ≠ 42 → a ≠ 43 → a ≠ 44 → a ≠ 45 → iva a j = iv a j := fun a j _ _ _ _ => fa a j (by simp; omega) (by simp; omega)
    have B54 : ∀ j, ivf 54 j = ivb 54 j := fun j => by
      rw [ff 54 j (by simp) (by simp), fe 54 j (by simp) (by simp), fd 54 j (by simp) (by simp), fc 54 j (by simp) (by simp)]
    have Bo : ∀ a j, a ≠ 54 → ivb a j = iva a j := fun a j ha => by
      show am_w (am_w (am_w (am_w (am_w iva 54 3 0) 54 29 (iva 54 49)) 54 30 (iva 54 50)) 54 31 (iva 54 51)) 54 32 (iva 54 52) a j = _
      rw [am_w_other _ _ _ ha, am_w_other _ _ _ ha, am_w_other _ _ _ ha, am_w_other _ _ _ ha, am_w_other _ _ _ ha]
    refine ⟨o, a, f, m, hb, ⟨?_, ?_, ?_, ?_⟩, ⟨?_, ?_, ?_, ?_⟩, fun i hi => ?_, fun i hi => ?_, fun i hi => ?_, ?_, ?_⟩
    · rw [K42 _ _ (by decide) (by decide), a1 0 (by decide)]; exact s0
    · rw [K42 _ _ (by decide) (by decide), a1 1 (by decide)]; exact s1
    · rw [K42 _ _ (by decide) (by decide), a1 2 (by decide)]; exact s2
    · rw [K42 _ _ (by decide) (by decide), a1 3 (by decide)]; exact s3
    · rw [B54]; show am_w (am_w (am_w (am_w (am_w iva 54 3 0) 54 29 (iva 54 49)) 54 30 (iva 54 50)) 54 31 (iva 54 51)) 54 32 (iva 54 52) 54 29 = _; simp [am_w_r, I1]; exact m0
    · rw [B54]; show am_w (am_w (am_w (am_w (am_w iva 54 3 0) 54 29 (iva 54 49)) 54 30 (iva 54 50)) 54 31 (iva 54 51)) 54 32 (iva 54 52) 54 30 = _; simp [am_w_r, I1]; exact m1
    · rw [B54]; show am_w (am_w (am_w (am_w (am_w iva 54 3 0) 54 29 (iva 54 49)) 54 30 (iva 54 50)) 54 31 (iva 54 51)) 54 32 (iva 54 52) 54 31 = _; simp [am_w_r, I1]; exact m2
    · rw [B54]; show am_w (am_w (am_w (am_w (am_w iva 54 3 0) 54 29 (iva 54 49)) 54 30 (iva 54 50)) 54 31 (iva 54 51)) 54 32 (iva 54 52) 54 32 = _; simp [am_w_r, I1]; exact m3
    · rw [K42 _ _ (by decide) (by decide), a2 i hi, ff 72 i (by simp) (by simp), fe 72 i (by simp) (by simp), fd 72 i (by simp) (by simp), c1 i hi, Bo 84 i (by decide), I1 84 i (by decide) (by decide) (by decide) (by decide)]
      exact r1 i hi
    · obtain ⟨z, z1, z2, z3⟩ := r2 i hi
      refine ⟨z, z1, ?_, ?_⟩
      · rw [K42 _ _ (by decide) (by decide), a3 i (by omega)]; exact z2
      · rw [ff 73 i (by simp) (by simp), fe 73 i (by simp) (by simp), d1 i (by omega), fc 85 i (by simp) (by simp), Bo 85 i (by decide), I1 85 i (by decide) (by decide) (by decide) (by decide)]; exact z3
    · obtain ⟨z, z1, z2, z3⟩ := r3 i hi
      refine ⟨z, z1, ?_, ?_⟩
      · rw [K42 _ _ (by decide) (by decide), a4 i (by omega)]; exact z2
      · rw [ff 74 i (by simp) (by simp), x1 i (by omega), fd 86 i (by simp) (by simp), fc 86 i (by simp) (by simp), Bo 86 i (by decide), I1 86 i (by decide) (by decide) (by decide) (by decide)]; exact z3
    · rw [K42 _ _ (by decide) (by decide), a1 4 (by decide), y1 0 (by decide), fe 87 0 (by simp) (by simp), fd 87 0 (by simp) (by simp), fc 87 0 (by simp) (by simp), Bo 87 0 (by decide), I1 87 0 (by decide) (by decide) (by decide) (by decide)]; exact r4
    · rw [K42 _ _ (by decide) (by decide), a1 5 (by decide), y1 1 (by decide), fe 87 1 (by simp) (by simp), fd 87 1 (by simp) (by simp), fc 87 1 (by simp) (by simp), Bo 87 1 (by decide), I1 87 1 (by decide) (by decide) (by decide) (by decide)]; exact r5
end B56
