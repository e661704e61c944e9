/-! the class: compare, settle -/
section B31
variable {iv iv' : am_I} {c : Nat → Nat → Nat} {w : Nat}
theorem cl_C.fr2 (h : cl_C w iv c) (e : ∀ k, k < 17 → k ≠ 1 → k ≠ 7 → k ≠ 8 → k ≠ 9 → iv' (w + k) = iv (w + k)) (e1 : iv' (w + 1) 0 = iv (w + 1) 0) : cl_C w iv' c := by
  unfold cl_C at h ⊢
  have e0 : iv' w = iv w := e 0 (by decide) (by decide) (by decide) (by decide) (by decide)
  rw [e0, e1, e 2 (by decide) (by decide) (by decide) (by decide) (by decide), e 3 (by decide) (by decide) (by decide) (by decide) (by decide), e 4 (by decide) (by decide) (by decide) (by decide) (by decide), e 5 (by decide) (by decide) (by decide) (by decide) (by decide), e 6 (by decide) (by decide) (by decide) (by decide) (by decide), e 10 (by decide) (by decide) (by decide) (by decide) (by decide), e 11 (by decide) (by decide) (by decide) (by decide) (by decide), e 12 (by decide) (by decide) (by decide) (by decide) (by decide), e 13 (by decide) (by decide) (by decide) (by decide) (by decide), e 14 (by decide) (by decide) (by decide) (by decide) (by decide)]
  exact h
theorem cl_C.cmp (h : cl_C w iv c) (f : am_fr [w + 7, w + 8, w + 9] [(w + 1, 10), (w + 1, 9)] iv iv') : cl_C w iv' c := by
  refine h.fr2 (fun k h1 h2 h3 h4 h5 => ?_) (f _ _ (by simp) (by simp))
  funext j
  refine f _ j (by simp; omega) (by simp; omega)
/-- the rows of a drawer -/
def cl_row (w : Nat) (iv : am_I) (c : Nat → Nat → Nat) (d n : Nat) : Prop := iv (w + 7) d = nI (cy_bits (cy_ab c d) n) ∧ iv (w + 8) d = nI (cy_bits (cy_tl c d) n) ∧ iv (w + 9) d = nI (cy_bits (cy_car c d) n)
theorem K_compare (hC : cl_C w iv c) (hc : cy_ok c) : ∃ iv', F_X2_compare w (nI (cy_re c)) iv = some iv' ∧ cl_T w iv' c := by
  have hn := hc.1
  have H : ∃ x, am_loop (fun s : (Int32 × am_I) => B_X2_compare_12 w (nI (cy_re c)) s.1 s.2) ((0 : Int32), (am_w (am_w iv (w + 1) 9 (0 : Int32)) (w + 1) 10 (0 : Int32))) = some x ∧ cl_T w x c := by
    refine am_loop_n (fun m s => s.1 = nI m ∧ am_fr [w + 7, w + 8, w + 9] [(w + 1, 10), (w + 1, 9)] iv s.2 ∧ s.2 (w + 1) 9 = nI (cy_bits (cy_k1 c) m) ∧ s.2 (w + 1) 10 = nI (cy_bits (cy_k2 c) m) ∧ ∀ d, d < m → cl_row w s.2 c d (cy_n c)) (cy_n c) (by omega) ?_ ?_ _ ⟨rfl, ((am_fr.rf _ _ _).f (by simp)).f (by simp), ?_, ?_, fun d hd => absurd hd (Nat.not_lt_zero d)⟩
    · rintro m ⟨k0, iv1⟩ hm ⟨a1, a2, a3, a4, a5⟩
      dsimp only at a1 a2 a3 a4 a5
      subst a1
      have hC1 : cl_C w iv1 c := hC.cmp a2
      obtain ⟨m1, -, -, -, -⟩ := hC1.2.1 m hm
      have gm := hc.2.2.2.2.2.2.2.1 m hm
      have n1 := hC1.1.2.2.2.1
      left
      show ∃ s', B_X2_compare_12 _ _ (nI m) iv1 = _ ∧ _
      unfold B_X2_compare_12
      simp (disch := omega) only [n1, nle, vb, am_cl, if_true, m1, am_shl1, a3]
      rw [if_neg (by omega)]
      have Y : ∀ y z : Nat, (y = if cy_k1 c m then 2 ^ m else 0) → (z = if cy_k2 c m then 2 ^ m else 0) → ∃ s', J_X2_compare_68 w (nI (cy_re c)) (nI m) (nI (cy_bits (cy_k2 c) m)) (nI z) (am_w iv1 (w + 1) 9 (nI (cy_bits (cy_k1 c) m) ||| nI y)) = some (.inl s') ∧ s'.1 = nI (m + 1) ∧ am_fr [w + 7, w + 8, w + 9] [(w + 1, 10), (w + 1, 9)] iv s'.2 ∧ s'.2 (w + 1) 9 = nI (cy_bits (cy_k1 c) (m + 1)) ∧ s'.2 (w + 1) 10 = nI (cy_bits (cy_k2 c) (m + 1)) ∧ ∀ d, d < m + 1 → cl_row w s'.2 c d (cy_n c) := by
        intro y z hy hz
        unfold J_X2_compare_68
        simp (disch := omega) only [vb, am_cl, if_true, fa_or]
        have f3 : am_fr [w + 7, w + 8, w + 9] [(w + 1, 10), (w + 1, 9)] iv (am_w (am_w (am_w (am_w (am_w iv1 (w + 1) 9 (nI (cy_bits (cy_k1 c) m ||| y))) (w + 1) 10 (nI (cy_bits (cy_k2 c) m ||| z))) (w + 7) m 0) (w + 8) m 0) (w + 9) m 0) := ((((a2.f (by simp)).f (by simp)).a (by simp)).a (by simp)).a (by simp)
        generalize hv : am_w (am_w (am_w (am_w (am_w iv1 (w + 1) 9 (nI (cy_bits (cy_k1 c) m ||| y))) (w + 1) 10 (nI (cy_bits (cy_k2 c) m ||| z))) (w + 7) m 0) (w + 8) m 0) (w + 9) m 0 = iv3 at f3 ⊢
        have v9 : iv3 (w + 1) 9 = nI (cy_bits (cy_k1 c) (m + 1)) := by
          rw [← hv, cy_bits_s, ← hy]; simp [am_w_r]
        have v10 : iv3 (w + 1) 10 = nI (cy_bits (cy_k2 c) (m + 1)) := by
          rw [← hv, cy_bits_s, ← hz]; simp [am_w_r]
        have vr : cl_row w iv3 c m 0 := by
          rw [← hv]; unfold cl_row; simp [am_w_r, cy_bits]; rfl
        have vo : ∀ d, d < m → cl_row w iv3 c d (cy_n c) := by
          intro d hd
          have := a5 d hd
          rw [← hv]
          unfold cl_row at this ⊢
          simp only [am_w_r]
          simpa [show d ≠ m by omega] using this
        have G : ∃ x, am_loop (fun s : (Int32 × am_I) => B_X2_compare_95 w (nI (cy_re c)) (nI m) s.1 s.2) ((0 : Int32), iv3) = some x ∧ am_fr [w + 7, w + 8, w + 9] [] iv3 x ∧ cl_row w x c m (cy_n c) ∧ ∀ d, d < m → cl_row w x c d (cy_n c) := by
          refine am_loop_n (fun e s => s.1 = nI e ∧ am_fr [w + 7, w + 8, w + 9] [] iv3 s.2 ∧ cl_row w s.2 c m e ∧ ∀ d, d < m → cl_row w s.2 c d (cy_n c)) (cy_n c) (by omega) ?_ ?_ _ ⟨rfl, am_fr.rf _ _ _, vr, vo⟩
          · rintro e ⟨k9, iv4⟩ he ⟨b1, b2, b3, b4⟩
            dsimp only at b1 b2 b3 b4
            subst b1
            have hC4 : cl_C w iv4 c := hC.cmp (f3.tr (b2.up (by simp) (by simp)))
            obtain ⟨iv5, e5, g1, g2, g3, g4⟩ := K_compareTwo hC4 hc hm he b3.1 b3.2.1 b3.2.2
            have f5 := X_X2_compareTwo e5
            left
            show ∃ s', B_X2_compare_95 _ _ _ (nI e) iv4 = _ ∧ _
            unfold B_X2_compare_95
            simp (disch := omega) only [hC4.1.2.2.2.1, nle, e5, am_o1_s]
            rw [if_neg (by omega)]
            refine ⟨_, rfl, nI_1 e, b2.tr f5, ⟨g2, g3, g4⟩, fun d hd => ?_⟩
            obtain ⟨q1, q2, q3⟩ := g1 d (by omega)
            have := b4 d hd
            unfold cl_row at this ⊢
            dsimp only
            rw [q1, q2, q3]
            exact this
          · rintro ⟨k9, iv4⟩ ⟨b1, b2, b3, b4⟩
            dsimp only at b1 b2 b3 b4
            subst b1
            have hC4 : cl_C w iv4 c := hC.cmp (f3.tr (b2.up (by simp) (by simp)))
            refine ⟨iv4, ?_, b2, b3, b4⟩
            show B_X2_compare_95 _ _ _ _ iv4 = _
            unfold B_X2_compare_95
            simp (disch := omega) only [hC4.1.2.2.2.1, nle]
            rw [if_pos (by omega)]
        obtain ⟨x, hx, g1, g2, g3⟩ := G
        rw [hx, am_o1_s]
        refine ⟨_, rfl, nI_1 m, f3.tr (g1.up (by simp) (by simp)), ?_, ?_, fun d hd => ?_⟩
        · show x (w + 1) 9 = _
          rw [g1.g (by simp)]; exact v9
        · show x (w + 1) 10 = _
          rw [g1.g (by simp)]; exact v10
        · by_cases ed : d = m
          · rw [ed]; exact g2
          · exact g3 d (by omega)
      have X2 : ∀ y : Nat, (y = if cy_k1 c m then 2 ^ m else 0) → ∃ s', J_X2_compare_42 w (nI (cy_re c)) (nI m) (nI (cy_bits (cy_k1 c) m)) (nI y) iv1 = some (.inl s') ∧ s'.1 = nI (m + 1) ∧ am_fr [w + 7, w + 8, w + 9] [(w + 1, 10), (w + 1, 9)] iv s'.2 ∧ s'.2 (w + 1) 9 = nI (cy_bits (cy_k1 c) (m + 1)) ∧ s'.2 (w + 1) 10 = nI (cy_bits (cy_k2 c) (m + 1)) ∧ ∀ d, d < m + 1 → cl_row w s'.2 c d (cy_n c) := by
        intro y hy
        unfold J_X2_compare_42
        have n2 : ∀ x, am_w iv1 (w + 1) 9 x (w + 2) = iv1 (w + 2) := fun x => am_w_other _ _ _ (by omega)
        have n10 : ∀ x, am_w iv1 (w + 1) 9 x (w + 1) 10 = iv1 (w + 1) 10 := fun x => by rw [am_w_r]; simp
        simp (disch := omega) only [vb, am_cl, if_true, n2, n10, m1, am_shl1, a4]
        by_cases h2 : cy_kd c m = 2
        · rw [if_pos (by rw [h2]; rfl)]
          exact Y y (2 ^ m) hy (by simp [cy_k2, h2])
        · rw [if_neg (show ¬ nI (cy_kd c m) = 2 from fun q => h2 ((am_eq (by omega) (by decide)).mp q))]
          exact Y y 0 hy (by simp [cy_k2, h2])
      by_cases h1 : cy_kd c m = 1
      · rw [if_pos (by rw [h1]; rfl)]
        exact X2 (2 ^ m) (by simp [cy_k1, h1])
      · rw [if_neg (show ¬ nI (cy_kd c m) = 1 from fun q => h1 ((am_eq (by omega) (by decide)).mp q))]
        exact X2 0 (by simp [cy_k1, h1])
    · rintro ⟨k0, iv1⟩ ⟨a1, a2, a3, a4, a5⟩
      dsimp only at a1 a2 a3 a4 a5
      subst a1
      refine ⟨iv1, ?_, a3, a4, a5⟩
      show B_X2_compare_12 _ _ _ iv1 = _
      unfold B_X2_compare_12
      simp (disch := omega) only [(hC.cmp a2).1.2.2.2.1, nle]
      rw [if_pos (by omega)]
    · show am_w _ _ _ _ _ _ = _
      simp [am_w_r, cy_bits]; rfl
    · show am_w _ _ _ _ _ _ = _
      simp [am_w_r, cy_bits]; rfl
  obtain ⟨x, hx, h1⟩ := H
  unfold F_X2_compare
  rw [hx]
  exact ⟨x, rfl, h1⟩
/-- a city of the class that may be asked -/
def cl_W (w : Nat) (iv : am_I) (c : Nat → Nat → Nat) (ρ : ru_T) : Prop := cl_C w iv c ∧ cl_R w iv ρ (cy_r c) ∧ cl_T w iv c ∧ cl_V w iv c ρ
theorem K_settle {ρ : ru_T} (hC : cl_C w iv c) (hc : cy_ok c) (hR : cl_R w iv ρ (cy_r c)) : ∃ iv', F_X0_settle w iv = some iv' ∧ cl_W w iv' c ρ := by
  obtain ⟨iv1, e1, h1⟩ := K_compare hC hc
  have f1 := X_X2_compare e1
  unfold F_X0_settle
  rw [hC.1.2.2.1, e1, am_o1_s]
  have e9 : ∀ k, k < 17 → am_fl iv1 (w + 19) 1024 0 (w + k) = iv1 (w + k) := fun k hk => by unfold am_fl; rw [if_neg (by omega)]
  refine ⟨_, rfl, (hC.cmp f1).fr e9, ?_, h1.fr e9, fun s hs => Or.inl ?_⟩
  · have hR1 : cl_R w iv1 ρ (cy_r c) := by
      unfold cl_R at hR ⊢
      have g15 : iv1 (w + 15) = iv (w + 15) := funext fun j => f1 _ j (by simp) (by simp)
      have g16 : iv1 (w + 16) = iv (w + 16) := funext fun j => f1 _ j (by simp) (by simp)
      have g14 : iv1 (w + 14) = iv (w + 14) := funext fun j => f1 _ j (by simp) (by simp)
      rw [g14, g15, g16]; exact hR
    exact hR1.fr e9
  · unfold am_fl; rw [if_pos rfl, if_pos hs]
end B31
