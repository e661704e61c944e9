/-! city on both sides -/
section B92
variable {E : am_E} {S : am_S} {iv : am_I} {Q : am_O → am_S → am_I → Prop} {w v fd nf sn ns pp np d : Nat} {c : Nat → Nat → Nat} {ρ : ru_T}
def zz (iv : am_I) : Prop := iv 17 0 = 0 ∧ iv 37 0 = 0
/-- behind a text that is taken -/
theorem Rel.anew {ivc iv1 M : am_I} {c' : Nat → Nat → Nat} {ρ' : ru_T} (hR : Rel w pp np iv c ρ) (hwv : (w = 2 ∧ v = 22) ∨ (w = 22 ∧ v = 2))
    (o3 : ∀ a j, (a < 42 ∨ (54 ≤ a ∧ a < 89) ∨ a = 42) → ¬ (a = 0 ∧ j = 1) → (a < v ∨ v + 20 ≤ a) → ivc a j = iv a j) (o1 : iv1 = am_w (am_w (am_fl (am_w (am_w (am_w (am_w (am_w ivc 0 2 (-1)) 42 0 (0 : Int32)) 42 1 (0 : Int32)) 42 2 (0 : Int32)) 42 3 (0 : Int32)) 43 5 (0 : Int32)) 0 7 0) 0 10 (-1)) (h01 : ivc 0 1 = 0)
    (m1 : ∀ a k, ¬ hs a k → ¬ (a = 54 ∧ (k = 3 ∨ k = 18 ∨ k = 20 ∨ k = 27)) → M a k = iv1 a k) (m3 : M 54 3 = 0) (m18 : M 54 18 = 0) (m27 : M 54 27 = -1) (hc : cy_ok c') (hr : ru_ok ρ' (cy_r c')) (hW : cl_W v ivc c' ρ') (hB : cl_B v ivc c') (hC : mo_C (tk M) c') (hRu : mo_R (tk M) ρ' (cy_r c')) : (tk M) 54 3 = 0 ∧ Rel v pp np (tk M) c' ρ' := by
  have T : ∀ a j, a < 54 ∨ 70 ≤ a → a ≠ 72 → tk M a j = iv1 a j := fun a j h1 h2 => by
    rw [tk_r _ _ _ (by omega) h2, hvs_r, if_neg (by omega), if_neg (by omega), if_neg (by omega), if_neg (by omega)]
    exact m1 a j (by unfold hs; omega) (by omega)
  have I : ∀ a j, a ≠ 0 → a ≠ 42 → a ≠ 43 → iv1 a j = ivc a j := fun a j h0 h42 h43 => by
    rw [o1, am_w_other _ _ _ h0, am_w_other _ _ _ h0]
    unfold am_fl
    rw [if_neg h43, am_w_other _ _ _ h42, am_w_other _ _ _ h42, am_w_other _ _ _ h42, am_w_other _ _ _ h42, am_w_other _ _ _ h0]
  have I0 : ∀ j, iv1 0 j = if j = 10 then -1 else if j = 7 then 0 else if j = 2 then -1 else ivc 0 j := fun j => by
    rw [o1, am_w_r, if_pos rfl, am_w_r, if_pos rfl]
    unfold am_fl
    rw [if_neg (show ¬ (0 : Nat) = 43 by decide), am_w_other _ _ _ (by decide), am_w_other _ _ _ (by decide), am_w_other _ _ _ (by decide), am_w_other _ _ _ (by decide), am_w_r, if_pos rfl]
  have I42 : ∀ j, iv1 42 j = if j = 3 then 0 else if j = 2 then 0 else if j = 1 then 0 else if j = 0 then 0 else ivc 42 j := fun j => by
    rw [o1, am_w_other _ _ _ (by decide), am_w_other _ _ _ (by decide)]
    unfold am_fl
    rw [if_neg (show ¬ (42 : Nat) = 43 by decide), am_w_r, if_pos rfl, am_w_r, if_pos rfl, am_w_r, if_pos rfl, am_w_r, if_pos rfl, am_w_other _ _ _ (by decide)]
  have I43 : ∀ j, j < 5 → iv1 43 j = 0 := fun j hj => by
    rw [o1, am_w_other _ _ _ (by decide), am_w_other _ _ _ (by decide)]
    unfold am_fl
    rw [if_pos rfl, if_pos hj]
  have hT3 : tk M 54 3 = 0 := by rw [tk_54, if_neg (by decide), if_neg (by decide), if_neg (by decide)]; exact m3
  have c0 : ∀ j, (tk M) (v + 0) j = ivc v j := fun j => by
    rw [Nat.add_zero, T _ _ (by omega) (by omega), I _ _ (by omega) (by omega) (by omega)]
  refine ⟨hT3, ⟨hc, hr, hC, hRu⟩, ⟨hW.eq (fun k hk j => by rw [T _ _ (by omega) (by omega), I _ _ (by omega) (by omega) (by omega)]), ?_⟩, ?_, ?_, ?_, ?_, ?_⟩
  · unfold cl_B at hB ⊢
    have c1 : ∀ j, (tk M) v j = ivc v j := fun j => c0 j
    rw [c1, c1, c1, c1]; exact hB
  · have hSt := hR.2.2.1
    obtain ⟨_, _, _, _, -, -, -, -, -, -, q1, q2⟩ := hSt
    refine ⟨0, 0, 0, 0, ⟨Nat.two_pow_pos _, Nat.two_pow_pos _, Nat.two_pow_pos _, by omega⟩, ⟨?_, ?_, ?_, ?_⟩, ⟨?_, ?_, ?_, ?_⟩, fun i hi => ?_, fun i hi => absurd hi (by omega), fun i hi => absurd hi (by omega), ?_, ?_⟩
    · rw [T _ _ (by decide) (by decide), I42]; rfl
    · rw [T _ _ (by decide) (by decide), I42]; rfl
    · rw [T _ _ (by decide) (by decide), I42]; rfl
    · rw [T _ _ (by decide) (by decide), I42]; rfl
    · rw [tk_54]; rfl
    · rw [tk_54]; rfl
    · rw [tk_54]; rfl
    · rw [tk_54]; rfl
    · rw [T _ _ (by decide) (by decide), I43 i hi, tk_72 _ _ hi]
    · rw [T _ _ (by decide) (by decide), I42, T 70 _ (by decide) (by decide), I _ _ (by decide) (by decide) (by decide), o3 70 0 (by omega) (by omega) (by omega), ← q1, ← o3 42 4 (by omega) (by omega) (by omega)]; rfl
    · rw [T _ _ (by decide) (by decide), I42, T 70 _ (by decide) (by decide), I _ _ (by decide) (by decide) (by decide), o3 70 1 (by omega) (by omega) (by omega), ← q2, ← o3 42 5 (by omega) (by omega) (by omega)]; rfl
  · refine ⟨false, ?_, ?_, fun q => by cases q⟩
    · rw [T _ _ (by decide) (by decide), I0]; rfl
    · rw [tk_54]; rfl
  · refine ⟨0, by omega, ?_, ?_, fun i hi => absurd hi (by omega)⟩
    · rw [T _ _ (by decide) (by decide), I0, if_neg (by decide), if_neg (by decide), if_neg (by decide), h01]; rfl
    · rw [tk_54, if_neg (by decide), if_neg (by decide), if_neg (by decide), m18]; rfl
  · rw [T _ _ (by decide) (by decide), I0, tk_54, if_neg (by decide), if_neg (by decide), if_pos (show (2 : Nat) = 2 from rfl), if_neg (by decide), if_neg (by decide), if_neg (by decide), m27]
  · refine Or.inl ⟨?_, ?_⟩
    · rw [T _ _ (by decide) (by decide), I0, if_pos (show (10 : Nat) = 10 from rfl)]
    · rw [tk_54, if_neg (by decide), if_pos (show (45 : Nat) = 45 from rfl)]
/-- behind a text that is refused -/
theorem Rel.refuse {ivc iv1 M : am_I} {t : Nat} (hR : Rel w pp np iv c ρ) (hwv : (w = 2 ∧ v = 22) ∨ (w = 22 ∧ v = 2)) (hpp : adr pp) (hpt : pp < t) (ht : 89 ≤ t)
    (o3 : ∀ a j, a < t → ¬ (a = 0 ∧ j = 1) → (a < v ∨ v + 20 ≤ a) → ivc a j = iv a j) (o1 : iv1 = am_w (am_w ivc 0 2 (ivc t 3)) 42 4 (ivc 42 4 + 1)) (h01 : ivc 0 1 = 0)
    (m1 : ∀ a k, ¬ hs a k → ¬ (a = 54 ∧ (k = 3 ∨ k = 18 ∨ k = 20 ∨ k = 27)) → M a k = iv1 a k) (m3 : M 54 3 = 0) (m18 : M 54 18 = 0) (hE : EE t ivc M) : (am_w (am_w M 54 27 (M 54 26)) 70 0 (M 70 0 + 1)) 54 3 = 0 ∧ Rel w pp np (am_w (am_w M 54 27 (M 54 26)) 70 0 (M 70 0 + 1)) c ρ := by
  have hp1 := hpp.1
  have hp2 := hpp.2
  have I : ∀ a j, a ≠ 0 → a ≠ 42 → iv1 a j = ivc a j := fun a j h0 h42 => by rw [o1, am_w_other _ _ _ h42, am_w_other _ _ _ h0]
  have I0 : ∀ j, iv1 0 j = if j = 2 then ivc t 3 else ivc 0 j := fun j => by rw [o1, am_w_other _ _ _ (by decide), am_w_r, if_pos rfl]
  have I42 : ∀ j, iv1 42 j = if j = 4 then ivc 42 4 + 1 else ivc 42 j := fun j => by rw [o1, am_w_r, if_pos rfl, am_w_other _ _ _ (by decide)]
  have U : ∀ a j, a ≠ 54 → a ≠ 70 → (am_w (am_w M 54 27 (M 54 26)) 70 0 (M 70 0 + 1)) a j = M a j := fun a j h1 h2 => by rw [am_w_other _ _ _ h2, am_w_other _ _ _ h1]
  have U54 : ∀ j, (am_w (am_w M 54 27 (M 54 26)) 70 0 (M 70 0 + 1)) 54 j = if j = 27 then M 54 26 else M 54 j := fun j => by rw [am_w_other _ _ _ (by decide), am_w_r, if_pos rfl]
  have U70 : ∀ j, (am_w (am_w M 54 27 (M 54 26)) 70 0 (M 70 0 + 1)) 70 j = if j = 0 then M 70 0 + 1 else M 70 j := fun j => by rw [am_w_r, if_pos rfl, am_w_other _ _ _ (by decide)]
  have hRM1 : RM iv1 c ρ := hR.1.fr (fun a a1 a2 => funext fun j => by rw [I a j (by omega) (by omega)]; exact o3 a j (by omega) (by omega) (by omega))
  have hRM2 := fh.RM hRM1 (fh.of (x := M 54 26) (y := M 70 0 + 1) m1)
  have G : ∀ a j, a < t → a ≠ 0 → a ≠ 42 → a ≠ 54 → a ≠ 70 → (a < 58 ∨ 69 < a) → (a < v ∨ v + 20 ≤ a) → (am_w (am_w M 54 27 (M 54 26)) 70 0 (M 70 0 + 1)) a j = iv a j := fun a j g1 g2 g3 g4 g5 g6 g7 => by
    rw [U a j g4 g5, m1 a j (by unfold hs; omega) (by omega), I a j g2 g3]; exact o3 a j g1 (by omega) g7
  have G0 : ∀ j, j ≠ 1 → j ≠ 2 → (am_w (am_w M 54 27 (M 54 26)) 70 0 (M 70 0 + 1)) 0 j = iv 0 j := fun j g1 g2 => by
    rw [U 0 j (by decide) (by decide), m1 0 j (by unfold hs; omega) (by omega), I0, if_neg g2]; exact o3 0 j (by omega) (by omega) (by omega)
  have G42 : ∀ j, j ≠ 4 → (am_w (am_w M 54 27 (M 54 26)) 70 0 (M 70 0 + 1)) 42 j = iv 42 j := fun j g1 => by
    rw [U 42 j (by decide) (by decide), m1 42 j (by unfold hs; omega) (by omega), I42, if_neg g1]; exact o3 42 j (by omega) (by omega) (by omega)
  have G54 : ∀ j, (29 ≤ j ∨ j < 3) → (am_w (am_w M 54 27 (M 54 26)) 70 0 (M 70 0 + 1)) 54 j = iv 54 j := fun j g1 => by
    rw [U54, if_neg (by omega), m1 54 j (by unfold hs; omega) (by omega), I 54 j (by decide) (by decide)]; exact o3 54 j (by omega) (by omega) (by omega)
  have e424 : (am_w (am_w M 54 27 (M 54 26)) 70 0 (M 70 0 + 1)) 42 4 = iv 42 4 + 1 := by
    rw [U 42 4 (by decide) (by decide), m1 42 4 (by unfold hs; omega) (by omega), I42, if_pos (show (4 : Nat) = 4 from rfl), o3 42 4 (by omega) (by omega) (by omega)]
  have e700 : (am_w (am_w M 54 27 (M 54 26)) 70 0 (M 70 0 + 1)) 70 0 = iv 70 0 + 1 := by
    rw [U70, if_pos (show (0 : Nat) = 0 from rfl), m1 70 0 (by unfold hs; omega) (by omega), I 70 0 (by decide) (by decide), o3 70 0 (by omega) (by omega) (by omega)]
  have e701 : (am_w (am_w M 54 27 (M 54 26)) 70 0 (M 70 0 + 1)) 70 1 = iv 70 1 := by
    rw [U70, if_neg (show ¬ (1 : Nat) = 0 by decide), m1 70 1 (by unfold hs; omega) (by omega), I 70 1 (by decide) (by decide), o3 70 1 (by omega) (by omega) (by omega)]
  have e02 : (am_w (am_w M 54 27 (M 54 26)) 70 0 (M 70 0 + 1)) 0 2 = ivc t 3 := by
    rw [U 0 2 (by decide) (by decide), m1 0 2 (by unfold hs; omega) (by omega), I0, if_pos (show (2 : Nat) = 2 from rfl)]
  have e01 : (am_w (am_w M 54 27 (M 54 26)) 70 0 (M 70 0 + 1)) 0 1 = 0 := by
    rw [U 0 1 (by decide) (by decide), m1 0 1 (by unfold hs; omega) (by omega), I0, if_neg (show ¬ (1 : Nat) = 2 by decide)]; exact h01
  have e5427 : (am_w (am_w M 54 27 (M 54 26)) 70 0 (M 70 0 + 1)) 54 27 = ivc t 3 := by rw [U54, if_pos (show (27 : Nat) = 27 from rfl)]; exact hE.2.2
  have e543 : (am_w (am_w M 54 27 (M 54 26)) 70 0 (M 70 0 + 1)) 54 3 = 0 := by rw [U54, if_neg (by decide)]; exact m3
  have e5418 : (am_w (am_w M 54 27 (M 54 26)) 70 0 (M 70 0 + 1)) 54 18 = 0 := by rw [U54, if_neg (by decide)]; exact m18
  generalize am_w (am_w M 54 27 (M 54 26)) 70 0 (M 70 0 + 1) = N at *
  obtain ⟨h1, h2, h3, h4, h5, h6, h7⟩ := hR
  refine ⟨e543, hRM2, ⟨h2.1.eq (fun k hk j => G _ j (by omega) (by omega) (by omega) (by omega) (by omega) (by omega) (by omega)), ?_⟩, ?_, ?_, ⟨0, by omega, e01, e5418, fun i hi => absurd hi (by omega)⟩, e02.trans e5427.symm, ?_⟩
  · have hB := h2.2
    unfold cl_B at hB ⊢
    have gw : ∀ j, N w j = iv w j := fun j => G _ j (by omega) (by omega) (by omega) (by omega) (by omega) (by omega) (by omega)
    rw [gw, gw, gw, gw]; exact hB
  · obtain ⟨o, a, f, m, b, ⟨s0, s1, s2, s3⟩, ⟨t0, t1, t2, t3⟩, r1, r2, r3, r4, r5⟩ := h3
    refine ⟨o, a, f, m, b, ⟨by rw [G42 _ (by decide)]; exact s0, by rw [G42 _ (by decide)]; exact s1, by rw [G42 _ (by decide)]; exact s2, by rw [G42 _ (by decide)]; exact s3⟩, ⟨by rw [G54 _ (by decide)]; exact t0, by rw [G54 _ (by decide)]; exact t1, by rw [G54 _ (by decide)]; exact t2, by rw [G54 _ (by decide)]; exact t3⟩, fun i hi => ?_, fun i hi => ?_, fun i hi => ?_, ?_, ?_⟩
    · rw [G 43 i (by omega) (by decide) (by decide) (by decide) (by decide) (by decide) (by omega), G 72 i (by omega) (by decide) (by decide) (by decide) (by decide) (by decide) (by omega)]; exact r1 i hi
    · rw [G 44 i (by omega) (by decide) (by decide) (by decide) (by decide) (by decide) (by omega), G 73 i (by omega) (by decide) (by decide) (by decide) (by decide) (by decide) (by omega)]; exact r2 i hi
    · rw [G 45 i (by omega) (by decide) (by decide) (by decide) (by decide) (by decide) (by omega), G 74 i (by omega) (by decide) (by decide) (by decide) (by decide) (by decide) (by omega)]; exact r3 i hi
    · rw [e424, e700, r4]
    · rw [G42 _ (by decide), e701]; exact r5
  · obtain ⟨k, k1, k2, k3⟩ := h4
    exact ⟨k, by rw [G0 7 (by decide) (by decide)]; exact k1, by rw [G54 48 (by decide)]; exact k2, fun hk => (k3 hk).fr (fun a ha => funext fun j => G a j (by omega) (by omega) (by omega) (by omega) (by omega) (by omega) (by omega)) (fun k hk => G54 _ (by omega))⟩
  · unfold Rw at h7 ⊢
    rw [G0 10 (by decide) (by decide), G54 45 (by decide)]
    rcases h7 with h7 | ⟨L, l1, l2, l3, l4, l5⟩
    · exact Or.inl h7
    · exact Or.inr ⟨L, l1, l2, l3, l4, fun i hi => by rw [G pp i hpt (by omega) (by omega) (by omega) (by omega) (by omega) (by omega), G 81 i (by omega) (by decide) (by decide) (by decide) (by decide) (by decide) (by omega)]; exact l5 i hi⟩
end B92
