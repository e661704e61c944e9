/-! the class's judging of sets -/
/-- a sign of the class's code -/
def cv (g : Int32) : Int32 := if g ≤ -20 then g + 10 else g
def cl_C (w : Nat) (iv : am_I) (c : Nat → Nat → Nat) : Prop :=
  (iv w 0 = nI (c 0 4) ∧ iv w 1 = nI (c 0 5) ∧ iv w 2 = nI (cy_re c) ∧ iv (w + 1) 0 = nI (cy_n c) ∧ iv (w + 10) 0 = nI (cy_p c) ∧ iv (w + 14) 0 = nI (cy_r c)) ∧
  (∀ j, j < cy_n c → iv (w + 2) j = nI (cy_kd c j) ∧ iv (w + 3) j = nI (cy_co c j) ∧ iv (w + 4) j = nI (cy_co c j + cy_wi c j) ∧ iv (w + 5) j = nI (cy_st c j) ∧ iv (w + 6) j = nI (cy_le c j)) ∧
  (∀ p, p < cy_p c → iv (w + 11) p = nI (cy_ho c p) ∧ iv (w + 12) p = cy_shI c p ∧ iv (w + 13) p = nI (cy_we c p))
def cl_R (w : Nat) (iv : am_I) (ρ : ru_T) (nr : Nat) : Prop := (∀ r, r ≤ nr → iv (w + 15) r = nI (ρ.1 r)) ∧ iv (w + 14) 1 = nI (ρ.1 nr) ∧ ∀ k, k < ρ.1 nr → iv (w + 16) k = cv (ρ.2 k)
/-- those above a drawer, those of them that are too long, its footholds -/
def cy_ab (c : Nat → Nat → Nat) (d e : Nat) : Bool := cy_sha c e d && decide (cy_st c d < cy_st c e)
def cy_tl (c : Nat → Nat → Nat) (d e : Nat) : Bool := cy_sha c e d && (decide (cy_st c d < cy_st c e) && decide (cy_le c d ≤ cy_le c e))
def cy_k1 (c : Nat → Nat → Nat) (d : Nat) : Bool := decide (cy_kd c d = 1)
def cy_k2 (c : Nat → Nat → Nat) (d : Nat) : Bool := decide (cy_kd c d = 2)
def cl_T (w : Nat) (iv : am_I) (c : Nat → Nat → Nat) : Prop := iv (w + 1) 9 = nI (cy_bits (cy_k1 c) (cy_n c)) ∧ iv (w + 1) 10 = nI (cy_bits (cy_k2 c) (cy_n c)) ∧ ∀ d, d < cy_n c → iv (w + 7) d = nI (cy_bits (cy_ab c d) (cy_n c)) ∧ iv (w + 8) d = nI (cy_bits (cy_tl c d) (cy_n c)) ∧ iv (w + 9) d = nI (cy_bits (cy_car c d) (cy_n c))
def cy_ver (c : Nat → Nat → Nat) (ρ : ru_T) (s : Nat) : Nat := 1 + (if cy_can c ρ s then 2 else 0) + cy_rch c s * 4 + cy_fed c s * 4096
def cl_V (w : Nat) (iv : am_I) (c : Nat → Nat → Nat) (ρ : ru_T) : Prop := ∀ s, s < 1024 → iv (w + 19) s = 0 ∨ iv (w + 19) s = nI (cy_ver c ρ s)
theorem am_fr.w {iv iv' : am_I} {A : List Nat} {L : List (Nat × Nat)} {w : Nat} (h : am_fr A L iv iv') (hA : ∀ a ∈ A, a < w ∨ w + 17 ≤ a) (hL : ∀ q ∈ L, q.1 < w ∨ w + 17 ≤ q.1) : ∀ k, k < 17 → iv' (w + k) = iv (w + k) := by
  intro k hk
  funext j
  refine h _ j (fun q => ?_) (fun q => ?_)
  · have := hA _ q
    omega
  · have := hL _ q
    simp only at this
    omega
section B30
variable {iv iv' : am_I} {c : Nat → Nat → Nat} {w : Nat}
theorem cl_C.fr (h : cl_C w iv c) (e : ∀ k, k < 17 → iv' (w + k) = iv (w + k)) : cl_C w iv' c := by
  unfold cl_C at h ⊢
  have e0 : iv' w = iv w := e 0 (by decide)
  rw [e0, e 1 (by decide), e 2 (by decide), e 3 (by decide), e 4 (by decide), e 5 (by decide), e 6 (by decide), e 10 (by decide), e 11 (by decide), e 12 (by decide), e 13 (by decide), e 14 (by decide)]
  exact h
theorem cl_R.fr {ρ : ru_T} {nr : Nat} (h : cl_R w iv ρ nr) (e : ∀ k, k < 17 → iv' (w + k) = iv (w + k)) : cl_R w iv' ρ nr := by
  unfold cl_R at h ⊢
  rw [e 14 (by decide), e 15 (by decide), e 16 (by decide)]
  exact h
theorem cl_T.fr (h : cl_T w iv c) (e : ∀ k, k < 17 → iv' (w + k) = iv (w + k)) : cl_T w iv' c := by
  unfold cl_T at h ⊢
  rw [e 1 (by decide), e 7 (by decide), e 8 (by decide), e 9 (by decide)]
  exact h
theorem cy_sha_comm (c : Nat → Nat → Nat) (a b : Nat) : cy_sha c a b = cy_sha c b a := by unfold cy_sha; rw [Bool.and_comm]
/-- columns apart -/
def cy_ap (c : Nat → Nat → Nat) (a b : Nat) : Nat := max (cy_co c a - (cy_co c b + cy_wi c b)) (cy_co c b - (cy_co c a + cy_wi c a))
theorem cy_ap_sha (c : Nat → Nat → Nat) (a b : Nat) : cy_ap c a b = 0 ↔ cy_sha c a b = true := by
  unfold cy_ap cy_sha
  simp only [Bool.and_eq_true, decide_eq_true_eq]
  omega
theorem am_apart : ∀ a, a < 7 → ∀ b, b < 7 → ∀ a', a' < 7 → ∀ b', b' < 7 → (if (0 : Int32) < (if nI a - nI b' < nI b - nI a' then nI b - nI a' else nI a - nI b') then (if nI a - nI b' < nI b - nI a' then nI b - nI a' else nI a - nI b') else 0) = nI (max (a - b') (b - a')) := by decide +kernel
theorem K_columnsApart (hC : cl_C w iv c) (hc : cy_ok c) {a b : Nat} (ha : a < cy_n c) (hb : b < cy_n c) : F_X2_columnsApart w (nI a) (nI b) iv = some (nI (cy_ap c a b)) := by
  have hn := hc.1
  have ga := hc.2.2.2.2.2.2.2.1 a ha
  have gb := hc.2.2.2.2.2.2.2.1 b hb
  have h4 := hc.2.2.2.2.1.2
  obtain ⟨-, a2, a3, -, -⟩ := hC.2.1 a ha
  obtain ⟨-, b2, b3, -, -⟩ := hC.2.1 b hb
  unfold F_X2_columnsApart
  simp (disch := omega) only [vb, am_cl, a2, a3, b2, b3, if_true]
  rw [am_apart _ (by omega) _ (by omega) _ (by omega) _ (by omega)]
  rfl
theorem K_isWide (hC : cl_C w iv c) (hc : cy_ok c) {a : Nat} (ha : a < cy_n c) : F_X2_isWide w (nI a) iv = some (am_bi (decide (cy_wi c a = 1))) := by
  have hn := hc.1
  have ga := hc.2.2.2.2.2.2.2.1 a ha
  have h4 := hc.2.2.2.2.1.2
  obtain ⟨-, a2, a3, -, -⟩ := hC.2.1 a ha
  unfold F_X2_isWide
  simp (disch := omega) only [vb, am_cl, a2, a3, if_true, nle]
  by_cases h : cy_wi c a = 1
  · rw [if_neg (by omega)]; simp [h, am_bi]
  · rw [if_pos (by omega)]; simp [h, am_bi]
theorem K_compareTwo (hC : cl_C w iv c) (hc : cy_ok c) {d e A B D : Nat} (hd : d < cy_n c) (he : e < cy_n c) (hA : iv (w + 7) d = nI A) (hB : iv (w + 8) d = nI B) (hD : iv (w + 9) d = nI D) : ∃ iv', F_X2_compareTwo w (nI d) (nI e) (nI (cy_re c)) iv = some iv' ∧ (∀ j, j ≠ d → iv' (w + 7) j = iv (w + 7) j ∧ iv' (w + 8) j = iv (w + 8) j ∧ iv' (w + 9) j = iv (w + 9) j) ∧ iv' (w + 7) d = nI (A ||| if cy_ab c d e then 2 ^ e else 0) ∧ iv' (w + 8) d = nI (B ||| if cy_tl c d e then 2 ^ e else 0) ∧ iv' (w + 9) d = nI (D ||| if cy_car c d e then 2 ^ e else 0) := by
  have hn := hc.1
  have gd := hc.2.2.2.2.2.2.2.1 d hd
  have ge := hc.2.2.2.2.2.2.2.1 e he
  have h4 := hc.2.2.2.2.1.2
  have h5 := hc.2.2.2.2.2.1.2
  have hre := hc.2.1
  obtain ⟨-, -, -, d4, d5⟩ := hC.2.1 d hd
  obtain ⟨-, -, -, e4, e5⟩ := hC.2.1 e he
  unfold F_X2_compareTwo
  simp (disch := omega) only [K_columnsApart hC hc hd he, am_o1_s, vb, am_cl, if_true, d4, e4, nle, am_shl1, hA, fa_or]
  rw [show (0 : Int32) = nI 0 from rfl, nle (by unfold cy_ap; omega) (by omega)]
  have hs : cy_sha c e d = decide (cy_ap c d e = 0) := by
    rw [cy_sha_comm]
    cases h : cy_sha c d e with
    | true => simp [(cy_ap_sha c d e).mpr h]
    | false =>
      symm
      rw [decide_eq_false_iff_not]
      intro q
      rw [(cy_ap_sha c d e).mp q] at h
      cases h
  by_cases h0 : cy_ap c d e ≤ 0
  · rw [if_pos h0]
    have hs1 : cy_sha c e d = true := by rw [hs]; simp; omega
    by_cases h1 : cy_st c e ≤ cy_st c d
    · rw [if_pos h1]
      have x1 : cy_ab c d e = false := by simp [cy_ab]; intro _; omega
      have x2 : cy_tl c d e = false := by simp [cy_tl]; intro _ _; omega
      unfold J_X2_compareTwo_68
      simp (disch := omega) only [vb, am_cl, if_true, d4, e4, nle, am_shl1, hD, fa_or]
      by_cases h2 : cy_st c d ≤ cy_st c e
      · rw [if_pos h2]
        have x3 : cy_car c d e = false := by simp [cy_car]; intro _ _; omega
        refine ⟨_, rfl, fun j _ => ⟨rfl, rfl, rfl⟩, ?_, ?_, ?_⟩
        · rw [x1]; simp [hA]
        · rw [x2]; simp [hB]
        · rw [x3]; simp [hD]
      · rw [if_neg h2]
        rw [nI_sub (by omega), nlt (by omega) (by omega)]
        by_cases h3 : cy_re c < cy_st c d - cy_st c e
        · rw [if_pos h3]
          have x3 : cy_car c d e = false := by simp [cy_car]; intro _ _; omega
          refine ⟨_, rfl, fun j _ => ⟨rfl, rfl, rfl⟩, ?_, ?_, ?_⟩
          · rw [x1]; simp [hA]
          · rw [x2]; simp [hB]
          · rw [x3]; simp [hD]
        · rw [if_neg h3]
          have x3 : cy_car c d e = true := by simp [cy_car, hs1]; omega
          refine ⟨_, rfl, fun j hj => ⟨?_, ?_, ?_⟩, ?_, ?_, ?_⟩
          · rw [am_w_other _ _ _ (by omega)]
          · rw [am_w_other _ _ _ (by omega)]
          · rw [am_w_r, if_pos rfl, if_neg hj]
          · rw [am_w_other _ _ _ (by omega), x1]; simp [hA]
          · rw [am_w_other _ _ _ (by omega), x2]; simp [hB]
          · rw [am_w_r, if_pos rfl, if_pos rfl, x3]; simp
    · rw [if_neg h1]
      have x1 : cy_ab c d e = true := by simp [cy_ab, hs1]; omega
      have x3 : cy_car c d e = false := by simp [cy_car]; intro _; omega
      have n65 : ∀ x, am_w iv (w + 7) d x (w + 6) = iv (w + 6) := fun x => am_w_other _ _ _ (by omega)
      have n58 : ∀ x, am_w iv (w + 7) d x (w + 8) = iv (w + 8) := fun x => am_w_other _ _ _ (by omega)
      simp only [n65, n58, d5, e5, hB]
      rw [nlt (by omega) (by omega)]
      have Z : ∀ y : Nat, (y = if cy_tl c d e then 2 ^ e else 0) → ∃ iv', J_X2_compareTwo_66 w (nI d) (nI e) (nI (cy_re c)) (nI d) (nI B) (nI y) (am_w iv (w + 7) d (nI (A ||| 2 ^ e))) = some iv' ∧ (∀ j, j ≠ d → iv' (w + 7) j = iv (w + 7) j ∧ iv' (w + 8) j = iv (w + 8) j ∧ iv' (w + 9) j = iv (w + 9) j) ∧ iv' (w + 7) d = nI (A ||| if cy_ab c d e then 2 ^ e else 0) ∧ iv' (w + 8) d = nI (B ||| if cy_tl c d e then 2 ^ e else 0) ∧ iv' (w + 9) d = nI (D ||| if cy_car c d e then 2 ^ e else 0) := by
        intro y hy
        unfold J_X2_compareTwo_66 J_X2_compareTwo_68
        have n5 : ∀ x y, am_w (am_w iv (w + 7) d x) (w + 8) d y (w + 5) = iv (w + 5) := fun x y => by rw [am_w_other _ _ _ (by omega), am_w_other _ _ _ (by omega)]
        simp (disch := omega) only [vb, am_cl, if_true, n5, d4, e4, nle, fa_or]
        rw [if_pos (by omega)]
        refine ⟨_, rfl, fun j hj => ⟨?_, ?_, ?_⟩, ?_, ?_, ?_⟩
        · rw [am_w_other _ _ _ (by omega), am_w_r, if_pos rfl, if_neg hj]
        · rw [am_w_r, if_pos rfl, if_neg hj, am_w_other _ _ _ (by omega)]
        · rw [am_w_other _ _ _ (by omega), am_w_other _ _ _ (by omega)]
        · rw [am_w_other _ _ _ (by omega), am_w_r, if_pos rfl, if_pos rfl, x1]; simp
        · rw [am_w_r, if_pos rfl, if_pos rfl, hy]
        · rw [am_w_other _ _ _ (by omega), am_w_other _ _ _ (by omega), x3]; simp [hD]
      by_cases h2 : cy_le c e < cy_le c d
      · rw [if_pos h2]
        exact Z 0 (by rw [show cy_tl c d e = false by simp [cy_tl]; intro _ _; omega]; rfl)
      · rw [if_neg h2]
        exact Z (2 ^ e) (by rw [show cy_tl c d e = true by simp [cy_tl, hs1]; omega]; rfl)
  · rw [if_neg h0]
    have hs1 : cy_sha c e d = false := by rw [hs]; simp; omega
    refine ⟨_, rfl, fun j _ => ⟨rfl, rfl, rfl⟩, ?_, ?_, ?_⟩
    · rw [show cy_ab c d e = false by simp [cy_ab, hs1]]; simp [hA]
    · rw [show cy_tl c d e = false by simp [cy_tl, hs1]]; simp [hB]
    · rw [show cy_car c d e = false by simp [cy_car, hs1]]; simp [hD]
end B30
