/-! the class: judge, and what is asked of it -/
theorem sh_smod : ∀ r, r < 32 → (nI r).toBitVec.smod 32 = BitVec.ofNat 32 r := by decide +kernel
theorem sh_r (W : Int32) {r : Nat} (hr : r < 32) : (W >>> nI r).toBitVec = W.toBitVec.sshiftRight r := by
  show W.toBitVec.sshiftRight' ((nI r).toBitVec.smod 32) = _
  rw [sh_smod r hr]
  show W.toBitVec.sshiftRight (BitVec.ofNat 32 r).toNat = _
  congr 1
  simp only [BitVec.toNat_ofNat]
  omega
theorem sh_l (W : Int32) {r : Nat} (hr : r < 32) : (W <<< nI r).toBitVec = W.toBitVec <<< r := by
  show W.toBitVec <<< ((nI r).toBitVec.smod 32) = _
  rw [sh_smod r hr]
  show W.toBitVec <<< (BitVec.ofNat 32 r).toNat = _
  congr 1
  simp only [BitVec.toNat_ofNat]
  omega
theorem sh_and1 (X : Int32) : (X &&& 1 = 0) ↔ X.toBitVec.getLsbD 0 = false := by
  constructor
  · intro h
    have h1 := congrArg (fun y : Int32 => y.toBitVec.getLsbD 0) h
    have h2 : (X &&& 1).toBitVec = X.toBitVec &&& (1 : Int32).toBitVec := rfl
    simp only [h2, BitVec.getLsbD_and] at h1
    simpa using h1
  · intro h
    apply Int32.toBitVec_inj.1
    show X.toBitVec &&& (1 : Int32).toBitVec = 0
    apply BitVec.eq_of_getLsbD_eq
    intro i hi
    rw [BitVec.getLsbD_and]
    by_cases e : i = 0
    · subst e; rw [h]; simp
    · have : (1 : Int32).toBitVec.getLsbD i = false := by
        show (1#32).getLsbD i = false
        simp [e]
      rw [this]; simp
theorem sh_bit (W : Int32) {r : Nat} (hr : r < 32) : ((W >>> nI r) &&& 1 = 0) ↔ W.toBitVec.getLsbD r = false := by
  rw [sh_and1, sh_r W hr, BitVec.getLsbD_sshiftRight]
  have h1 : ¬ 32 ≤ 0 := by decide
  simp [hr]
theorem sh_set (W : Int32) {r i : Nat} (hr : r < 32) (hi : i < 32) : (W ||| ((1 : Int32) <<< nI r)).toBitVec.getLsbD i = (W.toBitVec.getLsbD i || decide (i = r)) := by
  have h2 : (W ||| ((1 : Int32) <<< nI r)).toBitVec = W.toBitVec ||| ((1 : Int32) <<< nI r).toBitVec := rfl
  rw [h2, BitVec.getLsbD_or, sh_l _ hr]
  congr 1
  show (1#32 <<< r).getLsbD i = _
  rw [BitVec.getLsbD_shiftLeft]
  by_cases e : i = r
  · subst e; simp [hi]
  · by_cases lt : i < r
    · simp [lt, e]
    · have : ¬ (i - r = 0) := by omega
      simp [hi, lt, e, this]
theorem nI_toBV {a : Nat} : (nI a).toBitVec = BitVec.ofNat 32 a := rfl
theorem nI_shr {a k : Nat} (ha : a < 2 ^ 31) (hk : k < 32) : nI a >>> nI k = nI (a / 2 ^ k) := by
  apply Int32.toBitVec_inj.1
  rw [sh_r _ hk, nI_toBV, nI_toBV]
  have hm : (BitVec.ofNat 32 a).msb = false := by
    rw [BitVec.msb_eq_decide]
    simp
    omega
  rw [BitVec.sshiftRight_eq_of_msb_false hm]
  apply BitVec.eq_of_toNat_eq
  have : a / 2 ^ k ≤ a := Nat.div_le_self _ _
  rw [BitVec.toNat_ushiftRight, BitVec.toNat_ofNat, BitVec.toNat_ofNat, Nat.shiftRight_eq_div_pow, Nat.mod_eq_of_lt (by omega), Nat.mod_eq_of_lt (by omega)]
theorem nI_shl {a k : Nat} (hk : k < 32) : nI a <<< nI k = nI (a * 2 ^ k) := by
  apply Int32.toBitVec_inj.1
  rw [sh_l _ hk, nI_toBV, nI_toBV]
  apply BitVec.eq_of_toNat_eq
  rw [BitVec.toNat_shiftLeft, BitVec.toNat_ofNat, BitVec.toNat_ofNat, Nat.shiftLeft_eq]
  simp [Nat.mod_mul_mod]
theorem or_add {a k : Nat} (b : Nat) (h : a < 2 ^ k) : a ||| b * 2 ^ k = a + b * 2 ^ k := by
  rw [Nat.or_comm, Nat.mul_comm, ← Nat.two_pow_add_eq_or_of_lt h, Nat.add_comm]
theorem and_mask (a k : Nat) : a &&& (2 ^ k - 1) = a % 2 ^ k := Nat.and_two_pow_sub_one_eq_mod a k
theorem and2 (x : Nat) : x &&& 2 = 0 ↔ x / 2 % 2 = 0 := by
  have h2 : ∀ i, Nat.testBit 2 i = decide (1 = i) := fun i => Nat.testBit_two_pow (n := 1) (m := i)
  have h1 : x.testBit 1 = decide (x / 2 ^ 1 % 2 = 1) := Nat.testBit_eq_decide_div_mod_eq
  constructor
  · intro h
    have h3 := congrArg (fun y => Nat.testBit y 1) h
    simp only [Nat.testBit_and, h2, h1] at h3
    simp at h3
    omega
  · intro h
    refine Nat.eq_of_testBit_eq (fun i => ?_)
    rw [Nat.testBit_and, h2, Nat.zero_testBit]
    by_cases e : 1 = i
    · subst e; rw [h1]; simp; omega
    · simp [e]
section B36
variable {iv iv' : am_I} {c : Nat → Nat → Nat} {w : Nat} {ρ : ru_T}
theorem cy_rch_lt (hc : cy_ok c) (s : Nat) : cy_rch c s < 1024 := Nat.lt_of_lt_of_le (cy_bits_lt _ _) (cy_p10 hc.1)
theorem cy_fed_l (hc : cy_ok c) (s : Nat) : cy_fed c s < 32 := Nat.lt_of_lt_of_le (cy_bits_lt _ _) (cy_p5 hc.2.2.1)
theorem cy_ver_or (hc : cy_ok c) (s x : Nat) (hx : x = if cy_can c ρ s then 2 else 0) : ((nI 1 ||| nI x) ||| (nI (cy_rch c s) <<< nI 2)) ||| (nI (cy_fed c s) <<< nI 12) = nI (cy_ver c ρ s) := by
  have h1 := cy_rch_lt hc s
  rw [nI_shl (by decide), nI_shl (by decide), fa_or, fa_or, fa_or]
  congr 1
  have h2 : 1 ||| x = 1 + x := by rw [hx]; split <;> rfl
  have h3 : 1 + x < 4 := by rw [hx]; split <;> omega
  rw [h2, or_add (k := 2) _ (by omega), or_add (k := 12) _ (by omega), hx]
  rfl
theorem cy_ver_lt (hc : cy_ok c) (s : Nat) : cy_ver c ρ s < 2 ^ 17 := by
  have h1 := cy_rch_lt hc s
  have h2 := cy_fed_l hc s
  unfold cy_ver
  split <;> omega
theorem cl_W.fr (h : cl_W w iv c ρ) {A : List Nat} (f : am_fr A [] iv iv') (hA : ∀ a ∈ A, a < w ∨ (w + 17 ≤ a ∧ a ≠ w + 19)) : cl_W w iv' c ρ := by
  have f2 := f.w (w := w) (fun a ha => by have := hA a ha; omega) (fun q hq => by cases hq)
  refine ⟨h.1.fr f2, h.2.1.fr f2, h.2.2.1.fr f2, fun s hs => ?_⟩
  rw [f (w + 19) s (fun q => by have := hA _ q; omega) (by simp)]
  exact h.2.2.2 s hs
theorem K_judge (hW : cl_W w iv c ρ) (hc : cy_ok c) (ho : ru_ok ρ (cy_r c)) {s : Nat} (hs : s < 1024) : ∃ iv', F_X0_judge w (nI s) iv = some (nI (cy_ver c ρ s), iv') ∧ cl_W w iv' c ρ := by
  have hlt := cy_ver_lt (ρ := ρ) hc s
  have hpos : 1 ≤ cy_ver c ρ s := by unfold cy_ver; omega
  have Z : ∀ (iv1 : am_I) (x : Nat), cl_W w iv1 c ρ → (x = if cy_can c ρ s then 2 else 0) → ∃ iv', J_X0_judge_62 w (nI s) (nI s) (nI 1) (nI x) iv1 = some (nI (cy_ver c ρ s), iv') ∧ cl_W w iv' c ρ := by
    intro iv1 x hW1 hx
    unfold J_X0_judge_62
    rw [K_climb hW1.1 hc hW1.2.2.1 hs, am_o1_s, K_withBoth hW1.1 hc hs, am_o1_s, if_pos (vb hs (by decide)), if_pos (vb hs (by decide)), am_cl (by omega)]
    have e := cy_ver_or (ρ := ρ) hc s x hx
    have e2 : (((nI 1 ||| nI x) ||| (nI (cy_rch c s) <<< ((2 : Int32) &&& 31))) ||| (nI (cy_fed c s) <<< ((12 : Int32) &&& 31))) = nI (cy_ver c ρ s) := e
    rw [e2]
    refine ⟨_, by rw [am_w_r, if_pos rfl, if_pos rfl], ?_⟩
    have f2 : ∀ k, k < 17 → am_w iv1 (w + 19) s (nI (cy_ver c ρ s)) (w + k) = iv1 (w + k) := fun k hk => am_w_other _ _ _ (by omega)
    refine ⟨hW1.1.fr f2, hW1.2.1.fr f2, hW1.2.2.1.fr f2, fun q hq => ?_⟩
    rw [am_w_r, if_pos rfl]
    by_cases e3 : q = s
    · rw [if_pos e3, e3]; exact Or.inr rfl
    · rw [if_neg e3]; exact hW1.2.2.2 q hq
  unfold F_X0_judge
  rw [if_neg (nI_pos (by omega)), if_pos (show nI s < Int32.ofNat 1024 from nI_lt (by omega) (by decide)), if_pos (vb hs (by decide)), am_cl (by omega)]
  rcases hW.2.2.2 s hs with h0 | h1
  · rw [if_pos h0, K_isSound hW.1 hc hW.2.2.1 hs, am_o1_s]
    unfold J_X0_judge_45 J_X0_judge_46
    rw [ifb]
    cases hsd : cy_snd c s with
    | false =>
      rw [if_neg (by decide), if_pos rfl]
      exact Z iv 0 hW (by rw [show cy_can c ρ s = false by simp [cy_can, hsd]]; rfl)
    | true =>
      rw [if_pos rfl]
      obtain ⟨iv2, e2⟩ := K_leastBroken hW.1 hc hW.2.2.1 hW.2.1 ho hs
      have f2 := X_X0_leastBroken e2
      have hW2 : cl_W w iv2 c ρ := hW.fr f2 (by intro a ha; simp at ha; omega)
      rw [e2, am_o2_s]
      have hle : cy_lb c ρ s ≤ cy_r c := (cy_fst_s _ _).1
      have hr4 := hc.2.2.2.1
      by_cases h2 : cy_lb c ρ s < cy_r c
      · have e9 : cy_enc (cy_r c) (cy_lb c ρ s) = nI (cy_lb c ρ s) := by simp [cy_enc, h2]
        rw [e9, if_neg (cy_m1 (by omega)), if_pos rfl]
        exact Z iv2 0 hW2 (by rw [show cy_can c ρ s = false by simp [cy_can, hsd]; omega]; rfl)
      · have e9 : cy_enc (cy_r c) (cy_lb c ρ s) = -1 := by simp [cy_enc, h2]
        rw [e9, if_pos rfl, if_neg (by decide)]
        exact Z iv2 2 hW2 (by rw [show cy_can c ρ s = true by simp [cy_can, hsd]; omega]; rfl)
  · rw [h1, if_neg (nI_ne0 (by omega) (by omega)), if_pos (vb hs (by decide))]
    exact ⟨iv, rfl, hW⟩
theorem K_canBe (hW : cl_W w iv c ρ) (hc : cy_ok c) (ho : ru_ok ρ (cy_r c)) {s : Nat} (hs : s < 1024) : ∃ iv', F_X0_canBe w (nI s) iv = some (am_bi (cy_can c ρ s), iv') ∧ cl_W w iv' c ρ := by
  obtain ⟨iv1, e1, w1⟩ := K_judge hW hc ho hs
  refine ⟨iv1, ?_, w1⟩
  have hlt := cy_ver_lt (ρ := ρ) hc s
  unfold F_X0_canBe
  rw [e1, am_o2_s, show (2 : Int32) = nI 2 from rfl, fa_and]
  have h9 : cy_ver c ρ s &&& 2 ≤ cy_ver c ρ s := Nat.and_le_left
  by_cases h : cy_ver c ρ s &&& 2 = 0
  · rw [h, if_pos (show nI 0 = 0 from rfl)]
    rw [and2] at h
    have : cy_can c ρ s = false := by
      cases hcn : cy_can c ρ s with
      | false => rfl
      | true => simp only [cy_ver, hcn, if_true] at h; omega
    rw [this]; rfl
  · rw [if_neg (nI_ne0 (by omega) (by omega))]
    rw [and2] at h
    have : cy_can c ρ s = true := by
      cases hcn : cy_can c ρ s with
      | true => rfl
      | false => simp only [cy_ver, hcn] at h; simp at h; omega
    rw [this]; rfl
theorem K_reachedBy (hW : cl_W w iv c ρ) (hc : cy_ok c) (ho : ru_ok ρ (cy_r c)) {s : Nat} (hs : s < 1024) : ∃ iv', F_X0_reachedBy w (nI s) iv = some (nI (cy_rch c s), iv') ∧ cl_W w iv' c ρ := by
  obtain ⟨iv1, e1, w1⟩ := K_judge hW hc ho hs
  refine ⟨iv1, ?_, w1⟩
  have hlt := cy_ver_lt (ρ := ρ) hc s
  have h1 := cy_rch_lt hc s
  unfold F_X0_reachedBy
  rw [e1, am_o2_s]
  have e2 : nI (cy_ver c ρ s) >>> ((2 : Int32) &&& 31) = nI (cy_ver c ρ s / 2 ^ 2) := nI_shr (k := 2) (by omega) (by decide)
  rw [e2, show (1023 : Int32) = nI (2 ^ 10 - 1) from rfl, fa_and, and_mask]
  congr 3
  unfold cy_ver
  split <;> omega
theorem K_fedBy (hW : cl_W w iv c ρ) (hc : cy_ok c) (ho : ru_ok ρ (cy_r c)) {s : Nat} (hs : s < 1024) : ∃ iv', F_X0_fedBy w (nI s) iv = some (nI (cy_fed c s), iv') ∧ cl_W w iv' c ρ := by
  obtain ⟨iv1, e1, w1⟩ := K_judge hW hc ho hs
  refine ⟨iv1, ?_, w1⟩
  have hlt := cy_ver_lt (ρ := ρ) hc s
  have h1 := cy_rch_lt hc s
  unfold F_X0_fedBy
  rw [e1, am_o2_s]
  have e2 : nI (cy_ver c ρ s) >>> ((12 : Int32) &&& 31) = nI (cy_ver c ρ s / 2 ^ 12) := nI_shr (k := 12) (by omega) (by decide)
  rw [e2]
  congr 3
  unfold cy_ver
  split <;> omega
end B36
