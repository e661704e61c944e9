/-! wind -/
theorem am_dr (x : Int32) : ((x.toUInt32 >>> ((16 : Int32).toUInt32 &&& Int32.toUInt32 31)).toInt32) &&& (32767 : Int32) = (x >>> ((16 : Int32) &&& 31)) &&& (32767 : Int32) := by
  apply Int32.toBitVec_inj.1
  apply BitVec.eq_of_getLsbD_eq
  intro i hi
  have h1 : (((x.toUInt32 >>> ((16 : Int32).toUInt32 &&& Int32.toUInt32 31)).toInt32) &&& (32767 : Int32)).toBitVec = (x.toBitVec >>> 16) &&& (32767 : Int32).toBitVec := rfl
  have h2 : ((x >>> ((16 : Int32) &&& 31)) &&& (32767 : Int32)).toBitVec = (x >>> nI 16).toBitVec &&& (32767 : Int32).toBitVec := rfl
  rw [h1, h2, sh_r x (by decide), BitVec.getLsbD_and, BitVec.getLsbD_and]
  have h3 : (32767 : Int32).toBitVec.getLsbD i = decide (i < 15) := by
    have : (32767 : Int32) = nI (2 ^ 15 - 1) := rfl
    rw [this, nI_bit hi, Nat.testBit_two_pow_sub_one]
  rw [h3]
  by_cases h : i < 15
  · rw [BitVec.getLsbD_ushiftRight, BitVec.getLsbD_sshiftRight]
    simp [h, hi, show 16 + i < 32 by omega]
  · simp [h]
abbrev wd_T : Type := Int32 × Int32 × Nat × (Nat → Int32)
/-- a draw of 1000 -/
def wd_R (y : Int32) : Int32 := ((y >>> ((16 : Int32) &&& 31)) &&& (32767 : Int32)) - ((y >>> ((16 : Int32) &&& 31)) &&& (32767 : Int32)) / (1000 : Int32) * (1000 : Int32)
def wd_S (x : Int32) : Int32 := (x * (1103515245 : Int32)) + (12345 : Int32)
def wd_h (c : Nat → Nat → Nat) (a d : Nat) (h : Nat → Int32) : Nat → Int32 := fun p => if p < cy_p c ∧ cy_ho c p = d ∧ a.testBit d = true then h p + 1 else h p
def wd_1 (S R : Int32 → Int32) (c : Nat → Nat → Nat) (a d : Nat) (t : wd_T) : wd_T := if t.2.2.1.testBit d then (if R (S t.2.1) < nI (c 0 9 * cy_le c d) then (t.1 + 1, S t.2.1, t.2.2.1 ^^^ (t.2.2.1 &&& 2 ^ d), wd_h c a d t.2.2.2) else (t.1, S t.2.1, t.2.2)) else t
def wd_n (S R : Int32 → Int32) (c : Nat → Nat → Nat) (a : Nat) (t : wd_T) : Nat → wd_T
  | 0 => t
  | d + 1 => wd_1 S R c a d (wd_n S R c a t d)
def wd_k (S R : Int32 → Int32) (c : Nat → Nat → Nat) (a : Nat) (t : wd_T) : Nat → wd_T
  | 0 => t
  | k + 1 => wd_n S R c a (wd_k S R c a t k) (cy_n c)
section B58
variable {w pp np : Nat} {iv iv' iv2 : am_I} {c : Nat → Nat → Nat} {ρ : ru_T} {S R : Int32 → Int32}
theorem wd_1o {a d : Nat} {t : wd_T} {n : Nat} (h : t.2.2.1 < 2 ^ n) : (wd_1 S R c a d t).2.2.1 < 2 ^ n := by
  have key : ∀ (p q : Prop) [Decidable p] [Decidable q] (x y : Int32), (if p then (if q then (x, y, t.2.2.1 ^^^ (t.2.2.1 &&& 2 ^ d), wd_h c a d t.2.2.2) else (t.1, y, t.2.2)) else t : wd_T).2.2.1 < 2 ^ n := by
    intro p q _ _ x y
    by_cases hp : p
    · by_cases hq : q
      · rw [if_pos hp, if_pos hq]; exact Nat.xor_lt_two_pow h (am_andlt h)
      · rw [if_pos hp, if_neg hq]; exact h
    · rw [if_neg hp]; exact h
  exact key _ _ _ _
theorem wd_no {a : Nat} {t : wd_T} {n : Nat} (h : t.2.2.1 < 2 ^ n) : ∀ d, (wd_n S R c a t d).2.2.1 < 2 ^ n
  | 0 => h
  | d + 1 => wd_1o (wd_no h d)
theorem wd_ko {a : Nat} {t : wd_T} {n : Nat} (h : t.2.2.1 < 2 ^ n) : ∀ k, (wd_k S R c a t k).2.2.1 < 2 ^ n
  | 0 => h
  | k + 1 => wd_no (wd_ko h k) _
theorem K_w38 {i2 i5 i3 i4 i6 : Int32} (hS : ∀ x : Int32, (x * (1103515245 : Int32)) + (12345 : Int32) = S x) (hR : ∀ y : Int32, (((y.toUInt32 >>> ((16 : Int32).toUInt32 &&& Int32.toUInt32 31)).toInt32) &&& (32767 : Int32)) - (((y.toUInt32 >>> ((16 : Int32).toUInt32 &&& Int32.toUInt32 31)).toInt32) &&& (32767 : Int32)) / (1000 : Int32) * (1000 : Int32) = R y) : B_X9_wind_38 w i2 i5 i3 i4 i6 iv = (if (iv (w + 1) 0) ≤ i6 then some (.inr (i3, i4, iv)) else (if (((iv 42 0) >>> (i6 &&& 31)) &&& (1 : Int32)) = 0 then some (.inl (i3, i4, (i6 + 1), iv)) else (if vp_b i6 10 then (if ((iv w 6) * (iv (w + 6) i6.toNatClampNeg)) ≤ R (S i4) then some (.inl (i3, S i4, (i6 + 1), iv)) else (am_o1 (F_X9_slam w i6 iv) fun w2 => some (.inl ((i3 + 1), S i4, (i6 + 1), w2)))) else none))) := by
  unfold B_X9_wind_38
  rw [hS i4, hR (S i4)]
theorem P_w40 {i2 i4 i3 i5 : Int32} (hS : ∀ x : Int32, (x * (1103515245 : Int32)) + (12345 : Int32) = S x) (hR : ∀ y : Int32, ((y >>> ((16 : Int32) &&& 31)) &&& (32767 : Int32)) - ((y >>> ((16 : Int32) &&& 31)) &&& (32767 : Int32)) / (1000 : Int32) * (1000 : Int32) = R y) : B_X10_wind_40 i2 i4 i3 i5 iv = (if (iv 58 (2 : Int32).toNatClampNeg) ≤ i5 then some (.inr (i3, iv)) else (am_o1 (F_X10_has (iv 54 29) i5 iv) fun v2 => (if v2 = 0 then some (.inl (i3, (i5 + 1), iv)) else (if vp_b i5 20 then (if R ((am_w iv 54 47 (S (iv 54 47))) 54 47) < (((am_w iv 54 47 (S (iv 54 47))) 58 (9 : Int32).toNatClampNeg) * ((am_w iv 54 47 (S (iv 54 47))) 62 i5.toNatClampNeg)) then (am_o1 (F_X10_slam i5 (am_w iv 54 47 (S (iv 54 47)))) fun w4 => some (.inl ((i3 + 1), (i5 + 1), w4))) else some (.inl (i3, (i5 + 1), (am_w iv 54 47 (S (iv 54 47)))))) else none)))) := by
  unfold B_X10_wind_40
  rw [hS (iv 54 47), hR]
theorem K_slam {o a d : Nat} {hh : Nat → Int32} (hC : cl_C w iv c) (hc : cy_ok c) (hw : w = 2 ∨ w = 22) (h0 : iv 42 0 = nI o) (h1 : iv 42 1 = nI a) (h3 : ∀ i, i < 5 → iv 43 i = hh i) (hd : d < cy_n c) : ∃ iv', F_X9_slam w (nI d) iv = some iv' ∧ iv' 42 0 = nI (o ^^^ (o &&& 2 ^ d)) ∧ ∀ i, i < 5 → iv' 43 i = wd_h c a d hh i := by
  have hn := hc.1
  have hp5 := hc.2.2.1
  unfold F_X9_slam
  rw [h0, am_shl1 d (by omega), nI_andn]
  generalize hv : am_w iv 42 0 (nI (o ^^^ (o &&& 2 ^ d))) = iv1
  have g0 : iv1 42 0 = nI (o ^^^ (o &&& 2 ^ d)) := by rw [← hv]; simp [am_w_r]
  have g1 : iv1 42 1 = nI a := by rw [← hv]; simp [am_w_r, h1]
  have go : ∀ b, b ≠ 42 → iv1 b = iv b := fun b hb => by rw [← hv, am_w_other _ _ _ hb]
  have hC1 : cl_C w iv1 c := hC.fr (fun k hk => go _ (by omega))
  rw [g1]
  cases hb : a.testBit d with
  | false =>
    rw [if_pos ((am_bitt (by omega)).mpr hb)]
    refine ⟨iv1, rfl, g0, fun i hi => ?_⟩
    rw [go 43 (by decide), h3 i hi]
    simp [wd_h, hb]
  | true =>
    rw [if_neg (fun q => by rw [am_bitt (by omega), hb] at q; cases q)]
    have H : ∃ x, am_loop (fun s : (Int32 × am_I) => B_X9_slam_34 w (nI d) s.1 s.2) ((0 : Int32), iv1) = some x ∧ am_fr [43] [] iv1 x ∧ ∀ i, i < 5 → x 43 i = if i < cy_p c ∧ cy_ho c i = d then hh i + 1 else hh i := by
      refine am_loop_n (fun m s => s.1 = nI m ∧ am_fr [43] [] iv1 s.2 ∧ ∀ i, i < 5 → s.2 43 i = if i < m ∧ cy_ho c i = d then hh i + 1 else hh i) (cy_p c) (by omega) ?_ ?_ _ ⟨rfl, am_fr.rf _ _ _, fun i hi => by show iv1 43 i = _; rw [go 43 (by decide), h3 i hi]; simp⟩
      · rintro m ⟨k0, iv3⟩ hm ⟨a1, a2, a3⟩
        dsimp only at a1 a2 a3
        subst a1
        have hC3 : cl_C w iv3 c := hC1.fr (fun k hk => a2.g (by simp; omega))
        obtain ⟨k1, -, -⟩ := hC3.2.2 m hm
        obtain ⟨gh, -⟩ := hc.2.2.2.2.2.2.2.2 m hm
        left
        show ∃ s', B_X9_slam_34 _ _ (nI m) iv3 = _ ∧ _
        unfold B_X9_slam_34
        have vm : vp_b (nI m) 5 = true := vb (by omega) (by decide)
        rw [hC3.1.2.2.2.2.1, nle (by omega) (by omega), if_neg (by omega), if_pos vm, if_pos vm, if_pos vm, am_cl (by omega), k1, neq (by omega) (by omega)]
        by_cases e : cy_ho c m = d
        · rw [if_pos e]
          refine ⟨_, rfl, nI_1 m, a2.a (by simp), fun i hi => ?_⟩
          show am_w iv3 43 m (iv3 43 m + 1) 43 i = _
          rw [am_w_r, if_pos rfl]
          by_cases ei : i = m
          · subst ei
            rw [if_pos rfl, a3 i hi, if_neg (by omega), if_pos ⟨by omega, e⟩]
          · rw [if_neg ei, a3 i hi]
            by_cases lt : i < m
            · simp [lt, show i < m + 1 by omega]
            · simp [lt, show ¬ i < m + 1 by omega]
        · rw [if_neg e]
          refine ⟨_, rfl, nI_1 m, a2, fun i hi => ?_⟩
          show iv3 43 i = _
          rw [a3 i hi]
          by_cases ei : i = m
          · subst ei; simp [e]
          · by_cases lt : i < m
            · simp [lt, show i < m + 1 by omega]
            · simp [lt, show ¬ i < m + 1 by omega]
      · rintro ⟨k0, iv3⟩ ⟨a1, a2, a3⟩
        dsimp only at a1 a2 a3
        subst a1
        have hC3 : cl_C w iv3 c := hC1.fr (fun k hk => a2.g (by simp; omega))
        refine ⟨iv3, ?_, a2, a3⟩
        show B_X9_slam_34 _ _ _ iv3 = _
        unfold B_X9_slam_34
        rw [hC3.1.2.2.2.2.1, if_pos (Int32.le_refl _)]
    obtain ⟨x, x1, x2, x3⟩ := H
    refine ⟨x, by rw [x1, am_o1_s], by rw [x2.g (by simp)]; exact g0, fun i hi => ?_⟩
    rw [x3 i hi]
    simp [wd_h, hb]
theorem P_slam {o a d : Nat} {hh : Nat → Int32} (hC : mo_C iv c) (hc : cy_ok c) (h0 : iv 54 29 = nI o) (h1 : iv 54 30 = nI a) (ha : a < 1024) (h3 : ∀ i, i < 5 → iv 72 i = hh i) (hd : d < cy_n c) : ∃ iv', F_X10_slam (nI d) iv = some iv' ∧ iv' 54 29 = nI (o ^^^ (o &&& 2 ^ d)) ∧ ∀ i, i < 5 → iv' 72 i = wd_h c a d hh i := by
  have hn := hc.1
  have hp5 := hc.2.2.1
  unfold F_X10_slam
  rw [h0, am_shl1 d (by omega), nI_andn]
  generalize hv : am_w iv 54 29 (nI (o ^^^ (o &&& 2 ^ d))) = iv1
  have g0 : iv1 54 29 = nI (o ^^^ (o &&& 2 ^ d)) := by rw [← hv]; simp [am_w_r]
  have g1 : iv1 54 30 = nI a := by rw [← hv]; simp [am_w_r, h1]
  have go : ∀ b, b ≠ 54 → iv1 b = iv b := fun b hb => by rw [← hv, am_w_other _ _ _ hb]
  have hC1 : mo_C iv1 c := hC.fr (fun k h1 h2 => go _ (by omega))
  have H : ∃ x, am_loop (fun s : (Int32 × am_I) => B_X10_slam_16 (nI d) s.1 s.2) ((0 : Int32), iv1) = some x ∧ am_fr [72] [] iv1 x ∧ ∀ i, i < 5 → x 72 i = if i < cy_p c ∧ cy_ho c i = d ∧ a.testBit d = true then hh i + 1 else hh i := by
    refine am_loop_n (fun m s => s.1 = nI m ∧ am_fr [72] [] iv1 s.2 ∧ ∀ i, i < 5 → s.2 72 i = if i < m ∧ cy_ho c i = d ∧ a.testBit d = true then hh i + 1 else hh i) (cy_p c) (by omega) ?_ ?_ _ ⟨rfl, am_fr.rf _ _ _, fun i hi => by show iv1 72 i = _; rw [go 72 (by decide), h3 i hi]; simp⟩
    · rintro m ⟨k0, iv3⟩ hm ⟨a1, a2, a3⟩
      dsimp only at a1 a2 a3
      subst a1
      have hC3 : mo_C iv3 c := hC1.fr (fun k h1 h2 => a2.g (by simp; omega))
      obtain ⟨k1, -, -⟩ := hC3.2.2 m hm
      obtain ⟨gh, -⟩ := hc.2.2.2.2.2.2.2.2 m hm
      have q30 : iv3 54 30 = nI a := by rw [a2 54 30 (by simp) (by simp)]; exact g1
      left
      show ∃ s', B_X10_slam_16 _ (nI m) iv3 = _ ∧ _
      unfold B_X10_slam_16 J_X10_slam_58 J_X10_slam_59
      have vm : vp_b (nI m) 5 = true := vb (by omega) (by decide)
      have vm2 : vp_b (nI m) 10 = true := vb (by omega) (by decide)
      rw [cl3, hC3.1.2.2.2.1, nle (by omega) (by omega), if_neg (by omega), if_pos vm, if_pos vm2, if_pos vm, if_pos vm, am_cl (by omega), k1, neq (by omega) (by omega), q30, P_has ha (by omega), am_o1_s, ifb]
      have Z : ∀ (y : Int32), (y = if cy_ho c m = d ∧ a.testBit d = true then 1 else 0) → ∃ s' : Int32 × am_I, (some (Sum.inl (nI m + 1, am_w iv3 72 m (iv3 72 m + y))) : Option ((Int32 × am_I) ⊕ am_I)) = some (.inl s') ∧ s'.1 = nI (m + 1) ∧ am_fr [72] [] iv1 s'.2 ∧ ∀ i, i < 5 → s'.2 72 i = if i < m + 1 ∧ cy_ho c i = d ∧ a.testBit d = true then hh i + 1 else hh i := by
        intro y hy
        refine ⟨_, rfl, nI_1 m, a2.a (by simp), fun i hi => ?_⟩
        show am_w iv3 72 m (iv3 72 m + y) 72 i = _
        rw [am_w_r, if_pos rfl]
        by_cases ei : i = m
        · subst ei
          rw [if_pos rfl, a3 i hi, if_neg (by omega), hy]
          by_cases e2 : cy_ho c i = d ∧ a.testBit d = true
          · rw [if_pos e2, if_pos ⟨by omega, e2.1, e2.2⟩]
          · rw [if_neg e2, if_neg (fun q => e2 ⟨q.2.1, q.2.2⟩), Int32.add_zero]
        · rw [if_neg ei, a3 i hi]
          by_cases lt : i < m
          · simp [lt, show i < m + 1 by omega]
          · simp [lt, show ¬ i < m + 1 by omega]
      by_cases e : cy_ho c m = d
      · rw [if_pos e]
        cases hb : a.testBit d with
        | true => rw [if_pos rfl]; rw [hb] at Z; exact Z 1 (by simp [e])
        | false => rw [if_neg (by decide)]; rw [hb] at Z; exact Z 0 (by simp)
      · rw [if_neg e]
        exact Z 0 (by simp [e])
    · rintro ⟨k0, iv3⟩ ⟨a1, a2, a3⟩
      dsimp only at a1 a2 a3
      subst a1
      have hC3 : mo_C iv3 c := hC1.fr (fun k h1 h2 => a2.g (by simp; omega))
      refine ⟨iv3, ?_, a2, a3⟩
      show B_X10_slam_16 _ _ iv3 = _
      unfold B_X10_slam_16
      rw [cl3, hC3.1.2.2.2.1, if_pos (Int32.le_refl _)]
  obtain ⟨x, x1, x2, x3⟩ := H
  exact ⟨x, by rw [x1, am_o1_s], by rw [x2 54 29 (by simp) (by simp)]; exact g0, x3⟩
theorem K_wind {a k : Nat} {t : wd_T} (hS : ∀ x : Int32, (x * (1103515245 : Int32)) + (12345 : Int32) = S x) (hR : ∀ y : Int32, (((y.toUInt32 >>> ((16 : Int32).toUInt32 &&& Int32.toUInt32 31)).toInt32) &&& (32767 : Int32)) - (((y.toUInt32 >>> ((16 : Int32).toUInt32 &&& Int32.toUInt32 31)).toInt32) &&& (32767 : Int32)) / (1000 : Int32) * (1000 : Int32) = R y) (hC : cl_C w iv c) (hB : cl_B w iv c) (hc : cy_ok c) (hw : w = 2 ∨ w = 22) (h0 : iv 42 0 = nI t.2.2.1) (h1 : iv 42 1 = nI a) (ho : t.2.2.1 < 2 ^ cy_n c) (h3 : ∀ i, i < 5 → iv 43 i = t.2.2.2 i) (hk : k ≤ 60) :
    ∃ x, am_loop (fun s : (Int32 × Int32 × Int32 × am_I) => B_X9_wind_29 w (nI k) s.1 s.2.1 s.2.2.1 s.2.2.2) (t.1, t.2.1, (0 : Int32), iv) = some x ∧ x.1 = (wd_k S R c a t k).1 ∧ am_fr [43] [(42, 0)] iv x.2 ∧ x.2 42 0 = nI (wd_k S R c a t k).2.2.1 ∧ ∀ i, i < 5 → x.2 43 i = (wd_k S R c a t k).2.2.2 i := by
  have hn := hc.1
  have h10 := cy_p10 hn
  have h9 := hc.2.2.2.2.2.2.1.2.2.2
  refine am_loop_n (fun m s => s.1 = (wd_k S R c a t m).1 ∧ s.2.1 = (wd_k S R c a t m).2.1 ∧ s.2.2.1 = nI m ∧ am_fr [43] [(42, 0)] iv s.2.2.2 ∧ s.2.2.2 42 0 = nI (wd_k S R c a t m).2.2.1 ∧ ∀ i, i < 5 → s.2.2.2 43 i = (wd_k S R c a t m).2.2.2 i) k (by omega) ?_ ?_ _ ⟨rfl, rfl, rfl, am_fr.rf _ _ _, h0, h3⟩
  · rintro m ⟨n0, s0, k0, iv1⟩ hm ⟨a1, a2, a3, a4, a5, a6⟩
    dsimp only at a1 a2 a3 a4 a5 a6
    subst a1; subst a2; subst a3
    left
    show ∃ s', B_X9_wind_29 _ _ _ _ (nI m) iv1 = _ ∧ _
    unfold B_X9_wind_29
    rw [nle (by omega) (by omega), if_neg (by omega)]
    have H : ∃ x, am_loop (fun s : (Int32 × Int32 × Int32 × am_I) => B_X9_wind_38 w (nI k) (nI m) s.1 s.2.1 s.2.2.1 s.2.2.2) ((wd_k S R c a t m).1, (wd_k S R c a t m).2.1, (0 : Int32), iv1) = some x ∧ x.1 = (wd_k S R c a t (m + 1)).1 ∧ x.2.1 = (wd_k S R c a t (m + 1)).2.1 ∧ am_fr [43] [(42, 0)] iv x.2.2 ∧ x.2.2 42 0 = nI (wd_k S R c a t (m + 1)).2.2.1 ∧ ∀ i, i < 5 → x.2.2 43 i = (wd_k S R c a t (m + 1)).2.2.2 i := by
      refine am_loop_n (fun d s => s.1 = (wd_n S R c a (wd_k S R c a t m) d).1 ∧ s.2.1 = (wd_n S R c a (wd_k S R c a t m) d).2.1 ∧ s.2.2.1 = nI d ∧ am_fr [43] [(42, 0)] iv s.2.2.2 ∧ s.2.2.2 42 0 = nI (wd_n S R c a (wd_k S R c a t m) d).2.2.1 ∧ ∀ i, i < 5 → s.2.2.2 43 i = (wd_n S R c a (wd_k S R c a t m) d).2.2.2 i) (cy_n c) (by omega) ?_ ?_ _ ⟨rfl, rfl, rfl, a4, a5, a6⟩
      · rintro d ⟨n1, s1, k1, iv2⟩ hd ⟨b1, b2, b3, b4, b5, b6⟩
        dsimp only at b1 b2 b3 b4 b5 b6
        subst b1; subst b2; subst b3
        have hC2 : cl_C w iv2 c := hC.fr (fun k hk => funext fun j => b4 _ j (by simp; omega) (by simp; omega))
        have e6 : iv2 w 6 = nI (c 0 9) := by rw [b4 w 6 (by simp; omega) (by simp)]; exact hB.2.2.2
        have gd := hc.2.2.2.2.2.2.2.1 d hd
        obtain ⟨-, -, -, -, d5⟩ := hC2.2.1 d hd
        have hol : (wd_n S R c a (wd_k S R c a t m) d).2.2.1 < 2 ^ cy_n c := wd_no (wd_ko ho m) d
        left
        show ∃ s', B_X9_wind_38 _ _ _ _ _ (nI d) iv2 = _ ∧ _
        rw [K_w38 hS hR, hC2.1.2.2.2.1, nle (by omega) (by omega), if_neg (by omega), b5, if_pos (vb (show d < 10 by omega) (by decide)), am_cl (by omega), e6, d5, nI_mul]
        have hstep : wd_n S R c a (wd_k S R c a t m) (d + 1) = wd_1 S R c a d (wd_n S R c a (wd_k S R c a t m) d) := rfl
        rw [hstep]
        generalize hT : wd_n S R c a (wd_k S R c a t m) d = T at b5 b6 hol ⊢
        unfold wd_1
        cases hb : T.2.2.1.testBit d with
        | false =>
          rw [if_pos ((am_bitt (by omega)).mpr hb), if_neg (show ¬ false = true by decide)]
          exact ⟨_, rfl, rfl, rfl, nI_1 d, b4, b5, b6⟩
        | true =>
          rw [if_neg (fun q => by rw [am_bitt (by omega), hb] at q; cases q), if_pos (show true = true from rfl)]
          by_cases hr : R (S T.2.1) < nI (c 0 9 * cy_le c d)
          · have hr2 : ¬ nI (c 0 9 * cy_le c d) ≤ R (S T.2.1) := Int32.not_le.mpr hr
            rw [if_neg hr2, if_pos hr]
            obtain ⟨iv3, e3, g0, g3⟩ := K_slam hC2 hc hw b5 (show iv2 42 1 = nI a by rw [b4 42 1 (by simp) (by simp)]; exact h1) b6 hd
            have f3 := X_X9_slam e3
            rw [e3, am_o1_s]
            exact ⟨_, rfl, rfl, rfl, nI_1 d, b4.tr f3, g0, g3⟩
          · have hr2 : nI (c 0 9 * cy_le c d) ≤ R (S T.2.1) := Int32.not_lt.mp hr
            rw [if_pos hr2, if_neg hr]
            exact ⟨_, rfl, rfl, rfl, nI_1 d, b4, b5, b6⟩
      · rintro ⟨n1, s1, k1, iv2⟩ ⟨b1, b2, b3, b4, b5, b6⟩
        dsimp only at b1 b2 b3 b4 b5 b6
        subst b1; subst b2; subst b3
        have hC2 : cl_C w iv2 c := hC.fr (fun k hk => funext fun j => b4 _ j (by simp; omega) (by simp; omega))
        refine ⟨(_, _, iv2), ?_, rfl, rfl, b4, b5, b6⟩
        show B_X9_wind_38 _ _ _ _ _ _ iv2 = _
        rw [K_w38 hS hR, hC2.1.2.2.2.1, if_pos (Int32.le_refl _)]
        rfl
    obtain ⟨x, x1, x2, x3, x4, x5, x6⟩ := H
    rw [x1, am_o1_s]
    exact ⟨_, rfl, x2, x3, nI_1 m, x4, x5, x6⟩
  · rintro ⟨n0, s0, k0, iv1⟩ ⟨a1, a2, a3, a4, a5, a6⟩
    dsimp only at a1 a2 a3 a4 a5 a6
    subst a1; subst a2; subst a3
    refine ⟨(_, iv1), ?_, rfl, a4, a5, a6⟩
    show B_X9_wind_29 _ _ _ _ _ iv1 = _
    unfold B_X9_wind_29
    rw [if_pos (Int32.le_refl _)]
theorem P_wind {a k : Nat} {t : wd_T} (hS : ∀ x : Int32, (x * (1103515245 : Int32)) + (12345 : Int32) = S x) (hR : ∀ y : Int32, ((y >>> ((16 : Int32) &&& 31)) &&& (32767 : Int32)) - ((y >>> ((16 : Int32) &&& 31)) &&& (32767 : Int32)) / (1000 : Int32) * (1000 : Int32) = R y) (hC : mo_C iv c) (hc : cy_ok c) (h0 : iv 54 29 = nI t.2.2.1) (h1 : iv 54 30 = nI a) (ha : a < 1024) (ho : t.2.2.1 < 2 ^ cy_n c) (h3 : ∀ i, i < 5 → iv 72 i = t.2.2.2 i) (h47 : iv 54 47 = t.2.1) (hk : k ≤ 60) :
    ∃ x, am_loop (fun s : (Int32 × Int32 × am_I) => B_X10_wind_31 (nI k) s.1 s.2.1 s.2.2) (t.1, (0 : Int32), iv) = some x ∧ x.1 = (wd_k S R c a t k).1 ∧ am_fr [72] [(54, 29), (54, 47)] iv x.2 ∧ x.2 54 29 = nI (wd_k S R c a t k).2.2.1 ∧ ∀ i, i < 5 → x.2 72 i = (wd_k S R c a t k).2.2.2 i := by
  have hn := hc.1
  have h10 := cy_p10 hn
  refine am_loop_n (fun m s => s.1 = (wd_k S R c a t m).1 ∧ s.2.2 54 47 = (wd_k S R c a t m).2.1 ∧ s.2.1 = nI m ∧ am_fr [72] [(54, 29), (54, 47)] iv s.2.2 ∧ s.2.2 54 29 = nI (wd_k S R c a t m).2.2.1 ∧ ∀ i, i < 5 → s.2.2 72 i = (wd_k S R c a t m).2.2.2 i) k (by omega) ?_ ?_ _ ⟨rfl, h47, rfl, am_fr.rf _ _ _, h0, h3⟩
  · rintro m ⟨n0, k0, iv1⟩ hm ⟨a1, a2, a3, a4, a5, a6⟩
    dsimp only at a1 a2 a3 a4 a5 a6
    subst a1; subst a3
    left
    show ∃ s', B_X10_wind_31 _ _ (nI m) iv1 = _ ∧ _
    unfold B_X10_wind_31
    rw [nle (by omega) (by omega), if_neg (by omega)]
    have H : ∃ x, am_loop (fun s : (Int32 × Int32 × am_I) => B_X10_wind_40 (nI k) (nI m) s.1 s.2.1 s.2.2) ((wd_k S R c a t m).1, (0 : Int32), iv1) = some x ∧ x.1 = (wd_k S R c a t (m + 1)).1 ∧ x.2 54 47 = (wd_k S R c a t (m + 1)).2.1 ∧ am_fr [72] [(54, 29), (54, 47)] iv x.2 ∧ x.2 54 29 = nI (wd_k S R c a t (m + 1)).2.2.1 ∧ ∀ i, i < 5 → x.2 72 i = (wd_k S R c a t (m + 1)).2.2.2 i := by
      refine am_loop_n (fun d s => s.1 = (wd_n S R c a (wd_k S R c a t m) d).1 ∧ s.2.2 54 47 = (wd_n S R c a (wd_k S R c a t m) d).2.1 ∧ s.2.1 = nI d ∧ am_fr [72] [(54, 29), (54, 47)] iv s.2.2 ∧ s.2.2 54 29 = nI (wd_n S R c a (wd_k S R c a t m) d).2.2.1 ∧ ∀ i, i < 5 → s.2.2 72 i = (wd_n S R c a (wd_k S R c a t m) d).2.2.2 i) (cy_n c) (by omega) ?_ ?_ _ ⟨rfl, a2, rfl, a4, a5, a6⟩
      · rintro d ⟨n1, k1, iv2⟩ hd ⟨b1, b2, b3, b4, b5, b6⟩
        dsimp only at b1 b2 b3 b4 b5 b6
        subst b1; subst b3
        have hC2 : mo_C iv2 c := hC.fr (fun k h1 h2 => funext fun j => b4 _ j (by simp; omega) (by simp; omega))
        have gd := hc.2.2.2.2.2.2.2.1 d hd
        have hol : (wd_n S R c a (wd_k S R c a t m) d).2.2.1 < 2 ^ cy_n c := wd_no (wd_ko ho m) d
        left
        show ∃ s', B_X10_wind_40 _ _ _ (nI d) iv2 = _ ∧ _
        rw [P_w40 hS hR]
        have hstep : wd_n S R c a (wd_k S R c a t m) (d + 1) = wd_1 S R c a d (wd_n S R c a (wd_k S R c a t m) d) := rfl
        rw [hstep]
        generalize hT : wd_n S R c a (wd_k S R c a t m) d = T at b2 b5 b6 hol ⊢
        rw [cl2, hC2.1.2.2.1, nle (by omega) (by omega), if_neg (by omega), b5, P_has (by omega) (by omega), am_o1_s, ifb, if_pos (vb (show d < 20 by omega) (by decide)), am_cl (by omega), cl9, b2]
        generalize hv : am_w iv2 54 47 (S T.2.1) = iv3
        have v47 : iv3 54 47 = S T.2.1 := by rw [← hv]; simp [am_w_r]
        have v29 : iv3 54 29 = nI T.2.2.1 := by rw [← hv]; simp [am_w_r, b5]
        have vo : ∀ b, b ≠ 54 → iv3 b = iv2 b := fun b hb => by rw [← hv, am_w_other _ _ _ hb]
        have f3 : am_fr [72] [(54, 29), (54, 47)] iv iv3 := by rw [← hv]; exact b4.f (by simp)
        have hC3 : mo_C iv3 c := hC2.fr (fun k h1 h2 => vo _ (by omega))
        obtain ⟨-, -, -, d4, -⟩ := hC3.2.1 d hd
        rw [v47, hC3.1.2.2.2.2.2.2.2.2.2, d4, nI_mul]
        unfold wd_1
        cases hb : T.2.2.1.testBit d with
        | false =>
          rw [if_neg (show ¬ false = true by decide), if_neg (show ¬ false = true by decide)]
          exact ⟨_, rfl, rfl, b2, nI_1 d, b4, b5, b6⟩
        | true =>
          rw [if_pos (show true = true from rfl), if_pos (show true = true from rfl)]
          by_cases hr : R (S T.2.1) < nI (c 0 9 * cy_le c d)
          · rw [if_pos hr, if_pos hr]
            obtain ⟨iv4, e4, g0, g3⟩ := P_slam (hh := T.2.2.2) hC3 hc v29 (show iv3 54 30 = nI a by rw [f3 54 30 (by simp) (by simp)]; exact h1) ha (fun i hi => by rw [vo 72 (by decide)]; exact b6 i hi) hd
            have f4 := X_X10_slam e4
            rw [e4, am_o1_s]
            exact ⟨_, rfl, rfl, by show iv4 54 47 = _; rw [f4 54 47 (by simp) (by simp)]; exact v47, nI_1 d, f3.tr (f4.up (by simp) (by simp)), g0, g3⟩
          · rw [if_neg hr, if_neg hr]
            exact ⟨_, rfl, rfl, v47, nI_1 d, f3, v29, fun i hi => by show iv3 72 i = _; rw [vo 72 (by decide)]; exact b6 i hi⟩
      · rintro ⟨n1, k1, iv2⟩ ⟨b1, b2, b3, b4, b5, b6⟩
        dsimp only at b1 b2 b3 b4 b5 b6
        subst b1; subst b3
        have hC2 : mo_C iv2 c := hC.fr (fun k h1 h2 => funext fun j => b4 _ j (by simp; omega) (by simp; omega))
        refine ⟨(_, iv2), ?_, rfl, b2, b4, b5, b6⟩
        show B_X10_wind_40 _ _ _ _ iv2 = _
        rw [P_w40 hS hR, cl2, hC2.1.2.2.1, if_pos (Int32.le_refl _)]
        rfl
    obtain ⟨x, x1, x2, x3, x4, x5, x6⟩ := H
    rw [x1, am_o1_s]
    exact ⟨_, rfl, x2, x3, nI_1 m, x4, x5, x6⟩
  · rintro ⟨n0, k0, iv1⟩ ⟨a1, a2, a3, a4, a5, a6⟩
    dsimp only at a1 a2 a3 a4 a5 a6
    subst a1; subst a3
    refine ⟨(_, iv1), ?_, rfl, a4, a5, a6⟩
    show B_X10_wind_31 _ _ _ iv1 = _
    unfold B_X10_wind_31
    rw [if_pos (Int32.le_refl _)]
theorem C_wind (h : Rel w pp np iv c ρ) (hw : w = 2 ∨ w = 22) (hp : 51 ≤ pp ∧ (pp < 54 ∨ 89 ≤ pp)) (x y : Int32) : agr (Rel w pp np · c ρ) (F_X9_wind w x y iv) iv (F_X10_wind x y) := by
  have hr := h.code hw hp 0
  have hc := h.1.1
  have hn := hc.1
  have h10 := cy_p10 hn
  have e60 : (60 : Int32) = nI 61 - 1 := by decide
  cases hy : xin y 61 with
  | false =>
    refine agr.no h hw hp (v := 0) ?_ ?_
    · unfold F_X9_wind
      by_cases h0 : y < 0
      · rw [if_pos h0]
      · rw [if_neg h0, if_neg (fun q => by
          obtain ⟨j, h3, rfl⟩ := nI_of h0
          rw [show (60 : Int32) = nI 60 from rfl, nI_leI h3 (by decide)] at q
          rw [xin_i (show j < 61 by omega) (by decide)] at hy
          cases hy)]
    · unfold F_X10_wind
      rw [e60, P_isIn0 (by decide), hy, am_o1_s, if_pos (show am_bi false = 0 from rfl), P_fail, am_o2_s, am_codes]
  | true =>
    obtain ⟨k, hk, rfl⟩ := xin_t (by decide) hy
    obtain ⟨o, a, f, m, ⟨b1, b2, b3, b4⟩, ⟨s0, s1, s2, s3⟩, ⟨m0, m1, m2, m3⟩, r1, r2, r3, r4, r5⟩ := h.2.2.1
    obtain ⟨X, x1, x2, x3, x4, x5⟩ := K_wind (S := wd_S) (R := wd_R) (fun x => rfl) (fun y => by rw [am_dr y]; rfl) (a := a) (k := k) (t := ((0 : Int32), x, o, iv 43)) h.2.1.1.1 h.2.1.2 hc hw s0 s1 b1 (fun i _ => rfl) (by omega)
    have hol : (wd_k wd_S wd_R c a ((0 : Int32), x, o, iv 43) k).2.2.1 < 2 ^ cy_n c := wd_ko b1 k
    generalize hT : wd_k wd_S wd_R c a ((0 : Int32), x, o, iv 43) k = T at x2 x4 x5 hol
    have e1 : F_X9_wind w x (nI k) iv = some (some (T.1, if k = 0 then X.2 else am_w X.2 42 3 0)) := by
      unfold F_X9_wind
      rw [if_neg (nI_pos (by omega)), if_pos (show nI k ≤ 60 from nI_le (show k ≤ 60 by omega) (by decide)), x1, am_o1_s, x2]
      by_cases hk0 : k = 0
      · subst hk0; rw [if_pos (show nI 0 ≤ 0 by decide), if_pos (show (0 : Nat) = 0 from rfl)]
      · rw [if_neg (nI_nle (by omega) (by omega)), if_neg hk0]
    have f1 := X_X9_wind e1
    generalize hI1 : (if k = 0 then X.2 else am_w X.2 42 3 0) = iv1 at e1 f1
    dsimp only at f1
    have I1 : ∀ b j, b ≠ 43 → b ≠ 42 → iv1 b j = iv b j := fun b j _ _ => f1 b j (by simp; omega) (by simp; omega)
    have hCm : mo_C (am_w (am_w iv1 54 3 0) 54 47 x) c := h.1.2.2.1.fr (fun b h1 h2 => by
      funext j; rw [am_w_other _ _ _ (by omega), am_w_other _ _ _ (by omega)]; exact I1 b j (by omega) (by omega))
    obtain ⟨Y, y1, y2, y3, y4, y5⟩ := P_wind (S := wd_S) (R := wd_R) (fun x => rfl) (fun y => rfl) (iv := am_w (am_w iv1 54 3 0) 54 47 x) (a := a) (k := k) (t := ((0 : Int32), x, o, iv 43)) hCm hc (by simp [am_w_r, I1]; exact m0) (by simp [am_w_r, I1]; exact m1) (by omega) b1 (fun i hi => by simp [am_w_r, I1]; exact (r1 i hi).symm) (by simp [am_w_r]) (by omega)
    rw [hT] at y2 y4 y5
    have e2 : F_X10_wind x (nI k) iv1 = some (T.1, if k = 0 then Y.2 else am_w Y.2 54 32 0) := by
      unfold F_X10_wind
      rw [e60, P_isIn0 (by decide), hy, am_o1_s, if_neg (show ¬ am_bi true = 0 by decide), y1, am_o1_s, y2]
      by_cases hk0 : k = 0
      · subst hk0; rw [if_pos (show nI 0 ≤ 0 by decide), if_pos (show (0 : Nat) = 0 from rfl)]
      · rw [if_neg (nI_nle (by omega) (by omega)), if_neg hk0]
    have f2 := X_X10_wind e2
    generalize hI2 : (if k = 0 then Y.2 else am_w Y.2 54 32 0) = iv2 at e2 f2
    have F : am_fr [43, 72] [(42, 0), (42, 3), (54, 29), (54, 3), (54, 32), (54, 47)] iv iv2 := (f1.up (by simp) (by simp)).tr (f2.up (by simp) (by simp))
    refine Or.inr ⟨T.1, iv1, iv2, e1, e2, ?_, ?_⟩
    · have : iv2 54 3 = Y.2 54 3 := by rw [← hI2]; split <;> simp [am_w_r]
      rw [this, y3 54 3 (by simp) (by simp)]
      simp [am_w_r]
    · refine h.sn (sn.of F hw hp (fun a ha => by simp at ha; rcases ha with rfl | rfl <;> simp [sna] <;> omega) (fun q hq => by simp at hq; rcases hq with rfl | rfl | rfl | rfl | rfl | rfl <;> simp [snf, sna] <;> omega)) (h.2.1.1.fa F (fun a ha => by simp at ha; omega) (fun q hq => by simp at hq; rcases hq with rfl | rfl | rfl | rfl | rfl | rfl <;> simp <;> omega)) ?_
      have c42 : ∀ b j, b ≠ 54 → b ≠ 72 → iv2 b j = iv1 b j := fun b j h1 h2 => f2 b j (by simp; omega) (by simp; omega)
      refine ⟨T.2.2.1, a, f, if k = 0 then m else 0, ⟨hol, b2, b3, by split <;> omega⟩, ⟨?_, ?_, ?_, ?_⟩, ⟨?_, ?_, ?_, ?_⟩, fun i hi => ?_, fun i hi => ?_, fun i hi => ?_, ?_, ?_⟩
      · rw [c42 _ _ (by decide) (by decide), ← hI1]; split
        · exact x4
        · simp [am_w_r]; exact x4
      · rw [F 42 1 (by simp) (by simp)]; exact s1
      · rw [F 42 2 (by simp) (by simp)]; exact s2
      · rw [c42 _ _ (by decide) (by decide), ← hI1]
        by_cases hk0 : k = 0
        · rw [if_pos hk0, if_pos hk0, x3 42 3 (by simp) (by simp)]; exact s3
        · rw [if_neg hk0, if_neg hk0]; simp [am_w_r]; rfl
      · rw [← hI2]; split
        · exact y4
        · simp [am_w_r]; exact y4
      · rw [F 54 30 (by simp) (by simp)]; exact m1
      · rw [F 54 31 (by simp) (by simp)]; exact m2
      · rw [← hI2]
        by_cases hk0 : k = 0
        · rw [if_pos hk0, if_pos hk0, y3 54 32 (by simp) (by simp)]; simp [am_w_r, I1]; exact m3
        · rw [if_neg hk0, if_neg hk0]; simp [am_w_r]; rfl
      · have q1 : iv2 43 i = T.2.2.2 i := by
          rw [c42 _ _ (by decide) (by decide), ← hI1]; split
          · exact x5 i hi
          · simp [am_w_r]; exact x5 i hi
        have q2 : iv2 72 i = T.2.2.2 i := by
          rw [← hI2]; split
          · exact y5 i hi
          · simp [am_w_r]; exact y5 i hi
        rw [q2]; exact q1
      · obtain ⟨z, z1, z2, z3⟩ := r2 i (by split at hi <;> omega)
        exact ⟨z, z1, by rw [F 44 i (by simp) (by simp)]; exact z2, by rw [F 73 i (by simp) (by simp)]; exact z3⟩
      · obtain ⟨z, z1, z2, z3⟩ := r3 i (by split at hi <;> omega)
        exact ⟨z, z1, by rw [F 45 i (by simp) (by simp)]; exact z2, by rw [F 74 i (by simp) (by simp)]; exact z3⟩
      · rw [F 42 4 (by simp) (by simp), F 70 0 (by simp) (by simp)]; exact r4
      · rw [F 42 5 (by simp) (by simp), F 70 1 (by simp) (by simp)]; exact r5
end B58
