/-! opens, shuts, bread -/
theorem nI_bg {s d : Nat} (hs : s < 1024) (hd : d < 10) : (nI s &&& nI (2 ^ d) = nI (2 ^ d)) ↔ s.testBit d = true := by
  have h1 : 2 ^ d < 1024 := am_p2 (k := 10) hd
  rw [fa_and, am_eq (Nat.lt_of_le_of_lt Nat.and_le_left (by omega)) (by omega)]
  constructor
  · intro h
    have h2 := congrArg (fun y => Nat.testBit y d) h
    simpa [Nat.testBit_and] using h2
  · intro h
    refine Nat.eq_of_testBit_eq (fun i => ?_)
    rw [Nat.testBit_and]
    by_cases e : d = i
    · subst e; rw [h]; simp
    · rw [Nat.testBit_two_pow_of_ne e, Bool.and_false]
section B64
variable {E : am_E} {S : am_S} {iv : am_I} {Q : am_O → am_S → am_I → Prop} {w v fd nf sn ns pp np d : Nat} {c : Nat → Nat → Nat} {ρ : ru_T}
theorem M_opens {x : Int32} (h : SR S w v fd nf sn ns pp np) (hR : Rel w pp np iv c ρ)
    (hT : xin x (cy_n c) = false → ∀ nx, S.2.2.2 ≤ nx → Q (.inr "java/util/NoSuchElementException") (S.1, S.2.1, S.2.2.1, nx) iv)
    (hQ : ∀ S' iv1 r fd' nf' sn' ns' pp' np', xin x (cy_n c) = true → SR S' w v fd' nf' sn' ns' pp' np' → nf' = (if nf < 2 ^ cy_n c then 2 ^ cy_n c else nf) → S.2.2.2 ≤ S'.2.2.2 → uz iv iv1 → agm (F_X10_opens x) w pp' np' c ρ r iv1 → Q (.inl (some (.int r))) S' iv1) :
    am_M E (d + 10) mX9_opens 4 (6 + (sct nf (2 ^ cy_n c) + 6143)) [.ref 0, .int x] S iv Q := by
  have hL := h.1
  have hww : w = 2 ∨ w = 22 := by have := h.2.2.2.2.1; omega
  have hc := hR.1.1
  have hn := hc.1
  have h10 := cy_p10 hn
  have h1p : 1 ≤ 2 ^ cy_n c := Nat.one_le_two_pow
  have h00 : S.1 0 = some (.inl 9) := hL.1 _ _ rfl
  have h08 : S.2.1 0 8 = some 50 := hL.2.1 _ _ _ rfl
  have h05 : S.2.1 0 5 = some 42 := hL.2.1 _ _ _ rfl
  have h03 : S.2.1 0 3 = some w := h.2.1.1
  have h42 : S.1 42 = some (.inl 7) := hL.1 _ _ rfl
  have h50 : S.1 50 = some (.inl 6) := hL.1 _ _ rfl
  refine am_enter (js := []) rfl pn_X9 rfl rfl rfl (Nat.le_of_ble_eq_true rfl) ?_
  refine sX9_opens_0 rfl (sX9_opens_1 (sX9_opens_2_k (k' := 1) (k := 3) (n' := 6) (n := sct nf (2 ^ cy_n c) + 6143) h00 (Nat.le_of_ble_eq_true rfl) (R_X9_demandDrawer hL hww h03 (K_demandDrawer hR.2.1.1.1) ?_ (by omega))))
  cases hx : xin x (cy_n c) with
  | false => exact fun nx hnx => am_Tout rfl (hT hx nx hnx)
  | true =>
    obtain ⟨dd, hdd, rfl⟩ := xin_t (by omega) hx
    obtain ⟨o, a, f, m, ⟨b1, b2, b3, b4⟩, ⟨s0, s1, s2, s3⟩, ⟨m0, m1, m2, m3⟩, -⟩ := hR.2.2.1
    have hkM : kM c false = 2 ^ cy_n c := by simp [kM]
    have h2d : 2 ^ dd < 2 ^ cy_n c := am_p2 hdd
    have h5 := cy_p5 hc.2.2.1
    show am_R E (d + 10) mX9_opens 3 (sct nf (2 ^ cy_n c) + 6143) 5 _ _ S iv Q
    refine (sX9_opens_5 rfl (sX9_opens_6 rfl (sX9_opens_7 (by assumption) (by assumption) (sX9_opens_10 rfl (sX9_opens_11 (by assumption) (by assumption) (sX9_opens_14 rfl (sX9_opens_15 (by assumption) (by assumption) (sX9_opens_18 (by assumption) (sX9_opens_21 rfl (sX9_opens_22 (by assumption) (by assumption) (sX9_opens_25 (by assumption) (sX9_opens_28 (sX9_opens_29 (sX9_opens_30 (sX9_opens_31 (sX9_opens_32 (sX9_opens_33 ?_)))))))))))))))))
    rw [s0, s1, am_shl1 dd (by omega)]
    have hkh : kh c false (32 * o + f) = o := by
      unfold kh; simp; omega
    rw [← hkM]
    refine sX9_opens_34_k (k' := 2) (k := 1) (n' := sct nf (kM c false)) (n := 6143) h50 (Nat.le_of_ble_eq_true rfl) (M_seek (br := false) (s0 := kh c false (32 * o + f)) (g := fun s => s.testBit dd) h hww hR.2.1.1 hc hR.1.2.1 (by omega) ?_ (by rw [hkM, hkh]; exact b1) ?_ ?_ (fun S' iv1 fd' nf' sn' ns' r hS' hcl g2 g3 hE hf => ?_))
    · exact ⟨fun _ => rfl, fun _ => nI_le (by omega) (by omega)⟩
    · rw [if_neg (by decide), fa_and, and_mask, Nat.mod_eq_of_lt b1, hkh]
    · intro s hs
      rw [hkM] at hs
      exact nI_bg (by omega) (by omega)
    · show am_R E (d + 10) mX9_opens 1 6143 37 _ _ S' iv1 Q
      have h00' : S'.1 0 = some (.inl 9) := hS'.1.1 _ _ rfl
      have hpp := h.2.2.2.2.2.1.2.2
      have hR1 : Rel w pp np iv1 c ρ := hR.srch hww hpp hE.1.1 hf
      refine sX9_opens_37_k (k' := 1) (k := 0) (n' := 6143) (n := 0) h00' (Nat.le_of_ble_eq_true rfl) (M_keepA (what := 0) (x := dd) (g := fun s => s.testBit dd) (fm := F_X10_opens (nI dd)) hS' hR1 hcl hE (by rw [hf 54 29 (by omega)]; exact m0) (by rw [hf 54 31 (by omega)]; exact m2) (by rw [hf 54 30 (by omega)]; exact m1) b1 b3 b2 (by omega) (by omega) ?_ ?_ (fun S'' iv2 r' pp' np' hS'' g4 hu hA => ?_))
      · intro k hk
        simp [mg, kh]
      · intro iv3 y iv4 hC3 he
        unfold F_X10_opens
        have hC4 : mo_C (am_w iv3 54 3 0) c := hC3.fr (fun a a1 a2 => am_w_other _ _ _ (by omega))
        rw [P_isDrawer hC4 hc, hx, am_o1_s, if_neg (show ¬ am_bi true = 0 by decide), show (0 : Int32) = nI 0 from rfl]
        rw [show (0 : Int32) = nI 0 from rfl] at he
        rw [he, am_o2_s]
      · exact sX9_opens_40 (hQ S'' iv2 r' fd' nf' sn' ns' pp' np' hx hS'' (by rw [← hkM]; exact g2) (by omega) ((uz.of hww hf).tr hu) hA)
theorem M_shuts {x : Int32} (h : SR S w v fd nf sn ns pp np) (hR : Rel w pp np iv c ρ)
    (hT : xin x (cy_n c) = false → ∀ nx, S.2.2.2 ≤ nx → Q (.inr "java/util/NoSuchElementException") (S.1, S.2.1, S.2.2.1, nx) iv)
    (hQ : ∀ S' iv1 r fd' nf' sn' ns' pp' np', xin x (cy_n c) = true → SR S' w v fd' nf' sn' ns' pp' np' → nf' = (if nf < 2 ^ cy_n c then 2 ^ cy_n c else nf) → S.2.2.2 ≤ S'.2.2.2 → uz iv iv1 → agm (F_X10_shuts x) w pp' np' c ρ r iv1 → Q (.inl (some (.int r))) S' iv1) :
    am_M E (d + 10) mX9_shuts 4 (6 + (sct nf (2 ^ cy_n c) + 6143)) [.ref 0, .int x] S iv Q := by
  have hL := h.1
  have hww : w = 2 ∨ w = 22 := by have := h.2.2.2.2.1; omega
  have hc := hR.1.1
  have hn := hc.1
  have h10 := cy_p10 hn
  have h1p : 1 ≤ 2 ^ cy_n c := Nat.one_le_two_pow
  have h00 : S.1 0 = some (.inl 9) := hL.1 _ _ rfl
  have h08 : S.2.1 0 8 = some 50 := hL.2.1 _ _ _ rfl
  have h05 : S.2.1 0 5 = some 42 := hL.2.1 _ _ _ rfl
  have h03 : S.2.1 0 3 = some w := h.2.1.1
  have h42 : S.1 42 = some (.inl 7) := hL.1 _ _ rfl
  have h50 : S.1 50 = some (.inl 6) := hL.1 _ _ rfl
  refine am_enter (js := []) rfl pn_X9 rfl rfl rfl (Nat.le_of_ble_eq_true rfl) ?_
  refine sX9_shuts_0 rfl (sX9_shuts_1 (sX9_shuts_2_k (k' := 1) (k := 3) (n' := 6) (n := sct nf (2 ^ cy_n c) + 6143) h00 (Nat.le_of_ble_eq_true rfl) (R_X9_demandDrawer hL hww h03 (K_demandDrawer hR.2.1.1.1) ?_ (by omega))))
  cases hx : xin x (cy_n c) with
  | false => exact fun nx hnx => am_Tout rfl (hT hx nx hnx)
  | true =>
    obtain ⟨dd, hdd, rfl⟩ := xin_t (by omega) hx
    obtain ⟨o, a, f, m, ⟨b1, b2, b3, b4⟩, ⟨s0, s1, s2, s3⟩, ⟨m0, m1, m2, m3⟩, -⟩ := hR.2.2.1
    have hkM : kM c false = 2 ^ cy_n c := by simp [kM]
    have h2d : 2 ^ dd < 2 ^ cy_n c := am_p2 hdd
    have h5 := cy_p5 hc.2.2.1
    show am_R E (d + 10) mX9_shuts 3 (sct nf (2 ^ cy_n c) + 6143) 5 _ _ S iv Q
    refine (sX9_shuts_5 rfl (sX9_shuts_6 rfl (sX9_shuts_7 (by assumption) (by assumption) (sX9_shuts_10 rfl (sX9_shuts_11 (by assumption) (by assumption) (sX9_shuts_14 rfl (sX9_shuts_15 (by assumption) (by assumption) (sX9_shuts_18 (by assumption) (sX9_shuts_21 rfl (sX9_shuts_22 (by assumption) (by assumption) (sX9_shuts_25 (by assumption) (sX9_shuts_28 (sX9_shuts_29 (sX9_shuts_30 (sX9_shuts_31 ?_)))))))))))))))
    rw [s0, s1, am_shl1 dd (by omega)]
    have hkh : kh c false (32 * o + f) = o := by
      unfold kh; simp; omega
    rw [← hkM]
    refine sX9_shuts_32_k (k' := 2) (k := 1) (n' := sct nf (kM c false)) (n := 6143) h50 (Nat.le_of_ble_eq_true rfl) (M_seek (br := false) (s0 := kh c false (32 * o + f)) (g := fun s => !s.testBit dd) h hww hR.2.1.1 hc hR.1.2.1 (by omega) ?_ (by rw [hkM, hkh]; exact b1) ?_ ?_ (fun S' iv1 fd' nf' sn' ns' r hS' hcl g2 g3 hE hf => ?_))
    · exact ⟨fun _ => rfl, fun _ => nI_le (by omega) (by omega)⟩
    · rw [if_neg (by decide), fa_and, and_mask, Nat.mod_eq_of_lt b1, hkh]
    · intro s hs
      rw [hkM] at hs
      rw [nI_p0 (by omega) (by omega)]
      simp
    · show am_R E (d + 10) mX9_shuts 1 6143 35 _ _ S' iv1 Q
      have h00' : S'.1 0 = some (.inl 9) := hS'.1.1 _ _ rfl
      have hpp := h.2.2.2.2.2.1.2.2
      have hR1 : Rel w pp np iv1 c ρ := hR.srch hww hpp hE.1.1 hf
      refine sX9_shuts_35_k (k' := 1) (k := 0) (n' := 6143) (n := 0) h00' (Nat.le_of_ble_eq_true rfl) (M_keepA (what := 1) (x := dd) (g := fun s => !s.testBit dd) (fm := F_X10_shuts (nI dd)) hS' hR1 hcl hE (by rw [hf 54 29 (by omega)]; exact m0) (by rw [hf 54 31 (by omega)]; exact m2) (by rw [hf 54 30 (by omega)]; exact m1) b1 b3 b2 (by omega) (by omega) ?_ ?_ (fun S'' iv2 r' pp' np' hS'' g4 hu hA => ?_))
      · intro k hk
        simp [mg, kh]
      · intro iv3 y iv4 hC3 he
        unfold F_X10_shuts
        have hC4 : mo_C (am_w iv3 54 3 0) c := hC3.fr (fun a a1 a2 => am_w_other _ _ _ (by omega))
        rw [P_isDrawer hC4 hc, hx, am_o1_s, if_neg (show ¬ am_bi true = 0 by decide), show (1 : Int32) = nI 1 from rfl]
        rw [he, am_o2_s]
      · exact sX9_shuts_38 (hQ S'' iv2 r' fd' nf' sn' ns' pp' np' hx hS'' (by rw [← hkM]; exact g2) (by omega) ((uz.of hww hf).tr hu) hA)
/-- whether bread is sought at all -/
def kbr (c : Nat → Nat → Nat) : Bool := !decide (cy_wan c = 0)
theorem wan_lt (hc : cy_ok c) : cy_wan c < 32 := Nat.lt_of_lt_of_le (cy_bits_lt _ _) (cy_p5 hc.2.2.1)
theorem M_seekBread {x sl o f : Nat} (h : SR S w v fd nf sn ns pp np) (hx : x = 2 ∨ x = 22) (hW : cl_W x iv c ρ) (hc : cy_ok c) (ho : ru_ok ρ (cy_r c)) (hsl : sl < 1024) (hol : o < 2 ^ cy_n c) (hf : f < 2 ^ cy_p c) (s0 : iv 42 0 = nI o) (s2 : iv 42 2 = nI f)
    (hQ : ∀ S' iv' fd' nf' sn' ns' r, SR S' w v fd' nf' sn' ns' pp np → cs_L fd' nf' sn' ns' (kM c (kbr c)) → nf' = (if nf < kM c (kbr c) then kM c (kbr c) else nf) → S.2.2.2 ≤ S'.2.2.2 → cs_E x fd' sn' c ρ sl (kbr c) (kh c (kbr c) (32 * o + f)) (fun s => decide (cy_wan c &&& (s / 2 ^ cy_n c) = cy_wan c)) r iv' → sfr x pp iv iv' → Q (.inl (some (.int r))) S' iv') :
    am_M E (d + 7) mX9_seekBread 2 (sct nf (kM c (kbr c))) [.ref 0, .ref x, .int (nI sl)] S iv Q := by
  have hL := h.1
  have hn := hc.1
  have h10 := cy_p10 hn
  have h1p : 1 ≤ 2 ^ cy_n c := Nat.one_le_two_pow
  have h5 := cy_p5 hc.2.2.1
  have hwl := wan_lt hc
  have h00 : S.1 0 = some (.inl 9) := hL.1 _ _ rfl
  have h08 : S.2.1 0 8 = some 50 := hL.2.1 _ _ _ rfl
  have h05 : S.2.1 0 5 = some 42 := hL.2.1 _ _ _ rfl
  have h42 : S.1 42 = some (.inl 7) := hL.1 _ _ rfl
  have h50 : S.1 50 = some (.inl 6) := hL.1 _ _ rfl
  have hx0 : S.1 x = some (.inl 0) := kW_0 hL hx
  have hx7 : S.2.1 x 7 = some (x + 1) := rW_0_7 hL hx
  have hx8 : S.2.1 x 8 = some (x + 10) := rW_0_8 hL hx
  have hx1 : S.1 (x + 1) = some (.inl 2) := kW_1 hL hx
  have hx10 : S.1 (x + 10) = some (.inl 4) := kW_10 hL hx
  have en : iv (x + 1) 0 = nI (cy_n c) := hW.1.1.2.2.2.1
  have hV : kV c (32 * o + f) := ⟨by omega, by omega⟩
  obtain ⟨k1, k2, k3⟩ := kh_md (br := kbr c) hV
  have hcl : ∀ (y : Nat), nI y <<< (nI (cy_n c) &&& 31) = nI (y * 2 ^ cy_n c) := fun y => by rw [am_31 _ (by omega), nI_shl (by omega)]
  refine am_enter (js := [.double 0, .double 0]) rfl pn_X9 rfl rfl rfl (Nat.le_of_ble_eq_true rfl) ?_
  refine (sX9_seekBread_0 rfl (sX9_seekBread_1 (by assumption) (by assumption) (sX9_seekBread_4 (by assumption) (sX9_seekBread_7 rfl (sX9_seekBread_8 (by assumption) (by assumption) (sX9_seekBread_11 (by assumption) (sX9_seekBread_14 rfl (sX9_seekBread_15 (by assumption) (by assumption) (sX9_seekBread_18 (by assumption) (sX9_seekBread_21 (sX9_seekBread_22 (sX9_seekBread_23 (sX9_seekBread_24 rfl (sX9_seekBread_25 (by assumption) (by assumption) (sX9_seekBread_28 (by assumption) (Nat.le_of_ble_eq_true rfl) ((R_X4_hungry hL hx (K_hungry hW.1 hc) (sX9_seekBread_31 rfl (sX9_seekBread_32 (by assumption) (by assumption) (sX9_seekBread_35 (by assumption) (sX9_seekBread_38 (sX9_seekBread_39 (sX9_seekBread_41 rfl (sX9_seekBread_42 (by assumption) (by assumption) (sX9_seekBread_45 rfl (sX9_seekBread_46 (sX9_seekBread_47 (sX9_seekBread_48 (sX9_seekBread_50 ?_)))))))))))) (Nat.zero_le _))))))))))))))))))
  rw [s0, s2, en, hcl, hcl, fa_or]
  have hfo : o ||| f * 2 ^ cy_n c = o + f * 2 ^ cy_n c := or_add _ hol
  rw [hfo]
  refine sX9_seekBread_52_k (k' := 2) (k := 0) (n' := sct nf (kM c (kbr c))) (n := 0) h50 (Nat.le_of_ble_eq_true rfl) (M_seek (br := kbr c) (s0 := kh c (kbr c) (32 * o + f)) (g := fun s => decide (cy_wan c &&& (s / 2 ^ cy_n c) = cy_wan c)) h hx hW hc ho hsl ?_ k3 ?_ ?_ (fun S' iv1 fd' nf' sn' ns' r hS' hcl g2 g3 hE hf => ?_))
  · have hml : cy_wan c * 2 ^ cy_n c ≤ 32 * 1024 := Nat.mul_le_mul (by omega) h10
    rw [nI_leI (by omega) (by omega)]
    unfold kbr
    by_cases h0 : cy_wan c = 0
    · simp [h0]
    · have : 1 * 2 ^ cy_n c ≤ cy_wan c * 2 ^ cy_n c := Nat.mul_le_mul_right _ (by omega)
      simp [h0]; omega
  · unfold kh
    by_cases h0 : kbr c = true
    · rw [if_pos h0, if_pos h0]
      congr 1
      have e1 : (32 * o + f) / 32 = o := by omega
      have e2 : (32 * o + f) % 32 = f := by omega
      rw [e1, e2]
    · rw [if_neg h0, if_neg h0, fa_and, and_mask, Nat.add_mul_mod_self_right, Nat.mod_eq_of_lt hol]
      congr 1
      omega
  · intro s hs
    have hsl2 : s < 32768 := Nat.lt_of_lt_of_le hs (kM_le hc _)
    have hml : cy_wan c * 2 ^ cy_n c ≤ 32 * 1024 := Nat.mul_le_mul (by omega) h10
    rw [fa_and, am_eq (Nat.lt_of_le_of_lt Nat.and_le_left (by omega)) (by omega), decide_eq_true_eq]
    have hand : s &&& cy_wan c * 2 ^ cy_n c = (cy_wan c &&& (s / 2 ^ cy_n c)) * 2 ^ cy_n c := by
      refine Nat.eq_of_testBit_eq (fun i => ?_)
      rw [Nat.testBit_and, Nat.testBit_mul_two_pow, Nat.testBit_mul_two_pow, Nat.testBit_and, Nat.testBit_div_two_pow]
      by_cases hi : cy_n c ≤ i
      · have : i - cy_n c + cy_n c = i := by omega
        simp [hi, this, Bool.and_comm]
      · simp [hi]
    rw [hand]
    constructor
    · intro q; exact Nat.eq_of_mul_eq_mul_right (Nat.two_pow_pos _) q
    · intro q; rw [q]
  · exact sX9_seekBread_55 (hQ S' iv1 fd' nf' sn' ns' r hS' hcl g2 g3 hE hf)
theorem mg_bread (hc : cy_ok c) : ∀ k, kV c k → mg c 2 0 k = (fun s => decide (cy_wan c &&& (s / 2 ^ cy_n c) = cy_wan c)) (kh c (kbr c) k) := by
  intro k hk
  obtain ⟨k1, k2, k3⟩ := kh_md (br := kbr c) hk
  by_cases h0 : cy_wan c = 0
  · simp [mg, h0]
  · have hb : kbr c = true := by simp [kbr, h0]
    simp only [mg, if_true]
    rw [k2 hb]
theorem M_bread (h : SR S w v fd nf sn ns pp np) (hR : Rel w pp np iv c ρ)
    (hQ : ∀ S' iv1 r fd' nf' sn' ns' pp' np', SR S' w v fd' nf' sn' ns' pp' np' → nf' = (if nf < kM c (kbr c) then kM c (kbr c) else nf) → S.2.2.2 ≤ S'.2.2.2 → uz iv iv1 → agm F_X10_bread w pp' np' c ρ r iv1 → Q (.inl (some (.int r))) S' iv1) :
    am_M E (d + 10) mX9_bread 3 (sct nf (kM c (kbr c)) + 6143) [.ref 0] S iv Q := by
  have hL := h.1
  have hww : w = 2 ∨ w = 22 := by have := h.2.2.2.2.1; omega
  have hc := hR.1.1
  have hn := hc.1
  have h10 := cy_p10 hn
  have h00 : S.1 0 = some (.inl 9) := hL.1 _ _ rfl
  have h05 : S.2.1 0 5 = some 42 := hL.2.1 _ _ _ rfl
  have h03 : S.2.1 0 3 = some w := h.2.1.1
  have h42 : S.1 42 = some (.inl 7) := hL.1 _ _ rfl
  obtain ⟨o, a, f, m, ⟨b1, b2, b3, b4⟩, ⟨s0, s1, s2, s3⟩, ⟨m0, m1, m2, m3⟩, -⟩ := hR.2.2.1
  refine am_enter (js := []) rfl pn_X9 rfl rfl rfl (Nat.le_of_ble_eq_true rfl) ?_
  refine (sX9_bread_0 rfl (sX9_bread_1 rfl (sX9_bread_2 rfl (sX9_bread_3 (by assumption) (by assumption) (sX9_bread_6 rfl (sX9_bread_7 (by assumption) (by assumption) (sX9_bread_10 (by assumption) ?_)))))))
  rw [s1]
  refine sX9_bread_13_k (k' := 2) (k := 1) (n' := sct nf (kM c (kbr c))) (n := 6143) h00 (Nat.le_of_ble_eq_true rfl) (M_seekBread h hww hR.2.1.1 hc hR.1.2.1 (by omega) b1 b3 s0 s2 (fun S' iv1 fd' nf' sn' ns' r hS' hcl g2 g3 hE hf => ?_))
  show am_R E (d + 10) mX9_bread 1 6143 16 _ _ S' iv1 Q
  have h00' : S'.1 0 = some (.inl 9) := hS'.1.1 _ _ rfl
  have hpp := h.2.2.2.2.2.1.2.2
  have hR1 : Rel w pp np iv1 c ρ := hR.srch hww hpp hE.1.1 hf
  refine sX9_bread_16_k (k' := 1) (k := 0) (n' := 6143) (n := 0) h00' (Nat.le_of_ble_eq_true rfl) (M_keepA (what := 2) (x := 0) (fm := F_X10_bread) hS' hR1 hcl hE (by rw [hf 54 29 (by omega)]; exact m0) (by rw [hf 54 31 (by omega)]; exact m2) (by rw [hf 54 30 (by omega)]; exact m1) b1 b3 b2 (by omega) (by omega) (mg_bread hc) ?_ (fun S'' iv2 r' pp' np' hS'' g4 hu hA => ?_))
  · intro iv3 y iv4 hC3 he
    unfold F_X10_bread
    rw [show (2 : Int32) = nI 2 from rfl, show F_X10_howSoon (nI 2) (0 : Int32) (am_w iv3 54 3 0) = some (y, iv4) from he, am_o2_s]
  · exact sX9_bread_19 (hQ S'' iv2 r' fd' nf' sn' ns' pp' np' hS'' g2 (by omega) ((uz.of hww hf).tr hu) hA)
end B64
