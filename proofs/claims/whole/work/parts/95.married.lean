/-! two homes married: the call -/
theorem two0 {s a b : Nat} : s &&& (2 ^ a ||| 2 ^ b) = 0 ↔ s.testBit a = false ∧ s.testBit b = false := by
  constructor
  · intro h
    have ta := congrArg (fun y => Nat.testBit y a) h
    have tb := congrArg (fun y => Nat.testBit y b) h
    simp only [Nat.testBit_and, Nat.testBit_or, Nat.testBit_two_pow_self, Bool.or_true, Bool.true_or, Bool.and_true, Nat.zero_testBit] at ta tb
    exact ⟨ta, tb⟩
  · rintro ⟨h1, h2⟩
    refine Nat.eq_of_testBit_eq (fun i => ?_)
    rw [Nat.testBit_and, Nat.testBit_or, Nat.zero_testBit]
    by_cases ea : a = i
    · subst ea; rw [h1]; rfl
    · by_cases eb : b = i
      · subst eb; rw [h2]; rfl
      · rw [Nat.testBit_two_pow_of_ne ea, Nat.testBit_two_pow_of_ne eb]; simp
/-- kept out of sight -/
def rsk (P : Prop) : Prop := P
section B95
variable {E : am_E} {S : am_S} {iv : am_I} {Q : am_O → am_S → am_I → Prop} {w v fd nf sn ns pp np d : Nat} {c : Nat → Nat → Nat} {ρ : ru_T}
/-- the two can marry now -/
def cmr (c : Nat → Nat → Nat) (a b s : Nat) : Bool := cy_mry c a b && (!s.testBit a && !s.testBit b)
/-- from the entry to the question -/
theorem M_marB {a b o as k n : Nat} (h : SR S w v fd nf sn ns pp np) (hR : Rel w pp np iv c ρ) (ha : a < cy_n c) (hb : b < cy_n c) (s0 : iv 42 0 = nI o) (s1 : iv 42 1 = nI as) (ho : o < 2 ^ cy_n c) (has : as < 2 ^ cy_n c)
    (hN : cmr c a b (o ||| as) = false → Q (.inl (some (.int (-101)))) S iv)
    (hY : cmr c a b (o ||| as) = true → ∀ z3 z4 z5 z6 : Value, am_R E (d + 10) mX9_married k n 56 [.ref 0, .int (nI a), .int (nI b), z3, z4, z5, z6] [] S iv Q) :
    am_M E (d + 10) mX9_married (1 + (1 + k)) (6 + (6 + n)) [.ref 0, .int (nI a), .int (nI b)] S iv Q := by
  have hL := h.1
  have hww : w = 2 ∨ w = 22 := by have := h.2.2.2.2.1; omega
  have hc := hR.1.1
  have hn := hc.1
  have h10 := cy_p10 hn
  have h00 : S.1 0 = some (.inl 9) := hL.1 _ _ rfl
  have h05 : S.2.1 0 5 = some 42 := hL.2.1 _ _ _ rfl
  have h03 : S.2.1 0 3 = some w := h.2.1.1
  have h42 : S.1 42 = some (.inl 7) := hL.1 _ _ rfl
  have hw0 : S.1 w = some (.inl 0) := kW_0 hL hww
  have hw7 : S.2.1 w 7 = some (w + 1) := rW_0_7 hL hww
  have hw1 : S.1 (w + 1) = some (.inl 2) := kW_1 hL hww
  have xa : xin (nI a) (cy_n c) = true := xin_i ha (by omega)
  have xb : xin (nI b) (cy_n c) = true := xin_i hb (by omega)
  have hs : o ||| as < 1024 := Nat.lt_of_lt_of_le (am_orlt ho has) h10
  have eb : (nI (o ||| as) &&& nI (2 ^ a ||| 2 ^ b) = 0) ↔ ((o ||| as).testBit a = false ∧ (o ||| as).testBit b = false) := by
    rw [fa_and, show (0 : Int32) = nI 0 from rfl, am_eq (Nat.lt_of_le_of_lt Nat.and_le_left (by omega)) (by decide)]
    exact two0
  refine am_enter (js := [.double 0, .double 0, .double 0, .double 0]) rfl pn_X9 rfl rfl rfl (Nat.le_of_ble_eq_true rfl) ?_
  refine sX9_married_0 rfl (sX9_married_1 (sX9_married_2_k (k' := 1) (k := 1 + k) (n' := 6) (n := 6 + n) h00 (Nat.le_of_ble_eq_true rfl) (R_X9_demandDrawer hL hww h03 (K_demandDrawer hR.2.1.1.1) ?_ (by omega))))
  rw [xa]
  show am_R E (d + 10) mX9_married (1 + k) (6 + n) 5 _ _ S iv Q
  refine sX9_married_5 rfl (sX9_married_6 (sX9_married_7_k (k' := 1) (k := k) (n' := 6) (n := n) h00 (Nat.le_of_ble_eq_true rfl) (R_X9_demandDrawer hL hww h03 (K_demandDrawer hR.2.1.1.1) ?_ (by omega))))
  rw [xb]
  show am_R E (d + 10) mX9_married k n 10 _ _ S iv Q
  refine (sX9_married_10 (sX9_married_11 (sX9_married_12 (sX9_married_13 (sX9_married_14 (sX9_married_15 (sX9_married_16 (sX9_married_17 (sX9_married_18 rfl (sX9_married_19 (by assumption) (by assumption) (sX9_married_22 (by assumption) (sX9_married_25 rfl (sX9_married_26 (by assumption) (by assumption) (sX9_married_29 (by assumption) (sX9_married_32 (sX9_married_33 (sX9_married_34 ?_)))))))))))))))))
  rw [s0, s1, am_shl1 a (by omega), am_shl1 b (by omega), fa_or, fa_or]
  refine sX9_married_35 (fun q => ?_) (fun q => ?_)
  · refine sX9_married_53 (sX9_married_55 (hN ?_))
    unfold cmr
    cases e1 : (o ||| as).testBit a with
    | true => simp
    | false =>
      cases e2 : (o ||| as).testBit b with
      | true => simp
      | false => exact absurd (eb.mpr ⟨e1, e2⟩) q
  · obtain ⟨t1, t2⟩ := eb.mp q
    refine (sX9_married_38 rfl (sX9_married_39 (by assumption) (by assumption) (sX9_married_42 (by assumption) (by assumption) (sX9_married_45 (sX9_married_46 (sX9_married_47 (by assumption) (Nat.le_of_ble_eq_true rfl) ((R_X2_canMarry hL hww (K_canMarry hR.2.1.1.1 hc ha hb) ?_ (by omega)))))))))
    refine sX9_married_50 (fun q2 => ?_) (fun q2 => ?_)
    · refine hY ?_ _ _ _ _
      unfold cmr
      rw [t1, t2]
      cases e : cy_mry c a b with
      | true => rfl
      | false => rw [e] at q2; exact absurd rfl q2
    · refine sX9_married_53 (sX9_married_55 (hN ?_))
      unfold cmr
      cases e : cy_mry c a b with
      | false => rfl
      | true => rw [e] at q2; exact absurd q2 (by decide)
/-- the model, up to its question -/
theorem P_marQ {a b o as : Nat} (hR : Rel w pp np iv c ρ) (hw : w = 2 ∨ w = 22) (hp : adr pp) (ha : a < cy_n c) (hb : b < cy_n c) (m0 : iv 54 29 = nI o) (m1 : iv 54 30 = nI as) (ho : o < 2 ^ cy_n c) (has : as < 2 ^ cy_n c) : F_X10_married (nI a) (nI b) iv = if cmr c a b (o ||| as) = true then (am_o2 (F_X10_soonBread (nI as) (am_w iv 54 3 (0 : Int32))) fun v26 w26 => J_X10_married_48 (nI a) (nI b) v26 w26) else some (-101, am_w iv 54 3 (0 : Int32)) := by
  have hc := hR.1.1
  have hn := hc.1
  have h10 := cy_p10 hn
  have hr0 := hR.code hw hp 0
  have hC0 := hr0.1.2.2.1
  have n0 : am_w iv 54 3 (0 : Int32) 54 29 = nI o := by rw [am_code1 _ (by decide)]; exact m0
  have n1 : am_w iv 54 3 (0 : Int32) 54 30 = nI as := by rw [am_code1 _ (by decide)]; exact m1
  have hs : o ||| as < 1024 := Nat.lt_of_lt_of_le (am_orlt ho has) h10
  have pc := P_canMarry hC0 hc ha hb hs (by rw [n0, n1, fa_or])
  unfold F_X10_married
  rw [P_isDrawer hC0 hc, xin_i ha (by omega), am_o1_s, if_neg (show ¬ am_bi true = 0 by decide), P_isDrawer hC0 hc, xin_i hb (by omega), am_o1_s, if_neg (show ¬ am_bi true = 0 by decide), pc, am_o1_s, n1]
  unfold cmr
  cases e : (cy_mry c a b && (!(o ||| as).testBit a && !(o ||| as).testBit b)) with
  | true => rw [if_neg (show ¬ am_bi true = 0 by decide), if_pos (show true = true from rfl)]
  | false =>
    rw [if_pos (show am_bi false = 0 from rfl), if_neg (show ¬ false = true by decide)]
    unfold J_X10_married_48
    rw [if_pos (show (-1 : Int32) = -1 from rfl)]
theorem M_marriedN {a b o as : Nat} (h : SR S w v fd nf sn ns pp np) (hR : Rel w pp np iv c ρ) (ha : a < cy_n c) (hb : b < cy_n c) (s0 : iv 42 0 = nI o) (s1 : iv 42 1 = nI as) (m0 : iv 54 29 = nI o) (m1 : iv 54 30 = nI as) (ho : o < 2 ^ cy_n c) (has : as < 2 ^ cy_n c) (hn : cmr c a b (o ||| as) = false)
    (hQ : agm (F_X10_married (nI a) (nI b)) w pp np c ρ (-101) iv → Q (.inl (some (.int (-101)))) S iv) : am_M E (d + 10) mX9_married 2 12 [.ref 0, .int (nI a), .int (nI b)] S iv Q := by
  have hww : w = 2 ∨ w = 22 := by have := h.2.2.2.2.1; omega
  have hpp := h.2.2.2.2.2.1.2.2
  refine M_marB (k := 0) (n := 0) h hR ha hb s0 s1 ho has (fun _ => hQ ⟨am_w iv 54 3 0, ?_, am_code0 _, hR.code hww hpp 0⟩) (fun q => by rw [hn] at q; cases q)
  rw [P_marQ hR hww hpp ha hb m0 m1 ho has, hn, if_neg (show ¬ false = true by decide)]
theorem M_marriedT {x y : Int32} (h : SR S w v fd nf sn ns pp np) (hR : Rel w pp np iv c ρ) (hx : xin x (cy_n c) = false ∨ xin y (cy_n c) = false) (hT : ∀ nx, S.2.2.2 ≤ nx → Q (.inr "java/util/NoSuchElementException") (S.1, S.2.1, S.2.2.1, nx) iv) : am_M E (d + 10) mX9_married 2 12 [.ref 0, .int x, .int y] S iv Q := by
  have hL := h.1
  have hww : w = 2 ∨ w = 22 := by have := h.2.2.2.2.1; omega
  have h00 : S.1 0 = some (.inl 9) := hL.1 _ _ rfl
  have h03 : S.2.1 0 3 = some w := h.2.1.1
  refine am_enter (js := [.double 0, .double 0, .double 0, .double 0]) rfl pn_X9 rfl rfl rfl (Nat.le_of_ble_eq_true rfl) ?_
  refine sX9_married_0 rfl (sX9_married_1 (sX9_married_2_k (k' := 1) (k := 1) (n' := 6) (n := 6) h00 (Nat.le_of_ble_eq_true rfl) (R_X9_demandDrawer hL hww h03 (K_demandDrawer hR.2.1.1.1) ?_ (by omega))))
  cases hx1 : xin x (cy_n c) with
  | false => exact fun nx hnx => am_Tout rfl (hT nx hnx)
  | true =>
    have hy1 : xin y (cy_n c) = false := by
      rcases hx with q | q
      · rw [hx1] at q; cases q
      · exact q
    show am_R E (d + 10) mX9_married 1 6 5 _ _ S iv Q
    refine sX9_married_5 rfl (sX9_married_6 (sX9_married_7_k (k' := 1) (k := 0) (n' := 6) (n := 0) h00 (Nat.le_of_ble_eq_true rfl) (R_X9_demandDrawer hL hww h03 (K_demandDrawer hR.2.1.1.1) ?_ (by omega))))
    rw [hy1]
    exact fun nx hnx => am_Tout rfl (hT nx hnx)
theorem M_marriedY {a b o as f : Nat} (h : SR S w v fd nf sn ns pp np) (hR : Rel w pp np iv c ρ) (hz : zz iv) (ha : a < cy_n c) (hb : b < cy_n c) (s0 : iv 42 0 = nI o) (s1 : iv 42 1 = nI as) (s2 : iv 42 2 = nI f) (m0 : iv 54 29 = nI o) (m1 : iv 54 30 = nI as) (m2 : iv 54 31 = nI f) (ho : o < 2 ^ cy_n c) (has : as < 2 ^ cy_n c) (hf : f < 2 ^ cy_p c) (hy : cmr c a b (o ||| as) = true)
    (hQ : ∀ S' iv1 r fd' nf' sn' ns', SR S' w v fd' nf' sn' ns' pp np → nf' = (if nf < kM c (kbr c) then kM c (kbr c) else nf) → zz iv1 → agm (F_X10_married (nI a) (nI b)) w pp np c ρ r iv1 → Q (.inl (some (.int r))) S' iv1) :
    am_M E (d + 10) mX9_married 6 (12 + sct nf (kM c (kbr c))) [.ref 0, .int (nI a), .int (nI b)] S iv Q := by
  have hwv := h.2.2.2.2.1
  have hww : w = 2 ∨ w = 22 := by omega
  have hvv : v = 2 ∨ v = 22 := by omega
  have hpp := h.2.2.2.2.2.1.2.2
  have hp1 := hpp.1
  have hp2 := hpp.2
  have hc := hR.1.1
  have hn := hc.1
  have h10 := cy_p10 hn
  have h5 := cy_p5 hc.2.2.1
  have hmry : cy_mry c a b = true := by unfold cmr at hy; exact (Bool.and_eq_true_iff.mp hy).1
  have hc2 := mar_ok hc ha hb hmry
  have h2b : 2 ^ b < 2 ^ cy_n c := am_p2 hb
  have hsb : as ||| 2 ^ b < 2 ^ cy_n c := am_orlt has h2b
  rw [show 12 + sct nf (kM c (kbr c)) = 6 + (6 + sct nf (kM c (kbr c))) by omega]
  refine M_marB (k := 4) (n := sct nf (kM c (kbr c))) h hR ha hb s0 s1 ho has (fun q => by rw [hy] at q; cases q) (fun _ z3 z4 z5 z6 => ?_)
  have hL := h.1
  have h00 : S.1 0 = some (.inl 9) := hL.1 _ _ rfl
  have h05 : S.2.1 0 5 = some 42 := hL.2.1 _ _ _ rfl
  have h03 : S.2.1 0 3 = some w := h.2.1.1
  have h42 : S.1 42 = some (.inl 7) := hL.1 _ _ rfl
  refine (sX9_married_56 rfl (sX9_married_57 rfl (sX9_married_58 (by assumption) (by assumption) (sX9_married_61 rfl (sX9_married_62 (by assumption) (by assumption) (sX9_married_65 (by assumption) ?_))))))
  rw [s1]
  refine sX9_married_68_k (k' := 2) (k := 2) (n' := sct nf (kM c (kbr c))) (n := 0) h00 (Nat.le_of_ble_eq_true rfl) (M_seekBread h hww hR.2.1.1 hc hR.1.2.1 (by omega) ho hf s0 s2 (fun S1 iv1 fd1 nf1 sn1 ns1 r1 hS1 hcl1 g1 _ hE1 hf1 => ?_))
  show am_R E (d + 10) mX9_married 2 0 71 _ _ S1 iv1 Q
  have hR1 : Rel w pp np iv1 c ρ := hR.srch hww hpp hE1.1.1 hf1
  have hz1 : zz iv1 := ⟨by rw [(uz.of hww hf1).1]; exact hz.1, by rw [(uz.of hww hf1).2]; exact hz.2⟩
  obtain ⟨hI1, N1, st1, par1, lab1, p1, hSs1, hbf1, hr1o⟩ := hE1
  have hr1 : rsk _ := hr1o
  clear hr1o
  have hL1 := hS1.1
  have hF1 := hS1.2.2.1
  have k00 : S1.1 0 = some (.inl 9) := hL1.1 _ _ rfl
  have k05 : S1.2.1 0 5 = some 42 := hL1.2.1 _ _ _ rfl
  have k08 : S1.2.1 0 8 = some 50 := hL1.2.1 _ _ _ rfl
  have k03 : S1.2.1 0 3 = some w := hS1.2.1.1
  have k04 : S1.2.1 0 4 = some v := hS1.2.1.2
  have k42 : S1.1 42 = some (.inl 7) := hL1.1 _ _ rfl
  have k50 : S1.1 50 = some (.inl 6) := hL1.1 _ _ rfl
  have kw0 : S1.1 w = some (.inl 0) := kW_0 hL1 hww
  have kv0 : S1.1 v = some (.inl 0) := kW_0 hL1 hvv
  refine sX9_married_71 (sX9_married_73 (sX9_married_75 (sX9_married_76 (fun q => ?_) (fun q => ?_))))
  · -- a way there is
    rcases hr1 with ⟨r1e, -, -⟩ | ⟨j1, j1l, j1e, j1g, j1n⟩
    · exact absurd r1e q
    have hlen1 := K_len hc hSs1 hbf1 j1l
    have hN1 : N1 ≤ 32768 := Nat.le_trans hSs1.2.1 (kM_le hc _)
    have st1e := K_stepsTo (sl := as) hSs1 hcl1 hbf1 j1l
    rw [← j1e] at st1e
    refine sX9_married_82 rfl (sX9_married_83 k00 k08 (sX9_married_86 (sX9_married_88 k50 (Nat.le_of_ble_eq_true rfl) (R_X6_stepsTo hL1 hF1 st1e ?_ (Nat.zero_le _)))))
    obtain ⟨iv2, e2, c2C, c2R⟩ := K_copyFrom (w := v) (v := w) (by omega) hI1.1.1 hc hI1.1.2.1 hR.1.2.1
    have f2 := X_X0_copyFrom e2
    refine sX9_married_91 (sX9_married_93 rfl (sX9_married_94 k00 k04 (sX9_married_97 rfl (sX9_married_98 k00 k03 (sX9_married_101 kv0 (Nat.le_of_ble_eq_true rfl) (R_X0_copyFrom hL1 hvv hww e2 ?_ (by omega)))))))
    obtain ⟨iv3, e3, c3W⟩ := K_marry c2C c2R hc ha hb hmry
    have f3 := X_X0_marry e3
    refine sX9_married_104 rfl (sX9_married_105 k00 k04 (sX9_married_108 (sX9_married_109 (sX9_married_110 kv0 (Nat.le_of_ble_eq_true rfl) (R_X0_marry hL1 hvv e3 ?_ (by omega))))))
    have G3 : ∀ x j, x < v ∨ v + 20 ≤ x → iv3 x j = iv1 x j := fun x j hx => by
      rw [f3 x j (by simp; omega) (by simp; omega), f2 x j (by simp; omega) (by simp; omega)]
    have s0' : iv3 42 0 = nI o := by rw [G3 42 0 (by omega), hf1 42 0 (by omega)]; exact s0
    have s1' : iv3 42 1 = nI as := by rw [G3 42 1 (by omega), hf1 42 1 (by omega)]; exact s1
    have s2' : iv3 42 2 = nI f := by rw [G3 42 2 (by omega), hf1 42 2 (by omega)]; exact s2
    show am_R E (d + 10) mX9_married 2 0 113 _ _ S1 iv3 Q
    refine (sX9_married_113 rfl (sX9_married_114 rfl (sX9_married_115 (by assumption) (by assumption) (sX9_married_118 rfl (sX9_married_119 (by assumption) (by assumption) (sX9_married_122 (by assumption) (sX9_married_125 (sX9_married_126 (sX9_married_127 (sX9_married_128 ?_))))))))))
    rw [s1', am_shl1 b (by omega), fa_or]
    have hM1 : kM c (kbr c) ≤ nf1 := by rw [g1]; split <;> omega
    have hct : sct nf1 (kM (cy_mar c a b) (kbr (cy_mar c a b))) = 0 := by rw [mar_kbr, mar_kM]; unfold sct; rw [if_neg (by omega)]
    refine am_R.less (k := 2 + 0) (n := sct nf1 (kM (cy_mar c a b) (kbr (cy_mar c a b))) + 0) ?_ (by omega) (by omega)
    refine sX9_married_129_k (k' := 2) (k := 0) (n' := sct nf1 (kM (cy_mar c a b) (kbr (cy_mar c a b)))) (n := 0) k00 (Nat.le_of_ble_eq_true rfl) (M_seekBread (c := cy_mar c a b) hS1 hvv c3W hc2 (by rw [mar_nr]; exact hR.1.2.1) (by omega) (by rw [mar_n]; exact ho) (by rw [mar_p]; exact hf) s0' s2' (fun S2 iv4 fd2 nf2 sn2 ns2 r2 hS2 hcl2 g2 _ hE2 hf2 => ?_))
    show am_R E (d + 10) mX9_married 0 0 132 _ _ S2 iv4 Q
    obtain ⟨hI2, N2, st2, par2, lab2, p2, hSs2, hbf2, hr2o⟩ := hE2
    have hr2 : rsk _ := hr2o
    clear hr2o
    have hnf2 : nf2 = (if nf < kM c (kbr c) then kM c (kbr c) else nf) := by rw [g2, mar_kbr, mar_kM, if_neg (by omega)]; exact g1
    have G4 : ∀ x j, (x < 50 ∧ (x < v ∨ v + 20 ≤ x)) ∨ (54 ≤ x ∧ x < 89) ∨ x = pp → iv4 x j = iv1 x j := fun x j hx => by
      rw [hf2 x j (by omega), G3 x j (by omega)]
    have hR4 : Rel w pp np iv4 c ρ := by
      refine hR1.fr ⟨fun k hk => funext fun j => G4 _ j (by omega), fun x hx => funext fun j => G4 _ j (by omega), fun k hk => G4 _ _ (by omega)⟩ (hR1.2.1.1.eq (fun k hk j => G4 _ j (by omega)))
    have z15 : iv4 (v + 15) 0 = 0 := by
      have := hI2.1.2.1.1 0 (Nat.zero_le _)
      rw [hR.1.2.1.1] at this
      exact this
    have hz4 : zz iv4 := by
      rcases hwv with ⟨-, qv⟩ | ⟨-, qv⟩
      · subst qv; exact ⟨by rw [G4 17 0 (by omega)]; exact hz1.1, z15⟩
      · subst qv; exact ⟨z15, by rw [G4 37 0 (by omega)]; exact hz1.2⟩
    have q54 : ∀ j, iv4 54 j = iv 54 j := fun j => by rw [G4 54 j (by omega), hf1 54 j (by omega)]
    have hr0 := hR4.code hww hpp 0
    have n29 : am_w iv4 54 3 (0 : Int32) 54 29 = nI o := by rw [am_code1 _ (by decide), q54]; exact m0
    have n30 : am_w iv4 54 3 (0 : Int32) 54 30 = nI as := by rw [am_code1 _ (by decide), q54]; exact m1
    have n31 : am_w iv4 54 3 (0 : Int32) 54 31 = nI f := by rw [am_code1 _ (by decide), q54]; exact m2
    have MQ := P_marQ hR4 hww hpp ha hb (by rw [q54]; exact m0) (by rw [q54]; exact m1) ho has
    rw [hy, if_pos (show true = true from rfl)] at MQ
    have hN2 : N2 ≤ 32768 := Nat.le_trans hSs2.2.1 (kM_le hc2 _)
    rcases A_bread (sl := as) hr0.1 n29 n31 ho hf (by omega) hbf1 (Or.inr ⟨j1, j1l, j1e, j1g, j1n⟩) with ⟨rr, -⟩ | ⟨j, jl, je, iw, ew⟩
    · exact absurd rr q
    have hjj : j = j1 := by
      rw [j1e] at je
      exact ((am_eq (by omega) (by omega)).mp je).symm
    subst hjj
    have fw := X_X10_soonBread ew
    have hMw : RM iw c ρ := hr0.1.fr (fw.m (by decide) (by decide))
    rw [ew, am_o2_s] at MQ
    obtain ⟨iv5, u1, u3, u2o⟩ := P_wed (L := (bo par1 lab1 j).length) hMw ha hb hmry (by omega) hN2 (by rw [fw 54 29 (by simp) (by simp)]; exact n29) (by rw [fw 54 31 (by simp) (by simp)]; exact n31) (by rw [fw 54 30 (by simp) (by simp)]; exact n30) ho hf has hbf2 hr2
    have u2 : rsk _ := u2o
    clear u2o
    have u3' : iv5 54 3 = 0 := by rw [u3, fw 54 3 (by simp) (by simp)]; exact am_code0 _
    have REL : ∀ vv, F_X10_married (nI a) (nI b) iv4 = some (vv, iv5) → Rel w pp np iv5 c ρ := by
      intro vv ev
      have fm := X_X10_married ev
      have row : ∀ x j, 58 ≤ x → x < 70 → iv5 x j = iv4 x j := fun x j x1 x2 => by
        rw [u1 x j x1 x2, fw x j (by simp; omega) (by simp; omega), am_w_other _ _ _ (by omega)]
      refine hR4.fr' ⟨fun k hk => funext fun j => fm _ j (by simp; omega) (by simp; omega), fun x hx => funext fun j => ?_, fun k hk => fm _ _ (by simp) (by simp; omega)⟩ (funext fun j => fm _ j (by simp; omega) (by simp; omega))
      by_cases hx5 : 58 ≤ x ∧ x < 70
      · exact row x j hx5.1 hx5.2
      · exact fm _ j (by simp; omega) (by simp; omega)
    have t00 : S2.1 0 = some (.inl 9) := hS2.1.1 _ _ rfl
    have t08 : S2.2.1 0 8 = some 50 := hS2.1.2.1 _ _ _ rfl
    have t50 : S2.1 50 = some (.inl 6) := hS2.1.1 _ _ rfl
    refine sX9_married_132 (sX9_married_134 (sX9_married_136 (sX9_married_137 (fun q2 => ?_) (fun q2 => ?_))))
    · rcases u2 with ⟨qq, -⟩ | ⟨j2, j2l, j2e, eJ⟩
      · exact absurd qq q2
      · have st2e := K_stepsTo (sl := as) hSs2 hcl2 hbf2 j2l
        rw [← j2e] at st2e
        rw [eJ] at MQ
        refine sX9_married_145 rfl (sX9_married_146 t00 t08 (sX9_married_149 (sX9_married_151 t50 (Nat.le_of_ble_eq_true rfl) (R_X6_stepsTo hS2.1 hS2.2.2.1 st2e ?_ (Nat.zero_le _)))))
        exact sX9_married_154 (sX9_married_156 (sX9_married_157 (hQ S2 iv4 _ fd2 nf2 sn2 ns2 hS2 hnf2 hz4 ⟨iv5, MQ, u3', REL _ MQ⟩)))
    · rcases u2 with ⟨-, eJ⟩ | ⟨j2, j2l, j2e, -⟩
      · rw [eJ] at MQ
        exact sX9_married_140 (sX9_married_142 (sX9_married_157 (hQ S2 iv4 _ fd2 nf2 sn2 ns2 hS2 hnf2 hz4 ⟨iv5, MQ, u3', REL _ MQ⟩)))
      · rw [j2e] at q2
        exact absurd q2 (cy_m1 (by omega))
  · -- no way
    have q54 : ∀ j, iv1 54 j = iv 54 j := fun j => hf1 54 j (by omega)
    have hr0 := hR1.code hww hpp 0
    have MQ := P_marQ hR1 hww hpp ha hb (by rw [q54]; exact m0) (by rw [q54]; exact m1) ho has
    rw [hy, if_pos (show true = true from rfl)] at MQ
    rcases A_bread (sl := as) hr0.1 (by rw [am_code1 _ (by decide), q54]; exact m0) (by rw [am_code1 _ (by decide), q54]; exact m2) ho hf (by omega) hbf1 hr1 with ⟨-, iw, ew⟩ | ⟨j, jl, je, -⟩
    · have fw := X_X10_soonBread ew
      rw [ew, am_o2_s] at MQ
      unfold J_X10_married_48 at MQ
      rw [if_pos (show (-1 : Int32) = -1 from rfl)] at MQ
      refine am_R.less (k := 0) (n := 0) (sX9_married_79 (sX9_married_81 (hQ S1 iv1 _ fd1 nf1 sn1 ns1 hS1 g1 hz1 ⟨iw, MQ, ?_, ?_⟩))) (by omega) (by omega)
      · rw [fw 54 3 (by simp) (by simp)]; exact am_code0 _
      · exact hr0.fr' (sm.of fw hww hpp (fun a ha => by simp at ha; simp [ska]; omega) (fun q hq => by simp at hq; subst hq; simp [skf])) (funext fun j => fw _ j (by simp; omega) (by simp; omega))
    · rw [je] at q
      have : N1 ≤ 32768 := Nat.le_trans hSs1.2.1 (kM_le hc _)
      exact absurd q (cy_m1 (by omega))
end B95
