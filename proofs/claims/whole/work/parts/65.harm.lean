/-! harm -/
section B65
variable {E : am_E} {S : am_S} {iv : am_I} {Q : am_O → am_S → am_I → Prop} {w v fd nf sn ns pp np d : Nat} {c : Nat → Nat → Nat} {ρ : ru_T}
/-- what can ever be out, by both searches -/
theorem A_ever {a o f N1 N2 p : Nat} {st1 par1 lab1 st2 par2 lab2 : Nat → Nat} (hc : cy_ok c) (hol : o < 2 ^ cy_n c) (hf : f < 2 ^ cy_p c) (b1 : bf (md c ρ a) (cy_n c) (32 * o + f) N1 st1 par1 lab1 (N1 * 16)) (b2 : bf (ks c ρ a false) (cy_n c) o N2 st2 par2 lab2 p) (hp : N2 * 16 ≤ p) (hs : ∀ j, j < N2 → st2 j < 2 ^ cy_n c) : cy_or (fun j => st2 j % 2 ^ cy_n c) N2 = cy_or (fun j => st1 j / 32) N1 := by
  have h5 := cy_p5 hc.2.2.1
  have hV : kV c (32 * o + f) := ⟨by omega, by omega⟩
  have hk0 : kh c false (32 * o + f) = o := by unfold kh; simp; omega
  rw [← hk0] at b2
  refine Nat.eq_of_testBit_eq (fun i => ?_)
  rw [cy_or_t, cy_or_t]
  cases h1 : cy_any (fun j => (st1 j / 32).testBit i) N1 with
  | true =>
    rw [cy_any_iff] at h1 ⊢
    obtain ⟨j, g1, g2⟩ := h1
    obtain ⟨k1, j2, k2, k3⟩ := bf_none (V := kV c) hc.1 (md_V hc) (ks_hom hc) hV b1 b2 hp g1
    refine ⟨j2, k2, ?_⟩
    show (st2 j2 % 2 ^ cy_n c).testBit i = true
    rw [Nat.mod_eq_of_lt (hs j2 k2), k3]
    simpa [kh] using g2
  | false =>
    rw [cy_any_false] at h1 ⊢
    intro j hj
    show (st2 j % 2 ^ cy_n c).testBit i = false
    obtain ⟨j1, k1, k2⟩ := bf_back (V := kV c) hc.1 (md_V hc) (ks_hom hc) hV b1 (Nat.le_refl _) b2 hj
    rw [Nat.mod_eq_of_lt (hs j hj), k2]
    have := h1 j1 k1
    simpa [kh] using this
theorem M_harm {x : Int32} (h : SR S w v fd nf sn ns pp np) (hR : Rel w pp np iv c ρ)
    (hT : xin x (cy_n c) = false → ∀ nx, S.2.2.2 ≤ nx → Q (.inr "java/util/NoSuchElementException") (S.1, S.2.1, S.2.2.1, nx) iv)
    (hQ : ∀ S' iv1 r fd' nf' nf1 sn' ns', xin x (cy_n c) = true → SR S' w v fd' nf' sn' ns' pp np → nf1 = (if nf < 2 ^ cy_n c then 2 ^ cy_n c else nf) → nf' = (if nf1 < 2 ^ cy_n c then 2 ^ cy_n c else nf1) → S.2.2.2 ≤ S'.2.2.2 → uz iv iv1 → agm (F_X10_harm x) w pp np c ρ r iv1 → Q (.inl (some (.int r))) S' iv1) :
    am_M E (d + 10) mX9_harm 5 (6 + (sct nf (2 ^ cy_n c) + sct (if nf < 2 ^ cy_n c then 2 ^ cy_n c else nf) (2 ^ cy_n c))) [.ref 0, .int x] S iv Q := by
  have hL := h.1
  have hww : w = 2 ∨ w = 22 := by have := h.2.2.2.2.1; omega
  have hpp := h.2.2.2.2.2.1.2.2
  have hc := hR.1.1
  have hn := hc.1
  have h10 := cy_p10 hn
  have h00 : S.1 0 = some (.inl 9) := hL.1 _ _ rfl
  have h08 : S.2.1 0 8 = some 50 := hL.2.1 _ _ _ rfl
  have h05 : S.2.1 0 5 = some 42 := hL.2.1 _ _ _ rfl
  have h03 : S.2.1 0 3 = some w := h.2.1.1
  have h42 : S.1 42 = some (.inl 7) := hL.1 _ _ rfl
  have h50 : S.1 50 = some (.inl 6) := hL.1 _ _ rfl
  refine am_enter (js := [.double 0, .double 0, .double 0]) rfl pn_X9 rfl rfl rfl (Nat.le_of_ble_eq_true rfl) ?_
  refine sX9_harm_0 rfl (sX9_harm_1 (sX9_harm_2_k (k' := 1) (k := 4) (n' := 6) (n := sct nf (2 ^ cy_n c) + sct (if nf < 2 ^ cy_n c then 2 ^ cy_n c else nf) (2 ^ cy_n c)) h00 (Nat.le_of_ble_eq_true rfl) (R_X9_demandDrawer hL hww h03 (K_demandDrawer hR.2.1.1.1) ?_ (by omega))))
  cases hx : xin x (cy_n c) with
  | false => exact fun nx hnx => am_Tout rfl (hT hx nx hnx)
  | true =>
    obtain ⟨dd, hdd, rfl⟩ := xin_t (by omega) hx
    obtain ⟨o, a, f, m, ⟨b1, b2, b3, b4⟩, ⟨s0, s1, s2, s3⟩, ⟨m0, m1, m2, m3⟩, -⟩ := hR.2.2.1
    have h5 := cy_p5 hc.2.2.1
    have h2d : 2 ^ dd < 2 ^ cy_n c := am_p2 hdd
    have ha1 : a ^^^ (a &&& 2 ^ dd) < 2 ^ cy_n c := Nat.xor_lt_two_pow b2 (am_andlt b2)
    have ha2 : a ||| 2 ^ dd < 2 ^ cy_n c := am_orlt b2 h2d
    show am_R E (d + 10) mX9_harm 4 _ 5 _ _ S iv Q
    refine (sX9_harm_5 (sX9_harm_6 (sX9_harm_7 (sX9_harm_8 (sX9_harm_9 rfl (sX9_harm_10 (by assumption) (by assumption) (sX9_harm_13 rfl (sX9_harm_14 (by assumption) (by assumption) (sX9_harm_17 rfl (sX9_harm_18 (by assumption) (by assumption) (sX9_harm_21 (by assumption) (sX9_harm_24 rfl (sX9_harm_25 (by assumption) (by assumption) (sX9_harm_28 (by assumption) (sX9_harm_31 (sX9_harm_32 (sX9_harm_33 (sX9_harm_34 ?_))))))))))))))))))
    rw [s0, s1, am_shl1 dd (by omega), nI_andn]
    refine sX9_harm_35_k (k' := 2) (k := 2) (n' := sct nf (2 ^ cy_n c)) (n := sct (if nf < 2 ^ cy_n c then 2 ^ cy_n c else nf) (2 ^ cy_n c)) h50 (Nat.le_of_ble_eq_true rfl) (M_everOut h hww hR.2.1.1 hc hR.1.2.1 (by omega) b1 (fun S1 iv1 fd1 nf1 sn1 ns1 N1 st1 par1 lab1 p1 hS1 g2 g3 hW1 hb1 hp1 hst1 hf1 => ?_))
    have hR1 : Rel w pp np iv1 c ρ := hR.srch hww hpp hW1 hf1
    have hL1 := hS1.1
    have k00 : S1.1 0 = some (.inl 9) := hL1.1 _ _ rfl
    have k08 : S1.2.1 0 8 = some 50 := hL1.2.1 _ _ _ rfl
    have k05 : S1.2.1 0 5 = some 42 := hL1.2.1 _ _ _ rfl
    have k03 : S1.2.1 0 3 = some w := hS1.2.1.1
    have k42 : S1.1 42 = some (.inl 7) := hL1.1 _ _ rfl
    have k50 : S1.1 50 = some (.inl 6) := hL1.1 _ _ rfl
    have s0' : iv1 42 0 = nI o := by rw [hf1 42 0 (by omega)]; exact s0
    have s1' : iv1 42 1 = nI a := by rw [hf1 42 1 (by omega)]; exact s1
    show am_R E (d + 10) mX9_harm 2 _ 38 _ _ S1 iv1 Q
    refine (sX9_harm_38 (sX9_harm_39 (sX9_harm_40 (sX9_harm_41 (sX9_harm_42 (sX9_harm_43 rfl (sX9_harm_44 (by assumption) (by assumption) (sX9_harm_47 rfl (sX9_harm_48 (by assumption) (by assumption) (sX9_harm_51 rfl (sX9_harm_52 (by assumption) (by assumption) (sX9_harm_55 (by assumption) (sX9_harm_58 rfl (sX9_harm_59 (by assumption) (by assumption) (sX9_harm_62 (by assumption) (sX9_harm_65 (sX9_harm_66 ?_)))))))))))))))))
    rw [s0', s1', fa_or, ← g2, nI_andn]
    refine sX9_harm_67_k (k' := 2) (k := 0) (n' := sct nf1 (2 ^ cy_n c)) (n := 0) k50 (Nat.le_of_ble_eq_true rfl) (M_everOut hS1 hww hW1 hc hR.1.2.1 (by omega) b1 (fun S2 iv2 fd2 nf2 sn2 ns2 N2 st2 par2 lab2 p2 hS2 g5 g6 hW2 hb2 hp2 hst2 hf2 => ?_))
    have hR2 : Rel w pp np iv2 c ρ := hR1.srch hww hpp hW2 hf2
    show am_R E (d + 10) mX9_harm 0 0 70 _ _ S2 iv2 Q
    refine (sX9_harm_70 (sX9_harm_71 (sX9_harm_72 (sX9_harm_73 (sX9_harm_74 (sX9_harm_76 (sX9_harm_77 (Nat.le_of_ble_eq_true rfl) ((J_bcI (sX9_harm_80 (sX9_harm_82 (Nat.le_of_ble_eq_true rfl) ((J_bcI (sX9_harm_85 ?_))))))))))))))
    rw [nI_andn]
    have hr0 := hR2.code hww hpp 0
    have q : ∀ k, k ≠ 3 → am_w iv2 54 3 0 54 k = iv 54 k := fun k hk => by rw [am_code1 _ hk, hf2 54 k (by omega), hf1 54 k (by omega)]
    obtain ⟨iv3, M1, t1, u1, l1, c1, c2, c3⟩ := P_everOut (d := dd) (sl := a ^^^ (a &&& 2 ^ dd)) hr0.1.2.2.1 hc hr0.1.2.2.2 hr0.1.2.1 (by rw [q 29 (by decide)]; exact m0) (by rw [q 31 (by decide)]; exact m2) b1 (by omega) (by omega) (by omega)
    have f3 := X_X10_everOut c3
    have hM3 : RM iv3 c ρ := hr0.1.fr (f3.m (by decide) (by decide))
    obtain ⟨iv4, M2, t2, u2, l2, d1, d2, d3⟩ := P_everOut (iv := iv3) (d := dd) (sl := a ||| 2 ^ dd) hM3.2.2.1 hc hM3.2.2.2 hM3.2.1 (by rw [f3 54 29 (by simp) (by simp), q 29 (by decide)]; exact m0) (by rw [f3 54 31 (by simp) (by simp), q 31 (by decide)]; exact m2) b1 (by omega) (by omega) (by omega)
    have f4 := X_X10_everOut d3
    have E1 := A_ever hc b1 b3 c1 hb1 hp1 hst1
    have E2 := A_ever hc b1 b3 d1 hb2 hp2 hst2
    have L1 : cy_or (fun j => t1 j / 32) M1 < 2 ^ 10 := cy_or_lt M1 (fun j hj => Nat.lt_of_lt_of_le (c2 j hj) h10)
    have L2 : cy_or (fun j => t2 j / 32) M2 < 2 ^ 10 := cy_or_lt M2 (fun j hj => Nat.lt_of_lt_of_le (d2 j hj) h10)
    rw [E1, E2]
    have eq1 : ∀ z, z < 2 ^ 10 → z ^^^ (z &&& 2 ^ dd) = z &&& (1023 ^^^ 2 ^ dd) := by
      intro z hz
      refine Nat.eq_of_testBit_eq (fun i => ?_)
      rw [an_t, Nat.testBit_and, Nat.testBit_xor, show (1023 : Nat) = 2 ^ 10 - 1 from rfl, Nat.testBit_two_pow_sub_one]
      by_cases hi : i < 10
      · simp [hi]
      · rw [Nat.testBit_lt_two_pow (Nat.lt_of_lt_of_le hz (Nat.pow_le_pow_right (by decide) (by omega)))]; rfl
    rw [eq1 _ L1, eq1 _ L2, am_bcn (Nat.lt_of_le_of_lt Nat.and_le_left L1), am_bcn (Nat.lt_of_le_of_lt Nat.and_le_left L2)]
    refine sX9_harm_86 (hQ S2 iv2 _ fd2 nf2 nf1 sn2 ns2 hx hS2 g2 g5 (by omega) ((uz.of hww hf1).tr (uz.of hww hf2)) ⟨iv4, ?_, ?_, ?_⟩)
    · unfold F_X10_harm
      rw [P_isDrawer hr0.1.2.2.1 hc, hx, am_o1_s, if_neg (show ¬ am_bi true = 0 by decide), q 30 (by decide), m1, am_shl1 dd (by omega), nI_andn, c3, am_o2_s, f3 54 30 (by simp) (by simp), q 30 (by decide), m1, fa_or, d3, am_o2_s]
    · rw [f4 54 3 (by simp) (by simp), f3 54 3 (by simp) (by simp)]; exact am_code0 _
    · have hp1' := hpp.1
      have hp2' := hpp.2
      have F : am_fr [75, 76, 77, 78, 79, 80, 82] [(54, 44)] (am_w iv2 54 3 0) iv4 := f3.tr f4
      exact hr0.fr' (sm.of F hww hpp (fun a ha => by simp at ha; simp [ska]; omega) (fun q hq => by simp at hq; subst hq; simp [skf])) (funext fun j => F _ j (by simp; omega) (by simp; omega))
end B65
