/-! functions of the methods, and their rows (by program) -/
def F_X10_shares (i1 : Int32) (i2 : Int32) (iv : am_I) : Option (Int32) :=
  (if vp_b i1 20 then (if vp_b i2 20 then (if vp_b i2 20 then (if ((iv 60 i2.toNatClampNeg) + (iv 63 i2.toNatClampNeg)) < (iv 60 i1.toNatClampNeg) then some (0 : Int32) else (if vp_b i2 20 then (if vp_b i1 20 then (if vp_b i1 20 then (if ((iv 60 i1.toNatClampNeg) + (iv 63 i1.toNatClampNeg)) < (iv 60 i2.toNatClampNeg) then some (0 : Int32) else some (1 : Int32)) else none) else none) else none)) else none) else none) else none)
theorem R_X10_shares {E : am_E} {S : am_S} {Q : am_O → am_S → am_I → Prop} (hL : am_Lay S) {i1 i2 : Int32} {iv : am_I} {y : Int32} (e : F_X10_shares i1 i2 iv = some y) (h : Q (.inl (some (.int y))) S iv) {d : Nat} (hd : 0 ≤ d) : am_M E d mX10_shares 0 0 [.ref 54, .int i1, .int i2] S iv Q := by
  refine am_enter (js := []) rfl pn_X10 rfl rfl rfl (Nat.le_of_ble_eq_true rfl) (am_R.deep ?_ hd)
  replace e := am_ckv e; obtain ⟨c1, e⟩ := e
  replace e := am_ckv e; obtain ⟨c2, e⟩ := e
  replace e := am_ckv e; obtain ⟨c3, e⟩ := e
  refine (sX10_shares_0 rfl (sX10_shares_1 (hL.1 _ _ rfl) (hL.2.1 _ _ _ rfl) (sX10_shares_4 (sX10_shares_5 (hL.1 _ _ rfl) c1 (sX10_shares_6 rfl (sX10_shares_7 (hL.1 _ _ rfl) (hL.2.1 _ _ _ rfl) (sX10_shares_10 (sX10_shares_11 (hL.1 _ _ rfl) c2 (sX10_shares_12 rfl (sX10_shares_13 (hL.1 _ _ rfl) (hL.2.1 _ _ _ rfl) (sX10_shares_16 (sX10_shares_17 (hL.1 _ _ rfl) c3 (sX10_shares_18 ?_)))))))))))))
  refine sX10_shares_19 (fun hbr => ?_) (fun hbr => ?_)
  · replace e := am_pos hbr e
    refine (sX10_shares_48 (sX10_shares_49 rfl ?_))
    obtain rfl := Option.some.inj e
    exact h
  · replace e := am_neg hbr e
    replace e := am_ckv e; obtain ⟨c4, e⟩ := e
    replace e := am_ckv e; obtain ⟨c5, e⟩ := e
    replace e := am_ckv e; obtain ⟨c6, e⟩ := e
    refine (sX10_shares_22 rfl (sX10_shares_23 (hL.1 _ _ rfl) (hL.2.1 _ _ _ rfl) (sX10_shares_26 (sX10_shares_27 (hL.1 _ _ rfl) c4 (sX10_shares_28 rfl (sX10_shares_29 (hL.1 _ _ rfl) (hL.2.1 _ _ _ rfl) (sX10_shares_32 (sX10_shares_33 (hL.1 _ _ rfl) c5 (sX10_shares_34 rfl (sX10_shares_35 (hL.1 _ _ rfl) (hL.2.1 _ _ _ rfl) (sX10_shares_38 (sX10_shares_39 (hL.1 _ _ rfl) c6 (sX10_shares_40 ?_)))))))))))))
    refine sX10_shares_41 (fun hbr => ?_) (fun hbr => ?_)
    · replace e := am_pos hbr e
      refine (sX10_shares_48 (sX10_shares_49 rfl ?_))
      obtain rfl := Option.some.inj e
      exact h
    · replace e := am_neg hbr e
      refine (sX10_shares_44 (sX10_shares_45 (sX10_shares_49 rfl ?_)))
      obtain rfl := Option.some.inj e
      exact h
def B_X10_bitsOf_4 (iv : am_I) (i1 : Int32) (i2 : Int32) : Option ((Int32 × Int32) ⊕ (Int32)) :=
  (if i2 = 0 then some (.inr i1) else some (.inl ((i1 + 1), (i2 &&& (i2 - (1 : Int32))))))
theorem b_X10_bitsOf_4 {E : am_E} {S : am_S} {Q : am_O → am_S → am_I → Prop} {z0 : Value} {i1 i2 : Int32} {iv : am_I} {y : (Int32 × Int32) ⊕ (Int32)} (e : B_X10_bitsOf_4 iv i1 i2 = some y) (hc : ∀ s, y = .inl s → ∀ z0 : Value, am_R E 0 mX10_bitsOf 0 0 4 [z0, .int s.1, .int s.2] [] S iv Q) (hx : ∀ a, y = .inr a → ∀ z0 z2 : Value, am_R E 0 mX10_bitsOf 0 0 20 [z0, .int a, z2] [] S iv Q) : am_R E 0 mX10_bitsOf 0 0 4 [z0, .int i1, .int i2] [] S iv Q := by
  refine (sX10_bitsOf_4 ?_)
  refine sX10_bitsOf_5 (fun hbr => ?_) (fun hbr => ?_)
  · replace e := am_pos hbr e
    exact hx _ (Option.some.inj e).symm _ _
  · replace e := am_neg hbr e
    refine (sX10_bitsOf_8 (sX10_bitsOf_11 (sX10_bitsOf_12 (sX10_bitsOf_13 (sX10_bitsOf_14 (sX10_bitsOf_15 (sX10_bitsOf_16 (sX10_bitsOf_17 ?_))))))))
    exact hc _ (Option.some.inj e).symm _
theorem l_X10_bitsOf_4 {E : am_E} {S : am_S} {Q : am_O → am_S → am_I → Prop} {iv : am_I} (s : (Int32 × Int32)) {x : (Int32)} (e : am_loop (fun s : (Int32 × Int32) => B_X10_bitsOf_4 iv s.1 s.2) s = some x) (hx : ∀ z0 z2 : Value, am_R E 0 mX10_bitsOf 0 0 20 [z0, .int x, z2] [] S iv Q) : ∀ z0 : Value, am_R E 0 mX10_bitsOf 0 0 4 [z0, .int s.1, .int s.2] [] S iv Q :=
  am_wh_sound (f := fun s : (Int32 × Int32) => B_X10_bitsOf_4 iv s.1 s.2) (P := fun s => ∀ z0 : Value, am_R E 0 mX10_bitsOf 0 0 4 [z0, .int s.1, .int s.2] [] S iv Q) (K := fun x => ∀ z0 z2 : Value, am_R E 0 mX10_bitsOf 0 0 20 [z0, .int x, z2] [] S iv Q) (fun s y e hc hkk => fun z0 => b_X10_bitsOf_4 e hc (fun a hy => hkk a hy)) am_fu s x e hx
def F_X10_bitsOf (i0 : Int32) (iv : am_I) : Option (Int32) :=
  (am_o1 (am_loop (fun s : (Int32 × Int32) => B_X10_bitsOf_4 iv s.1 s.2) ((0 : Int32), i0)) fun a1 => some a1)
theorem R_X10_bitsOf {E : am_E} {S : am_S} {Q : am_O → am_S → am_I → Prop} {i0 : Int32} {iv : am_I} {y : Int32} (e : F_X10_bitsOf i0 iv = some y) (h : Q (.inl (some (.int y))) S iv) {d : Nat} (hd : 0 ≤ d) : am_M E d mX10_bitsOf 0 0 [.int i0] S iv Q := by
  refine am_enter (js := [.double 0, .double 0]) rfl pn_X10 rfl rfl rfl (Nat.le_of_ble_eq_true rfl) (am_R.deep ?_ hd)
  refine (sX10_bitsOf_0 (sX10_bitsOf_1 (sX10_bitsOf_2 (sX10_bitsOf_3 ?_))))
  replace e := am_o1_i e; obtain ⟨a1, e1, e⟩ := e
  refine l_X10_bitsOf_4 _ e1 ?_ _
  intro z0 z2
  refine (sX10_bitsOf_20 (sX10_bitsOf_21 ?_))
  obtain rfl := Option.some.inj e
  exact h
def F_X10_reckon (i0 : Int32) (i1 : Int32) (i2 : Int32) (iv : am_I) : Option (Int32) :=
  (if i0.toInt < -26 ∨ -20 < i0.toInt then (if i1 = 0 then (if i2 = 0 then some (0 : Int32) else some (1 : Int32)) else some (1 : Int32)) else if i0 = (-26 : Int32) then (if i1 = 0 then some (0 : Int32) else (if i2 = 0 then some (0 : Int32) else some (1 : Int32))) else if i0 = (-25 : Int32) then (if i1 = i2 then some (1 : Int32) else some (0 : Int32)) else if i0 = (-24 : Int32) then (if i2 ≤ i1 then some (0 : Int32) else some (1 : Int32)) else if i0 = (-23 : Int32) then (if i2 = 0 then some (0 : Int32) else (if i2 = 0 then none else some (i1 / i2))) else if i0 = (-22 : Int32) then some (i1 * i2) else if i0 = (-21 : Int32) then some (i1 - i2) else if i0 = (-20 : Int32) then some (i1 + i2) else none)
theorem R_X10_reckon {E : am_E} {S : am_S} {Q : am_O → am_S → am_I → Prop} {i0 i1 i2 : Int32} {iv : am_I} {y : Int32} (e : F_X10_reckon i0 i1 i2 iv = some y) (h : Q (.inl (some (.int y))) S iv) {d : Nat} (hd : 0 ≤ d) : am_M E d mX10_reckon 0 0 [.int i0, .int i1, .int i2] S iv Q := by
  refine am_enter (js := []) rfl pn_X10 rfl rfl rfl (Nat.le_of_ble_eq_true rfl) (am_R.deep ?_ hd)
  refine (sX10_reckon_0 ?_)
  by_cases hs : i0.toInt < -26 ∨ -20 < i0.toInt
  · replace e := am_pos hs e
    refine sX10_reckon_1_d hs ?_
    refine (sX10_reckon_104 ?_)
    refine sX10_reckon_105 (fun hbr => ?_) (fun hbr => ?_)
    · replace e := am_neg hbr e
      refine (sX10_reckon_112 (sX10_reckon_113 (sX10_reckon_117 ?_)))
      obtain rfl := Option.some.inj e
      exact h
    · replace e := am_pos hbr e
      refine (sX10_reckon_108 ?_)
      refine sX10_reckon_109 (fun hbr => ?_) (fun hbr => ?_)
      · replace e := am_pos hbr e
        refine (sX10_reckon_116 (sX10_reckon_117 ?_))
        obtain rfl := Option.some.inj e
        exact h
      · replace e := am_neg hbr e
        refine (sX10_reckon_112 (sX10_reckon_113 (sX10_reckon_117 ?_)))
        obtain rfl := Option.some.inj e
        exact h
  · replace e := am_neg hs e
    by_cases hs0 : i0 = (-26 : Int32)
    · replace e := am_pos hs0 e
      subst hs0
      refine sX10_reckon_1_m26 ?_
      refine (sX10_reckon_90 ?_)
      refine sX10_reckon_91 (fun hbr => ?_) (fun hbr => ?_)
      · replace e := am_pos hbr e
        refine (sX10_reckon_102 (sX10_reckon_103 ?_))
        obtain rfl := Option.some.inj e
        exact h
      · replace e := am_neg hbr e
        refine (sX10_reckon_94 ?_)
        refine sX10_reckon_95 (fun hbr => ?_) (fun hbr => ?_)
        · replace e := am_pos hbr e
          refine (sX10_reckon_102 (sX10_reckon_103 ?_))
          obtain rfl := Option.some.inj e
          exact h
        · replace e := am_neg hbr e
          refine (sX10_reckon_98 (sX10_reckon_99 (sX10_reckon_103 ?_)))
          obtain rfl := Option.some.inj e
          exact h
    replace e := am_neg hs0 e
    by_cases hs1 : i0 = (-25 : Int32)
    · replace e := am_pos hs1 e
      subst hs1
      refine sX10_reckon_1_m25 ?_
      refine (sX10_reckon_79 (sX10_reckon_80 ?_))
      refine sX10_reckon_81 (fun hbr => ?_) (fun hbr => ?_)
      · replace e := am_neg hbr e
        refine (sX10_reckon_88 (sX10_reckon_89 ?_))
        obtain rfl := Option.some.inj e
        exact h
      · replace e := am_pos hbr e
        refine (sX10_reckon_84 (sX10_reckon_85 (sX10_reckon_89 ?_)))
        obtain rfl := Option.some.inj e
        exact h
    replace e := am_neg hs1 e
    by_cases hs2 : i0 = (-24 : Int32)
    · replace e := am_pos hs2 e
      subst hs2
      refine sX10_reckon_1_m24 ?_
      refine (sX10_reckon_68 (sX10_reckon_69 ?_))
      refine sX10_reckon_70 (fun hbr => ?_) (fun hbr => ?_)
      · replace e := am_pos hbr e
        refine (sX10_reckon_77 (sX10_reckon_78 ?_))
        obtain rfl := Option.some.inj e
        exact h
      · replace e := am_neg hbr e
        refine (sX10_reckon_73 (sX10_reckon_74 (sX10_reckon_78 ?_)))
        obtain rfl := Option.some.inj e
        exact h
    replace e := am_neg hs2 e
    by_cases hs3 : i0 = (-23 : Int32)
    · replace e := am_pos hs3 e
      subst hs3
      refine sX10_reckon_1_m23 ?_
      refine (sX10_reckon_56 ?_)
      refine sX10_reckon_57 (fun hbr => ?_) (fun hbr => ?_)
      · replace e := am_neg hbr e
        replace e := am_ckn e; obtain ⟨c1, e⟩ := e
        refine (sX10_reckon_64 (sX10_reckon_65 (sX10_reckon_66 c1 (sX10_reckon_67 ?_))))
        obtain rfl := Option.some.inj e
        exact h
      · replace e := am_pos hbr e
        refine (sX10_reckon_60 (sX10_reckon_61 (sX10_reckon_67 ?_)))
        obtain rfl := Option.some.inj e
        exact h
    replace e := am_neg hs3 e
    by_cases hs4 : i0 = (-22 : Int32)
    · replace e := am_pos hs4 e
      subst hs4
      refine sX10_reckon_1_m22 ?_
      refine (sX10_reckon_52 (sX10_reckon_53 (sX10_reckon_54 (sX10_reckon_55 ?_))))
      obtain rfl := Option.some.inj e
      exact h
    replace e := am_neg hs4 e
    by_cases hs5 : i0 = (-21 : Int32)
    · replace e := am_pos hs5 e
      subst hs5
      refine sX10_reckon_1_m21 ?_
      refine (sX10_reckon_48 (sX10_reckon_49 (sX10_reckon_50 (sX10_reckon_51 ?_))))
      obtain rfl := Option.some.inj e
      exact h
    replace e := am_neg hs5 e
    by_cases hs6 : i0 = (-20 : Int32)
    · replace e := am_pos hs6 e
      subst hs6
      refine sX10_reckon_1_m20 ?_
      refine (sX10_reckon_44 (sX10_reckon_45 (sX10_reckon_46 (sX10_reckon_47 ?_))))
      obtain rfl := Option.some.inj e
      exact h
    replace e := am_neg hs6 e
    cases e
def J_X10_holds_95 (i1 : Int32) (i2 : Int32) (i3 : Int32) (k1 : Int32) (k2 : Int32) (iv : am_I) : Option ((Int32 × Int32 × am_I) ⊕ (am_I)) :=
  (if vp_b k1 60 then some (.inl (i2, (i3 + 1), (am_w iv 76 k1.toNatClampNeg k2))) else none)
theorem j_X10_holds_95 {E : am_E} {S : am_S} {Q : am_O → am_S → am_I → Prop} (hL : am_Lay S) {z4 : Value} {i1 i2 i3 k1 k2 : Int32} {iv : am_I} {y : (Int32 × Int32 × am_I) ⊕ (am_I)} (e : J_X10_holds_95 i1 i2 i3 k1 k2 iv = some y) (hc : ∀ s, y = .inl s → ∀ z4 : Value, am_R E 1 mX10_holds 0 0 9 [.ref 54, .int i1, .int s.1, .int s.2.1, z4] [] S s.2.2 Q) (hx : ∀ a, y = .inr a → ∀ z1 z2 z3 z4 : Value, am_R E 1 mX10_holds 0 0 135 [.ref 54, z1, z2, z3, z4] [] S a Q) : am_R E 1 mX10_holds 0 0 95 [.ref 54, .int i1, .int i2, .int i3, z4] [.int k2, .int k1, .ref 76] S iv Q := by
  replace e := am_ckv e; obtain ⟨c9, e⟩ := e
  refine (sX10_holds_95 (hL.1 _ _ rfl) c9 (sX10_holds_96 (sX10_holds_129 (sX10_holds_132 ?_))))
  exact hc _ (Option.some.inj e).symm _
def J_X10_holds_58 (i1 : Int32) (i2 : Int32) (i3 : Int32) (k1 : Int32) (k2 : Int32) (iv : am_I) : Option ((Int32 × Int32 × am_I) ⊕ (am_I)) :=
  (if vp_b k1 60 then some (.inl ((i2 + 1), (i3 + 1), (am_w iv 76 k1.toNatClampNeg k2))) else none)
theorem j_X10_holds_58 {E : am_E} {S : am_S} {Q : am_O → am_S → am_I → Prop} (hL : am_Lay S) {z4 : Value} {i1 i2 i3 k1 k2 : Int32} {iv : am_I} {y : (Int32 × Int32 × am_I) ⊕ (am_I)} (e : J_X10_holds_58 i1 i2 i3 k1 k2 iv = some y) (hc : ∀ s, y = .inl s → ∀ z4 : Value, am_R E 1 mX10_holds 0 0 9 [.ref 54, .int i1, .int s.1, .int s.2.1, z4] [] S s.2.2 Q) (hx : ∀ a, y = .inr a → ∀ z1 z2 z3 z4 : Value, am_R E 1 mX10_holds 0 0 135 [.ref 54, z1, z2, z3, z4] [] S a Q) : am_R E 1 mX10_holds 0 0 58 [.ref 54, .int i1, .int i2, .int i3, z4] [.int k2, .int k1, .ref 76] S iv Q := by
  replace e := am_ckv e; obtain ⟨c11, e⟩ := e
  refine (sX10_holds_58 (hL.1 _ _ rfl) c11 (sX10_holds_59 (sX10_holds_62 (sX10_holds_129 (sX10_holds_132 ?_)))))
  exact hc _ (Option.some.inj e).symm _
def B_X10_holds_9 (i1 : Int32) (i2 : Int32) (i3 : Int32) (iv : am_I) : Option ((Int32 × Int32 × am_I) ⊕ (am_I)) :=
  (if vp_b i1 8 then (if (iv 68 i1.toNatClampNeg) ≤ i3 then some (.inr iv) else (if vp_b i3 1400 then (if (iv 69 i3.toNatClampNeg) ≤ (-20 : Int32) then (if (iv 69 i3.toNatClampNeg) = (-28 : Int32) then (if vp_b (i2 - (1 : Int32)) 60 then (if (iv 76 (i2 - (1 : Int32)).toNatClampNeg) = 0 then J_X10_holds_95 i1 i2 i3 (i2 - (1 : Int32)) (1 : Int32) iv else J_X10_holds_95 i1 i2 i3 (i2 - (1 : Int32)) (0 : Int32) iv) else none) else (if vp_b ((i2 + (-1)) - (1 : Int32)) 60 then (if vp_b (i2 + (-1)) 60 then (am_o1 (F_X10_reckon (iv 69 i3.toNatClampNeg) (iv 76 ((i2 + (-1)) - (1 : Int32)).toNatClampNeg) (iv 76 (i2 + (-1)).toNatClampNeg) iv) fun v6 => (if vp_b ((i2 + (-1)) - (1 : Int32)) 60 then some (.inl ((i2 + (-1)), (i3 + 1), (am_w iv 76 ((i2 + (-1)) - (1 : Int32)).toNatClampNeg v6))) else none)) else none) else none)) else (if (iv 69 i3.toNatClampNeg) < 0 then (if vp_b ((-1 : Int32) - (iv 69 i3.toNatClampNeg)) 7 then J_X10_holds_58 i1 i2 i3 i2 (iv 75 ((-1 : Int32) - (iv 69 i3.toNatClampNeg)).toNatClampNeg) iv else none) else J_X10_holds_58 i1 i2 i3 i2 (iv 69 i3.toNatClampNeg) iv)) else none)) else none)
theorem b_X10_holds_9 {E : am_E} {S : am_S} {Q : am_O → am_S → am_I → Prop} (hL : am_Lay S) {z4 : Value} {i1 i2 i3 : Int32} {iv : am_I} {y : (Int32 × Int32 × am_I) ⊕ (am_I)} (e : B_X10_holds_9 i1 i2 i3 iv = some y) (hc : ∀ s, y = .inl s → ∀ z4 : Value, am_R E 1 mX10_holds 0 0 9 [.ref 54, .int i1, .int s.1, .int s.2.1, z4] [] S s.2.2 Q) (hx : ∀ a, y = .inr a → ∀ z1 z2 z3 z4 : Value, am_R E 1 mX10_holds 0 0 135 [.ref 54, z1, z2, z3, z4] [] S a Q) : am_R E 1 mX10_holds 0 0 9 [.ref 54, .int i1, .int i2, .int i3, z4] [] S iv Q := by
  replace e := am_ckv e; obtain ⟨c2, e⟩ := e
  refine (sX10_holds_9 (sX10_holds_10 rfl (sX10_holds_11 (hL.1 _ _ rfl) (hL.2.1 _ _ _ rfl) (sX10_holds_14 (sX10_holds_15 (hL.1 _ _ rfl) c2 ?_)))))
  refine sX10_holds_16 (fun hbr => ?_) (fun hbr => ?_)
  · replace e := am_pos hbr e
    exact hx _ (Option.some.inj e).symm _ _ _ _
  · replace e := am_neg hbr e
    replace e := am_ckv e; obtain ⟨c3, e⟩ := e
    refine (sX10_holds_19 rfl (sX10_holds_20 (hL.1 _ _ rfl) (hL.2.1 _ _ _ rfl) (sX10_holds_23 (sX10_holds_24 (hL.1 _ _ rfl) c3 (sX10_holds_25 (sX10_holds_27 (sX10_holds_29 ?_)))))))
    refine sX10_holds_31 (fun hbr => ?_) (fun hbr => ?_)
    · replace e := am_pos hbr e
      refine (sX10_holds_65 (sX10_holds_67 ?_))
      refine sX10_holds_69 (fun hbr => ?_) (fun hbr => ?_)
      · replace e := am_neg hbr e
        replace e := am_ckv e; obtain ⟨c4, e⟩ := e
        replace e := am_ckv e; obtain ⟨c5, e⟩ := e
        replace e := am_o1_i e; obtain ⟨v6, e6, e⟩ := e
        replace e := am_ckv e; obtain ⟨c7, e⟩ := e
        refine (sX10_holds_99 (sX10_holds_102 rfl (sX10_holds_103 (hL.1 _ _ rfl) (hL.2.1 _ _ _ rfl) (sX10_holds_106 (sX10_holds_107 (sX10_holds_108 (sX10_holds_109 (sX10_holds_111 rfl (sX10_holds_112 (hL.1 _ _ rfl) (hL.2.1 _ _ _ rfl) (sX10_holds_115 (sX10_holds_116 (sX10_holds_117 (sX10_holds_118 (hL.1 _ _ rfl) c4 (sX10_holds_119 rfl (sX10_holds_120 (hL.1 _ _ rfl) (hL.2.1 _ _ _ rfl) (sX10_holds_123 (sX10_holds_124 (hL.1 _ _ rfl) c5 (sX10_holds_125 (Nat.le_of_ble_eq_true rfl) (R_X10_reckon (h := (sX10_holds_128 (hL.1 _ _ rfl) c7 (sX10_holds_129 (sX10_holds_132 ?_)))) (hd := (Nat.le_of_ble_eq_true rfl)) (e := e6))))))))))))))))))))
        exact hc _ (Option.some.inj e).symm _
      · replace e := am_pos hbr e
        replace e := am_ckv e; obtain ⟨c8, e⟩ := e
        refine (sX10_holds_72 rfl (sX10_holds_73 (hL.1 _ _ rfl) (hL.2.1 _ _ _ rfl) (sX10_holds_76 (sX10_holds_77 (sX10_holds_78 (sX10_holds_79 rfl (sX10_holds_80 (hL.1 _ _ rfl) (hL.2.1 _ _ _ rfl) (sX10_holds_83 (sX10_holds_84 (sX10_holds_85 (sX10_holds_86 (hL.1 _ _ rfl) c8 ?_)))))))))))
        refine sX10_holds_87 (fun hbr => ?_) (fun hbr => ?_)
        · replace e := am_pos hbr e
          refine (sX10_holds_94 ?_)
          exact j_X10_holds_95 hL e hc hx
        · replace e := am_neg hbr e
          refine (sX10_holds_90 (sX10_holds_91 ?_))
          exact j_X10_holds_95 hL e hc hx
    · replace e := am_neg hbr e
      refine (sX10_holds_34 rfl (sX10_holds_35 (hL.1 _ _ rfl) (hL.2.1 _ _ _ rfl) (sX10_holds_38 (sX10_holds_39 ?_))))
      refine sX10_holds_41 (fun hbr => ?_) (fun hbr => ?_)
      · replace e := am_pos hbr e
        replace e := am_ckv e; obtain ⟨c10, e⟩ := e
        refine (sX10_holds_49 rfl (sX10_holds_50 (hL.1 _ _ rfl) (hL.2.1 _ _ _ rfl) (sX10_holds_53 (sX10_holds_54 (sX10_holds_56 (sX10_holds_57 (hL.1 _ _ rfl) c10 ?_))))))
        exact j_X10_holds_58 hL e hc hx
      · replace e := am_neg hbr e
        refine (sX10_holds_44 (sX10_holds_46 ?_))
        exact j_X10_holds_58 hL e hc hx
theorem l_X10_holds_9 {E : am_E} {S : am_S} {Q : am_O → am_S → am_I → Prop} (hL : am_Lay S) {i1 : Int32} (s : (Int32 × Int32 × am_I)) {x : (am_I)} (e : am_loop (fun s : (Int32 × Int32 × am_I) => B_X10_holds_9 i1 s.1 s.2.1 s.2.2) s = some x) (hx : ∀ z1 z2 z3 z4 : Value, am_R E 1 mX10_holds 0 0 135 [.ref 54, z1, z2, z3, z4] [] S x Q) : ∀ z4 : Value, am_R E 1 mX10_holds 0 0 9 [.ref 54, .int i1, .int s.1, .int s.2.1, z4] [] S s.2.2 Q :=
  am_wh_sound (f := fun s : (Int32 × Int32 × am_I) => B_X10_holds_9 i1 s.1 s.2.1 s.2.2) (P := fun s => ∀ z4 : Value, am_R E 1 mX10_holds 0 0 9 [.ref 54, .int i1, .int s.1, .int s.2.1, z4] [] S s.2.2 Q) (K := fun x => ∀ z1 z2 z3 z4 : Value, am_R E 1 mX10_holds 0 0 135 [.ref 54, z1, z2, z3, z4] [] S x Q) (fun s y e hc hkk => fun z4 => b_X10_holds_9 hL e hc (fun a hy => hkk a hy)) am_fu s x e hx
def F_X10_holds (i1 : Int32) (iv : am_I) : Option (Int32 × am_I) :=
  (if vp_b i1 8 then (am_o1 (am_loop (fun s : (Int32 × Int32 × am_I) => B_X10_holds_9 i1 s.1 s.2.1 s.2.2) ((0 : Int32), (iv 67 i1.toNatClampNeg), iv)) fun a12 => (if (a12 76 (0 : Int32).toNatClampNeg) = 0 then some ((0 : Int32), a12) else some ((1 : Int32), a12))) else none)
theorem YR_X10_holds {E : am_E} {S : am_S} {Q : am_O → am_S → am_I → Prop} (hL : am_Lay S) {i1 : Int32} {iv : am_I} {y : Int32 × am_I} (e : F_X10_holds i1 iv = some y) (h : Q (.inl (some (.int y.1))) S y.2) {d : Nat} (hd : 1 ≤ d) : am_M E d mX10_holds 0 0 [.ref 54, .int i1] S iv Q := by
  refine am_enter (js := [.double 0, .double 0, .double 0]) rfl pn_X10 rfl rfl rfl (Nat.le_of_ble_eq_true rfl) (am_R.deep ?_ hd)
  replace e := am_ckv e; obtain ⟨c1, e⟩ := e
  refine (sX10_holds_0 (sX10_holds_1 (sX10_holds_2 rfl (sX10_holds_3 (hL.1 _ _ rfl) (hL.2.1 _ _ _ rfl) (sX10_holds_6 (sX10_holds_7 (hL.1 _ _ rfl) c1 (sX10_holds_8 ?_)))))))
  replace e := am_o1_i e; obtain ⟨a12, e12, e⟩ := e
  refine l_X10_holds_9 hL _ e12 ?_ _
  intro z1 z2 z3 z4
  refine (sX10_holds_135 rfl (sX10_holds_136 (hL.1 _ _ rfl) (hL.2.1 _ _ _ rfl) (sX10_holds_139 (sX10_holds_140 (hL.1 _ _ rfl) (vp_lit (by decide)) ?_))))
  refine sX10_holds_141 (fun hbr => ?_) (fun hbr => ?_)
  · replace e := am_pos hbr e
    refine (sX10_holds_148 (sX10_holds_149 rfl ?_))
    obtain rfl := Option.some.inj e
    exact h
  · replace e := am_neg hbr e
    refine (sX10_holds_144 (sX10_holds_145 (sX10_holds_149 rfl ?_)))
    obtain rfl := Option.some.inj e
    exact h
theorem R_X10_holds {E : am_E} {S : am_S} {Q : am_O → am_S → am_I → Prop} (hL : am_Lay S) {i1 : Int32} {iv : am_I} {v' : Int32} {iv' : am_I} (e : F_X10_holds i1 iv = some (v', iv')) (h : Q (.inl (some (.int v'))) S iv') {d : Nat} (hd : 1 ≤ d) : am_M E d mX10_holds 0 0 [.ref 54, .int i1] S iv Q :=
  YR_X10_holds hL e h hd
def J_X10_ask_162 (i1 : Int32) (i2 : Int32) (i3 : Int32) (k1 : Int32) (k2 : Int32) (k3 : Int32) (iv : am_I) : Option ((Int32 × am_I) ⊕ (am_I)) :=
  (if vp_b k1 7 then some (.inl ((i3 + 1), (am_w iv 75 k1.toNatClampNeg (k2 + k3)))) else none)
theorem j_X10_ask_162 {E : am_E} {S : am_S} {Q : am_O → am_S → am_I → Prop} (hL : am_Lay S) {i1 i2 i3 k1 k2 k3 : Int32} {iv : am_I} {y : (Int32 × am_I) ⊕ (am_I)} (e : J_X10_ask_162 i1 i2 i3 k1 k2 k3 iv = some y) (hc : ∀ s, y = .inl s → am_R E 1 mX10_ask 0 0 75 [.ref 54, .int i1, .int i2, .int s.1] [] S s.2 Q) (hx : ∀ a, y = .inr a → ∀ z0 z1 z2 z3 : Value, am_R E 1 mX10_ask 0 0 170 [z0, z1, z2, z3] [] S a Q) : am_R E 1 mX10_ask 0 0 162 [.ref 54, .int i1, .int i2, .int i3] [.int k3, .int k2, .int k1, .ref 75] S iv Q := by
  replace e := am_ckv e; obtain ⟨c9, e⟩ := e
  refine (sX10_ask_162 (sX10_ask_163 (hL.1 _ _ rfl) c9 (sX10_ask_164 (sX10_ask_167 ?_))))
  exact hc _ (Option.some.inj e).symm
def J_X10_ask_161 (i1 : Int32) (i2 : Int32) (i3 : Int32) (k1 : Int32) (k2 : Int32) (iv : am_I) : Option ((Int32 × am_I) ⊕ (am_I)) :=
  J_X10_ask_162 i1 i2 i3 k1 k2 (0 : Int32) iv
theorem j_X10_ask_161 {E : am_E} {S : am_S} {Q : am_O → am_S → am_I → Prop} (hL : am_Lay S) {i1 i2 i3 k1 k2 : Int32} {iv : am_I} {y : (Int32 × am_I) ⊕ (am_I)} (e : J_X10_ask_161 i1 i2 i3 k1 k2 iv = some y) (hc : ∀ s, y = .inl s → am_R E 1 mX10_ask 0 0 75 [.ref 54, .int i1, .int i2, .int s.1] [] S s.2 Q) (hx : ∀ a, y = .inr a → ∀ z0 z1 z2 z3 : Value, am_R E 1 mX10_ask 0 0 170 [z0, z1, z2, z3] [] S a Q) : am_R E 1 mX10_ask 0 0 161 [.ref 54, .int i1, .int i2, .int i3] [.int k2, .int k1, .ref 75] S iv Q := by
  refine (sX10_ask_161 ?_)
  exact j_X10_ask_162 hL e hc hx
def J_X10_ask_118 (i1 : Int32) (i2 : Int32) (i3 : Int32) (k1 : Int32) (k2 : Int32) (k3 : Int32) (iv : am_I) : Option ((Int32 × am_I) ⊕ (am_I)) :=
  (if vp_b k1 7 then (if i3 = i1 then J_X10_ask_161 i1 i2 i3 (6 : Int32) ((am_w iv 75 k1.toNatClampNeg (k2 + k3)) 75 (6 : Int32).toNatClampNeg) (am_w iv 75 k1.toNatClampNeg (k2 + k3)) else (am_o1 (F_X10_shares i3 i1 (am_w iv 75 k1.toNatClampNeg (k2 + k3))) fun v10 => (if v10 = 0 then J_X10_ask_161 i1 i2 i3 (6 : Int32) ((am_w iv 75 k1.toNatClampNeg (k2 + k3)) 75 (6 : Int32).toNatClampNeg) (am_w iv 75 k1.toNatClampNeg (k2 + k3)) else (if vp_b i3 20 then (if vp_b i1 20 then (if ((am_w iv 75 k1.toNatClampNeg (k2 + k3)) 61 i3.toNatClampNeg) ≤ ((am_w iv 75 k1.toNatClampNeg (k2 + k3)) 61 i1.toNatClampNeg) then J_X10_ask_161 i1 i2 i3 (6 : Int32) ((am_w iv 75 k1.toNatClampNeg (k2 + k3)) 75 (6 : Int32).toNatClampNeg) (am_w iv 75 k1.toNatClampNeg (k2 + k3)) else J_X10_ask_162 i1 i2 i3 (6 : Int32) ((am_w iv 75 k1.toNatClampNeg (k2 + k3)) 75 (6 : Int32).toNatClampNeg) (1 : Int32) (am_w iv 75 k1.toNatClampNeg (k2 + k3))) else none) else none)))) else none)
theorem j_X10_ask_118 {E : am_E} {S : am_S} {Q : am_O → am_S → am_I → Prop} (hL : am_Lay S) {i1 i2 i3 k1 k2 k3 : Int32} {iv : am_I} {y : (Int32 × am_I) ⊕ (am_I)} (e : J_X10_ask_118 i1 i2 i3 k1 k2 k3 iv = some y) (hc : ∀ s, y = .inl s → am_R E 1 mX10_ask 0 0 75 [.ref 54, .int i1, .int i2, .int s.1] [] S s.2 Q) (hx : ∀ a, y = .inr a → ∀ z0 z1 z2 z3 : Value, am_R E 1 mX10_ask 0 0 170 [z0, z1, z2, z3] [] S a Q) : am_R E 1 mX10_ask 0 0 118 [.ref 54, .int i1, .int i2, .int i3] [.int k3, .int k2, .int k1, .ref 75] S iv Q := by
  replace e := am_ckv e; obtain ⟨c8, e⟩ := e
  refine (sX10_ask_118 (sX10_ask_119 (hL.1 _ _ rfl) c8 (sX10_ask_120 rfl (sX10_ask_121 (hL.1 _ _ rfl) (hL.2.1 _ _ _ rfl) (sX10_ask_124 (sX10_ask_126 rfl rfl (sX10_ask_127 (hL.1 _ _ rfl) (vp_lit (by decide)) (sX10_ask_128 (sX10_ask_129 ?_)))))))))
  refine sX10_ask_130 (fun hbr => ?_) (fun hbr => ?_)
  · replace e := am_pos hbr e
    exact j_X10_ask_161 hL e hc hx
  · replace e := am_neg hbr e
    replace e := am_o1_i e; obtain ⟨v10, e10, e⟩ := e
    refine (sX10_ask_133 rfl (sX10_ask_134 (sX10_ask_135 (sX10_ask_136 (hL.1 _ _ rfl) (Nat.le_of_ble_eq_true rfl) (R_X10_shares hL (h := ?_) (hd := (Nat.le_of_ble_eq_true rfl)) (e := e10))))))
    refine sX10_ask_139 (fun hbr => ?_) (fun hbr => ?_)
    · replace e := am_pos hbr e
      exact j_X10_ask_161 hL e hc hx
    · replace e := am_neg hbr e
      replace e := am_ckv e; obtain ⟨c11, e⟩ := e
      replace e := am_ckv e; obtain ⟨c12, e⟩ := e
      refine (sX10_ask_142 rfl (sX10_ask_143 (hL.1 _ _ rfl) (hL.2.1 _ _ _ rfl) (sX10_ask_146 (sX10_ask_147 (hL.1 _ _ rfl) c11 (sX10_ask_148 rfl (sX10_ask_149 (hL.1 _ _ rfl) (hL.2.1 _ _ _ rfl) (sX10_ask_152 (sX10_ask_153 (hL.1 _ _ rfl) c12 ?_))))))))
      refine sX10_ask_154 (fun hbr => ?_) (fun hbr => ?_)
      · replace e := am_pos hbr e
        exact j_X10_ask_161 hL e hc hx
      · replace e := am_neg hbr e
        refine (sX10_ask_157 (sX10_ask_158 ?_))
        exact j_X10_ask_162 hL e hc hx
def B_X10_ask_75 (i1 : Int32) (i2 : Int32) (i3 : Int32) (iv : am_I) : Option ((Int32 × am_I) ⊕ (am_I)) :=
  (if (iv 58 (2 : Int32).toNatClampNeg) ≤ i3 then some (.inr iv) else (am_o1 (F_X10_has i2 i3 iv) fun v6 => (if v6 = 0 then some (.inl ((i3 + 1), iv)) else (if vp_b i3 20 then (if (iv 59 i3.toNatClampNeg) = (1 : Int32) then J_X10_ask_118 i1 i2 i3 (5 : Int32) (iv 75 (5 : Int32).toNatClampNeg) (1 : Int32) iv else J_X10_ask_118 i1 i2 i3 (5 : Int32) (iv 75 (5 : Int32).toNatClampNeg) (0 : Int32) iv) else none))))
theorem b_X10_ask_75 {E : am_E} {S : am_S} {Q : am_O → am_S → am_I → Prop} (hL : am_Lay S) {i1 i2 i3 : Int32} {iv : am_I} {y : (Int32 × am_I) ⊕ (am_I)} (e : B_X10_ask_75 i1 i2 i3 iv = some y) (hc : ∀ s, y = .inl s → am_R E 1 mX10_ask 0 0 75 [.ref 54, .int i1, .int i2, .int s.1] [] S s.2 Q) (hx : ∀ a, y = .inr a → ∀ z0 z1 z2 z3 : Value, am_R E 1 mX10_ask 0 0 170 [z0, z1, z2, z3] [] S a Q) : am_R E 1 mX10_ask 0 0 75 [.ref 54, .int i1, .int i2, .int i3] [] S iv Q := by
  refine (sX10_ask_75 (sX10_ask_76 rfl (sX10_ask_77 (hL.1 _ _ rfl) (hL.2.1 _ _ _ rfl) (sX10_ask_80 (sX10_ask_81 (hL.1 _ _ rfl) (vp_lit (by decide)) ?_)))))
  refine sX10_ask_82 (fun hbr => ?_) (fun hbr => ?_)
  · replace e := am_pos hbr e
    exact hx _ (Option.some.inj e).symm _ _ _ _
  · replace e := am_neg hbr e
    replace e := am_o1_i e; obtain ⟨v6, e6, e⟩ := e
    refine (sX10_ask_85 (sX10_ask_86 (sX10_ask_87 (Nat.le_of_ble_eq_true rfl) (R_X10_has (h := ?_) (hd := (Nat.le_of_ble_eq_true rfl)) (e := e6)))))
    refine sX10_ask_90 (fun hbr => ?_) (fun hbr => ?_)
    · replace e := am_neg hbr e
      replace e := am_ckv e; obtain ⟨c7, e⟩ := e
      refine (sX10_ask_96 rfl (sX10_ask_97 (hL.1 _ _ rfl) (hL.2.1 _ _ _ rfl) (sX10_ask_100 (sX10_ask_101 rfl rfl (sX10_ask_102 (hL.1 _ _ rfl) (vp_lit (by decide)) (sX10_ask_103 rfl (sX10_ask_104 (hL.1 _ _ rfl) (hL.2.1 _ _ _ rfl) (sX10_ask_107 (sX10_ask_108 (hL.1 _ _ rfl) c7 (sX10_ask_109 ?_))))))))))
      refine sX10_ask_110 (fun hbr => ?_) (fun hbr => ?_)
      · replace e := am_neg hbr e
        refine (sX10_ask_117 ?_)
        exact j_X10_ask_118 hL e hc hx
      · replace e := am_pos hbr e
        refine (sX10_ask_113 (sX10_ask_114 ?_))
        exact j_X10_ask_118 hL e hc hx
    · replace e := am_pos hbr e
      refine (sX10_ask_93 (sX10_ask_164 (sX10_ask_167 ?_)))
      exact hc _ (Option.some.inj e).symm
theorem l_X10_ask_75 {E : am_E} {S : am_S} {Q : am_O → am_S → am_I → Prop} (hL : am_Lay S) {i1 i2 : Int32} (s : (Int32 × am_I)) {x : (am_I)} (e : am_loop (fun s : (Int32 × am_I) => B_X10_ask_75 i1 i2 s.1 s.2) s = some x) (hx : ∀ z0 z1 z2 z3 : Value, am_R E 1 mX10_ask 0 0 170 [z0, z1, z2, z3] [] S x Q) : am_R E 1 mX10_ask 0 0 75 [.ref 54, .int i1, .int i2, .int s.1] [] S s.2 Q :=
  am_wh_sound (f := fun s : (Int32 × am_I) => B_X10_ask_75 i1 i2 s.1 s.2) (P := fun s => am_R E 1 mX10_ask 0 0 75 [.ref 54, .int i1, .int i2, .int s.1] [] S s.2 Q) (K := fun x => ∀ z0 z1 z2 z3 : Value, am_R E 1 mX10_ask 0 0 170 [z0, z1, z2, z3] [] S x Q) (fun s y e hc hkk => b_X10_ask_75 hL e hc (fun a hy => hkk a hy)) am_fu s x e hx
def F_X10_ask (i1 : Int32) (i2 : Int32) (iv : am_I) : Option (am_I) :=
  (if vp_b i1 20 then (if vp_b i1 20 then (if vp_b i1 20 then (if vp_b i1 20 then (am_o1 (F_X10_bitsOf i2 (am_w (am_w (am_w (am_w iv 75 (0 : Int32).toNatClampNeg (iv 60 i1.toNatClampNeg)) 75 (1 : Int32).toNatClampNeg ((am_w iv 75 (0 : Int32).toNatClampNeg (iv 60 i1.toNatClampNeg)) 61 i1.toNatClampNeg)) 75 (2 : Int32).toNatClampNeg ((am_w (am_w iv 75 (0 : Int32).toNatClampNeg (iv 60 i1.toNatClampNeg)) 75 (1 : Int32).toNatClampNeg ((am_w iv 75 (0 : Int32).toNatClampNeg (iv 60 i1.toNatClampNeg)) 61 i1.toNatClampNeg)) 62 i1.toNatClampNeg)) 75 (3 : Int32).toNatClampNeg ((am_w (am_w (am_w iv 75 (0 : Int32).toNatClampNeg (iv 60 i1.toNatClampNeg)) 75 (1 : Int32).toNatClampNeg ((am_w iv 75 (0 : Int32).toNatClampNeg (iv 60 i1.toNatClampNeg)) 61 i1.toNatClampNeg)) 75 (2 : Int32).toNatClampNeg ((am_w (am_w iv 75 (0 : Int32).toNatClampNeg (iv 60 i1.toNatClampNeg)) 75 (1 : Int32).toNatClampNeg ((am_w iv 75 (0 : Int32).toNatClampNeg (iv 60 i1.toNatClampNeg)) 61 i1.toNatClampNeg)) 62 i1.toNatClampNeg)) 59 i1.toNatClampNeg))) fun v5 => (am_o1 (am_loop (fun s : (Int32 × am_I) => B_X10_ask_75 i1 i2 s.1 s.2) ((0 : Int32), (am_w (am_w (am_w (am_w (am_w (am_w (am_w iv 75 (0 : Int32).toNatClampNeg (iv 60 i1.toNatClampNeg)) 75 (1 : Int32).toNatClampNeg ((am_w iv 75 (0 : Int32).toNatClampNeg (iv 60 i1.toNatClampNeg)) 61 i1.toNatClampNeg)) 75 (2 : Int32).toNatClampNeg ((am_w (am_w iv 75 (0 : Int32).toNatClampNeg (iv 60 i1.toNatClampNeg)) 75 (1 : Int32).toNatClampNeg ((am_w iv 75 (0 : Int32).toNatClampNeg (iv 60 i1.toNatClampNeg)) 61 i1.toNatClampNeg)) 62 i1.toNatClampNeg)) 75 (3 : Int32).toNatClampNeg ((am_w (am_w (am_w iv 75 (0 : Int32).toNatClampNeg (iv 60 i1.toNatClampNeg)) 75 (1 : Int32).toNatClampNeg ((am_w iv 75 (0 : Int32).toNatClampNeg (iv 60 i1.toNatClampNeg)) 61 i1.toNatClampNeg)) 75 (2 : Int32).toNatClampNeg ((am_w (am_w iv 75 (0 : Int32).toNatClampNeg (iv 60 i1.toNatClampNeg)) 75 (1 : Int32).toNatClampNeg ((am_w iv 75 (0 : Int32).toNatClampNeg (iv 60 i1.toNatClampNeg)) 61 i1.toNatClampNeg)) 62 i1.toNatClampNeg)) 59 i1.toNatClampNeg)) 75 (4 : Int32).toNatClampNeg v5) 75 (5 : Int32).toNatClampNeg (0 : Int32)) 75 (6 : Int32).toNatClampNeg (0 : Int32)))) fun a13 => some a13)) else none) else none) else none) else none)
theorem R_X10_ask {E : am_E} {S : am_S} {Q : am_O → am_S → am_I → Prop} (hL : am_Lay S) {i1 i2 : Int32} {iv : am_I} {y : am_I} (e : F_X10_ask i1 i2 iv = some y) (h : Q (.inl none) S y) {d : Nat} (hd : 1 ≤ d) : am_M E d mX10_ask 0 0 [.ref 54, .int i1, .int i2] S iv Q := by
  refine am_enter (js := [.double 0]) rfl pn_X10 rfl rfl rfl (Nat.le_of_ble_eq_true rfl) (am_R.deep ?_ hd)
  replace e := am_ckv e; obtain ⟨c1, e⟩ := e
  replace e := am_ckv e; obtain ⟨c2, e⟩ := e
  replace e := am_ckv e; obtain ⟨c3, e⟩ := e
  replace e := am_ckv e; obtain ⟨c4, e⟩ := e
  replace e := am_o1_i e; obtain ⟨v5, e5, e⟩ := e
  refine (sX10_ask_0 rfl (sX10_ask_1 (hL.1 _ _ rfl) (hL.2.1 _ _ _ rfl) (sX10_ask_4 (sX10_ask_5 rfl (sX10_ask_6 (hL.1 _ _ rfl) (hL.2.1 _ _ _ rfl) (sX10_ask_9 (sX10_ask_10 (hL.1 _ _ rfl) c1 (sX10_ask_11 (hL.1 _ _ rfl) (vp_lit (by decide)) (sX10_ask_12 rfl (sX10_ask_13 (hL.1 _ _ rfl) (hL.2.1 _ _ _ rfl) (sX10_ask_16 (sX10_ask_17 rfl (sX10_ask_18 (hL.1 _ _ rfl) (hL.2.1 _ _ _ rfl) (sX10_ask_21 (sX10_ask_22 (hL.1 _ _ rfl) c2 (sX10_ask_23 (hL.1 _ _ rfl) (vp_lit (by decide)) (sX10_ask_24 rfl (sX10_ask_25 (hL.1 _ _ rfl) (hL.2.1 _ _ _ rfl) (sX10_ask_28 (sX10_ask_29 rfl (sX10_ask_30 (hL.1 _ _ rfl) (hL.2.1 _ _ _ rfl) (sX10_ask_33 (sX10_ask_34 (hL.1 _ _ rfl) c3 (sX10_ask_35 (hL.1 _ _ rfl) (vp_lit (by decide)) (sX10_ask_36 rfl (sX10_ask_37 (hL.1 _ _ rfl) (hL.2.1 _ _ _ rfl) (sX10_ask_40 (sX10_ask_41 rfl (sX10_ask_42 (hL.1 _ _ rfl) (hL.2.1 _ _ _ rfl) (sX10_ask_45 (sX10_ask_46 (hL.1 _ _ rfl) c4 (sX10_ask_47 (hL.1 _ _ rfl) (vp_lit (by decide)) (sX10_ask_48 rfl (sX10_ask_49 (hL.1 _ _ rfl) (hL.2.1 _ _ _ rfl) (sX10_ask_52 (sX10_ask_53 (sX10_ask_54 (Nat.le_of_ble_eq_true rfl) (R_X10_bitsOf (h := (sX10_ask_57 (hL.1 _ _ rfl) (vp_lit (by decide)) (sX10_ask_58 rfl (sX10_ask_59 (hL.1 _ _ rfl) (hL.2.1 _ _ _ rfl) (sX10_ask_62 (sX10_ask_63 (sX10_ask_64 (hL.1 _ _ rfl) (vp_lit (by decide)) (sX10_ask_65 rfl (sX10_ask_66 (hL.1 _ _ rfl) (hL.2.1 _ _ _ rfl) (sX10_ask_69 (sX10_ask_71 (sX10_ask_72 (hL.1 _ _ rfl) (vp_lit (by decide)) (sX10_ask_73 (sX10_ask_74 ?_)))))))))))))) (hd := (Nat.le_of_ble_eq_true rfl)) (e := e5)))))))))))))))))))))))))))))))))))))))
  replace e := am_o1_i e; obtain ⟨a13, e13, e⟩ := e
  refine l_X10_ask_75 hL _ e13 ?_
  intro z0 z1 z2 z3
  refine (sX10_ask_170 ?_)
  obtain rfl := Option.some.inj e
  exact h
def J_X10_brokenBy_56 (i1 : Int32) (i2 : Int32) (i3 : Int32) (i4 : Int32) (iv : am_I) : Option ((Int32 × Int32 × am_I) ⊕ (Int32 × am_I)) :=
  (am_o2 (F_X10_holds i4 iv) fun v3 w3 => (if v3 = 0 then some (.inl (i4, (i4 + 1), w3)) else some (.inl (i2, (i4 + 1), w3))))
theorem j_X10_brokenBy_56 {E : am_E} {S : am_S} {Q : am_O → am_S → am_I → Prop} (hL : am_Lay S) {i1 i2 i3 i4 : Int32} {iv : am_I} {y : (Int32 × Int32 × am_I) ⊕ (Int32 × am_I)} (e : J_X10_brokenBy_56 i1 i2 i3 i4 iv = some y) (hc : ∀ s, y = .inl s → am_R E 2 mX10_brokenBy 0 0 34 [.ref 54, .int i1, .int s.1, .int i3, .int s.2.1] [] S s.2.2 Q) (hx : ∀ a, y = .inr a → ∀ z4 : Value, am_R E 2 mX10_brokenBy 0 0 74 [.ref 54, .int i1, .int a.1, .int i3, z4] [] S a.2 Q) : am_R E 2 mX10_brokenBy 0 0 56 [.ref 54, .int i1, .int i2, .int i3, .int i4] [] S iv Q := by
  replace e := am_o2_i e; obtain ⟨v3, w3, e3, e⟩ := e
  refine (sX10_brokenBy_56 rfl (sX10_brokenBy_57 (sX10_brokenBy_59 (hL.1 _ _ rfl) (Nat.le_of_ble_eq_true rfl) (R_X10_holds hL (h := ?_) (hd := (Nat.le_of_ble_eq_true rfl)) (e := e3)))))
  refine sX10_brokenBy_62 (fun hbr => ?_) (fun hbr => ?_)
  · replace e := am_neg hbr e
    refine (sX10_brokenBy_68 (sX10_brokenBy_71 ?_))
    exact hc _ (Option.some.inj e).symm
  · replace e := am_pos hbr e
    refine (sX10_brokenBy_65 (sX10_brokenBy_67 (sX10_brokenBy_68 (sX10_brokenBy_71 ?_))))
    exact hc _ (Option.some.inj e).symm
def B_X10_brokenBy_34 (i1 : Int32) (i3 : Int32) (i2 : Int32) (i4 : Int32) (iv : am_I) : Option ((Int32 × Int32 × am_I) ⊕ (Int32 × am_I)) :=
  (if (iv 58 (5 : Int32).toNatClampNeg) ≤ i4 then some (.inr (i2, iv)) else (if i2 = (-1 : Int32) then J_X10_brokenBy_56 i1 i2 i3 i4 iv else (if i2 ≤ i4 then some (.inl (i2, (i4 + 1), iv)) else J_X10_brokenBy_56 i1 i2 i3 i4 iv)))
theorem b_X10_brokenBy_34 {E : am_E} {S : am_S} {Q : am_O → am_S → am_I → Prop} (hL : am_Lay S) {i1 i3 i2 i4 : Int32} {iv : am_I} {y : (Int32 × Int32 × am_I) ⊕ (Int32 × am_I)} (e : B_X10_brokenBy_34 i1 i3 i2 i4 iv = some y) (hc : ∀ s, y = .inl s → am_R E 2 mX10_brokenBy 0 0 34 [.ref 54, .int i1, .int s.1, .int i3, .int s.2.1] [] S s.2.2 Q) (hx : ∀ a, y = .inr a → ∀ z4 : Value, am_R E 2 mX10_brokenBy 0 0 74 [.ref 54, .int i1, .int a.1, .int i3, z4] [] S a.2 Q) : am_R E 2 mX10_brokenBy 0 0 34 [.ref 54, .int i1, .int i2, .int i3, .int i4] [] S iv Q := by
  refine (sX10_brokenBy_34 (sX10_brokenBy_36 rfl (sX10_brokenBy_37 (hL.1 _ _ rfl) (hL.2.1 _ _ _ rfl) (sX10_brokenBy_40 (sX10_brokenBy_41 (hL.1 _ _ rfl) (vp_lit (by decide)) ?_)))))
  refine sX10_brokenBy_42 (fun hbr => ?_) (fun hbr => ?_)
  · replace e := am_pos hbr e
    exact hx _ (Option.some.inj e).symm _
  · replace e := am_neg hbr e
    refine (sX10_brokenBy_45 (sX10_brokenBy_46 ?_))
    refine sX10_brokenBy_47 (fun hbr => ?_) (fun hbr => ?_)
    · replace e := am_pos hbr e
      exact j_X10_brokenBy_56 hL e hc hx
    · replace e := am_neg hbr e
      refine (sX10_brokenBy_50 (sX10_brokenBy_52 ?_))
      refine sX10_brokenBy_53 (fun hbr => ?_) (fun hbr => ?_)
      · replace e := am_pos hbr e
        refine (sX10_brokenBy_68 (sX10_brokenBy_71 ?_))
        exact hc _ (Option.some.inj e).symm
      · replace e := am_neg hbr e
        exact j_X10_brokenBy_56 hL e hc hx
theorem l_X10_brokenBy_34 {E : am_E} {S : am_S} {Q : am_O → am_S → am_I → Prop} (hL : am_Lay S) {i1 i3 : Int32} (s : (Int32 × Int32 × am_I)) {x : (Int32 × am_I)} (e : am_loop (fun s : (Int32 × Int32 × am_I) => B_X10_brokenBy_34 i1 i3 s.1 s.2.1 s.2.2) s = some x) (hx : ∀ z4 : Value, am_R E 2 mX10_brokenBy 0 0 74 [.ref 54, .int i1, .int x.1, .int i3, z4] [] S x.2 Q) : am_R E 2 mX10_brokenBy 0 0 34 [.ref 54, .int i1, .int s.1, .int i3, .int s.2.1] [] S s.2.2 Q :=
  am_wh_sound (f := fun s : (Int32 × Int32 × am_I) => B_X10_brokenBy_34 i1 i3 s.1 s.2.1 s.2.2) (P := fun s => am_R E 2 mX10_brokenBy 0 0 34 [.ref 54, .int i1, .int s.1, .int i3, .int s.2.1] [] S s.2.2 Q) (K := fun x => ∀ z4 : Value, am_R E 2 mX10_brokenBy 0 0 74 [.ref 54, .int i1, .int x.1, .int i3, z4] [] S x.2 Q) (fun s y e hc hkk => b_X10_brokenBy_34 hL e hc (fun a hy => hkk a hy)) am_fu s x e hx
def B_X10_brokenBy_4 (i1 : Int32) (i2 : Int32) (i3 : Int32) (iv : am_I) : Option ((Int32 × Int32 × am_I) ⊕ (Int32 × am_I)) :=
  (if (iv 58 (2 : Int32).toNatClampNeg) ≤ i3 then some (.inr (i2, iv)) else (am_o1 (F_X10_has i1 i3 iv) fun v1 => (if v1 = 0 then some (.inl (i2, (i3 + 1), iv)) else (am_o1 (F_X10_ask i3 i1 iv) fun w2 => (am_o1 (am_loop (fun s : (Int32 × Int32 × am_I) => B_X10_brokenBy_34 i1 i3 s.1 s.2.1 s.2.2) (i2, (0 : Int32), w2)) fun a4 => some (.inl (a4.1, (i3 + 1), a4.2)))))))
theorem b_X10_brokenBy_4 {E : am_E} {S : am_S} {Q : am_O → am_S → am_I → Prop} (hL : am_Lay S) {z4 : Value} {i1 i2 i3 : Int32} {iv : am_I} {y : (Int32 × Int32 × am_I) ⊕ (Int32 × am_I)} (e : B_X10_brokenBy_4 i1 i2 i3 iv = some y) (hc : ∀ s, y = .inl s → ∀ z4 : Value, am_R E 2 mX10_brokenBy 0 0 4 [.ref 54, .int i1, .int s.1, .int s.2.1, z4] [] S s.2.2 Q) (hx : ∀ a, y = .inr a → ∀ z0 z1 z3 z4 : Value, am_R E 2 mX10_brokenBy 0 0 80 [z0, z1, .int a.1, z3, z4] [] S a.2 Q) : am_R E 2 mX10_brokenBy 0 0 4 [.ref 54, .int i1, .int i2, .int i3, z4] [] S iv Q := by
  refine (sX10_brokenBy_4 (sX10_brokenBy_5 rfl (sX10_brokenBy_6 (hL.1 _ _ rfl) (hL.2.1 _ _ _ rfl) (sX10_brokenBy_9 (sX10_brokenBy_10 (hL.1 _ _ rfl) (vp_lit (by decide)) ?_)))))
  refine sX10_brokenBy_11 (fun hbr => ?_) (fun hbr => ?_)
  · replace e := am_pos hbr e
    exact hx _ (Option.some.inj e).symm _ _ _ _
  · replace e := am_neg hbr e
    replace e := am_o1_i e; obtain ⟨v1, e1, e⟩ := e
    refine (sX10_brokenBy_14 (sX10_brokenBy_15 (sX10_brokenBy_16 (Nat.le_of_ble_eq_true rfl) (R_X10_has (h := ?_) (hd := (Nat.le_of_ble_eq_true rfl)) (e := e1)))))
    refine sX10_brokenBy_19 (fun hbr => ?_) (fun hbr => ?_)
    · replace e := am_neg hbr e
      replace e := am_o1_i e; obtain ⟨w2, e2, e⟩ := e
      refine (sX10_brokenBy_25 rfl (sX10_brokenBy_26 (sX10_brokenBy_27 (sX10_brokenBy_28 (hL.1 _ _ rfl) (Nat.le_of_ble_eq_true rfl) (R_X10_ask hL (h := (sX10_brokenBy_31 (sX10_brokenBy_32 ?_))) (hd := (Nat.le_of_ble_eq_true rfl)) (e := e2))))))
      replace e := am_o1_i e; obtain ⟨a4, e4, e⟩ := e
      refine l_X10_brokenBy_34 hL _ e4 ?_
      intro z4
      refine (sX10_brokenBy_74 (sX10_brokenBy_77 ?_))
      exact hc _ (Option.some.inj e).symm _
    · replace e := am_pos hbr e
      refine (sX10_brokenBy_22 (sX10_brokenBy_74 (sX10_brokenBy_77 ?_)))
      exact hc _ (Option.some.inj e).symm _
theorem l_X10_brokenBy_4 {E : am_E} {S : am_S} {Q : am_O → am_S → am_I → Prop} (hL : am_Lay S) {i1 : Int32} (s : (Int32 × Int32 × am_I)) {x : (Int32 × am_I)} (e : am_loop (fun s : (Int32 × Int32 × am_I) => B_X10_brokenBy_4 i1 s.1 s.2.1 s.2.2) s = some x) (hx : ∀ z0 z1 z3 z4 : Value, am_R E 2 mX10_brokenBy 0 0 80 [z0, z1, .int x.1, z3, z4] [] S x.2 Q) : ∀ z4 : Value, am_R E 2 mX10_brokenBy 0 0 4 [.ref 54, .int i1, .int s.1, .int s.2.1, z4] [] S s.2.2 Q :=
  am_wh_sound (f := fun s : (Int32 × Int32 × am_I) => B_X10_brokenBy_4 i1 s.1 s.2.1 s.2.2) (P := fun s => ∀ z4 : Value, am_R E 2 mX10_brokenBy 0 0 4 [.ref 54, .int i1, .int s.1, .int s.2.1, z4] [] S s.2.2 Q) (K := fun x => ∀ z0 z1 z3 z4 : Value, am_R E 2 mX10_brokenBy 0 0 80 [z0, z1, .int x.1, z3, z4] [] S x.2 Q) (fun s y e hc hkk => fun z4 => b_X10_brokenBy_4 hL e hc (fun a hy => hkk a hy)) am_fu s x e hx
def F_X10_brokenBy (i1 : Int32) (iv : am_I) : Option (Int32 × am_I) :=
  (am_o1 (am_loop (fun s : (Int32 × Int32 × am_I) => B_X10_brokenBy_4 i1 s.1 s.2.1 s.2.2) ((-1 : Int32), (0 : Int32), iv)) fun a5 => some (a5.1, a5.2))
theorem YR_X10_brokenBy {E : am_E} {S : am_S} {Q : am_O → am_S → am_I → Prop} (hL : am_Lay S) {i1 : Int32} {iv : am_I} {y : Int32 × am_I} (e : F_X10_brokenBy i1 iv = some y) (h : Q (.inl (some (.int y.1))) S y.2) {d : Nat} (hd : 2 ≤ d) : am_M E d mX10_brokenBy 0 0 [.ref 54, .int i1] S iv Q := by
  refine am_enter (js := [.double 0, .double 0, .double 0]) rfl pn_X10 rfl rfl rfl (Nat.le_of_ble_eq_true rfl) (am_R.deep ?_ hd)
  refine (sX10_brokenBy_0 (sX10_brokenBy_1 (sX10_brokenBy_2 (sX10_brokenBy_3 ?_))))
  replace e := am_o1_i e; obtain ⟨a5, e5, e⟩ := e
  refine l_X10_brokenBy_4 hL _ e5 ?_ _
  intro z0 z1 z3 z4
  refine (sX10_brokenBy_80 (sX10_brokenBy_81 ?_))
  obtain rfl := Option.some.inj e
  exact h
theorem R_X10_brokenBy {E : am_E} {S : am_S} {Q : am_O → am_S → am_I → Prop} (hL : am_Lay S) {i1 : Int32} {iv : am_I} {v' : Int32} {iv' : am_I} (e : F_X10_brokenBy i1 iv = some (v', iv')) (h : Q (.inl (some (.int v'))) S iv') {d : Nat} (hd : 2 ≤ d) : am_M E d mX10_brokenBy 0 0 [.ref 54, .int i1] S iv Q :=
  YR_X10_brokenBy hL e h hd
def B_X10_canBe_37 (i1 : Int32) (i2 : Int32) (iv : am_I) (i3 : Int32) : Option ((Int32) ⊕ ((Unit) ⊕ (Int32 × am_I))) :=
  (if (iv 58 (2 : Int32).toNatClampNeg) ≤ i3 then some (.inr (.inl ())) else (am_o1 (F_X10_has i1 i3 iv) fun v3 => (if v3 = 0 then some (.inl (i3 + 1)) else (am_o1 (F_X10_shares i2 i3 iv) fun v4 => (if v4 = 0 then some (.inl (i3 + 1)) else (if vp_b i3 20 then (if vp_b i2 20 then (if (iv 61 i2.toNatClampNeg) ≤ (iv 61 i3.toNatClampNeg) then some (.inl (i3 + 1)) else (if vp_b i3 20 then (if vp_b i2 20 then (if (iv 62 i2.toNatClampNeg) < (iv 62 i3.toNatClampNeg) then some (.inl (i3 + 1)) else some (.inr (.inr ((0 : Int32), iv)))) else none) else none)) else none) else none))))))
theorem b_X10_canBe_37 {E : am_E} {S : am_S} {Q : am_O → am_S → am_I → Prop} (hL : am_Lay S) {i1 i2 i3 : Int32} {iv : am_I} {y : (Int32) ⊕ ((Unit) ⊕ (Int32 × am_I))} (e : B_X10_canBe_37 i1 i2 iv i3 = some y) (hc : ∀ s, y = .inl s → am_R E 3 mX10_canBe 0 0 37 [.ref 54, .int i1, .int i2, .int s] [] S iv Q) (hx : ∀ a, y = .inr (.inl a) → ∀ z3 : Value, am_R E 3 mX10_canBe 0 0 102 [.ref 54, .int i1, .int i2, z3] [] S iv Q) (hr : ∀ r, y = .inr (.inr r) → Q (.inl (some (.int r.1))) S r.2) : am_R E 3 mX10_canBe 0 0 37 [.ref 54, .int i1, .int i2, .int i3] [] S iv Q := by
  refine (sX10_canBe_37 (sX10_canBe_38 rfl (sX10_canBe_39 (hL.1 _ _ rfl) (hL.2.1 _ _ _ rfl) (sX10_canBe_42 (sX10_canBe_43 (hL.1 _ _ rfl) (vp_lit (by decide)) ?_)))))
  refine sX10_canBe_44 (fun hbr => ?_) (fun hbr => ?_)
  · replace e := am_pos hbr e
    exact hx _ (Option.some.inj e).symm _
  · replace e := am_neg hbr e
    replace e := am_o1_i e; obtain ⟨v3, e3, e⟩ := e
    refine (sX10_canBe_47 (sX10_canBe_48 (sX10_canBe_49 (Nat.le_of_ble_eq_true rfl) (R_X10_has (h := ?_) (hd := (Nat.le_of_ble_eq_true rfl)) (e := e3)))))
    refine sX10_canBe_52 (fun hbr => ?_) (fun hbr => ?_)
    · replace e := am_pos hbr e
      refine (sX10_canBe_96 (sX10_canBe_99 ?_))
      exact hc _ (Option.some.inj e).symm
    · replace e := am_neg hbr e
      replace e := am_o1_i e; obtain ⟨v4, e4, e⟩ := e
      refine (sX10_canBe_55 rfl (sX10_canBe_56 (sX10_canBe_57 (sX10_canBe_58 (hL.1 _ _ rfl) (Nat.le_of_ble_eq_true rfl) (R_X10_shares hL (h := ?_) (hd := (Nat.le_of_ble_eq_true rfl)) (e := e4))))))
      refine sX10_canBe_61 (fun hbr => ?_) (fun hbr => ?_)
      · replace e := am_pos hbr e
        refine (sX10_canBe_96 (sX10_canBe_99 ?_))
        exact hc _ (Option.some.inj e).symm
      · replace e := am_neg hbr e
        replace e := am_ckv e; obtain ⟨c5, e⟩ := e
        replace e := am_ckv e; obtain ⟨c6, e⟩ := e
        refine (sX10_canBe_64 rfl (sX10_canBe_65 (hL.1 _ _ rfl) (hL.2.1 _ _ _ rfl) (sX10_canBe_68 (sX10_canBe_69 (hL.1 _ _ rfl) c5 (sX10_canBe_70 rfl (sX10_canBe_71 (hL.1 _ _ rfl) (hL.2.1 _ _ _ rfl) (sX10_canBe_74 (sX10_canBe_75 (hL.1 _ _ rfl) c6 ?_))))))))
        refine sX10_canBe_76 (fun hbr => ?_) (fun hbr => ?_)
        · replace e := am_pos hbr e
          refine (sX10_canBe_96 (sX10_canBe_99 ?_))
          exact hc _ (Option.some.inj e).symm
        · replace e := am_neg hbr e
          replace e := am_ckv e; obtain ⟨c7, e⟩ := e
          replace e := am_ckv e; obtain ⟨c8, e⟩ := e
          refine (sX10_canBe_79 rfl (sX10_canBe_80 (hL.1 _ _ rfl) (hL.2.1 _ _ _ rfl) (sX10_canBe_83 (sX10_canBe_84 (hL.1 _ _ rfl) c7 (sX10_canBe_85 rfl (sX10_canBe_86 (hL.1 _ _ rfl) (hL.2.1 _ _ _ rfl) (sX10_canBe_89 (sX10_canBe_90 (hL.1 _ _ rfl) c8 ?_))))))))
          refine sX10_canBe_91 (fun hbr => ?_) (fun hbr => ?_)
          · replace e := am_pos hbr e
            refine (sX10_canBe_96 (sX10_canBe_99 ?_))
            exact hc _ (Option.some.inj e).symm
          · replace e := am_neg hbr e
            refine (sX10_canBe_94 (sX10_canBe_95 rfl ?_))
            exact hr _ (Option.some.inj e).symm
theorem l_X10_canBe_37 {E : am_E} {S : am_S} {Q : am_O → am_S → am_I → Prop} (hL : am_Lay S) {i1 i2 : Int32} {iv : am_I} (s : (Int32)) {x : ((Unit) ⊕ (Int32 × am_I))} (e : am_loop (fun s : (Int32) => B_X10_canBe_37 i1 i2 iv s) s = some x) (hx : ∀ a, x = .inl a → ∀ z3 : Value, am_R E 3 mX10_canBe 0 0 102 [.ref 54, .int i1, .int i2, z3] [] S iv Q) (hr : ∀ r, x = .inr r → Q (.inl (some (.int r.1))) S r.2) : am_R E 3 mX10_canBe 0 0 37 [.ref 54, .int i1, .int i2, .int s] [] S iv Q :=
  am_wh_sound (f := fun s : (Int32) => B_X10_canBe_37 i1 i2 iv s) (P := fun s => am_R E 3 mX10_canBe 0 0 37 [.ref 54, .int i1, .int i2, .int s] [] S iv Q) (K := fun x => (∀ a, x = .inl a → ∀ z3 : Value, am_R E 3 mX10_canBe 0 0 102 [.ref 54, .int i1, .int i2, z3] [] S iv Q) ∧ (∀ r, x = .inr r → Q (.inl (some (.int r.1))) S r.2)) (fun s y e hc hkk => b_X10_canBe_37 hL e hc (fun a hy => (hkk _ hy).1 a rfl) (fun r hy => (hkk _ hy).2 r rfl)) am_fu s x e ⟨hx, hr⟩
def B_X10_canBe_2 (i1 : Int32) (iv : am_I) (i2 : Int32) : Option ((Int32) ⊕ ((Unit) ⊕ (Int32 × am_I))) :=
  (if (iv 58 (2 : Int32).toNatClampNeg) ≤ i2 then some (.inr (.inl ())) else (am_o1 (F_X10_has i1 i2 iv) fun v1 => (if v1 = 0 then some (.inl (i2 + 1)) else (if vp_b i2 20 then (if (iv 59 i2.toNatClampNeg) = (2 : Int32) then some (.inr (.inr ((0 : Int32), iv))) else (am_lp (am_loop (fun s : (Int32) => B_X10_canBe_37 i1 i2 iv s) (0 : Int32)) (fun a9 => some (.inl (i2 + 1))) (fun r9 => some (.inr (.inr r9))))) else none))))
theorem b_X10_canBe_2 {E : am_E} {S : am_S} {Q : am_O → am_S → am_I → Prop} (hL : am_Lay S) {z3 : Value} {i1 i2 : Int32} {iv : am_I} {y : (Int32) ⊕ ((Unit) ⊕ (Int32 × am_I))} (e : B_X10_canBe_2 i1 iv i2 = some y) (hc : ∀ s, y = .inl s → ∀ z3 : Value, am_R E 3 mX10_canBe 0 0 2 [.ref 54, .int i1, .int s, z3] [] S iv Q) (hx : ∀ a, y = .inr (.inl a) → ∀ z2 z3 : Value, am_R E 3 mX10_canBe 0 0 108 [.ref 54, .int i1, z2, z3] [] S iv Q) (hr : ∀ r, y = .inr (.inr r) → Q (.inl (some (.int r.1))) S r.2) : am_R E 3 mX10_canBe 0 0 2 [.ref 54, .int i1, .int i2, z3] [] S iv Q := by
  refine (sX10_canBe_2 (sX10_canBe_3 rfl (sX10_canBe_4 (hL.1 _ _ rfl) (hL.2.1 _ _ _ rfl) (sX10_canBe_7 (sX10_canBe_8 (hL.1 _ _ rfl) (vp_lit (by decide)) ?_)))))
  refine sX10_canBe_9 (fun hbr => ?_) (fun hbr => ?_)
  · replace e := am_pos hbr e
    exact hx _ (Option.some.inj e).symm _ _
  · replace e := am_neg hbr e
    replace e := am_o1_i e; obtain ⟨v1, e1, e⟩ := e
    refine (sX10_canBe_12 (sX10_canBe_13 (sX10_canBe_14 (Nat.le_of_ble_eq_true rfl) (R_X10_has (h := ?_) (hd := (Nat.le_of_ble_eq_true rfl)) (e := e1)))))
    refine sX10_canBe_17 (fun hbr => ?_) (fun hbr => ?_)
    · replace e := am_neg hbr e
      replace e := am_ckv e; obtain ⟨c2, e⟩ := e
      refine (sX10_canBe_23 rfl (sX10_canBe_24 (hL.1 _ _ rfl) (hL.2.1 _ _ _ rfl) (sX10_canBe_27 (sX10_canBe_28 (hL.1 _ _ rfl) c2 (sX10_canBe_29 ?_)))))
      refine sX10_canBe_30 (fun hbr => ?_) (fun hbr => ?_)
      · replace e := am_neg hbr e
        refine (sX10_canBe_35 (sX10_canBe_36 ?_))
        replace e := am_lp_i e; rcases e with ⟨a9, e9, e⟩ | ⟨r9, e9, e⟩
        · refine l_X10_canBe_37 hL _ e9 (fun a hq9 => ?_) (fun r hq9 => nomatch hq9)
          obtain rfl := Sum.inl.inj hq9
          intro z3
          refine (sX10_canBe_102 (sX10_canBe_105 ?_))
          exact hc _ (Option.some.inj e).symm _
        · refine l_X10_canBe_37 hL _ e9 (fun a hq9 => nomatch hq9) (fun r hq9 => ?_)
          obtain rfl := Sum.inr.inj hq9
          exact hr _ (Option.some.inj e).symm
      · replace e := am_pos hbr e
        refine (sX10_canBe_33 (sX10_canBe_34 rfl ?_))
        exact hr _ (Option.some.inj e).symm
    · replace e := am_pos hbr e
      refine (sX10_canBe_20 (sX10_canBe_102 (sX10_canBe_105 ?_)))
      exact hc _ (Option.some.inj e).symm _
theorem l_X10_canBe_2 {E : am_E} {S : am_S} {Q : am_O → am_S → am_I → Prop} (hL : am_Lay S) {i1 : Int32} {iv : am_I} (s : (Int32)) {x : ((Unit) ⊕ (Int32 × am_I))} (e : am_loop (fun s : (Int32) => B_X10_canBe_2 i1 iv s) s = some x) (hx : ∀ a, x = .inl a → ∀ z2 z3 : Value, am_R E 3 mX10_canBe 0 0 108 [.ref 54, .int i1, z2, z3] [] S iv Q) (hr : ∀ r, x = .inr r → Q (.inl (some (.int r.1))) S r.2) : ∀ z3 : Value, am_R E 3 mX10_canBe 0 0 2 [.ref 54, .int i1, .int s, z3] [] S iv Q :=
  am_wh_sound (f := fun s : (Int32) => B_X10_canBe_2 i1 iv s) (P := fun s => ∀ z3 : Value, am_R E 3 mX10_canBe 0 0 2 [.ref 54, .int i1, .int s, z3] [] S iv Q) (K := fun x => (∀ a, x = .inl a → ∀ z2 z3 : Value, am_R E 3 mX10_canBe 0 0 108 [.ref 54, .int i1, z2, z3] [] S iv Q) ∧ (∀ r, x = .inr r → Q (.inl (some (.int r.1))) S r.2)) (fun s y e hc hkk => fun z3 => b_X10_canBe_2 hL e hc (fun a hy => (hkk _ hy).1 a rfl) (fun r hy => (hkk _ hy).2 r rfl)) am_fu s x e ⟨hx, hr⟩
def F_X10_canBe (i1 : Int32) (iv : am_I) : Option (Int32 × am_I) :=
  (am_lp (am_loop (fun s : (Int32) => B_X10_canBe_2 i1 iv s) (0 : Int32)) (fun a10 => (am_o2 (F_X10_brokenBy i1 iv) fun v11 w11 => (if v11 = (-1 : Int32) then some ((1 : Int32), w11) else some ((0 : Int32), w11)))) (fun r10 => some r10))
theorem YR_X10_canBe {E : am_E} {S : am_S} {Q : am_O → am_S → am_I → Prop} (hL : am_Lay S) {i1 : Int32} {iv : am_I} {y : Int32 × am_I} (e : F_X10_canBe i1 iv = some y) (h : Q (.inl (some (.int y.1))) S y.2) {d : Nat} (hd : 3 ≤ d) : am_M E d mX10_canBe 0 0 [.ref 54, .int i1] S iv Q := by
  refine am_enter (js := [.double 0, .double 0]) rfl pn_X10 rfl rfl rfl (Nat.le_of_ble_eq_true rfl) (am_R.deep ?_ hd)
  refine (sX10_canBe_0 (sX10_canBe_1 ?_))
  replace e := am_lp_i e; rcases e with ⟨a10, e10, e⟩ | ⟨r10, e10, e⟩
  · refine l_X10_canBe_2 hL _ e10 (fun a hq9 => ?_) (fun r hq9 => nomatch hq9) _
    obtain rfl := Sum.inl.inj hq9
    intro z2 z3
    replace e := am_o2_i e; obtain ⟨v11, w11, e11, e⟩ := e
    refine (sX10_canBe_108 rfl (sX10_canBe_109 (sX10_canBe_110 (hL.1 _ _ rfl) (Nat.le_of_ble_eq_true rfl) (R_X10_brokenBy hL (h := (sX10_canBe_113 ?_)) (hd := (Nat.le_of_ble_eq_true rfl)) (e := e11)))))
    refine sX10_canBe_114 (fun hbr => ?_) (fun hbr => ?_)
    · replace e := am_neg hbr e
      refine (sX10_canBe_121 (sX10_canBe_122 rfl ?_))
      obtain rfl := Option.some.inj e
      exact h
    · replace e := am_pos hbr e
      refine (sX10_canBe_117 (sX10_canBe_118 (sX10_canBe_122 rfl ?_)))
      obtain rfl := Option.some.inj e
      exact h
  · refine l_X10_canBe_2 hL _ e10 (fun a hq9 => nomatch hq9) (fun r hq9 => ?_) _
    obtain rfl := Sum.inr.inj hq9
    obtain rfl := Option.some.inj e
    exact h
theorem R_X10_canBe {E : am_E} {S : am_S} {Q : am_O → am_S → am_I → Prop} (hL : am_Lay S) {i1 : Int32} {iv : am_I} {v' : Int32} {iv' : am_I} (e : F_X10_canBe i1 iv = some (v', iv')) (h : Q (.inl (some (.int v'))) S iv') {d : Nat} (hd : 3 ≤ d) : am_M E d mX10_canBe 0 0 [.ref 54, .int i1] S iv Q :=
  YR_X10_canBe hL e h hd
def B_X10_isReachedBy_19 (i1 : Int32) (i2 : Int32) (iv : am_I) (i3 : Int32) : Option ((Int32) ⊕ ((Unit) ⊕ (Int32))) :=
  (if (iv 58 (2 : Int32).toNatClampNeg) ≤ i3 then some (.inr (.inl ())) else (am_o1 (F_X10_has i2 i3 iv) fun v2 => (if v2 = 0 then some (.inl (i3 + 1)) else (am_o1 (F_X10_shares i3 i1 iv) fun v3 => (if v3 = 0 then some (.inl (i3 + 1)) else (if vp_b i1 20 then (if vp_b i3 20 then (am_o1 (F_X10_isIn ((iv 61 i1.toNatClampNeg) - (iv 61 i3.toNatClampNeg)) (1 : Int32) (iv 58 (4 : Int32).toNatClampNeg) iv) fun v6 => (if v6 = 0 then some (.inl (i3 + 1)) else some (.inr (.inr (1 : Int32))))) else none) else none))))))
theorem b_X10_isReachedBy_19 {E : am_E} {S : am_S} {Q : am_O → am_S → am_I → Prop} (hL : am_Lay S) {i1 i2 i3 : Int32} {iv : am_I} {y : (Int32) ⊕ ((Unit) ⊕ (Int32))} (e : B_X10_isReachedBy_19 i1 i2 iv i3 = some y) (hc : ∀ s, y = .inl s → am_R E 1 mX10_isReachedBy 0 0 19 [.ref 54, .int i1, .int i2, .int s] [] S iv Q) (hx : ∀ a, y = .inr (.inl a) → ∀ z0 z1 z2 z3 : Value, am_R E 1 mX10_isReachedBy 0 0 80 [z0, z1, z2, z3] [] S iv Q) (hr : ∀ r, y = .inr (.inr r) → Q (.inl (some (.int r))) S iv) : am_R E 1 mX10_isReachedBy 0 0 19 [.ref 54, .int i1, .int i2, .int i3] [] S iv Q := by
  refine (sX10_isReachedBy_19 (sX10_isReachedBy_20 rfl (sX10_isReachedBy_21 (hL.1 _ _ rfl) (hL.2.1 _ _ _ rfl) (sX10_isReachedBy_24 (sX10_isReachedBy_25 (hL.1 _ _ rfl) (vp_lit (by decide)) ?_)))))
  refine sX10_isReachedBy_26 (fun hbr => ?_) (fun hbr => ?_)
  · replace e := am_pos hbr e
    exact hx _ (Option.some.inj e).symm _ _ _ _
  · replace e := am_neg hbr e
    replace e := am_o1_i e; obtain ⟨v2, e2, e⟩ := e
    refine (sX10_isReachedBy_29 (sX10_isReachedBy_30 (sX10_isReachedBy_31 (Nat.le_of_ble_eq_true rfl) (R_X10_has (h := ?_) (hd := (Nat.le_of_ble_eq_true rfl)) (e := e2)))))
    refine sX10_isReachedBy_34 (fun hbr => ?_) (fun hbr => ?_)
    · replace e := am_pos hbr e
      refine (sX10_isReachedBy_74 (sX10_isReachedBy_77 ?_))
      exact hc _ (Option.some.inj e).symm
    · replace e := am_neg hbr e
      replace e := am_o1_i e; obtain ⟨v3, e3, e⟩ := e
      refine (sX10_isReachedBy_37 rfl (sX10_isReachedBy_38 (sX10_isReachedBy_39 (sX10_isReachedBy_40 (hL.1 _ _ rfl) (Nat.le_of_ble_eq_true rfl) (R_X10_shares hL (h := ?_) (hd := (Nat.le_of_ble_eq_true rfl)) (e := e3))))))
      refine sX10_isReachedBy_43 (fun hbr => ?_) (fun hbr => ?_)
      · replace e := am_pos hbr e
        refine (sX10_isReachedBy_74 (sX10_isReachedBy_77 ?_))
        exact hc _ (Option.some.inj e).symm
      · replace e := am_neg hbr e
        replace e := am_ckv e; obtain ⟨c4, e⟩ := e
        replace e := am_ckv e; obtain ⟨c5, e⟩ := e
        replace e := am_o1_i e; obtain ⟨v6, e6, e⟩ := e
        refine (sX10_isReachedBy_46 rfl (sX10_isReachedBy_47 (hL.1 _ _ rfl) (hL.2.1 _ _ _ rfl) (sX10_isReachedBy_50 (sX10_isReachedBy_51 (hL.1 _ _ rfl) c4 (sX10_isReachedBy_52 rfl (sX10_isReachedBy_53 (hL.1 _ _ rfl) (hL.2.1 _ _ _ rfl) (sX10_isReachedBy_56 (sX10_isReachedBy_57 (hL.1 _ _ rfl) c5 (sX10_isReachedBy_58 (sX10_isReachedBy_59 (sX10_isReachedBy_60 rfl (sX10_isReachedBy_61 (hL.1 _ _ rfl) (hL.2.1 _ _ _ rfl) (sX10_isReachedBy_64 (sX10_isReachedBy_65 (hL.1 _ _ rfl) (vp_lit (by decide)) (sX10_isReachedBy_66 (Nat.le_of_ble_eq_true rfl) (R_X10_isIn (h := ?_) (hd := (Nat.le_of_ble_eq_true rfl)) (e := e6)))))))))))))))))
        refine sX10_isReachedBy_69 (fun hbr => ?_) (fun hbr => ?_)
        · replace e := am_pos hbr e
          refine (sX10_isReachedBy_74 (sX10_isReachedBy_77 ?_))
          exact hc _ (Option.some.inj e).symm
        · replace e := am_neg hbr e
          refine (sX10_isReachedBy_72 (sX10_isReachedBy_73 rfl ?_))
          exact hr _ (Option.some.inj e).symm
theorem l_X10_isReachedBy_19 {E : am_E} {S : am_S} {Q : am_O → am_S → am_I → Prop} (hL : am_Lay S) {i1 i2 : Int32} {iv : am_I} (s : (Int32)) {x : ((Unit) ⊕ (Int32))} (e : am_loop (fun s : (Int32) => B_X10_isReachedBy_19 i1 i2 iv s) s = some x) (hx : ∀ a, x = .inl a → ∀ z0 z1 z2 z3 : Value, am_R E 1 mX10_isReachedBy 0 0 80 [z0, z1, z2, z3] [] S iv Q) (hr : ∀ r, x = .inr r → Q (.inl (some (.int r))) S iv) : am_R E 1 mX10_isReachedBy 0 0 19 [.ref 54, .int i1, .int i2, .int s] [] S iv Q :=
  am_wh_sound (f := fun s : (Int32) => B_X10_isReachedBy_19 i1 i2 iv s) (P := fun s => am_R E 1 mX10_isReachedBy 0 0 19 [.ref 54, .int i1, .int i2, .int s] [] S iv Q) (K := fun x => (∀ a, x = .inl a → ∀ z0 z1 z2 z3 : Value, am_R E 1 mX10_isReachedBy 0 0 80 [z0, z1, z2, z3] [] S iv Q) ∧ (∀ r, x = .inr r → Q (.inl (some (.int r))) S iv)) (fun s y e hc hkk => b_X10_isReachedBy_19 hL e hc (fun a hy => (hkk _ hy).1 a rfl) (fun r hy => (hkk _ hy).2 r rfl)) am_fu s x e ⟨hx, hr⟩
def F_X10_isReachedBy (i1 : Int32) (i2 : Int32) (iv : am_I) : Option (Int32) :=
  (if vp_b i1 20 then (if (iv 58 (4 : Int32).toNatClampNeg) ≤ (iv 61 i1.toNatClampNeg) then (am_lp (am_loop (fun s : (Int32) => B_X10_isReachedBy_19 i1 i2 iv s) (0 : Int32)) (fun a7 => some (0 : Int32)) (fun r7 => some r7)) else some (1 : Int32)) else none)
theorem R_X10_isReachedBy {E : am_E} {S : am_S} {Q : am_O → am_S → am_I → Prop} (hL : am_Lay S) {i1 i2 : Int32} {iv : am_I} {y : Int32} (e : F_X10_isReachedBy i1 i2 iv = some y) (h : Q (.inl (some (.int y))) S iv) {d : Nat} (hd : 1 ≤ d) : am_M E d mX10_isReachedBy 0 0 [.ref 54, .int i1, .int i2] S iv Q := by
  refine am_enter (js := [.double 0]) rfl pn_X10 rfl rfl rfl (Nat.le_of_ble_eq_true rfl) (am_R.deep ?_ hd)
  replace e := am_ckv e; obtain ⟨c1, e⟩ := e
  refine (sX10_isReachedBy_0 rfl (sX10_isReachedBy_1 (hL.1 _ _ rfl) (hL.2.1 _ _ _ rfl) (sX10_isReachedBy_4 (sX10_isReachedBy_5 (hL.1 _ _ rfl) c1 (sX10_isReachedBy_6 rfl (sX10_isReachedBy_7 (hL.1 _ _ rfl) (hL.2.1 _ _ _ rfl) (sX10_isReachedBy_10 (sX10_isReachedBy_11 (hL.1 _ _ rfl) (vp_lit (by decide)) ?_))))))))
  refine sX10_isReachedBy_12 (fun hbr => ?_) (fun hbr => ?_)
  · replace e := am_pos hbr e
    refine (sX10_isReachedBy_17 (sX10_isReachedBy_18 ?_))
    replace e := am_lp_i e; rcases e with ⟨a7, e7, e⟩ | ⟨r7, e7, e⟩
    · refine l_X10_isReachedBy_19 hL _ e7 (fun a hq9 => ?_) (fun r hq9 => nomatch hq9)
      obtain rfl := Sum.inl.inj hq9
      intro z0 z1 z2 z3
      refine (sX10_isReachedBy_80 (sX10_isReachedBy_81 rfl ?_))
      obtain rfl := Option.some.inj e
      exact h
    · refine l_X10_isReachedBy_19 hL _ e7 (fun a hq9 => nomatch hq9) (fun r hq9 => ?_)
      obtain rfl := Sum.inr.inj hq9
      obtain rfl := Option.some.inj e
      exact h
  · replace e := am_neg hbr e
    refine (sX10_isReachedBy_15 (sX10_isReachedBy_16 rfl ?_))
    obtain rfl := Option.some.inj e
    exact h
def B_X10_reachedBy_17 (i1 : Int32) (i3 : Int32) (iv : am_I) (i2 : Int32) (i4 : Int32) : Option ((Int32 × Int32) ⊕ (Int32)) :=
  (if (iv 58 (2 : Int32).toNatClampNeg) ≤ i4 then some (.inr i2) else (am_o1 (F_X10_has i2 i4 iv) fun v1 => (if v1 = 0 then (am_o1 (F_X10_isReachedBy i4 (i1 &&& i2) iv) fun v2 => (if v2 = 0 then some (.inl (i2, (i4 + 1))) else some (.inl ((i2 ||| ((1 : Int32) <<< (i4 &&& 31))), (i4 + 1))))) else some (.inl (i2, (i4 + 1))))))
theorem b_X10_reachedBy_17 {E : am_E} {S : am_S} {Q : am_O → am_S → am_I → Prop} (hL : am_Lay S) {i1 i3 i2 i4 : Int32} {iv : am_I} {y : (Int32 × Int32) ⊕ (Int32)} (e : B_X10_reachedBy_17 i1 i3 iv i2 i4 = some y) (hc : ∀ s, y = .inl s → am_R E 2 mX10_reachedBy 0 0 17 [.ref 54, .int i1, .int s.1, .int i3, .int s.2] [] S iv Q) (hx : ∀ a, y = .inr a → ∀ z4 : Value, am_R E 2 mX10_reachedBy 0 0 62 [.ref 54, .int i1, .int a, .int i3, z4] [] S iv Q) : am_R E 2 mX10_reachedBy 0 0 17 [.ref 54, .int i1, .int i2, .int i3, .int i4] [] S iv Q := by
  refine (sX10_reachedBy_17 (sX10_reachedBy_19 rfl (sX10_reachedBy_20 (hL.1 _ _ rfl) (hL.2.1 _ _ _ rfl) (sX10_reachedBy_23 (sX10_reachedBy_24 (hL.1 _ _ rfl) (vp_lit (by decide)) ?_)))))
  refine sX10_reachedBy_25 (fun hbr => ?_) (fun hbr => ?_)
  · replace e := am_pos hbr e
    exact hx _ (Option.some.inj e).symm _
  · replace e := am_neg hbr e
    replace e := am_o1_i e; obtain ⟨v1, e1, e⟩ := e
    refine (sX10_reachedBy_28 (sX10_reachedBy_29 (sX10_reachedBy_31 (Nat.le_of_ble_eq_true rfl) (R_X10_has (h := ?_) (hd := (Nat.le_of_ble_eq_true rfl)) (e := e1)))))
    refine sX10_reachedBy_34 (fun hbr => ?_) (fun hbr => ?_)
    · replace e := am_neg hbr e
      refine (sX10_reachedBy_56 (sX10_reachedBy_59 ?_))
      exact hc _ (Option.some.inj e).symm
    · replace e := am_pos hbr e
      replace e := am_o1_i e; obtain ⟨v2, e2, e⟩ := e
      refine (sX10_reachedBy_37 rfl (sX10_reachedBy_38 (sX10_reachedBy_40 (sX10_reachedBy_41 (sX10_reachedBy_42 (sX10_reachedBy_43 (hL.1 _ _ rfl) (Nat.le_of_ble_eq_true rfl) (R_X10_isReachedBy hL (h := ?_) (hd := (Nat.le_of_ble_eq_true rfl)) (e := e2))))))))
      refine sX10_reachedBy_46 (fun hbr => ?_) (fun hbr => ?_)
      · replace e := am_pos hbr e
        refine (sX10_reachedBy_56 (sX10_reachedBy_59 ?_))
        exact hc _ (Option.some.inj e).symm
      · replace e := am_neg hbr e
        refine (sX10_reachedBy_49 (sX10_reachedBy_50 (sX10_reachedBy_51 (sX10_reachedBy_53 (sX10_reachedBy_54 (sX10_reachedBy_55 (sX10_reachedBy_56 (sX10_reachedBy_59 ?_))))))))
        exact hc _ (Option.some.inj e).symm
theorem l_X10_reachedBy_17 {E : am_E} {S : am_S} {Q : am_O → am_S → am_I → Prop} (hL : am_Lay S) {i1 i3 : Int32} {iv : am_I} (s : (Int32 × Int32)) {x : (Int32)} (e : am_loop (fun s : (Int32 × Int32) => B_X10_reachedBy_17 i1 i3 iv s.1 s.2) s = some x) (hx : ∀ z4 : Value, am_R E 2 mX10_reachedBy 0 0 62 [.ref 54, .int i1, .int x, .int i3, z4] [] S iv Q) : am_R E 2 mX10_reachedBy 0 0 17 [.ref 54, .int i1, .int s.1, .int i3, .int s.2] [] S iv Q :=
  am_wh_sound (f := fun s : (Int32 × Int32) => B_X10_reachedBy_17 i1 i3 iv s.1 s.2) (P := fun s => am_R E 2 mX10_reachedBy 0 0 17 [.ref 54, .int i1, .int s.1, .int i3, .int s.2] [] S iv Q) (K := fun x => ∀ z4 : Value, am_R E 2 mX10_reachedBy 0 0 62 [.ref 54, .int i1, .int x, .int i3, z4] [] S iv Q) (fun s y e hc hkk => b_X10_reachedBy_17 hL e hc (fun a hy => hkk a hy)) am_fu s x e hx
def B_X10_reachedBy_4 (i1 : Int32) (iv : am_I) (i2 : Int32) (i3 : Int32) : Option ((Int32 × Int32) ⊕ (Int32)) :=
  (if (iv 58 (2 : Int32).toNatClampNeg) < i3 then some (.inr i2) else (am_o1 (am_loop (fun s : (Int32 × Int32) => B_X10_reachedBy_17 i1 i3 iv s.1 s.2) (i2, (0 : Int32))) fun a3 => some (.inl (a3, (i3 + 1)))))
theorem b_X10_reachedBy_4 {E : am_E} {S : am_S} {Q : am_O → am_S → am_I → Prop} (hL : am_Lay S) {z4 : Value} {i1 i2 i3 : Int32} {iv : am_I} {y : (Int32 × Int32) ⊕ (Int32)} (e : B_X10_reachedBy_4 i1 iv i2 i3 = some y) (hc : ∀ s, y = .inl s → ∀ z4 : Value, am_R E 2 mX10_reachedBy 0 0 4 [.ref 54, .int i1, .int s.1, .int s.2, z4] [] S iv Q) (hx : ∀ a, y = .inr a → ∀ z0 z1 z3 z4 : Value, am_R E 2 mX10_reachedBy 0 0 68 [z0, z1, .int a, z3, z4] [] S iv Q) : am_R E 2 mX10_reachedBy 0 0 4 [.ref 54, .int i1, .int i2, .int i3, z4] [] S iv Q := by
  refine (sX10_reachedBy_4 (sX10_reachedBy_5 rfl (sX10_reachedBy_6 (hL.1 _ _ rfl) (hL.2.1 _ _ _ rfl) (sX10_reachedBy_9 (sX10_reachedBy_10 (hL.1 _ _ rfl) (vp_lit (by decide)) ?_)))))
  refine sX10_reachedBy_11 (fun hbr => ?_) (fun hbr => ?_)
  · replace e := am_pos hbr e
    exact hx _ (Option.some.inj e).symm _ _ _ _
  · replace e := am_neg hbr e
    refine (sX10_reachedBy_14 (sX10_reachedBy_15 ?_))
    replace e := am_o1_i e; obtain ⟨a3, e3, e⟩ := e
    refine l_X10_reachedBy_17 hL _ e3 ?_
    intro z4
    refine (sX10_reachedBy_62 (sX10_reachedBy_65 ?_))
    exact hc _ (Option.some.inj e).symm _
theorem l_X10_reachedBy_4 {E : am_E} {S : am_S} {Q : am_O → am_S → am_I → Prop} (hL : am_Lay S) {i1 : Int32} {iv : am_I} (s : (Int32 × Int32)) {x : (Int32)} (e : am_loop (fun s : (Int32 × Int32) => B_X10_reachedBy_4 i1 iv s.1 s.2) s = some x) (hx : ∀ z0 z1 z3 z4 : Value, am_R E 2 mX10_reachedBy 0 0 68 [z0, z1, .int x, z3, z4] [] S iv Q) : ∀ z4 : Value, am_R E 2 mX10_reachedBy 0 0 4 [.ref 54, .int i1, .int s.1, .int s.2, z4] [] S iv Q :=
  am_wh_sound (f := fun s : (Int32 × Int32) => B_X10_reachedBy_4 i1 iv s.1 s.2) (P := fun s => ∀ z4 : Value, am_R E 2 mX10_reachedBy 0 0 4 [.ref 54, .int i1, .int s.1, .int s.2, z4] [] S iv Q) (K := fun x => ∀ z0 z1 z3 z4 : Value, am_R E 2 mX10_reachedBy 0 0 68 [z0, z1, .int x, z3, z4] [] S iv Q) (fun s y e hc hkk => fun z4 => b_X10_reachedBy_4 hL e hc (fun a hy => hkk a hy)) am_fu s x e hx
def F_X10_reachedBy (i1 : Int32) (iv : am_I) : Option (Int32) :=
  (am_o1 (am_loop (fun s : (Int32 × Int32) => B_X10_reachedBy_4 i1 iv s.1 s.2) ((0 : Int32), (0 : Int32))) fun a4 => some a4)
theorem R_X10_reachedBy {E : am_E} {S : am_S} {Q : am_O → am_S → am_I → Prop} (hL : am_Lay S) {i1 : Int32} {iv : am_I} {y : Int32} (e : F_X10_reachedBy i1 iv = some y) (h : Q (.inl (some (.int y))) S iv) {d : Nat} (hd : 2 ≤ d) : am_M E d mX10_reachedBy 0 0 [.ref 54, .int i1] S iv Q := by
  refine am_enter (js := [.double 0, .double 0, .double 0]) rfl pn_X10 rfl rfl rfl (Nat.le_of_ble_eq_true rfl) (am_R.deep ?_ hd)
  refine (sX10_reachedBy_0 (sX10_reachedBy_1 (sX10_reachedBy_2 (sX10_reachedBy_3 ?_))))
  replace e := am_o1_i e; obtain ⟨a4, e4, e⟩ := e
  refine l_X10_reachedBy_4 hL _ e4 ?_ _
  intro z0 z1 z3 z4
  refine (sX10_reachedBy_68 (sX10_reachedBy_69 ?_))
  obtain rfl := Option.some.inj e
  exact h
def F_X10_isSet (i1 : Int32) (iv : am_I) : Option (Int32) :=
  (am_o1 (F_X10_isIn i1 (0 : Int32) (((1 : Int32) <<< ((iv 58 (2 : Int32).toNatClampNeg) &&& 31)) - (1 : Int32)) iv) fun v1 => (if v1 = 0 ∨ v1 = 1 then some v1 else none))
theorem R_X10_isSet {E : am_E} {S : am_S} {Q : am_O → am_S → am_I → Prop} (hL : am_Lay S) {i1 : Int32} {iv : am_I} {y : Int32} (e : F_X10_isSet i1 iv = some y) (h : Q (.inl (some (.int y))) S iv) {d : Nat} (hd : 1 ≤ d) : am_M E d mX10_isSet 0 0 [.ref 54, .int i1] S iv Q := by
  refine am_enter (js := []) rfl pn_X10 rfl rfl rfl (Nat.le_of_ble_eq_true rfl) (am_R.deep ?_ hd)
  replace e := am_o1_i e; obtain ⟨v1, e1, e⟩ := e
  replace e := am_ck e; obtain ⟨c2, e⟩ := e
  refine (sX10_isSet_0 (sX10_isSet_1 (sX10_isSet_2 (sX10_isSet_3 rfl (sX10_isSet_4 (hL.1 _ _ rfl) (hL.2.1 _ _ _ rfl) (sX10_isSet_7 (sX10_isSet_8 (hL.1 _ _ rfl) (vp_lit (by decide)) (sX10_isSet_9 (sX10_isSet_10 (sX10_isSet_11 (sX10_isSet_12 (Nat.le_of_ble_eq_true rfl) (R_X10_isIn (h := (sX10_isSet_15 (am_nar c2) ?_)) (hd := (Nat.le_of_ble_eq_true rfl)) (e := e1)))))))))))))
  obtain rfl := Option.some.inj e
  exact h
def F_X10_may (i1 : Int32) (iv : am_I) : Option (Int32 × am_I) :=
  (am_o1 (F_X10_isSet i1 (am_w iv 54 3 (0 : Int32))) fun v1 => (if v1 = 0 then some ((0 : Int32), (am_w (am_w iv 54 3 (0 : Int32)) 54 3 (1 : Int32))) else (am_o2 (F_X10_canBe i1 (am_w iv 54 3 (0 : Int32))) fun v2 w2 => (if v2 = 0 ∨ v2 = 1 then some (v2, w2) else none))))
theorem YR_X10_may {E : am_E} {S : am_S} {Q : am_O → am_S → am_I → Prop} (hL : am_Lay S) {i1 : Int32} {iv : am_I} {y : Int32 × am_I} (e : F_X10_may i1 iv = some y) (h : Q (.inl (some (.int y.1))) S y.2) {d : Nat} (hd : 4 ≤ d) : am_M E d mX10_may 0 0 [.ref 54, .int i1] S iv Q := by
  refine am_enter (js := []) rfl pn_X10 rfl rfl rfl (Nat.le_of_ble_eq_true rfl) (am_R.deep ?_ hd)
  replace e := am_o1_i e; obtain ⟨v1, e1, e⟩ := e
  refine (sX10_may_0 rfl (sX10_may_1 (sX10_may_2 (hL.1 _ _ rfl) (sX10_may_5 rfl (sX10_may_6 (sX10_may_7 (hL.1 _ _ rfl) (Nat.le_of_ble_eq_true rfl) (R_X10_isSet hL (h := ?_) (hd := (Nat.le_of_ble_eq_true rfl)) (e := e1))))))))
  refine sX10_may_10 (fun hbr => ?_) (fun hbr => ?_)
  · replace e := am_neg hbr e
    replace e := am_o2_i e; obtain ⟨v2, w2, e2, e⟩ := e
    replace e := am_ck e; obtain ⟨c3, e⟩ := e
    refine (sX10_may_20 rfl (sX10_may_21 (sX10_may_22 (hL.1 _ _ rfl) (Nat.le_of_ble_eq_true rfl) (R_X10_canBe hL (h := (sX10_may_25 (am_nar c3) ?_)) (hd := (Nat.le_of_ble_eq_true rfl)) (e := e2)))))
    obtain rfl := Option.some.inj e
    exact h
  · replace e := am_pos hbr e
    refine (sX10_may_13 rfl (sX10_may_14 (sX10_may_15 (hL.1 _ _ rfl) (sX10_may_18 (sX10_may_19 rfl ?_)))))
    obtain rfl := Option.some.inj e
    exact h
theorem R_X10_may {E : am_E} {S : am_S} {Q : am_O → am_S → am_I → Prop} (hL : am_Lay S) {i1 : Int32} {iv : am_I} {v' : Int32} {iv' : am_I} (e : F_X10_may i1 iv = some (v', iv')) (h : Q (.inl (some (.int v'))) S iv') {d : Nat} (hd : 4 ≤ d) : am_M E d mX10_may 0 0 [.ref 54, .int i1] S iv Q :=
  YR_X10_may hL e h hd
def F_X10_broken (i1 : Int32) (iv : am_I) : Option (Int32 × am_I) :=
  (am_o1 (F_X10_isSet i1 (am_w iv 54 3 (0 : Int32))) fun v1 => (if v1 = 0 then (am_o2 (F_X10_fail (1 : Int32) (am_w iv 54 3 (0 : Int32))) fun v2 w2 => some (v2, w2)) else (am_o2 (F_X10_brokenBy i1 (am_w iv 54 3 (0 : Int32))) fun v3 w3 => some (v3, w3))))
theorem YR_X10_broken {E : am_E} {S : am_S} {Q : am_O → am_S → am_I → Prop} (hL : am_Lay S) {i1 : Int32} {iv : am_I} {y : Int32 × am_I} (e : F_X10_broken i1 iv = some y) (h : Q (.inl (some (.int y.1))) S y.2) {d : Nat} (hd : 3 ≤ d) : am_M E d mX10_broken 0 0 [.ref 54, .int i1] S iv Q := by
  refine am_enter (js := []) rfl pn_X10 rfl rfl rfl (Nat.le_of_ble_eq_true rfl) (am_R.deep ?_ hd)
  replace e := am_o1_i e; obtain ⟨v1, e1, e⟩ := e
  refine (sX10_broken_0 rfl (sX10_broken_1 (sX10_broken_2 (hL.1 _ _ rfl) (sX10_broken_5 rfl (sX10_broken_6 (sX10_broken_7 (hL.1 _ _ rfl) (Nat.le_of_ble_eq_true rfl) (R_X10_isSet hL (h := ?_) (hd := (Nat.le_of_ble_eq_true rfl)) (e := e1))))))))
  refine sX10_broken_10 (fun hbr => ?_) (fun hbr => ?_)
  · replace e := am_pos hbr e
    replace e := am_o2_i e; obtain ⟨v2, w2, e2, e⟩ := e
    refine (sX10_broken_21 rfl (sX10_broken_22 (sX10_broken_23 (hL.1 _ _ rfl) (Nat.le_of_ble_eq_true rfl) (R_X10_fail hL (h := (sX10_broken_26 ?_)) (hd := (Nat.le_of_ble_eq_true rfl)) (e := e2)))))
    obtain rfl := Option.some.inj e
    exact h
  · replace e := am_neg hbr e
    replace e := am_o2_i e; obtain ⟨v3, w3, e3, e⟩ := e
    refine (sX10_broken_13 rfl (sX10_broken_14 (sX10_broken_15 (hL.1 _ _ rfl) (Nat.le_of_ble_eq_true rfl) (R_X10_brokenBy hL (h := (sX10_broken_18 (sX10_broken_26 ?_))) (hd := (Nat.le_of_ble_eq_true rfl)) (e := e3)))))
    obtain rfl := Option.some.inj e
    exact h
theorem R_X10_broken {E : am_E} {S : am_S} {Q : am_O → am_S → am_I → Prop} (hL : am_Lay S) {i1 : Int32} {iv : am_I} {v' : Int32} {iv' : am_I} (e : F_X10_broken i1 iv = some (v', iv')) (h : Q (.inl (some (.int v'))) S iv') {d : Nat} (hd : 3 ≤ d) : am_M E d mX10_broken 0 0 [.ref 54, .int i1] S iv Q :=
  YR_X10_broken hL e h hd
def F_X10_rentOf (i1 : Int32) (iv : am_I) : Option (Int32) :=
  (if vp_b i1 20 then (if vp_b i1 20 then (if vp_b i1 20 then (if (iv 59 i1.toNatClampNeg) = (2 : Int32) then some (0 : Int32) else (if vp_b i1 20 then (if (iv 63 i1.toNatClampNeg) = (1 : Int32) then some ((2 : Int32) * (((iv 58 (6 : Int32).toNatClampNeg) + ((iv 58 (7 : Int32).toNatClampNeg) * (iv 61 i1.toNatClampNeg))) + ((iv 58 (8 : Int32).toNatClampNeg) * (iv 62 i1.toNatClampNeg)))) else some (((iv 58 (6 : Int32).toNatClampNeg) + ((iv 58 (7 : Int32).toNatClampNeg) * (iv 61 i1.toNatClampNeg))) + ((iv 58 (8 : Int32).toNatClampNeg) * (iv 62 i1.toNatClampNeg)))) else none)) else none) else none) else none)
theorem R_X10_rentOf {E : am_E} {S : am_S} {Q : am_O → am_S → am_I → Prop} (hL : am_Lay S) {i1 : Int32} {iv : am_I} {y : Int32} (e : F_X10_rentOf i1 iv = some y) (h : Q (.inl (some (.int y))) S iv) {d : Nat} (hd : 0 ≤ d) : am_M E d mX10_rentOf 0 0 [.ref 54, .int i1] S iv Q := by
  refine am_enter (js := [.double 0]) rfl pn_X10 rfl rfl rfl (Nat.le_of_ble_eq_true rfl) (am_R.deep ?_ hd)
  replace e := am_ckv e; obtain ⟨c1, e⟩ := e
  replace e := am_ckv e; obtain ⟨c2, e⟩ := e
  replace e := am_ckv e; obtain ⟨c3, e⟩ := e
  refine (sX10_rentOf_0 rfl (sX10_rentOf_1 (hL.1 _ _ rfl) (hL.2.1 _ _ _ rfl) (sX10_rentOf_4 (sX10_rentOf_6 (hL.1 _ _ rfl) (vp_lit (by decide)) (sX10_rentOf_7 rfl (sX10_rentOf_8 (hL.1 _ _ rfl) (hL.2.1 _ _ _ rfl) (sX10_rentOf_11 (sX10_rentOf_13 (hL.1 _ _ rfl) (vp_lit (by decide)) (sX10_rentOf_14 rfl (sX10_rentOf_15 (hL.1 _ _ rfl) (hL.2.1 _ _ _ rfl) (sX10_rentOf_18 (sX10_rentOf_19 (hL.1 _ _ rfl) c1 (sX10_rentOf_20 (sX10_rentOf_21 (sX10_rentOf_22 rfl (sX10_rentOf_23 (hL.1 _ _ rfl) (hL.2.1 _ _ _ rfl) (sX10_rentOf_26 (sX10_rentOf_28 (hL.1 _ _ rfl) (vp_lit (by decide)) (sX10_rentOf_29 rfl (sX10_rentOf_30 (hL.1 _ _ rfl) (hL.2.1 _ _ _ rfl) (sX10_rentOf_33 (sX10_rentOf_34 (hL.1 _ _ rfl) c2 (sX10_rentOf_35 (sX10_rentOf_36 (sX10_rentOf_37 (sX10_rentOf_38 rfl (sX10_rentOf_39 (hL.1 _ _ rfl) (hL.2.1 _ _ _ rfl) (sX10_rentOf_42 (sX10_rentOf_43 (hL.1 _ _ rfl) c3 (sX10_rentOf_44 ?_))))))))))))))))))))))))))))))
  refine sX10_rentOf_45 (fun hbr => ?_) (fun hbr => ?_)
  · replace e := am_neg hbr e
    replace e := am_ckv e; obtain ⟨c4, e⟩ := e
    refine (sX10_rentOf_52 rfl (sX10_rentOf_53 (hL.1 _ _ rfl) (hL.2.1 _ _ _ rfl) (sX10_rentOf_56 (sX10_rentOf_57 (hL.1 _ _ rfl) c4 (sX10_rentOf_58 ?_)))))
    refine sX10_rentOf_59 (fun hbr => ?_) (fun hbr => ?_)
    · replace e := am_neg hbr e
      refine (sX10_rentOf_68 (sX10_rentOf_69 ?_))
      obtain rfl := Option.some.inj e
      exact h
    · replace e := am_pos hbr e
      refine (sX10_rentOf_62 (sX10_rentOf_63 (sX10_rentOf_64 (sX10_rentOf_65 (sX10_rentOf_69 ?_)))))
      obtain rfl := Option.some.inj e
      exact h
  · replace e := am_pos hbr e
    refine (sX10_rentOf_48 (sX10_rentOf_49 (sX10_rentOf_69 ?_)))
    obtain rfl := Option.some.inj e
    exact h
def J_X10_count_89 (i1 : Int32) (iv : am_I) : Option (Int32 × am_I) :=
  (if vp_b (i1 - (11 : Int32)) 2 then some ((iv 70 (i1 - (11 : Int32)).toNatClampNeg), iv) else none)
theorem j_X10_count_89 {E : am_E} {S : am_S} {Q : am_O → am_S → am_I → Prop} (hL : am_Lay S) {i1 : Int32} {iv : am_I} {y : Int32 × am_I} (e : J_X10_count_89 i1 iv = some y) (h : Q (.inl (some (.int y.1))) S y.2) : am_R E 1 mX10_count 0 0 89 [.ref 54, .int i1] [] S iv Q := by
  replace e := am_ckv e; obtain ⟨c3, e⟩ := e
  refine (sX10_count_89 rfl (sX10_count_90 (hL.1 _ _ rfl) (hL.2.1 _ _ _ rfl) (sX10_count_93 (sX10_count_94 (sX10_count_96 (sX10_count_97 (hL.1 _ _ rfl) c3 (sX10_count_98 ?_)))))))
  obtain rfl := Option.some.inj e
  exact h
def F_X10_count (i1 : Int32) (iv : am_I) : Option (Int32 × am_I) :=
  (am_o1 (F_X10_isIn i1 (0 : Int32) (5 : Int32) (am_w iv 54 3 (0 : Int32))) fun v1 => (if v1 = 0 then (if i1.toInt < 6 ∨ 12 < i1.toInt then (am_o2 (F_X10_fail (1 : Int32) (am_w iv 54 3 (0 : Int32))) fun v2 w2 => some (v2, w2)) else if i1 = (6 : Int32) then some (((am_w iv 54 3 (0 : Int32)) 54 29), (am_w iv 54 3 (0 : Int32))) else if i1 = (7 : Int32) then some (((am_w iv 54 3 (0 : Int32)) 54 32), (am_w iv 54 3 (0 : Int32))) else if i1 = (8 : Int32) then some (((am_w iv 54 3 (0 : Int32)) 54 31), (am_w iv 54 3 (0 : Int32))) else if i1 = (9 : Int32) then some (((am_w iv 54 3 (0 : Int32)) 54 30), (am_w iv 54 3 (0 : Int32))) else if i1 = (10 : Int32) then some (((am_w iv 54 3 (0 : Int32)) 54 18), (am_w iv 54 3 (0 : Int32))) else if i1 = (11 : Int32) then J_X10_count_89 i1 (am_w iv 54 3 (0 : Int32)) else if i1 = (12 : Int32) then J_X10_count_89 i1 (am_w iv 54 3 (0 : Int32)) else none) else (if vp_b i1 20 then some (((am_w iv 54 3 (0 : Int32)) 58 i1.toNatClampNeg), (am_w iv 54 3 (0 : Int32))) else none)))
theorem YR_X10_count {E : am_E} {S : am_S} {Q : am_O → am_S → am_I → Prop} (hL : am_Lay S) {i1 : Int32} {iv : am_I} {y : Int32 × am_I} (e : F_X10_count i1 iv = some y) (h : Q (.inl (some (.int y.1))) S y.2) {d : Nat} (hd : 1 ≤ d) : am_M E d mX10_count 0 0 [.ref 54, .int i1] S iv Q := by
  refine am_enter (js := []) rfl pn_X10 rfl rfl rfl (Nat.le_of_ble_eq_true rfl) (am_R.deep ?_ hd)
  replace e := am_o1_i e; obtain ⟨v1, e1, e⟩ := e
  refine (sX10_count_0 rfl (sX10_count_1 (sX10_count_2 (hL.1 _ _ rfl) (sX10_count_5 (sX10_count_6 (sX10_count_7 (sX10_count_8 (Nat.le_of_ble_eq_true rfl) (R_X10_isIn (h := ?_) (hd := (Nat.le_of_ble_eq_true rfl)) (e := e1)))))))))
  refine sX10_count_11 (fun hbr => ?_) (fun hbr => ?_)
  · replace e := am_pos hbr e
    refine (sX10_count_21 ?_)
    by_cases hs : i1.toInt < 6 ∨ 12 < i1.toInt
    · replace e := am_pos hs e
      refine sX10_count_22_d hs ?_
      replace e := am_o2_i e; obtain ⟨v2, w2, e2, e⟩ := e
      refine (sX10_count_99 rfl (sX10_count_100 (sX10_count_101 (hL.1 _ _ rfl) (Nat.le_of_ble_eq_true rfl) (R_X10_fail hL (h := (sX10_count_104 ?_)) (hd := (Nat.le_of_ble_eq_true rfl)) (e := e2)))))
      obtain rfl := Option.some.inj e
      exact h
    · replace e := am_neg hs e
      by_cases hs0 : i1 = (6 : Int32)
      · replace e := am_pos hs0 e
        subst hs0
        refine sX10_count_22_6 ?_
        refine (sX10_count_64 rfl (sX10_count_65 (hL.1 _ _ rfl) (sX10_count_68 ?_)))
        obtain rfl := Option.some.inj e
        exact h
      replace e := am_neg hs0 e
      by_cases hs1 : i1 = (7 : Int32)
      · replace e := am_pos hs1 e
        subst hs1
        refine sX10_count_22_7 ?_
        refine (sX10_count_69 rfl (sX10_count_70 (hL.1 _ _ rfl) (sX10_count_73 ?_)))
        obtain rfl := Option.some.inj e
        exact h
      replace e := am_neg hs1 e
      by_cases hs2 : i1 = (8 : Int32)
      · replace e := am_pos hs2 e
        subst hs2
        refine sX10_count_22_8 ?_
        refine (sX10_count_74 rfl (sX10_count_75 (hL.1 _ _ rfl) (sX10_count_78 ?_)))
        obtain rfl := Option.some.inj e
        exact h
      replace e := am_neg hs2 e
      by_cases hs3 : i1 = (9 : Int32)
      · replace e := am_pos hs3 e
        subst hs3
        refine sX10_count_22_9 ?_
        refine (sX10_count_79 rfl (sX10_count_80 (hL.1 _ _ rfl) (sX10_count_83 ?_)))
        obtain rfl := Option.some.inj e
        exact h
      replace e := am_neg hs3 e
      by_cases hs4 : i1 = (10 : Int32)
      · replace e := am_pos hs4 e
        subst hs4
        refine sX10_count_22_10 ?_
        refine (sX10_count_84 rfl (sX10_count_85 (hL.1 _ _ rfl) (sX10_count_88 ?_)))
        obtain rfl := Option.some.inj e
        exact h
      replace e := am_neg hs4 e
      by_cases hs5 : i1 = (11 : Int32)
      · replace e := am_pos hs5 e
        subst hs5
        refine sX10_count_22_11 ?_
        exact j_X10_count_89 hL e h
      replace e := am_neg hs5 e
      by_cases hs6 : i1 = (12 : Int32)
      · replace e := am_pos hs6 e
        subst hs6
        refine sX10_count_22_12 ?_
        exact j_X10_count_89 hL e h
      replace e := am_neg hs6 e
      cases e
  · replace e := am_neg hbr e
    replace e := am_ckv e; obtain ⟨c4, e⟩ := e
    refine (sX10_count_14 rfl (sX10_count_15 (hL.1 _ _ rfl) (hL.2.1 _ _ _ rfl) (sX10_count_18 (sX10_count_19 (hL.1 _ _ rfl) c4 (sX10_count_20 ?_)))))
    obtain rfl := Option.some.inj e
    exact h
theorem R_X10_count {E : am_E} {S : am_S} {Q : am_O → am_S → am_I → Prop} (hL : am_Lay S) {i1 : Int32} {iv : am_I} {v' : Int32} {iv' : am_I} (e : F_X10_count i1 iv = some (v', iv')) (h : Q (.inl (some (.int v'))) S iv') {d : Nat} (hd : 1 ≤ d) : am_M E d mX10_count 0 0 [.ref 54, .int i1] S iv Q :=
  YR_X10_count hL e h hd
def F_X10_drawer (i1 : Int32) (i2 : Int32) (iv : am_I) : Option (Int32 × am_I) :=
  (am_o1 (F_X10_isDrawer i1 (am_w iv 54 3 (0 : Int32))) fun v1 => (if v1 = 0 then (am_o2 (F_X10_fail (1 : Int32) (am_w iv 54 3 (0 : Int32))) fun v10 w10 => some (v10, w10)) else (if i2.toInt < 0 ∨ 7 < i2.toInt then (am_o2 (F_X10_fail (1 : Int32) (am_w iv 54 3 (0 : Int32))) fun v2 w2 => some (v2, w2)) else if i2 = (0 : Int32) then (if vp_b i1 20 then some (((am_w iv 54 3 (0 : Int32)) 59 i1.toNatClampNeg), (am_w iv 54 3 (0 : Int32))) else none) else if i2 = (1 : Int32) then (if vp_b i1 20 then some (((am_w iv 54 3 (0 : Int32)) 60 i1.toNatClampNeg), (am_w iv 54 3 (0 : Int32))) else none) else if i2 = (2 : Int32) then (if vp_b i1 20 then some (((am_w iv 54 3 (0 : Int32)) 61 i1.toNatClampNeg), (am_w iv 54 3 (0 : Int32))) else none) else if i2 = (3 : Int32) then (if vp_b i1 20 then some (((am_w iv 54 3 (0 : Int32)) 62 i1.toNatClampNeg), (am_w iv 54 3 (0 : Int32))) else none) else if i2 = (4 : Int32) then (if vp_b i1 20 then some (((am_w iv 54 3 (0 : Int32)) 63 i1.toNatClampNeg), (am_w iv 54 3 (0 : Int32))) else none) else if i2 = (5 : Int32) then some (((((am_w iv 54 3 (0 : Int32)) 54 29) >>> (i1 &&& 31)) &&& (1 : Int32)), (am_w iv 54 3 (0 : Int32))) else if i2 = (6 : Int32) then (am_o1 (F_X10_reachedBy ((am_w iv 54 3 (0 : Int32)) 54 29) (am_w iv 54 3 (0 : Int32))) fun v8 => some (((v8 >>> (i1 &&& 31)) &&& (1 : Int32)), (am_w iv 54 3 (0 : Int32)))) else if i2 = (7 : Int32) then (am_o1 (F_X10_rentOf i1 (am_w iv 54 3 (0 : Int32))) fun v9 => some (v9, (am_w iv 54 3 (0 : Int32)))) else none)))
theorem YR_X10_drawer {E : am_E} {S : am_S} {Q : am_O → am_S → am_I → Prop} (hL : am_Lay S) {i1 i2 : Int32} {iv : am_I} {y : Int32 × am_I} (e : F_X10_drawer i1 i2 iv = some y) (h : Q (.inl (some (.int y.1))) S y.2) {d : Nat} (hd : 3 ≤ d) : am_M E d mX10_drawer 0 0 [.ref 54, .int i1, .int i2] S iv Q := by
  refine am_enter (js := []) rfl pn_X10 rfl rfl rfl (Nat.le_of_ble_eq_true rfl) (am_R.deep ?_ hd)
  replace e := am_o1_i e; obtain ⟨v1, e1, e⟩ := e
  refine (sX10_drawer_0 rfl (sX10_drawer_1 (sX10_drawer_2 (hL.1 _ _ rfl) (sX10_drawer_5 rfl (sX10_drawer_6 (sX10_drawer_7 (hL.1 _ _ rfl) (Nat.le_of_ble_eq_true rfl) (R_X10_isDrawer hL (h := ?_) (hd := (Nat.le_of_ble_eq_true rfl)) (e := e1))))))))
  refine sX10_drawer_10 (fun hbr => ?_) (fun hbr => ?_)
  · replace e := am_neg hbr e
    refine (sX10_drawer_19 ?_)
    by_cases hs : i2.toInt < 0 ∨ 7 < i2.toInt
    · replace e := am_pos hs e
      refine sX10_drawer_20_d hs ?_
      replace e := am_o2_i e; obtain ⟨v2, w2, e2, e⟩ := e
      refine (sX10_drawer_131 rfl (sX10_drawer_132 (sX10_drawer_133 (hL.1 _ _ rfl) (Nat.le_of_ble_eq_true rfl) (R_X10_fail hL (h := (sX10_drawer_136 ?_)) (hd := (Nat.le_of_ble_eq_true rfl)) (e := e2)))))
      obtain rfl := Option.some.inj e
      exact h
    · replace e := am_neg hs e
      by_cases hs0 : i2 = (0 : Int32)
      · replace e := am_pos hs0 e
        subst hs0
        refine sX10_drawer_20_0 ?_
        replace e := am_ckv e; obtain ⟨c3, e⟩ := e
        refine (sX10_drawer_68 rfl (sX10_drawer_69 (hL.1 _ _ rfl) (hL.2.1 _ _ _ rfl) (sX10_drawer_72 (sX10_drawer_73 (hL.1 _ _ rfl) c3 (sX10_drawer_74 ?_)))))
        obtain rfl := Option.some.inj e
        exact h
      replace e := am_neg hs0 e
      by_cases hs1 : i2 = (1 : Int32)
      · replace e := am_pos hs1 e
        subst hs1
        refine sX10_drawer_20_1 ?_
        replace e := am_ckv e; obtain ⟨c4, e⟩ := e
        refine (sX10_drawer_75 rfl (sX10_drawer_76 (hL.1 _ _ rfl) (hL.2.1 _ _ _ rfl) (sX10_drawer_79 (sX10_drawer_80 (hL.1 _ _ rfl) c4 (sX10_drawer_81 ?_)))))
        obtain rfl := Option.some.inj e
        exact h
      replace e := am_neg hs1 e
      by_cases hs2 : i2 = (2 : Int32)
      · replace e := am_pos hs2 e
        subst hs2
        refine sX10_drawer_20_2 ?_
        replace e := am_ckv e; obtain ⟨c5, e⟩ := e
        refine (sX10_drawer_82 rfl (sX10_drawer_83 (hL.1 _ _ rfl) (hL.2.1 _ _ _ rfl) (sX10_drawer_86 (sX10_drawer_87 (hL.1 _ _ rfl) c5 (sX10_drawer_88 ?_)))))
        obtain rfl := Option.some.inj e
        exact h
      replace e := am_neg hs2 e
      by_cases hs3 : i2 = (3 : Int32)
      · replace e := am_pos hs3 e
        subst hs3
        refine sX10_drawer_20_3 ?_
        replace e := am_ckv e; obtain ⟨c6, e⟩ := e
        refine (sX10_drawer_89 rfl (sX10_drawer_90 (hL.1 _ _ rfl) (hL.2.1 _ _ _ rfl) (sX10_drawer_93 (sX10_drawer_94 (hL.1 _ _ rfl) c6 (sX10_drawer_95 ?_)))))
        obtain rfl := Option.some.inj e
        exact h
      replace e := am_neg hs3 e
      by_cases hs4 : i2 = (4 : Int32)
      · replace e := am_pos hs4 e
        subst hs4
        refine sX10_drawer_20_4 ?_
        replace e := am_ckv e; obtain ⟨c7, e⟩ := e
        refine (sX10_drawer_96 rfl (sX10_drawer_97 (hL.1 _ _ rfl) (hL.2.1 _ _ _ rfl) (sX10_drawer_100 (sX10_drawer_101 (hL.1 _ _ rfl) c7 (sX10_drawer_102 ?_)))))
        obtain rfl := Option.some.inj e
        exact h
      replace e := am_neg hs4 e
      by_cases hs5 : i2 = (5 : Int32)
      · replace e := am_pos hs5 e
        subst hs5
        refine sX10_drawer_20_5 ?_
        refine (sX10_drawer_103 rfl (sX10_drawer_104 (hL.1 _ _ rfl) (sX10_drawer_107 (sX10_drawer_108 (sX10_drawer_109 (sX10_drawer_110 (sX10_drawer_111 ?_)))))))
        obtain rfl := Option.some.inj e
        exact h
      replace e := am_neg hs5 e
      by_cases hs6 : i2 = (6 : Int32)
      · replace e := am_pos hs6 e
        subst hs6
        refine sX10_drawer_20_6 ?_
        replace e := am_o1_i e; obtain ⟨v8, e8, e⟩ := e
        refine (sX10_drawer_112 rfl (sX10_drawer_113 rfl (sX10_drawer_114 (hL.1 _ _ rfl) (sX10_drawer_117 (hL.1 _ _ rfl) (Nat.le_of_ble_eq_true rfl) (R_X10_reachedBy hL (h := (sX10_drawer_120 (sX10_drawer_121 (sX10_drawer_122 (sX10_drawer_123 (sX10_drawer_124 ?_)))))) (hd := (Nat.le_of_ble_eq_true rfl)) (e := e8))))))
        obtain rfl := Option.some.inj e
        exact h
      replace e := am_neg hs6 e
      by_cases hs7 : i2 = (7 : Int32)
      · replace e := am_pos hs7 e
        subst hs7
        refine sX10_drawer_20_7 ?_
        replace e := am_o1_i e; obtain ⟨v9, e9, e⟩ := e
        refine (sX10_drawer_125 rfl (sX10_drawer_126 (sX10_drawer_127 (hL.1 _ _ rfl) (Nat.le_of_ble_eq_true rfl) (R_X10_rentOf hL (h := (sX10_drawer_130 ?_)) (hd := (Nat.le_of_ble_eq_true rfl)) (e := e9)))))
        obtain rfl := Option.some.inj e
        exact h
      replace e := am_neg hs7 e
      cases e
  · replace e := am_pos hbr e
    replace e := am_o2_i e; obtain ⟨v10, w10, e10, e⟩ := e
    refine (sX10_drawer_13 rfl (sX10_drawer_14 (sX10_drawer_15 (hL.1 _ _ rfl) (Nat.le_of_ble_eq_true rfl) (R_X10_fail hL (h := (sX10_drawer_18 ?_)) (hd := (Nat.le_of_ble_eq_true rfl)) (e := e10)))))
    obtain rfl := Option.some.inj e
    exact h
theorem R_X10_drawer {E : am_E} {S : am_S} {Q : am_O → am_S → am_I → Prop} (hL : am_Lay S) {i1 i2 : Int32} {iv : am_I} {v' : Int32} {iv' : am_I} (e : F_X10_drawer i1 i2 iv = some (v', iv')) (h : Q (.inl (some (.int v'))) S iv') {d : Nat} (hd : 3 ≤ d) : am_M E d mX10_drawer 0 0 [.ref 54, .int i1, .int i2] S iv Q :=
  YR_X10_drawer hL e h hd
def F_X10_person (i1 : Int32) (i2 : Int32) (iv : am_I) : Option (Int32 × am_I) :=
  (am_o1 (F_X10_isPerson i1 (am_w iv 54 3 (0 : Int32))) fun v1 => (if v1 = 0 then (am_o2 (F_X10_fail (1 : Int32) (am_w iv 54 3 (0 : Int32))) fun v7 w7 => some (v7, w7)) else (if i2 = 0 then (if vp_b i1 10 then some (((am_w iv 54 3 (0 : Int32)) 64 i1.toNatClampNeg), (am_w iv 54 3 (0 : Int32))) else none) else (if i2 = (1 : Int32) then (if vp_b i1 10 then some (((am_w iv 54 3 (0 : Int32)) 65 i1.toNatClampNeg), (am_w iv 54 3 (0 : Int32))) else none) else (if i2 = (2 : Int32) then (if vp_b i1 10 then some (((am_w iv 54 3 (0 : Int32)) 66 i1.toNatClampNeg), (am_w iv 54 3 (0 : Int32))) else none) else (if i2 = (3 : Int32) then some (((((am_w iv 54 3 (0 : Int32)) 54 31) >>> (i1 &&& 31)) &&& (1 : Int32)), (am_w iv 54 3 (0 : Int32))) else (if i2 = (4 : Int32) then (if vp_b i1 5 then some (((am_w iv 54 3 (0 : Int32)) 72 i1.toNatClampNeg), (am_w iv 54 3 (0 : Int32))) else none) else (am_o2 (F_X10_fail (1 : Int32) (am_w iv 54 3 (0 : Int32))) fun v2 w2 => some (v2, w2)))))))))
theorem YR_X10_person {E : am_E} {S : am_S} {Q : am_O → am_S → am_I → Prop} (hL : am_Lay S) {i1 i2 : Int32} {iv : am_I} {y : Int32 × am_I} (e : F_X10_person i1 i2 iv = some y) (h : Q (.inl (some (.int y.1))) S y.2) {d : Nat} (hd : 2 ≤ d) : am_M E d mX10_person 0 0 [.ref 54, .int i1, .int i2] S iv Q := by
  refine am_enter (js := []) rfl pn_X10 rfl rfl rfl (Nat.le_of_ble_eq_true rfl) (am_R.deep ?_ hd)
  replace e := am_o1_i e; obtain ⟨v1, e1, e⟩ := e
  refine (sX10_person_0 rfl (sX10_person_1 (sX10_person_2 (hL.1 _ _ rfl) (sX10_person_5 rfl (sX10_person_6 (sX10_person_7 (hL.1 _ _ rfl) (Nat.le_of_ble_eq_true rfl) (R_X10_isPerson hL (h := ?_) (hd := (Nat.le_of_ble_eq_true rfl)) (e := e1))))))))
  refine sX10_person_10 (fun hbr => ?_) (fun hbr => ?_)
  · replace e := am_neg hbr e
    refine (sX10_person_19 ?_)
    refine sX10_person_20 (fun hbr => ?_) (fun hbr => ?_)
    · replace e := am_neg hbr e
      refine (sX10_person_32 (sX10_person_33 ?_))
      refine sX10_person_34 (fun hbr => ?_) (fun hbr => ?_)
      · replace e := am_neg hbr e
        refine (sX10_person_46 (sX10_person_47 ?_))
        refine sX10_person_48 (fun hbr => ?_) (fun hbr => ?_)
        · replace e := am_neg hbr e
          refine (sX10_person_60 (sX10_person_61 ?_))
          refine sX10_person_62 (fun hbr => ?_) (fun hbr => ?_)
          · replace e := am_neg hbr e
            refine (sX10_person_76 (sX10_person_77 ?_))
            refine sX10_person_78 (fun hbr => ?_) (fun hbr => ?_)
            · replace e := am_neg hbr e
              replace e := am_o2_i e; obtain ⟨v2, w2, e2, e⟩ := e
              refine (sX10_person_90 rfl (sX10_person_91 (sX10_person_92 (hL.1 _ _ rfl) (Nat.le_of_ble_eq_true rfl) (R_X10_fail hL (h := (sX10_person_95 ?_)) (hd := (Nat.le_of_ble_eq_true rfl)) (e := e2)))))
              obtain rfl := Option.some.inj e
              exact h
            · replace e := am_pos hbr e
              replace e := am_ckv e; obtain ⟨c3, e⟩ := e
              refine (sX10_person_81 rfl (sX10_person_82 (hL.1 _ _ rfl) (hL.2.1 _ _ _ rfl) (sX10_person_85 (sX10_person_86 (hL.1 _ _ rfl) c3 (sX10_person_87 (sX10_person_95 ?_))))))
              obtain rfl := Option.some.inj e
              exact h
          · replace e := am_pos hbr e
            refine (sX10_person_65 rfl (sX10_person_66 (hL.1 _ _ rfl) (sX10_person_69 (sX10_person_70 (sX10_person_71 (sX10_person_72 (sX10_person_73 (sX10_person_95 ?_))))))))
            obtain rfl := Option.some.inj e
            exact h
        · replace e := am_pos hbr e
          replace e := am_ckv e; obtain ⟨c4, e⟩ := e
          refine (sX10_person_51 rfl (sX10_person_52 (hL.1 _ _ rfl) (hL.2.1 _ _ _ rfl) (sX10_person_55 (sX10_person_56 (hL.1 _ _ rfl) c4 (sX10_person_57 (sX10_person_95 ?_))))))
          obtain rfl := Option.some.inj e
          exact h
      · replace e := am_pos hbr e
        replace e := am_ckv e; obtain ⟨c5, e⟩ := e
        refine (sX10_person_37 rfl (sX10_person_38 (hL.1 _ _ rfl) (hL.2.1 _ _ _ rfl) (sX10_person_41 (sX10_person_42 (hL.1 _ _ rfl) c5 (sX10_person_43 (sX10_person_95 ?_))))))
        obtain rfl := Option.some.inj e
        exact h
    · replace e := am_pos hbr e
      replace e := am_ckv e; obtain ⟨c6, e⟩ := e
      refine (sX10_person_23 rfl (sX10_person_24 (hL.1 _ _ rfl) (hL.2.1 _ _ _ rfl) (sX10_person_27 (sX10_person_28 (hL.1 _ _ rfl) c6 (sX10_person_29 (sX10_person_95 ?_))))))
      obtain rfl := Option.some.inj e
      exact h
  · replace e := am_pos hbr e
    replace e := am_o2_i e; obtain ⟨v7, w7, e7, e⟩ := e
    refine (sX10_person_13 rfl (sX10_person_14 (sX10_person_15 (hL.1 _ _ rfl) (Nat.le_of_ble_eq_true rfl) (R_X10_fail hL (h := (sX10_person_18 ?_)) (hd := (Nat.le_of_ble_eq_true rfl)) (e := e7)))))
    obtain rfl := Option.some.inj e
    exact h
theorem R_X10_person {E : am_E} {S : am_S} {Q : am_O → am_S → am_I → Prop} (hL : am_Lay S) {i1 i2 : Int32} {iv : am_I} {v' : Int32} {iv' : am_I} (e : F_X10_person i1 i2 iv = some (v', iv')) (h : Q (.inl (some (.int v'))) S iv') {d : Nat} (hd : 2 ≤ d) : am_M E d mX10_person 0 0 [.ref 54, .int i1, .int i2] S iv Q :=
  YR_X10_person hL e h hd
def B_X10_feedBy_5 (i2 : Int32) (iv : am_I) (i3 : Int32) (i4 : Int32) : Option ((Int32 × Int32) ⊕ (Int32)) :=
  (if (iv 58 (3 : Int32).toNatClampNeg) ≤ i4 then some (.inr i3) else (if vp_b i4 10 then (if (iv 65 i4.toNatClampNeg) = (-1 : Int32) then some (.inl (i3, (i4 + 1))) else (if vp_b i4 10 then (am_o1 (F_X10_has i2 (iv 64 i4.toNatClampNeg) iv) fun v3 => (if v3 = 0 then some (.inl (i3, (i4 + 1))) else (if vp_b i4 10 then (am_o1 (F_X10_has i2 (iv 65 i4.toNatClampNeg) iv) fun v5 => (if v5 = 0 then some (.inl (i3, (i4 + 1))) else some (.inl ((i3 ||| ((1 : Int32) <<< (i4 &&& 31))), (i4 + 1))))) else none))) else none)) else none))
theorem b_X10_feedBy_5 {E : am_E} {S : am_S} {Q : am_O → am_S → am_I → Prop} (hL : am_Lay S) {z1 : Value} {i2 i3 i4 : Int32} {iv : am_I} {y : (Int32 × Int32) ⊕ (Int32)} (e : B_X10_feedBy_5 i2 iv i3 i4 = some y) (hc : ∀ s, y = .inl s → ∀ z1 : Value, am_R E 1 mX10_feedBy 0 0 5 [.ref 54, z1, .int i2, .int s.1, .int s.2] [] S iv Q) (hx : ∀ a, y = .inr a → ∀ z0 z1 z2 z4 : Value, am_R E 1 mX10_feedBy 0 0 68 [z0, z1, z2, .int a, z4] [] S iv Q) : am_R E 1 mX10_feedBy 0 0 5 [.ref 54, z1, .int i2, .int i3, .int i4] [] S iv Q := by
  refine (sX10_feedBy_5 (sX10_feedBy_7 rfl (sX10_feedBy_8 (hL.1 _ _ rfl) (hL.2.1 _ _ _ rfl) (sX10_feedBy_11 (sX10_feedBy_12 (hL.1 _ _ rfl) (vp_lit (by decide)) ?_)))))
  refine sX10_feedBy_13 (fun hbr => ?_) (fun hbr => ?_)
  · replace e := am_pos hbr e
    exact hx _ (Option.some.inj e).symm _ _ _ _
  · replace e := am_neg hbr e
    replace e := am_ckv e; obtain ⟨c1, e⟩ := e
    refine (sX10_feedBy_16 rfl (sX10_feedBy_17 (hL.1 _ _ rfl) (hL.2.1 _ _ _ rfl) (sX10_feedBy_20 (sX10_feedBy_22 (hL.1 _ _ rfl) c1 (sX10_feedBy_23 ?_)))))
    refine sX10_feedBy_24 (fun hbr => ?_) (fun hbr => ?_)
    · replace e := am_pos hbr e
      refine (sX10_feedBy_62 (sX10_feedBy_65 ?_))
      exact hc _ (Option.some.inj e).symm _
    · replace e := am_neg hbr e
      replace e := am_ckv e; obtain ⟨c2, e⟩ := e
      replace e := am_o1_i e; obtain ⟨v3, e3, e⟩ := e
      refine (sX10_feedBy_27 (sX10_feedBy_28 rfl (sX10_feedBy_29 (hL.1 _ _ rfl) (hL.2.1 _ _ _ rfl) (sX10_feedBy_32 (sX10_feedBy_34 (hL.1 _ _ rfl) c2 (sX10_feedBy_35 (Nat.le_of_ble_eq_true rfl) (R_X10_has (h := ?_) (hd := (Nat.le_of_ble_eq_true rfl)) (e := e3))))))))
      refine sX10_feedBy_38 (fun hbr => ?_) (fun hbr => ?_)
      · replace e := am_pos hbr e
        refine (sX10_feedBy_62 (sX10_feedBy_65 ?_))
        exact hc _ (Option.some.inj e).symm _
      · replace e := am_neg hbr e
        replace e := am_ckv e; obtain ⟨c4, e⟩ := e
        replace e := am_o1_i e; obtain ⟨v5, e5, e⟩ := e
        refine (sX10_feedBy_41 (sX10_feedBy_42 rfl (sX10_feedBy_43 (hL.1 _ _ rfl) (hL.2.1 _ _ _ rfl) (sX10_feedBy_46 (sX10_feedBy_48 (hL.1 _ _ rfl) c4 (sX10_feedBy_49 (Nat.le_of_ble_eq_true rfl) (R_X10_has (h := ?_) (hd := (Nat.le_of_ble_eq_true rfl)) (e := e5))))))))
        refine sX10_feedBy_52 (fun hbr => ?_) (fun hbr => ?_)
        · replace e := am_pos hbr e
          refine (sX10_feedBy_62 (sX10_feedBy_65 ?_))
          exact hc _ (Option.some.inj e).symm _
        · replace e := am_neg hbr e
          refine (sX10_feedBy_55 (sX10_feedBy_56 (sX10_feedBy_57 (sX10_feedBy_59 (sX10_feedBy_60 (sX10_feedBy_61 (sX10_feedBy_62 (sX10_feedBy_65 ?_))))))))
          exact hc _ (Option.some.inj e).symm _
theorem l_X10_feedBy_5 {E : am_E} {S : am_S} {Q : am_O → am_S → am_I → Prop} (hL : am_Lay S) {i2 : Int32} {iv : am_I} (s : (Int32 × Int32)) {x : (Int32)} (e : am_loop (fun s : (Int32 × Int32) => B_X10_feedBy_5 i2 iv s.1 s.2) s = some x) (hx : ∀ z0 z1 z2 z4 : Value, am_R E 1 mX10_feedBy 0 0 68 [z0, z1, z2, .int x, z4] [] S iv Q) : ∀ z1 : Value, am_R E 1 mX10_feedBy 0 0 5 [.ref 54, z1, .int i2, .int s.1, .int s.2] [] S iv Q :=
  am_wh_sound (f := fun s : (Int32 × Int32) => B_X10_feedBy_5 i2 iv s.1 s.2) (P := fun s => ∀ z1 : Value, am_R E 1 mX10_feedBy 0 0 5 [.ref 54, z1, .int i2, .int s.1, .int s.2] [] S iv Q) (K := fun x => ∀ z0 z1 z2 z4 : Value, am_R E 1 mX10_feedBy 0 0 68 [z0, z1, z2, .int x, z4] [] S iv Q) (fun s y e hc hkk => fun z1 => b_X10_feedBy_5 hL e hc (fun a hy => hkk a hy)) am_fu s x e hx
def F_X10_feedBy (i1 : Int32) (i2 : Int32) (iv : am_I) : Option (Int32) :=
  (am_o1 (am_loop (fun s : (Int32 × Int32) => B_X10_feedBy_5 i2 iv s.1 s.2) (i1, (0 : Int32))) fun a6 => some a6)
theorem R_X10_feedBy {E : am_E} {S : am_S} {Q : am_O → am_S → am_I → Prop} (hL : am_Lay S) {i1 i2 : Int32} {iv : am_I} {y : Int32} (e : F_X10_feedBy i1 i2 iv = some y) (h : Q (.inl (some (.int y))) S iv) {d : Nat} (hd : 1 ≤ d) : am_M E d mX10_feedBy 0 0 [.ref 54, .int i1, .int i2] S iv Q := by
  refine am_enter (js := [.double 0, .double 0]) rfl pn_X10 rfl rfl rfl (Nat.le_of_ble_eq_true rfl) (am_R.deep ?_ hd)
  refine (sX10_feedBy_0 (sX10_feedBy_1 (sX10_feedBy_2 (sX10_feedBy_3 ?_))))
  replace e := am_o1_i e; obtain ⟨a6, e6, e⟩ := e
  refine l_X10_feedBy_5 hL _ e6 ?_ _
  intro z0 z1 z2 z4
  refine (sX10_feedBy_68 (sX10_feedBy_69 ?_))
  obtain rfl := Option.some.inj e
  exact h
def F_X10_troubleOf (i1 : Int32) (iv : am_I) : Option (Int32 × am_I) :=
  (am_o1 (F_X10_isDrawer i1 iv) fun v1 => (if v1 = 0 then some ((1 : Int32), iv) else (am_o1 (F_X10_has (iv 54 30) i1 iv) fun v2 => (if v2 = 0 then (am_o1 (F_X10_reachedBy (iv 54 29) iv) fun v3 => (am_o1 (F_X10_has v3 i1 iv) fun v4 => (if v4 = 0 then some ((3 : Int32), iv) else (am_o2 (F_X10_canBe ((iv 54 29) ^^^ ((1 : Int32) <<< (i1 &&& 31))) iv) fun v5 w5 => (if v5 = 0 then some ((4 : Int32), w5) else (if (w5 54 32) = (100 : Int32) then some ((5 : Int32), w5) else some ((0 : Int32), w5))))))) else some ((2 : Int32), iv)))))
theorem YR_X10_troubleOf {E : am_E} {S : am_S} {Q : am_O → am_S → am_I → Prop} (hL : am_Lay S) {i1 : Int32} {iv : am_I} {y : Int32 × am_I} (e : F_X10_troubleOf i1 iv = some y) (h : Q (.inl (some (.int y.1))) S y.2) {d : Nat} (hd : 4 ≤ d) : am_M E d mX10_troubleOf 0 0 [.ref 54, .int i1] S iv Q := by
  refine am_enter (js := []) rfl pn_X10 rfl rfl rfl (Nat.le_of_ble_eq_true rfl) (am_R.deep ?_ hd)
  replace e := am_o1_i e; obtain ⟨v1, e1, e⟩ := e
  refine (sX10_troubleOf_0 rfl (sX10_troubleOf_1 (sX10_troubleOf_2 (hL.1 _ _ rfl) (Nat.le_of_ble_eq_true rfl) (R_X10_isDrawer hL (h := ?_) (hd := (Nat.le_of_ble_eq_true rfl)) (e := e1)))))
  refine sX10_troubleOf_5 (fun hbr => ?_) (fun hbr => ?_)
  · replace e := am_neg hbr e
    replace e := am_o1_i e; obtain ⟨v2, e2, e⟩ := e
    refine (sX10_troubleOf_10 rfl (sX10_troubleOf_11 (hL.1 _ _ rfl) (sX10_troubleOf_14 (sX10_troubleOf_15 (Nat.le_of_ble_eq_true rfl) (R_X10_has (h := ?_) (hd := (Nat.le_of_ble_eq_true rfl)) (e := e2))))))
    refine sX10_troubleOf_18 (fun hbr => ?_) (fun hbr => ?_)
    · replace e := am_pos hbr e
      replace e := am_o1_i e; obtain ⟨v3, e3, e⟩ := e
      replace e := am_o1_i e; obtain ⟨v4, e4, e⟩ := e
      refine (sX10_troubleOf_23 rfl (sX10_troubleOf_24 rfl (sX10_troubleOf_25 (hL.1 _ _ rfl) (sX10_troubleOf_28 (hL.1 _ _ rfl) (Nat.le_of_ble_eq_true rfl) (R_X10_reachedBy hL (h := (sX10_troubleOf_31 (sX10_troubleOf_32 (Nat.le_of_ble_eq_true rfl) (R_X10_has (h := ?_) (hd := (Nat.le_of_ble_eq_true rfl)) (e := e4))))) (hd := (Nat.le_of_ble_eq_true rfl)) (e := e3))))))
      refine sX10_troubleOf_35 (fun hbr => ?_) (fun hbr => ?_)
      · replace e := am_neg hbr e
        replace e := am_o2_i e; obtain ⟨v5, w5, e5, e⟩ := e
        refine (sX10_troubleOf_40 rfl (sX10_troubleOf_41 rfl (sX10_troubleOf_42 (hL.1 _ _ rfl) (sX10_troubleOf_45 (sX10_troubleOf_46 (sX10_troubleOf_47 (sX10_troubleOf_48 (sX10_troubleOf_49 (hL.1 _ _ rfl) (Nat.le_of_ble_eq_true rfl) (R_X10_canBe hL (h := ?_) (hd := (Nat.le_of_ble_eq_true rfl)) (e := e5))))))))))
        refine sX10_troubleOf_52 (fun hbr => ?_) (fun hbr => ?_)
        · replace e := am_pos hbr e
          refine (sX10_troubleOf_72 (sX10_troubleOf_73 ?_))
          obtain rfl := Option.some.inj e
          exact h
        · replace e := am_neg hbr e
          refine (sX10_troubleOf_55 rfl (sX10_troubleOf_56 (hL.1 _ _ rfl) (sX10_troubleOf_59 ?_)))
          refine sX10_troubleOf_61 (fun hbr => ?_) (fun hbr => ?_)
          · replace e := am_neg hbr e
            refine (sX10_troubleOf_68 (sX10_troubleOf_69 (sX10_troubleOf_73 ?_)))
            obtain rfl := Option.some.inj e
            exact h
          · replace e := am_pos hbr e
            refine (sX10_troubleOf_64 (sX10_troubleOf_65 (sX10_troubleOf_73 ?_)))
            obtain rfl := Option.some.inj e
            exact h
      · replace e := am_pos hbr e
        refine (sX10_troubleOf_38 (sX10_troubleOf_39 ?_))
        obtain rfl := Option.some.inj e
        exact h
    · replace e := am_neg hbr e
      refine (sX10_troubleOf_21 (sX10_troubleOf_22 ?_))
      obtain rfl := Option.some.inj e
      exact h
  · replace e := am_pos hbr e
    refine (sX10_troubleOf_8 (sX10_troubleOf_9 ?_))
    obtain rfl := Option.some.inj e
    exact h
theorem R_X10_troubleOf {E : am_E} {S : am_S} {Q : am_O → am_S → am_I → Prop} (hL : am_Lay S) {i1 : Int32} {iv : am_I} {v' : Int32} {iv' : am_I} (e : F_X10_troubleOf i1 iv = some (v', iv')) (h : Q (.inl (some (.int v'))) S iv') {d : Nat} (hd : 4 ≤ d) : am_M E d mX10_troubleOf 0 0 [.ref 54, .int i1] S iv Q :=
  YR_X10_troubleOf hL e h hd
def F_X10_move (i1 : Int32) (iv : am_I) : Option (Int32 × am_I) :=
  (am_o2 (F_X10_troubleOf i1 (am_w iv 54 3 (0 : Int32))) fun v1 w1 => (if v1 = 0 then (if vp_b (w1 54 32) 100 then (if vp_b ((am_w w1 73 (w1 54 32).toNatClampNeg i1) 54 32) 100 then (am_o1 (F_X10_feedBy ((am_w (am_w (am_w (am_w w1 73 (w1 54 32).toNatClampNeg i1) 74 ((am_w w1 73 (w1 54 32).toNatClampNeg i1) 54 32).toNatClampNeg ((am_w w1 73 (w1 54 32).toNatClampNeg i1) 54 31)) 54 32 (((am_w (am_w w1 73 (w1 54 32).toNatClampNeg i1) 74 ((am_w w1 73 (w1 54 32).toNatClampNeg i1) 54 32).toNatClampNeg ((am_w w1 73 (w1 54 32).toNatClampNeg i1) 54 31)) 54 32) + (1 : Int32))) 54 29 (((am_w (am_w (am_w w1 73 (w1 54 32).toNatClampNeg i1) 74 ((am_w w1 73 (w1 54 32).toNatClampNeg i1) 54 32).toNatClampNeg ((am_w w1 73 (w1 54 32).toNatClampNeg i1) 54 31)) 54 32 (((am_w (am_w w1 73 (w1 54 32).toNatClampNeg i1) 74 ((am_w w1 73 (w1 54 32).toNatClampNeg i1) 54 32).toNatClampNeg ((am_w w1 73 (w1 54 32).toNatClampNeg i1) 54 31)) 54 32) + (1 : Int32))) 54 29) ^^^ ((1 : Int32) <<< (i1 &&& 31)))) 54 31) ((am_w (am_w (am_w (am_w w1 73 (w1 54 32).toNatClampNeg i1) 74 ((am_w w1 73 (w1 54 32).toNatClampNeg i1) 54 32).toNatClampNeg ((am_w w1 73 (w1 54 32).toNatClampNeg i1) 54 31)) 54 32 (((am_w (am_w w1 73 (w1 54 32).toNatClampNeg i1) 74 ((am_w w1 73 (w1 54 32).toNatClampNeg i1) 54 32).toNatClampNeg ((am_w w1 73 (w1 54 32).toNatClampNeg i1) 54 31)) 54 32) + (1 : Int32))) 54 29 (((am_w (am_w (am_w w1 73 (w1 54 32).toNatClampNeg i1) 74 ((am_w w1 73 (w1 54 32).toNatClampNeg i1) 54 32).toNatClampNeg ((am_w w1 73 (w1 54 32).toNatClampNeg i1) 54 31)) 54 32 (((am_w (am_w w1 73 (w1 54 32).toNatClampNeg i1) 74 ((am_w w1 73 (w1 54 32).toNatClampNeg i1) 54 32).toNatClampNeg ((am_w w1 73 (w1 54 32).toNatClampNeg i1) 54 31)) 54 32) + (1 : Int32))) 54 29) ^^^ ((1 : Int32) <<< (i1 &&& 31)))) 54 29) (am_w (am_w (am_w (am_w w1 73 (w1 54 32).toNatClampNeg i1) 74 ((am_w w1 73 (w1 54 32).toNatClampNeg i1) 54 32).toNatClampNeg ((am_w w1 73 (w1 54 32).toNatClampNeg i1) 54 31)) 54 32 (((am_w (am_w w1 73 (w1 54 32).toNatClampNeg i1) 74 ((am_w w1 73 (w1 54 32).toNatClampNeg i1) 54 32).toNatClampNeg ((am_w w1 73 (w1 54 32).toNatClampNeg i1) 54 31)) 54 32) + (1 : Int32))) 54 29 (((am_w (am_w (am_w w1 73 (w1 54 32).toNatClampNeg i1) 74 ((am_w w1 73 (w1 54 32).toNatClampNeg i1) 54 32).toNatClampNeg ((am_w w1 73 (w1 54 32).toNatClampNeg i1) 54 31)) 54 32 (((am_w (am_w w1 73 (w1 54 32).toNatClampNeg i1) 74 ((am_w w1 73 (w1 54 32).toNatClampNeg i1) 54 32).toNatClampNeg ((am_w w1 73 (w1 54 32).toNatClampNeg i1) 54 31)) 54 32) + (1 : Int32))) 54 29) ^^^ ((1 : Int32) <<< (i1 &&& 31))))) fun v4 => some ((0 : Int32), (am_w (am_w (am_w (am_w (am_w w1 73 (w1 54 32).toNatClampNeg i1) 74 ((am_w w1 73 (w1 54 32).toNatClampNeg i1) 54 32).toNatClampNeg ((am_w w1 73 (w1 54 32).toNatClampNeg i1) 54 31)) 54 32 (((am_w (am_w w1 73 (w1 54 32).toNatClampNeg i1) 74 ((am_w w1 73 (w1 54 32).toNatClampNeg i1) 54 32).toNatClampNeg ((am_w w1 73 (w1 54 32).toNatClampNeg i1) 54 31)) 54 32) + (1 : Int32))) 54 29 (((am_w (am_w (am_w w1 73 (w1 54 32).toNatClampNeg i1) 74 ((am_w w1 73 (w1 54 32).toNatClampNeg i1) 54 32).toNatClampNeg ((am_w w1 73 (w1 54 32).toNatClampNeg i1) 54 31)) 54 32 (((am_w (am_w w1 73 (w1 54 32).toNatClampNeg i1) 74 ((am_w w1 73 (w1 54 32).toNatClampNeg i1) 54 32).toNatClampNeg ((am_w w1 73 (w1 54 32).toNatClampNeg i1) 54 31)) 54 32) + (1 : Int32))) 54 29) ^^^ ((1 : Int32) <<< (i1 &&& 31)))) 54 31 v4))) else none) else none) else some (v1, (am_w w1 70 (1 : Int32).toNatClampNeg ((w1 70 (1 : Int32).toNatClampNeg) + (1 : Int32))))))
theorem YR_X10_move {E : am_E} {S : am_S} {Q : am_O → am_S → am_I → Prop} (hL : am_Lay S) {i1 : Int32} {iv : am_I} {y : Int32 × am_I} (e : F_X10_move i1 iv = some y) (h : Q (.inl (some (.int y.1))) S y.2) {d : Nat} (hd : 5 ≤ d) : am_M E d mX10_move 0 0 [.ref 54, .int i1] S iv Q := by
  refine am_enter (js := [.double 0]) rfl pn_X10 rfl rfl rfl (Nat.le_of_ble_eq_true rfl) (am_R.deep ?_ hd)
  replace e := am_o2_i e; obtain ⟨v1, w1, e1, e⟩ := e
  refine (sX10_move_0 rfl (sX10_move_1 (sX10_move_2 (hL.1 _ _ rfl) (sX10_move_5 rfl (sX10_move_6 (sX10_move_7 (hL.1 _ _ rfl) (Nat.le_of_ble_eq_true rfl) (R_X10_troubleOf hL (h := (sX10_move_10 (sX10_move_11 ?_))) (hd := (Nat.le_of_ble_eq_true rfl)) (e := e1))))))))
  refine sX10_move_12 (fun hbr => ?_) (fun hbr => ?_)
  · replace e := am_pos hbr e
    replace e := am_ckv e; obtain ⟨c2, e⟩ := e
    replace e := am_ckv e; obtain ⟨c3, e⟩ := e
    replace e := am_o1_i e; obtain ⟨v4, e4, e⟩ := e
    refine (sX10_move_27 rfl (sX10_move_28 (hL.1 _ _ rfl) (hL.2.1 _ _ _ rfl) (sX10_move_31 rfl (sX10_move_32 (hL.1 _ _ rfl) (sX10_move_35 (sX10_move_36 (hL.1 _ _ rfl) c2 (sX10_move_37 rfl (sX10_move_38 (hL.1 _ _ rfl) (hL.2.1 _ _ _ rfl) (sX10_move_41 rfl (sX10_move_42 (hL.1 _ _ rfl) (sX10_move_45 rfl (sX10_move_46 (hL.1 _ _ rfl) (sX10_move_49 (hL.1 _ _ rfl) c3 (sX10_move_50 rfl (sX10_move_51 rfl (sX10_move_52 (hL.1 _ _ rfl) (sX10_move_55 (sX10_move_56 (sX10_move_57 (hL.1 _ _ rfl) (sX10_move_60 rfl (sX10_move_61 rfl (sX10_move_62 (hL.1 _ _ rfl) (sX10_move_65 (sX10_move_66 (sX10_move_67 (sX10_move_68 (sX10_move_69 (hL.1 _ _ rfl) (sX10_move_72 rfl (sX10_move_73 rfl (sX10_move_74 rfl (sX10_move_75 (hL.1 _ _ rfl) (sX10_move_78 rfl (sX10_move_79 (hL.1 _ _ rfl) (sX10_move_82 (hL.1 _ _ rfl) (Nat.le_of_ble_eq_true rfl) (R_X10_feedBy hL (h := (sX10_move_85 (hL.1 _ _ rfl) (sX10_move_88 (sX10_move_89 ?_)))) (hd := (Nat.le_of_ble_eq_true rfl)) (e := e4))))))))))))))))))))))))))))))))))))
    obtain rfl := Option.some.inj e
    exact h
  · replace e := am_neg hbr e
    refine (sX10_move_15 rfl (sX10_move_16 (hL.1 _ _ rfl) (hL.2.1 _ _ _ rfl) (sX10_move_19 (sX10_move_20 rfl rfl (sX10_move_21 (hL.1 _ _ rfl) (vp_lit (by decide)) (sX10_move_22 (sX10_move_23 (sX10_move_24 (hL.1 _ _ rfl) (vp_lit (by decide)) (sX10_move_25 (sX10_move_26 ?_))))))))))
    obtain rfl := Option.some.inj e
    exact h
theorem R_X10_move {E : am_E} {S : am_S} {Q : am_O → am_S → am_I → Prop} (hL : am_Lay S) {i1 : Int32} {iv : am_I} {v' : Int32} {iv' : am_I} (e : F_X10_move i1 iv = some (v', iv')) (h : Q (.inl (some (.int v'))) S iv') {d : Nat} (hd : 5 ≤ d) : am_M E d mX10_move 0 0 [.ref 54, .int i1] S iv Q :=
  YR_X10_move hL e h hd
def F_X10_undo (iv : am_I) : Option (Int32 × am_I) :=
  (if ((am_w iv 54 3 (0 : Int32)) 54 32) = 0 then some ((-1 : Int32), (am_w iv 54 3 (0 : Int32))) else (if vp_b ((am_w (am_w iv 54 3 (0 : Int32)) 54 32 (((am_w iv 54 3 (0 : Int32)) 54 32) - (1 : Int32))) 54 32) 100 then (if vp_b ((am_w (am_w (am_w iv 54 3 (0 : Int32)) 54 32 (((am_w iv 54 3 (0 : Int32)) 54 32) - (1 : Int32))) 54 29 (((am_w (am_w iv 54 3 (0 : Int32)) 54 32 (((am_w iv 54 3 (0 : Int32)) 54 32) - (1 : Int32))) 54 29) ^^^ ((1 : Int32) <<< (((am_w (am_w iv 54 3 (0 : Int32)) 54 32 (((am_w iv 54 3 (0 : Int32)) 54 32) - (1 : Int32))) 73 ((am_w (am_w iv 54 3 (0 : Int32)) 54 32 (((am_w iv 54 3 (0 : Int32)) 54 32) - (1 : Int32))) 54 32).toNatClampNeg) &&& 31)))) 54 32) 100 then some (((am_w (am_w (am_w (am_w iv 54 3 (0 : Int32)) 54 32 (((am_w iv 54 3 (0 : Int32)) 54 32) - (1 : Int32))) 54 29 (((am_w (am_w iv 54 3 (0 : Int32)) 54 32 (((am_w iv 54 3 (0 : Int32)) 54 32) - (1 : Int32))) 54 29) ^^^ ((1 : Int32) <<< (((am_w (am_w iv 54 3 (0 : Int32)) 54 32 (((am_w iv 54 3 (0 : Int32)) 54 32) - (1 : Int32))) 73 ((am_w (am_w iv 54 3 (0 : Int32)) 54 32 (((am_w iv 54 3 (0 : Int32)) 54 32) - (1 : Int32))) 54 32).toNatClampNeg) &&& 31)))) 54 31 ((am_w (am_w (am_w iv 54 3 (0 : Int32)) 54 32 (((am_w iv 54 3 (0 : Int32)) 54 32) - (1 : Int32))) 54 29 (((am_w (am_w iv 54 3 (0 : Int32)) 54 32 (((am_w iv 54 3 (0 : Int32)) 54 32) - (1 : Int32))) 54 29) ^^^ ((1 : Int32) <<< (((am_w (am_w iv 54 3 (0 : Int32)) 54 32 (((am_w iv 54 3 (0 : Int32)) 54 32) - (1 : Int32))) 73 ((am_w (am_w iv 54 3 (0 : Int32)) 54 32 (((am_w iv 54 3 (0 : Int32)) 54 32) - (1 : Int32))) 54 32).toNatClampNeg) &&& 31)))) 74 ((am_w (am_w (am_w iv 54 3 (0 : Int32)) 54 32 (((am_w iv 54 3 (0 : Int32)) 54 32) - (1 : Int32))) 54 29 (((am_w (am_w iv 54 3 (0 : Int32)) 54 32 (((am_w iv 54 3 (0 : Int32)) 54 32) - (1 : Int32))) 54 29) ^^^ ((1 : Int32) <<< (((am_w (am_w iv 54 3 (0 : Int32)) 54 32 (((am_w iv 54 3 (0 : Int32)) 54 32) - (1 : Int32))) 73 ((am_w (am_w iv 54 3 (0 : Int32)) 54 32 (((am_w iv 54 3 (0 : Int32)) 54 32) - (1 : Int32))) 54 32).toNatClampNeg) &&& 31)))) 54 32).toNatClampNeg)) 54 32), (am_w (am_w (am_w (am_w iv 54 3 (0 : Int32)) 54 32 (((am_w iv 54 3 (0 : Int32)) 54 32) - (1 : Int32))) 54 29 (((am_w (am_w iv 54 3 (0 : Int32)) 54 32 (((am_w iv 54 3 (0 : Int32)) 54 32) - (1 : Int32))) 54 29) ^^^ ((1 : Int32) <<< (((am_w (am_w iv 54 3 (0 : Int32)) 54 32 (((am_w iv 54 3 (0 : Int32)) 54 32) - (1 : Int32))) 73 ((am_w (am_w iv 54 3 (0 : Int32)) 54 32 (((am_w iv 54 3 (0 : Int32)) 54 32) - (1 : Int32))) 54 32).toNatClampNeg) &&& 31)))) 54 31 ((am_w (am_w (am_w iv 54 3 (0 : Int32)) 54 32 (((am_w iv 54 3 (0 : Int32)) 54 32) - (1 : Int32))) 54 29 (((am_w (am_w iv 54 3 (0 : Int32)) 54 32 (((am_w iv 54 3 (0 : Int32)) 54 32) - (1 : Int32))) 54 29) ^^^ ((1 : Int32) <<< (((am_w (am_w iv 54 3 (0 : Int32)) 54 32 (((am_w iv 54 3 (0 : Int32)) 54 32) - (1 : Int32))) 73 ((am_w (am_w iv 54 3 (0 : Int32)) 54 32 (((am_w iv 54 3 (0 : Int32)) 54 32) - (1 : Int32))) 54 32).toNatClampNeg) &&& 31)))) 74 ((am_w (am_w (am_w iv 54 3 (0 : Int32)) 54 32 (((am_w iv 54 3 (0 : Int32)) 54 32) - (1 : Int32))) 54 29 (((am_w (am_w iv 54 3 (0 : Int32)) 54 32 (((am_w iv 54 3 (0 : Int32)) 54 32) - (1 : Int32))) 54 29) ^^^ ((1 : Int32) <<< (((am_w (am_w iv 54 3 (0 : Int32)) 54 32 (((am_w iv 54 3 (0 : Int32)) 54 32) - (1 : Int32))) 73 ((am_w (am_w iv 54 3 (0 : Int32)) 54 32 (((am_w iv 54 3 (0 : Int32)) 54 32) - (1 : Int32))) 54 32).toNatClampNeg) &&& 31)))) 54 32).toNatClampNeg))) else none) else none))
theorem YR_X10_undo {E : am_E} {S : am_S} {Q : am_O → am_S → am_I → Prop} (hL : am_Lay S) {iv : am_I} {y : Int32 × am_I} (e : F_X10_undo  iv = some y) (h : Q (.inl (some (.int y.1))) S y.2) {d : Nat} (hd : 0 ≤ d) : am_M E d mX10_undo 0 0 [.ref 54] S iv Q := by
  refine am_enter (js := []) rfl pn_X10 rfl rfl rfl (Nat.le_of_ble_eq_true rfl) (am_R.deep ?_ hd)
  refine (sX10_undo_0 rfl (sX10_undo_1 (sX10_undo_2 (hL.1 _ _ rfl) (sX10_undo_5 rfl (sX10_undo_6 (hL.1 _ _ rfl) ?_)))))
  refine sX10_undo_9 (fun hbr => ?_) (fun hbr => ?_)
  · replace e := am_neg hbr e
    replace e := am_ckv e; obtain ⟨c1, e⟩ := e
    replace e := am_ckv e; obtain ⟨c2, e⟩ := e
    refine (sX10_undo_14 rfl (sX10_undo_15 rfl (sX10_undo_16 (hL.1 _ _ rfl) (sX10_undo_19 (sX10_undo_20 (sX10_undo_21 (hL.1 _ _ rfl) (sX10_undo_24 rfl (sX10_undo_25 rfl (sX10_undo_26 (hL.1 _ _ rfl) (sX10_undo_29 (sX10_undo_30 rfl (sX10_undo_31 (hL.1 _ _ rfl) (hL.2.1 _ _ _ rfl) (sX10_undo_34 rfl (sX10_undo_35 (hL.1 _ _ rfl) (sX10_undo_38 (hL.1 _ _ rfl) c1 (sX10_undo_39 (sX10_undo_40 (sX10_undo_41 (hL.1 _ _ rfl) (sX10_undo_44 rfl (sX10_undo_45 rfl (sX10_undo_46 (hL.1 _ _ rfl) (hL.2.1 _ _ _ rfl) (sX10_undo_49 rfl (sX10_undo_50 (hL.1 _ _ rfl) (sX10_undo_53 (hL.1 _ _ rfl) c2 (sX10_undo_54 (hL.1 _ _ rfl) (sX10_undo_57 rfl (sX10_undo_58 (hL.1 _ _ rfl) (sX10_undo_61 ?_))))))))))))))))))))))))))))
    obtain rfl := Option.some.inj e
    exact h
  · replace e := am_pos hbr e
    refine (sX10_undo_12 (sX10_undo_13 ?_))
    obtain rfl := Option.some.inj e
    exact h
theorem R_X10_undo {E : am_E} {S : am_S} {Q : am_O → am_S → am_I → Prop} (hL : am_Lay S) {iv : am_I} {v' : Int32} {iv' : am_I} (e : F_X10_undo  iv = some (v', iv')) (h : Q (.inl (some (.int v'))) S iv') {d : Nat} (hd : 0 ≤ d) : am_M E d mX10_undo 0 0 [.ref 54] S iv Q :=
  YR_X10_undo hL e h hd
def J_X10_sleeps_45 (k1 : Int32) (iv : am_I) : Option (am_I) :=
  some (am_w iv 54 30 k1)
theorem j_X10_sleeps_45 {E : am_E} {S : am_S} {Q : am_O → am_S → am_I → Prop} (hL : am_Lay S) {z0 z1 z2 : Value} {k1 : Int32} {iv : am_I} {y : am_I} (e : J_X10_sleeps_45 k1 iv = some y) (h : Q (.inl none) S y) : am_R E 2 mX10_sleeps 0 0 45 [z0, z1, z2] [.int k1, .ref 54] S iv Q := by
  refine (sX10_sleeps_45 (hL.1 _ _ rfl) (sX10_sleeps_48 ?_))
  obtain rfl := Option.some.inj e
  exact h
def F_X10_sleeps (i1 : Int32) (i2 : Int32) (iv : am_I) : Option (am_I) :=
  (am_o1 (F_X10_isDrawer i1 (am_w iv 54 3 (0 : Int32))) fun v1 => (if v1 = 0 then some (am_w (am_w iv 54 3 (0 : Int32)) 54 3 (1 : Int32)) else (if i2 = 0 then J_X10_sleeps_45 (((am_w iv 54 3 (0 : Int32)) 54 30) &&& (((1 : Int32) <<< (i1 &&& 31)) ^^^ (-1 : Int32))) (am_w iv 54 3 (0 : Int32)) else J_X10_sleeps_45 (((am_w iv 54 3 (0 : Int32)) 54 30) ||| ((1 : Int32) <<< (i1 &&& 31))) (am_w iv 54 3 (0 : Int32)))))
theorem R_X10_sleeps {E : am_E} {S : am_S} {Q : am_O → am_S → am_I → Prop} (hL : am_Lay S) {i1 i2 : Int32} {iv : am_I} {y : am_I} (e : F_X10_sleeps i1 i2 iv = some y) (h : Q (.inl none) S y) {d : Nat} (hd : 2 ≤ d) : am_M E d mX10_sleeps 0 0 [.ref 54, .int i1, .int i2] S iv Q := by
  refine am_enter (js := []) rfl pn_X10 rfl rfl rfl (Nat.le_of_ble_eq_true rfl) (am_R.deep ?_ hd)
  replace e := am_o1_i e; obtain ⟨v1, e1, e⟩ := e
  refine (sX10_sleeps_0 rfl (sX10_sleeps_1 (sX10_sleeps_2 (hL.1 _ _ rfl) (sX10_sleeps_5 rfl (sX10_sleeps_6 (sX10_sleeps_7 (hL.1 _ _ rfl) (Nat.le_of_ble_eq_true rfl) (R_X10_isDrawer hL (h := ?_) (hd := (Nat.le_of_ble_eq_true rfl)) (e := e1))))))))
  refine sX10_sleeps_10 (fun hbr => ?_) (fun hbr => ?_)
  · replace e := am_neg hbr e
    refine (sX10_sleeps_19 rfl (sX10_sleeps_20 ?_))
    refine sX10_sleeps_21 (fun hbr => ?_) (fun hbr => ?_)
    · replace e := am_pos hbr e
      refine (sX10_sleeps_35 rfl (sX10_sleeps_36 (hL.1 _ _ rfl) (sX10_sleeps_39 (sX10_sleeps_40 (sX10_sleeps_41 (sX10_sleeps_42 (sX10_sleeps_43 (sX10_sleeps_44 ?_))))))))
      exact j_X10_sleeps_45 hL e h
    · replace e := am_neg hbr e
      refine (sX10_sleeps_24 rfl (sX10_sleeps_25 (hL.1 _ _ rfl) (sX10_sleeps_28 (sX10_sleeps_29 (sX10_sleeps_30 (sX10_sleeps_31 (sX10_sleeps_32 ?_)))))))
      exact j_X10_sleeps_45 hL e h
  · replace e := am_pos hbr e
    refine (sX10_sleeps_13 rfl (sX10_sleeps_14 (sX10_sleeps_15 (hL.1 _ _ rfl) (sX10_sleeps_18 ?_))))
    obtain rfl := Option.some.inj e
    exact h
def J_X10_wanting_32 (i2 : Int32) (k0 : Int32) (k1 : Int32) (iv : am_I) : Option ((Int32 × Int32) ⊕ (Int32)) :=
  some (.inl ((k0 ||| k1), (i2 + 1)))
theorem j_X10_wanting_32 {E : am_E} {S : am_S} {Q : am_O → am_S → am_I → Prop} (hL : am_Lay S) {z1 : Value} {i2 k0 k1 : Int32} {iv : am_I} {y : (Int32 × Int32) ⊕ (Int32)} (e : J_X10_wanting_32 i2 k0 k1 iv = some y) (hc : ∀ s, y = .inl s → am_R E 0 mX10_wanting 0 0 4 [.ref 54, .int s.1, .int s.2] [] S iv Q) (hx : ∀ a, y = .inr a → ∀ z0 z2 : Value, am_R E 0 mX10_wanting 0 0 40 [z0, .int a, z2] [] S iv Q) : am_R E 0 mX10_wanting 0 0 32 [.ref 54, z1, .int i2] [.int k1, .int k0] S iv Q := by
  refine (sX10_wanting_32 (sX10_wanting_33 (sX10_wanting_34 (sX10_wanting_37 ?_))))
  exact hc _ (Option.some.inj e).symm
def B_X10_wanting_4 (iv : am_I) (i1 : Int32) (i2 : Int32) : Option ((Int32 × Int32) ⊕ (Int32)) :=
  (if (iv 58 (3 : Int32).toNatClampNeg) ≤ i2 then some (.inr i1) else (if vp_b i2 10 then (if (iv 65 i2.toNatClampNeg) = (-1 : Int32) then J_X10_wanting_32 i2 i1 (0 : Int32) iv else J_X10_wanting_32 i2 i1 ((1 : Int32) <<< (i2 &&& 31)) iv) else none))
theorem b_X10_wanting_4 {E : am_E} {S : am_S} {Q : am_O → am_S → am_I → Prop} (hL : am_Lay S) {i1 i2 : Int32} {iv : am_I} {y : (Int32 × Int32) ⊕ (Int32)} (e : B_X10_wanting_4 iv i1 i2 = some y) (hc : ∀ s, y = .inl s → am_R E 0 mX10_wanting 0 0 4 [.ref 54, .int s.1, .int s.2] [] S iv Q) (hx : ∀ a, y = .inr a → ∀ z0 z2 : Value, am_R E 0 mX10_wanting 0 0 40 [z0, .int a, z2] [] S iv Q) : am_R E 0 mX10_wanting 0 0 4 [.ref 54, .int i1, .int i2] [] S iv Q := by
  refine (sX10_wanting_4 (sX10_wanting_5 rfl (sX10_wanting_6 (hL.1 _ _ rfl) (hL.2.1 _ _ _ rfl) (sX10_wanting_9 (sX10_wanting_10 (hL.1 _ _ rfl) (vp_lit (by decide)) ?_)))))
  refine sX10_wanting_11 (fun hbr => ?_) (fun hbr => ?_)
  · replace e := am_pos hbr e
    exact hx _ (Option.some.inj e).symm _ _
  · replace e := am_neg hbr e
    replace e := am_ckv e; obtain ⟨c1, e⟩ := e
    refine (sX10_wanting_14 (sX10_wanting_15 rfl (sX10_wanting_16 (hL.1 _ _ rfl) (hL.2.1 _ _ _ rfl) (sX10_wanting_19 (sX10_wanting_20 (hL.1 _ _ rfl) c1 (sX10_wanting_21 ?_))))))
    refine sX10_wanting_22 (fun hbr => ?_) (fun hbr => ?_)
    · replace e := am_pos hbr e
      refine (sX10_wanting_31 ?_)
      exact j_X10_wanting_32 hL e hc hx
    · replace e := am_neg hbr e
      refine (sX10_wanting_25 (sX10_wanting_26 (sX10_wanting_27 (sX10_wanting_28 ?_))))
      exact j_X10_wanting_32 hL e hc hx
theorem l_X10_wanting_4 {E : am_E} {S : am_S} {Q : am_O → am_S → am_I → Prop} (hL : am_Lay S) {iv : am_I} (s : (Int32 × Int32)) {x : (Int32)} (e : am_loop (fun s : (Int32 × Int32) => B_X10_wanting_4 iv s.1 s.2) s = some x) (hx : ∀ z0 z2 : Value, am_R E 0 mX10_wanting 0 0 40 [z0, .int x, z2] [] S iv Q) : am_R E 0 mX10_wanting 0 0 4 [.ref 54, .int s.1, .int s.2] [] S iv Q :=
  am_wh_sound (f := fun s : (Int32 × Int32) => B_X10_wanting_4 iv s.1 s.2) (P := fun s => am_R E 0 mX10_wanting 0 0 4 [.ref 54, .int s.1, .int s.2] [] S iv Q) (K := fun x => ∀ z0 z2 : Value, am_R E 0 mX10_wanting 0 0 40 [z0, .int x, z2] [] S iv Q) (fun s y e hc hkk => b_X10_wanting_4 hL e hc (fun a hy => hkk a hy)) am_fu s x e hx
def F_X10_wanting (iv : am_I) : Option (Int32) :=
  (am_o1 (am_loop (fun s : (Int32 × Int32) => B_X10_wanting_4 iv s.1 s.2) ((0 : Int32), (0 : Int32))) fun a2 => some a2)
theorem R_X10_wanting {E : am_E} {S : am_S} {Q : am_O → am_S → am_I → Prop} (hL : am_Lay S) {iv : am_I} {y : Int32} (e : F_X10_wanting  iv = some y) (h : Q (.inl (some (.int y))) S iv) {d : Nat} (hd : 0 ≤ d) : am_M E d mX10_wanting 0 0 [.ref 54] S iv Q := by
  refine am_enter (js := [.double 0, .double 0]) rfl pn_X10 rfl rfl rfl (Nat.le_of_ble_eq_true rfl) (am_R.deep ?_ hd)
  refine (sX10_wanting_0 (sX10_wanting_1 (sX10_wanting_2 (sX10_wanting_3 ?_))))
  replace e := am_o1_i e; obtain ⟨a2, e2, e⟩ := e
  refine l_X10_wanting_4 hL _ e2 ?_
  intro z0 z2
  refine (sX10_wanting_40 (sX10_wanting_41 ?_))
  obtain rfl := Option.some.inj e
  exact h
def F_X10_columnsApart (i1 : Int32) (i2 : Int32) (iv : am_I) : Option (Int32) :=
  (if vp_b i1 20 then (if vp_b i2 20 then (if vp_b i2 20 then (if vp_b i2 20 then (if vp_b i1 20 then (if vp_b i1 20 then some (if (0 : Int32) < (if (((iv 60 i1.toNatClampNeg) - (iv 60 i2.toNatClampNeg)) - (iv 63 i2.toNatClampNeg)) < (((iv 60 i2.toNatClampNeg) - (iv 60 i1.toNatClampNeg)) - (iv 63 i1.toNatClampNeg)) then (((iv 60 i2.toNatClampNeg) - (iv 60 i1.toNatClampNeg)) - (iv 63 i1.toNatClampNeg)) else (((iv 60 i1.toNatClampNeg) - (iv 60 i2.toNatClampNeg)) - (iv 63 i2.toNatClampNeg))) then (if (((iv 60 i1.toNatClampNeg) - (iv 60 i2.toNatClampNeg)) - (iv 63 i2.toNatClampNeg)) < (((iv 60 i2.toNatClampNeg) - (iv 60 i1.toNatClampNeg)) - (iv 63 i1.toNatClampNeg)) then (((iv 60 i2.toNatClampNeg) - (iv 60 i1.toNatClampNeg)) - (iv 63 i1.toNatClampNeg)) else (((iv 60 i1.toNatClampNeg) - (iv 60 i2.toNatClampNeg)) - (iv 63 i2.toNatClampNeg))) else (0 : Int32)) else none) else none) else none) else none) else none) else none)
theorem R_X10_columnsApart {E : am_E} {S : am_S} {Q : am_O → am_S → am_I → Prop} (hL : am_Lay S) {i1 i2 : Int32} {iv : am_I} {y : Int32} (e : F_X10_columnsApart i1 i2 iv = some y) (h : Q (.inl (some (.int y))) S iv) {d : Nat} (hd : 1 ≤ d) : am_M E d mX10_columnsApart 0 0 [.ref 54, .int i1, .int i2] S iv Q := by
  refine am_enter (js := []) rfl pn_X10 rfl rfl rfl (Nat.le_of_ble_eq_true rfl) (am_R.deep ?_ hd)
  replace e := am_ckv e; obtain ⟨c1, e⟩ := e
  replace e := am_ckv e; obtain ⟨c2, e⟩ := e
  replace e := am_ckv e; obtain ⟨c3, e⟩ := e
  replace e := am_ckv e; obtain ⟨c4, e⟩ := e
  replace e := am_ckv e; obtain ⟨c5, e⟩ := e
  replace e := am_ckv e; obtain ⟨c6, e⟩ := e
  refine (sX10_columnsApart_0 (sX10_columnsApart_1 rfl (sX10_columnsApart_2 (hL.1 _ _ rfl) (hL.2.1 _ _ _ rfl) (sX10_columnsApart_5 (sX10_columnsApart_6 (hL.1 _ _ rfl) c1 (sX10_columnsApart_7 rfl (sX10_columnsApart_8 (hL.1 _ _ rfl) (hL.2.1 _ _ _ rfl) (sX10_columnsApart_11 (sX10_columnsApart_12 (hL.1 _ _ rfl) c2 (sX10_columnsApart_13 (sX10_columnsApart_14 rfl (sX10_columnsApart_15 (hL.1 _ _ rfl) (hL.2.1 _ _ _ rfl) (sX10_columnsApart_18 (sX10_columnsApart_19 (hL.1 _ _ rfl) c3 (sX10_columnsApart_20 (sX10_columnsApart_21 rfl (sX10_columnsApart_22 (hL.1 _ _ rfl) (hL.2.1 _ _ _ rfl) (sX10_columnsApart_25 (sX10_columnsApart_26 (hL.1 _ _ rfl) c4 (sX10_columnsApart_27 rfl (sX10_columnsApart_28 (hL.1 _ _ rfl) (hL.2.1 _ _ _ rfl) (sX10_columnsApart_31 (sX10_columnsApart_32 (hL.1 _ _ rfl) c5 (sX10_columnsApart_33 (sX10_columnsApart_34 rfl (sX10_columnsApart_35 (hL.1 _ _ rfl) (hL.2.1 _ _ _ rfl) (sX10_columnsApart_38 (sX10_columnsApart_39 (hL.1 _ _ rfl) c6 (sX10_columnsApart_40 (sX10_columnsApart_41 (Nat.le_of_ble_eq_true rfl) (J_max (sX10_columnsApart_44 (Nat.le_of_ble_eq_true rfl) (J_max (sX10_columnsApart_47 ?_))))))))))))))))))))))))))))))))))
  obtain rfl := Option.some.inj e
  exact h
def J_X10_whoCould_97 (i1 : Int32) (i3 : Int32) (k0 : Int32) (k1 : Int32) (iv : am_I) : Option ((Int32 × Int32) ⊕ (Int32)) :=
  some (.inl ((k0 ||| k1), (i3 + 1)))
theorem j_X10_whoCould_97 {E : am_E} {S : am_S} {Q : am_O → am_S → am_I → Prop} (hL : am_Lay S) {z2 z4 z5 : Value} {i1 i3 k0 k1 : Int32} {iv : am_I} {y : (Int32 × Int32) ⊕ (Int32)} (e : J_X10_whoCould_97 i1 i3 k0 k1 iv = some y) (hc : ∀ s, y = .inl s → ∀ z4 z5 : Value, am_R E 2 mX10_whoCould 0 0 4 [.ref 54, .int i1, .int s.1, .int s.2, z4, z5] [] S iv Q) (hx : ∀ a, y = .inr a → ∀ z0 z1 z3 z4 z5 : Value, am_R E 2 mX10_whoCould 0 0 105 [z0, z1, .int a, z3, z4, z5] [] S iv Q) : am_R E 2 mX10_whoCould 0 0 97 [.ref 54, .int i1, z2, .int i3, z4, z5] [.int k1, .int k0] S iv Q := by
  refine (sX10_whoCould_97 (sX10_whoCould_98 (sX10_whoCould_99 (sX10_whoCould_102 ?_))))
  exact hc _ (Option.some.inj e).symm _ _
def J_X10_whoCould_82 (i1 : Int32) (i2 : Int32) (i3 : Int32) (k0 : Int32) (iv : am_I) : Option ((Int32 × Int32) ⊕ (Int32)) :=
  (if k0 = 0 then J_X10_whoCould_97 i1 i3 i2 (0 : Int32) iv else J_X10_whoCould_97 i1 i3 i2 ((1 : Int32) <<< (i3 &&& 31)) iv)
theorem j_X10_whoCould_82 {E : am_E} {S : am_S} {Q : am_O → am_S → am_I → Prop} (hL : am_Lay S) {z4 z5 : Value} {i1 i2 i3 k0 : Int32} {iv : am_I} {y : (Int32 × Int32) ⊕ (Int32)} (e : J_X10_whoCould_82 i1 i2 i3 k0 iv = some y) (hc : ∀ s, y = .inl s → ∀ z4 z5 : Value, am_R E 2 mX10_whoCould 0 0 4 [.ref 54, .int i1, .int s.1, .int s.2, z4, z5] [] S iv Q) (hx : ∀ a, y = .inr a → ∀ z0 z1 z3 z4 z5 : Value, am_R E 2 mX10_whoCould 0 0 105 [z0, z1, .int a, z3, z4, z5] [] S iv Q) : am_R E 2 mX10_whoCould 0 0 82 [.ref 54, .int i1, .int i2, .int i3, z4, z5] [.int k0] S iv Q := by
  refine (sX10_whoCould_82 (sX10_whoCould_84 (sX10_whoCould_85 ?_)))
  refine sX10_whoCould_87 (fun hbr => ?_) (fun hbr => ?_)
  · replace e := am_pos hbr e
    refine (sX10_whoCould_96 ?_)
    exact j_X10_whoCould_97 hL e hc hx
  · replace e := am_neg hbr e
    refine (sX10_whoCould_90 (sX10_whoCould_91 (sX10_whoCould_92 (sX10_whoCould_93 ?_))))
    exact j_X10_whoCould_97 hL e hc hx
def J_X10_whoCould_81 (i1 : Int32) (i2 : Int32) (i3 : Int32) (iv : am_I) : Option ((Int32 × Int32) ⊕ (Int32)) :=
  J_X10_whoCould_82 i1 i2 i3 (0 : Int32) iv
theorem j_X10_whoCould_81 {E : am_E} {S : am_S} {Q : am_O → am_S → am_I → Prop} (hL : am_Lay S) {z4 z5 : Value} {i1 i2 i3 : Int32} {iv : am_I} {y : (Int32 × Int32) ⊕ (Int32)} (e : J_X10_whoCould_81 i1 i2 i3 iv = some y) (hc : ∀ s, y = .inl s → ∀ z4 z5 : Value, am_R E 2 mX10_whoCould 0 0 4 [.ref 54, .int i1, .int s.1, .int s.2, z4, z5] [] S iv Q) (hx : ∀ a, y = .inr a → ∀ z0 z1 z3 z4 z5 : Value, am_R E 2 mX10_whoCould 0 0 105 [z0, z1, .int a, z3, z4, z5] [] S iv Q) : am_R E 2 mX10_whoCould 0 0 81 [.ref 54, .int i1, .int i2, .int i3, z4, z5] [] S iv Q := by
  refine (sX10_whoCould_81 ?_)
  exact j_X10_whoCould_82 hL e hc hx
def B_X10_whoCould_4 (i1 : Int32) (iv : am_I) (i2 : Int32) (i3 : Int32) : Option ((Int32 × Int32) ⊕ (Int32)) :=
  (if (iv 58 (3 : Int32).toNatClampNeg) ≤ i3 then some (.inr i2) else (if vp_b i3 10 then (if (iv 64 i3.toNatClampNeg) = i1 then J_X10_whoCould_81 i1 i2 i3 iv else (am_o1 (F_X10_has (iv 54 29) (iv 64 i3.toNatClampNeg) iv) fun v2 => (if v2 = 0 then J_X10_whoCould_81 i1 i2 i3 iv else (if vp_b (iv 64 i3.toNatClampNeg) 20 then (if vp_b i1 20 then (if (iv 58 (4 : Int32).toNatClampNeg) < (if 0 ≤ ((iv 61 (iv 64 i3.toNatClampNeg).toNatClampNeg) - (iv 61 i1.toNatClampNeg)) then ((iv 61 (iv 64 i3.toNatClampNeg).toNatClampNeg) - (iv 61 i1.toNatClampNeg)) else -((iv 61 (iv 64 i3.toNatClampNeg).toNatClampNeg) - (iv 61 i1.toNatClampNeg))) then J_X10_whoCould_81 i1 i2 i3 iv else (am_o1 (F_X10_columnsApart (iv 64 i3.toNatClampNeg) i1 iv) fun v5 => (if (1 : Int32) < v5 then J_X10_whoCould_81 i1 i2 i3 iv else J_X10_whoCould_82 i1 i2 i3 (1 : Int32) iv))) else none) else none)))) else none))
theorem b_X10_whoCould_4 {E : am_E} {S : am_S} {Q : am_O → am_S → am_I → Prop} (hL : am_Lay S) {z4 z5 : Value} {i1 i2 i3 : Int32} {iv : am_I} {y : (Int32 × Int32) ⊕ (Int32)} (e : B_X10_whoCould_4 i1 iv i2 i3 = some y) (hc : ∀ s, y = .inl s → ∀ z4 z5 : Value, am_R E 2 mX10_whoCould 0 0 4 [.ref 54, .int i1, .int s.1, .int s.2, z4, z5] [] S iv Q) (hx : ∀ a, y = .inr a → ∀ z0 z1 z3 z4 z5 : Value, am_R E 2 mX10_whoCould 0 0 105 [z0, z1, .int a, z3, z4, z5] [] S iv Q) : am_R E 2 mX10_whoCould 0 0 4 [.ref 54, .int i1, .int i2, .int i3, z4, z5] [] S iv Q := by
  refine (sX10_whoCould_4 (sX10_whoCould_5 rfl (sX10_whoCould_6 (hL.1 _ _ rfl) (hL.2.1 _ _ _ rfl) (sX10_whoCould_9 (sX10_whoCould_10 (hL.1 _ _ rfl) (vp_lit (by decide)) ?_)))))
  refine sX10_whoCould_11 (fun hbr => ?_) (fun hbr => ?_)
  · replace e := am_pos hbr e
    exact hx _ (Option.some.inj e).symm _ _ _ _ _
  · replace e := am_neg hbr e
    replace e := am_ckv e; obtain ⟨c1, e⟩ := e
    refine (sX10_whoCould_14 rfl (sX10_whoCould_15 (hL.1 _ _ rfl) (hL.2.1 _ _ _ rfl) (sX10_whoCould_18 (sX10_whoCould_19 (hL.1 _ _ rfl) c1 (sX10_whoCould_20 (sX10_whoCould_22 (sX10_whoCould_24 ?_)))))))
    refine sX10_whoCould_25 (fun hbr => ?_) (fun hbr => ?_)
    · replace e := am_pos hbr e
      exact j_X10_whoCould_81 hL e hc hx
    · replace e := am_neg hbr e
      replace e := am_o1_i e; obtain ⟨v2, e2, e⟩ := e
      refine (sX10_whoCould_28 rfl (sX10_whoCould_29 (hL.1 _ _ rfl) (sX10_whoCould_32 (sX10_whoCould_34 (Nat.le_of_ble_eq_true rfl) (R_X10_has (h := ?_) (hd := (Nat.le_of_ble_eq_true rfl)) (e := e2))))))
      refine sX10_whoCould_37 (fun hbr => ?_) (fun hbr => ?_)
      · replace e := am_pos hbr e
        exact j_X10_whoCould_81 hL e hc hx
      · replace e := am_neg hbr e
        replace e := am_ckv e; obtain ⟨c3, e⟩ := e
        replace e := am_ckv e; obtain ⟨c4, e⟩ := e
        refine (sX10_whoCould_40 rfl (sX10_whoCould_41 (hL.1 _ _ rfl) (hL.2.1 _ _ _ rfl) (sX10_whoCould_44 (sX10_whoCould_46 (hL.1 _ _ rfl) c3 (sX10_whoCould_47 rfl (sX10_whoCould_48 (hL.1 _ _ rfl) (hL.2.1 _ _ _ rfl) (sX10_whoCould_51 (sX10_whoCould_52 (hL.1 _ _ rfl) c4 (sX10_whoCould_53 (sX10_whoCould_54 (Nat.le_of_ble_eq_true rfl) (J_abs (sX10_whoCould_57 rfl (sX10_whoCould_58 (hL.1 _ _ rfl) (hL.2.1 _ _ _ rfl) (sX10_whoCould_61 (sX10_whoCould_62 (hL.1 _ _ rfl) (vp_lit (by decide)) ?_)))))))))))))))
        refine sX10_whoCould_63 (fun hbr => ?_) (fun hbr => ?_)
        · replace e := am_pos hbr e
          exact j_X10_whoCould_81 hL e hc hx
        · replace e := am_neg hbr e
          replace e := am_o1_i e; obtain ⟨v5, e5, e⟩ := e
          refine (sX10_whoCould_66 rfl (sX10_whoCould_67 (sX10_whoCould_69 (sX10_whoCould_70 (hL.1 _ _ rfl) (Nat.le_of_ble_eq_true rfl) (R_X10_columnsApart hL (h := (sX10_whoCould_73 ?_)) (hd := (Nat.le_of_ble_eq_true rfl)) (e := e5))))))
          refine sX10_whoCould_74 (fun hbr => ?_) (fun hbr => ?_)
          · replace e := am_pos hbr e
            exact j_X10_whoCould_81 hL e hc hx
          · replace e := am_neg hbr e
            refine (sX10_whoCould_77 (sX10_whoCould_78 ?_))
            exact j_X10_whoCould_82 hL e hc hx
theorem l_X10_whoCould_4 {E : am_E} {S : am_S} {Q : am_O → am_S → am_I → Prop} (hL : am_Lay S) {i1 : Int32} {iv : am_I} (s : (Int32 × Int32)) {x : (Int32)} (e : am_loop (fun s : (Int32 × Int32) => B_X10_whoCould_4 i1 iv s.1 s.2) s = some x) (hx : ∀ z0 z1 z3 z4 z5 : Value, am_R E 2 mX10_whoCould 0 0 105 [z0, z1, .int x, z3, z4, z5] [] S iv Q) : ∀ z4 z5 : Value, am_R E 2 mX10_whoCould 0 0 4 [.ref 54, .int i1, .int s.1, .int s.2, z4, z5] [] S iv Q :=
  am_wh_sound (f := fun s : (Int32 × Int32) => B_X10_whoCould_4 i1 iv s.1 s.2) (P := fun s => ∀ z4 z5 : Value, am_R E 2 mX10_whoCould 0 0 4 [.ref 54, .int i1, .int s.1, .int s.2, z4, z5] [] S iv Q) (K := fun x => ∀ z0 z1 z3 z4 z5 : Value, am_R E 2 mX10_whoCould 0 0 105 [z0, z1, .int x, z3, z4, z5] [] S iv Q) (fun s y e hc hkk => fun z4 z5 => b_X10_whoCould_4 hL e hc (fun a hy => hkk a hy)) am_fu s x e hx
def F_X10_whoCould (i1 : Int32) (iv : am_I) : Option (Int32) :=
  (am_o1 (am_loop (fun s : (Int32 × Int32) => B_X10_whoCould_4 i1 iv s.1 s.2) ((0 : Int32), (0 : Int32))) fun a6 => some a6)
theorem R_X10_whoCould {E : am_E} {S : am_S} {Q : am_O → am_S → am_I → Prop} (hL : am_Lay S) {i1 : Int32} {iv : am_I} {y : Int32} (e : F_X10_whoCould i1 iv = some y) (h : Q (.inl (some (.int y))) S iv) {d : Nat} (hd : 2 ≤ d) : am_M E d mX10_whoCould 0 0 [.ref 54, .int i1] S iv Q := by
  refine am_enter (js := [.double 0, .double 0, .double 0, .double 0]) rfl pn_X10 rfl rfl rfl (Nat.le_of_ble_eq_true rfl) (am_R.deep ?_ hd)
  refine (sX10_whoCould_0 (sX10_whoCould_1 (sX10_whoCould_2 (sX10_whoCould_3 ?_))))
  replace e := am_o1_i e; obtain ⟨a6, e6, e⟩ := e
  refine l_X10_whoCould_4 hL _ e6 ?_ _ _
  intro z0 z1 z3 z4 z5
  refine (sX10_whoCould_105 (sX10_whoCould_106 ?_))
  obtain rfl := Option.some.inj e
  exact h
def B_X10_common_4 (iv : am_I) (i2 : Int32) (i3 : Int32) : Option ((Int32 × Int32) ⊕ (Int32)) :=
  (if i3 = 0 then some (.inr i2) else (if i3 = 0 then none else some (.inl (i3, (i2 - i2 / i3 * i3)))))
theorem b_X10_common_4 {E : am_E} {S : am_S} {Q : am_O → am_S → am_I → Prop} {z0 z1 z4 : Value} {i2 i3 : Int32} {iv : am_I} {y : (Int32 × Int32) ⊕ (Int32)} (e : B_X10_common_4 iv i2 i3 = some y) (hc : ∀ s, y = .inl s → ∀ z0 z1 z4 : Value, am_R E 0 mX10_common 0 0 4 [z0, z1, .int s.1, .int s.2, z4] [] S iv Q) (hx : ∀ a, y = .inr a → ∀ z0 z1 z3 z4 : Value, am_R E 0 mX10_common 0 0 21 [z0, z1, .int a, z3, z4] [] S iv Q) : am_R E 0 mX10_common 0 0 4 [z0, z1, .int i2, .int i3, z4] [] S iv Q := by
  refine (sX10_common_4 ?_)
  refine sX10_common_5 (fun hbr => ?_) (fun hbr => ?_)
  · replace e := am_pos hbr e
    exact hx _ (Option.some.inj e).symm _ _ _ _
  · replace e := am_neg hbr e
    replace e := am_ckn e; obtain ⟨c1, e⟩ := e
    refine (sX10_common_8 (sX10_common_9 (sX10_common_10 c1 (sX10_common_11 (sX10_common_13 (sX10_common_14 (sX10_common_15 (sX10_common_17 (sX10_common_18 ?_)))))))))
    exact hc _ (Option.some.inj e).symm _ _ _
theorem l_X10_common_4 {E : am_E} {S : am_S} {Q : am_O → am_S → am_I → Prop} {iv : am_I} (s : (Int32 × Int32)) {x : (Int32)} (e : am_loop (fun s : (Int32 × Int32) => B_X10_common_4 iv s.1 s.2) s = some x) (hx : ∀ z0 z1 z3 z4 : Value, am_R E 0 mX10_common 0 0 21 [z0, z1, .int x, z3, z4] [] S iv Q) : ∀ z0 z1 z4 : Value, am_R E 0 mX10_common 0 0 4 [z0, z1, .int s.1, .int s.2, z4] [] S iv Q :=
  am_wh_sound (f := fun s : (Int32 × Int32) => B_X10_common_4 iv s.1 s.2) (P := fun s => ∀ z0 z1 z4 : Value, am_R E 0 mX10_common 0 0 4 [z0, z1, .int s.1, .int s.2, z4] [] S iv Q) (K := fun x => ∀ z0 z1 z3 z4 : Value, am_R E 0 mX10_common 0 0 21 [z0, z1, .int x, z3, z4] [] S iv Q) (fun s y e hc hkk => fun z0 z1 z4 => b_X10_common_4 e hc (fun a hy => hkk a hy)) am_fu s x e hx
def F_X10_common (i0 : Int32) (i1 : Int32) (iv : am_I) : Option (Int32) :=
  (am_o1 (am_loop (fun s : (Int32 × Int32) => B_X10_common_4 iv s.1 s.2) (i0, i1)) fun a2 => some a2)
theorem R_X10_common {E : am_E} {S : am_S} {Q : am_O → am_S → am_I → Prop} {i0 i1 : Int32} {iv : am_I} {y : Int32} (e : F_X10_common i0 i1 iv = some y) (h : Q (.inl (some (.int y))) S iv) {d : Nat} (hd : 0 ≤ d) : am_M E d mX10_common 0 0 [.int i0, .int i1] S iv Q := by
  refine am_enter (js := [.double 0, .double 0, .double 0]) rfl pn_X10 rfl rfl rfl (Nat.le_of_ble_eq_true rfl) (am_R.deep ?_ hd)
  refine (sX10_common_0 (sX10_common_1 (sX10_common_2 (sX10_common_3 ?_))))
  replace e := am_o1_i e; obtain ⟨a2, e2, e⟩ := e
  refine l_X10_common_4 _ e2 ?_ _ _ _
  intro z0 z1 z3 z4
  refine (sX10_common_21 (sX10_common_22 ?_))
  obtain rfl := Option.some.inj e
  exact h
def B_X10_be_2 (aa : Nat) (m : Nat) (bb : Nat) (m2 : Nat) (i2 : Int32) (iv : am_I) : Option ((Int32 × am_I) ⊕ (am_I)) :=
  (if (Int32.ofNat m) ≤ i2 then some (.inr iv) else (if vp_b i2 m2 then (if vp_b i2 m then some (.inl ((i2 + 1), (am_w iv aa i2.toNatClampNeg (iv bb i2.toNatClampNeg)))) else none) else none))
theorem b_X10_be_2 {E : am_E} {S : am_S} {Q : am_O → am_S → am_I → Prop} {aa : Nat} {m : Nat} {bb : Nat} {m2 : Nat} (ha : S.1 aa = some (.inr (.int, m))) (hb : S.1 bb = some (.inr (.int, m2))) {i2 : Int32} {iv : am_I} {y : (Int32 × am_I) ⊕ (am_I)} (e : B_X10_be_2 aa m bb m2 i2 iv = some y) (hc : ∀ s, y = .inl s → am_R E 0 mX10_be 0 0 2 [.ref aa, .ref bb, .int s.1] [] S s.2 Q) (hx : ∀ a, y = .inr a → ∀ z0 z1 z2 : Value, am_R E 0 mX10_be 0 0 20 [z0, z1, z2] [] S a Q) : am_R E 0 mX10_be 0 0 2 [.ref aa, .ref bb, .int i2] [] S iv Q := by
  refine (sX10_be_2 (sX10_be_3 rfl (sX10_be_4 ha rfl ?_)))
  refine sX10_be_5 (fun hbr => ?_) (fun hbr => ?_)
  · replace e := am_pos hbr e
    exact hx _ (Option.some.inj e).symm _ _ _
  · replace e := am_neg hbr e
    replace e := am_ckv e; obtain ⟨c1, e⟩ := e
    replace e := am_ckv e; obtain ⟨c2, e⟩ := e
    refine (sX10_be_8 rfl (sX10_be_9 (sX10_be_10 rfl (sX10_be_11 (sX10_be_12 hb c1 (sX10_be_13 ha c2 (sX10_be_14 (sX10_be_17 ?_))))))))
    exact hc _ (Option.some.inj e).symm
theorem l_X10_be_2 {E : am_E} {S : am_S} {Q : am_O → am_S → am_I → Prop} {aa : Nat} {m : Nat} {bb : Nat} {m2 : Nat} (ha : S.1 aa = some (.inr (.int, m))) (hb : S.1 bb = some (.inr (.int, m2))) (s : (Int32 × am_I)) {x : (am_I)} (e : am_loop (fun s : (Int32 × am_I) => B_X10_be_2 aa m bb m2 s.1 s.2) s = some x) (hx : ∀ z0 z1 z2 : Value, am_R E 0 mX10_be 0 0 20 [z0, z1, z2] [] S x Q) : am_R E 0 mX10_be 0 0 2 [.ref aa, .ref bb, .int s.1] [] S s.2 Q :=
  am_wh_sound (f := fun s : (Int32 × am_I) => B_X10_be_2 aa m bb m2 s.1 s.2) (P := fun s => am_R E 0 mX10_be 0 0 2 [.ref aa, .ref bb, .int s.1] [] S s.2 Q) (K := fun x => ∀ z0 z1 z2 : Value, am_R E 0 mX10_be 0 0 20 [z0, z1, z2] [] S x Q) (fun s y e hc hkk => b_X10_be_2 ha hb e hc (fun a hy => hkk a hy)) am_fu s x e hx
def F_X10_be (aa : Nat) (m : Nat) (bb : Nat) (m2 : Nat) (iv : am_I) : Option (am_I) :=
  (am_o1 (am_loop (fun s : (Int32 × am_I) => B_X10_be_2 aa m bb m2 s.1 s.2) ((0 : Int32), iv)) fun a3 => some a3)
theorem R_X10_be {E : am_E} {S : am_S} {Q : am_O → am_S → am_I → Prop} {aa : Nat} {m : Nat} {bb : Nat} {m2 : Nat} (ha : S.1 aa = some (.inr (.int, m))) (hb : S.1 bb = some (.inr (.int, m2))) {iv : am_I} {y : am_I} (e : F_X10_be aa m bb m2  iv = some y) (h : Q (.inl none) S y) {d : Nat} (hd : 0 ≤ d) : am_M E d mX10_be 0 0 [.ref aa, .ref bb] S iv Q := by
  refine am_enter (js := [.double 0]) rfl pn_X10 rfl rfl rfl (Nat.le_of_ble_eq_true rfl) (am_R.deep ?_ hd)
  refine (sX10_be_0 (sX10_be_1 ?_))
  replace e := am_o1_i e; obtain ⟨a3, e3, e⟩ := e
  refine l_X10_be_2 ha hb _ e3 ?_
  intro z0 z1 z2
  refine (sX10_be_20 ?_)
  obtain rfl := Option.some.inj e
  exact h
def J_X10_slam_59 (i1 : Int32) (i2 : Int32) (k1 : Int32) (k2 : Int32) (k3 : Int32) (iv : am_I) : Option ((Int32 × am_I) ⊕ (am_I)) :=
  (if vp_b k1 5 then some (.inl ((i2 + 1), (am_w iv 72 k1.toNatClampNeg (k2 + k3)))) else none)
theorem j_X10_slam_59 {E : am_E} {S : am_S} {Q : am_O → am_S → am_I → Prop} (hL : am_Lay S) {i1 i2 k1 k2 k3 : Int32} {iv : am_I} {y : (Int32 × am_I) ⊕ (am_I)} (e : J_X10_slam_59 i1 i2 k1 k2 k3 iv = some y) (hc : ∀ s, y = .inl s → am_R E 1 mX10_slam 0 0 16 [.ref 54, .int i1, .int s.1] [] S s.2 Q) (hx : ∀ a, y = .inr a → ∀ z0 z1 z2 : Value, am_R E 1 mX10_slam 0 0 67 [z0, z1, z2] [] S a Q) : am_R E 1 mX10_slam 0 0 59 [.ref 54, .int i1, .int i2] [.int k3, .int k2, .int k1, .ref 72] S iv Q := by
  replace e := am_ckv e; obtain ⟨c3, e⟩ := e
  refine (sX10_slam_59 (sX10_slam_60 (hL.1 _ _ rfl) c3 (sX10_slam_61 (sX10_slam_64 ?_))))
  exact hc _ (Option.some.inj e).symm
def J_X10_slam_58 (i1 : Int32) (i2 : Int32) (k1 : Int32) (k2 : Int32) (iv : am_I) : Option ((Int32 × am_I) ⊕ (am_I)) :=
  J_X10_slam_59 i1 i2 k1 k2 (0 : Int32) iv
theorem j_X10_slam_58 {E : am_E} {S : am_S} {Q : am_O → am_S → am_I → Prop} (hL : am_Lay S) {i1 i2 k1 k2 : Int32} {iv : am_I} {y : (Int32 × am_I) ⊕ (am_I)} (e : J_X10_slam_58 i1 i2 k1 k2 iv = some y) (hc : ∀ s, y = .inl s → am_R E 1 mX10_slam 0 0 16 [.ref 54, .int i1, .int s.1] [] S s.2 Q) (hx : ∀ a, y = .inr a → ∀ z0 z1 z2 : Value, am_R E 1 mX10_slam 0 0 67 [z0, z1, z2] [] S a Q) : am_R E 1 mX10_slam 0 0 58 [.ref 54, .int i1, .int i2] [.int k2, .int k1, .ref 72] S iv Q := by
  refine (sX10_slam_58 ?_)
  exact j_X10_slam_59 hL e hc hx
def B_X10_slam_16 (i1 : Int32) (i2 : Int32) (iv : am_I) : Option ((Int32 × am_I) ⊕ (am_I)) :=
  (if (iv 58 (3 : Int32).toNatClampNeg) ≤ i2 then some (.inr iv) else (if vp_b i2 5 then (if vp_b i2 10 then (if (iv 64 i2.toNatClampNeg) = i1 then (am_o1 (F_X10_has (iv 54 30) i1 iv) fun v4 => (if v4 = 0 then J_X10_slam_58 i1 i2 i2 (iv 72 i2.toNatClampNeg) iv else J_X10_slam_59 i1 i2 i2 (iv 72 i2.toNatClampNeg) (1 : Int32) iv)) else J_X10_slam_58 i1 i2 i2 (iv 72 i2.toNatClampNeg) iv) else none) else none))
theorem b_X10_slam_16 {E : am_E} {S : am_S} {Q : am_O → am_S → am_I → Prop} (hL : am_Lay S) {i1 i2 : Int32} {iv : am_I} {y : (Int32 × am_I) ⊕ (am_I)} (e : B_X10_slam_16 i1 i2 iv = some y) (hc : ∀ s, y = .inl s → am_R E 1 mX10_slam 0 0 16 [.ref 54, .int i1, .int s.1] [] S s.2 Q) (hx : ∀ a, y = .inr a → ∀ z0 z1 z2 : Value, am_R E 1 mX10_slam 0 0 67 [z0, z1, z2] [] S a Q) : am_R E 1 mX10_slam 0 0 16 [.ref 54, .int i1, .int i2] [] S iv Q := by
  refine (sX10_slam_16 (sX10_slam_17 rfl (sX10_slam_18 (hL.1 _ _ rfl) (hL.2.1 _ _ _ rfl) (sX10_slam_21 (sX10_slam_22 (hL.1 _ _ rfl) (vp_lit (by decide)) ?_)))))
  refine sX10_slam_23 (fun hbr => ?_) (fun hbr => ?_)
  · replace e := am_pos hbr e
    exact hx _ (Option.some.inj e).symm _ _ _
  · replace e := am_neg hbr e
    replace e := am_ckv e; obtain ⟨c1, e⟩ := e
    replace e := am_ckv e; obtain ⟨c2, e⟩ := e
    refine (sX10_slam_26 rfl (sX10_slam_27 (hL.1 _ _ rfl) (hL.2.1 _ _ _ rfl) (sX10_slam_30 (sX10_slam_31 rfl rfl (sX10_slam_32 (hL.1 _ _ rfl) c1 (sX10_slam_33 rfl (sX10_slam_34 (hL.1 _ _ rfl) (hL.2.1 _ _ _ rfl) (sX10_slam_37 (sX10_slam_38 (hL.1 _ _ rfl) c2 (sX10_slam_39 ?_))))))))))
    refine sX10_slam_40 (fun hbr => ?_) (fun hbr => ?_)
    · replace e := am_neg hbr e
      exact j_X10_slam_58 hL e hc hx
    · replace e := am_pos hbr e
      replace e := am_o1_i e; obtain ⟨v4, e4, e⟩ := e
      refine (sX10_slam_43 rfl (sX10_slam_44 (hL.1 _ _ rfl) (sX10_slam_47 (sX10_slam_48 (Nat.le_of_ble_eq_true rfl) (R_X10_has (h := ?_) (hd := (Nat.le_of_ble_eq_true rfl)) (e := e4))))))
      refine sX10_slam_51 (fun hbr => ?_) (fun hbr => ?_)
      · replace e := am_pos hbr e
        exact j_X10_slam_58 hL e hc hx
      · replace e := am_neg hbr e
        refine (sX10_slam_54 (sX10_slam_55 ?_))
        exact j_X10_slam_59 hL e hc hx
theorem l_X10_slam_16 {E : am_E} {S : am_S} {Q : am_O → am_S → am_I → Prop} (hL : am_Lay S) {i1 : Int32} (s : (Int32 × am_I)) {x : (am_I)} (e : am_loop (fun s : (Int32 × am_I) => B_X10_slam_16 i1 s.1 s.2) s = some x) (hx : ∀ z0 z1 z2 : Value, am_R E 1 mX10_slam 0 0 67 [z0, z1, z2] [] S x Q) : am_R E 1 mX10_slam 0 0 16 [.ref 54, .int i1, .int s.1] [] S s.2 Q :=
  am_wh_sound (f := fun s : (Int32 × am_I) => B_X10_slam_16 i1 s.1 s.2) (P := fun s => am_R E 1 mX10_slam 0 0 16 [.ref 54, .int i1, .int s.1] [] S s.2 Q) (K := fun x => ∀ z0 z1 z2 : Value, am_R E 1 mX10_slam 0 0 67 [z0, z1, z2] [] S x Q) (fun s y e hc hkk => b_X10_slam_16 hL e hc (fun a hy => hkk a hy)) am_fu s x e hx
def F_X10_slam (i1 : Int32) (iv : am_I) : Option (am_I) :=
  (am_o1 (am_loop (fun s : (Int32 × am_I) => B_X10_slam_16 i1 s.1 s.2) ((0 : Int32), (am_w iv 54 29 ((iv 54 29) &&& (((1 : Int32) <<< (i1 &&& 31)) ^^^ (-1 : Int32)))))) fun a5 => some a5)
theorem R_X10_slam {E : am_E} {S : am_S} {Q : am_O → am_S → am_I → Prop} (hL : am_Lay S) {i1 : Int32} {iv : am_I} {y : am_I} (e : F_X10_slam i1 iv = some y) (h : Q (.inl none) S y) {d : Nat} (hd : 1 ≤ d) : am_M E d mX10_slam 0 0 [.ref 54, .int i1] S iv Q := by
  refine am_enter (js := [.double 0]) rfl pn_X10 rfl rfl rfl (Nat.le_of_ble_eq_true rfl) (am_R.deep ?_ hd)
  refine (sX10_slam_0 rfl (sX10_slam_1 rfl (sX10_slam_2 (hL.1 _ _ rfl) (sX10_slam_5 (sX10_slam_6 (sX10_slam_7 (sX10_slam_8 (sX10_slam_9 (sX10_slam_10 (sX10_slam_11 (hL.1 _ _ rfl) (sX10_slam_14 (sX10_slam_15 ?_))))))))))))
  replace e := am_o1_i e; obtain ⟨a5, e5, e⟩ := e
  refine l_X10_slam_16 hL _ e5 ?_
  intro z0 z1 z2
  refine (sX10_slam_67 ?_)
  obtain rfl := Option.some.inj e
  exact h
def B_X10_goOn_15 (i1 : Int32) (i2 : Int32) (i3 : Int32) (i4 : Int32) (i5 : Int32) (iv : am_I) : Option ((Int32 × am_I) ⊕ (am_I)) :=
  (if (iv 58 (2 : Int32).toNatClampNeg) ≤ i5 then some (.inr iv) else (am_o1 (F_X10_has i2 i5 iv) fun v2 => (if v2 = 0 then (am_o1 (F_X10_has i4 i5 iv) fun v3 => (if v3 = 0 then some (.inl ((i5 + 1), iv)) else (if vp_b (i3 ^^^ ((1 : Int32) <<< (i5 &&& 31))) 1024 then (if (iv 82 (i3 ^^^ ((1 : Int32) <<< (i5 &&& 31))).toNatClampNeg) = 0 then some (.inl ((i5 + 1), iv)) else (am_o1 (F_X10_feedBy (i1 - i1 / (32 : Int32) * (32 : Int32)) (i3 ^^^ ((1 : Int32) <<< (i5 &&& 31))) iv) fun v5 => (if vp_b (((32 : Int32) * (i3 ^^^ ((1 : Int32) <<< (i5 &&& 31)))) + v5) 32768 then (if (iv 79 (((32 : Int32) * (i3 ^^^ ((1 : Int32) <<< (i5 &&& 31)))) + v5).toNatClampNeg) = (-1 : Int32) then (if vp_b i1 32768 then (if vp_b (((32 : Int32) * (i3 ^^^ ((1 : Int32) <<< (i5 &&& 31)))) + v5) 32768 then (if vp_b (((32 : Int32) * (i3 ^^^ ((1 : Int32) <<< (i5 &&& 31)))) + v5) 32768 then (if vp_b (((32 : Int32) * (i3 ^^^ ((1 : Int32) <<< (i5 &&& 31)))) + v5) 32768 then (if vp_b ((am_w (am_w (am_w iv 79 (((32 : Int32) * (i3 ^^^ ((1 : Int32) <<< (i5 &&& 31)))) + v5).toNatClampNeg ((iv 79 i1.toNatClampNeg) + (1 : Int32))) 77 (((32 : Int32) * (i3 ^^^ ((1 : Int32) <<< (i5 &&& 31)))) + v5).toNatClampNeg i1) 78 (((32 : Int32) * (i3 ^^^ ((1 : Int32) <<< (i5 &&& 31)))) + v5).toNatClampNeg i5) 54 44) 32768 then some (.inl ((i5 + 1), (am_w (am_w (am_w (am_w (am_w iv 79 (((32 : Int32) * (i3 ^^^ ((1 : Int32) <<< (i5 &&& 31)))) + v5).toNatClampNeg ((iv 79 i1.toNatClampNeg) + (1 : Int32))) 77 (((32 : Int32) * (i3 ^^^ ((1 : Int32) <<< (i5 &&& 31)))) + v5).toNatClampNeg i1) 78 (((32 : Int32) * (i3 ^^^ ((1 : Int32) <<< (i5 &&& 31)))) + v5).toNatClampNeg i5) 80 ((am_w (am_w (am_w iv 79 (((32 : Int32) * (i3 ^^^ ((1 : Int32) <<< (i5 &&& 31)))) + v5).toNatClampNeg ((iv 79 i1.toNatClampNeg) + (1 : Int32))) 77 (((32 : Int32) * (i3 ^^^ ((1 : Int32) <<< (i5 &&& 31)))) + v5).toNatClampNeg i1) 78 (((32 : Int32) * (i3 ^^^ ((1 : Int32) <<< (i5 &&& 31)))) + v5).toNatClampNeg i5) 54 44).toNatClampNeg (((32 : Int32) * (i3 ^^^ ((1 : Int32) <<< (i5 &&& 31)))) + v5)) 54 44 (((am_w (am_w (am_w (am_w iv 79 (((32 : Int32) * (i3 ^^^ ((1 : Int32) <<< (i5 &&& 31)))) + v5).toNatClampNeg ((iv 79 i1.toNatClampNeg) + (1 : Int32))) 77 (((32 : Int32) * (i3 ^^^ ((1 : Int32) <<< (i5 &&& 31)))) + v5).toNatClampNeg i1) 78 (((32 : Int32) * (i3 ^^^ ((1 : Int32) <<< (i5 &&& 31)))) + v5).toNatClampNeg i5) 80 ((am_w (am_w (am_w iv 79 (((32 : Int32) * (i3 ^^^ ((1 : Int32) <<< (i5 &&& 31)))) + v5).toNatClampNeg ((iv 79 i1.toNatClampNeg) + (1 : Int32))) 77 (((32 : Int32) * (i3 ^^^ ((1 : Int32) <<< (i5 &&& 31)))) + v5).toNatClampNeg i1) 78 (((32 : Int32) * (i3 ^^^ ((1 : Int32) <<< (i5 &&& 31)))) + v5).toNatClampNeg i5) 54 44).toNatClampNeg (((32 : Int32) * (i3 ^^^ ((1 : Int32) <<< (i5 &&& 31)))) + v5)) 54 44) + (1 : Int32))))) else none) else none) else none) else none) else none) else some (.inl ((i5 + 1), iv))) else none))) else none))) else some (.inl ((i5 + 1), iv)))))
theorem b_X10_goOn_15 {E : am_E} {S : am_S} {Q : am_O → am_S → am_I → Prop} (hL : am_Lay S) {z6 z7 : Value} {i1 i2 i3 i4 i5 : Int32} {iv : am_I} {y : (Int32 × am_I) ⊕ (am_I)} (e : B_X10_goOn_15 i1 i2 i3 i4 i5 iv = some y) (hc : ∀ s, y = .inl s → ∀ z6 z7 : Value, am_R E 3 mX10_goOn 0 0 15 [.ref 54, .int i1, .int i2, .int i3, .int i4, .int s.1, z6, z7] [] S s.2 Q) (hx : ∀ a, y = .inr a → ∀ z0 z1 z2 z3 z4 z5 z6 z7 : Value, am_R E 3 mX10_goOn 0 0 157 [z0, z1, z2, z3, z4, z5, z6, z7] [] S a Q) : am_R E 3 mX10_goOn 0 0 15 [.ref 54, .int i1, .int i2, .int i3, .int i4, .int i5, z6, z7] [] S iv Q := by
  refine (sX10_goOn_15 (sX10_goOn_17 rfl (sX10_goOn_18 (hL.1 _ _ rfl) (hL.2.1 _ _ _ rfl) (sX10_goOn_21 (sX10_goOn_22 (hL.1 _ _ rfl) (vp_lit (by decide)) ?_)))))
  refine sX10_goOn_23 (fun hbr => ?_) (fun hbr => ?_)
  · replace e := am_pos hbr e
    exact hx _ (Option.some.inj e).symm _ _ _ _ _ _ _ _
  · replace e := am_neg hbr e
    replace e := am_o1_i e; obtain ⟨v2, e2, e⟩ := e
    refine (sX10_goOn_26 (sX10_goOn_27 (sX10_goOn_28 (sX10_goOn_30 (sX10_goOn_31 (sX10_goOn_32 (sX10_goOn_34 (sX10_goOn_35 (sX10_goOn_37 (Nat.le_of_ble_eq_true rfl) (R_X10_has (h := ?_) (hd := (Nat.le_of_ble_eq_true rfl)) (e := e2)))))))))))
    refine sX10_goOn_40 (fun hbr => ?_) (fun hbr => ?_)
    · replace e := am_neg hbr e
      refine (sX10_goOn_151 (sX10_goOn_154 ?_))
      exact hc _ (Option.some.inj e).symm _ _
    · replace e := am_pos hbr e
      replace e := am_o1_i e; obtain ⟨v3, e3, e⟩ := e
      refine (sX10_goOn_43 (sX10_goOn_45 (sX10_goOn_47 (Nat.le_of_ble_eq_true rfl) (R_X10_has (h := ?_) (hd := (Nat.le_of_ble_eq_true rfl)) (e := e3)))))
      refine sX10_goOn_50 (fun hbr => ?_) (fun hbr => ?_)
      · replace e := am_pos hbr e
        refine (sX10_goOn_151 (sX10_goOn_154 ?_))
        exact hc _ (Option.some.inj e).symm _ _
      · replace e := am_neg hbr e
        replace e := am_ckv e; obtain ⟨c4, e⟩ := e
        refine (sX10_goOn_53 rfl (sX10_goOn_54 (hL.1 _ _ rfl) (hL.2.1 _ _ _ rfl) (sX10_goOn_57 (sX10_goOn_59 (hL.1 _ _ rfl) c4 ?_))))
        refine sX10_goOn_60 (fun hbr => ?_) (fun hbr => ?_)
        · replace e := am_neg hbr e
          replace e := am_o1_i e; obtain ⟨v5, e5, e⟩ := e
          replace e := am_ckv e; obtain ⟨c6, e⟩ := e
          refine (sX10_goOn_66 (sX10_goOn_68 (sX10_goOn_70 (sX10_goOn_71 rfl (sX10_goOn_72 (sX10_goOn_73 (sX10_goOn_75 (by decide) (sX10_goOn_76 (sX10_goOn_78 (hL.1 _ _ rfl) (Nat.le_of_ble_eq_true rfl) (R_X10_feedBy hL (h := (sX10_goOn_81 (sX10_goOn_82 (sX10_goOn_84 rfl (sX10_goOn_85 (hL.1 _ _ rfl) (hL.2.1 _ _ _ rfl) (sX10_goOn_88 (sX10_goOn_90 (hL.1 _ _ rfl) c6 (sX10_goOn_91 ?_)))))))) (hd := (Nat.le_of_ble_eq_true rfl)) (e := e5)))))))))))
          refine sX10_goOn_92 (fun hbr => ?_) (fun hbr => ?_)
          · replace e := am_pos hbr e
            replace e := am_ckv e; obtain ⟨c7, e⟩ := e
            replace e := am_ckv e; obtain ⟨c8, e⟩ := e
            replace e := am_ckv e; obtain ⟨c9, e⟩ := e
            replace e := am_ckv e; obtain ⟨c10, e⟩ := e
            replace e := am_ckv e; obtain ⟨c11, e⟩ := e
            refine (sX10_goOn_98 rfl (sX10_goOn_99 (hL.1 _ _ rfl) (hL.2.1 _ _ _ rfl) (sX10_goOn_102 (sX10_goOn_104 rfl (sX10_goOn_105 (hL.1 _ _ rfl) (hL.2.1 _ _ _ rfl) (sX10_goOn_108 (sX10_goOn_109 (hL.1 _ _ rfl) c7 (sX10_goOn_110 (sX10_goOn_111 (sX10_goOn_112 (hL.1 _ _ rfl) c8 (sX10_goOn_113 rfl (sX10_goOn_114 (hL.1 _ _ rfl) (hL.2.1 _ _ _ rfl) (sX10_goOn_117 (sX10_goOn_119 (sX10_goOn_120 (hL.1 _ _ rfl) c9 (sX10_goOn_121 rfl (sX10_goOn_122 (hL.1 _ _ rfl) (hL.2.1 _ _ _ rfl) (sX10_goOn_125 (sX10_goOn_127 (sX10_goOn_129 (hL.1 _ _ rfl) c10 (sX10_goOn_130 rfl (sX10_goOn_131 (hL.1 _ _ rfl) (hL.2.1 _ _ _ rfl) (sX10_goOn_134 rfl (sX10_goOn_135 (hL.1 _ _ rfl) (sX10_goOn_138 (sX10_goOn_140 (hL.1 _ _ rfl) c11 (sX10_goOn_141 rfl (sX10_goOn_142 rfl (sX10_goOn_143 (hL.1 _ _ rfl) (sX10_goOn_146 (sX10_goOn_147 (sX10_goOn_148 (hL.1 _ _ rfl) (sX10_goOn_151 (sX10_goOn_154 ?_))))))))))))))))))))))))))))))))))
            exact hc _ (Option.some.inj e).symm _ _
          · replace e := am_neg hbr e
            refine (sX10_goOn_95 (sX10_goOn_151 (sX10_goOn_154 ?_)))
            exact hc _ (Option.some.inj e).symm _ _
        · replace e := am_pos hbr e
          refine (sX10_goOn_63 (sX10_goOn_151 (sX10_goOn_154 ?_)))
          exact hc _ (Option.some.inj e).symm _ _
theorem l_X10_goOn_15 {E : am_E} {S : am_S} {Q : am_O → am_S → am_I → Prop} (hL : am_Lay S) {i1 i2 i3 i4 : Int32} (s : (Int32 × am_I)) {x : (am_I)} (e : am_loop (fun s : (Int32 × am_I) => B_X10_goOn_15 i1 i2 i3 i4 s.1 s.2) s = some x) (hx : ∀ z0 z1 z2 z3 z4 z5 z6 z7 : Value, am_R E 3 mX10_goOn 0 0 157 [z0, z1, z2, z3, z4, z5, z6, z7] [] S x Q) : ∀ z6 z7 : Value, am_R E 3 mX10_goOn 0 0 15 [.ref 54, .int i1, .int i2, .int i3, .int i4, .int s.1, z6, z7] [] S s.2 Q :=
  am_wh_sound (f := fun s : (Int32 × am_I) => B_X10_goOn_15 i1 i2 i3 i4 s.1 s.2) (P := fun s => ∀ z6 z7 : Value, am_R E 3 mX10_goOn 0 0 15 [.ref 54, .int i1, .int i2, .int i3, .int i4, .int s.1, z6, z7] [] S s.2 Q) (K := fun x => ∀ z0 z1 z2 z3 z4 z5 z6 z7 : Value, am_R E 3 mX10_goOn 0 0 157 [z0, z1, z2, z3, z4, z5, z6, z7] [] S x Q) (fun s y e hc hkk => fun z6 z7 => b_X10_goOn_15 hL e hc (fun a hy => hkk a hy)) am_fu s x e hx
def F_X10_goOn (i1 : Int32) (i2 : Int32) (iv : am_I) : Option (am_I) :=
  (am_o1 (F_X10_reachedBy (i1 / (32 : Int32)) iv) fun v1 => (am_o1 (am_loop (fun s : (Int32 × am_I) => B_X10_goOn_15 i1 i2 (i1 / (32 : Int32)) v1 s.1 s.2) ((0 : Int32), iv)) fun a12 => some a12))
theorem R_X10_goOn {E : am_E} {S : am_S} {Q : am_O → am_S → am_I → Prop} (hL : am_Lay S) {i1 i2 : Int32} {iv : am_I} {y : am_I} (e : F_X10_goOn i1 i2 iv = some y) (h : Q (.inl none) S y) {d : Nat} (hd : 3 ≤ d) : am_M E d mX10_goOn 0 0 [.ref 54, .int i1, .int i2] S iv Q := by
  refine am_enter (js := [.double 0, .double 0, .double 0, .double 0, .double 0]) rfl pn_X10 rfl rfl rfl (Nat.le_of_ble_eq_true rfl) (am_R.deep ?_ hd)
  replace e := am_o1_i e; obtain ⟨v1, e1, e⟩ := e
  refine (sX10_goOn_0 (sX10_goOn_1 (sX10_goOn_3 (by decide) (sX10_goOn_4 (sX10_goOn_5 rfl (sX10_goOn_6 (sX10_goOn_7 (hL.1 _ _ rfl) (Nat.le_of_ble_eq_true rfl) (R_X10_reachedBy hL (h := (sX10_goOn_10 (sX10_goOn_12 (sX10_goOn_13 ?_)))) (hd := (Nat.le_of_ble_eq_true rfl)) (e := e1)))))))))
  replace e := am_o1_i e; obtain ⟨a12, e12, e⟩ := e
  refine l_X10_goOn_15 hL _ e12 ?_ _ _
  intro z0 z1 z2 z3 z4 z5 z6 z7
  refine (sX10_goOn_157 ?_)
  obtain rfl := Option.some.inj e
  exact h
def B_X10_seek_2 (i1 : Int32) (i2 : Int32) (iv : am_I) : Option ((Int32 × am_I) ⊕ (am_I)) :=
  (if ((1 : Int32) <<< ((iv 58 (2 : Int32).toNatClampNeg) &&& 31)) ≤ i2 then some (.inr iv) else (am_o2 (F_X10_canBe i2 iv) fun v1 w1 => (if vp_b i2 1024 then (if v1 = 0 ∨ v1 = 1 then some (.inl ((i2 + 1), (am_w w1 82 i2.toNatClampNeg v1))) else none) else none)))
theorem b_X10_seek_2 {E : am_E} {S : am_S} {Q : am_O → am_S → am_I → Prop} (hL : am_Lay S) {z3 : Value} {i1 i2 : Int32} {iv : am_I} {y : (Int32 × am_I) ⊕ (am_I)} (e : B_X10_seek_2 i1 i2 iv = some y) (hc : ∀ s, y = .inl s → ∀ z3 : Value, am_R E 4 mX10_seek 0 0 2 [.ref 54, .int i1, .int s.1, z3] [] S s.2 Q) (hx : ∀ a, y = .inr a → ∀ z2 z3 : Value, am_R E 4 mX10_seek 0 0 31 [.ref 54, .int i1, z2, z3] [] S a Q) : am_R E 4 mX10_seek 0 0 2 [.ref 54, .int i1, .int i2, z3] [] S iv Q := by
  refine (sX10_seek_2 (sX10_seek_3 (sX10_seek_4 rfl (sX10_seek_5 (hL.1 _ _ rfl) (hL.2.1 _ _ _ rfl) (sX10_seek_8 (sX10_seek_9 (hL.1 _ _ rfl) (vp_lit (by decide)) (sX10_seek_10 ?_)))))))
  refine sX10_seek_11 (fun hbr => ?_) (fun hbr => ?_)
  · replace e := am_pos hbr e
    exact hx _ (Option.some.inj e).symm _ _
  · replace e := am_neg hbr e
    replace e := am_o2_i e; obtain ⟨v1, w1, e1, e⟩ := e
    replace e := am_ckv e; obtain ⟨c2, e⟩ := e
    replace e := am_ck e; obtain ⟨c3, e⟩ := e
    refine (sX10_seek_14 rfl (sX10_seek_15 (hL.1 _ _ rfl) (hL.2.1 _ _ _ rfl) (sX10_seek_18 (sX10_seek_19 rfl (sX10_seek_20 (sX10_seek_21 (hL.1 _ _ rfl) (Nat.le_of_ble_eq_true rfl) (R_X10_canBe hL (h := (sX10_seek_24 (hL.1 _ _ rfl) c2 c3 (sX10_seek_25 (sX10_seek_28 ?_)))) (hd := (Nat.le_of_ble_eq_true rfl)) (e := e1))))))))
    exact hc _ (Option.some.inj e).symm _
theorem l_X10_seek_2 {E : am_E} {S : am_S} {Q : am_O → am_S → am_I → Prop} (hL : am_Lay S) {i1 : Int32} (s : (Int32 × am_I)) {x : (am_I)} (e : am_loop (fun s : (Int32 × am_I) => B_X10_seek_2 i1 s.1 s.2) s = some x) (hx : ∀ z2 z3 : Value, am_R E 4 mX10_seek 0 0 31 [.ref 54, .int i1, z2, z3] [] S x Q) : ∀ z3 : Value, am_R E 4 mX10_seek 0 0 2 [.ref 54, .int i1, .int s.1, z3] [] S s.2 Q :=
  am_wh_sound (f := fun s : (Int32 × am_I) => B_X10_seek_2 i1 s.1 s.2) (P := fun s => ∀ z3 : Value, am_R E 4 mX10_seek 0 0 2 [.ref 54, .int i1, .int s.1, z3] [] S s.2 Q) (K := fun x => ∀ z2 z3 : Value, am_R E 4 mX10_seek 0 0 31 [.ref 54, .int i1, z2, z3] [] S x Q) (fun s y e hc hkk => fun z3 => b_X10_seek_2 hL e hc (fun a hy => hkk a hy)) am_fu s x e hx
def B_X10_seek_33 (i1 : Int32) (i2 : Int32) (iv : am_I) : Option ((Int32 × am_I) ⊕ (am_I)) :=
  (if (Int32.ofNat 32768) ≤ i2 then some (.inr iv) else (if vp_b i2 32768 then some (.inl ((i2 + 1), (am_w iv 79 i2.toNatClampNeg (-1 : Int32)))) else none))
theorem b_X10_seek_33 {E : am_E} {S : am_S} {Q : am_O → am_S → am_I → Prop} (hL : am_Lay S) {z3 : Value} {i1 i2 : Int32} {iv : am_I} {y : (Int32 × am_I) ⊕ (am_I)} (e : B_X10_seek_33 i1 i2 iv = some y) (hc : ∀ s, y = .inl s → ∀ z3 : Value, am_R E 4 mX10_seek 0 0 33 [.ref 54, .int i1, .int s.1, z3] [] S s.2 Q) (hx : ∀ a, y = .inr a → ∀ z2 z3 : Value, am_R E 4 mX10_seek 0 0 55 [.ref 54, .int i1, z2, z3] [] S a Q) : am_R E 4 mX10_seek 0 0 33 [.ref 54, .int i1, .int i2, z3] [] S iv Q := by
  refine (sX10_seek_33 (sX10_seek_34 rfl (sX10_seek_35 (hL.1 _ _ rfl) (hL.2.1 _ _ _ rfl) (sX10_seek_38 (hL.1 _ _ rfl) rfl ?_))))
  refine sX10_seek_39 (fun hbr => ?_) (fun hbr => ?_)
  · replace e := am_pos hbr e
    exact hx _ (Option.some.inj e).symm _ _
  · replace e := am_neg hbr e
    replace e := am_ckv e; obtain ⟨c5, e⟩ := e
    refine (sX10_seek_42 rfl (sX10_seek_43 (hL.1 _ _ rfl) (hL.2.1 _ _ _ rfl) (sX10_seek_46 (sX10_seek_47 (sX10_seek_48 (hL.1 _ _ rfl) c5 (sX10_seek_49 (sX10_seek_52 ?_)))))))
    exact hc _ (Option.some.inj e).symm _
theorem l_X10_seek_33 {E : am_E} {S : am_S} {Q : am_O → am_S → am_I → Prop} (hL : am_Lay S) {i1 : Int32} (s : (Int32 × am_I)) {x : (am_I)} (e : am_loop (fun s : (Int32 × am_I) => B_X10_seek_33 i1 s.1 s.2) s = some x) (hx : ∀ z2 z3 : Value, am_R E 4 mX10_seek 0 0 55 [.ref 54, .int i1, z2, z3] [] S x Q) : ∀ z3 : Value, am_R E 4 mX10_seek 0 0 33 [.ref 54, .int i1, .int s.1, z3] [] S s.2 Q :=
  am_wh_sound (f := fun s : (Int32 × am_I) => B_X10_seek_33 i1 s.1 s.2) (P := fun s => ∀ z3 : Value, am_R E 4 mX10_seek 0 0 33 [.ref 54, .int i1, .int s.1, z3] [] S s.2 Q) (K := fun x => ∀ z2 z3 : Value, am_R E 4 mX10_seek 0 0 55 [.ref 54, .int i1, z2, z3] [] S x Q) (fun s y e hc hkk => fun z3 => b_X10_seek_33 hL e hc (fun a hy => hkk a hy)) am_fu s x e hx
def B_X10_seek_89 (i1 : Int32) (i3 : Int32) (iv : am_I) : Option ((Int32 × am_I) ⊕ (am_I)) :=
  (if (iv 54 44) ≤ i3 then some (.inr iv) else (if vp_b i3 32768 then (am_o1 (F_X10_goOn (iv 80 i3.toNatClampNeg) i1 iv) fun w9 => some (.inl ((i3 + 1), w9))) else none))
theorem b_X10_seek_89 {E : am_E} {S : am_S} {Q : am_O → am_S → am_I → Prop} (hL : am_Lay S) {z2 : Value} {i1 i3 : Int32} {iv : am_I} {y : (Int32 × am_I) ⊕ (am_I)} (e : B_X10_seek_89 i1 i3 iv = some y) (hc : ∀ s, y = .inl s → ∀ z2 : Value, am_R E 4 mX10_seek 0 0 89 [.ref 54, .int i1, z2, .int s.1] [] S s.2 Q) (hx : ∀ a, y = .inr a → ∀ z0 z1 z2 z3 : Value, am_R E 4 mX10_seek 0 0 114 [z0, z1, z2, z3] [] S a Q) : am_R E 4 mX10_seek 0 0 89 [.ref 54, .int i1, z2, .int i3] [] S iv Q := by
  refine (sX10_seek_89 (sX10_seek_90 rfl (sX10_seek_91 (hL.1 _ _ rfl) ?_)))
  refine sX10_seek_94 (fun hbr => ?_) (fun hbr => ?_)
  · replace e := am_pos hbr e
    exact hx _ (Option.some.inj e).symm _ _ _ _
  · replace e := am_neg hbr e
    replace e := am_ckv e; obtain ⟨c8, e⟩ := e
    replace e := am_o1_i e; obtain ⟨w9, e9, e⟩ := e
    refine (sX10_seek_97 rfl (sX10_seek_98 rfl (sX10_seek_99 (hL.1 _ _ rfl) (hL.2.1 _ _ _ rfl) (sX10_seek_102 (sX10_seek_103 (hL.1 _ _ rfl) c8 (sX10_seek_104 (sX10_seek_105 (hL.1 _ _ rfl) (Nat.le_of_ble_eq_true rfl) (R_X10_goOn hL (h := (sX10_seek_108 (sX10_seek_111 ?_))) (hd := (Nat.le_of_ble_eq_true rfl)) (e := e9)))))))))
    exact hc _ (Option.some.inj e).symm _
theorem l_X10_seek_89 {E : am_E} {S : am_S} {Q : am_O → am_S → am_I → Prop} (hL : am_Lay S) {i1 : Int32} (s : (Int32 × am_I)) {x : (am_I)} (e : am_loop (fun s : (Int32 × am_I) => B_X10_seek_89 i1 s.1 s.2) s = some x) (hx : ∀ z0 z1 z2 z3 : Value, am_R E 4 mX10_seek 0 0 114 [z0, z1, z2, z3] [] S x Q) : ∀ z2 : Value, am_R E 4 mX10_seek 0 0 89 [.ref 54, .int i1, z2, .int s.1] [] S s.2 Q :=
  am_wh_sound (f := fun s : (Int32 × am_I) => B_X10_seek_89 i1 s.1 s.2) (P := fun s => ∀ z2 : Value, am_R E 4 mX10_seek 0 0 89 [.ref 54, .int i1, z2, .int s.1] [] S s.2 Q) (K := fun x => ∀ z0 z1 z2 z3 : Value, am_R E 4 mX10_seek 0 0 114 [z0, z1, z2, z3] [] S x Q) (fun s y e hc hkk => fun z2 => b_X10_seek_89 hL e hc (fun a hy => hkk a hy)) am_fu s x e hx
def F_X10_seek (i1 : Int32) (iv : am_I) : Option (am_I) :=
  (am_o1 (am_loop (fun s : (Int32 × am_I) => B_X10_seek_2 i1 s.1 s.2) ((0 : Int32), iv)) fun a4 => (am_o1 (am_loop (fun s : (Int32 × am_I) => B_X10_seek_33 i1 s.1 s.2) ((0 : Int32), a4)) fun a6 => (if vp_b (((32 : Int32) * (a6 54 29)) + (a6 54 31)) 32768 then (am_o1 (am_loop (fun s : (Int32 × am_I) => B_X10_seek_89 i1 s.1 s.2) ((0 : Int32), (am_w (am_w (am_w a6 79 (((32 : Int32) * (a6 54 29)) + (a6 54 31)).toNatClampNeg (0 : Int32)) 80 (0 : Int32).toNatClampNeg (((32 : Int32) * (a6 54 29)) + (a6 54 31))) 54 44 (1 : Int32)))) fun a10 => some a10) else none)))
theorem R_X10_seek {E : am_E} {S : am_S} {Q : am_O → am_S → am_I → Prop} (hL : am_Lay S) {i1 : Int32} {iv : am_I} {y : am_I} (e : F_X10_seek i1 iv = some y) (h : Q (.inl none) S y) {d : Nat} (hd : 4 ≤ d) : am_M E d mX10_seek 0 0 [.ref 54, .int i1] S iv Q := by
  refine am_enter (js := [.double 0, .double 0]) rfl pn_X10 rfl rfl rfl (Nat.le_of_ble_eq_true rfl) (am_R.deep ?_ hd)
  refine (sX10_seek_0 (sX10_seek_1 ?_))
  replace e := am_o1_i e; obtain ⟨a4, e4, e⟩ := e
  refine l_X10_seek_2 hL _ e4 ?_ _
  intro z2 z3
  refine (sX10_seek_31 (sX10_seek_32 ?_))
  replace e := am_o1_i e; obtain ⟨a6, e6, e⟩ := e
  refine l_X10_seek_33 hL _ e6 ?_ _
  intro z2 z3
  replace e := am_ckv e; obtain ⟨c7, e⟩ := e
  refine (sX10_seek_55 (sX10_seek_57 rfl (sX10_seek_58 (hL.1 _ _ rfl) (sX10_seek_61 (sX10_seek_62 rfl (sX10_seek_63 (hL.1 _ _ rfl) (sX10_seek_66 (sX10_seek_67 (sX10_seek_68 rfl (sX10_seek_69 (hL.1 _ _ rfl) (hL.2.1 _ _ _ rfl) (sX10_seek_72 (sX10_seek_73 (sX10_seek_74 (hL.1 _ _ rfl) c7 (sX10_seek_75 rfl (sX10_seek_76 (hL.1 _ _ rfl) (hL.2.1 _ _ _ rfl) (sX10_seek_79 (sX10_seek_80 (sX10_seek_81 (hL.1 _ _ rfl) (vp_lit (by decide)) (sX10_seek_82 rfl (sX10_seek_83 (sX10_seek_84 (hL.1 _ _ rfl) (sX10_seek_87 (sX10_seek_88 ?_)))))))))))))))))))))))
  replace e := am_o1_i e; obtain ⟨a10, e10, e⟩ := e
  refine l_X10_seek_89 hL _ e10 ?_ _
  intro z0 z1 z2 z3
  refine (sX10_seek_114 ?_)
  obtain rfl := Option.some.inj e
  exact h
def J_X10_isWanted_42 (k0 : Int32) (k1 : Int32) (iv : am_I) : Option (Int32) :=
  (if k0 = k1 then some (1 : Int32) else some (0 : Int32))
theorem j_X10_isWanted_42 {E : am_E} {S : am_S} {Q : am_O → am_S → am_I → Prop} (hL : am_Lay S) {z0 z1 z2 z3 : Value} {k0 k1 : Int32} {iv : am_I} {y : Int32} (e : J_X10_isWanted_42 k0 k1 iv = some y) (h : Q (.inl (some (.int y))) S iv) : am_R E 1 mX10_isWanted 0 0 42 [z0, z1, z2, z3] [.int k1, .int k0] S iv Q := by
  refine sX10_isWanted_42 (fun hbr => ?_) (fun hbr => ?_)
  · replace e := am_neg hbr e
    refine (sX10_isWanted_49 (sX10_isWanted_50 rfl ?_))
    obtain rfl := Option.some.inj e
    exact h
  · replace e := am_pos hbr e
    refine (sX10_isWanted_45 (sX10_isWanted_46 (sX10_isWanted_50 rfl ?_)))
    obtain rfl := Option.some.inj e
    exact h
def F_X10_isWanted (i1 : Int32) (i2 : Int32) (i3 : Int32) (iv : am_I) : Option (Int32) :=
  (if i2 = (2 : Int32) then (am_o1 (F_X10_wanting  iv) fun v2 => (if (v2 &&& ((i1 - i1 / (32 : Int32) * (32 : Int32)) ^^^ (-1 : Int32))) = 0 then some (1 : Int32) else some (0 : Int32))) else (am_o1 (F_X10_has (i1 / (32 : Int32)) i3 iv) fun v1 => (if i2 = 0 then J_X10_isWanted_42 v1 (1 : Int32) iv else J_X10_isWanted_42 v1 (0 : Int32) iv)))
theorem R_X10_isWanted {E : am_E} {S : am_S} {Q : am_O → am_S → am_I → Prop} (hL : am_Lay S) {i1 i2 i3 : Int32} {iv : am_I} {y : Int32} (e : F_X10_isWanted i1 i2 i3 iv = some y) (h : Q (.inl (some (.int y))) S iv) {d : Nat} (hd : 1 ≤ d) : am_M E d mX10_isWanted 0 0 [.ref 54, .int i1, .int i2, .int i3] S iv Q := by
  refine am_enter (js := []) rfl pn_X10 rfl rfl rfl (Nat.le_of_ble_eq_true rfl) (am_R.deep ?_ hd)
  refine (sX10_isWanted_0 (sX10_isWanted_1 ?_))
  refine sX10_isWanted_2 (fun hbr => ?_) (fun hbr => ?_)
  · replace e := am_neg hbr e
    replace e := am_o1_i e; obtain ⟨v1, e1, e⟩ := e
    refine (sX10_isWanted_25 (sX10_isWanted_26 (sX10_isWanted_28 (by decide) (sX10_isWanted_29 (sX10_isWanted_30 (Nat.le_of_ble_eq_true rfl) (R_X10_has (h := (sX10_isWanted_33 ?_)) (hd := (Nat.le_of_ble_eq_true rfl)) (e := e1)))))))
    refine sX10_isWanted_34 (fun hbr => ?_) (fun hbr => ?_)
    · replace e := am_neg hbr e
      refine (sX10_isWanted_41 ?_)
      exact j_X10_isWanted_42 hL e h
    · replace e := am_pos hbr e
      refine (sX10_isWanted_37 (sX10_isWanted_38 ?_))
      exact j_X10_isWanted_42 hL e h
  · replace e := am_pos hbr e
    replace e := am_o1_i e; obtain ⟨v2, e2, e⟩ := e
    refine (sX10_isWanted_5 rfl (sX10_isWanted_6 (hL.1 _ _ rfl) (Nat.le_of_ble_eq_true rfl) (R_X10_wanting hL (h := (sX10_isWanted_9 (sX10_isWanted_10 (sX10_isWanted_12 (by decide) (sX10_isWanted_13 (sX10_isWanted_14 (sX10_isWanted_15 ?_))))))) (hd := (Nat.le_of_ble_eq_true rfl)) (e := e2))))
    refine sX10_isWanted_16 (fun hbr => ?_) (fun hbr => ?_)
    · replace e := am_neg hbr e
      refine (sX10_isWanted_23 (sX10_isWanted_24 rfl ?_))
      obtain rfl := Option.some.inj e
      exact h
    · replace e := am_pos hbr e
      refine (sX10_isWanted_19 (sX10_isWanted_20 (sX10_isWanted_24 rfl ?_)))
      obtain rfl := Option.some.inj e
      exact h
def B_X10_soonest_2 (i1 : Int32) (i2 : Int32) (iv : am_I) (i3 : Int32) : Option ((Int32) ⊕ ((Unit) ⊕ (Int32))) :=
  (if (iv 54 44) ≤ i3 then some (.inr (.inl ())) else (if vp_b i3 32768 then (am_o1 (F_X10_isWanted (iv 80 i3.toNatClampNeg) i1 i2 iv) fun v2 => (if v2 = 0 then some (.inl (i3 + 1)) else (if vp_b i3 32768 then some (.inr (.inr (iv 80 i3.toNatClampNeg))) else none))) else none))
theorem b_X10_soonest_2 {E : am_E} {S : am_S} {Q : am_O → am_S → am_I → Prop} (hL : am_Lay S) {i1 i2 i3 : Int32} {iv : am_I} {y : (Int32) ⊕ ((Unit) ⊕ (Int32))} (e : B_X10_soonest_2 i1 i2 iv i3 = some y) (hc : ∀ s, y = .inl s → am_R E 2 mX10_soonest 0 0 2 [.ref 54, .int i1, .int i2, .int s] [] S iv Q) (hx : ∀ a, y = .inr (.inl a) → ∀ z0 z1 z2 z3 : Value, am_R E 2 mX10_soonest 0 0 38 [z0, z1, z2, z3] [] S iv Q) (hr : ∀ r, y = .inr (.inr r) → Q (.inl (some (.int r))) S iv) : am_R E 2 mX10_soonest 0 0 2 [.ref 54, .int i1, .int i2, .int i3] [] S iv Q := by
  refine (sX10_soonest_2 (sX10_soonest_3 rfl (sX10_soonest_4 (hL.1 _ _ rfl) ?_)))
  refine sX10_soonest_7 (fun hbr => ?_) (fun hbr => ?_)
  · replace e := am_pos hbr e
    exact hx _ (Option.some.inj e).symm _ _ _ _
  · replace e := am_neg hbr e
    replace e := am_ckv e; obtain ⟨c1, e⟩ := e
    replace e := am_o1_i e; obtain ⟨v2, e2, e⟩ := e
    refine (sX10_soonest_10 rfl (sX10_soonest_11 rfl (sX10_soonest_12 (hL.1 _ _ rfl) (hL.2.1 _ _ _ rfl) (sX10_soonest_15 (sX10_soonest_16 (hL.1 _ _ rfl) c1 (sX10_soonest_17 (sX10_soonest_18 (sX10_soonest_19 (hL.1 _ _ rfl) (Nat.le_of_ble_eq_true rfl) (R_X10_isWanted hL (h := ?_) (hd := (Nat.le_of_ble_eq_true rfl)) (e := e2))))))))))
    refine sX10_soonest_22 (fun hbr => ?_) (fun hbr => ?_)
    · replace e := am_pos hbr e
      refine (sX10_soonest_32 (sX10_soonest_35 ?_))
      exact hc _ (Option.some.inj e).symm
    · replace e := am_neg hbr e
      replace e := am_ckv e; obtain ⟨c3, e⟩ := e
      refine (sX10_soonest_25 rfl (sX10_soonest_26 (hL.1 _ _ rfl) (hL.2.1 _ _ _ rfl) (sX10_soonest_29 (sX10_soonest_30 (hL.1 _ _ rfl) c3 (sX10_soonest_31 ?_)))))
      exact hr _ (Option.some.inj e).symm
theorem l_X10_soonest_2 {E : am_E} {S : am_S} {Q : am_O → am_S → am_I → Prop} (hL : am_Lay S) {i1 i2 : Int32} {iv : am_I} (s : (Int32)) {x : ((Unit) ⊕ (Int32))} (e : am_loop (fun s : (Int32) => B_X10_soonest_2 i1 i2 iv s) s = some x) (hx : ∀ a, x = .inl a → ∀ z0 z1 z2 z3 : Value, am_R E 2 mX10_soonest 0 0 38 [z0, z1, z2, z3] [] S iv Q) (hr : ∀ r, x = .inr r → Q (.inl (some (.int r))) S iv) : am_R E 2 mX10_soonest 0 0 2 [.ref 54, .int i1, .int i2, .int s] [] S iv Q :=
  am_wh_sound (f := fun s : (Int32) => B_X10_soonest_2 i1 i2 iv s) (P := fun s => am_R E 2 mX10_soonest 0 0 2 [.ref 54, .int i1, .int i2, .int s] [] S iv Q) (K := fun x => (∀ a, x = .inl a → ∀ z0 z1 z2 z3 : Value, am_R E 2 mX10_soonest 0 0 38 [z0, z1, z2, z3] [] S iv Q) ∧ (∀ r, x = .inr r → Q (.inl (some (.int r))) S iv)) (fun s y e hc hkk => b_X10_soonest_2 hL e hc (fun a hy => (hkk _ hy).1 a rfl) (fun r hy => (hkk _ hy).2 r rfl)) am_fu s x e ⟨hx, hr⟩
def F_X10_soonest (i1 : Int32) (i2 : Int32) (iv : am_I) : Option (Int32) :=
  (am_lp (am_loop (fun s : (Int32) => B_X10_soonest_2 i1 i2 iv s) (0 : Int32)) (fun a4 => some (-1 : Int32)) (fun r4 => some r4))
theorem R_X10_soonest {E : am_E} {S : am_S} {Q : am_O → am_S → am_I → Prop} (hL : am_Lay S) {i1 i2 : Int32} {iv : am_I} {y : Int32} (e : F_X10_soonest i1 i2 iv = some y) (h : Q (.inl (some (.int y))) S iv) {d : Nat} (hd : 2 ≤ d) : am_M E d mX10_soonest 0 0 [.ref 54, .int i1, .int i2] S iv Q := by
  refine am_enter (js := [.double 0]) rfl pn_X10 rfl rfl rfl (Nat.le_of_ble_eq_true rfl) (am_R.deep ?_ hd)
  refine (sX10_soonest_0 (sX10_soonest_1 ?_))
  replace e := am_lp_i e; rcases e with ⟨a4, e4, e⟩ | ⟨r4, e4, e⟩
  · refine l_X10_soonest_2 hL _ e4 (fun a hq9 => ?_) (fun r hq9 => nomatch hq9)
    obtain rfl := Sum.inl.inj hq9
    intro z0 z1 z2 z3
    refine (sX10_soonest_38 (sX10_soonest_39 ?_))
    obtain rfl := Option.some.inj e
    exact h
  · refine l_X10_soonest_2 hL _ e4 (fun a hq9 => nomatch hq9) (fun r hq9 => ?_)
    obtain rfl := Sum.inr.inj hq9
    obtain rfl := Option.some.inj e
    exact h
def B_X10_howSoon_43 (i4 : Int32) (i5 : Int32) (iv : am_I) : Option ((Int32 × Int32 × am_I) ⊕ (am_I)) :=
  (if i5 < 0 then some (.inr iv) else (if vp_b i4 32768 then (if vp_b i5 32768 then (if vp_b i4 32768 then some (.inl (((am_w iv 81 i5.toNatClampNeg (iv 78 i4.toNatClampNeg)) 77 i4.toNatClampNeg), (i5 + (-1)), (am_w iv 81 i5.toNatClampNeg (iv 78 i4.toNatClampNeg)))) else none) else none) else none))
theorem b_X10_howSoon_43 {E : am_E} {S : am_S} {Q : am_O → am_S → am_I → Prop} (hL : am_Lay S) {z1 z2 z3 : Value} {i4 i5 : Int32} {iv : am_I} {y : (Int32 × Int32 × am_I) ⊕ (am_I)} (e : B_X10_howSoon_43 i4 i5 iv = some y) (hc : ∀ s, y = .inl s → ∀ z1 z2 z3 : Value, am_R E 5 mX10_howSoon 0 0 43 [.ref 54, z1, z2, z3, .int s.1, .int s.2.1] [] S s.2.2 Q) (hx : ∀ a, y = .inr a → ∀ z1 z2 z3 z4 z5 : Value, am_R E 5 mX10_howSoon 0 0 77 [.ref 54, z1, z2, z3, z4, z5] [] S a Q) : am_R E 5 mX10_howSoon 0 0 43 [.ref 54, z1, z2, z3, .int i4, .int i5] [] S iv Q := by
  refine (sX10_howSoon_43 ?_)
  refine sX10_howSoon_45 (fun hbr => ?_) (fun hbr => ?_)
  · replace e := am_pos hbr e
    exact hx _ (Option.some.inj e).symm _ _ _ _ _
  · replace e := am_neg hbr e
    replace e := am_ckv e; obtain ⟨c4, e⟩ := e
    replace e := am_ckv e; obtain ⟨c5, e⟩ := e
    replace e := am_ckv e; obtain ⟨c6, e⟩ := e
    refine (sX10_howSoon_48 rfl (sX10_howSoon_49 (hL.1 _ _ rfl) (hL.2.1 _ _ _ rfl) (sX10_howSoon_52 (sX10_howSoon_54 rfl (sX10_howSoon_55 (hL.1 _ _ rfl) (hL.2.1 _ _ _ rfl) (sX10_howSoon_58 (sX10_howSoon_60 (hL.1 _ _ rfl) c4 (sX10_howSoon_61 (hL.1 _ _ rfl) c5 (sX10_howSoon_62 rfl (sX10_howSoon_63 (hL.1 _ _ rfl) (hL.2.1 _ _ _ rfl) (sX10_howSoon_66 (sX10_howSoon_68 (hL.1 _ _ rfl) c6 (sX10_howSoon_69 (sX10_howSoon_71 (sX10_howSoon_74 ?_)))))))))))))))
    exact hc _ (Option.some.inj e).symm _ _ _
theorem l_X10_howSoon_43 {E : am_E} {S : am_S} {Q : am_O → am_S → am_I → Prop} (hL : am_Lay S) (s : (Int32 × Int32 × am_I)) {x : (am_I)} (e : am_loop (fun s : (Int32 × Int32 × am_I) => B_X10_howSoon_43 s.1 s.2.1 s.2.2) s = some x) (hx : ∀ z1 z2 z3 z4 z5 : Value, am_R E 5 mX10_howSoon 0 0 77 [.ref 54, z1, z2, z3, z4, z5] [] S x Q) : ∀ z1 z2 z3 : Value, am_R E 5 mX10_howSoon 0 0 43 [.ref 54, z1, z2, z3, .int s.1, .int s.2.1] [] S s.2.2 Q :=
  am_wh_sound (f := fun s : (Int32 × Int32 × am_I) => B_X10_howSoon_43 s.1 s.2.1 s.2.2) (P := fun s => ∀ z1 z2 z3 : Value, am_R E 5 mX10_howSoon 0 0 43 [.ref 54, z1, z2, z3, .int s.1, .int s.2.1] [] S s.2.2 Q) (K := fun x => ∀ z1 z2 z3 z4 z5 : Value, am_R E 5 mX10_howSoon 0 0 77 [.ref 54, z1, z2, z3, z4, z5] [] S x Q) (fun s y e hc hkk => fun z1 z2 z3 => b_X10_howSoon_43 hL e hc (fun a hy => hkk a hy)) am_fu s x e hx
def F_X10_howSoon (i1 : Int32) (i2 : Int32) (iv : am_I) : Option (Int32 × am_I) :=
  (am_o1 (F_X10_seek (iv 54 30) iv) fun w1 => (am_o1 (F_X10_soonest i1 i2 w1) fun v2 => (if v2 = (-1 : Int32) then some ((-1 : Int32), w1) else (if vp_b v2 32768 then (am_o1 (am_loop (fun s : (Int32 × Int32 × am_I) => B_X10_howSoon_43 s.1 s.2.1 s.2.2) (v2, (((am_w w1 54 45 (w1 79 v2.toNatClampNeg)) 54 45) - (1 : Int32)), (am_w w1 54 45 (w1 79 v2.toNatClampNeg)))) fun a7 => some ((a7 54 45), a7)) else none))))
theorem YR_X10_howSoon {E : am_E} {S : am_S} {Q : am_O → am_S → am_I → Prop} (hL : am_Lay S) {i1 i2 : Int32} {iv : am_I} {y : Int32 × am_I} (e : F_X10_howSoon i1 i2 iv = some y) (h : Q (.inl (some (.int y.1))) S y.2) {d : Nat} (hd : 5 ≤ d) : am_M E d mX10_howSoon 0 0 [.ref 54, .int i1, .int i2] S iv Q := by
  refine am_enter (js := [.double 0, .double 0, .double 0]) rfl pn_X10 rfl rfl rfl (Nat.le_of_ble_eq_true rfl) (am_R.deep ?_ hd)
  replace e := am_o1_i e; obtain ⟨w1, e1, e⟩ := e
  replace e := am_o1_i e; obtain ⟨v2, e2, e⟩ := e
  refine (sX10_howSoon_0 rfl (sX10_howSoon_1 rfl (sX10_howSoon_2 (hL.1 _ _ rfl) (sX10_howSoon_5 (hL.1 _ _ rfl) (Nat.le_of_ble_eq_true rfl) (R_X10_seek hL (h := (sX10_howSoon_8 rfl (sX10_howSoon_9 (sX10_howSoon_10 (sX10_howSoon_11 (hL.1 _ _ rfl) (Nat.le_of_ble_eq_true rfl) (R_X10_soonest hL (h := (sX10_howSoon_14 (sX10_howSoon_15 (sX10_howSoon_16 ?_)))) (hd := (Nat.le_of_ble_eq_true rfl)) (e := e2))))))) (hd := (Nat.le_of_ble_eq_true rfl)) (e := e1))))))
  refine sX10_howSoon_17 (fun hbr => ?_) (fun hbr => ?_)
  · replace e := am_neg hbr e
    replace e := am_ckv e; obtain ⟨c3, e⟩ := e
    refine (sX10_howSoon_22 rfl (sX10_howSoon_23 rfl (sX10_howSoon_24 (hL.1 _ _ rfl) (hL.2.1 _ _ _ rfl) (sX10_howSoon_27 (sX10_howSoon_28 (hL.1 _ _ rfl) c3 (sX10_howSoon_29 (hL.1 _ _ rfl) (sX10_howSoon_32 (sX10_howSoon_33 (sX10_howSoon_35 rfl (sX10_howSoon_36 (hL.1 _ _ rfl) (sX10_howSoon_39 (sX10_howSoon_40 (sX10_howSoon_41 ?_)))))))))))))
    replace e := am_o1_i e; obtain ⟨a7, e7, e⟩ := e
    refine l_X10_howSoon_43 hL _ e7 ?_ _ _ _
    intro z1 z2 z3 z4 z5
    refine (sX10_howSoon_77 rfl (sX10_howSoon_78 (hL.1 _ _ rfl) (sX10_howSoon_81 ?_)))
    obtain rfl := Option.some.inj e
    exact h
  · replace e := am_pos hbr e
    refine (sX10_howSoon_20 (sX10_howSoon_21 ?_))
    obtain rfl := Option.some.inj e
    exact h
theorem R_X10_howSoon {E : am_E} {S : am_S} {Q : am_O → am_S → am_I → Prop} (hL : am_Lay S) {i1 i2 : Int32} {iv : am_I} {v' : Int32} {iv' : am_I} (e : F_X10_howSoon i1 i2 iv = some (v', iv')) (h : Q (.inl (some (.int v'))) S iv') {d : Nat} (hd : 5 ≤ d) : am_M E d mX10_howSoon 0 0 [.ref 54, .int i1, .int i2] S iv Q :=
  YR_X10_howSoon hL e h hd
def F_X10_opens (i1 : Int32) (iv : am_I) : Option (Int32 × am_I) :=
  (am_o1 (F_X10_isDrawer i1 (am_w iv 54 3 (0 : Int32))) fun v1 => (if v1 = 0 then (am_o2 (F_X10_fail (1 : Int32) (am_w iv 54 3 (0 : Int32))) fun v2 w2 => some (v2, w2)) else (am_o2 (F_X10_howSoon (0 : Int32) i1 (am_w iv 54 3 (0 : Int32))) fun v3 w3 => some (v3, w3))))
theorem YR_X10_opens {E : am_E} {S : am_S} {Q : am_O → am_S → am_I → Prop} (hL : am_Lay S) {i1 : Int32} {iv : am_I} {y : Int32 × am_I} (e : F_X10_opens i1 iv = some y) (h : Q (.inl (some (.int y.1))) S y.2) {d : Nat} (hd : 6 ≤ d) : am_M E d mX10_opens 0 0 [.ref 54, .int i1] S iv Q := by
  refine am_enter (js := []) rfl pn_X10 rfl rfl rfl (Nat.le_of_ble_eq_true rfl) (am_R.deep ?_ hd)
  replace e := am_o1_i e; obtain ⟨v1, e1, e⟩ := e
  refine (sX10_opens_0 rfl (sX10_opens_1 (sX10_opens_2 (hL.1 _ _ rfl) (sX10_opens_5 rfl (sX10_opens_6 (sX10_opens_7 (hL.1 _ _ rfl) (Nat.le_of_ble_eq_true rfl) (R_X10_isDrawer hL (h := ?_) (hd := (Nat.le_of_ble_eq_true rfl)) (e := e1))))))))
  refine sX10_opens_10 (fun hbr => ?_) (fun hbr => ?_)
  · replace e := am_pos hbr e
    replace e := am_o2_i e; obtain ⟨v2, w2, e2, e⟩ := e
    refine (sX10_opens_22 rfl (sX10_opens_23 (sX10_opens_24 (hL.1 _ _ rfl) (Nat.le_of_ble_eq_true rfl) (R_X10_fail hL (h := (sX10_opens_27 ?_)) (hd := (Nat.le_of_ble_eq_true rfl)) (e := e2)))))
    obtain rfl := Option.some.inj e
    exact h
  · replace e := am_neg hbr e
    replace e := am_o2_i e; obtain ⟨v3, w3, e3, e⟩ := e
    refine (sX10_opens_13 rfl (sX10_opens_14 (sX10_opens_15 (sX10_opens_16 (hL.1 _ _ rfl) (Nat.le_of_ble_eq_true rfl) (R_X10_howSoon hL (h := (sX10_opens_19 (sX10_opens_27 ?_))) (hd := (Nat.le_of_ble_eq_true rfl)) (e := e3))))))
    obtain rfl := Option.some.inj e
    exact h
theorem R_X10_opens {E : am_E} {S : am_S} {Q : am_O → am_S → am_I → Prop} (hL : am_Lay S) {i1 : Int32} {iv : am_I} {v' : Int32} {iv' : am_I} (e : F_X10_opens i1 iv = some (v', iv')) (h : Q (.inl (some (.int v'))) S iv') {d : Nat} (hd : 6 ≤ d) : am_M E d mX10_opens 0 0 [.ref 54, .int i1] S iv Q :=
  YR_X10_opens hL e h hd
def F_X10_shuts (i1 : Int32) (iv : am_I) : Option (Int32 × am_I) :=
  (am_o1 (F_X10_isDrawer i1 (am_w iv 54 3 (0 : Int32))) fun v1 => (if v1 = 0 then (am_o2 (F_X10_fail (1 : Int32) (am_w iv 54 3 (0 : Int32))) fun v2 w2 => some (v2, w2)) else (am_o2 (F_X10_howSoon (1 : Int32) i1 (am_w iv 54 3 (0 : Int32))) fun v3 w3 => some (v3, w3))))
theorem YR_X10_shuts {E : am_E} {S : am_S} {Q : am_O → am_S → am_I → Prop} (hL : am_Lay S) {i1 : Int32} {iv : am_I} {y : Int32 × am_I} (e : F_X10_shuts i1 iv = some y) (h : Q (.inl (some (.int y.1))) S y.2) {d : Nat} (hd : 6 ≤ d) : am_M E d mX10_shuts 0 0 [.ref 54, .int i1] S iv Q := by
  refine am_enter (js := []) rfl pn_X10 rfl rfl rfl (Nat.le_of_ble_eq_true rfl) (am_R.deep ?_ hd)
  replace e := am_o1_i e; obtain ⟨v1, e1, e⟩ := e
  refine (sX10_shuts_0 rfl (sX10_shuts_1 (sX10_shuts_2 (hL.1 _ _ rfl) (sX10_shuts_5 rfl (sX10_shuts_6 (sX10_shuts_7 (hL.1 _ _ rfl) (Nat.le_of_ble_eq_true rfl) (R_X10_isDrawer hL (h := ?_) (hd := (Nat.le_of_ble_eq_true rfl)) (e := e1))))))))
  refine sX10_shuts_10 (fun hbr => ?_) (fun hbr => ?_)
  · replace e := am_pos hbr e
    replace e := am_o2_i e; obtain ⟨v2, w2, e2, e⟩ := e
    refine (sX10_shuts_22 rfl (sX10_shuts_23 (sX10_shuts_24 (hL.1 _ _ rfl) (Nat.le_of_ble_eq_true rfl) (R_X10_fail hL (h := (sX10_shuts_27 ?_)) (hd := (Nat.le_of_ble_eq_true rfl)) (e := e2)))))
    obtain rfl := Option.some.inj e
    exact h
  · replace e := am_neg hbr e
    replace e := am_o2_i e; obtain ⟨v3, w3, e3, e⟩ := e
    refine (sX10_shuts_13 rfl (sX10_shuts_14 (sX10_shuts_15 (sX10_shuts_16 (hL.1 _ _ rfl) (Nat.le_of_ble_eq_true rfl) (R_X10_howSoon hL (h := (sX10_shuts_19 (sX10_shuts_27 ?_))) (hd := (Nat.le_of_ble_eq_true rfl)) (e := e3))))))
    obtain rfl := Option.some.inj e
    exact h
theorem R_X10_shuts {E : am_E} {S : am_S} {Q : am_O → am_S → am_I → Prop} (hL : am_Lay S) {i1 : Int32} {iv : am_I} {v' : Int32} {iv' : am_I} (e : F_X10_shuts i1 iv = some (v', iv')) (h : Q (.inl (some (.int v'))) S iv') {d : Nat} (hd : 6 ≤ d) : am_M E d mX10_shuts 0 0 [.ref 54, .int i1] S iv Q :=
  YR_X10_shuts hL e h hd
def F_X10_bread (iv : am_I) : Option (Int32 × am_I) :=
  (am_o2 (F_X10_howSoon (2 : Int32) (0 : Int32) (am_w iv 54 3 (0 : Int32))) fun v1 w1 => some (v1, w1))
theorem YR_X10_bread {E : am_E} {S : am_S} {Q : am_O → am_S → am_I → Prop} (hL : am_Lay S) {iv : am_I} {y : Int32 × am_I} (e : F_X10_bread  iv = some y) (h : Q (.inl (some (.int y.1))) S y.2) {d : Nat} (hd : 6 ≤ d) : am_M E d mX10_bread 0 0 [.ref 54] S iv Q := by
  refine am_enter (js := []) rfl pn_X10 rfl rfl rfl (Nat.le_of_ble_eq_true rfl) (am_R.deep ?_ hd)
  replace e := am_o2_i e; obtain ⟨v1, w1, e1, e⟩ := e
  refine (sX10_bread_0 rfl (sX10_bread_1 (sX10_bread_2 (hL.1 _ _ rfl) (sX10_bread_5 rfl (sX10_bread_6 (sX10_bread_7 (sX10_bread_8 (hL.1 _ _ rfl) (Nat.le_of_ble_eq_true rfl) (R_X10_howSoon hL (h := (sX10_bread_11 ?_)) (hd := (Nat.le_of_ble_eq_true rfl)) (e := e1)))))))))
  obtain rfl := Option.some.inj e
  exact h
theorem R_X10_bread {E : am_E} {S : am_S} {Q : am_O → am_S → am_I → Prop} (hL : am_Lay S) {iv : am_I} {v' : Int32} {iv' : am_I} (e : F_X10_bread  iv = some (v', iv')) (h : Q (.inl (some (.int v'))) S iv') {d : Nat} (hd : 6 ≤ d) : am_M E d mX10_bread 0 0 [.ref 54] S iv Q :=
  YR_X10_bread hL e h hd
def F_X10_row (i1 : Int32) (iv : am_I) : Option (Int32 × am_I) :=
  (if ((am_w iv 54 3 (0 : Int32)) 54 45) = (-1 : Int32) then (am_o2 (F_X10_fail (1 : Int32) (am_w iv 54 3 (0 : Int32))) fun v4 w4 => some (v4, w4)) else (if i1 = (-1 : Int32) then some (((am_w iv 54 3 (0 : Int32)) 54 45), (am_w iv 54 3 (0 : Int32))) else (am_o1 (F_X10_isIn i1 (0 : Int32) (((am_w iv 54 3 (0 : Int32)) 54 45) - (1 : Int32)) (am_w iv 54 3 (0 : Int32))) fun v1 => (if v1 = 0 then (am_o2 (F_X10_fail (1 : Int32) (am_w iv 54 3 (0 : Int32))) fun v2 w2 => some (v2, w2)) else (if vp_b i1 32768 then some (((am_w iv 54 3 (0 : Int32)) 81 i1.toNatClampNeg), (am_w iv 54 3 (0 : Int32))) else none)))))
theorem YR_X10_row {E : am_E} {S : am_S} {Q : am_O → am_S → am_I → Prop} (hL : am_Lay S) {i1 : Int32} {iv : am_I} {y : Int32 × am_I} (e : F_X10_row i1 iv = some y) (h : Q (.inl (some (.int y.1))) S y.2) {d : Nat} (hd : 1 ≤ d) : am_M E d mX10_row 0 0 [.ref 54, .int i1] S iv Q := by
  refine am_enter (js := []) rfl pn_X10 rfl rfl rfl (Nat.le_of_ble_eq_true rfl) (am_R.deep ?_ hd)
  refine (sX10_row_0 rfl (sX10_row_1 (sX10_row_2 (hL.1 _ _ rfl) (sX10_row_5 rfl (sX10_row_6 (hL.1 _ _ rfl) (sX10_row_9 ?_))))))
  refine sX10_row_10 (fun hbr => ?_) (fun hbr => ?_)
  · replace e := am_neg hbr e
    refine (sX10_row_19 (sX10_row_20 ?_))
    refine sX10_row_21 (fun hbr => ?_) (fun hbr => ?_)
    · replace e := am_neg hbr e
      replace e := am_o1_i e; obtain ⟨v1, e1, e⟩ := e
      refine (sX10_row_31 (sX10_row_32 (sX10_row_33 rfl (sX10_row_34 (hL.1 _ _ rfl) (sX10_row_37 (sX10_row_38 (sX10_row_39 (Nat.le_of_ble_eq_true rfl) (R_X10_isIn (h := ?_) (hd := (Nat.le_of_ble_eq_true rfl)) (e := e1)))))))))
      refine sX10_row_42 (fun hbr => ?_) (fun hbr => ?_)
      · replace e := am_pos hbr e
        replace e := am_o2_i e; obtain ⟨v2, w2, e2, e⟩ := e
        refine (sX10_row_54 rfl (sX10_row_55 (sX10_row_56 (hL.1 _ _ rfl) (Nat.le_of_ble_eq_true rfl) (R_X10_fail hL (h := (sX10_row_59 ?_)) (hd := (Nat.le_of_ble_eq_true rfl)) (e := e2)))))
        obtain rfl := Option.some.inj e
        exact h
      · replace e := am_neg hbr e
        replace e := am_ckv e; obtain ⟨c3, e⟩ := e
        refine (sX10_row_45 rfl (sX10_row_46 (hL.1 _ _ rfl) (hL.2.1 _ _ _ rfl) (sX10_row_49 (sX10_row_50 (hL.1 _ _ rfl) c3 (sX10_row_51 (sX10_row_59 ?_))))))
        obtain rfl := Option.some.inj e
        exact h
    · replace e := am_pos hbr e
      refine (sX10_row_24 rfl (sX10_row_25 (hL.1 _ _ rfl) (sX10_row_28 (sX10_row_59 ?_))))
      obtain rfl := Option.some.inj e
      exact h
  · replace e := am_pos hbr e
    replace e := am_o2_i e; obtain ⟨v4, w4, e4, e⟩ := e
    refine (sX10_row_13 rfl (sX10_row_14 (sX10_row_15 (hL.1 _ _ rfl) (Nat.le_of_ble_eq_true rfl) (R_X10_fail hL (h := (sX10_row_18 ?_)) (hd := (Nat.le_of_ble_eq_true rfl)) (e := e4)))))
    obtain rfl := Option.some.inj e
    exact h
theorem R_X10_row {E : am_E} {S : am_S} {Q : am_O → am_S → am_I → Prop} (hL : am_Lay S) {i1 : Int32} {iv : am_I} {v' : Int32} {iv' : am_I} (e : F_X10_row i1 iv = some (v', iv')) (h : Q (.inl (some (.int v'))) S iv') {d : Nat} (hd : 1 ≤ d) : am_M E d mX10_row 0 0 [.ref 54, .int i1] S iv Q :=
  YR_X10_row hL e h hd
def B_X10_everOut_10 (i1 : Int32) (iv : am_I) (i3 : Int32) (i4 : Int32) : Option ((Int32 × Int32) ⊕ (Int32)) :=
  (if (iv 54 44) ≤ i4 then some (.inr i3) else (if vp_b i4 32768 then some (.inl ((i3 ||| ((iv 80 i4.toNatClampNeg) / (32 : Int32))), (i4 + 1))) else none))
theorem b_X10_everOut_10 {E : am_E} {S : am_S} {Q : am_O → am_S → am_I → Prop} (hL : am_Lay S) {z2 : Value} {i1 i3 i4 : Int32} {iv : am_I} {y : (Int32 × Int32) ⊕ (Int32)} (e : B_X10_everOut_10 i1 iv i3 i4 = some y) (hc : ∀ s, y = .inl s → ∀ z2 : Value, am_R E 5 mX10_everOut 0 0 10 [.ref 54, .int i1, z2, .int s.1, .int s.2] [] S iv Q) (hx : ∀ a, y = .inr a → ∀ z0 z2 z4 : Value, am_R E 5 mX10_everOut 0 0 38 [z0, .int i1, z2, .int a, z4] [] S iv Q) : am_R E 5 mX10_everOut 0 0 10 [.ref 54, .int i1, z2, .int i3, .int i4] [] S iv Q := by
  refine (sX10_everOut_10 (sX10_everOut_12 rfl (sX10_everOut_13 (hL.1 _ _ rfl) ?_)))
  refine sX10_everOut_16 (fun hbr => ?_) (fun hbr => ?_)
  · replace e := am_pos hbr e
    exact hx _ (Option.some.inj e).symm _ _ _
  · replace e := am_neg hbr e
    replace e := am_ckv e; obtain ⟨c2, e⟩ := e
    refine (sX10_everOut_19 (sX10_everOut_20 rfl (sX10_everOut_21 (hL.1 _ _ rfl) (hL.2.1 _ _ _ rfl) (sX10_everOut_24 (sX10_everOut_26 (hL.1 _ _ rfl) c2 (sX10_everOut_27 (sX10_everOut_29 (by decide) (sX10_everOut_30 (sX10_everOut_31 (sX10_everOut_32 (sX10_everOut_35 ?_)))))))))))
    exact hc _ (Option.some.inj e).symm _
theorem l_X10_everOut_10 {E : am_E} {S : am_S} {Q : am_O → am_S → am_I → Prop} (hL : am_Lay S) {i1 : Int32} {iv : am_I} (s : (Int32 × Int32)) {x : (Int32)} (e : am_loop (fun s : (Int32 × Int32) => B_X10_everOut_10 i1 iv s.1 s.2) s = some x) (hx : ∀ z0 z2 z4 : Value, am_R E 5 mX10_everOut 0 0 38 [z0, .int i1, z2, .int x, z4] [] S iv Q) : ∀ z2 : Value, am_R E 5 mX10_everOut 0 0 10 [.ref 54, .int i1, z2, .int s.1, .int s.2] [] S iv Q :=
  am_wh_sound (f := fun s : (Int32 × Int32) => B_X10_everOut_10 i1 iv s.1 s.2) (P := fun s => ∀ z2 : Value, am_R E 5 mX10_everOut 0 0 10 [.ref 54, .int i1, z2, .int s.1, .int s.2] [] S iv Q) (K := fun x => ∀ z0 z2 z4 : Value, am_R E 5 mX10_everOut 0 0 38 [z0, .int i1, z2, .int x, z4] [] S iv Q) (fun s y e hc hkk => fun z2 => b_X10_everOut_10 hL e hc (fun a hy => hkk a hy)) am_fu s x e hx
def F_X10_everOut (i1 : Int32) (i2 : Int32) (iv : am_I) : Option (Int32 × am_I) :=
  (am_o1 (F_X10_seek i2 iv) fun w1 => (am_o1 (am_loop (fun s : (Int32 × Int32) => B_X10_everOut_10 i1 w1 s.1 s.2) ((0 : Int32), (0 : Int32))) fun a3 => (am_o1 (F_X10_bitsOf (a3 &&& (((1 : Int32) <<< (i1 &&& 31)) ^^^ (-1 : Int32))) w1) fun v4 => some (v4, w1))))
theorem YR_X10_everOut {E : am_E} {S : am_S} {Q : am_O → am_S → am_I → Prop} (hL : am_Lay S) {i1 i2 : Int32} {iv : am_I} {y : Int32 × am_I} (e : F_X10_everOut i1 i2 iv = some y) (h : Q (.inl (some (.int y.1))) S y.2) {d : Nat} (hd : 5 ≤ d) : am_M E d mX10_everOut 0 0 [.ref 54, .int i1, .int i2] S iv Q := by
  refine am_enter (js := [.double 0, .double 0]) rfl pn_X10 rfl rfl rfl (Nat.le_of_ble_eq_true rfl) (am_R.deep ?_ hd)
  replace e := am_o1_i e; obtain ⟨w1, e1, e⟩ := e
  refine (sX10_everOut_0 rfl (sX10_everOut_1 (sX10_everOut_2 (hL.1 _ _ rfl) (Nat.le_of_ble_eq_true rfl) (R_X10_seek hL (h := (sX10_everOut_5 (sX10_everOut_6 (sX10_everOut_7 (sX10_everOut_8 ?_))))) (hd := (Nat.le_of_ble_eq_true rfl)) (e := e1)))))
  replace e := am_o1_i e; obtain ⟨a3, e3, e⟩ := e
  refine l_X10_everOut_10 hL _ e3 ?_ _
  intro z0 z2 z4
  replace e := am_o1_i e; obtain ⟨v4, e4, e⟩ := e
  refine (sX10_everOut_38 (sX10_everOut_39 (sX10_everOut_40 (sX10_everOut_41 (sX10_everOut_42 (sX10_everOut_43 (sX10_everOut_44 (sX10_everOut_45 (Nat.le_of_ble_eq_true rfl) (R_X10_bitsOf (h := (sX10_everOut_48 ?_)) (hd := (Nat.le_of_ble_eq_true rfl)) (e := e4))))))))))
  obtain rfl := Option.some.inj e
  exact h
theorem R_X10_everOut {E : am_E} {S : am_S} {Q : am_O → am_S → am_I → Prop} (hL : am_Lay S) {i1 i2 : Int32} {iv : am_I} {v' : Int32} {iv' : am_I} (e : F_X10_everOut i1 i2 iv = some (v', iv')) (h : Q (.inl (some (.int v'))) S iv') {d : Nat} (hd : 5 ≤ d) : am_M E d mX10_everOut 0 0 [.ref 54, .int i1, .int i2] S iv Q :=
  YR_X10_everOut hL e h hd
def F_X10_harm (i1 : Int32) (iv : am_I) : Option (Int32 × am_I) :=
  (am_o1 (F_X10_isDrawer i1 (am_w iv 54 3 (0 : Int32))) fun v1 => (if v1 = 0 then (am_o2 (F_X10_fail (1 : Int32) (am_w iv 54 3 (0 : Int32))) fun v2 w2 => some (v2, w2)) else (am_o2 (F_X10_everOut i1 (((am_w iv 54 3 (0 : Int32)) 54 30) &&& (((1 : Int32) <<< (i1 &&& 31)) ^^^ (-1 : Int32))) (am_w iv 54 3 (0 : Int32))) fun v3 w3 => (am_o2 (F_X10_everOut i1 ((w3 54 30) ||| ((1 : Int32) <<< (i1 &&& 31))) w3) fun v4 w4 => some ((v3 - v4), w4)))))
theorem YR_X10_harm {E : am_E} {S : am_S} {Q : am_O → am_S → am_I → Prop} (hL : am_Lay S) {i1 : Int32} {iv : am_I} {y : Int32 × am_I} (e : F_X10_harm i1 iv = some y) (h : Q (.inl (some (.int y.1))) S y.2) {d : Nat} (hd : 6 ≤ d) : am_M E d mX10_harm 0 0 [.ref 54, .int i1] S iv Q := by
  refine am_enter (js := []) rfl pn_X10 rfl rfl rfl (Nat.le_of_ble_eq_true rfl) (am_R.deep ?_ hd)
  replace e := am_o1_i e; obtain ⟨v1, e1, e⟩ := e
  refine (sX10_harm_0 rfl (sX10_harm_1 (sX10_harm_2 (hL.1 _ _ rfl) (sX10_harm_5 rfl (sX10_harm_6 (sX10_harm_7 (hL.1 _ _ rfl) (Nat.le_of_ble_eq_true rfl) (R_X10_isDrawer hL (h := ?_) (hd := (Nat.le_of_ble_eq_true rfl)) (e := e1))))))))
  refine sX10_harm_10 (fun hbr => ?_) (fun hbr => ?_)
  · replace e := am_pos hbr e
    replace e := am_o2_i e; obtain ⟨v2, w2, e2, e⟩ := e
    refine (sX10_harm_45 rfl (sX10_harm_46 (sX10_harm_47 (hL.1 _ _ rfl) (Nat.le_of_ble_eq_true rfl) (R_X10_fail hL (h := (sX10_harm_50 ?_)) (hd := (Nat.le_of_ble_eq_true rfl)) (e := e2)))))
    obtain rfl := Option.some.inj e
    exact h
  · replace e := am_neg hbr e
    replace e := am_o2_i e; obtain ⟨v3, w3, e3, e⟩ := e
    replace e := am_o2_i e; obtain ⟨v4, w4, e4, e⟩ := e
    refine (sX10_harm_13 rfl (sX10_harm_14 (sX10_harm_15 rfl (sX10_harm_16 (hL.1 _ _ rfl) (sX10_harm_19 (sX10_harm_20 (sX10_harm_21 (sX10_harm_22 (sX10_harm_23 (sX10_harm_24 (sX10_harm_25 (hL.1 _ _ rfl) (Nat.le_of_ble_eq_true rfl) (R_X10_everOut hL (h := (sX10_harm_28 rfl (sX10_harm_29 (sX10_harm_30 rfl (sX10_harm_31 (hL.1 _ _ rfl) (sX10_harm_34 (sX10_harm_35 (sX10_harm_36 (sX10_harm_37 (sX10_harm_38 (hL.1 _ _ rfl) (Nat.le_of_ble_eq_true rfl) (R_X10_everOut hL (h := (sX10_harm_41 (sX10_harm_42 (sX10_harm_50 ?_)))) (hd := (Nat.le_of_ble_eq_true rfl)) (e := e4)))))))))))) (hd := (Nat.le_of_ble_eq_true rfl)) (e := e3)))))))))))))
    obtain rfl := Option.some.inj e
    exact h
theorem R_X10_harm {E : am_E} {S : am_S} {Q : am_O → am_S → am_I → Prop} (hL : am_Lay S) {i1 : Int32} {iv : am_I} {v' : Int32} {iv' : am_I} (e : F_X10_harm i1 iv = some (v', iv')) (h : Q (.inl (some (.int v'))) S iv') {d : Nat} (hd : 6 ≤ d) : am_M E d mX10_harm 0 0 [.ref 54, .int i1] S iv Q :=
  YR_X10_harm hL e h hd
def J_X10_canMarry_63 (i1 : Int32) (i2 : Int32) (k0 : Int32) (iv : am_I) : Option (Int32) :=
  (if k0 = 0 then some (0 : Int32) else (if vp_b i1 20 then (if (iv 63 i1.toNatClampNeg) = 0 then (if vp_b i2 20 then (if (iv 63 i2.toNatClampNeg) = 0 then (if ((((iv 54 29) ||| (iv 54 30)) >>> (i1 &&& 31)) &&& (1 : Int32)) = 0 then (if ((((iv 54 29) ||| (iv 54 30)) >>> (i2 &&& 31)) &&& (1 : Int32)) = 0 then some (1 : Int32) else some (0 : Int32)) else some (0 : Int32)) else some (0 : Int32)) else none) else some (0 : Int32)) else none))
theorem j_X10_canMarry_63 {E : am_E} {S : am_S} {Q : am_O → am_S → am_I → Prop} (hL : am_Lay S) {z3 : Value} {i1 i2 k0 : Int32} {iv : am_I} {y : Int32} (e : J_X10_canMarry_63 i1 i2 k0 iv = some y) (h : Q (.inl (some (.int y))) S iv) : am_R E 1 mX10_canMarry 0 0 63 [.ref 54, .int i1, .int i2, z3] [.int k0] S iv Q := by
  refine (sX10_canMarry_63 (sX10_canMarry_64 ?_))
  refine sX10_canMarry_65 (fun hbr => ?_) (fun hbr => ?_)
  · replace e := am_pos hbr e
    refine (sX10_canMarry_122 (sX10_canMarry_123 rfl ?_))
    obtain rfl := Option.some.inj e
    exact h
  · replace e := am_neg hbr e
    replace e := am_ckv e; obtain ⟨c1, e⟩ := e
    refine (sX10_canMarry_68 rfl (sX10_canMarry_69 (hL.1 _ _ rfl) (hL.2.1 _ _ _ rfl) (sX10_canMarry_72 (sX10_canMarry_73 (hL.1 _ _ rfl) c1 ?_))))
    refine sX10_canMarry_74 (fun hbr => ?_) (fun hbr => ?_)
    · replace e := am_neg hbr e
      refine (sX10_canMarry_122 (sX10_canMarry_123 rfl ?_))
      obtain rfl := Option.some.inj e
      exact h
    · replace e := am_pos hbr e
      replace e := am_ckv e; obtain ⟨c2, e⟩ := e
      refine (sX10_canMarry_77 rfl (sX10_canMarry_78 (hL.1 _ _ rfl) (hL.2.1 _ _ _ rfl) (sX10_canMarry_81 (sX10_canMarry_82 (hL.1 _ _ rfl) c2 ?_))))
      refine sX10_canMarry_83 (fun hbr => ?_) (fun hbr => ?_)
      · replace e := am_neg hbr e
        refine (sX10_canMarry_122 (sX10_canMarry_123 rfl ?_))
        obtain rfl := Option.some.inj e
        exact h
      · replace e := am_pos hbr e
        refine (sX10_canMarry_86 rfl (sX10_canMarry_87 (hL.1 _ _ rfl) (sX10_canMarry_90 rfl (sX10_canMarry_91 (hL.1 _ _ rfl) (sX10_canMarry_94 (sX10_canMarry_95 (sX10_canMarry_96 (sX10_canMarry_97 (sX10_canMarry_98 ?_)))))))))
        refine sX10_canMarry_99 (fun hbr => ?_) (fun hbr => ?_)
        · replace e := am_neg hbr e
          refine (sX10_canMarry_122 (sX10_canMarry_123 rfl ?_))
          obtain rfl := Option.some.inj e
          exact h
        · replace e := am_pos hbr e
          refine (sX10_canMarry_102 rfl (sX10_canMarry_103 (hL.1 _ _ rfl) (sX10_canMarry_106 rfl (sX10_canMarry_107 (hL.1 _ _ rfl) (sX10_canMarry_110 (sX10_canMarry_111 (sX10_canMarry_112 (sX10_canMarry_113 (sX10_canMarry_114 ?_)))))))))
          refine sX10_canMarry_115 (fun hbr => ?_) (fun hbr => ?_)
          · replace e := am_neg hbr e
            refine (sX10_canMarry_122 (sX10_canMarry_123 rfl ?_))
            obtain rfl := Option.some.inj e
            exact h
          · replace e := am_pos hbr e
            refine (sX10_canMarry_118 (sX10_canMarry_119 (sX10_canMarry_123 rfl ?_)))
            obtain rfl := Option.some.inj e
            exact h
def J_X10_canMarry_62 (i1 : Int32) (i2 : Int32) (iv : am_I) : Option (Int32) :=
  J_X10_canMarry_63 i1 i2 (0 : Int32) iv
theorem j_X10_canMarry_62 {E : am_E} {S : am_S} {Q : am_O → am_S → am_I → Prop} (hL : am_Lay S) {z3 : Value} {i1 i2 : Int32} {iv : am_I} {y : Int32} (e : J_X10_canMarry_62 i1 i2 iv = some y) (h : Q (.inl (some (.int y))) S iv) : am_R E 1 mX10_canMarry 0 0 62 [.ref 54, .int i1, .int i2, z3] [] S iv Q := by
  refine (sX10_canMarry_62 ?_)
  exact j_X10_canMarry_63 hL e h
def F_X10_canMarry (i1 : Int32) (i2 : Int32) (iv : am_I) : Option (Int32) :=
  (if i1 = i2 then J_X10_canMarry_62 i1 i2 iv else (if vp_b i1 20 then (if (iv 59 i1.toNatClampNeg) = 0 then (if vp_b i2 20 then (if (iv 59 i2.toNatClampNeg) = 0 then (if vp_b i1 20 then (if vp_b i2 20 then (if (iv 61 i1.toNatClampNeg) = (iv 61 i2.toNatClampNeg) then (if vp_b i1 20 then (if vp_b i2 20 then (if (if 0 ≤ ((iv 60 i1.toNatClampNeg) - (iv 60 i2.toNatClampNeg)) then ((iv 60 i1.toNatClampNeg) - (iv 60 i2.toNatClampNeg)) else -((iv 60 i1.toNatClampNeg) - (iv 60 i2.toNatClampNeg))) = (1 : Int32) then J_X10_canMarry_63 i1 i2 (1 : Int32) iv else J_X10_canMarry_62 i1 i2 iv) else none) else none) else J_X10_canMarry_62 i1 i2 iv) else none) else none) else J_X10_canMarry_62 i1 i2 iv) else none) else J_X10_canMarry_62 i1 i2 iv) else none))
theorem R_X10_canMarry {E : am_E} {S : am_S} {Q : am_O → am_S → am_I → Prop} (hL : am_Lay S) {i1 i2 : Int32} {iv : am_I} {y : Int32} (e : F_X10_canMarry i1 i2 iv = some y) (h : Q (.inl (some (.int y))) S iv) {d : Nat} (hd : 1 ≤ d) : am_M E d mX10_canMarry 0 0 [.ref 54, .int i1, .int i2] S iv Q := by
  refine am_enter (js := [.double 0]) rfl pn_X10 rfl rfl rfl (Nat.le_of_ble_eq_true rfl) (am_R.deep ?_ hd)
  refine (sX10_canMarry_0 (sX10_canMarry_1 ?_))
  refine sX10_canMarry_2 (fun hbr => ?_) (fun hbr => ?_)
  · replace e := am_pos hbr e
    exact j_X10_canMarry_62 hL e h
  · replace e := am_neg hbr e
    replace e := am_ckv e; obtain ⟨c3, e⟩ := e
    refine (sX10_canMarry_5 rfl (sX10_canMarry_6 (hL.1 _ _ rfl) (hL.2.1 _ _ _ rfl) (sX10_canMarry_9 (sX10_canMarry_10 (hL.1 _ _ rfl) c3 ?_))))
    refine sX10_canMarry_11 (fun hbr => ?_) (fun hbr => ?_)
    · replace e := am_neg hbr e
      exact j_X10_canMarry_62 hL e h
    · replace e := am_pos hbr e
      replace e := am_ckv e; obtain ⟨c4, e⟩ := e
      refine (sX10_canMarry_14 rfl (sX10_canMarry_15 (hL.1 _ _ rfl) (hL.2.1 _ _ _ rfl) (sX10_canMarry_18 (sX10_canMarry_19 (hL.1 _ _ rfl) c4 ?_))))
      refine sX10_canMarry_20 (fun hbr => ?_) (fun hbr => ?_)
      · replace e := am_neg hbr e
        exact j_X10_canMarry_62 hL e h
      · replace e := am_pos hbr e
        replace e := am_ckv e; obtain ⟨c5, e⟩ := e
        replace e := am_ckv e; obtain ⟨c6, e⟩ := e
        refine (sX10_canMarry_23 rfl (sX10_canMarry_24 (hL.1 _ _ rfl) (hL.2.1 _ _ _ rfl) (sX10_canMarry_27 (sX10_canMarry_28 (hL.1 _ _ rfl) c5 (sX10_canMarry_29 rfl (sX10_canMarry_30 (hL.1 _ _ rfl) (hL.2.1 _ _ _ rfl) (sX10_canMarry_33 (sX10_canMarry_34 (hL.1 _ _ rfl) c6 ?_))))))))
        refine sX10_canMarry_35 (fun hbr => ?_) (fun hbr => ?_)
        · replace e := am_neg hbr e
          exact j_X10_canMarry_62 hL e h
        · replace e := am_pos hbr e
          replace e := am_ckv e; obtain ⟨c7, e⟩ := e
          replace e := am_ckv e; obtain ⟨c8, e⟩ := e
          refine (sX10_canMarry_38 rfl (sX10_canMarry_39 (hL.1 _ _ rfl) (hL.2.1 _ _ _ rfl) (sX10_canMarry_42 (sX10_canMarry_43 (hL.1 _ _ rfl) c7 (sX10_canMarry_44 rfl (sX10_canMarry_45 (hL.1 _ _ rfl) (hL.2.1 _ _ _ rfl) (sX10_canMarry_48 (sX10_canMarry_49 (hL.1 _ _ rfl) c8 (sX10_canMarry_50 (sX10_canMarry_51 (Nat.le_of_ble_eq_true rfl) (J_abs (sX10_canMarry_54 ?_))))))))))))
          refine sX10_canMarry_55 (fun hbr => ?_) (fun hbr => ?_)
          · replace e := am_neg hbr e
            exact j_X10_canMarry_62 hL e h
          · replace e := am_pos hbr e
            refine (sX10_canMarry_58 (sX10_canMarry_59 ?_))
            exact j_X10_canMarry_63 hL e h
def F_X10_soonBread (i1 : Int32) (iv : am_I) : Option (Int32 × am_I) :=
  (am_o1 (F_X10_seek i1 iv) fun w1 => (am_o1 (F_X10_soonest (2 : Int32) (0 : Int32) w1) fun v2 => (if v2 = (-1 : Int32) then some ((-1 : Int32), w1) else (if vp_b v2 32768 then some ((w1 79 v2.toNatClampNeg), w1) else none))))
theorem YR_X10_soonBread {E : am_E} {S : am_S} {Q : am_O → am_S → am_I → Prop} (hL : am_Lay S) {i1 : Int32} {iv : am_I} {y : Int32 × am_I} (e : F_X10_soonBread i1 iv = some y) (h : Q (.inl (some (.int y.1))) S y.2) {d : Nat} (hd : 5 ≤ d) : am_M E d mX10_soonBread 0 0 [.ref 54, .int i1] S iv Q := by
  refine am_enter (js := [.double 0]) rfl pn_X10 rfl rfl rfl (Nat.le_of_ble_eq_true rfl) (am_R.deep ?_ hd)
  replace e := am_o1_i e; obtain ⟨w1, e1, e⟩ := e
  replace e := am_o1_i e; obtain ⟨v2, e2, e⟩ := e
  refine (sX10_soonBread_0 rfl (sX10_soonBread_1 (sX10_soonBread_2 (hL.1 _ _ rfl) (Nat.le_of_ble_eq_true rfl) (R_X10_seek hL (h := (sX10_soonBread_5 rfl (sX10_soonBread_6 (sX10_soonBread_7 (sX10_soonBread_8 (hL.1 _ _ rfl) (Nat.le_of_ble_eq_true rfl) (R_X10_soonest hL (h := (sX10_soonBread_11 (sX10_soonBread_12 (sX10_soonBread_13 ?_)))) (hd := (Nat.le_of_ble_eq_true rfl)) (e := e2))))))) (hd := (Nat.le_of_ble_eq_true rfl)) (e := e1)))))
  refine sX10_soonBread_14 (fun hbr => ?_) (fun hbr => ?_)
  · replace e := am_neg hbr e
    replace e := am_ckv e; obtain ⟨c3, e⟩ := e
    refine (sX10_soonBread_21 rfl (sX10_soonBread_22 (hL.1 _ _ rfl) (hL.2.1 _ _ _ rfl) (sX10_soonBread_25 (sX10_soonBread_26 (hL.1 _ _ rfl) c3 (sX10_soonBread_27 ?_)))))
    obtain rfl := Option.some.inj e
    exact h
  · replace e := am_pos hbr e
    refine (sX10_soonBread_17 (sX10_soonBread_18 (sX10_soonBread_27 ?_)))
    obtain rfl := Option.some.inj e
    exact h
theorem R_X10_soonBread {E : am_E} {S : am_S} {Q : am_O → am_S → am_I → Prop} (hL : am_Lay S) {i1 : Int32} {iv : am_I} {v' : Int32} {iv' : am_I} (e : F_X10_soonBread i1 iv = some (v', iv')) (h : Q (.inl (some (.int v'))) S iv') {d : Nat} (hd : 5 ≤ d) : am_M E d mX10_soonBread 0 0 [.ref 54, .int i1] S iv Q :=
  YR_X10_soonBread hL e h hd
def J_X10_married_21 (iv : am_I) : Option (Int32 × am_I) :=
  (am_o2 (F_X10_fail (1 : Int32) iv) fun v2 w2 => some (v2, w2))
theorem j_X10_married_21 {E : am_E} {S : am_S} {Q : am_O → am_S → am_I → Prop} (hL : am_Lay S) {z1 z2 z3 z4 z5 z6 z7 : Value} {iv : am_I} {y : Int32 × am_I} (e : J_X10_married_21  iv = some y) (h : Q (.inl (some (.int y.1))) S y.2) : am_R E 6 mX10_married 0 0 21 [.ref 54, z1, z2, z3, z4, z5, z6, z7] [] S iv Q := by
  replace e := am_o2_i e; obtain ⟨v2, w2, e2, e⟩ := e
  refine (sX10_married_21 rfl (sX10_married_22 (sX10_married_23 (hL.1 _ _ rfl) (Nat.le_of_ble_eq_true rfl) (R_X10_fail hL (h := (sX10_married_26 ?_)) (hd := (Nat.le_of_ble_eq_true rfl)) (e := e2)))))
  obtain rfl := Option.some.inj e
  exact h
def B_X10_married_125 (i1 : Int32) (i2 : Int32) (i3 : Int32) (i4 : Int32) (i5 : Int32) (i6 : Int32) (iv : am_I) : Option ((Int32 × am_I) ⊕ (am_I)) :=
  (if (5 : Int32) ≤ i6 then some (.inr iv) else (if vp_b i6 10 then (if vp_b i6 5 then (if vp_b i6 10 then (if ((am_w iv 83 i6.toNatClampNeg (iv 64 i6.toNatClampNeg)) 64 i6.toNatClampNeg) = i2 then (if vp_b i6 10 then some (.inl ((i6 + 1), (am_w (am_w iv 83 i6.toNatClampNeg (iv 64 i6.toNatClampNeg)) 64 i6.toNatClampNeg i1))) else none) else some (.inl ((i6 + 1), (am_w iv 83 i6.toNatClampNeg (iv 64 i6.toNatClampNeg))))) else none) else none) else none))
theorem b_X10_married_125 {E : am_E} {S : am_S} {Q : am_O → am_S → am_I → Prop} (hL : am_Lay S) {z7 : Value} {i1 i2 i3 i4 i5 i6 : Int32} {iv : am_I} {y : (Int32 × am_I) ⊕ (am_I)} (e : B_X10_married_125 i1 i2 i3 i4 i5 i6 iv = some y) (hc : ∀ s, y = .inl s → ∀ z7 : Value, am_R E 6 mX10_married 0 0 125 [.ref 54, .int i1, .int i2, .int i3, .int i4, .int i5, .int s.1, z7] [] S s.2 Q) (hx : ∀ a, y = .inr a → ∀ z6 z7 : Value, am_R E 6 mX10_married 0 0 170 [.ref 54, .int i1, .int i2, .int i3, .int i4, .int i5, z6, z7] [] S a Q) : am_R E 6 mX10_married 0 0 125 [.ref 54, .int i1, .int i2, .int i3, .int i4, .int i5, .int i6, z7] [] S iv Q := by
  refine (sX10_married_125 (sX10_married_127 ?_))
  refine sX10_married_128 (fun hbr => ?_) (fun hbr => ?_)
  · replace e := am_pos hbr e
    exact hx _ (Option.some.inj e).symm _ _
  · replace e := am_neg hbr e
    replace e := am_ckv e; obtain ⟨c14, e⟩ := e
    replace e := am_ckv e; obtain ⟨c15, e⟩ := e
    replace e := am_ckv e; obtain ⟨c16, e⟩ := e
    refine (sX10_married_131 rfl (sX10_married_132 (hL.1 _ _ rfl) (hL.2.1 _ _ _ rfl) (sX10_married_135 (sX10_married_137 rfl (sX10_married_138 (hL.1 _ _ rfl) (hL.2.1 _ _ _ rfl) (sX10_married_141 (sX10_married_143 (hL.1 _ _ rfl) c14 (sX10_married_144 (hL.1 _ _ rfl) c15 (sX10_married_145 rfl (sX10_married_146 (hL.1 _ _ rfl) (hL.2.1 _ _ _ rfl) (sX10_married_149 (sX10_married_151 (hL.1 _ _ rfl) c16 (sX10_married_152 ?_)))))))))))))
    refine sX10_married_153 (fun hbr => ?_) (fun hbr => ?_)
    · replace e := am_neg hbr e
      refine (sX10_married_164 (sX10_married_167 ?_))
      exact hc _ (Option.some.inj e).symm _
    · replace e := am_pos hbr e
      replace e := am_ckv e; obtain ⟨c17, e⟩ := e
      refine (sX10_married_156 rfl (sX10_married_157 (hL.1 _ _ rfl) (hL.2.1 _ _ _ rfl) (sX10_married_160 (sX10_married_162 (sX10_married_163 (hL.1 _ _ rfl) c17 (sX10_married_164 (sX10_married_167 ?_)))))))
      exact hc _ (Option.some.inj e).symm _
theorem l_X10_married_125 {E : am_E} {S : am_S} {Q : am_O → am_S → am_I → Prop} (hL : am_Lay S) {i1 i2 i3 i4 i5 : Int32} (s : (Int32 × am_I)) {x : (am_I)} (e : am_loop (fun s : (Int32 × am_I) => B_X10_married_125 i1 i2 i3 i4 i5 s.1 s.2) s = some x) (hx : ∀ z6 z7 : Value, am_R E 6 mX10_married 0 0 170 [.ref 54, .int i1, .int i2, .int i3, .int i4, .int i5, z6, z7] [] S x Q) : ∀ z7 : Value, am_R E 6 mX10_married 0 0 125 [.ref 54, .int i1, .int i2, .int i3, .int i4, .int i5, .int s.1, z7] [] S s.2 Q :=
  am_wh_sound (f := fun s : (Int32 × am_I) => B_X10_married_125 i1 i2 i3 i4 i5 s.1 s.2) (P := fun s => ∀ z7 : Value, am_R E 6 mX10_married 0 0 125 [.ref 54, .int i1, .int i2, .int i3, .int i4, .int i5, .int s.1, z7] [] S s.2 Q) (K := fun x => ∀ z6 z7 : Value, am_R E 6 mX10_married 0 0 170 [.ref 54, .int i1, .int i2, .int i3, .int i4, .int i5, z6, z7] [] S x Q) (fun s y e hc hkk => fun z7 => b_X10_married_125 hL e hc (fun a hy => hkk a hy)) am_fu s x e hx
def B_X10_married_210 (i3 : Int32) (i6 : Int32) (i7 : Int32) (iv : am_I) : Option ((Int32 × am_I) ⊕ (am_I)) :=
  (if (5 : Int32) ≤ i7 then some (.inr iv) else (if vp_b i7 5 then (if vp_b i7 10 then some (.inl ((i7 + 1), (am_w iv 64 i7.toNatClampNeg (iv 83 i7.toNatClampNeg)))) else none) else none))
theorem b_X10_married_210 {E : am_E} {S : am_S} {Q : am_O → am_S → am_I → Prop} (hL : am_Lay S) {z1 z2 z4 z5 : Value} {i3 i6 i7 : Int32} {iv : am_I} {y : (Int32 × am_I) ⊕ (am_I)} (e : B_X10_married_210 i3 i6 i7 iv = some y) (hc : ∀ s, y = .inl s → ∀ z1 z2 z4 z5 : Value, am_R E 6 mX10_married 0 0 210 [.ref 54, z1, z2, .int i3, z4, z5, .int i6, .int s.1] [] S s.2 Q) (hx : ∀ a, y = .inr a → ∀ z0 z1 z2 z4 z5 z7 : Value, am_R E 6 mX10_married 0 0 236 [z0, z1, z2, .int i3, z4, z5, .int i6, z7] [] S a Q) : am_R E 6 mX10_married 0 0 210 [.ref 54, z1, z2, .int i3, z4, z5, .int i6, .int i7] [] S iv Q := by
  refine (sX10_married_210 (sX10_married_212 ?_))
  refine sX10_married_213 (fun hbr => ?_) (fun hbr => ?_)
  · replace e := am_pos hbr e
    exact hx _ (Option.some.inj e).symm _ _ _ _ _ _
  · replace e := am_neg hbr e
    replace e := am_ckv e; obtain ⟨c23, e⟩ := e
    replace e := am_ckv e; obtain ⟨c24, e⟩ := e
    refine (sX10_married_216 rfl (sX10_married_217 (hL.1 _ _ rfl) (hL.2.1 _ _ _ rfl) (sX10_married_220 (sX10_married_222 rfl (sX10_married_223 (hL.1 _ _ rfl) (hL.2.1 _ _ _ rfl) (sX10_married_226 (sX10_married_228 (hL.1 _ _ rfl) c23 (sX10_married_229 (hL.1 _ _ rfl) c24 (sX10_married_230 (sX10_married_233 ?_))))))))))
    exact hc _ (Option.some.inj e).symm _ _ _ _
theorem l_X10_married_210 {E : am_E} {S : am_S} {Q : am_O → am_S → am_I → Prop} (hL : am_Lay S) {i3 i6 : Int32} (s : (Int32 × am_I)) {x : (am_I)} (e : am_loop (fun s : (Int32 × am_I) => B_X10_married_210 i3 i6 s.1 s.2) s = some x) (hx : ∀ z0 z1 z2 z4 z5 z7 : Value, am_R E 6 mX10_married 0 0 236 [z0, z1, z2, .int i3, z4, z5, .int i6, z7] [] S x Q) : ∀ z1 z2 z4 z5 : Value, am_R E 6 mX10_married 0 0 210 [.ref 54, z1, z2, .int i3, z4, z5, .int i6, .int s.1] [] S s.2 Q :=
  am_wh_sound (f := fun s : (Int32 × am_I) => B_X10_married_210 i3 i6 s.1 s.2) (P := fun s => ∀ z1 z2 z4 z5 : Value, am_R E 6 mX10_married 0 0 210 [.ref 54, z1, z2, .int i3, z4, z5, .int i6, .int s.1] [] S s.2 Q) (K := fun x => ∀ z0 z1 z2 z4 z5 z7 : Value, am_R E 6 mX10_married 0 0 236 [z0, z1, z2, .int i3, z4, z5, .int i6, z7] [] S x Q) (fun s y e hc hkk => fun z1 z2 z4 z5 => b_X10_married_210 hL e hc (fun a hy => hkk a hy)) am_fu s x e hx
def J_X10_married_48 (i1 : Int32) (i2 : Int32) (k0 : Int32) (iv : am_I) : Option (Int32 × am_I) :=
  (if k0 = (-1 : Int32) then some ((-101 : Int32), iv) else (if vp_b i1 20 then (if vp_b i1 20 then (if vp_b i1 20 then (if vp_b i2 20 then (if vp_b i1 20 then (if vp_b i1 20 then (if vp_b i2 20 then (if vp_b i1 20 then (if vp_b i1 20 then (am_o1 (am_loop (fun s : (Int32 × am_I) => B_X10_married_125 i1 i2 k0 (iv 60 i1.toNatClampNeg) (iv 62 i1.toNatClampNeg) s.1 s.2) ((0 : Int32), (am_w (am_w (am_w iv 60 i1.toNatClampNeg (if (iv 60 i2.toNatClampNeg) < (iv 60 i1.toNatClampNeg) then (iv 60 i2.toNatClampNeg) else (iv 60 i1.toNatClampNeg))) 62 i1.toNatClampNeg (if ((am_w iv 60 i1.toNatClampNeg (if (iv 60 i2.toNatClampNeg) < (iv 60 i1.toNatClampNeg) then (iv 60 i2.toNatClampNeg) else (iv 60 i1.toNatClampNeg))) 62 i1.toNatClampNeg) < ((am_w iv 60 i1.toNatClampNeg (if (iv 60 i2.toNatClampNeg) < (iv 60 i1.toNatClampNeg) then (iv 60 i2.toNatClampNeg) else (iv 60 i1.toNatClampNeg))) 62 i2.toNatClampNeg) then ((am_w iv 60 i1.toNatClampNeg (if (iv 60 i2.toNatClampNeg) < (iv 60 i1.toNatClampNeg) then (iv 60 i2.toNatClampNeg) else (iv 60 i1.toNatClampNeg))) 62 i2.toNatClampNeg) else ((am_w iv 60 i1.toNatClampNeg (if (iv 60 i2.toNatClampNeg) < (iv 60 i1.toNatClampNeg) then (iv 60 i2.toNatClampNeg) else (iv 60 i1.toNatClampNeg))) 62 i1.toNatClampNeg))) 63 i1.toNatClampNeg (1 : Int32)))) fun a18 => (am_o2 (F_X10_soonBread ((a18 54 30) ||| ((1 : Int32) <<< (i2 &&& 31))) a18) fun v19 w19 => (if vp_b i1 20 then (if vp_b i1 20 then (if vp_b i1 20 then (am_o1 (am_loop (fun s : (Int32 × am_I) => B_X10_married_210 k0 v19 s.1 s.2) ((0 : Int32), (am_w (am_w (am_w w19 60 i1.toNatClampNeg (iv 60 i1.toNatClampNeg)) 62 i1.toNatClampNeg (iv 62 i1.toNatClampNeg)) 63 i1.toNatClampNeg (0 : Int32)))) fun a25 => (if v19 = (-1 : Int32) then some ((-101 : Int32), a25) else some ((v19 - k0), a25))) else none) else none) else none))) else none) else none) else none) else none) else none) else none) else none) else none) else none))
theorem j_X10_married_48 {E : am_E} {S : am_S} {Q : am_O → am_S → am_I → Prop} (hL : am_Lay S) {z3 z4 z5 z6 z7 : Value} {i1 i2 k0 : Int32} {iv : am_I} {y : Int32 × am_I} (e : J_X10_married_48 i1 i2 k0 iv = some y) (h : Q (.inl (some (.int y.1))) S y.2) : am_R E 6 mX10_married 0 0 48 [.ref 54, .int i1, .int i2, z3, z4, z5, z6, z7] [.int k0] S iv Q := by
  refine (sX10_married_48 (sX10_married_49 (sX10_married_50 ?_)))
  refine sX10_married_51 (fun hbr => ?_) (fun hbr => ?_)
  · replace e := am_neg hbr e
    replace e := am_ckv e; obtain ⟨c5, e⟩ := e
    replace e := am_ckv e; obtain ⟨c6, e⟩ := e
    replace e := am_ckv e; obtain ⟨c7, e⟩ := e
    replace e := am_ckv e; obtain ⟨c8, e⟩ := e
    replace e := am_ckv e; obtain ⟨c9, e⟩ := e
    replace e := am_ckv e; obtain ⟨c10, e⟩ := e
    replace e := am_ckv e; obtain ⟨c11, e⟩ := e
    replace e := am_ckv e; obtain ⟨c12, e⟩ := e
    replace e := am_ckv e; obtain ⟨c13, e⟩ := e
    refine (sX10_married_57 rfl (sX10_married_58 (hL.1 _ _ rfl) (hL.2.1 _ _ _ rfl) (sX10_married_61 (sX10_married_62 (hL.1 _ _ rfl) c5 (sX10_married_63 (sX10_married_65 rfl (sX10_married_66 (hL.1 _ _ rfl) (hL.2.1 _ _ _ rfl) (sX10_married_69 (sX10_married_70 (hL.1 _ _ rfl) c6 (sX10_married_71 (sX10_married_73 rfl (sX10_married_74 (hL.1 _ _ rfl) (hL.2.1 _ _ _ rfl) (sX10_married_77 (sX10_married_78 rfl (sX10_married_79 (hL.1 _ _ rfl) (hL.2.1 _ _ _ rfl) (sX10_married_82 (sX10_married_83 (hL.1 _ _ rfl) c7 (sX10_married_84 rfl (sX10_married_85 (hL.1 _ _ rfl) (hL.2.1 _ _ _ rfl) (sX10_married_88 (sX10_married_89 (hL.1 _ _ rfl) c8 (sX10_married_90 (Nat.le_of_ble_eq_true rfl) (J_min (sX10_married_93 (hL.1 _ _ rfl) c9 (sX10_married_94 rfl (sX10_married_95 (hL.1 _ _ rfl) (hL.2.1 _ _ _ rfl) (sX10_married_98 (sX10_married_99 rfl (sX10_married_100 (hL.1 _ _ rfl) (hL.2.1 _ _ _ rfl) (sX10_married_103 (sX10_married_104 (hL.1 _ _ rfl) c10 (sX10_married_105 rfl (sX10_married_106 (hL.1 _ _ rfl) (hL.2.1 _ _ _ rfl) (sX10_married_109 (sX10_married_110 (hL.1 _ _ rfl) c11 (sX10_married_111 (Nat.le_of_ble_eq_true rfl) (J_max (sX10_married_114 (hL.1 _ _ rfl) c12 (sX10_married_115 rfl (sX10_married_116 (hL.1 _ _ rfl) (hL.2.1 _ _ _ rfl) (sX10_married_119 (sX10_married_120 (sX10_married_121 (hL.1 _ _ rfl) c13 (sX10_married_122 (sX10_married_123 ?_)))))))))))))))))))))))))))))))))))))))))))))
    replace e := am_o1_i e; obtain ⟨a18, e18, e⟩ := e
    refine l_X10_married_125 hL _ e18 ?_ _
    intro z6 z7
    replace e := am_o2_i e; obtain ⟨v19, w19, e19, e⟩ := e
    replace e := am_ckv e; obtain ⟨c20, e⟩ := e
    replace e := am_ckv e; obtain ⟨c21, e⟩ := e
    replace e := am_ckv e; obtain ⟨c22, e⟩ := e
    refine (sX10_married_170 rfl (sX10_married_171 rfl (sX10_married_172 (hL.1 _ _ rfl) (sX10_married_175 (sX10_married_176 (sX10_married_177 (sX10_married_178 (sX10_married_179 (hL.1 _ _ rfl) (Nat.le_of_ble_eq_true rfl) (R_X10_soonBread hL (h := (sX10_married_182 (sX10_married_184 rfl (sX10_married_185 (hL.1 _ _ rfl) (hL.2.1 _ _ _ rfl) (sX10_married_188 (sX10_married_189 (sX10_married_191 (hL.1 _ _ rfl) c20 (sX10_married_192 rfl (sX10_married_193 (hL.1 _ _ rfl) (hL.2.1 _ _ _ rfl) (sX10_married_196 (sX10_married_197 (sX10_married_199 (hL.1 _ _ rfl) c21 (sX10_married_200 rfl (sX10_married_201 (hL.1 _ _ rfl) (hL.2.1 _ _ _ rfl) (sX10_married_204 (sX10_married_205 (sX10_married_206 (hL.1 _ _ rfl) c22 (sX10_married_207 (sX10_married_208 ?_))))))))))))))))))) (hd := (Nat.le_of_ble_eq_true rfl)) (e := e19))))))))))
    replace e := am_o1_i e; obtain ⟨a25, e25, e⟩ := e
    refine l_X10_married_210 hL _ e25 ?_ _ _ _ _
    intro z0 z1 z2 z4 z5 z7
    refine (sX10_married_236 (sX10_married_238 ?_))
    refine sX10_married_239 (fun hbr => ?_) (fun hbr => ?_)
    · replace e := am_neg hbr e
      refine (sX10_married_247 (sX10_married_249 (sX10_married_250 (sX10_married_251 ?_))))
      obtain rfl := Option.some.inj e
      exact h
    · replace e := am_pos hbr e
      refine (sX10_married_242 (sX10_married_244 (sX10_married_251 ?_)))
      obtain rfl := Option.some.inj e
      exact h
  · replace e := am_pos hbr e
    refine (sX10_married_54 (sX10_married_56 ?_))
    obtain rfl := Option.some.inj e
    exact h
def F_X10_married (i1 : Int32) (i2 : Int32) (iv : am_I) : Option (Int32 × am_I) :=
  (am_o1 (F_X10_isDrawer i1 (am_w iv 54 3 (0 : Int32))) fun v1 => (if v1 = 0 then J_X10_married_21  (am_w iv 54 3 (0 : Int32)) else (am_o1 (F_X10_isDrawer i2 (am_w iv 54 3 (0 : Int32))) fun v3 => (if v3 = 0 then J_X10_married_21  (am_w iv 54 3 (0 : Int32)) else (am_o1 (F_X10_canMarry i1 i2 (am_w iv 54 3 (0 : Int32))) fun v4 => (if v4 = 0 then J_X10_married_48 i1 i2 (-1 : Int32) (am_w iv 54 3 (0 : Int32)) else (am_o2 (F_X10_soonBread ((am_w iv 54 3 (0 : Int32)) 54 30) (am_w iv 54 3 (0 : Int32))) fun v26 w26 => J_X10_married_48 i1 i2 v26 w26)))))))
theorem YR_X10_married {E : am_E} {S : am_S} {Q : am_O → am_S → am_I → Prop} (hL : am_Lay S) {i1 i2 : Int32} {iv : am_I} {y : Int32 × am_I} (e : F_X10_married i1 i2 iv = some y) (h : Q (.inl (some (.int y.1))) S y.2) {d : Nat} (hd : 6 ≤ d) : am_M E d mX10_married 0 0 [.ref 54, .int i1, .int i2] S iv Q := by
  refine am_enter (js := [.double 0, .double 0, .double 0, .double 0, .double 0]) rfl pn_X10 rfl rfl rfl (Nat.le_of_ble_eq_true rfl) (am_R.deep ?_ hd)
  replace e := am_o1_i e; obtain ⟨v1, e1, e⟩ := e
  refine (sX10_married_0 rfl (sX10_married_1 (sX10_married_2 (hL.1 _ _ rfl) (sX10_married_5 rfl (sX10_married_6 (sX10_married_7 (hL.1 _ _ rfl) (Nat.le_of_ble_eq_true rfl) (R_X10_isDrawer hL (h := ?_) (hd := (Nat.le_of_ble_eq_true rfl)) (e := e1))))))))
  refine sX10_married_10 (fun hbr => ?_) (fun hbr => ?_)
  · replace e := am_pos hbr e
    exact j_X10_married_21 hL e h
  · replace e := am_neg hbr e
    replace e := am_o1_i e; obtain ⟨v3, e3, e⟩ := e
    refine (sX10_married_13 rfl (sX10_married_14 (sX10_married_15 (hL.1 _ _ rfl) (Nat.le_of_ble_eq_true rfl) (R_X10_isDrawer hL (h := ?_) (hd := (Nat.le_of_ble_eq_true rfl)) (e := e3)))))
    refine sX10_married_18 (fun hbr => ?_) (fun hbr => ?_)
    · replace e := am_neg hbr e
      replace e := am_o1_i e; obtain ⟨v4, e4, e⟩ := e
      refine (sX10_married_27 rfl (sX10_married_28 (sX10_married_29 (sX10_married_30 (hL.1 _ _ rfl) (Nat.le_of_ble_eq_true rfl) (R_X10_canMarry hL (h := ?_) (hd := (Nat.le_of_ble_eq_true rfl)) (e := e4))))))
      refine sX10_married_33 (fun hbr => ?_) (fun hbr => ?_)
      · replace e := am_pos hbr e
        refine (sX10_married_47 ?_)
        exact j_X10_married_48 hL e h
      · replace e := am_neg hbr e
        replace e := am_o2_i e; obtain ⟨v26, w26, e26, e⟩ := e
        refine (sX10_married_36 rfl (sX10_married_37 rfl (sX10_married_38 (hL.1 _ _ rfl) (sX10_married_41 (hL.1 _ _ rfl) (Nat.le_of_ble_eq_true rfl) (R_X10_soonBread hL (h := (sX10_married_44 ?_)) (hd := (Nat.le_of_ble_eq_true rfl)) (e := e26))))))
        exact j_X10_married_48 hL e h
    · replace e := am_pos hbr e
      exact j_X10_married_21 hL e h
theorem R_X10_married {E : am_E} {S : am_S} {Q : am_O → am_S → am_I → Prop} (hL : am_Lay S) {i1 i2 : Int32} {iv : am_I} {v' : Int32} {iv' : am_I} (e : F_X10_married i1 i2 iv = some (v', iv')) (h : Q (.inl (some (.int v'))) S iv') {d : Nat} (hd : 6 ≤ d) : am_M E d mX10_married 0 0 [.ref 54, .int i1, .int i2] S iv Q :=
  YR_X10_married hL e h hd
def B_X10_rent_9 (iv : am_I) (i1 : Int32) (i2 : Int32) : Option ((Int32 × Int32) ⊕ (Int32)) :=
  (if (iv 58 (2 : Int32).toNatClampNeg) ≤ i2 then some (.inr i1) else (am_o1 (F_X10_rentOf i2 iv) fun v1 => some (.inl ((i1 + v1), (i2 + 1)))))
theorem b_X10_rent_9 {E : am_E} {S : am_S} {Q : am_O → am_S → am_I → Prop} (hL : am_Lay S) {i1 i2 : Int32} {iv : am_I} {y : (Int32 × Int32) ⊕ (Int32)} (e : B_X10_rent_9 iv i1 i2 = some y) (hc : ∀ s, y = .inl s → am_R E 1 mX10_rent 0 0 9 [.ref 54, .int s.1, .int s.2] [] S iv Q) (hx : ∀ a, y = .inr a → ∀ z0 z2 : Value, am_R E 1 mX10_rent 0 0 33 [z0, .int a, z2] [] S iv Q) : am_R E 1 mX10_rent 0 0 9 [.ref 54, .int i1, .int i2] [] S iv Q := by
  refine (sX10_rent_9 (sX10_rent_10 rfl (sX10_rent_11 (hL.1 _ _ rfl) (hL.2.1 _ _ _ rfl) (sX10_rent_14 (sX10_rent_15 (hL.1 _ _ rfl) (vp_lit (by decide)) ?_)))))
  refine sX10_rent_16 (fun hbr => ?_) (fun hbr => ?_)
  · replace e := am_pos hbr e
    exact hx _ (Option.some.inj e).symm _ _
  · replace e := am_neg hbr e
    replace e := am_o1_i e; obtain ⟨v1, e1, e⟩ := e
    refine (sX10_rent_19 (sX10_rent_20 rfl (sX10_rent_21 (sX10_rent_22 (hL.1 _ _ rfl) (Nat.le_of_ble_eq_true rfl) (R_X10_rentOf hL (h := (sX10_rent_25 (sX10_rent_26 (sX10_rent_27 (sX10_rent_30 ?_))))) (hd := (Nat.le_of_ble_eq_true rfl)) (e := e1))))))
    exact hc _ (Option.some.inj e).symm
theorem l_X10_rent_9 {E : am_E} {S : am_S} {Q : am_O → am_S → am_I → Prop} (hL : am_Lay S) {iv : am_I} (s : (Int32 × Int32)) {x : (Int32)} (e : am_loop (fun s : (Int32 × Int32) => B_X10_rent_9 iv s.1 s.2) s = some x) (hx : ∀ z0 z2 : Value, am_R E 1 mX10_rent 0 0 33 [z0, .int x, z2] [] S iv Q) : am_R E 1 mX10_rent 0 0 9 [.ref 54, .int s.1, .int s.2] [] S iv Q :=
  am_wh_sound (f := fun s : (Int32 × Int32) => B_X10_rent_9 iv s.1 s.2) (P := fun s => am_R E 1 mX10_rent 0 0 9 [.ref 54, .int s.1, .int s.2] [] S iv Q) (K := fun x => ∀ z0 z2 : Value, am_R E 1 mX10_rent 0 0 33 [z0, .int x, z2] [] S iv Q) (fun s y e hc hkk => b_X10_rent_9 hL e hc (fun a hy => hkk a hy)) am_fu s x e hx
def F_X10_rent (iv : am_I) : Option (Int32 × am_I) :=
  (am_o1 (am_loop (fun s : (Int32 × Int32) => B_X10_rent_9 (am_w iv 54 3 (0 : Int32)) s.1 s.2) ((0 : Int32), (0 : Int32))) fun a2 => some (a2, (am_w iv 54 3 (0 : Int32))))
theorem YR_X10_rent {E : am_E} {S : am_S} {Q : am_O → am_S → am_I → Prop} (hL : am_Lay S) {iv : am_I} {y : Int32 × am_I} (e : F_X10_rent  iv = some y) (h : Q (.inl (some (.int y.1))) S y.2) {d : Nat} (hd : 1 ≤ d) : am_M E d mX10_rent 0 0 [.ref 54] S iv Q := by
  refine am_enter (js := [.double 0, .double 0]) rfl pn_X10 rfl rfl rfl (Nat.le_of_ble_eq_true rfl) (am_R.deep ?_ hd)
  refine (sX10_rent_0 rfl (sX10_rent_1 (sX10_rent_2 (hL.1 _ _ rfl) (sX10_rent_5 (sX10_rent_6 (sX10_rent_7 (sX10_rent_8 ?_)))))))
  replace e := am_o1_i e; obtain ⟨a2, e2, e⟩ := e
  refine l_X10_rent_9 hL _ e2 ?_
  intro z0 z2
  refine (sX10_rent_33 (sX10_rent_34 ?_))
  obtain rfl := Option.some.inj e
  exact h
theorem R_X10_rent {E : am_E} {S : am_S} {Q : am_O → am_S → am_I → Prop} (hL : am_Lay S) {iv : am_I} {v' : Int32} {iv' : am_I} (e : F_X10_rent  iv = some (v', iv')) (h : Q (.inl (some (.int v'))) S iv') {d : Nat} (hd : 1 ≤ d) : am_M E d mX10_rent 0 0 [.ref 54] S iv Q :=
  YR_X10_rent hL e h hd
def B_X10_wind_40 (i2 : Int32) (i4 : Int32) (i3 : Int32) (i5 : Int32) (iv : am_I) : Option ((Int32 × Int32 × am_I) ⊕ (Int32 × am_I)) :=
  (if (iv 58 (2 : Int32).toNatClampNeg) ≤ i5 then some (.inr (i3, iv)) else (am_o1 (F_X10_has (iv 54 29) i5 iv) fun v2 => (if v2 = 0 then some (.inl (i3, (i5 + 1), iv)) else (if vp_b i5 20 then (if (((((am_w iv 54 47 (((iv 54 47) * (1103515245 : Int32)) + (12345 : Int32))) 54 47) >>> ((16 : Int32) &&& 31)) &&& (32767 : Int32)) - ((((am_w iv 54 47 (((iv 54 47) * (1103515245 : Int32)) + (12345 : Int32))) 54 47) >>> ((16 : Int32) &&& 31)) &&& (32767 : Int32)) / (1000 : Int32) * (1000 : Int32)) < (((am_w iv 54 47 (((iv 54 47) * (1103515245 : Int32)) + (12345 : Int32))) 58 (9 : Int32).toNatClampNeg) * ((am_w iv 54 47 (((iv 54 47) * (1103515245 : Int32)) + (12345 : Int32))) 62 i5.toNatClampNeg)) then (am_o1 (F_X10_slam i5 (am_w iv 54 47 (((iv 54 47) * (1103515245 : Int32)) + (12345 : Int32)))) fun w4 => some (.inl ((i3 + 1), (i5 + 1), w4))) else some (.inl (i3, (i5 + 1), (am_w iv 54 47 (((iv 54 47) * (1103515245 : Int32)) + (12345 : Int32)))))) else none))))
theorem b_X10_wind_40 {E : am_E} {S : am_S} {Q : am_O → am_S → am_I → Prop} (hL : am_Lay S) {z1 : Value} {i2 i4 i3 i5 : Int32} {iv : am_I} {y : (Int32 × Int32 × am_I) ⊕ (Int32 × am_I)} (e : B_X10_wind_40 i2 i4 i3 i5 iv = some y) (hc : ∀ s, y = .inl s → ∀ z1 : Value, am_R E 2 mX10_wind 0 0 40 [.ref 54, z1, .int i2, .int s.1, .int i4, .int s.2.1] [] S s.2.2 Q) (hx : ∀ a, y = .inr a → ∀ z1 z5 : Value, am_R E 2 mX10_wind 0 0 133 [.ref 54, z1, .int i2, .int a.1, .int i4, z5] [] S a.2 Q) : am_R E 2 mX10_wind 0 0 40 [.ref 54, z1, .int i2, .int i3, .int i4, .int i5] [] S iv Q := by
  refine (sX10_wind_40 (sX10_wind_42 rfl (sX10_wind_43 (hL.1 _ _ rfl) (hL.2.1 _ _ _ rfl) (sX10_wind_46 (sX10_wind_47 (hL.1 _ _ rfl) (vp_lit (by decide)) ?_)))))
  refine sX10_wind_48 (fun hbr => ?_) (fun hbr => ?_)
  · replace e := am_pos hbr e
    exact hx _ (Option.some.inj e).symm _ _
  · replace e := am_neg hbr e
    replace e := am_o1_i e; obtain ⟨v2, e2, e⟩ := e
    refine (sX10_wind_51 rfl (sX10_wind_52 (hL.1 _ _ rfl) (sX10_wind_55 (sX10_wind_57 (Nat.le_of_ble_eq_true rfl) (R_X10_has (h := ?_) (hd := (Nat.le_of_ble_eq_true rfl)) (e := e2))))))
    refine sX10_wind_60 (fun hbr => ?_) (fun hbr => ?_)
    · replace e := am_neg hbr e
      replace e := am_ckv e; obtain ⟨c3, e⟩ := e
      refine (sX10_wind_66 rfl (sX10_wind_67 rfl (sX10_wind_68 (hL.1 _ _ rfl) (sX10_wind_71 (sX10_wind_74 (sX10_wind_75 (sX10_wind_78 (sX10_wind_79 (hL.1 _ _ rfl) (sX10_wind_82 rfl (sX10_wind_83 (hL.1 _ _ rfl) (sX10_wind_86 (sX10_wind_88 (sX10_wind_89 (sX10_wind_92 (sX10_wind_93 (sX10_wind_96 (by decide) (sX10_wind_97 rfl (sX10_wind_98 (hL.1 _ _ rfl) (hL.2.1 _ _ _ rfl) (sX10_wind_101 (sX10_wind_103 (hL.1 _ _ rfl) (vp_lit (by decide)) (sX10_wind_104 rfl (sX10_wind_105 (hL.1 _ _ rfl) (hL.2.1 _ _ _ rfl) (sX10_wind_108 (sX10_wind_110 (hL.1 _ _ rfl) c3 (sX10_wind_111 ?_)))))))))))))))))))))))))
      refine sX10_wind_112 (fun hbr => ?_) (fun hbr => ?_)
      · replace e := am_pos hbr e
        replace e := am_o1_i e; obtain ⟨w4, e4, e⟩ := e
        refine (sX10_wind_118 rfl (sX10_wind_119 (sX10_wind_121 (hL.1 _ _ rfl) (Nat.le_of_ble_eq_true rfl) (R_X10_slam hL (h := (sX10_wind_124 (sX10_wind_127 (sX10_wind_130 ?_)))) (hd := (Nat.le_of_ble_eq_true rfl)) (e := e4)))))
        exact hc _ (Option.some.inj e).symm _
      · replace e := am_neg hbr e
        refine (sX10_wind_115 (sX10_wind_127 (sX10_wind_130 ?_)))
        exact hc _ (Option.some.inj e).symm _
    · replace e := am_pos hbr e
      refine (sX10_wind_63 (sX10_wind_127 (sX10_wind_130 ?_)))
      exact hc _ (Option.some.inj e).symm _
theorem l_X10_wind_40 {E : am_E} {S : am_S} {Q : am_O → am_S → am_I → Prop} (hL : am_Lay S) {i2 i4 : Int32} (s : (Int32 × Int32 × am_I)) {x : (Int32 × am_I)} (e : am_loop (fun s : (Int32 × Int32 × am_I) => B_X10_wind_40 i2 i4 s.1 s.2.1 s.2.2) s = some x) (hx : ∀ z1 z5 : Value, am_R E 2 mX10_wind 0 0 133 [.ref 54, z1, .int i2, .int x.1, .int i4, z5] [] S x.2 Q) : ∀ z1 : Value, am_R E 2 mX10_wind 0 0 40 [.ref 54, z1, .int i2, .int s.1, .int i4, .int s.2.1] [] S s.2.2 Q :=
  am_wh_sound (f := fun s : (Int32 × Int32 × am_I) => B_X10_wind_40 i2 i4 s.1 s.2.1 s.2.2) (P := fun s => ∀ z1 : Value, am_R E 2 mX10_wind 0 0 40 [.ref 54, z1, .int i2, .int s.1, .int i4, .int s.2.1] [] S s.2.2 Q) (K := fun x => ∀ z1 z5 : Value, am_R E 2 mX10_wind 0 0 133 [.ref 54, z1, .int i2, .int x.1, .int i4, z5] [] S x.2 Q) (fun s y e hc hkk => fun z1 => b_X10_wind_40 hL e hc (fun a hy => hkk a hy)) am_fu s x e hx
def B_X10_wind_31 (i2 : Int32) (i3 : Int32) (i4 : Int32) (iv : am_I) : Option ((Int32 × Int32 × am_I) ⊕ (Int32 × am_I)) :=
  (if i2 ≤ i4 then some (.inr (i3, iv)) else (am_o1 (am_loop (fun s : (Int32 × Int32 × am_I) => B_X10_wind_40 i2 i4 s.1 s.2.1 s.2.2) (i3, (0 : Int32), iv)) fun a5 => some (.inl (a5.1, (i4 + 1), a5.2))))
theorem b_X10_wind_31 {E : am_E} {S : am_S} {Q : am_O → am_S → am_I → Prop} (hL : am_Lay S) {z1 z5 : Value} {i2 i3 i4 : Int32} {iv : am_I} {y : (Int32 × Int32 × am_I) ⊕ (Int32 × am_I)} (e : B_X10_wind_31 i2 i3 i4 iv = some y) (hc : ∀ s, y = .inl s → ∀ z1 z5 : Value, am_R E 2 mX10_wind 0 0 31 [.ref 54, z1, .int i2, .int s.1, .int s.2.1, z5] [] S s.2.2 Q) (hx : ∀ a, y = .inr a → ∀ z1 z4 z5 : Value, am_R E 2 mX10_wind 0 0 139 [.ref 54, z1, .int i2, .int a.1, z4, z5] [] S a.2 Q) : am_R E 2 mX10_wind 0 0 31 [.ref 54, z1, .int i2, .int i3, .int i4, z5] [] S iv Q := by
  refine (sX10_wind_31 (sX10_wind_33 ?_))
  refine sX10_wind_34 (fun hbr => ?_) (fun hbr => ?_)
  · replace e := am_pos hbr e
    exact hx _ (Option.some.inj e).symm _ _ _
  · replace e := am_neg hbr e
    refine (sX10_wind_37 (sX10_wind_38 ?_))
    replace e := am_o1_i e; obtain ⟨a5, e5, e⟩ := e
    refine l_X10_wind_40 hL _ e5 ?_ _
    intro z1 z5
    refine (sX10_wind_133 (sX10_wind_136 ?_))
    exact hc _ (Option.some.inj e).symm _ _
theorem l_X10_wind_31 {E : am_E} {S : am_S} {Q : am_O → am_S → am_I → Prop} (hL : am_Lay S) {i2 : Int32} (s : (Int32 × Int32 × am_I)) {x : (Int32 × am_I)} (e : am_loop (fun s : (Int32 × Int32 × am_I) => B_X10_wind_31 i2 s.1 s.2.1 s.2.2) s = some x) (hx : ∀ z1 z4 z5 : Value, am_R E 2 mX10_wind 0 0 139 [.ref 54, z1, .int i2, .int x.1, z4, z5] [] S x.2 Q) : ∀ z1 z5 : Value, am_R E 2 mX10_wind 0 0 31 [.ref 54, z1, .int i2, .int s.1, .int s.2.1, z5] [] S s.2.2 Q :=
  am_wh_sound (f := fun s : (Int32 × Int32 × am_I) => B_X10_wind_31 i2 s.1 s.2.1 s.2.2) (P := fun s => ∀ z1 z5 : Value, am_R E 2 mX10_wind 0 0 31 [.ref 54, z1, .int i2, .int s.1, .int s.2.1, z5] [] S s.2.2 Q) (K := fun x => ∀ z1 z4 z5 : Value, am_R E 2 mX10_wind 0 0 139 [.ref 54, z1, .int i2, .int x.1, z4, z5] [] S x.2 Q) (fun s y e hc hkk => fun z1 z5 => b_X10_wind_31 hL e hc (fun a hy => hkk a hy)) am_fu s x e hx
def F_X10_wind (i1 : Int32) (i2 : Int32) (iv : am_I) : Option (Int32 × am_I) :=
  (am_o1 (F_X10_isIn i2 (0 : Int32) (60 : Int32) (am_w iv 54 3 (0 : Int32))) fun v1 => (if v1 = 0 then (am_o2 (F_X10_fail (1 : Int32) (am_w iv 54 3 (0 : Int32))) fun v7 w7 => some (v7, w7)) else (am_o1 (am_loop (fun s : (Int32 × Int32 × am_I) => B_X10_wind_31 i2 s.1 s.2.1 s.2.2) ((0 : Int32), (0 : Int32), (am_w (am_w iv 54 3 (0 : Int32)) 54 47 i1))) fun a6 => (if i2 ≤ 0 then some (a6.1, a6.2) else some (a6.1, (am_w a6.2 54 32 (0 : Int32)))))))
theorem YR_X10_wind {E : am_E} {S : am_S} {Q : am_O → am_S → am_I → Prop} (hL : am_Lay S) {i1 i2 : Int32} {iv : am_I} {y : Int32 × am_I} (e : F_X10_wind i1 i2 iv = some y) (h : Q (.inl (some (.int y.1))) S y.2) {d : Nat} (hd : 2 ≤ d) : am_M E d mX10_wind 0 0 [.ref 54, .int i1, .int i2] S iv Q := by
  refine am_enter (js := [.double 0, .double 0, .double 0]) rfl pn_X10 rfl rfl rfl (Nat.le_of_ble_eq_true rfl) (am_R.deep ?_ hd)
  replace e := am_o1_i e; obtain ⟨v1, e1, e⟩ := e
  refine (sX10_wind_0 rfl (sX10_wind_1 (sX10_wind_2 (hL.1 _ _ rfl) (sX10_wind_5 (sX10_wind_6 (sX10_wind_7 (sX10_wind_9 (Nat.le_of_ble_eq_true rfl) (R_X10_isIn (h := ?_) (hd := (Nat.le_of_ble_eq_true rfl)) (e := e1)))))))))
  refine sX10_wind_12 (fun hbr => ?_) (fun hbr => ?_)
  · replace e := am_neg hbr e
    refine (sX10_wind_21 rfl (sX10_wind_22 (sX10_wind_23 (hL.1 _ _ rfl) (sX10_wind_26 (sX10_wind_27 (sX10_wind_28 (sX10_wind_29 ?_)))))))
    replace e := am_o1_i e; obtain ⟨a6, e6, e⟩ := e
    refine l_X10_wind_31 hL _ e6 ?_ _ _
    intro z1 z4 z5
    refine (sX10_wind_139 ?_)
    refine sX10_wind_140 (fun hbr => ?_) (fun hbr => ?_)
    · replace e := am_pos hbr e
      refine (sX10_wind_148 (sX10_wind_149 ?_))
      obtain rfl := Option.some.inj e
      exact h
    · replace e := am_neg hbr e
      refine (sX10_wind_143 rfl (sX10_wind_144 (sX10_wind_145 (hL.1 _ _ rfl) (sX10_wind_148 (sX10_wind_149 ?_)))))
      obtain rfl := Option.some.inj e
      exact h
  · replace e := am_pos hbr e
    replace e := am_o2_i e; obtain ⟨v7, w7, e7, e⟩ := e
    refine (sX10_wind_15 rfl (sX10_wind_16 (sX10_wind_17 (hL.1 _ _ rfl) (Nat.le_of_ble_eq_true rfl) (R_X10_fail hL (h := (sX10_wind_20 ?_)) (hd := (Nat.le_of_ble_eq_true rfl)) (e := e7)))))
    obtain rfl := Option.some.inj e
    exact h
theorem R_X10_wind {E : am_E} {S : am_S} {Q : am_O → am_S → am_I → Prop} (hL : am_Lay S) {i1 i2 : Int32} {iv : am_I} {v' : Int32} {iv' : am_I} (e : F_X10_wind i1 i2 iv = some (v', iv')) (h : Q (.inl (some (.int v'))) S iv') {d : Nat} (hd : 2 ≤ d) : am_M E d mX10_wind 0 0 [.ref 54, .int i1, .int i2] S iv Q :=
  YR_X10_wind hL e h hd
def F_X10_who (i1 : Int32) (iv : am_I) : Option (Int32 × am_I) :=
  (am_o1 (F_X10_isDrawer i1 (am_w iv 54 3 (0 : Int32))) fun v1 => (if v1 = 0 then (am_o2 (F_X10_fail (1 : Int32) (am_w iv 54 3 (0 : Int32))) fun v4 w4 => some (v4, w4)) else (am_o1 (F_X10_has ((am_w iv 54 3 (0 : Int32)) 54 29) i1 (am_w iv 54 3 (0 : Int32))) fun v2 => (if v2 = 0 then some ((-1 : Int32), (am_w iv 54 3 (0 : Int32))) else (am_o1 (F_X10_whoCould i1 (am_w iv 54 3 (0 : Int32))) fun v3 => some (v3, (am_w iv 54 3 (0 : Int32))))))))
theorem YR_X10_who {E : am_E} {S : am_S} {Q : am_O → am_S → am_I → Prop} (hL : am_Lay S) {i1 : Int32} {iv : am_I} {y : Int32 × am_I} (e : F_X10_who i1 iv = some y) (h : Q (.inl (some (.int y.1))) S y.2) {d : Nat} (hd : 3 ≤ d) : am_M E d mX10_who 0 0 [.ref 54, .int i1] S iv Q := by
  refine am_enter (js := []) rfl pn_X10 rfl rfl rfl (Nat.le_of_ble_eq_true rfl) (am_R.deep ?_ hd)
  replace e := am_o1_i e; obtain ⟨v1, e1, e⟩ := e
  refine (sX10_who_0 rfl (sX10_who_1 (sX10_who_2 (hL.1 _ _ rfl) (sX10_who_5 rfl (sX10_who_6 (sX10_who_7 (hL.1 _ _ rfl) (Nat.le_of_ble_eq_true rfl) (R_X10_isDrawer hL (h := ?_) (hd := (Nat.le_of_ble_eq_true rfl)) (e := e1))))))))
  refine sX10_who_10 (fun hbr => ?_) (fun hbr => ?_)
  · replace e := am_neg hbr e
    replace e := am_o1_i e; obtain ⟨v2, e2, e⟩ := e
    refine (sX10_who_21 rfl (sX10_who_22 (hL.1 _ _ rfl) (sX10_who_25 (sX10_who_26 (Nat.le_of_ble_eq_true rfl) (R_X10_has (h := ?_) (hd := (Nat.le_of_ble_eq_true rfl)) (e := e2))))))
    refine sX10_who_29 (fun hbr => ?_) (fun hbr => ?_)
    · replace e := am_pos hbr e
      refine (sX10_who_40 (sX10_who_41 ?_))
      obtain rfl := Option.some.inj e
      exact h
    · replace e := am_neg hbr e
      replace e := am_o1_i e; obtain ⟨v3, e3, e⟩ := e
      refine (sX10_who_32 rfl (sX10_who_33 (sX10_who_34 (hL.1 _ _ rfl) (Nat.le_of_ble_eq_true rfl) (R_X10_whoCould hL (h := (sX10_who_37 (sX10_who_41 ?_))) (hd := (Nat.le_of_ble_eq_true rfl)) (e := e3)))))
      obtain rfl := Option.some.inj e
      exact h
  · replace e := am_pos hbr e
    replace e := am_o2_i e; obtain ⟨v4, w4, e4, e⟩ := e
    refine (sX10_who_13 rfl (sX10_who_14 (sX10_who_15 (hL.1 _ _ rfl) (Nat.le_of_ble_eq_true rfl) (R_X10_fail hL (h := (sX10_who_18 (sX10_who_41 ?_))) (hd := (Nat.le_of_ble_eq_true rfl)) (e := e4)))))
    obtain rfl := Option.some.inj e
    exact h
theorem R_X10_who {E : am_E} {S : am_S} {Q : am_O → am_S → am_I → Prop} (hL : am_Lay S) {i1 : Int32} {iv : am_I} {v' : Int32} {iv' : am_I} (e : F_X10_who i1 iv = some (v', iv')) (h : Q (.inl (some (.int v'))) S iv') {d : Nat} (hd : 3 ≤ d) : am_M E d mX10_who 0 0 [.ref 54, .int i1] S iv Q :=
  YR_X10_who hL e h hd
def J_X10_odds_30 (iv : am_I) : Option (Int32 × am_I) :=
  (am_o2 (F_X10_fail (1 : Int32) iv) fun v2 w2 => some (v2, w2))
theorem j_X10_odds_30 {E : am_E} {S : am_S} {Q : am_O → am_S → am_I → Prop} (hL : am_Lay S) {z1 z2 z3 z4 z5 z6 z7 : Value} {iv : am_I} {y : Int32 × am_I} (e : J_X10_odds_30  iv = some y) (h : Q (.inl (some (.int y.1))) S y.2) : am_R E 3 mX10_odds 0 0 30 [.ref 54, z1, z2, z3, z4, z5, z6, z7] [] S iv Q := by
  replace e := am_o2_i e; obtain ⟨v2, w2, e2, e⟩ := e
  refine (sX10_odds_30 rfl (sX10_odds_31 (sX10_odds_32 (hL.1 _ _ rfl) (Nat.le_of_ble_eq_true rfl) (R_X10_fail hL (h := (sX10_odds_35 ?_)) (hd := (Nat.le_of_ble_eq_true rfl)) (e := e2)))))
  obtain rfl := Option.some.inj e
  exact h
def J_X10_odds_96 (i2 : Int32) (i3 : Int32) (i4 : Int32) (i6 : Int32) (k0 : Int32) (k1 : Int32) (iv : am_I) : Option ((Int32 × Int32) ⊕ (Int32)) :=
  some (.inl ((k0 + k1), (i6 + 1)))
theorem j_X10_odds_96 {E : am_E} {S : am_S} {Q : am_O → am_S → am_I → Prop} (hL : am_Lay S) {z1 z5 z7 : Value} {i2 i3 i4 i6 k0 k1 : Int32} {iv : am_I} {y : (Int32 × Int32) ⊕ (Int32)} (e : J_X10_odds_96 i2 i3 i4 i6 k0 k1 iv = some y) (hc : ∀ s, y = .inl s → ∀ z1 z7 : Value, am_R E 3 mX10_odds 0 0 62 [.ref 54, z1, .int i2, .int i3, .int i4, .int s.1, .int s.2, z7] [] S iv Q) (hx : ∀ a, y = .inr a → ∀ z1 z6 z7 : Value, am_R E 3 mX10_odds 0 0 105 [.ref 54, z1, .int i2, .int i3, .int i4, .int a, z6, z7] [] S iv Q) : am_R E 3 mX10_odds 0 0 96 [.ref 54, z1, .int i2, .int i3, .int i4, z5, .int i6, z7] [.int k1, .int k0] S iv Q := by
  refine (sX10_odds_96 (sX10_odds_97 (sX10_odds_99 (sX10_odds_102 ?_))))
  exact hc _ (Option.some.inj e).symm _ _
def B_X10_odds_62 (i2 : Int32) (i3 : Int32) (i4 : Int32) (iv : am_I) (i5 : Int32) (i6 : Int32) : Option ((Int32 × Int32) ⊕ (Int32)) :=
  (if (iv 58 (3 : Int32).toNatClampNeg) ≤ i6 then some (.inr i5) else (am_o1 (F_X10_has i4 i6 iv) fun v6 => (if v6 = 0 then J_X10_odds_96 i2 i3 i4 i6 i5 (0 : Int32) iv else (if vp_b i6 10 then J_X10_odds_96 i2 i3 i4 i6 i5 (iv 66 i6.toNatClampNeg) iv else none))))
theorem b_X10_odds_62 {E : am_E} {S : am_S} {Q : am_O → am_S → am_I → Prop} (hL : am_Lay S) {z1 z7 : Value} {i2 i3 i4 i5 i6 : Int32} {iv : am_I} {y : (Int32 × Int32) ⊕ (Int32)} (e : B_X10_odds_62 i2 i3 i4 iv i5 i6 = some y) (hc : ∀ s, y = .inl s → ∀ z1 z7 : Value, am_R E 3 mX10_odds 0 0 62 [.ref 54, z1, .int i2, .int i3, .int i4, .int s.1, .int s.2, z7] [] S iv Q) (hx : ∀ a, y = .inr a → ∀ z1 z6 z7 : Value, am_R E 3 mX10_odds 0 0 105 [.ref 54, z1, .int i2, .int i3, .int i4, .int a, z6, z7] [] S iv Q) : am_R E 3 mX10_odds 0 0 62 [.ref 54, z1, .int i2, .int i3, .int i4, .int i5, .int i6, z7] [] S iv Q := by
  refine (sX10_odds_62 (sX10_odds_64 rfl (sX10_odds_65 (hL.1 _ _ rfl) (hL.2.1 _ _ _ rfl) (sX10_odds_68 (sX10_odds_69 (hL.1 _ _ rfl) (vp_lit (by decide)) ?_)))))
  refine sX10_odds_70 (fun hbr => ?_) (fun hbr => ?_)
  · replace e := am_pos hbr e
    exact hx _ (Option.some.inj e).symm _ _ _
  · replace e := am_neg hbr e
    replace e := am_o1_i e; obtain ⟨v6, e6, e⟩ := e
    refine (sX10_odds_73 (sX10_odds_75 (sX10_odds_77 (sX10_odds_79 (Nat.le_of_ble_eq_true rfl) (R_X10_has (h := ?_) (hd := (Nat.le_of_ble_eq_true rfl)) (e := e6))))))
    refine sX10_odds_82 (fun hbr => ?_) (fun hbr => ?_)
    · replace e := am_pos hbr e
      refine (sX10_odds_95 ?_)
      exact j_X10_odds_96 hL e hc hx
    · replace e := am_neg hbr e
      replace e := am_ckv e; obtain ⟨c7, e⟩ := e
      refine (sX10_odds_85 rfl (sX10_odds_86 (hL.1 _ _ rfl) (hL.2.1 _ _ _ rfl) (sX10_odds_89 (sX10_odds_91 (hL.1 _ _ rfl) c7 (sX10_odds_92 ?_)))))
      exact j_X10_odds_96 hL e hc hx
theorem l_X10_odds_62 {E : am_E} {S : am_S} {Q : am_O → am_S → am_I → Prop} (hL : am_Lay S) {i2 i3 i4 : Int32} {iv : am_I} (s : (Int32 × Int32)) {x : (Int32)} (e : am_loop (fun s : (Int32 × Int32) => B_X10_odds_62 i2 i3 i4 iv s.1 s.2) s = some x) (hx : ∀ z1 z6 z7 : Value, am_R E 3 mX10_odds 0 0 105 [.ref 54, z1, .int i2, .int i3, .int i4, .int x, z6, z7] [] S iv Q) : ∀ z1 z7 : Value, am_R E 3 mX10_odds 0 0 62 [.ref 54, z1, .int i2, .int i3, .int i4, .int s.1, .int s.2, z7] [] S iv Q :=
  am_wh_sound (f := fun s : (Int32 × Int32) => B_X10_odds_62 i2 i3 i4 iv s.1 s.2) (P := fun s => ∀ z1 z7 : Value, am_R E 3 mX10_odds 0 0 62 [.ref 54, z1, .int i2, .int i3, .int i4, .int s.1, .int s.2, z7] [] S iv Q) (K := fun x => ∀ z1 z6 z7 : Value, am_R E 3 mX10_odds 0 0 105 [.ref 54, z1, .int i2, .int i3, .int i4, .int x, z6, z7] [] S iv Q) (fun s y e hc hkk => fun z1 z7 => b_X10_odds_62 hL e hc (fun a hy => hkk a hy)) am_fu s x e hx
def J_X10_odds_142 (i3 : Int32) (i5 : Int32) (i6 : Int32) (k0 : Int32) (iv : am_I) : Option (Int32 × am_I) :=
  (if i3 = 0 then (if k0 = 0 then none else some ((i6 / k0), iv)) else (if i5 = 0 then some ((1 : Int32), iv) else (if k0 = 0 then none else some ((i5 / k0), iv))))
theorem j_X10_odds_142 {E : am_E} {S : am_S} {Q : am_O → am_S → am_I → Prop} (hL : am_Lay S) {z0 z1 z2 z4 z7 : Value} {i3 i5 i6 k0 : Int32} {iv : am_I} {y : Int32 × am_I} (e : J_X10_odds_142 i3 i5 i6 k0 iv = some y) (h : Q (.inl (some (.int y.1))) S y.2) : am_R E 3 mX10_odds 0 0 142 [z0, z1, z2, .int i3, z4, .int i5, .int i6, z7] [.int k0] S iv Q := by
  refine (sX10_odds_142 (sX10_odds_144 ?_))
  refine sX10_odds_145 (fun hbr => ?_) (fun hbr => ?_)
  · replace e := am_neg hbr e
    refine (sX10_odds_156 ?_)
    refine sX10_odds_158 (fun hbr => ?_) (fun hbr => ?_)
    · replace e := am_neg hbr e
      replace e := am_ckn e; obtain ⟨c11, e⟩ := e
      refine (sX10_odds_165 (sX10_odds_167 (sX10_odds_169 c11 (sX10_odds_170 ?_))))
      obtain rfl := Option.some.inj e
      exact h
    · replace e := am_pos hbr e
      refine (sX10_odds_161 (sX10_odds_162 (sX10_odds_170 ?_)))
      obtain rfl := Option.some.inj e
      exact h
  · replace e := am_pos hbr e
    replace e := am_ckn e; obtain ⟨c12, e⟩ := e
    refine (sX10_odds_148 (sX10_odds_150 (sX10_odds_152 c12 (sX10_odds_153 (sX10_odds_170 ?_)))))
    obtain rfl := Option.some.inj e
    exact h
def J_X10_odds_124 (i3 : Int32) (i5 : Int32) (k0 : Int32) (iv : am_I) : Option (Int32 × am_I) :=
  (if i5 = 0 then J_X10_odds_142 i3 i5 k0 (1 : Int32) iv else (am_o1 (F_X10_common i5 k0 iv) fun v10 => J_X10_odds_142 i3 i5 k0 v10 iv))
theorem j_X10_odds_124 {E : am_E} {S : am_S} {Q : am_O → am_S → am_I → Prop} (hL : am_Lay S) {z0 z1 z2 z4 z6 z7 : Value} {i3 i5 k0 : Int32} {iv : am_I} {y : Int32 × am_I} (e : J_X10_odds_124 i3 i5 k0 iv = some y) (h : Q (.inl (some (.int y.1))) S y.2) : am_R E 3 mX10_odds 0 0 124 [z0, z1, z2, .int i3, z4, .int i5, z6, z7] [.int k0] S iv Q := by
  refine (sX10_odds_124 (sX10_odds_126 ?_))
  refine sX10_odds_128 (fun hbr => ?_) (fun hbr => ?_)
  · replace e := am_neg hbr e
    replace e := am_o1_i e; obtain ⟨v10, e10, e⟩ := e
    refine (sX10_odds_135 (sX10_odds_137 (sX10_odds_139 (Nat.le_of_ble_eq_true rfl) (R_X10_common (h := ?_) (hd := (Nat.le_of_ble_eq_true rfl)) (e := e10)))))
    exact j_X10_odds_142 hL e h
  · replace e := am_pos hbr e
    refine (sX10_odds_131 (sX10_odds_132 ?_))
    exact j_X10_odds_142 hL e h
def F_X10_odds (i1 : Int32) (i2 : Int32) (i3 : Int32) (iv : am_I) : Option (Int32 × am_I) :=
  (am_o1 (F_X10_isDrawer i1 (am_w iv 54 3 (0 : Int32))) fun v1 => (if v1 = 0 then J_X10_odds_30  (am_w iv 54 3 (0 : Int32)) else (am_o1 (F_X10_isPerson i2 (am_w iv 54 3 (0 : Int32))) fun v3 => (if v3 = 0 then J_X10_odds_30  (am_w iv 54 3 (0 : Int32)) else (if i3 < 0 then J_X10_odds_30  (am_w iv 54 3 (0 : Int32)) else (if i3 ≤ (1 : Int32) then (am_o1 (F_X10_has ((am_w iv 54 3 (0 : Int32)) 54 29) i1 (am_w iv 54 3 (0 : Int32))) fun v4 => (if v4 = 0 then some ((-1 : Int32), (am_w iv 54 3 (0 : Int32))) else (am_o1 (F_X10_whoCould i1 (am_w iv 54 3 (0 : Int32))) fun v5 => (am_o1 (am_loop (fun s : (Int32 × Int32) => B_X10_odds_62 i2 i3 v5 (am_w iv 54 3 (0 : Int32)) s.1 s.2) ((0 : Int32), (0 : Int32))) fun a8 => (am_o1 (F_X10_has v5 i2 (am_w iv 54 3 (0 : Int32))) fun v9 => (if v9 = 0 then J_X10_odds_124 i3 a8 (0 : Int32) (am_w iv 54 3 (0 : Int32)) else (if vp_b i2 10 then J_X10_odds_124 i3 a8 ((am_w iv 54 3 (0 : Int32)) 66 i2.toNatClampNeg) (am_w iv 54 3 (0 : Int32)) else none))))))) else J_X10_odds_30  (am_w iv 54 3 (0 : Int32))))))))
theorem YR_X10_odds {E : am_E} {S : am_S} {Q : am_O → am_S → am_I → Prop} (hL : am_Lay S) {i1 i2 i3 : Int32} {iv : am_I} {y : Int32 × am_I} (e : F_X10_odds i1 i2 i3 iv = some y) (h : Q (.inl (some (.int y.1))) S y.2) {d : Nat} (hd : 3 ≤ d) : am_M E d mX10_odds 0 0 [.ref 54, .int i1, .int i2, .int i3] S iv Q := by
  refine am_enter (js := [.double 0, .double 0, .double 0, .double 0]) rfl pn_X10 rfl rfl rfl (Nat.le_of_ble_eq_true rfl) (am_R.deep ?_ hd)
  replace e := am_o1_i e; obtain ⟨v1, e1, e⟩ := e
  refine (sX10_odds_0 rfl (sX10_odds_1 (sX10_odds_2 (hL.1 _ _ rfl) (sX10_odds_5 rfl (sX10_odds_6 (sX10_odds_7 (hL.1 _ _ rfl) (Nat.le_of_ble_eq_true rfl) (R_X10_isDrawer hL (h := ?_) (hd := (Nat.le_of_ble_eq_true rfl)) (e := e1))))))))
  refine sX10_odds_10 (fun hbr => ?_) (fun hbr => ?_)
  · replace e := am_pos hbr e
    exact j_X10_odds_30 hL e h
  · replace e := am_neg hbr e
    replace e := am_o1_i e; obtain ⟨v3, e3, e⟩ := e
    refine (sX10_odds_13 rfl (sX10_odds_14 (sX10_odds_15 (hL.1 _ _ rfl) (Nat.le_of_ble_eq_true rfl) (R_X10_isPerson hL (h := ?_) (hd := (Nat.le_of_ble_eq_true rfl)) (e := e3)))))
    refine sX10_odds_18 (fun hbr => ?_) (fun hbr => ?_)
    · replace e := am_pos hbr e
      exact j_X10_odds_30 hL e h
    · replace e := am_neg hbr e
      refine (sX10_odds_21 ?_)
      refine sX10_odds_22 (fun hbr => ?_) (fun hbr => ?_)
      · replace e := am_pos hbr e
        exact j_X10_odds_30 hL e h
      · replace e := am_neg hbr e
        refine (sX10_odds_25 (sX10_odds_26 ?_))
        refine sX10_odds_27 (fun hbr => ?_) (fun hbr => ?_)
        · replace e := am_pos hbr e
          replace e := am_o1_i e; obtain ⟨v4, e4, e⟩ := e
          refine (sX10_odds_36 rfl (sX10_odds_37 (hL.1 _ _ rfl) (sX10_odds_40 (sX10_odds_41 (Nat.le_of_ble_eq_true rfl) (R_X10_has (h := ?_) (hd := (Nat.le_of_ble_eq_true rfl)) (e := e4))))))
          refine sX10_odds_44 (fun hbr => ?_) (fun hbr => ?_)
          · replace e := am_neg hbr e
            replace e := am_o1_i e; obtain ⟨v5, e5, e⟩ := e
            refine (sX10_odds_49 rfl (sX10_odds_50 (sX10_odds_51 (hL.1 _ _ rfl) (Nat.le_of_ble_eq_true rfl) (R_X10_whoCould hL (h := (sX10_odds_54 (sX10_odds_56 (sX10_odds_57 (sX10_odds_59 (sX10_odds_60 ?_)))))) (hd := (Nat.le_of_ble_eq_true rfl)) (e := e5)))))
            replace e := am_o1_i e; obtain ⟨a8, e8, e⟩ := e
            refine l_X10_odds_62 hL _ e8 ?_ _ _
            intro z1 z6 z7
            replace e := am_o1_i e; obtain ⟨v9, e9, e⟩ := e
            refine (sX10_odds_105 (sX10_odds_107 (sX10_odds_108 (Nat.le_of_ble_eq_true rfl) (R_X10_has (h := ?_) (hd := (Nat.le_of_ble_eq_true rfl)) (e := e9)))))
            refine sX10_odds_111 (fun hbr => ?_) (fun hbr => ?_)
            · replace e := am_pos hbr e
              refine (sX10_odds_123 ?_)
              exact j_X10_odds_124 hL e h
            · replace e := am_neg hbr e
              replace e := am_ckv e; obtain ⟨c13, e⟩ := e
              refine (sX10_odds_114 rfl (sX10_odds_115 (hL.1 _ _ rfl) (hL.2.1 _ _ _ rfl) (sX10_odds_118 (sX10_odds_119 (hL.1 _ _ rfl) c13 (sX10_odds_120 ?_)))))
              exact j_X10_odds_124 hL e h
          · replace e := am_pos hbr e
            refine (sX10_odds_47 (sX10_odds_48 ?_))
            obtain rfl := Option.some.inj e
            exact h
        · replace e := am_neg hbr e
          exact j_X10_odds_30 hL e h
theorem R_X10_odds {E : am_E} {S : am_S} {Q : am_O → am_S → am_I → Prop} (hL : am_Lay S) {i1 i2 i3 : Int32} {iv : am_I} {v' : Int32} {iv' : am_I} (e : F_X10_odds i1 i2 i3 iv = some (v', iv')) (h : Q (.inl (some (.int v'))) S iv') {d : Nat} (hd : 3 ≤ d) : am_M E d mX10_odds 0 0 [.ref 54, .int i1, .int i2, .int i3] S iv Q :=
  YR_X10_odds hL e h hd
def F_X10_image (iv : am_I) : Option (am_I) :=
  (am_o1 (F_X10_be 84 5 72 5  (am_w (am_w (am_w (am_w (am_w (am_w iv 54 3 (0 : Int32)) 54 48 (1 : Int32)) 54 49 ((am_w (am_w iv 54 3 (0 : Int32)) 54 48 (1 : Int32)) 54 29)) 54 50 ((am_w (am_w (am_w iv 54 3 (0 : Int32)) 54 48 (1 : Int32)) 54 49 ((am_w (am_w iv 54 3 (0 : Int32)) 54 48 (1 : Int32)) 54 29)) 54 30)) 54 51 ((am_w (am_w (am_w (am_w iv 54 3 (0 : Int32)) 54 48 (1 : Int32)) 54 49 ((am_w (am_w iv 54 3 (0 : Int32)) 54 48 (1 : Int32)) 54 29)) 54 50 ((am_w (am_w (am_w iv 54 3 (0 : Int32)) 54 48 (1 : Int32)) 54 49 ((am_w (am_w iv 54 3 (0 : Int32)) 54 48 (1 : Int32)) 54 29)) 54 30)) 54 31)) 54 52 ((am_w (am_w (am_w (am_w (am_w iv 54 3 (0 : Int32)) 54 48 (1 : Int32)) 54 49 ((am_w (am_w iv 54 3 (0 : Int32)) 54 48 (1 : Int32)) 54 29)) 54 50 ((am_w (am_w (am_w iv 54 3 (0 : Int32)) 54 48 (1 : Int32)) 54 49 ((am_w (am_w iv 54 3 (0 : Int32)) 54 48 (1 : Int32)) 54 29)) 54 30)) 54 51 ((am_w (am_w (am_w (am_w iv 54 3 (0 : Int32)) 54 48 (1 : Int32)) 54 49 ((am_w (am_w iv 54 3 (0 : Int32)) 54 48 (1 : Int32)) 54 29)) 54 50 ((am_w (am_w (am_w iv 54 3 (0 : Int32)) 54 48 (1 : Int32)) 54 49 ((am_w (am_w iv 54 3 (0 : Int32)) 54 48 (1 : Int32)) 54 29)) 54 30)) 54 31)) 54 32))) fun w1 => (am_o1 (F_X10_be 85 100 73 100  w1) fun w2 => (am_o1 (F_X10_be 86 100 74 100  w2) fun w3 => (am_o1 (F_X10_be 87 2 70 2  w3) fun w4 => some w4))))
theorem R_X10_image {E : am_E} {S : am_S} {Q : am_O → am_S → am_I → Prop} (hL : am_Lay S) {iv : am_I} {y : am_I} (e : F_X10_image  iv = some y) (h : Q (.inl none) S y) {d : Nat} (hd : 1 ≤ d) : am_M E d mX10_image 0 0 [.ref 54] S iv Q := by
  refine am_enter (js := []) rfl pn_X10 rfl rfl rfl (Nat.le_of_ble_eq_true rfl) (am_R.deep ?_ hd)
  replace e := am_o1_i e; obtain ⟨w1, e1, e⟩ := e
  replace e := am_o1_i e; obtain ⟨w2, e2, e⟩ := e
  replace e := am_o1_i e; obtain ⟨w3, e3, e⟩ := e
  replace e := am_o1_i e; obtain ⟨w4, e4, e⟩ := e
  refine (sX10_image_0 rfl (sX10_image_1 (sX10_image_2 (hL.1 _ _ rfl) (sX10_image_5 rfl (sX10_image_6 (sX10_image_7 (hL.1 _ _ rfl) (by decide) (sX10_image_10 rfl (sX10_image_11 rfl (sX10_image_12 (hL.1 _ _ rfl) (sX10_image_15 (hL.1 _ _ rfl) (sX10_image_18 rfl (sX10_image_19 rfl (sX10_image_20 (hL.1 _ _ rfl) (sX10_image_23 (hL.1 _ _ rfl) (sX10_image_26 rfl (sX10_image_27 rfl (sX10_image_28 (hL.1 _ _ rfl) (sX10_image_31 (hL.1 _ _ rfl) (sX10_image_34 rfl (sX10_image_35 rfl (sX10_image_36 (hL.1 _ _ rfl) (sX10_image_39 (hL.1 _ _ rfl) (sX10_image_42 rfl (sX10_image_43 (hL.1 _ _ rfl) (hL.2.1 _ _ _ rfl) (sX10_image_46 rfl (sX10_image_47 (hL.1 _ _ rfl) (hL.2.1 _ _ _ rfl) (sX10_image_50 (Nat.le_of_ble_eq_true rfl) (R_X10_be (hL.1 _ _ rfl) (hL.1 _ _ rfl) (h := (sX10_image_53 rfl (sX10_image_54 (hL.1 _ _ rfl) (hL.2.1 _ _ _ rfl) (sX10_image_57 rfl (sX10_image_58 (hL.1 _ _ rfl) (hL.2.1 _ _ _ rfl) (sX10_image_61 (Nat.le_of_ble_eq_true rfl) (R_X10_be (hL.1 _ _ rfl) (hL.1 _ _ rfl) (h := (sX10_image_64 rfl (sX10_image_65 (hL.1 _ _ rfl) (hL.2.1 _ _ _ rfl) (sX10_image_68 rfl (sX10_image_69 (hL.1 _ _ rfl) (hL.2.1 _ _ _ rfl) (sX10_image_72 (Nat.le_of_ble_eq_true rfl) (R_X10_be (hL.1 _ _ rfl) (hL.1 _ _ rfl) (h := (sX10_image_75 rfl (sX10_image_76 (hL.1 _ _ rfl) (hL.2.1 _ _ _ rfl) (sX10_image_79 rfl (sX10_image_80 (hL.1 _ _ rfl) (hL.2.1 _ _ _ rfl) (sX10_image_83 (Nat.le_of_ble_eq_true rfl) (R_X10_be (hL.1 _ _ rfl) (hL.1 _ _ rfl) (h := (sX10_image_86 ?_)) (hd := (Nat.le_of_ble_eq_true rfl)) (e := e4)))))))) (hd := (Nat.le_of_ble_eq_true rfl)) (e := e3)))))))) (hd := (Nat.le_of_ble_eq_true rfl)) (e := e2)))))))) (hd := (Nat.le_of_ble_eq_true rfl)) (e := e1)))))))))))))))))))))))))))))
  obtain rfl := Option.some.inj e
  exact h
def F_X10_restore (iv : am_I) : Option (Int32 × am_I) :=
  (if ((am_w iv 54 3 (0 : Int32)) 54 48) = 0 then some ((0 : Int32), (am_w iv 54 3 (0 : Int32))) else (am_o1 (F_X10_be 72 5 84 5  (am_w (am_w (am_w (am_w (am_w iv 54 3 (0 : Int32)) 54 29 ((am_w iv 54 3 (0 : Int32)) 54 49)) 54 30 ((am_w (am_w iv 54 3 (0 : Int32)) 54 29 ((am_w iv 54 3 (0 : Int32)) 54 49)) 54 50)) 54 31 ((am_w (am_w (am_w iv 54 3 (0 : Int32)) 54 29 ((am_w iv 54 3 (0 : Int32)) 54 49)) 54 30 ((am_w (am_w iv 54 3 (0 : Int32)) 54 29 ((am_w iv 54 3 (0 : Int32)) 54 49)) 54 50)) 54 51)) 54 32 ((am_w (am_w (am_w (am_w iv 54 3 (0 : Int32)) 54 29 ((am_w iv 54 3 (0 : Int32)) 54 49)) 54 30 ((am_w (am_w iv 54 3 (0 : Int32)) 54 29 ((am_w iv 54 3 (0 : Int32)) 54 49)) 54 50)) 54 31 ((am_w (am_w (am_w iv 54 3 (0 : Int32)) 54 29 ((am_w iv 54 3 (0 : Int32)) 54 49)) 54 30 ((am_w (am_w iv 54 3 (0 : Int32)) 54 29 ((am_w iv 54 3 (0 : Int32)) 54 49)) 54 50)) 54 51)) 54 52))) fun w1 => (am_o1 (F_X10_be 73 100 85 100  w1) fun w2 => (am_o1 (F_X10_be 74 100 86 100  w2) fun w3 => (am_o1 (F_X10_be 70 2 87 2  w3) fun w4 => some ((1 : Int32), w4))))))
theorem YR_X10_restore {E : am_E} {S : am_S} {Q : am_O → am_S → am_I → Prop} (hL : am_Lay S) {iv : am_I} {y : Int32 × am_I} (e : F_X10_restore  iv = some y) (h : Q (.inl (some (.int y.1))) S y.2) {d : Nat} (hd : 1 ≤ d) : am_M E d mX10_restore 0 0 [.ref 54] S iv Q := by
  refine am_enter (js := []) rfl pn_X10 rfl rfl rfl (Nat.le_of_ble_eq_true rfl) (am_R.deep ?_ hd)
  refine (sX10_restore_0 rfl (sX10_restore_1 (sX10_restore_2 (hL.1 _ _ rfl) (sX10_restore_5 rfl (sX10_restore_6 (hL.1 _ _ rfl) ?_)))))
  refine sX10_restore_9 (fun hbr => ?_) (fun hbr => ?_)
  · replace e := am_neg hbr e
    replace e := am_o1_i e; obtain ⟨w1, e1, e⟩ := e
    replace e := am_o1_i e; obtain ⟨w2, e2, e⟩ := e
    replace e := am_o1_i e; obtain ⟨w3, e3, e⟩ := e
    replace e := am_o1_i e; obtain ⟨w4, e4, e⟩ := e
    refine (sX10_restore_14 rfl (sX10_restore_15 rfl (sX10_restore_16 (hL.1 _ _ rfl) (sX10_restore_19 (hL.1 _ _ rfl) (sX10_restore_22 rfl (sX10_restore_23 rfl (sX10_restore_24 (hL.1 _ _ rfl) (sX10_restore_27 (hL.1 _ _ rfl) (sX10_restore_30 rfl (sX10_restore_31 rfl (sX10_restore_32 (hL.1 _ _ rfl) (sX10_restore_35 (hL.1 _ _ rfl) (sX10_restore_38 rfl (sX10_restore_39 rfl (sX10_restore_40 (hL.1 _ _ rfl) (sX10_restore_43 (hL.1 _ _ rfl) (sX10_restore_46 rfl (sX10_restore_47 (hL.1 _ _ rfl) (hL.2.1 _ _ _ rfl) (sX10_restore_50 rfl (sX10_restore_51 (hL.1 _ _ rfl) (hL.2.1 _ _ _ rfl) (sX10_restore_54 (Nat.le_of_ble_eq_true rfl) (R_X10_be (hL.1 _ _ rfl) (hL.1 _ _ rfl) (h := (sX10_restore_57 rfl (sX10_restore_58 (hL.1 _ _ rfl) (hL.2.1 _ _ _ rfl) (sX10_restore_61 rfl (sX10_restore_62 (hL.1 _ _ rfl) (hL.2.1 _ _ _ rfl) (sX10_restore_65 (Nat.le_of_ble_eq_true rfl) (R_X10_be (hL.1 _ _ rfl) (hL.1 _ _ rfl) (h := (sX10_restore_68 rfl (sX10_restore_69 (hL.1 _ _ rfl) (hL.2.1 _ _ _ rfl) (sX10_restore_72 rfl (sX10_restore_73 (hL.1 _ _ rfl) (hL.2.1 _ _ _ rfl) (sX10_restore_76 (Nat.le_of_ble_eq_true rfl) (R_X10_be (hL.1 _ _ rfl) (hL.1 _ _ rfl) (h := (sX10_restore_79 rfl (sX10_restore_80 (hL.1 _ _ rfl) (hL.2.1 _ _ _ rfl) (sX10_restore_83 rfl (sX10_restore_84 (hL.1 _ _ rfl) (hL.2.1 _ _ _ rfl) (sX10_restore_87 (Nat.le_of_ble_eq_true rfl) (R_X10_be (hL.1 _ _ rfl) (hL.1 _ _ rfl) (h := (sX10_restore_90 (sX10_restore_91 rfl ?_))) (hd := (Nat.le_of_ble_eq_true rfl)) (e := e4)))))))) (hd := (Nat.le_of_ble_eq_true rfl)) (e := e3)))))))) (hd := (Nat.le_of_ble_eq_true rfl)) (e := e2)))))))) (hd := (Nat.le_of_ble_eq_true rfl)) (e := e1)))))))))))))))))))))))
    obtain rfl := Option.some.inj e
    exact h
  · replace e := am_pos hbr e
    refine (sX10_restore_12 (sX10_restore_13 rfl ?_))
    obtain rfl := Option.some.inj e
    exact h
theorem R_X10_restore {E : am_E} {S : am_S} {Q : am_O → am_S → am_I → Prop} (hL : am_Lay S) {iv : am_I} {v' : Int32} {iv' : am_I} (e : F_X10_restore  iv = some (v', iv')) (h : Q (.inl (some (.int v'))) S iv') {d : Nat} (hd : 1 ≤ d) : am_M E d mX10_restore 0 0 [.ref 54] S iv Q :=
  YR_X10_restore hL e h hd
