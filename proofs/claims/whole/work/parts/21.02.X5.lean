/-! functions of the methods, and their rows (by program) -/
def F_X5_codeOfValue (i0 : Int32) (iv : am_I) : Option (Int32) :=
  some ((-1 : Int32) - i0)
theorem R_X5_codeOfValue {E : am_E} {S : am_S} {Q : am_O → am_S → am_I → Prop} {i0 : Int32} {iv : am_I} {y : Int32} (e : F_X5_codeOfValue i0 iv = some y) (h : Q (.inl (some (.int y))) S iv) {d : Nat} (hd : 0 ≤ d) : am_M E d mX5_codeOfValue 0 0 [.int i0] S iv Q := by
  refine am_enter (js := []) rfl pn_X5 rfl rfl rfl (Nat.le_of_ble_eq_true rfl) (am_R.deep ?_ hd)
  refine (sX5_codeOfValue_0 (sX5_codeOfValue_1 (sX5_codeOfValue_2 (sX5_codeOfValue_3 ?_))))
  obtain rfl := Option.some.inj e
  exact h
def F_X5_clear (w : Nat) (iv : am_I) : Option (am_I) :=
  some (am_w (am_w iv (w + 14) 0 (0 : Int32)) (w + 14) 1 (0 : Int32))
theorem R_X5_clear {E : am_E} {S : am_S} {Q : am_O → am_S → am_I → Prop} {w : Nat} (hL : am_Lay S) (hw : w = 2 ∨ w = 22) {iv : am_I} {y : am_I} (e : F_X5_clear w  iv = some y) (h : Q (.inl none) S y) {d : Nat} (hd : 0 ≤ d) : am_M E d mX5_clear 0 0 [.ref (w + 14)] S iv Q := by
  refine am_enter (js := []) rfl pn_X5 rfl rfl rfl (Nat.le_of_ble_eq_true rfl) (am_R.deep ?_ hd)
  refine (sX5_clear_0 rfl (sX5_clear_1 (sX5_clear_2 (kW_14 hL hw) (sX5_clear_5 rfl (sX5_clear_6 (sX5_clear_7 (kW_14 hL hw) (sX5_clear_10 ?_)))))))
  obtain rfl := Option.some.inj e
  exact h
def F_X5_add (w : Nat) (i1 : Int32) (iv : am_I) : Option (am_I) :=
  (if (Int32.ofNat 700) ≤ (iv (w + 14) 1) then some iv else (if vp_b (iv (w + 14) 1) 700 then some (am_w (am_w iv (w + 16) (iv (w + 14) 1).toNatClampNeg i1) (w + 14) 1 (((am_w iv (w + 16) (iv (w + 14) 1).toNatClampNeg i1) (w + 14) 1) + (1 : Int32))) else none))
theorem R_X5_add {E : am_E} {S : am_S} {Q : am_O → am_S → am_I → Prop} {w : Nat} (hL : am_Lay S) (hw : w = 2 ∨ w = 22) {i1 : Int32} {iv : am_I} {y : am_I} (e : F_X5_add w i1 iv = some y) (h : Q (.inl none) S y) {d : Nat} (hd : 0 ≤ d) : am_M E d mX5_add 0 0 [.ref (w + 14), .int i1] S iv Q := by
  refine am_enter (js := []) rfl pn_X5 rfl rfl rfl (Nat.le_of_ble_eq_true rfl) (am_R.deep ?_ hd)
  refine (sX5_add_0 rfl (sX5_add_1 (kW_14 hL hw) (sX5_add_4 rfl (sX5_add_5 (kW_14 hL hw) (rW_14_3 hL hw) (sX5_add_8 (kW_16 hL hw) rfl ?_)))))
  refine sX5_add_9 (fun hbr => ?_) (fun hbr => ?_)
  · replace e := am_pos hbr e
    refine (sX5_add_32 ?_)
    obtain rfl := Option.some.inj e
    exact h
  · replace e := am_neg hbr e
    replace e := am_ckv e; obtain ⟨c1, e⟩ := e
    refine (sX5_add_12 rfl (sX5_add_13 (kW_14 hL hw) (rW_14_3 hL hw) (sX5_add_16 rfl (sX5_add_17 (kW_14 hL hw) (sX5_add_20 (sX5_add_21 (kW_16 hL hw) c1 (sX5_add_22 rfl (sX5_add_23 rfl (sX5_add_24 (kW_14 hL hw) (sX5_add_27 (sX5_add_28 (sX5_add_29 (kW_14 hL hw) (sX5_add_32 ?_)))))))))))))
    obtain rfl := Option.some.inj e
    exact h
def F_X5_endRule (w : Nat) (iv : am_I) : Option (am_I) :=
  (if (4 : Int32) ≤ (iv (w + 14) 0) then some iv else (if vp_b ((am_w iv (w + 14) 0 ((iv (w + 14) 0) + (1 : Int32))) (w + 14) 0) 5 then some (am_w (am_w iv (w + 14) 0 ((iv (w + 14) 0) + (1 : Int32))) (w + 15) ((am_w iv (w + 14) 0 ((iv (w + 14) 0) + (1 : Int32))) (w + 14) 0).toNatClampNeg ((am_w iv (w + 14) 0 ((iv (w + 14) 0) + (1 : Int32))) (w + 14) 1)) else none))
theorem R_X5_endRule {E : am_E} {S : am_S} {Q : am_O → am_S → am_I → Prop} {w : Nat} (hL : am_Lay S) (hw : w = 2 ∨ w = 22) {iv : am_I} {y : am_I} (e : F_X5_endRule w  iv = some y) (h : Q (.inl none) S y) {d : Nat} (hd : 0 ≤ d) : am_M E d mX5_endRule 0 0 [.ref (w + 14)] S iv Q := by
  refine am_enter (js := []) rfl pn_X5 rfl rfl rfl (Nat.le_of_ble_eq_true rfl) (am_R.deep ?_ hd)
  refine (sX5_endRule_0 rfl (sX5_endRule_1 (kW_14 hL hw) (sX5_endRule_4 ?_)))
  refine sX5_endRule_5 (fun hbr => ?_) (fun hbr => ?_)
  · replace e := am_pos hbr e
    refine (sX5_endRule_31 ?_)
    obtain rfl := Option.some.inj e
    exact h
  · replace e := am_neg hbr e
    replace e := am_ckv e; obtain ⟨c1, e⟩ := e
    refine (sX5_endRule_8 rfl (sX5_endRule_9 rfl (sX5_endRule_10 (kW_14 hL hw) (sX5_endRule_13 (sX5_endRule_14 (sX5_endRule_15 (kW_14 hL hw) (sX5_endRule_18 rfl (sX5_endRule_19 (kW_14 hL hw) (rW_14_2 hL hw) (sX5_endRule_22 rfl (sX5_endRule_23 (kW_14 hL hw) (sX5_endRule_26 rfl (sX5_endRule_27 (kW_14 hL hw) (sX5_endRule_30 (kW_15 hL hw) c1 (sX5_endRule_31 ?_))))))))))))))
    obtain rfl := Option.some.inj e
    exact h
def F_X5_copyFrom (w : Nat) (v : Nat) (iv : am_I) : Option (am_I) :=
  (if (¬ ((am_cp (am_w (am_w iv (w + 14) 0 (iv (v + 14) 0)) (w + 14) 1 ((am_w iv (w + 14) 0 (iv (v + 14) 0)) (v + 14) 1)) (v + 15) (w + 15) (0 : Int32).toNatClampNeg (0 : Int32).toNatClampNeg (5 : Int32).toNatClampNeg) (w + 14) 1) < 0) ∧ ((0 : Int32).toNatClampNeg + ((am_cp (am_w (am_w iv (w + 14) 0 (iv (v + 14) 0)) (w + 14) 1 ((am_w iv (w + 14) 0 (iv (v + 14) 0)) (v + 14) 1)) (v + 15) (w + 15) (0 : Int32).toNatClampNeg (0 : Int32).toNatClampNeg (5 : Int32).toNatClampNeg) (w + 14) 1).toNatClampNeg ≤ 700 ∧ (0 : Int32).toNatClampNeg + ((am_cp (am_w (am_w iv (w + 14) 0 (iv (v + 14) 0)) (w + 14) 1 ((am_w iv (w + 14) 0 (iv (v + 14) 0)) (v + 14) 1)) (v + 15) (w + 15) (0 : Int32).toNatClampNeg (0 : Int32).toNatClampNeg (5 : Int32).toNatClampNeg) (w + 14) 1).toNatClampNeg ≤ 700) then some (am_cp (am_cp (am_w (am_w iv (w + 14) 0 (iv (v + 14) 0)) (w + 14) 1 ((am_w iv (w + 14) 0 (iv (v + 14) 0)) (v + 14) 1)) (v + 15) (w + 15) (0 : Int32).toNatClampNeg (0 : Int32).toNatClampNeg (5 : Int32).toNatClampNeg) (v + 16) (w + 16) (0 : Int32).toNatClampNeg (0 : Int32).toNatClampNeg ((am_cp (am_w (am_w iv (w + 14) 0 (iv (v + 14) 0)) (w + 14) 1 ((am_w iv (w + 14) 0 (iv (v + 14) 0)) (v + 14) 1)) (v + 15) (w + 15) (0 : Int32).toNatClampNeg (0 : Int32).toNatClampNeg (5 : Int32).toNatClampNeg) (w + 14) 1).toNatClampNeg) else none)
theorem R_X5_copyFrom {E : am_E} {S : am_S} {Q : am_O → am_S → am_I → Prop} {w : Nat} {v : Nat} (hL : am_Lay S) (hw : w = 2 ∨ w = 22) (hv : v = 2 ∨ v = 22) {iv : am_I} {y : am_I} (e : F_X5_copyFrom w v  iv = some y) (h : Q (.inl none) S y) {d : Nat} (hd : 2 ≤ d) : am_M E d mX5_copyFrom 0 0 [.ref (w + 14), .ref (v + 14)] S iv Q := by
  refine am_enter (js := []) rfl pn_X5 rfl rfl rfl (Nat.le_of_ble_eq_true rfl) (am_R.deep ?_ hd)
  replace e := am_ck e; obtain ⟨c1, e⟩ := e
  refine (sX5_copyFrom_0 rfl (sX5_copyFrom_1 rfl (sX5_copyFrom_2 (kW_14 hL hv) (sX5_copyFrom_5 (kW_14 hL hw) (sX5_copyFrom_8 rfl (sX5_copyFrom_9 rfl (sX5_copyFrom_10 (kW_14 hL hv) (sX5_copyFrom_13 (kW_14 hL hw) (sX5_copyFrom_16 rfl (sX5_copyFrom_17 (kW_14 hL hv) (rW_14_2 hL hv) (sX5_copyFrom_20 (sX5_copyFrom_21 rfl (sX5_copyFrom_22 (kW_14 hL hw) (rW_14_2 hL hw) (sX5_copyFrom_25 (sX5_copyFrom_26 (sX5_copyFrom_27 (kW_15 hL hv) (kW_15 hL hw) (by decide) (by decide) (by decide) (by decide) (by decide) (Nat.le_of_ble_eq_true rfl) (sX5_copyFrom_30 rfl (sX5_copyFrom_31 (kW_14 hL hv) (rW_14_3 hL hv) (sX5_copyFrom_34 (sX5_copyFrom_35 rfl (sX5_copyFrom_36 (kW_14 hL hw) (rW_14_3 hL hw) (sX5_copyFrom_39 (sX5_copyFrom_40 rfl (sX5_copyFrom_41 (kW_14 hL hw) (sX5_copyFrom_44 (kW_16 hL hv) (kW_16 hL hw) (by decide) (by decide) c1.1 c1.2.1 c1.2.2 (Nat.le_of_ble_eq_true rfl) (sX5_copyFrom_47 ?_))))))))))))))))))))))))))
  obtain rfl := Option.some.inj e
  exact h
def F_X5_join (i0 : Int32) (i1 : Int32) (i2 : Int32) (iv : am_I) : Option (Int32) :=
  (if i0.toInt < -17 ∨ -10 < i0.toInt then some (0 : Int32) else if i0 = (-17 : Int32) then (if i1 = 0 then (if i2 = 0 then some (0 : Int32) else some (1 : Int32)) else some (1 : Int32)) else if i0 = (-16 : Int32) then (if i1 = 0 then some (0 : Int32) else (if i2 = 0 then some (0 : Int32) else some (1 : Int32))) else if i0 = (-15 : Int32) then (if i1 = i2 then some (1 : Int32) else some (0 : Int32)) else if i0 = (-14 : Int32) then (if i2 ≤ i1 then some (0 : Int32) else some (1 : Int32)) else if i0 = (-13 : Int32) then (if i2 = 0 then some (0 : Int32) else (if i2 = 0 then none else some (i1 / i2))) else if i0 = (-12 : Int32) then some (i1 * i2) else if i0 = (-11 : Int32) then some (i1 - i2) else if i0 = (-10 : Int32) then some (i1 + i2) else none)
theorem R_X5_join {E : am_E} {S : am_S} {Q : am_O → am_S → am_I → Prop} {i0 i1 i2 : Int32} {iv : am_I} {y : Int32} (e : F_X5_join i0 i1 i2 iv = some y) (h : Q (.inl (some (.int y))) S iv) {d : Nat} (hd : 0 ≤ d) : am_M E d mX5_join 0 0 [.int i0, .int i1, .int i2] S iv Q := by
  refine am_enter (js := []) rfl pn_X5 rfl rfl rfl (Nat.le_of_ble_eq_true rfl) (am_R.deep ?_ hd)
  refine (sX5_join_0 ?_)
  by_cases hs : i0.toInt < -17 ∨ -10 < i0.toInt
  · replace e := am_pos hs e
    refine sX5_join_1_d hs ?_
    refine (sX5_join_122 (sX5_join_123 ?_))
    obtain rfl := Option.some.inj e
    exact h
  · replace e := am_neg hs e
    by_cases hs0 : i0 = (-17 : Int32)
    · replace e := am_pos hs0 e
      subst hs0
      refine sX5_join_1_m17 ?_
      refine (sX5_join_108 ?_)
      refine sX5_join_109 (fun hbr => ?_) (fun hbr => ?_)
      · replace e := am_neg hbr e
        refine (sX5_join_116 (sX5_join_117 (sX5_join_121 ?_)))
        obtain rfl := Option.some.inj e
        exact h
      · replace e := am_pos hbr e
        refine (sX5_join_112 ?_)
        refine sX5_join_113 (fun hbr => ?_) (fun hbr => ?_)
        · replace e := am_pos hbr e
          refine (sX5_join_120 (sX5_join_121 ?_))
          obtain rfl := Option.some.inj e
          exact h
        · replace e := am_neg hbr e
          refine (sX5_join_116 (sX5_join_117 (sX5_join_121 ?_)))
          obtain rfl := Option.some.inj e
          exact h
    replace e := am_neg hs0 e
    by_cases hs1 : i0 = (-16 : Int32)
    · replace e := am_pos hs1 e
      subst hs1
      refine sX5_join_1_m16 ?_
      refine (sX5_join_94 ?_)
      refine sX5_join_95 (fun hbr => ?_) (fun hbr => ?_)
      · replace e := am_pos hbr e
        refine (sX5_join_106 (sX5_join_107 ?_))
        obtain rfl := Option.some.inj e
        exact h
      · replace e := am_neg hbr e
        refine (sX5_join_98 ?_)
        refine sX5_join_99 (fun hbr => ?_) (fun hbr => ?_)
        · replace e := am_pos hbr e
          refine (sX5_join_106 (sX5_join_107 ?_))
          obtain rfl := Option.some.inj e
          exact h
        · replace e := am_neg hbr e
          refine (sX5_join_102 (sX5_join_103 (sX5_join_107 ?_)))
          obtain rfl := Option.some.inj e
          exact h
    replace e := am_neg hs1 e
    by_cases hs2 : i0 = (-15 : Int32)
    · replace e := am_pos hs2 e
      subst hs2
      refine sX5_join_1_m15 ?_
      refine (sX5_join_83 (sX5_join_84 ?_))
      refine sX5_join_85 (fun hbr => ?_) (fun hbr => ?_)
      · replace e := am_neg hbr e
        refine (sX5_join_92 (sX5_join_93 ?_))
        obtain rfl := Option.some.inj e
        exact h
      · replace e := am_pos hbr e
        refine (sX5_join_88 (sX5_join_89 (sX5_join_93 ?_)))
        obtain rfl := Option.some.inj e
        exact h
    replace e := am_neg hs2 e
    by_cases hs3 : i0 = (-14 : Int32)
    · replace e := am_pos hs3 e
      subst hs3
      refine sX5_join_1_m14 ?_
      refine (sX5_join_72 (sX5_join_73 ?_))
      refine sX5_join_74 (fun hbr => ?_) (fun hbr => ?_)
      · replace e := am_pos hbr e
        refine (sX5_join_81 (sX5_join_82 ?_))
        obtain rfl := Option.some.inj e
        exact h
      · replace e := am_neg hbr e
        refine (sX5_join_77 (sX5_join_78 (sX5_join_82 ?_)))
        obtain rfl := Option.some.inj e
        exact h
    replace e := am_neg hs3 e
    by_cases hs4 : i0 = (-13 : Int32)
    · replace e := am_pos hs4 e
      subst hs4
      refine sX5_join_1_m13 ?_
      refine (sX5_join_60 ?_)
      refine sX5_join_61 (fun hbr => ?_) (fun hbr => ?_)
      · replace e := am_neg hbr e
        replace e := am_ckn e; obtain ⟨c1, e⟩ := e
        refine (sX5_join_68 (sX5_join_69 (sX5_join_70 c1 (sX5_join_71 ?_))))
        obtain rfl := Option.some.inj e
        exact h
      · replace e := am_pos hbr e
        refine (sX5_join_64 (sX5_join_65 (sX5_join_71 ?_)))
        obtain rfl := Option.some.inj e
        exact h
    replace e := am_neg hs4 e
    by_cases hs5 : i0 = (-12 : Int32)
    · replace e := am_pos hs5 e
      subst hs5
      refine sX5_join_1_m12 ?_
      refine (sX5_join_56 (sX5_join_57 (sX5_join_58 (sX5_join_59 ?_))))
      obtain rfl := Option.some.inj e
      exact h
    replace e := am_neg hs5 e
    by_cases hs6 : i0 = (-11 : Int32)
    · replace e := am_pos hs6 e
      subst hs6
      refine sX5_join_1_m11 ?_
      refine (sX5_join_52 (sX5_join_53 (sX5_join_54 (sX5_join_55 ?_))))
      obtain rfl := Option.some.inj e
      exact h
    replace e := am_neg hs6 e
    by_cases hs7 : i0 = (-10 : Int32)
    · replace e := am_pos hs7 e
      subst hs7
      refine sX5_join_1_m10 ?_
      refine (sX5_join_48 (sX5_join_49 (sX5_join_50 (sX5_join_51 ?_))))
      obtain rfl := Option.some.inj e
      exact h
    replace e := am_neg hs7 e
    cases e
def J_X5_holds_111 (w : Nat) (i1 : Int32) (i3 : Int32) (i4 : Int32) (i5 : Int32) (iv : am_I) : Option ((Int32 × Int32 × am_I) ⊕ (am_I)) :=
  (if i3 ≤ (1 : Int32) then some (.inl (i3, (i4 + 1), iv)) else (if vp_b ((i3 + (-1)) - (1 : Int32)) 64 then (if vp_b (i3 + (-1)) 64 then (am_o1 (F_X5_join i5 (iv (w + 17) ((i3 + (-1)) - (1 : Int32)).toNatClampNeg) (iv (w + 17) (i3 + (-1)).toNatClampNeg) iv) fun v6 => (if vp_b ((i3 + (-1)) - (1 : Int32)) 64 then some (.inl ((i3 + (-1)), (i4 + 1), (am_w iv (w + 17) ((i3 + (-1)) - (1 : Int32)).toNatClampNeg v6))) else none)) else none) else none))
theorem j_X5_holds_111 {E : am_E} {S : am_S} {Q : am_O → am_S → am_I → Prop} {w : Nat} (hL : am_Lay S) (hw : w = 2 ∨ w = 22) {i1 i3 i4 i5 : Int32} {iv : am_I} {y : (Int32 × Int32 × am_I) ⊕ (am_I)} (e : J_X5_holds_111 w i1 i3 i4 i5 iv = some y) (hc : ∀ s, y = .inl s → ∀ z5 : Value, am_R E 1 mX5_holds 0 0 10 [.ref (w + 14), .int i1, .ref (w + 18), .int s.1, .int s.2.1, z5] [] S s.2.2 Q) (hx : ∀ a, y = .inr a → ∀ z1 z2 z3 z4 z5 : Value, am_R E 1 mX5_holds 0 0 152 [.ref (w + 14), z1, z2, z3, z4, z5] [] S a Q) : am_R E 1 mX5_holds 0 0 111 [.ref (w + 14), .int i1, .ref (w + 18), .int i3, .int i4, .int i5] [] S iv Q := by
  refine (sX5_holds_111 (sX5_holds_112 ?_))
  refine sX5_holds_113 (fun hbr => ?_) (fun hbr => ?_)
  · replace e := am_pos hbr e
    refine (sX5_holds_146 (sX5_holds_149 ?_))
    exact hc _ (Option.some.inj e).symm _
  · replace e := am_neg hbr e
    replace e := am_ckv e; obtain ⟨c4, e⟩ := e
    replace e := am_ckv e; obtain ⟨c5, e⟩ := e
    replace e := am_o1_i e; obtain ⟨v6, e6, e⟩ := e
    replace e := am_ckv e; obtain ⟨c7, e⟩ := e
    refine (sX5_holds_116 (sX5_holds_119 rfl (sX5_holds_120 (kW_14 hL hw) (rW_14_4 hL hw) (sX5_holds_123 (sX5_holds_124 (sX5_holds_125 (sX5_holds_126 (sX5_holds_128 rfl (sX5_holds_129 (kW_14 hL hw) (rW_14_4 hL hw) (sX5_holds_132 (sX5_holds_133 (sX5_holds_134 (sX5_holds_135 (kW_17 hL hw) c4 (sX5_holds_136 rfl (sX5_holds_137 (kW_14 hL hw) (rW_14_4 hL hw) (sX5_holds_140 (sX5_holds_141 (kW_17 hL hw) c5 (sX5_holds_142 (Nat.le_of_ble_eq_true rfl) (R_X5_join (h := (sX5_holds_145 (kW_17 hL hw) c7 (sX5_holds_146 (sX5_holds_149 ?_)))) (hd := (Nat.le_of_ble_eq_true rfl)) (e := e6))))))))))))))))))))
    exact hc _ (Option.some.inj e).symm _
def J_X5_holds_107 (w : Nat) (i1 : Int32) (i3 : Int32) (i4 : Int32) (k1 : Int32) (k2 : Int32) (iv : am_I) : Option ((Int32 × Int32 × am_I) ⊕ (am_I)) :=
  (if vp_b k1 64 then some (.inl (i3, (i4 + 1), (am_w iv (w + 17) k1.toNatClampNeg k2))) else none)
theorem j_X5_holds_107 {E : am_E} {S : am_S} {Q : am_O → am_S → am_I → Prop} {w : Nat} (hL : am_Lay S) (hw : w = 2 ∨ w = 22) {z5 : Value} {i1 i3 i4 k1 k2 : Int32} {iv : am_I} {y : (Int32 × Int32 × am_I) ⊕ (am_I)} (e : J_X5_holds_107 w i1 i3 i4 k1 k2 iv = some y) (hc : ∀ s, y = .inl s → ∀ z5 : Value, am_R E 1 mX5_holds 0 0 10 [.ref (w + 14), .int i1, .ref (w + 18), .int s.1, .int s.2.1, z5] [] S s.2.2 Q) (hx : ∀ a, y = .inr a → ∀ z1 z2 z3 z4 z5 : Value, am_R E 1 mX5_holds 0 0 152 [.ref (w + 14), z1, z2, z3, z4, z5] [] S a Q) : am_R E 1 mX5_holds 0 0 107 [.ref (w + 14), .int i1, .ref (w + 18), .int i3, .int i4, z5] [.int k2, .int k1, .ref (w + 17)] S iv Q := by
  replace e := am_ckv e; obtain ⟨c9, e⟩ := e
  refine (sX5_holds_107 (kW_17 hL hw) c9 (sX5_holds_108 (sX5_holds_146 (sX5_holds_149 ?_))))
  exact hc _ (Option.some.inj e).symm _
def J_X5_holds_73 (w : Nat) (i1 : Int32) (i3 : Int32) (i4 : Int32) (i5 : Int32) (iv : am_I) : Option ((Int32 × Int32 × am_I) ⊕ (am_I)) :=
  (if i5 = (-18 : Int32) then (if i3 ≤ 0 then J_X5_holds_111 w i1 i3 i4 i5 iv else (if vp_b (i3 - (1 : Int32)) 64 then (if (iv (w + 17) (i3 - (1 : Int32)).toNatClampNeg) = 0 then J_X5_holds_107 w i1 i3 i4 (i3 - (1 : Int32)) (1 : Int32) iv else J_X5_holds_107 w i1 i3 i4 (i3 - (1 : Int32)) (0 : Int32) iv) else none)) else J_X5_holds_111 w i1 i3 i4 i5 iv)
theorem j_X5_holds_73 {E : am_E} {S : am_S} {Q : am_O → am_S → am_I → Prop} {w : Nat} (hL : am_Lay S) (hw : w = 2 ∨ w = 22) {i1 i3 i4 i5 : Int32} {iv : am_I} {y : (Int32 × Int32 × am_I) ⊕ (am_I)} (e : J_X5_holds_73 w i1 i3 i4 i5 iv = some y) (hc : ∀ s, y = .inl s → ∀ z5 : Value, am_R E 1 mX5_holds 0 0 10 [.ref (w + 14), .int i1, .ref (w + 18), .int s.1, .int s.2.1, z5] [] S s.2.2 Q) (hx : ∀ a, y = .inr a → ∀ z1 z2 z3 z4 z5 : Value, am_R E 1 mX5_holds 0 0 152 [.ref (w + 14), z1, z2, z3, z4, z5] [] S a Q) : am_R E 1 mX5_holds 0 0 73 [.ref (w + 14), .int i1, .ref (w + 18), .int i3, .int i4, .int i5] [] S iv Q := by
  refine (sX5_holds_73 (sX5_holds_75 ?_))
  refine sX5_holds_77 (fun hbr => ?_) (fun hbr => ?_)
  · replace e := am_neg hbr e
    exact j_X5_holds_111 hL hw e hc hx
  · replace e := am_pos hbr e
    refine (sX5_holds_80 ?_)
    refine sX5_holds_81 (fun hbr => ?_) (fun hbr => ?_)
    · replace e := am_pos hbr e
      exact j_X5_holds_111 hL hw e hc hx
    · replace e := am_neg hbr e
      replace e := am_ckv e; obtain ⟨c8, e⟩ := e
      refine (sX5_holds_84 rfl (sX5_holds_85 (kW_14 hL hw) (rW_14_4 hL hw) (sX5_holds_88 (sX5_holds_89 (sX5_holds_90 (sX5_holds_91 rfl (sX5_holds_92 (kW_14 hL hw) (rW_14_4 hL hw) (sX5_holds_95 (sX5_holds_96 (sX5_holds_97 (sX5_holds_98 (kW_17 hL hw) c8 ?_)))))))))))
      refine sX5_holds_99 (fun hbr => ?_) (fun hbr => ?_)
      · replace e := am_neg hbr e
        refine (sX5_holds_106 ?_)
        exact j_X5_holds_107 hL hw e hc hx
      · replace e := am_pos hbr e
        refine (sX5_holds_102 (sX5_holds_103 ?_))
        exact j_X5_holds_107 hL hw e hc hx
def J_X5_holds_66 (w : Nat) (i1 : Int32) (i3 : Int32) (i4 : Int32) (k1 : Int32) (k2 : Int32) (iv : am_I) : Option ((Int32 × Int32 × am_I) ⊕ (am_I)) :=
  (if vp_b k1 64 then some (.inl ((i3 + 1), (i4 + 1), (am_w iv (w + 17) k1.toNatClampNeg k2))) else none)
theorem j_X5_holds_66 {E : am_E} {S : am_S} {Q : am_O → am_S → am_I → Prop} {w : Nat} (hL : am_Lay S) (hw : w = 2 ∨ w = 22) {z5 : Value} {i1 i3 i4 k1 k2 : Int32} {iv : am_I} {y : (Int32 × Int32 × am_I) ⊕ (am_I)} (e : J_X5_holds_66 w i1 i3 i4 k1 k2 iv = some y) (hc : ∀ s, y = .inl s → ∀ z5 : Value, am_R E 1 mX5_holds 0 0 10 [.ref (w + 14), .int i1, .ref (w + 18), .int s.1, .int s.2.1, z5] [] S s.2.2 Q) (hx : ∀ a, y = .inr a → ∀ z1 z2 z3 z4 z5 : Value, am_R E 1 mX5_holds 0 0 152 [.ref (w + 14), z1, z2, z3, z4, z5] [] S a Q) : am_R E 1 mX5_holds 0 0 66 [.ref (w + 14), .int i1, .ref (w + 18), .int i3, .int i4, z5] [.int k2, .int k1, .ref (w + 17)] S iv Q := by
  replace e := am_ckv e; obtain ⟨c11, e⟩ := e
  refine (sX5_holds_66 (kW_17 hL hw) c11 (sX5_holds_67 (sX5_holds_70 (sX5_holds_146 (sX5_holds_149 ?_)))))
  exact hc _ (Option.some.inj e).symm _
def B_X5_holds_10 (w : Nat) (i1 : Int32) (i3 : Int32) (i4 : Int32) (iv : am_I) : Option ((Int32 × Int32 × am_I) ⊕ (am_I)) :=
  (if vp_b (i1 + (1 : Int32)) 5 then (if (iv (w + 15) (i1 + (1 : Int32)).toNatClampNeg) ≤ i4 then some (.inr iv) else (if vp_b i4 700 then (if (iv (w + 16) i4.toNatClampNeg) < (-7 : Int32) then J_X5_holds_73 w i1 i3 i4 (iv (w + 16) i4.toNatClampNeg) iv else (if (64 : Int32) ≤ i3 then J_X5_holds_73 w i1 i3 i4 (iv (w + 16) i4.toNatClampNeg) iv else (if (iv (w + 16) i4.toNatClampNeg) < 0 then (if vp_b ((-1 : Int32) - (iv (w + 16) i4.toNatClampNeg)) 7 then J_X5_holds_66 w i1 i3 i4 i3 (iv (w + 18) ((-1 : Int32) - (iv (w + 16) i4.toNatClampNeg)).toNatClampNeg) iv else none) else J_X5_holds_66 w i1 i3 i4 i3 (iv (w + 16) i4.toNatClampNeg) iv))) else none)) else none)
theorem b_X5_holds_10 {E : am_E} {S : am_S} {Q : am_O → am_S → am_I → Prop} {w : Nat} (hL : am_Lay S) (hw : w = 2 ∨ w = 22) {z5 : Value} {i1 i3 i4 : Int32} {iv : am_I} {y : (Int32 × Int32 × am_I) ⊕ (am_I)} (e : B_X5_holds_10 w i1 i3 i4 iv = some y) (hc : ∀ s, y = .inl s → ∀ z5 : Value, am_R E 1 mX5_holds 0 0 10 [.ref (w + 14), .int i1, .ref (w + 18), .int s.1, .int s.2.1, z5] [] S s.2.2 Q) (hx : ∀ a, y = .inr a → ∀ z1 z2 z3 z4 z5 : Value, am_R E 1 mX5_holds 0 0 152 [.ref (w + 14), z1, z2, z3, z4, z5] [] S a Q) : am_R E 1 mX5_holds 0 0 10 [.ref (w + 14), .int i1, .ref (w + 18), .int i3, .int i4, z5] [] S iv Q := by
  replace e := am_ckv e; obtain ⟨c2, e⟩ := e
  refine (sX5_holds_10 (sX5_holds_12 rfl (sX5_holds_13 (kW_14 hL hw) (rW_14_2 hL hw) (sX5_holds_16 (sX5_holds_17 (sX5_holds_18 (sX5_holds_19 (kW_15 hL hw) c2 ?_)))))))
  refine sX5_holds_20 (fun hbr => ?_) (fun hbr => ?_)
  · replace e := am_pos hbr e
    exact hx _ (Option.some.inj e).symm _ _ _ _ _
  · replace e := am_neg hbr e
    replace e := am_ckv e; obtain ⟨c3, e⟩ := e
    refine (sX5_holds_23 rfl (sX5_holds_24 (kW_14 hL hw) (rW_14_3 hL hw) (sX5_holds_27 (sX5_holds_29 (kW_16 hL hw) c3 (sX5_holds_30 (sX5_holds_32 (sX5_holds_34 ?_)))))))
    refine sX5_holds_36 (fun hbr => ?_) (fun hbr => ?_)
    · replace e := am_pos hbr e
      exact j_X5_holds_73 hL hw e hc hx
    · replace e := am_neg hbr e
      refine (sX5_holds_39 (sX5_holds_40 ?_))
      refine sX5_holds_42 (fun hbr => ?_) (fun hbr => ?_)
      · replace e := am_pos hbr e
        exact j_X5_holds_73 hL hw e hc hx
      · replace e := am_neg hbr e
        refine (sX5_holds_45 rfl (sX5_holds_46 (kW_14 hL hw) (rW_14_4 hL hw) (sX5_holds_49 (sX5_holds_50 ?_))))
        refine sX5_holds_52 (fun hbr => ?_) (fun hbr => ?_)
        · replace e := am_pos hbr e
          replace e := am_ckv e; obtain ⟨c10, e⟩ := e
          refine (sX5_holds_60 rfl (sX5_holds_61 (sX5_holds_62 (sX5_holds_64 (sX5_holds_65 (kW_18 hL hw) c10 ?_)))))
          exact j_X5_holds_66 hL hw e hc hx
        · replace e := am_neg hbr e
          refine (sX5_holds_55 (sX5_holds_57 ?_))
          exact j_X5_holds_66 hL hw e hc hx
theorem l_X5_holds_10 {E : am_E} {S : am_S} {Q : am_O → am_S → am_I → Prop} {w : Nat} (hL : am_Lay S) (hw : w = 2 ∨ w = 22) {i1 : Int32} (s : (Int32 × Int32 × am_I)) {x : (am_I)} (e : am_loop (fun s : (Int32 × Int32 × am_I) => B_X5_holds_10 w i1 s.1 s.2.1 s.2.2) s = some x) (hx : ∀ z1 z2 z3 z4 z5 : Value, am_R E 1 mX5_holds 0 0 152 [.ref (w + 14), z1, z2, z3, z4, z5] [] S x Q) : ∀ z5 : Value, am_R E 1 mX5_holds 0 0 10 [.ref (w + 14), .int i1, .ref (w + 18), .int s.1, .int s.2.1, z5] [] S s.2.2 Q :=
  am_wh_sound (f := fun s : (Int32 × Int32 × am_I) => B_X5_holds_10 w i1 s.1 s.2.1 s.2.2) (P := fun s => ∀ z5 : Value, am_R E 1 mX5_holds 0 0 10 [.ref (w + 14), .int i1, .ref (w + 18), .int s.1, .int s.2.1, z5] [] S s.2.2 Q) (K := fun x => ∀ z1 z2 z3 z4 z5 : Value, am_R E 1 mX5_holds 0 0 152 [.ref (w + 14), z1, z2, z3, z4, z5] [] S x Q) (fun s y e hc hkk => fun z5 => b_X5_holds_10 hL hw e hc (fun a hy => hkk a hy)) am_fu s x e hx
def F_X5_holds (w : Nat) (i1 : Int32) (iv : am_I) : Option (Int32 × am_I) :=
  (if vp_b i1 5 then (am_o1 (am_loop (fun s : (Int32 × Int32 × am_I) => B_X5_holds_10 w i1 s.1 s.2.1 s.2.2) ((0 : Int32), (iv (w + 15) i1.toNatClampNeg), iv)) fun a12 => (if (a12 (w + 17) (0 : Int32).toNatClampNeg) = 0 then some ((0 : Int32), a12) else some ((1 : Int32), a12))) else none)
theorem YR_X5_holds {E : am_E} {S : am_S} {Q : am_O → am_S → am_I → Prop} {w : Nat} (hL : am_Lay S) (hw : w = 2 ∨ w = 22) {i1 : Int32} {iv : am_I} {y : Int32 × am_I} (e : F_X5_holds w i1 iv = some y) (h : Q (.inl (some (.int y.1))) S y.2) {d : Nat} (hd : 1 ≤ d) : am_M E d mX5_holds 0 0 [.ref (w + 14), .int i1, .ref (w + 18)] S iv Q := by
  refine am_enter (js := [.double 0, .double 0, .double 0]) rfl pn_X5 rfl rfl rfl (Nat.le_of_ble_eq_true rfl) (am_R.deep ?_ hd)
  replace e := am_ckv e; obtain ⟨c1, e⟩ := e
  refine (sX5_holds_0 (sX5_holds_1 (sX5_holds_2 rfl (sX5_holds_3 (kW_14 hL hw) (rW_14_2 hL hw) (sX5_holds_6 (sX5_holds_7 (kW_15 hL hw) c1 (sX5_holds_8 ?_)))))))
  replace e := am_o1_i e; obtain ⟨a12, e12, e⟩ := e
  refine l_X5_holds_10 hL hw _ e12 ?_ _
  intro z1 z2 z3 z4 z5
  refine (sX5_holds_152 rfl (sX5_holds_153 (kW_14 hL hw) (rW_14_4 hL hw) (sX5_holds_156 (sX5_holds_157 (kW_17 hL hw) (vp_lit (by decide)) ?_))))
  refine sX5_holds_158 (fun hbr => ?_) (fun hbr => ?_)
  · replace e := am_pos hbr e
    refine (sX5_holds_165 (sX5_holds_166 rfl ?_))
    obtain rfl := Option.some.inj e
    exact h
  · replace e := am_neg hbr e
    refine (sX5_holds_161 (sX5_holds_162 (sX5_holds_166 rfl ?_)))
    obtain rfl := Option.some.inj e
    exact h
theorem R_X5_holds {E : am_E} {S : am_S} {Q : am_O → am_S → am_I → Prop} {w : Nat} (hL : am_Lay S) (hw : w = 2 ∨ w = 22) {i1 : Int32} {iv : am_I} {v' : Int32} {iv' : am_I} (e : F_X5_holds w i1 iv = some (v', iv')) (h : Q (.inl (some (.int v'))) S iv') {d : Nat} (hd : 1 ≤ d) : am_M E d mX5_holds 0 0 [.ref (w + 14), .int i1, .ref (w + 18)] S iv Q :=
  YR_X5_holds hL hw e h hd
