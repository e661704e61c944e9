/-! functions of the methods, and their rows (by program) -/
def F_X0_clear (w : Nat) (iv : am_I) : Option (am_I) :=
  (am_o1 (F_X5_clear w  (am_w (am_w (am_w (am_w (am_w (am_w (am_w (am_w (am_w iv w 0 (3 : Int32)) w 1 (4 : Int32)) w 2 (2 : Int32)) w 3 (0 : Int32)) w 4 (0 : Int32)) w 5 (0 : Int32)) w 6 (0 : Int32)) (w + 1) 0 (0 : Int32)) (w + 10) 0 (0 : Int32))) fun w1 => some w1)
theorem R_X0_clear {E : am_E} {S : am_S} {Q : am_O → am_S → am_I → Prop} {w : Nat} (hL : am_Lay S) (hw : w = 2 ∨ w = 22) {iv : am_I} {y : am_I} (e : F_X0_clear w  iv = some y) (h : Q (.inl none) S y) {d : Nat} (hd : 1 ≤ d) : am_M E d mX0_clear 0 0 [.ref w] S iv Q := by
  refine am_enter (js := []) rfl pn_X0 rfl rfl rfl (Nat.le_of_ble_eq_true rfl) (am_R.deep ?_ hd)
  replace e := am_o1_i e; obtain ⟨w1, e1, e⟩ := e
  refine (sX0_clear_0 rfl (sX0_clear_1 (sX0_clear_2 (kW_0 hL hw) (sX0_clear_5 rfl (sX0_clear_6 (sX0_clear_7 (kW_0 hL hw) (sX0_clear_10 rfl (sX0_clear_11 (sX0_clear_12 (kW_0 hL hw) (sX0_clear_15 rfl (sX0_clear_16 (sX0_clear_17 (kW_0 hL hw) (sX0_clear_20 rfl (sX0_clear_21 (sX0_clear_22 (kW_0 hL hw) (sX0_clear_25 rfl (sX0_clear_26 (sX0_clear_27 (kW_0 hL hw) (sX0_clear_30 rfl (sX0_clear_31 (sX0_clear_32 (kW_0 hL hw) (sX0_clear_35 rfl (sX0_clear_36 (kW_0 hL hw) (rW_0_7 hL hw) (sX0_clear_39 (sX0_clear_40 (kW_1 hL hw) (sX0_clear_43 rfl (sX0_clear_44 (kW_0 hL hw) (rW_0_8 hL hw) (sX0_clear_47 (sX0_clear_48 (kW_10 hL hw) (sX0_clear_51 rfl (sX0_clear_52 (kW_0 hL hw) (rW_0_9 hL hw) (sX0_clear_55 (kW_14 hL hw) (Nat.le_of_ble_eq_true rfl) (R_X5_clear hL hw (h := (sX0_clear_58 ?_)) (hd := (Nat.le_of_ble_eq_true rfl)) (e := e1))))))))))))))))))))))))))))))))))
  obtain rfl := Option.some.inj e
  exact h
def F_X0_settle (w : Nat) (iv : am_I) : Option (am_I) :=
  (am_o1 (F_X2_compare w (iv w 2) iv) fun w1 => some (am_fl w1 (w + 19) 1024 (0 : Int32)))
theorem R_X0_settle {E : am_E} {S : am_S} {Q : am_O → am_S → am_I → Prop} {w : Nat} (hL : am_Lay S) (hw : w = 2 ∨ w = 22) {iv : am_I} {y : am_I} (e : F_X0_settle w  iv = some y) (h : Q (.inl none) S y) {d : Nat} (hd : 4 ≤ d) : am_M E d mX0_settle 0 0 [.ref w] S iv Q := by
  refine am_enter (js := []) rfl pn_X0 rfl rfl rfl (Nat.le_of_ble_eq_true rfl) (am_R.deep ?_ hd)
  replace e := am_o1_i e; obtain ⟨w1, e1, e⟩ := e
  refine (sX0_settle_0 rfl (sX0_settle_1 (kW_0 hL hw) (rW_0_7 hL hw) (sX0_settle_4 rfl (sX0_settle_5 (kW_0 hL hw) (sX0_settle_8 (kW_1 hL hw) (Nat.le_of_ble_eq_true rfl) (R_X2_compare hL hw (h := (sX0_settle_11 rfl (sX0_settle_12 (kW_0 hL hw) (rW_0_11 hL hw) (sX0_settle_15 (sX0_settle_16 (Nat.le_of_ble_eq_true rfl) (J_fl (kW_19 hL hw) (by decide) (sX0_settle_19 ?_))))))) (hd := (Nat.le_of_ble_eq_true rfl)) (e := e1)))))))
  obtain rfl := Option.some.inj e
  exact h
def F_X0_copyFrom (w : Nat) (v : Nat) (iv : am_I) : Option (am_I) :=
  (am_o1 (F_X2_copyFrom w v  (am_w (am_w (am_w iv w 0 (iv v 0)) w 1 ((am_w iv w 0 (iv v 0)) v 1)) w 2 ((am_w (am_w iv w 0 (iv v 0)) w 1 ((am_w iv w 0 (iv v 0)) v 1)) v 2))) fun w1 => (am_o1 (F_X4_copyFrom w v  w1) fun w2 => (am_o1 (F_X5_copyFrom w v  w2) fun w3 => some w3)))
theorem R_X0_copyFrom {E : am_E} {S : am_S} {Q : am_O → am_S → am_I → Prop} {w : Nat} {v : Nat} (hL : am_Lay S) (hw : w = 2 ∨ w = 22) (hv : v = 2 ∨ v = 22) {iv : am_I} {y : am_I} (e : F_X0_copyFrom w v  iv = some y) (h : Q (.inl none) S y) {d : Nat} (hd : 3 ≤ d) : am_M E d mX0_copyFrom 0 0 [.ref w, .ref v] S iv Q := by
  refine am_enter (js := []) rfl pn_X0 rfl rfl rfl (Nat.le_of_ble_eq_true rfl) (am_R.deep ?_ hd)
  replace e := am_o1_i e; obtain ⟨w1, e1, e⟩ := e
  replace e := am_o1_i e; obtain ⟨w2, e2, e⟩ := e
  replace e := am_o1_i e; obtain ⟨w3, e3, e⟩ := e
  refine (sX0_copyFrom_0 rfl (sX0_copyFrom_1 rfl (sX0_copyFrom_2 (kW_0 hL hv) (sX0_copyFrom_5 (kW_0 hL hw) (sX0_copyFrom_8 rfl (sX0_copyFrom_9 rfl (sX0_copyFrom_10 (kW_0 hL hv) (sX0_copyFrom_13 (kW_0 hL hw) (sX0_copyFrom_16 rfl (sX0_copyFrom_17 rfl (sX0_copyFrom_18 (kW_0 hL hv) (sX0_copyFrom_21 (kW_0 hL hw) (sX0_copyFrom_24 rfl (sX0_copyFrom_25 (kW_0 hL hw) (rW_0_7 hL hw) (sX0_copyFrom_28 rfl (sX0_copyFrom_29 (kW_0 hL hv) (rW_0_7 hL hv) (sX0_copyFrom_32 (kW_1 hL hw) (Nat.le_of_ble_eq_true rfl) (R_X2_copyFrom hL hw hv (h := (sX0_copyFrom_35 rfl (sX0_copyFrom_36 (kW_0 hL hw) (rW_0_8 hL hw) (sX0_copyFrom_39 rfl (sX0_copyFrom_40 (kW_0 hL hv) (rW_0_8 hL hv) (sX0_copyFrom_43 (kW_10 hL hw) (Nat.le_of_ble_eq_true rfl) (R_X4_copyFrom hL hw hv (h := (sX0_copyFrom_46 rfl (sX0_copyFrom_47 (kW_0 hL hw) (rW_0_9 hL hw) (sX0_copyFrom_50 rfl (sX0_copyFrom_51 (kW_0 hL hv) (rW_0_9 hL hv) (sX0_copyFrom_54 (kW_14 hL hw) (Nat.le_of_ble_eq_true rfl) (R_X5_copyFrom hL hw hv (h := (sX0_copyFrom_57 ?_)) (hd := (Nat.le_of_ble_eq_true rfl)) (e := e3)))))))) (hd := (Nat.le_of_ble_eq_true rfl)) (e := e2)))))))) (hd := (Nat.le_of_ble_eq_true rfl)) (e := e1)))))))))))))))))))
  obtain rfl := Option.some.inj e
  exact h
def J_X0_marry_127 (w : Nat) (i1 : Int32) (i2 : Int32) (i3 : Int32) (k1 : Int32) (k2 : Int32) (iv : am_I) : Option ((Int32 × am_I) ⊕ (am_I)) :=
  (if vp_b k1 5 then some (.inl ((i3 + 1), (am_w iv (w + 11) k1.toNatClampNeg k2))) else none)
theorem j_X0_marry_127 {E : am_E} {S : am_S} {Q : am_O → am_S → am_I → Prop} {w : Nat} (hL : am_Lay S) (hw : w = 2 ∨ w = 22) {i1 i2 i3 k1 k2 : Int32} {iv : am_I} {y : (Int32 × am_I) ⊕ (am_I)} (e : J_X0_marry_127 w i1 i2 i3 k1 k2 iv = some y) (hc : ∀ s, y = .inl s → am_R E 5 mX0_marry 0 0 82 [.ref w, .int i1, .int i2, .int s.1] [] S s.2 Q) (hx : ∀ a, y = .inr a → ∀ z1 z2 z3 : Value, am_R E 5 mX0_marry 0 0 134 [.ref w, z1, z2, z3] [] S a Q) : am_R E 5 mX0_marry 0 0 127 [.ref w, .int i1, .int i2, .int i3] [.int k2, .int k1, .ref (w + 11)] S iv Q := by
  replace e := am_ckv e; obtain ⟨c11, e⟩ := e
  refine (sX0_marry_127 (kW_11 hL hw) c11 (sX0_marry_128 (sX0_marry_131 ?_)))
  exact hc _ (Option.some.inj e).symm
def B_X0_marry_82 (w : Nat) (i1 : Int32) (i2 : Int32) (i3 : Int32) (iv : am_I) : Option ((Int32 × am_I) ⊕ (am_I)) :=
  (if (iv (w + 10) 0) ≤ i3 then some (.inr iv) else (if vp_b i3 5 then (if (iv (w + 11) i3.toNatClampNeg) = i2 then J_X0_marry_127 w i1 i2 i3 i3 i1 iv else (if vp_b i3 5 then J_X0_marry_127 w i1 i2 i3 i3 (iv (w + 11) i3.toNatClampNeg) iv else none)) else none))
theorem b_X0_marry_82 {E : am_E} {S : am_S} {Q : am_O → am_S → am_I → Prop} {w : Nat} (hL : am_Lay S) (hw : w = 2 ∨ w = 22) {i1 i2 i3 : Int32} {iv : am_I} {y : (Int32 × am_I) ⊕ (am_I)} (e : B_X0_marry_82 w i1 i2 i3 iv = some y) (hc : ∀ s, y = .inl s → am_R E 5 mX0_marry 0 0 82 [.ref w, .int i1, .int i2, .int s.1] [] S s.2 Q) (hx : ∀ a, y = .inr a → ∀ z1 z2 z3 : Value, am_R E 5 mX0_marry 0 0 134 [.ref w, z1, z2, z3] [] S a Q) : am_R E 5 mX0_marry 0 0 82 [.ref w, .int i1, .int i2, .int i3] [] S iv Q := by
  refine (sX0_marry_82 (sX0_marry_83 rfl (sX0_marry_84 (kW_0 hL hw) (rW_0_8 hL hw) (sX0_marry_87 (kW_10 hL hw) ?_))))
  refine sX0_marry_90 (fun hbr => ?_) (fun hbr => ?_)
  · replace e := am_pos hbr e
    exact hx _ (Option.some.inj e).symm _ _ _
  · replace e := am_neg hbr e
    replace e := am_ckv e; obtain ⟨c9, e⟩ := e
    refine (sX0_marry_93 rfl (sX0_marry_94 (kW_0 hL hw) (rW_0_8 hL hw) (sX0_marry_97 (kW_10 hL hw) (rW_10_1 hL hw) (sX0_marry_100 (sX0_marry_101 rfl (sX0_marry_102 (kW_0 hL hw) (rW_0_8 hL hw) (sX0_marry_105 (kW_10 hL hw) (rW_10_1 hL hw) (sX0_marry_108 (sX0_marry_109 (kW_11 hL hw) c9 (sX0_marry_110 ?_))))))))))
    refine sX0_marry_111 (fun hbr => ?_) (fun hbr => ?_)
    · replace e := am_neg hbr e
      replace e := am_ckv e; obtain ⟨c10, e⟩ := e
      refine (sX0_marry_118 rfl (sX0_marry_119 (kW_0 hL hw) (rW_0_8 hL hw) (sX0_marry_122 (kW_10 hL hw) (rW_10_1 hL hw) (sX0_marry_125 (sX0_marry_126 (kW_11 hL hw) c10 ?_)))))
      exact j_X0_marry_127 hL hw e hc hx
    · replace e := am_pos hbr e
      refine (sX0_marry_114 (sX0_marry_115 ?_))
      exact j_X0_marry_127 hL hw e hc hx
theorem l_X0_marry_82 {E : am_E} {S : am_S} {Q : am_O → am_S → am_I → Prop} {w : Nat} (hL : am_Lay S) (hw : w = 2 ∨ w = 22) {i1 i2 : Int32} (s : (Int32 × am_I)) {x : (am_I)} (e : am_loop (fun s : (Int32 × am_I) => B_X0_marry_82 w i1 i2 s.1 s.2) s = some x) (hx : ∀ z1 z2 z3 : Value, am_R E 5 mX0_marry 0 0 134 [.ref w, z1, z2, z3] [] S x Q) : am_R E 5 mX0_marry 0 0 82 [.ref w, .int i1, .int i2, .int s.1] [] S s.2 Q :=
  am_wh_sound (f := fun s : (Int32 × am_I) => B_X0_marry_82 w i1 i2 s.1 s.2) (P := fun s => am_R E 5 mX0_marry 0 0 82 [.ref w, .int i1, .int i2, .int s.1] [] S s.2 Q) (K := fun x => ∀ z1 z2 z3 : Value, am_R E 5 mX0_marry 0 0 134 [.ref w, z1, z2, z3] [] S x Q) (fun s y e hc hkk => b_X0_marry_82 hL hw e hc (fun a hy => hkk a hy)) am_fu s x e hx
def F_X0_marry (w : Nat) (i1 : Int32) (i2 : Int32) (iv : am_I) : Option (am_I) :=
  (if vp_b i1 10 then (if vp_b i2 10 then (if vp_b i1 10 then (if vp_b i1 10 then (if vp_b i1 10 then (if vp_b i1 10 then (if vp_b i2 10 then (if vp_b i1 10 then (am_o1 (am_loop (fun s : (Int32 × am_I) => B_X0_marry_82 w i1 i2 s.1 s.2) ((0 : Int32), (am_w (am_w (am_w iv (w + 3) i1.toNatClampNeg (if (iv (w + 3) i2.toNatClampNeg) < (iv (w + 3) i1.toNatClampNeg) then (iv (w + 3) i2.toNatClampNeg) else (iv (w + 3) i1.toNatClampNeg))) (w + 4) i1.toNatClampNeg (((am_w iv (w + 3) i1.toNatClampNeg (if (iv (w + 3) i2.toNatClampNeg) < (iv (w + 3) i1.toNatClampNeg) then (iv (w + 3) i2.toNatClampNeg) else (iv (w + 3) i1.toNatClampNeg))) (w + 3) i1.toNatClampNeg) + (1 : Int32))) (w + 6) i1.toNatClampNeg (if ((am_w (am_w iv (w + 3) i1.toNatClampNeg (if (iv (w + 3) i2.toNatClampNeg) < (iv (w + 3) i1.toNatClampNeg) then (iv (w + 3) i2.toNatClampNeg) else (iv (w + 3) i1.toNatClampNeg))) (w + 4) i1.toNatClampNeg (((am_w iv (w + 3) i1.toNatClampNeg (if (iv (w + 3) i2.toNatClampNeg) < (iv (w + 3) i1.toNatClampNeg) then (iv (w + 3) i2.toNatClampNeg) else (iv (w + 3) i1.toNatClampNeg))) (w + 3) i1.toNatClampNeg) + (1 : Int32))) (w + 6) i1.toNatClampNeg) < ((am_w (am_w iv (w + 3) i1.toNatClampNeg (if (iv (w + 3) i2.toNatClampNeg) < (iv (w + 3) i1.toNatClampNeg) then (iv (w + 3) i2.toNatClampNeg) else (iv (w + 3) i1.toNatClampNeg))) (w + 4) i1.toNatClampNeg (((am_w iv (w + 3) i1.toNatClampNeg (if (iv (w + 3) i2.toNatClampNeg) < (iv (w + 3) i1.toNatClampNeg) then (iv (w + 3) i2.toNatClampNeg) else (iv (w + 3) i1.toNatClampNeg))) (w + 3) i1.toNatClampNeg) + (1 : Int32))) (w + 6) i2.toNatClampNeg) then ((am_w (am_w iv (w + 3) i1.toNatClampNeg (if (iv (w + 3) i2.toNatClampNeg) < (iv (w + 3) i1.toNatClampNeg) then (iv (w + 3) i2.toNatClampNeg) else (iv (w + 3) i1.toNatClampNeg))) (w + 4) i1.toNatClampNeg (((am_w iv (w + 3) i1.toNatClampNeg (if (iv (w + 3) i2.toNatClampNeg) < (iv (w + 3) i1.toNatClampNeg) then (iv (w + 3) i2.toNatClampNeg) else (iv (w + 3) i1.toNatClampNeg))) (w + 3) i1.toNatClampNeg) + (1 : Int32))) (w + 6) i2.toNatClampNeg) else ((am_w (am_w iv (w + 3) i1.toNatClampNeg (if (iv (w + 3) i2.toNatClampNeg) < (iv (w + 3) i1.toNatClampNeg) then (iv (w + 3) i2.toNatClampNeg) else (iv (w + 3) i1.toNatClampNeg))) (w + 4) i1.toNatClampNeg (((am_w iv (w + 3) i1.toNatClampNeg (if (iv (w + 3) i2.toNatClampNeg) < (iv (w + 3) i1.toNatClampNeg) then (iv (w + 3) i2.toNatClampNeg) else (iv (w + 3) i1.toNatClampNeg))) (w + 3) i1.toNatClampNeg) + (1 : Int32))) (w + 6) i1.toNatClampNeg))))) fun a12 => (am_o1 (F_X0_settle w  a12) fun w13 => some w13)) else none) else none) else none) else none) else none) else none) else none) else none)
theorem R_X0_marry {E : am_E} {S : am_S} {Q : am_O → am_S → am_I → Prop} {w : Nat} (hL : am_Lay S) (hw : w = 2 ∨ w = 22) {i1 i2 : Int32} {iv : am_I} {y : am_I} (e : F_X0_marry w i1 i2 iv = some y) (h : Q (.inl none) S y) {d : Nat} (hd : 5 ≤ d) : am_M E d mX0_marry 0 0 [.ref w, .int i1, .int i2] S iv Q := by
  refine am_enter (js := [.double 0]) rfl pn_X0 rfl rfl rfl (Nat.le_of_ble_eq_true rfl) (am_R.deep ?_ hd)
  replace e := am_ckv e; obtain ⟨c1, e⟩ := e
  replace e := am_ckv e; obtain ⟨c2, e⟩ := e
  replace e := am_ckv e; obtain ⟨c3, e⟩ := e
  replace e := am_ckv e; obtain ⟨c4, e⟩ := e
  replace e := am_ckv e; obtain ⟨c5, e⟩ := e
  replace e := am_ckv e; obtain ⟨c6, e⟩ := e
  replace e := am_ckv e; obtain ⟨c7, e⟩ := e
  replace e := am_ckv e; obtain ⟨c8, e⟩ := e
  refine (sX0_marry_0 rfl (sX0_marry_1 (kW_0 hL hw) (rW_0_7 hL hw) (sX0_marry_4 (kW_1 hL hw) (rW_1_2 hL hw) (sX0_marry_7 (sX0_marry_8 rfl (sX0_marry_9 (kW_0 hL hw) (rW_0_7 hL hw) (sX0_marry_12 (kW_1 hL hw) (rW_1_2 hL hw) (sX0_marry_15 (sX0_marry_16 (kW_3 hL hw) c1 (sX0_marry_17 rfl (sX0_marry_18 (kW_0 hL hw) (rW_0_7 hL hw) (sX0_marry_21 (kW_1 hL hw) (rW_1_2 hL hw) (sX0_marry_24 (sX0_marry_25 (kW_3 hL hw) c2 (sX0_marry_26 (Nat.le_of_ble_eq_true rfl) (J_min (sX0_marry_29 (kW_3 hL hw) c3 (sX0_marry_30 rfl (sX0_marry_31 (kW_0 hL hw) (rW_0_7 hL hw) (sX0_marry_34 (kW_1 hL hw) (rW_1_3 hL hw) (sX0_marry_37 (sX0_marry_38 rfl (sX0_marry_39 (kW_0 hL hw) (rW_0_7 hL hw) (sX0_marry_42 (kW_1 hL hw) (rW_1_2 hL hw) (sX0_marry_45 (sX0_marry_46 (kW_3 hL hw) c4 (sX0_marry_47 (sX0_marry_48 (sX0_marry_49 (kW_4 hL hw) c5 (sX0_marry_50 rfl (sX0_marry_51 (kW_0 hL hw) (rW_0_7 hL hw) (sX0_marry_54 (kW_1 hL hw) (rW_1_5 hL hw) (sX0_marry_57 (sX0_marry_58 rfl (sX0_marry_59 (kW_0 hL hw) (rW_0_7 hL hw) (sX0_marry_62 (kW_1 hL hw) (rW_1_5 hL hw) (sX0_marry_65 (sX0_marry_66 (kW_6 hL hw) c6 (sX0_marry_67 rfl (sX0_marry_68 (kW_0 hL hw) (rW_0_7 hL hw) (sX0_marry_71 (kW_1 hL hw) (rW_1_5 hL hw) (sX0_marry_74 (sX0_marry_75 (kW_6 hL hw) c7 (sX0_marry_76 (Nat.le_of_ble_eq_true rfl) (J_max (sX0_marry_79 (kW_6 hL hw) c8 (sX0_marry_80 (sX0_marry_81 ?_))))))))))))))))))))))))))))))))))))))))))))))))
  replace e := am_o1_i e; obtain ⟨a12, e12, e⟩ := e
  refine l_X0_marry_82 hL hw _ e12 ?_
  intro z1 z2 z3
  replace e := am_o1_i e; obtain ⟨w13, e13, e⟩ := e
  refine (sX0_marry_134 rfl (sX0_marry_135 (kW_0 hL hw) (Nat.le_of_ble_eq_true rfl) (R_X0_settle hL hw (h := (sX0_marry_138 ?_)) (hd := (Nat.le_of_ble_eq_true rfl)) (e := e13))))
  obtain rfl := Option.some.inj e
  exact h
def F_X0_rentOf (w : Nat) (i1 : Int32) (iv : am_I) : Option (Int32) :=
  (if vp_b i1 10 then (if (iv (w + 2) i1.toNatClampNeg) = (2 : Int32) then some (0 : Int32) else (if vp_b i1 10 then (if vp_b i1 10 then (am_o1 (F_X2_isWide w i1 iv) fun v4 => (if v4 = 0 then some (((iv w 3) + ((iv w 4) * (iv (w + 5) i1.toNatClampNeg))) + ((iv w 5) * (iv (w + 6) i1.toNatClampNeg))) else some ((2 : Int32) * (((iv w 3) + ((iv w 4) * (iv (w + 5) i1.toNatClampNeg))) + ((iv w 5) * (iv (w + 6) i1.toNatClampNeg)))))) else none) else none)) else none)
theorem R_X0_rentOf {E : am_E} {S : am_S} {Q : am_O → am_S → am_I → Prop} {w : Nat} (hL : am_Lay S) (hw : w = 2 ∨ w = 22) {i1 : Int32} {iv : am_I} {y : Int32} (e : F_X0_rentOf w i1 iv = some y) (h : Q (.inl (some (.int y))) S iv) {d : Nat} (hd : 1 ≤ d) : am_M E d mX0_rentOf 0 0 [.ref w, .int i1] S iv Q := by
  refine am_enter (js := [.double 0]) rfl pn_X0 rfl rfl rfl (Nat.le_of_ble_eq_true rfl) (am_R.deep ?_ hd)
  replace e := am_ckv e; obtain ⟨c1, e⟩ := e
  refine (sX0_rentOf_0 rfl (sX0_rentOf_1 (kW_0 hL hw) (rW_0_7 hL hw) (sX0_rentOf_4 (kW_1 hL hw) (rW_1_1 hL hw) (sX0_rentOf_7 (sX0_rentOf_8 (kW_2 hL hw) c1 (sX0_rentOf_9 ?_))))))
  refine sX0_rentOf_10 (fun hbr => ?_) (fun hbr => ?_)
  · replace e := am_neg hbr e
    replace e := am_ckv e; obtain ⟨c2, e⟩ := e
    replace e := am_ckv e; obtain ⟨c3, e⟩ := e
    replace e := am_o1_i e; obtain ⟨v4, e4, e⟩ := e
    refine (sX0_rentOf_15 rfl (sX0_rentOf_16 (kW_0 hL hw) (sX0_rentOf_19 rfl (sX0_rentOf_20 (kW_0 hL hw) (sX0_rentOf_23 rfl (sX0_rentOf_24 (kW_0 hL hw) (rW_0_7 hL hw) (sX0_rentOf_27 (kW_1 hL hw) (rW_1_4 hL hw) (sX0_rentOf_30 (sX0_rentOf_31 (kW_5 hL hw) c2 (sX0_rentOf_32 (sX0_rentOf_33 (sX0_rentOf_34 rfl (sX0_rentOf_35 (kW_0 hL hw) (sX0_rentOf_38 rfl (sX0_rentOf_39 (kW_0 hL hw) (rW_0_7 hL hw) (sX0_rentOf_42 (kW_1 hL hw) (rW_1_5 hL hw) (sX0_rentOf_45 (sX0_rentOf_46 (kW_6 hL hw) c3 (sX0_rentOf_47 (sX0_rentOf_48 (sX0_rentOf_49 (sX0_rentOf_50 rfl (sX0_rentOf_51 (kW_0 hL hw) (rW_0_7 hL hw) (sX0_rentOf_54 (sX0_rentOf_55 (kW_1 hL hw) (Nat.le_of_ble_eq_true rfl) (R_X2_isWide hL hw (h := ?_) (hd := (Nat.le_of_ble_eq_true rfl)) (e := e4)))))))))))))))))))))))))))
    refine sX0_rentOf_58 (fun hbr => ?_) (fun hbr => ?_)
    · replace e := am_pos hbr e
      refine (sX0_rentOf_67 (sX0_rentOf_68 ?_))
      obtain rfl := Option.some.inj e
      exact h
    · replace e := am_neg hbr e
      refine (sX0_rentOf_61 (sX0_rentOf_62 (sX0_rentOf_63 (sX0_rentOf_64 (sX0_rentOf_68 ?_)))))
      obtain rfl := Option.some.inj e
      exact h
  · replace e := am_pos hbr e
    refine (sX0_rentOf_13 (sX0_rentOf_14 ?_))
    obtain rfl := Option.some.inj e
    exact h
def B_X0_handsNear_5 (w : Nat) (i1 : Int32) (i2 : Int32) (iv : am_I) (i3 : Int32) (i4 : Int32) : Option ((Int32 × Int32) ⊕ (Int32)) :=
  (if (iv (w + 10) 0) ≤ i4 then some (.inr i3) else (if vp_b i4 5 then (if (iv (w + 11) i4.toNatClampNeg) = i1 then some (.inl (i3, (i4 + 1))) else (if ((i2 >>> ((iv (w + 11) i4.toNatClampNeg) &&& 31)) &&& (1 : Int32)) = 0 then some (.inl (i3, (i4 + 1))) else (if vp_b (iv (w + 11) i4.toNatClampNeg) 10 then (if vp_b i1 10 then (if (iv w 2) < (if 0 ≤ ((iv (w + 5) (iv (w + 11) i4.toNatClampNeg).toNatClampNeg) - (iv (w + 5) i1.toNatClampNeg)) then ((iv (w + 5) (iv (w + 11) i4.toNatClampNeg).toNatClampNeg) - (iv (w + 5) i1.toNatClampNeg)) else -((iv (w + 5) (iv (w + 11) i4.toNatClampNeg).toNatClampNeg) - (iv (w + 5) i1.toNatClampNeg))) then some (.inl (i3, (i4 + 1))) else (am_o1 (F_X2_columnsApart w (iv (w + 11) i4.toNatClampNeg) i1 iv) fun v4 => (if (1 : Int32) < v4 then some (.inl (i3, (i4 + 1))) else some (.inl ((i3 ||| ((1 : Int32) <<< (i4 &&& 31))), (i4 + 1)))))) else none) else none))) else none))
theorem b_X0_handsNear_5 {E : am_E} {S : am_S} {Q : am_O → am_S → am_I → Prop} {w : Nat} (hL : am_Lay S) (hw : w = 2 ∨ w = 22) {z5 : Value} {i1 i2 i3 i4 : Int32} {iv : am_I} {y : (Int32 × Int32) ⊕ (Int32)} (e : B_X0_handsNear_5 w i1 i2 iv i3 i4 = some y) (hc : ∀ s, y = .inl s → ∀ z5 : Value, am_R E 2 mX0_handsNear 0 0 5 [.ref w, .int i1, .int i2, .int s.1, .int s.2, z5] [] S iv Q) (hx : ∀ a, y = .inr a → ∀ z0 z1 z2 z4 z5 : Value, am_R E 2 mX0_handsNear 0 0 101 [z0, z1, z2, .int a, z4, z5] [] S iv Q) : am_R E 2 mX0_handsNear 0 0 5 [.ref w, .int i1, .int i2, .int i3, .int i4, z5] [] S iv Q := by
  refine (sX0_handsNear_5 (sX0_handsNear_7 rfl (sX0_handsNear_8 (kW_0 hL hw) (rW_0_8 hL hw) (sX0_handsNear_11 (kW_10 hL hw) ?_))))
  refine sX0_handsNear_14 (fun hbr => ?_) (fun hbr => ?_)
  · replace e := am_pos hbr e
    exact hx _ (Option.some.inj e).symm _ _ _ _ _
  · replace e := am_neg hbr e
    replace e := am_ckv e; obtain ⟨c1, e⟩ := e
    refine (sX0_handsNear_17 rfl (sX0_handsNear_18 (kW_0 hL hw) (rW_0_8 hL hw) (sX0_handsNear_21 (kW_10 hL hw) (rW_10_1 hL hw) (sX0_handsNear_24 (sX0_handsNear_26 (kW_11 hL hw) c1 (sX0_handsNear_27 (sX0_handsNear_29 (sX0_handsNear_31 ?_))))))))
    refine sX0_handsNear_32 (fun hbr => ?_) (fun hbr => ?_)
    · replace e := am_pos hbr e
      refine (sX0_handsNear_95 (sX0_handsNear_98 ?_))
      exact hc _ (Option.some.inj e).symm _
    · replace e := am_neg hbr e
      refine (sX0_handsNear_35 (sX0_handsNear_36 (sX0_handsNear_38 (sX0_handsNear_39 (sX0_handsNear_40 ?_)))))
      refine sX0_handsNear_41 (fun hbr => ?_) (fun hbr => ?_)
      · replace e := am_pos hbr e
        refine (sX0_handsNear_95 (sX0_handsNear_98 ?_))
        exact hc _ (Option.some.inj e).symm _
      · replace e := am_neg hbr e
        replace e := am_ckv e; obtain ⟨c2, e⟩ := e
        replace e := am_ckv e; obtain ⟨c3, e⟩ := e
        refine (sX0_handsNear_44 rfl (sX0_handsNear_45 (kW_0 hL hw) (rW_0_7 hL hw) (sX0_handsNear_48 (kW_1 hL hw) (rW_1_4 hL hw) (sX0_handsNear_51 (sX0_handsNear_53 (kW_5 hL hw) c2 (sX0_handsNear_54 rfl (sX0_handsNear_55 (kW_0 hL hw) (rW_0_7 hL hw) (sX0_handsNear_58 (kW_1 hL hw) (rW_1_4 hL hw) (sX0_handsNear_61 (sX0_handsNear_62 (kW_5 hL hw) c3 (sX0_handsNear_63 (sX0_handsNear_64 (Nat.le_of_ble_eq_true rfl) (J_abs (sX0_handsNear_67 rfl (sX0_handsNear_68 (kW_0 hL hw) ?_)))))))))))))))
        refine sX0_handsNear_71 (fun hbr => ?_) (fun hbr => ?_)
        · replace e := am_pos hbr e
          refine (sX0_handsNear_95 (sX0_handsNear_98 ?_))
          exact hc _ (Option.some.inj e).symm _
        · replace e := am_neg hbr e
          replace e := am_o1_i e; obtain ⟨v4, e4, e⟩ := e
          refine (sX0_handsNear_74 rfl (sX0_handsNear_75 (kW_0 hL hw) (rW_0_7 hL hw) (sX0_handsNear_78 (sX0_handsNear_80 (sX0_handsNear_81 (kW_1 hL hw) (Nat.le_of_ble_eq_true rfl) (R_X2_columnsApart hL hw (h := (sX0_handsNear_84 ?_)) (hd := (Nat.le_of_ble_eq_true rfl)) (e := e4)))))))
          refine sX0_handsNear_85 (fun hbr => ?_) (fun hbr => ?_)
          · replace e := am_pos hbr e
            refine (sX0_handsNear_95 (sX0_handsNear_98 ?_))
            exact hc _ (Option.some.inj e).symm _
          · replace e := am_neg hbr e
            refine (sX0_handsNear_88 (sX0_handsNear_89 (sX0_handsNear_90 (sX0_handsNear_92 (sX0_handsNear_93 (sX0_handsNear_94 (sX0_handsNear_95 (sX0_handsNear_98 ?_))))))))
            exact hc _ (Option.some.inj e).symm _
theorem l_X0_handsNear_5 {E : am_E} {S : am_S} {Q : am_O → am_S → am_I → Prop} {w : Nat} (hL : am_Lay S) (hw : w = 2 ∨ w = 22) {i1 i2 : Int32} {iv : am_I} (s : (Int32 × Int32)) {x : (Int32)} (e : am_loop (fun s : (Int32 × Int32) => B_X0_handsNear_5 w i1 i2 iv s.1 s.2) s = some x) (hx : ∀ z0 z1 z2 z4 z5 : Value, am_R E 2 mX0_handsNear 0 0 101 [z0, z1, z2, .int x, z4, z5] [] S iv Q) : ∀ z5 : Value, am_R E 2 mX0_handsNear 0 0 5 [.ref w, .int i1, .int i2, .int s.1, .int s.2, z5] [] S iv Q :=
  am_wh_sound (f := fun s : (Int32 × Int32) => B_X0_handsNear_5 w i1 i2 iv s.1 s.2) (P := fun s => ∀ z5 : Value, am_R E 2 mX0_handsNear 0 0 5 [.ref w, .int i1, .int i2, .int s.1, .int s.2, z5] [] S iv Q) (K := fun x => ∀ z0 z1 z2 z4 z5 : Value, am_R E 2 mX0_handsNear 0 0 101 [z0, z1, z2, .int x, z4, z5] [] S iv Q) (fun s y e hc hkk => fun z5 => b_X0_handsNear_5 hL hw e hc (fun a hy => hkk a hy)) am_fu s x e hx
def F_X0_handsNear (w : Nat) (i1 : Int32) (i2 : Int32) (iv : am_I) : Option (Int32) :=
  (am_o1 (am_loop (fun s : (Int32 × Int32) => B_X0_handsNear_5 w i1 i2 iv s.1 s.2) ((0 : Int32), (0 : Int32))) fun a5 => some a5)
theorem R_X0_handsNear {E : am_E} {S : am_S} {Q : am_O → am_S → am_I → Prop} {w : Nat} (hL : am_Lay S) (hw : w = 2 ∨ w = 22) {i1 i2 : Int32} {iv : am_I} {y : Int32} (e : F_X0_handsNear w i1 i2 iv = some y) (h : Q (.inl (some (.int y))) S iv) {d : Nat} (hd : 2 ≤ d) : am_M E d mX0_handsNear 0 0 [.ref w, .int i1, .int i2] S iv Q := by
  refine am_enter (js := [.double 0, .double 0, .double 0]) rfl pn_X0 rfl rfl rfl (Nat.le_of_ble_eq_true rfl) (am_R.deep ?_ hd)
  refine (sX0_handsNear_0 (sX0_handsNear_1 (sX0_handsNear_2 (sX0_handsNear_3 ?_))))
  replace e := am_o1_i e; obtain ⟨a5, e5, e⟩ := e
  refine l_X0_handsNear_5 hL hw _ e5 ?_ _
  intro z0 z1 z2 z4 z5
  refine (sX0_handsNear_101 (sX0_handsNear_102 ?_))
  obtain rfl := Option.some.inj e
  exact h
def B_X0_isSound_16 (w : Nat) (i1 : Int32) (iv : am_I) (i2 : Int32) : Option ((Int32) ⊕ ((Unit) ⊕ (Int32))) :=
  (if (iv (w + 1) 0) ≤ i2 then some (.inr (.inl ())) else (if ((i1 >>> (i2 &&& 31)) &&& (1 : Int32)) = 0 then some (.inl (i2 + 1)) else (if vp_b i2 10 then (if (i1 &&& (iv (w + 8) i2.toNatClampNeg)) = 0 then some (.inl (i2 + 1)) else some (.inr (.inr (0 : Int32)))) else none)))
theorem b_X0_isSound_16 {E : am_E} {S : am_S} {Q : am_O → am_S → am_I → Prop} {w : Nat} (hL : am_Lay S) (hw : w = 2 ∨ w = 22) {i1 i2 : Int32} {iv : am_I} {y : (Int32) ⊕ ((Unit) ⊕ (Int32))} (e : B_X0_isSound_16 w i1 iv i2 = some y) (hc : ∀ s, y = .inl s → am_R E 0 mX0_isSound 0 0 16 [.ref w, .int i1, .int s] [] S iv Q) (hx : ∀ a, y = .inr (.inl a) → ∀ z0 z1 z2 : Value, am_R E 0 mX0_isSound 0 0 57 [z0, z1, z2] [] S iv Q) (hr : ∀ r, y = .inr (.inr r) → Q (.inl (some (.int r))) S iv) : am_R E 0 mX0_isSound 0 0 16 [.ref w, .int i1, .int i2] [] S iv Q := by
  refine (sX0_isSound_16 (sX0_isSound_17 rfl (sX0_isSound_18 (kW_0 hL hw) (rW_0_7 hL hw) (sX0_isSound_21 (kW_1 hL hw) ?_))))
  refine sX0_isSound_24 (fun hbr => ?_) (fun hbr => ?_)
  · replace e := am_pos hbr e
    exact hx _ (Option.some.inj e).symm _ _ _
  · replace e := am_neg hbr e
    refine (sX0_isSound_27 (sX0_isSound_28 (sX0_isSound_29 (sX0_isSound_30 (sX0_isSound_31 ?_)))))
    refine sX0_isSound_32 (fun hbr => ?_) (fun hbr => ?_)
    · replace e := am_pos hbr e
      refine (sX0_isSound_51 (sX0_isSound_54 ?_))
      exact hc _ (Option.some.inj e).symm
    · replace e := am_neg hbr e
      replace e := am_ckv e; obtain ⟨c1, e⟩ := e
      refine (sX0_isSound_35 (sX0_isSound_36 rfl (sX0_isSound_37 (kW_0 hL hw) (rW_0_7 hL hw) (sX0_isSound_40 (kW_1 hL hw) (rW_1_7 hL hw) (sX0_isSound_43 (sX0_isSound_44 (kW_8 hL hw) c1 (sX0_isSound_45 ?_)))))))
      refine sX0_isSound_46 (fun hbr => ?_) (fun hbr => ?_)
      · replace e := am_pos hbr e
        refine (sX0_isSound_51 (sX0_isSound_54 ?_))
        exact hc _ (Option.some.inj e).symm
      · replace e := am_neg hbr e
        refine (sX0_isSound_49 (sX0_isSound_50 rfl ?_))
        exact hr _ (Option.some.inj e).symm
theorem l_X0_isSound_16 {E : am_E} {S : am_S} {Q : am_O → am_S → am_I → Prop} {w : Nat} (hL : am_Lay S) (hw : w = 2 ∨ w = 22) {i1 : Int32} {iv : am_I} (s : (Int32)) {x : ((Unit) ⊕ (Int32))} (e : am_loop (fun s : (Int32) => B_X0_isSound_16 w i1 iv s) s = some x) (hx : ∀ a, x = .inl a → ∀ z0 z1 z2 : Value, am_R E 0 mX0_isSound 0 0 57 [z0, z1, z2] [] S iv Q) (hr : ∀ r, x = .inr r → Q (.inl (some (.int r))) S iv) : am_R E 0 mX0_isSound 0 0 16 [.ref w, .int i1, .int s] [] S iv Q :=
  am_wh_sound (f := fun s : (Int32) => B_X0_isSound_16 w i1 iv s) (P := fun s => am_R E 0 mX0_isSound 0 0 16 [.ref w, .int i1, .int s] [] S iv Q) (K := fun x => (∀ a, x = .inl a → ∀ z0 z1 z2 : Value, am_R E 0 mX0_isSound 0 0 57 [z0, z1, z2] [] S iv Q) ∧ (∀ r, x = .inr r → Q (.inl (some (.int r))) S iv)) (fun s y e hc hkk => b_X0_isSound_16 hL hw e hc (fun a hy => (hkk _ hy).1 a rfl) (fun r hy => (hkk _ hy).2 r rfl)) am_fu s x e ⟨hx, hr⟩
def F_X0_isSound (w : Nat) (i1 : Int32) (iv : am_I) : Option (Int32) :=
  (if (i1 &&& (iv (w + 1) 10)) = 0 then (am_lp (am_loop (fun s : (Int32) => B_X0_isSound_16 w i1 iv s) (0 : Int32)) (fun a2 => some (1 : Int32)) (fun r2 => some r2)) else some (0 : Int32))
theorem R_X0_isSound {E : am_E} {S : am_S} {Q : am_O → am_S → am_I → Prop} {w : Nat} (hL : am_Lay S) (hw : w = 2 ∨ w = 22) {i1 : Int32} {iv : am_I} {y : Int32} (e : F_X0_isSound w i1 iv = some y) (h : Q (.inl (some (.int y))) S iv) {d : Nat} (hd : 0 ≤ d) : am_M E d mX0_isSound 0 0 [.ref w, .int i1] S iv Q := by
  refine am_enter (js := [.double 0]) rfl pn_X0 rfl rfl rfl (Nat.le_of_ble_eq_true rfl) (am_R.deep ?_ hd)
  refine (sX0_isSound_0 (sX0_isSound_1 rfl (sX0_isSound_2 (kW_0 hL hw) (rW_0_7 hL hw) (sX0_isSound_5 (kW_1 hL hw) (sX0_isSound_8 ?_)))))
  refine sX0_isSound_9 (fun hbr => ?_) (fun hbr => ?_)
  · replace e := am_pos hbr e
    refine (sX0_isSound_14 (sX0_isSound_15 ?_))
    replace e := am_lp_i e; rcases e with ⟨a2, e2, e⟩ | ⟨r2, e2, e⟩
    · refine l_X0_isSound_16 hL hw _ e2 (fun a hq9 => ?_) (fun r hq9 => nomatch hq9)
      obtain rfl := Sum.inl.inj hq9
      intro z0 z1 z2
      refine (sX0_isSound_57 (sX0_isSound_58 rfl ?_))
      obtain rfl := Option.some.inj e
      exact h
    · refine l_X0_isSound_16 hL hw _ e2 (fun a hq9 => nomatch hq9) (fun r hq9 => ?_)
      obtain rfl := Sum.inr.inj hq9
      obtain rfl := Option.some.inj e
      exact h
  · replace e := am_neg hbr e
    refine (sX0_isSound_12 (sX0_isSound_13 rfl ?_))
    obtain rfl := Option.some.inj e
    exact h
def J_X0_climb_66 (w : Nat) (i1 : Int32) (i2 : Int32) (i3 : Int32) (i4 : Int32) (iv : am_I) : Option ((Int32 × Int32) ⊕ (Int32)) :=
  some (.inl ((i2 ||| ((1 : Int32) <<< (i4 &&& 31))), (i4 + 1)))
theorem j_X0_climb_66 {E : am_E} {S : am_S} {Q : am_O → am_S → am_I → Prop} {w : Nat} (hL : am_Lay S) (hw : w = 2 ∨ w = 22) {i1 i2 i3 i4 : Int32} {iv : am_I} {y : (Int32 × Int32) ⊕ (Int32)} (e : J_X0_climb_66 w i1 i2 i3 i4 iv = some y) (hc : ∀ s, y = .inl s → am_R E 0 mX0_climb 0 0 15 [.ref w, .int i1, .int s.1, .int i3, .int s.2] [] S iv Q) (hx : ∀ a, y = .inr a → ∀ z4 : Value, am_R E 0 mX0_climb 0 0 79 [.ref w, .int i1, .int a, .int i3, z4] [] S iv Q) : am_R E 0 mX0_climb 0 0 66 [.ref w, .int i1, .int i2, .int i3, .int i4] [] S iv Q := by
  refine (sX0_climb_66 (sX0_climb_67 (sX0_climb_68 (sX0_climb_70 (sX0_climb_71 (sX0_climb_72 (sX0_climb_73 (sX0_climb_76 ?_))))))))
  exact hc _ (Option.some.inj e).symm
def B_X0_climb_15 (w : Nat) (i1 : Int32) (i3 : Int32) (iv : am_I) (i2 : Int32) (i4 : Int32) : Option ((Int32 × Int32) ⊕ (Int32)) :=
  (if (iv (w + 1) 0) ≤ i4 then some (.inr i2) else (if vp_b i4 10 then (if (iv (w + 5) i4.toNatClampNeg) = i3 then (if i3 < (iv w 2) then J_X0_climb_66 w i1 i2 i3 i4 iv else (if vp_b i4 10 then (if ((i1 &&& i2) &&& (iv (w + 9) i4.toNatClampNeg)) = 0 then some (.inl (i2, (i4 + 1))) else J_X0_climb_66 w i1 i2 i3 i4 iv) else none)) else some (.inl (i2, (i4 + 1)))) else none))
theorem b_X0_climb_15 {E : am_E} {S : am_S} {Q : am_O → am_S → am_I → Prop} {w : Nat} (hL : am_Lay S) (hw : w = 2 ∨ w = 22) {i1 i3 i2 i4 : Int32} {iv : am_I} {y : (Int32 × Int32) ⊕ (Int32)} (e : B_X0_climb_15 w i1 i3 iv i2 i4 = some y) (hc : ∀ s, y = .inl s → am_R E 0 mX0_climb 0 0 15 [.ref w, .int i1, .int s.1, .int i3, .int s.2] [] S iv Q) (hx : ∀ a, y = .inr a → ∀ z4 : Value, am_R E 0 mX0_climb 0 0 79 [.ref w, .int i1, .int a, .int i3, z4] [] S iv Q) : am_R E 0 mX0_climb 0 0 15 [.ref w, .int i1, .int i2, .int i3, .int i4] [] S iv Q := by
  refine (sX0_climb_15 (sX0_climb_17 rfl (sX0_climb_18 (kW_0 hL hw) (rW_0_7 hL hw) (sX0_climb_21 (kW_1 hL hw) ?_))))
  refine sX0_climb_24 (fun hbr => ?_) (fun hbr => ?_)
  · replace e := am_pos hbr e
    exact hx _ (Option.some.inj e).symm _
  · replace e := am_neg hbr e
    replace e := am_ckv e; obtain ⟨c1, e⟩ := e
    refine (sX0_climb_27 rfl (sX0_climb_28 (kW_0 hL hw) (rW_0_7 hL hw) (sX0_climb_31 (kW_1 hL hw) (rW_1_4 hL hw) (sX0_climb_34 (sX0_climb_36 (kW_5 hL hw) c1 (sX0_climb_37 ?_))))))
    refine sX0_climb_38 (fun hbr => ?_) (fun hbr => ?_)
    · replace e := am_neg hbr e
      refine (sX0_climb_73 (sX0_climb_76 ?_))
      exact hc _ (Option.some.inj e).symm
    · replace e := am_pos hbr e
      refine (sX0_climb_41 (sX0_climb_42 rfl (sX0_climb_43 (kW_0 hL hw) ?_)))
      refine sX0_climb_46 (fun hbr => ?_) (fun hbr => ?_)
      · replace e := am_pos hbr e
        exact j_X0_climb_66 hL hw e hc hx
      · replace e := am_neg hbr e
        replace e := am_ckv e; obtain ⟨c2, e⟩ := e
        refine (sX0_climb_49 (sX0_climb_50 (sX0_climb_51 (sX0_climb_52 rfl (sX0_climb_53 (kW_0 hL hw) (rW_0_7 hL hw) (sX0_climb_56 (kW_1 hL hw) (rW_1_8 hL hw) (sX0_climb_59 (sX0_climb_61 (kW_9 hL hw) c2 (sX0_climb_62 ?_)))))))))
        refine sX0_climb_63 (fun hbr => ?_) (fun hbr => ?_)
        · replace e := am_pos hbr e
          refine (sX0_climb_73 (sX0_climb_76 ?_))
          exact hc _ (Option.some.inj e).symm
        · replace e := am_neg hbr e
          exact j_X0_climb_66 hL hw e hc hx
theorem l_X0_climb_15 {E : am_E} {S : am_S} {Q : am_O → am_S → am_I → Prop} {w : Nat} (hL : am_Lay S) (hw : w = 2 ∨ w = 22) {i1 i3 : Int32} {iv : am_I} (s : (Int32 × Int32)) {x : (Int32)} (e : am_loop (fun s : (Int32 × Int32) => B_X0_climb_15 w i1 i3 iv s.1 s.2) s = some x) (hx : ∀ z4 : Value, am_R E 0 mX0_climb 0 0 79 [.ref w, .int i1, .int x, .int i3, z4] [] S iv Q) : am_R E 0 mX0_climb 0 0 15 [.ref w, .int i1, .int s.1, .int i3, .int s.2] [] S iv Q :=
  am_wh_sound (f := fun s : (Int32 × Int32) => B_X0_climb_15 w i1 i3 iv s.1 s.2) (P := fun s => am_R E 0 mX0_climb 0 0 15 [.ref w, .int i1, .int s.1, .int i3, .int s.2] [] S iv Q) (K := fun x => ∀ z4 : Value, am_R E 0 mX0_climb 0 0 79 [.ref w, .int i1, .int x, .int i3, z4] [] S iv Q) (fun s y e hc hkk => b_X0_climb_15 hL hw e hc (fun a hy => hkk a hy)) am_fu s x e hx
def B_X0_climb_4 (w : Nat) (i1 : Int32) (iv : am_I) (i2 : Int32) (i3 : Int32) : Option ((Int32 × Int32) ⊕ (Int32)) :=
  (if (iv w 1) ≤ i3 then some (.inr i2) else (am_o1 (am_loop (fun s : (Int32 × Int32) => B_X0_climb_15 w i1 i3 iv s.1 s.2) (i2, (0 : Int32))) fun a3 => some (.inl (a3, (i3 + 1)))))
theorem b_X0_climb_4 {E : am_E} {S : am_S} {Q : am_O → am_S → am_I → Prop} {w : Nat} (hL : am_Lay S) (hw : w = 2 ∨ w = 22) {z4 : Value} {i1 i2 i3 : Int32} {iv : am_I} {y : (Int32 × Int32) ⊕ (Int32)} (e : B_X0_climb_4 w i1 iv i2 i3 = some y) (hc : ∀ s, y = .inl s → ∀ z4 : Value, am_R E 0 mX0_climb 0 0 4 [.ref w, .int i1, .int s.1, .int s.2, z4] [] S iv Q) (hx : ∀ a, y = .inr a → ∀ z0 z1 z3 z4 : Value, am_R E 0 mX0_climb 0 0 85 [z0, z1, .int a, z3, z4] [] S iv Q) : am_R E 0 mX0_climb 0 0 4 [.ref w, .int i1, .int i2, .int i3, z4] [] S iv Q := by
  refine (sX0_climb_4 (sX0_climb_5 rfl (sX0_climb_6 (kW_0 hL hw) ?_)))
  refine sX0_climb_9 (fun hbr => ?_) (fun hbr => ?_)
  · replace e := am_pos hbr e
    exact hx _ (Option.some.inj e).symm _ _ _ _
  · replace e := am_neg hbr e
    refine (sX0_climb_12 (sX0_climb_13 ?_))
    replace e := am_o1_i e; obtain ⟨a3, e3, e⟩ := e
    refine l_X0_climb_15 hL hw _ e3 ?_
    intro z4
    refine (sX0_climb_79 (sX0_climb_82 ?_))
    exact hc _ (Option.some.inj e).symm _
theorem l_X0_climb_4 {E : am_E} {S : am_S} {Q : am_O → am_S → am_I → Prop} {w : Nat} (hL : am_Lay S) (hw : w = 2 ∨ w = 22) {i1 : Int32} {iv : am_I} (s : (Int32 × Int32)) {x : (Int32)} (e : am_loop (fun s : (Int32 × Int32) => B_X0_climb_4 w i1 iv s.1 s.2) s = some x) (hx : ∀ z0 z1 z3 z4 : Value, am_R E 0 mX0_climb 0 0 85 [z0, z1, .int x, z3, z4] [] S iv Q) : ∀ z4 : Value, am_R E 0 mX0_climb 0 0 4 [.ref w, .int i1, .int s.1, .int s.2, z4] [] S iv Q :=
  am_wh_sound (f := fun s : (Int32 × Int32) => B_X0_climb_4 w i1 iv s.1 s.2) (P := fun s => ∀ z4 : Value, am_R E 0 mX0_climb 0 0 4 [.ref w, .int i1, .int s.1, .int s.2, z4] [] S iv Q) (K := fun x => ∀ z0 z1 z3 z4 : Value, am_R E 0 mX0_climb 0 0 85 [z0, z1, .int x, z3, z4] [] S iv Q) (fun s y e hc hkk => fun z4 => b_X0_climb_4 hL hw e hc (fun a hy => hkk a hy)) am_fu s x e hx
def F_X0_climb (w : Nat) (i1 : Int32) (iv : am_I) : Option (Int32) :=
  (am_o1 (am_loop (fun s : (Int32 × Int32) => B_X0_climb_4 w i1 iv s.1 s.2) ((0 : Int32), (0 : Int32))) fun a4 => some a4)
theorem R_X0_climb {E : am_E} {S : am_S} {Q : am_O → am_S → am_I → Prop} {w : Nat} (hL : am_Lay S) (hw : w = 2 ∨ w = 22) {i1 : Int32} {iv : am_I} {y : Int32} (e : F_X0_climb w i1 iv = some y) (h : Q (.inl (some (.int y))) S iv) {d : Nat} (hd : 0 ≤ d) : am_M E d mX0_climb 0 0 [.ref w, .int i1] S iv Q := by
  refine am_enter (js := [.double 0, .double 0, .double 0]) rfl pn_X0 rfl rfl rfl (Nat.le_of_ble_eq_true rfl) (am_R.deep ?_ hd)
  refine (sX0_climb_0 (sX0_climb_1 (sX0_climb_2 (sX0_climb_3 ?_))))
  replace e := am_o1_i e; obtain ⟨a4, e4, e⟩ := e
  refine l_X0_climb_4 hL hw _ e4 ?_ _
  intro z0 z1 z3 z4
  refine (sX0_climb_85 (sX0_climb_86 ?_))
  obtain rfl := Option.some.inj e
  exact h
def F_X0_lookAt (w : Nat) (i1 : Int32) (i2 : Int32) (iv : am_I) : Option (am_I) :=
  (if vp_b i1 10 then (if vp_b i1 10 then (if vp_b i1 10 then (if vp_b i1 10 then (if vp_b i1 10 then some (am_w (am_w (am_w (am_w (am_w (am_w (am_w iv (w + 18) (0 : Int32).toNatClampNeg (iv (w + 3) i1.toNatClampNeg)) (w + 18) (1 : Int32).toNatClampNeg ((am_w iv (w + 18) (0 : Int32).toNatClampNeg (iv (w + 3) i1.toNatClampNeg)) (w + 5) i1.toNatClampNeg)) (w + 18) (2 : Int32).toNatClampNeg ((am_w (am_w iv (w + 18) (0 : Int32).toNatClampNeg (iv (w + 3) i1.toNatClampNeg)) (w + 18) (1 : Int32).toNatClampNeg ((am_w iv (w + 18) (0 : Int32).toNatClampNeg (iv (w + 3) i1.toNatClampNeg)) (w + 5) i1.toNatClampNeg)) (w + 6) i1.toNatClampNeg)) (w + 18) (3 : Int32).toNatClampNeg ((am_w (am_w (am_w iv (w + 18) (0 : Int32).toNatClampNeg (iv (w + 3) i1.toNatClampNeg)) (w + 18) (1 : Int32).toNatClampNeg ((am_w iv (w + 18) (0 : Int32).toNatClampNeg (iv (w + 3) i1.toNatClampNeg)) (w + 5) i1.toNatClampNeg)) (w + 18) (2 : Int32).toNatClampNeg ((am_w (am_w iv (w + 18) (0 : Int32).toNatClampNeg (iv (w + 3) i1.toNatClampNeg)) (w + 18) (1 : Int32).toNatClampNeg ((am_w iv (w + 18) (0 : Int32).toNatClampNeg (iv (w + 3) i1.toNatClampNeg)) (w + 5) i1.toNatClampNeg)) (w + 6) i1.toNatClampNeg)) (w + 2) i1.toNatClampNeg)) (w + 18) (4 : Int32).toNatClampNeg (am_bcI i2)) (w + 18) (5 : Int32).toNatClampNeg (am_bcI (i2 &&& ((am_w (am_w (am_w (am_w (am_w iv (w + 18) (0 : Int32).toNatClampNeg (iv (w + 3) i1.toNatClampNeg)) (w + 18) (1 : Int32).toNatClampNeg ((am_w iv (w + 18) (0 : Int32).toNatClampNeg (iv (w + 3) i1.toNatClampNeg)) (w + 5) i1.toNatClampNeg)) (w + 18) (2 : Int32).toNatClampNeg ((am_w (am_w iv (w + 18) (0 : Int32).toNatClampNeg (iv (w + 3) i1.toNatClampNeg)) (w + 18) (1 : Int32).toNatClampNeg ((am_w iv (w + 18) (0 : Int32).toNatClampNeg (iv (w + 3) i1.toNatClampNeg)) (w + 5) i1.toNatClampNeg)) (w + 6) i1.toNatClampNeg)) (w + 18) (3 : Int32).toNatClampNeg ((am_w (am_w (am_w iv (w + 18) (0 : Int32).toNatClampNeg (iv (w + 3) i1.toNatClampNeg)) (w + 18) (1 : Int32).toNatClampNeg ((am_w iv (w + 18) (0 : Int32).toNatClampNeg (iv (w + 3) i1.toNatClampNeg)) (w + 5) i1.toNatClampNeg)) (w + 18) (2 : Int32).toNatClampNeg ((am_w (am_w iv (w + 18) (0 : Int32).toNatClampNeg (iv (w + 3) i1.toNatClampNeg)) (w + 18) (1 : Int32).toNatClampNeg ((am_w iv (w + 18) (0 : Int32).toNatClampNeg (iv (w + 3) i1.toNatClampNeg)) (w + 5) i1.toNatClampNeg)) (w + 6) i1.toNatClampNeg)) (w + 2) i1.toNatClampNeg)) (w + 18) (4 : Int32).toNatClampNeg (am_bcI i2)) (w + 1) 9)))) (w + 18) (6 : Int32).toNatClampNeg (am_bcI (i2 &&& ((am_w (am_w (am_w (am_w (am_w (am_w iv (w + 18) (0 : Int32).toNatClampNeg (iv (w + 3) i1.toNatClampNeg)) (w + 18) (1 : Int32).toNatClampNeg ((am_w iv (w + 18) (0 : Int32).toNatClampNeg (iv (w + 3) i1.toNatClampNeg)) (w + 5) i1.toNatClampNeg)) (w + 18) (2 : Int32).toNatClampNeg ((am_w (am_w iv (w + 18) (0 : Int32).toNatClampNeg (iv (w + 3) i1.toNatClampNeg)) (w + 18) (1 : Int32).toNatClampNeg ((am_w iv (w + 18) (0 : Int32).toNatClampNeg (iv (w + 3) i1.toNatClampNeg)) (w + 5) i1.toNatClampNeg)) (w + 6) i1.toNatClampNeg)) (w + 18) (3 : Int32).toNatClampNeg ((am_w (am_w (am_w iv (w + 18) (0 : Int32).toNatClampNeg (iv (w + 3) i1.toNatClampNeg)) (w + 18) (1 : Int32).toNatClampNeg ((am_w iv (w + 18) (0 : Int32).toNatClampNeg (iv (w + 3) i1.toNatClampNeg)) (w + 5) i1.toNatClampNeg)) (w + 18) (2 : Int32).toNatClampNeg ((am_w (am_w iv (w + 18) (0 : Int32).toNatClampNeg (iv (w + 3) i1.toNatClampNeg)) (w + 18) (1 : Int32).toNatClampNeg ((am_w iv (w + 18) (0 : Int32).toNatClampNeg (iv (w + 3) i1.toNatClampNeg)) (w + 5) i1.toNatClampNeg)) (w + 6) i1.toNatClampNeg)) (w + 2) i1.toNatClampNeg)) (w + 18) (4 : Int32).toNatClampNeg (am_bcI i2)) (w + 18) (5 : Int32).toNatClampNeg (am_bcI (i2 &&& ((am_w (am_w (am_w (am_w (am_w iv (w + 18) (0 : Int32).toNatClampNeg (iv (w + 3) i1.toNatClampNeg)) (w + 18) (1 : Int32).toNatClampNeg ((am_w iv (w + 18) (0 : Int32).toNatClampNeg (iv (w + 3) i1.toNatClampNeg)) (w + 5) i1.toNatClampNeg)) (w + 18) (2 : Int32).toNatClampNeg ((am_w (am_w iv (w + 18) (0 : Int32).toNatClampNeg (iv (w + 3) i1.toNatClampNeg)) (w + 18) (1 : Int32).toNatClampNeg ((am_w iv (w + 18) (0 : Int32).toNatClampNeg (iv (w + 3) i1.toNatClampNeg)) (w + 5) i1.toNatClampNeg)) (w + 6) i1.toNatClampNeg)) (w + 18) (3 : Int32).toNatClampNeg ((am_w (am_w (am_w iv (w + 18) (0 : Int32).toNatClampNeg (iv (w + 3) i1.toNatClampNeg)) (w + 18) (1 : Int32).toNatClampNeg ((am_w iv (w + 18) (0 : Int32).toNatClampNeg (iv (w + 3) i1.toNatClampNeg)) (w + 5) i1.toNatClampNeg)) (w + 18) (2 : Int32).toNatClampNeg ((am_w (am_w iv (w + 18) (0 : Int32).toNatClampNeg (iv (w + 3) i1.toNatClampNeg)) (w + 18) (1 : Int32).toNatClampNeg ((am_w iv (w + 18) (0 : Int32).toNatClampNeg (iv (w + 3) i1.toNatClampNeg)) (w + 5) i1.toNatClampNeg)) (w + 6) i1.toNatClampNeg)) (w + 2) i1.toNatClampNeg)) (w + 18) (4 : Int32).toNatClampNeg (am_bcI i2)) (w + 1) 9)))) (w + 7) i1.toNatClampNeg)))) else none) else none) else none) else none) else none)
theorem R_X0_lookAt {E : am_E} {S : am_S} {Q : am_O → am_S → am_I → Prop} {w : Nat} (hL : am_Lay S) (hw : w = 2 ∨ w = 22) {i1 i2 : Int32} {iv : am_I} {y : am_I} (e : F_X0_lookAt w i1 i2 iv = some y) (h : Q (.inl none) S y) {d : Nat} (hd : 1 ≤ d) : am_M E d mX0_lookAt 0 0 [.ref w, .int i1, .int i2] S iv Q := by
  refine am_enter (js := []) rfl pn_X0 rfl rfl rfl (Nat.le_of_ble_eq_true rfl) (am_R.deep ?_ hd)
  replace e := am_ckv e; obtain ⟨c1, e⟩ := e
  replace e := am_ckv e; obtain ⟨c2, e⟩ := e
  replace e := am_ckv e; obtain ⟨c3, e⟩ := e
  replace e := am_ckv e; obtain ⟨c4, e⟩ := e
  replace e := am_ckv e; obtain ⟨c5, e⟩ := e
  refine (sX0_lookAt_0 rfl (sX0_lookAt_1 (kW_0 hL hw) (rW_0_10 hL hw) (sX0_lookAt_4 (sX0_lookAt_5 rfl (sX0_lookAt_6 (kW_0 hL hw) (rW_0_7 hL hw) (sX0_lookAt_9 (kW_1 hL hw) (rW_1_2 hL hw) (sX0_lookAt_12 (sX0_lookAt_13 (kW_3 hL hw) c1 (sX0_lookAt_14 (kW_18 hL hw) (vp_lit (by decide)) (sX0_lookAt_15 rfl (sX0_lookAt_16 (kW_0 hL hw) (rW_0_10 hL hw) (sX0_lookAt_19 (sX0_lookAt_20 rfl (sX0_lookAt_21 (kW_0 hL hw) (rW_0_7 hL hw) (sX0_lookAt_24 (kW_1 hL hw) (rW_1_4 hL hw) (sX0_lookAt_27 (sX0_lookAt_28 (kW_5 hL hw) c2 (sX0_lookAt_29 (kW_18 hL hw) (vp_lit (by decide)) (sX0_lookAt_30 rfl (sX0_lookAt_31 (kW_0 hL hw) (rW_0_10 hL hw) (sX0_lookAt_34 (sX0_lookAt_35 rfl (sX0_lookAt_36 (kW_0 hL hw) (rW_0_7 hL hw) (sX0_lookAt_39 (kW_1 hL hw) (rW_1_5 hL hw) (sX0_lookAt_42 (sX0_lookAt_43 (kW_6 hL hw) c3 (sX0_lookAt_44 (kW_18 hL hw) (vp_lit (by decide)) (sX0_lookAt_45 rfl (sX0_lookAt_46 (kW_0 hL hw) (rW_0_10 hL hw) (sX0_lookAt_49 (sX0_lookAt_50 rfl (sX0_lookAt_51 (kW_0 hL hw) (rW_0_7 hL hw) (sX0_lookAt_54 (kW_1 hL hw) (rW_1_1 hL hw) (sX0_lookAt_57 (sX0_lookAt_58 (kW_2 hL hw) c4 (sX0_lookAt_59 (kW_18 hL hw) (vp_lit (by decide)) (sX0_lookAt_60 rfl (sX0_lookAt_61 (kW_0 hL hw) (rW_0_10 hL hw) (sX0_lookAt_64 (sX0_lookAt_65 (sX0_lookAt_66 (Nat.le_of_ble_eq_true rfl) (J_bcI (sX0_lookAt_69 (kW_18 hL hw) (vp_lit (by decide)) (sX0_lookAt_70 rfl (sX0_lookAt_71 (kW_0 hL hw) (rW_0_10 hL hw) (sX0_lookAt_74 (sX0_lookAt_75 (sX0_lookAt_76 rfl (sX0_lookAt_77 (kW_0 hL hw) (rW_0_7 hL hw) (sX0_lookAt_80 (kW_1 hL hw) (sX0_lookAt_83 (sX0_lookAt_84 (Nat.le_of_ble_eq_true rfl) (J_bcI (sX0_lookAt_87 (kW_18 hL hw) (vp_lit (by decide)) (sX0_lookAt_88 rfl (sX0_lookAt_89 (kW_0 hL hw) (rW_0_10 hL hw) (sX0_lookAt_92 (sX0_lookAt_94 (sX0_lookAt_95 rfl (sX0_lookAt_96 (kW_0 hL hw) (rW_0_7 hL hw) (sX0_lookAt_99 (kW_1 hL hw) (rW_1_6 hL hw) (sX0_lookAt_102 (sX0_lookAt_103 (kW_7 hL hw) c5 (sX0_lookAt_104 (sX0_lookAt_105 (Nat.le_of_ble_eq_true rfl) (J_bcI (sX0_lookAt_108 (kW_18 hL hw) (vp_lit (by decide)) (sX0_lookAt_109 ?_))))))))))))))))))))))))))))))))))))))))))))))))))))))))))))))))))))
  obtain rfl := Option.some.inj e
  exact h
def B_X0_leastBroken_45 (w : Nat) (i1 : Int32) (i3 : Int32) (i2 : Int32) (i4 : Int32) (iv : am_I) : Option ((Int32 × Int32 × am_I) ⊕ (Int32 × am_I)) :=
  (if i2 ≤ i4 then some (.inr (i2, iv)) else (am_o2 (F_X5_holds w i4 iv) fun v2 w2 => (if v2 = 0 then some (.inl (i4, (i4 + 1), w2)) else some (.inl (i2, (i4 + 1), w2)))))
theorem b_X0_leastBroken_45 {E : am_E} {S : am_S} {Q : am_O → am_S → am_I → Prop} {w : Nat} (hL : am_Lay S) (hw : w = 2 ∨ w = 22) {i1 i3 i2 i4 : Int32} {iv : am_I} {y : (Int32 × Int32 × am_I) ⊕ (Int32 × am_I)} (e : B_X0_leastBroken_45 w i1 i3 i2 i4 iv = some y) (hc : ∀ s, y = .inl s → am_R E 2 mX0_leastBroken 0 0 45 [.ref w, .int i1, .int s.1, .int i3, .int s.2.1] [] S s.2.2 Q) (hx : ∀ a, y = .inr a → ∀ z4 : Value, am_R E 2 mX0_leastBroken 0 0 76 [.ref w, .int i1, .int a.1, .int i3, z4] [] S a.2 Q) : am_R E 2 mX0_leastBroken 0 0 45 [.ref w, .int i1, .int i2, .int i3, .int i4] [] S iv Q := by
  refine (sX0_leastBroken_45 (sX0_leastBroken_47 ?_))
  refine sX0_leastBroken_48 (fun hbr => ?_) (fun hbr => ?_)
  · replace e := am_pos hbr e
    exact hx _ (Option.some.inj e).symm _
  · replace e := am_neg hbr e
    replace e := am_o2_i e; obtain ⟨v2, w2, e2, e⟩ := e
    refine (sX0_leastBroken_51 rfl (sX0_leastBroken_52 (kW_0 hL hw) (rW_0_9 hL hw) (sX0_leastBroken_55 (sX0_leastBroken_57 rfl (sX0_leastBroken_58 (kW_0 hL hw) (rW_0_10 hL hw) (sX0_leastBroken_61 (kW_14 hL hw) (Nat.le_of_ble_eq_true rfl) (R_X5_holds hL hw (h := ?_) (hd := (Nat.le_of_ble_eq_true rfl)) (e := e2))))))))
    refine sX0_leastBroken_64 (fun hbr => ?_) (fun hbr => ?_)
    · replace e := am_neg hbr e
      refine (sX0_leastBroken_70 (sX0_leastBroken_73 ?_))
      exact hc _ (Option.some.inj e).symm
    · replace e := am_pos hbr e
      refine (sX0_leastBroken_67 (sX0_leastBroken_69 (sX0_leastBroken_70 (sX0_leastBroken_73 ?_))))
      exact hc _ (Option.some.inj e).symm
theorem l_X0_leastBroken_45 {E : am_E} {S : am_S} {Q : am_O → am_S → am_I → Prop} {w : Nat} (hL : am_Lay S) (hw : w = 2 ∨ w = 22) {i1 i3 : Int32} (s : (Int32 × Int32 × am_I)) {x : (Int32 × am_I)} (e : am_loop (fun s : (Int32 × Int32 × am_I) => B_X0_leastBroken_45 w i1 i3 s.1 s.2.1 s.2.2) s = some x) (hx : ∀ z4 : Value, am_R E 2 mX0_leastBroken 0 0 76 [.ref w, .int i1, .int x.1, .int i3, z4] [] S x.2 Q) : am_R E 2 mX0_leastBroken 0 0 45 [.ref w, .int i1, .int s.1, .int i3, .int s.2.1] [] S s.2.2 Q :=
  am_wh_sound (f := fun s : (Int32 × Int32 × am_I) => B_X0_leastBroken_45 w i1 i3 s.1 s.2.1 s.2.2) (P := fun s => am_R E 2 mX0_leastBroken 0 0 45 [.ref w, .int i1, .int s.1, .int i3, .int s.2.1] [] S s.2.2 Q) (K := fun x => ∀ z4 : Value, am_R E 2 mX0_leastBroken 0 0 76 [.ref w, .int i1, .int x.1, .int i3, z4] [] S x.2 Q) (fun s y e hc hkk => b_X0_leastBroken_45 hL hw e hc (fun a hy => hkk a hy)) am_fu s x e hx
def B_X0_leastBroken_10 (w : Nat) (i1 : Int32) (i2 : Int32) (i3 : Int32) (iv : am_I) : Option ((Int32 × Int32 × am_I) ⊕ (Int32 × am_I)) :=
  (if (iv (w + 1) 0) ≤ i3 then some (.inr (i2, iv)) else (if i2 ≤ 0 then some (.inr (i2, iv)) else (if ((i1 >>> (i3 &&& 31)) &&& (1 : Int32)) = 0 then some (.inl (i2, (i3 + 1), iv)) else (am_o1 (F_X0_lookAt w i3 i1 iv) fun w1 => (am_o1 (am_loop (fun s : (Int32 × Int32 × am_I) => B_X0_leastBroken_45 w i1 i3 s.1 s.2.1 s.2.2) (i2, (0 : Int32), w1)) fun a3 => some (.inl (a3.1, (i3 + 1), a3.2)))))))
theorem b_X0_leastBroken_10 {E : am_E} {S : am_S} {Q : am_O → am_S → am_I → Prop} {w : Nat} (hL : am_Lay S) (hw : w = 2 ∨ w = 22) {z4 : Value} {i1 i2 i3 : Int32} {iv : am_I} {y : (Int32 × Int32 × am_I) ⊕ (Int32 × am_I)} (e : B_X0_leastBroken_10 w i1 i2 i3 iv = some y) (hc : ∀ s, y = .inl s → ∀ z4 : Value, am_R E 2 mX0_leastBroken 0 0 10 [.ref w, .int i1, .int s.1, .int s.2.1, z4] [] S s.2.2 Q) (hx : ∀ a, y = .inr a → ∀ z1 z3 z4 : Value, am_R E 2 mX0_leastBroken 0 0 82 [.ref w, z1, .int a.1, z3, z4] [] S a.2 Q) : am_R E 2 mX0_leastBroken 0 0 10 [.ref w, .int i1, .int i2, .int i3, z4] [] S iv Q := by
  refine (sX0_leastBroken_10 (sX0_leastBroken_11 rfl (sX0_leastBroken_12 (kW_0 hL hw) (rW_0_7 hL hw) (sX0_leastBroken_15 (kW_1 hL hw) ?_))))
  refine sX0_leastBroken_18 (fun hbr => ?_) (fun hbr => ?_)
  · replace e := am_pos hbr e
    exact hx _ (Option.some.inj e).symm _ _ _
  · replace e := am_neg hbr e
    refine (sX0_leastBroken_21 ?_)
    refine sX0_leastBroken_22 (fun hbr => ?_) (fun hbr => ?_)
    · replace e := am_pos hbr e
      exact hx _ (Option.some.inj e).symm _ _ _
    · replace e := am_neg hbr e
      refine (sX0_leastBroken_25 (sX0_leastBroken_26 (sX0_leastBroken_27 (sX0_leastBroken_28 (sX0_leastBroken_29 ?_)))))
      refine sX0_leastBroken_30 (fun hbr => ?_) (fun hbr => ?_)
      · replace e := am_neg hbr e
        replace e := am_o1_i e; obtain ⟨w1, e1, e⟩ := e
        refine (sX0_leastBroken_36 rfl (sX0_leastBroken_37 (sX0_leastBroken_38 (sX0_leastBroken_39 (kW_0 hL hw) (Nat.le_of_ble_eq_true rfl) (R_X0_lookAt hL hw (h := (sX0_leastBroken_42 (sX0_leastBroken_43 ?_))) (hd := (Nat.le_of_ble_eq_true rfl)) (e := e1))))))
        replace e := am_o1_i e; obtain ⟨a3, e3, e⟩ := e
        refine l_X0_leastBroken_45 hL hw _ e3 ?_
        intro z4
        refine (sX0_leastBroken_76 (sX0_leastBroken_79 ?_))
        exact hc _ (Option.some.inj e).symm _
      · replace e := am_pos hbr e
        refine (sX0_leastBroken_33 (sX0_leastBroken_76 (sX0_leastBroken_79 ?_)))
        exact hc _ (Option.some.inj e).symm _
theorem l_X0_leastBroken_10 {E : am_E} {S : am_S} {Q : am_O → am_S → am_I → Prop} {w : Nat} (hL : am_Lay S) (hw : w = 2 ∨ w = 22) {i1 : Int32} (s : (Int32 × Int32 × am_I)) {x : (Int32 × am_I)} (e : am_loop (fun s : (Int32 × Int32 × am_I) => B_X0_leastBroken_10 w i1 s.1 s.2.1 s.2.2) s = some x) (hx : ∀ z1 z3 z4 : Value, am_R E 2 mX0_leastBroken 0 0 82 [.ref w, z1, .int x.1, z3, z4] [] S x.2 Q) : ∀ z4 : Value, am_R E 2 mX0_leastBroken 0 0 10 [.ref w, .int i1, .int s.1, .int s.2.1, z4] [] S s.2.2 Q :=
  am_wh_sound (f := fun s : (Int32 × Int32 × am_I) => B_X0_leastBroken_10 w i1 s.1 s.2.1 s.2.2) (P := fun s => ∀ z4 : Value, am_R E 2 mX0_leastBroken 0 0 10 [.ref w, .int i1, .int s.1, .int s.2.1, z4] [] S s.2.2 Q) (K := fun x => ∀ z1 z3 z4 : Value, am_R E 2 mX0_leastBroken 0 0 82 [.ref w, z1, .int x.1, z3, z4] [] S x.2 Q) (fun s y e hc hkk => fun z4 => b_X0_leastBroken_10 hL hw e hc (fun a hy => hkk a hy)) am_fu s x e hx
def J_X0_leastBroken_82 (w : Nat) (i2 : Int32) (iv : am_I) : Option (Int32 × am_I) :=
  (if (iv (w + 14) 0) ≤ i2 then some ((-1 : Int32), iv) else some (i2, iv))
theorem j_X0_leastBroken_82 {E : am_E} {S : am_S} {Q : am_O → am_S → am_I → Prop} {w : Nat} (hL : am_Lay S) (hw : w = 2 ∨ w = 22) {z1 z3 z4 : Value} {i2 : Int32} {iv : am_I} {y : Int32 × am_I} (e : J_X0_leastBroken_82 w i2 iv = some y) (h : Q (.inl (some (.int y.1))) S y.2) : am_R E 2 mX0_leastBroken 0 0 82 [.ref w, z1, .int i2, z3, z4] [] S iv Q := by
  refine (sX0_leastBroken_82 (sX0_leastBroken_83 rfl (sX0_leastBroken_84 (kW_0 hL hw) (rW_0_9 hL hw) (sX0_leastBroken_87 (kW_14 hL hw) ?_))))
  refine sX0_leastBroken_90 (fun hbr => ?_) (fun hbr => ?_)
  · replace e := am_pos hbr e
    refine (sX0_leastBroken_97 (sX0_leastBroken_98 ?_))
    obtain rfl := Option.some.inj e
    exact h
  · replace e := am_neg hbr e
    refine (sX0_leastBroken_93 (sX0_leastBroken_94 (sX0_leastBroken_98 ?_)))
    obtain rfl := Option.some.inj e
    exact h
def F_X0_leastBroken (w : Nat) (i1 : Int32) (iv : am_I) : Option (Int32 × am_I) :=
  (am_o1 (am_loop (fun s : (Int32 × Int32 × am_I) => B_X0_leastBroken_10 w i1 s.1 s.2.1 s.2.2) ((iv (w + 14) 0), (0 : Int32), iv)) fun a4 => J_X0_leastBroken_82 w a4.1 a4.2)
theorem YR_X0_leastBroken {E : am_E} {S : am_S} {Q : am_O → am_S → am_I → Prop} {w : Nat} (hL : am_Lay S) (hw : w = 2 ∨ w = 22) {i1 : Int32} {iv : am_I} {y : Int32 × am_I} (e : F_X0_leastBroken w i1 iv = some y) (h : Q (.inl (some (.int y.1))) S y.2) {d : Nat} (hd : 2 ≤ d) : am_M E d mX0_leastBroken 0 0 [.ref w, .int i1] S iv Q := by
  refine am_enter (js := [.double 0, .double 0, .double 0]) rfl pn_X0 rfl rfl rfl (Nat.le_of_ble_eq_true rfl) (am_R.deep ?_ hd)
  refine (sX0_leastBroken_0 rfl (sX0_leastBroken_1 (kW_0 hL hw) (rW_0_9 hL hw) (sX0_leastBroken_4 (kW_14 hL hw) (sX0_leastBroken_7 (sX0_leastBroken_8 (sX0_leastBroken_9 ?_))))))
  replace e := am_o1_i e; obtain ⟨a4, e4, e⟩ := e
  refine l_X0_leastBroken_10 hL hw _ e4 ?_ _
  intro z1 z3 z4
  exact j_X0_leastBroken_82 hL hw e h
theorem R_X0_leastBroken {E : am_E} {S : am_S} {Q : am_O → am_S → am_I → Prop} {w : Nat} (hL : am_Lay S) (hw : w = 2 ∨ w = 22) {i1 : Int32} {iv : am_I} {v' : Int32} {iv' : am_I} (e : F_X0_leastBroken w i1 iv = some (v', iv')) (h : Q (.inl (some (.int v'))) S iv') {d : Nat} (hd : 2 ≤ d) : am_M E d mX0_leastBroken 0 0 [.ref w, .int i1] S iv Q :=
  YR_X0_leastBroken hL hw e h hd
def J_X0_judge_62 (w : Nat) (i1 : Int32) (k1 : Int32) (k2 : Int32) (k3 : Int32) (iv : am_I) : Option (Int32 × am_I) :=
  (am_o1 (F_X0_climb w i1 iv) fun v4 => (am_o1 (F_X4_withBoth w i1 iv) fun v5 => (if vp_b k1 1024 then (if vp_b i1 1024 then some (((am_w iv (w + 19) k1.toNatClampNeg (((k2 ||| k3) ||| (v4 <<< ((2 : Int32) &&& 31))) ||| (v5 <<< ((12 : Int32) &&& 31)))) (w + 19) i1.toNatClampNeg), (am_w iv (w + 19) k1.toNatClampNeg (((k2 ||| k3) ||| (v4 <<< ((2 : Int32) &&& 31))) ||| (v5 <<< ((12 : Int32) &&& 31))))) else none) else none)))
theorem j_X0_judge_62 {E : am_E} {S : am_S} {Q : am_O → am_S → am_I → Prop} {w : Nat} (hL : am_Lay S) (hw : w = 2 ∨ w = 22) {z2 : Value} {i1 k1 k2 k3 : Int32} {iv : am_I} {y : Int32 × am_I} (e : J_X0_judge_62 w i1 k1 k2 k3 iv = some y) (h : Q (.inl (some (.int y.1))) S y.2) : am_R E 3 mX0_judge 0 0 62 [.ref w, .int i1, z2] [.int k3, .int k2, .int k1, .ref (w + 19)] S iv Q := by
  replace e := am_o1_i e; obtain ⟨v4, e4, e⟩ := e
  replace e := am_o1_i e; obtain ⟨v5, e5, e⟩ := e
  replace e := am_ckv e; obtain ⟨c6, e⟩ := e
  replace e := am_ckv e; obtain ⟨c7, e⟩ := e
  refine (sX0_judge_62 (sX0_judge_63 rfl (sX0_judge_64 (sX0_judge_65 (kW_0 hL hw) (Nat.le_of_ble_eq_true rfl) (R_X0_climb hL hw (h := (sX0_judge_68 (sX0_judge_69 (sX0_judge_70 (sX0_judge_71 rfl (sX0_judge_72 (kW_0 hL hw) (rW_0_8 hL hw) (sX0_judge_75 (sX0_judge_76 (kW_10 hL hw) (Nat.le_of_ble_eq_true rfl) (R_X4_withBoth hL hw (h := (sX0_judge_79 (sX0_judge_81 (sX0_judge_82 (sX0_judge_83 (kW_19 hL hw) c6 (sX0_judge_84 rfl (sX0_judge_85 (kW_0 hL hw) (rW_0_11 hL hw) (sX0_judge_88 (sX0_judge_89 (kW_19 hL hw) c7 (sX0_judge_90 ?_)))))))))) (hd := (Nat.le_of_ble_eq_true rfl)) (e := e5)))))))))) (hd := (Nat.le_of_ble_eq_true rfl)) (e := e4))))))
  obtain rfl := Option.some.inj e
  exact h
def J_X0_judge_46 (w : Nat) (i1 : Int32) (k0 : Int32) (iv : am_I) : Option (Int32 × am_I) :=
  (if k0 = 0 then J_X0_judge_62 w i1 i1 (1 : Int32) (0 : Int32) iv else J_X0_judge_62 w i1 i1 (1 : Int32) (2 : Int32) iv)
theorem j_X0_judge_46 {E : am_E} {S : am_S} {Q : am_O → am_S → am_I → Prop} {w : Nat} (hL : am_Lay S) (hw : w = 2 ∨ w = 22) {z2 : Value} {i1 k0 : Int32} {iv : am_I} {y : Int32 × am_I} (e : J_X0_judge_46 w i1 k0 iv = some y) (h : Q (.inl (some (.int y.1))) S y.2) : am_R E 3 mX0_judge 0 0 46 [.ref w, .int i1, z2] [.int k0] S iv Q := by
  refine (sX0_judge_46 (sX0_judge_47 rfl (sX0_judge_48 (kW_0 hL hw) (rW_0_11 hL hw) (sX0_judge_51 (sX0_judge_52 (sX0_judge_53 ?_))))))
  refine sX0_judge_54 (fun hbr => ?_) (fun hbr => ?_)
  · replace e := am_pos hbr e
    refine (sX0_judge_61 ?_)
    exact j_X0_judge_62 hL hw e h
  · replace e := am_neg hbr e
    refine (sX0_judge_57 (sX0_judge_58 ?_))
    exact j_X0_judge_62 hL hw e h
def J_X0_judge_45 (w : Nat) (i1 : Int32) (iv : am_I) : Option (Int32 × am_I) :=
  J_X0_judge_46 w i1 (0 : Int32) iv
theorem j_X0_judge_45 {E : am_E} {S : am_S} {Q : am_O → am_S → am_I → Prop} {w : Nat} (hL : am_Lay S) (hw : w = 2 ∨ w = 22) {z2 : Value} {i1 : Int32} {iv : am_I} {y : Int32 × am_I} (e : J_X0_judge_45 w i1 iv = some y) (h : Q (.inl (some (.int y.1))) S y.2) : am_R E 3 mX0_judge 0 0 45 [.ref w, .int i1, z2] [] S iv Q := by
  refine (sX0_judge_45 ?_)
  exact j_X0_judge_46 hL hw e h
def F_X0_judge (w : Nat) (i1 : Int32) (iv : am_I) : Option (Int32 × am_I) :=
  (if i1 < 0 then some ((0 : Int32), iv) else (if i1 < (Int32.ofNat 1024) then (if vp_b i1 1024 then (if (iv (w + 19) i1.toNatClampNeg) = 0 then (am_o1 (F_X0_isSound w i1 iv) fun v3 => (if v3 = 0 then J_X0_judge_45 w i1 iv else (am_o2 (F_X0_leastBroken w i1 iv) fun v8 w8 => (if v8 = (-1 : Int32) then J_X0_judge_46 w i1 (1 : Int32) w8 else J_X0_judge_45 w i1 w8)))) else (if vp_b i1 1024 then some ((iv (w + 19) i1.toNatClampNeg), iv) else none)) else none) else some ((0 : Int32), iv)))
theorem YR_X0_judge {E : am_E} {S : am_S} {Q : am_O → am_S → am_I → Prop} {w : Nat} (hL : am_Lay S) (hw : w = 2 ∨ w = 22) {i1 : Int32} {iv : am_I} {y : Int32 × am_I} (e : F_X0_judge w i1 iv = some y) (h : Q (.inl (some (.int y.1))) S y.2) {d : Nat} (hd : 3 ≤ d) : am_M E d mX0_judge 0 0 [.ref w, .int i1] S iv Q := by
  refine am_enter (js := [.double 0]) rfl pn_X0 rfl rfl rfl (Nat.le_of_ble_eq_true rfl) (am_R.deep ?_ hd)
  refine (sX0_judge_0 ?_)
  refine sX0_judge_1 (fun hbr => ?_) (fun hbr => ?_)
  · replace e := am_pos hbr e
    refine (sX0_judge_13 (sX0_judge_14 ?_))
    obtain rfl := Option.some.inj e
    exact h
  · replace e := am_neg hbr e
    refine (sX0_judge_4 (sX0_judge_5 rfl (sX0_judge_6 (kW_0 hL hw) (rW_0_11 hL hw) (sX0_judge_9 (kW_19 hL hw) rfl ?_))))
    refine sX0_judge_10 (fun hbr => ?_) (fun hbr => ?_)
    · replace e := am_pos hbr e
      replace e := am_ckv e; obtain ⟨c1, e⟩ := e
      refine (sX0_judge_15 rfl (sX0_judge_16 (kW_0 hL hw) (rW_0_11 hL hw) (sX0_judge_19 (sX0_judge_20 (kW_19 hL hw) c1 ?_))))
      refine sX0_judge_21 (fun hbr => ?_) (fun hbr => ?_)
      · replace e := am_neg hbr e
        replace e := am_ckv e; obtain ⟨c2, e⟩ := e
        refine (sX0_judge_84 rfl (sX0_judge_85 (kW_0 hL hw) (rW_0_11 hL hw) (sX0_judge_88 (sX0_judge_89 (kW_19 hL hw) c2 (sX0_judge_90 ?_)))))
        obtain rfl := Option.some.inj e
        exact h
      · replace e := am_pos hbr e
        replace e := am_o1_i e; obtain ⟨v3, e3, e⟩ := e
        refine (sX0_judge_24 rfl (sX0_judge_25 (sX0_judge_26 (kW_0 hL hw) (Nat.le_of_ble_eq_true rfl) (R_X0_isSound hL hw (h := ?_) (hd := (Nat.le_of_ble_eq_true rfl)) (e := e3)))))
        refine sX0_judge_29 (fun hbr => ?_) (fun hbr => ?_)
        · replace e := am_pos hbr e
          exact j_X0_judge_45 hL hw e h
        · replace e := am_neg hbr e
          replace e := am_o2_i e; obtain ⟨v8, w8, e8, e⟩ := e
          refine (sX0_judge_32 rfl (sX0_judge_33 (sX0_judge_34 (kW_0 hL hw) (Nat.le_of_ble_eq_true rfl) (R_X0_leastBroken hL hw (h := (sX0_judge_37 ?_)) (hd := (Nat.le_of_ble_eq_true rfl)) (e := e8)))))
          refine sX0_judge_38 (fun hbr => ?_) (fun hbr => ?_)
          · replace e := am_neg hbr e
            exact j_X0_judge_45 hL hw e h
          · replace e := am_pos hbr e
            refine (sX0_judge_41 (sX0_judge_42 ?_))
            exact j_X0_judge_46 hL hw e h
    · replace e := am_neg hbr e
      refine (sX0_judge_13 (sX0_judge_14 ?_))
      obtain rfl := Option.some.inj e
      exact h
theorem R_X0_judge {E : am_E} {S : am_S} {Q : am_O → am_S → am_I → Prop} {w : Nat} (hL : am_Lay S) (hw : w = 2 ∨ w = 22) {i1 : Int32} {iv : am_I} {v' : Int32} {iv' : am_I} (e : F_X0_judge w i1 iv = some (v', iv')) (h : Q (.inl (some (.int v'))) S iv') {d : Nat} (hd : 3 ≤ d) : am_M E d mX0_judge 0 0 [.ref w, .int i1] S iv Q :=
  YR_X0_judge hL hw e h hd
def F_X0_canBe (w : Nat) (i1 : Int32) (iv : am_I) : Option (Int32 × am_I) :=
  (am_o2 (F_X0_judge w i1 iv) fun v1 w1 => (if (v1 &&& (2 : Int32)) = 0 then some ((0 : Int32), w1) else some ((1 : Int32), w1)))
theorem YR_X0_canBe {E : am_E} {S : am_S} {Q : am_O → am_S → am_I → Prop} {w : Nat} (hL : am_Lay S) (hw : w = 2 ∨ w = 22) {i1 : Int32} {iv : am_I} {y : Int32 × am_I} (e : F_X0_canBe w i1 iv = some y) (h : Q (.inl (some (.int y.1))) S y.2) {d : Nat} (hd : 4 ≤ d) : am_M E d mX0_canBe 0 0 [.ref w, .int i1] S iv Q := by
  refine am_enter (js := []) rfl pn_X0 rfl rfl rfl (Nat.le_of_ble_eq_true rfl) (am_R.deep ?_ hd)
  replace e := am_o2_i e; obtain ⟨v1, w1, e1, e⟩ := e
  refine (sX0_canBe_0 rfl (sX0_canBe_1 (sX0_canBe_2 (kW_0 hL hw) (Nat.le_of_ble_eq_true rfl) (R_X0_judge hL hw (h := (sX0_canBe_5 (sX0_canBe_6 ?_))) (hd := (Nat.le_of_ble_eq_true rfl)) (e := e1)))))
  refine sX0_canBe_7 (fun hbr => ?_) (fun hbr => ?_)
  · replace e := am_pos hbr e
    refine (sX0_canBe_14 (sX0_canBe_15 rfl ?_))
    obtain rfl := Option.some.inj e
    exact h
  · replace e := am_neg hbr e
    refine (sX0_canBe_10 (sX0_canBe_11 (sX0_canBe_15 rfl ?_)))
    obtain rfl := Option.some.inj e
    exact h
theorem R_X0_canBe {E : am_E} {S : am_S} {Q : am_O → am_S → am_I → Prop} {w : Nat} (hL : am_Lay S) (hw : w = 2 ∨ w = 22) {i1 : Int32} {iv : am_I} {v' : Int32} {iv' : am_I} (e : F_X0_canBe w i1 iv = some (v', iv')) (h : Q (.inl (some (.int v'))) S iv') {d : Nat} (hd : 4 ≤ d) : am_M E d mX0_canBe 0 0 [.ref w, .int i1] S iv Q :=
  YR_X0_canBe hL hw e h hd
def F_X0_reachedBy (w : Nat) (i1 : Int32) (iv : am_I) : Option (Int32 × am_I) :=
  (am_o2 (F_X0_judge w i1 iv) fun v1 w1 => some (((v1 >>> ((2 : Int32) &&& 31)) &&& (1023 : Int32)), w1))
theorem YR_X0_reachedBy {E : am_E} {S : am_S} {Q : am_O → am_S → am_I → Prop} {w : Nat} (hL : am_Lay S) (hw : w = 2 ∨ w = 22) {i1 : Int32} {iv : am_I} {y : Int32 × am_I} (e : F_X0_reachedBy w i1 iv = some y) (h : Q (.inl (some (.int y.1))) S y.2) {d : Nat} (hd : 4 ≤ d) : am_M E d mX0_reachedBy 0 0 [.ref w, .int i1] S iv Q := by
  refine am_enter (js := []) rfl pn_X0 rfl rfl rfl (Nat.le_of_ble_eq_true rfl) (am_R.deep ?_ hd)
  replace e := am_o2_i e; obtain ⟨v1, w1, e1, e⟩ := e
  refine (sX0_reachedBy_0 rfl (sX0_reachedBy_1 (sX0_reachedBy_2 (kW_0 hL hw) (Nat.le_of_ble_eq_true rfl) (R_X0_judge hL hw (h := (sX0_reachedBy_5 (sX0_reachedBy_6 (sX0_reachedBy_7 (sX0_reachedBy_10 (sX0_reachedBy_11 ?_)))))) (hd := (Nat.le_of_ble_eq_true rfl)) (e := e1)))))
  obtain rfl := Option.some.inj e
  exact h
theorem R_X0_reachedBy {E : am_E} {S : am_S} {Q : am_O → am_S → am_I → Prop} {w : Nat} (hL : am_Lay S) (hw : w = 2 ∨ w = 22) {i1 : Int32} {iv : am_I} {v' : Int32} {iv' : am_I} (e : F_X0_reachedBy w i1 iv = some (v', iv')) (h : Q (.inl (some (.int v'))) S iv') {d : Nat} (hd : 4 ≤ d) : am_M E d mX0_reachedBy 0 0 [.ref w, .int i1] S iv Q :=
  YR_X0_reachedBy hL hw e h hd
def F_X0_fedBy (w : Nat) (i1 : Int32) (iv : am_I) : Option (Int32 × am_I) :=
  (am_o2 (F_X0_judge w i1 iv) fun v1 w1 => some ((v1 >>> ((12 : Int32) &&& 31)), w1))
theorem YR_X0_fedBy {E : am_E} {S : am_S} {Q : am_O → am_S → am_I → Prop} {w : Nat} (hL : am_Lay S) (hw : w = 2 ∨ w = 22) {i1 : Int32} {iv : am_I} {y : Int32 × am_I} (e : F_X0_fedBy w i1 iv = some y) (h : Q (.inl (some (.int y.1))) S y.2) {d : Nat} (hd : 4 ≤ d) : am_M E d mX0_fedBy 0 0 [.ref w, .int i1] S iv Q := by
  refine am_enter (js := []) rfl pn_X0 rfl rfl rfl (Nat.le_of_ble_eq_true rfl) (am_R.deep ?_ hd)
  replace e := am_o2_i e; obtain ⟨v1, w1, e1, e⟩ := e
  refine (sX0_fedBy_0 rfl (sX0_fedBy_1 (sX0_fedBy_2 (kW_0 hL hw) (Nat.le_of_ble_eq_true rfl) (R_X0_judge hL hw (h := (sX0_fedBy_5 (sX0_fedBy_7 (sX0_fedBy_8 ?_)))) (hd := (Nat.le_of_ble_eq_true rfl)) (e := e1)))))
  obtain rfl := Option.some.inj e
  exact h
theorem R_X0_fedBy {E : am_E} {S : am_S} {Q : am_O → am_S → am_I → Prop} {w : Nat} (hL : am_Lay S) (hw : w = 2 ∨ w = 22) {i1 : Int32} {iv : am_I} {v' : Int32} {iv' : am_I} (e : F_X0_fedBy w i1 iv = some (v', iv')) (h : Q (.inl (some (.int v'))) S iv') {d : Nat} (hd : 4 ≤ d) : am_M E d mX0_fedBy 0 0 [.ref w, .int i1] S iv Q :=
  YR_X0_fedBy hL hw e h hd
