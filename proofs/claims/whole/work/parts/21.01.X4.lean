/-! functions of the methods, and their rows (by program) -/
def F_X4_add (w : Nat) (i1 : Int32) (iv : am_I) : Option (am_I) :=
  (if (5 : Int32) ≤ (iv (w + 10) 0) then some iv else (if vp_b (iv (w + 10) 0) 5 then (if vp_b ((am_w iv (w + 11) (iv (w + 10) 0).toNatClampNeg i1) (w + 10) 0) 5 then (if vp_b ((am_w (am_w iv (w + 11) (iv (w + 10) 0).toNatClampNeg i1) (w + 12) ((am_w iv (w + 11) (iv (w + 10) 0).toNatClampNeg i1) (w + 10) 0).toNatClampNeg (-1 : Int32)) (w + 10) 0) 5 then some (am_w (am_w (am_w (am_w iv (w + 11) (iv (w + 10) 0).toNatClampNeg i1) (w + 12) ((am_w iv (w + 11) (iv (w + 10) 0).toNatClampNeg i1) (w + 10) 0).toNatClampNeg (-1 : Int32)) (w + 13) ((am_w (am_w iv (w + 11) (iv (w + 10) 0).toNatClampNeg i1) (w + 12) ((am_w iv (w + 11) (iv (w + 10) 0).toNatClampNeg i1) (w + 10) 0).toNatClampNeg (-1 : Int32)) (w + 10) 0).toNatClampNeg (1 : Int32)) (w + 10) 0 (((am_w (am_w (am_w iv (w + 11) (iv (w + 10) 0).toNatClampNeg i1) (w + 12) ((am_w iv (w + 11) (iv (w + 10) 0).toNatClampNeg i1) (w + 10) 0).toNatClampNeg (-1 : Int32)) (w + 13) ((am_w (am_w iv (w + 11) (iv (w + 10) 0).toNatClampNeg i1) (w + 12) ((am_w iv (w + 11) (iv (w + 10) 0).toNatClampNeg i1) (w + 10) 0).toNatClampNeg (-1 : Int32)) (w + 10) 0).toNatClampNeg (1 : Int32)) (w + 10) 0) + (1 : Int32))) else none) else none) else none))
theorem R_X4_add {E : am_E} {S : am_S} {Q : am_O → am_S → am_I → Prop} {w : Nat} (hL : am_Lay S) (hw : w = 2 ∨ w = 22) {i1 : Int32} {iv : am_I} {y : am_I} (e : F_X4_add w i1 iv = some y) (h : Q (.inl none) S y) {d : Nat} (hd : 0 ≤ d) : am_M E d mX4_add 0 0 [.ref (w + 10), .int i1] S iv Q := by
  refine am_enter (js := []) rfl pn_X4 rfl rfl rfl (Nat.le_of_ble_eq_true rfl) (am_R.deep ?_ hd)
  refine (sX4_add_0 rfl (sX4_add_1 (kW_10 hL hw) (sX4_add_4 ?_)))
  refine sX4_add_5 (fun hbr => ?_) (fun hbr => ?_)
  · replace e := am_pos hbr e
    refine (sX4_add_48 ?_)
    obtain rfl := Option.some.inj e
    exact h
  · replace e := am_neg hbr e
    replace e := am_ckv e; obtain ⟨c1, e⟩ := e
    replace e := am_ckv e; obtain ⟨c2, e⟩ := e
    replace e := am_ckv e; obtain ⟨c3, e⟩ := e
    refine (sX4_add_8 rfl (sX4_add_9 (kW_10 hL hw) (rW_10_1 hL hw) (sX4_add_12 rfl (sX4_add_13 (kW_10 hL hw) (sX4_add_16 (sX4_add_17 (kW_11 hL hw) c1 (sX4_add_18 rfl (sX4_add_19 (kW_10 hL hw) (rW_10_2 hL hw) (sX4_add_22 rfl (sX4_add_23 (kW_10 hL hw) (sX4_add_26 (sX4_add_27 (kW_12 hL hw) c2 (sX4_add_28 rfl (sX4_add_29 (kW_10 hL hw) (rW_10_3 hL hw) (sX4_add_32 rfl (sX4_add_33 (kW_10 hL hw) (sX4_add_36 (sX4_add_37 (kW_13 hL hw) c3 (sX4_add_38 rfl (sX4_add_39 rfl (sX4_add_40 (kW_10 hL hw) (sX4_add_43 (sX4_add_44 (sX4_add_45 (kW_10 hL hw) (sX4_add_48 ?_)))))))))))))))))))))))))
    obtain rfl := Option.some.inj e
    exact h
def F_X4_copyFrom (w : Nat) (v : Nat) (iv : am_I) : Option (am_I) :=
  some (am_cp (am_cp (am_cp (am_w iv (w + 10) 0 (iv (v + 10) 0)) (v + 11) (w + 11) (0 : Int32).toNatClampNeg (0 : Int32).toNatClampNeg (5 : Int32).toNatClampNeg) (v + 12) (w + 12) (0 : Int32).toNatClampNeg (0 : Int32).toNatClampNeg (5 : Int32).toNatClampNeg) (v + 13) (w + 13) (0 : Int32).toNatClampNeg (0 : Int32).toNatClampNeg (5 : Int32).toNatClampNeg)
theorem R_X4_copyFrom {E : am_E} {S : am_S} {Q : am_O → am_S → am_I → Prop} {w : Nat} {v : Nat} (hL : am_Lay S) (hw : w = 2 ∨ w = 22) (hv : v = 2 ∨ v = 22) {iv : am_I} {y : am_I} (e : F_X4_copyFrom w v  iv = some y) (h : Q (.inl none) S y) {d : Nat} (hd : 2 ≤ d) : am_M E d mX4_copyFrom 0 0 [.ref (w + 10), .ref (v + 10)] S iv Q := by
  refine am_enter (js := []) rfl pn_X4 rfl rfl rfl (Nat.le_of_ble_eq_true rfl) (am_R.deep ?_ hd)
  refine (sX4_copyFrom_0 rfl (sX4_copyFrom_1 rfl (sX4_copyFrom_2 (kW_10 hL hv) (sX4_copyFrom_5 (kW_10 hL hw) (sX4_copyFrom_8 rfl (sX4_copyFrom_9 (kW_10 hL hv) (rW_10_1 hL hv) (sX4_copyFrom_12 (sX4_copyFrom_13 rfl (sX4_copyFrom_14 (kW_10 hL hw) (rW_10_1 hL hw) (sX4_copyFrom_17 (sX4_copyFrom_18 (sX4_copyFrom_19 (kW_11 hL hv) (kW_11 hL hw) (by decide) (by decide) (by decide) (by decide) (by decide) (Nat.le_of_ble_eq_true rfl) (sX4_copyFrom_22 rfl (sX4_copyFrom_23 (kW_10 hL hv) (rW_10_2 hL hv) (sX4_copyFrom_26 (sX4_copyFrom_27 rfl (sX4_copyFrom_28 (kW_10 hL hw) (rW_10_2 hL hw) (sX4_copyFrom_31 (sX4_copyFrom_32 (sX4_copyFrom_33 (kW_12 hL hv) (kW_12 hL hw) (by decide) (by decide) (by decide) (by decide) (by decide) (Nat.le_of_ble_eq_true rfl) (sX4_copyFrom_36 rfl (sX4_copyFrom_37 (kW_10 hL hv) (rW_10_3 hL hv) (sX4_copyFrom_40 (sX4_copyFrom_41 rfl (sX4_copyFrom_42 (kW_10 hL hw) (rW_10_3 hL hw) (sX4_copyFrom_45 (sX4_copyFrom_46 (sX4_copyFrom_47 (kW_13 hL hv) (kW_13 hL hw) (by decide) (by decide) (by decide) (by decide) (by decide) (Nat.le_of_ble_eq_true rfl) (sX4_copyFrom_50 ?_)))))))))))))))))))))))))))))
  obtain rfl := Option.some.inj e
  exact h
def J_X4_hungry_30 (w : Nat) (i2 : Int32) (k0 : Int32) (k1 : Int32) (iv : am_I) : Option ((Int32 × Int32) ⊕ (Int32)) :=
  some (.inl ((k0 ||| k1), (i2 + 1)))
theorem j_X4_hungry_30 {E : am_E} {S : am_S} {Q : am_O → am_S → am_I → Prop} {w : Nat} (hL : am_Lay S) (hw : w = 2 ∨ w = 22) {z1 : Value} {i2 k0 k1 : Int32} {iv : am_I} {y : (Int32 × Int32) ⊕ (Int32)} (e : J_X4_hungry_30 w i2 k0 k1 iv = some y) (hc : ∀ s, y = .inl s → am_R E 0 mX4_hungry 0 0 4 [.ref (w + 10), .int s.1, .int s.2] [] S iv Q) (hx : ∀ a, y = .inr a → ∀ z0 z2 : Value, am_R E 0 mX4_hungry 0 0 38 [z0, .int a, z2] [] S iv Q) : am_R E 0 mX4_hungry 0 0 30 [.ref (w + 10), z1, .int i2] [.int k1, .int k0] S iv Q := by
  refine (sX4_hungry_30 (sX4_hungry_31 (sX4_hungry_32 (sX4_hungry_35 ?_))))
  exact hc _ (Option.some.inj e).symm
def B_X4_hungry_4 (w : Nat) (iv : am_I) (i1 : Int32) (i2 : Int32) : Option ((Int32 × Int32) ⊕ (Int32)) :=
  (if (iv (w + 10) 0) ≤ i2 then some (.inr i1) else (if vp_b i2 5 then (if (iv (w + 12) i2.toNatClampNeg) = (-1 : Int32) then J_X4_hungry_30 w i2 i1 (0 : Int32) iv else J_X4_hungry_30 w i2 i1 ((1 : Int32) <<< (i2 &&& 31)) iv) else none))
theorem b_X4_hungry_4 {E : am_E} {S : am_S} {Q : am_O → am_S → am_I → Prop} {w : Nat} (hL : am_Lay S) (hw : w = 2 ∨ w = 22) {i1 i2 : Int32} {iv : am_I} {y : (Int32 × Int32) ⊕ (Int32)} (e : B_X4_hungry_4 w iv i1 i2 = some y) (hc : ∀ s, y = .inl s → am_R E 0 mX4_hungry 0 0 4 [.ref (w + 10), .int s.1, .int s.2] [] S iv Q) (hx : ∀ a, y = .inr a → ∀ z0 z2 : Value, am_R E 0 mX4_hungry 0 0 38 [z0, .int a, z2] [] S iv Q) : am_R E 0 mX4_hungry 0 0 4 [.ref (w + 10), .int i1, .int i2] [] S iv Q := by
  refine (sX4_hungry_4 (sX4_hungry_5 rfl (sX4_hungry_6 (kW_10 hL hw) ?_)))
  refine sX4_hungry_9 (fun hbr => ?_) (fun hbr => ?_)
  · replace e := am_pos hbr e
    exact hx _ (Option.some.inj e).symm _ _
  · replace e := am_neg hbr e
    replace e := am_ckv e; obtain ⟨c1, e⟩ := e
    refine (sX4_hungry_12 (sX4_hungry_13 rfl (sX4_hungry_14 (kW_10 hL hw) (rW_10_2 hL hw) (sX4_hungry_17 (sX4_hungry_18 (kW_12 hL hw) c1 (sX4_hungry_19 ?_))))))
    refine sX4_hungry_20 (fun hbr => ?_) (fun hbr => ?_)
    · replace e := am_pos hbr e
      refine (sX4_hungry_29 ?_)
      exact j_X4_hungry_30 hL hw e hc hx
    · replace e := am_neg hbr e
      refine (sX4_hungry_23 (sX4_hungry_24 (sX4_hungry_25 (sX4_hungry_26 ?_))))
      exact j_X4_hungry_30 hL hw e hc hx
theorem l_X4_hungry_4 {E : am_E} {S : am_S} {Q : am_O → am_S → am_I → Prop} {w : Nat} (hL : am_Lay S) (hw : w = 2 ∨ w = 22) {iv : am_I} (s : (Int32 × Int32)) {x : (Int32)} (e : am_loop (fun s : (Int32 × Int32) => B_X4_hungry_4 w iv s.1 s.2) s = some x) (hx : ∀ z0 z2 : Value, am_R E 0 mX4_hungry 0 0 38 [z0, .int x, z2] [] S iv Q) : am_R E 0 mX4_hungry 0 0 4 [.ref (w + 10), .int s.1, .int s.2] [] S iv Q :=
  am_wh_sound (f := fun s : (Int32 × Int32) => B_X4_hungry_4 w iv s.1 s.2) (P := fun s => am_R E 0 mX4_hungry 0 0 4 [.ref (w + 10), .int s.1, .int s.2] [] S iv Q) (K := fun x => ∀ z0 z2 : Value, am_R E 0 mX4_hungry 0 0 38 [z0, .int x, z2] [] S iv Q) (fun s y e hc hkk => b_X4_hungry_4 hL hw e hc (fun a hy => hkk a hy)) am_fu s x e hx
def F_X4_hungry (w : Nat) (iv : am_I) : Option (Int32) :=
  (am_o1 (am_loop (fun s : (Int32 × Int32) => B_X4_hungry_4 w iv s.1 s.2) ((0 : Int32), (0 : Int32))) fun a2 => some a2)
theorem R_X4_hungry {E : am_E} {S : am_S} {Q : am_O → am_S → am_I → Prop} {w : Nat} (hL : am_Lay S) (hw : w = 2 ∨ w = 22) {iv : am_I} {y : Int32} (e : F_X4_hungry w  iv = some y) (h : Q (.inl (some (.int y))) S iv) {d : Nat} (hd : 0 ≤ d) : am_M E d mX4_hungry 0 0 [.ref (w + 10)] S iv Q := by
  refine am_enter (js := [.double 0, .double 0]) rfl pn_X4 rfl rfl rfl (Nat.le_of_ble_eq_true rfl) (am_R.deep ?_ hd)
  refine (sX4_hungry_0 (sX4_hungry_1 (sX4_hungry_2 (sX4_hungry_3 ?_))))
  replace e := am_o1_i e; obtain ⟨a2, e2, e⟩ := e
  refine l_X4_hungry_4 hL hw _ e2 ?_
  intro z0 z2
  refine (sX4_hungry_38 (sX4_hungry_39 ?_))
  obtain rfl := Option.some.inj e
  exact h
def B_X4_withBoth_4 (w : Nat) (i1 : Int32) (iv : am_I) (i2 : Int32) (i3 : Int32) : Option ((Int32 × Int32) ⊕ (Int32)) :=
  (if (iv (w + 10) 0) ≤ i3 then some (.inr i2) else (if vp_b i3 5 then (if (iv (w + 12) i3.toNatClampNeg) = (-1 : Int32) then some (.inl (i2, (i3 + 1))) else (if vp_b i3 5 then (if vp_b i3 5 then (if (((i1 >>> ((iv (w + 11) i3.toNatClampNeg) &&& 31)) &&& (i1 >>> ((iv (w + 12) i3.toNatClampNeg) &&& 31))) &&& (1 : Int32)) = 0 then some (.inl (i2, (i3 + 1))) else some (.inl ((i2 ||| ((1 : Int32) <<< (i3 &&& 31))), (i3 + 1)))) else none) else none)) else none))
theorem b_X4_withBoth_4 {E : am_E} {S : am_S} {Q : am_O → am_S → am_I → Prop} {w : Nat} (hL : am_Lay S) (hw : w = 2 ∨ w = 22) {i1 i2 i3 : Int32} {iv : am_I} {y : (Int32 × Int32) ⊕ (Int32)} (e : B_X4_withBoth_4 w i1 iv i2 i3 = some y) (hc : ∀ s, y = .inl s → am_R E 0 mX4_withBoth 0 0 4 [.ref (w + 10), .int i1, .int s.1, .int s.2] [] S iv Q) (hx : ∀ a, y = .inr a → ∀ z0 z1 z3 : Value, am_R E 0 mX4_withBoth 0 0 56 [z0, z1, .int a, z3] [] S iv Q) : am_R E 0 mX4_withBoth 0 0 4 [.ref (w + 10), .int i1, .int i2, .int i3] [] S iv Q := by
  refine (sX4_withBoth_4 (sX4_withBoth_5 rfl (sX4_withBoth_6 (kW_10 hL hw) ?_)))
  refine sX4_withBoth_9 (fun hbr => ?_) (fun hbr => ?_)
  · replace e := am_pos hbr e
    exact hx _ (Option.some.inj e).symm _ _ _
  · replace e := am_neg hbr e
    replace e := am_ckv e; obtain ⟨c1, e⟩ := e
    refine (sX4_withBoth_12 rfl (sX4_withBoth_13 (kW_10 hL hw) (rW_10_2 hL hw) (sX4_withBoth_16 (sX4_withBoth_17 (kW_12 hL hw) c1 (sX4_withBoth_18 ?_)))))
    refine sX4_withBoth_19 (fun hbr => ?_) (fun hbr => ?_)
    · replace e := am_pos hbr e
      refine (sX4_withBoth_50 (sX4_withBoth_53 ?_))
      exact hc _ (Option.some.inj e).symm
    · replace e := am_neg hbr e
      replace e := am_ckv e; obtain ⟨c2, e⟩ := e
      replace e := am_ckv e; obtain ⟨c3, e⟩ := e
      refine (sX4_withBoth_22 (sX4_withBoth_23 rfl (sX4_withBoth_24 (kW_10 hL hw) (rW_10_1 hL hw) (sX4_withBoth_27 (sX4_withBoth_28 (kW_11 hL hw) c2 (sX4_withBoth_29 (sX4_withBoth_30 (sX4_withBoth_31 rfl (sX4_withBoth_32 (kW_10 hL hw) (rW_10_2 hL hw) (sX4_withBoth_35 (sX4_withBoth_36 (kW_12 hL hw) c3 (sX4_withBoth_37 (sX4_withBoth_38 (sX4_withBoth_39 (sX4_withBoth_40 ?_)))))))))))))))
      refine sX4_withBoth_41 (fun hbr => ?_) (fun hbr => ?_)
      · replace e := am_pos hbr e
        refine (sX4_withBoth_50 (sX4_withBoth_53 ?_))
        exact hc _ (Option.some.inj e).symm
      · replace e := am_neg hbr e
        refine (sX4_withBoth_44 (sX4_withBoth_45 (sX4_withBoth_46 (sX4_withBoth_47 (sX4_withBoth_48 (sX4_withBoth_49 (sX4_withBoth_50 (sX4_withBoth_53 ?_))))))))
        exact hc _ (Option.some.inj e).symm
theorem l_X4_withBoth_4 {E : am_E} {S : am_S} {Q : am_O → am_S → am_I → Prop} {w : Nat} (hL : am_Lay S) (hw : w = 2 ∨ w = 22) {i1 : Int32} {iv : am_I} (s : (Int32 × Int32)) {x : (Int32)} (e : am_loop (fun s : (Int32 × Int32) => B_X4_withBoth_4 w i1 iv s.1 s.2) s = some x) (hx : ∀ z0 z1 z3 : Value, am_R E 0 mX4_withBoth 0 0 56 [z0, z1, .int x, z3] [] S iv Q) : am_R E 0 mX4_withBoth 0 0 4 [.ref (w + 10), .int i1, .int s.1, .int s.2] [] S iv Q :=
  am_wh_sound (f := fun s : (Int32 × Int32) => B_X4_withBoth_4 w i1 iv s.1 s.2) (P := fun s => am_R E 0 mX4_withBoth 0 0 4 [.ref (w + 10), .int i1, .int s.1, .int s.2] [] S iv Q) (K := fun x => ∀ z0 z1 z3 : Value, am_R E 0 mX4_withBoth 0 0 56 [z0, z1, .int x, z3] [] S iv Q) (fun s y e hc hkk => b_X4_withBoth_4 hL hw e hc (fun a hy => hkk a hy)) am_fu s x e hx
def F_X4_withBoth (w : Nat) (i1 : Int32) (iv : am_I) : Option (Int32) :=
  (am_o1 (am_loop (fun s : (Int32 × Int32) => B_X4_withBoth_4 w i1 iv s.1 s.2) ((0 : Int32), (0 : Int32))) fun a4 => some a4)
theorem R_X4_withBoth {E : am_E} {S : am_S} {Q : am_O → am_S → am_I → Prop} {w : Nat} (hL : am_Lay S) (hw : w = 2 ∨ w = 22) {i1 : Int32} {iv : am_I} {y : Int32} (e : F_X4_withBoth w i1 iv = some y) (h : Q (.inl (some (.int y))) S iv) {d : Nat} (hd : 0 ≤ d) : am_M E d mX4_withBoth 0 0 [.ref (w + 10), .int i1] S iv Q := by
  refine am_enter (js := [.double 0, .double 0]) rfl pn_X4 rfl rfl rfl (Nat.le_of_ble_eq_true rfl) (am_R.deep ?_ hd)
  refine (sX4_withBoth_0 (sX4_withBoth_1 (sX4_withBoth_2 (sX4_withBoth_3 ?_))))
  replace e := am_o1_i e; obtain ⟨a4, e4, e⟩ := e
  refine l_X4_withBoth_4 hL hw _ e4 ?_
  intro z0 z1 z3
  refine (sX4_withBoth_56 (sX4_withBoth_57 ?_))
  obtain rfl := Option.some.inj e
  exact h
def J_X4_weightOf_31 (w : Nat) (i1 : Int32) (i3 : Int32) (k0 : Int32) (k1 : Int32) (iv : am_I) : Option ((Int32 × Int32) ⊕ (Int32)) :=
  some (.inl ((k0 + k1), (i3 + 1)))
theorem j_X4_weightOf_31 {E : am_E} {S : am_S} {Q : am_O → am_S → am_I → Prop} {w : Nat} (hL : am_Lay S) (hw : w = 2 ∨ w = 22) {z2 : Value} {i1 i3 k0 k1 : Int32} {iv : am_I} {y : (Int32 × Int32) ⊕ (Int32)} (e : J_X4_weightOf_31 w i1 i3 k0 k1 iv = some y) (hc : ∀ s, y = .inl s → am_R E 0 mX4_weightOf 0 0 4 [.ref (w + 10), .int i1, .int s.1, .int s.2] [] S iv Q) (hx : ∀ a, y = .inr a → ∀ z0 z1 z3 : Value, am_R E 0 mX4_weightOf 0 0 39 [z0, z1, .int a, z3] [] S iv Q) : am_R E 0 mX4_weightOf 0 0 31 [.ref (w + 10), .int i1, z2, .int i3] [.int k1, .int k0] S iv Q := by
  refine (sX4_weightOf_31 (sX4_weightOf_32 (sX4_weightOf_33 (sX4_weightOf_36 ?_))))
  exact hc _ (Option.some.inj e).symm
def B_X4_weightOf_4 (w : Nat) (i1 : Int32) (iv : am_I) (i2 : Int32) (i3 : Int32) : Option ((Int32 × Int32) ⊕ (Int32)) :=
  (if (iv (w + 10) 0) ≤ i3 then some (.inr i2) else (if ((i1 >>> (i3 &&& 31)) &&& (1 : Int32)) = 0 then J_X4_weightOf_31 w i1 i3 i2 (0 : Int32) iv else (if vp_b i3 5 then J_X4_weightOf_31 w i1 i3 i2 (iv (w + 13) i3.toNatClampNeg) iv else none)))
theorem b_X4_weightOf_4 {E : am_E} {S : am_S} {Q : am_O → am_S → am_I → Prop} {w : Nat} (hL : am_Lay S) (hw : w = 2 ∨ w = 22) {i1 i2 i3 : Int32} {iv : am_I} {y : (Int32 × Int32) ⊕ (Int32)} (e : B_X4_weightOf_4 w i1 iv i2 i3 = some y) (hc : ∀ s, y = .inl s → am_R E 0 mX4_weightOf 0 0 4 [.ref (w + 10), .int i1, .int s.1, .int s.2] [] S iv Q) (hx : ∀ a, y = .inr a → ∀ z0 z1 z3 : Value, am_R E 0 mX4_weightOf 0 0 39 [z0, z1, .int a, z3] [] S iv Q) : am_R E 0 mX4_weightOf 0 0 4 [.ref (w + 10), .int i1, .int i2, .int i3] [] S iv Q := by
  refine (sX4_weightOf_4 (sX4_weightOf_5 rfl (sX4_weightOf_6 (kW_10 hL hw) ?_)))
  refine sX4_weightOf_9 (fun hbr => ?_) (fun hbr => ?_)
  · replace e := am_pos hbr e
    exact hx _ (Option.some.inj e).symm _ _ _
  · replace e := am_neg hbr e
    refine (sX4_weightOf_12 (sX4_weightOf_13 (sX4_weightOf_14 (sX4_weightOf_15 (sX4_weightOf_16 (sX4_weightOf_17 ?_))))))
    refine sX4_weightOf_18 (fun hbr => ?_) (fun hbr => ?_)
    · replace e := am_pos hbr e
      refine (sX4_weightOf_30 ?_)
      exact j_X4_weightOf_31 hL hw e hc hx
    · replace e := am_neg hbr e
      replace e := am_ckv e; obtain ⟨c1, e⟩ := e
      refine (sX4_weightOf_21 rfl (sX4_weightOf_22 (kW_10 hL hw) (rW_10_3 hL hw) (sX4_weightOf_25 (sX4_weightOf_26 (kW_13 hL hw) c1 (sX4_weightOf_27 ?_)))))
      exact j_X4_weightOf_31 hL hw e hc hx
theorem l_X4_weightOf_4 {E : am_E} {S : am_S} {Q : am_O → am_S → am_I → Prop} {w : Nat} (hL : am_Lay S) (hw : w = 2 ∨ w = 22) {i1 : Int32} {iv : am_I} (s : (Int32 × Int32)) {x : (Int32)} (e : am_loop (fun s : (Int32 × Int32) => B_X4_weightOf_4 w i1 iv s.1 s.2) s = some x) (hx : ∀ z0 z1 z3 : Value, am_R E 0 mX4_weightOf 0 0 39 [z0, z1, .int x, z3] [] S iv Q) : am_R E 0 mX4_weightOf 0 0 4 [.ref (w + 10), .int i1, .int s.1, .int s.2] [] S iv Q :=
  am_wh_sound (f := fun s : (Int32 × Int32) => B_X4_weightOf_4 w i1 iv s.1 s.2) (P := fun s => am_R E 0 mX4_weightOf 0 0 4 [.ref (w + 10), .int i1, .int s.1, .int s.2] [] S iv Q) (K := fun x => ∀ z0 z1 z3 : Value, am_R E 0 mX4_weightOf 0 0 39 [z0, z1, .int x, z3] [] S iv Q) (fun s y e hc hkk => b_X4_weightOf_4 hL hw e hc (fun a hy => hkk a hy)) am_fu s x e hx
def F_X4_weightOf (w : Nat) (i1 : Int32) (iv : am_I) : Option (Int32) :=
  (am_o1 (am_loop (fun s : (Int32 × Int32) => B_X4_weightOf_4 w i1 iv s.1 s.2) ((0 : Int32), (0 : Int32))) fun a2 => some a2)
theorem R_X4_weightOf {E : am_E} {S : am_S} {Q : am_O → am_S → am_I → Prop} {w : Nat} (hL : am_Lay S) (hw : w = 2 ∨ w = 22) {i1 : Int32} {iv : am_I} {y : Int32} (e : F_X4_weightOf w i1 iv = some y) (h : Q (.inl (some (.int y))) S iv) {d : Nat} (hd : 0 ≤ d) : am_M E d mX4_weightOf 0 0 [.ref (w + 10), .int i1] S iv Q := by
  refine am_enter (js := [.double 0, .double 0]) rfl pn_X4 rfl rfl rfl (Nat.le_of_ble_eq_true rfl) (am_R.deep ?_ hd)
  refine (sX4_weightOf_0 (sX4_weightOf_1 (sX4_weightOf_2 (sX4_weightOf_3 ?_))))
  replace e := am_o1_i e; obtain ⟨a2, e2, e⟩ := e
  refine l_X4_weightOf_4 hL hw _ e2 ?_
  intro z0 z1 z3
  refine (sX4_weightOf_39 (sX4_weightOf_40 ?_))
  obtain rfl := Option.some.inj e
  exact h
