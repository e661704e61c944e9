/-! functions of the methods, and their rows (by program) -/
def F_X2_all (w : Nat) (iv : am_I) : Option (Int32) :=
  some (((1 : Int32) <<< ((iv (w + 1) 0) &&& 31)) - (1 : Int32))
theorem R_X2_all {E : am_E} {S : am_S} {Q : am_O → am_S → am_I → Prop} {w : Nat} (hL : am_Lay S) (hw : w = 2 ∨ w = 22) {iv : am_I} {y : Int32} (e : F_X2_all w  iv = some y) (h : Q (.inl (some (.int y))) S iv) {d : Nat} (hd : 0 ≤ d) : am_M E d mX2_all 0 0 [.ref (w + 1)] S iv Q := by
  refine am_enter (js := []) rfl pn_X2 rfl rfl rfl (Nat.le_of_ble_eq_true rfl) (am_R.deep ?_ hd)
  refine (sX2_all_0 (sX2_all_1 rfl (sX2_all_2 (kW_1 hL hw) (sX2_all_5 (sX2_all_6 (sX2_all_7 (sX2_all_8 ?_)))))))
  obtain rfl := Option.some.inj e
  exact h
def F_X2_isWide (w : Nat) (i1 : Int32) (iv : am_I) : Option (Int32) :=
  (if vp_b i1 10 then (if vp_b i1 10 then (if (iv (w + 4) i1.toNatClampNeg) ≤ (iv (w + 3) i1.toNatClampNeg) then some (0 : Int32) else some (1 : Int32)) else none) else none)
theorem R_X2_isWide {E : am_E} {S : am_S} {Q : am_O → am_S → am_I → Prop} {w : Nat} (hL : am_Lay S) (hw : w = 2 ∨ w = 22) {i1 : Int32} {iv : am_I} {y : Int32} (e : F_X2_isWide w i1 iv = some y) (h : Q (.inl (some (.int y))) S iv) {d : Nat} (hd : 0 ≤ d) : am_M E d mX2_isWide 0 0 [.ref (w + 1), .int i1] S iv Q := by
  refine am_enter (js := []) rfl pn_X2 rfl rfl rfl (Nat.le_of_ble_eq_true rfl) (am_R.deep ?_ hd)
  replace e := am_ckv e; obtain ⟨c1, e⟩ := e
  replace e := am_ckv e; obtain ⟨c2, e⟩ := e
  refine (sX2_isWide_0 rfl (sX2_isWide_1 (kW_1 hL hw) (rW_1_3 hL hw) (sX2_isWide_4 (sX2_isWide_5 (kW_4 hL hw) c1 (sX2_isWide_6 rfl (sX2_isWide_7 (kW_1 hL hw) (rW_1_2 hL hw) (sX2_isWide_10 (sX2_isWide_11 (kW_3 hL hw) c2 ?_))))))))
  refine sX2_isWide_12 (fun hbr => ?_) (fun hbr => ?_)
  · replace e := am_pos hbr e
    refine (sX2_isWide_19 (sX2_isWide_20 rfl ?_))
    obtain rfl := Option.some.inj e
    exact h
  · replace e := am_neg hbr e
    refine (sX2_isWide_15 (sX2_isWide_16 (sX2_isWide_20 rfl ?_)))
    obtain rfl := Option.some.inj e
    exact h
def B_X2_isTaken_2 (w : Nat) (i1 : Int32) (i2 : Int32) (iv : am_I) (i3 : Int32) : Option ((Int32) ⊕ ((Unit) ⊕ (Int32))) :=
  (if (iv (w + 1) 0) ≤ i3 then some (.inr (.inl ())) else (if vp_b i3 10 then (if (iv (w + 5) i3.toNatClampNeg) = i2 then (if vp_b i3 10 then (if i1 < (iv (w + 3) i3.toNatClampNeg) then some (.inl (i3 + 1)) else (if vp_b i3 10 then (if (iv (w + 4) i3.toNatClampNeg) < i1 then some (.inl (i3 + 1)) else some (.inr (.inr (1 : Int32)))) else none)) else none) else some (.inl (i3 + 1))) else none))
theorem b_X2_isTaken_2 {E : am_E} {S : am_S} {Q : am_O → am_S → am_I → Prop} {w : Nat} (hL : am_Lay S) (hw : w = 2 ∨ w = 22) {i1 i2 i3 : Int32} {iv : am_I} {y : (Int32) ⊕ ((Unit) ⊕ (Int32))} (e : B_X2_isTaken_2 w i1 i2 iv i3 = some y) (hc : ∀ s, y = .inl s → am_R E 0 mX2_isTaken 0 0 2 [.ref (w + 1), .int i1, .int i2, .int s] [] S iv Q) (hx : ∀ a, y = .inr (.inl a) → ∀ z0 z1 z2 z3 : Value, am_R E 0 mX2_isTaken 0 0 48 [z0, z1, z2, z3] [] S iv Q) (hr : ∀ r, y = .inr (.inr r) → Q (.inl (some (.int r))) S iv) : am_R E 0 mX2_isTaken 0 0 2 [.ref (w + 1), .int i1, .int i2, .int i3] [] S iv Q := by
  refine (sX2_isTaken_2 (sX2_isTaken_3 rfl (sX2_isTaken_4 (kW_1 hL hw) ?_)))
  refine sX2_isTaken_7 (fun hbr => ?_) (fun hbr => ?_)
  · replace e := am_pos hbr e
    exact hx _ (Option.some.inj e).symm _ _ _ _
  · replace e := am_neg hbr e
    replace e := am_ckv e; obtain ⟨c1, e⟩ := e
    refine (sX2_isTaken_10 rfl (sX2_isTaken_11 (kW_1 hL hw) (rW_1_4 hL hw) (sX2_isTaken_14 (sX2_isTaken_15 (kW_5 hL hw) c1 (sX2_isTaken_16 ?_)))))
    refine sX2_isTaken_17 (fun hbr => ?_) (fun hbr => ?_)
    · replace e := am_neg hbr e
      refine (sX2_isTaken_42 (sX2_isTaken_45 ?_))
      exact hc _ (Option.some.inj e).symm
    · replace e := am_pos hbr e
      replace e := am_ckv e; obtain ⟨c2, e⟩ := e
      refine (sX2_isTaken_20 rfl (sX2_isTaken_21 (kW_1 hL hw) (rW_1_2 hL hw) (sX2_isTaken_24 (sX2_isTaken_25 (kW_3 hL hw) c2 (sX2_isTaken_26 ?_)))))
      refine sX2_isTaken_27 (fun hbr => ?_) (fun hbr => ?_)
      · replace e := am_pos hbr e
        refine (sX2_isTaken_42 (sX2_isTaken_45 ?_))
        exact hc _ (Option.some.inj e).symm
      · replace e := am_neg hbr e
        replace e := am_ckv e; obtain ⟨c3, e⟩ := e
        refine (sX2_isTaken_30 (sX2_isTaken_31 rfl (sX2_isTaken_32 (kW_1 hL hw) (rW_1_3 hL hw) (sX2_isTaken_35 (sX2_isTaken_36 (kW_4 hL hw) c3 ?_)))))
        refine sX2_isTaken_37 (fun hbr => ?_) (fun hbr => ?_)
        · replace e := am_pos hbr e
          refine (sX2_isTaken_42 (sX2_isTaken_45 ?_))
          exact hc _ (Option.some.inj e).symm
        · replace e := am_neg hbr e
          refine (sX2_isTaken_40 (sX2_isTaken_41 rfl ?_))
          exact hr _ (Option.some.inj e).symm
theorem l_X2_isTaken_2 {E : am_E} {S : am_S} {Q : am_O → am_S → am_I → Prop} {w : Nat} (hL : am_Lay S) (hw : w = 2 ∨ w = 22) {i1 i2 : Int32} {iv : am_I} (s : (Int32)) {x : ((Unit) ⊕ (Int32))} (e : am_loop (fun s : (Int32) => B_X2_isTaken_2 w i1 i2 iv s) s = some x) (hx : ∀ a, x = .inl a → ∀ z0 z1 z2 z3 : Value, am_R E 0 mX2_isTaken 0 0 48 [z0, z1, z2, z3] [] S iv Q) (hr : ∀ r, x = .inr r → Q (.inl (some (.int r))) S iv) : am_R E 0 mX2_isTaken 0 0 2 [.ref (w + 1), .int i1, .int i2, .int s] [] S iv Q :=
  am_wh_sound (f := fun s : (Int32) => B_X2_isTaken_2 w i1 i2 iv s) (P := fun s => am_R E 0 mX2_isTaken 0 0 2 [.ref (w + 1), .int i1, .int i2, .int s] [] S iv Q) (K := fun x => (∀ a, x = .inl a → ∀ z0 z1 z2 z3 : Value, am_R E 0 mX2_isTaken 0 0 48 [z0, z1, z2, z3] [] S iv Q) ∧ (∀ r, x = .inr r → Q (.inl (some (.int r))) S iv)) (fun s y e hc hkk => b_X2_isTaken_2 hL hw e hc (fun a hy => (hkk _ hy).1 a rfl) (fun r hy => (hkk _ hy).2 r rfl)) am_fu s x e ⟨hx, hr⟩
def F_X2_isTaken (w : Nat) (i1 : Int32) (i2 : Int32) (iv : am_I) : Option (Int32) :=
  (am_lp (am_loop (fun s : (Int32) => B_X2_isTaken_2 w i1 i2 iv s) (0 : Int32)) (fun a4 => some (0 : Int32)) (fun r4 => some r4))
theorem R_X2_isTaken {E : am_E} {S : am_S} {Q : am_O → am_S → am_I → Prop} {w : Nat} (hL : am_Lay S) (hw : w = 2 ∨ w = 22) {i1 i2 : Int32} {iv : am_I} {y : Int32} (e : F_X2_isTaken w i1 i2 iv = some y) (h : Q (.inl (some (.int y))) S iv) {d : Nat} (hd : 0 ≤ d) : am_M E d mX2_isTaken 0 0 [.ref (w + 1), .int i1, .int i2] S iv Q := by
  refine am_enter (js := [.double 0]) rfl pn_X2 rfl rfl rfl (Nat.le_of_ble_eq_true rfl) (am_R.deep ?_ hd)
  refine (sX2_isTaken_0 (sX2_isTaken_1 ?_))
  replace e := am_lp_i e; rcases e with ⟨a4, e4, e⟩ | ⟨r4, e4, e⟩
  · refine l_X2_isTaken_2 hL hw _ e4 (fun a hq9 => ?_) (fun r hq9 => nomatch hq9)
    obtain rfl := Sum.inl.inj hq9
    intro z0 z1 z2 z3
    refine (sX2_isTaken_48 (sX2_isTaken_49 rfl ?_))
    obtain rfl := Option.some.inj e
    exact h
  · refine l_X2_isTaken_2 hL hw _ e4 (fun a hq9 => nomatch hq9) (fun r hq9 => ?_)
    obtain rfl := Sum.inr.inj hq9
    obtain rfl := Option.some.inj e
    exact h
def F_X2_add (w : Nat) (i1 : Int32) (i2 : Int32) (i3 : Int32) (i4 : Int32) (iv : am_I) : Option (am_I) :=
  (if (10 : Int32) ≤ (iv (w + 1) 0) then some iv else (if vp_b (iv (w + 1) 0) 10 then (if vp_b ((am_w iv (w + 2) (iv (w + 1) 0).toNatClampNeg i1) (w + 1) 0) 10 then (if vp_b ((am_w (am_w iv (w + 2) (iv (w + 1) 0).toNatClampNeg i1) (w + 3) ((am_w iv (w + 2) (iv (w + 1) 0).toNatClampNeg i1) (w + 1) 0).toNatClampNeg i2) (w + 1) 0) 10 then (if vp_b ((am_w (am_w (am_w iv (w + 2) (iv (w + 1) 0).toNatClampNeg i1) (w + 3) ((am_w iv (w + 2) (iv (w + 1) 0).toNatClampNeg i1) (w + 1) 0).toNatClampNeg i2) (w + 4) ((am_w (am_w iv (w + 2) (iv (w + 1) 0).toNatClampNeg i1) (w + 3) ((am_w iv (w + 2) (iv (w + 1) 0).toNatClampNeg i1) (w + 1) 0).toNatClampNeg i2) (w + 1) 0).toNatClampNeg i2) (w + 1) 0) 10 then (if vp_b ((am_w (am_w (am_w (am_w iv (w + 2) (iv (w + 1) 0).toNatClampNeg i1) (w + 3) ((am_w iv (w + 2) (iv (w + 1) 0).toNatClampNeg i1) (w + 1) 0).toNatClampNeg i2) (w + 4) ((am_w (am_w iv (w + 2) (iv (w + 1) 0).toNatClampNeg i1) (w + 3) ((am_w iv (w + 2) (iv (w + 1) 0).toNatClampNeg i1) (w + 1) 0).toNatClampNeg i2) (w + 1) 0).toNatClampNeg i2) (w + 5) ((am_w (am_w (am_w iv (w + 2) (iv (w + 1) 0).toNatClampNeg i1) (w + 3) ((am_w iv (w + 2) (iv (w + 1) 0).toNatClampNeg i1) (w + 1) 0).toNatClampNeg i2) (w + 4) ((am_w (am_w iv (w + 2) (iv (w + 1) 0).toNatClampNeg i1) (w + 3) ((am_w iv (w + 2) (iv (w + 1) 0).toNatClampNeg i1) (w + 1) 0).toNatClampNeg i2) (w + 1) 0).toNatClampNeg i2) (w + 1) 0).toNatClampNeg i3) (w + 1) 0) 10 then some (am_w (am_w (am_w (am_w (am_w (am_w iv (w + 2) (iv (w + 1) 0).toNatClampNeg i1) (w + 3) ((am_w iv (w + 2) (iv (w + 1) 0).toNatClampNeg i1) (w + 1) 0).toNatClampNeg i2) (w + 4) ((am_w (am_w iv (w + 2) (iv (w + 1) 0).toNatClampNeg i1) (w + 3) ((am_w iv (w + 2) (iv (w + 1) 0).toNatClampNeg i1) (w + 1) 0).toNatClampNeg i2) (w + 1) 0).toNatClampNeg i2) (w + 5) ((am_w (am_w (am_w iv (w + 2) (iv (w + 1) 0).toNatClampNeg i1) (w + 3) ((am_w iv (w + 2) (iv (w + 1) 0).toNatClampNeg i1) (w + 1) 0).toNatClampNeg i2) (w + 4) ((am_w (am_w iv (w + 2) (iv (w + 1) 0).toNatClampNeg i1) (w + 3) ((am_w iv (w + 2) (iv (w + 1) 0).toNatClampNeg i1) (w + 1) 0).toNatClampNeg i2) (w + 1) 0).toNatClampNeg i2) (w + 1) 0).toNatClampNeg i3) (w + 6) ((am_w (am_w (am_w (am_w iv (w + 2) (iv (w + 1) 0).toNatClampNeg i1) (w + 3) ((am_w iv (w + 2) (iv (w + 1) 0).toNatClampNeg i1) (w + 1) 0).toNatClampNeg i2) (w + 4) ((am_w (am_w iv (w + 2) (iv (w + 1) 0).toNatClampNeg i1) (w + 3) ((am_w iv (w + 2) (iv (w + 1) 0).toNatClampNeg i1) (w + 1) 0).toNatClampNeg i2) (w + 1) 0).toNatClampNeg i2) (w + 5) ((am_w (am_w (am_w iv (w + 2) (iv (w + 1) 0).toNatClampNeg i1) (w + 3) ((am_w iv (w + 2) (iv (w + 1) 0).toNatClampNeg i1) (w + 1) 0).toNatClampNeg i2) (w + 4) ((am_w (am_w iv (w + 2) (iv (w + 1) 0).toNatClampNeg i1) (w + 3) ((am_w iv (w + 2) (iv (w + 1) 0).toNatClampNeg i1) (w + 1) 0).toNatClampNeg i2) (w + 1) 0).toNatClampNeg i2) (w + 1) 0).toNatClampNeg i3) (w + 1) 0).toNatClampNeg i4) (w + 1) 0 (((am_w (am_w (am_w (am_w (am_w iv (w + 2) (iv (w + 1) 0).toNatClampNeg i1) (w + 3) ((am_w iv (w + 2) (iv (w + 1) 0).toNatClampNeg i1) (w + 1) 0).toNatClampNeg i2) (w + 4) ((am_w (am_w iv (w + 2) (iv (w + 1) 0).toNatClampNeg i1) (w + 3) ((am_w iv (w + 2) (iv (w + 1) 0).toNatClampNeg i1) (w + 1) 0).toNatClampNeg i2) (w + 1) 0).toNatClampNeg i2) (w + 5) ((am_w (am_w (am_w iv (w + 2) (iv (w + 1) 0).toNatClampNeg i1) (w + 3) ((am_w iv (w + 2) (iv (w + 1) 0).toNatClampNeg i1) (w + 1) 0).toNatClampNeg i2) (w + 4) ((am_w (am_w iv (w + 2) (iv (w + 1) 0).toNatClampNeg i1) (w + 3) ((am_w iv (w + 2) (iv (w + 1) 0).toNatClampNeg i1) (w + 1) 0).toNatClampNeg i2) (w + 1) 0).toNatClampNeg i2) (w + 1) 0).toNatClampNeg i3) (w + 6) ((am_w (am_w (am_w (am_w iv (w + 2) (iv (w + 1) 0).toNatClampNeg i1) (w + 3) ((am_w iv (w + 2) (iv (w + 1) 0).toNatClampNeg i1) (w + 1) 0).toNatClampNeg i2) (w + 4) ((am_w (am_w iv (w + 2) (iv (w + 1) 0).toNatClampNeg i1) (w + 3) ((am_w iv (w + 2) (iv (w + 1) 0).toNatClampNeg i1) (w + 1) 0).toNatClampNeg i2) (w + 1) 0).toNatClampNeg i2) (w + 5) ((am_w (am_w (am_w iv (w + 2) (iv (w + 1) 0).toNatClampNeg i1) (w + 3) ((am_w iv (w + 2) (iv (w + 1) 0).toNatClampNeg i1) (w + 1) 0).toNatClampNeg i2) (w + 4) ((am_w (am_w iv (w + 2) (iv (w + 1) 0).toNatClampNeg i1) (w + 3) ((am_w iv (w + 2) (iv (w + 1) 0).toNatClampNeg i1) (w + 1) 0).toNatClampNeg i2) (w + 1) 0).toNatClampNeg i2) (w + 1) 0).toNatClampNeg i3) (w + 1) 0).toNatClampNeg i4) (w + 1) 0) + (1 : Int32))) else none) else none) else none) else none) else none))
theorem R_X2_add {E : am_E} {S : am_S} {Q : am_O → am_S → am_I → Prop} {w : Nat} (hL : am_Lay S) (hw : w = 2 ∨ w = 22) {i1 i2 i3 i4 : Int32} {iv : am_I} {y : am_I} (e : F_X2_add w i1 i2 i3 i4 iv = some y) (h : Q (.inl none) S y) {d : Nat} (hd : 0 ≤ d) : am_M E d mX2_add 0 0 [.ref (w + 1), .int i1, .int i2, .int i3, .int i4] S iv Q := by
  refine am_enter (js := []) rfl pn_X2 rfl rfl rfl (Nat.le_of_ble_eq_true rfl) (am_R.deep ?_ hd)
  refine (sX2_add_0 rfl (sX2_add_1 (kW_1 hL hw) (sX2_add_4 ?_)))
  refine sX2_add_6 (fun hbr => ?_) (fun hbr => ?_)
  · replace e := am_pos hbr e
    refine (sX2_add_70 ?_)
    obtain rfl := Option.some.inj e
    exact h
  · replace e := am_neg hbr e
    replace e := am_ckv e; obtain ⟨c1, e⟩ := e
    replace e := am_ckv e; obtain ⟨c2, e⟩ := e
    replace e := am_ckv e; obtain ⟨c3, e⟩ := e
    replace e := am_ckv e; obtain ⟨c4, e⟩ := e
    replace e := am_ckv e; obtain ⟨c5, e⟩ := e
    refine (sX2_add_9 rfl (sX2_add_10 (kW_1 hL hw) (rW_1_1 hL hw) (sX2_add_13 rfl (sX2_add_14 (kW_1 hL hw) (sX2_add_17 (sX2_add_18 (kW_2 hL hw) c1 (sX2_add_19 rfl (sX2_add_20 (kW_1 hL hw) (rW_1_2 hL hw) (sX2_add_23 rfl (sX2_add_24 (kW_1 hL hw) (sX2_add_27 (sX2_add_28 (kW_3 hL hw) c2 (sX2_add_29 rfl (sX2_add_30 (kW_1 hL hw) (rW_1_3 hL hw) (sX2_add_33 rfl (sX2_add_34 (kW_1 hL hw) (sX2_add_37 (sX2_add_38 (kW_4 hL hw) c3 (sX2_add_39 rfl (sX2_add_40 (kW_1 hL hw) (rW_1_4 hL hw) (sX2_add_43 rfl (sX2_add_44 (kW_1 hL hw) (sX2_add_47 (sX2_add_48 (kW_5 hL hw) c4 (sX2_add_49 rfl (sX2_add_50 (kW_1 hL hw) (rW_1_5 hL hw) (sX2_add_53 rfl (sX2_add_54 (kW_1 hL hw) (sX2_add_57 (sX2_add_59 (kW_6 hL hw) c5 (sX2_add_60 rfl (sX2_add_61 rfl (sX2_add_62 (kW_1 hL hw) (sX2_add_65 (sX2_add_66 (sX2_add_67 (kW_1 hL hw) (sX2_add_70 ?_)))))))))))))))))))))))))))))))))))))
    obtain rfl := Option.some.inj e
    exact h
def F_X2_copyFrom (w : Nat) (v : Nat) (iv : am_I) : Option (am_I) :=
  some (am_cp (am_cp (am_cp (am_cp (am_cp (am_w iv (w + 1) 0 (iv (v + 1) 0)) (v + 2) (w + 2) (0 : Int32).toNatClampNeg (0 : Int32).toNatClampNeg (10 : Int32).toNatClampNeg) (v + 3) (w + 3) (0 : Int32).toNatClampNeg (0 : Int32).toNatClampNeg (10 : Int32).toNatClampNeg) (v + 4) (w + 4) (0 : Int32).toNatClampNeg (0 : Int32).toNatClampNeg (10 : Int32).toNatClampNeg) (v + 5) (w + 5) (0 : Int32).toNatClampNeg (0 : Int32).toNatClampNeg (10 : Int32).toNatClampNeg) (v + 6) (w + 6) (0 : Int32).toNatClampNeg (0 : Int32).toNatClampNeg (10 : Int32).toNatClampNeg)
theorem R_X2_copyFrom {E : am_E} {S : am_S} {Q : am_O → am_S → am_I → Prop} {w : Nat} {v : Nat} (hL : am_Lay S) (hw : w = 2 ∨ w = 22) (hv : v = 2 ∨ v = 22) {iv : am_I} {y : am_I} (e : F_X2_copyFrom w v  iv = some y) (h : Q (.inl none) S y) {d : Nat} (hd : 2 ≤ d) : am_M E d mX2_copyFrom 0 0 [.ref (w + 1), .ref (v + 1)] S iv Q := by
  refine am_enter (js := []) rfl pn_X2 rfl rfl rfl (Nat.le_of_ble_eq_true rfl) (am_R.deep ?_ hd)
  refine (sX2_copyFrom_0 rfl (sX2_copyFrom_1 rfl (sX2_copyFrom_2 (kW_1 hL hv) (sX2_copyFrom_5 (kW_1 hL hw) (sX2_copyFrom_8 rfl (sX2_copyFrom_9 (kW_1 hL hv) (rW_1_1 hL hv) (sX2_copyFrom_12 (sX2_copyFrom_13 rfl (sX2_copyFrom_14 (kW_1 hL hw) (rW_1_1 hL hw) (sX2_copyFrom_17 (sX2_copyFrom_18 (sX2_copyFrom_20 (kW_2 hL hv) (kW_2 hL hw) (by decide) (by decide) (by decide) (by decide) (by decide) (Nat.le_of_ble_eq_true rfl) (sX2_copyFrom_23 rfl (sX2_copyFrom_24 (kW_1 hL hv) (rW_1_2 hL hv) (sX2_copyFrom_27 (sX2_copyFrom_28 rfl (sX2_copyFrom_29 (kW_1 hL hw) (rW_1_2 hL hw) (sX2_copyFrom_32 (sX2_copyFrom_33 (sX2_copyFrom_35 (kW_3 hL hv) (kW_3 hL hw) (by decide) (by decide) (by decide) (by decide) (by decide) (Nat.le_of_ble_eq_true rfl) (sX2_copyFrom_38 rfl (sX2_copyFrom_39 (kW_1 hL hv) (rW_1_3 hL hv) (sX2_copyFrom_42 (sX2_copyFrom_43 rfl (sX2_copyFrom_44 (kW_1 hL hw) (rW_1_3 hL hw) (sX2_copyFrom_47 (sX2_copyFrom_48 (sX2_copyFrom_50 (kW_4 hL hv) (kW_4 hL hw) (by decide) (by decide) (by decide) (by decide) (by decide) (Nat.le_of_ble_eq_true rfl) (sX2_copyFrom_53 rfl (sX2_copyFrom_54 (kW_1 hL hv) (rW_1_4 hL hv) (sX2_copyFrom_57 (sX2_copyFrom_58 rfl (sX2_copyFrom_59 (kW_1 hL hw) (rW_1_4 hL hw) (sX2_copyFrom_62 (sX2_copyFrom_63 (sX2_copyFrom_65 (kW_5 hL hv) (kW_5 hL hw) (by decide) (by decide) (by decide) (by decide) (by decide) (Nat.le_of_ble_eq_true rfl) (sX2_copyFrom_68 rfl (sX2_copyFrom_69 (kW_1 hL hv) (rW_1_5 hL hv) (sX2_copyFrom_72 (sX2_copyFrom_73 rfl (sX2_copyFrom_74 (kW_1 hL hw) (rW_1_5 hL hw) (sX2_copyFrom_77 (sX2_copyFrom_78 (sX2_copyFrom_80 (kW_6 hL hv) (kW_6 hL hw) (by decide) (by decide) (by decide) (by decide) (by decide) (Nat.le_of_ble_eq_true rfl) (sX2_copyFrom_83 ?_)))))))))))))))))))))))))))))))))))))))))))))
  obtain rfl := Option.some.inj e
  exact h
def F_X2_columnsApart (w : Nat) (i1 : Int32) (i2 : Int32) (iv : am_I) : Option (Int32) :=
  (if vp_b i1 10 then (if vp_b i2 10 then (if vp_b i2 10 then (if vp_b i1 10 then some (if (0 : Int32) < (if ((iv (w + 3) i1.toNatClampNeg) - (iv (w + 4) i2.toNatClampNeg)) < ((iv (w + 3) i2.toNatClampNeg) - (iv (w + 4) i1.toNatClampNeg)) then ((iv (w + 3) i2.toNatClampNeg) - (iv (w + 4) i1.toNatClampNeg)) else ((iv (w + 3) i1.toNatClampNeg) - (iv (w + 4) i2.toNatClampNeg))) then (if ((iv (w + 3) i1.toNatClampNeg) - (iv (w + 4) i2.toNatClampNeg)) < ((iv (w + 3) i2.toNatClampNeg) - (iv (w + 4) i1.toNatClampNeg)) then ((iv (w + 3) i2.toNatClampNeg) - (iv (w + 4) i1.toNatClampNeg)) else ((iv (w + 3) i1.toNatClampNeg) - (iv (w + 4) i2.toNatClampNeg))) else (0 : Int32)) else none) else none) else none) else none)
theorem R_X2_columnsApart {E : am_E} {S : am_S} {Q : am_O → am_S → am_I → Prop} {w : Nat} (hL : am_Lay S) (hw : w = 2 ∨ w = 22) {i1 i2 : Int32} {iv : am_I} {y : Int32} (e : F_X2_columnsApart w i1 i2 iv = some y) (h : Q (.inl (some (.int y))) S iv) {d : Nat} (hd : 1 ≤ d) : am_M E d mX2_columnsApart 0 0 [.ref (w + 1), .int i1, .int i2] S iv Q := by
  refine am_enter (js := []) rfl pn_X2 rfl rfl rfl (Nat.le_of_ble_eq_true rfl) (am_R.deep ?_ hd)
  replace e := am_ckv e; obtain ⟨c1, e⟩ := e
  replace e := am_ckv e; obtain ⟨c2, e⟩ := e
  replace e := am_ckv e; obtain ⟨c3, e⟩ := e
  replace e := am_ckv e; obtain ⟨c4, e⟩ := e
  refine (sX2_columnsApart_0 (sX2_columnsApart_1 rfl (sX2_columnsApart_2 (kW_1 hL hw) (rW_1_2 hL hw) (sX2_columnsApart_5 (sX2_columnsApart_6 (kW_3 hL hw) c1 (sX2_columnsApart_7 rfl (sX2_columnsApart_8 (kW_1 hL hw) (rW_1_3 hL hw) (sX2_columnsApart_11 (sX2_columnsApart_12 (kW_4 hL hw) c2 (sX2_columnsApart_13 (sX2_columnsApart_14 rfl (sX2_columnsApart_15 (kW_1 hL hw) (rW_1_2 hL hw) (sX2_columnsApart_18 (sX2_columnsApart_19 (kW_3 hL hw) c3 (sX2_columnsApart_20 rfl (sX2_columnsApart_21 (kW_1 hL hw) (rW_1_3 hL hw) (sX2_columnsApart_24 (sX2_columnsApart_25 (kW_4 hL hw) c4 (sX2_columnsApart_26 (sX2_columnsApart_27 (Nat.le_of_ble_eq_true rfl) (J_max (sX2_columnsApart_30 (Nat.le_of_ble_eq_true rfl) (J_max (sX2_columnsApart_33 ?_))))))))))))))))))))))))
  obtain rfl := Option.some.inj e
  exact h
def F_X2_canMarry (w : Nat) (i1 : Int32) (i2 : Int32) (iv : am_I) : Option (Int32) :=
  (if vp_b i1 10 then (if (iv (w + 2) i1.toNatClampNeg) = 0 then (if vp_b i2 10 then (if (iv (w + 2) i2.toNatClampNeg) = 0 then (am_o1 (F_X2_isWide w i1 iv) fun v3 => (if v3 = 0 then (am_o1 (F_X2_isWide w i2 iv) fun v4 => (if v4 = 0 then (if vp_b i1 10 then (if vp_b i2 10 then (if (iv (w + 5) i1.toNatClampNeg) = (iv (w + 5) i2.toNatClampNeg) then (am_o1 (F_X2_columnsApart w i1 i2 iv) fun v7 => (if v7 = (1 : Int32) then some (1 : Int32) else some (0 : Int32))) else some (0 : Int32)) else none) else none) else some (0 : Int32))) else some (0 : Int32))) else some (0 : Int32)) else none) else some (0 : Int32)) else none)
theorem R_X2_canMarry {E : am_E} {S : am_S} {Q : am_O → am_S → am_I → Prop} {w : Nat} (hL : am_Lay S) (hw : w = 2 ∨ w = 22) {i1 i2 : Int32} {iv : am_I} {y : Int32} (e : F_X2_canMarry w i1 i2 iv = some y) (h : Q (.inl (some (.int y))) S iv) {d : Nat} (hd : 2 ≤ d) : am_M E d mX2_canMarry 0 0 [.ref (w + 1), .int i1, .int i2] S iv Q := by
  refine am_enter (js := []) rfl pn_X2 rfl rfl rfl (Nat.le_of_ble_eq_true rfl) (am_R.deep ?_ hd)
  replace e := am_ckv e; obtain ⟨c1, e⟩ := e
  refine (sX2_canMarry_0 rfl (sX2_canMarry_1 (kW_1 hL hw) (rW_1_1 hL hw) (sX2_canMarry_4 (sX2_canMarry_5 (kW_2 hL hw) c1 ?_))))
  refine sX2_canMarry_6 (fun hbr => ?_) (fun hbr => ?_)
  · replace e := am_neg hbr e
    refine (sX2_canMarry_63 (sX2_canMarry_64 rfl ?_))
    obtain rfl := Option.some.inj e
    exact h
  · replace e := am_pos hbr e
    replace e := am_ckv e; obtain ⟨c2, e⟩ := e
    refine (sX2_canMarry_9 rfl (sX2_canMarry_10 (kW_1 hL hw) (rW_1_1 hL hw) (sX2_canMarry_13 (sX2_canMarry_14 (kW_2 hL hw) c2 ?_))))
    refine sX2_canMarry_15 (fun hbr => ?_) (fun hbr => ?_)
    · replace e := am_neg hbr e
      refine (sX2_canMarry_63 (sX2_canMarry_64 rfl ?_))
      obtain rfl := Option.some.inj e
      exact h
    · replace e := am_pos hbr e
      replace e := am_o1_i e; obtain ⟨v3, e3, e⟩ := e
      refine (sX2_canMarry_18 rfl (sX2_canMarry_19 (sX2_canMarry_20 (kW_1 hL hw) (Nat.le_of_ble_eq_true rfl) (R_X2_isWide hL hw (h := ?_) (hd := (Nat.le_of_ble_eq_true rfl)) (e := e3)))))
      refine sX2_canMarry_23 (fun hbr => ?_) (fun hbr => ?_)
      · replace e := am_neg hbr e
        refine (sX2_canMarry_63 (sX2_canMarry_64 rfl ?_))
        obtain rfl := Option.some.inj e
        exact h
      · replace e := am_pos hbr e
        replace e := am_o1_i e; obtain ⟨v4, e4, e⟩ := e
        refine (sX2_canMarry_26 rfl (sX2_canMarry_27 (sX2_canMarry_28 (kW_1 hL hw) (Nat.le_of_ble_eq_true rfl) (R_X2_isWide hL hw (h := ?_) (hd := (Nat.le_of_ble_eq_true rfl)) (e := e4)))))
        refine sX2_canMarry_31 (fun hbr => ?_) (fun hbr => ?_)
        · replace e := am_neg hbr e
          refine (sX2_canMarry_63 (sX2_canMarry_64 rfl ?_))
          obtain rfl := Option.some.inj e
          exact h
        · replace e := am_pos hbr e
          replace e := am_ckv e; obtain ⟨c5, e⟩ := e
          replace e := am_ckv e; obtain ⟨c6, e⟩ := e
          refine (sX2_canMarry_34 rfl (sX2_canMarry_35 (kW_1 hL hw) (rW_1_4 hL hw) (sX2_canMarry_38 (sX2_canMarry_39 (kW_5 hL hw) c5 (sX2_canMarry_40 rfl (sX2_canMarry_41 (kW_1 hL hw) (rW_1_4 hL hw) (sX2_canMarry_44 (sX2_canMarry_45 (kW_5 hL hw) c6 ?_))))))))
          refine sX2_canMarry_46 (fun hbr => ?_) (fun hbr => ?_)
          · replace e := am_neg hbr e
            refine (sX2_canMarry_63 (sX2_canMarry_64 rfl ?_))
            obtain rfl := Option.some.inj e
            exact h
          · replace e := am_pos hbr e
            replace e := am_o1_i e; obtain ⟨v7, e7, e⟩ := e
            refine (sX2_canMarry_49 rfl (sX2_canMarry_50 (sX2_canMarry_51 (sX2_canMarry_52 (kW_1 hL hw) (Nat.le_of_ble_eq_true rfl) (R_X2_columnsApart hL hw (h := (sX2_canMarry_55 ?_)) (hd := (Nat.le_of_ble_eq_true rfl)) (e := e7))))))
            refine sX2_canMarry_56 (fun hbr => ?_) (fun hbr => ?_)
            · replace e := am_neg hbr e
              refine (sX2_canMarry_63 (sX2_canMarry_64 rfl ?_))
              obtain rfl := Option.some.inj e
              exact h
            · replace e := am_pos hbr e
              refine (sX2_canMarry_59 (sX2_canMarry_60 (sX2_canMarry_64 rfl ?_)))
              obtain rfl := Option.some.inj e
              exact h
def J_X2_compareTwo_68 (w : Nat) (i1 : Int32) (i2 : Int32) (i3 : Int32) (iv : am_I) : Option (am_I) :=
  (if vp_b i2 10 then (if vp_b i1 10 then (if (iv (w + 5) i1.toNatClampNeg) ≤ (iv (w + 5) i2.toNatClampNeg) then some iv else (if vp_b i1 10 then (if vp_b i2 10 then (if i3 < ((iv (w + 5) i1.toNatClampNeg) - (iv (w + 5) i2.toNatClampNeg)) then some iv else (if vp_b i1 10 then (if vp_b i1 10 then some (am_w iv (w + 9) i1.toNatClampNeg ((iv (w + 9) i1.toNatClampNeg) ||| ((1 : Int32) <<< (i2 &&& 31)))) else none) else none)) else none) else none)) else none) else none)
theorem j_X2_compareTwo_68 {E : am_E} {S : am_S} {Q : am_O → am_S → am_I → Prop} {w : Nat} (hL : am_Lay S) (hw : w = 2 ∨ w = 22) {i1 i2 i3 : Int32} {iv : am_I} {y : am_I} (e : J_X2_compareTwo_68 w i1 i2 i3 iv = some y) (h : Q (.inl none) S y) : am_R E 2 mX2_compareTwo 0 0 68 [.ref (w + 1), .int i1, .int i2, .int i3] [] S iv Q := by
  replace e := am_ckv e; obtain ⟨c4, e⟩ := e
  replace e := am_ckv e; obtain ⟨c5, e⟩ := e
  refine (sX2_compareTwo_68 rfl (sX2_compareTwo_69 (kW_1 hL hw) (rW_1_4 hL hw) (sX2_compareTwo_72 (sX2_compareTwo_73 (kW_5 hL hw) c4 (sX2_compareTwo_74 rfl (sX2_compareTwo_75 (kW_1 hL hw) (rW_1_4 hL hw) (sX2_compareTwo_78 (sX2_compareTwo_79 (kW_5 hL hw) c5 ?_))))))))
  refine sX2_compareTwo_80 (fun hbr => ?_) (fun hbr => ?_)
  · replace e := am_pos hbr e
    refine (sX2_compareTwo_112 ?_)
    obtain rfl := Option.some.inj e
    exact h
  · replace e := am_neg hbr e
    replace e := am_ckv e; obtain ⟨c6, e⟩ := e
    replace e := am_ckv e; obtain ⟨c7, e⟩ := e
    refine (sX2_compareTwo_83 rfl (sX2_compareTwo_84 (kW_1 hL hw) (rW_1_4 hL hw) (sX2_compareTwo_87 (sX2_compareTwo_88 (kW_5 hL hw) c6 (sX2_compareTwo_89 rfl (sX2_compareTwo_90 (kW_1 hL hw) (rW_1_4 hL hw) (sX2_compareTwo_93 (sX2_compareTwo_94 (kW_5 hL hw) c7 (sX2_compareTwo_95 (sX2_compareTwo_96 ?_))))))))))
    refine sX2_compareTwo_97 (fun hbr => ?_) (fun hbr => ?_)
    · replace e := am_pos hbr e
      refine (sX2_compareTwo_112 ?_)
      obtain rfl := Option.some.inj e
      exact h
    · replace e := am_neg hbr e
      replace e := am_ckv e; obtain ⟨c8, e⟩ := e
      replace e := am_ckv e; obtain ⟨c9, e⟩ := e
      refine (sX2_compareTwo_100 rfl (sX2_compareTwo_101 (kW_1 hL hw) (rW_1_8 hL hw) (sX2_compareTwo_104 (sX2_compareTwo_105 rfl rfl (sX2_compareTwo_106 (kW_9 hL hw) c8 (sX2_compareTwo_107 (sX2_compareTwo_108 (sX2_compareTwo_109 (sX2_compareTwo_110 (sX2_compareTwo_111 (kW_9 hL hw) c9 (sX2_compareTwo_112 ?_)))))))))))
      obtain rfl := Option.some.inj e
      exact h
def J_X2_compareTwo_66 (w : Nat) (i1 : Int32) (i2 : Int32) (i3 : Int32) (k1 : Int32) (k2 : Int32) (k3 : Int32) (iv : am_I) : Option (am_I) :=
  (if vp_b k1 10 then J_X2_compareTwo_68 w i1 i2 i3 (am_w iv (w + 8) k1.toNatClampNeg (k2 ||| k3)) else none)
theorem j_X2_compareTwo_66 {E : am_E} {S : am_S} {Q : am_O → am_S → am_I → Prop} {w : Nat} (hL : am_Lay S) (hw : w = 2 ∨ w = 22) {i1 i2 i3 k1 k2 k3 : Int32} {iv : am_I} {y : am_I} (e : J_X2_compareTwo_66 w i1 i2 i3 k1 k2 k3 iv = some y) (h : Q (.inl none) S y) : am_R E 2 mX2_compareTwo 0 0 66 [.ref (w + 1), .int i1, .int i2, .int i3] [.int k3, .int k2, .int k1, .ref (w + 8)] S iv Q := by
  replace e := am_ckv e; obtain ⟨c15, e⟩ := e
  refine (sX2_compareTwo_66 (sX2_compareTwo_67 (kW_8 hL hw) c15 ?_))
  exact j_X2_compareTwo_68 hL hw e h
def F_X2_compareTwo (w : Nat) (i1 : Int32) (i2 : Int32) (i3 : Int32) (iv : am_I) : Option (am_I) :=
  (am_o1 (F_X2_columnsApart w i1 i2 iv) fun v1 => (if v1 ≤ 0 then (if vp_b i2 10 then (if vp_b i1 10 then (if (iv (w + 5) i2.toNatClampNeg) ≤ (iv (w + 5) i1.toNatClampNeg) then J_X2_compareTwo_68 w i1 i2 i3 iv else (if vp_b i1 10 then (if vp_b i1 10 then (if vp_b i1 10 then (if vp_b i2 10 then (if vp_b i1 10 then (if ((am_w iv (w + 7) i1.toNatClampNeg ((iv (w + 7) i1.toNatClampNeg) ||| ((1 : Int32) <<< (i2 &&& 31)))) (w + 6) i2.toNatClampNeg) < ((am_w iv (w + 7) i1.toNatClampNeg ((iv (w + 7) i1.toNatClampNeg) ||| ((1 : Int32) <<< (i2 &&& 31)))) (w + 6) i1.toNatClampNeg) then J_X2_compareTwo_66 w i1 i2 i3 i1 ((am_w iv (w + 7) i1.toNatClampNeg ((iv (w + 7) i1.toNatClampNeg) ||| ((1 : Int32) <<< (i2 &&& 31)))) (w + 8) i1.toNatClampNeg) (0 : Int32) (am_w iv (w + 7) i1.toNatClampNeg ((iv (w + 7) i1.toNatClampNeg) ||| ((1 : Int32) <<< (i2 &&& 31)))) else J_X2_compareTwo_66 w i1 i2 i3 i1 ((am_w iv (w + 7) i1.toNatClampNeg ((iv (w + 7) i1.toNatClampNeg) ||| ((1 : Int32) <<< (i2 &&& 31)))) (w + 8) i1.toNatClampNeg) ((1 : Int32) <<< (i2 &&& 31)) (am_w iv (w + 7) i1.toNatClampNeg ((iv (w + 7) i1.toNatClampNeg) ||| ((1 : Int32) <<< (i2 &&& 31))))) else none) else none) else none) else none) else none)) else none) else none) else some iv))
theorem R_X2_compareTwo {E : am_E} {S : am_S} {Q : am_O → am_S → am_I → Prop} {w : Nat} (hL : am_Lay S) (hw : w = 2 ∨ w = 22) {i1 i2 i3 : Int32} {iv : am_I} {y : am_I} (e : F_X2_compareTwo w i1 i2 i3 iv = some y) (h : Q (.inl none) S y) {d : Nat} (hd : 2 ≤ d) : am_M E d mX2_compareTwo 0 0 [.ref (w + 1), .int i1, .int i2, .int i3] S iv Q := by
  refine am_enter (js := []) rfl pn_X2 rfl rfl rfl (Nat.le_of_ble_eq_true rfl) (am_R.deep ?_ hd)
  replace e := am_o1_i e; obtain ⟨v1, e1, e⟩ := e
  refine (sX2_compareTwo_0 rfl (sX2_compareTwo_1 (sX2_compareTwo_2 (sX2_compareTwo_3 (kW_1 hL hw) (Nat.le_of_ble_eq_true rfl) (R_X2_columnsApart hL hw (h := ?_) (hd := (Nat.le_of_ble_eq_true rfl)) (e := e1))))))
  refine sX2_compareTwo_6 (fun hbr => ?_) (fun hbr => ?_)
  · replace e := am_pos hbr e
    replace e := am_ckv e; obtain ⟨c2, e⟩ := e
    replace e := am_ckv e; obtain ⟨c3, e⟩ := e
    refine (sX2_compareTwo_10 rfl (sX2_compareTwo_11 (kW_1 hL hw) (rW_1_4 hL hw) (sX2_compareTwo_14 (sX2_compareTwo_15 (kW_5 hL hw) c2 (sX2_compareTwo_16 rfl (sX2_compareTwo_17 (kW_1 hL hw) (rW_1_4 hL hw) (sX2_compareTwo_20 (sX2_compareTwo_21 (kW_5 hL hw) c3 ?_))))))))
    refine sX2_compareTwo_22 (fun hbr => ?_) (fun hbr => ?_)
    · replace e := am_pos hbr e
      exact j_X2_compareTwo_68 hL hw e h
    · replace e := am_neg hbr e
      replace e := am_ckv e; obtain ⟨c10, e⟩ := e
      replace e := am_ckv e; obtain ⟨c11, e⟩ := e
      replace e := am_ckv e; obtain ⟨c12, e⟩ := e
      replace e := am_ckv e; obtain ⟨c13, e⟩ := e
      replace e := am_ckv e; obtain ⟨c14, e⟩ := e
      refine (sX2_compareTwo_25 rfl (sX2_compareTwo_26 (kW_1 hL hw) (rW_1_6 hL hw) (sX2_compareTwo_29 (sX2_compareTwo_30 rfl rfl (sX2_compareTwo_31 (kW_7 hL hw) c10 (sX2_compareTwo_32 (sX2_compareTwo_33 (sX2_compareTwo_34 (sX2_compareTwo_35 (sX2_compareTwo_36 (kW_7 hL hw) c11 (sX2_compareTwo_37 rfl (sX2_compareTwo_38 (kW_1 hL hw) (rW_1_7 hL hw) (sX2_compareTwo_41 (sX2_compareTwo_42 rfl rfl (sX2_compareTwo_43 (kW_8 hL hw) c12 (sX2_compareTwo_44 rfl (sX2_compareTwo_45 (kW_1 hL hw) (rW_1_5 hL hw) (sX2_compareTwo_48 (sX2_compareTwo_49 (kW_6 hL hw) c13 (sX2_compareTwo_50 rfl (sX2_compareTwo_51 (kW_1 hL hw) (rW_1_5 hL hw) (sX2_compareTwo_54 (sX2_compareTwo_55 (kW_6 hL hw) c14 ?_)))))))))))))))))))))))
      refine sX2_compareTwo_56 (fun hbr => ?_) (fun hbr => ?_)
      · replace e := am_pos hbr e
        refine (sX2_compareTwo_65 ?_)
        exact j_X2_compareTwo_66 hL hw e h
      · replace e := am_neg hbr e
        refine (sX2_compareTwo_59 (sX2_compareTwo_60 (sX2_compareTwo_61 (sX2_compareTwo_62 ?_))))
        exact j_X2_compareTwo_66 hL hw e h
  · replace e := am_neg hbr e
    refine (sX2_compareTwo_9 ?_)
    obtain rfl := Option.some.inj e
    exact h
def B_X2_compare_95 (w : Nat) (i1 : Int32) (i2 : Int32) (i3 : Int32) (iv : am_I) : Option ((Int32 × am_I) ⊕ (am_I)) :=
  (if (iv (w + 1) 0) ≤ i3 then some (.inr iv) else (am_o1 (F_X2_compareTwo w i2 i3 i1 iv) fun w6 => some (.inl ((i3 + 1), w6))))
theorem b_X2_compare_95 {E : am_E} {S : am_S} {Q : am_O → am_S → am_I → Prop} {w : Nat} (hL : am_Lay S) (hw : w = 2 ∨ w = 22) {i1 i2 i3 : Int32} {iv : am_I} {y : (Int32 × am_I) ⊕ (am_I)} (e : B_X2_compare_95 w i1 i2 i3 iv = some y) (hc : ∀ s, y = .inl s → am_R E 3 mX2_compare 0 0 95 [.ref (w + 1), .int i1, .int i2, .int s.1] [] S s.2 Q) (hx : ∀ a, y = .inr a → ∀ z3 : Value, am_R E 3 mX2_compare 0 0 116 [.ref (w + 1), .int i1, .int i2, z3] [] S a Q) : am_R E 3 mX2_compare 0 0 95 [.ref (w + 1), .int i1, .int i2, .int i3] [] S iv Q := by
  refine (sX2_compare_95 (sX2_compare_96 rfl (sX2_compare_97 (kW_1 hL hw) ?_)))
  refine sX2_compare_100 (fun hbr => ?_) (fun hbr => ?_)
  · replace e := am_pos hbr e
    exact hx _ (Option.some.inj e).symm _
  · replace e := am_neg hbr e
    replace e := am_o1_i e; obtain ⟨w6, e6, e⟩ := e
    refine (sX2_compare_103 rfl (sX2_compare_104 (sX2_compare_105 (sX2_compare_106 (sX2_compare_107 (kW_1 hL hw) (Nat.le_of_ble_eq_true rfl) (R_X2_compareTwo hL hw (h := (sX2_compare_110 (sX2_compare_113 ?_))) (hd := (Nat.le_of_ble_eq_true rfl)) (e := e6)))))))
    exact hc _ (Option.some.inj e).symm
theorem l_X2_compare_95 {E : am_E} {S : am_S} {Q : am_O → am_S → am_I → Prop} {w : Nat} (hL : am_Lay S) (hw : w = 2 ∨ w = 22) {i1 i2 : Int32} (s : (Int32 × am_I)) {x : (am_I)} (e : am_loop (fun s : (Int32 × am_I) => B_X2_compare_95 w i1 i2 s.1 s.2) s = some x) (hx : ∀ z3 : Value, am_R E 3 mX2_compare 0 0 116 [.ref (w + 1), .int i1, .int i2, z3] [] S x Q) : am_R E 3 mX2_compare 0 0 95 [.ref (w + 1), .int i1, .int i2, .int s.1] [] S s.2 Q :=
  am_wh_sound (f := fun s : (Int32 × am_I) => B_X2_compare_95 w i1 i2 s.1 s.2) (P := fun s => am_R E 3 mX2_compare 0 0 95 [.ref (w + 1), .int i1, .int i2, .int s.1] [] S s.2 Q) (K := fun x => ∀ z3 : Value, am_R E 3 mX2_compare 0 0 116 [.ref (w + 1), .int i1, .int i2, z3] [] S x Q) (fun s y e hc hkk => b_X2_compare_95 hL hw e hc (fun a hy => hkk a hy)) am_fu s x e hx
def J_X2_compare_68 (w : Nat) (i1 : Int32) (i2 : Int32) (k1 : Int32) (k2 : Int32) (iv : am_I) : Option ((Int32 × am_I) ⊕ (am_I)) :=
  (if vp_b i2 10 then (if vp_b i2 10 then (if vp_b i2 10 then (am_o1 (am_loop (fun s : (Int32 × am_I) => B_X2_compare_95 w i1 i2 s.1 s.2) ((0 : Int32), (am_w (am_w (am_w (am_w iv (w + 1) 10 (k1 ||| k2)) (w + 7) i2.toNatClampNeg (0 : Int32)) (w + 8) i2.toNatClampNeg (0 : Int32)) (w + 9) i2.toNatClampNeg (0 : Int32)))) fun a7 => some (.inl ((i2 + 1), a7))) else none) else none) else none)
theorem j_X2_compare_68 {E : am_E} {S : am_S} {Q : am_O → am_S → am_I → Prop} {w : Nat} (hL : am_Lay S) (hw : w = 2 ∨ w = 22) {z3 : Value} {i1 i2 k1 k2 : Int32} {iv : am_I} {y : (Int32 × am_I) ⊕ (am_I)} (e : J_X2_compare_68 w i1 i2 k1 k2 iv = some y) (hc : ∀ s, y = .inl s → ∀ z3 : Value, am_R E 3 mX2_compare 0 0 12 [.ref (w + 1), .int i1, .int s.1, z3] [] S s.2 Q) (hx : ∀ a, y = .inr a → ∀ z0 z1 z2 z3 : Value, am_R E 3 mX2_compare 0 0 122 [z0, z1, z2, z3] [] S a Q) : am_R E 3 mX2_compare 0 0 68 [.ref (w + 1), .int i1, .int i2, z3] [.int k2, .int k1, .ref (w + 1)] S iv Q := by
  replace e := am_ckv e; obtain ⟨c3, e⟩ := e
  replace e := am_ckv e; obtain ⟨c4, e⟩ := e
  replace e := am_ckv e; obtain ⟨c5, e⟩ := e
  refine (sX2_compare_68 (sX2_compare_69 (kW_1 hL hw) (sX2_compare_72 rfl (sX2_compare_73 (kW_1 hL hw) (rW_1_6 hL hw) (sX2_compare_76 (sX2_compare_77 (sX2_compare_78 (kW_7 hL hw) c3 (sX2_compare_79 rfl (sX2_compare_80 (kW_1 hL hw) (rW_1_7 hL hw) (sX2_compare_83 (sX2_compare_84 (sX2_compare_85 (kW_8 hL hw) c4 (sX2_compare_86 rfl (sX2_compare_87 (kW_1 hL hw) (rW_1_8 hL hw) (sX2_compare_90 (sX2_compare_91 (sX2_compare_92 (kW_9 hL hw) c5 (sX2_compare_93 (sX2_compare_94 ?_)))))))))))))))))))
  replace e := am_o1_i e; obtain ⟨a7, e7, e⟩ := e
  refine l_X2_compare_95 hL hw _ e7 ?_
  intro z3
  refine (sX2_compare_116 (sX2_compare_119 ?_))
  exact hc _ (Option.some.inj e).symm _
def J_X2_compare_42 (w : Nat) (i1 : Int32) (i2 : Int32) (k1 : Int32) (k2 : Int32) (iv : am_I) : Option ((Int32 × am_I) ⊕ (am_I)) :=
  (if vp_b i2 10 then (if ((am_w iv (w + 1) 9 (k1 ||| k2)) (w + 2) i2.toNatClampNeg) = (2 : Int32) then J_X2_compare_68 w i1 i2 ((am_w iv (w + 1) 9 (k1 ||| k2)) (w + 1) 10) ((1 : Int32) <<< (i2 &&& 31)) (am_w iv (w + 1) 9 (k1 ||| k2)) else J_X2_compare_68 w i1 i2 ((am_w iv (w + 1) 9 (k1 ||| k2)) (w + 1) 10) (0 : Int32) (am_w iv (w + 1) 9 (k1 ||| k2))) else none)
theorem j_X2_compare_42 {E : am_E} {S : am_S} {Q : am_O → am_S → am_I → Prop} {w : Nat} (hL : am_Lay S) (hw : w = 2 ∨ w = 22) {z3 : Value} {i1 i2 k1 k2 : Int32} {iv : am_I} {y : (Int32 × am_I) ⊕ (am_I)} (e : J_X2_compare_42 w i1 i2 k1 k2 iv = some y) (hc : ∀ s, y = .inl s → ∀ z3 : Value, am_R E 3 mX2_compare 0 0 12 [.ref (w + 1), .int i1, .int s.1, z3] [] S s.2 Q) (hx : ∀ a, y = .inr a → ∀ z0 z1 z2 z3 : Value, am_R E 3 mX2_compare 0 0 122 [z0, z1, z2, z3] [] S a Q) : am_R E 3 mX2_compare 0 0 42 [.ref (w + 1), .int i1, .int i2, z3] [.int k2, .int k1, .ref (w + 1)] S iv Q := by
  replace e := am_ckv e; obtain ⟨c2, e⟩ := e
  refine (sX2_compare_42 (sX2_compare_43 (kW_1 hL hw) (sX2_compare_46 rfl (sX2_compare_47 rfl (sX2_compare_48 (kW_1 hL hw) (sX2_compare_51 rfl (sX2_compare_52 (kW_1 hL hw) (rW_1_1 hL hw) (sX2_compare_55 (sX2_compare_56 (kW_2 hL hw) c2 (sX2_compare_57 ?_))))))))))
  refine sX2_compare_58 (fun hbr => ?_) (fun hbr => ?_)
  · replace e := am_neg hbr e
    refine (sX2_compare_67 ?_)
    exact j_X2_compare_68 hL hw e hc hx
  · replace e := am_pos hbr e
    refine (sX2_compare_61 (sX2_compare_62 (sX2_compare_63 (sX2_compare_64 ?_))))
    exact j_X2_compare_68 hL hw e hc hx
def B_X2_compare_12 (w : Nat) (i1 : Int32) (i2 : Int32) (iv : am_I) : Option ((Int32 × am_I) ⊕ (am_I)) :=
  (if (iv (w + 1) 0) ≤ i2 then some (.inr iv) else (if vp_b i2 10 then (if (iv (w + 2) i2.toNatClampNeg) = (1 : Int32) then J_X2_compare_42 w i1 i2 (iv (w + 1) 9) ((1 : Int32) <<< (i2 &&& 31)) iv else J_X2_compare_42 w i1 i2 (iv (w + 1) 9) (0 : Int32) iv) else none))
theorem b_X2_compare_12 {E : am_E} {S : am_S} {Q : am_O → am_S → am_I → Prop} {w : Nat} (hL : am_Lay S) (hw : w = 2 ∨ w = 22) {z3 : Value} {i1 i2 : Int32} {iv : am_I} {y : (Int32 × am_I) ⊕ (am_I)} (e : B_X2_compare_12 w i1 i2 iv = some y) (hc : ∀ s, y = .inl s → ∀ z3 : Value, am_R E 3 mX2_compare 0 0 12 [.ref (w + 1), .int i1, .int s.1, z3] [] S s.2 Q) (hx : ∀ a, y = .inr a → ∀ z0 z1 z2 z3 : Value, am_R E 3 mX2_compare 0 0 122 [z0, z1, z2, z3] [] S a Q) : am_R E 3 mX2_compare 0 0 12 [.ref (w + 1), .int i1, .int i2, z3] [] S iv Q := by
  refine (sX2_compare_12 (sX2_compare_13 rfl (sX2_compare_14 (kW_1 hL hw) ?_)))
  refine sX2_compare_17 (fun hbr => ?_) (fun hbr => ?_)
  · replace e := am_pos hbr e
    exact hx _ (Option.some.inj e).symm _ _ _ _
  · replace e := am_neg hbr e
    replace e := am_ckv e; obtain ⟨c1, e⟩ := e
    refine (sX2_compare_20 rfl (sX2_compare_21 rfl (sX2_compare_22 (kW_1 hL hw) (sX2_compare_25 rfl (sX2_compare_26 (kW_1 hL hw) (rW_1_1 hL hw) (sX2_compare_29 (sX2_compare_30 (kW_2 hL hw) c1 (sX2_compare_31 ?_))))))))
    refine sX2_compare_32 (fun hbr => ?_) (fun hbr => ?_)
    · replace e := am_neg hbr e
      refine (sX2_compare_41 ?_)
      exact j_X2_compare_42 hL hw e hc hx
    · replace e := am_pos hbr e
      refine (sX2_compare_35 (sX2_compare_36 (sX2_compare_37 (sX2_compare_38 ?_))))
      exact j_X2_compare_42 hL hw e hc hx
theorem l_X2_compare_12 {E : am_E} {S : am_S} {Q : am_O → am_S → am_I → Prop} {w : Nat} (hL : am_Lay S) (hw : w = 2 ∨ w = 22) {i1 : Int32} (s : (Int32 × am_I)) {x : (am_I)} (e : am_loop (fun s : (Int32 × am_I) => B_X2_compare_12 w i1 s.1 s.2) s = some x) (hx : ∀ z0 z1 z2 z3 : Value, am_R E 3 mX2_compare 0 0 122 [z0, z1, z2, z3] [] S x Q) : ∀ z3 : Value, am_R E 3 mX2_compare 0 0 12 [.ref (w + 1), .int i1, .int s.1, z3] [] S s.2 Q :=
  am_wh_sound (f := fun s : (Int32 × am_I) => B_X2_compare_12 w i1 s.1 s.2) (P := fun s => ∀ z3 : Value, am_R E 3 mX2_compare 0 0 12 [.ref (w + 1), .int i1, .int s.1, z3] [] S s.2 Q) (K := fun x => ∀ z0 z1 z2 z3 : Value, am_R E 3 mX2_compare 0 0 122 [z0, z1, z2, z3] [] S x Q) (fun s y e hc hkk => fun z3 => b_X2_compare_12 hL hw e hc (fun a hy => hkk a hy)) am_fu s x e hx
def F_X2_compare (w : Nat) (i1 : Int32) (iv : am_I) : Option (am_I) :=
  (am_o1 (am_loop (fun s : (Int32 × am_I) => B_X2_compare_12 w i1 s.1 s.2) ((0 : Int32), (am_w (am_w iv (w + 1) 9 (0 : Int32)) (w + 1) 10 (0 : Int32)))) fun a8 => some a8)
theorem R_X2_compare {E : am_E} {S : am_S} {Q : am_O → am_S → am_I → Prop} {w : Nat} (hL : am_Lay S) (hw : w = 2 ∨ w = 22) {i1 : Int32} {iv : am_I} {y : am_I} (e : F_X2_compare w i1 iv = some y) (h : Q (.inl none) S y) {d : Nat} (hd : 3 ≤ d) : am_M E d mX2_compare 0 0 [.ref (w + 1), .int i1] S iv Q := by
  refine am_enter (js := [.double 0, .double 0]) rfl pn_X2 rfl rfl rfl (Nat.le_of_ble_eq_true rfl) (am_R.deep ?_ hd)
  refine (sX2_compare_0 rfl (sX2_compare_1 (sX2_compare_2 (kW_1 hL hw) (sX2_compare_5 rfl (sX2_compare_6 (sX2_compare_7 (kW_1 hL hw) (sX2_compare_10 (sX2_compare_11 ?_))))))))
  replace e := am_o1_i e; obtain ⟨a8, e8, e⟩ := e
  refine l_X2_compare_12 hL hw _ e8 ?_ _
  intro z0 z1 z2 z3
  refine (sX2_compare_122 ?_)
  obtain rfl := Option.some.inj e
  exact h
