/-! functions of the methods, and their rows (by program) -/
def F_X1_kindTold (w : Nat) (t : Nat) (rr : Nat) (xr : Nat) (iv : am_I) : Option (Int32) :=
  (am_o1 (F_X8_isWord t 2  iv) fun v1 => (if v1 = 0 then (am_o1 (F_X8_isWord t 3  iv) fun v2 => (if v2 = 0 then (am_o1 (F_X8_isWord t 4  iv) fun v3 => (if v3 = 0 then (am_o1 (F_X8_isWord t 5  iv) fun v4 => (if v4 = 0 then some (-1 : Int32) else some (3 : Int32))) else some (2 : Int32))) else some (1 : Int32))) else some (0 : Int32)))
theorem R_X1_kindTold {E : am_E} {S : am_S} {Q : am_O → am_S → am_I → Prop} {w : Nat} {t : Nat} {rr : Nat} {xr : Nat} (hL : am_Lay S) (hw : w = 2 ∨ w = 22) (hR : am_Rd S w t rr xr) {iv : am_I} {y : Int32} (e : F_X1_kindTold w t rr xr  iv = some y) (h : Q (.inl (some (.int y))) S iv) {d : Nat} (hd : 5 ≤ d) : am_M E d mX1_kindTold 0 0 [.ref rr] S iv Q := by
  refine am_enter (js := []) rfl pn_X1 rfl rfl rfl (Nat.le_of_ble_eq_true rfl) (am_R.deep ?_ hd)
  replace e := am_o1_i e; obtain ⟨v1, e1, e⟩ := e
  refine (sX1_kindTold_0 rfl (sX1_kindTold_1 (hR.2.1) (hR.2.2.1) (sX1_kindTold_4 (sX1_kindTold_6 (hR.1.1) (Nat.le_of_ble_eq_true rfl) (R_X8_isWord hL hR.1 (by decide) (h := ?_) (hd := (Nat.le_of_ble_eq_true rfl)) (e := e1))))))
  refine sX1_kindTold_9 (fun hbr => ?_) (fun hbr => ?_)
  · replace e := am_pos hbr e
    replace e := am_o1_i e; obtain ⟨v2, e2, e⟩ := e
    refine (sX1_kindTold_14 rfl (sX1_kindTold_15 (hR.2.1) (hR.2.2.1) (sX1_kindTold_18 (sX1_kindTold_20 (hR.1.1) (Nat.le_of_ble_eq_true rfl) (R_X8_isWord hL hR.1 (by decide) (h := ?_) (hd := (Nat.le_of_ble_eq_true rfl)) (e := e2))))))
    refine sX1_kindTold_23 (fun hbr => ?_) (fun hbr => ?_)
    · replace e := am_pos hbr e
      replace e := am_o1_i e; obtain ⟨v3, e3, e⟩ := e
      refine (sX1_kindTold_28 rfl (sX1_kindTold_29 (hR.2.1) (hR.2.2.1) (sX1_kindTold_32 (sX1_kindTold_34 (hR.1.1) (Nat.le_of_ble_eq_true rfl) (R_X8_isWord hL hR.1 (by decide) (h := ?_) (hd := (Nat.le_of_ble_eq_true rfl)) (e := e3))))))
      refine sX1_kindTold_37 (fun hbr => ?_) (fun hbr => ?_)
      · replace e := am_pos hbr e
        replace e := am_o1_i e; obtain ⟨v4, e4, e⟩ := e
        refine (sX1_kindTold_42 rfl (sX1_kindTold_43 (hR.2.1) (hR.2.2.1) (sX1_kindTold_46 (sX1_kindTold_48 (hR.1.1) (Nat.le_of_ble_eq_true rfl) (R_X8_isWord hL hR.1 (by decide) (h := ?_) (hd := (Nat.le_of_ble_eq_true rfl)) (e := e4))))))
        refine sX1_kindTold_51 (fun hbr => ?_) (fun hbr => ?_)
        · replace e := am_pos hbr e
          refine (sX1_kindTold_58 (sX1_kindTold_59 ?_))
          obtain rfl := Option.some.inj e
          exact h
        · replace e := am_neg hbr e
          refine (sX1_kindTold_54 (sX1_kindTold_55 (sX1_kindTold_59 ?_)))
          obtain rfl := Option.some.inj e
          exact h
      · replace e := am_neg hbr e
        refine (sX1_kindTold_40 (sX1_kindTold_41 ?_))
        obtain rfl := Option.some.inj e
        exact h
    · replace e := am_neg hbr e
      refine (sX1_kindTold_26 (sX1_kindTold_27 ?_))
      obtain rfl := Option.some.inj e
      exact h
  · replace e := am_neg hbr e
    refine (sX1_kindTold_12 (sX1_kindTold_13 ?_))
    obtain rfl := Option.some.inj e
    exact h
def F_X1_readSign (w : Nat) (t : Nat) (rr : Nat) (xr : Nat) (i1 : Int32) (iv : am_I) : Option (Int32 × am_I) :=
  (am_o1 (F_X8_isSign t i1 iv) fun v1 => (if v1 = 0 then (am_o2 (F_X8_refuse t (1 : Int32) iv) fun v3 w3 => (if v3 = 0 ∨ v3 = 1 then some (v3, w3) else none)) else (am_o1 (F_X8_advance t  iv) fun w2 => some ((1 : Int32), w2))))
theorem YR_X1_readSign {E : am_E} {S : am_S} {Q : am_O → am_S → am_I → Prop} {w : Nat} {t : Nat} {rr : Nat} {xr : Nat} (hL : am_Lay S) (hw : w = 2 ∨ w = 22) (hR : am_Rd S w t rr xr) {i1 : Int32} {iv : am_I} {y : Int32 × am_I} (e : F_X1_readSign w t rr xr i1 iv = some y) (h : Q (.inl (some (.int y.1))) S y.2) {d : Nat} (hd : 8 ≤ d) : am_M E d mX1_readSign 0 0 [.ref rr, .int i1] S iv Q := by
  refine am_enter (js := []) rfl pn_X1 rfl rfl rfl (Nat.le_of_ble_eq_true rfl) (am_R.deep ?_ hd)
  replace e := am_o1_i e; obtain ⟨v1, e1, e⟩ := e
  refine (sX1_readSign_0 rfl (sX1_readSign_1 (hR.2.1) (hR.2.2.1) (sX1_readSign_4 (sX1_readSign_5 (hR.1.1) (Nat.le_of_ble_eq_true rfl) (R_X8_isSign hL hR.1 (h := ?_) (hd := (Nat.le_of_ble_eq_true rfl)) (e := e1))))))
  refine sX1_readSign_8 (fun hbr => ?_) (fun hbr => ?_)
  · replace e := am_neg hbr e
    replace e := am_o1_i e; obtain ⟨w2, e2, e⟩ := e
    refine (sX1_readSign_20 rfl (sX1_readSign_21 (hR.2.1) (hR.2.2.1) (sX1_readSign_24 (hR.1.1) (Nat.le_of_ble_eq_true rfl) (R_X8_advance hL hR.1 (h := (sX1_readSign_27 (sX1_readSign_28 rfl ?_))) (hd := (Nat.le_of_ble_eq_true rfl)) (e := e2)))))
    obtain rfl := Option.some.inj e
    exact h
  · replace e := am_pos hbr e
    replace e := am_o2_i e; obtain ⟨v3, w3, e3, e⟩ := e
    replace e := am_ck e; obtain ⟨c4, e⟩ := e
    refine (sX1_readSign_11 rfl (sX1_readSign_12 (hR.2.1) (hR.2.2.1) (sX1_readSign_15 (sX1_readSign_16 (hR.1.1) (Nat.le_of_ble_eq_true rfl) (R_X8_refuse hL hR.1 (h := (sX1_readSign_19 (am_nar c4) ?_)) (hd := (Nat.le_of_ble_eq_true rfl)) (e := e3))))))
    obtain rfl := Option.some.inj e
    exact h
theorem R_X1_readSign {E : am_E} {S : am_S} {Q : am_O → am_S → am_I → Prop} {w : Nat} {t : Nat} {rr : Nat} {xr : Nat} (hL : am_Lay S) (hw : w = 2 ∨ w = 22) (hR : am_Rd S w t rr xr) {i1 : Int32} {iv : am_I} {v' : Int32} {iv' : am_I} (e : F_X1_readSign w t rr xr i1 iv = some (v', iv')) (h : Q (.inl (some (.int v'))) S iv') {d : Nat} (hd : 8 ≤ d) : am_M E d mX1_readSign 0 0 [.ref rr, .int i1] S iv Q :=
  YR_X1_readSign hL hw hR e h hd
def J_X1_seeNumber_65 (w : Nat) (t : Nat) (rr : Nat) (xr : Nat) (iv : am_I) : Option (Int32 × am_I) :=
  (am_o2 (F_X8_refuse t (2 : Int32) iv) fun v4 w4 => (if v4 = 0 then some ((0 : Int32), w4) else some ((1 : Int32), w4)))
theorem j_X1_seeNumber_65 {E : am_E} {S : am_S} {Q : am_O → am_S → am_I → Prop} {w : Nat} {t : Nat} {rr : Nat} {xr : Nat} (hL : am_Lay S) (hw : w = 2 ∨ w = 22) (hR : am_Rd S w t rr xr) {z1 z2 : Value} {iv : am_I} {y : Int32 × am_I} (e : J_X1_seeNumber_65 w t rr xr  iv = some y) (h : Q (.inl (some (.int y.1))) S y.2) : am_R E 1 mX1_seeNumber 0 0 65 [.ref rr, z1, z2] [] S iv Q := by
  replace e := am_o2_i e; obtain ⟨v4, w4, e4, e⟩ := e
  refine (sX1_seeNumber_65 rfl (sX1_seeNumber_66 (hR.2.1) (hR.2.2.1) (sX1_seeNumber_69 (sX1_seeNumber_70 (hR.1.1) (Nat.le_of_ble_eq_true rfl) (R_X8_refuse hL hR.1 (h := ?_) (hd := (Nat.le_of_ble_eq_true rfl)) (e := e4))))))
  refine sX1_seeNumber_73 (fun hbr => ?_) (fun hbr => ?_)
  · replace e := am_pos hbr e
    refine (sX1_seeNumber_80 (sX1_seeNumber_81 rfl ?_))
    obtain rfl := Option.some.inj e
    exact h
  · replace e := am_neg hbr e
    refine (sX1_seeNumber_76 (sX1_seeNumber_77 (sX1_seeNumber_81 rfl ?_)))
    obtain rfl := Option.some.inj e
    exact h
def F_X1_seeNumber (w : Nat) (t : Nat) (rr : Nat) (xr : Nat) (i1 : Int32) (i2 : Int32) (iv : am_I) : Option (Int32 × am_I) :=
  (am_o1 (F_X8_isNumber t  iv) fun v1 => (if v1 = 0 then (am_o2 (F_X8_refuse t (1 : Int32) iv) fun v7 w7 => (if v7 = 0 ∨ v7 = 1 then some (v7, w7) else none)) else (am_o1 (F_X8_isTooLong t  iv) fun v2 => (if v2 = 0 then (am_o1 (F_X8_number t  iv) fun v3 => (if ((am_w iv rr 6 v3) rr 6) < i1 then J_X1_seeNumber_65 w t rr xr  (am_w iv rr 6 v3) else (if ((am_w iv rr 6 v3) rr 6) ≤ i2 then some ((1 : Int32), (am_w iv rr 6 v3)) else J_X1_seeNumber_65 w t rr xr  (am_w iv rr 6 v3)))) else (am_o2 (F_X8_refuse t (2 : Int32) iv) fun v5 w5 => (if v5 = 0 ∨ v5 = 1 then some (v5, w5) else none))))))
theorem YR_X1_seeNumber {E : am_E} {S : am_S} {Q : am_O → am_S → am_I → Prop} {w : Nat} {t : Nat} {rr : Nat} {xr : Nat} (hL : am_Lay S) (hw : w = 2 ∨ w = 22) (hR : am_Rd S w t rr xr) {i1 i2 : Int32} {iv : am_I} {y : Int32 × am_I} (e : F_X1_seeNumber w t rr xr i1 i2 iv = some y) (h : Q (.inl (some (.int y.1))) S y.2) {d : Nat} (hd : 1 ≤ d) : am_M E d mX1_seeNumber 0 0 [.ref rr, .int i1, .int i2] S iv Q := by
  refine am_enter (js := []) rfl pn_X1 rfl rfl rfl (Nat.le_of_ble_eq_true rfl) (am_R.deep ?_ hd)
  replace e := am_o1_i e; obtain ⟨v1, e1, e⟩ := e
  refine (sX1_seeNumber_0 rfl (sX1_seeNumber_1 (hR.2.1) (hR.2.2.1) (sX1_seeNumber_4 (hR.1.1) (Nat.le_of_ble_eq_true rfl) (R_X8_isNumber hL hR.1 (h := ?_) (hd := (Nat.le_of_ble_eq_true rfl)) (e := e1)))))
  refine sX1_seeNumber_7 (fun hbr => ?_) (fun hbr => ?_)
  · replace e := am_neg hbr e
    replace e := am_o1_i e; obtain ⟨v2, e2, e⟩ := e
    refine (sX1_seeNumber_19 rfl (sX1_seeNumber_20 (hR.2.1) (hR.2.2.1) (sX1_seeNumber_23 (hR.1.1) (Nat.le_of_ble_eq_true rfl) (R_X8_isTooLong hL hR.1 (h := ?_) (hd := (Nat.le_of_ble_eq_true rfl)) (e := e2)))))
    refine sX1_seeNumber_26 (fun hbr => ?_) (fun hbr => ?_)
    · replace e := am_pos hbr e
      replace e := am_o1_i e; obtain ⟨v3, e3, e⟩ := e
      refine (sX1_seeNumber_38 rfl (sX1_seeNumber_39 rfl (sX1_seeNumber_40 (hR.2.1) (hR.2.2.1) (sX1_seeNumber_43 (hR.1.1) (Nat.le_of_ble_eq_true rfl) (R_X8_number hL hR.1 (h := (sX1_seeNumber_46 (hR.2.1) (sX1_seeNumber_49 rfl (sX1_seeNumber_50 (hR.2.1) (sX1_seeNumber_53 ?_))))) (hd := (Nat.le_of_ble_eq_true rfl)) (e := e3))))))
      refine sX1_seeNumber_54 (fun hbr => ?_) (fun hbr => ?_)
      · replace e := am_pos hbr e
        exact j_X1_seeNumber_65 hL hw hR e h
      · replace e := am_neg hbr e
        refine (sX1_seeNumber_57 rfl (sX1_seeNumber_58 (hR.2.1) (sX1_seeNumber_61 ?_)))
        refine sX1_seeNumber_62 (fun hbr => ?_) (fun hbr => ?_)
        · replace e := am_pos hbr e
          refine (sX1_seeNumber_76 (sX1_seeNumber_77 (sX1_seeNumber_81 rfl ?_)))
          obtain rfl := Option.some.inj e
          exact h
        · replace e := am_neg hbr e
          exact j_X1_seeNumber_65 hL hw hR e h
    · replace e := am_neg hbr e
      replace e := am_o2_i e; obtain ⟨v5, w5, e5, e⟩ := e
      replace e := am_ck e; obtain ⟨c6, e⟩ := e
      refine (sX1_seeNumber_29 rfl (sX1_seeNumber_30 (hR.2.1) (hR.2.2.1) (sX1_seeNumber_33 (sX1_seeNumber_34 (hR.1.1) (Nat.le_of_ble_eq_true rfl) (R_X8_refuse hL hR.1 (h := (sX1_seeNumber_37 (am_nar c6) ?_)) (hd := (Nat.le_of_ble_eq_true rfl)) (e := e5))))))
      obtain rfl := Option.some.inj e
      exact h
  · replace e := am_pos hbr e
    replace e := am_o2_i e; obtain ⟨v7, w7, e7, e⟩ := e
    replace e := am_ck e; obtain ⟨c8, e⟩ := e
    refine (sX1_seeNumber_10 rfl (sX1_seeNumber_11 (hR.2.1) (hR.2.2.1) (sX1_seeNumber_14 (sX1_seeNumber_15 (hR.1.1) (Nat.le_of_ble_eq_true rfl) (R_X8_refuse hL hR.1 (h := (sX1_seeNumber_18 (am_nar c8) ?_)) (hd := (Nat.le_of_ble_eq_true rfl)) (e := e7))))))
    obtain rfl := Option.some.inj e
    exact h
theorem R_X1_seeNumber {E : am_E} {S : am_S} {Q : am_O → am_S → am_I → Prop} {w : Nat} {t : Nat} {rr : Nat} {xr : Nat} (hL : am_Lay S) (hw : w = 2 ∨ w = 22) (hR : am_Rd S w t rr xr) {i1 i2 : Int32} {iv : am_I} {v' : Int32} {iv' : am_I} (e : F_X1_seeNumber w t rr xr i1 i2 iv = some (v', iv')) (h : Q (.inl (some (.int v'))) S iv') {d : Nat} (hd : 1 ≤ d) : am_M E d mX1_seeNumber 0 0 [.ref rr, .int i1, .int i2] S iv Q :=
  YR_X1_seeNumber hL hw hR e h hd
def F_X1_readNumber (w : Nat) (t : Nat) (rr : Nat) (xr : Nat) (i1 : Int32) (i2 : Int32) (iv : am_I) : Option (Int32 × am_I) :=
  (am_o2 (F_X1_seeNumber w t rr xr i1 i2 iv) fun v1 w1 => (if v1 = 0 then some ((0 : Int32), w1) else (am_o1 (F_X8_advance t  w1) fun w2 => some ((1 : Int32), w2))))
theorem YR_X1_readNumber {E : am_E} {S : am_S} {Q : am_O → am_S → am_I → Prop} {w : Nat} {t : Nat} {rr : Nat} {xr : Nat} (hL : am_Lay S) (hw : w = 2 ∨ w = 22) (hR : am_Rd S w t rr xr) {i1 i2 : Int32} {iv : am_I} {y : Int32 × am_I} (e : F_X1_readNumber w t rr xr i1 i2 iv = some y) (h : Q (.inl (some (.int y.1))) S y.2) {d : Nat} (hd : 8 ≤ d) : am_M E d mX1_readNumber 0 0 [.ref rr, .int i1, .int i2] S iv Q := by
  refine am_enter (js := []) rfl pn_X1 rfl rfl rfl (Nat.le_of_ble_eq_true rfl) (am_R.deep ?_ hd)
  replace e := am_o2_i e; obtain ⟨v1, w1, e1, e⟩ := e
  refine (sX1_readNumber_0 rfl (sX1_readNumber_1 (sX1_readNumber_2 (sX1_readNumber_3 (hR.2.1) (Nat.le_of_ble_eq_true rfl) (R_X1_seeNumber hL hw hR (h := ?_) (hd := (Nat.le_of_ble_eq_true rfl)) (e := e1))))))
  refine sX1_readNumber_6 (fun hbr => ?_) (fun hbr => ?_)
  · replace e := am_neg hbr e
    replace e := am_o1_i e; obtain ⟨w2, e2, e⟩ := e
    refine (sX1_readNumber_11 rfl (sX1_readNumber_12 (hR.2.1) (hR.2.2.1) (sX1_readNumber_15 (hR.1.1) (Nat.le_of_ble_eq_true rfl) (R_X8_advance hL hR.1 (h := (sX1_readNumber_18 (sX1_readNumber_19 rfl ?_))) (hd := (Nat.le_of_ble_eq_true rfl)) (e := e2)))))
    obtain rfl := Option.some.inj e
    exact h
  · replace e := am_pos hbr e
    refine (sX1_readNumber_9 (sX1_readNumber_10 rfl ?_))
    obtain rfl := Option.some.inj e
    exact h
theorem R_X1_readNumber {E : am_E} {S : am_S} {Q : am_O → am_S → am_I → Prop} {w : Nat} {t : Nat} {rr : Nat} {xr : Nat} (hL : am_Lay S) (hw : w = 2 ∨ w = 22) (hR : am_Rd S w t rr xr) {i1 i2 : Int32} {iv : am_I} {v' : Int32} {iv' : am_I} (e : F_X1_readNumber w t rr xr i1 i2 iv = some (v', iv')) (h : Q (.inl (some (.int v'))) S iv') {d : Nat} (hd : 8 ≤ d) : am_M E d mX1_readNumber 0 0 [.ref rr, .int i1, .int i2] S iv Q :=
  YR_X1_readNumber hL hw hR e h hd
def F_X1_readWall (w : Nat) (t : Nat) (rr : Nat) (xr : Nat) (iv : am_I) : Option (Int32 × am_I) :=
  (am_o1 (F_X8_advance t  iv) fun w1 => (am_o2 (F_X1_readNumber w t rr xr (1 : Int32) (6 : Int32) w1) fun v2 w2 => (if v2 = 0 then some ((0 : Int32), w2) else (am_o2 (F_X1_readNumber w t rr xr (1 : Int32) (9 : Int32) (am_w w2 w 0 (w2 rr 6))) fun v3 w3 => (if v3 = 0 then some ((0 : Int32), w3) else some ((1 : Int32), (am_w w3 w 1 (w3 rr 6))))))))
theorem YR_X1_readWall {E : am_E} {S : am_S} {Q : am_O → am_S → am_I → Prop} {w : Nat} {t : Nat} {rr : Nat} {xr : Nat} (hL : am_Lay S) (hw : w = 2 ∨ w = 22) (hR : am_Rd S w t rr xr) {iv : am_I} {y : Int32 × am_I} (e : F_X1_readWall w t rr xr  iv = some y) (h : Q (.inl (some (.int y.1))) S y.2) {d : Nat} (hd : 9 ≤ d) : am_M E d mX1_readWall 0 0 [.ref rr] S iv Q := by
  refine am_enter (js := []) rfl pn_X1 rfl rfl rfl (Nat.le_of_ble_eq_true rfl) (am_R.deep ?_ hd)
  replace e := am_o1_i e; obtain ⟨w1, e1, e⟩ := e
  replace e := am_o2_i e; obtain ⟨v2, w2, e2, e⟩ := e
  refine (sX1_readWall_0 rfl (sX1_readWall_1 (hR.2.1) (hR.2.2.1) (sX1_readWall_4 (hR.1.1) (Nat.le_of_ble_eq_true rfl) (R_X8_advance hL hR.1 (h := (sX1_readWall_7 rfl (sX1_readWall_8 (sX1_readWall_9 (sX1_readWall_11 (hR.2.1) (Nat.le_of_ble_eq_true rfl) (R_X1_readNumber hL hw hR (h := ?_) (hd := (Nat.le_of_ble_eq_true rfl)) (e := e2))))))) (hd := (Nat.le_of_ble_eq_true rfl)) (e := e1)))))
  refine sX1_readWall_14 (fun hbr => ?_) (fun hbr => ?_)
  · replace e := am_neg hbr e
    replace e := am_o2_i e; obtain ⟨v3, w3, e3, e⟩ := e
    refine (sX1_readWall_19 rfl (sX1_readWall_20 (hR.2.1) (hR.2.2.2.1) (sX1_readWall_23 rfl (sX1_readWall_24 (hR.2.1) (sX1_readWall_27 (kW_0 hL hw) (sX1_readWall_30 rfl (sX1_readWall_31 (sX1_readWall_32 (sX1_readWall_34 (hR.2.1) (Nat.le_of_ble_eq_true rfl) (R_X1_readNumber hL hw hR (h := ?_) (hd := (Nat.le_of_ble_eq_true rfl)) (e := e3)))))))))))
    refine sX1_readWall_37 (fun hbr => ?_) (fun hbr => ?_)
    · replace e := am_neg hbr e
      refine (sX1_readWall_42 rfl (sX1_readWall_43 (hR.2.1) (hR.2.2.2.1) (sX1_readWall_46 rfl (sX1_readWall_47 (hR.2.1) (sX1_readWall_50 (kW_0 hL hw) (sX1_readWall_53 (sX1_readWall_54 rfl ?_)))))))
      obtain rfl := Option.some.inj e
      exact h
    · replace e := am_pos hbr e
      refine (sX1_readWall_40 (sX1_readWall_41 rfl ?_))
      obtain rfl := Option.some.inj e
      exact h
  · replace e := am_pos hbr e
    refine (sX1_readWall_17 (sX1_readWall_18 rfl ?_))
    obtain rfl := Option.some.inj e
    exact h
theorem R_X1_readWall {E : am_E} {S : am_S} {Q : am_O → am_S → am_I → Prop} {w : Nat} {t : Nat} {rr : Nat} {xr : Nat} (hL : am_Lay S) (hw : w = 2 ∨ w = 22) (hR : am_Rd S w t rr xr) {iv : am_I} {v' : Int32} {iv' : am_I} (e : F_X1_readWall w t rr xr  iv = some (v', iv')) (h : Q (.inl (some (.int v'))) S iv') {d : Nat} (hd : 9 ≤ d) : am_M E d mX1_readWall 0 0 [.ref rr] S iv Q :=
  YR_X1_readWall hL hw hR e h hd
def F_X1_readReach (w : Nat) (t : Nat) (rr : Nat) (xr : Nat) (iv : am_I) : Option (Int32 × am_I) :=
  (am_o1 (F_X8_advance t  iv) fun w1 => (am_o2 (F_X1_readNumber w t rr xr (1 : Int32) (9 : Int32) w1) fun v2 w2 => (if v2 = 0 then some ((0 : Int32), w2) else some ((1 : Int32), (am_w (am_w w2 w 2 (w2 rr 6)) rr 3 (1 : Int32))))))
theorem YR_X1_readReach {E : am_E} {S : am_S} {Q : am_O → am_S → am_I → Prop} {w : Nat} {t : Nat} {rr : Nat} {xr : Nat} (hL : am_Lay S) (hw : w = 2 ∨ w = 22) (hR : am_Rd S w t rr xr) {iv : am_I} {y : Int32 × am_I} (e : F_X1_readReach w t rr xr  iv = some y) (h : Q (.inl (some (.int y.1))) S y.2) {d : Nat} (hd : 9 ≤ d) : am_M E d mX1_readReach 0 0 [.ref rr] S iv Q := by
  refine am_enter (js := []) rfl pn_X1 rfl rfl rfl (Nat.le_of_ble_eq_true rfl) (am_R.deep ?_ hd)
  replace e := am_o1_i e; obtain ⟨w1, e1, e⟩ := e
  replace e := am_o2_i e; obtain ⟨v2, w2, e2, e⟩ := e
  refine (sX1_readReach_0 rfl (sX1_readReach_1 (hR.2.1) (hR.2.2.1) (sX1_readReach_4 (hR.1.1) (Nat.le_of_ble_eq_true rfl) (R_X8_advance hL hR.1 (h := (sX1_readReach_7 rfl (sX1_readReach_8 (sX1_readReach_9 (sX1_readReach_11 (hR.2.1) (Nat.le_of_ble_eq_true rfl) (R_X1_readNumber hL hw hR (h := ?_) (hd := (Nat.le_of_ble_eq_true rfl)) (e := e2))))))) (hd := (Nat.le_of_ble_eq_true rfl)) (e := e1)))))
  refine sX1_readReach_14 (fun hbr => ?_) (fun hbr => ?_)
  · replace e := am_neg hbr e
    refine (sX1_readReach_19 rfl (sX1_readReach_20 (hR.2.1) (hR.2.2.2.1) (sX1_readReach_23 rfl (sX1_readReach_24 (hR.2.1) (sX1_readReach_27 (kW_0 hL hw) (sX1_readReach_30 rfl (sX1_readReach_31 (sX1_readReach_32 (hR.2.1) (by decide) (sX1_readReach_35 (sX1_readReach_36 rfl ?_))))))))))
    obtain rfl := Option.some.inj e
    exact h
  · replace e := am_pos hbr e
    refine (sX1_readReach_17 (sX1_readReach_18 rfl ?_))
    obtain rfl := Option.some.inj e
    exact h
theorem R_X1_readReach {E : am_E} {S : am_S} {Q : am_O → am_S → am_I → Prop} {w : Nat} {t : Nat} {rr : Nat} {xr : Nat} (hL : am_Lay S) (hw : w = 2 ∨ w = 22) (hR : am_Rd S w t rr xr) {iv : am_I} {v' : Int32} {iv' : am_I} (e : F_X1_readReach w t rr xr  iv = some (v', iv')) (h : Q (.inl (some (.int v'))) S iv') {d : Nat} (hd : 9 ≤ d) : am_M E d mX1_readReach 0 0 [.ref rr] S iv Q :=
  YR_X1_readReach hL hw hR e h hd
def F_X1_readRent (w : Nat) (t : Nat) (rr : Nat) (xr : Nat) (iv : am_I) : Option (Int32 × am_I) :=
  (am_o1 (F_X8_advance t  iv) fun w1 => (am_o2 (F_X1_readNumber w t rr xr (0 : Int32) (99 : Int32) w1) fun v2 w2 => (if v2 = 0 then some ((0 : Int32), w2) else (am_o2 (F_X1_readNumber w t rr xr (0 : Int32) (99 : Int32) (am_w w2 w 3 (w2 rr 6))) fun v3 w3 => (if v3 = 0 then some ((0 : Int32), w3) else (am_o2 (F_X1_readNumber w t rr xr (0 : Int32) (99 : Int32) (am_w w3 w 4 (w3 rr 6))) fun v4 w4 => (if v4 = 0 then some ((0 : Int32), w4) else some ((1 : Int32), (am_w (am_w w4 w 5 (w4 rr 6)) rr 4 (1 : Int32))))))))))
theorem YR_X1_readRent {E : am_E} {S : am_S} {Q : am_O → am_S → am_I → Prop} {w : Nat} {t : Nat} {rr : Nat} {xr : Nat} (hL : am_Lay S) (hw : w = 2 ∨ w = 22) (hR : am_Rd S w t rr xr) {iv : am_I} {y : Int32 × am_I} (e : F_X1_readRent w t rr xr  iv = some y) (h : Q (.inl (some (.int y.1))) S y.2) {d : Nat} (hd : 9 ≤ d) : am_M E d mX1_readRent 0 0 [.ref rr] S iv Q := by
  refine am_enter (js := []) rfl pn_X1 rfl rfl rfl (Nat.le_of_ble_eq_true rfl) (am_R.deep ?_ hd)
  replace e := am_o1_i e; obtain ⟨w1, e1, e⟩ := e
  replace e := am_o2_i e; obtain ⟨v2, w2, e2, e⟩ := e
  refine (sX1_readRent_0 rfl (sX1_readRent_1 (hR.2.1) (hR.2.2.1) (sX1_readRent_4 (hR.1.1) (Nat.le_of_ble_eq_true rfl) (R_X8_advance hL hR.1 (h := (sX1_readRent_7 rfl (sX1_readRent_8 (sX1_readRent_9 (sX1_readRent_11 (hR.2.1) (Nat.le_of_ble_eq_true rfl) (R_X1_readNumber hL hw hR (h := ?_) (hd := (Nat.le_of_ble_eq_true rfl)) (e := e2))))))) (hd := (Nat.le_of_ble_eq_true rfl)) (e := e1)))))
  refine sX1_readRent_14 (fun hbr => ?_) (fun hbr => ?_)
  · replace e := am_neg hbr e
    replace e := am_o2_i e; obtain ⟨v3, w3, e3, e⟩ := e
    refine (sX1_readRent_19 rfl (sX1_readRent_20 (hR.2.1) (hR.2.2.2.1) (sX1_readRent_23 rfl (sX1_readRent_24 (hR.2.1) (sX1_readRent_27 (kW_0 hL hw) (sX1_readRent_30 rfl (sX1_readRent_31 (sX1_readRent_32 (sX1_readRent_34 (hR.2.1) (Nat.le_of_ble_eq_true rfl) (R_X1_readNumber hL hw hR (h := ?_) (hd := (Nat.le_of_ble_eq_true rfl)) (e := e3)))))))))))
    refine sX1_readRent_37 (fun hbr => ?_) (fun hbr => ?_)
    · replace e := am_neg hbr e
      replace e := am_o2_i e; obtain ⟨v4, w4, e4, e⟩ := e
      refine (sX1_readRent_42 rfl (sX1_readRent_43 (hR.2.1) (hR.2.2.2.1) (sX1_readRent_46 rfl (sX1_readRent_47 (hR.2.1) (sX1_readRent_50 (kW_0 hL hw) (sX1_readRent_53 rfl (sX1_readRent_54 (sX1_readRent_55 (sX1_readRent_57 (hR.2.1) (Nat.le_of_ble_eq_true rfl) (R_X1_readNumber hL hw hR (h := ?_) (hd := (Nat.le_of_ble_eq_true rfl)) (e := e4)))))))))))
      refine sX1_readRent_60 (fun hbr => ?_) (fun hbr => ?_)
      · replace e := am_neg hbr e
        refine (sX1_readRent_65 rfl (sX1_readRent_66 (hR.2.1) (hR.2.2.2.1) (sX1_readRent_69 rfl (sX1_readRent_70 (hR.2.1) (sX1_readRent_73 (kW_0 hL hw) (sX1_readRent_76 rfl (sX1_readRent_77 (sX1_readRent_78 (hR.2.1) (by decide) (sX1_readRent_81 (sX1_readRent_82 rfl ?_))))))))))
        obtain rfl := Option.some.inj e
        exact h
      · replace e := am_pos hbr e
        refine (sX1_readRent_63 (sX1_readRent_64 rfl ?_))
        obtain rfl := Option.some.inj e
        exact h
    · replace e := am_pos hbr e
      refine (sX1_readRent_40 (sX1_readRent_41 rfl ?_))
      obtain rfl := Option.some.inj e
      exact h
  · replace e := am_pos hbr e
    refine (sX1_readRent_17 (sX1_readRent_18 rfl ?_))
    obtain rfl := Option.some.inj e
    exact h
theorem R_X1_readRent {E : am_E} {S : am_S} {Q : am_O → am_S → am_I → Prop} {w : Nat} {t : Nat} {rr : Nat} {xr : Nat} (hL : am_Lay S) (hw : w = 2 ∨ w = 22) (hR : am_Rd S w t rr xr) {iv : am_I} {v' : Int32} {iv' : am_I} (e : F_X1_readRent w t rr xr  iv = some (v', iv')) (h : Q (.inl (some (.int v'))) S iv') {d : Nat} (hd : 9 ≤ d) : am_M E d mX1_readRent 0 0 [.ref rr] S iv Q :=
  YR_X1_readRent hL hw hR e h hd
def F_X1_readWind (w : Nat) (t : Nat) (rr : Nat) (xr : Nat) (iv : am_I) : Option (Int32 × am_I) :=
  (am_o1 (F_X8_advance t  iv) fun w1 => (am_o2 (F_X1_readNumber w t rr xr (0 : Int32) (1000 : Int32) w1) fun v2 w2 => (if v2 = 0 then some ((0 : Int32), w2) else some ((1 : Int32), (am_w (am_w w2 w 6 (w2 rr 6)) rr 5 (1 : Int32))))))
theorem YR_X1_readWind {E : am_E} {S : am_S} {Q : am_O → am_S → am_I → Prop} {w : Nat} {t : Nat} {rr : Nat} {xr : Nat} (hL : am_Lay S) (hw : w = 2 ∨ w = 22) (hR : am_Rd S w t rr xr) {iv : am_I} {y : Int32 × am_I} (e : F_X1_readWind w t rr xr  iv = some y) (h : Q (.inl (some (.int y.1))) S y.2) {d : Nat} (hd : 9 ≤ d) : am_M E d mX1_readWind 0 0 [.ref rr] S iv Q := by
  refine am_enter (js := []) rfl pn_X1 rfl rfl rfl (Nat.le_of_ble_eq_true rfl) (am_R.deep ?_ hd)
  replace e := am_o1_i e; obtain ⟨w1, e1, e⟩ := e
  replace e := am_o2_i e; obtain ⟨v2, w2, e2, e⟩ := e
  refine (sX1_readWind_0 rfl (sX1_readWind_1 (hR.2.1) (hR.2.2.1) (sX1_readWind_4 (hR.1.1) (Nat.le_of_ble_eq_true rfl) (R_X8_advance hL hR.1 (h := (sX1_readWind_7 rfl (sX1_readWind_8 (sX1_readWind_9 (sX1_readWind_12 (hR.2.1) (Nat.le_of_ble_eq_true rfl) (R_X1_readNumber hL hw hR (h := ?_) (hd := (Nat.le_of_ble_eq_true rfl)) (e := e2))))))) (hd := (Nat.le_of_ble_eq_true rfl)) (e := e1)))))
  refine sX1_readWind_15 (fun hbr => ?_) (fun hbr => ?_)
  · replace e := am_neg hbr e
    refine (sX1_readWind_20 rfl (sX1_readWind_21 (hR.2.1) (hR.2.2.2.1) (sX1_readWind_24 rfl (sX1_readWind_25 (hR.2.1) (sX1_readWind_28 (kW_0 hL hw) (sX1_readWind_31 rfl (sX1_readWind_32 (sX1_readWind_33 (hR.2.1) (by decide) (sX1_readWind_36 (sX1_readWind_37 rfl ?_))))))))))
    obtain rfl := Option.some.inj e
    exact h
  · replace e := am_pos hbr e
    refine (sX1_readWind_18 (sX1_readWind_19 rfl ?_))
    obtain rfl := Option.some.inj e
    exact h
theorem R_X1_readWind {E : am_E} {S : am_S} {Q : am_O → am_S → am_I → Prop} {w : Nat} {t : Nat} {rr : Nat} {xr : Nat} (hL : am_Lay S) (hw : w = 2 ∨ w = 22) (hR : am_Rd S w t rr xr) {iv : am_I} {v' : Int32} {iv' : am_I} (e : F_X1_readWind w t rr xr  iv = some (v', iv')) (h : Q (.inl (some (.int v'))) S iv') {d : Nat} (hd : 9 ≤ d) : am_M E d mX1_readWind 0 0 [.ref rr] S iv Q :=
  YR_X1_readWind hL hw hR e h hd
def F_X1_readWide (w : Nat) (t : Nat) (rr : Nat) (xr : Nat) (i1 : Int32) (iv : am_I) : Option (Int32 × am_I) :=
  (if vp_b i1 10 then (if ((iv (w + 3) i1.toNatClampNeg) + (1 : Int32)) < (iv w 0) then (if vp_b i1 10 then (am_o1 (F_X2_isTaken w ((iv (w + 3) i1.toNatClampNeg) + (1 : Int32)) (iv (w + 5) i1.toNatClampNeg) iv) fun v3 => (if v3 = 0 then (if vp_b i1 10 then (am_o1 (F_X8_advance t  (am_w iv (w + 4) i1.toNatClampNeg ((iv (w + 3) i1.toNatClampNeg) + (1 : Int32)))) fun w5 => some ((1 : Int32), w5)) else none) else (am_o2 (F_X8_refuse t (5 : Int32) iv) fun v6 w6 => (if v6 = 0 ∨ v6 = 1 then some (v6, w6) else none)))) else none) else (am_o2 (F_X8_refuse t (2 : Int32) iv) fun v8 w8 => (if v8 = 0 ∨ v8 = 1 then some (v8, w8) else none))) else none)
theorem YR_X1_readWide {E : am_E} {S : am_S} {Q : am_O → am_S → am_I → Prop} {w : Nat} {t : Nat} {rr : Nat} {xr : Nat} (hL : am_Lay S) (hw : w = 2 ∨ w = 22) (hR : am_Rd S w t rr xr) {i1 : Int32} {iv : am_I} {y : Int32 × am_I} (e : F_X1_readWide w t rr xr i1 iv = some y) (h : Q (.inl (some (.int y.1))) S y.2) {d : Nat} (hd : 8 ≤ d) : am_M E d mX1_readWide 0 0 [.ref rr, .int i1] S iv Q := by
  refine am_enter (js := [.double 0]) rfl pn_X1 rfl rfl rfl (Nat.le_of_ble_eq_true rfl) (am_R.deep ?_ hd)
  replace e := am_ckv e; obtain ⟨c1, e⟩ := e
  refine (sX1_readWide_0 rfl (sX1_readWide_1 (hR.2.1) (hR.2.2.2.1) (sX1_readWide_4 (kW_0 hL hw) (rW_0_7 hL hw) (sX1_readWide_7 (kW_1 hL hw) (rW_1_2 hL hw) (sX1_readWide_10 (sX1_readWide_11 (kW_3 hL hw) c1 (sX1_readWide_12 (sX1_readWide_13 (sX1_readWide_14 (sX1_readWide_15 (sX1_readWide_16 rfl (sX1_readWide_17 (hR.2.1) (hR.2.2.2.1) (sX1_readWide_20 (kW_0 hL hw) ?_)))))))))))))
  refine sX1_readWide_23 (fun hbr => ?_) (fun hbr => ?_)
  · replace e := am_pos hbr e
    replace e := am_ckv e; obtain ⟨c2, e⟩ := e
    replace e := am_o1_i e; obtain ⟨v3, e3, e⟩ := e
    refine (sX1_readWide_35 rfl (sX1_readWide_36 (hR.2.1) (hR.2.2.2.1) (sX1_readWide_39 (kW_0 hL hw) (rW_0_7 hL hw) (sX1_readWide_42 (sX1_readWide_43 rfl (sX1_readWide_44 (hR.2.1) (hR.2.2.2.1) (sX1_readWide_47 (kW_0 hL hw) (rW_0_7 hL hw) (sX1_readWide_50 (kW_1 hL hw) (rW_1_4 hL hw) (sX1_readWide_53 (sX1_readWide_54 (kW_5 hL hw) c2 (sX1_readWide_55 (kW_1 hL hw) (Nat.le_of_ble_eq_true rfl) (R_X2_isTaken hL hw (h := ?_) (hd := (Nat.le_of_ble_eq_true rfl)) (e := e3)))))))))))))
    refine sX1_readWide_58 (fun hbr => ?_) (fun hbr => ?_)
    · replace e := am_pos hbr e
      replace e := am_ckv e; obtain ⟨c4, e⟩ := e
      replace e := am_o1_i e; obtain ⟨w5, e5, e⟩ := e
      refine (sX1_readWide_70 rfl (sX1_readWide_71 (hR.2.1) (hR.2.2.2.1) (sX1_readWide_74 (kW_0 hL hw) (rW_0_7 hL hw) (sX1_readWide_77 (kW_1 hL hw) (rW_1_3 hL hw) (sX1_readWide_80 (sX1_readWide_81 (sX1_readWide_82 (kW_4 hL hw) c4 (sX1_readWide_83 rfl (sX1_readWide_84 (hR.2.1) (hR.2.2.1) (sX1_readWide_87 (hR.1.1) (Nat.le_of_ble_eq_true rfl) (R_X8_advance hL hR.1 (h := (sX1_readWide_90 (sX1_readWide_91 rfl ?_))) (hd := (Nat.le_of_ble_eq_true rfl)) (e := e5))))))))))))
      obtain rfl := Option.some.inj e
      exact h
    · replace e := am_neg hbr e
      replace e := am_o2_i e; obtain ⟨v6, w6, e6, e⟩ := e
      replace e := am_ck e; obtain ⟨c7, e⟩ := e
      refine (sX1_readWide_61 rfl (sX1_readWide_62 (hR.2.1) (hR.2.2.1) (sX1_readWide_65 (sX1_readWide_66 (hR.1.1) (Nat.le_of_ble_eq_true rfl) (R_X8_refuse hL hR.1 (h := (sX1_readWide_69 (am_nar c7) ?_)) (hd := (Nat.le_of_ble_eq_true rfl)) (e := e6))))))
      obtain rfl := Option.some.inj e
      exact h
  · replace e := am_neg hbr e
    replace e := am_o2_i e; obtain ⟨v8, w8, e8, e⟩ := e
    replace e := am_ck e; obtain ⟨c9, e⟩ := e
    refine (sX1_readWide_26 rfl (sX1_readWide_27 (hR.2.1) (hR.2.2.1) (sX1_readWide_30 (sX1_readWide_31 (hR.1.1) (Nat.le_of_ble_eq_true rfl) (R_X8_refuse hL hR.1 (h := (sX1_readWide_34 (am_nar c9) ?_)) (hd := (Nat.le_of_ble_eq_true rfl)) (e := e8))))))
    obtain rfl := Option.some.inj e
    exact h
theorem R_X1_readWide {E : am_E} {S : am_S} {Q : am_O → am_S → am_I → Prop} {w : Nat} {t : Nat} {rr : Nat} {xr : Nat} (hL : am_Lay S) (hw : w = 2 ∨ w = 22) (hR : am_Rd S w t rr xr) {i1 : Int32} {iv : am_I} {v' : Int32} {iv' : am_I} (e : F_X1_readWide w t rr xr i1 iv = some (v', iv')) (h : Q (.inl (some (.int v'))) S iv') {d : Nat} (hd : 8 ≤ d) : am_M E d mX1_readWide 0 0 [.ref rr, .int i1] S iv Q :=
  YR_X1_readWide hL hw hR e h hd
def F_X1_readDrawer (w : Nat) (t : Nat) (rr : Nat) (xr : Nat) (i1 : Int32) (iv : am_I) : Option (Int32 × am_I) :=
  (if (iv (w + 1) 0) < (10 : Int32) then (am_o1 (F_X8_advance t  iv) fun w1 => (am_o2 (F_X1_readNumber w t rr xr (0 : Int32) ((w1 w 0) - (1 : Int32)) w1) fun v2 w2 => (if v2 = 0 then some ((0 : Int32), w2) else (am_o2 (F_X1_seeNumber w t rr xr (0 : Int32) ((w2 w 1) - (1 : Int32)) w2) fun v3 w3 => (if v3 = 0 then some ((0 : Int32), w3) else (am_o1 (F_X2_isTaken w (w2 rr 6) (w3 rr 6) w3) fun v4 => (if v4 = 0 then (am_o1 (F_X8_advance t  w3) fun w5 => (am_o2 (F_X1_readNumber w t rr xr (1 : Int32) (9 : Int32) w5) fun v6 w6 => (if v6 = 0 then some ((0 : Int32), w6) else (am_o1 (F_X2_add w i1 (w2 rr 6) (w3 rr 6) (w6 rr 6) w6) fun w7 => (am_o1 (F_X8_isWord t 6  w7) fun v8 => (if v8 = 0 then some ((1 : Int32), w7) else (am_o2 (F_X1_readWide w t rr xr (iv (w + 1) 0) w7) fun v9 w9 => (if v9 = 0 then some ((0 : Int32), w9) else some ((1 : Int32), w9))))))))) else (am_o2 (F_X8_refuse t (5 : Int32) w3) fun v10 w10 => (if v10 = 0 ∨ v10 = 1 then some (v10, w10) else none))))))))) else (am_o2 (F_X8_refuse t (2 : Int32) iv) fun v12 w12 => (if v12 = 0 ∨ v12 = 1 then some (v12, w12) else none)))
theorem YR_X1_readDrawer {E : am_E} {S : am_S} {Q : am_O → am_S → am_I → Prop} {w : Nat} {t : Nat} {rr : Nat} {xr : Nat} (hL : am_Lay S) (hw : w = 2 ∨ w = 22) (hR : am_Rd S w t rr xr) {i1 : Int32} {iv : am_I} {y : Int32 × am_I} (e : F_X1_readDrawer w t rr xr i1 iv = some y) (h : Q (.inl (some (.int y.1))) S y.2) {d : Nat} (hd : 9 ≤ d) : am_M E d mX1_readDrawer 0 0 [.ref rr, .int i1] S iv Q := by
  refine am_enter (js := [.double 0, .double 0, .double 0, .double 0]) rfl pn_X1 rfl rfl rfl (Nat.le_of_ble_eq_true rfl) (am_R.deep ?_ hd)
  refine (sX1_readDrawer_0 rfl (sX1_readDrawer_1 (hR.2.1) (hR.2.2.2.1) (sX1_readDrawer_4 (kW_0 hL hw) (rW_0_7 hL hw) (sX1_readDrawer_7 rfl (sX1_readDrawer_8 rfl (sX1_readDrawer_9 (kW_1 hL hw) (sX1_readDrawer_12 (sX1_readDrawer_13 (sX1_readDrawer_14 ?_)))))))))
  refine sX1_readDrawer_16 (fun hbr => ?_) (fun hbr => ?_)
  · replace e := am_pos hbr e
    replace e := am_o1_i e; obtain ⟨w1, e1, e⟩ := e
    replace e := am_o2_i e; obtain ⟨v2, w2, e2, e⟩ := e
    refine (sX1_readDrawer_28 rfl (sX1_readDrawer_29 (hR.2.1) (hR.2.2.1) (sX1_readDrawer_32 (hR.1.1) (Nat.le_of_ble_eq_true rfl) (R_X8_advance hL hR.1 (h := (sX1_readDrawer_35 rfl (sX1_readDrawer_36 (sX1_readDrawer_37 rfl (sX1_readDrawer_38 (hR.2.1) (hR.2.2.2.1) (sX1_readDrawer_41 (kW_0 hL hw) (sX1_readDrawer_44 (sX1_readDrawer_45 (sX1_readDrawer_46 (hR.2.1) (Nat.le_of_ble_eq_true rfl) (R_X1_readNumber hL hw hR (h := ?_) (hd := (Nat.le_of_ble_eq_true rfl)) (e := e2))))))))))) (hd := (Nat.le_of_ble_eq_true rfl)) (e := e1)))))
    refine sX1_readDrawer_49 (fun hbr => ?_) (fun hbr => ?_)
    · replace e := am_neg hbr e
      replace e := am_o2_i e; obtain ⟨v3, w3, e3, e⟩ := e
      refine (sX1_readDrawer_54 rfl (sX1_readDrawer_55 (hR.2.1) (sX1_readDrawer_58 (sX1_readDrawer_60 rfl (sX1_readDrawer_61 (sX1_readDrawer_62 rfl (sX1_readDrawer_63 (hR.2.1) (hR.2.2.2.1) (sX1_readDrawer_66 (kW_0 hL hw) (sX1_readDrawer_69 (sX1_readDrawer_70 (sX1_readDrawer_71 (hR.2.1) (Nat.le_of_ble_eq_true rfl) (R_X1_seeNumber hL hw hR (h := ?_) (hd := (Nat.le_of_ble_eq_true rfl)) (e := e3)))))))))))))
      refine sX1_readDrawer_74 (fun hbr => ?_) (fun hbr => ?_)
      · replace e := am_neg hbr e
        replace e := am_o1_i e; obtain ⟨v4, e4, e⟩ := e
        refine (sX1_readDrawer_79 rfl (sX1_readDrawer_80 (hR.2.1) (sX1_readDrawer_83 (sX1_readDrawer_85 rfl (sX1_readDrawer_86 (sX1_readDrawer_88 (sX1_readDrawer_90 (kW_1 hL hw) (Nat.le_of_ble_eq_true rfl) (R_X2_isTaken hL hw (h := ?_) (hd := (Nat.le_of_ble_eq_true rfl)) (e := e4)))))))))
        refine sX1_readDrawer_93 (fun hbr => ?_) (fun hbr => ?_)
        · replace e := am_pos hbr e
          replace e := am_o1_i e; obtain ⟨w5, e5, e⟩ := e
          replace e := am_o2_i e; obtain ⟨v6, w6, e6, e⟩ := e
          refine (sX1_readDrawer_105 rfl (sX1_readDrawer_106 (hR.2.1) (hR.2.2.1) (sX1_readDrawer_109 (hR.1.1) (Nat.le_of_ble_eq_true rfl) (R_X8_advance hL hR.1 (h := (sX1_readDrawer_112 rfl (sX1_readDrawer_113 (sX1_readDrawer_114 (sX1_readDrawer_116 (hR.2.1) (Nat.le_of_ble_eq_true rfl) (R_X1_readNumber hL hw hR (h := ?_) (hd := (Nat.le_of_ble_eq_true rfl)) (e := e6))))))) (hd := (Nat.le_of_ble_eq_true rfl)) (e := e5)))))
          refine sX1_readDrawer_119 (fun hbr => ?_) (fun hbr => ?_)
          · replace e := am_neg hbr e
            replace e := am_o1_i e; obtain ⟨w7, e7, e⟩ := e
            replace e := am_o1_i e; obtain ⟨v8, e8, e⟩ := e
            refine (sX1_readDrawer_124 rfl (sX1_readDrawer_125 (sX1_readDrawer_126 (sX1_readDrawer_128 (sX1_readDrawer_130 rfl (sX1_readDrawer_131 (hR.2.1) (sX1_readDrawer_134 (kW_1 hL hw) (Nat.le_of_ble_eq_true rfl) (R_X2_add hL hw (h := (sX1_readDrawer_137 rfl (sX1_readDrawer_138 (hR.2.1) (hR.2.2.1) (sX1_readDrawer_141 (sX1_readDrawer_143 (hR.1.1) (Nat.le_of_ble_eq_true rfl) (R_X8_isWord hL hR.1 (by decide) (h := ?_) (hd := (Nat.le_of_ble_eq_true rfl)) (e := e8))))))) (hd := (Nat.le_of_ble_eq_true rfl)) (e := e7)))))))))
            refine sX1_readDrawer_146 (fun hbr => ?_) (fun hbr => ?_)
            · replace e := am_pos hbr e
              refine (sX1_readDrawer_157 (sX1_readDrawer_158 (sX1_readDrawer_162 rfl ?_)))
              obtain rfl := Option.some.inj e
              exact h
            · replace e := am_neg hbr e
              replace e := am_o2_i e; obtain ⟨v9, w9, e9, e⟩ := e
              refine (sX1_readDrawer_149 rfl (sX1_readDrawer_150 (sX1_readDrawer_151 (hR.2.1) (Nat.le_of_ble_eq_true rfl) (R_X1_readWide hL hw hR (h := ?_) (hd := (Nat.le_of_ble_eq_true rfl)) (e := e9)))))
              refine sX1_readDrawer_154 (fun hbr => ?_) (fun hbr => ?_)
              · replace e := am_pos hbr e
                refine (sX1_readDrawer_161 (sX1_readDrawer_162 rfl ?_))
                obtain rfl := Option.some.inj e
                exact h
              · replace e := am_neg hbr e
                refine (sX1_readDrawer_157 (sX1_readDrawer_158 (sX1_readDrawer_162 rfl ?_)))
                obtain rfl := Option.some.inj e
                exact h
          · replace e := am_pos hbr e
            refine (sX1_readDrawer_122 (sX1_readDrawer_123 rfl ?_))
            obtain rfl := Option.some.inj e
            exact h
        · replace e := am_neg hbr e
          replace e := am_o2_i e; obtain ⟨v10, w10, e10, e⟩ := e
          replace e := am_ck e; obtain ⟨c11, e⟩ := e
          refine (sX1_readDrawer_96 rfl (sX1_readDrawer_97 (hR.2.1) (hR.2.2.1) (sX1_readDrawer_100 (sX1_readDrawer_101 (hR.1.1) (Nat.le_of_ble_eq_true rfl) (R_X8_refuse hL hR.1 (h := (sX1_readDrawer_104 (am_nar c11) ?_)) (hd := (Nat.le_of_ble_eq_true rfl)) (e := e10))))))
          obtain rfl := Option.some.inj e
          exact h
      · replace e := am_pos hbr e
        refine (sX1_readDrawer_77 (sX1_readDrawer_78 rfl ?_))
        obtain rfl := Option.some.inj e
        exact h
    · replace e := am_pos hbr e
      refine (sX1_readDrawer_52 (sX1_readDrawer_53 rfl ?_))
      obtain rfl := Option.some.inj e
      exact h
  · replace e := am_neg hbr e
    replace e := am_o2_i e; obtain ⟨v12, w12, e12, e⟩ := e
    replace e := am_ck e; obtain ⟨c13, e⟩ := e
    refine (sX1_readDrawer_19 rfl (sX1_readDrawer_20 (hR.2.1) (hR.2.2.1) (sX1_readDrawer_23 (sX1_readDrawer_24 (hR.1.1) (Nat.le_of_ble_eq_true rfl) (R_X8_refuse hL hR.1 (h := (sX1_readDrawer_27 (am_nar c13) ?_)) (hd := (Nat.le_of_ble_eq_true rfl)) (e := e12))))))
    obtain rfl := Option.some.inj e
    exact h
theorem R_X1_readDrawer {E : am_E} {S : am_S} {Q : am_O → am_S → am_I → Prop} {w : Nat} {t : Nat} {rr : Nat} {xr : Nat} (hL : am_Lay S) (hw : w = 2 ∨ w = 22) (hR : am_Rd S w t rr xr) {i1 : Int32} {iv : am_I} {v' : Int32} {iv' : am_I} (e : F_X1_readDrawer w t rr xr i1 iv = some (v', iv')) (h : Q (.inl (some (.int v'))) S iv') {d : Nat} (hd : 9 ≤ d) : am_M E d mX1_readDrawer 0 0 [.ref rr, .int i1] S iv Q :=
  YR_X1_readDrawer hL hw hR e h hd
def F_X1_readDrawerOf (w : Nat) (t : Nat) (rr : Nat) (xr : Nat) (i1 : Int32) (iv : am_I) : Option (Int32 × am_I) :=
  (am_o2 (F_X1_seeNumber w t rr xr (0 : Int32) (9999 : Int32) iv) fun v1 w1 => (if v1 = 0 then some ((0 : Int32), w1) else (if (w1 rr 6) < (w1 (w + 1) 0) then (if vp_b (w1 rr 6) 10 then (if (w1 (w + 2) (w1 rr 6).toNatClampNeg) = i1 then (am_o1 (F_X8_advance t  w1) fun w3 => some ((1 : Int32), w3)) else (am_o2 (F_X8_refuse t (5 : Int32) w1) fun v4 w4 => (if v4 = 0 ∨ v4 = 1 then some (v4, w4) else none))) else none) else (am_o2 (F_X8_refuse t (3 : Int32) w1) fun v6 w6 => (if v6 = 0 ∨ v6 = 1 then some (v6, w6) else none)))))
theorem YR_X1_readDrawerOf {E : am_E} {S : am_S} {Q : am_O → am_S → am_I → Prop} {w : Nat} {t : Nat} {rr : Nat} {xr : Nat} (hL : am_Lay S) (hw : w = 2 ∨ w = 22) (hR : am_Rd S w t rr xr) {i1 : Int32} {iv : am_I} {y : Int32 × am_I} (e : F_X1_readDrawerOf w t rr xr i1 iv = some y) (h : Q (.inl (some (.int y.1))) S y.2) {d : Nat} (hd : 8 ≤ d) : am_M E d mX1_readDrawerOf 0 0 [.ref rr, .int i1] S iv Q := by
  refine am_enter (js := []) rfl pn_X1 rfl rfl rfl (Nat.le_of_ble_eq_true rfl) (am_R.deep ?_ hd)
  replace e := am_o2_i e; obtain ⟨v1, w1, e1, e⟩ := e
  refine (sX1_readDrawerOf_0 rfl (sX1_readDrawerOf_1 (sX1_readDrawerOf_2 (sX1_readDrawerOf_5 (hR.2.1) (Nat.le_of_ble_eq_true rfl) (R_X1_seeNumber hL hw hR (h := ?_) (hd := (Nat.le_of_ble_eq_true rfl)) (e := e1))))))
  refine sX1_readDrawerOf_8 (fun hbr => ?_) (fun hbr => ?_)
  · replace e := am_neg hbr e
    refine (sX1_readDrawerOf_13 rfl (sX1_readDrawerOf_14 (hR.2.1) (sX1_readDrawerOf_17 rfl (sX1_readDrawerOf_18 (hR.2.1) (hR.2.2.2.1) (sX1_readDrawerOf_21 (kW_0 hL hw) (rW_0_7 hL hw) (sX1_readDrawerOf_24 (kW_1 hL hw) ?_))))))
    refine sX1_readDrawerOf_27 (fun hbr => ?_) (fun hbr => ?_)
    · replace e := am_pos hbr e
      replace e := am_ckv e; obtain ⟨c2, e⟩ := e
      refine (sX1_readDrawerOf_39 rfl (sX1_readDrawerOf_40 (hR.2.1) (hR.2.2.2.1) (sX1_readDrawerOf_43 (kW_0 hL hw) (rW_0_7 hL hw) (sX1_readDrawerOf_46 (kW_1 hL hw) (rW_1_1 hL hw) (sX1_readDrawerOf_49 rfl (sX1_readDrawerOf_50 (hR.2.1) (sX1_readDrawerOf_53 (kW_2 hL hw) c2 (sX1_readDrawerOf_54 ?_))))))))
      refine sX1_readDrawerOf_55 (fun hbr => ?_) (fun hbr => ?_)
      · replace e := am_pos hbr e
        replace e := am_o1_i e; obtain ⟨w3, e3, e⟩ := e
        refine (sX1_readDrawerOf_67 rfl (sX1_readDrawerOf_68 (hR.2.1) (hR.2.2.1) (sX1_readDrawerOf_71 (hR.1.1) (Nat.le_of_ble_eq_true rfl) (R_X8_advance hL hR.1 (h := (sX1_readDrawerOf_74 (sX1_readDrawerOf_75 rfl ?_))) (hd := (Nat.le_of_ble_eq_true rfl)) (e := e3)))))
        obtain rfl := Option.some.inj e
        exact h
      · replace e := am_neg hbr e
        replace e := am_o2_i e; obtain ⟨v4, w4, e4, e⟩ := e
        replace e := am_ck e; obtain ⟨c5, e⟩ := e
        refine (sX1_readDrawerOf_58 rfl (sX1_readDrawerOf_59 (hR.2.1) (hR.2.2.1) (sX1_readDrawerOf_62 (sX1_readDrawerOf_63 (hR.1.1) (Nat.le_of_ble_eq_true rfl) (R_X8_refuse hL hR.1 (h := (sX1_readDrawerOf_66 (am_nar c5) ?_)) (hd := (Nat.le_of_ble_eq_true rfl)) (e := e4))))))
        obtain rfl := Option.some.inj e
        exact h
    · replace e := am_neg hbr e
      replace e := am_o2_i e; obtain ⟨v6, w6, e6, e⟩ := e
      replace e := am_ck e; obtain ⟨c7, e⟩ := e
      refine (sX1_readDrawerOf_30 rfl (sX1_readDrawerOf_31 (hR.2.1) (hR.2.2.1) (sX1_readDrawerOf_34 (sX1_readDrawerOf_35 (hR.1.1) (Nat.le_of_ble_eq_true rfl) (R_X8_refuse hL hR.1 (h := (sX1_readDrawerOf_38 (am_nar c7) ?_)) (hd := (Nat.le_of_ble_eq_true rfl)) (e := e6))))))
      obtain rfl := Option.some.inj e
      exact h
  · replace e := am_pos hbr e
    refine (sX1_readDrawerOf_11 (sX1_readDrawerOf_12 rfl ?_))
    obtain rfl := Option.some.inj e
    exact h
theorem R_X1_readDrawerOf {E : am_E} {S : am_S} {Q : am_O → am_S → am_I → Prop} {w : Nat} {t : Nat} {rr : Nat} {xr : Nat} (hL : am_Lay S) (hw : w = 2 ∨ w = 22) (hR : am_Rd S w t rr xr) {i1 : Int32} {iv : am_I} {v' : Int32} {iv' : am_I} (e : F_X1_readDrawerOf w t rr xr i1 iv = some (v', iv')) (h : Q (.inl (some (.int v'))) S iv') {d : Nat} (hd : 8 ≤ d) : am_M E d mX1_readDrawerOf 0 0 [.ref rr, .int i1] S iv Q :=
  YR_X1_readDrawerOf hL hw hR e h hd
def J_X1_readPerson_101 (w : Nat) (t : Nat) (rr : Nat) (xr : Nat) (i1 : Int32) (iv : am_I) : Option (Int32 × am_I) :=
  (am_o1 (F_X8_isWord t 9  iv) fun v5 => (if v5 = 0 then some ((1 : Int32), iv) else (am_o1 (F_X8_advance t  iv) fun w6 => (am_o2 (F_X1_readNumber w t rr xr (0 : Int32) (99 : Int32) w6) fun v7 w7 => (if v7 = 0 then some ((0 : Int32), w7) else (if vp_b i1 5 then some ((1 : Int32), (am_w w7 (w + 13) i1.toNatClampNeg (w7 rr 6))) else none))))))
theorem j_X1_readPerson_101 {E : am_E} {S : am_S} {Q : am_O → am_S → am_I → Prop} {w : Nat} {t : Nat} {rr : Nat} {xr : Nat} (hL : am_Lay S) (hw : w = 2 ∨ w = 22) (hR : am_Rd S w t rr xr) {i1 : Int32} {iv : am_I} {y : Int32 × am_I} (e : J_X1_readPerson_101 w t rr xr i1 iv = some y) (h : Q (.inl (some (.int y.1))) S y.2) : am_R E 9 mX1_readPerson 0 0 101 [.ref rr, .int i1] [] S iv Q := by
  replace e := am_o1_i e; obtain ⟨v5, e5, e⟩ := e
  refine (sX1_readPerson_101 rfl (sX1_readPerson_102 (hR.2.1) (hR.2.2.1) (sX1_readPerson_105 (sX1_readPerson_107 (hR.1.1) (Nat.le_of_ble_eq_true rfl) (R_X8_isWord hL hR.1 (by decide) (h := ?_) (hd := (Nat.le_of_ble_eq_true rfl)) (e := e5))))))
  refine sX1_readPerson_110 (fun hbr => ?_) (fun hbr => ?_)
  · replace e := am_pos hbr e
    refine (sX1_readPerson_148 (sX1_readPerson_149 rfl ?_))
    obtain rfl := Option.some.inj e
    exact h
  · replace e := am_neg hbr e
    replace e := am_o1_i e; obtain ⟨w6, e6, e⟩ := e
    replace e := am_o2_i e; obtain ⟨v7, w7, e7, e⟩ := e
    refine (sX1_readPerson_113 rfl (sX1_readPerson_114 (hR.2.1) (hR.2.2.1) (sX1_readPerson_117 (hR.1.1) (Nat.le_of_ble_eq_true rfl) (R_X8_advance hL hR.1 (h := (sX1_readPerson_120 rfl (sX1_readPerson_121 (sX1_readPerson_122 (sX1_readPerson_124 (hR.2.1) (Nat.le_of_ble_eq_true rfl) (R_X1_readNumber hL hw hR (h := ?_) (hd := (Nat.le_of_ble_eq_true rfl)) (e := e7))))))) (hd := (Nat.le_of_ble_eq_true rfl)) (e := e6)))))
    refine sX1_readPerson_127 (fun hbr => ?_) (fun hbr => ?_)
    · replace e := am_neg hbr e
      replace e := am_ckv e; obtain ⟨c8, e⟩ := e
      refine (sX1_readPerson_132 rfl (sX1_readPerson_133 (hR.2.1) (hR.2.2.2.1) (sX1_readPerson_136 (kW_0 hL hw) (rW_0_8 hL hw) (sX1_readPerson_139 (kW_10 hL hw) (rW_10_3 hL hw) (sX1_readPerson_142 (sX1_readPerson_143 rfl (sX1_readPerson_144 (hR.2.1) (sX1_readPerson_147 (kW_13 hL hw) c8 (sX1_readPerson_148 (sX1_readPerson_149 rfl ?_))))))))))
      obtain rfl := Option.some.inj e
      exact h
    · replace e := am_pos hbr e
      refine (sX1_readPerson_130 (sX1_readPerson_131 rfl ?_))
      obtain rfl := Option.some.inj e
      exact h
def F_X1_readPerson (w : Nat) (t : Nat) (rr : Nat) (xr : Nat) (iv : am_I) : Option (Int32 × am_I) :=
  (if (iv (w + 10) 0) < (5 : Int32) then (am_o1 (F_X8_advance t  iv) fun w1 => (am_o2 (F_X1_readDrawerOf w t rr xr (0 : Int32) w1) fun v2 w2 => (if v2 = 0 then some ((0 : Int32), w2) else (am_o1 (F_X4_add w (w2 rr 6) w2) fun w3 => (am_o1 (F_X8_isWord t 8  w3) fun v4 => (if v4 = 0 then J_X1_readPerson_101 w t rr xr (iv (w + 10) 0) w3 else (am_o1 (F_X8_advance t  w3) fun w9 => (am_o2 (F_X1_readDrawerOf w t rr xr (1 : Int32) w9) fun v10 w10 => (if v10 = 0 then some ((0 : Int32), w10) else (if vp_b (iv (w + 10) 0) 5 then J_X1_readPerson_101 w t rr xr (iv (w + 10) 0) (am_w w10 (w + 12) (iv (w + 10) 0).toNatClampNeg (w10 rr 6)) else none)))))))))) else (am_o2 (F_X8_refuse t (2 : Int32) iv) fun v12 w12 => (if v12 = 0 ∨ v12 = 1 then some (v12, w12) else none)))
theorem YR_X1_readPerson {E : am_E} {S : am_S} {Q : am_O → am_S → am_I → Prop} {w : Nat} {t : Nat} {rr : Nat} {xr : Nat} (hL : am_Lay S) (hw : w = 2 ∨ w = 22) (hR : am_Rd S w t rr xr) {iv : am_I} {y : Int32 × am_I} (e : F_X1_readPerson w t rr xr  iv = some y) (h : Q (.inl (some (.int y.1))) S y.2) {d : Nat} (hd : 9 ≤ d) : am_M E d mX1_readPerson 0 0 [.ref rr] S iv Q := by
  refine am_enter (js := [.double 0]) rfl pn_X1 rfl rfl rfl (Nat.le_of_ble_eq_true rfl) (am_R.deep ?_ hd)
  refine (sX1_readPerson_0 rfl (sX1_readPerson_1 (hR.2.1) (hR.2.2.2.1) (sX1_readPerson_4 (kW_0 hL hw) (rW_0_8 hL hw) (sX1_readPerson_7 (kW_10 hL hw) (sX1_readPerson_10 (sX1_readPerson_11 (sX1_readPerson_12 ?_)))))))
  refine sX1_readPerson_13 (fun hbr => ?_) (fun hbr => ?_)
  · replace e := am_pos hbr e
    replace e := am_o1_i e; obtain ⟨w1, e1, e⟩ := e
    replace e := am_o2_i e; obtain ⟨v2, w2, e2, e⟩ := e
    refine (sX1_readPerson_25 rfl (sX1_readPerson_26 (hR.2.1) (hR.2.2.1) (sX1_readPerson_29 (hR.1.1) (Nat.le_of_ble_eq_true rfl) (R_X8_advance hL hR.1 (h := (sX1_readPerson_32 rfl (sX1_readPerson_33 (sX1_readPerson_34 (hR.2.1) (Nat.le_of_ble_eq_true rfl) (R_X1_readDrawerOf hL hw hR (h := ?_) (hd := (Nat.le_of_ble_eq_true rfl)) (e := e2)))))) (hd := (Nat.le_of_ble_eq_true rfl)) (e := e1)))))
    refine sX1_readPerson_37 (fun hbr => ?_) (fun hbr => ?_)
    · replace e := am_neg hbr e
      replace e := am_o1_i e; obtain ⟨w3, e3, e⟩ := e
      replace e := am_o1_i e; obtain ⟨v4, e4, e⟩ := e
      refine (sX1_readPerson_42 rfl (sX1_readPerson_43 (hR.2.1) (hR.2.2.2.1) (sX1_readPerson_46 (kW_0 hL hw) (rW_0_8 hL hw) (sX1_readPerson_49 rfl (sX1_readPerson_50 (hR.2.1) (sX1_readPerson_53 (kW_10 hL hw) (Nat.le_of_ble_eq_true rfl) (R_X4_add hL hw (h := (sX1_readPerson_56 rfl (sX1_readPerson_57 (hR.2.1) (hR.2.2.1) (sX1_readPerson_60 (sX1_readPerson_62 (hR.1.1) (Nat.le_of_ble_eq_true rfl) (R_X8_isWord hL hR.1 (by decide) (h := ?_) (hd := (Nat.le_of_ble_eq_true rfl)) (e := e4))))))) (hd := (Nat.le_of_ble_eq_true rfl)) (e := e3))))))))
      refine sX1_readPerson_65 (fun hbr => ?_) (fun hbr => ?_)
      · replace e := am_pos hbr e
        exact j_X1_readPerson_101 hL hw hR e h
      · replace e := am_neg hbr e
        replace e := am_o1_i e; obtain ⟨w9, e9, e⟩ := e
        replace e := am_o2_i e; obtain ⟨v10, w10, e10, e⟩ := e
        refine (sX1_readPerson_68 rfl (sX1_readPerson_69 (hR.2.1) (hR.2.2.1) (sX1_readPerson_72 (hR.1.1) (Nat.le_of_ble_eq_true rfl) (R_X8_advance hL hR.1 (h := (sX1_readPerson_75 rfl (sX1_readPerson_76 (sX1_readPerson_77 (hR.2.1) (Nat.le_of_ble_eq_true rfl) (R_X1_readDrawerOf hL hw hR (h := ?_) (hd := (Nat.le_of_ble_eq_true rfl)) (e := e10)))))) (hd := (Nat.le_of_ble_eq_true rfl)) (e := e9)))))
        refine sX1_readPerson_80 (fun hbr => ?_) (fun hbr => ?_)
        · replace e := am_neg hbr e
          replace e := am_ckv e; obtain ⟨c11, e⟩ := e
          refine (sX1_readPerson_85 rfl (sX1_readPerson_86 (hR.2.1) (hR.2.2.2.1) (sX1_readPerson_89 (kW_0 hL hw) (rW_0_8 hL hw) (sX1_readPerson_92 (kW_10 hL hw) (rW_10_2 hL hw) (sX1_readPerson_95 (sX1_readPerson_96 rfl (sX1_readPerson_97 (hR.2.1) (sX1_readPerson_100 (kW_12 hL hw) c11 ?_))))))))
          exact j_X1_readPerson_101 hL hw hR e h
        · replace e := am_pos hbr e
          refine (sX1_readPerson_83 (sX1_readPerson_84 rfl ?_))
          obtain rfl := Option.some.inj e
          exact h
    · replace e := am_pos hbr e
      refine (sX1_readPerson_40 (sX1_readPerson_41 rfl ?_))
      obtain rfl := Option.some.inj e
      exact h
  · replace e := am_neg hbr e
    replace e := am_o2_i e; obtain ⟨v12, w12, e12, e⟩ := e
    replace e := am_ck e; obtain ⟨c13, e⟩ := e
    refine (sX1_readPerson_16 rfl (sX1_readPerson_17 (hR.2.1) (hR.2.2.1) (sX1_readPerson_20 (sX1_readPerson_21 (hR.1.1) (Nat.le_of_ble_eq_true rfl) (R_X8_refuse hL hR.1 (h := (sX1_readPerson_24 (am_nar c13) ?_)) (hd := (Nat.le_of_ble_eq_true rfl)) (e := e12))))))
    obtain rfl := Option.some.inj e
    exact h
theorem R_X1_readPerson {E : am_E} {S : am_S} {Q : am_O → am_S → am_I → Prop} {w : Nat} {t : Nat} {rr : Nat} {xr : Nat} (hL : am_Lay S) (hw : w = 2 ∨ w = 22) (hR : am_Rd S w t rr xr) {iv : am_I} {v' : Int32} {iv' : am_I} (e : F_X1_readPerson w t rr xr  iv = some (v', iv')) (h : Q (.inl (some (.int v'))) S iv') {d : Nat} (hd : 9 ≤ d) : am_M E d mX1_readPerson 0 0 [.ref rr] S iv Q :=
  YR_X1_readPerson hL hw hR e h hd
def F_X1_readLine (w : Nat) (t : Nat) (rr : Nat) (xr : Nat) (i1 : Int32) (iv : am_I) : Option (Int32 × am_I) :=
  (am_o1 (F_X1_kindTold w t rr xr  iv) fun v1 => (if v1 = (-1 : Int32) then (am_o1 (F_X8_isWord t 7  iv) fun v2 => (if v2 = 0 then (am_o1 (F_X8_isWord t 10  iv) fun v3 => (if v3 = 0 then (am_o1 (F_X8_isWord t 21  iv) fun v4 => (if v4 = 0 then (am_o1 (F_X8_isWord t 22  iv) fun v5 => (if v5 = 0 then (am_o1 (F_X8_isWord t 23  iv) fun v6 => (if v6 = 0 then (am_o1 (F_X8_isWord t 24  iv) fun v7 => (if v7 = 0 then (am_o2 (F_X8_refuse t (1 : Int32) iv) fun v8 w8 => (if v8 = 0 ∨ v8 = 1 then some (v8, w8) else none)) else (if (iv rr 5) = 0 then (am_o2 (F_X1_readWind w t rr xr  iv) fun v10 w10 => (if v10 = 0 ∨ v10 = 1 then some (v10, w10) else none)) else (am_o2 (F_X8_refuse t (4 : Int32) iv) fun v12 w12 => (if v12 = 0 ∨ v12 = 1 then some (v12, w12) else none))))) else (if (iv rr 4) = 0 then (am_o2 (F_X1_readRent w t rr xr  iv) fun v14 w14 => (if v14 = 0 ∨ v14 = 1 then some (v14, w14) else none)) else (am_o2 (F_X8_refuse t (4 : Int32) iv) fun v16 w16 => (if v16 = 0 ∨ v16 = 1 then some (v16, w16) else none))))) else (if (iv rr 3) = 0 then (am_o2 (F_X1_readReach w t rr xr  iv) fun v18 w18 => (if v18 = 0 ∨ v18 = 1 then some (v18, w18) else none)) else (am_o2 (F_X8_refuse t (4 : Int32) iv) fun v20 w20 => (if v20 = 0 ∨ v20 = 1 then some (v20, w20) else none))))) else (if i1 = 0 then (am_o2 (F_X8_refuse t (4 : Int32) iv) fun v22 w22 => (if v22 = 0 ∨ v22 = 1 then some (v22, w22) else none)) else (am_o2 (F_X1_readWall w t rr xr  iv) fun v24 w24 => (if v24 = 0 ∨ v24 = 1 then some (v24, w24) else none))))) else (am_o2 (F_X3_readRule w t rr xr  iv) fun v26 w26 => (if v26 = 0 ∨ v26 = 1 then some (v26, w26) else none)))) else (am_o2 (F_X1_readPerson w t rr xr  iv) fun v28 w28 => (if v28 = 0 ∨ v28 = 1 then some (v28, w28) else none)))) else (am_o2 (F_X1_readDrawer w t rr xr v1 iv) fun v30 w30 => (if v30 = 0 ∨ v30 = 1 then some (v30, w30) else none))))
theorem YR_X1_readLine {E : am_E} {S : am_S} {Q : am_O → am_S → am_I → Prop} {w : Nat} {t : Nat} {rr : Nat} {xr : Nat} (hL : am_Lay S) (hw : w = 2 ∨ w = 22) (hR : am_Rd S w t rr xr) {i1 : Int32} {iv : am_I} {y : Int32 × am_I} (e : F_X1_readLine w t rr xr i1 iv = some y) (h : Q (.inl (some (.int y.1))) S y.2) {d : Nat} (hd : 842 ≤ d) : am_M E d mX1_readLine 0 0 [.ref rr, .int i1] S iv Q := by
  refine am_enter (js := [.double 0]) rfl pn_X1 rfl rfl rfl (Nat.le_of_ble_eq_true rfl) (am_R.deep ?_ hd)
  replace e := am_o1_i e; obtain ⟨v1, e1, e⟩ := e
  refine (sX1_readLine_0 rfl (sX1_readLine_1 (hR.2.1) (Nat.le_of_ble_eq_true rfl) (R_X1_kindTold hL hw hR (h := (sX1_readLine_4 (sX1_readLine_5 (sX1_readLine_6 ?_)))) (hd := (Nat.le_of_ble_eq_true rfl)) (e := e1))))
  refine sX1_readLine_7 (fun hbr => ?_) (fun hbr => ?_)
  · replace e := am_pos hbr e
    replace e := am_o1_i e; obtain ⟨v2, e2, e⟩ := e
    refine (sX1_readLine_16 rfl (sX1_readLine_17 (hR.2.1) (hR.2.2.1) (sX1_readLine_20 (sX1_readLine_22 (hR.1.1) (Nat.le_of_ble_eq_true rfl) (R_X8_isWord hL hR.1 (by decide) (h := ?_) (hd := (Nat.le_of_ble_eq_true rfl)) (e := e2))))))
    refine sX1_readLine_25 (fun hbr => ?_) (fun hbr => ?_)
    · replace e := am_pos hbr e
      replace e := am_o1_i e; obtain ⟨v3, e3, e⟩ := e
      refine (sX1_readLine_33 rfl (sX1_readLine_34 (hR.2.1) (hR.2.2.1) (sX1_readLine_37 (sX1_readLine_39 (hR.1.1) (Nat.le_of_ble_eq_true rfl) (R_X8_isWord hL hR.1 (by decide) (h := ?_) (hd := (Nat.le_of_ble_eq_true rfl)) (e := e3))))))
      refine sX1_readLine_42 (fun hbr => ?_) (fun hbr => ?_)
      · replace e := am_pos hbr e
        replace e := am_o1_i e; obtain ⟨v4, e4, e⟩ := e
        refine (sX1_readLine_53 rfl (sX1_readLine_54 (hR.2.1) (hR.2.2.1) (sX1_readLine_57 (sX1_readLine_59 (hR.1.1) (Nat.le_of_ble_eq_true rfl) (R_X8_isWord hL hR.1 (by decide) (h := ?_) (hd := (Nat.le_of_ble_eq_true rfl)) (e := e4))))))
        refine sX1_readLine_62 (fun hbr => ?_) (fun hbr => ?_)
        · replace e := am_pos hbr e
          replace e := am_o1_i e; obtain ⟨v5, e5, e⟩ := e
          refine (sX1_readLine_85 rfl (sX1_readLine_86 (hR.2.1) (hR.2.2.1) (sX1_readLine_89 (sX1_readLine_91 (hR.1.1) (Nat.le_of_ble_eq_true rfl) (R_X8_isWord hL hR.1 (by decide) (h := ?_) (hd := (Nat.le_of_ble_eq_true rfl)) (e := e5))))))
          refine sX1_readLine_94 (fun hbr => ?_) (fun hbr => ?_)
          · replace e := am_pos hbr e
            replace e := am_o1_i e; obtain ⟨v6, e6, e⟩ := e
            refine (sX1_readLine_120 rfl (sX1_readLine_121 (hR.2.1) (hR.2.2.1) (sX1_readLine_124 (sX1_readLine_126 (hR.1.1) (Nat.le_of_ble_eq_true rfl) (R_X8_isWord hL hR.1 (by decide) (h := ?_) (hd := (Nat.le_of_ble_eq_true rfl)) (e := e6))))))
            refine sX1_readLine_129 (fun hbr => ?_) (fun hbr => ?_)
            · replace e := am_pos hbr e
              replace e := am_o1_i e; obtain ⟨v7, e7, e⟩ := e
              refine (sX1_readLine_155 rfl (sX1_readLine_156 (hR.2.1) (hR.2.2.1) (sX1_readLine_159 (sX1_readLine_161 (hR.1.1) (Nat.le_of_ble_eq_true rfl) (R_X8_isWord hL hR.1 (by decide) (h := ?_) (hd := (Nat.le_of_ble_eq_true rfl)) (e := e7))))))
              refine sX1_readLine_164 (fun hbr => ?_) (fun hbr => ?_)
              · replace e := am_pos hbr e
                replace e := am_o2_i e; obtain ⟨v8, w8, e8, e⟩ := e
                replace e := am_ck e; obtain ⟨c9, e⟩ := e
                refine (sX1_readLine_190 rfl (sX1_readLine_191 (hR.2.1) (hR.2.2.1) (sX1_readLine_194 (sX1_readLine_195 (hR.1.1) (Nat.le_of_ble_eq_true rfl) (R_X8_refuse hL hR.1 (h := (sX1_readLine_198 (am_nar c9) ?_)) (hd := (Nat.le_of_ble_eq_true rfl)) (e := e8))))))
                obtain rfl := Option.some.inj e
                exact h
              · replace e := am_neg hbr e
                refine (sX1_readLine_167 rfl (sX1_readLine_168 (hR.2.1) ?_))
                refine sX1_readLine_171 (fun hbr => ?_) (fun hbr => ?_)
                · replace e := am_pos hbr e
                  replace e := am_o2_i e; obtain ⟨v10, w10, e10, e⟩ := e
                  replace e := am_ck e; obtain ⟨c11, e⟩ := e
                  refine (sX1_readLine_185 rfl (sX1_readLine_186 (hR.2.1) (Nat.le_of_ble_eq_true rfl) (R_X1_readWind hL hw hR (h := (sX1_readLine_189 (am_nar c11) ?_)) (hd := (Nat.le_of_ble_eq_true rfl)) (e := e10))))
                  obtain rfl := Option.some.inj e
                  exact h
                · replace e := am_neg hbr e
                  replace e := am_o2_i e; obtain ⟨v12, w12, e12, e⟩ := e
                  replace e := am_ck e; obtain ⟨c13, e⟩ := e
                  refine (sX1_readLine_174 rfl (sX1_readLine_175 (hR.2.1) (hR.2.2.1) (sX1_readLine_178 (sX1_readLine_179 (hR.1.1) (Nat.le_of_ble_eq_true rfl) (R_X8_refuse hL hR.1 (h := (sX1_readLine_182 (sX1_readLine_189 (am_nar c13) ?_))) (hd := (Nat.le_of_ble_eq_true rfl)) (e := e12))))))
                  obtain rfl := Option.some.inj e
                  exact h
            · replace e := am_neg hbr e
              refine (sX1_readLine_132 rfl (sX1_readLine_133 (hR.2.1) ?_))
              refine sX1_readLine_136 (fun hbr => ?_) (fun hbr => ?_)
              · replace e := am_pos hbr e
                replace e := am_o2_i e; obtain ⟨v14, w14, e14, e⟩ := e
                replace e := am_ck e; obtain ⟨c15, e⟩ := e
                refine (sX1_readLine_150 rfl (sX1_readLine_151 (hR.2.1) (Nat.le_of_ble_eq_true rfl) (R_X1_readRent hL hw hR (h := (sX1_readLine_154 (am_nar c15) ?_)) (hd := (Nat.le_of_ble_eq_true rfl)) (e := e14))))
                obtain rfl := Option.some.inj e
                exact h
              · replace e := am_neg hbr e
                replace e := am_o2_i e; obtain ⟨v16, w16, e16, e⟩ := e
                replace e := am_ck e; obtain ⟨c17, e⟩ := e
                refine (sX1_readLine_139 rfl (sX1_readLine_140 (hR.2.1) (hR.2.2.1) (sX1_readLine_143 (sX1_readLine_144 (hR.1.1) (Nat.le_of_ble_eq_true rfl) (R_X8_refuse hL hR.1 (h := (sX1_readLine_147 (sX1_readLine_154 (am_nar c17) ?_))) (hd := (Nat.le_of_ble_eq_true rfl)) (e := e16))))))
                obtain rfl := Option.some.inj e
                exact h
          · replace e := am_neg hbr e
            refine (sX1_readLine_97 rfl (sX1_readLine_98 (hR.2.1) ?_))
            refine sX1_readLine_101 (fun hbr => ?_) (fun hbr => ?_)
            · replace e := am_pos hbr e
              replace e := am_o2_i e; obtain ⟨v18, w18, e18, e⟩ := e
              replace e := am_ck e; obtain ⟨c19, e⟩ := e
              refine (sX1_readLine_115 rfl (sX1_readLine_116 (hR.2.1) (Nat.le_of_ble_eq_true rfl) (R_X1_readReach hL hw hR (h := (sX1_readLine_119 (am_nar c19) ?_)) (hd := (Nat.le_of_ble_eq_true rfl)) (e := e18))))
              obtain rfl := Option.some.inj e
              exact h
            · replace e := am_neg hbr e
              replace e := am_o2_i e; obtain ⟨v20, w20, e20, e⟩ := e
              replace e := am_ck e; obtain ⟨c21, e⟩ := e
              refine (sX1_readLine_104 rfl (sX1_readLine_105 (hR.2.1) (hR.2.2.1) (sX1_readLine_108 (sX1_readLine_109 (hR.1.1) (Nat.le_of_ble_eq_true rfl) (R_X8_refuse hL hR.1 (h := (sX1_readLine_112 (sX1_readLine_119 (am_nar c21) ?_))) (hd := (Nat.le_of_ble_eq_true rfl)) (e := e20))))))
              obtain rfl := Option.some.inj e
              exact h
        · replace e := am_neg hbr e
          refine (sX1_readLine_65 ?_)
          refine sX1_readLine_66 (fun hbr => ?_) (fun hbr => ?_)
          · replace e := am_pos hbr e
            replace e := am_o2_i e; obtain ⟨v22, w22, e22, e⟩ := e
            replace e := am_ck e; obtain ⟨c23, e⟩ := e
            refine (sX1_readLine_76 rfl (sX1_readLine_77 (hR.2.1) (hR.2.2.1) (sX1_readLine_80 (sX1_readLine_81 (hR.1.1) (Nat.le_of_ble_eq_true rfl) (R_X8_refuse hL hR.1 (h := (sX1_readLine_84 (am_nar c23) ?_)) (hd := (Nat.le_of_ble_eq_true rfl)) (e := e22))))))
            obtain rfl := Option.some.inj e
            exact h
          · replace e := am_neg hbr e
            replace e := am_o2_i e; obtain ⟨v24, w24, e24, e⟩ := e
            replace e := am_ck e; obtain ⟨c25, e⟩ := e
            refine (sX1_readLine_69 rfl (sX1_readLine_70 (hR.2.1) (Nat.le_of_ble_eq_true rfl) (R_X1_readWall hL hw hR (h := (sX1_readLine_73 (sX1_readLine_84 (am_nar c25) ?_))) (hd := (Nat.le_of_ble_eq_true rfl)) (e := e24))))
            obtain rfl := Option.some.inj e
            exact h
      · replace e := am_neg hbr e
        replace e := am_o2_i e; obtain ⟨v26, w26, e26, e⟩ := e
        replace e := am_ck e; obtain ⟨c27, e⟩ := e
        refine (sX1_readLine_45 rfl (sX1_readLine_46 (hR.2.1) (hR.2.2.2.2.1) (sX1_readLine_49 (hR.2.2.2.2.2.1) (Nat.le_of_ble_eq_true rfl) (R_X3_readRule hL hw hR (h := (sX1_readLine_52 (am_nar c27) ?_)) (hd := (Nat.le_of_ble_eq_true rfl)) (e := e26)))))
        obtain rfl := Option.some.inj e
        exact h
    · replace e := am_neg hbr e
      replace e := am_o2_i e; obtain ⟨v28, w28, e28, e⟩ := e
      replace e := am_ck e; obtain ⟨c29, e⟩ := e
      refine (sX1_readLine_28 rfl (sX1_readLine_29 (hR.2.1) (Nat.le_of_ble_eq_true rfl) (R_X1_readPerson hL hw hR (h := (sX1_readLine_32 (am_nar c29) ?_)) (hd := (Nat.le_of_ble_eq_true rfl)) (e := e28))))
      obtain rfl := Option.some.inj e
      exact h
  · replace e := am_neg hbr e
    replace e := am_o2_i e; obtain ⟨v30, w30, e30, e⟩ := e
    replace e := am_ck e; obtain ⟨c31, e⟩ := e
    refine (sX1_readLine_10 rfl (sX1_readLine_11 (sX1_readLine_12 (hR.2.1) (Nat.le_of_ble_eq_true rfl) (R_X1_readDrawer hL hw hR (h := (sX1_readLine_15 (am_nar c31) ?_)) (hd := (Nat.le_of_ble_eq_true rfl)) (e := e30)))))
    obtain rfl := Option.some.inj e
    exact h
theorem R_X1_readLine {E : am_E} {S : am_S} {Q : am_O → am_S → am_I → Prop} {w : Nat} {t : Nat} {rr : Nat} {xr : Nat} (hL : am_Lay S) (hw : w = 2 ∨ w = 22) (hR : am_Rd S w t rr xr) {i1 : Int32} {iv : am_I} {v' : Int32} {iv' : am_I} (e : F_X1_readLine w t rr xr i1 iv = some (v', iv')) (h : Q (.inl (some (.int v'))) S iv') {d : Nat} (hd : 842 ≤ d) : am_M E d mX1_readLine 0 0 [.ref rr, .int i1] S iv Q :=
  YR_X1_readLine hL hw hR e h hd
def J_X1_readCity_43 (w : Nat) (t : Nat) (rr : Nat) (xr : Nat) (i1 : Int32) (k1 : Int32) (iv : am_I) : Option ((Int32 × am_I) ⊕ ((am_I) ⊕ (Int32 × am_I))) :=
  (am_o2 (F_X1_readLine w t rr xr k1 iv) fun v4 w4 => (if v4 = 0 then some (.inr (.inr ((0 : Int32), w4))) else (am_o2 (F_X1_readSign w t rr xr (59 : Int32) w4) fun v5 w5 => (if v5 = 0 then some (.inr (.inr ((0 : Int32), w5))) else some (.inl ((i1 + 1), w5))))))
theorem j_X1_readCity_43 {E : am_E} {S : am_S} {Q : am_O → am_S → am_I → Prop} {w : Nat} {t : Nat} {rr : Nat} {xr : Nat} (hL : am_Lay S) (hw : w = 2 ∨ w = 22) (hR : am_Rd S w t rr xr) {i1 k1 : Int32} {iv : am_I} {y : (Int32 × am_I) ⊕ ((am_I) ⊕ (Int32 × am_I))} (e : J_X1_readCity_43 w t rr xr i1 k1 iv = some y) (hc : ∀ s, y = .inl s → am_R E 843 mX1_readCity 0 0 16 [.ref rr, .int s.1] [] S s.2 Q) (hx : ∀ a, y = .inr (.inl a) → ∀ z1 : Value, am_R E 843 mX1_readCity 0 0 66 [.ref rr, z1] [] S a Q) (hr : ∀ r, y = .inr (.inr r) → Q (.inl (some (.int r.1))) S r.2) : am_R E 843 mX1_readCity 0 0 43 [.ref rr, .int i1] [.int k1, .ref rr] S iv Q := by
  replace e := am_o2_i e; obtain ⟨v4, w4, e4, e⟩ := e
  refine (sX1_readCity_43 (hR.2.1) (Nat.le_of_ble_eq_true rfl) (R_X1_readLine hL hw hR (h := ?_) (hd := (Nat.le_of_ble_eq_true rfl)) (e := e4)))
  refine sX1_readCity_46 (fun hbr => ?_) (fun hbr => ?_)
  · replace e := am_pos hbr e
    refine (sX1_readCity_58 (sX1_readCity_59 rfl ?_))
    exact hr _ (Option.some.inj e).symm
  · replace e := am_neg hbr e
    replace e := am_o2_i e; obtain ⟨v5, w5, e5, e⟩ := e
    refine (sX1_readCity_49 rfl (sX1_readCity_50 (sX1_readCity_52 (hR.2.1) (Nat.le_of_ble_eq_true rfl) (R_X1_readSign hL hw hR (h := ?_) (hd := (Nat.le_of_ble_eq_true rfl)) (e := e5)))))
    refine sX1_readCity_55 (fun hbr => ?_) (fun hbr => ?_)
    · replace e := am_neg hbr e
      refine (sX1_readCity_60 (sX1_readCity_63 ?_))
      exact hc _ (Option.some.inj e).symm
    · replace e := am_pos hbr e
      refine (sX1_readCity_58 (sX1_readCity_59 rfl ?_))
      exact hr _ (Option.some.inj e).symm
def B_X1_readCity_16 (w : Nat) (t : Nat) (rr : Nat) (xr : Nat) (i1 : Int32) (iv : am_I) : Option ((Int32 × am_I) ⊕ ((am_I) ⊕ (Int32 × am_I))) :=
  (if (700 : Int32) ≤ i1 then some (.inr (.inl iv)) else (am_o1 (F_X8_isEnd t  iv) fun v3 => (if v3 = 0 then (if i1 = 0 then J_X1_readCity_43 w t rr xr i1 (1 : Int32) iv else J_X1_readCity_43 w t rr xr i1 (0 : Int32) iv) else some (.inr (.inl iv)))))
theorem b_X1_readCity_16 {E : am_E} {S : am_S} {Q : am_O → am_S → am_I → Prop} {w : Nat} {t : Nat} {rr : Nat} {xr : Nat} (hL : am_Lay S) (hw : w = 2 ∨ w = 22) (hR : am_Rd S w t rr xr) {i1 : Int32} {iv : am_I} {y : (Int32 × am_I) ⊕ ((am_I) ⊕ (Int32 × am_I))} (e : B_X1_readCity_16 w t rr xr i1 iv = some y) (hc : ∀ s, y = .inl s → am_R E 843 mX1_readCity 0 0 16 [.ref rr, .int s.1] [] S s.2 Q) (hx : ∀ a, y = .inr (.inl a) → ∀ z1 : Value, am_R E 843 mX1_readCity 0 0 66 [.ref rr, z1] [] S a Q) (hr : ∀ r, y = .inr (.inr r) → Q (.inl (some (.int r.1))) S r.2) : am_R E 843 mX1_readCity 0 0 16 [.ref rr, .int i1] [] S iv Q := by
  refine (sX1_readCity_16 (sX1_readCity_17 ?_))
  refine sX1_readCity_20 (fun hbr => ?_) (fun hbr => ?_)
  · replace e := am_pos hbr e
    exact hx _ (Option.some.inj e).symm _
  · replace e := am_neg hbr e
    replace e := am_o1_i e; obtain ⟨v3, e3, e⟩ := e
    refine (sX1_readCity_23 rfl (sX1_readCity_24 (hR.2.1) (hR.2.2.1) (sX1_readCity_27 (hR.1.1) (Nat.le_of_ble_eq_true rfl) (R_X8_isEnd hL hR.1 (h := ?_) (hd := (Nat.le_of_ble_eq_true rfl)) (e := e3)))))
    refine sX1_readCity_30 (fun hbr => ?_) (fun hbr => ?_)
    · replace e := am_neg hbr e
      exact hx _ (Option.some.inj e).symm _
    · replace e := am_pos hbr e
      refine (sX1_readCity_33 rfl (sX1_readCity_34 ?_))
      refine sX1_readCity_35 (fun hbr => ?_) (fun hbr => ?_)
      · replace e := am_neg hbr e
        refine (sX1_readCity_42 ?_)
        exact j_X1_readCity_43 hL hw hR e hc hx hr
      · replace e := am_pos hbr e
        refine (sX1_readCity_38 (sX1_readCity_39 ?_))
        exact j_X1_readCity_43 hL hw hR e hc hx hr
theorem l_X1_readCity_16 {E : am_E} {S : am_S} {Q : am_O → am_S → am_I → Prop} {w : Nat} {t : Nat} {rr : Nat} {xr : Nat} (hL : am_Lay S) (hw : w = 2 ∨ w = 22) (hR : am_Rd S w t rr xr) (s : (Int32 × am_I)) {x : ((am_I) ⊕ (Int32 × am_I))} (e : am_loop (fun s : (Int32 × am_I) => B_X1_readCity_16 w t rr xr s.1 s.2) s = some x) (hx : ∀ a, x = .inl a → ∀ z1 : Value, am_R E 843 mX1_readCity 0 0 66 [.ref rr, z1] [] S a Q) (hr : ∀ r, x = .inr r → Q (.inl (some (.int r.1))) S r.2) : am_R E 843 mX1_readCity 0 0 16 [.ref rr, .int s.1] [] S s.2 Q :=
  am_wh_sound (f := fun s : (Int32 × am_I) => B_X1_readCity_16 w t rr xr s.1 s.2) (P := fun s => am_R E 843 mX1_readCity 0 0 16 [.ref rr, .int s.1] [] S s.2 Q) (K := fun x => (∀ a, x = .inl a → ∀ z1 : Value, am_R E 843 mX1_readCity 0 0 66 [.ref rr, z1] [] S a Q) ∧ (∀ r, x = .inr r → Q (.inl (some (.int r.1))) S r.2)) (fun s y e hc hkk => b_X1_readCity_16 hL hw hR e hc (fun a hy => (hkk _ hy).1 a rfl) (fun r hy => (hkk _ hy).2 r rfl)) am_fu s x e ⟨hx, hr⟩
def J_X1_readCity_66 (w : Nat) (t : Nat) (rr : Nat) (xr : Nat) (iv : am_I) : Option (Int32 × am_I) :=
  (am_o1 (F_X0_settle w  iv) fun w7 => some ((1 : Int32), w7))
theorem j_X1_readCity_66 {E : am_E} {S : am_S} {Q : am_O → am_S → am_I → Prop} {w : Nat} {t : Nat} {rr : Nat} {xr : Nat} (hL : am_Lay S) (hw : w = 2 ∨ w = 22) (hR : am_Rd S w t rr xr) {z1 : Value} {iv : am_I} {y : Int32 × am_I} (e : J_X1_readCity_66 w t rr xr  iv = some y) (h : Q (.inl (some (.int y.1))) S y.2) : am_R E 843 mX1_readCity 0 0 66 [.ref rr, z1] [] S iv Q := by
  replace e := am_o1_i e; obtain ⟨w7, e7, e⟩ := e
  refine (sX1_readCity_66 rfl (sX1_readCity_67 (hR.2.1) (hR.2.2.2.1) (sX1_readCity_70 (kW_0 hL hw) (Nat.le_of_ble_eq_true rfl) (R_X0_settle hL hw (h := (sX1_readCity_73 (sX1_readCity_74 rfl ?_))) (hd := (Nat.le_of_ble_eq_true rfl)) (e := e7)))))
  obtain rfl := Option.some.inj e
  exact h
def F_X1_readCity (w : Nat) (t : Nat) (rr : Nat) (xr : Nat) (iv : am_I) : Option (Int32 × am_I) :=
  (am_o1 (F_X0_clear w  iv) fun w1 => (am_o1 (F_X8_advance t  w1) fun w2 => (am_lp (am_loop (fun s : (Int32 × am_I) => B_X1_readCity_16 w t rr xr s.1 s.2) ((0 : Int32), w2)) (fun a6 => J_X1_readCity_66 w t rr xr  a6) (fun r6 => some r6))))
theorem YR_X1_readCity {E : am_E} {S : am_S} {Q : am_O → am_S → am_I → Prop} {w : Nat} {t : Nat} {rr : Nat} {xr : Nat} (hL : am_Lay S) (hw : w = 2 ∨ w = 22) (hR : am_Rd S w t rr xr) {iv : am_I} {y : Int32 × am_I} (e : F_X1_readCity w t rr xr  iv = some y) (h : Q (.inl (some (.int y.1))) S y.2) {d : Nat} (hd : 843 ≤ d) : am_M E d mX1_readCity 0 0 [.ref rr] S iv Q := by
  refine am_enter (js := [.double 0]) rfl pn_X1 rfl rfl rfl (Nat.le_of_ble_eq_true rfl) (am_R.deep ?_ hd)
  replace e := am_o1_i e; obtain ⟨w1, e1, e⟩ := e
  replace e := am_o1_i e; obtain ⟨w2, e2, e⟩ := e
  refine (sX1_readCity_0 rfl (sX1_readCity_1 (hR.2.1) (hR.2.2.2.1) (sX1_readCity_4 (kW_0 hL hw) (Nat.le_of_ble_eq_true rfl) (R_X0_clear hL hw (h := (sX1_readCity_7 rfl (sX1_readCity_8 (hR.2.1) (hR.2.2.1) (sX1_readCity_11 (hR.1.1) (Nat.le_of_ble_eq_true rfl) (R_X8_advance hL hR.1 (h := (sX1_readCity_14 (sX1_readCity_15 ?_))) (hd := (Nat.le_of_ble_eq_true rfl)) (e := e2)))))) (hd := (Nat.le_of_ble_eq_true rfl)) (e := e1)))))
  replace e := am_lp_i e; rcases e with ⟨a6, e6, e⟩ | ⟨r6, e6, e⟩
  · refine l_X1_readCity_16 hL hw hR _ e6 (fun a hq9 => ?_) (fun r hq9 => nomatch hq9)
    obtain rfl := Sum.inl.inj hq9
    intro z1
    exact j_X1_readCity_66 hL hw hR e h
  · refine l_X1_readCity_16 hL hw hR _ e6 (fun a hq9 => nomatch hq9) (fun r hq9 => ?_)
    obtain rfl := Sum.inr.inj hq9
    obtain rfl := Option.some.inj e
    exact h
theorem R_X1_readCity {E : am_E} {S : am_S} {Q : am_O → am_S → am_I → Prop} {w : Nat} {t : Nat} {rr : Nat} {xr : Nat} (hL : am_Lay S) (hw : w = 2 ∨ w = 22) (hR : am_Rd S w t rr xr) {iv : am_I} {v' : Int32} {iv' : am_I} (e : F_X1_readCity w t rr xr  iv = some (v', iv')) (h : Q (.inl (some (.int v'))) S iv') {d : Nat} (hd : 843 ≤ d) : am_M E d mX1_readCity 0 0 [.ref rr] S iv Q :=
  YR_X1_readCity hL hw hR e h hd
