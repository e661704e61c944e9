/-! functions of the methods, and their rows (by program) -/
def F_X10_has (i0 : Int32) (i1 : Int32) (iv : am_I) : Option (Int32) :=
  (if ((i0 >>> (i1 &&& 31)) &&& (1 : Int32)) = (1 : Int32) then some (1 : Int32) else some (0 : Int32))
theorem R_X10_has {E : am_E} {S : am_S} {Q : am_O → am_S → am_I → Prop} {i0 i1 : Int32} {iv : am_I} {y : Int32} (e : F_X10_has i0 i1 iv = some y) (h : Q (.inl (some (.int y))) S iv) {d : Nat} (hd : 0 ≤ d) : am_M E d mX10_has 0 0 [.int i0, .int i1] S iv Q := by
  refine am_enter (js := []) rfl pn_X10 rfl rfl rfl (Nat.le_of_ble_eq_true rfl) (am_R.deep ?_ hd)
  refine (sX10_has_0 (sX10_has_1 (sX10_has_2 (sX10_has_3 (sX10_has_4 (sX10_has_5 ?_))))))
  refine sX10_has_6 (fun hbr => ?_) (fun hbr => ?_)
  · replace e := am_neg hbr e
    refine (sX10_has_13 (sX10_has_14 rfl ?_))
    obtain rfl := Option.some.inj e
    exact h
  · replace e := am_pos hbr e
    refine (sX10_has_9 (sX10_has_10 (sX10_has_14 rfl ?_)))
    obtain rfl := Option.some.inj e
    exact h
def F_X10_isIn (i0 : Int32) (i1 : Int32) (i2 : Int32) (iv : am_I) : Option (Int32) :=
  (if i0 < i1 then some (0 : Int32) else (if i2 < i0 then some (0 : Int32) else some (1 : Int32)))
theorem R_X10_isIn {E : am_E} {S : am_S} {Q : am_O → am_S → am_I → Prop} {i0 i1 i2 : Int32} {iv : am_I} {y : Int32} (e : F_X10_isIn i0 i1 i2 iv = some y) (h : Q (.inl (some (.int y))) S iv) {d : Nat} (hd : 0 ≤ d) : am_M E d mX10_isIn 0 0 [.int i0, .int i1, .int i2] S iv Q := by
  refine am_enter (js := []) rfl pn_X10 rfl rfl rfl (Nat.le_of_ble_eq_true rfl) (am_R.deep ?_ hd)
  refine (sX10_isIn_0 (sX10_isIn_1 ?_))
  refine sX10_isIn_2 (fun hbr => ?_) (fun hbr => ?_)
  · replace e := am_pos hbr e
    refine (sX10_isIn_14 (sX10_isIn_15 rfl ?_))
    obtain rfl := Option.some.inj e
    exact h
  · replace e := am_neg hbr e
    refine (sX10_isIn_5 (sX10_isIn_6 ?_))
    refine sX10_isIn_7 (fun hbr => ?_) (fun hbr => ?_)
    · replace e := am_pos hbr e
      refine (sX10_isIn_14 (sX10_isIn_15 rfl ?_))
      obtain rfl := Option.some.inj e
      exact h
    · replace e := am_neg hbr e
      refine (sX10_isIn_10 (sX10_isIn_11 (sX10_isIn_15 rfl ?_)))
      obtain rfl := Option.some.inj e
      exact h
def F_X10_isDrawer (i1 : Int32) (iv : am_I) : Option (Int32) :=
  (am_o1 (F_X10_isIn i1 (0 : Int32) ((iv 58 (2 : Int32).toNatClampNeg) - (1 : Int32)) iv) fun v1 => (if v1 = 0 ∨ v1 = 1 then some v1 else none))
theorem R_X10_isDrawer {E : am_E} {S : am_S} {Q : am_O → am_S → am_I → Prop} (hL : am_Lay S) {i1 : Int32} {iv : am_I} {y : Int32} (e : F_X10_isDrawer i1 iv = some y) (h : Q (.inl (some (.int y))) S iv) {d : Nat} (hd : 1 ≤ d) : am_M E d mX10_isDrawer 0 0 [.ref 54, .int i1] S iv Q := by
  refine am_enter (js := []) rfl pn_X10 rfl rfl rfl (Nat.le_of_ble_eq_true rfl) (am_R.deep ?_ hd)
  replace e := am_o1_i e; obtain ⟨v1, e1, e⟩ := e
  replace e := am_ck e; obtain ⟨c2, e⟩ := e
  refine (sX10_isDrawer_0 (sX10_isDrawer_1 (sX10_isDrawer_2 rfl (sX10_isDrawer_3 (hL.1 _ _ rfl) (hL.2.1 _ _ _ rfl) (sX10_isDrawer_6 (sX10_isDrawer_7 (hL.1 _ _ rfl) (vp_lit (by decide)) (sX10_isDrawer_8 (sX10_isDrawer_9 (sX10_isDrawer_10 (Nat.le_of_ble_eq_true rfl) (R_X10_isIn (h := (sX10_isDrawer_13 (am_nar c2) ?_)) (hd := (Nat.le_of_ble_eq_true rfl)) (e := e1)))))))))))
  obtain rfl := Option.some.inj e
  exact h
def F_X10_isPerson (i1 : Int32) (iv : am_I) : Option (Int32) :=
  (am_o1 (F_X10_isIn i1 (0 : Int32) ((iv 58 (3 : Int32).toNatClampNeg) - (1 : Int32)) iv) fun v1 => (if v1 = 0 ∨ v1 = 1 then some v1 else none))
theorem R_X10_isPerson {E : am_E} {S : am_S} {Q : am_O → am_S → am_I → Prop} (hL : am_Lay S) {i1 : Int32} {iv : am_I} {y : Int32} (e : F_X10_isPerson i1 iv = some y) (h : Q (.inl (some (.int y))) S iv) {d : Nat} (hd : 1 ≤ d) : am_M E d mX10_isPerson 0 0 [.ref 54, .int i1] S iv Q := by
  refine am_enter (js := []) rfl pn_X10 rfl rfl rfl (Nat.le_of_ble_eq_true rfl) (am_R.deep ?_ hd)
  replace e := am_o1_i e; obtain ⟨v1, e1, e⟩ := e
  replace e := am_ck e; obtain ⟨c2, e⟩ := e
  refine (sX10_isPerson_0 (sX10_isPerson_1 (sX10_isPerson_2 rfl (sX10_isPerson_3 (hL.1 _ _ rfl) (hL.2.1 _ _ _ rfl) (sX10_isPerson_6 (sX10_isPerson_7 (hL.1 _ _ rfl) (vp_lit (by decide)) (sX10_isPerson_8 (sX10_isPerson_9 (sX10_isPerson_10 (Nat.le_of_ble_eq_true rfl) (R_X10_isIn (h := (sX10_isPerson_13 (am_nar c2) ?_)) (hd := (Nat.le_of_ble_eq_true rfl)) (e := e1)))))))))))
  obtain rfl := Option.some.inj e
  exact h
def F_X10_byteAt (i1 : Int32) (iv : am_I) : Option (Int32) :=
  (if (iv 54 20) ≤ i1 then some (-1 : Int32) else (if vp_b i1 700 then some (iv 71 i1.toNatClampNeg) else none))
theorem R_X10_byteAt {E : am_E} {S : am_S} {Q : am_O → am_S → am_I → Prop} (hL : am_Lay S) {i1 : Int32} {iv : am_I} {y : Int32} (e : F_X10_byteAt i1 iv = some y) (h : Q (.inl (some (.int y))) S iv) {d : Nat} (hd : 0 ≤ d) : am_M E d mX10_byteAt 0 0 [.ref 54, .int i1] S iv Q := by
  refine am_enter (js := []) rfl pn_X10 rfl rfl rfl (Nat.le_of_ble_eq_true rfl) (am_R.deep ?_ hd)
  refine (sX10_byteAt_0 (sX10_byteAt_1 rfl (sX10_byteAt_2 (hL.1 _ _ rfl) ?_)))
  refine sX10_byteAt_5 (fun hbr => ?_) (fun hbr => ?_)
  · replace e := am_pos hbr e
    refine (sX10_byteAt_17 (sX10_byteAt_18 ?_))
    obtain rfl := Option.some.inj e
    exact h
  · replace e := am_neg hbr e
    replace e := am_ckv e; obtain ⟨c1, e⟩ := e
    refine (sX10_byteAt_8 rfl (sX10_byteAt_9 (hL.1 _ _ rfl) (hL.2.1 _ _ _ rfl) (sX10_byteAt_12 (sX10_byteAt_13 (hL.1 _ _ rfl) c1 (sX10_byteAt_14 (sX10_byteAt_18 ?_))))))
    obtain rfl := Option.some.inj e
    exact h
def F_X10_isLetter (i0 : Int32) (iv : am_I) : Option (Int32) :=
  (if i0 < (97 : Int32) then some (0 : Int32) else (if (122 : Int32) < i0 then some (0 : Int32) else some (1 : Int32)))
theorem R_X10_isLetter {E : am_E} {S : am_S} {Q : am_O → am_S → am_I → Prop} {i0 : Int32} {iv : am_I} {y : Int32} (e : F_X10_isLetter i0 iv = some y) (h : Q (.inl (some (.int y))) S iv) {d : Nat} (hd : 0 ≤ d) : am_M E d mX10_isLetter 0 0 [.int i0] S iv Q := by
  refine am_enter (js := []) rfl pn_X10 rfl rfl rfl (Nat.le_of_ble_eq_true rfl) (am_R.deep ?_ hd)
  refine (sX10_isLetter_0 (sX10_isLetter_1 ?_))
  refine sX10_isLetter_3 (fun hbr => ?_) (fun hbr => ?_)
  · replace e := am_pos hbr e
    refine (sX10_isLetter_16 (sX10_isLetter_17 rfl ?_))
    obtain rfl := Option.some.inj e
    exact h
  · replace e := am_neg hbr e
    refine (sX10_isLetter_6 (sX10_isLetter_7 ?_))
    refine sX10_isLetter_9 (fun hbr => ?_) (fun hbr => ?_)
    · replace e := am_pos hbr e
      refine (sX10_isLetter_16 (sX10_isLetter_17 rfl ?_))
      obtain rfl := Option.some.inj e
      exact h
    · replace e := am_neg hbr e
      refine (sX10_isLetter_12 (sX10_isLetter_13 (sX10_isLetter_17 rfl ?_)))
      obtain rfl := Option.some.inj e
      exact h
def F_X10_isDigit (i0 : Int32) (iv : am_I) : Option (Int32) :=
  (if i0 < (48 : Int32) then some (0 : Int32) else (if (57 : Int32) < i0 then some (0 : Int32) else some (1 : Int32)))
theorem R_X10_isDigit {E : am_E} {S : am_S} {Q : am_O → am_S → am_I → Prop} {i0 : Int32} {iv : am_I} {y : Int32} (e : F_X10_isDigit i0 iv = some y) (h : Q (.inl (some (.int y))) S iv) {d : Nat} (hd : 0 ≤ d) : am_M E d mX10_isDigit 0 0 [.int i0] S iv Q := by
  refine am_enter (js := []) rfl pn_X10 rfl rfl rfl (Nat.le_of_ble_eq_true rfl) (am_R.deep ?_ hd)
  refine (sX10_isDigit_0 (sX10_isDigit_1 ?_))
  refine sX10_isDigit_3 (fun hbr => ?_) (fun hbr => ?_)
  · replace e := am_pos hbr e
    refine (sX10_isDigit_16 (sX10_isDigit_17 rfl ?_))
    obtain rfl := Option.some.inj e
    exact h
  · replace e := am_neg hbr e
    refine (sX10_isDigit_6 (sX10_isDigit_7 ?_))
    refine sX10_isDigit_9 (fun hbr => ?_) (fun hbr => ?_)
    · replace e := am_pos hbr e
      refine (sX10_isDigit_16 (sX10_isDigit_17 rfl ?_))
      obtain rfl := Option.some.inj e
      exact h
    · replace e := am_neg hbr e
      refine (sX10_isDigit_12 (sX10_isDigit_13 (sX10_isDigit_17 rfl ?_)))
      obtain rfl := Option.some.inj e
      exact h
def F_X10_isMark (i0 : Int32) (iv : am_I) : Option (Int32) :=
  (if i0 = (59 : Int32) then some (1 : Int32) else (if i0 = (40 : Int32) then some (1 : Int32) else (if i0 = (41 : Int32) then some (1 : Int32) else (if i0 = (43 : Int32) then some (1 : Int32) else (if i0 = (45 : Int32) then some (1 : Int32) else (if i0 = (42 : Int32) then some (1 : Int32) else (if i0 = (47 : Int32) then some (1 : Int32) else (if i0 = (60 : Int32) then some (1 : Int32) else (if i0 = (61 : Int32) then some (1 : Int32) else some (0 : Int32))))))))))
theorem R_X10_isMark {E : am_E} {S : am_S} {Q : am_O → am_S → am_I → Prop} {i0 : Int32} {iv : am_I} {y : Int32} (e : F_X10_isMark i0 iv = some y) (h : Q (.inl (some (.int y))) S iv) {d : Nat} (hd : 0 ≤ d) : am_M E d mX10_isMark 0 0 [.int i0] S iv Q := by
  refine am_enter (js := []) rfl pn_X10 rfl rfl rfl (Nat.le_of_ble_eq_true rfl) (am_R.deep ?_ hd)
  refine (sX10_isMark_0 (sX10_isMark_1 ?_))
  refine sX10_isMark_3 (fun hbr => ?_) (fun hbr => ?_)
  · replace e := am_pos hbr e
    refine (sX10_isMark_54 (sX10_isMark_55 (sX10_isMark_59 rfl ?_)))
    obtain rfl := Option.some.inj e
    exact h
  · replace e := am_neg hbr e
    refine (sX10_isMark_6 (sX10_isMark_7 ?_))
    refine sX10_isMark_9 (fun hbr => ?_) (fun hbr => ?_)
    · replace e := am_pos hbr e
      refine (sX10_isMark_54 (sX10_isMark_55 (sX10_isMark_59 rfl ?_)))
      obtain rfl := Option.some.inj e
      exact h
    · replace e := am_neg hbr e
      refine (sX10_isMark_12 (sX10_isMark_13 ?_))
      refine sX10_isMark_15 (fun hbr => ?_) (fun hbr => ?_)
      · replace e := am_pos hbr e
        refine (sX10_isMark_54 (sX10_isMark_55 (sX10_isMark_59 rfl ?_)))
        obtain rfl := Option.some.inj e
        exact h
      · replace e := am_neg hbr e
        refine (sX10_isMark_18 (sX10_isMark_19 ?_))
        refine sX10_isMark_21 (fun hbr => ?_) (fun hbr => ?_)
        · replace e := am_pos hbr e
          refine (sX10_isMark_54 (sX10_isMark_55 (sX10_isMark_59 rfl ?_)))
          obtain rfl := Option.some.inj e
          exact h
        · replace e := am_neg hbr e
          refine (sX10_isMark_24 (sX10_isMark_25 ?_))
          refine sX10_isMark_27 (fun hbr => ?_) (fun hbr => ?_)
          · replace e := am_pos hbr e
            refine (sX10_isMark_54 (sX10_isMark_55 (sX10_isMark_59 rfl ?_)))
            obtain rfl := Option.some.inj e
            exact h
          · replace e := am_neg hbr e
            refine (sX10_isMark_30 (sX10_isMark_31 ?_))
            refine sX10_isMark_33 (fun hbr => ?_) (fun hbr => ?_)
            · replace e := am_pos hbr e
              refine (sX10_isMark_54 (sX10_isMark_55 (sX10_isMark_59 rfl ?_)))
              obtain rfl := Option.some.inj e
              exact h
            · replace e := am_neg hbr e
              refine (sX10_isMark_36 (sX10_isMark_37 ?_))
              refine sX10_isMark_39 (fun hbr => ?_) (fun hbr => ?_)
              · replace e := am_pos hbr e
                refine (sX10_isMark_54 (sX10_isMark_55 (sX10_isMark_59 rfl ?_)))
                obtain rfl := Option.some.inj e
                exact h
              · replace e := am_neg hbr e
                refine (sX10_isMark_42 (sX10_isMark_43 ?_))
                refine sX10_isMark_45 (fun hbr => ?_) (fun hbr => ?_)
                · replace e := am_pos hbr e
                  refine (sX10_isMark_54 (sX10_isMark_55 (sX10_isMark_59 rfl ?_)))
                  obtain rfl := Option.some.inj e
                  exact h
                · replace e := am_neg hbr e
                  refine (sX10_isMark_48 (sX10_isMark_49 ?_))
                  refine sX10_isMark_51 (fun hbr => ?_) (fun hbr => ?_)
                  · replace e := am_neg hbr e
                    refine (sX10_isMark_58 (sX10_isMark_59 rfl ?_))
                    obtain rfl := Option.some.inj e
                    exact h
                  · replace e := am_pos hbr e
                    refine (sX10_isMark_54 (sX10_isMark_55 (sX10_isMark_59 rfl ?_)))
                    obtain rfl := Option.some.inj e
                    exact h
def J_X10_stepOn_26 (iv : am_I) : Option ((am_I) ⊕ (am_I)) :=
  some (.inl (am_w iv 54 19 ((iv 54 19) + (1 : Int32))))
theorem j_X10_stepOn_26 {E : am_E} {S : am_S} {Q : am_O → am_S → am_I → Prop} (hL : am_Lay S) {z1 : Value} {iv : am_I} {y : (am_I) ⊕ (am_I)} (e : J_X10_stepOn_26  iv = some y) (hc : ∀ s, y = .inl s → ∀ z1 : Value, am_R E 1 mX10_stepOn 0 0 0 [.ref 54, z1] [] S s Q) (hx : ∀ a, y = .inr a → ∀ z1 : Value, am_R E 1 mX10_stepOn 0 0 39 [.ref 54, z1] [] S a Q) : am_R E 1 mX10_stepOn 0 0 26 [.ref 54, z1] [] S iv Q := by
  refine (sX10_stepOn_26 rfl (sX10_stepOn_27 rfl (sX10_stepOn_28 (hL.1 _ _ rfl) (sX10_stepOn_31 (sX10_stepOn_32 (sX10_stepOn_33 (hL.1 _ _ rfl) (sX10_stepOn_36 ?_)))))))
  exact hc _ (Option.some.inj e).symm _
def B_X10_stepOn_0 (iv : am_I) : Option ((am_I) ⊕ (am_I)) :=
  (am_o1 (F_X10_byteAt (iv 54 19) iv) fun v1 => (if v1 = (32 : Int32) then J_X10_stepOn_26  iv else (am_o1 (F_X10_byteAt (iv 54 19) iv) fun v2 => (if v2 = (10 : Int32) then J_X10_stepOn_26  iv else some (.inr iv)))))
theorem b_X10_stepOn_0 {E : am_E} {S : am_S} {Q : am_O → am_S → am_I → Prop} (hL : am_Lay S) {z1 : Value} {iv : am_I} {y : (am_I) ⊕ (am_I)} (e : B_X10_stepOn_0 iv = some y) (hc : ∀ s, y = .inl s → ∀ z1 : Value, am_R E 1 mX10_stepOn 0 0 0 [.ref 54, z1] [] S s Q) (hx : ∀ a, y = .inr a → ∀ z1 : Value, am_R E 1 mX10_stepOn 0 0 39 [.ref 54, z1] [] S a Q) : am_R E 1 mX10_stepOn 0 0 0 [.ref 54, z1] [] S iv Q := by
  replace e := am_o1_i e; obtain ⟨v1, e1, e⟩ := e
  refine (sX10_stepOn_0 rfl (sX10_stepOn_1 rfl (sX10_stepOn_2 (hL.1 _ _ rfl) (sX10_stepOn_5 (hL.1 _ _ rfl) (Nat.le_of_ble_eq_true rfl) (R_X10_byteAt hL (h := (sX10_stepOn_8 ?_)) (hd := (Nat.le_of_ble_eq_true rfl)) (e := e1))))))
  refine sX10_stepOn_10 (fun hbr => ?_) (fun hbr => ?_)
  · replace e := am_pos hbr e
    exact j_X10_stepOn_26 hL e hc hx
  · replace e := am_neg hbr e
    replace e := am_o1_i e; obtain ⟨v2, e2, e⟩ := e
    refine (sX10_stepOn_13 rfl (sX10_stepOn_14 rfl (sX10_stepOn_15 (hL.1 _ _ rfl) (sX10_stepOn_18 (hL.1 _ _ rfl) (Nat.le_of_ble_eq_true rfl) (R_X10_byteAt hL (h := (sX10_stepOn_21 ?_)) (hd := (Nat.le_of_ble_eq_true rfl)) (e := e2))))))
    refine sX10_stepOn_23 (fun hbr => ?_) (fun hbr => ?_)
    · replace e := am_neg hbr e
      exact hx _ (Option.some.inj e).symm _
    · replace e := am_pos hbr e
      exact j_X10_stepOn_26 hL e hc hx
theorem l_X10_stepOn_0 {E : am_E} {S : am_S} {Q : am_O → am_S → am_I → Prop} (hL : am_Lay S) (s : (am_I)) {x : (am_I)} (e : am_loop (fun s : (am_I) => B_X10_stepOn_0 s) s = some x) (hx : ∀ z1 : Value, am_R E 1 mX10_stepOn 0 0 39 [.ref 54, z1] [] S x Q) : ∀ z1 : Value, am_R E 1 mX10_stepOn 0 0 0 [.ref 54, z1] [] S s Q :=
  am_wh_sound (f := fun s : (am_I) => B_X10_stepOn_0 s) (P := fun s => ∀ z1 : Value, am_R E 1 mX10_stepOn 0 0 0 [.ref 54, z1] [] S s Q) (K := fun x => ∀ z1 : Value, am_R E 1 mX10_stepOn 0 0 39 [.ref 54, z1] [] S x Q) (fun s y e hc hkk => fun z1 => b_X10_stepOn_0 hL e hc (fun a hy => hkk a hy)) am_fu s x e hx
def J_X10_stepOn_212 (iv : am_I) : Option (am_I) :=
  some (am_w iv 54 24 (iv 54 19))
theorem j_X10_stepOn_212 {E : am_E} {S : am_S} {Q : am_O → am_S → am_I → Prop} (hL : am_Lay S) {z1 : Value} {iv : am_I} {y : am_I} (e : J_X10_stepOn_212  iv = some y) (h : Q (.inl none) S y) : am_R E 1 mX10_stepOn 0 0 212 [.ref 54, z1] [] S iv Q := by
  refine (sX10_stepOn_212 rfl (sX10_stepOn_213 rfl (sX10_stepOn_214 (hL.1 _ _ rfl) (sX10_stepOn_217 (hL.1 _ _ rfl) (sX10_stepOn_220 ?_)))))
  obtain rfl := Option.some.inj e
  exact h
def J_X10_stepOn_209 (k1 : Int32) (iv : am_I) : Option (am_I) :=
  J_X10_stepOn_212  (am_w iv 54 21 k1)
theorem j_X10_stepOn_209 {E : am_E} {S : am_S} {Q : am_O → am_S → am_I → Prop} (hL : am_Lay S) {z1 : Value} {k1 : Int32} {iv : am_I} {y : am_I} (e : J_X10_stepOn_209 k1 iv = some y) (h : Q (.inl none) S y) : am_R E 1 mX10_stepOn 0 0 209 [.ref 54, z1] [.int k1, .ref 54] S iv Q := by
  refine (sX10_stepOn_209 (hL.1 _ _ rfl) ?_)
  exact j_X10_stepOn_212 hL e h
def B_X10_stepOn_123 (iv : am_I) : Option ((am_I) ⊕ (am_I)) :=
  (am_o1 (F_X10_byteAt (iv 54 19) iv) fun v8 => (am_o1 (F_X10_isDigit v8 iv) fun v9 => (if v9 = 0 then some (.inr iv) else (am_o1 (F_X10_byteAt (iv 54 19) iv) fun v10 => some (.inl (am_w (am_w iv 54 22 (if ((((10 : Int32) * (iv 54 22)) + v10) - (48 : Int32)) < (100000 : Int32) then ((((10 : Int32) * (iv 54 22)) + v10) - (48 : Int32)) else (100000 : Int32))) 54 19 (((am_w iv 54 22 (if ((((10 : Int32) * (iv 54 22)) + v10) - (48 : Int32)) < (100000 : Int32) then ((((10 : Int32) * (iv 54 22)) + v10) - (48 : Int32)) else (100000 : Int32))) 54 19) + (1 : Int32))))))))
theorem b_X10_stepOn_123 {E : am_E} {S : am_S} {Q : am_O → am_S → am_I → Prop} (hL : am_Lay S) {z1 : Value} {iv : am_I} {y : (am_I) ⊕ (am_I)} (e : B_X10_stepOn_123 iv = some y) (hc : ∀ s, y = .inl s → ∀ z1 : Value, am_R E 1 mX10_stepOn 0 0 123 [.ref 54, z1] [] S s Q) (hx : ∀ a, y = .inr a → ∀ z1 : Value, am_R E 1 mX10_stepOn 0 0 178 [.ref 54, z1] [] S a Q) : am_R E 1 mX10_stepOn 0 0 123 [.ref 54, z1] [] S iv Q := by
  replace e := am_o1_i e; obtain ⟨v8, e8, e⟩ := e
  replace e := am_o1_i e; obtain ⟨v9, e9, e⟩ := e
  refine (sX10_stepOn_123 rfl (sX10_stepOn_124 rfl (sX10_stepOn_125 (hL.1 _ _ rfl) (sX10_stepOn_128 (hL.1 _ _ rfl) (Nat.le_of_ble_eq_true rfl) (R_X10_byteAt hL (h := (sX10_stepOn_131 (Nat.le_of_ble_eq_true rfl) (R_X10_isDigit (h := ?_) (hd := (Nat.le_of_ble_eq_true rfl)) (e := e9)))) (hd := (Nat.le_of_ble_eq_true rfl)) (e := e8))))))
  refine sX10_stepOn_134 (fun hbr => ?_) (fun hbr => ?_)
  · replace e := am_pos hbr e
    exact hx _ (Option.some.inj e).symm _
  · replace e := am_neg hbr e
    replace e := am_o1_i e; obtain ⟨v10, e10, e⟩ := e
    refine (sX10_stepOn_137 rfl (sX10_stepOn_138 (sX10_stepOn_140 (sX10_stepOn_142 rfl (sX10_stepOn_143 (hL.1 _ _ rfl) (sX10_stepOn_146 (sX10_stepOn_147 rfl (sX10_stepOn_148 rfl (sX10_stepOn_149 (hL.1 _ _ rfl) (sX10_stepOn_152 (hL.1 _ _ rfl) (Nat.le_of_ble_eq_true rfl) (R_X10_byteAt hL (h := (sX10_stepOn_155 (sX10_stepOn_156 (sX10_stepOn_158 (sX10_stepOn_159 (Nat.le_of_ble_eq_true rfl) (J_min (sX10_stepOn_162 (hL.1 _ _ rfl) (sX10_stepOn_165 rfl (sX10_stepOn_166 rfl (sX10_stepOn_167 (hL.1 _ _ rfl) (sX10_stepOn_170 (sX10_stepOn_171 (sX10_stepOn_172 (hL.1 _ _ rfl) (sX10_stepOn_175 ?_)))))))))))))) (hd := (Nat.le_of_ble_eq_true rfl)) (e := e10))))))))))))
    exact hc _ (Option.some.inj e).symm _
theorem l_X10_stepOn_123 {E : am_E} {S : am_S} {Q : am_O → am_S → am_I → Prop} (hL : am_Lay S) (s : (am_I)) {x : (am_I)} (e : am_loop (fun s : (am_I) => B_X10_stepOn_123 s) s = some x) (hx : ∀ z1 : Value, am_R E 1 mX10_stepOn 0 0 178 [.ref 54, z1] [] S x Q) : ∀ z1 : Value, am_R E 1 mX10_stepOn 0 0 123 [.ref 54, z1] [] S s Q :=
  am_wh_sound (f := fun s : (am_I) => B_X10_stepOn_123 s) (P := fun s => ∀ z1 : Value, am_R E 1 mX10_stepOn 0 0 123 [.ref 54, z1] [] S s Q) (K := fun x => ∀ z1 : Value, am_R E 1 mX10_stepOn 0 0 178 [.ref 54, z1] [] S x Q) (fun s y e hc hkk => fun z1 => b_X10_stepOn_123 hL e hc (fun a hy => hkk a hy)) am_fu s x e hx
def B_X10_stepOn_76 (iv : am_I) : Option ((am_I) ⊕ (am_I)) :=
  (am_o1 (F_X10_byteAt (iv 54 19) iv) fun v12 => (am_o1 (F_X10_isLetter v12 iv) fun v13 => (if v13 = 0 then some (.inr iv) else some (.inl (am_w iv 54 19 ((iv 54 19) + (1 : Int32)))))))
theorem b_X10_stepOn_76 {E : am_E} {S : am_S} {Q : am_O → am_S → am_I → Prop} (hL : am_Lay S) {z1 : Value} {iv : am_I} {y : (am_I) ⊕ (am_I)} (e : B_X10_stepOn_76 iv = some y) (hc : ∀ s, y = .inl s → ∀ z1 : Value, am_R E 1 mX10_stepOn 0 0 76 [.ref 54, z1] [] S s Q) (hx : ∀ a, y = .inr a → ∀ z1 : Value, am_R E 1 mX10_stepOn 0 0 103 [.ref 54, z1] [] S a Q) : am_R E 1 mX10_stepOn 0 0 76 [.ref 54, z1] [] S iv Q := by
  replace e := am_o1_i e; obtain ⟨v12, e12, e⟩ := e
  replace e := am_o1_i e; obtain ⟨v13, e13, e⟩ := e
  refine (sX10_stepOn_76 rfl (sX10_stepOn_77 rfl (sX10_stepOn_78 (hL.1 _ _ rfl) (sX10_stepOn_81 (hL.1 _ _ rfl) (Nat.le_of_ble_eq_true rfl) (R_X10_byteAt hL (h := (sX10_stepOn_84 (Nat.le_of_ble_eq_true rfl) (R_X10_isLetter (h := ?_) (hd := (Nat.le_of_ble_eq_true rfl)) (e := e13)))) (hd := (Nat.le_of_ble_eq_true rfl)) (e := e12))))))
  refine sX10_stepOn_87 (fun hbr => ?_) (fun hbr => ?_)
  · replace e := am_pos hbr e
    exact hx _ (Option.some.inj e).symm _
  · replace e := am_neg hbr e
    refine (sX10_stepOn_90 rfl (sX10_stepOn_91 rfl (sX10_stepOn_92 (hL.1 _ _ rfl) (sX10_stepOn_95 (sX10_stepOn_96 (sX10_stepOn_97 (hL.1 _ _ rfl) (sX10_stepOn_100 ?_)))))))
    exact hc _ (Option.some.inj e).symm _
theorem l_X10_stepOn_76 {E : am_E} {S : am_S} {Q : am_O → am_S → am_I → Prop} (hL : am_Lay S) (s : (am_I)) {x : (am_I)} (e : am_loop (fun s : (am_I) => B_X10_stepOn_76 s) s = some x) (hx : ∀ z1 : Value, am_R E 1 mX10_stepOn 0 0 103 [.ref 54, z1] [] S x Q) : ∀ z1 : Value, am_R E 1 mX10_stepOn 0 0 76 [.ref 54, z1] [] S s Q :=
  am_wh_sound (f := fun s : (am_I) => B_X10_stepOn_76 s) (P := fun s => ∀ z1 : Value, am_R E 1 mX10_stepOn 0 0 76 [.ref 54, z1] [] S s Q) (K := fun x => ∀ z1 : Value, am_R E 1 mX10_stepOn 0 0 103 [.ref 54, z1] [] S x Q) (fun s y e hc hkk => fun z1 => b_X10_stepOn_76 hL e hc (fun a hy => hkk a hy)) am_fu s x e hx
def F_X10_stepOn (iv : am_I) : Option (am_I) :=
  (am_o1 (am_loop (fun s : (am_I) => B_X10_stepOn_0 s) iv) fun a3 => (am_o1 (F_X10_byteAt ((am_w a3 54 23 (a3 54 19)) 54 19) (am_w a3 54 23 (a3 54 19))) fun v4 => (if v4 = (-1 : Int32) then J_X10_stepOn_212  (am_w (am_w a3 54 23 (a3 54 19)) 54 21 (0 : Int32)) else (am_o1 (F_X10_isLetter v4 (am_w a3 54 23 (a3 54 19))) fun v5 => (if v5 = 0 then (am_o1 (F_X10_isDigit v4 (am_w a3 54 23 (a3 54 19))) fun v6 => (if v6 = 0 then (am_o1 (F_X10_isMark v4 (am_w (am_w a3 54 23 (a3 54 19)) 54 19 (((am_w a3 54 23 (a3 54 19)) 54 19) + (1 : Int32)))) fun v7 => (if v7 = 0 then J_X10_stepOn_209 (4 : Int32) (am_w (am_w a3 54 23 (a3 54 19)) 54 19 (((am_w a3 54 23 (a3 54 19)) 54 19) + (1 : Int32))) else J_X10_stepOn_209 (3 : Int32) (am_w (am_w a3 54 23 (a3 54 19)) 54 19 (((am_w a3 54 23 (a3 54 19)) 54 19) + (1 : Int32))))) else (am_o1 (am_loop (fun s : (am_I) => B_X10_stepOn_123 s) (am_w (am_w a3 54 23 (a3 54 19)) 54 22 (0 : Int32))) fun a11 => J_X10_stepOn_212  (am_w a11 54 21 (2 : Int32))))) else (am_o1 (am_loop (fun s : (am_I) => B_X10_stepOn_76 s) (am_w a3 54 23 (a3 54 19))) fun a14 => J_X10_stepOn_212  (am_w a14 54 21 (1 : Int32))))))))
theorem R_X10_stepOn {E : am_E} {S : am_S} {Q : am_O → am_S → am_I → Prop} (hL : am_Lay S) {iv : am_I} {y : am_I} (e : F_X10_stepOn  iv = some y) (h : Q (.inl none) S y) {d : Nat} (hd : 1 ≤ d) : am_M E d mX10_stepOn 0 0 [.ref 54] S iv Q := by
  refine am_enter (js := [.double 0]) rfl pn_X10 rfl rfl rfl (Nat.le_of_ble_eq_true rfl) (am_R.deep ?_ hd)
  replace e := am_o1_i e; obtain ⟨a3, e3, e⟩ := e
  refine l_X10_stepOn_0 hL _ e3 ?_ _
  intro z1
  replace e := am_o1_i e; obtain ⟨v4, e4, e⟩ := e
  refine (sX10_stepOn_39 rfl (sX10_stepOn_40 rfl (sX10_stepOn_41 (hL.1 _ _ rfl) (sX10_stepOn_44 (hL.1 _ _ rfl) (sX10_stepOn_47 rfl (sX10_stepOn_48 rfl (sX10_stepOn_49 (hL.1 _ _ rfl) (sX10_stepOn_52 (hL.1 _ _ rfl) (Nat.le_of_ble_eq_true rfl) (R_X10_byteAt hL (h := (sX10_stepOn_55 (sX10_stepOn_56 (sX10_stepOn_57 ?_)))) (hd := (Nat.le_of_ble_eq_true rfl)) (e := e4))))))))))
  refine sX10_stepOn_58 (fun hbr => ?_) (fun hbr => ?_)
  · replace e := am_neg hbr e
    replace e := am_o1_i e; obtain ⟨v5, e5, e⟩ := e
    refine (sX10_stepOn_69 (sX10_stepOn_70 (Nat.le_of_ble_eq_true rfl) (R_X10_isLetter (h := ?_) (hd := (Nat.le_of_ble_eq_true rfl)) (e := e5))))
    refine sX10_stepOn_73 (fun hbr => ?_) (fun hbr => ?_)
    · replace e := am_pos hbr e
      replace e := am_o1_i e; obtain ⟨v6, e6, e⟩ := e
      refine (sX10_stepOn_111 (sX10_stepOn_112 (Nat.le_of_ble_eq_true rfl) (R_X10_isDigit (h := ?_) (hd := (Nat.le_of_ble_eq_true rfl)) (e := e6))))
      refine sX10_stepOn_115 (fun hbr => ?_) (fun hbr => ?_)
      · replace e := am_pos hbr e
        replace e := am_o1_i e; obtain ⟨v7, e7, e⟩ := e
        refine (sX10_stepOn_186 rfl (sX10_stepOn_187 rfl (sX10_stepOn_188 (hL.1 _ _ rfl) (sX10_stepOn_191 (sX10_stepOn_192 (sX10_stepOn_193 (hL.1 _ _ rfl) (sX10_stepOn_196 rfl (sX10_stepOn_197 (sX10_stepOn_198 (Nat.le_of_ble_eq_true rfl) (R_X10_isMark (h := ?_) (hd := (Nat.le_of_ble_eq_true rfl)) (e := e7)))))))))))
        refine sX10_stepOn_201 (fun hbr => ?_) (fun hbr => ?_)
        · replace e := am_pos hbr e
          refine (sX10_stepOn_208 ?_)
          exact j_X10_stepOn_209 hL e h
        · replace e := am_neg hbr e
          refine (sX10_stepOn_204 (sX10_stepOn_205 ?_))
          exact j_X10_stepOn_209 hL e h
      · replace e := am_neg hbr e
        refine (sX10_stepOn_118 rfl (sX10_stepOn_119 (sX10_stepOn_120 (hL.1 _ _ rfl) ?_)))
        replace e := am_o1_i e; obtain ⟨a11, e11, e⟩ := e
        refine l_X10_stepOn_123 hL _ e11 ?_ _
        intro z1
        refine (sX10_stepOn_178 rfl (sX10_stepOn_179 (sX10_stepOn_180 (hL.1 _ _ rfl) (sX10_stepOn_183 ?_))))
        exact j_X10_stepOn_212 hL e h
    · replace e := am_neg hbr e
      replace e := am_o1_i e; obtain ⟨a14, e14, e⟩ := e
      refine l_X10_stepOn_76 hL _ e14 ?_ _
      intro z1
      refine (sX10_stepOn_103 rfl (sX10_stepOn_104 (sX10_stepOn_105 (hL.1 _ _ rfl) (sX10_stepOn_108 ?_))))
      exact j_X10_stepOn_212 hL e h
  · replace e := am_pos hbr e
    refine (sX10_stepOn_61 rfl (sX10_stepOn_62 (sX10_stepOn_63 (hL.1 _ _ rfl) (sX10_stepOn_66 ?_))))
    exact j_X10_stepOn_212 hL e h
def F_X10_wrong (i1 : Int32) (iv : am_I) : Option (am_I) :=
  (if (iv 54 25) = 0 then some (am_w (am_w iv 54 25 i1) 54 26 ((am_w iv 54 25 i1) 54 23)) else some iv)
theorem R_X10_wrong {E : am_E} {S : am_S} {Q : am_O → am_S → am_I → Prop} (hL : am_Lay S) {i1 : Int32} {iv : am_I} {y : am_I} (e : F_X10_wrong i1 iv = some y) (h : Q (.inl none) S y) {d : Nat} (hd : 0 ≤ d) : am_M E d mX10_wrong 0 0 [.ref 54, .int i1] S iv Q := by
  refine am_enter (js := []) rfl pn_X10 rfl rfl rfl (Nat.le_of_ble_eq_true rfl) (am_R.deep ?_ hd)
  refine (sX10_wrong_0 rfl (sX10_wrong_1 (hL.1 _ _ rfl) ?_))
  refine sX10_wrong_4 (fun hbr => ?_) (fun hbr => ?_)
  · replace e := am_pos hbr e
    refine (sX10_wrong_8 rfl (sX10_wrong_9 (sX10_wrong_10 (hL.1 _ _ rfl) (sX10_wrong_13 rfl (sX10_wrong_14 rfl (sX10_wrong_15 (hL.1 _ _ rfl) (sX10_wrong_18 (hL.1 _ _ rfl) (sX10_wrong_21 ?_))))))))
    obtain rfl := Option.some.inj e
    exact h
  · replace e := am_neg hbr e
    refine (sX10_wrong_7 ?_)
    obtain rfl := Option.some.inj e
    exact h
def J_X10_is_75 (j : Nat) (i3 : Int32) (k0 : Int32) (iv : am_I) : Option ((Int32 × Int32) ⊕ (Int32)) :=
  some (.inl (k0, (i3 + 1)))
theorem j_X10_is_75 {E : am_E} {S : am_S} {Q : am_O → am_S → am_I → Prop} {j : Nat} (hL : am_Lay S) (hj : j < am_by.length) {z2 : Value} {i3 k0 : Int32} {iv : am_I} {y : (Int32 × Int32) ⊕ (Int32)} (e : J_X10_is_75 j i3 k0 iv = some y) (hc : ∀ s, y = .inl s → am_R E 4 mX10_is 0 0 39 [.ref 54, .retAddr j, .int s.1, .int s.2] [] S iv Q) (hx : ∀ a, y = .inr a → ∀ z0 z1 z3 : Value, am_R E 4 mX10_is 0 0 82 [z0, z1, .int a, z3] [] S iv Q) : am_R E 4 mX10_is 0 0 75 [.ref 54, .retAddr j, z2, .int i3] [.int k0] S iv Q := by
  refine (sX10_is_75 (sX10_is_76 (sX10_is_79 ?_)))
  exact hc _ (Option.some.inj e).symm
def B_X10_is_39 (j : Nat) (iv : am_I) (i2 : Int32) (i3 : Int32) : Option ((Int32 × Int32) ⊕ (Int32)) :=
  (if i2 = 0 then some (.inr i2) else (if (nI (am_by.getD j []).length) ≤ i3 then some (.inr i2) else (if vp_b i3 (am_by.getD j []).length then (if vp_b ((iv 54 23) + i3) 700 then (if ((am_by.getD j []).getD i3.toNatClampNeg 0) = (iv 71 ((iv 54 23) + i3).toNatClampNeg) then J_X10_is_75 j i3 (1 : Int32) iv else J_X10_is_75 j i3 (0 : Int32) iv) else none) else none)))
theorem b_X10_is_39 {E : am_E} {S : am_S} {Q : am_O → am_S → am_I → Prop} {j : Nat} (hL : am_Lay S) (hj : j < am_by.length) {i2 i3 : Int32} {iv : am_I} {y : (Int32 × Int32) ⊕ (Int32)} (e : B_X10_is_39 j iv i2 i3 = some y) (hc : ∀ s, y = .inl s → am_R E 4 mX10_is 0 0 39 [.ref 54, .retAddr j, .int s.1, .int s.2] [] S iv Q) (hx : ∀ a, y = .inr a → ∀ z0 z1 z3 : Value, am_R E 4 mX10_is 0 0 82 [z0, z1, .int a, z3] [] S iv Q) : am_R E 4 mX10_is 0 0 39 [.ref 54, .retAddr j, .int i2, .int i3] [] S iv Q := by
  refine (sX10_is_39 ?_)
  refine sX10_is_40 (fun hbr => ?_) (fun hbr => ?_)
  · replace e := am_pos hbr e
    exact hx _ (Option.some.inj e).symm _ _ _
  · replace e := am_neg hbr e
    refine (sX10_is_43 (sX10_is_44 rfl (sX10_is_45 hj (Nat.le_of_ble_eq_true rfl) (S_len hj ?_))))
    refine sX10_is_48 (fun hbr => ?_) (fun hbr => ?_)
    · replace e := am_pos hbr e
      exact hx _ (Option.some.inj e).symm _ _ _
    · replace e := am_neg hbr e
      replace e := am_ckv e; obtain ⟨c1, e⟩ := e
      replace e := am_ckv e; obtain ⟨c2, e⟩ := e
      refine (sX10_is_51 rfl (sX10_is_52 (sX10_is_53 hj (Nat.le_of_ble_eq_true rfl) (S_chrI hj c1 (sX10_is_56 rfl (sX10_is_57 (hL.1 _ _ rfl) (hL.2.1 _ _ _ rfl) (sX10_is_60 rfl (sX10_is_61 (hL.1 _ _ rfl) (sX10_is_64 (sX10_is_65 (sX10_is_66 (hL.1 _ _ rfl) c2 ?_)))))))))))
      refine sX10_is_67 (fun hbr => ?_) (fun hbr => ?_)
      · replace e := am_neg hbr e
        refine (sX10_is_74 ?_)
        exact j_X10_is_75 hL hj e hc hx
      · replace e := am_pos hbr e
        refine (sX10_is_70 (sX10_is_71 ?_))
        exact j_X10_is_75 hL hj e hc hx
theorem l_X10_is_39 {E : am_E} {S : am_S} {Q : am_O → am_S → am_I → Prop} {j : Nat} (hL : am_Lay S) (hj : j < am_by.length) {iv : am_I} (s : (Int32 × Int32)) {x : (Int32)} (e : am_loop (fun s : (Int32 × Int32) => B_X10_is_39 j iv s.1 s.2) s = some x) (hx : ∀ z0 z1 z3 : Value, am_R E 4 mX10_is 0 0 82 [z0, z1, .int x, z3] [] S iv Q) : am_R E 4 mX10_is 0 0 39 [.ref 54, .retAddr j, .int s.1, .int s.2] [] S iv Q :=
  am_wh_sound (f := fun s : (Int32 × Int32) => B_X10_is_39 j iv s.1 s.2) (P := fun s => am_R E 4 mX10_is 0 0 39 [.ref 54, .retAddr j, .int s.1, .int s.2] [] S iv Q) (K := fun x => ∀ z0 z1 z3 : Value, am_R E 4 mX10_is 0 0 82 [z0, z1, .int x, z3] [] S iv Q) (fun s y e hc hkk => b_X10_is_39 hL hj e hc (fun a hy => hkk a hy)) am_fu s x e hx
def J_X10_is_36 (j : Nat) (k0 : Int32) (iv : am_I) : Option (Int32) :=
  (am_o1 (am_loop (fun s : (Int32 × Int32) => B_X10_is_39 j iv s.1 s.2) (k0, (0 : Int32))) fun a3 => (if a3 = 0 ∨ a3 = 1 then some a3 else none))
theorem j_X10_is_36 {E : am_E} {S : am_S} {Q : am_O → am_S → am_I → Prop} {j : Nat} (hL : am_Lay S) (hj : j < am_by.length) {z2 z3 : Value} {k0 : Int32} {iv : am_I} {y : Int32} (e : J_X10_is_36 j k0 iv = some y) (h : Q (.inl (some (.int y))) S iv) : am_R E 4 mX10_is 0 0 36 [.ref 54, .retAddr j, z2, z3] [.int k0] S iv Q := by
  refine (sX10_is_36 (sX10_is_37 (sX10_is_38 ?_)))
  replace e := am_o1_i e; obtain ⟨a3, e3, e⟩ := e
  refine l_X10_is_39 hL hj _ e3 ?_
  intro z0 z1 z3
  replace e := am_ck e; obtain ⟨c4, e⟩ := e
  refine (sX10_is_82 (sX10_is_83 (am_nar c4) ?_))
  obtain rfl := Option.some.inj e
  exact h
def J_X10_is_35 (j : Nat) (iv : am_I) : Option (Int32) :=
  J_X10_is_36 j (0 : Int32) iv
theorem j_X10_is_35 {E : am_E} {S : am_S} {Q : am_O → am_S → am_I → Prop} {j : Nat} (hL : am_Lay S) (hj : j < am_by.length) {z2 z3 : Value} {iv : am_I} {y : Int32} (e : J_X10_is_35 j  iv = some y) (h : Q (.inl (some (.int y))) S iv) : am_R E 4 mX10_is 0 0 35 [.ref 54, .retAddr j, z2, z3] [] S iv Q := by
  refine (sX10_is_35 ?_)
  exact j_X10_is_36 hL hj e h
def F_X10_is (j : Nat) (iv : am_I) : Option (Int32) :=
  (if (iv 54 25) = 0 then (if (iv 54 21) = (1 : Int32) then (if (nI (am_by.getD j []).length) = ((iv 54 24) - (iv 54 23)) then J_X10_is_36 j (1 : Int32) iv else J_X10_is_35 j  iv) else J_X10_is_35 j  iv) else J_X10_is_35 j  iv)
theorem R_X10_is {E : am_E} {S : am_S} {Q : am_O → am_S → am_I → Prop} {j : Nat} (hL : am_Lay S) (hj : j < am_by.length) {iv : am_I} {y : Int32} (e : F_X10_is j  iv = some y) (h : Q (.inl (some (.int y))) S iv) {d : Nat} (hd : 4 ≤ d) : am_M E d mX10_is 0 0 [.ref 54, .retAddr j] S iv Q := by
  refine am_enter (js := [.double 0, .double 0]) rfl pn_X10 rfl rfl rfl (Nat.le_of_ble_eq_true rfl) (am_R.deep ?_ hd)
  refine (sX10_is_0 rfl (sX10_is_1 (hL.1 _ _ rfl) ?_))
  refine sX10_is_4 (fun hbr => ?_) (fun hbr => ?_)
  · replace e := am_neg hbr e
    exact j_X10_is_35 hL hj e h
  · replace e := am_pos hbr e
    refine (sX10_is_7 rfl (sX10_is_8 (hL.1 _ _ rfl) (sX10_is_11 ?_)))
    refine sX10_is_12 (fun hbr => ?_) (fun hbr => ?_)
    · replace e := am_neg hbr e
      exact j_X10_is_35 hL hj e h
    · replace e := am_pos hbr e
      refine (sX10_is_15 rfl (sX10_is_16 hj (Nat.le_of_ble_eq_true rfl) (S_len hj (sX10_is_19 rfl (sX10_is_20 (hL.1 _ _ rfl) (sX10_is_23 rfl (sX10_is_24 (hL.1 _ _ rfl) (sX10_is_27 ?_))))))))
      refine sX10_is_28 (fun hbr => ?_) (fun hbr => ?_)
      · replace e := am_neg hbr e
        exact j_X10_is_35 hL hj e h
      · replace e := am_pos hbr e
        refine (sX10_is_31 (sX10_is_32 ?_))
        exact j_X10_is_36 hL hj e h
def F_X10_isMarked (i1 : Int32) (iv : am_I) : Option (Int32) :=
  (if (iv 54 25) = 0 then (if (iv 54 21) = (3 : Int32) then (if vp_b (iv 54 23) 700 then (if (iv 71 (iv 54 23).toNatClampNeg) = i1 then some (1 : Int32) else some (0 : Int32)) else none) else some (0 : Int32)) else some (0 : Int32))
theorem R_X10_isMarked {E : am_E} {S : am_S} {Q : am_O → am_S → am_I → Prop} (hL : am_Lay S) {i1 : Int32} {iv : am_I} {y : Int32} (e : F_X10_isMarked i1 iv = some y) (h : Q (.inl (some (.int y))) S iv) {d : Nat} (hd : 0 ≤ d) : am_M E d mX10_isMarked 0 0 [.ref 54, .int i1] S iv Q := by
  refine am_enter (js := []) rfl pn_X10 rfl rfl rfl (Nat.le_of_ble_eq_true rfl) (am_R.deep ?_ hd)
  refine (sX10_isMarked_0 rfl (sX10_isMarked_1 (hL.1 _ _ rfl) ?_))
  refine sX10_isMarked_4 (fun hbr => ?_) (fun hbr => ?_)
  · replace e := am_neg hbr e
    refine (sX10_isMarked_32 (sX10_isMarked_33 rfl ?_))
    obtain rfl := Option.some.inj e
    exact h
  · replace e := am_pos hbr e
    refine (sX10_isMarked_7 rfl (sX10_isMarked_8 (hL.1 _ _ rfl) (sX10_isMarked_11 ?_)))
    refine sX10_isMarked_12 (fun hbr => ?_) (fun hbr => ?_)
    · replace e := am_neg hbr e
      refine (sX10_isMarked_32 (sX10_isMarked_33 rfl ?_))
      obtain rfl := Option.some.inj e
      exact h
    · replace e := am_pos hbr e
      replace e := am_ckv e; obtain ⟨c1, e⟩ := e
      refine (sX10_isMarked_15 rfl (sX10_isMarked_16 (hL.1 _ _ rfl) (hL.2.1 _ _ _ rfl) (sX10_isMarked_19 rfl (sX10_isMarked_20 (hL.1 _ _ rfl) (sX10_isMarked_23 (hL.1 _ _ rfl) c1 (sX10_isMarked_24 ?_))))))
      refine sX10_isMarked_25 (fun hbr => ?_) (fun hbr => ?_)
      · replace e := am_neg hbr e
        refine (sX10_isMarked_32 (sX10_isMarked_33 rfl ?_))
        obtain rfl := Option.some.inj e
        exact h
      · replace e := am_pos hbr e
        refine (sX10_isMarked_28 (sX10_isMarked_29 (sX10_isMarked_33 rfl ?_)))
        obtain rfl := Option.some.inj e
        exact h
def B_X10_which_2 (aa : Nat) (m : Nat) (iv : am_I) (i2 : Int32) : Option ((Int32) ⊕ ((Unit) ⊕ (Int32))) :=
  (if (Int32.ofNat m) ≤ i2 then some (.inr (.inl ())) else (if vp_b i2 m then (am_o1 (am_lref aa i2.toNatClampNeg) fun j2 => (am_o1 (F_X10_is j2  iv) fun v3 => (if v3 = 0 then some (.inl (i2 + 1)) else some (.inr (.inr i2))))) else none))
theorem b_X10_which_2 {E : am_E} {S : am_S} {Q : am_O → am_S → am_I → Prop} {aa : Nat} {m : Nat} (hL : am_Lay S) (ha : S.1 aa = some (.inr (am_S0, m))) (hk : aa = 55 ∨ aa = 56 ∨ aa = 57) {i2 : Int32} {iv : am_I} {y : (Int32) ⊕ ((Unit) ⊕ (Int32))} (e : B_X10_which_2 aa m iv i2 = some y) (hc : ∀ s, y = .inl s → am_R E 5 mX10_which 0 0 2 [.ref 54, .ref aa, .int s] [] S iv Q) (hx : ∀ a, y = .inr (.inl a) → ∀ z0 z1 z2 : Value, am_R E 5 mX10_which 0 0 26 [z0, z1, z2] [] S iv Q) (hr : ∀ r, y = .inr (.inr r) → Q (.inl (some (.int r))) S iv) : am_R E 5 mX10_which 0 0 2 [.ref 54, .ref aa, .int i2] [] S iv Q := by
  refine (sX10_which_2 (sX10_which_3 rfl (sX10_which_4 ha rfl ?_)))
  refine sX10_which_5 (fun hbr => ?_) (fun hbr => ?_)
  · replace e := am_pos hbr e
    exact hx _ (Option.some.inj e).symm _ _ _
  · replace e := am_neg hbr e
    replace e := am_ckv e; obtain ⟨c1, e⟩ := e
    replace e := am_o1_i e; obtain ⟨j2, c2, e⟩ := e
    replace e := am_o1_i e; obtain ⟨v3, e3, e⟩ := e
    refine (sX10_which_8 rfl (sX10_which_9 rfl (sX10_which_10 (sX10_which_11 ha c1 (hL.2.1 _ _ _ c2) (sX10_which_12 (hL.1 _ _ rfl) (Nat.le_of_ble_eq_true rfl) (R_X10_is hL (am_lrw hk c2) (h := ?_) (hd := (Nat.le_of_ble_eq_true rfl)) (e := e3)))))))
    refine sX10_which_15 (fun hbr => ?_) (fun hbr => ?_)
    · replace e := am_pos hbr e
      refine (sX10_which_20 (sX10_which_23 ?_))
      exact hc _ (Option.some.inj e).symm
    · replace e := am_neg hbr e
      refine (sX10_which_18 (sX10_which_19 ?_))
      exact hr _ (Option.some.inj e).symm
theorem l_X10_which_2 {E : am_E} {S : am_S} {Q : am_O → am_S → am_I → Prop} {aa : Nat} {m : Nat} (hL : am_Lay S) (ha : S.1 aa = some (.inr (am_S0, m))) (hk : aa = 55 ∨ aa = 56 ∨ aa = 57) {iv : am_I} (s : (Int32)) {x : ((Unit) ⊕ (Int32))} (e : am_loop (fun s : (Int32) => B_X10_which_2 aa m iv s) s = some x) (hx : ∀ a, x = .inl a → ∀ z0 z1 z2 : Value, am_R E 5 mX10_which 0 0 26 [z0, z1, z2] [] S iv Q) (hr : ∀ r, x = .inr r → Q (.inl (some (.int r))) S iv) : am_R E 5 mX10_which 0 0 2 [.ref 54, .ref aa, .int s] [] S iv Q :=
  am_wh_sound (f := fun s : (Int32) => B_X10_which_2 aa m iv s) (P := fun s => am_R E 5 mX10_which 0 0 2 [.ref 54, .ref aa, .int s] [] S iv Q) (K := fun x => (∀ a, x = .inl a → ∀ z0 z1 z2 : Value, am_R E 5 mX10_which 0 0 26 [z0, z1, z2] [] S iv Q) ∧ (∀ r, x = .inr r → Q (.inl (some (.int r))) S iv)) (fun s y e hc hkk => b_X10_which_2 hL ha hk e hc (fun a hy => (hkk _ hy).1 a rfl) (fun r hy => (hkk _ hy).2 r rfl)) am_fu s x e ⟨hx, hr⟩
def F_X10_which (aa : Nat) (m : Nat) (iv : am_I) : Option (Int32) :=
  (am_lp (am_loop (fun s : (Int32) => B_X10_which_2 aa m iv s) (0 : Int32)) (fun a4 => some (-1 : Int32)) (fun r4 => some r4))
theorem R_X10_which {E : am_E} {S : am_S} {Q : am_O → am_S → am_I → Prop} {aa : Nat} {m : Nat} (hL : am_Lay S) (ha : S.1 aa = some (.inr (am_S0, m))) (hk : aa = 55 ∨ aa = 56 ∨ aa = 57) {iv : am_I} {y : Int32} (e : F_X10_which aa m  iv = some y) (h : Q (.inl (some (.int y))) S iv) {d : Nat} (hd : 5 ≤ d) : am_M E d mX10_which 0 0 [.ref 54, .ref aa] S iv Q := by
  refine am_enter (js := [.double 0]) rfl pn_X10 rfl rfl rfl (Nat.le_of_ble_eq_true rfl) (am_R.deep ?_ hd)
  refine (sX10_which_0 (sX10_which_1 ?_))
  replace e := am_lp_i e; rcases e with ⟨a4, e4, e⟩ | ⟨r4, e4, e⟩
  · refine l_X10_which_2 hL ha hk _ e4 (fun a hq9 => ?_) (fun r hq9 => nomatch hq9)
    obtain rfl := Sum.inl.inj hq9
    intro z0 z1 z2
    refine (sX10_which_26 (sX10_which_27 ?_))
    obtain rfl := Option.some.inj e
    exact h
  · refine l_X10_which_2 hL ha hk _ e4 (fun a hq9 => nomatch hq9) (fun r hq9 => ?_)
    obtain rfl := Sum.inr.inj hq9
    obtain rfl := Option.some.inj e
    exact h
def F_X10_passes (j : Nat) (iv : am_I) : Option (Int32 × am_I) :=
  (am_o1 (F_X10_is j  iv) fun v1 => (if v1 = 0 then (if v1 = 0 ∨ v1 = 1 then some (v1, iv) else none) else (am_o1 (F_X10_stepOn  iv) fun w3 => (if v1 = 0 ∨ v1 = 1 then some (v1, w3) else none))))
theorem YR_X10_passes {E : am_E} {S : am_S} {Q : am_O → am_S → am_I → Prop} {j : Nat} (hL : am_Lay S) (hj : j < am_by.length) {iv : am_I} {y : Int32 × am_I} (e : F_X10_passes j  iv = some y) (h : Q (.inl (some (.int y.1))) S y.2) {d : Nat} (hd : 5 ≤ d) : am_M E d mX10_passes 0 0 [.ref 54, .retAddr j] S iv Q := by
  refine am_enter (js := [.double 0]) rfl pn_X10 rfl rfl rfl (Nat.le_of_ble_eq_true rfl) (am_R.deep ?_ hd)
  replace e := am_o1_i e; obtain ⟨v1, e1, e⟩ := e
  refine (sX10_passes_0 rfl (sX10_passes_1 rfl (sX10_passes_2 (hL.1 _ _ rfl) (Nat.le_of_ble_eq_true rfl) (R_X10_is hL hj (h := (sX10_passes_5 (sX10_passes_6 ?_))) (hd := (Nat.le_of_ble_eq_true rfl)) (e := e1)))))
  refine sX10_passes_7 (fun hbr => ?_) (fun hbr => ?_)
  · replace e := am_pos hbr e
    replace e := am_ck e; obtain ⟨c2, e⟩ := e
    refine (sX10_passes_14 (sX10_passes_15 (am_nar c2) ?_))
    obtain rfl := Option.some.inj e
    exact h
  · replace e := am_neg hbr e
    replace e := am_o1_i e; obtain ⟨w3, e3, e⟩ := e
    replace e := am_ck e; obtain ⟨c4, e⟩ := e
    refine (sX10_passes_10 rfl (sX10_passes_11 (hL.1 _ _ rfl) (Nat.le_of_ble_eq_true rfl) (R_X10_stepOn hL (h := (sX10_passes_14 (sX10_passes_15 (am_nar c4) ?_))) (hd := (Nat.le_of_ble_eq_true rfl)) (e := e3))))
    obtain rfl := Option.some.inj e
    exact h
theorem R_X10_passes {E : am_E} {S : am_S} {Q : am_O → am_S → am_I → Prop} {j : Nat} (hL : am_Lay S) (hj : j < am_by.length) {iv : am_I} {v' : Int32} {iv' : am_I} (e : F_X10_passes j  iv = some (v', iv')) (h : Q (.inl (some (.int v'))) S iv') {d : Nat} (hd : 5 ≤ d) : am_M E d mX10_passes 0 0 [.ref 54, .retAddr j] S iv Q :=
  YR_X10_passes hL hj e h hd
def J_X10_mark_20 (iv : am_I) : Option (am_I) :=
  (if (iv 54 25) = 0 then (am_o1 (F_X10_stepOn  iv) fun w1 => some w1) else some iv)
theorem j_X10_mark_20 {E : am_E} {S : am_S} {Q : am_O → am_S → am_I → Prop} (hL : am_Lay S) {z1 : Value} {iv : am_I} {y : am_I} (e : J_X10_mark_20  iv = some y) (h : Q (.inl none) S y) : am_R E 2 mX10_mark 0 0 20 [.ref 54, z1] [] S iv Q := by
  refine (sX10_mark_20 rfl (sX10_mark_21 (hL.1 _ _ rfl) ?_))
  refine sX10_mark_24 (fun hbr => ?_) (fun hbr => ?_)
  · replace e := am_neg hbr e
    refine (sX10_mark_31 ?_)
    obtain rfl := Option.some.inj e
    exact h
  · replace e := am_pos hbr e
    replace e := am_o1_i e; obtain ⟨w1, e1, e⟩ := e
    refine (sX10_mark_27 rfl (sX10_mark_28 (hL.1 _ _ rfl) (Nat.le_of_ble_eq_true rfl) (R_X10_stepOn hL (h := (sX10_mark_31 ?_)) (hd := (Nat.le_of_ble_eq_true rfl)) (e := e1))))
    obtain rfl := Option.some.inj e
    exact h
def F_X10_mark (i1 : Int32) (iv : am_I) : Option (am_I) :=
  (if (iv 54 25) = 0 then (am_o1 (F_X10_isMarked i1 iv) fun v2 => (if v2 = 0 then (am_o1 (F_X10_wrong (1 : Int32) iv) fun w3 => J_X10_mark_20  w3) else J_X10_mark_20  iv)) else J_X10_mark_20  iv)
theorem R_X10_mark {E : am_E} {S : am_S} {Q : am_O → am_S → am_I → Prop} (hL : am_Lay S) {i1 : Int32} {iv : am_I} {y : am_I} (e : F_X10_mark i1 iv = some y) (h : Q (.inl none) S y) {d : Nat} (hd : 2 ≤ d) : am_M E d mX10_mark 0 0 [.ref 54, .int i1] S iv Q := by
  refine am_enter (js := []) rfl pn_X10 rfl rfl rfl (Nat.le_of_ble_eq_true rfl) (am_R.deep ?_ hd)
  refine (sX10_mark_0 rfl (sX10_mark_1 (hL.1 _ _ rfl) ?_))
  refine sX10_mark_4 (fun hbr => ?_) (fun hbr => ?_)
  · replace e := am_neg hbr e
    exact j_X10_mark_20 hL e h
  · replace e := am_pos hbr e
    replace e := am_o1_i e; obtain ⟨v2, e2, e⟩ := e
    refine (sX10_mark_7 rfl (sX10_mark_8 (sX10_mark_9 (hL.1 _ _ rfl) (Nat.le_of_ble_eq_true rfl) (R_X10_isMarked hL (h := ?_) (hd := (Nat.le_of_ble_eq_true rfl)) (e := e2)))))
    refine sX10_mark_12 (fun hbr => ?_) (fun hbr => ?_)
    · replace e := am_neg hbr e
      exact j_X10_mark_20 hL e h
    · replace e := am_pos hbr e
      replace e := am_o1_i e; obtain ⟨w3, e3, e⟩ := e
      refine (sX10_mark_15 rfl (sX10_mark_16 (sX10_mark_17 (hL.1 _ _ rfl) (Nat.le_of_ble_eq_true rfl) (R_X10_wrong hL (h := ?_) (hd := (Nat.le_of_ble_eq_true rfl)) (e := e3)))))
      exact j_X10_mark_20 hL e h
def J_X10_numberNow_59 (iv : am_I) : Option (Int32 × am_I) :=
  (if (iv 54 25) = 0 then some ((iv 54 22), iv) else some ((0 : Int32), iv))
theorem j_X10_numberNow_59 {E : am_E} {S : am_S} {Q : am_O → am_S → am_I → Prop} (hL : am_Lay S) {z1 z2 : Value} {iv : am_I} {y : Int32 × am_I} (e : J_X10_numberNow_59  iv = some y) (h : Q (.inl (some (.int y.1))) S y.2) : am_R E 1 mX10_numberNow 0 0 59 [.ref 54, z1, z2] [] S iv Q := by
  refine (sX10_numberNow_59 rfl (sX10_numberNow_60 (hL.1 _ _ rfl) ?_))
  refine sX10_numberNow_63 (fun hbr => ?_) (fun hbr => ?_)
  · replace e := am_neg hbr e
    refine (sX10_numberNow_73 (sX10_numberNow_74 ?_))
    obtain rfl := Option.some.inj e
    exact h
  · replace e := am_pos hbr e
    refine (sX10_numberNow_66 rfl (sX10_numberNow_67 (hL.1 _ _ rfl) (sX10_numberNow_70 (sX10_numberNow_74 ?_))))
    obtain rfl := Option.some.inj e
    exact h
def J_X10_numberNow_54 (iv : am_I) : Option (Int32 × am_I) :=
  (am_o1 (F_X10_wrong (2 : Int32) iv) fun w1 => J_X10_numberNow_59  w1)
theorem j_X10_numberNow_54 {E : am_E} {S : am_S} {Q : am_O → am_S → am_I → Prop} (hL : am_Lay S) {z1 z2 : Value} {iv : am_I} {y : Int32 × am_I} (e : J_X10_numberNow_54  iv = some y) (h : Q (.inl (some (.int y.1))) S y.2) : am_R E 1 mX10_numberNow 0 0 54 [.ref 54, z1, z2] [] S iv Q := by
  replace e := am_o1_i e; obtain ⟨w1, e1, e⟩ := e
  refine (sX10_numberNow_54 rfl (sX10_numberNow_55 (sX10_numberNow_56 (hL.1 _ _ rfl) (Nat.le_of_ble_eq_true rfl) (R_X10_wrong hL (h := ?_) (hd := (Nat.le_of_ble_eq_true rfl)) (e := e1)))))
  exact j_X10_numberNow_59 hL e h
def F_X10_numberNow (i1 : Int32) (i2 : Int32) (iv : am_I) : Option (Int32 × am_I) :=
  (if (iv 54 25) = 0 then (if (iv 54 21) = (2 : Int32) then (if (4 : Int32) < ((iv 54 24) - (iv 54 23)) then J_X10_numberNow_54  iv else (if (iv 54 22) < i1 then J_X10_numberNow_54  iv else (if (iv 54 22) ≤ i2 then J_X10_numberNow_59  iv else J_X10_numberNow_54  iv))) else (am_o1 (F_X10_wrong (1 : Int32) iv) fun w2 => J_X10_numberNow_59  w2)) else some ((0 : Int32), iv))
theorem YR_X10_numberNow {E : am_E} {S : am_S} {Q : am_O → am_S → am_I → Prop} (hL : am_Lay S) {i1 i2 : Int32} {iv : am_I} {y : Int32 × am_I} (e : F_X10_numberNow i1 i2 iv = some y) (h : Q (.inl (some (.int y.1))) S y.2) {d : Nat} (hd : 1 ≤ d) : am_M E d mX10_numberNow 0 0 [.ref 54, .int i1, .int i2] S iv Q := by
  refine am_enter (js := []) rfl pn_X10 rfl rfl rfl (Nat.le_of_ble_eq_true rfl) (am_R.deep ?_ hd)
  refine (sX10_numberNow_0 rfl (sX10_numberNow_1 (hL.1 _ _ rfl) ?_))
  refine sX10_numberNow_4 (fun hbr => ?_) (fun hbr => ?_)
  · replace e := am_pos hbr e
    refine (sX10_numberNow_9 rfl (sX10_numberNow_10 (hL.1 _ _ rfl) (sX10_numberNow_13 ?_)))
    refine sX10_numberNow_14 (fun hbr => ?_) (fun hbr => ?_)
    · replace e := am_pos hbr e
      refine (sX10_numberNow_25 rfl (sX10_numberNow_26 (hL.1 _ _ rfl) (sX10_numberNow_29 rfl (sX10_numberNow_30 (hL.1 _ _ rfl) (sX10_numberNow_33 (sX10_numberNow_34 ?_))))))
      refine sX10_numberNow_35 (fun hbr => ?_) (fun hbr => ?_)
      · replace e := am_pos hbr e
        exact j_X10_numberNow_54 hL e h
      · replace e := am_neg hbr e
        refine (sX10_numberNow_38 rfl (sX10_numberNow_39 (hL.1 _ _ rfl) (sX10_numberNow_42 ?_)))
        refine sX10_numberNow_43 (fun hbr => ?_) (fun hbr => ?_)
        · replace e := am_pos hbr e
          exact j_X10_numberNow_54 hL e h
        · replace e := am_neg hbr e
          refine (sX10_numberNow_46 rfl (sX10_numberNow_47 (hL.1 _ _ rfl) (sX10_numberNow_50 ?_)))
          refine sX10_numberNow_51 (fun hbr => ?_) (fun hbr => ?_)
          · replace e := am_pos hbr e
            exact j_X10_numberNow_59 hL e h
          · replace e := am_neg hbr e
            exact j_X10_numberNow_54 hL e h
    · replace e := am_neg hbr e
      replace e := am_o1_i e; obtain ⟨w2, e2, e⟩ := e
      refine (sX10_numberNow_17 rfl (sX10_numberNow_18 (sX10_numberNow_19 (hL.1 _ _ rfl) (Nat.le_of_ble_eq_true rfl) (R_X10_wrong hL (h := (sX10_numberNow_22 ?_)) (hd := (Nat.le_of_ble_eq_true rfl)) (e := e2)))))
      exact j_X10_numberNow_59 hL e h
  · replace e := am_neg hbr e
    refine (sX10_numberNow_7 (sX10_numberNow_8 ?_))
    obtain rfl := Option.some.inj e
    exact h
theorem R_X10_numberNow {E : am_E} {S : am_S} {Q : am_O → am_S → am_I → Prop} (hL : am_Lay S) {i1 i2 : Int32} {iv : am_I} {v' : Int32} {iv' : am_I} (e : F_X10_numberNow i1 i2 iv = some (v', iv')) (h : Q (.inl (some (.int v'))) S iv') {d : Nat} (hd : 1 ≤ d) : am_M E d mX10_numberNow 0 0 [.ref 54, .int i1, .int i2] S iv Q :=
  YR_X10_numberNow hL e h hd
def F_X10_readNumber (i1 : Int32) (i2 : Int32) (iv : am_I) : Option (Int32 × am_I) :=
  (am_o2 (F_X10_numberNow i1 i2 iv) fun v1 w1 => (if (w1 54 25) = 0 then (am_o1 (F_X10_stepOn  w1) fun w2 => some (v1, w2)) else some (v1, w1)))
theorem YR_X10_readNumber {E : am_E} {S : am_S} {Q : am_O → am_S → am_I → Prop} (hL : am_Lay S) {i1 i2 : Int32} {iv : am_I} {y : Int32 × am_I} (e : F_X10_readNumber i1 i2 iv = some y) (h : Q (.inl (some (.int y.1))) S y.2) {d : Nat} (hd : 2 ≤ d) : am_M E d mX10_readNumber 0 0 [.ref 54, .int i1, .int i2] S iv Q := by
  refine am_enter (js := [.double 0]) rfl pn_X10 rfl rfl rfl (Nat.le_of_ble_eq_true rfl) (am_R.deep ?_ hd)
  replace e := am_o2_i e; obtain ⟨v1, w1, e1, e⟩ := e
  refine (sX10_readNumber_0 rfl (sX10_readNumber_1 (sX10_readNumber_2 (sX10_readNumber_3 (hL.1 _ _ rfl) (Nat.le_of_ble_eq_true rfl) (R_X10_numberNow hL (h := (sX10_readNumber_6 (sX10_readNumber_7 rfl (sX10_readNumber_8 (hL.1 _ _ rfl) ?_)))) (hd := (Nat.le_of_ble_eq_true rfl)) (e := e1))))))
  refine sX10_readNumber_11 (fun hbr => ?_) (fun hbr => ?_)
  · replace e := am_neg hbr e
    refine (sX10_readNumber_18 (sX10_readNumber_19 ?_))
    obtain rfl := Option.some.inj e
    exact h
  · replace e := am_pos hbr e
    replace e := am_o1_i e; obtain ⟨w2, e2, e⟩ := e
    refine (sX10_readNumber_14 rfl (sX10_readNumber_15 (hL.1 _ _ rfl) (Nat.le_of_ble_eq_true rfl) (R_X10_stepOn hL (h := (sX10_readNumber_18 (sX10_readNumber_19 ?_))) (hd := (Nat.le_of_ble_eq_true rfl)) (e := e2))))
    obtain rfl := Option.some.inj e
    exact h
theorem R_X10_readNumber {E : am_E} {S : am_S} {Q : am_O → am_S → am_I → Prop} (hL : am_Lay S) {i1 i2 : Int32} {iv : am_I} {v' : Int32} {iv' : am_I} (e : F_X10_readNumber i1 i2 iv = some (v', iv')) (h : Q (.inl (some (.int v'))) S iv') {d : Nat} (hd : 2 ≤ d) : am_M E d mX10_readNumber 0 0 [.ref 54, .int i1, .int i2] S iv Q :=
  YR_X10_readNumber hL e h hd
def F_X10_lay (i1 : Int32) (iv : am_I) : Option (am_I) :=
  (if (iv 54 25) = 0 then (if vp_b ((700 : Int32) + (iv 54 28)) 1400 then some (am_w (am_w iv 69 ((700 : Int32) + (iv 54 28)).toNatClampNeg i1) 54 28 (((am_w iv 69 ((700 : Int32) + (iv 54 28)).toNatClampNeg i1) 54 28) + (1 : Int32))) else none) else some iv)
theorem R_X10_lay {E : am_E} {S : am_S} {Q : am_O → am_S → am_I → Prop} (hL : am_Lay S) {i1 : Int32} {iv : am_I} {y : am_I} (e : F_X10_lay i1 iv = some y) (h : Q (.inl none) S y) {d : Nat} (hd : 0 ≤ d) : am_M E d mX10_lay 0 0 [.ref 54, .int i1] S iv Q := by
  refine am_enter (js := []) rfl pn_X10 rfl rfl rfl (Nat.le_of_ble_eq_true rfl) (am_R.deep ?_ hd)
  refine (sX10_lay_0 rfl (sX10_lay_1 (hL.1 _ _ rfl) ?_))
  refine sX10_lay_4 (fun hbr => ?_) (fun hbr => ?_)
  · replace e := am_pos hbr e
    replace e := am_ckv e; obtain ⟨c1, e⟩ := e
    refine (sX10_lay_8 rfl (sX10_lay_9 (hL.1 _ _ rfl) (hL.2.1 _ _ _ rfl) (sX10_lay_12 (sX10_lay_15 rfl (sX10_lay_16 (hL.1 _ _ rfl) (sX10_lay_19 (sX10_lay_20 (sX10_lay_21 (hL.1 _ _ rfl) c1 (sX10_lay_22 rfl (sX10_lay_23 rfl (sX10_lay_24 (hL.1 _ _ rfl) (sX10_lay_27 (sX10_lay_28 (sX10_lay_29 (hL.1 _ _ rfl) (sX10_lay_32 ?_)))))))))))))))
    obtain rfl := Option.some.inj e
    exact h
  · replace e := am_neg hbr e
    refine (sX10_lay_7 ?_)
    obtain rfl := Option.some.inj e
    exact h
