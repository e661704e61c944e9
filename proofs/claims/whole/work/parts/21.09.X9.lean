/-! functions of the methods, and their rows (by program) -/
def B_X9_append_2 (w : Nat) (i1 : Int32) (i2 : Int32) (iv : am_I) : Option ((Int32 × am_I) ⊕ (am_I)) :=
  (if (4 : Int32) ≤ i2 then some (.inr iv) else (if (Int32.ofNat 700) ≤ (iv 0 1) then some (.inr iv) else (if vp_b (iv 0 1) 700 then (if (((i1.toUInt32 >>> (((24 : Int32) - ((8 : Int32) * i2)).toUInt32 &&& Int32.toUInt32 31)).toInt32).toInt8.toInt32).toInt8.toInt32 = (((i1.toUInt32 >>> (((24 : Int32) - ((8 : Int32) * i2)).toUInt32 &&& Int32.toUInt32 31)).toInt32).toInt8.toInt32) then some (.inl ((i2 + 1), (am_w (am_w iv 1 (iv 0 1).toNatClampNeg (((i1.toUInt32 >>> (((24 : Int32) - ((8 : Int32) * i2)).toUInt32 &&& Int32.toUInt32 31)).toInt32).toInt8.toInt32)) 0 1 (((am_w iv 1 (iv 0 1).toNatClampNeg (((i1.toUInt32 >>> (((24 : Int32) - ((8 : Int32) * i2)).toUInt32 &&& Int32.toUInt32 31)).toInt32).toInt8.toInt32)) 0 1) + (1 : Int32))))) else none) else none)))
theorem b_X9_append_2 {E : am_E} {S : am_S} {Q : am_O → am_S → am_I → Prop} {w : Nat} (hL : am_Lay S) (hw : w = 2 ∨ w = 22) (h9 : S.2.1 0 3 = some w) {i1 i2 : Int32} {iv : am_I} {y : (Int32 × am_I) ⊕ (am_I)} (e : B_X9_append_2 w i1 i2 iv = some y) (hc : ∀ s, y = .inl s → am_R E 0 mX9_append 0 0 2 [.ref 0, .int i1, .int s.1] [] S s.2 Q) (hx : ∀ a, y = .inr a → ∀ z0 z1 z2 : Value, am_R E 0 mX9_append 0 0 54 [z0, z1, z2] [] S a Q) : am_R E 0 mX9_append 0 0 2 [.ref 0, .int i1, .int i2] [] S iv Q := by
  refine (sX9_append_2 (sX9_append_3 ?_))
  refine sX9_append_4 (fun hbr => ?_) (fun hbr => ?_)
  · replace e := am_pos hbr e
    exact hx _ (Option.some.inj e).symm _ _ _
  · replace e := am_neg hbr e
    refine (sX9_append_7 rfl (sX9_append_8 (hL.1 _ _ rfl) (sX9_append_11 rfl (sX9_append_12 (hL.1 _ _ rfl) (hL.2.1 _ _ _ rfl) (sX9_append_15 (hL.1 _ _ rfl) rfl ?_)))))
    refine sX9_append_16 (fun hbr => ?_) (fun hbr => ?_)
    · replace e := am_pos hbr e
      exact hx _ (Option.some.inj e).symm _ _ _
    · replace e := am_neg hbr e
      replace e := am_ckv e; obtain ⟨c1, e⟩ := e
      replace e := am_ck e; obtain ⟨c2, e⟩ := e
      refine (sX9_append_19 rfl (sX9_append_20 (hL.1 _ _ rfl) (hL.2.1 _ _ _ rfl) (sX9_append_23 rfl (sX9_append_24 (hL.1 _ _ rfl) (sX9_append_27 (sX9_append_28 (sX9_append_30 (sX9_append_32 (sX9_append_33 (sX9_append_34 (sX9_append_35 (sX9_append_36 (sX9_append_37 (hL.1 _ _ rfl) c1 c2 (sX9_append_38 rfl (sX9_append_39 rfl (sX9_append_40 (hL.1 _ _ rfl) (sX9_append_43 (sX9_append_44 (sX9_append_45 (hL.1 _ _ rfl) (sX9_append_48 (sX9_append_51 ?_)))))))))))))))))))))
      exact hc _ (Option.some.inj e).symm
theorem l_X9_append_2 {E : am_E} {S : am_S} {Q : am_O → am_S → am_I → Prop} {w : Nat} (hL : am_Lay S) (hw : w = 2 ∨ w = 22) (h9 : S.2.1 0 3 = some w) {i1 : Int32} (s : (Int32 × am_I)) {x : (am_I)} (e : am_loop (fun s : (Int32 × am_I) => B_X9_append_2 w i1 s.1 s.2) s = some x) (hx : ∀ z0 z1 z2 : Value, am_R E 0 mX9_append 0 0 54 [z0, z1, z2] [] S x Q) : am_R E 0 mX9_append 0 0 2 [.ref 0, .int i1, .int s.1] [] S s.2 Q :=
  am_wh_sound (f := fun s : (Int32 × am_I) => B_X9_append_2 w i1 s.1 s.2) (P := fun s => am_R E 0 mX9_append 0 0 2 [.ref 0, .int i1, .int s.1] [] S s.2 Q) (K := fun x => ∀ z0 z1 z2 : Value, am_R E 0 mX9_append 0 0 54 [z0, z1, z2] [] S x Q) (fun s y e hc hkk => b_X9_append_2 hL hw h9 e hc (fun a hy => hkk a hy)) am_fu s x e hx
def F_X9_append (w : Nat) (i1 : Int32) (iv : am_I) : Option (am_I) :=
  (am_o1 (am_loop (fun s : (Int32 × am_I) => B_X9_append_2 w i1 s.1 s.2) ((0 : Int32), iv)) fun a3 => some a3)
theorem R_X9_append {E : am_E} {S : am_S} {Q : am_O → am_S → am_I → Prop} {w : Nat} (hL : am_Lay S) (hw : w = 2 ∨ w = 22) (h9 : S.2.1 0 3 = some w) {i1 : Int32} {iv : am_I} {y : am_I} (e : F_X9_append w i1 iv = some y) (h : Q (.inl none) S y) {d : Nat} (hd : 0 ≤ d) : am_M E d mX9_append 0 0 [.ref 0, .int i1] S iv Q := by
  refine am_enter (js := [.double 0]) rfl pn_X9 rfl rfl rfl (Nat.le_of_ble_eq_true rfl) (am_R.deep ?_ hd)
  refine (sX9_append_0 (sX9_append_1 ?_))
  replace e := am_o1_i e; obtain ⟨a3, e3, e⟩ := e
  refine l_X9_append_2 hL hw h9 _ e3 ?_
  intro z0 z1 z2
  refine (sX9_append_54 ?_)
  obtain rfl := Option.some.inj e
  exact h
def F_X9_feed (w : Nat) (i1 : Int32) (i2 : Int32) (i3 : Int32) (i4 : Int32) (i5 : Int32) (iv : am_I) : Option (Int32 × am_I) :=
  (if ((iv 0 1) + (20 : Int32)) ≤ (700 : Int32) then (am_o1 (F_X9_append w i1 iv) fun w1 => (am_o1 (F_X9_append w i2 w1) fun w2 => (am_o1 (F_X9_append w i3 w2) fun w3 => (am_o1 (F_X9_append w i4 w3) fun w4 => (am_o1 (F_X9_append w i5 w4) fun w5 => some ((w5 0 1), w5)))))) else some ((-1 : Int32), iv))
theorem YR_X9_feed {E : am_E} {S : am_S} {Q : am_O → am_S → am_I → Prop} {w : Nat} (hL : am_Lay S) (hw : w = 2 ∨ w = 22) (h9 : S.2.1 0 3 = some w) {i1 i2 i3 i4 i5 : Int32} {iv : am_I} {y : Int32 × am_I} (e : F_X9_feed w i1 i2 i3 i4 i5 iv = some y) (h : Q (.inl (some (.int y.1))) S y.2) {d : Nat} (hd : 1 ≤ d) : am_M E d mX9_feed 0 0 [.ref 0, .int i1, .int i2, .int i3, .int i4, .int i5] S iv Q := by
  refine am_enter (js := []) rfl pn_X9 rfl rfl rfl (Nat.le_of_ble_eq_true rfl) (am_R.deep ?_ hd)
  refine (sX9_feed_0 rfl (sX9_feed_1 (hL.1 _ _ rfl) (sX9_feed_4 (sX9_feed_6 (sX9_feed_7 ?_)))))
  refine sX9_feed_10 (fun hbr => ?_) (fun hbr => ?_)
  · replace e := am_pos hbr e
    replace e := am_o1_i e; obtain ⟨w1, e1, e⟩ := e
    replace e := am_o1_i e; obtain ⟨w2, e2, e⟩ := e
    replace e := am_o1_i e; obtain ⟨w3, e3, e⟩ := e
    replace e := am_o1_i e; obtain ⟨w4, e4, e⟩ := e
    replace e := am_o1_i e; obtain ⟨w5, e5, e⟩ := e
    refine (sX9_feed_15 rfl (sX9_feed_16 (sX9_feed_17 (hL.1 _ _ rfl) (Nat.le_of_ble_eq_true rfl) (R_X9_append hL hw h9 (h := (sX9_feed_20 rfl (sX9_feed_21 (sX9_feed_22 (hL.1 _ _ rfl) (Nat.le_of_ble_eq_true rfl) (R_X9_append hL hw h9 (h := (sX9_feed_25 rfl (sX9_feed_26 (sX9_feed_27 (hL.1 _ _ rfl) (Nat.le_of_ble_eq_true rfl) (R_X9_append hL hw h9 (h := (sX9_feed_30 rfl (sX9_feed_31 (sX9_feed_33 (hL.1 _ _ rfl) (Nat.le_of_ble_eq_true rfl) (R_X9_append hL hw h9 (h := (sX9_feed_36 rfl (sX9_feed_37 (sX9_feed_39 (hL.1 _ _ rfl) (Nat.le_of_ble_eq_true rfl) (R_X9_append hL hw h9 (h := (sX9_feed_42 rfl (sX9_feed_43 (hL.1 _ _ rfl) (sX9_feed_46 ?_)))) (hd := (Nat.le_of_ble_eq_true rfl)) (e := e5)))))) (hd := (Nat.le_of_ble_eq_true rfl)) (e := e4)))))) (hd := (Nat.le_of_ble_eq_true rfl)) (e := e3)))))) (hd := (Nat.le_of_ble_eq_true rfl)) (e := e2)))))) (hd := (Nat.le_of_ble_eq_true rfl)) (e := e1)))))
    obtain rfl := Option.some.inj e
    exact h
  · replace e := am_neg hbr e
    refine (sX9_feed_13 (sX9_feed_14 ?_))
    obtain rfl := Option.some.inj e
    exact h
theorem R_X9_feed {E : am_E} {S : am_S} {Q : am_O → am_S → am_I → Prop} {w : Nat} (hL : am_Lay S) (hw : w = 2 ∨ w = 22) (h9 : S.2.1 0 3 = some w) {i1 i2 i3 i4 i5 : Int32} {iv : am_I} {v' : Int32} {iv' : am_I} (e : F_X9_feed w i1 i2 i3 i4 i5 iv = some (v', iv')) (h : Q (.inl (some (.int v'))) S iv') {d : Nat} (hd : 1 ≤ d) : am_M E d mX9_feed 0 0 [.ref 0, .int i1, .int i2, .int i3, .int i4, .int i5] S iv Q :=
  YR_X9_feed hL hw h9 e h hd
def F_X9_fault (w : Nat) (iv : am_I) : Option (Int32) :=
  some (iv 0 2)
theorem R_X9_fault {E : am_E} {S : am_S} {Q : am_O → am_S → am_I → Prop} {w : Nat} (hL : am_Lay S) (hw : w = 2 ∨ w = 22) (h9 : S.2.1 0 3 = some w) {iv : am_I} {y : Int32} (e : F_X9_fault w  iv = some y) (h : Q (.inl (some (.int y))) S iv) {d : Nat} (hd : 0 ≤ d) : am_M E d mX9_fault 0 0 [.ref 0] S iv Q := by
  refine am_enter (js := []) rfl pn_X9 rfl rfl rfl (Nat.le_of_ble_eq_true rfl) (am_R.deep ?_ hd)
  refine (sX9_fault_0 rfl (sX9_fault_1 (hL.1 _ _ rfl) (sX9_fault_4 ?_)))
  obtain rfl := Option.some.inj e
  exact h
def F_X9_isDrawer (w : Nat) (i1 : Int32) (iv : am_I) : Option (Int32) :=
  (if i1 < 0 then some (0 : Int32) else (if (iv (w + 1) 0) ≤ i1 then some (0 : Int32) else some (1 : Int32)))
theorem R_X9_isDrawer {E : am_E} {S : am_S} {Q : am_O → am_S → am_I → Prop} {w : Nat} (hL : am_Lay S) (hw : w = 2 ∨ w = 22) (h9 : S.2.1 0 3 = some w) {i1 : Int32} {iv : am_I} {y : Int32} (e : F_X9_isDrawer w i1 iv = some y) (h : Q (.inl (some (.int y))) S iv) {d : Nat} (hd : 0 ≤ d) : am_M E d mX9_isDrawer 0 0 [.ref 0, .int i1] S iv Q := by
  refine am_enter (js := []) rfl pn_X9 rfl rfl rfl (Nat.le_of_ble_eq_true rfl) (am_R.deep ?_ hd)
  refine (sX9_isDrawer_0 ?_)
  refine sX9_isDrawer_1 (fun hbr => ?_) (fun hbr => ?_)
  · replace e := am_pos hbr e
    refine (sX9_isDrawer_22 (sX9_isDrawer_23 rfl ?_))
    obtain rfl := Option.some.inj e
    exact h
  · replace e := am_neg hbr e
    refine (sX9_isDrawer_4 (sX9_isDrawer_5 rfl (sX9_isDrawer_6 (hL.1 _ _ rfl) h9 (sX9_isDrawer_9 (kW_0 hL hw) (rW_0_7 hL hw) (sX9_isDrawer_12 (kW_1 hL hw) ?_)))))
    refine sX9_isDrawer_15 (fun hbr => ?_) (fun hbr => ?_)
    · replace e := am_pos hbr e
      refine (sX9_isDrawer_22 (sX9_isDrawer_23 rfl ?_))
      obtain rfl := Option.some.inj e
      exact h
    · replace e := am_neg hbr e
      refine (sX9_isDrawer_18 (sX9_isDrawer_19 (sX9_isDrawer_23 rfl ?_)))
      obtain rfl := Option.some.inj e
      exact h
def F_X9_demandDrawer (w : Nat) (i1 : Int32) (iv : am_I) : Option (Option (Unit)) :=
  (am_o1 (F_X9_isDrawer w i1 iv) fun v1 => (if v1 = 0 then some none else some (some ())))
theorem R_X9_demandDrawer {E : am_E} {S : am_S} {Q : am_O → am_S → am_I → Prop} {w : Nat} (hL : am_Lay S) (hw : w = 2 ∨ w = 22) (h9 : S.2.1 0 3 = some w) {i1 : Int32} {iv : am_I} {y : Option (Unit)} (e : F_X9_demandDrawer w i1 iv = some y) (h : am_qt (fun _ => Q (.inl none) S iv) (∀ nx, S.2.2.2 ≤ nx → Q (.inr "java/util/NoSuchElementException") (S.1, S.2.1, S.2.2.1, nx) iv) y) {d : Nat} (hd : 7 ≤ d) : am_M E d mX9_demandDrawer 1 6 [.ref 0, .int i1] S iv Q := by
  refine am_enter (js := []) rfl pn_X9 rfl rfl rfl (Nat.le_of_ble_eq_true rfl) (am_R.deep ?_ hd)
  replace e := am_o1_i e; obtain ⟨v1, e1, e⟩ := e
  refine (sX9_demandDrawer_0 rfl (sX9_demandDrawer_1 (sX9_demandDrawer_2 (hL.1 _ _ rfl) (Nat.le_of_ble_eq_true rfl) (R_X9_isDrawer hL hw h9 (h := ?_) (hd := (Nat.le_of_ble_eq_true rfl)) (e := e1)))))
  refine sX9_demandDrawer_5 (fun hbr => ?_) (fun hbr => ?_)
  · replace e := am_neg hbr e
    refine (sX9_demandDrawer_18 ?_)
    obtain rfl := Option.some.inj e
    exact h
  · replace e := am_pos hbr e
    refine (sX9_demandDrawer_8 (Nat.le_of_ble_eq_true rfl) (fun nx hnx => ?_))
    obtain rfl := Option.some.inj e
    exact h nx hnx
def F_X9_demandPerson (w : Nat) (i1 : Int32) (iv : am_I) : Option (Option (Unit)) :=
  (if i1 < 0 then some none else (if i1 < (iv (w + 10) 0) then some (some ()) else some none))
theorem R_X9_demandPerson {E : am_E} {S : am_S} {Q : am_O → am_S → am_I → Prop} {w : Nat} (hL : am_Lay S) (hw : w = 2 ∨ w = 22) (h9 : S.2.1 0 3 = some w) {i1 : Int32} {iv : am_I} {y : Option (Unit)} (e : F_X9_demandPerson w i1 iv = some y) (h : am_qt (fun _ => Q (.inl none) S iv) (∀ nx, S.2.2.2 ≤ nx → Q (.inr "java/util/NoSuchElementException") (S.1, S.2.1, S.2.2.1, nx) iv) y) {d : Nat} (hd : 7 ≤ d) : am_M E d mX9_demandPerson 1 6 [.ref 0, .int i1] S iv Q := by
  refine am_enter (js := []) rfl pn_X9 rfl rfl rfl (Nat.le_of_ble_eq_true rfl) (am_R.deep ?_ hd)
  refine (sX9_demandPerson_0 ?_)
  refine sX9_demandPerson_1 (fun hbr => ?_) (fun hbr => ?_)
  · replace e := am_pos hbr e
    refine (sX9_demandPerson_18 (Nat.le_of_ble_eq_true rfl) (fun nx hnx => ?_))
    obtain rfl := Option.some.inj e
    exact h nx hnx
  · replace e := am_neg hbr e
    refine (sX9_demandPerson_4 (sX9_demandPerson_5 rfl (sX9_demandPerson_6 (hL.1 _ _ rfl) h9 (sX9_demandPerson_9 (kW_0 hL hw) (rW_0_8 hL hw) (sX9_demandPerson_12 (kW_10 hL hw) ?_)))))
    refine sX9_demandPerson_15 (fun hbr => ?_) (fun hbr => ?_)
    · replace e := am_pos hbr e
      refine (sX9_demandPerson_28 ?_)
      obtain rfl := Option.some.inj e
      exact h
    · replace e := am_neg hbr e
      refine (sX9_demandPerson_18 (Nat.le_of_ble_eq_true rfl) (fun nx hnx => ?_))
      obtain rfl := Option.some.inj e
      exact h nx hnx
def F_X9_demandSet (w : Nat) (i1 : Int32) (iv : am_I) : Option (Option (Unit)) :=
  (am_o1 (F_X2_all w  iv) fun v1 => (if (i1 &&& (v1 ^^^ (-1 : Int32))) = 0 then some (some ()) else some none))
theorem R_X9_demandSet {E : am_E} {S : am_S} {Q : am_O → am_S → am_I → Prop} {w : Nat} (hL : am_Lay S) (hw : w = 2 ∨ w = 22) (h9 : S.2.1 0 3 = some w) {i1 : Int32} {iv : am_I} {y : Option (Unit)} (e : F_X9_demandSet w i1 iv = some y) (h : am_qt (fun _ => Q (.inl none) S iv) (∀ nx, S.2.2.2 ≤ nx → Q (.inr "java/lang/IllegalArgumentException") (S.1, S.2.1, S.2.2.1, nx) iv) y) {d : Nat} (hd : 7 ≤ d) : am_M E d mX9_demandSet 1 6 [.ref 0, .int i1] S iv Q := by
  refine am_enter (js := []) rfl pn_X9 rfl rfl rfl (Nat.le_of_ble_eq_true rfl) (am_R.deep ?_ hd)
  replace e := am_o1_i e; obtain ⟨v1, e1, e⟩ := e
  refine (sX9_demandSet_0 (sX9_demandSet_1 rfl (sX9_demandSet_2 (hL.1 _ _ rfl) h9 (sX9_demandSet_5 (kW_0 hL hw) (rW_0_7 hL hw) (sX9_demandSet_8 (kW_1 hL hw) (Nat.le_of_ble_eq_true rfl) (R_X2_all hL hw (h := (sX9_demandSet_11 (sX9_demandSet_12 (sX9_demandSet_13 ?_)))) (hd := (Nat.le_of_ble_eq_true rfl)) (e := e1)))))))
  refine sX9_demandSet_14 (fun hbr => ?_) (fun hbr => ?_)
  · replace e := am_pos hbr e
    refine (sX9_demandSet_27 ?_)
    obtain rfl := Option.some.inj e
    exact h
  · replace e := am_neg hbr e
    refine (sX9_demandSet_17 (Nat.le_of_ble_eq_true rfl) (fun nx hnx => ?_))
    obtain rfl := Option.some.inj e
    exact h nx hnx
def F_X9_troubleOf (w : Nat) (i1 : Int32) (iv : am_I) : Option (Int32 × am_I) :=
  (am_o1 (F_X9_isDrawer w i1 iv) fun v1 => (if v1 = 0 then some ((1 : Int32), iv) else (if ((iv 42 1) &&& ((1 : Int32) <<< (i1 &&& 31))) = 0 then (am_o2 (F_X0_reachedBy w (iv 42 0) iv) fun v2 w2 => (if (v2 &&& ((1 : Int32) <<< (i1 &&& 31))) = 0 then some ((3 : Int32), w2) else (am_o2 (F_X0_canBe w ((w2 42 0) ^^^ ((1 : Int32) <<< (i1 &&& 31))) w2) fun v3 w3 => (if v3 = 0 then some ((4 : Int32), w3) else (if (w3 42 3) < (100 : Int32) then some ((0 : Int32), w3) else some ((5 : Int32), w3)))))) else some ((2 : Int32), iv))))
theorem YR_X9_troubleOf {E : am_E} {S : am_S} {Q : am_O → am_S → am_I → Prop} {w : Nat} (hL : am_Lay S) (hw : w = 2 ∨ w = 22) (h9 : S.2.1 0 3 = some w) {i1 : Int32} {iv : am_I} {y : Int32 × am_I} (e : F_X9_troubleOf w i1 iv = some y) (h : Q (.inl (some (.int y.1))) S y.2) {d : Nat} (hd : 5 ≤ d) : am_M E d mX9_troubleOf 0 0 [.ref 0, .int i1] S iv Q := by
  refine am_enter (js := [.double 0]) rfl pn_X9 rfl rfl rfl (Nat.le_of_ble_eq_true rfl) (am_R.deep ?_ hd)
  replace e := am_o1_i e; obtain ⟨v1, e1, e⟩ := e
  refine (sX9_troubleOf_0 rfl (sX9_troubleOf_1 (sX9_troubleOf_2 (hL.1 _ _ rfl) (Nat.le_of_ble_eq_true rfl) (R_X9_isDrawer hL hw h9 (h := ?_) (hd := (Nat.le_of_ble_eq_true rfl)) (e := e1)))))
  refine sX9_troubleOf_5 (fun hbr => ?_) (fun hbr => ?_)
  · replace e := am_neg hbr e
    refine (sX9_troubleOf_10 (sX9_troubleOf_11 (sX9_troubleOf_12 (sX9_troubleOf_13 (sX9_troubleOf_14 rfl (sX9_troubleOf_15 (hL.1 _ _ rfl) (hL.2.1 _ _ _ rfl) (sX9_troubleOf_18 (hL.1 _ _ rfl) (sX9_troubleOf_21 (sX9_troubleOf_22 ?_)))))))))
    refine sX9_troubleOf_23 (fun hbr => ?_) (fun hbr => ?_)
    · replace e := am_pos hbr e
      replace e := am_o2_i e; obtain ⟨v2, w2, e2, e⟩ := e
      refine (sX9_troubleOf_28 rfl (sX9_troubleOf_29 (hL.1 _ _ rfl) h9 (sX9_troubleOf_32 rfl (sX9_troubleOf_33 (hL.1 _ _ rfl) (hL.2.1 _ _ _ rfl) (sX9_troubleOf_36 (hL.1 _ _ rfl) (sX9_troubleOf_39 (kW_0 hL hw) (Nat.le_of_ble_eq_true rfl) (R_X0_reachedBy hL hw (h := (sX9_troubleOf_42 (sX9_troubleOf_43 ?_))) (hd := (Nat.le_of_ble_eq_true rfl)) (e := e2))))))))
      refine sX9_troubleOf_44 (fun hbr => ?_) (fun hbr => ?_)
      · replace e := am_neg hbr e
        replace e := am_o2_i e; obtain ⟨v3, w3, e3, e⟩ := e
        refine (sX9_troubleOf_49 rfl (sX9_troubleOf_50 (hL.1 _ _ rfl) h9 (sX9_troubleOf_53 rfl (sX9_troubleOf_54 (hL.1 _ _ rfl) (hL.2.1 _ _ _ rfl) (sX9_troubleOf_57 (hL.1 _ _ rfl) (sX9_troubleOf_60 (sX9_troubleOf_61 (sX9_troubleOf_62 (kW_0 hL hw) (Nat.le_of_ble_eq_true rfl) (R_X0_canBe hL hw (h := ?_) (hd := (Nat.le_of_ble_eq_true rfl)) (e := e3))))))))))
        refine sX9_troubleOf_65 (fun hbr => ?_) (fun hbr => ?_)
        · replace e := am_neg hbr e
          refine (sX9_troubleOf_70 rfl (sX9_troubleOf_71 (hL.1 _ _ rfl) (hL.2.1 _ _ _ rfl) (sX9_troubleOf_74 (hL.1 _ _ rfl) (sX9_troubleOf_77 ?_))))
          refine sX9_troubleOf_79 (fun hbr => ?_) (fun hbr => ?_)
          · replace e := am_pos hbr e
            refine (sX9_troubleOf_86 (sX9_troubleOf_87 ?_))
            obtain rfl := Option.some.inj e
            exact h
          · replace e := am_neg hbr e
            refine (sX9_troubleOf_82 (sX9_troubleOf_83 (sX9_troubleOf_87 ?_)))
            obtain rfl := Option.some.inj e
            exact h
        · replace e := am_pos hbr e
          refine (sX9_troubleOf_68 (sX9_troubleOf_69 ?_))
          obtain rfl := Option.some.inj e
          exact h
      · replace e := am_pos hbr e
        refine (sX9_troubleOf_47 (sX9_troubleOf_48 ?_))
        obtain rfl := Option.some.inj e
        exact h
    · replace e := am_neg hbr e
      refine (sX9_troubleOf_26 (sX9_troubleOf_27 ?_))
      obtain rfl := Option.some.inj e
      exact h
  · replace e := am_pos hbr e
    refine (sX9_troubleOf_8 (sX9_troubleOf_9 ?_))
    obtain rfl := Option.some.inj e
    exact h
theorem R_X9_troubleOf {E : am_E} {S : am_S} {Q : am_O → am_S → am_I → Prop} {w : Nat} (hL : am_Lay S) (hw : w = 2 ∨ w = 22) (h9 : S.2.1 0 3 = some w) {i1 : Int32} {iv : am_I} {v' : Int32} {iv' : am_I} (e : F_X9_troubleOf w i1 iv = some (v', iv')) (h : Q (.inl (some (.int v'))) S iv') {d : Nat} (hd : 5 ≤ d) : am_M E d mX9_troubleOf 0 0 [.ref 0, .int i1] S iv Q :=
  YR_X9_troubleOf hL hw h9 e h hd
def F_X9_move (w : Nat) (i1 : Int32) (iv : am_I) : Option (Int32 × am_I) :=
  (am_o2 (F_X9_troubleOf w i1 iv) fun v1 w1 => (if v1 = 0 then (am_o2 (F_X0_fedBy w ((w1 42 0) ^^^ ((1 : Int32) <<< (i1 &&& 31))) w1) fun v2 w2 => (am_o1 (F_X7_doMove 42 i1 v2 w2) fun w3 => some (v1, w3))) else some (v1, (am_w w1 42 5 ((w1 42 5) + (1 : Int32))))))
theorem YR_X9_move {E : am_E} {S : am_S} {Q : am_O → am_S → am_I → Prop} {w : Nat} (hL : am_Lay S) (hw : w = 2 ∨ w = 22) (h9 : S.2.1 0 3 = some w) {i1 : Int32} {iv : am_I} {y : Int32 × am_I} (e : F_X9_move w i1 iv = some y) (h : Q (.inl (some (.int y.1))) S y.2) {d : Nat} (hd : 6 ≤ d) : am_M E d mX9_move 0 0 [.ref 0, .int i1] S iv Q := by
  refine am_enter (js := [.double 0, .double 0]) rfl pn_X9 rfl rfl rfl (Nat.le_of_ble_eq_true rfl) (am_R.deep ?_ hd)
  replace e := am_o2_i e; obtain ⟨v1, w1, e1, e⟩ := e
  refine (sX9_move_0 rfl (sX9_move_1 (sX9_move_2 (hL.1 _ _ rfl) (Nat.le_of_ble_eq_true rfl) (R_X9_troubleOf hL hw h9 (h := (sX9_move_5 (sX9_move_6 ?_))) (hd := (Nat.le_of_ble_eq_true rfl)) (e := e1)))))
  refine sX9_move_7 (fun hbr => ?_) (fun hbr => ?_)
  · replace e := am_neg hbr e
    refine (sX9_move_41 rfl (sX9_move_42 (hL.1 _ _ rfl) (hL.2.1 _ _ _ rfl) (sX9_move_45 rfl (sX9_move_46 (hL.1 _ _ rfl) (sX9_move_49 (sX9_move_50 (sX9_move_51 (hL.1 _ _ rfl) (sX9_move_54 (sX9_move_55 ?_)))))))))
    obtain rfl := Option.some.inj e
    exact h
  · replace e := am_pos hbr e
    replace e := am_o2_i e; obtain ⟨v2, w2, e2, e⟩ := e
    replace e := am_o1_i e; obtain ⟨w3, e3, e⟩ := e
    refine (sX9_move_10 rfl (sX9_move_11 (hL.1 _ _ rfl) (hL.2.1 _ _ _ rfl) (sX9_move_14 (hL.1 _ _ rfl) (sX9_move_17 (sX9_move_18 (sX9_move_19 (sX9_move_20 (sX9_move_21 (sX9_move_22 rfl (sX9_move_23 (hL.1 _ _ rfl) (hL.2.1 _ _ _ rfl) (sX9_move_26 (sX9_move_27 rfl (sX9_move_28 (hL.1 _ _ rfl) h9 (sX9_move_31 (sX9_move_32 (kW_0 hL hw) (Nat.le_of_ble_eq_true rfl) (R_X0_fedBy hL hw (h := (sX9_move_35 (hL.1 _ _ rfl) (Nat.le_of_ble_eq_true rfl) (R_X7_doMove hL (by decide) (h := (sX9_move_38 (sX9_move_54 (sX9_move_55 ?_)))) (hd := (Nat.le_of_ble_eq_true rfl)) (e := e3)))) (hd := (Nat.le_of_ble_eq_true rfl)) (e := e2)))))))))))))))))
    obtain rfl := Option.some.inj e
    exact h
theorem R_X9_move {E : am_E} {S : am_S} {Q : am_O → am_S → am_I → Prop} {w : Nat} (hL : am_Lay S) (hw : w = 2 ∨ w = 22) (h9 : S.2.1 0 3 = some w) {i1 : Int32} {iv : am_I} {v' : Int32} {iv' : am_I} (e : F_X9_move w i1 iv = some (v', iv')) (h : Q (.inl (some (.int v'))) S iv') {d : Nat} (hd : 6 ≤ d) : am_M E d mX9_move 0 0 [.ref 0, .int i1] S iv Q :=
  YR_X9_move hL hw h9 e h hd
def F_X9_undo (w : Nat) (iv : am_I) : Option (Int32 × am_I) :=
  (am_o2 (F_X7_undoMove 42  iv) fun v1 w1 => some (v1, w1))
theorem YR_X9_undo {E : am_E} {S : am_S} {Q : am_O → am_S → am_I → Prop} {w : Nat} (hL : am_Lay S) (hw : w = 2 ∨ w = 22) (h9 : S.2.1 0 3 = some w) {iv : am_I} {y : Int32 × am_I} (e : F_X9_undo w  iv = some y) (h : Q (.inl (some (.int y.1))) S y.2) {d : Nat} (hd : 1 ≤ d) : am_M E d mX9_undo 0 0 [.ref 0] S iv Q := by
  refine am_enter (js := []) rfl pn_X9 rfl rfl rfl (Nat.le_of_ble_eq_true rfl) (am_R.deep ?_ hd)
  replace e := am_o2_i e; obtain ⟨v1, w1, e1, e⟩ := e
  refine (sX9_undo_0 rfl (sX9_undo_1 (hL.1 _ _ rfl) (hL.2.1 _ _ _ rfl) (sX9_undo_4 (hL.1 _ _ rfl) (Nat.le_of_ble_eq_true rfl) (R_X7_undoMove hL (by decide) (h := (sX9_undo_7 ?_)) (hd := (Nat.le_of_ble_eq_true rfl)) (e := e1)))))
  obtain rfl := Option.some.inj e
  exact h
theorem R_X9_undo {E : am_E} {S : am_S} {Q : am_O → am_S → am_I → Prop} {w : Nat} (hL : am_Lay S) (hw : w = 2 ∨ w = 22) (h9 : S.2.1 0 3 = some w) {iv : am_I} {v' : Int32} {iv' : am_I} (e : F_X9_undo w  iv = some (v', iv')) (h : Q (.inl (some (.int v'))) S iv') {d : Nat} (hd : 1 ≤ d) : am_M E d mX9_undo 0 0 [.ref 0] S iv Q :=
  YR_X9_undo hL hw h9 e h hd
def B_X9_rent_4 (w : Nat) (iv : am_I) (i1 : Int32) (i2 : Int32) : Option ((Int32 × Int32) ⊕ (Int32)) :=
  (if (iv (w + 1) 0) ≤ i2 then some (.inr i1) else (am_o1 (F_X0_rentOf w i2 iv) fun v1 => some (.inl ((i1 + v1), (i2 + 1)))))
theorem b_X9_rent_4 {E : am_E} {S : am_S} {Q : am_O → am_S → am_I → Prop} {w : Nat} (hL : am_Lay S) (hw : w = 2 ∨ w = 22) (h9 : S.2.1 0 3 = some w) {i1 i2 : Int32} {iv : am_I} {y : (Int32 × Int32) ⊕ (Int32)} (e : B_X9_rent_4 w iv i1 i2 = some y) (hc : ∀ s, y = .inl s → am_R E 2 mX9_rent 0 0 4 [.ref 0, .int s.1, .int s.2] [] S iv Q) (hx : ∀ a, y = .inr a → ∀ z0 z2 : Value, am_R E 2 mX9_rent 0 0 35 [z0, .int a, z2] [] S iv Q) : am_R E 2 mX9_rent 0 0 4 [.ref 0, .int i1, .int i2] [] S iv Q := by
  refine (sX9_rent_4 (sX9_rent_5 rfl (sX9_rent_6 (hL.1 _ _ rfl) h9 (sX9_rent_9 (kW_0 hL hw) (rW_0_7 hL hw) (sX9_rent_12 (kW_1 hL hw) ?_)))))
  refine sX9_rent_15 (fun hbr => ?_) (fun hbr => ?_)
  · replace e := am_pos hbr e
    exact hx _ (Option.some.inj e).symm _ _
  · replace e := am_neg hbr e
    replace e := am_o1_i e; obtain ⟨v1, e1, e⟩ := e
    refine (sX9_rent_18 (sX9_rent_19 rfl (sX9_rent_20 (hL.1 _ _ rfl) h9 (sX9_rent_23 (sX9_rent_24 (kW_0 hL hw) (Nat.le_of_ble_eq_true rfl) (R_X0_rentOf hL hw (h := (sX9_rent_27 (sX9_rent_28 (sX9_rent_29 (sX9_rent_32 ?_))))) (hd := (Nat.le_of_ble_eq_true rfl)) (e := e1)))))))
    exact hc _ (Option.some.inj e).symm
theorem l_X9_rent_4 {E : am_E} {S : am_S} {Q : am_O → am_S → am_I → Prop} {w : Nat} (hL : am_Lay S) (hw : w = 2 ∨ w = 22) (h9 : S.2.1 0 3 = some w) {iv : am_I} (s : (Int32 × Int32)) {x : (Int32)} (e : am_loop (fun s : (Int32 × Int32) => B_X9_rent_4 w iv s.1 s.2) s = some x) (hx : ∀ z0 z2 : Value, am_R E 2 mX9_rent 0 0 35 [z0, .int x, z2] [] S iv Q) : am_R E 2 mX9_rent 0 0 4 [.ref 0, .int s.1, .int s.2] [] S iv Q :=
  am_wh_sound (f := fun s : (Int32 × Int32) => B_X9_rent_4 w iv s.1 s.2) (P := fun s => am_R E 2 mX9_rent 0 0 4 [.ref 0, .int s.1, .int s.2] [] S iv Q) (K := fun x => ∀ z0 z2 : Value, am_R E 2 mX9_rent 0 0 35 [z0, .int x, z2] [] S iv Q) (fun s y e hc hkk => b_X9_rent_4 hL hw h9 e hc (fun a hy => hkk a hy)) am_fu s x e hx
def F_X9_rent (w : Nat) (iv : am_I) : Option (Int32) :=
  (am_o1 (am_loop (fun s : (Int32 × Int32) => B_X9_rent_4 w iv s.1 s.2) ((0 : Int32), (0 : Int32))) fun a2 => some a2)
theorem R_X9_rent {E : am_E} {S : am_S} {Q : am_O → am_S → am_I → Prop} {w : Nat} (hL : am_Lay S) (hw : w = 2 ∨ w = 22) (h9 : S.2.1 0 3 = some w) {iv : am_I} {y : Int32} (e : F_X9_rent w  iv = some y) (h : Q (.inl (some (.int y))) S iv) {d : Nat} (hd : 2 ≤ d) : am_M E d mX9_rent 0 0 [.ref 0] S iv Q := by
  refine am_enter (js := [.double 0, .double 0]) rfl pn_X9 rfl rfl rfl (Nat.le_of_ble_eq_true rfl) (am_R.deep ?_ hd)
  refine (sX9_rent_0 (sX9_rent_1 (sX9_rent_2 (sX9_rent_3 ?_))))
  replace e := am_o1_i e; obtain ⟨a2, e2, e⟩ := e
  refine l_X9_rent_4 hL hw h9 _ e2 ?_
  intro z0 z2
  refine (sX9_rent_35 (sX9_rent_36 ?_))
  obtain rfl := Option.some.inj e
  exact h
def B_X9_slam_34 (w : Nat) (i1 : Int32) (i2 : Int32) (iv : am_I) : Option ((Int32 × am_I) ⊕ (am_I)) :=
  (if (iv (w + 10) 0) ≤ i2 then some (.inr iv) else (if vp_b i2 5 then (if (iv (w + 11) i2.toNatClampNeg) = i1 then (if vp_b i2 5 then (if vp_b i2 5 then some (.inl ((i2 + 1), (am_w iv 43 i2.toNatClampNeg ((iv 43 i2.toNatClampNeg) + (1 : Int32))))) else none) else none) else some (.inl ((i2 + 1), iv))) else none))
theorem b_X9_slam_34 {E : am_E} {S : am_S} {Q : am_O → am_S → am_I → Prop} {w : Nat} (hL : am_Lay S) (hw : w = 2 ∨ w = 22) (h9 : S.2.1 0 3 = some w) {i1 i2 : Int32} {iv : am_I} {y : (Int32 × am_I) ⊕ (am_I)} (e : B_X9_slam_34 w i1 i2 iv = some y) (hc : ∀ s, y = .inl s → am_R E 0 mX9_slam 0 0 34 [.ref 0, .int i1, .int s.1] [] S s.2 Q) (hx : ∀ a, y = .inr a → ∀ z0 z1 z2 : Value, am_R E 0 mX9_slam 0 0 83 [z0, z1, z2] [] S a Q) : am_R E 0 mX9_slam 0 0 34 [.ref 0, .int i1, .int i2] [] S iv Q := by
  refine (sX9_slam_34 (sX9_slam_35 rfl (sX9_slam_36 (hL.1 _ _ rfl) h9 (sX9_slam_39 (kW_0 hL hw) (rW_0_8 hL hw) (sX9_slam_42 (kW_10 hL hw) ?_)))))
  refine sX9_slam_45 (fun hbr => ?_) (fun hbr => ?_)
  · replace e := am_pos hbr e
    exact hx _ (Option.some.inj e).symm _ _ _
  · replace e := am_neg hbr e
    replace e := am_ckv e; obtain ⟨c1, e⟩ := e
    refine (sX9_slam_48 rfl (sX9_slam_49 (hL.1 _ _ rfl) h9 (sX9_slam_52 (kW_0 hL hw) (rW_0_8 hL hw) (sX9_slam_55 (kW_10 hL hw) (rW_10_1 hL hw) (sX9_slam_58 (sX9_slam_59 (kW_11 hL hw) c1 (sX9_slam_60 ?_)))))))
    refine sX9_slam_61 (fun hbr => ?_) (fun hbr => ?_)
    · replace e := am_neg hbr e
      refine (sX9_slam_77 (sX9_slam_80 ?_))
      exact hc _ (Option.some.inj e).symm
    · replace e := am_pos hbr e
      replace e := am_ckv e; obtain ⟨c2, e⟩ := e
      replace e := am_ckv e; obtain ⟨c3, e⟩ := e
      refine (sX9_slam_64 rfl (sX9_slam_65 (hL.1 _ _ rfl) (hL.2.1 _ _ _ rfl) (sX9_slam_68 (hL.1 _ _ rfl) (hL.2.1 _ _ _ rfl) (sX9_slam_71 (sX9_slam_72 rfl rfl (sX9_slam_73 (hL.1 _ _ rfl) c2 (sX9_slam_74 (sX9_slam_75 (sX9_slam_76 (hL.1 _ _ rfl) c3 (sX9_slam_77 (sX9_slam_80 ?_)))))))))))
      exact hc _ (Option.some.inj e).symm
theorem l_X9_slam_34 {E : am_E} {S : am_S} {Q : am_O → am_S → am_I → Prop} {w : Nat} (hL : am_Lay S) (hw : w = 2 ∨ w = 22) (h9 : S.2.1 0 3 = some w) {i1 : Int32} (s : (Int32 × am_I)) {x : (am_I)} (e : am_loop (fun s : (Int32 × am_I) => B_X9_slam_34 w i1 s.1 s.2) s = some x) (hx : ∀ z0 z1 z2 : Value, am_R E 0 mX9_slam 0 0 83 [z0, z1, z2] [] S x Q) : am_R E 0 mX9_slam 0 0 34 [.ref 0, .int i1, .int s.1] [] S s.2 Q :=
  am_wh_sound (f := fun s : (Int32 × am_I) => B_X9_slam_34 w i1 s.1 s.2) (P := fun s => am_R E 0 mX9_slam 0 0 34 [.ref 0, .int i1, .int s.1] [] S s.2 Q) (K := fun x => ∀ z0 z1 z2 : Value, am_R E 0 mX9_slam 0 0 83 [z0, z1, z2] [] S x Q) (fun s y e hc hkk => b_X9_slam_34 hL hw h9 e hc (fun a hy => hkk a hy)) am_fu s x e hx
def F_X9_slam (w : Nat) (i1 : Int32) (iv : am_I) : Option (am_I) :=
  (if ((((am_w iv 42 0 ((iv 42 0) &&& (((1 : Int32) <<< (i1 &&& 31)) ^^^ (-1 : Int32)))) 42 1) >>> (i1 &&& 31)) &&& (1 : Int32)) = 0 then some (am_w iv 42 0 ((iv 42 0) &&& (((1 : Int32) <<< (i1 &&& 31)) ^^^ (-1 : Int32)))) else (am_o1 (am_loop (fun s : (Int32 × am_I) => B_X9_slam_34 w i1 s.1 s.2) ((0 : Int32), (am_w iv 42 0 ((iv 42 0) &&& (((1 : Int32) <<< (i1 &&& 31)) ^^^ (-1 : Int32)))))) fun a4 => some a4))
theorem R_X9_slam {E : am_E} {S : am_S} {Q : am_O → am_S → am_I → Prop} {w : Nat} (hL : am_Lay S) (hw : w = 2 ∨ w = 22) (h9 : S.2.1 0 3 = some w) {i1 : Int32} {iv : am_I} {y : am_I} (e : F_X9_slam w i1 iv = some y) (h : Q (.inl none) S y) {d : Nat} (hd : 0 ≤ d) : am_M E d mX9_slam 0 0 [.ref 0, .int i1] S iv Q := by
  refine am_enter (js := [.double 0]) rfl pn_X9 rfl rfl rfl (Nat.le_of_ble_eq_true rfl) (am_R.deep ?_ hd)
  refine (sX9_slam_0 rfl (sX9_slam_1 (hL.1 _ _ rfl) (hL.2.1 _ _ _ rfl) (sX9_slam_4 rfl (sX9_slam_5 (hL.1 _ _ rfl) (sX9_slam_8 (sX9_slam_9 (sX9_slam_10 (sX9_slam_11 (sX9_slam_12 (sX9_slam_13 (sX9_slam_14 (hL.1 _ _ rfl) (sX9_slam_17 rfl (sX9_slam_18 (hL.1 _ _ rfl) (hL.2.1 _ _ _ rfl) (sX9_slam_21 (hL.1 _ _ rfl) (sX9_slam_24 (sX9_slam_25 (sX9_slam_26 (sX9_slam_27 ?_))))))))))))))))))
  refine sX9_slam_28 (fun hbr => ?_) (fun hbr => ?_)
  · replace e := am_neg hbr e
    refine (sX9_slam_32 (sX9_slam_33 ?_))
    replace e := am_o1_i e; obtain ⟨a4, e4, e⟩ := e
    refine l_X9_slam_34 hL hw h9 _ e4 ?_
    intro z0 z1 z2
    refine (sX9_slam_83 ?_)
    obtain rfl := Option.some.inj e
    exact h
  · replace e := am_pos hbr e
    refine (sX9_slam_31 ?_)
    obtain rfl := Option.some.inj e
    exact h
def B_X9_commonDivisor_7 (iv : am_I) (i2 : Int32) (i3 : Int32) (i4 : Int32) : Option ((Int32 × Int32 × Int32) ⊕ (Int32)) :=
  (if (1000 : Int32) ≤ i4 then some (.inr i2) else (if i3 ≤ 0 then some (.inr i2) else (if i3 = 0 then none else some (.inl (i3, (i2 - i2 / i3 * i3), (i4 + 1))))))
theorem b_X9_commonDivisor_7 {E : am_E} {S : am_S} {Q : am_O → am_S → am_I → Prop} {z0 z1 z5 : Value} {i2 i3 i4 : Int32} {iv : am_I} {y : (Int32 × Int32 × Int32) ⊕ (Int32)} (e : B_X9_commonDivisor_7 iv i2 i3 i4 = some y) (hc : ∀ s, y = .inl s → ∀ z0 z1 z5 : Value, am_R E 0 mX9_commonDivisor 0 0 7 [z0, z1, .int s.1, .int s.2.1, .int s.2.2, z5] [] S iv Q) (hx : ∀ a, y = .inr a → ∀ z0 z1 z3 z4 z5 : Value, am_R E 0 mX9_commonDivisor 0 0 35 [z0, z1, .int a, z3, z4, z5] [] S iv Q) : am_R E 0 mX9_commonDivisor 0 0 7 [z0, z1, .int i2, .int i3, .int i4, z5] [] S iv Q := by
  refine (sX9_commonDivisor_7 (sX9_commonDivisor_9 ?_))
  refine sX9_commonDivisor_12 (fun hbr => ?_) (fun hbr => ?_)
  · replace e := am_pos hbr e
    exact hx _ (Option.some.inj e).symm _ _ _ _ _
  · replace e := am_neg hbr e
    refine (sX9_commonDivisor_15 ?_)
    refine sX9_commonDivisor_16 (fun hbr => ?_) (fun hbr => ?_)
    · replace e := am_pos hbr e
      exact hx _ (Option.some.inj e).symm _ _ _ _ _
    · replace e := am_neg hbr e
      replace e := am_ckn e; obtain ⟨c1, e⟩ := e
      refine (sX9_commonDivisor_19 (sX9_commonDivisor_20 (sX9_commonDivisor_21 c1 (sX9_commonDivisor_22 (sX9_commonDivisor_24 (sX9_commonDivisor_25 (sX9_commonDivisor_26 (sX9_commonDivisor_28 (sX9_commonDivisor_29 (sX9_commonDivisor_32 ?_))))))))))
      exact hc _ (Option.some.inj e).symm _ _ _
theorem l_X9_commonDivisor_7 {E : am_E} {S : am_S} {Q : am_O → am_S → am_I → Prop} {iv : am_I} (s : (Int32 × Int32 × Int32)) {x : (Int32)} (e : am_loop (fun s : (Int32 × Int32 × Int32) => B_X9_commonDivisor_7 iv s.1 s.2.1 s.2.2) s = some x) (hx : ∀ z0 z1 z3 z4 z5 : Value, am_R E 0 mX9_commonDivisor 0 0 35 [z0, z1, .int x, z3, z4, z5] [] S iv Q) : ∀ z0 z1 z5 : Value, am_R E 0 mX9_commonDivisor 0 0 7 [z0, z1, .int s.1, .int s.2.1, .int s.2.2, z5] [] S iv Q :=
  am_wh_sound (f := fun s : (Int32 × Int32 × Int32) => B_X9_commonDivisor_7 iv s.1 s.2.1 s.2.2) (P := fun s => ∀ z0 z1 z5 : Value, am_R E 0 mX9_commonDivisor 0 0 7 [z0, z1, .int s.1, .int s.2.1, .int s.2.2, z5] [] S iv Q) (K := fun x => ∀ z0 z1 z3 z4 z5 : Value, am_R E 0 mX9_commonDivisor 0 0 35 [z0, z1, .int x, z3, z4, z5] [] S iv Q) (fun s y e hc hkk => fun z0 z1 z5 => b_X9_commonDivisor_7 e hc (fun a hy => hkk a hy)) am_fu s x e hx
def J_X9_commonDivisor_35 (i2 : Int32) (iv : am_I) : Option (Int32) :=
  (if i2 ≤ 0 then some (1 : Int32) else some i2)
theorem j_X9_commonDivisor_35 {E : am_E} {S : am_S} {Q : am_O → am_S → am_I → Prop} {z0 z1 z3 z4 z5 : Value} {i2 : Int32} {iv : am_I} {y : Int32} (e : J_X9_commonDivisor_35 i2 iv = some y) (h : Q (.inl (some (.int y))) S iv) : am_R E 0 mX9_commonDivisor 0 0 35 [z0, z1, .int i2, z3, z4, z5] [] S iv Q := by
  refine (sX9_commonDivisor_35 ?_)
  refine sX9_commonDivisor_36 (fun hbr => ?_) (fun hbr => ?_)
  · replace e := am_pos hbr e
    refine (sX9_commonDivisor_43 (sX9_commonDivisor_44 ?_))
    obtain rfl := Option.some.inj e
    exact h
  · replace e := am_neg hbr e
    refine (sX9_commonDivisor_39 (sX9_commonDivisor_40 (sX9_commonDivisor_44 ?_)))
    obtain rfl := Option.some.inj e
    exact h
def F_X9_commonDivisor (i0 : Int32) (i1 : Int32) (iv : am_I) : Option (Int32) :=
  (am_o1 (am_loop (fun s : (Int32 × Int32 × Int32) => B_X9_commonDivisor_7 iv s.1 s.2.1 s.2.2) (i0, i1, (0 : Int32))) fun a2 => J_X9_commonDivisor_35 a2 iv)
theorem R_X9_commonDivisor {E : am_E} {S : am_S} {Q : am_O → am_S → am_I → Prop} {i0 i1 : Int32} {iv : am_I} {y : Int32} (e : F_X9_commonDivisor i0 i1 iv = some y) (h : Q (.inl (some (.int y))) S iv) {d : Nat} (hd : 0 ≤ d) : am_M E d mX9_commonDivisor 0 0 [.int i0, .int i1] S iv Q := by
  refine am_enter (js := [.double 0, .double 0, .double 0, .double 0]) rfl pn_X9 rfl rfl rfl (Nat.le_of_ble_eq_true rfl) (am_R.deep ?_ hd)
  refine (sX9_commonDivisor_0 (sX9_commonDivisor_1 (sX9_commonDivisor_2 (sX9_commonDivisor_3 (sX9_commonDivisor_4 (sX9_commonDivisor_5 ?_))))))
  replace e := am_o1_i e; obtain ⟨a2, e2, e⟩ := e
  refine l_X9_commonDivisor_7 _ e2 ?_ _ _ _
  intro z0 z1 z3 z4 z5
  exact j_X9_commonDivisor_35 e h
def F_X9_image (w : Nat) (iv : am_I) : Option (am_I) :=
  (am_o1 (F_X7_copyFrom 46 42  iv) fun w1 => some (am_w w1 0 7 (1 : Int32)))
theorem R_X9_image {E : am_E} {S : am_S} {Q : am_O → am_S → am_I → Prop} {w : Nat} (hL : am_Lay S) (hw : w = 2 ∨ w = 22) (h9 : S.2.1 0 3 = some w) {iv : am_I} {y : am_I} (e : F_X9_image w  iv = some y) (h : Q (.inl none) S y) {d : Nat} (hd : 3 ≤ d) : am_M E d mX9_image 0 0 [.ref 0] S iv Q := by
  refine am_enter (js := []) rfl pn_X9 rfl rfl rfl (Nat.le_of_ble_eq_true rfl) (am_R.deep ?_ hd)
  replace e := am_o1_i e; obtain ⟨w1, e1, e⟩ := e
  refine (sX9_image_0 rfl (sX9_image_1 (hL.1 _ _ rfl) (hL.2.1 _ _ _ rfl) (sX9_image_4 rfl (sX9_image_5 (hL.1 _ _ rfl) (hL.2.1 _ _ _ rfl) (sX9_image_8 (hL.1 _ _ rfl) (Nat.le_of_ble_eq_true rfl) (R_X7_copyFrom hL (by decide) (by decide) (h := (sX9_image_11 rfl (sX9_image_12 (sX9_image_13 (hL.1 _ _ rfl) (by decide) (sX9_image_16 ?_))))) (hd := (Nat.le_of_ble_eq_true rfl)) (e := e1)))))))
  obtain rfl := Option.some.inj e
  exact h
def F_X9_restore (w : Nat) (iv : am_I) : Option (Int32 × am_I) :=
  (if (iv 0 7) = 0 then (if (iv 0 7) = 0 ∨ (iv 0 7) = 1 then some ((iv 0 7), iv) else none) else (am_o1 (F_X7_copyFrom 42 46  iv) fun w2 => (if (w2 0 7) = 0 ∨ (w2 0 7) = 1 then some ((w2 0 7), w2) else none)))
theorem YR_X9_restore {E : am_E} {S : am_S} {Q : am_O → am_S → am_I → Prop} {w : Nat} (hL : am_Lay S) (hw : w = 2 ∨ w = 22) (h9 : S.2.1 0 3 = some w) {iv : am_I} {y : Int32 × am_I} (e : F_X9_restore w  iv = some y) (h : Q (.inl (some (.int y.1))) S y.2) {d : Nat} (hd : 3 ≤ d) : am_M E d mX9_restore 0 0 [.ref 0] S iv Q := by
  refine am_enter (js := []) rfl pn_X9 rfl rfl rfl (Nat.le_of_ble_eq_true rfl) (am_R.deep ?_ hd)
  refine (sX9_restore_0 rfl (sX9_restore_1 (hL.1 _ _ rfl) ?_))
  refine sX9_restore_4 (fun hbr => ?_) (fun hbr => ?_)
  · replace e := am_pos hbr e
    replace e := am_ck e; obtain ⟨c1, e⟩ := e
    refine (sX9_restore_18 rfl (sX9_restore_19 (hL.1 _ _ rfl) (sX9_restore_22 (am_nar c1) ?_)))
    obtain rfl := Option.some.inj e
    exact h
  · replace e := am_neg hbr e
    replace e := am_o1_i e; obtain ⟨w2, e2, e⟩ := e
    replace e := am_ck e; obtain ⟨c3, e⟩ := e
    refine (sX9_restore_7 rfl (sX9_restore_8 (hL.1 _ _ rfl) (hL.2.1 _ _ _ rfl) (sX9_restore_11 rfl (sX9_restore_12 (hL.1 _ _ rfl) (hL.2.1 _ _ _ rfl) (sX9_restore_15 (hL.1 _ _ rfl) (Nat.le_of_ble_eq_true rfl) (R_X7_copyFrom hL (by decide) (by decide) (h := (sX9_restore_18 rfl (sX9_restore_19 (hL.1 _ _ rfl) (sX9_restore_22 (am_nar c3) ?_)))) (hd := (Nat.le_of_ble_eq_true rfl)) (e := e2)))))))
    obtain rfl := Option.some.inj e
    exact h
theorem R_X9_restore {E : am_E} {S : am_S} {Q : am_O → am_S → am_I → Prop} {w : Nat} (hL : am_Lay S) (hw : w = 2 ∨ w = 22) (h9 : S.2.1 0 3 = some w) {iv : am_I} {v' : Int32} {iv' : am_I} (e : F_X9_restore w  iv = some (v', iv')) (h : Q (.inl (some (.int v'))) S iv') {d : Nat} (hd : 3 ≤ d) : am_M E d mX9_restore 0 0 [.ref 0] S iv Q :=
  YR_X9_restore hL hw h9 e h hd
def F_X9_count (w : Nat) (i1 : Int32) (iv : am_I) : Option (Option (Int32)) :=
  (if i1.toInt < 0 ∨ 12 < i1.toInt then some none else if i1 = (0 : Int32) then some (some (iv w 0)) else if i1 = (1 : Int32) then some (some (iv w 1)) else if i1 = (2 : Int32) then some (some (iv (w + 1) 0)) else if i1 = (3 : Int32) then some (some (iv (w + 10) 0)) else if i1 = (4 : Int32) then some (some (iv w 2)) else if i1 = (5 : Int32) then some (some (iv (w + 14) 0)) else if i1 = (6 : Int32) then some (some (iv 42 0)) else if i1 = (7 : Int32) then some (some (iv 42 3)) else if i1 = (8 : Int32) then some (some (iv 42 2)) else if i1 = (9 : Int32) then some (some (iv 42 1)) else if i1 = (10 : Int32) then some (some (iv 0 1)) else if i1 = (11 : Int32) then some (some (iv 42 4)) else if i1 = (12 : Int32) then some (some (iv 42 5)) else none)
theorem R_X9_count {E : am_E} {S : am_S} {Q : am_O → am_S → am_I → Prop} {w : Nat} (hL : am_Lay S) (hw : w = 2 ∨ w = 22) (h9 : S.2.1 0 3 = some w) {i1 : Int32} {iv : am_I} {y : Option (Int32)} (e : F_X9_count w i1 iv = some y) (h : am_qt (fun v => Q (.inl (some (.int v))) S iv) (∀ nx, S.2.2.2 ≤ nx → Q (.inr "java/util/NoSuchElementException") (S.1, S.2.1, S.2.2.1, nx) iv) y) {d : Nat} (hd : 7 ≤ d) : am_M E d mX9_count 1 6 [.ref 0, .int i1] S iv Q := by
  refine am_enter (js := []) rfl pn_X9 rfl rfl rfl (Nat.le_of_ble_eq_true rfl) (am_R.deep ?_ hd)
  refine (sX9_count_0 ?_)
  by_cases hs : i1.toInt < 0 ∨ 12 < i1.toInt
  · replace e := am_pos hs e
    refine sX9_count_1_d hs ?_
    refine (sX9_count_178 (Nat.le_of_ble_eq_true rfl) (fun nx hnx => ?_))
    obtain rfl := Option.some.inj e
    exact h nx hnx
  · replace e := am_neg hs e
    by_cases hs0 : i1 = (0 : Int32)
    · replace e := am_pos hs0 e
      subst hs0
      refine sX9_count_1_0 ?_
      refine (sX9_count_68 rfl (sX9_count_69 (hL.1 _ _ rfl) h9 (sX9_count_72 (kW_0 hL hw) (sX9_count_75 ?_))))
      obtain rfl := Option.some.inj e
      exact h
    replace e := am_neg hs0 e
    by_cases hs1 : i1 = (1 : Int32)
    · replace e := am_pos hs1 e
      subst hs1
      refine sX9_count_1_1 ?_
      refine (sX9_count_76 rfl (sX9_count_77 (hL.1 _ _ rfl) h9 (sX9_count_80 (kW_0 hL hw) (sX9_count_83 ?_))))
      obtain rfl := Option.some.inj e
      exact h
    replace e := am_neg hs1 e
    by_cases hs2 : i1 = (2 : Int32)
    · replace e := am_pos hs2 e
      subst hs2
      refine sX9_count_1_2 ?_
      refine (sX9_count_84 rfl (sX9_count_85 (hL.1 _ _ rfl) h9 (sX9_count_88 (kW_0 hL hw) (rW_0_7 hL hw) (sX9_count_91 (kW_1 hL hw) (sX9_count_94 ?_)))))
      obtain rfl := Option.some.inj e
      exact h
    replace e := am_neg hs2 e
    by_cases hs3 : i1 = (3 : Int32)
    · replace e := am_pos hs3 e
      subst hs3
      refine sX9_count_1_3 ?_
      refine (sX9_count_95 rfl (sX9_count_96 (hL.1 _ _ rfl) h9 (sX9_count_99 (kW_0 hL hw) (rW_0_8 hL hw) (sX9_count_102 (kW_10 hL hw) (sX9_count_105 ?_)))))
      obtain rfl := Option.some.inj e
      exact h
    replace e := am_neg hs3 e
    by_cases hs4 : i1 = (4 : Int32)
    · replace e := am_pos hs4 e
      subst hs4
      refine sX9_count_1_4 ?_
      refine (sX9_count_106 rfl (sX9_count_107 (hL.1 _ _ rfl) h9 (sX9_count_110 (kW_0 hL hw) (sX9_count_113 ?_))))
      obtain rfl := Option.some.inj e
      exact h
    replace e := am_neg hs4 e
    by_cases hs5 : i1 = (5 : Int32)
    · replace e := am_pos hs5 e
      subst hs5
      refine sX9_count_1_5 ?_
      refine (sX9_count_114 rfl (sX9_count_115 (hL.1 _ _ rfl) h9 (sX9_count_118 (kW_0 hL hw) (rW_0_9 hL hw) (sX9_count_121 (kW_14 hL hw) (sX9_count_124 ?_)))))
      obtain rfl := Option.some.inj e
      exact h
    replace e := am_neg hs5 e
    by_cases hs6 : i1 = (6 : Int32)
    · replace e := am_pos hs6 e
      subst hs6
      refine sX9_count_1_6 ?_
      refine (sX9_count_125 rfl (sX9_count_126 (hL.1 _ _ rfl) (hL.2.1 _ _ _ rfl) (sX9_count_129 (hL.1 _ _ rfl) (sX9_count_132 ?_))))
      obtain rfl := Option.some.inj e
      exact h
    replace e := am_neg hs6 e
    by_cases hs7 : i1 = (7 : Int32)
    · replace e := am_pos hs7 e
      subst hs7
      refine sX9_count_1_7 ?_
      refine (sX9_count_133 rfl (sX9_count_134 (hL.1 _ _ rfl) (hL.2.1 _ _ _ rfl) (sX9_count_137 (hL.1 _ _ rfl) (sX9_count_140 ?_))))
      obtain rfl := Option.some.inj e
      exact h
    replace e := am_neg hs7 e
    by_cases hs8 : i1 = (8 : Int32)
    · replace e := am_pos hs8 e
      subst hs8
      refine sX9_count_1_8 ?_
      refine (sX9_count_141 rfl (sX9_count_142 (hL.1 _ _ rfl) (hL.2.1 _ _ _ rfl) (sX9_count_145 (hL.1 _ _ rfl) (sX9_count_148 ?_))))
      obtain rfl := Option.some.inj e
      exact h
    replace e := am_neg hs8 e
    by_cases hs9 : i1 = (9 : Int32)
    · replace e := am_pos hs9 e
      subst hs9
      refine sX9_count_1_9 ?_
      refine (sX9_count_149 rfl (sX9_count_150 (hL.1 _ _ rfl) (hL.2.1 _ _ _ rfl) (sX9_count_153 (hL.1 _ _ rfl) (sX9_count_156 ?_))))
      obtain rfl := Option.some.inj e
      exact h
    replace e := am_neg hs9 e
    by_cases hs10 : i1 = (10 : Int32)
    · replace e := am_pos hs10 e
      subst hs10
      refine sX9_count_1_10 ?_
      refine (sX9_count_157 rfl (sX9_count_158 (hL.1 _ _ rfl) (sX9_count_161 ?_)))
      obtain rfl := Option.some.inj e
      exact h
    replace e := am_neg hs10 e
    by_cases hs11 : i1 = (11 : Int32)
    · replace e := am_pos hs11 e
      subst hs11
      refine sX9_count_1_11 ?_
      refine (sX9_count_162 rfl (sX9_count_163 (hL.1 _ _ rfl) (hL.2.1 _ _ _ rfl) (sX9_count_166 (hL.1 _ _ rfl) (sX9_count_169 ?_))))
      obtain rfl := Option.some.inj e
      exact h
    replace e := am_neg hs11 e
    by_cases hs12 : i1 = (12 : Int32)
    · replace e := am_pos hs12 e
      subst hs12
      refine sX9_count_1_12 ?_
      refine (sX9_count_170 rfl (sX9_count_171 (hL.1 _ _ rfl) (hL.2.1 _ _ _ rfl) (sX9_count_174 (hL.1 _ _ rfl) (sX9_count_177 ?_))))
      obtain rfl := Option.some.inj e
      exact h
    replace e := am_neg hs12 e
    cases e
def F_X9_drawer (w : Nat) (i1 : Int32) (i2 : Int32) (iv : am_I) : Option (Option (Int32 × am_I)) :=
  (am_ot (F_X9_demandDrawer w i1 iv) fun _ => (if i2.toInt < 0 ∨ 7 < i2.toInt then some none else if i2 = (0 : Int32) then (if vp_b i1 10 then some (some ((iv (w + 2) i1.toNatClampNeg), iv)) else none) else if i2 = (1 : Int32) then (if vp_b i1 10 then some (some ((iv (w + 3) i1.toNatClampNeg), iv)) else none) else if i2 = (2 : Int32) then (if vp_b i1 10 then some (some ((iv (w + 5) i1.toNatClampNeg), iv)) else none) else if i2 = (3 : Int32) then (if vp_b i1 10 then some (some ((iv (w + 6) i1.toNatClampNeg), iv)) else none) else if i2 = (4 : Int32) then (am_o1 (F_X2_isWide w i1 iv) fun v6 => (if v6 = 0 then some (some ((0 : Int32), iv)) else some (some ((1 : Int32), iv)))) else if i2 = (5 : Int32) then some (some ((((iv 42 0) >>> (i1 &&& 31)) &&& (1 : Int32)), iv)) else if i2 = (6 : Int32) then (am_o2 (F_X0_reachedBy w (iv 42 0) iv) fun v7 w7 => some (some (((v7 >>> (i1 &&& 31)) &&& (1 : Int32)), w7))) else if i2 = (7 : Int32) then (am_o1 (F_X0_rentOf w i1 iv) fun v8 => some (some (v8, iv))) else none))
theorem R_X9_drawer {E : am_E} {S : am_S} {Q : am_O → am_S → am_I → Prop} {w : Nat} (hL : am_Lay S) (hw : w = 2 ∨ w = 22) (h9 : S.2.1 0 3 = some w) {i1 i2 : Int32} {iv : am_I} {y : Option (Int32 × am_I)} (e : F_X9_drawer w i1 i2 iv = some y) (h : am_qt (fun v => Q (.inl (some (.int v.1))) S v.2) (∀ nx, S.2.2.2 ≤ nx → Q (.inr "java/util/NoSuchElementException") (S.1, S.2.1, S.2.2.1, nx) iv) y) {d : Nat} (hd : 8 ≤ d) : am_M E d mX9_drawer 2 12 [.ref 0, .int i1, .int i2] S iv Q := by
  refine am_enter (js := []) rfl pn_X9 rfl rfl rfl (Nat.le_of_ble_eq_true rfl) (am_R.deep ?_ hd)
  refine (sX9_drawer_0 rfl (sX9_drawer_1 ?_))
  replace e := am_ot_i e; rcases e with ⟨w1, e1, e⟩ | ⟨e1, e⟩
  · refine sX9_drawer_2_k (k' := 1) (n' := 6) (k := 1) (n := 6) (hL.1 _ _ rfl) (Nat.le_of_ble_eq_true rfl) (R_X9_demandDrawer hL hw h9 (hd := (Nat.le_of_ble_eq_true rfl)) (e := e1) (h := ?_))
    refine (sX9_drawer_5 ?_)
    by_cases hs : i2.toInt < 0 ∨ 7 < i2.toInt
    · replace e := am_pos hs e
      refine sX9_drawer_6_d hs ?_
      refine (sX9_drawer_164 (Nat.le_of_ble_eq_true rfl) (fun nx hnx => ?_))
      obtain rfl := Option.some.inj e
      exact h nx hnx
    · replace e := am_neg hs e
      by_cases hs0 : i2 = (0 : Int32)
      · replace e := am_pos hs0 e
        subst hs0
        refine sX9_drawer_6_0 ?_
        replace e := am_ckv e; obtain ⟨c2, e⟩ := e
        refine (sX9_drawer_52 rfl (sX9_drawer_53 (hL.1 _ _ rfl) h9 (sX9_drawer_56 (kW_0 hL hw) (rW_0_7 hL hw) (sX9_drawer_59 (kW_1 hL hw) (rW_1_1 hL hw) (sX9_drawer_62 (sX9_drawer_63 (kW_2 hL hw) c2 (sX9_drawer_64 ?_)))))))
        obtain rfl := Option.some.inj e
        exact h
      replace e := am_neg hs0 e
      by_cases hs1 : i2 = (1 : Int32)
      · replace e := am_pos hs1 e
        subst hs1
        refine sX9_drawer_6_1 ?_
        replace e := am_ckv e; obtain ⟨c3, e⟩ := e
        refine (sX9_drawer_65 rfl (sX9_drawer_66 (hL.1 _ _ rfl) h9 (sX9_drawer_69 (kW_0 hL hw) (rW_0_7 hL hw) (sX9_drawer_72 (kW_1 hL hw) (rW_1_2 hL hw) (sX9_drawer_75 (sX9_drawer_76 (kW_3 hL hw) c3 (sX9_drawer_77 ?_)))))))
        obtain rfl := Option.some.inj e
        exact h
      replace e := am_neg hs1 e
      by_cases hs2 : i2 = (2 : Int32)
      · replace e := am_pos hs2 e
        subst hs2
        refine sX9_drawer_6_2 ?_
        replace e := am_ckv e; obtain ⟨c4, e⟩ := e
        refine (sX9_drawer_78 rfl (sX9_drawer_79 (hL.1 _ _ rfl) h9 (sX9_drawer_82 (kW_0 hL hw) (rW_0_7 hL hw) (sX9_drawer_85 (kW_1 hL hw) (rW_1_4 hL hw) (sX9_drawer_88 (sX9_drawer_89 (kW_5 hL hw) c4 (sX9_drawer_90 ?_)))))))
        obtain rfl := Option.some.inj e
        exact h
      replace e := am_neg hs2 e
      by_cases hs3 : i2 = (3 : Int32)
      · replace e := am_pos hs3 e
        subst hs3
        refine sX9_drawer_6_3 ?_
        replace e := am_ckv e; obtain ⟨c5, e⟩ := e
        refine (sX9_drawer_91 rfl (sX9_drawer_92 (hL.1 _ _ rfl) h9 (sX9_drawer_95 (kW_0 hL hw) (rW_0_7 hL hw) (sX9_drawer_98 (kW_1 hL hw) (rW_1_5 hL hw) (sX9_drawer_101 (sX9_drawer_102 (kW_6 hL hw) c5 (sX9_drawer_103 ?_)))))))
        obtain rfl := Option.some.inj e
        exact h
      replace e := am_neg hs3 e
      by_cases hs4 : i2 = (4 : Int32)
      · replace e := am_pos hs4 e
        subst hs4
        refine sX9_drawer_6_4 ?_
        replace e := am_o1_i e; obtain ⟨v6, e6, e⟩ := e
        refine (sX9_drawer_104 rfl (sX9_drawer_105 (hL.1 _ _ rfl) h9 (sX9_drawer_108 (kW_0 hL hw) (rW_0_7 hL hw) (sX9_drawer_111 (sX9_drawer_112 (kW_1 hL hw) (Nat.le_of_ble_eq_true rfl) (R_X2_isWide hL hw (h := ?_) (hd := (Nat.le_of_ble_eq_true rfl)) (e := e6)))))))
        refine sX9_drawer_115 (fun hbr => ?_) (fun hbr => ?_)
        · replace e := am_pos hbr e
          refine (sX9_drawer_122 (sX9_drawer_123 ?_))
          obtain rfl := Option.some.inj e
          exact h
        · replace e := am_neg hbr e
          refine (sX9_drawer_118 (sX9_drawer_119 (sX9_drawer_123 ?_)))
          obtain rfl := Option.some.inj e
          exact h
      replace e := am_neg hs4 e
      by_cases hs5 : i2 = (5 : Int32)
      · replace e := am_pos hs5 e
        subst hs5
        refine sX9_drawer_6_5 ?_
        refine (sX9_drawer_124 rfl (sX9_drawer_125 (hL.1 _ _ rfl) (hL.2.1 _ _ _ rfl) (sX9_drawer_128 (hL.1 _ _ rfl) (sX9_drawer_131 (sX9_drawer_132 (sX9_drawer_133 (sX9_drawer_134 (sX9_drawer_135 ?_))))))))
        obtain rfl := Option.some.inj e
        exact h
      replace e := am_neg hs5 e
      by_cases hs6 : i2 = (6 : Int32)
      · replace e := am_pos hs6 e
        subst hs6
        refine sX9_drawer_6_6 ?_
        replace e := am_o2_i e; obtain ⟨v7, w7, e7, e⟩ := e
        refine (sX9_drawer_136 rfl (sX9_drawer_137 (hL.1 _ _ rfl) h9 (sX9_drawer_140 rfl (sX9_drawer_141 (hL.1 _ _ rfl) (hL.2.1 _ _ _ rfl) (sX9_drawer_144 (hL.1 _ _ rfl) (sX9_drawer_147 (kW_0 hL hw) (Nat.le_of_ble_eq_true rfl) (R_X0_reachedBy hL hw (h := (sX9_drawer_150 (sX9_drawer_151 (sX9_drawer_152 (sX9_drawer_153 (sX9_drawer_154 ?_)))))) (hd := (Nat.le_of_ble_eq_true rfl)) (e := e7))))))))
        obtain rfl := Option.some.inj e
        exact h
      replace e := am_neg hs6 e
      by_cases hs7 : i2 = (7 : Int32)
      · replace e := am_pos hs7 e
        subst hs7
        refine sX9_drawer_6_7 ?_
        replace e := am_o1_i e; obtain ⟨v8, e8, e⟩ := e
        refine (sX9_drawer_155 rfl (sX9_drawer_156 (hL.1 _ _ rfl) h9 (sX9_drawer_159 (sX9_drawer_160 (kW_0 hL hw) (Nat.le_of_ble_eq_true rfl) (R_X0_rentOf hL hw (h := (sX9_drawer_163 ?_)) (hd := (Nat.le_of_ble_eq_true rfl)) (e := e8))))))
        obtain rfl := Option.some.inj e
        exact h
      replace e := am_neg hs7 e
      cases e
  · refine sX9_drawer_2_k (k' := 1) (n' := 6) (k := 1) (n := 6) (hL.1 _ _ rfl) (Nat.le_of_ble_eq_true rfl) (R_X9_demandDrawer hL hw h9 (hd := (Nat.le_of_ble_eq_true rfl)) (e := e1) (h := (fun nx hnx => am_Tout rfl ?_)))
    obtain rfl := Option.some.inj e
    exact h nx hnx
def F_X9_person (w : Nat) (i1 : Int32) (i2 : Int32) (iv : am_I) : Option (Option (Int32)) :=
  (am_ot (F_X9_demandPerson w i1 iv) fun _ => (if i2.toInt < 0 ∨ 4 < i2.toInt then some none else if i2 = (0 : Int32) then (if vp_b i1 5 then some (some (iv (w + 11) i1.toNatClampNeg)) else none) else if i2 = (1 : Int32) then (if vp_b i1 5 then some (some (iv (w + 12) i1.toNatClampNeg)) else none) else if i2 = (2 : Int32) then (if vp_b i1 5 then some (some (iv (w + 13) i1.toNatClampNeg)) else none) else if i2 = (3 : Int32) then some (some (((iv 42 2) >>> (i1 &&& 31)) &&& (1 : Int32))) else if i2 = (4 : Int32) then (if vp_b i1 5 then some (some (iv 43 i1.toNatClampNeg)) else none) else none))
theorem R_X9_person {E : am_E} {S : am_S} {Q : am_O → am_S → am_I → Prop} {w : Nat} (hL : am_Lay S) (hw : w = 2 ∨ w = 22) (h9 : S.2.1 0 3 = some w) {i1 i2 : Int32} {iv : am_I} {y : Option (Int32)} (e : F_X9_person w i1 i2 iv = some y) (h : am_qt (fun v => Q (.inl (some (.int v))) S iv) (∀ nx, S.2.2.2 ≤ nx → Q (.inr "java/util/NoSuchElementException") (S.1, S.2.1, S.2.2.1, nx) iv) y) {d : Nat} (hd : 8 ≤ d) : am_M E d mX9_person 2 12 [.ref 0, .int i1, .int i2] S iv Q := by
  refine am_enter (js := []) rfl pn_X9 rfl rfl rfl (Nat.le_of_ble_eq_true rfl) (am_R.deep ?_ hd)
  refine (sX9_person_0 rfl (sX9_person_1 ?_))
  replace e := am_ot_i e; rcases e with ⟨w1, e1, e⟩ | ⟨e1, e⟩
  · refine sX9_person_2_k (k' := 1) (n' := 6) (k := 1) (n := 6) (hL.1 _ _ rfl) (Nat.le_of_ble_eq_true rfl) (R_X9_demandPerson hL hw h9 (hd := (Nat.le_of_ble_eq_true rfl)) (e := e1) (h := ?_))
    refine (sX9_person_5 ?_)
    by_cases hs : i2.toInt < 0 ∨ 4 < i2.toInt
    · replace e := am_pos hs e
      refine sX9_person_6_d hs ?_
      refine (sX9_person_101 (Nat.le_of_ble_eq_true rfl) (fun nx hnx => ?_))
      obtain rfl := Option.some.inj e
      exact h nx hnx
    · replace e := am_neg hs e
      by_cases hs0 : i2 = (0 : Int32)
      · replace e := am_pos hs0 e
        subst hs0
        refine sX9_person_6_0 ?_
        replace e := am_ckv e; obtain ⟨c2, e⟩ := e
        refine (sX9_person_40 rfl (sX9_person_41 (hL.1 _ _ rfl) h9 (sX9_person_44 (kW_0 hL hw) (rW_0_8 hL hw) (sX9_person_47 (kW_10 hL hw) (rW_10_1 hL hw) (sX9_person_50 (sX9_person_51 (kW_11 hL hw) c2 (sX9_person_52 ?_)))))))
        obtain rfl := Option.some.inj e
        exact h
      replace e := am_neg hs0 e
      by_cases hs1 : i2 = (1 : Int32)
      · replace e := am_pos hs1 e
        subst hs1
        refine sX9_person_6_1 ?_
        replace e := am_ckv e; obtain ⟨c3, e⟩ := e
        refine (sX9_person_53 rfl (sX9_person_54 (hL.1 _ _ rfl) h9 (sX9_person_57 (kW_0 hL hw) (rW_0_8 hL hw) (sX9_person_60 (kW_10 hL hw) (rW_10_2 hL hw) (sX9_person_63 (sX9_person_64 (kW_12 hL hw) c3 (sX9_person_65 ?_)))))))
        obtain rfl := Option.some.inj e
        exact h
      replace e := am_neg hs1 e
      by_cases hs2 : i2 = (2 : Int32)
      · replace e := am_pos hs2 e
        subst hs2
        refine sX9_person_6_2 ?_
        replace e := am_ckv e; obtain ⟨c4, e⟩ := e
        refine (sX9_person_66 rfl (sX9_person_67 (hL.1 _ _ rfl) h9 (sX9_person_70 (kW_0 hL hw) (rW_0_8 hL hw) (sX9_person_73 (kW_10 hL hw) (rW_10_3 hL hw) (sX9_person_76 (sX9_person_77 (kW_13 hL hw) c4 (sX9_person_78 ?_)))))))
        obtain rfl := Option.some.inj e
        exact h
      replace e := am_neg hs2 e
      by_cases hs3 : i2 = (3 : Int32)
      · replace e := am_pos hs3 e
        subst hs3
        refine sX9_person_6_3 ?_
        refine (sX9_person_79 rfl (sX9_person_80 (hL.1 _ _ rfl) (hL.2.1 _ _ _ rfl) (sX9_person_83 (hL.1 _ _ rfl) (sX9_person_86 (sX9_person_87 (sX9_person_88 (sX9_person_89 (sX9_person_90 ?_))))))))
        obtain rfl := Option.some.inj e
        exact h
      replace e := am_neg hs3 e
      by_cases hs4 : i2 = (4 : Int32)
      · replace e := am_pos hs4 e
        subst hs4
        refine sX9_person_6_4 ?_
        replace e := am_ckv e; obtain ⟨c5, e⟩ := e
        refine (sX9_person_91 rfl (sX9_person_92 (hL.1 _ _ rfl) (hL.2.1 _ _ _ rfl) (sX9_person_95 (hL.1 _ _ rfl) (hL.2.1 _ _ _ rfl) (sX9_person_98 (sX9_person_99 (hL.1 _ _ rfl) c5 (sX9_person_100 ?_))))))
        obtain rfl := Option.some.inj e
        exact h
      replace e := am_neg hs4 e
      cases e
  · refine sX9_person_2_k (k' := 1) (n' := 6) (k := 1) (n := 6) (hL.1 _ _ rfl) (Nat.le_of_ble_eq_true rfl) (R_X9_demandPerson hL hw h9 (hd := (Nat.le_of_ble_eq_true rfl)) (e := e1) (h := (fun nx hnx => am_Tout rfl ?_)))
    obtain rfl := Option.some.inj e
    exact h nx hnx
def F_X9_may (w : Nat) (i1 : Int32) (iv : am_I) : Option (Option (Int32 × am_I)) :=
  (am_ot (F_X9_demandSet w i1 iv) fun _ => (am_o2 (F_X0_canBe w i1 iv) fun v2 w2 => (if v2 = 0 ∨ v2 = 1 then some (some (v2, w2)) else none)))
theorem R_X9_may {E : am_E} {S : am_S} {Q : am_O → am_S → am_I → Prop} {w : Nat} (hL : am_Lay S) (hw : w = 2 ∨ w = 22) (h9 : S.2.1 0 3 = some w) {i1 : Int32} {iv : am_I} {y : Option (Int32 × am_I)} (e : F_X9_may w i1 iv = some y) (h : am_qt (fun v => Q (.inl (some (.int v.1))) S v.2) (∀ nx, S.2.2.2 ≤ nx → Q (.inr "java/lang/IllegalArgumentException") (S.1, S.2.1, S.2.2.1, nx) iv) y) {d : Nat} (hd : 8 ≤ d) : am_M E d mX9_may 1 6 [.ref 0, .int i1] S iv Q := by
  refine am_enter (js := []) rfl pn_X9 rfl rfl rfl (Nat.le_of_ble_eq_true rfl) (am_R.deep ?_ hd)
  refine (sX9_may_0 rfl (sX9_may_1 ?_))
  replace e := am_ot_i e; rcases e with ⟨w1, e1, e⟩ | ⟨e1, e⟩
  · refine sX9_may_2_k (k' := 1) (n' := 6) (k := 0) (n := 0) (hL.1 _ _ rfl) (Nat.le_of_ble_eq_true rfl) (R_X9_demandSet hL hw h9 (hd := (Nat.le_of_ble_eq_true rfl)) (e := e1) (h := ?_))
    replace e := am_o2_i e; obtain ⟨v2, w2, e2, e⟩ := e
    replace e := am_ck e; obtain ⟨c3, e⟩ := e
    refine (sX9_may_5 rfl (sX9_may_6 (hL.1 _ _ rfl) h9 (sX9_may_9 (sX9_may_10 (kW_0 hL hw) (Nat.le_of_ble_eq_true rfl) (R_X0_canBe hL hw (h := (sX9_may_13 (am_nar c3) ?_)) (hd := (Nat.le_of_ble_eq_true rfl)) (e := e2))))))
    obtain rfl := Option.some.inj e
    exact h
  · refine sX9_may_2_k (k' := 1) (n' := 6) (k := 0) (n := 0) (hL.1 _ _ rfl) (Nat.le_of_ble_eq_true rfl) (R_X9_demandSet hL hw h9 (hd := (Nat.le_of_ble_eq_true rfl)) (e := e1) (h := (fun nx hnx => am_Tout rfl ?_)))
    obtain rfl := Option.some.inj e
    exact h nx hnx
def F_X9_broken (w : Nat) (i1 : Int32) (iv : am_I) : Option (Option (Int32 × am_I)) :=
  (am_ot (F_X9_demandSet w i1 iv) fun _ => (am_o2 (F_X0_leastBroken w i1 iv) fun v2 w2 => some (some (v2, w2))))
theorem R_X9_broken {E : am_E} {S : am_S} {Q : am_O → am_S → am_I → Prop} {w : Nat} (hL : am_Lay S) (hw : w = 2 ∨ w = 22) (h9 : S.2.1 0 3 = some w) {i1 : Int32} {iv : am_I} {y : Option (Int32 × am_I)} (e : F_X9_broken w i1 iv = some y) (h : am_qt (fun v => Q (.inl (some (.int v.1))) S v.2) (∀ nx, S.2.2.2 ≤ nx → Q (.inr "java/lang/IllegalArgumentException") (S.1, S.2.1, S.2.2.1, nx) iv) y) {d : Nat} (hd : 8 ≤ d) : am_M E d mX9_broken 1 6 [.ref 0, .int i1] S iv Q := by
  refine am_enter (js := []) rfl pn_X9 rfl rfl rfl (Nat.le_of_ble_eq_true rfl) (am_R.deep ?_ hd)
  refine (sX9_broken_0 rfl (sX9_broken_1 ?_))
  replace e := am_ot_i e; rcases e with ⟨w1, e1, e⟩ | ⟨e1, e⟩
  · refine sX9_broken_2_k (k' := 1) (n' := 6) (k := 0) (n := 0) (hL.1 _ _ rfl) (Nat.le_of_ble_eq_true rfl) (R_X9_demandSet hL hw h9 (hd := (Nat.le_of_ble_eq_true rfl)) (e := e1) (h := ?_))
    replace e := am_o2_i e; obtain ⟨v2, w2, e2, e⟩ := e
    refine (sX9_broken_5 rfl (sX9_broken_6 (hL.1 _ _ rfl) h9 (sX9_broken_9 (sX9_broken_10 (kW_0 hL hw) (Nat.le_of_ble_eq_true rfl) (R_X0_leastBroken hL hw (h := (sX9_broken_13 ?_)) (hd := (Nat.le_of_ble_eq_true rfl)) (e := e2))))))
    obtain rfl := Option.some.inj e
    exact h
  · refine sX9_broken_2_k (k' := 1) (n' := 6) (k := 0) (n := 0) (hL.1 _ _ rfl) (Nat.le_of_ble_eq_true rfl) (R_X9_demandSet hL hw h9 (hd := (Nat.le_of_ble_eq_true rfl)) (e := e1) (h := (fun nx hnx => am_Tout rfl ?_)))
    obtain rfl := Option.some.inj e
    exact h nx hnx
def J_X9_sleeps_40 (w : Nat) (k1 : Int32) (iv : am_I) : Option (Option (am_I)) :=
  some (some (am_w iv 42 1 k1))
theorem j_X9_sleeps_40 {E : am_E} {S : am_S} {Q : am_O → am_S → am_I → Prop} {w : Nat} (hL : am_Lay S) (hw : w = 2 ∨ w = 22) (h9 : S.2.1 0 3 = some w) {z0 z1 z2 z3 : Value} {k1 : Int32} {iv : am_I} {y : Option (am_I)} (e : J_X9_sleeps_40 w k1 iv = some y) (h : am_qt (fun v => Q (.inl none) S v) (∀ nx, S.2.2.2 ≤ nx → Q (.inr "java/util/NoSuchElementException") (S.1, S.2.1, S.2.2.1, nx) iv) y) : am_R E 8 mX9_sleeps 0 0 40 [z0, z1, z2, z3] [.int k1, .ref 42] S iv Q := by
  refine (sX9_sleeps_40 (hL.1 _ _ rfl) (sX9_sleeps_43 ?_))
  obtain rfl := Option.some.inj e
  exact h
def F_X9_sleeps (w : Nat) (i1 : Int32) (i2 : Int32) (iv : am_I) : Option (Option (am_I)) :=
  (am_ot (F_X9_demandDrawer w i1 iv) fun _ => (if i2 = 0 then J_X9_sleeps_40 w ((iv 42 1) &&& (((1 : Int32) <<< (i1 &&& 31)) ^^^ (-1 : Int32))) iv else J_X9_sleeps_40 w ((iv 42 1) ||| ((1 : Int32) <<< (i1 &&& 31))) iv))
theorem R_X9_sleeps {E : am_E} {S : am_S} {Q : am_O → am_S → am_I → Prop} {w : Nat} (hL : am_Lay S) (hw : w = 2 ∨ w = 22) (h9 : S.2.1 0 3 = some w) {i1 i2 : Int32} {iv : am_I} {y : Option (am_I)} (e : F_X9_sleeps w i1 i2 iv = some y) (h : am_qt (fun v => Q (.inl none) S v) (∀ nx, S.2.2.2 ≤ nx → Q (.inr "java/util/NoSuchElementException") (S.1, S.2.1, S.2.2.1, nx) iv) y) {d : Nat} (hd : 8 ≤ d) : am_M E d mX9_sleeps 1 6 [.ref 0, .int i1, .int i2] S iv Q := by
  refine am_enter (js := [.double 0]) rfl pn_X9 rfl rfl rfl (Nat.le_of_ble_eq_true rfl) (am_R.deep ?_ hd)
  refine (sX9_sleeps_0 rfl (sX9_sleeps_1 ?_))
  replace e := am_ot_i e; rcases e with ⟨w1, e1, e⟩ | ⟨e1, e⟩
  · refine sX9_sleeps_2_k (k' := 1) (n' := 6) (k := 0) (n := 0) (hL.1 _ _ rfl) (Nat.le_of_ble_eq_true rfl) (R_X9_demandDrawer hL hw h9 (hd := (Nat.le_of_ble_eq_true rfl)) (e := e1) (h := ?_))
    refine (sX9_sleeps_5 (sX9_sleeps_6 (sX9_sleeps_7 (sX9_sleeps_8 (sX9_sleeps_9 rfl (sX9_sleeps_10 (hL.1 _ _ rfl) (hL.2.1 _ _ _ rfl) (sX9_sleeps_13 ?_)))))))
    refine sX9_sleeps_14 (fun hbr => ?_) (fun hbr => ?_)
    · replace e := am_pos hbr e
      refine (sX9_sleeps_29 rfl (sX9_sleeps_30 (hL.1 _ _ rfl) (hL.2.1 _ _ _ rfl) (sX9_sleeps_33 (hL.1 _ _ rfl) (sX9_sleeps_36 (sX9_sleeps_37 (sX9_sleeps_38 (sX9_sleeps_39 ?_)))))))
      exact j_X9_sleeps_40 hL hw h9 e h
    · replace e := am_neg hbr e
      refine (sX9_sleeps_17 rfl (sX9_sleeps_18 (hL.1 _ _ rfl) (hL.2.1 _ _ _ rfl) (sX9_sleeps_21 (hL.1 _ _ rfl) (sX9_sleeps_24 (sX9_sleeps_25 (sX9_sleeps_26 ?_))))))
      exact j_X9_sleeps_40 hL hw h9 e h
  · refine sX9_sleeps_2_k (k' := 1) (n' := 6) (k := 0) (n := 0) (hL.1 _ _ rfl) (Nat.le_of_ble_eq_true rfl) (R_X9_demandDrawer hL hw h9 (hd := (Nat.le_of_ble_eq_true rfl)) (e := e1) (h := (fun nx hnx => am_Tout rfl ?_)))
    obtain rfl := Option.some.inj e
    exact h nx hnx
def F_X9_row (w : Nat) (pp : Nat) (np : Nat) (i1 : Int32) (iv : am_I) : Option (Option (Int32)) :=
  (if (iv 0 10) = (-1 : Int32) then some none else (if i1 = (-1 : Int32) then some (some (iv 0 10)) else (if i1 < 0 then some none else (if i1 < (iv 0 10) then (if vp_b i1 np then some (some (iv pp i1.toNatClampNeg)) else none) else some none))))
theorem R_X9_row {E : am_E} {S : am_S} {Q : am_O → am_S → am_I → Prop} {w : Nat} {pp : Nat} {np : Nat} (hL : am_Lay S) (hw : w = 2 ∨ w = 22) (h9 : S.2.1 0 3 = some w) (hP : am_Pd S pp np) {i1 : Int32} {iv : am_I} {y : Option (Int32)} (e : F_X9_row w pp np i1 iv = some y) (h : am_qt (fun v => Q (.inl (some (.int v))) S iv) (∀ nx, S.2.2.2 ≤ nx → Q (.inr "java/util/NoSuchElementException") (S.1, S.2.1, S.2.2.1, nx) iv) y) {d : Nat} (hd : 7 ≤ d) : am_M E d mX9_row 1 6 [.ref 0, .int i1] S iv Q := by
  refine am_enter (js := []) rfl pn_X9 rfl rfl rfl (Nat.le_of_ble_eq_true rfl) (am_R.deep ?_ hd)
  refine (sX9_row_0 rfl (sX9_row_1 (hL.1 _ _ rfl) (sX9_row_4 ?_)))
  refine sX9_row_5 (fun hbr => ?_) (fun hbr => ?_)
  · replace e := am_neg hbr e
    refine (sX9_row_18 (sX9_row_19 ?_))
    refine sX9_row_20 (fun hbr => ?_) (fun hbr => ?_)
    · replace e := am_neg hbr e
      refine (sX9_row_28 ?_)
      refine sX9_row_29 (fun hbr => ?_) (fun hbr => ?_)
      · replace e := am_pos hbr e
        refine (sX9_row_40 (Nat.le_of_ble_eq_true rfl) (fun nx hnx => ?_))
        obtain rfl := Option.some.inj e
        exact h nx hnx
      · replace e := am_neg hbr e
        refine (sX9_row_32 (sX9_row_33 rfl (sX9_row_34 (hL.1 _ _ rfl) ?_)))
        refine sX9_row_37 (fun hbr => ?_) (fun hbr => ?_)
        · replace e := am_pos hbr e
          replace e := am_ckv e; obtain ⟨c1, e⟩ := e
          refine (sX9_row_50 rfl (sX9_row_51 (hL.1 _ _ rfl) (hP.1) (sX9_row_54 (sX9_row_55 (hP.2) c1 (sX9_row_56 ?_)))))
          obtain rfl := Option.some.inj e
          exact h
        · replace e := am_neg hbr e
          refine (sX9_row_40 (Nat.le_of_ble_eq_true rfl) (fun nx hnx => ?_))
          obtain rfl := Option.some.inj e
          exact h nx hnx
    · replace e := am_pos hbr e
      refine (sX9_row_23 rfl (sX9_row_24 (hL.1 _ _ rfl) (sX9_row_27 ?_)))
      obtain rfl := Option.some.inj e
      exact h
  · replace e := am_pos hbr e
    refine (sX9_row_8 (Nat.le_of_ble_eq_true rfl) (fun nx hnx => ?_))
    obtain rfl := Option.some.inj e
    exact h nx hnx
def B_X9_wind_38 (w : Nat) (i2 : Int32) (i5 : Int32) (i3 : Int32) (i4 : Int32) (i6 : Int32) (iv : am_I) : Option ((Int32 × Int32 × Int32 × am_I) ⊕ (Int32 × Int32 × am_I)) :=
  (if (iv (w + 1) 0) ≤ i6 then some (.inr (i3, i4, iv)) else (if (((iv 42 0) >>> (i6 &&& 31)) &&& (1 : Int32)) = 0 then some (.inl (i3, i4, (i6 + 1), iv)) else (if vp_b i6 10 then (if ((iv w 6) * (iv (w + 6) i6.toNatClampNeg)) ≤ ((((((i4 * (1103515245 : Int32)) + (12345 : Int32)).toUInt32 >>> ((16 : Int32).toUInt32 &&& Int32.toUInt32 31)).toInt32) &&& (32767 : Int32)) - (((((i4 * (1103515245 : Int32)) + (12345 : Int32)).toUInt32 >>> ((16 : Int32).toUInt32 &&& Int32.toUInt32 31)).toInt32) &&& (32767 : Int32)) / (1000 : Int32) * (1000 : Int32)) then some (.inl (i3, ((i4 * (1103515245 : Int32)) + (12345 : Int32)), (i6 + 1), iv)) else (am_o1 (F_X9_slam w i6 iv) fun w2 => some (.inl ((i3 + 1), ((i4 * (1103515245 : Int32)) + (12345 : Int32)), (i6 + 1), w2)))) else none)))
theorem b_X9_wind_38 {E : am_E} {S : am_S} {Q : am_O → am_S → am_I → Prop} {w : Nat} (hL : am_Lay S) (hw : w = 2 ∨ w = 22) (h9 : S.2.1 0 3 = some w) {z1 : Value} {i2 i5 i3 i4 i6 : Int32} {iv : am_I} {y : (Int32 × Int32 × Int32 × am_I) ⊕ (Int32 × Int32 × am_I)} (e : B_X9_wind_38 w i2 i5 i3 i4 i6 iv = some y) (hc : ∀ s, y = .inl s → ∀ z1 : Value, am_R E 7 mX9_wind 1 6 38 [.ref 0, z1, .int i2, .int s.1, .int s.2.1, .int i5, .int s.2.2.1] [] S s.2.2.2 Q) (hx : ∀ a, y = .inr a → ∀ z1 z6 : Value, am_R E 7 mX9_wind 1 6 132 [.ref 0, z1, .int i2, .int a.1, .int a.2.1, .int i5, z6] [] S a.2.2 Q) : am_R E 7 mX9_wind 1 6 38 [.ref 0, z1, .int i2, .int i3, .int i4, .int i5, .int i6] [] S iv Q := by
  refine (sX9_wind_38 (sX9_wind_40 rfl (sX9_wind_41 (hL.1 _ _ rfl) h9 (sX9_wind_44 (kW_0 hL hw) (rW_0_7 hL hw) (sX9_wind_47 (kW_1 hL hw) ?_)))))
  refine sX9_wind_50 (fun hbr => ?_) (fun hbr => ?_)
  · replace e := am_pos hbr e
    exact hx _ (Option.some.inj e).symm _ _
  · replace e := am_neg hbr e
    refine (sX9_wind_53 rfl (sX9_wind_54 (hL.1 _ _ rfl) (hL.2.1 _ _ _ rfl) (sX9_wind_57 (hL.1 _ _ rfl) (sX9_wind_60 (sX9_wind_62 (sX9_wind_63 (sX9_wind_64 ?_)))))))
    refine sX9_wind_65 (fun hbr => ?_) (fun hbr => ?_)
    · replace e := am_pos hbr e
      refine (sX9_wind_126 (sX9_wind_129 ?_))
      exact hc _ (Option.some.inj e).symm _
    · replace e := am_neg hbr e
      replace e := am_ckv e; obtain ⟨c1, e⟩ := e
      refine (sX9_wind_68 (sX9_wind_70 (sX9_wind_73 (sX9_wind_74 (sX9_wind_77 (sX9_wind_78 (sX9_wind_80 (sX9_wind_82 (sX9_wind_84 (sX9_wind_85 (sX9_wind_88 (sX9_wind_89 (sX9_wind_92 (by decide) (sX9_wind_93 rfl (sX9_wind_94 (hL.1 _ _ rfl) h9 (sX9_wind_97 (kW_0 hL hw) (sX9_wind_100 rfl (sX9_wind_101 (hL.1 _ _ rfl) h9 (sX9_wind_104 (kW_0 hL hw) (rW_0_7 hL hw) (sX9_wind_107 (kW_1 hL hw) (rW_1_5 hL hw) (sX9_wind_110 (sX9_wind_112 (kW_6 hL hw) c1 (sX9_wind_113 ?_)))))))))))))))))))))))
      refine sX9_wind_114 (fun hbr => ?_) (fun hbr => ?_)
      · replace e := am_pos hbr e
        refine (sX9_wind_126 (sX9_wind_129 ?_))
        exact hc _ (Option.some.inj e).symm _
      · replace e := am_neg hbr e
        replace e := am_o1_i e; obtain ⟨w2, e2, e⟩ := e
        refine (sX9_wind_117 rfl (sX9_wind_118 (sX9_wind_120 (hL.1 _ _ rfl) (Nat.le_of_ble_eq_true rfl) (R_X9_slam hL hw h9 (h := (sX9_wind_123 (sX9_wind_126 (sX9_wind_129 ?_)))) (hd := (Nat.le_of_ble_eq_true rfl)) (e := e2)))))
        exact hc _ (Option.some.inj e).symm _
theorem l_X9_wind_38 {E : am_E} {S : am_S} {Q : am_O → am_S → am_I → Prop} {w : Nat} (hL : am_Lay S) (hw : w = 2 ∨ w = 22) (h9 : S.2.1 0 3 = some w) {i2 i5 : Int32} (s : (Int32 × Int32 × Int32 × am_I)) {x : (Int32 × Int32 × am_I)} (e : am_loop (fun s : (Int32 × Int32 × Int32 × am_I) => B_X9_wind_38 w i2 i5 s.1 s.2.1 s.2.2.1 s.2.2.2) s = some x) (hx : ∀ z1 z6 : Value, am_R E 7 mX9_wind 1 6 132 [.ref 0, z1, .int i2, .int x.1, .int x.2.1, .int i5, z6] [] S x.2.2 Q) : ∀ z1 : Value, am_R E 7 mX9_wind 1 6 38 [.ref 0, z1, .int i2, .int s.1, .int s.2.1, .int i5, .int s.2.2.1] [] S s.2.2.2 Q :=
  am_wh_sound (f := fun s : (Int32 × Int32 × Int32 × am_I) => B_X9_wind_38 w i2 i5 s.1 s.2.1 s.2.2.1 s.2.2.2) (P := fun s => ∀ z1 : Value, am_R E 7 mX9_wind 1 6 38 [.ref 0, z1, .int i2, .int s.1, .int s.2.1, .int i5, .int s.2.2.1] [] S s.2.2.2 Q) (K := fun x => ∀ z1 z6 : Value, am_R E 7 mX9_wind 1 6 132 [.ref 0, z1, .int i2, .int x.1, .int x.2.1, .int i5, z6] [] S x.2.2 Q) (fun s y e hc hkk => fun z1 => b_X9_wind_38 hL hw h9 e hc (fun a hy => hkk a hy)) am_fu s x e hx
def B_X9_wind_29 (w : Nat) (i2 : Int32) (i3 : Int32) (i4 : Int32) (i5 : Int32) (iv : am_I) : Option ((Int32 × Int32 × Int32 × am_I) ⊕ (Int32 × am_I)) :=
  (if i2 ≤ i5 then some (.inr (i3, iv)) else (am_o1 (am_loop (fun s : (Int32 × Int32 × Int32 × am_I) => B_X9_wind_38 w i2 i5 s.1 s.2.1 s.2.2.1 s.2.2.2) (i3, i4, (0 : Int32), iv)) fun a3 => some (.inl (a3.1, a3.2.1, (i5 + 1), a3.2.2))))
theorem b_X9_wind_29 {E : am_E} {S : am_S} {Q : am_O → am_S → am_I → Prop} {w : Nat} (hL : am_Lay S) (hw : w = 2 ∨ w = 22) (h9 : S.2.1 0 3 = some w) {z1 z6 : Value} {i2 i3 i4 i5 : Int32} {iv : am_I} {y : (Int32 × Int32 × Int32 × am_I) ⊕ (Int32 × am_I)} (e : B_X9_wind_29 w i2 i3 i4 i5 iv = some y) (hc : ∀ s, y = .inl s → ∀ z1 z6 : Value, am_R E 7 mX9_wind 1 6 29 [.ref 0, z1, .int i2, .int s.1, .int s.2.1, .int s.2.2.1, z6] [] S s.2.2.2 Q) (hx : ∀ a, y = .inr a → ∀ z1 z4 z5 z6 : Value, am_R E 7 mX9_wind 1 6 138 [.ref 0, z1, .int i2, .int a.1, z4, z5, z6] [] S a.2 Q) : am_R E 7 mX9_wind 1 6 29 [.ref 0, z1, .int i2, .int i3, .int i4, .int i5, z6] [] S iv Q := by
  refine (sX9_wind_29 (sX9_wind_31 ?_))
  refine sX9_wind_32 (fun hbr => ?_) (fun hbr => ?_)
  · replace e := am_pos hbr e
    exact hx _ (Option.some.inj e).symm _ _ _ _
  · replace e := am_neg hbr e
    refine (sX9_wind_35 (sX9_wind_36 ?_))
    replace e := am_o1_i e; obtain ⟨a3, e3, e⟩ := e
    refine l_X9_wind_38 hL hw h9 _ e3 ?_ _
    intro z1 z6
    refine (sX9_wind_132 (sX9_wind_135 ?_))
    exact hc _ (Option.some.inj e).symm _ _
theorem l_X9_wind_29 {E : am_E} {S : am_S} {Q : am_O → am_S → am_I → Prop} {w : Nat} (hL : am_Lay S) (hw : w = 2 ∨ w = 22) (h9 : S.2.1 0 3 = some w) {i2 : Int32} (s : (Int32 × Int32 × Int32 × am_I)) {x : (Int32 × am_I)} (e : am_loop (fun s : (Int32 × Int32 × Int32 × am_I) => B_X9_wind_29 w i2 s.1 s.2.1 s.2.2.1 s.2.2.2) s = some x) (hx : ∀ z1 z4 z5 z6 : Value, am_R E 7 mX9_wind 1 6 138 [.ref 0, z1, .int i2, .int x.1, z4, z5, z6] [] S x.2 Q) : ∀ z1 z6 : Value, am_R E 7 mX9_wind 1 6 29 [.ref 0, z1, .int i2, .int s.1, .int s.2.1, .int s.2.2.1, z6] [] S s.2.2.2 Q :=
  am_wh_sound (f := fun s : (Int32 × Int32 × Int32 × am_I) => B_X9_wind_29 w i2 s.1 s.2.1 s.2.2.1 s.2.2.2) (P := fun s => ∀ z1 z6 : Value, am_R E 7 mX9_wind 1 6 29 [.ref 0, z1, .int i2, .int s.1, .int s.2.1, .int s.2.2.1, z6] [] S s.2.2.2 Q) (K := fun x => ∀ z1 z4 z5 z6 : Value, am_R E 7 mX9_wind 1 6 138 [.ref 0, z1, .int i2, .int x.1, z4, z5, z6] [] S x.2 Q) (fun s y e hc hkk => fun z1 z6 => b_X9_wind_29 hL hw h9 e hc (fun a hy => hkk a hy)) am_fu s x e hx
def F_X9_wind (w : Nat) (i1 : Int32) (i2 : Int32) (iv : am_I) : Option (Option (Int32 × am_I)) :=
  (if i2 < 0 then some none else (if i2 ≤ (60 : Int32) then (am_o1 (am_loop (fun s : (Int32 × Int32 × Int32 × am_I) => B_X9_wind_29 w i2 s.1 s.2.1 s.2.2.1 s.2.2.2) ((0 : Int32), i1, (0 : Int32), iv)) fun a4 => (if i2 ≤ 0 then some (some (a4.1, a4.2)) else some (some (a4.1, (am_w a4.2 42 3 (0 : Int32)))))) else some none))
theorem R_X9_wind {E : am_E} {S : am_S} {Q : am_O → am_S → am_I → Prop} {w : Nat} (hL : am_Lay S) (hw : w = 2 ∨ w = 22) (h9 : S.2.1 0 3 = some w) {i1 i2 : Int32} {iv : am_I} {y : Option (Int32 × am_I)} (e : F_X9_wind w i1 i2 iv = some y) (h : am_qt (fun v => Q (.inl (some (.int v.1))) S v.2) (∀ nx, S.2.2.2 ≤ nx → Q (.inr "java/lang/IllegalArgumentException") (S.1, S.2.1, S.2.2.1, nx) iv) y) {d : Nat} (hd : 7 ≤ d) : am_M E d mX9_wind 1 6 [.ref 0, .int i1, .int i2] S iv Q := by
  refine am_enter (js := [.double 0, .double 0, .double 0, .double 0]) rfl pn_X9 rfl rfl rfl (Nat.le_of_ble_eq_true rfl) (am_R.deep ?_ hd)
  refine (sX9_wind_0 ?_)
  refine sX9_wind_1 (fun hbr => ?_) (fun hbr => ?_)
  · replace e := am_pos hbr e
    refine (sX9_wind_10 (Nat.le_of_ble_eq_true rfl) (fun nx hnx => ?_))
    obtain rfl := Option.some.inj e
    exact h nx hnx
  · replace e := am_neg hbr e
    refine (sX9_wind_4 (sX9_wind_5 ?_))
    refine sX9_wind_7 (fun hbr => ?_) (fun hbr => ?_)
    · replace e := am_pos hbr e
      refine (sX9_wind_21 (sX9_wind_22 (sX9_wind_23 (sX9_wind_24 (sX9_wind_26 (sX9_wind_27 ?_))))))
      replace e := am_o1_i e; obtain ⟨a4, e4, e⟩ := e
      refine l_X9_wind_29 hL hw h9 _ e4 ?_ _ _
      intro z1 z4 z5 z6
      refine (sX9_wind_138 ?_)
      refine sX9_wind_139 (fun hbr => ?_) (fun hbr => ?_)
      · replace e := am_pos hbr e
        refine (sX9_wind_150 (sX9_wind_151 ?_))
        obtain rfl := Option.some.inj e
        exact h
      · replace e := am_neg hbr e
        refine (sX9_wind_142 rfl (sX9_wind_143 (hL.1 _ _ rfl) (hL.2.1 _ _ _ rfl) (sX9_wind_146 (sX9_wind_147 (hL.1 _ _ rfl) (sX9_wind_150 (sX9_wind_151 ?_))))))
        obtain rfl := Option.some.inj e
        exact h
    · replace e := am_neg hbr e
      refine (sX9_wind_10 (Nat.le_of_ble_eq_true rfl) (fun nx hnx => ?_))
      obtain rfl := Option.some.inj e
      exact h nx hnx
def F_X9_who (w : Nat) (i1 : Int32) (iv : am_I) : Option (Option (Int32)) :=
  (am_ot (F_X9_demandDrawer w i1 iv) fun _ => (if (((iv 42 0) >>> (i1 &&& 31)) &&& (1 : Int32)) = 0 then some (some (-1 : Int32)) else (am_o1 (F_X0_handsNear w i1 (iv 42 0) iv) fun v2 => some (some v2))))
theorem R_X9_who {E : am_E} {S : am_S} {Q : am_O → am_S → am_I → Prop} {w : Nat} (hL : am_Lay S) (hw : w = 2 ∨ w = 22) (h9 : S.2.1 0 3 = some w) {i1 : Int32} {iv : am_I} {y : Option (Int32)} (e : F_X9_who w i1 iv = some y) (h : am_qt (fun v => Q (.inl (some (.int v))) S iv) (∀ nx, S.2.2.2 ≤ nx → Q (.inr "java/util/NoSuchElementException") (S.1, S.2.1, S.2.2.1, nx) iv) y) {d : Nat} (hd : 8 ≤ d) : am_M E d mX9_who 1 6 [.ref 0, .int i1] S iv Q := by
  refine am_enter (js := []) rfl pn_X9 rfl rfl rfl (Nat.le_of_ble_eq_true rfl) (am_R.deep ?_ hd)
  refine (sX9_who_0 rfl (sX9_who_1 ?_))
  replace e := am_ot_i e; rcases e with ⟨w1, e1, e⟩ | ⟨e1, e⟩
  · refine sX9_who_2_k (k' := 1) (n' := 6) (k := 0) (n := 0) (hL.1 _ _ rfl) (Nat.le_of_ble_eq_true rfl) (R_X9_demandDrawer hL hw h9 (hd := (Nat.le_of_ble_eq_true rfl)) (e := e1) (h := ?_))
    refine (sX9_who_5 rfl (sX9_who_6 (hL.1 _ _ rfl) (hL.2.1 _ _ _ rfl) (sX9_who_9 (hL.1 _ _ rfl) (sX9_who_12 (sX9_who_13 (sX9_who_14 (sX9_who_15 ?_)))))))
    refine sX9_who_16 (fun hbr => ?_) (fun hbr => ?_)
    · replace e := am_neg hbr e
      replace e := am_o1_i e; obtain ⟨v2, e2, e⟩ := e
      refine (sX9_who_21 rfl (sX9_who_22 (hL.1 _ _ rfl) h9 (sX9_who_25 (sX9_who_26 rfl (sX9_who_27 (hL.1 _ _ rfl) (hL.2.1 _ _ _ rfl) (sX9_who_30 (hL.1 _ _ rfl) (sX9_who_33 (kW_0 hL hw) (Nat.le_of_ble_eq_true rfl) (R_X0_handsNear hL hw (h := (sX9_who_36 ?_)) (hd := (Nat.le_of_ble_eq_true rfl)) (e := e2)))))))))
      obtain rfl := Option.some.inj e
      exact h
    · replace e := am_pos hbr e
      refine (sX9_who_19 (sX9_who_20 ?_))
      obtain rfl := Option.some.inj e
      exact h
  · refine sX9_who_2_k (k' := 1) (n' := 6) (k := 0) (n := 0) (hL.1 _ _ rfl) (Nat.le_of_ble_eq_true rfl) (R_X9_demandDrawer hL hw h9 (hd := (Nat.le_of_ble_eq_true rfl)) (e := e1) (h := (fun nx hnx => am_Tout rfl ?_)))
    obtain rfl := Option.some.inj e
    exact h nx hnx
def J_X9_odds_88 (w : Nat) (i3 : Int32) (i4 : Int32) (k0 : Int32) (iv : am_I) : Option (Option (Int32)) :=
  (if k0 = 0 then some (some i3) else (am_o1 (F_X4_weightOf w i4 iv) fun v4 => (am_o1 (F_X9_commonDivisor k0 v4 iv) fun v5 => (if i3 = 0 then (if v5 = 0 then none else some (some (k0 / v5))) else (if v5 = 0 then none else some (some (v4 / v5)))))))
theorem j_X9_odds_88 {E : am_E} {S : am_S} {Q : am_O → am_S → am_I → Prop} {w : Nat} (hL : am_Lay S) (hw : w = 2 ∨ w = 22) (h9 : S.2.1 0 3 = some w) {z1 z2 z5 z6 z7 : Value} {i3 i4 k0 : Int32} {iv : am_I} {y : Option (Int32)} (e : J_X9_odds_88 w i3 i4 k0 iv = some y) (h : am_qt (fun v => Q (.inl (some (.int v))) S iv) (∀ nx, S.2.2.2 ≤ nx → Q (.inr "java/util/NoSuchElementException") (S.1, S.2.1, S.2.2.1, nx) iv) y) : am_R E 8 mX9_odds 1 6 88 [.ref 0, z1, z2, .int i3, .int i4, z5, z6, z7] [.int k0] S iv Q := by
  refine (sX9_odds_88 (sX9_odds_90 ?_))
  refine sX9_odds_92 (fun hbr => ?_) (fun hbr => ?_)
  · replace e := am_neg hbr e
    replace e := am_o1_i e; obtain ⟨v4, e4, e⟩ := e
    replace e := am_o1_i e; obtain ⟨v5, e5, e⟩ := e
    refine (sX9_odds_97 rfl (sX9_odds_98 (hL.1 _ _ rfl) h9 (sX9_odds_101 (kW_0 hL hw) (rW_0_8 hL hw) (sX9_odds_104 (sX9_odds_106 (kW_10 hL hw) (Nat.le_of_ble_eq_true rfl) (R_X4_weightOf hL hw (h := (sX9_odds_109 (sX9_odds_111 (sX9_odds_113 (sX9_odds_115 (Nat.le_of_ble_eq_true rfl) (R_X9_commonDivisor (h := (sX9_odds_118 (sX9_odds_120 ?_))) (hd := (Nat.le_of_ble_eq_true rfl)) (e := e5))))))) (hd := (Nat.le_of_ble_eq_true rfl)) (e := e4)))))))
    refine sX9_odds_121 (fun hbr => ?_) (fun hbr => ?_)
    · replace e := am_neg hbr e
      replace e := am_ckn e; obtain ⟨c6, e⟩ := e
      refine (sX9_odds_129 (sX9_odds_131 (sX9_odds_133 c6 (sX9_odds_134 ?_))))
      obtain rfl := Option.some.inj e
      exact h
    · replace e := am_pos hbr e
      replace e := am_ckn e; obtain ⟨c7, e⟩ := e
      refine (sX9_odds_124 (sX9_odds_126 (sX9_odds_131 (sX9_odds_133 c7 (sX9_odds_134 ?_)))))
      obtain rfl := Option.some.inj e
      exact h
  · replace e := am_pos hbr e
    refine (sX9_odds_95 (sX9_odds_96 ?_))
    obtain rfl := Option.some.inj e
    exact h
def J_X9_odds_30 (w : Nat) (i1 : Int32) (i2 : Int32) (i3 : Int32) (iv : am_I) : Option (Option (Int32)) :=
  (if (((iv 42 0) >>> (i1 &&& 31)) &&& (1 : Int32)) = 0 then some (some (-1 : Int32)) else (am_o1 (F_X0_handsNear w i1 (iv 42 0) iv) fun v3 => (if ((v3 >>> (i2 &&& 31)) &&& (1 : Int32)) = 0 then J_X9_odds_88 w i3 v3 (0 : Int32) iv else (if vp_b i2 5 then J_X9_odds_88 w i3 v3 (iv (w + 13) i2.toNatClampNeg) iv else none))))
theorem j_X9_odds_30 {E : am_E} {S : am_S} {Q : am_O → am_S → am_I → Prop} {w : Nat} (hL : am_Lay S) (hw : w = 2 ∨ w = 22) (h9 : S.2.1 0 3 = some w) {z4 z5 z6 z7 : Value} {i1 i2 i3 : Int32} {iv : am_I} {y : Option (Int32)} (e : J_X9_odds_30 w i1 i2 i3 iv = some y) (h : am_qt (fun v => Q (.inl (some (.int v))) S iv) (∀ nx, S.2.2.2 ≤ nx → Q (.inr "java/util/NoSuchElementException") (S.1, S.2.1, S.2.2.1, nx) iv) y) : am_R E 8 mX9_odds 1 6 30 [.ref 0, .int i1, .int i2, .int i3, z4, z5, z6, z7] [] S iv Q := by
  refine (sX9_odds_30 rfl (sX9_odds_31 (hL.1 _ _ rfl) (hL.2.1 _ _ _ rfl) (sX9_odds_34 (hL.1 _ _ rfl) (sX9_odds_37 (sX9_odds_38 (sX9_odds_39 (sX9_odds_40 ?_)))))))
  refine sX9_odds_41 (fun hbr => ?_) (fun hbr => ?_)
  · replace e := am_neg hbr e
    replace e := am_o1_i e; obtain ⟨v3, e3, e⟩ := e
    refine (sX9_odds_46 rfl (sX9_odds_47 (hL.1 _ _ rfl) h9 (sX9_odds_50 (sX9_odds_51 rfl (sX9_odds_52 (hL.1 _ _ rfl) (hL.2.1 _ _ _ rfl) (sX9_odds_55 (hL.1 _ _ rfl) (sX9_odds_58 (kW_0 hL hw) (Nat.le_of_ble_eq_true rfl) (R_X0_handsNear hL hw (h := (sX9_odds_61 (sX9_odds_63 (sX9_odds_65 (sX9_odds_66 (sX9_odds_67 (sX9_odds_68 ?_))))))) (hd := (Nat.le_of_ble_eq_true rfl)) (e := e3)))))))))
    refine sX9_odds_69 (fun hbr => ?_) (fun hbr => ?_)
    · replace e := am_pos hbr e
      refine (sX9_odds_87 ?_)
      exact j_X9_odds_88 hL hw h9 e h
    · replace e := am_neg hbr e
      replace e := am_ckv e; obtain ⟨c8, e⟩ := e
      refine (sX9_odds_72 rfl (sX9_odds_73 (hL.1 _ _ rfl) h9 (sX9_odds_76 (kW_0 hL hw) (rW_0_8 hL hw) (sX9_odds_79 (kW_10 hL hw) (rW_10_3 hL hw) (sX9_odds_82 (sX9_odds_83 (kW_13 hL hw) c8 (sX9_odds_84 ?_)))))))
      exact j_X9_odds_88 hL hw h9 e h
  · replace e := am_pos hbr e
    refine (sX9_odds_44 (sX9_odds_45 ?_))
    obtain rfl := Option.some.inj e
    exact h
def F_X9_odds (w : Nat) (i1 : Int32) (i2 : Int32) (i3 : Int32) (iv : am_I) : Option (Option (Int32)) :=
  (am_ot (F_X9_demandDrawer w i1 iv) fun _ => (am_ot (F_X9_demandPerson w i2 iv) fun _ => (if i3 = 0 then J_X9_odds_30 w i1 i2 i3 iv else (if i3 = (1 : Int32) then J_X9_odds_30 w i1 i2 i3 iv else some none))))
theorem R_X9_odds {E : am_E} {S : am_S} {Q : am_O → am_S → am_I → Prop} {w : Nat} (hL : am_Lay S) (hw : w = 2 ∨ w = 22) (h9 : S.2.1 0 3 = some w) {i1 i2 i3 : Int32} {iv : am_I} {y : Option (Int32)} (e : F_X9_odds w i1 i2 i3 iv = some y) (h : am_qt (fun v => Q (.inl (some (.int v))) S iv) (∀ nx, S.2.2.2 ≤ nx → Q (.inr "java/util/NoSuchElementException") (S.1, S.2.1, S.2.2.1, nx) iv) y) {d : Nat} (hd : 8 ≤ d) : am_M E d mX9_odds 3 18 [.ref 0, .int i1, .int i2, .int i3] S iv Q := by
  refine am_enter (js := [.double 0, .double 0, .double 0, .double 0]) rfl pn_X9 rfl rfl rfl (Nat.le_of_ble_eq_true rfl) (am_R.deep ?_ hd)
  refine (sX9_odds_0 rfl (sX9_odds_1 ?_))
  replace e := am_ot_i e; rcases e with ⟨w1, e1, e⟩ | ⟨e1, e⟩
  · refine sX9_odds_2_k (k' := 1) (n' := 6) (k := 2) (n := 12) (hL.1 _ _ rfl) (Nat.le_of_ble_eq_true rfl) (R_X9_demandDrawer hL hw h9 (hd := (Nat.le_of_ble_eq_true rfl)) (e := e1) (h := ?_))
    refine (sX9_odds_5 rfl (sX9_odds_6 ?_))
    replace e := am_ot_i e; rcases e with ⟨w2, e2, e⟩ | ⟨e2, e⟩
    · refine sX9_odds_7_k (k' := 1) (n' := 6) (k := 1) (n := 6) (hL.1 _ _ rfl) (Nat.le_of_ble_eq_true rfl) (R_X9_demandPerson hL hw h9 (hd := (Nat.le_of_ble_eq_true rfl)) (e := e2) (h := ?_))
      refine (sX9_odds_10 ?_)
      refine sX9_odds_11 (fun hbr => ?_) (fun hbr => ?_)
      · replace e := am_pos hbr e
        exact j_X9_odds_30 hL hw h9 e h
      · replace e := am_neg hbr e
        refine (sX9_odds_14 (sX9_odds_15 ?_))
        refine sX9_odds_16 (fun hbr => ?_) (fun hbr => ?_)
        · replace e := am_pos hbr e
          exact j_X9_odds_30 hL hw h9 e h
        · replace e := am_neg hbr e
          refine (sX9_odds_19 (Nat.le_of_ble_eq_true rfl) (fun nx hnx => ?_))
          obtain rfl := Option.some.inj e
          exact h nx hnx
    · refine sX9_odds_7_k (k' := 1) (n' := 6) (k := 1) (n := 6) (hL.1 _ _ rfl) (Nat.le_of_ble_eq_true rfl) (R_X9_demandPerson hL hw h9 (hd := (Nat.le_of_ble_eq_true rfl)) (e := e2) (h := (fun nx hnx => am_Tout rfl ?_)))
      obtain rfl := Option.some.inj e
      exact h nx hnx
  · refine sX9_odds_2_k (k' := 1) (n' := 6) (k := 2) (n := 12) (hL.1 _ _ rfl) (Nat.le_of_ble_eq_true rfl) (R_X9_demandDrawer hL hw h9 (hd := (Nat.le_of_ble_eq_true rfl)) (e := e1) (h := (fun nx hnx => am_Tout rfl ?_)))
    obtain rfl := Option.some.inj e
    exact h nx hnx
