/-! functions of the methods, and their rows (by program) -/
def J_X10_readPart_56 (rc : Int32 → am_I → Option am_I) (i2 : Int32) (iv : am_I) : Option (am_I) :=
  (am_o1 (F_X10_lay ((-1 : Int32) - i2) iv) fun w5 => (if (w5 54 25) = 0 then (am_o1 (F_X10_stepOn  w5) fun w6 => some w6) else some w5))
theorem j_X10_readPart_56 {E : am_E} {S : am_S} {Q : am_O → am_S → am_I → Prop} {D : Nat} {rc : Int32 → am_I → Option am_I} (hrc : ∀ {d' : Nat} {x : Int32} {iv y : am_I} {Q' : am_O → am_S → am_I → Prop}, rc x iv = some y → Q' (.inl none) S y → D ≤ d' → am_M E d' mX10_readExpression 0 0 [.ref 54, .int x] S iv Q') (hL : am_Lay S) {z1 : Value} {i2 : Int32} {iv : am_I} {y : am_I} (e : J_X10_readPart_56 rc i2 iv = some y) (h : Q (.inl none) S y) : am_R E (D + 6) mX10_readPart 0 0 56 [.ref 54, z1, .int i2] [] S iv Q := by
  replace e := am_o1_i e; obtain ⟨w5, e5, e⟩ := e
  refine (sX10_readPart_56 rfl (sX10_readPart_57 (sX10_readPart_58 (sX10_readPart_59 (sX10_readPart_60 (hL.1 _ _ rfl) (Nat.le_of_ble_eq_true rfl) (R_X10_lay hL (h := (sX10_readPart_63 rfl (sX10_readPart_64 (hL.1 _ _ rfl) ?_))) (hd := (by omega)) (e := e5)))))))
  refine sX10_readPart_67 (fun hbr => ?_) (fun hbr => ?_)
  · replace e := am_neg hbr e
    refine (sX10_readPart_74 ?_)
    obtain rfl := Option.some.inj e
    exact h
  · replace e := am_pos hbr e
    replace e := am_o1_i e; obtain ⟨w6, e6, e⟩ := e
    refine (sX10_readPart_70 rfl (sX10_readPart_71 (hL.1 _ _ rfl) (Nat.le_of_ble_eq_true rfl) (R_X10_stepOn hL (h := (sX10_readPart_74 ?_)) (hd := (by omega)) (e := e6))))
    obtain rfl := Option.some.inj e
    exact h
def F_X10_readPart (rc : Int32 → am_I → Option am_I) (i1 : Int32) (iv : am_I) : Option (am_I) :=
  (if (iv 54 25) = 0 then (if (iv 54 21) = (2 : Int32) then (am_o2 (F_X10_readNumber (0 : Int32) (9999 : Int32) iv) fun v8 w8 => (am_o1 (F_X10_lay v8 w8) fun w9 => some w9)) else (if (iv 54 21) = (1 : Int32) then (am_o1 (F_X10_which 57 7  iv) fun v4 => (if v4 = (-1 : Int32) then (am_o1 (F_X10_wrong (3 : Int32) iv) fun w7 => J_X10_readPart_56 rc v4 w7) else J_X10_readPart_56 rc v4 iv)) else (am_o1 (F_X10_mark (40 : Int32) iv) fun w1 => (am_o1 (rc (i1 + (1 : Int32)) w1) fun w2 => (am_o1 (F_X10_mark (41 : Int32) w2) fun w3 => some w3))))) else some iv)
theorem R_X10_readPart {E : am_E} {S : am_S} {Q : am_O → am_S → am_I → Prop} {D : Nat} {rc : Int32 → am_I → Option am_I} (hrc : ∀ {d' : Nat} {x : Int32} {iv y : am_I} {Q' : am_O → am_S → am_I → Prop}, rc x iv = some y → Q' (.inl none) S y → D ≤ d' → am_M E d' mX10_readExpression 0 0 [.ref 54, .int x] S iv Q') (hL : am_Lay S) {i1 : Int32} {iv : am_I} {y : am_I} (e : F_X10_readPart rc i1 iv = some y) (h : Q (.inl none) S y) {d : Nat} (hd : (D + 6) ≤ d) : am_M E d mX10_readPart 0 0 [.ref 54, .int i1] S iv Q := by
  refine am_enter (js := [.double 0]) rfl pn_X10 rfl rfl rfl (Nat.le_of_ble_eq_true rfl) (am_R.deep ?_ hd)
  refine (sX10_readPart_0 rfl (sX10_readPart_1 (hL.1 _ _ rfl) ?_))
  refine sX10_readPart_4 (fun hbr => ?_) (fun hbr => ?_)
  · replace e := am_pos hbr e
    refine (sX10_readPart_8 rfl (sX10_readPart_9 (hL.1 _ _ rfl) (sX10_readPart_12 ?_)))
    refine sX10_readPart_13 (fun hbr => ?_) (fun hbr => ?_)
    · replace e := am_neg hbr e
      refine (sX10_readPart_29 rfl (sX10_readPart_30 (hL.1 _ _ rfl) (sX10_readPart_33 ?_)))
      refine sX10_readPart_34 (fun hbr => ?_) (fun hbr => ?_)
      · replace e := am_neg hbr e
        replace e := am_o1_i e; obtain ⟨w1, e1, e⟩ := e
        replace e := am_o1_i e; obtain ⟨w2, e2, e⟩ := e
        replace e := am_o1_i e; obtain ⟨w3, e3, e⟩ := e
        refine (sX10_readPart_75 rfl (sX10_readPart_76 (sX10_readPart_78 (hL.1 _ _ rfl) (Nat.le_of_ble_eq_true rfl) (R_X10_mark hL (h := (sX10_readPart_81 rfl (sX10_readPart_82 (sX10_readPart_83 (sX10_readPart_84 (sX10_readPart_85 (hL.1 _ _ rfl) (Nat.le_of_ble_eq_true rfl) (hrc e2 (sX10_readPart_88 rfl (sX10_readPart_89 (sX10_readPart_91 (hL.1 _ _ rfl) (Nat.le_of_ble_eq_true rfl) (R_X10_mark hL (h := (sX10_readPart_94 ?_)) (hd := (by omega)) (e := e3))))) (by omega)))))))) (hd := (by omega)) (e := e1)))))
        obtain rfl := Option.some.inj e
        exact h
      · replace e := am_pos hbr e
        replace e := am_o1_i e; obtain ⟨v4, e4, e⟩ := e
        refine (sX10_readPart_37 rfl (sX10_readPart_38 rfl (sX10_readPart_39 (hL.1 _ _ rfl) (hL.2.1 _ _ _ rfl) (sX10_readPart_42 (hL.1 _ _ rfl) (Nat.le_of_ble_eq_true rfl) (R_X10_which hL (hL.1 _ _ rfl) (by decide) (h := (sX10_readPart_45 (sX10_readPart_46 (sX10_readPart_47 ?_)))) (hd := (by omega)) (e := e4))))))
        refine sX10_readPart_48 (fun hbr => ?_) (fun hbr => ?_)
        · replace e := am_neg hbr e
          exact j_X10_readPart_56 hrc hL e h
        · replace e := am_pos hbr e
          replace e := am_o1_i e; obtain ⟨w7, e7, e⟩ := e
          refine (sX10_readPart_51 rfl (sX10_readPart_52 (sX10_readPart_53 (hL.1 _ _ rfl) (Nat.le_of_ble_eq_true rfl) (R_X10_wrong hL (h := ?_) (hd := (by omega)) (e := e7)))))
          exact j_X10_readPart_56 hrc hL e h
    · replace e := am_pos hbr e
      replace e := am_o2_i e; obtain ⟨v8, w8, e8, e⟩ := e
      replace e := am_o1_i e; obtain ⟨w9, e9, e⟩ := e
      refine (sX10_readPart_16 rfl (sX10_readPart_17 rfl (sX10_readPart_18 (sX10_readPart_19 (sX10_readPart_22 (hL.1 _ _ rfl) (Nat.le_of_ble_eq_true rfl) (R_X10_readNumber hL (h := (sX10_readPart_25 (hL.1 _ _ rfl) (Nat.le_of_ble_eq_true rfl) (R_X10_lay hL (h := (sX10_readPart_28 ?_)) (hd := (by omega)) (e := e9)))) (hd := (by omega)) (e := e8)))))))
      obtain rfl := Option.some.inj e
      exact h
  · replace e := am_neg hbr e
    refine (sX10_readPart_7 ?_)
    obtain rfl := Option.some.inj e
    exact h
def J_X10_readProduct_39 (rc : Int32 → am_I → Option am_I) (i1 : Int32) (k0 : Int32) (iv : am_I) : Option ((am_I) ⊕ (am_I)) :=
  (am_o1 (F_X10_stepOn  iv) fun w4 => (am_o1 (F_X10_readPart rc i1 w4) fun w5 => (am_o1 (F_X10_lay k0 w5) fun w6 => some (.inl w6))))
theorem j_X10_readProduct_39 {E : am_E} {S : am_S} {Q : am_O → am_S → am_I → Prop} {D : Nat} {rc : Int32 → am_I → Option am_I} (hrc : ∀ {d' : Nat} {x : Int32} {iv y : am_I} {Q' : am_O → am_S → am_I → Prop}, rc x iv = some y → Q' (.inl none) S y → D ≤ d' → am_M E d' mX10_readExpression 0 0 [.ref 54, .int x] S iv Q') (hL : am_Lay S) {z2 : Value} {i1 k0 : Int32} {iv : am_I} {y : (am_I) ⊕ (am_I)} (e : J_X10_readProduct_39 rc i1 k0 iv = some y) (hc : ∀ s, y = .inl s → ∀ z2 : Value, am_R E (D + 7) mX10_readProduct 0 0 5 [.ref 54, .int i1, z2] [] S s Q) (hx : ∀ a, y = .inr a → ∀ z0 z1 z2 : Value, am_R E (D + 7) mX10_readProduct 0 0 57 [z0, z1, z2] [] S a Q) : am_R E (D + 7) mX10_readProduct 0 0 39 [.ref 54, .int i1, z2] [.int k0] S iv Q := by
  replace e := am_o1_i e; obtain ⟨w4, e4, e⟩ := e
  replace e := am_o1_i e; obtain ⟨w5, e5, e⟩ := e
  replace e := am_o1_i e; obtain ⟨w6, e6, e⟩ := e
  refine (sX10_readProduct_39 (sX10_readProduct_40 rfl (sX10_readProduct_41 (hL.1 _ _ rfl) (Nat.le_of_ble_eq_true rfl) (R_X10_stepOn hL (h := (sX10_readProduct_44 rfl (sX10_readProduct_45 (sX10_readProduct_46 (hL.1 _ _ rfl) (Nat.le_of_ble_eq_true rfl) (R_X10_readPart hrc hL (h := (sX10_readProduct_49 rfl (sX10_readProduct_50 (sX10_readProduct_51 (hL.1 _ _ rfl) (Nat.le_of_ble_eq_true rfl) (R_X10_lay hL (h := (sX10_readProduct_54 ?_)) (hd := (by omega)) (e := e6)))))) (hd := (by omega)) (e := e5)))))) (hd := (by omega)) (e := e4)))))
  exact hc _ (Option.some.inj e).symm _
def J_X10_readProduct_23 (rc : Int32 → am_I → Option am_I) (i1 : Int32) (iv : am_I) : Option ((am_I) ⊕ (am_I)) :=
  (am_o1 (F_X10_isMarked (42 : Int32) iv) fun v3 => (if v3 = 0 then J_X10_readProduct_39 rc i1 (-23 : Int32) iv else J_X10_readProduct_39 rc i1 (-22 : Int32) iv))
theorem j_X10_readProduct_23 {E : am_E} {S : am_S} {Q : am_O → am_S → am_I → Prop} {D : Nat} {rc : Int32 → am_I → Option am_I} (hrc : ∀ {d' : Nat} {x : Int32} {iv y : am_I} {Q' : am_O → am_S → am_I → Prop}, rc x iv = some y → Q' (.inl none) S y → D ≤ d' → am_M E d' mX10_readExpression 0 0 [.ref 54, .int x] S iv Q') (hL : am_Lay S) {z2 : Value} {i1 : Int32} {iv : am_I} {y : (am_I) ⊕ (am_I)} (e : J_X10_readProduct_23 rc i1 iv = some y) (hc : ∀ s, y = .inl s → ∀ z2 : Value, am_R E (D + 7) mX10_readProduct 0 0 5 [.ref 54, .int i1, z2] [] S s Q) (hx : ∀ a, y = .inr a → ∀ z0 z1 z2 : Value, am_R E (D + 7) mX10_readProduct 0 0 57 [z0, z1, z2] [] S a Q) : am_R E (D + 7) mX10_readProduct 0 0 23 [.ref 54, .int i1, z2] [] S iv Q := by
  replace e := am_o1_i e; obtain ⟨v3, e3, e⟩ := e
  refine (sX10_readProduct_23 rfl (sX10_readProduct_24 (sX10_readProduct_26 (hL.1 _ _ rfl) (Nat.le_of_ble_eq_true rfl) (R_X10_isMarked hL (h := ?_) (hd := (by omega)) (e := e3)))))
  refine sX10_readProduct_29 (fun hbr => ?_) (fun hbr => ?_)
  · replace e := am_pos hbr e
    refine (sX10_readProduct_37 ?_)
    exact j_X10_readProduct_39 hrc hL e hc hx
  · replace e := am_neg hbr e
    refine (sX10_readProduct_32 (sX10_readProduct_34 ?_))
    exact j_X10_readProduct_39 hrc hL e hc hx
def B_X10_readProduct_5 (rc : Int32 → am_I → Option am_I) (i1 : Int32) (iv : am_I) : Option ((am_I) ⊕ (am_I)) :=
  (am_o1 (F_X10_isMarked (42 : Int32) iv) fun v2 => (if v2 = 0 then (am_o1 (F_X10_isMarked (47 : Int32) iv) fun v7 => (if v7 = 0 then some (.inr iv) else J_X10_readProduct_23 rc i1 iv)) else J_X10_readProduct_23 rc i1 iv))
theorem b_X10_readProduct_5 {E : am_E} {S : am_S} {Q : am_O → am_S → am_I → Prop} {D : Nat} {rc : Int32 → am_I → Option am_I} (hrc : ∀ {d' : Nat} {x : Int32} {iv y : am_I} {Q' : am_O → am_S → am_I → Prop}, rc x iv = some y → Q' (.inl none) S y → D ≤ d' → am_M E d' mX10_readExpression 0 0 [.ref 54, .int x] S iv Q') (hL : am_Lay S) {z2 : Value} {i1 : Int32} {iv : am_I} {y : (am_I) ⊕ (am_I)} (e : B_X10_readProduct_5 rc i1 iv = some y) (hc : ∀ s, y = .inl s → ∀ z2 : Value, am_R E (D + 7) mX10_readProduct 0 0 5 [.ref 54, .int i1, z2] [] S s Q) (hx : ∀ a, y = .inr a → ∀ z0 z1 z2 : Value, am_R E (D + 7) mX10_readProduct 0 0 57 [z0, z1, z2] [] S a Q) : am_R E (D + 7) mX10_readProduct 0 0 5 [.ref 54, .int i1, z2] [] S iv Q := by
  replace e := am_o1_i e; obtain ⟨v2, e2, e⟩ := e
  refine (sX10_readProduct_5 rfl (sX10_readProduct_6 (sX10_readProduct_8 (hL.1 _ _ rfl) (Nat.le_of_ble_eq_true rfl) (R_X10_isMarked hL (h := ?_) (hd := (by omega)) (e := e2)))))
  refine sX10_readProduct_11 (fun hbr => ?_) (fun hbr => ?_)
  · replace e := am_neg hbr e
    exact j_X10_readProduct_23 hrc hL e hc hx
  · replace e := am_pos hbr e
    replace e := am_o1_i e; obtain ⟨v7, e7, e⟩ := e
    refine (sX10_readProduct_14 rfl (sX10_readProduct_15 (sX10_readProduct_17 (hL.1 _ _ rfl) (Nat.le_of_ble_eq_true rfl) (R_X10_isMarked hL (h := ?_) (hd := (by omega)) (e := e7)))))
    refine sX10_readProduct_20 (fun hbr => ?_) (fun hbr => ?_)
    · replace e := am_pos hbr e
      exact hx _ (Option.some.inj e).symm _ _ _
    · replace e := am_neg hbr e
      exact j_X10_readProduct_23 hrc hL e hc hx
theorem l_X10_readProduct_5 {E : am_E} {S : am_S} {Q : am_O → am_S → am_I → Prop} {D : Nat} {rc : Int32 → am_I → Option am_I} (hrc : ∀ {d' : Nat} {x : Int32} {iv y : am_I} {Q' : am_O → am_S → am_I → Prop}, rc x iv = some y → Q' (.inl none) S y → D ≤ d' → am_M E d' mX10_readExpression 0 0 [.ref 54, .int x] S iv Q') (hL : am_Lay S) {i1 : Int32} (s : (am_I)) {x : (am_I)} (e : am_loop (fun s : (am_I) => B_X10_readProduct_5 rc i1 s) s = some x) (hx : ∀ z0 z1 z2 : Value, am_R E (D + 7) mX10_readProduct 0 0 57 [z0, z1, z2] [] S x Q) : ∀ z2 : Value, am_R E (D + 7) mX10_readProduct 0 0 5 [.ref 54, .int i1, z2] [] S s Q :=
  am_wh_sound (f := fun s : (am_I) => B_X10_readProduct_5 rc i1 s) (P := fun s => ∀ z2 : Value, am_R E (D + 7) mX10_readProduct 0 0 5 [.ref 54, .int i1, z2] [] S s Q) (K := fun x => ∀ z0 z1 z2 : Value, am_R E (D + 7) mX10_readProduct 0 0 57 [z0, z1, z2] [] S x Q) (fun s y e hc hkk => fun z2 => b_X10_readProduct_5 hrc hL e hc (fun a hy => hkk a hy)) am_fu s x e hx
def F_X10_readProduct (rc : Int32 → am_I → Option am_I) (i1 : Int32) (iv : am_I) : Option (am_I) :=
  (am_o1 (F_X10_readPart rc i1 iv) fun w1 => (am_o1 (am_loop (fun s : (am_I) => B_X10_readProduct_5 rc i1 s) w1) fun a8 => some a8))
theorem R_X10_readProduct {E : am_E} {S : am_S} {Q : am_O → am_S → am_I → Prop} {D : Nat} {rc : Int32 → am_I → Option am_I} (hrc : ∀ {d' : Nat} {x : Int32} {iv y : am_I} {Q' : am_O → am_S → am_I → Prop}, rc x iv = some y → Q' (.inl none) S y → D ≤ d' → am_M E d' mX10_readExpression 0 0 [.ref 54, .int x] S iv Q') (hL : am_Lay S) {i1 : Int32} {iv : am_I} {y : am_I} (e : F_X10_readProduct rc i1 iv = some y) (h : Q (.inl none) S y) {d : Nat} (hd : (D + 7) ≤ d) : am_M E d mX10_readProduct 0 0 [.ref 54, .int i1] S iv Q := by
  refine am_enter (js := [.double 0]) rfl pn_X10 rfl rfl rfl (Nat.le_of_ble_eq_true rfl) (am_R.deep ?_ hd)
  replace e := am_o1_i e; obtain ⟨w1, e1, e⟩ := e
  refine (sX10_readProduct_0 rfl (sX10_readProduct_1 (sX10_readProduct_2 (hL.1 _ _ rfl) (Nat.le_of_ble_eq_true rfl) (R_X10_readPart hrc hL (h := ?_) (hd := (by omega)) (e := e1)))))
  replace e := am_o1_i e; obtain ⟨a8, e8, e⟩ := e
  refine l_X10_readProduct_5 hrc hL _ e8 ?_ _
  intro z0 z1 z2
  refine (sX10_readProduct_57 ?_)
  obtain rfl := Option.some.inj e
  exact h
def J_X10_readSum_39 (rc : Int32 → am_I → Option am_I) (i1 : Int32) (k0 : Int32) (iv : am_I) : Option ((am_I) ⊕ (am_I)) :=
  (am_o1 (F_X10_stepOn  iv) fun w4 => (am_o1 (F_X10_readProduct rc i1 w4) fun w5 => (am_o1 (F_X10_lay k0 w5) fun w6 => some (.inl w6))))
theorem j_X10_readSum_39 {E : am_E} {S : am_S} {Q : am_O → am_S → am_I → Prop} {D : Nat} {rc : Int32 → am_I → Option am_I} (hrc : ∀ {d' : Nat} {x : Int32} {iv y : am_I} {Q' : am_O → am_S → am_I → Prop}, rc x iv = some y → Q' (.inl none) S y → D ≤ d' → am_M E d' mX10_readExpression 0 0 [.ref 54, .int x] S iv Q') (hL : am_Lay S) {z2 : Value} {i1 k0 : Int32} {iv : am_I} {y : (am_I) ⊕ (am_I)} (e : J_X10_readSum_39 rc i1 k0 iv = some y) (hc : ∀ s, y = .inl s → ∀ z2 : Value, am_R E (D + 8) mX10_readSum 0 0 5 [.ref 54, .int i1, z2] [] S s Q) (hx : ∀ a, y = .inr a → ∀ z0 z1 z2 : Value, am_R E (D + 8) mX10_readSum 0 0 57 [z0, z1, z2] [] S a Q) : am_R E (D + 8) mX10_readSum 0 0 39 [.ref 54, .int i1, z2] [.int k0] S iv Q := by
  replace e := am_o1_i e; obtain ⟨w4, e4, e⟩ := e
  replace e := am_o1_i e; obtain ⟨w5, e5, e⟩ := e
  replace e := am_o1_i e; obtain ⟨w6, e6, e⟩ := e
  refine (sX10_readSum_39 (sX10_readSum_40 rfl (sX10_readSum_41 (hL.1 _ _ rfl) (Nat.le_of_ble_eq_true rfl) (R_X10_stepOn hL (h := (sX10_readSum_44 rfl (sX10_readSum_45 (sX10_readSum_46 (hL.1 _ _ rfl) (Nat.le_of_ble_eq_true rfl) (R_X10_readProduct hrc hL (h := (sX10_readSum_49 rfl (sX10_readSum_50 (sX10_readSum_51 (hL.1 _ _ rfl) (Nat.le_of_ble_eq_true rfl) (R_X10_lay hL (h := (sX10_readSum_54 ?_)) (hd := (by omega)) (e := e6)))))) (hd := (by omega)) (e := e5)))))) (hd := (by omega)) (e := e4)))))
  exact hc _ (Option.some.inj e).symm _
def J_X10_readSum_23 (rc : Int32 → am_I → Option am_I) (i1 : Int32) (iv : am_I) : Option ((am_I) ⊕ (am_I)) :=
  (am_o1 (F_X10_isMarked (43 : Int32) iv) fun v3 => (if v3 = 0 then J_X10_readSum_39 rc i1 (-21 : Int32) iv else J_X10_readSum_39 rc i1 (-20 : Int32) iv))
theorem j_X10_readSum_23 {E : am_E} {S : am_S} {Q : am_O → am_S → am_I → Prop} {D : Nat} {rc : Int32 → am_I → Option am_I} (hrc : ∀ {d' : Nat} {x : Int32} {iv y : am_I} {Q' : am_O → am_S → am_I → Prop}, rc x iv = some y → Q' (.inl none) S y → D ≤ d' → am_M E d' mX10_readExpression 0 0 [.ref 54, .int x] S iv Q') (hL : am_Lay S) {z2 : Value} {i1 : Int32} {iv : am_I} {y : (am_I) ⊕ (am_I)} (e : J_X10_readSum_23 rc i1 iv = some y) (hc : ∀ s, y = .inl s → ∀ z2 : Value, am_R E (D + 8) mX10_readSum 0 0 5 [.ref 54, .int i1, z2] [] S s Q) (hx : ∀ a, y = .inr a → ∀ z0 z1 z2 : Value, am_R E (D + 8) mX10_readSum 0 0 57 [z0, z1, z2] [] S a Q) : am_R E (D + 8) mX10_readSum 0 0 23 [.ref 54, .int i1, z2] [] S iv Q := by
  replace e := am_o1_i e; obtain ⟨v3, e3, e⟩ := e
  refine (sX10_readSum_23 rfl (sX10_readSum_24 (sX10_readSum_26 (hL.1 _ _ rfl) (Nat.le_of_ble_eq_true rfl) (R_X10_isMarked hL (h := ?_) (hd := (by omega)) (e := e3)))))
  refine sX10_readSum_29 (fun hbr => ?_) (fun hbr => ?_)
  · replace e := am_pos hbr e
    refine (sX10_readSum_37 ?_)
    exact j_X10_readSum_39 hrc hL e hc hx
  · replace e := am_neg hbr e
    refine (sX10_readSum_32 (sX10_readSum_34 ?_))
    exact j_X10_readSum_39 hrc hL e hc hx
def B_X10_readSum_5 (rc : Int32 → am_I → Option am_I) (i1 : Int32) (iv : am_I) : Option ((am_I) ⊕ (am_I)) :=
  (am_o1 (F_X10_isMarked (43 : Int32) iv) fun v2 => (if v2 = 0 then (am_o1 (F_X10_isMarked (45 : Int32) iv) fun v7 => (if v7 = 0 then some (.inr iv) else J_X10_readSum_23 rc i1 iv)) else J_X10_readSum_23 rc i1 iv))
theorem b_X10_readSum_5 {E : am_E} {S : am_S} {Q : am_O → am_S → am_I → Prop} {D : Nat} {rc : Int32 → am_I → Option am_I} (hrc : ∀ {d' : Nat} {x : Int32} {iv y : am_I} {Q' : am_O → am_S → am_I → Prop}, rc x iv = some y → Q' (.inl none) S y → D ≤ d' → am_M E d' mX10_readExpression 0 0 [.ref 54, .int x] S iv Q') (hL : am_Lay S) {z2 : Value} {i1 : Int32} {iv : am_I} {y : (am_I) ⊕ (am_I)} (e : B_X10_readSum_5 rc i1 iv = some y) (hc : ∀ s, y = .inl s → ∀ z2 : Value, am_R E (D + 8) mX10_readSum 0 0 5 [.ref 54, .int i1, z2] [] S s Q) (hx : ∀ a, y = .inr a → ∀ z0 z1 z2 : Value, am_R E (D + 8) mX10_readSum 0 0 57 [z0, z1, z2] [] S a Q) : am_R E (D + 8) mX10_readSum 0 0 5 [.ref 54, .int i1, z2] [] S iv Q := by
  replace e := am_o1_i e; obtain ⟨v2, e2, e⟩ := e
  refine (sX10_readSum_5 rfl (sX10_readSum_6 (sX10_readSum_8 (hL.1 _ _ rfl) (Nat.le_of_ble_eq_true rfl) (R_X10_isMarked hL (h := ?_) (hd := (by omega)) (e := e2)))))
  refine sX10_readSum_11 (fun hbr => ?_) (fun hbr => ?_)
  · replace e := am_neg hbr e
    exact j_X10_readSum_23 hrc hL e hc hx
  · replace e := am_pos hbr e
    replace e := am_o1_i e; obtain ⟨v7, e7, e⟩ := e
    refine (sX10_readSum_14 rfl (sX10_readSum_15 (sX10_readSum_17 (hL.1 _ _ rfl) (Nat.le_of_ble_eq_true rfl) (R_X10_isMarked hL (h := ?_) (hd := (by omega)) (e := e7)))))
    refine sX10_readSum_20 (fun hbr => ?_) (fun hbr => ?_)
    · replace e := am_pos hbr e
      exact hx _ (Option.some.inj e).symm _ _ _
    · replace e := am_neg hbr e
      exact j_X10_readSum_23 hrc hL e hc hx
theorem l_X10_readSum_5 {E : am_E} {S : am_S} {Q : am_O → am_S → am_I → Prop} {D : Nat} {rc : Int32 → am_I → Option am_I} (hrc : ∀ {d' : Nat} {x : Int32} {iv y : am_I} {Q' : am_O → am_S → am_I → Prop}, rc x iv = some y → Q' (.inl none) S y → D ≤ d' → am_M E d' mX10_readExpression 0 0 [.ref 54, .int x] S iv Q') (hL : am_Lay S) {i1 : Int32} (s : (am_I)) {x : (am_I)} (e : am_loop (fun s : (am_I) => B_X10_readSum_5 rc i1 s) s = some x) (hx : ∀ z0 z1 z2 : Value, am_R E (D + 8) mX10_readSum 0 0 57 [z0, z1, z2] [] S x Q) : ∀ z2 : Value, am_R E (D + 8) mX10_readSum 0 0 5 [.ref 54, .int i1, z2] [] S s Q :=
  am_wh_sound (f := fun s : (am_I) => B_X10_readSum_5 rc i1 s) (P := fun s => ∀ z2 : Value, am_R E (D + 8) mX10_readSum 0 0 5 [.ref 54, .int i1, z2] [] S s Q) (K := fun x => ∀ z0 z1 z2 : Value, am_R E (D + 8) mX10_readSum 0 0 57 [z0, z1, z2] [] S x Q) (fun s y e hc hkk => fun z2 => b_X10_readSum_5 hrc hL e hc (fun a hy => hkk a hy)) am_fu s x e hx
def F_X10_readSum (rc : Int32 → am_I → Option am_I) (i1 : Int32) (iv : am_I) : Option (am_I) :=
  (am_o1 (F_X10_readProduct rc i1 iv) fun w1 => (am_o1 (am_loop (fun s : (am_I) => B_X10_readSum_5 rc i1 s) w1) fun a8 => some a8))
theorem R_X10_readSum {E : am_E} {S : am_S} {Q : am_O → am_S → am_I → Prop} {D : Nat} {rc : Int32 → am_I → Option am_I} (hrc : ∀ {d' : Nat} {x : Int32} {iv y : am_I} {Q' : am_O → am_S → am_I → Prop}, rc x iv = some y → Q' (.inl none) S y → D ≤ d' → am_M E d' mX10_readExpression 0 0 [.ref 54, .int x] S iv Q') (hL : am_Lay S) {i1 : Int32} {iv : am_I} {y : am_I} (e : F_X10_readSum rc i1 iv = some y) (h : Q (.inl none) S y) {d : Nat} (hd : (D + 8) ≤ d) : am_M E d mX10_readSum 0 0 [.ref 54, .int i1] S iv Q := by
  refine am_enter (js := [.double 0]) rfl pn_X10 rfl rfl rfl (Nat.le_of_ble_eq_true rfl) (am_R.deep ?_ hd)
  replace e := am_o1_i e; obtain ⟨w1, e1, e⟩ := e
  refine (sX10_readSum_0 rfl (sX10_readSum_1 (sX10_readSum_2 (hL.1 _ _ rfl) (Nat.le_of_ble_eq_true rfl) (R_X10_readProduct hrc hL (h := ?_) (hd := (by omega)) (e := e1)))))
  replace e := am_o1_i e; obtain ⟨a8, e8, e⟩ := e
  refine l_X10_readSum_5 hrc hL _ e8 ?_ _
  intro z0 z1 z2
  refine (sX10_readSum_57 ?_)
  obtain rfl := Option.some.inj e
  exact h
def J_X10_readNot_22 (rc : Int32 → am_I → Option am_I) (i1 : Int32) (i2 : Int32) (iv : am_I) : Option ((Int32 × am_I) ⊕ (Int32 × am_I)) :=
  (if (iv 54 25) = 0 then (am_o1 (F_X10_stepOn  iv) fun w2 => some (.inl ((i2 + 1), w2))) else some (.inl ((i2 + 1), iv)))
theorem j_X10_readNot_22 {E : am_E} {S : am_S} {Q : am_O → am_S → am_I → Prop} {D : Nat} {rc : Int32 → am_I → Option am_I} (hrc : ∀ {d' : Nat} {x : Int32} {iv y : am_I} {Q' : am_O → am_S → am_I → Prop}, rc x iv = some y → Q' (.inl none) S y → D ≤ d' → am_M E d' mX10_readExpression 0 0 [.ref 54, .int x] S iv Q') (hL : am_Lay S) {z3 : Value} {i1 i2 : Int32} {iv : am_I} {y : (Int32 × am_I) ⊕ (Int32 × am_I)} (e : J_X10_readNot_22 rc i1 i2 iv = some y) (hc : ∀ s, y = .inl s → ∀ z3 : Value, am_R E (D + 9) mX10_readNot 0 0 2 [.ref 54, .int i1, .int s.1, z3] [] S s.2 Q) (hx : ∀ a, y = .inr a → ∀ z3 : Value, am_R E (D + 9) mX10_readNot 0 0 39 [.ref 54, .int i1, .int a.1, z3] [] S a.2 Q) : am_R E (D + 9) mX10_readNot 0 0 22 [.ref 54, .int i1, .int i2, z3] [] S iv Q := by
  refine (sX10_readNot_22 (sX10_readNot_25 rfl (sX10_readNot_26 (hL.1 _ _ rfl) ?_)))
  refine sX10_readNot_29 (fun hbr => ?_) (fun hbr => ?_)
  · replace e := am_neg hbr e
    exact hc _ (Option.some.inj e).symm _
  · replace e := am_pos hbr e
    replace e := am_o1_i e; obtain ⟨w2, e2, e⟩ := e
    refine (sX10_readNot_32 rfl (sX10_readNot_33 (hL.1 _ _ rfl) (Nat.le_of_ble_eq_true rfl) (R_X10_stepOn hL (h := (sX10_readNot_36 ?_)) (hd := (by omega)) (e := e2))))
    exact hc _ (Option.some.inj e).symm _
def B_X10_readNot_2 (rc : Int32 → am_I → Option am_I) (i1 : Int32) (i2 : Int32) (iv : am_I) : Option ((Int32 × am_I) ⊕ (Int32 × am_I)) :=
  (am_o1 (F_X10_is 55  iv) fun v1 => (if v1 = 0 then some (.inr (i2, iv)) else (if i2 = (6 : Int32) then (am_o1 (F_X10_wrong (2 : Int32) iv) fun w3 => J_X10_readNot_22 rc i1 i2 w3) else J_X10_readNot_22 rc i1 i2 iv)))
theorem b_X10_readNot_2 {E : am_E} {S : am_S} {Q : am_O → am_S → am_I → Prop} {D : Nat} {rc : Int32 → am_I → Option am_I} (hrc : ∀ {d' : Nat} {x : Int32} {iv y : am_I} {Q' : am_O → am_S → am_I → Prop}, rc x iv = some y → Q' (.inl none) S y → D ≤ d' → am_M E d' mX10_readExpression 0 0 [.ref 54, .int x] S iv Q') (hL : am_Lay S) {z3 : Value} {i1 i2 : Int32} {iv : am_I} {y : (Int32 × am_I) ⊕ (Int32 × am_I)} (e : B_X10_readNot_2 rc i1 i2 iv = some y) (hc : ∀ s, y = .inl s → ∀ z3 : Value, am_R E (D + 9) mX10_readNot 0 0 2 [.ref 54, .int i1, .int s.1, z3] [] S s.2 Q) (hx : ∀ a, y = .inr a → ∀ z3 : Value, am_R E (D + 9) mX10_readNot 0 0 39 [.ref 54, .int i1, .int a.1, z3] [] S a.2 Q) : am_R E (D + 9) mX10_readNot 0 0 2 [.ref 54, .int i1, .int i2, z3] [] S iv Q := by
  replace e := am_o1_i e; obtain ⟨v1, e1, e⟩ := e
  refine (sX10_readNot_2 rfl (sX10_readNot_3 (sX10_readNot_5 (hL.1 _ _ rfl) (Nat.le_of_ble_eq_true rfl) (R_X10_is hL (by decide) (h := ?_) (hd := (by omega)) (e := e1)))))
  refine sX10_readNot_8 (fun hbr => ?_) (fun hbr => ?_)
  · replace e := am_pos hbr e
    exact hx _ (Option.some.inj e).symm _
  · replace e := am_neg hbr e
    refine (sX10_readNot_11 (sX10_readNot_12 ?_))
    refine sX10_readNot_14 (fun hbr => ?_) (fun hbr => ?_)
    · replace e := am_neg hbr e
      exact j_X10_readNot_22 hrc hL e hc hx
    · replace e := am_pos hbr e
      replace e := am_o1_i e; obtain ⟨w3, e3, e⟩ := e
      refine (sX10_readNot_17 rfl (sX10_readNot_18 (sX10_readNot_19 (hL.1 _ _ rfl) (Nat.le_of_ble_eq_true rfl) (R_X10_wrong hL (h := ?_) (hd := (by omega)) (e := e3)))))
      exact j_X10_readNot_22 hrc hL e hc hx
theorem l_X10_readNot_2 {E : am_E} {S : am_S} {Q : am_O → am_S → am_I → Prop} {D : Nat} {rc : Int32 → am_I → Option am_I} (hrc : ∀ {d' : Nat} {x : Int32} {iv y : am_I} {Q' : am_O → am_S → am_I → Prop}, rc x iv = some y → Q' (.inl none) S y → D ≤ d' → am_M E d' mX10_readExpression 0 0 [.ref 54, .int x] S iv Q') (hL : am_Lay S) {i1 : Int32} (s : (Int32 × am_I)) {x : (Int32 × am_I)} (e : am_loop (fun s : (Int32 × am_I) => B_X10_readNot_2 rc i1 s.1 s.2) s = some x) (hx : ∀ z3 : Value, am_R E (D + 9) mX10_readNot 0 0 39 [.ref 54, .int i1, .int x.1, z3] [] S x.2 Q) : ∀ z3 : Value, am_R E (D + 9) mX10_readNot 0 0 2 [.ref 54, .int i1, .int s.1, z3] [] S s.2 Q :=
  am_wh_sound (f := fun s : (Int32 × am_I) => B_X10_readNot_2 rc i1 s.1 s.2) (P := fun s => ∀ z3 : Value, am_R E (D + 9) mX10_readNot 0 0 2 [.ref 54, .int i1, .int s.1, z3] [] S s.2 Q) (K := fun x => ∀ z3 : Value, am_R E (D + 9) mX10_readNot 0 0 39 [.ref 54, .int i1, .int x.1, z3] [] S x.2 Q) (fun s y e hc hkk => fun z3 => b_X10_readNot_2 hrc hL e hc (fun a hy => hkk a hy)) am_fu s x e hx
def B_X10_readNot_95 (rc : Int32 → am_I → Option am_I) (i2 : Int32) (i3 : Int32) (iv : am_I) : Option ((Int32 × am_I) ⊕ (am_I)) :=
  (if i2 ≤ i3 then some (.inr iv) else (am_o1 (F_X10_lay (-28 : Int32) iv) fun w11 => some (.inl ((i3 + 1), w11))))
theorem b_X10_readNot_95 {E : am_E} {S : am_S} {Q : am_O → am_S → am_I → Prop} {D : Nat} {rc : Int32 → am_I → Option am_I} (hrc : ∀ {d' : Nat} {x : Int32} {iv y : am_I} {Q' : am_O → am_S → am_I → Prop}, rc x iv = some y → Q' (.inl none) S y → D ≤ d' → am_M E d' mX10_readExpression 0 0 [.ref 54, .int x] S iv Q') (hL : am_Lay S) {z1 : Value} {i2 i3 : Int32} {iv : am_I} {y : (Int32 × am_I) ⊕ (am_I)} (e : B_X10_readNot_95 rc i2 i3 iv = some y) (hc : ∀ s, y = .inl s → ∀ z1 : Value, am_R E (D + 9) mX10_readNot 0 0 95 [.ref 54, z1, .int i2, .int s.1] [] S s.2 Q) (hx : ∀ a, y = .inr a → ∀ z0 z1 z2 z3 : Value, am_R E (D + 9) mX10_readNot 0 0 112 [z0, z1, z2, z3] [] S a Q) : am_R E (D + 9) mX10_readNot 0 0 95 [.ref 54, z1, .int i2, .int i3] [] S iv Q := by
  refine (sX10_readNot_95 (sX10_readNot_96 ?_))
  refine sX10_readNot_97 (fun hbr => ?_) (fun hbr => ?_)
  · replace e := am_pos hbr e
    exact hx _ (Option.some.inj e).symm _ _ _ _
  · replace e := am_neg hbr e
    replace e := am_o1_i e; obtain ⟨w11, e11, e⟩ := e
    refine (sX10_readNot_100 rfl (sX10_readNot_101 (sX10_readNot_103 (hL.1 _ _ rfl) (Nat.le_of_ble_eq_true rfl) (R_X10_lay hL (h := (sX10_readNot_106 (sX10_readNot_109 ?_))) (hd := (by omega)) (e := e11)))))
    exact hc _ (Option.some.inj e).symm _
theorem l_X10_readNot_95 {E : am_E} {S : am_S} {Q : am_O → am_S → am_I → Prop} {D : Nat} {rc : Int32 → am_I → Option am_I} (hrc : ∀ {d' : Nat} {x : Int32} {iv y : am_I} {Q' : am_O → am_S → am_I → Prop}, rc x iv = some y → Q' (.inl none) S y → D ≤ d' → am_M E d' mX10_readExpression 0 0 [.ref 54, .int x] S iv Q') (hL : am_Lay S) {i2 : Int32} (s : (Int32 × am_I)) {x : (am_I)} (e : am_loop (fun s : (Int32 × am_I) => B_X10_readNot_95 rc i2 s.1 s.2) s = some x) (hx : ∀ z0 z1 z2 z3 : Value, am_R E (D + 9) mX10_readNot 0 0 112 [z0, z1, z2, z3] [] S x Q) : ∀ z1 : Value, am_R E (D + 9) mX10_readNot 0 0 95 [.ref 54, z1, .int i2, .int s.1] [] S s.2 Q :=
  am_wh_sound (f := fun s : (Int32 × am_I) => B_X10_readNot_95 rc i2 s.1 s.2) (P := fun s => ∀ z1 : Value, am_R E (D + 9) mX10_readNot 0 0 95 [.ref 54, z1, .int i2, .int s.1] [] S s.2 Q) (K := fun x => ∀ z0 z1 z2 z3 : Value, am_R E (D + 9) mX10_readNot 0 0 112 [z0, z1, z2, z3] [] S x Q) (fun s y e hc hkk => fun z1 => b_X10_readNot_95 hrc hL e hc (fun a hy => hkk a hy)) am_fu s x e hx
def J_X10_readNot_93 (rc : Int32 → am_I → Option am_I) (i2 : Int32) (iv : am_I) : Option (am_I) :=
  (am_o1 (am_loop (fun s : (Int32 × am_I) => B_X10_readNot_95 rc i2 s.1 s.2) ((0 : Int32), iv)) fun a12 => some a12)
theorem j_X10_readNot_93 {E : am_E} {S : am_S} {Q : am_O → am_S → am_I → Prop} {D : Nat} {rc : Int32 → am_I → Option am_I} (hrc : ∀ {d' : Nat} {x : Int32} {iv y : am_I} {Q' : am_O → am_S → am_I → Prop}, rc x iv = some y → Q' (.inl none) S y → D ≤ d' → am_M E d' mX10_readExpression 0 0 [.ref 54, .int x] S iv Q') (hL : am_Lay S) {z1 z3 : Value} {i2 : Int32} {iv : am_I} {y : am_I} (e : J_X10_readNot_93 rc i2 iv = some y) (h : Q (.inl none) S y) : am_R E (D + 9) mX10_readNot 0 0 93 [.ref 54, z1, .int i2, z3] [] S iv Q := by
  refine (sX10_readNot_93 (sX10_readNot_94 ?_))
  replace e := am_o1_i e; obtain ⟨a12, e12, e⟩ := e
  refine l_X10_readNot_95 hrc hL _ e12 ?_ _
  intro z0 z1 z2 z3
  refine (sX10_readNot_112 ?_)
  obtain rfl := Option.some.inj e
  exact h
def J_X10_readNot_78 (rc : Int32 → am_I → Option am_I) (i1 : Int32) (i2 : Int32) (k0 : Int32) (iv : am_I) : Option (am_I) :=
  (am_o1 (F_X10_stepOn  iv) fun w8 => (am_o1 (F_X10_readSum rc i1 w8) fun w9 => (am_o1 (F_X10_lay k0 w9) fun w10 => J_X10_readNot_93 rc i2 w10)))
theorem j_X10_readNot_78 {E : am_E} {S : am_S} {Q : am_O → am_S → am_I → Prop} {D : Nat} {rc : Int32 → am_I → Option am_I} (hrc : ∀ {d' : Nat} {x : Int32} {iv y : am_I} {Q' : am_O → am_S → am_I → Prop}, rc x iv = some y → Q' (.inl none) S y → D ≤ d' → am_M E d' mX10_readExpression 0 0 [.ref 54, .int x] S iv Q') (hL : am_Lay S) {z3 : Value} {i1 i2 k0 : Int32} {iv : am_I} {y : am_I} (e : J_X10_readNot_78 rc i1 i2 k0 iv = some y) (h : Q (.inl none) S y) : am_R E (D + 9) mX10_readNot 0 0 78 [.ref 54, .int i1, .int i2, z3] [.int k0] S iv Q := by
  replace e := am_o1_i e; obtain ⟨w8, e8, e⟩ := e
  replace e := am_o1_i e; obtain ⟨w9, e9, e⟩ := e
  replace e := am_o1_i e; obtain ⟨w10, e10, e⟩ := e
  refine (sX10_readNot_78 (sX10_readNot_79 rfl (sX10_readNot_80 (hL.1 _ _ rfl) (Nat.le_of_ble_eq_true rfl) (R_X10_stepOn hL (h := (sX10_readNot_83 rfl (sX10_readNot_84 (sX10_readNot_85 (hL.1 _ _ rfl) (Nat.le_of_ble_eq_true rfl) (R_X10_readSum hrc hL (h := (sX10_readNot_88 rfl (sX10_readNot_89 (sX10_readNot_90 (hL.1 _ _ rfl) (Nat.le_of_ble_eq_true rfl) (R_X10_lay hL (h := ?_) (hd := (by omega)) (e := e10)))))) (hd := (by omega)) (e := e9)))))) (hd := (by omega)) (e := e8)))))
  exact j_X10_readNot_93 hrc hL e h
def J_X10_readNot_62 (rc : Int32 → am_I → Option am_I) (i1 : Int32) (i2 : Int32) (iv : am_I) : Option (am_I) :=
  (am_o1 (F_X10_isMarked (60 : Int32) iv) fun v7 => (if v7 = 0 then J_X10_readNot_78 rc i1 i2 (-25 : Int32) iv else J_X10_readNot_78 rc i1 i2 (-24 : Int32) iv))
theorem j_X10_readNot_62 {E : am_E} {S : am_S} {Q : am_O → am_S → am_I → Prop} {D : Nat} {rc : Int32 → am_I → Option am_I} (hrc : ∀ {d' : Nat} {x : Int32} {iv y : am_I} {Q' : am_O → am_S → am_I → Prop}, rc x iv = some y → Q' (.inl none) S y → D ≤ d' → am_M E d' mX10_readExpression 0 0 [.ref 54, .int x] S iv Q') (hL : am_Lay S) {z3 : Value} {i1 i2 : Int32} {iv : am_I} {y : am_I} (e : J_X10_readNot_62 rc i1 i2 iv = some y) (h : Q (.inl none) S y) : am_R E (D + 9) mX10_readNot 0 0 62 [.ref 54, .int i1, .int i2, z3] [] S iv Q := by
  replace e := am_o1_i e; obtain ⟨v7, e7, e⟩ := e
  refine (sX10_readNot_62 rfl (sX10_readNot_63 (sX10_readNot_65 (hL.1 _ _ rfl) (Nat.le_of_ble_eq_true rfl) (R_X10_isMarked hL (h := ?_) (hd := (by omega)) (e := e7)))))
  refine sX10_readNot_68 (fun hbr => ?_) (fun hbr => ?_)
  · replace e := am_pos hbr e
    refine (sX10_readNot_76 ?_)
    exact j_X10_readNot_78 hrc hL e h
  · replace e := am_neg hbr e
    refine (sX10_readNot_71 (sX10_readNot_73 ?_))
    exact j_X10_readNot_78 hrc hL e h
def F_X10_readNot (rc : Int32 → am_I → Option am_I) (i1 : Int32) (iv : am_I) : Option (am_I) :=
  (am_o1 (am_loop (fun s : (Int32 × am_I) => B_X10_readNot_2 rc i1 s.1 s.2) ((0 : Int32), iv)) fun a4 => (am_o1 (F_X10_readSum rc i1 a4.2) fun w5 => (am_o1 (F_X10_isMarked (60 : Int32) w5) fun v6 => (if v6 = 0 then (am_o1 (F_X10_isMarked (61 : Int32) w5) fun v13 => (if v13 = 0 then J_X10_readNot_93 rc a4.1 w5 else J_X10_readNot_62 rc i1 a4.1 w5)) else J_X10_readNot_62 rc i1 a4.1 w5))))
theorem R_X10_readNot {E : am_E} {S : am_S} {Q : am_O → am_S → am_I → Prop} {D : Nat} {rc : Int32 → am_I → Option am_I} (hrc : ∀ {d' : Nat} {x : Int32} {iv y : am_I} {Q' : am_O → am_S → am_I → Prop}, rc x iv = some y → Q' (.inl none) S y → D ≤ d' → am_M E d' mX10_readExpression 0 0 [.ref 54, .int x] S iv Q') (hL : am_Lay S) {i1 : Int32} {iv : am_I} {y : am_I} (e : F_X10_readNot rc i1 iv = some y) (h : Q (.inl none) S y) {d : Nat} (hd : (D + 9) ≤ d) : am_M E d mX10_readNot 0 0 [.ref 54, .int i1] S iv Q := by
  refine am_enter (js := [.double 0, .double 0]) rfl pn_X10 rfl rfl rfl (Nat.le_of_ble_eq_true rfl) (am_R.deep ?_ hd)
  refine (sX10_readNot_0 (sX10_readNot_1 ?_))
  replace e := am_o1_i e; obtain ⟨a4, e4, e⟩ := e
  refine l_X10_readNot_2 hrc hL _ e4 ?_ _
  intro z3
  replace e := am_o1_i e; obtain ⟨w5, e5, e⟩ := e
  replace e := am_o1_i e; obtain ⟨v6, e6, e⟩ := e
  refine (sX10_readNot_39 rfl (sX10_readNot_40 (sX10_readNot_41 (hL.1 _ _ rfl) (Nat.le_of_ble_eq_true rfl) (R_X10_readSum hrc hL (h := (sX10_readNot_44 rfl (sX10_readNot_45 (sX10_readNot_47 (hL.1 _ _ rfl) (Nat.le_of_ble_eq_true rfl) (R_X10_isMarked hL (h := ?_) (hd := (by omega)) (e := e6)))))) (hd := (by omega)) (e := e5)))))
  refine sX10_readNot_50 (fun hbr => ?_) (fun hbr => ?_)
  · replace e := am_neg hbr e
    exact j_X10_readNot_62 hrc hL e h
  · replace e := am_pos hbr e
    replace e := am_o1_i e; obtain ⟨v13, e13, e⟩ := e
    refine (sX10_readNot_53 rfl (sX10_readNot_54 (sX10_readNot_56 (hL.1 _ _ rfl) (Nat.le_of_ble_eq_true rfl) (R_X10_isMarked hL (h := ?_) (hd := (by omega)) (e := e13)))))
    refine sX10_readNot_59 (fun hbr => ?_) (fun hbr => ?_)
    · replace e := am_pos hbr e
      exact j_X10_readNot_93 hrc hL e h
    · replace e := am_neg hbr e
      exact j_X10_readNot_62 hrc hL e h
def B_X10_readAnd_5 (rc : Int32 → am_I → Option am_I) (i1 : Int32) (iv : am_I) : Option ((am_I) ⊕ (am_I)) :=
  (am_o1 (F_X10_is 56  iv) fun v2 => (if v2 = 0 then some (.inr iv) else (am_o1 (F_X10_stepOn  iv) fun w3 => (am_o1 (F_X10_readNot rc i1 w3) fun w4 => (am_o1 (F_X10_lay (-26 : Int32) w4) fun w5 => some (.inl w5))))))
theorem b_X10_readAnd_5 {E : am_E} {S : am_S} {Q : am_O → am_S → am_I → Prop} {D : Nat} {rc : Int32 → am_I → Option am_I} (hrc : ∀ {d' : Nat} {x : Int32} {iv y : am_I} {Q' : am_O → am_S → am_I → Prop}, rc x iv = some y → Q' (.inl none) S y → D ≤ d' → am_M E d' mX10_readExpression 0 0 [.ref 54, .int x] S iv Q') (hL : am_Lay S) {i1 : Int32} {iv : am_I} {y : (am_I) ⊕ (am_I)} (e : B_X10_readAnd_5 rc i1 iv = some y) (hc : ∀ s, y = .inl s → am_R E (D + 10) mX10_readAnd 0 0 5 [.ref 54, .int i1] [] S s Q) (hx : ∀ a, y = .inr a → ∀ z0 z1 : Value, am_R E (D + 10) mX10_readAnd 0 0 32 [z0, z1] [] S a Q) : am_R E (D + 10) mX10_readAnd 0 0 5 [.ref 54, .int i1] [] S iv Q := by
  replace e := am_o1_i e; obtain ⟨v2, e2, e⟩ := e
  refine (sX10_readAnd_5 rfl (sX10_readAnd_6 (sX10_readAnd_8 (hL.1 _ _ rfl) (Nat.le_of_ble_eq_true rfl) (R_X10_is hL (by decide) (h := ?_) (hd := (by omega)) (e := e2)))))
  refine sX10_readAnd_11 (fun hbr => ?_) (fun hbr => ?_)
  · replace e := am_pos hbr e
    exact hx _ (Option.some.inj e).symm _ _
  · replace e := am_neg hbr e
    replace e := am_o1_i e; obtain ⟨w3, e3, e⟩ := e
    replace e := am_o1_i e; obtain ⟨w4, e4, e⟩ := e
    replace e := am_o1_i e; obtain ⟨w5, e5, e⟩ := e
    refine (sX10_readAnd_14 rfl (sX10_readAnd_15 (hL.1 _ _ rfl) (Nat.le_of_ble_eq_true rfl) (R_X10_stepOn hL (h := (sX10_readAnd_18 rfl (sX10_readAnd_19 (sX10_readAnd_20 (hL.1 _ _ rfl) (Nat.le_of_ble_eq_true rfl) (R_X10_readNot hrc hL (h := (sX10_readAnd_23 rfl (sX10_readAnd_24 (sX10_readAnd_26 (hL.1 _ _ rfl) (Nat.le_of_ble_eq_true rfl) (R_X10_lay hL (h := (sX10_readAnd_29 ?_)) (hd := (by omega)) (e := e5)))))) (hd := (by omega)) (e := e4)))))) (hd := (by omega)) (e := e3))))
    exact hc _ (Option.some.inj e).symm
theorem l_X10_readAnd_5 {E : am_E} {S : am_S} {Q : am_O → am_S → am_I → Prop} {D : Nat} {rc : Int32 → am_I → Option am_I} (hrc : ∀ {d' : Nat} {x : Int32} {iv y : am_I} {Q' : am_O → am_S → am_I → Prop}, rc x iv = some y → Q' (.inl none) S y → D ≤ d' → am_M E d' mX10_readExpression 0 0 [.ref 54, .int x] S iv Q') (hL : am_Lay S) {i1 : Int32} (s : (am_I)) {x : (am_I)} (e : am_loop (fun s : (am_I) => B_X10_readAnd_5 rc i1 s) s = some x) (hx : ∀ z0 z1 : Value, am_R E (D + 10) mX10_readAnd 0 0 32 [z0, z1] [] S x Q) : am_R E (D + 10) mX10_readAnd 0 0 5 [.ref 54, .int i1] [] S s Q :=
  am_wh_sound (f := fun s : (am_I) => B_X10_readAnd_5 rc i1 s) (P := fun s => am_R E (D + 10) mX10_readAnd 0 0 5 [.ref 54, .int i1] [] S s Q) (K := fun x => ∀ z0 z1 : Value, am_R E (D + 10) mX10_readAnd 0 0 32 [z0, z1] [] S x Q) (fun s y e hc hkk => b_X10_readAnd_5 hrc hL e hc (fun a hy => hkk a hy)) am_fu s x e hx
def F_X10_readAnd (rc : Int32 → am_I → Option am_I) (i1 : Int32) (iv : am_I) : Option (am_I) :=
  (am_o1 (F_X10_readNot rc i1 iv) fun w1 => (am_o1 (am_loop (fun s : (am_I) => B_X10_readAnd_5 rc i1 s) w1) fun a6 => some a6))
theorem R_X10_readAnd {E : am_E} {S : am_S} {Q : am_O → am_S → am_I → Prop} {D : Nat} {rc : Int32 → am_I → Option am_I} (hrc : ∀ {d' : Nat} {x : Int32} {iv y : am_I} {Q' : am_O → am_S → am_I → Prop}, rc x iv = some y → Q' (.inl none) S y → D ≤ d' → am_M E d' mX10_readExpression 0 0 [.ref 54, .int x] S iv Q') (hL : am_Lay S) {i1 : Int32} {iv : am_I} {y : am_I} (e : F_X10_readAnd rc i1 iv = some y) (h : Q (.inl none) S y) {d : Nat} (hd : (D + 10) ≤ d) : am_M E d mX10_readAnd 0 0 [.ref 54, .int i1] S iv Q := by
  refine am_enter (js := []) rfl pn_X10 rfl rfl rfl (Nat.le_of_ble_eq_true rfl) (am_R.deep ?_ hd)
  replace e := am_o1_i e; obtain ⟨w1, e1, e⟩ := e
  refine (sX10_readAnd_0 rfl (sX10_readAnd_1 (sX10_readAnd_2 (hL.1 _ _ rfl) (Nat.le_of_ble_eq_true rfl) (R_X10_readNot hrc hL (h := ?_) (hd := (by omega)) (e := e1)))))
  replace e := am_o1_i e; obtain ⟨a6, e6, e⟩ := e
  refine l_X10_readAnd_5 hrc hL _ e6 ?_
  intro z0 z1
  refine (sX10_readAnd_32 ?_)
  obtain rfl := Option.some.inj e
  exact h
def B_X10_readExpression_67 (rc : Int32 → am_I → Option am_I) (i1 : Int32) (iv : am_I) : Option ((am_I) ⊕ (am_I)) :=
  (am_o1 (F_X10_is 57  iv) fun v2 => (if v2 = 0 then some (.inr iv) else (am_o1 (F_X10_stepOn  iv) fun w3 => (am_o1 (F_X10_readAnd rc i1 w3) fun w4 => (am_o1 (F_X10_lay (-27 : Int32) w4) fun w5 => some (.inl w5))))))
theorem b_X10_readExpression_67 {E : am_E} {S : am_S} {Q : am_O → am_S → am_I → Prop} {D : Nat} {rc : Int32 → am_I → Option am_I} (hrc : ∀ {d' : Nat} {x : Int32} {iv y : am_I} {Q' : am_O → am_S → am_I → Prop}, rc x iv = some y → Q' (.inl none) S y → D ≤ d' → am_M E d' mX10_readExpression 0 0 [.ref 54, .int x] S iv Q') (hL : am_Lay S) {z2 : Value} {i1 : Int32} {iv : am_I} {y : (am_I) ⊕ (am_I)} (e : B_X10_readExpression_67 rc i1 iv = some y) (hc : ∀ s, y = .inl s → ∀ z2 : Value, am_R E (D + 11) mX10_readExpression 0 0 67 [.ref 54, .int i1, z2] [] S s Q) (hx : ∀ a, y = .inr a → ∀ z0 z1 z2 : Value, am_R E (D + 11) mX10_readExpression 0 0 95 [z0, z1, z2] [] S a Q) : am_R E (D + 11) mX10_readExpression 0 0 67 [.ref 54, .int i1, z2] [] S iv Q := by
  replace e := am_o1_i e; obtain ⟨v2, e2, e⟩ := e
  refine (sX10_readExpression_67 rfl (sX10_readExpression_68 (sX10_readExpression_71 (hL.1 _ _ rfl) (Nat.le_of_ble_eq_true rfl) (R_X10_is hL (by decide) (h := ?_) (hd := (by omega)) (e := e2)))))
  refine sX10_readExpression_74 (fun hbr => ?_) (fun hbr => ?_)
  · replace e := am_pos hbr e
    exact hx _ (Option.some.inj e).symm _ _ _
  · replace e := am_neg hbr e
    replace e := am_o1_i e; obtain ⟨w3, e3, e⟩ := e
    replace e := am_o1_i e; obtain ⟨w4, e4, e⟩ := e
    replace e := am_o1_i e; obtain ⟨w5, e5, e⟩ := e
    refine (sX10_readExpression_77 rfl (sX10_readExpression_78 (hL.1 _ _ rfl) (Nat.le_of_ble_eq_true rfl) (R_X10_stepOn hL (h := (sX10_readExpression_81 rfl (sX10_readExpression_82 (sX10_readExpression_83 (hL.1 _ _ rfl) (Nat.le_of_ble_eq_true rfl) (R_X10_readAnd hrc hL (h := (sX10_readExpression_86 rfl (sX10_readExpression_87 (sX10_readExpression_89 (hL.1 _ _ rfl) (Nat.le_of_ble_eq_true rfl) (R_X10_lay hL (h := (sX10_readExpression_92 ?_)) (hd := (by omega)) (e := e5)))))) (hd := (by omega)) (e := e4)))))) (hd := (by omega)) (e := e3))))
    exact hc _ (Option.some.inj e).symm _
theorem l_X10_readExpression_67 {E : am_E} {S : am_S} {Q : am_O → am_S → am_I → Prop} {D : Nat} {rc : Int32 → am_I → Option am_I} (hrc : ∀ {d' : Nat} {x : Int32} {iv y : am_I} {Q' : am_O → am_S → am_I → Prop}, rc x iv = some y → Q' (.inl none) S y → D ≤ d' → am_M E d' mX10_readExpression 0 0 [.ref 54, .int x] S iv Q') (hL : am_Lay S) {i1 : Int32} (s : (am_I)) {x : (am_I)} (e : am_loop (fun s : (am_I) => B_X10_readExpression_67 rc i1 s) s = some x) (hx : ∀ z0 z1 z2 : Value, am_R E (D + 11) mX10_readExpression 0 0 95 [z0, z1, z2] [] S x Q) : ∀ z2 : Value, am_R E (D + 11) mX10_readExpression 0 0 67 [.ref 54, .int i1, z2] [] S s Q :=
  am_wh_sound (f := fun s : (am_I) => B_X10_readExpression_67 rc i1 s) (P := fun s => ∀ z2 : Value, am_R E (D + 11) mX10_readExpression 0 0 67 [.ref 54, .int i1, z2] [] S s Q) (K := fun x => ∀ z0 z1 z2 : Value, am_R E (D + 11) mX10_readExpression 0 0 95 [z0, z1, z2] [] S x Q) (fun s y e hc hkk => fun z2 => b_X10_readExpression_67 hrc hL e hc (fun a hy => hkk a hy)) am_fu s x e hx
def J_X10_readExpression_62 (rc : Int32 → am_I → Option am_I) (i1 : Int32) (iv : am_I) : Option (am_I) :=
  (am_o1 (F_X10_readAnd rc i1 iv) fun w1 => (am_o1 (am_loop (fun s : (am_I) => B_X10_readExpression_67 rc i1 s) w1) fun a6 => some a6))
theorem j_X10_readExpression_62 {E : am_E} {S : am_S} {Q : am_O → am_S → am_I → Prop} {D : Nat} {rc : Int32 → am_I → Option am_I} (hrc : ∀ {d' : Nat} {x : Int32} {iv y : am_I} {Q' : am_O → am_S → am_I → Prop}, rc x iv = some y → Q' (.inl none) S y → D ≤ d' → am_M E d' mX10_readExpression 0 0 [.ref 54, .int x] S iv Q') (hL : am_Lay S) {z2 : Value} {i1 : Int32} {iv : am_I} {y : am_I} (e : J_X10_readExpression_62 rc i1 iv = some y) (h : Q (.inl none) S y) : am_R E (D + 11) mX10_readExpression 0 0 62 [.ref 54, .int i1, z2] [] S iv Q := by
  replace e := am_o1_i e; obtain ⟨w1, e1, e⟩ := e
  refine (sX10_readExpression_62 rfl (sX10_readExpression_63 (sX10_readExpression_64 (hL.1 _ _ rfl) (Nat.le_of_ble_eq_true rfl) (R_X10_readAnd hrc hL (h := ?_) (hd := (by omega)) (e := e1)))))
  replace e := am_o1_i e; obtain ⟨a6, e6, e⟩ := e
  refine l_X10_readExpression_67 hrc hL _ e6 ?_ _
  intro z0 z1 z2
  refine (sX10_readExpression_95 ?_)
  obtain rfl := Option.some.inj e
  exact h
def J_X10_readExpression_38 (rc : Int32 → am_I → Option am_I) (i1 : Int32) (k0 : Int32) (iv : am_I) : Option (am_I) :=
  (if k0 = 0 then (am_o1 (F_X10_wrong (1 : Int32) iv) fun w8 => J_X10_readExpression_62 rc i1 w8) else (if i1 = (6 : Int32) then (am_o1 (F_X10_wrong (2 : Int32) iv) fun w7 => J_X10_readExpression_62 rc i1 w7) else J_X10_readExpression_62 rc i1 iv))
theorem j_X10_readExpression_38 {E : am_E} {S : am_S} {Q : am_O → am_S → am_I → Prop} {D : Nat} {rc : Int32 → am_I → Option am_I} (hrc : ∀ {d' : Nat} {x : Int32} {iv y : am_I} {Q' : am_O → am_S → am_I → Prop}, rc x iv = some y → Q' (.inl none) S y → D ≤ d' → am_M E d' mX10_readExpression 0 0 [.ref 54, .int x] S iv Q') (hL : am_Lay S) {z2 : Value} {i1 k0 : Int32} {iv : am_I} {y : am_I} (e : J_X10_readExpression_38 rc i1 k0 iv = some y) (h : Q (.inl none) S y) : am_R E (D + 11) mX10_readExpression 0 0 38 [.ref 54, .int i1, z2] [.int k0] S iv Q := by
  refine (sX10_readExpression_38 (sX10_readExpression_39 ?_))
  refine sX10_readExpression_40 (fun hbr => ?_) (fun hbr => ?_)
  · replace e := am_neg hbr e
    refine (sX10_readExpression_51 (sX10_readExpression_52 ?_))
    refine sX10_readExpression_54 (fun hbr => ?_) (fun hbr => ?_)
    · replace e := am_neg hbr e
      exact j_X10_readExpression_62 hrc hL e h
    · replace e := am_pos hbr e
      replace e := am_o1_i e; obtain ⟨w7, e7, e⟩ := e
      refine (sX10_readExpression_57 rfl (sX10_readExpression_58 (sX10_readExpression_59 (hL.1 _ _ rfl) (Nat.le_of_ble_eq_true rfl) (R_X10_wrong hL (h := ?_) (hd := (by omega)) (e := e7)))))
      exact j_X10_readExpression_62 hrc hL e h
  · replace e := am_pos hbr e
    replace e := am_o1_i e; obtain ⟨w8, e8, e⟩ := e
    refine (sX10_readExpression_43 rfl (sX10_readExpression_44 (sX10_readExpression_45 (hL.1 _ _ rfl) (Nat.le_of_ble_eq_true rfl) (R_X10_wrong hL (h := (sX10_readExpression_48 ?_)) (hd := (by omega)) (e := e8)))))
    exact j_X10_readExpression_62 hrc hL e h
def J_X10_readExpression_33 (rc : Int32 → am_I → Option am_I) (i1 : Int32) (iv : am_I) : Option (am_I) :=
  J_X10_readExpression_38 rc i1 (1 : Int32) iv
theorem j_X10_readExpression_33 {E : am_E} {S : am_S} {Q : am_O → am_S → am_I → Prop} {D : Nat} {rc : Int32 → am_I → Option am_I} (hrc : ∀ {d' : Nat} {x : Int32} {iv y : am_I} {Q' : am_O → am_S → am_I → Prop}, rc x iv = some y → Q' (.inl none) S y → D ≤ d' → am_M E d' mX10_readExpression 0 0 [.ref 54, .int x] S iv Q') (hL : am_Lay S) {z2 : Value} {i1 : Int32} {iv : am_I} {y : am_I} (e : J_X10_readExpression_33 rc i1 iv = some y) (h : Q (.inl none) S y) : am_R E (D + 11) mX10_readExpression 0 0 33 [.ref 54, .int i1, z2] [] S iv Q := by
  refine (sX10_readExpression_33 (sX10_readExpression_34 ?_))
  exact j_X10_readExpression_38 hrc hL e h
def G_X10_readExpression (rc : Int32 → am_I → Option am_I) (i1 : Int32) (iv : am_I) : Option (am_I) :=
  (if (iv 54 25) = 0 then (if (iv 54 21) = (2 : Int32) then J_X10_readExpression_33 rc i1 iv else (if (iv 54 21) = (1 : Int32) then J_X10_readExpression_33 rc i1 iv else (am_o1 (F_X10_isMarked (40 : Int32) iv) fun v9 => (if v9 = 0 then J_X10_readExpression_38 rc i1 (0 : Int32) iv else J_X10_readExpression_33 rc i1 iv)))) else some iv)
theorem RG_X10_readExpression {E : am_E} {S : am_S} {Q : am_O → am_S → am_I → Prop} {D : Nat} {rc : Int32 → am_I → Option am_I} (hrc : ∀ {d' : Nat} {x : Int32} {iv y : am_I} {Q' : am_O → am_S → am_I → Prop}, rc x iv = some y → Q' (.inl none) S y → D ≤ d' → am_M E d' mX10_readExpression 0 0 [.ref 54, .int x] S iv Q') (hL : am_Lay S) {i1 : Int32} {iv : am_I} {y : am_I} (e : G_X10_readExpression rc i1 iv = some y) (h : Q (.inl none) S y) {d : Nat} (hd : (D + 11) ≤ d) : am_M E d mX10_readExpression 0 0 [.ref 54, .int i1] S iv Q := by
  refine am_enter (js := [.double 0]) rfl pn_X10 rfl rfl rfl (Nat.le_of_ble_eq_true rfl) (am_R.deep ?_ hd)
  refine (sX10_readExpression_0 rfl (sX10_readExpression_1 (hL.1 _ _ rfl) ?_))
  refine sX10_readExpression_4 (fun hbr => ?_) (fun hbr => ?_)
  · replace e := am_pos hbr e
    refine (sX10_readExpression_8 rfl (sX10_readExpression_9 (hL.1 _ _ rfl) (sX10_readExpression_12 ?_)))
    refine sX10_readExpression_13 (fun hbr => ?_) (fun hbr => ?_)
    · replace e := am_pos hbr e
      exact j_X10_readExpression_33 hrc hL e h
    · replace e := am_neg hbr e
      refine (sX10_readExpression_16 rfl (sX10_readExpression_17 (hL.1 _ _ rfl) (sX10_readExpression_20 ?_)))
      refine sX10_readExpression_21 (fun hbr => ?_) (fun hbr => ?_)
      · replace e := am_pos hbr e
        exact j_X10_readExpression_33 hrc hL e h
      · replace e := am_neg hbr e
        replace e := am_o1_i e; obtain ⟨v9, e9, e⟩ := e
        refine (sX10_readExpression_24 rfl (sX10_readExpression_25 (sX10_readExpression_27 (hL.1 _ _ rfl) (Nat.le_of_ble_eq_true rfl) (R_X10_isMarked hL (h := ?_) (hd := (by omega)) (e := e9)))))
        refine sX10_readExpression_30 (fun hbr => ?_) (fun hbr => ?_)
        · replace e := am_pos hbr e
          refine (sX10_readExpression_37 ?_)
          exact j_X10_readExpression_38 hrc hL e h
        · replace e := am_neg hbr e
          exact j_X10_readExpression_33 hrc hL e h
  · replace e := am_neg hbr e
    refine (sX10_readExpression_7 ?_)
    obtain rfl := Option.some.inj e
    exact h
def F_X10_readExpression : Nat → Int32 → am_I → Option am_I
  | 0, _, _ => none
  | fu + 1, i, iv => G_X10_readExpression (F_X10_readExpression fu) i iv
theorem RF_X10_readExpression {E : am_E} {S : am_S} (hL : am_Lay S) : ∀ (fu : Nat) {d' : Nat} {x : Int32} {iv y : am_I} {Q' : am_O → am_S → am_I → Prop}, F_X10_readExpression fu x iv = some y → Q' (.inl none) S y → 12 * fu ≤ d' → am_M E d' mX10_readExpression 0 0 [.ref 54, .int x] S iv Q'
  | 0, _, _, _, _, _, e, _, _ => by cases e
  | fu + 1, _, _, _, _, _, e, h, hd => RG_X10_readExpression (D := 12 * fu) (rc := F_X10_readExpression fu) (RF_X10_readExpression hL fu) hL e h (by omega)
theorem R_X10_readExpression {E : am_E} {S : am_S} {Q : am_O → am_S → am_I → Prop} (hL : am_Lay S) {i1 : Int32} {iv y : am_I} (e : F_X10_readExpression 10 i1 iv = some y) (h : Q (.inl none) S y) {d : Nat} (hd : 120 ≤ d) : am_M E d mX10_readExpression 0 0 [.ref 54, .int i1] S iv Q := RF_X10_readExpression hL 10 e h hd
