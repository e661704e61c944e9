/-! functions of the methods, and their rows (by program) -/
def B_X8_advance_5 (t : Nat) (iv : am_I) (i1 : Int32) : Option ((Int32) ⊕ (Int32)) :=
  (if (iv t 1) ≤ i1 then some (.inr i1) else (if vp_b i1 700 then (if (iv 1 i1.toNatClampNeg) = (32 : Int32) then some (.inl (i1 + 1)) else (if vp_b i1 700 then (if (iv 1 i1.toNatClampNeg) = (10 : Int32) then some (.inl (i1 + 1)) else some (.inr i1)) else none)) else none))
theorem b_X8_advance_5 {E : am_E} {S : am_S} {Q : am_O → am_S → am_I → Prop} {t : Nat} (hL : am_Lay S) (hT : am_Tk S t) {i1 : Int32} {iv : am_I} {y : (Int32) ⊕ (Int32)} (e : B_X8_advance_5 t iv i1 = some y) (hc : ∀ s, y = .inl s → am_R E 7 mX8_advance 0 0 5 [.ref t, .int s] [] S iv Q) (hx : ∀ a, y = .inr a → am_R E 7 mX8_advance 0 0 41 [.ref t, .int a] [] S iv Q) : am_R E 7 mX8_advance 0 0 5 [.ref t, .int i1] [] S iv Q := by
  refine (sX8_advance_5 (sX8_advance_6 rfl (sX8_advance_7 (hT.1) ?_)))
  refine sX8_advance_10 (fun hbr => ?_) (fun hbr => ?_)
  · replace e := am_pos hbr e
    exact hx _ (Option.some.inj e).symm
  · replace e := am_neg hbr e
    replace e := am_ckv e; obtain ⟨c1, e⟩ := e
    refine (sX8_advance_13 rfl (sX8_advance_14 (hT.1) (hT.2) (sX8_advance_17 (sX8_advance_18 (hL.1 _ _ rfl) c1 (sX8_advance_19 ?_)))))
    refine sX8_advance_21 (fun hbr => ?_) (fun hbr => ?_)
    · replace e := am_pos hbr e
      refine (sX8_advance_35 (sX8_advance_38 ?_))
      exact hc _ (Option.some.inj e).symm
    · replace e := am_neg hbr e
      replace e := am_ckv e; obtain ⟨c2, e⟩ := e
      refine (sX8_advance_24 rfl (sX8_advance_25 (hT.1) (hT.2) (sX8_advance_28 (sX8_advance_29 (hL.1 _ _ rfl) c2 (sX8_advance_30 ?_)))))
      refine sX8_advance_32 (fun hbr => ?_) (fun hbr => ?_)
      · replace e := am_neg hbr e
        exact hx _ (Option.some.inj e).symm
      · replace e := am_pos hbr e
        refine (sX8_advance_35 (sX8_advance_38 ?_))
        exact hc _ (Option.some.inj e).symm
theorem l_X8_advance_5 {E : am_E} {S : am_S} {Q : am_O → am_S → am_I → Prop} {t : Nat} (hL : am_Lay S) (hT : am_Tk S t) {iv : am_I} (s : (Int32)) {x : (Int32)} (e : am_loop (fun s : (Int32) => B_X8_advance_5 t iv s) s = some x) (hx : am_R E 7 mX8_advance 0 0 41 [.ref t, .int x] [] S iv Q) : am_R E 7 mX8_advance 0 0 5 [.ref t, .int s] [] S iv Q :=
  am_wh_sound (f := fun s : (Int32) => B_X8_advance_5 t iv s) (P := fun s => am_R E 7 mX8_advance 0 0 5 [.ref t, .int s] [] S iv Q) (K := fun x => am_R E 7 mX8_advance 0 0 41 [.ref t, .int x] [] S iv Q) (fun s y e hc hkk => b_X8_advance_5 hL hT e hc (fun a hy => hkk a hy)) am_fu s x e hx
def J_X8_advance_114 (t : Nat) (i1 : Int32) (iv : am_I) : Option ((Int32) ⊕ (Int32)) :=
  (if vp_b i1 700 then (am_o1 (F_X8_typeOf (iv 1 i1.toNatClampNeg) iv) fun v5 => (if v5 = (iv t 2) then some (.inl (i1 + 1)) else some (.inr i1))) else none)
theorem j_X8_advance_114 {E : am_E} {S : am_S} {Q : am_O → am_S → am_I → Prop} {t : Nat} (hL : am_Lay S) (hT : am_Tk S t) {i1 : Int32} {iv : am_I} {y : (Int32) ⊕ (Int32)} (e : J_X8_advance_114 t i1 iv = some y) (hc : ∀ s, y = .inl s → am_R E 7 mX8_advance 0 0 90 [.ref t, .int s] [] S iv Q) (hx : ∀ a, y = .inr a → am_R E 7 mX8_advance 0 0 136 [.ref t, .int a] [] S iv Q) : am_R E 7 mX8_advance 0 0 114 [.ref t, .int i1] [] S iv Q := by
  replace e := am_ckv e; obtain ⟨c4, e⟩ := e
  replace e := am_o1_i e; obtain ⟨v5, e5, e⟩ := e
  refine (sX8_advance_114 rfl (sX8_advance_115 (hT.1) (hT.2) (sX8_advance_118 (sX8_advance_119 (hL.1 _ _ rfl) c4 (sX8_advance_120 (Nat.le_of_ble_eq_true rfl) (R_X8_typeOf (h := (sX8_advance_123 rfl (sX8_advance_124 (hT.1) ?_))) (hd := (Nat.le_of_ble_eq_true rfl)) (e := e5)))))))
  refine sX8_advance_127 (fun hbr => ?_) (fun hbr => ?_)
  · replace e := am_neg hbr e
    exact hx _ (Option.some.inj e).symm
  · replace e := am_pos hbr e
    refine (sX8_advance_130 (sX8_advance_133 ?_))
    exact hc _ (Option.some.inj e).symm
def B_X8_advance_90 (t : Nat) (iv : am_I) (i1 : Int32) : Option ((Int32) ⊕ (Int32)) :=
  (if (iv t 1) ≤ i1 then some (.inr i1) else (if (iv t 2) = (1 : Int32) then J_X8_advance_114 t i1 iv else (if (iv t 2) = (2 : Int32) then J_X8_advance_114 t i1 iv else some (.inr i1))))
theorem b_X8_advance_90 {E : am_E} {S : am_S} {Q : am_O → am_S → am_I → Prop} {t : Nat} (hL : am_Lay S) (hT : am_Tk S t) {i1 : Int32} {iv : am_I} {y : (Int32) ⊕ (Int32)} (e : B_X8_advance_90 t iv i1 = some y) (hc : ∀ s, y = .inl s → am_R E 7 mX8_advance 0 0 90 [.ref t, .int s] [] S iv Q) (hx : ∀ a, y = .inr a → am_R E 7 mX8_advance 0 0 136 [.ref t, .int a] [] S iv Q) : am_R E 7 mX8_advance 0 0 90 [.ref t, .int i1] [] S iv Q := by
  refine (sX8_advance_90 (sX8_advance_91 rfl (sX8_advance_92 (hT.1) ?_)))
  refine sX8_advance_95 (fun hbr => ?_) (fun hbr => ?_)
  · replace e := am_pos hbr e
    exact hx _ (Option.some.inj e).symm
  · replace e := am_neg hbr e
    refine (sX8_advance_98 rfl (sX8_advance_99 (hT.1) (sX8_advance_102 ?_)))
    refine sX8_advance_103 (fun hbr => ?_) (fun hbr => ?_)
    · replace e := am_pos hbr e
      exact j_X8_advance_114 hL hT e hc hx
    · replace e := am_neg hbr e
      refine (sX8_advance_106 rfl (sX8_advance_107 (hT.1) (sX8_advance_110 ?_)))
      refine sX8_advance_111 (fun hbr => ?_) (fun hbr => ?_)
      · replace e := am_neg hbr e
        exact hx _ (Option.some.inj e).symm
      · replace e := am_pos hbr e
        exact j_X8_advance_114 hL hT e hc hx
theorem l_X8_advance_90 {E : am_E} {S : am_S} {Q : am_O → am_S → am_I → Prop} {t : Nat} (hL : am_Lay S) (hT : am_Tk S t) {iv : am_I} (s : (Int32)) {x : (Int32)} (e : am_loop (fun s : (Int32) => B_X8_advance_90 t iv s) s = some x) (hx : am_R E 7 mX8_advance 0 0 136 [.ref t, .int x] [] S iv Q) : am_R E 7 mX8_advance 0 0 90 [.ref t, .int s] [] S iv Q :=
  am_wh_sound (f := fun s : (Int32) => B_X8_advance_90 t iv s) (P := fun s => am_R E 7 mX8_advance 0 0 90 [.ref t, .int s] [] S iv Q) (K := fun x => am_R E 7 mX8_advance 0 0 136 [.ref t, .int x] [] S iv Q) (fun s y e hc hkk => b_X8_advance_90 hL hT e hc (fun a hy => hkk a hy)) am_fu s x e hx
def J_X8_advance_136 (t : Nat) (i1 : Int32) (iv : am_I) : Option (am_I) :=
  some (am_w iv t 4 i1)
theorem j_X8_advance_136 {E : am_E} {S : am_S} {Q : am_O → am_S → am_I → Prop} {t : Nat} (hL : am_Lay S) (hT : am_Tk S t) {i1 : Int32} {iv : am_I} {y : am_I} (e : J_X8_advance_136 t i1 iv = some y) (h : Q (.inl none) S y) : am_R E 7 mX8_advance 0 0 136 [.ref t, .int i1] [] S iv Q := by
  refine (sX8_advance_136 rfl (sX8_advance_137 (sX8_advance_138 (hT.1) (sX8_advance_141 ?_))))
  obtain rfl := Option.some.inj e
  exact h
def J_X8_advance_89 (t : Nat) (k0 : Int32) (iv : am_I) : Option (am_I) :=
  (am_o1 (am_loop (fun s : (Int32) => B_X8_advance_90 t iv s) k0) fun a6 => J_X8_advance_136 t a6 iv)
theorem j_X8_advance_89 {E : am_E} {S : am_S} {Q : am_O → am_S → am_I → Prop} {t : Nat} (hL : am_Lay S) (hT : am_Tk S t) {z1 : Value} {k0 : Int32} {iv : am_I} {y : am_I} (e : J_X8_advance_89 t k0 iv = some y) (h : Q (.inl none) S y) : am_R E 7 mX8_advance 0 0 89 [.ref t, z1] [.int k0] S iv Q := by
  refine (sX8_advance_89 ?_)
  replace e := am_o1_i e; obtain ⟨a6, e6, e⟩ := e
  refine l_X8_advance_90 hL hT _ e6 ?_
  exact j_X8_advance_136 hL hT e h
def J_X8_advance_68 (t : Nat) (i1 : Int32) (k1 : Int32) (iv : am_I) : Option (am_I) :=
  (if ((am_w iv t 2 k1) t 1) ≤ i1 then J_X8_advance_89 t ((am_w iv t 2 k1) t 1) (am_w iv t 2 k1) else J_X8_advance_89 t (i1 + (1 : Int32)) (am_w iv t 2 k1))
theorem j_X8_advance_68 {E : am_E} {S : am_S} {Q : am_O → am_S → am_I → Prop} {t : Nat} (hL : am_Lay S) (hT : am_Tk S t) {i1 k1 : Int32} {iv : am_I} {y : am_I} (e : J_X8_advance_68 t i1 k1 iv = some y) (h : Q (.inl none) S y) : am_R E 7 mX8_advance 0 0 68 [.ref t, .int i1] [.int k1, .ref t] S iv Q := by
  refine (sX8_advance_68 (hT.1) (sX8_advance_71 (sX8_advance_72 rfl (sX8_advance_73 (hT.1) ?_))))
  refine sX8_advance_76 (fun hbr => ?_) (fun hbr => ?_)
  · replace e := am_pos hbr e
    refine (sX8_advance_85 rfl (sX8_advance_86 (hT.1) ?_))
    exact j_X8_advance_89 hL hT e h
  · replace e := am_neg hbr e
    refine (sX8_advance_79 (sX8_advance_80 (sX8_advance_81 (sX8_advance_82 ?_))))
    exact j_X8_advance_89 hL hT e h
def J_X8_advance_41 (t : Nat) (i1 : Int32) (iv : am_I) : Option (am_I) :=
  (if ((am_w iv t 3 i1) t 1) ≤ i1 then J_X8_advance_68 t i1 (0 : Int32) (am_w iv t 3 i1) else (if vp_b i1 700 then (am_o1 (F_X8_typeOf ((am_w iv t 3 i1) 1 i1.toNatClampNeg) (am_w iv t 3 i1)) fun v8 => J_X8_advance_68 t i1 v8 (am_w iv t 3 i1)) else none))
theorem j_X8_advance_41 {E : am_E} {S : am_S} {Q : am_O → am_S → am_I → Prop} {t : Nat} (hL : am_Lay S) (hT : am_Tk S t) {i1 : Int32} {iv : am_I} {y : am_I} (e : J_X8_advance_41 t i1 iv = some y) (h : Q (.inl none) S y) : am_R E 7 mX8_advance 0 0 41 [.ref t, .int i1] [] S iv Q := by
  refine (sX8_advance_41 rfl (sX8_advance_42 (sX8_advance_43 (hT.1) (sX8_advance_46 rfl (sX8_advance_47 (sX8_advance_48 rfl (sX8_advance_49 (hT.1) ?_)))))))
  refine sX8_advance_52 (fun hbr => ?_) (fun hbr => ?_)
  · replace e := am_pos hbr e
    refine (sX8_advance_67 ?_)
    exact j_X8_advance_68 hL hT e h
  · replace e := am_neg hbr e
    replace e := am_ckv e; obtain ⟨c7, e⟩ := e
    replace e := am_o1_i e; obtain ⟨v8, e8, e⟩ := e
    refine (sX8_advance_55 rfl (sX8_advance_56 (hT.1) (hT.2) (sX8_advance_59 (sX8_advance_60 (hL.1 _ _ rfl) c7 (sX8_advance_61 (Nat.le_of_ble_eq_true rfl) (R_X8_typeOf (h := (sX8_advance_64 ?_)) (hd := (Nat.le_of_ble_eq_true rfl)) (e := e8)))))))
    exact j_X8_advance_68 hL hT e h
def F_X8_advance (t : Nat) (iv : am_I) : Option (am_I) :=
  (am_o1 (am_loop (fun s : (Int32) => B_X8_advance_5 t iv s) (iv t 4)) fun a3 => J_X8_advance_41 t a3 iv)
theorem R_X8_advance {E : am_E} {S : am_S} {Q : am_O → am_S → am_I → Prop} {t : Nat} (hL : am_Lay S) (hT : am_Tk S t) {iv : am_I} {y : am_I} (e : F_X8_advance t  iv = some y) (h : Q (.inl none) S y) {d : Nat} (hd : 7 ≤ d) : am_M E d mX8_advance 0 0 [.ref t] S iv Q := by
  refine am_enter (js := [.double 0]) rfl pn_X8 rfl rfl rfl (Nat.le_of_ble_eq_true rfl) (am_R.deep ?_ hd)
  refine (sX8_advance_0 rfl (sX8_advance_1 (hT.1) (sX8_advance_4 ?_)))
  replace e := am_o1_i e; obtain ⟨a3, e3, e⟩ := e
  refine l_X8_advance_5 hL hT _ e3 ?_
  exact j_X8_advance_41 hL hT e h
def F_X8_isEnd (t : Nat) (iv : am_I) : Option (Int32) :=
  (if (iv t 2) = 0 then some (1 : Int32) else some (0 : Int32))
theorem R_X8_isEnd {E : am_E} {S : am_S} {Q : am_O → am_S → am_I → Prop} {t : Nat} (hL : am_Lay S) (hT : am_Tk S t) {iv : am_I} {y : Int32} (e : F_X8_isEnd t  iv = some y) (h : Q (.inl (some (.int y))) S iv) {d : Nat} (hd : 0 ≤ d) : am_M E d mX8_isEnd 0 0 [.ref t] S iv Q := by
  refine am_enter (js := []) rfl pn_X8 rfl rfl rfl (Nat.le_of_ble_eq_true rfl) (am_R.deep ?_ hd)
  refine (sX8_isEnd_0 rfl (sX8_isEnd_1 (hT.1) ?_))
  refine sX8_isEnd_4 (fun hbr => ?_) (fun hbr => ?_)
  · replace e := am_neg hbr e
    refine (sX8_isEnd_11 (sX8_isEnd_12 rfl ?_))
    obtain rfl := Option.some.inj e
    exact h
  · replace e := am_pos hbr e
    refine (sX8_isEnd_7 (sX8_isEnd_8 (sX8_isEnd_12 rfl ?_)))
    obtain rfl := Option.some.inj e
    exact h
def F_X8_isAnyWord (t : Nat) (iv : am_I) : Option (Int32) :=
  (if (iv t 2) = (1 : Int32) then some (1 : Int32) else some (0 : Int32))
theorem R_X8_isAnyWord {E : am_E} {S : am_S} {Q : am_O → am_S → am_I → Prop} {t : Nat} (hL : am_Lay S) (hT : am_Tk S t) {iv : am_I} {y : Int32} (e : F_X8_isAnyWord t  iv = some y) (h : Q (.inl (some (.int y))) S iv) {d : Nat} (hd : 0 ≤ d) : am_M E d mX8_isAnyWord 0 0 [.ref t] S iv Q := by
  refine am_enter (js := []) rfl pn_X8 rfl rfl rfl (Nat.le_of_ble_eq_true rfl) (am_R.deep ?_ hd)
  refine (sX8_isAnyWord_0 rfl (sX8_isAnyWord_1 (hT.1) (sX8_isAnyWord_4 ?_)))
  refine sX8_isAnyWord_5 (fun hbr => ?_) (fun hbr => ?_)
  · replace e := am_neg hbr e
    refine (sX8_isAnyWord_12 (sX8_isAnyWord_13 rfl ?_))
    obtain rfl := Option.some.inj e
    exact h
  · replace e := am_pos hbr e
    refine (sX8_isAnyWord_8 (sX8_isAnyWord_9 (sX8_isAnyWord_13 rfl ?_)))
    obtain rfl := Option.some.inj e
    exact h
def F_X8_isNumber (t : Nat) (iv : am_I) : Option (Int32) :=
  (if (iv t 2) = (2 : Int32) then some (1 : Int32) else some (0 : Int32))
theorem R_X8_isNumber {E : am_E} {S : am_S} {Q : am_O → am_S → am_I → Prop} {t : Nat} (hL : am_Lay S) (hT : am_Tk S t) {iv : am_I} {y : Int32} (e : F_X8_isNumber t  iv = some y) (h : Q (.inl (some (.int y))) S iv) {d : Nat} (hd : 0 ≤ d) : am_M E d mX8_isNumber 0 0 [.ref t] S iv Q := by
  refine am_enter (js := []) rfl pn_X8 rfl rfl rfl (Nat.le_of_ble_eq_true rfl) (am_R.deep ?_ hd)
  refine (sX8_isNumber_0 rfl (sX8_isNumber_1 (hT.1) (sX8_isNumber_4 ?_)))
  refine sX8_isNumber_5 (fun hbr => ?_) (fun hbr => ?_)
  · replace e := am_neg hbr e
    refine (sX8_isNumber_12 (sX8_isNumber_13 rfl ?_))
    obtain rfl := Option.some.inj e
    exact h
  · replace e := am_pos hbr e
    refine (sX8_isNumber_8 (sX8_isNumber_9 (sX8_isNumber_13 rfl ?_)))
    obtain rfl := Option.some.inj e
    exact h
def F_X8_isSign (t : Nat) (i1 : Int32) (iv : am_I) : Option (Int32) :=
  (if (iv t 2) = (3 : Int32) then (if (iv t 1) ≤ (iv t 3) then some (0 : Int32) else (if vp_b (iv t 3) 700 then (if (iv 1 (iv t 3).toNatClampNeg) = i1 then some (1 : Int32) else some (0 : Int32)) else none)) else some (0 : Int32))
theorem R_X8_isSign {E : am_E} {S : am_S} {Q : am_O → am_S → am_I → Prop} {t : Nat} (hL : am_Lay S) (hT : am_Tk S t) {i1 : Int32} {iv : am_I} {y : Int32} (e : F_X8_isSign t i1 iv = some y) (h : Q (.inl (some (.int y))) S iv) {d : Nat} (hd : 0 ≤ d) : am_M E d mX8_isSign 0 0 [.ref t, .int i1] S iv Q := by
  refine am_enter (js := []) rfl pn_X8 rfl rfl rfl (Nat.le_of_ble_eq_true rfl) (am_R.deep ?_ hd)
  refine (sX8_isSign_0 rfl (sX8_isSign_1 (hT.1) (sX8_isSign_4 ?_)))
  refine sX8_isSign_5 (fun hbr => ?_) (fun hbr => ?_)
  · replace e := am_neg hbr e
    refine (sX8_isSign_36 (sX8_isSign_37 rfl ?_))
    obtain rfl := Option.some.inj e
    exact h
  · replace e := am_pos hbr e
    refine (sX8_isSign_8 rfl (sX8_isSign_9 (hT.1) (sX8_isSign_12 rfl (sX8_isSign_13 (hT.1) ?_))))
    refine sX8_isSign_16 (fun hbr => ?_) (fun hbr => ?_)
    · replace e := am_pos hbr e
      refine (sX8_isSign_36 (sX8_isSign_37 rfl ?_))
      obtain rfl := Option.some.inj e
      exact h
    · replace e := am_neg hbr e
      replace e := am_ckv e; obtain ⟨c1, e⟩ := e
      refine (sX8_isSign_19 rfl (sX8_isSign_20 (hT.1) (hT.2) (sX8_isSign_23 rfl (sX8_isSign_24 (hT.1) (sX8_isSign_27 (hL.1 _ _ rfl) c1 (sX8_isSign_28 ?_))))))
      refine sX8_isSign_29 (fun hbr => ?_) (fun hbr => ?_)
      · replace e := am_neg hbr e
        refine (sX8_isSign_36 (sX8_isSign_37 rfl ?_))
        obtain rfl := Option.some.inj e
        exact h
      · replace e := am_pos hbr e
        refine (sX8_isSign_32 (sX8_isSign_33 (sX8_isSign_37 rfl ?_)))
        obtain rfl := Option.some.inj e
        exact h
def B_X8_isWord_28 (t : Nat) (j : Nat) (iv : am_I) (i2 : Int32) : Option ((Int32) ⊕ ((Unit) ⊕ (Int32))) :=
  (if (nI (am_by.getD j []).length) ≤ i2 then some (.inr (.inl ())) else (if vp_b ((iv t 3) + i2) 700 then (if vp_b i2 (am_by.getD j []).length then (if (iv 1 ((iv t 3) + i2).toNatClampNeg) = ((am_by.getD j []).getD i2.toNatClampNeg 0) then some (.inl (i2 + 1)) else some (.inr (.inr (0 : Int32)))) else none) else none))
theorem b_X8_isWord_28 {E : am_E} {S : am_S} {Q : am_O → am_S → am_I → Prop} {t : Nat} {j : Nat} (hL : am_Lay S) (hT : am_Tk S t) (hj : j < am_by.length) {i2 : Int32} {iv : am_I} {y : (Int32) ⊕ ((Unit) ⊕ (Int32))} (e : B_X8_isWord_28 t j iv i2 = some y) (hc : ∀ s, y = .inl s → am_R E 4 mX8_isWord 0 0 28 [.ref t, .retAddr j, .int s] [] S iv Q) (hx : ∀ a, y = .inr (.inl a) → ∀ z0 z1 z2 : Value, am_R E 4 mX8_isWord 0 0 63 [z0, z1, z2] [] S iv Q) (hr : ∀ r, y = .inr (.inr r) → Q (.inl (some (.int r))) S iv) : am_R E 4 mX8_isWord 0 0 28 [.ref t, .retAddr j, .int i2] [] S iv Q := by
  refine (sX8_isWord_28 (sX8_isWord_29 rfl (sX8_isWord_30 hj (Nat.le_of_ble_eq_true rfl) (S_len hj ?_))))
  refine sX8_isWord_33 (fun hbr => ?_) (fun hbr => ?_)
  · replace e := am_pos hbr e
    exact hx _ (Option.some.inj e).symm _ _ _
  · replace e := am_neg hbr e
    replace e := am_ckv e; obtain ⟨c1, e⟩ := e
    replace e := am_ckv e; obtain ⟨c2, e⟩ := e
    refine (sX8_isWord_36 rfl (sX8_isWord_37 (hT.1) (hT.2) (sX8_isWord_40 rfl (sX8_isWord_41 (hT.1) (sX8_isWord_44 (sX8_isWord_45 (sX8_isWord_46 (hL.1 _ _ rfl) c1 (sX8_isWord_47 rfl (sX8_isWord_48 (sX8_isWord_49 hj (Nat.le_of_ble_eq_true rfl) (S_chrI hj c2 ?_)))))))))))
    refine sX8_isWord_52 (fun hbr => ?_) (fun hbr => ?_)
    · replace e := am_pos hbr e
      refine (sX8_isWord_57 (sX8_isWord_60 ?_))
      exact hc _ (Option.some.inj e).symm
    · replace e := am_neg hbr e
      refine (sX8_isWord_55 (sX8_isWord_56 rfl ?_))
      exact hr _ (Option.some.inj e).symm
theorem l_X8_isWord_28 {E : am_E} {S : am_S} {Q : am_O → am_S → am_I → Prop} {t : Nat} {j : Nat} (hL : am_Lay S) (hT : am_Tk S t) (hj : j < am_by.length) {iv : am_I} (s : (Int32)) {x : ((Unit) ⊕ (Int32))} (e : am_loop (fun s : (Int32) => B_X8_isWord_28 t j iv s) s = some x) (hx : ∀ a, x = .inl a → ∀ z0 z1 z2 : Value, am_R E 4 mX8_isWord 0 0 63 [z0, z1, z2] [] S iv Q) (hr : ∀ r, x = .inr r → Q (.inl (some (.int r))) S iv) : am_R E 4 mX8_isWord 0 0 28 [.ref t, .retAddr j, .int s] [] S iv Q :=
  am_wh_sound (f := fun s : (Int32) => B_X8_isWord_28 t j iv s) (P := fun s => am_R E 4 mX8_isWord 0 0 28 [.ref t, .retAddr j, .int s] [] S iv Q) (K := fun x => (∀ a, x = .inl a → ∀ z0 z1 z2 : Value, am_R E 4 mX8_isWord 0 0 63 [z0, z1, z2] [] S iv Q) ∧ (∀ r, x = .inr r → Q (.inl (some (.int r))) S iv)) (fun s y e hc hkk => b_X8_isWord_28 hL hT hj e hc (fun a hy => (hkk _ hy).1 a rfl) (fun r hy => (hkk _ hy).2 r rfl)) am_fu s x e ⟨hx, hr⟩
def F_X8_isWord (t : Nat) (j : Nat) (iv : am_I) : Option (Int32) :=
  (if (iv t 2) = (1 : Int32) then (if ((iv t 4) - (iv t 3)) = (nI (am_by.getD j []).length) then (am_lp (am_loop (fun s : (Int32) => B_X8_isWord_28 t j iv s) (0 : Int32)) (fun a3 => some (1 : Int32)) (fun r3 => some r3)) else some (0 : Int32)) else some (0 : Int32))
theorem R_X8_isWord {E : am_E} {S : am_S} {Q : am_O → am_S → am_I → Prop} {t : Nat} {j : Nat} (hL : am_Lay S) (hT : am_Tk S t) (hj : j < am_by.length) {iv : am_I} {y : Int32} (e : F_X8_isWord t j  iv = some y) (h : Q (.inl (some (.int y))) S iv) {d : Nat} (hd : 4 ≤ d) : am_M E d mX8_isWord 0 0 [.ref t, .retAddr j] S iv Q := by
  refine am_enter (js := [.double 0]) rfl pn_X8 rfl rfl rfl (Nat.le_of_ble_eq_true rfl) (am_R.deep ?_ hd)
  refine (sX8_isWord_0 rfl (sX8_isWord_1 (hT.1) (sX8_isWord_4 ?_)))
  refine sX8_isWord_5 (fun hbr => ?_) (fun hbr => ?_)
  · replace e := am_neg hbr e
    refine (sX8_isWord_24 (sX8_isWord_25 rfl ?_))
    obtain rfl := Option.some.inj e
    exact h
  · replace e := am_pos hbr e
    refine (sX8_isWord_8 rfl (sX8_isWord_9 (hT.1) (sX8_isWord_12 rfl (sX8_isWord_13 (hT.1) (sX8_isWord_16 (sX8_isWord_17 rfl (sX8_isWord_18 hj (Nat.le_of_ble_eq_true rfl) (S_len hj ?_))))))))
    refine sX8_isWord_21 (fun hbr => ?_) (fun hbr => ?_)
    · replace e := am_pos hbr e
      refine (sX8_isWord_26 (sX8_isWord_27 ?_))
      replace e := am_lp_i e; rcases e with ⟨a3, e3, e⟩ | ⟨r3, e3, e⟩
      · refine l_X8_isWord_28 hL hT hj _ e3 (fun a hq9 => ?_) (fun r hq9 => nomatch hq9)
        obtain rfl := Sum.inl.inj hq9
        intro z0 z1 z2
        refine (sX8_isWord_63 (sX8_isWord_64 rfl ?_))
        obtain rfl := Option.some.inj e
        exact h
      · refine l_X8_isWord_28 hL hT hj _ e3 (fun a hq9 => nomatch hq9) (fun r hq9 => ?_)
        obtain rfl := Sum.inr.inj hq9
        obtain rfl := Option.some.inj e
        exact h
    · replace e := am_neg hbr e
      refine (sX8_isWord_24 (sX8_isWord_25 rfl ?_))
      obtain rfl := Option.some.inj e
      exact h
def F_X8_isTooLong (t : Nat) (iv : am_I) : Option (Int32) :=
  (if ((iv t 4) - (iv t 3)) ≤ (4 : Int32) then some (0 : Int32) else some (1 : Int32))
theorem R_X8_isTooLong {E : am_E} {S : am_S} {Q : am_O → am_S → am_I → Prop} {t : Nat} (hL : am_Lay S) (hT : am_Tk S t) {iv : am_I} {y : Int32} (e : F_X8_isTooLong t  iv = some y) (h : Q (.inl (some (.int y))) S iv) {d : Nat} (hd : 0 ≤ d) : am_M E d mX8_isTooLong 0 0 [.ref t] S iv Q := by
  refine am_enter (js := []) rfl pn_X8 rfl rfl rfl (Nat.le_of_ble_eq_true rfl) (am_R.deep ?_ hd)
  refine (sX8_isTooLong_0 rfl (sX8_isTooLong_1 (hT.1) (sX8_isTooLong_4 rfl (sX8_isTooLong_5 (hT.1) (sX8_isTooLong_8 (sX8_isTooLong_9 ?_))))))
  refine sX8_isTooLong_10 (fun hbr => ?_) (fun hbr => ?_)
  · replace e := am_pos hbr e
    refine (sX8_isTooLong_17 (sX8_isTooLong_18 rfl ?_))
    obtain rfl := Option.some.inj e
    exact h
  · replace e := am_neg hbr e
    refine (sX8_isTooLong_13 (sX8_isTooLong_14 (sX8_isTooLong_18 rfl ?_)))
    obtain rfl := Option.some.inj e
    exact h
def B_X8_number_7 (t : Nat) (iv : am_I) (i1 : Int32) (i2 : Int32) : Option ((Int32 × Int32) ⊕ (Int32)) :=
  (if (iv t 4) ≤ i2 then some (.inr i1) else (if vp_b i2 700 then some (.inl (((((10 : Int32) * i1) + (iv 1 i2.toNatClampNeg)) - (48 : Int32)), (i2 + 1))) else none))
theorem b_X8_number_7 {E : am_E} {S : am_S} {Q : am_O → am_S → am_I → Prop} {t : Nat} (hL : am_Lay S) (hT : am_Tk S t) {i1 i2 : Int32} {iv : am_I} {y : (Int32 × Int32) ⊕ (Int32)} (e : B_X8_number_7 t iv i1 i2 = some y) (hc : ∀ s, y = .inl s → am_R E 0 mX8_number 0 0 7 [.ref t, .int s.1, .int s.2] [] S iv Q) (hx : ∀ a, y = .inr a → ∀ z0 z2 : Value, am_R E 0 mX8_number 0 0 36 [z0, .int a, z2] [] S iv Q) : am_R E 0 mX8_number 0 0 7 [.ref t, .int i1, .int i2] [] S iv Q := by
  refine (sX8_number_7 (sX8_number_8 rfl (sX8_number_9 (hT.1) ?_)))
  refine sX8_number_12 (fun hbr => ?_) (fun hbr => ?_)
  · replace e := am_pos hbr e
    exact hx _ (Option.some.inj e).symm _ _
  · replace e := am_neg hbr e
    replace e := am_ckv e; obtain ⟨c1, e⟩ := e
    refine (sX8_number_15 (sX8_number_17 (sX8_number_18 (sX8_number_19 rfl (sX8_number_20 (hT.1) (hT.2) (sX8_number_23 (sX8_number_24 (hL.1 _ _ rfl) c1 (sX8_number_25 (sX8_number_26 (sX8_number_28 (sX8_number_29 (sX8_number_30 (sX8_number_33 ?_)))))))))))))
    exact hc _ (Option.some.inj e).symm
theorem l_X8_number_7 {E : am_E} {S : am_S} {Q : am_O → am_S → am_I → Prop} {t : Nat} (hL : am_Lay S) (hT : am_Tk S t) {iv : am_I} (s : (Int32 × Int32)) {x : (Int32)} (e : am_loop (fun s : (Int32 × Int32) => B_X8_number_7 t iv s.1 s.2) s = some x) (hx : ∀ z0 z2 : Value, am_R E 0 mX8_number 0 0 36 [z0, .int x, z2] [] S iv Q) : am_R E 0 mX8_number 0 0 7 [.ref t, .int s.1, .int s.2] [] S iv Q :=
  am_wh_sound (f := fun s : (Int32 × Int32) => B_X8_number_7 t iv s.1 s.2) (P := fun s => am_R E 0 mX8_number 0 0 7 [.ref t, .int s.1, .int s.2] [] S iv Q) (K := fun x => ∀ z0 z2 : Value, am_R E 0 mX8_number 0 0 36 [z0, .int x, z2] [] S iv Q) (fun s y e hc hkk => b_X8_number_7 hL hT e hc (fun a hy => hkk a hy)) am_fu s x e hx
def F_X8_number (t : Nat) (iv : am_I) : Option (Int32) :=
  (am_o1 (am_loop (fun s : (Int32 × Int32) => B_X8_number_7 t iv s.1 s.2) ((0 : Int32), (iv t 3))) fun a2 => some a2)
theorem R_X8_number {E : am_E} {S : am_S} {Q : am_O → am_S → am_I → Prop} {t : Nat} (hL : am_Lay S) (hT : am_Tk S t) {iv : am_I} {y : Int32} (e : F_X8_number t  iv = some y) (h : Q (.inl (some (.int y))) S iv) {d : Nat} (hd : 0 ≤ d) : am_M E d mX8_number 0 0 [.ref t] S iv Q := by
  refine am_enter (js := [.double 0, .double 0]) rfl pn_X8 rfl rfl rfl (Nat.le_of_ble_eq_true rfl) (am_R.deep ?_ hd)
  refine (sX8_number_0 (sX8_number_1 (sX8_number_2 rfl (sX8_number_3 (hT.1) (sX8_number_6 ?_)))))
  replace e := am_o1_i e; obtain ⟨a2, e2, e⟩ := e
  refine l_X8_number_7 hL hT _ e2 ?_
  intro z0 z2
  refine (sX8_number_36 (sX8_number_37 ?_))
  obtain rfl := Option.some.inj e
  exact h
def F_X8_refuse (t : Nat) (i1 : Int32) (iv : am_I) : Option (Int32 × am_I) :=
  some ((0 : Int32), (am_w iv t 5 i1))
theorem YR_X8_refuse {E : am_E} {S : am_S} {Q : am_O → am_S → am_I → Prop} {t : Nat} (hL : am_Lay S) (hT : am_Tk S t) {i1 : Int32} {iv : am_I} {y : Int32 × am_I} (e : F_X8_refuse t i1 iv = some y) (h : Q (.inl (some (.int y.1))) S y.2) {d : Nat} (hd : 0 ≤ d) : am_M E d mX8_refuse 0 0 [.ref t, .int i1] S iv Q := by
  refine am_enter (js := []) rfl pn_X8 rfl rfl rfl (Nat.le_of_ble_eq_true rfl) (am_R.deep ?_ hd)
  refine (sX8_refuse_0 rfl (sX8_refuse_1 (sX8_refuse_2 (hT.1) (sX8_refuse_5 (sX8_refuse_6 rfl ?_)))))
  obtain rfl := Option.some.inj e
  exact h
theorem R_X8_refuse {E : am_E} {S : am_S} {Q : am_O → am_S → am_I → Prop} {t : Nat} (hL : am_Lay S) (hT : am_Tk S t) {i1 : Int32} {iv : am_I} {v' : Int32} {iv' : am_I} (e : F_X8_refuse t i1 iv = some (v', iv')) (h : Q (.inl (some (.int v'))) S iv') {d : Nat} (hd : 0 ≤ d) : am_M E d mX8_refuse 0 0 [.ref t, .int i1] S iv Q :=
  YR_X8_refuse hL hT e h hd
def F_X8_refusal (t : Nat) (iv : am_I) : Option (Int32) :=
  some (iv t 5)
theorem R_X8_refusal {E : am_E} {S : am_S} {Q : am_O → am_S → am_I → Prop} {t : Nat} (hL : am_Lay S) (hT : am_Tk S t) {iv : am_I} {y : Int32} (e : F_X8_refusal t  iv = some y) (h : Q (.inl (some (.int y))) S iv) {d : Nat} (hd : 0 ≤ d) : am_M E d mX8_refusal 0 0 [.ref t] S iv Q := by
  refine am_enter (js := []) rfl pn_X8 rfl rfl rfl (Nat.le_of_ble_eq_true rfl) (am_R.deep ?_ hd)
  refine (sX8_refusal_0 rfl (sX8_refusal_1 (hT.1) (sX8_refusal_4 ?_)))
  obtain rfl := Option.some.inj e
  exact h
def F_X8_place (t : Nat) (iv : am_I) : Option (Int32) :=
  some (iv t 3)
theorem R_X8_place {E : am_E} {S : am_S} {Q : am_O → am_S → am_I → Prop} {t : Nat} (hL : am_Lay S) (hT : am_Tk S t) {iv : am_I} {y : Int32} (e : F_X8_place t  iv = some y) (h : Q (.inl (some (.int y))) S iv) {d : Nat} (hd : 0 ≤ d) : am_M E d mX8_place 0 0 [.ref t] S iv Q := by
  refine am_enter (js := []) rfl pn_X8 rfl rfl rfl (Nat.le_of_ble_eq_true rfl) (am_R.deep ?_ hd)
  refine (sX8_place_0 rfl (sX8_place_1 (hT.1) (sX8_place_4 ?_)))
  obtain rfl := Option.some.inj e
  exact h
