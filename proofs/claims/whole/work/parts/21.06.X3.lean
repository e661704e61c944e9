/-! functions of the methods, and their rows (by program) -/
def J_X3_signTold_146 (w : Nat) (t : Nat) (rr : Nat) (xr : Nat) (iv : am_I) : Option (Int32) :=
  (am_o1 (F_X8_isSign t (42 : Int32) iv) fun v1 => (if v1 = 0 then (am_o1 (F_X8_isSign t (47 : Int32) iv) fun v2 => (if v2 = 0 then some (0 : Int32) else some (-13 : Int32))) else some (-12 : Int32)))
theorem j_X3_signTold_146 {E : am_E} {S : am_S} {Q : am_O → am_S → am_I → Prop} {w : Nat} {t : Nat} {rr : Nat} {xr : Nat} (hL : am_Lay S) (hw : w = 2 ∨ w = 22) (hR : am_Rd S w t rr xr) {z1 : Value} {iv : am_I} {y : Int32} (e : J_X3_signTold_146 w t rr xr  iv = some y) (h : Q (.inl (some (.int y))) S iv) : am_R E 5 mX3_signTold 0 0 146 [.ref xr, z1] [] S iv Q := by
  replace e := am_o1_i e; obtain ⟨v1, e1, e⟩ := e
  refine (sX3_signTold_146 rfl (sX3_signTold_147 (hR.2.2.2.2.2.1) (hR.2.2.2.2.2.2.1) (sX3_signTold_150 (sX3_signTold_152 (hR.1.1) (Nat.le_of_ble_eq_true rfl) (R_X8_isSign hL hR.1 (h := ?_) (hd := (Nat.le_of_ble_eq_true rfl)) (e := e1))))))
  refine sX3_signTold_155 (fun hbr => ?_) (fun hbr => ?_)
  · replace e := am_pos hbr e
    replace e := am_o1_i e; obtain ⟨v2, e2, e⟩ := e
    refine (sX3_signTold_163 rfl (sX3_signTold_164 (hR.2.2.2.2.2.1) (hR.2.2.2.2.2.2.1) (sX3_signTold_167 (sX3_signTold_169 (hR.1.1) (Nat.le_of_ble_eq_true rfl) (R_X8_isSign hL hR.1 (h := ?_) (hd := (Nat.le_of_ble_eq_true rfl)) (e := e2))))))
    refine sX3_signTold_172 (fun hbr => ?_) (fun hbr => ?_)
    · replace e := am_pos hbr e
      refine (sX3_signTold_180 (sX3_signTold_181 ?_))
      obtain rfl := Option.some.inj e
      exact h
    · replace e := am_neg hbr e
      refine (sX3_signTold_175 (sX3_signTold_177 (sX3_signTold_181 ?_)))
      obtain rfl := Option.some.inj e
      exact h
  · replace e := am_neg hbr e
    refine (sX3_signTold_158 (sX3_signTold_160 (sX3_signTold_181 ?_)))
    obtain rfl := Option.some.inj e
    exact h
def F_X3_signTold (w : Nat) (t : Nat) (rr : Nat) (xr : Nat) (i1 : Int32) (iv : am_I) : Option (Int32) :=
  (if i1.toInt < 0 ∨ 4 < i1.toInt then J_X3_signTold_146 w t rr xr  iv else if i1 = (0 : Int32) then (am_o1 (F_X8_isWord t 19  iv) fun v3 => (if v3 = 0 then some (0 : Int32) else some (-17 : Int32))) else if i1 = (1 : Int32) then (am_o1 (F_X8_isWord t 20  iv) fun v4 => (if v4 = 0 then some (0 : Int32) else some (-16 : Int32))) else if i1 = (2 : Int32) then J_X3_signTold_146 w t rr xr  iv else if i1 = (3 : Int32) then (am_o1 (F_X8_isSign t (60 : Int32) iv) fun v5 => (if v5 = 0 then (am_o1 (F_X8_isSign t (61 : Int32) iv) fun v6 => (if v6 = 0 then some (0 : Int32) else some (-15 : Int32))) else some (-14 : Int32))) else if i1 = (4 : Int32) then (am_o1 (F_X8_isSign t (43 : Int32) iv) fun v7 => (if v7 = 0 then (am_o1 (F_X8_isSign t (45 : Int32) iv) fun v8 => (if v8 = 0 then some (0 : Int32) else some (-11 : Int32))) else some (-10 : Int32))) else none)
theorem R_X3_signTold {E : am_E} {S : am_S} {Q : am_O → am_S → am_I → Prop} {w : Nat} {t : Nat} {rr : Nat} {xr : Nat} (hL : am_Lay S) (hw : w = 2 ∨ w = 22) (hR : am_Rd S w t rr xr) {i1 : Int32} {iv : am_I} {y : Int32} (e : F_X3_signTold w t rr xr i1 iv = some y) (h : Q (.inl (some (.int y))) S iv) {d : Nat} (hd : 5 ≤ d) : am_M E d mX3_signTold 0 0 [.ref xr, .int i1] S iv Q := by
  refine am_enter (js := []) rfl pn_X3 rfl rfl rfl (Nat.le_of_ble_eq_true rfl) (am_R.deep ?_ hd)
  refine (sX3_signTold_0 ?_)
  by_cases hs : i1.toInt < 0 ∨ 4 < i1.toInt
  · replace e := am_pos hs e
    refine sX3_signTold_1_d hs ?_
    exact j_X3_signTold_146 hL hw hR e h
  · replace e := am_neg hs e
    by_cases hs0 : i1 = (0 : Int32)
    · replace e := am_pos hs0 e
      subst hs0
      refine sX3_signTold_1_0 ?_
      replace e := am_o1_i e; obtain ⟨v3, e3, e⟩ := e
      refine (sX3_signTold_36 rfl (sX3_signTold_37 (hR.2.2.2.2.2.1) (hR.2.2.2.2.2.2.1) (sX3_signTold_40 (sX3_signTold_42 (hR.1.1) (Nat.le_of_ble_eq_true rfl) (R_X8_isWord hL hR.1 (by decide) (h := ?_) (hd := (Nat.le_of_ble_eq_true rfl)) (e := e3))))))
      refine sX3_signTold_45 (fun hbr => ?_) (fun hbr => ?_)
      · replace e := am_pos hbr e
        refine (sX3_signTold_53 (sX3_signTold_54 ?_))
        obtain rfl := Option.some.inj e
        exact h
      · replace e := am_neg hbr e
        refine (sX3_signTold_48 (sX3_signTold_50 (sX3_signTold_54 ?_)))
        obtain rfl := Option.some.inj e
        exact h
    replace e := am_neg hs0 e
    by_cases hs1 : i1 = (1 : Int32)
    · replace e := am_pos hs1 e
      subst hs1
      refine sX3_signTold_1_1 ?_
      replace e := am_o1_i e; obtain ⟨v4, e4, e⟩ := e
      refine (sX3_signTold_55 rfl (sX3_signTold_56 (hR.2.2.2.2.2.1) (hR.2.2.2.2.2.2.1) (sX3_signTold_59 (sX3_signTold_61 (hR.1.1) (Nat.le_of_ble_eq_true rfl) (R_X8_isWord hL hR.1 (by decide) (h := ?_) (hd := (Nat.le_of_ble_eq_true rfl)) (e := e4))))))
      refine sX3_signTold_64 (fun hbr => ?_) (fun hbr => ?_)
      · replace e := am_pos hbr e
        refine (sX3_signTold_72 (sX3_signTold_73 ?_))
        obtain rfl := Option.some.inj e
        exact h
      · replace e := am_neg hbr e
        refine (sX3_signTold_67 (sX3_signTold_69 (sX3_signTold_73 ?_)))
        obtain rfl := Option.some.inj e
        exact h
    replace e := am_neg hs1 e
    by_cases hs2 : i1 = (2 : Int32)
    · replace e := am_pos hs2 e
      subst hs2
      refine sX3_signTold_1_2 ?_
      exact j_X3_signTold_146 hL hw hR e h
    replace e := am_neg hs2 e
    by_cases hs3 : i1 = (3 : Int32)
    · replace e := am_pos hs3 e
      subst hs3
      refine sX3_signTold_1_3 ?_
      replace e := am_o1_i e; obtain ⟨v5, e5, e⟩ := e
      refine (sX3_signTold_74 rfl (sX3_signTold_75 (hR.2.2.2.2.2.1) (hR.2.2.2.2.2.2.1) (sX3_signTold_78 (sX3_signTold_80 (hR.1.1) (Nat.le_of_ble_eq_true rfl) (R_X8_isSign hL hR.1 (h := ?_) (hd := (Nat.le_of_ble_eq_true rfl)) (e := e5))))))
      refine sX3_signTold_83 (fun hbr => ?_) (fun hbr => ?_)
      · replace e := am_pos hbr e
        replace e := am_o1_i e; obtain ⟨v6, e6, e⟩ := e
        refine (sX3_signTold_91 rfl (sX3_signTold_92 (hR.2.2.2.2.2.1) (hR.2.2.2.2.2.2.1) (sX3_signTold_95 (sX3_signTold_97 (hR.1.1) (Nat.le_of_ble_eq_true rfl) (R_X8_isSign hL hR.1 (h := ?_) (hd := (Nat.le_of_ble_eq_true rfl)) (e := e6))))))
        refine sX3_signTold_100 (fun hbr => ?_) (fun hbr => ?_)
        · replace e := am_pos hbr e
          refine (sX3_signTold_108 (sX3_signTold_109 ?_))
          obtain rfl := Option.some.inj e
          exact h
        · replace e := am_neg hbr e
          refine (sX3_signTold_103 (sX3_signTold_105 (sX3_signTold_109 ?_)))
          obtain rfl := Option.some.inj e
          exact h
      · replace e := am_neg hbr e
        refine (sX3_signTold_86 (sX3_signTold_88 (sX3_signTold_109 ?_)))
        obtain rfl := Option.some.inj e
        exact h
    replace e := am_neg hs3 e
    by_cases hs4 : i1 = (4 : Int32)
    · replace e := am_pos hs4 e
      subst hs4
      refine sX3_signTold_1_4 ?_
      replace e := am_o1_i e; obtain ⟨v7, e7, e⟩ := e
      refine (sX3_signTold_110 rfl (sX3_signTold_111 (hR.2.2.2.2.2.1) (hR.2.2.2.2.2.2.1) (sX3_signTold_114 (sX3_signTold_116 (hR.1.1) (Nat.le_of_ble_eq_true rfl) (R_X8_isSign hL hR.1 (h := ?_) (hd := (Nat.le_of_ble_eq_true rfl)) (e := e7))))))
      refine sX3_signTold_119 (fun hbr => ?_) (fun hbr => ?_)
      · replace e := am_pos hbr e
        replace e := am_o1_i e; obtain ⟨v8, e8, e⟩ := e
        refine (sX3_signTold_127 rfl (sX3_signTold_128 (hR.2.2.2.2.2.1) (hR.2.2.2.2.2.2.1) (sX3_signTold_131 (sX3_signTold_133 (hR.1.1) (Nat.le_of_ble_eq_true rfl) (R_X8_isSign hL hR.1 (h := ?_) (hd := (Nat.le_of_ble_eq_true rfl)) (e := e8))))))
        refine sX3_signTold_136 (fun hbr => ?_) (fun hbr => ?_)
        · replace e := am_pos hbr e
          refine (sX3_signTold_144 (sX3_signTold_145 ?_))
          obtain rfl := Option.some.inj e
          exact h
        · replace e := am_neg hbr e
          refine (sX3_signTold_139 (sX3_signTold_141 (sX3_signTold_145 ?_)))
          obtain rfl := Option.some.inj e
          exact h
      · replace e := am_neg hbr e
        refine (sX3_signTold_122 (sX3_signTold_124 (sX3_signTold_145 ?_)))
        obtain rfl := Option.some.inj e
        exact h
    replace e := am_neg hs4 e
    cases e
def F_X3_valueTold (w : Nat) (t : Nat) (rr : Nat) (xr : Nat) (iv : am_I) : Option (Int32) :=
  (am_o1 (F_X8_isWord t 12  iv) fun v1 => (if v1 = 0 then (am_o1 (F_X8_isWord t 13  iv) fun v2 => (if v2 = 0 then (am_o1 (F_X8_isWord t 14  iv) fun v3 => (if v3 = 0 then (am_o1 (F_X8_isWord t 15  iv) fun v4 => (if v4 = 0 then (am_o1 (F_X8_isWord t 16  iv) fun v5 => (if v5 = 0 then (am_o1 (F_X8_isWord t 17  iv) fun v6 => (if v6 = 0 then (am_o1 (F_X8_isWord t 18  iv) fun v7 => (if v7 = 0 then some (-1 : Int32) else some (6 : Int32))) else some (5 : Int32))) else some (4 : Int32))) else some (3 : Int32))) else some (2 : Int32))) else some (1 : Int32))) else some (0 : Int32)))
theorem R_X3_valueTold {E : am_E} {S : am_S} {Q : am_O → am_S → am_I → Prop} {w : Nat} {t : Nat} {rr : Nat} {xr : Nat} (hL : am_Lay S) (hw : w = 2 ∨ w = 22) (hR : am_Rd S w t rr xr) {iv : am_I} {y : Int32} (e : F_X3_valueTold w t rr xr  iv = some y) (h : Q (.inl (some (.int y))) S iv) {d : Nat} (hd : 5 ≤ d) : am_M E d mX3_valueTold 0 0 [.ref xr] S iv Q := by
  refine am_enter (js := []) rfl pn_X3 rfl rfl rfl (Nat.le_of_ble_eq_true rfl) (am_R.deep ?_ hd)
  replace e := am_o1_i e; obtain ⟨v1, e1, e⟩ := e
  refine (sX3_valueTold_0 rfl (sX3_valueTold_1 (hR.2.2.2.2.2.1) (hR.2.2.2.2.2.2.1) (sX3_valueTold_4 (sX3_valueTold_6 (hR.1.1) (Nat.le_of_ble_eq_true rfl) (R_X8_isWord hL hR.1 (by decide) (h := ?_) (hd := (Nat.le_of_ble_eq_true rfl)) (e := e1))))))
  refine sX3_valueTold_9 (fun hbr => ?_) (fun hbr => ?_)
  · replace e := am_pos hbr e
    replace e := am_o1_i e; obtain ⟨v2, e2, e⟩ := e
    refine (sX3_valueTold_14 rfl (sX3_valueTold_15 (hR.2.2.2.2.2.1) (hR.2.2.2.2.2.2.1) (sX3_valueTold_18 (sX3_valueTold_20 (hR.1.1) (Nat.le_of_ble_eq_true rfl) (R_X8_isWord hL hR.1 (by decide) (h := ?_) (hd := (Nat.le_of_ble_eq_true rfl)) (e := e2))))))
    refine sX3_valueTold_23 (fun hbr => ?_) (fun hbr => ?_)
    · replace e := am_pos hbr e
      replace e := am_o1_i e; obtain ⟨v3, e3, e⟩ := e
      refine (sX3_valueTold_28 rfl (sX3_valueTold_29 (hR.2.2.2.2.2.1) (hR.2.2.2.2.2.2.1) (sX3_valueTold_32 (sX3_valueTold_34 (hR.1.1) (Nat.le_of_ble_eq_true rfl) (R_X8_isWord hL hR.1 (by decide) (h := ?_) (hd := (Nat.le_of_ble_eq_true rfl)) (e := e3))))))
      refine sX3_valueTold_37 (fun hbr => ?_) (fun hbr => ?_)
      · replace e := am_pos hbr e
        replace e := am_o1_i e; obtain ⟨v4, e4, e⟩ := e
        refine (sX3_valueTold_42 rfl (sX3_valueTold_43 (hR.2.2.2.2.2.1) (hR.2.2.2.2.2.2.1) (sX3_valueTold_46 (sX3_valueTold_48 (hR.1.1) (Nat.le_of_ble_eq_true rfl) (R_X8_isWord hL hR.1 (by decide) (h := ?_) (hd := (Nat.le_of_ble_eq_true rfl)) (e := e4))))))
        refine sX3_valueTold_51 (fun hbr => ?_) (fun hbr => ?_)
        · replace e := am_pos hbr e
          replace e := am_o1_i e; obtain ⟨v5, e5, e⟩ := e
          refine (sX3_valueTold_56 rfl (sX3_valueTold_57 (hR.2.2.2.2.2.1) (hR.2.2.2.2.2.2.1) (sX3_valueTold_60 (sX3_valueTold_62 (hR.1.1) (Nat.le_of_ble_eq_true rfl) (R_X8_isWord hL hR.1 (by decide) (h := ?_) (hd := (Nat.le_of_ble_eq_true rfl)) (e := e5))))))
          refine sX3_valueTold_65 (fun hbr => ?_) (fun hbr => ?_)
          · replace e := am_pos hbr e
            replace e := am_o1_i e; obtain ⟨v6, e6, e⟩ := e
            refine (sX3_valueTold_70 rfl (sX3_valueTold_71 (hR.2.2.2.2.2.1) (hR.2.2.2.2.2.2.1) (sX3_valueTold_74 (sX3_valueTold_76 (hR.1.1) (Nat.le_of_ble_eq_true rfl) (R_X8_isWord hL hR.1 (by decide) (h := ?_) (hd := (Nat.le_of_ble_eq_true rfl)) (e := e6))))))
            refine sX3_valueTold_79 (fun hbr => ?_) (fun hbr => ?_)
            · replace e := am_pos hbr e
              replace e := am_o1_i e; obtain ⟨v7, e7, e⟩ := e
              refine (sX3_valueTold_84 rfl (sX3_valueTold_85 (hR.2.2.2.2.2.1) (hR.2.2.2.2.2.2.1) (sX3_valueTold_88 (sX3_valueTold_90 (hR.1.1) (Nat.le_of_ble_eq_true rfl) (R_X8_isWord hL hR.1 (by decide) (h := ?_) (hd := (Nat.le_of_ble_eq_true rfl)) (e := e7))))))
              refine sX3_valueTold_93 (fun hbr => ?_) (fun hbr => ?_)
              · replace e := am_pos hbr e
                refine (sX3_valueTold_101 (sX3_valueTold_102 ?_))
                obtain rfl := Option.some.inj e
                exact h
              · replace e := am_neg hbr e
                refine (sX3_valueTold_96 (sX3_valueTold_98 (sX3_valueTold_102 ?_)))
                obtain rfl := Option.some.inj e
                exact h
            · replace e := am_neg hbr e
              refine (sX3_valueTold_82 (sX3_valueTold_83 ?_))
              obtain rfl := Option.some.inj e
              exact h
          · replace e := am_neg hbr e
            refine (sX3_valueTold_68 (sX3_valueTold_69 ?_))
            obtain rfl := Option.some.inj e
            exact h
        · replace e := am_neg hbr e
          refine (sX3_valueTold_54 (sX3_valueTold_55 ?_))
          obtain rfl := Option.some.inj e
          exact h
      · replace e := am_neg hbr e
        refine (sX3_valueTold_40 (sX3_valueTold_41 ?_))
        obtain rfl := Option.some.inj e
        exact h
    · replace e := am_neg hbr e
      refine (sX3_valueTold_26 (sX3_valueTold_27 ?_))
      obtain rfl := Option.some.inj e
      exact h
  · replace e := am_neg hbr e
    refine (sX3_valueTold_12 (sX3_valueTold_13 ?_))
    obtain rfl := Option.some.inj e
    exact h
def J_X3_readParenthesis_66 (w : Nat) (t : Nat) (rr : Nat) (xr : Nat) (rc : Int32 → Int32 → am_I → Option (Int32 × am_I)) (k1 : Int32) (iv : am_I) : Option (Int32 × am_I) :=
  (am_o2 (F_X8_refuse t k1 iv) fun v8 w8 => (if v8 = 0 ∨ v8 = 1 then some (v8, w8) else none))
theorem j_X3_readParenthesis_66 {E : am_E} {S : am_S} {Q : am_O → am_S → am_I → Prop} {w : Nat} {t : Nat} {rr : Nat} {xr : Nat} {D : Nat} {rc : Int32 → Int32 → am_I → Option (Int32 × am_I)} (hrc : ∀ {d' : Nat} {y1 y2 v' : Int32} {iv iv' : am_I} {Q' : am_O → am_S → am_I → Prop}, rc y1 y2 iv = some (v', iv') → Q' (.inl (some (.int v'))) S iv' → D ≤ d' → am_M E d' mX3_readLevel 0 0 [.ref xr, .int y1, .int y2] S iv Q') (hL : am_Lay S) (hw : w = 2 ∨ w = 22) (hR : am_Rd S w t rr xr) {z0 z1 z2 : Value} {k1 : Int32} {iv : am_I} {y : Int32 × am_I} (e : J_X3_readParenthesis_66 w t rr xr rc k1 iv = some y) (h : Q (.inl (some (.int y.1))) S y.2) : am_R E (D + 8) mX3_readParenthesis 0 0 66 [z0, z1, z2] [.int k1, .ref t] S iv Q := by
  replace e := am_o2_i e; obtain ⟨v8, w8, e8, e⟩ := e
  replace e := am_ck e; obtain ⟨c9, e⟩ := e
  refine (sX3_readParenthesis_66 (hR.1.1) (Nat.le_of_ble_eq_true rfl) (R_X8_refuse hL hR.1 (h := (sX3_readParenthesis_69 (am_nar c9) ?_)) (hd := (by omega)) (e := e8)))
  obtain rfl := Option.some.inj e
  exact h
def J_X3_readParenthesis_52 (w : Nat) (t : Nat) (rr : Nat) (xr : Nat) (rc : Int32 → Int32 → am_I → Option (Int32 × am_I)) (k0 : Int32) (iv : am_I) : Option (Int32 × am_I) :=
  (if k0 = 0 then J_X3_readParenthesis_66 w t rr xr rc (1 : Int32) iv else J_X3_readParenthesis_66 w t rr xr rc (2 : Int32) iv)
theorem j_X3_readParenthesis_52 {E : am_E} {S : am_S} {Q : am_O → am_S → am_I → Prop} {w : Nat} {t : Nat} {rr : Nat} {xr : Nat} {D : Nat} {rc : Int32 → Int32 → am_I → Option (Int32 × am_I)} (hrc : ∀ {d' : Nat} {y1 y2 v' : Int32} {iv iv' : am_I} {Q' : am_O → am_S → am_I → Prop}, rc y1 y2 iv = some (v', iv') → Q' (.inl (some (.int v'))) S iv' → D ≤ d' → am_M E d' mX3_readLevel 0 0 [.ref xr, .int y1, .int y2] S iv Q') (hL : am_Lay S) (hw : w = 2 ∨ w = 22) (hR : am_Rd S w t rr xr) {z1 z2 : Value} {k0 : Int32} {iv : am_I} {y : Int32 × am_I} (e : J_X3_readParenthesis_52 w t rr xr rc k0 iv = some y) (h : Q (.inl (some (.int y.1))) S y.2) : am_R E (D + 8) mX3_readParenthesis 0 0 52 [.ref xr, z1, z2] [.int k0] S iv Q := by
  refine (sX3_readParenthesis_52 (sX3_readParenthesis_53 rfl (sX3_readParenthesis_54 (hR.2.2.2.2.2.1) (hR.2.2.2.2.2.2.1) (sX3_readParenthesis_57 ?_))))
  refine sX3_readParenthesis_58 (fun hbr => ?_) (fun hbr => ?_)
  · replace e := am_pos hbr e
    refine (sX3_readParenthesis_65 ?_)
    exact j_X3_readParenthesis_66 hrc hL hw hR e h
  · replace e := am_neg hbr e
    refine (sX3_readParenthesis_61 (sX3_readParenthesis_62 ?_))
    exact j_X3_readParenthesis_66 hrc hL hw hR e h
def J_X3_readParenthesis_47 (w : Nat) (t : Nat) (rr : Nat) (xr : Nat) (rc : Int32 → Int32 → am_I → Option (Int32 × am_I)) (iv : am_I) : Option (Int32 × am_I) :=
  J_X3_readParenthesis_52 w t rr xr rc (1 : Int32) iv
theorem j_X3_readParenthesis_47 {E : am_E} {S : am_S} {Q : am_O → am_S → am_I → Prop} {w : Nat} {t : Nat} {rr : Nat} {xr : Nat} {D : Nat} {rc : Int32 → Int32 → am_I → Option (Int32 × am_I)} (hrc : ∀ {d' : Nat} {y1 y2 v' : Int32} {iv iv' : am_I} {Q' : am_O → am_S → am_I → Prop}, rc y1 y2 iv = some (v', iv') → Q' (.inl (some (.int v'))) S iv' → D ≤ d' → am_M E d' mX3_readLevel 0 0 [.ref xr, .int y1, .int y2] S iv Q') (hL : am_Lay S) (hw : w = 2 ∨ w = 22) (hR : am_Rd S w t rr xr) {z1 z2 : Value} {iv : am_I} {y : Int32 × am_I} (e : J_X3_readParenthesis_47 w t rr xr rc  iv = some y) (h : Q (.inl (some (.int y.1))) S y.2) : am_R E (D + 8) mX3_readParenthesis 0 0 47 [.ref xr, z1, z2] [] S iv Q := by
  refine (sX3_readParenthesis_47 (sX3_readParenthesis_48 ?_))
  exact j_X3_readParenthesis_52 hrc hL hw hR e h
def F_X3_readParenthesis (w : Nat) (t : Nat) (rr : Nat) (xr : Nat) (rc : Int32 → Int32 → am_I → Option (Int32 × am_I)) (i1 : Int32) (iv : am_I) : Option (Int32 × am_I) :=
  (am_o1 (F_X8_advance t  iv) fun w1 => (if (i1 + (1 : Int32)) < (6 : Int32) then (am_o2 (rc (0 : Int32) (i1 + (1 : Int32)) w1) fun v2 w2 => (if v2 = 0 then some ((0 : Int32), w2) else (am_o1 (F_X8_isSign t (41 : Int32) w2) fun v3 => (if v3 = 0 then (am_o2 (F_X8_refuse t (1 : Int32) w2) fun v5 w5 => (if v5 = 0 ∨ v5 = 1 then some (v5, w5) else none)) else (am_o1 (F_X8_advance t  w2) fun w4 => some ((1 : Int32), w4)))))) else (am_o1 (F_X8_isNumber t  w1) fun v7 => (if v7 = 0 then (am_o1 (F_X8_isAnyWord t  w1) fun v10 => (if v10 = 0 then (am_o1 (F_X8_isSign t (40 : Int32) w1) fun v11 => (if v11 = 0 then J_X3_readParenthesis_52 w t rr xr rc (0 : Int32) w1 else J_X3_readParenthesis_47 w t rr xr rc  w1)) else J_X3_readParenthesis_47 w t rr xr rc  w1)) else J_X3_readParenthesis_47 w t rr xr rc  w1))))
theorem YR_X3_readParenthesis {E : am_E} {S : am_S} {Q : am_O → am_S → am_I → Prop} {w : Nat} {t : Nat} {rr : Nat} {xr : Nat} {D : Nat} {rc : Int32 → Int32 → am_I → Option (Int32 × am_I)} (hrc : ∀ {d' : Nat} {y1 y2 v' : Int32} {iv iv' : am_I} {Q' : am_O → am_S → am_I → Prop}, rc y1 y2 iv = some (v', iv') → Q' (.inl (some (.int v'))) S iv' → D ≤ d' → am_M E d' mX3_readLevel 0 0 [.ref xr, .int y1, .int y2] S iv Q') (hL : am_Lay S) (hw : w = 2 ∨ w = 22) (hR : am_Rd S w t rr xr) {i1 : Int32} {iv : am_I} {y : Int32 × am_I} (e : F_X3_readParenthesis w t rr xr rc i1 iv = some y) (h : Q (.inl (some (.int y.1))) S y.2) {d : Nat} (hd : (D + 8) ≤ d) : am_M E d mX3_readParenthesis 0 0 [.ref xr, .int i1] S iv Q := by
  refine am_enter (js := [.double 0]) rfl pn_X3 rfl rfl rfl (Nat.le_of_ble_eq_true rfl) (am_R.deep ?_ hd)
  replace e := am_o1_i e; obtain ⟨w1, e1, e⟩ := e
  refine (sX3_readParenthesis_0 rfl (sX3_readParenthesis_1 (hR.2.2.2.2.2.1) (hR.2.2.2.2.2.2.1) (sX3_readParenthesis_4 (hR.1.1) (Nat.le_of_ble_eq_true rfl) (R_X8_advance hL hR.1 (h := (sX3_readParenthesis_7 (sX3_readParenthesis_8 (sX3_readParenthesis_9 (sX3_readParenthesis_10 ?_))))) (hd := (by omega)) (e := e1)))))
  refine sX3_readParenthesis_12 (fun hbr => ?_) (fun hbr => ?_)
  · replace e := am_pos hbr e
    replace e := am_o2_i e; obtain ⟨v2, w2, e2, e⟩ := e
    refine (sX3_readParenthesis_70 rfl (sX3_readParenthesis_71 (sX3_readParenthesis_72 (sX3_readParenthesis_73 (sX3_readParenthesis_74 (sX3_readParenthesis_75 (hR.2.2.2.2.2.1) (Nat.le_of_ble_eq_true rfl) (hrc e2 ?_ (by omega))))))))
    refine sX3_readParenthesis_78 (fun hbr => ?_) (fun hbr => ?_)
    · replace e := am_neg hbr e
      replace e := am_o1_i e; obtain ⟨v3, e3, e⟩ := e
      refine (sX3_readParenthesis_83 rfl (sX3_readParenthesis_84 (hR.2.2.2.2.2.1) (hR.2.2.2.2.2.2.1) (sX3_readParenthesis_87 (sX3_readParenthesis_89 (hR.1.1) (Nat.le_of_ble_eq_true rfl) (R_X8_isSign hL hR.1 (h := ?_) (hd := (by omega)) (e := e3))))))
      refine sX3_readParenthesis_92 (fun hbr => ?_) (fun hbr => ?_)
      · replace e := am_neg hbr e
        replace e := am_o1_i e; obtain ⟨w4, e4, e⟩ := e
        refine (sX3_readParenthesis_104 rfl (sX3_readParenthesis_105 (hR.2.2.2.2.2.1) (hR.2.2.2.2.2.2.1) (sX3_readParenthesis_108 (hR.1.1) (Nat.le_of_ble_eq_true rfl) (R_X8_advance hL hR.1 (h := (sX3_readParenthesis_111 (sX3_readParenthesis_112 rfl ?_))) (hd := (by omega)) (e := e4)))))
        obtain rfl := Option.some.inj e
        exact h
      · replace e := am_pos hbr e
        replace e := am_o2_i e; obtain ⟨v5, w5, e5, e⟩ := e
        replace e := am_ck e; obtain ⟨c6, e⟩ := e
        refine (sX3_readParenthesis_95 rfl (sX3_readParenthesis_96 (hR.2.2.2.2.2.1) (hR.2.2.2.2.2.2.1) (sX3_readParenthesis_99 (sX3_readParenthesis_100 (hR.1.1) (Nat.le_of_ble_eq_true rfl) (R_X8_refuse hL hR.1 (h := (sX3_readParenthesis_103 (am_nar c6) ?_)) (hd := (by omega)) (e := e5))))))
        obtain rfl := Option.some.inj e
        exact h
    · replace e := am_pos hbr e
      refine (sX3_readParenthesis_81 (sX3_readParenthesis_82 rfl ?_))
      obtain rfl := Option.some.inj e
      exact h
  · replace e := am_neg hbr e
    replace e := am_o1_i e; obtain ⟨v7, e7, e⟩ := e
    refine (sX3_readParenthesis_15 rfl (sX3_readParenthesis_16 (hR.2.2.2.2.2.1) (hR.2.2.2.2.2.2.1) (sX3_readParenthesis_19 (hR.1.1) (Nat.le_of_ble_eq_true rfl) (R_X8_isNumber hL hR.1 (h := ?_) (hd := (by omega)) (e := e7)))))
    refine sX3_readParenthesis_22 (fun hbr => ?_) (fun hbr => ?_)
    · replace e := am_neg hbr e
      exact j_X3_readParenthesis_47 hrc hL hw hR e h
    · replace e := am_pos hbr e
      replace e := am_o1_i e; obtain ⟨v10, e10, e⟩ := e
      refine (sX3_readParenthesis_25 rfl (sX3_readParenthesis_26 (hR.2.2.2.2.2.1) (hR.2.2.2.2.2.2.1) (sX3_readParenthesis_29 (hR.1.1) (Nat.le_of_ble_eq_true rfl) (R_X8_isAnyWord hL hR.1 (h := ?_) (hd := (by omega)) (e := e10)))))
      refine sX3_readParenthesis_32 (fun hbr => ?_) (fun hbr => ?_)
      · replace e := am_neg hbr e
        exact j_X3_readParenthesis_47 hrc hL hw hR e h
      · replace e := am_pos hbr e
        replace e := am_o1_i e; obtain ⟨v11, e11, e⟩ := e
        refine (sX3_readParenthesis_35 rfl (sX3_readParenthesis_36 (hR.2.2.2.2.2.1) (hR.2.2.2.2.2.2.1) (sX3_readParenthesis_39 (sX3_readParenthesis_41 (hR.1.1) (Nat.le_of_ble_eq_true rfl) (R_X8_isSign hL hR.1 (h := ?_) (hd := (by omega)) (e := e11))))))
        refine sX3_readParenthesis_44 (fun hbr => ?_) (fun hbr => ?_)
        · replace e := am_pos hbr e
          refine (sX3_readParenthesis_51 ?_)
          exact j_X3_readParenthesis_52 hrc hL hw hR e h
        · replace e := am_neg hbr e
          exact j_X3_readParenthesis_47 hrc hL hw hR e h
theorem R_X3_readParenthesis {E : am_E} {S : am_S} {Q : am_O → am_S → am_I → Prop} {w : Nat} {t : Nat} {rr : Nat} {xr : Nat} {D : Nat} {rc : Int32 → Int32 → am_I → Option (Int32 × am_I)} (hrc : ∀ {d' : Nat} {y1 y2 v' : Int32} {iv iv' : am_I} {Q' : am_O → am_S → am_I → Prop}, rc y1 y2 iv = some (v', iv') → Q' (.inl (some (.int v'))) S iv' → D ≤ d' → am_M E d' mX3_readLevel 0 0 [.ref xr, .int y1, .int y2] S iv Q') (hL : am_Lay S) (hw : w = 2 ∨ w = 22) (hR : am_Rd S w t rr xr) {i1 : Int32} {iv : am_I} {v' : Int32} {iv' : am_I} (e : F_X3_readParenthesis w t rr xr rc i1 iv = some (v', iv')) (h : Q (.inl (some (.int v'))) S iv') {d : Nat} (hd : (D + 8) ≤ d) : am_M E d mX3_readParenthesis 0 0 [.ref xr, .int i1] S iv Q :=
  YR_X3_readParenthesis hrc hL hw hR e h hd
def J_X3_readPart_116 (w : Nat) (t : Nat) (rr : Nat) (xr : Nat) (rc : Int32 → Int32 → am_I → Option (Int32 × am_I)) (iv : am_I) : Option (Int32 × am_I) :=
  (am_o1 (F_X8_advance t  iv) fun w9 => some ((1 : Int32), w9))
theorem j_X3_readPart_116 {E : am_E} {S : am_S} {Q : am_O → am_S → am_I → Prop} {w : Nat} {t : Nat} {rr : Nat} {xr : Nat} {D : Nat} {rc : Int32 → Int32 → am_I → Option (Int32 × am_I)} (hrc : ∀ {d' : Nat} {y1 y2 v' : Int32} {iv iv' : am_I} {Q' : am_O → am_S → am_I → Prop}, rc y1 y2 iv = some (v', iv') → Q' (.inl (some (.int v'))) S iv' → D ≤ d' → am_M E d' mX3_readLevel 0 0 [.ref xr, .int y1, .int y2] S iv Q') (hL : am_Lay S) (hw : w = 2 ∨ w = 22) (hR : am_Rd S w t rr xr) {z1 z2 : Value} {iv : am_I} {y : Int32 × am_I} (e : J_X3_readPart_116 w t rr xr rc  iv = some y) (h : Q (.inl (some (.int y.1))) S y.2) : am_R E (D + 9) mX3_readPart 0 0 116 [.ref xr, z1, z2] [] S iv Q := by
  replace e := am_o1_i e; obtain ⟨w9, e9, e⟩ := e
  refine (sX3_readPart_116 rfl (sX3_readPart_117 (hR.2.2.2.2.2.1) (hR.2.2.2.2.2.2.1) (sX3_readPart_120 (hR.1.1) (Nat.le_of_ble_eq_true rfl) (R_X8_advance hL hR.1 (h := (sX3_readPart_123 (sX3_readPart_124 rfl ?_))) (hd := (by omega)) (e := e9)))))
  obtain rfl := Option.some.inj e
  exact h
def F_X3_readPart (w : Nat) (t : Nat) (rr : Nat) (xr : Nat) (rc : Int32 → Int32 → am_I → Option (Int32 × am_I)) (i1 : Int32) (iv : am_I) : Option (Int32 × am_I) :=
  (am_o1 (F_X8_isSign t (40 : Int32) iv) fun v1 => (if v1 = 0 then (am_o1 (F_X8_isNumber t  iv) fun v2 => (if v2 = 0 then (am_o1 (F_X8_isAnyWord t  iv) fun v3 => (if v3 = 0 then (am_o2 (F_X8_refuse t (1 : Int32) iv) fun v4 w4 => (if v4 = 0 ∨ v4 = 1 then some (v4, w4) else none)) else (am_o1 (F_X3_valueTold w t rr xr  iv) fun v6 => (if v6 = (-1 : Int32) then (am_o2 (F_X8_refuse t (3 : Int32) iv) fun v10 w10 => (if v10 = 0 ∨ v10 = 1 then some (v10, w10) else none)) else (am_o1 (F_X5_codeOfValue v6 iv) fun v7 => (am_o1 (F_X5_add w v7 iv) fun w8 => J_X3_readPart_116 w t rr xr rc  w8)))))) else (am_o1 (F_X8_isTooLong t  iv) fun v12 => (if v12 = 0 then (am_o1 (F_X8_number t  iv) fun v13 => (am_o1 (F_X5_add w v13 iv) fun w14 => J_X3_readPart_116 w t rr xr rc  w14)) else (am_o2 (F_X8_refuse t (2 : Int32) iv) fun v15 w15 => (if v15 = 0 ∨ v15 = 1 then some (v15, w15) else none)))))) else (am_o2 (F_X3_readParenthesis w t rr xr rc i1 iv) fun v17 w17 => (if v17 = 0 ∨ v17 = 1 then some (v17, w17) else none))))
theorem YR_X3_readPart {E : am_E} {S : am_S} {Q : am_O → am_S → am_I → Prop} {w : Nat} {t : Nat} {rr : Nat} {xr : Nat} {D : Nat} {rc : Int32 → Int32 → am_I → Option (Int32 × am_I)} (hrc : ∀ {d' : Nat} {y1 y2 v' : Int32} {iv iv' : am_I} {Q' : am_O → am_S → am_I → Prop}, rc y1 y2 iv = some (v', iv') → Q' (.inl (some (.int v'))) S iv' → D ≤ d' → am_M E d' mX3_readLevel 0 0 [.ref xr, .int y1, .int y2] S iv Q') (hL : am_Lay S) (hw : w = 2 ∨ w = 22) (hR : am_Rd S w t rr xr) {i1 : Int32} {iv : am_I} {y : Int32 × am_I} (e : F_X3_readPart w t rr xr rc i1 iv = some y) (h : Q (.inl (some (.int y.1))) S y.2) {d : Nat} (hd : (D + 9) ≤ d) : am_M E d mX3_readPart 0 0 [.ref xr, .int i1] S iv Q := by
  refine am_enter (js := [.double 0]) rfl pn_X3 rfl rfl rfl (Nat.le_of_ble_eq_true rfl) (am_R.deep ?_ hd)
  replace e := am_o1_i e; obtain ⟨v1, e1, e⟩ := e
  refine (sX3_readPart_0 rfl (sX3_readPart_1 (hR.2.2.2.2.2.1) (hR.2.2.2.2.2.2.1) (sX3_readPart_4 (sX3_readPart_6 (hR.1.1) (Nat.le_of_ble_eq_true rfl) (R_X8_isSign hL hR.1 (h := ?_) (hd := (by omega)) (e := e1))))))
  refine sX3_readPart_9 (fun hbr => ?_) (fun hbr => ?_)
  · replace e := am_pos hbr e
    replace e := am_o1_i e; obtain ⟨v2, e2, e⟩ := e
    refine (sX3_readPart_18 rfl (sX3_readPart_19 (hR.2.2.2.2.2.1) (hR.2.2.2.2.2.2.1) (sX3_readPart_22 (hR.1.1) (Nat.le_of_ble_eq_true rfl) (R_X8_isNumber hL hR.1 (h := ?_) (hd := (by omega)) (e := e2)))))
    refine sX3_readPart_25 (fun hbr => ?_) (fun hbr => ?_)
    · replace e := am_pos hbr e
      replace e := am_o1_i e; obtain ⟨v3, e3, e⟩ := e
      refine (sX3_readPart_64 rfl (sX3_readPart_65 (hR.2.2.2.2.2.1) (hR.2.2.2.2.2.2.1) (sX3_readPart_68 (hR.1.1) (Nat.le_of_ble_eq_true rfl) (R_X8_isAnyWord hL hR.1 (h := ?_) (hd := (by omega)) (e := e3)))))
      refine sX3_readPart_71 (fun hbr => ?_) (fun hbr => ?_)
      · replace e := am_pos hbr e
        replace e := am_o2_i e; obtain ⟨v4, w4, e4, e⟩ := e
        replace e := am_ck e; obtain ⟨c5, e⟩ := e
        refine (sX3_readPart_107 rfl (sX3_readPart_108 (hR.2.2.2.2.2.1) (hR.2.2.2.2.2.2.1) (sX3_readPart_111 (sX3_readPart_112 (hR.1.1) (Nat.le_of_ble_eq_true rfl) (R_X8_refuse hL hR.1 (h := (sX3_readPart_115 (am_nar c5) ?_)) (hd := (by omega)) (e := e4))))))
        obtain rfl := Option.some.inj e
        exact h
      · replace e := am_neg hbr e
        replace e := am_o1_i e; obtain ⟨v6, e6, e⟩ := e
        refine (sX3_readPart_74 rfl (sX3_readPart_75 (hR.2.2.2.2.2.1) (Nat.le_of_ble_eq_true rfl) (R_X3_valueTold hL hw hR (h := (sX3_readPart_78 (sX3_readPart_79 (sX3_readPart_80 ?_)))) (hd := (by omega)) (e := e6))))
        refine sX3_readPart_81 (fun hbr => ?_) (fun hbr => ?_)
        · replace e := am_neg hbr e
          replace e := am_o1_i e; obtain ⟨v7, e7, e⟩ := e
          replace e := am_o1_i e; obtain ⟨w8, e8, e⟩ := e
          refine (sX3_readPart_93 rfl (sX3_readPart_94 (hR.2.2.2.2.2.1) (hR.2.2.2.2.2.2.2) (sX3_readPart_97 (sX3_readPart_98 (Nat.le_of_ble_eq_true rfl) (R_X5_codeOfValue (h := (sX3_readPart_101 (kW_14 hL hw) (Nat.le_of_ble_eq_true rfl) (R_X5_add hL hw (h := (sX3_readPart_104 ?_)) (hd := (by omega)) (e := e8)))) (hd := (by omega)) (e := e7))))))
          exact j_X3_readPart_116 hrc hL hw hR e h
        · replace e := am_pos hbr e
          replace e := am_o2_i e; obtain ⟨v10, w10, e10, e⟩ := e
          replace e := am_ck e; obtain ⟨c11, e⟩ := e
          refine (sX3_readPart_84 rfl (sX3_readPart_85 (hR.2.2.2.2.2.1) (hR.2.2.2.2.2.2.1) (sX3_readPart_88 (sX3_readPart_89 (hR.1.1) (Nat.le_of_ble_eq_true rfl) (R_X8_refuse hL hR.1 (h := (sX3_readPart_92 (am_nar c11) ?_)) (hd := (by omega)) (e := e10))))))
          obtain rfl := Option.some.inj e
          exact h
    · replace e := am_neg hbr e
      replace e := am_o1_i e; obtain ⟨v12, e12, e⟩ := e
      refine (sX3_readPart_28 rfl (sX3_readPart_29 (hR.2.2.2.2.2.1) (hR.2.2.2.2.2.2.1) (sX3_readPart_32 (hR.1.1) (Nat.le_of_ble_eq_true rfl) (R_X8_isTooLong hL hR.1 (h := ?_) (hd := (by omega)) (e := e12)))))
      refine sX3_readPart_35 (fun hbr => ?_) (fun hbr => ?_)
      · replace e := am_pos hbr e
        replace e := am_o1_i e; obtain ⟨v13, e13, e⟩ := e
        replace e := am_o1_i e; obtain ⟨w14, e14, e⟩ := e
        refine (sX3_readPart_47 rfl (sX3_readPart_48 (hR.2.2.2.2.2.1) (hR.2.2.2.2.2.2.2) (sX3_readPart_51 rfl (sX3_readPart_52 (hR.2.2.2.2.2.1) (hR.2.2.2.2.2.2.1) (sX3_readPart_55 (hR.1.1) (Nat.le_of_ble_eq_true rfl) (R_X8_number hL hR.1 (h := (sX3_readPart_58 (kW_14 hL hw) (Nat.le_of_ble_eq_true rfl) (R_X5_add hL hw (h := (sX3_readPart_61 ?_)) (hd := (by omega)) (e := e14)))) (hd := (by omega)) (e := e13)))))))
        exact j_X3_readPart_116 hrc hL hw hR e h
      · replace e := am_neg hbr e
        replace e := am_o2_i e; obtain ⟨v15, w15, e15, e⟩ := e
        replace e := am_ck e; obtain ⟨c16, e⟩ := e
        refine (sX3_readPart_38 rfl (sX3_readPart_39 (hR.2.2.2.2.2.1) (hR.2.2.2.2.2.2.1) (sX3_readPart_42 (sX3_readPart_43 (hR.1.1) (Nat.le_of_ble_eq_true rfl) (R_X8_refuse hL hR.1 (h := (sX3_readPart_46 (am_nar c16) ?_)) (hd := (by omega)) (e := e15))))))
        obtain rfl := Option.some.inj e
        exact h
  · replace e := am_neg hbr e
    replace e := am_o2_i e; obtain ⟨v17, w17, e17, e⟩ := e
    replace e := am_ck e; obtain ⟨c18, e⟩ := e
    refine (sX3_readPart_12 rfl (sX3_readPart_13 (sX3_readPart_14 (hR.2.2.2.2.2.1) (Nat.le_of_ble_eq_true rfl) (R_X3_readParenthesis hrc hL hw hR (h := (sX3_readPart_17 (am_nar c18) ?_)) (hd := (by omega)) (e := e17)))))
    obtain rfl := Option.some.inj e
    exact h
theorem R_X3_readPart {E : am_E} {S : am_S} {Q : am_O → am_S → am_I → Prop} {w : Nat} {t : Nat} {rr : Nat} {xr : Nat} {D : Nat} {rc : Int32 → Int32 → am_I → Option (Int32 × am_I)} (hrc : ∀ {d' : Nat} {y1 y2 v' : Int32} {iv iv' : am_I} {Q' : am_O → am_S → am_I → Prop}, rc y1 y2 iv = some (v', iv') → Q' (.inl (some (.int v'))) S iv' → D ≤ d' → am_M E d' mX3_readLevel 0 0 [.ref xr, .int y1, .int y2] S iv Q') (hL : am_Lay S) (hw : w = 2 ∨ w = 22) (hR : am_Rd S w t rr xr) {i1 : Int32} {iv : am_I} {v' : Int32} {iv' : am_I} (e : F_X3_readPart w t rr xr rc i1 iv = some (v', iv')) (h : Q (.inl (some (.int v'))) S iv') {d : Nat} (hd : (D + 9) ≤ d) : am_M E d mX3_readPart 0 0 [.ref xr, .int i1] S iv Q :=
  YR_X3_readPart hrc hL hw hR e h hd
def B_X3_readNot_2 (w : Nat) (t : Nat) (rr : Nat) (xr : Nat) (rc : Int32 → Int32 → am_I → Option (Int32 × am_I)) (i1 : Int32) (i2 : Int32) (iv : am_I) : Option ((Int32 × am_I) ⊕ (Int32 × am_I)) :=
  (if (6 : Int32) ≤ i2 then some (.inr (i2, iv)) else (am_o1 (F_X8_isWord t 11  iv) fun v1 => (if v1 = 0 then some (.inr (i2, iv)) else (am_o1 (F_X8_advance t  iv) fun w2 => some (.inl ((i2 + 1), w2))))))
theorem b_X3_readNot_2 {E : am_E} {S : am_S} {Q : am_O → am_S → am_I → Prop} {w : Nat} {t : Nat} {rr : Nat} {xr : Nat} {D : Nat} {rc : Int32 → Int32 → am_I → Option (Int32 × am_I)} (hrc : ∀ {d' : Nat} {y1 y2 v' : Int32} {iv iv' : am_I} {Q' : am_O → am_S → am_I → Prop}, rc y1 y2 iv = some (v', iv') → Q' (.inl (some (.int v'))) S iv' → D ≤ d' → am_M E d' mX3_readLevel 0 0 [.ref xr, .int y1, .int y2] S iv Q') (hL : am_Lay S) (hw : w = 2 ∨ w = 22) (hR : am_Rd S w t rr xr) {z3 : Value} {i1 i2 : Int32} {iv : am_I} {y : (Int32 × am_I) ⊕ (Int32 × am_I)} (e : B_X3_readNot_2 w t rr xr rc i1 i2 iv = some y) (hc : ∀ s, y = .inl s → ∀ z3 : Value, am_R E (D + 8) mX3_readNot 0 0 2 [.ref xr, .int i1, .int s.1, z3] [] S s.2 Q) (hx : ∀ a, y = .inr a → ∀ z3 : Value, am_R E (D + 8) mX3_readNot 0 0 33 [.ref xr, .int i1, .int a.1, z3] [] S a.2 Q) : am_R E (D + 8) mX3_readNot 0 0 2 [.ref xr, .int i1, .int i2, z3] [] S iv Q := by
  refine (sX3_readNot_2 (sX3_readNot_3 ?_))
  refine sX3_readNot_5 (fun hbr => ?_) (fun hbr => ?_)
  · replace e := am_pos hbr e
    exact hx _ (Option.some.inj e).symm _
  · replace e := am_neg hbr e
    replace e := am_o1_i e; obtain ⟨v1, e1, e⟩ := e
    refine (sX3_readNot_8 rfl (sX3_readNot_9 (hR.2.2.2.2.2.1) (hR.2.2.2.2.2.2.1) (sX3_readNot_12 (sX3_readNot_14 (hR.1.1) (Nat.le_of_ble_eq_true rfl) (R_X8_isWord hL hR.1 (by decide) (h := ?_) (hd := (by omega)) (e := e1))))))
    refine sX3_readNot_17 (fun hbr => ?_) (fun hbr => ?_)
    · replace e := am_pos hbr e
      exact hx _ (Option.some.inj e).symm _
    · replace e := am_neg hbr e
      replace e := am_o1_i e; obtain ⟨w2, e2, e⟩ := e
      refine (sX3_readNot_20 rfl (sX3_readNot_21 (hR.2.2.2.2.2.1) (hR.2.2.2.2.2.2.1) (sX3_readNot_24 (hR.1.1) (Nat.le_of_ble_eq_true rfl) (R_X8_advance hL hR.1 (h := (sX3_readNot_27 (sX3_readNot_30 ?_))) (hd := (by omega)) (e := e2)))))
      exact hc _ (Option.some.inj e).symm _
theorem l_X3_readNot_2 {E : am_E} {S : am_S} {Q : am_O → am_S → am_I → Prop} {w : Nat} {t : Nat} {rr : Nat} {xr : Nat} {D : Nat} {rc : Int32 → Int32 → am_I → Option (Int32 × am_I)} (hrc : ∀ {d' : Nat} {y1 y2 v' : Int32} {iv iv' : am_I} {Q' : am_O → am_S → am_I → Prop}, rc y1 y2 iv = some (v', iv') → Q' (.inl (some (.int v'))) S iv' → D ≤ d' → am_M E d' mX3_readLevel 0 0 [.ref xr, .int y1, .int y2] S iv Q') (hL : am_Lay S) (hw : w = 2 ∨ w = 22) (hR : am_Rd S w t rr xr) {i1 : Int32} (s : (Int32 × am_I)) {x : (Int32 × am_I)} (e : am_loop (fun s : (Int32 × am_I) => B_X3_readNot_2 w t rr xr rc i1 s.1 s.2) s = some x) (hx : ∀ z3 : Value, am_R E (D + 8) mX3_readNot 0 0 33 [.ref xr, .int i1, .int x.1, z3] [] S x.2 Q) : ∀ z3 : Value, am_R E (D + 8) mX3_readNot 0 0 2 [.ref xr, .int i1, .int s.1, z3] [] S s.2 Q :=
  am_wh_sound (f := fun s : (Int32 × am_I) => B_X3_readNot_2 w t rr xr rc i1 s.1 s.2) (P := fun s => ∀ z3 : Value, am_R E (D + 8) mX3_readNot 0 0 2 [.ref xr, .int i1, .int s.1, z3] [] S s.2 Q) (K := fun x => ∀ z3 : Value, am_R E (D + 8) mX3_readNot 0 0 33 [.ref xr, .int i1, .int x.1, z3] [] S x.2 Q) (fun s y e hc hkk => fun z3 => b_X3_readNot_2 hrc hL hw hR e hc (fun a hy => hkk a hy)) am_fu s x e hx
def B_X3_readNot_67 (w : Nat) (t : Nat) (rr : Nat) (xr : Nat) (rc : Int32 → Int32 → am_I → Option (Int32 × am_I)) (i2 : Int32) (i3 : Int32) (iv : am_I) : Option ((Int32 × am_I) ⊕ (am_I)) :=
  (if i2 ≤ i3 then some (.inr iv) else (am_o1 (F_X5_add w (-18 : Int32) iv) fun w6 => some (.inl ((i3 + 1), w6))))
theorem b_X3_readNot_67 {E : am_E} {S : am_S} {Q : am_O → am_S → am_I → Prop} {w : Nat} {t : Nat} {rr : Nat} {xr : Nat} {D : Nat} {rc : Int32 → Int32 → am_I → Option (Int32 × am_I)} (hrc : ∀ {d' : Nat} {y1 y2 v' : Int32} {iv iv' : am_I} {Q' : am_O → am_S → am_I → Prop}, rc y1 y2 iv = some (v', iv') → Q' (.inl (some (.int v'))) S iv' → D ≤ d' → am_M E d' mX3_readLevel 0 0 [.ref xr, .int y1, .int y2] S iv Q') (hL : am_Lay S) (hw : w = 2 ∨ w = 22) (hR : am_Rd S w t rr xr) {z1 : Value} {i2 i3 : Int32} {iv : am_I} {y : (Int32 × am_I) ⊕ (am_I)} (e : B_X3_readNot_67 w t rr xr rc i2 i3 iv = some y) (hc : ∀ s, y = .inl s → ∀ z1 : Value, am_R E (D + 8) mX3_readNot 0 0 67 [.ref xr, z1, .int i2, .int s.1] [] S s.2 Q) (hx : ∀ a, y = .inr a → ∀ z0 z1 z2 z3 : Value, am_R E (D + 8) mX3_readNot 0 0 87 [z0, z1, z2, z3] [] S a Q) : am_R E (D + 8) mX3_readNot 0 0 67 [.ref xr, z1, .int i2, .int i3] [] S iv Q := by
  refine (sX3_readNot_67 (sX3_readNot_68 ?_))
  refine sX3_readNot_69 (fun hbr => ?_) (fun hbr => ?_)
  · replace e := am_pos hbr e
    exact hx _ (Option.some.inj e).symm _ _ _ _
  · replace e := am_neg hbr e
    replace e := am_o1_i e; obtain ⟨w6, e6, e⟩ := e
    refine (sX3_readNot_72 rfl (sX3_readNot_73 (hR.2.2.2.2.2.1) (hR.2.2.2.2.2.2.2) (sX3_readNot_76 (sX3_readNot_78 (kW_14 hL hw) (Nat.le_of_ble_eq_true rfl) (R_X5_add hL hw (h := (sX3_readNot_81 (sX3_readNot_84 ?_))) (hd := (by omega)) (e := e6))))))
    exact hc _ (Option.some.inj e).symm _
theorem l_X3_readNot_67 {E : am_E} {S : am_S} {Q : am_O → am_S → am_I → Prop} {w : Nat} {t : Nat} {rr : Nat} {xr : Nat} {D : Nat} {rc : Int32 → Int32 → am_I → Option (Int32 × am_I)} (hrc : ∀ {d' : Nat} {y1 y2 v' : Int32} {iv iv' : am_I} {Q' : am_O → am_S → am_I → Prop}, rc y1 y2 iv = some (v', iv') → Q' (.inl (some (.int v'))) S iv' → D ≤ d' → am_M E d' mX3_readLevel 0 0 [.ref xr, .int y1, .int y2] S iv Q') (hL : am_Lay S) (hw : w = 2 ∨ w = 22) (hR : am_Rd S w t rr xr) {i2 : Int32} (s : (Int32 × am_I)) {x : (am_I)} (e : am_loop (fun s : (Int32 × am_I) => B_X3_readNot_67 w t rr xr rc i2 s.1 s.2) s = some x) (hx : ∀ z0 z1 z2 z3 : Value, am_R E (D + 8) mX3_readNot 0 0 87 [z0, z1, z2, z3] [] S x Q) : ∀ z1 : Value, am_R E (D + 8) mX3_readNot 0 0 67 [.ref xr, z1, .int i2, .int s.1] [] S s.2 Q :=
  am_wh_sound (f := fun s : (Int32 × am_I) => B_X3_readNot_67 w t rr xr rc i2 s.1 s.2) (P := fun s => ∀ z1 : Value, am_R E (D + 8) mX3_readNot 0 0 67 [.ref xr, z1, .int i2, .int s.1] [] S s.2 Q) (K := fun x => ∀ z0 z1 z2 z3 : Value, am_R E (D + 8) mX3_readNot 0 0 87 [z0, z1, z2, z3] [] S x Q) (fun s y e hc hkk => fun z1 => b_X3_readNot_67 hrc hL hw hR e hc (fun a hy => hkk a hy)) am_fu s x e hx
def J_X3_readNot_33 (w : Nat) (t : Nat) (rr : Nat) (xr : Nat) (rc : Int32 → Int32 → am_I → Option (Int32 × am_I)) (i1 : Int32) (i2 : Int32) (iv : am_I) : Option (Int32 × am_I) :=
  (am_o1 (F_X8_isWord t 11  iv) fun v4 => (if v4 = 0 then (am_o2 (rc (3 : Int32) i1 iv) fun v5 w5 => (if v5 = 0 then some ((0 : Int32), w5) else (am_o1 (am_loop (fun s : (Int32 × am_I) => B_X3_readNot_67 w t rr xr rc i2 s.1 s.2) ((0 : Int32), w5)) fun a7 => some ((1 : Int32), a7)))) else (am_o2 (F_X8_refuse t (2 : Int32) iv) fun v8 w8 => (if v8 = 0 ∨ v8 = 1 then some (v8, w8) else none))))
theorem j_X3_readNot_33 {E : am_E} {S : am_S} {Q : am_O → am_S → am_I → Prop} {w : Nat} {t : Nat} {rr : Nat} {xr : Nat} {D : Nat} {rc : Int32 → Int32 → am_I → Option (Int32 × am_I)} (hrc : ∀ {d' : Nat} {y1 y2 v' : Int32} {iv iv' : am_I} {Q' : am_O → am_S → am_I → Prop}, rc y1 y2 iv = some (v', iv') → Q' (.inl (some (.int v'))) S iv' → D ≤ d' → am_M E d' mX3_readLevel 0 0 [.ref xr, .int y1, .int y2] S iv Q') (hL : am_Lay S) (hw : w = 2 ∨ w = 22) (hR : am_Rd S w t rr xr) {z3 : Value} {i1 i2 : Int32} {iv : am_I} {y : Int32 × am_I} (e : J_X3_readNot_33 w t rr xr rc i1 i2 iv = some y) (h : Q (.inl (some (.int y.1))) S y.2) : am_R E (D + 8) mX3_readNot 0 0 33 [.ref xr, .int i1, .int i2, z3] [] S iv Q := by
  replace e := am_o1_i e; obtain ⟨v4, e4, e⟩ := e
  refine (sX3_readNot_33 rfl (sX3_readNot_34 (hR.2.2.2.2.2.1) (hR.2.2.2.2.2.2.1) (sX3_readNot_37 (sX3_readNot_39 (hR.1.1) (Nat.le_of_ble_eq_true rfl) (R_X8_isWord hL hR.1 (by decide) (h := ?_) (hd := (by omega)) (e := e4))))))
  refine sX3_readNot_42 (fun hbr => ?_) (fun hbr => ?_)
  · replace e := am_pos hbr e
    replace e := am_o2_i e; obtain ⟨v5, w5, e5, e⟩ := e
    refine (sX3_readNot_54 rfl (sX3_readNot_55 (sX3_readNot_56 (sX3_readNot_57 (hR.2.2.2.2.2.1) (Nat.le_of_ble_eq_true rfl) (hrc e5 ?_ (by omega))))))
    refine sX3_readNot_60 (fun hbr => ?_) (fun hbr => ?_)
    · replace e := am_neg hbr e
      refine (sX3_readNot_65 (sX3_readNot_66 ?_))
      replace e := am_o1_i e; obtain ⟨a7, e7, e⟩ := e
      refine l_X3_readNot_67 hrc hL hw hR _ e7 ?_ _
      intro z0 z1 z2 z3
      refine (sX3_readNot_87 (sX3_readNot_88 rfl ?_))
      obtain rfl := Option.some.inj e
      exact h
    · replace e := am_pos hbr e
      refine (sX3_readNot_63 (sX3_readNot_64 rfl ?_))
      obtain rfl := Option.some.inj e
      exact h
  · replace e := am_neg hbr e
    replace e := am_o2_i e; obtain ⟨v8, w8, e8, e⟩ := e
    replace e := am_ck e; obtain ⟨c9, e⟩ := e
    refine (sX3_readNot_45 rfl (sX3_readNot_46 (hR.2.2.2.2.2.1) (hR.2.2.2.2.2.2.1) (sX3_readNot_49 (sX3_readNot_50 (hR.1.1) (Nat.le_of_ble_eq_true rfl) (R_X8_refuse hL hR.1 (h := (sX3_readNot_53 (am_nar c9) ?_)) (hd := (by omega)) (e := e8))))))
    obtain rfl := Option.some.inj e
    exact h
def F_X3_readNot (w : Nat) (t : Nat) (rr : Nat) (xr : Nat) (rc : Int32 → Int32 → am_I → Option (Int32 × am_I)) (i1 : Int32) (iv : am_I) : Option (Int32 × am_I) :=
  (am_o1 (am_loop (fun s : (Int32 × am_I) => B_X3_readNot_2 w t rr xr rc i1 s.1 s.2) ((0 : Int32), iv)) fun a3 => J_X3_readNot_33 w t rr xr rc i1 a3.1 a3.2)
theorem YR_X3_readNot {E : am_E} {S : am_S} {Q : am_O → am_S → am_I → Prop} {w : Nat} {t : Nat} {rr : Nat} {xr : Nat} {D : Nat} {rc : Int32 → Int32 → am_I → Option (Int32 × am_I)} (hrc : ∀ {d' : Nat} {y1 y2 v' : Int32} {iv iv' : am_I} {Q' : am_O → am_S → am_I → Prop}, rc y1 y2 iv = some (v', iv') → Q' (.inl (some (.int v'))) S iv' → D ≤ d' → am_M E d' mX3_readLevel 0 0 [.ref xr, .int y1, .int y2] S iv Q') (hL : am_Lay S) (hw : w = 2 ∨ w = 22) (hR : am_Rd S w t rr xr) {i1 : Int32} {iv : am_I} {y : Int32 × am_I} (e : F_X3_readNot w t rr xr rc i1 iv = some y) (h : Q (.inl (some (.int y.1))) S y.2) {d : Nat} (hd : (D + 8) ≤ d) : am_M E d mX3_readNot 0 0 [.ref xr, .int i1] S iv Q := by
  refine am_enter (js := [.double 0, .double 0]) rfl pn_X3 rfl rfl rfl (Nat.le_of_ble_eq_true rfl) (am_R.deep ?_ hd)
  refine (sX3_readNot_0 (sX3_readNot_1 ?_))
  replace e := am_o1_i e; obtain ⟨a3, e3, e⟩ := e
  refine l_X3_readNot_2 hrc hL hw hR _ e3 ?_ _
  intro z3
  exact j_X3_readNot_33 hrc hL hw hR e h
theorem R_X3_readNot {E : am_E} {S : am_S} {Q : am_O → am_S → am_I → Prop} {w : Nat} {t : Nat} {rr : Nat} {xr : Nat} {D : Nat} {rc : Int32 → Int32 → am_I → Option (Int32 × am_I)} (hrc : ∀ {d' : Nat} {y1 y2 v' : Int32} {iv iv' : am_I} {Q' : am_O → am_S → am_I → Prop}, rc y1 y2 iv = some (v', iv') → Q' (.inl (some (.int v'))) S iv' → D ≤ d' → am_M E d' mX3_readLevel 0 0 [.ref xr, .int y1, .int y2] S iv Q') (hL : am_Lay S) (hw : w = 2 ∨ w = 22) (hR : am_Rd S w t rr xr) {i1 : Int32} {iv : am_I} {v' : Int32} {iv' : am_I} (e : F_X3_readNot w t rr xr rc i1 iv = some (v', iv')) (h : Q (.inl (some (.int v'))) S iv') {d : Nat} (hd : (D + 8) ≤ d) : am_M E d mX3_readNot 0 0 [.ref xr, .int i1] S iv Q :=
  YR_X3_readNot hrc hL hw hR e h hd
def B_X3_readLevel_59 (w : Nat) (t : Nat) (rr : Nat) (xr : Nat) (rc : Int32 → Int32 → am_I → Option (Int32 × am_I)) (i1 : Int32) (i2 : Int32) (i3 : Int32) (i4 : Int32) (i5 : Int32) (iv : am_I) : Option ((Int32 × Int32 × am_I) ⊕ ((am_I) ⊕ (Int32 × am_I))) :=
  (if i3 ≤ i5 then some (.inr (.inl iv)) else (if i4 = 0 then some (.inr (.inl iv)) else (am_o1 (F_X8_advance t  iv) fun w3 => (am_o2 (rc (i1 + (1 : Int32)) i2 w3) fun v4 w4 => (if v4 = 0 then some (.inr (.inr ((0 : Int32), w4))) else (am_o1 (F_X5_add w i4 w4) fun w5 => (am_o1 (F_X3_signTold w t rr xr i1 w5) fun v6 => some (.inl (v6, (i5 + 1), w5)))))))))
theorem b_X3_readLevel_59 {E : am_E} {S : am_S} {Q : am_O → am_S → am_I → Prop} {w : Nat} {t : Nat} {rr : Nat} {xr : Nat} {D : Nat} {rc : Int32 → Int32 → am_I → Option (Int32 × am_I)} (hrc : ∀ {d' : Nat} {y1 y2 v' : Int32} {iv iv' : am_I} {Q' : am_O → am_S → am_I → Prop}, rc y1 y2 iv = some (v', iv') → Q' (.inl (some (.int v'))) S iv' → D ≤ d' → am_M E d' mX3_readLevel 0 0 [.ref xr, .int y1, .int y2] S iv Q') (hL : am_Lay S) (hw : w = 2 ∨ w = 22) (hR : am_Rd S w t rr xr) {i1 i2 i3 i4 i5 : Int32} {iv : am_I} {y : (Int32 × Int32 × am_I) ⊕ ((am_I) ⊕ (Int32 × am_I))} (e : B_X3_readLevel_59 w t rr xr rc i1 i2 i3 i4 i5 iv = some y) (hc : ∀ s, y = .inl s → am_R E (D + 10) mX3_readLevel 0 0 59 [.ref xr, .int i1, .int i2, .int i3, .int s.1, .int s.2.1] [] S s.2.2 Q) (hx : ∀ a, y = .inr (.inl a) → ∀ z0 z1 z2 z3 z4 z5 : Value, am_R E (D + 10) mX3_readLevel 0 0 112 [z0, z1, z2, z3, z4, z5] [] S a Q) (hr : ∀ r, y = .inr (.inr r) → Q (.inl (some (.int r.1))) S r.2) : am_R E (D + 10) mX3_readLevel 0 0 59 [.ref xr, .int i1, .int i2, .int i3, .int i4, .int i5] [] S iv Q := by
  refine (sX3_readLevel_59 (sX3_readLevel_61 ?_))
  refine sX3_readLevel_62 (fun hbr => ?_) (fun hbr => ?_)
  · replace e := am_pos hbr e
    exact hx _ (Option.some.inj e).symm _ _ _ _ _ _
  · replace e := am_neg hbr e
    refine (sX3_readLevel_65 ?_)
    refine sX3_readLevel_67 (fun hbr => ?_) (fun hbr => ?_)
    · replace e := am_pos hbr e
      exact hx _ (Option.some.inj e).symm _ _ _ _ _ _
    · replace e := am_neg hbr e
      replace e := am_o1_i e; obtain ⟨w3, e3, e⟩ := e
      replace e := am_o2_i e; obtain ⟨v4, w4, e4, e⟩ := e
      refine (sX3_readLevel_70 rfl (sX3_readLevel_71 (hR.2.2.2.2.2.1) (hR.2.2.2.2.2.2.1) (sX3_readLevel_74 (hR.1.1) (Nat.le_of_ble_eq_true rfl) (R_X8_advance hL hR.1 (h := (sX3_readLevel_77 rfl (sX3_readLevel_78 (sX3_readLevel_79 (sX3_readLevel_80 (sX3_readLevel_81 (sX3_readLevel_82 (hR.2.2.2.2.2.1) (Nat.le_of_ble_eq_true rfl) (hrc e4 ?_ (by omega))))))))) (hd := (by omega)) (e := e3)))))
      refine sX3_readLevel_85 (fun hbr => ?_) (fun hbr => ?_)
      · replace e := am_neg hbr e
        replace e := am_o1_i e; obtain ⟨w5, e5, e⟩ := e
        replace e := am_o1_i e; obtain ⟨v6, e6, e⟩ := e
        refine (sX3_readLevel_90 rfl (sX3_readLevel_91 (hR.2.2.2.2.2.1) (hR.2.2.2.2.2.2.2) (sX3_readLevel_94 (sX3_readLevel_96 (kW_14 hL hw) (Nat.le_of_ble_eq_true rfl) (R_X5_add hL hw (h := (sX3_readLevel_99 rfl (sX3_readLevel_100 (sX3_readLevel_101 (hR.2.2.2.2.2.1) (Nat.le_of_ble_eq_true rfl) (R_X3_signTold hL hw hR (h := (sX3_readLevel_104 (sX3_readLevel_106 (sX3_readLevel_109 ?_)))) (hd := (by omega)) (e := e6)))))) (hd := (by omega)) (e := e5))))))
        exact hc _ (Option.some.inj e).symm
      · replace e := am_pos hbr e
        refine (sX3_readLevel_88 (sX3_readLevel_89 rfl ?_))
        exact hr _ (Option.some.inj e).symm
theorem l_X3_readLevel_59 {E : am_E} {S : am_S} {Q : am_O → am_S → am_I → Prop} {w : Nat} {t : Nat} {rr : Nat} {xr : Nat} {D : Nat} {rc : Int32 → Int32 → am_I → Option (Int32 × am_I)} (hrc : ∀ {d' : Nat} {y1 y2 v' : Int32} {iv iv' : am_I} {Q' : am_O → am_S → am_I → Prop}, rc y1 y2 iv = some (v', iv') → Q' (.inl (some (.int v'))) S iv' → D ≤ d' → am_M E d' mX3_readLevel 0 0 [.ref xr, .int y1, .int y2] S iv Q') (hL : am_Lay S) (hw : w = 2 ∨ w = 22) (hR : am_Rd S w t rr xr) {i1 i2 i3 : Int32} (s : (Int32 × Int32 × am_I)) {x : ((am_I) ⊕ (Int32 × am_I))} (e : am_loop (fun s : (Int32 × Int32 × am_I) => B_X3_readLevel_59 w t rr xr rc i1 i2 i3 s.1 s.2.1 s.2.2) s = some x) (hx : ∀ a, x = .inl a → ∀ z0 z1 z2 z3 z4 z5 : Value, am_R E (D + 10) mX3_readLevel 0 0 112 [z0, z1, z2, z3, z4, z5] [] S a Q) (hr : ∀ r, x = .inr r → Q (.inl (some (.int r.1))) S r.2) : am_R E (D + 10) mX3_readLevel 0 0 59 [.ref xr, .int i1, .int i2, .int i3, .int s.1, .int s.2.1] [] S s.2.2 Q :=
  am_wh_sound (f := fun s : (Int32 × Int32 × am_I) => B_X3_readLevel_59 w t rr xr rc i1 i2 i3 s.1 s.2.1 s.2.2) (P := fun s => am_R E (D + 10) mX3_readLevel 0 0 59 [.ref xr, .int i1, .int i2, .int i3, .int s.1, .int s.2.1] [] S s.2.2 Q) (K := fun x => (∀ a, x = .inl a → ∀ z0 z1 z2 z3 z4 z5 : Value, am_R E (D + 10) mX3_readLevel 0 0 112 [z0, z1, z2, z3, z4, z5] [] S a Q) ∧ (∀ r, x = .inr r → Q (.inl (some (.int r.1))) S r.2)) (fun s y e hc hkk => b_X3_readLevel_59 hrc hL hw hR e hc (fun a hy => (hkk _ hy).1 a rfl) (fun r hy => (hkk _ hy).2 r rfl)) am_fu s x e ⟨hx, hr⟩
def J_X3_readLevel_48 (w : Nat) (t : Nat) (rr : Nat) (xr : Nat) (rc : Int32 → Int32 → am_I → Option (Int32 × am_I)) (i1 : Int32) (i2 : Int32) (k0 : Int32) (iv : am_I) : Option (Int32 × am_I) :=
  (am_o1 (F_X3_signTold w t rr xr i1 iv) fun v2 => (am_lp (am_loop (fun s : (Int32 × Int32 × am_I) => B_X3_readLevel_59 w t rr xr rc i1 i2 k0 s.1 s.2.1 s.2.2) (v2, (0 : Int32), iv)) (fun a7 => some ((1 : Int32), a7)) (fun r7 => some r7)))
theorem j_X3_readLevel_48 {E : am_E} {S : am_S} {Q : am_O → am_S → am_I → Prop} {w : Nat} {t : Nat} {rr : Nat} {xr : Nat} {D : Nat} {rc : Int32 → Int32 → am_I → Option (Int32 × am_I)} (hrc : ∀ {d' : Nat} {y1 y2 v' : Int32} {iv iv' : am_I} {Q' : am_O → am_S → am_I → Prop}, rc y1 y2 iv = some (v', iv') → Q' (.inl (some (.int v'))) S iv' → D ≤ d' → am_M E d' mX3_readLevel 0 0 [.ref xr, .int y1, .int y2] S iv Q') (hL : am_Lay S) (hw : w = 2 ∨ w = 22) (hR : am_Rd S w t rr xr) {z3 z4 z5 : Value} {i1 i2 k0 : Int32} {iv : am_I} {y : Int32 × am_I} (e : J_X3_readLevel_48 w t rr xr rc i1 i2 k0 iv = some y) (h : Q (.inl (some (.int y.1))) S y.2) : am_R E (D + 10) mX3_readLevel 0 0 48 [.ref xr, .int i1, .int i2, z3, z4, z5] [.int k0] S iv Q := by
  replace e := am_o1_i e; obtain ⟨v2, e2, e⟩ := e
  refine (sX3_readLevel_48 (sX3_readLevel_49 rfl (sX3_readLevel_50 (sX3_readLevel_51 (hR.2.2.2.2.2.1) (Nat.le_of_ble_eq_true rfl) (R_X3_signTold hL hw hR (h := (sX3_readLevel_54 (sX3_readLevel_56 (sX3_readLevel_57 ?_)))) (hd := (by omega)) (e := e2))))))
  replace e := am_lp_i e; rcases e with ⟨a7, e7, e⟩ | ⟨r7, e7, e⟩
  · refine l_X3_readLevel_59 hrc hL hw hR _ e7 (fun a hq9 => ?_) (fun r hq9 => nomatch hq9)
    obtain rfl := Sum.inl.inj hq9
    intro z0 z1 z2 z3 z4 z5
    refine (sX3_readLevel_112 (sX3_readLevel_113 rfl ?_))
    obtain rfl := Option.some.inj e
    exact h
  · refine l_X3_readLevel_59 hrc hL hw hR _ e7 (fun a hq9 => nomatch hq9) (fun r hq9 => ?_)
    obtain rfl := Sum.inr.inj hq9
    obtain rfl := Option.some.inj e
    exact h
def G_X3_readLevel (w : Nat) (t : Nat) (rr : Nat) (xr : Nat) (rc : Int32 → Int32 → am_I → Option (Int32 × am_I)) (i1 : Int32) (i2 : Int32) (iv : am_I) : Option (Int32 × am_I) :=
  (if i1 = (2 : Int32) then (am_o2 (F_X3_readNot w t rr xr rc i2 iv) fun v10 w10 => (if v10 = 0 ∨ v10 = 1 then some (v10, w10) else none)) else (if i1 < (6 : Int32) then (am_o2 (rc (i1 + (1 : Int32)) i2 iv) fun v1 w1 => (if v1 = 0 then some ((0 : Int32), w1) else (if i1 = (3 : Int32) then J_X3_readLevel_48 w t rr xr rc i1 i2 (1 : Int32) w1 else J_X3_readLevel_48 w t rr xr rc i1 i2 (700 : Int32) w1))) else (am_o2 (F_X3_readPart w t rr xr rc i2 iv) fun v8 w8 => (if v8 = 0 ∨ v8 = 1 then some (v8, w8) else none))))
theorem YRG_X3_readLevel {E : am_E} {S : am_S} {Q : am_O → am_S → am_I → Prop} {w : Nat} {t : Nat} {rr : Nat} {xr : Nat} {D : Nat} {rc : Int32 → Int32 → am_I → Option (Int32 × am_I)} (hrc : ∀ {d' : Nat} {y1 y2 v' : Int32} {iv iv' : am_I} {Q' : am_O → am_S → am_I → Prop}, rc y1 y2 iv = some (v', iv') → Q' (.inl (some (.int v'))) S iv' → D ≤ d' → am_M E d' mX3_readLevel 0 0 [.ref xr, .int y1, .int y2] S iv Q') (hL : am_Lay S) (hw : w = 2 ∨ w = 22) (hR : am_Rd S w t rr xr) {i1 i2 : Int32} {iv : am_I} {y : Int32 × am_I} (e : G_X3_readLevel w t rr xr rc i1 i2 iv = some y) (h : Q (.inl (some (.int y.1))) S y.2) {d : Nat} (hd : (D + 10) ≤ d) : am_M E d mX3_readLevel 0 0 [.ref xr, .int i1, .int i2] S iv Q := by
  refine am_enter (js := [.double 0, .double 0, .double 0]) rfl pn_X3 rfl rfl rfl (Nat.le_of_ble_eq_true rfl) (am_R.deep ?_ hd)
  refine (sX3_readLevel_0 (sX3_readLevel_1 ?_))
  refine sX3_readLevel_2 (fun hbr => ?_) (fun hbr => ?_)
  · replace e := am_neg hbr e
    refine (sX3_readLevel_11 (sX3_readLevel_12 ?_))
    refine sX3_readLevel_14 (fun hbr => ?_) (fun hbr => ?_)
    · replace e := am_pos hbr e
      replace e := am_o2_i e; obtain ⟨v1, w1, e1, e⟩ := e
      refine (sX3_readLevel_23 rfl (sX3_readLevel_24 (sX3_readLevel_25 (sX3_readLevel_26 (sX3_readLevel_27 (sX3_readLevel_28 (hR.2.2.2.2.2.1) (Nat.le_of_ble_eq_true rfl) (hrc e1 ?_ (by omega))))))))
      refine sX3_readLevel_31 (fun hbr => ?_) (fun hbr => ?_)
      · replace e := am_neg hbr e
        refine (sX3_readLevel_36 (sX3_readLevel_37 ?_))
        refine sX3_readLevel_38 (fun hbr => ?_) (fun hbr => ?_)
        · replace e := am_neg hbr e
          refine (sX3_readLevel_45 ?_)
          exact j_X3_readLevel_48 hrc hL hw hR e h
        · replace e := am_pos hbr e
          refine (sX3_readLevel_41 (sX3_readLevel_42 ?_))
          exact j_X3_readLevel_48 hrc hL hw hR e h
      · replace e := am_pos hbr e
        refine (sX3_readLevel_34 (sX3_readLevel_35 rfl ?_))
        obtain rfl := Option.some.inj e
        exact h
    · replace e := am_neg hbr e
      replace e := am_o2_i e; obtain ⟨v8, w8, e8, e⟩ := e
      replace e := am_ck e; obtain ⟨c9, e⟩ := e
      refine (sX3_readLevel_17 rfl (sX3_readLevel_18 (sX3_readLevel_19 (hR.2.2.2.2.2.1) (Nat.le_of_ble_eq_true rfl) (R_X3_readPart hrc hL hw hR (h := (sX3_readLevel_22 (am_nar c9) ?_)) (hd := (by omega)) (e := e8)))))
      obtain rfl := Option.some.inj e
      exact h
  · replace e := am_pos hbr e
    replace e := am_o2_i e; obtain ⟨v10, w10, e10, e⟩ := e
    replace e := am_ck e; obtain ⟨c11, e⟩ := e
    refine (sX3_readLevel_5 rfl (sX3_readLevel_6 (sX3_readLevel_7 (hR.2.2.2.2.2.1) (Nat.le_of_ble_eq_true rfl) (R_X3_readNot hrc hL hw hR (h := (sX3_readLevel_10 (am_nar c11) ?_)) (hd := (by omega)) (e := e10)))))
    obtain rfl := Option.some.inj e
    exact h
theorem RG_X3_readLevel {E : am_E} {S : am_S} {Q : am_O → am_S → am_I → Prop} {w : Nat} {t : Nat} {rr : Nat} {xr : Nat} {D : Nat} {rc : Int32 → Int32 → am_I → Option (Int32 × am_I)} (hrc : ∀ {d' : Nat} {y1 y2 v' : Int32} {iv iv' : am_I} {Q' : am_O → am_S → am_I → Prop}, rc y1 y2 iv = some (v', iv') → Q' (.inl (some (.int v'))) S iv' → D ≤ d' → am_M E d' mX3_readLevel 0 0 [.ref xr, .int y1, .int y2] S iv Q') (hL : am_Lay S) (hw : w = 2 ∨ w = 22) (hR : am_Rd S w t rr xr) {i1 i2 : Int32} {iv : am_I} {v' : Int32} {iv' : am_I} (e : G_X3_readLevel w t rr xr rc i1 i2 iv = some (v', iv')) (h : Q (.inl (some (.int v'))) S iv') {d : Nat} (hd : (D + 10) ≤ d) : am_M E d mX3_readLevel 0 0 [.ref xr, .int i1, .int i2] S iv Q :=
  YRG_X3_readLevel hrc hL hw hR e h hd
def F_X3_readLevel (w t rr xr : Nat) : Nat → Int32 → Int32 → am_I → Option (Int32 × am_I)
  | 0, _, _, _ => none
  | fu + 1, i, j, iv => G_X3_readLevel w t rr xr (F_X3_readLevel w t rr xr fu) i j iv
theorem RF_X3_readLevel {E : am_E} {S : am_S} {w t rr xr : Nat} (hL : am_Lay S) (hw : w = 2 ∨ w = 22) (hR : am_Rd S w t rr xr) : ∀ (fu : Nat) {d' : Nat} {y1 y2 v' : Int32} {iv iv' : am_I} {Q' : am_O → am_S → am_I → Prop}, F_X3_readLevel w t rr xr fu y1 y2 iv = some (v', iv') → Q' (.inl (some (.int v'))) S iv' → 14 * fu ≤ d' → am_M E d' mX3_readLevel 0 0 [.ref xr, .int y1, .int y2] S iv Q'
  | 0, _, _, _, _, _, _, _, e, _, _ => by cases e
  | fu + 1, _, _, _, _, _, _, _, e, h, hd => RG_X3_readLevel (D := 14 * fu) (rc := F_X3_readLevel w t rr xr fu) (RF_X3_readLevel hL hw hR fu) hL hw hR e h (by omega)
theorem R_X3_readLevel {E : am_E} {S : am_S} {Q : am_O → am_S → am_I → Prop} {w t rr xr : Nat} (hL : am_Lay S) (hw : w = 2 ∨ w = 22) (hR : am_Rd S w t rr xr) {i1 i2 v' : Int32} {iv iv' : am_I} (e : F_X3_readLevel w t rr xr 60 i1 i2 iv = some (v', iv')) (h : Q (.inl (some (.int v'))) S iv') {d : Nat} (hd : 840 ≤ d) : am_M E d mX3_readLevel 0 0 [.ref xr, .int i1, .int i2] S iv Q := RF_X3_readLevel hL hw hR 60 e h hd
