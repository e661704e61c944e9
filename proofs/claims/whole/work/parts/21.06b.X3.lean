/-! functions of the methods, and their rows (by program) -/
def F_X3_readRule (w : Nat) (t : Nat) (rr : Nat) (xr : Nat) (iv : am_I) : Option (Int32 × am_I) :=
  (if (iv (w + 14) 0) < (4 : Int32) then (am_o1 (F_X8_advance t  iv) fun w1 => (am_o2 (F_X3_readLevel w t rr xr 60 (0 : Int32) (0 : Int32) w1) fun v2 w2 => (if v2 = 0 then some ((0 : Int32), w2) else (am_o1 (F_X5_endRule w  w2) fun w3 => some ((1 : Int32), w3))))) else (am_o2 (F_X8_refuse t (2 : Int32) iv) fun v4 w4 => (if v4 = 0 ∨ v4 = 1 then some (v4, w4) else none)))
theorem YR_X3_readRule {E : am_E} {S : am_S} {Q : am_O → am_S → am_I → Prop} {w : Nat} {t : Nat} {rr : Nat} {xr : Nat} (hL : am_Lay S) (hw : w = 2 ∨ w = 22) (hR : am_Rd S w t rr xr) {iv : am_I} {y : Int32 × am_I} (e : F_X3_readRule w t rr xr  iv = some y) (h : Q (.inl (some (.int y.1))) S y.2) {d : Nat} (hd : 841 ≤ d) : am_M E d mX3_readRule 0 0 [.ref xr] S iv Q := by
  refine am_enter (js := []) rfl pn_X3 rfl rfl rfl (Nat.le_of_ble_eq_true rfl) (am_R.deep ?_ hd)
  refine (sX3_readRule_0 rfl (sX3_readRule_1 (hR.2.2.2.2.2.1) (hR.2.2.2.2.2.2.2) (sX3_readRule_4 (kW_14 hL hw) (sX3_readRule_7 ?_))))
  refine sX3_readRule_8 (fun hbr => ?_) (fun hbr => ?_)
  · replace e := am_pos hbr e
    replace e := am_o1_i e; obtain ⟨w1, e1, e⟩ := e
    replace e := am_o2_i e; obtain ⟨v2, w2, e2, e⟩ := e
    refine (sX3_readRule_20 rfl (sX3_readRule_21 (hR.2.2.2.2.2.1) (hR.2.2.2.2.2.2.1) (sX3_readRule_24 (hR.1.1) (Nat.le_of_ble_eq_true rfl) (R_X8_advance hL hR.1 (h := (sX3_readRule_27 rfl (sX3_readRule_28 (sX3_readRule_29 (sX3_readRule_30 (hR.2.2.2.2.2.1) (Nat.le_of_ble_eq_true rfl) (R_X3_readLevel hL hw hR (h := ?_) (hd := (Nat.le_of_ble_eq_true rfl)) (e := e2))))))) (hd := (Nat.le_of_ble_eq_true rfl)) (e := e1)))))
    refine sX3_readRule_33 (fun hbr => ?_) (fun hbr => ?_)
    · replace e := am_neg hbr e
      replace e := am_o1_i e; obtain ⟨w3, e3, e⟩ := e
      refine (sX3_readRule_38 rfl (sX3_readRule_39 (hR.2.2.2.2.2.1) (hR.2.2.2.2.2.2.2) (sX3_readRule_42 (kW_14 hL hw) (Nat.le_of_ble_eq_true rfl) (R_X5_endRule hL hw (h := (sX3_readRule_45 (sX3_readRule_46 rfl ?_))) (hd := (Nat.le_of_ble_eq_true rfl)) (e := e3)))))
      obtain rfl := Option.some.inj e
      exact h
    · replace e := am_pos hbr e
      refine (sX3_readRule_36 (sX3_readRule_37 rfl ?_))
      obtain rfl := Option.some.inj e
      exact h
  · replace e := am_neg hbr e
    replace e := am_o2_i e; obtain ⟨v4, w4, e4, e⟩ := e
    replace e := am_ck e; obtain ⟨c5, e⟩ := e
    refine (sX3_readRule_11 rfl (sX3_readRule_12 (hR.2.2.2.2.2.1) (hR.2.2.2.2.2.2.1) (sX3_readRule_15 (sX3_readRule_16 (hR.1.1) (Nat.le_of_ble_eq_true rfl) (R_X8_refuse hL hR.1 (h := (sX3_readRule_19 (am_nar c5) ?_)) (hd := (Nat.le_of_ble_eq_true rfl)) (e := e4))))))
    obtain rfl := Option.some.inj e
    exact h
theorem R_X3_readRule {E : am_E} {S : am_S} {Q : am_O → am_S → am_I → Prop} {w : Nat} {t : Nat} {rr : Nat} {xr : Nat} (hL : am_Lay S) (hw : w = 2 ∨ w = 22) (hR : am_Rd S w t rr xr) {iv : am_I} {v' : Int32} {iv' : am_I} (e : F_X3_readRule w t rr xr  iv = some (v', iv')) (h : Q (.inl (some (.int v'))) S iv') {d : Nat} (hd : 841 ≤ d) : am_M E d mX3_readRule 0 0 [.ref xr] S iv Q :=
  YR_X3_readRule hL hw hR e h hd
