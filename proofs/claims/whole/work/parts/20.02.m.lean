/-! functions of the methods, and their rows (by program) -/
def F_X10_fail (i1 : Int32) (iv : am_I) : Option (Int32 × am_I) :=
  some ((0 : Int32), (am_w iv 54 3 i1))
theorem YR_X10_fail {E : am_E} {S : am_S} {Q : am_O → am_S → am_I → Prop} (hL : am_Lay S) {i1 : Int32} {iv : am_I} {y : Int32 × am_I} (e : F_X10_fail i1 iv = some y) (h : Q (.inl (some (.int y.1))) S y.2) {d : Nat} (hd : 0 ≤ d) : am_M E d mX10_fail 0 0 [.ref 54, .int i1] S iv Q := by
  refine am_enter (js := []) rfl pn_X10 rfl rfl rfl (Nat.le_of_ble_eq_true rfl) (am_R.deep ?_ hd)
  refine (sX10_fail_0 rfl (sX10_fail_1 (sX10_fail_2 (hL.1 _ _ rfl) (sX10_fail_5 (sX10_fail_6 ?_)))))
  obtain rfl := Option.some.inj e
  exact h
theorem R_X10_fail {E : am_E} {S : am_S} {Q : am_O → am_S → am_I → Prop} (hL : am_Lay S) {i1 : Int32} {iv : am_I} {v' : Int32} {iv' : am_I} (e : F_X10_fail i1 iv = some (v', iv')) (h : Q (.inl (some (.int v'))) S iv') {d : Nat} (hd : 0 ≤ d) : am_M E d mX10_fail 0 0 [.ref 54, .int i1] S iv Q :=
  YR_X10_fail hL e h hd
def F_X10_thrown (iv : am_I) : Option (Int32) :=
  some (iv 54 3)
theorem R_X10_thrown {E : am_E} {S : am_S} {Q : am_O → am_S → am_I → Prop} (hL : am_Lay S) {iv : am_I} {y : Int32} (e : F_X10_thrown  iv = some y) (h : Q (.inl (some (.int y))) S iv) {d : Nat} (hd : 0 ≤ d) : am_M E d mX10_thrown 0 0 [.ref 54] S iv Q := by
  refine am_enter (js := []) rfl pn_X10 rfl rfl rfl (Nat.le_of_ble_eq_true rfl) (am_R.deep ?_ hd)
  refine (sX10_thrown_0 rfl (sX10_thrown_1 (hL.1 _ _ rfl) (sX10_thrown_4 ?_)))
  obtain rfl := Option.some.inj e
  exact h
def B_X10_isTaken_4 (i1 : Int32) (i2 : Int32) (i3 : Int32) (iv : am_I) (i4 : Int32) : Option ((Int32) ⊕ ((Unit) ⊕ (Int32))) :=
  (if ((10 : Int32) + i3) ≤ i4 then some (.inr (.inl ())) else (if vp_b i4 20 then (if (iv 61 i4.toNatClampNeg) = i2 then (if vp_b i4 20 then (if i1 < (iv 60 i4.toNatClampNeg) then some (.inl (i4 + 1)) else (if vp_b i4 20 then (if vp_b i4 20 then (if ((iv 60 i4.toNatClampNeg) + (iv 63 i4.toNatClampNeg)) < i1 then some (.inl (i4 + 1)) else some (.inr (.inr (1 : Int32)))) else none) else none)) else none) else some (.inl (i4 + 1))) else none))
theorem b_X10_isTaken_4 {E : am_E} {S : am_S} {Q : am_O → am_S → am_I → Prop} (hL : am_Lay S) {i1 i2 i3 i4 : Int32} {iv : am_I} {y : (Int32) ⊕ ((Unit) ⊕ (Int32))} (e : B_X10_isTaken_4 i1 i2 i3 iv i4 = some y) (hc : ∀ s, y = .inl s → am_R E 0 mX10_isTaken 0 0 4 [.ref 54, .int i1, .int i2, .int i3, .int s] [] S iv Q) (hx : ∀ a, y = .inr (.inl a) → ∀ z0 z1 z2 z3 z4 : Value, am_R E 0 mX10_isTaken 0 0 62 [z0, z1, z2, z3, z4] [] S iv Q) (hr : ∀ r, y = .inr (.inr r) → Q (.inl (some (.int r))) S iv) : am_R E 0 mX10_isTaken 0 0 4 [.ref 54, .int i1, .int i2, .int i3, .int i4] [] S iv Q := by
  refine (sX10_isTaken_4 (sX10_isTaken_6 (sX10_isTaken_8 (sX10_isTaken_9 ?_))))
  refine sX10_isTaken_10 (fun hbr => ?_) (fun hbr => ?_)
  · replace e := am_pos hbr e
    exact hx _ (Option.some.inj e).symm _ _ _ _ _
  · replace e := am_neg hbr e
    replace e := am_ckv e; obtain ⟨c1, e⟩ := e
    refine (sX10_isTaken_13 rfl (sX10_isTaken_14 (hL.1 _ _ rfl) (hL.2.1 _ _ _ rfl) (sX10_isTaken_17 (sX10_isTaken_19 (hL.1 _ _ rfl) c1 (sX10_isTaken_20 ?_)))))
    refine sX10_isTaken_21 (fun hbr => ?_) (fun hbr => ?_)
    · replace e := am_neg hbr e
      refine (sX10_isTaken_56 (sX10_isTaken_59 ?_))
      exact hc _ (Option.some.inj e).symm
    · replace e := am_pos hbr e
      replace e := am_ckv e; obtain ⟨c2, e⟩ := e
      refine (sX10_isTaken_24 (sX10_isTaken_25 rfl (sX10_isTaken_26 (hL.1 _ _ rfl) (hL.2.1 _ _ _ rfl) (sX10_isTaken_29 (sX10_isTaken_31 (hL.1 _ _ rfl) c2 ?_)))))
      refine sX10_isTaken_32 (fun hbr => ?_) (fun hbr => ?_)
      · replace e := am_pos hbr e
        refine (sX10_isTaken_56 (sX10_isTaken_59 ?_))
        exact hc _ (Option.some.inj e).symm
      · replace e := am_neg hbr e
        replace e := am_ckv e; obtain ⟨c3, e⟩ := e
        replace e := am_ckv e; obtain ⟨c4, e⟩ := e
        refine (sX10_isTaken_35 (sX10_isTaken_36 rfl (sX10_isTaken_37 (hL.1 _ _ rfl) (hL.2.1 _ _ _ rfl) (sX10_isTaken_40 (sX10_isTaken_42 (hL.1 _ _ rfl) c3 (sX10_isTaken_43 rfl (sX10_isTaken_44 (hL.1 _ _ rfl) (hL.2.1 _ _ _ rfl) (sX10_isTaken_47 (sX10_isTaken_49 (hL.1 _ _ rfl) c4 (sX10_isTaken_50 ?_))))))))))
        refine sX10_isTaken_51 (fun hbr => ?_) (fun hbr => ?_)
        · replace e := am_pos hbr e
          refine (sX10_isTaken_56 (sX10_isTaken_59 ?_))
          exact hc _ (Option.some.inj e).symm
        · replace e := am_neg hbr e
          refine (sX10_isTaken_54 (sX10_isTaken_55 rfl ?_))
          exact hr _ (Option.some.inj e).symm
theorem l_X10_isTaken_4 {E : am_E} {S : am_S} {Q : am_O → am_S → am_I → Prop} (hL : am_Lay S) {i1 i2 i3 : Int32} {iv : am_I} (s : (Int32)) {x : ((Unit) ⊕ (Int32))} (e : am_loop (fun s : (Int32) => B_X10_isTaken_4 i1 i2 i3 iv s) s = some x) (hx : ∀ a, x = .inl a → ∀ z0 z1 z2 z3 z4 : Value, am_R E 0 mX10_isTaken 0 0 62 [z0, z1, z2, z3, z4] [] S iv Q) (hr : ∀ r, x = .inr r → Q (.inl (some (.int r))) S iv) : am_R E 0 mX10_isTaken 0 0 4 [.ref 54, .int i1, .int i2, .int i3, .int s] [] S iv Q :=
  am_wh_sound (f := fun s : (Int32) => B_X10_isTaken_4 i1 i2 i3 iv s) (P := fun s => am_R E 0 mX10_isTaken 0 0 4 [.ref 54, .int i1, .int i2, .int i3, .int s] [] S iv Q) (K := fun x => (∀ a, x = .inl a → ∀ z0 z1 z2 z3 z4 : Value, am_R E 0 mX10_isTaken 0 0 62 [z0, z1, z2, z3, z4] [] S iv Q) ∧ (∀ r, x = .inr r → Q (.inl (some (.int r))) S iv)) (fun s y e hc hkk => b_X10_isTaken_4 hL e hc (fun a hy => (hkk _ hy).1 a rfl) (fun r hy => (hkk _ hy).2 r rfl)) am_fu s x e ⟨hx, hr⟩
def F_X10_isTaken (i1 : Int32) (i2 : Int32) (i3 : Int32) (iv : am_I) : Option (Int32) :=
  (am_lp (am_loop (fun s : (Int32) => B_X10_isTaken_4 i1 i2 i3 iv s) (10 : Int32)) (fun a5 => some (0 : Int32)) (fun r5 => some r5))
theorem R_X10_isTaken {E : am_E} {S : am_S} {Q : am_O → am_S → am_I → Prop} (hL : am_Lay S) {i1 i2 i3 : Int32} {iv : am_I} {y : Int32} (e : F_X10_isTaken i1 i2 i3 iv = some y) (h : Q (.inl (some (.int y))) S iv) {d : Nat} (hd : 0 ≤ d) : am_M E d mX10_isTaken 0 0 [.ref 54, .int i1, .int i2, .int i3] S iv Q := by
  refine am_enter (js := [.double 0]) rfl pn_X10 rfl rfl rfl (Nat.le_of_ble_eq_true rfl) (am_R.deep ?_ hd)
  refine (sX10_isTaken_0 (sX10_isTaken_2 ?_))
  replace e := am_lp_i e; rcases e with ⟨a5, e5, e⟩ | ⟨r5, e5, e⟩
  · refine l_X10_isTaken_4 hL _ e5 (fun a hq9 => ?_) (fun r hq9 => nomatch hq9)
    obtain rfl := Sum.inl.inj hq9
    intro z0 z1 z2 z3 z4
    refine (sX10_isTaken_62 (sX10_isTaken_63 rfl ?_))
    obtain rfl := Option.some.inj e
    exact h
  · refine l_X10_isTaken_4 hL _ e5 (fun a hq9 => nomatch hq9) (fun r hq9 => ?_)
    obtain rfl := Sum.inr.inj hq9
    obtain rfl := Option.some.inj e
    exact h
def J_X10_readDrawer_250 (iv : am_I) : Option (am_I) :=
  some (am_w iv 58 (12 : Int32).toNatClampNeg ((iv 58 (12 : Int32).toNatClampNeg) + (1 : Int32)))
theorem j_X10_readDrawer_250 {E : am_E} {S : am_S} {Q : am_O → am_S → am_I → Prop} (hL : am_Lay S) {z1 z2 : Value} {iv : am_I} {y : am_I} (e : J_X10_readDrawer_250  iv = some y) (h : Q (.inl none) S y) : am_R E 5 mX10_readDrawer 0 0 250 [.ref 54, z1, z2] [] S iv Q := by
  refine (sX10_readDrawer_250 rfl (sX10_readDrawer_251 (hL.1 _ _ rfl) (hL.2.1 _ _ _ rfl) (sX10_readDrawer_254 (sX10_readDrawer_256 rfl rfl (sX10_readDrawer_257 (hL.1 _ _ rfl) (vp_lit (by decide)) (sX10_readDrawer_258 (sX10_readDrawer_259 (sX10_readDrawer_260 (hL.1 _ _ rfl) (vp_lit (by decide)) (sX10_readDrawer_261 ?_)))))))))
  obtain rfl := Option.some.inj e
  exact h
def J_X10_readDrawer_239 (iv : am_I) : Option (am_I) :=
  (if (iv 54 25) = 0 then (am_o1 (F_X10_stepOn  iv) fun w16 => J_X10_readDrawer_250  w16) else J_X10_readDrawer_250  iv)
theorem j_X10_readDrawer_239 {E : am_E} {S : am_S} {Q : am_O → am_S → am_I → Prop} (hL : am_Lay S) {z1 z2 : Value} {iv : am_I} {y : am_I} (e : J_X10_readDrawer_239  iv = some y) (h : Q (.inl none) S y) : am_R E 5 mX10_readDrawer 0 0 239 [.ref 54, z1, z2] [] S iv Q := by
  refine (sX10_readDrawer_239 rfl (sX10_readDrawer_240 (hL.1 _ _ rfl) ?_))
  refine sX10_readDrawer_243 (fun hbr => ?_) (fun hbr => ?_)
  · replace e := am_neg hbr e
    exact j_X10_readDrawer_250 hL e h
  · replace e := am_pos hbr e
    replace e := am_o1_i e; obtain ⟨w16, e16, e⟩ := e
    refine (sX10_readDrawer_246 rfl (sX10_readDrawer_247 (hL.1 _ _ rfl) (Nat.le_of_ble_eq_true rfl) (R_X10_stepOn hL (h := ?_) (hd := (Nat.le_of_ble_eq_true rfl)) (e := e16))))
    exact j_X10_readDrawer_250 hL e h
def J_X10_readDrawer_169 (i2 : Int32) (k1 : Int32) (k2 : Int32) (iv : am_I) : Option (am_I) :=
  (if vp_b k1 20 then (if vp_b i2 20 then (if ((am_w iv 63 k1.toNatClampNeg k2) 63 i2.toNatClampNeg) = (1 : Int32) then (if vp_b i2 20 then (if ((am_w iv 63 k1.toNatClampNeg k2) 60 i2.toNatClampNeg) = (((am_w iv 63 k1.toNatClampNeg k2) 58 (10 : Int32).toNatClampNeg) - (1 : Int32)) then (am_o1 (F_X10_wrong (2 : Int32) (am_w iv 63 k1.toNatClampNeg k2)) fun w18 => J_X10_readDrawer_239  w18) else (if vp_b i2 20 then (if vp_b i2 20 then (am_o1 (F_X10_isTaken (((am_w iv 63 k1.toNatClampNeg k2) 60 i2.toNatClampNeg) + (1 : Int32)) ((am_w iv 63 k1.toNatClampNeg k2) 61 i2.toNatClampNeg) ((am_w iv 63 k1.toNatClampNeg k2) 58 (12 : Int32).toNatClampNeg) (am_w iv 63 k1.toNatClampNeg k2)) fun v15 => (if v15 = 0 then J_X10_readDrawer_239  (am_w iv 63 k1.toNatClampNeg k2) else (am_o1 (F_X10_wrong (5 : Int32) (am_w iv 63 k1.toNatClampNeg k2)) fun w17 => J_X10_readDrawer_239  w17))) else none) else none)) else none) else J_X10_readDrawer_250  (am_w iv 63 k1.toNatClampNeg k2)) else none) else none)
theorem j_X10_readDrawer_169 {E : am_E} {S : am_S} {Q : am_O → am_S → am_I → Prop} (hL : am_Lay S) {z1 : Value} {i2 k1 k2 : Int32} {iv : am_I} {y : am_I} (e : J_X10_readDrawer_169 i2 k1 k2 iv = some y) (h : Q (.inl none) S y) : am_R E 5 mX10_readDrawer 0 0 169 [.ref 54, z1, .int i2] [.int k2, .int k1, .ref 63] S iv Q := by
  replace e := am_ckv e; obtain ⟨c10, e⟩ := e
  replace e := am_ckv e; obtain ⟨c11, e⟩ := e
  refine (sX10_readDrawer_169 (hL.1 _ _ rfl) c10 (sX10_readDrawer_170 rfl (sX10_readDrawer_171 (hL.1 _ _ rfl) (hL.2.1 _ _ _ rfl) (sX10_readDrawer_174 (sX10_readDrawer_175 (hL.1 _ _ rfl) c11 (sX10_readDrawer_176 ?_))))))
  refine sX10_readDrawer_177 (fun hbr => ?_) (fun hbr => ?_)
  · replace e := am_neg hbr e
    exact j_X10_readDrawer_250 hL e h
  · replace e := am_pos hbr e
    replace e := am_ckv e; obtain ⟨c12, e⟩ := e
    refine (sX10_readDrawer_180 rfl (sX10_readDrawer_181 (hL.1 _ _ rfl) (hL.2.1 _ _ _ rfl) (sX10_readDrawer_184 (sX10_readDrawer_185 (hL.1 _ _ rfl) c12 (sX10_readDrawer_186 rfl (sX10_readDrawer_187 (hL.1 _ _ rfl) (hL.2.1 _ _ _ rfl) (sX10_readDrawer_190 (sX10_readDrawer_192 (hL.1 _ _ rfl) (vp_lit (by decide)) (sX10_readDrawer_193 (sX10_readDrawer_194 ?_))))))))))
    refine sX10_readDrawer_195 (fun hbr => ?_) (fun hbr => ?_)
    · replace e := am_neg hbr e
      replace e := am_ckv e; obtain ⟨c13, e⟩ := e
      replace e := am_ckv e; obtain ⟨c14, e⟩ := e
      replace e := am_o1_i e; obtain ⟨v15, e15, e⟩ := e
      refine (sX10_readDrawer_206 rfl (sX10_readDrawer_207 rfl (sX10_readDrawer_208 (hL.1 _ _ rfl) (hL.2.1 _ _ _ rfl) (sX10_readDrawer_211 (sX10_readDrawer_212 (hL.1 _ _ rfl) c13 (sX10_readDrawer_213 (sX10_readDrawer_214 (sX10_readDrawer_215 rfl (sX10_readDrawer_216 (hL.1 _ _ rfl) (hL.2.1 _ _ _ rfl) (sX10_readDrawer_219 (sX10_readDrawer_220 (hL.1 _ _ rfl) c14 (sX10_readDrawer_221 rfl (sX10_readDrawer_222 (hL.1 _ _ rfl) (hL.2.1 _ _ _ rfl) (sX10_readDrawer_225 (sX10_readDrawer_227 (hL.1 _ _ rfl) (vp_lit (by decide)) (sX10_readDrawer_228 (hL.1 _ _ rfl) (Nat.le_of_ble_eq_true rfl) (R_X10_isTaken hL (h := ?_) (hd := (Nat.le_of_ble_eq_true rfl)) (e := e15))))))))))))))))))
      refine sX10_readDrawer_231 (fun hbr => ?_) (fun hbr => ?_)
      · replace e := am_pos hbr e
        exact j_X10_readDrawer_239 hL e h
      · replace e := am_neg hbr e
        replace e := am_o1_i e; obtain ⟨w17, e17, e⟩ := e
        refine (sX10_readDrawer_234 rfl (sX10_readDrawer_235 (sX10_readDrawer_236 (hL.1 _ _ rfl) (Nat.le_of_ble_eq_true rfl) (R_X10_wrong hL (h := ?_) (hd := (Nat.le_of_ble_eq_true rfl)) (e := e17)))))
        exact j_X10_readDrawer_239 hL e h
    · replace e := am_pos hbr e
      replace e := am_o1_i e; obtain ⟨w18, e18, e⟩ := e
      refine (sX10_readDrawer_198 rfl (sX10_readDrawer_199 (sX10_readDrawer_200 (hL.1 _ _ rfl) (Nat.le_of_ble_eq_true rfl) (R_X10_wrong hL (h := (sX10_readDrawer_203 ?_)) (hd := (Nat.le_of_ble_eq_true rfl)) (e := e18)))))
      exact j_X10_readDrawer_239 hL e h
def J_X10_readDrawer_136 (i2 : Int32) (iv : am_I) : Option (am_I) :=
  (am_o2 (F_X10_readNumber (1 : Int32) (9 : Int32) iv) fun v7 w7 => (if vp_b i2 20 then (am_o1 (F_X10_is 50  (am_w w7 62 i2.toNatClampNeg v7)) fun v9 => (if v9 = 0 then J_X10_readDrawer_169 i2 i2 (0 : Int32) (am_w w7 62 i2.toNatClampNeg v7) else J_X10_readDrawer_169 i2 i2 (1 : Int32) (am_w w7 62 i2.toNatClampNeg v7))) else none))
theorem j_X10_readDrawer_136 {E : am_E} {S : am_S} {Q : am_O → am_S → am_I → Prop} (hL : am_Lay S) {z1 : Value} {i2 : Int32} {iv : am_I} {y : am_I} (e : J_X10_readDrawer_136 i2 iv = some y) (h : Q (.inl none) S y) : am_R E 5 mX10_readDrawer 0 0 136 [.ref 54, z1, .int i2] [] S iv Q := by
  replace e := am_o2_i e; obtain ⟨v7, w7, e7, e⟩ := e
  replace e := am_ckv e; obtain ⟨c8, e⟩ := e
  replace e := am_o1_i e; obtain ⟨v9, e9, e⟩ := e
  refine (sX10_readDrawer_136 rfl (sX10_readDrawer_137 (hL.1 _ _ rfl) (hL.2.1 _ _ _ rfl) (sX10_readDrawer_140 (sX10_readDrawer_141 rfl (sX10_readDrawer_142 (sX10_readDrawer_143 (sX10_readDrawer_145 (hL.1 _ _ rfl) (Nat.le_of_ble_eq_true rfl) (R_X10_readNumber hL (h := (sX10_readDrawer_148 (hL.1 _ _ rfl) c8 (sX10_readDrawer_149 rfl (sX10_readDrawer_150 (hL.1 _ _ rfl) (hL.2.1 _ _ _ rfl) (sX10_readDrawer_153 (sX10_readDrawer_154 rfl (sX10_readDrawer_155 (sX10_readDrawer_158 (hL.1 _ _ rfl) (Nat.le_of_ble_eq_true rfl) (R_X10_is hL (by decide) (h := ?_) (hd := (Nat.le_of_ble_eq_true rfl)) (e := e9)))))))))) (hd := (Nat.le_of_ble_eq_true rfl)) (e := e7)))))))))
  refine sX10_readDrawer_161 (fun hbr => ?_) (fun hbr => ?_)
  · replace e := am_pos hbr e
    refine (sX10_readDrawer_168 ?_)
    exact j_X10_readDrawer_169 hL e h
  · replace e := am_neg hbr e
    refine (sX10_readDrawer_164 (sX10_readDrawer_165 ?_))
    exact j_X10_readDrawer_169 hL e h
def J_X10_readDrawer_125 (i2 : Int32) (iv : am_I) : Option (am_I) :=
  (if (iv 54 25) = 0 then (am_o1 (F_X10_stepOn  iv) fun w19 => J_X10_readDrawer_136 i2 w19) else J_X10_readDrawer_136 i2 iv)
theorem j_X10_readDrawer_125 {E : am_E} {S : am_S} {Q : am_O → am_S → am_I → Prop} (hL : am_Lay S) {z1 : Value} {i2 : Int32} {iv : am_I} {y : am_I} (e : J_X10_readDrawer_125 i2 iv = some y) (h : Q (.inl none) S y) : am_R E 5 mX10_readDrawer 0 0 125 [.ref 54, z1, .int i2] [] S iv Q := by
  refine (sX10_readDrawer_125 rfl (sX10_readDrawer_126 (hL.1 _ _ rfl) ?_))
  refine sX10_readDrawer_129 (fun hbr => ?_) (fun hbr => ?_)
  · replace e := am_neg hbr e
    exact j_X10_readDrawer_136 hL e h
  · replace e := am_pos hbr e
    replace e := am_o1_i e; obtain ⟨w19, e19, e⟩ := e
    refine (sX10_readDrawer_132 rfl (sX10_readDrawer_133 (hL.1 _ _ rfl) (Nat.le_of_ble_eq_true rfl) (R_X10_stepOn hL (h := ?_) (hd := (Nat.le_of_ble_eq_true rfl)) (e := e19))))
    exact j_X10_readDrawer_136 hL e h
def J_X10_readDrawer_17 (i1 : Int32) (iv : am_I) : Option (am_I) :=
  (if (iv 54 25) = 0 then (am_o1 (F_X10_stepOn  iv) fun w1 => (if vp_b ((10 : Int32) + (w1 58 (12 : Int32).toNatClampNeg)) 20 then (am_o2 (F_X10_readNumber (0 : Int32) (((am_w w1 59 ((10 : Int32) + (w1 58 (12 : Int32).toNatClampNeg)).toNatClampNeg i1) 58 (10 : Int32).toNatClampNeg) - (1 : Int32)) (am_w w1 59 ((10 : Int32) + (w1 58 (12 : Int32).toNatClampNeg)).toNatClampNeg i1)) fun v3 w3 => (if vp_b ((10 : Int32) + (w1 58 (12 : Int32).toNatClampNeg)) 20 then (am_o2 (F_X10_numberNow (0 : Int32) (((am_w w3 60 ((10 : Int32) + (w1 58 (12 : Int32).toNatClampNeg)).toNatClampNeg v3) 58 (11 : Int32).toNatClampNeg) - (1 : Int32)) (am_w w3 60 ((10 : Int32) + (w1 58 (12 : Int32).toNatClampNeg)).toNatClampNeg v3)) fun v5 w5 => (if vp_b ((10 : Int32) + (w1 58 (12 : Int32).toNatClampNeg)) 20 then (if ((am_w w5 61 ((10 : Int32) + (w1 58 (12 : Int32).toNatClampNeg)).toNatClampNeg v5) 54 25) = 0 then (if vp_b ((10 : Int32) + (w1 58 (12 : Int32).toNatClampNeg)) 20 then (if vp_b ((10 : Int32) + (w1 58 (12 : Int32).toNatClampNeg)) 20 then (am_o1 (F_X10_isTaken ((am_w w5 61 ((10 : Int32) + (w1 58 (12 : Int32).toNatClampNeg)).toNatClampNeg v5) 60 ((10 : Int32) + (w1 58 (12 : Int32).toNatClampNeg)).toNatClampNeg) ((am_w w5 61 ((10 : Int32) + (w1 58 (12 : Int32).toNatClampNeg)).toNatClampNeg v5) 61 ((10 : Int32) + (w1 58 (12 : Int32).toNatClampNeg)).toNatClampNeg) ((am_w w5 61 ((10 : Int32) + (w1 58 (12 : Int32).toNatClampNeg)).toNatClampNeg v5) 58 (12 : Int32).toNatClampNeg) (am_w w5 61 ((10 : Int32) + (w1 58 (12 : Int32).toNatClampNeg)).toNatClampNeg v5)) fun v22 => (if v22 = 0 then J_X10_readDrawer_125 ((10 : Int32) + (w1 58 (12 : Int32).toNatClampNeg)) (am_w w5 61 ((10 : Int32) + (w1 58 (12 : Int32).toNatClampNeg)).toNatClampNeg v5) else (am_o1 (F_X10_wrong (5 : Int32) (am_w w5 61 ((10 : Int32) + (w1 58 (12 : Int32).toNatClampNeg)).toNatClampNeg v5)) fun w23 => J_X10_readDrawer_125 ((10 : Int32) + (w1 58 (12 : Int32).toNatClampNeg)) w23))) else none) else none) else J_X10_readDrawer_125 ((10 : Int32) + (w1 58 (12 : Int32).toNatClampNeg)) (am_w w5 61 ((10 : Int32) + (w1 58 (12 : Int32).toNatClampNeg)).toNatClampNeg v5)) else none)) else none)) else none)) else some iv)
theorem j_X10_readDrawer_17 {E : am_E} {S : am_S} {Q : am_O → am_S → am_I → Prop} (hL : am_Lay S) {z2 : Value} {i1 : Int32} {iv : am_I} {y : am_I} (e : J_X10_readDrawer_17 i1 iv = some y) (h : Q (.inl none) S y) : am_R E 5 mX10_readDrawer 0 0 17 [.ref 54, .int i1, z2] [] S iv Q := by
  refine (sX10_readDrawer_17 rfl (sX10_readDrawer_18 (hL.1 _ _ rfl) ?_))
  refine sX10_readDrawer_21 (fun hbr => ?_) (fun hbr => ?_)
  · replace e := am_pos hbr e
    replace e := am_o1_i e; obtain ⟨w1, e1, e⟩ := e
    replace e := am_ckv e; obtain ⟨c2, e⟩ := e
    replace e := am_o2_i e; obtain ⟨v3, w3, e3, e⟩ := e
    replace e := am_ckv e; obtain ⟨c4, e⟩ := e
    replace e := am_o2_i e; obtain ⟨v5, w5, e5, e⟩ := e
    replace e := am_ckv e; obtain ⟨c6, e⟩ := e
    refine (sX10_readDrawer_25 rfl (sX10_readDrawer_26 (hL.1 _ _ rfl) (Nat.le_of_ble_eq_true rfl) (R_X10_stepOn hL (h := (sX10_readDrawer_29 (sX10_readDrawer_31 rfl (sX10_readDrawer_32 (hL.1 _ _ rfl) (hL.2.1 _ _ _ rfl) (sX10_readDrawer_35 (sX10_readDrawer_37 (hL.1 _ _ rfl) (vp_lit (by decide)) (sX10_readDrawer_38 (sX10_readDrawer_39 (sX10_readDrawer_40 rfl (sX10_readDrawer_41 (hL.1 _ _ rfl) (hL.2.1 _ _ _ rfl) (sX10_readDrawer_44 (sX10_readDrawer_45 (sX10_readDrawer_46 (hL.1 _ _ rfl) c2 (sX10_readDrawer_47 rfl (sX10_readDrawer_48 (hL.1 _ _ rfl) (hL.2.1 _ _ _ rfl) (sX10_readDrawer_51 (sX10_readDrawer_52 rfl (sX10_readDrawer_53 (sX10_readDrawer_54 rfl (sX10_readDrawer_55 (hL.1 _ _ rfl) (hL.2.1 _ _ _ rfl) (sX10_readDrawer_58 (sX10_readDrawer_60 (hL.1 _ _ rfl) (vp_lit (by decide)) (sX10_readDrawer_61 (sX10_readDrawer_62 (sX10_readDrawer_63 (hL.1 _ _ rfl) (Nat.le_of_ble_eq_true rfl) (R_X10_readNumber hL (h := (sX10_readDrawer_66 (hL.1 _ _ rfl) c4 (sX10_readDrawer_67 rfl (sX10_readDrawer_68 (hL.1 _ _ rfl) (hL.2.1 _ _ _ rfl) (sX10_readDrawer_71 (sX10_readDrawer_72 rfl (sX10_readDrawer_73 (sX10_readDrawer_74 rfl (sX10_readDrawer_75 (hL.1 _ _ rfl) (hL.2.1 _ _ _ rfl) (sX10_readDrawer_78 (sX10_readDrawer_80 (hL.1 _ _ rfl) (vp_lit (by decide)) (sX10_readDrawer_81 (sX10_readDrawer_82 (sX10_readDrawer_83 (hL.1 _ _ rfl) (Nat.le_of_ble_eq_true rfl) (R_X10_numberNow hL (h := (sX10_readDrawer_86 (hL.1 _ _ rfl) c6 (sX10_readDrawer_87 rfl (sX10_readDrawer_88 (hL.1 _ _ rfl) ?_)))) (hd := (Nat.le_of_ble_eq_true rfl)) (e := e5)))))))))))))))) (hd := (Nat.le_of_ble_eq_true rfl)) (e := e3))))))))))))))))))))))))))) (hd := (Nat.le_of_ble_eq_true rfl)) (e := e1))))
    refine sX10_readDrawer_91 (fun hbr => ?_) (fun hbr => ?_)
    · replace e := am_neg hbr e
      exact j_X10_readDrawer_125 hL e h
    · replace e := am_pos hbr e
      replace e := am_ckv e; obtain ⟨c20, e⟩ := e
      replace e := am_ckv e; obtain ⟨c21, e⟩ := e
      replace e := am_o1_i e; obtain ⟨v22, e22, e⟩ := e
      refine (sX10_readDrawer_94 rfl (sX10_readDrawer_95 rfl (sX10_readDrawer_96 (hL.1 _ _ rfl) (hL.2.1 _ _ _ rfl) (sX10_readDrawer_99 (sX10_readDrawer_100 (hL.1 _ _ rfl) c20 (sX10_readDrawer_101 rfl (sX10_readDrawer_102 (hL.1 _ _ rfl) (hL.2.1 _ _ _ rfl) (sX10_readDrawer_105 (sX10_readDrawer_106 (hL.1 _ _ rfl) c21 (sX10_readDrawer_107 rfl (sX10_readDrawer_108 (hL.1 _ _ rfl) (hL.2.1 _ _ _ rfl) (sX10_readDrawer_111 (sX10_readDrawer_113 (hL.1 _ _ rfl) (vp_lit (by decide)) (sX10_readDrawer_114 (hL.1 _ _ rfl) (Nat.le_of_ble_eq_true rfl) (R_X10_isTaken hL (h := ?_) (hd := (Nat.le_of_ble_eq_true rfl)) (e := e22))))))))))))))))
      refine sX10_readDrawer_117 (fun hbr => ?_) (fun hbr => ?_)
      · replace e := am_pos hbr e
        exact j_X10_readDrawer_125 hL e h
      · replace e := am_neg hbr e
        replace e := am_o1_i e; obtain ⟨w23, e23, e⟩ := e
        refine (sX10_readDrawer_120 rfl (sX10_readDrawer_121 (sX10_readDrawer_122 (hL.1 _ _ rfl) (Nat.le_of_ble_eq_true rfl) (R_X10_wrong hL (h := ?_) (hd := (Nat.le_of_ble_eq_true rfl)) (e := e23)))))
        exact j_X10_readDrawer_125 hL e h
  · replace e := am_neg hbr e
    refine (sX10_readDrawer_24 ?_)
    obtain rfl := Option.some.inj e
    exact h
def F_X10_readDrawer (i1 : Int32) (iv : am_I) : Option (am_I) :=
  (if (iv 58 (12 : Int32).toNatClampNeg) = (10 : Int32) then (am_o1 (F_X10_wrong (2 : Int32) iv) fun w24 => J_X10_readDrawer_17 i1 w24) else J_X10_readDrawer_17 i1 iv)
theorem R_X10_readDrawer {E : am_E} {S : am_S} {Q : am_O → am_S → am_I → Prop} (hL : am_Lay S) {i1 : Int32} {iv : am_I} {y : am_I} (e : F_X10_readDrawer i1 iv = some y) (h : Q (.inl none) S y) {d : Nat} (hd : 5 ≤ d) : am_M E d mX10_readDrawer 0 0 [.ref 54, .int i1] S iv Q := by
  refine am_enter (js := [.double 0]) rfl pn_X10 rfl rfl rfl (Nat.le_of_ble_eq_true rfl) (am_R.deep ?_ hd)
  refine (sX10_readDrawer_0 rfl (sX10_readDrawer_1 (hL.1 _ _ rfl) (hL.2.1 _ _ _ rfl) (sX10_readDrawer_4 (sX10_readDrawer_6 (hL.1 _ _ rfl) (vp_lit (by decide)) (sX10_readDrawer_7 ?_)))))
  refine sX10_readDrawer_9 (fun hbr => ?_) (fun hbr => ?_)
  · replace e := am_neg hbr e
    exact j_X10_readDrawer_17 hL e h
  · replace e := am_pos hbr e
    replace e := am_o1_i e; obtain ⟨w24, e24, e⟩ := e
    refine (sX10_readDrawer_12 rfl (sX10_readDrawer_13 (sX10_readDrawer_14 (hL.1 _ _ rfl) (Nat.le_of_ble_eq_true rfl) (R_X10_wrong hL (h := ?_) (hd := (Nat.le_of_ble_eq_true rfl)) (e := e24)))))
    exact j_X10_readDrawer_17 hL e h
def J_X10_readOne_60 (i2 : Int32) (iv : am_I) : Option (Int32 × am_I) :=
  (if (iv 54 25) = 0 then (am_o1 (F_X10_stepOn  iv) fun w2 => some (i2, w2)) else some (i2, iv))
theorem j_X10_readOne_60 {E : am_E} {S : am_S} {Q : am_O → am_S → am_I → Prop} (hL : am_Lay S) {z1 : Value} {i2 : Int32} {iv : am_I} {y : Int32 × am_I} (e : J_X10_readOne_60 i2 iv = some y) (h : Q (.inl (some (.int y.1))) S y.2) : am_R E 2 mX10_readOne 0 0 60 [.ref 54, z1, .int i2] [] S iv Q := by
  refine (sX10_readOne_60 rfl (sX10_readOne_61 (hL.1 _ _ rfl) ?_))
  refine sX10_readOne_64 (fun hbr => ?_) (fun hbr => ?_)
  · replace e := am_neg hbr e
    refine (sX10_readOne_71 (sX10_readOne_72 ?_))
    obtain rfl := Option.some.inj e
    exact h
  · replace e := am_pos hbr e
    replace e := am_o1_i e; obtain ⟨w2, e2, e⟩ := e
    refine (sX10_readOne_67 rfl (sX10_readOne_68 (hL.1 _ _ rfl) (Nat.le_of_ble_eq_true rfl) (R_X10_stepOn hL (h := (sX10_readOne_71 (sX10_readOne_72 ?_))) (hd := (Nat.le_of_ble_eq_true rfl)) (e := e2))))
    obtain rfl := Option.some.inj e
    exact h
def J_X10_readOne_35 (i1 : Int32) (i2 : Int32) (iv : am_I) : Option (Int32 × am_I) :=
  (if (iv 54 25) = 0 then (if vp_b ((10 : Int32) + i2) 20 then (if (iv 59 ((10 : Int32) + i2).toNatClampNeg) = i1 then J_X10_readOne_60 i2 iv else (am_o1 (F_X10_wrong (5 : Int32) iv) fun w4 => J_X10_readOne_60 i2 w4)) else none) else J_X10_readOne_60 i2 iv)
theorem j_X10_readOne_35 {E : am_E} {S : am_S} {Q : am_O → am_S → am_I → Prop} (hL : am_Lay S) {i1 i2 : Int32} {iv : am_I} {y : Int32 × am_I} (e : J_X10_readOne_35 i1 i2 iv = some y) (h : Q (.inl (some (.int y.1))) S y.2) : am_R E 2 mX10_readOne 0 0 35 [.ref 54, .int i1, .int i2] [] S iv Q := by
  refine (sX10_readOne_35 rfl (sX10_readOne_36 (hL.1 _ _ rfl) ?_))
  refine sX10_readOne_39 (fun hbr => ?_) (fun hbr => ?_)
  · replace e := am_neg hbr e
    exact j_X10_readOne_60 hL e h
  · replace e := am_pos hbr e
    replace e := am_ckv e; obtain ⟨c3, e⟩ := e
    refine (sX10_readOne_42 rfl (sX10_readOne_43 (hL.1 _ _ rfl) (hL.2.1 _ _ _ rfl) (sX10_readOne_46 (sX10_readOne_48 (sX10_readOne_49 (sX10_readOne_50 (hL.1 _ _ rfl) c3 (sX10_readOne_51 ?_)))))))
    refine sX10_readOne_52 (fun hbr => ?_) (fun hbr => ?_)
    · replace e := am_pos hbr e
      exact j_X10_readOne_60 hL e h
    · replace e := am_neg hbr e
      replace e := am_o1_i e; obtain ⟨w4, e4, e⟩ := e
      refine (sX10_readOne_55 rfl (sX10_readOne_56 (sX10_readOne_57 (hL.1 _ _ rfl) (Nat.le_of_ble_eq_true rfl) (R_X10_wrong hL (h := ?_) (hd := (Nat.le_of_ble_eq_true rfl)) (e := e4)))))
      exact j_X10_readOne_60 hL e h
def F_X10_readOne (i1 : Int32) (iv : am_I) : Option (Int32 × am_I) :=
  (am_o2 (F_X10_numberNow (0 : Int32) (9999 : Int32) iv) fun v1 w1 => (if (w1 54 25) = 0 then (if v1 < (w1 58 (12 : Int32).toNatClampNeg) then J_X10_readOne_35 i1 v1 w1 else (am_o1 (F_X10_wrong (3 : Int32) w1) fun w5 => J_X10_readOne_60 v1 w5)) else J_X10_readOne_35 i1 v1 w1))
theorem YR_X10_readOne {E : am_E} {S : am_S} {Q : am_O → am_S → am_I → Prop} (hL : am_Lay S) {i1 : Int32} {iv : am_I} {y : Int32 × am_I} (e : F_X10_readOne i1 iv = some y) (h : Q (.inl (some (.int y.1))) S y.2) {d : Nat} (hd : 2 ≤ d) : am_M E d mX10_readOne 0 0 [.ref 54, .int i1] S iv Q := by
  refine am_enter (js := [.double 0]) rfl pn_X10 rfl rfl rfl (Nat.le_of_ble_eq_true rfl) (am_R.deep ?_ hd)
  replace e := am_o2_i e; obtain ⟨v1, w1, e1, e⟩ := e
  refine (sX10_readOne_0 rfl (sX10_readOne_1 (sX10_readOne_2 (sX10_readOne_5 (hL.1 _ _ rfl) (Nat.le_of_ble_eq_true rfl) (R_X10_numberNow hL (h := (sX10_readOne_8 (sX10_readOne_9 rfl (sX10_readOne_10 (hL.1 _ _ rfl) ?_)))) (hd := (Nat.le_of_ble_eq_true rfl)) (e := e1))))))
  refine sX10_readOne_13 (fun hbr => ?_) (fun hbr => ?_)
  · replace e := am_neg hbr e
    exact j_X10_readOne_35 hL e h
  · replace e := am_pos hbr e
    refine (sX10_readOne_16 (sX10_readOne_17 rfl (sX10_readOne_18 (hL.1 _ _ rfl) (hL.2.1 _ _ _ rfl) (sX10_readOne_21 (sX10_readOne_23 (hL.1 _ _ rfl) (vp_lit (by decide)) ?_)))))
    refine sX10_readOne_24 (fun hbr => ?_) (fun hbr => ?_)
    · replace e := am_pos hbr e
      exact j_X10_readOne_35 hL e h
    · replace e := am_neg hbr e
      replace e := am_o1_i e; obtain ⟨w5, e5, e⟩ := e
      refine (sX10_readOne_27 rfl (sX10_readOne_28 (sX10_readOne_29 (hL.1 _ _ rfl) (Nat.le_of_ble_eq_true rfl) (R_X10_wrong hL (h := (sX10_readOne_32 ?_)) (hd := (Nat.le_of_ble_eq_true rfl)) (e := e5)))))
      exact j_X10_readOne_60 hL e h
theorem R_X10_readOne {E : am_E} {S : am_S} {Q : am_O → am_S → am_I → Prop} (hL : am_Lay S) {i1 : Int32} {iv : am_I} {v' : Int32} {iv' : am_I} (e : F_X10_readOne i1 iv = some (v', iv')) (h : Q (.inl (some (.int v'))) S iv') {d : Nat} (hd : 2 ≤ d) : am_M E d mX10_readOne 0 0 [.ref 54, .int i1] S iv Q :=
  YR_X10_readOne hL e h hd
def J_X10_readPerson_100 (k1 : Int32) (k2 : Int32) (iv : am_I) : Option (am_I) :=
  (if vp_b k1 10 then some (am_w (am_w iv 66 k1.toNatClampNeg k2) 58 (13 : Int32).toNatClampNeg (((am_w iv 66 k1.toNatClampNeg k2) 58 (13 : Int32).toNatClampNeg) + (1 : Int32))) else none)
theorem j_X10_readPerson_100 {E : am_E} {S : am_S} {Q : am_O → am_S → am_I → Prop} (hL : am_Lay S) {z1 : Value} {k1 k2 : Int32} {iv : am_I} {y : am_I} (e : J_X10_readPerson_100 k1 k2 iv = some y) (h : Q (.inl none) S y) : am_R E 6 mX10_readPerson 0 0 100 [.ref 54, z1] [.int k2, .int k1, .ref 66] S iv Q := by
  replace e := am_ckv e; obtain ⟨c7, e⟩ := e
  refine (sX10_readPerson_100 (hL.1 _ _ rfl) c7 (sX10_readPerson_101 rfl (sX10_readPerson_102 (hL.1 _ _ rfl) (hL.2.1 _ _ _ rfl) (sX10_readPerson_105 (sX10_readPerson_107 rfl rfl (sX10_readPerson_108 (hL.1 _ _ rfl) (vp_lit (by decide)) (sX10_readPerson_109 (sX10_readPerson_110 (sX10_readPerson_111 (hL.1 _ _ rfl) (vp_lit (by decide)) (sX10_readPerson_112 ?_))))))))))
  obtain rfl := Option.some.inj e
  exact h
def J_X10_readPerson_73 (i1 : Int32) (k1 : Int32) (k2 : Int32) (iv : am_I) : Option (am_I) :=
  (if vp_b k1 10 then (am_o2 (F_X10_passes 53  (am_w iv 65 k1.toNatClampNeg k2)) fun v6 w6 => (if v6 = 0 then J_X10_readPerson_100 i1 (1 : Int32) w6 else (am_o2 (F_X10_readNumber (0 : Int32) (99 : Int32) w6) fun v8 w8 => J_X10_readPerson_100 i1 v8 w8))) else none)
theorem j_X10_readPerson_73 {E : am_E} {S : am_S} {Q : am_O → am_S → am_I → Prop} (hL : am_Lay S) {i1 k1 k2 : Int32} {iv : am_I} {y : am_I} (e : J_X10_readPerson_73 i1 k1 k2 iv = some y) (h : Q (.inl none) S y) : am_R E 6 mX10_readPerson 0 0 73 [.ref 54, .int i1] [.int k2, .int k1, .ref 65] S iv Q := by
  replace e := am_ckv e; obtain ⟨c5, e⟩ := e
  replace e := am_o2_i e; obtain ⟨v6, w6, e6, e⟩ := e
  refine (sX10_readPerson_73 (hL.1 _ _ rfl) c5 (sX10_readPerson_74 rfl (sX10_readPerson_75 (hL.1 _ _ rfl) (hL.2.1 _ _ _ rfl) (sX10_readPerson_78 (sX10_readPerson_79 rfl (sX10_readPerson_80 (sX10_readPerson_83 (hL.1 _ _ rfl) (Nat.le_of_ble_eq_true rfl) (R_X10_passes hL (by decide) (h := ?_) (hd := (Nat.le_of_ble_eq_true rfl)) (e := e6)))))))))
  refine sX10_readPerson_86 (fun hbr => ?_) (fun hbr => ?_)
  · replace e := am_pos hbr e
    refine (sX10_readPerson_99 ?_)
    exact j_X10_readPerson_100 hL e h
  · replace e := am_neg hbr e
    replace e := am_o2_i e; obtain ⟨v8, w8, e8, e⟩ := e
    refine (sX10_readPerson_89 rfl (sX10_readPerson_90 (sX10_readPerson_91 (sX10_readPerson_93 (hL.1 _ _ rfl) (Nat.le_of_ble_eq_true rfl) (R_X10_readNumber hL (h := (sX10_readPerson_96 ?_)) (hd := (Nat.le_of_ble_eq_true rfl)) (e := e8))))))
    exact j_X10_readPerson_100 hL e h
def J_X10_readPerson_16 (iv : am_I) : Option (am_I) :=
  (if (iv 54 25) = 0 then (am_o1 (F_X10_stepOn  iv) fun w1 => (am_o2 (F_X10_readOne (0 : Int32) w1) fun v2 w2 => (if vp_b ((5 : Int32) + (w1 58 (13 : Int32).toNatClampNeg)) 10 then (am_o2 (F_X10_passes 52  (am_w w2 64 ((5 : Int32) + (w1 58 (13 : Int32).toNatClampNeg)).toNatClampNeg v2)) fun v4 w4 => (if v4 = 0 then J_X10_readPerson_73 ((5 : Int32) + (w1 58 (13 : Int32).toNatClampNeg)) ((5 : Int32) + (w1 58 (13 : Int32).toNatClampNeg)) (-1 : Int32) w4 else (am_o2 (F_X10_readOne (1 : Int32) w4) fun v9 w9 => J_X10_readPerson_73 ((5 : Int32) + (w1 58 (13 : Int32).toNatClampNeg)) ((5 : Int32) + (w1 58 (13 : Int32).toNatClampNeg)) v9 w9))) else none))) else some iv)
theorem j_X10_readPerson_16 {E : am_E} {S : am_S} {Q : am_O → am_S → am_I → Prop} (hL : am_Lay S) {z1 : Value} {iv : am_I} {y : am_I} (e : J_X10_readPerson_16  iv = some y) (h : Q (.inl none) S y) : am_R E 6 mX10_readPerson 0 0 16 [.ref 54, z1] [] S iv Q := by
  refine (sX10_readPerson_16 rfl (sX10_readPerson_17 (hL.1 _ _ rfl) ?_))
  refine sX10_readPerson_20 (fun hbr => ?_) (fun hbr => ?_)
  · replace e := am_pos hbr e
    replace e := am_o1_i e; obtain ⟨w1, e1, e⟩ := e
    replace e := am_o2_i e; obtain ⟨v2, w2, e2, e⟩ := e
    replace e := am_ckv e; obtain ⟨c3, e⟩ := e
    replace e := am_o2_i e; obtain ⟨v4, w4, e4, e⟩ := e
    refine (sX10_readPerson_24 rfl (sX10_readPerson_25 (hL.1 _ _ rfl) (Nat.le_of_ble_eq_true rfl) (R_X10_stepOn hL (h := (sX10_readPerson_28 (sX10_readPerson_29 rfl (sX10_readPerson_30 (hL.1 _ _ rfl) (hL.2.1 _ _ _ rfl) (sX10_readPerson_33 (sX10_readPerson_35 (hL.1 _ _ rfl) (vp_lit (by decide)) (sX10_readPerson_36 (sX10_readPerson_37 (sX10_readPerson_38 rfl (sX10_readPerson_39 (hL.1 _ _ rfl) (hL.2.1 _ _ _ rfl) (sX10_readPerson_42 (sX10_readPerson_43 rfl (sX10_readPerson_44 (sX10_readPerson_45 (hL.1 _ _ rfl) (Nat.le_of_ble_eq_true rfl) (R_X10_readOne hL (h := (sX10_readPerson_48 (hL.1 _ _ rfl) c3 (sX10_readPerson_49 rfl (sX10_readPerson_50 (hL.1 _ _ rfl) (hL.2.1 _ _ _ rfl) (sX10_readPerson_53 (sX10_readPerson_54 rfl (sX10_readPerson_55 (sX10_readPerson_58 (hL.1 _ _ rfl) (Nat.le_of_ble_eq_true rfl) (R_X10_passes hL (by decide) (h := ?_) (hd := (Nat.le_of_ble_eq_true rfl)) (e := e4)))))))))) (hd := (Nat.le_of_ble_eq_true rfl)) (e := e2)))))))))))))))) (hd := (Nat.le_of_ble_eq_true rfl)) (e := e1))))
    refine sX10_readPerson_61 (fun hbr => ?_) (fun hbr => ?_)
    · replace e := am_pos hbr e
      refine (sX10_readPerson_72 ?_)
      exact j_X10_readPerson_73 hL e h
    · replace e := am_neg hbr e
      replace e := am_o2_i e; obtain ⟨v9, w9, e9, e⟩ := e
      refine (sX10_readPerson_64 rfl (sX10_readPerson_65 (sX10_readPerson_66 (hL.1 _ _ rfl) (Nat.le_of_ble_eq_true rfl) (R_X10_readOne hL (h := (sX10_readPerson_69 ?_)) (hd := (Nat.le_of_ble_eq_true rfl)) (e := e9)))))
      exact j_X10_readPerson_73 hL e h
  · replace e := am_neg hbr e
    refine (sX10_readPerson_23 ?_)
    obtain rfl := Option.some.inj e
    exact h
def F_X10_readPerson (iv : am_I) : Option (am_I) :=
  (if (iv 58 (13 : Int32).toNatClampNeg) = (5 : Int32) then (am_o1 (F_X10_wrong (2 : Int32) iv) fun w10 => J_X10_readPerson_16  w10) else J_X10_readPerson_16  iv)
theorem R_X10_readPerson {E : am_E} {S : am_S} {Q : am_O → am_S → am_I → Prop} (hL : am_Lay S) {iv : am_I} {y : am_I} (e : F_X10_readPerson  iv = some y) (h : Q (.inl none) S y) {d : Nat} (hd : 6 ≤ d) : am_M E d mX10_readPerson 0 0 [.ref 54] S iv Q := by
  refine am_enter (js := [.double 0]) rfl pn_X10 rfl rfl rfl (Nat.le_of_ble_eq_true rfl) (am_R.deep ?_ hd)
  refine (sX10_readPerson_0 rfl (sX10_readPerson_1 (hL.1 _ _ rfl) (hL.2.1 _ _ _ rfl) (sX10_readPerson_4 (sX10_readPerson_6 (hL.1 _ _ rfl) (vp_lit (by decide)) (sX10_readPerson_7 ?_)))))
  refine sX10_readPerson_8 (fun hbr => ?_) (fun hbr => ?_)
  · replace e := am_neg hbr e
    exact j_X10_readPerson_16 hL e h
  · replace e := am_pos hbr e
    replace e := am_o1_i e; obtain ⟨w10, e10, e⟩ := e
    refine (sX10_readPerson_11 rfl (sX10_readPerson_12 (sX10_readPerson_13 (hL.1 _ _ rfl) (Nat.le_of_ble_eq_true rfl) (R_X10_wrong hL (h := ?_) (hd := (Nat.le_of_ble_eq_true rfl)) (e := e10)))))
    exact j_X10_readPerson_16 hL e h
def J_X10_readRule_16 (iv : am_I) : Option (am_I) :=
  (if (iv 54 25) = 0 then (am_o1 (F_X10_stepOn  iv) fun w1 => (if vp_b ((4 : Int32) + (w1 58 (15 : Int32).toNatClampNeg)) 8 then (am_o1 (F_X10_readExpression 10 (0 : Int32) (am_w w1 67 ((4 : Int32) + (w1 58 (15 : Int32).toNatClampNeg)).toNatClampNeg (w1 54 28))) fun w3 => (if vp_b ((4 : Int32) + (w1 58 (15 : Int32).toNatClampNeg)) 8 then some (am_w (am_w w3 68 ((4 : Int32) + (w1 58 (15 : Int32).toNatClampNeg)).toNatClampNeg (w3 54 28)) 58 (15 : Int32).toNatClampNeg (((am_w w3 68 ((4 : Int32) + (w1 58 (15 : Int32).toNatClampNeg)).toNatClampNeg (w3 54 28)) 58 (15 : Int32).toNatClampNeg) + (1 : Int32))) else none)) else none)) else some iv)
theorem j_X10_readRule_16 {E : am_E} {S : am_S} {Q : am_O → am_S → am_I → Prop} (hL : am_Lay S) {z1 : Value} {iv : am_I} {y : am_I} (e : J_X10_readRule_16  iv = some y) (h : Q (.inl none) S y) : am_R E 121 mX10_readRule 0 0 16 [.ref 54, z1] [] S iv Q := by
  refine (sX10_readRule_16 rfl (sX10_readRule_17 (hL.1 _ _ rfl) ?_))
  refine sX10_readRule_20 (fun hbr => ?_) (fun hbr => ?_)
  · replace e := am_pos hbr e
    replace e := am_o1_i e; obtain ⟨w1, e1, e⟩ := e
    replace e := am_ckv e; obtain ⟨c2, e⟩ := e
    replace e := am_o1_i e; obtain ⟨w3, e3, e⟩ := e
    replace e := am_ckv e; obtain ⟨c4, e⟩ := e
    refine (sX10_readRule_24 rfl (sX10_readRule_25 (hL.1 _ _ rfl) (Nat.le_of_ble_eq_true rfl) (R_X10_stepOn hL (h := (sX10_readRule_28 (sX10_readRule_29 rfl (sX10_readRule_30 (hL.1 _ _ rfl) (hL.2.1 _ _ _ rfl) (sX10_readRule_33 (sX10_readRule_35 (hL.1 _ _ rfl) (vp_lit (by decide)) (sX10_readRule_36 (sX10_readRule_37 (sX10_readRule_38 rfl (sX10_readRule_39 (hL.1 _ _ rfl) (hL.2.1 _ _ _ rfl) (sX10_readRule_42 (sX10_readRule_43 rfl (sX10_readRule_44 (hL.1 _ _ rfl) (sX10_readRule_47 (hL.1 _ _ rfl) c2 (sX10_readRule_48 rfl (sX10_readRule_49 (sX10_readRule_50 (hL.1 _ _ rfl) (Nat.le_of_ble_eq_true rfl) (R_X10_readExpression hL (h := (sX10_readRule_53 rfl (sX10_readRule_54 (hL.1 _ _ rfl) (hL.2.1 _ _ _ rfl) (sX10_readRule_57 (sX10_readRule_58 rfl (sX10_readRule_59 (hL.1 _ _ rfl) (sX10_readRule_62 (hL.1 _ _ rfl) c4 (sX10_readRule_63 rfl (sX10_readRule_64 (hL.1 _ _ rfl) (hL.2.1 _ _ _ rfl) (sX10_readRule_67 (sX10_readRule_69 rfl rfl (sX10_readRule_70 (hL.1 _ _ rfl) (vp_lit (by decide)) (sX10_readRule_71 (sX10_readRule_72 (sX10_readRule_73 (hL.1 _ _ rfl) (vp_lit (by decide)) (sX10_readRule_74 ?_)))))))))))))))) (hd := (Nat.le_of_ble_eq_true rfl)) (e := e3))))))))))))))))))) (hd := (Nat.le_of_ble_eq_true rfl)) (e := e1))))
    obtain rfl := Option.some.inj e
    exact h
  · replace e := am_neg hbr e
    refine (sX10_readRule_23 ?_)
    obtain rfl := Option.some.inj e
    exact h
def F_X10_readRule (iv : am_I) : Option (am_I) :=
  (if (iv 58 (15 : Int32).toNatClampNeg) = (4 : Int32) then (am_o1 (F_X10_wrong (2 : Int32) iv) fun w5 => J_X10_readRule_16  w5) else J_X10_readRule_16  iv)
theorem R_X10_readRule {E : am_E} {S : am_S} {Q : am_O → am_S → am_I → Prop} (hL : am_Lay S) {iv : am_I} {y : am_I} (e : F_X10_readRule  iv = some y) (h : Q (.inl none) S y) {d : Nat} (hd : 121 ≤ d) : am_M E d mX10_readRule 0 0 [.ref 54] S iv Q := by
  refine am_enter (js := [.double 0]) rfl pn_X10 rfl rfl rfl (Nat.le_of_ble_eq_true rfl) (am_R.deep ?_ hd)
  refine (sX10_readRule_0 rfl (sX10_readRule_1 (hL.1 _ _ rfl) (hL.2.1 _ _ _ rfl) (sX10_readRule_4 (sX10_readRule_6 (hL.1 _ _ rfl) (vp_lit (by decide)) (sX10_readRule_7 ?_)))))
  refine sX10_readRule_8 (fun hbr => ?_) (fun hbr => ?_)
  · replace e := am_neg hbr e
    exact j_X10_readRule_16 hL e h
  · replace e := am_pos hbr e
    replace e := am_o1_i e; obtain ⟨w5, e5, e⟩ := e
    refine (sX10_readRule_11 rfl (sX10_readRule_12 (sX10_readRule_13 (hL.1 _ _ rfl) (Nat.le_of_ble_eq_true rfl) (R_X10_wrong hL (h := ?_) (hd := (Nat.le_of_ble_eq_true rfl)) (e := e5)))))
    exact j_X10_readRule_16 hL e h
def B_X10_readOnce_51 (i2 : Int32) (iv : am_I) : Option ((Int32 × am_I) ⊕ (am_I)) :=
  (if (19 : Int32) ≤ i2 then some (.inr iv) else (am_o2 (F_X10_readNumber (0 : Int32) (99 : Int32) iv) fun v2 w2 => (if vp_b i2 20 then some (.inl ((i2 + 1), (am_w w2 58 i2.toNatClampNeg v2))) else none)))
theorem b_X10_readOnce_51 {E : am_E} {S : am_S} {Q : am_O → am_S → am_I → Prop} (hL : am_Lay S) {z1 : Value} {i2 : Int32} {iv : am_I} {y : (Int32 × am_I) ⊕ (am_I)} (e : B_X10_readOnce_51 i2 iv = some y) (hc : ∀ s, y = .inl s → ∀ z1 : Value, am_R E 3 mX10_readOnce 0 0 51 [.ref 54, z1, .int s.1] [] S s.2 Q) (hx : ∀ a, y = .inr a → ∀ z0 z1 z2 : Value, am_R E 3 mX10_readOnce 0 0 76 [z0, z1, z2] [] S a Q) : am_R E 3 mX10_readOnce 0 0 51 [.ref 54, z1, .int i2] [] S iv Q := by
  refine (sX10_readOnce_51 (sX10_readOnce_52 ?_))
  refine sX10_readOnce_54 (fun hbr => ?_) (fun hbr => ?_)
  · replace e := am_pos hbr e
    exact hx _ (Option.some.inj e).symm _ _ _
  · replace e := am_neg hbr e
    replace e := am_o2_i e; obtain ⟨v2, w2, e2, e⟩ := e
    replace e := am_ckv e; obtain ⟨c3, e⟩ := e
    refine (sX10_readOnce_57 rfl (sX10_readOnce_58 (hL.1 _ _ rfl) (hL.2.1 _ _ _ rfl) (sX10_readOnce_61 (sX10_readOnce_62 rfl (sX10_readOnce_63 (sX10_readOnce_64 (sX10_readOnce_66 (hL.1 _ _ rfl) (Nat.le_of_ble_eq_true rfl) (R_X10_readNumber hL (h := (sX10_readOnce_69 (hL.1 _ _ rfl) c3 (sX10_readOnce_70 (sX10_readOnce_73 ?_)))) (hd := (Nat.le_of_ble_eq_true rfl)) (e := e2)))))))))
    exact hc _ (Option.some.inj e).symm _
theorem l_X10_readOnce_51 {E : am_E} {S : am_S} {Q : am_O → am_S → am_I → Prop} (hL : am_Lay S) (s : (Int32 × am_I)) {x : (am_I)} (e : am_loop (fun s : (Int32 × am_I) => B_X10_readOnce_51 s.1 s.2) s = some x) (hx : ∀ z0 z1 z2 : Value, am_R E 3 mX10_readOnce 0 0 76 [z0, z1, z2] [] S x Q) : ∀ z1 : Value, am_R E 3 mX10_readOnce 0 0 51 [.ref 54, z1, .int s.1] [] S s.2 Q :=
  am_wh_sound (f := fun s : (Int32 × am_I) => B_X10_readOnce_51 s.1 s.2) (P := fun s => ∀ z1 : Value, am_R E 3 mX10_readOnce 0 0 51 [.ref 54, z1, .int s.1] [] S s.2 Q) (K := fun x => ∀ z0 z1 z2 : Value, am_R E 3 mX10_readOnce 0 0 76 [z0, z1, z2] [] S x Q) (fun s y e hc hkk => fun z1 => b_X10_readOnce_51 hL e hc (fun a hy => hkk a hy)) am_fu s x e hx
def F_X10_readOnce (i1 : Int32) (iv : am_I) : Option (am_I) :=
  (am_o1 (F_X10_stepOn  iv) fun w1 => (if i1 = 0 then (am_o2 (F_X10_readNumber (1 : Int32) (9 : Int32) w1) fun v6 w6 => some (am_w w6 58 (14 : Int32).toNatClampNeg v6)) else (if i1 = (2 : Int32) then (am_o2 (F_X10_readNumber (0 : Int32) (1000 : Int32) w1) fun v5 w5 => some (am_w w5 58 (19 : Int32).toNatClampNeg v5)) else (am_o1 (am_loop (fun s : (Int32 × am_I) => B_X10_readOnce_51 s.1 s.2) ((16 : Int32), w1)) fun a4 => some a4))))
theorem R_X10_readOnce {E : am_E} {S : am_S} {Q : am_O → am_S → am_I → Prop} (hL : am_Lay S) {i1 : Int32} {iv : am_I} {y : am_I} (e : F_X10_readOnce i1 iv = some y) (h : Q (.inl none) S y) {d : Nat} (hd : 3 ≤ d) : am_M E d mX10_readOnce 0 0 [.ref 54, .int i1] S iv Q := by
  refine am_enter (js := [.double 0]) rfl pn_X10 rfl rfl rfl (Nat.le_of_ble_eq_true rfl) (am_R.deep ?_ hd)
  replace e := am_o1_i e; obtain ⟨w1, e1, e⟩ := e
  refine (sX10_readOnce_0 rfl (sX10_readOnce_1 (hL.1 _ _ rfl) (Nat.le_of_ble_eq_true rfl) (R_X10_stepOn hL (h := (sX10_readOnce_4 ?_)) (hd := (Nat.le_of_ble_eq_true rfl)) (e := e1))))
  refine sX10_readOnce_5 (fun hbr => ?_) (fun hbr => ?_)
  · replace e := am_neg hbr e
    refine (sX10_readOnce_25 (sX10_readOnce_26 ?_))
    refine sX10_readOnce_27 (fun hbr => ?_) (fun hbr => ?_)
    · replace e := am_neg hbr e
      refine (sX10_readOnce_48 (sX10_readOnce_50 ?_))
      replace e := am_o1_i e; obtain ⟨a4, e4, e⟩ := e
      refine l_X10_readOnce_51 hL _ e4 ?_ _
      intro z0 z1 z2
      refine (sX10_readOnce_76 ?_)
      obtain rfl := Option.some.inj e
      exact h
    · replace e := am_pos hbr e
      replace e := am_o2_i e; obtain ⟨v5, w5, e5, e⟩ := e
      refine (sX10_readOnce_30 rfl (sX10_readOnce_31 (hL.1 _ _ rfl) (hL.2.1 _ _ _ rfl) (sX10_readOnce_34 (sX10_readOnce_36 rfl (sX10_readOnce_37 (sX10_readOnce_38 (sX10_readOnce_41 (hL.1 _ _ rfl) (Nat.le_of_ble_eq_true rfl) (R_X10_readNumber hL (h := (sX10_readOnce_44 (hL.1 _ _ rfl) (vp_lit (by decide)) (sX10_readOnce_45 (sX10_readOnce_76 ?_)))) (hd := (Nat.le_of_ble_eq_true rfl)) (e := e5)))))))))
      obtain rfl := Option.some.inj e
      exact h
  · replace e := am_pos hbr e
    replace e := am_o2_i e; obtain ⟨v6, w6, e6, e⟩ := e
    refine (sX10_readOnce_8 rfl (sX10_readOnce_9 (hL.1 _ _ rfl) (hL.2.1 _ _ _ rfl) (sX10_readOnce_12 (sX10_readOnce_14 rfl (sX10_readOnce_15 (sX10_readOnce_16 (sX10_readOnce_18 (hL.1 _ _ rfl) (Nat.le_of_ble_eq_true rfl) (R_X10_readNumber hL (h := (sX10_readOnce_21 (hL.1 _ _ rfl) (vp_lit (by decide)) (sX10_readOnce_22 (sX10_readOnce_76 ?_)))) (hd := (Nat.le_of_ble_eq_true rfl)) (e := e6)))))))))
    obtain rfl := Option.some.inj e
    exact h
def J_X10_readLine_196 (i1 : Int32) (i4 : Int32) (iv : am_I) : Option (Int32 × am_I) :=
  (am_o1 (F_X10_mark (59 : Int32) iv) fun w8 => some ((i1 ||| i4), w8))
theorem j_X10_readLine_196 {E : am_E} {S : am_S} {Q : am_O → am_S → am_I → Prop} (hL : am_Lay S) {z2 z3 : Value} {i1 i4 : Int32} {iv : am_I} {y : Int32 × am_I} (e : J_X10_readLine_196 i1 i4 iv = some y) (h : Q (.inl (some (.int y.1))) S y.2) : am_R E 122 mX10_readLine 0 0 196 [.ref 54, .int i1, z2, z3, .int i4] [] S iv Q := by
  replace e := am_o1_i e; obtain ⟨w8, e8, e⟩ := e
  refine (sX10_readLine_196 rfl (sX10_readLine_197 (sX10_readLine_199 (hL.1 _ _ rfl) (Nat.le_of_ble_eq_true rfl) (R_X10_mark hL (h := (sX10_readLine_202 (sX10_readLine_203 (sX10_readLine_205 (sX10_readLine_206 ?_))))) (hd := (Nat.le_of_ble_eq_true rfl)) (e := e8)))))
  obtain rfl := Option.some.inj e
  exact h
def J_X10_readLine_168 (i1 : Int32) (i4 : Int32) (iv : am_I) : Option (Int32 × am_I) :=
  (am_o2 (F_X10_readNumber (1 : Int32) (6 : Int32) iv) fun v6 w6 => (am_o2 (F_X10_readNumber (1 : Int32) (9 : Int32) (am_w w6 58 (10 : Int32).toNatClampNeg v6)) fun v7 w7 => J_X10_readLine_196 i1 i4 (am_w w7 58 (11 : Int32).toNatClampNeg v7)))
theorem j_X10_readLine_168 {E : am_E} {S : am_S} {Q : am_O → am_S → am_I → Prop} (hL : am_Lay S) {z2 z3 : Value} {i1 i4 : Int32} {iv : am_I} {y : Int32 × am_I} (e : J_X10_readLine_168 i1 i4 iv = some y) (h : Q (.inl (some (.int y.1))) S y.2) : am_R E 122 mX10_readLine 0 0 168 [.ref 54, .int i1, z2, z3, .int i4] [] S iv Q := by
  replace e := am_o2_i e; obtain ⟨v6, w6, e6, e⟩ := e
  replace e := am_o2_i e; obtain ⟨v7, w7, e7, e⟩ := e
  refine (sX10_readLine_168 rfl (sX10_readLine_169 (hL.1 _ _ rfl) (hL.2.1 _ _ _ rfl) (sX10_readLine_172 (sX10_readLine_174 rfl (sX10_readLine_175 (sX10_readLine_176 (sX10_readLine_178 (hL.1 _ _ rfl) (Nat.le_of_ble_eq_true rfl) (R_X10_readNumber hL (h := (sX10_readLine_181 (hL.1 _ _ rfl) (vp_lit (by decide)) (sX10_readLine_182 rfl (sX10_readLine_183 (hL.1 _ _ rfl) (hL.2.1 _ _ _ rfl) (sX10_readLine_186 (sX10_readLine_188 rfl (sX10_readLine_189 (sX10_readLine_190 (sX10_readLine_192 (hL.1 _ _ rfl) (Nat.le_of_ble_eq_true rfl) (R_X10_readNumber hL (h := (sX10_readLine_195 (hL.1 _ _ rfl) (vp_lit (by decide)) ?_)) (hd := (Nat.le_of_ble_eq_true rfl)) (e := e7))))))))))) (hd := (Nat.le_of_ble_eq_true rfl)) (e := e6)))))))))
  exact j_X10_readLine_196 hL e h
def J_X10_readLine_157 (i1 : Int32) (i4 : Int32) (iv : am_I) : Option (Int32 × am_I) :=
  (if (iv 54 25) = 0 then (am_o1 (F_X10_stepOn  iv) fun w9 => J_X10_readLine_168 i1 i4 w9) else J_X10_readLine_168 i1 i4 iv)
theorem j_X10_readLine_157 {E : am_E} {S : am_S} {Q : am_O → am_S → am_I → Prop} (hL : am_Lay S) {z2 z3 : Value} {i1 i4 : Int32} {iv : am_I} {y : Int32 × am_I} (e : J_X10_readLine_157 i1 i4 iv = some y) (h : Q (.inl (some (.int y.1))) S y.2) : am_R E 122 mX10_readLine 0 0 157 [.ref 54, .int i1, z2, z3, .int i4] [] S iv Q := by
  refine (sX10_readLine_157 rfl (sX10_readLine_158 (hL.1 _ _ rfl) ?_))
  refine sX10_readLine_161 (fun hbr => ?_) (fun hbr => ?_)
  · replace e := am_neg hbr e
    exact j_X10_readLine_168 hL e h
  · replace e := am_pos hbr e
    replace e := am_o1_i e; obtain ⟨w9, e9, e⟩ := e
    refine (sX10_readLine_164 rfl (sX10_readLine_165 (hL.1 _ _ rfl) (Nat.le_of_ble_eq_true rfl) (R_X10_stepOn hL (h := ?_) (hd := (Nat.le_of_ble_eq_true rfl)) (e := e9))))
    exact j_X10_readLine_168 hL e h
def J_X10_readLine_145 (i1 : Int32) (i4 : Int32) (iv : am_I) : Option (Int32 × am_I) :=
  (if i4 = (16 : Int32) then J_X10_readLine_157 i1 i4 iv else (am_o1 (F_X10_wrong (1 : Int32) iv) fun w10 => J_X10_readLine_157 i1 i4 w10))
theorem j_X10_readLine_145 {E : am_E} {S : am_S} {Q : am_O → am_S → am_I → Prop} (hL : am_Lay S) {z2 z3 : Value} {i1 i4 : Int32} {iv : am_I} {y : Int32 × am_I} (e : J_X10_readLine_145 i1 i4 iv = some y) (h : Q (.inl (some (.int y.1))) S y.2) : am_R E 122 mX10_readLine 0 0 145 [.ref 54, .int i1, z2, z3, .int i4] [] S iv Q := by
  refine (sX10_readLine_145 (sX10_readLine_147 ?_))
  refine sX10_readLine_149 (fun hbr => ?_) (fun hbr => ?_)
  · replace e := am_pos hbr e
    exact j_X10_readLine_157 hL e h
  · replace e := am_neg hbr e
    replace e := am_o1_i e; obtain ⟨w10, e10, e⟩ := e
    refine (sX10_readLine_152 rfl (sX10_readLine_153 (sX10_readLine_154 (hL.1 _ _ rfl) (Nat.le_of_ble_eq_true rfl) (R_X10_wrong hL (h := ?_) (hd := (Nat.le_of_ble_eq_true rfl)) (e := e10)))))
    exact j_X10_readLine_157 hL e h
def J_X10_readLine_78 (i1 : Int32) (i2 : Int32) (i3 : Int32) (i4 : Int32) (iv : am_I) : Option (Int32 × am_I) :=
  (if i2 = (-1 : Int32) then (am_o1 (F_X10_is 51  iv) fun v4 => (if v4 = 0 then (am_o1 (F_X10_is 54  iv) fun v5 => (if v5 = 0 then (if i3 = (-1 : Int32) then J_X10_readLine_145 i1 i4 iv else (if (iv 54 25) = 0 then (am_o1 (F_X10_readOnce i3 iv) fun w11 => J_X10_readLine_196 i1 i4 w11) else J_X10_readLine_145 i1 i4 iv)) else (am_o1 (F_X10_readRule  iv) fun w12 => J_X10_readLine_196 i1 i4 w12))) else (am_o1 (F_X10_readPerson  iv) fun w13 => J_X10_readLine_196 i1 i4 w13))) else (am_o1 (F_X10_readDrawer i2 iv) fun w14 => J_X10_readLine_196 i1 i4 w14))
theorem j_X10_readLine_78 {E : am_E} {S : am_S} {Q : am_O → am_S → am_I → Prop} (hL : am_Lay S) {i1 i2 i3 i4 : Int32} {iv : am_I} {y : Int32 × am_I} (e : J_X10_readLine_78 i1 i2 i3 i4 iv = some y) (h : Q (.inl (some (.int y.1))) S y.2) : am_R E 122 mX10_readLine 0 0 78 [.ref 54, .int i1, .int i2, .int i3, .int i4] [] S iv Q := by
  refine (sX10_readLine_78 (sX10_readLine_79 ?_))
  refine sX10_readLine_80 (fun hbr => ?_) (fun hbr => ?_)
  · replace e := am_pos hbr e
    replace e := am_o1_i e; obtain ⟨v4, e4, e⟩ := e
    refine (sX10_readLine_91 rfl (sX10_readLine_92 (sX10_readLine_95 (hL.1 _ _ rfl) (Nat.le_of_ble_eq_true rfl) (R_X10_is hL (by decide) (h := ?_) (hd := (Nat.le_of_ble_eq_true rfl)) (e := e4)))))
    refine sX10_readLine_98 (fun hbr => ?_) (fun hbr => ?_)
    · replace e := am_pos hbr e
      replace e := am_o1_i e; obtain ⟨v5, e5, e⟩ := e
      refine (sX10_readLine_108 rfl (sX10_readLine_109 (sX10_readLine_112 (hL.1 _ _ rfl) (Nat.le_of_ble_eq_true rfl) (R_X10_is hL (by decide) (h := ?_) (hd := (Nat.le_of_ble_eq_true rfl)) (e := e5)))))
      refine sX10_readLine_115 (fun hbr => ?_) (fun hbr => ?_)
      · replace e := am_pos hbr e
        refine (sX10_readLine_125 (sX10_readLine_126 ?_))
        refine sX10_readLine_127 (fun hbr => ?_) (fun hbr => ?_)
        · replace e := am_pos hbr e
          exact j_X10_readLine_145 hL e h
        · replace e := am_neg hbr e
          refine (sX10_readLine_130 rfl (sX10_readLine_131 (hL.1 _ _ rfl) ?_))
          refine sX10_readLine_134 (fun hbr => ?_) (fun hbr => ?_)
          · replace e := am_neg hbr e
            exact j_X10_readLine_145 hL e h
          · replace e := am_pos hbr e
            replace e := am_o1_i e; obtain ⟨w11, e11, e⟩ := e
            refine (sX10_readLine_137 rfl (sX10_readLine_138 (sX10_readLine_139 (hL.1 _ _ rfl) (Nat.le_of_ble_eq_true rfl) (R_X10_readOnce hL (h := (sX10_readLine_142 ?_)) (hd := (Nat.le_of_ble_eq_true rfl)) (e := e11)))))
            exact j_X10_readLine_196 hL e h
      · replace e := am_neg hbr e
        replace e := am_o1_i e; obtain ⟨w12, e12, e⟩ := e
        refine (sX10_readLine_118 rfl (sX10_readLine_119 (hL.1 _ _ rfl) (Nat.le_of_ble_eq_true rfl) (R_X10_readRule hL (h := (sX10_readLine_122 ?_)) (hd := (Nat.le_of_ble_eq_true rfl)) (e := e12))))
        exact j_X10_readLine_196 hL e h
    · replace e := am_neg hbr e
      replace e := am_o1_i e; obtain ⟨w13, e13, e⟩ := e
      refine (sX10_readLine_101 rfl (sX10_readLine_102 (hL.1 _ _ rfl) (Nat.le_of_ble_eq_true rfl) (R_X10_readPerson hL (h := (sX10_readLine_105 ?_)) (hd := (Nat.le_of_ble_eq_true rfl)) (e := e13))))
      exact j_X10_readLine_196 hL e h
  · replace e := am_neg hbr e
    replace e := am_o1_i e; obtain ⟨w14, e14, e⟩ := e
    refine (sX10_readLine_83 rfl (sX10_readLine_84 (sX10_readLine_85 (hL.1 _ _ rfl) (Nat.le_of_ble_eq_true rfl) (R_X10_readDrawer hL (h := (sX10_readLine_88 ?_)) (hd := (Nat.le_of_ble_eq_true rfl)) (e := e14)))))
    exact j_X10_readLine_196 hL e h
def J_X10_readLine_73 (i1 : Int32) (i2 : Int32) (i3 : Int32) (i4 : Int32) (iv : am_I) : Option (Int32 × am_I) :=
  (am_o1 (F_X10_wrong (4 : Int32) iv) fun w15 => J_X10_readLine_78 i1 i2 i3 i4 w15)
theorem j_X10_readLine_73 {E : am_E} {S : am_S} {Q : am_O → am_S → am_I → Prop} (hL : am_Lay S) {i1 i2 i3 i4 : Int32} {iv : am_I} {y : Int32 × am_I} (e : J_X10_readLine_73 i1 i2 i3 i4 iv = some y) (h : Q (.inl (some (.int y.1))) S y.2) : am_R E 122 mX10_readLine 0 0 73 [.ref 54, .int i1, .int i2, .int i3, .int i4] [] S iv Q := by
  replace e := am_o1_i e; obtain ⟨w15, e15, e⟩ := e
  refine (sX10_readLine_73 rfl (sX10_readLine_74 (sX10_readLine_75 (hL.1 _ _ rfl) (Nat.le_of_ble_eq_true rfl) (R_X10_wrong hL (h := ?_) (hd := (Nat.le_of_ble_eq_true rfl)) (e := e15)))))
  exact j_X10_readLine_78 hL e h
def J_X10_readLine_59 (i1 : Int32) (i2 : Int32) (i3 : Int32) (i4 : Int32) (iv : am_I) : Option (Int32 × am_I) :=
  (if (16 : Int32) ≤ i4 then J_X10_readLine_78 i1 i2 i3 i4 iv else (if (i1 &&& i4) = 0 then J_X10_readLine_78 i1 i2 i3 i4 iv else J_X10_readLine_73 i1 i2 i3 i4 iv))
theorem j_X10_readLine_59 {E : am_E} {S : am_S} {Q : am_O → am_S → am_I → Prop} (hL : am_Lay S) {i1 i2 i3 i4 : Int32} {iv : am_I} {y : Int32 × am_I} (e : J_X10_readLine_59 i1 i2 i3 i4 iv = some y) (h : Q (.inl (some (.int y.1))) S y.2) : am_R E 122 mX10_readLine 0 0 59 [.ref 54, .int i1, .int i2, .int i3, .int i4] [] S iv Q := by
  refine (sX10_readLine_59 (sX10_readLine_61 ?_))
  refine sX10_readLine_63 (fun hbr => ?_) (fun hbr => ?_)
  · replace e := am_pos hbr e
    exact j_X10_readLine_78 hL e h
  · replace e := am_neg hbr e
    refine (sX10_readLine_66 (sX10_readLine_67 (sX10_readLine_69 ?_)))
    refine sX10_readLine_70 (fun hbr => ?_) (fun hbr => ?_)
    · replace e := am_pos hbr e
      exact j_X10_readLine_78 hL e h
    · replace e := am_neg hbr e
      exact j_X10_readLine_73 hL e h
def J_X10_readLine_46 (i1 : Int32) (i2 : Int32) (i3 : Int32) (k0 : Int32) (iv : am_I) : Option (Int32 × am_I) :=
  (if k0 = (16 : Int32) then (if i1 = 0 then J_X10_readLine_59 i1 i2 i3 k0 iv else J_X10_readLine_73 i1 i2 i3 k0 iv) else J_X10_readLine_59 i1 i2 i3 k0 iv)
theorem j_X10_readLine_46 {E : am_E} {S : am_S} {Q : am_O → am_S → am_I → Prop} (hL : am_Lay S) {z4 : Value} {i1 i2 i3 k0 : Int32} {iv : am_I} {y : Int32 × am_I} (e : J_X10_readLine_46 i1 i2 i3 k0 iv = some y) (h : Q (.inl (some (.int y.1))) S y.2) : am_R E 122 mX10_readLine 0 0 46 [.ref 54, .int i1, .int i2, .int i3, z4] [.int k0] S iv Q := by
  refine (sX10_readLine_46 (sX10_readLine_48 (sX10_readLine_50 ?_)))
  refine sX10_readLine_52 (fun hbr => ?_) (fun hbr => ?_)
  · replace e := am_neg hbr e
    exact j_X10_readLine_59 hL e h
  · replace e := am_pos hbr e
    refine (sX10_readLine_55 ?_)
    refine sX10_readLine_56 (fun hbr => ?_) (fun hbr => ?_)
    · replace e := am_neg hbr e
      exact j_X10_readLine_73 hL e h
    · replace e := am_pos hbr e
      exact j_X10_readLine_59 hL e h
def F_X10_readLine (i1 : Int32) (iv : am_I) : Option (Int32 × am_I) :=
  (am_o1 (F_X10_which 55 4  iv) fun v1 => (am_o1 (F_X10_which 56 3  iv) fun v2 => (am_o1 (F_X10_is 49  iv) fun v3 => (if v3 = 0 then (if v2 = (-1 : Int32) then J_X10_readLine_46 i1 v1 v2 (32 : Int32) iv else J_X10_readLine_46 i1 v1 v2 ((1 : Int32) <<< (v2 &&& 31)) iv) else J_X10_readLine_46 i1 v1 v2 (16 : Int32) iv))))
theorem YR_X10_readLine {E : am_E} {S : am_S} {Q : am_O → am_S → am_I → Prop} (hL : am_Lay S) {i1 : Int32} {iv : am_I} {y : Int32 × am_I} (e : F_X10_readLine i1 iv = some y) (h : Q (.inl (some (.int y.1))) S y.2) {d : Nat} (hd : 122 ≤ d) : am_M E d mX10_readLine 0 0 [.ref 54, .int i1] S iv Q := by
  refine am_enter (js := [.double 0, .double 0, .double 0]) rfl pn_X10 rfl rfl rfl (Nat.le_of_ble_eq_true rfl) (am_R.deep ?_ hd)
  replace e := am_o1_i e; obtain ⟨v1, e1, e⟩ := e
  replace e := am_o1_i e; obtain ⟨v2, e2, e⟩ := e
  replace e := am_o1_i e; obtain ⟨v3, e3, e⟩ := e
  refine (sX10_readLine_0 rfl (sX10_readLine_1 rfl (sX10_readLine_2 (hL.1 _ _ rfl) (hL.2.1 _ _ _ rfl) (sX10_readLine_5 (hL.1 _ _ rfl) (Nat.le_of_ble_eq_true rfl) (R_X10_which hL (hL.1 _ _ rfl) (by decide) (h := (sX10_readLine_8 (sX10_readLine_9 rfl (sX10_readLine_10 rfl (sX10_readLine_11 (hL.1 _ _ rfl) (hL.2.1 _ _ _ rfl) (sX10_readLine_14 (hL.1 _ _ rfl) (Nat.le_of_ble_eq_true rfl) (R_X10_which hL (hL.1 _ _ rfl) (by decide) (h := (sX10_readLine_17 (sX10_readLine_18 rfl (sX10_readLine_19 (sX10_readLine_22 (hL.1 _ _ rfl) (Nat.le_of_ble_eq_true rfl) (R_X10_is hL (by decide) (h := ?_) (hd := (Nat.le_of_ble_eq_true rfl)) (e := e3))))))) (hd := (Nat.le_of_ble_eq_true rfl)) (e := e2)))))))) (hd := (Nat.le_of_ble_eq_true rfl)) (e := e1))))))
  refine sX10_readLine_25 (fun hbr => ?_) (fun hbr => ?_)
  · replace e := am_pos hbr e
    refine (sX10_readLine_33 (sX10_readLine_34 ?_))
    refine sX10_readLine_35 (fun hbr => ?_) (fun hbr => ?_)
    · replace e := am_neg hbr e
      refine (sX10_readLine_43 (sX10_readLine_44 (sX10_readLine_45 ?_)))
      exact j_X10_readLine_46 hL e h
    · replace e := am_pos hbr e
      refine (sX10_readLine_38 (sX10_readLine_40 ?_))
      exact j_X10_readLine_46 hL e h
  · replace e := am_neg hbr e
    refine (sX10_readLine_28 (sX10_readLine_30 ?_))
    exact j_X10_readLine_46 hL e h
theorem R_X10_readLine {E : am_E} {S : am_S} {Q : am_O → am_S → am_I → Prop} (hL : am_Lay S) {i1 : Int32} {iv : am_I} {v' : Int32} {iv' : am_I} (e : F_X10_readLine i1 iv = some (v', iv')) (h : Q (.inl (some (.int v'))) S iv') {d : Nat} (hd : 122 ≤ d) : am_M E d mX10_readLine 0 0 [.ref 54, .int i1] S iv Q :=
  YR_X10_readLine hL e h hd
def B_X10_takeHalf_2 (aa : Nat) (m : Nat) (i1 : Int32) (iv : am_I) : Option ((Int32 × am_I) ⊕ (am_I)) :=
  (if ((Int32.ofNat m) / (2 : Int32)) ≤ i1 then some (.inr iv) else (if vp_b (((Int32.ofNat m) / (2 : Int32)) + i1) m then (if vp_b i1 m then some (.inl ((i1 + 1), (am_w iv aa i1.toNatClampNeg (iv aa (((Int32.ofNat m) / (2 : Int32)) + i1).toNatClampNeg)))) else none) else none))
theorem b_X10_takeHalf_2 {E : am_E} {S : am_S} {Q : am_O → am_S → am_I → Prop} {aa : Nat} {m : Nat} (ha : S.1 aa = some (.inr (.int, m))) {i1 : Int32} {iv : am_I} {y : (Int32 × am_I) ⊕ (am_I)} (e : B_X10_takeHalf_2 aa m i1 iv = some y) (hc : ∀ s, y = .inl s → am_R E 0 mX10_takeHalf 0 0 2 [.ref aa, .int s.1] [] S s.2 Q) (hx : ∀ a, y = .inr a → ∀ z0 z1 : Value, am_R E 0 mX10_takeHalf 0 0 27 [z0, z1] [] S a Q) : am_R E 0 mX10_takeHalf 0 0 2 [.ref aa, .int i1] [] S iv Q := by
  refine (sX10_takeHalf_2 (sX10_takeHalf_3 rfl (sX10_takeHalf_4 ha rfl (sX10_takeHalf_5 (sX10_takeHalf_6 (by decide) ?_)))))
  refine sX10_takeHalf_7 (fun hbr => ?_) (fun hbr => ?_)
  · replace e := am_pos hbr e
    exact hx _ (Option.some.inj e).symm _ _
  · replace e := am_neg hbr e
    replace e := am_ckv e; obtain ⟨c1, e⟩ := e
    replace e := am_ckv e; obtain ⟨c2, e⟩ := e
    refine (sX10_takeHalf_10 rfl (sX10_takeHalf_11 (sX10_takeHalf_12 rfl (sX10_takeHalf_13 rfl (sX10_takeHalf_14 ha rfl (sX10_takeHalf_15 (sX10_takeHalf_16 (by decide) (sX10_takeHalf_17 (sX10_takeHalf_18 (sX10_takeHalf_19 ha c1 (sX10_takeHalf_20 ha c2 (sX10_takeHalf_21 (sX10_takeHalf_24 ?_)))))))))))))
    exact hc _ (Option.some.inj e).symm
theorem l_X10_takeHalf_2 {E : am_E} {S : am_S} {Q : am_O → am_S → am_I → Prop} {aa : Nat} {m : Nat} (ha : S.1 aa = some (.inr (.int, m))) (s : (Int32 × am_I)) {x : (am_I)} (e : am_loop (fun s : (Int32 × am_I) => B_X10_takeHalf_2 aa m s.1 s.2) s = some x) (hx : ∀ z0 z1 : Value, am_R E 0 mX10_takeHalf 0 0 27 [z0, z1] [] S x Q) : am_R E 0 mX10_takeHalf 0 0 2 [.ref aa, .int s.1] [] S s.2 Q :=
  am_wh_sound (f := fun s : (Int32 × am_I) => B_X10_takeHalf_2 aa m s.1 s.2) (P := fun s => am_R E 0 mX10_takeHalf 0 0 2 [.ref aa, .int s.1] [] S s.2 Q) (K := fun x => ∀ z0 z1 : Value, am_R E 0 mX10_takeHalf 0 0 27 [z0, z1] [] S x Q) (fun s y e hc hkk => b_X10_takeHalf_2 ha e hc (fun a hy => hkk a hy)) am_fu s x e hx
def F_X10_takeHalf (aa : Nat) (m : Nat) (iv : am_I) : Option (am_I) :=
  (am_o1 (am_loop (fun s : (Int32 × am_I) => B_X10_takeHalf_2 aa m s.1 s.2) ((0 : Int32), iv)) fun a3 => some a3)
theorem R_X10_takeHalf {E : am_E} {S : am_S} {Q : am_O → am_S → am_I → Prop} {aa : Nat} {m : Nat} (ha : S.1 aa = some (.inr (.int, m))) {iv : am_I} {y : am_I} (e : F_X10_takeHalf aa m  iv = some y) (h : Q (.inl none) S y) {d : Nat} (hd : 0 ≤ d) : am_M E d mX10_takeHalf 0 0 [.ref aa] S iv Q := by
  refine am_enter (js := [.double 0]) rfl pn_X10 rfl rfl rfl (Nat.le_of_ble_eq_true rfl) (am_R.deep ?_ hd)
  refine (sX10_takeHalf_0 (sX10_takeHalf_1 ?_))
  replace e := am_o1_i e; obtain ⟨a3, e3, e⟩ := e
  refine l_X10_takeHalf_2 ha _ e3 ?_
  intro z0 z1
  refine (sX10_takeHalf_27 ?_)
  obtain rfl := Option.some.inj e
  exact h
def B_X10_take_106 (i1 : Int32) (iv : am_I) : Option ((Int32 × am_I) ⊕ (am_I)) :=
  (if (5 : Int32) ≤ i1 then some (.inr iv) else (if vp_b i1 5 then some (.inl ((i1 + 1), (am_w iv 72 i1.toNatClampNeg (0 : Int32)))) else none))
theorem b_X10_take_106 {E : am_E} {S : am_S} {Q : am_O → am_S → am_I → Prop} (hL : am_Lay S) {i1 : Int32} {iv : am_I} {y : (Int32 × am_I) ⊕ (am_I)} (e : B_X10_take_106 i1 iv = some y) (hc : ∀ s, y = .inl s → am_R E 1 mX10_take 0 0 106 [.ref 54, .int s.1] [] S s.2 Q) (hx : ∀ a, y = .inr a → ∀ z1 : Value, am_R E 1 mX10_take 0 0 124 [.ref 54, z1] [] S a Q) : am_R E 1 mX10_take 0 0 106 [.ref 54, .int i1] [] S iv Q := by
  refine (sX10_take_106 (sX10_take_107 ?_))
  refine sX10_take_108 (fun hbr => ?_) (fun hbr => ?_)
  · replace e := am_pos hbr e
    exact hx _ (Option.some.inj e).symm _
  · replace e := am_neg hbr e
    replace e := am_ckv e; obtain ⟨c13, e⟩ := e
    refine (sX10_take_111 rfl (sX10_take_112 (hL.1 _ _ rfl) (hL.2.1 _ _ _ rfl) (sX10_take_115 (sX10_take_116 (sX10_take_117 (hL.1 _ _ rfl) c13 (sX10_take_118 (sX10_take_121 ?_)))))))
    exact hc _ (Option.some.inj e).symm
theorem l_X10_take_106 {E : am_E} {S : am_S} {Q : am_O → am_S → am_I → Prop} (hL : am_Lay S) (s : (Int32 × am_I)) {x : (am_I)} (e : am_loop (fun s : (Int32 × am_I) => B_X10_take_106 s.1 s.2) s = some x) (hx : ∀ z1 : Value, am_R E 1 mX10_take 0 0 124 [.ref 54, z1] [] S x Q) : am_R E 1 mX10_take 0 0 106 [.ref 54, .int s.1] [] S s.2 Q :=
  am_wh_sound (f := fun s : (Int32 × am_I) => B_X10_take_106 s.1 s.2) (P := fun s => am_R E 1 mX10_take 0 0 106 [.ref 54, .int s.1] [] S s.2 Q) (K := fun x => ∀ z1 : Value, am_R E 1 mX10_take 0 0 124 [.ref 54, z1] [] S x Q) (fun s y e hc hkk => b_X10_take_106 hL e hc (fun a hy => hkk a hy)) am_fu s x e hx
def F_X10_take (iv : am_I) : Option (am_I) :=
  (am_o1 (F_X10_takeHalf 58 20  iv) fun w1 => (am_o1 (F_X10_takeHalf 59 20  w1) fun w2 => (am_o1 (F_X10_takeHalf 60 20  w2) fun w3 => (am_o1 (F_X10_takeHalf 61 20  w3) fun w4 => (am_o1 (F_X10_takeHalf 62 20  w4) fun w5 => (am_o1 (F_X10_takeHalf 63 20  w5) fun w6 => (am_o1 (F_X10_takeHalf 64 10  w6) fun w7 => (am_o1 (F_X10_takeHalf 65 10  w7) fun w8 => (am_o1 (F_X10_takeHalf 66 10  w8) fun w9 => (am_o1 (F_X10_takeHalf 67 8  w9) fun w10 => (am_o1 (F_X10_takeHalf 68 8  w10) fun w11 => (am_o1 (F_X10_takeHalf 69 1400  w11) fun w12 => (am_o1 (am_loop (fun s : (Int32 × am_I) => B_X10_take_106 s.1 s.2) ((0 : Int32), (am_w (am_w (am_w (am_w w12 54 29 (0 : Int32)) 54 30 (0 : Int32)) 54 31 (0 : Int32)) 54 32 (0 : Int32)))) fun a14 => some (am_w (am_w a14 54 45 (-1 : Int32)) 54 48 (0 : Int32)))))))))))))))
theorem R_X10_take {E : am_E} {S : am_S} {Q : am_O → am_S → am_I → Prop} (hL : am_Lay S) {iv : am_I} {y : am_I} (e : F_X10_take  iv = some y) (h : Q (.inl none) S y) {d : Nat} (hd : 1 ≤ d) : am_M E d mX10_take 0 0 [.ref 54] S iv Q := by
  refine am_enter (js := [.double 0]) rfl pn_X10 rfl rfl rfl (Nat.le_of_ble_eq_true rfl) (am_R.deep ?_ hd)
  replace e := am_o1_i e; obtain ⟨w1, e1, e⟩ := e
  replace e := am_o1_i e; obtain ⟨w2, e2, e⟩ := e
  replace e := am_o1_i e; obtain ⟨w3, e3, e⟩ := e
  replace e := am_o1_i e; obtain ⟨w4, e4, e⟩ := e
  replace e := am_o1_i e; obtain ⟨w5, e5, e⟩ := e
  replace e := am_o1_i e; obtain ⟨w6, e6, e⟩ := e
  replace e := am_o1_i e; obtain ⟨w7, e7, e⟩ := e
  replace e := am_o1_i e; obtain ⟨w8, e8, e⟩ := e
  replace e := am_o1_i e; obtain ⟨w9, e9, e⟩ := e
  replace e := am_o1_i e; obtain ⟨w10, e10, e⟩ := e
  replace e := am_o1_i e; obtain ⟨w11, e11, e⟩ := e
  replace e := am_o1_i e; obtain ⟨w12, e12, e⟩ := e
  refine (sX10_take_0 rfl (sX10_take_1 (hL.1 _ _ rfl) (hL.2.1 _ _ _ rfl) (sX10_take_4 (Nat.le_of_ble_eq_true rfl) (R_X10_takeHalf (hL.1 _ _ rfl) (h := (sX10_take_7 rfl (sX10_take_8 (hL.1 _ _ rfl) (hL.2.1 _ _ _ rfl) (sX10_take_11 (Nat.le_of_ble_eq_true rfl) (R_X10_takeHalf (hL.1 _ _ rfl) (h := (sX10_take_14 rfl (sX10_take_15 (hL.1 _ _ rfl) (hL.2.1 _ _ _ rfl) (sX10_take_18 (Nat.le_of_ble_eq_true rfl) (R_X10_takeHalf (hL.1 _ _ rfl) (h := (sX10_take_21 rfl (sX10_take_22 (hL.1 _ _ rfl) (hL.2.1 _ _ _ rfl) (sX10_take_25 (Nat.le_of_ble_eq_true rfl) (R_X10_takeHalf (hL.1 _ _ rfl) (h := (sX10_take_28 rfl (sX10_take_29 (hL.1 _ _ rfl) (hL.2.1 _ _ _ rfl) (sX10_take_32 (Nat.le_of_ble_eq_true rfl) (R_X10_takeHalf (hL.1 _ _ rfl) (h := (sX10_take_35 rfl (sX10_take_36 (hL.1 _ _ rfl) (hL.2.1 _ _ _ rfl) (sX10_take_39 (Nat.le_of_ble_eq_true rfl) (R_X10_takeHalf (hL.1 _ _ rfl) (h := (sX10_take_42 rfl (sX10_take_43 (hL.1 _ _ rfl) (hL.2.1 _ _ _ rfl) (sX10_take_46 (Nat.le_of_ble_eq_true rfl) (R_X10_takeHalf (hL.1 _ _ rfl) (h := (sX10_take_49 rfl (sX10_take_50 (hL.1 _ _ rfl) (hL.2.1 _ _ _ rfl) (sX10_take_53 (Nat.le_of_ble_eq_true rfl) (R_X10_takeHalf (hL.1 _ _ rfl) (h := (sX10_take_56 rfl (sX10_take_57 (hL.1 _ _ rfl) (hL.2.1 _ _ _ rfl) (sX10_take_60 (Nat.le_of_ble_eq_true rfl) (R_X10_takeHalf (hL.1 _ _ rfl) (h := (sX10_take_63 rfl (sX10_take_64 (hL.1 _ _ rfl) (hL.2.1 _ _ _ rfl) (sX10_take_67 (Nat.le_of_ble_eq_true rfl) (R_X10_takeHalf (hL.1 _ _ rfl) (h := (sX10_take_70 rfl (sX10_take_71 (hL.1 _ _ rfl) (hL.2.1 _ _ _ rfl) (sX10_take_74 (Nat.le_of_ble_eq_true rfl) (R_X10_takeHalf (hL.1 _ _ rfl) (h := (sX10_take_77 rfl (sX10_take_78 (hL.1 _ _ rfl) (hL.2.1 _ _ _ rfl) (sX10_take_81 (Nat.le_of_ble_eq_true rfl) (R_X10_takeHalf (hL.1 _ _ rfl) (h := (sX10_take_84 rfl (sX10_take_85 (sX10_take_86 (hL.1 _ _ rfl) (sX10_take_89 rfl (sX10_take_90 (sX10_take_91 (hL.1 _ _ rfl) (sX10_take_94 rfl (sX10_take_95 (sX10_take_96 (hL.1 _ _ rfl) (sX10_take_99 rfl (sX10_take_100 (sX10_take_101 (hL.1 _ _ rfl) (sX10_take_104 (sX10_take_105 ?_))))))))))))))) (hd := (Nat.le_of_ble_eq_true rfl)) (e := e12)))))) (hd := (Nat.le_of_ble_eq_true rfl)) (e := e11)))))) (hd := (Nat.le_of_ble_eq_true rfl)) (e := e10)))))) (hd := (Nat.le_of_ble_eq_true rfl)) (e := e9)))))) (hd := (Nat.le_of_ble_eq_true rfl)) (e := e8)))))) (hd := (Nat.le_of_ble_eq_true rfl)) (e := e7)))))) (hd := (Nat.le_of_ble_eq_true rfl)) (e := e6)))))) (hd := (Nat.le_of_ble_eq_true rfl)) (e := e5)))))) (hd := (Nat.le_of_ble_eq_true rfl)) (e := e4)))))) (hd := (Nat.le_of_ble_eq_true rfl)) (e := e3)))))) (hd := (Nat.le_of_ble_eq_true rfl)) (e := e2)))))) (hd := (Nat.le_of_ble_eq_true rfl)) (e := e1)))))
  replace e := am_o1_i e; obtain ⟨a14, e14, e⟩ := e
  refine l_X10_take_106 hL _ e14 ?_
  intro z1
  refine (sX10_take_124 rfl (sX10_take_125 (sX10_take_126 (hL.1 _ _ rfl) (sX10_take_129 rfl (sX10_take_130 (sX10_take_131 (hL.1 _ _ rfl) (by decide) (sX10_take_134 ?_)))))))
  obtain rfl := Option.some.inj e
  exact h
def J_X10_city_17 (iv : am_I) : Option (Int32 × am_I) :=
  (am_o2 (F_X10_fail (1 : Int32) iv) fun v1 w1 => some (v1, w1))
theorem j_X10_city_17 {E : am_E} {S : am_S} {Q : am_O → am_S → am_I → Prop} (hL : am_Lay S) {z1 z2 : Value} {iv : am_I} {y : Int32 × am_I} (e : J_X10_city_17  iv = some y) (h : Q (.inl (some (.int y.1))) S y.2) : am_R E 123 mX10_city 0 0 17 [.ref 54, z1, z2] [] S iv Q := by
  replace e := am_o2_i e; obtain ⟨v1, w1, e1, e⟩ := e
  refine (sX10_city_17 rfl (sX10_city_18 (sX10_city_19 (hL.1 _ _ rfl) (Nat.le_of_ble_eq_true rfl) (R_X10_fail hL (h := (sX10_city_22 ?_)) (hd := (Nat.le_of_ble_eq_true rfl)) (e := e1)))))
  obtain rfl := Option.some.inj e
  exact h
def J_X10_city_98 (i2 : Int32) (k1 : Int32) (k2 : Int32) (iv : am_I) : Option ((Int32 × am_I) ⊕ (am_I)) :=
  (if vp_b k1 20 then some (.inl ((i2 + 1), (am_w iv 58 k1.toNatClampNeg k2))) else none)
theorem j_X10_city_98 {E : am_E} {S : am_S} {Q : am_O → am_S → am_I → Prop} (hL : am_Lay S) {z1 : Value} {i2 k1 k2 : Int32} {iv : am_I} {y : (Int32 × am_I) ⊕ (am_I)} (e : J_X10_city_98 i2 k1 k2 iv = some y) (hc : ∀ s, y = .inl s → ∀ z1 : Value, am_R E 123 mX10_city 0 0 56 [.ref 54, z1, .int s.1] [] S s.2 Q) (hx : ∀ a, y = .inr a → ∀ z1 z2 : Value, am_R E 123 mX10_city 0 0 105 [.ref 54, z1, z2] [] S a Q) : am_R E 123 mX10_city 0 0 98 [.ref 54, z1, .int i2] [.int k2, .int k1, .ref 58] S iv Q := by
  replace e := am_ckv e; obtain ⟨c2, e⟩ := e
  refine (sX10_city_98 (hL.1 _ _ rfl) c2 (sX10_city_99 (sX10_city_102 ?_)))
  exact hc _ (Option.some.inj e).symm _
def B_X10_city_56 (i2 : Int32) (iv : am_I) : Option ((Int32 × am_I) ⊕ (am_I)) :=
  (if (20 : Int32) ≤ i2 then some (.inr iv) else (if i2 = (10 : Int32) then J_X10_city_98 i2 i2 (3 : Int32) iv else (if i2 = (11 : Int32) then J_X10_city_98 i2 i2 (4 : Int32) iv else (if i2 = (14 : Int32) then J_X10_city_98 i2 i2 (2 : Int32) iv else J_X10_city_98 i2 i2 (0 : Int32) iv))))
theorem b_X10_city_56 {E : am_E} {S : am_S} {Q : am_O → am_S → am_I → Prop} (hL : am_Lay S) {z1 : Value} {i2 : Int32} {iv : am_I} {y : (Int32 × am_I) ⊕ (am_I)} (e : B_X10_city_56 i2 iv = some y) (hc : ∀ s, y = .inl s → ∀ z1 : Value, am_R E 123 mX10_city 0 0 56 [.ref 54, z1, .int s.1] [] S s.2 Q) (hx : ∀ a, y = .inr a → ∀ z1 z2 : Value, am_R E 123 mX10_city 0 0 105 [.ref 54, z1, z2] [] S a Q) : am_R E 123 mX10_city 0 0 56 [.ref 54, z1, .int i2] [] S iv Q := by
  refine (sX10_city_56 (sX10_city_57 ?_))
  refine sX10_city_59 (fun hbr => ?_) (fun hbr => ?_)
  · replace e := am_pos hbr e
    exact hx _ (Option.some.inj e).symm _ _
  · replace e := am_neg hbr e
    refine (sX10_city_62 rfl (sX10_city_63 (hL.1 _ _ rfl) (hL.2.1 _ _ _ rfl) (sX10_city_66 (sX10_city_67 (sX10_city_68 ?_)))))
    refine sX10_city_70 (fun hbr => ?_) (fun hbr => ?_)
    · replace e := am_neg hbr e
      refine (sX10_city_77 (sX10_city_78 ?_))
      refine sX10_city_80 (fun hbr => ?_) (fun hbr => ?_)
      · replace e := am_neg hbr e
        refine (sX10_city_87 (sX10_city_88 ?_))
        refine sX10_city_90 (fun hbr => ?_) (fun hbr => ?_)
        · replace e := am_neg hbr e
          refine (sX10_city_97 ?_)
          exact j_X10_city_98 hL e hc hx
        · replace e := am_pos hbr e
          refine (sX10_city_93 (sX10_city_94 ?_))
          exact j_X10_city_98 hL e hc hx
      · replace e := am_pos hbr e
        refine (sX10_city_83 (sX10_city_84 ?_))
        exact j_X10_city_98 hL e hc hx
    · replace e := am_pos hbr e
      refine (sX10_city_73 (sX10_city_74 ?_))
      exact j_X10_city_98 hL e hc hx
theorem l_X10_city_56 {E : am_E} {S : am_S} {Q : am_O → am_S → am_I → Prop} (hL : am_Lay S) (s : (Int32 × am_I)) {x : (am_I)} (e : am_loop (fun s : (Int32 × am_I) => B_X10_city_56 s.1 s.2) s = some x) (hx : ∀ z1 z2 : Value, am_R E 123 mX10_city 0 0 105 [.ref 54, z1, z2] [] S x Q) : ∀ z1 : Value, am_R E 123 mX10_city 0 0 56 [.ref 54, z1, .int s.1] [] S s.2 Q :=
  am_wh_sound (f := fun s : (Int32 × am_I) => B_X10_city_56 s.1 s.2) (P := fun s => ∀ z1 : Value, am_R E 123 mX10_city 0 0 56 [.ref 54, z1, .int s.1] [] S s.2 Q) (K := fun x => ∀ z1 z2 : Value, am_R E 123 mX10_city 0 0 105 [.ref 54, z1, z2] [] S x Q) (fun s y e hc hkk => fun z1 => b_X10_city_56 hL e hc (fun a hy => hkk a hy)) am_fu s x e hx
def B_X10_city_111 (i2 : Int32) (iv : am_I) : Option ((Int32 × am_I) ⊕ (am_I)) :=
  (if (iv 54 25) = 0 then (if (iv 54 21) = 0 then some (.inr iv) else (am_o2 (F_X10_readLine i2 iv) fun v5 w5 => some (.inl (v5, w5)))) else some (.inr iv))
theorem b_X10_city_111 {E : am_E} {S : am_S} {Q : am_O → am_S → am_I → Prop} (hL : am_Lay S) {z1 : Value} {i2 : Int32} {iv : am_I} {y : (Int32 × am_I) ⊕ (am_I)} (e : B_X10_city_111 i2 iv = some y) (hc : ∀ s, y = .inl s → ∀ z1 : Value, am_R E 123 mX10_city 0 0 111 [.ref 54, z1, .int s.1] [] S s.2 Q) (hx : ∀ a, y = .inr a → ∀ z1 z2 : Value, am_R E 123 mX10_city 0 0 134 [.ref 54, z1, z2] [] S a Q) : am_R E 123 mX10_city 0 0 111 [.ref 54, z1, .int i2] [] S iv Q := by
  refine (sX10_city_111 rfl (sX10_city_112 (hL.1 _ _ rfl) ?_))
  refine sX10_city_115 (fun hbr => ?_) (fun hbr => ?_)
  · replace e := am_neg hbr e
    exact hx _ (Option.some.inj e).symm _ _
  · replace e := am_pos hbr e
    refine (sX10_city_118 rfl (sX10_city_119 (hL.1 _ _ rfl) ?_))
    refine sX10_city_122 (fun hbr => ?_) (fun hbr => ?_)
    · replace e := am_pos hbr e
      exact hx _ (Option.some.inj e).symm _ _
    · replace e := am_neg hbr e
      replace e := am_o2_i e; obtain ⟨v5, w5, e5, e⟩ := e
      refine (sX10_city_125 rfl (sX10_city_126 (sX10_city_127 (hL.1 _ _ rfl) (Nat.le_of_ble_eq_true rfl) (R_X10_readLine hL (h := (sX10_city_130 (sX10_city_131 ?_))) (hd := (Nat.le_of_ble_eq_true rfl)) (e := e5)))))
      exact hc _ (Option.some.inj e).symm _
theorem l_X10_city_111 {E : am_E} {S : am_S} {Q : am_O → am_S → am_I → Prop} (hL : am_Lay S) (s : (Int32 × am_I)) {x : (am_I)} (e : am_loop (fun s : (Int32 × am_I) => B_X10_city_111 s.1 s.2) s = some x) (hx : ∀ z1 z2 : Value, am_R E 123 mX10_city 0 0 134 [.ref 54, z1, z2] [] S x Q) : ∀ z1 : Value, am_R E 123 mX10_city 0 0 111 [.ref 54, z1, .int s.1] [] S s.2 Q :=
  am_wh_sound (f := fun s : (Int32 × am_I) => B_X10_city_111 s.1 s.2) (P := fun s => ∀ z1 : Value, am_R E 123 mX10_city 0 0 111 [.ref 54, z1, .int s.1] [] S s.2 Q) (K := fun x => ∀ z1 z2 : Value, am_R E 123 mX10_city 0 0 134 [.ref 54, z1, z2] [] S x Q) (fun s y e hc hkk => fun z1 => b_X10_city_111 hL e hc (fun a hy => hkk a hy)) am_fu s x e hx
def J_X10_city_134 (iv : am_I) : Option (Int32 × am_I) :=
  (if (iv 54 25) = 0 then (am_o1 (F_X10_take  iv) fun w7 => some ((0 : Int32), w7)) else some (((am_w (am_w iv 54 27 (iv 54 26)) 70 (0 : Int32).toNatClampNeg (((am_w iv 54 27 (iv 54 26)) 70 (0 : Int32).toNatClampNeg) + (1 : Int32))) 54 25), (am_w (am_w iv 54 27 (iv 54 26)) 70 (0 : Int32).toNatClampNeg (((am_w iv 54 27 (iv 54 26)) 70 (0 : Int32).toNatClampNeg) + (1 : Int32)))))
theorem j_X10_city_134 {E : am_E} {S : am_S} {Q : am_O → am_S → am_I → Prop} (hL : am_Lay S) {z1 z2 : Value} {iv : am_I} {y : Int32 × am_I} (e : J_X10_city_134  iv = some y) (h : Q (.inl (some (.int y.1))) S y.2) : am_R E 123 mX10_city 0 0 134 [.ref 54, z1, z2] [] S iv Q := by
  refine (sX10_city_134 rfl (sX10_city_135 (hL.1 _ _ rfl) ?_))
  refine sX10_city_138 (fun hbr => ?_) (fun hbr => ?_)
  · replace e := am_pos hbr e
    replace e := am_o1_i e; obtain ⟨w7, e7, e⟩ := e
    refine (sX10_city_164 rfl (sX10_city_165 (hL.1 _ _ rfl) (Nat.le_of_ble_eq_true rfl) (R_X10_take hL (h := (sX10_city_168 (sX10_city_169 ?_))) (hd := (Nat.le_of_ble_eq_true rfl)) (e := e7))))
    obtain rfl := Option.some.inj e
    exact h
  · replace e := am_neg hbr e
    refine (sX10_city_141 rfl (sX10_city_142 rfl (sX10_city_143 (hL.1 _ _ rfl) (sX10_city_146 (hL.1 _ _ rfl) (sX10_city_149 rfl (sX10_city_150 (hL.1 _ _ rfl) (hL.2.1 _ _ _ rfl) (sX10_city_153 (sX10_city_154 rfl rfl (sX10_city_155 (hL.1 _ _ rfl) (vp_lit (by decide)) (sX10_city_156 (sX10_city_157 (sX10_city_158 (hL.1 _ _ rfl) (vp_lit (by decide)) (sX10_city_159 rfl (sX10_city_160 (hL.1 _ _ rfl) (sX10_city_163 ?_)))))))))))))))
    obtain rfl := Option.some.inj e
    exact h
def F_X10_city (i1 : Int32) (iv : am_I) : Option (Int32 × am_I) :=
  (if i1 < 0 then J_X10_city_17  (am_w iv 54 3 (0 : Int32)) else (if i1 ≤ ((am_w iv 54 3 (0 : Int32)) 54 18) then (am_o1 (am_loop (fun s : (Int32 × am_I) => B_X10_city_56 s.1 s.2) ((10 : Int32), (am_w (am_w (am_w (am_w (am_w (am_w (am_w iv 54 3 (0 : Int32)) 54 18 (0 : Int32)) 54 20 i1) 54 19 (0 : Int32)) 54 25 (0 : Int32)) 54 27 (-1 : Int32)) 54 28 (0 : Int32)))) fun a3 => (am_o1 (F_X10_stepOn  a3) fun w4 => (am_o1 (am_loop (fun s : (Int32 × am_I) => B_X10_city_111 s.1 s.2) ((0 : Int32), w4)) fun a6 => J_X10_city_134  a6))) else J_X10_city_17  (am_w iv 54 3 (0 : Int32))))
theorem YR_X10_city {E : am_E} {S : am_S} {Q : am_O → am_S → am_I → Prop} (hL : am_Lay S) {i1 : Int32} {iv : am_I} {y : Int32 × am_I} (e : F_X10_city i1 iv = some y) (h : Q (.inl (some (.int y.1))) S y.2) {d : Nat} (hd : 123 ≤ d) : am_M E d mX10_city 0 0 [.ref 54, .int i1] S iv Q := by
  refine am_enter (js := [.double 0]) rfl pn_X10 rfl rfl rfl (Nat.le_of_ble_eq_true rfl) (am_R.deep ?_ hd)
  refine (sX10_city_0 rfl (sX10_city_1 (sX10_city_2 (hL.1 _ _ rfl) (sX10_city_5 ?_))))
  refine sX10_city_6 (fun hbr => ?_) (fun hbr => ?_)
  · replace e := am_pos hbr e
    exact j_X10_city_17 hL e h
  · replace e := am_neg hbr e
    refine (sX10_city_9 (sX10_city_10 rfl (sX10_city_11 (hL.1 _ _ rfl) ?_)))
    refine sX10_city_14 (fun hbr => ?_) (fun hbr => ?_)
    · replace e := am_pos hbr e
      refine (sX10_city_23 rfl (sX10_city_24 (sX10_city_25 (hL.1 _ _ rfl) (sX10_city_28 rfl (sX10_city_29 (sX10_city_30 (hL.1 _ _ rfl) (sX10_city_33 rfl (sX10_city_34 (sX10_city_35 (hL.1 _ _ rfl) (sX10_city_38 rfl (sX10_city_39 (sX10_city_40 (hL.1 _ _ rfl) (sX10_city_43 rfl (sX10_city_44 (sX10_city_45 (hL.1 _ _ rfl) (sX10_city_48 rfl (sX10_city_49 (sX10_city_50 (hL.1 _ _ rfl) (sX10_city_53 (sX10_city_55 ?_))))))))))))))))))))
      replace e := am_o1_i e; obtain ⟨a3, e3, e⟩ := e
      refine l_X10_city_56 hL _ e3 ?_ _
      intro z1 z2
      replace e := am_o1_i e; obtain ⟨w4, e4, e⟩ := e
      refine (sX10_city_105 rfl (sX10_city_106 (hL.1 _ _ rfl) (Nat.le_of_ble_eq_true rfl) (R_X10_stepOn hL (h := (sX10_city_109 (sX10_city_110 ?_))) (hd := (Nat.le_of_ble_eq_true rfl)) (e := e4))))
      replace e := am_o1_i e; obtain ⟨a6, e6, e⟩ := e
      refine l_X10_city_111 hL _ e6 ?_ _
      intro z1 z2
      exact j_X10_city_134 hL e h
    · replace e := am_neg hbr e
      exact j_X10_city_17 hL e h
theorem R_X10_city {E : am_E} {S : am_S} {Q : am_O → am_S → am_I → Prop} (hL : am_Lay S) {i1 : Int32} {iv : am_I} {v' : Int32} {iv' : am_I} (e : F_X10_city i1 iv = some (v', iv')) (h : Q (.inl (some (.int v'))) S iv') {d : Nat} (hd : 123 ≤ d) : am_M E d mX10_city 0 0 [.ref 54, .int i1] S iv Q :=
  YR_X10_city hL e h hd
def F_X10_fault (iv : am_I) : Option (Int32 × am_I) :=
  some (((am_w iv 54 3 (0 : Int32)) 54 27), (am_w iv 54 3 (0 : Int32)))
theorem YR_X10_fault {E : am_E} {S : am_S} {Q : am_O → am_S → am_I → Prop} (hL : am_Lay S) {iv : am_I} {y : Int32 × am_I} (e : F_X10_fault  iv = some y) (h : Q (.inl (some (.int y.1))) S y.2) {d : Nat} (hd : 0 ≤ d) : am_M E d mX10_fault 0 0 [.ref 54] S iv Q := by
  refine am_enter (js := []) rfl pn_X10 rfl rfl rfl (Nat.le_of_ble_eq_true rfl) (am_R.deep ?_ hd)
  refine (sX10_fault_0 rfl (sX10_fault_1 (sX10_fault_2 (hL.1 _ _ rfl) (sX10_fault_5 rfl (sX10_fault_6 (hL.1 _ _ rfl) (sX10_fault_9 ?_))))))
  obtain rfl := Option.some.inj e
  exact h
theorem R_X10_fault {E : am_E} {S : am_S} {Q : am_O → am_S → am_I → Prop} (hL : am_Lay S) {iv : am_I} {v' : Int32} {iv' : am_I} (e : F_X10_fault  iv = some (v', iv')) (h : Q (.inl (some (.int v'))) S iv') {d : Nat} (hd : 0 ≤ d) : am_M E d mX10_fault 0 0 [.ref 54] S iv Q :=
  YR_X10_fault hL e h hd
def J_X10_feed_76 (i1 : Int32) (i2 : Int32) (i3 : Int32) (i4 : Int32) (i5 : Int32) (i6 : Int32) (k0 : Int32) (iv : am_I) : Option ((Int32 × am_I) ⊕ (am_I)) :=
  (if vp_b (iv 54 18) 700 then some (.inl ((i6 + 1), (am_w (am_w iv 71 (iv 54 18).toNatClampNeg ((k0 >>> (((24 : Int32) - ((8 : Int32) * (i6 - i6 / (4 : Int32) * (4 : Int32)))) &&& 31)) &&& (255 : Int32))) 54 18 (((am_w iv 71 (iv 54 18).toNatClampNeg ((k0 >>> (((24 : Int32) - ((8 : Int32) * (i6 - i6 / (4 : Int32) * (4 : Int32)))) &&& 31)) &&& (255 : Int32))) 54 18) + (1 : Int32))))) else none)
theorem j_X10_feed_76 {E : am_E} {S : am_S} {Q : am_O → am_S → am_I → Prop} (hL : am_Lay S) {z7 : Value} {i1 i2 i3 i4 i5 i6 k0 : Int32} {iv : am_I} {y : (Int32 × am_I) ⊕ (am_I)} (e : J_X10_feed_76 i1 i2 i3 i4 i5 i6 k0 iv = some y) (hc : ∀ s, y = .inl s → ∀ z7 : Value, am_R E 0 mX10_feed 0 0 23 [.ref 54, .int i1, .int i2, .int i3, .int i4, .int i5, .int s.1, z7] [] S s.2 Q) (hx : ∀ a, y = .inr a → ∀ z1 z2 z3 z4 z5 z6 z7 : Value, am_R E 0 mX10_feed 0 0 120 [.ref 54, z1, z2, z3, z4, z5, z6, z7] [] S a Q) : am_R E 0 mX10_feed 0 0 76 [.ref 54, .int i1, .int i2, .int i3, .int i4, .int i5, .int i6, z7] [.int k0] S iv Q := by
  replace e := am_ckv e; obtain ⟨c1, e⟩ := e
  refine (sX10_feed_76 (sX10_feed_78 rfl (sX10_feed_79 (hL.1 _ _ rfl) (hL.2.1 _ _ _ rfl) (sX10_feed_82 rfl (sX10_feed_83 (hL.1 _ _ rfl) (sX10_feed_86 (sX10_feed_88 (sX10_feed_90 (sX10_feed_92 (sX10_feed_94 (sX10_feed_95 (by decide) (sX10_feed_96 (sX10_feed_97 (sX10_feed_98 (sX10_feed_99 (sX10_feed_102 (sX10_feed_103 (hL.1 _ _ rfl) c1 (sX10_feed_104 rfl (sX10_feed_105 rfl (sX10_feed_106 (hL.1 _ _ rfl) (sX10_feed_109 (sX10_feed_110 (sX10_feed_111 (hL.1 _ _ rfl) (sX10_feed_114 (sX10_feed_117 ?_)))))))))))))))))))))))))
  exact hc _ (Option.some.inj e).symm _
def B_X10_feed_23 (i1 : Int32) (i2 : Int32) (i3 : Int32) (i4 : Int32) (i5 : Int32) (i6 : Int32) (iv : am_I) : Option ((Int32 × am_I) ⊕ (am_I)) :=
  (if (20 : Int32) ≤ i6 then some (.inr iv) else (if (4 : Int32) ≤ i6 then (if (8 : Int32) ≤ i6 then (if (12 : Int32) ≤ i6 then (if (16 : Int32) ≤ i6 then J_X10_feed_76 i1 i2 i3 i4 i5 i6 i5 iv else J_X10_feed_76 i1 i2 i3 i4 i5 i6 i4 iv) else J_X10_feed_76 i1 i2 i3 i4 i5 i6 i3 iv) else J_X10_feed_76 i1 i2 i3 i4 i5 i6 i2 iv) else J_X10_feed_76 i1 i2 i3 i4 i5 i6 i1 iv))
theorem b_X10_feed_23 {E : am_E} {S : am_S} {Q : am_O → am_S → am_I → Prop} (hL : am_Lay S) {z7 : Value} {i1 i2 i3 i4 i5 i6 : Int32} {iv : am_I} {y : (Int32 × am_I) ⊕ (am_I)} (e : B_X10_feed_23 i1 i2 i3 i4 i5 i6 iv = some y) (hc : ∀ s, y = .inl s → ∀ z7 : Value, am_R E 0 mX10_feed 0 0 23 [.ref 54, .int i1, .int i2, .int i3, .int i4, .int i5, .int s.1, z7] [] S s.2 Q) (hx : ∀ a, y = .inr a → ∀ z1 z2 z3 z4 z5 z6 z7 : Value, am_R E 0 mX10_feed 0 0 120 [.ref 54, z1, z2, z3, z4, z5, z6, z7] [] S a Q) : am_R E 0 mX10_feed 0 0 23 [.ref 54, .int i1, .int i2, .int i3, .int i4, .int i5, .int i6, z7] [] S iv Q := by
  refine (sX10_feed_23 (sX10_feed_25 ?_))
  refine sX10_feed_27 (fun hbr => ?_) (fun hbr => ?_)
  · replace e := am_pos hbr e
    exact hx _ (Option.some.inj e).symm _ _ _ _ _ _ _
  · replace e := am_neg hbr e
    refine (sX10_feed_30 (sX10_feed_32 ?_))
    refine sX10_feed_33 (fun hbr => ?_) (fun hbr => ?_)
    · replace e := am_pos hbr e
      refine (sX10_feed_40 (sX10_feed_42 ?_))
      refine sX10_feed_44 (fun hbr => ?_) (fun hbr => ?_)
      · replace e := am_pos hbr e
        refine (sX10_feed_51 (sX10_feed_53 ?_))
        refine sX10_feed_55 (fun hbr => ?_) (fun hbr => ?_)
        · replace e := am_pos hbr e
          refine (sX10_feed_62 (sX10_feed_64 ?_))
          refine sX10_feed_66 (fun hbr => ?_) (fun hbr => ?_)
          · replace e := am_pos hbr e
            refine (sX10_feed_74 ?_)
            exact j_X10_feed_76 hL e hc hx
          · replace e := am_neg hbr e
            refine (sX10_feed_69 (sX10_feed_71 ?_))
            exact j_X10_feed_76 hL e hc hx
        · replace e := am_neg hbr e
          refine (sX10_feed_58 (sX10_feed_59 ?_))
          exact j_X10_feed_76 hL e hc hx
      · replace e := am_neg hbr e
        refine (sX10_feed_47 (sX10_feed_48 ?_))
        exact j_X10_feed_76 hL e hc hx
    · replace e := am_neg hbr e
      refine (sX10_feed_36 (sX10_feed_37 ?_))
      exact j_X10_feed_76 hL e hc hx
theorem l_X10_feed_23 {E : am_E} {S : am_S} {Q : am_O → am_S → am_I → Prop} (hL : am_Lay S) {i1 i2 i3 i4 i5 : Int32} (s : (Int32 × am_I)) {x : (am_I)} (e : am_loop (fun s : (Int32 × am_I) => B_X10_feed_23 i1 i2 i3 i4 i5 s.1 s.2) s = some x) (hx : ∀ z1 z2 z3 z4 z5 z6 z7 : Value, am_R E 0 mX10_feed 0 0 120 [.ref 54, z1, z2, z3, z4, z5, z6, z7] [] S x Q) : ∀ z7 : Value, am_R E 0 mX10_feed 0 0 23 [.ref 54, .int i1, .int i2, .int i3, .int i4, .int i5, .int s.1, z7] [] S s.2 Q :=
  am_wh_sound (f := fun s : (Int32 × am_I) => B_X10_feed_23 i1 i2 i3 i4 i5 s.1 s.2) (P := fun s => ∀ z7 : Value, am_R E 0 mX10_feed 0 0 23 [.ref 54, .int i1, .int i2, .int i3, .int i4, .int i5, .int s.1, z7] [] S s.2 Q) (K := fun x => ∀ z1 z2 z3 z4 z5 z6 z7 : Value, am_R E 0 mX10_feed 0 0 120 [.ref 54, z1, z2, z3, z4, z5, z6, z7] [] S x Q) (fun s y e hc hkk => fun z7 => b_X10_feed_23 hL e hc (fun a hy => hkk a hy)) am_fu s x e hx
def F_X10_feed (i1 : Int32) (i2 : Int32) (i3 : Int32) (i4 : Int32) (i5 : Int32) (iv : am_I) : Option (Int32 × am_I) :=
  (if (((am_w iv 54 3 (0 : Int32)) 54 18) + (20 : Int32)) ≤ (700 : Int32) then (am_o1 (am_loop (fun s : (Int32 × am_I) => B_X10_feed_23 i1 i2 i3 i4 i5 s.1 s.2) ((0 : Int32), (am_w iv 54 3 (0 : Int32)))) fun a2 => some ((a2 54 18), a2)) else some ((-1 : Int32), (am_w iv 54 3 (0 : Int32))))
theorem YR_X10_feed {E : am_E} {S : am_S} {Q : am_O → am_S → am_I → Prop} (hL : am_Lay S) {i1 i2 i3 i4 i5 : Int32} {iv : am_I} {y : Int32 × am_I} (e : F_X10_feed i1 i2 i3 i4 i5 iv = some y) (h : Q (.inl (some (.int y.1))) S y.2) {d : Nat} (hd : 0 ≤ d) : am_M E d mX10_feed 0 0 [.ref 54, .int i1, .int i2, .int i3, .int i4, .int i5] S iv Q := by
  refine am_enter (js := [.double 0, .double 0]) rfl pn_X10 rfl rfl rfl (Nat.le_of_ble_eq_true rfl) (am_R.deep ?_ hd)
  refine (sX10_feed_0 rfl (sX10_feed_1 (sX10_feed_2 (hL.1 _ _ rfl) (sX10_feed_5 rfl (sX10_feed_6 (hL.1 _ _ rfl) (sX10_feed_9 (sX10_feed_11 (sX10_feed_12 ?_))))))))
  refine sX10_feed_15 (fun hbr => ?_) (fun hbr => ?_)
  · replace e := am_pos hbr e
    refine (sX10_feed_20 (sX10_feed_21 ?_))
    replace e := am_o1_i e; obtain ⟨a2, e2, e⟩ := e
    refine l_X10_feed_23 hL _ e2 ?_ _
    intro z1 z2 z3 z4 z5 z6 z7
    refine (sX10_feed_120 rfl (sX10_feed_121 (hL.1 _ _ rfl) (sX10_feed_124 ?_)))
    obtain rfl := Option.some.inj e
    exact h
  · replace e := am_neg hbr e
    refine (sX10_feed_18 (sX10_feed_19 ?_))
    obtain rfl := Option.some.inj e
    exact h
theorem R_X10_feed {E : am_E} {S : am_S} {Q : am_O → am_S → am_I → Prop} (hL : am_Lay S) {i1 i2 i3 i4 i5 : Int32} {iv : am_I} {v' : Int32} {iv' : am_I} (e : F_X10_feed i1 i2 i3 i4 i5 iv = some (v', iv')) (h : Q (.inl (some (.int v'))) S iv') {d : Nat} (hd : 0 ≤ d) : am_M E d mX10_feed 0 0 [.ref 54, .int i1, .int i2, .int i3, .int i4, .int i5] S iv Q :=
  YR_X10_feed hL e h hd
