/-! functions of the methods, and their rows (by program) -/
def F_X6_note (fd : Nat) (nf : Nat) (sn : Nat) (ns : Nat) (i1 : Int32) (i2 : Int32) (iv : am_I) : Option (Int32 × am_I) :=
  (if (i1 >>> ((5 : Int32) &&& 31)) < 0 then some ((0 : Int32), iv) else (if (Int32.ofNat ns) ≤ (i1 >>> ((5 : Int32) &&& 31)) then some ((0 : Int32), iv) else (if vp_b (i1 >>> ((5 : Int32) &&& 31)) ns then (if (((iv sn (i1 >>> ((5 : Int32) &&& 31)).toNatClampNeg) >>> ((i1 &&& (31 : Int32)) &&& 31)) &&& (1 : Int32)) = 0 then (if (iv 50 2) < (Int32.ofNat nf) then (if vp_b (i1 >>> ((5 : Int32) &&& 31)) ns then (if vp_b (i1 >>> ((5 : Int32) &&& 31)) ns then (if vp_b ((am_w iv sn (i1 >>> ((5 : Int32) &&& 31)).toNatClampNeg ((iv sn (i1 >>> ((5 : Int32) &&& 31)).toNatClampNeg) ||| ((1 : Int32) <<< ((i1 &&& (31 : Int32)) &&& 31)))) 50 2) nf then some ((1 : Int32), (am_w (am_w (am_w iv sn (i1 >>> ((5 : Int32) &&& 31)).toNatClampNeg ((iv sn (i1 >>> ((5 : Int32) &&& 31)).toNatClampNeg) ||| ((1 : Int32) <<< ((i1 &&& (31 : Int32)) &&& 31)))) fd ((am_w iv sn (i1 >>> ((5 : Int32) &&& 31)).toNatClampNeg ((iv sn (i1 >>> ((5 : Int32) &&& 31)).toNatClampNeg) ||| ((1 : Int32) <<< ((i1 &&& (31 : Int32)) &&& 31)))) 50 2).toNatClampNeg (i1 ||| (i2 <<< ((15 : Int32) &&& 31)))) 50 2 (((am_w (am_w iv sn (i1 >>> ((5 : Int32) &&& 31)).toNatClampNeg ((iv sn (i1 >>> ((5 : Int32) &&& 31)).toNatClampNeg) ||| ((1 : Int32) <<< ((i1 &&& (31 : Int32)) &&& 31)))) fd ((am_w iv sn (i1 >>> ((5 : Int32) &&& 31)).toNatClampNeg ((iv sn (i1 >>> ((5 : Int32) &&& 31)).toNatClampNeg) ||| ((1 : Int32) <<< ((i1 &&& (31 : Int32)) &&& 31)))) 50 2).toNatClampNeg (i1 ||| (i2 <<< ((15 : Int32) &&& 31)))) 50 2) + (1 : Int32)))) else none) else none) else none) else some ((0 : Int32), iv)) else some ((0 : Int32), iv)) else none)))
theorem YR_X6_note {E : am_E} {S : am_S} {Q : am_O → am_S → am_I → Prop} {fd : Nat} {nf : Nat} {sn : Nat} {ns : Nat} (hL : am_Lay S) (hF : am_Fd S fd nf sn ns) {i1 i2 : Int32} {iv : am_I} {y : Int32 × am_I} (e : F_X6_note fd nf sn ns i1 i2 iv = some y) (h : Q (.inl (some (.int y.1))) S y.2) {d : Nat} (hd : 0 ≤ d) : am_M E d mX6_note 0 0 [.ref 50, .int i1, .int i2] S iv Q := by
  refine am_enter (js := [.double 0]) rfl pn_X6 rfl rfl rfl (Nat.le_of_ble_eq_true rfl) (am_R.deep ?_ hd)
  refine (sX6_note_0 (sX6_note_1 (sX6_note_2 (sX6_note_3 (sX6_note_4 ?_)))))
  refine sX6_note_5 (fun hbr => ?_) (fun hbr => ?_)
  · replace e := am_pos hbr e
    refine (sX6_note_45 (sX6_note_46 rfl ?_))
    obtain rfl := Option.some.inj e
    exact h
  · replace e := am_neg hbr e
    refine (sX6_note_8 (sX6_note_9 rfl (sX6_note_10 (hL.1 _ _ rfl) (hF.2.2.1) (sX6_note_13 (hF.2.2.2) rfl ?_))))
    refine sX6_note_14 (fun hbr => ?_) (fun hbr => ?_)
    · replace e := am_pos hbr e
      refine (sX6_note_45 (sX6_note_46 rfl ?_))
      obtain rfl := Option.some.inj e
      exact h
    · replace e := am_neg hbr e
      replace e := am_ckv e; obtain ⟨c1, e⟩ := e
      refine (sX6_note_17 rfl (sX6_note_18 (hL.1 _ _ rfl) (hF.2.2.1) (sX6_note_21 (sX6_note_22 (hF.2.2.2) c1 (sX6_note_23 (sX6_note_24 (sX6_note_26 (sX6_note_27 (sX6_note_28 (sX6_note_29 ?_))))))))))
      refine sX6_note_30 (fun hbr => ?_) (fun hbr => ?_)
      · replace e := am_neg hbr e
        refine (sX6_note_45 (sX6_note_46 rfl ?_))
        obtain rfl := Option.some.inj e
        exact h
      · replace e := am_pos hbr e
        refine (sX6_note_33 rfl (sX6_note_34 (hL.1 _ _ rfl) (sX6_note_37 rfl (sX6_note_38 (hL.1 _ _ rfl) (hF.1) (sX6_note_41 (hF.2.1) rfl ?_)))))
        refine sX6_note_42 (fun hbr => ?_) (fun hbr => ?_)
        · replace e := am_pos hbr e
          replace e := am_ckv e; obtain ⟨c2, e⟩ := e
          replace e := am_ckv e; obtain ⟨c3, e⟩ := e
          replace e := am_ckv e; obtain ⟨c4, e⟩ := e
          refine (sX6_note_47 rfl (sX6_note_48 (hL.1 _ _ rfl) (hF.2.2.1) (sX6_note_51 (sX6_note_52 rfl rfl (sX6_note_53 (hF.2.2.2) c2 (sX6_note_54 (sX6_note_55 (sX6_note_56 (sX6_note_58 (sX6_note_59 (sX6_note_60 (sX6_note_61 (hF.2.2.2) c3 (sX6_note_62 rfl (sX6_note_63 (hL.1 _ _ rfl) (hF.1) (sX6_note_66 rfl (sX6_note_67 (hL.1 _ _ rfl) (sX6_note_70 (sX6_note_71 (sX6_note_72 (sX6_note_74 (sX6_note_75 (sX6_note_76 (hF.2.1) c4 (sX6_note_77 rfl (sX6_note_78 rfl (sX6_note_79 (hL.1 _ _ rfl) (sX6_note_82 (sX6_note_83 (sX6_note_84 (hL.1 _ _ rfl) (sX6_note_87 (sX6_note_88 rfl ?_))))))))))))))))))))))))))))))
          obtain rfl := Option.some.inj e
          exact h
        · replace e := am_neg hbr e
          refine (sX6_note_45 (sX6_note_46 rfl ?_))
          obtain rfl := Option.some.inj e
          exact h
theorem R_X6_note {E : am_E} {S : am_S} {Q : am_O → am_S → am_I → Prop} {fd : Nat} {nf : Nat} {sn : Nat} {ns : Nat} (hL : am_Lay S) (hF : am_Fd S fd nf sn ns) {i1 i2 : Int32} {iv : am_I} {v' : Int32} {iv' : am_I} (e : F_X6_note fd nf sn ns i1 i2 iv = some (v', iv')) (h : Q (.inl (some (.int v'))) S iv') {d : Nat} (hd : 0 ≤ d) : am_M E d mX6_note 0 0 [.ref 50, .int i1, .int i2] S iv Q :=
  YR_X6_note hL hF e h hd
def B_X6_stepsTo_4 (fd : Nat) (nf : Nat) (sn : Nat) (ns : Nat) (iv : am_I) (i2 : Int32) (i3 : Int32) : Option ((Int32 × Int32) ⊕ (Int32)) :=
  (if i3 ≤ 0 then some (.inr i2) else (if (iv 50 2) ≤ i3 then some (.inr i2) else (if (iv 50 2) ≤ i2 then some (.inr i2) else (if vp_b i3 nf then some (.inl ((i2 + 1), ((iv fd i3.toNatClampNeg) >>> ((15 : Int32) &&& 31)))) else none))))
theorem b_X6_stepsTo_4 {E : am_E} {S : am_S} {Q : am_O → am_S → am_I → Prop} {fd : Nat} {nf : Nat} {sn : Nat} {ns : Nat} (hL : am_Lay S) (hF : am_Fd S fd nf sn ns) {z1 : Value} {i2 i3 : Int32} {iv : am_I} {y : (Int32 × Int32) ⊕ (Int32)} (e : B_X6_stepsTo_4 fd nf sn ns iv i2 i3 = some y) (hc : ∀ s, y = .inl s → ∀ z1 : Value, am_R E 0 mX6_stepsTo 0 0 4 [.ref 50, z1, .int s.1, .int s.2] [] S iv Q) (hx : ∀ a, y = .inr a → ∀ z0 z1 z3 : Value, am_R E 0 mX6_stepsTo 0 0 40 [z0, z1, .int a, z3] [] S iv Q) : am_R E 0 mX6_stepsTo 0 0 4 [.ref 50, z1, .int i2, .int i3] [] S iv Q := by
  refine (sX6_stepsTo_4 ?_)
  refine sX6_stepsTo_5 (fun hbr => ?_) (fun hbr => ?_)
  · replace e := am_pos hbr e
    exact hx _ (Option.some.inj e).symm _ _ _
  · replace e := am_neg hbr e
    refine (sX6_stepsTo_8 (sX6_stepsTo_9 rfl (sX6_stepsTo_10 (hL.1 _ _ rfl) ?_)))
    refine sX6_stepsTo_13 (fun hbr => ?_) (fun hbr => ?_)
    · replace e := am_pos hbr e
      exact hx _ (Option.some.inj e).symm _ _ _
    · replace e := am_neg hbr e
      refine (sX6_stepsTo_16 (sX6_stepsTo_17 rfl (sX6_stepsTo_18 (hL.1 _ _ rfl) ?_)))
      refine sX6_stepsTo_21 (fun hbr => ?_) (fun hbr => ?_)
      · replace e := am_pos hbr e
        exact hx _ (Option.some.inj e).symm _ _ _
      · replace e := am_neg hbr e
        replace e := am_ckv e; obtain ⟨c1, e⟩ := e
        refine (sX6_stepsTo_24 rfl (sX6_stepsTo_25 (hL.1 _ _ rfl) (hF.1) (sX6_stepsTo_28 (sX6_stepsTo_29 (hF.2.1) c1 (sX6_stepsTo_30 (sX6_stepsTo_32 (sX6_stepsTo_33 (sX6_stepsTo_34 (sX6_stepsTo_37 ?_)))))))))
        exact hc _ (Option.some.inj e).symm _
theorem l_X6_stepsTo_4 {E : am_E} {S : am_S} {Q : am_O → am_S → am_I → Prop} {fd : Nat} {nf : Nat} {sn : Nat} {ns : Nat} (hL : am_Lay S) (hF : am_Fd S fd nf sn ns) {iv : am_I} (s : (Int32 × Int32)) {x : (Int32)} (e : am_loop (fun s : (Int32 × Int32) => B_X6_stepsTo_4 fd nf sn ns iv s.1 s.2) s = some x) (hx : ∀ z0 z1 z3 : Value, am_R E 0 mX6_stepsTo 0 0 40 [z0, z1, .int x, z3] [] S iv Q) : ∀ z1 : Value, am_R E 0 mX6_stepsTo 0 0 4 [.ref 50, z1, .int s.1, .int s.2] [] S iv Q :=
  am_wh_sound (f := fun s : (Int32 × Int32) => B_X6_stepsTo_4 fd nf sn ns iv s.1 s.2) (P := fun s => ∀ z1 : Value, am_R E 0 mX6_stepsTo 0 0 4 [.ref 50, z1, .int s.1, .int s.2] [] S iv Q) (K := fun x => ∀ z0 z1 z3 : Value, am_R E 0 mX6_stepsTo 0 0 40 [z0, z1, .int x, z3] [] S iv Q) (fun s y e hc hkk => fun z1 => b_X6_stepsTo_4 hL hF e hc (fun a hy => hkk a hy)) am_fu s x e hx
def F_X6_stepsTo (fd : Nat) (nf : Nat) (sn : Nat) (ns : Nat) (i1 : Int32) (iv : am_I) : Option (Int32) :=
  (am_o1 (am_loop (fun s : (Int32 × Int32) => B_X6_stepsTo_4 fd nf sn ns iv s.1 s.2) ((0 : Int32), i1)) fun a2 => some a2)
theorem R_X6_stepsTo {E : am_E} {S : am_S} {Q : am_O → am_S → am_I → Prop} {fd : Nat} {nf : Nat} {sn : Nat} {ns : Nat} (hL : am_Lay S) (hF : am_Fd S fd nf sn ns) {i1 : Int32} {iv : am_I} {y : Int32} (e : F_X6_stepsTo fd nf sn ns i1 iv = some y) (h : Q (.inl (some (.int y))) S iv) {d : Nat} (hd : 0 ≤ d) : am_M E d mX6_stepsTo 0 0 [.ref 50, .int i1] S iv Q := by
  refine am_enter (js := [.double 0, .double 0]) rfl pn_X6 rfl rfl rfl (Nat.le_of_ble_eq_true rfl) (am_R.deep ?_ hd)
  refine (sX6_stepsTo_0 (sX6_stepsTo_1 (sX6_stepsTo_2 (sX6_stepsTo_3 ?_))))
  replace e := am_o1_i e; obtain ⟨a2, e2, e⟩ := e
  refine l_X6_stepsTo_4 hL hF _ e2 ?_ _
  intro z0 z1 z3
  refine (sX6_stepsTo_40 (sX6_stepsTo_41 ?_))
  obtain rfl := Option.some.inj e
  exact h
def B_X6_writeSteps_13 (fd : Nat) (nf : Nat) (sn : Nat) (ns : Nat) (pp : Nat) (np : Nat) (i4 : Int32) (i5 : Int32) (iv : am_I) : Option ((Int32 × Int32 × am_I) ⊕ ((am_I) ⊕ (am_I))) :=
  (if i5 < 0 then some (.inr (.inl iv)) else (if i4 ≤ 0 then some (.inr (.inl iv)) else (if (iv 50 2) ≤ i4 then some (.inr (.inl iv)) else (if vp_b i4 nf then (if ((iv fd i4.toNatClampNeg) >>> ((15 : Int32) &&& 31)) < 0 then some (.inr (.inr iv)) else (if ((iv fd i4.toNatClampNeg) >>> ((15 : Int32) &&& 31)) < i4 then (if vp_b i4 nf then (if vp_b ((iv fd i4.toNatClampNeg) >>> ((15 : Int32) &&& 31)) nf then (if vp_b i5 np then some (.inl (((iv fd i4.toNatClampNeg) >>> ((15 : Int32) &&& 31)), (i5 + (-1)), (am_w iv pp i5.toNatClampNeg (am_bcI ((((iv fd i4.toNatClampNeg) ^^^ (iv fd ((iv fd i4.toNatClampNeg) >>> ((15 : Int32) &&& 31)).toNatClampNeg)) &&& (iv 50 3)) - (1 : Int32)))))) else none) else none) else none) else some (.inr (.inr iv)))) else none))))
theorem b_X6_writeSteps_13 {E : am_E} {S : am_S} {Q : am_O → am_S → am_I → Prop} {fd : Nat} {nf : Nat} {sn : Nat} {ns : Nat} {pp : Nat} {np : Nat} (hL : am_Lay S) (hF : am_Fd S fd nf sn ns) (hP : S.1 pp = some (.inr (.int, np))) {z1 z2 z6 z7 : Value} {i4 i5 : Int32} {iv : am_I} {y : (Int32 × Int32 × am_I) ⊕ ((am_I) ⊕ (am_I))} (e : B_X6_writeSteps_13 fd nf sn ns pp np i4 i5 iv = some y) (hc : ∀ s, y = .inl s → ∀ z1 z2 z6 z7 : Value, am_R E 1 mX6_writeSteps 0 0 13 [.ref 50, z1, z2, .ref pp, .int s.1, .int s.2.1, z6, z7] [] S s.2.2 Q) (hx : ∀ a, y = .inr (.inl a) → ∀ z0 z1 z2 z3 z4 z5 z6 z7 : Value, am_R E 1 mX6_writeSteps 0 0 100 [z0, z1, z2, z3, z4, z5, z6, z7] [] S a Q) (hr : ∀ r, y = .inr (.inr r) → Q (.inl none) S r) : am_R E 1 mX6_writeSteps 0 0 13 [.ref 50, z1, z2, .ref pp, .int i4, .int i5, z6, z7] [] S iv Q := by
  refine (sX6_writeSteps_13 ?_)
  refine sX6_writeSteps_15 (fun hbr => ?_) (fun hbr => ?_)
  · replace e := am_pos hbr e
    exact hx _ (Option.some.inj e).symm _ _ _ _ _ _ _ _
  · replace e := am_neg hbr e
    refine (sX6_writeSteps_18 ?_)
    refine sX6_writeSteps_20 (fun hbr => ?_) (fun hbr => ?_)
    · replace e := am_pos hbr e
      exact hx _ (Option.some.inj e).symm _ _ _ _ _ _ _ _
    · replace e := am_neg hbr e
      refine (sX6_writeSteps_23 (sX6_writeSteps_25 rfl (sX6_writeSteps_26 (hL.1 _ _ rfl) ?_)))
      refine sX6_writeSteps_29 (fun hbr => ?_) (fun hbr => ?_)
      · replace e := am_pos hbr e
        exact hx _ (Option.some.inj e).symm _ _ _ _ _ _ _ _
      · replace e := am_neg hbr e
        replace e := am_ckv e; obtain ⟨c1, e⟩ := e
        refine (sX6_writeSteps_32 rfl (sX6_writeSteps_33 (hL.1 _ _ rfl) (hF.1) (sX6_writeSteps_36 (sX6_writeSteps_38 (hF.2.1) c1 (sX6_writeSteps_39 (sX6_writeSteps_41 (sX6_writeSteps_42 (sX6_writeSteps_44 ?_))))))))
        refine sX6_writeSteps_46 (fun hbr => ?_) (fun hbr => ?_)
        · replace e := am_pos hbr e
          refine (sX6_writeSteps_56 ?_)
          exact hr _ (Option.some.inj e).symm
        · replace e := am_neg hbr e
          refine (sX6_writeSteps_49 (sX6_writeSteps_51 ?_))
          refine sX6_writeSteps_53 (fun hbr => ?_) (fun hbr => ?_)
          · replace e := am_pos hbr e
            replace e := am_ckv e; obtain ⟨c2, e⟩ := e
            replace e := am_ckv e; obtain ⟨c3, e⟩ := e
            replace e := am_ckv e; obtain ⟨c4, e⟩ := e
            refine (sX6_writeSteps_57 rfl (sX6_writeSteps_58 (hL.1 _ _ rfl) (hF.1) (sX6_writeSteps_61 (sX6_writeSteps_63 (hF.2.1) c2 (sX6_writeSteps_64 rfl (sX6_writeSteps_65 (hL.1 _ _ rfl) (hF.1) (sX6_writeSteps_68 (sX6_writeSteps_70 (hF.2.1) c3 (sX6_writeSteps_71 (sX6_writeSteps_72 rfl (sX6_writeSteps_73 (hL.1 _ _ rfl) (sX6_writeSteps_76 (sX6_writeSteps_77 (sX6_writeSteps_79 rfl (sX6_writeSteps_80 (sX6_writeSteps_82 (sX6_writeSteps_84 (sX6_writeSteps_85 (sX6_writeSteps_86 (Nat.le_of_ble_eq_true rfl) (J_bcI (sX6_writeSteps_89 hP c4 (sX6_writeSteps_90 (sX6_writeSteps_92 (sX6_writeSteps_94 (sX6_writeSteps_97 ?_)))))))))))))))))))))))))
            exact hc _ (Option.some.inj e).symm _ _ _ _
          · replace e := am_neg hbr e
            refine (sX6_writeSteps_56 ?_)
            exact hr _ (Option.some.inj e).symm
theorem l_X6_writeSteps_13 {E : am_E} {S : am_S} {Q : am_O → am_S → am_I → Prop} {fd : Nat} {nf : Nat} {sn : Nat} {ns : Nat} {pp : Nat} {np : Nat} (hL : am_Lay S) (hF : am_Fd S fd nf sn ns) (hP : S.1 pp = some (.inr (.int, np))) (s : (Int32 × Int32 × am_I)) {x : ((am_I) ⊕ (am_I))} (e : am_loop (fun s : (Int32 × Int32 × am_I) => B_X6_writeSteps_13 fd nf sn ns pp np s.1 s.2.1 s.2.2) s = some x) (hx : ∀ a, x = .inl a → ∀ z0 z1 z2 z3 z4 z5 z6 z7 : Value, am_R E 1 mX6_writeSteps 0 0 100 [z0, z1, z2, z3, z4, z5, z6, z7] [] S a Q) (hr : ∀ r, x = .inr r → Q (.inl none) S r) : ∀ z1 z2 z6 z7 : Value, am_R E 1 mX6_writeSteps 0 0 13 [.ref 50, z1, z2, .ref pp, .int s.1, .int s.2.1, z6, z7] [] S s.2.2 Q :=
  am_wh_sound (f := fun s : (Int32 × Int32 × am_I) => B_X6_writeSteps_13 fd nf sn ns pp np s.1 s.2.1 s.2.2) (P := fun s => ∀ z1 z2 z6 z7 : Value, am_R E 1 mX6_writeSteps 0 0 13 [.ref 50, z1, z2, .ref pp, .int s.1, .int s.2.1, z6, z7] [] S s.2.2 Q) (K := fun x => (∀ a, x = .inl a → ∀ z0 z1 z2 z3 z4 z5 z6 z7 : Value, am_R E 1 mX6_writeSteps 0 0 100 [z0, z1, z2, z3, z4, z5, z6, z7] [] S a Q) ∧ (∀ r, x = .inr r → Q (.inl none) S r)) (fun s y e hc hkk => fun z1 z2 z6 z7 => b_X6_writeSteps_13 hL hF hP e hc (fun a hy => (hkk _ hy).1 a rfl) (fun r hy => (hkk _ hy).2 r rfl)) am_fu s x e ⟨hx, hr⟩
def F_X6_writeSteps (fd : Nat) (nf : Nat) (sn : Nat) (ns : Nat) (pp : Nat) (np : Nat) (i1 : Int32) (i2 : Int32) (iv : am_I) : Option (am_I) :=
  (am_lp (am_loop (fun s : (Int32 × Int32 × am_I) => B_X6_writeSteps_13 fd nf sn ns pp np s.1 s.2.1 s.2.2) (i1, ((if (Int32.ofNat np) < i2 then (Int32.ofNat np) else i2) - (1 : Int32)), iv)) (fun a5 => some a5) (fun r5 => some r5))
theorem R_X6_writeSteps {E : am_E} {S : am_S} {Q : am_O → am_S → am_I → Prop} {fd : Nat} {nf : Nat} {sn : Nat} {ns : Nat} {pp : Nat} {np : Nat} (hL : am_Lay S) (hF : am_Fd S fd nf sn ns) (hP : S.1 pp = some (.inr (.int, np))) {i1 i2 : Int32} {iv : am_I} {y : am_I} (e : F_X6_writeSteps fd nf sn ns pp np i1 i2 iv = some y) (h : Q (.inl none) S y) {d : Nat} (hd : 1 ≤ d) : am_M E d mX6_writeSteps 0 0 [.ref 50, .int i1, .int i2, .ref pp] S iv Q := by
  refine am_enter (js := [.double 0, .double 0, .double 0, .double 0]) rfl pn_X6 rfl rfl rfl (Nat.le_of_ble_eq_true rfl) (am_R.deep ?_ hd)
  refine (sX6_writeSteps_0 (sX6_writeSteps_1 (sX6_writeSteps_3 (sX6_writeSteps_4 rfl (sX6_writeSteps_5 hP rfl (sX6_writeSteps_6 (Nat.le_of_ble_eq_true rfl) (J_min (sX6_writeSteps_9 (sX6_writeSteps_10 (sX6_writeSteps_11 ?_))))))))))
  replace e := am_lp_i e; rcases e with ⟨a5, e5, e⟩ | ⟨r5, e5, e⟩
  · refine l_X6_writeSteps_13 hL hF hP _ e5 (fun a hq9 => ?_) (fun r hq9 => nomatch hq9) _ _ _ _
    obtain rfl := Sum.inl.inj hq9
    intro z0 z1 z2 z3 z4 z5 z6 z7
    refine (sX6_writeSteps_100 ?_)
    obtain rfl := Option.some.inj e
    exact h
  · refine l_X6_writeSteps_13 hL hF hP _ e5 (fun a hq9 => nomatch hq9) (fun r hq9 => ?_) _ _ _ _
    obtain rfl := Sum.inr.inj hq9
    obtain rfl := Option.some.inj e
    exact h
