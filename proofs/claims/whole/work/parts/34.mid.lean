/-! functions from a middle place on, and their rows (by program) -/
def B_X6_begin_47 (fd : Nat) (nf : Nat) (sn : Nat) (ns : Nat) (i3 : Int32) (i4 : Int32) (iv : am_I) : Option ((Int32 × am_I) ⊕ (am_I)) :=
  (if i3 ≤ i4 then some (.inr iv) else (if (Int32.ofNat ns) ≤ i4 then some (.inr iv) else (if vp_b i4 ns then some (.inl ((i4 + 1), (am_w iv sn i4.toNatClampNeg (0 : Int32)))) else none)))
theorem b_X6_begin_47 {E : am_E} {S : am_S} {Q : am_O → am_S → am_I → Prop} {fd : Nat} {nf : Nat} {sn : Nat} {ns : Nat} (hL : am_Lay S) (hF : am_Fd S fd nf sn ns) {z1 z2 : Value} {i3 i4 : Int32} {iv : am_I} {y : (Int32 × am_I) ⊕ (am_I)} (e : B_X6_begin_47 fd nf sn ns i3 i4 iv = some y) (hc : ∀ s, y = .inl s → ∀ z1 z2 : Value, am_R E 0 mX6_begin 0 0 47 [.ref 50, z1, z2, .int i3, .int s.1] [] S s.2 Q) (hx : ∀ a, y = .inr a → ∀ z1 z2 z3 z4 : Value, am_R E 0 mX6_begin 0 0 77 [.ref 50, z1, z2, z3, z4] [] S a Q) : am_R E 0 mX6_begin 0 0 47 [.ref 50, z1, z2, .int i3, .int i4] [] S iv Q := by
  refine (sX6_begin_47 (sX6_begin_49 ?_))
  refine sX6_begin_50 (fun hbr => ?_) (fun hbr => ?_)
  · replace e := am_pos hbr e
    exact hx _ (Option.some.inj e).symm _ _ _ _
  · replace e := am_neg hbr e
    refine (sX6_begin_53 (sX6_begin_55 rfl (sX6_begin_56 (hL.1 _ _ rfl) (hF.2.2.1) (sX6_begin_59 (hF.2.2.2) rfl ?_))))
    refine sX6_begin_60 (fun hbr => ?_) (fun hbr => ?_)
    · replace e := am_pos hbr e
      exact hx _ (Option.some.inj e).symm _ _ _ _
    · replace e := am_neg hbr e
      replace e := am_ckv e; obtain ⟨c1, e⟩ := e
      refine (sX6_begin_63 rfl (sX6_begin_64 (hL.1 _ _ rfl) (hF.2.2.1) (sX6_begin_67 (sX6_begin_69 (sX6_begin_70 (hF.2.2.2) c1 (sX6_begin_71 (sX6_begin_74 ?_)))))))
      exact hc _ (Option.some.inj e).symm _ _
theorem l_X6_begin_47 {E : am_E} {S : am_S} {Q : am_O → am_S → am_I → Prop} {fd : Nat} {nf : Nat} {sn : Nat} {ns : Nat} (hL : am_Lay S) (hF : am_Fd S fd nf sn ns) {i3 : Int32} (s : (Int32 × am_I)) {x : (am_I)} (e : am_loop (fun s : (Int32 × am_I) => B_X6_begin_47 fd nf sn ns i3 s.1 s.2) s = some x) (hx : ∀ z1 z2 z3 z4 : Value, am_R E 0 mX6_begin 0 0 77 [.ref 50, z1, z2, z3, z4] [] S x Q) : ∀ z1 z2 : Value, am_R E 0 mX6_begin 0 0 47 [.ref 50, z1, z2, .int i3, .int s.1] [] S s.2 Q :=
  am_wh_sound (f := fun s : (Int32 × am_I) => B_X6_begin_47 fd nf sn ns i3 s.1 s.2) (P := fun s => ∀ z1 z2 : Value, am_R E 0 mX6_begin 0 0 47 [.ref 50, z1, z2, .int i3, .int s.1] [] S s.2 Q) (K := fun x => ∀ z1 z2 z3 z4 : Value, am_R E 0 mX6_begin 0 0 77 [.ref 50, z1, z2, z3, z4] [] S x Q) (fun s y e hc hkk => fun z1 z2 => b_X6_begin_47 hL hF e hc (fun a hy => hkk a hy)) am_fu s x e hx
def J_X6_begin_77 (fd : Nat) (nf : Nat) (sn : Nat) (ns : Nat) (iv : am_I) : Option (am_I) :=
  some (am_w iv 50 2 (0 : Int32))
theorem j_X6_begin_77 {E : am_E} {S : am_S} {Q : am_O → am_S → am_I → Prop} {fd : Nat} {nf : Nat} {sn : Nat} {ns : Nat} (hL : am_Lay S) (hF : am_Fd S fd nf sn ns) {z1 z2 z3 z4 : Value} {iv : am_I} {y : am_I} (e : J_X6_begin_77 fd nf sn ns  iv = some y) (h : Q (.inl none) S y) : am_R E 0 mX6_begin 0 0 77 [.ref 50, z1, z2, z3, z4] [] S iv Q := by
  refine (sX6_begin_77 rfl (sX6_begin_78 (sX6_begin_79 (hL.1 _ _ rfl) (sX6_begin_82 ?_))))
  obtain rfl := Option.some.inj e
  exact h
def J_X6_begin_44 (fd : Nat) (nf : Nat) (sn : Nat) (ns : Nat) (i3 : Int32) (iv : am_I) : Option (am_I) :=
  (am_o1 (am_loop (fun s : (Int32 × am_I) => B_X6_begin_47 fd nf sn ns i3 s.1 s.2) ((0 : Int32), iv)) fun a2 => J_X6_begin_77 fd nf sn ns  a2)
theorem j_X6_begin_44 {E : am_E} {S : am_S} {Q : am_O → am_S → am_I → Prop} {fd : Nat} {nf : Nat} {sn : Nat} {ns : Nat} (hL : am_Lay S) (hF : am_Fd S fd nf sn ns) {z1 z2 z4 : Value} {i3 : Int32} {iv : am_I} {y : am_I} (e : J_X6_begin_44 fd nf sn ns i3 iv = some y) (h : Q (.inl none) S y) : am_R E 0 mX6_begin 0 0 44 [.ref 50, z1, z2, .int i3, z4] [] S iv Q := by
  refine (sX6_begin_44 (sX6_begin_45 ?_))
  replace e := am_o1_i e; obtain ⟨a2, e2, e⟩ := e
  refine l_X6_begin_47 hL hF _ e2 ?_ _ _
  intro z1 z2 z3 z4
  exact j_X6_begin_77 hL hF e h
def J_X6_seek_223 (fd : Nat) (nf : Nat) (sn : Nat) (ns : Nat) (w : Nat) (i3 : Int32) (i4 : Int32) (i5 : Int32) (i6 : Int32) (i7 : Int32) (i9 : Int32) (i10 : Int32) (i11 : Int32) (i12 : Int32) (i13 : Int32) (i14 : Int32) (iv : am_I) : Option ((Int32 × am_I) ⊕ ((am_I) ⊕ (Int32 × am_I))) :=
  (am_o2 (F_X6_note fd nf sn ns i14 i9 iv) fun v5 w5 => (if v5 = 0 then some (.inl ((i13 + 1), w5)) else (if (i14 &&& i4) = i5 then some (.inr (.inr (((w5 50 2) - (1 : Int32)), w5))) else some (.inl ((i13 + 1), w5)))))
theorem j_X6_seek_223 {E : am_E} {S : am_S} {Q : am_O → am_S → am_I → Prop} {fd : Nat} {nf : Nat} {sn : Nat} {ns : Nat} {w : Nat} (hL : am_Lay S) (hF : am_Fd S fd nf sn ns) (hw : w = 2 ∨ w = 22) {z2 z8 : Value} {i3 i4 i5 i6 i7 i9 i10 i11 i12 i13 i14 : Int32} {iv : am_I} {y : (Int32 × am_I) ⊕ ((am_I) ⊕ (Int32 × am_I))} (e : J_X6_seek_223 fd nf sn ns w i3 i4 i5 i6 i7 i9 i10 i11 i12 i13 i14 iv = some y) (hc : ∀ s, y = .inl s → ∀ z2 z8 z14 : Value, am_R E 5 mX6_seek 0 0 156 [.ref 50, .ref w, z2, .int i3, .int i4, .int i5, .int i6, .int i7, z8, .int i9, .int i10, .int i11, .int i12, .int s.1, z14] [] S s.2 Q) (hx : ∀ a, y = .inr (.inl a) → ∀ z2 z8 z10 z11 z12 z13 z14 : Value, am_R E 5 mX6_seek 0 0 257 [.ref 50, .ref w, z2, .int i3, .int i4, .int i5, .int i6, .int i7, z8, .int i9, z10, z11, z12, z13, z14] [] S a Q) (hr : ∀ r, y = .inr (.inr r) → Q (.inl (some (.int r.1))) S r.2) : am_R E 5 mX6_seek 0 0 223 [.ref 50, .ref w, z2, .int i3, .int i4, .int i5, .int i6, .int i7, z8, .int i9, .int i10, .int i11, .int i12, .int i13, .int i14] [] S iv Q := by
  replace e := am_o2_i e; obtain ⟨v5, w5, e5, e⟩ := e
  refine (sX6_seek_223 rfl (sX6_seek_224 (sX6_seek_226 (sX6_seek_228 (hL.1 _ _ rfl) (Nat.le_of_ble_eq_true rfl) (R_X6_note hL hF (h := ?_) (hd := (Nat.le_of_ble_eq_true rfl)) (e := e5))))))
  refine sX6_seek_231 (fun hbr => ?_) (fun hbr => ?_)
  · replace e := am_pos hbr e
    refine (sX6_seek_251 (sX6_seek_254 ?_))
    exact hc _ (Option.some.inj e).symm _ _ _
  · replace e := am_neg hbr e
    refine (sX6_seek_234 (sX6_seek_236 (sX6_seek_238 (sX6_seek_239 ?_))))
    refine sX6_seek_241 (fun hbr => ?_) (fun hbr => ?_)
    · replace e := am_neg hbr e
      refine (sX6_seek_251 (sX6_seek_254 ?_))
      exact hc _ (Option.some.inj e).symm _ _ _
    · replace e := am_pos hbr e
      refine (sX6_seek_244 rfl (sX6_seek_245 (hL.1 _ _ rfl) (sX6_seek_248 (sX6_seek_249 (sX6_seek_250 ?_)))))
      exact hr _ (Option.some.inj e).symm
def B_X6_seek_156 (fd : Nat) (nf : Nat) (sn : Nat) (ns : Nat) (w : Nat) (i3 : Int32) (i4 : Int32) (i5 : Int32) (i6 : Int32) (i7 : Int32) (i9 : Int32) (i10 : Int32) (i11 : Int32) (i12 : Int32) (i13 : Int32) (iv : am_I) : Option ((Int32 × am_I) ⊕ ((am_I) ⊕ (Int32 × am_I))) :=
  (if i6 ≤ i13 then some (.inr (.inl iv)) else (if ((i12 >>> (i13 &&& 31)) &&& (1 : Int32)) = 0 then some (.inl ((i13 + 1), iv)) else (am_o2 (F_X0_canBe w (i11 ^^^ ((1 : Int32) <<< (i13 &&& 31))) iv) fun v4 w4 => (if v4 = 0 then some (.inl ((i13 + 1), w4)) else (if i7 = 0 then J_X6_seek_223 fd nf sn ns w i3 i4 i5 i6 i7 i9 i10 i11 i12 i13 (i11 ^^^ ((1 : Int32) <<< (i13 &&& 31))) w4 else (am_o2 (F_X0_fedBy w (i11 ^^^ ((1 : Int32) <<< (i13 &&& 31))) w4) fun v6 w6 => J_X6_seek_223 fd nf sn ns w i3 i4 i5 i6 i7 i9 i10 i11 i12 i13 ((i11 ^^^ ((1 : Int32) <<< (i13 &&& 31))) ||| ((i10 &&& ((w4 50 3) ^^^ (-1 : Int32))) ||| (v6 <<< (i6 &&& 31)))) w6))))))
theorem b_X6_seek_156 {E : am_E} {S : am_S} {Q : am_O → am_S → am_I → Prop} {fd : Nat} {nf : Nat} {sn : Nat} {ns : Nat} {w : Nat} (hL : am_Lay S) (hF : am_Fd S fd nf sn ns) (hw : w = 2 ∨ w = 22) {z2 z8 z14 : Value} {i3 i4 i5 i6 i7 i9 i10 i11 i12 i13 : Int32} {iv : am_I} {y : (Int32 × am_I) ⊕ ((am_I) ⊕ (Int32 × am_I))} (e : B_X6_seek_156 fd nf sn ns w i3 i4 i5 i6 i7 i9 i10 i11 i12 i13 iv = some y) (hc : ∀ s, y = .inl s → ∀ z2 z8 z14 : Value, am_R E 5 mX6_seek 0 0 156 [.ref 50, .ref w, z2, .int i3, .int i4, .int i5, .int i6, .int i7, z8, .int i9, .int i10, .int i11, .int i12, .int s.1, z14] [] S s.2 Q) (hx : ∀ a, y = .inr (.inl a) → ∀ z2 z8 z10 z11 z12 z13 z14 : Value, am_R E 5 mX6_seek 0 0 257 [.ref 50, .ref w, z2, .int i3, .int i4, .int i5, .int i6, .int i7, z8, .int i9, z10, z11, z12, z13, z14] [] S a Q) (hr : ∀ r, y = .inr (.inr r) → Q (.inl (some (.int r.1))) S r.2) : am_R E 5 mX6_seek 0 0 156 [.ref 50, .ref w, z2, .int i3, .int i4, .int i5, .int i6, .int i7, z8, .int i9, .int i10, .int i11, .int i12, .int i13, z14] [] S iv Q := by
  refine (sX6_seek_156 (sX6_seek_158 ?_))
  refine sX6_seek_160 (fun hbr => ?_) (fun hbr => ?_)
  · replace e := am_pos hbr e
    exact hx _ (Option.some.inj e).symm _ _ _ _ _ _ _
  · replace e := am_neg hbr e
    refine (sX6_seek_163 (sX6_seek_165 (sX6_seek_166 (sX6_seek_168 (sX6_seek_169 (sX6_seek_170 (sX6_seek_172 (sX6_seek_174 (sX6_seek_176 (sX6_seek_177 (sX6_seek_178 ?_)))))))))))
    refine sX6_seek_179 (fun hbr => ?_) (fun hbr => ?_)
    · replace e := am_pos hbr e
      refine (sX6_seek_251 (sX6_seek_254 ?_))
      exact hc _ (Option.some.inj e).symm _ _ _
    · replace e := am_neg hbr e
      replace e := am_o2_i e; obtain ⟨v4, w4, e4, e⟩ := e
      refine (sX6_seek_182 rfl (sX6_seek_183 (sX6_seek_185 (kW_0 hL hw) (Nat.le_of_ble_eq_true rfl) (R_X0_canBe hL hw (h := ?_) (hd := (Nat.le_of_ble_eq_true rfl)) (e := e4)))))
      refine sX6_seek_188 (fun hbr => ?_) (fun hbr => ?_)
      · replace e := am_neg hbr e
        refine (sX6_seek_194 ?_)
        refine sX6_seek_196 (fun hbr => ?_) (fun hbr => ?_)
        · replace e := am_pos hbr e
          exact j_X6_seek_223 hL hF hw e hc hx hr
        · replace e := am_neg hbr e
          replace e := am_o2_i e; obtain ⟨v6, w6, e6, e⟩ := e
          refine (sX6_seek_199 (sX6_seek_201 (sX6_seek_203 rfl (sX6_seek_204 (hL.1 _ _ rfl) (sX6_seek_207 (sX6_seek_208 (sX6_seek_209 (sX6_seek_210 rfl (sX6_seek_211 (sX6_seek_213 (kW_0 hL hw) (Nat.le_of_ble_eq_true rfl) (R_X0_fedBy hL hw (h := (sX6_seek_216 (sX6_seek_218 (sX6_seek_219 (sX6_seek_220 (sX6_seek_221 ?_)))))) (hd := (Nat.le_of_ble_eq_true rfl)) (e := e6))))))))))))
          exact j_X6_seek_223 hL hF hw e hc hx hr
      · replace e := am_pos hbr e
        refine (sX6_seek_191 (sX6_seek_251 (sX6_seek_254 ?_)))
        exact hc _ (Option.some.inj e).symm _ _ _
theorem l_X6_seek_156 {E : am_E} {S : am_S} {Q : am_O → am_S → am_I → Prop} {fd : Nat} {nf : Nat} {sn : Nat} {ns : Nat} {w : Nat} (hL : am_Lay S) (hF : am_Fd S fd nf sn ns) (hw : w = 2 ∨ w = 22) {i3 i4 i5 i6 i7 i9 i10 i11 i12 : Int32} (s : (Int32 × am_I)) {x : ((am_I) ⊕ (Int32 × am_I))} (e : am_loop (fun s : (Int32 × am_I) => B_X6_seek_156 fd nf sn ns w i3 i4 i5 i6 i7 i9 i10 i11 i12 s.1 s.2) s = some x) (hx : ∀ a, x = .inl a → ∀ z2 z8 z10 z11 z12 z13 z14 : Value, am_R E 5 mX6_seek 0 0 257 [.ref 50, .ref w, z2, .int i3, .int i4, .int i5, .int i6, .int i7, z8, .int i9, z10, z11, z12, z13, z14] [] S a Q) (hr : ∀ r, x = .inr r → Q (.inl (some (.int r.1))) S r.2) : ∀ z2 z8 z14 : Value, am_R E 5 mX6_seek 0 0 156 [.ref 50, .ref w, z2, .int i3, .int i4, .int i5, .int i6, .int i7, z8, .int i9, .int i10, .int i11, .int i12, .int s.1, z14] [] S s.2 Q :=
  am_wh_sound (f := fun s : (Int32 × am_I) => B_X6_seek_156 fd nf sn ns w i3 i4 i5 i6 i7 i9 i10 i11 i12 s.1 s.2) (P := fun s => ∀ z2 z8 z14 : Value, am_R E 5 mX6_seek 0 0 156 [.ref 50, .ref w, z2, .int i3, .int i4, .int i5, .int i6, .int i7, z8, .int i9, .int i10, .int i11, .int i12, .int s.1, z14] [] S s.2 Q) (K := fun x => (∀ a, x = .inl a → ∀ z2 z8 z10 z11 z12 z13 z14 : Value, am_R E 5 mX6_seek 0 0 257 [.ref 50, .ref w, z2, .int i3, .int i4, .int i5, .int i6, .int i7, z8, .int i9, z10, z11, z12, z13, z14] [] S a Q) ∧ (∀ r, x = .inr r → Q (.inl (some (.int r.1))) S r.2)) (fun s y e hc hkk => fun z2 z8 z14 => b_X6_seek_156 hL hF hw e hc (fun a hy => (hkk _ hy).1 a rfl) (fun r hy => (hkk _ hy).2 r rfl)) am_fu s x e ⟨hx, hr⟩
def B_X6_seek_100 (fd : Nat) (nf : Nat) (sn : Nat) (ns : Nat) (w : Nat) (i3 : Int32) (i4 : Int32) (i5 : Int32) (i6 : Int32) (i7 : Int32) (i9 : Int32) (iv : am_I) : Option ((Int32 × am_I) ⊕ ((am_I) ⊕ (Int32 × am_I))) :=
  (if (iv 50 2) ≤ i9 then some (.inr (.inl iv)) else (if (Int32.ofNat nf) ≤ i9 then some (.inr (.inl iv)) else (if vp_b i9 nf then (am_o2 (F_X0_reachedBy w (((iv fd i9.toNatClampNeg) &&& (32767 : Int32)) &&& (iv 50 3)) iv) fun v3 w3 => (am_lp (am_loop (fun s : (Int32 × am_I) => B_X6_seek_156 fd nf sn ns w i3 i4 i5 i6 i7 i9 ((iv fd i9.toNatClampNeg) &&& (32767 : Int32)) (((iv fd i9.toNatClampNeg) &&& (32767 : Int32)) &&& (iv 50 3)) (v3 &&& (i3 ^^^ (-1 : Int32))) s.1 s.2) ((0 : Int32), w3)) (fun a7 => some (.inl ((i9 + 1), a7))) (fun r7 => some (.inr (.inr r7))))) else none)))
theorem b_X6_seek_100 {E : am_E} {S : am_S} {Q : am_O → am_S → am_I → Prop} {fd : Nat} {nf : Nat} {sn : Nat} {ns : Nat} {w : Nat} (hL : am_Lay S) (hF : am_Fd S fd nf sn ns) (hw : w = 2 ∨ w = 22) {z2 z8 z10 z11 z12 z13 z14 : Value} {i3 i4 i5 i6 i7 i9 : Int32} {iv : am_I} {y : (Int32 × am_I) ⊕ ((am_I) ⊕ (Int32 × am_I))} (e : B_X6_seek_100 fd nf sn ns w i3 i4 i5 i6 i7 i9 iv = some y) (hc : ∀ s, y = .inl s → ∀ z2 z8 z10 z11 z12 z13 z14 : Value, am_R E 5 mX6_seek 0 0 100 [.ref 50, .ref w, z2, .int i3, .int i4, .int i5, .int i6, .int i7, z8, .int s.1, z10, z11, z12, z13, z14] [] S s.2 Q) (hx : ∀ a, y = .inr (.inl a) → ∀ z0 z1 z2 z3 z4 z5 z6 z7 z8 z9 z10 z11 z12 z13 z14 : Value, am_R E 5 mX6_seek 0 0 263 [z0, z1, z2, z3, z4, z5, z6, z7, z8, z9, z10, z11, z12, z13, z14] [] S a Q) (hr : ∀ r, y = .inr (.inr r) → Q (.inl (some (.int r.1))) S r.2) : am_R E 5 mX6_seek 0 0 100 [.ref 50, .ref w, z2, .int i3, .int i4, .int i5, .int i6, .int i7, z8, .int i9, z10, z11, z12, z13, z14] [] S iv Q := by
  refine (sX6_seek_100 (sX6_seek_102 rfl (sX6_seek_103 (hL.1 _ _ rfl) ?_)))
  refine sX6_seek_106 (fun hbr => ?_) (fun hbr => ?_)
  · replace e := am_pos hbr e
    exact hx _ (Option.some.inj e).symm _ _ _ _ _ _ _ _ _ _ _ _ _ _ _
  · replace e := am_neg hbr e
    refine (sX6_seek_109 (sX6_seek_111 rfl (sX6_seek_112 (hL.1 _ _ rfl) (hF.1) (sX6_seek_115 (hF.2.1) rfl ?_))))
    refine sX6_seek_116 (fun hbr => ?_) (fun hbr => ?_)
    · replace e := am_pos hbr e
      exact hx _ (Option.some.inj e).symm _ _ _ _ _ _ _ _ _ _ _ _ _ _ _
    · replace e := am_neg hbr e
      replace e := am_ckv e; obtain ⟨c2, e⟩ := e
      replace e := am_o2_i e; obtain ⟨v3, w3, e3, e⟩ := e
      refine (sX6_seek_119 rfl (sX6_seek_120 (hL.1 _ _ rfl) (hF.1) (sX6_seek_123 (sX6_seek_125 (hF.2.1) c2 (sX6_seek_126 (sX6_seek_129 (sX6_seek_130 (sX6_seek_132 (sX6_seek_134 rfl (sX6_seek_135 (hL.1 _ _ rfl) (sX6_seek_138 (sX6_seek_139 (sX6_seek_141 rfl (sX6_seek_142 (sX6_seek_144 (kW_0 hL hw) (Nat.le_of_ble_eq_true rfl) (R_X0_reachedBy hL hw (h := (sX6_seek_147 (sX6_seek_148 (sX6_seek_149 (sX6_seek_150 (sX6_seek_151 (sX6_seek_153 (sX6_seek_154 ?_)))))))) (hd := (Nat.le_of_ble_eq_true rfl)) (e := e3)))))))))))))))))
      replace e := am_lp_i e; rcases e with ⟨a7, e7, e⟩ | ⟨r7, e7, e⟩
      · refine l_X6_seek_156 hL hF hw _ e7 (fun a hq9 => ?_) (fun r hq9 => nomatch hq9) _ _ _
        obtain rfl := Sum.inl.inj hq9
        intro z2 z8 z10 z11 z12 z13 z14
        refine (sX6_seek_257 (sX6_seek_260 ?_))
        exact hc _ (Option.some.inj e).symm _ _ _ _ _ _ _
      · refine l_X6_seek_156 hL hF hw _ e7 (fun a hq9 => nomatch hq9) (fun r hq9 => ?_) _ _ _
        obtain rfl := Sum.inr.inj hq9
        exact hr _ (Option.some.inj e).symm
theorem l_X6_seek_100 {E : am_E} {S : am_S} {Q : am_O → am_S → am_I → Prop} {fd : Nat} {nf : Nat} {sn : Nat} {ns : Nat} {w : Nat} (hL : am_Lay S) (hF : am_Fd S fd nf sn ns) (hw : w = 2 ∨ w = 22) {i3 i4 i5 i6 i7 : Int32} (s : (Int32 × am_I)) {x : ((am_I) ⊕ (Int32 × am_I))} (e : am_loop (fun s : (Int32 × am_I) => B_X6_seek_100 fd nf sn ns w i3 i4 i5 i6 i7 s.1 s.2) s = some x) (hx : ∀ a, x = .inl a → ∀ z0 z1 z2 z3 z4 z5 z6 z7 z8 z9 z10 z11 z12 z13 z14 : Value, am_R E 5 mX6_seek 0 0 263 [z0, z1, z2, z3, z4, z5, z6, z7, z8, z9, z10, z11, z12, z13, z14] [] S a Q) (hr : ∀ r, x = .inr r → Q (.inl (some (.int r.1))) S r.2) : ∀ z2 z8 z10 z11 z12 z13 z14 : Value, am_R E 5 mX6_seek 0 0 100 [.ref 50, .ref w, z2, .int i3, .int i4, .int i5, .int i6, .int i7, z8, .int s.1, z10, z11, z12, z13, z14] [] S s.2 Q :=
  am_wh_sound (f := fun s : (Int32 × am_I) => B_X6_seek_100 fd nf sn ns w i3 i4 i5 i6 i7 s.1 s.2) (P := fun s => ∀ z2 z8 z10 z11 z12 z13 z14 : Value, am_R E 5 mX6_seek 0 0 100 [.ref 50, .ref w, z2, .int i3, .int i4, .int i5, .int i6, .int i7, z8, .int s.1, z10, z11, z12, z13, z14] [] S s.2 Q) (K := fun x => (∀ a, x = .inl a → ∀ z0 z1 z2 z3 z4 z5 z6 z7 z8 z9 z10 z11 z12 z13 z14 : Value, am_R E 5 mX6_seek 0 0 263 [z0, z1, z2, z3, z4, z5, z6, z7, z8, z9, z10, z11, z12, z13, z14] [] S a Q) ∧ (∀ r, x = .inr r → Q (.inl (some (.int r.1))) S r.2)) (fun s y e hc hkk => fun z2 z8 z10 z11 z12 z13 z14 => b_X6_seek_100 hL hF hw e hc (fun a hy => (hkk _ hy).1 a rfl) (fun r hy => (hkk _ hy).2 r rfl)) am_fu s x e ⟨hx, hr⟩
def J_X6_seek_75 (fd : Nat) (nf : Nat) (sn : Nat) (ns : Nat) (w : Nat) (i3 : Int32) (i4 : Int32) (i5 : Int32) (i6 : Int32) (i7 : Int32) (k0 : Int32) (iv : am_I) : Option (Int32 × am_I) :=
  (am_o2 (F_X6_note fd nf sn ns k0 (0 : Int32) iv) fun v1 w1 => (if (k0 &&& i4) = i5 then some ((0 : Int32), w1) else (am_lp (am_loop (fun s : (Int32 × am_I) => B_X6_seek_100 fd nf sn ns w i3 i4 i5 i6 i7 s.1 s.2) ((0 : Int32), w1)) (fun a8 => some ((-1 : Int32), a8)) (fun r8 => some r8))))
theorem j_X6_seek_75 {E : am_E} {S : am_S} {Q : am_O → am_S → am_I → Prop} {fd : Nat} {nf : Nat} {sn : Nat} {ns : Nat} {w : Nat} (hL : am_Lay S) (hF : am_Fd S fd nf sn ns) (hw : w = 2 ∨ w = 22) {z2 z8 z9 z10 z11 z12 z13 z14 : Value} {i3 i4 i5 i6 i7 k0 : Int32} {iv : am_I} {y : Int32 × am_I} (e : J_X6_seek_75 fd nf sn ns w i3 i4 i5 i6 i7 k0 iv = some y) (h : Q (.inl (some (.int y.1))) S y.2) : am_R E 5 mX6_seek 0 0 75 [.ref 50, .ref w, z2, .int i3, .int i4, .int i5, .int i6, .int i7, z8, z9, z10, z11, z12, z13, z14] [.int k0] S iv Q := by
  replace e := am_o2_i e; obtain ⟨v1, w1, e1, e⟩ := e
  refine (sX6_seek_75 (sX6_seek_77 rfl (sX6_seek_78 (sX6_seek_80 (sX6_seek_81 (hL.1 _ _ rfl) (Nat.le_of_ble_eq_true rfl) (R_X6_note hL hF (h := (sX6_seek_84 rfl (sX6_seek_85 (sX6_seek_87 (sX6_seek_89 (sX6_seek_90 ?_)))))) (hd := (Nat.le_of_ble_eq_true rfl)) (e := e1)))))))
  refine sX6_seek_92 (fun hbr => ?_) (fun hbr => ?_)
  · replace e := am_neg hbr e
    refine (sX6_seek_97 (sX6_seek_98 ?_))
    replace e := am_lp_i e; rcases e with ⟨a8, e8, e⟩ | ⟨r8, e8, e⟩
    · refine l_X6_seek_100 hL hF hw _ e8 (fun a hq9 => ?_) (fun r hq9 => nomatch hq9) _ _ _ _ _ _ _
      obtain rfl := Sum.inl.inj hq9
      intro z0 z1 z2 z3 z4 z5 z6 z7 z8 z9 z10 z11 z12 z13 z14
      refine (sX6_seek_263 (sX6_seek_264 ?_))
      obtain rfl := Option.some.inj e
      exact h
    · refine l_X6_seek_100 hL hF hw _ e8 (fun a hq9 => nomatch hq9) (fun r hq9 => ?_) _ _ _ _ _ _ _
      obtain rfl := Sum.inr.inj hq9
      obtain rfl := Option.some.inj e
      exact h
  · replace e := am_pos hbr e
    refine (sX6_seek_95 (sX6_seek_96 ?_))
    obtain rfl := Option.some.inj e
    exact h
def J_X6_seek_60 (fd : Nat) (nf : Nat) (sn : Nat) (ns : Nat) (w : Nat) (i2 : Int32) (i3 : Int32) (i4 : Int32) (i5 : Int32) (i6 : Int32) (i7 : Int32) (iv : am_I) : Option (Int32 × am_I) :=
  (if i7 = 0 then J_X6_seek_75 fd nf sn ns w i3 i4 i5 i6 i7 (i2 &&& (iv 50 3)) iv else J_X6_seek_75 fd nf sn ns w i3 i4 i5 i6 i7 i2 iv)
theorem j_X6_seek_60 {E : am_E} {S : am_S} {Q : am_O → am_S → am_I → Prop} {fd : Nat} {nf : Nat} {sn : Nat} {ns : Nat} {w : Nat} (hL : am_Lay S) (hF : am_Fd S fd nf sn ns) (hw : w = 2 ∨ w = 22) {z8 z9 z10 z11 z12 z13 z14 : Value} {i2 i3 i4 i5 i6 i7 : Int32} {iv : am_I} {y : Int32 × am_I} (e : J_X6_seek_60 fd nf sn ns w i2 i3 i4 i5 i6 i7 iv = some y) (h : Q (.inl (some (.int y.1))) S y.2) : am_R E 5 mX6_seek 0 0 60 [.ref 50, .ref w, .int i2, .int i3, .int i4, .int i5, .int i6, .int i7, z8, z9, z10, z11, z12, z13, z14] [] S iv Q := by
  refine (sX6_seek_60 ?_)
  refine sX6_seek_62 (fun hbr => ?_) (fun hbr => ?_)
  · replace e := am_pos hbr e
    refine (sX6_seek_69 (sX6_seek_70 rfl (sX6_seek_71 (hL.1 _ _ rfl) (sX6_seek_74 ?_))))
    exact j_X6_seek_75 hL hF hw e h
  · replace e := am_neg hbr e
    refine (sX6_seek_65 (sX6_seek_66 ?_))
    exact j_X6_seek_75 hL hF hw e h
def B_X6_everOut_16 (fd : Nat) (nf : Nat) (sn : Nat) (ns : Nat) (iv : am_I) (i4 : Int32) (i5 : Int32) : Option ((Int32 × Int32) ⊕ (Int32)) :=
  (if (iv 50 2) ≤ i5 then some (.inr i4) else (if vp_b i5 nf then some (.inl ((i4 ||| ((iv fd i5.toNatClampNeg) &&& (iv 50 3))), (i5 + 1))) else none))
theorem b_X6_everOut_16 {E : am_E} {S : am_S} {Q : am_O → am_S → am_I → Prop} {fd : Nat} {nf : Nat} {sn : Nat} {ns : Nat} (hL : am_Lay S) (hF : am_Fd S fd nf sn ns) {z1 z2 z3 : Value} {i4 i5 : Int32} {iv : am_I} {y : (Int32 × Int32) ⊕ (Int32)} (e : B_X6_everOut_16 fd nf sn ns iv i4 i5 = some y) (hc : ∀ s, y = .inl s → ∀ z1 z2 z3 : Value, am_R E 0 mX6_everOut 0 0 16 [.ref 50, z1, z2, z3, .int s.1, .int s.2] [] S iv Q) (hx : ∀ a, y = .inr a → ∀ z0 z1 z2 z3 z5 : Value, am_R E 0 mX6_everOut 0 0 48 [z0, z1, z2, z3, .int a, z5] [] S iv Q) : am_R E 0 mX6_everOut 0 0 16 [.ref 50, z1, z2, z3, .int i4, .int i5] [] S iv Q := by
  refine (sX6_everOut_16 (sX6_everOut_18 rfl (sX6_everOut_19 (hL.1 _ _ rfl) ?_)))
  refine sX6_everOut_22 (fun hbr => ?_) (fun hbr => ?_)
  · replace e := am_pos hbr e
    exact hx _ (Option.some.inj e).symm _ _ _ _ _
  · replace e := am_neg hbr e
    replace e := am_ckv e; obtain ⟨c1, e⟩ := e
    refine (sX6_everOut_25 (sX6_everOut_27 rfl (sX6_everOut_28 (hL.1 _ _ rfl) (hF.1) (sX6_everOut_31 (sX6_everOut_33 (hF.2.1) c1 (sX6_everOut_34 rfl (sX6_everOut_35 (hL.1 _ _ rfl) (sX6_everOut_38 (sX6_everOut_39 (sX6_everOut_40 (sX6_everOut_42 (sX6_everOut_45 ?_))))))))))))
    exact hc _ (Option.some.inj e).symm _ _ _
theorem l_X6_everOut_16 {E : am_E} {S : am_S} {Q : am_O → am_S → am_I → Prop} {fd : Nat} {nf : Nat} {sn : Nat} {ns : Nat} (hL : am_Lay S) (hF : am_Fd S fd nf sn ns) {iv : am_I} (s : (Int32 × Int32)) {x : (Int32)} (e : am_loop (fun s : (Int32 × Int32) => B_X6_everOut_16 fd nf sn ns iv s.1 s.2) s = some x) (hx : ∀ z0 z1 z2 z3 z5 : Value, am_R E 0 mX6_everOut 0 0 48 [z0, z1, z2, z3, .int x, z5] [] S iv Q) : ∀ z1 z2 z3 : Value, am_R E 0 mX6_everOut 0 0 16 [.ref 50, z1, z2, z3, .int s.1, .int s.2] [] S iv Q :=
  am_wh_sound (f := fun s : (Int32 × Int32) => B_X6_everOut_16 fd nf sn ns iv s.1 s.2) (P := fun s => ∀ z1 z2 z3 : Value, am_R E 0 mX6_everOut 0 0 16 [.ref 50, z1, z2, z3, .int s.1, .int s.2] [] S iv Q) (K := fun x => ∀ z0 z1 z2 z3 z5 : Value, am_R E 0 mX6_everOut 0 0 48 [z0, z1, z2, z3, .int x, z5] [] S iv Q) (fun s y e hc hkk => fun z1 z2 z3 => b_X6_everOut_16 hL hF e hc (fun a hy => hkk a hy)) am_fu s x e hx
def J_X6_everOut_10 (fd : Nat) (nf : Nat) (sn : Nat) (ns : Nat) (iv : am_I) : Option (Int32 × am_I) :=
  (am_o1 (am_loop (fun s : (Int32 × Int32) => B_X6_everOut_16 fd nf sn ns iv s.1 s.2) ((0 : Int32), (0 : Int32))) fun a2 => some (a2, iv))
theorem j_X6_everOut_10 {E : am_E} {S : am_S} {Q : am_O → am_S → am_I → Prop} {fd : Nat} {nf : Nat} {sn : Nat} {ns : Nat} (hL : am_Lay S) (hF : am_Fd S fd nf sn ns) {z1 z2 z3 z4 z5 : Value} {iv : am_I} {y : Int32 × am_I} (e : J_X6_everOut_10 fd nf sn ns  iv = some y) (h : Q (.inl (some (.int y.1))) S y.2) : am_R E 0 mX6_everOut 0 0 10 [.ref 50, z1, z2, z3, z4, z5] [] S iv Q := by
  refine (sX6_everOut_10 (sX6_everOut_11 (sX6_everOut_13 (sX6_everOut_14 ?_))))
  replace e := am_o1_i e; obtain ⟨a2, e2, e⟩ := e
  refine l_X6_everOut_16 hL hF _ e2 ?_ _ _ _
  intro z0 z1 z2 z3 z5
  refine (sX6_everOut_48 (sX6_everOut_50 ?_))
  obtain rfl := Option.some.inj e
  exact h
