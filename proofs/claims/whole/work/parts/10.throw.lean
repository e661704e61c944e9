/-! what is thrown, what is caught; texts by wide entries; System.arraycopy -/
section AMX
variable {E : am_E} {d : Nat} {M : am_Me} {k n pc : Nat} {ls st : List Value} {S : am_S} {iv : am_I} {Q : am_O → am_S → am_I → Prop}
theorem am_ldcSw {j idx : Nat} {tx : String} (hd : decode M.2.2.1 pc = .ok (.ldc_w idx, 3)) (hs : (j, M.1, idx, tx) ∈ am_st) (h : am_R E d M k n (pc + 3) ls (.retAddr j :: st) S iv Q) : am_R E d M k n pc ls st S iv Q := by
  intro p e R s m args below meth c mc ms C0 hR H rls locs cells slots hP hL hS h1 h2 h3 h4 T hT X
  obtain ⟨t, a1, b1⟩ := h p e R s m args below meth c mc ms C0 hR H rls locs cells slots hP hL hS h1 h2 h3 h4 T hT X
  have hZ := C0.2.2.2.2.2.2.2.2.2.2.2.2.2.2.1 _ hs
  have hZ1 : (Cond.stringRef M.1 idx tx).before args s = true := by
    have h9 := hZ.1
    simp only [Cond.before, Cond.holds, Cond.value] at h9 ⊢
    exact h9
  have hZ2 : (Term.string M.1 idx).eval args s none [] s = some (.ref (am_aK E j)) := by
    have h9 := hZ.2
    simp only [Term.eval] at h9 ⊢
    exact h9
  exact ⟨t, X.ldcStringW C0.1 C0.2.2.2.2.1 hZ1 hZ2 (g := F0 m pc rls (st.map (am_tr E))) rfl (by rw [C0.2.1]; exact hd) t a1, b1⟩
/-- 'throw new X("..")' -/
theorem am_throw {X tx : String} {ik is ic j : Nat} (d0 : decode M.2.2.1 pc = .ok (.new ik, 3)) (d3 : decode M.2.2.1 (pc + 3) = .ok (.dup, 1)) (d4 : decode M.2.2.1 (pc + 4) = .ok (.ldc is, 2)) (d6 : decode M.2.2.1 (pc + 6) = .ok (.invokespecial ic, 3)) (d9 : decode M.2.2.1 (pc + 9) = .ok (.athrow, 1))
    (hh : M.2.2.2.2.2 = []) (hX : Bundle.fit X = true) (hw1 : Cond.classLink M.1 ik X ∈ am_gw) (hw2 : Cond.initialized X ∈ am_gw) (hw3 : ∀ w ∈ vx_atS M.1 ic X ["java/lang/RuntimeException", "java/lang/Exception"], w ∈ am_gw) (hgood : ∀ w ∈ Cond.classLink M.1 ik X :: Cond.initialized X :: vx_atS M.1 ic X ["java/lang/RuntimeException", "java/lang/Exception"], vx_ot w = true) (hs : (j, M.1, is, tx) ∈ am_st)
    (hdd : 7 ≤ d) (hst : (st.map fun v => v.category).sum ≤ 8) (hk : 1 ≤ k) (hn : 6 ≤ n) (h : ∀ nx, S.2.2.2 ≤ nx → Q (.inr X) (S.1, S.2.1, S.2.2.1, nx) iv) : am_R E d M k n pc ls st S iv Q := by
  intro p e R s m args below meth c mc ms C0 hR H rls locs cells slots hP hL hS h1 h2 h3 h4
  have hts := C0.2.2.2.2.2.1
  have hG := C0.2.2.2.2.2.2.2.2.2
  have hcat : ((st.map (am_tr E)).map fun v => v.category).sum ≤ 8 := by
    rw [List.map_map]
    have : ((fun v : Value => v.category) ∘ am_tr E) = fun v => v.category := funext fun v => am_tr_cat E v
    rw [this]; exact hst
  have hf := hR.1
  have hlo := hR.2
  refine vx_throwS (A := am_A E) (names := ["java/lang/RuntimeException", "java/lang/Exception"]) C0.1 C0.2.1 hG.2.2.2.2.2.2.2.2.2.2.1 C0.2.2.2.2.1 hX (by decide) (hts _ hw1) (hts _ hw2) (hG.2.2.2.2.2.1 _ hs) (fun w hw => hts w (hw3 w hw)) hgood hG.2.2.2.2.2.2.2.1 hG.2.2.2.2.2.2.2.2.1 hS (hL.1.trans C0.2.2.1.symm) d0 d3 d4 d6 d9 ?_ (by show 2 + 3 < R.frames; omega) (by show _ + (13 * (2 + 1) + 43) ≤ R.locals; omega) (by omega) (by omega) C0.2.2.2.2.2.2.1 ?_ hS.2.2 (by omega) (by omega)
  · intro x hx
    rw [C0.2.2.2.2.2.2.2.2.1, hh] at hx
    cases hx
  · intro t _ hz hq
    have hsz : H.size = am_z E + S.2.2.2 := hP.1
    refine ⟨⟨(S.1, S.2.1, S.2.2.1, t.heap.size - am_z E), iv, ⟨by show t.heap.size = am_z E + (t.heap.size - am_z E); omega, fun a ha => hP.2.1 a (by have : t.heap.size - am_z E ≤ a := ha; omega), fun a x hx => ?_⟩, h _ (by omega)⟩, Nat.le_trans hS.1 hz, fun q g1 g2 => (hq q (Nat.lt_of_lt_of_le g1 hS.1)).trans (hS.2.1 q g1 g2)⟩
    have h9 := hP.2.2 a x hx
    exact h9.kept (hq _ h9.lt)
theorem am_throwW {X tx : String} {ik is ic j : Nat} (d0 : decode M.2.2.1 pc = .ok (.new ik, 3)) (d3 : decode M.2.2.1 (pc + 3) = .ok (.dup, 1)) (d4 : decode M.2.2.1 (pc + 4) = .ok (.ldc_w is, 3)) (d7 : decode M.2.2.1 (pc + 7) = .ok (.invokespecial ic, 3)) (d10 : decode M.2.2.1 (pc + 10) = .ok (.athrow, 1))
    (hh : M.2.2.2.2.2 = []) (hX : Bundle.fit X = true) (hw1 : Cond.classLink M.1 ik X ∈ am_gw) (hw2 : Cond.initialized X ∈ am_gw) (hw3 : ∀ w ∈ vx_atS M.1 ic X ["java/lang/RuntimeException", "java/lang/Exception"], w ∈ am_gw) (hgood : ∀ w ∈ Cond.classLink M.1 ik X :: Cond.initialized X :: vx_atS M.1 ic X ["java/lang/RuntimeException", "java/lang/Exception"], vx_ot w = true) (hs : (j, M.1, is, tx) ∈ am_st)
    (hdd : 7 ≤ d) (hst : (st.map fun v => v.category).sum ≤ 8) (hk : 1 ≤ k) (hn : 6 ≤ n) (h : ∀ nx, S.2.2.2 ≤ nx → Q (.inr X) (S.1, S.2.1, S.2.2.1, nx) iv) : am_R E d M k n pc ls st S iv Q := by
  intro p e R s m args below meth c mc ms C0 hR H rls locs cells slots hP hL hS h1 h2 h3 h4
  have hts := C0.2.2.2.2.2.1
  have hG := C0.2.2.2.2.2.2.2.2.2
  have hcat : ((st.map (am_tr E)).map fun v => v.category).sum ≤ 8 := by
    rw [List.map_map]
    have : ((fun v : Value => v.category) ∘ am_tr E) = fun v => v.category := funext fun v => am_tr_cat E v
    rw [this]; exact hst
  have hf := hR.1
  have hlo := hR.2
  refine vx_throwSW (A := am_A E) (names := ["java/lang/RuntimeException", "java/lang/Exception"]) C0.1 C0.2.1 hG.2.2.2.2.2.2.2.2.2.2.1 C0.2.2.2.2.1 hX (by decide) (hts _ hw1) (hts _ hw2) (hG.2.2.2.2.2.1 _ hs) (fun w hw => hts w (hw3 w hw)) hgood hG.2.2.2.2.2.2.2.1 hG.2.2.2.2.2.2.2.2.1 hS (hL.1.trans C0.2.2.1.symm) d0 d3 d4 d7 d10 ?_ (by show 2 + 3 < R.frames; omega) (by show _ + (13 * (2 + 1) + 43) ≤ R.locals; omega) (by omega) (by omega) C0.2.2.2.2.2.2.1 ?_ hS.2.2 (by omega) (by omega)
  · intro x hx
    rw [C0.2.2.2.2.2.2.2.2.1, hh] at hx
    cases hx
  · intro t _ hz hq
    have hsz : H.size = am_z E + S.2.2.2 := hP.1
    refine ⟨⟨(S.1, S.2.1, S.2.2.1, t.heap.size - am_z E), iv, ⟨by show t.heap.size = am_z E + (t.heap.size - am_z E); omega, fun a ha => hP.2.1 a (by have : t.heap.size - am_z E ≤ a := ha; omega), fun a x hx => ?_⟩, h _ (by omega)⟩, Nat.le_trans hS.1 hz, fun q g1 g2 => (hq q (Nat.lt_of_lt_of_le g1 hS.1)).trans (hS.2.1 q g1 g2)⟩
    have h9 := hP.2.2 a x hx
    exact h9.kept (hq _ h9.lt)
/-- a handler's search that ends at one row whose class is linked, cold or warm -/
theorem am_goLink {Q : Handler → Pre} {E : CtlPost} {e : Env} {d : Bool} {acts : List Action} {s : State} {f : JFrame} {a : Addr} {x : ExceptionTableEntry} {t : List ExceptionTableEntry} {c : ClassId} {cell : Cell} (hx : covers x f.pc = true) (h0 : x.catchType ≠ 0)
    (hl : s.vm.ClassLinks e.platform f.method.cls x.catchType c) (hcell : s.heap[a]? = some cell) (hobj : ∀ k, cell.vm ≠ .statics k) {k1 k2 : Class} (hk1 : s.vm.classes[cell.cls]? = some k1) (hk2 : s.vm.classes[c]? = some k2) (hfit : s.vm.assignable cell.cls c = true) :
    wp (findHandler.go f a (x :: t)) Q E e d acts s ↔ Q (.found x.handlerPc) d acts (s.setVm (s.vm.noted f.method.cls x.catchType (.cls c))) := by
  simp only [covers] at hx
  obtain ⟨ha, ht⟩ := (resolveClass_links e.toSetting hl).op (op := VmOp.resolveClass f.method.cls x.catchType) rfl
  have hal : s.vm.Alike (s.vm.noted f.method.cls x.catchType (.cls c)) := (Vm.Alike.refl s.vm).noted _ _ _
  obtain ⟨k1', hk1', -⟩ := hal.2.2 _ _ hk1
  obtain ⟨k2', hk2', -⟩ := hal.2.2 _ _ hk2
  have hfit' : (s.vm.noted f.method.cls x.catchType (.cls c)).assignable cell.cls c = true := by rw [hal.assignable]; exact hfit
  simp [findHandler.go, hx, h0, ha, ht, hcell, hobj, hk1', hk2', hfit', VmOp.dirties, VmOp.acts]
theorem am_catchTo {e : Env} {s : State} {a : Addr} {f : JFrame} {r : List Frame} {pc : Nat} {vm' : Vm} (hfind : ∀ (Q : Handler → Pre) (E : CtlPost) (d : Bool) (acts : List Action), wp (findHandler f a) Q E e d acts s ↔ Q (.found pc) d acts (s.setVm vm')) :
    (stepThrowing e s a (.java f :: r)).Is ((s.setVm vm').setFrames (.java { f with pc := pc, stack := [.ref a] } :: r)) [] := by
  simp only [stepThrowing, searchFrame, vmDo]
  generalize hr : Sem.go _ e false [] s = res
  obtain ⟨as, rfl, ha⟩ := Sem.eq_ok_of hr (a := Handler.found pc) (s' := s.setVm vm') (acts' := []) (by simp [hfind _ _ _ _])
  exact ⟨rfl, ha⟩
theorem am_caughtTo {tb : Tables} {e : Env} {s target : State} {g : JFrame} {c : Code} {below : List Frame} {a : Addr} (h : At s g.method c below) {pc : Nat} {vm' : Vm}
    (hfind : ∀ (Q : Handler → Pre) (E : CtlPost) (d : Bool) (acts : List Action), wp (findHandler g a) Q E e d acts ((s.setTop g).pushFrame (.throwing a)) ↔ Q (.found pc) d acts (((s.setTop g).pushFrame (.throwing a)).setVm vm'))
    (hrest : Steps tb e below ((s.setVm vm').setTop { g with pc := pc, stack := [.ref a] }) target) : Steps tb e below ((s.setTop g).pushFrame (.throwing a)) target := by
  obtain ⟨hgo, hw⟩ := h.throwing a
  refine Steps.head hgo hw ?_
  rw [stepThread_throwing (frames_entered h.top _), (am_catchTo (s := (s.setTop g).pushFrame (.throwing a)) hfind).1]
  obtain ⟨g₀, hg⟩ := Option.isSome_iff_exists.mp h.top
  obtain ⟨r, hr⟩ := State.topJava?_eq_some.mp hg
  have hr' : (s.setVm vm').frames = .java g₀ :: r := hr
  have key : ∀ (u : State) (F G : List Frame), ((u.setFrames F).setVm vm').setFrames G = (u.setVm vm').setFrames G := fun u F G => by
    have h1 : (u.setFrames F).setVm vm' = (u.setVm vm').setFrames F := rfl
    rw [h1, State.setFrames_setFrames]
  rw [State.setTop_of_frames _ hr'] at hrest
  rw [hr, List.tail_cons, State.pushFrame, key, State.setTop_of_frames _ hr, key]
  exact hrest
/-- caught by the one row of this method's table; the handler begins by laying it aside -/
theorem am_catch {X nm : String} {a1 b1 hp ct i : Nat} {j : Fin 4} (hh : M.2.2.2.2.2 = [(a1, b1, hp, ct)]) (hcov : covers (⟨a1, b1, hp, ct⟩ : ExceptionTableEntry) pc = true) (hct : ct ≠ 0) (hw1 : Cond.classLink M.1 ct nm ∈ am_gw) (hw2 : Cond.castable X nm ∈ am_gw) (hd : decode M.2.2.1 hp = .ok (.astore_n j, 1)) (hj : (j : Nat) = i) (hi : i < M.2.2.2.1)
    (h : am_R E d M k n (hp + 1) (ls.set i (.double 0)) [] S iv Q) : am_T E d M k n pc ls X S iv Q := by
  intro p e R s m args below meth c mc ms C0 hR H rls rst locs cells slots q ce hP hL hS h1 h2 h3 h4 hce hcv hcl T hT X0
  have hts := C0.2.2.2.2.2.1
  have hpl : e.platform.magicAccessors = ({} : Platform).magicAccessors := by rw [X0.admits.platform]
  obtain ⟨c3, c4, hc3, hc4, hasg⟩ := Cond.castable_spec (hts _ hw2)
  cases Option.some.inj (hc3.symm.trans hcl)
  obtain ⟨c5, hc5, hcl5⟩ := Cond.classLink_spec C0.2.2.2.2.1 (hts _ hw1) e.platform hpl
  cases Option.some.inj (hc4.symm.trans hc5)
  have htab : c.exceptionTable.toList = [⟨a1, b1, hp, ct⟩] := by rw [C0.2.2.2.2.2.2.2.2.1, hh]; rfl
  obtain ⟨dk, _, _, kt, hdk, _, _, _, _, hkt, _, hopen⟩ := hcl5.here
  have hWT : s.WarmedH T.vm := X0.warmed
  obtain ⟨kt', hkt', -⟩ := hWT.alike.2.2 _ _ hkt
  obtain ⟨k9, hk9, -⟩ := Vm.findClass_spec hcl
  obtain ⟨k9', hk9', -⟩ := hWT.alike.2.2 _ _ hk9
  have hW' : s.WarmedH (T.vm.noted m.cls ct (.cls c4)) := hWT.noted hdk hopen (State.rightAt_cls hcl5)
  have hcellT : T.heap[q]? = some ce := by rw [hT]; exact hce
  have hmeth : T.vm.method? m = some meth := X0.method'
  have hfind : ∀ (Q : Handler → Pre) (E : CtlPost) (d : Bool) (acts : List Action), wp (findHandler (F0 m pc rls rst) q) Q E e d acts ((T.setTop (F0 m pc rls rst)).pushFrame (.throwing q)) ↔ Q (.found hp) d acts (((T.setTop (F0 m pc rls rst)).pushFrame (.throwing q)).setVm (T.vm.noted m.cls ct (.cls c4))) := by
    intro Q E d acts
    have e1 : ((T.setTop (F0 m pc rls rst)).pushFrame (.throwing q)).vm = T.vm := Stand.throwing_vm T _ q
    have e2 : ((T.setTop (F0 m pc rls rst)).pushFrame (.throwing q)).heap = T.heap := Stand.throwing_heap T _ q
    rw [W.findHandler_eq (meth := meth) (code := c) (by rw [e1]; exact hmeth) X0.code, htab]
    have h9 := am_goLink (Q := Q) (E := E) (e := e) (d := d) (acts := acts) (s := (T.setTop (F0 m pc rls rst)).pushFrame (.throwing q)) (f := F0 m pc rls rst) (a := q) (x := ⟨a1, b1, hp, ct⟩) (t := []) (c := c4) (cell := ce) (k1 := k9') (k2 := kt') hcov hct (by rw [e1]; exact hWT.classLinks hcl5) (by rw [e2]; exact hcellT) (fun k h => by rw [hcv] at h; cases h) (by rw [e1]; exact hk9') (by rw [e1]; exact hkt') (by rw [e1, hWT.alike.assignable]; exact hasg)
    rw [e1] at h9
    exact h9
  have X1 := X0.noted hW'
  have h9 : W p (am_l E) e R s m args below meth c H locs cells slots (vx_MQ below (am_Qc E Q) (am_XC E Q) args s mc ms (am_A E)) (F0 m hp rls [.ref q]) :=
    lv_astore_n C0.1 C0.2.1 hd hj hL hi rfl (fun ls' h' => h p e R s m args below meth c mc ms C0 hR H ls' locs cells slots hP (am_LS.lose h') hS h1 h2 h3 h4)
  obtain ⟨t, a2, b2⟩ := h9 (T.setVm (T.vm.noted m.cls ct (.cls c4))) hT X1
  exact ⟨t, am_caughtTo X0.here hfind a2, b2⟩
/-- System.arraycopy from one row of ints into another -/
theorem am_copy {a0 a n0 n1 idx : Nat} {sp dp x : Int32} (hd : decode M.2.2.1 pc = .ok (.invokestatic idx, 3)) (hw1 : Cond.methodLink M.1 idx arraycopyName ∈ am_gw) (hw2 : Cond.native arraycopyName ∈ am_gw) (hw3 : Cond.static arraycopyName ∈ am_gw) (hw4 : Cond.initialized "java/lang/System" ∈ am_gw)
    (ha0 : S.1 a0 = some (.inr (.int, n0))) (ha : S.1 a = some (.inr (.int, n1))) (g1 : ¬ sp < 0) (g2 : ¬ dp < 0) (g3 : ¬ x < 0) (g4 : sp.toNatClampNeg + x.toNatClampNeg ≤ n0) (g5 : dp.toNatClampNeg + x.toNatClampNeg ≤ n1) (hst : (st.map fun v => v.category).sum ≤ 8) (hdd : 2 ≤ d)
    (h : am_R E d M k n (pc + 3) ls st S (fun b => if b = a then va_cpy (iv a0) (iv a) sp.toNatClampNeg dp.toNatClampNeg x.toNatClampNeg else iv b) Q) : am_R E d M k n pc ls (.int x :: .int dp :: .ref a :: .int sp :: .ref a0 :: st) S iv Q := by
  intro p e R s m args below meth c mc ms C0 hR H rls locs cells slots hP hL hS h1 h2 h3 h4
  have hts := C0.2.2.2.2.2.1
  have hG := C0.2.2.2.2.2.2.2.2.2
  have hK := hG.1
  have hcat : ((st.map (am_tr E)).map fun v => v.category).sum ≤ 8 := by
    rw [List.map_map]
    have : ((fun v : Value => v.category) ∘ am_tr E) = fun v => v.category := funext fun v => am_tr_cat E v
    rw [this]; exact hst
  have hf := hR.1
  have hlo := hR.2
  have nn : ∀ z : Int32, ¬ z < 0 → z.toInt = (z.toNatClampNeg : Int) := by
    intro z hz
    have hz0 : (0 : Int) ≤ z.toInt := by
      have := Int32.not_lt.mp hz
      simpa using Int32.le_iff_toInt_le.mp this
    show z.toInt = ((z.toInt.toNat : Nat) : Int)
    omega
  have e9 : nativeFrameWords "java/lang/System" "arraycopy" 5 + 11 ≤ 64 := by decide
  intro T hT X
  have hc0 : H[am_z E + a0]? = some (vp_cell (am_cT E .int) (n0, .inl (iv a0))) := hP.arr ha0
  have hc1 : H[am_z E + a]? = some (vp_cell (am_cT E .int) (n1, .inl (iv a))) := hP.arr ha
  obtain ⟨-, k0, hk0, cm0, hkk0⟩ := (hK.2 0 _ rfl).1 n0 (fun j => .int (iv a0 j))
  obtain ⟨-, k1, hk1, cm1, hkk1⟩ := (hK.2 0 _ rfl).1 n1 (fun j => .int (iv a j))
  obtain ⟨vm', X', step⟩ := X.arraycopy C0.1 C0.2.2.2.2.1 (hts _ hw1) (hts _ hw2) (hts _ hw3) (hts _ hw4) (src := am_z E + a0) (dst := am_z E + a) (cs := vp_cell (am_cT E .int) (n0, .inl (iv a0))) (cd := vp_cell (am_cT E .int) (n1, .inl (iv a))) (srcPos := sp) (destPos := dp) (n := x) (by rw [hT]; exact hc0) (by rw [hT]; exact hc1)
    (fun _ h => by cases h) (fun _ h => by cases h) (fun h => by cases h) (fun h => by cases h) hk0 hk1 hkk0 hkk1 rfl g1 g2 g3
    (by rw [nn sp g1, nn x g3]; show ¬ _ > ((arrV (am_cT E .int) n0 (fun j => .int (iv a0 j))).slots.size : Int); rw [arrV_size]; omega)
    (by rw [nn dp g2, nn x g3]; show ¬ _ > ((arrV (am_cT E .int) n1 (fun j => .int (iv a j))).slots.size : Int); rw [arrV_size]; omega)
    (fun vm₁ _ i hi => by
      have e : (vp_cell (am_cT E .int) (n0, .inl (iv a0))).slots.getD (sp.toNatClampNeg + i) .null = .int (iv a0 (sp.toNatClampNeg + i)) := by
        show (arrV _ n0 (fun j => .int (iv a0 j))).slots.getD _ _ = _
        rw [Array.getD_eq_getD_getElem?, arrV_read _ _ (by omega)]
        rfl
      refine ⟨?_, ?_⟩
      · rw [e]; rfl
      · rw [e]
        exact trivial)
    (g := F0 m pc rls (.int x :: .int dp :: .ref (am_z E + a) :: .int sp :: .ref (am_z E + a0) :: st.map (am_tr E))) rfl (by rw [C0.2.2.1]; exact hL.1) (rest := st.map (am_tr E)) rfl (by rw [C0.2.1]; exact hd) (by omega) (by show 2 * 0 + _ + _ ≤ _; omega)
  have e1 : copied (vp_cell (am_cT E .int) (n0, .inl (iv a0))) (vp_cell (am_cT E .int) (n1, .inl (iv a))) sp dp x = vp_cell (am_cT E .int) (n1, .inl (va_cpy (iv a0) (iv a) sp.toNatClampNeg dp.toNatClampNeg x.toNatClampNeg)) := va_copied (fun z => .int z) _ _ (iv a0) (iv a) g4
  rw [e1] at X' step
  generalize hcc : vp_cell (am_cT E .int) (n1, .inl (va_cpy (iv a0) (iv a) sp.toNatClampNeg dp.toNatClampNeg x.toNatClampNeg)) = cnew at X' step
  have hl : am_z E + a < H.size := (Array.getElem?_eq_some_iff.mp hc1).1
  have hheap : ((T.setVm vm').setCell (am_z E + a) cnew).heap = H.setIfInBounds (am_z E + a) cnew := by rw [← hT]; rfl
  have oq : ∀ q : Nat, q ≠ am_z E + a → (H.setIfInBounds (am_z E + a) cnew)[q]? = H[q]? := fun q hq => by simp [Array.getElem?_setIfInBounds, Ne.symm hq]
  have hP1 : am_HP E S (fun b => if b = a then va_cpy (iv a0) (iv a) sp.toNatClampNeg dp.toNatClampNeg x.toNatClampNeg else iv b) (H.setIfInBounds (am_z E + a) cnew) := by
    refine hP.put (a := a) rfl rfl (by simp) oq (fun b hb => am_cell_ext E rfl rfl rfl (if_neg hb)) (fun y hy => ?_)
    have hy2 : am_cell E S (fun b => if b = a then va_cpy (iv a0) (iv a) sp.toNatClampNeg dp.toNatClampNeg x.toNatClampNeg else iv b) a = some (.inl (am_cT E .int, n1, .inl (va_cpy (iv a0) (iv a) sp.toNatClampNeg dp.toNatClampNeg x.toNatClampNeg))) := by simp [am_cell, ha, am_arr, FieldType.isReference]
    rw [hy2] at hy
    cases hy
    show (H.setIfInBounds (am_z E + a) cnew)[am_z E + a]? = some (vp_cell _ _)
    rw [hcc]
    simp [Array.getElem?_setIfInBounds, hl]
  obtain ⟨t, a1, b1⟩ := h p e R s m args below meth c mc ms C0 hR _ rls _ cells slots hP1 hL ⟨by simp; exact hS.1, fun q g1 g2 => by
      rw [oq q (fun e => g2 (by rw [e]; exact Nat.le_add_right _ _))]
      exact hS.2.1 q g1 g2, fun q hq => by
      rcases List.mem_append.mp hq with h | h
      · exact hS.2.2 q h
      · obtain ⟨z, -, hz⟩ := List.mem_map.mp h
        rw [← hz]
        exact Nat.le_add_right _ _⟩ h1 h2 h3 h4 _ hheap X'
  exact ⟨t, step t a1, b1⟩
end AMX
