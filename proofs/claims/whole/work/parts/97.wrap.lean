/-! the law's wrappers -/
theorem wq_cIA : Cond.classLink RL 13 "java/lang/IllegalArgumentException" ∈ am_gw := am_i2 233 rfl rfl
theorem wq_cNS : Cond.classLink RL 18 "java/util/NoSuchElementException" ∈ am_gw := am_i4 215 rfl rfl
theorem wq_kIA : Cond.castable "java/lang/IllegalArgumentException" "java/lang/IllegalArgumentException" ∈ am_gw := am_i3 0 rfl rfl
theorem wq_kNS : Cond.castable "java/util/NoSuchElementException" "java/util/NoSuchElementException" ∈ am_gw := am_i4 222 rfl rfl
section B97a
variable {E : am_E} {d : Nat} {M : am_Me} {k n pc : Nat} {ls st : List Value} {S : am_S} {iv : am_I} {Q : am_O → am_S → am_I → Prop}
/-- caught by the one row of this method's table; the handler lays it aside at a place above 3 -/
theorem am_catchA {X nm : String} {a1 b1 hp ct i : Nat} (hh : M.2.2.2.2.2 = [(a1, b1, hp, ct)]) (hcov : covers (⟨a1, b1, hp, ct⟩ : ExceptionTableEntry) pc = true) (hct : ct ≠ 0) (hw1 : Cond.classLink M.1 ct nm ∈ am_gw) (hw2 : Cond.castable X nm ∈ am_gw) (hd : decode M.2.2.1 hp = .ok (.astore i, 2)) (hi : i < M.2.2.2.1)
    (h : am_R E d M k n (hp + 2) (ls.set i (.double 0)) [] S iv Q) : am_T E d M k n pc ls X S iv Q := by

  intro p e R s m args below meth c mc ms C0 hR H rls rst locs cells slots q ce hP hL hS h1 h2 h3 h4 hce hcv hcl T hT X0
  have hts := C0.2.2.2.2.2.1
  have hpl : e.platform.magicAccessors = ({} : Platform).magicAccessors := by rw [X0.admits.platform]
  obtain ⟨c3, c4, hc3, hc4, hasg⟩ := Cond.castable_spec (hts _ hw2)
  cases Option.some.inj (hc3.symm.trans hcl)
  obtain ⟨c5, hc5, hcl5⟩ := Cond.classLink_spec C0.2.2.2.2.1 (hts _ hw1) e.platform hpl
  cases Option.some.inj (hc4.symm.trans hc5)
  have htab : c.exceptionTable.toList = [⟨a1, b1, hp, ct⟩] := by rw [C0.2.2.2.2.2.2.2.2.1, hh]; rfl
  obtain ⟨dk, _, _, kt, hdk, _, _, _, _, hkt, _, hopen⟩ := hcl5.here
  have hWT : s.WarmedH T.vm := X0.warmed
  obtain ⟨kt', hkt', -⟩ := hWT.alike.2.2 _ _ hkt
  obtain ⟨k9, hk9, -⟩ := Vm.findClass_spec hcl
  obtain ⟨k9', hk9', -⟩ := hWT.alike.2.2 _ _ hk9
  have hW' : s.WarmedH (T.vm.noted m.cls ct (.cls c4)) := hWT.noted hdk hopen (State.rightAt_cls hcl5)
  have hcellT : T.heap[q]? = some ce := by rw [hT]; exact hce
  have hmeth : T.vm.method? m = some meth := X0.method'
  have hfind : ∀ (Q : Handler → Pre) (E : CtlPost) (d : Bool) (acts : List Action), wp (findHandler (F0 m pc rls rst) q) Q E e d acts ((T.setTop (F0 m pc rls rst)).pushFrame (.throwing q)) ↔ Q (.found hp) d acts (((T.setTop (F0 m pc rls rst)).pushFrame (.throwing q)).setVm (T.vm.noted m.cls ct (.cls c4))) := by
    intro Q E d acts
    have e1 : ((T.setTop (F0 m pc rls rst)).pushFrame (.throwing q)).vm = T.vm := Stand.throwing_vm T _ q
    have e2 : ((T.setTop (F0 m pc rls rst)).pushFrame (.throwing q)).heap = T.heap := Stand.throwing_heap T _ q
    rw [W.findHandler_eq (meth := meth) (code := c) (by rw [e1]; exact hmeth) X0.code, htab]
    have h9 := am_goLink (Q := Q) (E := E) (e := e) (d := d) (acts := acts) (s := (T.setTop (F0 m pc rls rst)).pushFrame (.throwing q)) (f := F0 m pc rls rst) (a := q) (x := ⟨a1, b1, hp, ct⟩) (t := []) (c := c4) (cell := ce) (k1 := k9') (k2 := kt') hcov hct (by rw [e1]; exact hWT.classLinks hcl5) (by rw [e2]; exact hcellT) (fun k h => by rw [hcv] at h; cases h) (by rw [e1]; exact hk9') (by rw [e1]; exact hkt') (by rw [e1, hWT.alike.assignable]; exact hasg)
    rw [e1] at h9
    exact h9
  have X1 := X0.noted hW'
  have h9 : W p (am_l E) e R s m args below meth c H locs cells slots (vx_MQ below (am_Qc E Q) (am_XC E Q) args s mc ms (am_A E)) (F0 m hp rls [.ref q]) :=
    lv_astore C0.1 C0.2.1 hd hL hi rfl (fun ls' h' => h p e R s m args below meth c mc ms C0 hR H ls' locs cells slots hP (am_LS.lose h') hS h1 h2 h3 h4)
  obtain ⟨t, a2, b2⟩ := h9 (T.setVm (T.vm.noted m.cls ct (.cls c4))) hT X1
  exact ⟨t, am_caughtTo X0.here hfind a2, b2⟩

end B97a
/-- 1 behind something thrown, else 0 and the answer in the long row -/
def PW (g : Int32 → Int64) (fm : am_I → Option (Int32 × am_I)) (nf : Nat) (o : am_O) (S : am_S) (iv : am_I) : Prop := (o = .inl (some (.int 1)) ∧ ∃ y iv2, fm iv = some (y, iv2) ∧ iv2 54 3 = 1 ∧ IV S iv2 nf) ∨ ∃ r iv2, o = .inl (some (.int 0)) ∧ S.2.2.1 88 0 = g r ∧ fm iv = some (r, iv2) ∧ iv2 54 3 = 0 ∧ IV S iv2 nf
def PWv (fm : am_I → Option (Int32 × am_I)) (nf : Nat) (o : am_O) (S : am_S) (iv : am_I) : Prop := (o = .inl (some (.int 1)) ∧ ∃ y iv2, fm iv = some (y, iv2) ∧ iv2 54 3 = 1 ∧ IV S iv2 nf) ∨ ∃ r iv2, o = .inl (some (.int 0)) ∧ fm iv = some (r, iv2) ∧ iv2 54 3 = 0 ∧ IV S iv2 nf
theorem IV.lay {S : am_S} {iv : am_I} {nf : Nat} (h : IV S iv nf) : am_Lay S := by
  obtain ⟨w, v, fd, sn, ns, pp, np, c, ρ, hS, -⟩ := h
  exact hS.1
theorem wl_s (S : am_S) (x : Int64) : (am_wl S 88 0 x).2.2.1 88 0 = x := by simp [am_wl, vp_updL]
section B97
variable {E : am_E} {S : am_S} {iv : am_I} {nf d : Nat}

theorem CW_city (h : IV S iv nf) (x : Int32) : CC E (d + 901) mL_city [.ref 0, .int x, .ref 88] (PW Int32.toInt64 (F_X10_city x)) S iv nf := by
  have h00 : S.1 0 = some (.inl 9) := h.lay.1 _ _ rfl
  obtain ⟨MM, nf', k', n', a1, a2, a3, a4, hM⟩ := CC_city (E := E) (d := d) h x
  refine ⟨MM, nf', k', n', a1, a2, a3, a4, fun Q hQ => ?_⟩
  refine am_enterH (js := [.double 0]) (by decide) pn_L rfl rfl rfl (Nat.le_of_ble_eq_true rfl) ?_
  refine (sL_city_0 rfl (sL_city_1 (sL_city_2 rfl (sL_city_3 (sL_city_4_k (k' := k') (k := 0) (n' := n') (n := 0) h00 (Nat.le_of_ble_eq_true rfl) (hM _ (fun o' S' iv' hP => ?_)))))))
  rcases hP with ⟨rfl, y', iv2, e2, e3, hI⟩ | ⟨r, iv2, rfl, e2, e3, hI⟩
  · refine am_catch (i := 3) rfl (by decide) (by decide) wq_cIA wq_kIA dL_city_12 rfl (by decide) ?_
    exact sL_city_13 (sL_city_14 (hQ _ _ _ (Or.inl ⟨rfl, y', iv2, e2, e3, hI⟩)))
  · have h88 : S'.1 88 = some (.inr (.long, 1)) := hI.lay.1 _ _ rfl
    exact sL_city_7 (sL_city_8 h88 (vp_lit (by decide)) (sL_city_9 (sL_city_15 (sL_city_16 (hQ _ _ _ (Or.inr ⟨r, iv2, rfl, wl_s _ _, e2, e3, hI.ext ext.wl⟩))))))
theorem CW_count (h : IV S iv nf) (x : Int32) : CC E (d + 901) mL_count [.ref 0, .int x, .ref 88] (PW Int32.toInt64 (F_X10_count x)) S iv nf := by
  have h00 : S.1 0 = some (.inl 9) := h.lay.1 _ _ rfl
  obtain ⟨MM, nf', k', n', a1, a2, a3, a4, hM⟩ := CC_count (E := E) (d := d) h x
  refine ⟨MM, nf', k', n', a1, a2, a3, a4, fun Q hQ => ?_⟩
  refine am_enterH (js := [.double 0]) (by decide) pn_L rfl rfl rfl (Nat.le_of_ble_eq_true rfl) ?_
  refine (sL_count_0 rfl (sL_count_1 (sL_count_2 rfl (sL_count_3 (sL_count_4_k (k' := k') (k := 0) (n' := n') (n := 0) h00 (Nat.le_of_ble_eq_true rfl) (hM _ (fun o' S' iv' hP => ?_)))))))
  rcases hP with ⟨rfl, y', iv2, e2, e3, hI⟩ | ⟨r, iv2, rfl, e2, e3, hI⟩
  · refine am_catch (i := 3) rfl (by decide) (by decide) wq_cNS wq_kNS dL_count_12 rfl (by decide) ?_
    exact sL_count_13 (sL_count_14 (hQ _ _ _ (Or.inl ⟨rfl, y', iv2, e2, e3, hI⟩)))
  · have h88 : S'.1 88 = some (.inr (.long, 1)) := hI.lay.1 _ _ rfl
    exact sL_count_7 (sL_count_8 h88 (vp_lit (by decide)) (sL_count_9 (sL_count_15 (sL_count_16 (hQ _ _ _ (Or.inr ⟨r, iv2, rfl, wl_s _ _, e2, e3, hI.ext ext.wl⟩))))))
theorem CW_drawer (h : IV S iv nf) (x y : Int32) : CC E (d + 901) mL_drawer [.ref 0, .int x, .int y, .ref 88] (PW Int32.toInt64 (F_X10_drawer x y)) S iv nf := by
  have h00 : S.1 0 = some (.inl 9) := h.lay.1 _ _ rfl
  obtain ⟨MM, nf', k', n', a1, a2, a3, a4, hM⟩ := CC_drawer (E := E) (d := d) h x y
  refine ⟨MM, nf', k', n', a1, a2, a3, a4, fun Q hQ => ?_⟩
  refine am_enterH (js := [.double 0]) (by decide) pn_L rfl rfl rfl (Nat.le_of_ble_eq_true rfl) ?_
  refine (sL_drawer_0 rfl (sL_drawer_1 (sL_drawer_2 rfl (sL_drawer_3 (sL_drawer_4 (sL_drawer_5_k (k' := k') (k := 0) (n' := n') (n := 0) h00 (Nat.le_of_ble_eq_true rfl) (hM _ (fun o' S' iv' hP => ?_))))))))
  rcases hP with ⟨rfl, y', iv2, e2, e3, hI⟩ | ⟨r, iv2, rfl, e2, e3, hI⟩
  · refine am_catchA (i := 4) rfl (by decide) (by decide) wq_cNS wq_kNS dL_drawer_13 (by decide) ?_
    exact sL_drawer_15 (sL_drawer_16 (hQ _ _ _ (Or.inl ⟨rfl, y', iv2, e2, e3, hI⟩)))
  · have h88 : S'.1 88 = some (.inr (.long, 1)) := hI.lay.1 _ _ rfl
    exact sL_drawer_8 (sL_drawer_9 h88 (vp_lit (by decide)) (sL_drawer_10 (sL_drawer_17 (sL_drawer_18 (hQ _ _ _ (Or.inr ⟨r, iv2, rfl, wl_s _ _, e2, e3, hI.ext ext.wl⟩))))))
theorem CW_person (h : IV S iv nf) (x y : Int32) : CC E (d + 901) mL_person [.ref 0, .int x, .int y, .ref 88] (PW Int32.toInt64 (F_X10_person x y)) S iv nf := by
  have h00 : S.1 0 = some (.inl 9) := h.lay.1 _ _ rfl
  obtain ⟨MM, nf', k', n', a1, a2, a3, a4, hM⟩ := CC_person (E := E) (d := d) h x y
  refine ⟨MM, nf', k', n', a1, a2, a3, a4, fun Q hQ => ?_⟩
  refine am_enterH (js := [.double 0]) (by decide) pn_L rfl rfl rfl (Nat.le_of_ble_eq_true rfl) ?_
  refine (sL_person_0 rfl (sL_person_1 (sL_person_2 rfl (sL_person_3 (sL_person_4 (sL_person_5_k (k' := k') (k := 0) (n' := n') (n := 0) h00 (Nat.le_of_ble_eq_true rfl) (hM _ (fun o' S' iv' hP => ?_))))))))
  rcases hP with ⟨rfl, y', iv2, e2, e3, hI⟩ | ⟨r, iv2, rfl, e2, e3, hI⟩
  · refine am_catchA (i := 4) rfl (by decide) (by decide) wq_cNS wq_kNS dL_person_13 (by decide) ?_
    exact sL_person_15 (sL_person_16 (hQ _ _ _ (Or.inl ⟨rfl, y', iv2, e2, e3, hI⟩)))
  · have h88 : S'.1 88 = some (.inr (.long, 1)) := hI.lay.1 _ _ rfl
    exact sL_person_8 (sL_person_9 h88 (vp_lit (by decide)) (sL_person_10 (sL_person_17 (sL_person_18 (hQ _ _ _ (Or.inr ⟨r, iv2, rfl, wl_s _ _, e2, e3, hI.ext ext.wl⟩))))))
theorem CW_broken (h : IV S iv nf) (x : Int32) : CC E (d + 901) mL_broken [.ref 0, .int x, .ref 88] (PW Int32.toInt64 (F_X10_broken x)) S iv nf := by
  have h00 : S.1 0 = some (.inl 9) := h.lay.1 _ _ rfl
  obtain ⟨MM, nf', k', n', a1, a2, a3, a4, hM⟩ := CC_broken (E := E) (d := d) h x
  refine ⟨MM, nf', k', n', a1, a2, a3, a4, fun Q hQ => ?_⟩
  refine am_enterH (js := [.double 0]) (by decide) pn_L rfl rfl rfl (Nat.le_of_ble_eq_true rfl) ?_
  refine (sL_broken_0 rfl (sL_broken_1 (sL_broken_2 rfl (sL_broken_3 (sL_broken_4_k (k' := k') (k := 0) (n' := n') (n := 0) h00 (Nat.le_of_ble_eq_true rfl) (hM _ (fun o' S' iv' hP => ?_)))))))
  rcases hP with ⟨rfl, y', iv2, e2, e3, hI⟩ | ⟨r, iv2, rfl, e2, e3, hI⟩
  · refine am_catch (i := 3) rfl (by decide) (by decide) wq_cIA wq_kIA dL_broken_12 rfl (by decide) ?_
    exact sL_broken_13 (sL_broken_14 (hQ _ _ _ (Or.inl ⟨rfl, y', iv2, e2, e3, hI⟩)))
  · have h88 : S'.1 88 = some (.inr (.long, 1)) := hI.lay.1 _ _ rfl
    exact sL_broken_7 (sL_broken_8 h88 (vp_lit (by decide)) (sL_broken_9 (sL_broken_15 (sL_broken_16 (hQ _ _ _ (Or.inr ⟨r, iv2, rfl, wl_s _ _, e2, e3, hI.ext ext.wl⟩))))))
theorem CW_opens (h : IV S iv nf) (x : Int32) : CC E (d + 901) mL_opens [.ref 0, .int x, .ref 88] (PW Int32.toInt64 (F_X10_opens x)) S iv nf := by
  have h00 : S.1 0 = some (.inl 9) := h.lay.1 _ _ rfl
  obtain ⟨MM, nf', k', n', a1, a2, a3, a4, hM⟩ := CC_opens (E := E) (d := d) h x
  refine ⟨MM, nf', k', n', a1, a2, a3, a4, fun Q hQ => ?_⟩
  refine am_enterH (js := [.double 0]) (by decide) pn_L rfl rfl rfl (Nat.le_of_ble_eq_true rfl) ?_
  refine (sL_opens_0 rfl (sL_opens_1 (sL_opens_2 rfl (sL_opens_3 (sL_opens_4_k (k' := k') (k := 0) (n' := n') (n := 0) h00 (Nat.le_of_ble_eq_true rfl) (hM _ (fun o' S' iv' hP => ?_)))))))
  rcases hP with ⟨rfl, y', iv2, e2, e3, hI⟩ | ⟨r, iv2, rfl, e2, e3, hI⟩
  · refine am_catch (i := 3) rfl (by decide) (by decide) wq_cNS wq_kNS dL_opens_12 rfl (by decide) ?_
    exact sL_opens_13 (sL_opens_14 (hQ _ _ _ (Or.inl ⟨rfl, y', iv2, e2, e3, hI⟩)))
  · have h88 : S'.1 88 = some (.inr (.long, 1)) := hI.lay.1 _ _ rfl
    exact sL_opens_7 (sL_opens_8 h88 (vp_lit (by decide)) (sL_opens_9 (sL_opens_15 (sL_opens_16 (hQ _ _ _ (Or.inr ⟨r, iv2, rfl, wl_s _ _, e2, e3, hI.ext ext.wl⟩))))))
theorem CW_shuts (h : IV S iv nf) (x : Int32) : CC E (d + 901) mL_shuts [.ref 0, .int x, .ref 88] (PW Int32.toInt64 (F_X10_shuts x)) S iv nf := by
  have h00 : S.1 0 = some (.inl 9) := h.lay.1 _ _ rfl
  obtain ⟨MM, nf', k', n', a1, a2, a3, a4, hM⟩ := CC_shuts (E := E) (d := d) h x
  refine ⟨MM, nf', k', n', a1, a2, a3, a4, fun Q hQ => ?_⟩
  refine am_enterH (js := [.double 0]) (by decide) pn_L rfl rfl rfl (Nat.le_of_ble_eq_true rfl) ?_
  refine (sL_shuts_0 rfl (sL_shuts_1 (sL_shuts_2 rfl (sL_shuts_3 (sL_shuts_4_k (k' := k') (k := 0) (n' := n') (n := 0) h00 (Nat.le_of_ble_eq_true rfl) (hM _ (fun o' S' iv' hP => ?_)))))))
  rcases hP with ⟨rfl, y', iv2, e2, e3, hI⟩ | ⟨r, iv2, rfl, e2, e3, hI⟩
  · refine am_catch (i := 3) rfl (by decide) (by decide) wq_cNS wq_kNS dL_shuts_12 rfl (by decide) ?_
    exact sL_shuts_13 (sL_shuts_14 (hQ _ _ _ (Or.inl ⟨rfl, y', iv2, e2, e3, hI⟩)))
  · have h88 : S'.1 88 = some (.inr (.long, 1)) := hI.lay.1 _ _ rfl
    exact sL_shuts_7 (sL_shuts_8 h88 (vp_lit (by decide)) (sL_shuts_9 (sL_shuts_15 (sL_shuts_16 (hQ _ _ _ (Or.inr ⟨r, iv2, rfl, wl_s _ _, e2, e3, hI.ext ext.wl⟩))))))
theorem CW_row (h : IV S iv nf) (x : Int32) : CC E (d + 901) mL_row [.ref 0, .int x, .ref 88] (PW Int32.toInt64 (F_X10_row x)) S iv nf := by
  have h00 : S.1 0 = some (.inl 9) := h.lay.1 _ _ rfl
  obtain ⟨MM, nf', k', n', a1, a2, a3, a4, hM⟩ := CC_row (E := E) (d := d) h x
  refine ⟨MM, nf', k', n', a1, a2, a3, a4, fun Q hQ => ?_⟩
  refine am_enterH (js := [.double 0]) (by decide) pn_L rfl rfl rfl (Nat.le_of_ble_eq_true rfl) ?_
  refine (sL_row_0 rfl (sL_row_1 (sL_row_2 rfl (sL_row_3 (sL_row_4_k (k' := k') (k := 0) (n' := n') (n := 0) h00 (Nat.le_of_ble_eq_true rfl) (hM _ (fun o' S' iv' hP => ?_)))))))
  rcases hP with ⟨rfl, y', iv2, e2, e3, hI⟩ | ⟨r, iv2, rfl, e2, e3, hI⟩
  · refine am_catch (i := 3) rfl (by decide) (by decide) wq_cNS wq_kNS dL_row_12 rfl (by decide) ?_
    exact sL_row_13 (sL_row_14 (hQ _ _ _ (Or.inl ⟨rfl, y', iv2, e2, e3, hI⟩)))
  · have h88 : S'.1 88 = some (.inr (.long, 1)) := hI.lay.1 _ _ rfl
    exact sL_row_7 (sL_row_8 h88 (vp_lit (by decide)) (sL_row_9 (sL_row_15 (sL_row_16 (hQ _ _ _ (Or.inr ⟨r, iv2, rfl, wl_s _ _, e2, e3, hI.ext ext.wl⟩))))))
theorem CW_harm (h : IV S iv nf) (x : Int32) : CC E (d + 901) mL_harm [.ref 0, .int x, .ref 88] (PW Int32.toInt64 (F_X10_harm x)) S iv nf := by
  have h00 : S.1 0 = some (.inl 9) := h.lay.1 _ _ rfl
  obtain ⟨MM, nf', k', n', a1, a2, a3, a4, hM⟩ := CC_harm (E := E) (d := d) h x
  refine ⟨MM, nf', k', n', a1, a2, a3, a4, fun Q hQ => ?_⟩
  refine am_enterH (js := [.double 0]) (by decide) pn_L rfl rfl rfl (Nat.le_of_ble_eq_true rfl) ?_
  refine (sL_harm_0 rfl (sL_harm_1 (sL_harm_2 rfl (sL_harm_3 (sL_harm_4_k (k' := k') (k := 0) (n' := n') (n := 0) h00 (Nat.le_of_ble_eq_true rfl) (hM _ (fun o' S' iv' hP => ?_)))))))
  rcases hP with ⟨rfl, y', iv2, e2, e3, hI⟩ | ⟨r, iv2, rfl, e2, e3, hI⟩
  · refine am_catch (i := 3) rfl (by decide) (by decide) wq_cNS wq_kNS dL_harm_12 rfl (by decide) ?_
    exact sL_harm_13 (sL_harm_14 (hQ _ _ _ (Or.inl ⟨rfl, y', iv2, e2, e3, hI⟩)))
  · have h88 : S'.1 88 = some (.inr (.long, 1)) := hI.lay.1 _ _ rfl
    exact sL_harm_7 (sL_harm_8 h88 (vp_lit (by decide)) (sL_harm_9 (sL_harm_15 (sL_harm_16 (hQ _ _ _ (Or.inr ⟨r, iv2, rfl, wl_s _ _, e2, e3, hI.ext ext.wl⟩))))))
theorem CW_married (h : IV S iv nf) (x y : Int32) : CC E (d + 901) mL_married [.ref 0, .int x, .int y, .ref 88] (PW Int32.toInt64 (F_X10_married x y)) S iv nf := by
  have h00 : S.1 0 = some (.inl 9) := h.lay.1 _ _ rfl
  obtain ⟨MM, nf', k', n', a1, a2, a3, a4, hM⟩ := CC_married (E := E) (d := d) h x y
  refine ⟨MM, nf', k', n', a1, a2, a3, a4, fun Q hQ => ?_⟩
  refine am_enterH (js := [.double 0]) (by decide) pn_L rfl rfl rfl (Nat.le_of_ble_eq_true rfl) ?_
  refine (sL_married_0 rfl (sL_married_1 (sL_married_2 rfl (sL_married_3 (sL_married_4 (sL_married_5_k (k' := k') (k := 0) (n' := n') (n := 0) h00 (Nat.le_of_ble_eq_true rfl) (hM _ (fun o' S' iv' hP => ?_))))))))
  rcases hP with ⟨rfl, y', iv2, e2, e3, hI⟩ | ⟨r, iv2, rfl, e2, e3, hI⟩
  · refine am_catchA (i := 4) rfl (by decide) (by decide) wq_cNS wq_kNS dL_married_13 (by decide) ?_
    exact sL_married_15 (sL_married_16 (hQ _ _ _ (Or.inl ⟨rfl, y', iv2, e2, e3, hI⟩)))
  · have h88 : S'.1 88 = some (.inr (.long, 1)) := hI.lay.1 _ _ rfl
    exact sL_married_8 (sL_married_9 h88 (vp_lit (by decide)) (sL_married_10 (sL_married_17 (sL_married_18 (hQ _ _ _ (Or.inr ⟨r, iv2, rfl, wl_s _ _, e2, e3, hI.ext ext.wl⟩))))))
theorem CW_wind (h : IV S iv nf) (x y : Int32) : CC E (d + 901) mL_wind [.ref 0, .int x, .int y, .ref 88] (PW Int32.toInt64 (F_X10_wind x y)) S iv nf := by
  have h00 : S.1 0 = some (.inl 9) := h.lay.1 _ _ rfl
  obtain ⟨MM, nf', k', n', a1, a2, a3, a4, hM⟩ := CC_wind (E := E) (d := d) h x y
  refine ⟨MM, nf', k', n', a1, a2, a3, a4, fun Q hQ => ?_⟩
  refine am_enterH (js := [.double 0]) (by decide) pn_L rfl rfl rfl (Nat.le_of_ble_eq_true rfl) ?_
  refine (sL_wind_0 rfl (sL_wind_1 (sL_wind_2 rfl (sL_wind_3 (sL_wind_4 (sL_wind_5_k (k' := k') (k := 0) (n' := n') (n := 0) h00 (Nat.le_of_ble_eq_true rfl) (hM _ (fun o' S' iv' hP => ?_))))))))
  rcases hP with ⟨rfl, y', iv2, e2, e3, hI⟩ | ⟨r, iv2, rfl, e2, e3, hI⟩
  · refine am_catchA (i := 4) rfl (by decide) (by decide) wq_cIA wq_kIA dL_wind_13 (by decide) ?_
    exact sL_wind_15 (sL_wind_16 (hQ _ _ _ (Or.inl ⟨rfl, y', iv2, e2, e3, hI⟩)))
  · have h88 : S'.1 88 = some (.inr (.long, 1)) := hI.lay.1 _ _ rfl
    exact sL_wind_8 (sL_wind_9 h88 (vp_lit (by decide)) (sL_wind_10 (sL_wind_17 (sL_wind_18 (hQ _ _ _ (Or.inr ⟨r, iv2, rfl, wl_s _ _, e2, e3, hI.ext ext.wl⟩))))))
theorem CW_who (h : IV S iv nf) (x : Int32) : CC E (d + 901) mL_who [.ref 0, .int x, .ref 88] (PW Int32.toInt64 (F_X10_who x)) S iv nf := by
  have h00 : S.1 0 = some (.inl 9) := h.lay.1 _ _ rfl
  obtain ⟨MM, nf', k', n', a1, a2, a3, a4, hM⟩ := CC_who (E := E) (d := d) h x
  refine ⟨MM, nf', k', n', a1, a2, a3, a4, fun Q hQ => ?_⟩
  refine am_enterH (js := [.double 0]) (by decide) pn_L rfl rfl rfl (Nat.le_of_ble_eq_true rfl) ?_
  refine (sL_who_0 rfl (sL_who_1 (sL_who_2 rfl (sL_who_3 (sL_who_4_k (k' := k') (k := 0) (n' := n') (n := 0) h00 (Nat.le_of_ble_eq_true rfl) (hM _ (fun o' S' iv' hP => ?_)))))))
  rcases hP with ⟨rfl, y', iv2, e2, e3, hI⟩ | ⟨r, iv2, rfl, e2, e3, hI⟩
  · refine am_catch (i := 3) rfl (by decide) (by decide) wq_cNS wq_kNS dL_who_12 rfl (by decide) ?_
    exact sL_who_13 (sL_who_14 (hQ _ _ _ (Or.inl ⟨rfl, y', iv2, e2, e3, hI⟩)))
  · have h88 : S'.1 88 = some (.inr (.long, 1)) := hI.lay.1 _ _ rfl
    exact sL_who_7 (sL_who_8 h88 (vp_lit (by decide)) (sL_who_9 (sL_who_15 (sL_who_16 (hQ _ _ _ (Or.inr ⟨r, iv2, rfl, wl_s _ _, e2, e3, hI.ext ext.wl⟩))))))
theorem CW_odds (h : IV S iv nf) (x y z : Int32) : CC E (d + 901) mL_odds [.ref 0, .int x, .int y, .int z, .ref 88] (PW Int32.toInt64 (F_X10_odds x y z)) S iv nf := by
  have h00 : S.1 0 = some (.inl 9) := h.lay.1 _ _ rfl
  obtain ⟨MM, nf', k', n', a1, a2, a3, a4, hM⟩ := CC_odds (E := E) (d := d) h x y z
  refine ⟨MM, nf', k', n', a1, a2, a3, a4, fun Q hQ => ?_⟩
  refine am_enterH (js := [.double 0]) (by decide) pn_L rfl rfl rfl (Nat.le_of_ble_eq_true rfl) ?_
  refine (sL_odds_0 rfl (sL_odds_2 (sL_odds_3 rfl (sL_odds_4 (sL_odds_5 (sL_odds_6 (sL_odds_7_k (k' := k') (k := 0) (n' := n') (n := 0) h00 (Nat.le_of_ble_eq_true rfl) (hM _ (fun o' S' iv' hP => ?_)))))))))
  rcases hP with ⟨rfl, y', iv2, e2, e3, hI⟩ | ⟨r, iv2, rfl, e2, e3, hI⟩
  · refine am_catchA (i := 5) rfl (by decide) (by decide) wq_cNS wq_kNS dL_odds_15 (by decide) ?_
    exact sL_odds_17 (sL_odds_18 (hQ _ _ _ (Or.inl ⟨rfl, y', iv2, e2, e3, hI⟩)))
  · have h88 : S'.1 88 = some (.inr (.long, 1)) := hI.lay.1 _ _ rfl
    exact sL_odds_10 (sL_odds_11 h88 (vp_lit (by decide)) (sL_odds_12 (sL_odds_19 (sL_odds_20 (hQ _ _ _ (Or.inr ⟨r, iv2, rfl, wl_s _ _, e2, e3, hI.ext ext.wl⟩))))))
theorem CW_may (h : IV S iv nf) (x : Int32) : CC E (d + 901) mL_may [.ref 0, .int x, .ref 88] (PW (fun r => if r = 0 then 0 else 1) (F_X10_may x)) S iv nf := by
  have h00 : S.1 0 = some (.inl 9) := h.lay.1 _ _ rfl
  obtain ⟨MM, nf', k', n', a1, a2, a3, a4, hM⟩ := CC_may (E := E) (d := d) h x
  refine ⟨MM, nf', k', n', a1, a2, a3, a4, fun Q hQ => ?_⟩
  refine am_enterH (js := [.double 0]) (by decide) pn_L rfl rfl rfl (Nat.le_of_ble_eq_true rfl) ?_
  refine (sL_may_0 rfl (sL_may_1 (sL_may_2 rfl (sL_may_3 (sL_may_4_k (k' := k') (k := 0) (n' := n') (n := 0) h00 (Nat.le_of_ble_eq_true rfl) (hM _ (fun o' S' iv' hP => ?_)))))))
  rcases hP with ⟨rfl, y', iv2, e2, e3, hI⟩ | ⟨r, iv2, rfl, e2, e3, hI⟩
  · refine am_catch (i := 3) rfl (by decide) (by decide) wq_cIA wq_kIA dL_may_19 rfl (by decide) ?_
    exact sL_may_20 (sL_may_21 (hQ _ _ _ (Or.inl ⟨rfl, y', iv2, e2, e3, hI⟩)))
  · have h88 : S'.1 88 = some (.inr (.long, 1)) := hI.lay.1 _ _ rfl
    refine sL_may_7 (fun q => ?_) (fun q => ?_)
    · exact sL_may_14 (sL_may_15 h88 (vp_lit (by decide)) (sL_may_16 (sL_may_22 (sL_may_23 (hQ _ _ _ (Or.inr ⟨r, iv2, rfl, by show _ = (if r = 0 then (0 : Int64) else 1); rw [if_pos q]; exact wl_s _ _, e2, e3, hI.ext ext.wl⟩))))))
    · exact sL_may_10 (sL_may_11 (sL_may_15 h88 (vp_lit (by decide)) (sL_may_16 (sL_may_22 (sL_may_23 (hQ _ _ _ (Or.inr ⟨r, iv2, rfl, by show _ = (if r = 0 then (0 : Int64) else 1); rw [if_neg q]; exact wl_s _ _, e2, e3, hI.ext ext.wl⟩)))))))
theorem CW_sleeps (h : IV S iv nf) (x y : Int32) : CC E (d + 901) mL_sleeps [.ref 0, .int x, .int y] (PWv (fun i => (F_X10_sleeps x y i).map fun z => (0, z))) S iv nf := by
  have h00 : S.1 0 = some (.inl 9) := h.lay.1 _ _ rfl
  obtain ⟨MM, nf', k', n', a1, a2, a3, a4, hM⟩ := CC_sleeps (E := E) (d := d) h x y
  refine ⟨MM, nf', k', n', a1, a2, a3, a4, fun Q hQ => ?_⟩
  refine am_enterH (js := [.double 0]) (by decide) pn_L rfl rfl rfl (Nat.le_of_ble_eq_true rfl) ?_
  refine (sL_sleeps_0 rfl (sL_sleeps_1 (sL_sleeps_2 (sL_sleeps_3_k (k' := k') (k := 0) (n' := n') (n := 0) h00 (Nat.le_of_ble_eq_true rfl) (hM _ (fun o' S' iv' hP => ?_))))))
  rcases hP with ⟨rfl, y', iv2, e2, e3, hI⟩ | ⟨r, iv2, rfl, e2, e3, hI⟩
  · refine am_catch (i := 3) rfl (by decide) (by decide) wq_cNS wq_kNS dL_sleeps_9 rfl (by decide) ?_
    exact sL_sleeps_10 (sL_sleeps_11 (hQ _ _ _ (Or.inl ⟨rfl, y', iv2, e2, e3, hI⟩)))
  · exact sL_sleeps_6 (sL_sleeps_12 (sL_sleeps_13 (hQ _ _ _ (Or.inr ⟨r, iv2, rfl, e2, e3, hI⟩))))
end B97
