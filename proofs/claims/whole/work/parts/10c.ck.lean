/-! String.checkIndex: a call whose last argument is a reference of which nothing is known -/
section AMCK
variable {E : am_E} {d : Nat} {M : am_Me} {k n pc : Nat} {ls st : List Value} {S : am_S} {iv : am_I} {Q : am_O → am_S → am_I → Prop}
theorem am_enterX {i j : Int32} {v : Value} (hv : v.category = 1) (hh : M.2.2.2.2.2 = []) (hy : plainFor M.2.1 = true) (hM1 : M.1 = M.2.1.cls) (hl : M.2.2.2.1 = 3) (h : am_R E d M k n 0 [.int i, .int j, .double 0] [] S iv Q) :
    vx_Met (am_l E) M.2.1 (am_ws M) { frames := d, cells := k, slots := n, locals := 64 * d } (fun av U => av = ([.int i, .int j, v] : List Value).toArray ∧ am_HP E S iv U.heap ∧ am_G E U) (am_Qc E Q) (am_XC E Q) k n (am_A E) := by
  have hcode : am_code M = Cond.code M.2.1 M.2.2.1 M.2.2.2.1 M.2.2.2.2.1 := by unfold am_code; rw [hh]
  have hin : Cond.code M.2.1 M.2.2.1 M.2.2.2.1 M.2.2.2.2.1 ∈ am_ws M := by unfold am_ws; rw [hcode]; exact List.mem_cons_self
  refine MetFree.of_bodySF (code := M.2.2.1) (maxLocals := M.2.2.2.1) (ret := M.2.2.2.2.1) hy ?_ ?_
  · intro args s m h hn
    obtain ⟨meth, c, h1, h2, h3, h4, h5, h6, -, -⟩ := Cond.code_spec hn (atoms_spec (ws := am_ws M) h _ hin)
    exact ⟨meth, c, h1, h2, h3, h4, h5, h6⟩
  · intro p e s m args below meth c s₁ B hml hP _
    have hh0 : s₁.heap = s.heap := by rw [B.state]; rfl
    have htb : c.exceptionTable.toList = tableOf M.2.2.2.2.2 := by
      obtain ⟨meth9, c9, h1, h2, -, -, -, -, h7, -⟩ := Cond.code_spec B.named (atoms_spec (ws := am_ws M) B.pre _ hin)
      cases Option.some.inj (h1.symm.trans B.method)
      cases Option.some.inj (h2.symm.trans (Stand.of_body B).code)
      rw [hh, Array.isEmpty_iff.mp h7]
      rfl
    obtain ⟨rfl, hP, hG⟩ := hP
    have hts := atoms_spec (ws := am_ws M) B.pre
    have hown : s.vm.findClass M.1 = some m.cls := by rw [hM1]; exact findClass_of_methodNamed B.named
    have e3 : (lg_sl ([.int i, .int j, v] : List Value)).length = 3 := by
      have e1 : (Value.int i).category = 1 := rfl
      have e2 : (Value.int j).category = 1 := rfl
      simp [lg_sl, hv, e1, e2]
    have hent := lv_entry ([.int i, .int j, v] : List Value) (n := 3) (by rw [e3]; exact Nat.le_refl _)
    have hLS : am_LS E M.2.2.2.1 [.int i, .int j, .double 0] ((lg_sl ([.int i, .int j, v] : List Value) ++ List.replicate (3 - (lg_sl ([.int i, .int j, v] : List Value)).length) Slot.unset).toArray) := by
      rw [hl]
      exact lv_sub hent [0, 1] rfl
    have h9 := h p e { frames := d, cells := k, slots := n, locals := 64 * d } s m _ below meth c k n ⟨B.exec, B.bytes, hml, B.returns, hown, fun w hw => hts w (List.mem_cons_of_mem _ hw), B.notSynchronized, (name_of_methodNamed B.named B.method).1, htb, hG⟩ ⟨Nat.le_refl _, Nat.le_refl _⟩
      s.heap _ [] 0 0 hP hLS va_S.rf (by show 0 + k ≤ k; omega) (by show 0 + n ≤ n; omega) (by omega) (by omega)
    rw [← hh0] at h9
    obtain ⟨t, a1, o, b1, b2, b3⟩ := h9 s₁ rfl (Stand.of_body B)
    refine ⟨t, o, ?_, b1, b2, b3⟩
    rw [hl, lg_entry_eq]
    exact a1
/-- 'getstatic; invokestatic' with that reference behind two ints; the callee answers the first -/
theorem am_ckS {i j : Int32} {ix iy : Nat} {M' : am_Me} (d0 : decode M.2.2.1 pc = .ok (.getstatic ix, 3)) (d3 : decode M.2.2.1 (pc + 3) = .ok (.invokestatic iy, 3)) (hw0 : Cond.fieldLink M.1 ix "jdk/internal/util/Preconditions" "SIOOBE_FORMATTER" "Ljava/util/function/BiFunction;" ∈ am_gw) (hh : M'.2.2.2.2.2 = [])
    (hw1 : Cond.methodLink M.1 iy M'.2.1 ∈ am_gw) (hw2 : Cond.static M'.2.1 ∈ am_gw) (hw4 : Cond.initialized M'.2.1.cls ∈ am_gw) (hw5 : am_code M' ∈ am_gw) (hy : M'.2.1.cls ≠ "java/lang/invoke/MethodHandle" ∧ M'.2.1.cls ≠ "java/lang/invoke/VarHandle" ∧ (parseMethodDescriptor M'.2.1.desc).map (fun d => d.parameters.length) = some 3) (hml : M'.2.2.2.1 ≤ 45)
    (hst : (st.map fun v => v.category).sum ≤ 8)
    (hM : ∀ v : Value, v.category = 1 → vx_Met (am_l E) M'.2.1 (am_ws M') { frames := d, cells := 0, slots := 0, locals := 64 * d } (fun av U => av = ([.int i, .int j, v] : List Value).toArray ∧ am_HP E S iv U.heap ∧ am_G E U) (am_Qc E (fun o S' iv' => o = .inl (some (.int i)) ∧ S' = S ∧ iv' = iv)) (am_XC E (fun o S' iv' => o = .inl (some (.int i)) ∧ S' = S ∧ iv' = iv)) 0 0 (am_A E))
    (h : am_R E (d + 1) M k n (pc + 6) ls (.int i :: st) S iv Q) : am_R E (d + 1) M k n pc ls (.int j :: .int i :: st) S iv Q := by
  intro p e R s m args below meth c mc ms C0 hR H rls locs cells slots hP hL hS h1 h2 h3 h4
  have hts := C0.2.2.2.2.2.1
  have hG := C0.2.2.2.2.2.2.2.2.2
  have hcode : am_code M' = Cond.code M'.2.1 M'.2.2.1 M'.2.2.2.1 M'.2.2.2.2.1 := by unfold am_code; rw [hh]
  have hcat : ((st.map (am_tr E)).map fun v => v.category).sum ≤ 8 := by
    rw [List.map_map]
    have : ((fun v : Value => v.category) ∘ am_tr E) = fun v => v.category := funext fun v => am_tr_cat E v
    rw [this]; exact hst
  have key : ∀ v : Value, v.category = 1 → va_Z "jdk/internal/util/Preconditions" "SIOOBE_FORMATTER" "Ljava/util/function/BiFunction;" v (am_A E) s s.heap → W p (am_l E) e R s m args below meth c H locs cells slots (vx_MQ below (am_Qc E Q) (am_XC E Q) args s mc ms (am_A E)) (F0 m pc rls (.int j :: .int i :: st.map (am_tr E))) := by
    intro v hv hZ
    refine va_gets C0.1 C0.2.1 hZ hS C0.2.2.2.2.1 (hts _ hw0) (fun _ h => h) d0 ?_
    refine am_back (k := k) (n := n) (k' := 0) (n' := 0) (k'' := k) (n'' := n) (pc := pc + 3) (a9 := ([.int i, .int j, v] : List Value).toArray) (Q' := fun o S' iv' => o = .inl (some (.int i)) ∧ S' = S ∧ iv' = iv) C0 hR hL hS h1 h2 h3 h4 (by omega) (by omega) (fun v0 S' iv' hq => by
      have e : v0 = some (.int i) := Sum.inl.inj hq.1
      rw [e, hq.2.1, hq.2.2]
      exact h) (fun X S' iv' hq => by cases hq.1) ?_
    refine vx_runS (As := [.int i, .int j, v]) (n := 3) (bytes := M'.2.2.1) (maxL := M'.2.2.2.1) (ret := M'.2.2.2.2.1) ⟨C0.1, C0.2.1, C0.2.2.1, C0.2.2.2.2.1, hts⟩ (hM v hv) ⟨⟨rfl, rfl, ?_, ?_, am_pay hts hw5, ?_, ?_, hts _ hw4, ⟨hy.1, hy.2.1⟩, ?_, hts _ hw1⟩, hts _ hw2⟩ ⟨?_, ?_⟩ rfl rfl hL.1 rfl (lv_room hcat) d3 ⟨by omega, by omega⟩
    · show d + 1 ≤ R.frames
      exact hR.1
    · show 8 + (M'.2.2.2.1 + 11) + 64 * d ≤ R.locals
      have := hR.2
      omega
    · show _ ∈ am_ws M'
      unfold am_ws; rw [hcode]; exact List.mem_cons_self
    · rw [← hcode]; exact hts _ hw5
    · intro sig h
      have h9 := hy.2.2
      rw [h] at h9
      exact (Option.some.inj h9).symm
    · intro a U g mk h
      exact ⟨h.1, h.2.1, h.2.2.calling g mk a⟩
    · intro U hU hW
      exact ⟨rfl, by rw [hU]; exact hP, hG.go hS hU hW⟩
  rcases hG.2.2.2.2.2.2.2.2.2.2.2.2 with hz | ⟨t, hz⟩
  · exact key .null rfl hz
  · exact key (.ref t) rfl hz
end AMCK
