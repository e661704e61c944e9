/-! a method's contract out of its walk; calls -/
theorem am_lvargs (E : am_E) : ∀ (as : List Value) (i : Nat), (∀ v ∈ as, am_kn v = true) → lv_args i (as.map (am_tr E)) = am_pr E i as := by
  intro as
  induction as with
  | nil => intro i _; rfl
  | cons v r ih =>
    intro i h
    have hv := h v List.mem_cons_self
    have hc : (am_tr E v).category = 1 := am_kn_cat E hv
    show (i, am_tr E v) :: lv_args (if (am_tr E v).category = 2 then i + 2 else i + 1) (r.map (am_tr E)) = _
    rw [hc, if_neg (by decide), ih (i + 1) (fun w hw => h w (List.mem_cons_of_mem _ hw))]
    show _ = if am_kn v then (i, am_tr E v) :: am_pr E (i + 1) r else am_pr E (i + 1) r
    rw [if_pos hv]
theorem am_lgsl (E : am_E) : ∀ (as : List Value), (∀ v ∈ as, am_kn v = true) → (lg_sl (as.map (am_tr E))).length = as.length := by
  intro as
  induction as with
  | nil => intro _; rfl
  | cons v r ih =>
    intro h
    have hc : (am_tr E v).category = 1 := am_kn_cat E (h v List.mem_cons_self)
    have := ih (fun w hw => h w (List.mem_cons_of_mem _ hw))
    simp only [lg_sl, List.map_cons, List.flatMap_cons, hc] at this ⊢
    simp [this]
theorem am_pr_app (E : am_E) (as js : List Value) (h : ∀ v ∈ js, am_kn v = false) : am_pr E 0 (as ++ js) = am_pr E 0 as := by
  have key : ∀ (as : List Value) (i : Nat), am_pr E i (as ++ js) = am_pr E i as := by
    intro as
    induction as with
    | nil =>
      intro i
      show am_pr E i js = []
      clear as
      induction js generalizing i with
      | nil => rfl
      | cons v r ih =>
        show (if am_kn v then _ else _) = _
        rw [if_neg (by rw [h v List.mem_cons_self]; decide)]
        exact ih (fun w hw => h w (List.mem_cons_of_mem _ hw)) (i + 1)
    | cons v r ih =>
      intro i
      show (if am_kn v then (i, am_tr E v) :: am_pr E (i + 1) (r ++ js) else am_pr E (i + 1) (r ++ js)) = (if am_kn v then (i, am_tr E v) :: am_pr E (i + 1) r else am_pr E (i + 1) r)
      rw [ih (i + 1)]
  exact key as 0
theorem am_LS.entry (E : am_E) {nL : Nat} {as js : List Value} (h : ∀ v ∈ as, am_kn v = true) (hj : ∀ v ∈ js, am_kn v = false) (hn : as.length ≤ nL) : am_LS E nL (as ++ js) ((lg_sl (as.map (am_tr E)) ++ List.replicate (nL - (lg_sl (as.map (am_tr E))).length) Slot.unset).toArray) := by
  unfold am_LS
  rw [am_pr_app E as js hj, ← am_lvargs E as 0 h]
  exact lv_entry (as.map (am_tr E)) (n := nL) (by rw [am_lgsl E as h]; exact hn)
theorem am_gw_good {w : Cond} (h : w ∈ am_gw) : am_good w = true := (List.mem_filter.mp h).2
theorem am_G.calling {E : am_E} {U : State} (h : am_G E U) (g : JFrame) (mk : MethodId) (a : Array Value) : am_G E (U.calling g mk a) := am_G.go (s := U) (U := U.calling g mk a) (H := U.heap) (locs := []) h va_S.rf rfl (State.WarmedH.refl U)
theorem am_blind (E : am_E) (as : List Value) (S : am_S) (iv : am_I) : FrameBlind (fun av U => av = (as.map (am_tr E)).toArray ∧ am_HP E S iv U.heap ∧ am_G E U) := by
  intro a U g mk h
  exact ⟨h.1, h.2.1, h.2.2.calling g mk a⟩
section AMC
variable {E : am_E} {d : Nat} {M : am_Me} {k n pc : Nat} {ls st : List Value} {S : am_S} {iv : am_I} {Q : am_O → am_S → am_I → Prop}
theorem am_enter {as js : List Value} (hh : M.2.2.2.2.2 = []) (hy : plainName M.2.1.cls = true) (hM1 : M.1 = M.2.1.cls) (ha : as.all am_kn = true) (hj : js.all (fun v => !am_kn v) = true) (hl : as.length ≤ M.2.2.2.1) (h : am_R E d M k n 0 (as ++ js) [] S iv Q) : am_M E d M k n as S iv Q := by
  have ha' : ∀ v ∈ as, am_kn v = true := List.all_eq_true.mp ha
  have hj' : ∀ v ∈ js, am_kn v = false := fun v hv => by have := List.all_eq_true.mp hj v hv; simpa using this
  have hcode : am_code M = Cond.code M.2.1 M.2.2.1 M.2.2.2.1 M.2.2.2.2.1 := by unfold am_code; rw [hh]
  refine vx_ofW (ws' := am_gw) (cc := M.2.2.1) (maxL := M.2.2.2.1) (ret := M.2.2.2.2.1) hy (by unfold am_ws; rw [hcode]) ?_
  intro p e s m args below meth c s₁ B hml htab hP
  obtain ⟨rfl, hP, hG⟩ := hP
  have hts := atoms_spec (ws := am_ws M) B.pre
  have hown : s.vm.findClass M.1 = some m.cls := by rw [hM1]; exact findClass_of_methodNamed B.named
  have htb : c.exceptionTable.toList = tableOf M.2.2.2.2.2 := by
    rw [hh]
    show _ = []
    cases hc : c.exceptionTable.toList with
    | nil => rfl
    | cons x r => exact (htab x (by rw [hc]; exact List.mem_cons_self)).elim
  rw [lg_entry_eq]
  exact h p e _ s m _ below meth c k n ⟨B.exec, B.bytes, hml, B.returns, hown, fun w hw => hts w (List.mem_cons_of_mem _ hw), B.notSynchronized, (name_of_methodNamed B.named B.method).1, htb, hG⟩ ⟨Nat.le_refl _, Nat.le_refl _⟩
    s.heap _ [] 0 0 hP (am_LS.entry E ha' hj' hl) va_S.rf (by show 0 + k ≤ k; omega) (by show 0 + n ≤ n; omega) (by omega) (by omega)
/-- a member that the machine has no entry for, of a class that has some -/
theorem am_enterF {as js : List Value} (hh : M.2.2.2.2.2 = []) (hy : plainFor M.2.1 = true) (hM1 : M.1 = M.2.1.cls) (ha : as.all am_kn = true) (hj : js.all (fun v => !am_kn v) = true) (hl : as.length ≤ M.2.2.2.1) (h : am_R E d M k n 0 (as ++ js) [] S iv Q) : am_M E d M k n as S iv Q := by
  have ha' : ∀ v ∈ as, am_kn v = true := List.all_eq_true.mp ha
  have hj' : ∀ v ∈ js, am_kn v = false := fun v hv => by have := List.all_eq_true.mp hj v hv; simpa using this
  have hcode : am_code M = Cond.code M.2.1 M.2.2.1 M.2.2.2.1 M.2.2.2.2.1 := by unfold am_code; rw [hh]
  have hin : Cond.code M.2.1 M.2.2.1 M.2.2.2.1 M.2.2.2.2.1 ∈ am_ws M := by unfold am_ws; rw [hcode]; exact List.mem_cons_self
  refine MetFree.of_bodySF (code := M.2.2.1) (maxLocals := M.2.2.2.1) (ret := M.2.2.2.2.1) hy ?_ ?_
  · intro args s m h hn
    obtain ⟨meth, c, h1, h2, h3, h4, h5, h6, -, -⟩ := Cond.code_spec hn (atoms_spec (ws := am_ws M) h _ hin)
    exact ⟨meth, c, h1, h2, h3, h4, h5, h6⟩
  · intro p e s m args below meth c s₁ B hml hP _
    have hh0 : s₁.heap = s.heap := by rw [B.state]; rfl
    have htb : c.exceptionTable.toList = tableOf M.2.2.2.2.2 := by
      obtain ⟨meth9, c9, h1, h2, -, -, -, -, h7, -⟩ := Cond.code_spec B.named (atoms_spec (ws := am_ws M) B.pre _ hin)
      cases Option.some.inj (h1.symm.trans B.method)
      cases Option.some.inj (h2.symm.trans (Stand.of_body B).code)
      rw [hh, Array.isEmpty_iff.mp h7]
      rfl
    obtain ⟨rfl, hP, hG⟩ := hP
    have hts := atoms_spec (ws := am_ws M) B.pre
    have hown : s.vm.findClass M.1 = some m.cls := by rw [hM1]; exact findClass_of_methodNamed B.named
    have h9 := h p e { frames := d, cells := k, slots := n, locals := 64 * d } s m _ below meth c k n ⟨B.exec, B.bytes, hml, B.returns, hown, fun w hw => hts w (List.mem_cons_of_mem _ hw), B.notSynchronized, (name_of_methodNamed B.named B.method).1, htb, hG⟩ ⟨Nat.le_refl _, Nat.le_refl _⟩
      s.heap _ [] 0 0 hP (am_LS.entry E ha' hj' hl) va_S.rf (by show 0 + k ≤ k; omega) (by show 0 + n ≤ n; omega) (by omega) (by omega)
    rw [← hh0] at h9
    obtain ⟨t, a1, o, b1, b2, b3⟩ := h9 s₁ rfl (Stand.of_body B)
    refine ⟨t, o, ?_, b1, b2, b3⟩
    rw [lg_entry_eq]
    exact a1
/-- a method with handlers -/
theorem am_enterH {as js : List Value} (hh : M.2.2.2.2.2 ≠ []) (hy : plainName M.2.1.cls = true) (hM1 : M.1 = M.2.1.cls) (ha : as.all am_kn = true) (hj : js.all (fun v => !am_kn v) = true) (hl : as.length ≤ M.2.2.2.1) (h : am_R E d M k n 0 (as ++ js) [] S iv Q) : am_M E d M k n as S iv Q := by
  have ha' : ∀ v ∈ as, am_kn v = true := List.all_eq_true.mp ha
  have hj' : ∀ v ∈ js, am_kn v = false := fun v hv => by have := List.all_eq_true.mp hj v hv; simpa using this
  have hcode : am_code M = Cond.codeWith M.2.1 M.2.2.1 M.2.2.2.1 M.2.2.2.2.1 M.2.2.2.2.2 := by
    unfold am_code
    cases hc : M.2.2.2.2.2 with
    | nil => exact absurd hc hh
    | cons x r => rfl
  refine vx_ofWH (ws' := am_gw) (cc := M.2.2.1) (maxL := M.2.2.2.1) (ret := M.2.2.2.2.1) (hh := M.2.2.2.2.2) hy (by unfold am_ws; rw [hcode]) ?_
  intro p e s m args below meth c s₁ B hml hP
  obtain ⟨rfl, hP, hG⟩ := hP
  have hts := atoms_spec (ws := am_ws M) B.pre
  have hown : s.vm.findClass M.1 = some m.cls := by rw [hM1]; exact findClass_of_methodNamed B.named
  have hcw : (Cond.codeWith M.2.1 M.2.2.1 M.2.2.2.1 M.2.2.2.2.1 M.2.2.2.2.2).before (as.map (am_tr E)).toArray s = true := by rw [← hcode]; exact hts _ List.mem_cons_self
  have htb : c.exceptionTable.toList = tableOf M.2.2.2.2.2 := vx_table (x := M.2.1) B hcw
  rw [lg_entry_eq]
  exact h p e _ s m _ below meth c k n ⟨B.exec, B.bytes, hml, B.returns, hown, fun w hw => hts w (List.mem_cons_of_mem _ hw), B.notSynchronized, (name_of_methodNamed B.named B.method).1, htb, hG⟩ ⟨Nat.le_refl _, Nat.le_refl _⟩
    s.heap _ [] 0 0 hP (am_LS.entry E ha' hj' hl) va_S.rf (by show 0 + k ≤ k; omega) (by show 0 + n ≤ n; omega) (by omega) (by omega)
/-- what was called has come back -/
theorem am_back {p : Program} {e : Env} {R : Room} {s : State} {m : MethodId} {args a9 : Array Value} {below : List Frame} {meth : Method} {c : Code} {mc ms k' n' k'' n'' : Nat} {H : Heap} {rls : Array Slot} {st0 : List Value} {locs : List Loc} {cells slots : Nat} {Q' : am_O → am_S → am_I → Prop}
    (C0 : am_Ctx E M p s m args meth c) (hR : am_Rm d R) (hL : am_LS E M.2.2.2.1 ls rls) (hS : va_S (am_A E) s.heap H locs) (h1 : cells + k ≤ R.cells) (h2 : slots + n ≤ R.slots) (h3 : cells + k ≤ mc) (h4 : slots + n ≤ ms) (hk : k' + k'' ≤ k) (hn : n' + n'' ≤ n)
    (hret : ∀ v S' iv', Q' (.inl v) S' iv' → am_R E d M k'' n'' (pc + 3) ls (v.toList ++ st) S' iv' Q) (hthr : ∀ X S' iv', Q' (.inr X) S' iv' → am_T E d M k'' n'' pc ls X S' iv' Q)
    (hr : vx_Run p (am_l E) e R s m args below meth c H locs cells slots k' n' (F0 m pc rls st0) (st.map (am_tr E)) (am_Qc E Q' a9) (am_XC E Q') (am_A E)) :
    W p (am_l E) e R s m args below meth c H locs cells slots (vx_MQ below (am_Qc E Q) (am_XC E Q) args s mc ms (am_A E)) (F0 m pc rls st0) := by
  intro T hT X
  rcases hr T hT X with ⟨v, st₀, t, T', L, h0, X', hLb, e1, e2, ⟨⟨v0, S', iv', hv, hP', hQ⟩, hF⟩, sts⟩ | ⟨q, st₀, t, T', L, Xn, ce, h0, X', hLb, e1, e2, ⟨⟨S', iv', hP', hQ⟩, hF⟩, hce, hcv, hcl, sts⟩
  · have hv' : v = v0.map (am_tr E) := by cases hv; rfl
    subst hv'
    obtain ⟨-, -, k3⟩ := vx_keep h0 e1 hS (fun q _ z => z) (fun q z => z) hLb hF
    have hW := hret v0 S' iv' hQ p e R s m args below meth c mc ms C0 hR T'.heap rls (locs ++ L) (cells + k') (slots + n') (by rw [e1]; exact hP') hL k3 (by omega) (by omega) (by omega) (by omega)
    have hst : (v0.toList ++ st).map (am_tr E) = (v0.map (am_tr E)).toList ++ st.map (am_tr E) := by cases v0 <;> rfl
    rw [hst] at hW
    obtain ⟨t2, a1, b1⟩ := hW T' rfl X'
    exact ⟨t2, sts t2 a1, b1⟩
  · obtain ⟨-, -, k3⟩ := vx_keep h0 e1 hS (fun q _ z => z) (fun q z => z) hLb hF
    obtain ⟨t2, a1, b1⟩ := hthr Xn S' iv' hQ p e R s m args below meth c mc ms C0 hR T'.heap rls (st.map (am_tr E)) (locs ++ L) (cells + k') (slots + n') q ce (by rw [e1]; exact hP') hL k3 (by omega) (by omega) (by omega) (by omega) (by rw [e1]; exact hce) hcv hcl T' rfl X'
    exact ⟨t2, sts.trans a1, b1⟩
theorem am_pay {s : State} {args : Array Value} {M' : am_Me} (hts : ∀ w ∈ am_gw, w.before args s = true) (hc : am_code M' ∈ am_gw) : ∀ w ∈ am_ws M', ∀ (a' : Array Value) (U : State), s.WarmedH U.vm → w.before a' U = true := by
  intro w hw a' U hW
  have hm : w ∈ am_gw := by
    rcases List.mem_cons.mp hw with h | h
    · rw [h]; exact hc
    · exact h
  exact am_at hW (am_gw_good hm) (hts w hm)
/-- no handler: what is thrown goes on -/
theorem am_Tout {X : String} (hh : M.2.2.2.2.2 = []) (h : Q (.inr X) S iv) : am_T E d M k n pc ls X S iv Q := by
  intro p e R s m args below meth c mc ms C0 hR H rls rst locs cells slots q ce hP hL hS h1 h2 h3 h4 hce hcv hcl
  refine vx_out (E := X) (ce := ce) ?_ C0.2.2.2.2.2.2.1 hce hcv hcl (fun t ht _ => ⟨⟨S, iv, ht ▸ hP, h⟩, hS.F ht⟩) hS.2.2 (by omega) (by omega)
  intro x hx
  rw [C0.2.2.2.2.2.2.2.2.1, hh] at hx
  cases hx
theorem am_callV {a ci idx d' k' n' k'' n'' : Nat} {C : String} {T : u_T} {N : Nat} {M' : am_Me} {as : List Value} {Q' : am_O → am_S → am_I → Prop} (hd : decode M.2.2.1 pc = .ok (.invokevirtual idx, 3)) (hc : vwCl[ci]? = some (C, T, N)) (hN : N = am_N ci) (ha : S.1 a = some (.inl ci)) (hh : M'.2.2.2.2.2 = [])
    (hw1 : Cond.methodLink M.1 idx M'.2.1 ∈ am_gw) (hw2 : Cond.instanceMethod M'.2.1 ∈ am_gw) (hw3 : Cond.selects C M'.2.1 M'.2.1 ∈ am_gw) (hw4 : Cond.initialized M'.2.1.cls ∈ am_gw) (hw5 : am_code M' ∈ am_gw) (hy : M'.2.1.cls ≠ "java/lang/invoke/MethodHandle" ∧ M'.2.1.cls ≠ "java/lang/invoke/VarHandle" ∧ (parseMethodDescriptor M'.2.1.desc).map (fun d => d.parameters.length) = some as.length)
    (hml : M'.2.2.2.1 ≤ 45) (hdd : d' + 1 ≤ d) (hst : (st.map fun v => v.category).sum ≤ 8) (hk : k' + k'' ≤ k) (hn : n' + n'' ≤ n) (hM : am_M E d' M' k' n' (.ref a :: as) S iv Q')
    (hret : ∀ v S' iv', Q' (.inl v) S' iv' → am_R E d M k'' n'' (pc + 3) ls (v.toList ++ st) S' iv' Q) (hthr : ∀ X S' iv', Q' (.inr X) S' iv' → am_T E d M k'' n'' pc ls X S' iv' Q) : am_R E d M k n pc ls (as.reverse ++ .ref a :: st) S iv Q := by
  intro p e R s m args below meth c mc ms C0 hR H rls locs cells slots hP hL hS h1 h2 h3 h4
  have hts := C0.2.2.2.2.2.1
  have hG := C0.2.2.2.2.2.2.2.2.2
  have hcode : am_code M' = Cond.code M'.2.1 M'.2.2.1 M'.2.2.2.1 M'.2.2.2.2.1 := by unfold am_code; rw [hh]
  have hcat : ((st.map (am_tr E)).map fun v => v.category).sum ≤ 8 := by
    rw [List.map_map]
    have : ((fun v : Value => v.category) ∘ am_tr E) = fun v => v.category := funext fun v => am_tr_cat E v
    rw [this]; exact hst
  obtain ⟨cellB, q1, q2, q3, q4⟩ := hP.obj ha hc hN
  obtain ⟨-, hfc, -⟩ := hG.1.1 ci _ hc
  have hmap : (as.reverse ++ .ref a :: st).map (am_tr E) = (as.map (am_tr E)).reverse ++ .ref (am_z E + a) :: st.map (am_tr E) := by
    rw [List.map_append, List.map_reverse]; rfl
  rw [hmap]
  refine am_back (k' := k') (n' := n') (a9 := (Value.ref (am_z E + a) :: as.map (am_tr E)).toArray) C0 hR hL hS h1 h2 h3 h4 hk hn hret hthr ?_
  refine vx_runV (As := as.map (am_tr E)) (n := as.length) (C := C) (bytes := M'.2.2.1) (maxL := M'.2.2.2.1) (ret := M'.2.2.2.2.1) ⟨C0.1, C0.2.1, C0.2.2.1, C0.2.2.2.2.1, hts⟩ hM ⟨⟨rfl, rfl, ?_, ?_, am_pay hts hw5, ?_, ?_, hts _ hw4, ⟨hy.1, hy.2.1⟩, ?_, hts _ hw1⟩, hts _ hw2, hts _ hw3⟩ ⟨am_blind E _ S iv, ⟨cellB, q1, by rw [q3]; rfl, by rw [q2]; exact hfc⟩, ?_⟩ rfl (by rw [List.length_map]) hL.1 rfl (lv_room hcat) hd ⟨by omega, by omega⟩
  · show d' + 1 ≤ R.frames
    exact Nat.le_trans hdd hR.1
  · show 8 + (M'.2.2.2.1 + 11) + 64 * d' ≤ R.locals
    have := hR.2
    omega
  · show _ ∈ am_ws M'
    unfold am_ws; rw [hcode]; exact List.mem_cons_self
  · rw [← hcode]; exact hts _ hw5
  · intro sig h
    have h9 := hy.2.2
    rw [h] at h9
    exact (Option.some.inj h9).symm
  · intro U hU hW
    exact ⟨rfl, by rw [hU]; exact hP, hG.go hS hU hW⟩
theorem am_callS {idx d' k' n' k'' n'' : Nat} {M' : am_Me} {as : List Value} {Q' : am_O → am_S → am_I → Prop} (hd : decode M.2.2.1 pc = .ok (.invokestatic idx, 3)) (hh : M'.2.2.2.2.2 = [])
    (hw1 : Cond.methodLink M.1 idx M'.2.1 ∈ am_gw) (hw2 : Cond.static M'.2.1 ∈ am_gw) (hw4 : Cond.initialized M'.2.1.cls ∈ am_gw) (hw5 : am_code M' ∈ am_gw) (hy : M'.2.1.cls ≠ "java/lang/invoke/MethodHandle" ∧ M'.2.1.cls ≠ "java/lang/invoke/VarHandle" ∧ (parseMethodDescriptor M'.2.1.desc).map (fun d => d.parameters.length) = some as.length)
    (hml : M'.2.2.2.1 ≤ 45) (hdd : d' + 1 ≤ d) (hst : (st.map fun v => v.category).sum ≤ 8) (hk : k' + k'' ≤ k) (hn : n' + n'' ≤ n) (hM : am_M E d' M' k' n' as S iv Q')
    (hret : ∀ v S' iv', Q' (.inl v) S' iv' → am_R E d M k'' n'' (pc + 3) ls (v.toList ++ st) S' iv' Q) (hthr : ∀ X S' iv', Q' (.inr X) S' iv' → am_T E d M k'' n'' pc ls X S' iv' Q) : am_R E d M k n pc ls (as.reverse ++ st) S iv Q := by
  intro p e R s m args below meth c mc ms C0 hR H rls locs cells slots hP hL hS h1 h2 h3 h4
  have hts := C0.2.2.2.2.2.1
  have hG := C0.2.2.2.2.2.2.2.2.2
  have hcode : am_code M' = Cond.code M'.2.1 M'.2.2.1 M'.2.2.2.1 M'.2.2.2.2.1 := by unfold am_code; rw [hh]
  have hcat : ((st.map (am_tr E)).map fun v => v.category).sum ≤ 8 := by
    rw [List.map_map]
    have : ((fun v : Value => v.category) ∘ am_tr E) = fun v => v.category := funext fun v => am_tr_cat E v
    rw [this]; exact hst
  have hmap : (as.reverse ++ st).map (am_tr E) = (as.map (am_tr E)).reverse ++ st.map (am_tr E) := by
    rw [List.map_append, List.map_reverse]
  rw [hmap]
  refine am_back (k' := k') (n' := n') (a9 := (as.map (am_tr E)).toArray) C0 hR hL hS h1 h2 h3 h4 hk hn hret hthr ?_
  refine vx_runS (As := as.map (am_tr E)) (n := as.length) (bytes := M'.2.2.1) (maxL := M'.2.2.2.1) (ret := M'.2.2.2.2.1) ⟨C0.1, C0.2.1, C0.2.2.1, C0.2.2.2.2.1, hts⟩ hM ⟨⟨rfl, rfl, ?_, ?_, am_pay hts hw5, ?_, ?_, hts _ hw4, ⟨hy.1, hy.2.1⟩, ?_, hts _ hw1⟩, hts _ hw2⟩ ⟨am_blind E _ S iv, ?_⟩ rfl (by rw [List.length_map]) hL.1 rfl (lv_room hcat) hd ⟨by omega, by omega⟩
  · show d' + 1 ≤ R.frames
    exact Nat.le_trans hdd hR.1
  · show 8 + (M'.2.2.2.1 + 11) + 64 * d' ≤ R.locals
    have := hR.2
    omega
  · show _ ∈ am_ws M'
    unfold am_ws; rw [hcode]; exact List.mem_cons_self
  · rw [← hcode]; exact hts _ hw5
  · intro sig h
    have h9 := hy.2.2
    rw [h] at h9
    exact (Option.some.inj h9).symm
  · intro U hU hW
    exact ⟨rfl, by rw [hU]; exact hP, hG.go hS hU hW⟩
/-- a method that never throws -/
theorem am_M.met {as : List Value} (h : am_M E d M k n as S iv Q) (hx : ∀ X S' iv', ¬ Q (.inr X) S' iv') : Met (am_l E) M.2.1 (am_ws M) { frames := d, cells := k, slots := n, locals := 64 * d } (fun av U => av = (as.map (am_tr E)).toArray ∧ am_HP E S iv U.heap ∧ am_G E U) (am_Qc E Q) k n (am_A E) := by
  intro p e ha hc hk s m args below hf happ hP hK
  obtain ⟨n9, o, h1, h2, h3, h4⟩ := h p e ha hc hk s m args below hf happ hP hK
  refine ⟨n9, o, h1, h2, h3, ?_⟩
  rcases h4 with h4 | ⟨q, -, Xn, ce, L, ⟨⟨S', iv', -, hq⟩, -⟩, -⟩
  · exact h4
  · exact absurd hq (hx Xn S' iv')
theorem am_backI {p : Program} {e : Env} {R : Room} {s : State} {m : MethodId} {args a9 : Array Value} {below : List Frame} {meth : Method} {c : Code} {mc ms k' n' k'' n'' : Nat} {H : Heap} {rls : Array Slot} {st0 : List Value} {locs : List Loc} {cells slots : Nat} {Q' : am_O → am_S → am_I → Prop}
    (C0 : am_Ctx E M p s m args meth c) (hR : am_Rm d R) (hL : am_LS E M.2.2.2.1 ls rls) (hS : va_S (am_A E) s.heap H locs) (h1 : cells + k ≤ R.cells) (h2 : slots + n ≤ R.slots) (h3 : cells + k ≤ mc) (h4 : slots + n ≤ ms) (hk : k' + k'' ≤ k) (hn : n' + n'' ≤ n)
    (hret : ∀ v S' iv', Q' (.inl v) S' iv' → am_R E d M k'' n'' (pc + 3) ls (v.toList ++ st) S' iv' Q)
    (hr : va_Run p (am_l E) e R s m args below meth c H locs cells slots k' n' (F0 m pc rls st0) (st.map (am_tr E)) (am_Qc E Q' a9) (am_A E)) :
    W p (am_l E) e R s m args below meth c H locs cells slots (vx_MQ below (am_Qc E Q) (am_XC E Q) args s mc ms (am_A E)) (F0 m pc rls st0) := by
  intro T hT X
  obtain ⟨v, st₀, t, T', L, h0, X', hLb, e1, e2, ⟨⟨v0, S', iv', hv, hP', hQ⟩, hF⟩, sts⟩ := hr T hT X
  have hv' : v = v0.map (am_tr E) := by cases hv; rfl
  subst hv'
  obtain ⟨-, -, k3⟩ := vx_keep h0 e1 hS (fun q _ z => z) (fun q z => z) hLb hF
  have hW := hret v0 S' iv' hQ p e R s m args below meth c mc ms C0 hR T'.heap rls (locs ++ L) (cells + k') (slots + n') (by rw [e1]; exact hP') hL k3 (by omega) (by omega) (by omega) (by omega)
  have hst : (v0.toList ++ st).map (am_tr E) = (v0.map (am_tr E)).toList ++ st.map (am_tr E) := by cases v0 <;> rfl
  rw [hst] at hW
  obtain ⟨t2, a1, b1⟩ := hW T' rfl X'
  exact ⟨t2, sts t2 a1, b1⟩
/-- a constructor: by a plain link, or by one to a private one of a nest mate -/
theorem am_callI {a idx d' k' n' k'' n'' : Nat} {M' : am_Me} {as : List Value} {host : String} {Q' : am_O → am_S → am_I → Prop} (hd : decode M.2.2.1 pc = .ok (.invokespecial idx, 3)) (hh : M'.2.2.2.2.2 = []) (hr : M'.2.2.2.2.1 = none) (hy1 : M'.2.1.name = "<init>")
    (hw1 : Cond.methodLink M.1 idx M'.2.1 ∈ am_gw ∨ (M.1, idx, M'.2.1, host) ∈ am_nl) (hw2 : Cond.instanceMethod M'.2.1 ∈ am_gw) (hw4 : Cond.initialized M'.2.1.cls ∈ am_gw) (hw5 : am_code M' ∈ am_gw) (hy : M'.2.1.cls ≠ "java/lang/invoke/MethodHandle" ∧ M'.2.1.cls ≠ "java/lang/invoke/VarHandle" ∧ (parseMethodDescriptor M'.2.1.desc).map (fun d => d.parameters.length) = some as.length)
    (hml : M'.2.2.2.1 ≤ 45) (hdd : d' + 1 ≤ d) (hst : (st.map fun v => v.category).sum ≤ 8) (hk : k' + k'' ≤ k) (hn : n' + n'' ≤ n) (hM : am_M E d' M' k' n' (.ref a :: as) S iv Q') (hx : ∀ X S' iv', ¬ Q' (.inr X) S' iv')
    (hret : ∀ v S' iv', Q' (.inl v) S' iv' → am_R E d M k'' n'' (pc + 3) ls (v.toList ++ st) S' iv' Q) : am_R E d M k n pc ls (as.reverse ++ .ref a :: st) S iv Q := by
  intro p e R s m args below meth c mc ms C0 hR H rls locs cells slots hP hL hS h1 h2 h3 h4
  have hts := C0.2.2.2.2.2.1
  have hG := C0.2.2.2.2.2.2.2.2.2
  have hcode : am_code M' = Cond.code M'.2.1 M'.2.2.1 M'.2.2.2.1 none := by unfold am_code; rw [hh, hr]
  have hcat : ((st.map (am_tr E)).map fun v => v.category).sum ≤ 8 := by
    rw [List.map_map]
    have : ((fun v : Value => v.category) ∘ am_tr E) = fun v => v.category := funext fun v => am_tr_cat E v
    rw [this]; exact hst
  have hmap : (as.reverse ++ .ref a :: st).map (am_tr E) = (as.map (am_tr E)).reverse ++ .ref (am_z E + a) :: st.map (am_tr E) := by
    rw [List.map_append, List.map_reverse]; rfl
  rw [hmap]
  refine am_backI (k' := k') (n' := n') (a9 := (Value.ref (am_z E + a) :: as.map (am_tr E)).toArray) C0 hR hL hS h1 h2 h3 h4 hk hn hret ?_
  have c1 : d' + 1 ≤ R.frames := Nat.le_trans hdd hR.1
  have c2 : 8 + (M'.2.2.2.1 + 11) + 64 * d' ≤ R.locals := by have := hR.2; omega
  have c3 : Cond.code M'.2.1 M'.2.2.1 M'.2.2.2.1 none ∈ am_ws M' := by unfold am_ws; rw [hcode]; exact List.mem_cons_self
  have c4 : (Cond.code M'.2.1 M'.2.2.1 M'.2.2.2.1 none).before args s = true := by rw [← hcode]; exact hts _ hw5
  have c5 : ∀ sig, parseMethodDescriptor M'.2.1.desc = some sig → as.length = sig.parameters.length := fun sig h => by
    have h9 := hy.2.2
    rw [h] at h9
    exact (Option.some.inj h9).symm
  have hPS : PreS s H (fun av U => av = ((Value.ref a :: as).map (am_tr E)).toArray ∧ am_HP E S iv U.heap ∧ am_G E U) (.ref (am_z E + a) :: as.map (am_tr E)) := ⟨am_blind E _ S iv, fun U hU hW => ⟨rfl, by rw [hU]; exact hP, hG.go hS hU hW⟩⟩
  rcases hw1 with hw1 | hw1
  · exact va_runI (As := as.map (am_tr E)) (n := as.length) (bytes := M'.2.2.1) (maxL := M'.2.2.2.1) ⟨C0.1, C0.2.1, C0.2.2.1, C0.2.2.2.2.1, hts⟩ (hM.met hx) ⟨⟨rfl, rfl, c1, c2, am_pay hts hw5, c3, c4, hts _ hw4, ⟨hy.1, hy.2.1⟩, c5, hts _ hw1⟩, hy1, hts _ hw2⟩ hPS rfl (by rw [List.length_map]) hL.1 rfl (lv_room hcat) hd ⟨by omega, by omega⟩
  · exact va_runIN (As := as.map (am_tr E)) (n := as.length) (bytes := M'.2.2.1) (maxL := M'.2.2.2.1) (host := host) ⟨C0.1, C0.2.1, C0.2.2.1, C0.2.2.2.2.1, hts⟩ (hM.met hx) ⟨⟨⟨rfl, rfl, c1, c2, am_pay hts hw5, c3⟩, c4, hts _ hw4, ⟨hy.1, hy.2.1⟩, c5, va_Nw.use rfl (hG.2.2.2.2.1 _ hw1)⟩, hy1, hts _ hw2⟩ hPS rfl (by rw [List.length_map]) hL.1 rfl (lv_room hcat) hd ⟨by omega, by omega⟩
end AMC
