/-! what the printed rows use: words by their places, calls whose answer goes on, arrays by their types -/
theorem am_inT {w : Cond} (h : w ∈ tables_1) (hg : am_good w = true) : w ∈ am_gw := List.mem_filter.mpr ⟨List.mem_append_right _ h, hg⟩
theorem am_inS {w : Cond} (i : Nat) (h : (k2_sels lw_privs)[i]? = some w) (hg : am_good w = true) : w ∈ am_gw := List.mem_filter.mpr ⟨List.mem_append_left _ (List.mem_of_getElem? h), hg⟩
theorem am_i1 {w : Cond} (j : Nat) (h0 : tables_1_1[j]? = some w) (hg : am_good w = true) : w ∈ am_gw := by
  have h := List.mem_of_getElem? h0
  exact am_inT (show w ∈ tables_1_1 ++ (tables_1_2 ++ (tables_1_3 ++ (tables_1_4 ++ (tables_1_5 ++ (tables_1_6 ++ (tables_1_7 ++ tables_1_8)))))) from (List.mem_append_left _ h)) hg
theorem am_i2 {w : Cond} (j : Nat) (h0 : tables_1_2[j]? = some w) (hg : am_good w = true) : w ∈ am_gw := by
  have h := List.mem_of_getElem? h0
  exact am_inT (show w ∈ tables_1_1 ++ (tables_1_2 ++ (tables_1_3 ++ (tables_1_4 ++ (tables_1_5 ++ (tables_1_6 ++ (tables_1_7 ++ tables_1_8)))))) from (List.mem_append_right _ (List.mem_append_left _ h))) hg
theorem am_i3 {w : Cond} (j : Nat) (h0 : tables_1_3[j]? = some w) (hg : am_good w = true) : w ∈ am_gw := by
  have h := List.mem_of_getElem? h0
  exact am_inT (show w ∈ tables_1_1 ++ (tables_1_2 ++ (tables_1_3 ++ (tables_1_4 ++ (tables_1_5 ++ (tables_1_6 ++ (tables_1_7 ++ tables_1_8)))))) from (List.mem_append_right _ (List.mem_append_right _ (List.mem_append_left _ h)))) hg
theorem am_i4 {w : Cond} (j : Nat) (h0 : tables_1_4[j]? = some w) (hg : am_good w = true) : w ∈ am_gw := by
  have h := List.mem_of_getElem? h0
  exact am_inT (show w ∈ tables_1_1 ++ (tables_1_2 ++ (tables_1_3 ++ (tables_1_4 ++ (tables_1_5 ++ (tables_1_6 ++ (tables_1_7 ++ tables_1_8)))))) from (List.mem_append_right _ (List.mem_append_right _ (List.mem_append_right _ (List.mem_append_left _ h))))) hg
theorem am_i5 {w : Cond} (j : Nat) (h0 : tables_1_5[j]? = some w) (hg : am_good w = true) : w ∈ am_gw := by
  have h := List.mem_of_getElem? h0
  exact am_inT (show w ∈ tables_1_1 ++ (tables_1_2 ++ (tables_1_3 ++ (tables_1_4 ++ (tables_1_5 ++ (tables_1_6 ++ (tables_1_7 ++ tables_1_8)))))) from (List.mem_append_right _ (List.mem_append_right _ (List.mem_append_right _ (List.mem_append_right _ (List.mem_append_left _ h)))))) hg
theorem am_i6 {w : Cond} (j : Nat) (h0 : tables_1_6[j]? = some w) (hg : am_good w = true) : w ∈ am_gw := by
  have h := List.mem_of_getElem? h0
  exact am_inT (show w ∈ tables_1_1 ++ (tables_1_2 ++ (tables_1_3 ++ (tables_1_4 ++ (tables_1_5 ++ (tables_1_6 ++ (tables_1_7 ++ tables_1_8)))))) from (List.mem_append_right _ (List.mem_append_right _ (List.mem_append_right _ (List.mem_append_right _ (List.mem_append_right _ (List.mem_append_left _ h))))))) hg
theorem am_i7 {w : Cond} (j : Nat) (h0 : tables_1_7[j]? = some w) (hg : am_good w = true) : w ∈ am_gw := by
  have h := List.mem_of_getElem? h0
  exact am_inT (show w ∈ tables_1_1 ++ (tables_1_2 ++ (tables_1_3 ++ (tables_1_4 ++ (tables_1_5 ++ (tables_1_6 ++ (tables_1_7 ++ tables_1_8)))))) from (List.mem_append_right _ (List.mem_append_right _ (List.mem_append_right _ (List.mem_append_right _ (List.mem_append_right _ (List.mem_append_right _ (List.mem_append_left _ h)))))))) hg
theorem am_i8 {w : Cond} (j : Nat) (h0 : tables_1_8[j]? = some w) (hg : am_good w = true) : w ∈ am_gw := by
  have h := List.mem_of_getElem? h0
  exact am_inT (show w ∈ tables_1_1 ++ (tables_1_2 ++ (tables_1_3 ++ (tables_1_4 ++ (tables_1_5 ++ (tables_1_6 ++ (tables_1_7 ++ tables_1_8)))))) from (List.mem_append_right _ (List.mem_append_right _ (List.mem_append_right _ (List.mem_append_right _ (List.mem_append_right _ (List.mem_append_right _ (List.mem_append_right _ h)))))))) hg
/-- what comes behind a call at pc -/
def am_K3 (E : am_E) (d : Nat) (M : am_Me) (k n pc : Nat) (ls st : List Value) (Q : am_O → am_S → am_I → Prop) (o : am_O) (S : am_S) (iv : am_I) : Prop := match o with
  | .inl (some v) => am_R E d M k n (pc + 3) ls (v :: st) S iv Q
  | .inl none => am_R E d M k n (pc + 3) ls st S iv Q
  | .inr X => am_T E d M k n pc ls X S iv Q
section AMY
variable {E : am_E} {d : Nat} {M : am_Me} {k n pc : Nat} {ls st : List Value} {S : am_S} {iv : am_I} {Q : am_O → am_S → am_I → Prop}
theorem am_cV {a ci idx k' n' k'' n'' : Nat} {C : String} {T : u_T} {N : Nat} {M' : am_Me} {as : List Value} (hd : decode M.2.2.1 pc = .ok (.invokevirtual idx, 3)) (hc : vwCl[ci]? = some (C, T, N)) (hN : N = am_N ci) (hh : M'.2.2.2.2.2 = [])
    (hw1 : Cond.methodLink M.1 idx M'.2.1 ∈ am_gw) (hw2 : Cond.instanceMethod M'.2.1 ∈ am_gw) (hw3 : Cond.selects C M'.2.1 M'.2.1 ∈ am_gw) (hw4 : Cond.initialized M'.2.1.cls ∈ am_gw) (hw5 : am_code M' ∈ am_gw) (hy : M'.2.1.cls ≠ "java/lang/invoke/MethodHandle" ∧ M'.2.1.cls ≠ "java/lang/invoke/VarHandle" ∧ (parseMethodDescriptor M'.2.1.desc).map (fun d => d.parameters.length) = some as.length)
    (hml : M'.2.2.2.1 ≤ 45) (ha : S.1 a = some (.inl ci)) (hst : (st.map fun v => v.category).sum ≤ 8) (hk : k' + k'' ≤ k) (hn : n' + n'' ≤ n) (hM : am_M E d M' k' n' (.ref a :: as) S iv (am_K3 E (d + 1) M k'' n'' pc ls st Q)) : am_R E (d + 1) M k n pc ls (as.reverse ++ .ref a :: st) S iv Q :=
  am_callV hd hc hN ha hh hw1 hw2 hw3 hw4 hw5 hy hml (Nat.le_refl _) hst hk hn hM (fun v S' iv' h => by cases v <;> exact h) (fun X S' iv' h => h)
theorem am_cS {idx k' n' k'' n'' : Nat} {M' : am_Me} {as : List Value} (hd : decode M.2.2.1 pc = .ok (.invokestatic idx, 3)) (hh : M'.2.2.2.2.2 = [])
    (hw1 : Cond.methodLink M.1 idx M'.2.1 ∈ am_gw) (hw2 : Cond.static M'.2.1 ∈ am_gw) (hw4 : Cond.initialized M'.2.1.cls ∈ am_gw) (hw5 : am_code M' ∈ am_gw) (hy : M'.2.1.cls ≠ "java/lang/invoke/MethodHandle" ∧ M'.2.1.cls ≠ "java/lang/invoke/VarHandle" ∧ (parseMethodDescriptor M'.2.1.desc).map (fun d => d.parameters.length) = some as.length)
    (hml : M'.2.2.2.1 ≤ 45) (hst : (st.map fun v => v.category).sum ≤ 8) (hk : k' + k'' ≤ k) (hn : n' + n'' ≤ n) (hM : am_M E d M' k' n' as S iv (am_K3 E (d + 1) M k'' n'' pc ls st Q)) : am_R E (d + 1) M k n pc ls (as.reverse ++ st) S iv Q :=
  am_callS hd hh hw1 hw2 hw4 hw5 hy hml (Nat.le_refl _) hst hk hn hM (fun v S' iv' h => by cases v <;> exact h) (fun X S' iv' h => h)
/-- a static method with handlers (the law's own) -/
theorem am_cSH {idx k' n' k'' n'' : Nat} {M' : am_Me} {as : List Value} (hd : decode M.2.2.1 pc = .ok (.invokestatic idx, 3)) (hh : M'.2.2.2.2.2 ≠ [])
    (hw1 : Cond.methodLink M.1 idx M'.2.1 ∈ am_gw) (hw2 : Cond.static M'.2.1 ∈ am_gw) (hw4 : Cond.initialized M'.2.1.cls ∈ am_gw) (hw5 : am_code M' ∈ am_gw) (hy : M'.2.1.cls ≠ "java/lang/invoke/MethodHandle" ∧ M'.2.1.cls ≠ "java/lang/invoke/VarHandle" ∧ (parseMethodDescriptor M'.2.1.desc).map (fun d => d.parameters.length) = some as.length)
    (hml : M'.2.2.2.1 ≤ 45) (hst : (st.map fun v => v.category).sum ≤ 8) (hk : k' + k'' ≤ k) (hn : n' + n'' ≤ n) (hM : am_M E d M' k' n' as S iv (am_K3 E (d + 1) M k'' n'' pc ls st Q)) : am_R E (d + 1) M k n pc ls (as.reverse ++ st) S iv Q := by
  intro p e R s m args below meth c mc ms C0 hR H rls locs cells slots hP hL hS h1 h2 h3 h4
  have hts := C0.2.2.2.2.2.1
  have hG := C0.2.2.2.2.2.2.2.2.2
  have hcode : am_code M' = Cond.codeWith M'.2.1 M'.2.2.1 M'.2.2.2.1 M'.2.2.2.2.1 M'.2.2.2.2.2 := by
    unfold am_code
    cases hc : M'.2.2.2.2.2 with
    | nil => exact absurd hc hh
    | cons x r => rfl
  have hcat : ((st.map (am_tr E)).map fun v => v.category).sum ≤ 8 := by
    rw [List.map_map]
    have : ((fun v : Value => v.category) ∘ am_tr E) = fun v => v.category := funext fun v => am_tr_cat E v
    rw [this]; exact hst
  have hmap : (as.reverse ++ st).map (am_tr E) = (as.map (am_tr E)).reverse ++ st.map (am_tr E) := by
    rw [List.map_append, List.map_reverse]
  rw [hmap]
  refine am_back (k' := k') (n' := n') (a9 := (as.map (am_tr E)).toArray) (Q' := am_K3 E (d + 1) M k'' n'' pc ls st Q) C0 hR hL hS h1 h2 h3 h4 hk hn (fun v S' iv' h => by cases v <;> exact h) (fun X S' iv' h => h) ?_
  refine vx_runSX (As := as.map (am_tr E)) (n := as.length) (bytes := M'.2.2.1) (maxL := M'.2.2.2.1) (ret := M'.2.2.2.2.1) (hh := M'.2.2.2.2.2) ⟨C0.1, C0.2.1, C0.2.2.1, C0.2.2.2.2.1, hts⟩ hM ⟨⟨rfl, rfl, ?_, ?_, am_pay hts hw5, ?_⟩, ?_, hts _ hw4, ⟨hy.1, hy.2.1⟩, ?_, hts _ hw1, hts _ hw2⟩ ⟨am_blind E _ S iv, ?_⟩ rfl (by rw [List.length_map]) hL.1 rfl (lv_room hcat) hd ⟨by omega, by omega⟩
  · show d + 1 ≤ R.frames
    exact hR.1
  · show 8 + (M'.2.2.2.1 + 11) + 64 * d ≤ R.locals
    have := hR.2
    omega
  · show _ ∈ am_ws M'
    unfold am_ws; rw [hcode]; exact List.mem_cons_self
  · rw [← hcode]; exact hts _ hw5
  · intro sig h
    have h9 := hy.2.2
    rw [h] at h9
    exact (Option.some.inj h9).symm
  · intro U hU hW
    exact ⟨rfl, by rw [hU]; exact hP, hG.go hS hU hW⟩
theorem am_cI {a idx k' n' k'' n'' : Nat} {M' : am_Me} {as : List Value} (host : String) (hd : decode M.2.2.1 pc = .ok (.invokespecial idx, 3)) (hh : M'.2.2.2.2.2 = []) (hr : M'.2.2.2.2.1 = none) (hy1 : M'.2.1.name = "<init>")
    (hw1 : Cond.methodLink M.1 idx M'.2.1 ∈ am_gw ∨ (M.1, idx, M'.2.1, host) ∈ am_nl) (hw2 : Cond.instanceMethod M'.2.1 ∈ am_gw) (hw4 : Cond.initialized M'.2.1.cls ∈ am_gw) (hw5 : am_code M' ∈ am_gw) (hy : M'.2.1.cls ≠ "java/lang/invoke/MethodHandle" ∧ M'.2.1.cls ≠ "java/lang/invoke/VarHandle" ∧ (parseMethodDescriptor M'.2.1.desc).map (fun d => d.parameters.length) = some as.length)
    (hml : M'.2.2.2.1 ≤ 45) (hst : (st.map fun v => v.category).sum ≤ 8) (hk : k' + k'' ≤ k) (hn : n' + n'' ≤ n) (hM : am_M E d M' k' n' (.ref a :: as) S iv (fun o S' iv' => o = .inl none ∧ am_R E (d + 1) M k'' n'' (pc + 3) ls st S' iv' Q)) : am_R E (d + 1) M k n pc ls (as.reverse ++ .ref a :: st) S iv Q :=
  am_callI hd hh hr hy1 hw1 hw2 hw4 hw5 hy hml (Nat.le_refl _) hst hk hn hM (fun X S' iv' h => by cases h.1) (fun v S' iv' h => by
    have e : v = none := Sum.inl.inj h.1
    subst e
    exact h.2)
/-- a call on a constant text -/
theorem am_cT' {j idx k' n' k'' n'' : Nat} {M' : am_Me} {as : List Value} (hd : decode M.2.2.1 pc = .ok (.invokevirtual idx, 3)) (hh : M'.2.2.2.2.2 = [])
    (hw1 : Cond.methodLink M.1 idx M'.2.1 ∈ am_gw) (hw2 : Cond.instanceMethod M'.2.1 ∈ am_gw) (hw3 : Cond.selects "java/lang/String" M'.2.1 M'.2.1 ∈ am_gw) (hw4 : Cond.initialized M'.2.1.cls ∈ am_gw) (hw5 : am_code M' ∈ am_gw) (hy : M'.2.1.cls ≠ "java/lang/invoke/MethodHandle" ∧ M'.2.1.cls ≠ "java/lang/invoke/VarHandle" ∧ (parseMethodDescriptor M'.2.1.desc).map (fun d => d.parameters.length) = some as.length)
    (hml : M'.2.2.2.1 ≤ 45) (hj : j < am_by.length) (hst : (st.map fun v => v.category).sum ≤ 8) (hk : k' + k'' ≤ k) (hn : n' + n'' ≤ n) (hM : am_M E d M' k' n' (.retAddr j :: as) S iv (am_K3 E (d + 1) M k'' n'' pc ls st Q)) : am_R E (d + 1) M k n pc ls (as.reverse ++ .retAddr j :: st) S iv Q := by
  intro p e R s m args below meth c mc ms C0 hR H rls locs cells slots hP hL hS h1 h2 h3 h4
  have hts := C0.2.2.2.2.2.1
  have hG := C0.2.2.2.2.2.2.2.2.2
  have hcode : am_code M' = Cond.code M'.2.1 M'.2.2.1 M'.2.2.2.1 M'.2.2.2.2.1 := by unfold am_code; rw [hh]
  have hcat : ((st.map (am_tr E)).map fun v => v.category).sum ≤ 8 := by
    rw [List.map_map]
    have : ((fun v : Value => v.category) ∘ am_tr E) = fun v => v.category := funext fun v => am_tr_cat E v
    rw [this]; exact hst
  obtain ⟨cv, v1, v2, v3, -⟩ := (hG.2.2.2.2.2.2.1 j hj).1.kept hS.2.1
  have hmap : (as.reverse ++ .retAddr j :: st).map (am_tr E) = (as.map (am_tr E)).reverse ++ .ref (am_aK E j) :: st.map (am_tr E) := by
    rw [List.map_append, List.map_reverse]; rfl
  rw [hmap]
  refine am_back (k' := k') (n' := n') (a9 := (Value.ref (am_aK E j) :: as.map (am_tr E)).toArray) (Q' := am_K3 E (d + 1) M k'' n'' pc ls st Q) C0 hR hL hS h1 h2 h3 h4 hk hn (fun v S' iv' h => by cases v <;> exact h) (fun X S' iv' h => h) ?_
  refine vx_runV (As := as.map (am_tr E)) (n := as.length) (C := "java/lang/String") (bytes := M'.2.2.1) (maxL := M'.2.2.2.1) (ret := M'.2.2.2.2.1) ⟨C0.1, C0.2.1, C0.2.2.1, C0.2.2.2.2.1, hts⟩ hM ⟨⟨rfl, rfl, ?_, ?_, am_pay hts hw5, ?_, ?_, hts _ hw4, ⟨hy.1, hy.2.1⟩, ?_, hts _ hw1⟩, hts _ hw2, hts _ hw3⟩ ⟨am_blind E _ S iv, ⟨cv, v1, v2, v3⟩, ?_⟩ rfl (by rw [List.length_map]) hL.1 rfl (lv_room hcat) hd ⟨by omega, by omega⟩
  · show d + 1 ≤ R.frames
    exact hR.1
  · show 8 + (M'.2.2.2.1 + 11) + 64 * d ≤ R.locals
    have := hR.2
    omega
  · show _ ∈ am_ws M'
    unfold am_ws; rw [hcode]; exact List.mem_cons_self
  · rw [← hcode]; exact hts _ hw5
  · intro sig h
    have h9 := hy.2.2
    rw [h] at h9
    exact (Option.some.inj h9).symm
  · intro U hU hW
    exact ⟨rfl, by rw [hU]; exact hP, hG.go hS hU hW⟩
theorem am_nI {m k'' n'' : Nat} {x : Int32} (hd : decode M.2.2.1 pc = .ok (.newarray .int, 2)) (hw : Cond.arrayClass .int ∈ am_gw) (hx : ¬ x < 0) (hm : x.toNatClampNeg = m) (hb : m ≤ 100000000) (hk : 1 + k'' ≤ k) (hn : m + n'' ≤ n)
    (h : am_R E d M k'' n'' (pc + 2) ls (.ref S.2.2.2 :: st) (am_new S (.inr (.int, m))) (am_0 S iv) Q) : am_R E d M k n pc ls (.int x :: st) S iv Q :=
  am_newA (ty := .int) hd rfl hw rfl rfl (fun _ _ h => h) rfl hx hm (by show m * 4 ≤ _; omega) hk hn h
theorem am_nB {m k'' n'' : Nat} {x : Int32} (hd : decode M.2.2.1 pc = .ok (.newarray .byte, 2)) (hw : Cond.arrayClass .byte ∈ am_gw) (hx : ¬ x < 0) (hm : x.toNatClampNeg = m) (hb : m ≤ 100000000) (hk : 1 + k'' ≤ k) (hn : m + n'' ≤ n)
    (h : am_R E d M k'' n'' (pc + 2) ls (.ref S.2.2.2 :: st) (am_new S (.inr (.byte, m))) (am_0 S iv) Q) : am_R E d M k n pc ls (.int x :: st) S iv Q :=
  am_newA (ty := .byte) hd rfl hw rfl rfl (fun _ _ h => h) rfl hx hm (by show m * 1 ≤ _; omega) hk hn h
theorem am_nL {m k'' n'' : Nat} {x : Int32} (hd : decode M.2.2.1 pc = .ok (.newarray .long, 2)) (hw : Cond.arrayClass .long ∈ am_gw) (hx : ¬ x < 0) (hm : x.toNatClampNeg = m) (hb : m ≤ 50000000) (hk : 1 + k'' ≤ k) (hn : m + n'' ≤ n)
    (h : am_R E d M k'' n'' (pc + 2) ls (.ref S.2.2.2 :: st) (am_new S (.inr (.long, m))) (am_0 S iv) Q) : am_R E d M k n pc ls (.int x :: st) S iv Q :=
  am_newA (ty := .long) hd rfl hw rfl rfl (fun _ _ h => h) rfl hx hm (by show m * 8 ≤ _; omega) hk hn h
theorem am_nZ {m k'' n'' : Nat} {x : Int32} (hd : decode M.2.2.1 pc = .ok (.newarray .boolean, 2)) (hw : Cond.arrayClass .boolean ∈ am_gw) (hx : ¬ x < 0) (hm : x.toNatClampNeg = m) (hb : m ≤ 100000000) (hk : 1 + k'' ≤ k) (hn : m + n'' ≤ n)
    (h : am_R E d M k'' n'' (pc + 2) ls (.ref S.2.2.2 :: st) (am_new S (.inr (.boolean, m))) (am_0 S iv) Q) : am_R E d M k n pc ls (.int x :: st) S iv Q :=
  am_newA (ty := .boolean) hd rfl hw rfl rfl (fun _ _ h => h) rfl hx hm (by show m * 1 ≤ _; omega) hk hn h
end AMY
