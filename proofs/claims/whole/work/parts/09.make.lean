/-! rows that make cells; constant texts; copies; what is thrown -/
section AMN
variable {E : am_E} {d : Nat} {M : am_Me} {k n pc : Nat} {ls st : List Value} {S : am_S} {iv : am_I} {Q : am_O → am_S → am_I → Prop}
theorem am_HP.grow {E : am_E} {S : am_S} {iv : am_I} {H H' : Heap} (h : am_HP E S iv H) (t : am_K) (hz : H'.size = H.size + 1) (ho : ∀ q : Nat, q < H.size → H'[q]? = H[q]?)
    (ha : ∀ e, am_cell E (am_new S t) (am_0 S iv) S.2.2.2 = some e → va_at (am_D E) vwCl (am_z E + S.2.2.2, e) H') : am_HP E (am_new S t) (am_0 S iv) H' := by
  refine ⟨by rw [hz, h.1]; rfl, fun b hb => ?_, fun b e hb => ?_⟩
  · have hb' : S.2.2.2 + 1 ≤ b := hb
    show (if b = S.2.2.2 then some t else S.1 b) = none
    rw [if_neg (by omega)]
    exact h.2.1 b (by omega)
  · by_cases hba : b = S.2.2.2
    · subst hba
      exact ha e hb
    · have e1 : am_cell E (am_new S t) (am_0 S iv) b = am_cell E S iv b := am_cell_ext E (if_neg hba) (if_neg hba) (if_neg hba) (if_neg hba)
      rw [e1] at hb
      have h9 := h.2.2 b e hb
      exact h9.kept (ho _ h9.lt)
theorem am_newO {ci idx : Nat} {C : String} {T : u_T} {N k'' n'' : Nat} (hd : decode M.2.2.1 pc = .ok (.new idx, 3)) (hc : vwCl[ci]? = some (C, T, N)) (hN : N = am_N ci) (hw1 : Cond.classLink M.1 idx C ∈ am_gw) (hw2 : Cond.instantiable C N ∈ am_gw) (hw3 : Cond.initialized C ∈ am_gw) (hu : ∀ w ∈ u_ws C T N, w ∈ am_gw)
    (hty : ∀ k, k < N → parseFieldDescriptor (T k).2.2.1 = some (am_ty ci k)) (hdef : ∀ k, k < N → defaultValue (am_ty ci k) = if (am_ty ci k).isReference then .null else .int 0) (hk : 1 + k'' ≤ k) (hn : N + n'' ≤ n)
    (h : am_R E d M k'' n'' (pc + 3) ls (.ref S.2.2.2 :: st) (am_new S (.inl ci)) (am_0 S iv) Q) : am_R E d M k n pc ls st S iv Q := by
  intro p e R s m args below meth c mc ms C0 hR H rls locs cells slots hP hL hS h1 h2 h3 h4
  have hts := C0.2.2.2.2.2.1
  have hK := C0.2.2.2.2.2.2.2.2.2.1
  have hKn := hK.1 ci _ hc
  refine W.newcK C0.1 C0.2.1 C0.2.2.2.2.1 (hts _ hw1) (hts _ hw2) (hts _ hw3) rfl hd (by omega) (by omega) hKn.2.1 rfl fun H1 kC hkC e1 z1 o1 => ?_
  have hsz : H.size = am_z E + S.2.2.2 := hP.1
  have hP1 : am_HP E (am_new S (.inl ci)) (am_0 S iv) H1 := by
    refine hP.grow (.inl ci) z1 o1 (fun y hy => ?_)
    have hk2 : (am_new S (.inl ci)).1 S.2.2.2 = some (.inl ci) := if_pos rfl
    have hy2 : am_cell E (am_new S (.inl ci)) (am_0 S iv) S.2.2.2 = some (.inr (ci, (List.range (am_N ci)).map (am_fv E (am_new S (.inl ci)) (am_0 S iv) S.2.2.2 ci))) := by simp [am_cell, hk2]
    rw [hy2] at hy
    cases hy
    rw [← hsz]
    refine ⟨(C, T, N), hc, (u_born (am_ty ci) hts hu hKn hkC e1 hty).to (fun i hi => ?_)⟩
    rw [am_fs_at E _ _ _ ci (hN ▸ hi), hdef i hi]
    have e3 : (am_new S (.inl ci)).2.1 S.2.2.2 = fun _ => none := if_pos rfl
    have e4 : am_0 S iv S.2.2.2 = fun _ => 0 := if_pos rfl
    simp only [am_fv, e3, e4]
  have h9 := h p e R s m args below meth c mc ms C0 hR H1 rls locs (cells + 1) (slots + N) hP1 hL ⟨by rw [z1]; exact Nat.le_trans hS.1 (by omega), fun x a1 a2 => (o1 x (Nat.lt_of_lt_of_le a1 hS.1)).trans (hS.2.1 x a1 a2), hS.2.2⟩ (by omega) (by omega) (by omega) (by omega)
  rw [List.map_cons] at h9
  show W p (am_l E) e R s m args below meth c H1 locs (cells + 1) (slots + N) _ (F0 m (pc + 3) rls (.ref H.size :: st.map (am_tr E)))
  rw [hsz]
  exact h9
/-- an array of ints (bytes, longs, booleans), all 0 -/
theorem am_newA {at_ : ArrayType} {ty : FieldType} {m t k'' n'' : Nat} {x : Int32} (hd : decode M.2.2.1 pc = .ok (.newarray at_, 2)) (hty : newarray.typeOf at_ = ty) (hw : Cond.arrayClass ty ∈ am_gw) (ht : am_ti ty = some t) (hnr : ty.isReference = false) (hra : ∀ (U : State) (cA : ClassId), va_RA U cA ty → U.vm.findClass ("[" ++ ty.toString) = some cA) (hdef : defaultValue ty = if ty = .long then .long 0 else .int 0)
    (hx : ¬ x < 0) (hm : x.toNatClampNeg = m) (hb : m * componentBytes ty ≤ 536870912) (hk : 1 + k'' ≤ k) (hn : m + n'' ≤ n)
    (h : am_R E d M k'' n'' (pc + 2) ls (.ref S.2.2.2 :: st) (am_new S (.inr (ty, m))) (am_0 S iv) Q) : am_R E d M k n pc ls (.int x :: st) S iv Q := by
  subst hty
  intro p e R s m' args below meth c mc ms C0 hR H rls locs cells slots hP hL hS h1 h2 h3 h4
  have hts := C0.2.2.2.2.2.1
  have hK := C0.2.2.2.2.2.2.2.2.2.1
  refine va_newaK C0.1 C0.2.1 (hts _ hw) rfl hd rfl hx hm hb (by omega) (by omega) rfl fun H1 cA e1 z1 o1 hAr hNm => ?_
  have hsz : H.size = am_z E + S.2.2.2 := hP.1
  have hcA : cA = am_cT E (newarray.typeOf at_) := by
    have h9 := hra s _ ((hK.2 t _ (am_ti_at E ht)).2)
    exact Option.some.inj (hNm.symm.trans h9)
  subst hcA
  have hP1 : am_HP E (am_new S (.inr (newarray.typeOf at_, m))) (am_0 S iv) H1 := by
    refine hP.grow (.inr (newarray.typeOf at_, m)) z1 o1 (fun y hy => ?_)
    have hk2 : (am_new S (.inr (newarray.typeOf at_, m))).1 S.2.2.2 = some (.inr (newarray.typeOf at_, m)) := if_pos rfl
    have hy2 : am_cell E (am_new S (.inr (newarray.typeOf at_, m))) (am_0 S iv) S.2.2.2 = some (.inl (am_cT E (newarray.typeOf at_), am_arr E (am_new S (.inr (newarray.typeOf at_, m))) (am_0 S iv) S.2.2.2 m (newarray.typeOf at_))) := by simp [am_cell, hk2]
    rw [hy2] at hy
    cases hy
    rw [← hsz]
    show H1[H.size]? = some (vp_cell _ _)
    rw [e1, hdef]
    have e4 : am_0 S iv S.2.2.2 = fun _ => 0 := if_pos rfl
    have e5 : (am_new S (.inr (newarray.typeOf at_, m))).2.2.1 S.2.2.2 = fun _ => 0 := if_pos rfl
    simp only [am_arr, hnr, e4, e5]
    by_cases hlg : newarray.typeOf at_ = .long
    · simp only [hlg, if_true]; rfl
    · simp only [hlg, if_false]; rfl
  have h9 := h p e R s m' args below meth c mc ms C0 hR H1 rls locs (cells + 1) (slots + m) hP1 hL ⟨by rw [z1]; exact Nat.le_trans hS.1 (by omega), fun x a1 a2 => (o1 x (Nat.lt_of_lt_of_le a1 hS.1)).trans (hS.2.1 x a1 a2), hS.2.2⟩ (by omega) (by omega) (by omega) (by omega)
  rw [List.map_cons] at h9
  show W p (am_l E) e R s m' args below meth c H1 locs (cells + 1) (slots + m) _ (F0 m' (pc + 2) rls (.ref H.size :: st.map (am_tr E)))
  rw [hsz]
  exact h9
theorem am_objInit {a idx : Nat} (hd : decode M.2.2.1 pc = .ok (.invokespecial idx, 3)) (hw1 : Cond.methodLink M.1 idx Lib.objectInit ∈ am_gw) (hw2 : Cond.instanceMethod Lib.objectInit ∈ am_gw) (hw3 : Cond.code Lib.objectInit ⟨#[0xb1]⟩ 1 none ∈ am_gw) (hst : (st.map fun v => v.category).sum ≤ 8) (hdd : 1 ≤ d)
    (h : am_R E d M k n (pc + 3) ls st S iv Q) : am_R E d M k n pc ls (.ref a :: st) S iv Q := by
  intro p e R s m args below meth c mc ms C0 hR H rls locs cells slots hP hL hS h1 h2 h3 h4
  have hts := C0.2.2.2.2.2.1
  have hcat : ((st.map (am_tr E)).map fun v => v.category).sum ≤ 8 := by
    rw [List.map_map]
    have : ((fun v : Value => v.category) ∘ am_tr E) = fun v => v.category := funext fun v => am_tr_cat E v
    rw [this]; exact hst
  exact W.objInit C0.1 C0.2.1 C0.2.2.2.2.1 (hts _ hw1) (hts _ hw2) (hts _ hw3) rfl (hL.1.trans C0.2.2.1.symm) rfl hd (Nat.le_trans hdd hR.1) (by have := hR.2; show 2 * 0 + _ + 12 ≤ _; omega) (h p e R s m args below meth c mc ms C0 hR H rls locs cells slots hP hL hS h1 h2 h3 h4)
/-- a constant text -/
theorem am_ldcS {j idx : Nat} {tx : String} (hd : decode M.2.2.1 pc = .ok (.ldc idx, 2)) (hs : (j, M.1, idx, tx) ∈ am_st) (h : am_R E d M k n (pc + 2) ls (.retAddr j :: st) S iv Q) : am_R E d M k n pc ls st S iv Q := by
  intro p e R s m args below meth c mc ms C0 hR H rls locs cells slots hP hL hS h1 h2 h3 h4
  exact va_ldcS C0.1 C0.2.1 C0.2.2.2.2.1 (C0.2.2.2.2.2.2.2.2.2.2.2.2.2.2.1 _ hs) hd (h p e R s m args below meth c mc ms C0 hR H rls locs cells slots hP hL hS h1 h2 h3 h4)
theorem am_anew {idx m k'' n'' : Nat} {x : Int32} (hd : decode M.2.2.1 pc = .ok (.anewarray idx, 3)) (hw1 : Cond.classLink M.1 idx "java/lang/String" ∈ am_gw) (hx : ¬ x < 0) (hm : x.toNatClampNeg = m) (hb : m * 4 ≤ 536870912) (hk : 1 + k'' ≤ k) (hn : m + n'' ≤ n)
    (h : am_R E d M k'' n'' (pc + 3) ls (.ref S.2.2.2 :: st) (am_new S (.inr (am_S0, m))) (am_0 S iv) Q) : am_R E d M k n pc ls (.int x :: st) S iv Q := by
  subst hm
  intro p e R s m' args below meth c mc ms C0 hR H rls locs cells slots hP hL hS h1 h2 h3 h4
  have hts := C0.2.2.2.2.2.1
  have hK := C0.2.2.2.2.2.2.2.2.2.1
  refine W.anew C0.1 C0.2.1 C0.2.2.2.2.1 (hts _ hw1) (va_AO.use C0.2.2.2.2.2.2.2.2.2.2.2.2.2.2.2.2.2.2.2.2.1) rfl hd rfl hx hb (by omega) (by omega) fun cA kA comp g1 g2 g3 g4 => ?_
  have hsz : H.size = am_z E + S.2.2.2 := hP.1
  have hcA : cA = am_cT E am_S0 := by
    obtain ⟨kA', comp', -, -, -, h9⟩ := (hK.2 4 _ rfl).2
    exact Option.some.inj (g1.symm.trans h9)
  subst hcA
  have o1 : ∀ q, q < H.size → (H.push { cls := am_cT E am_S0, slots := Array.replicate x.toNatClampNeg .null, vm := .none } : Heap)[q]? = H[q]? := fun q hq => by rw [Array.getElem?_push, if_neg (Nat.ne_of_lt hq)]
  have hP1 : am_HP E (am_new S (.inr (am_S0, x.toNatClampNeg))) (am_0 S iv) (H.push { cls := am_cT E am_S0, slots := Array.replicate x.toNatClampNeg .null, vm := .none }) := by
    refine hP.grow (.inr (am_S0, x.toNatClampNeg)) (by simp) o1 (fun y hy => ?_)
    have hk2 : (am_new S (.inr (am_S0, x.toNatClampNeg))).1 S.2.2.2 = some (.inr (am_S0, x.toNatClampNeg)) := if_pos rfl
    have hy2 : am_cell E (am_new S (.inr (am_S0, x.toNatClampNeg))) (am_0 S iv) S.2.2.2 = some (.inl (am_cT E am_S0, am_arr E (am_new S (.inr (am_S0, x.toNatClampNeg))) (am_0 S iv) S.2.2.2 x.toNatClampNeg am_S0)) := by simp [am_cell, hk2]
    rw [hy2] at hy
    cases hy
    rw [← hsz]
    have e5 : (am_new S (.inr (am_S0, x.toNatClampNeg))).2.1 S.2.2.2 = fun _ => none := if_pos rfl
    show (H.push _)[H.size]? = some (vp_cell _ _)
    rw [Array.getElem?_push_size, arrV_new]
    simp only [am_arr, FieldType.isReference, e5]
    rfl
  have h9 := h p e R s m' args below meth c mc ms C0 hR _ rls locs (cells + 1) (slots + x.toNatClampNeg) hP1 hL ⟨by simp; exact Nat.le_trans hS.1 (by omega), fun x a1 a2 => (o1 x (Nat.lt_of_lt_of_le a1 hS.1)).trans (hS.2.1 x a1 a2), hS.2.2⟩ (by omega) (by omega) (by omega) (by omega)
  rw [List.map_cons] at h9
  show W p (am_l E) e R s m' args below meth c _ locs (cells + 1) (slots + x.toNatClampNeg) _ (F0 m' (pc + 3) rls (.ref H.size :: st.map (am_tr E)))
  rw [hsz]
  exact h9
theorem am_aaload {a m j : Nat} {i : Int32} (hd : decode M.2.2.1 pc = .ok (.aaload, 1)) (ha : S.1 a = some (.inr (am_S0, m))) (hi : vp_in i m) (hj : S.2.1 a i.toNatClampNeg = some j) (h : am_R E d M k n (pc + 1) ls (.retAddr j :: st) S iv Q) : am_R E d M k n pc ls (.int i :: .ref a :: st) S iv Q := by
  intro p e R s m' args below meth c mc ms C0 hR H rls locs cells slots hP hL hS h1 h2 h3 h4
  have hA := hP.arr ha
  have hlt : i.toNatClampNeg < m := Nat.not_le.mp fun q => hi (Or.inr q)
  have hK := C0.2.2.2.2.2.2.2.2.2.1
  exact W.aald (v := .ref (am_aK E j)) C0.1 C0.2.1 hA ((hK.2 4 _ rfl).1 m (fun j => va_rf ((S.2.1 a j).map (am_aK E)))) rfl (fun q => by cases q) (by show ¬ (i < 0 ∨ (arrV _ _ _).slots.size ≤ _); rw [arrV_size]; exact hi) (by show (arrV _ m _).slots[_]? = _; rw [arrV_read _ _ hlt]; show some (va_rf (Option.map (am_aK E) (S.2.1 a i.toNatClampNeg))) = _; rw [hj]; rfl) rfl rfl hd (h p e R s m' args below meth c mc ms C0 hR H rls locs cells slots hP hL hS h1 h2 h3 h4)
theorem am_aastore {a m j : Nat} {i : Int32} (hd : decode M.2.2.1 pc = .ok (.aastore, 1)) (ha : S.1 a = some (.inr (am_S0, m))) (hi : vp_in i m) (hj : j < am_by.length) (h : am_R E d M k n (pc + 1) ls st (am_wr S a i.toNatClampNeg j) iv Q) : am_R E d M k n pc ls (.retAddr j :: .int i :: .ref a :: st) S iv Q := by
  intro p e R s m' args below meth c mc ms C0 hR H rls locs cells slots hP hL hS h1 h2 h3 h4
  have hA := hP.arr ha
  have hG := C0.2.2.2.2.2.2.2.2.2
  have hK := hG.1
  have hlt : i.toNatClampNeg < m := Nat.not_le.mp fun q => hi (Or.inr q)
  have h0 : ¬ i < 0 := fun q => hi (Or.inl q)
  obtain ⟨cv, v1, v2, v3, -⟩ := (hG.2.2.2.2.2.2.1 j hj).1.kept hS.2.1
  obtain ⟨kA, comp, k1, k2, k3, -⟩ := (hK.2 4 _ rfl).2
  have hcomp : comp = cv.cls := Option.some.inj (k3.symm.trans v3)
  subst hcomp
  obtain ⟨kC, hkC, -⟩ := Vm.findClass_spec v3
  refine W.aast C0.1 C0.2.1 hA (fun q h => by cases h) (fun h => by cases h) k1 k2 rfl hkC ⟨h0, by show _ < (arrV _ _ _).slots.size; rw [arrV_size]; exact hlt⟩ v1 (fun q h => by rw [h] at v2; cases v2) hkC (va_asg _ _) rfl rfl hd fun H1 e1 z oq => ?_
  refine h p e R s m' args below meth c mc ms C0 hR H1 rls _ cells slots (hP.put (a := a) rfl rfl z oq (fun b hb => am_cell_wr E S iv a _ j b hb) (fun y hy => ?_)) hL (hS.put z oq (Nat.le_add_right _ _)) h1 h2 h3 h4
  have ha' : (am_wr S a i.toNatClampNeg j).1 a = some (.inr (am_S0, m)) := ha
  have hy2 : am_cell E (am_wr S a i.toNatClampNeg j) iv a = some (.inl (am_cT E am_S0, am_arr E (am_wr S a i.toNatClampNeg j) iv a m am_S0)) := by simp [am_cell, ha']
  rw [hy2] at hy
  cases hy
  show H1[am_z E + a]? = some (vp_cell _ _)
  rw [e1]
  show some ((arrV _ m (fun q => va_rf ((S.2.1 a q).map (am_aK E)))).setSlot _ _) = some (arrV _ m (fun q => va_rf (((am_wr S a i.toNatClampNeg j).2.1 a q).map (am_aK E))))
  have e3 : (am_wr S a i.toNatClampNeg j).2.1 a = fun q => if q = i.toNatClampNeg then some j else S.2.1 a q := if_pos rfl
  rw [arrV_store, e3]
  congr 2
  funext q
  simp only [updV]
  split <;> rfl
/-- the fields of a constant text -/
theorem am_getSv {j idx : Nat} (hd : decode M.2.2.1 pc = .ok (.getfield idx, 3)) (hw : Cond.fieldLink M.1 idx "java/lang/String" "value" "[B" ∈ am_gw) (hj : j < am_by.length) {u : UInt32} (hu : u.toNat = j) (h : am_R E d M k n (pc + 3) ls (.float u :: st) S iv Q) : am_R E d M k n pc ls (.retAddr j :: st) S iv Q := by
  subst hu
  intro p e R s m args below meth c mc ms C0 hR H rls locs cells slots hP hL hS h1 h2 h3 h4
  have hG := C0.2.2.2.2.2.2.2.2.2
  exact vk_getf C0.1 C0.2.1 (hG.2.2.2.2.2.2.1 _ hj).2.2.1 hS C0.2.2.2.2.1 (C0.2.2.2.2.2.1 _ hw) (fun _ h => h) hd (h p e R s m args below meth c mc ms C0 hR H rls locs cells slots hP hL hS h1 h2 h3 h4)
theorem am_getSc {j idx : Nat} (hd : decode M.2.2.1 pc = .ok (.getfield idx, 3)) (hw : Cond.fieldLink M.1 idx "java/lang/String" "coder" "B" ∈ am_gw) (hj : j < am_by.length) (h : am_R E d M k n (pc + 3) ls (.int 0 :: st) S iv Q) : am_R E d M k n pc ls (.retAddr j :: st) S iv Q := by
  intro p e R s m args below meth c mc ms C0 hR H rls locs cells slots hP hL hS h1 h2 h3 h4
  have hG := C0.2.2.2.2.2.2.2.2.2
  exact vk_getf C0.1 C0.2.1 (hG.2.2.2.2.2.2.1 _ hj).2.1 hS C0.2.2.2.2.1 (C0.2.2.2.2.2.1 _ hw) (fun _ h => h) hd (h p e R s m args below meth c mc ms C0 hR H rls locs cells slots hP hL hS h1 h2 h3 h4)
/-- COMPACT_STRINGS -/
theorem am_gets {idx : Nat} (hd : decode M.2.2.1 pc = .ok (.getstatic idx, 3)) (hw : Cond.fieldLink M.1 idx "java/lang/String" "COMPACT_STRINGS" "Z" ∈ am_gw) (h : am_R E d M k n (pc + 3) ls (.int 1 :: st) S iv Q) : am_R E d M k n pc ls st S iv Q := by
  intro p e R s m args below meth c mc ms C0 hR H rls locs cells slots hP hL hS h1 h2 h3 h4
  have hG := C0.2.2.2.2.2.2.2.2.2
  exact va_gets C0.1 C0.2.1 hG.2.2.2.2.2.2.2.2.2.1 hS C0.2.2.2.2.1 (C0.2.2.2.2.2.1 _ hw) (fun _ h => h) hd (h p e R s m args below meth c mc ms C0 hR H rls locs cells slots hP hL hS h1 h2 h3 h4)
/-- a text's bytes -/
theorem am_Sbaload {u : UInt32} {i : Int32} (hd : decode M.2.2.1 pc = .ok (.baload, 1)) (hj : u.toNat < am_by.length) (hi : vp_in i (am_by.getD u.toNat []).length) (h : am_R E d M k n (pc + 1) ls (.int ((am_by.getD u.toNat []).getD i.toNatClampNeg 0) :: st) S iv Q) : am_R E d M k n pc ls (.int i :: .float u :: st) S iv Q := by
  intro p e R s m args below meth c mc ms C0 hR H rls locs cells slots hP hL hS h1 h2 h3 h4
  have hG := C0.2.2.2.2.2.2.2.2.2
  obtain ⟨cell, a1, a2, a3, a4, -, a6, -⟩ := (hG.2.2.2.2.2.2.1 _ hj).2.2.2.kept hS.2.1
  have hlt : i.toNatClampNeg < (am_by.getD u.toNat []).length := Nat.not_le.mp fun q => hi (Or.inr q)
  exact W.bald (v := .int ((am_by.getD u.toNat []).getD i.toNatClampNeg 0)) C0.1 C0.2.1 a1 a2 a3 (fun q => by
    rcases q with q | q
    · exact hi (Or.inl q)
    · omega) (a6 _ hlt) rfl rfl hd (h p e R s m args below meth c mc ms C0 hR H rls locs cells slots hP hL hS h1 h2 h3 h4)
theorem am_Salen {u : UInt32} (hd : decode M.2.2.1 pc = .ok (.arraylength, 1)) (hj : u.toNat < am_by.length) (h : am_R E d M k n (pc + 1) ls (.int (Int32.ofNat (am_by.getD u.toNat []).length) :: st) S iv Q) : am_R E d M k n pc ls (.float u :: st) S iv Q := by
  intro p e R s m args below meth c mc ms C0 hR H rls locs cells slots hP hL hS h1 h2 h3 h4
  have hG := C0.2.2.2.2.2.2.2.2.2
  obtain ⟨cell, a1, a2, a3, a4, a5, a6, -⟩ := (hG.2.2.2.2.2.2.1 _ hj).2.2.2.kept hS.2.1
  exact W.alen C0.1 C0.2.1 a1 a2 a5 rfl rfl hd (h p e R s m args below meth c mc ms C0 hR H rls locs cells slots hP hL hS h1 h2 h3 h4)
end AMN
