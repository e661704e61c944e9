/-! rows that read and write the heap -/
def am_w (iv : am_I) (a k : Nat) (x : Int32) : am_I := fun b => if b = a then upd (iv a) k x else iv b
def am_wr (S : am_S) (a k r : Nat) : am_S := (S.1, (fun b => if b = a then (fun j => if j = k then some r else S.2.1 a j) else S.2.1 b), S.2.2)
def am_wl (S : am_S) (a k : Nat) (x : Int64) : am_S := (S.1, S.2.1, (fun b => if b = a then vp_updL (S.2.2.1 a) k x else S.2.2.1 b), S.2.2.2)
/-- a new cell of a kind -/
def am_new (S : am_S) (t : am_K) : am_S := ((fun b => if b = S.2.2.2 then some t else S.1 b), (fun b => if b = S.2.2.2 then (fun _ => none) else S.2.1 b), (fun b => if b = S.2.2.2 then (fun _ => 0) else S.2.2.1 b), S.2.2.2 + 1)
def am_0 (S : am_S) (iv : am_I) : am_I := fun b => if b = S.2.2.2 then (fun _ => 0) else iv b
/-- a new cell of which nothing is told -/
def am_un (S : am_S) : am_S := (S.1, S.2.1, S.2.2.1, S.2.2.2 + 1)
theorem am_w_same (iv : am_I) (a k : Nat) (x : Int32) : am_w iv a k x a = upd (iv a) k x := if_pos rfl
theorem am_w_other (iv : am_I) {a b : Nat} (k : Nat) (x : Int32) (h : b ≠ a) : am_w iv a k x b = iv b := if_neg h
theorem am_fs_at (E : am_E) (S : am_S) (iv : am_I) (a ci : Nat) {k : Nat} (hk : k < am_N ci) : vp_V ((List.range (am_N ci)).map (am_fv E S iv a ci)) k = am_fv E S iv a ci k := by
  simp [vp_V, hk]
/-- the object a, as its cell has it -/
theorem am_HP.obj {E : am_E} {S : am_S} {iv : am_I} {H : Heap} (h : am_HP E S iv H) {a ci : Nat} (ha : S.1 a = some (.inl ci)) {C : String} {T : u_T} {N : Nat} (hc : vwCl[ci]? = some (C, T, N)) (hN : N = am_N ci) : t_OB (am_z E + a) ((am_D E).1 ci) N ((am_D E).2 ci) H (am_fv E S iv a ci) := by
  have h1 := h.2.2 a (.inr (ci, (List.range (am_N ci)).map (am_fv E S iv a ci))) (by simp [am_cell, ha])
  obtain ⟨r, h2, h3⟩ := h1
  have hr : r = (C, T, N) := Option.some.inj (h2.symm.trans hc)
  subst hr
  exact h3.to (fun k hk => am_fs_at E S iv a ci (hN ▸ hk))
theorem am_HP.arr {E : am_E} {S : am_S} {iv : am_I} {H : Heap} (h : am_HP E S iv H) {a n : Nat} {ty : FieldType} (ha : S.1 a = some (.inr (ty, n))) : H[am_z E + a]? = some (vp_cell (am_cT E ty) (am_arr E S iv a n ty)) :=
  h.2.2 a (.inl (am_cT E ty, am_arr E S iv a n ty)) (by simp [am_cell, ha])
theorem am_HP.lt {E : am_E} {S : am_S} {iv : am_I} {H : Heap} (h : am_HP E S iv H) {a : Nat} {t : am_K} (ha : S.1 a = some t) : a < S.2.2.2 := by
  rcases Nat.lt_or_ge a S.2.2.2 with q | q
  · exact q
  · rw [h.2.1 a q] at ha
    cases ha
/-- one cell is new, the others stand -/
theorem am_HP.put {E : am_E} {S S' : am_S} {iv iv' : am_I} {H H' : Heap} (h : am_HP E S iv H) {a : Nat} (hk : S'.1 = S.1) (hn : S'.2.2.2 = S.2.2.2) (hz : H'.size = H.size) (ho : ∀ q : Nat, q ≠ am_z E + a → H'[q]? = H[q]?)
    (hc : ∀ b, b ≠ a → am_cell E S' iv' b = am_cell E S iv b) (ha : ∀ e, am_cell E S' iv' a = some e → va_at (am_D E) vwCl (am_z E + a, e) H') : am_HP E S' iv' H' := by
  refine ⟨by rw [hz, hn]; exact h.1, fun b hb => by rw [hk]; exact h.2.1 b (hn ▸ hb), fun b e hb => ?_⟩
  by_cases hba : b = a
  · subst hba
    exact ha e hb
  · rw [hc b hba] at hb
    exact (h.2.2 b e hb).kept (ho _ (fun q => hba (Nat.add_left_cancel q)))
section AMH
variable {E : am_E} {d : Nat} {M : am_Me} {k n pc : Nat} {ls st : List Value} {S : am_S} {iv : am_I} {Q : am_O → am_S → am_I → Prop}
theorem am_get {a ci j idx : Nat} {C : String} {T : u_T} {N : Nat} {v : Value} (hd : decode M.2.2.1 pc = .ok (.getfield idx, 3)) (hc : vwCl[ci]? = some (C, T, N)) (hN : N = am_N ci) (hj : j < N) (hw : Cond.fieldLink M.1 idx (T j).1 (T j).2.1 (T j).2.2.1 ∈ am_gw) (hu : ∀ w ∈ u_ws C T N, w ∈ am_gw)
    (ha : S.1 a = some (.inl ci)) (hv : am_tr E v = am_fv E S iv a ci j) (h : am_R E d M k n (pc + 3) ls (v :: st) S iv Q) : am_R E d M k n pc ls (.ref a :: st) S iv Q := by
  intro p e R s m args below meth c mc ms C0 hR H rls locs cells slots hP hL hS h1 h2 h3 h4
  have h9 := h p e R s m args below meth c mc ms C0 hR H rls locs cells slots hP hL hS h1 h2 h3 h4
  rw [List.map_cons, hv] at h9
  have hcell : va_at (am_D E) vwCl (am_z E + a, .inr (ci, (List.range (am_N ci)).map (am_fv E S iv a ci))) H := hP.2.2 a _ (by simp [am_cell, ha])
  have hP1 : va_P (am_D E) vwCl [(am_z E + a, .inr (ci, (List.range (am_N ci)).map (am_fv E S iv a ci)))] H := by
    intro i q hq
    cases i with
    | zero => cases hq; exact hcell
    | succ i => cases hq
  exact va_get (D := am_D E) (ci := ci) (v := am_fv E S iv a ci j) (C := C) (T := T) (N := N) C0.1 C0.2.1 C0.2.2.2.2.2.1 hu C0.2.2.2.2.1 C0.2.2.2.2.2.2.2.2.2.1 hP1 0 rfl hc j hj (C0.2.2.2.2.2.1 _ hw) (fun _ h9 => h9) (by have hj' := hN ▸ hj; simp [hj']) hd h9
/-- an int field -/
theorem am_getI {a ci j idx : Nat} {C : String} {T : u_T} {N : Nat} (hd : decode M.2.2.1 pc = .ok (.getfield idx, 3)) (hc : vwCl[ci]? = some (C, T, N)) (hN : N = am_N ci) (hj : j < N) (hw : Cond.fieldLink M.1 idx (T j).1 (T j).2.1 (T j).2.2.1 ∈ am_gw) (hu : ∀ w ∈ u_ws C T N, w ∈ am_gw) (ht : (am_ty ci j).isReference = false)
    (ha : S.1 a = some (.inl ci)) (h : am_R E d M k n (pc + 3) ls (.int (iv a j) :: st) S iv Q) : am_R E d M k n pc ls (.ref a :: st) S iv Q :=
  am_get hd hc hN hj hw hu ha (by simp [am_fv, ht, am_tr]) h
/-- a field that holds a reference -/
theorem am_getR {a b ci j idx : Nat} {C : String} {T : u_T} {N : Nat} (hd : decode M.2.2.1 pc = .ok (.getfield idx, 3)) (hc : vwCl[ci]? = some (C, T, N)) (hN : N = am_N ci) (hj : j < N) (hw : Cond.fieldLink M.1 idx (T j).1 (T j).2.1 (T j).2.2.1 ∈ am_gw) (hu : ∀ w ∈ u_ws C T N, w ∈ am_gw) (ht : (am_ty ci j).isReference = true)
    (ha : S.1 a = some (.inl ci)) (hb : S.2.1 a j = some b) (h : am_R E d M k n (pc + 3) ls (.ref b :: st) S iv Q) : am_R E d M k n pc ls (.ref a :: st) S iv Q :=
  am_get hd hc hN hj hw hu ha (by simp [am_fv, ht, hb, am_tr]) h
/-- the general store in a field that isn't final -/
theorem am_put {a ci j idx : Nat} {C : String} {T : u_T} {N : Nat} {v : Value} {S' : am_S} {iv' : am_I} (hd : decode M.2.2.1 pc = .ok (.putfield idx, 3)) (hc : vwCl[ci]? = some (C, T, N)) (hN : N = am_N ci) (hj : j < N) (hw : Cond.fieldLink M.1 idx (T j).1 (T j).2.1 (T j).2.2.1 ∈ am_gw) (hu : ∀ w ∈ u_ws C T N, w ∈ am_gw)
    (hty : ∀ k, k < N → parseFieldDescriptor (T k).2.2.1 = some (am_ty ci k)) (hnm : ∀ a, a < N → ∀ b, b < N → a ≠ b → (T a).2.1 ≠ (T b).2.1) (hfin : (T j).2.2.2 = false ∨ ((T j).2.2.2 = true ∧ M.2.1.name = "<init>" ∧ (T j).1 = M.1)) (hn : narrow (am_ty ci j) (am_tr E v) = am_tr E v) (hfit : fits (am_ty ci j) (am_tr E v) = true)
    (ha : S.1 a = some (.inl ci)) (hk' : S'.1 = S.1) (hn' : S'.2.2.2 = S.2.2.2) (hother : ∀ b, b ≠ a → am_cell E S' iv' b = am_cell E S iv b) (hself : ∀ i, i < N → am_fv E S' iv' a ci i = updV (am_fv E S iv a ci) j (am_tr E v) i)
    (h : am_R E d M k n (pc + 3) ls st S' iv' Q) : am_R E d M k n pc ls (v :: .ref a :: st) S iv Q := by
  intro p e R s m args below meth c mc ms C0 hR H rls locs cells slots hP hL hS h1 h2 h3 h4
  have hK := C0.2.2.2.2.2.2.2.2.2.1
  have hts := C0.2.2.2.2.2.1
  have hown := C0.2.2.2.2.1
  have hap := va_apart (own := M.1) hts hu (am_ty ci) hty hnm hK hc
  obtain ⟨cell, q1, q2, q3, q4⟩ := hP.obj ha hc hN
  obtain ⟨hSl, hfc, kC, hkC, hkind⟩ := hK.1 ci _ hc
  obtain ⟨cf, kf, fi, f, hi, hsl⟩ := hSl j hj
  have hlay := hts _ (hu _ (u_in_lay hj))
  have hst := (u_facts hfc hkC (u_lays hts hu hj) hi).1
  have fin : ∀ (H' : Heap), H'[am_z E + a]? = some (cell.setSlot f.slot (am_tr E v)) → H'.size = H.size → (∀ q, q ≠ am_z E + a → H'[q]? = H[q]?) →
      W p (am_l E) e R s m args below meth c H' (locs ++ [⟨am_z E + a, f.slot⟩]) cells slots (vx_MQ below (am_Qc E Q) (am_XC E Q) args s mc ms (am_A E)) (F0 m (pc + 3) rls (st.map (am_tr E))) := by
    intro H' e1 e2 e3
    rw [hsl] at e1
    refine h p e R s m args below meth c mc ms C0 hR H' rls _ cells slots (hP.put (a := a) hk' hn' e2 e3 hother (fun x hx => ?_)) hL (hS.put e2 e3 (Nat.le_add_right _ _)) h1 h2 h3 h4
    have hk2 : S'.1 a = some (.inl ci) := by rw [hk']; exact ha
    have hx2 : x = .inr (ci, (List.range (am_N ci)).map (am_fv E S' iv' a ci)) := by
      have h5 : am_cell E S' iv' a = some (.inr (ci, (List.range (am_N ci)).map (am_fv E S' iv' a ci))) := by simp [am_cell, hk2]
      exact Option.some.inj (hx.symm.trans h5)
    subst hx2
    refine ⟨(C, T, N), hc, t_OB.to (V := updV (am_fv E S iv a ci) j (am_tr E v)) ⟨_, e1, q2, q3, t_set q4 hap hj _⟩ (fun i hi => ?_)⟩
    rw [am_fs_at E S' iv' a ci (hN ▸ hi)]
    exact (hself i hi).symm
  show W p (am_l E) e R s m args below meth c H locs cells slots _ (F0 m pc rls (am_tr E v :: .ref (am_z E + a) :: st.map (am_tr E)))
  rcases hfin with hfin | ⟨hfin, hin2, hdecl⟩
  · unfold u_lay at hlay
    rw [if_neg (by rw [hfin]; decide)] at hlay
    have h6 := u_store hfc hkC hkind hlay hi (hty j hj) hn hfit
    exact W.putK C0.1 C0.2.1 (f := f) ⟨hown, hts _ hw, ⟨_, _, _, hi⟩, hst⟩ (by rw [q2]; exact h6) q1 q3 (by rw [hsl]; exact k2_hasslot (q4 j hj)) rfl rfl hd fin
  · unfold u_lay at hlay
    rw [if_pos hfin] at hlay
    have hcf : m.cls = cf := by
      obtain ⟨_, _, c', _, _, _, -, -, hf', -, -, -, hown2, -⟩ := Cond.laysFinal_spec hlay
      have e1 : c' = cf := by have := hi.symm.trans hf'; simp at this; exact this.1.symm
      rw [hdecl] at hown2
      rw [← e1]; exact Option.some.inj (hown.symm.trans hown2)
    have h6 := u_fits hfc hkC hkind (Or.inr hlay) hi (hty j hj) hn hfit
    exact W.putFinK C0.1 C0.2.1 hown (hts _ hw) hi hst hcf (C0.2.2.2.2.2.2.2.1.trans hin2) (by rw [q2]; exact h6) q1 q3 (by rw [hsl]; exact k2_hasslot (q4 j hj)) rfl rfl hd fin
theorem am_cell_ext (E : am_E) {S S' : am_S} {iv iv' : am_I} {b : Nat} (h1 : S'.1 b = S.1 b) (h2 : S'.2.1 b = S.2.1 b) (h3 : S'.2.2.1 b = S.2.2.1 b) (h4 : iv' b = iv b) : am_cell E S' iv' b = am_cell E S iv b := by
  have hf : ∀ ci, am_fv E S' iv' b ci = am_fv E S iv b ci := fun ci => by
    funext i
    simp only [am_fv, h2, h4]
  have ha : ∀ n ty, am_arr E S' iv' b n ty = am_arr E S iv b n ty := fun n ty => by
    simp only [am_arr, h2, h3, h4]
  unfold am_cell
  rw [h1]
  cases S.1 b with
  | none => rfl
  | some t =>
    cases t with
    | inl ci => simp only [hf]
    | inr q => simp only [ha]
theorem am_cell_w (E : am_E) (S : am_S) (iv : am_I) (a j : Nat) (x : Int32) (b : Nat) (h : b ≠ a) : am_cell E S (am_w iv a j x) b = am_cell E S iv b := am_cell_ext E rfl rfl rfl (am_w_other iv j x h)
theorem am_cell_wr (E : am_E) (S : am_S) (iv : am_I) (a j r : Nat) (b : Nat) (h : b ≠ a) : am_cell E (am_wr S a j r) iv b = am_cell E S iv b := am_cell_ext E rfl (if_neg h) rfl rfl
theorem am_cell_wl (E : am_E) (S : am_S) (iv : am_I) (a j : Nat) (x : Int64) (b : Nat) (h : b ≠ a) : am_cell E (am_wl S a j x) iv b = am_cell E S iv b := am_cell_ext E rfl rfl (if_neg h) rfl
theorem am_putI {a ci j idx : Nat} {C : String} {T : u_T} {N : Nat} {x : Int32} (hd : decode M.2.2.1 pc = .ok (.putfield idx, 3)) (hc : vwCl[ci]? = some (C, T, N)) (hN : N = am_N ci) (hj : j < N) (hw : Cond.fieldLink M.1 idx (T j).1 (T j).2.1 (T j).2.2.1 ∈ am_gw) (hu : ∀ w ∈ u_ws C T N, w ∈ am_gw)
    (hty : ∀ k, k < N → parseFieldDescriptor (T k).2.2.1 = some (am_ty ci k)) (hnm : ∀ a, a < N → ∀ b, b < N → a ≠ b → (T a).2.1 ≠ (T b).2.1) (hfin : (T j).2.2.2 = false ∨ ((T j).2.2.2 = true ∧ M.2.1.name = "<init>" ∧ (T j).1 = M.1)) (ht : am_ty ci j = .int)
    (ha : S.1 a = some (.inl ci)) (h : am_R E d M k n (pc + 3) ls st S (am_w iv a j x) Q) : am_R E d M k n pc ls (.int x :: .ref a :: st) S iv Q :=
  am_put hd hc hN hj hw hu hty hnm hfin (by rw [ht]; rfl) (by rw [ht]; rfl) ha rfl rfl (fun b hb => am_cell_w E S iv a j x b hb) (fun i _ => by
    simp only [am_fv, am_w_same, updV, upd, am_tr]
    by_cases e : i = j
    · subst e; simp [ht, FieldType.isReference]
    · simp [e]) h
/-- a boolean field -/
theorem am_putZ {a ci j idx : Nat} {C : String} {T : u_T} {N : Nat} {x : Int32} (hd : decode M.2.2.1 pc = .ok (.putfield idx, 3)) (hc : vwCl[ci]? = some (C, T, N)) (hN : N = am_N ci) (hj : j < N) (hw : Cond.fieldLink M.1 idx (T j).1 (T j).2.1 (T j).2.2.1 ∈ am_gw) (hu : ∀ w ∈ u_ws C T N, w ∈ am_gw)
    (hty : ∀ k, k < N → parseFieldDescriptor (T k).2.2.1 = some (am_ty ci k)) (hnm : ∀ a, a < N → ∀ b, b < N → a ≠ b → (T a).2.1 ≠ (T b).2.1) (hfin : (T j).2.2.2 = false ∨ ((T j).2.2.2 = true ∧ M.2.1.name = "<init>" ∧ (T j).1 = M.1)) (ht : am_ty ci j = .boolean) (hx : x = 0 ∨ x = 1)
    (ha : S.1 a = some (.inl ci)) (h : am_R E d M k n (pc + 3) ls st S (am_w iv a j x) Q) : am_R E d M k n pc ls (.int x :: .ref a :: st) S iv Q :=
  am_put hd hc hN hj hw hu hty hnm hfin (by rw [ht]; rcases hx with rfl | rfl <;> rfl) (by rw [ht]; rcases hx with rfl | rfl <;> rfl) ha rfl rfl (fun b hb => am_cell_w E S iv a j x b hb) (fun i _ => by
    simp only [am_fv, am_w_same, updV, upd, am_tr]
    by_cases e : i = j
    · subst e; simp [ht, FieldType.isReference]
    · simp [e]) h
theorem am_putR {a b ci j idx : Nat} {C : String} {T : u_T} {N : Nat} (hd : decode M.2.2.1 pc = .ok (.putfield idx, 3)) (hc : vwCl[ci]? = some (C, T, N)) (hN : N = am_N ci) (hj : j < N) (hw : Cond.fieldLink M.1 idx (T j).1 (T j).2.1 (T j).2.2.1 ∈ am_gw) (hu : ∀ w ∈ u_ws C T N, w ∈ am_gw)
    (hty : ∀ k, k < N → parseFieldDescriptor (T k).2.2.1 = some (am_ty ci k)) (hnm : ∀ a, a < N → ∀ b, b < N → a ≠ b → (T a).2.1 ≠ (T b).2.1) (hfin : (T j).2.2.2 = false ∨ ((T j).2.2.2 = true ∧ M.2.1.name = "<init>" ∧ (T j).1 = M.1)) (ht : (am_ty ci j).isReference = true)
    (ha : S.1 a = some (.inl ci)) (h : am_R E d M k n (pc + 3) ls st (am_wr S a j b) iv Q) : am_R E d M k n pc ls (.ref b :: .ref a :: st) S iv Q := by
  have hn : narrow (am_ty ci j) (am_tr E (.ref b)) = am_tr E (.ref b) := by
    generalize am_ty ci j = t at ht
    cases t <;> first | rfl | cases ht
  have hf : fits (am_ty ci j) (am_tr E (.ref b)) = true := by
    generalize am_ty ci j = t at ht
    cases t <;> first | rfl | cases ht
  refine am_put (S' := am_wr S a j b) (iv' := iv) hd hc hN hj hw hu hty hnm hfin hn hf ha rfl rfl (fun x hx => am_cell_wr E S iv a j b x hx) (fun i _ => ?_) h
  have e1 : (am_wr S a j b).2.1 a = fun i => if i = j then some b else S.2.1 a i := if_pos rfl
  simp only [am_fv, updV, am_tr, e1]
  by_cases e : i = j
  · subst e; simp [ht]
  · simp [e]
/-- an int array -/
theorem am_iaload {a m : Nat} {i : Int32} (hd : decode M.2.2.1 pc = .ok (.iaload, 1)) (ha : S.1 a = some (.inr (.int, m))) (hi : vp_in i m) (h : am_R E d M k n (pc + 1) ls (.int (iv a i.toNatClampNeg) :: st) S iv Q) : am_R E d M k n pc ls (.int i :: .ref a :: st) S iv Q := by
  intro p e R s m' args below meth c mc ms C0 hR H rls locs cells slots hP hL hS h1 h2 h3 h4
  have hA := hP.arr ha
  have hlt : i.toNatClampNeg < m := Nat.not_le.mp fun q => hi (Or.inr q)
  have hK := C0.2.2.2.2.2.2.2.2.2.1
  exact W.iald (v := .int (iv a i.toNatClampNeg)) C0.1 C0.2.1 hA ((hK.2 0 _ rfl).1 m (fun j => .int (iv a j))) (fun q => by cases q) (by show ¬ (i < 0 ∨ (arrV _ _ _).slots.size ≤ _); rw [arrV_size]; exact hi) (by show (arrV _ m _).slots[_]? = _; rw [arrV_read _ _ hlt]) rfl rfl hd (h p e R s m' args below meth c mc ms C0 hR H rls locs cells slots hP hL hS h1 h2 h3 h4)
theorem am_baload {a m : Nat} {i : Int32} (hd : decode M.2.2.1 pc = .ok (.baload, 1)) (ha : S.1 a = some (.inr (.byte, m))) (hi : vp_in i m) (h : am_R E d M k n (pc + 1) ls (.int (iv a i.toNatClampNeg) :: st) S iv Q) : am_R E d M k n pc ls (.int i :: .ref a :: st) S iv Q := by
  intro p e R s m' args below meth c mc ms C0 hR H rls locs cells slots hP hL hS h1 h2 h3 h4
  have hA := hP.arr ha
  have hlt : i.toNatClampNeg < m := Nat.not_le.mp fun q => hi (Or.inr q)
  have hK := C0.2.2.2.2.2.2.2.2.2.1
  exact W.bald (v := .int (iv a i.toNatClampNeg)) C0.1 C0.2.1 hA ((hK.2 1 _ rfl).1 m (fun j => .int (iv a j))) (fun q => by cases q) (by show ¬ (i < 0 ∨ (arrV _ _ _).slots.size ≤ _); rw [arrV_size]; exact hi) (by show (arrV _ m _).slots[_]? = _; rw [arrV_read _ _ hlt]) rfl rfl hd (h p e R s m' args below meth c mc ms C0 hR H rls locs cells slots hP hL hS h1 h2 h3 h4)
theorem am_zaload {a m : Nat} {i : Int32} (hd : decode M.2.2.1 pc = .ok (.baload, 1)) (ha : S.1 a = some (.inr (.boolean, m))) (hi : vp_in i m) (h : am_R E d M k n (pc + 1) ls (.int (iv a i.toNatClampNeg) :: st) S iv Q) : am_R E d M k n pc ls (.int i :: .ref a :: st) S iv Q := by
  intro p e R s m' args below meth c mc ms C0 hR H rls locs cells slots hP hL hS h1 h2 h3 h4
  have hA := hP.arr ha
  have hlt : i.toNatClampNeg < m := Nat.not_le.mp fun q => hi (Or.inr q)
  have hK := C0.2.2.2.2.2.2.2.2.2.1
  exact W.zald (v := .int (iv a i.toNatClampNeg)) C0.1 C0.2.1 hA ((hK.2 3 _ rfl).1 m (fun j => .int (iv a j))) (fun q => by cases q) (by show ¬ (i < 0 ∨ (arrV _ _ _).slots.size ≤ _); rw [arrV_size]; exact hi) (by show (arrV _ m _).slots[_]? = _; rw [arrV_read _ _ hlt]) rfl rfl hd (h p e R s m' args below meth c mc ms C0 hR H rls locs cells slots hP hL hS h1 h2 h3 h4)
theorem am_laload {a m : Nat} {i : Int32} (hd : decode M.2.2.1 pc = .ok (.laload, 1)) (ha : S.1 a = some (.inr (.long, m))) (hi : vp_in i m) (h : am_R E d M k n (pc + 1) ls (.long (S.2.2.1 a i.toNatClampNeg) :: st) S iv Q) : am_R E d M k n pc ls (.int i :: .ref a :: st) S iv Q := by
  intro p e R s m' args below meth c mc ms C0 hR H rls locs cells slots hP hL hS h1 h2 h3 h4
  have hA := hP.arr ha
  have hlt : i.toNatClampNeg < m := Nat.not_le.mp fun q => hi (Or.inr q)
  have hK := C0.2.2.2.2.2.2.2.2.2.1
  exact W.lald (v := .long (S.2.2.1 a i.toNatClampNeg)) C0.1 C0.2.1 hA ((hK.2 2 _ rfl).1 m (fun j => .long (S.2.2.1 a j))) (fun q => by cases q) (by show ¬ (i < 0 ∨ (arrV _ _ _).slots.size ≤ _); rw [arrV_size]; exact hi) (by show (arrV _ m _).slots[_]? = _; rw [arrV_read _ _ hlt]) rfl rfl hd (h p e R s m' args below meth c mc ms C0 hR H rls locs cells slots hP hL hS h1 h2 h3 h4)
/-- the law's script -/
theorem am_saload {i : Int32} (hd : decode M.2.2.1 pc = .ok (.iaload, 1)) (hi : vp_in i (am_L E)) (h : am_R E d M k n (pc + 1) ls (.int (am_xs E i.toNatClampNeg) :: st) S iv Q) : am_R E d M k n pc ls (.int i :: .null :: st) S iv Q := by
  intro p e R s m' args below meth c mc ms C0 hR H rls locs cells slots hP hL hS h1 h2 h3 h4
  have hG := C0.2.2.2.2.2.2.2.2.2
  exact va_sld C0.1 C0.2.1 hG.2.2.2.1 (Nat.lt_of_lt_of_le hG.2.2.1 hG.2.1) (Nat.not_le.mpr hG.2.2.1) hS hi hd (h p e R s m' args below meth c mc ms C0 hR H rls locs cells slots hP hL hS h1 h2 h3 h4)
theorem am_salen (hd : decode M.2.2.1 pc = .ok (.arraylength, 1)) (h : am_R E d M k n (pc + 1) ls (.int (Int32.ofNat (am_L E)) :: st) S iv Q) : am_R E d M k n pc ls (.null :: st) S iv Q := by
  intro p e R s m' args below meth c mc ms C0 hR H rls locs cells slots hP hL hS h1 h2 h3 h4
  have hG := C0.2.2.2.2.2.2.2.2.2
  exact va_slen C0.1 C0.2.1 hG.2.2.2.1 (Nat.lt_of_lt_of_le hG.2.2.1 hG.2.1) (Nat.not_le.mpr hG.2.2.1) hS hd (h p e R s m' args below meth c mc ms C0 hR H rls locs cells slots hP hL hS h1 h2 h3 h4)
/-- the array types that there are, by their places in am_tys -/
def am_ti (ty : FieldType) : Option Nat := if ty = .int then some 0 else if ty = .byte then some 1 else if ty = .long then some 2 else if ty = .boolean then some 3 else if ty = am_S0 then some 4 else none
theorem am_ti_at (E : am_E) {ty : FieldType} {i : Nat} (h : am_ti ty = some i) : (am_tys E)[i]? = some (am_cT E ty, ty) := by
  unfold am_ti at h
  split at h
  · rename_i e; cases h; rw [e]; rfl
  · split at h
    · rename_i e; cases h; rw [e]; rfl
    · split at h
      · rename_i e; cases h; rw [e]; rfl
      · split at h
        · rename_i e; cases h; rw [e]; rfl
        · split at h
          · rename_i e; cases h; rw [e]; rfl
          · cases h
theorem am_alen {a m t : Nat} {ty : FieldType} (hd : decode M.2.2.1 pc = .ok (.arraylength, 1)) (ha : S.1 a = some (.inr (ty, m))) (ht : am_ti ty = some t) (h : am_R E d M k n (pc + 1) ls (.int (Int32.ofNat m) :: st) S iv Q) : am_R E d M k n pc ls (.ref a :: st) S iv Q := by
  intro p e R s m' args below meth c mc ms C0 hR H rls locs cells slots hP hL hS h1 h2 h3 h4
  have hA := hP.arr ha
  have hP1 : va_P (am_D E) vwCl [(am_z E + a, .inl (am_cT E ty, am_arr E S iv a m ty))] H := by
    intro i q hq
    cases i with
    | zero => cases hq; exact hA
    | succ i => cases hq
  exact va_alen (D := am_D E) (cl := vwCl) C0.1 C0.2.1 C0.2.2.2.2.2.2.2.2.2.1 hP1 0 t rfl (am_ti_at E ht) rfl hd (h p e R s m' args below meth c mc ms C0 hR H rls locs cells slots hP hL hS h1 h2 h3 h4)
theorem am_iastore {a m : Nat} {i x : Int32} (hd : decode M.2.2.1 pc = .ok (.iastore, 1)) (ha : S.1 a = some (.inr (.int, m))) (hi : vp_in i m) (h : am_R E d M k n (pc + 1) ls st S (am_w iv a i.toNatClampNeg x) Q) : am_R E d M k n pc ls (.int x :: .int i :: .ref a :: st) S iv Q := by
  intro p e R s m' args below meth c mc ms C0 hR H rls locs cells slots hP hL hS h1 h2 h3 h4
  have hA := hP.arr ha
  have hK := C0.2.2.2.2.2.2.2.2.2.1
  refine W.iast C0.1 C0.2.1 hA ((hK.2 0 _ rfl).1 m (fun j => .int (iv a j))) (fun q => by cases q) (by show ¬ (i < 0 ∨ (arrV _ _ _).slots.size ≤ _); rw [arrV_size]; exact hi) rfl rfl hd fun H1 e1 z oq => ?_
  refine h p e R s m' args below meth c mc ms C0 hR H1 rls _ cells slots (hP.put (a := a) rfl rfl z oq (fun b hb => am_cell_w E S iv a _ x b hb) (fun y hy => ?_)) hL (hS.put z oq (Nat.le_add_right _ _)) h1 h2 h3 h4
  have hy2 : am_cell E S (am_w iv a i.toNatClampNeg x) a = some (.inl (am_cT E .int, am_arr E S (am_w iv a i.toNatClampNeg x) a m .int)) := by simp [am_cell, ha]
  rw [hy2] at hy
  cases hy
  show H1[am_z E + a]? = some (vp_cell _ _)
  rw [e1]
  show some ((arrV _ m (fun j => .int (iv a j))).setSlot _ _) = some (arrV _ m (fun j => .int (am_w iv a i.toNatClampNeg x a j)))
  rw [arrV_store, am_w_same]
  congr 2
  funext q
  simp only [updV, upd]
  split <;> rfl
theorem am_zastore {a m : Nat} {i x : Int32} (hd : decode M.2.2.1 pc = .ok (.bastore, 1)) (ha : S.1 a = some (.inr (.boolean, m))) (hi : vp_in i m) (hx : x = 0 ∨ x = 1) (h : am_R E d M k n (pc + 1) ls st S (am_w iv a i.toNatClampNeg x) Q) : am_R E d M k n pc ls (.int x :: .int i :: .ref a :: st) S iv Q := by
  intro p e R s m' args below meth c mc ms C0 hR H rls locs cells slots hP hL hS h1 h2 h3 h4
  have hA := hP.arr ha
  have hK := C0.2.2.2.2.2.2.2.2.2.1
  refine W.zast C0.1 C0.2.1 hA ((hK.2 3 _ rfl).1 m (fun j => .int (iv a j))) (fun q => by cases q) (by show ¬ (i < 0 ∨ (arrV _ _ _).slots.size ≤ _); rw [arrV_size]; exact hi) rfl rfl hd fun H1 e1 z oq => ?_
  refine h p e R s m' args below meth c mc ms C0 hR H1 rls _ cells slots (hP.put (a := a) rfl rfl z oq (fun b hb => am_cell_w E S iv a _ x b hb) (fun y hy => ?_)) hL (hS.put z oq (Nat.le_add_right _ _)) h1 h2 h3 h4
  have hy2 : am_cell E S (am_w iv a i.toNatClampNeg x) a = some (.inl (am_cT E .boolean, am_arr E S (am_w iv a i.toNatClampNeg x) a m .boolean)) := by simp [am_cell, ha]
  rw [hy2] at hy
  cases hy
  have hnx : narrow .boolean (.int x) = .int x := by rcases hx with rfl | rfl <;> rfl
  rw [hnx] at e1
  show H1[am_z E + a]? = some (vp_cell _ _)
  rw [e1]
  show some ((arrV _ m (fun j => .int (iv a j))).setSlot _ _) = some (arrV _ m (fun j => .int (am_w iv a i.toNatClampNeg x a j)))
  rw [arrV_store, am_w_same]
  congr 2
  funext q
  simp only [updV, upd]
  split <;> rfl
theorem am_bastore {a m : Nat} {i x : Int32} (hd : decode M.2.2.1 pc = .ok (.bastore, 1)) (ha : S.1 a = some (.inr (.byte, m))) (hi : vp_in i m) (hx : x.toInt8.toInt32 = x) (h : am_R E d M k n (pc + 1) ls st S (am_w iv a i.toNatClampNeg x) Q) : am_R E d M k n pc ls (.int x :: .int i :: .ref a :: st) S iv Q := by
  intro p e R s m' args below meth c mc ms C0 hR H rls locs cells slots hP hL hS h1 h2 h3 h4
  have hA := hP.arr ha
  have hK := C0.2.2.2.2.2.2.2.2.2.1
  refine W.bast C0.1 C0.2.1 hA ((hK.2 1 _ rfl).1 m (fun j => .int (iv a j))) (fun q => by cases q) (by show ¬ (i < 0 ∨ (arrV _ _ _).slots.size ≤ _); rw [arrV_size]; exact hi) rfl rfl hd fun H1 e1 z oq => ?_
  refine h p e R s m' args below meth c mc ms C0 hR H1 rls _ cells slots (hP.put (a := a) rfl rfl z oq (fun b hb => am_cell_w E S iv a _ x b hb) (fun y hy => ?_)) hL (hS.put z oq (Nat.le_add_right _ _)) h1 h2 h3 h4
  have hy2 : am_cell E S (am_w iv a i.toNatClampNeg x) a = some (.inl (am_cT E .byte, am_arr E S (am_w iv a i.toNatClampNeg x) a m .byte)) := by simp [am_cell, ha]
  rw [hy2] at hy
  cases hy
  have hnx : narrow .byte (.int x) = .int x := by rw [← hx]; exact pk_nb _
  rw [hnx] at e1
  show H1[am_z E + a]? = some (vp_cell _ _)
  rw [e1]
  show some ((arrV _ m (fun j => .int (iv a j))).setSlot _ _) = some (arrV _ m (fun j => .int (am_w iv a i.toNatClampNeg x a j)))
  rw [arrV_store, am_w_same]
  congr 2
  funext q
  simp only [updV, upd]
  split <;> rfl
theorem am_lastore {a m : Nat} {i : Int32} {x : Int64} (hd : decode M.2.2.1 pc = .ok (.lastore, 1)) (ha : S.1 a = some (.inr (.long, m))) (hi : vp_in i m) (h : am_R E d M k n (pc + 1) ls st (am_wl S a i.toNatClampNeg x) iv Q) : am_R E d M k n pc ls (.long x :: .int i :: .ref a :: st) S iv Q := by
  intro p e R s m' args below meth c mc ms C0 hR H rls locs cells slots hP hL hS h1 h2 h3 h4
  have hA := hP.arr ha
  have hK := C0.2.2.2.2.2.2.2.2.2.1
  refine W.last C0.1 C0.2.1 hA ((hK.2 2 _ rfl).1 m (fun j => .long (S.2.2.1 a j))) (fun q => by cases q) (by show ¬ (i < 0 ∨ (arrV _ _ _).slots.size ≤ _); rw [arrV_size]; exact hi) rfl rfl hd fun H1 e1 z oq => ?_
  refine h p e R s m' args below meth c mc ms C0 hR H1 rls _ cells slots (hP.put (a := a) rfl rfl z oq (fun b hb => am_cell_wl E S iv a _ x b hb) (fun y hy => ?_)) hL (hS.put z oq (Nat.le_add_right _ _)) h1 h2 h3 h4
  have ha' : (am_wl S a i.toNatClampNeg x).1 a = some (.inr (.long, m)) := ha
  have hy2 : am_cell E (am_wl S a i.toNatClampNeg x) iv a = some (.inl (am_cT E .long, am_arr E (am_wl S a i.toNatClampNeg x) iv a m .long)) := by simp [am_cell, ha']
  rw [hy2] at hy
  cases hy
  show H1[am_z E + a]? = some (vp_cell _ _)
  rw [e1]
  show some ((arrV _ m (fun j => .long (S.2.2.1 a j))).setSlot _ _) = some (arrV _ m (fun j => .long ((am_wl S a i.toNatClampNeg x).2.2.1 a j)))
  have e3 : (am_wl S a i.toNatClampNeg x).2.2.1 a = vp_updL (S.2.2.1 a) i.toNatClampNeg x := if_pos rfl
  rw [arrV_store, e3]
  congr 2
  funext q
  simp only [updV, vp_updL]
  split <;> rfl
end AMH
