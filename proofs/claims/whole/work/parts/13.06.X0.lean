section R13_X0
variable {E : am_E} {d k n : Nat} {st : List Value} {S : am_S} {iv : am_I} {Q : am_O → am_S → am_I → Prop}
theorem dX0_init_0 : decode cX0_init 0 = .ok (.aload_n 0, 1) := by decide +kernel
theorem dX0_init_1 : decode cX0_init 1 = .ok (.invokespecial 5, 3) := by decide +kernel
theorem dX0_init_4 : decode cX0_init 4 = .ok (.aload_n 0, 1) := by decide +kernel
theorem dX0_init_5 : decode cX0_init 5 = .ok (.iconst 3, 1) := by decide +kernel
theorem dX0_init_6 : decode cX0_init 6 = .ok (.putfield 11, 3) := by decide +kernel
theorem dX0_init_9 : decode cX0_init 9 = .ok (.aload_n 0, 1) := by decide +kernel
theorem dX0_init_10 : decode cX0_init 10 = .ok (.iconst 4, 1) := by decide +kernel
theorem dX0_init_11 : decode cX0_init 11 = .ok (.putfield 15, 3) := by decide +kernel
theorem dX0_init_14 : decode cX0_init 14 = .ok (.aload_n 0, 1) := by decide +kernel
theorem dX0_init_15 : decode cX0_init 15 = .ok (.iconst 2, 1) := by decide +kernel
theorem dX0_init_16 : decode cX0_init 16 = .ok (.putfield 18, 3) := by decide +kernel
theorem dX0_init_19 : decode cX0_init 19 = .ok (.aload_n 0, 1) := by decide +kernel
theorem dX0_init_20 : decode cX0_init 20 = .ok (.new 21, 3) := by decide +kernel
theorem dX0_init_23 : decode cX0_init 23 = .ok (.dup, 1) := by decide +kernel
theorem dX0_init_24 : decode cX0_init 24 = .ok (.invokespecial 23, 3) := by decide +kernel
theorem dX0_init_27 : decode cX0_init 27 = .ok (.putfield 24, 3) := by decide +kernel
theorem dX0_init_30 : decode cX0_init 30 = .ok (.aload_n 0, 1) := by decide +kernel
theorem dX0_init_31 : decode cX0_init 31 = .ok (.new 28, 3) := by decide +kernel
theorem dX0_init_34 : decode cX0_init 34 = .ok (.dup, 1) := by decide +kernel
theorem dX0_init_35 : decode cX0_init 35 = .ok (.invokespecial 30, 3) := by decide +kernel
theorem dX0_init_38 : decode cX0_init 38 = .ok (.putfield 31, 3) := by decide +kernel
theorem dX0_init_41 : decode cX0_init 41 = .ok (.aload_n 0, 1) := by decide +kernel
theorem dX0_init_42 : decode cX0_init 42 = .ok (.new 35, 3) := by decide +kernel
theorem dX0_init_45 : decode cX0_init 45 = .ok (.dup, 1) := by decide +kernel
theorem dX0_init_46 : decode cX0_init 46 = .ok (.invokespecial 37, 3) := by decide +kernel
theorem dX0_init_49 : decode cX0_init 49 = .ok (.putfield 38, 3) := by decide +kernel
theorem dX0_init_52 : decode cX0_init 52 = .ok (.aload_n 0, 1) := by decide +kernel
theorem dX0_init_53 : decode cX0_init 53 = .ok (.bipush 7, 2) := by decide +kernel
theorem dX0_init_55 : decode cX0_init 55 = .ok (.newarray .int, 2) := by decide +kernel
theorem dX0_init_57 : decode cX0_init 57 = .ok (.putfield 42, 3) := by decide +kernel
theorem dX0_init_60 : decode cX0_init 60 = .ok (.aload_n 0, 1) := by decide +kernel
theorem dX0_init_61 : decode cX0_init 61 = .ok (.sipush 1024, 3) := by decide +kernel
theorem dX0_init_64 : decode cX0_init 64 = .ok (.newarray .int, 2) := by decide +kernel
theorem dX0_init_66 : decode cX0_init 66 = .ok (.putfield 46, 3) := by decide +kernel
theorem dX0_init_69 : decode cX0_init 69 = .ok (.return_, 1) := by decide +kernel
theorem sX0_init_0 {a0 : Value} (hv : am_rf a0 = true) (h : am_R E d mX0_init k n 1 [a0] (a0 :: st) S iv Q) : am_R E d mX0_init k n 0 [a0] st S iv Q := am_aload_n dX0_init_0 rfl rfl hv h
theorem sX0_init_1 {ls : List Value} {a : Nat} (hst : (st.map fun v => v.category).sum ≤ 8) (h : am_R E (d + 1) mX0_init k n 4 ls st S iv Q) : am_R E (d + 1) mX0_init k n 1 ls (.ref a :: st) S iv Q := am_objInit dX0_init_1 wq_156 wq_63 wq_64 hst (by omega) h
theorem sX0_init_4 {a0 : Value} (hv : am_rf a0 = true) (h : am_R E d mX0_init k n 5 [a0] (a0 :: st) S iv Q) : am_R E d mX0_init k n 4 [a0] st S iv Q := am_aload_n dX0_init_4 rfl rfl hv h
theorem sX0_init_5 {a0 : Value} (h : am_R E d mX0_init k n 6 [a0] (.int 3 :: st) S iv Q) : am_R E d mX0_init k n 5 [a0] st S iv Q := am_iconst dX0_init_5 (by decide) h
theorem sX0_init_6 {ls : List Value} {a : Nat} {x : Int32} (ha : S.1 a = some (.inl 0)) (h : am_R E d mX0_init k n 9 ls st S (am_w iv a 0 x) Q) : am_R E d mX0_init k n 6 ls (.int x :: .ref a :: st) S iv Q := am_putI (ci := 0) dX0_init_6 rfl rfl (by decide) wq_157 uq_0 tyX0_ok nmX0 (Or.inl rfl) rfl ha h
theorem sX0_init_9 {a0 : Value} (hv : am_rf a0 = true) (h : am_R E d mX0_init k n 10 [a0] (a0 :: st) S iv Q) : am_R E d mX0_init k n 9 [a0] st S iv Q := am_aload_n dX0_init_9 rfl rfl hv h
theorem sX0_init_10 {a0 : Value} (h : am_R E d mX0_init k n 11 [a0] (.int 4 :: st) S iv Q) : am_R E d mX0_init k n 10 [a0] st S iv Q := am_iconst dX0_init_10 (by decide) h
theorem sX0_init_11 {ls : List Value} {a : Nat} {x : Int32} (ha : S.1 a = some (.inl 0)) (h : am_R E d mX0_init k n 14 ls st S (am_w iv a 1 x) Q) : am_R E d mX0_init k n 11 ls (.int x :: .ref a :: st) S iv Q := am_putI (ci := 0) dX0_init_11 rfl rfl (by decide) wq_158 uq_0 tyX0_ok nmX0 (Or.inl rfl) rfl ha h
theorem sX0_init_14 {a0 : Value} (hv : am_rf a0 = true) (h : am_R E d mX0_init k n 15 [a0] (a0 :: st) S iv Q) : am_R E d mX0_init k n 14 [a0] st S iv Q := am_aload_n dX0_init_14 rfl rfl hv h
theorem sX0_init_15 {a0 : Value} (h : am_R E d mX0_init k n 16 [a0] (.int 2 :: st) S iv Q) : am_R E d mX0_init k n 15 [a0] st S iv Q := am_iconst dX0_init_15 (by decide) h
theorem sX0_init_16 {ls : List Value} {a : Nat} {x : Int32} (ha : S.1 a = some (.inl 0)) (h : am_R E d mX0_init k n 19 ls st S (am_w iv a 2 x) Q) : am_R E d mX0_init k n 16 ls (.int x :: .ref a :: st) S iv Q := am_putI (ci := 0) dX0_init_16 rfl rfl (by decide) wq_159 uq_0 tyX0_ok nmX0 (Or.inl rfl) rfl ha h
theorem sX0_init_19 {a0 : Value} (hv : am_rf a0 = true) (h : am_R E d mX0_init k n 20 [a0] (a0 :: st) S iv Q) : am_R E d mX0_init k n 19 [a0] st S iv Q := am_aload_n dX0_init_19 rfl rfl hv h
theorem sX0_init_20 {ls : List Value} (h : am_R E d mX0_init k n 23 ls (.ref S.2.2.2 :: st) (am_new S (.inl 2)) (am_0 S iv) Q) : am_R E d mX0_init (k + 1) (n + 11) 20 ls st S iv Q := am_newO (ci := 2) dX0_init_20 rfl rfl wq_160 wq_161 wq_81 uq_2 tyX2_ok dq_2 (by omega) (by omega) h
theorem sX0_init_23 {ls : List Value} {x : Value} (hv : x.category = 1) (h : am_R E d mX0_init k n 24 ls (x :: x :: st) S iv Q) : am_R E d mX0_init k n 23 ls (x :: st) S iv Q := am_dup dX0_init_23 hv h
theorem sX0_init_24 {ls : List Value} {k' n' : Nat} {a : Nat} (hst : (st.map fun v => v.category).sum ≤ 8) (hM : am_M E d mX2_init k' n' [.ref a] S iv (fun o S' iv' => o = .inl none ∧ am_R E (d + 1) mX0_init k n 27 ls st S' iv' Q)) : am_R E (d + 1) mX0_init (k' + k) (n' + n) 24 ls (.ref a :: st) S iv Q := am_cI (M' := mX2_init) (as := []) "DrawerWall" dX0_init_24 rfl rfl rfl (Or.inr (List.mem_of_getElem? (i := 1) rfl)) wq_164 wq_81 wq_162 hy_X2_init (by decide) hst (by omega) (by omega) hM
theorem sX0_init_27 {ls : List Value} {a b : Nat} (ha : S.1 a = some (.inl 0)) (h : am_R E d mX0_init k n 30 ls st (am_wr S a 7 b) iv Q) : am_R E d mX0_init k n 27 ls (.ref b :: .ref a :: st) S iv Q := am_putR (ci := 0) dX0_init_27 rfl rfl (by decide) wq_165 uq_0 tyX0_ok nmX0 (Or.inr ⟨rfl, rfl, rfl⟩) rfl ha h
theorem sX0_init_30 {a0 : Value} (hv : am_rf a0 = true) (h : am_R E d mX0_init k n 31 [a0] (a0 :: st) S iv Q) : am_R E d mX0_init k n 30 [a0] st S iv Q := am_aload_n dX0_init_30 rfl rfl hv h
theorem sX0_init_31 {ls : List Value} (h : am_R E d mX0_init k n 34 ls (.ref S.2.2.2 :: st) (am_new S (.inl 4)) (am_0 S iv) Q) : am_R E d mX0_init (k + 1) (n + 4) 31 ls st S iv Q := am_newO (ci := 4) dX0_init_31 rfl rfl wq_166 wq_167 wq_168 uq_4 tyX4_ok dq_4 (by omega) (by omega) h
theorem sX0_init_34 {ls : List Value} {x : Value} (hv : x.category = 1) (h : am_R E d mX0_init k n 35 ls (x :: x :: st) S iv Q) : am_R E d mX0_init k n 34 ls (x :: st) S iv Q := am_dup dX0_init_34 hv h
theorem sX0_init_35 {ls : List Value} {k' n' : Nat} {a : Nat} (hst : (st.map fun v => v.category).sum ≤ 8) (hM : am_M E d mX4_init k' n' [.ref a] S iv (fun o S' iv' => o = .inl none ∧ am_R E (d + 1) mX0_init k n 38 ls st S' iv' Q)) : am_R E (d + 1) mX0_init (k' + k) (n' + n) 35 ls (.ref a :: st) S iv Q := am_cI (M' := mX4_init) (as := []) "DrawerWall" dX0_init_35 rfl rfl rfl (Or.inr (List.mem_of_getElem? (i := 2) rfl)) wq_171 wq_168 wq_169 hy_X4_init (by decide) hst (by omega) (by omega) hM
theorem sX0_init_38 {ls : List Value} {a b : Nat} (ha : S.1 a = some (.inl 0)) (h : am_R E d mX0_init k n 41 ls st (am_wr S a 8 b) iv Q) : am_R E d mX0_init k n 38 ls (.ref b :: .ref a :: st) S iv Q := am_putR (ci := 0) dX0_init_38 rfl rfl (by decide) wq_172 uq_0 tyX0_ok nmX0 (Or.inr ⟨rfl, rfl, rfl⟩) rfl ha h
theorem sX0_init_41 {a0 : Value} (hv : am_rf a0 = true) (h : am_R E d mX0_init k n 42 [a0] (a0 :: st) S iv Q) : am_R E d mX0_init k n 41 [a0] st S iv Q := am_aload_n dX0_init_41 rfl rfl hv h
theorem sX0_init_42 {ls : List Value} (h : am_R E d mX0_init k n 45 ls (.ref S.2.2.2 :: st) (am_new S (.inl 5)) (am_0 S iv) Q) : am_R E d mX0_init (k + 1) (n + 5) 42 ls st S iv Q := am_newO (ci := 5) dX0_init_42 rfl rfl wq_173 wq_174 wq_112 uq_5 tyX5_ok dq_5 (by omega) (by omega) h
theorem sX0_init_45 {ls : List Value} {x : Value} (hv : x.category = 1) (h : am_R E d mX0_init k n 46 ls (x :: x :: st) S iv Q) : am_R E d mX0_init k n 45 ls (x :: st) S iv Q := am_dup dX0_init_45 hv h
theorem sX0_init_46 {ls : List Value} {k' n' : Nat} {a : Nat} (hst : (st.map fun v => v.category).sum ≤ 8) (hM : am_M E d mX5_init k' n' [.ref a] S iv (fun o S' iv' => o = .inl none ∧ am_R E (d + 1) mX0_init k n 49 ls st S' iv' Q)) : am_R E (d + 1) mX0_init (k' + k) (n' + n) 46 ls (.ref a :: st) S iv Q := am_cI (M' := mX5_init) (as := []) "DrawerWall" dX0_init_46 rfl rfl rfl (Or.inr (List.mem_of_getElem? (i := 3) rfl)) wq_177 wq_112 wq_175 hy_X5_init (by decide) hst (by omega) (by omega) hM
theorem sX0_init_49 {ls : List Value} {a b : Nat} (ha : S.1 a = some (.inl 0)) (h : am_R E d mX0_init k n 52 ls st (am_wr S a 9 b) iv Q) : am_R E d mX0_init k n 49 ls (.ref b :: .ref a :: st) S iv Q := am_putR (ci := 0) dX0_init_49 rfl rfl (by decide) wq_178 uq_0 tyX0_ok nmX0 (Or.inr ⟨rfl, rfl, rfl⟩) rfl ha h
theorem sX0_init_52 {a0 : Value} (hv : am_rf a0 = true) (h : am_R E d mX0_init k n 53 [a0] (a0 :: st) S iv Q) : am_R E d mX0_init k n 52 [a0] st S iv Q := am_aload_n dX0_init_52 rfl rfl hv h
theorem sX0_init_53 {a0 : Value} (h : am_R E d mX0_init k n 55 [a0] (.int 7 :: st) S iv Q) : am_R E d mX0_init k n 53 [a0] st S iv Q := am_bipush dX0_init_53 (by decide) h
theorem sX0_init_55 {ls : List Value} {x : Int32} {m : Nat} (hx : ¬ x < 0) (hm : x.toNatClampNeg = m) (hb : m ≤ 50000000) (h : am_R E d mX0_init k n 57 ls (.ref S.2.2.2 :: st) (am_new S (.inr (.int, m))) (am_0 S iv) Q) : am_R E d mX0_init (k + 1) (n + m) 55 ls (.int x :: st) S iv Q := am_nI dX0_init_55 wq_65 hx hm (by omega) (by omega) (by omega) h
theorem sX0_init_57 {ls : List Value} {a b : Nat} (ha : S.1 a = some (.inl 0)) (h : am_R E d mX0_init k n 60 ls st (am_wr S a 10 b) iv Q) : am_R E d mX0_init k n 57 ls (.ref b :: .ref a :: st) S iv Q := am_putR (ci := 0) dX0_init_57 rfl rfl (by decide) wq_179 uq_0 tyX0_ok nmX0 (Or.inr ⟨rfl, rfl, rfl⟩) rfl ha h
theorem sX0_init_60 {a0 : Value} (hv : am_rf a0 = true) (h : am_R E d mX0_init k n 61 [a0] (a0 :: st) S iv Q) : am_R E d mX0_init k n 60 [a0] st S iv Q := am_aload_n dX0_init_60 rfl rfl hv h
theorem sX0_init_61 {a0 : Value} (h : am_R E d mX0_init k n 64 [a0] (.int 1024 :: st) S iv Q) : am_R E d mX0_init k n 61 [a0] st S iv Q := am_sipush dX0_init_61 (by decide) h
theorem sX0_init_64 {ls : List Value} {x : Int32} {m : Nat} (hx : ¬ x < 0) (hm : x.toNatClampNeg = m) (hb : m ≤ 50000000) (h : am_R E d mX0_init k n 66 ls (.ref S.2.2.2 :: st) (am_new S (.inr (.int, m))) (am_0 S iv) Q) : am_R E d mX0_init (k + 1) (n + m) 64 ls (.int x :: st) S iv Q := am_nI dX0_init_64 wq_65 hx hm (by omega) (by omega) (by omega) h
theorem sX0_init_66 {ls : List Value} {a b : Nat} (ha : S.1 a = some (.inl 0)) (h : am_R E d mX0_init k n 69 ls st (am_wr S a 11 b) iv Q) : am_R E d mX0_init k n 66 ls (.ref b :: .ref a :: st) S iv Q := am_putR (ci := 0) dX0_init_66 rfl rfl (by decide) wq_180 uq_0 tyX0_ok nmX0 (Or.inr ⟨rfl, rfl, rfl⟩) rfl ha h
theorem sX0_init_69 {ls : List Value} (h : Q (.inl none) S iv) : am_R E d mX0_init k n 69 ls [] S iv Q := am_return dX0_init_69 rfl h
theorem dX0_clear_0 : decode cX0_clear 0 = .ok (.aload_n 0, 1) := by decide +kernel
theorem dX0_clear_1 : decode cX0_clear 1 = .ok (.iconst 3, 1) := by decide +kernel
theorem dX0_clear_2 : decode cX0_clear 2 = .ok (.putfield 11, 3) := by decide +kernel
theorem dX0_clear_5 : decode cX0_clear 5 = .ok (.aload_n 0, 1) := by decide +kernel
theorem dX0_clear_6 : decode cX0_clear 6 = .ok (.iconst 4, 1) := by decide +kernel
theorem dX0_clear_7 : decode cX0_clear 7 = .ok (.putfield 15, 3) := by decide +kernel
theorem dX0_clear_10 : decode cX0_clear 10 = .ok (.aload_n 0, 1) := by decide +kernel
theorem dX0_clear_11 : decode cX0_clear 11 = .ok (.iconst 2, 1) := by decide +kernel
theorem dX0_clear_12 : decode cX0_clear 12 = .ok (.putfield 18, 3) := by decide +kernel
theorem dX0_clear_15 : decode cX0_clear 15 = .ok (.aload_n 0, 1) := by decide +kernel
theorem dX0_clear_16 : decode cX0_clear 16 = .ok (.iconst 0, 1) := by decide +kernel
theorem dX0_clear_17 : decode cX0_clear 17 = .ok (.putfield 49, 3) := by decide +kernel
theorem dX0_clear_20 : decode cX0_clear 20 = .ok (.aload_n 0, 1) := by decide +kernel
theorem dX0_clear_21 : decode cX0_clear 21 = .ok (.iconst 0, 1) := by decide +kernel
theorem dX0_clear_22 : decode cX0_clear 22 = .ok (.putfield 52, 3) := by decide +kernel
theorem dX0_clear_25 : decode cX0_clear 25 = .ok (.aload_n 0, 1) := by decide +kernel
theorem dX0_clear_26 : decode cX0_clear 26 = .ok (.iconst 0, 1) := by decide +kernel
theorem dX0_clear_27 : decode cX0_clear 27 = .ok (.putfield 55, 3) := by decide +kernel
theorem dX0_clear_30 : decode cX0_clear 30 = .ok (.aload_n 0, 1) := by decide +kernel
theorem dX0_clear_31 : decode cX0_clear 31 = .ok (.iconst 0, 1) := by decide +kernel
theorem dX0_clear_32 : decode cX0_clear 32 = .ok (.putfield 58, 3) := by decide +kernel
theorem dX0_clear_35 : decode cX0_clear 35 = .ok (.aload_n 0, 1) := by decide +kernel
theorem dX0_clear_36 : decode cX0_clear 36 = .ok (.getfield 24, 3) := by decide +kernel
theorem dX0_clear_39 : decode cX0_clear 39 = .ok (.iconst 0, 1) := by decide +kernel
theorem dX0_clear_40 : decode cX0_clear 40 = .ok (.putfield 61, 3) := by decide +kernel
theorem dX0_clear_43 : decode cX0_clear 43 = .ok (.aload_n 0, 1) := by decide +kernel
theorem dX0_clear_44 : decode cX0_clear 44 = .ok (.getfield 31, 3) := by decide +kernel
theorem dX0_clear_47 : decode cX0_clear 47 = .ok (.iconst 0, 1) := by decide +kernel
theorem dX0_clear_48 : decode cX0_clear 48 = .ok (.putfield 64, 3) := by decide +kernel
theorem dX0_clear_51 : decode cX0_clear 51 = .ok (.aload_n 0, 1) := by decide +kernel
theorem dX0_clear_52 : decode cX0_clear 52 = .ok (.getfield 38, 3) := by decide +kernel
theorem dX0_clear_55 : decode cX0_clear 55 = .ok (.invokevirtual 65, 3) := by decide +kernel
theorem dX0_clear_58 : decode cX0_clear 58 = .ok (.return_, 1) := by decide +kernel
theorem sX0_clear_0 {a0 : Value} (hv : am_rf a0 = true) (h : am_R E d mX0_clear k n 1 [a0] (a0 :: st) S iv Q) : am_R E d mX0_clear k n 0 [a0] st S iv Q := am_aload_n dX0_clear_0 rfl rfl hv h
theorem sX0_clear_1 {a0 : Value} (h : am_R E d mX0_clear k n 2 [a0] (.int 3 :: st) S iv Q) : am_R E d mX0_clear k n 1 [a0] st S iv Q := am_iconst dX0_clear_1 (by decide) h
theorem sX0_clear_2 {ls : List Value} {a : Nat} {x : Int32} (ha : S.1 a = some (.inl 0)) (h : am_R E d mX0_clear k n 5 ls st S (am_w iv a 0 x) Q) : am_R E d mX0_clear k n 2 ls (.int x :: .ref a :: st) S iv Q := am_putI (ci := 0) dX0_clear_2 rfl rfl (by decide) wq_157 uq_0 tyX0_ok nmX0 (Or.inl rfl) rfl ha h
theorem sX0_clear_5 {a0 : Value} (hv : am_rf a0 = true) (h : am_R E d mX0_clear k n 6 [a0] (a0 :: st) S iv Q) : am_R E d mX0_clear k n 5 [a0] st S iv Q := am_aload_n dX0_clear_5 rfl rfl hv h
theorem sX0_clear_6 {a0 : Value} (h : am_R E d mX0_clear k n 7 [a0] (.int 4 :: st) S iv Q) : am_R E d mX0_clear k n 6 [a0] st S iv Q := am_iconst dX0_clear_6 (by decide) h
theorem sX0_clear_7 {ls : List Value} {a : Nat} {x : Int32} (ha : S.1 a = some (.inl 0)) (h : am_R E d mX0_clear k n 10 ls st S (am_w iv a 1 x) Q) : am_R E d mX0_clear k n 7 ls (.int x :: .ref a :: st) S iv Q := am_putI (ci := 0) dX0_clear_7 rfl rfl (by decide) wq_158 uq_0 tyX0_ok nmX0 (Or.inl rfl) rfl ha h
theorem sX0_clear_10 {a0 : Value} (hv : am_rf a0 = true) (h : am_R E d mX0_clear k n 11 [a0] (a0 :: st) S iv Q) : am_R E d mX0_clear k n 10 [a0] st S iv Q := am_aload_n dX0_clear_10 rfl rfl hv h
theorem sX0_clear_11 {a0 : Value} (h : am_R E d mX0_clear k n 12 [a0] (.int 2 :: st) S iv Q) : am_R E d mX0_clear k n 11 [a0] st S iv Q := am_iconst dX0_clear_11 (by decide) h
theorem sX0_clear_12 {ls : List Value} {a : Nat} {x : Int32} (ha : S.1 a = some (.inl 0)) (h : am_R E d mX0_clear k n 15 ls st S (am_w iv a 2 x) Q) : am_R E d mX0_clear k n 12 ls (.int x :: .ref a :: st) S iv Q := am_putI (ci := 0) dX0_clear_12 rfl rfl (by decide) wq_159 uq_0 tyX0_ok nmX0 (Or.inl rfl) rfl ha h
theorem sX0_clear_15 {a0 : Value} (hv : am_rf a0 = true) (h : am_R E d mX0_clear k n 16 [a0] (a0 :: st) S iv Q) : am_R E d mX0_clear k n 15 [a0] st S iv Q := am_aload_n dX0_clear_15 rfl rfl hv h
theorem sX0_clear_16 {a0 : Value} (h : am_R E d mX0_clear k n 17 [a0] (.int 0 :: st) S iv Q) : am_R E d mX0_clear k n 16 [a0] st S iv Q := am_iconst dX0_clear_16 (by decide) h
theorem sX0_clear_17 {ls : List Value} {a : Nat} {x : Int32} (ha : S.1 a = some (.inl 0)) (h : am_R E d mX0_clear k n 20 ls st S (am_w iv a 3 x) Q) : am_R E d mX0_clear k n 17 ls (.int x :: .ref a :: st) S iv Q := am_putI (ci := 0) dX0_clear_17 rfl rfl (by decide) wq_181 uq_0 tyX0_ok nmX0 (Or.inl rfl) rfl ha h
theorem sX0_clear_20 {a0 : Value} (hv : am_rf a0 = true) (h : am_R E d mX0_clear k n 21 [a0] (a0 :: st) S iv Q) : am_R E d mX0_clear k n 20 [a0] st S iv Q := am_aload_n dX0_clear_20 rfl rfl hv h
theorem sX0_clear_21 {a0 : Value} (h : am_R E d mX0_clear k n 22 [a0] (.int 0 :: st) S iv Q) : am_R E d mX0_clear k n 21 [a0] st S iv Q := am_iconst dX0_clear_21 (by decide) h
theorem sX0_clear_22 {ls : List Value} {a : Nat} {x : Int32} (ha : S.1 a = some (.inl 0)) (h : am_R E d mX0_clear k n 25 ls st S (am_w iv a 4 x) Q) : am_R E d mX0_clear k n 22 ls (.int x :: .ref a :: st) S iv Q := am_putI (ci := 0) dX0_clear_22 rfl rfl (by decide) wq_182 uq_0 tyX0_ok nmX0 (Or.inl rfl) rfl ha h
theorem sX0_clear_25 {a0 : Value} (hv : am_rf a0 = true) (h : am_R E d mX0_clear k n 26 [a0] (a0 :: st) S iv Q) : am_R E d mX0_clear k n 25 [a0] st S iv Q := am_aload_n dX0_clear_25 rfl rfl hv h
theorem sX0_clear_26 {a0 : Value} (h : am_R E d mX0_clear k n 27 [a0] (.int 0 :: st) S iv Q) : am_R E d mX0_clear k n 26 [a0] st S iv Q := am_iconst dX0_clear_26 (by decide) h
theorem sX0_clear_27 {ls : List Value} {a : Nat} {x : Int32} (ha : S.1 a = some (.inl 0)) (h : am_R E d mX0_clear k n 30 ls st S (am_w iv a 5 x) Q) : am_R E d mX0_clear k n 27 ls (.int x :: .ref a :: st) S iv Q := am_putI (ci := 0) dX0_clear_27 rfl rfl (by decide) wq_183 uq_0 tyX0_ok nmX0 (Or.inl rfl) rfl ha h
theorem sX0_clear_30 {a0 : Value} (hv : am_rf a0 = true) (h : am_R E d mX0_clear k n 31 [a0] (a0 :: st) S iv Q) : am_R E d mX0_clear k n 30 [a0] st S iv Q := am_aload_n dX0_clear_30 rfl rfl hv h
theorem sX0_clear_31 {a0 : Value} (h : am_R E d mX0_clear k n 32 [a0] (.int 0 :: st) S iv Q) : am_R E d mX0_clear k n 31 [a0] st S iv Q := am_iconst dX0_clear_31 (by decide) h
theorem sX0_clear_32 {ls : List Value} {a : Nat} {x : Int32} (ha : S.1 a = some (.inl 0)) (h : am_R E d mX0_clear k n 35 ls st S (am_w iv a 6 x) Q) : am_R E d mX0_clear k n 32 ls (.int x :: .ref a :: st) S iv Q := am_putI (ci := 0) dX0_clear_32 rfl rfl (by decide) wq_184 uq_0 tyX0_ok nmX0 (Or.inl rfl) rfl ha h
theorem sX0_clear_35 {a0 : Value} (hv : am_rf a0 = true) (h : am_R E d mX0_clear k n 36 [a0] (a0 :: st) S iv Q) : am_R E d mX0_clear k n 35 [a0] st S iv Q := am_aload_n dX0_clear_35 rfl rfl hv h
theorem sX0_clear_36 {ls : List Value} {a b : Nat} (ha : S.1 a = some (.inl 0)) (hb : S.2.1 a 7 = some b) (h : am_R E d mX0_clear k n 39 ls (.ref b :: st) S iv Q) : am_R E d mX0_clear k n 36 ls (.ref a :: st) S iv Q := am_getR (ci := 0) dX0_clear_36 rfl rfl (by decide) wq_165 uq_0 rfl ha hb h
theorem sX0_clear_39 {a0 : Value} (h : am_R E d mX0_clear k n 40 [a0] (.int 0 :: st) S iv Q) : am_R E d mX0_clear k n 39 [a0] st S iv Q := am_iconst dX0_clear_39 (by decide) h
theorem sX0_clear_40 {ls : List Value} {a : Nat} {x : Int32} (ha : S.1 a = some (.inl 2)) (h : am_R E d mX0_clear k n 43 ls st S (am_w iv a 0 x) Q) : am_R E d mX0_clear k n 40 ls (.int x :: .ref a :: st) S iv Q := am_putI (ci := 2) dX0_clear_40 rfl rfl (by decide) wq_185 uq_2 tyX2_ok nmX2 (Or.inl rfl) rfl ha h
theorem sX0_clear_43 {a0 : Value} (hv : am_rf a0 = true) (h : am_R E d mX0_clear k n 44 [a0] (a0 :: st) S iv Q) : am_R E d mX0_clear k n 43 [a0] st S iv Q := am_aload_n dX0_clear_43 rfl rfl hv h
theorem sX0_clear_44 {ls : List Value} {a b : Nat} (ha : S.1 a = some (.inl 0)) (hb : S.2.1 a 8 = some b) (h : am_R E d mX0_clear k n 47 ls (.ref b :: st) S iv Q) : am_R E d mX0_clear k n 44 ls (.ref a :: st) S iv Q := am_getR (ci := 0) dX0_clear_44 rfl rfl (by decide) wq_172 uq_0 rfl ha hb h
theorem sX0_clear_47 {a0 : Value} (h : am_R E d mX0_clear k n 48 [a0] (.int 0 :: st) S iv Q) : am_R E d mX0_clear k n 47 [a0] st S iv Q := am_iconst dX0_clear_47 (by decide) h
theorem sX0_clear_48 {ls : List Value} {a : Nat} {x : Int32} (ha : S.1 a = some (.inl 4)) (h : am_R E d mX0_clear k n 51 ls st S (am_w iv a 0 x) Q) : am_R E d mX0_clear k n 48 ls (.int x :: .ref a :: st) S iv Q := am_putI (ci := 4) dX0_clear_48 rfl rfl (by decide) wq_186 uq_4 tyX4_ok nmX4 (Or.inl rfl) rfl ha h
theorem sX0_clear_51 {a0 : Value} (hv : am_rf a0 = true) (h : am_R E d mX0_clear k n 52 [a0] (a0 :: st) S iv Q) : am_R E d mX0_clear k n 51 [a0] st S iv Q := am_aload_n dX0_clear_51 rfl rfl hv h
theorem sX0_clear_52 {ls : List Value} {a b : Nat} (ha : S.1 a = some (.inl 0)) (hb : S.2.1 a 9 = some b) (h : am_R E d mX0_clear k n 55 ls (.ref b :: st) S iv Q) : am_R E d mX0_clear k n 52 ls (.ref a :: st) S iv Q := am_getR (ci := 0) dX0_clear_52 rfl rfl (by decide) wq_178 uq_0 rfl ha hb h
theorem sX0_clear_55 {ls : List Value} {a : Nat} (ha : S.1 a = some (.inl 5)) (hst : (st.map fun v => v.category).sum ≤ 8) (hM : am_M E d mX5_clear 0 0 [.ref a] S iv (am_K3 E (d + 1) mX0_clear k n 55 ls st Q)) : am_R E (d + 1) mX0_clear k n 55 ls (.ref a :: st) S iv Q := am_cV (ci := 5) (M' := mX5_clear) (as := []) dX0_clear_55 rfl rfl rfl wq_189 wq_190 wq_191 wq_112 wq_187 hy_X5_clear (by decide) ha hst (by omega) (by omega) hM
theorem sX0_clear_55_k {ls : List Value} {k' n' : Nat} {a : Nat} (ha : S.1 a = some (.inl 5)) (hst : (st.map fun v => v.category).sum ≤ 8) (hM : am_M E d mX5_clear k' n' [.ref a] S iv (am_K3 E (d + 1) mX0_clear k n 55 ls st Q)) : am_R E (d + 1) mX0_clear (k' + k) (n' + n) 55 ls (.ref a :: st) S iv Q := am_cV (ci := 5) (M' := mX5_clear) (as := []) dX0_clear_55 rfl rfl rfl wq_189 wq_190 wq_191 wq_112 wq_187 hy_X5_clear (by decide) ha hst (by omega) (by omega) hM
theorem sX0_clear_58 {ls : List Value} (h : Q (.inl none) S iv) : am_R E d mX0_clear k n 58 ls [] S iv Q := am_return dX0_clear_58 rfl h
theorem dX0_settle_0 : decode cX0_settle 0 = .ok (.aload_n 0, 1) := by decide +kernel
theorem dX0_settle_1 : decode cX0_settle 1 = .ok (.getfield 24, 3) := by decide +kernel
theorem dX0_settle_4 : decode cX0_settle 4 = .ok (.aload_n 0, 1) := by decide +kernel
theorem dX0_settle_5 : decode cX0_settle 5 = .ok (.getfield 18, 3) := by decide +kernel
theorem dX0_settle_8 : decode cX0_settle 8 = .ok (.invokevirtual 68, 3) := by decide +kernel
theorem dX0_settle_11 : decode cX0_settle 11 = .ok (.aload_n 0, 1) := by decide +kernel
theorem dX0_settle_12 : decode cX0_settle 12 = .ok (.getfield 46, 3) := by decide +kernel
theorem dX0_settle_15 : decode cX0_settle 15 = .ok (.iconst 0, 1) := by decide +kernel
theorem dX0_settle_16 : decode cX0_settle 16 = .ok (.invokestatic 72, 3) := by decide +kernel
theorem dX0_settle_19 : decode cX0_settle 19 = .ok (.return_, 1) := by decide +kernel
theorem sX0_settle_0 {a0 : Value} (hv : am_rf a0 = true) (h : am_R E d mX0_settle k n 1 [a0] (a0 :: st) S iv Q) : am_R E d mX0_settle k n 0 [a0] st S iv Q := am_aload_n dX0_settle_0 rfl rfl hv h
theorem sX0_settle_1 {ls : List Value} {a b : Nat} (ha : S.1 a = some (.inl 0)) (hb : S.2.1 a 7 = some b) (h : am_R E d mX0_settle k n 4 ls (.ref b :: st) S iv Q) : am_R E d mX0_settle k n 1 ls (.ref a :: st) S iv Q := am_getR (ci := 0) dX0_settle_1 rfl rfl (by decide) wq_165 uq_0 rfl ha hb h
theorem sX0_settle_4 {a0 : Value} (hv : am_rf a0 = true) (h : am_R E d mX0_settle k n 5 [a0] (a0 :: st) S iv Q) : am_R E d mX0_settle k n 4 [a0] st S iv Q := am_aload_n dX0_settle_4 rfl rfl hv h
theorem sX0_settle_5 {ls : List Value} {a : Nat} (ha : S.1 a = some (.inl 0)) (h : am_R E d mX0_settle k n 8 ls (.int (iv a 2) :: st) S iv Q) : am_R E d mX0_settle k n 5 ls (.ref a :: st) S iv Q := am_getI (ci := 0) dX0_settle_5 rfl rfl (by decide) wq_159 uq_0 rfl ha h
theorem sX0_settle_8 {ls : List Value} {x1 : Value} {a : Nat} (ha : S.1 a = some (.inl 2)) (hst : (st.map fun v => v.category).sum ≤ 8) (hM : am_M E d mX2_compare 0 0 [.ref a, x1] S iv (am_K3 E (d + 1) mX0_settle k n 8 ls st Q)) : am_R E (d + 1) mX0_settle k n 8 ls (x1 :: .ref a :: st) S iv Q := am_cV (ci := 2) (M' := mX2_compare) (as := [x1]) dX0_settle_8 rfl rfl rfl wq_194 wq_195 wq_196 wq_81 wq_192 hy_X2_compare (by decide) ha hst (by omega) (by omega) hM
theorem sX0_settle_8_k {ls : List Value} {x1 : Value} {k' n' : Nat} {a : Nat} (ha : S.1 a = some (.inl 2)) (hst : (st.map fun v => v.category).sum ≤ 8) (hM : am_M E d mX2_compare k' n' [.ref a, x1] S iv (am_K3 E (d + 1) mX0_settle k n 8 ls st Q)) : am_R E (d + 1) mX0_settle (k' + k) (n' + n) 8 ls (x1 :: .ref a :: st) S iv Q := am_cV (ci := 2) (M' := mX2_compare) (as := [x1]) dX0_settle_8 rfl rfl rfl wq_194 wq_195 wq_196 wq_81 wq_192 hy_X2_compare (by decide) ha hst (by omega) (by omega) hM
theorem sX0_settle_11 {a0 : Value} (hv : am_rf a0 = true) (h : am_R E d mX0_settle k n 12 [a0] (a0 :: st) S iv Q) : am_R E d mX0_settle k n 11 [a0] st S iv Q := am_aload_n dX0_settle_11 rfl rfl hv h
theorem sX0_settle_12 {ls : List Value} {a b : Nat} (ha : S.1 a = some (.inl 0)) (hb : S.2.1 a 11 = some b) (h : am_R E d mX0_settle k n 15 ls (.ref b :: st) S iv Q) : am_R E d mX0_settle k n 12 ls (.ref a :: st) S iv Q := am_getR (ci := 0) dX0_settle_12 rfl rfl (by decide) wq_180 uq_0 rfl ha hb h
theorem sX0_settle_15 {a0 : Value} (h : am_R E d mX0_settle k n 16 [a0] (.int 0 :: st) S iv Q) : am_R E d mX0_settle k n 15 [a0] st S iv Q := am_iconst dX0_settle_15 (by decide) h
theorem sX0_settle_16 {ls : List Value} {x1 x2 : Value} (hst : (st.map fun v => v.category).sum ≤ 8) (hM : am_M E d mJ7_fill_53178 0 0 [x1, x2] S iv (am_K3 E (d + 1) mX0_settle k n 16 ls st Q)) : am_R E (d + 1) mX0_settle k n 16 ls (x2 :: x1 :: st) S iv Q := am_cS (M' := mJ7_fill_53178) (as := [x1, x2]) dX0_settle_16 rfl wq_197 wq_128 wq_125 wq_124 hy_J7_fill_53178 (by decide) hst (by omega) (by omega) hM
theorem sX0_settle_16_k {ls : List Value} {x1 x2 : Value} {k' n' : Nat} (hst : (st.map fun v => v.category).sum ≤ 8) (hM : am_M E d mJ7_fill_53178 k' n' [x1, x2] S iv (am_K3 E (d + 1) mX0_settle k n 16 ls st Q)) : am_R E (d + 1) mX0_settle (k' + k) (n' + n) 16 ls (x2 :: x1 :: st) S iv Q := am_cS (M' := mJ7_fill_53178) (as := [x1, x2]) dX0_settle_16 rfl wq_197 wq_128 wq_125 wq_124 hy_J7_fill_53178 (by decide) hst (by omega) (by omega) hM
theorem sX0_settle_19 {ls : List Value} (h : Q (.inl none) S iv) : am_R E d mX0_settle k n 19 ls [] S iv Q := am_return dX0_settle_19 rfl h
theorem dX0_copyFrom_0 : decode cX0_copyFrom 0 = .ok (.aload_n 0, 1) := by decide +kernel
theorem dX0_copyFrom_1 : decode cX0_copyFrom 1 = .ok (.aload_n 1, 1) := by decide +kernel
theorem dX0_copyFrom_2 : decode cX0_copyFrom 2 = .ok (.getfield 11, 3) := by decide +kernel
theorem dX0_copyFrom_5 : decode cX0_copyFrom 5 = .ok (.putfield 11, 3) := by decide +kernel
theorem dX0_copyFrom_8 : decode cX0_copyFrom 8 = .ok (.aload_n 0, 1) := by decide +kernel
theorem dX0_copyFrom_9 : decode cX0_copyFrom 9 = .ok (.aload_n 1, 1) := by decide +kernel
theorem dX0_copyFrom_10 : decode cX0_copyFrom 10 = .ok (.getfield 15, 3) := by decide +kernel
theorem dX0_copyFrom_13 : decode cX0_copyFrom 13 = .ok (.putfield 15, 3) := by decide +kernel
theorem dX0_copyFrom_16 : decode cX0_copyFrom 16 = .ok (.aload_n 0, 1) := by decide +kernel
theorem dX0_copyFrom_17 : decode cX0_copyFrom 17 = .ok (.aload_n 1, 1) := by decide +kernel
theorem dX0_copyFrom_18 : decode cX0_copyFrom 18 = .ok (.getfield 18, 3) := by decide +kernel
theorem dX0_copyFrom_21 : decode cX0_copyFrom 21 = .ok (.putfield 18, 3) := by decide +kernel
theorem dX0_copyFrom_24 : decode cX0_copyFrom 24 = .ok (.aload_n 0, 1) := by decide +kernel
theorem dX0_copyFrom_25 : decode cX0_copyFrom 25 = .ok (.getfield 24, 3) := by decide +kernel
theorem dX0_copyFrom_28 : decode cX0_copyFrom 28 = .ok (.aload_n 1, 1) := by decide +kernel
theorem dX0_copyFrom_29 : decode cX0_copyFrom 29 = .ok (.getfield 24, 3) := by decide +kernel
theorem dX0_copyFrom_32 : decode cX0_copyFrom 32 = .ok (.invokevirtual 78, 3) := by decide +kernel
theorem dX0_copyFrom_35 : decode cX0_copyFrom 35 = .ok (.aload_n 0, 1) := by decide +kernel
theorem dX0_copyFrom_36 : decode cX0_copyFrom 36 = .ok (.getfield 31, 3) := by decide +kernel
theorem dX0_copyFrom_39 : decode cX0_copyFrom 39 = .ok (.aload_n 1, 1) := by decide +kernel
theorem dX0_copyFrom_40 : decode cX0_copyFrom 40 = .ok (.getfield 31, 3) := by decide +kernel
theorem dX0_copyFrom_43 : decode cX0_copyFrom 43 = .ok (.invokevirtual 82, 3) := by decide +kernel
theorem dX0_copyFrom_46 : decode cX0_copyFrom 46 = .ok (.aload_n 0, 1) := by decide +kernel
theorem dX0_copyFrom_47 : decode cX0_copyFrom 47 = .ok (.getfield 38, 3) := by decide +kernel
theorem dX0_copyFrom_50 : decode cX0_copyFrom 50 = .ok (.aload_n 1, 1) := by decide +kernel
theorem dX0_copyFrom_51 : decode cX0_copyFrom 51 = .ok (.getfield 38, 3) := by decide +kernel
theorem dX0_copyFrom_54 : decode cX0_copyFrom 54 = .ok (.invokevirtual 85, 3) := by decide +kernel
theorem dX0_copyFrom_57 : decode cX0_copyFrom 57 = .ok (.return_, 1) := by decide +kernel
theorem sX0_copyFrom_0 {a0 a1 : Value} (hv : am_rf a0 = true) (h : am_R E d mX0_copyFrom k n 1 [a0, a1] (a0 :: st) S iv Q) : am_R E d mX0_copyFrom k n 0 [a0, a1] st S iv Q := am_aload_n dX0_copyFrom_0 rfl rfl hv h
theorem sX0_copyFrom_1 {a0 a1 : Value} (hv : am_rf a1 = true) (h : am_R E d mX0_copyFrom k n 2 [a0, a1] (a1 :: st) S iv Q) : am_R E d mX0_copyFrom k n 1 [a0, a1] st S iv Q := am_aload_n dX0_copyFrom_1 rfl rfl hv h
theorem sX0_copyFrom_2 {ls : List Value} {a : Nat} (ha : S.1 a = some (.inl 0)) (h : am_R E d mX0_copyFrom k n 5 ls (.int (iv a 0) :: st) S iv Q) : am_R E d mX0_copyFrom k n 2 ls (.ref a :: st) S iv Q := am_getI (ci := 0) dX0_copyFrom_2 rfl rfl (by decide) wq_157 uq_0 rfl ha h
theorem sX0_copyFrom_5 {ls : List Value} {a : Nat} {x : Int32} (ha : S.1 a = some (.inl 0)) (h : am_R E d mX0_copyFrom k n 8 ls st S (am_w iv a 0 x) Q) : am_R E d mX0_copyFrom k n 5 ls (.int x :: .ref a :: st) S iv Q := am_putI (ci := 0) dX0_copyFrom_5 rfl rfl (by decide) wq_157 uq_0 tyX0_ok nmX0 (Or.inl rfl) rfl ha h
theorem sX0_copyFrom_8 {a0 a1 : Value} (hv : am_rf a0 = true) (h : am_R E d mX0_copyFrom k n 9 [a0, a1] (a0 :: st) S iv Q) : am_R E d mX0_copyFrom k n 8 [a0, a1] st S iv Q := am_aload_n dX0_copyFrom_8 rfl rfl hv h
theorem sX0_copyFrom_9 {a0 a1 : Value} (hv : am_rf a1 = true) (h : am_R E d mX0_copyFrom k n 10 [a0, a1] (a1 :: st) S iv Q) : am_R E d mX0_copyFrom k n 9 [a0, a1] st S iv Q := am_aload_n dX0_copyFrom_9 rfl rfl hv h
theorem sX0_copyFrom_10 {ls : List Value} {a : Nat} (ha : S.1 a = some (.inl 0)) (h : am_R E d mX0_copyFrom k n 13 ls (.int (iv a 1) :: st) S iv Q) : am_R E d mX0_copyFrom k n 10 ls (.ref a :: st) S iv Q := am_getI (ci := 0) dX0_copyFrom_10 rfl rfl (by decide) wq_158 uq_0 rfl ha h
theorem sX0_copyFrom_13 {ls : List Value} {a : Nat} {x : Int32} (ha : S.1 a = some (.inl 0)) (h : am_R E d mX0_copyFrom k n 16 ls st S (am_w iv a 1 x) Q) : am_R E d mX0_copyFrom k n 13 ls (.int x :: .ref a :: st) S iv Q := am_putI (ci := 0) dX0_copyFrom_13 rfl rfl (by decide) wq_158 uq_0 tyX0_ok nmX0 (Or.inl rfl) rfl ha h
theorem sX0_copyFrom_16 {a0 a1 : Value} (hv : am_rf a0 = true) (h : am_R E d mX0_copyFrom k n 17 [a0, a1] (a0 :: st) S iv Q) : am_R E d mX0_copyFrom k n 16 [a0, a1] st S iv Q := am_aload_n dX0_copyFrom_16 rfl rfl hv h
theorem sX0_copyFrom_17 {a0 a1 : Value} (hv : am_rf a1 = true) (h : am_R E d mX0_copyFrom k n 18 [a0, a1] (a1 :: st) S iv Q) : am_R E d mX0_copyFrom k n 17 [a0, a1] st S iv Q := am_aload_n dX0_copyFrom_17 rfl rfl hv h
theorem sX0_copyFrom_18 {ls : List Value} {a : Nat} (ha : S.1 a = some (.inl 0)) (h : am_R E d mX0_copyFrom k n 21 ls (.int (iv a 2) :: st) S iv Q) : am_R E d mX0_copyFrom k n 18 ls (.ref a :: st) S iv Q := am_getI (ci := 0) dX0_copyFrom_18 rfl rfl (by decide) wq_159 uq_0 rfl ha h
theorem sX0_copyFrom_21 {ls : List Value} {a : Nat} {x : Int32} (ha : S.1 a = some (.inl 0)) (h : am_R E d mX0_copyFrom k n 24 ls st S (am_w iv a 2 x) Q) : am_R E d mX0_copyFrom k n 21 ls (.int x :: .ref a :: st) S iv Q := am_putI (ci := 0) dX0_copyFrom_21 rfl rfl (by decide) wq_159 uq_0 tyX0_ok nmX0 (Or.inl rfl) rfl ha h
theorem sX0_copyFrom_24 {a0 a1 : Value} (hv : am_rf a0 = true) (h : am_R E d mX0_copyFrom k n 25 [a0, a1] (a0 :: st) S iv Q) : am_R E d mX0_copyFrom k n 24 [a0, a1] st S iv Q := am_aload_n dX0_copyFrom_24 rfl rfl hv h
theorem sX0_copyFrom_25 {ls : List Value} {a b : Nat} (ha : S.1 a = some (.inl 0)) (hb : S.2.1 a 7 = some b) (h : am_R E d mX0_copyFrom k n 28 ls (.ref b :: st) S iv Q) : am_R E d mX0_copyFrom k n 25 ls (.ref a :: st) S iv Q := am_getR (ci := 0) dX0_copyFrom_25 rfl rfl (by decide) wq_165 uq_0 rfl ha hb h
theorem sX0_copyFrom_28 {a0 a1 : Value} (hv : am_rf a1 = true) (h : am_R E d mX0_copyFrom k n 29 [a0, a1] (a1 :: st) S iv Q) : am_R E d mX0_copyFrom k n 28 [a0, a1] st S iv Q := am_aload_n dX0_copyFrom_28 rfl rfl hv h
theorem sX0_copyFrom_29 {ls : List Value} {a b : Nat} (ha : S.1 a = some (.inl 0)) (hb : S.2.1 a 7 = some b) (h : am_R E d mX0_copyFrom k n 32 ls (.ref b :: st) S iv Q) : am_R E d mX0_copyFrom k n 29 ls (.ref a :: st) S iv Q := am_getR (ci := 0) dX0_copyFrom_29 rfl rfl (by decide) wq_165 uq_0 rfl ha hb h
theorem sX0_copyFrom_32 {ls : List Value} {x1 : Value} {a : Nat} (ha : S.1 a = some (.inl 2)) (hst : (st.map fun v => v.category).sum ≤ 8) (hM : am_M E d mX2_copyFrom 0 0 [.ref a, x1] S iv (am_K3 E (d + 1) mX0_copyFrom k n 32 ls st Q)) : am_R E (d + 1) mX0_copyFrom k n 32 ls (x1 :: .ref a :: st) S iv Q := am_cV (ci := 2) (M' := mX2_copyFrom) (as := [x1]) dX0_copyFrom_32 rfl rfl rfl wq_200 wq_201 wq_202 wq_81 wq_198 hy_X2_copyFrom (by decide) ha hst (by omega) (by omega) hM
theorem sX0_copyFrom_32_k {ls : List Value} {x1 : Value} {k' n' : Nat} {a : Nat} (ha : S.1 a = some (.inl 2)) (hst : (st.map fun v => v.category).sum ≤ 8) (hM : am_M E d mX2_copyFrom k' n' [.ref a, x1] S iv (am_K3 E (d + 1) mX0_copyFrom k n 32 ls st Q)) : am_R E (d + 1) mX0_copyFrom (k' + k) (n' + n) 32 ls (x1 :: .ref a :: st) S iv Q := am_cV (ci := 2) (M' := mX2_copyFrom) (as := [x1]) dX0_copyFrom_32 rfl rfl rfl wq_200 wq_201 wq_202 wq_81 wq_198 hy_X2_copyFrom (by decide) ha hst (by omega) (by omega) hM
theorem sX0_copyFrom_35 {a0 a1 : Value} (hv : am_rf a0 = true) (h : am_R E d mX0_copyFrom k n 36 [a0, a1] (a0 :: st) S iv Q) : am_R E d mX0_copyFrom k n 35 [a0, a1] st S iv Q := am_aload_n dX0_copyFrom_35 rfl rfl hv h
theorem sX0_copyFrom_36 {ls : List Value} {a b : Nat} (ha : S.1 a = some (.inl 0)) (hb : S.2.1 a 8 = some b) (h : am_R E d mX0_copyFrom k n 39 ls (.ref b :: st) S iv Q) : am_R E d mX0_copyFrom k n 36 ls (.ref a :: st) S iv Q := am_getR (ci := 0) dX0_copyFrom_36 rfl rfl (by decide) wq_172 uq_0 rfl ha hb h
theorem sX0_copyFrom_39 {a0 a1 : Value} (hv : am_rf a1 = true) (h : am_R E d mX0_copyFrom k n 40 [a0, a1] (a1 :: st) S iv Q) : am_R E d mX0_copyFrom k n 39 [a0, a1] st S iv Q := am_aload_n dX0_copyFrom_39 rfl rfl hv h
theorem sX0_copyFrom_40 {ls : List Value} {a b : Nat} (ha : S.1 a = some (.inl 0)) (hb : S.2.1 a 8 = some b) (h : am_R E d mX0_copyFrom k n 43 ls (.ref b :: st) S iv Q) : am_R E d mX0_copyFrom k n 40 ls (.ref a :: st) S iv Q := am_getR (ci := 0) dX0_copyFrom_40 rfl rfl (by decide) wq_172 uq_0 rfl ha hb h
theorem sX0_copyFrom_43 {ls : List Value} {x1 : Value} {a : Nat} (ha : S.1 a = some (.inl 4)) (hst : (st.map fun v => v.category).sum ≤ 8) (hM : am_M E d mX4_copyFrom 0 0 [.ref a, x1] S iv (am_K3 E (d + 1) mX0_copyFrom k n 43 ls st Q)) : am_R E (d + 1) mX0_copyFrom k n 43 ls (x1 :: .ref a :: st) S iv Q := am_cV (ci := 4) (M' := mX4_copyFrom) (as := [x1]) dX0_copyFrom_43 rfl rfl rfl wq_205 wq_206 wq_207 wq_168 wq_203 hy_X4_copyFrom (by decide) ha hst (by omega) (by omega) hM
theorem sX0_copyFrom_43_k {ls : List Value} {x1 : Value} {k' n' : Nat} {a : Nat} (ha : S.1 a = some (.inl 4)) (hst : (st.map fun v => v.category).sum ≤ 8) (hM : am_M E d mX4_copyFrom k' n' [.ref a, x1] S iv (am_K3 E (d + 1) mX0_copyFrom k n 43 ls st Q)) : am_R E (d + 1) mX0_copyFrom (k' + k) (n' + n) 43 ls (x1 :: .ref a :: st) S iv Q := am_cV (ci := 4) (M' := mX4_copyFrom) (as := [x1]) dX0_copyFrom_43 rfl rfl rfl wq_205 wq_206 wq_207 wq_168 wq_203 hy_X4_copyFrom (by decide) ha hst (by omega) (by omega) hM
theorem sX0_copyFrom_46 {a0 a1 : Value} (hv : am_rf a0 = true) (h : am_R E d mX0_copyFrom k n 47 [a0, a1] (a0 :: st) S iv Q) : am_R E d mX0_copyFrom k n 46 [a0, a1] st S iv Q := am_aload_n dX0_copyFrom_46 rfl rfl hv h
theorem sX0_copyFrom_47 {ls : List Value} {a b : Nat} (ha : S.1 a = some (.inl 0)) (hb : S.2.1 a 9 = some b) (h : am_R E d mX0_copyFrom k n 50 ls (.ref b :: st) S iv Q) : am_R E d mX0_copyFrom k n 47 ls (.ref a :: st) S iv Q := am_getR (ci := 0) dX0_copyFrom_47 rfl rfl (by decide) wq_178 uq_0 rfl ha hb h
theorem sX0_copyFrom_50 {a0 a1 : Value} (hv : am_rf a1 = true) (h : am_R E d mX0_copyFrom k n 51 [a0, a1] (a1 :: st) S iv Q) : am_R E d mX0_copyFrom k n 50 [a0, a1] st S iv Q := am_aload_n dX0_copyFrom_50 rfl rfl hv h
theorem sX0_copyFrom_51 {ls : List Value} {a b : Nat} (ha : S.1 a = some (.inl 0)) (hb : S.2.1 a 9 = some b) (h : am_R E d mX0_copyFrom k n 54 ls (.ref b :: st) S iv Q) : am_R E d mX0_copyFrom k n 51 ls (.ref a :: st) S iv Q := am_getR (ci := 0) dX0_copyFrom_51 rfl rfl (by decide) wq_178 uq_0 rfl ha hb h
theorem sX0_copyFrom_54 {ls : List Value} {x1 : Value} {a : Nat} (ha : S.1 a = some (.inl 5)) (hst : (st.map fun v => v.category).sum ≤ 8) (hM : am_M E d mX5_copyFrom 0 0 [.ref a, x1] S iv (am_K3 E (d + 1) mX0_copyFrom k n 54 ls st Q)) : am_R E (d + 1) mX0_copyFrom k n 54 ls (x1 :: .ref a :: st) S iv Q := am_cV (ci := 5) (M' := mX5_copyFrom) (as := [x1]) dX0_copyFrom_54 rfl rfl rfl wq_210 wq_211 wq_212 wq_112 wq_208 hy_X5_copyFrom (by decide) ha hst (by omega) (by omega) hM
theorem sX0_copyFrom_54_k {ls : List Value} {x1 : Value} {k' n' : Nat} {a : Nat} (ha : S.1 a = some (.inl 5)) (hst : (st.map fun v => v.category).sum ≤ 8) (hM : am_M E d mX5_copyFrom k' n' [.ref a, x1] S iv (am_K3 E (d + 1) mX0_copyFrom k n 54 ls st Q)) : am_R E (d + 1) mX0_copyFrom (k' + k) (n' + n) 54 ls (x1 :: .ref a :: st) S iv Q := am_cV (ci := 5) (M' := mX5_copyFrom) (as := [x1]) dX0_copyFrom_54 rfl rfl rfl wq_210 wq_211 wq_212 wq_112 wq_208 hy_X5_copyFrom (by decide) ha hst (by omega) (by omega) hM
theorem sX0_copyFrom_57 {ls : List Value} (h : Q (.inl none) S iv) : am_R E d mX0_copyFrom k n 57 ls [] S iv Q := am_return dX0_copyFrom_57 rfl h
theorem dX0_marry_0 : decode cX0_marry 0 = .ok (.aload_n 0, 1) := by decide +kernel
theorem dX0_marry_1 : decode cX0_marry 1 = .ok (.getfield 24, 3) := by decide +kernel
theorem dX0_marry_4 : decode cX0_marry 4 = .ok (.getfield 88, 3) := by decide +kernel
theorem dX0_marry_7 : decode cX0_marry 7 = .ok (.iload_n 1, 1) := by decide +kernel
theorem dX0_marry_8 : decode cX0_marry 8 = .ok (.aload_n 0, 1) := by decide +kernel
theorem dX0_marry_9 : decode cX0_marry 9 = .ok (.getfield 24, 3) := by decide +kernel
theorem dX0_marry_12 : decode cX0_marry 12 = .ok (.getfield 88, 3) := by decide +kernel
theorem dX0_marry_15 : decode cX0_marry 15 = .ok (.iload_n 1, 1) := by decide +kernel
theorem dX0_marry_16 : decode cX0_marry 16 = .ok (.iaload, 1) := by decide +kernel
theorem dX0_marry_17 : decode cX0_marry 17 = .ok (.aload_n 0, 1) := by decide +kernel
theorem dX0_marry_18 : decode cX0_marry 18 = .ok (.getfield 24, 3) := by decide +kernel
theorem dX0_marry_21 : decode cX0_marry 21 = .ok (.getfield 88, 3) := by decide +kernel
theorem dX0_marry_24 : decode cX0_marry 24 = .ok (.iload_n 2, 1) := by decide +kernel
theorem dX0_marry_25 : decode cX0_marry 25 = .ok (.iaload, 1) := by decide +kernel
theorem dX0_marry_26 : decode cX0_marry 26 = .ok (.invokestatic 91, 3) := by decide +kernel
theorem dX0_marry_29 : decode cX0_marry 29 = .ok (.iastore, 1) := by decide +kernel
theorem dX0_marry_30 : decode cX0_marry 30 = .ok (.aload_n 0, 1) := by decide +kernel
theorem dX0_marry_31 : decode cX0_marry 31 = .ok (.getfield 24, 3) := by decide +kernel
theorem dX0_marry_34 : decode cX0_marry 34 = .ok (.getfield 97, 3) := by decide +kernel
theorem dX0_marry_37 : decode cX0_marry 37 = .ok (.iload_n 1, 1) := by decide +kernel
theorem dX0_marry_38 : decode cX0_marry 38 = .ok (.aload_n 0, 1) := by decide +kernel
theorem dX0_marry_39 : decode cX0_marry 39 = .ok (.getfield 24, 3) := by decide +kernel
theorem dX0_marry_42 : decode cX0_marry 42 = .ok (.getfield 88, 3) := by decide +kernel
theorem dX0_marry_45 : decode cX0_marry 45 = .ok (.iload_n 1, 1) := by decide +kernel
theorem dX0_marry_46 : decode cX0_marry 46 = .ok (.iaload, 1) := by decide +kernel
theorem dX0_marry_47 : decode cX0_marry 47 = .ok (.iconst 1, 1) := by decide +kernel
theorem dX0_marry_48 : decode cX0_marry 48 = .ok (.iadd, 1) := by decide +kernel
theorem dX0_marry_49 : decode cX0_marry 49 = .ok (.iastore, 1) := by decide +kernel
theorem dX0_marry_50 : decode cX0_marry 50 = .ok (.aload_n 0, 1) := by decide +kernel
theorem dX0_marry_51 : decode cX0_marry 51 = .ok (.getfield 24, 3) := by decide +kernel
theorem dX0_marry_54 : decode cX0_marry 54 = .ok (.getfield 100, 3) := by decide +kernel
theorem dX0_marry_57 : decode cX0_marry 57 = .ok (.iload_n 1, 1) := by decide +kernel
theorem dX0_marry_58 : decode cX0_marry 58 = .ok (.aload_n 0, 1) := by decide +kernel
theorem dX0_marry_59 : decode cX0_marry 59 = .ok (.getfield 24, 3) := by decide +kernel
theorem dX0_marry_62 : decode cX0_marry 62 = .ok (.getfield 100, 3) := by decide +kernel
theorem dX0_marry_65 : decode cX0_marry 65 = .ok (.iload_n 1, 1) := by decide +kernel
theorem dX0_marry_66 : decode cX0_marry 66 = .ok (.iaload, 1) := by decide +kernel
theorem dX0_marry_67 : decode cX0_marry 67 = .ok (.aload_n 0, 1) := by decide +kernel
theorem dX0_marry_68 : decode cX0_marry 68 = .ok (.getfield 24, 3) := by decide +kernel
theorem dX0_marry_71 : decode cX0_marry 71 = .ok (.getfield 100, 3) := by decide +kernel
theorem dX0_marry_74 : decode cX0_marry 74 = .ok (.iload_n 2, 1) := by decide +kernel
theorem dX0_marry_75 : decode cX0_marry 75 = .ok (.iaload, 1) := by decide +kernel
theorem dX0_marry_76 : decode cX0_marry 76 = .ok (.invokestatic 103, 3) := by decide +kernel
theorem dX0_marry_79 : decode cX0_marry 79 = .ok (.iastore, 1) := by decide +kernel
theorem dX0_marry_80 : decode cX0_marry 80 = .ok (.iconst 0, 1) := by decide +kernel
theorem dX0_marry_81 : decode cX0_marry 81 = .ok (.istore_n 3, 1) := by decide +kernel
theorem dX0_marry_82 : decode cX0_marry 82 = .ok (.iload_n 3, 1) := by decide +kernel
theorem dX0_marry_83 : decode cX0_marry 83 = .ok (.aload_n 0, 1) := by decide +kernel
theorem dX0_marry_84 : decode cX0_marry 84 = .ok (.getfield 31, 3) := by decide +kernel
theorem dX0_marry_87 : decode cX0_marry 87 = .ok (.getfield 64, 3) := by decide +kernel
theorem dX0_marry_90 : decode cX0_marry 90 = .ok (.if_icmp .ge 44, 3) := by decide +kernel
theorem dX0_marry_93 : decode cX0_marry 93 = .ok (.aload_n 0, 1) := by decide +kernel
theorem dX0_marry_94 : decode cX0_marry 94 = .ok (.getfield 31, 3) := by decide +kernel
theorem dX0_marry_97 : decode cX0_marry 97 = .ok (.getfield 106, 3) := by decide +kernel
theorem dX0_marry_100 : decode cX0_marry 100 = .ok (.iload_n 3, 1) := by decide +kernel
theorem dX0_marry_101 : decode cX0_marry 101 = .ok (.aload_n 0, 1) := by decide +kernel
theorem dX0_marry_102 : decode cX0_marry 102 = .ok (.getfield 31, 3) := by decide +kernel
theorem dX0_marry_105 : decode cX0_marry 105 = .ok (.getfield 106, 3) := by decide +kernel
theorem dX0_marry_108 : decode cX0_marry 108 = .ok (.iload_n 3, 1) := by decide +kernel
theorem dX0_marry_109 : decode cX0_marry 109 = .ok (.iaload, 1) := by decide +kernel
theorem dX0_marry_110 : decode cX0_marry 110 = .ok (.iload_n 2, 1) := by decide +kernel
theorem dX0_marry_111 : decode cX0_marry 111 = .ok (.if_icmp .ne 7, 3) := by decide +kernel
theorem dX0_marry_114 : decode cX0_marry 114 = .ok (.iload_n 1, 1) := by decide +kernel
theorem dX0_marry_115 : decode cX0_marry 115 = .ok (.goto 12, 3) := by decide +kernel
theorem dX0_marry_118 : decode cX0_marry 118 = .ok (.aload_n 0, 1) := by decide +kernel
theorem dX0_marry_119 : decode cX0_marry 119 = .ok (.getfield 31, 3) := by decide +kernel
theorem dX0_marry_122 : decode cX0_marry 122 = .ok (.getfield 106, 3) := by decide +kernel
theorem dX0_marry_125 : decode cX0_marry 125 = .ok (.iload_n 3, 1) := by decide +kernel
theorem dX0_marry_126 : decode cX0_marry 126 = .ok (.iaload, 1) := by decide +kernel
theorem dX0_marry_127 : decode cX0_marry 127 = .ok (.iastore, 1) := by decide +kernel
theorem dX0_marry_128 : decode cX0_marry 128 = .ok (.iinc 3 1, 3) := by decide +kernel
theorem dX0_marry_131 : decode cX0_marry 131 = .ok (.goto (-49), 3) := by decide +kernel
theorem dX0_marry_134 : decode cX0_marry 134 = .ok (.aload_n 0, 1) := by decide +kernel
theorem dX0_marry_135 : decode cX0_marry 135 = .ok (.invokevirtual 109, 3) := by decide +kernel
theorem dX0_marry_138 : decode cX0_marry 138 = .ok (.return_, 1) := by decide +kernel
theorem sX0_marry_0 {a0 a1 a2 a3 : Value} (hv : am_rf a0 = true) (h : am_R E d mX0_marry k n 1 [a0, a1, a2, a3] (a0 :: st) S iv Q) : am_R E d mX0_marry k n 0 [a0, a1, a2, a3] st S iv Q := am_aload_n dX0_marry_0 rfl rfl hv h
theorem sX0_marry_1 {ls : List Value} {a b : Nat} (ha : S.1 a = some (.inl 0)) (hb : S.2.1 a 7 = some b) (h : am_R E d mX0_marry k n 4 ls (.ref b :: st) S iv Q) : am_R E d mX0_marry k n 1 ls (.ref a :: st) S iv Q := am_getR (ci := 0) dX0_marry_1 rfl rfl (by decide) wq_165 uq_0 rfl ha hb h
theorem sX0_marry_4 {ls : List Value} {a b : Nat} (ha : S.1 a = some (.inl 2)) (hb : S.2.1 a 2 = some b) (h : am_R E d mX0_marry k n 7 ls (.ref b :: st) S iv Q) : am_R E d mX0_marry k n 4 ls (.ref a :: st) S iv Q := am_getR (ci := 2) dX0_marry_4 rfl rfl (by decide) wq_213 uq_2 rfl ha hb h
theorem sX0_marry_7 {a0 a2 a3 : Value} {x : Int32} (h : am_R E d mX0_marry k n 8 [a0, .int x, a2, a3] (.int x :: st) S iv Q) : am_R E d mX0_marry k n 7 [a0, .int x, a2, a3] st S iv Q := am_iload_n dX0_marry_7 rfl rfl h
theorem sX0_marry_8 {a0 a1 a2 a3 : Value} (hv : am_rf a0 = true) (h : am_R E d mX0_marry k n 9 [a0, a1, a2, a3] (a0 :: st) S iv Q) : am_R E d mX0_marry k n 8 [a0, a1, a2, a3] st S iv Q := am_aload_n dX0_marry_8 rfl rfl hv h
theorem sX0_marry_9 {ls : List Value} {a b : Nat} (ha : S.1 a = some (.inl 0)) (hb : S.2.1 a 7 = some b) (h : am_R E d mX0_marry k n 12 ls (.ref b :: st) S iv Q) : am_R E d mX0_marry k n 9 ls (.ref a :: st) S iv Q := am_getR (ci := 0) dX0_marry_9 rfl rfl (by decide) wq_165 uq_0 rfl ha hb h
theorem sX0_marry_12 {ls : List Value} {a b : Nat} (ha : S.1 a = some (.inl 2)) (hb : S.2.1 a 2 = some b) (h : am_R E d mX0_marry k n 15 ls (.ref b :: st) S iv Q) : am_R E d mX0_marry k n 12 ls (.ref a :: st) S iv Q := am_getR (ci := 2) dX0_marry_12 rfl rfl (by decide) wq_213 uq_2 rfl ha hb h
theorem sX0_marry_15 {a0 a2 a3 : Value} {x : Int32} (h : am_R E d mX0_marry k n 16 [a0, .int x, a2, a3] (.int x :: st) S iv Q) : am_R E d mX0_marry k n 15 [a0, .int x, a2, a3] st S iv Q := am_iload_n dX0_marry_15 rfl rfl h
theorem sX0_marry_16 {ls : List Value} {a m : Nat} {i : Int32} (ha : S.1 a = some (.inr (.int, m))) (hi : vp_in i m) (h : am_R E d mX0_marry k n 17 ls (.int (iv a i.toNatClampNeg) :: st) S iv Q) : am_R E d mX0_marry k n 16 ls (.int i :: .ref a :: st) S iv Q := am_iaload dX0_marry_16 ha hi h
theorem sX0_marry_17 {a0 a1 a2 a3 : Value} (hv : am_rf a0 = true) (h : am_R E d mX0_marry k n 18 [a0, a1, a2, a3] (a0 :: st) S iv Q) : am_R E d mX0_marry k n 17 [a0, a1, a2, a3] st S iv Q := am_aload_n dX0_marry_17 rfl rfl hv h
theorem sX0_marry_18 {ls : List Value} {a b : Nat} (ha : S.1 a = some (.inl 0)) (hb : S.2.1 a 7 = some b) (h : am_R E d mX0_marry k n 21 ls (.ref b :: st) S iv Q) : am_R E d mX0_marry k n 18 ls (.ref a :: st) S iv Q := am_getR (ci := 0) dX0_marry_18 rfl rfl (by decide) wq_165 uq_0 rfl ha hb h
theorem sX0_marry_21 {ls : List Value} {a b : Nat} (ha : S.1 a = some (.inl 2)) (hb : S.2.1 a 2 = some b) (h : am_R E d mX0_marry k n 24 ls (.ref b :: st) S iv Q) : am_R E d mX0_marry k n 21 ls (.ref a :: st) S iv Q := am_getR (ci := 2) dX0_marry_21 rfl rfl (by decide) wq_213 uq_2 rfl ha hb h
theorem sX0_marry_24 {a0 a1 a3 : Value} {x : Int32} (h : am_R E d mX0_marry k n 25 [a0, a1, .int x, a3] (.int x :: st) S iv Q) : am_R E d mX0_marry k n 24 [a0, a1, .int x, a3] st S iv Q := am_iload_n dX0_marry_24 rfl rfl h
theorem sX0_marry_25 {ls : List Value} {a m : Nat} {i : Int32} (ha : S.1 a = some (.inr (.int, m))) (hi : vp_in i m) (h : am_R E d mX0_marry k n 26 ls (.int (iv a i.toNatClampNeg) :: st) S iv Q) : am_R E d mX0_marry k n 25 ls (.int i :: .ref a :: st) S iv Q := am_iaload dX0_marry_25 ha hi h
theorem sX0_marry_26 {ls : List Value} {x1 x2 : Value} (hst : (st.map fun v => v.category).sum ≤ 8) (hM : am_M E d mJ9_min_7cf53 0 0 [x1, x2] S iv (am_K3 E (d + 1) mX0_marry k n 26 ls st Q)) : am_R E (d + 1) mX0_marry k n 26 ls (x2 :: x1 :: st) S iv Q := am_cS (M' := mJ9_min_7cf53) (as := [x1, x2]) dX0_marry_26 rfl wq_214 wq_57 wq_50 wq_54 hy_J9_min_7cf53 (by decide) hst (by omega) (by omega) hM
theorem sX0_marry_26_k {ls : List Value} {x1 x2 : Value} {k' n' : Nat} (hst : (st.map fun v => v.category).sum ≤ 8) (hM : am_M E d mJ9_min_7cf53 k' n' [x1, x2] S iv (am_K3 E (d + 1) mX0_marry k n 26 ls st Q)) : am_R E (d + 1) mX0_marry (k' + k) (n' + n) 26 ls (x2 :: x1 :: st) S iv Q := am_cS (M' := mJ9_min_7cf53) (as := [x1, x2]) dX0_marry_26 rfl wq_214 wq_57 wq_50 wq_54 hy_J9_min_7cf53 (by decide) hst (by omega) (by omega) hM
theorem sX0_marry_29 {ls : List Value} {a m : Nat} {i x : Int32} (ha : S.1 a = some (.inr (.int, m))) (hi : vp_in i m) (h : am_R E d mX0_marry k n 30 ls st S (am_w iv a i.toNatClampNeg x) Q) : am_R E d mX0_marry k n 29 ls (.int x :: .int i :: .ref a :: st) S iv Q := am_iastore dX0_marry_29 ha hi h
theorem sX0_marry_30 {a0 a1 a2 a3 : Value} (hv : am_rf a0 = true) (h : am_R E d mX0_marry k n 31 [a0, a1, a2, a3] (a0 :: st) S iv Q) : am_R E d mX0_marry k n 30 [a0, a1, a2, a3] st S iv Q := am_aload_n dX0_marry_30 rfl rfl hv h
theorem sX0_marry_31 {ls : List Value} {a b : Nat} (ha : S.1 a = some (.inl 0)) (hb : S.2.1 a 7 = some b) (h : am_R E d mX0_marry k n 34 ls (.ref b :: st) S iv Q) : am_R E d mX0_marry k n 31 ls (.ref a :: st) S iv Q := am_getR (ci := 0) dX0_marry_31 rfl rfl (by decide) wq_165 uq_0 rfl ha hb h
theorem sX0_marry_34 {ls : List Value} {a b : Nat} (ha : S.1 a = some (.inl 2)) (hb : S.2.1 a 3 = some b) (h : am_R E d mX0_marry k n 37 ls (.ref b :: st) S iv Q) : am_R E d mX0_marry k n 34 ls (.ref a :: st) S iv Q := am_getR (ci := 2) dX0_marry_34 rfl rfl (by decide) wq_215 uq_2 rfl ha hb h
theorem sX0_marry_37 {a0 a2 a3 : Value} {x : Int32} (h : am_R E d mX0_marry k n 38 [a0, .int x, a2, a3] (.int x :: st) S iv Q) : am_R E d mX0_marry k n 37 [a0, .int x, a2, a3] st S iv Q := am_iload_n dX0_marry_37 rfl rfl h
theorem sX0_marry_38 {a0 a1 a2 a3 : Value} (hv : am_rf a0 = true) (h : am_R E d mX0_marry k n 39 [a0, a1, a2, a3] (a0 :: st) S iv Q) : am_R E d mX0_marry k n 38 [a0, a1, a2, a3] st S iv Q := am_aload_n dX0_marry_38 rfl rfl hv h
theorem sX0_marry_39 {ls : List Value} {a b : Nat} (ha : S.1 a = some (.inl 0)) (hb : S.2.1 a 7 = some b) (h : am_R E d mX0_marry k n 42 ls (.ref b :: st) S iv Q) : am_R E d mX0_marry k n 39 ls (.ref a :: st) S iv Q := am_getR (ci := 0) dX0_marry_39 rfl rfl (by decide) wq_165 uq_0 rfl ha hb h
theorem sX0_marry_42 {ls : List Value} {a b : Nat} (ha : S.1 a = some (.inl 2)) (hb : S.2.1 a 2 = some b) (h : am_R E d mX0_marry k n 45 ls (.ref b :: st) S iv Q) : am_R E d mX0_marry k n 42 ls (.ref a :: st) S iv Q := am_getR (ci := 2) dX0_marry_42 rfl rfl (by decide) wq_213 uq_2 rfl ha hb h
theorem sX0_marry_45 {a0 a2 a3 : Value} {x : Int32} (h : am_R E d mX0_marry k n 46 [a0, .int x, a2, a3] (.int x :: st) S iv Q) : am_R E d mX0_marry k n 45 [a0, .int x, a2, a3] st S iv Q := am_iload_n dX0_marry_45 rfl rfl h
theorem sX0_marry_46 {ls : List Value} {a m : Nat} {i : Int32} (ha : S.1 a = some (.inr (.int, m))) (hi : vp_in i m) (h : am_R E d mX0_marry k n 47 ls (.int (iv a i.toNatClampNeg) :: st) S iv Q) : am_R E d mX0_marry k n 46 ls (.int i :: .ref a :: st) S iv Q := am_iaload dX0_marry_46 ha hi h
theorem sX0_marry_47 {a0 a1 a2 a3 : Value} (h : am_R E d mX0_marry k n 48 [a0, a1, a2, a3] (.int 1 :: st) S iv Q) : am_R E d mX0_marry k n 47 [a0, a1, a2, a3] st S iv Q := am_iconst dX0_marry_47 (by decide) h
theorem sX0_marry_48 {ls : List Value} {x y : Int32} (h : am_R E d mX0_marry k n 49 ls (.int (x + y) :: st) S iv Q) : am_R E d mX0_marry k n 48 ls (.int y :: .int x :: st) S iv Q := am_iadd dX0_marry_48 h
theorem sX0_marry_49 {ls : List Value} {a m : Nat} {i x : Int32} (ha : S.1 a = some (.inr (.int, m))) (hi : vp_in i m) (h : am_R E d mX0_marry k n 50 ls st S (am_w iv a i.toNatClampNeg x) Q) : am_R E d mX0_marry k n 49 ls (.int x :: .int i :: .ref a :: st) S iv Q := am_iastore dX0_marry_49 ha hi h
theorem sX0_marry_50 {a0 a1 a2 a3 : Value} (hv : am_rf a0 = true) (h : am_R E d mX0_marry k n 51 [a0, a1, a2, a3] (a0 :: st) S iv Q) : am_R E d mX0_marry k n 50 [a0, a1, a2, a3] st S iv Q := am_aload_n dX0_marry_50 rfl rfl hv h
theorem sX0_marry_51 {ls : List Value} {a b : Nat} (ha : S.1 a = some (.inl 0)) (hb : S.2.1 a 7 = some b) (h : am_R E d mX0_marry k n 54 ls (.ref b :: st) S iv Q) : am_R E d mX0_marry k n 51 ls (.ref a :: st) S iv Q := am_getR (ci := 0) dX0_marry_51 rfl rfl (by decide) wq_165 uq_0 rfl ha hb h
theorem sX0_marry_54 {ls : List Value} {a b : Nat} (ha : S.1 a = some (.inl 2)) (hb : S.2.1 a 5 = some b) (h : am_R E d mX0_marry k n 57 ls (.ref b :: st) S iv Q) : am_R E d mX0_marry k n 54 ls (.ref a :: st) S iv Q := am_getR (ci := 2) dX0_marry_54 rfl rfl (by decide) wq_216 uq_2 rfl ha hb h
theorem sX0_marry_57 {a0 a2 a3 : Value} {x : Int32} (h : am_R E d mX0_marry k n 58 [a0, .int x, a2, a3] (.int x :: st) S iv Q) : am_R E d mX0_marry k n 57 [a0, .int x, a2, a3] st S iv Q := am_iload_n dX0_marry_57 rfl rfl h
theorem sX0_marry_58 {a0 a1 a2 a3 : Value} (hv : am_rf a0 = true) (h : am_R E d mX0_marry k n 59 [a0, a1, a2, a3] (a0 :: st) S iv Q) : am_R E d mX0_marry k n 58 [a0, a1, a2, a3] st S iv Q := am_aload_n dX0_marry_58 rfl rfl hv h
theorem sX0_marry_59 {ls : List Value} {a b : Nat} (ha : S.1 a = some (.inl 0)) (hb : S.2.1 a 7 = some b) (h : am_R E d mX0_marry k n 62 ls (.ref b :: st) S iv Q) : am_R E d mX0_marry k n 59 ls (.ref a :: st) S iv Q := am_getR (ci := 0) dX0_marry_59 rfl rfl (by decide) wq_165 uq_0 rfl ha hb h
theorem sX0_marry_62 {ls : List Value} {a b : Nat} (ha : S.1 a = some (.inl 2)) (hb : S.2.1 a 5 = some b) (h : am_R E d mX0_marry k n 65 ls (.ref b :: st) S iv Q) : am_R E d mX0_marry k n 62 ls (.ref a :: st) S iv Q := am_getR (ci := 2) dX0_marry_62 rfl rfl (by decide) wq_216 uq_2 rfl ha hb h
theorem sX0_marry_65 {a0 a2 a3 : Value} {x : Int32} (h : am_R E d mX0_marry k n 66 [a0, .int x, a2, a3] (.int x :: st) S iv Q) : am_R E d mX0_marry k n 65 [a0, .int x, a2, a3] st S iv Q := am_iload_n dX0_marry_65 rfl rfl h
theorem sX0_marry_66 {ls : List Value} {a m : Nat} {i : Int32} (ha : S.1 a = some (.inr (.int, m))) (hi : vp_in i m) (h : am_R E d mX0_marry k n 67 ls (.int (iv a i.toNatClampNeg) :: st) S iv Q) : am_R E d mX0_marry k n 66 ls (.int i :: .ref a :: st) S iv Q := am_iaload dX0_marry_66 ha hi h
theorem sX0_marry_67 {a0 a1 a2 a3 : Value} (hv : am_rf a0 = true) (h : am_R E d mX0_marry k n 68 [a0, a1, a2, a3] (a0 :: st) S iv Q) : am_R E d mX0_marry k n 67 [a0, a1, a2, a3] st S iv Q := am_aload_n dX0_marry_67 rfl rfl hv h
theorem sX0_marry_68 {ls : List Value} {a b : Nat} (ha : S.1 a = some (.inl 0)) (hb : S.2.1 a 7 = some b) (h : am_R E d mX0_marry k n 71 ls (.ref b :: st) S iv Q) : am_R E d mX0_marry k n 68 ls (.ref a :: st) S iv Q := am_getR (ci := 0) dX0_marry_68 rfl rfl (by decide) wq_165 uq_0 rfl ha hb h
theorem sX0_marry_71 {ls : List Value} {a b : Nat} (ha : S.1 a = some (.inl 2)) (hb : S.2.1 a 5 = some b) (h : am_R E d mX0_marry k n 74 ls (.ref b :: st) S iv Q) : am_R E d mX0_marry k n 71 ls (.ref a :: st) S iv Q := am_getR (ci := 2) dX0_marry_71 rfl rfl (by decide) wq_216 uq_2 rfl ha hb h
theorem sX0_marry_74 {a0 a1 a3 : Value} {x : Int32} (h : am_R E d mX0_marry k n 75 [a0, a1, .int x, a3] (.int x :: st) S iv Q) : am_R E d mX0_marry k n 74 [a0, a1, .int x, a3] st S iv Q := am_iload_n dX0_marry_74 rfl rfl h
theorem sX0_marry_75 {ls : List Value} {a m : Nat} {i : Int32} (ha : S.1 a = some (.inr (.int, m))) (hi : vp_in i m) (h : am_R E d mX0_marry k n 76 ls (.int (iv a i.toNatClampNeg) :: st) S iv Q) : am_R E d mX0_marry k n 75 ls (.int i :: .ref a :: st) S iv Q := am_iaload dX0_marry_75 ha hi h
theorem sX0_marry_76 {ls : List Value} {x1 x2 : Value} (hst : (st.map fun v => v.category).sum ≤ 8) (hM : am_M E d mJ9_max_7cf53 0 0 [x1, x2] S iv (am_K3 E (d + 1) mX0_marry k n 76 ls st Q)) : am_R E (d + 1) mX0_marry k n 76 ls (x2 :: x1 :: st) S iv Q := am_cS (M' := mJ9_max_7cf53) (as := [x1, x2]) dX0_marry_76 rfl wq_217 wq_53 wq_50 wq_49 hy_J9_max_7cf53 (by decide) hst (by omega) (by omega) hM
theorem sX0_marry_76_k {ls : List Value} {x1 x2 : Value} {k' n' : Nat} (hst : (st.map fun v => v.category).sum ≤ 8) (hM : am_M E d mJ9_max_7cf53 k' n' [x1, x2] S iv (am_K3 E (d + 1) mX0_marry k n 76 ls st Q)) : am_R E (d + 1) mX0_marry (k' + k) (n' + n) 76 ls (x2 :: x1 :: st) S iv Q := am_cS (M' := mJ9_max_7cf53) (as := [x1, x2]) dX0_marry_76 rfl wq_217 wq_53 wq_50 wq_49 hy_J9_max_7cf53 (by decide) hst (by omega) (by omega) hM
theorem sX0_marry_79 {ls : List Value} {a m : Nat} {i x : Int32} (ha : S.1 a = some (.inr (.int, m))) (hi : vp_in i m) (h : am_R E d mX0_marry k n 80 ls st S (am_w iv a i.toNatClampNeg x) Q) : am_R E d mX0_marry k n 79 ls (.int x :: .int i :: .ref a :: st) S iv Q := am_iastore dX0_marry_79 ha hi h
theorem sX0_marry_80 {a0 a1 a2 a3 : Value} (h : am_R E d mX0_marry k n 81 [a0, a1, a2, a3] (.int 0 :: st) S iv Q) : am_R E d mX0_marry k n 80 [a0, a1, a2, a3] st S iv Q := am_iconst dX0_marry_80 (by decide) h
theorem sX0_marry_81 {a0 a1 a2 a3 : Value} {x : Int32} (h : am_R E d mX0_marry k n 82 [a0, a1, a2, .int x] st S iv Q) : am_R E d mX0_marry k n 81 [a0, a1, a2, a3] (.int x :: st) S iv Q := am_istore_n dX0_marry_81 rfl (by decide) h
theorem sX0_marry_82 {a0 a1 a2 : Value} {x : Int32} (h : am_R E d mX0_marry k n 83 [a0, a1, a2, .int x] (.int x :: st) S iv Q) : am_R E d mX0_marry k n 82 [a0, a1, a2, .int x] st S iv Q := am_iload_n dX0_marry_82 rfl rfl h
theorem sX0_marry_83 {a0 a1 a2 a3 : Value} (hv : am_rf a0 = true) (h : am_R E d mX0_marry k n 84 [a0, a1, a2, a3] (a0 :: st) S iv Q) : am_R E d mX0_marry k n 83 [a0, a1, a2, a3] st S iv Q := am_aload_n dX0_marry_83 rfl rfl hv h
theorem sX0_marry_84 {ls : List Value} {a b : Nat} (ha : S.1 a = some (.inl 0)) (hb : S.2.1 a 8 = some b) (h : am_R E d mX0_marry k n 87 ls (.ref b :: st) S iv Q) : am_R E d mX0_marry k n 84 ls (.ref a :: st) S iv Q := am_getR (ci := 0) dX0_marry_84 rfl rfl (by decide) wq_172 uq_0 rfl ha hb h
theorem sX0_marry_87 {ls : List Value} {a : Nat} (ha : S.1 a = some (.inl 4)) (h : am_R E d mX0_marry k n 90 ls (.int (iv a 0) :: st) S iv Q) : am_R E d mX0_marry k n 87 ls (.ref a :: st) S iv Q := am_getI (ci := 4) dX0_marry_87 rfl rfl (by decide) wq_186 uq_4 rfl ha h
theorem sX0_marry_90 {ls : List Value} {x y : Int32} (kt : y ≤ x → am_R E d mX0_marry k n 134 ls st S iv Q) (kf : ¬ y ≤ x → am_R E d mX0_marry k n 93 ls st S iv Q) : am_R E d mX0_marry k n 90 ls (.int y :: .int x :: st) S iv Q := am_icmp_ge dX0_marry_90 (by decide) kt kf
theorem sX0_marry_93 {a0 a1 a2 a3 : Value} (hv : am_rf a0 = true) (h : am_R E d mX0_marry k n 94 [a0, a1, a2, a3] (a0 :: st) S iv Q) : am_R E d mX0_marry k n 93 [a0, a1, a2, a3] st S iv Q := am_aload_n dX0_marry_93 rfl rfl hv h
theorem sX0_marry_94 {ls : List Value} {a b : Nat} (ha : S.1 a = some (.inl 0)) (hb : S.2.1 a 8 = some b) (h : am_R E d mX0_marry k n 97 ls (.ref b :: st) S iv Q) : am_R E d mX0_marry k n 94 ls (.ref a :: st) S iv Q := am_getR (ci := 0) dX0_marry_94 rfl rfl (by decide) wq_172 uq_0 rfl ha hb h
theorem sX0_marry_97 {ls : List Value} {a b : Nat} (ha : S.1 a = some (.inl 4)) (hb : S.2.1 a 1 = some b) (h : am_R E d mX0_marry k n 100 ls (.ref b :: st) S iv Q) : am_R E d mX0_marry k n 97 ls (.ref a :: st) S iv Q := am_getR (ci := 4) dX0_marry_97 rfl rfl (by decide) wq_218 uq_4 rfl ha hb h
theorem sX0_marry_100 {a0 a1 a2 : Value} {x : Int32} (h : am_R E d mX0_marry k n 101 [a0, a1, a2, .int x] (.int x :: st) S iv Q) : am_R E d mX0_marry k n 100 [a0, a1, a2, .int x] st S iv Q := am_iload_n dX0_marry_100 rfl rfl h
theorem sX0_marry_101 {a0 a1 a2 a3 : Value} (hv : am_rf a0 = true) (h : am_R E d mX0_marry k n 102 [a0, a1, a2, a3] (a0 :: st) S iv Q) : am_R E d mX0_marry k n 101 [a0, a1, a2, a3] st S iv Q := am_aload_n dX0_marry_101 rfl rfl hv h
theorem sX0_marry_102 {ls : List Value} {a b : Nat} (ha : S.1 a = some (.inl 0)) (hb : S.2.1 a 8 = some b) (h : am_R E d mX0_marry k n 105 ls (.ref b :: st) S iv Q) : am_R E d mX0_marry k n 102 ls (.ref a :: st) S iv Q := am_getR (ci := 0) dX0_marry_102 rfl rfl (by decide) wq_172 uq_0 rfl ha hb h
theorem sX0_marry_105 {ls : List Value} {a b : Nat} (ha : S.1 a = some (.inl 4)) (hb : S.2.1 a 1 = some b) (h : am_R E d mX0_marry k n 108 ls (.ref b :: st) S iv Q) : am_R E d mX0_marry k n 105 ls (.ref a :: st) S iv Q := am_getR (ci := 4) dX0_marry_105 rfl rfl (by decide) wq_218 uq_4 rfl ha hb h
theorem sX0_marry_108 {a0 a1 a2 : Value} {x : Int32} (h : am_R E d mX0_marry k n 109 [a0, a1, a2, .int x] (.int x :: st) S iv Q) : am_R E d mX0_marry k n 108 [a0, a1, a2, .int x] st S iv Q := am_iload_n dX0_marry_108 rfl rfl h
theorem sX0_marry_109 {ls : List Value} {a m : Nat} {i : Int32} (ha : S.1 a = some (.inr (.int, m))) (hi : vp_in i m) (h : am_R E d mX0_marry k n 110 ls (.int (iv a i.toNatClampNeg) :: st) S iv Q) : am_R E d mX0_marry k n 109 ls (.int i :: .ref a :: st) S iv Q := am_iaload dX0_marry_109 ha hi h
theorem sX0_marry_110 {a0 a1 a3 : Value} {x : Int32} (h : am_R E d mX0_marry k n 111 [a0, a1, .int x, a3] (.int x :: st) S iv Q) : am_R E d mX0_marry k n 110 [a0, a1, .int x, a3] st S iv Q := am_iload_n dX0_marry_110 rfl rfl h
theorem sX0_marry_111 {ls : List Value} {x y : Int32} (kt : ¬ x = y → am_R E d mX0_marry k n 118 ls st S iv Q) (kf : x = y → am_R E d mX0_marry k n 114 ls st S iv Q) : am_R E d mX0_marry k n 111 ls (.int y :: .int x :: st) S iv Q := am_icmp_ne dX0_marry_111 (by decide) kt kf
theorem sX0_marry_114 {a0 a2 a3 : Value} {x : Int32} (h : am_R E d mX0_marry k n 115 [a0, .int x, a2, a3] (.int x :: st) S iv Q) : am_R E d mX0_marry k n 114 [a0, .int x, a2, a3] st S iv Q := am_iload_n dX0_marry_114 rfl rfl h
theorem sX0_marry_115 {ls : List Value} (h : am_R E d mX0_marry k n 127 ls st S iv Q) : am_R E d mX0_marry k n 115 ls st S iv Q := am_goto dX0_marry_115 (by decide) h
theorem sX0_marry_118 {a0 a1 a2 a3 : Value} (hv : am_rf a0 = true) (h : am_R E d mX0_marry k n 119 [a0, a1, a2, a3] (a0 :: st) S iv Q) : am_R E d mX0_marry k n 118 [a0, a1, a2, a3] st S iv Q := am_aload_n dX0_marry_118 rfl rfl hv h
theorem sX0_marry_119 {ls : List Value} {a b : Nat} (ha : S.1 a = some (.inl 0)) (hb : S.2.1 a 8 = some b) (h : am_R E d mX0_marry k n 122 ls (.ref b :: st) S iv Q) : am_R E d mX0_marry k n 119 ls (.ref a :: st) S iv Q := am_getR (ci := 0) dX0_marry_119 rfl rfl (by decide) wq_172 uq_0 rfl ha hb h
theorem sX0_marry_122 {ls : List Value} {a b : Nat} (ha : S.1 a = some (.inl 4)) (hb : S.2.1 a 1 = some b) (h : am_R E d mX0_marry k n 125 ls (.ref b :: st) S iv Q) : am_R E d mX0_marry k n 122 ls (.ref a :: st) S iv Q := am_getR (ci := 4) dX0_marry_122 rfl rfl (by decide) wq_218 uq_4 rfl ha hb h
theorem sX0_marry_125 {a0 a1 a2 : Value} {x : Int32} (h : am_R E d mX0_marry k n 126 [a0, a1, a2, .int x] (.int x :: st) S iv Q) : am_R E d mX0_marry k n 125 [a0, a1, a2, .int x] st S iv Q := am_iload_n dX0_marry_125 rfl rfl h
theorem sX0_marry_126 {ls : List Value} {a m : Nat} {i : Int32} (ha : S.1 a = some (.inr (.int, m))) (hi : vp_in i m) (h : am_R E d mX0_marry k n 127 ls (.int (iv a i.toNatClampNeg) :: st) S iv Q) : am_R E d mX0_marry k n 126 ls (.int i :: .ref a :: st) S iv Q := am_iaload dX0_marry_126 ha hi h
theorem sX0_marry_127 {ls : List Value} {a m : Nat} {i x : Int32} (ha : S.1 a = some (.inr (.int, m))) (hi : vp_in i m) (h : am_R E d mX0_marry k n 128 ls st S (am_w iv a i.toNatClampNeg x) Q) : am_R E d mX0_marry k n 127 ls (.int x :: .int i :: .ref a :: st) S iv Q := am_iastore dX0_marry_127 ha hi h
theorem sX0_marry_128 {a0 a1 a2 : Value} {x : Int32} (h : am_R E d mX0_marry k n 131 [a0, a1, a2, .int (x + 1)] st S iv Q) : am_R E d mX0_marry k n 128 [a0, a1, a2, .int x] st S iv Q := am_iinc dX0_marry_128 rfl rfl (by decide) h
theorem sX0_marry_131 {ls : List Value} (h : am_R E d mX0_marry k n 82 ls st S iv Q) : am_R E d mX0_marry k n 131 ls st S iv Q := am_goto dX0_marry_131 (by decide) h
theorem sX0_marry_134 {a0 a1 a2 a3 : Value} (hv : am_rf a0 = true) (h : am_R E d mX0_marry k n 135 [a0, a1, a2, a3] (a0 :: st) S iv Q) : am_R E d mX0_marry k n 134 [a0, a1, a2, a3] st S iv Q := am_aload_n dX0_marry_134 rfl rfl hv h
theorem sX0_marry_135 {ls : List Value} {a : Nat} (ha : S.1 a = some (.inl 0)) (hst : (st.map fun v => v.category).sum ≤ 8) (hM : am_M E d mX0_settle 0 0 [.ref a] S iv (am_K3 E (d + 1) mX0_marry k n 135 ls st Q)) : am_R E (d + 1) mX0_marry k n 135 ls (.ref a :: st) S iv Q := am_cV (ci := 0) (M' := mX0_settle) (as := []) dX0_marry_135 rfl rfl rfl wq_222 wq_223 wq_224 wq_220 wq_219 hy_X0_settle (by decide) ha hst (by omega) (by omega) hM
theorem sX0_marry_135_k {ls : List Value} {k' n' : Nat} {a : Nat} (ha : S.1 a = some (.inl 0)) (hst : (st.map fun v => v.category).sum ≤ 8) (hM : am_M E d mX0_settle k' n' [.ref a] S iv (am_K3 E (d + 1) mX0_marry k n 135 ls st Q)) : am_R E (d + 1) mX0_marry (k' + k) (n' + n) 135 ls (.ref a :: st) S iv Q := am_cV (ci := 0) (M' := mX0_settle) (as := []) dX0_marry_135 rfl rfl rfl wq_222 wq_223 wq_224 wq_220 wq_219 hy_X0_settle (by decide) ha hst (by omega) (by omega) hM
theorem sX0_marry_138 {ls : List Value} (h : Q (.inl none) S iv) : am_R E d mX0_marry k n 138 ls [] S iv Q := am_return dX0_marry_138 rfl h
theorem dX0_rentOf_0 : decode cX0_rentOf 0 = .ok (.aload_n 0, 1) := by decide +kernel
theorem dX0_rentOf_1 : decode cX0_rentOf 1 = .ok (.getfield 24, 3) := by decide +kernel
theorem dX0_rentOf_4 : decode cX0_rentOf 4 = .ok (.getfield 112, 3) := by decide +kernel
theorem dX0_rentOf_7 : decode cX0_rentOf 7 = .ok (.iload_n 1, 1) := by decide +kernel
theorem dX0_rentOf_8 : decode cX0_rentOf 8 = .ok (.iaload, 1) := by decide +kernel
theorem dX0_rentOf_9 : decode cX0_rentOf 9 = .ok (.iconst 2, 1) := by decide +kernel
theorem dX0_rentOf_10 : decode cX0_rentOf 10 = .ok (.if_icmp .ne 5, 3) := by decide +kernel
theorem dX0_rentOf_13 : decode cX0_rentOf 13 = .ok (.iconst 0, 1) := by decide +kernel
theorem dX0_rentOf_14 : decode cX0_rentOf 14 = .ok (.ireturn, 1) := by decide +kernel
theorem dX0_rentOf_15 : decode cX0_rentOf 15 = .ok (.aload_n 0, 1) := by decide +kernel
theorem dX0_rentOf_16 : decode cX0_rentOf 16 = .ok (.getfield 49, 3) := by decide +kernel
theorem dX0_rentOf_19 : decode cX0_rentOf 19 = .ok (.aload_n 0, 1) := by decide +kernel
theorem dX0_rentOf_20 : decode cX0_rentOf 20 = .ok (.getfield 52, 3) := by decide +kernel
theorem dX0_rentOf_23 : decode cX0_rentOf 23 = .ok (.aload_n 0, 1) := by decide +kernel
theorem dX0_rentOf_24 : decode cX0_rentOf 24 = .ok (.getfield 24, 3) := by decide +kernel
theorem dX0_rentOf_27 : decode cX0_rentOf 27 = .ok (.getfield 115, 3) := by decide +kernel
theorem dX0_rentOf_30 : decode cX0_rentOf 30 = .ok (.iload_n 1, 1) := by decide +kernel
theorem dX0_rentOf_31 : decode cX0_rentOf 31 = .ok (.iaload, 1) := by decide +kernel
theorem dX0_rentOf_32 : decode cX0_rentOf 32 = .ok (.imul, 1) := by decide +kernel
theorem dX0_rentOf_33 : decode cX0_rentOf 33 = .ok (.iadd, 1) := by decide +kernel
theorem dX0_rentOf_34 : decode cX0_rentOf 34 = .ok (.aload_n 0, 1) := by decide +kernel
theorem dX0_rentOf_35 : decode cX0_rentOf 35 = .ok (.getfield 55, 3) := by decide +kernel
theorem dX0_rentOf_38 : decode cX0_rentOf 38 = .ok (.aload_n 0, 1) := by decide +kernel
theorem dX0_rentOf_39 : decode cX0_rentOf 39 = .ok (.getfield 24, 3) := by decide +kernel
theorem dX0_rentOf_42 : decode cX0_rentOf 42 = .ok (.getfield 100, 3) := by decide +kernel
theorem dX0_rentOf_45 : decode cX0_rentOf 45 = .ok (.iload_n 1, 1) := by decide +kernel
theorem dX0_rentOf_46 : decode cX0_rentOf 46 = .ok (.iaload, 1) := by decide +kernel
theorem dX0_rentOf_47 : decode cX0_rentOf 47 = .ok (.imul, 1) := by decide +kernel
theorem dX0_rentOf_48 : decode cX0_rentOf 48 = .ok (.iadd, 1) := by decide +kernel
theorem dX0_rentOf_49 : decode cX0_rentOf 49 = .ok (.istore_n 2, 1) := by decide +kernel
theorem dX0_rentOf_50 : decode cX0_rentOf 50 = .ok (.aload_n 0, 1) := by decide +kernel
theorem dX0_rentOf_51 : decode cX0_rentOf 51 = .ok (.getfield 24, 3) := by decide +kernel
theorem dX0_rentOf_54 : decode cX0_rentOf 54 = .ok (.iload_n 1, 1) := by decide +kernel
theorem dX0_rentOf_55 : decode cX0_rentOf 55 = .ok (.invokevirtual 118, 3) := by decide +kernel
theorem dX0_rentOf_58 : decode cX0_rentOf 58 = .ok (.ifCond .eq 9, 3) := by decide +kernel
theorem dX0_rentOf_61 : decode cX0_rentOf 61 = .ok (.iconst 2, 1) := by decide +kernel
theorem dX0_rentOf_62 : decode cX0_rentOf 62 = .ok (.iload_n 2, 1) := by decide +kernel
theorem dX0_rentOf_63 : decode cX0_rentOf 63 = .ok (.imul, 1) := by decide +kernel
theorem dX0_rentOf_64 : decode cX0_rentOf 64 = .ok (.goto 4, 3) := by decide +kernel
theorem dX0_rentOf_67 : decode cX0_rentOf 67 = .ok (.iload_n 2, 1) := by decide +kernel
theorem dX0_rentOf_68 : decode cX0_rentOf 68 = .ok (.ireturn, 1) := by decide +kernel
theorem sX0_rentOf_0 {a0 a1 a2 : Value} (hv : am_rf a0 = true) (h : am_R E d mX0_rentOf k n 1 [a0, a1, a2] (a0 :: st) S iv Q) : am_R E d mX0_rentOf k n 0 [a0, a1, a2] st S iv Q := am_aload_n dX0_rentOf_0 rfl rfl hv h
theorem sX0_rentOf_1 {ls : List Value} {a b : Nat} (ha : S.1 a = some (.inl 0)) (hb : S.2.1 a 7 = some b) (h : am_R E d mX0_rentOf k n 4 ls (.ref b :: st) S iv Q) : am_R E d mX0_rentOf k n 1 ls (.ref a :: st) S iv Q := am_getR (ci := 0) dX0_rentOf_1 rfl rfl (by decide) wq_165 uq_0 rfl ha hb h
theorem sX0_rentOf_4 {ls : List Value} {a b : Nat} (ha : S.1 a = some (.inl 2)) (hb : S.2.1 a 1 = some b) (h : am_R E d mX0_rentOf k n 7 ls (.ref b :: st) S iv Q) : am_R E d mX0_rentOf k n 4 ls (.ref a :: st) S iv Q := am_getR (ci := 2) dX0_rentOf_4 rfl rfl (by decide) wq_225 uq_2 rfl ha hb h
theorem sX0_rentOf_7 {a0 a2 : Value} {x : Int32} (h : am_R E d mX0_rentOf k n 8 [a0, .int x, a2] (.int x :: st) S iv Q) : am_R E d mX0_rentOf k n 7 [a0, .int x, a2] st S iv Q := am_iload_n dX0_rentOf_7 rfl rfl h
theorem sX0_rentOf_8 {ls : List Value} {a m : Nat} {i : Int32} (ha : S.1 a = some (.inr (.int, m))) (hi : vp_in i m) (h : am_R E d mX0_rentOf k n 9 ls (.int (iv a i.toNatClampNeg) :: st) S iv Q) : am_R E d mX0_rentOf k n 8 ls (.int i :: .ref a :: st) S iv Q := am_iaload dX0_rentOf_8 ha hi h
theorem sX0_rentOf_9 {a0 a1 a2 : Value} (h : am_R E d mX0_rentOf k n 10 [a0, a1, a2] (.int 2 :: st) S iv Q) : am_R E d mX0_rentOf k n 9 [a0, a1, a2] st S iv Q := am_iconst dX0_rentOf_9 (by decide) h
theorem sX0_rentOf_10 {ls : List Value} {x y : Int32} (kt : ¬ x = y → am_R E d mX0_rentOf k n 15 ls st S iv Q) (kf : x = y → am_R E d mX0_rentOf k n 13 ls st S iv Q) : am_R E d mX0_rentOf k n 10 ls (.int y :: .int x :: st) S iv Q := am_icmp_ne dX0_rentOf_10 (by decide) kt kf
theorem sX0_rentOf_13 {a0 a1 a2 : Value} (h : am_R E d mX0_rentOf k n 14 [a0, a1, a2] (.int 0 :: st) S iv Q) : am_R E d mX0_rentOf k n 13 [a0, a1, a2] st S iv Q := am_iconst dX0_rentOf_13 (by decide) h
theorem sX0_rentOf_14 {ls : List Value} {x : Int32} (h : Q (.inl (some (.int x))) S iv) : am_R E d mX0_rentOf k n 14 ls [.int x] S iv Q := am_ireturn dX0_rentOf_14 rfl h
theorem sX0_rentOf_15 {a0 a1 a2 : Value} (hv : am_rf a0 = true) (h : am_R E d mX0_rentOf k n 16 [a0, a1, a2] (a0 :: st) S iv Q) : am_R E d mX0_rentOf k n 15 [a0, a1, a2] st S iv Q := am_aload_n dX0_rentOf_15 rfl rfl hv h
theorem sX0_rentOf_16 {ls : List Value} {a : Nat} (ha : S.1 a = some (.inl 0)) (h : am_R E d mX0_rentOf k n 19 ls (.int (iv a 3) :: st) S iv Q) : am_R E d mX0_rentOf k n 16 ls (.ref a :: st) S iv Q := am_getI (ci := 0) dX0_rentOf_16 rfl rfl (by decide) wq_181 uq_0 rfl ha h
theorem sX0_rentOf_19 {a0 a1 a2 : Value} (hv : am_rf a0 = true) (h : am_R E d mX0_rentOf k n 20 [a0, a1, a2] (a0 :: st) S iv Q) : am_R E d mX0_rentOf k n 19 [a0, a1, a2] st S iv Q := am_aload_n dX0_rentOf_19 rfl rfl hv h
theorem sX0_rentOf_20 {ls : List Value} {a : Nat} (ha : S.1 a = some (.inl 0)) (h : am_R E d mX0_rentOf k n 23 ls (.int (iv a 4) :: st) S iv Q) : am_R E d mX0_rentOf k n 20 ls (.ref a :: st) S iv Q := am_getI (ci := 0) dX0_rentOf_20 rfl rfl (by decide) wq_182 uq_0 rfl ha h
theorem sX0_rentOf_23 {a0 a1 a2 : Value} (hv : am_rf a0 = true) (h : am_R E d mX0_rentOf k n 24 [a0, a1, a2] (a0 :: st) S iv Q) : am_R E d mX0_rentOf k n 23 [a0, a1, a2] st S iv Q := am_aload_n dX0_rentOf_23 rfl rfl hv h
theorem sX0_rentOf_24 {ls : List Value} {a b : Nat} (ha : S.1 a = some (.inl 0)) (hb : S.2.1 a 7 = some b) (h : am_R E d mX0_rentOf k n 27 ls (.ref b :: st) S iv Q) : am_R E d mX0_rentOf k n 24 ls (.ref a :: st) S iv Q := am_getR (ci := 0) dX0_rentOf_24 rfl rfl (by decide) wq_165 uq_0 rfl ha hb h
theorem sX0_rentOf_27 {ls : List Value} {a b : Nat} (ha : S.1 a = some (.inl 2)) (hb : S.2.1 a 4 = some b) (h : am_R E d mX0_rentOf k n 30 ls (.ref b :: st) S iv Q) : am_R E d mX0_rentOf k n 27 ls (.ref a :: st) S iv Q := am_getR (ci := 2) dX0_rentOf_27 rfl rfl (by decide) wq_226 uq_2 rfl ha hb h
theorem sX0_rentOf_30 {a0 a2 : Value} {x : Int32} (h : am_R E d mX0_rentOf k n 31 [a0, .int x, a2] (.int x :: st) S iv Q) : am_R E d mX0_rentOf k n 30 [a0, .int x, a2] st S iv Q := am_iload_n dX0_rentOf_30 rfl rfl h
theorem sX0_rentOf_31 {ls : List Value} {a m : Nat} {i : Int32} (ha : S.1 a = some (.inr (.int, m))) (hi : vp_in i m) (h : am_R E d mX0_rentOf k n 32 ls (.int (iv a i.toNatClampNeg) :: st) S iv Q) : am_R E d mX0_rentOf k n 31 ls (.int i :: .ref a :: st) S iv Q := am_iaload dX0_rentOf_31 ha hi h
theorem sX0_rentOf_32 {ls : List Value} {x y : Int32} (h : am_R E d mX0_rentOf k n 33 ls (.int (x * y) :: st) S iv Q) : am_R E d mX0_rentOf k n 32 ls (.int y :: .int x :: st) S iv Q := am_imul dX0_rentOf_32 h
theorem sX0_rentOf_33 {ls : List Value} {x y : Int32} (h : am_R E d mX0_rentOf k n 34 ls (.int (x + y) :: st) S iv Q) : am_R E d mX0_rentOf k n 33 ls (.int y :: .int x :: st) S iv Q := am_iadd dX0_rentOf_33 h
theorem sX0_rentOf_34 {a0 a1 a2 : Value} (hv : am_rf a0 = true) (h : am_R E d mX0_rentOf k n 35 [a0, a1, a2] (a0 :: st) S iv Q) : am_R E d mX0_rentOf k n 34 [a0, a1, a2] st S iv Q := am_aload_n dX0_rentOf_34 rfl rfl hv h
theorem sX0_rentOf_35 {ls : List Value} {a : Nat} (ha : S.1 a = some (.inl 0)) (h : am_R E d mX0_rentOf k n 38 ls (.int (iv a 5) :: st) S iv Q) : am_R E d mX0_rentOf k n 35 ls (.ref a :: st) S iv Q := am_getI (ci := 0) dX0_rentOf_35 rfl rfl (by decide) wq_183 uq_0 rfl ha h
theorem sX0_rentOf_38 {a0 a1 a2 : Value} (hv : am_rf a0 = true) (h : am_R E d mX0_rentOf k n 39 [a0, a1, a2] (a0 :: st) S iv Q) : am_R E d mX0_rentOf k n 38 [a0, a1, a2] st S iv Q := am_aload_n dX0_rentOf_38 rfl rfl hv h
theorem sX0_rentOf_39 {ls : List Value} {a b : Nat} (ha : S.1 a = some (.inl 0)) (hb : S.2.1 a 7 = some b) (h : am_R E d mX0_rentOf k n 42 ls (.ref b :: st) S iv Q) : am_R E d mX0_rentOf k n 39 ls (.ref a :: st) S iv Q := am_getR (ci := 0) dX0_rentOf_39 rfl rfl (by decide) wq_165 uq_0 rfl ha hb h
theorem sX0_rentOf_42 {ls : List Value} {a b : Nat} (ha : S.1 a = some (.inl 2)) (hb : S.2.1 a 5 = some b) (h : am_R E d mX0_rentOf k n 45 ls (.ref b :: st) S iv Q) : am_R E d mX0_rentOf k n 42 ls (.ref a :: st) S iv Q := am_getR (ci := 2) dX0_rentOf_42 rfl rfl (by decide) wq_216 uq_2 rfl ha hb h
theorem sX0_rentOf_45 {a0 a2 : Value} {x : Int32} (h : am_R E d mX0_rentOf k n 46 [a0, .int x, a2] (.int x :: st) S iv Q) : am_R E d mX0_rentOf k n 45 [a0, .int x, a2] st S iv Q := am_iload_n dX0_rentOf_45 rfl rfl h
theorem sX0_rentOf_46 {ls : List Value} {a m : Nat} {i : Int32} (ha : S.1 a = some (.inr (.int, m))) (hi : vp_in i m) (h : am_R E d mX0_rentOf k n 47 ls (.int (iv a i.toNatClampNeg) :: st) S iv Q) : am_R E d mX0_rentOf k n 46 ls (.int i :: .ref a :: st) S iv Q := am_iaload dX0_rentOf_46 ha hi h
theorem sX0_rentOf_47 {ls : List Value} {x y : Int32} (h : am_R E d mX0_rentOf k n 48 ls (.int (x * y) :: st) S iv Q) : am_R E d mX0_rentOf k n 47 ls (.int y :: .int x :: st) S iv Q := am_imul dX0_rentOf_47 h
theorem sX0_rentOf_48 {ls : List Value} {x y : Int32} (h : am_R E d mX0_rentOf k n 49 ls (.int (x + y) :: st) S iv Q) : am_R E d mX0_rentOf k n 48 ls (.int y :: .int x :: st) S iv Q := am_iadd dX0_rentOf_48 h
theorem sX0_rentOf_49 {a0 a1 a2 : Value} {x : Int32} (h : am_R E d mX0_rentOf k n 50 [a0, a1, .int x] st S iv Q) : am_R E d mX0_rentOf k n 49 [a0, a1, a2] (.int x :: st) S iv Q := am_istore_n dX0_rentOf_49 rfl (by decide) h
theorem sX0_rentOf_50 {a0 a1 a2 : Value} (hv : am_rf a0 = true) (h : am_R E d mX0_rentOf k n 51 [a0, a1, a2] (a0 :: st) S iv Q) : am_R E d mX0_rentOf k n 50 [a0, a1, a2] st S iv Q := am_aload_n dX0_rentOf_50 rfl rfl hv h
theorem sX0_rentOf_51 {ls : List Value} {a b : Nat} (ha : S.1 a = some (.inl 0)) (hb : S.2.1 a 7 = some b) (h : am_R E d mX0_rentOf k n 54 ls (.ref b :: st) S iv Q) : am_R E d mX0_rentOf k n 51 ls (.ref a :: st) S iv Q := am_getR (ci := 0) dX0_rentOf_51 rfl rfl (by decide) wq_165 uq_0 rfl ha hb h
theorem sX0_rentOf_54 {a0 a2 : Value} {x : Int32} (h : am_R E d mX0_rentOf k n 55 [a0, .int x, a2] (.int x :: st) S iv Q) : am_R E d mX0_rentOf k n 54 [a0, .int x, a2] st S iv Q := am_iload_n dX0_rentOf_54 rfl rfl h
theorem sX0_rentOf_55 {ls : List Value} {x1 : Value} {a : Nat} (ha : S.1 a = some (.inl 2)) (hst : (st.map fun v => v.category).sum ≤ 8) (hM : am_M E d mX2_isWide 0 0 [.ref a, x1] S iv (am_K3 E (d + 1) mX0_rentOf k n 55 ls st Q)) : am_R E (d + 1) mX0_rentOf k n 55 ls (x1 :: .ref a :: st) S iv Q := am_cV (ci := 2) (M' := mX2_isWide) (as := [x1]) dX0_rentOf_55 rfl rfl rfl wq_227 wq_84 wq_85 wq_81 wq_80 hy_X2_isWide (by decide) ha hst (by omega) (by omega) hM
theorem sX0_rentOf_55_k {ls : List Value} {x1 : Value} {k' n' : Nat} {a : Nat} (ha : S.1 a = some (.inl 2)) (hst : (st.map fun v => v.category).sum ≤ 8) (hM : am_M E d mX2_isWide k' n' [.ref a, x1] S iv (am_K3 E (d + 1) mX0_rentOf k n 55 ls st Q)) : am_R E (d + 1) mX0_rentOf (k' + k) (n' + n) 55 ls (x1 :: .ref a :: st) S iv Q := am_cV (ci := 2) (M' := mX2_isWide) (as := [x1]) dX0_rentOf_55 rfl rfl rfl wq_227 wq_84 wq_85 wq_81 wq_80 hy_X2_isWide (by decide) ha hst (by omega) (by omega) hM
theorem sX0_rentOf_58 {ls : List Value} {x : Int32} (kt : x = 0 → am_R E d mX0_rentOf k n 67 ls st S iv Q) (kf : ¬ x = 0 → am_R E d mX0_rentOf k n 61 ls st S iv Q) : am_R E d mX0_rentOf k n 58 ls (.int x :: st) S iv Q := am_if_eq dX0_rentOf_58 (by decide) kt kf
theorem sX0_rentOf_61 {a0 a1 a2 : Value} (h : am_R E d mX0_rentOf k n 62 [a0, a1, a2] (.int 2 :: st) S iv Q) : am_R E d mX0_rentOf k n 61 [a0, a1, a2] st S iv Q := am_iconst dX0_rentOf_61 (by decide) h
theorem sX0_rentOf_62 {a0 a1 : Value} {x : Int32} (h : am_R E d mX0_rentOf k n 63 [a0, a1, .int x] (.int x :: st) S iv Q) : am_R E d mX0_rentOf k n 62 [a0, a1, .int x] st S iv Q := am_iload_n dX0_rentOf_62 rfl rfl h
theorem sX0_rentOf_63 {ls : List Value} {x y : Int32} (h : am_R E d mX0_rentOf k n 64 ls (.int (x * y) :: st) S iv Q) : am_R E d mX0_rentOf k n 63 ls (.int y :: .int x :: st) S iv Q := am_imul dX0_rentOf_63 h
theorem sX0_rentOf_64 {ls : List Value} (h : am_R E d mX0_rentOf k n 68 ls st S iv Q) : am_R E d mX0_rentOf k n 64 ls st S iv Q := am_goto dX0_rentOf_64 (by decide) h
theorem sX0_rentOf_67 {a0 a1 : Value} {x : Int32} (h : am_R E d mX0_rentOf k n 68 [a0, a1, .int x] (.int x :: st) S iv Q) : am_R E d mX0_rentOf k n 67 [a0, a1, .int x] st S iv Q := am_iload_n dX0_rentOf_67 rfl rfl h
theorem sX0_rentOf_68 {ls : List Value} {x : Int32} (h : Q (.inl (some (.int x))) S iv) : am_R E d mX0_rentOf k n 68 ls [.int x] S iv Q := am_ireturn dX0_rentOf_68 rfl h
theorem dX0_handsNear_0 : decode cX0_handsNear 0 = .ok (.iconst 0, 1) := by decide +kernel
theorem dX0_handsNear_1 : decode cX0_handsNear 1 = .ok (.istore_n 3, 1) := by decide +kernel
theorem dX0_handsNear_2 : decode cX0_handsNear 2 = .ok (.iconst 0, 1) := by decide +kernel
theorem dX0_handsNear_3 : decode cX0_handsNear 3 = .ok (.istore 4, 2) := by decide +kernel
theorem dX0_handsNear_5 : decode cX0_handsNear 5 = .ok (.iload 4, 2) := by decide +kernel
theorem dX0_handsNear_7 : decode cX0_handsNear 7 = .ok (.aload_n 0, 1) := by decide +kernel
theorem dX0_handsNear_8 : decode cX0_handsNear 8 = .ok (.getfield 31, 3) := by decide +kernel
theorem dX0_handsNear_11 : decode cX0_handsNear 11 = .ok (.getfield 64, 3) := by decide +kernel
theorem dX0_handsNear_14 : decode cX0_handsNear 14 = .ok (.if_icmp .ge 87, 3) := by decide +kernel
theorem dX0_handsNear_17 : decode cX0_handsNear 17 = .ok (.aload_n 0, 1) := by decide +kernel
theorem dX0_handsNear_18 : decode cX0_handsNear 18 = .ok (.getfield 31, 3) := by decide +kernel
theorem dX0_handsNear_21 : decode cX0_handsNear 21 = .ok (.getfield 106, 3) := by decide +kernel
theorem dX0_handsNear_24 : decode cX0_handsNear 24 = .ok (.iload 4, 2) := by decide +kernel
theorem dX0_handsNear_26 : decode cX0_handsNear 26 = .ok (.iaload, 1) := by decide +kernel
theorem dX0_handsNear_27 : decode cX0_handsNear 27 = .ok (.istore 5, 2) := by decide +kernel
theorem dX0_handsNear_29 : decode cX0_handsNear 29 = .ok (.iload 5, 2) := by decide +kernel
theorem dX0_handsNear_31 : decode cX0_handsNear 31 = .ok (.iload_n 1, 1) := by decide +kernel
theorem dX0_handsNear_32 : decode cX0_handsNear 32 = .ok (.if_icmp .eq 63, 3) := by decide +kernel
theorem dX0_handsNear_35 : decode cX0_handsNear 35 = .ok (.iload_n 2, 1) := by decide +kernel
theorem dX0_handsNear_36 : decode cX0_handsNear 36 = .ok (.iload 5, 2) := by decide +kernel
theorem dX0_handsNear_38 : decode cX0_handsNear 38 = .ok (.ishr, 1) := by decide +kernel
theorem dX0_handsNear_39 : decode cX0_handsNear 39 = .ok (.iconst 1, 1) := by decide +kernel
theorem dX0_handsNear_40 : decode cX0_handsNear 40 = .ok (.iand, 1) := by decide +kernel
theorem dX0_handsNear_41 : decode cX0_handsNear 41 = .ok (.ifCond .eq 54, 3) := by decide +kernel
theorem dX0_handsNear_44 : decode cX0_handsNear 44 = .ok (.aload_n 0, 1) := by decide +kernel
theorem dX0_handsNear_45 : decode cX0_handsNear 45 = .ok (.getfield 24, 3) := by decide +kernel
theorem dX0_handsNear_48 : decode cX0_handsNear 48 = .ok (.getfield 115, 3) := by decide +kernel
theorem dX0_handsNear_51 : decode cX0_handsNear 51 = .ok (.iload 5, 2) := by decide +kernel
theorem dX0_handsNear_53 : decode cX0_handsNear 53 = .ok (.iaload, 1) := by decide +kernel
theorem dX0_handsNear_54 : decode cX0_handsNear 54 = .ok (.aload_n 0, 1) := by decide +kernel
theorem dX0_handsNear_55 : decode cX0_handsNear 55 = .ok (.getfield 24, 3) := by decide +kernel
theorem dX0_handsNear_58 : decode cX0_handsNear 58 = .ok (.getfield 115, 3) := by decide +kernel
theorem dX0_handsNear_61 : decode cX0_handsNear 61 = .ok (.iload_n 1, 1) := by decide +kernel
theorem dX0_handsNear_62 : decode cX0_handsNear 62 = .ok (.iaload, 1) := by decide +kernel
theorem dX0_handsNear_63 : decode cX0_handsNear 63 = .ok (.isub, 1) := by decide +kernel
theorem dX0_handsNear_64 : decode cX0_handsNear 64 = .ok (.invokestatic 122, 3) := by decide +kernel
theorem dX0_handsNear_67 : decode cX0_handsNear 67 = .ok (.aload_n 0, 1) := by decide +kernel
theorem dX0_handsNear_68 : decode cX0_handsNear 68 = .ok (.getfield 18, 3) := by decide +kernel
theorem dX0_handsNear_71 : decode cX0_handsNear 71 = .ok (.if_icmp .gt 24, 3) := by decide +kernel
theorem dX0_handsNear_74 : decode cX0_handsNear 74 = .ok (.aload_n 0, 1) := by decide +kernel
theorem dX0_handsNear_75 : decode cX0_handsNear 75 = .ok (.getfield 24, 3) := by decide +kernel
theorem dX0_handsNear_78 : decode cX0_handsNear 78 = .ok (.iload 5, 2) := by decide +kernel
theorem dX0_handsNear_80 : decode cX0_handsNear 80 = .ok (.iload_n 1, 1) := by decide +kernel
theorem dX0_handsNear_81 : decode cX0_handsNear 81 = .ok (.invokevirtual 126, 3) := by decide +kernel
theorem dX0_handsNear_84 : decode cX0_handsNear 84 = .ok (.iconst 1, 1) := by decide +kernel
theorem dX0_handsNear_85 : decode cX0_handsNear 85 = .ok (.if_icmp .gt 10, 3) := by decide +kernel
theorem dX0_handsNear_88 : decode cX0_handsNear 88 = .ok (.iload_n 3, 1) := by decide +kernel
theorem dX0_handsNear_89 : decode cX0_handsNear 89 = .ok (.iconst 1, 1) := by decide +kernel
theorem dX0_handsNear_90 : decode cX0_handsNear 90 = .ok (.iload 4, 2) := by decide +kernel
theorem dX0_handsNear_92 : decode cX0_handsNear 92 = .ok (.ishl, 1) := by decide +kernel
theorem dX0_handsNear_93 : decode cX0_handsNear 93 = .ok (.ior, 1) := by decide +kernel
theorem dX0_handsNear_94 : decode cX0_handsNear 94 = .ok (.istore_n 3, 1) := by decide +kernel
theorem dX0_handsNear_95 : decode cX0_handsNear 95 = .ok (.iinc 4 1, 3) := by decide +kernel
theorem dX0_handsNear_98 : decode cX0_handsNear 98 = .ok (.goto (-93), 3) := by decide +kernel
theorem dX0_handsNear_101 : decode cX0_handsNear 101 = .ok (.iload_n 3, 1) := by decide +kernel
theorem dX0_handsNear_102 : decode cX0_handsNear 102 = .ok (.ireturn, 1) := by decide +kernel
theorem sX0_handsNear_0 {a0 a1 a2 a3 a4 a5 : Value} (h : am_R E d mX0_handsNear k n 1 [a0, a1, a2, a3, a4, a5] (.int 0 :: st) S iv Q) : am_R E d mX0_handsNear k n 0 [a0, a1, a2, a3, a4, a5] st S iv Q := am_iconst dX0_handsNear_0 (by decide) h
theorem sX0_handsNear_1 {a0 a1 a2 a3 a4 a5 : Value} {x : Int32} (h : am_R E d mX0_handsNear k n 2 [a0, a1, a2, .int x, a4, a5] st S iv Q) : am_R E d mX0_handsNear k n 1 [a0, a1, a2, a3, a4, a5] (.int x :: st) S iv Q := am_istore_n dX0_handsNear_1 rfl (by decide) h
theorem sX0_handsNear_2 {a0 a1 a2 a3 a4 a5 : Value} (h : am_R E d mX0_handsNear k n 3 [a0, a1, a2, a3, a4, a5] (.int 0 :: st) S iv Q) : am_R E d mX0_handsNear k n 2 [a0, a1, a2, a3, a4, a5] st S iv Q := am_iconst dX0_handsNear_2 (by decide) h
theorem sX0_handsNear_3 {a0 a1 a2 a3 a4 a5 : Value} {x : Int32} (h : am_R E d mX0_handsNear k n 5 [a0, a1, a2, a3, .int x, a5] st S iv Q) : am_R E d mX0_handsNear k n 3 [a0, a1, a2, a3, a4, a5] (.int x :: st) S iv Q := am_istore dX0_handsNear_3 (by decide) h
theorem sX0_handsNear_5 {a0 a1 a2 a3 a5 : Value} {x : Int32} (h : am_R E d mX0_handsNear k n 7 [a0, a1, a2, a3, .int x, a5] (.int x :: st) S iv Q) : am_R E d mX0_handsNear k n 5 [a0, a1, a2, a3, .int x, a5] st S iv Q := am_iload dX0_handsNear_5 rfl h
theorem sX0_handsNear_7 {a0 a1 a2 a3 a4 a5 : Value} (hv : am_rf a0 = true) (h : am_R E d mX0_handsNear k n 8 [a0, a1, a2, a3, a4, a5] (a0 :: st) S iv Q) : am_R E d mX0_handsNear k n 7 [a0, a1, a2, a3, a4, a5] st S iv Q := am_aload_n dX0_handsNear_7 rfl rfl hv h
theorem sX0_handsNear_8 {ls : List Value} {a b : Nat} (ha : S.1 a = some (.inl 0)) (hb : S.2.1 a 8 = some b) (h : am_R E d mX0_handsNear k n 11 ls (.ref b :: st) S iv Q) : am_R E d mX0_handsNear k n 8 ls (.ref a :: st) S iv Q := am_getR (ci := 0) dX0_handsNear_8 rfl rfl (by decide) wq_172 uq_0 rfl ha hb h
theorem sX0_handsNear_11 {ls : List Value} {a : Nat} (ha : S.1 a = some (.inl 4)) (h : am_R E d mX0_handsNear k n 14 ls (.int (iv a 0) :: st) S iv Q) : am_R E d mX0_handsNear k n 11 ls (.ref a :: st) S iv Q := am_getI (ci := 4) dX0_handsNear_11 rfl rfl (by decide) wq_186 uq_4 rfl ha h
theorem sX0_handsNear_14 {ls : List Value} {x y : Int32} (kt : y ≤ x → am_R E d mX0_handsNear k n 101 ls st S iv Q) (kf : ¬ y ≤ x → am_R E d mX0_handsNear k n 17 ls st S iv Q) : am_R E d mX0_handsNear k n 14 ls (.int y :: .int x :: st) S iv Q := am_icmp_ge dX0_handsNear_14 (by decide) kt kf
theorem sX0_handsNear_17 {a0 a1 a2 a3 a4 a5 : Value} (hv : am_rf a0 = true) (h : am_R E d mX0_handsNear k n 18 [a0, a1, a2, a3, a4, a5] (a0 :: st) S iv Q) : am_R E d mX0_handsNear k n 17 [a0, a1, a2, a3, a4, a5] st S iv Q := am_aload_n dX0_handsNear_17 rfl rfl hv h
theorem sX0_handsNear_18 {ls : List Value} {a b : Nat} (ha : S.1 a = some (.inl 0)) (hb : S.2.1 a 8 = some b) (h : am_R E d mX0_handsNear k n 21 ls (.ref b :: st) S iv Q) : am_R E d mX0_handsNear k n 18 ls (.ref a :: st) S iv Q := am_getR (ci := 0) dX0_handsNear_18 rfl rfl (by decide) wq_172 uq_0 rfl ha hb h
theorem sX0_handsNear_21 {ls : List Value} {a b : Nat} (ha : S.1 a = some (.inl 4)) (hb : S.2.1 a 1 = some b) (h : am_R E d mX0_handsNear k n 24 ls (.ref b :: st) S iv Q) : am_R E d mX0_handsNear k n 21 ls (.ref a :: st) S iv Q := am_getR (ci := 4) dX0_handsNear_21 rfl rfl (by decide) wq_218 uq_4 rfl ha hb h
theorem sX0_handsNear_24 {a0 a1 a2 a3 a5 : Value} {x : Int32} (h : am_R E d mX0_handsNear k n 26 [a0, a1, a2, a3, .int x, a5] (.int x :: st) S iv Q) : am_R E d mX0_handsNear k n 24 [a0, a1, a2, a3, .int x, a5] st S iv Q := am_iload dX0_handsNear_24 rfl h
theorem sX0_handsNear_26 {ls : List Value} {a m : Nat} {i : Int32} (ha : S.1 a = some (.inr (.int, m))) (hi : vp_in i m) (h : am_R E d mX0_handsNear k n 27 ls (.int (iv a i.toNatClampNeg) :: st) S iv Q) : am_R E d mX0_handsNear k n 26 ls (.int i :: .ref a :: st) S iv Q := am_iaload dX0_handsNear_26 ha hi h
theorem sX0_handsNear_27 {a0 a1 a2 a3 a4 a5 : Value} {x : Int32} (h : am_R E d mX0_handsNear k n 29 [a0, a1, a2, a3, a4, .int x] st S iv Q) : am_R E d mX0_handsNear k n 27 [a0, a1, a2, a3, a4, a5] (.int x :: st) S iv Q := am_istore dX0_handsNear_27 (by decide) h
theorem sX0_handsNear_29 {a0 a1 a2 a3 a4 : Value} {x : Int32} (h : am_R E d mX0_handsNear k n 31 [a0, a1, a2, a3, a4, .int x] (.int x :: st) S iv Q) : am_R E d mX0_handsNear k n 29 [a0, a1, a2, a3, a4, .int x] st S iv Q := am_iload dX0_handsNear_29 rfl h
theorem sX0_handsNear_31 {a0 a2 a3 a4 a5 : Value} {x : Int32} (h : am_R E d mX0_handsNear k n 32 [a0, .int x, a2, a3, a4, a5] (.int x :: st) S iv Q) : am_R E d mX0_handsNear k n 31 [a0, .int x, a2, a3, a4, a5] st S iv Q := am_iload_n dX0_handsNear_31 rfl rfl h
theorem sX0_handsNear_32 {ls : List Value} {x y : Int32} (kt : x = y → am_R E d mX0_handsNear k n 95 ls st S iv Q) (kf : ¬ x = y → am_R E d mX0_handsNear k n 35 ls st S iv Q) : am_R E d mX0_handsNear k n 32 ls (.int y :: .int x :: st) S iv Q := am_icmp_eq dX0_handsNear_32 (by decide) kt kf
theorem sX0_handsNear_35 {a0 a1 a3 a4 a5 : Value} {x : Int32} (h : am_R E d mX0_handsNear k n 36 [a0, a1, .int x, a3, a4, a5] (.int x :: st) S iv Q) : am_R E d mX0_handsNear k n 35 [a0, a1, .int x, a3, a4, a5] st S iv Q := am_iload_n dX0_handsNear_35 rfl rfl h
theorem sX0_handsNear_36 {a0 a1 a2 a3 a4 : Value} {x : Int32} (h : am_R E d mX0_handsNear k n 38 [a0, a1, a2, a3, a4, .int x] (.int x :: st) S iv Q) : am_R E d mX0_handsNear k n 36 [a0, a1, a2, a3, a4, .int x] st S iv Q := am_iload dX0_handsNear_36 rfl h
theorem sX0_handsNear_38 {ls : List Value} {x y : Int32} (h : am_R E d mX0_handsNear k n 39 ls (.int (x >>> (y &&& 31)) :: st) S iv Q) : am_R E d mX0_handsNear k n 38 ls (.int y :: .int x :: st) S iv Q := am_ishr dX0_handsNear_38 h
theorem sX0_handsNear_39 {a0 a1 a2 a3 a4 a5 : Value} (h : am_R E d mX0_handsNear k n 40 [a0, a1, a2, a3, a4, a5] (.int 1 :: st) S iv Q) : am_R E d mX0_handsNear k n 39 [a0, a1, a2, a3, a4, a5] st S iv Q := am_iconst dX0_handsNear_39 (by decide) h
theorem sX0_handsNear_40 {ls : List Value} {x y : Int32} (h : am_R E d mX0_handsNear k n 41 ls (.int (x &&& y) :: st) S iv Q) : am_R E d mX0_handsNear k n 40 ls (.int y :: .int x :: st) S iv Q := am_iand dX0_handsNear_40 h
theorem sX0_handsNear_41 {ls : List Value} {x : Int32} (kt : x = 0 → am_R E d mX0_handsNear k n 95 ls st S iv Q) (kf : ¬ x = 0 → am_R E d mX0_handsNear k n 44 ls st S iv Q) : am_R E d mX0_handsNear k n 41 ls (.int x :: st) S iv Q := am_if_eq dX0_handsNear_41 (by decide) kt kf
theorem sX0_handsNear_44 {a0 a1 a2 a3 a4 a5 : Value} (hv : am_rf a0 = true) (h : am_R E d mX0_handsNear k n 45 [a0, a1, a2, a3, a4, a5] (a0 :: st) S iv Q) : am_R E d mX0_handsNear k n 44 [a0, a1, a2, a3, a4, a5] st S iv Q := am_aload_n dX0_handsNear_44 rfl rfl hv h
theorem sX0_handsNear_45 {ls : List Value} {a b : Nat} (ha : S.1 a = some (.inl 0)) (hb : S.2.1 a 7 = some b) (h : am_R E d mX0_handsNear k n 48 ls (.ref b :: st) S iv Q) : am_R E d mX0_handsNear k n 45 ls (.ref a :: st) S iv Q := am_getR (ci := 0) dX0_handsNear_45 rfl rfl (by decide) wq_165 uq_0 rfl ha hb h
theorem sX0_handsNear_48 {ls : List Value} {a b : Nat} (ha : S.1 a = some (.inl 2)) (hb : S.2.1 a 4 = some b) (h : am_R E d mX0_handsNear k n 51 ls (.ref b :: st) S iv Q) : am_R E d mX0_handsNear k n 48 ls (.ref a :: st) S iv Q := am_getR (ci := 2) dX0_handsNear_48 rfl rfl (by decide) wq_226 uq_2 rfl ha hb h
theorem sX0_handsNear_51 {a0 a1 a2 a3 a4 : Value} {x : Int32} (h : am_R E d mX0_handsNear k n 53 [a0, a1, a2, a3, a4, .int x] (.int x :: st) S iv Q) : am_R E d mX0_handsNear k n 51 [a0, a1, a2, a3, a4, .int x] st S iv Q := am_iload dX0_handsNear_51 rfl h
theorem sX0_handsNear_53 {ls : List Value} {a m : Nat} {i : Int32} (ha : S.1 a = some (.inr (.int, m))) (hi : vp_in i m) (h : am_R E d mX0_handsNear k n 54 ls (.int (iv a i.toNatClampNeg) :: st) S iv Q) : am_R E d mX0_handsNear k n 53 ls (.int i :: .ref a :: st) S iv Q := am_iaload dX0_handsNear_53 ha hi h
theorem sX0_handsNear_54 {a0 a1 a2 a3 a4 a5 : Value} (hv : am_rf a0 = true) (h : am_R E d mX0_handsNear k n 55 [a0, a1, a2, a3, a4, a5] (a0 :: st) S iv Q) : am_R E d mX0_handsNear k n 54 [a0, a1, a2, a3, a4, a5] st S iv Q := am_aload_n dX0_handsNear_54 rfl rfl hv h
theorem sX0_handsNear_55 {ls : List Value} {a b : Nat} (ha : S.1 a = some (.inl 0)) (hb : S.2.1 a 7 = some b) (h : am_R E d mX0_handsNear k n 58 ls (.ref b :: st) S iv Q) : am_R E d mX0_handsNear k n 55 ls (.ref a :: st) S iv Q := am_getR (ci := 0) dX0_handsNear_55 rfl rfl (by decide) wq_165 uq_0 rfl ha hb h
theorem sX0_handsNear_58 {ls : List Value} {a b : Nat} (ha : S.1 a = some (.inl 2)) (hb : S.2.1 a 4 = some b) (h : am_R E d mX0_handsNear k n 61 ls (.ref b :: st) S iv Q) : am_R E d mX0_handsNear k n 58 ls (.ref a :: st) S iv Q := am_getR (ci := 2) dX0_handsNear_58 rfl rfl (by decide) wq_226 uq_2 rfl ha hb h
theorem sX0_handsNear_61 {a0 a2 a3 a4 a5 : Value} {x : Int32} (h : am_R E d mX0_handsNear k n 62 [a0, .int x, a2, a3, a4, a5] (.int x :: st) S iv Q) : am_R E d mX0_handsNear k n 61 [a0, .int x, a2, a3, a4, a5] st S iv Q := am_iload_n dX0_handsNear_61 rfl rfl h
theorem sX0_handsNear_62 {ls : List Value} {a m : Nat} {i : Int32} (ha : S.1 a = some (.inr (.int, m))) (hi : vp_in i m) (h : am_R E d mX0_handsNear k n 63 ls (.int (iv a i.toNatClampNeg) :: st) S iv Q) : am_R E d mX0_handsNear k n 62 ls (.int i :: .ref a :: st) S iv Q := am_iaload dX0_handsNear_62 ha hi h
theorem sX0_handsNear_63 {ls : List Value} {x y : Int32} (h : am_R E d mX0_handsNear k n 64 ls (.int (x - y) :: st) S iv Q) : am_R E d mX0_handsNear k n 63 ls (.int y :: .int x :: st) S iv Q := am_isub dX0_handsNear_63 h
theorem sX0_handsNear_64 {ls : List Value} {x1 : Value} (hst : (st.map fun v => v.category).sum ≤ 8) (hM : am_M E d mJ9_abs_0f7a4 0 0 [x1] S iv (am_K3 E (d + 1) mX0_handsNear k n 64 ls st Q)) : am_R E (d + 1) mX0_handsNear k n 64 ls (x1 :: st) S iv Q := am_cS (M' := mJ9_abs_0f7a4) (as := [x1]) dX0_handsNear_64 rfl wq_230 wq_231 wq_50 wq_228 hy_J9_abs_0f7a4 (by decide) hst (by omega) (by omega) hM
theorem sX0_handsNear_64_k {ls : List Value} {x1 : Value} {k' n' : Nat} (hst : (st.map fun v => v.category).sum ≤ 8) (hM : am_M E d mJ9_abs_0f7a4 k' n' [x1] S iv (am_K3 E (d + 1) mX0_handsNear k n 64 ls st Q)) : am_R E (d + 1) mX0_handsNear (k' + k) (n' + n) 64 ls (x1 :: st) S iv Q := am_cS (M' := mJ9_abs_0f7a4) (as := [x1]) dX0_handsNear_64 rfl wq_230 wq_231 wq_50 wq_228 hy_J9_abs_0f7a4 (by decide) hst (by omega) (by omega) hM
theorem sX0_handsNear_67 {a0 a1 a2 a3 a4 a5 : Value} (hv : am_rf a0 = true) (h : am_R E d mX0_handsNear k n 68 [a0, a1, a2, a3, a4, a5] (a0 :: st) S iv Q) : am_R E d mX0_handsNear k n 67 [a0, a1, a2, a3, a4, a5] st S iv Q := am_aload_n dX0_handsNear_67 rfl rfl hv h
theorem sX0_handsNear_68 {ls : List Value} {a : Nat} (ha : S.1 a = some (.inl 0)) (h : am_R E d mX0_handsNear k n 71 ls (.int (iv a 2) :: st) S iv Q) : am_R E d mX0_handsNear k n 68 ls (.ref a :: st) S iv Q := am_getI (ci := 0) dX0_handsNear_68 rfl rfl (by decide) wq_159 uq_0 rfl ha h
theorem sX0_handsNear_71 {ls : List Value} {x y : Int32} (kt : y < x → am_R E d mX0_handsNear k n 95 ls st S iv Q) (kf : ¬ y < x → am_R E d mX0_handsNear k n 74 ls st S iv Q) : am_R E d mX0_handsNear k n 71 ls (.int y :: .int x :: st) S iv Q := am_icmp_gt dX0_handsNear_71 (by decide) kt kf
theorem sX0_handsNear_74 {a0 a1 a2 a3 a4 a5 : Value} (hv : am_rf a0 = true) (h : am_R E d mX0_handsNear k n 75 [a0, a1, a2, a3, a4, a5] (a0 :: st) S iv Q) : am_R E d mX0_handsNear k n 74 [a0, a1, a2, a3, a4, a5] st S iv Q := am_aload_n dX0_handsNear_74 rfl rfl hv h
theorem sX0_handsNear_75 {ls : List Value} {a b : Nat} (ha : S.1 a = some (.inl 0)) (hb : S.2.1 a 7 = some b) (h : am_R E d mX0_handsNear k n 78 ls (.ref b :: st) S iv Q) : am_R E d mX0_handsNear k n 75 ls (.ref a :: st) S iv Q := am_getR (ci := 0) dX0_handsNear_75 rfl rfl (by decide) wq_165 uq_0 rfl ha hb h
theorem sX0_handsNear_78 {a0 a1 a2 a3 a4 : Value} {x : Int32} (h : am_R E d mX0_handsNear k n 80 [a0, a1, a2, a3, a4, .int x] (.int x :: st) S iv Q) : am_R E d mX0_handsNear k n 78 [a0, a1, a2, a3, a4, .int x] st S iv Q := am_iload dX0_handsNear_78 rfl h
theorem sX0_handsNear_80 {a0 a2 a3 a4 a5 : Value} {x : Int32} (h : am_R E d mX0_handsNear k n 81 [a0, .int x, a2, a3, a4, a5] (.int x :: st) S iv Q) : am_R E d mX0_handsNear k n 80 [a0, .int x, a2, a3, a4, a5] st S iv Q := am_iload_n dX0_handsNear_80 rfl rfl h
theorem sX0_handsNear_81 {ls : List Value} {x1 x2 : Value} {a : Nat} (ha : S.1 a = some (.inl 2)) (hst : (st.map fun v => v.category).sum ≤ 8) (hM : am_M E d mX2_columnsApart 0 0 [.ref a, x1, x2] S iv (am_K3 E (d + 1) mX0_handsNear k n 81 ls st Q)) : am_R E (d + 1) mX0_handsNear k n 81 ls (x2 :: x1 :: .ref a :: st) S iv Q := am_cV (ci := 2) (M' := mX2_columnsApart) (as := [x1, x2]) dX0_handsNear_81 rfl rfl rfl wq_232 wq_89 wq_90 wq_81 wq_86 hy_X2_columnsApart (by decide) ha hst (by omega) (by omega) hM
theorem sX0_handsNear_81_k {ls : List Value} {x1 x2 : Value} {k' n' : Nat} {a : Nat} (ha : S.1 a = some (.inl 2)) (hst : (st.map fun v => v.category).sum ≤ 8) (hM : am_M E d mX2_columnsApart k' n' [.ref a, x1, x2] S iv (am_K3 E (d + 1) mX0_handsNear k n 81 ls st Q)) : am_R E (d + 1) mX0_handsNear (k' + k) (n' + n) 81 ls (x2 :: x1 :: .ref a :: st) S iv Q := am_cV (ci := 2) (M' := mX2_columnsApart) (as := [x1, x2]) dX0_handsNear_81 rfl rfl rfl wq_232 wq_89 wq_90 wq_81 wq_86 hy_X2_columnsApart (by decide) ha hst (by omega) (by omega) hM
theorem sX0_handsNear_84 {a0 a1 a2 a3 a4 a5 : Value} (h : am_R E d mX0_handsNear k n 85 [a0, a1, a2, a3, a4, a5] (.int 1 :: st) S iv Q) : am_R E d mX0_handsNear k n 84 [a0, a1, a2, a3, a4, a5] st S iv Q := am_iconst dX0_handsNear_84 (by decide) h
theorem sX0_handsNear_85 {ls : List Value} {x y : Int32} (kt : y < x → am_R E d mX0_handsNear k n 95 ls st S iv Q) (kf : ¬ y < x → am_R E d mX0_handsNear k n 88 ls st S iv Q) : am_R E d mX0_handsNear k n 85 ls (.int y :: .int x :: st) S iv Q := am_icmp_gt dX0_handsNear_85 (by decide) kt kf
theorem sX0_handsNear_88 {a0 a1 a2 a4 a5 : Value} {x : Int32} (h : am_R E d mX0_handsNear k n 89 [a0, a1, a2, .int x, a4, a5] (.int x :: st) S iv Q) : am_R E d mX0_handsNear k n 88 [a0, a1, a2, .int x, a4, a5] st S iv Q := am_iload_n dX0_handsNear_88 rfl rfl h
theorem sX0_handsNear_89 {a0 a1 a2 a3 a4 a5 : Value} (h : am_R E d mX0_handsNear k n 90 [a0, a1, a2, a3, a4, a5] (.int 1 :: st) S iv Q) : am_R E d mX0_handsNear k n 89 [a0, a1, a2, a3, a4, a5] st S iv Q := am_iconst dX0_handsNear_89 (by decide) h
theorem sX0_handsNear_90 {a0 a1 a2 a3 a5 : Value} {x : Int32} (h : am_R E d mX0_handsNear k n 92 [a0, a1, a2, a3, .int x, a5] (.int x :: st) S iv Q) : am_R E d mX0_handsNear k n 90 [a0, a1, a2, a3, .int x, a5] st S iv Q := am_iload dX0_handsNear_90 rfl h
theorem sX0_handsNear_92 {ls : List Value} {x y : Int32} (h : am_R E d mX0_handsNear k n 93 ls (.int (x <<< (y &&& 31)) :: st) S iv Q) : am_R E d mX0_handsNear k n 92 ls (.int y :: .int x :: st) S iv Q := am_ishl dX0_handsNear_92 h
theorem sX0_handsNear_93 {ls : List Value} {x y : Int32} (h : am_R E d mX0_handsNear k n 94 ls (.int (x ||| y) :: st) S iv Q) : am_R E d mX0_handsNear k n 93 ls (.int y :: .int x :: st) S iv Q := am_ior dX0_handsNear_93 h
theorem sX0_handsNear_94 {a0 a1 a2 a3 a4 a5 : Value} {x : Int32} (h : am_R E d mX0_handsNear k n 95 [a0, a1, a2, .int x, a4, a5] st S iv Q) : am_R E d mX0_handsNear k n 94 [a0, a1, a2, a3, a4, a5] (.int x :: st) S iv Q := am_istore_n dX0_handsNear_94 rfl (by decide) h
theorem sX0_handsNear_95 {a0 a1 a2 a3 a5 : Value} {x : Int32} (h : am_R E d mX0_handsNear k n 98 [a0, a1, a2, a3, .int (x + 1), a5] st S iv Q) : am_R E d mX0_handsNear k n 95 [a0, a1, a2, a3, .int x, a5] st S iv Q := am_iinc dX0_handsNear_95 rfl rfl (by decide) h
theorem sX0_handsNear_98 {ls : List Value} (h : am_R E d mX0_handsNear k n 5 ls st S iv Q) : am_R E d mX0_handsNear k n 98 ls st S iv Q := am_goto dX0_handsNear_98 (by decide) h
theorem sX0_handsNear_101 {a0 a1 a2 a4 a5 : Value} {x : Int32} (h : am_R E d mX0_handsNear k n 102 [a0, a1, a2, .int x, a4, a5] (.int x :: st) S iv Q) : am_R E d mX0_handsNear k n 101 [a0, a1, a2, .int x, a4, a5] st S iv Q := am_iload_n dX0_handsNear_101 rfl rfl h
theorem sX0_handsNear_102 {ls : List Value} {x : Int32} (h : Q (.inl (some (.int x))) S iv) : am_R E d mX0_handsNear k n 102 ls [.int x] S iv Q := am_ireturn dX0_handsNear_102 rfl h
theorem dX0_canBe_0 : decode cX0_canBe 0 = .ok (.aload_n 0, 1) := by decide +kernel
theorem dX0_canBe_1 : decode cX0_canBe 1 = .ok (.iload_n 1, 1) := by decide +kernel
theorem dX0_canBe_2 : decode cX0_canBe 2 = .ok (.invokevirtual 129, 3) := by decide +kernel
theorem dX0_canBe_5 : decode cX0_canBe 5 = .ok (.iconst 2, 1) := by decide +kernel
theorem dX0_canBe_6 : decode cX0_canBe 6 = .ok (.iand, 1) := by decide +kernel
theorem dX0_canBe_7 : decode cX0_canBe 7 = .ok (.ifCond .eq 7, 3) := by decide +kernel
theorem dX0_canBe_10 : decode cX0_canBe 10 = .ok (.iconst 1, 1) := by decide +kernel
theorem dX0_canBe_11 : decode cX0_canBe 11 = .ok (.goto 4, 3) := by decide +kernel
theorem dX0_canBe_14 : decode cX0_canBe 14 = .ok (.iconst 0, 1) := by decide +kernel
theorem dX0_canBe_15 : decode cX0_canBe 15 = .ok (.ireturn, 1) := by decide +kernel
theorem sX0_canBe_0 {a0 a1 : Value} (hv : am_rf a0 = true) (h : am_R E d mX0_canBe k n 1 [a0, a1] (a0 :: st) S iv Q) : am_R E d mX0_canBe k n 0 [a0, a1] st S iv Q := am_aload_n dX0_canBe_0 rfl rfl hv h
theorem sX0_canBe_1 {a0 : Value} {x : Int32} (h : am_R E d mX0_canBe k n 2 [a0, .int x] (.int x :: st) S iv Q) : am_R E d mX0_canBe k n 1 [a0, .int x] st S iv Q := am_iload_n dX0_canBe_1 rfl rfl h
theorem sX0_canBe_2 {ls : List Value} {x1 : Value} {a : Nat} (ha : S.1 a = some (.inl 0)) (hst : (st.map fun v => v.category).sum ≤ 8) (hM : am_M E d mX0_judge 0 0 [.ref a, x1] S iv (am_K3 E (d + 1) mX0_canBe k n 2 ls st Q)) : am_R E (d + 1) mX0_canBe k n 2 ls (x1 :: .ref a :: st) S iv Q := am_cV (ci := 0) (M' := mX0_judge) (as := [x1]) dX0_canBe_2 rfl rfl rfl wq_235 wq_236 wq_237 wq_220 wq_233 hy_X0_judge (by decide) ha hst (by omega) (by omega) hM
theorem sX0_canBe_2_k {ls : List Value} {x1 : Value} {k' n' : Nat} {a : Nat} (ha : S.1 a = some (.inl 0)) (hst : (st.map fun v => v.category).sum ≤ 8) (hM : am_M E d mX0_judge k' n' [.ref a, x1] S iv (am_K3 E (d + 1) mX0_canBe k n 2 ls st Q)) : am_R E (d + 1) mX0_canBe (k' + k) (n' + n) 2 ls (x1 :: .ref a :: st) S iv Q := am_cV (ci := 0) (M' := mX0_judge) (as := [x1]) dX0_canBe_2 rfl rfl rfl wq_235 wq_236 wq_237 wq_220 wq_233 hy_X0_judge (by decide) ha hst (by omega) (by omega) hM
theorem sX0_canBe_5 {a0 a1 : Value} (h : am_R E d mX0_canBe k n 6 [a0, a1] (.int 2 :: st) S iv Q) : am_R E d mX0_canBe k n 5 [a0, a1] st S iv Q := am_iconst dX0_canBe_5 (by decide) h
theorem sX0_canBe_6 {ls : List Value} {x y : Int32} (h : am_R E d mX0_canBe k n 7 ls (.int (x &&& y) :: st) S iv Q) : am_R E d mX0_canBe k n 6 ls (.int y :: .int x :: st) S iv Q := am_iand dX0_canBe_6 h
theorem sX0_canBe_7 {ls : List Value} {x : Int32} (kt : x = 0 → am_R E d mX0_canBe k n 14 ls st S iv Q) (kf : ¬ x = 0 → am_R E d mX0_canBe k n 10 ls st S iv Q) : am_R E d mX0_canBe k n 7 ls (.int x :: st) S iv Q := am_if_eq dX0_canBe_7 (by decide) kt kf
theorem sX0_canBe_10 {a0 a1 : Value} (h : am_R E d mX0_canBe k n 11 [a0, a1] (.int 1 :: st) S iv Q) : am_R E d mX0_canBe k n 10 [a0, a1] st S iv Q := am_iconst dX0_canBe_10 (by decide) h
theorem sX0_canBe_11 {ls : List Value} (h : am_R E d mX0_canBe k n 15 ls st S iv Q) : am_R E d mX0_canBe k n 11 ls st S iv Q := am_goto dX0_canBe_11 (by decide) h
theorem sX0_canBe_14 {a0 a1 : Value} (h : am_R E d mX0_canBe k n 15 [a0, a1] (.int 0 :: st) S iv Q) : am_R E d mX0_canBe k n 14 [a0, a1] st S iv Q := am_iconst dX0_canBe_14 (by decide) h
theorem sX0_canBe_15 {ls : List Value} {x : Int32} (hn : narrow .boolean (.int x) = .int x) (h : Q (.inl (some (.int x))) S iv) : am_R E d mX0_canBe k n 15 ls [.int x] S iv Q := am_zreturn dX0_canBe_15 rfl hn h
theorem dX0_reachedBy_0 : decode cX0_reachedBy 0 = .ok (.aload_n 0, 1) := by decide +kernel
theorem dX0_reachedBy_1 : decode cX0_reachedBy 1 = .ok (.iload_n 1, 1) := by decide +kernel
theorem dX0_reachedBy_2 : decode cX0_reachedBy 2 = .ok (.invokevirtual 129, 3) := by decide +kernel
theorem dX0_reachedBy_5 : decode cX0_reachedBy 5 = .ok (.iconst 2, 1) := by decide +kernel
theorem dX0_reachedBy_6 : decode cX0_reachedBy 6 = .ok (.ishr, 1) := by decide +kernel
theorem dX0_reachedBy_7 : decode cX0_reachedBy 7 = .ok (.sipush 1023, 3) := by decide +kernel
theorem dX0_reachedBy_10 : decode cX0_reachedBy 10 = .ok (.iand, 1) := by decide +kernel
theorem dX0_reachedBy_11 : decode cX0_reachedBy 11 = .ok (.ireturn, 1) := by decide +kernel
theorem sX0_reachedBy_0 {a0 a1 : Value} (hv : am_rf a0 = true) (h : am_R E d mX0_reachedBy k n 1 [a0, a1] (a0 :: st) S iv Q) : am_R E d mX0_reachedBy k n 0 [a0, a1] st S iv Q := am_aload_n dX0_reachedBy_0 rfl rfl hv h
theorem sX0_reachedBy_1 {a0 : Value} {x : Int32} (h : am_R E d mX0_reachedBy k n 2 [a0, .int x] (.int x :: st) S iv Q) : am_R E d mX0_reachedBy k n 1 [a0, .int x] st S iv Q := am_iload_n dX0_reachedBy_1 rfl rfl h
theorem sX0_reachedBy_2 {ls : List Value} {x1 : Value} {a : Nat} (ha : S.1 a = some (.inl 0)) (hst : (st.map fun v => v.category).sum ≤ 8) (hM : am_M E d mX0_judge 0 0 [.ref a, x1] S iv (am_K3 E (d + 1) mX0_reachedBy k n 2 ls st Q)) : am_R E (d + 1) mX0_reachedBy k n 2 ls (x1 :: .ref a :: st) S iv Q := am_cV (ci := 0) (M' := mX0_judge) (as := [x1]) dX0_reachedBy_2 rfl rfl rfl wq_235 wq_236 wq_237 wq_220 wq_233 hy_X0_judge (by decide) ha hst (by omega) (by omega) hM
theorem sX0_reachedBy_2_k {ls : List Value} {x1 : Value} {k' n' : Nat} {a : Nat} (ha : S.1 a = some (.inl 0)) (hst : (st.map fun v => v.category).sum ≤ 8) (hM : am_M E d mX0_judge k' n' [.ref a, x1] S iv (am_K3 E (d + 1) mX0_reachedBy k n 2 ls st Q)) : am_R E (d + 1) mX0_reachedBy (k' + k) (n' + n) 2 ls (x1 :: .ref a :: st) S iv Q := am_cV (ci := 0) (M' := mX0_judge) (as := [x1]) dX0_reachedBy_2 rfl rfl rfl wq_235 wq_236 wq_237 wq_220 wq_233 hy_X0_judge (by decide) ha hst (by omega) (by omega) hM
theorem sX0_reachedBy_5 {a0 a1 : Value} (h : am_R E d mX0_reachedBy k n 6 [a0, a1] (.int 2 :: st) S iv Q) : am_R E d mX0_reachedBy k n 5 [a0, a1] st S iv Q := am_iconst dX0_reachedBy_5 (by decide) h
theorem sX0_reachedBy_6 {ls : List Value} {x y : Int32} (h : am_R E d mX0_reachedBy k n 7 ls (.int (x >>> (y &&& 31)) :: st) S iv Q) : am_R E d mX0_reachedBy k n 6 ls (.int y :: .int x :: st) S iv Q := am_ishr dX0_reachedBy_6 h
theorem sX0_reachedBy_7 {a0 a1 : Value} (h : am_R E d mX0_reachedBy k n 10 [a0, a1] (.int 1023 :: st) S iv Q) : am_R E d mX0_reachedBy k n 7 [a0, a1] st S iv Q := am_sipush dX0_reachedBy_7 (by decide) h
theorem sX0_reachedBy_10 {ls : List Value} {x y : Int32} (h : am_R E d mX0_reachedBy k n 11 ls (.int (x &&& y) :: st) S iv Q) : am_R E d mX0_reachedBy k n 10 ls (.int y :: .int x :: st) S iv Q := am_iand dX0_reachedBy_10 h
theorem sX0_reachedBy_11 {ls : List Value} {x : Int32} (h : Q (.inl (some (.int x))) S iv) : am_R E d mX0_reachedBy k n 11 ls [.int x] S iv Q := am_ireturn dX0_reachedBy_11 rfl h
theorem dX0_fedBy_0 : decode cX0_fedBy 0 = .ok (.aload_n 0, 1) := by decide +kernel
theorem dX0_fedBy_1 : decode cX0_fedBy 1 = .ok (.iload_n 1, 1) := by decide +kernel
theorem dX0_fedBy_2 : decode cX0_fedBy 2 = .ok (.invokevirtual 129, 3) := by decide +kernel
theorem dX0_fedBy_5 : decode cX0_fedBy 5 = .ok (.bipush 12, 2) := by decide +kernel
theorem dX0_fedBy_7 : decode cX0_fedBy 7 = .ok (.ishr, 1) := by decide +kernel
theorem dX0_fedBy_8 : decode cX0_fedBy 8 = .ok (.ireturn, 1) := by decide +kernel
theorem sX0_fedBy_0 {a0 a1 : Value} (hv : am_rf a0 = true) (h : am_R E d mX0_fedBy k n 1 [a0, a1] (a0 :: st) S iv Q) : am_R E d mX0_fedBy k n 0 [a0, a1] st S iv Q := am_aload_n dX0_fedBy_0 rfl rfl hv h
theorem sX0_fedBy_1 {a0 : Value} {x : Int32} (h : am_R E d mX0_fedBy k n 2 [a0, .int x] (.int x :: st) S iv Q) : am_R E d mX0_fedBy k n 1 [a0, .int x] st S iv Q := am_iload_n dX0_fedBy_1 rfl rfl h
theorem sX0_fedBy_2 {ls : List Value} {x1 : Value} {a : Nat} (ha : S.1 a = some (.inl 0)) (hst : (st.map fun v => v.category).sum ≤ 8) (hM : am_M E d mX0_judge 0 0 [.ref a, x1] S iv (am_K3 E (d + 1) mX0_fedBy k n 2 ls st Q)) : am_R E (d + 1) mX0_fedBy k n 2 ls (x1 :: .ref a :: st) S iv Q := am_cV (ci := 0) (M' := mX0_judge) (as := [x1]) dX0_fedBy_2 rfl rfl rfl wq_235 wq_236 wq_237 wq_220 wq_233 hy_X0_judge (by decide) ha hst (by omega) (by omega) hM
theorem sX0_fedBy_2_k {ls : List Value} {x1 : Value} {k' n' : Nat} {a : Nat} (ha : S.1 a = some (.inl 0)) (hst : (st.map fun v => v.category).sum ≤ 8) (hM : am_M E d mX0_judge k' n' [.ref a, x1] S iv (am_K3 E (d + 1) mX0_fedBy k n 2 ls st Q)) : am_R E (d + 1) mX0_fedBy (k' + k) (n' + n) 2 ls (x1 :: .ref a :: st) S iv Q := am_cV (ci := 0) (M' := mX0_judge) (as := [x1]) dX0_fedBy_2 rfl rfl rfl wq_235 wq_236 wq_237 wq_220 wq_233 hy_X0_judge (by decide) ha hst (by omega) (by omega) hM
theorem sX0_fedBy_5 {a0 a1 : Value} (h : am_R E d mX0_fedBy k n 7 [a0, a1] (.int 12 :: st) S iv Q) : am_R E d mX0_fedBy k n 5 [a0, a1] st S iv Q := am_bipush dX0_fedBy_5 (by decide) h
theorem sX0_fedBy_7 {ls : List Value} {x y : Int32} (h : am_R E d mX0_fedBy k n 8 ls (.int (x >>> (y &&& 31)) :: st) S iv Q) : am_R E d mX0_fedBy k n 7 ls (.int y :: .int x :: st) S iv Q := am_ishr dX0_fedBy_7 h
theorem sX0_fedBy_8 {ls : List Value} {x : Int32} (h : Q (.inl (some (.int x))) S iv) : am_R E d mX0_fedBy k n 8 ls [.int x] S iv Q := am_ireturn dX0_fedBy_8 rfl h
theorem dX0_judge_0 : decode cX0_judge 0 = .ok (.iload_n 1, 1) := by decide +kernel
theorem dX0_judge_1 : decode cX0_judge 1 = .ok (.ifCond .lt 12, 3) := by decide +kernel
theorem dX0_judge_4 : decode cX0_judge 4 = .ok (.iload_n 1, 1) := by decide +kernel
theorem dX0_judge_5 : decode cX0_judge 5 = .ok (.aload_n 0, 1) := by decide +kernel
theorem dX0_judge_6 : decode cX0_judge 6 = .ok (.getfield 46, 3) := by decide +kernel
theorem dX0_judge_9 : decode cX0_judge 9 = .ok (.arraylength, 1) := by decide +kernel
theorem dX0_judge_10 : decode cX0_judge 10 = .ok (.if_icmp .lt 5, 3) := by decide +kernel
theorem dX0_judge_13 : decode cX0_judge 13 = .ok (.iconst 0, 1) := by decide +kernel
theorem dX0_judge_14 : decode cX0_judge 14 = .ok (.ireturn, 1) := by decide +kernel
theorem dX0_judge_15 : decode cX0_judge 15 = .ok (.aload_n 0, 1) := by decide +kernel
theorem dX0_judge_16 : decode cX0_judge 16 = .ok (.getfield 46, 3) := by decide +kernel
theorem dX0_judge_19 : decode cX0_judge 19 = .ok (.iload_n 1, 1) := by decide +kernel
theorem dX0_judge_20 : decode cX0_judge 20 = .ok (.iaload, 1) := by decide +kernel
theorem dX0_judge_21 : decode cX0_judge 21 = .ok (.ifCond .ne 63, 3) := by decide +kernel
theorem dX0_judge_24 : decode cX0_judge 24 = .ok (.aload_n 0, 1) := by decide +kernel
theorem dX0_judge_25 : decode cX0_judge 25 = .ok (.iload_n 1, 1) := by decide +kernel
theorem dX0_judge_26 : decode cX0_judge 26 = .ok (.invokevirtual 132, 3) := by decide +kernel
theorem dX0_judge_29 : decode cX0_judge 29 = .ok (.ifCond .eq 16, 3) := by decide +kernel
theorem dX0_judge_32 : decode cX0_judge 32 = .ok (.aload_n 0, 1) := by decide +kernel
theorem dX0_judge_33 : decode cX0_judge 33 = .ok (.iload_n 1, 1) := by decide +kernel
theorem dX0_judge_34 : decode cX0_judge 34 = .ok (.invokevirtual 135, 3) := by decide +kernel
theorem dX0_judge_37 : decode cX0_judge 37 = .ok (.iconst (-1), 1) := by decide +kernel
theorem dX0_judge_38 : decode cX0_judge 38 = .ok (.if_icmp .ne 7, 3) := by decide +kernel
theorem dX0_judge_41 : decode cX0_judge 41 = .ok (.iconst 1, 1) := by decide +kernel
theorem dX0_judge_42 : decode cX0_judge 42 = .ok (.goto 4, 3) := by decide +kernel
theorem dX0_judge_45 : decode cX0_judge 45 = .ok (.iconst 0, 1) := by decide +kernel
theorem dX0_judge_46 : decode cX0_judge 46 = .ok (.istore_n 2, 1) := by decide +kernel
theorem dX0_judge_47 : decode cX0_judge 47 = .ok (.aload_n 0, 1) := by decide +kernel
theorem dX0_judge_48 : decode cX0_judge 48 = .ok (.getfield 46, 3) := by decide +kernel
theorem dX0_judge_51 : decode cX0_judge 51 = .ok (.iload_n 1, 1) := by decide +kernel
theorem dX0_judge_52 : decode cX0_judge 52 = .ok (.iconst 1, 1) := by decide +kernel
theorem dX0_judge_53 : decode cX0_judge 53 = .ok (.iload_n 2, 1) := by decide +kernel
theorem dX0_judge_54 : decode cX0_judge 54 = .ok (.ifCond .eq 7, 3) := by decide +kernel
theorem dX0_judge_57 : decode cX0_judge 57 = .ok (.iconst 2, 1) := by decide +kernel
theorem dX0_judge_58 : decode cX0_judge 58 = .ok (.goto 4, 3) := by decide +kernel
theorem dX0_judge_61 : decode cX0_judge 61 = .ok (.iconst 0, 1) := by decide +kernel
theorem dX0_judge_62 : decode cX0_judge 62 = .ok (.ior, 1) := by decide +kernel
theorem dX0_judge_63 : decode cX0_judge 63 = .ok (.aload_n 0, 1) := by decide +kernel
theorem dX0_judge_64 : decode cX0_judge 64 = .ok (.iload_n 1, 1) := by decide +kernel
theorem dX0_judge_65 : decode cX0_judge 65 = .ok (.invokevirtual 138, 3) := by decide +kernel
theorem dX0_judge_68 : decode cX0_judge 68 = .ok (.iconst 2, 1) := by decide +kernel
theorem dX0_judge_69 : decode cX0_judge 69 = .ok (.ishl, 1) := by decide +kernel
theorem dX0_judge_70 : decode cX0_judge 70 = .ok (.ior, 1) := by decide +kernel
theorem dX0_judge_71 : decode cX0_judge 71 = .ok (.aload_n 0, 1) := by decide +kernel
theorem dX0_judge_72 : decode cX0_judge 72 = .ok (.getfield 31, 3) := by decide +kernel
theorem dX0_judge_75 : decode cX0_judge 75 = .ok (.iload_n 1, 1) := by decide +kernel
theorem dX0_judge_76 : decode cX0_judge 76 = .ok (.invokevirtual 141, 3) := by decide +kernel
theorem dX0_judge_79 : decode cX0_judge 79 = .ok (.bipush 12, 2) := by decide +kernel
theorem dX0_judge_81 : decode cX0_judge 81 = .ok (.ishl, 1) := by decide +kernel
theorem dX0_judge_82 : decode cX0_judge 82 = .ok (.ior, 1) := by decide +kernel
theorem dX0_judge_83 : decode cX0_judge 83 = .ok (.iastore, 1) := by decide +kernel
theorem dX0_judge_84 : decode cX0_judge 84 = .ok (.aload_n 0, 1) := by decide +kernel
theorem dX0_judge_85 : decode cX0_judge 85 = .ok (.getfield 46, 3) := by decide +kernel
theorem dX0_judge_88 : decode cX0_judge 88 = .ok (.iload_n 1, 1) := by decide +kernel
theorem dX0_judge_89 : decode cX0_judge 89 = .ok (.iaload, 1) := by decide +kernel
theorem dX0_judge_90 : decode cX0_judge 90 = .ok (.ireturn, 1) := by decide +kernel
theorem sX0_judge_0 {a0 a2 : Value} {x : Int32} (h : am_R E d mX0_judge k n 1 [a0, .int x, a2] (.int x :: st) S iv Q) : am_R E d mX0_judge k n 0 [a0, .int x, a2] st S iv Q := am_iload_n dX0_judge_0 rfl rfl h
theorem sX0_judge_1 {ls : List Value} {x : Int32} (kt : x < 0 → am_R E d mX0_judge k n 13 ls st S iv Q) (kf : ¬ x < 0 → am_R E d mX0_judge k n 4 ls st S iv Q) : am_R E d mX0_judge k n 1 ls (.int x :: st) S iv Q := am_if_lt dX0_judge_1 (by decide) kt kf
theorem sX0_judge_4 {a0 a2 : Value} {x : Int32} (h : am_R E d mX0_judge k n 5 [a0, .int x, a2] (.int x :: st) S iv Q) : am_R E d mX0_judge k n 4 [a0, .int x, a2] st S iv Q := am_iload_n dX0_judge_4 rfl rfl h
theorem sX0_judge_5 {a0 a1 a2 : Value} (hv : am_rf a0 = true) (h : am_R E d mX0_judge k n 6 [a0, a1, a2] (a0 :: st) S iv Q) : am_R E d mX0_judge k n 5 [a0, a1, a2] st S iv Q := am_aload_n dX0_judge_5 rfl rfl hv h
theorem sX0_judge_6 {ls : List Value} {a b : Nat} (ha : S.1 a = some (.inl 0)) (hb : S.2.1 a 11 = some b) (h : am_R E d mX0_judge k n 9 ls (.ref b :: st) S iv Q) : am_R E d mX0_judge k n 6 ls (.ref a :: st) S iv Q := am_getR (ci := 0) dX0_judge_6 rfl rfl (by decide) wq_180 uq_0 rfl ha hb h
theorem sX0_judge_9 {ls : List Value} {a m t : Nat} {ty : FieldType} (ha : S.1 a = some (.inr (ty, m))) (ht : am_ti ty = some t) (h : am_R E d mX0_judge k n 10 ls (.int (Int32.ofNat m) :: st) S iv Q) : am_R E d mX0_judge k n 9 ls (.ref a :: st) S iv Q := am_alen dX0_judge_9 ha ht h
theorem sX0_judge_10 {ls : List Value} {x y : Int32} (kt : x < y → am_R E d mX0_judge k n 15 ls st S iv Q) (kf : ¬ x < y → am_R E d mX0_judge k n 13 ls st S iv Q) : am_R E d mX0_judge k n 10 ls (.int y :: .int x :: st) S iv Q := am_icmp_lt dX0_judge_10 (by decide) kt kf
theorem sX0_judge_13 {a0 a1 a2 : Value} (h : am_R E d mX0_judge k n 14 [a0, a1, a2] (.int 0 :: st) S iv Q) : am_R E d mX0_judge k n 13 [a0, a1, a2] st S iv Q := am_iconst dX0_judge_13 (by decide) h
theorem sX0_judge_14 {ls : List Value} {x : Int32} (h : Q (.inl (some (.int x))) S iv) : am_R E d mX0_judge k n 14 ls [.int x] S iv Q := am_ireturn dX0_judge_14 rfl h
theorem sX0_judge_15 {a0 a1 a2 : Value} (hv : am_rf a0 = true) (h : am_R E d mX0_judge k n 16 [a0, a1, a2] (a0 :: st) S iv Q) : am_R E d mX0_judge k n 15 [a0, a1, a2] st S iv Q := am_aload_n dX0_judge_15 rfl rfl hv h
theorem sX0_judge_16 {ls : List Value} {a b : Nat} (ha : S.1 a = some (.inl 0)) (hb : S.2.1 a 11 = some b) (h : am_R E d mX0_judge k n 19 ls (.ref b :: st) S iv Q) : am_R E d mX0_judge k n 16 ls (.ref a :: st) S iv Q := am_getR (ci := 0) dX0_judge_16 rfl rfl (by decide) wq_180 uq_0 rfl ha hb h
theorem sX0_judge_19 {a0 a2 : Value} {x : Int32} (h : am_R E d mX0_judge k n 20 [a0, .int x, a2] (.int x :: st) S iv Q) : am_R E d mX0_judge k n 19 [a0, .int x, a2] st S iv Q := am_iload_n dX0_judge_19 rfl rfl h
theorem sX0_judge_20 {ls : List Value} {a m : Nat} {i : Int32} (ha : S.1 a = some (.inr (.int, m))) (hi : vp_in i m) (h : am_R E d mX0_judge k n 21 ls (.int (iv a i.toNatClampNeg) :: st) S iv Q) : am_R E d mX0_judge k n 20 ls (.int i :: .ref a :: st) S iv Q := am_iaload dX0_judge_20 ha hi h
theorem sX0_judge_21 {ls : List Value} {x : Int32} (kt : ¬ x = 0 → am_R E d mX0_judge k n 84 ls st S iv Q) (kf : x = 0 → am_R E d mX0_judge k n 24 ls st S iv Q) : am_R E d mX0_judge k n 21 ls (.int x :: st) S iv Q := am_if_ne dX0_judge_21 (by decide) kt kf
theorem sX0_judge_24 {a0 a1 a2 : Value} (hv : am_rf a0 = true) (h : am_R E d mX0_judge k n 25 [a0, a1, a2] (a0 :: st) S iv Q) : am_R E d mX0_judge k n 24 [a0, a1, a2] st S iv Q := am_aload_n dX0_judge_24 rfl rfl hv h
theorem sX0_judge_25 {a0 a2 : Value} {x : Int32} (h : am_R E d mX0_judge k n 26 [a0, .int x, a2] (.int x :: st) S iv Q) : am_R E d mX0_judge k n 25 [a0, .int x, a2] st S iv Q := am_iload_n dX0_judge_25 rfl rfl h
theorem sX0_judge_26 {ls : List Value} {x1 : Value} {a : Nat} (ha : S.1 a = some (.inl 0)) (hst : (st.map fun v => v.category).sum ≤ 8) (hM : am_M E d mX0_isSound 0 0 [.ref a, x1] S iv (am_K3 E (d + 1) mX0_judge k n 26 ls st Q)) : am_R E (d + 1) mX0_judge k n 26 ls (x1 :: .ref a :: st) S iv Q := am_cV (ci := 0) (M' := mX0_isSound) (as := [x1]) dX0_judge_26 rfl rfl rfl wq_240 wq_241 wq_242 wq_220 wq_238 hy_X0_isSound (by decide) ha hst (by omega) (by omega) hM
theorem sX0_judge_26_k {ls : List Value} {x1 : Value} {k' n' : Nat} {a : Nat} (ha : S.1 a = some (.inl 0)) (hst : (st.map fun v => v.category).sum ≤ 8) (hM : am_M E d mX0_isSound k' n' [.ref a, x1] S iv (am_K3 E (d + 1) mX0_judge k n 26 ls st Q)) : am_R E (d + 1) mX0_judge (k' + k) (n' + n) 26 ls (x1 :: .ref a :: st) S iv Q := am_cV (ci := 0) (M' := mX0_isSound) (as := [x1]) dX0_judge_26 rfl rfl rfl wq_240 wq_241 wq_242 wq_220 wq_238 hy_X0_isSound (by decide) ha hst (by omega) (by omega) hM
theorem sX0_judge_29 {ls : List Value} {x : Int32} (kt : x = 0 → am_R E d mX0_judge k n 45 ls st S iv Q) (kf : ¬ x = 0 → am_R E d mX0_judge k n 32 ls st S iv Q) : am_R E d mX0_judge k n 29 ls (.int x :: st) S iv Q := am_if_eq dX0_judge_29 (by decide) kt kf
theorem sX0_judge_32 {a0 a1 a2 : Value} (hv : am_rf a0 = true) (h : am_R E d mX0_judge k n 33 [a0, a1, a2] (a0 :: st) S iv Q) : am_R E d mX0_judge k n 32 [a0, a1, a2] st S iv Q := am_aload_n dX0_judge_32 rfl rfl hv h
theorem sX0_judge_33 {a0 a2 : Value} {x : Int32} (h : am_R E d mX0_judge k n 34 [a0, .int x, a2] (.int x :: st) S iv Q) : am_R E d mX0_judge k n 33 [a0, .int x, a2] st S iv Q := am_iload_n dX0_judge_33 rfl rfl h
theorem sX0_judge_34 {ls : List Value} {x1 : Value} {a : Nat} (ha : S.1 a = some (.inl 0)) (hst : (st.map fun v => v.category).sum ≤ 8) (hM : am_M E d mX0_leastBroken 0 0 [.ref a, x1] S iv (am_K3 E (d + 1) mX0_judge k n 34 ls st Q)) : am_R E (d + 1) mX0_judge k n 34 ls (x1 :: .ref a :: st) S iv Q := am_cV (ci := 0) (M' := mX0_leastBroken) (as := [x1]) dX0_judge_34 rfl rfl rfl wq_245 wq_246 wq_247 wq_220 wq_243 hy_X0_leastBroken (by decide) ha hst (by omega) (by omega) hM
theorem sX0_judge_34_k {ls : List Value} {x1 : Value} {k' n' : Nat} {a : Nat} (ha : S.1 a = some (.inl 0)) (hst : (st.map fun v => v.category).sum ≤ 8) (hM : am_M E d mX0_leastBroken k' n' [.ref a, x1] S iv (am_K3 E (d + 1) mX0_judge k n 34 ls st Q)) : am_R E (d + 1) mX0_judge (k' + k) (n' + n) 34 ls (x1 :: .ref a :: st) S iv Q := am_cV (ci := 0) (M' := mX0_leastBroken) (as := [x1]) dX0_judge_34 rfl rfl rfl wq_245 wq_246 wq_247 wq_220 wq_243 hy_X0_leastBroken (by decide) ha hst (by omega) (by omega) hM
theorem sX0_judge_37 {a0 a1 a2 : Value} (h : am_R E d mX0_judge k n 38 [a0, a1, a2] (.int (-1) :: st) S iv Q) : am_R E d mX0_judge k n 37 [a0, a1, a2] st S iv Q := am_iconst dX0_judge_37 (by decide) h
theorem sX0_judge_38 {ls : List Value} {x y : Int32} (kt : ¬ x = y → am_R E d mX0_judge k n 45 ls st S iv Q) (kf : x = y → am_R E d mX0_judge k n 41 ls st S iv Q) : am_R E d mX0_judge k n 38 ls (.int y :: .int x :: st) S iv Q := am_icmp_ne dX0_judge_38 (by decide) kt kf
theorem sX0_judge_41 {a0 a1 a2 : Value} (h : am_R E d mX0_judge k n 42 [a0, a1, a2] (.int 1 :: st) S iv Q) : am_R E d mX0_judge k n 41 [a0, a1, a2] st S iv Q := am_iconst dX0_judge_41 (by decide) h
theorem sX0_judge_42 {ls : List Value} (h : am_R E d mX0_judge k n 46 ls st S iv Q) : am_R E d mX0_judge k n 42 ls st S iv Q := am_goto dX0_judge_42 (by decide) h
theorem sX0_judge_45 {a0 a1 a2 : Value} (h : am_R E d mX0_judge k n 46 [a0, a1, a2] (.int 0 :: st) S iv Q) : am_R E d mX0_judge k n 45 [a0, a1, a2] st S iv Q := am_iconst dX0_judge_45 (by decide) h
theorem sX0_judge_46 {a0 a1 a2 : Value} {x : Int32} (h : am_R E d mX0_judge k n 47 [a0, a1, .int x] st S iv Q) : am_R E d mX0_judge k n 46 [a0, a1, a2] (.int x :: st) S iv Q := am_istore_n dX0_judge_46 rfl (by decide) h
theorem sX0_judge_47 {a0 a1 a2 : Value} (hv : am_rf a0 = true) (h : am_R E d mX0_judge k n 48 [a0, a1, a2] (a0 :: st) S iv Q) : am_R E d mX0_judge k n 47 [a0, a1, a2] st S iv Q := am_aload_n dX0_judge_47 rfl rfl hv h
theorem sX0_judge_48 {ls : List Value} {a b : Nat} (ha : S.1 a = some (.inl 0)) (hb : S.2.1 a 11 = some b) (h : am_R E d mX0_judge k n 51 ls (.ref b :: st) S iv Q) : am_R E d mX0_judge k n 48 ls (.ref a :: st) S iv Q := am_getR (ci := 0) dX0_judge_48 rfl rfl (by decide) wq_180 uq_0 rfl ha hb h
theorem sX0_judge_51 {a0 a2 : Value} {x : Int32} (h : am_R E d mX0_judge k n 52 [a0, .int x, a2] (.int x :: st) S iv Q) : am_R E d mX0_judge k n 51 [a0, .int x, a2] st S iv Q := am_iload_n dX0_judge_51 rfl rfl h
theorem sX0_judge_52 {a0 a1 a2 : Value} (h : am_R E d mX0_judge k n 53 [a0, a1, a2] (.int 1 :: st) S iv Q) : am_R E d mX0_judge k n 52 [a0, a1, a2] st S iv Q := am_iconst dX0_judge_52 (by decide) h
theorem sX0_judge_53 {a0 a1 : Value} {x : Int32} (h : am_R E d mX0_judge k n 54 [a0, a1, .int x] (.int x :: st) S iv Q) : am_R E d mX0_judge k n 53 [a0, a1, .int x] st S iv Q := am_iload_n dX0_judge_53 rfl rfl h
theorem sX0_judge_54 {ls : List Value} {x : Int32} (kt : x = 0 → am_R E d mX0_judge k n 61 ls st S iv Q) (kf : ¬ x = 0 → am_R E d mX0_judge k n 57 ls st S iv Q) : am_R E d mX0_judge k n 54 ls (.int x :: st) S iv Q := am_if_eq dX0_judge_54 (by decide) kt kf
theorem sX0_judge_57 {a0 a1 a2 : Value} (h : am_R E d mX0_judge k n 58 [a0, a1, a2] (.int 2 :: st) S iv Q) : am_R E d mX0_judge k n 57 [a0, a1, a2] st S iv Q := am_iconst dX0_judge_57 (by decide) h
theorem sX0_judge_58 {ls : List Value} (h : am_R E d mX0_judge k n 62 ls st S iv Q) : am_R E d mX0_judge k n 58 ls st S iv Q := am_goto dX0_judge_58 (by decide) h
theorem sX0_judge_61 {a0 a1 a2 : Value} (h : am_R E d mX0_judge k n 62 [a0, a1, a2] (.int 0 :: st) S iv Q) : am_R E d mX0_judge k n 61 [a0, a1, a2] st S iv Q := am_iconst dX0_judge_61 (by decide) h
theorem sX0_judge_62 {ls : List Value} {x y : Int32} (h : am_R E d mX0_judge k n 63 ls (.int (x ||| y) :: st) S iv Q) : am_R E d mX0_judge k n 62 ls (.int y :: .int x :: st) S iv Q := am_ior dX0_judge_62 h
theorem sX0_judge_63 {a0 a1 a2 : Value} (hv : am_rf a0 = true) (h : am_R E d mX0_judge k n 64 [a0, a1, a2] (a0 :: st) S iv Q) : am_R E d mX0_judge k n 63 [a0, a1, a2] st S iv Q := am_aload_n dX0_judge_63 rfl rfl hv h
theorem sX0_judge_64 {a0 a2 : Value} {x : Int32} (h : am_R E d mX0_judge k n 65 [a0, .int x, a2] (.int x :: st) S iv Q) : am_R E d mX0_judge k n 64 [a0, .int x, a2] st S iv Q := am_iload_n dX0_judge_64 rfl rfl h
theorem sX0_judge_65 {ls : List Value} {x1 : Value} {a : Nat} (ha : S.1 a = some (.inl 0)) (hst : (st.map fun v => v.category).sum ≤ 8) (hM : am_M E d mX0_climb 0 0 [.ref a, x1] S iv (am_K3 E (d + 1) mX0_judge k n 65 ls st Q)) : am_R E (d + 1) mX0_judge k n 65 ls (x1 :: .ref a :: st) S iv Q := am_cV (ci := 0) (M' := mX0_climb) (as := [x1]) dX0_judge_65 rfl rfl rfl wq_250 wq_251 wq_252 wq_220 wq_248 hy_X0_climb (by decide) ha hst (by omega) (by omega) hM
theorem sX0_judge_65_k {ls : List Value} {x1 : Value} {k' n' : Nat} {a : Nat} (ha : S.1 a = some (.inl 0)) (hst : (st.map fun v => v.category).sum ≤ 8) (hM : am_M E d mX0_climb k' n' [.ref a, x1] S iv (am_K3 E (d + 1) mX0_judge k n 65 ls st Q)) : am_R E (d + 1) mX0_judge (k' + k) (n' + n) 65 ls (x1 :: .ref a :: st) S iv Q := am_cV (ci := 0) (M' := mX0_climb) (as := [x1]) dX0_judge_65 rfl rfl rfl wq_250 wq_251 wq_252 wq_220 wq_248 hy_X0_climb (by decide) ha hst (by omega) (by omega) hM
theorem sX0_judge_68 {a0 a1 a2 : Value} (h : am_R E d mX0_judge k n 69 [a0, a1, a2] (.int 2 :: st) S iv Q) : am_R E d mX0_judge k n 68 [a0, a1, a2] st S iv Q := am_iconst dX0_judge_68 (by decide) h
theorem sX0_judge_69 {ls : List Value} {x y : Int32} (h : am_R E d mX0_judge k n 70 ls (.int (x <<< (y &&& 31)) :: st) S iv Q) : am_R E d mX0_judge k n 69 ls (.int y :: .int x :: st) S iv Q := am_ishl dX0_judge_69 h
theorem sX0_judge_70 {ls : List Value} {x y : Int32} (h : am_R E d mX0_judge k n 71 ls (.int (x ||| y) :: st) S iv Q) : am_R E d mX0_judge k n 70 ls (.int y :: .int x :: st) S iv Q := am_ior dX0_judge_70 h
theorem sX0_judge_71 {a0 a1 a2 : Value} (hv : am_rf a0 = true) (h : am_R E d mX0_judge k n 72 [a0, a1, a2] (a0 :: st) S iv Q) : am_R E d mX0_judge k n 71 [a0, a1, a2] st S iv Q := am_aload_n dX0_judge_71 rfl rfl hv h
theorem sX0_judge_72 {ls : List Value} {a b : Nat} (ha : S.1 a = some (.inl 0)) (hb : S.2.1 a 8 = some b) (h : am_R E d mX0_judge k n 75 ls (.ref b :: st) S iv Q) : am_R E d mX0_judge k n 72 ls (.ref a :: st) S iv Q := am_getR (ci := 0) dX0_judge_72 rfl rfl (by decide) wq_172 uq_0 rfl ha hb h
theorem sX0_judge_75 {a0 a2 : Value} {x : Int32} (h : am_R E d mX0_judge k n 76 [a0, .int x, a2] (.int x :: st) S iv Q) : am_R E d mX0_judge k n 75 [a0, .int x, a2] st S iv Q := am_iload_n dX0_judge_75 rfl rfl h
theorem sX0_judge_76 {ls : List Value} {x1 : Value} {a : Nat} (ha : S.1 a = some (.inl 4)) (hst : (st.map fun v => v.category).sum ≤ 8) (hM : am_M E d mX4_withBoth 0 0 [.ref a, x1] S iv (am_K3 E (d + 1) mX0_judge k n 76 ls st Q)) : am_R E (d + 1) mX0_judge k n 76 ls (x1 :: .ref a :: st) S iv Q := am_cV (ci := 4) (M' := mX4_withBoth) (as := [x1]) dX0_judge_76 rfl rfl rfl wq_255 wq_256 wq_257 wq_168 wq_253 hy_X4_withBoth (by decide) ha hst (by omega) (by omega) hM
theorem sX0_judge_76_k {ls : List Value} {x1 : Value} {k' n' : Nat} {a : Nat} (ha : S.1 a = some (.inl 4)) (hst : (st.map fun v => v.category).sum ≤ 8) (hM : am_M E d mX4_withBoth k' n' [.ref a, x1] S iv (am_K3 E (d + 1) mX0_judge k n 76 ls st Q)) : am_R E (d + 1) mX0_judge (k' + k) (n' + n) 76 ls (x1 :: .ref a :: st) S iv Q := am_cV (ci := 4) (M' := mX4_withBoth) (as := [x1]) dX0_judge_76 rfl rfl rfl wq_255 wq_256 wq_257 wq_168 wq_253 hy_X4_withBoth (by decide) ha hst (by omega) (by omega) hM
theorem sX0_judge_79 {a0 a1 a2 : Value} (h : am_R E d mX0_judge k n 81 [a0, a1, a2] (.int 12 :: st) S iv Q) : am_R E d mX0_judge k n 79 [a0, a1, a2] st S iv Q := am_bipush dX0_judge_79 (by decide) h
theorem sX0_judge_81 {ls : List Value} {x y : Int32} (h : am_R E d mX0_judge k n 82 ls (.int (x <<< (y &&& 31)) :: st) S iv Q) : am_R E d mX0_judge k n 81 ls (.int y :: .int x :: st) S iv Q := am_ishl dX0_judge_81 h
theorem sX0_judge_82 {ls : List Value} {x y : Int32} (h : am_R E d mX0_judge k n 83 ls (.int (x ||| y) :: st) S iv Q) : am_R E d mX0_judge k n 82 ls (.int y :: .int x :: st) S iv Q := am_ior dX0_judge_82 h
theorem sX0_judge_83 {ls : List Value} {a m : Nat} {i x : Int32} (ha : S.1 a = some (.inr (.int, m))) (hi : vp_in i m) (h : am_R E d mX0_judge k n 84 ls st S (am_w iv a i.toNatClampNeg x) Q) : am_R E d mX0_judge k n 83 ls (.int x :: .int i :: .ref a :: st) S iv Q := am_iastore dX0_judge_83 ha hi h
theorem sX0_judge_84 {a0 a1 a2 : Value} (hv : am_rf a0 = true) (h : am_R E d mX0_judge k n 85 [a0, a1, a2] (a0 :: st) S iv Q) : am_R E d mX0_judge k n 84 [a0, a1, a2] st S iv Q := am_aload_n dX0_judge_84 rfl rfl hv h
theorem sX0_judge_85 {ls : List Value} {a b : Nat} (ha : S.1 a = some (.inl 0)) (hb : S.2.1 a 11 = some b) (h : am_R E d mX0_judge k n 88 ls (.ref b :: st) S iv Q) : am_R E d mX0_judge k n 85 ls (.ref a :: st) S iv Q := am_getR (ci := 0) dX0_judge_85 rfl rfl (by decide) wq_180 uq_0 rfl ha hb h
theorem sX0_judge_88 {a0 a2 : Value} {x : Int32} (h : am_R E d mX0_judge k n 89 [a0, .int x, a2] (.int x :: st) S iv Q) : am_R E d mX0_judge k n 88 [a0, .int x, a2] st S iv Q := am_iload_n dX0_judge_88 rfl rfl h
theorem sX0_judge_89 {ls : List Value} {a m : Nat} {i : Int32} (ha : S.1 a = some (.inr (.int, m))) (hi : vp_in i m) (h : am_R E d mX0_judge k n 90 ls (.int (iv a i.toNatClampNeg) :: st) S iv Q) : am_R E d mX0_judge k n 89 ls (.int i :: .ref a :: st) S iv Q := am_iaload dX0_judge_89 ha hi h
theorem sX0_judge_90 {ls : List Value} {x : Int32} (h : Q (.inl (some (.int x))) S iv) : am_R E d mX0_judge k n 90 ls [.int x] S iv Q := am_ireturn dX0_judge_90 rfl h
theorem dX0_isSound_0 : decode cX0_isSound 0 = .ok (.iload_n 1, 1) := by decide +kernel
theorem dX0_isSound_1 : decode cX0_isSound 1 = .ok (.aload_n 0, 1) := by decide +kernel
theorem dX0_isSound_2 : decode cX0_isSound 2 = .ok (.getfield 24, 3) := by decide +kernel
theorem dX0_isSound_5 : decode cX0_isSound 5 = .ok (.getfield 144, 3) := by decide +kernel
theorem dX0_isSound_8 : decode cX0_isSound 8 = .ok (.iand, 1) := by decide +kernel
theorem dX0_isSound_9 : decode cX0_isSound 9 = .ok (.ifCond .eq 5, 3) := by decide +kernel
theorem dX0_isSound_12 : decode cX0_isSound 12 = .ok (.iconst 0, 1) := by decide +kernel
theorem dX0_isSound_13 : decode cX0_isSound 13 = .ok (.ireturn, 1) := by decide +kernel
theorem dX0_isSound_14 : decode cX0_isSound 14 = .ok (.iconst 0, 1) := by decide +kernel
theorem dX0_isSound_15 : decode cX0_isSound 15 = .ok (.istore_n 2, 1) := by decide +kernel
theorem dX0_isSound_16 : decode cX0_isSound 16 = .ok (.iload_n 2, 1) := by decide +kernel
theorem dX0_isSound_17 : decode cX0_isSound 17 = .ok (.aload_n 0, 1) := by decide +kernel
theorem dX0_isSound_18 : decode cX0_isSound 18 = .ok (.getfield 24, 3) := by decide +kernel
theorem dX0_isSound_21 : decode cX0_isSound 21 = .ok (.getfield 61, 3) := by decide +kernel
theorem dX0_isSound_24 : decode cX0_isSound 24 = .ok (.if_icmp .ge 33, 3) := by decide +kernel
theorem dX0_isSound_27 : decode cX0_isSound 27 = .ok (.iload_n 1, 1) := by decide +kernel
theorem dX0_isSound_28 : decode cX0_isSound 28 = .ok (.iload_n 2, 1) := by decide +kernel
theorem dX0_isSound_29 : decode cX0_isSound 29 = .ok (.ishr, 1) := by decide +kernel
theorem dX0_isSound_30 : decode cX0_isSound 30 = .ok (.iconst 1, 1) := by decide +kernel
theorem dX0_isSound_31 : decode cX0_isSound 31 = .ok (.iand, 1) := by decide +kernel
theorem dX0_isSound_32 : decode cX0_isSound 32 = .ok (.ifCond .eq 19, 3) := by decide +kernel
theorem dX0_isSound_35 : decode cX0_isSound 35 = .ok (.iload_n 1, 1) := by decide +kernel
theorem dX0_isSound_36 : decode cX0_isSound 36 = .ok (.aload_n 0, 1) := by decide +kernel
theorem dX0_isSound_37 : decode cX0_isSound 37 = .ok (.getfield 24, 3) := by decide +kernel
theorem dX0_isSound_40 : decode cX0_isSound 40 = .ok (.getfield 147, 3) := by decide +kernel
theorem dX0_isSound_43 : decode cX0_isSound 43 = .ok (.iload_n 2, 1) := by decide +kernel
theorem dX0_isSound_44 : decode cX0_isSound 44 = .ok (.iaload, 1) := by decide +kernel
theorem dX0_isSound_45 : decode cX0_isSound 45 = .ok (.iand, 1) := by decide +kernel
theorem dX0_isSound_46 : decode cX0_isSound 46 = .ok (.ifCond .eq 5, 3) := by decide +kernel
theorem dX0_isSound_49 : decode cX0_isSound 49 = .ok (.iconst 0, 1) := by decide +kernel
theorem dX0_isSound_50 : decode cX0_isSound 50 = .ok (.ireturn, 1) := by decide +kernel
theorem dX0_isSound_51 : decode cX0_isSound 51 = .ok (.iinc 2 1, 3) := by decide +kernel
theorem dX0_isSound_54 : decode cX0_isSound 54 = .ok (.goto (-38), 3) := by decide +kernel
theorem dX0_isSound_57 : decode cX0_isSound 57 = .ok (.iconst 1, 1) := by decide +kernel
theorem dX0_isSound_58 : decode cX0_isSound 58 = .ok (.ireturn, 1) := by decide +kernel
theorem sX0_isSound_0 {a0 a2 : Value} {x : Int32} (h : am_R E d mX0_isSound k n 1 [a0, .int x, a2] (.int x :: st) S iv Q) : am_R E d mX0_isSound k n 0 [a0, .int x, a2] st S iv Q := am_iload_n dX0_isSound_0 rfl rfl h
theorem sX0_isSound_1 {a0 a1 a2 : Value} (hv : am_rf a0 = true) (h : am_R E d mX0_isSound k n 2 [a0, a1, a2] (a0 :: st) S iv Q) : am_R E d mX0_isSound k n 1 [a0, a1, a2] st S iv Q := am_aload_n dX0_isSound_1 rfl rfl hv h
theorem sX0_isSound_2 {ls : List Value} {a b : Nat} (ha : S.1 a = some (.inl 0)) (hb : S.2.1 a 7 = some b) (h : am_R E d mX0_isSound k n 5 ls (.ref b :: st) S iv Q) : am_R E d mX0_isSound k n 2 ls (.ref a :: st) S iv Q := am_getR (ci := 0) dX0_isSound_2 rfl rfl (by decide) wq_165 uq_0 rfl ha hb h
theorem sX0_isSound_5 {ls : List Value} {a : Nat} (ha : S.1 a = some (.inl 2)) (h : am_R E d mX0_isSound k n 8 ls (.int (iv a 10) :: st) S iv Q) : am_R E d mX0_isSound k n 5 ls (.ref a :: st) S iv Q := am_getI (ci := 2) dX0_isSound_5 rfl rfl (by decide) wq_258 uq_2 rfl ha h
theorem sX0_isSound_8 {ls : List Value} {x y : Int32} (h : am_R E d mX0_isSound k n 9 ls (.int (x &&& y) :: st) S iv Q) : am_R E d mX0_isSound k n 8 ls (.int y :: .int x :: st) S iv Q := am_iand dX0_isSound_8 h
theorem sX0_isSound_9 {ls : List Value} {x : Int32} (kt : x = 0 → am_R E d mX0_isSound k n 14 ls st S iv Q) (kf : ¬ x = 0 → am_R E d mX0_isSound k n 12 ls st S iv Q) : am_R E d mX0_isSound k n 9 ls (.int x :: st) S iv Q := am_if_eq dX0_isSound_9 (by decide) kt kf
theorem sX0_isSound_12 {a0 a1 a2 : Value} (h : am_R E d mX0_isSound k n 13 [a0, a1, a2] (.int 0 :: st) S iv Q) : am_R E d mX0_isSound k n 12 [a0, a1, a2] st S iv Q := am_iconst dX0_isSound_12 (by decide) h
theorem sX0_isSound_13 {ls : List Value} {x : Int32} (hn : narrow .boolean (.int x) = .int x) (h : Q (.inl (some (.int x))) S iv) : am_R E d mX0_isSound k n 13 ls [.int x] S iv Q := am_zreturn dX0_isSound_13 rfl hn h
theorem sX0_isSound_14 {a0 a1 a2 : Value} (h : am_R E d mX0_isSound k n 15 [a0, a1, a2] (.int 0 :: st) S iv Q) : am_R E d mX0_isSound k n 14 [a0, a1, a2] st S iv Q := am_iconst dX0_isSound_14 (by decide) h
theorem sX0_isSound_15 {a0 a1 a2 : Value} {x : Int32} (h : am_R E d mX0_isSound k n 16 [a0, a1, .int x] st S iv Q) : am_R E d mX0_isSound k n 15 [a0, a1, a2] (.int x :: st) S iv Q := am_istore_n dX0_isSound_15 rfl (by decide) h
theorem sX0_isSound_16 {a0 a1 : Value} {x : Int32} (h : am_R E d mX0_isSound k n 17 [a0, a1, .int x] (.int x :: st) S iv Q) : am_R E d mX0_isSound k n 16 [a0, a1, .int x] st S iv Q := am_iload_n dX0_isSound_16 rfl rfl h
theorem sX0_isSound_17 {a0 a1 a2 : Value} (hv : am_rf a0 = true) (h : am_R E d mX0_isSound k n 18 [a0, a1, a2] (a0 :: st) S iv Q) : am_R E d mX0_isSound k n 17 [a0, a1, a2] st S iv Q := am_aload_n dX0_isSound_17 rfl rfl hv h
theorem sX0_isSound_18 {ls : List Value} {a b : Nat} (ha : S.1 a = some (.inl 0)) (hb : S.2.1 a 7 = some b) (h : am_R E d mX0_isSound k n 21 ls (.ref b :: st) S iv Q) : am_R E d mX0_isSound k n 18 ls (.ref a :: st) S iv Q := am_getR (ci := 0) dX0_isSound_18 rfl rfl (by decide) wq_165 uq_0 rfl ha hb h
theorem sX0_isSound_21 {ls : List Value} {a : Nat} (ha : S.1 a = some (.inl 2)) (h : am_R E d mX0_isSound k n 24 ls (.int (iv a 0) :: st) S iv Q) : am_R E d mX0_isSound k n 21 ls (.ref a :: st) S iv Q := am_getI (ci := 2) dX0_isSound_21 rfl rfl (by decide) wq_185 uq_2 rfl ha h
theorem sX0_isSound_24 {ls : List Value} {x y : Int32} (kt : y ≤ x → am_R E d mX0_isSound k n 57 ls st S iv Q) (kf : ¬ y ≤ x → am_R E d mX0_isSound k n 27 ls st S iv Q) : am_R E d mX0_isSound k n 24 ls (.int y :: .int x :: st) S iv Q := am_icmp_ge dX0_isSound_24 (by decide) kt kf
theorem sX0_isSound_27 {a0 a2 : Value} {x : Int32} (h : am_R E d mX0_isSound k n 28 [a0, .int x, a2] (.int x :: st) S iv Q) : am_R E d mX0_isSound k n 27 [a0, .int x, a2] st S iv Q := am_iload_n dX0_isSound_27 rfl rfl h
theorem sX0_isSound_28 {a0 a1 : Value} {x : Int32} (h : am_R E d mX0_isSound k n 29 [a0, a1, .int x] (.int x :: st) S iv Q) : am_R E d mX0_isSound k n 28 [a0, a1, .int x] st S iv Q := am_iload_n dX0_isSound_28 rfl rfl h
theorem sX0_isSound_29 {ls : List Value} {x y : Int32} (h : am_R E d mX0_isSound k n 30 ls (.int (x >>> (y &&& 31)) :: st) S iv Q) : am_R E d mX0_isSound k n 29 ls (.int y :: .int x :: st) S iv Q := am_ishr dX0_isSound_29 h
theorem sX0_isSound_30 {a0 a1 a2 : Value} (h : am_R E d mX0_isSound k n 31 [a0, a1, a2] (.int 1 :: st) S iv Q) : am_R E d mX0_isSound k n 30 [a0, a1, a2] st S iv Q := am_iconst dX0_isSound_30 (by decide) h
theorem sX0_isSound_31 {ls : List Value} {x y : Int32} (h : am_R E d mX0_isSound k n 32 ls (.int (x &&& y) :: st) S iv Q) : am_R E d mX0_isSound k n 31 ls (.int y :: .int x :: st) S iv Q := am_iand dX0_isSound_31 h
theorem sX0_isSound_32 {ls : List Value} {x : Int32} (kt : x = 0 → am_R E d mX0_isSound k n 51 ls st S iv Q) (kf : ¬ x = 0 → am_R E d mX0_isSound k n 35 ls st S iv Q) : am_R E d mX0_isSound k n 32 ls (.int x :: st) S iv Q := am_if_eq dX0_isSound_32 (by decide) kt kf
theorem sX0_isSound_35 {a0 a2 : Value} {x : Int32} (h : am_R E d mX0_isSound k n 36 [a0, .int x, a2] (.int x :: st) S iv Q) : am_R E d mX0_isSound k n 35 [a0, .int x, a2] st S iv Q := am_iload_n dX0_isSound_35 rfl rfl h
theorem sX0_isSound_36 {a0 a1 a2 : Value} (hv : am_rf a0 = true) (h : am_R E d mX0_isSound k n 37 [a0, a1, a2] (a0 :: st) S iv Q) : am_R E d mX0_isSound k n 36 [a0, a1, a2] st S iv Q := am_aload_n dX0_isSound_36 rfl rfl hv h
theorem sX0_isSound_37 {ls : List Value} {a b : Nat} (ha : S.1 a = some (.inl 0)) (hb : S.2.1 a 7 = some b) (h : am_R E d mX0_isSound k n 40 ls (.ref b :: st) S iv Q) : am_R E d mX0_isSound k n 37 ls (.ref a :: st) S iv Q := am_getR (ci := 0) dX0_isSound_37 rfl rfl (by decide) wq_165 uq_0 rfl ha hb h
theorem sX0_isSound_40 {ls : List Value} {a b : Nat} (ha : S.1 a = some (.inl 2)) (hb : S.2.1 a 7 = some b) (h : am_R E d mX0_isSound k n 43 ls (.ref b :: st) S iv Q) : am_R E d mX0_isSound k n 40 ls (.ref a :: st) S iv Q := am_getR (ci := 2) dX0_isSound_40 rfl rfl (by decide) wq_259 uq_2 rfl ha hb h
theorem sX0_isSound_43 {a0 a1 : Value} {x : Int32} (h : am_R E d mX0_isSound k n 44 [a0, a1, .int x] (.int x :: st) S iv Q) : am_R E d mX0_isSound k n 43 [a0, a1, .int x] st S iv Q := am_iload_n dX0_isSound_43 rfl rfl h
theorem sX0_isSound_44 {ls : List Value} {a m : Nat} {i : Int32} (ha : S.1 a = some (.inr (.int, m))) (hi : vp_in i m) (h : am_R E d mX0_isSound k n 45 ls (.int (iv a i.toNatClampNeg) :: st) S iv Q) : am_R E d mX0_isSound k n 44 ls (.int i :: .ref a :: st) S iv Q := am_iaload dX0_isSound_44 ha hi h
theorem sX0_isSound_45 {ls : List Value} {x y : Int32} (h : am_R E d mX0_isSound k n 46 ls (.int (x &&& y) :: st) S iv Q) : am_R E d mX0_isSound k n 45 ls (.int y :: .int x :: st) S iv Q := am_iand dX0_isSound_45 h
theorem sX0_isSound_46 {ls : List Value} {x : Int32} (kt : x = 0 → am_R E d mX0_isSound k n 51 ls st S iv Q) (kf : ¬ x = 0 → am_R E d mX0_isSound k n 49 ls st S iv Q) : am_R E d mX0_isSound k n 46 ls (.int x :: st) S iv Q := am_if_eq dX0_isSound_46 (by decide) kt kf
theorem sX0_isSound_49 {a0 a1 a2 : Value} (h : am_R E d mX0_isSound k n 50 [a0, a1, a2] (.int 0 :: st) S iv Q) : am_R E d mX0_isSound k n 49 [a0, a1, a2] st S iv Q := am_iconst dX0_isSound_49 (by decide) h
theorem sX0_isSound_50 {ls : List Value} {x : Int32} (hn : narrow .boolean (.int x) = .int x) (h : Q (.inl (some (.int x))) S iv) : am_R E d mX0_isSound k n 50 ls [.int x] S iv Q := am_zreturn dX0_isSound_50 rfl hn h
theorem sX0_isSound_51 {a0 a1 : Value} {x : Int32} (h : am_R E d mX0_isSound k n 54 [a0, a1, .int (x + 1)] st S iv Q) : am_R E d mX0_isSound k n 51 [a0, a1, .int x] st S iv Q := am_iinc dX0_isSound_51 rfl rfl (by decide) h
theorem sX0_isSound_54 {ls : List Value} (h : am_R E d mX0_isSound k n 16 ls st S iv Q) : am_R E d mX0_isSound k n 54 ls st S iv Q := am_goto dX0_isSound_54 (by decide) h
theorem sX0_isSound_57 {a0 a1 a2 : Value} (h : am_R E d mX0_isSound k n 58 [a0, a1, a2] (.int 1 :: st) S iv Q) : am_R E d mX0_isSound k n 57 [a0, a1, a2] st S iv Q := am_iconst dX0_isSound_57 (by decide) h
theorem sX0_isSound_58 {ls : List Value} {x : Int32} (hn : narrow .boolean (.int x) = .int x) (h : Q (.inl (some (.int x))) S iv) : am_R E d mX0_isSound k n 58 ls [.int x] S iv Q := am_zreturn dX0_isSound_58 rfl hn h
theorem dX0_climb_0 : decode cX0_climb 0 = .ok (.iconst 0, 1) := by decide +kernel
theorem dX0_climb_1 : decode cX0_climb 1 = .ok (.istore_n 2, 1) := by decide +kernel
theorem dX0_climb_2 : decode cX0_climb 2 = .ok (.iconst 0, 1) := by decide +kernel
theorem dX0_climb_3 : decode cX0_climb 3 = .ok (.istore_n 3, 1) := by decide +kernel
theorem dX0_climb_4 : decode cX0_climb 4 = .ok (.iload_n 3, 1) := by decide +kernel
theorem dX0_climb_5 : decode cX0_climb 5 = .ok (.aload_n 0, 1) := by decide +kernel
theorem dX0_climb_6 : decode cX0_climb 6 = .ok (.getfield 15, 3) := by decide +kernel
theorem dX0_climb_9 : decode cX0_climb 9 = .ok (.if_icmp .ge 76, 3) := by decide +kernel
theorem dX0_climb_12 : decode cX0_climb 12 = .ok (.iconst 0, 1) := by decide +kernel
theorem dX0_climb_13 : decode cX0_climb 13 = .ok (.istore 4, 2) := by decide +kernel
theorem dX0_climb_15 : decode cX0_climb 15 = .ok (.iload 4, 2) := by decide +kernel
theorem dX0_climb_17 : decode cX0_climb 17 = .ok (.aload_n 0, 1) := by decide +kernel
theorem dX0_climb_18 : decode cX0_climb 18 = .ok (.getfield 24, 3) := by decide +kernel
theorem dX0_climb_21 : decode cX0_climb 21 = .ok (.getfield 61, 3) := by decide +kernel
theorem dX0_climb_24 : decode cX0_climb 24 = .ok (.if_icmp .ge 55, 3) := by decide +kernel
theorem dX0_climb_27 : decode cX0_climb 27 = .ok (.aload_n 0, 1) := by decide +kernel
theorem dX0_climb_28 : decode cX0_climb 28 = .ok (.getfield 24, 3) := by decide +kernel
theorem dX0_climb_31 : decode cX0_climb 31 = .ok (.getfield 115, 3) := by decide +kernel
theorem dX0_climb_34 : decode cX0_climb 34 = .ok (.iload 4, 2) := by decide +kernel
theorem dX0_climb_36 : decode cX0_climb 36 = .ok (.iaload, 1) := by decide +kernel
theorem dX0_climb_37 : decode cX0_climb 37 = .ok (.iload_n 3, 1) := by decide +kernel
theorem dX0_climb_38 : decode cX0_climb 38 = .ok (.if_icmp .ne 35, 3) := by decide +kernel
theorem dX0_climb_41 : decode cX0_climb 41 = .ok (.iload_n 3, 1) := by decide +kernel
theorem dX0_climb_42 : decode cX0_climb 42 = .ok (.aload_n 0, 1) := by decide +kernel
theorem dX0_climb_43 : decode cX0_climb 43 = .ok (.getfield 18, 3) := by decide +kernel
theorem dX0_climb_46 : decode cX0_climb 46 = .ok (.if_icmp .lt 20, 3) := by decide +kernel
theorem dX0_climb_49 : decode cX0_climb 49 = .ok (.iload_n 1, 1) := by decide +kernel
theorem dX0_climb_50 : decode cX0_climb 50 = .ok (.iload_n 2, 1) := by decide +kernel
theorem dX0_climb_51 : decode cX0_climb 51 = .ok (.iand, 1) := by decide +kernel
theorem dX0_climb_52 : decode cX0_climb 52 = .ok (.aload_n 0, 1) := by decide +kernel
theorem dX0_climb_53 : decode cX0_climb 53 = .ok (.getfield 24, 3) := by decide +kernel
theorem dX0_climb_56 : decode cX0_climb 56 = .ok (.getfield 150, 3) := by decide +kernel
theorem dX0_climb_59 : decode cX0_climb 59 = .ok (.iload 4, 2) := by decide +kernel
theorem dX0_climb_61 : decode cX0_climb 61 = .ok (.iaload, 1) := by decide +kernel
theorem dX0_climb_62 : decode cX0_climb 62 = .ok (.iand, 1) := by decide +kernel
theorem dX0_climb_63 : decode cX0_climb 63 = .ok (.ifCond .eq 10, 3) := by decide +kernel
theorem dX0_climb_66 : decode cX0_climb 66 = .ok (.iload_n 2, 1) := by decide +kernel
theorem dX0_climb_67 : decode cX0_climb 67 = .ok (.iconst 1, 1) := by decide +kernel
theorem dX0_climb_68 : decode cX0_climb 68 = .ok (.iload 4, 2) := by decide +kernel
theorem dX0_climb_70 : decode cX0_climb 70 = .ok (.ishl, 1) := by decide +kernel
theorem dX0_climb_71 : decode cX0_climb 71 = .ok (.ior, 1) := by decide +kernel
theorem dX0_climb_72 : decode cX0_climb 72 = .ok (.istore_n 2, 1) := by decide +kernel
theorem dX0_climb_73 : decode cX0_climb 73 = .ok (.iinc 4 1, 3) := by decide +kernel
theorem dX0_climb_76 : decode cX0_climb 76 = .ok (.goto (-61), 3) := by decide +kernel
theorem dX0_climb_79 : decode cX0_climb 79 = .ok (.iinc 3 1, 3) := by decide +kernel
theorem dX0_climb_82 : decode cX0_climb 82 = .ok (.goto (-78), 3) := by decide +kernel
theorem dX0_climb_85 : decode cX0_climb 85 = .ok (.iload_n 2, 1) := by decide +kernel
theorem dX0_climb_86 : decode cX0_climb 86 = .ok (.ireturn, 1) := by decide +kernel
theorem sX0_climb_0 {a0 a1 a2 a3 a4 : Value} (h : am_R E d mX0_climb k n 1 [a0, a1, a2, a3, a4] (.int 0 :: st) S iv Q) : am_R E d mX0_climb k n 0 [a0, a1, a2, a3, a4] st S iv Q := am_iconst dX0_climb_0 (by decide) h
theorem sX0_climb_1 {a0 a1 a2 a3 a4 : Value} {x : Int32} (h : am_R E d mX0_climb k n 2 [a0, a1, .int x, a3, a4] st S iv Q) : am_R E d mX0_climb k n 1 [a0, a1, a2, a3, a4] (.int x :: st) S iv Q := am_istore_n dX0_climb_1 rfl (by decide) h
theorem sX0_climb_2 {a0 a1 a2 a3 a4 : Value} (h : am_R E d mX0_climb k n 3 [a0, a1, a2, a3, a4] (.int 0 :: st) S iv Q) : am_R E d mX0_climb k n 2 [a0, a1, a2, a3, a4] st S iv Q := am_iconst dX0_climb_2 (by decide) h
theorem sX0_climb_3 {a0 a1 a2 a3 a4 : Value} {x : Int32} (h : am_R E d mX0_climb k n 4 [a0, a1, a2, .int x, a4] st S iv Q) : am_R E d mX0_climb k n 3 [a0, a1, a2, a3, a4] (.int x :: st) S iv Q := am_istore_n dX0_climb_3 rfl (by decide) h
theorem sX0_climb_4 {a0 a1 a2 a4 : Value} {x : Int32} (h : am_R E d mX0_climb k n 5 [a0, a1, a2, .int x, a4] (.int x :: st) S iv Q) : am_R E d mX0_climb k n 4 [a0, a1, a2, .int x, a4] st S iv Q := am_iload_n dX0_climb_4 rfl rfl h
theorem sX0_climb_5 {a0 a1 a2 a3 a4 : Value} (hv : am_rf a0 = true) (h : am_R E d mX0_climb k n 6 [a0, a1, a2, a3, a4] (a0 :: st) S iv Q) : am_R E d mX0_climb k n 5 [a0, a1, a2, a3, a4] st S iv Q := am_aload_n dX0_climb_5 rfl rfl hv h
theorem sX0_climb_6 {ls : List Value} {a : Nat} (ha : S.1 a = some (.inl 0)) (h : am_R E d mX0_climb k n 9 ls (.int (iv a 1) :: st) S iv Q) : am_R E d mX0_climb k n 6 ls (.ref a :: st) S iv Q := am_getI (ci := 0) dX0_climb_6 rfl rfl (by decide) wq_158 uq_0 rfl ha h
theorem sX0_climb_9 {ls : List Value} {x y : Int32} (kt : y ≤ x → am_R E d mX0_climb k n 85 ls st S iv Q) (kf : ¬ y ≤ x → am_R E d mX0_climb k n 12 ls st S iv Q) : am_R E d mX0_climb k n 9 ls (.int y :: .int x :: st) S iv Q := am_icmp_ge dX0_climb_9 (by decide) kt kf
theorem sX0_climb_12 {a0 a1 a2 a3 a4 : Value} (h : am_R E d mX0_climb k n 13 [a0, a1, a2, a3, a4] (.int 0 :: st) S iv Q) : am_R E d mX0_climb k n 12 [a0, a1, a2, a3, a4] st S iv Q := am_iconst dX0_climb_12 (by decide) h
theorem sX0_climb_13 {a0 a1 a2 a3 a4 : Value} {x : Int32} (h : am_R E d mX0_climb k n 15 [a0, a1, a2, a3, .int x] st S iv Q) : am_R E d mX0_climb k n 13 [a0, a1, a2, a3, a4] (.int x :: st) S iv Q := am_istore dX0_climb_13 (by decide) h
theorem sX0_climb_15 {a0 a1 a2 a3 : Value} {x : Int32} (h : am_R E d mX0_climb k n 17 [a0, a1, a2, a3, .int x] (.int x :: st) S iv Q) : am_R E d mX0_climb k n 15 [a0, a1, a2, a3, .int x] st S iv Q := am_iload dX0_climb_15 rfl h
theorem sX0_climb_17 {a0 a1 a2 a3 a4 : Value} (hv : am_rf a0 = true) (h : am_R E d mX0_climb k n 18 [a0, a1, a2, a3, a4] (a0 :: st) S iv Q) : am_R E d mX0_climb k n 17 [a0, a1, a2, a3, a4] st S iv Q := am_aload_n dX0_climb_17 rfl rfl hv h
theorem sX0_climb_18 {ls : List Value} {a b : Nat} (ha : S.1 a = some (.inl 0)) (hb : S.2.1 a 7 = some b) (h : am_R E d mX0_climb k n 21 ls (.ref b :: st) S iv Q) : am_R E d mX0_climb k n 18 ls (.ref a :: st) S iv Q := am_getR (ci := 0) dX0_climb_18 rfl rfl (by decide) wq_165 uq_0 rfl ha hb h
theorem sX0_climb_21 {ls : List Value} {a : Nat} (ha : S.1 a = some (.inl 2)) (h : am_R E d mX0_climb k n 24 ls (.int (iv a 0) :: st) S iv Q) : am_R E d mX0_climb k n 21 ls (.ref a :: st) S iv Q := am_getI (ci := 2) dX0_climb_21 rfl rfl (by decide) wq_185 uq_2 rfl ha h
theorem sX0_climb_24 {ls : List Value} {x y : Int32} (kt : y ≤ x → am_R E d mX0_climb k n 79 ls st S iv Q) (kf : ¬ y ≤ x → am_R E d mX0_climb k n 27 ls st S iv Q) : am_R E d mX0_climb k n 24 ls (.int y :: .int x :: st) S iv Q := am_icmp_ge dX0_climb_24 (by decide) kt kf
theorem sX0_climb_27 {a0 a1 a2 a3 a4 : Value} (hv : am_rf a0 = true) (h : am_R E d mX0_climb k n 28 [a0, a1, a2, a3, a4] (a0 :: st) S iv Q) : am_R E d mX0_climb k n 27 [a0, a1, a2, a3, a4] st S iv Q := am_aload_n dX0_climb_27 rfl rfl hv h
theorem sX0_climb_28 {ls : List Value} {a b : Nat} (ha : S.1 a = some (.inl 0)) (hb : S.2.1 a 7 = some b) (h : am_R E d mX0_climb k n 31 ls (.ref b :: st) S iv Q) : am_R E d mX0_climb k n 28 ls (.ref a :: st) S iv Q := am_getR (ci := 0) dX0_climb_28 rfl rfl (by decide) wq_165 uq_0 rfl ha hb h
theorem sX0_climb_31 {ls : List Value} {a b : Nat} (ha : S.1 a = some (.inl 2)) (hb : S.2.1 a 4 = some b) (h : am_R E d mX0_climb k n 34 ls (.ref b :: st) S iv Q) : am_R E d mX0_climb k n 31 ls (.ref a :: st) S iv Q := am_getR (ci := 2) dX0_climb_31 rfl rfl (by decide) wq_226 uq_2 rfl ha hb h
theorem sX0_climb_34 {a0 a1 a2 a3 : Value} {x : Int32} (h : am_R E d mX0_climb k n 36 [a0, a1, a2, a3, .int x] (.int x :: st) S iv Q) : am_R E d mX0_climb k n 34 [a0, a1, a2, a3, .int x] st S iv Q := am_iload dX0_climb_34 rfl h
theorem sX0_climb_36 {ls : List Value} {a m : Nat} {i : Int32} (ha : S.1 a = some (.inr (.int, m))) (hi : vp_in i m) (h : am_R E d mX0_climb k n 37 ls (.int (iv a i.toNatClampNeg) :: st) S iv Q) : am_R E d mX0_climb k n 36 ls (.int i :: .ref a :: st) S iv Q := am_iaload dX0_climb_36 ha hi h
theorem sX0_climb_37 {a0 a1 a2 a4 : Value} {x : Int32} (h : am_R E d mX0_climb k n 38 [a0, a1, a2, .int x, a4] (.int x :: st) S iv Q) : am_R E d mX0_climb k n 37 [a0, a1, a2, .int x, a4] st S iv Q := am_iload_n dX0_climb_37 rfl rfl h
theorem sX0_climb_38 {ls : List Value} {x y : Int32} (kt : ¬ x = y → am_R E d mX0_climb k n 73 ls st S iv Q) (kf : x = y → am_R E d mX0_climb k n 41 ls st S iv Q) : am_R E d mX0_climb k n 38 ls (.int y :: .int x :: st) S iv Q := am_icmp_ne dX0_climb_38 (by decide) kt kf
theorem sX0_climb_41 {a0 a1 a2 a4 : Value} {x : Int32} (h : am_R E d mX0_climb k n 42 [a0, a1, a2, .int x, a4] (.int x :: st) S iv Q) : am_R E d mX0_climb k n 41 [a0, a1, a2, .int x, a4] st S iv Q := am_iload_n dX0_climb_41 rfl rfl h
theorem sX0_climb_42 {a0 a1 a2 a3 a4 : Value} (hv : am_rf a0 = true) (h : am_R E d mX0_climb k n 43 [a0, a1, a2, a3, a4] (a0 :: st) S iv Q) : am_R E d mX0_climb k n 42 [a0, a1, a2, a3, a4] st S iv Q := am_aload_n dX0_climb_42 rfl rfl hv h
theorem sX0_climb_43 {ls : List Value} {a : Nat} (ha : S.1 a = some (.inl 0)) (h : am_R E d mX0_climb k n 46 ls (.int (iv a 2) :: st) S iv Q) : am_R E d mX0_climb k n 43 ls (.ref a :: st) S iv Q := am_getI (ci := 0) dX0_climb_43 rfl rfl (by decide) wq_159 uq_0 rfl ha h
theorem sX0_climb_46 {ls : List Value} {x y : Int32} (kt : x < y → am_R E d mX0_climb k n 66 ls st S iv Q) (kf : ¬ x < y → am_R E d mX0_climb k n 49 ls st S iv Q) : am_R E d mX0_climb k n 46 ls (.int y :: .int x :: st) S iv Q := am_icmp_lt dX0_climb_46 (by decide) kt kf
theorem sX0_climb_49 {a0 a2 a3 a4 : Value} {x : Int32} (h : am_R E d mX0_climb k n 50 [a0, .int x, a2, a3, a4] (.int x :: st) S iv Q) : am_R E d mX0_climb k n 49 [a0, .int x, a2, a3, a4] st S iv Q := am_iload_n dX0_climb_49 rfl rfl h
theorem sX0_climb_50 {a0 a1 a3 a4 : Value} {x : Int32} (h : am_R E d mX0_climb k n 51 [a0, a1, .int x, a3, a4] (.int x :: st) S iv Q) : am_R E d mX0_climb k n 50 [a0, a1, .int x, a3, a4] st S iv Q := am_iload_n dX0_climb_50 rfl rfl h
theorem sX0_climb_51 {ls : List Value} {x y : Int32} (h : am_R E d mX0_climb k n 52 ls (.int (x &&& y) :: st) S iv Q) : am_R E d mX0_climb k n 51 ls (.int y :: .int x :: st) S iv Q := am_iand dX0_climb_51 h
theorem sX0_climb_52 {a0 a1 a2 a3 a4 : Value} (hv : am_rf a0 = true) (h : am_R E d mX0_climb k n 53 [a0, a1, a2, a3, a4] (a0 :: st) S iv Q) : am_R E d mX0_climb k n 52 [a0, a1, a2, a3, a4] st S iv Q := am_aload_n dX0_climb_52 rfl rfl hv h
theorem sX0_climb_53 {ls : List Value} {a b : Nat} (ha : S.1 a = some (.inl 0)) (hb : S.2.1 a 7 = some b) (h : am_R E d mX0_climb k n 56 ls (.ref b :: st) S iv Q) : am_R E d mX0_climb k n 53 ls (.ref a :: st) S iv Q := am_getR (ci := 0) dX0_climb_53 rfl rfl (by decide) wq_165 uq_0 rfl ha hb h
theorem sX0_climb_56 {ls : List Value} {a b : Nat} (ha : S.1 a = some (.inl 2)) (hb : S.2.1 a 8 = some b) (h : am_R E d mX0_climb k n 59 ls (.ref b :: st) S iv Q) : am_R E d mX0_climb k n 56 ls (.ref a :: st) S iv Q := am_getR (ci := 2) dX0_climb_56 rfl rfl (by decide) wq_260 uq_2 rfl ha hb h
theorem sX0_climb_59 {a0 a1 a2 a3 : Value} {x : Int32} (h : am_R E d mX0_climb k n 61 [a0, a1, a2, a3, .int x] (.int x :: st) S iv Q) : am_R E d mX0_climb k n 59 [a0, a1, a2, a3, .int x] st S iv Q := am_iload dX0_climb_59 rfl h
theorem sX0_climb_61 {ls : List Value} {a m : Nat} {i : Int32} (ha : S.1 a = some (.inr (.int, m))) (hi : vp_in i m) (h : am_R E d mX0_climb k n 62 ls (.int (iv a i.toNatClampNeg) :: st) S iv Q) : am_R E d mX0_climb k n 61 ls (.int i :: .ref a :: st) S iv Q := am_iaload dX0_climb_61 ha hi h
theorem sX0_climb_62 {ls : List Value} {x y : Int32} (h : am_R E d mX0_climb k n 63 ls (.int (x &&& y) :: st) S iv Q) : am_R E d mX0_climb k n 62 ls (.int y :: .int x :: st) S iv Q := am_iand dX0_climb_62 h
theorem sX0_climb_63 {ls : List Value} {x : Int32} (kt : x = 0 → am_R E d mX0_climb k n 73 ls st S iv Q) (kf : ¬ x = 0 → am_R E d mX0_climb k n 66 ls st S iv Q) : am_R E d mX0_climb k n 63 ls (.int x :: st) S iv Q := am_if_eq dX0_climb_63 (by decide) kt kf
theorem sX0_climb_66 {a0 a1 a3 a4 : Value} {x : Int32} (h : am_R E d mX0_climb k n 67 [a0, a1, .int x, a3, a4] (.int x :: st) S iv Q) : am_R E d mX0_climb k n 66 [a0, a1, .int x, a3, a4] st S iv Q := am_iload_n dX0_climb_66 rfl rfl h
theorem sX0_climb_67 {a0 a1 a2 a3 a4 : Value} (h : am_R E d mX0_climb k n 68 [a0, a1, a2, a3, a4] (.int 1 :: st) S iv Q) : am_R E d mX0_climb k n 67 [a0, a1, a2, a3, a4] st S iv Q := am_iconst dX0_climb_67 (by decide) h
theorem sX0_climb_68 {a0 a1 a2 a3 : Value} {x : Int32} (h : am_R E d mX0_climb k n 70 [a0, a1, a2, a3, .int x] (.int x :: st) S iv Q) : am_R E d mX0_climb k n 68 [a0, a1, a2, a3, .int x] st S iv Q := am_iload dX0_climb_68 rfl h
theorem sX0_climb_70 {ls : List Value} {x y : Int32} (h : am_R E d mX0_climb k n 71 ls (.int (x <<< (y &&& 31)) :: st) S iv Q) : am_R E d mX0_climb k n 70 ls (.int y :: .int x :: st) S iv Q := am_ishl dX0_climb_70 h
theorem sX0_climb_71 {ls : List Value} {x y : Int32} (h : am_R E d mX0_climb k n 72 ls (.int (x ||| y) :: st) S iv Q) : am_R E d mX0_climb k n 71 ls (.int y :: .int x :: st) S iv Q := am_ior dX0_climb_71 h
theorem sX0_climb_72 {a0 a1 a2 a3 a4 : Value} {x : Int32} (h : am_R E d mX0_climb k n 73 [a0, a1, .int x, a3, a4] st S iv Q) : am_R E d mX0_climb k n 72 [a0, a1, a2, a3, a4] (.int x :: st) S iv Q := am_istore_n dX0_climb_72 rfl (by decide) h
theorem sX0_climb_73 {a0 a1 a2 a3 : Value} {x : Int32} (h : am_R E d mX0_climb k n 76 [a0, a1, a2, a3, .int (x + 1)] st S iv Q) : am_R E d mX0_climb k n 73 [a0, a1, a2, a3, .int x] st S iv Q := am_iinc dX0_climb_73 rfl rfl (by decide) h
theorem sX0_climb_76 {ls : List Value} (h : am_R E d mX0_climb k n 15 ls st S iv Q) : am_R E d mX0_climb k n 76 ls st S iv Q := am_goto dX0_climb_76 (by decide) h
theorem sX0_climb_79 {a0 a1 a2 a4 : Value} {x : Int32} (h : am_R E d mX0_climb k n 82 [a0, a1, a2, .int (x + 1), a4] st S iv Q) : am_R E d mX0_climb k n 79 [a0, a1, a2, .int x, a4] st S iv Q := am_iinc dX0_climb_79 rfl rfl (by decide) h
theorem sX0_climb_82 {ls : List Value} (h : am_R E d mX0_climb k n 4 ls st S iv Q) : am_R E d mX0_climb k n 82 ls st S iv Q := am_goto dX0_climb_82 (by decide) h
theorem sX0_climb_85 {a0 a1 a3 a4 : Value} {x : Int32} (h : am_R E d mX0_climb k n 86 [a0, a1, .int x, a3, a4] (.int x :: st) S iv Q) : am_R E d mX0_climb k n 85 [a0, a1, .int x, a3, a4] st S iv Q := am_iload_n dX0_climb_85 rfl rfl h
theorem sX0_climb_86 {ls : List Value} {x : Int32} (h : Q (.inl (some (.int x))) S iv) : am_R E d mX0_climb k n 86 ls [.int x] S iv Q := am_ireturn dX0_climb_86 rfl h
theorem dX0_leastBroken_0 : decode cX0_leastBroken 0 = .ok (.aload_n 0, 1) := by decide +kernel
theorem dX0_leastBroken_1 : decode cX0_leastBroken 1 = .ok (.getfield 38, 3) := by decide +kernel
theorem dX0_leastBroken_4 : decode cX0_leastBroken 4 = .ok (.getfield 153, 3) := by decide +kernel
theorem dX0_leastBroken_7 : decode cX0_leastBroken 7 = .ok (.istore_n 2, 1) := by decide +kernel
theorem dX0_leastBroken_8 : decode cX0_leastBroken 8 = .ok (.iconst 0, 1) := by decide +kernel
theorem dX0_leastBroken_9 : decode cX0_leastBroken 9 = .ok (.istore_n 3, 1) := by decide +kernel
theorem dX0_leastBroken_10 : decode cX0_leastBroken 10 = .ok (.iload_n 3, 1) := by decide +kernel
theorem dX0_leastBroken_11 : decode cX0_leastBroken 11 = .ok (.aload_n 0, 1) := by decide +kernel
theorem dX0_leastBroken_12 : decode cX0_leastBroken 12 = .ok (.getfield 24, 3) := by decide +kernel
theorem dX0_leastBroken_15 : decode cX0_leastBroken 15 = .ok (.getfield 61, 3) := by decide +kernel
theorem dX0_leastBroken_18 : decode cX0_leastBroken 18 = .ok (.if_icmp .ge 64, 3) := by decide +kernel
theorem dX0_leastBroken_21 : decode cX0_leastBroken 21 = .ok (.iload_n 2, 1) := by decide +kernel
theorem dX0_leastBroken_22 : decode cX0_leastBroken 22 = .ok (.ifCond .le 60, 3) := by decide +kernel
theorem dX0_leastBroken_25 : decode cX0_leastBroken 25 = .ok (.iload_n 1, 1) := by decide +kernel
theorem dX0_leastBroken_26 : decode cX0_leastBroken 26 = .ok (.iload_n 3, 1) := by decide +kernel
theorem dX0_leastBroken_27 : decode cX0_leastBroken 27 = .ok (.ishr, 1) := by decide +kernel
theorem dX0_leastBroken_28 : decode cX0_leastBroken 28 = .ok (.iconst 1, 1) := by decide +kernel
theorem dX0_leastBroken_29 : decode cX0_leastBroken 29 = .ok (.iand, 1) := by decide +kernel
theorem dX0_leastBroken_30 : decode cX0_leastBroken 30 = .ok (.ifCond .ne 6, 3) := by decide +kernel
theorem dX0_leastBroken_33 : decode cX0_leastBroken 33 = .ok (.goto 43, 3) := by decide +kernel
theorem dX0_leastBroken_36 : decode cX0_leastBroken 36 = .ok (.aload_n 0, 1) := by decide +kernel
theorem dX0_leastBroken_37 : decode cX0_leastBroken 37 = .ok (.iload_n 3, 1) := by decide +kernel
theorem dX0_leastBroken_38 : decode cX0_leastBroken 38 = .ok (.iload_n 1, 1) := by decide +kernel
theorem dX0_leastBroken_39 : decode cX0_leastBroken 39 = .ok (.invokevirtual 154, 3) := by decide +kernel
theorem dX0_leastBroken_42 : decode cX0_leastBroken 42 = .ok (.iconst 0, 1) := by decide +kernel
theorem dX0_leastBroken_43 : decode cX0_leastBroken 43 = .ok (.istore 4, 2) := by decide +kernel
theorem dX0_leastBroken_45 : decode cX0_leastBroken 45 = .ok (.iload 4, 2) := by decide +kernel
theorem dX0_leastBroken_47 : decode cX0_leastBroken 47 = .ok (.iload_n 2, 1) := by decide +kernel
theorem dX0_leastBroken_48 : decode cX0_leastBroken 48 = .ok (.if_icmp .ge 28, 3) := by decide +kernel
theorem dX0_leastBroken_51 : decode cX0_leastBroken 51 = .ok (.aload_n 0, 1) := by decide +kernel
theorem dX0_leastBroken_52 : decode cX0_leastBroken 52 = .ok (.getfield 38, 3) := by decide +kernel
theorem dX0_leastBroken_55 : decode cX0_leastBroken 55 = .ok (.iload 4, 2) := by decide +kernel
theorem dX0_leastBroken_57 : decode cX0_leastBroken 57 = .ok (.aload_n 0, 1) := by decide +kernel
theorem dX0_leastBroken_58 : decode cX0_leastBroken 58 = .ok (.getfield 42, 3) := by decide +kernel
theorem dX0_leastBroken_61 : decode cX0_leastBroken 61 = .ok (.invokevirtual 158, 3) := by decide +kernel
theorem dX0_leastBroken_64 : decode cX0_leastBroken 64 = .ok (.ifCond .ne 6, 3) := by decide +kernel
theorem dX0_leastBroken_67 : decode cX0_leastBroken 67 = .ok (.iload 4, 2) := by decide +kernel
theorem dX0_leastBroken_69 : decode cX0_leastBroken 69 = .ok (.istore_n 2, 1) := by decide +kernel
theorem dX0_leastBroken_70 : decode cX0_leastBroken 70 = .ok (.iinc 4 1, 3) := by decide +kernel
theorem dX0_leastBroken_73 : decode cX0_leastBroken 73 = .ok (.goto (-28), 3) := by decide +kernel
theorem dX0_leastBroken_76 : decode cX0_leastBroken 76 = .ok (.iinc 3 1, 3) := by decide +kernel
theorem dX0_leastBroken_79 : decode cX0_leastBroken 79 = .ok (.goto (-69), 3) := by decide +kernel
theorem dX0_leastBroken_82 : decode cX0_leastBroken 82 = .ok (.iload_n 2, 1) := by decide +kernel
theorem dX0_leastBroken_83 : decode cX0_leastBroken 83 = .ok (.aload_n 0, 1) := by decide +kernel
theorem dX0_leastBroken_84 : decode cX0_leastBroken 84 = .ok (.getfield 38, 3) := by decide +kernel
theorem dX0_leastBroken_87 : decode cX0_leastBroken 87 = .ok (.getfield 153, 3) := by decide +kernel
theorem dX0_leastBroken_90 : decode cX0_leastBroken 90 = .ok (.if_icmp .ge 7, 3) := by decide +kernel
theorem dX0_leastBroken_93 : decode cX0_leastBroken 93 = .ok (.iload_n 2, 1) := by decide +kernel
theorem dX0_leastBroken_94 : decode cX0_leastBroken 94 = .ok (.goto 4, 3) := by decide +kernel
theorem dX0_leastBroken_97 : decode cX0_leastBroken 97 = .ok (.iconst (-1), 1) := by decide +kernel
theorem dX0_leastBroken_98 : decode cX0_leastBroken 98 = .ok (.ireturn, 1) := by decide +kernel
theorem sX0_leastBroken_0 {a0 a1 a2 a3 a4 : Value} (hv : am_rf a0 = true) (h : am_R E d mX0_leastBroken k n 1 [a0, a1, a2, a3, a4] (a0 :: st) S iv Q) : am_R E d mX0_leastBroken k n 0 [a0, a1, a2, a3, a4] st S iv Q := am_aload_n dX0_leastBroken_0 rfl rfl hv h
theorem sX0_leastBroken_1 {ls : List Value} {a b : Nat} (ha : S.1 a = some (.inl 0)) (hb : S.2.1 a 9 = some b) (h : am_R E d mX0_leastBroken k n 4 ls (.ref b :: st) S iv Q) : am_R E d mX0_leastBroken k n 1 ls (.ref a :: st) S iv Q := am_getR (ci := 0) dX0_leastBroken_1 rfl rfl (by decide) wq_178 uq_0 rfl ha hb h
theorem sX0_leastBroken_4 {ls : List Value} {a : Nat} (ha : S.1 a = some (.inl 5)) (h : am_R E d mX0_leastBroken k n 7 ls (.int (iv a 0) :: st) S iv Q) : am_R E d mX0_leastBroken k n 4 ls (.ref a :: st) S iv Q := am_getI (ci := 5) dX0_leastBroken_4 rfl rfl (by decide) wq_261 uq_5 rfl ha h
theorem sX0_leastBroken_7 {a0 a1 a2 a3 a4 : Value} {x : Int32} (h : am_R E d mX0_leastBroken k n 8 [a0, a1, .int x, a3, a4] st S iv Q) : am_R E d mX0_leastBroken k n 7 [a0, a1, a2, a3, a4] (.int x :: st) S iv Q := am_istore_n dX0_leastBroken_7 rfl (by decide) h
theorem sX0_leastBroken_8 {a0 a1 a2 a3 a4 : Value} (h : am_R E d mX0_leastBroken k n 9 [a0, a1, a2, a3, a4] (.int 0 :: st) S iv Q) : am_R E d mX0_leastBroken k n 8 [a0, a1, a2, a3, a4] st S iv Q := am_iconst dX0_leastBroken_8 (by decide) h
theorem sX0_leastBroken_9 {a0 a1 a2 a3 a4 : Value} {x : Int32} (h : am_R E d mX0_leastBroken k n 10 [a0, a1, a2, .int x, a4] st S iv Q) : am_R E d mX0_leastBroken k n 9 [a0, a1, a2, a3, a4] (.int x :: st) S iv Q := am_istore_n dX0_leastBroken_9 rfl (by decide) h
theorem sX0_leastBroken_10 {a0 a1 a2 a4 : Value} {x : Int32} (h : am_R E d mX0_leastBroken k n 11 [a0, a1, a2, .int x, a4] (.int x :: st) S iv Q) : am_R E d mX0_leastBroken k n 10 [a0, a1, a2, .int x, a4] st S iv Q := am_iload_n dX0_leastBroken_10 rfl rfl h
theorem sX0_leastBroken_11 {a0 a1 a2 a3 a4 : Value} (hv : am_rf a0 = true) (h : am_R E d mX0_leastBroken k n 12 [a0, a1, a2, a3, a4] (a0 :: st) S iv Q) : am_R E d mX0_leastBroken k n 11 [a0, a1, a2, a3, a4] st S iv Q := am_aload_n dX0_leastBroken_11 rfl rfl hv h
theorem sX0_leastBroken_12 {ls : List Value} {a b : Nat} (ha : S.1 a = some (.inl 0)) (hb : S.2.1 a 7 = some b) (h : am_R E d mX0_leastBroken k n 15 ls (.ref b :: st) S iv Q) : am_R E d mX0_leastBroken k n 12 ls (.ref a :: st) S iv Q := am_getR (ci := 0) dX0_leastBroken_12 rfl rfl (by decide) wq_165 uq_0 rfl ha hb h
theorem sX0_leastBroken_15 {ls : List Value} {a : Nat} (ha : S.1 a = some (.inl 2)) (h : am_R E d mX0_leastBroken k n 18 ls (.int (iv a 0) :: st) S iv Q) : am_R E d mX0_leastBroken k n 15 ls (.ref a :: st) S iv Q := am_getI (ci := 2) dX0_leastBroken_15 rfl rfl (by decide) wq_185 uq_2 rfl ha h
theorem sX0_leastBroken_18 {ls : List Value} {x y : Int32} (kt : y ≤ x → am_R E d mX0_leastBroken k n 82 ls st S iv Q) (kf : ¬ y ≤ x → am_R E d mX0_leastBroken k n 21 ls st S iv Q) : am_R E d mX0_leastBroken k n 18 ls (.int y :: .int x :: st) S iv Q := am_icmp_ge dX0_leastBroken_18 (by decide) kt kf
theorem sX0_leastBroken_21 {a0 a1 a3 a4 : Value} {x : Int32} (h : am_R E d mX0_leastBroken k n 22 [a0, a1, .int x, a3, a4] (.int x :: st) S iv Q) : am_R E d mX0_leastBroken k n 21 [a0, a1, .int x, a3, a4] st S iv Q := am_iload_n dX0_leastBroken_21 rfl rfl h
theorem sX0_leastBroken_22 {ls : List Value} {x : Int32} (kt : x ≤ 0 → am_R E d mX0_leastBroken k n 82 ls st S iv Q) (kf : ¬ x ≤ 0 → am_R E d mX0_leastBroken k n 25 ls st S iv Q) : am_R E d mX0_leastBroken k n 22 ls (.int x :: st) S iv Q := am_if_le dX0_leastBroken_22 (by decide) kt kf
theorem sX0_leastBroken_25 {a0 a2 a3 a4 : Value} {x : Int32} (h : am_R E d mX0_leastBroken k n 26 [a0, .int x, a2, a3, a4] (.int x :: st) S iv Q) : am_R E d mX0_leastBroken k n 25 [a0, .int x, a2, a3, a4] st S iv Q := am_iload_n dX0_leastBroken_25 rfl rfl h
theorem sX0_leastBroken_26 {a0 a1 a2 a4 : Value} {x : Int32} (h : am_R E d mX0_leastBroken k n 27 [a0, a1, a2, .int x, a4] (.int x :: st) S iv Q) : am_R E d mX0_leastBroken k n 26 [a0, a1, a2, .int x, a4] st S iv Q := am_iload_n dX0_leastBroken_26 rfl rfl h
theorem sX0_leastBroken_27 {ls : List Value} {x y : Int32} (h : am_R E d mX0_leastBroken k n 28 ls (.int (x >>> (y &&& 31)) :: st) S iv Q) : am_R E d mX0_leastBroken k n 27 ls (.int y :: .int x :: st) S iv Q := am_ishr dX0_leastBroken_27 h
theorem sX0_leastBroken_28 {a0 a1 a2 a3 a4 : Value} (h : am_R E d mX0_leastBroken k n 29 [a0, a1, a2, a3, a4] (.int 1 :: st) S iv Q) : am_R E d mX0_leastBroken k n 28 [a0, a1, a2, a3, a4] st S iv Q := am_iconst dX0_leastBroken_28 (by decide) h
theorem sX0_leastBroken_29 {ls : List Value} {x y : Int32} (h : am_R E d mX0_leastBroken k n 30 ls (.int (x &&& y) :: st) S iv Q) : am_R E d mX0_leastBroken k n 29 ls (.int y :: .int x :: st) S iv Q := am_iand dX0_leastBroken_29 h
theorem sX0_leastBroken_30 {ls : List Value} {x : Int32} (kt : ¬ x = 0 → am_R E d mX0_leastBroken k n 36 ls st S iv Q) (kf : x = 0 → am_R E d mX0_leastBroken k n 33 ls st S iv Q) : am_R E d mX0_leastBroken k n 30 ls (.int x :: st) S iv Q := am_if_ne dX0_leastBroken_30 (by decide) kt kf
theorem sX0_leastBroken_33 {ls : List Value} (h : am_R E d mX0_leastBroken k n 76 ls st S iv Q) : am_R E d mX0_leastBroken k n 33 ls st S iv Q := am_goto dX0_leastBroken_33 (by decide) h
theorem sX0_leastBroken_36 {a0 a1 a2 a3 a4 : Value} (hv : am_rf a0 = true) (h : am_R E d mX0_leastBroken k n 37 [a0, a1, a2, a3, a4] (a0 :: st) S iv Q) : am_R E d mX0_leastBroken k n 36 [a0, a1, a2, a3, a4] st S iv Q := am_aload_n dX0_leastBroken_36 rfl rfl hv h
theorem sX0_leastBroken_37 {a0 a1 a2 a4 : Value} {x : Int32} (h : am_R E d mX0_leastBroken k n 38 [a0, a1, a2, .int x, a4] (.int x :: st) S iv Q) : am_R E d mX0_leastBroken k n 37 [a0, a1, a2, .int x, a4] st S iv Q := am_iload_n dX0_leastBroken_37 rfl rfl h
theorem sX0_leastBroken_38 {a0 a2 a3 a4 : Value} {x : Int32} (h : am_R E d mX0_leastBroken k n 39 [a0, .int x, a2, a3, a4] (.int x :: st) S iv Q) : am_R E d mX0_leastBroken k n 38 [a0, .int x, a2, a3, a4] st S iv Q := am_iload_n dX0_leastBroken_38 rfl rfl h
theorem sX0_leastBroken_39 {ls : List Value} {x1 x2 : Value} {a : Nat} (ha : S.1 a = some (.inl 0)) (hst : (st.map fun v => v.category).sum ≤ 8) (hM : am_M E d mX0_lookAt 0 0 [.ref a, x1, x2] S iv (am_K3 E (d + 1) mX0_leastBroken k n 39 ls st Q)) : am_R E (d + 1) mX0_leastBroken k n 39 ls (x2 :: x1 :: .ref a :: st) S iv Q := am_cV (ci := 0) (M' := mX0_lookAt) (as := [x1, x2]) dX0_leastBroken_39 rfl rfl rfl wq_264 wq_265 wq_266 wq_220 wq_262 hy_X0_lookAt (by decide) ha hst (by omega) (by omega) hM
theorem sX0_leastBroken_39_k {ls : List Value} {x1 x2 : Value} {k' n' : Nat} {a : Nat} (ha : S.1 a = some (.inl 0)) (hst : (st.map fun v => v.category).sum ≤ 8) (hM : am_M E d mX0_lookAt k' n' [.ref a, x1, x2] S iv (am_K3 E (d + 1) mX0_leastBroken k n 39 ls st Q)) : am_R E (d + 1) mX0_leastBroken (k' + k) (n' + n) 39 ls (x2 :: x1 :: .ref a :: st) S iv Q := am_cV (ci := 0) (M' := mX0_lookAt) (as := [x1, x2]) dX0_leastBroken_39 rfl rfl rfl wq_264 wq_265 wq_266 wq_220 wq_262 hy_X0_lookAt (by decide) ha hst (by omega) (by omega) hM
theorem sX0_leastBroken_42 {a0 a1 a2 a3 a4 : Value} (h : am_R E d mX0_leastBroken k n 43 [a0, a1, a2, a3, a4] (.int 0 :: st) S iv Q) : am_R E d mX0_leastBroken k n 42 [a0, a1, a2, a3, a4] st S iv Q := am_iconst dX0_leastBroken_42 (by decide) h
theorem sX0_leastBroken_43 {a0 a1 a2 a3 a4 : Value} {x : Int32} (h : am_R E d mX0_leastBroken k n 45 [a0, a1, a2, a3, .int x] st S iv Q) : am_R E d mX0_leastBroken k n 43 [a0, a1, a2, a3, a4] (.int x :: st) S iv Q := am_istore dX0_leastBroken_43 (by decide) h
theorem sX0_leastBroken_45 {a0 a1 a2 a3 : Value} {x : Int32} (h : am_R E d mX0_leastBroken k n 47 [a0, a1, a2, a3, .int x] (.int x :: st) S iv Q) : am_R E d mX0_leastBroken k n 45 [a0, a1, a2, a3, .int x] st S iv Q := am_iload dX0_leastBroken_45 rfl h
theorem sX0_leastBroken_47 {a0 a1 a3 a4 : Value} {x : Int32} (h : am_R E d mX0_leastBroken k n 48 [a0, a1, .int x, a3, a4] (.int x :: st) S iv Q) : am_R E d mX0_leastBroken k n 47 [a0, a1, .int x, a3, a4] st S iv Q := am_iload_n dX0_leastBroken_47 rfl rfl h
theorem sX0_leastBroken_48 {ls : List Value} {x y : Int32} (kt : y ≤ x → am_R E d mX0_leastBroken k n 76 ls st S iv Q) (kf : ¬ y ≤ x → am_R E d mX0_leastBroken k n 51 ls st S iv Q) : am_R E d mX0_leastBroken k n 48 ls (.int y :: .int x :: st) S iv Q := am_icmp_ge dX0_leastBroken_48 (by decide) kt kf
theorem sX0_leastBroken_51 {a0 a1 a2 a3 a4 : Value} (hv : am_rf a0 = true) (h : am_R E d mX0_leastBroken k n 52 [a0, a1, a2, a3, a4] (a0 :: st) S iv Q) : am_R E d mX0_leastBroken k n 51 [a0, a1, a2, a3, a4] st S iv Q := am_aload_n dX0_leastBroken_51 rfl rfl hv h
theorem sX0_leastBroken_52 {ls : List Value} {a b : Nat} (ha : S.1 a = some (.inl 0)) (hb : S.2.1 a 9 = some b) (h : am_R E d mX0_leastBroken k n 55 ls (.ref b :: st) S iv Q) : am_R E d mX0_leastBroken k n 52 ls (.ref a :: st) S iv Q := am_getR (ci := 0) dX0_leastBroken_52 rfl rfl (by decide) wq_178 uq_0 rfl ha hb h
theorem sX0_leastBroken_55 {a0 a1 a2 a3 : Value} {x : Int32} (h : am_R E d mX0_leastBroken k n 57 [a0, a1, a2, a3, .int x] (.int x :: st) S iv Q) : am_R E d mX0_leastBroken k n 55 [a0, a1, a2, a3, .int x] st S iv Q := am_iload dX0_leastBroken_55 rfl h
theorem sX0_leastBroken_57 {a0 a1 a2 a3 a4 : Value} (hv : am_rf a0 = true) (h : am_R E d mX0_leastBroken k n 58 [a0, a1, a2, a3, a4] (a0 :: st) S iv Q) : am_R E d mX0_leastBroken k n 57 [a0, a1, a2, a3, a4] st S iv Q := am_aload_n dX0_leastBroken_57 rfl rfl hv h
theorem sX0_leastBroken_58 {ls : List Value} {a b : Nat} (ha : S.1 a = some (.inl 0)) (hb : S.2.1 a 10 = some b) (h : am_R E d mX0_leastBroken k n 61 ls (.ref b :: st) S iv Q) : am_R E d mX0_leastBroken k n 58 ls (.ref a :: st) S iv Q := am_getR (ci := 0) dX0_leastBroken_58 rfl rfl (by decide) wq_179 uq_0 rfl ha hb h
theorem sX0_leastBroken_61 {ls : List Value} {x1 x2 : Value} {a : Nat} (ha : S.1 a = some (.inl 5)) (hst : (st.map fun v => v.category).sum ≤ 8) (hM : am_M E d mX5_holds 0 0 [.ref a, x1, x2] S iv (am_K3 E (d + 1) mX0_leastBroken k n 61 ls st Q)) : am_R E (d + 1) mX0_leastBroken k n 61 ls (x2 :: x1 :: .ref a :: st) S iv Q := am_cV (ci := 5) (M' := mX5_holds) (as := [x1, x2]) dX0_leastBroken_61 rfl rfl rfl wq_269 wq_270 wq_271 wq_112 wq_267 hy_X5_holds (by decide) ha hst (by omega) (by omega) hM
theorem sX0_leastBroken_61_k {ls : List Value} {x1 x2 : Value} {k' n' : Nat} {a : Nat} (ha : S.1 a = some (.inl 5)) (hst : (st.map fun v => v.category).sum ≤ 8) (hM : am_M E d mX5_holds k' n' [.ref a, x1, x2] S iv (am_K3 E (d + 1) mX0_leastBroken k n 61 ls st Q)) : am_R E (d + 1) mX0_leastBroken (k' + k) (n' + n) 61 ls (x2 :: x1 :: .ref a :: st) S iv Q := am_cV (ci := 5) (M' := mX5_holds) (as := [x1, x2]) dX0_leastBroken_61 rfl rfl rfl wq_269 wq_270 wq_271 wq_112 wq_267 hy_X5_holds (by decide) ha hst (by omega) (by omega) hM
theorem sX0_leastBroken_64 {ls : List Value} {x : Int32} (kt : ¬ x = 0 → am_R E d mX0_leastBroken k n 70 ls st S iv Q) (kf : x = 0 → am_R E d mX0_leastBroken k n 67 ls st S iv Q) : am_R E d mX0_leastBroken k n 64 ls (.int x :: st) S iv Q := am_if_ne dX0_leastBroken_64 (by decide) kt kf
theorem sX0_leastBroken_67 {a0 a1 a2 a3 : Value} {x : Int32} (h : am_R E d mX0_leastBroken k n 69 [a0, a1, a2, a3, .int x] (.int x :: st) S iv Q) : am_R E d mX0_leastBroken k n 67 [a0, a1, a2, a3, .int x] st S iv Q := am_iload dX0_leastBroken_67 rfl h
theorem sX0_leastBroken_69 {a0 a1 a2 a3 a4 : Value} {x : Int32} (h : am_R E d mX0_leastBroken k n 70 [a0, a1, .int x, a3, a4] st S iv Q) : am_R E d mX0_leastBroken k n 69 [a0, a1, a2, a3, a4] (.int x :: st) S iv Q := am_istore_n dX0_leastBroken_69 rfl (by decide) h
theorem sX0_leastBroken_70 {a0 a1 a2 a3 : Value} {x : Int32} (h : am_R E d mX0_leastBroken k n 73 [a0, a1, a2, a3, .int (x + 1)] st S iv Q) : am_R E d mX0_leastBroken k n 70 [a0, a1, a2, a3, .int x] st S iv Q := am_iinc dX0_leastBroken_70 rfl rfl (by decide) h
theorem sX0_leastBroken_73 {ls : List Value} (h : am_R E d mX0_leastBroken k n 45 ls st S iv Q) : am_R E d mX0_leastBroken k n 73 ls st S iv Q := am_goto dX0_leastBroken_73 (by decide) h
theorem sX0_leastBroken_76 {a0 a1 a2 a4 : Value} {x : Int32} (h : am_R E d mX0_leastBroken k n 79 [a0, a1, a2, .int (x + 1), a4] st S iv Q) : am_R E d mX0_leastBroken k n 76 [a0, a1, a2, .int x, a4] st S iv Q := am_iinc dX0_leastBroken_76 rfl rfl (by decide) h
theorem sX0_leastBroken_79 {ls : List Value} (h : am_R E d mX0_leastBroken k n 10 ls st S iv Q) : am_R E d mX0_leastBroken k n 79 ls st S iv Q := am_goto dX0_leastBroken_79 (by decide) h
theorem sX0_leastBroken_82 {a0 a1 a3 a4 : Value} {x : Int32} (h : am_R E d mX0_leastBroken k n 83 [a0, a1, .int x, a3, a4] (.int x :: st) S iv Q) : am_R E d mX0_leastBroken k n 82 [a0, a1, .int x, a3, a4] st S iv Q := am_iload_n dX0_leastBroken_82 rfl rfl h
theorem sX0_leastBroken_83 {a0 a1 a2 a3 a4 : Value} (hv : am_rf a0 = true) (h : am_R E d mX0_leastBroken k n 84 [a0, a1, a2, a3, a4] (a0 :: st) S iv Q) : am_R E d mX0_leastBroken k n 83 [a0, a1, a2, a3, a4] st S iv Q := am_aload_n dX0_leastBroken_83 rfl rfl hv h
theorem sX0_leastBroken_84 {ls : List Value} {a b : Nat} (ha : S.1 a = some (.inl 0)) (hb : S.2.1 a 9 = some b) (h : am_R E d mX0_leastBroken k n 87 ls (.ref b :: st) S iv Q) : am_R E d mX0_leastBroken k n 84 ls (.ref a :: st) S iv Q := am_getR (ci := 0) dX0_leastBroken_84 rfl rfl (by decide) wq_178 uq_0 rfl ha hb h
theorem sX0_leastBroken_87 {ls : List Value} {a : Nat} (ha : S.1 a = some (.inl 5)) (h : am_R E d mX0_leastBroken k n 90 ls (.int (iv a 0) :: st) S iv Q) : am_R E d mX0_leastBroken k n 87 ls (.ref a :: st) S iv Q := am_getI (ci := 5) dX0_leastBroken_87 rfl rfl (by decide) wq_261 uq_5 rfl ha h
theorem sX0_leastBroken_90 {ls : List Value} {x y : Int32} (kt : y ≤ x → am_R E d mX0_leastBroken k n 97 ls st S iv Q) (kf : ¬ y ≤ x → am_R E d mX0_leastBroken k n 93 ls st S iv Q) : am_R E d mX0_leastBroken k n 90 ls (.int y :: .int x :: st) S iv Q := am_icmp_ge dX0_leastBroken_90 (by decide) kt kf
theorem sX0_leastBroken_93 {a0 a1 a3 a4 : Value} {x : Int32} (h : am_R E d mX0_leastBroken k n 94 [a0, a1, .int x, a3, a4] (.int x :: st) S iv Q) : am_R E d mX0_leastBroken k n 93 [a0, a1, .int x, a3, a4] st S iv Q := am_iload_n dX0_leastBroken_93 rfl rfl h
theorem sX0_leastBroken_94 {ls : List Value} (h : am_R E d mX0_leastBroken k n 98 ls st S iv Q) : am_R E d mX0_leastBroken k n 94 ls st S iv Q := am_goto dX0_leastBroken_94 (by decide) h
theorem sX0_leastBroken_97 {a0 a1 a2 a3 a4 : Value} (h : am_R E d mX0_leastBroken k n 98 [a0, a1, a2, a3, a4] (.int (-1) :: st) S iv Q) : am_R E d mX0_leastBroken k n 97 [a0, a1, a2, a3, a4] st S iv Q := am_iconst dX0_leastBroken_97 (by decide) h
theorem sX0_leastBroken_98 {ls : List Value} {x : Int32} (h : Q (.inl (some (.int x))) S iv) : am_R E d mX0_leastBroken k n 98 ls [.int x] S iv Q := am_ireturn dX0_leastBroken_98 rfl h
theorem dX0_lookAt_0 : decode cX0_lookAt 0 = .ok (.aload_n 0, 1) := by decide +kernel
theorem dX0_lookAt_1 : decode cX0_lookAt 1 = .ok (.getfield 42, 3) := by decide +kernel
theorem dX0_lookAt_4 : decode cX0_lookAt 4 = .ok (.iconst 0, 1) := by decide +kernel
theorem dX0_lookAt_5 : decode cX0_lookAt 5 = .ok (.aload_n 0, 1) := by decide +kernel
theorem dX0_lookAt_6 : decode cX0_lookAt 6 = .ok (.getfield 24, 3) := by decide +kernel
theorem dX0_lookAt_9 : decode cX0_lookAt 9 = .ok (.getfield 88, 3) := by decide +kernel
theorem dX0_lookAt_12 : decode cX0_lookAt 12 = .ok (.iload_n 1, 1) := by decide +kernel
theorem dX0_lookAt_13 : decode cX0_lookAt 13 = .ok (.iaload, 1) := by decide +kernel
theorem dX0_lookAt_14 : decode cX0_lookAt 14 = .ok (.iastore, 1) := by decide +kernel
theorem dX0_lookAt_15 : decode cX0_lookAt 15 = .ok (.aload_n 0, 1) := by decide +kernel
theorem dX0_lookAt_16 : decode cX0_lookAt 16 = .ok (.getfield 42, 3) := by decide +kernel
theorem dX0_lookAt_19 : decode cX0_lookAt 19 = .ok (.iconst 1, 1) := by decide +kernel
theorem dX0_lookAt_20 : decode cX0_lookAt 20 = .ok (.aload_n 0, 1) := by decide +kernel
theorem dX0_lookAt_21 : decode cX0_lookAt 21 = .ok (.getfield 24, 3) := by decide +kernel
theorem dX0_lookAt_24 : decode cX0_lookAt 24 = .ok (.getfield 115, 3) := by decide +kernel
theorem dX0_lookAt_27 : decode cX0_lookAt 27 = .ok (.iload_n 1, 1) := by decide +kernel
theorem dX0_lookAt_28 : decode cX0_lookAt 28 = .ok (.iaload, 1) := by decide +kernel
theorem dX0_lookAt_29 : decode cX0_lookAt 29 = .ok (.iastore, 1) := by decide +kernel
theorem dX0_lookAt_30 : decode cX0_lookAt 30 = .ok (.aload_n 0, 1) := by decide +kernel
theorem dX0_lookAt_31 : decode cX0_lookAt 31 = .ok (.getfield 42, 3) := by decide +kernel
theorem dX0_lookAt_34 : decode cX0_lookAt 34 = .ok (.iconst 2, 1) := by decide +kernel
theorem dX0_lookAt_35 : decode cX0_lookAt 35 = .ok (.aload_n 0, 1) := by decide +kernel
theorem dX0_lookAt_36 : decode cX0_lookAt 36 = .ok (.getfield 24, 3) := by decide +kernel
theorem dX0_lookAt_39 : decode cX0_lookAt 39 = .ok (.getfield 100, 3) := by decide +kernel
theorem dX0_lookAt_42 : decode cX0_lookAt 42 = .ok (.iload_n 1, 1) := by decide +kernel
theorem dX0_lookAt_43 : decode cX0_lookAt 43 = .ok (.iaload, 1) := by decide +kernel
theorem dX0_lookAt_44 : decode cX0_lookAt 44 = .ok (.iastore, 1) := by decide +kernel
theorem dX0_lookAt_45 : decode cX0_lookAt 45 = .ok (.aload_n 0, 1) := by decide +kernel
theorem dX0_lookAt_46 : decode cX0_lookAt 46 = .ok (.getfield 42, 3) := by decide +kernel
theorem dX0_lookAt_49 : decode cX0_lookAt 49 = .ok (.iconst 3, 1) := by decide +kernel
theorem dX0_lookAt_50 : decode cX0_lookAt 50 = .ok (.aload_n 0, 1) := by decide +kernel
theorem dX0_lookAt_51 : decode cX0_lookAt 51 = .ok (.getfield 24, 3) := by decide +kernel
theorem dX0_lookAt_54 : decode cX0_lookAt 54 = .ok (.getfield 112, 3) := by decide +kernel
theorem dX0_lookAt_57 : decode cX0_lookAt 57 = .ok (.iload_n 1, 1) := by decide +kernel
theorem dX0_lookAt_58 : decode cX0_lookAt 58 = .ok (.iaload, 1) := by decide +kernel
theorem dX0_lookAt_59 : decode cX0_lookAt 59 = .ok (.iastore, 1) := by decide +kernel
theorem dX0_lookAt_60 : decode cX0_lookAt 60 = .ok (.aload_n 0, 1) := by decide +kernel
theorem dX0_lookAt_61 : decode cX0_lookAt 61 = .ok (.getfield 42, 3) := by decide +kernel
theorem dX0_lookAt_64 : decode cX0_lookAt 64 = .ok (.iconst 4, 1) := by decide +kernel
theorem dX0_lookAt_65 : decode cX0_lookAt 65 = .ok (.iload_n 2, 1) := by decide +kernel
theorem dX0_lookAt_66 : decode cX0_lookAt 66 = .ok (.invokestatic 162, 3) := by decide +kernel
theorem dX0_lookAt_69 : decode cX0_lookAt 69 = .ok (.iastore, 1) := by decide +kernel
theorem dX0_lookAt_70 : decode cX0_lookAt 70 = .ok (.aload_n 0, 1) := by decide +kernel
theorem dX0_lookAt_71 : decode cX0_lookAt 71 = .ok (.getfield 42, 3) := by decide +kernel
theorem dX0_lookAt_74 : decode cX0_lookAt 74 = .ok (.iconst 5, 1) := by decide +kernel
theorem dX0_lookAt_75 : decode cX0_lookAt 75 = .ok (.iload_n 2, 1) := by decide +kernel
theorem dX0_lookAt_76 : decode cX0_lookAt 76 = .ok (.aload_n 0, 1) := by decide +kernel
theorem dX0_lookAt_77 : decode cX0_lookAt 77 = .ok (.getfield 24, 3) := by decide +kernel
theorem dX0_lookAt_80 : decode cX0_lookAt 80 = .ok (.getfield 167, 3) := by decide +kernel
theorem dX0_lookAt_83 : decode cX0_lookAt 83 = .ok (.iand, 1) := by decide +kernel
theorem dX0_lookAt_84 : decode cX0_lookAt 84 = .ok (.invokestatic 162, 3) := by decide +kernel
theorem dX0_lookAt_87 : decode cX0_lookAt 87 = .ok (.iastore, 1) := by decide +kernel
theorem dX0_lookAt_88 : decode cX0_lookAt 88 = .ok (.aload_n 0, 1) := by decide +kernel
theorem dX0_lookAt_89 : decode cX0_lookAt 89 = .ok (.getfield 42, 3) := by decide +kernel
theorem dX0_lookAt_92 : decode cX0_lookAt 92 = .ok (.bipush 6, 2) := by decide +kernel
theorem dX0_lookAt_94 : decode cX0_lookAt 94 = .ok (.iload_n 2, 1) := by decide +kernel
theorem dX0_lookAt_95 : decode cX0_lookAt 95 = .ok (.aload_n 0, 1) := by decide +kernel
theorem dX0_lookAt_96 : decode cX0_lookAt 96 = .ok (.getfield 24, 3) := by decide +kernel
theorem dX0_lookAt_99 : decode cX0_lookAt 99 = .ok (.getfield 170, 3) := by decide +kernel
theorem dX0_lookAt_102 : decode cX0_lookAt 102 = .ok (.iload_n 1, 1) := by decide +kernel
theorem dX0_lookAt_103 : decode cX0_lookAt 103 = .ok (.iaload, 1) := by decide +kernel
theorem dX0_lookAt_104 : decode cX0_lookAt 104 = .ok (.iand, 1) := by decide +kernel
theorem dX0_lookAt_105 : decode cX0_lookAt 105 = .ok (.invokestatic 162, 3) := by decide +kernel
theorem dX0_lookAt_108 : decode cX0_lookAt 108 = .ok (.iastore, 1) := by decide +kernel
theorem dX0_lookAt_109 : decode cX0_lookAt 109 = .ok (.return_, 1) := by decide +kernel
theorem sX0_lookAt_0 {a0 a1 a2 : Value} (hv : am_rf a0 = true) (h : am_R E d mX0_lookAt k n 1 [a0, a1, a2] (a0 :: st) S iv Q) : am_R E d mX0_lookAt k n 0 [a0, a1, a2] st S iv Q := am_aload_n dX0_lookAt_0 rfl rfl hv h
theorem sX0_lookAt_1 {ls : List Value} {a b : Nat} (ha : S.1 a = some (.inl 0)) (hb : S.2.1 a 10 = some b) (h : am_R E d mX0_lookAt k n 4 ls (.ref b :: st) S iv Q) : am_R E d mX0_lookAt k n 1 ls (.ref a :: st) S iv Q := am_getR (ci := 0) dX0_lookAt_1 rfl rfl (by decide) wq_179 uq_0 rfl ha hb h
theorem sX0_lookAt_4 {a0 a1 a2 : Value} (h : am_R E d mX0_lookAt k n 5 [a0, a1, a2] (.int 0 :: st) S iv Q) : am_R E d mX0_lookAt k n 4 [a0, a1, a2] st S iv Q := am_iconst dX0_lookAt_4 (by decide) h
theorem sX0_lookAt_5 {a0 a1 a2 : Value} (hv : am_rf a0 = true) (h : am_R E d mX0_lookAt k n 6 [a0, a1, a2] (a0 :: st) S iv Q) : am_R E d mX0_lookAt k n 5 [a0, a1, a2] st S iv Q := am_aload_n dX0_lookAt_5 rfl rfl hv h
theorem sX0_lookAt_6 {ls : List Value} {a b : Nat} (ha : S.1 a = some (.inl 0)) (hb : S.2.1 a 7 = some b) (h : am_R E d mX0_lookAt k n 9 ls (.ref b :: st) S iv Q) : am_R E d mX0_lookAt k n 6 ls (.ref a :: st) S iv Q := am_getR (ci := 0) dX0_lookAt_6 rfl rfl (by decide) wq_165 uq_0 rfl ha hb h
theorem sX0_lookAt_9 {ls : List Value} {a b : Nat} (ha : S.1 a = some (.inl 2)) (hb : S.2.1 a 2 = some b) (h : am_R E d mX0_lookAt k n 12 ls (.ref b :: st) S iv Q) : am_R E d mX0_lookAt k n 9 ls (.ref a :: st) S iv Q := am_getR (ci := 2) dX0_lookAt_9 rfl rfl (by decide) wq_213 uq_2 rfl ha hb h
theorem sX0_lookAt_12 {a0 a2 : Value} {x : Int32} (h : am_R E d mX0_lookAt k n 13 [a0, .int x, a2] (.int x :: st) S iv Q) : am_R E d mX0_lookAt k n 12 [a0, .int x, a2] st S iv Q := am_iload_n dX0_lookAt_12 rfl rfl h
theorem sX0_lookAt_13 {ls : List Value} {a m : Nat} {i : Int32} (ha : S.1 a = some (.inr (.int, m))) (hi : vp_in i m) (h : am_R E d mX0_lookAt k n 14 ls (.int (iv a i.toNatClampNeg) :: st) S iv Q) : am_R E d mX0_lookAt k n 13 ls (.int i :: .ref a :: st) S iv Q := am_iaload dX0_lookAt_13 ha hi h
theorem sX0_lookAt_14 {ls : List Value} {a m : Nat} {i x : Int32} (ha : S.1 a = some (.inr (.int, m))) (hi : vp_in i m) (h : am_R E d mX0_lookAt k n 15 ls st S (am_w iv a i.toNatClampNeg x) Q) : am_R E d mX0_lookAt k n 14 ls (.int x :: .int i :: .ref a :: st) S iv Q := am_iastore dX0_lookAt_14 ha hi h
theorem sX0_lookAt_15 {a0 a1 a2 : Value} (hv : am_rf a0 = true) (h : am_R E d mX0_lookAt k n 16 [a0, a1, a2] (a0 :: st) S iv Q) : am_R E d mX0_lookAt k n 15 [a0, a1, a2] st S iv Q := am_aload_n dX0_lookAt_15 rfl rfl hv h
theorem sX0_lookAt_16 {ls : List Value} {a b : Nat} (ha : S.1 a = some (.inl 0)) (hb : S.2.1 a 10 = some b) (h : am_R E d mX0_lookAt k n 19 ls (.ref b :: st) S iv Q) : am_R E d mX0_lookAt k n 16 ls (.ref a :: st) S iv Q := am_getR (ci := 0) dX0_lookAt_16 rfl rfl (by decide) wq_179 uq_0 rfl ha hb h
theorem sX0_lookAt_19 {a0 a1 a2 : Value} (h : am_R E d mX0_lookAt k n 20 [a0, a1, a2] (.int 1 :: st) S iv Q) : am_R E d mX0_lookAt k n 19 [a0, a1, a2] st S iv Q := am_iconst dX0_lookAt_19 (by decide) h
theorem sX0_lookAt_20 {a0 a1 a2 : Value} (hv : am_rf a0 = true) (h : am_R E d mX0_lookAt k n 21 [a0, a1, a2] (a0 :: st) S iv Q) : am_R E d mX0_lookAt k n 20 [a0, a1, a2] st S iv Q := am_aload_n dX0_lookAt_20 rfl rfl hv h
theorem sX0_lookAt_21 {ls : List Value} {a b : Nat} (ha : S.1 a = some (.inl 0)) (hb : S.2.1 a 7 = some b) (h : am_R E d mX0_lookAt k n 24 ls (.ref b :: st) S iv Q) : am_R E d mX0_lookAt k n 21 ls (.ref a :: st) S iv Q := am_getR (ci := 0) dX0_lookAt_21 rfl rfl (by decide) wq_165 uq_0 rfl ha hb h
theorem sX0_lookAt_24 {ls : List Value} {a b : Nat} (ha : S.1 a = some (.inl 2)) (hb : S.2.1 a 4 = some b) (h : am_R E d mX0_lookAt k n 27 ls (.ref b :: st) S iv Q) : am_R E d mX0_lookAt k n 24 ls (.ref a :: st) S iv Q := am_getR (ci := 2) dX0_lookAt_24 rfl rfl (by decide) wq_226 uq_2 rfl ha hb h
theorem sX0_lookAt_27 {a0 a2 : Value} {x : Int32} (h : am_R E d mX0_lookAt k n 28 [a0, .int x, a2] (.int x :: st) S iv Q) : am_R E d mX0_lookAt k n 27 [a0, .int x, a2] st S iv Q := am_iload_n dX0_lookAt_27 rfl rfl h
theorem sX0_lookAt_28 {ls : List Value} {a m : Nat} {i : Int32} (ha : S.1 a = some (.inr (.int, m))) (hi : vp_in i m) (h : am_R E d mX0_lookAt k n 29 ls (.int (iv a i.toNatClampNeg) :: st) S iv Q) : am_R E d mX0_lookAt k n 28 ls (.int i :: .ref a :: st) S iv Q := am_iaload dX0_lookAt_28 ha hi h
theorem sX0_lookAt_29 {ls : List Value} {a m : Nat} {i x : Int32} (ha : S.1 a = some (.inr (.int, m))) (hi : vp_in i m) (h : am_R E d mX0_lookAt k n 30 ls st S (am_w iv a i.toNatClampNeg x) Q) : am_R E d mX0_lookAt k n 29 ls (.int x :: .int i :: .ref a :: st) S iv Q := am_iastore dX0_lookAt_29 ha hi h
theorem sX0_lookAt_30 {a0 a1 a2 : Value} (hv : am_rf a0 = true) (h : am_R E d mX0_lookAt k n 31 [a0, a1, a2] (a0 :: st) S iv Q) : am_R E d mX0_lookAt k n 30 [a0, a1, a2] st S iv Q := am_aload_n dX0_lookAt_30 rfl rfl hv h
theorem sX0_lookAt_31 {ls : List Value} {a b : Nat} (ha : S.1 a = some (.inl 0)) (hb : S.2.1 a 10 = some b) (h : am_R E d mX0_lookAt k n 34 ls (.ref b :: st) S iv Q) : am_R E d mX0_lookAt k n 31 ls (.ref a :: st) S iv Q := am_getR (ci := 0) dX0_lookAt_31 rfl rfl (by decide) wq_179 uq_0 rfl ha hb h
theorem sX0_lookAt_34 {a0 a1 a2 : Value} (h : am_R E d mX0_lookAt k n 35 [a0, a1, a2] (.int 2 :: st) S iv Q) : am_R E d mX0_lookAt k n 34 [a0, a1, a2] st S iv Q := am_iconst dX0_lookAt_34 (by decide) h
theorem sX0_lookAt_35 {a0 a1 a2 : Value} (hv : am_rf a0 = true) (h : am_R E d mX0_lookAt k n 36 [a0, a1, a2] (a0 :: st) S iv Q) : am_R E d mX0_lookAt k n 35 [a0, a1, a2] st S iv Q := am_aload_n dX0_lookAt_35 rfl rfl hv h
theorem sX0_lookAt_36 {ls : List Value} {a b : Nat} (ha : S.1 a = some (.inl 0)) (hb : S.2.1 a 7 = some b) (h : am_R E d mX0_lookAt k n 39 ls (.ref b :: st) S iv Q) : am_R E d mX0_lookAt k n 36 ls (.ref a :: st) S iv Q := am_getR (ci := 0) dX0_lookAt_36 rfl rfl (by decide) wq_165 uq_0 rfl ha hb h
theorem sX0_lookAt_39 {ls : List Value} {a b : Nat} (ha : S.1 a = some (.inl 2)) (hb : S.2.1 a 5 = some b) (h : am_R E d mX0_lookAt k n 42 ls (.ref b :: st) S iv Q) : am_R E d mX0_lookAt k n 39 ls (.ref a :: st) S iv Q := am_getR (ci := 2) dX0_lookAt_39 rfl rfl (by decide) wq_216 uq_2 rfl ha hb h
theorem sX0_lookAt_42 {a0 a2 : Value} {x : Int32} (h : am_R E d mX0_lookAt k n 43 [a0, .int x, a2] (.int x :: st) S iv Q) : am_R E d mX0_lookAt k n 42 [a0, .int x, a2] st S iv Q := am_iload_n dX0_lookAt_42 rfl rfl h
theorem sX0_lookAt_43 {ls : List Value} {a m : Nat} {i : Int32} (ha : S.1 a = some (.inr (.int, m))) (hi : vp_in i m) (h : am_R E d mX0_lookAt k n 44 ls (.int (iv a i.toNatClampNeg) :: st) S iv Q) : am_R E d mX0_lookAt k n 43 ls (.int i :: .ref a :: st) S iv Q := am_iaload dX0_lookAt_43 ha hi h
theorem sX0_lookAt_44 {ls : List Value} {a m : Nat} {i x : Int32} (ha : S.1 a = some (.inr (.int, m))) (hi : vp_in i m) (h : am_R E d mX0_lookAt k n 45 ls st S (am_w iv a i.toNatClampNeg x) Q) : am_R E d mX0_lookAt k n 44 ls (.int x :: .int i :: .ref a :: st) S iv Q := am_iastore dX0_lookAt_44 ha hi h
theorem sX0_lookAt_45 {a0 a1 a2 : Value} (hv : am_rf a0 = true) (h : am_R E d mX0_lookAt k n 46 [a0, a1, a2] (a0 :: st) S iv Q) : am_R E d mX0_lookAt k n 45 [a0, a1, a2] st S iv Q := am_aload_n dX0_lookAt_45 rfl rfl hv h
theorem sX0_lookAt_46 {ls : List Value} {a b : Nat} (ha : S.1 a = some (.inl 0)) (hb : S.2.1 a 10 = some b) (h : am_R E d mX0_lookAt k n 49 ls (.ref b :: st) S iv Q) : am_R E d mX0_lookAt k n 46 ls (.ref a :: st) S iv Q := am_getR (ci := 0) dX0_lookAt_46 rfl rfl (by decide) wq_179 uq_0 rfl ha hb h
theorem sX0_lookAt_49 {a0 a1 a2 : Value} (h : am_R E d mX0_lookAt k n 50 [a0, a1, a2] (.int 3 :: st) S iv Q) : am_R E d mX0_lookAt k n 49 [a0, a1, a2] st S iv Q := am_iconst dX0_lookAt_49 (by decide) h
theorem sX0_lookAt_50 {a0 a1 a2 : Value} (hv : am_rf a0 = true) (h : am_R E d mX0_lookAt k n 51 [a0, a1, a2] (a0 :: st) S iv Q) : am_R E d mX0_lookAt k n 50 [a0, a1, a2] st S iv Q := am_aload_n dX0_lookAt_50 rfl rfl hv h
theorem sX0_lookAt_51 {ls : List Value} {a b : Nat} (ha : S.1 a = some (.inl 0)) (hb : S.2.1 a 7 = some b) (h : am_R E d mX0_lookAt k n 54 ls (.ref b :: st) S iv Q) : am_R E d mX0_lookAt k n 51 ls (.ref a :: st) S iv Q := am_getR (ci := 0) dX0_lookAt_51 rfl rfl (by decide) wq_165 uq_0 rfl ha hb h
theorem sX0_lookAt_54 {ls : List Value} {a b : Nat} (ha : S.1 a = some (.inl 2)) (hb : S.2.1 a 1 = some b) (h : am_R E d mX0_lookAt k n 57 ls (.ref b :: st) S iv Q) : am_R E d mX0_lookAt k n 54 ls (.ref a :: st) S iv Q := am_getR (ci := 2) dX0_lookAt_54 rfl rfl (by decide) wq_225 uq_2 rfl ha hb h
theorem sX0_lookAt_57 {a0 a2 : Value} {x : Int32} (h : am_R E d mX0_lookAt k n 58 [a0, .int x, a2] (.int x :: st) S iv Q) : am_R E d mX0_lookAt k n 57 [a0, .int x, a2] st S iv Q := am_iload_n dX0_lookAt_57 rfl rfl h
theorem sX0_lookAt_58 {ls : List Value} {a m : Nat} {i : Int32} (ha : S.1 a = some (.inr (.int, m))) (hi : vp_in i m) (h : am_R E d mX0_lookAt k n 59 ls (.int (iv a i.toNatClampNeg) :: st) S iv Q) : am_R E d mX0_lookAt k n 58 ls (.int i :: .ref a :: st) S iv Q := am_iaload dX0_lookAt_58 ha hi h
theorem sX0_lookAt_59 {ls : List Value} {a m : Nat} {i x : Int32} (ha : S.1 a = some (.inr (.int, m))) (hi : vp_in i m) (h : am_R E d mX0_lookAt k n 60 ls st S (am_w iv a i.toNatClampNeg x) Q) : am_R E d mX0_lookAt k n 59 ls (.int x :: .int i :: .ref a :: st) S iv Q := am_iastore dX0_lookAt_59 ha hi h
theorem sX0_lookAt_60 {a0 a1 a2 : Value} (hv : am_rf a0 = true) (h : am_R E d mX0_lookAt k n 61 [a0, a1, a2] (a0 :: st) S iv Q) : am_R E d mX0_lookAt k n 60 [a0, a1, a2] st S iv Q := am_aload_n dX0_lookAt_60 rfl rfl hv h
theorem sX0_lookAt_61 {ls : List Value} {a b : Nat} (ha : S.1 a = some (.inl 0)) (hb : S.2.1 a 10 = some b) (h : am_R E d mX0_lookAt k n 64 ls (.ref b :: st) S iv Q) : am_R E d mX0_lookAt k n 61 ls (.ref a :: st) S iv Q := am_getR (ci := 0) dX0_lookAt_61 rfl rfl (by decide) wq_179 uq_0 rfl ha hb h
theorem sX0_lookAt_64 {a0 a1 a2 : Value} (h : am_R E d mX0_lookAt k n 65 [a0, a1, a2] (.int 4 :: st) S iv Q) : am_R E d mX0_lookAt k n 64 [a0, a1, a2] st S iv Q := am_iconst dX0_lookAt_64 (by decide) h
theorem sX0_lookAt_65 {a0 a1 : Value} {x : Int32} (h : am_R E d mX0_lookAt k n 66 [a0, a1, .int x] (.int x :: st) S iv Q) : am_R E d mX0_lookAt k n 65 [a0, a1, .int x] st S iv Q := am_iload_n dX0_lookAt_65 rfl rfl h
theorem sX0_lookAt_66 {ls : List Value} {x1 : Value} (hst : (st.map fun v => v.category).sum ≤ 8) (hM : am_M E d mJ6_bitCount_0f7a4 0 0 [x1] S iv (am_K3 E (d + 1) mX0_lookAt k n 66 ls st Q)) : am_R E (d + 1) mX0_lookAt k n 66 ls (x1 :: st) S iv Q := am_cS (M' := mJ6_bitCount_0f7a4) (as := [x1]) dX0_lookAt_66 rfl wq_275 wq_276 wq_273 wq_272 hy_J6_bitCount_0f7a4 (by decide) hst (by omega) (by omega) hM
theorem sX0_lookAt_66_k {ls : List Value} {x1 : Value} {k' n' : Nat} (hst : (st.map fun v => v.category).sum ≤ 8) (hM : am_M E d mJ6_bitCount_0f7a4 k' n' [x1] S iv (am_K3 E (d + 1) mX0_lookAt k n 66 ls st Q)) : am_R E (d + 1) mX0_lookAt (k' + k) (n' + n) 66 ls (x1 :: st) S iv Q := am_cS (M' := mJ6_bitCount_0f7a4) (as := [x1]) dX0_lookAt_66 rfl wq_275 wq_276 wq_273 wq_272 hy_J6_bitCount_0f7a4 (by decide) hst (by omega) (by omega) hM
theorem sX0_lookAt_69 {ls : List Value} {a m : Nat} {i x : Int32} (ha : S.1 a = some (.inr (.int, m))) (hi : vp_in i m) (h : am_R E d mX0_lookAt k n 70 ls st S (am_w iv a i.toNatClampNeg x) Q) : am_R E d mX0_lookAt k n 69 ls (.int x :: .int i :: .ref a :: st) S iv Q := am_iastore dX0_lookAt_69 ha hi h
theorem sX0_lookAt_70 {a0 a1 a2 : Value} (hv : am_rf a0 = true) (h : am_R E d mX0_lookAt k n 71 [a0, a1, a2] (a0 :: st) S iv Q) : am_R E d mX0_lookAt k n 70 [a0, a1, a2] st S iv Q := am_aload_n dX0_lookAt_70 rfl rfl hv h
theorem sX0_lookAt_71 {ls : List Value} {a b : Nat} (ha : S.1 a = some (.inl 0)) (hb : S.2.1 a 10 = some b) (h : am_R E d mX0_lookAt k n 74 ls (.ref b :: st) S iv Q) : am_R E d mX0_lookAt k n 71 ls (.ref a :: st) S iv Q := am_getR (ci := 0) dX0_lookAt_71 rfl rfl (by decide) wq_179 uq_0 rfl ha hb h
theorem sX0_lookAt_74 {a0 a1 a2 : Value} (h : am_R E d mX0_lookAt k n 75 [a0, a1, a2] (.int 5 :: st) S iv Q) : am_R E d mX0_lookAt k n 74 [a0, a1, a2] st S iv Q := am_iconst dX0_lookAt_74 (by decide) h
theorem sX0_lookAt_75 {a0 a1 : Value} {x : Int32} (h : am_R E d mX0_lookAt k n 76 [a0, a1, .int x] (.int x :: st) S iv Q) : am_R E d mX0_lookAt k n 75 [a0, a1, .int x] st S iv Q := am_iload_n dX0_lookAt_75 rfl rfl h
theorem sX0_lookAt_76 {a0 a1 a2 : Value} (hv : am_rf a0 = true) (h : am_R E d mX0_lookAt k n 77 [a0, a1, a2] (a0 :: st) S iv Q) : am_R E d mX0_lookAt k n 76 [a0, a1, a2] st S iv Q := am_aload_n dX0_lookAt_76 rfl rfl hv h
theorem sX0_lookAt_77 {ls : List Value} {a b : Nat} (ha : S.1 a = some (.inl 0)) (hb : S.2.1 a 7 = some b) (h : am_R E d mX0_lookAt k n 80 ls (.ref b :: st) S iv Q) : am_R E d mX0_lookAt k n 77 ls (.ref a :: st) S iv Q := am_getR (ci := 0) dX0_lookAt_77 rfl rfl (by decide) wq_165 uq_0 rfl ha hb h
theorem sX0_lookAt_80 {ls : List Value} {a : Nat} (ha : S.1 a = some (.inl 2)) (h : am_R E d mX0_lookAt k n 83 ls (.int (iv a 9) :: st) S iv Q) : am_R E d mX0_lookAt k n 80 ls (.ref a :: st) S iv Q := am_getI (ci := 2) dX0_lookAt_80 rfl rfl (by decide) wq_277 uq_2 rfl ha h
theorem sX0_lookAt_83 {ls : List Value} {x y : Int32} (h : am_R E d mX0_lookAt k n 84 ls (.int (x &&& y) :: st) S iv Q) : am_R E d mX0_lookAt k n 83 ls (.int y :: .int x :: st) S iv Q := am_iand dX0_lookAt_83 h
theorem sX0_lookAt_84 {ls : List Value} {x1 : Value} (hst : (st.map fun v => v.category).sum ≤ 8) (hM : am_M E d mJ6_bitCount_0f7a4 0 0 [x1] S iv (am_K3 E (d + 1) mX0_lookAt k n 84 ls st Q)) : am_R E (d + 1) mX0_lookAt k n 84 ls (x1 :: st) S iv Q := am_cS (M' := mJ6_bitCount_0f7a4) (as := [x1]) dX0_lookAt_84 rfl wq_275 wq_276 wq_273 wq_272 hy_J6_bitCount_0f7a4 (by decide) hst (by omega) (by omega) hM
theorem sX0_lookAt_84_k {ls : List Value} {x1 : Value} {k' n' : Nat} (hst : (st.map fun v => v.category).sum ≤ 8) (hM : am_M E d mJ6_bitCount_0f7a4 k' n' [x1] S iv (am_K3 E (d + 1) mX0_lookAt k n 84 ls st Q)) : am_R E (d + 1) mX0_lookAt (k' + k) (n' + n) 84 ls (x1 :: st) S iv Q := am_cS (M' := mJ6_bitCount_0f7a4) (as := [x1]) dX0_lookAt_84 rfl wq_275 wq_276 wq_273 wq_272 hy_J6_bitCount_0f7a4 (by decide) hst (by omega) (by omega) hM
theorem sX0_lookAt_87 {ls : List Value} {a m : Nat} {i x : Int32} (ha : S.1 a = some (.inr (.int, m))) (hi : vp_in i m) (h : am_R E d mX0_lookAt k n 88 ls st S (am_w iv a i.toNatClampNeg x) Q) : am_R E d mX0_lookAt k n 87 ls (.int x :: .int i :: .ref a :: st) S iv Q := am_iastore dX0_lookAt_87 ha hi h
theorem sX0_lookAt_88 {a0 a1 a2 : Value} (hv : am_rf a0 = true) (h : am_R E d mX0_lookAt k n 89 [a0, a1, a2] (a0 :: st) S iv Q) : am_R E d mX0_lookAt k n 88 [a0, a1, a2] st S iv Q := am_aload_n dX0_lookAt_88 rfl rfl hv h
theorem sX0_lookAt_89 {ls : List Value} {a b : Nat} (ha : S.1 a = some (.inl 0)) (hb : S.2.1 a 10 = some b) (h : am_R E d mX0_lookAt k n 92 ls (.ref b :: st) S iv Q) : am_R E d mX0_lookAt k n 89 ls (.ref a :: st) S iv Q := am_getR (ci := 0) dX0_lookAt_89 rfl rfl (by decide) wq_179 uq_0 rfl ha hb h
theorem sX0_lookAt_92 {a0 a1 a2 : Value} (h : am_R E d mX0_lookAt k n 94 [a0, a1, a2] (.int 6 :: st) S iv Q) : am_R E d mX0_lookAt k n 92 [a0, a1, a2] st S iv Q := am_bipush dX0_lookAt_92 (by decide) h
theorem sX0_lookAt_94 {a0 a1 : Value} {x : Int32} (h : am_R E d mX0_lookAt k n 95 [a0, a1, .int x] (.int x :: st) S iv Q) : am_R E d mX0_lookAt k n 94 [a0, a1, .int x] st S iv Q := am_iload_n dX0_lookAt_94 rfl rfl h
theorem sX0_lookAt_95 {a0 a1 a2 : Value} (hv : am_rf a0 = true) (h : am_R E d mX0_lookAt k n 96 [a0, a1, a2] (a0 :: st) S iv Q) : am_R E d mX0_lookAt k n 95 [a0, a1, a2] st S iv Q := am_aload_n dX0_lookAt_95 rfl rfl hv h
theorem sX0_lookAt_96 {ls : List Value} {a b : Nat} (ha : S.1 a = some (.inl 0)) (hb : S.2.1 a 7 = some b) (h : am_R E d mX0_lookAt k n 99 ls (.ref b :: st) S iv Q) : am_R E d mX0_lookAt k n 96 ls (.ref a :: st) S iv Q := am_getR (ci := 0) dX0_lookAt_96 rfl rfl (by decide) wq_165 uq_0 rfl ha hb h
theorem sX0_lookAt_99 {ls : List Value} {a b : Nat} (ha : S.1 a = some (.inl 2)) (hb : S.2.1 a 6 = some b) (h : am_R E d mX0_lookAt k n 102 ls (.ref b :: st) S iv Q) : am_R E d mX0_lookAt k n 99 ls (.ref a :: st) S iv Q := am_getR (ci := 2) dX0_lookAt_99 rfl rfl (by decide) wq_278 uq_2 rfl ha hb h
theorem sX0_lookAt_102 {a0 a2 : Value} {x : Int32} (h : am_R E d mX0_lookAt k n 103 [a0, .int x, a2] (.int x :: st) S iv Q) : am_R E d mX0_lookAt k n 102 [a0, .int x, a2] st S iv Q := am_iload_n dX0_lookAt_102 rfl rfl h
theorem sX0_lookAt_103 {ls : List Value} {a m : Nat} {i : Int32} (ha : S.1 a = some (.inr (.int, m))) (hi : vp_in i m) (h : am_R E d mX0_lookAt k n 104 ls (.int (iv a i.toNatClampNeg) :: st) S iv Q) : am_R E d mX0_lookAt k n 103 ls (.int i :: .ref a :: st) S iv Q := am_iaload dX0_lookAt_103 ha hi h
theorem sX0_lookAt_104 {ls : List Value} {x y : Int32} (h : am_R E d mX0_lookAt k n 105 ls (.int (x &&& y) :: st) S iv Q) : am_R E d mX0_lookAt k n 104 ls (.int y :: .int x :: st) S iv Q := am_iand dX0_lookAt_104 h
theorem sX0_lookAt_105 {ls : List Value} {x1 : Value} (hst : (st.map fun v => v.category).sum ≤ 8) (hM : am_M E d mJ6_bitCount_0f7a4 0 0 [x1] S iv (am_K3 E (d + 1) mX0_lookAt k n 105 ls st Q)) : am_R E (d + 1) mX0_lookAt k n 105 ls (x1 :: st) S iv Q := am_cS (M' := mJ6_bitCount_0f7a4) (as := [x1]) dX0_lookAt_105 rfl wq_275 wq_276 wq_273 wq_272 hy_J6_bitCount_0f7a4 (by decide) hst (by omega) (by omega) hM
theorem sX0_lookAt_105_k {ls : List Value} {x1 : Value} {k' n' : Nat} (hst : (st.map fun v => v.category).sum ≤ 8) (hM : am_M E d mJ6_bitCount_0f7a4 k' n' [x1] S iv (am_K3 E (d + 1) mX0_lookAt k n 105 ls st Q)) : am_R E (d + 1) mX0_lookAt (k' + k) (n' + n) 105 ls (x1 :: st) S iv Q := am_cS (M' := mJ6_bitCount_0f7a4) (as := [x1]) dX0_lookAt_105 rfl wq_275 wq_276 wq_273 wq_272 hy_J6_bitCount_0f7a4 (by decide) hst (by omega) (by omega) hM
theorem sX0_lookAt_108 {ls : List Value} {a m : Nat} {i x : Int32} (ha : S.1 a = some (.inr (.int, m))) (hi : vp_in i m) (h : am_R E d mX0_lookAt k n 109 ls st S (am_w iv a i.toNatClampNeg x) Q) : am_R E d mX0_lookAt k n 108 ls (.int x :: .int i :: .ref a :: st) S iv Q := am_iastore dX0_lookAt_108 ha hi h
theorem sX0_lookAt_109 {ls : List Value} (h : Q (.inl none) S iv) : am_R E d mX0_lookAt k n 109 ls [] S iv Q := am_return dX0_lookAt_109 rfl h
end R13_X0
