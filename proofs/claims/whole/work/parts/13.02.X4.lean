section R13_X4
variable {E : am_E} {d k n : Nat} {st : List Value} {S : am_S} {iv : am_I} {Q : am_O → am_S → am_I → Prop}
theorem dX4_init_0 : decode cX4_init 0 = .ok (.aload_n 0, 1) := by decide +kernel
theorem dX4_init_1 : decode cX4_init 1 = .ok (.invokespecial 3, 3) := by decide +kernel
theorem dX4_init_4 : decode cX4_init 4 = .ok (.aload_n 0, 1) := by decide +kernel
theorem dX4_init_5 : decode cX4_init 5 = .ok (.iconst 5, 1) := by decide +kernel
theorem dX4_init_6 : decode cX4_init 6 = .ok (.newarray .int, 2) := by decide +kernel
theorem dX4_init_8 : decode cX4_init 8 = .ok (.putfield 9, 3) := by decide +kernel
theorem dX4_init_11 : decode cX4_init 11 = .ok (.aload_n 0, 1) := by decide +kernel
theorem dX4_init_12 : decode cX4_init 12 = .ok (.iconst 5, 1) := by decide +kernel
theorem dX4_init_13 : decode cX4_init 13 = .ok (.newarray .int, 2) := by decide +kernel
theorem dX4_init_15 : decode cX4_init 15 = .ok (.putfield 15, 3) := by decide +kernel
theorem dX4_init_18 : decode cX4_init 18 = .ok (.aload_n 0, 1) := by decide +kernel
theorem dX4_init_19 : decode cX4_init 19 = .ok (.iconst 5, 1) := by decide +kernel
theorem dX4_init_20 : decode cX4_init 20 = .ok (.newarray .int, 2) := by decide +kernel
theorem dX4_init_22 : decode cX4_init 22 = .ok (.putfield 18, 3) := by decide +kernel
theorem dX4_init_25 : decode cX4_init 25 = .ok (.return_, 1) := by decide +kernel
theorem sX4_init_0 {a0 : Value} (hv : am_rf a0 = true) (h : am_R E d mX4_init k n 1 [a0] (a0 :: st) S iv Q) : am_R E d mX4_init k n 0 [a0] st S iv Q := am_aload_n dX4_init_0 rfl rfl hv h
theorem sX4_init_1 {ls : List Value} {a : Nat} (hst : (st.map fun v => v.category).sum ≤ 8) (h : am_R E (d + 1) mX4_init k n 4 ls st S iv Q) : am_R E (d + 1) mX4_init k n 1 ls (.ref a :: st) S iv Q := am_objInit dX4_init_1 wq_98 wq_63 wq_64 hst (by omega) h
theorem sX4_init_4 {a0 : Value} (hv : am_rf a0 = true) (h : am_R E d mX4_init k n 5 [a0] (a0 :: st) S iv Q) : am_R E d mX4_init k n 4 [a0] st S iv Q := am_aload_n dX4_init_4 rfl rfl hv h
theorem sX4_init_5 {a0 : Value} (h : am_R E d mX4_init k n 6 [a0] (.int 5 :: st) S iv Q) : am_R E d mX4_init k n 5 [a0] st S iv Q := am_iconst dX4_init_5 (by decide) h
theorem sX4_init_6 {ls : List Value} {x : Int32} {m : Nat} (hx : ¬ x < 0) (hm : x.toNatClampNeg = m) (hb : m ≤ 50000000) (h : am_R E d mX4_init k n 8 ls (.ref S.2.2.2 :: st) (am_new S (.inr (.int, m))) (am_0 S iv) Q) : am_R E d mX4_init (k + 1) (n + m) 6 ls (.int x :: st) S iv Q := am_nI dX4_init_6 wq_65 hx hm (by omega) (by omega) (by omega) h
theorem sX4_init_8 {ls : List Value} {a b : Nat} (ha : S.1 a = some (.inl 4)) (h : am_R E d mX4_init k n 11 ls st (am_wr S a 1 b) iv Q) : am_R E d mX4_init k n 8 ls (.ref b :: .ref a :: st) S iv Q := am_putR (ci := 4) dX4_init_8 rfl rfl (by decide) wq_99 uq_4 tyX4_ok nmX4 (Or.inr ⟨rfl, rfl, rfl⟩) rfl ha h
theorem sX4_init_11 {a0 : Value} (hv : am_rf a0 = true) (h : am_R E d mX4_init k n 12 [a0] (a0 :: st) S iv Q) : am_R E d mX4_init k n 11 [a0] st S iv Q := am_aload_n dX4_init_11 rfl rfl hv h
theorem sX4_init_12 {a0 : Value} (h : am_R E d mX4_init k n 13 [a0] (.int 5 :: st) S iv Q) : am_R E d mX4_init k n 12 [a0] st S iv Q := am_iconst dX4_init_12 (by decide) h
theorem sX4_init_13 {ls : List Value} {x : Int32} {m : Nat} (hx : ¬ x < 0) (hm : x.toNatClampNeg = m) (hb : m ≤ 50000000) (h : am_R E d mX4_init k n 15 ls (.ref S.2.2.2 :: st) (am_new S (.inr (.int, m))) (am_0 S iv) Q) : am_R E d mX4_init (k + 1) (n + m) 13 ls (.int x :: st) S iv Q := am_nI dX4_init_13 wq_65 hx hm (by omega) (by omega) (by omega) h
theorem sX4_init_15 {ls : List Value} {a b : Nat} (ha : S.1 a = some (.inl 4)) (h : am_R E d mX4_init k n 18 ls st (am_wr S a 2 b) iv Q) : am_R E d mX4_init k n 15 ls (.ref b :: .ref a :: st) S iv Q := am_putR (ci := 4) dX4_init_15 rfl rfl (by decide) wq_100 uq_4 tyX4_ok nmX4 (Or.inr ⟨rfl, rfl, rfl⟩) rfl ha h
theorem sX4_init_18 {a0 : Value} (hv : am_rf a0 = true) (h : am_R E d mX4_init k n 19 [a0] (a0 :: st) S iv Q) : am_R E d mX4_init k n 18 [a0] st S iv Q := am_aload_n dX4_init_18 rfl rfl hv h
theorem sX4_init_19 {a0 : Value} (h : am_R E d mX4_init k n 20 [a0] (.int 5 :: st) S iv Q) : am_R E d mX4_init k n 19 [a0] st S iv Q := am_iconst dX4_init_19 (by decide) h
theorem sX4_init_20 {ls : List Value} {x : Int32} {m : Nat} (hx : ¬ x < 0) (hm : x.toNatClampNeg = m) (hb : m ≤ 50000000) (h : am_R E d mX4_init k n 22 ls (.ref S.2.2.2 :: st) (am_new S (.inr (.int, m))) (am_0 S iv) Q) : am_R E d mX4_init (k + 1) (n + m) 20 ls (.int x :: st) S iv Q := am_nI dX4_init_20 wq_65 hx hm (by omega) (by omega) (by omega) h
theorem sX4_init_22 {ls : List Value} {a b : Nat} (ha : S.1 a = some (.inl 4)) (h : am_R E d mX4_init k n 25 ls st (am_wr S a 3 b) iv Q) : am_R E d mX4_init k n 22 ls (.ref b :: .ref a :: st) S iv Q := am_putR (ci := 4) dX4_init_22 rfl rfl (by decide) wq_101 uq_4 tyX4_ok nmX4 (Or.inr ⟨rfl, rfl, rfl⟩) rfl ha h
theorem sX4_init_25 {ls : List Value} (h : Q (.inl none) S iv) : am_R E d mX4_init k n 25 ls [] S iv Q := am_return dX4_init_25 rfl h
theorem dX4_add_0 : decode cX4_add 0 = .ok (.aload_n 0, 1) := by decide +kernel
theorem dX4_add_1 : decode cX4_add 1 = .ok (.getfield 21, 3) := by decide +kernel
theorem dX4_add_4 : decode cX4_add 4 = .ok (.iconst 5, 1) := by decide +kernel
theorem dX4_add_5 : decode cX4_add 5 = .ok (.if_icmp .ge 43, 3) := by decide +kernel
theorem dX4_add_8 : decode cX4_add 8 = .ok (.aload_n 0, 1) := by decide +kernel
theorem dX4_add_9 : decode cX4_add 9 = .ok (.getfield 9, 3) := by decide +kernel
theorem dX4_add_12 : decode cX4_add 12 = .ok (.aload_n 0, 1) := by decide +kernel
theorem dX4_add_13 : decode cX4_add 13 = .ok (.getfield 21, 3) := by decide +kernel
theorem dX4_add_16 : decode cX4_add 16 = .ok (.iload_n 1, 1) := by decide +kernel
theorem dX4_add_17 : decode cX4_add 17 = .ok (.iastore, 1) := by decide +kernel
theorem dX4_add_18 : decode cX4_add 18 = .ok (.aload_n 0, 1) := by decide +kernel
theorem dX4_add_19 : decode cX4_add 19 = .ok (.getfield 15, 3) := by decide +kernel
theorem dX4_add_22 : decode cX4_add 22 = .ok (.aload_n 0, 1) := by decide +kernel
theorem dX4_add_23 : decode cX4_add 23 = .ok (.getfield 21, 3) := by decide +kernel
theorem dX4_add_26 : decode cX4_add 26 = .ok (.iconst (-1), 1) := by decide +kernel
theorem dX4_add_27 : decode cX4_add 27 = .ok (.iastore, 1) := by decide +kernel
theorem dX4_add_28 : decode cX4_add 28 = .ok (.aload_n 0, 1) := by decide +kernel
theorem dX4_add_29 : decode cX4_add 29 = .ok (.getfield 18, 3) := by decide +kernel
theorem dX4_add_32 : decode cX4_add 32 = .ok (.aload_n 0, 1) := by decide +kernel
theorem dX4_add_33 : decode cX4_add 33 = .ok (.getfield 21, 3) := by decide +kernel
theorem dX4_add_36 : decode cX4_add 36 = .ok (.iconst 1, 1) := by decide +kernel
theorem dX4_add_37 : decode cX4_add 37 = .ok (.iastore, 1) := by decide +kernel
theorem dX4_add_38 : decode cX4_add 38 = .ok (.aload_n 0, 1) := by decide +kernel
theorem dX4_add_39 : decode cX4_add 39 = .ok (.dup, 1) := by decide +kernel
theorem dX4_add_40 : decode cX4_add 40 = .ok (.getfield 21, 3) := by decide +kernel
theorem dX4_add_43 : decode cX4_add 43 = .ok (.iconst 1, 1) := by decide +kernel
theorem dX4_add_44 : decode cX4_add 44 = .ok (.iadd, 1) := by decide +kernel
theorem dX4_add_45 : decode cX4_add 45 = .ok (.putfield 21, 3) := by decide +kernel
theorem dX4_add_48 : decode cX4_add 48 = .ok (.return_, 1) := by decide +kernel
theorem sX4_add_0 {a0 a1 : Value} (hv : am_rf a0 = true) (h : am_R E d mX4_add k n 1 [a0, a1] (a0 :: st) S iv Q) : am_R E d mX4_add k n 0 [a0, a1] st S iv Q := am_aload_n dX4_add_0 rfl rfl hv h
theorem sX4_add_1 {ls : List Value} {a : Nat} (ha : S.1 a = some (.inl 4)) (h : am_R E d mX4_add k n 4 ls (.int (iv a 0) :: st) S iv Q) : am_R E d mX4_add k n 1 ls (.ref a :: st) S iv Q := am_getI (ci := 4) dX4_add_1 rfl rfl (by decide) wq_102 uq_4 rfl ha h
theorem sX4_add_4 {a0 a1 : Value} (h : am_R E d mX4_add k n 5 [a0, a1] (.int 5 :: st) S iv Q) : am_R E d mX4_add k n 4 [a0, a1] st S iv Q := am_iconst dX4_add_4 (by decide) h
theorem sX4_add_5 {ls : List Value} {x y : Int32} (kt : y ≤ x → am_R E d mX4_add k n 48 ls st S iv Q) (kf : ¬ y ≤ x → am_R E d mX4_add k n 8 ls st S iv Q) : am_R E d mX4_add k n 5 ls (.int y :: .int x :: st) S iv Q := am_icmp_ge dX4_add_5 (by decide) kt kf
theorem sX4_add_8 {a0 a1 : Value} (hv : am_rf a0 = true) (h : am_R E d mX4_add k n 9 [a0, a1] (a0 :: st) S iv Q) : am_R E d mX4_add k n 8 [a0, a1] st S iv Q := am_aload_n dX4_add_8 rfl rfl hv h
theorem sX4_add_9 {ls : List Value} {a b : Nat} (ha : S.1 a = some (.inl 4)) (hb : S.2.1 a 1 = some b) (h : am_R E d mX4_add k n 12 ls (.ref b :: st) S iv Q) : am_R E d mX4_add k n 9 ls (.ref a :: st) S iv Q := am_getR (ci := 4) dX4_add_9 rfl rfl (by decide) wq_99 uq_4 rfl ha hb h
theorem sX4_add_12 {a0 a1 : Value} (hv : am_rf a0 = true) (h : am_R E d mX4_add k n 13 [a0, a1] (a0 :: st) S iv Q) : am_R E d mX4_add k n 12 [a0, a1] st S iv Q := am_aload_n dX4_add_12 rfl rfl hv h
theorem sX4_add_13 {ls : List Value} {a : Nat} (ha : S.1 a = some (.inl 4)) (h : am_R E d mX4_add k n 16 ls (.int (iv a 0) :: st) S iv Q) : am_R E d mX4_add k n 13 ls (.ref a :: st) S iv Q := am_getI (ci := 4) dX4_add_13 rfl rfl (by decide) wq_102 uq_4 rfl ha h
theorem sX4_add_16 {a0 : Value} {x : Int32} (h : am_R E d mX4_add k n 17 [a0, .int x] (.int x :: st) S iv Q) : am_R E d mX4_add k n 16 [a0, .int x] st S iv Q := am_iload_n dX4_add_16 rfl rfl h
theorem sX4_add_17 {ls : List Value} {a m : Nat} {i x : Int32} (ha : S.1 a = some (.inr (.int, m))) (hi : vp_in i m) (h : am_R E d mX4_add k n 18 ls st S (am_w iv a i.toNatClampNeg x) Q) : am_R E d mX4_add k n 17 ls (.int x :: .int i :: .ref a :: st) S iv Q := am_iastore dX4_add_17 ha hi h
theorem sX4_add_18 {a0 a1 : Value} (hv : am_rf a0 = true) (h : am_R E d mX4_add k n 19 [a0, a1] (a0 :: st) S iv Q) : am_R E d mX4_add k n 18 [a0, a1] st S iv Q := am_aload_n dX4_add_18 rfl rfl hv h
theorem sX4_add_19 {ls : List Value} {a b : Nat} (ha : S.1 a = some (.inl 4)) (hb : S.2.1 a 2 = some b) (h : am_R E d mX4_add k n 22 ls (.ref b :: st) S iv Q) : am_R E d mX4_add k n 19 ls (.ref a :: st) S iv Q := am_getR (ci := 4) dX4_add_19 rfl rfl (by decide) wq_100 uq_4 rfl ha hb h
theorem sX4_add_22 {a0 a1 : Value} (hv : am_rf a0 = true) (h : am_R E d mX4_add k n 23 [a0, a1] (a0 :: st) S iv Q) : am_R E d mX4_add k n 22 [a0, a1] st S iv Q := am_aload_n dX4_add_22 rfl rfl hv h
theorem sX4_add_23 {ls : List Value} {a : Nat} (ha : S.1 a = some (.inl 4)) (h : am_R E d mX4_add k n 26 ls (.int (iv a 0) :: st) S iv Q) : am_R E d mX4_add k n 23 ls (.ref a :: st) S iv Q := am_getI (ci := 4) dX4_add_23 rfl rfl (by decide) wq_102 uq_4 rfl ha h
theorem sX4_add_26 {a0 a1 : Value} (h : am_R E d mX4_add k n 27 [a0, a1] (.int (-1) :: st) S iv Q) : am_R E d mX4_add k n 26 [a0, a1] st S iv Q := am_iconst dX4_add_26 (by decide) h
theorem sX4_add_27 {ls : List Value} {a m : Nat} {i x : Int32} (ha : S.1 a = some (.inr (.int, m))) (hi : vp_in i m) (h : am_R E d mX4_add k n 28 ls st S (am_w iv a i.toNatClampNeg x) Q) : am_R E d mX4_add k n 27 ls (.int x :: .int i :: .ref a :: st) S iv Q := am_iastore dX4_add_27 ha hi h
theorem sX4_add_28 {a0 a1 : Value} (hv : am_rf a0 = true) (h : am_R E d mX4_add k n 29 [a0, a1] (a0 :: st) S iv Q) : am_R E d mX4_add k n 28 [a0, a1] st S iv Q := am_aload_n dX4_add_28 rfl rfl hv h
theorem sX4_add_29 {ls : List Value} {a b : Nat} (ha : S.1 a = some (.inl 4)) (hb : S.2.1 a 3 = some b) (h : am_R E d mX4_add k n 32 ls (.ref b :: st) S iv Q) : am_R E d mX4_add k n 29 ls (.ref a :: st) S iv Q := am_getR (ci := 4) dX4_add_29 rfl rfl (by decide) wq_101 uq_4 rfl ha hb h
theorem sX4_add_32 {a0 a1 : Value} (hv : am_rf a0 = true) (h : am_R E d mX4_add k n 33 [a0, a1] (a0 :: st) S iv Q) : am_R E d mX4_add k n 32 [a0, a1] st S iv Q := am_aload_n dX4_add_32 rfl rfl hv h
theorem sX4_add_33 {ls : List Value} {a : Nat} (ha : S.1 a = some (.inl 4)) (h : am_R E d mX4_add k n 36 ls (.int (iv a 0) :: st) S iv Q) : am_R E d mX4_add k n 33 ls (.ref a :: st) S iv Q := am_getI (ci := 4) dX4_add_33 rfl rfl (by decide) wq_102 uq_4 rfl ha h
theorem sX4_add_36 {a0 a1 : Value} (h : am_R E d mX4_add k n 37 [a0, a1] (.int 1 :: st) S iv Q) : am_R E d mX4_add k n 36 [a0, a1] st S iv Q := am_iconst dX4_add_36 (by decide) h
theorem sX4_add_37 {ls : List Value} {a m : Nat} {i x : Int32} (ha : S.1 a = some (.inr (.int, m))) (hi : vp_in i m) (h : am_R E d mX4_add k n 38 ls st S (am_w iv a i.toNatClampNeg x) Q) : am_R E d mX4_add k n 37 ls (.int x :: .int i :: .ref a :: st) S iv Q := am_iastore dX4_add_37 ha hi h
theorem sX4_add_38 {a0 a1 : Value} (hv : am_rf a0 = true) (h : am_R E d mX4_add k n 39 [a0, a1] (a0 :: st) S iv Q) : am_R E d mX4_add k n 38 [a0, a1] st S iv Q := am_aload_n dX4_add_38 rfl rfl hv h
theorem sX4_add_39 {ls : List Value} {x : Value} (hv : x.category = 1) (h : am_R E d mX4_add k n 40 ls (x :: x :: st) S iv Q) : am_R E d mX4_add k n 39 ls (x :: st) S iv Q := am_dup dX4_add_39 hv h
theorem sX4_add_40 {ls : List Value} {a : Nat} (ha : S.1 a = some (.inl 4)) (h : am_R E d mX4_add k n 43 ls (.int (iv a 0) :: st) S iv Q) : am_R E d mX4_add k n 40 ls (.ref a :: st) S iv Q := am_getI (ci := 4) dX4_add_40 rfl rfl (by decide) wq_102 uq_4 rfl ha h
theorem sX4_add_43 {a0 a1 : Value} (h : am_R E d mX4_add k n 44 [a0, a1] (.int 1 :: st) S iv Q) : am_R E d mX4_add k n 43 [a0, a1] st S iv Q := am_iconst dX4_add_43 (by decide) h
theorem sX4_add_44 {ls : List Value} {x y : Int32} (h : am_R E d mX4_add k n 45 ls (.int (x + y) :: st) S iv Q) : am_R E d mX4_add k n 44 ls (.int y :: .int x :: st) S iv Q := am_iadd dX4_add_44 h
theorem sX4_add_45 {ls : List Value} {a : Nat} {x : Int32} (ha : S.1 a = some (.inl 4)) (h : am_R E d mX4_add k n 48 ls st S (am_w iv a 0 x) Q) : am_R E d mX4_add k n 45 ls (.int x :: .ref a :: st) S iv Q := am_putI (ci := 4) dX4_add_45 rfl rfl (by decide) wq_102 uq_4 tyX4_ok nmX4 (Or.inl rfl) rfl ha h
theorem sX4_add_48 {ls : List Value} (h : Q (.inl none) S iv) : am_R E d mX4_add k n 48 ls [] S iv Q := am_return dX4_add_48 rfl h
theorem dX4_copyFrom_0 : decode cX4_copyFrom 0 = .ok (.aload_n 0, 1) := by decide +kernel
theorem dX4_copyFrom_1 : decode cX4_copyFrom 1 = .ok (.aload_n 1, 1) := by decide +kernel
theorem dX4_copyFrom_2 : decode cX4_copyFrom 2 = .ok (.getfield 21, 3) := by decide +kernel
theorem dX4_copyFrom_5 : decode cX4_copyFrom 5 = .ok (.putfield 21, 3) := by decide +kernel
theorem dX4_copyFrom_8 : decode cX4_copyFrom 8 = .ok (.aload_n 1, 1) := by decide +kernel
theorem dX4_copyFrom_9 : decode cX4_copyFrom 9 = .ok (.getfield 9, 3) := by decide +kernel
theorem dX4_copyFrom_12 : decode cX4_copyFrom 12 = .ok (.iconst 0, 1) := by decide +kernel
theorem dX4_copyFrom_13 : decode cX4_copyFrom 13 = .ok (.aload_n 0, 1) := by decide +kernel
theorem dX4_copyFrom_14 : decode cX4_copyFrom 14 = .ok (.getfield 9, 3) := by decide +kernel
theorem dX4_copyFrom_17 : decode cX4_copyFrom 17 = .ok (.iconst 0, 1) := by decide +kernel
theorem dX4_copyFrom_18 : decode cX4_copyFrom 18 = .ok (.iconst 5, 1) := by decide +kernel
theorem dX4_copyFrom_19 : decode cX4_copyFrom 19 = .ok (.invokestatic 25, 3) := by decide +kernel
theorem dX4_copyFrom_22 : decode cX4_copyFrom 22 = .ok (.aload_n 1, 1) := by decide +kernel
theorem dX4_copyFrom_23 : decode cX4_copyFrom 23 = .ok (.getfield 15, 3) := by decide +kernel
theorem dX4_copyFrom_26 : decode cX4_copyFrom 26 = .ok (.iconst 0, 1) := by decide +kernel
theorem dX4_copyFrom_27 : decode cX4_copyFrom 27 = .ok (.aload_n 0, 1) := by decide +kernel
theorem dX4_copyFrom_28 : decode cX4_copyFrom 28 = .ok (.getfield 15, 3) := by decide +kernel
theorem dX4_copyFrom_31 : decode cX4_copyFrom 31 = .ok (.iconst 0, 1) := by decide +kernel
theorem dX4_copyFrom_32 : decode cX4_copyFrom 32 = .ok (.iconst 5, 1) := by decide +kernel
theorem dX4_copyFrom_33 : decode cX4_copyFrom 33 = .ok (.invokestatic 25, 3) := by decide +kernel
theorem dX4_copyFrom_36 : decode cX4_copyFrom 36 = .ok (.aload_n 1, 1) := by decide +kernel
theorem dX4_copyFrom_37 : decode cX4_copyFrom 37 = .ok (.getfield 18, 3) := by decide +kernel
theorem dX4_copyFrom_40 : decode cX4_copyFrom 40 = .ok (.iconst 0, 1) := by decide +kernel
theorem dX4_copyFrom_41 : decode cX4_copyFrom 41 = .ok (.aload_n 0, 1) := by decide +kernel
theorem dX4_copyFrom_42 : decode cX4_copyFrom 42 = .ok (.getfield 18, 3) := by decide +kernel
theorem dX4_copyFrom_45 : decode cX4_copyFrom 45 = .ok (.iconst 0, 1) := by decide +kernel
theorem dX4_copyFrom_46 : decode cX4_copyFrom 46 = .ok (.iconst 5, 1) := by decide +kernel
theorem dX4_copyFrom_47 : decode cX4_copyFrom 47 = .ok (.invokestatic 25, 3) := by decide +kernel
theorem dX4_copyFrom_50 : decode cX4_copyFrom 50 = .ok (.return_, 1) := by decide +kernel
theorem sX4_copyFrom_0 {a0 a1 : Value} (hv : am_rf a0 = true) (h : am_R E d mX4_copyFrom k n 1 [a0, a1] (a0 :: st) S iv Q) : am_R E d mX4_copyFrom k n 0 [a0, a1] st S iv Q := am_aload_n dX4_copyFrom_0 rfl rfl hv h
theorem sX4_copyFrom_1 {a0 a1 : Value} (hv : am_rf a1 = true) (h : am_R E d mX4_copyFrom k n 2 [a0, a1] (a1 :: st) S iv Q) : am_R E d mX4_copyFrom k n 1 [a0, a1] st S iv Q := am_aload_n dX4_copyFrom_1 rfl rfl hv h
theorem sX4_copyFrom_2 {ls : List Value} {a : Nat} (ha : S.1 a = some (.inl 4)) (h : am_R E d mX4_copyFrom k n 5 ls (.int (iv a 0) :: st) S iv Q) : am_R E d mX4_copyFrom k n 2 ls (.ref a :: st) S iv Q := am_getI (ci := 4) dX4_copyFrom_2 rfl rfl (by decide) wq_102 uq_4 rfl ha h
theorem sX4_copyFrom_5 {ls : List Value} {a : Nat} {x : Int32} (ha : S.1 a = some (.inl 4)) (h : am_R E d mX4_copyFrom k n 8 ls st S (am_w iv a 0 x) Q) : am_R E d mX4_copyFrom k n 5 ls (.int x :: .ref a :: st) S iv Q := am_putI (ci := 4) dX4_copyFrom_5 rfl rfl (by decide) wq_102 uq_4 tyX4_ok nmX4 (Or.inl rfl) rfl ha h
theorem sX4_copyFrom_8 {a0 a1 : Value} (hv : am_rf a1 = true) (h : am_R E d mX4_copyFrom k n 9 [a0, a1] (a1 :: st) S iv Q) : am_R E d mX4_copyFrom k n 8 [a0, a1] st S iv Q := am_aload_n dX4_copyFrom_8 rfl rfl hv h
theorem sX4_copyFrom_9 {ls : List Value} {a b : Nat} (ha : S.1 a = some (.inl 4)) (hb : S.2.1 a 1 = some b) (h : am_R E d mX4_copyFrom k n 12 ls (.ref b :: st) S iv Q) : am_R E d mX4_copyFrom k n 9 ls (.ref a :: st) S iv Q := am_getR (ci := 4) dX4_copyFrom_9 rfl rfl (by decide) wq_99 uq_4 rfl ha hb h
theorem sX4_copyFrom_12 {a0 a1 : Value} (h : am_R E d mX4_copyFrom k n 13 [a0, a1] (.int 0 :: st) S iv Q) : am_R E d mX4_copyFrom k n 12 [a0, a1] st S iv Q := am_iconst dX4_copyFrom_12 (by decide) h
theorem sX4_copyFrom_13 {a0 a1 : Value} (hv : am_rf a0 = true) (h : am_R E d mX4_copyFrom k n 14 [a0, a1] (a0 :: st) S iv Q) : am_R E d mX4_copyFrom k n 13 [a0, a1] st S iv Q := am_aload_n dX4_copyFrom_13 rfl rfl hv h
theorem sX4_copyFrom_14 {ls : List Value} {a b : Nat} (ha : S.1 a = some (.inl 4)) (hb : S.2.1 a 1 = some b) (h : am_R E d mX4_copyFrom k n 17 ls (.ref b :: st) S iv Q) : am_R E d mX4_copyFrom k n 14 ls (.ref a :: st) S iv Q := am_getR (ci := 4) dX4_copyFrom_14 rfl rfl (by decide) wq_99 uq_4 rfl ha hb h
theorem sX4_copyFrom_17 {a0 a1 : Value} (h : am_R E d mX4_copyFrom k n 18 [a0, a1] (.int 0 :: st) S iv Q) : am_R E d mX4_copyFrom k n 17 [a0, a1] st S iv Q := am_iconst dX4_copyFrom_17 (by decide) h
theorem sX4_copyFrom_18 {a0 a1 : Value} (h : am_R E d mX4_copyFrom k n 19 [a0, a1] (.int 5 :: st) S iv Q) : am_R E d mX4_copyFrom k n 18 [a0, a1] st S iv Q := am_iconst dX4_copyFrom_18 (by decide) h
theorem sX4_copyFrom_19 {ls : List Value} {a0 a n0 n1 : Nat} {sp dp x : Int32} (ha0 : S.1 a0 = some (.inr (.int, n0))) (ha : S.1 a = some (.inr (.int, n1))) (g1 : ¬ sp < 0) (g2 : ¬ dp < 0) (g3 : ¬ x < 0) (g4 : sp.toNatClampNeg + x.toNatClampNeg ≤ n0) (g5 : dp.toNatClampNeg + x.toNatClampNeg ≤ n1) (hst : (st.map fun v => v.category).sum ≤ 8) (h : am_R E (d + 2) mX4_copyFrom k n 22 ls st S (fun b => if b = a then va_cpy (iv a0) (iv a) sp.toNatClampNeg dp.toNatClampNeg x.toNatClampNeg else iv b) Q) : am_R E (d + 2) mX4_copyFrom k n 19 ls (.int x :: .int dp :: .ref a :: .int sp :: .ref a0 :: st) S iv Q := am_copy dX4_copyFrom_19 wq_103 wq_76 wq_77 wq_78 ha0 ha g1 g2 g3 g4 g5 hst (by omega) h
theorem sX4_copyFrom_22 {a0 a1 : Value} (hv : am_rf a1 = true) (h : am_R E d mX4_copyFrom k n 23 [a0, a1] (a1 :: st) S iv Q) : am_R E d mX4_copyFrom k n 22 [a0, a1] st S iv Q := am_aload_n dX4_copyFrom_22 rfl rfl hv h
theorem sX4_copyFrom_23 {ls : List Value} {a b : Nat} (ha : S.1 a = some (.inl 4)) (hb : S.2.1 a 2 = some b) (h : am_R E d mX4_copyFrom k n 26 ls (.ref b :: st) S iv Q) : am_R E d mX4_copyFrom k n 23 ls (.ref a :: st) S iv Q := am_getR (ci := 4) dX4_copyFrom_23 rfl rfl (by decide) wq_100 uq_4 rfl ha hb h
theorem sX4_copyFrom_26 {a0 a1 : Value} (h : am_R E d mX4_copyFrom k n 27 [a0, a1] (.int 0 :: st) S iv Q) : am_R E d mX4_copyFrom k n 26 [a0, a1] st S iv Q := am_iconst dX4_copyFrom_26 (by decide) h
theorem sX4_copyFrom_27 {a0 a1 : Value} (hv : am_rf a0 = true) (h : am_R E d mX4_copyFrom k n 28 [a0, a1] (a0 :: st) S iv Q) : am_R E d mX4_copyFrom k n 27 [a0, a1] st S iv Q := am_aload_n dX4_copyFrom_27 rfl rfl hv h
theorem sX4_copyFrom_28 {ls : List Value} {a b : Nat} (ha : S.1 a = some (.inl 4)) (hb : S.2.1 a 2 = some b) (h : am_R E d mX4_copyFrom k n 31 ls (.ref b :: st) S iv Q) : am_R E d mX4_copyFrom k n 28 ls (.ref a :: st) S iv Q := am_getR (ci := 4) dX4_copyFrom_28 rfl rfl (by decide) wq_100 uq_4 rfl ha hb h
theorem sX4_copyFrom_31 {a0 a1 : Value} (h : am_R E d mX4_copyFrom k n 32 [a0, a1] (.int 0 :: st) S iv Q) : am_R E d mX4_copyFrom k n 31 [a0, a1] st S iv Q := am_iconst dX4_copyFrom_31 (by decide) h
theorem sX4_copyFrom_32 {a0 a1 : Value} (h : am_R E d mX4_copyFrom k n 33 [a0, a1] (.int 5 :: st) S iv Q) : am_R E d mX4_copyFrom k n 32 [a0, a1] st S iv Q := am_iconst dX4_copyFrom_32 (by decide) h
theorem sX4_copyFrom_33 {ls : List Value} {a0 a n0 n1 : Nat} {sp dp x : Int32} (ha0 : S.1 a0 = some (.inr (.int, n0))) (ha : S.1 a = some (.inr (.int, n1))) (g1 : ¬ sp < 0) (g2 : ¬ dp < 0) (g3 : ¬ x < 0) (g4 : sp.toNatClampNeg + x.toNatClampNeg ≤ n0) (g5 : dp.toNatClampNeg + x.toNatClampNeg ≤ n1) (hst : (st.map fun v => v.category).sum ≤ 8) (h : am_R E (d + 2) mX4_copyFrom k n 36 ls st S (fun b => if b = a then va_cpy (iv a0) (iv a) sp.toNatClampNeg dp.toNatClampNeg x.toNatClampNeg else iv b) Q) : am_R E (d + 2) mX4_copyFrom k n 33 ls (.int x :: .int dp :: .ref a :: .int sp :: .ref a0 :: st) S iv Q := am_copy dX4_copyFrom_33 wq_103 wq_76 wq_77 wq_78 ha0 ha g1 g2 g3 g4 g5 hst (by omega) h
theorem sX4_copyFrom_36 {a0 a1 : Value} (hv : am_rf a1 = true) (h : am_R E d mX4_copyFrom k n 37 [a0, a1] (a1 :: st) S iv Q) : am_R E d mX4_copyFrom k n 36 [a0, a1] st S iv Q := am_aload_n dX4_copyFrom_36 rfl rfl hv h
theorem sX4_copyFrom_37 {ls : List Value} {a b : Nat} (ha : S.1 a = some (.inl 4)) (hb : S.2.1 a 3 = some b) (h : am_R E d mX4_copyFrom k n 40 ls (.ref b :: st) S iv Q) : am_R E d mX4_copyFrom k n 37 ls (.ref a :: st) S iv Q := am_getR (ci := 4) dX4_copyFrom_37 rfl rfl (by decide) wq_101 uq_4 rfl ha hb h
theorem sX4_copyFrom_40 {a0 a1 : Value} (h : am_R E d mX4_copyFrom k n 41 [a0, a1] (.int 0 :: st) S iv Q) : am_R E d mX4_copyFrom k n 40 [a0, a1] st S iv Q := am_iconst dX4_copyFrom_40 (by decide) h
theorem sX4_copyFrom_41 {a0 a1 : Value} (hv : am_rf a0 = true) (h : am_R E d mX4_copyFrom k n 42 [a0, a1] (a0 :: st) S iv Q) : am_R E d mX4_copyFrom k n 41 [a0, a1] st S iv Q := am_aload_n dX4_copyFrom_41 rfl rfl hv h
theorem sX4_copyFrom_42 {ls : List Value} {a b : Nat} (ha : S.1 a = some (.inl 4)) (hb : S.2.1 a 3 = some b) (h : am_R E d mX4_copyFrom k n 45 ls (.ref b :: st) S iv Q) : am_R E d mX4_copyFrom k n 42 ls (.ref a :: st) S iv Q := am_getR (ci := 4) dX4_copyFrom_42 rfl rfl (by decide) wq_101 uq_4 rfl ha hb h
theorem sX4_copyFrom_45 {a0 a1 : Value} (h : am_R E d mX4_copyFrom k n 46 [a0, a1] (.int 0 :: st) S iv Q) : am_R E d mX4_copyFrom k n 45 [a0, a1] st S iv Q := am_iconst dX4_copyFrom_45 (by decide) h
theorem sX4_copyFrom_46 {a0 a1 : Value} (h : am_R E d mX4_copyFrom k n 47 [a0, a1] (.int 5 :: st) S iv Q) : am_R E d mX4_copyFrom k n 46 [a0, a1] st S iv Q := am_iconst dX4_copyFrom_46 (by decide) h
theorem sX4_copyFrom_47 {ls : List Value} {a0 a n0 n1 : Nat} {sp dp x : Int32} (ha0 : S.1 a0 = some (.inr (.int, n0))) (ha : S.1 a = some (.inr (.int, n1))) (g1 : ¬ sp < 0) (g2 : ¬ dp < 0) (g3 : ¬ x < 0) (g4 : sp.toNatClampNeg + x.toNatClampNeg ≤ n0) (g5 : dp.toNatClampNeg + x.toNatClampNeg ≤ n1) (hst : (st.map fun v => v.category).sum ≤ 8) (h : am_R E (d + 2) mX4_copyFrom k n 50 ls st S (fun b => if b = a then va_cpy (iv a0) (iv a) sp.toNatClampNeg dp.toNatClampNeg x.toNatClampNeg else iv b) Q) : am_R E (d + 2) mX4_copyFrom k n 47 ls (.int x :: .int dp :: .ref a :: .int sp :: .ref a0 :: st) S iv Q := am_copy dX4_copyFrom_47 wq_103 wq_76 wq_77 wq_78 ha0 ha g1 g2 g3 g4 g5 hst (by omega) h
theorem sX4_copyFrom_50 {ls : List Value} (h : Q (.inl none) S iv) : am_R E d mX4_copyFrom k n 50 ls [] S iv Q := am_return dX4_copyFrom_50 rfl h
theorem dX4_hungry_0 : decode cX4_hungry 0 = .ok (.iconst 0, 1) := by decide +kernel
theorem dX4_hungry_1 : decode cX4_hungry 1 = .ok (.istore_n 1, 1) := by decide +kernel
theorem dX4_hungry_2 : decode cX4_hungry 2 = .ok (.iconst 0, 1) := by decide +kernel
theorem dX4_hungry_3 : decode cX4_hungry 3 = .ok (.istore_n 2, 1) := by decide +kernel
theorem dX4_hungry_4 : decode cX4_hungry 4 = .ok (.iload_n 2, 1) := by decide +kernel
theorem dX4_hungry_5 : decode cX4_hungry 5 = .ok (.aload_n 0, 1) := by decide +kernel
theorem dX4_hungry_6 : decode cX4_hungry 6 = .ok (.getfield 21, 3) := by decide +kernel
theorem dX4_hungry_9 : decode cX4_hungry 9 = .ok (.if_icmp .ge 29, 3) := by decide +kernel
theorem dX4_hungry_12 : decode cX4_hungry 12 = .ok (.iload_n 1, 1) := by decide +kernel
theorem dX4_hungry_13 : decode cX4_hungry 13 = .ok (.aload_n 0, 1) := by decide +kernel
theorem dX4_hungry_14 : decode cX4_hungry 14 = .ok (.getfield 15, 3) := by decide +kernel
theorem dX4_hungry_17 : decode cX4_hungry 17 = .ok (.iload_n 2, 1) := by decide +kernel
theorem dX4_hungry_18 : decode cX4_hungry 18 = .ok (.iaload, 1) := by decide +kernel
theorem dX4_hungry_19 : decode cX4_hungry 19 = .ok (.iconst (-1), 1) := by decide +kernel
theorem dX4_hungry_20 : decode cX4_hungry 20 = .ok (.if_icmp .eq 9, 3) := by decide +kernel
theorem dX4_hungry_23 : decode cX4_hungry 23 = .ok (.iconst 1, 1) := by decide +kernel
theorem dX4_hungry_24 : decode cX4_hungry 24 = .ok (.iload_n 2, 1) := by decide +kernel
theorem dX4_hungry_25 : decode cX4_hungry 25 = .ok (.ishl, 1) := by decide +kernel
theorem dX4_hungry_26 : decode cX4_hungry 26 = .ok (.goto 4, 3) := by decide +kernel
theorem dX4_hungry_29 : decode cX4_hungry 29 = .ok (.iconst 0, 1) := by decide +kernel
theorem dX4_hungry_30 : decode cX4_hungry 30 = .ok (.ior, 1) := by decide +kernel
theorem dX4_hungry_31 : decode cX4_hungry 31 = .ok (.istore_n 1, 1) := by decide +kernel
theorem dX4_hungry_32 : decode cX4_hungry 32 = .ok (.iinc 2 1, 3) := by decide +kernel
theorem dX4_hungry_35 : decode cX4_hungry 35 = .ok (.goto (-31), 3) := by decide +kernel
theorem dX4_hungry_38 : decode cX4_hungry 38 = .ok (.iload_n 1, 1) := by decide +kernel
theorem dX4_hungry_39 : decode cX4_hungry 39 = .ok (.ireturn, 1) := by decide +kernel
theorem sX4_hungry_0 {a0 a1 a2 : Value} (h : am_R E d mX4_hungry k n 1 [a0, a1, a2] (.int 0 :: st) S iv Q) : am_R E d mX4_hungry k n 0 [a0, a1, a2] st S iv Q := am_iconst dX4_hungry_0 (by decide) h
theorem sX4_hungry_1 {a0 a1 a2 : Value} {x : Int32} (h : am_R E d mX4_hungry k n 2 [a0, .int x, a2] st S iv Q) : am_R E d mX4_hungry k n 1 [a0, a1, a2] (.int x :: st) S iv Q := am_istore_n dX4_hungry_1 rfl (by decide) h
theorem sX4_hungry_2 {a0 a1 a2 : Value} (h : am_R E d mX4_hungry k n 3 [a0, a1, a2] (.int 0 :: st) S iv Q) : am_R E d mX4_hungry k n 2 [a0, a1, a2] st S iv Q := am_iconst dX4_hungry_2 (by decide) h
theorem sX4_hungry_3 {a0 a1 a2 : Value} {x : Int32} (h : am_R E d mX4_hungry k n 4 [a0, a1, .int x] st S iv Q) : am_R E d mX4_hungry k n 3 [a0, a1, a2] (.int x :: st) S iv Q := am_istore_n dX4_hungry_3 rfl (by decide) h
theorem sX4_hungry_4 {a0 a1 : Value} {x : Int32} (h : am_R E d mX4_hungry k n 5 [a0, a1, .int x] (.int x :: st) S iv Q) : am_R E d mX4_hungry k n 4 [a0, a1, .int x] st S iv Q := am_iload_n dX4_hungry_4 rfl rfl h
theorem sX4_hungry_5 {a0 a1 a2 : Value} (hv : am_rf a0 = true) (h : am_R E d mX4_hungry k n 6 [a0, a1, a2] (a0 :: st) S iv Q) : am_R E d mX4_hungry k n 5 [a0, a1, a2] st S iv Q := am_aload_n dX4_hungry_5 rfl rfl hv h
theorem sX4_hungry_6 {ls : List Value} {a : Nat} (ha : S.1 a = some (.inl 4)) (h : am_R E d mX4_hungry k n 9 ls (.int (iv a 0) :: st) S iv Q) : am_R E d mX4_hungry k n 6 ls (.ref a :: st) S iv Q := am_getI (ci := 4) dX4_hungry_6 rfl rfl (by decide) wq_102 uq_4 rfl ha h
theorem sX4_hungry_9 {ls : List Value} {x y : Int32} (kt : y ≤ x → am_R E d mX4_hungry k n 38 ls st S iv Q) (kf : ¬ y ≤ x → am_R E d mX4_hungry k n 12 ls st S iv Q) : am_R E d mX4_hungry k n 9 ls (.int y :: .int x :: st) S iv Q := am_icmp_ge dX4_hungry_9 (by decide) kt kf
theorem sX4_hungry_12 {a0 a2 : Value} {x : Int32} (h : am_R E d mX4_hungry k n 13 [a0, .int x, a2] (.int x :: st) S iv Q) : am_R E d mX4_hungry k n 12 [a0, .int x, a2] st S iv Q := am_iload_n dX4_hungry_12 rfl rfl h
theorem sX4_hungry_13 {a0 a1 a2 : Value} (hv : am_rf a0 = true) (h : am_R E d mX4_hungry k n 14 [a0, a1, a2] (a0 :: st) S iv Q) : am_R E d mX4_hungry k n 13 [a0, a1, a2] st S iv Q := am_aload_n dX4_hungry_13 rfl rfl hv h
theorem sX4_hungry_14 {ls : List Value} {a b : Nat} (ha : S.1 a = some (.inl 4)) (hb : S.2.1 a 2 = some b) (h : am_R E d mX4_hungry k n 17 ls (.ref b :: st) S iv Q) : am_R E d mX4_hungry k n 14 ls (.ref a :: st) S iv Q := am_getR (ci := 4) dX4_hungry_14 rfl rfl (by decide) wq_100 uq_4 rfl ha hb h
theorem sX4_hungry_17 {a0 a1 : Value} {x : Int32} (h : am_R E d mX4_hungry k n 18 [a0, a1, .int x] (.int x :: st) S iv Q) : am_R E d mX4_hungry k n 17 [a0, a1, .int x] st S iv Q := am_iload_n dX4_hungry_17 rfl rfl h
theorem sX4_hungry_18 {ls : List Value} {a m : Nat} {i : Int32} (ha : S.1 a = some (.inr (.int, m))) (hi : vp_in i m) (h : am_R E d mX4_hungry k n 19 ls (.int (iv a i.toNatClampNeg) :: st) S iv Q) : am_R E d mX4_hungry k n 18 ls (.int i :: .ref a :: st) S iv Q := am_iaload dX4_hungry_18 ha hi h
theorem sX4_hungry_19 {a0 a1 a2 : Value} (h : am_R E d mX4_hungry k n 20 [a0, a1, a2] (.int (-1) :: st) S iv Q) : am_R E d mX4_hungry k n 19 [a0, a1, a2] st S iv Q := am_iconst dX4_hungry_19 (by decide) h
theorem sX4_hungry_20 {ls : List Value} {x y : Int32} (kt : x = y → am_R E d mX4_hungry k n 29 ls st S iv Q) (kf : ¬ x = y → am_R E d mX4_hungry k n 23 ls st S iv Q) : am_R E d mX4_hungry k n 20 ls (.int y :: .int x :: st) S iv Q := am_icmp_eq dX4_hungry_20 (by decide) kt kf
theorem sX4_hungry_23 {a0 a1 a2 : Value} (h : am_R E d mX4_hungry k n 24 [a0, a1, a2] (.int 1 :: st) S iv Q) : am_R E d mX4_hungry k n 23 [a0, a1, a2] st S iv Q := am_iconst dX4_hungry_23 (by decide) h
theorem sX4_hungry_24 {a0 a1 : Value} {x : Int32} (h : am_R E d mX4_hungry k n 25 [a0, a1, .int x] (.int x :: st) S iv Q) : am_R E d mX4_hungry k n 24 [a0, a1, .int x] st S iv Q := am_iload_n dX4_hungry_24 rfl rfl h
theorem sX4_hungry_25 {ls : List Value} {x y : Int32} (h : am_R E d mX4_hungry k n 26 ls (.int (x <<< (y &&& 31)) :: st) S iv Q) : am_R E d mX4_hungry k n 25 ls (.int y :: .int x :: st) S iv Q := am_ishl dX4_hungry_25 h
theorem sX4_hungry_26 {ls : List Value} (h : am_R E d mX4_hungry k n 30 ls st S iv Q) : am_R E d mX4_hungry k n 26 ls st S iv Q := am_goto dX4_hungry_26 (by decide) h
theorem sX4_hungry_29 {a0 a1 a2 : Value} (h : am_R E d mX4_hungry k n 30 [a0, a1, a2] (.int 0 :: st) S iv Q) : am_R E d mX4_hungry k n 29 [a0, a1, a2] st S iv Q := am_iconst dX4_hungry_29 (by decide) h
theorem sX4_hungry_30 {ls : List Value} {x y : Int32} (h : am_R E d mX4_hungry k n 31 ls (.int (x ||| y) :: st) S iv Q) : am_R E d mX4_hungry k n 30 ls (.int y :: .int x :: st) S iv Q := am_ior dX4_hungry_30 h
theorem sX4_hungry_31 {a0 a1 a2 : Value} {x : Int32} (h : am_R E d mX4_hungry k n 32 [a0, .int x, a2] st S iv Q) : am_R E d mX4_hungry k n 31 [a0, a1, a2] (.int x :: st) S iv Q := am_istore_n dX4_hungry_31 rfl (by decide) h
theorem sX4_hungry_32 {a0 a1 : Value} {x : Int32} (h : am_R E d mX4_hungry k n 35 [a0, a1, .int (x + 1)] st S iv Q) : am_R E d mX4_hungry k n 32 [a0, a1, .int x] st S iv Q := am_iinc dX4_hungry_32 rfl rfl (by decide) h
theorem sX4_hungry_35 {ls : List Value} (h : am_R E d mX4_hungry k n 4 ls st S iv Q) : am_R E d mX4_hungry k n 35 ls st S iv Q := am_goto dX4_hungry_35 (by decide) h
theorem sX4_hungry_38 {a0 a2 : Value} {x : Int32} (h : am_R E d mX4_hungry k n 39 [a0, .int x, a2] (.int x :: st) S iv Q) : am_R E d mX4_hungry k n 38 [a0, .int x, a2] st S iv Q := am_iload_n dX4_hungry_38 rfl rfl h
theorem sX4_hungry_39 {ls : List Value} {x : Int32} (h : Q (.inl (some (.int x))) S iv) : am_R E d mX4_hungry k n 39 ls [.int x] S iv Q := am_ireturn dX4_hungry_39 rfl h
theorem dX4_withBoth_0 : decode cX4_withBoth 0 = .ok (.iconst 0, 1) := by decide +kernel
theorem dX4_withBoth_1 : decode cX4_withBoth 1 = .ok (.istore_n 2, 1) := by decide +kernel
theorem dX4_withBoth_2 : decode cX4_withBoth 2 = .ok (.iconst 0, 1) := by decide +kernel
theorem dX4_withBoth_3 : decode cX4_withBoth 3 = .ok (.istore_n 3, 1) := by decide +kernel
theorem dX4_withBoth_4 : decode cX4_withBoth 4 = .ok (.iload_n 3, 1) := by decide +kernel
theorem dX4_withBoth_5 : decode cX4_withBoth 5 = .ok (.aload_n 0, 1) := by decide +kernel
theorem dX4_withBoth_6 : decode cX4_withBoth 6 = .ok (.getfield 21, 3) := by decide +kernel
theorem dX4_withBoth_9 : decode cX4_withBoth 9 = .ok (.if_icmp .ge 47, 3) := by decide +kernel
theorem dX4_withBoth_12 : decode cX4_withBoth 12 = .ok (.aload_n 0, 1) := by decide +kernel
theorem dX4_withBoth_13 : decode cX4_withBoth 13 = .ok (.getfield 15, 3) := by decide +kernel
theorem dX4_withBoth_16 : decode cX4_withBoth 16 = .ok (.iload_n 3, 1) := by decide +kernel
theorem dX4_withBoth_17 : decode cX4_withBoth 17 = .ok (.iaload, 1) := by decide +kernel
theorem dX4_withBoth_18 : decode cX4_withBoth 18 = .ok (.iconst (-1), 1) := by decide +kernel
theorem dX4_withBoth_19 : decode cX4_withBoth 19 = .ok (.if_icmp .eq 31, 3) := by decide +kernel
theorem dX4_withBoth_22 : decode cX4_withBoth 22 = .ok (.iload_n 1, 1) := by decide +kernel
theorem dX4_withBoth_23 : decode cX4_withBoth 23 = .ok (.aload_n 0, 1) := by decide +kernel
theorem dX4_withBoth_24 : decode cX4_withBoth 24 = .ok (.getfield 9, 3) := by decide +kernel
theorem dX4_withBoth_27 : decode cX4_withBoth 27 = .ok (.iload_n 3, 1) := by decide +kernel
theorem dX4_withBoth_28 : decode cX4_withBoth 28 = .ok (.iaload, 1) := by decide +kernel
theorem dX4_withBoth_29 : decode cX4_withBoth 29 = .ok (.ishr, 1) := by decide +kernel
theorem dX4_withBoth_30 : decode cX4_withBoth 30 = .ok (.iload_n 1, 1) := by decide +kernel
theorem dX4_withBoth_31 : decode cX4_withBoth 31 = .ok (.aload_n 0, 1) := by decide +kernel
theorem dX4_withBoth_32 : decode cX4_withBoth 32 = .ok (.getfield 15, 3) := by decide +kernel
theorem dX4_withBoth_35 : decode cX4_withBoth 35 = .ok (.iload_n 3, 1) := by decide +kernel
theorem dX4_withBoth_36 : decode cX4_withBoth 36 = .ok (.iaload, 1) := by decide +kernel
theorem dX4_withBoth_37 : decode cX4_withBoth 37 = .ok (.ishr, 1) := by decide +kernel
theorem dX4_withBoth_38 : decode cX4_withBoth 38 = .ok (.iand, 1) := by decide +kernel
theorem dX4_withBoth_39 : decode cX4_withBoth 39 = .ok (.iconst 1, 1) := by decide +kernel
theorem dX4_withBoth_40 : decode cX4_withBoth 40 = .ok (.iand, 1) := by decide +kernel
theorem dX4_withBoth_41 : decode cX4_withBoth 41 = .ok (.ifCond .eq 9, 3) := by decide +kernel
theorem dX4_withBoth_44 : decode cX4_withBoth 44 = .ok (.iload_n 2, 1) := by decide +kernel
theorem dX4_withBoth_45 : decode cX4_withBoth 45 = .ok (.iconst 1, 1) := by decide +kernel
theorem dX4_withBoth_46 : decode cX4_withBoth 46 = .ok (.iload_n 3, 1) := by decide +kernel
theorem dX4_withBoth_47 : decode cX4_withBoth 47 = .ok (.ishl, 1) := by decide +kernel
theorem dX4_withBoth_48 : decode cX4_withBoth 48 = .ok (.ior, 1) := by decide +kernel
theorem dX4_withBoth_49 : decode cX4_withBoth 49 = .ok (.istore_n 2, 1) := by decide +kernel
theorem dX4_withBoth_50 : decode cX4_withBoth 50 = .ok (.iinc 3 1, 3) := by decide +kernel
theorem dX4_withBoth_53 : decode cX4_withBoth 53 = .ok (.goto (-49), 3) := by decide +kernel
theorem dX4_withBoth_56 : decode cX4_withBoth 56 = .ok (.iload_n 2, 1) := by decide +kernel
theorem dX4_withBoth_57 : decode cX4_withBoth 57 = .ok (.ireturn, 1) := by decide +kernel
theorem sX4_withBoth_0 {a0 a1 a2 a3 : Value} (h : am_R E d mX4_withBoth k n 1 [a0, a1, a2, a3] (.int 0 :: st) S iv Q) : am_R E d mX4_withBoth k n 0 [a0, a1, a2, a3] st S iv Q := am_iconst dX4_withBoth_0 (by decide) h
theorem sX4_withBoth_1 {a0 a1 a2 a3 : Value} {x : Int32} (h : am_R E d mX4_withBoth k n 2 [a0, a1, .int x, a3] st S iv Q) : am_R E d mX4_withBoth k n 1 [a0, a1, a2, a3] (.int x :: st) S iv Q := am_istore_n dX4_withBoth_1 rfl (by decide) h
theorem sX4_withBoth_2 {a0 a1 a2 a3 : Value} (h : am_R E d mX4_withBoth k n 3 [a0, a1, a2, a3] (.int 0 :: st) S iv Q) : am_R E d mX4_withBoth k n 2 [a0, a1, a2, a3] st S iv Q := am_iconst dX4_withBoth_2 (by decide) h
theorem sX4_withBoth_3 {a0 a1 a2 a3 : Value} {x : Int32} (h : am_R E d mX4_withBoth k n 4 [a0, a1, a2, .int x] st S iv Q) : am_R E d mX4_withBoth k n 3 [a0, a1, a2, a3] (.int x :: st) S iv Q := am_istore_n dX4_withBoth_3 rfl (by decide) h
theorem sX4_withBoth_4 {a0 a1 a2 : Value} {x : Int32} (h : am_R E d mX4_withBoth k n 5 [a0, a1, a2, .int x] (.int x :: st) S iv Q) : am_R E d mX4_withBoth k n 4 [a0, a1, a2, .int x] st S iv Q := am_iload_n dX4_withBoth_4 rfl rfl h
theorem sX4_withBoth_5 {a0 a1 a2 a3 : Value} (hv : am_rf a0 = true) (h : am_R E d mX4_withBoth k n 6 [a0, a1, a2, a3] (a0 :: st) S iv Q) : am_R E d mX4_withBoth k n 5 [a0, a1, a2, a3] st S iv Q := am_aload_n dX4_withBoth_5 rfl rfl hv h
theorem sX4_withBoth_6 {ls : List Value} {a : Nat} (ha : S.1 a = some (.inl 4)) (h : am_R E d mX4_withBoth k n 9 ls (.int (iv a 0) :: st) S iv Q) : am_R E d mX4_withBoth k n 6 ls (.ref a :: st) S iv Q := am_getI (ci := 4) dX4_withBoth_6 rfl rfl (by decide) wq_102 uq_4 rfl ha h
theorem sX4_withBoth_9 {ls : List Value} {x y : Int32} (kt : y ≤ x → am_R E d mX4_withBoth k n 56 ls st S iv Q) (kf : ¬ y ≤ x → am_R E d mX4_withBoth k n 12 ls st S iv Q) : am_R E d mX4_withBoth k n 9 ls (.int y :: .int x :: st) S iv Q := am_icmp_ge dX4_withBoth_9 (by decide) kt kf
theorem sX4_withBoth_12 {a0 a1 a2 a3 : Value} (hv : am_rf a0 = true) (h : am_R E d mX4_withBoth k n 13 [a0, a1, a2, a3] (a0 :: st) S iv Q) : am_R E d mX4_withBoth k n 12 [a0, a1, a2, a3] st S iv Q := am_aload_n dX4_withBoth_12 rfl rfl hv h
theorem sX4_withBoth_13 {ls : List Value} {a b : Nat} (ha : S.1 a = some (.inl 4)) (hb : S.2.1 a 2 = some b) (h : am_R E d mX4_withBoth k n 16 ls (.ref b :: st) S iv Q) : am_R E d mX4_withBoth k n 13 ls (.ref a :: st) S iv Q := am_getR (ci := 4) dX4_withBoth_13 rfl rfl (by decide) wq_100 uq_4 rfl ha hb h
theorem sX4_withBoth_16 {a0 a1 a2 : Value} {x : Int32} (h : am_R E d mX4_withBoth k n 17 [a0, a1, a2, .int x] (.int x :: st) S iv Q) : am_R E d mX4_withBoth k n 16 [a0, a1, a2, .int x] st S iv Q := am_iload_n dX4_withBoth_16 rfl rfl h
theorem sX4_withBoth_17 {ls : List Value} {a m : Nat} {i : Int32} (ha : S.1 a = some (.inr (.int, m))) (hi : vp_in i m) (h : am_R E d mX4_withBoth k n 18 ls (.int (iv a i.toNatClampNeg) :: st) S iv Q) : am_R E d mX4_withBoth k n 17 ls (.int i :: .ref a :: st) S iv Q := am_iaload dX4_withBoth_17 ha hi h
theorem sX4_withBoth_18 {a0 a1 a2 a3 : Value} (h : am_R E d mX4_withBoth k n 19 [a0, a1, a2, a3] (.int (-1) :: st) S iv Q) : am_R E d mX4_withBoth k n 18 [a0, a1, a2, a3] st S iv Q := am_iconst dX4_withBoth_18 (by decide) h
theorem sX4_withBoth_19 {ls : List Value} {x y : Int32} (kt : x = y → am_R E d mX4_withBoth k n 50 ls st S iv Q) (kf : ¬ x = y → am_R E d mX4_withBoth k n 22 ls st S iv Q) : am_R E d mX4_withBoth k n 19 ls (.int y :: .int x :: st) S iv Q := am_icmp_eq dX4_withBoth_19 (by decide) kt kf
theorem sX4_withBoth_22 {a0 a2 a3 : Value} {x : Int32} (h : am_R E d mX4_withBoth k n 23 [a0, .int x, a2, a3] (.int x :: st) S iv Q) : am_R E d mX4_withBoth k n 22 [a0, .int x, a2, a3] st S iv Q := am_iload_n dX4_withBoth_22 rfl rfl h
theorem sX4_withBoth_23 {a0 a1 a2 a3 : Value} (hv : am_rf a0 = true) (h : am_R E d mX4_withBoth k n 24 [a0, a1, a2, a3] (a0 :: st) S iv Q) : am_R E d mX4_withBoth k n 23 [a0, a1, a2, a3] st S iv Q := am_aload_n dX4_withBoth_23 rfl rfl hv h
theorem sX4_withBoth_24 {ls : List Value} {a b : Nat} (ha : S.1 a = some (.inl 4)) (hb : S.2.1 a 1 = some b) (h : am_R E d mX4_withBoth k n 27 ls (.ref b :: st) S iv Q) : am_R E d mX4_withBoth k n 24 ls (.ref a :: st) S iv Q := am_getR (ci := 4) dX4_withBoth_24 rfl rfl (by decide) wq_99 uq_4 rfl ha hb h
theorem sX4_withBoth_27 {a0 a1 a2 : Value} {x : Int32} (h : am_R E d mX4_withBoth k n 28 [a0, a1, a2, .int x] (.int x :: st) S iv Q) : am_R E d mX4_withBoth k n 27 [a0, a1, a2, .int x] st S iv Q := am_iload_n dX4_withBoth_27 rfl rfl h
theorem sX4_withBoth_28 {ls : List Value} {a m : Nat} {i : Int32} (ha : S.1 a = some (.inr (.int, m))) (hi : vp_in i m) (h : am_R E d mX4_withBoth k n 29 ls (.int (iv a i.toNatClampNeg) :: st) S iv Q) : am_R E d mX4_withBoth k n 28 ls (.int i :: .ref a :: st) S iv Q := am_iaload dX4_withBoth_28 ha hi h
theorem sX4_withBoth_29 {ls : List Value} {x y : Int32} (h : am_R E d mX4_withBoth k n 30 ls (.int (x >>> (y &&& 31)) :: st) S iv Q) : am_R E d mX4_withBoth k n 29 ls (.int y :: .int x :: st) S iv Q := am_ishr dX4_withBoth_29 h
theorem sX4_withBoth_30 {a0 a2 a3 : Value} {x : Int32} (h : am_R E d mX4_withBoth k n 31 [a0, .int x, a2, a3] (.int x :: st) S iv Q) : am_R E d mX4_withBoth k n 30 [a0, .int x, a2, a3] st S iv Q := am_iload_n dX4_withBoth_30 rfl rfl h
theorem sX4_withBoth_31 {a0 a1 a2 a3 : Value} (hv : am_rf a0 = true) (h : am_R E d mX4_withBoth k n 32 [a0, a1, a2, a3] (a0 :: st) S iv Q) : am_R E d mX4_withBoth k n 31 [a0, a1, a2, a3] st S iv Q := am_aload_n dX4_withBoth_31 rfl rfl hv h
theorem sX4_withBoth_32 {ls : List Value} {a b : Nat} (ha : S.1 a = some (.inl 4)) (hb : S.2.1 a 2 = some b) (h : am_R E d mX4_withBoth k n 35 ls (.ref b :: st) S iv Q) : am_R E d mX4_withBoth k n 32 ls (.ref a :: st) S iv Q := am_getR (ci := 4) dX4_withBoth_32 rfl rfl (by decide) wq_100 uq_4 rfl ha hb h
theorem sX4_withBoth_35 {a0 a1 a2 : Value} {x : Int32} (h : am_R E d mX4_withBoth k n 36 [a0, a1, a2, .int x] (.int x :: st) S iv Q) : am_R E d mX4_withBoth k n 35 [a0, a1, a2, .int x] st S iv Q := am_iload_n dX4_withBoth_35 rfl rfl h
theorem sX4_withBoth_36 {ls : List Value} {a m : Nat} {i : Int32} (ha : S.1 a = some (.inr (.int, m))) (hi : vp_in i m) (h : am_R E d mX4_withBoth k n 37 ls (.int (iv a i.toNatClampNeg) :: st) S iv Q) : am_R E d mX4_withBoth k n 36 ls (.int i :: .ref a :: st) S iv Q := am_iaload dX4_withBoth_36 ha hi h
theorem sX4_withBoth_37 {ls : List Value} {x y : Int32} (h : am_R E d mX4_withBoth k n 38 ls (.int (x >>> (y &&& 31)) :: st) S iv Q) : am_R E d mX4_withBoth k n 37 ls (.int y :: .int x :: st) S iv Q := am_ishr dX4_withBoth_37 h
theorem sX4_withBoth_38 {ls : List Value} {x y : Int32} (h : am_R E d mX4_withBoth k n 39 ls (.int (x &&& y) :: st) S iv Q) : am_R E d mX4_withBoth k n 38 ls (.int y :: .int x :: st) S iv Q := am_iand dX4_withBoth_38 h
theorem sX4_withBoth_39 {a0 a1 a2 a3 : Value} (h : am_R E d mX4_withBoth k n 40 [a0, a1, a2, a3] (.int 1 :: st) S iv Q) : am_R E d mX4_withBoth k n 39 [a0, a1, a2, a3] st S iv Q := am_iconst dX4_withBoth_39 (by decide) h
theorem sX4_withBoth_40 {ls : List Value} {x y : Int32} (h : am_R E d mX4_withBoth k n 41 ls (.int (x &&& y) :: st) S iv Q) : am_R E d mX4_withBoth k n 40 ls (.int y :: .int x :: st) S iv Q := am_iand dX4_withBoth_40 h
theorem sX4_withBoth_41 {ls : List Value} {x : Int32} (kt : x = 0 → am_R E d mX4_withBoth k n 50 ls st S iv Q) (kf : ¬ x = 0 → am_R E d mX4_withBoth k n 44 ls st S iv Q) : am_R E d mX4_withBoth k n 41 ls (.int x :: st) S iv Q := am_if_eq dX4_withBoth_41 (by decide) kt kf
theorem sX4_withBoth_44 {a0 a1 a3 : Value} {x : Int32} (h : am_R E d mX4_withBoth k n 45 [a0, a1, .int x, a3] (.int x :: st) S iv Q) : am_R E d mX4_withBoth k n 44 [a0, a1, .int x, a3] st S iv Q := am_iload_n dX4_withBoth_44 rfl rfl h
theorem sX4_withBoth_45 {a0 a1 a2 a3 : Value} (h : am_R E d mX4_withBoth k n 46 [a0, a1, a2, a3] (.int 1 :: st) S iv Q) : am_R E d mX4_withBoth k n 45 [a0, a1, a2, a3] st S iv Q := am_iconst dX4_withBoth_45 (by decide) h
theorem sX4_withBoth_46 {a0 a1 a2 : Value} {x : Int32} (h : am_R E d mX4_withBoth k n 47 [a0, a1, a2, .int x] (.int x :: st) S iv Q) : am_R E d mX4_withBoth k n 46 [a0, a1, a2, .int x] st S iv Q := am_iload_n dX4_withBoth_46 rfl rfl h
theorem sX4_withBoth_47 {ls : List Value} {x y : Int32} (h : am_R E d mX4_withBoth k n 48 ls (.int (x <<< (y &&& 31)) :: st) S iv Q) : am_R E d mX4_withBoth k n 47 ls (.int y :: .int x :: st) S iv Q := am_ishl dX4_withBoth_47 h
theorem sX4_withBoth_48 {ls : List Value} {x y : Int32} (h : am_R E d mX4_withBoth k n 49 ls (.int (x ||| y) :: st) S iv Q) : am_R E d mX4_withBoth k n 48 ls (.int y :: .int x :: st) S iv Q := am_ior dX4_withBoth_48 h
theorem sX4_withBoth_49 {a0 a1 a2 a3 : Value} {x : Int32} (h : am_R E d mX4_withBoth k n 50 [a0, a1, .int x, a3] st S iv Q) : am_R E d mX4_withBoth k n 49 [a0, a1, a2, a3] (.int x :: st) S iv Q := am_istore_n dX4_withBoth_49 rfl (by decide) h
theorem sX4_withBoth_50 {a0 a1 a2 : Value} {x : Int32} (h : am_R E d mX4_withBoth k n 53 [a0, a1, a2, .int (x + 1)] st S iv Q) : am_R E d mX4_withBoth k n 50 [a0, a1, a2, .int x] st S iv Q := am_iinc dX4_withBoth_50 rfl rfl (by decide) h
theorem sX4_withBoth_53 {ls : List Value} (h : am_R E d mX4_withBoth k n 4 ls st S iv Q) : am_R E d mX4_withBoth k n 53 ls st S iv Q := am_goto dX4_withBoth_53 (by decide) h
theorem sX4_withBoth_56 {a0 a1 a3 : Value} {x : Int32} (h : am_R E d mX4_withBoth k n 57 [a0, a1, .int x, a3] (.int x :: st) S iv Q) : am_R E d mX4_withBoth k n 56 [a0, a1, .int x, a3] st S iv Q := am_iload_n dX4_withBoth_56 rfl rfl h
theorem sX4_withBoth_57 {ls : List Value} {x : Int32} (h : Q (.inl (some (.int x))) S iv) : am_R E d mX4_withBoth k n 57 ls [.int x] S iv Q := am_ireturn dX4_withBoth_57 rfl h
theorem dX4_weightOf_0 : decode cX4_weightOf 0 = .ok (.iconst 0, 1) := by decide +kernel
theorem dX4_weightOf_1 : decode cX4_weightOf 1 = .ok (.istore_n 2, 1) := by decide +kernel
theorem dX4_weightOf_2 : decode cX4_weightOf 2 = .ok (.iconst 0, 1) := by decide +kernel
theorem dX4_weightOf_3 : decode cX4_weightOf 3 = .ok (.istore_n 3, 1) := by decide +kernel
theorem dX4_weightOf_4 : decode cX4_weightOf 4 = .ok (.iload_n 3, 1) := by decide +kernel
theorem dX4_weightOf_5 : decode cX4_weightOf 5 = .ok (.aload_n 0, 1) := by decide +kernel
theorem dX4_weightOf_6 : decode cX4_weightOf 6 = .ok (.getfield 21, 3) := by decide +kernel
theorem dX4_weightOf_9 : decode cX4_weightOf 9 = .ok (.if_icmp .ge 30, 3) := by decide +kernel
theorem dX4_weightOf_12 : decode cX4_weightOf 12 = .ok (.iload_n 2, 1) := by decide +kernel
theorem dX4_weightOf_13 : decode cX4_weightOf 13 = .ok (.iload_n 1, 1) := by decide +kernel
theorem dX4_weightOf_14 : decode cX4_weightOf 14 = .ok (.iload_n 3, 1) := by decide +kernel
theorem dX4_weightOf_15 : decode cX4_weightOf 15 = .ok (.ishr, 1) := by decide +kernel
theorem dX4_weightOf_16 : decode cX4_weightOf 16 = .ok (.iconst 1, 1) := by decide +kernel
theorem dX4_weightOf_17 : decode cX4_weightOf 17 = .ok (.iand, 1) := by decide +kernel
theorem dX4_weightOf_18 : decode cX4_weightOf 18 = .ok (.ifCond .eq 12, 3) := by decide +kernel
theorem dX4_weightOf_21 : decode cX4_weightOf 21 = .ok (.aload_n 0, 1) := by decide +kernel
theorem dX4_weightOf_22 : decode cX4_weightOf 22 = .ok (.getfield 18, 3) := by decide +kernel
theorem dX4_weightOf_25 : decode cX4_weightOf 25 = .ok (.iload_n 3, 1) := by decide +kernel
theorem dX4_weightOf_26 : decode cX4_weightOf 26 = .ok (.iaload, 1) := by decide +kernel
theorem dX4_weightOf_27 : decode cX4_weightOf 27 = .ok (.goto 4, 3) := by decide +kernel
theorem dX4_weightOf_30 : decode cX4_weightOf 30 = .ok (.iconst 0, 1) := by decide +kernel
theorem dX4_weightOf_31 : decode cX4_weightOf 31 = .ok (.iadd, 1) := by decide +kernel
theorem dX4_weightOf_32 : decode cX4_weightOf 32 = .ok (.istore_n 2, 1) := by decide +kernel
theorem dX4_weightOf_33 : decode cX4_weightOf 33 = .ok (.iinc 3 1, 3) := by decide +kernel
theorem dX4_weightOf_36 : decode cX4_weightOf 36 = .ok (.goto (-32), 3) := by decide +kernel
theorem dX4_weightOf_39 : decode cX4_weightOf 39 = .ok (.iload_n 2, 1) := by decide +kernel
theorem dX4_weightOf_40 : decode cX4_weightOf 40 = .ok (.ireturn, 1) := by decide +kernel
theorem sX4_weightOf_0 {a0 a1 a2 a3 : Value} (h : am_R E d mX4_weightOf k n 1 [a0, a1, a2, a3] (.int 0 :: st) S iv Q) : am_R E d mX4_weightOf k n 0 [a0, a1, a2, a3] st S iv Q := am_iconst dX4_weightOf_0 (by decide) h
theorem sX4_weightOf_1 {a0 a1 a2 a3 : Value} {x : Int32} (h : am_R E d mX4_weightOf k n 2 [a0, a1, .int x, a3] st S iv Q) : am_R E d mX4_weightOf k n 1 [a0, a1, a2, a3] (.int x :: st) S iv Q := am_istore_n dX4_weightOf_1 rfl (by decide) h
theorem sX4_weightOf_2 {a0 a1 a2 a3 : Value} (h : am_R E d mX4_weightOf k n 3 [a0, a1, a2, a3] (.int 0 :: st) S iv Q) : am_R E d mX4_weightOf k n 2 [a0, a1, a2, a3] st S iv Q := am_iconst dX4_weightOf_2 (by decide) h
theorem sX4_weightOf_3 {a0 a1 a2 a3 : Value} {x : Int32} (h : am_R E d mX4_weightOf k n 4 [a0, a1, a2, .int x] st S iv Q) : am_R E d mX4_weightOf k n 3 [a0, a1, a2, a3] (.int x :: st) S iv Q := am_istore_n dX4_weightOf_3 rfl (by decide) h
theorem sX4_weightOf_4 {a0 a1 a2 : Value} {x : Int32} (h : am_R E d mX4_weightOf k n 5 [a0, a1, a2, .int x] (.int x :: st) S iv Q) : am_R E d mX4_weightOf k n 4 [a0, a1, a2, .int x] st S iv Q := am_iload_n dX4_weightOf_4 rfl rfl h
theorem sX4_weightOf_5 {a0 a1 a2 a3 : Value} (hv : am_rf a0 = true) (h : am_R E d mX4_weightOf k n 6 [a0, a1, a2, a3] (a0 :: st) S iv Q) : am_R E d mX4_weightOf k n 5 [a0, a1, a2, a3] st S iv Q := am_aload_n dX4_weightOf_5 rfl rfl hv h
theorem sX4_weightOf_6 {ls : List Value} {a : Nat} (ha : S.1 a = some (.inl 4)) (h : am_R E d mX4_weightOf k n 9 ls (.int (iv a 0) :: st) S iv Q) : am_R E d mX4_weightOf k n 6 ls (.ref a :: st) S iv Q := am_getI (ci := 4) dX4_weightOf_6 rfl rfl (by decide) wq_102 uq_4 rfl ha h
theorem sX4_weightOf_9 {ls : List Value} {x y : Int32} (kt : y ≤ x → am_R E d mX4_weightOf k n 39 ls st S iv Q) (kf : ¬ y ≤ x → am_R E d mX4_weightOf k n 12 ls st S iv Q) : am_R E d mX4_weightOf k n 9 ls (.int y :: .int x :: st) S iv Q := am_icmp_ge dX4_weightOf_9 (by decide) kt kf
theorem sX4_weightOf_12 {a0 a1 a3 : Value} {x : Int32} (h : am_R E d mX4_weightOf k n 13 [a0, a1, .int x, a3] (.int x :: st) S iv Q) : am_R E d mX4_weightOf k n 12 [a0, a1, .int x, a3] st S iv Q := am_iload_n dX4_weightOf_12 rfl rfl h
theorem sX4_weightOf_13 {a0 a2 a3 : Value} {x : Int32} (h : am_R E d mX4_weightOf k n 14 [a0, .int x, a2, a3] (.int x :: st) S iv Q) : am_R E d mX4_weightOf k n 13 [a0, .int x, a2, a3] st S iv Q := am_iload_n dX4_weightOf_13 rfl rfl h
theorem sX4_weightOf_14 {a0 a1 a2 : Value} {x : Int32} (h : am_R E d mX4_weightOf k n 15 [a0, a1, a2, .int x] (.int x :: st) S iv Q) : am_R E d mX4_weightOf k n 14 [a0, a1, a2, .int x] st S iv Q := am_iload_n dX4_weightOf_14 rfl rfl h
theorem sX4_weightOf_15 {ls : List Value} {x y : Int32} (h : am_R E d mX4_weightOf k n 16 ls (.int (x >>> (y &&& 31)) :: st) S iv Q) : am_R E d mX4_weightOf k n 15 ls (.int y :: .int x :: st) S iv Q := am_ishr dX4_weightOf_15 h
theorem sX4_weightOf_16 {a0 a1 a2 a3 : Value} (h : am_R E d mX4_weightOf k n 17 [a0, a1, a2, a3] (.int 1 :: st) S iv Q) : am_R E d mX4_weightOf k n 16 [a0, a1, a2, a3] st S iv Q := am_iconst dX4_weightOf_16 (by decide) h
theorem sX4_weightOf_17 {ls : List Value} {x y : Int32} (h : am_R E d mX4_weightOf k n 18 ls (.int (x &&& y) :: st) S iv Q) : am_R E d mX4_weightOf k n 17 ls (.int y :: .int x :: st) S iv Q := am_iand dX4_weightOf_17 h
theorem sX4_weightOf_18 {ls : List Value} {x : Int32} (kt : x = 0 → am_R E d mX4_weightOf k n 30 ls st S iv Q) (kf : ¬ x = 0 → am_R E d mX4_weightOf k n 21 ls st S iv Q) : am_R E d mX4_weightOf k n 18 ls (.int x :: st) S iv Q := am_if_eq dX4_weightOf_18 (by decide) kt kf
theorem sX4_weightOf_21 {a0 a1 a2 a3 : Value} (hv : am_rf a0 = true) (h : am_R E d mX4_weightOf k n 22 [a0, a1, a2, a3] (a0 :: st) S iv Q) : am_R E d mX4_weightOf k n 21 [a0, a1, a2, a3] st S iv Q := am_aload_n dX4_weightOf_21 rfl rfl hv h
theorem sX4_weightOf_22 {ls : List Value} {a b : Nat} (ha : S.1 a = some (.inl 4)) (hb : S.2.1 a 3 = some b) (h : am_R E d mX4_weightOf k n 25 ls (.ref b :: st) S iv Q) : am_R E d mX4_weightOf k n 22 ls (.ref a :: st) S iv Q := am_getR (ci := 4) dX4_weightOf_22 rfl rfl (by decide) wq_101 uq_4 rfl ha hb h
theorem sX4_weightOf_25 {a0 a1 a2 : Value} {x : Int32} (h : am_R E d mX4_weightOf k n 26 [a0, a1, a2, .int x] (.int x :: st) S iv Q) : am_R E d mX4_weightOf k n 25 [a0, a1, a2, .int x] st S iv Q := am_iload_n dX4_weightOf_25 rfl rfl h
theorem sX4_weightOf_26 {ls : List Value} {a m : Nat} {i : Int32} (ha : S.1 a = some (.inr (.int, m))) (hi : vp_in i m) (h : am_R E d mX4_weightOf k n 27 ls (.int (iv a i.toNatClampNeg) :: st) S iv Q) : am_R E d mX4_weightOf k n 26 ls (.int i :: .ref a :: st) S iv Q := am_iaload dX4_weightOf_26 ha hi h
theorem sX4_weightOf_27 {ls : List Value} (h : am_R E d mX4_weightOf k n 31 ls st S iv Q) : am_R E d mX4_weightOf k n 27 ls st S iv Q := am_goto dX4_weightOf_27 (by decide) h
theorem sX4_weightOf_30 {a0 a1 a2 a3 : Value} (h : am_R E d mX4_weightOf k n 31 [a0, a1, a2, a3] (.int 0 :: st) S iv Q) : am_R E d mX4_weightOf k n 30 [a0, a1, a2, a3] st S iv Q := am_iconst dX4_weightOf_30 (by decide) h
theorem sX4_weightOf_31 {ls : List Value} {x y : Int32} (h : am_R E d mX4_weightOf k n 32 ls (.int (x + y) :: st) S iv Q) : am_R E d mX4_weightOf k n 31 ls (.int y :: .int x :: st) S iv Q := am_iadd dX4_weightOf_31 h
theorem sX4_weightOf_32 {a0 a1 a2 a3 : Value} {x : Int32} (h : am_R E d mX4_weightOf k n 33 [a0, a1, .int x, a3] st S iv Q) : am_R E d mX4_weightOf k n 32 [a0, a1, a2, a3] (.int x :: st) S iv Q := am_istore_n dX4_weightOf_32 rfl (by decide) h
theorem sX4_weightOf_33 {a0 a1 a2 : Value} {x : Int32} (h : am_R E d mX4_weightOf k n 36 [a0, a1, a2, .int (x + 1)] st S iv Q) : am_R E d mX4_weightOf k n 33 [a0, a1, a2, .int x] st S iv Q := am_iinc dX4_weightOf_33 rfl rfl (by decide) h
theorem sX4_weightOf_36 {ls : List Value} (h : am_R E d mX4_weightOf k n 4 ls st S iv Q) : am_R E d mX4_weightOf k n 36 ls st S iv Q := am_goto dX4_weightOf_36 (by decide) h
theorem sX4_weightOf_39 {a0 a1 a3 : Value} {x : Int32} (h : am_R E d mX4_weightOf k n 40 [a0, a1, .int x, a3] (.int x :: st) S iv Q) : am_R E d mX4_weightOf k n 39 [a0, a1, .int x, a3] st S iv Q := am_iload_n dX4_weightOf_39 rfl rfl h
theorem sX4_weightOf_40 {ls : List Value} {x : Int32} (h : Q (.inl (some (.int x))) S iv) : am_R E d mX4_weightOf k n 40 ls [.int x] S iv Q := am_ireturn dX4_weightOf_40 rfl h
end R13_X4
