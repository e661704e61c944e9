section R13_X5
variable {E : am_E} {d k n : Nat} {st : List Value} {S : am_S} {iv : am_I} {Q : am_O → am_S → am_I → Prop}
theorem dX5_init_0 : decode cX5_init 0 = .ok (.aload_n 0, 1) := by decide +kernel
theorem dX5_init_1 : decode cX5_init 1 = .ok (.invokespecial 3, 3) := by decide +kernel
theorem dX5_init_4 : decode cX5_init 4 = .ok (.aload_n 0, 1) := by decide +kernel
theorem dX5_init_5 : decode cX5_init 5 = .ok (.iconst 5, 1) := by decide +kernel
theorem dX5_init_6 : decode cX5_init 6 = .ok (.newarray .int, 2) := by decide +kernel
theorem dX5_init_8 : decode cX5_init 8 = .ok (.putfield 9, 3) := by decide +kernel
theorem dX5_init_11 : decode cX5_init 11 = .ok (.aload_n 0, 1) := by decide +kernel
theorem dX5_init_12 : decode cX5_init 12 = .ok (.sipush 700, 3) := by decide +kernel
theorem dX5_init_15 : decode cX5_init 15 = .ok (.newarray .int, 2) := by decide +kernel
theorem dX5_init_17 : decode cX5_init 17 = .ok (.putfield 15, 3) := by decide +kernel
theorem dX5_init_20 : decode cX5_init 20 = .ok (.aload_n 0, 1) := by decide +kernel
theorem dX5_init_21 : decode cX5_init 21 = .ok (.bipush 64, 2) := by decide +kernel
theorem dX5_init_23 : decode cX5_init 23 = .ok (.newarray .int, 2) := by decide +kernel
theorem dX5_init_25 : decode cX5_init 25 = .ok (.putfield 18, 3) := by decide +kernel
theorem dX5_init_28 : decode cX5_init 28 = .ok (.return_, 1) := by decide +kernel
theorem sX5_init_0 {a0 : Value} (hv : am_rf a0 = true) (h : am_R E d mX5_init k n 1 [a0] (a0 :: st) S iv Q) : am_R E d mX5_init k n 0 [a0] st S iv Q := am_aload_n dX5_init_0 rfl rfl hv h
theorem sX5_init_1 {ls : List Value} {a : Nat} (hst : (st.map fun v => v.category).sum ≤ 8) (h : am_R E (d + 1) mX5_init k n 4 ls st S iv Q) : am_R E (d + 1) mX5_init k n 1 ls (.ref a :: st) S iv Q := am_objInit dX5_init_1 wq_104 wq_63 wq_64 hst (by omega) h
theorem sX5_init_4 {a0 : Value} (hv : am_rf a0 = true) (h : am_R E d mX5_init k n 5 [a0] (a0 :: st) S iv Q) : am_R E d mX5_init k n 4 [a0] st S iv Q := am_aload_n dX5_init_4 rfl rfl hv h
theorem sX5_init_5 {a0 : Value} (h : am_R E d mX5_init k n 6 [a0] (.int 5 :: st) S iv Q) : am_R E d mX5_init k n 5 [a0] st S iv Q := am_iconst dX5_init_5 (by decide) h
theorem sX5_init_6 {ls : List Value} {x : Int32} {m : Nat} (hx : ¬ x < 0) (hm : x.toNatClampNeg = m) (hb : m ≤ 50000000) (h : am_R E d mX5_init k n 8 ls (.ref S.2.2.2 :: st) (am_new S (.inr (.int, m))) (am_0 S iv) Q) : am_R E d mX5_init (k + 1) (n + m) 6 ls (.int x :: st) S iv Q := am_nI dX5_init_6 wq_65 hx hm (by omega) (by omega) (by omega) h
theorem sX5_init_8 {ls : List Value} {a b : Nat} (ha : S.1 a = some (.inl 5)) (h : am_R E d mX5_init k n 11 ls st (am_wr S a 2 b) iv Q) : am_R E d mX5_init k n 8 ls (.ref b :: .ref a :: st) S iv Q := am_putR (ci := 5) dX5_init_8 rfl rfl (by decide) wq_105 uq_5 tyX5_ok nmX5 (Or.inr ⟨rfl, rfl, rfl⟩) rfl ha h
theorem sX5_init_11 {a0 : Value} (hv : am_rf a0 = true) (h : am_R E d mX5_init k n 12 [a0] (a0 :: st) S iv Q) : am_R E d mX5_init k n 11 [a0] st S iv Q := am_aload_n dX5_init_11 rfl rfl hv h
theorem sX5_init_12 {a0 : Value} (h : am_R E d mX5_init k n 15 [a0] (.int 700 :: st) S iv Q) : am_R E d mX5_init k n 12 [a0] st S iv Q := am_sipush dX5_init_12 (by decide) h
theorem sX5_init_15 {ls : List Value} {x : Int32} {m : Nat} (hx : ¬ x < 0) (hm : x.toNatClampNeg = m) (hb : m ≤ 50000000) (h : am_R E d mX5_init k n 17 ls (.ref S.2.2.2 :: st) (am_new S (.inr (.int, m))) (am_0 S iv) Q) : am_R E d mX5_init (k + 1) (n + m) 15 ls (.int x :: st) S iv Q := am_nI dX5_init_15 wq_65 hx hm (by omega) (by omega) (by omega) h
theorem sX5_init_17 {ls : List Value} {a b : Nat} (ha : S.1 a = some (.inl 5)) (h : am_R E d mX5_init k n 20 ls st (am_wr S a 3 b) iv Q) : am_R E d mX5_init k n 17 ls (.ref b :: .ref a :: st) S iv Q := am_putR (ci := 5) dX5_init_17 rfl rfl (by decide) wq_106 uq_5 tyX5_ok nmX5 (Or.inr ⟨rfl, rfl, rfl⟩) rfl ha h
theorem sX5_init_20 {a0 : Value} (hv : am_rf a0 = true) (h : am_R E d mX5_init k n 21 [a0] (a0 :: st) S iv Q) : am_R E d mX5_init k n 20 [a0] st S iv Q := am_aload_n dX5_init_20 rfl rfl hv h
theorem sX5_init_21 {a0 : Value} (h : am_R E d mX5_init k n 23 [a0] (.int 64 :: st) S iv Q) : am_R E d mX5_init k n 21 [a0] st S iv Q := am_bipush dX5_init_21 (by decide) h
theorem sX5_init_23 {ls : List Value} {x : Int32} {m : Nat} (hx : ¬ x < 0) (hm : x.toNatClampNeg = m) (hb : m ≤ 50000000) (h : am_R E d mX5_init k n 25 ls (.ref S.2.2.2 :: st) (am_new S (.inr (.int, m))) (am_0 S iv) Q) : am_R E d mX5_init (k + 1) (n + m) 23 ls (.int x :: st) S iv Q := am_nI dX5_init_23 wq_65 hx hm (by omega) (by omega) (by omega) h
theorem sX5_init_25 {ls : List Value} {a b : Nat} (ha : S.1 a = some (.inl 5)) (h : am_R E d mX5_init k n 28 ls st (am_wr S a 4 b) iv Q) : am_R E d mX5_init k n 25 ls (.ref b :: .ref a :: st) S iv Q := am_putR (ci := 5) dX5_init_25 rfl rfl (by decide) wq_107 uq_5 tyX5_ok nmX5 (Or.inr ⟨rfl, rfl, rfl⟩) rfl ha h
theorem sX5_init_28 {ls : List Value} (h : Q (.inl none) S iv) : am_R E d mX5_init k n 28 ls [] S iv Q := am_return dX5_init_28 rfl h
theorem dX5_codeOfValue_0 : decode cX5_codeOfValue 0 = .ok (.iconst (-1), 1) := by decide +kernel
theorem dX5_codeOfValue_1 : decode cX5_codeOfValue 1 = .ok (.iload_n 0, 1) := by decide +kernel
theorem dX5_codeOfValue_2 : decode cX5_codeOfValue 2 = .ok (.isub, 1) := by decide +kernel
theorem dX5_codeOfValue_3 : decode cX5_codeOfValue 3 = .ok (.ireturn, 1) := by decide +kernel
theorem sX5_codeOfValue_0 {a0 : Value} (h : am_R E d mX5_codeOfValue k n 1 [a0] (.int (-1) :: st) S iv Q) : am_R E d mX5_codeOfValue k n 0 [a0] st S iv Q := am_iconst dX5_codeOfValue_0 (by decide) h
theorem sX5_codeOfValue_1 {x : Int32} (h : am_R E d mX5_codeOfValue k n 2 [.int x] (.int x :: st) S iv Q) : am_R E d mX5_codeOfValue k n 1 [.int x] st S iv Q := am_iload_n dX5_codeOfValue_1 rfl rfl h
theorem sX5_codeOfValue_2 {ls : List Value} {x y : Int32} (h : am_R E d mX5_codeOfValue k n 3 ls (.int (x - y) :: st) S iv Q) : am_R E d mX5_codeOfValue k n 2 ls (.int y :: .int x :: st) S iv Q := am_isub dX5_codeOfValue_2 h
theorem sX5_codeOfValue_3 {ls : List Value} {x : Int32} (h : Q (.inl (some (.int x))) S iv) : am_R E d mX5_codeOfValue k n 3 ls [.int x] S iv Q := am_ireturn dX5_codeOfValue_3 rfl h
theorem dX5_clear_0 : decode cX5_clear 0 = .ok (.aload_n 0, 1) := by decide +kernel
theorem dX5_clear_1 : decode cX5_clear 1 = .ok (.iconst 0, 1) := by decide +kernel
theorem dX5_clear_2 : decode cX5_clear 2 = .ok (.putfield 21, 3) := by decide +kernel
theorem dX5_clear_5 : decode cX5_clear 5 = .ok (.aload_n 0, 1) := by decide +kernel
theorem dX5_clear_6 : decode cX5_clear 6 = .ok (.iconst 0, 1) := by decide +kernel
theorem dX5_clear_7 : decode cX5_clear 7 = .ok (.putfield 25, 3) := by decide +kernel
theorem dX5_clear_10 : decode cX5_clear 10 = .ok (.return_, 1) := by decide +kernel
theorem sX5_clear_0 {a0 : Value} (hv : am_rf a0 = true) (h : am_R E d mX5_clear k n 1 [a0] (a0 :: st) S iv Q) : am_R E d mX5_clear k n 0 [a0] st S iv Q := am_aload_n dX5_clear_0 rfl rfl hv h
theorem sX5_clear_1 {a0 : Value} (h : am_R E d mX5_clear k n 2 [a0] (.int 0 :: st) S iv Q) : am_R E d mX5_clear k n 1 [a0] st S iv Q := am_iconst dX5_clear_1 (by decide) h
theorem sX5_clear_2 {ls : List Value} {a : Nat} {x : Int32} (ha : S.1 a = some (.inl 5)) (h : am_R E d mX5_clear k n 5 ls st S (am_w iv a 0 x) Q) : am_R E d mX5_clear k n 2 ls (.int x :: .ref a :: st) S iv Q := am_putI (ci := 5) dX5_clear_2 rfl rfl (by decide) wq_108 uq_5 tyX5_ok nmX5 (Or.inl rfl) rfl ha h
theorem sX5_clear_5 {a0 : Value} (hv : am_rf a0 = true) (h : am_R E d mX5_clear k n 6 [a0] (a0 :: st) S iv Q) : am_R E d mX5_clear k n 5 [a0] st S iv Q := am_aload_n dX5_clear_5 rfl rfl hv h
theorem sX5_clear_6 {a0 : Value} (h : am_R E d mX5_clear k n 7 [a0] (.int 0 :: st) S iv Q) : am_R E d mX5_clear k n 6 [a0] st S iv Q := am_iconst dX5_clear_6 (by decide) h
theorem sX5_clear_7 {ls : List Value} {a : Nat} {x : Int32} (ha : S.1 a = some (.inl 5)) (h : am_R E d mX5_clear k n 10 ls st S (am_w iv a 1 x) Q) : am_R E d mX5_clear k n 7 ls (.int x :: .ref a :: st) S iv Q := am_putI (ci := 5) dX5_clear_7 rfl rfl (by decide) wq_109 uq_5 tyX5_ok nmX5 (Or.inl rfl) rfl ha h
theorem sX5_clear_10 {ls : List Value} (h : Q (.inl none) S iv) : am_R E d mX5_clear k n 10 ls [] S iv Q := am_return dX5_clear_10 rfl h
theorem dX5_add_0 : decode cX5_add 0 = .ok (.aload_n 0, 1) := by decide +kernel
theorem dX5_add_1 : decode cX5_add 1 = .ok (.getfield 25, 3) := by decide +kernel
theorem dX5_add_4 : decode cX5_add 4 = .ok (.aload_n 0, 1) := by decide +kernel
theorem dX5_add_5 : decode cX5_add 5 = .ok (.getfield 15, 3) := by decide +kernel
theorem dX5_add_8 : decode cX5_add 8 = .ok (.arraylength, 1) := by decide +kernel
theorem dX5_add_9 : decode cX5_add 9 = .ok (.if_icmp .ge 23, 3) := by decide +kernel
theorem dX5_add_12 : decode cX5_add 12 = .ok (.aload_n 0, 1) := by decide +kernel
theorem dX5_add_13 : decode cX5_add 13 = .ok (.getfield 15, 3) := by decide +kernel
theorem dX5_add_16 : decode cX5_add 16 = .ok (.aload_n 0, 1) := by decide +kernel
theorem dX5_add_17 : decode cX5_add 17 = .ok (.getfield 25, 3) := by decide +kernel
theorem dX5_add_20 : decode cX5_add 20 = .ok (.iload_n 1, 1) := by decide +kernel
theorem dX5_add_21 : decode cX5_add 21 = .ok (.iastore, 1) := by decide +kernel
theorem dX5_add_22 : decode cX5_add 22 = .ok (.aload_n 0, 1) := by decide +kernel
theorem dX5_add_23 : decode cX5_add 23 = .ok (.dup, 1) := by decide +kernel
theorem dX5_add_24 : decode cX5_add 24 = .ok (.getfield 25, 3) := by decide +kernel
theorem dX5_add_27 : decode cX5_add 27 = .ok (.iconst 1, 1) := by decide +kernel
theorem dX5_add_28 : decode cX5_add 28 = .ok (.iadd, 1) := by decide +kernel
theorem dX5_add_29 : decode cX5_add 29 = .ok (.putfield 25, 3) := by decide +kernel
theorem dX5_add_32 : decode cX5_add 32 = .ok (.return_, 1) := by decide +kernel
theorem sX5_add_0 {a0 a1 : Value} (hv : am_rf a0 = true) (h : am_R E d mX5_add k n 1 [a0, a1] (a0 :: st) S iv Q) : am_R E d mX5_add k n 0 [a0, a1] st S iv Q := am_aload_n dX5_add_0 rfl rfl hv h
theorem sX5_add_1 {ls : List Value} {a : Nat} (ha : S.1 a = some (.inl 5)) (h : am_R E d mX5_add k n 4 ls (.int (iv a 1) :: st) S iv Q) : am_R E d mX5_add k n 1 ls (.ref a :: st) S iv Q := am_getI (ci := 5) dX5_add_1 rfl rfl (by decide) wq_109 uq_5 rfl ha h
theorem sX5_add_4 {a0 a1 : Value} (hv : am_rf a0 = true) (h : am_R E d mX5_add k n 5 [a0, a1] (a0 :: st) S iv Q) : am_R E d mX5_add k n 4 [a0, a1] st S iv Q := am_aload_n dX5_add_4 rfl rfl hv h
theorem sX5_add_5 {ls : List Value} {a b : Nat} (ha : S.1 a = some (.inl 5)) (hb : S.2.1 a 3 = some b) (h : am_R E d mX5_add k n 8 ls (.ref b :: st) S iv Q) : am_R E d mX5_add k n 5 ls (.ref a :: st) S iv Q := am_getR (ci := 5) dX5_add_5 rfl rfl (by decide) wq_106 uq_5 rfl ha hb h
theorem sX5_add_8 {ls : List Value} {a m t : Nat} {ty : FieldType} (ha : S.1 a = some (.inr (ty, m))) (ht : am_ti ty = some t) (h : am_R E d mX5_add k n 9 ls (.int (Int32.ofNat m) :: st) S iv Q) : am_R E d mX5_add k n 8 ls (.ref a :: st) S iv Q := am_alen dX5_add_8 ha ht h
theorem sX5_add_9 {ls : List Value} {x y : Int32} (kt : y ≤ x → am_R E d mX5_add k n 32 ls st S iv Q) (kf : ¬ y ≤ x → am_R E d mX5_add k n 12 ls st S iv Q) : am_R E d mX5_add k n 9 ls (.int y :: .int x :: st) S iv Q := am_icmp_ge dX5_add_9 (by decide) kt kf
theorem sX5_add_12 {a0 a1 : Value} (hv : am_rf a0 = true) (h : am_R E d mX5_add k n 13 [a0, a1] (a0 :: st) S iv Q) : am_R E d mX5_add k n 12 [a0, a1] st S iv Q := am_aload_n dX5_add_12 rfl rfl hv h
theorem sX5_add_13 {ls : List Value} {a b : Nat} (ha : S.1 a = some (.inl 5)) (hb : S.2.1 a 3 = some b) (h : am_R E d mX5_add k n 16 ls (.ref b :: st) S iv Q) : am_R E d mX5_add k n 13 ls (.ref a :: st) S iv Q := am_getR (ci := 5) dX5_add_13 rfl rfl (by decide) wq_106 uq_5 rfl ha hb h
theorem sX5_add_16 {a0 a1 : Value} (hv : am_rf a0 = true) (h : am_R E d mX5_add k n 17 [a0, a1] (a0 :: st) S iv Q) : am_R E d mX5_add k n 16 [a0, a1] st S iv Q := am_aload_n dX5_add_16 rfl rfl hv h
theorem sX5_add_17 {ls : List Value} {a : Nat} (ha : S.1 a = some (.inl 5)) (h : am_R E d mX5_add k n 20 ls (.int (iv a 1) :: st) S iv Q) : am_R E d mX5_add k n 17 ls (.ref a :: st) S iv Q := am_getI (ci := 5) dX5_add_17 rfl rfl (by decide) wq_109 uq_5 rfl ha h
theorem sX5_add_20 {a0 : Value} {x : Int32} (h : am_R E d mX5_add k n 21 [a0, .int x] (.int x :: st) S iv Q) : am_R E d mX5_add k n 20 [a0, .int x] st S iv Q := am_iload_n dX5_add_20 rfl rfl h
theorem sX5_add_21 {ls : List Value} {a m : Nat} {i x : Int32} (ha : S.1 a = some (.inr (.int, m))) (hi : vp_in i m) (h : am_R E d mX5_add k n 22 ls st S (am_w iv a i.toNatClampNeg x) Q) : am_R E d mX5_add k n 21 ls (.int x :: .int i :: .ref a :: st) S iv Q := am_iastore dX5_add_21 ha hi h
theorem sX5_add_22 {a0 a1 : Value} (hv : am_rf a0 = true) (h : am_R E d mX5_add k n 23 [a0, a1] (a0 :: st) S iv Q) : am_R E d mX5_add k n 22 [a0, a1] st S iv Q := am_aload_n dX5_add_22 rfl rfl hv h
theorem sX5_add_23 {ls : List Value} {x : Value} (hv : x.category = 1) (h : am_R E d mX5_add k n 24 ls (x :: x :: st) S iv Q) : am_R E d mX5_add k n 23 ls (x :: st) S iv Q := am_dup dX5_add_23 hv h
theorem sX5_add_24 {ls : List Value} {a : Nat} (ha : S.1 a = some (.inl 5)) (h : am_R E d mX5_add k n 27 ls (.int (iv a 1) :: st) S iv Q) : am_R E d mX5_add k n 24 ls (.ref a :: st) S iv Q := am_getI (ci := 5) dX5_add_24 rfl rfl (by decide) wq_109 uq_5 rfl ha h
theorem sX5_add_27 {a0 a1 : Value} (h : am_R E d mX5_add k n 28 [a0, a1] (.int 1 :: st) S iv Q) : am_R E d mX5_add k n 27 [a0, a1] st S iv Q := am_iconst dX5_add_27 (by decide) h
theorem sX5_add_28 {ls : List Value} {x y : Int32} (h : am_R E d mX5_add k n 29 ls (.int (x + y) :: st) S iv Q) : am_R E d mX5_add k n 28 ls (.int y :: .int x :: st) S iv Q := am_iadd dX5_add_28 h
theorem sX5_add_29 {ls : List Value} {a : Nat} {x : Int32} (ha : S.1 a = some (.inl 5)) (h : am_R E d mX5_add k n 32 ls st S (am_w iv a 1 x) Q) : am_R E d mX5_add k n 29 ls (.int x :: .ref a :: st) S iv Q := am_putI (ci := 5) dX5_add_29 rfl rfl (by decide) wq_109 uq_5 tyX5_ok nmX5 (Or.inl rfl) rfl ha h
theorem sX5_add_32 {ls : List Value} (h : Q (.inl none) S iv) : am_R E d mX5_add k n 32 ls [] S iv Q := am_return dX5_add_32 rfl h
theorem dX5_endRule_0 : decode cX5_endRule 0 = .ok (.aload_n 0, 1) := by decide +kernel
theorem dX5_endRule_1 : decode cX5_endRule 1 = .ok (.getfield 21, 3) := by decide +kernel
theorem dX5_endRule_4 : decode cX5_endRule 4 = .ok (.iconst 4, 1) := by decide +kernel
theorem dX5_endRule_5 : decode cX5_endRule 5 = .ok (.if_icmp .ge 26, 3) := by decide +kernel
theorem dX5_endRule_8 : decode cX5_endRule 8 = .ok (.aload_n 0, 1) := by decide +kernel
theorem dX5_endRule_9 : decode cX5_endRule 9 = .ok (.dup, 1) := by decide +kernel
theorem dX5_endRule_10 : decode cX5_endRule 10 = .ok (.getfield 21, 3) := by decide +kernel
theorem dX5_endRule_13 : decode cX5_endRule 13 = .ok (.iconst 1, 1) := by decide +kernel
theorem dX5_endRule_14 : decode cX5_endRule 14 = .ok (.iadd, 1) := by decide +kernel
theorem dX5_endRule_15 : decode cX5_endRule 15 = .ok (.putfield 21, 3) := by decide +kernel
theorem dX5_endRule_18 : decode cX5_endRule 18 = .ok (.aload_n 0, 1) := by decide +kernel
theorem dX5_endRule_19 : decode cX5_endRule 19 = .ok (.getfield 9, 3) := by decide +kernel
theorem dX5_endRule_22 : decode cX5_endRule 22 = .ok (.aload_n 0, 1) := by decide +kernel
theorem dX5_endRule_23 : decode cX5_endRule 23 = .ok (.getfield 21, 3) := by decide +kernel
theorem dX5_endRule_26 : decode cX5_endRule 26 = .ok (.aload_n 0, 1) := by decide +kernel
theorem dX5_endRule_27 : decode cX5_endRule 27 = .ok (.getfield 25, 3) := by decide +kernel
theorem dX5_endRule_30 : decode cX5_endRule 30 = .ok (.iastore, 1) := by decide +kernel
theorem dX5_endRule_31 : decode cX5_endRule 31 = .ok (.return_, 1) := by decide +kernel
theorem sX5_endRule_0 {a0 : Value} (hv : am_rf a0 = true) (h : am_R E d mX5_endRule k n 1 [a0] (a0 :: st) S iv Q) : am_R E d mX5_endRule k n 0 [a0] st S iv Q := am_aload_n dX5_endRule_0 rfl rfl hv h
theorem sX5_endRule_1 {ls : List Value} {a : Nat} (ha : S.1 a = some (.inl 5)) (h : am_R E d mX5_endRule k n 4 ls (.int (iv a 0) :: st) S iv Q) : am_R E d mX5_endRule k n 1 ls (.ref a :: st) S iv Q := am_getI (ci := 5) dX5_endRule_1 rfl rfl (by decide) wq_108 uq_5 rfl ha h
theorem sX5_endRule_4 {a0 : Value} (h : am_R E d mX5_endRule k n 5 [a0] (.int 4 :: st) S iv Q) : am_R E d mX5_endRule k n 4 [a0] st S iv Q := am_iconst dX5_endRule_4 (by decide) h
theorem sX5_endRule_5 {ls : List Value} {x y : Int32} (kt : y ≤ x → am_R E d mX5_endRule k n 31 ls st S iv Q) (kf : ¬ y ≤ x → am_R E d mX5_endRule k n 8 ls st S iv Q) : am_R E d mX5_endRule k n 5 ls (.int y :: .int x :: st) S iv Q := am_icmp_ge dX5_endRule_5 (by decide) kt kf
theorem sX5_endRule_8 {a0 : Value} (hv : am_rf a0 = true) (h : am_R E d mX5_endRule k n 9 [a0] (a0 :: st) S iv Q) : am_R E d mX5_endRule k n 8 [a0] st S iv Q := am_aload_n dX5_endRule_8 rfl rfl hv h
theorem sX5_endRule_9 {ls : List Value} {x : Value} (hv : x.category = 1) (h : am_R E d mX5_endRule k n 10 ls (x :: x :: st) S iv Q) : am_R E d mX5_endRule k n 9 ls (x :: st) S iv Q := am_dup dX5_endRule_9 hv h
theorem sX5_endRule_10 {ls : List Value} {a : Nat} (ha : S.1 a = some (.inl 5)) (h : am_R E d mX5_endRule k n 13 ls (.int (iv a 0) :: st) S iv Q) : am_R E d mX5_endRule k n 10 ls (.ref a :: st) S iv Q := am_getI (ci := 5) dX5_endRule_10 rfl rfl (by decide) wq_108 uq_5 rfl ha h
theorem sX5_endRule_13 {a0 : Value} (h : am_R E d mX5_endRule k n 14 [a0] (.int 1 :: st) S iv Q) : am_R E d mX5_endRule k n 13 [a0] st S iv Q := am_iconst dX5_endRule_13 (by decide) h
theorem sX5_endRule_14 {ls : List Value} {x y : Int32} (h : am_R E d mX5_endRule k n 15 ls (.int (x + y) :: st) S iv Q) : am_R E d mX5_endRule k n 14 ls (.int y :: .int x :: st) S iv Q := am_iadd dX5_endRule_14 h
theorem sX5_endRule_15 {ls : List Value} {a : Nat} {x : Int32} (ha : S.1 a = some (.inl 5)) (h : am_R E d mX5_endRule k n 18 ls st S (am_w iv a 0 x) Q) : am_R E d mX5_endRule k n 15 ls (.int x :: .ref a :: st) S iv Q := am_putI (ci := 5) dX5_endRule_15 rfl rfl (by decide) wq_108 uq_5 tyX5_ok nmX5 (Or.inl rfl) rfl ha h
theorem sX5_endRule_18 {a0 : Value} (hv : am_rf a0 = true) (h : am_R E d mX5_endRule k n 19 [a0] (a0 :: st) S iv Q) : am_R E d mX5_endRule k n 18 [a0] st S iv Q := am_aload_n dX5_endRule_18 rfl rfl hv h
theorem sX5_endRule_19 {ls : List Value} {a b : Nat} (ha : S.1 a = some (.inl 5)) (hb : S.2.1 a 2 = some b) (h : am_R E d mX5_endRule k n 22 ls (.ref b :: st) S iv Q) : am_R E d mX5_endRule k n 19 ls (.ref a :: st) S iv Q := am_getR (ci := 5) dX5_endRule_19 rfl rfl (by decide) wq_105 uq_5 rfl ha hb h
theorem sX5_endRule_22 {a0 : Value} (hv : am_rf a0 = true) (h : am_R E d mX5_endRule k n 23 [a0] (a0 :: st) S iv Q) : am_R E d mX5_endRule k n 22 [a0] st S iv Q := am_aload_n dX5_endRule_22 rfl rfl hv h
theorem sX5_endRule_23 {ls : List Value} {a : Nat} (ha : S.1 a = some (.inl 5)) (h : am_R E d mX5_endRule k n 26 ls (.int (iv a 0) :: st) S iv Q) : am_R E d mX5_endRule k n 23 ls (.ref a :: st) S iv Q := am_getI (ci := 5) dX5_endRule_23 rfl rfl (by decide) wq_108 uq_5 rfl ha h
theorem sX5_endRule_26 {a0 : Value} (hv : am_rf a0 = true) (h : am_R E d mX5_endRule k n 27 [a0] (a0 :: st) S iv Q) : am_R E d mX5_endRule k n 26 [a0] st S iv Q := am_aload_n dX5_endRule_26 rfl rfl hv h
theorem sX5_endRule_27 {ls : List Value} {a : Nat} (ha : S.1 a = some (.inl 5)) (h : am_R E d mX5_endRule k n 30 ls (.int (iv a 1) :: st) S iv Q) : am_R E d mX5_endRule k n 27 ls (.ref a :: st) S iv Q := am_getI (ci := 5) dX5_endRule_27 rfl rfl (by decide) wq_109 uq_5 rfl ha h
theorem sX5_endRule_30 {ls : List Value} {a m : Nat} {i x : Int32} (ha : S.1 a = some (.inr (.int, m))) (hi : vp_in i m) (h : am_R E d mX5_endRule k n 31 ls st S (am_w iv a i.toNatClampNeg x) Q) : am_R E d mX5_endRule k n 30 ls (.int x :: .int i :: .ref a :: st) S iv Q := am_iastore dX5_endRule_30 ha hi h
theorem sX5_endRule_31 {ls : List Value} (h : Q (.inl none) S iv) : am_R E d mX5_endRule k n 31 ls [] S iv Q := am_return dX5_endRule_31 rfl h
theorem dX5_copyFrom_0 : decode cX5_copyFrom 0 = .ok (.aload_n 0, 1) := by decide +kernel
theorem dX5_copyFrom_1 : decode cX5_copyFrom 1 = .ok (.aload_n 1, 1) := by decide +kernel
theorem dX5_copyFrom_2 : decode cX5_copyFrom 2 = .ok (.getfield 21, 3) := by decide +kernel
theorem dX5_copyFrom_5 : decode cX5_copyFrom 5 = .ok (.putfield 21, 3) := by decide +kernel
theorem dX5_copyFrom_8 : decode cX5_copyFrom 8 = .ok (.aload_n 0, 1) := by decide +kernel
theorem dX5_copyFrom_9 : decode cX5_copyFrom 9 = .ok (.aload_n 1, 1) := by decide +kernel
theorem dX5_copyFrom_10 : decode cX5_copyFrom 10 = .ok (.getfield 25, 3) := by decide +kernel
theorem dX5_copyFrom_13 : decode cX5_copyFrom 13 = .ok (.putfield 25, 3) := by decide +kernel
theorem dX5_copyFrom_16 : decode cX5_copyFrom 16 = .ok (.aload_n 1, 1) := by decide +kernel
theorem dX5_copyFrom_17 : decode cX5_copyFrom 17 = .ok (.getfield 9, 3) := by decide +kernel
theorem dX5_copyFrom_20 : decode cX5_copyFrom 20 = .ok (.iconst 0, 1) := by decide +kernel
theorem dX5_copyFrom_21 : decode cX5_copyFrom 21 = .ok (.aload_n 0, 1) := by decide +kernel
theorem dX5_copyFrom_22 : decode cX5_copyFrom 22 = .ok (.getfield 9, 3) := by decide +kernel
theorem dX5_copyFrom_25 : decode cX5_copyFrom 25 = .ok (.iconst 0, 1) := by decide +kernel
theorem dX5_copyFrom_26 : decode cX5_copyFrom 26 = .ok (.iconst 5, 1) := by decide +kernel
theorem dX5_copyFrom_27 : decode cX5_copyFrom 27 = .ok (.invokestatic 28, 3) := by decide +kernel
theorem dX5_copyFrom_30 : decode cX5_copyFrom 30 = .ok (.aload_n 1, 1) := by decide +kernel
theorem dX5_copyFrom_31 : decode cX5_copyFrom 31 = .ok (.getfield 15, 3) := by decide +kernel
theorem dX5_copyFrom_34 : decode cX5_copyFrom 34 = .ok (.iconst 0, 1) := by decide +kernel
theorem dX5_copyFrom_35 : decode cX5_copyFrom 35 = .ok (.aload_n 0, 1) := by decide +kernel
theorem dX5_copyFrom_36 : decode cX5_copyFrom 36 = .ok (.getfield 15, 3) := by decide +kernel
theorem dX5_copyFrom_39 : decode cX5_copyFrom 39 = .ok (.iconst 0, 1) := by decide +kernel
theorem dX5_copyFrom_40 : decode cX5_copyFrom 40 = .ok (.aload_n 0, 1) := by decide +kernel
theorem dX5_copyFrom_41 : decode cX5_copyFrom 41 = .ok (.getfield 25, 3) := by decide +kernel
theorem dX5_copyFrom_44 : decode cX5_copyFrom 44 = .ok (.invokestatic 28, 3) := by decide +kernel
theorem dX5_copyFrom_47 : decode cX5_copyFrom 47 = .ok (.return_, 1) := by decide +kernel
theorem sX5_copyFrom_0 {a0 a1 : Value} (hv : am_rf a0 = true) (h : am_R E d mX5_copyFrom k n 1 [a0, a1] (a0 :: st) S iv Q) : am_R E d mX5_copyFrom k n 0 [a0, a1] st S iv Q := am_aload_n dX5_copyFrom_0 rfl rfl hv h
theorem sX5_copyFrom_1 {a0 a1 : Value} (hv : am_rf a1 = true) (h : am_R E d mX5_copyFrom k n 2 [a0, a1] (a1 :: st) S iv Q) : am_R E d mX5_copyFrom k n 1 [a0, a1] st S iv Q := am_aload_n dX5_copyFrom_1 rfl rfl hv h
theorem sX5_copyFrom_2 {ls : List Value} {a : Nat} (ha : S.1 a = some (.inl 5)) (h : am_R E d mX5_copyFrom k n 5 ls (.int (iv a 0) :: st) S iv Q) : am_R E d mX5_copyFrom k n 2 ls (.ref a :: st) S iv Q := am_getI (ci := 5) dX5_copyFrom_2 rfl rfl (by decide) wq_108 uq_5 rfl ha h
theorem sX5_copyFrom_5 {ls : List Value} {a : Nat} {x : Int32} (ha : S.1 a = some (.inl 5)) (h : am_R E d mX5_copyFrom k n 8 ls st S (am_w iv a 0 x) Q) : am_R E d mX5_copyFrom k n 5 ls (.int x :: .ref a :: st) S iv Q := am_putI (ci := 5) dX5_copyFrom_5 rfl rfl (by decide) wq_108 uq_5 tyX5_ok nmX5 (Or.inl rfl) rfl ha h
theorem sX5_copyFrom_8 {a0 a1 : Value} (hv : am_rf a0 = true) (h : am_R E d mX5_copyFrom k n 9 [a0, a1] (a0 :: st) S iv Q) : am_R E d mX5_copyFrom k n 8 [a0, a1] st S iv Q := am_aload_n dX5_copyFrom_8 rfl rfl hv h
theorem sX5_copyFrom_9 {a0 a1 : Value} (hv : am_rf a1 = true) (h : am_R E d mX5_copyFrom k n 10 [a0, a1] (a1 :: st) S iv Q) : am_R E d mX5_copyFrom k n 9 [a0, a1] st S iv Q := am_aload_n dX5_copyFrom_9 rfl rfl hv h
theorem sX5_copyFrom_10 {ls : List Value} {a : Nat} (ha : S.1 a = some (.inl 5)) (h : am_R E d mX5_copyFrom k n 13 ls (.int (iv a 1) :: st) S iv Q) : am_R E d mX5_copyFrom k n 10 ls (.ref a :: st) S iv Q := am_getI (ci := 5) dX5_copyFrom_10 rfl rfl (by decide) wq_109 uq_5 rfl ha h
theorem sX5_copyFrom_13 {ls : List Value} {a : Nat} {x : Int32} (ha : S.1 a = some (.inl 5)) (h : am_R E d mX5_copyFrom k n 16 ls st S (am_w iv a 1 x) Q) : am_R E d mX5_copyFrom k n 13 ls (.int x :: .ref a :: st) S iv Q := am_putI (ci := 5) dX5_copyFrom_13 rfl rfl (by decide) wq_109 uq_5 tyX5_ok nmX5 (Or.inl rfl) rfl ha h
theorem sX5_copyFrom_16 {a0 a1 : Value} (hv : am_rf a1 = true) (h : am_R E d mX5_copyFrom k n 17 [a0, a1] (a1 :: st) S iv Q) : am_R E d mX5_copyFrom k n 16 [a0, a1] st S iv Q := am_aload_n dX5_copyFrom_16 rfl rfl hv h
theorem sX5_copyFrom_17 {ls : List Value} {a b : Nat} (ha : S.1 a = some (.inl 5)) (hb : S.2.1 a 2 = some b) (h : am_R E d mX5_copyFrom k n 20 ls (.ref b :: st) S iv Q) : am_R E d mX5_copyFrom k n 17 ls (.ref a :: st) S iv Q := am_getR (ci := 5) dX5_copyFrom_17 rfl rfl (by decide) wq_105 uq_5 rfl ha hb h
theorem sX5_copyFrom_20 {a0 a1 : Value} (h : am_R E d mX5_copyFrom k n 21 [a0, a1] (.int 0 :: st) S iv Q) : am_R E d mX5_copyFrom k n 20 [a0, a1] st S iv Q := am_iconst dX5_copyFrom_20 (by decide) h
theorem sX5_copyFrom_21 {a0 a1 : Value} (hv : am_rf a0 = true) (h : am_R E d mX5_copyFrom k n 22 [a0, a1] (a0 :: st) S iv Q) : am_R E d mX5_copyFrom k n 21 [a0, a1] st S iv Q := am_aload_n dX5_copyFrom_21 rfl rfl hv h
theorem sX5_copyFrom_22 {ls : List Value} {a b : Nat} (ha : S.1 a = some (.inl 5)) (hb : S.2.1 a 2 = some b) (h : am_R E d mX5_copyFrom k n 25 ls (.ref b :: st) S iv Q) : am_R E d mX5_copyFrom k n 22 ls (.ref a :: st) S iv Q := am_getR (ci := 5) dX5_copyFrom_22 rfl rfl (by decide) wq_105 uq_5 rfl ha hb h
theorem sX5_copyFrom_25 {a0 a1 : Value} (h : am_R E d mX5_copyFrom k n 26 [a0, a1] (.int 0 :: st) S iv Q) : am_R E d mX5_copyFrom k n 25 [a0, a1] st S iv Q := am_iconst dX5_copyFrom_25 (by decide) h
theorem sX5_copyFrom_26 {a0 a1 : Value} (h : am_R E d mX5_copyFrom k n 27 [a0, a1] (.int 5 :: st) S iv Q) : am_R E d mX5_copyFrom k n 26 [a0, a1] st S iv Q := am_iconst dX5_copyFrom_26 (by decide) h
theorem sX5_copyFrom_27 {ls : List Value} {a0 a n0 n1 : Nat} {sp dp x : Int32} (ha0 : S.1 a0 = some (.inr (.int, n0))) (ha : S.1 a = some (.inr (.int, n1))) (g1 : ¬ sp < 0) (g2 : ¬ dp < 0) (g3 : ¬ x < 0) (g4 : sp.toNatClampNeg + x.toNatClampNeg ≤ n0) (g5 : dp.toNatClampNeg + x.toNatClampNeg ≤ n1) (hst : (st.map fun v => v.category).sum ≤ 8) (h : am_R E (d + 2) mX5_copyFrom k n 30 ls st S (fun b => if b = a then va_cpy (iv a0) (iv a) sp.toNatClampNeg dp.toNatClampNeg x.toNatClampNeg else iv b) Q) : am_R E (d + 2) mX5_copyFrom k n 27 ls (.int x :: .int dp :: .ref a :: .int sp :: .ref a0 :: st) S iv Q := am_copy dX5_copyFrom_27 wq_110 wq_76 wq_77 wq_78 ha0 ha g1 g2 g3 g4 g5 hst (by omega) h
theorem sX5_copyFrom_30 {a0 a1 : Value} (hv : am_rf a1 = true) (h : am_R E d mX5_copyFrom k n 31 [a0, a1] (a1 :: st) S iv Q) : am_R E d mX5_copyFrom k n 30 [a0, a1] st S iv Q := am_aload_n dX5_copyFrom_30 rfl rfl hv h
theorem sX5_copyFrom_31 {ls : List Value} {a b : Nat} (ha : S.1 a = some (.inl 5)) (hb : S.2.1 a 3 = some b) (h : am_R E d mX5_copyFrom k n 34 ls (.ref b :: st) S iv Q) : am_R E d mX5_copyFrom k n 31 ls (.ref a :: st) S iv Q := am_getR (ci := 5) dX5_copyFrom_31 rfl rfl (by decide) wq_106 uq_5 rfl ha hb h
theorem sX5_copyFrom_34 {a0 a1 : Value} (h : am_R E d mX5_copyFrom k n 35 [a0, a1] (.int 0 :: st) S iv Q) : am_R E d mX5_copyFrom k n 34 [a0, a1] st S iv Q := am_iconst dX5_copyFrom_34 (by decide) h
theorem sX5_copyFrom_35 {a0 a1 : Value} (hv : am_rf a0 = true) (h : am_R E d mX5_copyFrom k n 36 [a0, a1] (a0 :: st) S iv Q) : am_R E d mX5_copyFrom k n 35 [a0, a1] st S iv Q := am_aload_n dX5_copyFrom_35 rfl rfl hv h
theorem sX5_copyFrom_36 {ls : List Value} {a b : Nat} (ha : S.1 a = some (.inl 5)) (hb : S.2.1 a 3 = some b) (h : am_R E d mX5_copyFrom k n 39 ls (.ref b :: st) S iv Q) : am_R E d mX5_copyFrom k n 36 ls (.ref a :: st) S iv Q := am_getR (ci := 5) dX5_copyFrom_36 rfl rfl (by decide) wq_106 uq_5 rfl ha hb h
theorem sX5_copyFrom_39 {a0 a1 : Value} (h : am_R E d mX5_copyFrom k n 40 [a0, a1] (.int 0 :: st) S iv Q) : am_R E d mX5_copyFrom k n 39 [a0, a1] st S iv Q := am_iconst dX5_copyFrom_39 (by decide) h
theorem sX5_copyFrom_40 {a0 a1 : Value} (hv : am_rf a0 = true) (h : am_R E d mX5_copyFrom k n 41 [a0, a1] (a0 :: st) S iv Q) : am_R E d mX5_copyFrom k n 40 [a0, a1] st S iv Q := am_aload_n dX5_copyFrom_40 rfl rfl hv h
theorem sX5_copyFrom_41 {ls : List Value} {a : Nat} (ha : S.1 a = some (.inl 5)) (h : am_R E d mX5_copyFrom k n 44 ls (.int (iv a 1) :: st) S iv Q) : am_R E d mX5_copyFrom k n 41 ls (.ref a :: st) S iv Q := am_getI (ci := 5) dX5_copyFrom_41 rfl rfl (by decide) wq_109 uq_5 rfl ha h
theorem sX5_copyFrom_44 {ls : List Value} {a0 a n0 n1 : Nat} {sp dp x : Int32} (ha0 : S.1 a0 = some (.inr (.int, n0))) (ha : S.1 a = some (.inr (.int, n1))) (g1 : ¬ sp < 0) (g2 : ¬ dp < 0) (g3 : ¬ x < 0) (g4 : sp.toNatClampNeg + x.toNatClampNeg ≤ n0) (g5 : dp.toNatClampNeg + x.toNatClampNeg ≤ n1) (hst : (st.map fun v => v.category).sum ≤ 8) (h : am_R E (d + 2) mX5_copyFrom k n 47 ls st S (fun b => if b = a then va_cpy (iv a0) (iv a) sp.toNatClampNeg dp.toNatClampNeg x.toNatClampNeg else iv b) Q) : am_R E (d + 2) mX5_copyFrom k n 44 ls (.int x :: .int dp :: .ref a :: .int sp :: .ref a0 :: st) S iv Q := am_copy dX5_copyFrom_44 wq_110 wq_76 wq_77 wq_78 ha0 ha g1 g2 g3 g4 g5 hst (by omega) h
theorem sX5_copyFrom_47 {ls : List Value} (h : Q (.inl none) S iv) : am_R E d mX5_copyFrom k n 47 ls [] S iv Q := am_return dX5_copyFrom_47 rfl h
theorem dX5_holds_0 : decode cX5_holds 0 = .ok (.iconst 0, 1) := by decide +kernel
theorem dX5_holds_1 : decode cX5_holds 1 = .ok (.istore_n 3, 1) := by decide +kernel
theorem dX5_holds_2 : decode cX5_holds 2 = .ok (.aload_n 0, 1) := by decide +kernel
theorem dX5_holds_3 : decode cX5_holds 3 = .ok (.getfield 9, 3) := by decide +kernel
theorem dX5_holds_6 : decode cX5_holds 6 = .ok (.iload_n 1, 1) := by decide +kernel
theorem dX5_holds_7 : decode cX5_holds 7 = .ok (.iaload, 1) := by decide +kernel
theorem dX5_holds_8 : decode cX5_holds 8 = .ok (.istore 4, 2) := by decide +kernel
theorem dX5_holds_10 : decode cX5_holds 10 = .ok (.iload 4, 2) := by decide +kernel
theorem dX5_holds_12 : decode cX5_holds 12 = .ok (.aload_n 0, 1) := by decide +kernel
theorem dX5_holds_13 : decode cX5_holds 13 = .ok (.getfield 9, 3) := by decide +kernel
theorem dX5_holds_16 : decode cX5_holds 16 = .ok (.iload_n 1, 1) := by decide +kernel
theorem dX5_holds_17 : decode cX5_holds 17 = .ok (.iconst 1, 1) := by decide +kernel
theorem dX5_holds_18 : decode cX5_holds 18 = .ok (.iadd, 1) := by decide +kernel
theorem dX5_holds_19 : decode cX5_holds 19 = .ok (.iaload, 1) := by decide +kernel
theorem dX5_holds_20 : decode cX5_holds 20 = .ok (.if_icmp .ge 132, 3) := by decide +kernel
theorem dX5_holds_23 : decode cX5_holds 23 = .ok (.aload_n 0, 1) := by decide +kernel
theorem dX5_holds_24 : decode cX5_holds 24 = .ok (.getfield 15, 3) := by decide +kernel
theorem dX5_holds_27 : decode cX5_holds 27 = .ok (.iload 4, 2) := by decide +kernel
theorem dX5_holds_29 : decode cX5_holds 29 = .ok (.iaload, 1) := by decide +kernel
theorem dX5_holds_30 : decode cX5_holds 30 = .ok (.istore 5, 2) := by decide +kernel
theorem dX5_holds_32 : decode cX5_holds 32 = .ok (.iload 5, 2) := by decide +kernel
theorem dX5_holds_34 : decode cX5_holds 34 = .ok (.bipush (-7), 2) := by decide +kernel
theorem dX5_holds_36 : decode cX5_holds 36 = .ok (.if_icmp .lt 37, 3) := by decide +kernel
theorem dX5_holds_39 : decode cX5_holds 39 = .ok (.iload_n 3, 1) := by decide +kernel
theorem dX5_holds_40 : decode cX5_holds 40 = .ok (.bipush 64, 2) := by decide +kernel
theorem dX5_holds_42 : decode cX5_holds 42 = .ok (.if_icmp .ge 31, 3) := by decide +kernel
theorem dX5_holds_45 : decode cX5_holds 45 = .ok (.aload_n 0, 1) := by decide +kernel
theorem dX5_holds_46 : decode cX5_holds 46 = .ok (.getfield 18, 3) := by decide +kernel
theorem dX5_holds_49 : decode cX5_holds 49 = .ok (.iload_n 3, 1) := by decide +kernel
theorem dX5_holds_50 : decode cX5_holds 50 = .ok (.iload 5, 2) := by decide +kernel
theorem dX5_holds_52 : decode cX5_holds 52 = .ok (.ifCond .lt 8, 3) := by decide +kernel
theorem dX5_holds_55 : decode cX5_holds 55 = .ok (.iload 5, 2) := by decide +kernel
theorem dX5_holds_57 : decode cX5_holds 57 = .ok (.goto 9, 3) := by decide +kernel
theorem dX5_holds_60 : decode cX5_holds 60 = .ok (.aload_n 2, 1) := by decide +kernel
theorem dX5_holds_61 : decode cX5_holds 61 = .ok (.iconst (-1), 1) := by decide +kernel
theorem dX5_holds_62 : decode cX5_holds 62 = .ok (.iload 5, 2) := by decide +kernel
theorem dX5_holds_64 : decode cX5_holds 64 = .ok (.isub, 1) := by decide +kernel
theorem dX5_holds_65 : decode cX5_holds 65 = .ok (.iaload, 1) := by decide +kernel
theorem dX5_holds_66 : decode cX5_holds 66 = .ok (.iastore, 1) := by decide +kernel
theorem dX5_holds_67 : decode cX5_holds 67 = .ok (.iinc 3 1, 3) := by decide +kernel
theorem dX5_holds_70 : decode cX5_holds 70 = .ok (.goto 76, 3) := by decide +kernel
theorem dX5_holds_73 : decode cX5_holds 73 = .ok (.iload 5, 2) := by decide +kernel
theorem dX5_holds_75 : decode cX5_holds 75 = .ok (.bipush (-18), 2) := by decide +kernel
theorem dX5_holds_77 : decode cX5_holds 77 = .ok (.if_icmp .ne 34, 3) := by decide +kernel
theorem dX5_holds_80 : decode cX5_holds 80 = .ok (.iload_n 3, 1) := by decide +kernel
theorem dX5_holds_81 : decode cX5_holds 81 = .ok (.ifCond .le 30, 3) := by decide +kernel
theorem dX5_holds_84 : decode cX5_holds 84 = .ok (.aload_n 0, 1) := by decide +kernel
theorem dX5_holds_85 : decode cX5_holds 85 = .ok (.getfield 18, 3) := by decide +kernel
theorem dX5_holds_88 : decode cX5_holds 88 = .ok (.iload_n 3, 1) := by decide +kernel
theorem dX5_holds_89 : decode cX5_holds 89 = .ok (.iconst 1, 1) := by decide +kernel
theorem dX5_holds_90 : decode cX5_holds 90 = .ok (.isub, 1) := by decide +kernel
theorem dX5_holds_91 : decode cX5_holds 91 = .ok (.aload_n 0, 1) := by decide +kernel
theorem dX5_holds_92 : decode cX5_holds 92 = .ok (.getfield 18, 3) := by decide +kernel
theorem dX5_holds_95 : decode cX5_holds 95 = .ok (.iload_n 3, 1) := by decide +kernel
theorem dX5_holds_96 : decode cX5_holds 96 = .ok (.iconst 1, 1) := by decide +kernel
theorem dX5_holds_97 : decode cX5_holds 97 = .ok (.isub, 1) := by decide +kernel
theorem dX5_holds_98 : decode cX5_holds 98 = .ok (.iaload, 1) := by decide +kernel
theorem dX5_holds_99 : decode cX5_holds 99 = .ok (.ifCond .ne 7, 3) := by decide +kernel
theorem dX5_holds_102 : decode cX5_holds 102 = .ok (.iconst 1, 1) := by decide +kernel
theorem dX5_holds_103 : decode cX5_holds 103 = .ok (.goto 4, 3) := by decide +kernel
theorem dX5_holds_106 : decode cX5_holds 106 = .ok (.iconst 0, 1) := by decide +kernel
theorem dX5_holds_107 : decode cX5_holds 107 = .ok (.iastore, 1) := by decide +kernel
theorem dX5_holds_108 : decode cX5_holds 108 = .ok (.goto 38, 3) := by decide +kernel
theorem dX5_holds_111 : decode cX5_holds 111 = .ok (.iload_n 3, 1) := by decide +kernel
theorem dX5_holds_112 : decode cX5_holds 112 = .ok (.iconst 1, 1) := by decide +kernel
theorem dX5_holds_113 : decode cX5_holds 113 = .ok (.if_icmp .le 33, 3) := by decide +kernel
theorem dX5_holds_116 : decode cX5_holds 116 = .ok (.iinc 3 (-1), 3) := by decide +kernel
theorem dX5_holds_119 : decode cX5_holds 119 = .ok (.aload_n 0, 1) := by decide +kernel
theorem dX5_holds_120 : decode cX5_holds 120 = .ok (.getfield 18, 3) := by decide +kernel
theorem dX5_holds_123 : decode cX5_holds 123 = .ok (.iload_n 3, 1) := by decide +kernel
theorem dX5_holds_124 : decode cX5_holds 124 = .ok (.iconst 1, 1) := by decide +kernel
theorem dX5_holds_125 : decode cX5_holds 125 = .ok (.isub, 1) := by decide +kernel
theorem dX5_holds_126 : decode cX5_holds 126 = .ok (.iload 5, 2) := by decide +kernel
theorem dX5_holds_128 : decode cX5_holds 128 = .ok (.aload_n 0, 1) := by decide +kernel
theorem dX5_holds_129 : decode cX5_holds 129 = .ok (.getfield 18, 3) := by decide +kernel
theorem dX5_holds_132 : decode cX5_holds 132 = .ok (.iload_n 3, 1) := by decide +kernel
theorem dX5_holds_133 : decode cX5_holds 133 = .ok (.iconst 1, 1) := by decide +kernel
theorem dX5_holds_134 : decode cX5_holds 134 = .ok (.isub, 1) := by decide +kernel
theorem dX5_holds_135 : decode cX5_holds 135 = .ok (.iaload, 1) := by decide +kernel
theorem dX5_holds_136 : decode cX5_holds 136 = .ok (.aload_n 0, 1) := by decide +kernel
theorem dX5_holds_137 : decode cX5_holds 137 = .ok (.getfield 18, 3) := by decide +kernel
theorem dX5_holds_140 : decode cX5_holds 140 = .ok (.iload_n 3, 1) := by decide +kernel
theorem dX5_holds_141 : decode cX5_holds 141 = .ok (.iaload, 1) := by decide +kernel
theorem dX5_holds_142 : decode cX5_holds 142 = .ok (.invokestatic 34, 3) := by decide +kernel
theorem dX5_holds_145 : decode cX5_holds 145 = .ok (.iastore, 1) := by decide +kernel
theorem dX5_holds_146 : decode cX5_holds 146 = .ok (.iinc 4 1, 3) := by decide +kernel
theorem dX5_holds_149 : decode cX5_holds 149 = .ok (.goto (-139), 3) := by decide +kernel
theorem dX5_holds_152 : decode cX5_holds 152 = .ok (.aload_n 0, 1) := by decide +kernel
theorem dX5_holds_153 : decode cX5_holds 153 = .ok (.getfield 18, 3) := by decide +kernel
theorem dX5_holds_156 : decode cX5_holds 156 = .ok (.iconst 0, 1) := by decide +kernel
theorem dX5_holds_157 : decode cX5_holds 157 = .ok (.iaload, 1) := by decide +kernel
theorem dX5_holds_158 : decode cX5_holds 158 = .ok (.ifCond .eq 7, 3) := by decide +kernel
theorem dX5_holds_161 : decode cX5_holds 161 = .ok (.iconst 1, 1) := by decide +kernel
theorem dX5_holds_162 : decode cX5_holds 162 = .ok (.goto 4, 3) := by decide +kernel
theorem dX5_holds_165 : decode cX5_holds 165 = .ok (.iconst 0, 1) := by decide +kernel
theorem dX5_holds_166 : decode cX5_holds 166 = .ok (.ireturn, 1) := by decide +kernel
theorem sX5_holds_0 {a0 a1 a2 a3 a4 a5 : Value} (h : am_R E d mX5_holds k n 1 [a0, a1, a2, a3, a4, a5] (.int 0 :: st) S iv Q) : am_R E d mX5_holds k n 0 [a0, a1, a2, a3, a4, a5] st S iv Q := am_iconst dX5_holds_0 (by decide) h
theorem sX5_holds_1 {a0 a1 a2 a3 a4 a5 : Value} {x : Int32} (h : am_R E d mX5_holds k n 2 [a0, a1, a2, .int x, a4, a5] st S iv Q) : am_R E d mX5_holds k n 1 [a0, a1, a2, a3, a4, a5] (.int x :: st) S iv Q := am_istore_n dX5_holds_1 rfl (by decide) h
theorem sX5_holds_2 {a0 a1 a2 a3 a4 a5 : Value} (hv : am_rf a0 = true) (h : am_R E d mX5_holds k n 3 [a0, a1, a2, a3, a4, a5] (a0 :: st) S iv Q) : am_R E d mX5_holds k n 2 [a0, a1, a2, a3, a4, a5] st S iv Q := am_aload_n dX5_holds_2 rfl rfl hv h
theorem sX5_holds_3 {ls : List Value} {a b : Nat} (ha : S.1 a = some (.inl 5)) (hb : S.2.1 a 2 = some b) (h : am_R E d mX5_holds k n 6 ls (.ref b :: st) S iv Q) : am_R E d mX5_holds k n 3 ls (.ref a :: st) S iv Q := am_getR (ci := 5) dX5_holds_3 rfl rfl (by decide) wq_105 uq_5 rfl ha hb h
theorem sX5_holds_6 {a0 a2 a3 a4 a5 : Value} {x : Int32} (h : am_R E d mX5_holds k n 7 [a0, .int x, a2, a3, a4, a5] (.int x :: st) S iv Q) : am_R E d mX5_holds k n 6 [a0, .int x, a2, a3, a4, a5] st S iv Q := am_iload_n dX5_holds_6 rfl rfl h
theorem sX5_holds_7 {ls : List Value} {a m : Nat} {i : Int32} (ha : S.1 a = some (.inr (.int, m))) (hi : vp_in i m) (h : am_R E d mX5_holds k n 8 ls (.int (iv a i.toNatClampNeg) :: st) S iv Q) : am_R E d mX5_holds k n 7 ls (.int i :: .ref a :: st) S iv Q := am_iaload dX5_holds_7 ha hi h
theorem sX5_holds_8 {a0 a1 a2 a3 a4 a5 : Value} {x : Int32} (h : am_R E d mX5_holds k n 10 [a0, a1, a2, a3, .int x, a5] st S iv Q) : am_R E d mX5_holds k n 8 [a0, a1, a2, a3, a4, a5] (.int x :: st) S iv Q := am_istore dX5_holds_8 (by decide) h
theorem sX5_holds_10 {a0 a1 a2 a3 a5 : Value} {x : Int32} (h : am_R E d mX5_holds k n 12 [a0, a1, a2, a3, .int x, a5] (.int x :: st) S iv Q) : am_R E d mX5_holds k n 10 [a0, a1, a2, a3, .int x, a5] st S iv Q := am_iload dX5_holds_10 rfl h
theorem sX5_holds_12 {a0 a1 a2 a3 a4 a5 : Value} (hv : am_rf a0 = true) (h : am_R E d mX5_holds k n 13 [a0, a1, a2, a3, a4, a5] (a0 :: st) S iv Q) : am_R E d mX5_holds k n 12 [a0, a1, a2, a3, a4, a5] st S iv Q := am_aload_n dX5_holds_12 rfl rfl hv h
theorem sX5_holds_13 {ls : List Value} {a b : Nat} (ha : S.1 a = some (.inl 5)) (hb : S.2.1 a 2 = some b) (h : am_R E d mX5_holds k n 16 ls (.ref b :: st) S iv Q) : am_R E d mX5_holds k n 13 ls (.ref a :: st) S iv Q := am_getR (ci := 5) dX5_holds_13 rfl rfl (by decide) wq_105 uq_5 rfl ha hb h
theorem sX5_holds_16 {a0 a2 a3 a4 a5 : Value} {x : Int32} (h : am_R E d mX5_holds k n 17 [a0, .int x, a2, a3, a4, a5] (.int x :: st) S iv Q) : am_R E d mX5_holds k n 16 [a0, .int x, a2, a3, a4, a5] st S iv Q := am_iload_n dX5_holds_16 rfl rfl h
theorem sX5_holds_17 {a0 a1 a2 a3 a4 a5 : Value} (h : am_R E d mX5_holds k n 18 [a0, a1, a2, a3, a4, a5] (.int 1 :: st) S iv Q) : am_R E d mX5_holds k n 17 [a0, a1, a2, a3, a4, a5] st S iv Q := am_iconst dX5_holds_17 (by decide) h
theorem sX5_holds_18 {ls : List Value} {x y : Int32} (h : am_R E d mX5_holds k n 19 ls (.int (x + y) :: st) S iv Q) : am_R E d mX5_holds k n 18 ls (.int y :: .int x :: st) S iv Q := am_iadd dX5_holds_18 h
theorem sX5_holds_19 {ls : List Value} {a m : Nat} {i : Int32} (ha : S.1 a = some (.inr (.int, m))) (hi : vp_in i m) (h : am_R E d mX5_holds k n 20 ls (.int (iv a i.toNatClampNeg) :: st) S iv Q) : am_R E d mX5_holds k n 19 ls (.int i :: .ref a :: st) S iv Q := am_iaload dX5_holds_19 ha hi h
theorem sX5_holds_20 {ls : List Value} {x y : Int32} (kt : y ≤ x → am_R E d mX5_holds k n 152 ls st S iv Q) (kf : ¬ y ≤ x → am_R E d mX5_holds k n 23 ls st S iv Q) : am_R E d mX5_holds k n 20 ls (.int y :: .int x :: st) S iv Q := am_icmp_ge dX5_holds_20 (by decide) kt kf
theorem sX5_holds_23 {a0 a1 a2 a3 a4 a5 : Value} (hv : am_rf a0 = true) (h : am_R E d mX5_holds k n 24 [a0, a1, a2, a3, a4, a5] (a0 :: st) S iv Q) : am_R E d mX5_holds k n 23 [a0, a1, a2, a3, a4, a5] st S iv Q := am_aload_n dX5_holds_23 rfl rfl hv h
theorem sX5_holds_24 {ls : List Value} {a b : Nat} (ha : S.1 a = some (.inl 5)) (hb : S.2.1 a 3 = some b) (h : am_R E d mX5_holds k n 27 ls (.ref b :: st) S iv Q) : am_R E d mX5_holds k n 24 ls (.ref a :: st) S iv Q := am_getR (ci := 5) dX5_holds_24 rfl rfl (by decide) wq_106 uq_5 rfl ha hb h
theorem sX5_holds_27 {a0 a1 a2 a3 a5 : Value} {x : Int32} (h : am_R E d mX5_holds k n 29 [a0, a1, a2, a3, .int x, a5] (.int x :: st) S iv Q) : am_R E d mX5_holds k n 27 [a0, a1, a2, a3, .int x, a5] st S iv Q := am_iload dX5_holds_27 rfl h
theorem sX5_holds_29 {ls : List Value} {a m : Nat} {i : Int32} (ha : S.1 a = some (.inr (.int, m))) (hi : vp_in i m) (h : am_R E d mX5_holds k n 30 ls (.int (iv a i.toNatClampNeg) :: st) S iv Q) : am_R E d mX5_holds k n 29 ls (.int i :: .ref a :: st) S iv Q := am_iaload dX5_holds_29 ha hi h
theorem sX5_holds_30 {a0 a1 a2 a3 a4 a5 : Value} {x : Int32} (h : am_R E d mX5_holds k n 32 [a0, a1, a2, a3, a4, .int x] st S iv Q) : am_R E d mX5_holds k n 30 [a0, a1, a2, a3, a4, a5] (.int x :: st) S iv Q := am_istore dX5_holds_30 (by decide) h
theorem sX5_holds_32 {a0 a1 a2 a3 a4 : Value} {x : Int32} (h : am_R E d mX5_holds k n 34 [a0, a1, a2, a3, a4, .int x] (.int x :: st) S iv Q) : am_R E d mX5_holds k n 32 [a0, a1, a2, a3, a4, .int x] st S iv Q := am_iload dX5_holds_32 rfl h
theorem sX5_holds_34 {a0 a1 a2 a3 a4 a5 : Value} (h : am_R E d mX5_holds k n 36 [a0, a1, a2, a3, a4, a5] (.int (-7) :: st) S iv Q) : am_R E d mX5_holds k n 34 [a0, a1, a2, a3, a4, a5] st S iv Q := am_bipush dX5_holds_34 (by decide) h
theorem sX5_holds_36 {ls : List Value} {x y : Int32} (kt : x < y → am_R E d mX5_holds k n 73 ls st S iv Q) (kf : ¬ x < y → am_R E d mX5_holds k n 39 ls st S iv Q) : am_R E d mX5_holds k n 36 ls (.int y :: .int x :: st) S iv Q := am_icmp_lt dX5_holds_36 (by decide) kt kf
theorem sX5_holds_39 {a0 a1 a2 a4 a5 : Value} {x : Int32} (h : am_R E d mX5_holds k n 40 [a0, a1, a2, .int x, a4, a5] (.int x :: st) S iv Q) : am_R E d mX5_holds k n 39 [a0, a1, a2, .int x, a4, a5] st S iv Q := am_iload_n dX5_holds_39 rfl rfl h
theorem sX5_holds_40 {a0 a1 a2 a3 a4 a5 : Value} (h : am_R E d mX5_holds k n 42 [a0, a1, a2, a3, a4, a5] (.int 64 :: st) S iv Q) : am_R E d mX5_holds k n 40 [a0, a1, a2, a3, a4, a5] st S iv Q := am_bipush dX5_holds_40 (by decide) h
theorem sX5_holds_42 {ls : List Value} {x y : Int32} (kt : y ≤ x → am_R E d mX5_holds k n 73 ls st S iv Q) (kf : ¬ y ≤ x → am_R E d mX5_holds k n 45 ls st S iv Q) : am_R E d mX5_holds k n 42 ls (.int y :: .int x :: st) S iv Q := am_icmp_ge dX5_holds_42 (by decide) kt kf
theorem sX5_holds_45 {a0 a1 a2 a3 a4 a5 : Value} (hv : am_rf a0 = true) (h : am_R E d mX5_holds k n 46 [a0, a1, a2, a3, a4, a5] (a0 :: st) S iv Q) : am_R E d mX5_holds k n 45 [a0, a1, a2, a3, a4, a5] st S iv Q := am_aload_n dX5_holds_45 rfl rfl hv h
theorem sX5_holds_46 {ls : List Value} {a b : Nat} (ha : S.1 a = some (.inl 5)) (hb : S.2.1 a 4 = some b) (h : am_R E d mX5_holds k n 49 ls (.ref b :: st) S iv Q) : am_R E d mX5_holds k n 46 ls (.ref a :: st) S iv Q := am_getR (ci := 5) dX5_holds_46 rfl rfl (by decide) wq_107 uq_5 rfl ha hb h
theorem sX5_holds_49 {a0 a1 a2 a4 a5 : Value} {x : Int32} (h : am_R E d mX5_holds k n 50 [a0, a1, a2, .int x, a4, a5] (.int x :: st) S iv Q) : am_R E d mX5_holds k n 49 [a0, a1, a2, .int x, a4, a5] st S iv Q := am_iload_n dX5_holds_49 rfl rfl h
theorem sX5_holds_50 {a0 a1 a2 a3 a4 : Value} {x : Int32} (h : am_R E d mX5_holds k n 52 [a0, a1, a2, a3, a4, .int x] (.int x :: st) S iv Q) : am_R E d mX5_holds k n 50 [a0, a1, a2, a3, a4, .int x] st S iv Q := am_iload dX5_holds_50 rfl h
theorem sX5_holds_52 {ls : List Value} {x : Int32} (kt : x < 0 → am_R E d mX5_holds k n 60 ls st S iv Q) (kf : ¬ x < 0 → am_R E d mX5_holds k n 55 ls st S iv Q) : am_R E d mX5_holds k n 52 ls (.int x :: st) S iv Q := am_if_lt dX5_holds_52 (by decide) kt kf
theorem sX5_holds_55 {a0 a1 a2 a3 a4 : Value} {x : Int32} (h : am_R E d mX5_holds k n 57 [a0, a1, a2, a3, a4, .int x] (.int x :: st) S iv Q) : am_R E d mX5_holds k n 55 [a0, a1, a2, a3, a4, .int x] st S iv Q := am_iload dX5_holds_55 rfl h
theorem sX5_holds_57 {ls : List Value} (h : am_R E d mX5_holds k n 66 ls st S iv Q) : am_R E d mX5_holds k n 57 ls st S iv Q := am_goto dX5_holds_57 (by decide) h
theorem sX5_holds_60 {a0 a1 a2 a3 a4 a5 : Value} (hv : am_rf a2 = true) (h : am_R E d mX5_holds k n 61 [a0, a1, a2, a3, a4, a5] (a2 :: st) S iv Q) : am_R E d mX5_holds k n 60 [a0, a1, a2, a3, a4, a5] st S iv Q := am_aload_n dX5_holds_60 rfl rfl hv h
theorem sX5_holds_61 {a0 a1 a2 a3 a4 a5 : Value} (h : am_R E d mX5_holds k n 62 [a0, a1, a2, a3, a4, a5] (.int (-1) :: st) S iv Q) : am_R E d mX5_holds k n 61 [a0, a1, a2, a3, a4, a5] st S iv Q := am_iconst dX5_holds_61 (by decide) h
theorem sX5_holds_62 {a0 a1 a2 a3 a4 : Value} {x : Int32} (h : am_R E d mX5_holds k n 64 [a0, a1, a2, a3, a4, .int x] (.int x :: st) S iv Q) : am_R E d mX5_holds k n 62 [a0, a1, a2, a3, a4, .int x] st S iv Q := am_iload dX5_holds_62 rfl h
theorem sX5_holds_64 {ls : List Value} {x y : Int32} (h : am_R E d mX5_holds k n 65 ls (.int (x - y) :: st) S iv Q) : am_R E d mX5_holds k n 64 ls (.int y :: .int x :: st) S iv Q := am_isub dX5_holds_64 h
theorem sX5_holds_65 {ls : List Value} {a m : Nat} {i : Int32} (ha : S.1 a = some (.inr (.int, m))) (hi : vp_in i m) (h : am_R E d mX5_holds k n 66 ls (.int (iv a i.toNatClampNeg) :: st) S iv Q) : am_R E d mX5_holds k n 65 ls (.int i :: .ref a :: st) S iv Q := am_iaload dX5_holds_65 ha hi h
theorem sX5_holds_66 {ls : List Value} {a m : Nat} {i x : Int32} (ha : S.1 a = some (.inr (.int, m))) (hi : vp_in i m) (h : am_R E d mX5_holds k n 67 ls st S (am_w iv a i.toNatClampNeg x) Q) : am_R E d mX5_holds k n 66 ls (.int x :: .int i :: .ref a :: st) S iv Q := am_iastore dX5_holds_66 ha hi h
theorem sX5_holds_67 {a0 a1 a2 a4 a5 : Value} {x : Int32} (h : am_R E d mX5_holds k n 70 [a0, a1, a2, .int (x + 1), a4, a5] st S iv Q) : am_R E d mX5_holds k n 67 [a0, a1, a2, .int x, a4, a5] st S iv Q := am_iinc dX5_holds_67 rfl rfl (by decide) h
theorem sX5_holds_70 {ls : List Value} (h : am_R E d mX5_holds k n 146 ls st S iv Q) : am_R E d mX5_holds k n 70 ls st S iv Q := am_goto dX5_holds_70 (by decide) h
theorem sX5_holds_73 {a0 a1 a2 a3 a4 : Value} {x : Int32} (h : am_R E d mX5_holds k n 75 [a0, a1, a2, a3, a4, .int x] (.int x :: st) S iv Q) : am_R E d mX5_holds k n 73 [a0, a1, a2, a3, a4, .int x] st S iv Q := am_iload dX5_holds_73 rfl h
theorem sX5_holds_75 {a0 a1 a2 a3 a4 a5 : Value} (h : am_R E d mX5_holds k n 77 [a0, a1, a2, a3, a4, a5] (.int (-18) :: st) S iv Q) : am_R E d mX5_holds k n 75 [a0, a1, a2, a3, a4, a5] st S iv Q := am_bipush dX5_holds_75 (by decide) h
theorem sX5_holds_77 {ls : List Value} {x y : Int32} (kt : ¬ x = y → am_R E d mX5_holds k n 111 ls st S iv Q) (kf : x = y → am_R E d mX5_holds k n 80 ls st S iv Q) : am_R E d mX5_holds k n 77 ls (.int y :: .int x :: st) S iv Q := am_icmp_ne dX5_holds_77 (by decide) kt kf
theorem sX5_holds_80 {a0 a1 a2 a4 a5 : Value} {x : Int32} (h : am_R E d mX5_holds k n 81 [a0, a1, a2, .int x, a4, a5] (.int x :: st) S iv Q) : am_R E d mX5_holds k n 80 [a0, a1, a2, .int x, a4, a5] st S iv Q := am_iload_n dX5_holds_80 rfl rfl h
theorem sX5_holds_81 {ls : List Value} {x : Int32} (kt : x ≤ 0 → am_R E d mX5_holds k n 111 ls st S iv Q) (kf : ¬ x ≤ 0 → am_R E d mX5_holds k n 84 ls st S iv Q) : am_R E d mX5_holds k n 81 ls (.int x :: st) S iv Q := am_if_le dX5_holds_81 (by decide) kt kf
theorem sX5_holds_84 {a0 a1 a2 a3 a4 a5 : Value} (hv : am_rf a0 = true) (h : am_R E d mX5_holds k n 85 [a0, a1, a2, a3, a4, a5] (a0 :: st) S iv Q) : am_R E d mX5_holds k n 84 [a0, a1, a2, a3, a4, a5] st S iv Q := am_aload_n dX5_holds_84 rfl rfl hv h
theorem sX5_holds_85 {ls : List Value} {a b : Nat} (ha : S.1 a = some (.inl 5)) (hb : S.2.1 a 4 = some b) (h : am_R E d mX5_holds k n 88 ls (.ref b :: st) S iv Q) : am_R E d mX5_holds k n 85 ls (.ref a :: st) S iv Q := am_getR (ci := 5) dX5_holds_85 rfl rfl (by decide) wq_107 uq_5 rfl ha hb h
theorem sX5_holds_88 {a0 a1 a2 a4 a5 : Value} {x : Int32} (h : am_R E d mX5_holds k n 89 [a0, a1, a2, .int x, a4, a5] (.int x :: st) S iv Q) : am_R E d mX5_holds k n 88 [a0, a1, a2, .int x, a4, a5] st S iv Q := am_iload_n dX5_holds_88 rfl rfl h
theorem sX5_holds_89 {a0 a1 a2 a3 a4 a5 : Value} (h : am_R E d mX5_holds k n 90 [a0, a1, a2, a3, a4, a5] (.int 1 :: st) S iv Q) : am_R E d mX5_holds k n 89 [a0, a1, a2, a3, a4, a5] st S iv Q := am_iconst dX5_holds_89 (by decide) h
theorem sX5_holds_90 {ls : List Value} {x y : Int32} (h : am_R E d mX5_holds k n 91 ls (.int (x - y) :: st) S iv Q) : am_R E d mX5_holds k n 90 ls (.int y :: .int x :: st) S iv Q := am_isub dX5_holds_90 h
theorem sX5_holds_91 {a0 a1 a2 a3 a4 a5 : Value} (hv : am_rf a0 = true) (h : am_R E d mX5_holds k n 92 [a0, a1, a2, a3, a4, a5] (a0 :: st) S iv Q) : am_R E d mX5_holds k n 91 [a0, a1, a2, a3, a4, a5] st S iv Q := am_aload_n dX5_holds_91 rfl rfl hv h
theorem sX5_holds_92 {ls : List Value} {a b : Nat} (ha : S.1 a = some (.inl 5)) (hb : S.2.1 a 4 = some b) (h : am_R E d mX5_holds k n 95 ls (.ref b :: st) S iv Q) : am_R E d mX5_holds k n 92 ls (.ref a :: st) S iv Q := am_getR (ci := 5) dX5_holds_92 rfl rfl (by decide) wq_107 uq_5 rfl ha hb h
theorem sX5_holds_95 {a0 a1 a2 a4 a5 : Value} {x : Int32} (h : am_R E d mX5_holds k n 96 [a0, a1, a2, .int x, a4, a5] (.int x :: st) S iv Q) : am_R E d mX5_holds k n 95 [a0, a1, a2, .int x, a4, a5] st S iv Q := am_iload_n dX5_holds_95 rfl rfl h
theorem sX5_holds_96 {a0 a1 a2 a3 a4 a5 : Value} (h : am_R E d mX5_holds k n 97 [a0, a1, a2, a3, a4, a5] (.int 1 :: st) S iv Q) : am_R E d mX5_holds k n 96 [a0, a1, a2, a3, a4, a5] st S iv Q := am_iconst dX5_holds_96 (by decide) h
theorem sX5_holds_97 {ls : List Value} {x y : Int32} (h : am_R E d mX5_holds k n 98 ls (.int (x - y) :: st) S iv Q) : am_R E d mX5_holds k n 97 ls (.int y :: .int x :: st) S iv Q := am_isub dX5_holds_97 h
theorem sX5_holds_98 {ls : List Value} {a m : Nat} {i : Int32} (ha : S.1 a = some (.inr (.int, m))) (hi : vp_in i m) (h : am_R E d mX5_holds k n 99 ls (.int (iv a i.toNatClampNeg) :: st) S iv Q) : am_R E d mX5_holds k n 98 ls (.int i :: .ref a :: st) S iv Q := am_iaload dX5_holds_98 ha hi h
theorem sX5_holds_99 {ls : List Value} {x : Int32} (kt : ¬ x = 0 → am_R E d mX5_holds k n 106 ls st S iv Q) (kf : x = 0 → am_R E d mX5_holds k n 102 ls st S iv Q) : am_R E d mX5_holds k n 99 ls (.int x :: st) S iv Q := am_if_ne dX5_holds_99 (by decide) kt kf
theorem sX5_holds_102 {a0 a1 a2 a3 a4 a5 : Value} (h : am_R E d mX5_holds k n 103 [a0, a1, a2, a3, a4, a5] (.int 1 :: st) S iv Q) : am_R E d mX5_holds k n 102 [a0, a1, a2, a3, a4, a5] st S iv Q := am_iconst dX5_holds_102 (by decide) h
theorem sX5_holds_103 {ls : List Value} (h : am_R E d mX5_holds k n 107 ls st S iv Q) : am_R E d mX5_holds k n 103 ls st S iv Q := am_goto dX5_holds_103 (by decide) h
theorem sX5_holds_106 {a0 a1 a2 a3 a4 a5 : Value} (h : am_R E d mX5_holds k n 107 [a0, a1, a2, a3, a4, a5] (.int 0 :: st) S iv Q) : am_R E d mX5_holds k n 106 [a0, a1, a2, a3, a4, a5] st S iv Q := am_iconst dX5_holds_106 (by decide) h
theorem sX5_holds_107 {ls : List Value} {a m : Nat} {i x : Int32} (ha : S.1 a = some (.inr (.int, m))) (hi : vp_in i m) (h : am_R E d mX5_holds k n 108 ls st S (am_w iv a i.toNatClampNeg x) Q) : am_R E d mX5_holds k n 107 ls (.int x :: .int i :: .ref a :: st) S iv Q := am_iastore dX5_holds_107 ha hi h
theorem sX5_holds_108 {ls : List Value} (h : am_R E d mX5_holds k n 146 ls st S iv Q) : am_R E d mX5_holds k n 108 ls st S iv Q := am_goto dX5_holds_108 (by decide) h
theorem sX5_holds_111 {a0 a1 a2 a4 a5 : Value} {x : Int32} (h : am_R E d mX5_holds k n 112 [a0, a1, a2, .int x, a4, a5] (.int x :: st) S iv Q) : am_R E d mX5_holds k n 111 [a0, a1, a2, .int x, a4, a5] st S iv Q := am_iload_n dX5_holds_111 rfl rfl h
theorem sX5_holds_112 {a0 a1 a2 a3 a4 a5 : Value} (h : am_R E d mX5_holds k n 113 [a0, a1, a2, a3, a4, a5] (.int 1 :: st) S iv Q) : am_R E d mX5_holds k n 112 [a0, a1, a2, a3, a4, a5] st S iv Q := am_iconst dX5_holds_112 (by decide) h
theorem sX5_holds_113 {ls : List Value} {x y : Int32} (kt : x ≤ y → am_R E d mX5_holds k n 146 ls st S iv Q) (kf : ¬ x ≤ y → am_R E d mX5_holds k n 116 ls st S iv Q) : am_R E d mX5_holds k n 113 ls (.int y :: .int x :: st) S iv Q := am_icmp_le dX5_holds_113 (by decide) kt kf
theorem sX5_holds_116 {a0 a1 a2 a4 a5 : Value} {x : Int32} (h : am_R E d mX5_holds k n 119 [a0, a1, a2, .int (x + (-1)), a4, a5] st S iv Q) : am_R E d mX5_holds k n 116 [a0, a1, a2, .int x, a4, a5] st S iv Q := am_iinc dX5_holds_116 rfl rfl (by decide) h
theorem sX5_holds_119 {a0 a1 a2 a3 a4 a5 : Value} (hv : am_rf a0 = true) (h : am_R E d mX5_holds k n 120 [a0, a1, a2, a3, a4, a5] (a0 :: st) S iv Q) : am_R E d mX5_holds k n 119 [a0, a1, a2, a3, a4, a5] st S iv Q := am_aload_n dX5_holds_119 rfl rfl hv h
theorem sX5_holds_120 {ls : List Value} {a b : Nat} (ha : S.1 a = some (.inl 5)) (hb : S.2.1 a 4 = some b) (h : am_R E d mX5_holds k n 123 ls (.ref b :: st) S iv Q) : am_R E d mX5_holds k n 120 ls (.ref a :: st) S iv Q := am_getR (ci := 5) dX5_holds_120 rfl rfl (by decide) wq_107 uq_5 rfl ha hb h
theorem sX5_holds_123 {a0 a1 a2 a4 a5 : Value} {x : Int32} (h : am_R E d mX5_holds k n 124 [a0, a1, a2, .int x, a4, a5] (.int x :: st) S iv Q) : am_R E d mX5_holds k n 123 [a0, a1, a2, .int x, a4, a5] st S iv Q := am_iload_n dX5_holds_123 rfl rfl h
theorem sX5_holds_124 {a0 a1 a2 a3 a4 a5 : Value} (h : am_R E d mX5_holds k n 125 [a0, a1, a2, a3, a4, a5] (.int 1 :: st) S iv Q) : am_R E d mX5_holds k n 124 [a0, a1, a2, a3, a4, a5] st S iv Q := am_iconst dX5_holds_124 (by decide) h
theorem sX5_holds_125 {ls : List Value} {x y : Int32} (h : am_R E d mX5_holds k n 126 ls (.int (x - y) :: st) S iv Q) : am_R E d mX5_holds k n 125 ls (.int y :: .int x :: st) S iv Q := am_isub dX5_holds_125 h
theorem sX5_holds_126 {a0 a1 a2 a3 a4 : Value} {x : Int32} (h : am_R E d mX5_holds k n 128 [a0, a1, a2, a3, a4, .int x] (.int x :: st) S iv Q) : am_R E d mX5_holds k n 126 [a0, a1, a2, a3, a4, .int x] st S iv Q := am_iload dX5_holds_126 rfl h
theorem sX5_holds_128 {a0 a1 a2 a3 a4 a5 : Value} (hv : am_rf a0 = true) (h : am_R E d mX5_holds k n 129 [a0, a1, a2, a3, a4, a5] (a0 :: st) S iv Q) : am_R E d mX5_holds k n 128 [a0, a1, a2, a3, a4, a5] st S iv Q := am_aload_n dX5_holds_128 rfl rfl hv h
theorem sX5_holds_129 {ls : List Value} {a b : Nat} (ha : S.1 a = some (.inl 5)) (hb : S.2.1 a 4 = some b) (h : am_R E d mX5_holds k n 132 ls (.ref b :: st) S iv Q) : am_R E d mX5_holds k n 129 ls (.ref a :: st) S iv Q := am_getR (ci := 5) dX5_holds_129 rfl rfl (by decide) wq_107 uq_5 rfl ha hb h
theorem sX5_holds_132 {a0 a1 a2 a4 a5 : Value} {x : Int32} (h : am_R E d mX5_holds k n 133 [a0, a1, a2, .int x, a4, a5] (.int x :: st) S iv Q) : am_R E d mX5_holds k n 132 [a0, a1, a2, .int x, a4, a5] st S iv Q := am_iload_n dX5_holds_132 rfl rfl h
theorem sX5_holds_133 {a0 a1 a2 a3 a4 a5 : Value} (h : am_R E d mX5_holds k n 134 [a0, a1, a2, a3, a4, a5] (.int 1 :: st) S iv Q) : am_R E d mX5_holds k n 133 [a0, a1, a2, a3, a4, a5] st S iv Q := am_iconst dX5_holds_133 (by decide) h
theorem sX5_holds_134 {ls : List Value} {x y : Int32} (h : am_R E d mX5_holds k n 135 ls (.int (x - y) :: st) S iv Q) : am_R E d mX5_holds k n 134 ls (.int y :: .int x :: st) S iv Q := am_isub dX5_holds_134 h
theorem sX5_holds_135 {ls : List Value} {a m : Nat} {i : Int32} (ha : S.1 a = some (.inr (.int, m))) (hi : vp_in i m) (h : am_R E d mX5_holds k n 136 ls (.int (iv a i.toNatClampNeg) :: st) S iv Q) : am_R E d mX5_holds k n 135 ls (.int i :: .ref a :: st) S iv Q := am_iaload dX5_holds_135 ha hi h
theorem sX5_holds_136 {a0 a1 a2 a3 a4 a5 : Value} (hv : am_rf a0 = true) (h : am_R E d mX5_holds k n 137 [a0, a1, a2, a3, a4, a5] (a0 :: st) S iv Q) : am_R E d mX5_holds k n 136 [a0, a1, a2, a3, a4, a5] st S iv Q := am_aload_n dX5_holds_136 rfl rfl hv h
theorem sX5_holds_137 {ls : List Value} {a b : Nat} (ha : S.1 a = some (.inl 5)) (hb : S.2.1 a 4 = some b) (h : am_R E d mX5_holds k n 140 ls (.ref b :: st) S iv Q) : am_R E d mX5_holds k n 137 ls (.ref a :: st) S iv Q := am_getR (ci := 5) dX5_holds_137 rfl rfl (by decide) wq_107 uq_5 rfl ha hb h
theorem sX5_holds_140 {a0 a1 a2 a4 a5 : Value} {x : Int32} (h : am_R E d mX5_holds k n 141 [a0, a1, a2, .int x, a4, a5] (.int x :: st) S iv Q) : am_R E d mX5_holds k n 140 [a0, a1, a2, .int x, a4, a5] st S iv Q := am_iload_n dX5_holds_140 rfl rfl h
theorem sX5_holds_141 {ls : List Value} {a m : Nat} {i : Int32} (ha : S.1 a = some (.inr (.int, m))) (hi : vp_in i m) (h : am_R E d mX5_holds k n 142 ls (.int (iv a i.toNatClampNeg) :: st) S iv Q) : am_R E d mX5_holds k n 141 ls (.int i :: .ref a :: st) S iv Q := am_iaload dX5_holds_141 ha hi h
theorem sX5_holds_142 {ls : List Value} {x1 x2 x3 : Value} (hst : (st.map fun v => v.category).sum ≤ 8) (hM : am_M E d mX5_join 0 0 [x1, x2, x3] S iv (am_K3 E (d + 1) mX5_holds k n 142 ls st Q)) : am_R E (d + 1) mX5_holds k n 142 ls (x3 :: x2 :: x1 :: st) S iv Q := am_cS (M' := mX5_join) (as := [x1, x2, x3]) dX5_holds_142 rfl wq_114 wq_115 wq_112 wq_111 hy_X5_join (by decide) hst (by omega) (by omega) hM
theorem sX5_holds_142_k {ls : List Value} {x1 x2 x3 : Value} {k' n' : Nat} (hst : (st.map fun v => v.category).sum ≤ 8) (hM : am_M E d mX5_join k' n' [x1, x2, x3] S iv (am_K3 E (d + 1) mX5_holds k n 142 ls st Q)) : am_R E (d + 1) mX5_holds (k' + k) (n' + n) 142 ls (x3 :: x2 :: x1 :: st) S iv Q := am_cS (M' := mX5_join) (as := [x1, x2, x3]) dX5_holds_142 rfl wq_114 wq_115 wq_112 wq_111 hy_X5_join (by decide) hst (by omega) (by omega) hM
theorem sX5_holds_145 {ls : List Value} {a m : Nat} {i x : Int32} (ha : S.1 a = some (.inr (.int, m))) (hi : vp_in i m) (h : am_R E d mX5_holds k n 146 ls st S (am_w iv a i.toNatClampNeg x) Q) : am_R E d mX5_holds k n 145 ls (.int x :: .int i :: .ref a :: st) S iv Q := am_iastore dX5_holds_145 ha hi h
theorem sX5_holds_146 {a0 a1 a2 a3 a5 : Value} {x : Int32} (h : am_R E d mX5_holds k n 149 [a0, a1, a2, a3, .int (x + 1), a5] st S iv Q) : am_R E d mX5_holds k n 146 [a0, a1, a2, a3, .int x, a5] st S iv Q := am_iinc dX5_holds_146 rfl rfl (by decide) h
theorem sX5_holds_149 {ls : List Value} (h : am_R E d mX5_holds k n 10 ls st S iv Q) : am_R E d mX5_holds k n 149 ls st S iv Q := am_goto dX5_holds_149 (by decide) h
theorem sX5_holds_152 {a0 a1 a2 a3 a4 a5 : Value} (hv : am_rf a0 = true) (h : am_R E d mX5_holds k n 153 [a0, a1, a2, a3, a4, a5] (a0 :: st) S iv Q) : am_R E d mX5_holds k n 152 [a0, a1, a2, a3, a4, a5] st S iv Q := am_aload_n dX5_holds_152 rfl rfl hv h
theorem sX5_holds_153 {ls : List Value} {a b : Nat} (ha : S.1 a = some (.inl 5)) (hb : S.2.1 a 4 = some b) (h : am_R E d mX5_holds k n 156 ls (.ref b :: st) S iv Q) : am_R E d mX5_holds k n 153 ls (.ref a :: st) S iv Q := am_getR (ci := 5) dX5_holds_153 rfl rfl (by decide) wq_107 uq_5 rfl ha hb h
theorem sX5_holds_156 {a0 a1 a2 a3 a4 a5 : Value} (h : am_R E d mX5_holds k n 157 [a0, a1, a2, a3, a4, a5] (.int 0 :: st) S iv Q) : am_R E d mX5_holds k n 156 [a0, a1, a2, a3, a4, a5] st S iv Q := am_iconst dX5_holds_156 (by decide) h
theorem sX5_holds_157 {ls : List Value} {a m : Nat} {i : Int32} (ha : S.1 a = some (.inr (.int, m))) (hi : vp_in i m) (h : am_R E d mX5_holds k n 158 ls (.int (iv a i.toNatClampNeg) :: st) S iv Q) : am_R E d mX5_holds k n 157 ls (.int i :: .ref a :: st) S iv Q := am_iaload dX5_holds_157 ha hi h
theorem sX5_holds_158 {ls : List Value} {x : Int32} (kt : x = 0 → am_R E d mX5_holds k n 165 ls st S iv Q) (kf : ¬ x = 0 → am_R E d mX5_holds k n 161 ls st S iv Q) : am_R E d mX5_holds k n 158 ls (.int x :: st) S iv Q := am_if_eq dX5_holds_158 (by decide) kt kf
theorem sX5_holds_161 {a0 a1 a2 a3 a4 a5 : Value} (h : am_R E d mX5_holds k n 162 [a0, a1, a2, a3, a4, a5] (.int 1 :: st) S iv Q) : am_R E d mX5_holds k n 161 [a0, a1, a2, a3, a4, a5] st S iv Q := am_iconst dX5_holds_161 (by decide) h
theorem sX5_holds_162 {ls : List Value} (h : am_R E d mX5_holds k n 166 ls st S iv Q) : am_R E d mX5_holds k n 162 ls st S iv Q := am_goto dX5_holds_162 (by decide) h
theorem sX5_holds_165 {a0 a1 a2 a3 a4 a5 : Value} (h : am_R E d mX5_holds k n 166 [a0, a1, a2, a3, a4, a5] (.int 0 :: st) S iv Q) : am_R E d mX5_holds k n 165 [a0, a1, a2, a3, a4, a5] st S iv Q := am_iconst dX5_holds_165 (by decide) h
theorem sX5_holds_166 {ls : List Value} {x : Int32} (hn : narrow .boolean (.int x) = .int x) (h : Q (.inl (some (.int x))) S iv) : am_R E d mX5_holds k n 166 ls [.int x] S iv Q := am_zreturn dX5_holds_166 rfl hn h
theorem dX5_join_0 : decode cX5_join 0 = .ok (.iload_n 0, 1) := by decide +kernel
theorem dX5_join_1 : decode cX5_join 1 = .ok (.tableswitch 121 (-17) (-10) #[107, 93, 82, 71, 59, 55, 51, 47], 47) := by decide +kernel
theorem dX5_join_48 : decode cX5_join 48 = .ok (.iload_n 1, 1) := by decide +kernel
theorem dX5_join_49 : decode cX5_join 49 = .ok (.iload_n 2, 1) := by decide +kernel
theorem dX5_join_50 : decode cX5_join 50 = .ok (.iadd, 1) := by decide +kernel
theorem dX5_join_51 : decode cX5_join 51 = .ok (.ireturn, 1) := by decide +kernel
theorem dX5_join_52 : decode cX5_join 52 = .ok (.iload_n 1, 1) := by decide +kernel
theorem dX5_join_53 : decode cX5_join 53 = .ok (.iload_n 2, 1) := by decide +kernel
theorem dX5_join_54 : decode cX5_join 54 = .ok (.isub, 1) := by decide +kernel
theorem dX5_join_55 : decode cX5_join 55 = .ok (.ireturn, 1) := by decide +kernel
theorem dX5_join_56 : decode cX5_join 56 = .ok (.iload_n 1, 1) := by decide +kernel
theorem dX5_join_57 : decode cX5_join 57 = .ok (.iload_n 2, 1) := by decide +kernel
theorem dX5_join_58 : decode cX5_join 58 = .ok (.imul, 1) := by decide +kernel
theorem dX5_join_59 : decode cX5_join 59 = .ok (.ireturn, 1) := by decide +kernel
theorem dX5_join_60 : decode cX5_join 60 = .ok (.iload_n 2, 1) := by decide +kernel
theorem dX5_join_61 : decode cX5_join 61 = .ok (.ifCond .ne 7, 3) := by decide +kernel
theorem dX5_join_64 : decode cX5_join 64 = .ok (.iconst 0, 1) := by decide +kernel
theorem dX5_join_65 : decode cX5_join 65 = .ok (.goto 6, 3) := by decide +kernel
theorem dX5_join_68 : decode cX5_join 68 = .ok (.iload_n 1, 1) := by decide +kernel
theorem dX5_join_69 : decode cX5_join 69 = .ok (.iload_n 2, 1) := by decide +kernel
theorem dX5_join_70 : decode cX5_join 70 = .ok (.idiv, 1) := by decide +kernel
theorem dX5_join_71 : decode cX5_join 71 = .ok (.ireturn, 1) := by decide +kernel
theorem dX5_join_72 : decode cX5_join 72 = .ok (.iload_n 1, 1) := by decide +kernel
theorem dX5_join_73 : decode cX5_join 73 = .ok (.iload_n 2, 1) := by decide +kernel
theorem dX5_join_74 : decode cX5_join 74 = .ok (.if_icmp .ge 7, 3) := by decide +kernel
theorem dX5_join_77 : decode cX5_join 77 = .ok (.iconst 1, 1) := by decide +kernel
theorem dX5_join_78 : decode cX5_join 78 = .ok (.goto 4, 3) := by decide +kernel
theorem dX5_join_81 : decode cX5_join 81 = .ok (.iconst 0, 1) := by decide +kernel
theorem dX5_join_82 : decode cX5_join 82 = .ok (.ireturn, 1) := by decide +kernel
theorem dX5_join_83 : decode cX5_join 83 = .ok (.iload_n 1, 1) := by decide +kernel
theorem dX5_join_84 : decode cX5_join 84 = .ok (.iload_n 2, 1) := by decide +kernel
theorem dX5_join_85 : decode cX5_join 85 = .ok (.if_icmp .ne 7, 3) := by decide +kernel
theorem dX5_join_88 : decode cX5_join 88 = .ok (.iconst 1, 1) := by decide +kernel
theorem dX5_join_89 : decode cX5_join 89 = .ok (.goto 4, 3) := by decide +kernel
theorem dX5_join_92 : decode cX5_join 92 = .ok (.iconst 0, 1) := by decide +kernel
theorem dX5_join_93 : decode cX5_join 93 = .ok (.ireturn, 1) := by decide +kernel
theorem dX5_join_94 : decode cX5_join 94 = .ok (.iload_n 1, 1) := by decide +kernel
theorem dX5_join_95 : decode cX5_join 95 = .ok (.ifCond .eq 11, 3) := by decide +kernel
theorem dX5_join_98 : decode cX5_join 98 = .ok (.iload_n 2, 1) := by decide +kernel
theorem dX5_join_99 : decode cX5_join 99 = .ok (.ifCond .eq 7, 3) := by decide +kernel
theorem dX5_join_102 : decode cX5_join 102 = .ok (.iconst 1, 1) := by decide +kernel
theorem dX5_join_103 : decode cX5_join 103 = .ok (.goto 4, 3) := by decide +kernel
theorem dX5_join_106 : decode cX5_join 106 = .ok (.iconst 0, 1) := by decide +kernel
theorem dX5_join_107 : decode cX5_join 107 = .ok (.ireturn, 1) := by decide +kernel
theorem dX5_join_108 : decode cX5_join 108 = .ok (.iload_n 1, 1) := by decide +kernel
theorem dX5_join_109 : decode cX5_join 109 = .ok (.ifCond .ne 7, 3) := by decide +kernel
theorem dX5_join_112 : decode cX5_join 112 = .ok (.iload_n 2, 1) := by decide +kernel
theorem dX5_join_113 : decode cX5_join 113 = .ok (.ifCond .eq 7, 3) := by decide +kernel
theorem dX5_join_116 : decode cX5_join 116 = .ok (.iconst 1, 1) := by decide +kernel
theorem dX5_join_117 : decode cX5_join 117 = .ok (.goto 4, 3) := by decide +kernel
theorem dX5_join_120 : decode cX5_join 120 = .ok (.iconst 0, 1) := by decide +kernel
theorem dX5_join_121 : decode cX5_join 121 = .ok (.ireturn, 1) := by decide +kernel
theorem dX5_join_122 : decode cX5_join 122 = .ok (.iconst 0, 1) := by decide +kernel
theorem dX5_join_123 : decode cX5_join 123 = .ok (.ireturn, 1) := by decide +kernel
theorem sX5_join_0 {a1 a2 : Value} {x : Int32} (h : am_R E d mX5_join k n 1 [.int x, a1, a2] (.int x :: st) S iv Q) : am_R E d mX5_join k n 0 [.int x, a1, a2] st S iv Q := am_iload_n dX5_join_0 rfl rfl h
theorem sX5_join_1_m17 {ls : List Value} (h : am_R E d mX5_join k n 108 ls st S iv Q) : am_R E d mX5_join k n 1 ls (.int (-17) :: st) S iv Q := am_tableIn (off := 107) dX5_join_1 (by decide) (by decide) (by decide) (by decide) h
theorem sX5_join_1_m16 {ls : List Value} (h : am_R E d mX5_join k n 94 ls st S iv Q) : am_R E d mX5_join k n 1 ls (.int (-16) :: st) S iv Q := am_tableIn (off := 93) dX5_join_1 (by decide) (by decide) (by decide) (by decide) h
theorem sX5_join_1_m15 {ls : List Value} (h : am_R E d mX5_join k n 83 ls st S iv Q) : am_R E d mX5_join k n 1 ls (.int (-15) :: st) S iv Q := am_tableIn (off := 82) dX5_join_1 (by decide) (by decide) (by decide) (by decide) h
theorem sX5_join_1_m14 {ls : List Value} (h : am_R E d mX5_join k n 72 ls st S iv Q) : am_R E d mX5_join k n 1 ls (.int (-14) :: st) S iv Q := am_tableIn (off := 71) dX5_join_1 (by decide) (by decide) (by decide) (by decide) h
theorem sX5_join_1_m13 {ls : List Value} (h : am_R E d mX5_join k n 60 ls st S iv Q) : am_R E d mX5_join k n 1 ls (.int (-13) :: st) S iv Q := am_tableIn (off := 59) dX5_join_1 (by decide) (by decide) (by decide) (by decide) h
theorem sX5_join_1_m12 {ls : List Value} (h : am_R E d mX5_join k n 56 ls st S iv Q) : am_R E d mX5_join k n 1 ls (.int (-12) :: st) S iv Q := am_tableIn (off := 55) dX5_join_1 (by decide) (by decide) (by decide) (by decide) h
theorem sX5_join_1_m11 {ls : List Value} (h : am_R E d mX5_join k n 52 ls st S iv Q) : am_R E d mX5_join k n 1 ls (.int (-11) :: st) S iv Q := am_tableIn (off := 51) dX5_join_1 (by decide) (by decide) (by decide) (by decide) h
theorem sX5_join_1_m10 {ls : List Value} (h : am_R E d mX5_join k n 48 ls st S iv Q) : am_R E d mX5_join k n 1 ls (.int (-10) :: st) S iv Q := am_tableIn (off := 47) dX5_join_1 (by decide) (by decide) (by decide) (by decide) h
theorem sX5_join_1_d {ls : List Value} {x : Int32} (hx : x.toInt < -17 ∨ -10 < x.toInt) (h : am_R E d mX5_join k n 122 ls st S iv Q) : am_R E d mX5_join k n 1 ls (.int x :: st) S iv Q := am_tableOut dX5_join_1 hx (by decide) h
theorem sX5_join_48 {a0 a2 : Value} {x : Int32} (h : am_R E d mX5_join k n 49 [a0, .int x, a2] (.int x :: st) S iv Q) : am_R E d mX5_join k n 48 [a0, .int x, a2] st S iv Q := am_iload_n dX5_join_48 rfl rfl h
theorem sX5_join_49 {a0 a1 : Value} {x : Int32} (h : am_R E d mX5_join k n 50 [a0, a1, .int x] (.int x :: st) S iv Q) : am_R E d mX5_join k n 49 [a0, a1, .int x] st S iv Q := am_iload_n dX5_join_49 rfl rfl h
theorem sX5_join_50 {ls : List Value} {x y : Int32} (h : am_R E d mX5_join k n 51 ls (.int (x + y) :: st) S iv Q) : am_R E d mX5_join k n 50 ls (.int y :: .int x :: st) S iv Q := am_iadd dX5_join_50 h
theorem sX5_join_51 {ls : List Value} {x : Int32} (h : Q (.inl (some (.int x))) S iv) : am_R E d mX5_join k n 51 ls [.int x] S iv Q := am_ireturn dX5_join_51 rfl h
theorem sX5_join_52 {a0 a2 : Value} {x : Int32} (h : am_R E d mX5_join k n 53 [a0, .int x, a2] (.int x :: st) S iv Q) : am_R E d mX5_join k n 52 [a0, .int x, a2] st S iv Q := am_iload_n dX5_join_52 rfl rfl h
theorem sX5_join_53 {a0 a1 : Value} {x : Int32} (h : am_R E d mX5_join k n 54 [a0, a1, .int x] (.int x :: st) S iv Q) : am_R E d mX5_join k n 53 [a0, a1, .int x] st S iv Q := am_iload_n dX5_join_53 rfl rfl h
theorem sX5_join_54 {ls : List Value} {x y : Int32} (h : am_R E d mX5_join k n 55 ls (.int (x - y) :: st) S iv Q) : am_R E d mX5_join k n 54 ls (.int y :: .int x :: st) S iv Q := am_isub dX5_join_54 h
theorem sX5_join_55 {ls : List Value} {x : Int32} (h : Q (.inl (some (.int x))) S iv) : am_R E d mX5_join k n 55 ls [.int x] S iv Q := am_ireturn dX5_join_55 rfl h
theorem sX5_join_56 {a0 a2 : Value} {x : Int32} (h : am_R E d mX5_join k n 57 [a0, .int x, a2] (.int x :: st) S iv Q) : am_R E d mX5_join k n 56 [a0, .int x, a2] st S iv Q := am_iload_n dX5_join_56 rfl rfl h
theorem sX5_join_57 {a0 a1 : Value} {x : Int32} (h : am_R E d mX5_join k n 58 [a0, a1, .int x] (.int x :: st) S iv Q) : am_R E d mX5_join k n 57 [a0, a1, .int x] st S iv Q := am_iload_n dX5_join_57 rfl rfl h
theorem sX5_join_58 {ls : List Value} {x y : Int32} (h : am_R E d mX5_join k n 59 ls (.int (x * y) :: st) S iv Q) : am_R E d mX5_join k n 58 ls (.int y :: .int x :: st) S iv Q := am_imul dX5_join_58 h
theorem sX5_join_59 {ls : List Value} {x : Int32} (h : Q (.inl (some (.int x))) S iv) : am_R E d mX5_join k n 59 ls [.int x] S iv Q := am_ireturn dX5_join_59 rfl h
theorem sX5_join_60 {a0 a1 : Value} {x : Int32} (h : am_R E d mX5_join k n 61 [a0, a1, .int x] (.int x :: st) S iv Q) : am_R E d mX5_join k n 60 [a0, a1, .int x] st S iv Q := am_iload_n dX5_join_60 rfl rfl h
theorem sX5_join_61 {ls : List Value} {x : Int32} (kt : ¬ x = 0 → am_R E d mX5_join k n 68 ls st S iv Q) (kf : x = 0 → am_R E d mX5_join k n 64 ls st S iv Q) : am_R E d mX5_join k n 61 ls (.int x :: st) S iv Q := am_if_ne dX5_join_61 (by decide) kt kf
theorem sX5_join_64 {a0 a1 a2 : Value} (h : am_R E d mX5_join k n 65 [a0, a1, a2] (.int 0 :: st) S iv Q) : am_R E d mX5_join k n 64 [a0, a1, a2] st S iv Q := am_iconst dX5_join_64 (by decide) h
theorem sX5_join_65 {ls : List Value} (h : am_R E d mX5_join k n 71 ls st S iv Q) : am_R E d mX5_join k n 65 ls st S iv Q := am_goto dX5_join_65 (by decide) h
theorem sX5_join_68 {a0 a2 : Value} {x : Int32} (h : am_R E d mX5_join k n 69 [a0, .int x, a2] (.int x :: st) S iv Q) : am_R E d mX5_join k n 68 [a0, .int x, a2] st S iv Q := am_iload_n dX5_join_68 rfl rfl h
theorem sX5_join_69 {a0 a1 : Value} {x : Int32} (h : am_R E d mX5_join k n 70 [a0, a1, .int x] (.int x :: st) S iv Q) : am_R E d mX5_join k n 69 [a0, a1, .int x] st S iv Q := am_iload_n dX5_join_69 rfl rfl h
theorem sX5_join_70 {ls : List Value} {x y : Int32} (hy : ¬ y = 0) (h : am_R E d mX5_join k n 71 ls (.int (x / y) :: st) S iv Q) : am_R E d mX5_join k n 70 ls (.int y :: .int x :: st) S iv Q := am_idiv dX5_join_70 hy h
theorem sX5_join_71 {ls : List Value} {x : Int32} (h : Q (.inl (some (.int x))) S iv) : am_R E d mX5_join k n 71 ls [.int x] S iv Q := am_ireturn dX5_join_71 rfl h
theorem sX5_join_72 {a0 a2 : Value} {x : Int32} (h : am_R E d mX5_join k n 73 [a0, .int x, a2] (.int x :: st) S iv Q) : am_R E d mX5_join k n 72 [a0, .int x, a2] st S iv Q := am_iload_n dX5_join_72 rfl rfl h
theorem sX5_join_73 {a0 a1 : Value} {x : Int32} (h : am_R E d mX5_join k n 74 [a0, a1, .int x] (.int x :: st) S iv Q) : am_R E d mX5_join k n 73 [a0, a1, .int x] st S iv Q := am_iload_n dX5_join_73 rfl rfl h
theorem sX5_join_74 {ls : List Value} {x y : Int32} (kt : y ≤ x → am_R E d mX5_join k n 81 ls st S iv Q) (kf : ¬ y ≤ x → am_R E d mX5_join k n 77 ls st S iv Q) : am_R E d mX5_join k n 74 ls (.int y :: .int x :: st) S iv Q := am_icmp_ge dX5_join_74 (by decide) kt kf
theorem sX5_join_77 {a0 a1 a2 : Value} (h : am_R E d mX5_join k n 78 [a0, a1, a2] (.int 1 :: st) S iv Q) : am_R E d mX5_join k n 77 [a0, a1, a2] st S iv Q := am_iconst dX5_join_77 (by decide) h
theorem sX5_join_78 {ls : List Value} (h : am_R E d mX5_join k n 82 ls st S iv Q) : am_R E d mX5_join k n 78 ls st S iv Q := am_goto dX5_join_78 (by decide) h
theorem sX5_join_81 {a0 a1 a2 : Value} (h : am_R E d mX5_join k n 82 [a0, a1, a2] (.int 0 :: st) S iv Q) : am_R E d mX5_join k n 81 [a0, a1, a2] st S iv Q := am_iconst dX5_join_81 (by decide) h
theorem sX5_join_82 {ls : List Value} {x : Int32} (h : Q (.inl (some (.int x))) S iv) : am_R E d mX5_join k n 82 ls [.int x] S iv Q := am_ireturn dX5_join_82 rfl h
theorem sX5_join_83 {a0 a2 : Value} {x : Int32} (h : am_R E d mX5_join k n 84 [a0, .int x, a2] (.int x :: st) S iv Q) : am_R E d mX5_join k n 83 [a0, .int x, a2] st S iv Q := am_iload_n dX5_join_83 rfl rfl h
theorem sX5_join_84 {a0 a1 : Value} {x : Int32} (h : am_R E d mX5_join k n 85 [a0, a1, .int x] (.int x :: st) S iv Q) : am_R E d mX5_join k n 84 [a0, a1, .int x] st S iv Q := am_iload_n dX5_join_84 rfl rfl h
theorem sX5_join_85 {ls : List Value} {x y : Int32} (kt : ¬ x = y → am_R E d mX5_join k n 92 ls st S iv Q) (kf : x = y → am_R E d mX5_join k n 88 ls st S iv Q) : am_R E d mX5_join k n 85 ls (.int y :: .int x :: st) S iv Q := am_icmp_ne dX5_join_85 (by decide) kt kf
theorem sX5_join_88 {a0 a1 a2 : Value} (h : am_R E d mX5_join k n 89 [a0, a1, a2] (.int 1 :: st) S iv Q) : am_R E d mX5_join k n 88 [a0, a1, a2] st S iv Q := am_iconst dX5_join_88 (by decide) h
theorem sX5_join_89 {ls : List Value} (h : am_R E d mX5_join k n 93 ls st S iv Q) : am_R E d mX5_join k n 89 ls st S iv Q := am_goto dX5_join_89 (by decide) h
theorem sX5_join_92 {a0 a1 a2 : Value} (h : am_R E d mX5_join k n 93 [a0, a1, a2] (.int 0 :: st) S iv Q) : am_R E d mX5_join k n 92 [a0, a1, a2] st S iv Q := am_iconst dX5_join_92 (by decide) h
theorem sX5_join_93 {ls : List Value} {x : Int32} (h : Q (.inl (some (.int x))) S iv) : am_R E d mX5_join k n 93 ls [.int x] S iv Q := am_ireturn dX5_join_93 rfl h
theorem sX5_join_94 {a0 a2 : Value} {x : Int32} (h : am_R E d mX5_join k n 95 [a0, .int x, a2] (.int x :: st) S iv Q) : am_R E d mX5_join k n 94 [a0, .int x, a2] st S iv Q := am_iload_n dX5_join_94 rfl rfl h
theorem sX5_join_95 {ls : List Value} {x : Int32} (kt : x = 0 → am_R E d mX5_join k n 106 ls st S iv Q) (kf : ¬ x = 0 → am_R E d mX5_join k n 98 ls st S iv Q) : am_R E d mX5_join k n 95 ls (.int x :: st) S iv Q := am_if_eq dX5_join_95 (by decide) kt kf
theorem sX5_join_98 {a0 a1 : Value} {x : Int32} (h : am_R E d mX5_join k n 99 [a0, a1, .int x] (.int x :: st) S iv Q) : am_R E d mX5_join k n 98 [a0, a1, .int x] st S iv Q := am_iload_n dX5_join_98 rfl rfl h
theorem sX5_join_99 {ls : List Value} {x : Int32} (kt : x = 0 → am_R E d mX5_join k n 106 ls st S iv Q) (kf : ¬ x = 0 → am_R E d mX5_join k n 102 ls st S iv Q) : am_R E d mX5_join k n 99 ls (.int x :: st) S iv Q := am_if_eq dX5_join_99 (by decide) kt kf
theorem sX5_join_102 {a0 a1 a2 : Value} (h : am_R E d mX5_join k n 103 [a0, a1, a2] (.int 1 :: st) S iv Q) : am_R E d mX5_join k n 102 [a0, a1, a2] st S iv Q := am_iconst dX5_join_102 (by decide) h
theorem sX5_join_103 {ls : List Value} (h : am_R E d mX5_join k n 107 ls st S iv Q) : am_R E d mX5_join k n 103 ls st S iv Q := am_goto dX5_join_103 (by decide) h
theorem sX5_join_106 {a0 a1 a2 : Value} (h : am_R E d mX5_join k n 107 [a0, a1, a2] (.int 0 :: st) S iv Q) : am_R E d mX5_join k n 106 [a0, a1, a2] st S iv Q := am_iconst dX5_join_106 (by decide) h
theorem sX5_join_107 {ls : List Value} {x : Int32} (h : Q (.inl (some (.int x))) S iv) : am_R E d mX5_join k n 107 ls [.int x] S iv Q := am_ireturn dX5_join_107 rfl h
theorem sX5_join_108 {a0 a2 : Value} {x : Int32} (h : am_R E d mX5_join k n 109 [a0, .int x, a2] (.int x :: st) S iv Q) : am_R E d mX5_join k n 108 [a0, .int x, a2] st S iv Q := am_iload_n dX5_join_108 rfl rfl h
theorem sX5_join_109 {ls : List Value} {x : Int32} (kt : ¬ x = 0 → am_R E d mX5_join k n 116 ls st S iv Q) (kf : x = 0 → am_R E d mX5_join k n 112 ls st S iv Q) : am_R E d mX5_join k n 109 ls (.int x :: st) S iv Q := am_if_ne dX5_join_109 (by decide) kt kf
theorem sX5_join_112 {a0 a1 : Value} {x : Int32} (h : am_R E d mX5_join k n 113 [a0, a1, .int x] (.int x :: st) S iv Q) : am_R E d mX5_join k n 112 [a0, a1, .int x] st S iv Q := am_iload_n dX5_join_112 rfl rfl h
theorem sX5_join_113 {ls : List Value} {x : Int32} (kt : x = 0 → am_R E d mX5_join k n 120 ls st S iv Q) (kf : ¬ x = 0 → am_R E d mX5_join k n 116 ls st S iv Q) : am_R E d mX5_join k n 113 ls (.int x :: st) S iv Q := am_if_eq dX5_join_113 (by decide) kt kf
theorem sX5_join_116 {a0 a1 a2 : Value} (h : am_R E d mX5_join k n 117 [a0, a1, a2] (.int 1 :: st) S iv Q) : am_R E d mX5_join k n 116 [a0, a1, a2] st S iv Q := am_iconst dX5_join_116 (by decide) h
theorem sX5_join_117 {ls : List Value} (h : am_R E d mX5_join k n 121 ls st S iv Q) : am_R E d mX5_join k n 117 ls st S iv Q := am_goto dX5_join_117 (by decide) h
theorem sX5_join_120 {a0 a1 a2 : Value} (h : am_R E d mX5_join k n 121 [a0, a1, a2] (.int 0 :: st) S iv Q) : am_R E d mX5_join k n 120 [a0, a1, a2] st S iv Q := am_iconst dX5_join_120 (by decide) h
theorem sX5_join_121 {ls : List Value} {x : Int32} (h : Q (.inl (some (.int x))) S iv) : am_R E d mX5_join k n 121 ls [.int x] S iv Q := am_ireturn dX5_join_121 rfl h
theorem sX5_join_122 {a0 a1 a2 : Value} (h : am_R E d mX5_join k n 123 [a0, a1, a2] (.int 0 :: st) S iv Q) : am_R E d mX5_join k n 122 [a0, a1, a2] st S iv Q := am_iconst dX5_join_122 (by decide) h
theorem sX5_join_123 {ls : List Value} {x : Int32} (h : Q (.inl (some (.int x))) S iv) : am_R E d mX5_join k n 123 ls [.int x] S iv Q := am_ireturn dX5_join_123 rfl h
end R13_X5
