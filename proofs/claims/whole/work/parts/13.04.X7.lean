section R13_X7
variable {E : am_E} {d k n : Nat} {st : List Value} {S : am_S} {iv : am_I} {Q : am_O → am_S → am_I → Prop}
theorem dX7_init_0 : decode cX7_init 0 = .ok (.aload_n 0, 1) := by decide +kernel
theorem dX7_init_1 : decode cX7_init 1 = .ok (.invokespecial 3, 3) := by decide +kernel
theorem dX7_init_4 : decode cX7_init 4 = .ok (.aload_n 0, 1) := by decide +kernel
theorem dX7_init_5 : decode cX7_init 5 = .ok (.iconst 5, 1) := by decide +kernel
theorem dX7_init_6 : decode cX7_init 6 = .ok (.newarray .int, 2) := by decide +kernel
theorem dX7_init_8 : decode cX7_init 8 = .ok (.putfield 9, 3) := by decide +kernel
theorem dX7_init_11 : decode cX7_init 11 = .ok (.aload_n 0, 1) := by decide +kernel
theorem dX7_init_12 : decode cX7_init 12 = .ok (.bipush 100, 2) := by decide +kernel
theorem dX7_init_14 : decode cX7_init 14 = .ok (.newarray .int, 2) := by decide +kernel
theorem dX7_init_16 : decode cX7_init 16 = .ok (.putfield 15, 3) := by decide +kernel
theorem dX7_init_19 : decode cX7_init 19 = .ok (.aload_n 0, 1) := by decide +kernel
theorem dX7_init_20 : decode cX7_init 20 = .ok (.bipush 100, 2) := by decide +kernel
theorem dX7_init_22 : decode cX7_init 22 = .ok (.newarray .int, 2) := by decide +kernel
theorem dX7_init_24 : decode cX7_init 24 = .ok (.putfield 18, 3) := by decide +kernel
theorem dX7_init_27 : decode cX7_init 27 = .ok (.return_, 1) := by decide +kernel
theorem sX7_init_0 {a0 : Value} (hv : am_rf a0 = true) (h : am_R E d mX7_init k n 1 [a0] (a0 :: st) S iv Q) : am_R E d mX7_init k n 0 [a0] st S iv Q := am_aload_n dX7_init_0 rfl rfl hv h
theorem sX7_init_1 {ls : List Value} {a : Nat} (hst : (st.map fun v => v.category).sum ≤ 8) (h : am_R E (d + 1) mX7_init k n 4 ls st S iv Q) : am_R E (d + 1) mX7_init k n 1 ls (.ref a :: st) S iv Q := am_objInit dX7_init_1 wq_116 wq_63 wq_64 hst (by omega) h
theorem sX7_init_4 {a0 : Value} (hv : am_rf a0 = true) (h : am_R E d mX7_init k n 5 [a0] (a0 :: st) S iv Q) : am_R E d mX7_init k n 4 [a0] st S iv Q := am_aload_n dX7_init_4 rfl rfl hv h
theorem sX7_init_5 {a0 : Value} (h : am_R E d mX7_init k n 6 [a0] (.int 5 :: st) S iv Q) : am_R E d mX7_init k n 5 [a0] st S iv Q := am_iconst dX7_init_5 (by decide) h
theorem sX7_init_6 {ls : List Value} {x : Int32} {m : Nat} (hx : ¬ x < 0) (hm : x.toNatClampNeg = m) (hb : m ≤ 50000000) (h : am_R E d mX7_init k n 8 ls (.ref S.2.2.2 :: st) (am_new S (.inr (.int, m))) (am_0 S iv) Q) : am_R E d mX7_init (k + 1) (n + m) 6 ls (.int x :: st) S iv Q := am_nI dX7_init_6 wq_65 hx hm (by omega) (by omega) (by omega) h
theorem sX7_init_8 {ls : List Value} {a b : Nat} (ha : S.1 a = some (.inl 7)) (h : am_R E d mX7_init k n 11 ls st (am_wr S a 6 b) iv Q) : am_R E d mX7_init k n 8 ls (.ref b :: .ref a :: st) S iv Q := am_putR (ci := 7) dX7_init_8 rfl rfl (by decide) wq_117 uq_7 tyX7_ok nmX7 (Or.inr ⟨rfl, rfl, rfl⟩) rfl ha h
theorem sX7_init_11 {a0 : Value} (hv : am_rf a0 = true) (h : am_R E d mX7_init k n 12 [a0] (a0 :: st) S iv Q) : am_R E d mX7_init k n 11 [a0] st S iv Q := am_aload_n dX7_init_11 rfl rfl hv h
theorem sX7_init_12 {a0 : Value} (h : am_R E d mX7_init k n 14 [a0] (.int 100 :: st) S iv Q) : am_R E d mX7_init k n 12 [a0] st S iv Q := am_bipush dX7_init_12 (by decide) h
theorem sX7_init_14 {ls : List Value} {x : Int32} {m : Nat} (hx : ¬ x < 0) (hm : x.toNatClampNeg = m) (hb : m ≤ 50000000) (h : am_R E d mX7_init k n 16 ls (.ref S.2.2.2 :: st) (am_new S (.inr (.int, m))) (am_0 S iv) Q) : am_R E d mX7_init (k + 1) (n + m) 14 ls (.int x :: st) S iv Q := am_nI dX7_init_14 wq_65 hx hm (by omega) (by omega) (by omega) h
theorem sX7_init_16 {ls : List Value} {a b : Nat} (ha : S.1 a = some (.inl 7)) (h : am_R E d mX7_init k n 19 ls st (am_wr S a 7 b) iv Q) : am_R E d mX7_init k n 16 ls (.ref b :: .ref a :: st) S iv Q := am_putR (ci := 7) dX7_init_16 rfl rfl (by decide) wq_118 uq_7 tyX7_ok nmX7 (Or.inr ⟨rfl, rfl, rfl⟩) rfl ha h
theorem sX7_init_19 {a0 : Value} (hv : am_rf a0 = true) (h : am_R E d mX7_init k n 20 [a0] (a0 :: st) S iv Q) : am_R E d mX7_init k n 19 [a0] st S iv Q := am_aload_n dX7_init_19 rfl rfl hv h
theorem sX7_init_20 {a0 : Value} (h : am_R E d mX7_init k n 22 [a0] (.int 100 :: st) S iv Q) : am_R E d mX7_init k n 20 [a0] st S iv Q := am_bipush dX7_init_20 (by decide) h
theorem sX7_init_22 {ls : List Value} {x : Int32} {m : Nat} (hx : ¬ x < 0) (hm : x.toNatClampNeg = m) (hb : m ≤ 50000000) (h : am_R E d mX7_init k n 24 ls (.ref S.2.2.2 :: st) (am_new S (.inr (.int, m))) (am_0 S iv) Q) : am_R E d mX7_init (k + 1) (n + m) 22 ls (.int x :: st) S iv Q := am_nI dX7_init_22 wq_65 hx hm (by omega) (by omega) (by omega) h
theorem sX7_init_24 {ls : List Value} {a b : Nat} (ha : S.1 a = some (.inl 7)) (h : am_R E d mX7_init k n 27 ls st (am_wr S a 8 b) iv Q) : am_R E d mX7_init k n 24 ls (.ref b :: .ref a :: st) S iv Q := am_putR (ci := 7) dX7_init_24 rfl rfl (by decide) wq_119 uq_7 tyX7_ok nmX7 (Or.inr ⟨rfl, rfl, rfl⟩) rfl ha h
theorem sX7_init_27 {ls : List Value} (h : Q (.inl none) S iv) : am_R E d mX7_init k n 27 ls [] S iv Q := am_return dX7_init_27 rfl h
theorem dX7_startAnew_0 : decode cX7_startAnew 0 = .ok (.aload_n 0, 1) := by decide +kernel
theorem dX7_startAnew_1 : decode cX7_startAnew 1 = .ok (.iconst 0, 1) := by decide +kernel
theorem dX7_startAnew_2 : decode cX7_startAnew 2 = .ok (.putfield 21, 3) := by decide +kernel
theorem dX7_startAnew_5 : decode cX7_startAnew 5 = .ok (.aload_n 0, 1) := by decide +kernel
theorem dX7_startAnew_6 : decode cX7_startAnew 6 = .ok (.iconst 0, 1) := by decide +kernel
theorem dX7_startAnew_7 : decode cX7_startAnew 7 = .ok (.putfield 25, 3) := by decide +kernel
theorem dX7_startAnew_10 : decode cX7_startAnew 10 = .ok (.aload_n 0, 1) := by decide +kernel
theorem dX7_startAnew_11 : decode cX7_startAnew 11 = .ok (.iconst 0, 1) := by decide +kernel
theorem dX7_startAnew_12 : decode cX7_startAnew 12 = .ok (.putfield 28, 3) := by decide +kernel
theorem dX7_startAnew_15 : decode cX7_startAnew 15 = .ok (.aload_n 0, 1) := by decide +kernel
theorem dX7_startAnew_16 : decode cX7_startAnew 16 = .ok (.iconst 0, 1) := by decide +kernel
theorem dX7_startAnew_17 : decode cX7_startAnew 17 = .ok (.putfield 31, 3) := by decide +kernel
theorem dX7_startAnew_20 : decode cX7_startAnew 20 = .ok (.aload_n 0, 1) := by decide +kernel
theorem dX7_startAnew_21 : decode cX7_startAnew 21 = .ok (.getfield 9, 3) := by decide +kernel
theorem dX7_startAnew_24 : decode cX7_startAnew 24 = .ok (.iconst 0, 1) := by decide +kernel
theorem dX7_startAnew_25 : decode cX7_startAnew 25 = .ok (.invokestatic 34, 3) := by decide +kernel
theorem dX7_startAnew_28 : decode cX7_startAnew 28 = .ok (.return_, 1) := by decide +kernel
theorem sX7_startAnew_0 {a0 : Value} (hv : am_rf a0 = true) (h : am_R E d mX7_startAnew k n 1 [a0] (a0 :: st) S iv Q) : am_R E d mX7_startAnew k n 0 [a0] st S iv Q := am_aload_n dX7_startAnew_0 rfl rfl hv h
theorem sX7_startAnew_1 {a0 : Value} (h : am_R E d mX7_startAnew k n 2 [a0] (.int 0 :: st) S iv Q) : am_R E d mX7_startAnew k n 1 [a0] st S iv Q := am_iconst dX7_startAnew_1 (by decide) h
theorem sX7_startAnew_2 {ls : List Value} {a : Nat} {x : Int32} (ha : S.1 a = some (.inl 7)) (h : am_R E d mX7_startAnew k n 5 ls st S (am_w iv a 0 x) Q) : am_R E d mX7_startAnew k n 2 ls (.int x :: .ref a :: st) S iv Q := am_putI (ci := 7) dX7_startAnew_2 rfl rfl (by decide) wq_120 uq_7 tyX7_ok nmX7 (Or.inl rfl) rfl ha h
theorem sX7_startAnew_5 {a0 : Value} (hv : am_rf a0 = true) (h : am_R E d mX7_startAnew k n 6 [a0] (a0 :: st) S iv Q) : am_R E d mX7_startAnew k n 5 [a0] st S iv Q := am_aload_n dX7_startAnew_5 rfl rfl hv h
theorem sX7_startAnew_6 {a0 : Value} (h : am_R E d mX7_startAnew k n 7 [a0] (.int 0 :: st) S iv Q) : am_R E d mX7_startAnew k n 6 [a0] st S iv Q := am_iconst dX7_startAnew_6 (by decide) h
theorem sX7_startAnew_7 {ls : List Value} {a : Nat} {x : Int32} (ha : S.1 a = some (.inl 7)) (h : am_R E d mX7_startAnew k n 10 ls st S (am_w iv a 1 x) Q) : am_R E d mX7_startAnew k n 7 ls (.int x :: .ref a :: st) S iv Q := am_putI (ci := 7) dX7_startAnew_7 rfl rfl (by decide) wq_121 uq_7 tyX7_ok nmX7 (Or.inl rfl) rfl ha h
theorem sX7_startAnew_10 {a0 : Value} (hv : am_rf a0 = true) (h : am_R E d mX7_startAnew k n 11 [a0] (a0 :: st) S iv Q) : am_R E d mX7_startAnew k n 10 [a0] st S iv Q := am_aload_n dX7_startAnew_10 rfl rfl hv h
theorem sX7_startAnew_11 {a0 : Value} (h : am_R E d mX7_startAnew k n 12 [a0] (.int 0 :: st) S iv Q) : am_R E d mX7_startAnew k n 11 [a0] st S iv Q := am_iconst dX7_startAnew_11 (by decide) h
theorem sX7_startAnew_12 {ls : List Value} {a : Nat} {x : Int32} (ha : S.1 a = some (.inl 7)) (h : am_R E d mX7_startAnew k n 15 ls st S (am_w iv a 2 x) Q) : am_R E d mX7_startAnew k n 12 ls (.int x :: .ref a :: st) S iv Q := am_putI (ci := 7) dX7_startAnew_12 rfl rfl (by decide) wq_122 uq_7 tyX7_ok nmX7 (Or.inl rfl) rfl ha h
theorem sX7_startAnew_15 {a0 : Value} (hv : am_rf a0 = true) (h : am_R E d mX7_startAnew k n 16 [a0] (a0 :: st) S iv Q) : am_R E d mX7_startAnew k n 15 [a0] st S iv Q := am_aload_n dX7_startAnew_15 rfl rfl hv h
theorem sX7_startAnew_16 {a0 : Value} (h : am_R E d mX7_startAnew k n 17 [a0] (.int 0 :: st) S iv Q) : am_R E d mX7_startAnew k n 16 [a0] st S iv Q := am_iconst dX7_startAnew_16 (by decide) h
theorem sX7_startAnew_17 {ls : List Value} {a : Nat} {x : Int32} (ha : S.1 a = some (.inl 7)) (h : am_R E d mX7_startAnew k n 20 ls st S (am_w iv a 3 x) Q) : am_R E d mX7_startAnew k n 17 ls (.int x :: .ref a :: st) S iv Q := am_putI (ci := 7) dX7_startAnew_17 rfl rfl (by decide) wq_123 uq_7 tyX7_ok nmX7 (Or.inl rfl) rfl ha h
theorem sX7_startAnew_20 {a0 : Value} (hv : am_rf a0 = true) (h : am_R E d mX7_startAnew k n 21 [a0] (a0 :: st) S iv Q) : am_R E d mX7_startAnew k n 20 [a0] st S iv Q := am_aload_n dX7_startAnew_20 rfl rfl hv h
theorem sX7_startAnew_21 {ls : List Value} {a b : Nat} (ha : S.1 a = some (.inl 7)) (hb : S.2.1 a 6 = some b) (h : am_R E d mX7_startAnew k n 24 ls (.ref b :: st) S iv Q) : am_R E d mX7_startAnew k n 21 ls (.ref a :: st) S iv Q := am_getR (ci := 7) dX7_startAnew_21 rfl rfl (by decide) wq_117 uq_7 rfl ha hb h
theorem sX7_startAnew_24 {a0 : Value} (h : am_R E d mX7_startAnew k n 25 [a0] (.int 0 :: st) S iv Q) : am_R E d mX7_startAnew k n 24 [a0] st S iv Q := am_iconst dX7_startAnew_24 (by decide) h
theorem sX7_startAnew_25 {ls : List Value} {x1 x2 : Value} (hst : (st.map fun v => v.category).sum ≤ 8) (hM : am_M E d mJ7_fill_53178 0 0 [x1, x2] S iv (am_K3 E (d + 1) mX7_startAnew k n 25 ls st Q)) : am_R E (d + 1) mX7_startAnew k n 25 ls (x2 :: x1 :: st) S iv Q := am_cS (M' := mJ7_fill_53178) (as := [x1, x2]) dX7_startAnew_25 rfl wq_127 wq_128 wq_125 wq_124 hy_J7_fill_53178 (by decide) hst (by omega) (by omega) hM
theorem sX7_startAnew_25_k {ls : List Value} {x1 x2 : Value} {k' n' : Nat} (hst : (st.map fun v => v.category).sum ≤ 8) (hM : am_M E d mJ7_fill_53178 k' n' [x1, x2] S iv (am_K3 E (d + 1) mX7_startAnew k n 25 ls st Q)) : am_R E (d + 1) mX7_startAnew (k' + k) (n' + n) 25 ls (x2 :: x1 :: st) S iv Q := am_cS (M' := mJ7_fill_53178) (as := [x1, x2]) dX7_startAnew_25 rfl wq_127 wq_128 wq_125 wq_124 hy_J7_fill_53178 (by decide) hst (by omega) (by omega) hM
theorem sX7_startAnew_28 {ls : List Value} (h : Q (.inl none) S iv) : am_R E d mX7_startAnew k n 28 ls [] S iv Q := am_return dX7_startAnew_28 rfl h
theorem dX7_copyFrom_0 : decode cX7_copyFrom 0 = .ok (.aload_n 0, 1) := by decide +kernel
theorem dX7_copyFrom_1 : decode cX7_copyFrom 1 = .ok (.aload_n 1, 1) := by decide +kernel
theorem dX7_copyFrom_2 : decode cX7_copyFrom 2 = .ok (.getfield 21, 3) := by decide +kernel
theorem dX7_copyFrom_5 : decode cX7_copyFrom 5 = .ok (.putfield 21, 3) := by decide +kernel
theorem dX7_copyFrom_8 : decode cX7_copyFrom 8 = .ok (.aload_n 0, 1) := by decide +kernel
theorem dX7_copyFrom_9 : decode cX7_copyFrom 9 = .ok (.aload_n 1, 1) := by decide +kernel
theorem dX7_copyFrom_10 : decode cX7_copyFrom 10 = .ok (.getfield 25, 3) := by decide +kernel
theorem dX7_copyFrom_13 : decode cX7_copyFrom 13 = .ok (.putfield 25, 3) := by decide +kernel
theorem dX7_copyFrom_16 : decode cX7_copyFrom 16 = .ok (.aload_n 0, 1) := by decide +kernel
theorem dX7_copyFrom_17 : decode cX7_copyFrom 17 = .ok (.aload_n 1, 1) := by decide +kernel
theorem dX7_copyFrom_18 : decode cX7_copyFrom 18 = .ok (.getfield 28, 3) := by decide +kernel
theorem dX7_copyFrom_21 : decode cX7_copyFrom 21 = .ok (.putfield 28, 3) := by decide +kernel
theorem dX7_copyFrom_24 : decode cX7_copyFrom 24 = .ok (.aload_n 0, 1) := by decide +kernel
theorem dX7_copyFrom_25 : decode cX7_copyFrom 25 = .ok (.aload_n 1, 1) := by decide +kernel
theorem dX7_copyFrom_26 : decode cX7_copyFrom 26 = .ok (.getfield 31, 3) := by decide +kernel
theorem dX7_copyFrom_29 : decode cX7_copyFrom 29 = .ok (.putfield 31, 3) := by decide +kernel
theorem dX7_copyFrom_32 : decode cX7_copyFrom 32 = .ok (.aload_n 0, 1) := by decide +kernel
theorem dX7_copyFrom_33 : decode cX7_copyFrom 33 = .ok (.aload_n 1, 1) := by decide +kernel
theorem dX7_copyFrom_34 : decode cX7_copyFrom 34 = .ok (.getfield 40, 3) := by decide +kernel
theorem dX7_copyFrom_37 : decode cX7_copyFrom 37 = .ok (.putfield 40, 3) := by decide +kernel
theorem dX7_copyFrom_40 : decode cX7_copyFrom 40 = .ok (.aload_n 0, 1) := by decide +kernel
theorem dX7_copyFrom_41 : decode cX7_copyFrom 41 = .ok (.aload_n 1, 1) := by decide +kernel
theorem dX7_copyFrom_42 : decode cX7_copyFrom 42 = .ok (.getfield 43, 3) := by decide +kernel
theorem dX7_copyFrom_45 : decode cX7_copyFrom 45 = .ok (.putfield 43, 3) := by decide +kernel
theorem dX7_copyFrom_48 : decode cX7_copyFrom 48 = .ok (.aload_n 1, 1) := by decide +kernel
theorem dX7_copyFrom_49 : decode cX7_copyFrom 49 = .ok (.getfield 9, 3) := by decide +kernel
theorem dX7_copyFrom_52 : decode cX7_copyFrom 52 = .ok (.iconst 0, 1) := by decide +kernel
theorem dX7_copyFrom_53 : decode cX7_copyFrom 53 = .ok (.aload_n 0, 1) := by decide +kernel
theorem dX7_copyFrom_54 : decode cX7_copyFrom 54 = .ok (.getfield 9, 3) := by decide +kernel
theorem dX7_copyFrom_57 : decode cX7_copyFrom 57 = .ok (.iconst 0, 1) := by decide +kernel
theorem dX7_copyFrom_58 : decode cX7_copyFrom 58 = .ok (.iconst 5, 1) := by decide +kernel
theorem dX7_copyFrom_59 : decode cX7_copyFrom 59 = .ok (.invokestatic 46, 3) := by decide +kernel
theorem dX7_copyFrom_62 : decode cX7_copyFrom 62 = .ok (.aload_n 1, 1) := by decide +kernel
theorem dX7_copyFrom_63 : decode cX7_copyFrom 63 = .ok (.getfield 15, 3) := by decide +kernel
theorem dX7_copyFrom_66 : decode cX7_copyFrom 66 = .ok (.iconst 0, 1) := by decide +kernel
theorem dX7_copyFrom_67 : decode cX7_copyFrom 67 = .ok (.aload_n 0, 1) := by decide +kernel
theorem dX7_copyFrom_68 : decode cX7_copyFrom 68 = .ok (.getfield 15, 3) := by decide +kernel
theorem dX7_copyFrom_71 : decode cX7_copyFrom 71 = .ok (.iconst 0, 1) := by decide +kernel
theorem dX7_copyFrom_72 : decode cX7_copyFrom 72 = .ok (.bipush 100, 2) := by decide +kernel
theorem dX7_copyFrom_74 : decode cX7_copyFrom 74 = .ok (.invokestatic 46, 3) := by decide +kernel
theorem dX7_copyFrom_77 : decode cX7_copyFrom 77 = .ok (.aload_n 1, 1) := by decide +kernel
theorem dX7_copyFrom_78 : decode cX7_copyFrom 78 = .ok (.getfield 18, 3) := by decide +kernel
theorem dX7_copyFrom_81 : decode cX7_copyFrom 81 = .ok (.iconst 0, 1) := by decide +kernel
theorem dX7_copyFrom_82 : decode cX7_copyFrom 82 = .ok (.aload_n 0, 1) := by decide +kernel
theorem dX7_copyFrom_83 : decode cX7_copyFrom 83 = .ok (.getfield 18, 3) := by decide +kernel
theorem dX7_copyFrom_86 : decode cX7_copyFrom 86 = .ok (.iconst 0, 1) := by decide +kernel
theorem dX7_copyFrom_87 : decode cX7_copyFrom 87 = .ok (.bipush 100, 2) := by decide +kernel
theorem dX7_copyFrom_89 : decode cX7_copyFrom 89 = .ok (.invokestatic 46, 3) := by decide +kernel
theorem dX7_copyFrom_92 : decode cX7_copyFrom 92 = .ok (.return_, 1) := by decide +kernel
theorem sX7_copyFrom_0 {a0 a1 : Value} (hv : am_rf a0 = true) (h : am_R E d mX7_copyFrom k n 1 [a0, a1] (a0 :: st) S iv Q) : am_R E d mX7_copyFrom k n 0 [a0, a1] st S iv Q := am_aload_n dX7_copyFrom_0 rfl rfl hv h
theorem sX7_copyFrom_1 {a0 a1 : Value} (hv : am_rf a1 = true) (h : am_R E d mX7_copyFrom k n 2 [a0, a1] (a1 :: st) S iv Q) : am_R E d mX7_copyFrom k n 1 [a0, a1] st S iv Q := am_aload_n dX7_copyFrom_1 rfl rfl hv h
theorem sX7_copyFrom_2 {ls : List Value} {a : Nat} (ha : S.1 a = some (.inl 7)) (h : am_R E d mX7_copyFrom k n 5 ls (.int (iv a 0) :: st) S iv Q) : am_R E d mX7_copyFrom k n 2 ls (.ref a :: st) S iv Q := am_getI (ci := 7) dX7_copyFrom_2 rfl rfl (by decide) wq_120 uq_7 rfl ha h
theorem sX7_copyFrom_5 {ls : List Value} {a : Nat} {x : Int32} (ha : S.1 a = some (.inl 7)) (h : am_R E d mX7_copyFrom k n 8 ls st S (am_w iv a 0 x) Q) : am_R E d mX7_copyFrom k n 5 ls (.int x :: .ref a :: st) S iv Q := am_putI (ci := 7) dX7_copyFrom_5 rfl rfl (by decide) wq_120 uq_7 tyX7_ok nmX7 (Or.inl rfl) rfl ha h
theorem sX7_copyFrom_8 {a0 a1 : Value} (hv : am_rf a0 = true) (h : am_R E d mX7_copyFrom k n 9 [a0, a1] (a0 :: st) S iv Q) : am_R E d mX7_copyFrom k n 8 [a0, a1] st S iv Q := am_aload_n dX7_copyFrom_8 rfl rfl hv h
theorem sX7_copyFrom_9 {a0 a1 : Value} (hv : am_rf a1 = true) (h : am_R E d mX7_copyFrom k n 10 [a0, a1] (a1 :: st) S iv Q) : am_R E d mX7_copyFrom k n 9 [a0, a1] st S iv Q := am_aload_n dX7_copyFrom_9 rfl rfl hv h
theorem sX7_copyFrom_10 {ls : List Value} {a : Nat} (ha : S.1 a = some (.inl 7)) (h : am_R E d mX7_copyFrom k n 13 ls (.int (iv a 1) :: st) S iv Q) : am_R E d mX7_copyFrom k n 10 ls (.ref a :: st) S iv Q := am_getI (ci := 7) dX7_copyFrom_10 rfl rfl (by decide) wq_121 uq_7 rfl ha h
theorem sX7_copyFrom_13 {ls : List Value} {a : Nat} {x : Int32} (ha : S.1 a = some (.inl 7)) (h : am_R E d mX7_copyFrom k n 16 ls st S (am_w iv a 1 x) Q) : am_R E d mX7_copyFrom k n 13 ls (.int x :: .ref a :: st) S iv Q := am_putI (ci := 7) dX7_copyFrom_13 rfl rfl (by decide) wq_121 uq_7 tyX7_ok nmX7 (Or.inl rfl) rfl ha h
theorem sX7_copyFrom_16 {a0 a1 : Value} (hv : am_rf a0 = true) (h : am_R E d mX7_copyFrom k n 17 [a0, a1] (a0 :: st) S iv Q) : am_R E d mX7_copyFrom k n 16 [a0, a1] st S iv Q := am_aload_n dX7_copyFrom_16 rfl rfl hv h
theorem sX7_copyFrom_17 {a0 a1 : Value} (hv : am_rf a1 = true) (h : am_R E d mX7_copyFrom k n 18 [a0, a1] (a1 :: st) S iv Q) : am_R E d mX7_copyFrom k n 17 [a0, a1] st S iv Q := am_aload_n dX7_copyFrom_17 rfl rfl hv h
theorem sX7_copyFrom_18 {ls : List Value} {a : Nat} (ha : S.1 a = some (.inl 7)) (h : am_R E d mX7_copyFrom k n 21 ls (.int (iv a 2) :: st) S iv Q) : am_R E d mX7_copyFrom k n 18 ls (.ref a :: st) S iv Q := am_getI (ci := 7) dX7_copyFrom_18 rfl rfl (by decide) wq_122 uq_7 rfl ha h
theorem sX7_copyFrom_21 {ls : List Value} {a : Nat} {x : Int32} (ha : S.1 a = some (.inl 7)) (h : am_R E d mX7_copyFrom k n 24 ls st S (am_w iv a 2 x) Q) : am_R E d mX7_copyFrom k n 21 ls (.int x :: .ref a :: st) S iv Q := am_putI (ci := 7) dX7_copyFrom_21 rfl rfl (by decide) wq_122 uq_7 tyX7_ok nmX7 (Or.inl rfl) rfl ha h
theorem sX7_copyFrom_24 {a0 a1 : Value} (hv : am_rf a0 = true) (h : am_R E d mX7_copyFrom k n 25 [a0, a1] (a0 :: st) S iv Q) : am_R E d mX7_copyFrom k n 24 [a0, a1] st S iv Q := am_aload_n dX7_copyFrom_24 rfl rfl hv h
theorem sX7_copyFrom_25 {a0 a1 : Value} (hv : am_rf a1 = true) (h : am_R E d mX7_copyFrom k n 26 [a0, a1] (a1 :: st) S iv Q) : am_R E d mX7_copyFrom k n 25 [a0, a1] st S iv Q := am_aload_n dX7_copyFrom_25 rfl rfl hv h
theorem sX7_copyFrom_26 {ls : List Value} {a : Nat} (ha : S.1 a = some (.inl 7)) (h : am_R E d mX7_copyFrom k n 29 ls (.int (iv a 3) :: st) S iv Q) : am_R E d mX7_copyFrom k n 26 ls (.ref a :: st) S iv Q := am_getI (ci := 7) dX7_copyFrom_26 rfl rfl (by decide) wq_123 uq_7 rfl ha h
theorem sX7_copyFrom_29 {ls : List Value} {a : Nat} {x : Int32} (ha : S.1 a = some (.inl 7)) (h : am_R E d mX7_copyFrom k n 32 ls st S (am_w iv a 3 x) Q) : am_R E d mX7_copyFrom k n 29 ls (.int x :: .ref a :: st) S iv Q := am_putI (ci := 7) dX7_copyFrom_29 rfl rfl (by decide) wq_123 uq_7 tyX7_ok nmX7 (Or.inl rfl) rfl ha h
theorem sX7_copyFrom_32 {a0 a1 : Value} (hv : am_rf a0 = true) (h : am_R E d mX7_copyFrom k n 33 [a0, a1] (a0 :: st) S iv Q) : am_R E d mX7_copyFrom k n 32 [a0, a1] st S iv Q := am_aload_n dX7_copyFrom_32 rfl rfl hv h
theorem sX7_copyFrom_33 {a0 a1 : Value} (hv : am_rf a1 = true) (h : am_R E d mX7_copyFrom k n 34 [a0, a1] (a1 :: st) S iv Q) : am_R E d mX7_copyFrom k n 33 [a0, a1] st S iv Q := am_aload_n dX7_copyFrom_33 rfl rfl hv h
theorem sX7_copyFrom_34 {ls : List Value} {a : Nat} (ha : S.1 a = some (.inl 7)) (h : am_R E d mX7_copyFrom k n 37 ls (.int (iv a 4) :: st) S iv Q) : am_R E d mX7_copyFrom k n 34 ls (.ref a :: st) S iv Q := am_getI (ci := 7) dX7_copyFrom_34 rfl rfl (by decide) wq_129 uq_7 rfl ha h
theorem sX7_copyFrom_37 {ls : List Value} {a : Nat} {x : Int32} (ha : S.1 a = some (.inl 7)) (h : am_R E d mX7_copyFrom k n 40 ls st S (am_w iv a 4 x) Q) : am_R E d mX7_copyFrom k n 37 ls (.int x :: .ref a :: st) S iv Q := am_putI (ci := 7) dX7_copyFrom_37 rfl rfl (by decide) wq_129 uq_7 tyX7_ok nmX7 (Or.inl rfl) rfl ha h
theorem sX7_copyFrom_40 {a0 a1 : Value} (hv : am_rf a0 = true) (h : am_R E d mX7_copyFrom k n 41 [a0, a1] (a0 :: st) S iv Q) : am_R E d mX7_copyFrom k n 40 [a0, a1] st S iv Q := am_aload_n dX7_copyFrom_40 rfl rfl hv h
theorem sX7_copyFrom_41 {a0 a1 : Value} (hv : am_rf a1 = true) (h : am_R E d mX7_copyFrom k n 42 [a0, a1] (a1 :: st) S iv Q) : am_R E d mX7_copyFrom k n 41 [a0, a1] st S iv Q := am_aload_n dX7_copyFrom_41 rfl rfl hv h
theorem sX7_copyFrom_42 {ls : List Value} {a : Nat} (ha : S.1 a = some (.inl 7)) (h : am_R E d mX7_copyFrom k n 45 ls (.int (iv a 5) :: st) S iv Q) : am_R E d mX7_copyFrom k n 42 ls (.ref a :: st) S iv Q := am_getI (ci := 7) dX7_copyFrom_42 rfl rfl (by decide) wq_130 uq_7 rfl ha h
theorem sX7_copyFrom_45 {ls : List Value} {a : Nat} {x : Int32} (ha : S.1 a = some (.inl 7)) (h : am_R E d mX7_copyFrom k n 48 ls st S (am_w iv a 5 x) Q) : am_R E d mX7_copyFrom k n 45 ls (.int x :: .ref a :: st) S iv Q := am_putI (ci := 7) dX7_copyFrom_45 rfl rfl (by decide) wq_130 uq_7 tyX7_ok nmX7 (Or.inl rfl) rfl ha h
theorem sX7_copyFrom_48 {a0 a1 : Value} (hv : am_rf a1 = true) (h : am_R E d mX7_copyFrom k n 49 [a0, a1] (a1 :: st) S iv Q) : am_R E d mX7_copyFrom k n 48 [a0, a1] st S iv Q := am_aload_n dX7_copyFrom_48 rfl rfl hv h
theorem sX7_copyFrom_49 {ls : List Value} {a b : Nat} (ha : S.1 a = some (.inl 7)) (hb : S.2.1 a 6 = some b) (h : am_R E d mX7_copyFrom k n 52 ls (.ref b :: st) S iv Q) : am_R E d mX7_copyFrom k n 49 ls (.ref a :: st) S iv Q := am_getR (ci := 7) dX7_copyFrom_49 rfl rfl (by decide) wq_117 uq_7 rfl ha hb h
theorem sX7_copyFrom_52 {a0 a1 : Value} (h : am_R E d mX7_copyFrom k n 53 [a0, a1] (.int 0 :: st) S iv Q) : am_R E d mX7_copyFrom k n 52 [a0, a1] st S iv Q := am_iconst dX7_copyFrom_52 (by decide) h
theorem sX7_copyFrom_53 {a0 a1 : Value} (hv : am_rf a0 = true) (h : am_R E d mX7_copyFrom k n 54 [a0, a1] (a0 :: st) S iv Q) : am_R E d mX7_copyFrom k n 53 [a0, a1] st S iv Q := am_aload_n dX7_copyFrom_53 rfl rfl hv h
theorem sX7_copyFrom_54 {ls : List Value} {a b : Nat} (ha : S.1 a = some (.inl 7)) (hb : S.2.1 a 6 = some b) (h : am_R E d mX7_copyFrom k n 57 ls (.ref b :: st) S iv Q) : am_R E d mX7_copyFrom k n 54 ls (.ref a :: st) S iv Q := am_getR (ci := 7) dX7_copyFrom_54 rfl rfl (by decide) wq_117 uq_7 rfl ha hb h
theorem sX7_copyFrom_57 {a0 a1 : Value} (h : am_R E d mX7_copyFrom k n 58 [a0, a1] (.int 0 :: st) S iv Q) : am_R E d mX7_copyFrom k n 57 [a0, a1] st S iv Q := am_iconst dX7_copyFrom_57 (by decide) h
theorem sX7_copyFrom_58 {a0 a1 : Value} (h : am_R E d mX7_copyFrom k n 59 [a0, a1] (.int 5 :: st) S iv Q) : am_R E d mX7_copyFrom k n 58 [a0, a1] st S iv Q := am_iconst dX7_copyFrom_58 (by decide) h
theorem sX7_copyFrom_59 {ls : List Value} {a0 a n0 n1 : Nat} {sp dp x : Int32} (ha0 : S.1 a0 = some (.inr (.int, n0))) (ha : S.1 a = some (.inr (.int, n1))) (g1 : ¬ sp < 0) (g2 : ¬ dp < 0) (g3 : ¬ x < 0) (g4 : sp.toNatClampNeg + x.toNatClampNeg ≤ n0) (g5 : dp.toNatClampNeg + x.toNatClampNeg ≤ n1) (hst : (st.map fun v => v.category).sum ≤ 8) (h : am_R E (d + 2) mX7_copyFrom k n 62 ls st S (fun b => if b = a then va_cpy (iv a0) (iv a) sp.toNatClampNeg dp.toNatClampNeg x.toNatClampNeg else iv b) Q) : am_R E (d + 2) mX7_copyFrom k n 59 ls (.int x :: .int dp :: .ref a :: .int sp :: .ref a0 :: st) S iv Q := am_copy dX7_copyFrom_59 wq_131 wq_76 wq_77 wq_78 ha0 ha g1 g2 g3 g4 g5 hst (by omega) h
theorem sX7_copyFrom_62 {a0 a1 : Value} (hv : am_rf a1 = true) (h : am_R E d mX7_copyFrom k n 63 [a0, a1] (a1 :: st) S iv Q) : am_R E d mX7_copyFrom k n 62 [a0, a1] st S iv Q := am_aload_n dX7_copyFrom_62 rfl rfl hv h
theorem sX7_copyFrom_63 {ls : List Value} {a b : Nat} (ha : S.1 a = some (.inl 7)) (hb : S.2.1 a 7 = some b) (h : am_R E d mX7_copyFrom k n 66 ls (.ref b :: st) S iv Q) : am_R E d mX7_copyFrom k n 63 ls (.ref a :: st) S iv Q := am_getR (ci := 7) dX7_copyFrom_63 rfl rfl (by decide) wq_118 uq_7 rfl ha hb h
theorem sX7_copyFrom_66 {a0 a1 : Value} (h : am_R E d mX7_copyFrom k n 67 [a0, a1] (.int 0 :: st) S iv Q) : am_R E d mX7_copyFrom k n 66 [a0, a1] st S iv Q := am_iconst dX7_copyFrom_66 (by decide) h
theorem sX7_copyFrom_67 {a0 a1 : Value} (hv : am_rf a0 = true) (h : am_R E d mX7_copyFrom k n 68 [a0, a1] (a0 :: st) S iv Q) : am_R E d mX7_copyFrom k n 67 [a0, a1] st S iv Q := am_aload_n dX7_copyFrom_67 rfl rfl hv h
theorem sX7_copyFrom_68 {ls : List Value} {a b : Nat} (ha : S.1 a = some (.inl 7)) (hb : S.2.1 a 7 = some b) (h : am_R E d mX7_copyFrom k n 71 ls (.ref b :: st) S iv Q) : am_R E d mX7_copyFrom k n 68 ls (.ref a :: st) S iv Q := am_getR (ci := 7) dX7_copyFrom_68 rfl rfl (by decide) wq_118 uq_7 rfl ha hb h
theorem sX7_copyFrom_71 {a0 a1 : Value} (h : am_R E d mX7_copyFrom k n 72 [a0, a1] (.int 0 :: st) S iv Q) : am_R E d mX7_copyFrom k n 71 [a0, a1] st S iv Q := am_iconst dX7_copyFrom_71 (by decide) h
theorem sX7_copyFrom_72 {a0 a1 : Value} (h : am_R E d mX7_copyFrom k n 74 [a0, a1] (.int 100 :: st) S iv Q) : am_R E d mX7_copyFrom k n 72 [a0, a1] st S iv Q := am_bipush dX7_copyFrom_72 (by decide) h
theorem sX7_copyFrom_74 {ls : List Value} {a0 a n0 n1 : Nat} {sp dp x : Int32} (ha0 : S.1 a0 = some (.inr (.int, n0))) (ha : S.1 a = some (.inr (.int, n1))) (g1 : ¬ sp < 0) (g2 : ¬ dp < 0) (g3 : ¬ x < 0) (g4 : sp.toNatClampNeg + x.toNatClampNeg ≤ n0) (g5 : dp.toNatClampNeg + x.toNatClampNeg ≤ n1) (hst : (st.map fun v => v.category).sum ≤ 8) (h : am_R E (d + 2) mX7_copyFrom k n 77 ls st S (fun b => if b = a then va_cpy (iv a0) (iv a) sp.toNatClampNeg dp.toNatClampNeg x.toNatClampNeg else iv b) Q) : am_R E (d + 2) mX7_copyFrom k n 74 ls (.int x :: .int dp :: .ref a :: .int sp :: .ref a0 :: st) S iv Q := am_copy dX7_copyFrom_74 wq_131 wq_76 wq_77 wq_78 ha0 ha g1 g2 g3 g4 g5 hst (by omega) h
theorem sX7_copyFrom_77 {a0 a1 : Value} (hv : am_rf a1 = true) (h : am_R E d mX7_copyFrom k n 78 [a0, a1] (a1 :: st) S iv Q) : am_R E d mX7_copyFrom k n 77 [a0, a1] st S iv Q := am_aload_n dX7_copyFrom_77 rfl rfl hv h
theorem sX7_copyFrom_78 {ls : List Value} {a b : Nat} (ha : S.1 a = some (.inl 7)) (hb : S.2.1 a 8 = some b) (h : am_R E d mX7_copyFrom k n 81 ls (.ref b :: st) S iv Q) : am_R E d mX7_copyFrom k n 78 ls (.ref a :: st) S iv Q := am_getR (ci := 7) dX7_copyFrom_78 rfl rfl (by decide) wq_119 uq_7 rfl ha hb h
theorem sX7_copyFrom_81 {a0 a1 : Value} (h : am_R E d mX7_copyFrom k n 82 [a0, a1] (.int 0 :: st) S iv Q) : am_R E d mX7_copyFrom k n 81 [a0, a1] st S iv Q := am_iconst dX7_copyFrom_81 (by decide) h
theorem sX7_copyFrom_82 {a0 a1 : Value} (hv : am_rf a0 = true) (h : am_R E d mX7_copyFrom k n 83 [a0, a1] (a0 :: st) S iv Q) : am_R E d mX7_copyFrom k n 82 [a0, a1] st S iv Q := am_aload_n dX7_copyFrom_82 rfl rfl hv h
theorem sX7_copyFrom_83 {ls : List Value} {a b : Nat} (ha : S.1 a = some (.inl 7)) (hb : S.2.1 a 8 = some b) (h : am_R E d mX7_copyFrom k n 86 ls (.ref b :: st) S iv Q) : am_R E d mX7_copyFrom k n 83 ls (.ref a :: st) S iv Q := am_getR (ci := 7) dX7_copyFrom_83 rfl rfl (by decide) wq_119 uq_7 rfl ha hb h
theorem sX7_copyFrom_86 {a0 a1 : Value} (h : am_R E d mX7_copyFrom k n 87 [a0, a1] (.int 0 :: st) S iv Q) : am_R E d mX7_copyFrom k n 86 [a0, a1] st S iv Q := am_iconst dX7_copyFrom_86 (by decide) h
theorem sX7_copyFrom_87 {a0 a1 : Value} (h : am_R E d mX7_copyFrom k n 89 [a0, a1] (.int 100 :: st) S iv Q) : am_R E d mX7_copyFrom k n 87 [a0, a1] st S iv Q := am_bipush dX7_copyFrom_87 (by decide) h
theorem sX7_copyFrom_89 {ls : List Value} {a0 a n0 n1 : Nat} {sp dp x : Int32} (ha0 : S.1 a0 = some (.inr (.int, n0))) (ha : S.1 a = some (.inr (.int, n1))) (g1 : ¬ sp < 0) (g2 : ¬ dp < 0) (g3 : ¬ x < 0) (g4 : sp.toNatClampNeg + x.toNatClampNeg ≤ n0) (g5 : dp.toNatClampNeg + x.toNatClampNeg ≤ n1) (hst : (st.map fun v => v.category).sum ≤ 8) (h : am_R E (d + 2) mX7_copyFrom k n 92 ls st S (fun b => if b = a then va_cpy (iv a0) (iv a) sp.toNatClampNeg dp.toNatClampNeg x.toNatClampNeg else iv b) Q) : am_R E (d + 2) mX7_copyFrom k n 89 ls (.int x :: .int dp :: .ref a :: .int sp :: .ref a0 :: st) S iv Q := am_copy dX7_copyFrom_89 wq_131 wq_76 wq_77 wq_78 ha0 ha g1 g2 g3 g4 g5 hst (by omega) h
theorem sX7_copyFrom_92 {ls : List Value} (h : Q (.inl none) S iv) : am_R E d mX7_copyFrom k n 92 ls [] S iv Q := am_return dX7_copyFrom_92 rfl h
theorem dX7_doMove_0 : decode cX7_doMove 0 = .ok (.aload_n 0, 1) := by decide +kernel
theorem dX7_doMove_1 : decode cX7_doMove 1 = .ok (.getfield 31, 3) := by decide +kernel
theorem dX7_doMove_4 : decode cX7_doMove 4 = .ok (.ifCond .lt 12, 3) := by decide +kernel
theorem dX7_doMove_7 : decode cX7_doMove 7 = .ok (.aload_n 0, 1) := by decide +kernel
theorem dX7_doMove_8 : decode cX7_doMove 8 = .ok (.getfield 31, 3) := by decide +kernel
theorem dX7_doMove_11 : decode cX7_doMove 11 = .ok (.bipush 100, 2) := by decide +kernel
theorem dX7_doMove_13 : decode cX7_doMove 13 = .ok (.if_icmp .lt 4, 3) := by decide +kernel
theorem dX7_doMove_16 : decode cX7_doMove 16 = .ok (.return_, 1) := by decide +kernel
theorem dX7_doMove_17 : decode cX7_doMove 17 = .ok (.aload_n 0, 1) := by decide +kernel
theorem dX7_doMove_18 : decode cX7_doMove 18 = .ok (.getfield 15, 3) := by decide +kernel
theorem dX7_doMove_21 : decode cX7_doMove 21 = .ok (.aload_n 0, 1) := by decide +kernel
theorem dX7_doMove_22 : decode cX7_doMove 22 = .ok (.getfield 31, 3) := by decide +kernel
theorem dX7_doMove_25 : decode cX7_doMove 25 = .ok (.iload_n 1, 1) := by decide +kernel
theorem dX7_doMove_26 : decode cX7_doMove 26 = .ok (.iastore, 1) := by decide +kernel
theorem dX7_doMove_27 : decode cX7_doMove 27 = .ok (.aload_n 0, 1) := by decide +kernel
theorem dX7_doMove_28 : decode cX7_doMove 28 = .ok (.getfield 18, 3) := by decide +kernel
theorem dX7_doMove_31 : decode cX7_doMove 31 = .ok (.aload_n 0, 1) := by decide +kernel
theorem dX7_doMove_32 : decode cX7_doMove 32 = .ok (.getfield 31, 3) := by decide +kernel
theorem dX7_doMove_35 : decode cX7_doMove 35 = .ok (.aload_n 0, 1) := by decide +kernel
theorem dX7_doMove_36 : decode cX7_doMove 36 = .ok (.getfield 28, 3) := by decide +kernel
theorem dX7_doMove_39 : decode cX7_doMove 39 = .ok (.iastore, 1) := by decide +kernel
theorem dX7_doMove_40 : decode cX7_doMove 40 = .ok (.aload_n 0, 1) := by decide +kernel
theorem dX7_doMove_41 : decode cX7_doMove 41 = .ok (.dup, 1) := by decide +kernel
theorem dX7_doMove_42 : decode cX7_doMove 42 = .ok (.getfield 31, 3) := by decide +kernel
theorem dX7_doMove_45 : decode cX7_doMove 45 = .ok (.iconst 1, 1) := by decide +kernel
theorem dX7_doMove_46 : decode cX7_doMove 46 = .ok (.iadd, 1) := by decide +kernel
theorem dX7_doMove_47 : decode cX7_doMove 47 = .ok (.putfield 31, 3) := by decide +kernel
theorem dX7_doMove_50 : decode cX7_doMove 50 = .ok (.aload_n 0, 1) := by decide +kernel
theorem dX7_doMove_51 : decode cX7_doMove 51 = .ok (.dup, 1) := by decide +kernel
theorem dX7_doMove_52 : decode cX7_doMove 52 = .ok (.getfield 21, 3) := by decide +kernel
theorem dX7_doMove_55 : decode cX7_doMove 55 = .ok (.iconst 1, 1) := by decide +kernel
theorem dX7_doMove_56 : decode cX7_doMove 56 = .ok (.iload_n 1, 1) := by decide +kernel
theorem dX7_doMove_57 : decode cX7_doMove 57 = .ok (.ishl, 1) := by decide +kernel
theorem dX7_doMove_58 : decode cX7_doMove 58 = .ok (.ixor, 1) := by decide +kernel
theorem dX7_doMove_59 : decode cX7_doMove 59 = .ok (.putfield 21, 3) := by decide +kernel
theorem dX7_doMove_62 : decode cX7_doMove 62 = .ok (.aload_n 0, 1) := by decide +kernel
theorem dX7_doMove_63 : decode cX7_doMove 63 = .ok (.dup, 1) := by decide +kernel
theorem dX7_doMove_64 : decode cX7_doMove 64 = .ok (.getfield 28, 3) := by decide +kernel
theorem dX7_doMove_67 : decode cX7_doMove 67 = .ok (.iload_n 2, 1) := by decide +kernel
theorem dX7_doMove_68 : decode cX7_doMove 68 = .ok (.ior, 1) := by decide +kernel
theorem dX7_doMove_69 : decode cX7_doMove 69 = .ok (.putfield 28, 3) := by decide +kernel
theorem dX7_doMove_72 : decode cX7_doMove 72 = .ok (.return_, 1) := by decide +kernel
theorem sX7_doMove_0 {a0 a1 a2 : Value} (hv : am_rf a0 = true) (h : am_R E d mX7_doMove k n 1 [a0, a1, a2] (a0 :: st) S iv Q) : am_R E d mX7_doMove k n 0 [a0, a1, a2] st S iv Q := am_aload_n dX7_doMove_0 rfl rfl hv h
theorem sX7_doMove_1 {ls : List Value} {a : Nat} (ha : S.1 a = some (.inl 7)) (h : am_R E d mX7_doMove k n 4 ls (.int (iv a 3) :: st) S iv Q) : am_R E d mX7_doMove k n 1 ls (.ref a :: st) S iv Q := am_getI (ci := 7) dX7_doMove_1 rfl rfl (by decide) wq_123 uq_7 rfl ha h
theorem sX7_doMove_4 {ls : List Value} {x : Int32} (kt : x < 0 → am_R E d mX7_doMove k n 16 ls st S iv Q) (kf : ¬ x < 0 → am_R E d mX7_doMove k n 7 ls st S iv Q) : am_R E d mX7_doMove k n 4 ls (.int x :: st) S iv Q := am_if_lt dX7_doMove_4 (by decide) kt kf
theorem sX7_doMove_7 {a0 a1 a2 : Value} (hv : am_rf a0 = true) (h : am_R E d mX7_doMove k n 8 [a0, a1, a2] (a0 :: st) S iv Q) : am_R E d mX7_doMove k n 7 [a0, a1, a2] st S iv Q := am_aload_n dX7_doMove_7 rfl rfl hv h
theorem sX7_doMove_8 {ls : List Value} {a : Nat} (ha : S.1 a = some (.inl 7)) (h : am_R E d mX7_doMove k n 11 ls (.int (iv a 3) :: st) S iv Q) : am_R E d mX7_doMove k n 8 ls (.ref a :: st) S iv Q := am_getI (ci := 7) dX7_doMove_8 rfl rfl (by decide) wq_123 uq_7 rfl ha h
theorem sX7_doMove_11 {a0 a1 a2 : Value} (h : am_R E d mX7_doMove k n 13 [a0, a1, a2] (.int 100 :: st) S iv Q) : am_R E d mX7_doMove k n 11 [a0, a1, a2] st S iv Q := am_bipush dX7_doMove_11 (by decide) h
theorem sX7_doMove_13 {ls : List Value} {x y : Int32} (kt : x < y → am_R E d mX7_doMove k n 17 ls st S iv Q) (kf : ¬ x < y → am_R E d mX7_doMove k n 16 ls st S iv Q) : am_R E d mX7_doMove k n 13 ls (.int y :: .int x :: st) S iv Q := am_icmp_lt dX7_doMove_13 (by decide) kt kf
theorem sX7_doMove_16 {ls : List Value} (h : Q (.inl none) S iv) : am_R E d mX7_doMove k n 16 ls [] S iv Q := am_return dX7_doMove_16 rfl h
theorem sX7_doMove_17 {a0 a1 a2 : Value} (hv : am_rf a0 = true) (h : am_R E d mX7_doMove k n 18 [a0, a1, a2] (a0 :: st) S iv Q) : am_R E d mX7_doMove k n 17 [a0, a1, a2] st S iv Q := am_aload_n dX7_doMove_17 rfl rfl hv h
theorem sX7_doMove_18 {ls : List Value} {a b : Nat} (ha : S.1 a = some (.inl 7)) (hb : S.2.1 a 7 = some b) (h : am_R E d mX7_doMove k n 21 ls (.ref b :: st) S iv Q) : am_R E d mX7_doMove k n 18 ls (.ref a :: st) S iv Q := am_getR (ci := 7) dX7_doMove_18 rfl rfl (by decide) wq_118 uq_7 rfl ha hb h
theorem sX7_doMove_21 {a0 a1 a2 : Value} (hv : am_rf a0 = true) (h : am_R E d mX7_doMove k n 22 [a0, a1, a2] (a0 :: st) S iv Q) : am_R E d mX7_doMove k n 21 [a0, a1, a2] st S iv Q := am_aload_n dX7_doMove_21 rfl rfl hv h
theorem sX7_doMove_22 {ls : List Value} {a : Nat} (ha : S.1 a = some (.inl 7)) (h : am_R E d mX7_doMove k n 25 ls (.int (iv a 3) :: st) S iv Q) : am_R E d mX7_doMove k n 22 ls (.ref a :: st) S iv Q := am_getI (ci := 7) dX7_doMove_22 rfl rfl (by decide) wq_123 uq_7 rfl ha h
theorem sX7_doMove_25 {a0 a2 : Value} {x : Int32} (h : am_R E d mX7_doMove k n 26 [a0, .int x, a2] (.int x :: st) S iv Q) : am_R E d mX7_doMove k n 25 [a0, .int x, a2] st S iv Q := am_iload_n dX7_doMove_25 rfl rfl h
theorem sX7_doMove_26 {ls : List Value} {a m : Nat} {i x : Int32} (ha : S.1 a = some (.inr (.int, m))) (hi : vp_in i m) (h : am_R E d mX7_doMove k n 27 ls st S (am_w iv a i.toNatClampNeg x) Q) : am_R E d mX7_doMove k n 26 ls (.int x :: .int i :: .ref a :: st) S iv Q := am_iastore dX7_doMove_26 ha hi h
theorem sX7_doMove_27 {a0 a1 a2 : Value} (hv : am_rf a0 = true) (h : am_R E d mX7_doMove k n 28 [a0, a1, a2] (a0 :: st) S iv Q) : am_R E d mX7_doMove k n 27 [a0, a1, a2] st S iv Q := am_aload_n dX7_doMove_27 rfl rfl hv h
theorem sX7_doMove_28 {ls : List Value} {a b : Nat} (ha : S.1 a = some (.inl 7)) (hb : S.2.1 a 8 = some b) (h : am_R E d mX7_doMove k n 31 ls (.ref b :: st) S iv Q) : am_R E d mX7_doMove k n 28 ls (.ref a :: st) S iv Q := am_getR (ci := 7) dX7_doMove_28 rfl rfl (by decide) wq_119 uq_7 rfl ha hb h
theorem sX7_doMove_31 {a0 a1 a2 : Value} (hv : am_rf a0 = true) (h : am_R E d mX7_doMove k n 32 [a0, a1, a2] (a0 :: st) S iv Q) : am_R E d mX7_doMove k n 31 [a0, a1, a2] st S iv Q := am_aload_n dX7_doMove_31 rfl rfl hv h
theorem sX7_doMove_32 {ls : List Value} {a : Nat} (ha : S.1 a = some (.inl 7)) (h : am_R E d mX7_doMove k n 35 ls (.int (iv a 3) :: st) S iv Q) : am_R E d mX7_doMove k n 32 ls (.ref a :: st) S iv Q := am_getI (ci := 7) dX7_doMove_32 rfl rfl (by decide) wq_123 uq_7 rfl ha h
theorem sX7_doMove_35 {a0 a1 a2 : Value} (hv : am_rf a0 = true) (h : am_R E d mX7_doMove k n 36 [a0, a1, a2] (a0 :: st) S iv Q) : am_R E d mX7_doMove k n 35 [a0, a1, a2] st S iv Q := am_aload_n dX7_doMove_35 rfl rfl hv h
theorem sX7_doMove_36 {ls : List Value} {a : Nat} (ha : S.1 a = some (.inl 7)) (h : am_R E d mX7_doMove k n 39 ls (.int (iv a 2) :: st) S iv Q) : am_R E d mX7_doMove k n 36 ls (.ref a :: st) S iv Q := am_getI (ci := 7) dX7_doMove_36 rfl rfl (by decide) wq_122 uq_7 rfl ha h
theorem sX7_doMove_39 {ls : List Value} {a m : Nat} {i x : Int32} (ha : S.1 a = some (.inr (.int, m))) (hi : vp_in i m) (h : am_R E d mX7_doMove k n 40 ls st S (am_w iv a i.toNatClampNeg x) Q) : am_R E d mX7_doMove k n 39 ls (.int x :: .int i :: .ref a :: st) S iv Q := am_iastore dX7_doMove_39 ha hi h
theorem sX7_doMove_40 {a0 a1 a2 : Value} (hv : am_rf a0 = true) (h : am_R E d mX7_doMove k n 41 [a0, a1, a2] (a0 :: st) S iv Q) : am_R E d mX7_doMove k n 40 [a0, a1, a2] st S iv Q := am_aload_n dX7_doMove_40 rfl rfl hv h
theorem sX7_doMove_41 {ls : List Value} {x : Value} (hv : x.category = 1) (h : am_R E d mX7_doMove k n 42 ls (x :: x :: st) S iv Q) : am_R E d mX7_doMove k n 41 ls (x :: st) S iv Q := am_dup dX7_doMove_41 hv h
theorem sX7_doMove_42 {ls : List Value} {a : Nat} (ha : S.1 a = some (.inl 7)) (h : am_R E d mX7_doMove k n 45 ls (.int (iv a 3) :: st) S iv Q) : am_R E d mX7_doMove k n 42 ls (.ref a :: st) S iv Q := am_getI (ci := 7) dX7_doMove_42 rfl rfl (by decide) wq_123 uq_7 rfl ha h
theorem sX7_doMove_45 {a0 a1 a2 : Value} (h : am_R E d mX7_doMove k n 46 [a0, a1, a2] (.int 1 :: st) S iv Q) : am_R E d mX7_doMove k n 45 [a0, a1, a2] st S iv Q := am_iconst dX7_doMove_45 (by decide) h
theorem sX7_doMove_46 {ls : List Value} {x y : Int32} (h : am_R E d mX7_doMove k n 47 ls (.int (x + y) :: st) S iv Q) : am_R E d mX7_doMove k n 46 ls (.int y :: .int x :: st) S iv Q := am_iadd dX7_doMove_46 h
theorem sX7_doMove_47 {ls : List Value} {a : Nat} {x : Int32} (ha : S.1 a = some (.inl 7)) (h : am_R E d mX7_doMove k n 50 ls st S (am_w iv a 3 x) Q) : am_R E d mX7_doMove k n 47 ls (.int x :: .ref a :: st) S iv Q := am_putI (ci := 7) dX7_doMove_47 rfl rfl (by decide) wq_123 uq_7 tyX7_ok nmX7 (Or.inl rfl) rfl ha h
theorem sX7_doMove_50 {a0 a1 a2 : Value} (hv : am_rf a0 = true) (h : am_R E d mX7_doMove k n 51 [a0, a1, a2] (a0 :: st) S iv Q) : am_R E d mX7_doMove k n 50 [a0, a1, a2] st S iv Q := am_aload_n dX7_doMove_50 rfl rfl hv h
theorem sX7_doMove_51 {ls : List Value} {x : Value} (hv : x.category = 1) (h : am_R E d mX7_doMove k n 52 ls (x :: x :: st) S iv Q) : am_R E d mX7_doMove k n 51 ls (x :: st) S iv Q := am_dup dX7_doMove_51 hv h
theorem sX7_doMove_52 {ls : List Value} {a : Nat} (ha : S.1 a = some (.inl 7)) (h : am_R E d mX7_doMove k n 55 ls (.int (iv a 0) :: st) S iv Q) : am_R E d mX7_doMove k n 52 ls (.ref a :: st) S iv Q := am_getI (ci := 7) dX7_doMove_52 rfl rfl (by decide) wq_120 uq_7 rfl ha h
theorem sX7_doMove_55 {a0 a1 a2 : Value} (h : am_R E d mX7_doMove k n 56 [a0, a1, a2] (.int 1 :: st) S iv Q) : am_R E d mX7_doMove k n 55 [a0, a1, a2] st S iv Q := am_iconst dX7_doMove_55 (by decide) h
theorem sX7_doMove_56 {a0 a2 : Value} {x : Int32} (h : am_R E d mX7_doMove k n 57 [a0, .int x, a2] (.int x :: st) S iv Q) : am_R E d mX7_doMove k n 56 [a0, .int x, a2] st S iv Q := am_iload_n dX7_doMove_56 rfl rfl h
theorem sX7_doMove_57 {ls : List Value} {x y : Int32} (h : am_R E d mX7_doMove k n 58 ls (.int (x <<< (y &&& 31)) :: st) S iv Q) : am_R E d mX7_doMove k n 57 ls (.int y :: .int x :: st) S iv Q := am_ishl dX7_doMove_57 h
theorem sX7_doMove_58 {ls : List Value} {x y : Int32} (h : am_R E d mX7_doMove k n 59 ls (.int (x ^^^ y) :: st) S iv Q) : am_R E d mX7_doMove k n 58 ls (.int y :: .int x :: st) S iv Q := am_ixor dX7_doMove_58 h
theorem sX7_doMove_59 {ls : List Value} {a : Nat} {x : Int32} (ha : S.1 a = some (.inl 7)) (h : am_R E d mX7_doMove k n 62 ls st S (am_w iv a 0 x) Q) : am_R E d mX7_doMove k n 59 ls (.int x :: .ref a :: st) S iv Q := am_putI (ci := 7) dX7_doMove_59 rfl rfl (by decide) wq_120 uq_7 tyX7_ok nmX7 (Or.inl rfl) rfl ha h
theorem sX7_doMove_62 {a0 a1 a2 : Value} (hv : am_rf a0 = true) (h : am_R E d mX7_doMove k n 63 [a0, a1, a2] (a0 :: st) S iv Q) : am_R E d mX7_doMove k n 62 [a0, a1, a2] st S iv Q := am_aload_n dX7_doMove_62 rfl rfl hv h
theorem sX7_doMove_63 {ls : List Value} {x : Value} (hv : x.category = 1) (h : am_R E d mX7_doMove k n 64 ls (x :: x :: st) S iv Q) : am_R E d mX7_doMove k n 63 ls (x :: st) S iv Q := am_dup dX7_doMove_63 hv h
theorem sX7_doMove_64 {ls : List Value} {a : Nat} (ha : S.1 a = some (.inl 7)) (h : am_R E d mX7_doMove k n 67 ls (.int (iv a 2) :: st) S iv Q) : am_R E d mX7_doMove k n 64 ls (.ref a :: st) S iv Q := am_getI (ci := 7) dX7_doMove_64 rfl rfl (by decide) wq_122 uq_7 rfl ha h
theorem sX7_doMove_67 {a0 a1 : Value} {x : Int32} (h : am_R E d mX7_doMove k n 68 [a0, a1, .int x] (.int x :: st) S iv Q) : am_R E d mX7_doMove k n 67 [a0, a1, .int x] st S iv Q := am_iload_n dX7_doMove_67 rfl rfl h
theorem sX7_doMove_68 {ls : List Value} {x y : Int32} (h : am_R E d mX7_doMove k n 69 ls (.int (x ||| y) :: st) S iv Q) : am_R E d mX7_doMove k n 68 ls (.int y :: .int x :: st) S iv Q := am_ior dX7_doMove_68 h
theorem sX7_doMove_69 {ls : List Value} {a : Nat} {x : Int32} (ha : S.1 a = some (.inl 7)) (h : am_R E d mX7_doMove k n 72 ls st S (am_w iv a 2 x) Q) : am_R E d mX7_doMove k n 69 ls (.int x :: .ref a :: st) S iv Q := am_putI (ci := 7) dX7_doMove_69 rfl rfl (by decide) wq_122 uq_7 tyX7_ok nmX7 (Or.inl rfl) rfl ha h
theorem sX7_doMove_72 {ls : List Value} (h : Q (.inl none) S iv) : am_R E d mX7_doMove k n 72 ls [] S iv Q := am_return dX7_doMove_72 rfl h
theorem dX7_undoMove_0 : decode cX7_undoMove 0 = .ok (.aload_n 0, 1) := by decide +kernel
theorem dX7_undoMove_1 : decode cX7_undoMove 1 = .ok (.getfield 31, 3) := by decide +kernel
theorem dX7_undoMove_4 : decode cX7_undoMove 4 = .ok (.ifCond .le 12, 3) := by decide +kernel
theorem dX7_undoMove_7 : decode cX7_undoMove 7 = .ok (.aload_n 0, 1) := by decide +kernel
theorem dX7_undoMove_8 : decode cX7_undoMove 8 = .ok (.getfield 31, 3) := by decide +kernel
theorem dX7_undoMove_11 : decode cX7_undoMove 11 = .ok (.bipush 100, 2) := by decide +kernel
theorem dX7_undoMove_13 : decode cX7_undoMove 13 = .ok (.if_icmp .le 5, 3) := by decide +kernel
theorem dX7_undoMove_16 : decode cX7_undoMove 16 = .ok (.iconst (-1), 1) := by decide +kernel
theorem dX7_undoMove_17 : decode cX7_undoMove 17 = .ok (.ireturn, 1) := by decide +kernel
theorem dX7_undoMove_18 : decode cX7_undoMove 18 = .ok (.aload_n 0, 1) := by decide +kernel
theorem dX7_undoMove_19 : decode cX7_undoMove 19 = .ok (.dup, 1) := by decide +kernel
theorem dX7_undoMove_20 : decode cX7_undoMove 20 = .ok (.getfield 31, 3) := by decide +kernel
theorem dX7_undoMove_23 : decode cX7_undoMove 23 = .ok (.iconst 1, 1) := by decide +kernel
theorem dX7_undoMove_24 : decode cX7_undoMove 24 = .ok (.isub, 1) := by decide +kernel
theorem dX7_undoMove_25 : decode cX7_undoMove 25 = .ok (.putfield 31, 3) := by decide +kernel
theorem dX7_undoMove_28 : decode cX7_undoMove 28 = .ok (.aload_n 0, 1) := by decide +kernel
theorem dX7_undoMove_29 : decode cX7_undoMove 29 = .ok (.dup, 1) := by decide +kernel
theorem dX7_undoMove_30 : decode cX7_undoMove 30 = .ok (.getfield 21, 3) := by decide +kernel
theorem dX7_undoMove_33 : decode cX7_undoMove 33 = .ok (.iconst 1, 1) := by decide +kernel
theorem dX7_undoMove_34 : decode cX7_undoMove 34 = .ok (.aload_n 0, 1) := by decide +kernel
theorem dX7_undoMove_35 : decode cX7_undoMove 35 = .ok (.getfield 15, 3) := by decide +kernel
theorem dX7_undoMove_38 : decode cX7_undoMove 38 = .ok (.aload_n 0, 1) := by decide +kernel
theorem dX7_undoMove_39 : decode cX7_undoMove 39 = .ok (.getfield 31, 3) := by decide +kernel
theorem dX7_undoMove_42 : decode cX7_undoMove 42 = .ok (.iaload, 1) := by decide +kernel
theorem dX7_undoMove_43 : decode cX7_undoMove 43 = .ok (.ishl, 1) := by decide +kernel
theorem dX7_undoMove_44 : decode cX7_undoMove 44 = .ok (.ixor, 1) := by decide +kernel
theorem dX7_undoMove_45 : decode cX7_undoMove 45 = .ok (.putfield 21, 3) := by decide +kernel
theorem dX7_undoMove_48 : decode cX7_undoMove 48 = .ok (.aload_n 0, 1) := by decide +kernel
theorem dX7_undoMove_49 : decode cX7_undoMove 49 = .ok (.aload_n 0, 1) := by decide +kernel
theorem dX7_undoMove_50 : decode cX7_undoMove 50 = .ok (.getfield 18, 3) := by decide +kernel
theorem dX7_undoMove_53 : decode cX7_undoMove 53 = .ok (.aload_n 0, 1) := by decide +kernel
theorem dX7_undoMove_54 : decode cX7_undoMove 54 = .ok (.getfield 31, 3) := by decide +kernel
theorem dX7_undoMove_57 : decode cX7_undoMove 57 = .ok (.iaload, 1) := by decide +kernel
theorem dX7_undoMove_58 : decode cX7_undoMove 58 = .ok (.putfield 28, 3) := by decide +kernel
theorem dX7_undoMove_61 : decode cX7_undoMove 61 = .ok (.aload_n 0, 1) := by decide +kernel
theorem dX7_undoMove_62 : decode cX7_undoMove 62 = .ok (.getfield 31, 3) := by decide +kernel
theorem dX7_undoMove_65 : decode cX7_undoMove 65 = .ok (.ireturn, 1) := by decide +kernel
theorem sX7_undoMove_0 {a0 : Value} (hv : am_rf a0 = true) (h : am_R E d mX7_undoMove k n 1 [a0] (a0 :: st) S iv Q) : am_R E d mX7_undoMove k n 0 [a0] st S iv Q := am_aload_n dX7_undoMove_0 rfl rfl hv h
theorem sX7_undoMove_1 {ls : List Value} {a : Nat} (ha : S.1 a = some (.inl 7)) (h : am_R E d mX7_undoMove k n 4 ls (.int (iv a 3) :: st) S iv Q) : am_R E d mX7_undoMove k n 1 ls (.ref a :: st) S iv Q := am_getI (ci := 7) dX7_undoMove_1 rfl rfl (by decide) wq_123 uq_7 rfl ha h
theorem sX7_undoMove_4 {ls : List Value} {x : Int32} (kt : x ≤ 0 → am_R E d mX7_undoMove k n 16 ls st S iv Q) (kf : ¬ x ≤ 0 → am_R E d mX7_undoMove k n 7 ls st S iv Q) : am_R E d mX7_undoMove k n 4 ls (.int x :: st) S iv Q := am_if_le dX7_undoMove_4 (by decide) kt kf
theorem sX7_undoMove_7 {a0 : Value} (hv : am_rf a0 = true) (h : am_R E d mX7_undoMove k n 8 [a0] (a0 :: st) S iv Q) : am_R E d mX7_undoMove k n 7 [a0] st S iv Q := am_aload_n dX7_undoMove_7 rfl rfl hv h
theorem sX7_undoMove_8 {ls : List Value} {a : Nat} (ha : S.1 a = some (.inl 7)) (h : am_R E d mX7_undoMove k n 11 ls (.int (iv a 3) :: st) S iv Q) : am_R E d mX7_undoMove k n 8 ls (.ref a :: st) S iv Q := am_getI (ci := 7) dX7_undoMove_8 rfl rfl (by decide) wq_123 uq_7 rfl ha h
theorem sX7_undoMove_11 {a0 : Value} (h : am_R E d mX7_undoMove k n 13 [a0] (.int 100 :: st) S iv Q) : am_R E d mX7_undoMove k n 11 [a0] st S iv Q := am_bipush dX7_undoMove_11 (by decide) h
theorem sX7_undoMove_13 {ls : List Value} {x y : Int32} (kt : x ≤ y → am_R E d mX7_undoMove k n 18 ls st S iv Q) (kf : ¬ x ≤ y → am_R E d mX7_undoMove k n 16 ls st S iv Q) : am_R E d mX7_undoMove k n 13 ls (.int y :: .int x :: st) S iv Q := am_icmp_le dX7_undoMove_13 (by decide) kt kf
theorem sX7_undoMove_16 {a0 : Value} (h : am_R E d mX7_undoMove k n 17 [a0] (.int (-1) :: st) S iv Q) : am_R E d mX7_undoMove k n 16 [a0] st S iv Q := am_iconst dX7_undoMove_16 (by decide) h
theorem sX7_undoMove_17 {ls : List Value} {x : Int32} (h : Q (.inl (some (.int x))) S iv) : am_R E d mX7_undoMove k n 17 ls [.int x] S iv Q := am_ireturn dX7_undoMove_17 rfl h
theorem sX7_undoMove_18 {a0 : Value} (hv : am_rf a0 = true) (h : am_R E d mX7_undoMove k n 19 [a0] (a0 :: st) S iv Q) : am_R E d mX7_undoMove k n 18 [a0] st S iv Q := am_aload_n dX7_undoMove_18 rfl rfl hv h
theorem sX7_undoMove_19 {ls : List Value} {x : Value} (hv : x.category = 1) (h : am_R E d mX7_undoMove k n 20 ls (x :: x :: st) S iv Q) : am_R E d mX7_undoMove k n 19 ls (x :: st) S iv Q := am_dup dX7_undoMove_19 hv h
theorem sX7_undoMove_20 {ls : List Value} {a : Nat} (ha : S.1 a = some (.inl 7)) (h : am_R E d mX7_undoMove k n 23 ls (.int (iv a 3) :: st) S iv Q) : am_R E d mX7_undoMove k n 20 ls (.ref a :: st) S iv Q := am_getI (ci := 7) dX7_undoMove_20 rfl rfl (by decide) wq_123 uq_7 rfl ha h
theorem sX7_undoMove_23 {a0 : Value} (h : am_R E d mX7_undoMove k n 24 [a0] (.int 1 :: st) S iv Q) : am_R E d mX7_undoMove k n 23 [a0] st S iv Q := am_iconst dX7_undoMove_23 (by decide) h
theorem sX7_undoMove_24 {ls : List Value} {x y : Int32} (h : am_R E d mX7_undoMove k n 25 ls (.int (x - y) :: st) S iv Q) : am_R E d mX7_undoMove k n 24 ls (.int y :: .int x :: st) S iv Q := am_isub dX7_undoMove_24 h
theorem sX7_undoMove_25 {ls : List Value} {a : Nat} {x : Int32} (ha : S.1 a = some (.inl 7)) (h : am_R E d mX7_undoMove k n 28 ls st S (am_w iv a 3 x) Q) : am_R E d mX7_undoMove k n 25 ls (.int x :: .ref a :: st) S iv Q := am_putI (ci := 7) dX7_undoMove_25 rfl rfl (by decide) wq_123 uq_7 tyX7_ok nmX7 (Or.inl rfl) rfl ha h
theorem sX7_undoMove_28 {a0 : Value} (hv : am_rf a0 = true) (h : am_R E d mX7_undoMove k n 29 [a0] (a0 :: st) S iv Q) : am_R E d mX7_undoMove k n 28 [a0] st S iv Q := am_aload_n dX7_undoMove_28 rfl rfl hv h
theorem sX7_undoMove_29 {ls : List Value} {x : Value} (hv : x.category = 1) (h : am_R E d mX7_undoMove k n 30 ls (x :: x :: st) S iv Q) : am_R E d mX7_undoMove k n 29 ls (x :: st) S iv Q := am_dup dX7_undoMove_29 hv h
theorem sX7_undoMove_30 {ls : List Value} {a : Nat} (ha : S.1 a = some (.inl 7)) (h : am_R E d mX7_undoMove k n 33 ls (.int (iv a 0) :: st) S iv Q) : am_R E d mX7_undoMove k n 30 ls (.ref a :: st) S iv Q := am_getI (ci := 7) dX7_undoMove_30 rfl rfl (by decide) wq_120 uq_7 rfl ha h
theorem sX7_undoMove_33 {a0 : Value} (h : am_R E d mX7_undoMove k n 34 [a0] (.int 1 :: st) S iv Q) : am_R E d mX7_undoMove k n 33 [a0] st S iv Q := am_iconst dX7_undoMove_33 (by decide) h
theorem sX7_undoMove_34 {a0 : Value} (hv : am_rf a0 = true) (h : am_R E d mX7_undoMove k n 35 [a0] (a0 :: st) S iv Q) : am_R E d mX7_undoMove k n 34 [a0] st S iv Q := am_aload_n dX7_undoMove_34 rfl rfl hv h
theorem sX7_undoMove_35 {ls : List Value} {a b : Nat} (ha : S.1 a = some (.inl 7)) (hb : S.2.1 a 7 = some b) (h : am_R E d mX7_undoMove k n 38 ls (.ref b :: st) S iv Q) : am_R E d mX7_undoMove k n 35 ls (.ref a :: st) S iv Q := am_getR (ci := 7) dX7_undoMove_35 rfl rfl (by decide) wq_118 uq_7 rfl ha hb h
theorem sX7_undoMove_38 {a0 : Value} (hv : am_rf a0 = true) (h : am_R E d mX7_undoMove k n 39 [a0] (a0 :: st) S iv Q) : am_R E d mX7_undoMove k n 38 [a0] st S iv Q := am_aload_n dX7_undoMove_38 rfl rfl hv h
theorem sX7_undoMove_39 {ls : List Value} {a : Nat} (ha : S.1 a = some (.inl 7)) (h : am_R E d mX7_undoMove k n 42 ls (.int (iv a 3) :: st) S iv Q) : am_R E d mX7_undoMove k n 39 ls (.ref a :: st) S iv Q := am_getI (ci := 7) dX7_undoMove_39 rfl rfl (by decide) wq_123 uq_7 rfl ha h
theorem sX7_undoMove_42 {ls : List Value} {a m : Nat} {i : Int32} (ha : S.1 a = some (.inr (.int, m))) (hi : vp_in i m) (h : am_R E d mX7_undoMove k n 43 ls (.int (iv a i.toNatClampNeg) :: st) S iv Q) : am_R E d mX7_undoMove k n 42 ls (.int i :: .ref a :: st) S iv Q := am_iaload dX7_undoMove_42 ha hi h
theorem sX7_undoMove_43 {ls : List Value} {x y : Int32} (h : am_R E d mX7_undoMove k n 44 ls (.int (x <<< (y &&& 31)) :: st) S iv Q) : am_R E d mX7_undoMove k n 43 ls (.int y :: .int x :: st) S iv Q := am_ishl dX7_undoMove_43 h
theorem sX7_undoMove_44 {ls : List Value} {x y : Int32} (h : am_R E d mX7_undoMove k n 45 ls (.int (x ^^^ y) :: st) S iv Q) : am_R E d mX7_undoMove k n 44 ls (.int y :: .int x :: st) S iv Q := am_ixor dX7_undoMove_44 h
theorem sX7_undoMove_45 {ls : List Value} {a : Nat} {x : Int32} (ha : S.1 a = some (.inl 7)) (h : am_R E d mX7_undoMove k n 48 ls st S (am_w iv a 0 x) Q) : am_R E d mX7_undoMove k n 45 ls (.int x :: .ref a :: st) S iv Q := am_putI (ci := 7) dX7_undoMove_45 rfl rfl (by decide) wq_120 uq_7 tyX7_ok nmX7 (Or.inl rfl) rfl ha h
theorem sX7_undoMove_48 {a0 : Value} (hv : am_rf a0 = true) (h : am_R E d mX7_undoMove k n 49 [a0] (a0 :: st) S iv Q) : am_R E d mX7_undoMove k n 48 [a0] st S iv Q := am_aload_n dX7_undoMove_48 rfl rfl hv h
theorem sX7_undoMove_49 {a0 : Value} (hv : am_rf a0 = true) (h : am_R E d mX7_undoMove k n 50 [a0] (a0 :: st) S iv Q) : am_R E d mX7_undoMove k n 49 [a0] st S iv Q := am_aload_n dX7_undoMove_49 rfl rfl hv h
theorem sX7_undoMove_50 {ls : List Value} {a b : Nat} (ha : S.1 a = some (.inl 7)) (hb : S.2.1 a 8 = some b) (h : am_R E d mX7_undoMove k n 53 ls (.ref b :: st) S iv Q) : am_R E d mX7_undoMove k n 50 ls (.ref a :: st) S iv Q := am_getR (ci := 7) dX7_undoMove_50 rfl rfl (by decide) wq_119 uq_7 rfl ha hb h
theorem sX7_undoMove_53 {a0 : Value} (hv : am_rf a0 = true) (h : am_R E d mX7_undoMove k n 54 [a0] (a0 :: st) S iv Q) : am_R E d mX7_undoMove k n 53 [a0] st S iv Q := am_aload_n dX7_undoMove_53 rfl rfl hv h
theorem sX7_undoMove_54 {ls : List Value} {a : Nat} (ha : S.1 a = some (.inl 7)) (h : am_R E d mX7_undoMove k n 57 ls (.int (iv a 3) :: st) S iv Q) : am_R E d mX7_undoMove k n 54 ls (.ref a :: st) S iv Q := am_getI (ci := 7) dX7_undoMove_54 rfl rfl (by decide) wq_123 uq_7 rfl ha h
theorem sX7_undoMove_57 {ls : List Value} {a m : Nat} {i : Int32} (ha : S.1 a = some (.inr (.int, m))) (hi : vp_in i m) (h : am_R E d mX7_undoMove k n 58 ls (.int (iv a i.toNatClampNeg) :: st) S iv Q) : am_R E d mX7_undoMove k n 57 ls (.int i :: .ref a :: st) S iv Q := am_iaload dX7_undoMove_57 ha hi h
theorem sX7_undoMove_58 {ls : List Value} {a : Nat} {x : Int32} (ha : S.1 a = some (.inl 7)) (h : am_R E d mX7_undoMove k n 61 ls st S (am_w iv a 2 x) Q) : am_R E d mX7_undoMove k n 58 ls (.int x :: .ref a :: st) S iv Q := am_putI (ci := 7) dX7_undoMove_58 rfl rfl (by decide) wq_122 uq_7 tyX7_ok nmX7 (Or.inl rfl) rfl ha h
theorem sX7_undoMove_61 {a0 : Value} (hv : am_rf a0 = true) (h : am_R E d mX7_undoMove k n 62 [a0] (a0 :: st) S iv Q) : am_R E d mX7_undoMove k n 61 [a0] st S iv Q := am_aload_n dX7_undoMove_61 rfl rfl hv h
theorem sX7_undoMove_62 {ls : List Value} {a : Nat} (ha : S.1 a = some (.inl 7)) (h : am_R E d mX7_undoMove k n 65 ls (.int (iv a 3) :: st) S iv Q) : am_R E d mX7_undoMove k n 62 ls (.ref a :: st) S iv Q := am_getI (ci := 7) dX7_undoMove_62 rfl rfl (by decide) wq_123 uq_7 rfl ha h
theorem sX7_undoMove_65 {ls : List Value} {x : Int32} (h : Q (.inl (some (.int x))) S iv) : am_R E d mX7_undoMove k n 65 ls [.int x] S iv Q := am_ireturn dX7_undoMove_65 rfl h
end R13_X7
