section R13_X8
variable {E : am_E} {d k n : Nat} {st : List Value} {S : am_S} {iv : am_I} {Q : am_O → am_S → am_I → Prop}
theorem dX8_init_0 : decode cX8_init 0 = .ok (.aload_n 0, 1) := by decide +kernel
theorem dX8_init_1 : decode cX8_init 1 = .ok (.invokespecial 1, 3) := by decide +kernel
theorem dX8_init_4 : decode cX8_init 4 = .ok (.aload_n 0, 1) := by decide +kernel
theorem dX8_init_5 : decode cX8_init 5 = .ok (.aload_n 1, 1) := by decide +kernel
theorem dX8_init_6 : decode cX8_init 6 = .ok (.putfield 7, 3) := by decide +kernel
theorem dX8_init_9 : decode cX8_init 9 = .ok (.aload_n 0, 1) := by decide +kernel
theorem dX8_init_10 : decode cX8_init 10 = .ok (.iload_n 2, 1) := by decide +kernel
theorem dX8_init_11 : decode cX8_init 11 = .ok (.aload_n 1, 1) := by decide +kernel
theorem dX8_init_12 : decode cX8_init 12 = .ok (.arraylength, 1) := by decide +kernel
theorem dX8_init_13 : decode cX8_init 13 = .ok (.invokestatic 13, 3) := by decide +kernel
theorem dX8_init_16 : decode cX8_init 16 = .ok (.putfield 19, 3) := by decide +kernel
theorem dX8_init_19 : decode cX8_init 19 = .ok (.return_, 1) := by decide +kernel
theorem sX8_init_0 {a0 a1 a2 : Value} (hv : am_rf a0 = true) (h : am_R E d mX8_init k n 1 [a0, a1, a2] (a0 :: st) S iv Q) : am_R E d mX8_init k n 0 [a0, a1, a2] st S iv Q := am_aload_n dX8_init_0 rfl rfl hv h
theorem sX8_init_1 {ls : List Value} {a : Nat} (hst : (st.map fun v => v.category).sum ≤ 8) (h : am_R E (d + 1) mX8_init k n 4 ls st S iv Q) : am_R E (d + 1) mX8_init k n 1 ls (.ref a :: st) S iv Q := am_objInit dX8_init_1 wq_132 wq_63 wq_64 hst (by omega) h
theorem sX8_init_4 {a0 a1 a2 : Value} (hv : am_rf a0 = true) (h : am_R E d mX8_init k n 5 [a0, a1, a2] (a0 :: st) S iv Q) : am_R E d mX8_init k n 4 [a0, a1, a2] st S iv Q := am_aload_n dX8_init_4 rfl rfl hv h
theorem sX8_init_5 {a0 a1 a2 : Value} (hv : am_rf a1 = true) (h : am_R E d mX8_init k n 6 [a0, a1, a2] (a1 :: st) S iv Q) : am_R E d mX8_init k n 5 [a0, a1, a2] st S iv Q := am_aload_n dX8_init_5 rfl rfl hv h
theorem sX8_init_6 {ls : List Value} {a b : Nat} (ha : S.1 a = some (.inl 8)) (h : am_R E d mX8_init k n 9 ls st (am_wr S a 0 b) iv Q) : am_R E d mX8_init k n 6 ls (.ref b :: .ref a :: st) S iv Q := am_putR (ci := 8) dX8_init_6 rfl rfl (by decide) wq_133 uq_8 tyX8_ok nmX8 (Or.inr ⟨rfl, rfl, rfl⟩) rfl ha h
theorem sX8_init_9 {a0 a1 a2 : Value} (hv : am_rf a0 = true) (h : am_R E d mX8_init k n 10 [a0, a1, a2] (a0 :: st) S iv Q) : am_R E d mX8_init k n 9 [a0, a1, a2] st S iv Q := am_aload_n dX8_init_9 rfl rfl hv h
theorem sX8_init_10 {a0 a1 : Value} {x : Int32} (h : am_R E d mX8_init k n 11 [a0, a1, .int x] (.int x :: st) S iv Q) : am_R E d mX8_init k n 10 [a0, a1, .int x] st S iv Q := am_iload_n dX8_init_10 rfl rfl h
theorem sX8_init_11 {a0 a1 a2 : Value} (hv : am_rf a1 = true) (h : am_R E d mX8_init k n 12 [a0, a1, a2] (a1 :: st) S iv Q) : am_R E d mX8_init k n 11 [a0, a1, a2] st S iv Q := am_aload_n dX8_init_11 rfl rfl hv h
theorem sX8_init_12 {ls : List Value} {a m t : Nat} {ty : FieldType} (ha : S.1 a = some (.inr (ty, m))) (ht : am_ti ty = some t) (h : am_R E d mX8_init k n 13 ls (.int (Int32.ofNat m) :: st) S iv Q) : am_R E d mX8_init k n 12 ls (.ref a :: st) S iv Q := am_alen dX8_init_12 ha ht h
theorem sX8_init_13 {ls : List Value} {x1 x2 : Value} (hst : (st.map fun v => v.category).sum ≤ 8) (hM : am_M E d mJ9_min_7cf53 0 0 [x1, x2] S iv (am_K3 E (d + 1) mX8_init k n 13 ls st Q)) : am_R E (d + 1) mX8_init k n 13 ls (x2 :: x1 :: st) S iv Q := am_cS (M' := mJ9_min_7cf53) (as := [x1, x2]) dX8_init_13 rfl wq_134 wq_57 wq_50 wq_54 hy_J9_min_7cf53 (by decide) hst (by omega) (by omega) hM
theorem sX8_init_13_k {ls : List Value} {x1 x2 : Value} {k' n' : Nat} (hst : (st.map fun v => v.category).sum ≤ 8) (hM : am_M E d mJ9_min_7cf53 k' n' [x1, x2] S iv (am_K3 E (d + 1) mX8_init k n 13 ls st Q)) : am_R E (d + 1) mX8_init (k' + k) (n' + n) 13 ls (x2 :: x1 :: st) S iv Q := am_cS (M' := mJ9_min_7cf53) (as := [x1, x2]) dX8_init_13 rfl wq_134 wq_57 wq_50 wq_54 hy_J9_min_7cf53 (by decide) hst (by omega) (by omega) hM
theorem sX8_init_16 {ls : List Value} {a : Nat} {x : Int32} (ha : S.1 a = some (.inl 8)) (h : am_R E d mX8_init k n 19 ls st S (am_w iv a 1 x) Q) : am_R E d mX8_init k n 16 ls (.int x :: .ref a :: st) S iv Q := am_putI (ci := 8) dX8_init_16 rfl rfl (by decide) wq_135 uq_8 tyX8_ok nmX8 (Or.inr ⟨rfl, rfl, rfl⟩) rfl ha h
theorem sX8_init_19 {ls : List Value} (h : Q (.inl none) S iv) : am_R E d mX8_init k n 19 ls [] S iv Q := am_return dX8_init_19 rfl h
theorem dX8_advance_0 : decode cX8_advance 0 = .ok (.aload_n 0, 1) := by decide +kernel
theorem dX8_advance_1 : decode cX8_advance 1 = .ok (.getfield 23, 3) := by decide +kernel
theorem dX8_advance_4 : decode cX8_advance 4 = .ok (.istore_n 1, 1) := by decide +kernel
theorem dX8_advance_5 : decode cX8_advance 5 = .ok (.iload_n 1, 1) := by decide +kernel
theorem dX8_advance_6 : decode cX8_advance 6 = .ok (.aload_n 0, 1) := by decide +kernel
theorem dX8_advance_7 : decode cX8_advance 7 = .ok (.getfield 19, 3) := by decide +kernel
theorem dX8_advance_10 : decode cX8_advance 10 = .ok (.if_icmp .ge 31, 3) := by decide +kernel
theorem dX8_advance_13 : decode cX8_advance 13 = .ok (.aload_n 0, 1) := by decide +kernel
theorem dX8_advance_14 : decode cX8_advance 14 = .ok (.getfield 7, 3) := by decide +kernel
theorem dX8_advance_17 : decode cX8_advance 17 = .ok (.iload_n 1, 1) := by decide +kernel
theorem dX8_advance_18 : decode cX8_advance 18 = .ok (.baload, 1) := by decide +kernel
theorem dX8_advance_19 : decode cX8_advance 19 = .ok (.bipush 32, 2) := by decide +kernel
theorem dX8_advance_21 : decode cX8_advance 21 = .ok (.if_icmp .eq 14, 3) := by decide +kernel
theorem dX8_advance_24 : decode cX8_advance 24 = .ok (.aload_n 0, 1) := by decide +kernel
theorem dX8_advance_25 : decode cX8_advance 25 = .ok (.getfield 7, 3) := by decide +kernel
theorem dX8_advance_28 : decode cX8_advance 28 = .ok (.iload_n 1, 1) := by decide +kernel
theorem dX8_advance_29 : decode cX8_advance 29 = .ok (.baload, 1) := by decide +kernel
theorem dX8_advance_30 : decode cX8_advance 30 = .ok (.bipush 10, 2) := by decide +kernel
theorem dX8_advance_32 : decode cX8_advance 32 = .ok (.if_icmp .ne 9, 3) := by decide +kernel
theorem dX8_advance_35 : decode cX8_advance 35 = .ok (.iinc 1 1, 3) := by decide +kernel
theorem dX8_advance_38 : decode cX8_advance 38 = .ok (.goto (-33), 3) := by decide +kernel
theorem dX8_advance_41 : decode cX8_advance 41 = .ok (.aload_n 0, 1) := by decide +kernel
theorem dX8_advance_42 : decode cX8_advance 42 = .ok (.iload_n 1, 1) := by decide +kernel
theorem dX8_advance_43 : decode cX8_advance 43 = .ok (.putfield 26, 3) := by decide +kernel
theorem dX8_advance_46 : decode cX8_advance 46 = .ok (.aload_n 0, 1) := by decide +kernel
theorem dX8_advance_47 : decode cX8_advance 47 = .ok (.iload_n 1, 1) := by decide +kernel
theorem dX8_advance_48 : decode cX8_advance 48 = .ok (.aload_n 0, 1) := by decide +kernel
theorem dX8_advance_49 : decode cX8_advance 49 = .ok (.getfield 19, 3) := by decide +kernel
theorem dX8_advance_52 : decode cX8_advance 52 = .ok (.if_icmp .ge 15, 3) := by decide +kernel
theorem dX8_advance_55 : decode cX8_advance 55 = .ok (.aload_n 0, 1) := by decide +kernel
theorem dX8_advance_56 : decode cX8_advance 56 = .ok (.getfield 7, 3) := by decide +kernel
theorem dX8_advance_59 : decode cX8_advance 59 = .ok (.iload_n 1, 1) := by decide +kernel
theorem dX8_advance_60 : decode cX8_advance 60 = .ok (.baload, 1) := by decide +kernel
theorem dX8_advance_61 : decode cX8_advance 61 = .ok (.invokestatic 29, 3) := by decide +kernel
theorem dX8_advance_64 : decode cX8_advance 64 = .ok (.goto 4, 3) := by decide +kernel
theorem dX8_advance_67 : decode cX8_advance 67 = .ok (.iconst 0, 1) := by decide +kernel
theorem dX8_advance_68 : decode cX8_advance 68 = .ok (.putfield 33, 3) := by decide +kernel
theorem dX8_advance_71 : decode cX8_advance 71 = .ok (.iload_n 1, 1) := by decide +kernel
theorem dX8_advance_72 : decode cX8_advance 72 = .ok (.aload_n 0, 1) := by decide +kernel
theorem dX8_advance_73 : decode cX8_advance 73 = .ok (.getfield 19, 3) := by decide +kernel
theorem dX8_advance_76 : decode cX8_advance 76 = .ok (.if_icmp .ge 9, 3) := by decide +kernel
theorem dX8_advance_79 : decode cX8_advance 79 = .ok (.iload_n 1, 1) := by decide +kernel
theorem dX8_advance_80 : decode cX8_advance 80 = .ok (.iconst 1, 1) := by decide +kernel
theorem dX8_advance_81 : decode cX8_advance 81 = .ok (.iadd, 1) := by decide +kernel
theorem dX8_advance_82 : decode cX8_advance 82 = .ok (.goto 7, 3) := by decide +kernel
theorem dX8_advance_85 : decode cX8_advance 85 = .ok (.aload_n 0, 1) := by decide +kernel
theorem dX8_advance_86 : decode cX8_advance 86 = .ok (.getfield 19, 3) := by decide +kernel
theorem dX8_advance_89 : decode cX8_advance 89 = .ok (.istore_n 1, 1) := by decide +kernel
theorem dX8_advance_90 : decode cX8_advance 90 = .ok (.iload_n 1, 1) := by decide +kernel
theorem dX8_advance_91 : decode cX8_advance 91 = .ok (.aload_n 0, 1) := by decide +kernel
theorem dX8_advance_92 : decode cX8_advance 92 = .ok (.getfield 19, 3) := by decide +kernel
theorem dX8_advance_95 : decode cX8_advance 95 = .ok (.if_icmp .ge 41, 3) := by decide +kernel
theorem dX8_advance_98 : decode cX8_advance 98 = .ok (.aload_n 0, 1) := by decide +kernel
theorem dX8_advance_99 : decode cX8_advance 99 = .ok (.getfield 33, 3) := by decide +kernel
theorem dX8_advance_102 : decode cX8_advance 102 = .ok (.iconst 1, 1) := by decide +kernel
theorem dX8_advance_103 : decode cX8_advance 103 = .ok (.if_icmp .eq 11, 3) := by decide +kernel
theorem dX8_advance_106 : decode cX8_advance 106 = .ok (.aload_n 0, 1) := by decide +kernel
theorem dX8_advance_107 : decode cX8_advance 107 = .ok (.getfield 33, 3) := by decide +kernel
theorem dX8_advance_110 : decode cX8_advance 110 = .ok (.iconst 2, 1) := by decide +kernel
theorem dX8_advance_111 : decode cX8_advance 111 = .ok (.if_icmp .ne 25, 3) := by decide +kernel
theorem dX8_advance_114 : decode cX8_advance 114 = .ok (.aload_n 0, 1) := by decide +kernel
theorem dX8_advance_115 : decode cX8_advance 115 = .ok (.getfield 7, 3) := by decide +kernel
theorem dX8_advance_118 : decode cX8_advance 118 = .ok (.iload_n 1, 1) := by decide +kernel
theorem dX8_advance_119 : decode cX8_advance 119 = .ok (.baload, 1) := by decide +kernel
theorem dX8_advance_120 : decode cX8_advance 120 = .ok (.invokestatic 29, 3) := by decide +kernel
theorem dX8_advance_123 : decode cX8_advance 123 = .ok (.aload_n 0, 1) := by decide +kernel
theorem dX8_advance_124 : decode cX8_advance 124 = .ok (.getfield 33, 3) := by decide +kernel
theorem dX8_advance_127 : decode cX8_advance 127 = .ok (.if_icmp .ne 9, 3) := by decide +kernel
theorem dX8_advance_130 : decode cX8_advance 130 = .ok (.iinc 1 1, 3) := by decide +kernel
theorem dX8_advance_133 : decode cX8_advance 133 = .ok (.goto (-43), 3) := by decide +kernel
theorem dX8_advance_136 : decode cX8_advance 136 = .ok (.aload_n 0, 1) := by decide +kernel
theorem dX8_advance_137 : decode cX8_advance 137 = .ok (.iload_n 1, 1) := by decide +kernel
theorem dX8_advance_138 : decode cX8_advance 138 = .ok (.putfield 23, 3) := by decide +kernel
theorem dX8_advance_141 : decode cX8_advance 141 = .ok (.return_, 1) := by decide +kernel
theorem sX8_advance_0 {a0 a1 : Value} (hv : am_rf a0 = true) (h : am_R E d mX8_advance k n 1 [a0, a1] (a0 :: st) S iv Q) : am_R E d mX8_advance k n 0 [a0, a1] st S iv Q := am_aload_n dX8_advance_0 rfl rfl hv h
theorem sX8_advance_1 {ls : List Value} {a : Nat} (ha : S.1 a = some (.inl 8)) (h : am_R E d mX8_advance k n 4 ls (.int (iv a 4) :: st) S iv Q) : am_R E d mX8_advance k n 1 ls (.ref a :: st) S iv Q := am_getI (ci := 8) dX8_advance_1 rfl rfl (by decide) wq_136 uq_8 rfl ha h
theorem sX8_advance_4 {a0 a1 : Value} {x : Int32} (h : am_R E d mX8_advance k n 5 [a0, .int x] st S iv Q) : am_R E d mX8_advance k n 4 [a0, a1] (.int x :: st) S iv Q := am_istore_n dX8_advance_4 rfl (by decide) h
theorem sX8_advance_5 {a0 : Value} {x : Int32} (h : am_R E d mX8_advance k n 6 [a0, .int x] (.int x :: st) S iv Q) : am_R E d mX8_advance k n 5 [a0, .int x] st S iv Q := am_iload_n dX8_advance_5 rfl rfl h
theorem sX8_advance_6 {a0 a1 : Value} (hv : am_rf a0 = true) (h : am_R E d mX8_advance k n 7 [a0, a1] (a0 :: st) S iv Q) : am_R E d mX8_advance k n 6 [a0, a1] st S iv Q := am_aload_n dX8_advance_6 rfl rfl hv h
theorem sX8_advance_7 {ls : List Value} {a : Nat} (ha : S.1 a = some (.inl 8)) (h : am_R E d mX8_advance k n 10 ls (.int (iv a 1) :: st) S iv Q) : am_R E d mX8_advance k n 7 ls (.ref a :: st) S iv Q := am_getI (ci := 8) dX8_advance_7 rfl rfl (by decide) wq_135 uq_8 rfl ha h
theorem sX8_advance_10 {ls : List Value} {x y : Int32} (kt : y ≤ x → am_R E d mX8_advance k n 41 ls st S iv Q) (kf : ¬ y ≤ x → am_R E d mX8_advance k n 13 ls st S iv Q) : am_R E d mX8_advance k n 10 ls (.int y :: .int x :: st) S iv Q := am_icmp_ge dX8_advance_10 (by decide) kt kf
theorem sX8_advance_13 {a0 a1 : Value} (hv : am_rf a0 = true) (h : am_R E d mX8_advance k n 14 [a0, a1] (a0 :: st) S iv Q) : am_R E d mX8_advance k n 13 [a0, a1] st S iv Q := am_aload_n dX8_advance_13 rfl rfl hv h
theorem sX8_advance_14 {ls : List Value} {a b : Nat} (ha : S.1 a = some (.inl 8)) (hb : S.2.1 a 0 = some b) (h : am_R E d mX8_advance k n 17 ls (.ref b :: st) S iv Q) : am_R E d mX8_advance k n 14 ls (.ref a :: st) S iv Q := am_getR (ci := 8) dX8_advance_14 rfl rfl (by decide) wq_133 uq_8 rfl ha hb h
theorem sX8_advance_17 {a0 : Value} {x : Int32} (h : am_R E d mX8_advance k n 18 [a0, .int x] (.int x :: st) S iv Q) : am_R E d mX8_advance k n 17 [a0, .int x] st S iv Q := am_iload_n dX8_advance_17 rfl rfl h
theorem sX8_advance_18 {ls : List Value} {a m : Nat} {i : Int32} (ha : S.1 a = some (.inr (.byte, m))) (hi : vp_in i m) (h : am_R E d mX8_advance k n 19 ls (.int (iv a i.toNatClampNeg) :: st) S iv Q) : am_R E d mX8_advance k n 18 ls (.int i :: .ref a :: st) S iv Q := am_baload dX8_advance_18 ha hi h
theorem sX8_advance_19 {a0 a1 : Value} (h : am_R E d mX8_advance k n 21 [a0, a1] (.int 32 :: st) S iv Q) : am_R E d mX8_advance k n 19 [a0, a1] st S iv Q := am_bipush dX8_advance_19 (by decide) h
theorem sX8_advance_21 {ls : List Value} {x y : Int32} (kt : x = y → am_R E d mX8_advance k n 35 ls st S iv Q) (kf : ¬ x = y → am_R E d mX8_advance k n 24 ls st S iv Q) : am_R E d mX8_advance k n 21 ls (.int y :: .int x :: st) S iv Q := am_icmp_eq dX8_advance_21 (by decide) kt kf
theorem sX8_advance_24 {a0 a1 : Value} (hv : am_rf a0 = true) (h : am_R E d mX8_advance k n 25 [a0, a1] (a0 :: st) S iv Q) : am_R E d mX8_advance k n 24 [a0, a1] st S iv Q := am_aload_n dX8_advance_24 rfl rfl hv h
theorem sX8_advance_25 {ls : List Value} {a b : Nat} (ha : S.1 a = some (.inl 8)) (hb : S.2.1 a 0 = some b) (h : am_R E d mX8_advance k n 28 ls (.ref b :: st) S iv Q) : am_R E d mX8_advance k n 25 ls (.ref a :: st) S iv Q := am_getR (ci := 8) dX8_advance_25 rfl rfl (by decide) wq_133 uq_8 rfl ha hb h
theorem sX8_advance_28 {a0 : Value} {x : Int32} (h : am_R E d mX8_advance k n 29 [a0, .int x] (.int x :: st) S iv Q) : am_R E d mX8_advance k n 28 [a0, .int x] st S iv Q := am_iload_n dX8_advance_28 rfl rfl h
theorem sX8_advance_29 {ls : List Value} {a m : Nat} {i : Int32} (ha : S.1 a = some (.inr (.byte, m))) (hi : vp_in i m) (h : am_R E d mX8_advance k n 30 ls (.int (iv a i.toNatClampNeg) :: st) S iv Q) : am_R E d mX8_advance k n 29 ls (.int i :: .ref a :: st) S iv Q := am_baload dX8_advance_29 ha hi h
theorem sX8_advance_30 {a0 a1 : Value} (h : am_R E d mX8_advance k n 32 [a0, a1] (.int 10 :: st) S iv Q) : am_R E d mX8_advance k n 30 [a0, a1] st S iv Q := am_bipush dX8_advance_30 (by decide) h
theorem sX8_advance_32 {ls : List Value} {x y : Int32} (kt : ¬ x = y → am_R E d mX8_advance k n 41 ls st S iv Q) (kf : x = y → am_R E d mX8_advance k n 35 ls st S iv Q) : am_R E d mX8_advance k n 32 ls (.int y :: .int x :: st) S iv Q := am_icmp_ne dX8_advance_32 (by decide) kt kf
theorem sX8_advance_35 {a0 : Value} {x : Int32} (h : am_R E d mX8_advance k n 38 [a0, .int (x + 1)] st S iv Q) : am_R E d mX8_advance k n 35 [a0, .int x] st S iv Q := am_iinc dX8_advance_35 rfl rfl (by decide) h
theorem sX8_advance_38 {ls : List Value} (h : am_R E d mX8_advance k n 5 ls st S iv Q) : am_R E d mX8_advance k n 38 ls st S iv Q := am_goto dX8_advance_38 (by decide) h
theorem sX8_advance_41 {a0 a1 : Value} (hv : am_rf a0 = true) (h : am_R E d mX8_advance k n 42 [a0, a1] (a0 :: st) S iv Q) : am_R E d mX8_advance k n 41 [a0, a1] st S iv Q := am_aload_n dX8_advance_41 rfl rfl hv h
theorem sX8_advance_42 {a0 : Value} {x : Int32} (h : am_R E d mX8_advance k n 43 [a0, .int x] (.int x :: st) S iv Q) : am_R E d mX8_advance k n 42 [a0, .int x] st S iv Q := am_iload_n dX8_advance_42 rfl rfl h
theorem sX8_advance_43 {ls : List Value} {a : Nat} {x : Int32} (ha : S.1 a = some (.inl 8)) (h : am_R E d mX8_advance k n 46 ls st S (am_w iv a 3 x) Q) : am_R E d mX8_advance k n 43 ls (.int x :: .ref a :: st) S iv Q := am_putI (ci := 8) dX8_advance_43 rfl rfl (by decide) wq_137 uq_8 tyX8_ok nmX8 (Or.inl rfl) rfl ha h
theorem sX8_advance_46 {a0 a1 : Value} (hv : am_rf a0 = true) (h : am_R E d mX8_advance k n 47 [a0, a1] (a0 :: st) S iv Q) : am_R E d mX8_advance k n 46 [a0, a1] st S iv Q := am_aload_n dX8_advance_46 rfl rfl hv h
theorem sX8_advance_47 {a0 : Value} {x : Int32} (h : am_R E d mX8_advance k n 48 [a0, .int x] (.int x :: st) S iv Q) : am_R E d mX8_advance k n 47 [a0, .int x] st S iv Q := am_iload_n dX8_advance_47 rfl rfl h
theorem sX8_advance_48 {a0 a1 : Value} (hv : am_rf a0 = true) (h : am_R E d mX8_advance k n 49 [a0, a1] (a0 :: st) S iv Q) : am_R E d mX8_advance k n 48 [a0, a1] st S iv Q := am_aload_n dX8_advance_48 rfl rfl hv h
theorem sX8_advance_49 {ls : List Value} {a : Nat} (ha : S.1 a = some (.inl 8)) (h : am_R E d mX8_advance k n 52 ls (.int (iv a 1) :: st) S iv Q) : am_R E d mX8_advance k n 49 ls (.ref a :: st) S iv Q := am_getI (ci := 8) dX8_advance_49 rfl rfl (by decide) wq_135 uq_8 rfl ha h
theorem sX8_advance_52 {ls : List Value} {x y : Int32} (kt : y ≤ x → am_R E d mX8_advance k n 67 ls st S iv Q) (kf : ¬ y ≤ x → am_R E d mX8_advance k n 55 ls st S iv Q) : am_R E d mX8_advance k n 52 ls (.int y :: .int x :: st) S iv Q := am_icmp_ge dX8_advance_52 (by decide) kt kf
theorem sX8_advance_55 {a0 a1 : Value} (hv : am_rf a0 = true) (h : am_R E d mX8_advance k n 56 [a0, a1] (a0 :: st) S iv Q) : am_R E d mX8_advance k n 55 [a0, a1] st S iv Q := am_aload_n dX8_advance_55 rfl rfl hv h
theorem sX8_advance_56 {ls : List Value} {a b : Nat} (ha : S.1 a = some (.inl 8)) (hb : S.2.1 a 0 = some b) (h : am_R E d mX8_advance k n 59 ls (.ref b :: st) S iv Q) : am_R E d mX8_advance k n 56 ls (.ref a :: st) S iv Q := am_getR (ci := 8) dX8_advance_56 rfl rfl (by decide) wq_133 uq_8 rfl ha hb h
theorem sX8_advance_59 {a0 : Value} {x : Int32} (h : am_R E d mX8_advance k n 60 [a0, .int x] (.int x :: st) S iv Q) : am_R E d mX8_advance k n 59 [a0, .int x] st S iv Q := am_iload_n dX8_advance_59 rfl rfl h
theorem sX8_advance_60 {ls : List Value} {a m : Nat} {i : Int32} (ha : S.1 a = some (.inr (.byte, m))) (hi : vp_in i m) (h : am_R E d mX8_advance k n 61 ls (.int (iv a i.toNatClampNeg) :: st) S iv Q) : am_R E d mX8_advance k n 60 ls (.int i :: .ref a :: st) S iv Q := am_baload dX8_advance_60 ha hi h
theorem sX8_advance_61 {ls : List Value} {x1 : Value} (hst : (st.map fun v => v.category).sum ≤ 8) (hM : am_M E d mX8_typeOf 0 0 [x1] S iv (am_K3 E (d + 1) mX8_advance k n 61 ls st Q)) : am_R E (d + 1) mX8_advance k n 61 ls (x1 :: st) S iv Q := am_cS (M' := mX8_typeOf) (as := [x1]) dX8_advance_61 rfl wq_141 wq_142 wq_139 wq_138 hy_X8_typeOf (by decide) hst (by omega) (by omega) hM
theorem sX8_advance_61_k {ls : List Value} {x1 : Value} {k' n' : Nat} (hst : (st.map fun v => v.category).sum ≤ 8) (hM : am_M E d mX8_typeOf k' n' [x1] S iv (am_K3 E (d + 1) mX8_advance k n 61 ls st Q)) : am_R E (d + 1) mX8_advance (k' + k) (n' + n) 61 ls (x1 :: st) S iv Q := am_cS (M' := mX8_typeOf) (as := [x1]) dX8_advance_61 rfl wq_141 wq_142 wq_139 wq_138 hy_X8_typeOf (by decide) hst (by omega) (by omega) hM
theorem sX8_advance_64 {ls : List Value} (h : am_R E d mX8_advance k n 68 ls st S iv Q) : am_R E d mX8_advance k n 64 ls st S iv Q := am_goto dX8_advance_64 (by decide) h
theorem sX8_advance_67 {a0 a1 : Value} (h : am_R E d mX8_advance k n 68 [a0, a1] (.int 0 :: st) S iv Q) : am_R E d mX8_advance k n 67 [a0, a1] st S iv Q := am_iconst dX8_advance_67 (by decide) h
theorem sX8_advance_68 {ls : List Value} {a : Nat} {x : Int32} (ha : S.1 a = some (.inl 8)) (h : am_R E d mX8_advance k n 71 ls st S (am_w iv a 2 x) Q) : am_R E d mX8_advance k n 68 ls (.int x :: .ref a :: st) S iv Q := am_putI (ci := 8) dX8_advance_68 rfl rfl (by decide) wq_143 uq_8 tyX8_ok nmX8 (Or.inl rfl) rfl ha h
theorem sX8_advance_71 {a0 : Value} {x : Int32} (h : am_R E d mX8_advance k n 72 [a0, .int x] (.int x :: st) S iv Q) : am_R E d mX8_advance k n 71 [a0, .int x] st S iv Q := am_iload_n dX8_advance_71 rfl rfl h
theorem sX8_advance_72 {a0 a1 : Value} (hv : am_rf a0 = true) (h : am_R E d mX8_advance k n 73 [a0, a1] (a0 :: st) S iv Q) : am_R E d mX8_advance k n 72 [a0, a1] st S iv Q := am_aload_n dX8_advance_72 rfl rfl hv h
theorem sX8_advance_73 {ls : List Value} {a : Nat} (ha : S.1 a = some (.inl 8)) (h : am_R E d mX8_advance k n 76 ls (.int (iv a 1) :: st) S iv Q) : am_R E d mX8_advance k n 73 ls (.ref a :: st) S iv Q := am_getI (ci := 8) dX8_advance_73 rfl rfl (by decide) wq_135 uq_8 rfl ha h
theorem sX8_advance_76 {ls : List Value} {x y : Int32} (kt : y ≤ x → am_R E d mX8_advance k n 85 ls st S iv Q) (kf : ¬ y ≤ x → am_R E d mX8_advance k n 79 ls st S iv Q) : am_R E d mX8_advance k n 76 ls (.int y :: .int x :: st) S iv Q := am_icmp_ge dX8_advance_76 (by decide) kt kf
theorem sX8_advance_79 {a0 : Value} {x : Int32} (h : am_R E d mX8_advance k n 80 [a0, .int x] (.int x :: st) S iv Q) : am_R E d mX8_advance k n 79 [a0, .int x] st S iv Q := am_iload_n dX8_advance_79 rfl rfl h
theorem sX8_advance_80 {a0 a1 : Value} (h : am_R E d mX8_advance k n 81 [a0, a1] (.int 1 :: st) S iv Q) : am_R E d mX8_advance k n 80 [a0, a1] st S iv Q := am_iconst dX8_advance_80 (by decide) h
theorem sX8_advance_81 {ls : List Value} {x y : Int32} (h : am_R E d mX8_advance k n 82 ls (.int (x + y) :: st) S iv Q) : am_R E d mX8_advance k n 81 ls (.int y :: .int x :: st) S iv Q := am_iadd dX8_advance_81 h
theorem sX8_advance_82 {ls : List Value} (h : am_R E d mX8_advance k n 89 ls st S iv Q) : am_R E d mX8_advance k n 82 ls st S iv Q := am_goto dX8_advance_82 (by decide) h
theorem sX8_advance_85 {a0 a1 : Value} (hv : am_rf a0 = true) (h : am_R E d mX8_advance k n 86 [a0, a1] (a0 :: st) S iv Q) : am_R E d mX8_advance k n 85 [a0, a1] st S iv Q := am_aload_n dX8_advance_85 rfl rfl hv h
theorem sX8_advance_86 {ls : List Value} {a : Nat} (ha : S.1 a = some (.inl 8)) (h : am_R E d mX8_advance k n 89 ls (.int (iv a 1) :: st) S iv Q) : am_R E d mX8_advance k n 86 ls (.ref a :: st) S iv Q := am_getI (ci := 8) dX8_advance_86 rfl rfl (by decide) wq_135 uq_8 rfl ha h
theorem sX8_advance_89 {a0 a1 : Value} {x : Int32} (h : am_R E d mX8_advance k n 90 [a0, .int x] st S iv Q) : am_R E d mX8_advance k n 89 [a0, a1] (.int x :: st) S iv Q := am_istore_n dX8_advance_89 rfl (by decide) h
theorem sX8_advance_90 {a0 : Value} {x : Int32} (h : am_R E d mX8_advance k n 91 [a0, .int x] (.int x :: st) S iv Q) : am_R E d mX8_advance k n 90 [a0, .int x] st S iv Q := am_iload_n dX8_advance_90 rfl rfl h
theorem sX8_advance_91 {a0 a1 : Value} (hv : am_rf a0 = true) (h : am_R E d mX8_advance k n 92 [a0, a1] (a0 :: st) S iv Q) : am_R E d mX8_advance k n 91 [a0, a1] st S iv Q := am_aload_n dX8_advance_91 rfl rfl hv h
theorem sX8_advance_92 {ls : List Value} {a : Nat} (ha : S.1 a = some (.inl 8)) (h : am_R E d mX8_advance k n 95 ls (.int (iv a 1) :: st) S iv Q) : am_R E d mX8_advance k n 92 ls (.ref a :: st) S iv Q := am_getI (ci := 8) dX8_advance_92 rfl rfl (by decide) wq_135 uq_8 rfl ha h
theorem sX8_advance_95 {ls : List Value} {x y : Int32} (kt : y ≤ x → am_R E d mX8_advance k n 136 ls st S iv Q) (kf : ¬ y ≤ x → am_R E d mX8_advance k n 98 ls st S iv Q) : am_R E d mX8_advance k n 95 ls (.int y :: .int x :: st) S iv Q := am_icmp_ge dX8_advance_95 (by decide) kt kf
theorem sX8_advance_98 {a0 a1 : Value} (hv : am_rf a0 = true) (h : am_R E d mX8_advance k n 99 [a0, a1] (a0 :: st) S iv Q) : am_R E d mX8_advance k n 98 [a0, a1] st S iv Q := am_aload_n dX8_advance_98 rfl rfl hv h
theorem sX8_advance_99 {ls : List Value} {a : Nat} (ha : S.1 a = some (.inl 8)) (h : am_R E d mX8_advance k n 102 ls (.int (iv a 2) :: st) S iv Q) : am_R E d mX8_advance k n 99 ls (.ref a :: st) S iv Q := am_getI (ci := 8) dX8_advance_99 rfl rfl (by decide) wq_143 uq_8 rfl ha h
theorem sX8_advance_102 {a0 a1 : Value} (h : am_R E d mX8_advance k n 103 [a0, a1] (.int 1 :: st) S iv Q) : am_R E d mX8_advance k n 102 [a0, a1] st S iv Q := am_iconst dX8_advance_102 (by decide) h
theorem sX8_advance_103 {ls : List Value} {x y : Int32} (kt : x = y → am_R E d mX8_advance k n 114 ls st S iv Q) (kf : ¬ x = y → am_R E d mX8_advance k n 106 ls st S iv Q) : am_R E d mX8_advance k n 103 ls (.int y :: .int x :: st) S iv Q := am_icmp_eq dX8_advance_103 (by decide) kt kf
theorem sX8_advance_106 {a0 a1 : Value} (hv : am_rf a0 = true) (h : am_R E d mX8_advance k n 107 [a0, a1] (a0 :: st) S iv Q) : am_R E d mX8_advance k n 106 [a0, a1] st S iv Q := am_aload_n dX8_advance_106 rfl rfl hv h
theorem sX8_advance_107 {ls : List Value} {a : Nat} (ha : S.1 a = some (.inl 8)) (h : am_R E d mX8_advance k n 110 ls (.int (iv a 2) :: st) S iv Q) : am_R E d mX8_advance k n 107 ls (.ref a :: st) S iv Q := am_getI (ci := 8) dX8_advance_107 rfl rfl (by decide) wq_143 uq_8 rfl ha h
theorem sX8_advance_110 {a0 a1 : Value} (h : am_R E d mX8_advance k n 111 [a0, a1] (.int 2 :: st) S iv Q) : am_R E d mX8_advance k n 110 [a0, a1] st S iv Q := am_iconst dX8_advance_110 (by decide) h
theorem sX8_advance_111 {ls : List Value} {x y : Int32} (kt : ¬ x = y → am_R E d mX8_advance k n 136 ls st S iv Q) (kf : x = y → am_R E d mX8_advance k n 114 ls st S iv Q) : am_R E d mX8_advance k n 111 ls (.int y :: .int x :: st) S iv Q := am_icmp_ne dX8_advance_111 (by decide) kt kf
theorem sX8_advance_114 {a0 a1 : Value} (hv : am_rf a0 = true) (h : am_R E d mX8_advance k n 115 [a0, a1] (a0 :: st) S iv Q) : am_R E d mX8_advance k n 114 [a0, a1] st S iv Q := am_aload_n dX8_advance_114 rfl rfl hv h
theorem sX8_advance_115 {ls : List Value} {a b : Nat} (ha : S.1 a = some (.inl 8)) (hb : S.2.1 a 0 = some b) (h : am_R E d mX8_advance k n 118 ls (.ref b :: st) S iv Q) : am_R E d mX8_advance k n 115 ls (.ref a :: st) S iv Q := am_getR (ci := 8) dX8_advance_115 rfl rfl (by decide) wq_133 uq_8 rfl ha hb h
theorem sX8_advance_118 {a0 : Value} {x : Int32} (h : am_R E d mX8_advance k n 119 [a0, .int x] (.int x :: st) S iv Q) : am_R E d mX8_advance k n 118 [a0, .int x] st S iv Q := am_iload_n dX8_advance_118 rfl rfl h
theorem sX8_advance_119 {ls : List Value} {a m : Nat} {i : Int32} (ha : S.1 a = some (.inr (.byte, m))) (hi : vp_in i m) (h : am_R E d mX8_advance k n 120 ls (.int (iv a i.toNatClampNeg) :: st) S iv Q) : am_R E d mX8_advance k n 119 ls (.int i :: .ref a :: st) S iv Q := am_baload dX8_advance_119 ha hi h
theorem sX8_advance_120 {ls : List Value} {x1 : Value} (hst : (st.map fun v => v.category).sum ≤ 8) (hM : am_M E d mX8_typeOf 0 0 [x1] S iv (am_K3 E (d + 1) mX8_advance k n 120 ls st Q)) : am_R E (d + 1) mX8_advance k n 120 ls (x1 :: st) S iv Q := am_cS (M' := mX8_typeOf) (as := [x1]) dX8_advance_120 rfl wq_141 wq_142 wq_139 wq_138 hy_X8_typeOf (by decide) hst (by omega) (by omega) hM
theorem sX8_advance_120_k {ls : List Value} {x1 : Value} {k' n' : Nat} (hst : (st.map fun v => v.category).sum ≤ 8) (hM : am_M E d mX8_typeOf k' n' [x1] S iv (am_K3 E (d + 1) mX8_advance k n 120 ls st Q)) : am_R E (d + 1) mX8_advance (k' + k) (n' + n) 120 ls (x1 :: st) S iv Q := am_cS (M' := mX8_typeOf) (as := [x1]) dX8_advance_120 rfl wq_141 wq_142 wq_139 wq_138 hy_X8_typeOf (by decide) hst (by omega) (by omega) hM
theorem sX8_advance_123 {a0 a1 : Value} (hv : am_rf a0 = true) (h : am_R E d mX8_advance k n 124 [a0, a1] (a0 :: st) S iv Q) : am_R E d mX8_advance k n 123 [a0, a1] st S iv Q := am_aload_n dX8_advance_123 rfl rfl hv h
theorem sX8_advance_124 {ls : List Value} {a : Nat} (ha : S.1 a = some (.inl 8)) (h : am_R E d mX8_advance k n 127 ls (.int (iv a 2) :: st) S iv Q) : am_R E d mX8_advance k n 124 ls (.ref a :: st) S iv Q := am_getI (ci := 8) dX8_advance_124 rfl rfl (by decide) wq_143 uq_8 rfl ha h
theorem sX8_advance_127 {ls : List Value} {x y : Int32} (kt : ¬ x = y → am_R E d mX8_advance k n 136 ls st S iv Q) (kf : x = y → am_R E d mX8_advance k n 130 ls st S iv Q) : am_R E d mX8_advance k n 127 ls (.int y :: .int x :: st) S iv Q := am_icmp_ne dX8_advance_127 (by decide) kt kf
theorem sX8_advance_130 {a0 : Value} {x : Int32} (h : am_R E d mX8_advance k n 133 [a0, .int (x + 1)] st S iv Q) : am_R E d mX8_advance k n 130 [a0, .int x] st S iv Q := am_iinc dX8_advance_130 rfl rfl (by decide) h
theorem sX8_advance_133 {ls : List Value} (h : am_R E d mX8_advance k n 90 ls st S iv Q) : am_R E d mX8_advance k n 133 ls st S iv Q := am_goto dX8_advance_133 (by decide) h
theorem sX8_advance_136 {a0 a1 : Value} (hv : am_rf a0 = true) (h : am_R E d mX8_advance k n 137 [a0, a1] (a0 :: st) S iv Q) : am_R E d mX8_advance k n 136 [a0, a1] st S iv Q := am_aload_n dX8_advance_136 rfl rfl hv h
theorem sX8_advance_137 {a0 : Value} {x : Int32} (h : am_R E d mX8_advance k n 138 [a0, .int x] (.int x :: st) S iv Q) : am_R E d mX8_advance k n 137 [a0, .int x] st S iv Q := am_iload_n dX8_advance_137 rfl rfl h
theorem sX8_advance_138 {ls : List Value} {a : Nat} {x : Int32} (ha : S.1 a = some (.inl 8)) (h : am_R E d mX8_advance k n 141 ls st S (am_w iv a 4 x) Q) : am_R E d mX8_advance k n 138 ls (.int x :: .ref a :: st) S iv Q := am_putI (ci := 8) dX8_advance_138 rfl rfl (by decide) wq_136 uq_8 tyX8_ok nmX8 (Or.inl rfl) rfl ha h
theorem sX8_advance_141 {ls : List Value} (h : Q (.inl none) S iv) : am_R E d mX8_advance k n 141 ls [] S iv Q := am_return dX8_advance_141 rfl h
theorem dX8_typeOf_0 : decode cX8_typeOf 0 = .ok (.iload_n 0, 1) := by decide +kernel
theorem dX8_typeOf_1 : decode cX8_typeOf 1 = .ok (.bipush 97, 2) := by decide +kernel
theorem dX8_typeOf_3 : decode cX8_typeOf 3 = .ok (.if_icmp .lt 11, 3) := by decide +kernel
theorem dX8_typeOf_6 : decode cX8_typeOf 6 = .ok (.iload_n 0, 1) := by decide +kernel
theorem dX8_typeOf_7 : decode cX8_typeOf 7 = .ok (.bipush 122, 2) := by decide +kernel
theorem dX8_typeOf_9 : decode cX8_typeOf 9 = .ok (.if_icmp .gt 5, 3) := by decide +kernel
theorem dX8_typeOf_12 : decode cX8_typeOf 12 = .ok (.iconst 1, 1) := by decide +kernel
theorem dX8_typeOf_13 : decode cX8_typeOf 13 = .ok (.ireturn, 1) := by decide +kernel
theorem dX8_typeOf_14 : decode cX8_typeOf 14 = .ok (.iload_n 0, 1) := by decide +kernel
theorem dX8_typeOf_15 : decode cX8_typeOf 15 = .ok (.bipush 48, 2) := by decide +kernel
theorem dX8_typeOf_17 : decode cX8_typeOf 17 = .ok (.if_icmp .lt 11, 3) := by decide +kernel
theorem dX8_typeOf_20 : decode cX8_typeOf 20 = .ok (.iload_n 0, 1) := by decide +kernel
theorem dX8_typeOf_21 : decode cX8_typeOf 21 = .ok (.bipush 57, 2) := by decide +kernel
theorem dX8_typeOf_23 : decode cX8_typeOf 23 = .ok (.if_icmp .gt 5, 3) := by decide +kernel
theorem dX8_typeOf_26 : decode cX8_typeOf 26 = .ok (.iconst 2, 1) := by decide +kernel
theorem dX8_typeOf_27 : decode cX8_typeOf 27 = .ok (.ireturn, 1) := by decide +kernel
theorem dX8_typeOf_28 : decode cX8_typeOf 28 = .ok (.ldc 36, 2) := by decide +kernel
theorem dX8_typeOf_30 : decode cX8_typeOf 30 = .ok (.iload_n 0, 1) := by decide +kernel
theorem dX8_typeOf_31 : decode cX8_typeOf 31 = .ok (.sipush 255, 3) := by decide +kernel
theorem dX8_typeOf_34 : decode cX8_typeOf 34 = .ok (.iand, 1) := by decide +kernel
theorem dX8_typeOf_35 : decode cX8_typeOf 35 = .ok (.i2c, 1) := by decide +kernel
theorem dX8_typeOf_36 : decode cX8_typeOf 36 = .ok (.invokevirtual 38, 3) := by decide +kernel
theorem dX8_typeOf_39 : decode cX8_typeOf 39 = .ok (.ifCond .lt 7, 3) := by decide +kernel
theorem dX8_typeOf_42 : decode cX8_typeOf 42 = .ok (.iconst 3, 1) := by decide +kernel
theorem dX8_typeOf_43 : decode cX8_typeOf 43 = .ok (.goto 4, 3) := by decide +kernel
theorem dX8_typeOf_46 : decode cX8_typeOf 46 = .ok (.iconst 4, 1) := by decide +kernel
theorem dX8_typeOf_47 : decode cX8_typeOf 47 = .ok (.ireturn, 1) := by decide +kernel
theorem sX8_typeOf_0 {x : Int32} (h : am_R E d mX8_typeOf k n 1 [.int x] (.int x :: st) S iv Q) : am_R E d mX8_typeOf k n 0 [.int x] st S iv Q := am_iload_n dX8_typeOf_0 rfl rfl h
theorem sX8_typeOf_1 {a0 : Value} (h : am_R E d mX8_typeOf k n 3 [a0] (.int 97 :: st) S iv Q) : am_R E d mX8_typeOf k n 1 [a0] st S iv Q := am_bipush dX8_typeOf_1 (by decide) h
theorem sX8_typeOf_3 {ls : List Value} {x y : Int32} (kt : x < y → am_R E d mX8_typeOf k n 14 ls st S iv Q) (kf : ¬ x < y → am_R E d mX8_typeOf k n 6 ls st S iv Q) : am_R E d mX8_typeOf k n 3 ls (.int y :: .int x :: st) S iv Q := am_icmp_lt dX8_typeOf_3 (by decide) kt kf
theorem sX8_typeOf_6 {x : Int32} (h : am_R E d mX8_typeOf k n 7 [.int x] (.int x :: st) S iv Q) : am_R E d mX8_typeOf k n 6 [.int x] st S iv Q := am_iload_n dX8_typeOf_6 rfl rfl h
theorem sX8_typeOf_7 {a0 : Value} (h : am_R E d mX8_typeOf k n 9 [a0] (.int 122 :: st) S iv Q) : am_R E d mX8_typeOf k n 7 [a0] st S iv Q := am_bipush dX8_typeOf_7 (by decide) h
theorem sX8_typeOf_9 {ls : List Value} {x y : Int32} (kt : y < x → am_R E d mX8_typeOf k n 14 ls st S iv Q) (kf : ¬ y < x → am_R E d mX8_typeOf k n 12 ls st S iv Q) : am_R E d mX8_typeOf k n 9 ls (.int y :: .int x :: st) S iv Q := am_icmp_gt dX8_typeOf_9 (by decide) kt kf
theorem sX8_typeOf_12 {a0 : Value} (h : am_R E d mX8_typeOf k n 13 [a0] (.int 1 :: st) S iv Q) : am_R E d mX8_typeOf k n 12 [a0] st S iv Q := am_iconst dX8_typeOf_12 (by decide) h
theorem sX8_typeOf_13 {ls : List Value} {x : Int32} (h : Q (.inl (some (.int x))) S iv) : am_R E d mX8_typeOf k n 13 ls [.int x] S iv Q := am_ireturn dX8_typeOf_13 rfl h
theorem sX8_typeOf_14 {x : Int32} (h : am_R E d mX8_typeOf k n 15 [.int x] (.int x :: st) S iv Q) : am_R E d mX8_typeOf k n 14 [.int x] st S iv Q := am_iload_n dX8_typeOf_14 rfl rfl h
theorem sX8_typeOf_15 {a0 : Value} (h : am_R E d mX8_typeOf k n 17 [a0] (.int 48 :: st) S iv Q) : am_R E d mX8_typeOf k n 15 [a0] st S iv Q := am_bipush dX8_typeOf_15 (by decide) h
theorem sX8_typeOf_17 {ls : List Value} {x y : Int32} (kt : x < y → am_R E d mX8_typeOf k n 28 ls st S iv Q) (kf : ¬ x < y → am_R E d mX8_typeOf k n 20 ls st S iv Q) : am_R E d mX8_typeOf k n 17 ls (.int y :: .int x :: st) S iv Q := am_icmp_lt dX8_typeOf_17 (by decide) kt kf
theorem sX8_typeOf_20 {x : Int32} (h : am_R E d mX8_typeOf k n 21 [.int x] (.int x :: st) S iv Q) : am_R E d mX8_typeOf k n 20 [.int x] st S iv Q := am_iload_n dX8_typeOf_20 rfl rfl h
theorem sX8_typeOf_21 {a0 : Value} (h : am_R E d mX8_typeOf k n 23 [a0] (.int 57 :: st) S iv Q) : am_R E d mX8_typeOf k n 21 [a0] st S iv Q := am_bipush dX8_typeOf_21 (by decide) h
theorem sX8_typeOf_23 {ls : List Value} {x y : Int32} (kt : y < x → am_R E d mX8_typeOf k n 28 ls st S iv Q) (kf : ¬ y < x → am_R E d mX8_typeOf k n 26 ls st S iv Q) : am_R E d mX8_typeOf k n 23 ls (.int y :: .int x :: st) S iv Q := am_icmp_gt dX8_typeOf_23 (by decide) kt kf
theorem sX8_typeOf_26 {a0 : Value} (h : am_R E d mX8_typeOf k n 27 [a0] (.int 2 :: st) S iv Q) : am_R E d mX8_typeOf k n 26 [a0] st S iv Q := am_iconst dX8_typeOf_26 (by decide) h
theorem sX8_typeOf_27 {ls : List Value} {x : Int32} (h : Q (.inl (some (.int x))) S iv) : am_R E d mX8_typeOf k n 27 ls [.int x] S iv Q := am_ireturn dX8_typeOf_27 rfl h
theorem sX8_typeOf_28 {a0 : Value} (h : am_R E d mX8_typeOf k n 30 [a0] (.retAddr 1 :: st) S iv Q) : am_R E d mX8_typeOf k n 28 [a0] st S iv Q := am_ldcS (tx := ";()+-*/<=") dX8_typeOf_28 (List.mem_of_getElem? (i := 1) rfl) h
theorem sX8_typeOf_30 {x : Int32} (h : am_R E d mX8_typeOf k n 31 [.int x] (.int x :: st) S iv Q) : am_R E d mX8_typeOf k n 30 [.int x] st S iv Q := am_iload_n dX8_typeOf_30 rfl rfl h
theorem sX8_typeOf_31 {a0 : Value} (h : am_R E d mX8_typeOf k n 34 [a0] (.int 255 :: st) S iv Q) : am_R E d mX8_typeOf k n 31 [a0] st S iv Q := am_sipush dX8_typeOf_31 (by decide) h
theorem sX8_typeOf_34 {ls : List Value} {x y : Int32} (h : am_R E d mX8_typeOf k n 35 ls (.int (x &&& y) :: st) S iv Q) : am_R E d mX8_typeOf k n 34 ls (.int y :: .int x :: st) S iv Q := am_iand dX8_typeOf_34 h
theorem sX8_typeOf_35 {ls : List Value} {x : Int32} (h : am_R E d mX8_typeOf k n 36 ls (.int (x.toUInt32 % 65536).toInt32 :: st) S iv Q) : am_R E d mX8_typeOf k n 35 ls (.int x :: st) S iv Q := am_i2c dX8_typeOf_35 h
theorem sX8_typeOf_36 {ls : List Value} {x1 : Value} {j : Nat} (hj : j < am_by.length) (hst : (st.map fun v => v.category).sum ≤ 8) (hM : am_M E d mJ0_indexOf_0f7a4 0 0 [.retAddr j, x1] S iv (am_K3 E (d + 1) mX8_typeOf k n 36 ls st Q)) : am_R E (d + 1) mX8_typeOf k n 36 ls (x1 :: .retAddr j :: st) S iv Q := am_cT' (M' := mJ0_indexOf_0f7a4) (as := [x1]) dX8_typeOf_36 rfl wq_146 wq_147 wq_148 wq_5 wq_144 hy_J0_indexOf_0f7a4 (by decide) hj hst (by omega) (by omega) hM
theorem sX8_typeOf_39 {ls : List Value} {x : Int32} (kt : x < 0 → am_R E d mX8_typeOf k n 46 ls st S iv Q) (kf : ¬ x < 0 → am_R E d mX8_typeOf k n 42 ls st S iv Q) : am_R E d mX8_typeOf k n 39 ls (.int x :: st) S iv Q := am_if_lt dX8_typeOf_39 (by decide) kt kf
theorem sX8_typeOf_42 {a0 : Value} (h : am_R E d mX8_typeOf k n 43 [a0] (.int 3 :: st) S iv Q) : am_R E d mX8_typeOf k n 42 [a0] st S iv Q := am_iconst dX8_typeOf_42 (by decide) h
theorem sX8_typeOf_43 {ls : List Value} (h : am_R E d mX8_typeOf k n 47 ls st S iv Q) : am_R E d mX8_typeOf k n 43 ls st S iv Q := am_goto dX8_typeOf_43 (by decide) h
theorem sX8_typeOf_46 {a0 : Value} (h : am_R E d mX8_typeOf k n 47 [a0] (.int 4 :: st) S iv Q) : am_R E d mX8_typeOf k n 46 [a0] st S iv Q := am_iconst dX8_typeOf_46 (by decide) h
theorem sX8_typeOf_47 {ls : List Value} {x : Int32} (h : Q (.inl (some (.int x))) S iv) : am_R E d mX8_typeOf k n 47 ls [.int x] S iv Q := am_ireturn dX8_typeOf_47 rfl h
theorem dX8_isEnd_0 : decode cX8_isEnd 0 = .ok (.aload_n 0, 1) := by decide +kernel
theorem dX8_isEnd_1 : decode cX8_isEnd 1 = .ok (.getfield 33, 3) := by decide +kernel
theorem dX8_isEnd_4 : decode cX8_isEnd 4 = .ok (.ifCond .ne 7, 3) := by decide +kernel
theorem dX8_isEnd_7 : decode cX8_isEnd 7 = .ok (.iconst 1, 1) := by decide +kernel
theorem dX8_isEnd_8 : decode cX8_isEnd 8 = .ok (.goto 4, 3) := by decide +kernel
theorem dX8_isEnd_11 : decode cX8_isEnd 11 = .ok (.iconst 0, 1) := by decide +kernel
theorem dX8_isEnd_12 : decode cX8_isEnd 12 = .ok (.ireturn, 1) := by decide +kernel
theorem sX8_isEnd_0 {a0 : Value} (hv : am_rf a0 = true) (h : am_R E d mX8_isEnd k n 1 [a0] (a0 :: st) S iv Q) : am_R E d mX8_isEnd k n 0 [a0] st S iv Q := am_aload_n dX8_isEnd_0 rfl rfl hv h
theorem sX8_isEnd_1 {ls : List Value} {a : Nat} (ha : S.1 a = some (.inl 8)) (h : am_R E d mX8_isEnd k n 4 ls (.int (iv a 2) :: st) S iv Q) : am_R E d mX8_isEnd k n 1 ls (.ref a :: st) S iv Q := am_getI (ci := 8) dX8_isEnd_1 rfl rfl (by decide) wq_143 uq_8 rfl ha h
theorem sX8_isEnd_4 {ls : List Value} {x : Int32} (kt : ¬ x = 0 → am_R E d mX8_isEnd k n 11 ls st S iv Q) (kf : x = 0 → am_R E d mX8_isEnd k n 7 ls st S iv Q) : am_R E d mX8_isEnd k n 4 ls (.int x :: st) S iv Q := am_if_ne dX8_isEnd_4 (by decide) kt kf
theorem sX8_isEnd_7 {a0 : Value} (h : am_R E d mX8_isEnd k n 8 [a0] (.int 1 :: st) S iv Q) : am_R E d mX8_isEnd k n 7 [a0] st S iv Q := am_iconst dX8_isEnd_7 (by decide) h
theorem sX8_isEnd_8 {ls : List Value} (h : am_R E d mX8_isEnd k n 12 ls st S iv Q) : am_R E d mX8_isEnd k n 8 ls st S iv Q := am_goto dX8_isEnd_8 (by decide) h
theorem sX8_isEnd_11 {a0 : Value} (h : am_R E d mX8_isEnd k n 12 [a0] (.int 0 :: st) S iv Q) : am_R E d mX8_isEnd k n 11 [a0] st S iv Q := am_iconst dX8_isEnd_11 (by decide) h
theorem sX8_isEnd_12 {ls : List Value} {x : Int32} (hn : narrow .boolean (.int x) = .int x) (h : Q (.inl (some (.int x))) S iv) : am_R E d mX8_isEnd k n 12 ls [.int x] S iv Q := am_zreturn dX8_isEnd_12 rfl hn h
theorem dX8_isAnyWord_0 : decode cX8_isAnyWord 0 = .ok (.aload_n 0, 1) := by decide +kernel
theorem dX8_isAnyWord_1 : decode cX8_isAnyWord 1 = .ok (.getfield 33, 3) := by decide +kernel
theorem dX8_isAnyWord_4 : decode cX8_isAnyWord 4 = .ok (.iconst 1, 1) := by decide +kernel
theorem dX8_isAnyWord_5 : decode cX8_isAnyWord 5 = .ok (.if_icmp .ne 7, 3) := by decide +kernel
theorem dX8_isAnyWord_8 : decode cX8_isAnyWord 8 = .ok (.iconst 1, 1) := by decide +kernel
theorem dX8_isAnyWord_9 : decode cX8_isAnyWord 9 = .ok (.goto 4, 3) := by decide +kernel
theorem dX8_isAnyWord_12 : decode cX8_isAnyWord 12 = .ok (.iconst 0, 1) := by decide +kernel
theorem dX8_isAnyWord_13 : decode cX8_isAnyWord 13 = .ok (.ireturn, 1) := by decide +kernel
theorem sX8_isAnyWord_0 {a0 : Value} (hv : am_rf a0 = true) (h : am_R E d mX8_isAnyWord k n 1 [a0] (a0 :: st) S iv Q) : am_R E d mX8_isAnyWord k n 0 [a0] st S iv Q := am_aload_n dX8_isAnyWord_0 rfl rfl hv h
theorem sX8_isAnyWord_1 {ls : List Value} {a : Nat} (ha : S.1 a = some (.inl 8)) (h : am_R E d mX8_isAnyWord k n 4 ls (.int (iv a 2) :: st) S iv Q) : am_R E d mX8_isAnyWord k n 1 ls (.ref a :: st) S iv Q := am_getI (ci := 8) dX8_isAnyWord_1 rfl rfl (by decide) wq_143 uq_8 rfl ha h
theorem sX8_isAnyWord_4 {a0 : Value} (h : am_R E d mX8_isAnyWord k n 5 [a0] (.int 1 :: st) S iv Q) : am_R E d mX8_isAnyWord k n 4 [a0] st S iv Q := am_iconst dX8_isAnyWord_4 (by decide) h
theorem sX8_isAnyWord_5 {ls : List Value} {x y : Int32} (kt : ¬ x = y → am_R E d mX8_isAnyWord k n 12 ls st S iv Q) (kf : x = y → am_R E d mX8_isAnyWord k n 8 ls st S iv Q) : am_R E d mX8_isAnyWord k n 5 ls (.int y :: .int x :: st) S iv Q := am_icmp_ne dX8_isAnyWord_5 (by decide) kt kf
theorem sX8_isAnyWord_8 {a0 : Value} (h : am_R E d mX8_isAnyWord k n 9 [a0] (.int 1 :: st) S iv Q) : am_R E d mX8_isAnyWord k n 8 [a0] st S iv Q := am_iconst dX8_isAnyWord_8 (by decide) h
theorem sX8_isAnyWord_9 {ls : List Value} (h : am_R E d mX8_isAnyWord k n 13 ls st S iv Q) : am_R E d mX8_isAnyWord k n 9 ls st S iv Q := am_goto dX8_isAnyWord_9 (by decide) h
theorem sX8_isAnyWord_12 {a0 : Value} (h : am_R E d mX8_isAnyWord k n 13 [a0] (.int 0 :: st) S iv Q) : am_R E d mX8_isAnyWord k n 12 [a0] st S iv Q := am_iconst dX8_isAnyWord_12 (by decide) h
theorem sX8_isAnyWord_13 {ls : List Value} {x : Int32} (hn : narrow .boolean (.int x) = .int x) (h : Q (.inl (some (.int x))) S iv) : am_R E d mX8_isAnyWord k n 13 ls [.int x] S iv Q := am_zreturn dX8_isAnyWord_13 rfl hn h
theorem dX8_isNumber_0 : decode cX8_isNumber 0 = .ok (.aload_n 0, 1) := by decide +kernel
theorem dX8_isNumber_1 : decode cX8_isNumber 1 = .ok (.getfield 33, 3) := by decide +kernel
theorem dX8_isNumber_4 : decode cX8_isNumber 4 = .ok (.iconst 2, 1) := by decide +kernel
theorem dX8_isNumber_5 : decode cX8_isNumber 5 = .ok (.if_icmp .ne 7, 3) := by decide +kernel
theorem dX8_isNumber_8 : decode cX8_isNumber 8 = .ok (.iconst 1, 1) := by decide +kernel
theorem dX8_isNumber_9 : decode cX8_isNumber 9 = .ok (.goto 4, 3) := by decide +kernel
theorem dX8_isNumber_12 : decode cX8_isNumber 12 = .ok (.iconst 0, 1) := by decide +kernel
theorem dX8_isNumber_13 : decode cX8_isNumber 13 = .ok (.ireturn, 1) := by decide +kernel
theorem sX8_isNumber_0 {a0 : Value} (hv : am_rf a0 = true) (h : am_R E d mX8_isNumber k n 1 [a0] (a0 :: st) S iv Q) : am_R E d mX8_isNumber k n 0 [a0] st S iv Q := am_aload_n dX8_isNumber_0 rfl rfl hv h
theorem sX8_isNumber_1 {ls : List Value} {a : Nat} (ha : S.1 a = some (.inl 8)) (h : am_R E d mX8_isNumber k n 4 ls (.int (iv a 2) :: st) S iv Q) : am_R E d mX8_isNumber k n 1 ls (.ref a :: st) S iv Q := am_getI (ci := 8) dX8_isNumber_1 rfl rfl (by decide) wq_143 uq_8 rfl ha h
theorem sX8_isNumber_4 {a0 : Value} (h : am_R E d mX8_isNumber k n 5 [a0] (.int 2 :: st) S iv Q) : am_R E d mX8_isNumber k n 4 [a0] st S iv Q := am_iconst dX8_isNumber_4 (by decide) h
theorem sX8_isNumber_5 {ls : List Value} {x y : Int32} (kt : ¬ x = y → am_R E d mX8_isNumber k n 12 ls st S iv Q) (kf : x = y → am_R E d mX8_isNumber k n 8 ls st S iv Q) : am_R E d mX8_isNumber k n 5 ls (.int y :: .int x :: st) S iv Q := am_icmp_ne dX8_isNumber_5 (by decide) kt kf
theorem sX8_isNumber_8 {a0 : Value} (h : am_R E d mX8_isNumber k n 9 [a0] (.int 1 :: st) S iv Q) : am_R E d mX8_isNumber k n 8 [a0] st S iv Q := am_iconst dX8_isNumber_8 (by decide) h
theorem sX8_isNumber_9 {ls : List Value} (h : am_R E d mX8_isNumber k n 13 ls st S iv Q) : am_R E d mX8_isNumber k n 9 ls st S iv Q := am_goto dX8_isNumber_9 (by decide) h
theorem sX8_isNumber_12 {a0 : Value} (h : am_R E d mX8_isNumber k n 13 [a0] (.int 0 :: st) S iv Q) : am_R E d mX8_isNumber k n 12 [a0] st S iv Q := am_iconst dX8_isNumber_12 (by decide) h
theorem sX8_isNumber_13 {ls : List Value} {x : Int32} (hn : narrow .boolean (.int x) = .int x) (h : Q (.inl (some (.int x))) S iv) : am_R E d mX8_isNumber k n 13 ls [.int x] S iv Q := am_zreturn dX8_isNumber_13 rfl hn h
theorem dX8_isSign_0 : decode cX8_isSign 0 = .ok (.aload_n 0, 1) := by decide +kernel
theorem dX8_isSign_1 : decode cX8_isSign 1 = .ok (.getfield 33, 3) := by decide +kernel
theorem dX8_isSign_4 : decode cX8_isSign 4 = .ok (.iconst 3, 1) := by decide +kernel
theorem dX8_isSign_5 : decode cX8_isSign 5 = .ok (.if_icmp .ne 31, 3) := by decide +kernel
theorem dX8_isSign_8 : decode cX8_isSign 8 = .ok (.aload_n 0, 1) := by decide +kernel
theorem dX8_isSign_9 : decode cX8_isSign 9 = .ok (.getfield 26, 3) := by decide +kernel
theorem dX8_isSign_12 : decode cX8_isSign 12 = .ok (.aload_n 0, 1) := by decide +kernel
theorem dX8_isSign_13 : decode cX8_isSign 13 = .ok (.getfield 19, 3) := by decide +kernel
theorem dX8_isSign_16 : decode cX8_isSign 16 = .ok (.if_icmp .ge 20, 3) := by decide +kernel
theorem dX8_isSign_19 : decode cX8_isSign 19 = .ok (.aload_n 0, 1) := by decide +kernel
theorem dX8_isSign_20 : decode cX8_isSign 20 = .ok (.getfield 7, 3) := by decide +kernel
theorem dX8_isSign_23 : decode cX8_isSign 23 = .ok (.aload_n 0, 1) := by decide +kernel
theorem dX8_isSign_24 : decode cX8_isSign 24 = .ok (.getfield 26, 3) := by decide +kernel
theorem dX8_isSign_27 : decode cX8_isSign 27 = .ok (.baload, 1) := by decide +kernel
theorem dX8_isSign_28 : decode cX8_isSign 28 = .ok (.iload_n 1, 1) := by decide +kernel
theorem dX8_isSign_29 : decode cX8_isSign 29 = .ok (.if_icmp .ne 7, 3) := by decide +kernel
theorem dX8_isSign_32 : decode cX8_isSign 32 = .ok (.iconst 1, 1) := by decide +kernel
theorem dX8_isSign_33 : decode cX8_isSign 33 = .ok (.goto 4, 3) := by decide +kernel
theorem dX8_isSign_36 : decode cX8_isSign 36 = .ok (.iconst 0, 1) := by decide +kernel
theorem dX8_isSign_37 : decode cX8_isSign 37 = .ok (.ireturn, 1) := by decide +kernel
theorem sX8_isSign_0 {a0 a1 : Value} (hv : am_rf a0 = true) (h : am_R E d mX8_isSign k n 1 [a0, a1] (a0 :: st) S iv Q) : am_R E d mX8_isSign k n 0 [a0, a1] st S iv Q := am_aload_n dX8_isSign_0 rfl rfl hv h
theorem sX8_isSign_1 {ls : List Value} {a : Nat} (ha : S.1 a = some (.inl 8)) (h : am_R E d mX8_isSign k n 4 ls (.int (iv a 2) :: st) S iv Q) : am_R E d mX8_isSign k n 1 ls (.ref a :: st) S iv Q := am_getI (ci := 8) dX8_isSign_1 rfl rfl (by decide) wq_143 uq_8 rfl ha h
theorem sX8_isSign_4 {a0 a1 : Value} (h : am_R E d mX8_isSign k n 5 [a0, a1] (.int 3 :: st) S iv Q) : am_R E d mX8_isSign k n 4 [a0, a1] st S iv Q := am_iconst dX8_isSign_4 (by decide) h
theorem sX8_isSign_5 {ls : List Value} {x y : Int32} (kt : ¬ x = y → am_R E d mX8_isSign k n 36 ls st S iv Q) (kf : x = y → am_R E d mX8_isSign k n 8 ls st S iv Q) : am_R E d mX8_isSign k n 5 ls (.int y :: .int x :: st) S iv Q := am_icmp_ne dX8_isSign_5 (by decide) kt kf
theorem sX8_isSign_8 {a0 a1 : Value} (hv : am_rf a0 = true) (h : am_R E d mX8_isSign k n 9 [a0, a1] (a0 :: st) S iv Q) : am_R E d mX8_isSign k n 8 [a0, a1] st S iv Q := am_aload_n dX8_isSign_8 rfl rfl hv h
theorem sX8_isSign_9 {ls : List Value} {a : Nat} (ha : S.1 a = some (.inl 8)) (h : am_R E d mX8_isSign k n 12 ls (.int (iv a 3) :: st) S iv Q) : am_R E d mX8_isSign k n 9 ls (.ref a :: st) S iv Q := am_getI (ci := 8) dX8_isSign_9 rfl rfl (by decide) wq_137 uq_8 rfl ha h
theorem sX8_isSign_12 {a0 a1 : Value} (hv : am_rf a0 = true) (h : am_R E d mX8_isSign k n 13 [a0, a1] (a0 :: st) S iv Q) : am_R E d mX8_isSign k n 12 [a0, a1] st S iv Q := am_aload_n dX8_isSign_12 rfl rfl hv h
theorem sX8_isSign_13 {ls : List Value} {a : Nat} (ha : S.1 a = some (.inl 8)) (h : am_R E d mX8_isSign k n 16 ls (.int (iv a 1) :: st) S iv Q) : am_R E d mX8_isSign k n 13 ls (.ref a :: st) S iv Q := am_getI (ci := 8) dX8_isSign_13 rfl rfl (by decide) wq_135 uq_8 rfl ha h
theorem sX8_isSign_16 {ls : List Value} {x y : Int32} (kt : y ≤ x → am_R E d mX8_isSign k n 36 ls st S iv Q) (kf : ¬ y ≤ x → am_R E d mX8_isSign k n 19 ls st S iv Q) : am_R E d mX8_isSign k n 16 ls (.int y :: .int x :: st) S iv Q := am_icmp_ge dX8_isSign_16 (by decide) kt kf
theorem sX8_isSign_19 {a0 a1 : Value} (hv : am_rf a0 = true) (h : am_R E d mX8_isSign k n 20 [a0, a1] (a0 :: st) S iv Q) : am_R E d mX8_isSign k n 19 [a0, a1] st S iv Q := am_aload_n dX8_isSign_19 rfl rfl hv h
theorem sX8_isSign_20 {ls : List Value} {a b : Nat} (ha : S.1 a = some (.inl 8)) (hb : S.2.1 a 0 = some b) (h : am_R E d mX8_isSign k n 23 ls (.ref b :: st) S iv Q) : am_R E d mX8_isSign k n 20 ls (.ref a :: st) S iv Q := am_getR (ci := 8) dX8_isSign_20 rfl rfl (by decide) wq_133 uq_8 rfl ha hb h
theorem sX8_isSign_23 {a0 a1 : Value} (hv : am_rf a0 = true) (h : am_R E d mX8_isSign k n 24 [a0, a1] (a0 :: st) S iv Q) : am_R E d mX8_isSign k n 23 [a0, a1] st S iv Q := am_aload_n dX8_isSign_23 rfl rfl hv h
theorem sX8_isSign_24 {ls : List Value} {a : Nat} (ha : S.1 a = some (.inl 8)) (h : am_R E d mX8_isSign k n 27 ls (.int (iv a 3) :: st) S iv Q) : am_R E d mX8_isSign k n 24 ls (.ref a :: st) S iv Q := am_getI (ci := 8) dX8_isSign_24 rfl rfl (by decide) wq_137 uq_8 rfl ha h
theorem sX8_isSign_27 {ls : List Value} {a m : Nat} {i : Int32} (ha : S.1 a = some (.inr (.byte, m))) (hi : vp_in i m) (h : am_R E d mX8_isSign k n 28 ls (.int (iv a i.toNatClampNeg) :: st) S iv Q) : am_R E d mX8_isSign k n 27 ls (.int i :: .ref a :: st) S iv Q := am_baload dX8_isSign_27 ha hi h
theorem sX8_isSign_28 {a0 : Value} {x : Int32} (h : am_R E d mX8_isSign k n 29 [a0, .int x] (.int x :: st) S iv Q) : am_R E d mX8_isSign k n 28 [a0, .int x] st S iv Q := am_iload_n dX8_isSign_28 rfl rfl h
theorem sX8_isSign_29 {ls : List Value} {x y : Int32} (kt : ¬ x = y → am_R E d mX8_isSign k n 36 ls st S iv Q) (kf : x = y → am_R E d mX8_isSign k n 32 ls st S iv Q) : am_R E d mX8_isSign k n 29 ls (.int y :: .int x :: st) S iv Q := am_icmp_ne dX8_isSign_29 (by decide) kt kf
theorem sX8_isSign_32 {a0 a1 : Value} (h : am_R E d mX8_isSign k n 33 [a0, a1] (.int 1 :: st) S iv Q) : am_R E d mX8_isSign k n 32 [a0, a1] st S iv Q := am_iconst dX8_isSign_32 (by decide) h
theorem sX8_isSign_33 {ls : List Value} (h : am_R E d mX8_isSign k n 37 ls st S iv Q) : am_R E d mX8_isSign k n 33 ls st S iv Q := am_goto dX8_isSign_33 (by decide) h
theorem sX8_isSign_36 {a0 a1 : Value} (h : am_R E d mX8_isSign k n 37 [a0, a1] (.int 0 :: st) S iv Q) : am_R E d mX8_isSign k n 36 [a0, a1] st S iv Q := am_iconst dX8_isSign_36 (by decide) h
theorem sX8_isSign_37 {ls : List Value} {x : Int32} (hn : narrow .boolean (.int x) = .int x) (h : Q (.inl (some (.int x))) S iv) : am_R E d mX8_isSign k n 37 ls [.int x] S iv Q := am_zreturn dX8_isSign_37 rfl hn h
theorem dX8_isWord_0 : decode cX8_isWord 0 = .ok (.aload_n 0, 1) := by decide +kernel
theorem dX8_isWord_1 : decode cX8_isWord 1 = .ok (.getfield 33, 3) := by decide +kernel
theorem dX8_isWord_4 : decode cX8_isWord 4 = .ok (.iconst 1, 1) := by decide +kernel
theorem dX8_isWord_5 : decode cX8_isWord 5 = .ok (.if_icmp .ne 19, 3) := by decide +kernel
theorem dX8_isWord_8 : decode cX8_isWord 8 = .ok (.aload_n 0, 1) := by decide +kernel
theorem dX8_isWord_9 : decode cX8_isWord 9 = .ok (.getfield 23, 3) := by decide +kernel
theorem dX8_isWord_12 : decode cX8_isWord 12 = .ok (.aload_n 0, 1) := by decide +kernel
theorem dX8_isWord_13 : decode cX8_isWord 13 = .ok (.getfield 26, 3) := by decide +kernel
theorem dX8_isWord_16 : decode cX8_isWord 16 = .ok (.isub, 1) := by decide +kernel
theorem dX8_isWord_17 : decode cX8_isWord 17 = .ok (.aload_n 1, 1) := by decide +kernel
theorem dX8_isWord_18 : decode cX8_isWord 18 = .ok (.invokevirtual 44, 3) := by decide +kernel
theorem dX8_isWord_21 : decode cX8_isWord 21 = .ok (.if_icmp .eq 5, 3) := by decide +kernel
theorem dX8_isWord_24 : decode cX8_isWord 24 = .ok (.iconst 0, 1) := by decide +kernel
theorem dX8_isWord_25 : decode cX8_isWord 25 = .ok (.ireturn, 1) := by decide +kernel
theorem dX8_isWord_26 : decode cX8_isWord 26 = .ok (.iconst 0, 1) := by decide +kernel
theorem dX8_isWord_27 : decode cX8_isWord 27 = .ok (.istore_n 2, 1) := by decide +kernel
theorem dX8_isWord_28 : decode cX8_isWord 28 = .ok (.iload_n 2, 1) := by decide +kernel
theorem dX8_isWord_29 : decode cX8_isWord 29 = .ok (.aload_n 1, 1) := by decide +kernel
theorem dX8_isWord_30 : decode cX8_isWord 30 = .ok (.invokevirtual 44, 3) := by decide +kernel
theorem dX8_isWord_33 : decode cX8_isWord 33 = .ok (.if_icmp .ge 30, 3) := by decide +kernel
theorem dX8_isWord_36 : decode cX8_isWord 36 = .ok (.aload_n 0, 1) := by decide +kernel
theorem dX8_isWord_37 : decode cX8_isWord 37 = .ok (.getfield 7, 3) := by decide +kernel
theorem dX8_isWord_40 : decode cX8_isWord 40 = .ok (.aload_n 0, 1) := by decide +kernel
theorem dX8_isWord_41 : decode cX8_isWord 41 = .ok (.getfield 26, 3) := by decide +kernel
theorem dX8_isWord_44 : decode cX8_isWord 44 = .ok (.iload_n 2, 1) := by decide +kernel
theorem dX8_isWord_45 : decode cX8_isWord 45 = .ok (.iadd, 1) := by decide +kernel
theorem dX8_isWord_46 : decode cX8_isWord 46 = .ok (.baload, 1) := by decide +kernel
theorem dX8_isWord_47 : decode cX8_isWord 47 = .ok (.aload_n 1, 1) := by decide +kernel
theorem dX8_isWord_48 : decode cX8_isWord 48 = .ok (.iload_n 2, 1) := by decide +kernel
theorem dX8_isWord_49 : decode cX8_isWord 49 = .ok (.invokevirtual 48, 3) := by decide +kernel
theorem dX8_isWord_52 : decode cX8_isWord 52 = .ok (.if_icmp .eq 5, 3) := by decide +kernel
theorem dX8_isWord_55 : decode cX8_isWord 55 = .ok (.iconst 0, 1) := by decide +kernel
theorem dX8_isWord_56 : decode cX8_isWord 56 = .ok (.ireturn, 1) := by decide +kernel
theorem dX8_isWord_57 : decode cX8_isWord 57 = .ok (.iinc 2 1, 3) := by decide +kernel
theorem dX8_isWord_60 : decode cX8_isWord 60 = .ok (.goto (-32), 3) := by decide +kernel
theorem dX8_isWord_63 : decode cX8_isWord 63 = .ok (.iconst 1, 1) := by decide +kernel
theorem dX8_isWord_64 : decode cX8_isWord 64 = .ok (.ireturn, 1) := by decide +kernel
theorem sX8_isWord_0 {a0 a1 a2 : Value} (hv : am_rf a0 = true) (h : am_R E d mX8_isWord k n 1 [a0, a1, a2] (a0 :: st) S iv Q) : am_R E d mX8_isWord k n 0 [a0, a1, a2] st S iv Q := am_aload_n dX8_isWord_0 rfl rfl hv h
theorem sX8_isWord_1 {ls : List Value} {a : Nat} (ha : S.1 a = some (.inl 8)) (h : am_R E d mX8_isWord k n 4 ls (.int (iv a 2) :: st) S iv Q) : am_R E d mX8_isWord k n 1 ls (.ref a :: st) S iv Q := am_getI (ci := 8) dX8_isWord_1 rfl rfl (by decide) wq_143 uq_8 rfl ha h
theorem sX8_isWord_4 {a0 a1 a2 : Value} (h : am_R E d mX8_isWord k n 5 [a0, a1, a2] (.int 1 :: st) S iv Q) : am_R E d mX8_isWord k n 4 [a0, a1, a2] st S iv Q := am_iconst dX8_isWord_4 (by decide) h
theorem sX8_isWord_5 {ls : List Value} {x y : Int32} (kt : ¬ x = y → am_R E d mX8_isWord k n 24 ls st S iv Q) (kf : x = y → am_R E d mX8_isWord k n 8 ls st S iv Q) : am_R E d mX8_isWord k n 5 ls (.int y :: .int x :: st) S iv Q := am_icmp_ne dX8_isWord_5 (by decide) kt kf
theorem sX8_isWord_8 {a0 a1 a2 : Value} (hv : am_rf a0 = true) (h : am_R E d mX8_isWord k n 9 [a0, a1, a2] (a0 :: st) S iv Q) : am_R E d mX8_isWord k n 8 [a0, a1, a2] st S iv Q := am_aload_n dX8_isWord_8 rfl rfl hv h
theorem sX8_isWord_9 {ls : List Value} {a : Nat} (ha : S.1 a = some (.inl 8)) (h : am_R E d mX8_isWord k n 12 ls (.int (iv a 4) :: st) S iv Q) : am_R E d mX8_isWord k n 9 ls (.ref a :: st) S iv Q := am_getI (ci := 8) dX8_isWord_9 rfl rfl (by decide) wq_136 uq_8 rfl ha h
theorem sX8_isWord_12 {a0 a1 a2 : Value} (hv : am_rf a0 = true) (h : am_R E d mX8_isWord k n 13 [a0, a1, a2] (a0 :: st) S iv Q) : am_R E d mX8_isWord k n 12 [a0, a1, a2] st S iv Q := am_aload_n dX8_isWord_12 rfl rfl hv h
theorem sX8_isWord_13 {ls : List Value} {a : Nat} (ha : S.1 a = some (.inl 8)) (h : am_R E d mX8_isWord k n 16 ls (.int (iv a 3) :: st) S iv Q) : am_R E d mX8_isWord k n 13 ls (.ref a :: st) S iv Q := am_getI (ci := 8) dX8_isWord_13 rfl rfl (by decide) wq_137 uq_8 rfl ha h
theorem sX8_isWord_16 {ls : List Value} {x y : Int32} (h : am_R E d mX8_isWord k n 17 ls (.int (x - y) :: st) S iv Q) : am_R E d mX8_isWord k n 16 ls (.int y :: .int x :: st) S iv Q := am_isub dX8_isWord_16 h
theorem sX8_isWord_17 {a0 a1 a2 : Value} (hv : am_rf a1 = true) (h : am_R E d mX8_isWord k n 18 [a0, a1, a2] (a1 :: st) S iv Q) : am_R E d mX8_isWord k n 17 [a0, a1, a2] st S iv Q := am_aload_n dX8_isWord_17 rfl rfl hv h
theorem sX8_isWord_18 {ls : List Value} {j : Nat} (hj : j < am_by.length) (hst : (st.map fun v => v.category).sum ≤ 8) (hM : am_M E d mJ0_length_8abf5 0 0 [.retAddr j] S iv (am_K3 E (d + 1) mX8_isWord k n 18 ls st Q)) : am_R E (d + 1) mX8_isWord k n 18 ls (.retAddr j :: st) S iv Q := am_cT' (M' := mJ0_length_8abf5) (as := []) dX8_isWord_18 rfl wq_149 wq_28 wq_29 wq_5 wq_25 hy_J0_length_8abf5 (by decide) hj hst (by omega) (by omega) hM
theorem sX8_isWord_21 {ls : List Value} {x y : Int32} (kt : x = y → am_R E d mX8_isWord k n 26 ls st S iv Q) (kf : ¬ x = y → am_R E d mX8_isWord k n 24 ls st S iv Q) : am_R E d mX8_isWord k n 21 ls (.int y :: .int x :: st) S iv Q := am_icmp_eq dX8_isWord_21 (by decide) kt kf
theorem sX8_isWord_24 {a0 a1 a2 : Value} (h : am_R E d mX8_isWord k n 25 [a0, a1, a2] (.int 0 :: st) S iv Q) : am_R E d mX8_isWord k n 24 [a0, a1, a2] st S iv Q := am_iconst dX8_isWord_24 (by decide) h
theorem sX8_isWord_25 {ls : List Value} {x : Int32} (hn : narrow .boolean (.int x) = .int x) (h : Q (.inl (some (.int x))) S iv) : am_R E d mX8_isWord k n 25 ls [.int x] S iv Q := am_zreturn dX8_isWord_25 rfl hn h
theorem sX8_isWord_26 {a0 a1 a2 : Value} (h : am_R E d mX8_isWord k n 27 [a0, a1, a2] (.int 0 :: st) S iv Q) : am_R E d mX8_isWord k n 26 [a0, a1, a2] st S iv Q := am_iconst dX8_isWord_26 (by decide) h
theorem sX8_isWord_27 {a0 a1 a2 : Value} {x : Int32} (h : am_R E d mX8_isWord k n 28 [a0, a1, .int x] st S iv Q) : am_R E d mX8_isWord k n 27 [a0, a1, a2] (.int x :: st) S iv Q := am_istore_n dX8_isWord_27 rfl (by decide) h
theorem sX8_isWord_28 {a0 a1 : Value} {x : Int32} (h : am_R E d mX8_isWord k n 29 [a0, a1, .int x] (.int x :: st) S iv Q) : am_R E d mX8_isWord k n 28 [a0, a1, .int x] st S iv Q := am_iload_n dX8_isWord_28 rfl rfl h
theorem sX8_isWord_29 {a0 a1 a2 : Value} (hv : am_rf a1 = true) (h : am_R E d mX8_isWord k n 30 [a0, a1, a2] (a1 :: st) S iv Q) : am_R E d mX8_isWord k n 29 [a0, a1, a2] st S iv Q := am_aload_n dX8_isWord_29 rfl rfl hv h
theorem sX8_isWord_30 {ls : List Value} {j : Nat} (hj : j < am_by.length) (hst : (st.map fun v => v.category).sum ≤ 8) (hM : am_M E d mJ0_length_8abf5 0 0 [.retAddr j] S iv (am_K3 E (d + 1) mX8_isWord k n 30 ls st Q)) : am_R E (d + 1) mX8_isWord k n 30 ls (.retAddr j :: st) S iv Q := am_cT' (M' := mJ0_length_8abf5) (as := []) dX8_isWord_30 rfl wq_149 wq_28 wq_29 wq_5 wq_25 hy_J0_length_8abf5 (by decide) hj hst (by omega) (by omega) hM
theorem sX8_isWord_33 {ls : List Value} {x y : Int32} (kt : y ≤ x → am_R E d mX8_isWord k n 63 ls st S iv Q) (kf : ¬ y ≤ x → am_R E d mX8_isWord k n 36 ls st S iv Q) : am_R E d mX8_isWord k n 33 ls (.int y :: .int x :: st) S iv Q := am_icmp_ge dX8_isWord_33 (by decide) kt kf
theorem sX8_isWord_36 {a0 a1 a2 : Value} (hv : am_rf a0 = true) (h : am_R E d mX8_isWord k n 37 [a0, a1, a2] (a0 :: st) S iv Q) : am_R E d mX8_isWord k n 36 [a0, a1, a2] st S iv Q := am_aload_n dX8_isWord_36 rfl rfl hv h
theorem sX8_isWord_37 {ls : List Value} {a b : Nat} (ha : S.1 a = some (.inl 8)) (hb : S.2.1 a 0 = some b) (h : am_R E d mX8_isWord k n 40 ls (.ref b :: st) S iv Q) : am_R E d mX8_isWord k n 37 ls (.ref a :: st) S iv Q := am_getR (ci := 8) dX8_isWord_37 rfl rfl (by decide) wq_133 uq_8 rfl ha hb h
theorem sX8_isWord_40 {a0 a1 a2 : Value} (hv : am_rf a0 = true) (h : am_R E d mX8_isWord k n 41 [a0, a1, a2] (a0 :: st) S iv Q) : am_R E d mX8_isWord k n 40 [a0, a1, a2] st S iv Q := am_aload_n dX8_isWord_40 rfl rfl hv h
theorem sX8_isWord_41 {ls : List Value} {a : Nat} (ha : S.1 a = some (.inl 8)) (h : am_R E d mX8_isWord k n 44 ls (.int (iv a 3) :: st) S iv Q) : am_R E d mX8_isWord k n 41 ls (.ref a :: st) S iv Q := am_getI (ci := 8) dX8_isWord_41 rfl rfl (by decide) wq_137 uq_8 rfl ha h
theorem sX8_isWord_44 {a0 a1 : Value} {x : Int32} (h : am_R E d mX8_isWord k n 45 [a0, a1, .int x] (.int x :: st) S iv Q) : am_R E d mX8_isWord k n 44 [a0, a1, .int x] st S iv Q := am_iload_n dX8_isWord_44 rfl rfl h
theorem sX8_isWord_45 {ls : List Value} {x y : Int32} (h : am_R E d mX8_isWord k n 46 ls (.int (x + y) :: st) S iv Q) : am_R E d mX8_isWord k n 45 ls (.int y :: .int x :: st) S iv Q := am_iadd dX8_isWord_45 h
theorem sX8_isWord_46 {ls : List Value} {a m : Nat} {i : Int32} (ha : S.1 a = some (.inr (.byte, m))) (hi : vp_in i m) (h : am_R E d mX8_isWord k n 47 ls (.int (iv a i.toNatClampNeg) :: st) S iv Q) : am_R E d mX8_isWord k n 46 ls (.int i :: .ref a :: st) S iv Q := am_baload dX8_isWord_46 ha hi h
theorem sX8_isWord_47 {a0 a1 a2 : Value} (hv : am_rf a1 = true) (h : am_R E d mX8_isWord k n 48 [a0, a1, a2] (a1 :: st) S iv Q) : am_R E d mX8_isWord k n 47 [a0, a1, a2] st S iv Q := am_aload_n dX8_isWord_47 rfl rfl hv h
theorem sX8_isWord_48 {a0 a1 : Value} {x : Int32} (h : am_R E d mX8_isWord k n 49 [a0, a1, .int x] (.int x :: st) S iv Q) : am_R E d mX8_isWord k n 48 [a0, a1, .int x] st S iv Q := am_iload_n dX8_isWord_48 rfl rfl h
theorem sX8_isWord_49 {ls : List Value} {x1 : Value} {j : Nat} (hj : j < am_by.length) (hst : (st.map fun v => v.category).sum ≤ 8) (hM : am_M E d mJ0_charAt_5068e 0 0 [.retAddr j, x1] S iv (am_K3 E (d + 1) mX8_isWord k n 49 ls st Q)) : am_R E (d + 1) mX8_isWord k n 49 ls (x1 :: .retAddr j :: st) S iv Q := am_cT' (M' := mJ0_charAt_5068e) (as := [x1]) dX8_isWord_49 rfl wq_152 wq_153 wq_154 wq_5 wq_150 hy_J0_charAt_5068e (by decide) hj hst (by omega) (by omega) hM
theorem sX8_isWord_52 {ls : List Value} {x y : Int32} (kt : x = y → am_R E d mX8_isWord k n 57 ls st S iv Q) (kf : ¬ x = y → am_R E d mX8_isWord k n 55 ls st S iv Q) : am_R E d mX8_isWord k n 52 ls (.int y :: .int x :: st) S iv Q := am_icmp_eq dX8_isWord_52 (by decide) kt kf
theorem sX8_isWord_55 {a0 a1 a2 : Value} (h : am_R E d mX8_isWord k n 56 [a0, a1, a2] (.int 0 :: st) S iv Q) : am_R E d mX8_isWord k n 55 [a0, a1, a2] st S iv Q := am_iconst dX8_isWord_55 (by decide) h
theorem sX8_isWord_56 {ls : List Value} {x : Int32} (hn : narrow .boolean (.int x) = .int x) (h : Q (.inl (some (.int x))) S iv) : am_R E d mX8_isWord k n 56 ls [.int x] S iv Q := am_zreturn dX8_isWord_56 rfl hn h
theorem sX8_isWord_57 {a0 a1 : Value} {x : Int32} (h : am_R E d mX8_isWord k n 60 [a0, a1, .int (x + 1)] st S iv Q) : am_R E d mX8_isWord k n 57 [a0, a1, .int x] st S iv Q := am_iinc dX8_isWord_57 rfl rfl (by decide) h
theorem sX8_isWord_60 {ls : List Value} (h : am_R E d mX8_isWord k n 28 ls st S iv Q) : am_R E d mX8_isWord k n 60 ls st S iv Q := am_goto dX8_isWord_60 (by decide) h
theorem sX8_isWord_63 {a0 a1 a2 : Value} (h : am_R E d mX8_isWord k n 64 [a0, a1, a2] (.int 1 :: st) S iv Q) : am_R E d mX8_isWord k n 63 [a0, a1, a2] st S iv Q := am_iconst dX8_isWord_63 (by decide) h
theorem sX8_isWord_64 {ls : List Value} {x : Int32} (hn : narrow .boolean (.int x) = .int x) (h : Q (.inl (some (.int x))) S iv) : am_R E d mX8_isWord k n 64 ls [.int x] S iv Q := am_zreturn dX8_isWord_64 rfl hn h
theorem dX8_isTooLong_0 : decode cX8_isTooLong 0 = .ok (.aload_n 0, 1) := by decide +kernel
theorem dX8_isTooLong_1 : decode cX8_isTooLong 1 = .ok (.getfield 23, 3) := by decide +kernel
theorem dX8_isTooLong_4 : decode cX8_isTooLong 4 = .ok (.aload_n 0, 1) := by decide +kernel
theorem dX8_isTooLong_5 : decode cX8_isTooLong 5 = .ok (.getfield 26, 3) := by decide +kernel
theorem dX8_isTooLong_8 : decode cX8_isTooLong 8 = .ok (.isub, 1) := by decide +kernel
theorem dX8_isTooLong_9 : decode cX8_isTooLong 9 = .ok (.iconst 4, 1) := by decide +kernel
theorem dX8_isTooLong_10 : decode cX8_isTooLong 10 = .ok (.if_icmp .le 7, 3) := by decide +kernel
theorem dX8_isTooLong_13 : decode cX8_isTooLong 13 = .ok (.iconst 1, 1) := by decide +kernel
theorem dX8_isTooLong_14 : decode cX8_isTooLong 14 = .ok (.goto 4, 3) := by decide +kernel
theorem dX8_isTooLong_17 : decode cX8_isTooLong 17 = .ok (.iconst 0, 1) := by decide +kernel
theorem dX8_isTooLong_18 : decode cX8_isTooLong 18 = .ok (.ireturn, 1) := by decide +kernel
theorem sX8_isTooLong_0 {a0 : Value} (hv : am_rf a0 = true) (h : am_R E d mX8_isTooLong k n 1 [a0] (a0 :: st) S iv Q) : am_R E d mX8_isTooLong k n 0 [a0] st S iv Q := am_aload_n dX8_isTooLong_0 rfl rfl hv h
theorem sX8_isTooLong_1 {ls : List Value} {a : Nat} (ha : S.1 a = some (.inl 8)) (h : am_R E d mX8_isTooLong k n 4 ls (.int (iv a 4) :: st) S iv Q) : am_R E d mX8_isTooLong k n 1 ls (.ref a :: st) S iv Q := am_getI (ci := 8) dX8_isTooLong_1 rfl rfl (by decide) wq_136 uq_8 rfl ha h
theorem sX8_isTooLong_4 {a0 : Value} (hv : am_rf a0 = true) (h : am_R E d mX8_isTooLong k n 5 [a0] (a0 :: st) S iv Q) : am_R E d mX8_isTooLong k n 4 [a0] st S iv Q := am_aload_n dX8_isTooLong_4 rfl rfl hv h
theorem sX8_isTooLong_5 {ls : List Value} {a : Nat} (ha : S.1 a = some (.inl 8)) (h : am_R E d mX8_isTooLong k n 8 ls (.int (iv a 3) :: st) S iv Q) : am_R E d mX8_isTooLong k n 5 ls (.ref a :: st) S iv Q := am_getI (ci := 8) dX8_isTooLong_5 rfl rfl (by decide) wq_137 uq_8 rfl ha h
theorem sX8_isTooLong_8 {ls : List Value} {x y : Int32} (h : am_R E d mX8_isTooLong k n 9 ls (.int (x - y) :: st) S iv Q) : am_R E d mX8_isTooLong k n 8 ls (.int y :: .int x :: st) S iv Q := am_isub dX8_isTooLong_8 h
theorem sX8_isTooLong_9 {a0 : Value} (h : am_R E d mX8_isTooLong k n 10 [a0] (.int 4 :: st) S iv Q) : am_R E d mX8_isTooLong k n 9 [a0] st S iv Q := am_iconst dX8_isTooLong_9 (by decide) h
theorem sX8_isTooLong_10 {ls : List Value} {x y : Int32} (kt : x ≤ y → am_R E d mX8_isTooLong k n 17 ls st S iv Q) (kf : ¬ x ≤ y → am_R E d mX8_isTooLong k n 13 ls st S iv Q) : am_R E d mX8_isTooLong k n 10 ls (.int y :: .int x :: st) S iv Q := am_icmp_le dX8_isTooLong_10 (by decide) kt kf
theorem sX8_isTooLong_13 {a0 : Value} (h : am_R E d mX8_isTooLong k n 14 [a0] (.int 1 :: st) S iv Q) : am_R E d mX8_isTooLong k n 13 [a0] st S iv Q := am_iconst dX8_isTooLong_13 (by decide) h
theorem sX8_isTooLong_14 {ls : List Value} (h : am_R E d mX8_isTooLong k n 18 ls st S iv Q) : am_R E d mX8_isTooLong k n 14 ls st S iv Q := am_goto dX8_isTooLong_14 (by decide) h
theorem sX8_isTooLong_17 {a0 : Value} (h : am_R E d mX8_isTooLong k n 18 [a0] (.int 0 :: st) S iv Q) : am_R E d mX8_isTooLong k n 17 [a0] st S iv Q := am_iconst dX8_isTooLong_17 (by decide) h
theorem sX8_isTooLong_18 {ls : List Value} {x : Int32} (hn : narrow .boolean (.int x) = .int x) (h : Q (.inl (some (.int x))) S iv) : am_R E d mX8_isTooLong k n 18 ls [.int x] S iv Q := am_zreturn dX8_isTooLong_18 rfl hn h
theorem dX8_number_0 : decode cX8_number 0 = .ok (.iconst 0, 1) := by decide +kernel
theorem dX8_number_1 : decode cX8_number 1 = .ok (.istore_n 1, 1) := by decide +kernel
theorem dX8_number_2 : decode cX8_number 2 = .ok (.aload_n 0, 1) := by decide +kernel
theorem dX8_number_3 : decode cX8_number 3 = .ok (.getfield 26, 3) := by decide +kernel
theorem dX8_number_6 : decode cX8_number 6 = .ok (.istore_n 2, 1) := by decide +kernel
theorem dX8_number_7 : decode cX8_number 7 = .ok (.iload_n 2, 1) := by decide +kernel
theorem dX8_number_8 : decode cX8_number 8 = .ok (.aload_n 0, 1) := by decide +kernel
theorem dX8_number_9 : decode cX8_number 9 = .ok (.getfield 23, 3) := by decide +kernel
theorem dX8_number_12 : decode cX8_number 12 = .ok (.if_icmp .ge 24, 3) := by decide +kernel
theorem dX8_number_15 : decode cX8_number 15 = .ok (.bipush 10, 2) := by decide +kernel
theorem dX8_number_17 : decode cX8_number 17 = .ok (.iload_n 1, 1) := by decide +kernel
theorem dX8_number_18 : decode cX8_number 18 = .ok (.imul, 1) := by decide +kernel
theorem dX8_number_19 : decode cX8_number 19 = .ok (.aload_n 0, 1) := by decide +kernel
theorem dX8_number_20 : decode cX8_number 20 = .ok (.getfield 7, 3) := by decide +kernel
theorem dX8_number_23 : decode cX8_number 23 = .ok (.iload_n 2, 1) := by decide +kernel
theorem dX8_number_24 : decode cX8_number 24 = .ok (.baload, 1) := by decide +kernel
theorem dX8_number_25 : decode cX8_number 25 = .ok (.iadd, 1) := by decide +kernel
theorem dX8_number_26 : decode cX8_number 26 = .ok (.bipush 48, 2) := by decide +kernel
theorem dX8_number_28 : decode cX8_number 28 = .ok (.isub, 1) := by decide +kernel
theorem dX8_number_29 : decode cX8_number 29 = .ok (.istore_n 1, 1) := by decide +kernel
theorem dX8_number_30 : decode cX8_number 30 = .ok (.iinc 2 1, 3) := by decide +kernel
theorem dX8_number_33 : decode cX8_number 33 = .ok (.goto (-26), 3) := by decide +kernel
theorem dX8_number_36 : decode cX8_number 36 = .ok (.iload_n 1, 1) := by decide +kernel
theorem dX8_number_37 : decode cX8_number 37 = .ok (.ireturn, 1) := by decide +kernel
theorem sX8_number_0 {a0 a1 a2 : Value} (h : am_R E d mX8_number k n 1 [a0, a1, a2] (.int 0 :: st) S iv Q) : am_R E d mX8_number k n 0 [a0, a1, a2] st S iv Q := am_iconst dX8_number_0 (by decide) h
theorem sX8_number_1 {a0 a1 a2 : Value} {x : Int32} (h : am_R E d mX8_number k n 2 [a0, .int x, a2] st S iv Q) : am_R E d mX8_number k n 1 [a0, a1, a2] (.int x :: st) S iv Q := am_istore_n dX8_number_1 rfl (by decide) h
theorem sX8_number_2 {a0 a1 a2 : Value} (hv : am_rf a0 = true) (h : am_R E d mX8_number k n 3 [a0, a1, a2] (a0 :: st) S iv Q) : am_R E d mX8_number k n 2 [a0, a1, a2] st S iv Q := am_aload_n dX8_number_2 rfl rfl hv h
theorem sX8_number_3 {ls : List Value} {a : Nat} (ha : S.1 a = some (.inl 8)) (h : am_R E d mX8_number k n 6 ls (.int (iv a 3) :: st) S iv Q) : am_R E d mX8_number k n 3 ls (.ref a :: st) S iv Q := am_getI (ci := 8) dX8_number_3 rfl rfl (by decide) wq_137 uq_8 rfl ha h
theorem sX8_number_6 {a0 a1 a2 : Value} {x : Int32} (h : am_R E d mX8_number k n 7 [a0, a1, .int x] st S iv Q) : am_R E d mX8_number k n 6 [a0, a1, a2] (.int x :: st) S iv Q := am_istore_n dX8_number_6 rfl (by decide) h
theorem sX8_number_7 {a0 a1 : Value} {x : Int32} (h : am_R E d mX8_number k n 8 [a0, a1, .int x] (.int x :: st) S iv Q) : am_R E d mX8_number k n 7 [a0, a1, .int x] st S iv Q := am_iload_n dX8_number_7 rfl rfl h
theorem sX8_number_8 {a0 a1 a2 : Value} (hv : am_rf a0 = true) (h : am_R E d mX8_number k n 9 [a0, a1, a2] (a0 :: st) S iv Q) : am_R E d mX8_number k n 8 [a0, a1, a2] st S iv Q := am_aload_n dX8_number_8 rfl rfl hv h
theorem sX8_number_9 {ls : List Value} {a : Nat} (ha : S.1 a = some (.inl 8)) (h : am_R E d mX8_number k n 12 ls (.int (iv a 4) :: st) S iv Q) : am_R E d mX8_number k n 9 ls (.ref a :: st) S iv Q := am_getI (ci := 8) dX8_number_9 rfl rfl (by decide) wq_136 uq_8 rfl ha h
theorem sX8_number_12 {ls : List Value} {x y : Int32} (kt : y ≤ x → am_R E d mX8_number k n 36 ls st S iv Q) (kf : ¬ y ≤ x → am_R E d mX8_number k n 15 ls st S iv Q) : am_R E d mX8_number k n 12 ls (.int y :: .int x :: st) S iv Q := am_icmp_ge dX8_number_12 (by decide) kt kf
theorem sX8_number_15 {a0 a1 a2 : Value} (h : am_R E d mX8_number k n 17 [a0, a1, a2] (.int 10 :: st) S iv Q) : am_R E d mX8_number k n 15 [a0, a1, a2] st S iv Q := am_bipush dX8_number_15 (by decide) h
theorem sX8_number_17 {a0 a2 : Value} {x : Int32} (h : am_R E d mX8_number k n 18 [a0, .int x, a2] (.int x :: st) S iv Q) : am_R E d mX8_number k n 17 [a0, .int x, a2] st S iv Q := am_iload_n dX8_number_17 rfl rfl h
theorem sX8_number_18 {ls : List Value} {x y : Int32} (h : am_R E d mX8_number k n 19 ls (.int (x * y) :: st) S iv Q) : am_R E d mX8_number k n 18 ls (.int y :: .int x :: st) S iv Q := am_imul dX8_number_18 h
theorem sX8_number_19 {a0 a1 a2 : Value} (hv : am_rf a0 = true) (h : am_R E d mX8_number k n 20 [a0, a1, a2] (a0 :: st) S iv Q) : am_R E d mX8_number k n 19 [a0, a1, a2] st S iv Q := am_aload_n dX8_number_19 rfl rfl hv h
theorem sX8_number_20 {ls : List Value} {a b : Nat} (ha : S.1 a = some (.inl 8)) (hb : S.2.1 a 0 = some b) (h : am_R E d mX8_number k n 23 ls (.ref b :: st) S iv Q) : am_R E d mX8_number k n 20 ls (.ref a :: st) S iv Q := am_getR (ci := 8) dX8_number_20 rfl rfl (by decide) wq_133 uq_8 rfl ha hb h
theorem sX8_number_23 {a0 a1 : Value} {x : Int32} (h : am_R E d mX8_number k n 24 [a0, a1, .int x] (.int x :: st) S iv Q) : am_R E d mX8_number k n 23 [a0, a1, .int x] st S iv Q := am_iload_n dX8_number_23 rfl rfl h
theorem sX8_number_24 {ls : List Value} {a m : Nat} {i : Int32} (ha : S.1 a = some (.inr (.byte, m))) (hi : vp_in i m) (h : am_R E d mX8_number k n 25 ls (.int (iv a i.toNatClampNeg) :: st) S iv Q) : am_R E d mX8_number k n 24 ls (.int i :: .ref a :: st) S iv Q := am_baload dX8_number_24 ha hi h
theorem sX8_number_25 {ls : List Value} {x y : Int32} (h : am_R E d mX8_number k n 26 ls (.int (x + y) :: st) S iv Q) : am_R E d mX8_number k n 25 ls (.int y :: .int x :: st) S iv Q := am_iadd dX8_number_25 h
theorem sX8_number_26 {a0 a1 a2 : Value} (h : am_R E d mX8_number k n 28 [a0, a1, a2] (.int 48 :: st) S iv Q) : am_R E d mX8_number k n 26 [a0, a1, a2] st S iv Q := am_bipush dX8_number_26 (by decide) h
theorem sX8_number_28 {ls : List Value} {x y : Int32} (h : am_R E d mX8_number k n 29 ls (.int (x - y) :: st) S iv Q) : am_R E d mX8_number k n 28 ls (.int y :: .int x :: st) S iv Q := am_isub dX8_number_28 h
theorem sX8_number_29 {a0 a1 a2 : Value} {x : Int32} (h : am_R E d mX8_number k n 30 [a0, .int x, a2] st S iv Q) : am_R E d mX8_number k n 29 [a0, a1, a2] (.int x :: st) S iv Q := am_istore_n dX8_number_29 rfl (by decide) h
theorem sX8_number_30 {a0 a1 : Value} {x : Int32} (h : am_R E d mX8_number k n 33 [a0, a1, .int (x + 1)] st S iv Q) : am_R E d mX8_number k n 30 [a0, a1, .int x] st S iv Q := am_iinc dX8_number_30 rfl rfl (by decide) h
theorem sX8_number_33 {ls : List Value} (h : am_R E d mX8_number k n 7 ls st S iv Q) : am_R E d mX8_number k n 33 ls st S iv Q := am_goto dX8_number_33 (by decide) h
theorem sX8_number_36 {a0 a2 : Value} {x : Int32} (h : am_R E d mX8_number k n 37 [a0, .int x, a2] (.int x :: st) S iv Q) : am_R E d mX8_number k n 36 [a0, .int x, a2] st S iv Q := am_iload_n dX8_number_36 rfl rfl h
theorem sX8_number_37 {ls : List Value} {x : Int32} (h : Q (.inl (some (.int x))) S iv) : am_R E d mX8_number k n 37 ls [.int x] S iv Q := am_ireturn dX8_number_37 rfl h
theorem dX8_refuse_0 : decode cX8_refuse 0 = .ok (.aload_n 0, 1) := by decide +kernel
theorem dX8_refuse_1 : decode cX8_refuse 1 = .ok (.iload_n 1, 1) := by decide +kernel
theorem dX8_refuse_2 : decode cX8_refuse 2 = .ok (.putfield 52, 3) := by decide +kernel
theorem dX8_refuse_5 : decode cX8_refuse 5 = .ok (.iconst 0, 1) := by decide +kernel
theorem dX8_refuse_6 : decode cX8_refuse 6 = .ok (.ireturn, 1) := by decide +kernel
theorem sX8_refuse_0 {a0 a1 : Value} (hv : am_rf a0 = true) (h : am_R E d mX8_refuse k n 1 [a0, a1] (a0 :: st) S iv Q) : am_R E d mX8_refuse k n 0 [a0, a1] st S iv Q := am_aload_n dX8_refuse_0 rfl rfl hv h
theorem sX8_refuse_1 {a0 : Value} {x : Int32} (h : am_R E d mX8_refuse k n 2 [a0, .int x] (.int x :: st) S iv Q) : am_R E d mX8_refuse k n 1 [a0, .int x] st S iv Q := am_iload_n dX8_refuse_1 rfl rfl h
theorem sX8_refuse_2 {ls : List Value} {a : Nat} {x : Int32} (ha : S.1 a = some (.inl 8)) (h : am_R E d mX8_refuse k n 5 ls st S (am_w iv a 5 x) Q) : am_R E d mX8_refuse k n 2 ls (.int x :: .ref a :: st) S iv Q := am_putI (ci := 8) dX8_refuse_2 rfl rfl (by decide) wq_155 uq_8 tyX8_ok nmX8 (Or.inl rfl) rfl ha h
theorem sX8_refuse_5 {a0 a1 : Value} (h : am_R E d mX8_refuse k n 6 [a0, a1] (.int 0 :: st) S iv Q) : am_R E d mX8_refuse k n 5 [a0, a1] st S iv Q := am_iconst dX8_refuse_5 (by decide) h
theorem sX8_refuse_6 {ls : List Value} {x : Int32} (hn : narrow .boolean (.int x) = .int x) (h : Q (.inl (some (.int x))) S iv) : am_R E d mX8_refuse k n 6 ls [.int x] S iv Q := am_zreturn dX8_refuse_6 rfl hn h
theorem dX8_refusal_0 : decode cX8_refusal 0 = .ok (.aload_n 0, 1) := by decide +kernel
theorem dX8_refusal_1 : decode cX8_refusal 1 = .ok (.getfield 52, 3) := by decide +kernel
theorem dX8_refusal_4 : decode cX8_refusal 4 = .ok (.ireturn, 1) := by decide +kernel
theorem sX8_refusal_0 {a0 : Value} (hv : am_rf a0 = true) (h : am_R E d mX8_refusal k n 1 [a0] (a0 :: st) S iv Q) : am_R E d mX8_refusal k n 0 [a0] st S iv Q := am_aload_n dX8_refusal_0 rfl rfl hv h
theorem sX8_refusal_1 {ls : List Value} {a : Nat} (ha : S.1 a = some (.inl 8)) (h : am_R E d mX8_refusal k n 4 ls (.int (iv a 5) :: st) S iv Q) : am_R E d mX8_refusal k n 1 ls (.ref a :: st) S iv Q := am_getI (ci := 8) dX8_refusal_1 rfl rfl (by decide) wq_155 uq_8 rfl ha h
theorem sX8_refusal_4 {ls : List Value} {x : Int32} (h : Q (.inl (some (.int x))) S iv) : am_R E d mX8_refusal k n 4 ls [.int x] S iv Q := am_ireturn dX8_refusal_4 rfl h
theorem dX8_place_0 : decode cX8_place 0 = .ok (.aload_n 0, 1) := by decide +kernel
theorem dX8_place_1 : decode cX8_place 1 = .ok (.getfield 26, 3) := by decide +kernel
theorem dX8_place_4 : decode cX8_place 4 = .ok (.ireturn, 1) := by decide +kernel
theorem sX8_place_0 {a0 : Value} (hv : am_rf a0 = true) (h : am_R E d mX8_place k n 1 [a0] (a0 :: st) S iv Q) : am_R E d mX8_place k n 0 [a0] st S iv Q := am_aload_n dX8_place_0 rfl rfl hv h
theorem sX8_place_1 {ls : List Value} {a : Nat} (ha : S.1 a = some (.inl 8)) (h : am_R E d mX8_place k n 4 ls (.int (iv a 3) :: st) S iv Q) : am_R E d mX8_place k n 1 ls (.ref a :: st) S iv Q := am_getI (ci := 8) dX8_place_1 rfl rfl (by decide) wq_137 uq_8 rfl ha h
theorem sX8_place_4 {ls : List Value} {x : Int32} (h : Q (.inl (some (.int x))) S iv) : am_R E d mX8_place k n 4 ls [.int x] S iv Q := am_ireturn dX8_place_4 rfl h
end R13_X8
