section R13_Xm3
variable {E : am_E} {d k n : Nat} {st : List Value} {S : am_S} {iv : am_I} {Q : am_O → am_S → am_I → Prop}
theorem dX10_soonBread_0 : decode cX10_soonBread 0 = .ok (.aload_n 0, 1) := by decide +kernel
theorem dX10_soonBread_1 : decode cX10_soonBread 1 = .ok (.iload_n 1, 1) := by decide +kernel
theorem dX10_soonBread_2 : decode cX10_soonBread 2 = .ok (.invokevirtual 384, 3) := by decide +kernel
theorem dX10_soonBread_5 : decode cX10_soonBread 5 = .ok (.aload_n 0, 1) := by decide +kernel
theorem dX10_soonBread_6 : decode cX10_soonBread 6 = .ok (.iconst 2, 1) := by decide +kernel
theorem dX10_soonBread_7 : decode cX10_soonBread 7 = .ok (.iconst 0, 1) := by decide +kernel
theorem dX10_soonBread_8 : decode cX10_soonBread 8 = .ok (.invokevirtual 387, 3) := by decide +kernel
theorem dX10_soonBread_11 : decode cX10_soonBread 11 = .ok (.istore_n 2, 1) := by decide +kernel
theorem dX10_soonBread_12 : decode cX10_soonBread 12 = .ok (.iload_n 2, 1) := by decide +kernel
theorem dX10_soonBread_13 : decode cX10_soonBread 13 = .ok (.iconst (-1), 1) := by decide +kernel
theorem dX10_soonBread_14 : decode cX10_soonBread 14 = .ok (.if_icmp .ne 7, 3) := by decide +kernel
theorem dX10_soonBread_17 : decode cX10_soonBread 17 = .ok (.iconst (-1), 1) := by decide +kernel
theorem dX10_soonBread_18 : decode cX10_soonBread 18 = .ok (.goto 9, 3) := by decide +kernel
theorem dX10_soonBread_21 : decode cX10_soonBread 21 = .ok (.aload_n 0, 1) := by decide +kernel
theorem dX10_soonBread_22 : decode cX10_soonBread 22 = .ok (.getfield 112, 3) := by decide +kernel
theorem dX10_soonBread_25 : decode cX10_soonBread 25 = .ok (.iload_n 2, 1) := by decide +kernel
theorem dX10_soonBread_26 : decode cX10_soonBread 26 = .ok (.iaload, 1) := by decide +kernel
theorem dX10_soonBread_27 : decode cX10_soonBread 27 = .ok (.ireturn, 1) := by decide +kernel
theorem sX10_soonBread_0 {a0 a1 a2 : Value} (hv : am_rf a0 = true) (h : am_R E d mX10_soonBread k n 1 [a0, a1, a2] (a0 :: st) S iv Q) : am_R E d mX10_soonBread k n 0 [a0, a1, a2] st S iv Q := am_aload_n dX10_soonBread_0 rfl rfl hv h
theorem sX10_soonBread_1 {a0 a2 : Value} {x : Int32} (h : am_R E d mX10_soonBread k n 2 [a0, .int x, a2] (.int x :: st) S iv Q) : am_R E d mX10_soonBread k n 1 [a0, .int x, a2] st S iv Q := am_iload_n dX10_soonBread_1 rfl rfl h
theorem sX10_soonBread_2 {ls : List Value} {x1 : Value} {a : Nat} (ha : S.1 a = some (.inl 10)) (hst : (st.map fun v => v.category).sum ≤ 8) (hM : am_M E d mX10_seek 0 0 [.ref a, x1] S iv (am_K3 E (d + 1) mX10_soonBread k n 2 ls st Q)) : am_R E (d + 1) mX10_soonBread k n 2 ls (x1 :: .ref a :: st) S iv Q := am_cV (ci := 10) (M' := mX10_seek) (as := [x1]) dX10_soonBread_2 rfl rfl rfl wq_1072 wq_1073 wq_1074 wq_808 wq_1070 hy_X10_seek (by decide) ha hst (by omega) (by omega) hM
theorem sX10_soonBread_2_k {ls : List Value} {x1 : Value} {k' n' : Nat} {a : Nat} (ha : S.1 a = some (.inl 10)) (hst : (st.map fun v => v.category).sum ≤ 8) (hM : am_M E d mX10_seek k' n' [.ref a, x1] S iv (am_K3 E (d + 1) mX10_soonBread k n 2 ls st Q)) : am_R E (d + 1) mX10_soonBread (k' + k) (n' + n) 2 ls (x1 :: .ref a :: st) S iv Q := am_cV (ci := 10) (M' := mX10_seek) (as := [x1]) dX10_soonBread_2 rfl rfl rfl wq_1072 wq_1073 wq_1074 wq_808 wq_1070 hy_X10_seek (by decide) ha hst (by omega) (by omega) hM
theorem sX10_soonBread_5 {a0 a1 a2 : Value} (hv : am_rf a0 = true) (h : am_R E d mX10_soonBread k n 6 [a0, a1, a2] (a0 :: st) S iv Q) : am_R E d mX10_soonBread k n 5 [a0, a1, a2] st S iv Q := am_aload_n dX10_soonBread_5 rfl rfl hv h
theorem sX10_soonBread_6 {a0 a1 a2 : Value} (h : am_R E d mX10_soonBread k n 7 [a0, a1, a2] (.int 2 :: st) S iv Q) : am_R E d mX10_soonBread k n 6 [a0, a1, a2] st S iv Q := am_iconst dX10_soonBread_6 (by decide) h
theorem sX10_soonBread_7 {a0 a1 a2 : Value} (h : am_R E d mX10_soonBread k n 8 [a0, a1, a2] (.int 0 :: st) S iv Q) : am_R E d mX10_soonBread k n 7 [a0, a1, a2] st S iv Q := am_iconst dX10_soonBread_7 (by decide) h
theorem sX10_soonBread_8 {ls : List Value} {x1 x2 : Value} {a : Nat} (ha : S.1 a = some (.inl 10)) (hst : (st.map fun v => v.category).sum ≤ 8) (hM : am_M E d mX10_soonest 0 0 [.ref a, x1, x2] S iv (am_K3 E (d + 1) mX10_soonBread k n 8 ls st Q)) : am_R E (d + 1) mX10_soonBread k n 8 ls (x2 :: x1 :: .ref a :: st) S iv Q := am_cV (ci := 10) (M' := mX10_soonest) (as := [x1, x2]) dX10_soonBread_8 rfl rfl rfl wq_1077 wq_1078 wq_1079 wq_808 wq_1075 hy_X10_soonest (by decide) ha hst (by omega) (by omega) hM
theorem sX10_soonBread_8_k {ls : List Value} {x1 x2 : Value} {k' n' : Nat} {a : Nat} (ha : S.1 a = some (.inl 10)) (hst : (st.map fun v => v.category).sum ≤ 8) (hM : am_M E d mX10_soonest k' n' [.ref a, x1, x2] S iv (am_K3 E (d + 1) mX10_soonBread k n 8 ls st Q)) : am_R E (d + 1) mX10_soonBread (k' + k) (n' + n) 8 ls (x2 :: x1 :: .ref a :: st) S iv Q := am_cV (ci := 10) (M' := mX10_soonest) (as := [x1, x2]) dX10_soonBread_8 rfl rfl rfl wq_1077 wq_1078 wq_1079 wq_808 wq_1075 hy_X10_soonest (by decide) ha hst (by omega) (by omega) hM
theorem sX10_soonBread_11 {a0 a1 a2 : Value} {x : Int32} (h : am_R E d mX10_soonBread k n 12 [a0, a1, .int x] st S iv Q) : am_R E d mX10_soonBread k n 11 [a0, a1, a2] (.int x :: st) S iv Q := am_istore_n dX10_soonBread_11 rfl (by decide) h
theorem sX10_soonBread_12 {a0 a1 : Value} {x : Int32} (h : am_R E d mX10_soonBread k n 13 [a0, a1, .int x] (.int x :: st) S iv Q) : am_R E d mX10_soonBread k n 12 [a0, a1, .int x] st S iv Q := am_iload_n dX10_soonBread_12 rfl rfl h
theorem sX10_soonBread_13 {a0 a1 a2 : Value} (h : am_R E d mX10_soonBread k n 14 [a0, a1, a2] (.int (-1) :: st) S iv Q) : am_R E d mX10_soonBread k n 13 [a0, a1, a2] st S iv Q := am_iconst dX10_soonBread_13 (by decide) h
theorem sX10_soonBread_14 {ls : List Value} {x y : Int32} (kt : ¬ x = y → am_R E d mX10_soonBread k n 21 ls st S iv Q) (kf : x = y → am_R E d mX10_soonBread k n 17 ls st S iv Q) : am_R E d mX10_soonBread k n 14 ls (.int y :: .int x :: st) S iv Q := am_icmp_ne dX10_soonBread_14 (by decide) kt kf
theorem sX10_soonBread_17 {a0 a1 a2 : Value} (h : am_R E d mX10_soonBread k n 18 [a0, a1, a2] (.int (-1) :: st) S iv Q) : am_R E d mX10_soonBread k n 17 [a0, a1, a2] st S iv Q := am_iconst dX10_soonBread_17 (by decide) h
theorem sX10_soonBread_18 {ls : List Value} (h : am_R E d mX10_soonBread k n 27 ls st S iv Q) : am_R E d mX10_soonBread k n 18 ls st S iv Q := am_goto dX10_soonBread_18 (by decide) h
theorem sX10_soonBread_21 {a0 a1 a2 : Value} (hv : am_rf a0 = true) (h : am_R E d mX10_soonBread k n 22 [a0, a1, a2] (a0 :: st) S iv Q) : am_R E d mX10_soonBread k n 21 [a0, a1, a2] st S iv Q := am_aload_n dX10_soonBread_21 rfl rfl hv h
theorem sX10_soonBread_22 {ls : List Value} {a b : Nat} (ha : S.1 a = some (.inl 10)) (hb : S.2.1 a 40 = some b) (h : am_R E d mX10_soonBread k n 25 ls (.ref b :: st) S iv Q) : am_R E d mX10_soonBread k n 22 ls (.ref a :: st) S iv Q := am_getR (ci := 10) dX10_soonBread_22 rfl rfl (by decide) wq_795 uq_10 rfl ha hb h
theorem sX10_soonBread_25 {a0 a1 : Value} {x : Int32} (h : am_R E d mX10_soonBread k n 26 [a0, a1, .int x] (.int x :: st) S iv Q) : am_R E d mX10_soonBread k n 25 [a0, a1, .int x] st S iv Q := am_iload_n dX10_soonBread_25 rfl rfl h
theorem sX10_soonBread_26 {ls : List Value} {a m : Nat} {i : Int32} (ha : S.1 a = some (.inr (.int, m))) (hi : vp_in i m) (h : am_R E d mX10_soonBread k n 27 ls (.int (iv a i.toNatClampNeg) :: st) S iv Q) : am_R E d mX10_soonBread k n 26 ls (.int i :: .ref a :: st) S iv Q := am_iaload dX10_soonBread_26 ha hi h
theorem sX10_soonBread_27 {ls : List Value} {x : Int32} (h : Q (.inl (some (.int x))) S iv) : am_R E d mX10_soonBread k n 27 ls [.int x] S iv Q := am_ireturn dX10_soonBread_27 rfl h
theorem dX10_married_0 : decode cX10_married 0 = .ok (.aload_n 0, 1) := by decide +kernel
theorem dX10_married_1 : decode cX10_married 1 = .ok (.iconst 0, 1) := by decide +kernel
theorem dX10_married_2 : decode cX10_married 2 = .ok (.putfield 143, 3) := by decide +kernel
theorem dX10_married_5 : decode cX10_married 5 = .ok (.aload_n 0, 1) := by decide +kernel
theorem dX10_married_6 : decode cX10_married 6 = .ok (.iload_n 1, 1) := by decide +kernel
theorem dX10_married_7 : decode cX10_married 7 = .ok (.invokevirtual 354, 3) := by decide +kernel
theorem dX10_married_10 : decode cX10_married 10 = .ok (.ifCond .eq 11, 3) := by decide +kernel
theorem dX10_married_13 : decode cX10_married 13 = .ok (.aload_n 0, 1) := by decide +kernel
theorem dX10_married_14 : decode cX10_married 14 = .ok (.iload_n 2, 1) := by decide +kernel
theorem dX10_married_15 : decode cX10_married 15 = .ok (.invokevirtual 354, 3) := by decide +kernel
theorem dX10_married_18 : decode cX10_married 18 = .ok (.ifCond .ne 9, 3) := by decide +kernel
theorem dX10_married_21 : decode cX10_married 21 = .ok (.aload_n 0, 1) := by decide +kernel
theorem dX10_married_22 : decode cX10_married 22 = .ok (.iconst 1, 1) := by decide +kernel
theorem dX10_married_23 : decode cX10_married 23 = .ok (.invokevirtual 293, 3) := by decide +kernel
theorem dX10_married_26 : decode cX10_married 26 = .ok (.ireturn, 1) := by decide +kernel
theorem dX10_married_27 : decode cX10_married 27 = .ok (.aload_n 0, 1) := by decide +kernel
theorem dX10_married_28 : decode cX10_married 28 = .ok (.iload_n 1, 1) := by decide +kernel
theorem dX10_married_29 : decode cX10_married 29 = .ok (.iload_n 2, 1) := by decide +kernel
theorem dX10_married_30 : decode cX10_married 30 = .ok (.invokevirtual 399, 3) := by decide +kernel
theorem dX10_married_33 : decode cX10_married 33 = .ok (.ifCond .eq 14, 3) := by decide +kernel
theorem dX10_married_36 : decode cX10_married 36 = .ok (.aload_n 0, 1) := by decide +kernel
theorem dX10_married_37 : decode cX10_married 37 = .ok (.aload_n 0, 1) := by decide +kernel
theorem dX10_married_38 : decode cX10_married 38 = .ok (.getfield 308, 3) := by decide +kernel
theorem dX10_married_41 : decode cX10_married 41 = .ok (.invokevirtual 402, 3) := by decide +kernel
theorem dX10_married_44 : decode cX10_married 44 = .ok (.goto 4, 3) := by decide +kernel
theorem dX10_married_47 : decode cX10_married 47 = .ok (.iconst (-1), 1) := by decide +kernel
theorem dX10_married_48 : decode cX10_married 48 = .ok (.istore_n 3, 1) := by decide +kernel
theorem dX10_married_49 : decode cX10_married 49 = .ok (.iload_n 3, 1) := by decide +kernel
theorem dX10_married_50 : decode cX10_married 50 = .ok (.iconst (-1), 1) := by decide +kernel
theorem dX10_married_51 : decode cX10_married 51 = .ok (.if_icmp .ne 6, 3) := by decide +kernel
theorem dX10_married_54 : decode cX10_married 54 = .ok (.bipush (-101), 2) := by decide +kernel
theorem dX10_married_56 : decode cX10_married 56 = .ok (.ireturn, 1) := by decide +kernel
theorem dX10_married_57 : decode cX10_married 57 = .ok (.aload_n 0, 1) := by decide +kernel
theorem dX10_married_58 : decode cX10_married 58 = .ok (.getfield 55, 3) := by decide +kernel
theorem dX10_married_61 : decode cX10_married 61 = .ok (.iload_n 1, 1) := by decide +kernel
theorem dX10_married_62 : decode cX10_married 62 = .ok (.iaload, 1) := by decide +kernel
theorem dX10_married_63 : decode cX10_married 63 = .ok (.istore 4, 2) := by decide +kernel
theorem dX10_married_65 : decode cX10_married 65 = .ok (.aload_n 0, 1) := by decide +kernel
theorem dX10_married_66 : decode cX10_married 66 = .ok (.getfield 59, 3) := by decide +kernel
theorem dX10_married_69 : decode cX10_married 69 = .ok (.iload_n 1, 1) := by decide +kernel
theorem dX10_married_70 : decode cX10_married 70 = .ok (.iaload, 1) := by decide +kernel
theorem dX10_married_71 : decode cX10_married 71 = .ok (.istore 5, 2) := by decide +kernel
theorem dX10_married_73 : decode cX10_married 73 = .ok (.aload_n 0, 1) := by decide +kernel
theorem dX10_married_74 : decode cX10_married 74 = .ok (.getfield 55, 3) := by decide +kernel
theorem dX10_married_77 : decode cX10_married 77 = .ok (.iload_n 1, 1) := by decide +kernel
theorem dX10_married_78 : decode cX10_married 78 = .ok (.aload_n 0, 1) := by decide +kernel
theorem dX10_married_79 : decode cX10_married 79 = .ok (.getfield 55, 3) := by decide +kernel
theorem dX10_married_82 : decode cX10_married 82 = .ok (.iload_n 1, 1) := by decide +kernel
theorem dX10_married_83 : decode cX10_married 83 = .ok (.iaload, 1) := by decide +kernel
theorem dX10_married_84 : decode cX10_married 84 = .ok (.aload_n 0, 1) := by decide +kernel
theorem dX10_married_85 : decode cX10_married 85 = .ok (.getfield 55, 3) := by decide +kernel
theorem dX10_married_88 : decode cX10_married 88 = .ok (.iload_n 2, 1) := by decide +kernel
theorem dX10_married_89 : decode cX10_married 89 = .ok (.iaload, 1) := by decide +kernel
theorem dX10_married_90 : decode cX10_married 90 = .ok (.invokestatic 180, 3) := by decide +kernel
theorem dX10_married_93 : decode cX10_married 93 = .ok (.iastore, 1) := by decide +kernel
theorem dX10_married_94 : decode cX10_married 94 = .ok (.aload_n 0, 1) := by decide +kernel
theorem dX10_married_95 : decode cX10_married 95 = .ok (.getfield 59, 3) := by decide +kernel
theorem dX10_married_98 : decode cX10_married 98 = .ok (.iload_n 1, 1) := by decide +kernel
theorem dX10_married_99 : decode cX10_married 99 = .ok (.aload_n 0, 1) := by decide +kernel
theorem dX10_married_100 : decode cX10_married 100 = .ok (.getfield 59, 3) := by decide +kernel
theorem dX10_married_103 : decode cX10_married 103 = .ok (.iload_n 1, 1) := by decide +kernel
theorem dX10_married_104 : decode cX10_married 104 = .ok (.iaload, 1) := by decide +kernel
theorem dX10_married_105 : decode cX10_married 105 = .ok (.aload_n 0, 1) := by decide +kernel
theorem dX10_married_106 : decode cX10_married 106 = .ok (.getfield 59, 3) := by decide +kernel
theorem dX10_married_109 : decode cX10_married 109 = .ok (.iload_n 2, 1) := by decide +kernel
theorem dX10_married_110 : decode cX10_married 110 = .ok (.iaload, 1) := by decide +kernel
theorem dX10_married_111 : decode cX10_married 111 = .ok (.invokestatic 405, 3) := by decide +kernel
theorem dX10_married_114 : decode cX10_married 114 = .ok (.iastore, 1) := by decide +kernel
theorem dX10_married_115 : decode cX10_married 115 = .ok (.aload_n 0, 1) := by decide +kernel
theorem dX10_married_116 : decode cX10_married 116 = .ok (.getfield 61, 3) := by decide +kernel
theorem dX10_married_119 : decode cX10_married 119 = .ok (.iload_n 1, 1) := by decide +kernel
theorem dX10_married_120 : decode cX10_married 120 = .ok (.iconst 1, 1) := by decide +kernel
theorem dX10_married_121 : decode cX10_married 121 = .ok (.iastore, 1) := by decide +kernel
theorem dX10_married_122 : decode cX10_married 122 = .ok (.iconst 0, 1) := by decide +kernel
theorem dX10_married_123 : decode cX10_married 123 = .ok (.istore 6, 2) := by decide +kernel
theorem dX10_married_125 : decode cX10_married 125 = .ok (.iload 6, 2) := by decide +kernel
theorem dX10_married_127 : decode cX10_married 127 = .ok (.iconst 5, 1) := by decide +kernel
theorem dX10_married_128 : decode cX10_married 128 = .ok (.if_icmp .ge 42, 3) := by decide +kernel
theorem dX10_married_131 : decode cX10_married 131 = .ok (.aload_n 0, 1) := by decide +kernel
theorem dX10_married_132 : decode cX10_married 132 = .ok (.getfield 128, 3) := by decide +kernel
theorem dX10_married_135 : decode cX10_married 135 = .ok (.iload 6, 2) := by decide +kernel
theorem dX10_married_137 : decode cX10_married 137 = .ok (.aload_n 0, 1) := by decide +kernel
theorem dX10_married_138 : decode cX10_married 138 = .ok (.getfield 64, 3) := by decide +kernel
theorem dX10_married_141 : decode cX10_married 141 = .ok (.iload 6, 2) := by decide +kernel
theorem dX10_married_143 : decode cX10_married 143 = .ok (.iaload, 1) := by decide +kernel
theorem dX10_married_144 : decode cX10_married 144 = .ok (.iastore, 1) := by decide +kernel
theorem dX10_married_145 : decode cX10_married 145 = .ok (.aload_n 0, 1) := by decide +kernel
theorem dX10_married_146 : decode cX10_married 146 = .ok (.getfield 64, 3) := by decide +kernel
theorem dX10_married_149 : decode cX10_married 149 = .ok (.iload 6, 2) := by decide +kernel
theorem dX10_married_151 : decode cX10_married 151 = .ok (.iaload, 1) := by decide +kernel
theorem dX10_married_152 : decode cX10_married 152 = .ok (.iload_n 2, 1) := by decide +kernel
theorem dX10_married_153 : decode cX10_married 153 = .ok (.if_icmp .ne 11, 3) := by decide +kernel
theorem dX10_married_156 : decode cX10_married 156 = .ok (.aload_n 0, 1) := by decide +kernel
theorem dX10_married_157 : decode cX10_married 157 = .ok (.getfield 64, 3) := by decide +kernel
theorem dX10_married_160 : decode cX10_married 160 = .ok (.iload 6, 2) := by decide +kernel
theorem dX10_married_162 : decode cX10_married 162 = .ok (.iload_n 1, 1) := by decide +kernel
theorem dX10_married_163 : decode cX10_married 163 = .ok (.iastore, 1) := by decide +kernel
theorem dX10_married_164 : decode cX10_married 164 = .ok (.iinc 6 1, 3) := by decide +kernel
theorem dX10_married_167 : decode cX10_married 167 = .ok (.goto (-42), 3) := by decide +kernel
theorem dX10_married_170 : decode cX10_married 170 = .ok (.aload_n 0, 1) := by decide +kernel
theorem dX10_married_171 : decode cX10_married 171 = .ok (.aload_n 0, 1) := by decide +kernel
theorem dX10_married_172 : decode cX10_married 172 = .ok (.getfield 308, 3) := by decide +kernel
theorem dX10_married_175 : decode cX10_married 175 = .ok (.iconst 1, 1) := by decide +kernel
theorem dX10_married_176 : decode cX10_married 176 = .ok (.iload_n 2, 1) := by decide +kernel
theorem dX10_married_177 : decode cX10_married 177 = .ok (.ishl, 1) := by decide +kernel
theorem dX10_married_178 : decode cX10_married 178 = .ok (.ior, 1) := by decide +kernel
theorem dX10_married_179 : decode cX10_married 179 = .ok (.invokevirtual 402, 3) := by decide +kernel
theorem dX10_married_182 : decode cX10_married 182 = .ok (.istore 6, 2) := by decide +kernel
theorem dX10_married_184 : decode cX10_married 184 = .ok (.aload_n 0, 1) := by decide +kernel
theorem dX10_married_185 : decode cX10_married 185 = .ok (.getfield 55, 3) := by decide +kernel
theorem dX10_married_188 : decode cX10_married 188 = .ok (.iload_n 1, 1) := by decide +kernel
theorem dX10_married_189 : decode cX10_married 189 = .ok (.iload 4, 2) := by decide +kernel
theorem dX10_married_191 : decode cX10_married 191 = .ok (.iastore, 1) := by decide +kernel
theorem dX10_married_192 : decode cX10_married 192 = .ok (.aload_n 0, 1) := by decide +kernel
theorem dX10_married_193 : decode cX10_married 193 = .ok (.getfield 59, 3) := by decide +kernel
theorem dX10_married_196 : decode cX10_married 196 = .ok (.iload_n 1, 1) := by decide +kernel
theorem dX10_married_197 : decode cX10_married 197 = .ok (.iload 5, 2) := by decide +kernel
theorem dX10_married_199 : decode cX10_married 199 = .ok (.iastore, 1) := by decide +kernel
theorem dX10_married_200 : decode cX10_married 200 = .ok (.aload_n 0, 1) := by decide +kernel
theorem dX10_married_201 : decode cX10_married 201 = .ok (.getfield 61, 3) := by decide +kernel
theorem dX10_married_204 : decode cX10_married 204 = .ok (.iload_n 1, 1) := by decide +kernel
theorem dX10_married_205 : decode cX10_married 205 = .ok (.iconst 0, 1) := by decide +kernel
theorem dX10_married_206 : decode cX10_married 206 = .ok (.iastore, 1) := by decide +kernel
theorem dX10_married_207 : decode cX10_married 207 = .ok (.iconst 0, 1) := by decide +kernel
theorem dX10_married_208 : decode cX10_married 208 = .ok (.istore 7, 2) := by decide +kernel
theorem dX10_married_210 : decode cX10_married 210 = .ok (.iload 7, 2) := by decide +kernel
theorem dX10_married_212 : decode cX10_married 212 = .ok (.iconst 5, 1) := by decide +kernel
theorem dX10_married_213 : decode cX10_married 213 = .ok (.if_icmp .ge 23, 3) := by decide +kernel
theorem dX10_married_216 : decode cX10_married 216 = .ok (.aload_n 0, 1) := by decide +kernel
theorem dX10_married_217 : decode cX10_married 217 = .ok (.getfield 64, 3) := by decide +kernel
theorem dX10_married_220 : decode cX10_married 220 = .ok (.iload 7, 2) := by decide +kernel
theorem dX10_married_222 : decode cX10_married 222 = .ok (.aload_n 0, 1) := by decide +kernel
theorem dX10_married_223 : decode cX10_married 223 = .ok (.getfield 128, 3) := by decide +kernel
theorem dX10_married_226 : decode cX10_married 226 = .ok (.iload 7, 2) := by decide +kernel
theorem dX10_married_228 : decode cX10_married 228 = .ok (.iaload, 1) := by decide +kernel
theorem dX10_married_229 : decode cX10_married 229 = .ok (.iastore, 1) := by decide +kernel
theorem dX10_married_230 : decode cX10_married 230 = .ok (.iinc 7 1, 3) := by decide +kernel
theorem dX10_married_233 : decode cX10_married 233 = .ok (.goto (-23), 3) := by decide +kernel
theorem dX10_married_236 : decode cX10_married 236 = .ok (.iload 6, 2) := by decide +kernel
theorem dX10_married_238 : decode cX10_married 238 = .ok (.iconst (-1), 1) := by decide +kernel
theorem dX10_married_239 : decode cX10_married 239 = .ok (.if_icmp .ne 8, 3) := by decide +kernel
theorem dX10_married_242 : decode cX10_married 242 = .ok (.bipush (-101), 2) := by decide +kernel
theorem dX10_married_244 : decode cX10_married 244 = .ok (.goto 7, 3) := by decide +kernel
theorem dX10_married_247 : decode cX10_married 247 = .ok (.iload 6, 2) := by decide +kernel
theorem dX10_married_249 : decode cX10_married 249 = .ok (.iload_n 3, 1) := by decide +kernel
theorem dX10_married_250 : decode cX10_married 250 = .ok (.isub, 1) := by decide +kernel
theorem dX10_married_251 : decode cX10_married 251 = .ok (.ireturn, 1) := by decide +kernel
theorem sX10_married_0 {a0 a1 a2 a3 a4 a5 a6 a7 : Value} (hv : am_rf a0 = true) (h : am_R E d mX10_married k n 1 [a0, a1, a2, a3, a4, a5, a6, a7] (a0 :: st) S iv Q) : am_R E d mX10_married k n 0 [a0, a1, a2, a3, a4, a5, a6, a7] st S iv Q := am_aload_n dX10_married_0 rfl rfl hv h
theorem sX10_married_1 {a0 a1 a2 a3 a4 a5 a6 a7 : Value} (h : am_R E d mX10_married k n 2 [a0, a1, a2, a3, a4, a5, a6, a7] (.int 0 :: st) S iv Q) : am_R E d mX10_married k n 1 [a0, a1, a2, a3, a4, a5, a6, a7] st S iv Q := am_iconst dX10_married_1 (by decide) h
theorem sX10_married_2 {ls : List Value} {a : Nat} {x : Int32} (ha : S.1 a = some (.inl 10)) (h : am_R E d mX10_married k n 5 ls st S (am_w iv a 3 x) Q) : am_R E d mX10_married k n 2 ls (.int x :: .ref a :: st) S iv Q := am_putI (ci := 10) dX10_married_2 rfl rfl (by decide) wq_806 uq_10 tyX10_ok nmX10 (Or.inl rfl) rfl ha h
theorem sX10_married_5 {a0 a1 a2 a3 a4 a5 a6 a7 : Value} (hv : am_rf a0 = true) (h : am_R E d mX10_married k n 6 [a0, a1, a2, a3, a4, a5, a6, a7] (a0 :: st) S iv Q) : am_R E d mX10_married k n 5 [a0, a1, a2, a3, a4, a5, a6, a7] st S iv Q := am_aload_n dX10_married_5 rfl rfl hv h
theorem sX10_married_6 {a0 a2 a3 a4 a5 a6 a7 : Value} {x : Int32} (h : am_R E d mX10_married k n 7 [a0, .int x, a2, a3, a4, a5, a6, a7] (.int x :: st) S iv Q) : am_R E d mX10_married k n 6 [a0, .int x, a2, a3, a4, a5, a6, a7] st S iv Q := am_iload_n dX10_married_6 rfl rfl h
theorem sX10_married_7 {ls : List Value} {x1 : Value} {a : Nat} (ha : S.1 a = some (.inl 10)) (hst : (st.map fun v => v.category).sum ≤ 8) (hM : am_M E d mX10_isDrawer 0 0 [.ref a, x1] S iv (am_K3 E (d + 1) mX10_married k n 7 ls st Q)) : am_R E (d + 1) mX10_married k n 7 ls (x1 :: .ref a :: st) S iv Q := am_cV (ci := 10) (M' := mX10_isDrawer) (as := [x1]) dX10_married_7 rfl rfl rfl wq_1026 wq_1027 wq_1028 wq_808 wq_1024 hy_X10_isDrawer (by decide) ha hst (by omega) (by omega) hM
theorem sX10_married_7_k {ls : List Value} {x1 : Value} {k' n' : Nat} {a : Nat} (ha : S.1 a = some (.inl 10)) (hst : (st.map fun v => v.category).sum ≤ 8) (hM : am_M E d mX10_isDrawer k' n' [.ref a, x1] S iv (am_K3 E (d + 1) mX10_married k n 7 ls st Q)) : am_R E (d + 1) mX10_married (k' + k) (n' + n) 7 ls (x1 :: .ref a :: st) S iv Q := am_cV (ci := 10) (M' := mX10_isDrawer) (as := [x1]) dX10_married_7 rfl rfl rfl wq_1026 wq_1027 wq_1028 wq_808 wq_1024 hy_X10_isDrawer (by decide) ha hst (by omega) (by omega) hM
theorem sX10_married_10 {ls : List Value} {x : Int32} (kt : x = 0 → am_R E d mX10_married k n 21 ls st S iv Q) (kf : ¬ x = 0 → am_R E d mX10_married k n 13 ls st S iv Q) : am_R E d mX10_married k n 10 ls (.int x :: st) S iv Q := am_if_eq dX10_married_10 (by decide) kt kf
theorem sX10_married_13 {a0 a1 a2 a3 a4 a5 a6 a7 : Value} (hv : am_rf a0 = true) (h : am_R E d mX10_married k n 14 [a0, a1, a2, a3, a4, a5, a6, a7] (a0 :: st) S iv Q) : am_R E d mX10_married k n 13 [a0, a1, a2, a3, a4, a5, a6, a7] st S iv Q := am_aload_n dX10_married_13 rfl rfl hv h
theorem sX10_married_14 {a0 a1 a3 a4 a5 a6 a7 : Value} {x : Int32} (h : am_R E d mX10_married k n 15 [a0, a1, .int x, a3, a4, a5, a6, a7] (.int x :: st) S iv Q) : am_R E d mX10_married k n 14 [a0, a1, .int x, a3, a4, a5, a6, a7] st S iv Q := am_iload_n dX10_married_14 rfl rfl h
theorem sX10_married_15 {ls : List Value} {x1 : Value} {a : Nat} (ha : S.1 a = some (.inl 10)) (hst : (st.map fun v => v.category).sum ≤ 8) (hM : am_M E d mX10_isDrawer 0 0 [.ref a, x1] S iv (am_K3 E (d + 1) mX10_married k n 15 ls st Q)) : am_R E (d + 1) mX10_married k n 15 ls (x1 :: .ref a :: st) S iv Q := am_cV (ci := 10) (M' := mX10_isDrawer) (as := [x1]) dX10_married_15 rfl rfl rfl wq_1026 wq_1027 wq_1028 wq_808 wq_1024 hy_X10_isDrawer (by decide) ha hst (by omega) (by omega) hM
theorem sX10_married_15_k {ls : List Value} {x1 : Value} {k' n' : Nat} {a : Nat} (ha : S.1 a = some (.inl 10)) (hst : (st.map fun v => v.category).sum ≤ 8) (hM : am_M E d mX10_isDrawer k' n' [.ref a, x1] S iv (am_K3 E (d + 1) mX10_married k n 15 ls st Q)) : am_R E (d + 1) mX10_married (k' + k) (n' + n) 15 ls (x1 :: .ref a :: st) S iv Q := am_cV (ci := 10) (M' := mX10_isDrawer) (as := [x1]) dX10_married_15 rfl rfl rfl wq_1026 wq_1027 wq_1028 wq_808 wq_1024 hy_X10_isDrawer (by decide) ha hst (by omega) (by omega) hM
theorem sX10_married_18 {ls : List Value} {x : Int32} (kt : ¬ x = 0 → am_R E d mX10_married k n 27 ls st S iv Q) (kf : x = 0 → am_R E d mX10_married k n 21 ls st S iv Q) : am_R E d mX10_married k n 18 ls (.int x :: st) S iv Q := am_if_ne dX10_married_18 (by decide) kt kf
theorem sX10_married_21 {a0 a1 a2 a3 a4 a5 a6 a7 : Value} (hv : am_rf a0 = true) (h : am_R E d mX10_married k n 22 [a0, a1, a2, a3, a4, a5, a6, a7] (a0 :: st) S iv Q) : am_R E d mX10_married k n 21 [a0, a1, a2, a3, a4, a5, a6, a7] st S iv Q := am_aload_n dX10_married_21 rfl rfl hv h
theorem sX10_married_22 {a0 a1 a2 a3 a4 a5 a6 a7 : Value} (h : am_R E d mX10_married k n 23 [a0, a1, a2, a3, a4, a5, a6, a7] (.int 1 :: st) S iv Q) : am_R E d mX10_married k n 22 [a0, a1, a2, a3, a4, a5, a6, a7] st S iv Q := am_iconst dX10_married_22 (by decide) h
theorem sX10_married_23 {ls : List Value} {x1 : Value} {a : Nat} (ha : S.1 a = some (.inl 10)) (hst : (st.map fun v => v.category).sum ≤ 8) (hM : am_M E d mX10_fail 0 0 [.ref a, x1] S iv (am_K3 E (d + 1) mX10_married k n 23 ls st Q)) : am_R E (d + 1) mX10_married k n 23 ls (x1 :: .ref a :: st) S iv Q := am_cV (ci := 10) (M' := mX10_fail) (as := [x1]) dX10_married_23 rfl rfl rfl wq_955 wq_956 wq_957 wq_808 wq_953 hy_X10_fail (by decide) ha hst (by omega) (by omega) hM
theorem sX10_married_23_k {ls : List Value} {x1 : Value} {k' n' : Nat} {a : Nat} (ha : S.1 a = some (.inl 10)) (hst : (st.map fun v => v.category).sum ≤ 8) (hM : am_M E d mX10_fail k' n' [.ref a, x1] S iv (am_K3 E (d + 1) mX10_married k n 23 ls st Q)) : am_R E (d + 1) mX10_married (k' + k) (n' + n) 23 ls (x1 :: .ref a :: st) S iv Q := am_cV (ci := 10) (M' := mX10_fail) (as := [x1]) dX10_married_23 rfl rfl rfl wq_955 wq_956 wq_957 wq_808 wq_953 hy_X10_fail (by decide) ha hst (by omega) (by omega) hM
theorem sX10_married_26 {ls : List Value} {x : Int32} (h : Q (.inl (some (.int x))) S iv) : am_R E d mX10_married k n 26 ls [.int x] S iv Q := am_ireturn dX10_married_26 rfl h
theorem sX10_married_27 {a0 a1 a2 a3 a4 a5 a6 a7 : Value} (hv : am_rf a0 = true) (h : am_R E d mX10_married k n 28 [a0, a1, a2, a3, a4, a5, a6, a7] (a0 :: st) S iv Q) : am_R E d mX10_married k n 27 [a0, a1, a2, a3, a4, a5, a6, a7] st S iv Q := am_aload_n dX10_married_27 rfl rfl hv h
theorem sX10_married_28 {a0 a2 a3 a4 a5 a6 a7 : Value} {x : Int32} (h : am_R E d mX10_married k n 29 [a0, .int x, a2, a3, a4, a5, a6, a7] (.int x :: st) S iv Q) : am_R E d mX10_married k n 28 [a0, .int x, a2, a3, a4, a5, a6, a7] st S iv Q := am_iload_n dX10_married_28 rfl rfl h
theorem sX10_married_29 {a0 a1 a3 a4 a5 a6 a7 : Value} {x : Int32} (h : am_R E d mX10_married k n 30 [a0, a1, .int x, a3, a4, a5, a6, a7] (.int x :: st) S iv Q) : am_R E d mX10_married k n 29 [a0, a1, .int x, a3, a4, a5, a6, a7] st S iv Q := am_iload_n dX10_married_29 rfl rfl h
theorem sX10_married_30 {ls : List Value} {x1 x2 : Value} {a : Nat} (ha : S.1 a = some (.inl 10)) (hst : (st.map fun v => v.category).sum ≤ 8) (hM : am_M E d mX10_canMarry 0 0 [.ref a, x1, x2] S iv (am_K3 E (d + 1) mX10_married k n 30 ls st Q)) : am_R E (d + 1) mX10_married k n 30 ls (x2 :: x1 :: .ref a :: st) S iv Q := am_cV (ci := 10) (M' := mX10_canMarry) (as := [x1, x2]) dX10_married_30 rfl rfl rfl wq_1093 wq_1094 wq_1095 wq_808 wq_1091 hy_X10_canMarry (by decide) ha hst (by omega) (by omega) hM
theorem sX10_married_30_k {ls : List Value} {x1 x2 : Value} {k' n' : Nat} {a : Nat} (ha : S.1 a = some (.inl 10)) (hst : (st.map fun v => v.category).sum ≤ 8) (hM : am_M E d mX10_canMarry k' n' [.ref a, x1, x2] S iv (am_K3 E (d + 1) mX10_married k n 30 ls st Q)) : am_R E (d + 1) mX10_married (k' + k) (n' + n) 30 ls (x2 :: x1 :: .ref a :: st) S iv Q := am_cV (ci := 10) (M' := mX10_canMarry) (as := [x1, x2]) dX10_married_30 rfl rfl rfl wq_1093 wq_1094 wq_1095 wq_808 wq_1091 hy_X10_canMarry (by decide) ha hst (by omega) (by omega) hM
theorem sX10_married_33 {ls : List Value} {x : Int32} (kt : x = 0 → am_R E d mX10_married k n 47 ls st S iv Q) (kf : ¬ x = 0 → am_R E d mX10_married k n 36 ls st S iv Q) : am_R E d mX10_married k n 33 ls (.int x :: st) S iv Q := am_if_eq dX10_married_33 (by decide) kt kf
theorem sX10_married_36 {a0 a1 a2 a3 a4 a5 a6 a7 : Value} (hv : am_rf a0 = true) (h : am_R E d mX10_married k n 37 [a0, a1, a2, a3, a4, a5, a6, a7] (a0 :: st) S iv Q) : am_R E d mX10_married k n 36 [a0, a1, a2, a3, a4, a5, a6, a7] st S iv Q := am_aload_n dX10_married_36 rfl rfl hv h
theorem sX10_married_37 {a0 a1 a2 a3 a4 a5 a6 a7 : Value} (hv : am_rf a0 = true) (h : am_R E d mX10_married k n 38 [a0, a1, a2, a3, a4, a5, a6, a7] (a0 :: st) S iv Q) : am_R E d mX10_married k n 37 [a0, a1, a2, a3, a4, a5, a6, a7] st S iv Q := am_aload_n dX10_married_37 rfl rfl hv h
theorem sX10_married_38 {ls : List Value} {a : Nat} (ha : S.1 a = some (.inl 10)) (h : am_R E d mX10_married k n 41 ls (.int (iv a 30) :: st) S iv Q) : am_R E d mX10_married k n 38 ls (.ref a :: st) S iv Q := am_getI (ci := 10) dX10_married_38 rfl rfl (by decide) wq_973 uq_10 rfl ha h
theorem sX10_married_41 {ls : List Value} {x1 : Value} {a : Nat} (ha : S.1 a = some (.inl 10)) (hst : (st.map fun v => v.category).sum ≤ 8) (hM : am_M E d mX10_soonBread 0 0 [.ref a, x1] S iv (am_K3 E (d + 1) mX10_married k n 41 ls st Q)) : am_R E (d + 1) mX10_married k n 41 ls (x1 :: .ref a :: st) S iv Q := am_cV (ci := 10) (M' := mX10_soonBread) (as := [x1]) dX10_married_41 rfl rfl rfl wq_1098 wq_1099 wq_1100 wq_808 wq_1096 hy_X10_soonBread (by decide) ha hst (by omega) (by omega) hM
theorem sX10_married_41_k {ls : List Value} {x1 : Value} {k' n' : Nat} {a : Nat} (ha : S.1 a = some (.inl 10)) (hst : (st.map fun v => v.category).sum ≤ 8) (hM : am_M E d mX10_soonBread k' n' [.ref a, x1] S iv (am_K3 E (d + 1) mX10_married k n 41 ls st Q)) : am_R E (d + 1) mX10_married (k' + k) (n' + n) 41 ls (x1 :: .ref a :: st) S iv Q := am_cV (ci := 10) (M' := mX10_soonBread) (as := [x1]) dX10_married_41 rfl rfl rfl wq_1098 wq_1099 wq_1100 wq_808 wq_1096 hy_X10_soonBread (by decide) ha hst (by omega) (by omega) hM
theorem sX10_married_44 {ls : List Value} (h : am_R E d mX10_married k n 48 ls st S iv Q) : am_R E d mX10_married k n 44 ls st S iv Q := am_goto dX10_married_44 (by decide) h
theorem sX10_married_47 {a0 a1 a2 a3 a4 a5 a6 a7 : Value} (h : am_R E d mX10_married k n 48 [a0, a1, a2, a3, a4, a5, a6, a7] (.int (-1) :: st) S iv Q) : am_R E d mX10_married k n 47 [a0, a1, a2, a3, a4, a5, a6, a7] st S iv Q := am_iconst dX10_married_47 (by decide) h
theorem sX10_married_48 {a0 a1 a2 a3 a4 a5 a6 a7 : Value} {x : Int32} (h : am_R E d mX10_married k n 49 [a0, a1, a2, .int x, a4, a5, a6, a7] st S iv Q) : am_R E d mX10_married k n 48 [a0, a1, a2, a3, a4, a5, a6, a7] (.int x :: st) S iv Q := am_istore_n dX10_married_48 rfl (by decide) h
theorem sX10_married_49 {a0 a1 a2 a4 a5 a6 a7 : Value} {x : Int32} (h : am_R E d mX10_married k n 50 [a0, a1, a2, .int x, a4, a5, a6, a7] (.int x :: st) S iv Q) : am_R E d mX10_married k n 49 [a0, a1, a2, .int x, a4, a5, a6, a7] st S iv Q := am_iload_n dX10_married_49 rfl rfl h
theorem sX10_married_50 {a0 a1 a2 a3 a4 a5 a6 a7 : Value} (h : am_R E d mX10_married k n 51 [a0, a1, a2, a3, a4, a5, a6, a7] (.int (-1) :: st) S iv Q) : am_R E d mX10_married k n 50 [a0, a1, a2, a3, a4, a5, a6, a7] st S iv Q := am_iconst dX10_married_50 (by decide) h
theorem sX10_married_51 {ls : List Value} {x y : Int32} (kt : ¬ x = y → am_R E d mX10_married k n 57 ls st S iv Q) (kf : x = y → am_R E d mX10_married k n 54 ls st S iv Q) : am_R E d mX10_married k n 51 ls (.int y :: .int x :: st) S iv Q := am_icmp_ne dX10_married_51 (by decide) kt kf
theorem sX10_married_54 {a0 a1 a2 a3 a4 a5 a6 a7 : Value} (h : am_R E d mX10_married k n 56 [a0, a1, a2, a3, a4, a5, a6, a7] (.int (-101) :: st) S iv Q) : am_R E d mX10_married k n 54 [a0, a1, a2, a3, a4, a5, a6, a7] st S iv Q := am_bipush dX10_married_54 (by decide) h
theorem sX10_married_56 {ls : List Value} {x : Int32} (h : Q (.inl (some (.int x))) S iv) : am_R E d mX10_married k n 56 ls [.int x] S iv Q := am_ireturn dX10_married_56 rfl h
theorem sX10_married_57 {a0 a1 a2 a3 a4 a5 a6 a7 : Value} (hv : am_rf a0 = true) (h : am_R E d mX10_married k n 58 [a0, a1, a2, a3, a4, a5, a6, a7] (a0 :: st) S iv Q) : am_R E d mX10_married k n 57 [a0, a1, a2, a3, a4, a5, a6, a7] st S iv Q := am_aload_n dX10_married_57 rfl rfl hv h
theorem sX10_married_58 {ls : List Value} {a b : Nat} (ha : S.1 a = some (.inl 10)) (hb : S.2.1 a 6 = some b) (h : am_R E d mX10_married k n 61 ls (.ref b :: st) S iv Q) : am_R E d mX10_married k n 58 ls (.ref a :: st) S iv Q := am_getR (ci := 10) dX10_married_58 rfl rfl (by decide) wq_774 uq_10 rfl ha hb h
theorem sX10_married_61 {a0 a2 a3 a4 a5 a6 a7 : Value} {x : Int32} (h : am_R E d mX10_married k n 62 [a0, .int x, a2, a3, a4, a5, a6, a7] (.int x :: st) S iv Q) : am_R E d mX10_married k n 61 [a0, .int x, a2, a3, a4, a5, a6, a7] st S iv Q := am_iload_n dX10_married_61 rfl rfl h
theorem sX10_married_62 {ls : List Value} {a m : Nat} {i : Int32} (ha : S.1 a = some (.inr (.int, m))) (hi : vp_in i m) (h : am_R E d mX10_married k n 63 ls (.int (iv a i.toNatClampNeg) :: st) S iv Q) : am_R E d mX10_married k n 62 ls (.int i :: .ref a :: st) S iv Q := am_iaload dX10_married_62 ha hi h
theorem sX10_married_63 {a0 a1 a2 a3 a4 a5 a6 a7 : Value} {x : Int32} (h : am_R E d mX10_married k n 65 [a0, a1, a2, a3, .int x, a5, a6, a7] st S iv Q) : am_R E d mX10_married k n 63 [a0, a1, a2, a3, a4, a5, a6, a7] (.int x :: st) S iv Q := am_istore dX10_married_63 (by decide) h
theorem sX10_married_65 {a0 a1 a2 a3 a4 a5 a6 a7 : Value} (hv : am_rf a0 = true) (h : am_R E d mX10_married k n 66 [a0, a1, a2, a3, a4, a5, a6, a7] (a0 :: st) S iv Q) : am_R E d mX10_married k n 65 [a0, a1, a2, a3, a4, a5, a6, a7] st S iv Q := am_aload_n dX10_married_65 rfl rfl hv h
theorem sX10_married_66 {ls : List Value} {a b : Nat} (ha : S.1 a = some (.inl 10)) (hb : S.2.1 a 8 = some b) (h : am_R E d mX10_married k n 69 ls (.ref b :: st) S iv Q) : am_R E d mX10_married k n 66 ls (.ref a :: st) S iv Q := am_getR (ci := 10) dX10_married_66 rfl rfl (by decide) wq_776 uq_10 rfl ha hb h
theorem sX10_married_69 {a0 a2 a3 a4 a5 a6 a7 : Value} {x : Int32} (h : am_R E d mX10_married k n 70 [a0, .int x, a2, a3, a4, a5, a6, a7] (.int x :: st) S iv Q) : am_R E d mX10_married k n 69 [a0, .int x, a2, a3, a4, a5, a6, a7] st S iv Q := am_iload_n dX10_married_69 rfl rfl h
theorem sX10_married_70 {ls : List Value} {a m : Nat} {i : Int32} (ha : S.1 a = some (.inr (.int, m))) (hi : vp_in i m) (h : am_R E d mX10_married k n 71 ls (.int (iv a i.toNatClampNeg) :: st) S iv Q) : am_R E d mX10_married k n 70 ls (.int i :: .ref a :: st) S iv Q := am_iaload dX10_married_70 ha hi h
theorem sX10_married_71 {a0 a1 a2 a3 a4 a5 a6 a7 : Value} {x : Int32} (h : am_R E d mX10_married k n 73 [a0, a1, a2, a3, a4, .int x, a6, a7] st S iv Q) : am_R E d mX10_married k n 71 [a0, a1, a2, a3, a4, a5, a6, a7] (.int x :: st) S iv Q := am_istore dX10_married_71 (by decide) h
theorem sX10_married_73 {a0 a1 a2 a3 a4 a5 a6 a7 : Value} (hv : am_rf a0 = true) (h : am_R E d mX10_married k n 74 [a0, a1, a2, a3, a4, a5, a6, a7] (a0 :: st) S iv Q) : am_R E d mX10_married k n 73 [a0, a1, a2, a3, a4, a5, a6, a7] st S iv Q := am_aload_n dX10_married_73 rfl rfl hv h
theorem sX10_married_74 {ls : List Value} {a b : Nat} (ha : S.1 a = some (.inl 10)) (hb : S.2.1 a 6 = some b) (h : am_R E d mX10_married k n 77 ls (.ref b :: st) S iv Q) : am_R E d mX10_married k n 74 ls (.ref a :: st) S iv Q := am_getR (ci := 10) dX10_married_74 rfl rfl (by decide) wq_774 uq_10 rfl ha hb h
theorem sX10_married_77 {a0 a2 a3 a4 a5 a6 a7 : Value} {x : Int32} (h : am_R E d mX10_married k n 78 [a0, .int x, a2, a3, a4, a5, a6, a7] (.int x :: st) S iv Q) : am_R E d mX10_married k n 77 [a0, .int x, a2, a3, a4, a5, a6, a7] st S iv Q := am_iload_n dX10_married_77 rfl rfl h
theorem sX10_married_78 {a0 a1 a2 a3 a4 a5 a6 a7 : Value} (hv : am_rf a0 = true) (h : am_R E d mX10_married k n 79 [a0, a1, a2, a3, a4, a5, a6, a7] (a0 :: st) S iv Q) : am_R E d mX10_married k n 78 [a0, a1, a2, a3, a4, a5, a6, a7] st S iv Q := am_aload_n dX10_married_78 rfl rfl hv h
theorem sX10_married_79 {ls : List Value} {a b : Nat} (ha : S.1 a = some (.inl 10)) (hb : S.2.1 a 6 = some b) (h : am_R E d mX10_married k n 82 ls (.ref b :: st) S iv Q) : am_R E d mX10_married k n 79 ls (.ref a :: st) S iv Q := am_getR (ci := 10) dX10_married_79 rfl rfl (by decide) wq_774 uq_10 rfl ha hb h
theorem sX10_married_82 {a0 a2 a3 a4 a5 a6 a7 : Value} {x : Int32} (h : am_R E d mX10_married k n 83 [a0, .int x, a2, a3, a4, a5, a6, a7] (.int x :: st) S iv Q) : am_R E d mX10_married k n 82 [a0, .int x, a2, a3, a4, a5, a6, a7] st S iv Q := am_iload_n dX10_married_82 rfl rfl h
theorem sX10_married_83 {ls : List Value} {a m : Nat} {i : Int32} (ha : S.1 a = some (.inr (.int, m))) (hi : vp_in i m) (h : am_R E d mX10_married k n 84 ls (.int (iv a i.toNatClampNeg) :: st) S iv Q) : am_R E d mX10_married k n 83 ls (.int i :: .ref a :: st) S iv Q := am_iaload dX10_married_83 ha hi h
theorem sX10_married_84 {a0 a1 a2 a3 a4 a5 a6 a7 : Value} (hv : am_rf a0 = true) (h : am_R E d mX10_married k n 85 [a0, a1, a2, a3, a4, a5, a6, a7] (a0 :: st) S iv Q) : am_R E d mX10_married k n 84 [a0, a1, a2, a3, a4, a5, a6, a7] st S iv Q := am_aload_n dX10_married_84 rfl rfl hv h
theorem sX10_married_85 {ls : List Value} {a b : Nat} (ha : S.1 a = some (.inl 10)) (hb : S.2.1 a 6 = some b) (h : am_R E d mX10_married k n 88 ls (.ref b :: st) S iv Q) : am_R E d mX10_married k n 85 ls (.ref a :: st) S iv Q := am_getR (ci := 10) dX10_married_85 rfl rfl (by decide) wq_774 uq_10 rfl ha hb h
theorem sX10_married_88 {a0 a1 a3 a4 a5 a6 a7 : Value} {x : Int32} (h : am_R E d mX10_married k n 89 [a0, a1, .int x, a3, a4, a5, a6, a7] (.int x :: st) S iv Q) : am_R E d mX10_married k n 88 [a0, a1, .int x, a3, a4, a5, a6, a7] st S iv Q := am_iload_n dX10_married_88 rfl rfl h
theorem sX10_married_89 {ls : List Value} {a m : Nat} {i : Int32} (ha : S.1 a = some (.inr (.int, m))) (hi : vp_in i m) (h : am_R E d mX10_married k n 90 ls (.int (iv a i.toNatClampNeg) :: st) S iv Q) : am_R E d mX10_married k n 89 ls (.int i :: .ref a :: st) S iv Q := am_iaload dX10_married_89 ha hi h
theorem sX10_married_90 {ls : List Value} {x1 x2 : Value} (hst : (st.map fun v => v.category).sum ≤ 8) (hM : am_M E d mJ9_min_7cf53 0 0 [x1, x2] S iv (am_K3 E (d + 1) mX10_married k n 90 ls st Q)) : am_R E (d + 1) mX10_married k n 90 ls (x2 :: x1 :: st) S iv Q := am_cS (M' := mJ9_min_7cf53) (as := [x1, x2]) dX10_married_90 rfl wq_832 wq_57 wq_50 wq_54 hy_J9_min_7cf53 (by decide) hst (by omega) (by omega) hM
theorem sX10_married_90_k {ls : List Value} {x1 x2 : Value} {k' n' : Nat} (hst : (st.map fun v => v.category).sum ≤ 8) (hM : am_M E d mJ9_min_7cf53 k' n' [x1, x2] S iv (am_K3 E (d + 1) mX10_married k n 90 ls st Q)) : am_R E (d + 1) mX10_married (k' + k) (n' + n) 90 ls (x2 :: x1 :: st) S iv Q := am_cS (M' := mJ9_min_7cf53) (as := [x1, x2]) dX10_married_90 rfl wq_832 wq_57 wq_50 wq_54 hy_J9_min_7cf53 (by decide) hst (by omega) (by omega) hM
theorem sX10_married_93 {ls : List Value} {a m : Nat} {i x : Int32} (ha : S.1 a = some (.inr (.int, m))) (hi : vp_in i m) (h : am_R E d mX10_married k n 94 ls st S (am_w iv a i.toNatClampNeg x) Q) : am_R E d mX10_married k n 93 ls (.int x :: .int i :: .ref a :: st) S iv Q := am_iastore dX10_married_93 ha hi h
theorem sX10_married_94 {a0 a1 a2 a3 a4 a5 a6 a7 : Value} (hv : am_rf a0 = true) (h : am_R E d mX10_married k n 95 [a0, a1, a2, a3, a4, a5, a6, a7] (a0 :: st) S iv Q) : am_R E d mX10_married k n 94 [a0, a1, a2, a3, a4, a5, a6, a7] st S iv Q := am_aload_n dX10_married_94 rfl rfl hv h
theorem sX10_married_95 {ls : List Value} {a b : Nat} (ha : S.1 a = some (.inl 10)) (hb : S.2.1 a 8 = some b) (h : am_R E d mX10_married k n 98 ls (.ref b :: st) S iv Q) : am_R E d mX10_married k n 95 ls (.ref a :: st) S iv Q := am_getR (ci := 10) dX10_married_95 rfl rfl (by decide) wq_776 uq_10 rfl ha hb h
theorem sX10_married_98 {a0 a2 a3 a4 a5 a6 a7 : Value} {x : Int32} (h : am_R E d mX10_married k n 99 [a0, .int x, a2, a3, a4, a5, a6, a7] (.int x :: st) S iv Q) : am_R E d mX10_married k n 98 [a0, .int x, a2, a3, a4, a5, a6, a7] st S iv Q := am_iload_n dX10_married_98 rfl rfl h
theorem sX10_married_99 {a0 a1 a2 a3 a4 a5 a6 a7 : Value} (hv : am_rf a0 = true) (h : am_R E d mX10_married k n 100 [a0, a1, a2, a3, a4, a5, a6, a7] (a0 :: st) S iv Q) : am_R E d mX10_married k n 99 [a0, a1, a2, a3, a4, a5, a6, a7] st S iv Q := am_aload_n dX10_married_99 rfl rfl hv h
theorem sX10_married_100 {ls : List Value} {a b : Nat} (ha : S.1 a = some (.inl 10)) (hb : S.2.1 a 8 = some b) (h : am_R E d mX10_married k n 103 ls (.ref b :: st) S iv Q) : am_R E d mX10_married k n 100 ls (.ref a :: st) S iv Q := am_getR (ci := 10) dX10_married_100 rfl rfl (by decide) wq_776 uq_10 rfl ha hb h
theorem sX10_married_103 {a0 a2 a3 a4 a5 a6 a7 : Value} {x : Int32} (h : am_R E d mX10_married k n 104 [a0, .int x, a2, a3, a4, a5, a6, a7] (.int x :: st) S iv Q) : am_R E d mX10_married k n 103 [a0, .int x, a2, a3, a4, a5, a6, a7] st S iv Q := am_iload_n dX10_married_103 rfl rfl h
theorem sX10_married_104 {ls : List Value} {a m : Nat} {i : Int32} (ha : S.1 a = some (.inr (.int, m))) (hi : vp_in i m) (h : am_R E d mX10_married k n 105 ls (.int (iv a i.toNatClampNeg) :: st) S iv Q) : am_R E d mX10_married k n 104 ls (.int i :: .ref a :: st) S iv Q := am_iaload dX10_married_104 ha hi h
theorem sX10_married_105 {a0 a1 a2 a3 a4 a5 a6 a7 : Value} (hv : am_rf a0 = true) (h : am_R E d mX10_married k n 106 [a0, a1, a2, a3, a4, a5, a6, a7] (a0 :: st) S iv Q) : am_R E d mX10_married k n 105 [a0, a1, a2, a3, a4, a5, a6, a7] st S iv Q := am_aload_n dX10_married_105 rfl rfl hv h
theorem sX10_married_106 {ls : List Value} {a b : Nat} (ha : S.1 a = some (.inl 10)) (hb : S.2.1 a 8 = some b) (h : am_R E d mX10_married k n 109 ls (.ref b :: st) S iv Q) : am_R E d mX10_married k n 106 ls (.ref a :: st) S iv Q := am_getR (ci := 10) dX10_married_106 rfl rfl (by decide) wq_776 uq_10 rfl ha hb h
theorem sX10_married_109 {a0 a1 a3 a4 a5 a6 a7 : Value} {x : Int32} (h : am_R E d mX10_married k n 110 [a0, a1, .int x, a3, a4, a5, a6, a7] (.int x :: st) S iv Q) : am_R E d mX10_married k n 109 [a0, a1, .int x, a3, a4, a5, a6, a7] st S iv Q := am_iload_n dX10_married_109 rfl rfl h
theorem sX10_married_110 {ls : List Value} {a m : Nat} {i : Int32} (ha : S.1 a = some (.inr (.int, m))) (hi : vp_in i m) (h : am_R E d mX10_married k n 111 ls (.int (iv a i.toNatClampNeg) :: st) S iv Q) : am_R E d mX10_married k n 110 ls (.int i :: .ref a :: st) S iv Q := am_iaload dX10_married_110 ha hi h
theorem sX10_married_111 {ls : List Value} {x1 x2 : Value} (hst : (st.map fun v => v.category).sum ≤ 8) (hM : am_M E d mJ9_max_7cf53 0 0 [x1, x2] S iv (am_K3 E (d + 1) mX10_married k n 111 ls st Q)) : am_R E (d + 1) mX10_married k n 111 ls (x2 :: x1 :: st) S iv Q := am_cS (M' := mJ9_max_7cf53) (as := [x1, x2]) dX10_married_111 rfl wq_1101 wq_53 wq_50 wq_49 hy_J9_max_7cf53 (by decide) hst (by omega) (by omega) hM
theorem sX10_married_111_k {ls : List Value} {x1 x2 : Value} {k' n' : Nat} (hst : (st.map fun v => v.category).sum ≤ 8) (hM : am_M E d mJ9_max_7cf53 k' n' [x1, x2] S iv (am_K3 E (d + 1) mX10_married k n 111 ls st Q)) : am_R E (d + 1) mX10_married (k' + k) (n' + n) 111 ls (x2 :: x1 :: st) S iv Q := am_cS (M' := mJ9_max_7cf53) (as := [x1, x2]) dX10_married_111 rfl wq_1101 wq_53 wq_50 wq_49 hy_J9_max_7cf53 (by decide) hst (by omega) (by omega) hM
theorem sX10_married_114 {ls : List Value} {a m : Nat} {i x : Int32} (ha : S.1 a = some (.inr (.int, m))) (hi : vp_in i m) (h : am_R E d mX10_married k n 115 ls st S (am_w iv a i.toNatClampNeg x) Q) : am_R E d mX10_married k n 114 ls (.int x :: .int i :: .ref a :: st) S iv Q := am_iastore dX10_married_114 ha hi h
theorem sX10_married_115 {a0 a1 a2 a3 a4 a5 a6 a7 : Value} (hv : am_rf a0 = true) (h : am_R E d mX10_married k n 116 [a0, a1, a2, a3, a4, a5, a6, a7] (a0 :: st) S iv Q) : am_R E d mX10_married k n 115 [a0, a1, a2, a3, a4, a5, a6, a7] st S iv Q := am_aload_n dX10_married_115 rfl rfl hv h
theorem sX10_married_116 {ls : List Value} {a b : Nat} (ha : S.1 a = some (.inl 10)) (hb : S.2.1 a 9 = some b) (h : am_R E d mX10_married k n 119 ls (.ref b :: st) S iv Q) : am_R E d mX10_married k n 116 ls (.ref a :: st) S iv Q := am_getR (ci := 10) dX10_married_116 rfl rfl (by decide) wq_777 uq_10 rfl ha hb h
theorem sX10_married_119 {a0 a2 a3 a4 a5 a6 a7 : Value} {x : Int32} (h : am_R E d mX10_married k n 120 [a0, .int x, a2, a3, a4, a5, a6, a7] (.int x :: st) S iv Q) : am_R E d mX10_married k n 119 [a0, .int x, a2, a3, a4, a5, a6, a7] st S iv Q := am_iload_n dX10_married_119 rfl rfl h
theorem sX10_married_120 {a0 a1 a2 a3 a4 a5 a6 a7 : Value} (h : am_R E d mX10_married k n 121 [a0, a1, a2, a3, a4, a5, a6, a7] (.int 1 :: st) S iv Q) : am_R E d mX10_married k n 120 [a0, a1, a2, a3, a4, a5, a6, a7] st S iv Q := am_iconst dX10_married_120 (by decide) h
theorem sX10_married_121 {ls : List Value} {a m : Nat} {i x : Int32} (ha : S.1 a = some (.inr (.int, m))) (hi : vp_in i m) (h : am_R E d mX10_married k n 122 ls st S (am_w iv a i.toNatClampNeg x) Q) : am_R E d mX10_married k n 121 ls (.int x :: .int i :: .ref a :: st) S iv Q := am_iastore dX10_married_121 ha hi h
theorem sX10_married_122 {a0 a1 a2 a3 a4 a5 a6 a7 : Value} (h : am_R E d mX10_married k n 123 [a0, a1, a2, a3, a4, a5, a6, a7] (.int 0 :: st) S iv Q) : am_R E d mX10_married k n 122 [a0, a1, a2, a3, a4, a5, a6, a7] st S iv Q := am_iconst dX10_married_122 (by decide) h
theorem sX10_married_123 {a0 a1 a2 a3 a4 a5 a6 a7 : Value} {x : Int32} (h : am_R E d mX10_married k n 125 [a0, a1, a2, a3, a4, a5, .int x, a7] st S iv Q) : am_R E d mX10_married k n 123 [a0, a1, a2, a3, a4, a5, a6, a7] (.int x :: st) S iv Q := am_istore dX10_married_123 (by decide) h
theorem sX10_married_125 {a0 a1 a2 a3 a4 a5 a7 : Value} {x : Int32} (h : am_R E d mX10_married k n 127 [a0, a1, a2, a3, a4, a5, .int x, a7] (.int x :: st) S iv Q) : am_R E d mX10_married k n 125 [a0, a1, a2, a3, a4, a5, .int x, a7] st S iv Q := am_iload dX10_married_125 rfl h
theorem sX10_married_127 {a0 a1 a2 a3 a4 a5 a6 a7 : Value} (h : am_R E d mX10_married k n 128 [a0, a1, a2, a3, a4, a5, a6, a7] (.int 5 :: st) S iv Q) : am_R E d mX10_married k n 127 [a0, a1, a2, a3, a4, a5, a6, a7] st S iv Q := am_iconst dX10_married_127 (by decide) h
theorem sX10_married_128 {ls : List Value} {x y : Int32} (kt : y ≤ x → am_R E d mX10_married k n 170 ls st S iv Q) (kf : ¬ y ≤ x → am_R E d mX10_married k n 131 ls st S iv Q) : am_R E d mX10_married k n 128 ls (.int y :: .int x :: st) S iv Q := am_icmp_ge dX10_married_128 (by decide) kt kf
theorem sX10_married_131 {a0 a1 a2 a3 a4 a5 a6 a7 : Value} (hv : am_rf a0 = true) (h : am_R E d mX10_married k n 132 [a0, a1, a2, a3, a4, a5, a6, a7] (a0 :: st) S iv Q) : am_R E d mX10_married k n 131 [a0, a1, a2, a3, a4, a5, a6, a7] st S iv Q := am_aload_n dX10_married_131 rfl rfl hv h
theorem sX10_married_132 {ls : List Value} {a b : Nat} (ha : S.1 a = some (.inl 10)) (hb : S.2.1 a 46 = some b) (h : am_R E d mX10_married k n 135 ls (.ref b :: st) S iv Q) : am_R E d mX10_married k n 132 ls (.ref a :: st) S iv Q := am_getR (ci := 10) dX10_married_132 rfl rfl (by decide) wq_801 uq_10 rfl ha hb h
theorem sX10_married_135 {a0 a1 a2 a3 a4 a5 a7 : Value} {x : Int32} (h : am_R E d mX10_married k n 137 [a0, a1, a2, a3, a4, a5, .int x, a7] (.int x :: st) S iv Q) : am_R E d mX10_married k n 135 [a0, a1, a2, a3, a4, a5, .int x, a7] st S iv Q := am_iload dX10_married_135 rfl h
theorem sX10_married_137 {a0 a1 a2 a3 a4 a5 a6 a7 : Value} (hv : am_rf a0 = true) (h : am_R E d mX10_married k n 138 [a0, a1, a2, a3, a4, a5, a6, a7] (a0 :: st) S iv Q) : am_R E d mX10_married k n 137 [a0, a1, a2, a3, a4, a5, a6, a7] st S iv Q := am_aload_n dX10_married_137 rfl rfl hv h
theorem sX10_married_138 {ls : List Value} {a b : Nat} (ha : S.1 a = some (.inl 10)) (hb : S.2.1 a 10 = some b) (h : am_R E d mX10_married k n 141 ls (.ref b :: st) S iv Q) : am_R E d mX10_married k n 138 ls (.ref a :: st) S iv Q := am_getR (ci := 10) dX10_married_138 rfl rfl (by decide) wq_778 uq_10 rfl ha hb h
theorem sX10_married_141 {a0 a1 a2 a3 a4 a5 a7 : Value} {x : Int32} (h : am_R E d mX10_married k n 143 [a0, a1, a2, a3, a4, a5, .int x, a7] (.int x :: st) S iv Q) : am_R E d mX10_married k n 141 [a0, a1, a2, a3, a4, a5, .int x, a7] st S iv Q := am_iload dX10_married_141 rfl h
theorem sX10_married_143 {ls : List Value} {a m : Nat} {i : Int32} (ha : S.1 a = some (.inr (.int, m))) (hi : vp_in i m) (h : am_R E d mX10_married k n 144 ls (.int (iv a i.toNatClampNeg) :: st) S iv Q) : am_R E d mX10_married k n 143 ls (.int i :: .ref a :: st) S iv Q := am_iaload dX10_married_143 ha hi h
theorem sX10_married_144 {ls : List Value} {a m : Nat} {i x : Int32} (ha : S.1 a = some (.inr (.int, m))) (hi : vp_in i m) (h : am_R E d mX10_married k n 145 ls st S (am_w iv a i.toNatClampNeg x) Q) : am_R E d mX10_married k n 144 ls (.int x :: .int i :: .ref a :: st) S iv Q := am_iastore dX10_married_144 ha hi h
theorem sX10_married_145 {a0 a1 a2 a3 a4 a5 a6 a7 : Value} (hv : am_rf a0 = true) (h : am_R E d mX10_married k n 146 [a0, a1, a2, a3, a4, a5, a6, a7] (a0 :: st) S iv Q) : am_R E d mX10_married k n 145 [a0, a1, a2, a3, a4, a5, a6, a7] st S iv Q := am_aload_n dX10_married_145 rfl rfl hv h
theorem sX10_married_146 {ls : List Value} {a b : Nat} (ha : S.1 a = some (.inl 10)) (hb : S.2.1 a 10 = some b) (h : am_R E d mX10_married k n 149 ls (.ref b :: st) S iv Q) : am_R E d mX10_married k n 146 ls (.ref a :: st) S iv Q := am_getR (ci := 10) dX10_married_146 rfl rfl (by decide) wq_778 uq_10 rfl ha hb h
theorem sX10_married_149 {a0 a1 a2 a3 a4 a5 a7 : Value} {x : Int32} (h : am_R E d mX10_married k n 151 [a0, a1, a2, a3, a4, a5, .int x, a7] (.int x :: st) S iv Q) : am_R E d mX10_married k n 149 [a0, a1, a2, a3, a4, a5, .int x, a7] st S iv Q := am_iload dX10_married_149 rfl h
theorem sX10_married_151 {ls : List Value} {a m : Nat} {i : Int32} (ha : S.1 a = some (.inr (.int, m))) (hi : vp_in i m) (h : am_R E d mX10_married k n 152 ls (.int (iv a i.toNatClampNeg) :: st) S iv Q) : am_R E d mX10_married k n 151 ls (.int i :: .ref a :: st) S iv Q := am_iaload dX10_married_151 ha hi h
theorem sX10_married_152 {a0 a1 a3 a4 a5 a6 a7 : Value} {x : Int32} (h : am_R E d mX10_married k n 153 [a0, a1, .int x, a3, a4, a5, a6, a7] (.int x :: st) S iv Q) : am_R E d mX10_married k n 152 [a0, a1, .int x, a3, a4, a5, a6, a7] st S iv Q := am_iload_n dX10_married_152 rfl rfl h
theorem sX10_married_153 {ls : List Value} {x y : Int32} (kt : ¬ x = y → am_R E d mX10_married k n 164 ls st S iv Q) (kf : x = y → am_R E d mX10_married k n 156 ls st S iv Q) : am_R E d mX10_married k n 153 ls (.int y :: .int x :: st) S iv Q := am_icmp_ne dX10_married_153 (by decide) kt kf
theorem sX10_married_156 {a0 a1 a2 a3 a4 a5 a6 a7 : Value} (hv : am_rf a0 = true) (h : am_R E d mX10_married k n 157 [a0, a1, a2, a3, a4, a5, a6, a7] (a0 :: st) S iv Q) : am_R E d mX10_married k n 156 [a0, a1, a2, a3, a4, a5, a6, a7] st S iv Q := am_aload_n dX10_married_156 rfl rfl hv h
theorem sX10_married_157 {ls : List Value} {a b : Nat} (ha : S.1 a = some (.inl 10)) (hb : S.2.1 a 10 = some b) (h : am_R E d mX10_married k n 160 ls (.ref b :: st) S iv Q) : am_R E d mX10_married k n 157 ls (.ref a :: st) S iv Q := am_getR (ci := 10) dX10_married_157 rfl rfl (by decide) wq_778 uq_10 rfl ha hb h
theorem sX10_married_160 {a0 a1 a2 a3 a4 a5 a7 : Value} {x : Int32} (h : am_R E d mX10_married k n 162 [a0, a1, a2, a3, a4, a5, .int x, a7] (.int x :: st) S iv Q) : am_R E d mX10_married k n 160 [a0, a1, a2, a3, a4, a5, .int x, a7] st S iv Q := am_iload dX10_married_160 rfl h
theorem sX10_married_162 {a0 a2 a3 a4 a5 a6 a7 : Value} {x : Int32} (h : am_R E d mX10_married k n 163 [a0, .int x, a2, a3, a4, a5, a6, a7] (.int x :: st) S iv Q) : am_R E d mX10_married k n 162 [a0, .int x, a2, a3, a4, a5, a6, a7] st S iv Q := am_iload_n dX10_married_162 rfl rfl h
theorem sX10_married_163 {ls : List Value} {a m : Nat} {i x : Int32} (ha : S.1 a = some (.inr (.int, m))) (hi : vp_in i m) (h : am_R E d mX10_married k n 164 ls st S (am_w iv a i.toNatClampNeg x) Q) : am_R E d mX10_married k n 163 ls (.int x :: .int i :: .ref a :: st) S iv Q := am_iastore dX10_married_163 ha hi h
theorem sX10_married_164 {a0 a1 a2 a3 a4 a5 a7 : Value} {x : Int32} (h : am_R E d mX10_married k n 167 [a0, a1, a2, a3, a4, a5, .int (x + 1), a7] st S iv Q) : am_R E d mX10_married k n 164 [a0, a1, a2, a3, a4, a5, .int x, a7] st S iv Q := am_iinc dX10_married_164 rfl rfl (by decide) h
theorem sX10_married_167 {ls : List Value} (h : am_R E d mX10_married k n 125 ls st S iv Q) : am_R E d mX10_married k n 167 ls st S iv Q := am_goto dX10_married_167 (by decide) h
theorem sX10_married_170 {a0 a1 a2 a3 a4 a5 a6 a7 : Value} (hv : am_rf a0 = true) (h : am_R E d mX10_married k n 171 [a0, a1, a2, a3, a4, a5, a6, a7] (a0 :: st) S iv Q) : am_R E d mX10_married k n 170 [a0, a1, a2, a3, a4, a5, a6, a7] st S iv Q := am_aload_n dX10_married_170 rfl rfl hv h
theorem sX10_married_171 {a0 a1 a2 a3 a4 a5 a6 a7 : Value} (hv : am_rf a0 = true) (h : am_R E d mX10_married k n 172 [a0, a1, a2, a3, a4, a5, a6, a7] (a0 :: st) S iv Q) : am_R E d mX10_married k n 171 [a0, a1, a2, a3, a4, a5, a6, a7] st S iv Q := am_aload_n dX10_married_171 rfl rfl hv h
theorem sX10_married_172 {ls : List Value} {a : Nat} (ha : S.1 a = some (.inl 10)) (h : am_R E d mX10_married k n 175 ls (.int (iv a 30) :: st) S iv Q) : am_R E d mX10_married k n 172 ls (.ref a :: st) S iv Q := am_getI (ci := 10) dX10_married_172 rfl rfl (by decide) wq_973 uq_10 rfl ha h
theorem sX10_married_175 {a0 a1 a2 a3 a4 a5 a6 a7 : Value} (h : am_R E d mX10_married k n 176 [a0, a1, a2, a3, a4, a5, a6, a7] (.int 1 :: st) S iv Q) : am_R E d mX10_married k n 175 [a0, a1, a2, a3, a4, a5, a6, a7] st S iv Q := am_iconst dX10_married_175 (by decide) h
theorem sX10_married_176 {a0 a1 a3 a4 a5 a6 a7 : Value} {x : Int32} (h : am_R E d mX10_married k n 177 [a0, a1, .int x, a3, a4, a5, a6, a7] (.int x :: st) S iv Q) : am_R E d mX10_married k n 176 [a0, a1, .int x, a3, a4, a5, a6, a7] st S iv Q := am_iload_n dX10_married_176 rfl rfl h
theorem sX10_married_177 {ls : List Value} {x y : Int32} (h : am_R E d mX10_married k n 178 ls (.int (x <<< (y &&& 31)) :: st) S iv Q) : am_R E d mX10_married k n 177 ls (.int y :: .int x :: st) S iv Q := am_ishl dX10_married_177 h
theorem sX10_married_178 {ls : List Value} {x y : Int32} (h : am_R E d mX10_married k n 179 ls (.int (x ||| y) :: st) S iv Q) : am_R E d mX10_married k n 178 ls (.int y :: .int x :: st) S iv Q := am_ior dX10_married_178 h
theorem sX10_married_179 {ls : List Value} {x1 : Value} {a : Nat} (ha : S.1 a = some (.inl 10)) (hst : (st.map fun v => v.category).sum ≤ 8) (hM : am_M E d mX10_soonBread 0 0 [.ref a, x1] S iv (am_K3 E (d + 1) mX10_married k n 179 ls st Q)) : am_R E (d + 1) mX10_married k n 179 ls (x1 :: .ref a :: st) S iv Q := am_cV (ci := 10) (M' := mX10_soonBread) (as := [x1]) dX10_married_179 rfl rfl rfl wq_1098 wq_1099 wq_1100 wq_808 wq_1096 hy_X10_soonBread (by decide) ha hst (by omega) (by omega) hM
theorem sX10_married_179_k {ls : List Value} {x1 : Value} {k' n' : Nat} {a : Nat} (ha : S.1 a = some (.inl 10)) (hst : (st.map fun v => v.category).sum ≤ 8) (hM : am_M E d mX10_soonBread k' n' [.ref a, x1] S iv (am_K3 E (d + 1) mX10_married k n 179 ls st Q)) : am_R E (d + 1) mX10_married (k' + k) (n' + n) 179 ls (x1 :: .ref a :: st) S iv Q := am_cV (ci := 10) (M' := mX10_soonBread) (as := [x1]) dX10_married_179 rfl rfl rfl wq_1098 wq_1099 wq_1100 wq_808 wq_1096 hy_X10_soonBread (by decide) ha hst (by omega) (by omega) hM
theorem sX10_married_182 {a0 a1 a2 a3 a4 a5 a6 a7 : Value} {x : Int32} (h : am_R E d mX10_married k n 184 [a0, a1, a2, a3, a4, a5, .int x, a7] st S iv Q) : am_R E d mX10_married k n 182 [a0, a1, a2, a3, a4, a5, a6, a7] (.int x :: st) S iv Q := am_istore dX10_married_182 (by decide) h
theorem sX10_married_184 {a0 a1 a2 a3 a4 a5 a6 a7 : Value} (hv : am_rf a0 = true) (h : am_R E d mX10_married k n 185 [a0, a1, a2, a3, a4, a5, a6, a7] (a0 :: st) S iv Q) : am_R E d mX10_married k n 184 [a0, a1, a2, a3, a4, a5, a6, a7] st S iv Q := am_aload_n dX10_married_184 rfl rfl hv h
theorem sX10_married_185 {ls : List Value} {a b : Nat} (ha : S.1 a = some (.inl 10)) (hb : S.2.1 a 6 = some b) (h : am_R E d mX10_married k n 188 ls (.ref b :: st) S iv Q) : am_R E d mX10_married k n 185 ls (.ref a :: st) S iv Q := am_getR (ci := 10) dX10_married_185 rfl rfl (by decide) wq_774 uq_10 rfl ha hb h
theorem sX10_married_188 {a0 a2 a3 a4 a5 a6 a7 : Value} {x : Int32} (h : am_R E d mX10_married k n 189 [a0, .int x, a2, a3, a4, a5, a6, a7] (.int x :: st) S iv Q) : am_R E d mX10_married k n 188 [a0, .int x, a2, a3, a4, a5, a6, a7] st S iv Q := am_iload_n dX10_married_188 rfl rfl h
theorem sX10_married_189 {a0 a1 a2 a3 a5 a6 a7 : Value} {x : Int32} (h : am_R E d mX10_married k n 191 [a0, a1, a2, a3, .int x, a5, a6, a7] (.int x :: st) S iv Q) : am_R E d mX10_married k n 189 [a0, a1, a2, a3, .int x, a5, a6, a7] st S iv Q := am_iload dX10_married_189 rfl h
theorem sX10_married_191 {ls : List Value} {a m : Nat} {i x : Int32} (ha : S.1 a = some (.inr (.int, m))) (hi : vp_in i m) (h : am_R E d mX10_married k n 192 ls st S (am_w iv a i.toNatClampNeg x) Q) : am_R E d mX10_married k n 191 ls (.int x :: .int i :: .ref a :: st) S iv Q := am_iastore dX10_married_191 ha hi h
theorem sX10_married_192 {a0 a1 a2 a3 a4 a5 a6 a7 : Value} (hv : am_rf a0 = true) (h : am_R E d mX10_married k n 193 [a0, a1, a2, a3, a4, a5, a6, a7] (a0 :: st) S iv Q) : am_R E d mX10_married k n 192 [a0, a1, a2, a3, a4, a5, a6, a7] st S iv Q := am_aload_n dX10_married_192 rfl rfl hv h
theorem sX10_married_193 {ls : List Value} {a b : Nat} (ha : S.1 a = some (.inl 10)) (hb : S.2.1 a 8 = some b) (h : am_R E d mX10_married k n 196 ls (.ref b :: st) S iv Q) : am_R E d mX10_married k n 193 ls (.ref a :: st) S iv Q := am_getR (ci := 10) dX10_married_193 rfl rfl (by decide) wq_776 uq_10 rfl ha hb h
theorem sX10_married_196 {a0 a2 a3 a4 a5 a6 a7 : Value} {x : Int32} (h : am_R E d mX10_married k n 197 [a0, .int x, a2, a3, a4, a5, a6, a7] (.int x :: st) S iv Q) : am_R E d mX10_married k n 196 [a0, .int x, a2, a3, a4, a5, a6, a7] st S iv Q := am_iload_n dX10_married_196 rfl rfl h
theorem sX10_married_197 {a0 a1 a2 a3 a4 a6 a7 : Value} {x : Int32} (h : am_R E d mX10_married k n 199 [a0, a1, a2, a3, a4, .int x, a6, a7] (.int x :: st) S iv Q) : am_R E d mX10_married k n 197 [a0, a1, a2, a3, a4, .int x, a6, a7] st S iv Q := am_iload dX10_married_197 rfl h
theorem sX10_married_199 {ls : List Value} {a m : Nat} {i x : Int32} (ha : S.1 a = some (.inr (.int, m))) (hi : vp_in i m) (h : am_R E d mX10_married k n 200 ls st S (am_w iv a i.toNatClampNeg x) Q) : am_R E d mX10_married k n 199 ls (.int x :: .int i :: .ref a :: st) S iv Q := am_iastore dX10_married_199 ha hi h
theorem sX10_married_200 {a0 a1 a2 a3 a4 a5 a6 a7 : Value} (hv : am_rf a0 = true) (h : am_R E d mX10_married k n 201 [a0, a1, a2, a3, a4, a5, a6, a7] (a0 :: st) S iv Q) : am_R E d mX10_married k n 200 [a0, a1, a2, a3, a4, a5, a6, a7] st S iv Q := am_aload_n dX10_married_200 rfl rfl hv h
theorem sX10_married_201 {ls : List Value} {a b : Nat} (ha : S.1 a = some (.inl 10)) (hb : S.2.1 a 9 = some b) (h : am_R E d mX10_married k n 204 ls (.ref b :: st) S iv Q) : am_R E d mX10_married k n 201 ls (.ref a :: st) S iv Q := am_getR (ci := 10) dX10_married_201 rfl rfl (by decide) wq_777 uq_10 rfl ha hb h
theorem sX10_married_204 {a0 a2 a3 a4 a5 a6 a7 : Value} {x : Int32} (h : am_R E d mX10_married k n 205 [a0, .int x, a2, a3, a4, a5, a6, a7] (.int x :: st) S iv Q) : am_R E d mX10_married k n 204 [a0, .int x, a2, a3, a4, a5, a6, a7] st S iv Q := am_iload_n dX10_married_204 rfl rfl h
theorem sX10_married_205 {a0 a1 a2 a3 a4 a5 a6 a7 : Value} (h : am_R E d mX10_married k n 206 [a0, a1, a2, a3, a4, a5, a6, a7] (.int 0 :: st) S iv Q) : am_R E d mX10_married k n 205 [a0, a1, a2, a3, a4, a5, a6, a7] st S iv Q := am_iconst dX10_married_205 (by decide) h
theorem sX10_married_206 {ls : List Value} {a m : Nat} {i x : Int32} (ha : S.1 a = some (.inr (.int, m))) (hi : vp_in i m) (h : am_R E d mX10_married k n 207 ls st S (am_w iv a i.toNatClampNeg x) Q) : am_R E d mX10_married k n 206 ls (.int x :: .int i :: .ref a :: st) S iv Q := am_iastore dX10_married_206 ha hi h
theorem sX10_married_207 {a0 a1 a2 a3 a4 a5 a6 a7 : Value} (h : am_R E d mX10_married k n 208 [a0, a1, a2, a3, a4, a5, a6, a7] (.int 0 :: st) S iv Q) : am_R E d mX10_married k n 207 [a0, a1, a2, a3, a4, a5, a6, a7] st S iv Q := am_iconst dX10_married_207 (by decide) h
theorem sX10_married_208 {a0 a1 a2 a3 a4 a5 a6 a7 : Value} {x : Int32} (h : am_R E d mX10_married k n 210 [a0, a1, a2, a3, a4, a5, a6, .int x] st S iv Q) : am_R E d mX10_married k n 208 [a0, a1, a2, a3, a4, a5, a6, a7] (.int x :: st) S iv Q := am_istore dX10_married_208 (by decide) h
theorem sX10_married_210 {a0 a1 a2 a3 a4 a5 a6 : Value} {x : Int32} (h : am_R E d mX10_married k n 212 [a0, a1, a2, a3, a4, a5, a6, .int x] (.int x :: st) S iv Q) : am_R E d mX10_married k n 210 [a0, a1, a2, a3, a4, a5, a6, .int x] st S iv Q := am_iload dX10_married_210 rfl h
theorem sX10_married_212 {a0 a1 a2 a3 a4 a5 a6 a7 : Value} (h : am_R E d mX10_married k n 213 [a0, a1, a2, a3, a4, a5, a6, a7] (.int 5 :: st) S iv Q) : am_R E d mX10_married k n 212 [a0, a1, a2, a3, a4, a5, a6, a7] st S iv Q := am_iconst dX10_married_212 (by decide) h
theorem sX10_married_213 {ls : List Value} {x y : Int32} (kt : y ≤ x → am_R E d mX10_married k n 236 ls st S iv Q) (kf : ¬ y ≤ x → am_R E d mX10_married k n 216 ls st S iv Q) : am_R E d mX10_married k n 213 ls (.int y :: .int x :: st) S iv Q := am_icmp_ge dX10_married_213 (by decide) kt kf
theorem sX10_married_216 {a0 a1 a2 a3 a4 a5 a6 a7 : Value} (hv : am_rf a0 = true) (h : am_R E d mX10_married k n 217 [a0, a1, a2, a3, a4, a5, a6, a7] (a0 :: st) S iv Q) : am_R E d mX10_married k n 216 [a0, a1, a2, a3, a4, a5, a6, a7] st S iv Q := am_aload_n dX10_married_216 rfl rfl hv h
theorem sX10_married_217 {ls : List Value} {a b : Nat} (ha : S.1 a = some (.inl 10)) (hb : S.2.1 a 10 = some b) (h : am_R E d mX10_married k n 220 ls (.ref b :: st) S iv Q) : am_R E d mX10_married k n 217 ls (.ref a :: st) S iv Q := am_getR (ci := 10) dX10_married_217 rfl rfl (by decide) wq_778 uq_10 rfl ha hb h
theorem sX10_married_220 {a0 a1 a2 a3 a4 a5 a6 : Value} {x : Int32} (h : am_R E d mX10_married k n 222 [a0, a1, a2, a3, a4, a5, a6, .int x] (.int x :: st) S iv Q) : am_R E d mX10_married k n 220 [a0, a1, a2, a3, a4, a5, a6, .int x] st S iv Q := am_iload dX10_married_220 rfl h
theorem sX10_married_222 {a0 a1 a2 a3 a4 a5 a6 a7 : Value} (hv : am_rf a0 = true) (h : am_R E d mX10_married k n 223 [a0, a1, a2, a3, a4, a5, a6, a7] (a0 :: st) S iv Q) : am_R E d mX10_married k n 222 [a0, a1, a2, a3, a4, a5, a6, a7] st S iv Q := am_aload_n dX10_married_222 rfl rfl hv h
theorem sX10_married_223 {ls : List Value} {a b : Nat} (ha : S.1 a = some (.inl 10)) (hb : S.2.1 a 46 = some b) (h : am_R E d mX10_married k n 226 ls (.ref b :: st) S iv Q) : am_R E d mX10_married k n 223 ls (.ref a :: st) S iv Q := am_getR (ci := 10) dX10_married_223 rfl rfl (by decide) wq_801 uq_10 rfl ha hb h
theorem sX10_married_226 {a0 a1 a2 a3 a4 a5 a6 : Value} {x : Int32} (h : am_R E d mX10_married k n 228 [a0, a1, a2, a3, a4, a5, a6, .int x] (.int x :: st) S iv Q) : am_R E d mX10_married k n 226 [a0, a1, a2, a3, a4, a5, a6, .int x] st S iv Q := am_iload dX10_married_226 rfl h
theorem sX10_married_228 {ls : List Value} {a m : Nat} {i : Int32} (ha : S.1 a = some (.inr (.int, m))) (hi : vp_in i m) (h : am_R E d mX10_married k n 229 ls (.int (iv a i.toNatClampNeg) :: st) S iv Q) : am_R E d mX10_married k n 228 ls (.int i :: .ref a :: st) S iv Q := am_iaload dX10_married_228 ha hi h
theorem sX10_married_229 {ls : List Value} {a m : Nat} {i x : Int32} (ha : S.1 a = some (.inr (.int, m))) (hi : vp_in i m) (h : am_R E d mX10_married k n 230 ls st S (am_w iv a i.toNatClampNeg x) Q) : am_R E d mX10_married k n 229 ls (.int x :: .int i :: .ref a :: st) S iv Q := am_iastore dX10_married_229 ha hi h
theorem sX10_married_230 {a0 a1 a2 a3 a4 a5 a6 : Value} {x : Int32} (h : am_R E d mX10_married k n 233 [a0, a1, a2, a3, a4, a5, a6, .int (x + 1)] st S iv Q) : am_R E d mX10_married k n 230 [a0, a1, a2, a3, a4, a5, a6, .int x] st S iv Q := am_iinc dX10_married_230 rfl rfl (by decide) h
theorem sX10_married_233 {ls : List Value} (h : am_R E d mX10_married k n 210 ls st S iv Q) : am_R E d mX10_married k n 233 ls st S iv Q := am_goto dX10_married_233 (by decide) h
theorem sX10_married_236 {a0 a1 a2 a3 a4 a5 a7 : Value} {x : Int32} (h : am_R E d mX10_married k n 238 [a0, a1, a2, a3, a4, a5, .int x, a7] (.int x :: st) S iv Q) : am_R E d mX10_married k n 236 [a0, a1, a2, a3, a4, a5, .int x, a7] st S iv Q := am_iload dX10_married_236 rfl h
theorem sX10_married_238 {a0 a1 a2 a3 a4 a5 a6 a7 : Value} (h : am_R E d mX10_married k n 239 [a0, a1, a2, a3, a4, a5, a6, a7] (.int (-1) :: st) S iv Q) : am_R E d mX10_married k n 238 [a0, a1, a2, a3, a4, a5, a6, a7] st S iv Q := am_iconst dX10_married_238 (by decide) h
theorem sX10_married_239 {ls : List Value} {x y : Int32} (kt : ¬ x = y → am_R E d mX10_married k n 247 ls st S iv Q) (kf : x = y → am_R E d mX10_married k n 242 ls st S iv Q) : am_R E d mX10_married k n 239 ls (.int y :: .int x :: st) S iv Q := am_icmp_ne dX10_married_239 (by decide) kt kf
theorem sX10_married_242 {a0 a1 a2 a3 a4 a5 a6 a7 : Value} (h : am_R E d mX10_married k n 244 [a0, a1, a2, a3, a4, a5, a6, a7] (.int (-101) :: st) S iv Q) : am_R E d mX10_married k n 242 [a0, a1, a2, a3, a4, a5, a6, a7] st S iv Q := am_bipush dX10_married_242 (by decide) h
theorem sX10_married_244 {ls : List Value} (h : am_R E d mX10_married k n 251 ls st S iv Q) : am_R E d mX10_married k n 244 ls st S iv Q := am_goto dX10_married_244 (by decide) h
theorem sX10_married_247 {a0 a1 a2 a3 a4 a5 a7 : Value} {x : Int32} (h : am_R E d mX10_married k n 249 [a0, a1, a2, a3, a4, a5, .int x, a7] (.int x :: st) S iv Q) : am_R E d mX10_married k n 247 [a0, a1, a2, a3, a4, a5, .int x, a7] st S iv Q := am_iload dX10_married_247 rfl h
theorem sX10_married_249 {a0 a1 a2 a4 a5 a6 a7 : Value} {x : Int32} (h : am_R E d mX10_married k n 250 [a0, a1, a2, .int x, a4, a5, a6, a7] (.int x :: st) S iv Q) : am_R E d mX10_married k n 249 [a0, a1, a2, .int x, a4, a5, a6, a7] st S iv Q := am_iload_n dX10_married_249 rfl rfl h
theorem sX10_married_250 {ls : List Value} {x y : Int32} (h : am_R E d mX10_married k n 251 ls (.int (x - y) :: st) S iv Q) : am_R E d mX10_married k n 250 ls (.int y :: .int x :: st) S iv Q := am_isub dX10_married_250 h
theorem sX10_married_251 {ls : List Value} {x : Int32} (h : Q (.inl (some (.int x))) S iv) : am_R E d mX10_married k n 251 ls [.int x] S iv Q := am_ireturn dX10_married_251 rfl h
theorem dX10_rent_0 : decode cX10_rent 0 = .ok (.aload_n 0, 1) := by decide +kernel
theorem dX10_rent_1 : decode cX10_rent 1 = .ok (.iconst 0, 1) := by decide +kernel
theorem dX10_rent_2 : decode cX10_rent 2 = .ok (.putfield 143, 3) := by decide +kernel
theorem dX10_rent_5 : decode cX10_rent 5 = .ok (.iconst 0, 1) := by decide +kernel
theorem dX10_rent_6 : decode cX10_rent 6 = .ok (.istore_n 1, 1) := by decide +kernel
theorem dX10_rent_7 : decode cX10_rent 7 = .ok (.iconst 0, 1) := by decide +kernel
theorem dX10_rent_8 : decode cX10_rent 8 = .ok (.istore_n 2, 1) := by decide +kernel
theorem dX10_rent_9 : decode cX10_rent 9 = .ok (.iload_n 2, 1) := by decide +kernel
theorem dX10_rent_10 : decode cX10_rent 10 = .ok (.aload_n 0, 1) := by decide +kernel
theorem dX10_rent_11 : decode cX10_rent 11 = .ok (.getfield 49, 3) := by decide +kernel
theorem dX10_rent_14 : decode cX10_rent 14 = .ok (.iconst 2, 1) := by decide +kernel
theorem dX10_rent_15 : decode cX10_rent 15 = .ok (.iaload, 1) := by decide +kernel
theorem dX10_rent_16 : decode cX10_rent 16 = .ok (.if_icmp .ge 17, 3) := by decide +kernel
theorem dX10_rent_19 : decode cX10_rent 19 = .ok (.iload_n 1, 1) := by decide +kernel
theorem dX10_rent_20 : decode cX10_rent 20 = .ok (.aload_n 0, 1) := by decide +kernel
theorem dX10_rent_21 : decode cX10_rent 21 = .ok (.iload_n 2, 1) := by decide +kernel
theorem dX10_rent_22 : decode cX10_rent 22 = .ok (.invokevirtual 360, 3) := by decide +kernel
theorem dX10_rent_25 : decode cX10_rent 25 = .ok (.iadd, 1) := by decide +kernel
theorem dX10_rent_26 : decode cX10_rent 26 = .ok (.istore_n 1, 1) := by decide +kernel
theorem dX10_rent_27 : decode cX10_rent 27 = .ok (.iinc 2 1, 3) := by decide +kernel
theorem dX10_rent_30 : decode cX10_rent 30 = .ok (.goto (-21), 3) := by decide +kernel
theorem dX10_rent_33 : decode cX10_rent 33 = .ok (.iload_n 1, 1) := by decide +kernel
theorem dX10_rent_34 : decode cX10_rent 34 = .ok (.ireturn, 1) := by decide +kernel
theorem sX10_rent_0 {a0 a1 a2 : Value} (hv : am_rf a0 = true) (h : am_R E d mX10_rent k n 1 [a0, a1, a2] (a0 :: st) S iv Q) : am_R E d mX10_rent k n 0 [a0, a1, a2] st S iv Q := am_aload_n dX10_rent_0 rfl rfl hv h
theorem sX10_rent_1 {a0 a1 a2 : Value} (h : am_R E d mX10_rent k n 2 [a0, a1, a2] (.int 0 :: st) S iv Q) : am_R E d mX10_rent k n 1 [a0, a1, a2] st S iv Q := am_iconst dX10_rent_1 (by decide) h
theorem sX10_rent_2 {ls : List Value} {a : Nat} {x : Int32} (ha : S.1 a = some (.inl 10)) (h : am_R E d mX10_rent k n 5 ls st S (am_w iv a 3 x) Q) : am_R E d mX10_rent k n 2 ls (.int x :: .ref a :: st) S iv Q := am_putI (ci := 10) dX10_rent_2 rfl rfl (by decide) wq_806 uq_10 tyX10_ok nmX10 (Or.inl rfl) rfl ha h
theorem sX10_rent_5 {a0 a1 a2 : Value} (h : am_R E d mX10_rent k n 6 [a0, a1, a2] (.int 0 :: st) S iv Q) : am_R E d mX10_rent k n 5 [a0, a1, a2] st S iv Q := am_iconst dX10_rent_5 (by decide) h
theorem sX10_rent_6 {a0 a1 a2 : Value} {x : Int32} (h : am_R E d mX10_rent k n 7 [a0, .int x, a2] st S iv Q) : am_R E d mX10_rent k n 6 [a0, a1, a2] (.int x :: st) S iv Q := am_istore_n dX10_rent_6 rfl (by decide) h
theorem sX10_rent_7 {a0 a1 a2 : Value} (h : am_R E d mX10_rent k n 8 [a0, a1, a2] (.int 0 :: st) S iv Q) : am_R E d mX10_rent k n 7 [a0, a1, a2] st S iv Q := am_iconst dX10_rent_7 (by decide) h
theorem sX10_rent_8 {a0 a1 a2 : Value} {x : Int32} (h : am_R E d mX10_rent k n 9 [a0, a1, .int x] st S iv Q) : am_R E d mX10_rent k n 8 [a0, a1, a2] (.int x :: st) S iv Q := am_istore_n dX10_rent_8 rfl (by decide) h
theorem sX10_rent_9 {a0 a1 : Value} {x : Int32} (h : am_R E d mX10_rent k n 10 [a0, a1, .int x] (.int x :: st) S iv Q) : am_R E d mX10_rent k n 9 [a0, a1, .int x] st S iv Q := am_iload_n dX10_rent_9 rfl rfl h
theorem sX10_rent_10 {a0 a1 a2 : Value} (hv : am_rf a0 = true) (h : am_R E d mX10_rent k n 11 [a0, a1, a2] (a0 :: st) S iv Q) : am_R E d mX10_rent k n 10 [a0, a1, a2] st S iv Q := am_aload_n dX10_rent_10 rfl rfl hv h
theorem sX10_rent_11 {ls : List Value} {a b : Nat} (ha : S.1 a = some (.inl 10)) (hb : S.2.1 a 4 = some b) (h : am_R E d mX10_rent k n 14 ls (.ref b :: st) S iv Q) : am_R E d mX10_rent k n 11 ls (.ref a :: st) S iv Q := am_getR (ci := 10) dX10_rent_11 rfl rfl (by decide) wq_772 uq_10 rfl ha hb h
theorem sX10_rent_14 {a0 a1 a2 : Value} (h : am_R E d mX10_rent k n 15 [a0, a1, a2] (.int 2 :: st) S iv Q) : am_R E d mX10_rent k n 14 [a0, a1, a2] st S iv Q := am_iconst dX10_rent_14 (by decide) h
theorem sX10_rent_15 {ls : List Value} {a m : Nat} {i : Int32} (ha : S.1 a = some (.inr (.int, m))) (hi : vp_in i m) (h : am_R E d mX10_rent k n 16 ls (.int (iv a i.toNatClampNeg) :: st) S iv Q) : am_R E d mX10_rent k n 15 ls (.int i :: .ref a :: st) S iv Q := am_iaload dX10_rent_15 ha hi h
theorem sX10_rent_16 {ls : List Value} {x y : Int32} (kt : y ≤ x → am_R E d mX10_rent k n 33 ls st S iv Q) (kf : ¬ y ≤ x → am_R E d mX10_rent k n 19 ls st S iv Q) : am_R E d mX10_rent k n 16 ls (.int y :: .int x :: st) S iv Q := am_icmp_ge dX10_rent_16 (by decide) kt kf
theorem sX10_rent_19 {a0 a2 : Value} {x : Int32} (h : am_R E d mX10_rent k n 20 [a0, .int x, a2] (.int x :: st) S iv Q) : am_R E d mX10_rent k n 19 [a0, .int x, a2] st S iv Q := am_iload_n dX10_rent_19 rfl rfl h
theorem sX10_rent_20 {a0 a1 a2 : Value} (hv : am_rf a0 = true) (h : am_R E d mX10_rent k n 21 [a0, a1, a2] (a0 :: st) S iv Q) : am_R E d mX10_rent k n 20 [a0, a1, a2] st S iv Q := am_aload_n dX10_rent_20 rfl rfl hv h
theorem sX10_rent_21 {a0 a1 : Value} {x : Int32} (h : am_R E d mX10_rent k n 22 [a0, a1, .int x] (.int x :: st) S iv Q) : am_R E d mX10_rent k n 21 [a0, a1, .int x] st S iv Q := am_iload_n dX10_rent_21 rfl rfl h
theorem sX10_rent_22 {ls : List Value} {x1 : Value} {a : Nat} (ha : S.1 a = some (.inl 10)) (hst : (st.map fun v => v.category).sum ≤ 8) (hM : am_M E d mX10_rentOf 0 0 [.ref a, x1] S iv (am_K3 E (d + 1) mX10_rent k n 22 ls st Q)) : am_R E (d + 1) mX10_rent k n 22 ls (x1 :: .ref a :: st) S iv Q := am_cV (ci := 10) (M' := mX10_rentOf) (as := [x1]) dX10_rent_22 rfl rfl rfl wq_1036 wq_1037 wq_1038 wq_808 wq_1034 hy_X10_rentOf (by decide) ha hst (by omega) (by omega) hM
theorem sX10_rent_22_k {ls : List Value} {x1 : Value} {k' n' : Nat} {a : Nat} (ha : S.1 a = some (.inl 10)) (hst : (st.map fun v => v.category).sum ≤ 8) (hM : am_M E d mX10_rentOf k' n' [.ref a, x1] S iv (am_K3 E (d + 1) mX10_rent k n 22 ls st Q)) : am_R E (d + 1) mX10_rent (k' + k) (n' + n) 22 ls (x1 :: .ref a :: st) S iv Q := am_cV (ci := 10) (M' := mX10_rentOf) (as := [x1]) dX10_rent_22 rfl rfl rfl wq_1036 wq_1037 wq_1038 wq_808 wq_1034 hy_X10_rentOf (by decide) ha hst (by omega) (by omega) hM
theorem sX10_rent_25 {ls : List Value} {x y : Int32} (h : am_R E d mX10_rent k n 26 ls (.int (x + y) :: st) S iv Q) : am_R E d mX10_rent k n 25 ls (.int y :: .int x :: st) S iv Q := am_iadd dX10_rent_25 h
theorem sX10_rent_26 {a0 a1 a2 : Value} {x : Int32} (h : am_R E d mX10_rent k n 27 [a0, .int x, a2] st S iv Q) : am_R E d mX10_rent k n 26 [a0, a1, a2] (.int x :: st) S iv Q := am_istore_n dX10_rent_26 rfl (by decide) h
theorem sX10_rent_27 {a0 a1 : Value} {x : Int32} (h : am_R E d mX10_rent k n 30 [a0, a1, .int (x + 1)] st S iv Q) : am_R E d mX10_rent k n 27 [a0, a1, .int x] st S iv Q := am_iinc dX10_rent_27 rfl rfl (by decide) h
theorem sX10_rent_30 {ls : List Value} (h : am_R E d mX10_rent k n 9 ls st S iv Q) : am_R E d mX10_rent k n 30 ls st S iv Q := am_goto dX10_rent_30 (by decide) h
theorem sX10_rent_33 {a0 a2 : Value} {x : Int32} (h : am_R E d mX10_rent k n 34 [a0, .int x, a2] (.int x :: st) S iv Q) : am_R E d mX10_rent k n 33 [a0, .int x, a2] st S iv Q := am_iload_n dX10_rent_33 rfl rfl h
theorem sX10_rent_34 {ls : List Value} {x : Int32} (h : Q (.inl (some (.int x))) S iv) : am_R E d mX10_rent k n 34 ls [.int x] S iv Q := am_ireturn dX10_rent_34 rfl h
theorem dX10_slam_0 : decode cX10_slam 0 = .ok (.aload_n 0, 1) := by decide +kernel
theorem dX10_slam_1 : decode cX10_slam 1 = .ok (.dup, 1) := by decide +kernel
theorem dX10_slam_2 : decode cX10_slam 2 = .ok (.getfield 306, 3) := by decide +kernel
theorem dX10_slam_5 : decode cX10_slam 5 = .ok (.iconst 1, 1) := by decide +kernel
theorem dX10_slam_6 : decode cX10_slam 6 = .ok (.iload_n 1, 1) := by decide +kernel
theorem dX10_slam_7 : decode cX10_slam 7 = .ok (.ishl, 1) := by decide +kernel
theorem dX10_slam_8 : decode cX10_slam 8 = .ok (.iconst (-1), 1) := by decide +kernel
theorem dX10_slam_9 : decode cX10_slam 9 = .ok (.ixor, 1) := by decide +kernel
theorem dX10_slam_10 : decode cX10_slam 10 = .ok (.iand, 1) := by decide +kernel
theorem dX10_slam_11 : decode cX10_slam 11 = .ok (.putfield 306, 3) := by decide +kernel
theorem dX10_slam_14 : decode cX10_slam 14 = .ok (.iconst 0, 1) := by decide +kernel
theorem dX10_slam_15 : decode cX10_slam 15 = .ok (.istore_n 2, 1) := by decide +kernel
theorem dX10_slam_16 : decode cX10_slam 16 = .ok (.iload_n 2, 1) := by decide +kernel
theorem dX10_slam_17 : decode cX10_slam 17 = .ok (.aload_n 0, 1) := by decide +kernel
theorem dX10_slam_18 : decode cX10_slam 18 = .ok (.getfield 49, 3) := by decide +kernel
theorem dX10_slam_21 : decode cX10_slam 21 = .ok (.iconst 3, 1) := by decide +kernel
theorem dX10_slam_22 : decode cX10_slam 22 = .ok (.iaload, 1) := by decide +kernel
theorem dX10_slam_23 : decode cX10_slam 23 = .ok (.if_icmp .ge 44, 3) := by decide +kernel
theorem dX10_slam_26 : decode cX10_slam 26 = .ok (.aload_n 0, 1) := by decide +kernel
theorem dX10_slam_27 : decode cX10_slam 27 = .ok (.getfield 90, 3) := by decide +kernel
theorem dX10_slam_30 : decode cX10_slam 30 = .ok (.iload_n 2, 1) := by decide +kernel
theorem dX10_slam_31 : decode cX10_slam 31 = .ok (.dup2, 1) := by decide +kernel
theorem dX10_slam_32 : decode cX10_slam 32 = .ok (.iaload, 1) := by decide +kernel
theorem dX10_slam_33 : decode cX10_slam 33 = .ok (.aload_n 0, 1) := by decide +kernel
theorem dX10_slam_34 : decode cX10_slam 34 = .ok (.getfield 64, 3) := by decide +kernel
theorem dX10_slam_37 : decode cX10_slam 37 = .ok (.iload_n 2, 1) := by decide +kernel
theorem dX10_slam_38 : decode cX10_slam 38 = .ok (.iaload, 1) := by decide +kernel
theorem dX10_slam_39 : decode cX10_slam 39 = .ok (.iload_n 1, 1) := by decide +kernel
theorem dX10_slam_40 : decode cX10_slam 40 = .ok (.if_icmp .ne 18, 3) := by decide +kernel
theorem dX10_slam_43 : decode cX10_slam 43 = .ok (.aload_n 0, 1) := by decide +kernel
theorem dX10_slam_44 : decode cX10_slam 44 = .ok (.getfield 308, 3) := by decide +kernel
theorem dX10_slam_47 : decode cX10_slam 47 = .ok (.iload_n 1, 1) := by decide +kernel
theorem dX10_slam_48 : decode cX10_slam 48 = .ok (.invokestatic 328, 3) := by decide +kernel
theorem dX10_slam_51 : decode cX10_slam 51 = .ok (.ifCond .eq 7, 3) := by decide +kernel
theorem dX10_slam_54 : decode cX10_slam 54 = .ok (.iconst 1, 1) := by decide +kernel
theorem dX10_slam_55 : decode cX10_slam 55 = .ok (.goto 4, 3) := by decide +kernel
theorem dX10_slam_58 : decode cX10_slam 58 = .ok (.iconst 0, 1) := by decide +kernel
theorem dX10_slam_59 : decode cX10_slam 59 = .ok (.iadd, 1) := by decide +kernel
theorem dX10_slam_60 : decode cX10_slam 60 = .ok (.iastore, 1) := by decide +kernel
theorem dX10_slam_61 : decode cX10_slam 61 = .ok (.iinc 2 1, 3) := by decide +kernel
theorem dX10_slam_64 : decode cX10_slam 64 = .ok (.goto (-48), 3) := by decide +kernel
theorem dX10_slam_67 : decode cX10_slam 67 = .ok (.return_, 1) := by decide +kernel
theorem sX10_slam_0 {a0 a1 a2 : Value} (hv : am_rf a0 = true) (h : am_R E d mX10_slam k n 1 [a0, a1, a2] (a0 :: st) S iv Q) : am_R E d mX10_slam k n 0 [a0, a1, a2] st S iv Q := am_aload_n dX10_slam_0 rfl rfl hv h
theorem sX10_slam_1 {ls : List Value} {x : Value} (hv : x.category = 1) (h : am_R E d mX10_slam k n 2 ls (x :: x :: st) S iv Q) : am_R E d mX10_slam k n 1 ls (x :: st) S iv Q := am_dup dX10_slam_1 hv h
theorem sX10_slam_2 {ls : List Value} {a : Nat} (ha : S.1 a = some (.inl 10)) (h : am_R E d mX10_slam k n 5 ls (.int (iv a 29) :: st) S iv Q) : am_R E d mX10_slam k n 2 ls (.ref a :: st) S iv Q := am_getI (ci := 10) dX10_slam_2 rfl rfl (by decide) wq_972 uq_10 rfl ha h
theorem sX10_slam_5 {a0 a1 a2 : Value} (h : am_R E d mX10_slam k n 6 [a0, a1, a2] (.int 1 :: st) S iv Q) : am_R E d mX10_slam k n 5 [a0, a1, a2] st S iv Q := am_iconst dX10_slam_5 (by decide) h
theorem sX10_slam_6 {a0 a2 : Value} {x : Int32} (h : am_R E d mX10_slam k n 7 [a0, .int x, a2] (.int x :: st) S iv Q) : am_R E d mX10_slam k n 6 [a0, .int x, a2] st S iv Q := am_iload_n dX10_slam_6 rfl rfl h
theorem sX10_slam_7 {ls : List Value} {x y : Int32} (h : am_R E d mX10_slam k n 8 ls (.int (x <<< (y &&& 31)) :: st) S iv Q) : am_R E d mX10_slam k n 7 ls (.int y :: .int x :: st) S iv Q := am_ishl dX10_slam_7 h
theorem sX10_slam_8 {a0 a1 a2 : Value} (h : am_R E d mX10_slam k n 9 [a0, a1, a2] (.int (-1) :: st) S iv Q) : am_R E d mX10_slam k n 8 [a0, a1, a2] st S iv Q := am_iconst dX10_slam_8 (by decide) h
theorem sX10_slam_9 {ls : List Value} {x y : Int32} (h : am_R E d mX10_slam k n 10 ls (.int (x ^^^ y) :: st) S iv Q) : am_R E d mX10_slam k n 9 ls (.int y :: .int x :: st) S iv Q := am_ixor dX10_slam_9 h
theorem sX10_slam_10 {ls : List Value} {x y : Int32} (h : am_R E d mX10_slam k n 11 ls (.int (x &&& y) :: st) S iv Q) : am_R E d mX10_slam k n 10 ls (.int y :: .int x :: st) S iv Q := am_iand dX10_slam_10 h
theorem sX10_slam_11 {ls : List Value} {a : Nat} {x : Int32} (ha : S.1 a = some (.inl 10)) (h : am_R E d mX10_slam k n 14 ls st S (am_w iv a 29 x) Q) : am_R E d mX10_slam k n 11 ls (.int x :: .ref a :: st) S iv Q := am_putI (ci := 10) dX10_slam_11 rfl rfl (by decide) wq_972 uq_10 tyX10_ok nmX10 (Or.inl rfl) rfl ha h
theorem sX10_slam_14 {a0 a1 a2 : Value} (h : am_R E d mX10_slam k n 15 [a0, a1, a2] (.int 0 :: st) S iv Q) : am_R E d mX10_slam k n 14 [a0, a1, a2] st S iv Q := am_iconst dX10_slam_14 (by decide) h
theorem sX10_slam_15 {a0 a1 a2 : Value} {x : Int32} (h : am_R E d mX10_slam k n 16 [a0, a1, .int x] st S iv Q) : am_R E d mX10_slam k n 15 [a0, a1, a2] (.int x :: st) S iv Q := am_istore_n dX10_slam_15 rfl (by decide) h
theorem sX10_slam_16 {a0 a1 : Value} {x : Int32} (h : am_R E d mX10_slam k n 17 [a0, a1, .int x] (.int x :: st) S iv Q) : am_R E d mX10_slam k n 16 [a0, a1, .int x] st S iv Q := am_iload_n dX10_slam_16 rfl rfl h
theorem sX10_slam_17 {a0 a1 a2 : Value} (hv : am_rf a0 = true) (h : am_R E d mX10_slam k n 18 [a0, a1, a2] (a0 :: st) S iv Q) : am_R E d mX10_slam k n 17 [a0, a1, a2] st S iv Q := am_aload_n dX10_slam_17 rfl rfl hv h
theorem sX10_slam_18 {ls : List Value} {a b : Nat} (ha : S.1 a = some (.inl 10)) (hb : S.2.1 a 4 = some b) (h : am_R E d mX10_slam k n 21 ls (.ref b :: st) S iv Q) : am_R E d mX10_slam k n 18 ls (.ref a :: st) S iv Q := am_getR (ci := 10) dX10_slam_18 rfl rfl (by decide) wq_772 uq_10 rfl ha hb h
theorem sX10_slam_21 {a0 a1 a2 : Value} (h : am_R E d mX10_slam k n 22 [a0, a1, a2] (.int 3 :: st) S iv Q) : am_R E d mX10_slam k n 21 [a0, a1, a2] st S iv Q := am_iconst dX10_slam_21 (by decide) h
theorem sX10_slam_22 {ls : List Value} {a m : Nat} {i : Int32} (ha : S.1 a = some (.inr (.int, m))) (hi : vp_in i m) (h : am_R E d mX10_slam k n 23 ls (.int (iv a i.toNatClampNeg) :: st) S iv Q) : am_R E d mX10_slam k n 22 ls (.int i :: .ref a :: st) S iv Q := am_iaload dX10_slam_22 ha hi h
theorem sX10_slam_23 {ls : List Value} {x y : Int32} (kt : y ≤ x → am_R E d mX10_slam k n 67 ls st S iv Q) (kf : ¬ y ≤ x → am_R E d mX10_slam k n 26 ls st S iv Q) : am_R E d mX10_slam k n 23 ls (.int y :: .int x :: st) S iv Q := am_icmp_ge dX10_slam_23 (by decide) kt kf
theorem sX10_slam_26 {a0 a1 a2 : Value} (hv : am_rf a0 = true) (h : am_R E d mX10_slam k n 27 [a0, a1, a2] (a0 :: st) S iv Q) : am_R E d mX10_slam k n 26 [a0, a1, a2] st S iv Q := am_aload_n dX10_slam_26 rfl rfl hv h
theorem sX10_slam_27 {ls : List Value} {a b : Nat} (ha : S.1 a = some (.inl 10)) (hb : S.2.1 a 33 = some b) (h : am_R E d mX10_slam k n 30 ls (.ref b :: st) S iv Q) : am_R E d mX10_slam k n 27 ls (.ref a :: st) S iv Q := am_getR (ci := 10) dX10_slam_27 rfl rfl (by decide) wq_787 uq_10 rfl ha hb h
theorem sX10_slam_30 {a0 a1 : Value} {x : Int32} (h : am_R E d mX10_slam k n 31 [a0, a1, .int x] (.int x :: st) S iv Q) : am_R E d mX10_slam k n 30 [a0, a1, .int x] st S iv Q := am_iload_n dX10_slam_30 rfl rfl h
theorem sX10_slam_31 {ls : List Value} {x y : Value} (hv : x.category = 1) (hu : y.category = 1) (h : am_R E d mX10_slam k n 32 ls (x :: y :: x :: y :: st) S iv Q) : am_R E d mX10_slam k n 31 ls (x :: y :: st) S iv Q := am_dup2 dX10_slam_31 hv hu h
theorem sX10_slam_32 {ls : List Value} {a m : Nat} {i : Int32} (ha : S.1 a = some (.inr (.int, m))) (hi : vp_in i m) (h : am_R E d mX10_slam k n 33 ls (.int (iv a i.toNatClampNeg) :: st) S iv Q) : am_R E d mX10_slam k n 32 ls (.int i :: .ref a :: st) S iv Q := am_iaload dX10_slam_32 ha hi h
theorem sX10_slam_33 {a0 a1 a2 : Value} (hv : am_rf a0 = true) (h : am_R E d mX10_slam k n 34 [a0, a1, a2] (a0 :: st) S iv Q) : am_R E d mX10_slam k n 33 [a0, a1, a2] st S iv Q := am_aload_n dX10_slam_33 rfl rfl hv h
theorem sX10_slam_34 {ls : List Value} {a b : Nat} (ha : S.1 a = some (.inl 10)) (hb : S.2.1 a 10 = some b) (h : am_R E d mX10_slam k n 37 ls (.ref b :: st) S iv Q) : am_R E d mX10_slam k n 34 ls (.ref a :: st) S iv Q := am_getR (ci := 10) dX10_slam_34 rfl rfl (by decide) wq_778 uq_10 rfl ha hb h
theorem sX10_slam_37 {a0 a1 : Value} {x : Int32} (h : am_R E d mX10_slam k n 38 [a0, a1, .int x] (.int x :: st) S iv Q) : am_R E d mX10_slam k n 37 [a0, a1, .int x] st S iv Q := am_iload_n dX10_slam_37 rfl rfl h
theorem sX10_slam_38 {ls : List Value} {a m : Nat} {i : Int32} (ha : S.1 a = some (.inr (.int, m))) (hi : vp_in i m) (h : am_R E d mX10_slam k n 39 ls (.int (iv a i.toNatClampNeg) :: st) S iv Q) : am_R E d mX10_slam k n 38 ls (.int i :: .ref a :: st) S iv Q := am_iaload dX10_slam_38 ha hi h
theorem sX10_slam_39 {a0 a2 : Value} {x : Int32} (h : am_R E d mX10_slam k n 40 [a0, .int x, a2] (.int x :: st) S iv Q) : am_R E d mX10_slam k n 39 [a0, .int x, a2] st S iv Q := am_iload_n dX10_slam_39 rfl rfl h
theorem sX10_slam_40 {ls : List Value} {x y : Int32} (kt : ¬ x = y → am_R E d mX10_slam k n 58 ls st S iv Q) (kf : x = y → am_R E d mX10_slam k n 43 ls st S iv Q) : am_R E d mX10_slam k n 40 ls (.int y :: .int x :: st) S iv Q := am_icmp_ne dX10_slam_40 (by decide) kt kf
theorem sX10_slam_43 {a0 a1 a2 : Value} (hv : am_rf a0 = true) (h : am_R E d mX10_slam k n 44 [a0, a1, a2] (a0 :: st) S iv Q) : am_R E d mX10_slam k n 43 [a0, a1, a2] st S iv Q := am_aload_n dX10_slam_43 rfl rfl hv h
theorem sX10_slam_44 {ls : List Value} {a : Nat} (ha : S.1 a = some (.inl 10)) (h : am_R E d mX10_slam k n 47 ls (.int (iv a 30) :: st) S iv Q) : am_R E d mX10_slam k n 44 ls (.ref a :: st) S iv Q := am_getI (ci := 10) dX10_slam_44 rfl rfl (by decide) wq_973 uq_10 rfl ha h
theorem sX10_slam_47 {a0 a2 : Value} {x : Int32} (h : am_R E d mX10_slam k n 48 [a0, .int x, a2] (.int x :: st) S iv Q) : am_R E d mX10_slam k n 47 [a0, .int x, a2] st S iv Q := am_iload_n dX10_slam_47 rfl rfl h
theorem sX10_slam_48 {ls : List Value} {x1 x2 : Value} (hst : (st.map fun v => v.category).sum ≤ 8) (hM : am_M E d mX10_has 0 0 [x1, x2] S iv (am_K3 E (d + 1) mX10_slam k n 48 ls st Q)) : am_R E (d + 1) mX10_slam k n 48 ls (x2 :: x1 :: st) S iv Q := am_cS (M' := mX10_has) (as := [x1, x2]) dX10_slam_48 rfl wq_987 wq_988 wq_808 wq_985 hy_X10_has (by decide) hst (by omega) (by omega) hM
theorem sX10_slam_48_k {ls : List Value} {x1 x2 : Value} {k' n' : Nat} (hst : (st.map fun v => v.category).sum ≤ 8) (hM : am_M E d mX10_has k' n' [x1, x2] S iv (am_K3 E (d + 1) mX10_slam k n 48 ls st Q)) : am_R E (d + 1) mX10_slam (k' + k) (n' + n) 48 ls (x2 :: x1 :: st) S iv Q := am_cS (M' := mX10_has) (as := [x1, x2]) dX10_slam_48 rfl wq_987 wq_988 wq_808 wq_985 hy_X10_has (by decide) hst (by omega) (by omega) hM
theorem sX10_slam_51 {ls : List Value} {x : Int32} (kt : x = 0 → am_R E d mX10_slam k n 58 ls st S iv Q) (kf : ¬ x = 0 → am_R E d mX10_slam k n 54 ls st S iv Q) : am_R E d mX10_slam k n 51 ls (.int x :: st) S iv Q := am_if_eq dX10_slam_51 (by decide) kt kf
theorem sX10_slam_54 {a0 a1 a2 : Value} (h : am_R E d mX10_slam k n 55 [a0, a1, a2] (.int 1 :: st) S iv Q) : am_R E d mX10_slam k n 54 [a0, a1, a2] st S iv Q := am_iconst dX10_slam_54 (by decide) h
theorem sX10_slam_55 {ls : List Value} (h : am_R E d mX10_slam k n 59 ls st S iv Q) : am_R E d mX10_slam k n 55 ls st S iv Q := am_goto dX10_slam_55 (by decide) h
theorem sX10_slam_58 {a0 a1 a2 : Value} (h : am_R E d mX10_slam k n 59 [a0, a1, a2] (.int 0 :: st) S iv Q) : am_R E d mX10_slam k n 58 [a0, a1, a2] st S iv Q := am_iconst dX10_slam_58 (by decide) h
theorem sX10_slam_59 {ls : List Value} {x y : Int32} (h : am_R E d mX10_slam k n 60 ls (.int (x + y) :: st) S iv Q) : am_R E d mX10_slam k n 59 ls (.int y :: .int x :: st) S iv Q := am_iadd dX10_slam_59 h
theorem sX10_slam_60 {ls : List Value} {a m : Nat} {i x : Int32} (ha : S.1 a = some (.inr (.int, m))) (hi : vp_in i m) (h : am_R E d mX10_slam k n 61 ls st S (am_w iv a i.toNatClampNeg x) Q) : am_R E d mX10_slam k n 60 ls (.int x :: .int i :: .ref a :: st) S iv Q := am_iastore dX10_slam_60 ha hi h
theorem sX10_slam_61 {a0 a1 : Value} {x : Int32} (h : am_R E d mX10_slam k n 64 [a0, a1, .int (x + 1)] st S iv Q) : am_R E d mX10_slam k n 61 [a0, a1, .int x] st S iv Q := am_iinc dX10_slam_61 rfl rfl (by decide) h
theorem sX10_slam_64 {ls : List Value} (h : am_R E d mX10_slam k n 16 ls st S iv Q) : am_R E d mX10_slam k n 64 ls st S iv Q := am_goto dX10_slam_64 (by decide) h
theorem sX10_slam_67 {ls : List Value} (h : Q (.inl none) S iv) : am_R E d mX10_slam k n 67 ls [] S iv Q := am_return dX10_slam_67 rfl h
theorem dX10_wind_0 : decode cX10_wind 0 = .ok (.aload_n 0, 1) := by decide +kernel
theorem dX10_wind_1 : decode cX10_wind 1 = .ok (.iconst 0, 1) := by decide +kernel
theorem dX10_wind_2 : decode cX10_wind 2 = .ok (.putfield 143, 3) := by decide +kernel
theorem dX10_wind_5 : decode cX10_wind 5 = .ok (.iload_n 2, 1) := by decide +kernel
theorem dX10_wind_6 : decode cX10_wind 6 = .ok (.iconst 0, 1) := by decide +kernel
theorem dX10_wind_7 : decode cX10_wind 7 = .ok (.bipush 60, 2) := by decide +kernel
theorem dX10_wind_9 : decode cX10_wind 9 = .ok (.invokestatic 146, 3) := by decide +kernel
theorem dX10_wind_12 : decode cX10_wind 12 = .ok (.ifCond .ne 9, 3) := by decide +kernel
theorem dX10_wind_15 : decode cX10_wind 15 = .ok (.aload_n 0, 1) := by decide +kernel
theorem dX10_wind_16 : decode cX10_wind 16 = .ok (.iconst 1, 1) := by decide +kernel
theorem dX10_wind_17 : decode cX10_wind 17 = .ok (.invokevirtual 293, 3) := by decide +kernel
theorem dX10_wind_20 : decode cX10_wind 20 = .ok (.ireturn, 1) := by decide +kernel
theorem dX10_wind_21 : decode cX10_wind 21 = .ok (.aload_n 0, 1) := by decide +kernel
theorem dX10_wind_22 : decode cX10_wind 22 = .ok (.iload_n 1, 1) := by decide +kernel
theorem dX10_wind_23 : decode cX10_wind 23 = .ok (.putfield 408, 3) := by decide +kernel
theorem dX10_wind_26 : decode cX10_wind 26 = .ok (.iconst 0, 1) := by decide +kernel
theorem dX10_wind_27 : decode cX10_wind 27 = .ok (.istore_n 3, 1) := by decide +kernel
theorem dX10_wind_28 : decode cX10_wind 28 = .ok (.iconst 0, 1) := by decide +kernel
theorem dX10_wind_29 : decode cX10_wind 29 = .ok (.istore 4, 2) := by decide +kernel
theorem dX10_wind_31 : decode cX10_wind 31 = .ok (.iload 4, 2) := by decide +kernel
theorem dX10_wind_33 : decode cX10_wind 33 = .ok (.iload_n 2, 1) := by decide +kernel
theorem dX10_wind_34 : decode cX10_wind 34 = .ok (.if_icmp .ge 105, 3) := by decide +kernel
theorem dX10_wind_37 : decode cX10_wind 37 = .ok (.iconst 0, 1) := by decide +kernel
theorem dX10_wind_38 : decode cX10_wind 38 = .ok (.istore 5, 2) := by decide +kernel
theorem dX10_wind_40 : decode cX10_wind 40 = .ok (.iload 5, 2) := by decide +kernel
theorem dX10_wind_42 : decode cX10_wind 42 = .ok (.aload_n 0, 1) := by decide +kernel
theorem dX10_wind_43 : decode cX10_wind 43 = .ok (.getfield 49, 3) := by decide +kernel
theorem dX10_wind_46 : decode cX10_wind 46 = .ok (.iconst 2, 1) := by decide +kernel
theorem dX10_wind_47 : decode cX10_wind 47 = .ok (.iaload, 1) := by decide +kernel
theorem dX10_wind_48 : decode cX10_wind 48 = .ok (.if_icmp .ge 85, 3) := by decide +kernel
theorem dX10_wind_51 : decode cX10_wind 51 = .ok (.aload_n 0, 1) := by decide +kernel
theorem dX10_wind_52 : decode cX10_wind 52 = .ok (.getfield 306, 3) := by decide +kernel
theorem dX10_wind_55 : decode cX10_wind 55 = .ok (.iload 5, 2) := by decide +kernel
theorem dX10_wind_57 : decode cX10_wind 57 = .ok (.invokestatic 328, 3) := by decide +kernel
theorem dX10_wind_60 : decode cX10_wind 60 = .ok (.ifCond .ne 6, 3) := by decide +kernel
theorem dX10_wind_63 : decode cX10_wind 63 = .ok (.goto 64, 3) := by decide +kernel
theorem dX10_wind_66 : decode cX10_wind 66 = .ok (.aload_n 0, 1) := by decide +kernel
theorem dX10_wind_67 : decode cX10_wind 67 = .ok (.aload_n 0, 1) := by decide +kernel
theorem dX10_wind_68 : decode cX10_wind 68 = .ok (.getfield 408, 3) := by decide +kernel
theorem dX10_wind_71 : decode cX10_wind 71 = .ok (.ldc_w 411, 3) := by decide +kernel
theorem dX10_wind_74 : decode cX10_wind 74 = .ok (.imul, 1) := by decide +kernel
theorem dX10_wind_75 : decode cX10_wind 75 = .ok (.sipush 12345, 3) := by decide +kernel
theorem dX10_wind_78 : decode cX10_wind 78 = .ok (.iadd, 1) := by decide +kernel
theorem dX10_wind_79 : decode cX10_wind 79 = .ok (.putfield 408, 3) := by decide +kernel
theorem dX10_wind_82 : decode cX10_wind 82 = .ok (.aload_n 0, 1) := by decide +kernel
theorem dX10_wind_83 : decode cX10_wind 83 = .ok (.getfield 408, 3) := by decide +kernel
theorem dX10_wind_86 : decode cX10_wind 86 = .ok (.bipush 16, 2) := by decide +kernel
theorem dX10_wind_88 : decode cX10_wind 88 = .ok (.ishr, 1) := by decide +kernel
theorem dX10_wind_89 : decode cX10_wind 89 = .ok (.sipush 32767, 3) := by decide +kernel
theorem dX10_wind_92 : decode cX10_wind 92 = .ok (.iand, 1) := by decide +kernel
theorem dX10_wind_93 : decode cX10_wind 93 = .ok (.sipush 1000, 3) := by decide +kernel
theorem dX10_wind_96 : decode cX10_wind 96 = .ok (.irem, 1) := by decide +kernel
theorem dX10_wind_97 : decode cX10_wind 97 = .ok (.aload_n 0, 1) := by decide +kernel
theorem dX10_wind_98 : decode cX10_wind 98 = .ok (.getfield 49, 3) := by decide +kernel
theorem dX10_wind_101 : decode cX10_wind 101 = .ok (.bipush 9, 2) := by decide +kernel
theorem dX10_wind_103 : decode cX10_wind 103 = .ok (.iaload, 1) := by decide +kernel
theorem dX10_wind_104 : decode cX10_wind 104 = .ok (.aload_n 0, 1) := by decide +kernel
theorem dX10_wind_105 : decode cX10_wind 105 = .ok (.getfield 59, 3) := by decide +kernel
theorem dX10_wind_108 : decode cX10_wind 108 = .ok (.iload 5, 2) := by decide +kernel
theorem dX10_wind_110 : decode cX10_wind 110 = .ok (.iaload, 1) := by decide +kernel
theorem dX10_wind_111 : decode cX10_wind 111 = .ok (.imul, 1) := by decide +kernel
theorem dX10_wind_112 : decode cX10_wind 112 = .ok (.if_icmp .lt 6, 3) := by decide +kernel
theorem dX10_wind_115 : decode cX10_wind 115 = .ok (.goto 12, 3) := by decide +kernel
theorem dX10_wind_118 : decode cX10_wind 118 = .ok (.aload_n 0, 1) := by decide +kernel
theorem dX10_wind_119 : decode cX10_wind 119 = .ok (.iload 5, 2) := by decide +kernel
theorem dX10_wind_121 : decode cX10_wind 121 = .ok (.invokevirtual 412, 3) := by decide +kernel
theorem dX10_wind_124 : decode cX10_wind 124 = .ok (.iinc 3 1, 3) := by decide +kernel
theorem dX10_wind_127 : decode cX10_wind 127 = .ok (.iinc 5 1, 3) := by decide +kernel
theorem dX10_wind_130 : decode cX10_wind 130 = .ok (.goto (-90), 3) := by decide +kernel
theorem dX10_wind_133 : decode cX10_wind 133 = .ok (.iinc 4 1, 3) := by decide +kernel
theorem dX10_wind_136 : decode cX10_wind 136 = .ok (.goto (-105), 3) := by decide +kernel
theorem dX10_wind_139 : decode cX10_wind 139 = .ok (.iload_n 2, 1) := by decide +kernel
theorem dX10_wind_140 : decode cX10_wind 140 = .ok (.ifCond .le 8, 3) := by decide +kernel
theorem dX10_wind_143 : decode cX10_wind 143 = .ok (.aload_n 0, 1) := by decide +kernel
theorem dX10_wind_144 : decode cX10_wind 144 = .ok (.iconst 0, 1) := by decide +kernel
theorem dX10_wind_145 : decode cX10_wind 145 = .ok (.putfield 314, 3) := by decide +kernel
theorem dX10_wind_148 : decode cX10_wind 148 = .ok (.iload_n 3, 1) := by decide +kernel
theorem dX10_wind_149 : decode cX10_wind 149 = .ok (.ireturn, 1) := by decide +kernel
theorem sX10_wind_0 {a0 a1 a2 a3 a4 a5 : Value} (hv : am_rf a0 = true) (h : am_R E d mX10_wind k n 1 [a0, a1, a2, a3, a4, a5] (a0 :: st) S iv Q) : am_R E d mX10_wind k n 0 [a0, a1, a2, a3, a4, a5] st S iv Q := am_aload_n dX10_wind_0 rfl rfl hv h
theorem sX10_wind_1 {a0 a1 a2 a3 a4 a5 : Value} (h : am_R E d mX10_wind k n 2 [a0, a1, a2, a3, a4, a5] (.int 0 :: st) S iv Q) : am_R E d mX10_wind k n 1 [a0, a1, a2, a3, a4, a5] st S iv Q := am_iconst dX10_wind_1 (by decide) h
theorem sX10_wind_2 {ls : List Value} {a : Nat} {x : Int32} (ha : S.1 a = some (.inl 10)) (h : am_R E d mX10_wind k n 5 ls st S (am_w iv a 3 x) Q) : am_R E d mX10_wind k n 2 ls (.int x :: .ref a :: st) S iv Q := am_putI (ci := 10) dX10_wind_2 rfl rfl (by decide) wq_806 uq_10 tyX10_ok nmX10 (Or.inl rfl) rfl ha h
theorem sX10_wind_5 {a0 a1 a3 a4 a5 : Value} {x : Int32} (h : am_R E d mX10_wind k n 6 [a0, a1, .int x, a3, a4, a5] (.int x :: st) S iv Q) : am_R E d mX10_wind k n 5 [a0, a1, .int x, a3, a4, a5] st S iv Q := am_iload_n dX10_wind_5 rfl rfl h
theorem sX10_wind_6 {a0 a1 a2 a3 a4 a5 : Value} (h : am_R E d mX10_wind k n 7 [a0, a1, a2, a3, a4, a5] (.int 0 :: st) S iv Q) : am_R E d mX10_wind k n 6 [a0, a1, a2, a3, a4, a5] st S iv Q := am_iconst dX10_wind_6 (by decide) h
theorem sX10_wind_7 {a0 a1 a2 a3 a4 a5 : Value} (h : am_R E d mX10_wind k n 9 [a0, a1, a2, a3, a4, a5] (.int 60 :: st) S iv Q) : am_R E d mX10_wind k n 7 [a0, a1, a2, a3, a4, a5] st S iv Q := am_bipush dX10_wind_7 (by decide) h
theorem sX10_wind_9 {ls : List Value} {x1 x2 x3 : Value} (hst : (st.map fun v => v.category).sum ≤ 8) (hM : am_M E d mX10_isIn 0 0 [x1, x2, x3] S iv (am_K3 E (d + 1) mX10_wind k n 9 ls st Q)) : am_R E (d + 1) mX10_wind k n 9 ls (x3 :: x2 :: x1 :: st) S iv Q := am_cS (M' := mX10_isIn) (as := [x1, x2, x3]) dX10_wind_9 rfl wq_810 wq_811 wq_808 wq_807 hy_X10_isIn (by decide) hst (by omega) (by omega) hM
theorem sX10_wind_9_k {ls : List Value} {x1 x2 x3 : Value} {k' n' : Nat} (hst : (st.map fun v => v.category).sum ≤ 8) (hM : am_M E d mX10_isIn k' n' [x1, x2, x3] S iv (am_K3 E (d + 1) mX10_wind k n 9 ls st Q)) : am_R E (d + 1) mX10_wind (k' + k) (n' + n) 9 ls (x3 :: x2 :: x1 :: st) S iv Q := am_cS (M' := mX10_isIn) (as := [x1, x2, x3]) dX10_wind_9 rfl wq_810 wq_811 wq_808 wq_807 hy_X10_isIn (by decide) hst (by omega) (by omega) hM
theorem sX10_wind_12 {ls : List Value} {x : Int32} (kt : ¬ x = 0 → am_R E d mX10_wind k n 21 ls st S iv Q) (kf : x = 0 → am_R E d mX10_wind k n 15 ls st S iv Q) : am_R E d mX10_wind k n 12 ls (.int x :: st) S iv Q := am_if_ne dX10_wind_12 (by decide) kt kf
theorem sX10_wind_15 {a0 a1 a2 a3 a4 a5 : Value} (hv : am_rf a0 = true) (h : am_R E d mX10_wind k n 16 [a0, a1, a2, a3, a4, a5] (a0 :: st) S iv Q) : am_R E d mX10_wind k n 15 [a0, a1, a2, a3, a4, a5] st S iv Q := am_aload_n dX10_wind_15 rfl rfl hv h
theorem sX10_wind_16 {a0 a1 a2 a3 a4 a5 : Value} (h : am_R E d mX10_wind k n 17 [a0, a1, a2, a3, a4, a5] (.int 1 :: st) S iv Q) : am_R E d mX10_wind k n 16 [a0, a1, a2, a3, a4, a5] st S iv Q := am_iconst dX10_wind_16 (by decide) h
theorem sX10_wind_17 {ls : List Value} {x1 : Value} {a : Nat} (ha : S.1 a = some (.inl 10)) (hst : (st.map fun v => v.category).sum ≤ 8) (hM : am_M E d mX10_fail 0 0 [.ref a, x1] S iv (am_K3 E (d + 1) mX10_wind k n 17 ls st Q)) : am_R E (d + 1) mX10_wind k n 17 ls (x1 :: .ref a :: st) S iv Q := am_cV (ci := 10) (M' := mX10_fail) (as := [x1]) dX10_wind_17 rfl rfl rfl wq_955 wq_956 wq_957 wq_808 wq_953 hy_X10_fail (by decide) ha hst (by omega) (by omega) hM
theorem sX10_wind_17_k {ls : List Value} {x1 : Value} {k' n' : Nat} {a : Nat} (ha : S.1 a = some (.inl 10)) (hst : (st.map fun v => v.category).sum ≤ 8) (hM : am_M E d mX10_fail k' n' [.ref a, x1] S iv (am_K3 E (d + 1) mX10_wind k n 17 ls st Q)) : am_R E (d + 1) mX10_wind (k' + k) (n' + n) 17 ls (x1 :: .ref a :: st) S iv Q := am_cV (ci := 10) (M' := mX10_fail) (as := [x1]) dX10_wind_17 rfl rfl rfl wq_955 wq_956 wq_957 wq_808 wq_953 hy_X10_fail (by decide) ha hst (by omega) (by omega) hM
theorem sX10_wind_20 {ls : List Value} {x : Int32} (h : Q (.inl (some (.int x))) S iv) : am_R E d mX10_wind k n 20 ls [.int x] S iv Q := am_ireturn dX10_wind_20 rfl h
theorem sX10_wind_21 {a0 a1 a2 a3 a4 a5 : Value} (hv : am_rf a0 = true) (h : am_R E d mX10_wind k n 22 [a0, a1, a2, a3, a4, a5] (a0 :: st) S iv Q) : am_R E d mX10_wind k n 21 [a0, a1, a2, a3, a4, a5] st S iv Q := am_aload_n dX10_wind_21 rfl rfl hv h
theorem sX10_wind_22 {a0 a2 a3 a4 a5 : Value} {x : Int32} (h : am_R E d mX10_wind k n 23 [a0, .int x, a2, a3, a4, a5] (.int x :: st) S iv Q) : am_R E d mX10_wind k n 22 [a0, .int x, a2, a3, a4, a5] st S iv Q := am_iload_n dX10_wind_22 rfl rfl h
theorem sX10_wind_23 {ls : List Value} {a : Nat} {x : Int32} (ha : S.1 a = some (.inl 10)) (h : am_R E d mX10_wind k n 26 ls st S (am_w iv a 47 x) Q) : am_R E d mX10_wind k n 23 ls (.int x :: .ref a :: st) S iv Q := am_putI (ci := 10) dX10_wind_23 rfl rfl (by decide) wq_1102 uq_10 tyX10_ok nmX10 (Or.inl rfl) rfl ha h
theorem sX10_wind_26 {a0 a1 a2 a3 a4 a5 : Value} (h : am_R E d mX10_wind k n 27 [a0, a1, a2, a3, a4, a5] (.int 0 :: st) S iv Q) : am_R E d mX10_wind k n 26 [a0, a1, a2, a3, a4, a5] st S iv Q := am_iconst dX10_wind_26 (by decide) h
theorem sX10_wind_27 {a0 a1 a2 a3 a4 a5 : Value} {x : Int32} (h : am_R E d mX10_wind k n 28 [a0, a1, a2, .int x, a4, a5] st S iv Q) : am_R E d mX10_wind k n 27 [a0, a1, a2, a3, a4, a5] (.int x :: st) S iv Q := am_istore_n dX10_wind_27 rfl (by decide) h
theorem sX10_wind_28 {a0 a1 a2 a3 a4 a5 : Value} (h : am_R E d mX10_wind k n 29 [a0, a1, a2, a3, a4, a5] (.int 0 :: st) S iv Q) : am_R E d mX10_wind k n 28 [a0, a1, a2, a3, a4, a5] st S iv Q := am_iconst dX10_wind_28 (by decide) h
theorem sX10_wind_29 {a0 a1 a2 a3 a4 a5 : Value} {x : Int32} (h : am_R E d mX10_wind k n 31 [a0, a1, a2, a3, .int x, a5] st S iv Q) : am_R E d mX10_wind k n 29 [a0, a1, a2, a3, a4, a5] (.int x :: st) S iv Q := am_istore dX10_wind_29 (by decide) h
theorem sX10_wind_31 {a0 a1 a2 a3 a5 : Value} {x : Int32} (h : am_R E d mX10_wind k n 33 [a0, a1, a2, a3, .int x, a5] (.int x :: st) S iv Q) : am_R E d mX10_wind k n 31 [a0, a1, a2, a3, .int x, a5] st S iv Q := am_iload dX10_wind_31 rfl h
theorem sX10_wind_33 {a0 a1 a3 a4 a5 : Value} {x : Int32} (h : am_R E d mX10_wind k n 34 [a0, a1, .int x, a3, a4, a5] (.int x :: st) S iv Q) : am_R E d mX10_wind k n 33 [a0, a1, .int x, a3, a4, a5] st S iv Q := am_iload_n dX10_wind_33 rfl rfl h
theorem sX10_wind_34 {ls : List Value} {x y : Int32} (kt : y ≤ x → am_R E d mX10_wind k n 139 ls st S iv Q) (kf : ¬ y ≤ x → am_R E d mX10_wind k n 37 ls st S iv Q) : am_R E d mX10_wind k n 34 ls (.int y :: .int x :: st) S iv Q := am_icmp_ge dX10_wind_34 (by decide) kt kf
theorem sX10_wind_37 {a0 a1 a2 a3 a4 a5 : Value} (h : am_R E d mX10_wind k n 38 [a0, a1, a2, a3, a4, a5] (.int 0 :: st) S iv Q) : am_R E d mX10_wind k n 37 [a0, a1, a2, a3, a4, a5] st S iv Q := am_iconst dX10_wind_37 (by decide) h
theorem sX10_wind_38 {a0 a1 a2 a3 a4 a5 : Value} {x : Int32} (h : am_R E d mX10_wind k n 40 [a0, a1, a2, a3, a4, .int x] st S iv Q) : am_R E d mX10_wind k n 38 [a0, a1, a2, a3, a4, a5] (.int x :: st) S iv Q := am_istore dX10_wind_38 (by decide) h
theorem sX10_wind_40 {a0 a1 a2 a3 a4 : Value} {x : Int32} (h : am_R E d mX10_wind k n 42 [a0, a1, a2, a3, a4, .int x] (.int x :: st) S iv Q) : am_R E d mX10_wind k n 40 [a0, a1, a2, a3, a4, .int x] st S iv Q := am_iload dX10_wind_40 rfl h
theorem sX10_wind_42 {a0 a1 a2 a3 a4 a5 : Value} (hv : am_rf a0 = true) (h : am_R E d mX10_wind k n 43 [a0, a1, a2, a3, a4, a5] (a0 :: st) S iv Q) : am_R E d mX10_wind k n 42 [a0, a1, a2, a3, a4, a5] st S iv Q := am_aload_n dX10_wind_42 rfl rfl hv h
theorem sX10_wind_43 {ls : List Value} {a b : Nat} (ha : S.1 a = some (.inl 10)) (hb : S.2.1 a 4 = some b) (h : am_R E d mX10_wind k n 46 ls (.ref b :: st) S iv Q) : am_R E d mX10_wind k n 43 ls (.ref a :: st) S iv Q := am_getR (ci := 10) dX10_wind_43 rfl rfl (by decide) wq_772 uq_10 rfl ha hb h
theorem sX10_wind_46 {a0 a1 a2 a3 a4 a5 : Value} (h : am_R E d mX10_wind k n 47 [a0, a1, a2, a3, a4, a5] (.int 2 :: st) S iv Q) : am_R E d mX10_wind k n 46 [a0, a1, a2, a3, a4, a5] st S iv Q := am_iconst dX10_wind_46 (by decide) h
theorem sX10_wind_47 {ls : List Value} {a m : Nat} {i : Int32} (ha : S.1 a = some (.inr (.int, m))) (hi : vp_in i m) (h : am_R E d mX10_wind k n 48 ls (.int (iv a i.toNatClampNeg) :: st) S iv Q) : am_R E d mX10_wind k n 47 ls (.int i :: .ref a :: st) S iv Q := am_iaload dX10_wind_47 ha hi h
theorem sX10_wind_48 {ls : List Value} {x y : Int32} (kt : y ≤ x → am_R E d mX10_wind k n 133 ls st S iv Q) (kf : ¬ y ≤ x → am_R E d mX10_wind k n 51 ls st S iv Q) : am_R E d mX10_wind k n 48 ls (.int y :: .int x :: st) S iv Q := am_icmp_ge dX10_wind_48 (by decide) kt kf
theorem sX10_wind_51 {a0 a1 a2 a3 a4 a5 : Value} (hv : am_rf a0 = true) (h : am_R E d mX10_wind k n 52 [a0, a1, a2, a3, a4, a5] (a0 :: st) S iv Q) : am_R E d mX10_wind k n 51 [a0, a1, a2, a3, a4, a5] st S iv Q := am_aload_n dX10_wind_51 rfl rfl hv h
theorem sX10_wind_52 {ls : List Value} {a : Nat} (ha : S.1 a = some (.inl 10)) (h : am_R E d mX10_wind k n 55 ls (.int (iv a 29) :: st) S iv Q) : am_R E d mX10_wind k n 52 ls (.ref a :: st) S iv Q := am_getI (ci := 10) dX10_wind_52 rfl rfl (by decide) wq_972 uq_10 rfl ha h
theorem sX10_wind_55 {a0 a1 a2 a3 a4 : Value} {x : Int32} (h : am_R E d mX10_wind k n 57 [a0, a1, a2, a3, a4, .int x] (.int x :: st) S iv Q) : am_R E d mX10_wind k n 55 [a0, a1, a2, a3, a4, .int x] st S iv Q := am_iload dX10_wind_55 rfl h
theorem sX10_wind_57 {ls : List Value} {x1 x2 : Value} (hst : (st.map fun v => v.category).sum ≤ 8) (hM : am_M E d mX10_has 0 0 [x1, x2] S iv (am_K3 E (d + 1) mX10_wind k n 57 ls st Q)) : am_R E (d + 1) mX10_wind k n 57 ls (x2 :: x1 :: st) S iv Q := am_cS (M' := mX10_has) (as := [x1, x2]) dX10_wind_57 rfl wq_987 wq_988 wq_808 wq_985 hy_X10_has (by decide) hst (by omega) (by omega) hM
theorem sX10_wind_57_k {ls : List Value} {x1 x2 : Value} {k' n' : Nat} (hst : (st.map fun v => v.category).sum ≤ 8) (hM : am_M E d mX10_has k' n' [x1, x2] S iv (am_K3 E (d + 1) mX10_wind k n 57 ls st Q)) : am_R E (d + 1) mX10_wind (k' + k) (n' + n) 57 ls (x2 :: x1 :: st) S iv Q := am_cS (M' := mX10_has) (as := [x1, x2]) dX10_wind_57 rfl wq_987 wq_988 wq_808 wq_985 hy_X10_has (by decide) hst (by omega) (by omega) hM
theorem sX10_wind_60 {ls : List Value} {x : Int32} (kt : ¬ x = 0 → am_R E d mX10_wind k n 66 ls st S iv Q) (kf : x = 0 → am_R E d mX10_wind k n 63 ls st S iv Q) : am_R E d mX10_wind k n 60 ls (.int x :: st) S iv Q := am_if_ne dX10_wind_60 (by decide) kt kf
theorem sX10_wind_63 {ls : List Value} (h : am_R E d mX10_wind k n 127 ls st S iv Q) : am_R E d mX10_wind k n 63 ls st S iv Q := am_goto dX10_wind_63 (by decide) h
theorem sX10_wind_66 {a0 a1 a2 a3 a4 a5 : Value} (hv : am_rf a0 = true) (h : am_R E d mX10_wind k n 67 [a0, a1, a2, a3, a4, a5] (a0 :: st) S iv Q) : am_R E d mX10_wind k n 66 [a0, a1, a2, a3, a4, a5] st S iv Q := am_aload_n dX10_wind_66 rfl rfl hv h
theorem sX10_wind_67 {a0 a1 a2 a3 a4 a5 : Value} (hv : am_rf a0 = true) (h : am_R E d mX10_wind k n 68 [a0, a1, a2, a3, a4, a5] (a0 :: st) S iv Q) : am_R E d mX10_wind k n 67 [a0, a1, a2, a3, a4, a5] st S iv Q := am_aload_n dX10_wind_67 rfl rfl hv h
theorem sX10_wind_68 {ls : List Value} {a : Nat} (ha : S.1 a = some (.inl 10)) (h : am_R E d mX10_wind k n 71 ls (.int (iv a 47) :: st) S iv Q) : am_R E d mX10_wind k n 68 ls (.ref a :: st) S iv Q := am_getI (ci := 10) dX10_wind_68 rfl rfl (by decide) wq_1102 uq_10 rfl ha h
theorem sX10_wind_71 {a0 a1 a2 a3 a4 a5 : Value} (h : am_R E d mX10_wind k n 74 [a0, a1, a2, a3, a4, a5] (.int 1103515245 :: st) S iv Q) : am_R E d mX10_wind k n 71 [a0, a1, a2, a3, a4, a5] st S iv Q := am_ldcw dX10_wind_71 wq_1103 h
theorem sX10_wind_74 {ls : List Value} {x y : Int32} (h : am_R E d mX10_wind k n 75 ls (.int (x * y) :: st) S iv Q) : am_R E d mX10_wind k n 74 ls (.int y :: .int x :: st) S iv Q := am_imul dX10_wind_74 h
theorem sX10_wind_75 {a0 a1 a2 a3 a4 a5 : Value} (h : am_R E d mX10_wind k n 78 [a0, a1, a2, a3, a4, a5] (.int 12345 :: st) S iv Q) : am_R E d mX10_wind k n 75 [a0, a1, a2, a3, a4, a5] st S iv Q := am_sipush dX10_wind_75 (by decide) h
theorem sX10_wind_78 {ls : List Value} {x y : Int32} (h : am_R E d mX10_wind k n 79 ls (.int (x + y) :: st) S iv Q) : am_R E d mX10_wind k n 78 ls (.int y :: .int x :: st) S iv Q := am_iadd dX10_wind_78 h
theorem sX10_wind_79 {ls : List Value} {a : Nat} {x : Int32} (ha : S.1 a = some (.inl 10)) (h : am_R E d mX10_wind k n 82 ls st S (am_w iv a 47 x) Q) : am_R E d mX10_wind k n 79 ls (.int x :: .ref a :: st) S iv Q := am_putI (ci := 10) dX10_wind_79 rfl rfl (by decide) wq_1102 uq_10 tyX10_ok nmX10 (Or.inl rfl) rfl ha h
theorem sX10_wind_82 {a0 a1 a2 a3 a4 a5 : Value} (hv : am_rf a0 = true) (h : am_R E d mX10_wind k n 83 [a0, a1, a2, a3, a4, a5] (a0 :: st) S iv Q) : am_R E d mX10_wind k n 82 [a0, a1, a2, a3, a4, a5] st S iv Q := am_aload_n dX10_wind_82 rfl rfl hv h
theorem sX10_wind_83 {ls : List Value} {a : Nat} (ha : S.1 a = some (.inl 10)) (h : am_R E d mX10_wind k n 86 ls (.int (iv a 47) :: st) S iv Q) : am_R E d mX10_wind k n 83 ls (.ref a :: st) S iv Q := am_getI (ci := 10) dX10_wind_83 rfl rfl (by decide) wq_1102 uq_10 rfl ha h
theorem sX10_wind_86 {a0 a1 a2 a3 a4 a5 : Value} (h : am_R E d mX10_wind k n 88 [a0, a1, a2, a3, a4, a5] (.int 16 :: st) S iv Q) : am_R E d mX10_wind k n 86 [a0, a1, a2, a3, a4, a5] st S iv Q := am_bipush dX10_wind_86 (by decide) h
theorem sX10_wind_88 {ls : List Value} {x y : Int32} (h : am_R E d mX10_wind k n 89 ls (.int (x >>> (y &&& 31)) :: st) S iv Q) : am_R E d mX10_wind k n 88 ls (.int y :: .int x :: st) S iv Q := am_ishr dX10_wind_88 h
theorem sX10_wind_89 {a0 a1 a2 a3 a4 a5 : Value} (h : am_R E d mX10_wind k n 92 [a0, a1, a2, a3, a4, a5] (.int 32767 :: st) S iv Q) : am_R E d mX10_wind k n 89 [a0, a1, a2, a3, a4, a5] st S iv Q := am_sipush dX10_wind_89 (by decide) h
theorem sX10_wind_92 {ls : List Value} {x y : Int32} (h : am_R E d mX10_wind k n 93 ls (.int (x &&& y) :: st) S iv Q) : am_R E d mX10_wind k n 92 ls (.int y :: .int x :: st) S iv Q := am_iand dX10_wind_92 h
theorem sX10_wind_93 {a0 a1 a2 a3 a4 a5 : Value} (h : am_R E d mX10_wind k n 96 [a0, a1, a2, a3, a4, a5] (.int 1000 :: st) S iv Q) : am_R E d mX10_wind k n 93 [a0, a1, a2, a3, a4, a5] st S iv Q := am_sipush dX10_wind_93 (by decide) h
theorem sX10_wind_96 {ls : List Value} {x y : Int32} (hy : ¬ y = 0) (h : am_R E d mX10_wind k n 97 ls (.int (x - x / y * y) :: st) S iv Q) : am_R E d mX10_wind k n 96 ls (.int y :: .int x :: st) S iv Q := am_irem dX10_wind_96 hy h
theorem sX10_wind_97 {a0 a1 a2 a3 a4 a5 : Value} (hv : am_rf a0 = true) (h : am_R E d mX10_wind k n 98 [a0, a1, a2, a3, a4, a5] (a0 :: st) S iv Q) : am_R E d mX10_wind k n 97 [a0, a1, a2, a3, a4, a5] st S iv Q := am_aload_n dX10_wind_97 rfl rfl hv h
theorem sX10_wind_98 {ls : List Value} {a b : Nat} (ha : S.1 a = some (.inl 10)) (hb : S.2.1 a 4 = some b) (h : am_R E d mX10_wind k n 101 ls (.ref b :: st) S iv Q) : am_R E d mX10_wind k n 98 ls (.ref a :: st) S iv Q := am_getR (ci := 10) dX10_wind_98 rfl rfl (by decide) wq_772 uq_10 rfl ha hb h
theorem sX10_wind_101 {a0 a1 a2 a3 a4 a5 : Value} (h : am_R E d mX10_wind k n 103 [a0, a1, a2, a3, a4, a5] (.int 9 :: st) S iv Q) : am_R E d mX10_wind k n 101 [a0, a1, a2, a3, a4, a5] st S iv Q := am_bipush dX10_wind_101 (by decide) h
theorem sX10_wind_103 {ls : List Value} {a m : Nat} {i : Int32} (ha : S.1 a = some (.inr (.int, m))) (hi : vp_in i m) (h : am_R E d mX10_wind k n 104 ls (.int (iv a i.toNatClampNeg) :: st) S iv Q) : am_R E d mX10_wind k n 103 ls (.int i :: .ref a :: st) S iv Q := am_iaload dX10_wind_103 ha hi h
theorem sX10_wind_104 {a0 a1 a2 a3 a4 a5 : Value} (hv : am_rf a0 = true) (h : am_R E d mX10_wind k n 105 [a0, a1, a2, a3, a4, a5] (a0 :: st) S iv Q) : am_R E d mX10_wind k n 104 [a0, a1, a2, a3, a4, a5] st S iv Q := am_aload_n dX10_wind_104 rfl rfl hv h
theorem sX10_wind_105 {ls : List Value} {a b : Nat} (ha : S.1 a = some (.inl 10)) (hb : S.2.1 a 8 = some b) (h : am_R E d mX10_wind k n 108 ls (.ref b :: st) S iv Q) : am_R E d mX10_wind k n 105 ls (.ref a :: st) S iv Q := am_getR (ci := 10) dX10_wind_105 rfl rfl (by decide) wq_776 uq_10 rfl ha hb h
theorem sX10_wind_108 {a0 a1 a2 a3 a4 : Value} {x : Int32} (h : am_R E d mX10_wind k n 110 [a0, a1, a2, a3, a4, .int x] (.int x :: st) S iv Q) : am_R E d mX10_wind k n 108 [a0, a1, a2, a3, a4, .int x] st S iv Q := am_iload dX10_wind_108 rfl h
theorem sX10_wind_110 {ls : List Value} {a m : Nat} {i : Int32} (ha : S.1 a = some (.inr (.int, m))) (hi : vp_in i m) (h : am_R E d mX10_wind k n 111 ls (.int (iv a i.toNatClampNeg) :: st) S iv Q) : am_R E d mX10_wind k n 110 ls (.int i :: .ref a :: st) S iv Q := am_iaload dX10_wind_110 ha hi h
theorem sX10_wind_111 {ls : List Value} {x y : Int32} (h : am_R E d mX10_wind k n 112 ls (.int (x * y) :: st) S iv Q) : am_R E d mX10_wind k n 111 ls (.int y :: .int x :: st) S iv Q := am_imul dX10_wind_111 h
theorem sX10_wind_112 {ls : List Value} {x y : Int32} (kt : x < y → am_R E d mX10_wind k n 118 ls st S iv Q) (kf : ¬ x < y → am_R E d mX10_wind k n 115 ls st S iv Q) : am_R E d mX10_wind k n 112 ls (.int y :: .int x :: st) S iv Q := am_icmp_lt dX10_wind_112 (by decide) kt kf
theorem sX10_wind_115 {ls : List Value} (h : am_R E d mX10_wind k n 127 ls st S iv Q) : am_R E d mX10_wind k n 115 ls st S iv Q := am_goto dX10_wind_115 (by decide) h
theorem sX10_wind_118 {a0 a1 a2 a3 a4 a5 : Value} (hv : am_rf a0 = true) (h : am_R E d mX10_wind k n 119 [a0, a1, a2, a3, a4, a5] (a0 :: st) S iv Q) : am_R E d mX10_wind k n 118 [a0, a1, a2, a3, a4, a5] st S iv Q := am_aload_n dX10_wind_118 rfl rfl hv h
theorem sX10_wind_119 {a0 a1 a2 a3 a4 : Value} {x : Int32} (h : am_R E d mX10_wind k n 121 [a0, a1, a2, a3, a4, .int x] (.int x :: st) S iv Q) : am_R E d mX10_wind k n 119 [a0, a1, a2, a3, a4, .int x] st S iv Q := am_iload dX10_wind_119 rfl h
theorem sX10_wind_121 {ls : List Value} {x1 : Value} {a : Nat} (ha : S.1 a = some (.inl 10)) (hst : (st.map fun v => v.category).sum ≤ 8) (hM : am_M E d mX10_slam 0 0 [.ref a, x1] S iv (am_K3 E (d + 1) mX10_wind k n 121 ls st Q)) : am_R E (d + 1) mX10_wind k n 121 ls (x1 :: .ref a :: st) S iv Q := am_cV (ci := 10) (M' := mX10_slam) (as := [x1]) dX10_wind_121 rfl rfl rfl wq_1106 wq_1107 wq_1108 wq_808 wq_1104 hy_X10_slam (by decide) ha hst (by omega) (by omega) hM
theorem sX10_wind_121_k {ls : List Value} {x1 : Value} {k' n' : Nat} {a : Nat} (ha : S.1 a = some (.inl 10)) (hst : (st.map fun v => v.category).sum ≤ 8) (hM : am_M E d mX10_slam k' n' [.ref a, x1] S iv (am_K3 E (d + 1) mX10_wind k n 121 ls st Q)) : am_R E (d + 1) mX10_wind (k' + k) (n' + n) 121 ls (x1 :: .ref a :: st) S iv Q := am_cV (ci := 10) (M' := mX10_slam) (as := [x1]) dX10_wind_121 rfl rfl rfl wq_1106 wq_1107 wq_1108 wq_808 wq_1104 hy_X10_slam (by decide) ha hst (by omega) (by omega) hM
theorem sX10_wind_124 {a0 a1 a2 a4 a5 : Value} {x : Int32} (h : am_R E d mX10_wind k n 127 [a0, a1, a2, .int (x + 1), a4, a5] st S iv Q) : am_R E d mX10_wind k n 124 [a0, a1, a2, .int x, a4, a5] st S iv Q := am_iinc dX10_wind_124 rfl rfl (by decide) h
theorem sX10_wind_127 {a0 a1 a2 a3 a4 : Value} {x : Int32} (h : am_R E d mX10_wind k n 130 [a0, a1, a2, a3, a4, .int (x + 1)] st S iv Q) : am_R E d mX10_wind k n 127 [a0, a1, a2, a3, a4, .int x] st S iv Q := am_iinc dX10_wind_127 rfl rfl (by decide) h
theorem sX10_wind_130 {ls : List Value} (h : am_R E d mX10_wind k n 40 ls st S iv Q) : am_R E d mX10_wind k n 130 ls st S iv Q := am_goto dX10_wind_130 (by decide) h
theorem sX10_wind_133 {a0 a1 a2 a3 a5 : Value} {x : Int32} (h : am_R E d mX10_wind k n 136 [a0, a1, a2, a3, .int (x + 1), a5] st S iv Q) : am_R E d mX10_wind k n 133 [a0, a1, a2, a3, .int x, a5] st S iv Q := am_iinc dX10_wind_133 rfl rfl (by decide) h
theorem sX10_wind_136 {ls : List Value} (h : am_R E d mX10_wind k n 31 ls st S iv Q) : am_R E d mX10_wind k n 136 ls st S iv Q := am_goto dX10_wind_136 (by decide) h
theorem sX10_wind_139 {a0 a1 a3 a4 a5 : Value} {x : Int32} (h : am_R E d mX10_wind k n 140 [a0, a1, .int x, a3, a4, a5] (.int x :: st) S iv Q) : am_R E d mX10_wind k n 139 [a0, a1, .int x, a3, a4, a5] st S iv Q := am_iload_n dX10_wind_139 rfl rfl h
theorem sX10_wind_140 {ls : List Value} {x : Int32} (kt : x ≤ 0 → am_R E d mX10_wind k n 148 ls st S iv Q) (kf : ¬ x ≤ 0 → am_R E d mX10_wind k n 143 ls st S iv Q) : am_R E d mX10_wind k n 140 ls (.int x :: st) S iv Q := am_if_le dX10_wind_140 (by decide) kt kf
theorem sX10_wind_143 {a0 a1 a2 a3 a4 a5 : Value} (hv : am_rf a0 = true) (h : am_R E d mX10_wind k n 144 [a0, a1, a2, a3, a4, a5] (a0 :: st) S iv Q) : am_R E d mX10_wind k n 143 [a0, a1, a2, a3, a4, a5] st S iv Q := am_aload_n dX10_wind_143 rfl rfl hv h
theorem sX10_wind_144 {a0 a1 a2 a3 a4 a5 : Value} (h : am_R E d mX10_wind k n 145 [a0, a1, a2, a3, a4, a5] (.int 0 :: st) S iv Q) : am_R E d mX10_wind k n 144 [a0, a1, a2, a3, a4, a5] st S iv Q := am_iconst dX10_wind_144 (by decide) h
theorem sX10_wind_145 {ls : List Value} {a : Nat} {x : Int32} (ha : S.1 a = some (.inl 10)) (h : am_R E d mX10_wind k n 148 ls st S (am_w iv a 32 x) Q) : am_R E d mX10_wind k n 145 ls (.int x :: .ref a :: st) S iv Q := am_putI (ci := 10) dX10_wind_145 rfl rfl (by decide) wq_975 uq_10 tyX10_ok nmX10 (Or.inl rfl) rfl ha h
theorem sX10_wind_148 {a0 a1 a2 a4 a5 : Value} {x : Int32} (h : am_R E d mX10_wind k n 149 [a0, a1, a2, .int x, a4, a5] (.int x :: st) S iv Q) : am_R E d mX10_wind k n 148 [a0, a1, a2, .int x, a4, a5] st S iv Q := am_iload_n dX10_wind_148 rfl rfl h
theorem sX10_wind_149 {ls : List Value} {x : Int32} (h : Q (.inl (some (.int x))) S iv) : am_R E d mX10_wind k n 149 ls [.int x] S iv Q := am_ireturn dX10_wind_149 rfl h
theorem dX10_columnsApart_0 : decode cX10_columnsApart 0 = .ok (.iconst 0, 1) := by decide +kernel
theorem dX10_columnsApart_1 : decode cX10_columnsApart 1 = .ok (.aload_n 0, 1) := by decide +kernel
theorem dX10_columnsApart_2 : decode cX10_columnsApart 2 = .ok (.getfield 55, 3) := by decide +kernel
theorem dX10_columnsApart_5 : decode cX10_columnsApart 5 = .ok (.iload_n 1, 1) := by decide +kernel
theorem dX10_columnsApart_6 : decode cX10_columnsApart 6 = .ok (.iaload, 1) := by decide +kernel
theorem dX10_columnsApart_7 : decode cX10_columnsApart 7 = .ok (.aload_n 0, 1) := by decide +kernel
theorem dX10_columnsApart_8 : decode cX10_columnsApart 8 = .ok (.getfield 55, 3) := by decide +kernel
theorem dX10_columnsApart_11 : decode cX10_columnsApart 11 = .ok (.iload_n 2, 1) := by decide +kernel
theorem dX10_columnsApart_12 : decode cX10_columnsApart 12 = .ok (.iaload, 1) := by decide +kernel
theorem dX10_columnsApart_13 : decode cX10_columnsApart 13 = .ok (.isub, 1) := by decide +kernel
theorem dX10_columnsApart_14 : decode cX10_columnsApart 14 = .ok (.aload_n 0, 1) := by decide +kernel
theorem dX10_columnsApart_15 : decode cX10_columnsApart 15 = .ok (.getfield 61, 3) := by decide +kernel
theorem dX10_columnsApart_18 : decode cX10_columnsApart 18 = .ok (.iload_n 2, 1) := by decide +kernel
theorem dX10_columnsApart_19 : decode cX10_columnsApart 19 = .ok (.iaload, 1) := by decide +kernel
theorem dX10_columnsApart_20 : decode cX10_columnsApart 20 = .ok (.isub, 1) := by decide +kernel
theorem dX10_columnsApart_21 : decode cX10_columnsApart 21 = .ok (.aload_n 0, 1) := by decide +kernel
theorem dX10_columnsApart_22 : decode cX10_columnsApart 22 = .ok (.getfield 55, 3) := by decide +kernel
theorem dX10_columnsApart_25 : decode cX10_columnsApart 25 = .ok (.iload_n 2, 1) := by decide +kernel
theorem dX10_columnsApart_26 : decode cX10_columnsApart 26 = .ok (.iaload, 1) := by decide +kernel
theorem dX10_columnsApart_27 : decode cX10_columnsApart 27 = .ok (.aload_n 0, 1) := by decide +kernel
theorem dX10_columnsApart_28 : decode cX10_columnsApart 28 = .ok (.getfield 55, 3) := by decide +kernel
theorem dX10_columnsApart_31 : decode cX10_columnsApart 31 = .ok (.iload_n 1, 1) := by decide +kernel
theorem dX10_columnsApart_32 : decode cX10_columnsApart 32 = .ok (.iaload, 1) := by decide +kernel
theorem dX10_columnsApart_33 : decode cX10_columnsApart 33 = .ok (.isub, 1) := by decide +kernel
theorem dX10_columnsApart_34 : decode cX10_columnsApart 34 = .ok (.aload_n 0, 1) := by decide +kernel
theorem dX10_columnsApart_35 : decode cX10_columnsApart 35 = .ok (.getfield 61, 3) := by decide +kernel
theorem dX10_columnsApart_38 : decode cX10_columnsApart 38 = .ok (.iload_n 1, 1) := by decide +kernel
theorem dX10_columnsApart_39 : decode cX10_columnsApart 39 = .ok (.iaload, 1) := by decide +kernel
theorem dX10_columnsApart_40 : decode cX10_columnsApart 40 = .ok (.isub, 1) := by decide +kernel
theorem dX10_columnsApart_41 : decode cX10_columnsApart 41 = .ok (.invokestatic 405, 3) := by decide +kernel
theorem dX10_columnsApart_44 : decode cX10_columnsApart 44 = .ok (.invokestatic 405, 3) := by decide +kernel
theorem dX10_columnsApart_47 : decode cX10_columnsApart 47 = .ok (.ireturn, 1) := by decide +kernel
theorem sX10_columnsApart_0 {a0 a1 a2 : Value} (h : am_R E d mX10_columnsApart k n 1 [a0, a1, a2] (.int 0 :: st) S iv Q) : am_R E d mX10_columnsApart k n 0 [a0, a1, a2] st S iv Q := am_iconst dX10_columnsApart_0 (by decide) h
theorem sX10_columnsApart_1 {a0 a1 a2 : Value} (hv : am_rf a0 = true) (h : am_R E d mX10_columnsApart k n 2 [a0, a1, a2] (a0 :: st) S iv Q) : am_R E d mX10_columnsApart k n 1 [a0, a1, a2] st S iv Q := am_aload_n dX10_columnsApart_1 rfl rfl hv h
theorem sX10_columnsApart_2 {ls : List Value} {a b : Nat} (ha : S.1 a = some (.inl 10)) (hb : S.2.1 a 6 = some b) (h : am_R E d mX10_columnsApart k n 5 ls (.ref b :: st) S iv Q) : am_R E d mX10_columnsApart k n 2 ls (.ref a :: st) S iv Q := am_getR (ci := 10) dX10_columnsApart_2 rfl rfl (by decide) wq_774 uq_10 rfl ha hb h
theorem sX10_columnsApart_5 {a0 a2 : Value} {x : Int32} (h : am_R E d mX10_columnsApart k n 6 [a0, .int x, a2] (.int x :: st) S iv Q) : am_R E d mX10_columnsApart k n 5 [a0, .int x, a2] st S iv Q := am_iload_n dX10_columnsApart_5 rfl rfl h
theorem sX10_columnsApart_6 {ls : List Value} {a m : Nat} {i : Int32} (ha : S.1 a = some (.inr (.int, m))) (hi : vp_in i m) (h : am_R E d mX10_columnsApart k n 7 ls (.int (iv a i.toNatClampNeg) :: st) S iv Q) : am_R E d mX10_columnsApart k n 6 ls (.int i :: .ref a :: st) S iv Q := am_iaload dX10_columnsApart_6 ha hi h
theorem sX10_columnsApart_7 {a0 a1 a2 : Value} (hv : am_rf a0 = true) (h : am_R E d mX10_columnsApart k n 8 [a0, a1, a2] (a0 :: st) S iv Q) : am_R E d mX10_columnsApart k n 7 [a0, a1, a2] st S iv Q := am_aload_n dX10_columnsApart_7 rfl rfl hv h
theorem sX10_columnsApart_8 {ls : List Value} {a b : Nat} (ha : S.1 a = some (.inl 10)) (hb : S.2.1 a 6 = some b) (h : am_R E d mX10_columnsApart k n 11 ls (.ref b :: st) S iv Q) : am_R E d mX10_columnsApart k n 8 ls (.ref a :: st) S iv Q := am_getR (ci := 10) dX10_columnsApart_8 rfl rfl (by decide) wq_774 uq_10 rfl ha hb h
theorem sX10_columnsApart_11 {a0 a1 : Value} {x : Int32} (h : am_R E d mX10_columnsApart k n 12 [a0, a1, .int x] (.int x :: st) S iv Q) : am_R E d mX10_columnsApart k n 11 [a0, a1, .int x] st S iv Q := am_iload_n dX10_columnsApart_11 rfl rfl h
theorem sX10_columnsApart_12 {ls : List Value} {a m : Nat} {i : Int32} (ha : S.1 a = some (.inr (.int, m))) (hi : vp_in i m) (h : am_R E d mX10_columnsApart k n 13 ls (.int (iv a i.toNatClampNeg) :: st) S iv Q) : am_R E d mX10_columnsApart k n 12 ls (.int i :: .ref a :: st) S iv Q := am_iaload dX10_columnsApart_12 ha hi h
theorem sX10_columnsApart_13 {ls : List Value} {x y : Int32} (h : am_R E d mX10_columnsApart k n 14 ls (.int (x - y) :: st) S iv Q) : am_R E d mX10_columnsApart k n 13 ls (.int y :: .int x :: st) S iv Q := am_isub dX10_columnsApart_13 h
theorem sX10_columnsApart_14 {a0 a1 a2 : Value} (hv : am_rf a0 = true) (h : am_R E d mX10_columnsApart k n 15 [a0, a1, a2] (a0 :: st) S iv Q) : am_R E d mX10_columnsApart k n 14 [a0, a1, a2] st S iv Q := am_aload_n dX10_columnsApart_14 rfl rfl hv h
theorem sX10_columnsApart_15 {ls : List Value} {a b : Nat} (ha : S.1 a = some (.inl 10)) (hb : S.2.1 a 9 = some b) (h : am_R E d mX10_columnsApart k n 18 ls (.ref b :: st) S iv Q) : am_R E d mX10_columnsApart k n 15 ls (.ref a :: st) S iv Q := am_getR (ci := 10) dX10_columnsApart_15 rfl rfl (by decide) wq_777 uq_10 rfl ha hb h
theorem sX10_columnsApart_18 {a0 a1 : Value} {x : Int32} (h : am_R E d mX10_columnsApart k n 19 [a0, a1, .int x] (.int x :: st) S iv Q) : am_R E d mX10_columnsApart k n 18 [a0, a1, .int x] st S iv Q := am_iload_n dX10_columnsApart_18 rfl rfl h
theorem sX10_columnsApart_19 {ls : List Value} {a m : Nat} {i : Int32} (ha : S.1 a = some (.inr (.int, m))) (hi : vp_in i m) (h : am_R E d mX10_columnsApart k n 20 ls (.int (iv a i.toNatClampNeg) :: st) S iv Q) : am_R E d mX10_columnsApart k n 19 ls (.int i :: .ref a :: st) S iv Q := am_iaload dX10_columnsApart_19 ha hi h
theorem sX10_columnsApart_20 {ls : List Value} {x y : Int32} (h : am_R E d mX10_columnsApart k n 21 ls (.int (x - y) :: st) S iv Q) : am_R E d mX10_columnsApart k n 20 ls (.int y :: .int x :: st) S iv Q := am_isub dX10_columnsApart_20 h
theorem sX10_columnsApart_21 {a0 a1 a2 : Value} (hv : am_rf a0 = true) (h : am_R E d mX10_columnsApart k n 22 [a0, a1, a2] (a0 :: st) S iv Q) : am_R E d mX10_columnsApart k n 21 [a0, a1, a2] st S iv Q := am_aload_n dX10_columnsApart_21 rfl rfl hv h
theorem sX10_columnsApart_22 {ls : List Value} {a b : Nat} (ha : S.1 a = some (.inl 10)) (hb : S.2.1 a 6 = some b) (h : am_R E d mX10_columnsApart k n 25 ls (.ref b :: st) S iv Q) : am_R E d mX10_columnsApart k n 22 ls (.ref a :: st) S iv Q := am_getR (ci := 10) dX10_columnsApart_22 rfl rfl (by decide) wq_774 uq_10 rfl ha hb h
theorem sX10_columnsApart_25 {a0 a1 : Value} {x : Int32} (h : am_R E d mX10_columnsApart k n 26 [a0, a1, .int x] (.int x :: st) S iv Q) : am_R E d mX10_columnsApart k n 25 [a0, a1, .int x] st S iv Q := am_iload_n dX10_columnsApart_25 rfl rfl h
theorem sX10_columnsApart_26 {ls : List Value} {a m : Nat} {i : Int32} (ha : S.1 a = some (.inr (.int, m))) (hi : vp_in i m) (h : am_R E d mX10_columnsApart k n 27 ls (.int (iv a i.toNatClampNeg) :: st) S iv Q) : am_R E d mX10_columnsApart k n 26 ls (.int i :: .ref a :: st) S iv Q := am_iaload dX10_columnsApart_26 ha hi h
theorem sX10_columnsApart_27 {a0 a1 a2 : Value} (hv : am_rf a0 = true) (h : am_R E d mX10_columnsApart k n 28 [a0, a1, a2] (a0 :: st) S iv Q) : am_R E d mX10_columnsApart k n 27 [a0, a1, a2] st S iv Q := am_aload_n dX10_columnsApart_27 rfl rfl hv h
theorem sX10_columnsApart_28 {ls : List Value} {a b : Nat} (ha : S.1 a = some (.inl 10)) (hb : S.2.1 a 6 = some b) (h : am_R E d mX10_columnsApart k n 31 ls (.ref b :: st) S iv Q) : am_R E d mX10_columnsApart k n 28 ls (.ref a :: st) S iv Q := am_getR (ci := 10) dX10_columnsApart_28 rfl rfl (by decide) wq_774 uq_10 rfl ha hb h
theorem sX10_columnsApart_31 {a0 a2 : Value} {x : Int32} (h : am_R E d mX10_columnsApart k n 32 [a0, .int x, a2] (.int x :: st) S iv Q) : am_R E d mX10_columnsApart k n 31 [a0, .int x, a2] st S iv Q := am_iload_n dX10_columnsApart_31 rfl rfl h
theorem sX10_columnsApart_32 {ls : List Value} {a m : Nat} {i : Int32} (ha : S.1 a = some (.inr (.int, m))) (hi : vp_in i m) (h : am_R E d mX10_columnsApart k n 33 ls (.int (iv a i.toNatClampNeg) :: st) S iv Q) : am_R E d mX10_columnsApart k n 32 ls (.int i :: .ref a :: st) S iv Q := am_iaload dX10_columnsApart_32 ha hi h
theorem sX10_columnsApart_33 {ls : List Value} {x y : Int32} (h : am_R E d mX10_columnsApart k n 34 ls (.int (x - y) :: st) S iv Q) : am_R E d mX10_columnsApart k n 33 ls (.int y :: .int x :: st) S iv Q := am_isub dX10_columnsApart_33 h
theorem sX10_columnsApart_34 {a0 a1 a2 : Value} (hv : am_rf a0 = true) (h : am_R E d mX10_columnsApart k n 35 [a0, a1, a2] (a0 :: st) S iv Q) : am_R E d mX10_columnsApart k n 34 [a0, a1, a2] st S iv Q := am_aload_n dX10_columnsApart_34 rfl rfl hv h
theorem sX10_columnsApart_35 {ls : List Value} {a b : Nat} (ha : S.1 a = some (.inl 10)) (hb : S.2.1 a 9 = some b) (h : am_R E d mX10_columnsApart k n 38 ls (.ref b :: st) S iv Q) : am_R E d mX10_columnsApart k n 35 ls (.ref a :: st) S iv Q := am_getR (ci := 10) dX10_columnsApart_35 rfl rfl (by decide) wq_777 uq_10 rfl ha hb h
theorem sX10_columnsApart_38 {a0 a2 : Value} {x : Int32} (h : am_R E d mX10_columnsApart k n 39 [a0, .int x, a2] (.int x :: st) S iv Q) : am_R E d mX10_columnsApart k n 38 [a0, .int x, a2] st S iv Q := am_iload_n dX10_columnsApart_38 rfl rfl h
theorem sX10_columnsApart_39 {ls : List Value} {a m : Nat} {i : Int32} (ha : S.1 a = some (.inr (.int, m))) (hi : vp_in i m) (h : am_R E d mX10_columnsApart k n 40 ls (.int (iv a i.toNatClampNeg) :: st) S iv Q) : am_R E d mX10_columnsApart k n 39 ls (.int i :: .ref a :: st) S iv Q := am_iaload dX10_columnsApart_39 ha hi h
theorem sX10_columnsApart_40 {ls : List Value} {x y : Int32} (h : am_R E d mX10_columnsApart k n 41 ls (.int (x - y) :: st) S iv Q) : am_R E d mX10_columnsApart k n 40 ls (.int y :: .int x :: st) S iv Q := am_isub dX10_columnsApart_40 h
theorem sX10_columnsApart_41 {ls : List Value} {x1 x2 : Value} (hst : (st.map fun v => v.category).sum ≤ 8) (hM : am_M E d mJ9_max_7cf53 0 0 [x1, x2] S iv (am_K3 E (d + 1) mX10_columnsApart k n 41 ls st Q)) : am_R E (d + 1) mX10_columnsApart k n 41 ls (x2 :: x1 :: st) S iv Q := am_cS (M' := mJ9_max_7cf53) (as := [x1, x2]) dX10_columnsApart_41 rfl wq_1101 wq_53 wq_50 wq_49 hy_J9_max_7cf53 (by decide) hst (by omega) (by omega) hM
theorem sX10_columnsApart_41_k {ls : List Value} {x1 x2 : Value} {k' n' : Nat} (hst : (st.map fun v => v.category).sum ≤ 8) (hM : am_M E d mJ9_max_7cf53 k' n' [x1, x2] S iv (am_K3 E (d + 1) mX10_columnsApart k n 41 ls st Q)) : am_R E (d + 1) mX10_columnsApart (k' + k) (n' + n) 41 ls (x2 :: x1 :: st) S iv Q := am_cS (M' := mJ9_max_7cf53) (as := [x1, x2]) dX10_columnsApart_41 rfl wq_1101 wq_53 wq_50 wq_49 hy_J9_max_7cf53 (by decide) hst (by omega) (by omega) hM
theorem sX10_columnsApart_44 {ls : List Value} {x1 x2 : Value} (hst : (st.map fun v => v.category).sum ≤ 8) (hM : am_M E d mJ9_max_7cf53 0 0 [x1, x2] S iv (am_K3 E (d + 1) mX10_columnsApart k n 44 ls st Q)) : am_R E (d + 1) mX10_columnsApart k n 44 ls (x2 :: x1 :: st) S iv Q := am_cS (M' := mJ9_max_7cf53) (as := [x1, x2]) dX10_columnsApart_44 rfl wq_1101 wq_53 wq_50 wq_49 hy_J9_max_7cf53 (by decide) hst (by omega) (by omega) hM
theorem sX10_columnsApart_44_k {ls : List Value} {x1 x2 : Value} {k' n' : Nat} (hst : (st.map fun v => v.category).sum ≤ 8) (hM : am_M E d mJ9_max_7cf53 k' n' [x1, x2] S iv (am_K3 E (d + 1) mX10_columnsApart k n 44 ls st Q)) : am_R E (d + 1) mX10_columnsApart (k' + k) (n' + n) 44 ls (x2 :: x1 :: st) S iv Q := am_cS (M' := mJ9_max_7cf53) (as := [x1, x2]) dX10_columnsApart_44 rfl wq_1101 wq_53 wq_50 wq_49 hy_J9_max_7cf53 (by decide) hst (by omega) (by omega) hM
theorem sX10_columnsApart_47 {ls : List Value} {x : Int32} (h : Q (.inl (some (.int x))) S iv) : am_R E d mX10_columnsApart k n 47 ls [.int x] S iv Q := am_ireturn dX10_columnsApart_47 rfl h
theorem dX10_whoCould_0 : decode cX10_whoCould 0 = .ok (.iconst 0, 1) := by decide +kernel
theorem dX10_whoCould_1 : decode cX10_whoCould 1 = .ok (.istore_n 2, 1) := by decide +kernel
theorem dX10_whoCould_2 : decode cX10_whoCould 2 = .ok (.iconst 0, 1) := by decide +kernel
theorem dX10_whoCould_3 : decode cX10_whoCould 3 = .ok (.istore_n 3, 1) := by decide +kernel
theorem dX10_whoCould_4 : decode cX10_whoCould 4 = .ok (.iload_n 3, 1) := by decide +kernel
theorem dX10_whoCould_5 : decode cX10_whoCould 5 = .ok (.aload_n 0, 1) := by decide +kernel
theorem dX10_whoCould_6 : decode cX10_whoCould 6 = .ok (.getfield 49, 3) := by decide +kernel
theorem dX10_whoCould_9 : decode cX10_whoCould 9 = .ok (.iconst 3, 1) := by decide +kernel
theorem dX10_whoCould_10 : decode cX10_whoCould 10 = .ok (.iaload, 1) := by decide +kernel
theorem dX10_whoCould_11 : decode cX10_whoCould 11 = .ok (.if_icmp .ge 94, 3) := by decide +kernel
theorem dX10_whoCould_14 : decode cX10_whoCould 14 = .ok (.aload_n 0, 1) := by decide +kernel
theorem dX10_whoCould_15 : decode cX10_whoCould 15 = .ok (.getfield 64, 3) := by decide +kernel
theorem dX10_whoCould_18 : decode cX10_whoCould 18 = .ok (.iload_n 3, 1) := by decide +kernel
theorem dX10_whoCould_19 : decode cX10_whoCould 19 = .ok (.iaload, 1) := by decide +kernel
theorem dX10_whoCould_20 : decode cX10_whoCould 20 = .ok (.istore 4, 2) := by decide +kernel
theorem dX10_whoCould_22 : decode cX10_whoCould 22 = .ok (.iload 4, 2) := by decide +kernel
theorem dX10_whoCould_24 : decode cX10_whoCould 24 = .ok (.iload_n 1, 1) := by decide +kernel
theorem dX10_whoCould_25 : decode cX10_whoCould 25 = .ok (.if_icmp .eq 56, 3) := by decide +kernel
theorem dX10_whoCould_28 : decode cX10_whoCould 28 = .ok (.aload_n 0, 1) := by decide +kernel
theorem dX10_whoCould_29 : decode cX10_whoCould 29 = .ok (.getfield 306, 3) := by decide +kernel
theorem dX10_whoCould_32 : decode cX10_whoCould 32 = .ok (.iload 4, 2) := by decide +kernel
theorem dX10_whoCould_34 : decode cX10_whoCould 34 = .ok (.invokestatic 328, 3) := by decide +kernel
theorem dX10_whoCould_37 : decode cX10_whoCould 37 = .ok (.ifCond .eq 44, 3) := by decide +kernel
theorem dX10_whoCould_40 : decode cX10_whoCould 40 = .ok (.aload_n 0, 1) := by decide +kernel
theorem dX10_whoCould_41 : decode cX10_whoCould 41 = .ok (.getfield 57, 3) := by decide +kernel
theorem dX10_whoCould_44 : decode cX10_whoCould 44 = .ok (.iload 4, 2) := by decide +kernel
theorem dX10_whoCould_46 : decode cX10_whoCould 46 = .ok (.iaload, 1) := by decide +kernel
theorem dX10_whoCould_47 : decode cX10_whoCould 47 = .ok (.aload_n 0, 1) := by decide +kernel
theorem dX10_whoCould_48 : decode cX10_whoCould 48 = .ok (.getfield 57, 3) := by decide +kernel
theorem dX10_whoCould_51 : decode cX10_whoCould 51 = .ok (.iload_n 1, 1) := by decide +kernel
theorem dX10_whoCould_52 : decode cX10_whoCould 52 = .ok (.iaload, 1) := by decide +kernel
theorem dX10_whoCould_53 : decode cX10_whoCould 53 = .ok (.isub, 1) := by decide +kernel
theorem dX10_whoCould_54 : decode cX10_whoCould 54 = .ok (.invokestatic 396, 3) := by decide +kernel
theorem dX10_whoCould_57 : decode cX10_whoCould 57 = .ok (.aload_n 0, 1) := by decide +kernel
theorem dX10_whoCould_58 : decode cX10_whoCould 58 = .ok (.getfield 49, 3) := by decide +kernel
theorem dX10_whoCould_61 : decode cX10_whoCould 61 = .ok (.iconst 4, 1) := by decide +kernel
theorem dX10_whoCould_62 : decode cX10_whoCould 62 = .ok (.iaload, 1) := by decide +kernel
theorem dX10_whoCould_63 : decode cX10_whoCould 63 = .ok (.if_icmp .gt 18, 3) := by decide +kernel
theorem dX10_whoCould_66 : decode cX10_whoCould 66 = .ok (.aload_n 0, 1) := by decide +kernel
theorem dX10_whoCould_67 : decode cX10_whoCould 67 = .ok (.iload 4, 2) := by decide +kernel
theorem dX10_whoCould_69 : decode cX10_whoCould 69 = .ok (.iload_n 1, 1) := by decide +kernel
theorem dX10_whoCould_70 : decode cX10_whoCould 70 = .ok (.invokevirtual 415, 3) := by decide +kernel
theorem dX10_whoCould_73 : decode cX10_whoCould 73 = .ok (.iconst 1, 1) := by decide +kernel
theorem dX10_whoCould_74 : decode cX10_whoCould 74 = .ok (.if_icmp .gt 7, 3) := by decide +kernel
theorem dX10_whoCould_77 : decode cX10_whoCould 77 = .ok (.iconst 1, 1) := by decide +kernel
theorem dX10_whoCould_78 : decode cX10_whoCould 78 = .ok (.goto 4, 3) := by decide +kernel
theorem dX10_whoCould_81 : decode cX10_whoCould 81 = .ok (.iconst 0, 1) := by decide +kernel
theorem dX10_whoCould_82 : decode cX10_whoCould 82 = .ok (.istore 5, 2) := by decide +kernel
theorem dX10_whoCould_84 : decode cX10_whoCould 84 = .ok (.iload_n 2, 1) := by decide +kernel
theorem dX10_whoCould_85 : decode cX10_whoCould 85 = .ok (.iload 5, 2) := by decide +kernel
theorem dX10_whoCould_87 : decode cX10_whoCould 87 = .ok (.ifCond .eq 9, 3) := by decide +kernel
theorem dX10_whoCould_90 : decode cX10_whoCould 90 = .ok (.iconst 1, 1) := by decide +kernel
theorem dX10_whoCould_91 : decode cX10_whoCould 91 = .ok (.iload_n 3, 1) := by decide +kernel
theorem dX10_whoCould_92 : decode cX10_whoCould 92 = .ok (.ishl, 1) := by decide +kernel
theorem dX10_whoCould_93 : decode cX10_whoCould 93 = .ok (.goto 4, 3) := by decide +kernel
theorem dX10_whoCould_96 : decode cX10_whoCould 96 = .ok (.iconst 0, 1) := by decide +kernel
theorem dX10_whoCould_97 : decode cX10_whoCould 97 = .ok (.ior, 1) := by decide +kernel
theorem dX10_whoCould_98 : decode cX10_whoCould 98 = .ok (.istore_n 2, 1) := by decide +kernel
theorem dX10_whoCould_99 : decode cX10_whoCould 99 = .ok (.iinc 3 1, 3) := by decide +kernel
theorem dX10_whoCould_102 : decode cX10_whoCould 102 = .ok (.goto (-98), 3) := by decide +kernel
theorem dX10_whoCould_105 : decode cX10_whoCould 105 = .ok (.iload_n 2, 1) := by decide +kernel
theorem dX10_whoCould_106 : decode cX10_whoCould 106 = .ok (.ireturn, 1) := by decide +kernel
theorem sX10_whoCould_0 {a0 a1 a2 a3 a4 a5 : Value} (h : am_R E d mX10_whoCould k n 1 [a0, a1, a2, a3, a4, a5] (.int 0 :: st) S iv Q) : am_R E d mX10_whoCould k n 0 [a0, a1, a2, a3, a4, a5] st S iv Q := am_iconst dX10_whoCould_0 (by decide) h
theorem sX10_whoCould_1 {a0 a1 a2 a3 a4 a5 : Value} {x : Int32} (h : am_R E d mX10_whoCould k n 2 [a0, a1, .int x, a3, a4, a5] st S iv Q) : am_R E d mX10_whoCould k n 1 [a0, a1, a2, a3, a4, a5] (.int x :: st) S iv Q := am_istore_n dX10_whoCould_1 rfl (by decide) h
theorem sX10_whoCould_2 {a0 a1 a2 a3 a4 a5 : Value} (h : am_R E d mX10_whoCould k n 3 [a0, a1, a2, a3, a4, a5] (.int 0 :: st) S iv Q) : am_R E d mX10_whoCould k n 2 [a0, a1, a2, a3, a4, a5] st S iv Q := am_iconst dX10_whoCould_2 (by decide) h
theorem sX10_whoCould_3 {a0 a1 a2 a3 a4 a5 : Value} {x : Int32} (h : am_R E d mX10_whoCould k n 4 [a0, a1, a2, .int x, a4, a5] st S iv Q) : am_R E d mX10_whoCould k n 3 [a0, a1, a2, a3, a4, a5] (.int x :: st) S iv Q := am_istore_n dX10_whoCould_3 rfl (by decide) h
theorem sX10_whoCould_4 {a0 a1 a2 a4 a5 : Value} {x : Int32} (h : am_R E d mX10_whoCould k n 5 [a0, a1, a2, .int x, a4, a5] (.int x :: st) S iv Q) : am_R E d mX10_whoCould k n 4 [a0, a1, a2, .int x, a4, a5] st S iv Q := am_iload_n dX10_whoCould_4 rfl rfl h
theorem sX10_whoCould_5 {a0 a1 a2 a3 a4 a5 : Value} (hv : am_rf a0 = true) (h : am_R E d mX10_whoCould k n 6 [a0, a1, a2, a3, a4, a5] (a0 :: st) S iv Q) : am_R E d mX10_whoCould k n 5 [a0, a1, a2, a3, a4, a5] st S iv Q := am_aload_n dX10_whoCould_5 rfl rfl hv h
theorem sX10_whoCould_6 {ls : List Value} {a b : Nat} (ha : S.1 a = some (.inl 10)) (hb : S.2.1 a 4 = some b) (h : am_R E d mX10_whoCould k n 9 ls (.ref b :: st) S iv Q) : am_R E d mX10_whoCould k n 6 ls (.ref a :: st) S iv Q := am_getR (ci := 10) dX10_whoCould_6 rfl rfl (by decide) wq_772 uq_10 rfl ha hb h
theorem sX10_whoCould_9 {a0 a1 a2 a3 a4 a5 : Value} (h : am_R E d mX10_whoCould k n 10 [a0, a1, a2, a3, a4, a5] (.int 3 :: st) S iv Q) : am_R E d mX10_whoCould k n 9 [a0, a1, a2, a3, a4, a5] st S iv Q := am_iconst dX10_whoCould_9 (by decide) h
theorem sX10_whoCould_10 {ls : List Value} {a m : Nat} {i : Int32} (ha : S.1 a = some (.inr (.int, m))) (hi : vp_in i m) (h : am_R E d mX10_whoCould k n 11 ls (.int (iv a i.toNatClampNeg) :: st) S iv Q) : am_R E d mX10_whoCould k n 10 ls (.int i :: .ref a :: st) S iv Q := am_iaload dX10_whoCould_10 ha hi h
theorem sX10_whoCould_11 {ls : List Value} {x y : Int32} (kt : y ≤ x → am_R E d mX10_whoCould k n 105 ls st S iv Q) (kf : ¬ y ≤ x → am_R E d mX10_whoCould k n 14 ls st S iv Q) : am_R E d mX10_whoCould k n 11 ls (.int y :: .int x :: st) S iv Q := am_icmp_ge dX10_whoCould_11 (by decide) kt kf
theorem sX10_whoCould_14 {a0 a1 a2 a3 a4 a5 : Value} (hv : am_rf a0 = true) (h : am_R E d mX10_whoCould k n 15 [a0, a1, a2, a3, a4, a5] (a0 :: st) S iv Q) : am_R E d mX10_whoCould k n 14 [a0, a1, a2, a3, a4, a5] st S iv Q := am_aload_n dX10_whoCould_14 rfl rfl hv h
theorem sX10_whoCould_15 {ls : List Value} {a b : Nat} (ha : S.1 a = some (.inl 10)) (hb : S.2.1 a 10 = some b) (h : am_R E d mX10_whoCould k n 18 ls (.ref b :: st) S iv Q) : am_R E d mX10_whoCould k n 15 ls (.ref a :: st) S iv Q := am_getR (ci := 10) dX10_whoCould_15 rfl rfl (by decide) wq_778 uq_10 rfl ha hb h
theorem sX10_whoCould_18 {a0 a1 a2 a4 a5 : Value} {x : Int32} (h : am_R E d mX10_whoCould k n 19 [a0, a1, a2, .int x, a4, a5] (.int x :: st) S iv Q) : am_R E d mX10_whoCould k n 18 [a0, a1, a2, .int x, a4, a5] st S iv Q := am_iload_n dX10_whoCould_18 rfl rfl h
theorem sX10_whoCould_19 {ls : List Value} {a m : Nat} {i : Int32} (ha : S.1 a = some (.inr (.int, m))) (hi : vp_in i m) (h : am_R E d mX10_whoCould k n 20 ls (.int (iv a i.toNatClampNeg) :: st) S iv Q) : am_R E d mX10_whoCould k n 19 ls (.int i :: .ref a :: st) S iv Q := am_iaload dX10_whoCould_19 ha hi h
theorem sX10_whoCould_20 {a0 a1 a2 a3 a4 a5 : Value} {x : Int32} (h : am_R E d mX10_whoCould k n 22 [a0, a1, a2, a3, .int x, a5] st S iv Q) : am_R E d mX10_whoCould k n 20 [a0, a1, a2, a3, a4, a5] (.int x :: st) S iv Q := am_istore dX10_whoCould_20 (by decide) h
theorem sX10_whoCould_22 {a0 a1 a2 a3 a5 : Value} {x : Int32} (h : am_R E d mX10_whoCould k n 24 [a0, a1, a2, a3, .int x, a5] (.int x :: st) S iv Q) : am_R E d mX10_whoCould k n 22 [a0, a1, a2, a3, .int x, a5] st S iv Q := am_iload dX10_whoCould_22 rfl h
theorem sX10_whoCould_24 {a0 a2 a3 a4 a5 : Value} {x : Int32} (h : am_R E d mX10_whoCould k n 25 [a0, .int x, a2, a3, a4, a5] (.int x :: st) S iv Q) : am_R E d mX10_whoCould k n 24 [a0, .int x, a2, a3, a4, a5] st S iv Q := am_iload_n dX10_whoCould_24 rfl rfl h
theorem sX10_whoCould_25 {ls : List Value} {x y : Int32} (kt : x = y → am_R E d mX10_whoCould k n 81 ls st S iv Q) (kf : ¬ x = y → am_R E d mX10_whoCould k n 28 ls st S iv Q) : am_R E d mX10_whoCould k n 25 ls (.int y :: .int x :: st) S iv Q := am_icmp_eq dX10_whoCould_25 (by decide) kt kf
theorem sX10_whoCould_28 {a0 a1 a2 a3 a4 a5 : Value} (hv : am_rf a0 = true) (h : am_R E d mX10_whoCould k n 29 [a0, a1, a2, a3, a4, a5] (a0 :: st) S iv Q) : am_R E d mX10_whoCould k n 28 [a0, a1, a2, a3, a4, a5] st S iv Q := am_aload_n dX10_whoCould_28 rfl rfl hv h
theorem sX10_whoCould_29 {ls : List Value} {a : Nat} (ha : S.1 a = some (.inl 10)) (h : am_R E d mX10_whoCould k n 32 ls (.int (iv a 29) :: st) S iv Q) : am_R E d mX10_whoCould k n 29 ls (.ref a :: st) S iv Q := am_getI (ci := 10) dX10_whoCould_29 rfl rfl (by decide) wq_972 uq_10 rfl ha h
theorem sX10_whoCould_32 {a0 a1 a2 a3 a5 : Value} {x : Int32} (h : am_R E d mX10_whoCould k n 34 [a0, a1, a2, a3, .int x, a5] (.int x :: st) S iv Q) : am_R E d mX10_whoCould k n 32 [a0, a1, a2, a3, .int x, a5] st S iv Q := am_iload dX10_whoCould_32 rfl h
theorem sX10_whoCould_34 {ls : List Value} {x1 x2 : Value} (hst : (st.map fun v => v.category).sum ≤ 8) (hM : am_M E d mX10_has 0 0 [x1, x2] S iv (am_K3 E (d + 1) mX10_whoCould k n 34 ls st Q)) : am_R E (d + 1) mX10_whoCould k n 34 ls (x2 :: x1 :: st) S iv Q := am_cS (M' := mX10_has) (as := [x1, x2]) dX10_whoCould_34 rfl wq_987 wq_988 wq_808 wq_985 hy_X10_has (by decide) hst (by omega) (by omega) hM
theorem sX10_whoCould_34_k {ls : List Value} {x1 x2 : Value} {k' n' : Nat} (hst : (st.map fun v => v.category).sum ≤ 8) (hM : am_M E d mX10_has k' n' [x1, x2] S iv (am_K3 E (d + 1) mX10_whoCould k n 34 ls st Q)) : am_R E (d + 1) mX10_whoCould (k' + k) (n' + n) 34 ls (x2 :: x1 :: st) S iv Q := am_cS (M' := mX10_has) (as := [x1, x2]) dX10_whoCould_34 rfl wq_987 wq_988 wq_808 wq_985 hy_X10_has (by decide) hst (by omega) (by omega) hM
theorem sX10_whoCould_37 {ls : List Value} {x : Int32} (kt : x = 0 → am_R E d mX10_whoCould k n 81 ls st S iv Q) (kf : ¬ x = 0 → am_R E d mX10_whoCould k n 40 ls st S iv Q) : am_R E d mX10_whoCould k n 37 ls (.int x :: st) S iv Q := am_if_eq dX10_whoCould_37 (by decide) kt kf
theorem sX10_whoCould_40 {a0 a1 a2 a3 a4 a5 : Value} (hv : am_rf a0 = true) (h : am_R E d mX10_whoCould k n 41 [a0, a1, a2, a3, a4, a5] (a0 :: st) S iv Q) : am_R E d mX10_whoCould k n 40 [a0, a1, a2, a3, a4, a5] st S iv Q := am_aload_n dX10_whoCould_40 rfl rfl hv h
theorem sX10_whoCould_41 {ls : List Value} {a b : Nat} (ha : S.1 a = some (.inl 10)) (hb : S.2.1 a 7 = some b) (h : am_R E d mX10_whoCould k n 44 ls (.ref b :: st) S iv Q) : am_R E d mX10_whoCould k n 41 ls (.ref a :: st) S iv Q := am_getR (ci := 10) dX10_whoCould_41 rfl rfl (by decide) wq_775 uq_10 rfl ha hb h
theorem sX10_whoCould_44 {a0 a1 a2 a3 a5 : Value} {x : Int32} (h : am_R E d mX10_whoCould k n 46 [a0, a1, a2, a3, .int x, a5] (.int x :: st) S iv Q) : am_R E d mX10_whoCould k n 44 [a0, a1, a2, a3, .int x, a5] st S iv Q := am_iload dX10_whoCould_44 rfl h
theorem sX10_whoCould_46 {ls : List Value} {a m : Nat} {i : Int32} (ha : S.1 a = some (.inr (.int, m))) (hi : vp_in i m) (h : am_R E d mX10_whoCould k n 47 ls (.int (iv a i.toNatClampNeg) :: st) S iv Q) : am_R E d mX10_whoCould k n 46 ls (.int i :: .ref a :: st) S iv Q := am_iaload dX10_whoCould_46 ha hi h
theorem sX10_whoCould_47 {a0 a1 a2 a3 a4 a5 : Value} (hv : am_rf a0 = true) (h : am_R E d mX10_whoCould k n 48 [a0, a1, a2, a3, a4, a5] (a0 :: st) S iv Q) : am_R E d mX10_whoCould k n 47 [a0, a1, a2, a3, a4, a5] st S iv Q := am_aload_n dX10_whoCould_47 rfl rfl hv h
theorem sX10_whoCould_48 {ls : List Value} {a b : Nat} (ha : S.1 a = some (.inl 10)) (hb : S.2.1 a 7 = some b) (h : am_R E d mX10_whoCould k n 51 ls (.ref b :: st) S iv Q) : am_R E d mX10_whoCould k n 48 ls (.ref a :: st) S iv Q := am_getR (ci := 10) dX10_whoCould_48 rfl rfl (by decide) wq_775 uq_10 rfl ha hb h
theorem sX10_whoCould_51 {a0 a2 a3 a4 a5 : Value} {x : Int32} (h : am_R E d mX10_whoCould k n 52 [a0, .int x, a2, a3, a4, a5] (.int x :: st) S iv Q) : am_R E d mX10_whoCould k n 51 [a0, .int x, a2, a3, a4, a5] st S iv Q := am_iload_n dX10_whoCould_51 rfl rfl h
theorem sX10_whoCould_52 {ls : List Value} {a m : Nat} {i : Int32} (ha : S.1 a = some (.inr (.int, m))) (hi : vp_in i m) (h : am_R E d mX10_whoCould k n 53 ls (.int (iv a i.toNatClampNeg) :: st) S iv Q) : am_R E d mX10_whoCould k n 52 ls (.int i :: .ref a :: st) S iv Q := am_iaload dX10_whoCould_52 ha hi h
theorem sX10_whoCould_53 {ls : List Value} {x y : Int32} (h : am_R E d mX10_whoCould k n 54 ls (.int (x - y) :: st) S iv Q) : am_R E d mX10_whoCould k n 53 ls (.int y :: .int x :: st) S iv Q := am_isub dX10_whoCould_53 h
theorem sX10_whoCould_54 {ls : List Value} {x1 : Value} (hst : (st.map fun v => v.category).sum ≤ 8) (hM : am_M E d mJ9_abs_0f7a4 0 0 [x1] S iv (am_K3 E (d + 1) mX10_whoCould k n 54 ls st Q)) : am_R E (d + 1) mX10_whoCould k n 54 ls (x1 :: st) S iv Q := am_cS (M' := mJ9_abs_0f7a4) (as := [x1]) dX10_whoCould_54 rfl wq_1090 wq_231 wq_50 wq_228 hy_J9_abs_0f7a4 (by decide) hst (by omega) (by omega) hM
theorem sX10_whoCould_54_k {ls : List Value} {x1 : Value} {k' n' : Nat} (hst : (st.map fun v => v.category).sum ≤ 8) (hM : am_M E d mJ9_abs_0f7a4 k' n' [x1] S iv (am_K3 E (d + 1) mX10_whoCould k n 54 ls st Q)) : am_R E (d + 1) mX10_whoCould (k' + k) (n' + n) 54 ls (x1 :: st) S iv Q := am_cS (M' := mJ9_abs_0f7a4) (as := [x1]) dX10_whoCould_54 rfl wq_1090 wq_231 wq_50 wq_228 hy_J9_abs_0f7a4 (by decide) hst (by omega) (by omega) hM
theorem sX10_whoCould_57 {a0 a1 a2 a3 a4 a5 : Value} (hv : am_rf a0 = true) (h : am_R E d mX10_whoCould k n 58 [a0, a1, a2, a3, a4, a5] (a0 :: st) S iv Q) : am_R E d mX10_whoCould k n 57 [a0, a1, a2, a3, a4, a5] st S iv Q := am_aload_n dX10_whoCould_57 rfl rfl hv h
theorem sX10_whoCould_58 {ls : List Value} {a b : Nat} (ha : S.1 a = some (.inl 10)) (hb : S.2.1 a 4 = some b) (h : am_R E d mX10_whoCould k n 61 ls (.ref b :: st) S iv Q) : am_R E d mX10_whoCould k n 58 ls (.ref a :: st) S iv Q := am_getR (ci := 10) dX10_whoCould_58 rfl rfl (by decide) wq_772 uq_10 rfl ha hb h
theorem sX10_whoCould_61 {a0 a1 a2 a3 a4 a5 : Value} (h : am_R E d mX10_whoCould k n 62 [a0, a1, a2, a3, a4, a5] (.int 4 :: st) S iv Q) : am_R E d mX10_whoCould k n 61 [a0, a1, a2, a3, a4, a5] st S iv Q := am_iconst dX10_whoCould_61 (by decide) h
theorem sX10_whoCould_62 {ls : List Value} {a m : Nat} {i : Int32} (ha : S.1 a = some (.inr (.int, m))) (hi : vp_in i m) (h : am_R E d mX10_whoCould k n 63 ls (.int (iv a i.toNatClampNeg) :: st) S iv Q) : am_R E d mX10_whoCould k n 62 ls (.int i :: .ref a :: st) S iv Q := am_iaload dX10_whoCould_62 ha hi h
theorem sX10_whoCould_63 {ls : List Value} {x y : Int32} (kt : y < x → am_R E d mX10_whoCould k n 81 ls st S iv Q) (kf : ¬ y < x → am_R E d mX10_whoCould k n 66 ls st S iv Q) : am_R E d mX10_whoCould k n 63 ls (.int y :: .int x :: st) S iv Q := am_icmp_gt dX10_whoCould_63 (by decide) kt kf
theorem sX10_whoCould_66 {a0 a1 a2 a3 a4 a5 : Value} (hv : am_rf a0 = true) (h : am_R E d mX10_whoCould k n 67 [a0, a1, a2, a3, a4, a5] (a0 :: st) S iv Q) : am_R E d mX10_whoCould k n 66 [a0, a1, a2, a3, a4, a5] st S iv Q := am_aload_n dX10_whoCould_66 rfl rfl hv h
theorem sX10_whoCould_67 {a0 a1 a2 a3 a5 : Value} {x : Int32} (h : am_R E d mX10_whoCould k n 69 [a0, a1, a2, a3, .int x, a5] (.int x :: st) S iv Q) : am_R E d mX10_whoCould k n 67 [a0, a1, a2, a3, .int x, a5] st S iv Q := am_iload dX10_whoCould_67 rfl h
theorem sX10_whoCould_69 {a0 a2 a3 a4 a5 : Value} {x : Int32} (h : am_R E d mX10_whoCould k n 70 [a0, .int x, a2, a3, a4, a5] (.int x :: st) S iv Q) : am_R E d mX10_whoCould k n 69 [a0, .int x, a2, a3, a4, a5] st S iv Q := am_iload_n dX10_whoCould_69 rfl rfl h
theorem sX10_whoCould_70 {ls : List Value} {x1 x2 : Value} {a : Nat} (ha : S.1 a = some (.inl 10)) (hst : (st.map fun v => v.category).sum ≤ 8) (hM : am_M E d mX10_columnsApart 0 0 [.ref a, x1, x2] S iv (am_K3 E (d + 1) mX10_whoCould k n 70 ls st Q)) : am_R E (d + 1) mX10_whoCould k n 70 ls (x2 :: x1 :: .ref a :: st) S iv Q := am_cV (ci := 10) (M' := mX10_columnsApart) (as := [x1, x2]) dX10_whoCould_70 rfl rfl rfl wq_1111 wq_1112 wq_1113 wq_808 wq_1109 hy_X10_columnsApart (by decide) ha hst (by omega) (by omega) hM
theorem sX10_whoCould_70_k {ls : List Value} {x1 x2 : Value} {k' n' : Nat} {a : Nat} (ha : S.1 a = some (.inl 10)) (hst : (st.map fun v => v.category).sum ≤ 8) (hM : am_M E d mX10_columnsApart k' n' [.ref a, x1, x2] S iv (am_K3 E (d + 1) mX10_whoCould k n 70 ls st Q)) : am_R E (d + 1) mX10_whoCould (k' + k) (n' + n) 70 ls (x2 :: x1 :: .ref a :: st) S iv Q := am_cV (ci := 10) (M' := mX10_columnsApart) (as := [x1, x2]) dX10_whoCould_70 rfl rfl rfl wq_1111 wq_1112 wq_1113 wq_808 wq_1109 hy_X10_columnsApart (by decide) ha hst (by omega) (by omega) hM
theorem sX10_whoCould_73 {a0 a1 a2 a3 a4 a5 : Value} (h : am_R E d mX10_whoCould k n 74 [a0, a1, a2, a3, a4, a5] (.int 1 :: st) S iv Q) : am_R E d mX10_whoCould k n 73 [a0, a1, a2, a3, a4, a5] st S iv Q := am_iconst dX10_whoCould_73 (by decide) h
theorem sX10_whoCould_74 {ls : List Value} {x y : Int32} (kt : y < x → am_R E d mX10_whoCould k n 81 ls st S iv Q) (kf : ¬ y < x → am_R E d mX10_whoCould k n 77 ls st S iv Q) : am_R E d mX10_whoCould k n 74 ls (.int y :: .int x :: st) S iv Q := am_icmp_gt dX10_whoCould_74 (by decide) kt kf
theorem sX10_whoCould_77 {a0 a1 a2 a3 a4 a5 : Value} (h : am_R E d mX10_whoCould k n 78 [a0, a1, a2, a3, a4, a5] (.int 1 :: st) S iv Q) : am_R E d mX10_whoCould k n 77 [a0, a1, a2, a3, a4, a5] st S iv Q := am_iconst dX10_whoCould_77 (by decide) h
theorem sX10_whoCould_78 {ls : List Value} (h : am_R E d mX10_whoCould k n 82 ls st S iv Q) : am_R E d mX10_whoCould k n 78 ls st S iv Q := am_goto dX10_whoCould_78 (by decide) h
theorem sX10_whoCould_81 {a0 a1 a2 a3 a4 a5 : Value} (h : am_R E d mX10_whoCould k n 82 [a0, a1, a2, a3, a4, a5] (.int 0 :: st) S iv Q) : am_R E d mX10_whoCould k n 81 [a0, a1, a2, a3, a4, a5] st S iv Q := am_iconst dX10_whoCould_81 (by decide) h
theorem sX10_whoCould_82 {a0 a1 a2 a3 a4 a5 : Value} {x : Int32} (h : am_R E d mX10_whoCould k n 84 [a0, a1, a2, a3, a4, .int x] st S iv Q) : am_R E d mX10_whoCould k n 82 [a0, a1, a2, a3, a4, a5] (.int x :: st) S iv Q := am_istore dX10_whoCould_82 (by decide) h
theorem sX10_whoCould_84 {a0 a1 a3 a4 a5 : Value} {x : Int32} (h : am_R E d mX10_whoCould k n 85 [a0, a1, .int x, a3, a4, a5] (.int x :: st) S iv Q) : am_R E d mX10_whoCould k n 84 [a0, a1, .int x, a3, a4, a5] st S iv Q := am_iload_n dX10_whoCould_84 rfl rfl h
theorem sX10_whoCould_85 {a0 a1 a2 a3 a4 : Value} {x : Int32} (h : am_R E d mX10_whoCould k n 87 [a0, a1, a2, a3, a4, .int x] (.int x :: st) S iv Q) : am_R E d mX10_whoCould k n 85 [a0, a1, a2, a3, a4, .int x] st S iv Q := am_iload dX10_whoCould_85 rfl h
theorem sX10_whoCould_87 {ls : List Value} {x : Int32} (kt : x = 0 → am_R E d mX10_whoCould k n 96 ls st S iv Q) (kf : ¬ x = 0 → am_R E d mX10_whoCould k n 90 ls st S iv Q) : am_R E d mX10_whoCould k n 87 ls (.int x :: st) S iv Q := am_if_eq dX10_whoCould_87 (by decide) kt kf
theorem sX10_whoCould_90 {a0 a1 a2 a3 a4 a5 : Value} (h : am_R E d mX10_whoCould k n 91 [a0, a1, a2, a3, a4, a5] (.int 1 :: st) S iv Q) : am_R E d mX10_whoCould k n 90 [a0, a1, a2, a3, a4, a5] st S iv Q := am_iconst dX10_whoCould_90 (by decide) h
theorem sX10_whoCould_91 {a0 a1 a2 a4 a5 : Value} {x : Int32} (h : am_R E d mX10_whoCould k n 92 [a0, a1, a2, .int x, a4, a5] (.int x :: st) S iv Q) : am_R E d mX10_whoCould k n 91 [a0, a1, a2, .int x, a4, a5] st S iv Q := am_iload_n dX10_whoCould_91 rfl rfl h
theorem sX10_whoCould_92 {ls : List Value} {x y : Int32} (h : am_R E d mX10_whoCould k n 93 ls (.int (x <<< (y &&& 31)) :: st) S iv Q) : am_R E d mX10_whoCould k n 92 ls (.int y :: .int x :: st) S iv Q := am_ishl dX10_whoCould_92 h
theorem sX10_whoCould_93 {ls : List Value} (h : am_R E d mX10_whoCould k n 97 ls st S iv Q) : am_R E d mX10_whoCould k n 93 ls st S iv Q := am_goto dX10_whoCould_93 (by decide) h
theorem sX10_whoCould_96 {a0 a1 a2 a3 a4 a5 : Value} (h : am_R E d mX10_whoCould k n 97 [a0, a1, a2, a3, a4, a5] (.int 0 :: st) S iv Q) : am_R E d mX10_whoCould k n 96 [a0, a1, a2, a3, a4, a5] st S iv Q := am_iconst dX10_whoCould_96 (by decide) h
theorem sX10_whoCould_97 {ls : List Value} {x y : Int32} (h : am_R E d mX10_whoCould k n 98 ls (.int (x ||| y) :: st) S iv Q) : am_R E d mX10_whoCould k n 97 ls (.int y :: .int x :: st) S iv Q := am_ior dX10_whoCould_97 h
theorem sX10_whoCould_98 {a0 a1 a2 a3 a4 a5 : Value} {x : Int32} (h : am_R E d mX10_whoCould k n 99 [a0, a1, .int x, a3, a4, a5] st S iv Q) : am_R E d mX10_whoCould k n 98 [a0, a1, a2, a3, a4, a5] (.int x :: st) S iv Q := am_istore_n dX10_whoCould_98 rfl (by decide) h
theorem sX10_whoCould_99 {a0 a1 a2 a4 a5 : Value} {x : Int32} (h : am_R E d mX10_whoCould k n 102 [a0, a1, a2, .int (x + 1), a4, a5] st S iv Q) : am_R E d mX10_whoCould k n 99 [a0, a1, a2, .int x, a4, a5] st S iv Q := am_iinc dX10_whoCould_99 rfl rfl (by decide) h
theorem sX10_whoCould_102 {ls : List Value} (h : am_R E d mX10_whoCould k n 4 ls st S iv Q) : am_R E d mX10_whoCould k n 102 ls st S iv Q := am_goto dX10_whoCould_102 (by decide) h
theorem sX10_whoCould_105 {a0 a1 a3 a4 a5 : Value} {x : Int32} (h : am_R E d mX10_whoCould k n 106 [a0, a1, .int x, a3, a4, a5] (.int x :: st) S iv Q) : am_R E d mX10_whoCould k n 105 [a0, a1, .int x, a3, a4, a5] st S iv Q := am_iload_n dX10_whoCould_105 rfl rfl h
theorem sX10_whoCould_106 {ls : List Value} {x : Int32} (h : Q (.inl (some (.int x))) S iv) : am_R E d mX10_whoCould k n 106 ls [.int x] S iv Q := am_ireturn dX10_whoCould_106 rfl h
theorem dX10_who_0 : decode cX10_who 0 = .ok (.aload_n 0, 1) := by decide +kernel
theorem dX10_who_1 : decode cX10_who 1 = .ok (.iconst 0, 1) := by decide +kernel
theorem dX10_who_2 : decode cX10_who 2 = .ok (.putfield 143, 3) := by decide +kernel
theorem dX10_who_5 : decode cX10_who 5 = .ok (.aload_n 0, 1) := by decide +kernel
theorem dX10_who_6 : decode cX10_who 6 = .ok (.iload_n 1, 1) := by decide +kernel
theorem dX10_who_7 : decode cX10_who 7 = .ok (.invokevirtual 354, 3) := by decide +kernel
theorem dX10_who_10 : decode cX10_who 10 = .ok (.ifCond .ne 11, 3) := by decide +kernel
theorem dX10_who_13 : decode cX10_who 13 = .ok (.aload_n 0, 1) := by decide +kernel
theorem dX10_who_14 : decode cX10_who 14 = .ok (.iconst 1, 1) := by decide +kernel
theorem dX10_who_15 : decode cX10_who 15 = .ok (.invokevirtual 293, 3) := by decide +kernel
theorem dX10_who_18 : decode cX10_who 18 = .ok (.goto 23, 3) := by decide +kernel
theorem dX10_who_21 : decode cX10_who 21 = .ok (.aload_n 0, 1) := by decide +kernel
theorem dX10_who_22 : decode cX10_who 22 = .ok (.getfield 306, 3) := by decide +kernel
theorem dX10_who_25 : decode cX10_who 25 = .ok (.iload_n 1, 1) := by decide +kernel
theorem dX10_who_26 : decode cX10_who 26 = .ok (.invokestatic 328, 3) := by decide +kernel
theorem dX10_who_29 : decode cX10_who 29 = .ok (.ifCond .eq 11, 3) := by decide +kernel
theorem dX10_who_32 : decode cX10_who 32 = .ok (.aload_n 0, 1) := by decide +kernel
theorem dX10_who_33 : decode cX10_who 33 = .ok (.iload_n 1, 1) := by decide +kernel
theorem dX10_who_34 : decode cX10_who 34 = .ok (.invokevirtual 418, 3) := by decide +kernel
theorem dX10_who_37 : decode cX10_who 37 = .ok (.goto 4, 3) := by decide +kernel
theorem dX10_who_40 : decode cX10_who 40 = .ok (.iconst (-1), 1) := by decide +kernel
theorem dX10_who_41 : decode cX10_who 41 = .ok (.ireturn, 1) := by decide +kernel
theorem sX10_who_0 {a0 a1 : Value} (hv : am_rf a0 = true) (h : am_R E d mX10_who k n 1 [a0, a1] (a0 :: st) S iv Q) : am_R E d mX10_who k n 0 [a0, a1] st S iv Q := am_aload_n dX10_who_0 rfl rfl hv h
theorem sX10_who_1 {a0 a1 : Value} (h : am_R E d mX10_who k n 2 [a0, a1] (.int 0 :: st) S iv Q) : am_R E d mX10_who k n 1 [a0, a1] st S iv Q := am_iconst dX10_who_1 (by decide) h
theorem sX10_who_2 {ls : List Value} {a : Nat} {x : Int32} (ha : S.1 a = some (.inl 10)) (h : am_R E d mX10_who k n 5 ls st S (am_w iv a 3 x) Q) : am_R E d mX10_who k n 2 ls (.int x :: .ref a :: st) S iv Q := am_putI (ci := 10) dX10_who_2 rfl rfl (by decide) wq_806 uq_10 tyX10_ok nmX10 (Or.inl rfl) rfl ha h
theorem sX10_who_5 {a0 a1 : Value} (hv : am_rf a0 = true) (h : am_R E d mX10_who k n 6 [a0, a1] (a0 :: st) S iv Q) : am_R E d mX10_who k n 5 [a0, a1] st S iv Q := am_aload_n dX10_who_5 rfl rfl hv h
theorem sX10_who_6 {a0 : Value} {x : Int32} (h : am_R E d mX10_who k n 7 [a0, .int x] (.int x :: st) S iv Q) : am_R E d mX10_who k n 6 [a0, .int x] st S iv Q := am_iload_n dX10_who_6 rfl rfl h
theorem sX10_who_7 {ls : List Value} {x1 : Value} {a : Nat} (ha : S.1 a = some (.inl 10)) (hst : (st.map fun v => v.category).sum ≤ 8) (hM : am_M E d mX10_isDrawer 0 0 [.ref a, x1] S iv (am_K3 E (d + 1) mX10_who k n 7 ls st Q)) : am_R E (d + 1) mX10_who k n 7 ls (x1 :: .ref a :: st) S iv Q := am_cV (ci := 10) (M' := mX10_isDrawer) (as := [x1]) dX10_who_7 rfl rfl rfl wq_1026 wq_1027 wq_1028 wq_808 wq_1024 hy_X10_isDrawer (by decide) ha hst (by omega) (by omega) hM
theorem sX10_who_7_k {ls : List Value} {x1 : Value} {k' n' : Nat} {a : Nat} (ha : S.1 a = some (.inl 10)) (hst : (st.map fun v => v.category).sum ≤ 8) (hM : am_M E d mX10_isDrawer k' n' [.ref a, x1] S iv (am_K3 E (d + 1) mX10_who k n 7 ls st Q)) : am_R E (d + 1) mX10_who (k' + k) (n' + n) 7 ls (x1 :: .ref a :: st) S iv Q := am_cV (ci := 10) (M' := mX10_isDrawer) (as := [x1]) dX10_who_7 rfl rfl rfl wq_1026 wq_1027 wq_1028 wq_808 wq_1024 hy_X10_isDrawer (by decide) ha hst (by omega) (by omega) hM
theorem sX10_who_10 {ls : List Value} {x : Int32} (kt : ¬ x = 0 → am_R E d mX10_who k n 21 ls st S iv Q) (kf : x = 0 → am_R E d mX10_who k n 13 ls st S iv Q) : am_R E d mX10_who k n 10 ls (.int x :: st) S iv Q := am_if_ne dX10_who_10 (by decide) kt kf
theorem sX10_who_13 {a0 a1 : Value} (hv : am_rf a0 = true) (h : am_R E d mX10_who k n 14 [a0, a1] (a0 :: st) S iv Q) : am_R E d mX10_who k n 13 [a0, a1] st S iv Q := am_aload_n dX10_who_13 rfl rfl hv h
theorem sX10_who_14 {a0 a1 : Value} (h : am_R E d mX10_who k n 15 [a0, a1] (.int 1 :: st) S iv Q) : am_R E d mX10_who k n 14 [a0, a1] st S iv Q := am_iconst dX10_who_14 (by decide) h
theorem sX10_who_15 {ls : List Value} {x1 : Value} {a : Nat} (ha : S.1 a = some (.inl 10)) (hst : (st.map fun v => v.category).sum ≤ 8) (hM : am_M E d mX10_fail 0 0 [.ref a, x1] S iv (am_K3 E (d + 1) mX10_who k n 15 ls st Q)) : am_R E (d + 1) mX10_who k n 15 ls (x1 :: .ref a :: st) S iv Q := am_cV (ci := 10) (M' := mX10_fail) (as := [x1]) dX10_who_15 rfl rfl rfl wq_955 wq_956 wq_957 wq_808 wq_953 hy_X10_fail (by decide) ha hst (by omega) (by omega) hM
theorem sX10_who_15_k {ls : List Value} {x1 : Value} {k' n' : Nat} {a : Nat} (ha : S.1 a = some (.inl 10)) (hst : (st.map fun v => v.category).sum ≤ 8) (hM : am_M E d mX10_fail k' n' [.ref a, x1] S iv (am_K3 E (d + 1) mX10_who k n 15 ls st Q)) : am_R E (d + 1) mX10_who (k' + k) (n' + n) 15 ls (x1 :: .ref a :: st) S iv Q := am_cV (ci := 10) (M' := mX10_fail) (as := [x1]) dX10_who_15 rfl rfl rfl wq_955 wq_956 wq_957 wq_808 wq_953 hy_X10_fail (by decide) ha hst (by omega) (by omega) hM
theorem sX10_who_18 {ls : List Value} (h : am_R E d mX10_who k n 41 ls st S iv Q) : am_R E d mX10_who k n 18 ls st S iv Q := am_goto dX10_who_18 (by decide) h
theorem sX10_who_21 {a0 a1 : Value} (hv : am_rf a0 = true) (h : am_R E d mX10_who k n 22 [a0, a1] (a0 :: st) S iv Q) : am_R E d mX10_who k n 21 [a0, a1] st S iv Q := am_aload_n dX10_who_21 rfl rfl hv h
theorem sX10_who_22 {ls : List Value} {a : Nat} (ha : S.1 a = some (.inl 10)) (h : am_R E d mX10_who k n 25 ls (.int (iv a 29) :: st) S iv Q) : am_R E d mX10_who k n 22 ls (.ref a :: st) S iv Q := am_getI (ci := 10) dX10_who_22 rfl rfl (by decide) wq_972 uq_10 rfl ha h
theorem sX10_who_25 {a0 : Value} {x : Int32} (h : am_R E d mX10_who k n 26 [a0, .int x] (.int x :: st) S iv Q) : am_R E d mX10_who k n 25 [a0, .int x] st S iv Q := am_iload_n dX10_who_25 rfl rfl h
theorem sX10_who_26 {ls : List Value} {x1 x2 : Value} (hst : (st.map fun v => v.category).sum ≤ 8) (hM : am_M E d mX10_has 0 0 [x1, x2] S iv (am_K3 E (d + 1) mX10_who k n 26 ls st Q)) : am_R E (d + 1) mX10_who k n 26 ls (x2 :: x1 :: st) S iv Q := am_cS (M' := mX10_has) (as := [x1, x2]) dX10_who_26 rfl wq_987 wq_988 wq_808 wq_985 hy_X10_has (by decide) hst (by omega) (by omega) hM
theorem sX10_who_26_k {ls : List Value} {x1 x2 : Value} {k' n' : Nat} (hst : (st.map fun v => v.category).sum ≤ 8) (hM : am_M E d mX10_has k' n' [x1, x2] S iv (am_K3 E (d + 1) mX10_who k n 26 ls st Q)) : am_R E (d + 1) mX10_who (k' + k) (n' + n) 26 ls (x2 :: x1 :: st) S iv Q := am_cS (M' := mX10_has) (as := [x1, x2]) dX10_who_26 rfl wq_987 wq_988 wq_808 wq_985 hy_X10_has (by decide) hst (by omega) (by omega) hM
theorem sX10_who_29 {ls : List Value} {x : Int32} (kt : x = 0 → am_R E d mX10_who k n 40 ls st S iv Q) (kf : ¬ x = 0 → am_R E d mX10_who k n 32 ls st S iv Q) : am_R E d mX10_who k n 29 ls (.int x :: st) S iv Q := am_if_eq dX10_who_29 (by decide) kt kf
theorem sX10_who_32 {a0 a1 : Value} (hv : am_rf a0 = true) (h : am_R E d mX10_who k n 33 [a0, a1] (a0 :: st) S iv Q) : am_R E d mX10_who k n 32 [a0, a1] st S iv Q := am_aload_n dX10_who_32 rfl rfl hv h
theorem sX10_who_33 {a0 : Value} {x : Int32} (h : am_R E d mX10_who k n 34 [a0, .int x] (.int x :: st) S iv Q) : am_R E d mX10_who k n 33 [a0, .int x] st S iv Q := am_iload_n dX10_who_33 rfl rfl h
theorem sX10_who_34 {ls : List Value} {x1 : Value} {a : Nat} (ha : S.1 a = some (.inl 10)) (hst : (st.map fun v => v.category).sum ≤ 8) (hM : am_M E d mX10_whoCould 0 0 [.ref a, x1] S iv (am_K3 E (d + 1) mX10_who k n 34 ls st Q)) : am_R E (d + 1) mX10_who k n 34 ls (x1 :: .ref a :: st) S iv Q := am_cV (ci := 10) (M' := mX10_whoCould) (as := [x1]) dX10_who_34 rfl rfl rfl wq_1116 wq_1117 wq_1118 wq_808 wq_1114 hy_X10_whoCould (by decide) ha hst (by omega) (by omega) hM
theorem sX10_who_34_k {ls : List Value} {x1 : Value} {k' n' : Nat} {a : Nat} (ha : S.1 a = some (.inl 10)) (hst : (st.map fun v => v.category).sum ≤ 8) (hM : am_M E d mX10_whoCould k' n' [.ref a, x1] S iv (am_K3 E (d + 1) mX10_who k n 34 ls st Q)) : am_R E (d + 1) mX10_who (k' + k) (n' + n) 34 ls (x1 :: .ref a :: st) S iv Q := am_cV (ci := 10) (M' := mX10_whoCould) (as := [x1]) dX10_who_34 rfl rfl rfl wq_1116 wq_1117 wq_1118 wq_808 wq_1114 hy_X10_whoCould (by decide) ha hst (by omega) (by omega) hM
theorem sX10_who_37 {ls : List Value} (h : am_R E d mX10_who k n 41 ls st S iv Q) : am_R E d mX10_who k n 37 ls st S iv Q := am_goto dX10_who_37 (by decide) h
theorem sX10_who_40 {a0 a1 : Value} (h : am_R E d mX10_who k n 41 [a0, a1] (.int (-1) :: st) S iv Q) : am_R E d mX10_who k n 40 [a0, a1] st S iv Q := am_iconst dX10_who_40 (by decide) h
theorem sX10_who_41 {ls : List Value} {x : Int32} (h : Q (.inl (some (.int x))) S iv) : am_R E d mX10_who k n 41 ls [.int x] S iv Q := am_ireturn dX10_who_41 rfl h
theorem dX10_common_0 : decode cX10_common 0 = .ok (.iload_n 0, 1) := by decide +kernel
theorem dX10_common_1 : decode cX10_common 1 = .ok (.istore_n 2, 1) := by decide +kernel
theorem dX10_common_2 : decode cX10_common 2 = .ok (.iload_n 1, 1) := by decide +kernel
theorem dX10_common_3 : decode cX10_common 3 = .ok (.istore_n 3, 1) := by decide +kernel
theorem dX10_common_4 : decode cX10_common 4 = .ok (.iload_n 3, 1) := by decide +kernel
theorem dX10_common_5 : decode cX10_common 5 = .ok (.ifCond .eq 16, 3) := by decide +kernel
theorem dX10_common_8 : decode cX10_common 8 = .ok (.iload_n 2, 1) := by decide +kernel
theorem dX10_common_9 : decode cX10_common 9 = .ok (.iload_n 3, 1) := by decide +kernel
theorem dX10_common_10 : decode cX10_common 10 = .ok (.irem, 1) := by decide +kernel
theorem dX10_common_11 : decode cX10_common 11 = .ok (.istore 4, 2) := by decide +kernel
theorem dX10_common_13 : decode cX10_common 13 = .ok (.iload_n 3, 1) := by decide +kernel
theorem dX10_common_14 : decode cX10_common 14 = .ok (.istore_n 2, 1) := by decide +kernel
theorem dX10_common_15 : decode cX10_common 15 = .ok (.iload 4, 2) := by decide +kernel
theorem dX10_common_17 : decode cX10_common 17 = .ok (.istore_n 3, 1) := by decide +kernel
theorem dX10_common_18 : decode cX10_common 18 = .ok (.goto (-14), 3) := by decide +kernel
theorem dX10_common_21 : decode cX10_common 21 = .ok (.iload_n 2, 1) := by decide +kernel
theorem dX10_common_22 : decode cX10_common 22 = .ok (.ireturn, 1) := by decide +kernel
theorem sX10_common_0 {a1 a2 a3 a4 : Value} {x : Int32} (h : am_R E d mX10_common k n 1 [.int x, a1, a2, a3, a4] (.int x :: st) S iv Q) : am_R E d mX10_common k n 0 [.int x, a1, a2, a3, a4] st S iv Q := am_iload_n dX10_common_0 rfl rfl h
theorem sX10_common_1 {a0 a1 a2 a3 a4 : Value} {x : Int32} (h : am_R E d mX10_common k n 2 [a0, a1, .int x, a3, a4] st S iv Q) : am_R E d mX10_common k n 1 [a0, a1, a2, a3, a4] (.int x :: st) S iv Q := am_istore_n dX10_common_1 rfl (by decide) h
theorem sX10_common_2 {a0 a2 a3 a4 : Value} {x : Int32} (h : am_R E d mX10_common k n 3 [a0, .int x, a2, a3, a4] (.int x :: st) S iv Q) : am_R E d mX10_common k n 2 [a0, .int x, a2, a3, a4] st S iv Q := am_iload_n dX10_common_2 rfl rfl h
theorem sX10_common_3 {a0 a1 a2 a3 a4 : Value} {x : Int32} (h : am_R E d mX10_common k n 4 [a0, a1, a2, .int x, a4] st S iv Q) : am_R E d mX10_common k n 3 [a0, a1, a2, a3, a4] (.int x :: st) S iv Q := am_istore_n dX10_common_3 rfl (by decide) h
theorem sX10_common_4 {a0 a1 a2 a4 : Value} {x : Int32} (h : am_R E d mX10_common k n 5 [a0, a1, a2, .int x, a4] (.int x :: st) S iv Q) : am_R E d mX10_common k n 4 [a0, a1, a2, .int x, a4] st S iv Q := am_iload_n dX10_common_4 rfl rfl h
theorem sX10_common_5 {ls : List Value} {x : Int32} (kt : x = 0 → am_R E d mX10_common k n 21 ls st S iv Q) (kf : ¬ x = 0 → am_R E d mX10_common k n 8 ls st S iv Q) : am_R E d mX10_common k n 5 ls (.int x :: st) S iv Q := am_if_eq dX10_common_5 (by decide) kt kf
theorem sX10_common_8 {a0 a1 a3 a4 : Value} {x : Int32} (h : am_R E d mX10_common k n 9 [a0, a1, .int x, a3, a4] (.int x :: st) S iv Q) : am_R E d mX10_common k n 8 [a0, a1, .int x, a3, a4] st S iv Q := am_iload_n dX10_common_8 rfl rfl h
theorem sX10_common_9 {a0 a1 a2 a4 : Value} {x : Int32} (h : am_R E d mX10_common k n 10 [a0, a1, a2, .int x, a4] (.int x :: st) S iv Q) : am_R E d mX10_common k n 9 [a0, a1, a2, .int x, a4] st S iv Q := am_iload_n dX10_common_9 rfl rfl h
theorem sX10_common_10 {ls : List Value} {x y : Int32} (hy : ¬ y = 0) (h : am_R E d mX10_common k n 11 ls (.int (x - x / y * y) :: st) S iv Q) : am_R E d mX10_common k n 10 ls (.int y :: .int x :: st) S iv Q := am_irem dX10_common_10 hy h
theorem sX10_common_11 {a0 a1 a2 a3 a4 : Value} {x : Int32} (h : am_R E d mX10_common k n 13 [a0, a1, a2, a3, .int x] st S iv Q) : am_R E d mX10_common k n 11 [a0, a1, a2, a3, a4] (.int x :: st) S iv Q := am_istore dX10_common_11 (by decide) h
theorem sX10_common_13 {a0 a1 a2 a4 : Value} {x : Int32} (h : am_R E d mX10_common k n 14 [a0, a1, a2, .int x, a4] (.int x :: st) S iv Q) : am_R E d mX10_common k n 13 [a0, a1, a2, .int x, a4] st S iv Q := am_iload_n dX10_common_13 rfl rfl h
theorem sX10_common_14 {a0 a1 a2 a3 a4 : Value} {x : Int32} (h : am_R E d mX10_common k n 15 [a0, a1, .int x, a3, a4] st S iv Q) : am_R E d mX10_common k n 14 [a0, a1, a2, a3, a4] (.int x :: st) S iv Q := am_istore_n dX10_common_14 rfl (by decide) h
theorem sX10_common_15 {a0 a1 a2 a3 : Value} {x : Int32} (h : am_R E d mX10_common k n 17 [a0, a1, a2, a3, .int x] (.int x :: st) S iv Q) : am_R E d mX10_common k n 15 [a0, a1, a2, a3, .int x] st S iv Q := am_iload dX10_common_15 rfl h
theorem sX10_common_17 {a0 a1 a2 a3 a4 : Value} {x : Int32} (h : am_R E d mX10_common k n 18 [a0, a1, a2, .int x, a4] st S iv Q) : am_R E d mX10_common k n 17 [a0, a1, a2, a3, a4] (.int x :: st) S iv Q := am_istore_n dX10_common_17 rfl (by decide) h
theorem sX10_common_18 {ls : List Value} (h : am_R E d mX10_common k n 4 ls st S iv Q) : am_R E d mX10_common k n 18 ls st S iv Q := am_goto dX10_common_18 (by decide) h
theorem sX10_common_21 {a0 a1 a3 a4 : Value} {x : Int32} (h : am_R E d mX10_common k n 22 [a0, a1, .int x, a3, a4] (.int x :: st) S iv Q) : am_R E d mX10_common k n 21 [a0, a1, .int x, a3, a4] st S iv Q := am_iload_n dX10_common_21 rfl rfl h
theorem sX10_common_22 {ls : List Value} {x : Int32} (h : Q (.inl (some (.int x))) S iv) : am_R E d mX10_common k n 22 ls [.int x] S iv Q := am_ireturn dX10_common_22 rfl h
theorem dX10_odds_0 : decode cX10_odds 0 = .ok (.aload_n 0, 1) := by decide +kernel
theorem dX10_odds_1 : decode cX10_odds 1 = .ok (.iconst 0, 1) := by decide +kernel
theorem dX10_odds_2 : decode cX10_odds 2 = .ok (.putfield 143, 3) := by decide +kernel
theorem dX10_odds_5 : decode cX10_odds 5 = .ok (.aload_n 0, 1) := by decide +kernel
theorem dX10_odds_6 : decode cX10_odds 6 = .ok (.iload_n 1, 1) := by decide +kernel
theorem dX10_odds_7 : decode cX10_odds 7 = .ok (.invokevirtual 354, 3) := by decide +kernel
theorem dX10_odds_10 : decode cX10_odds 10 = .ok (.ifCond .eq 20, 3) := by decide +kernel
theorem dX10_odds_13 : decode cX10_odds 13 = .ok (.aload_n 0, 1) := by decide +kernel
theorem dX10_odds_14 : decode cX10_odds 14 = .ok (.iload_n 2, 1) := by decide +kernel
theorem dX10_odds_15 : decode cX10_odds 15 = .ok (.invokevirtual 363, 3) := by decide +kernel
theorem dX10_odds_18 : decode cX10_odds 18 = .ok (.ifCond .eq 12, 3) := by decide +kernel
theorem dX10_odds_21 : decode cX10_odds 21 = .ok (.iload_n 3, 1) := by decide +kernel
theorem dX10_odds_22 : decode cX10_odds 22 = .ok (.ifCond .lt 8, 3) := by decide +kernel
theorem dX10_odds_25 : decode cX10_odds 25 = .ok (.iload_n 3, 1) := by decide +kernel
theorem dX10_odds_26 : decode cX10_odds 26 = .ok (.iconst 1, 1) := by decide +kernel
theorem dX10_odds_27 : decode cX10_odds 27 = .ok (.if_icmp .le 9, 3) := by decide +kernel
theorem dX10_odds_30 : decode cX10_odds 30 = .ok (.aload_n 0, 1) := by decide +kernel
theorem dX10_odds_31 : decode cX10_odds 31 = .ok (.iconst 1, 1) := by decide +kernel
theorem dX10_odds_32 : decode cX10_odds 32 = .ok (.invokevirtual 293, 3) := by decide +kernel
theorem dX10_odds_35 : decode cX10_odds 35 = .ok (.ireturn, 1) := by decide +kernel
theorem dX10_odds_36 : decode cX10_odds 36 = .ok (.aload_n 0, 1) := by decide +kernel
theorem dX10_odds_37 : decode cX10_odds 37 = .ok (.getfield 306, 3) := by decide +kernel
theorem dX10_odds_40 : decode cX10_odds 40 = .ok (.iload_n 1, 1) := by decide +kernel
theorem dX10_odds_41 : decode cX10_odds 41 = .ok (.invokestatic 328, 3) := by decide +kernel
theorem dX10_odds_44 : decode cX10_odds 44 = .ok (.ifCond .ne 5, 3) := by decide +kernel
theorem dX10_odds_47 : decode cX10_odds 47 = .ok (.iconst (-1), 1) := by decide +kernel
theorem dX10_odds_48 : decode cX10_odds 48 = .ok (.ireturn, 1) := by decide +kernel
theorem dX10_odds_49 : decode cX10_odds 49 = .ok (.aload_n 0, 1) := by decide +kernel
theorem dX10_odds_50 : decode cX10_odds 50 = .ok (.iload_n 1, 1) := by decide +kernel
theorem dX10_odds_51 : decode cX10_odds 51 = .ok (.invokevirtual 418, 3) := by decide +kernel
theorem dX10_odds_54 : decode cX10_odds 54 = .ok (.istore 4, 2) := by decide +kernel
theorem dX10_odds_56 : decode cX10_odds 56 = .ok (.iconst 0, 1) := by decide +kernel
theorem dX10_odds_57 : decode cX10_odds 57 = .ok (.istore 5, 2) := by decide +kernel
theorem dX10_odds_59 : decode cX10_odds 59 = .ok (.iconst 0, 1) := by decide +kernel
theorem dX10_odds_60 : decode cX10_odds 60 = .ok (.istore 6, 2) := by decide +kernel
theorem dX10_odds_62 : decode cX10_odds 62 = .ok (.iload 6, 2) := by decide +kernel
theorem dX10_odds_64 : decode cX10_odds 64 = .ok (.aload_n 0, 1) := by decide +kernel
theorem dX10_odds_65 : decode cX10_odds 65 = .ok (.getfield 49, 3) := by decide +kernel
theorem dX10_odds_68 : decode cX10_odds 68 = .ok (.iconst 3, 1) := by decide +kernel
theorem dX10_odds_69 : decode cX10_odds 69 = .ok (.iaload, 1) := by decide +kernel
theorem dX10_odds_70 : decode cX10_odds 70 = .ok (.if_icmp .ge 35, 3) := by decide +kernel
theorem dX10_odds_73 : decode cX10_odds 73 = .ok (.iload 5, 2) := by decide +kernel
theorem dX10_odds_75 : decode cX10_odds 75 = .ok (.iload 4, 2) := by decide +kernel
theorem dX10_odds_77 : decode cX10_odds 77 = .ok (.iload 6, 2) := by decide +kernel
theorem dX10_odds_79 : decode cX10_odds 79 = .ok (.invokestatic 328, 3) := by decide +kernel
theorem dX10_odds_82 : decode cX10_odds 82 = .ok (.ifCond .eq 13, 3) := by decide +kernel
theorem dX10_odds_85 : decode cX10_odds 85 = .ok (.aload_n 0, 1) := by decide +kernel
theorem dX10_odds_86 : decode cX10_odds 86 = .ok (.getfield 68, 3) := by decide +kernel
theorem dX10_odds_89 : decode cX10_odds 89 = .ok (.iload 6, 2) := by decide +kernel
theorem dX10_odds_91 : decode cX10_odds 91 = .ok (.iaload, 1) := by decide +kernel
theorem dX10_odds_92 : decode cX10_odds 92 = .ok (.goto 4, 3) := by decide +kernel
theorem dX10_odds_95 : decode cX10_odds 95 = .ok (.iconst 0, 1) := by decide +kernel
theorem dX10_odds_96 : decode cX10_odds 96 = .ok (.iadd, 1) := by decide +kernel
theorem dX10_odds_97 : decode cX10_odds 97 = .ok (.istore 5, 2) := by decide +kernel
theorem dX10_odds_99 : decode cX10_odds 99 = .ok (.iinc 6 1, 3) := by decide +kernel
theorem dX10_odds_102 : decode cX10_odds 102 = .ok (.goto (-40), 3) := by decide +kernel
theorem dX10_odds_105 : decode cX10_odds 105 = .ok (.iload 4, 2) := by decide +kernel
theorem dX10_odds_107 : decode cX10_odds 107 = .ok (.iload_n 2, 1) := by decide +kernel
theorem dX10_odds_108 : decode cX10_odds 108 = .ok (.invokestatic 328, 3) := by decide +kernel
theorem dX10_odds_111 : decode cX10_odds 111 = .ok (.ifCond .eq 12, 3) := by decide +kernel
theorem dX10_odds_114 : decode cX10_odds 114 = .ok (.aload_n 0, 1) := by decide +kernel
theorem dX10_odds_115 : decode cX10_odds 115 = .ok (.getfield 68, 3) := by decide +kernel
theorem dX10_odds_118 : decode cX10_odds 118 = .ok (.iload_n 2, 1) := by decide +kernel
theorem dX10_odds_119 : decode cX10_odds 119 = .ok (.iaload, 1) := by decide +kernel
theorem dX10_odds_120 : decode cX10_odds 120 = .ok (.goto 4, 3) := by decide +kernel
theorem dX10_odds_123 : decode cX10_odds 123 = .ok (.iconst 0, 1) := by decide +kernel
theorem dX10_odds_124 : decode cX10_odds 124 = .ok (.istore 6, 2) := by decide +kernel
theorem dX10_odds_126 : decode cX10_odds 126 = .ok (.iload 5, 2) := by decide +kernel
theorem dX10_odds_128 : decode cX10_odds 128 = .ok (.ifCond .ne 7, 3) := by decide +kernel
theorem dX10_odds_131 : decode cX10_odds 131 = .ok (.iconst 1, 1) := by decide +kernel
theorem dX10_odds_132 : decode cX10_odds 132 = .ok (.goto 10, 3) := by decide +kernel
theorem dX10_odds_135 : decode cX10_odds 135 = .ok (.iload 5, 2) := by decide +kernel
theorem dX10_odds_137 : decode cX10_odds 137 = .ok (.iload 6, 2) := by decide +kernel
theorem dX10_odds_139 : decode cX10_odds 139 = .ok (.invokestatic 421, 3) := by decide +kernel
theorem dX10_odds_142 : decode cX10_odds 142 = .ok (.istore 7, 2) := by decide +kernel
theorem dX10_odds_144 : decode cX10_odds 144 = .ok (.iload_n 3, 1) := by decide +kernel
theorem dX10_odds_145 : decode cX10_odds 145 = .ok (.ifCond .ne 11, 3) := by decide +kernel
theorem dX10_odds_148 : decode cX10_odds 148 = .ok (.iload 6, 2) := by decide +kernel
theorem dX10_odds_150 : decode cX10_odds 150 = .ok (.iload 7, 2) := by decide +kernel
theorem dX10_odds_152 : decode cX10_odds 152 = .ok (.idiv, 1) := by decide +kernel
theorem dX10_odds_153 : decode cX10_odds 153 = .ok (.goto 17, 3) := by decide +kernel
theorem dX10_odds_156 : decode cX10_odds 156 = .ok (.iload 5, 2) := by decide +kernel
theorem dX10_odds_158 : decode cX10_odds 158 = .ok (.ifCond .ne 7, 3) := by decide +kernel
theorem dX10_odds_161 : decode cX10_odds 161 = .ok (.iconst 1, 1) := by decide +kernel
theorem dX10_odds_162 : decode cX10_odds 162 = .ok (.goto 8, 3) := by decide +kernel
theorem dX10_odds_165 : decode cX10_odds 165 = .ok (.iload 5, 2) := by decide +kernel
theorem dX10_odds_167 : decode cX10_odds 167 = .ok (.iload 7, 2) := by decide +kernel
theorem dX10_odds_169 : decode cX10_odds 169 = .ok (.idiv, 1) := by decide +kernel
theorem dX10_odds_170 : decode cX10_odds 170 = .ok (.ireturn, 1) := by decide +kernel
theorem sX10_odds_0 {a0 a1 a2 a3 a4 a5 a6 a7 : Value} (hv : am_rf a0 = true) (h : am_R E d mX10_odds k n 1 [a0, a1, a2, a3, a4, a5, a6, a7] (a0 :: st) S iv Q) : am_R E d mX10_odds k n 0 [a0, a1, a2, a3, a4, a5, a6, a7] st S iv Q := am_aload_n dX10_odds_0 rfl rfl hv h
theorem sX10_odds_1 {a0 a1 a2 a3 a4 a5 a6 a7 : Value} (h : am_R E d mX10_odds k n 2 [a0, a1, a2, a3, a4, a5, a6, a7] (.int 0 :: st) S iv Q) : am_R E d mX10_odds k n 1 [a0, a1, a2, a3, a4, a5, a6, a7] st S iv Q := am_iconst dX10_odds_1 (by decide) h
theorem sX10_odds_2 {ls : List Value} {a : Nat} {x : Int32} (ha : S.1 a = some (.inl 10)) (h : am_R E d mX10_odds k n 5 ls st S (am_w iv a 3 x) Q) : am_R E d mX10_odds k n 2 ls (.int x :: .ref a :: st) S iv Q := am_putI (ci := 10) dX10_odds_2 rfl rfl (by decide) wq_806 uq_10 tyX10_ok nmX10 (Or.inl rfl) rfl ha h
theorem sX10_odds_5 {a0 a1 a2 a3 a4 a5 a6 a7 : Value} (hv : am_rf a0 = true) (h : am_R E d mX10_odds k n 6 [a0, a1, a2, a3, a4, a5, a6, a7] (a0 :: st) S iv Q) : am_R E d mX10_odds k n 5 [a0, a1, a2, a3, a4, a5, a6, a7] st S iv Q := am_aload_n dX10_odds_5 rfl rfl hv h
theorem sX10_odds_6 {a0 a2 a3 a4 a5 a6 a7 : Value} {x : Int32} (h : am_R E d mX10_odds k n 7 [a0, .int x, a2, a3, a4, a5, a6, a7] (.int x :: st) S iv Q) : am_R E d mX10_odds k n 6 [a0, .int x, a2, a3, a4, a5, a6, a7] st S iv Q := am_iload_n dX10_odds_6 rfl rfl h
theorem sX10_odds_7 {ls : List Value} {x1 : Value} {a : Nat} (ha : S.1 a = some (.inl 10)) (hst : (st.map fun v => v.category).sum ≤ 8) (hM : am_M E d mX10_isDrawer 0 0 [.ref a, x1] S iv (am_K3 E (d + 1) mX10_odds k n 7 ls st Q)) : am_R E (d + 1) mX10_odds k n 7 ls (x1 :: .ref a :: st) S iv Q := am_cV (ci := 10) (M' := mX10_isDrawer) (as := [x1]) dX10_odds_7 rfl rfl rfl wq_1026 wq_1027 wq_1028 wq_808 wq_1024 hy_X10_isDrawer (by decide) ha hst (by omega) (by omega) hM
theorem sX10_odds_7_k {ls : List Value} {x1 : Value} {k' n' : Nat} {a : Nat} (ha : S.1 a = some (.inl 10)) (hst : (st.map fun v => v.category).sum ≤ 8) (hM : am_M E d mX10_isDrawer k' n' [.ref a, x1] S iv (am_K3 E (d + 1) mX10_odds k n 7 ls st Q)) : am_R E (d + 1) mX10_odds (k' + k) (n' + n) 7 ls (x1 :: .ref a :: st) S iv Q := am_cV (ci := 10) (M' := mX10_isDrawer) (as := [x1]) dX10_odds_7 rfl rfl rfl wq_1026 wq_1027 wq_1028 wq_808 wq_1024 hy_X10_isDrawer (by decide) ha hst (by omega) (by omega) hM
theorem sX10_odds_10 {ls : List Value} {x : Int32} (kt : x = 0 → am_R E d mX10_odds k n 30 ls st S iv Q) (kf : ¬ x = 0 → am_R E d mX10_odds k n 13 ls st S iv Q) : am_R E d mX10_odds k n 10 ls (.int x :: st) S iv Q := am_if_eq dX10_odds_10 (by decide) kt kf
theorem sX10_odds_13 {a0 a1 a2 a3 a4 a5 a6 a7 : Value} (hv : am_rf a0 = true) (h : am_R E d mX10_odds k n 14 [a0, a1, a2, a3, a4, a5, a6, a7] (a0 :: st) S iv Q) : am_R E d mX10_odds k n 13 [a0, a1, a2, a3, a4, a5, a6, a7] st S iv Q := am_aload_n dX10_odds_13 rfl rfl hv h
theorem sX10_odds_14 {a0 a1 a3 a4 a5 a6 a7 : Value} {x : Int32} (h : am_R E d mX10_odds k n 15 [a0, a1, .int x, a3, a4, a5, a6, a7] (.int x :: st) S iv Q) : am_R E d mX10_odds k n 14 [a0, a1, .int x, a3, a4, a5, a6, a7] st S iv Q := am_iload_n dX10_odds_14 rfl rfl h
theorem sX10_odds_15 {ls : List Value} {x1 : Value} {a : Nat} (ha : S.1 a = some (.inl 10)) (hst : (st.map fun v => v.category).sum ≤ 8) (hM : am_M E d mX10_isPerson 0 0 [.ref a, x1] S iv (am_K3 E (d + 1) mX10_odds k n 15 ls st Q)) : am_R E (d + 1) mX10_odds k n 15 ls (x1 :: .ref a :: st) S iv Q := am_cV (ci := 10) (M' := mX10_isPerson) (as := [x1]) dX10_odds_15 rfl rfl rfl wq_1041 wq_1042 wq_1043 wq_808 wq_1039 hy_X10_isPerson (by decide) ha hst (by omega) (by omega) hM
theorem sX10_odds_15_k {ls : List Value} {x1 : Value} {k' n' : Nat} {a : Nat} (ha : S.1 a = some (.inl 10)) (hst : (st.map fun v => v.category).sum ≤ 8) (hM : am_M E d mX10_isPerson k' n' [.ref a, x1] S iv (am_K3 E (d + 1) mX10_odds k n 15 ls st Q)) : am_R E (d + 1) mX10_odds (k' + k) (n' + n) 15 ls (x1 :: .ref a :: st) S iv Q := am_cV (ci := 10) (M' := mX10_isPerson) (as := [x1]) dX10_odds_15 rfl rfl rfl wq_1041 wq_1042 wq_1043 wq_808 wq_1039 hy_X10_isPerson (by decide) ha hst (by omega) (by omega) hM
theorem sX10_odds_18 {ls : List Value} {x : Int32} (kt : x = 0 → am_R E d mX10_odds k n 30 ls st S iv Q) (kf : ¬ x = 0 → am_R E d mX10_odds k n 21 ls st S iv Q) : am_R E d mX10_odds k n 18 ls (.int x :: st) S iv Q := am_if_eq dX10_odds_18 (by decide) kt kf
theorem sX10_odds_21 {a0 a1 a2 a4 a5 a6 a7 : Value} {x : Int32} (h : am_R E d mX10_odds k n 22 [a0, a1, a2, .int x, a4, a5, a6, a7] (.int x :: st) S iv Q) : am_R E d mX10_odds k n 21 [a0, a1, a2, .int x, a4, a5, a6, a7] st S iv Q := am_iload_n dX10_odds_21 rfl rfl h
theorem sX10_odds_22 {ls : List Value} {x : Int32} (kt : x < 0 → am_R E d mX10_odds k n 30 ls st S iv Q) (kf : ¬ x < 0 → am_R E d mX10_odds k n 25 ls st S iv Q) : am_R E d mX10_odds k n 22 ls (.int x :: st) S iv Q := am_if_lt dX10_odds_22 (by decide) kt kf
theorem sX10_odds_25 {a0 a1 a2 a4 a5 a6 a7 : Value} {x : Int32} (h : am_R E d mX10_odds k n 26 [a0, a1, a2, .int x, a4, a5, a6, a7] (.int x :: st) S iv Q) : am_R E d mX10_odds k n 25 [a0, a1, a2, .int x, a4, a5, a6, a7] st S iv Q := am_iload_n dX10_odds_25 rfl rfl h
theorem sX10_odds_26 {a0 a1 a2 a3 a4 a5 a6 a7 : Value} (h : am_R E d mX10_odds k n 27 [a0, a1, a2, a3, a4, a5, a6, a7] (.int 1 :: st) S iv Q) : am_R E d mX10_odds k n 26 [a0, a1, a2, a3, a4, a5, a6, a7] st S iv Q := am_iconst dX10_odds_26 (by decide) h
theorem sX10_odds_27 {ls : List Value} {x y : Int32} (kt : x ≤ y → am_R E d mX10_odds k n 36 ls st S iv Q) (kf : ¬ x ≤ y → am_R E d mX10_odds k n 30 ls st S iv Q) : am_R E d mX10_odds k n 27 ls (.int y :: .int x :: st) S iv Q := am_icmp_le dX10_odds_27 (by decide) kt kf
theorem sX10_odds_30 {a0 a1 a2 a3 a4 a5 a6 a7 : Value} (hv : am_rf a0 = true) (h : am_R E d mX10_odds k n 31 [a0, a1, a2, a3, a4, a5, a6, a7] (a0 :: st) S iv Q) : am_R E d mX10_odds k n 30 [a0, a1, a2, a3, a4, a5, a6, a7] st S iv Q := am_aload_n dX10_odds_30 rfl rfl hv h
theorem sX10_odds_31 {a0 a1 a2 a3 a4 a5 a6 a7 : Value} (h : am_R E d mX10_odds k n 32 [a0, a1, a2, a3, a4, a5, a6, a7] (.int 1 :: st) S iv Q) : am_R E d mX10_odds k n 31 [a0, a1, a2, a3, a4, a5, a6, a7] st S iv Q := am_iconst dX10_odds_31 (by decide) h
theorem sX10_odds_32 {ls : List Value} {x1 : Value} {a : Nat} (ha : S.1 a = some (.inl 10)) (hst : (st.map fun v => v.category).sum ≤ 8) (hM : am_M E d mX10_fail 0 0 [.ref a, x1] S iv (am_K3 E (d + 1) mX10_odds k n 32 ls st Q)) : am_R E (d + 1) mX10_odds k n 32 ls (x1 :: .ref a :: st) S iv Q := am_cV (ci := 10) (M' := mX10_fail) (as := [x1]) dX10_odds_32 rfl rfl rfl wq_955 wq_956 wq_957 wq_808 wq_953 hy_X10_fail (by decide) ha hst (by omega) (by omega) hM
theorem sX10_odds_32_k {ls : List Value} {x1 : Value} {k' n' : Nat} {a : Nat} (ha : S.1 a = some (.inl 10)) (hst : (st.map fun v => v.category).sum ≤ 8) (hM : am_M E d mX10_fail k' n' [.ref a, x1] S iv (am_K3 E (d + 1) mX10_odds k n 32 ls st Q)) : am_R E (d + 1) mX10_odds (k' + k) (n' + n) 32 ls (x1 :: .ref a :: st) S iv Q := am_cV (ci := 10) (M' := mX10_fail) (as := [x1]) dX10_odds_32 rfl rfl rfl wq_955 wq_956 wq_957 wq_808 wq_953 hy_X10_fail (by decide) ha hst (by omega) (by omega) hM
theorem sX10_odds_35 {ls : List Value} {x : Int32} (h : Q (.inl (some (.int x))) S iv) : am_R E d mX10_odds k n 35 ls [.int x] S iv Q := am_ireturn dX10_odds_35 rfl h
theorem sX10_odds_36 {a0 a1 a2 a3 a4 a5 a6 a7 : Value} (hv : am_rf a0 = true) (h : am_R E d mX10_odds k n 37 [a0, a1, a2, a3, a4, a5, a6, a7] (a0 :: st) S iv Q) : am_R E d mX10_odds k n 36 [a0, a1, a2, a3, a4, a5, a6, a7] st S iv Q := am_aload_n dX10_odds_36 rfl rfl hv h
theorem sX10_odds_37 {ls : List Value} {a : Nat} (ha : S.1 a = some (.inl 10)) (h : am_R E d mX10_odds k n 40 ls (.int (iv a 29) :: st) S iv Q) : am_R E d mX10_odds k n 37 ls (.ref a :: st) S iv Q := am_getI (ci := 10) dX10_odds_37 rfl rfl (by decide) wq_972 uq_10 rfl ha h
theorem sX10_odds_40 {a0 a2 a3 a4 a5 a6 a7 : Value} {x : Int32} (h : am_R E d mX10_odds k n 41 [a0, .int x, a2, a3, a4, a5, a6, a7] (.int x :: st) S iv Q) : am_R E d mX10_odds k n 40 [a0, .int x, a2, a3, a4, a5, a6, a7] st S iv Q := am_iload_n dX10_odds_40 rfl rfl h
theorem sX10_odds_41 {ls : List Value} {x1 x2 : Value} (hst : (st.map fun v => v.category).sum ≤ 8) (hM : am_M E d mX10_has 0 0 [x1, x2] S iv (am_K3 E (d + 1) mX10_odds k n 41 ls st Q)) : am_R E (d + 1) mX10_odds k n 41 ls (x2 :: x1 :: st) S iv Q := am_cS (M' := mX10_has) (as := [x1, x2]) dX10_odds_41 rfl wq_987 wq_988 wq_808 wq_985 hy_X10_has (by decide) hst (by omega) (by omega) hM
theorem sX10_odds_41_k {ls : List Value} {x1 x2 : Value} {k' n' : Nat} (hst : (st.map fun v => v.category).sum ≤ 8) (hM : am_M E d mX10_has k' n' [x1, x2] S iv (am_K3 E (d + 1) mX10_odds k n 41 ls st Q)) : am_R E (d + 1) mX10_odds (k' + k) (n' + n) 41 ls (x2 :: x1 :: st) S iv Q := am_cS (M' := mX10_has) (as := [x1, x2]) dX10_odds_41 rfl wq_987 wq_988 wq_808 wq_985 hy_X10_has (by decide) hst (by omega) (by omega) hM
theorem sX10_odds_44 {ls : List Value} {x : Int32} (kt : ¬ x = 0 → am_R E d mX10_odds k n 49 ls st S iv Q) (kf : x = 0 → am_R E d mX10_odds k n 47 ls st S iv Q) : am_R E d mX10_odds k n 44 ls (.int x :: st) S iv Q := am_if_ne dX10_odds_44 (by decide) kt kf
theorem sX10_odds_47 {a0 a1 a2 a3 a4 a5 a6 a7 : Value} (h : am_R E d mX10_odds k n 48 [a0, a1, a2, a3, a4, a5, a6, a7] (.int (-1) :: st) S iv Q) : am_R E d mX10_odds k n 47 [a0, a1, a2, a3, a4, a5, a6, a7] st S iv Q := am_iconst dX10_odds_47 (by decide) h
theorem sX10_odds_48 {ls : List Value} {x : Int32} (h : Q (.inl (some (.int x))) S iv) : am_R E d mX10_odds k n 48 ls [.int x] S iv Q := am_ireturn dX10_odds_48 rfl h
theorem sX10_odds_49 {a0 a1 a2 a3 a4 a5 a6 a7 : Value} (hv : am_rf a0 = true) (h : am_R E d mX10_odds k n 50 [a0, a1, a2, a3, a4, a5, a6, a7] (a0 :: st) S iv Q) : am_R E d mX10_odds k n 49 [a0, a1, a2, a3, a4, a5, a6, a7] st S iv Q := am_aload_n dX10_odds_49 rfl rfl hv h
theorem sX10_odds_50 {a0 a2 a3 a4 a5 a6 a7 : Value} {x : Int32} (h : am_R E d mX10_odds k n 51 [a0, .int x, a2, a3, a4, a5, a6, a7] (.int x :: st) S iv Q) : am_R E d mX10_odds k n 50 [a0, .int x, a2, a3, a4, a5, a6, a7] st S iv Q := am_iload_n dX10_odds_50 rfl rfl h
theorem sX10_odds_51 {ls : List Value} {x1 : Value} {a : Nat} (ha : S.1 a = some (.inl 10)) (hst : (st.map fun v => v.category).sum ≤ 8) (hM : am_M E d mX10_whoCould 0 0 [.ref a, x1] S iv (am_K3 E (d + 1) mX10_odds k n 51 ls st Q)) : am_R E (d + 1) mX10_odds k n 51 ls (x1 :: .ref a :: st) S iv Q := am_cV (ci := 10) (M' := mX10_whoCould) (as := [x1]) dX10_odds_51 rfl rfl rfl wq_1116 wq_1117 wq_1118 wq_808 wq_1114 hy_X10_whoCould (by decide) ha hst (by omega) (by omega) hM
theorem sX10_odds_51_k {ls : List Value} {x1 : Value} {k' n' : Nat} {a : Nat} (ha : S.1 a = some (.inl 10)) (hst : (st.map fun v => v.category).sum ≤ 8) (hM : am_M E d mX10_whoCould k' n' [.ref a, x1] S iv (am_K3 E (d + 1) mX10_odds k n 51 ls st Q)) : am_R E (d + 1) mX10_odds (k' + k) (n' + n) 51 ls (x1 :: .ref a :: st) S iv Q := am_cV (ci := 10) (M' := mX10_whoCould) (as := [x1]) dX10_odds_51 rfl rfl rfl wq_1116 wq_1117 wq_1118 wq_808 wq_1114 hy_X10_whoCould (by decide) ha hst (by omega) (by omega) hM
theorem sX10_odds_54 {a0 a1 a2 a3 a4 a5 a6 a7 : Value} {x : Int32} (h : am_R E d mX10_odds k n 56 [a0, a1, a2, a3, .int x, a5, a6, a7] st S iv Q) : am_R E d mX10_odds k n 54 [a0, a1, a2, a3, a4, a5, a6, a7] (.int x :: st) S iv Q := am_istore dX10_odds_54 (by decide) h
theorem sX10_odds_56 {a0 a1 a2 a3 a4 a5 a6 a7 : Value} (h : am_R E d mX10_odds k n 57 [a0, a1, a2, a3, a4, a5, a6, a7] (.int 0 :: st) S iv Q) : am_R E d mX10_odds k n 56 [a0, a1, a2, a3, a4, a5, a6, a7] st S iv Q := am_iconst dX10_odds_56 (by decide) h
theorem sX10_odds_57 {a0 a1 a2 a3 a4 a5 a6 a7 : Value} {x : Int32} (h : am_R E d mX10_odds k n 59 [a0, a1, a2, a3, a4, .int x, a6, a7] st S iv Q) : am_R E d mX10_odds k n 57 [a0, a1, a2, a3, a4, a5, a6, a7] (.int x :: st) S iv Q := am_istore dX10_odds_57 (by decide) h
theorem sX10_odds_59 {a0 a1 a2 a3 a4 a5 a6 a7 : Value} (h : am_R E d mX10_odds k n 60 [a0, a1, a2, a3, a4, a5, a6, a7] (.int 0 :: st) S iv Q) : am_R E d mX10_odds k n 59 [a0, a1, a2, a3, a4, a5, a6, a7] st S iv Q := am_iconst dX10_odds_59 (by decide) h
theorem sX10_odds_60 {a0 a1 a2 a3 a4 a5 a6 a7 : Value} {x : Int32} (h : am_R E d mX10_odds k n 62 [a0, a1, a2, a3, a4, a5, .int x, a7] st S iv Q) : am_R E d mX10_odds k n 60 [a0, a1, a2, a3, a4, a5, a6, a7] (.int x :: st) S iv Q := am_istore dX10_odds_60 (by decide) h
theorem sX10_odds_62 {a0 a1 a2 a3 a4 a5 a7 : Value} {x : Int32} (h : am_R E d mX10_odds k n 64 [a0, a1, a2, a3, a4, a5, .int x, a7] (.int x :: st) S iv Q) : am_R E d mX10_odds k n 62 [a0, a1, a2, a3, a4, a5, .int x, a7] st S iv Q := am_iload dX10_odds_62 rfl h
theorem sX10_odds_64 {a0 a1 a2 a3 a4 a5 a6 a7 : Value} (hv : am_rf a0 = true) (h : am_R E d mX10_odds k n 65 [a0, a1, a2, a3, a4, a5, a6, a7] (a0 :: st) S iv Q) : am_R E d mX10_odds k n 64 [a0, a1, a2, a3, a4, a5, a6, a7] st S iv Q := am_aload_n dX10_odds_64 rfl rfl hv h
theorem sX10_odds_65 {ls : List Value} {a b : Nat} (ha : S.1 a = some (.inl 10)) (hb : S.2.1 a 4 = some b) (h : am_R E d mX10_odds k n 68 ls (.ref b :: st) S iv Q) : am_R E d mX10_odds k n 65 ls (.ref a :: st) S iv Q := am_getR (ci := 10) dX10_odds_65 rfl rfl (by decide) wq_772 uq_10 rfl ha hb h
theorem sX10_odds_68 {a0 a1 a2 a3 a4 a5 a6 a7 : Value} (h : am_R E d mX10_odds k n 69 [a0, a1, a2, a3, a4, a5, a6, a7] (.int 3 :: st) S iv Q) : am_R E d mX10_odds k n 68 [a0, a1, a2, a3, a4, a5, a6, a7] st S iv Q := am_iconst dX10_odds_68 (by decide) h
theorem sX10_odds_69 {ls : List Value} {a m : Nat} {i : Int32} (ha : S.1 a = some (.inr (.int, m))) (hi : vp_in i m) (h : am_R E d mX10_odds k n 70 ls (.int (iv a i.toNatClampNeg) :: st) S iv Q) : am_R E d mX10_odds k n 69 ls (.int i :: .ref a :: st) S iv Q := am_iaload dX10_odds_69 ha hi h
theorem sX10_odds_70 {ls : List Value} {x y : Int32} (kt : y ≤ x → am_R E d mX10_odds k n 105 ls st S iv Q) (kf : ¬ y ≤ x → am_R E d mX10_odds k n 73 ls st S iv Q) : am_R E d mX10_odds k n 70 ls (.int y :: .int x :: st) S iv Q := am_icmp_ge dX10_odds_70 (by decide) kt kf
theorem sX10_odds_73 {a0 a1 a2 a3 a4 a6 a7 : Value} {x : Int32} (h : am_R E d mX10_odds k n 75 [a0, a1, a2, a3, a4, .int x, a6, a7] (.int x :: st) S iv Q) : am_R E d mX10_odds k n 73 [a0, a1, a2, a3, a4, .int x, a6, a7] st S iv Q := am_iload dX10_odds_73 rfl h
theorem sX10_odds_75 {a0 a1 a2 a3 a5 a6 a7 : Value} {x : Int32} (h : am_R E d mX10_odds k n 77 [a0, a1, a2, a3, .int x, a5, a6, a7] (.int x :: st) S iv Q) : am_R E d mX10_odds k n 75 [a0, a1, a2, a3, .int x, a5, a6, a7] st S iv Q := am_iload dX10_odds_75 rfl h
theorem sX10_odds_77 {a0 a1 a2 a3 a4 a5 a7 : Value} {x : Int32} (h : am_R E d mX10_odds k n 79 [a0, a1, a2, a3, a4, a5, .int x, a7] (.int x :: st) S iv Q) : am_R E d mX10_odds k n 77 [a0, a1, a2, a3, a4, a5, .int x, a7] st S iv Q := am_iload dX10_odds_77 rfl h
theorem sX10_odds_79 {ls : List Value} {x1 x2 : Value} (hst : (st.map fun v => v.category).sum ≤ 8) (hM : am_M E d mX10_has 0 0 [x1, x2] S iv (am_K3 E (d + 1) mX10_odds k n 79 ls st Q)) : am_R E (d + 1) mX10_odds k n 79 ls (x2 :: x1 :: st) S iv Q := am_cS (M' := mX10_has) (as := [x1, x2]) dX10_odds_79 rfl wq_987 wq_988 wq_808 wq_985 hy_X10_has (by decide) hst (by omega) (by omega) hM
theorem sX10_odds_79_k {ls : List Value} {x1 x2 : Value} {k' n' : Nat} (hst : (st.map fun v => v.category).sum ≤ 8) (hM : am_M E d mX10_has k' n' [x1, x2] S iv (am_K3 E (d + 1) mX10_odds k n 79 ls st Q)) : am_R E (d + 1) mX10_odds (k' + k) (n' + n) 79 ls (x2 :: x1 :: st) S iv Q := am_cS (M' := mX10_has) (as := [x1, x2]) dX10_odds_79 rfl wq_987 wq_988 wq_808 wq_985 hy_X10_has (by decide) hst (by omega) (by omega) hM
theorem sX10_odds_82 {ls : List Value} {x : Int32} (kt : x = 0 → am_R E d mX10_odds k n 95 ls st S iv Q) (kf : ¬ x = 0 → am_R E d mX10_odds k n 85 ls st S iv Q) : am_R E d mX10_odds k n 82 ls (.int x :: st) S iv Q := am_if_eq dX10_odds_82 (by decide) kt kf
theorem sX10_odds_85 {a0 a1 a2 a3 a4 a5 a6 a7 : Value} (hv : am_rf a0 = true) (h : am_R E d mX10_odds k n 86 [a0, a1, a2, a3, a4, a5, a6, a7] (a0 :: st) S iv Q) : am_R E d mX10_odds k n 85 [a0, a1, a2, a3, a4, a5, a6, a7] st S iv Q := am_aload_n dX10_odds_85 rfl rfl hv h
theorem sX10_odds_86 {ls : List Value} {a b : Nat} (ha : S.1 a = some (.inl 10)) (hb : S.2.1 a 12 = some b) (h : am_R E d mX10_odds k n 89 ls (.ref b :: st) S iv Q) : am_R E d mX10_odds k n 86 ls (.ref a :: st) S iv Q := am_getR (ci := 10) dX10_odds_86 rfl rfl (by decide) wq_780 uq_10 rfl ha hb h
theorem sX10_odds_89 {a0 a1 a2 a3 a4 a5 a7 : Value} {x : Int32} (h : am_R E d mX10_odds k n 91 [a0, a1, a2, a3, a4, a5, .int x, a7] (.int x :: st) S iv Q) : am_R E d mX10_odds k n 89 [a0, a1, a2, a3, a4, a5, .int x, a7] st S iv Q := am_iload dX10_odds_89 rfl h
theorem sX10_odds_91 {ls : List Value} {a m : Nat} {i : Int32} (ha : S.1 a = some (.inr (.int, m))) (hi : vp_in i m) (h : am_R E d mX10_odds k n 92 ls (.int (iv a i.toNatClampNeg) :: st) S iv Q) : am_R E d mX10_odds k n 91 ls (.int i :: .ref a :: st) S iv Q := am_iaload dX10_odds_91 ha hi h
theorem sX10_odds_92 {ls : List Value} (h : am_R E d mX10_odds k n 96 ls st S iv Q) : am_R E d mX10_odds k n 92 ls st S iv Q := am_goto dX10_odds_92 (by decide) h
theorem sX10_odds_95 {a0 a1 a2 a3 a4 a5 a6 a7 : Value} (h : am_R E d mX10_odds k n 96 [a0, a1, a2, a3, a4, a5, a6, a7] (.int 0 :: st) S iv Q) : am_R E d mX10_odds k n 95 [a0, a1, a2, a3, a4, a5, a6, a7] st S iv Q := am_iconst dX10_odds_95 (by decide) h
theorem sX10_odds_96 {ls : List Value} {x y : Int32} (h : am_R E d mX10_odds k n 97 ls (.int (x + y) :: st) S iv Q) : am_R E d mX10_odds k n 96 ls (.int y :: .int x :: st) S iv Q := am_iadd dX10_odds_96 h
theorem sX10_odds_97 {a0 a1 a2 a3 a4 a5 a6 a7 : Value} {x : Int32} (h : am_R E d mX10_odds k n 99 [a0, a1, a2, a3, a4, .int x, a6, a7] st S iv Q) : am_R E d mX10_odds k n 97 [a0, a1, a2, a3, a4, a5, a6, a7] (.int x :: st) S iv Q := am_istore dX10_odds_97 (by decide) h
theorem sX10_odds_99 {a0 a1 a2 a3 a4 a5 a7 : Value} {x : Int32} (h : am_R E d mX10_odds k n 102 [a0, a1, a2, a3, a4, a5, .int (x + 1), a7] st S iv Q) : am_R E d mX10_odds k n 99 [a0, a1, a2, a3, a4, a5, .int x, a7] st S iv Q := am_iinc dX10_odds_99 rfl rfl (by decide) h
theorem sX10_odds_102 {ls : List Value} (h : am_R E d mX10_odds k n 62 ls st S iv Q) : am_R E d mX10_odds k n 102 ls st S iv Q := am_goto dX10_odds_102 (by decide) h
theorem sX10_odds_105 {a0 a1 a2 a3 a5 a6 a7 : Value} {x : Int32} (h : am_R E d mX10_odds k n 107 [a0, a1, a2, a3, .int x, a5, a6, a7] (.int x :: st) S iv Q) : am_R E d mX10_odds k n 105 [a0, a1, a2, a3, .int x, a5, a6, a7] st S iv Q := am_iload dX10_odds_105 rfl h
theorem sX10_odds_107 {a0 a1 a3 a4 a5 a6 a7 : Value} {x : Int32} (h : am_R E d mX10_odds k n 108 [a0, a1, .int x, a3, a4, a5, a6, a7] (.int x :: st) S iv Q) : am_R E d mX10_odds k n 107 [a0, a1, .int x, a3, a4, a5, a6, a7] st S iv Q := am_iload_n dX10_odds_107 rfl rfl h
theorem sX10_odds_108 {ls : List Value} {x1 x2 : Value} (hst : (st.map fun v => v.category).sum ≤ 8) (hM : am_M E d mX10_has 0 0 [x1, x2] S iv (am_K3 E (d + 1) mX10_odds k n 108 ls st Q)) : am_R E (d + 1) mX10_odds k n 108 ls (x2 :: x1 :: st) S iv Q := am_cS (M' := mX10_has) (as := [x1, x2]) dX10_odds_108 rfl wq_987 wq_988 wq_808 wq_985 hy_X10_has (by decide) hst (by omega) (by omega) hM
theorem sX10_odds_108_k {ls : List Value} {x1 x2 : Value} {k' n' : Nat} (hst : (st.map fun v => v.category).sum ≤ 8) (hM : am_M E d mX10_has k' n' [x1, x2] S iv (am_K3 E (d + 1) mX10_odds k n 108 ls st Q)) : am_R E (d + 1) mX10_odds (k' + k) (n' + n) 108 ls (x2 :: x1 :: st) S iv Q := am_cS (M' := mX10_has) (as := [x1, x2]) dX10_odds_108 rfl wq_987 wq_988 wq_808 wq_985 hy_X10_has (by decide) hst (by omega) (by omega) hM
theorem sX10_odds_111 {ls : List Value} {x : Int32} (kt : x = 0 → am_R E d mX10_odds k n 123 ls st S iv Q) (kf : ¬ x = 0 → am_R E d mX10_odds k n 114 ls st S iv Q) : am_R E d mX10_odds k n 111 ls (.int x :: st) S iv Q := am_if_eq dX10_odds_111 (by decide) kt kf
theorem sX10_odds_114 {a0 a1 a2 a3 a4 a5 a6 a7 : Value} (hv : am_rf a0 = true) (h : am_R E d mX10_odds k n 115 [a0, a1, a2, a3, a4, a5, a6, a7] (a0 :: st) S iv Q) : am_R E d mX10_odds k n 114 [a0, a1, a2, a3, a4, a5, a6, a7] st S iv Q := am_aload_n dX10_odds_114 rfl rfl hv h
theorem sX10_odds_115 {ls : List Value} {a b : Nat} (ha : S.1 a = some (.inl 10)) (hb : S.2.1 a 12 = some b) (h : am_R E d mX10_odds k n 118 ls (.ref b :: st) S iv Q) : am_R E d mX10_odds k n 115 ls (.ref a :: st) S iv Q := am_getR (ci := 10) dX10_odds_115 rfl rfl (by decide) wq_780 uq_10 rfl ha hb h
theorem sX10_odds_118 {a0 a1 a3 a4 a5 a6 a7 : Value} {x : Int32} (h : am_R E d mX10_odds k n 119 [a0, a1, .int x, a3, a4, a5, a6, a7] (.int x :: st) S iv Q) : am_R E d mX10_odds k n 118 [a0, a1, .int x, a3, a4, a5, a6, a7] st S iv Q := am_iload_n dX10_odds_118 rfl rfl h
theorem sX10_odds_119 {ls : List Value} {a m : Nat} {i : Int32} (ha : S.1 a = some (.inr (.int, m))) (hi : vp_in i m) (h : am_R E d mX10_odds k n 120 ls (.int (iv a i.toNatClampNeg) :: st) S iv Q) : am_R E d mX10_odds k n 119 ls (.int i :: .ref a :: st) S iv Q := am_iaload dX10_odds_119 ha hi h
theorem sX10_odds_120 {ls : List Value} (h : am_R E d mX10_odds k n 124 ls st S iv Q) : am_R E d mX10_odds k n 120 ls st S iv Q := am_goto dX10_odds_120 (by decide) h
theorem sX10_odds_123 {a0 a1 a2 a3 a4 a5 a6 a7 : Value} (h : am_R E d mX10_odds k n 124 [a0, a1, a2, a3, a4, a5, a6, a7] (.int 0 :: st) S iv Q) : am_R E d mX10_odds k n 123 [a0, a1, a2, a3, a4, a5, a6, a7] st S iv Q := am_iconst dX10_odds_123 (by decide) h
theorem sX10_odds_124 {a0 a1 a2 a3 a4 a5 a6 a7 : Value} {x : Int32} (h : am_R E d mX10_odds k n 126 [a0, a1, a2, a3, a4, a5, .int x, a7] st S iv Q) : am_R E d mX10_odds k n 124 [a0, a1, a2, a3, a4, a5, a6, a7] (.int x :: st) S iv Q := am_istore dX10_odds_124 (by decide) h
theorem sX10_odds_126 {a0 a1 a2 a3 a4 a6 a7 : Value} {x : Int32} (h : am_R E d mX10_odds k n 128 [a0, a1, a2, a3, a4, .int x, a6, a7] (.int x :: st) S iv Q) : am_R E d mX10_odds k n 126 [a0, a1, a2, a3, a4, .int x, a6, a7] st S iv Q := am_iload dX10_odds_126 rfl h
theorem sX10_odds_128 {ls : List Value} {x : Int32} (kt : ¬ x = 0 → am_R E d mX10_odds k n 135 ls st S iv Q) (kf : x = 0 → am_R E d mX10_odds k n 131 ls st S iv Q) : am_R E d mX10_odds k n 128 ls (.int x :: st) S iv Q := am_if_ne dX10_odds_128 (by decide) kt kf
theorem sX10_odds_131 {a0 a1 a2 a3 a4 a5 a6 a7 : Value} (h : am_R E d mX10_odds k n 132 [a0, a1, a2, a3, a4, a5, a6, a7] (.int 1 :: st) S iv Q) : am_R E d mX10_odds k n 131 [a0, a1, a2, a3, a4, a5, a6, a7] st S iv Q := am_iconst dX10_odds_131 (by decide) h
theorem sX10_odds_132 {ls : List Value} (h : am_R E d mX10_odds k n 142 ls st S iv Q) : am_R E d mX10_odds k n 132 ls st S iv Q := am_goto dX10_odds_132 (by decide) h
theorem sX10_odds_135 {a0 a1 a2 a3 a4 a6 a7 : Value} {x : Int32} (h : am_R E d mX10_odds k n 137 [a0, a1, a2, a3, a4, .int x, a6, a7] (.int x :: st) S iv Q) : am_R E d mX10_odds k n 135 [a0, a1, a2, a3, a4, .int x, a6, a7] st S iv Q := am_iload dX10_odds_135 rfl h
theorem sX10_odds_137 {a0 a1 a2 a3 a4 a5 a7 : Value} {x : Int32} (h : am_R E d mX10_odds k n 139 [a0, a1, a2, a3, a4, a5, .int x, a7] (.int x :: st) S iv Q) : am_R E d mX10_odds k n 137 [a0, a1, a2, a3, a4, a5, .int x, a7] st S iv Q := am_iload dX10_odds_137 rfl h
theorem sX10_odds_139 {ls : List Value} {x1 x2 : Value} (hst : (st.map fun v => v.category).sum ≤ 8) (hM : am_M E d mX10_common 0 0 [x1, x2] S iv (am_K3 E (d + 1) mX10_odds k n 139 ls st Q)) : am_R E (d + 1) mX10_odds k n 139 ls (x2 :: x1 :: st) S iv Q := am_cS (M' := mX10_common) (as := [x1, x2]) dX10_odds_139 rfl wq_1121 wq_1122 wq_808 wq_1119 hy_X10_common (by decide) hst (by omega) (by omega) hM
theorem sX10_odds_139_k {ls : List Value} {x1 x2 : Value} {k' n' : Nat} (hst : (st.map fun v => v.category).sum ≤ 8) (hM : am_M E d mX10_common k' n' [x1, x2] S iv (am_K3 E (d + 1) mX10_odds k n 139 ls st Q)) : am_R E (d + 1) mX10_odds (k' + k) (n' + n) 139 ls (x2 :: x1 :: st) S iv Q := am_cS (M' := mX10_common) (as := [x1, x2]) dX10_odds_139 rfl wq_1121 wq_1122 wq_808 wq_1119 hy_X10_common (by decide) hst (by omega) (by omega) hM
theorem sX10_odds_142 {a0 a1 a2 a3 a4 a5 a6 a7 : Value} {x : Int32} (h : am_R E d mX10_odds k n 144 [a0, a1, a2, a3, a4, a5, a6, .int x] st S iv Q) : am_R E d mX10_odds k n 142 [a0, a1, a2, a3, a4, a5, a6, a7] (.int x :: st) S iv Q := am_istore dX10_odds_142 (by decide) h
theorem sX10_odds_144 {a0 a1 a2 a4 a5 a6 a7 : Value} {x : Int32} (h : am_R E d mX10_odds k n 145 [a0, a1, a2, .int x, a4, a5, a6, a7] (.int x :: st) S iv Q) : am_R E d mX10_odds k n 144 [a0, a1, a2, .int x, a4, a5, a6, a7] st S iv Q := am_iload_n dX10_odds_144 rfl rfl h
theorem sX10_odds_145 {ls : List Value} {x : Int32} (kt : ¬ x = 0 → am_R E d mX10_odds k n 156 ls st S iv Q) (kf : x = 0 → am_R E d mX10_odds k n 148 ls st S iv Q) : am_R E d mX10_odds k n 145 ls (.int x :: st) S iv Q := am_if_ne dX10_odds_145 (by decide) kt kf
theorem sX10_odds_148 {a0 a1 a2 a3 a4 a5 a7 : Value} {x : Int32} (h : am_R E d mX10_odds k n 150 [a0, a1, a2, a3, a4, a5, .int x, a7] (.int x :: st) S iv Q) : am_R E d mX10_odds k n 148 [a0, a1, a2, a3, a4, a5, .int x, a7] st S iv Q := am_iload dX10_odds_148 rfl h
theorem sX10_odds_150 {a0 a1 a2 a3 a4 a5 a6 : Value} {x : Int32} (h : am_R E d mX10_odds k n 152 [a0, a1, a2, a3, a4, a5, a6, .int x] (.int x :: st) S iv Q) : am_R E d mX10_odds k n 150 [a0, a1, a2, a3, a4, a5, a6, .int x] st S iv Q := am_iload dX10_odds_150 rfl h
theorem sX10_odds_152 {ls : List Value} {x y : Int32} (hy : ¬ y = 0) (h : am_R E d mX10_odds k n 153 ls (.int (x / y) :: st) S iv Q) : am_R E d mX10_odds k n 152 ls (.int y :: .int x :: st) S iv Q := am_idiv dX10_odds_152 hy h
theorem sX10_odds_153 {ls : List Value} (h : am_R E d mX10_odds k n 170 ls st S iv Q) : am_R E d mX10_odds k n 153 ls st S iv Q := am_goto dX10_odds_153 (by decide) h
theorem sX10_odds_156 {a0 a1 a2 a3 a4 a6 a7 : Value} {x : Int32} (h : am_R E d mX10_odds k n 158 [a0, a1, a2, a3, a4, .int x, a6, a7] (.int x :: st) S iv Q) : am_R E d mX10_odds k n 156 [a0, a1, a2, a3, a4, .int x, a6, a7] st S iv Q := am_iload dX10_odds_156 rfl h
theorem sX10_odds_158 {ls : List Value} {x : Int32} (kt : ¬ x = 0 → am_R E d mX10_odds k n 165 ls st S iv Q) (kf : x = 0 → am_R E d mX10_odds k n 161 ls st S iv Q) : am_R E d mX10_odds k n 158 ls (.int x :: st) S iv Q := am_if_ne dX10_odds_158 (by decide) kt kf
theorem sX10_odds_161 {a0 a1 a2 a3 a4 a5 a6 a7 : Value} (h : am_R E d mX10_odds k n 162 [a0, a1, a2, a3, a4, a5, a6, a7] (.int 1 :: st) S iv Q) : am_R E d mX10_odds k n 161 [a0, a1, a2, a3, a4, a5, a6, a7] st S iv Q := am_iconst dX10_odds_161 (by decide) h
theorem sX10_odds_162 {ls : List Value} (h : am_R E d mX10_odds k n 170 ls st S iv Q) : am_R E d mX10_odds k n 162 ls st S iv Q := am_goto dX10_odds_162 (by decide) h
theorem sX10_odds_165 {a0 a1 a2 a3 a4 a6 a7 : Value} {x : Int32} (h : am_R E d mX10_odds k n 167 [a0, a1, a2, a3, a4, .int x, a6, a7] (.int x :: st) S iv Q) : am_R E d mX10_odds k n 165 [a0, a1, a2, a3, a4, .int x, a6, a7] st S iv Q := am_iload dX10_odds_165 rfl h
theorem sX10_odds_167 {a0 a1 a2 a3 a4 a5 a6 : Value} {x : Int32} (h : am_R E d mX10_odds k n 169 [a0, a1, a2, a3, a4, a5, a6, .int x] (.int x :: st) S iv Q) : am_R E d mX10_odds k n 167 [a0, a1, a2, a3, a4, a5, a6, .int x] st S iv Q := am_iload dX10_odds_167 rfl h
theorem sX10_odds_169 {ls : List Value} {x y : Int32} (hy : ¬ y = 0) (h : am_R E d mX10_odds k n 170 ls (.int (x / y) :: st) S iv Q) : am_R E d mX10_odds k n 169 ls (.int y :: .int x :: st) S iv Q := am_idiv dX10_odds_169 hy h
theorem sX10_odds_170 {ls : List Value} {x : Int32} (h : Q (.inl (some (.int x))) S iv) : am_R E d mX10_odds k n 170 ls [.int x] S iv Q := am_ireturn dX10_odds_170 rfl h
theorem dX10_be_0 : decode cX10_be 0 = .ok (.iconst 0, 1) := by decide +kernel
theorem dX10_be_1 : decode cX10_be 1 = .ok (.istore_n 2, 1) := by decide +kernel
theorem dX10_be_2 : decode cX10_be 2 = .ok (.iload_n 2, 1) := by decide +kernel
theorem dX10_be_3 : decode cX10_be 3 = .ok (.aload_n 0, 1) := by decide +kernel
theorem dX10_be_4 : decode cX10_be 4 = .ok (.arraylength, 1) := by decide +kernel
theorem dX10_be_5 : decode cX10_be 5 = .ok (.if_icmp .ge 15, 3) := by decide +kernel
theorem dX10_be_8 : decode cX10_be 8 = .ok (.aload_n 0, 1) := by decide +kernel
theorem dX10_be_9 : decode cX10_be 9 = .ok (.iload_n 2, 1) := by decide +kernel
theorem dX10_be_10 : decode cX10_be 10 = .ok (.aload_n 1, 1) := by decide +kernel
theorem dX10_be_11 : decode cX10_be 11 = .ok (.iload_n 2, 1) := by decide +kernel
theorem dX10_be_12 : decode cX10_be 12 = .ok (.iaload, 1) := by decide +kernel
theorem dX10_be_13 : decode cX10_be 13 = .ok (.iastore, 1) := by decide +kernel
theorem dX10_be_14 : decode cX10_be 14 = .ok (.iinc 2 1, 3) := by decide +kernel
theorem dX10_be_17 : decode cX10_be 17 = .ok (.goto (-15), 3) := by decide +kernel
theorem dX10_be_20 : decode cX10_be 20 = .ok (.return_, 1) := by decide +kernel
theorem sX10_be_0 {a0 a1 a2 : Value} (h : am_R E d mX10_be k n 1 [a0, a1, a2] (.int 0 :: st) S iv Q) : am_R E d mX10_be k n 0 [a0, a1, a2] st S iv Q := am_iconst dX10_be_0 (by decide) h
theorem sX10_be_1 {a0 a1 a2 : Value} {x : Int32} (h : am_R E d mX10_be k n 2 [a0, a1, .int x] st S iv Q) : am_R E d mX10_be k n 1 [a0, a1, a2] (.int x :: st) S iv Q := am_istore_n dX10_be_1 rfl (by decide) h
theorem sX10_be_2 {a0 a1 : Value} {x : Int32} (h : am_R E d mX10_be k n 3 [a0, a1, .int x] (.int x :: st) S iv Q) : am_R E d mX10_be k n 2 [a0, a1, .int x] st S iv Q := am_iload_n dX10_be_2 rfl rfl h
theorem sX10_be_3 {a0 a1 a2 : Value} (hv : am_rf a0 = true) (h : am_R E d mX10_be k n 4 [a0, a1, a2] (a0 :: st) S iv Q) : am_R E d mX10_be k n 3 [a0, a1, a2] st S iv Q := am_aload_n dX10_be_3 rfl rfl hv h
theorem sX10_be_4 {ls : List Value} {a m t : Nat} {ty : FieldType} (ha : S.1 a = some (.inr (ty, m))) (ht : am_ti ty = some t) (h : am_R E d mX10_be k n 5 ls (.int (Int32.ofNat m) :: st) S iv Q) : am_R E d mX10_be k n 4 ls (.ref a :: st) S iv Q := am_alen dX10_be_4 ha ht h
theorem sX10_be_5 {ls : List Value} {x y : Int32} (kt : y ≤ x → am_R E d mX10_be k n 20 ls st S iv Q) (kf : ¬ y ≤ x → am_R E d mX10_be k n 8 ls st S iv Q) : am_R E d mX10_be k n 5 ls (.int y :: .int x :: st) S iv Q := am_icmp_ge dX10_be_5 (by decide) kt kf
theorem sX10_be_8 {a0 a1 a2 : Value} (hv : am_rf a0 = true) (h : am_R E d mX10_be k n 9 [a0, a1, a2] (a0 :: st) S iv Q) : am_R E d mX10_be k n 8 [a0, a1, a2] st S iv Q := am_aload_n dX10_be_8 rfl rfl hv h
theorem sX10_be_9 {a0 a1 : Value} {x : Int32} (h : am_R E d mX10_be k n 10 [a0, a1, .int x] (.int x :: st) S iv Q) : am_R E d mX10_be k n 9 [a0, a1, .int x] st S iv Q := am_iload_n dX10_be_9 rfl rfl h
theorem sX10_be_10 {a0 a1 a2 : Value} (hv : am_rf a1 = true) (h : am_R E d mX10_be k n 11 [a0, a1, a2] (a1 :: st) S iv Q) : am_R E d mX10_be k n 10 [a0, a1, a2] st S iv Q := am_aload_n dX10_be_10 rfl rfl hv h
theorem sX10_be_11 {a0 a1 : Value} {x : Int32} (h : am_R E d mX10_be k n 12 [a0, a1, .int x] (.int x :: st) S iv Q) : am_R E d mX10_be k n 11 [a0, a1, .int x] st S iv Q := am_iload_n dX10_be_11 rfl rfl h
theorem sX10_be_12 {ls : List Value} {a m : Nat} {i : Int32} (ha : S.1 a = some (.inr (.int, m))) (hi : vp_in i m) (h : am_R E d mX10_be k n 13 ls (.int (iv a i.toNatClampNeg) :: st) S iv Q) : am_R E d mX10_be k n 12 ls (.int i :: .ref a :: st) S iv Q := am_iaload dX10_be_12 ha hi h
theorem sX10_be_13 {ls : List Value} {a m : Nat} {i x : Int32} (ha : S.1 a = some (.inr (.int, m))) (hi : vp_in i m) (h : am_R E d mX10_be k n 14 ls st S (am_w iv a i.toNatClampNeg x) Q) : am_R E d mX10_be k n 13 ls (.int x :: .int i :: .ref a :: st) S iv Q := am_iastore dX10_be_13 ha hi h
theorem sX10_be_14 {a0 a1 : Value} {x : Int32} (h : am_R E d mX10_be k n 17 [a0, a1, .int (x + 1)] st S iv Q) : am_R E d mX10_be k n 14 [a0, a1, .int x] st S iv Q := am_iinc dX10_be_14 rfl rfl (by decide) h
theorem sX10_be_17 {ls : List Value} (h : am_R E d mX10_be k n 2 ls st S iv Q) : am_R E d mX10_be k n 17 ls st S iv Q := am_goto dX10_be_17 (by decide) h
theorem sX10_be_20 {ls : List Value} (h : Q (.inl none) S iv) : am_R E d mX10_be k n 20 ls [] S iv Q := am_return dX10_be_20 rfl h
theorem dX10_image_0 : decode cX10_image 0 = .ok (.aload_n 0, 1) := by decide +kernel
theorem dX10_image_1 : decode cX10_image 1 = .ok (.iconst 0, 1) := by decide +kernel
theorem dX10_image_2 : decode cX10_image 2 = .ok (.putfield 143, 3) := by decide +kernel
theorem dX10_image_5 : decode cX10_image 5 = .ok (.aload_n 0, 1) := by decide +kernel
theorem dX10_image_6 : decode cX10_image 6 = .ok (.iconst 1, 1) := by decide +kernel
theorem dX10_image_7 : decode cX10_image 7 = .ok (.putfield 317, 3) := by decide +kernel
theorem dX10_image_10 : decode cX10_image 10 = .ok (.aload_n 0, 1) := by decide +kernel
theorem dX10_image_11 : decode cX10_image 11 = .ok (.aload_n 0, 1) := by decide +kernel
theorem dX10_image_12 : decode cX10_image 12 = .ok (.getfield 306, 3) := by decide +kernel
theorem dX10_image_15 : decode cX10_image 15 = .ok (.putfield 424, 3) := by decide +kernel
theorem dX10_image_18 : decode cX10_image 18 = .ok (.aload_n 0, 1) := by decide +kernel
theorem dX10_image_19 : decode cX10_image 19 = .ok (.aload_n 0, 1) := by decide +kernel
theorem dX10_image_20 : decode cX10_image 20 = .ok (.getfield 308, 3) := by decide +kernel
theorem dX10_image_23 : decode cX10_image 23 = .ok (.putfield 427, 3) := by decide +kernel
theorem dX10_image_26 : decode cX10_image 26 = .ok (.aload_n 0, 1) := by decide +kernel
theorem dX10_image_27 : decode cX10_image 27 = .ok (.aload_n 0, 1) := by decide +kernel
theorem dX10_image_28 : decode cX10_image 28 = .ok (.getfield 311, 3) := by decide +kernel
theorem dX10_image_31 : decode cX10_image 31 = .ok (.putfield 430, 3) := by decide +kernel
theorem dX10_image_34 : decode cX10_image 34 = .ok (.aload_n 0, 1) := by decide +kernel
theorem dX10_image_35 : decode cX10_image 35 = .ok (.aload_n 0, 1) := by decide +kernel
theorem dX10_image_36 : decode cX10_image 36 = .ok (.getfield 314, 3) := by decide +kernel
theorem dX10_image_39 : decode cX10_image 39 = .ok (.putfield 433, 3) := by decide +kernel
theorem dX10_image_42 : decode cX10_image 42 = .ok (.aload_n 0, 1) := by decide +kernel
theorem dX10_image_43 : decode cX10_image 43 = .ok (.getfield 131, 3) := by decide +kernel
theorem dX10_image_46 : decode cX10_image 46 = .ok (.aload_n 0, 1) := by decide +kernel
theorem dX10_image_47 : decode cX10_image 47 = .ok (.getfield 90, 3) := by decide +kernel
theorem dX10_image_50 : decode cX10_image 50 = .ok (.invokestatic 436, 3) := by decide +kernel
theorem dX10_image_53 : decode cX10_image 53 = .ok (.aload_n 0, 1) := by decide +kernel
theorem dX10_image_54 : decode cX10_image 54 = .ok (.getfield 134, 3) := by decide +kernel
theorem dX10_image_57 : decode cX10_image 57 = .ok (.aload_n 0, 1) := by decide +kernel
theorem dX10_image_58 : decode cX10_image 58 = .ok (.getfield 93, 3) := by decide +kernel
theorem dX10_image_61 : decode cX10_image 61 = .ok (.invokestatic 436, 3) := by decide +kernel
theorem dX10_image_64 : decode cX10_image 64 = .ok (.aload_n 0, 1) := by decide +kernel
theorem dX10_image_65 : decode cX10_image 65 = .ok (.getfield 137, 3) := by decide +kernel
theorem dX10_image_68 : decode cX10_image 68 = .ok (.aload_n 0, 1) := by decide +kernel
theorem dX10_image_69 : decode cX10_image 69 = .ok (.getfield 96, 3) := by decide +kernel
theorem dX10_image_72 : decode cX10_image 72 = .ok (.invokestatic 436, 3) := by decide +kernel
theorem dX10_image_75 : decode cX10_image 75 = .ok (.aload_n 0, 1) := by decide +kernel
theorem dX10_image_76 : decode cX10_image 76 = .ok (.getfield 140, 3) := by decide +kernel
theorem dX10_image_79 : decode cX10_image 79 = .ok (.aload_n 0, 1) := by decide +kernel
theorem dX10_image_80 : decode cX10_image 80 = .ok (.getfield 80, 3) := by decide +kernel
theorem dX10_image_83 : decode cX10_image 83 = .ok (.invokestatic 436, 3) := by decide +kernel
theorem dX10_image_86 : decode cX10_image 86 = .ok (.return_, 1) := by decide +kernel
theorem sX10_image_0 {a0 : Value} (hv : am_rf a0 = true) (h : am_R E d mX10_image k n 1 [a0] (a0 :: st) S iv Q) : am_R E d mX10_image k n 0 [a0] st S iv Q := am_aload_n dX10_image_0 rfl rfl hv h
theorem sX10_image_1 {a0 : Value} (h : am_R E d mX10_image k n 2 [a0] (.int 0 :: st) S iv Q) : am_R E d mX10_image k n 1 [a0] st S iv Q := am_iconst dX10_image_1 (by decide) h
theorem sX10_image_2 {ls : List Value} {a : Nat} {x : Int32} (ha : S.1 a = some (.inl 10)) (h : am_R E d mX10_image k n 5 ls st S (am_w iv a 3 x) Q) : am_R E d mX10_image k n 2 ls (.int x :: .ref a :: st) S iv Q := am_putI (ci := 10) dX10_image_2 rfl rfl (by decide) wq_806 uq_10 tyX10_ok nmX10 (Or.inl rfl) rfl ha h
theorem sX10_image_5 {a0 : Value} (hv : am_rf a0 = true) (h : am_R E d mX10_image k n 6 [a0] (a0 :: st) S iv Q) : am_R E d mX10_image k n 5 [a0] st S iv Q := am_aload_n dX10_image_5 rfl rfl hv h
theorem sX10_image_6 {a0 : Value} (h : am_R E d mX10_image k n 7 [a0] (.int 1 :: st) S iv Q) : am_R E d mX10_image k n 6 [a0] st S iv Q := am_iconst dX10_image_6 (by decide) h
theorem sX10_image_7 {ls : List Value} {a : Nat} {x : Int32} (ha : S.1 a = some (.inl 10)) (hx : x = 0 ∨ x = 1) (h : am_R E d mX10_image k n 10 ls st S (am_w iv a 48 x) Q) : am_R E d mX10_image k n 7 ls (.int x :: .ref a :: st) S iv Q := am_putZ (ci := 10) dX10_image_7 rfl rfl (by decide) wq_976 uq_10 tyX10_ok nmX10 (Or.inl rfl) rfl hx ha h
theorem sX10_image_10 {a0 : Value} (hv : am_rf a0 = true) (h : am_R E d mX10_image k n 11 [a0] (a0 :: st) S iv Q) : am_R E d mX10_image k n 10 [a0] st S iv Q := am_aload_n dX10_image_10 rfl rfl hv h
theorem sX10_image_11 {a0 : Value} (hv : am_rf a0 = true) (h : am_R E d mX10_image k n 12 [a0] (a0 :: st) S iv Q) : am_R E d mX10_image k n 11 [a0] st S iv Q := am_aload_n dX10_image_11 rfl rfl hv h
theorem sX10_image_12 {ls : List Value} {a : Nat} (ha : S.1 a = some (.inl 10)) (h : am_R E d mX10_image k n 15 ls (.int (iv a 29) :: st) S iv Q) : am_R E d mX10_image k n 12 ls (.ref a :: st) S iv Q := am_getI (ci := 10) dX10_image_12 rfl rfl (by decide) wq_972 uq_10 rfl ha h
theorem sX10_image_15 {ls : List Value} {a : Nat} {x : Int32} (ha : S.1 a = some (.inl 10)) (h : am_R E d mX10_image k n 18 ls st S (am_w iv a 49 x) Q) : am_R E d mX10_image k n 15 ls (.int x :: .ref a :: st) S iv Q := am_putI (ci := 10) dX10_image_15 rfl rfl (by decide) wq_1123 uq_10 tyX10_ok nmX10 (Or.inl rfl) rfl ha h
theorem sX10_image_18 {a0 : Value} (hv : am_rf a0 = true) (h : am_R E d mX10_image k n 19 [a0] (a0 :: st) S iv Q) : am_R E d mX10_image k n 18 [a0] st S iv Q := am_aload_n dX10_image_18 rfl rfl hv h
theorem sX10_image_19 {a0 : Value} (hv : am_rf a0 = true) (h : am_R E d mX10_image k n 20 [a0] (a0 :: st) S iv Q) : am_R E d mX10_image k n 19 [a0] st S iv Q := am_aload_n dX10_image_19 rfl rfl hv h
theorem sX10_image_20 {ls : List Value} {a : Nat} (ha : S.1 a = some (.inl 10)) (h : am_R E d mX10_image k n 23 ls (.int (iv a 30) :: st) S iv Q) : am_R E d mX10_image k n 20 ls (.ref a :: st) S iv Q := am_getI (ci := 10) dX10_image_20 rfl rfl (by decide) wq_973 uq_10 rfl ha h
theorem sX10_image_23 {ls : List Value} {a : Nat} {x : Int32} (ha : S.1 a = some (.inl 10)) (h : am_R E d mX10_image k n 26 ls st S (am_w iv a 50 x) Q) : am_R E d mX10_image k n 23 ls (.int x :: .ref a :: st) S iv Q := am_putI (ci := 10) dX10_image_23 rfl rfl (by decide) wq_1124 uq_10 tyX10_ok nmX10 (Or.inl rfl) rfl ha h
theorem sX10_image_26 {a0 : Value} (hv : am_rf a0 = true) (h : am_R E d mX10_image k n 27 [a0] (a0 :: st) S iv Q) : am_R E d mX10_image k n 26 [a0] st S iv Q := am_aload_n dX10_image_26 rfl rfl hv h
theorem sX10_image_27 {a0 : Value} (hv : am_rf a0 = true) (h : am_R E d mX10_image k n 28 [a0] (a0 :: st) S iv Q) : am_R E d mX10_image k n 27 [a0] st S iv Q := am_aload_n dX10_image_27 rfl rfl hv h
theorem sX10_image_28 {ls : List Value} {a : Nat} (ha : S.1 a = some (.inl 10)) (h : am_R E d mX10_image k n 31 ls (.int (iv a 31) :: st) S iv Q) : am_R E d mX10_image k n 28 ls (.ref a :: st) S iv Q := am_getI (ci := 10) dX10_image_28 rfl rfl (by decide) wq_974 uq_10 rfl ha h
theorem sX10_image_31 {ls : List Value} {a : Nat} {x : Int32} (ha : S.1 a = some (.inl 10)) (h : am_R E d mX10_image k n 34 ls st S (am_w iv a 51 x) Q) : am_R E d mX10_image k n 31 ls (.int x :: .ref a :: st) S iv Q := am_putI (ci := 10) dX10_image_31 rfl rfl (by decide) wq_1125 uq_10 tyX10_ok nmX10 (Or.inl rfl) rfl ha h
theorem sX10_image_34 {a0 : Value} (hv : am_rf a0 = true) (h : am_R E d mX10_image k n 35 [a0] (a0 :: st) S iv Q) : am_R E d mX10_image k n 34 [a0] st S iv Q := am_aload_n dX10_image_34 rfl rfl hv h
theorem sX10_image_35 {a0 : Value} (hv : am_rf a0 = true) (h : am_R E d mX10_image k n 36 [a0] (a0 :: st) S iv Q) : am_R E d mX10_image k n 35 [a0] st S iv Q := am_aload_n dX10_image_35 rfl rfl hv h
theorem sX10_image_36 {ls : List Value} {a : Nat} (ha : S.1 a = some (.inl 10)) (h : am_R E d mX10_image k n 39 ls (.int (iv a 32) :: st) S iv Q) : am_R E d mX10_image k n 36 ls (.ref a :: st) S iv Q := am_getI (ci := 10) dX10_image_36 rfl rfl (by decide) wq_975 uq_10 rfl ha h
theorem sX10_image_39 {ls : List Value} {a : Nat} {x : Int32} (ha : S.1 a = some (.inl 10)) (h : am_R E d mX10_image k n 42 ls st S (am_w iv a 52 x) Q) : am_R E d mX10_image k n 39 ls (.int x :: .ref a :: st) S iv Q := am_putI (ci := 10) dX10_image_39 rfl rfl (by decide) wq_1126 uq_10 tyX10_ok nmX10 (Or.inl rfl) rfl ha h
theorem sX10_image_42 {a0 : Value} (hv : am_rf a0 = true) (h : am_R E d mX10_image k n 43 [a0] (a0 :: st) S iv Q) : am_R E d mX10_image k n 42 [a0] st S iv Q := am_aload_n dX10_image_42 rfl rfl hv h
theorem sX10_image_43 {ls : List Value} {a b : Nat} (ha : S.1 a = some (.inl 10)) (hb : S.2.1 a 53 = some b) (h : am_R E d mX10_image k n 46 ls (.ref b :: st) S iv Q) : am_R E d mX10_image k n 43 ls (.ref a :: st) S iv Q := am_getR (ci := 10) dX10_image_43 rfl rfl (by decide) wq_802 uq_10 rfl ha hb h
theorem sX10_image_46 {a0 : Value} (hv : am_rf a0 = true) (h : am_R E d mX10_image k n 47 [a0] (a0 :: st) S iv Q) : am_R E d mX10_image k n 46 [a0] st S iv Q := am_aload_n dX10_image_46 rfl rfl hv h
theorem sX10_image_47 {ls : List Value} {a b : Nat} (ha : S.1 a = some (.inl 10)) (hb : S.2.1 a 33 = some b) (h : am_R E d mX10_image k n 50 ls (.ref b :: st) S iv Q) : am_R E d mX10_image k n 47 ls (.ref a :: st) S iv Q := am_getR (ci := 10) dX10_image_47 rfl rfl (by decide) wq_787 uq_10 rfl ha hb h
theorem sX10_image_50 {ls : List Value} {x1 x2 : Value} (hst : (st.map fun v => v.category).sum ≤ 8) (hM : am_M E d mX10_be 0 0 [x1, x2] S iv (am_K3 E (d + 1) mX10_image k n 50 ls st Q)) : am_R E (d + 1) mX10_image k n 50 ls (x2 :: x1 :: st) S iv Q := am_cS (M' := mX10_be) (as := [x1, x2]) dX10_image_50 rfl wq_1129 wq_1130 wq_808 wq_1127 hy_X10_be (by decide) hst (by omega) (by omega) hM
theorem sX10_image_50_k {ls : List Value} {x1 x2 : Value} {k' n' : Nat} (hst : (st.map fun v => v.category).sum ≤ 8) (hM : am_M E d mX10_be k' n' [x1, x2] S iv (am_K3 E (d + 1) mX10_image k n 50 ls st Q)) : am_R E (d + 1) mX10_image (k' + k) (n' + n) 50 ls (x2 :: x1 :: st) S iv Q := am_cS (M' := mX10_be) (as := [x1, x2]) dX10_image_50 rfl wq_1129 wq_1130 wq_808 wq_1127 hy_X10_be (by decide) hst (by omega) (by omega) hM
theorem sX10_image_53 {a0 : Value} (hv : am_rf a0 = true) (h : am_R E d mX10_image k n 54 [a0] (a0 :: st) S iv Q) : am_R E d mX10_image k n 53 [a0] st S iv Q := am_aload_n dX10_image_53 rfl rfl hv h
theorem sX10_image_54 {ls : List Value} {a b : Nat} (ha : S.1 a = some (.inl 10)) (hb : S.2.1 a 54 = some b) (h : am_R E d mX10_image k n 57 ls (.ref b :: st) S iv Q) : am_R E d mX10_image k n 54 ls (.ref a :: st) S iv Q := am_getR (ci := 10) dX10_image_54 rfl rfl (by decide) wq_803 uq_10 rfl ha hb h
theorem sX10_image_57 {a0 : Value} (hv : am_rf a0 = true) (h : am_R E d mX10_image k n 58 [a0] (a0 :: st) S iv Q) : am_R E d mX10_image k n 57 [a0] st S iv Q := am_aload_n dX10_image_57 rfl rfl hv h
theorem sX10_image_58 {ls : List Value} {a b : Nat} (ha : S.1 a = some (.inl 10)) (hb : S.2.1 a 34 = some b) (h : am_R E d mX10_image k n 61 ls (.ref b :: st) S iv Q) : am_R E d mX10_image k n 58 ls (.ref a :: st) S iv Q := am_getR (ci := 10) dX10_image_58 rfl rfl (by decide) wq_788 uq_10 rfl ha hb h
theorem sX10_image_61 {ls : List Value} {x1 x2 : Value} (hst : (st.map fun v => v.category).sum ≤ 8) (hM : am_M E d mX10_be 0 0 [x1, x2] S iv (am_K3 E (d + 1) mX10_image k n 61 ls st Q)) : am_R E (d + 1) mX10_image k n 61 ls (x2 :: x1 :: st) S iv Q := am_cS (M' := mX10_be) (as := [x1, x2]) dX10_image_61 rfl wq_1129 wq_1130 wq_808 wq_1127 hy_X10_be (by decide) hst (by omega) (by omega) hM
theorem sX10_image_61_k {ls : List Value} {x1 x2 : Value} {k' n' : Nat} (hst : (st.map fun v => v.category).sum ≤ 8) (hM : am_M E d mX10_be k' n' [x1, x2] S iv (am_K3 E (d + 1) mX10_image k n 61 ls st Q)) : am_R E (d + 1) mX10_image (k' + k) (n' + n) 61 ls (x2 :: x1 :: st) S iv Q := am_cS (M' := mX10_be) (as := [x1, x2]) dX10_image_61 rfl wq_1129 wq_1130 wq_808 wq_1127 hy_X10_be (by decide) hst (by omega) (by omega) hM
theorem sX10_image_64 {a0 : Value} (hv : am_rf a0 = true) (h : am_R E d mX10_image k n 65 [a0] (a0 :: st) S iv Q) : am_R E d mX10_image k n 64 [a0] st S iv Q := am_aload_n dX10_image_64 rfl rfl hv h
theorem sX10_image_65 {ls : List Value} {a b : Nat} (ha : S.1 a = some (.inl 10)) (hb : S.2.1 a 55 = some b) (h : am_R E d mX10_image k n 68 ls (.ref b :: st) S iv Q) : am_R E d mX10_image k n 65 ls (.ref a :: st) S iv Q := am_getR (ci := 10) dX10_image_65 rfl rfl (by decide) wq_804 uq_10 rfl ha hb h
theorem sX10_image_68 {a0 : Value} (hv : am_rf a0 = true) (h : am_R E d mX10_image k n 69 [a0] (a0 :: st) S iv Q) : am_R E d mX10_image k n 68 [a0] st S iv Q := am_aload_n dX10_image_68 rfl rfl hv h
theorem sX10_image_69 {ls : List Value} {a b : Nat} (ha : S.1 a = some (.inl 10)) (hb : S.2.1 a 35 = some b) (h : am_R E d mX10_image k n 72 ls (.ref b :: st) S iv Q) : am_R E d mX10_image k n 69 ls (.ref a :: st) S iv Q := am_getR (ci := 10) dX10_image_69 rfl rfl (by decide) wq_789 uq_10 rfl ha hb h
theorem sX10_image_72 {ls : List Value} {x1 x2 : Value} (hst : (st.map fun v => v.category).sum ≤ 8) (hM : am_M E d mX10_be 0 0 [x1, x2] S iv (am_K3 E (d + 1) mX10_image k n 72 ls st Q)) : am_R E (d + 1) mX10_image k n 72 ls (x2 :: x1 :: st) S iv Q := am_cS (M' := mX10_be) (as := [x1, x2]) dX10_image_72 rfl wq_1129 wq_1130 wq_808 wq_1127 hy_X10_be (by decide) hst (by omega) (by omega) hM
theorem sX10_image_72_k {ls : List Value} {x1 x2 : Value} {k' n' : Nat} (hst : (st.map fun v => v.category).sum ≤ 8) (hM : am_M E d mX10_be k' n' [x1, x2] S iv (am_K3 E (d + 1) mX10_image k n 72 ls st Q)) : am_R E (d + 1) mX10_image (k' + k) (n' + n) 72 ls (x2 :: x1 :: st) S iv Q := am_cS (M' := mX10_be) (as := [x1, x2]) dX10_image_72 rfl wq_1129 wq_1130 wq_808 wq_1127 hy_X10_be (by decide) hst (by omega) (by omega) hM
theorem sX10_image_75 {a0 : Value} (hv : am_rf a0 = true) (h : am_R E d mX10_image k n 76 [a0] (a0 :: st) S iv Q) : am_R E d mX10_image k n 75 [a0] st S iv Q := am_aload_n dX10_image_75 rfl rfl hv h
theorem sX10_image_76 {ls : List Value} {a b : Nat} (ha : S.1 a = some (.inl 10)) (hb : S.2.1 a 56 = some b) (h : am_R E d mX10_image k n 79 ls (.ref b :: st) S iv Q) : am_R E d mX10_image k n 76 ls (.ref a :: st) S iv Q := am_getR (ci := 10) dX10_image_76 rfl rfl (by decide) wq_805 uq_10 rfl ha hb h
theorem sX10_image_79 {a0 : Value} (hv : am_rf a0 = true) (h : am_R E d mX10_image k n 80 [a0] (a0 :: st) S iv Q) : am_R E d mX10_image k n 79 [a0] st S iv Q := am_aload_n dX10_image_79 rfl rfl hv h
theorem sX10_image_80 {ls : List Value} {a b : Nat} (ha : S.1 a = some (.inl 10)) (hb : S.2.1 a 16 = some b) (h : am_R E d mX10_image k n 83 ls (.ref b :: st) S iv Q) : am_R E d mX10_image k n 80 ls (.ref a :: st) S iv Q := am_getR (ci := 10) dX10_image_80 rfl rfl (by decide) wq_784 uq_10 rfl ha hb h
theorem sX10_image_83 {ls : List Value} {x1 x2 : Value} (hst : (st.map fun v => v.category).sum ≤ 8) (hM : am_M E d mX10_be 0 0 [x1, x2] S iv (am_K3 E (d + 1) mX10_image k n 83 ls st Q)) : am_R E (d + 1) mX10_image k n 83 ls (x2 :: x1 :: st) S iv Q := am_cS (M' := mX10_be) (as := [x1, x2]) dX10_image_83 rfl wq_1129 wq_1130 wq_808 wq_1127 hy_X10_be (by decide) hst (by omega) (by omega) hM
theorem sX10_image_83_k {ls : List Value} {x1 x2 : Value} {k' n' : Nat} (hst : (st.map fun v => v.category).sum ≤ 8) (hM : am_M E d mX10_be k' n' [x1, x2] S iv (am_K3 E (d + 1) mX10_image k n 83 ls st Q)) : am_R E (d + 1) mX10_image (k' + k) (n' + n) 83 ls (x2 :: x1 :: st) S iv Q := am_cS (M' := mX10_be) (as := [x1, x2]) dX10_image_83 rfl wq_1129 wq_1130 wq_808 wq_1127 hy_X10_be (by decide) hst (by omega) (by omega) hM
theorem sX10_image_86 {ls : List Value} (h : Q (.inl none) S iv) : am_R E d mX10_image k n 86 ls [] S iv Q := am_return dX10_image_86 rfl h
theorem dX10_restore_0 : decode cX10_restore 0 = .ok (.aload_n 0, 1) := by decide +kernel
theorem dX10_restore_1 : decode cX10_restore 1 = .ok (.iconst 0, 1) := by decide +kernel
theorem dX10_restore_2 : decode cX10_restore 2 = .ok (.putfield 143, 3) := by decide +kernel
theorem dX10_restore_5 : decode cX10_restore 5 = .ok (.aload_n 0, 1) := by decide +kernel
theorem dX10_restore_6 : decode cX10_restore 6 = .ok (.getfield 317, 3) := by decide +kernel
theorem dX10_restore_9 : decode cX10_restore 9 = .ok (.ifCond .ne 5, 3) := by decide +kernel
theorem dX10_restore_12 : decode cX10_restore 12 = .ok (.iconst 0, 1) := by decide +kernel
theorem dX10_restore_13 : decode cX10_restore 13 = .ok (.ireturn, 1) := by decide +kernel
theorem dX10_restore_14 : decode cX10_restore 14 = .ok (.aload_n 0, 1) := by decide +kernel
theorem dX10_restore_15 : decode cX10_restore 15 = .ok (.aload_n 0, 1) := by decide +kernel
theorem dX10_restore_16 : decode cX10_restore 16 = .ok (.getfield 424, 3) := by decide +kernel
theorem dX10_restore_19 : decode cX10_restore 19 = .ok (.putfield 306, 3) := by decide +kernel
theorem dX10_restore_22 : decode cX10_restore 22 = .ok (.aload_n 0, 1) := by decide +kernel
theorem dX10_restore_23 : decode cX10_restore 23 = .ok (.aload_n 0, 1) := by decide +kernel
theorem dX10_restore_24 : decode cX10_restore 24 = .ok (.getfield 427, 3) := by decide +kernel
theorem dX10_restore_27 : decode cX10_restore 27 = .ok (.putfield 308, 3) := by decide +kernel
theorem dX10_restore_30 : decode cX10_restore 30 = .ok (.aload_n 0, 1) := by decide +kernel
theorem dX10_restore_31 : decode cX10_restore 31 = .ok (.aload_n 0, 1) := by decide +kernel
theorem dX10_restore_32 : decode cX10_restore 32 = .ok (.getfield 430, 3) := by decide +kernel
theorem dX10_restore_35 : decode cX10_restore 35 = .ok (.putfield 311, 3) := by decide +kernel
theorem dX10_restore_38 : decode cX10_restore 38 = .ok (.aload_n 0, 1) := by decide +kernel
theorem dX10_restore_39 : decode cX10_restore 39 = .ok (.aload_n 0, 1) := by decide +kernel
theorem dX10_restore_40 : decode cX10_restore 40 = .ok (.getfield 433, 3) := by decide +kernel
theorem dX10_restore_43 : decode cX10_restore 43 = .ok (.putfield 314, 3) := by decide +kernel
theorem dX10_restore_46 : decode cX10_restore 46 = .ok (.aload_n 0, 1) := by decide +kernel
theorem dX10_restore_47 : decode cX10_restore 47 = .ok (.getfield 90, 3) := by decide +kernel
theorem dX10_restore_50 : decode cX10_restore 50 = .ok (.aload_n 0, 1) := by decide +kernel
theorem dX10_restore_51 : decode cX10_restore 51 = .ok (.getfield 131, 3) := by decide +kernel
theorem dX10_restore_54 : decode cX10_restore 54 = .ok (.invokestatic 436, 3) := by decide +kernel
theorem dX10_restore_57 : decode cX10_restore 57 = .ok (.aload_n 0, 1) := by decide +kernel
theorem dX10_restore_58 : decode cX10_restore 58 = .ok (.getfield 93, 3) := by decide +kernel
theorem dX10_restore_61 : decode cX10_restore 61 = .ok (.aload_n 0, 1) := by decide +kernel
theorem dX10_restore_62 : decode cX10_restore 62 = .ok (.getfield 134, 3) := by decide +kernel
theorem dX10_restore_65 : decode cX10_restore 65 = .ok (.invokestatic 436, 3) := by decide +kernel
theorem dX10_restore_68 : decode cX10_restore 68 = .ok (.aload_n 0, 1) := by decide +kernel
theorem dX10_restore_69 : decode cX10_restore 69 = .ok (.getfield 96, 3) := by decide +kernel
theorem dX10_restore_72 : decode cX10_restore 72 = .ok (.aload_n 0, 1) := by decide +kernel
theorem dX10_restore_73 : decode cX10_restore 73 = .ok (.getfield 137, 3) := by decide +kernel
theorem dX10_restore_76 : decode cX10_restore 76 = .ok (.invokestatic 436, 3) := by decide +kernel
theorem dX10_restore_79 : decode cX10_restore 79 = .ok (.aload_n 0, 1) := by decide +kernel
theorem dX10_restore_80 : decode cX10_restore 80 = .ok (.getfield 80, 3) := by decide +kernel
theorem dX10_restore_83 : decode cX10_restore 83 = .ok (.aload_n 0, 1) := by decide +kernel
theorem dX10_restore_84 : decode cX10_restore 84 = .ok (.getfield 140, 3) := by decide +kernel
theorem dX10_restore_87 : decode cX10_restore 87 = .ok (.invokestatic 436, 3) := by decide +kernel
theorem dX10_restore_90 : decode cX10_restore 90 = .ok (.iconst 1, 1) := by decide +kernel
theorem dX10_restore_91 : decode cX10_restore 91 = .ok (.ireturn, 1) := by decide +kernel
theorem sX10_restore_0 {a0 : Value} (hv : am_rf a0 = true) (h : am_R E d mX10_restore k n 1 [a0] (a0 :: st) S iv Q) : am_R E d mX10_restore k n 0 [a0] st S iv Q := am_aload_n dX10_restore_0 rfl rfl hv h
theorem sX10_restore_1 {a0 : Value} (h : am_R E d mX10_restore k n 2 [a0] (.int 0 :: st) S iv Q) : am_R E d mX10_restore k n 1 [a0] st S iv Q := am_iconst dX10_restore_1 (by decide) h
theorem sX10_restore_2 {ls : List Value} {a : Nat} {x : Int32} (ha : S.1 a = some (.inl 10)) (h : am_R E d mX10_restore k n 5 ls st S (am_w iv a 3 x) Q) : am_R E d mX10_restore k n 2 ls (.int x :: .ref a :: st) S iv Q := am_putI (ci := 10) dX10_restore_2 rfl rfl (by decide) wq_806 uq_10 tyX10_ok nmX10 (Or.inl rfl) rfl ha h
theorem sX10_restore_5 {a0 : Value} (hv : am_rf a0 = true) (h : am_R E d mX10_restore k n 6 [a0] (a0 :: st) S iv Q) : am_R E d mX10_restore k n 5 [a0] st S iv Q := am_aload_n dX10_restore_5 rfl rfl hv h
theorem sX10_restore_6 {ls : List Value} {a : Nat} (ha : S.1 a = some (.inl 10)) (h : am_R E d mX10_restore k n 9 ls (.int (iv a 48) :: st) S iv Q) : am_R E d mX10_restore k n 6 ls (.ref a :: st) S iv Q := am_getI (ci := 10) dX10_restore_6 rfl rfl (by decide) wq_976 uq_10 rfl ha h
theorem sX10_restore_9 {ls : List Value} {x : Int32} (kt : ¬ x = 0 → am_R E d mX10_restore k n 14 ls st S iv Q) (kf : x = 0 → am_R E d mX10_restore k n 12 ls st S iv Q) : am_R E d mX10_restore k n 9 ls (.int x :: st) S iv Q := am_if_ne dX10_restore_9 (by decide) kt kf
theorem sX10_restore_12 {a0 : Value} (h : am_R E d mX10_restore k n 13 [a0] (.int 0 :: st) S iv Q) : am_R E d mX10_restore k n 12 [a0] st S iv Q := am_iconst dX10_restore_12 (by decide) h
theorem sX10_restore_13 {ls : List Value} {x : Int32} (hn : narrow .boolean (.int x) = .int x) (h : Q (.inl (some (.int x))) S iv) : am_R E d mX10_restore k n 13 ls [.int x] S iv Q := am_zreturn dX10_restore_13 rfl hn h
theorem sX10_restore_14 {a0 : Value} (hv : am_rf a0 = true) (h : am_R E d mX10_restore k n 15 [a0] (a0 :: st) S iv Q) : am_R E d mX10_restore k n 14 [a0] st S iv Q := am_aload_n dX10_restore_14 rfl rfl hv h
theorem sX10_restore_15 {a0 : Value} (hv : am_rf a0 = true) (h : am_R E d mX10_restore k n 16 [a0] (a0 :: st) S iv Q) : am_R E d mX10_restore k n 15 [a0] st S iv Q := am_aload_n dX10_restore_15 rfl rfl hv h
theorem sX10_restore_16 {ls : List Value} {a : Nat} (ha : S.1 a = some (.inl 10)) (h : am_R E d mX10_restore k n 19 ls (.int (iv a 49) :: st) S iv Q) : am_R E d mX10_restore k n 16 ls (.ref a :: st) S iv Q := am_getI (ci := 10) dX10_restore_16 rfl rfl (by decide) wq_1123 uq_10 rfl ha h
theorem sX10_restore_19 {ls : List Value} {a : Nat} {x : Int32} (ha : S.1 a = some (.inl 10)) (h : am_R E d mX10_restore k n 22 ls st S (am_w iv a 29 x) Q) : am_R E d mX10_restore k n 19 ls (.int x :: .ref a :: st) S iv Q := am_putI (ci := 10) dX10_restore_19 rfl rfl (by decide) wq_972 uq_10 tyX10_ok nmX10 (Or.inl rfl) rfl ha h
theorem sX10_restore_22 {a0 : Value} (hv : am_rf a0 = true) (h : am_R E d mX10_restore k n 23 [a0] (a0 :: st) S iv Q) : am_R E d mX10_restore k n 22 [a0] st S iv Q := am_aload_n dX10_restore_22 rfl rfl hv h
theorem sX10_restore_23 {a0 : Value} (hv : am_rf a0 = true) (h : am_R E d mX10_restore k n 24 [a0] (a0 :: st) S iv Q) : am_R E d mX10_restore k n 23 [a0] st S iv Q := am_aload_n dX10_restore_23 rfl rfl hv h
theorem sX10_restore_24 {ls : List Value} {a : Nat} (ha : S.1 a = some (.inl 10)) (h : am_R E d mX10_restore k n 27 ls (.int (iv a 50) :: st) S iv Q) : am_R E d mX10_restore k n 24 ls (.ref a :: st) S iv Q := am_getI (ci := 10) dX10_restore_24 rfl rfl (by decide) wq_1124 uq_10 rfl ha h
theorem sX10_restore_27 {ls : List Value} {a : Nat} {x : Int32} (ha : S.1 a = some (.inl 10)) (h : am_R E d mX10_restore k n 30 ls st S (am_w iv a 30 x) Q) : am_R E d mX10_restore k n 27 ls (.int x :: .ref a :: st) S iv Q := am_putI (ci := 10) dX10_restore_27 rfl rfl (by decide) wq_973 uq_10 tyX10_ok nmX10 (Or.inl rfl) rfl ha h
theorem sX10_restore_30 {a0 : Value} (hv : am_rf a0 = true) (h : am_R E d mX10_restore k n 31 [a0] (a0 :: st) S iv Q) : am_R E d mX10_restore k n 30 [a0] st S iv Q := am_aload_n dX10_restore_30 rfl rfl hv h
theorem sX10_restore_31 {a0 : Value} (hv : am_rf a0 = true) (h : am_R E d mX10_restore k n 32 [a0] (a0 :: st) S iv Q) : am_R E d mX10_restore k n 31 [a0] st S iv Q := am_aload_n dX10_restore_31 rfl rfl hv h
theorem sX10_restore_32 {ls : List Value} {a : Nat} (ha : S.1 a = some (.inl 10)) (h : am_R E d mX10_restore k n 35 ls (.int (iv a 51) :: st) S iv Q) : am_R E d mX10_restore k n 32 ls (.ref a :: st) S iv Q := am_getI (ci := 10) dX10_restore_32 rfl rfl (by decide) wq_1125 uq_10 rfl ha h
theorem sX10_restore_35 {ls : List Value} {a : Nat} {x : Int32} (ha : S.1 a = some (.inl 10)) (h : am_R E d mX10_restore k n 38 ls st S (am_w iv a 31 x) Q) : am_R E d mX10_restore k n 35 ls (.int x :: .ref a :: st) S iv Q := am_putI (ci := 10) dX10_restore_35 rfl rfl (by decide) wq_974 uq_10 tyX10_ok nmX10 (Or.inl rfl) rfl ha h
theorem sX10_restore_38 {a0 : Value} (hv : am_rf a0 = true) (h : am_R E d mX10_restore k n 39 [a0] (a0 :: st) S iv Q) : am_R E d mX10_restore k n 38 [a0] st S iv Q := am_aload_n dX10_restore_38 rfl rfl hv h
theorem sX10_restore_39 {a0 : Value} (hv : am_rf a0 = true) (h : am_R E d mX10_restore k n 40 [a0] (a0 :: st) S iv Q) : am_R E d mX10_restore k n 39 [a0] st S iv Q := am_aload_n dX10_restore_39 rfl rfl hv h
theorem sX10_restore_40 {ls : List Value} {a : Nat} (ha : S.1 a = some (.inl 10)) (h : am_R E d mX10_restore k n 43 ls (.int (iv a 52) :: st) S iv Q) : am_R E d mX10_restore k n 40 ls (.ref a :: st) S iv Q := am_getI (ci := 10) dX10_restore_40 rfl rfl (by decide) wq_1126 uq_10 rfl ha h
theorem sX10_restore_43 {ls : List Value} {a : Nat} {x : Int32} (ha : S.1 a = some (.inl 10)) (h : am_R E d mX10_restore k n 46 ls st S (am_w iv a 32 x) Q) : am_R E d mX10_restore k n 43 ls (.int x :: .ref a :: st) S iv Q := am_putI (ci := 10) dX10_restore_43 rfl rfl (by decide) wq_975 uq_10 tyX10_ok nmX10 (Or.inl rfl) rfl ha h
theorem sX10_restore_46 {a0 : Value} (hv : am_rf a0 = true) (h : am_R E d mX10_restore k n 47 [a0] (a0 :: st) S iv Q) : am_R E d mX10_restore k n 46 [a0] st S iv Q := am_aload_n dX10_restore_46 rfl rfl hv h
theorem sX10_restore_47 {ls : List Value} {a b : Nat} (ha : S.1 a = some (.inl 10)) (hb : S.2.1 a 33 = some b) (h : am_R E d mX10_restore k n 50 ls (.ref b :: st) S iv Q) : am_R E d mX10_restore k n 47 ls (.ref a :: st) S iv Q := am_getR (ci := 10) dX10_restore_47 rfl rfl (by decide) wq_787 uq_10 rfl ha hb h
theorem sX10_restore_50 {a0 : Value} (hv : am_rf a0 = true) (h : am_R E d mX10_restore k n 51 [a0] (a0 :: st) S iv Q) : am_R E d mX10_restore k n 50 [a0] st S iv Q := am_aload_n dX10_restore_50 rfl rfl hv h
theorem sX10_restore_51 {ls : List Value} {a b : Nat} (ha : S.1 a = some (.inl 10)) (hb : S.2.1 a 53 = some b) (h : am_R E d mX10_restore k n 54 ls (.ref b :: st) S iv Q) : am_R E d mX10_restore k n 51 ls (.ref a :: st) S iv Q := am_getR (ci := 10) dX10_restore_51 rfl rfl (by decide) wq_802 uq_10 rfl ha hb h
theorem sX10_restore_54 {ls : List Value} {x1 x2 : Value} (hst : (st.map fun v => v.category).sum ≤ 8) (hM : am_M E d mX10_be 0 0 [x1, x2] S iv (am_K3 E (d + 1) mX10_restore k n 54 ls st Q)) : am_R E (d + 1) mX10_restore k n 54 ls (x2 :: x1 :: st) S iv Q := am_cS (M' := mX10_be) (as := [x1, x2]) dX10_restore_54 rfl wq_1129 wq_1130 wq_808 wq_1127 hy_X10_be (by decide) hst (by omega) (by omega) hM
theorem sX10_restore_54_k {ls : List Value} {x1 x2 : Value} {k' n' : Nat} (hst : (st.map fun v => v.category).sum ≤ 8) (hM : am_M E d mX10_be k' n' [x1, x2] S iv (am_K3 E (d + 1) mX10_restore k n 54 ls st Q)) : am_R E (d + 1) mX10_restore (k' + k) (n' + n) 54 ls (x2 :: x1 :: st) S iv Q := am_cS (M' := mX10_be) (as := [x1, x2]) dX10_restore_54 rfl wq_1129 wq_1130 wq_808 wq_1127 hy_X10_be (by decide) hst (by omega) (by omega) hM
theorem sX10_restore_57 {a0 : Value} (hv : am_rf a0 = true) (h : am_R E d mX10_restore k n 58 [a0] (a0 :: st) S iv Q) : am_R E d mX10_restore k n 57 [a0] st S iv Q := am_aload_n dX10_restore_57 rfl rfl hv h
theorem sX10_restore_58 {ls : List Value} {a b : Nat} (ha : S.1 a = some (.inl 10)) (hb : S.2.1 a 34 = some b) (h : am_R E d mX10_restore k n 61 ls (.ref b :: st) S iv Q) : am_R E d mX10_restore k n 58 ls (.ref a :: st) S iv Q := am_getR (ci := 10) dX10_restore_58 rfl rfl (by decide) wq_788 uq_10 rfl ha hb h
theorem sX10_restore_61 {a0 : Value} (hv : am_rf a0 = true) (h : am_R E d mX10_restore k n 62 [a0] (a0 :: st) S iv Q) : am_R E d mX10_restore k n 61 [a0] st S iv Q := am_aload_n dX10_restore_61 rfl rfl hv h
theorem sX10_restore_62 {ls : List Value} {a b : Nat} (ha : S.1 a = some (.inl 10)) (hb : S.2.1 a 54 = some b) (h : am_R E d mX10_restore k n 65 ls (.ref b :: st) S iv Q) : am_R E d mX10_restore k n 62 ls (.ref a :: st) S iv Q := am_getR (ci := 10) dX10_restore_62 rfl rfl (by decide) wq_803 uq_10 rfl ha hb h
theorem sX10_restore_65 {ls : List Value} {x1 x2 : Value} (hst : (st.map fun v => v.category).sum ≤ 8) (hM : am_M E d mX10_be 0 0 [x1, x2] S iv (am_K3 E (d + 1) mX10_restore k n 65 ls st Q)) : am_R E (d + 1) mX10_restore k n 65 ls (x2 :: x1 :: st) S iv Q := am_cS (M' := mX10_be) (as := [x1, x2]) dX10_restore_65 rfl wq_1129 wq_1130 wq_808 wq_1127 hy_X10_be (by decide) hst (by omega) (by omega) hM
theorem sX10_restore_65_k {ls : List Value} {x1 x2 : Value} {k' n' : Nat} (hst : (st.map fun v => v.category).sum ≤ 8) (hM : am_M E d mX10_be k' n' [x1, x2] S iv (am_K3 E (d + 1) mX10_restore k n 65 ls st Q)) : am_R E (d + 1) mX10_restore (k' + k) (n' + n) 65 ls (x2 :: x1 :: st) S iv Q := am_cS (M' := mX10_be) (as := [x1, x2]) dX10_restore_65 rfl wq_1129 wq_1130 wq_808 wq_1127 hy_X10_be (by decide) hst (by omega) (by omega) hM
theorem sX10_restore_68 {a0 : Value} (hv : am_rf a0 = true) (h : am_R E d mX10_restore k n 69 [a0] (a0 :: st) S iv Q) : am_R E d mX10_restore k n 68 [a0] st S iv Q := am_aload_n dX10_restore_68 rfl rfl hv h
theorem sX10_restore_69 {ls : List Value} {a b : Nat} (ha : S.1 a = some (.inl 10)) (hb : S.2.1 a 35 = some b) (h : am_R E d mX10_restore k n 72 ls (.ref b :: st) S iv Q) : am_R E d mX10_restore k n 69 ls (.ref a :: st) S iv Q := am_getR (ci := 10) dX10_restore_69 rfl rfl (by decide) wq_789 uq_10 rfl ha hb h
theorem sX10_restore_72 {a0 : Value} (hv : am_rf a0 = true) (h : am_R E d mX10_restore k n 73 [a0] (a0 :: st) S iv Q) : am_R E d mX10_restore k n 72 [a0] st S iv Q := am_aload_n dX10_restore_72 rfl rfl hv h
theorem sX10_restore_73 {ls : List Value} {a b : Nat} (ha : S.1 a = some (.inl 10)) (hb : S.2.1 a 55 = some b) (h : am_R E d mX10_restore k n 76 ls (.ref b :: st) S iv Q) : am_R E d mX10_restore k n 73 ls (.ref a :: st) S iv Q := am_getR (ci := 10) dX10_restore_73 rfl rfl (by decide) wq_804 uq_10 rfl ha hb h
theorem sX10_restore_76 {ls : List Value} {x1 x2 : Value} (hst : (st.map fun v => v.category).sum ≤ 8) (hM : am_M E d mX10_be 0 0 [x1, x2] S iv (am_K3 E (d + 1) mX10_restore k n 76 ls st Q)) : am_R E (d + 1) mX10_restore k n 76 ls (x2 :: x1 :: st) S iv Q := am_cS (M' := mX10_be) (as := [x1, x2]) dX10_restore_76 rfl wq_1129 wq_1130 wq_808 wq_1127 hy_X10_be (by decide) hst (by omega) (by omega) hM
theorem sX10_restore_76_k {ls : List Value} {x1 x2 : Value} {k' n' : Nat} (hst : (st.map fun v => v.category).sum ≤ 8) (hM : am_M E d mX10_be k' n' [x1, x2] S iv (am_K3 E (d + 1) mX10_restore k n 76 ls st Q)) : am_R E (d + 1) mX10_restore (k' + k) (n' + n) 76 ls (x2 :: x1 :: st) S iv Q := am_cS (M' := mX10_be) (as := [x1, x2]) dX10_restore_76 rfl wq_1129 wq_1130 wq_808 wq_1127 hy_X10_be (by decide) hst (by omega) (by omega) hM
theorem sX10_restore_79 {a0 : Value} (hv : am_rf a0 = true) (h : am_R E d mX10_restore k n 80 [a0] (a0 :: st) S iv Q) : am_R E d mX10_restore k n 79 [a0] st S iv Q := am_aload_n dX10_restore_79 rfl rfl hv h
theorem sX10_restore_80 {ls : List Value} {a b : Nat} (ha : S.1 a = some (.inl 10)) (hb : S.2.1 a 16 = some b) (h : am_R E d mX10_restore k n 83 ls (.ref b :: st) S iv Q) : am_R E d mX10_restore k n 80 ls (.ref a :: st) S iv Q := am_getR (ci := 10) dX10_restore_80 rfl rfl (by decide) wq_784 uq_10 rfl ha hb h
theorem sX10_restore_83 {a0 : Value} (hv : am_rf a0 = true) (h : am_R E d mX10_restore k n 84 [a0] (a0 :: st) S iv Q) : am_R E d mX10_restore k n 83 [a0] st S iv Q := am_aload_n dX10_restore_83 rfl rfl hv h
theorem sX10_restore_84 {ls : List Value} {a b : Nat} (ha : S.1 a = some (.inl 10)) (hb : S.2.1 a 56 = some b) (h : am_R E d mX10_restore k n 87 ls (.ref b :: st) S iv Q) : am_R E d mX10_restore k n 84 ls (.ref a :: st) S iv Q := am_getR (ci := 10) dX10_restore_84 rfl rfl (by decide) wq_805 uq_10 rfl ha hb h
theorem sX10_restore_87 {ls : List Value} {x1 x2 : Value} (hst : (st.map fun v => v.category).sum ≤ 8) (hM : am_M E d mX10_be 0 0 [x1, x2] S iv (am_K3 E (d + 1) mX10_restore k n 87 ls st Q)) : am_R E (d + 1) mX10_restore k n 87 ls (x2 :: x1 :: st) S iv Q := am_cS (M' := mX10_be) (as := [x1, x2]) dX10_restore_87 rfl wq_1129 wq_1130 wq_808 wq_1127 hy_X10_be (by decide) hst (by omega) (by omega) hM
theorem sX10_restore_87_k {ls : List Value} {x1 x2 : Value} {k' n' : Nat} (hst : (st.map fun v => v.category).sum ≤ 8) (hM : am_M E d mX10_be k' n' [x1, x2] S iv (am_K3 E (d + 1) mX10_restore k n 87 ls st Q)) : am_R E (d + 1) mX10_restore (k' + k) (n' + n) 87 ls (x2 :: x1 :: st) S iv Q := am_cS (M' := mX10_be) (as := [x1, x2]) dX10_restore_87 rfl wq_1129 wq_1130 wq_808 wq_1127 hy_X10_be (by decide) hst (by omega) (by omega) hM
theorem sX10_restore_90 {a0 : Value} (h : am_R E d mX10_restore k n 91 [a0] (.int 1 :: st) S iv Q) : am_R E d mX10_restore k n 90 [a0] st S iv Q := am_iconst dX10_restore_90 (by decide) h
theorem sX10_restore_91 {ls : List Value} {x : Int32} (hn : narrow .boolean (.int x) = .int x) (h : Q (.inl (some (.int x))) S iv) : am_R E d mX10_restore k n 91 ls [.int x] S iv Q := am_zreturn dX10_restore_91 rfl hn h
end R13_Xm3
