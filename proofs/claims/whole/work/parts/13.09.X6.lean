section R13_X6
variable {E : am_E} {d k n : Nat} {st : List Value} {S : am_S} {iv : am_I} {Q : am_O → am_S → am_I → Prop}
theorem dX6_init_0 : decode cX6_init 0 = .ok (.aload_n 0, 1) := by decide +kernel
theorem dX6_init_1 : decode cX6_init 1 = .ok (.invokespecial 5, 3) := by decide +kernel
theorem dX6_init_4 : decode cX6_init 4 = .ok (.aload_n 0, 1) := by decide +kernel
theorem dX6_init_5 : decode cX6_init 5 = .ok (.iconst 0, 1) := by decide +kernel
theorem dX6_init_6 : decode cX6_init 6 = .ok (.newarray .int, 2) := by decide +kernel
theorem dX6_init_8 : decode cX6_init 8 = .ok (.putfield 11, 3) := by decide +kernel
theorem dX6_init_11 : decode cX6_init 11 = .ok (.aload_n 0, 1) := by decide +kernel
theorem dX6_init_12 : decode cX6_init 12 = .ok (.iconst 0, 1) := by decide +kernel
theorem dX6_init_13 : decode cX6_init 13 = .ok (.newarray .int, 2) := by decide +kernel
theorem dX6_init_15 : decode cX6_init 15 = .ok (.putfield 15, 3) := by decide +kernel
theorem dX6_init_18 : decode cX6_init 18 = .ok (.return_, 1) := by decide +kernel
theorem sX6_init_0 {a0 : Value} (hv : am_rf a0 = true) (h : am_R E d mX6_init k n 1 [a0] (a0 :: st) S iv Q) : am_R E d mX6_init k n 0 [a0] st S iv Q := am_aload_n dX6_init_0 rfl rfl hv h
theorem sX6_init_1 {ls : List Value} {a : Nat} (hst : (st.map fun v => v.category).sum ≤ 8) (h : am_R E (d + 1) mX6_init k n 4 ls st S iv Q) : am_R E (d + 1) mX6_init k n 1 ls (.ref a :: st) S iv Q := am_objInit dX6_init_1 wq_504 wq_63 wq_64 hst (by omega) h
theorem sX6_init_4 {a0 : Value} (hv : am_rf a0 = true) (h : am_R E d mX6_init k n 5 [a0] (a0 :: st) S iv Q) : am_R E d mX6_init k n 4 [a0] st S iv Q := am_aload_n dX6_init_4 rfl rfl hv h
theorem sX6_init_5 {a0 : Value} (h : am_R E d mX6_init k n 6 [a0] (.int 0 :: st) S iv Q) : am_R E d mX6_init k n 5 [a0] st S iv Q := am_iconst dX6_init_5 (by decide) h
theorem sX6_init_6 {ls : List Value} {x : Int32} {m : Nat} (hx : ¬ x < 0) (hm : x.toNatClampNeg = m) (hb : m ≤ 50000000) (h : am_R E d mX6_init k n 8 ls (.ref S.2.2.2 :: st) (am_new S (.inr (.int, m))) (am_0 S iv) Q) : am_R E d mX6_init (k + 1) (n + m) 6 ls (.int x :: st) S iv Q := am_nI dX6_init_6 wq_65 hx hm (by omega) (by omega) (by omega) h
theorem sX6_init_8 {ls : List Value} {a b : Nat} (ha : S.1 a = some (.inl 6)) (h : am_R E d mX6_init k n 11 ls st (am_wr S a 0 b) iv Q) : am_R E d mX6_init k n 8 ls (.ref b :: .ref a :: st) S iv Q := am_putR (ci := 6) dX6_init_8 rfl rfl (by decide) wq_505 uq_6 tyX6_ok nmX6 (Or.inl rfl) rfl ha h
theorem sX6_init_11 {a0 : Value} (hv : am_rf a0 = true) (h : am_R E d mX6_init k n 12 [a0] (a0 :: st) S iv Q) : am_R E d mX6_init k n 11 [a0] st S iv Q := am_aload_n dX6_init_11 rfl rfl hv h
theorem sX6_init_12 {a0 : Value} (h : am_R E d mX6_init k n 13 [a0] (.int 0 :: st) S iv Q) : am_R E d mX6_init k n 12 [a0] st S iv Q := am_iconst dX6_init_12 (by decide) h
theorem sX6_init_13 {ls : List Value} {x : Int32} {m : Nat} (hx : ¬ x < 0) (hm : x.toNatClampNeg = m) (hb : m ≤ 50000000) (h : am_R E d mX6_init k n 15 ls (.ref S.2.2.2 :: st) (am_new S (.inr (.int, m))) (am_0 S iv) Q) : am_R E d mX6_init (k + 1) (n + m) 13 ls (.int x :: st) S iv Q := am_nI dX6_init_13 wq_65 hx hm (by omega) (by omega) (by omega) h
theorem sX6_init_15 {ls : List Value} {a b : Nat} (ha : S.1 a = some (.inl 6)) (h : am_R E d mX6_init k n 18 ls st (am_wr S a 1 b) iv Q) : am_R E d mX6_init k n 15 ls (.ref b :: .ref a :: st) S iv Q := am_putR (ci := 6) dX6_init_15 rfl rfl (by decide) wq_506 uq_6 tyX6_ok nmX6 (Or.inl rfl) rfl ha h
theorem sX6_init_18 {ls : List Value} (h : Q (.inl none) S iv) : am_R E d mX6_init k n 18 ls [] S iv Q := am_return dX6_init_18 rfl h
theorem dX6_seek_0 : decode cX6_seek 0 = .ok (.aload_n 1, 1) := by decide +kernel
theorem dX6_seek_1 : decode cX6_seek 1 = .ok (.getfield 18, 3) := by decide +kernel
theorem dX6_seek_4 : decode cX6_seek 4 = .ok (.getfield 24, 3) := by decide +kernel
theorem dX6_seek_7 : decode cX6_seek 7 = .ok (.istore 6, 2) := by decide +kernel
theorem dX6_seek_9 : decode cX6_seek 9 = .ok (.aload_n 0, 1) := by decide +kernel
theorem dX6_seek_10 : decode cX6_seek 10 = .ok (.aload_n 1, 1) := by decide +kernel
theorem dX6_seek_11 : decode cX6_seek 11 = .ok (.getfield 18, 3) := by decide +kernel
theorem dX6_seek_14 : decode cX6_seek 14 = .ok (.invokevirtual 30, 3) := by decide +kernel
theorem dX6_seek_17 : decode cX6_seek 17 = .ok (.putfield 34, 3) := by decide +kernel
theorem dX6_seek_20 : decode cX6_seek 20 = .ok (.iload 4, 2) := by decide +kernel
theorem dX6_seek_22 : decode cX6_seek 22 = .ok (.aload_n 0, 1) := by decide +kernel
theorem dX6_seek_23 : decode cX6_seek 23 = .ok (.getfield 34, 3) := by decide +kernel
theorem dX6_seek_26 : decode cX6_seek 26 = .ok (.if_icmp .le 7, 3) := by decide +kernel
theorem dX6_seek_29 : decode cX6_seek 29 = .ok (.iconst 1, 1) := by decide +kernel
theorem dX6_seek_30 : decode cX6_seek 30 = .ok (.goto 4, 3) := by decide +kernel
theorem dX6_seek_33 : decode cX6_seek 33 = .ok (.iconst 0, 1) := by decide +kernel
theorem dX6_seek_34 : decode cX6_seek 34 = .ok (.istore 7, 2) := by decide +kernel
theorem dX6_seek_36 : decode cX6_seek 36 = .ok (.aload_n 0, 1) := by decide +kernel
theorem dX6_seek_37 : decode cX6_seek 37 = .ok (.iload 7, 2) := by decide +kernel
theorem dX6_seek_39 : decode cX6_seek 39 = .ok (.ifCond .eq 16, 3) := by decide +kernel
theorem dX6_seek_42 : decode cX6_seek 42 = .ok (.iload 6, 2) := by decide +kernel
theorem dX6_seek_44 : decode cX6_seek 44 = .ok (.aload_n 1, 1) := by decide +kernel
theorem dX6_seek_45 : decode cX6_seek 45 = .ok (.getfield 37, 3) := by decide +kernel
theorem dX6_seek_48 : decode cX6_seek 48 = .ok (.getfield 41, 3) := by decide +kernel
theorem dX6_seek_51 : decode cX6_seek 51 = .ok (.iadd, 1) := by decide +kernel
theorem dX6_seek_52 : decode cX6_seek 52 = .ok (.goto 5, 3) := by decide +kernel
theorem dX6_seek_55 : decode cX6_seek 55 = .ok (.iload 6, 2) := by decide +kernel
theorem dX6_seek_57 : decode cX6_seek 57 = .ok (.invokevirtual 44, 3) := by decide +kernel
theorem dX6_seek_60 : decode cX6_seek 60 = .ok (.iload 7, 2) := by decide +kernel
theorem dX6_seek_62 : decode cX6_seek 62 = .ok (.ifCond .eq 7, 3) := by decide +kernel
theorem dX6_seek_65 : decode cX6_seek 65 = .ok (.iload_n 2, 1) := by decide +kernel
theorem dX6_seek_66 : decode cX6_seek 66 = .ok (.goto 9, 3) := by decide +kernel
theorem dX6_seek_69 : decode cX6_seek 69 = .ok (.iload_n 2, 1) := by decide +kernel
theorem dX6_seek_70 : decode cX6_seek 70 = .ok (.aload_n 0, 1) := by decide +kernel
theorem dX6_seek_71 : decode cX6_seek 71 = .ok (.getfield 34, 3) := by decide +kernel
theorem dX6_seek_74 : decode cX6_seek 74 = .ok (.iand, 1) := by decide +kernel
theorem dX6_seek_75 : decode cX6_seek 75 = .ok (.istore 8, 2) := by decide +kernel
theorem dX6_seek_77 : decode cX6_seek 77 = .ok (.aload_n 0, 1) := by decide +kernel
theorem dX6_seek_78 : decode cX6_seek 78 = .ok (.iload 8, 2) := by decide +kernel
theorem dX6_seek_80 : decode cX6_seek 80 = .ok (.iconst 0, 1) := by decide +kernel
theorem dX6_seek_81 : decode cX6_seek 81 = .ok (.invokevirtual 48, 3) := by decide +kernel
theorem dX6_seek_84 : decode cX6_seek 84 = .ok (.pop, 1) := by decide +kernel
theorem dX6_seek_85 : decode cX6_seek 85 = .ok (.iload 8, 2) := by decide +kernel
theorem dX6_seek_87 : decode cX6_seek 87 = .ok (.iload 4, 2) := by decide +kernel
theorem dX6_seek_89 : decode cX6_seek 89 = .ok (.iand, 1) := by decide +kernel
theorem dX6_seek_90 : decode cX6_seek 90 = .ok (.iload 5, 2) := by decide +kernel
theorem dX6_seek_92 : decode cX6_seek 92 = .ok (.if_icmp .ne 5, 3) := by decide +kernel
theorem dX6_seek_95 : decode cX6_seek 95 = .ok (.iconst 0, 1) := by decide +kernel
theorem dX6_seek_96 : decode cX6_seek 96 = .ok (.ireturn, 1) := by decide +kernel
theorem dX6_seek_97 : decode cX6_seek 97 = .ok (.iconst 0, 1) := by decide +kernel
theorem dX6_seek_98 : decode cX6_seek 98 = .ok (.istore 9, 2) := by decide +kernel
theorem dX6_seek_100 : decode cX6_seek 100 = .ok (.iload 9, 2) := by decide +kernel
theorem dX6_seek_102 : decode cX6_seek 102 = .ok (.aload_n 0, 1) := by decide +kernel
theorem dX6_seek_103 : decode cX6_seek 103 = .ok (.getfield 52, 3) := by decide +kernel
theorem dX6_seek_106 : decode cX6_seek 106 = .ok (.if_icmp .ge 157, 3) := by decide +kernel
theorem dX6_seek_109 : decode cX6_seek 109 = .ok (.iload 9, 2) := by decide +kernel
theorem dX6_seek_111 : decode cX6_seek 111 = .ok (.aload_n 0, 1) := by decide +kernel
theorem dX6_seek_112 : decode cX6_seek 112 = .ok (.getfield 11, 3) := by decide +kernel
theorem dX6_seek_115 : decode cX6_seek 115 = .ok (.arraylength, 1) := by decide +kernel
theorem dX6_seek_116 : decode cX6_seek 116 = .ok (.if_icmp .ge 147, 3) := by decide +kernel
theorem dX6_seek_119 : decode cX6_seek 119 = .ok (.aload_n 0, 1) := by decide +kernel
theorem dX6_seek_120 : decode cX6_seek 120 = .ok (.getfield 11, 3) := by decide +kernel
theorem dX6_seek_123 : decode cX6_seek 123 = .ok (.iload 9, 2) := by decide +kernel
theorem dX6_seek_125 : decode cX6_seek 125 = .ok (.iaload, 1) := by decide +kernel
theorem dX6_seek_126 : decode cX6_seek 126 = .ok (.sipush 32767, 3) := by decide +kernel
theorem dX6_seek_129 : decode cX6_seek 129 = .ok (.iand, 1) := by decide +kernel
theorem dX6_seek_130 : decode cX6_seek 130 = .ok (.istore 10, 2) := by decide +kernel
theorem dX6_seek_132 : decode cX6_seek 132 = .ok (.iload 10, 2) := by decide +kernel
theorem dX6_seek_134 : decode cX6_seek 134 = .ok (.aload_n 0, 1) := by decide +kernel
theorem dX6_seek_135 : decode cX6_seek 135 = .ok (.getfield 34, 3) := by decide +kernel
theorem dX6_seek_138 : decode cX6_seek 138 = .ok (.iand, 1) := by decide +kernel
theorem dX6_seek_139 : decode cX6_seek 139 = .ok (.istore 11, 2) := by decide +kernel
theorem dX6_seek_141 : decode cX6_seek 141 = .ok (.aload_n 1, 1) := by decide +kernel
theorem dX6_seek_142 : decode cX6_seek 142 = .ok (.iload 11, 2) := by decide +kernel
theorem dX6_seek_144 : decode cX6_seek 144 = .ok (.invokevirtual 53, 3) := by decide +kernel
theorem dX6_seek_147 : decode cX6_seek 147 = .ok (.iload_n 3, 1) := by decide +kernel
theorem dX6_seek_148 : decode cX6_seek 148 = .ok (.iconst (-1), 1) := by decide +kernel
theorem dX6_seek_149 : decode cX6_seek 149 = .ok (.ixor, 1) := by decide +kernel
theorem dX6_seek_150 : decode cX6_seek 150 = .ok (.iand, 1) := by decide +kernel
theorem dX6_seek_151 : decode cX6_seek 151 = .ok (.istore 12, 2) := by decide +kernel
theorem dX6_seek_153 : decode cX6_seek 153 = .ok (.iconst 0, 1) := by decide +kernel
theorem dX6_seek_154 : decode cX6_seek 154 = .ok (.istore 13, 2) := by decide +kernel
theorem dX6_seek_156 : decode cX6_seek 156 = .ok (.iload 13, 2) := by decide +kernel
theorem dX6_seek_158 : decode cX6_seek 158 = .ok (.iload 6, 2) := by decide +kernel
theorem dX6_seek_160 : decode cX6_seek 160 = .ok (.if_icmp .ge 97, 3) := by decide +kernel
theorem dX6_seek_163 : decode cX6_seek 163 = .ok (.iload 11, 2) := by decide +kernel
theorem dX6_seek_165 : decode cX6_seek 165 = .ok (.iconst 1, 1) := by decide +kernel
theorem dX6_seek_166 : decode cX6_seek 166 = .ok (.iload 13, 2) := by decide +kernel
theorem dX6_seek_168 : decode cX6_seek 168 = .ok (.ishl, 1) := by decide +kernel
theorem dX6_seek_169 : decode cX6_seek 169 = .ok (.ixor, 1) := by decide +kernel
theorem dX6_seek_170 : decode cX6_seek 170 = .ok (.istore 14, 2) := by decide +kernel
theorem dX6_seek_172 : decode cX6_seek 172 = .ok (.iload 12, 2) := by decide +kernel
theorem dX6_seek_174 : decode cX6_seek 174 = .ok (.iload 13, 2) := by decide +kernel
theorem dX6_seek_176 : decode cX6_seek 176 = .ok (.ishr, 1) := by decide +kernel
theorem dX6_seek_177 : decode cX6_seek 177 = .ok (.iconst 1, 1) := by decide +kernel
theorem dX6_seek_178 : decode cX6_seek 178 = .ok (.iand, 1) := by decide +kernel
theorem dX6_seek_179 : decode cX6_seek 179 = .ok (.ifCond .eq 72, 3) := by decide +kernel
theorem dX6_seek_182 : decode cX6_seek 182 = .ok (.aload_n 1, 1) := by decide +kernel
theorem dX6_seek_183 : decode cX6_seek 183 = .ok (.iload 14, 2) := by decide +kernel
theorem dX6_seek_185 : decode cX6_seek 185 = .ok (.invokevirtual 57, 3) := by decide +kernel
theorem dX6_seek_188 : decode cX6_seek 188 = .ok (.ifCond .ne 6, 3) := by decide +kernel
theorem dX6_seek_191 : decode cX6_seek 191 = .ok (.goto 60, 3) := by decide +kernel
theorem dX6_seek_194 : decode cX6_seek 194 = .ok (.iload 7, 2) := by decide +kernel
theorem dX6_seek_196 : decode cX6_seek 196 = .ok (.ifCond .eq 27, 3) := by decide +kernel
theorem dX6_seek_199 : decode cX6_seek 199 = .ok (.iload 14, 2) := by decide +kernel
theorem dX6_seek_201 : decode cX6_seek 201 = .ok (.iload 10, 2) := by decide +kernel
theorem dX6_seek_203 : decode cX6_seek 203 = .ok (.aload_n 0, 1) := by decide +kernel
theorem dX6_seek_204 : decode cX6_seek 204 = .ok (.getfield 34, 3) := by decide +kernel
theorem dX6_seek_207 : decode cX6_seek 207 = .ok (.iconst (-1), 1) := by decide +kernel
theorem dX6_seek_208 : decode cX6_seek 208 = .ok (.ixor, 1) := by decide +kernel
theorem dX6_seek_209 : decode cX6_seek 209 = .ok (.iand, 1) := by decide +kernel
theorem dX6_seek_210 : decode cX6_seek 210 = .ok (.aload_n 1, 1) := by decide +kernel
theorem dX6_seek_211 : decode cX6_seek 211 = .ok (.iload 14, 2) := by decide +kernel
theorem dX6_seek_213 : decode cX6_seek 213 = .ok (.invokevirtual 61, 3) := by decide +kernel
theorem dX6_seek_216 : decode cX6_seek 216 = .ok (.iload 6, 2) := by decide +kernel
theorem dX6_seek_218 : decode cX6_seek 218 = .ok (.ishl, 1) := by decide +kernel
theorem dX6_seek_219 : decode cX6_seek 219 = .ok (.ior, 1) := by decide +kernel
theorem dX6_seek_220 : decode cX6_seek 220 = .ok (.ior, 1) := by decide +kernel
theorem dX6_seek_221 : decode cX6_seek 221 = .ok (.istore 14, 2) := by decide +kernel
theorem dX6_seek_223 : decode cX6_seek 223 = .ok (.aload_n 0, 1) := by decide +kernel
theorem dX6_seek_224 : decode cX6_seek 224 = .ok (.iload 14, 2) := by decide +kernel
theorem dX6_seek_226 : decode cX6_seek 226 = .ok (.iload 9, 2) := by decide +kernel
theorem dX6_seek_228 : decode cX6_seek 228 = .ok (.invokevirtual 48, 3) := by decide +kernel
theorem dX6_seek_231 : decode cX6_seek 231 = .ok (.ifCond .eq 20, 3) := by decide +kernel
theorem dX6_seek_234 : decode cX6_seek 234 = .ok (.iload 14, 2) := by decide +kernel
theorem dX6_seek_236 : decode cX6_seek 236 = .ok (.iload 4, 2) := by decide +kernel
theorem dX6_seek_238 : decode cX6_seek 238 = .ok (.iand, 1) := by decide +kernel
theorem dX6_seek_239 : decode cX6_seek 239 = .ok (.iload 5, 2) := by decide +kernel
theorem dX6_seek_241 : decode cX6_seek 241 = .ok (.if_icmp .ne 10, 3) := by decide +kernel
theorem dX6_seek_244 : decode cX6_seek 244 = .ok (.aload_n 0, 1) := by decide +kernel
theorem dX6_seek_245 : decode cX6_seek 245 = .ok (.getfield 52, 3) := by decide +kernel
theorem dX6_seek_248 : decode cX6_seek 248 = .ok (.iconst 1, 1) := by decide +kernel
theorem dX6_seek_249 : decode cX6_seek 249 = .ok (.isub, 1) := by decide +kernel
theorem dX6_seek_250 : decode cX6_seek 250 = .ok (.ireturn, 1) := by decide +kernel
theorem dX6_seek_251 : decode cX6_seek 251 = .ok (.iinc 13 1, 3) := by decide +kernel
theorem dX6_seek_254 : decode cX6_seek 254 = .ok (.goto (-98), 3) := by decide +kernel
theorem dX6_seek_257 : decode cX6_seek 257 = .ok (.iinc 9 1, 3) := by decide +kernel
theorem dX6_seek_260 : decode cX6_seek 260 = .ok (.goto (-160), 3) := by decide +kernel
theorem dX6_seek_263 : decode cX6_seek 263 = .ok (.iconst (-1), 1) := by decide +kernel
theorem dX6_seek_264 : decode cX6_seek 264 = .ok (.ireturn, 1) := by decide +kernel
theorem sX6_seek_0 {a0 a1 a2 a3 a4 a5 a6 a7 a8 a9 a10 a11 a12 a13 a14 : Value} (hv : am_rf a1 = true) (h : am_R E d mX6_seek k n 1 [a0, a1, a2, a3, a4, a5, a6, a7, a8, a9, a10, a11, a12, a13, a14] (a1 :: st) S iv Q) : am_R E d mX6_seek k n 0 [a0, a1, a2, a3, a4, a5, a6, a7, a8, a9, a10, a11, a12, a13, a14] st S iv Q := am_aload_n dX6_seek_0 rfl rfl hv h
theorem sX6_seek_1 {ls : List Value} {a b : Nat} (ha : S.1 a = some (.inl 0)) (hb : S.2.1 a 7 = some b) (h : am_R E d mX6_seek k n 4 ls (.ref b :: st) S iv Q) : am_R E d mX6_seek k n 1 ls (.ref a :: st) S iv Q := am_getR (ci := 0) dX6_seek_1 rfl rfl (by decide) wq_507 uq_0 rfl ha hb h
theorem sX6_seek_4 {ls : List Value} {a : Nat} (ha : S.1 a = some (.inl 2)) (h : am_R E d mX6_seek k n 7 ls (.int (iv a 0) :: st) S iv Q) : am_R E d mX6_seek k n 4 ls (.ref a :: st) S iv Q := am_getI (ci := 2) dX6_seek_4 rfl rfl (by decide) wq_508 uq_2 rfl ha h
theorem sX6_seek_7 {a0 a1 a2 a3 a4 a5 a6 a7 a8 a9 a10 a11 a12 a13 a14 : Value} {x : Int32} (h : am_R E d mX6_seek k n 9 [a0, a1, a2, a3, a4, a5, .int x, a7, a8, a9, a10, a11, a12, a13, a14] st S iv Q) : am_R E d mX6_seek k n 7 [a0, a1, a2, a3, a4, a5, a6, a7, a8, a9, a10, a11, a12, a13, a14] (.int x :: st) S iv Q := am_istore dX6_seek_7 (by decide) h
theorem sX6_seek_9 {a0 a1 a2 a3 a4 a5 a6 a7 a8 a9 a10 a11 a12 a13 a14 : Value} (hv : am_rf a0 = true) (h : am_R E d mX6_seek k n 10 [a0, a1, a2, a3, a4, a5, a6, a7, a8, a9, a10, a11, a12, a13, a14] (a0 :: st) S iv Q) : am_R E d mX6_seek k n 9 [a0, a1, a2, a3, a4, a5, a6, a7, a8, a9, a10, a11, a12, a13, a14] st S iv Q := am_aload_n dX6_seek_9 rfl rfl hv h
theorem sX6_seek_10 {a0 a1 a2 a3 a4 a5 a6 a7 a8 a9 a10 a11 a12 a13 a14 : Value} (hv : am_rf a1 = true) (h : am_R E d mX6_seek k n 11 [a0, a1, a2, a3, a4, a5, a6, a7, a8, a9, a10, a11, a12, a13, a14] (a1 :: st) S iv Q) : am_R E d mX6_seek k n 10 [a0, a1, a2, a3, a4, a5, a6, a7, a8, a9, a10, a11, a12, a13, a14] st S iv Q := am_aload_n dX6_seek_10 rfl rfl hv h
theorem sX6_seek_11 {ls : List Value} {a b : Nat} (ha : S.1 a = some (.inl 0)) (hb : S.2.1 a 7 = some b) (h : am_R E d mX6_seek k n 14 ls (.ref b :: st) S iv Q) : am_R E d mX6_seek k n 11 ls (.ref a :: st) S iv Q := am_getR (ci := 0) dX6_seek_11 rfl rfl (by decide) wq_507 uq_0 rfl ha hb h
theorem sX6_seek_14 {ls : List Value} {a : Nat} (ha : S.1 a = some (.inl 2)) (hst : (st.map fun v => v.category).sum ≤ 8) (hM : am_M E d mX2_all 0 0 [.ref a] S iv (am_K3 E (d + 1) mX6_seek k n 14 ls st Q)) : am_R E (d + 1) mX6_seek k n 14 ls (.ref a :: st) S iv Q := am_cV (ci := 2) (M' := mX2_all) (as := []) dX6_seek_14 rfl rfl rfl wq_511 wq_512 wq_513 wq_81 wq_509 hy_X2_all (by decide) ha hst (by omega) (by omega) hM
theorem sX6_seek_14_k {ls : List Value} {k' n' : Nat} {a : Nat} (ha : S.1 a = some (.inl 2)) (hst : (st.map fun v => v.category).sum ≤ 8) (hM : am_M E d mX2_all k' n' [.ref a] S iv (am_K3 E (d + 1) mX6_seek k n 14 ls st Q)) : am_R E (d + 1) mX6_seek (k' + k) (n' + n) 14 ls (.ref a :: st) S iv Q := am_cV (ci := 2) (M' := mX2_all) (as := []) dX6_seek_14 rfl rfl rfl wq_511 wq_512 wq_513 wq_81 wq_509 hy_X2_all (by decide) ha hst (by omega) (by omega) hM
theorem sX6_seek_17 {ls : List Value} {a : Nat} {x : Int32} (ha : S.1 a = some (.inl 6)) (h : am_R E d mX6_seek k n 20 ls st S (am_w iv a 3 x) Q) : am_R E d mX6_seek k n 17 ls (.int x :: .ref a :: st) S iv Q := am_putI (ci := 6) dX6_seek_17 rfl rfl (by decide) wq_514 uq_6 tyX6_ok nmX6 (Or.inl rfl) rfl ha h
theorem sX6_seek_20 {a0 a1 a2 a3 a5 a6 a7 a8 a9 a10 a11 a12 a13 a14 : Value} {x : Int32} (h : am_R E d mX6_seek k n 22 [a0, a1, a2, a3, .int x, a5, a6, a7, a8, a9, a10, a11, a12, a13, a14] (.int x :: st) S iv Q) : am_R E d mX6_seek k n 20 [a0, a1, a2, a3, .int x, a5, a6, a7, a8, a9, a10, a11, a12, a13, a14] st S iv Q := am_iload dX6_seek_20 rfl h
theorem sX6_seek_22 {a0 a1 a2 a3 a4 a5 a6 a7 a8 a9 a10 a11 a12 a13 a14 : Value} (hv : am_rf a0 = true) (h : am_R E d mX6_seek k n 23 [a0, a1, a2, a3, a4, a5, a6, a7, a8, a9, a10, a11, a12, a13, a14] (a0 :: st) S iv Q) : am_R E d mX6_seek k n 22 [a0, a1, a2, a3, a4, a5, a6, a7, a8, a9, a10, a11, a12, a13, a14] st S iv Q := am_aload_n dX6_seek_22 rfl rfl hv h
theorem sX6_seek_23 {ls : List Value} {a : Nat} (ha : S.1 a = some (.inl 6)) (h : am_R E d mX6_seek k n 26 ls (.int (iv a 3) :: st) S iv Q) : am_R E d mX6_seek k n 23 ls (.ref a :: st) S iv Q := am_getI (ci := 6) dX6_seek_23 rfl rfl (by decide) wq_514 uq_6 rfl ha h
theorem sX6_seek_26 {ls : List Value} {x y : Int32} (kt : x ≤ y → am_R E d mX6_seek k n 33 ls st S iv Q) (kf : ¬ x ≤ y → am_R E d mX6_seek k n 29 ls st S iv Q) : am_R E d mX6_seek k n 26 ls (.int y :: .int x :: st) S iv Q := am_icmp_le dX6_seek_26 (by decide) kt kf
theorem sX6_seek_29 {a0 a1 a2 a3 a4 a5 a6 a7 a8 a9 a10 a11 a12 a13 a14 : Value} (h : am_R E d mX6_seek k n 30 [a0, a1, a2, a3, a4, a5, a6, a7, a8, a9, a10, a11, a12, a13, a14] (.int 1 :: st) S iv Q) : am_R E d mX6_seek k n 29 [a0, a1, a2, a3, a4, a5, a6, a7, a8, a9, a10, a11, a12, a13, a14] st S iv Q := am_iconst dX6_seek_29 (by decide) h
theorem sX6_seek_30 {ls : List Value} (h : am_R E d mX6_seek k n 34 ls st S iv Q) : am_R E d mX6_seek k n 30 ls st S iv Q := am_goto dX6_seek_30 (by decide) h
theorem sX6_seek_33 {a0 a1 a2 a3 a4 a5 a6 a7 a8 a9 a10 a11 a12 a13 a14 : Value} (h : am_R E d mX6_seek k n 34 [a0, a1, a2, a3, a4, a5, a6, a7, a8, a9, a10, a11, a12, a13, a14] (.int 0 :: st) S iv Q) : am_R E d mX6_seek k n 33 [a0, a1, a2, a3, a4, a5, a6, a7, a8, a9, a10, a11, a12, a13, a14] st S iv Q := am_iconst dX6_seek_33 (by decide) h
theorem sX6_seek_34 {a0 a1 a2 a3 a4 a5 a6 a7 a8 a9 a10 a11 a12 a13 a14 : Value} {x : Int32} (h : am_R E d mX6_seek k n 36 [a0, a1, a2, a3, a4, a5, a6, .int x, a8, a9, a10, a11, a12, a13, a14] st S iv Q) : am_R E d mX6_seek k n 34 [a0, a1, a2, a3, a4, a5, a6, a7, a8, a9, a10, a11, a12, a13, a14] (.int x :: st) S iv Q := am_istore dX6_seek_34 (by decide) h
theorem sX6_seek_36 {a0 a1 a2 a3 a4 a5 a6 a7 a8 a9 a10 a11 a12 a13 a14 : Value} (hv : am_rf a0 = true) (h : am_R E d mX6_seek k n 37 [a0, a1, a2, a3, a4, a5, a6, a7, a8, a9, a10, a11, a12, a13, a14] (a0 :: st) S iv Q) : am_R E d mX6_seek k n 36 [a0, a1, a2, a3, a4, a5, a6, a7, a8, a9, a10, a11, a12, a13, a14] st S iv Q := am_aload_n dX6_seek_36 rfl rfl hv h
theorem sX6_seek_37 {a0 a1 a2 a3 a4 a5 a6 a8 a9 a10 a11 a12 a13 a14 : Value} {x : Int32} (h : am_R E d mX6_seek k n 39 [a0, a1, a2, a3, a4, a5, a6, .int x, a8, a9, a10, a11, a12, a13, a14] (.int x :: st) S iv Q) : am_R E d mX6_seek k n 37 [a0, a1, a2, a3, a4, a5, a6, .int x, a8, a9, a10, a11, a12, a13, a14] st S iv Q := am_iload dX6_seek_37 rfl h
theorem sX6_seek_39 {ls : List Value} {x : Int32} (kt : x = 0 → am_R E d mX6_seek k n 55 ls st S iv Q) (kf : ¬ x = 0 → am_R E d mX6_seek k n 42 ls st S iv Q) : am_R E d mX6_seek k n 39 ls (.int x :: st) S iv Q := am_if_eq dX6_seek_39 (by decide) kt kf
theorem sX6_seek_42 {a0 a1 a2 a3 a4 a5 a7 a8 a9 a10 a11 a12 a13 a14 : Value} {x : Int32} (h : am_R E d mX6_seek k n 44 [a0, a1, a2, a3, a4, a5, .int x, a7, a8, a9, a10, a11, a12, a13, a14] (.int x :: st) S iv Q) : am_R E d mX6_seek k n 42 [a0, a1, a2, a3, a4, a5, .int x, a7, a8, a9, a10, a11, a12, a13, a14] st S iv Q := am_iload dX6_seek_42 rfl h
theorem sX6_seek_44 {a0 a1 a2 a3 a4 a5 a6 a7 a8 a9 a10 a11 a12 a13 a14 : Value} (hv : am_rf a1 = true) (h : am_R E d mX6_seek k n 45 [a0, a1, a2, a3, a4, a5, a6, a7, a8, a9, a10, a11, a12, a13, a14] (a1 :: st) S iv Q) : am_R E d mX6_seek k n 44 [a0, a1, a2, a3, a4, a5, a6, a7, a8, a9, a10, a11, a12, a13, a14] st S iv Q := am_aload_n dX6_seek_44 rfl rfl hv h
theorem sX6_seek_45 {ls : List Value} {a b : Nat} (ha : S.1 a = some (.inl 0)) (hb : S.2.1 a 8 = some b) (h : am_R E d mX6_seek k n 48 ls (.ref b :: st) S iv Q) : am_R E d mX6_seek k n 45 ls (.ref a :: st) S iv Q := am_getR (ci := 0) dX6_seek_45 rfl rfl (by decide) wq_515 uq_0 rfl ha hb h
theorem sX6_seek_48 {ls : List Value} {a : Nat} (ha : S.1 a = some (.inl 4)) (h : am_R E d mX6_seek k n 51 ls (.int (iv a 0) :: st) S iv Q) : am_R E d mX6_seek k n 48 ls (.ref a :: st) S iv Q := am_getI (ci := 4) dX6_seek_48 rfl rfl (by decide) wq_516 uq_4 rfl ha h
theorem sX6_seek_51 {ls : List Value} {x y : Int32} (h : am_R E d mX6_seek k n 52 ls (.int (x + y) :: st) S iv Q) : am_R E d mX6_seek k n 51 ls (.int y :: .int x :: st) S iv Q := am_iadd dX6_seek_51 h
theorem sX6_seek_52 {ls : List Value} (h : am_R E d mX6_seek k n 57 ls st S iv Q) : am_R E d mX6_seek k n 52 ls st S iv Q := am_goto dX6_seek_52 (by decide) h
theorem sX6_seek_55 {a0 a1 a2 a3 a4 a5 a7 a8 a9 a10 a11 a12 a13 a14 : Value} {x : Int32} (h : am_R E d mX6_seek k n 57 [a0, a1, a2, a3, a4, a5, .int x, a7, a8, a9, a10, a11, a12, a13, a14] (.int x :: st) S iv Q) : am_R E d mX6_seek k n 55 [a0, a1, a2, a3, a4, a5, .int x, a7, a8, a9, a10, a11, a12, a13, a14] st S iv Q := am_iload dX6_seek_55 rfl h
theorem sX6_seek_57 {ls : List Value} {x1 : Value} {a : Nat} (ha : S.1 a = some (.inl 6)) (hst : (st.map fun v => v.category).sum ≤ 8) (hM : am_M E d mX6_begin 0 0 [.ref a, x1] S iv (am_K3 E (d + 1) mX6_seek k n 57 ls st Q)) : am_R E (d + 1) mX6_seek k n 57 ls (x1 :: .ref a :: st) S iv Q := am_cV (ci := 6) (M' := mX6_begin) (as := [x1]) dX6_seek_57 rfl rfl rfl wq_520 wq_521 wq_522 wq_518 wq_517 hy_X6_begin (by decide) ha hst (by omega) (by omega) hM
theorem sX6_seek_57_k {ls : List Value} {x1 : Value} {k' n' : Nat} {a : Nat} (ha : S.1 a = some (.inl 6)) (hst : (st.map fun v => v.category).sum ≤ 8) (hM : am_M E d mX6_begin k' n' [.ref a, x1] S iv (am_K3 E (d + 1) mX6_seek k n 57 ls st Q)) : am_R E (d + 1) mX6_seek (k' + k) (n' + n) 57 ls (x1 :: .ref a :: st) S iv Q := am_cV (ci := 6) (M' := mX6_begin) (as := [x1]) dX6_seek_57 rfl rfl rfl wq_520 wq_521 wq_522 wq_518 wq_517 hy_X6_begin (by decide) ha hst (by omega) (by omega) hM
theorem sX6_seek_60 {a0 a1 a2 a3 a4 a5 a6 a8 a9 a10 a11 a12 a13 a14 : Value} {x : Int32} (h : am_R E d mX6_seek k n 62 [a0, a1, a2, a3, a4, a5, a6, .int x, a8, a9, a10, a11, a12, a13, a14] (.int x :: st) S iv Q) : am_R E d mX6_seek k n 60 [a0, a1, a2, a3, a4, a5, a6, .int x, a8, a9, a10, a11, a12, a13, a14] st S iv Q := am_iload dX6_seek_60 rfl h
theorem sX6_seek_62 {ls : List Value} {x : Int32} (kt : x = 0 → am_R E d mX6_seek k n 69 ls st S iv Q) (kf : ¬ x = 0 → am_R E d mX6_seek k n 65 ls st S iv Q) : am_R E d mX6_seek k n 62 ls (.int x :: st) S iv Q := am_if_eq dX6_seek_62 (by decide) kt kf
theorem sX6_seek_65 {a0 a1 a3 a4 a5 a6 a7 a8 a9 a10 a11 a12 a13 a14 : Value} {x : Int32} (h : am_R E d mX6_seek k n 66 [a0, a1, .int x, a3, a4, a5, a6, a7, a8, a9, a10, a11, a12, a13, a14] (.int x :: st) S iv Q) : am_R E d mX6_seek k n 65 [a0, a1, .int x, a3, a4, a5, a6, a7, a8, a9, a10, a11, a12, a13, a14] st S iv Q := am_iload_n dX6_seek_65 rfl rfl h
theorem sX6_seek_66 {ls : List Value} (h : am_R E d mX6_seek k n 75 ls st S iv Q) : am_R E d mX6_seek k n 66 ls st S iv Q := am_goto dX6_seek_66 (by decide) h
theorem sX6_seek_69 {a0 a1 a3 a4 a5 a6 a7 a8 a9 a10 a11 a12 a13 a14 : Value} {x : Int32} (h : am_R E d mX6_seek k n 70 [a0, a1, .int x, a3, a4, a5, a6, a7, a8, a9, a10, a11, a12, a13, a14] (.int x :: st) S iv Q) : am_R E d mX6_seek k n 69 [a0, a1, .int x, a3, a4, a5, a6, a7, a8, a9, a10, a11, a12, a13, a14] st S iv Q := am_iload_n dX6_seek_69 rfl rfl h
theorem sX6_seek_70 {a0 a1 a2 a3 a4 a5 a6 a7 a8 a9 a10 a11 a12 a13 a14 : Value} (hv : am_rf a0 = true) (h : am_R E d mX6_seek k n 71 [a0, a1, a2, a3, a4, a5, a6, a7, a8, a9, a10, a11, a12, a13, a14] (a0 :: st) S iv Q) : am_R E d mX6_seek k n 70 [a0, a1, a2, a3, a4, a5, a6, a7, a8, a9, a10, a11, a12, a13, a14] st S iv Q := am_aload_n dX6_seek_70 rfl rfl hv h
theorem sX6_seek_71 {ls : List Value} {a : Nat} (ha : S.1 a = some (.inl 6)) (h : am_R E d mX6_seek k n 74 ls (.int (iv a 3) :: st) S iv Q) : am_R E d mX6_seek k n 71 ls (.ref a :: st) S iv Q := am_getI (ci := 6) dX6_seek_71 rfl rfl (by decide) wq_514 uq_6 rfl ha h
theorem sX6_seek_74 {ls : List Value} {x y : Int32} (h : am_R E d mX6_seek k n 75 ls (.int (x &&& y) :: st) S iv Q) : am_R E d mX6_seek k n 74 ls (.int y :: .int x :: st) S iv Q := am_iand dX6_seek_74 h
theorem sX6_seek_75 {a0 a1 a2 a3 a4 a5 a6 a7 a8 a9 a10 a11 a12 a13 a14 : Value} {x : Int32} (h : am_R E d mX6_seek k n 77 [a0, a1, a2, a3, a4, a5, a6, a7, .int x, a9, a10, a11, a12, a13, a14] st S iv Q) : am_R E d mX6_seek k n 75 [a0, a1, a2, a3, a4, a5, a6, a7, a8, a9, a10, a11, a12, a13, a14] (.int x :: st) S iv Q := am_istore dX6_seek_75 (by decide) h
theorem sX6_seek_77 {a0 a1 a2 a3 a4 a5 a6 a7 a8 a9 a10 a11 a12 a13 a14 : Value} (hv : am_rf a0 = true) (h : am_R E d mX6_seek k n 78 [a0, a1, a2, a3, a4, a5, a6, a7, a8, a9, a10, a11, a12, a13, a14] (a0 :: st) S iv Q) : am_R E d mX6_seek k n 77 [a0, a1, a2, a3, a4, a5, a6, a7, a8, a9, a10, a11, a12, a13, a14] st S iv Q := am_aload_n dX6_seek_77 rfl rfl hv h
theorem sX6_seek_78 {a0 a1 a2 a3 a4 a5 a6 a7 a9 a10 a11 a12 a13 a14 : Value} {x : Int32} (h : am_R E d mX6_seek k n 80 [a0, a1, a2, a3, a4, a5, a6, a7, .int x, a9, a10, a11, a12, a13, a14] (.int x :: st) S iv Q) : am_R E d mX6_seek k n 78 [a0, a1, a2, a3, a4, a5, a6, a7, .int x, a9, a10, a11, a12, a13, a14] st S iv Q := am_iload dX6_seek_78 rfl h
theorem sX6_seek_80 {a0 a1 a2 a3 a4 a5 a6 a7 a8 a9 a10 a11 a12 a13 a14 : Value} (h : am_R E d mX6_seek k n 81 [a0, a1, a2, a3, a4, a5, a6, a7, a8, a9, a10, a11, a12, a13, a14] (.int 0 :: st) S iv Q) : am_R E d mX6_seek k n 80 [a0, a1, a2, a3, a4, a5, a6, a7, a8, a9, a10, a11, a12, a13, a14] st S iv Q := am_iconst dX6_seek_80 (by decide) h
theorem sX6_seek_81 {ls : List Value} {x1 x2 : Value} {a : Nat} (ha : S.1 a = some (.inl 6)) (hst : (st.map fun v => v.category).sum ≤ 8) (hM : am_M E d mX6_note 0 0 [.ref a, x1, x2] S iv (am_K3 E (d + 1) mX6_seek k n 81 ls st Q)) : am_R E (d + 1) mX6_seek k n 81 ls (x2 :: x1 :: .ref a :: st) S iv Q := am_cV (ci := 6) (M' := mX6_note) (as := [x1, x2]) dX6_seek_81 rfl rfl rfl wq_525 wq_526 wq_527 wq_518 wq_523 hy_X6_note (by decide) ha hst (by omega) (by omega) hM
theorem sX6_seek_81_k {ls : List Value} {x1 x2 : Value} {k' n' : Nat} {a : Nat} (ha : S.1 a = some (.inl 6)) (hst : (st.map fun v => v.category).sum ≤ 8) (hM : am_M E d mX6_note k' n' [.ref a, x1, x2] S iv (am_K3 E (d + 1) mX6_seek k n 81 ls st Q)) : am_R E (d + 1) mX6_seek (k' + k) (n' + n) 81 ls (x2 :: x1 :: .ref a :: st) S iv Q := am_cV (ci := 6) (M' := mX6_note) (as := [x1, x2]) dX6_seek_81 rfl rfl rfl wq_525 wq_526 wq_527 wq_518 wq_523 hy_X6_note (by decide) ha hst (by omega) (by omega) hM
theorem sX6_seek_84 {ls : List Value} {x : Value} (hv : x.category = 1) (h : am_R E d mX6_seek k n 85 ls st S iv Q) : am_R E d mX6_seek k n 84 ls (x :: st) S iv Q := am_pop dX6_seek_84 hv h
theorem sX6_seek_85 {a0 a1 a2 a3 a4 a5 a6 a7 a9 a10 a11 a12 a13 a14 : Value} {x : Int32} (h : am_R E d mX6_seek k n 87 [a0, a1, a2, a3, a4, a5, a6, a7, .int x, a9, a10, a11, a12, a13, a14] (.int x :: st) S iv Q) : am_R E d mX6_seek k n 85 [a0, a1, a2, a3, a4, a5, a6, a7, .int x, a9, a10, a11, a12, a13, a14] st S iv Q := am_iload dX6_seek_85 rfl h
theorem sX6_seek_87 {a0 a1 a2 a3 a5 a6 a7 a8 a9 a10 a11 a12 a13 a14 : Value} {x : Int32} (h : am_R E d mX6_seek k n 89 [a0, a1, a2, a3, .int x, a5, a6, a7, a8, a9, a10, a11, a12, a13, a14] (.int x :: st) S iv Q) : am_R E d mX6_seek k n 87 [a0, a1, a2, a3, .int x, a5, a6, a7, a8, a9, a10, a11, a12, a13, a14] st S iv Q := am_iload dX6_seek_87 rfl h
theorem sX6_seek_89 {ls : List Value} {x y : Int32} (h : am_R E d mX6_seek k n 90 ls (.int (x &&& y) :: st) S iv Q) : am_R E d mX6_seek k n 89 ls (.int y :: .int x :: st) S iv Q := am_iand dX6_seek_89 h
theorem sX6_seek_90 {a0 a1 a2 a3 a4 a6 a7 a8 a9 a10 a11 a12 a13 a14 : Value} {x : Int32} (h : am_R E d mX6_seek k n 92 [a0, a1, a2, a3, a4, .int x, a6, a7, a8, a9, a10, a11, a12, a13, a14] (.int x :: st) S iv Q) : am_R E d mX6_seek k n 90 [a0, a1, a2, a3, a4, .int x, a6, a7, a8, a9, a10, a11, a12, a13, a14] st S iv Q := am_iload dX6_seek_90 rfl h
theorem sX6_seek_92 {ls : List Value} {x y : Int32} (kt : ¬ x = y → am_R E d mX6_seek k n 97 ls st S iv Q) (kf : x = y → am_R E d mX6_seek k n 95 ls st S iv Q) : am_R E d mX6_seek k n 92 ls (.int y :: .int x :: st) S iv Q := am_icmp_ne dX6_seek_92 (by decide) kt kf
theorem sX6_seek_95 {a0 a1 a2 a3 a4 a5 a6 a7 a8 a9 a10 a11 a12 a13 a14 : Value} (h : am_R E d mX6_seek k n 96 [a0, a1, a2, a3, a4, a5, a6, a7, a8, a9, a10, a11, a12, a13, a14] (.int 0 :: st) S iv Q) : am_R E d mX6_seek k n 95 [a0, a1, a2, a3, a4, a5, a6, a7, a8, a9, a10, a11, a12, a13, a14] st S iv Q := am_iconst dX6_seek_95 (by decide) h
theorem sX6_seek_96 {ls : List Value} {x : Int32} (h : Q (.inl (some (.int x))) S iv) : am_R E d mX6_seek k n 96 ls [.int x] S iv Q := am_ireturn dX6_seek_96 rfl h
theorem sX6_seek_97 {a0 a1 a2 a3 a4 a5 a6 a7 a8 a9 a10 a11 a12 a13 a14 : Value} (h : am_R E d mX6_seek k n 98 [a0, a1, a2, a3, a4, a5, a6, a7, a8, a9, a10, a11, a12, a13, a14] (.int 0 :: st) S iv Q) : am_R E d mX6_seek k n 97 [a0, a1, a2, a3, a4, a5, a6, a7, a8, a9, a10, a11, a12, a13, a14] st S iv Q := am_iconst dX6_seek_97 (by decide) h
theorem sX6_seek_98 {a0 a1 a2 a3 a4 a5 a6 a7 a8 a9 a10 a11 a12 a13 a14 : Value} {x : Int32} (h : am_R E d mX6_seek k n 100 [a0, a1, a2, a3, a4, a5, a6, a7, a8, .int x, a10, a11, a12, a13, a14] st S iv Q) : am_R E d mX6_seek k n 98 [a0, a1, a2, a3, a4, a5, a6, a7, a8, a9, a10, a11, a12, a13, a14] (.int x :: st) S iv Q := am_istore dX6_seek_98 (by decide) h
theorem sX6_seek_100 {a0 a1 a2 a3 a4 a5 a6 a7 a8 a10 a11 a12 a13 a14 : Value} {x : Int32} (h : am_R E d mX6_seek k n 102 [a0, a1, a2, a3, a4, a5, a6, a7, a8, .int x, a10, a11, a12, a13, a14] (.int x :: st) S iv Q) : am_R E d mX6_seek k n 100 [a0, a1, a2, a3, a4, a5, a6, a7, a8, .int x, a10, a11, a12, a13, a14] st S iv Q := am_iload dX6_seek_100 rfl h
theorem sX6_seek_102 {a0 a1 a2 a3 a4 a5 a6 a7 a8 a9 a10 a11 a12 a13 a14 : Value} (hv : am_rf a0 = true) (h : am_R E d mX6_seek k n 103 [a0, a1, a2, a3, a4, a5, a6, a7, a8, a9, a10, a11, a12, a13, a14] (a0 :: st) S iv Q) : am_R E d mX6_seek k n 102 [a0, a1, a2, a3, a4, a5, a6, a7, a8, a9, a10, a11, a12, a13, a14] st S iv Q := am_aload_n dX6_seek_102 rfl rfl hv h
theorem sX6_seek_103 {ls : List Value} {a : Nat} (ha : S.1 a = some (.inl 6)) (h : am_R E d mX6_seek k n 106 ls (.int (iv a 2) :: st) S iv Q) : am_R E d mX6_seek k n 103 ls (.ref a :: st) S iv Q := am_getI (ci := 6) dX6_seek_103 rfl rfl (by decide) wq_528 uq_6 rfl ha h
theorem sX6_seek_106 {ls : List Value} {x y : Int32} (kt : y ≤ x → am_R E d mX6_seek k n 263 ls st S iv Q) (kf : ¬ y ≤ x → am_R E d mX6_seek k n 109 ls st S iv Q) : am_R E d mX6_seek k n 106 ls (.int y :: .int x :: st) S iv Q := am_icmp_ge dX6_seek_106 (by decide) kt kf
theorem sX6_seek_109 {a0 a1 a2 a3 a4 a5 a6 a7 a8 a10 a11 a12 a13 a14 : Value} {x : Int32} (h : am_R E d mX6_seek k n 111 [a0, a1, a2, a3, a4, a5, a6, a7, a8, .int x, a10, a11, a12, a13, a14] (.int x :: st) S iv Q) : am_R E d mX6_seek k n 109 [a0, a1, a2, a3, a4, a5, a6, a7, a8, .int x, a10, a11, a12, a13, a14] st S iv Q := am_iload dX6_seek_109 rfl h
theorem sX6_seek_111 {a0 a1 a2 a3 a4 a5 a6 a7 a8 a9 a10 a11 a12 a13 a14 : Value} (hv : am_rf a0 = true) (h : am_R E d mX6_seek k n 112 [a0, a1, a2, a3, a4, a5, a6, a7, a8, a9, a10, a11, a12, a13, a14] (a0 :: st) S iv Q) : am_R E d mX6_seek k n 111 [a0, a1, a2, a3, a4, a5, a6, a7, a8, a9, a10, a11, a12, a13, a14] st S iv Q := am_aload_n dX6_seek_111 rfl rfl hv h
theorem sX6_seek_112 {ls : List Value} {a b : Nat} (ha : S.1 a = some (.inl 6)) (hb : S.2.1 a 0 = some b) (h : am_R E d mX6_seek k n 115 ls (.ref b :: st) S iv Q) : am_R E d mX6_seek k n 112 ls (.ref a :: st) S iv Q := am_getR (ci := 6) dX6_seek_112 rfl rfl (by decide) wq_505 uq_6 rfl ha hb h
theorem sX6_seek_115 {ls : List Value} {a m t : Nat} {ty : FieldType} (ha : S.1 a = some (.inr (ty, m))) (ht : am_ti ty = some t) (h : am_R E d mX6_seek k n 116 ls (.int (Int32.ofNat m) :: st) S iv Q) : am_R E d mX6_seek k n 115 ls (.ref a :: st) S iv Q := am_alen dX6_seek_115 ha ht h
theorem sX6_seek_116 {ls : List Value} {x y : Int32} (kt : y ≤ x → am_R E d mX6_seek k n 263 ls st S iv Q) (kf : ¬ y ≤ x → am_R E d mX6_seek k n 119 ls st S iv Q) : am_R E d mX6_seek k n 116 ls (.int y :: .int x :: st) S iv Q := am_icmp_ge dX6_seek_116 (by decide) kt kf
theorem sX6_seek_119 {a0 a1 a2 a3 a4 a5 a6 a7 a8 a9 a10 a11 a12 a13 a14 : Value} (hv : am_rf a0 = true) (h : am_R E d mX6_seek k n 120 [a0, a1, a2, a3, a4, a5, a6, a7, a8, a9, a10, a11, a12, a13, a14] (a0 :: st) S iv Q) : am_R E d mX6_seek k n 119 [a0, a1, a2, a3, a4, a5, a6, a7, a8, a9, a10, a11, a12, a13, a14] st S iv Q := am_aload_n dX6_seek_119 rfl rfl hv h
theorem sX6_seek_120 {ls : List Value} {a b : Nat} (ha : S.1 a = some (.inl 6)) (hb : S.2.1 a 0 = some b) (h : am_R E d mX6_seek k n 123 ls (.ref b :: st) S iv Q) : am_R E d mX6_seek k n 120 ls (.ref a :: st) S iv Q := am_getR (ci := 6) dX6_seek_120 rfl rfl (by decide) wq_505 uq_6 rfl ha hb h
theorem sX6_seek_123 {a0 a1 a2 a3 a4 a5 a6 a7 a8 a10 a11 a12 a13 a14 : Value} {x : Int32} (h : am_R E d mX6_seek k n 125 [a0, a1, a2, a3, a4, a5, a6, a7, a8, .int x, a10, a11, a12, a13, a14] (.int x :: st) S iv Q) : am_R E d mX6_seek k n 123 [a0, a1, a2, a3, a4, a5, a6, a7, a8, .int x, a10, a11, a12, a13, a14] st S iv Q := am_iload dX6_seek_123 rfl h
theorem sX6_seek_125 {ls : List Value} {a m : Nat} {i : Int32} (ha : S.1 a = some (.inr (.int, m))) (hi : vp_in i m) (h : am_R E d mX6_seek k n 126 ls (.int (iv a i.toNatClampNeg) :: st) S iv Q) : am_R E d mX6_seek k n 125 ls (.int i :: .ref a :: st) S iv Q := am_iaload dX6_seek_125 ha hi h
theorem sX6_seek_126 {a0 a1 a2 a3 a4 a5 a6 a7 a8 a9 a10 a11 a12 a13 a14 : Value} (h : am_R E d mX6_seek k n 129 [a0, a1, a2, a3, a4, a5, a6, a7, a8, a9, a10, a11, a12, a13, a14] (.int 32767 :: st) S iv Q) : am_R E d mX6_seek k n 126 [a0, a1, a2, a3, a4, a5, a6, a7, a8, a9, a10, a11, a12, a13, a14] st S iv Q := am_sipush dX6_seek_126 (by decide) h
theorem sX6_seek_129 {ls : List Value} {x y : Int32} (h : am_R E d mX6_seek k n 130 ls (.int (x &&& y) :: st) S iv Q) : am_R E d mX6_seek k n 129 ls (.int y :: .int x :: st) S iv Q := am_iand dX6_seek_129 h
theorem sX6_seek_130 {a0 a1 a2 a3 a4 a5 a6 a7 a8 a9 a10 a11 a12 a13 a14 : Value} {x : Int32} (h : am_R E d mX6_seek k n 132 [a0, a1, a2, a3, a4, a5, a6, a7, a8, a9, .int x, a11, a12, a13, a14] st S iv Q) : am_R E d mX6_seek k n 130 [a0, a1, a2, a3, a4, a5, a6, a7, a8, a9, a10, a11, a12, a13, a14] (.int x :: st) S iv Q := am_istore dX6_seek_130 (by decide) h
theorem sX6_seek_132 {a0 a1 a2 a3 a4 a5 a6 a7 a8 a9 a11 a12 a13 a14 : Value} {x : Int32} (h : am_R E d mX6_seek k n 134 [a0, a1, a2, a3, a4, a5, a6, a7, a8, a9, .int x, a11, a12, a13, a14] (.int x :: st) S iv Q) : am_R E d mX6_seek k n 132 [a0, a1, a2, a3, a4, a5, a6, a7, a8, a9, .int x, a11, a12, a13, a14] st S iv Q := am_iload dX6_seek_132 rfl h
theorem sX6_seek_134 {a0 a1 a2 a3 a4 a5 a6 a7 a8 a9 a10 a11 a12 a13 a14 : Value} (hv : am_rf a0 = true) (h : am_R E d mX6_seek k n 135 [a0, a1, a2, a3, a4, a5, a6, a7, a8, a9, a10, a11, a12, a13, a14] (a0 :: st) S iv Q) : am_R E d mX6_seek k n 134 [a0, a1, a2, a3, a4, a5, a6, a7, a8, a9, a10, a11, a12, a13, a14] st S iv Q := am_aload_n dX6_seek_134 rfl rfl hv h
theorem sX6_seek_135 {ls : List Value} {a : Nat} (ha : S.1 a = some (.inl 6)) (h : am_R E d mX6_seek k n 138 ls (.int (iv a 3) :: st) S iv Q) : am_R E d mX6_seek k n 135 ls (.ref a :: st) S iv Q := am_getI (ci := 6) dX6_seek_135 rfl rfl (by decide) wq_514 uq_6 rfl ha h
theorem sX6_seek_138 {ls : List Value} {x y : Int32} (h : am_R E d mX6_seek k n 139 ls (.int (x &&& y) :: st) S iv Q) : am_R E d mX6_seek k n 138 ls (.int y :: .int x :: st) S iv Q := am_iand dX6_seek_138 h
theorem sX6_seek_139 {a0 a1 a2 a3 a4 a5 a6 a7 a8 a9 a10 a11 a12 a13 a14 : Value} {x : Int32} (h : am_R E d mX6_seek k n 141 [a0, a1, a2, a3, a4, a5, a6, a7, a8, a9, a10, .int x, a12, a13, a14] st S iv Q) : am_R E d mX6_seek k n 139 [a0, a1, a2, a3, a4, a5, a6, a7, a8, a9, a10, a11, a12, a13, a14] (.int x :: st) S iv Q := am_istore dX6_seek_139 (by decide) h
theorem sX6_seek_141 {a0 a1 a2 a3 a4 a5 a6 a7 a8 a9 a10 a11 a12 a13 a14 : Value} (hv : am_rf a1 = true) (h : am_R E d mX6_seek k n 142 [a0, a1, a2, a3, a4, a5, a6, a7, a8, a9, a10, a11, a12, a13, a14] (a1 :: st) S iv Q) : am_R E d mX6_seek k n 141 [a0, a1, a2, a3, a4, a5, a6, a7, a8, a9, a10, a11, a12, a13, a14] st S iv Q := am_aload_n dX6_seek_141 rfl rfl hv h
theorem sX6_seek_142 {a0 a1 a2 a3 a4 a5 a6 a7 a8 a9 a10 a12 a13 a14 : Value} {x : Int32} (h : am_R E d mX6_seek k n 144 [a0, a1, a2, a3, a4, a5, a6, a7, a8, a9, a10, .int x, a12, a13, a14] (.int x :: st) S iv Q) : am_R E d mX6_seek k n 142 [a0, a1, a2, a3, a4, a5, a6, a7, a8, a9, a10, .int x, a12, a13, a14] st S iv Q := am_iload dX6_seek_142 rfl h
theorem sX6_seek_144 {ls : List Value} {x1 : Value} {a : Nat} (ha : S.1 a = some (.inl 0)) (hst : (st.map fun v => v.category).sum ≤ 8) (hM : am_M E d mX0_reachedBy 0 0 [.ref a, x1] S iv (am_K3 E (d + 1) mX6_seek k n 144 ls st Q)) : am_R E (d + 1) mX6_seek k n 144 ls (x1 :: .ref a :: st) S iv Q := am_cV (ci := 0) (M' := mX0_reachedBy) (as := [x1]) dX6_seek_144 rfl rfl rfl wq_531 wq_532 wq_533 wq_220 wq_529 hy_X0_reachedBy (by decide) ha hst (by omega) (by omega) hM
theorem sX6_seek_144_k {ls : List Value} {x1 : Value} {k' n' : Nat} {a : Nat} (ha : S.1 a = some (.inl 0)) (hst : (st.map fun v => v.category).sum ≤ 8) (hM : am_M E d mX0_reachedBy k' n' [.ref a, x1] S iv (am_K3 E (d + 1) mX6_seek k n 144 ls st Q)) : am_R E (d + 1) mX6_seek (k' + k) (n' + n) 144 ls (x1 :: .ref a :: st) S iv Q := am_cV (ci := 0) (M' := mX0_reachedBy) (as := [x1]) dX6_seek_144 rfl rfl rfl wq_531 wq_532 wq_533 wq_220 wq_529 hy_X0_reachedBy (by decide) ha hst (by omega) (by omega) hM
theorem sX6_seek_147 {a0 a1 a2 a4 a5 a6 a7 a8 a9 a10 a11 a12 a13 a14 : Value} {x : Int32} (h : am_R E d mX6_seek k n 148 [a0, a1, a2, .int x, a4, a5, a6, a7, a8, a9, a10, a11, a12, a13, a14] (.int x :: st) S iv Q) : am_R E d mX6_seek k n 147 [a0, a1, a2, .int x, a4, a5, a6, a7, a8, a9, a10, a11, a12, a13, a14] st S iv Q := am_iload_n dX6_seek_147 rfl rfl h
theorem sX6_seek_148 {a0 a1 a2 a3 a4 a5 a6 a7 a8 a9 a10 a11 a12 a13 a14 : Value} (h : am_R E d mX6_seek k n 149 [a0, a1, a2, a3, a4, a5, a6, a7, a8, a9, a10, a11, a12, a13, a14] (.int (-1) :: st) S iv Q) : am_R E d mX6_seek k n 148 [a0, a1, a2, a3, a4, a5, a6, a7, a8, a9, a10, a11, a12, a13, a14] st S iv Q := am_iconst dX6_seek_148 (by decide) h
theorem sX6_seek_149 {ls : List Value} {x y : Int32} (h : am_R E d mX6_seek k n 150 ls (.int (x ^^^ y) :: st) S iv Q) : am_R E d mX6_seek k n 149 ls (.int y :: .int x :: st) S iv Q := am_ixor dX6_seek_149 h
theorem sX6_seek_150 {ls : List Value} {x y : Int32} (h : am_R E d mX6_seek k n 151 ls (.int (x &&& y) :: st) S iv Q) : am_R E d mX6_seek k n 150 ls (.int y :: .int x :: st) S iv Q := am_iand dX6_seek_150 h
theorem sX6_seek_151 {a0 a1 a2 a3 a4 a5 a6 a7 a8 a9 a10 a11 a12 a13 a14 : Value} {x : Int32} (h : am_R E d mX6_seek k n 153 [a0, a1, a2, a3, a4, a5, a6, a7, a8, a9, a10, a11, .int x, a13, a14] st S iv Q) : am_R E d mX6_seek k n 151 [a0, a1, a2, a3, a4, a5, a6, a7, a8, a9, a10, a11, a12, a13, a14] (.int x :: st) S iv Q := am_istore dX6_seek_151 (by decide) h
theorem sX6_seek_153 {a0 a1 a2 a3 a4 a5 a6 a7 a8 a9 a10 a11 a12 a13 a14 : Value} (h : am_R E d mX6_seek k n 154 [a0, a1, a2, a3, a4, a5, a6, a7, a8, a9, a10, a11, a12, a13, a14] (.int 0 :: st) S iv Q) : am_R E d mX6_seek k n 153 [a0, a1, a2, a3, a4, a5, a6, a7, a8, a9, a10, a11, a12, a13, a14] st S iv Q := am_iconst dX6_seek_153 (by decide) h
theorem sX6_seek_154 {a0 a1 a2 a3 a4 a5 a6 a7 a8 a9 a10 a11 a12 a13 a14 : Value} {x : Int32} (h : am_R E d mX6_seek k n 156 [a0, a1, a2, a3, a4, a5, a6, a7, a8, a9, a10, a11, a12, .int x, a14] st S iv Q) : am_R E d mX6_seek k n 154 [a0, a1, a2, a3, a4, a5, a6, a7, a8, a9, a10, a11, a12, a13, a14] (.int x :: st) S iv Q := am_istore dX6_seek_154 (by decide) h
theorem sX6_seek_156 {a0 a1 a2 a3 a4 a5 a6 a7 a8 a9 a10 a11 a12 a14 : Value} {x : Int32} (h : am_R E d mX6_seek k n 158 [a0, a1, a2, a3, a4, a5, a6, a7, a8, a9, a10, a11, a12, .int x, a14] (.int x :: st) S iv Q) : am_R E d mX6_seek k n 156 [a0, a1, a2, a3, a4, a5, a6, a7, a8, a9, a10, a11, a12, .int x, a14] st S iv Q := am_iload dX6_seek_156 rfl h
theorem sX6_seek_158 {a0 a1 a2 a3 a4 a5 a7 a8 a9 a10 a11 a12 a13 a14 : Value} {x : Int32} (h : am_R E d mX6_seek k n 160 [a0, a1, a2, a3, a4, a5, .int x, a7, a8, a9, a10, a11, a12, a13, a14] (.int x :: st) S iv Q) : am_R E d mX6_seek k n 158 [a0, a1, a2, a3, a4, a5, .int x, a7, a8, a9, a10, a11, a12, a13, a14] st S iv Q := am_iload dX6_seek_158 rfl h
theorem sX6_seek_160 {ls : List Value} {x y : Int32} (kt : y ≤ x → am_R E d mX6_seek k n 257 ls st S iv Q) (kf : ¬ y ≤ x → am_R E d mX6_seek k n 163 ls st S iv Q) : am_R E d mX6_seek k n 160 ls (.int y :: .int x :: st) S iv Q := am_icmp_ge dX6_seek_160 (by decide) kt kf
theorem sX6_seek_163 {a0 a1 a2 a3 a4 a5 a6 a7 a8 a9 a10 a12 a13 a14 : Value} {x : Int32} (h : am_R E d mX6_seek k n 165 [a0, a1, a2, a3, a4, a5, a6, a7, a8, a9, a10, .int x, a12, a13, a14] (.int x :: st) S iv Q) : am_R E d mX6_seek k n 163 [a0, a1, a2, a3, a4, a5, a6, a7, a8, a9, a10, .int x, a12, a13, a14] st S iv Q := am_iload dX6_seek_163 rfl h
theorem sX6_seek_165 {a0 a1 a2 a3 a4 a5 a6 a7 a8 a9 a10 a11 a12 a13 a14 : Value} (h : am_R E d mX6_seek k n 166 [a0, a1, a2, a3, a4, a5, a6, a7, a8, a9, a10, a11, a12, a13, a14] (.int 1 :: st) S iv Q) : am_R E d mX6_seek k n 165 [a0, a1, a2, a3, a4, a5, a6, a7, a8, a9, a10, a11, a12, a13, a14] st S iv Q := am_iconst dX6_seek_165 (by decide) h
theorem sX6_seek_166 {a0 a1 a2 a3 a4 a5 a6 a7 a8 a9 a10 a11 a12 a14 : Value} {x : Int32} (h : am_R E d mX6_seek k n 168 [a0, a1, a2, a3, a4, a5, a6, a7, a8, a9, a10, a11, a12, .int x, a14] (.int x :: st) S iv Q) : am_R E d mX6_seek k n 166 [a0, a1, a2, a3, a4, a5, a6, a7, a8, a9, a10, a11, a12, .int x, a14] st S iv Q := am_iload dX6_seek_166 rfl h
theorem sX6_seek_168 {ls : List Value} {x y : Int32} (h : am_R E d mX6_seek k n 169 ls (.int (x <<< (y &&& 31)) :: st) S iv Q) : am_R E d mX6_seek k n 168 ls (.int y :: .int x :: st) S iv Q := am_ishl dX6_seek_168 h
theorem sX6_seek_169 {ls : List Value} {x y : Int32} (h : am_R E d mX6_seek k n 170 ls (.int (x ^^^ y) :: st) S iv Q) : am_R E d mX6_seek k n 169 ls (.int y :: .int x :: st) S iv Q := am_ixor dX6_seek_169 h
theorem sX6_seek_170 {a0 a1 a2 a3 a4 a5 a6 a7 a8 a9 a10 a11 a12 a13 a14 : Value} {x : Int32} (h : am_R E d mX6_seek k n 172 [a0, a1, a2, a3, a4, a5, a6, a7, a8, a9, a10, a11, a12, a13, .int x] st S iv Q) : am_R E d mX6_seek k n 170 [a0, a1, a2, a3, a4, a5, a6, a7, a8, a9, a10, a11, a12, a13, a14] (.int x :: st) S iv Q := am_istore dX6_seek_170 (by decide) h
theorem sX6_seek_172 {a0 a1 a2 a3 a4 a5 a6 a7 a8 a9 a10 a11 a13 a14 : Value} {x : Int32} (h : am_R E d mX6_seek k n 174 [a0, a1, a2, a3, a4, a5, a6, a7, a8, a9, a10, a11, .int x, a13, a14] (.int x :: st) S iv Q) : am_R E d mX6_seek k n 172 [a0, a1, a2, a3, a4, a5, a6, a7, a8, a9, a10, a11, .int x, a13, a14] st S iv Q := am_iload dX6_seek_172 rfl h
theorem sX6_seek_174 {a0 a1 a2 a3 a4 a5 a6 a7 a8 a9 a10 a11 a12 a14 : Value} {x : Int32} (h : am_R E d mX6_seek k n 176 [a0, a1, a2, a3, a4, a5, a6, a7, a8, a9, a10, a11, a12, .int x, a14] (.int x :: st) S iv Q) : am_R E d mX6_seek k n 174 [a0, a1, a2, a3, a4, a5, a6, a7, a8, a9, a10, a11, a12, .int x, a14] st S iv Q := am_iload dX6_seek_174 rfl h
theorem sX6_seek_176 {ls : List Value} {x y : Int32} (h : am_R E d mX6_seek k n 177 ls (.int (x >>> (y &&& 31)) :: st) S iv Q) : am_R E d mX6_seek k n 176 ls (.int y :: .int x :: st) S iv Q := am_ishr dX6_seek_176 h
theorem sX6_seek_177 {a0 a1 a2 a3 a4 a5 a6 a7 a8 a9 a10 a11 a12 a13 a14 : Value} (h : am_R E d mX6_seek k n 178 [a0, a1, a2, a3, a4, a5, a6, a7, a8, a9, a10, a11, a12, a13, a14] (.int 1 :: st) S iv Q) : am_R E d mX6_seek k n 177 [a0, a1, a2, a3, a4, a5, a6, a7, a8, a9, a10, a11, a12, a13, a14] st S iv Q := am_iconst dX6_seek_177 (by decide) h
theorem sX6_seek_178 {ls : List Value} {x y : Int32} (h : am_R E d mX6_seek k n 179 ls (.int (x &&& y) :: st) S iv Q) : am_R E d mX6_seek k n 178 ls (.int y :: .int x :: st) S iv Q := am_iand dX6_seek_178 h
theorem sX6_seek_179 {ls : List Value} {x : Int32} (kt : x = 0 → am_R E d mX6_seek k n 251 ls st S iv Q) (kf : ¬ x = 0 → am_R E d mX6_seek k n 182 ls st S iv Q) : am_R E d mX6_seek k n 179 ls (.int x :: st) S iv Q := am_if_eq dX6_seek_179 (by decide) kt kf
theorem sX6_seek_182 {a0 a1 a2 a3 a4 a5 a6 a7 a8 a9 a10 a11 a12 a13 a14 : Value} (hv : am_rf a1 = true) (h : am_R E d mX6_seek k n 183 [a0, a1, a2, a3, a4, a5, a6, a7, a8, a9, a10, a11, a12, a13, a14] (a1 :: st) S iv Q) : am_R E d mX6_seek k n 182 [a0, a1, a2, a3, a4, a5, a6, a7, a8, a9, a10, a11, a12, a13, a14] st S iv Q := am_aload_n dX6_seek_182 rfl rfl hv h
theorem sX6_seek_183 {a0 a1 a2 a3 a4 a5 a6 a7 a8 a9 a10 a11 a12 a13 : Value} {x : Int32} (h : am_R E d mX6_seek k n 185 [a0, a1, a2, a3, a4, a5, a6, a7, a8, a9, a10, a11, a12, a13, .int x] (.int x :: st) S iv Q) : am_R E d mX6_seek k n 183 [a0, a1, a2, a3, a4, a5, a6, a7, a8, a9, a10, a11, a12, a13, .int x] st S iv Q := am_iload dX6_seek_183 rfl h
theorem sX6_seek_185 {ls : List Value} {x1 : Value} {a : Nat} (ha : S.1 a = some (.inl 0)) (hst : (st.map fun v => v.category).sum ≤ 8) (hM : am_M E d mX0_canBe 0 0 [.ref a, x1] S iv (am_K3 E (d + 1) mX6_seek k n 185 ls st Q)) : am_R E (d + 1) mX6_seek k n 185 ls (x1 :: .ref a :: st) S iv Q := am_cV (ci := 0) (M' := mX0_canBe) (as := [x1]) dX6_seek_185 rfl rfl rfl wq_536 wq_537 wq_538 wq_220 wq_534 hy_X0_canBe (by decide) ha hst (by omega) (by omega) hM
theorem sX6_seek_185_k {ls : List Value} {x1 : Value} {k' n' : Nat} {a : Nat} (ha : S.1 a = some (.inl 0)) (hst : (st.map fun v => v.category).sum ≤ 8) (hM : am_M E d mX0_canBe k' n' [.ref a, x1] S iv (am_K3 E (d + 1) mX6_seek k n 185 ls st Q)) : am_R E (d + 1) mX6_seek (k' + k) (n' + n) 185 ls (x1 :: .ref a :: st) S iv Q := am_cV (ci := 0) (M' := mX0_canBe) (as := [x1]) dX6_seek_185 rfl rfl rfl wq_536 wq_537 wq_538 wq_220 wq_534 hy_X0_canBe (by decide) ha hst (by omega) (by omega) hM
theorem sX6_seek_188 {ls : List Value} {x : Int32} (kt : ¬ x = 0 → am_R E d mX6_seek k n 194 ls st S iv Q) (kf : x = 0 → am_R E d mX6_seek k n 191 ls st S iv Q) : am_R E d mX6_seek k n 188 ls (.int x :: st) S iv Q := am_if_ne dX6_seek_188 (by decide) kt kf
theorem sX6_seek_191 {ls : List Value} (h : am_R E d mX6_seek k n 251 ls st S iv Q) : am_R E d mX6_seek k n 191 ls st S iv Q := am_goto dX6_seek_191 (by decide) h
theorem sX6_seek_194 {a0 a1 a2 a3 a4 a5 a6 a8 a9 a10 a11 a12 a13 a14 : Value} {x : Int32} (h : am_R E d mX6_seek k n 196 [a0, a1, a2, a3, a4, a5, a6, .int x, a8, a9, a10, a11, a12, a13, a14] (.int x :: st) S iv Q) : am_R E d mX6_seek k n 194 [a0, a1, a2, a3, a4, a5, a6, .int x, a8, a9, a10, a11, a12, a13, a14] st S iv Q := am_iload dX6_seek_194 rfl h
theorem sX6_seek_196 {ls : List Value} {x : Int32} (kt : x = 0 → am_R E d mX6_seek k n 223 ls st S iv Q) (kf : ¬ x = 0 → am_R E d mX6_seek k n 199 ls st S iv Q) : am_R E d mX6_seek k n 196 ls (.int x :: st) S iv Q := am_if_eq dX6_seek_196 (by decide) kt kf
theorem sX6_seek_199 {a0 a1 a2 a3 a4 a5 a6 a7 a8 a9 a10 a11 a12 a13 : Value} {x : Int32} (h : am_R E d mX6_seek k n 201 [a0, a1, a2, a3, a4, a5, a6, a7, a8, a9, a10, a11, a12, a13, .int x] (.int x :: st) S iv Q) : am_R E d mX6_seek k n 199 [a0, a1, a2, a3, a4, a5, a6, a7, a8, a9, a10, a11, a12, a13, .int x] st S iv Q := am_iload dX6_seek_199 rfl h
theorem sX6_seek_201 {a0 a1 a2 a3 a4 a5 a6 a7 a8 a9 a11 a12 a13 a14 : Value} {x : Int32} (h : am_R E d mX6_seek k n 203 [a0, a1, a2, a3, a4, a5, a6, a7, a8, a9, .int x, a11, a12, a13, a14] (.int x :: st) S iv Q) : am_R E d mX6_seek k n 201 [a0, a1, a2, a3, a4, a5, a6, a7, a8, a9, .int x, a11, a12, a13, a14] st S iv Q := am_iload dX6_seek_201 rfl h
theorem sX6_seek_203 {a0 a1 a2 a3 a4 a5 a6 a7 a8 a9 a10 a11 a12 a13 a14 : Value} (hv : am_rf a0 = true) (h : am_R E d mX6_seek k n 204 [a0, a1, a2, a3, a4, a5, a6, a7, a8, a9, a10, a11, a12, a13, a14] (a0 :: st) S iv Q) : am_R E d mX6_seek k n 203 [a0, a1, a2, a3, a4, a5, a6, a7, a8, a9, a10, a11, a12, a13, a14] st S iv Q := am_aload_n dX6_seek_203 rfl rfl hv h
theorem sX6_seek_204 {ls : List Value} {a : Nat} (ha : S.1 a = some (.inl 6)) (h : am_R E d mX6_seek k n 207 ls (.int (iv a 3) :: st) S iv Q) : am_R E d mX6_seek k n 204 ls (.ref a :: st) S iv Q := am_getI (ci := 6) dX6_seek_204 rfl rfl (by decide) wq_514 uq_6 rfl ha h
theorem sX6_seek_207 {a0 a1 a2 a3 a4 a5 a6 a7 a8 a9 a10 a11 a12 a13 a14 : Value} (h : am_R E d mX6_seek k n 208 [a0, a1, a2, a3, a4, a5, a6, a7, a8, a9, a10, a11, a12, a13, a14] (.int (-1) :: st) S iv Q) : am_R E d mX6_seek k n 207 [a0, a1, a2, a3, a4, a5, a6, a7, a8, a9, a10, a11, a12, a13, a14] st S iv Q := am_iconst dX6_seek_207 (by decide) h
theorem sX6_seek_208 {ls : List Value} {x y : Int32} (h : am_R E d mX6_seek k n 209 ls (.int (x ^^^ y) :: st) S iv Q) : am_R E d mX6_seek k n 208 ls (.int y :: .int x :: st) S iv Q := am_ixor dX6_seek_208 h
theorem sX6_seek_209 {ls : List Value} {x y : Int32} (h : am_R E d mX6_seek k n 210 ls (.int (x &&& y) :: st) S iv Q) : am_R E d mX6_seek k n 209 ls (.int y :: .int x :: st) S iv Q := am_iand dX6_seek_209 h
theorem sX6_seek_210 {a0 a1 a2 a3 a4 a5 a6 a7 a8 a9 a10 a11 a12 a13 a14 : Value} (hv : am_rf a1 = true) (h : am_R E d mX6_seek k n 211 [a0, a1, a2, a3, a4, a5, a6, a7, a8, a9, a10, a11, a12, a13, a14] (a1 :: st) S iv Q) : am_R E d mX6_seek k n 210 [a0, a1, a2, a3, a4, a5, a6, a7, a8, a9, a10, a11, a12, a13, a14] st S iv Q := am_aload_n dX6_seek_210 rfl rfl hv h
theorem sX6_seek_211 {a0 a1 a2 a3 a4 a5 a6 a7 a8 a9 a10 a11 a12 a13 : Value} {x : Int32} (h : am_R E d mX6_seek k n 213 [a0, a1, a2, a3, a4, a5, a6, a7, a8, a9, a10, a11, a12, a13, .int x] (.int x :: st) S iv Q) : am_R E d mX6_seek k n 211 [a0, a1, a2, a3, a4, a5, a6, a7, a8, a9, a10, a11, a12, a13, .int x] st S iv Q := am_iload dX6_seek_211 rfl h
theorem sX6_seek_213 {ls : List Value} {x1 : Value} {a : Nat} (ha : S.1 a = some (.inl 0)) (hst : (st.map fun v => v.category).sum ≤ 8) (hM : am_M E d mX0_fedBy 0 0 [.ref a, x1] S iv (am_K3 E (d + 1) mX6_seek k n 213 ls st Q)) : am_R E (d + 1) mX6_seek k n 213 ls (x1 :: .ref a :: st) S iv Q := am_cV (ci := 0) (M' := mX0_fedBy) (as := [x1]) dX6_seek_213 rfl rfl rfl wq_541 wq_542 wq_543 wq_220 wq_539 hy_X0_fedBy (by decide) ha hst (by omega) (by omega) hM
theorem sX6_seek_213_k {ls : List Value} {x1 : Value} {k' n' : Nat} {a : Nat} (ha : S.1 a = some (.inl 0)) (hst : (st.map fun v => v.category).sum ≤ 8) (hM : am_M E d mX0_fedBy k' n' [.ref a, x1] S iv (am_K3 E (d + 1) mX6_seek k n 213 ls st Q)) : am_R E (d + 1) mX6_seek (k' + k) (n' + n) 213 ls (x1 :: .ref a :: st) S iv Q := am_cV (ci := 0) (M' := mX0_fedBy) (as := [x1]) dX6_seek_213 rfl rfl rfl wq_541 wq_542 wq_543 wq_220 wq_539 hy_X0_fedBy (by decide) ha hst (by omega) (by omega) hM
theorem sX6_seek_216 {a0 a1 a2 a3 a4 a5 a7 a8 a9 a10 a11 a12 a13 a14 : Value} {x : Int32} (h : am_R E d mX6_seek k n 218 [a0, a1, a2, a3, a4, a5, .int x, a7, a8, a9, a10, a11, a12, a13, a14] (.int x :: st) S iv Q) : am_R E d mX6_seek k n 216 [a0, a1, a2, a3, a4, a5, .int x, a7, a8, a9, a10, a11, a12, a13, a14] st S iv Q := am_iload dX6_seek_216 rfl h
theorem sX6_seek_218 {ls : List Value} {x y : Int32} (h : am_R E d mX6_seek k n 219 ls (.int (x <<< (y &&& 31)) :: st) S iv Q) : am_R E d mX6_seek k n 218 ls (.int y :: .int x :: st) S iv Q := am_ishl dX6_seek_218 h
theorem sX6_seek_219 {ls : List Value} {x y : Int32} (h : am_R E d mX6_seek k n 220 ls (.int (x ||| y) :: st) S iv Q) : am_R E d mX6_seek k n 219 ls (.int y :: .int x :: st) S iv Q := am_ior dX6_seek_219 h
theorem sX6_seek_220 {ls : List Value} {x y : Int32} (h : am_R E d mX6_seek k n 221 ls (.int (x ||| y) :: st) S iv Q) : am_R E d mX6_seek k n 220 ls (.int y :: .int x :: st) S iv Q := am_ior dX6_seek_220 h
theorem sX6_seek_221 {a0 a1 a2 a3 a4 a5 a6 a7 a8 a9 a10 a11 a12 a13 a14 : Value} {x : Int32} (h : am_R E d mX6_seek k n 223 [a0, a1, a2, a3, a4, a5, a6, a7, a8, a9, a10, a11, a12, a13, .int x] st S iv Q) : am_R E d mX6_seek k n 221 [a0, a1, a2, a3, a4, a5, a6, a7, a8, a9, a10, a11, a12, a13, a14] (.int x :: st) S iv Q := am_istore dX6_seek_221 (by decide) h
theorem sX6_seek_223 {a0 a1 a2 a3 a4 a5 a6 a7 a8 a9 a10 a11 a12 a13 a14 : Value} (hv : am_rf a0 = true) (h : am_R E d mX6_seek k n 224 [a0, a1, a2, a3, a4, a5, a6, a7, a8, a9, a10, a11, a12, a13, a14] (a0 :: st) S iv Q) : am_R E d mX6_seek k n 223 [a0, a1, a2, a3, a4, a5, a6, a7, a8, a9, a10, a11, a12, a13, a14] st S iv Q := am_aload_n dX6_seek_223 rfl rfl hv h
theorem sX6_seek_224 {a0 a1 a2 a3 a4 a5 a6 a7 a8 a9 a10 a11 a12 a13 : Value} {x : Int32} (h : am_R E d mX6_seek k n 226 [a0, a1, a2, a3, a4, a5, a6, a7, a8, a9, a10, a11, a12, a13, .int x] (.int x :: st) S iv Q) : am_R E d mX6_seek k n 224 [a0, a1, a2, a3, a4, a5, a6, a7, a8, a9, a10, a11, a12, a13, .int x] st S iv Q := am_iload dX6_seek_224 rfl h
theorem sX6_seek_226 {a0 a1 a2 a3 a4 a5 a6 a7 a8 a10 a11 a12 a13 a14 : Value} {x : Int32} (h : am_R E d mX6_seek k n 228 [a0, a1, a2, a3, a4, a5, a6, a7, a8, .int x, a10, a11, a12, a13, a14] (.int x :: st) S iv Q) : am_R E d mX6_seek k n 226 [a0, a1, a2, a3, a4, a5, a6, a7, a8, .int x, a10, a11, a12, a13, a14] st S iv Q := am_iload dX6_seek_226 rfl h
theorem sX6_seek_228 {ls : List Value} {x1 x2 : Value} {a : Nat} (ha : S.1 a = some (.inl 6)) (hst : (st.map fun v => v.category).sum ≤ 8) (hM : am_M E d mX6_note 0 0 [.ref a, x1, x2] S iv (am_K3 E (d + 1) mX6_seek k n 228 ls st Q)) : am_R E (d + 1) mX6_seek k n 228 ls (x2 :: x1 :: .ref a :: st) S iv Q := am_cV (ci := 6) (M' := mX6_note) (as := [x1, x2]) dX6_seek_228 rfl rfl rfl wq_525 wq_526 wq_527 wq_518 wq_523 hy_X6_note (by decide) ha hst (by omega) (by omega) hM
theorem sX6_seek_228_k {ls : List Value} {x1 x2 : Value} {k' n' : Nat} {a : Nat} (ha : S.1 a = some (.inl 6)) (hst : (st.map fun v => v.category).sum ≤ 8) (hM : am_M E d mX6_note k' n' [.ref a, x1, x2] S iv (am_K3 E (d + 1) mX6_seek k n 228 ls st Q)) : am_R E (d + 1) mX6_seek (k' + k) (n' + n) 228 ls (x2 :: x1 :: .ref a :: st) S iv Q := am_cV (ci := 6) (M' := mX6_note) (as := [x1, x2]) dX6_seek_228 rfl rfl rfl wq_525 wq_526 wq_527 wq_518 wq_523 hy_X6_note (by decide) ha hst (by omega) (by omega) hM
theorem sX6_seek_231 {ls : List Value} {x : Int32} (kt : x = 0 → am_R E d mX6_seek k n 251 ls st S iv Q) (kf : ¬ x = 0 → am_R E d mX6_seek k n 234 ls st S iv Q) : am_R E d mX6_seek k n 231 ls (.int x :: st) S iv Q := am_if_eq dX6_seek_231 (by decide) kt kf
theorem sX6_seek_234 {a0 a1 a2 a3 a4 a5 a6 a7 a8 a9 a10 a11 a12 a13 : Value} {x : Int32} (h : am_R E d mX6_seek k n 236 [a0, a1, a2, a3, a4, a5, a6, a7, a8, a9, a10, a11, a12, a13, .int x] (.int x :: st) S iv Q) : am_R E d mX6_seek k n 234 [a0, a1, a2, a3, a4, a5, a6, a7, a8, a9, a10, a11, a12, a13, .int x] st S iv Q := am_iload dX6_seek_234 rfl h
theorem sX6_seek_236 {a0 a1 a2 a3 a5 a6 a7 a8 a9 a10 a11 a12 a13 a14 : Value} {x : Int32} (h : am_R E d mX6_seek k n 238 [a0, a1, a2, a3, .int x, a5, a6, a7, a8, a9, a10, a11, a12, a13, a14] (.int x :: st) S iv Q) : am_R E d mX6_seek k n 236 [a0, a1, a2, a3, .int x, a5, a6, a7, a8, a9, a10, a11, a12, a13, a14] st S iv Q := am_iload dX6_seek_236 rfl h
theorem sX6_seek_238 {ls : List Value} {x y : Int32} (h : am_R E d mX6_seek k n 239 ls (.int (x &&& y) :: st) S iv Q) : am_R E d mX6_seek k n 238 ls (.int y :: .int x :: st) S iv Q := am_iand dX6_seek_238 h
theorem sX6_seek_239 {a0 a1 a2 a3 a4 a6 a7 a8 a9 a10 a11 a12 a13 a14 : Value} {x : Int32} (h : am_R E d mX6_seek k n 241 [a0, a1, a2, a3, a4, .int x, a6, a7, a8, a9, a10, a11, a12, a13, a14] (.int x :: st) S iv Q) : am_R E d mX6_seek k n 239 [a0, a1, a2, a3, a4, .int x, a6, a7, a8, a9, a10, a11, a12, a13, a14] st S iv Q := am_iload dX6_seek_239 rfl h
theorem sX6_seek_241 {ls : List Value} {x y : Int32} (kt : ¬ x = y → am_R E d mX6_seek k n 251 ls st S iv Q) (kf : x = y → am_R E d mX6_seek k n 244 ls st S iv Q) : am_R E d mX6_seek k n 241 ls (.int y :: .int x :: st) S iv Q := am_icmp_ne dX6_seek_241 (by decide) kt kf
theorem sX6_seek_244 {a0 a1 a2 a3 a4 a5 a6 a7 a8 a9 a10 a11 a12 a13 a14 : Value} (hv : am_rf a0 = true) (h : am_R E d mX6_seek k n 245 [a0, a1, a2, a3, a4, a5, a6, a7, a8, a9, a10, a11, a12, a13, a14] (a0 :: st) S iv Q) : am_R E d mX6_seek k n 244 [a0, a1, a2, a3, a4, a5, a6, a7, a8, a9, a10, a11, a12, a13, a14] st S iv Q := am_aload_n dX6_seek_244 rfl rfl hv h
theorem sX6_seek_245 {ls : List Value} {a : Nat} (ha : S.1 a = some (.inl 6)) (h : am_R E d mX6_seek k n 248 ls (.int (iv a 2) :: st) S iv Q) : am_R E d mX6_seek k n 245 ls (.ref a :: st) S iv Q := am_getI (ci := 6) dX6_seek_245 rfl rfl (by decide) wq_528 uq_6 rfl ha h
theorem sX6_seek_248 {a0 a1 a2 a3 a4 a5 a6 a7 a8 a9 a10 a11 a12 a13 a14 : Value} (h : am_R E d mX6_seek k n 249 [a0, a1, a2, a3, a4, a5, a6, a7, a8, a9, a10, a11, a12, a13, a14] (.int 1 :: st) S iv Q) : am_R E d mX6_seek k n 248 [a0, a1, a2, a3, a4, a5, a6, a7, a8, a9, a10, a11, a12, a13, a14] st S iv Q := am_iconst dX6_seek_248 (by decide) h
theorem sX6_seek_249 {ls : List Value} {x y : Int32} (h : am_R E d mX6_seek k n 250 ls (.int (x - y) :: st) S iv Q) : am_R E d mX6_seek k n 249 ls (.int y :: .int x :: st) S iv Q := am_isub dX6_seek_249 h
theorem sX6_seek_250 {ls : List Value} {x : Int32} (h : Q (.inl (some (.int x))) S iv) : am_R E d mX6_seek k n 250 ls [.int x] S iv Q := am_ireturn dX6_seek_250 rfl h
theorem sX6_seek_251 {a0 a1 a2 a3 a4 a5 a6 a7 a8 a9 a10 a11 a12 a14 : Value} {x : Int32} (h : am_R E d mX6_seek k n 254 [a0, a1, a2, a3, a4, a5, a6, a7, a8, a9, a10, a11, a12, .int (x + 1), a14] st S iv Q) : am_R E d mX6_seek k n 251 [a0, a1, a2, a3, a4, a5, a6, a7, a8, a9, a10, a11, a12, .int x, a14] st S iv Q := am_iinc dX6_seek_251 rfl rfl (by decide) h
theorem sX6_seek_254 {ls : List Value} (h : am_R E d mX6_seek k n 156 ls st S iv Q) : am_R E d mX6_seek k n 254 ls st S iv Q := am_goto dX6_seek_254 (by decide) h
theorem sX6_seek_257 {a0 a1 a2 a3 a4 a5 a6 a7 a8 a10 a11 a12 a13 a14 : Value} {x : Int32} (h : am_R E d mX6_seek k n 260 [a0, a1, a2, a3, a4, a5, a6, a7, a8, .int (x + 1), a10, a11, a12, a13, a14] st S iv Q) : am_R E d mX6_seek k n 257 [a0, a1, a2, a3, a4, a5, a6, a7, a8, .int x, a10, a11, a12, a13, a14] st S iv Q := am_iinc dX6_seek_257 rfl rfl (by decide) h
theorem sX6_seek_260 {ls : List Value} (h : am_R E d mX6_seek k n 100 ls st S iv Q) : am_R E d mX6_seek k n 260 ls st S iv Q := am_goto dX6_seek_260 (by decide) h
theorem sX6_seek_263 {a0 a1 a2 a3 a4 a5 a6 a7 a8 a9 a10 a11 a12 a13 a14 : Value} (h : am_R E d mX6_seek k n 264 [a0, a1, a2, a3, a4, a5, a6, a7, a8, a9, a10, a11, a12, a13, a14] (.int (-1) :: st) S iv Q) : am_R E d mX6_seek k n 263 [a0, a1, a2, a3, a4, a5, a6, a7, a8, a9, a10, a11, a12, a13, a14] st S iv Q := am_iconst dX6_seek_263 (by decide) h
theorem sX6_seek_264 {ls : List Value} {x : Int32} (h : Q (.inl (some (.int x))) S iv) : am_R E d mX6_seek k n 264 ls [.int x] S iv Q := am_ireturn dX6_seek_264 rfl h
theorem dX6_everOut_0 : decode cX6_everOut 0 = .ok (.aload_n 0, 1) := by decide +kernel
theorem dX6_everOut_1 : decode cX6_everOut 1 = .ok (.aload_n 1, 1) := by decide +kernel
theorem dX6_everOut_2 : decode cX6_everOut 2 = .ok (.iload_n 2, 1) := by decide +kernel
theorem dX6_everOut_3 : decode cX6_everOut 3 = .ok (.iload_n 3, 1) := by decide +kernel
theorem dX6_everOut_4 : decode cX6_everOut 4 = .ok (.iconst 0, 1) := by decide +kernel
theorem dX6_everOut_5 : decode cX6_everOut 5 = .ok (.iconst 1, 1) := by decide +kernel
theorem dX6_everOut_6 : decode cX6_everOut 6 = .ok (.invokevirtual 64, 3) := by decide +kernel
theorem dX6_everOut_9 : decode cX6_everOut 9 = .ok (.pop, 1) := by decide +kernel
theorem dX6_everOut_10 : decode cX6_everOut 10 = .ok (.iconst 0, 1) := by decide +kernel
theorem dX6_everOut_11 : decode cX6_everOut 11 = .ok (.istore 4, 2) := by decide +kernel
theorem dX6_everOut_13 : decode cX6_everOut 13 = .ok (.iconst 0, 1) := by decide +kernel
theorem dX6_everOut_14 : decode cX6_everOut 14 = .ok (.istore 5, 2) := by decide +kernel
theorem dX6_everOut_16 : decode cX6_everOut 16 = .ok (.iload 5, 2) := by decide +kernel
theorem dX6_everOut_18 : decode cX6_everOut 18 = .ok (.aload_n 0, 1) := by decide +kernel
theorem dX6_everOut_19 : decode cX6_everOut 19 = .ok (.getfield 52, 3) := by decide +kernel
theorem dX6_everOut_22 : decode cX6_everOut 22 = .ok (.if_icmp .ge 26, 3) := by decide +kernel
theorem dX6_everOut_25 : decode cX6_everOut 25 = .ok (.iload 4, 2) := by decide +kernel
theorem dX6_everOut_27 : decode cX6_everOut 27 = .ok (.aload_n 0, 1) := by decide +kernel
theorem dX6_everOut_28 : decode cX6_everOut 28 = .ok (.getfield 11, 3) := by decide +kernel
theorem dX6_everOut_31 : decode cX6_everOut 31 = .ok (.iload 5, 2) := by decide +kernel
theorem dX6_everOut_33 : decode cX6_everOut 33 = .ok (.iaload, 1) := by decide +kernel
theorem dX6_everOut_34 : decode cX6_everOut 34 = .ok (.aload_n 0, 1) := by decide +kernel
theorem dX6_everOut_35 : decode cX6_everOut 35 = .ok (.getfield 34, 3) := by decide +kernel
theorem dX6_everOut_38 : decode cX6_everOut 38 = .ok (.iand, 1) := by decide +kernel
theorem dX6_everOut_39 : decode cX6_everOut 39 = .ok (.ior, 1) := by decide +kernel
theorem dX6_everOut_40 : decode cX6_everOut 40 = .ok (.istore 4, 2) := by decide +kernel
theorem dX6_everOut_42 : decode cX6_everOut 42 = .ok (.iinc 5 1, 3) := by decide +kernel
theorem dX6_everOut_45 : decode cX6_everOut 45 = .ok (.goto (-29), 3) := by decide +kernel
theorem dX6_everOut_48 : decode cX6_everOut 48 = .ok (.iload 4, 2) := by decide +kernel
theorem dX6_everOut_50 : decode cX6_everOut 50 = .ok (.ireturn, 1) := by decide +kernel
theorem sX6_everOut_0 {a0 a1 a2 a3 a4 a5 : Value} (hv : am_rf a0 = true) (h : am_R E d mX6_everOut k n 1 [a0, a1, a2, a3, a4, a5] (a0 :: st) S iv Q) : am_R E d mX6_everOut k n 0 [a0, a1, a2, a3, a4, a5] st S iv Q := am_aload_n dX6_everOut_0 rfl rfl hv h
theorem sX6_everOut_1 {a0 a1 a2 a3 a4 a5 : Value} (hv : am_rf a1 = true) (h : am_R E d mX6_everOut k n 2 [a0, a1, a2, a3, a4, a5] (a1 :: st) S iv Q) : am_R E d mX6_everOut k n 1 [a0, a1, a2, a3, a4, a5] st S iv Q := am_aload_n dX6_everOut_1 rfl rfl hv h
theorem sX6_everOut_2 {a0 a1 a3 a4 a5 : Value} {x : Int32} (h : am_R E d mX6_everOut k n 3 [a0, a1, .int x, a3, a4, a5] (.int x :: st) S iv Q) : am_R E d mX6_everOut k n 2 [a0, a1, .int x, a3, a4, a5] st S iv Q := am_iload_n dX6_everOut_2 rfl rfl h
theorem sX6_everOut_3 {a0 a1 a2 a4 a5 : Value} {x : Int32} (h : am_R E d mX6_everOut k n 4 [a0, a1, a2, .int x, a4, a5] (.int x :: st) S iv Q) : am_R E d mX6_everOut k n 3 [a0, a1, a2, .int x, a4, a5] st S iv Q := am_iload_n dX6_everOut_3 rfl rfl h
theorem sX6_everOut_4 {a0 a1 a2 a3 a4 a5 : Value} (h : am_R E d mX6_everOut k n 5 [a0, a1, a2, a3, a4, a5] (.int 0 :: st) S iv Q) : am_R E d mX6_everOut k n 4 [a0, a1, a2, a3, a4, a5] st S iv Q := am_iconst dX6_everOut_4 (by decide) h
theorem sX6_everOut_5 {a0 a1 a2 a3 a4 a5 : Value} (h : am_R E d mX6_everOut k n 6 [a0, a1, a2, a3, a4, a5] (.int 1 :: st) S iv Q) : am_R E d mX6_everOut k n 5 [a0, a1, a2, a3, a4, a5] st S iv Q := am_iconst dX6_everOut_5 (by decide) h
theorem sX6_everOut_6 {ls : List Value} {x1 x2 x3 x4 x5 : Value} {a : Nat} (ha : S.1 a = some (.inl 6)) (hst : (st.map fun v => v.category).sum ≤ 8) (hM : am_M E d mX6_seek 0 0 [.ref a, x1, x2, x3, x4, x5] S iv (am_K3 E (d + 1) mX6_everOut k n 6 ls st Q)) : am_R E (d + 1) mX6_everOut k n 6 ls (x5 :: x4 :: x3 :: x2 :: x1 :: .ref a :: st) S iv Q := am_cV (ci := 6) (M' := mX6_seek) (as := [x1, x2, x3, x4, x5]) dX6_everOut_6 rfl rfl rfl wq_546 wq_547 wq_548 wq_518 wq_544 hy_X6_seek (by decide) ha hst (by omega) (by omega) hM
theorem sX6_everOut_6_k {ls : List Value} {x1 x2 x3 x4 x5 : Value} {k' n' : Nat} {a : Nat} (ha : S.1 a = some (.inl 6)) (hst : (st.map fun v => v.category).sum ≤ 8) (hM : am_M E d mX6_seek k' n' [.ref a, x1, x2, x3, x4, x5] S iv (am_K3 E (d + 1) mX6_everOut k n 6 ls st Q)) : am_R E (d + 1) mX6_everOut (k' + k) (n' + n) 6 ls (x5 :: x4 :: x3 :: x2 :: x1 :: .ref a :: st) S iv Q := am_cV (ci := 6) (M' := mX6_seek) (as := [x1, x2, x3, x4, x5]) dX6_everOut_6 rfl rfl rfl wq_546 wq_547 wq_548 wq_518 wq_544 hy_X6_seek (by decide) ha hst (by omega) (by omega) hM
theorem sX6_everOut_9 {ls : List Value} {x : Value} (hv : x.category = 1) (h : am_R E d mX6_everOut k n 10 ls st S iv Q) : am_R E d mX6_everOut k n 9 ls (x :: st) S iv Q := am_pop dX6_everOut_9 hv h
theorem sX6_everOut_10 {a0 a1 a2 a3 a4 a5 : Value} (h : am_R E d mX6_everOut k n 11 [a0, a1, a2, a3, a4, a5] (.int 0 :: st) S iv Q) : am_R E d mX6_everOut k n 10 [a0, a1, a2, a3, a4, a5] st S iv Q := am_iconst dX6_everOut_10 (by decide) h
theorem sX6_everOut_11 {a0 a1 a2 a3 a4 a5 : Value} {x : Int32} (h : am_R E d mX6_everOut k n 13 [a0, a1, a2, a3, .int x, a5] st S iv Q) : am_R E d mX6_everOut k n 11 [a0, a1, a2, a3, a4, a5] (.int x :: st) S iv Q := am_istore dX6_everOut_11 (by decide) h
theorem sX6_everOut_13 {a0 a1 a2 a3 a4 a5 : Value} (h : am_R E d mX6_everOut k n 14 [a0, a1, a2, a3, a4, a5] (.int 0 :: st) S iv Q) : am_R E d mX6_everOut k n 13 [a0, a1, a2, a3, a4, a5] st S iv Q := am_iconst dX6_everOut_13 (by decide) h
theorem sX6_everOut_14 {a0 a1 a2 a3 a4 a5 : Value} {x : Int32} (h : am_R E d mX6_everOut k n 16 [a0, a1, a2, a3, a4, .int x] st S iv Q) : am_R E d mX6_everOut k n 14 [a0, a1, a2, a3, a4, a5] (.int x :: st) S iv Q := am_istore dX6_everOut_14 (by decide) h
theorem sX6_everOut_16 {a0 a1 a2 a3 a4 : Value} {x : Int32} (h : am_R E d mX6_everOut k n 18 [a0, a1, a2, a3, a4, .int x] (.int x :: st) S iv Q) : am_R E d mX6_everOut k n 16 [a0, a1, a2, a3, a4, .int x] st S iv Q := am_iload dX6_everOut_16 rfl h
theorem sX6_everOut_18 {a0 a1 a2 a3 a4 a5 : Value} (hv : am_rf a0 = true) (h : am_R E d mX6_everOut k n 19 [a0, a1, a2, a3, a4, a5] (a0 :: st) S iv Q) : am_R E d mX6_everOut k n 18 [a0, a1, a2, a3, a4, a5] st S iv Q := am_aload_n dX6_everOut_18 rfl rfl hv h
theorem sX6_everOut_19 {ls : List Value} {a : Nat} (ha : S.1 a = some (.inl 6)) (h : am_R E d mX6_everOut k n 22 ls (.int (iv a 2) :: st) S iv Q) : am_R E d mX6_everOut k n 19 ls (.ref a :: st) S iv Q := am_getI (ci := 6) dX6_everOut_19 rfl rfl (by decide) wq_528 uq_6 rfl ha h
theorem sX6_everOut_22 {ls : List Value} {x y : Int32} (kt : y ≤ x → am_R E d mX6_everOut k n 48 ls st S iv Q) (kf : ¬ y ≤ x → am_R E d mX6_everOut k n 25 ls st S iv Q) : am_R E d mX6_everOut k n 22 ls (.int y :: .int x :: st) S iv Q := am_icmp_ge dX6_everOut_22 (by decide) kt kf
theorem sX6_everOut_25 {a0 a1 a2 a3 a5 : Value} {x : Int32} (h : am_R E d mX6_everOut k n 27 [a0, a1, a2, a3, .int x, a5] (.int x :: st) S iv Q) : am_R E d mX6_everOut k n 25 [a0, a1, a2, a3, .int x, a5] st S iv Q := am_iload dX6_everOut_25 rfl h
theorem sX6_everOut_27 {a0 a1 a2 a3 a4 a5 : Value} (hv : am_rf a0 = true) (h : am_R E d mX6_everOut k n 28 [a0, a1, a2, a3, a4, a5] (a0 :: st) S iv Q) : am_R E d mX6_everOut k n 27 [a0, a1, a2, a3, a4, a5] st S iv Q := am_aload_n dX6_everOut_27 rfl rfl hv h
theorem sX6_everOut_28 {ls : List Value} {a b : Nat} (ha : S.1 a = some (.inl 6)) (hb : S.2.1 a 0 = some b) (h : am_R E d mX6_everOut k n 31 ls (.ref b :: st) S iv Q) : am_R E d mX6_everOut k n 28 ls (.ref a :: st) S iv Q := am_getR (ci := 6) dX6_everOut_28 rfl rfl (by decide) wq_505 uq_6 rfl ha hb h
theorem sX6_everOut_31 {a0 a1 a2 a3 a4 : Value} {x : Int32} (h : am_R E d mX6_everOut k n 33 [a0, a1, a2, a3, a4, .int x] (.int x :: st) S iv Q) : am_R E d mX6_everOut k n 31 [a0, a1, a2, a3, a4, .int x] st S iv Q := am_iload dX6_everOut_31 rfl h
theorem sX6_everOut_33 {ls : List Value} {a m : Nat} {i : Int32} (ha : S.1 a = some (.inr (.int, m))) (hi : vp_in i m) (h : am_R E d mX6_everOut k n 34 ls (.int (iv a i.toNatClampNeg) :: st) S iv Q) : am_R E d mX6_everOut k n 33 ls (.int i :: .ref a :: st) S iv Q := am_iaload dX6_everOut_33 ha hi h
theorem sX6_everOut_34 {a0 a1 a2 a3 a4 a5 : Value} (hv : am_rf a0 = true) (h : am_R E d mX6_everOut k n 35 [a0, a1, a2, a3, a4, a5] (a0 :: st) S iv Q) : am_R E d mX6_everOut k n 34 [a0, a1, a2, a3, a4, a5] st S iv Q := am_aload_n dX6_everOut_34 rfl rfl hv h
theorem sX6_everOut_35 {ls : List Value} {a : Nat} (ha : S.1 a = some (.inl 6)) (h : am_R E d mX6_everOut k n 38 ls (.int (iv a 3) :: st) S iv Q) : am_R E d mX6_everOut k n 35 ls (.ref a :: st) S iv Q := am_getI (ci := 6) dX6_everOut_35 rfl rfl (by decide) wq_514 uq_6 rfl ha h
theorem sX6_everOut_38 {ls : List Value} {x y : Int32} (h : am_R E d mX6_everOut k n 39 ls (.int (x &&& y) :: st) S iv Q) : am_R E d mX6_everOut k n 38 ls (.int y :: .int x :: st) S iv Q := am_iand dX6_everOut_38 h
theorem sX6_everOut_39 {ls : List Value} {x y : Int32} (h : am_R E d mX6_everOut k n 40 ls (.int (x ||| y) :: st) S iv Q) : am_R E d mX6_everOut k n 39 ls (.int y :: .int x :: st) S iv Q := am_ior dX6_everOut_39 h
theorem sX6_everOut_40 {a0 a1 a2 a3 a4 a5 : Value} {x : Int32} (h : am_R E d mX6_everOut k n 42 [a0, a1, a2, a3, .int x, a5] st S iv Q) : am_R E d mX6_everOut k n 40 [a0, a1, a2, a3, a4, a5] (.int x :: st) S iv Q := am_istore dX6_everOut_40 (by decide) h
theorem sX6_everOut_42 {a0 a1 a2 a3 a4 : Value} {x : Int32} (h : am_R E d mX6_everOut k n 45 [a0, a1, a2, a3, a4, .int (x + 1)] st S iv Q) : am_R E d mX6_everOut k n 42 [a0, a1, a2, a3, a4, .int x] st S iv Q := am_iinc dX6_everOut_42 rfl rfl (by decide) h
theorem sX6_everOut_45 {ls : List Value} (h : am_R E d mX6_everOut k n 16 ls st S iv Q) : am_R E d mX6_everOut k n 45 ls st S iv Q := am_goto dX6_everOut_45 (by decide) h
theorem sX6_everOut_48 {a0 a1 a2 a3 a5 : Value} {x : Int32} (h : am_R E d mX6_everOut k n 50 [a0, a1, a2, a3, .int x, a5] (.int x :: st) S iv Q) : am_R E d mX6_everOut k n 48 [a0, a1, a2, a3, .int x, a5] st S iv Q := am_iload dX6_everOut_48 rfl h
theorem sX6_everOut_50 {ls : List Value} {x : Int32} (h : Q (.inl (some (.int x))) S iv) : am_R E d mX6_everOut k n 50 ls [.int x] S iv Q := am_ireturn dX6_everOut_50 rfl h
theorem dX6_begin_0 : decode cX6_begin 0 = .ok (.iconst 1, 1) := by decide +kernel
theorem dX6_begin_1 : decode cX6_begin 1 = .ok (.iload_n 1, 1) := by decide +kernel
theorem dX6_begin_2 : decode cX6_begin 2 = .ok (.iconst 0, 1) := by decide +kernel
theorem dX6_begin_3 : decode cX6_begin 3 = .ok (.invokestatic 68, 3) := by decide +kernel
theorem dX6_begin_6 : decode cX6_begin 6 = .ok (.bipush 15, 2) := by decide +kernel
theorem dX6_begin_8 : decode cX6_begin 8 = .ok (.invokestatic 74, 3) := by decide +kernel
theorem dX6_begin_11 : decode cX6_begin 11 = .ok (.ishl, 1) := by decide +kernel
theorem dX6_begin_12 : decode cX6_begin 12 = .ok (.istore_n 2, 1) := by decide +kernel
theorem dX6_begin_13 : decode cX6_begin 13 = .ok (.iload_n 2, 1) := by decide +kernel
theorem dX6_begin_14 : decode cX6_begin 14 = .ok (.bipush 31, 2) := by decide +kernel
theorem dX6_begin_16 : decode cX6_begin 16 = .ok (.iadd, 1) := by decide +kernel
theorem dX6_begin_17 : decode cX6_begin 17 = .ok (.bipush 32, 2) := by decide +kernel
theorem dX6_begin_19 : decode cX6_begin 19 = .ok (.idiv, 1) := by decide +kernel
theorem dX6_begin_20 : decode cX6_begin 20 = .ok (.istore_n 3, 1) := by decide +kernel
theorem dX6_begin_21 : decode cX6_begin 21 = .ok (.aload_n 0, 1) := by decide +kernel
theorem dX6_begin_22 : decode cX6_begin 22 = .ok (.getfield 11, 3) := by decide +kernel
theorem dX6_begin_25 : decode cX6_begin 25 = .ok (.arraylength, 1) := by decide +kernel
theorem dX6_begin_26 : decode cX6_begin 26 = .ok (.iload_n 2, 1) := by decide +kernel
theorem dX6_begin_27 : decode cX6_begin 27 = .ok (.if_icmp .ge 17, 3) := by decide +kernel
theorem dX6_begin_30 : decode cX6_begin 30 = .ok (.aload_n 0, 1) := by decide +kernel
theorem dX6_begin_31 : decode cX6_begin 31 = .ok (.iload_n 2, 1) := by decide +kernel
theorem dX6_begin_32 : decode cX6_begin 32 = .ok (.newarray .int, 2) := by decide +kernel
theorem dX6_begin_34 : decode cX6_begin 34 = .ok (.putfield 11, 3) := by decide +kernel
theorem dX6_begin_37 : decode cX6_begin 37 = .ok (.aload_n 0, 1) := by decide +kernel
theorem dX6_begin_38 : decode cX6_begin 38 = .ok (.iload_n 3, 1) := by decide +kernel
theorem dX6_begin_39 : decode cX6_begin 39 = .ok (.newarray .int, 2) := by decide +kernel
theorem dX6_begin_41 : decode cX6_begin 41 = .ok (.putfield 15, 3) := by decide +kernel
theorem dX6_begin_44 : decode cX6_begin 44 = .ok (.iconst 0, 1) := by decide +kernel
theorem dX6_begin_45 : decode cX6_begin 45 = .ok (.istore 4, 2) := by decide +kernel
theorem dX6_begin_47 : decode cX6_begin 47 = .ok (.iload 4, 2) := by decide +kernel
theorem dX6_begin_49 : decode cX6_begin 49 = .ok (.iload_n 3, 1) := by decide +kernel
theorem dX6_begin_50 : decode cX6_begin 50 = .ok (.if_icmp .ge 27, 3) := by decide +kernel
theorem dX6_begin_53 : decode cX6_begin 53 = .ok (.iload 4, 2) := by decide +kernel
theorem dX6_begin_55 : decode cX6_begin 55 = .ok (.aload_n 0, 1) := by decide +kernel
theorem dX6_begin_56 : decode cX6_begin 56 = .ok (.getfield 15, 3) := by decide +kernel
theorem dX6_begin_59 : decode cX6_begin 59 = .ok (.arraylength, 1) := by decide +kernel
theorem dX6_begin_60 : decode cX6_begin 60 = .ok (.if_icmp .ge 17, 3) := by decide +kernel
theorem dX6_begin_63 : decode cX6_begin 63 = .ok (.aload_n 0, 1) := by decide +kernel
theorem dX6_begin_64 : decode cX6_begin 64 = .ok (.getfield 15, 3) := by decide +kernel
theorem dX6_begin_67 : decode cX6_begin 67 = .ok (.iload 4, 2) := by decide +kernel
theorem dX6_begin_69 : decode cX6_begin 69 = .ok (.iconst 0, 1) := by decide +kernel
theorem dX6_begin_70 : decode cX6_begin 70 = .ok (.iastore, 1) := by decide +kernel
theorem dX6_begin_71 : decode cX6_begin 71 = .ok (.iinc 4 1, 3) := by decide +kernel
theorem dX6_begin_74 : decode cX6_begin 74 = .ok (.goto (-27), 3) := by decide +kernel
theorem dX6_begin_77 : decode cX6_begin 77 = .ok (.aload_n 0, 1) := by decide +kernel
theorem dX6_begin_78 : decode cX6_begin 78 = .ok (.iconst 0, 1) := by decide +kernel
theorem dX6_begin_79 : decode cX6_begin 79 = .ok (.putfield 52, 3) := by decide +kernel
theorem dX6_begin_82 : decode cX6_begin 82 = .ok (.return_, 1) := by decide +kernel
theorem sX6_begin_0 {a0 a1 a2 a3 a4 : Value} (h : am_R E d mX6_begin k n 1 [a0, a1, a2, a3, a4] (.int 1 :: st) S iv Q) : am_R E d mX6_begin k n 0 [a0, a1, a2, a3, a4] st S iv Q := am_iconst dX6_begin_0 (by decide) h
theorem sX6_begin_1 {a0 a2 a3 a4 : Value} {x : Int32} (h : am_R E d mX6_begin k n 2 [a0, .int x, a2, a3, a4] (.int x :: st) S iv Q) : am_R E d mX6_begin k n 1 [a0, .int x, a2, a3, a4] st S iv Q := am_iload_n dX6_begin_1 rfl rfl h
theorem sX6_begin_2 {a0 a1 a2 a3 a4 : Value} (h : am_R E d mX6_begin k n 3 [a0, a1, a2, a3, a4] (.int 0 :: st) S iv Q) : am_R E d mX6_begin k n 2 [a0, a1, a2, a3, a4] st S iv Q := am_iconst dX6_begin_2 (by decide) h
theorem sX6_begin_3 {ls : List Value} {x1 x2 : Value} (hst : (st.map fun v => v.category).sum ≤ 8) (hM : am_M E d mJ9_max_7cf53 0 0 [x1, x2] S iv (am_K3 E (d + 1) mX6_begin k n 3 ls st Q)) : am_R E (d + 1) mX6_begin k n 3 ls (x2 :: x1 :: st) S iv Q := am_cS (M' := mJ9_max_7cf53) (as := [x1, x2]) dX6_begin_3 rfl wq_549 wq_53 wq_50 wq_49 hy_J9_max_7cf53 (by decide) hst (by omega) (by omega) hM
theorem sX6_begin_3_k {ls : List Value} {x1 x2 : Value} {k' n' : Nat} (hst : (st.map fun v => v.category).sum ≤ 8) (hM : am_M E d mJ9_max_7cf53 k' n' [x1, x2] S iv (am_K3 E (d + 1) mX6_begin k n 3 ls st Q)) : am_R E (d + 1) mX6_begin (k' + k) (n' + n) 3 ls (x2 :: x1 :: st) S iv Q := am_cS (M' := mJ9_max_7cf53) (as := [x1, x2]) dX6_begin_3 rfl wq_549 wq_53 wq_50 wq_49 hy_J9_max_7cf53 (by decide) hst (by omega) (by omega) hM
theorem sX6_begin_6 {a0 a1 a2 a3 a4 : Value} (h : am_R E d mX6_begin k n 8 [a0, a1, a2, a3, a4] (.int 15 :: st) S iv Q) : am_R E d mX6_begin k n 6 [a0, a1, a2, a3, a4] st S iv Q := am_bipush dX6_begin_6 (by decide) h
theorem sX6_begin_8 {ls : List Value} {x1 x2 : Value} (hst : (st.map fun v => v.category).sum ≤ 8) (hM : am_M E d mJ9_min_7cf53 0 0 [x1, x2] S iv (am_K3 E (d + 1) mX6_begin k n 8 ls st Q)) : am_R E (d + 1) mX6_begin k n 8 ls (x2 :: x1 :: st) S iv Q := am_cS (M' := mJ9_min_7cf53) (as := [x1, x2]) dX6_begin_8 rfl wq_550 wq_57 wq_50 wq_54 hy_J9_min_7cf53 (by decide) hst (by omega) (by omega) hM
theorem sX6_begin_8_k {ls : List Value} {x1 x2 : Value} {k' n' : Nat} (hst : (st.map fun v => v.category).sum ≤ 8) (hM : am_M E d mJ9_min_7cf53 k' n' [x1, x2] S iv (am_K3 E (d + 1) mX6_begin k n 8 ls st Q)) : am_R E (d + 1) mX6_begin (k' + k) (n' + n) 8 ls (x2 :: x1 :: st) S iv Q := am_cS (M' := mJ9_min_7cf53) (as := [x1, x2]) dX6_begin_8 rfl wq_550 wq_57 wq_50 wq_54 hy_J9_min_7cf53 (by decide) hst (by omega) (by omega) hM
theorem sX6_begin_11 {ls : List Value} {x y : Int32} (h : am_R E d mX6_begin k n 12 ls (.int (x <<< (y &&& 31)) :: st) S iv Q) : am_R E d mX6_begin k n 11 ls (.int y :: .int x :: st) S iv Q := am_ishl dX6_begin_11 h
theorem sX6_begin_12 {a0 a1 a2 a3 a4 : Value} {x : Int32} (h : am_R E d mX6_begin k n 13 [a0, a1, .int x, a3, a4] st S iv Q) : am_R E d mX6_begin k n 12 [a0, a1, a2, a3, a4] (.int x :: st) S iv Q := am_istore_n dX6_begin_12 rfl (by decide) h
theorem sX6_begin_13 {a0 a1 a3 a4 : Value} {x : Int32} (h : am_R E d mX6_begin k n 14 [a0, a1, .int x, a3, a4] (.int x :: st) S iv Q) : am_R E d mX6_begin k n 13 [a0, a1, .int x, a3, a4] st S iv Q := am_iload_n dX6_begin_13 rfl rfl h
theorem sX6_begin_14 {a0 a1 a2 a3 a4 : Value} (h : am_R E d mX6_begin k n 16 [a0, a1, a2, a3, a4] (.int 31 :: st) S iv Q) : am_R E d mX6_begin k n 14 [a0, a1, a2, a3, a4] st S iv Q := am_bipush dX6_begin_14 (by decide) h
theorem sX6_begin_16 {ls : List Value} {x y : Int32} (h : am_R E d mX6_begin k n 17 ls (.int (x + y) :: st) S iv Q) : am_R E d mX6_begin k n 16 ls (.int y :: .int x :: st) S iv Q := am_iadd dX6_begin_16 h
theorem sX6_begin_17 {a0 a1 a2 a3 a4 : Value} (h : am_R E d mX6_begin k n 19 [a0, a1, a2, a3, a4] (.int 32 :: st) S iv Q) : am_R E d mX6_begin k n 17 [a0, a1, a2, a3, a4] st S iv Q := am_bipush dX6_begin_17 (by decide) h
theorem sX6_begin_19 {ls : List Value} {x y : Int32} (hy : ¬ y = 0) (h : am_R E d mX6_begin k n 20 ls (.int (x / y) :: st) S iv Q) : am_R E d mX6_begin k n 19 ls (.int y :: .int x :: st) S iv Q := am_idiv dX6_begin_19 hy h
theorem sX6_begin_20 {a0 a1 a2 a3 a4 : Value} {x : Int32} (h : am_R E d mX6_begin k n 21 [a0, a1, a2, .int x, a4] st S iv Q) : am_R E d mX6_begin k n 20 [a0, a1, a2, a3, a4] (.int x :: st) S iv Q := am_istore_n dX6_begin_20 rfl (by decide) h
theorem sX6_begin_21 {a0 a1 a2 a3 a4 : Value} (hv : am_rf a0 = true) (h : am_R E d mX6_begin k n 22 [a0, a1, a2, a3, a4] (a0 :: st) S iv Q) : am_R E d mX6_begin k n 21 [a0, a1, a2, a3, a4] st S iv Q := am_aload_n dX6_begin_21 rfl rfl hv h
theorem sX6_begin_22 {ls : List Value} {a b : Nat} (ha : S.1 a = some (.inl 6)) (hb : S.2.1 a 0 = some b) (h : am_R E d mX6_begin k n 25 ls (.ref b :: st) S iv Q) : am_R E d mX6_begin k n 22 ls (.ref a :: st) S iv Q := am_getR (ci := 6) dX6_begin_22 rfl rfl (by decide) wq_505 uq_6 rfl ha hb h
theorem sX6_begin_25 {ls : List Value} {a m t : Nat} {ty : FieldType} (ha : S.1 a = some (.inr (ty, m))) (ht : am_ti ty = some t) (h : am_R E d mX6_begin k n 26 ls (.int (Int32.ofNat m) :: st) S iv Q) : am_R E d mX6_begin k n 25 ls (.ref a :: st) S iv Q := am_alen dX6_begin_25 ha ht h
theorem sX6_begin_26 {a0 a1 a3 a4 : Value} {x : Int32} (h : am_R E d mX6_begin k n 27 [a0, a1, .int x, a3, a4] (.int x :: st) S iv Q) : am_R E d mX6_begin k n 26 [a0, a1, .int x, a3, a4] st S iv Q := am_iload_n dX6_begin_26 rfl rfl h
theorem sX6_begin_27 {ls : List Value} {x y : Int32} (kt : y ≤ x → am_R E d mX6_begin k n 44 ls st S iv Q) (kf : ¬ y ≤ x → am_R E d mX6_begin k n 30 ls st S iv Q) : am_R E d mX6_begin k n 27 ls (.int y :: .int x :: st) S iv Q := am_icmp_ge dX6_begin_27 (by decide) kt kf
theorem sX6_begin_30 {a0 a1 a2 a3 a4 : Value} (hv : am_rf a0 = true) (h : am_R E d mX6_begin k n 31 [a0, a1, a2, a3, a4] (a0 :: st) S iv Q) : am_R E d mX6_begin k n 30 [a0, a1, a2, a3, a4] st S iv Q := am_aload_n dX6_begin_30 rfl rfl hv h
theorem sX6_begin_31 {a0 a1 a3 a4 : Value} {x : Int32} (h : am_R E d mX6_begin k n 32 [a0, a1, .int x, a3, a4] (.int x :: st) S iv Q) : am_R E d mX6_begin k n 31 [a0, a1, .int x, a3, a4] st S iv Q := am_iload_n dX6_begin_31 rfl rfl h
theorem sX6_begin_32 {ls : List Value} {x : Int32} {m : Nat} (hx : ¬ x < 0) (hm : x.toNatClampNeg = m) (hb : m ≤ 50000000) (h : am_R E d mX6_begin k n 34 ls (.ref S.2.2.2 :: st) (am_new S (.inr (.int, m))) (am_0 S iv) Q) : am_R E d mX6_begin (k + 1) (n + m) 32 ls (.int x :: st) S iv Q := am_nI dX6_begin_32 wq_65 hx hm (by omega) (by omega) (by omega) h
theorem sX6_begin_34 {ls : List Value} {a b : Nat} (ha : S.1 a = some (.inl 6)) (h : am_R E d mX6_begin k n 37 ls st (am_wr S a 0 b) iv Q) : am_R E d mX6_begin k n 34 ls (.ref b :: .ref a :: st) S iv Q := am_putR (ci := 6) dX6_begin_34 rfl rfl (by decide) wq_505 uq_6 tyX6_ok nmX6 (Or.inl rfl) rfl ha h
theorem sX6_begin_37 {a0 a1 a2 a3 a4 : Value} (hv : am_rf a0 = true) (h : am_R E d mX6_begin k n 38 [a0, a1, a2, a3, a4] (a0 :: st) S iv Q) : am_R E d mX6_begin k n 37 [a0, a1, a2, a3, a4] st S iv Q := am_aload_n dX6_begin_37 rfl rfl hv h
theorem sX6_begin_38 {a0 a1 a2 a4 : Value} {x : Int32} (h : am_R E d mX6_begin k n 39 [a0, a1, a2, .int x, a4] (.int x :: st) S iv Q) : am_R E d mX6_begin k n 38 [a0, a1, a2, .int x, a4] st S iv Q := am_iload_n dX6_begin_38 rfl rfl h
theorem sX6_begin_39 {ls : List Value} {x : Int32} {m : Nat} (hx : ¬ x < 0) (hm : x.toNatClampNeg = m) (hb : m ≤ 50000000) (h : am_R E d mX6_begin k n 41 ls (.ref S.2.2.2 :: st) (am_new S (.inr (.int, m))) (am_0 S iv) Q) : am_R E d mX6_begin (k + 1) (n + m) 39 ls (.int x :: st) S iv Q := am_nI dX6_begin_39 wq_65 hx hm (by omega) (by omega) (by omega) h
theorem sX6_begin_41 {ls : List Value} {a b : Nat} (ha : S.1 a = some (.inl 6)) (h : am_R E d mX6_begin k n 44 ls st (am_wr S a 1 b) iv Q) : am_R E d mX6_begin k n 41 ls (.ref b :: .ref a :: st) S iv Q := am_putR (ci := 6) dX6_begin_41 rfl rfl (by decide) wq_506 uq_6 tyX6_ok nmX6 (Or.inl rfl) rfl ha h
theorem sX6_begin_44 {a0 a1 a2 a3 a4 : Value} (h : am_R E d mX6_begin k n 45 [a0, a1, a2, a3, a4] (.int 0 :: st) S iv Q) : am_R E d mX6_begin k n 44 [a0, a1, a2, a3, a4] st S iv Q := am_iconst dX6_begin_44 (by decide) h
theorem sX6_begin_45 {a0 a1 a2 a3 a4 : Value} {x : Int32} (h : am_R E d mX6_begin k n 47 [a0, a1, a2, a3, .int x] st S iv Q) : am_R E d mX6_begin k n 45 [a0, a1, a2, a3, a4] (.int x :: st) S iv Q := am_istore dX6_begin_45 (by decide) h
theorem sX6_begin_47 {a0 a1 a2 a3 : Value} {x : Int32} (h : am_R E d mX6_begin k n 49 [a0, a1, a2, a3, .int x] (.int x :: st) S iv Q) : am_R E d mX6_begin k n 47 [a0, a1, a2, a3, .int x] st S iv Q := am_iload dX6_begin_47 rfl h
theorem sX6_begin_49 {a0 a1 a2 a4 : Value} {x : Int32} (h : am_R E d mX6_begin k n 50 [a0, a1, a2, .int x, a4] (.int x :: st) S iv Q) : am_R E d mX6_begin k n 49 [a0, a1, a2, .int x, a4] st S iv Q := am_iload_n dX6_begin_49 rfl rfl h
theorem sX6_begin_50 {ls : List Value} {x y : Int32} (kt : y ≤ x → am_R E d mX6_begin k n 77 ls st S iv Q) (kf : ¬ y ≤ x → am_R E d mX6_begin k n 53 ls st S iv Q) : am_R E d mX6_begin k n 50 ls (.int y :: .int x :: st) S iv Q := am_icmp_ge dX6_begin_50 (by decide) kt kf
theorem sX6_begin_53 {a0 a1 a2 a3 : Value} {x : Int32} (h : am_R E d mX6_begin k n 55 [a0, a1, a2, a3, .int x] (.int x :: st) S iv Q) : am_R E d mX6_begin k n 53 [a0, a1, a2, a3, .int x] st S iv Q := am_iload dX6_begin_53 rfl h
theorem sX6_begin_55 {a0 a1 a2 a3 a4 : Value} (hv : am_rf a0 = true) (h : am_R E d mX6_begin k n 56 [a0, a1, a2, a3, a4] (a0 :: st) S iv Q) : am_R E d mX6_begin k n 55 [a0, a1, a2, a3, a4] st S iv Q := am_aload_n dX6_begin_55 rfl rfl hv h
theorem sX6_begin_56 {ls : List Value} {a b : Nat} (ha : S.1 a = some (.inl 6)) (hb : S.2.1 a 1 = some b) (h : am_R E d mX6_begin k n 59 ls (.ref b :: st) S iv Q) : am_R E d mX6_begin k n 56 ls (.ref a :: st) S iv Q := am_getR (ci := 6) dX6_begin_56 rfl rfl (by decide) wq_506 uq_6 rfl ha hb h
theorem sX6_begin_59 {ls : List Value} {a m t : Nat} {ty : FieldType} (ha : S.1 a = some (.inr (ty, m))) (ht : am_ti ty = some t) (h : am_R E d mX6_begin k n 60 ls (.int (Int32.ofNat m) :: st) S iv Q) : am_R E d mX6_begin k n 59 ls (.ref a :: st) S iv Q := am_alen dX6_begin_59 ha ht h
theorem sX6_begin_60 {ls : List Value} {x y : Int32} (kt : y ≤ x → am_R E d mX6_begin k n 77 ls st S iv Q) (kf : ¬ y ≤ x → am_R E d mX6_begin k n 63 ls st S iv Q) : am_R E d mX6_begin k n 60 ls (.int y :: .int x :: st) S iv Q := am_icmp_ge dX6_begin_60 (by decide) kt kf
theorem sX6_begin_63 {a0 a1 a2 a3 a4 : Value} (hv : am_rf a0 = true) (h : am_R E d mX6_begin k n 64 [a0, a1, a2, a3, a4] (a0 :: st) S iv Q) : am_R E d mX6_begin k n 63 [a0, a1, a2, a3, a4] st S iv Q := am_aload_n dX6_begin_63 rfl rfl hv h
theorem sX6_begin_64 {ls : List Value} {a b : Nat} (ha : S.1 a = some (.inl 6)) (hb : S.2.1 a 1 = some b) (h : am_R E d mX6_begin k n 67 ls (.ref b :: st) S iv Q) : am_R E d mX6_begin k n 64 ls (.ref a :: st) S iv Q := am_getR (ci := 6) dX6_begin_64 rfl rfl (by decide) wq_506 uq_6 rfl ha hb h
theorem sX6_begin_67 {a0 a1 a2 a3 : Value} {x : Int32} (h : am_R E d mX6_begin k n 69 [a0, a1, a2, a3, .int x] (.int x :: st) S iv Q) : am_R E d mX6_begin k n 67 [a0, a1, a2, a3, .int x] st S iv Q := am_iload dX6_begin_67 rfl h
theorem sX6_begin_69 {a0 a1 a2 a3 a4 : Value} (h : am_R E d mX6_begin k n 70 [a0, a1, a2, a3, a4] (.int 0 :: st) S iv Q) : am_R E d mX6_begin k n 69 [a0, a1, a2, a3, a4] st S iv Q := am_iconst dX6_begin_69 (by decide) h
theorem sX6_begin_70 {ls : List Value} {a m : Nat} {i x : Int32} (ha : S.1 a = some (.inr (.int, m))) (hi : vp_in i m) (h : am_R E d mX6_begin k n 71 ls st S (am_w iv a i.toNatClampNeg x) Q) : am_R E d mX6_begin k n 70 ls (.int x :: .int i :: .ref a :: st) S iv Q := am_iastore dX6_begin_70 ha hi h
theorem sX6_begin_71 {a0 a1 a2 a3 : Value} {x : Int32} (h : am_R E d mX6_begin k n 74 [a0, a1, a2, a3, .int (x + 1)] st S iv Q) : am_R E d mX6_begin k n 71 [a0, a1, a2, a3, .int x] st S iv Q := am_iinc dX6_begin_71 rfl rfl (by decide) h
theorem sX6_begin_74 {ls : List Value} (h : am_R E d mX6_begin k n 47 ls st S iv Q) : am_R E d mX6_begin k n 74 ls st S iv Q := am_goto dX6_begin_74 (by decide) h
theorem sX6_begin_77 {a0 a1 a2 a3 a4 : Value} (hv : am_rf a0 = true) (h : am_R E d mX6_begin k n 78 [a0, a1, a2, a3, a4] (a0 :: st) S iv Q) : am_R E d mX6_begin k n 77 [a0, a1, a2, a3, a4] st S iv Q := am_aload_n dX6_begin_77 rfl rfl hv h
theorem sX6_begin_78 {a0 a1 a2 a3 a4 : Value} (h : am_R E d mX6_begin k n 79 [a0, a1, a2, a3, a4] (.int 0 :: st) S iv Q) : am_R E d mX6_begin k n 78 [a0, a1, a2, a3, a4] st S iv Q := am_iconst dX6_begin_78 (by decide) h
theorem sX6_begin_79 {ls : List Value} {a : Nat} {x : Int32} (ha : S.1 a = some (.inl 6)) (h : am_R E d mX6_begin k n 82 ls st S (am_w iv a 2 x) Q) : am_R E d mX6_begin k n 79 ls (.int x :: .ref a :: st) S iv Q := am_putI (ci := 6) dX6_begin_79 rfl rfl (by decide) wq_528 uq_6 tyX6_ok nmX6 (Or.inl rfl) rfl ha h
theorem sX6_begin_82 {ls : List Value} (h : Q (.inl none) S iv) : am_R E d mX6_begin k n 82 ls [] S iv Q := am_return dX6_begin_82 rfl h
theorem dX6_note_0 : decode cX6_note 0 = .ok (.iload_n 1, 1) := by decide +kernel
theorem dX6_note_1 : decode cX6_note 1 = .ok (.iconst 5, 1) := by decide +kernel
theorem dX6_note_2 : decode cX6_note 2 = .ok (.ishr, 1) := by decide +kernel
theorem dX6_note_3 : decode cX6_note 3 = .ok (.istore_n 3, 1) := by decide +kernel
theorem dX6_note_4 : decode cX6_note 4 = .ok (.iload_n 3, 1) := by decide +kernel
theorem dX6_note_5 : decode cX6_note 5 = .ok (.ifCond .lt 40, 3) := by decide +kernel
theorem dX6_note_8 : decode cX6_note 8 = .ok (.iload_n 3, 1) := by decide +kernel
theorem dX6_note_9 : decode cX6_note 9 = .ok (.aload_n 0, 1) := by decide +kernel
theorem dX6_note_10 : decode cX6_note 10 = .ok (.getfield 15, 3) := by decide +kernel
theorem dX6_note_13 : decode cX6_note 13 = .ok (.arraylength, 1) := by decide +kernel
theorem dX6_note_14 : decode cX6_note 14 = .ok (.if_icmp .ge 31, 3) := by decide +kernel
theorem dX6_note_17 : decode cX6_note 17 = .ok (.aload_n 0, 1) := by decide +kernel
theorem dX6_note_18 : decode cX6_note 18 = .ok (.getfield 15, 3) := by decide +kernel
theorem dX6_note_21 : decode cX6_note 21 = .ok (.iload_n 3, 1) := by decide +kernel
theorem dX6_note_22 : decode cX6_note 22 = .ok (.iaload, 1) := by decide +kernel
theorem dX6_note_23 : decode cX6_note 23 = .ok (.iload_n 1, 1) := by decide +kernel
theorem dX6_note_24 : decode cX6_note 24 = .ok (.bipush 31, 2) := by decide +kernel
theorem dX6_note_26 : decode cX6_note 26 = .ok (.iand, 1) := by decide +kernel
theorem dX6_note_27 : decode cX6_note 27 = .ok (.ishr, 1) := by decide +kernel
theorem dX6_note_28 : decode cX6_note 28 = .ok (.iconst 1, 1) := by decide +kernel
theorem dX6_note_29 : decode cX6_note 29 = .ok (.iand, 1) := by decide +kernel
theorem dX6_note_30 : decode cX6_note 30 = .ok (.ifCond .ne 15, 3) := by decide +kernel
theorem dX6_note_33 : decode cX6_note 33 = .ok (.aload_n 0, 1) := by decide +kernel
theorem dX6_note_34 : decode cX6_note 34 = .ok (.getfield 52, 3) := by decide +kernel
theorem dX6_note_37 : decode cX6_note 37 = .ok (.aload_n 0, 1) := by decide +kernel
theorem dX6_note_38 : decode cX6_note 38 = .ok (.getfield 11, 3) := by decide +kernel
theorem dX6_note_41 : decode cX6_note 41 = .ok (.arraylength, 1) := by decide +kernel
theorem dX6_note_42 : decode cX6_note 42 = .ok (.if_icmp .lt 5, 3) := by decide +kernel
theorem dX6_note_45 : decode cX6_note 45 = .ok (.iconst 0, 1) := by decide +kernel
theorem dX6_note_46 : decode cX6_note 46 = .ok (.ireturn, 1) := by decide +kernel
theorem dX6_note_47 : decode cX6_note 47 = .ok (.aload_n 0, 1) := by decide +kernel
theorem dX6_note_48 : decode cX6_note 48 = .ok (.getfield 15, 3) := by decide +kernel
theorem dX6_note_51 : decode cX6_note 51 = .ok (.iload_n 3, 1) := by decide +kernel
theorem dX6_note_52 : decode cX6_note 52 = .ok (.dup2, 1) := by decide +kernel
theorem dX6_note_53 : decode cX6_note 53 = .ok (.iaload, 1) := by decide +kernel
theorem dX6_note_54 : decode cX6_note 54 = .ok (.iconst 1, 1) := by decide +kernel
theorem dX6_note_55 : decode cX6_note 55 = .ok (.iload_n 1, 1) := by decide +kernel
theorem dX6_note_56 : decode cX6_note 56 = .ok (.bipush 31, 2) := by decide +kernel
theorem dX6_note_58 : decode cX6_note 58 = .ok (.iand, 1) := by decide +kernel
theorem dX6_note_59 : decode cX6_note 59 = .ok (.ishl, 1) := by decide +kernel
theorem dX6_note_60 : decode cX6_note 60 = .ok (.ior, 1) := by decide +kernel
theorem dX6_note_61 : decode cX6_note 61 = .ok (.iastore, 1) := by decide +kernel
theorem dX6_note_62 : decode cX6_note 62 = .ok (.aload_n 0, 1) := by decide +kernel
theorem dX6_note_63 : decode cX6_note 63 = .ok (.getfield 11, 3) := by decide +kernel
theorem dX6_note_66 : decode cX6_note 66 = .ok (.aload_n 0, 1) := by decide +kernel
theorem dX6_note_67 : decode cX6_note 67 = .ok (.getfield 52, 3) := by decide +kernel
theorem dX6_note_70 : decode cX6_note 70 = .ok (.iload_n 1, 1) := by decide +kernel
theorem dX6_note_71 : decode cX6_note 71 = .ok (.iload_n 2, 1) := by decide +kernel
theorem dX6_note_72 : decode cX6_note 72 = .ok (.bipush 15, 2) := by decide +kernel
theorem dX6_note_74 : decode cX6_note 74 = .ok (.ishl, 1) := by decide +kernel
theorem dX6_note_75 : decode cX6_note 75 = .ok (.ior, 1) := by decide +kernel
theorem dX6_note_76 : decode cX6_note 76 = .ok (.iastore, 1) := by decide +kernel
theorem dX6_note_77 : decode cX6_note 77 = .ok (.aload_n 0, 1) := by decide +kernel
theorem dX6_note_78 : decode cX6_note 78 = .ok (.dup, 1) := by decide +kernel
theorem dX6_note_79 : decode cX6_note 79 = .ok (.getfield 52, 3) := by decide +kernel
theorem dX6_note_82 : decode cX6_note 82 = .ok (.iconst 1, 1) := by decide +kernel
theorem dX6_note_83 : decode cX6_note 83 = .ok (.iadd, 1) := by decide +kernel
theorem dX6_note_84 : decode cX6_note 84 = .ok (.putfield 52, 3) := by decide +kernel
theorem dX6_note_87 : decode cX6_note 87 = .ok (.iconst 1, 1) := by decide +kernel
theorem dX6_note_88 : decode cX6_note 88 = .ok (.ireturn, 1) := by decide +kernel
theorem sX6_note_0 {a0 a2 a3 : Value} {x : Int32} (h : am_R E d mX6_note k n 1 [a0, .int x, a2, a3] (.int x :: st) S iv Q) : am_R E d mX6_note k n 0 [a0, .int x, a2, a3] st S iv Q := am_iload_n dX6_note_0 rfl rfl h
theorem sX6_note_1 {a0 a1 a2 a3 : Value} (h : am_R E d mX6_note k n 2 [a0, a1, a2, a3] (.int 5 :: st) S iv Q) : am_R E d mX6_note k n 1 [a0, a1, a2, a3] st S iv Q := am_iconst dX6_note_1 (by decide) h
theorem sX6_note_2 {ls : List Value} {x y : Int32} (h : am_R E d mX6_note k n 3 ls (.int (x >>> (y &&& 31)) :: st) S iv Q) : am_R E d mX6_note k n 2 ls (.int y :: .int x :: st) S iv Q := am_ishr dX6_note_2 h
theorem sX6_note_3 {a0 a1 a2 a3 : Value} {x : Int32} (h : am_R E d mX6_note k n 4 [a0, a1, a2, .int x] st S iv Q) : am_R E d mX6_note k n 3 [a0, a1, a2, a3] (.int x :: st) S iv Q := am_istore_n dX6_note_3 rfl (by decide) h
theorem sX6_note_4 {a0 a1 a2 : Value} {x : Int32} (h : am_R E d mX6_note k n 5 [a0, a1, a2, .int x] (.int x :: st) S iv Q) : am_R E d mX6_note k n 4 [a0, a1, a2, .int x] st S iv Q := am_iload_n dX6_note_4 rfl rfl h
theorem sX6_note_5 {ls : List Value} {x : Int32} (kt : x < 0 → am_R E d mX6_note k n 45 ls st S iv Q) (kf : ¬ x < 0 → am_R E d mX6_note k n 8 ls st S iv Q) : am_R E d mX6_note k n 5 ls (.int x :: st) S iv Q := am_if_lt dX6_note_5 (by decide) kt kf
theorem sX6_note_8 {a0 a1 a2 : Value} {x : Int32} (h : am_R E d mX6_note k n 9 [a0, a1, a2, .int x] (.int x :: st) S iv Q) : am_R E d mX6_note k n 8 [a0, a1, a2, .int x] st S iv Q := am_iload_n dX6_note_8 rfl rfl h
theorem sX6_note_9 {a0 a1 a2 a3 : Value} (hv : am_rf a0 = true) (h : am_R E d mX6_note k n 10 [a0, a1, a2, a3] (a0 :: st) S iv Q) : am_R E d mX6_note k n 9 [a0, a1, a2, a3] st S iv Q := am_aload_n dX6_note_9 rfl rfl hv h
theorem sX6_note_10 {ls : List Value} {a b : Nat} (ha : S.1 a = some (.inl 6)) (hb : S.2.1 a 1 = some b) (h : am_R E d mX6_note k n 13 ls (.ref b :: st) S iv Q) : am_R E d mX6_note k n 10 ls (.ref a :: st) S iv Q := am_getR (ci := 6) dX6_note_10 rfl rfl (by decide) wq_506 uq_6 rfl ha hb h
theorem sX6_note_13 {ls : List Value} {a m t : Nat} {ty : FieldType} (ha : S.1 a = some (.inr (ty, m))) (ht : am_ti ty = some t) (h : am_R E d mX6_note k n 14 ls (.int (Int32.ofNat m) :: st) S iv Q) : am_R E d mX6_note k n 13 ls (.ref a :: st) S iv Q := am_alen dX6_note_13 ha ht h
theorem sX6_note_14 {ls : List Value} {x y : Int32} (kt : y ≤ x → am_R E d mX6_note k n 45 ls st S iv Q) (kf : ¬ y ≤ x → am_R E d mX6_note k n 17 ls st S iv Q) : am_R E d mX6_note k n 14 ls (.int y :: .int x :: st) S iv Q := am_icmp_ge dX6_note_14 (by decide) kt kf
theorem sX6_note_17 {a0 a1 a2 a3 : Value} (hv : am_rf a0 = true) (h : am_R E d mX6_note k n 18 [a0, a1, a2, a3] (a0 :: st) S iv Q) : am_R E d mX6_note k n 17 [a0, a1, a2, a3] st S iv Q := am_aload_n dX6_note_17 rfl rfl hv h
theorem sX6_note_18 {ls : List Value} {a b : Nat} (ha : S.1 a = some (.inl 6)) (hb : S.2.1 a 1 = some b) (h : am_R E d mX6_note k n 21 ls (.ref b :: st) S iv Q) : am_R E d mX6_note k n 18 ls (.ref a :: st) S iv Q := am_getR (ci := 6) dX6_note_18 rfl rfl (by decide) wq_506 uq_6 rfl ha hb h
theorem sX6_note_21 {a0 a1 a2 : Value} {x : Int32} (h : am_R E d mX6_note k n 22 [a0, a1, a2, .int x] (.int x :: st) S iv Q) : am_R E d mX6_note k n 21 [a0, a1, a2, .int x] st S iv Q := am_iload_n dX6_note_21 rfl rfl h
theorem sX6_note_22 {ls : List Value} {a m : Nat} {i : Int32} (ha : S.1 a = some (.inr (.int, m))) (hi : vp_in i m) (h : am_R E d mX6_note k n 23 ls (.int (iv a i.toNatClampNeg) :: st) S iv Q) : am_R E d mX6_note k n 22 ls (.int i :: .ref a :: st) S iv Q := am_iaload dX6_note_22 ha hi h
theorem sX6_note_23 {a0 a2 a3 : Value} {x : Int32} (h : am_R E d mX6_note k n 24 [a0, .int x, a2, a3] (.int x :: st) S iv Q) : am_R E d mX6_note k n 23 [a0, .int x, a2, a3] st S iv Q := am_iload_n dX6_note_23 rfl rfl h
theorem sX6_note_24 {a0 a1 a2 a3 : Value} (h : am_R E d mX6_note k n 26 [a0, a1, a2, a3] (.int 31 :: st) S iv Q) : am_R E d mX6_note k n 24 [a0, a1, a2, a3] st S iv Q := am_bipush dX6_note_24 (by decide) h
theorem sX6_note_26 {ls : List Value} {x y : Int32} (h : am_R E d mX6_note k n 27 ls (.int (x &&& y) :: st) S iv Q) : am_R E d mX6_note k n 26 ls (.int y :: .int x :: st) S iv Q := am_iand dX6_note_26 h
theorem sX6_note_27 {ls : List Value} {x y : Int32} (h : am_R E d mX6_note k n 28 ls (.int (x >>> (y &&& 31)) :: st) S iv Q) : am_R E d mX6_note k n 27 ls (.int y :: .int x :: st) S iv Q := am_ishr dX6_note_27 h
theorem sX6_note_28 {a0 a1 a2 a3 : Value} (h : am_R E d mX6_note k n 29 [a0, a1, a2, a3] (.int 1 :: st) S iv Q) : am_R E d mX6_note k n 28 [a0, a1, a2, a3] st S iv Q := am_iconst dX6_note_28 (by decide) h
theorem sX6_note_29 {ls : List Value} {x y : Int32} (h : am_R E d mX6_note k n 30 ls (.int (x &&& y) :: st) S iv Q) : am_R E d mX6_note k n 29 ls (.int y :: .int x :: st) S iv Q := am_iand dX6_note_29 h
theorem sX6_note_30 {ls : List Value} {x : Int32} (kt : ¬ x = 0 → am_R E d mX6_note k n 45 ls st S iv Q) (kf : x = 0 → am_R E d mX6_note k n 33 ls st S iv Q) : am_R E d mX6_note k n 30 ls (.int x :: st) S iv Q := am_if_ne dX6_note_30 (by decide) kt kf
theorem sX6_note_33 {a0 a1 a2 a3 : Value} (hv : am_rf a0 = true) (h : am_R E d mX6_note k n 34 [a0, a1, a2, a3] (a0 :: st) S iv Q) : am_R E d mX6_note k n 33 [a0, a1, a2, a3] st S iv Q := am_aload_n dX6_note_33 rfl rfl hv h
theorem sX6_note_34 {ls : List Value} {a : Nat} (ha : S.1 a = some (.inl 6)) (h : am_R E d mX6_note k n 37 ls (.int (iv a 2) :: st) S iv Q) : am_R E d mX6_note k n 34 ls (.ref a :: st) S iv Q := am_getI (ci := 6) dX6_note_34 rfl rfl (by decide) wq_528 uq_6 rfl ha h
theorem sX6_note_37 {a0 a1 a2 a3 : Value} (hv : am_rf a0 = true) (h : am_R E d mX6_note k n 38 [a0, a1, a2, a3] (a0 :: st) S iv Q) : am_R E d mX6_note k n 37 [a0, a1, a2, a3] st S iv Q := am_aload_n dX6_note_37 rfl rfl hv h
theorem sX6_note_38 {ls : List Value} {a b : Nat} (ha : S.1 a = some (.inl 6)) (hb : S.2.1 a 0 = some b) (h : am_R E d mX6_note k n 41 ls (.ref b :: st) S iv Q) : am_R E d mX6_note k n 38 ls (.ref a :: st) S iv Q := am_getR (ci := 6) dX6_note_38 rfl rfl (by decide) wq_505 uq_6 rfl ha hb h
theorem sX6_note_41 {ls : List Value} {a m t : Nat} {ty : FieldType} (ha : S.1 a = some (.inr (ty, m))) (ht : am_ti ty = some t) (h : am_R E d mX6_note k n 42 ls (.int (Int32.ofNat m) :: st) S iv Q) : am_R E d mX6_note k n 41 ls (.ref a :: st) S iv Q := am_alen dX6_note_41 ha ht h
theorem sX6_note_42 {ls : List Value} {x y : Int32} (kt : x < y → am_R E d mX6_note k n 47 ls st S iv Q) (kf : ¬ x < y → am_R E d mX6_note k n 45 ls st S iv Q) : am_R E d mX6_note k n 42 ls (.int y :: .int x :: st) S iv Q := am_icmp_lt dX6_note_42 (by decide) kt kf
theorem sX6_note_45 {a0 a1 a2 a3 : Value} (h : am_R E d mX6_note k n 46 [a0, a1, a2, a3] (.int 0 :: st) S iv Q) : am_R E d mX6_note k n 45 [a0, a1, a2, a3] st S iv Q := am_iconst dX6_note_45 (by decide) h
theorem sX6_note_46 {ls : List Value} {x : Int32} (hn : narrow .boolean (.int x) = .int x) (h : Q (.inl (some (.int x))) S iv) : am_R E d mX6_note k n 46 ls [.int x] S iv Q := am_zreturn dX6_note_46 rfl hn h
theorem sX6_note_47 {a0 a1 a2 a3 : Value} (hv : am_rf a0 = true) (h : am_R E d mX6_note k n 48 [a0, a1, a2, a3] (a0 :: st) S iv Q) : am_R E d mX6_note k n 47 [a0, a1, a2, a3] st S iv Q := am_aload_n dX6_note_47 rfl rfl hv h
theorem sX6_note_48 {ls : List Value} {a b : Nat} (ha : S.1 a = some (.inl 6)) (hb : S.2.1 a 1 = some b) (h : am_R E d mX6_note k n 51 ls (.ref b :: st) S iv Q) : am_R E d mX6_note k n 48 ls (.ref a :: st) S iv Q := am_getR (ci := 6) dX6_note_48 rfl rfl (by decide) wq_506 uq_6 rfl ha hb h
theorem sX6_note_51 {a0 a1 a2 : Value} {x : Int32} (h : am_R E d mX6_note k n 52 [a0, a1, a2, .int x] (.int x :: st) S iv Q) : am_R E d mX6_note k n 51 [a0, a1, a2, .int x] st S iv Q := am_iload_n dX6_note_51 rfl rfl h
theorem sX6_note_52 {ls : List Value} {x y : Value} (hv : x.category = 1) (hu : y.category = 1) (h : am_R E d mX6_note k n 53 ls (x :: y :: x :: y :: st) S iv Q) : am_R E d mX6_note k n 52 ls (x :: y :: st) S iv Q := am_dup2 dX6_note_52 hv hu h
theorem sX6_note_53 {ls : List Value} {a m : Nat} {i : Int32} (ha : S.1 a = some (.inr (.int, m))) (hi : vp_in i m) (h : am_R E d mX6_note k n 54 ls (.int (iv a i.toNatClampNeg) :: st) S iv Q) : am_R E d mX6_note k n 53 ls (.int i :: .ref a :: st) S iv Q := am_iaload dX6_note_53 ha hi h
theorem sX6_note_54 {a0 a1 a2 a3 : Value} (h : am_R E d mX6_note k n 55 [a0, a1, a2, a3] (.int 1 :: st) S iv Q) : am_R E d mX6_note k n 54 [a0, a1, a2, a3] st S iv Q := am_iconst dX6_note_54 (by decide) h
theorem sX6_note_55 {a0 a2 a3 : Value} {x : Int32} (h : am_R E d mX6_note k n 56 [a0, .int x, a2, a3] (.int x :: st) S iv Q) : am_R E d mX6_note k n 55 [a0, .int x, a2, a3] st S iv Q := am_iload_n dX6_note_55 rfl rfl h
theorem sX6_note_56 {a0 a1 a2 a3 : Value} (h : am_R E d mX6_note k n 58 [a0, a1, a2, a3] (.int 31 :: st) S iv Q) : am_R E d mX6_note k n 56 [a0, a1, a2, a3] st S iv Q := am_bipush dX6_note_56 (by decide) h
theorem sX6_note_58 {ls : List Value} {x y : Int32} (h : am_R E d mX6_note k n 59 ls (.int (x &&& y) :: st) S iv Q) : am_R E d mX6_note k n 58 ls (.int y :: .int x :: st) S iv Q := am_iand dX6_note_58 h
theorem sX6_note_59 {ls : List Value} {x y : Int32} (h : am_R E d mX6_note k n 60 ls (.int (x <<< (y &&& 31)) :: st) S iv Q) : am_R E d mX6_note k n 59 ls (.int y :: .int x :: st) S iv Q := am_ishl dX6_note_59 h
theorem sX6_note_60 {ls : List Value} {x y : Int32} (h : am_R E d mX6_note k n 61 ls (.int (x ||| y) :: st) S iv Q) : am_R E d mX6_note k n 60 ls (.int y :: .int x :: st) S iv Q := am_ior dX6_note_60 h
theorem sX6_note_61 {ls : List Value} {a m : Nat} {i x : Int32} (ha : S.1 a = some (.inr (.int, m))) (hi : vp_in i m) (h : am_R E d mX6_note k n 62 ls st S (am_w iv a i.toNatClampNeg x) Q) : am_R E d mX6_note k n 61 ls (.int x :: .int i :: .ref a :: st) S iv Q := am_iastore dX6_note_61 ha hi h
theorem sX6_note_62 {a0 a1 a2 a3 : Value} (hv : am_rf a0 = true) (h : am_R E d mX6_note k n 63 [a0, a1, a2, a3] (a0 :: st) S iv Q) : am_R E d mX6_note k n 62 [a0, a1, a2, a3] st S iv Q := am_aload_n dX6_note_62 rfl rfl hv h
theorem sX6_note_63 {ls : List Value} {a b : Nat} (ha : S.1 a = some (.inl 6)) (hb : S.2.1 a 0 = some b) (h : am_R E d mX6_note k n 66 ls (.ref b :: st) S iv Q) : am_R E d mX6_note k n 63 ls (.ref a :: st) S iv Q := am_getR (ci := 6) dX6_note_63 rfl rfl (by decide) wq_505 uq_6 rfl ha hb h
theorem sX6_note_66 {a0 a1 a2 a3 : Value} (hv : am_rf a0 = true) (h : am_R E d mX6_note k n 67 [a0, a1, a2, a3] (a0 :: st) S iv Q) : am_R E d mX6_note k n 66 [a0, a1, a2, a3] st S iv Q := am_aload_n dX6_note_66 rfl rfl hv h
theorem sX6_note_67 {ls : List Value} {a : Nat} (ha : S.1 a = some (.inl 6)) (h : am_R E d mX6_note k n 70 ls (.int (iv a 2) :: st) S iv Q) : am_R E d mX6_note k n 67 ls (.ref a :: st) S iv Q := am_getI (ci := 6) dX6_note_67 rfl rfl (by decide) wq_528 uq_6 rfl ha h
theorem sX6_note_70 {a0 a2 a3 : Value} {x : Int32} (h : am_R E d mX6_note k n 71 [a0, .int x, a2, a3] (.int x :: st) S iv Q) : am_R E d mX6_note k n 70 [a0, .int x, a2, a3] st S iv Q := am_iload_n dX6_note_70 rfl rfl h
theorem sX6_note_71 {a0 a1 a3 : Value} {x : Int32} (h : am_R E d mX6_note k n 72 [a0, a1, .int x, a3] (.int x :: st) S iv Q) : am_R E d mX6_note k n 71 [a0, a1, .int x, a3] st S iv Q := am_iload_n dX6_note_71 rfl rfl h
theorem sX6_note_72 {a0 a1 a2 a3 : Value} (h : am_R E d mX6_note k n 74 [a0, a1, a2, a3] (.int 15 :: st) S iv Q) : am_R E d mX6_note k n 72 [a0, a1, a2, a3] st S iv Q := am_bipush dX6_note_72 (by decide) h
theorem sX6_note_74 {ls : List Value} {x y : Int32} (h : am_R E d mX6_note k n 75 ls (.int (x <<< (y &&& 31)) :: st) S iv Q) : am_R E d mX6_note k n 74 ls (.int y :: .int x :: st) S iv Q := am_ishl dX6_note_74 h
theorem sX6_note_75 {ls : List Value} {x y : Int32} (h : am_R E d mX6_note k n 76 ls (.int (x ||| y) :: st) S iv Q) : am_R E d mX6_note k n 75 ls (.int y :: .int x :: st) S iv Q := am_ior dX6_note_75 h
theorem sX6_note_76 {ls : List Value} {a m : Nat} {i x : Int32} (ha : S.1 a = some (.inr (.int, m))) (hi : vp_in i m) (h : am_R E d mX6_note k n 77 ls st S (am_w iv a i.toNatClampNeg x) Q) : am_R E d mX6_note k n 76 ls (.int x :: .int i :: .ref a :: st) S iv Q := am_iastore dX6_note_76 ha hi h
theorem sX6_note_77 {a0 a1 a2 a3 : Value} (hv : am_rf a0 = true) (h : am_R E d mX6_note k n 78 [a0, a1, a2, a3] (a0 :: st) S iv Q) : am_R E d mX6_note k n 77 [a0, a1, a2, a3] st S iv Q := am_aload_n dX6_note_77 rfl rfl hv h
theorem sX6_note_78 {ls : List Value} {x : Value} (hv : x.category = 1) (h : am_R E d mX6_note k n 79 ls (x :: x :: st) S iv Q) : am_R E d mX6_note k n 78 ls (x :: st) S iv Q := am_dup dX6_note_78 hv h
theorem sX6_note_79 {ls : List Value} {a : Nat} (ha : S.1 a = some (.inl 6)) (h : am_R E d mX6_note k n 82 ls (.int (iv a 2) :: st) S iv Q) : am_R E d mX6_note k n 79 ls (.ref a :: st) S iv Q := am_getI (ci := 6) dX6_note_79 rfl rfl (by decide) wq_528 uq_6 rfl ha h
theorem sX6_note_82 {a0 a1 a2 a3 : Value} (h : am_R E d mX6_note k n 83 [a0, a1, a2, a3] (.int 1 :: st) S iv Q) : am_R E d mX6_note k n 82 [a0, a1, a2, a3] st S iv Q := am_iconst dX6_note_82 (by decide) h
theorem sX6_note_83 {ls : List Value} {x y : Int32} (h : am_R E d mX6_note k n 84 ls (.int (x + y) :: st) S iv Q) : am_R E d mX6_note k n 83 ls (.int y :: .int x :: st) S iv Q := am_iadd dX6_note_83 h
theorem sX6_note_84 {ls : List Value} {a : Nat} {x : Int32} (ha : S.1 a = some (.inl 6)) (h : am_R E d mX6_note k n 87 ls st S (am_w iv a 2 x) Q) : am_R E d mX6_note k n 84 ls (.int x :: .ref a :: st) S iv Q := am_putI (ci := 6) dX6_note_84 rfl rfl (by decide) wq_528 uq_6 tyX6_ok nmX6 (Or.inl rfl) rfl ha h
theorem sX6_note_87 {a0 a1 a2 a3 : Value} (h : am_R E d mX6_note k n 88 [a0, a1, a2, a3] (.int 1 :: st) S iv Q) : am_R E d mX6_note k n 87 [a0, a1, a2, a3] st S iv Q := am_iconst dX6_note_87 (by decide) h
theorem sX6_note_88 {ls : List Value} {x : Int32} (hn : narrow .boolean (.int x) = .int x) (h : Q (.inl (some (.int x))) S iv) : am_R E d mX6_note k n 88 ls [.int x] S iv Q := am_zreturn dX6_note_88 rfl hn h
theorem dX6_stepsTo_0 : decode cX6_stepsTo 0 = .ok (.iconst 0, 1) := by decide +kernel
theorem dX6_stepsTo_1 : decode cX6_stepsTo 1 = .ok (.istore_n 2, 1) := by decide +kernel
theorem dX6_stepsTo_2 : decode cX6_stepsTo 2 = .ok (.iload_n 1, 1) := by decide +kernel
theorem dX6_stepsTo_3 : decode cX6_stepsTo 3 = .ok (.istore_n 3, 1) := by decide +kernel
theorem dX6_stepsTo_4 : decode cX6_stepsTo 4 = .ok (.iload_n 3, 1) := by decide +kernel
theorem dX6_stepsTo_5 : decode cX6_stepsTo 5 = .ok (.ifCond .le 35, 3) := by decide +kernel
theorem dX6_stepsTo_8 : decode cX6_stepsTo 8 = .ok (.iload_n 3, 1) := by decide +kernel
theorem dX6_stepsTo_9 : decode cX6_stepsTo 9 = .ok (.aload_n 0, 1) := by decide +kernel
theorem dX6_stepsTo_10 : decode cX6_stepsTo 10 = .ok (.getfield 52, 3) := by decide +kernel
theorem dX6_stepsTo_13 : decode cX6_stepsTo 13 = .ok (.if_icmp .ge 27, 3) := by decide +kernel
theorem dX6_stepsTo_16 : decode cX6_stepsTo 16 = .ok (.iload_n 2, 1) := by decide +kernel
theorem dX6_stepsTo_17 : decode cX6_stepsTo 17 = .ok (.aload_n 0, 1) := by decide +kernel
theorem dX6_stepsTo_18 : decode cX6_stepsTo 18 = .ok (.getfield 52, 3) := by decide +kernel
theorem dX6_stepsTo_21 : decode cX6_stepsTo 21 = .ok (.if_icmp .ge 19, 3) := by decide +kernel
theorem dX6_stepsTo_24 : decode cX6_stepsTo 24 = .ok (.aload_n 0, 1) := by decide +kernel
theorem dX6_stepsTo_25 : decode cX6_stepsTo 25 = .ok (.getfield 11, 3) := by decide +kernel
theorem dX6_stepsTo_28 : decode cX6_stepsTo 28 = .ok (.iload_n 3, 1) := by decide +kernel
theorem dX6_stepsTo_29 : decode cX6_stepsTo 29 = .ok (.iaload, 1) := by decide +kernel
theorem dX6_stepsTo_30 : decode cX6_stepsTo 30 = .ok (.bipush 15, 2) := by decide +kernel
theorem dX6_stepsTo_32 : decode cX6_stepsTo 32 = .ok (.ishr, 1) := by decide +kernel
theorem dX6_stepsTo_33 : decode cX6_stepsTo 33 = .ok (.istore_n 3, 1) := by decide +kernel
theorem dX6_stepsTo_34 : decode cX6_stepsTo 34 = .ok (.iinc 2 1, 3) := by decide +kernel
theorem dX6_stepsTo_37 : decode cX6_stepsTo 37 = .ok (.goto (-33), 3) := by decide +kernel
theorem dX6_stepsTo_40 : decode cX6_stepsTo 40 = .ok (.iload_n 2, 1) := by decide +kernel
theorem dX6_stepsTo_41 : decode cX6_stepsTo 41 = .ok (.ireturn, 1) := by decide +kernel
theorem sX6_stepsTo_0 {a0 a1 a2 a3 : Value} (h : am_R E d mX6_stepsTo k n 1 [a0, a1, a2, a3] (.int 0 :: st) S iv Q) : am_R E d mX6_stepsTo k n 0 [a0, a1, a2, a3] st S iv Q := am_iconst dX6_stepsTo_0 (by decide) h
theorem sX6_stepsTo_1 {a0 a1 a2 a3 : Value} {x : Int32} (h : am_R E d mX6_stepsTo k n 2 [a0, a1, .int x, a3] st S iv Q) : am_R E d mX6_stepsTo k n 1 [a0, a1, a2, a3] (.int x :: st) S iv Q := am_istore_n dX6_stepsTo_1 rfl (by decide) h
theorem sX6_stepsTo_2 {a0 a2 a3 : Value} {x : Int32} (h : am_R E d mX6_stepsTo k n 3 [a0, .int x, a2, a3] (.int x :: st) S iv Q) : am_R E d mX6_stepsTo k n 2 [a0, .int x, a2, a3] st S iv Q := am_iload_n dX6_stepsTo_2 rfl rfl h
theorem sX6_stepsTo_3 {a0 a1 a2 a3 : Value} {x : Int32} (h : am_R E d mX6_stepsTo k n 4 [a0, a1, a2, .int x] st S iv Q) : am_R E d mX6_stepsTo k n 3 [a0, a1, a2, a3] (.int x :: st) S iv Q := am_istore_n dX6_stepsTo_3 rfl (by decide) h
theorem sX6_stepsTo_4 {a0 a1 a2 : Value} {x : Int32} (h : am_R E d mX6_stepsTo k n 5 [a0, a1, a2, .int x] (.int x :: st) S iv Q) : am_R E d mX6_stepsTo k n 4 [a0, a1, a2, .int x] st S iv Q := am_iload_n dX6_stepsTo_4 rfl rfl h
theorem sX6_stepsTo_5 {ls : List Value} {x : Int32} (kt : x ≤ 0 → am_R E d mX6_stepsTo k n 40 ls st S iv Q) (kf : ¬ x ≤ 0 → am_R E d mX6_stepsTo k n 8 ls st S iv Q) : am_R E d mX6_stepsTo k n 5 ls (.int x :: st) S iv Q := am_if_le dX6_stepsTo_5 (by decide) kt kf
theorem sX6_stepsTo_8 {a0 a1 a2 : Value} {x : Int32} (h : am_R E d mX6_stepsTo k n 9 [a0, a1, a2, .int x] (.int x :: st) S iv Q) : am_R E d mX6_stepsTo k n 8 [a0, a1, a2, .int x] st S iv Q := am_iload_n dX6_stepsTo_8 rfl rfl h
theorem sX6_stepsTo_9 {a0 a1 a2 a3 : Value} (hv : am_rf a0 = true) (h : am_R E d mX6_stepsTo k n 10 [a0, a1, a2, a3] (a0 :: st) S iv Q) : am_R E d mX6_stepsTo k n 9 [a0, a1, a2, a3] st S iv Q := am_aload_n dX6_stepsTo_9 rfl rfl hv h
theorem sX6_stepsTo_10 {ls : List Value} {a : Nat} (ha : S.1 a = some (.inl 6)) (h : am_R E d mX6_stepsTo k n 13 ls (.int (iv a 2) :: st) S iv Q) : am_R E d mX6_stepsTo k n 10 ls (.ref a :: st) S iv Q := am_getI (ci := 6) dX6_stepsTo_10 rfl rfl (by decide) wq_528 uq_6 rfl ha h
theorem sX6_stepsTo_13 {ls : List Value} {x y : Int32} (kt : y ≤ x → am_R E d mX6_stepsTo k n 40 ls st S iv Q) (kf : ¬ y ≤ x → am_R E d mX6_stepsTo k n 16 ls st S iv Q) : am_R E d mX6_stepsTo k n 13 ls (.int y :: .int x :: st) S iv Q := am_icmp_ge dX6_stepsTo_13 (by decide) kt kf
theorem sX6_stepsTo_16 {a0 a1 a3 : Value} {x : Int32} (h : am_R E d mX6_stepsTo k n 17 [a0, a1, .int x, a3] (.int x :: st) S iv Q) : am_R E d mX6_stepsTo k n 16 [a0, a1, .int x, a3] st S iv Q := am_iload_n dX6_stepsTo_16 rfl rfl h
theorem sX6_stepsTo_17 {a0 a1 a2 a3 : Value} (hv : am_rf a0 = true) (h : am_R E d mX6_stepsTo k n 18 [a0, a1, a2, a3] (a0 :: st) S iv Q) : am_R E d mX6_stepsTo k n 17 [a0, a1, a2, a3] st S iv Q := am_aload_n dX6_stepsTo_17 rfl rfl hv h
theorem sX6_stepsTo_18 {ls : List Value} {a : Nat} (ha : S.1 a = some (.inl 6)) (h : am_R E d mX6_stepsTo k n 21 ls (.int (iv a 2) :: st) S iv Q) : am_R E d mX6_stepsTo k n 18 ls (.ref a :: st) S iv Q := am_getI (ci := 6) dX6_stepsTo_18 rfl rfl (by decide) wq_528 uq_6 rfl ha h
theorem sX6_stepsTo_21 {ls : List Value} {x y : Int32} (kt : y ≤ x → am_R E d mX6_stepsTo k n 40 ls st S iv Q) (kf : ¬ y ≤ x → am_R E d mX6_stepsTo k n 24 ls st S iv Q) : am_R E d mX6_stepsTo k n 21 ls (.int y :: .int x :: st) S iv Q := am_icmp_ge dX6_stepsTo_21 (by decide) kt kf
theorem sX6_stepsTo_24 {a0 a1 a2 a3 : Value} (hv : am_rf a0 = true) (h : am_R E d mX6_stepsTo k n 25 [a0, a1, a2, a3] (a0 :: st) S iv Q) : am_R E d mX6_stepsTo k n 24 [a0, a1, a2, a3] st S iv Q := am_aload_n dX6_stepsTo_24 rfl rfl hv h
theorem sX6_stepsTo_25 {ls : List Value} {a b : Nat} (ha : S.1 a = some (.inl 6)) (hb : S.2.1 a 0 = some b) (h : am_R E d mX6_stepsTo k n 28 ls (.ref b :: st) S iv Q) : am_R E d mX6_stepsTo k n 25 ls (.ref a :: st) S iv Q := am_getR (ci := 6) dX6_stepsTo_25 rfl rfl (by decide) wq_505 uq_6 rfl ha hb h
theorem sX6_stepsTo_28 {a0 a1 a2 : Value} {x : Int32} (h : am_R E d mX6_stepsTo k n 29 [a0, a1, a2, .int x] (.int x :: st) S iv Q) : am_R E d mX6_stepsTo k n 28 [a0, a1, a2, .int x] st S iv Q := am_iload_n dX6_stepsTo_28 rfl rfl h
theorem sX6_stepsTo_29 {ls : List Value} {a m : Nat} {i : Int32} (ha : S.1 a = some (.inr (.int, m))) (hi : vp_in i m) (h : am_R E d mX6_stepsTo k n 30 ls (.int (iv a i.toNatClampNeg) :: st) S iv Q) : am_R E d mX6_stepsTo k n 29 ls (.int i :: .ref a :: st) S iv Q := am_iaload dX6_stepsTo_29 ha hi h
theorem sX6_stepsTo_30 {a0 a1 a2 a3 : Value} (h : am_R E d mX6_stepsTo k n 32 [a0, a1, a2, a3] (.int 15 :: st) S iv Q) : am_R E d mX6_stepsTo k n 30 [a0, a1, a2, a3] st S iv Q := am_bipush dX6_stepsTo_30 (by decide) h
theorem sX6_stepsTo_32 {ls : List Value} {x y : Int32} (h : am_R E d mX6_stepsTo k n 33 ls (.int (x >>> (y &&& 31)) :: st) S iv Q) : am_R E d mX6_stepsTo k n 32 ls (.int y :: .int x :: st) S iv Q := am_ishr dX6_stepsTo_32 h
theorem sX6_stepsTo_33 {a0 a1 a2 a3 : Value} {x : Int32} (h : am_R E d mX6_stepsTo k n 34 [a0, a1, a2, .int x] st S iv Q) : am_R E d mX6_stepsTo k n 33 [a0, a1, a2, a3] (.int x :: st) S iv Q := am_istore_n dX6_stepsTo_33 rfl (by decide) h
theorem sX6_stepsTo_34 {a0 a1 a3 : Value} {x : Int32} (h : am_R E d mX6_stepsTo k n 37 [a0, a1, .int (x + 1), a3] st S iv Q) : am_R E d mX6_stepsTo k n 34 [a0, a1, .int x, a3] st S iv Q := am_iinc dX6_stepsTo_34 rfl rfl (by decide) h
theorem sX6_stepsTo_37 {ls : List Value} (h : am_R E d mX6_stepsTo k n 4 ls st S iv Q) : am_R E d mX6_stepsTo k n 37 ls st S iv Q := am_goto dX6_stepsTo_37 (by decide) h
theorem sX6_stepsTo_40 {a0 a1 a3 : Value} {x : Int32} (h : am_R E d mX6_stepsTo k n 41 [a0, a1, .int x, a3] (.int x :: st) S iv Q) : am_R E d mX6_stepsTo k n 40 [a0, a1, .int x, a3] st S iv Q := am_iload_n dX6_stepsTo_40 rfl rfl h
theorem sX6_stepsTo_41 {ls : List Value} {x : Int32} (h : Q (.inl (some (.int x))) S iv) : am_R E d mX6_stepsTo k n 41 ls [.int x] S iv Q := am_ireturn dX6_stepsTo_41 rfl h
theorem dX6_writeSteps_0 : decode cX6_writeSteps 0 = .ok (.iload_n 1, 1) := by decide +kernel
theorem dX6_writeSteps_1 : decode cX6_writeSteps 1 = .ok (.istore 4, 2) := by decide +kernel
theorem dX6_writeSteps_3 : decode cX6_writeSteps 3 = .ok (.iload_n 2, 1) := by decide +kernel
theorem dX6_writeSteps_4 : decode cX6_writeSteps 4 = .ok (.aload_n 3, 1) := by decide +kernel
theorem dX6_writeSteps_5 : decode cX6_writeSteps 5 = .ok (.arraylength, 1) := by decide +kernel
theorem dX6_writeSteps_6 : decode cX6_writeSteps 6 = .ok (.invokestatic 74, 3) := by decide +kernel
theorem dX6_writeSteps_9 : decode cX6_writeSteps 9 = .ok (.iconst 1, 1) := by decide +kernel
theorem dX6_writeSteps_10 : decode cX6_writeSteps 10 = .ok (.isub, 1) := by decide +kernel
theorem dX6_writeSteps_11 : decode cX6_writeSteps 11 = .ok (.istore 5, 2) := by decide +kernel
theorem dX6_writeSteps_13 : decode cX6_writeSteps 13 = .ok (.iload 5, 2) := by decide +kernel
theorem dX6_writeSteps_15 : decode cX6_writeSteps 15 = .ok (.ifCond .lt 85, 3) := by decide +kernel
theorem dX6_writeSteps_18 : decode cX6_writeSteps 18 = .ok (.iload 4, 2) := by decide +kernel
theorem dX6_writeSteps_20 : decode cX6_writeSteps 20 = .ok (.ifCond .le 80, 3) := by decide +kernel
theorem dX6_writeSteps_23 : decode cX6_writeSteps 23 = .ok (.iload 4, 2) := by decide +kernel
theorem dX6_writeSteps_25 : decode cX6_writeSteps 25 = .ok (.aload_n 0, 1) := by decide +kernel
theorem dX6_writeSteps_26 : decode cX6_writeSteps 26 = .ok (.getfield 52, 3) := by decide +kernel
theorem dX6_writeSteps_29 : decode cX6_writeSteps 29 = .ok (.if_icmp .ge 71, 3) := by decide +kernel
theorem dX6_writeSteps_32 : decode cX6_writeSteps 32 = .ok (.aload_n 0, 1) := by decide +kernel
theorem dX6_writeSteps_33 : decode cX6_writeSteps 33 = .ok (.getfield 11, 3) := by decide +kernel
theorem dX6_writeSteps_36 : decode cX6_writeSteps 36 = .ok (.iload 4, 2) := by decide +kernel
theorem dX6_writeSteps_38 : decode cX6_writeSteps 38 = .ok (.iaload, 1) := by decide +kernel
theorem dX6_writeSteps_39 : decode cX6_writeSteps 39 = .ok (.bipush 15, 2) := by decide +kernel
theorem dX6_writeSteps_41 : decode cX6_writeSteps 41 = .ok (.ishr, 1) := by decide +kernel
theorem dX6_writeSteps_42 : decode cX6_writeSteps 42 = .ok (.istore 6, 2) := by decide +kernel
theorem dX6_writeSteps_44 : decode cX6_writeSteps 44 = .ok (.iload 6, 2) := by decide +kernel
theorem dX6_writeSteps_46 : decode cX6_writeSteps 46 = .ok (.ifCond .lt 10, 3) := by decide +kernel
theorem dX6_writeSteps_49 : decode cX6_writeSteps 49 = .ok (.iload 6, 2) := by decide +kernel
theorem dX6_writeSteps_51 : decode cX6_writeSteps 51 = .ok (.iload 4, 2) := by decide +kernel
theorem dX6_writeSteps_53 : decode cX6_writeSteps 53 = .ok (.if_icmp .lt 4, 3) := by decide +kernel
theorem dX6_writeSteps_56 : decode cX6_writeSteps 56 = .ok (.return_, 1) := by decide +kernel
theorem dX6_writeSteps_57 : decode cX6_writeSteps 57 = .ok (.aload_n 0, 1) := by decide +kernel
theorem dX6_writeSteps_58 : decode cX6_writeSteps 58 = .ok (.getfield 11, 3) := by decide +kernel
theorem dX6_writeSteps_61 : decode cX6_writeSteps 61 = .ok (.iload 4, 2) := by decide +kernel
theorem dX6_writeSteps_63 : decode cX6_writeSteps 63 = .ok (.iaload, 1) := by decide +kernel
theorem dX6_writeSteps_64 : decode cX6_writeSteps 64 = .ok (.aload_n 0, 1) := by decide +kernel
theorem dX6_writeSteps_65 : decode cX6_writeSteps 65 = .ok (.getfield 11, 3) := by decide +kernel
theorem dX6_writeSteps_68 : decode cX6_writeSteps 68 = .ok (.iload 6, 2) := by decide +kernel
theorem dX6_writeSteps_70 : decode cX6_writeSteps 70 = .ok (.iaload, 1) := by decide +kernel
theorem dX6_writeSteps_71 : decode cX6_writeSteps 71 = .ok (.ixor, 1) := by decide +kernel
theorem dX6_writeSteps_72 : decode cX6_writeSteps 72 = .ok (.aload_n 0, 1) := by decide +kernel
theorem dX6_writeSteps_73 : decode cX6_writeSteps 73 = .ok (.getfield 34, 3) := by decide +kernel
theorem dX6_writeSteps_76 : decode cX6_writeSteps 76 = .ok (.iand, 1) := by decide +kernel
theorem dX6_writeSteps_77 : decode cX6_writeSteps 77 = .ok (.istore 7, 2) := by decide +kernel
theorem dX6_writeSteps_79 : decode cX6_writeSteps 79 = .ok (.aload_n 3, 1) := by decide +kernel
theorem dX6_writeSteps_80 : decode cX6_writeSteps 80 = .ok (.iload 5, 2) := by decide +kernel
theorem dX6_writeSteps_82 : decode cX6_writeSteps 82 = .ok (.iload 7, 2) := by decide +kernel
theorem dX6_writeSteps_84 : decode cX6_writeSteps 84 = .ok (.iconst 1, 1) := by decide +kernel
theorem dX6_writeSteps_85 : decode cX6_writeSteps 85 = .ok (.isub, 1) := by decide +kernel
theorem dX6_writeSteps_86 : decode cX6_writeSteps 86 = .ok (.invokestatic 77, 3) := by decide +kernel
theorem dX6_writeSteps_89 : decode cX6_writeSteps 89 = .ok (.iastore, 1) := by decide +kernel
theorem dX6_writeSteps_90 : decode cX6_writeSteps 90 = .ok (.iload 6, 2) := by decide +kernel
theorem dX6_writeSteps_92 : decode cX6_writeSteps 92 = .ok (.istore 4, 2) := by decide +kernel
theorem dX6_writeSteps_94 : decode cX6_writeSteps 94 = .ok (.iinc 5 (-1), 3) := by decide +kernel
theorem dX6_writeSteps_97 : decode cX6_writeSteps 97 = .ok (.goto (-84), 3) := by decide +kernel
theorem dX6_writeSteps_100 : decode cX6_writeSteps 100 = .ok (.return_, 1) := by decide +kernel
theorem sX6_writeSteps_0 {a0 a2 a3 a4 a5 a6 a7 : Value} {x : Int32} (h : am_R E d mX6_writeSteps k n 1 [a0, .int x, a2, a3, a4, a5, a6, a7] (.int x :: st) S iv Q) : am_R E d mX6_writeSteps k n 0 [a0, .int x, a2, a3, a4, a5, a6, a7] st S iv Q := am_iload_n dX6_writeSteps_0 rfl rfl h
theorem sX6_writeSteps_1 {a0 a1 a2 a3 a4 a5 a6 a7 : Value} {x : Int32} (h : am_R E d mX6_writeSteps k n 3 [a0, a1, a2, a3, .int x, a5, a6, a7] st S iv Q) : am_R E d mX6_writeSteps k n 1 [a0, a1, a2, a3, a4, a5, a6, a7] (.int x :: st) S iv Q := am_istore dX6_writeSteps_1 (by decide) h
theorem sX6_writeSteps_3 {a0 a1 a3 a4 a5 a6 a7 : Value} {x : Int32} (h : am_R E d mX6_writeSteps k n 4 [a0, a1, .int x, a3, a4, a5, a6, a7] (.int x :: st) S iv Q) : am_R E d mX6_writeSteps k n 3 [a0, a1, .int x, a3, a4, a5, a6, a7] st S iv Q := am_iload_n dX6_writeSteps_3 rfl rfl h
theorem sX6_writeSteps_4 {a0 a1 a2 a3 a4 a5 a6 a7 : Value} (hv : am_rf a3 = true) (h : am_R E d mX6_writeSteps k n 5 [a0, a1, a2, a3, a4, a5, a6, a7] (a3 :: st) S iv Q) : am_R E d mX6_writeSteps k n 4 [a0, a1, a2, a3, a4, a5, a6, a7] st S iv Q := am_aload_n dX6_writeSteps_4 rfl rfl hv h
theorem sX6_writeSteps_5 {ls : List Value} {a m t : Nat} {ty : FieldType} (ha : S.1 a = some (.inr (ty, m))) (ht : am_ti ty = some t) (h : am_R E d mX6_writeSteps k n 6 ls (.int (Int32.ofNat m) :: st) S iv Q) : am_R E d mX6_writeSteps k n 5 ls (.ref a :: st) S iv Q := am_alen dX6_writeSteps_5 ha ht h
theorem sX6_writeSteps_6 {ls : List Value} {x1 x2 : Value} (hst : (st.map fun v => v.category).sum ≤ 8) (hM : am_M E d mJ9_min_7cf53 0 0 [x1, x2] S iv (am_K3 E (d + 1) mX6_writeSteps k n 6 ls st Q)) : am_R E (d + 1) mX6_writeSteps k n 6 ls (x2 :: x1 :: st) S iv Q := am_cS (M' := mJ9_min_7cf53) (as := [x1, x2]) dX6_writeSteps_6 rfl wq_550 wq_57 wq_50 wq_54 hy_J9_min_7cf53 (by decide) hst (by omega) (by omega) hM
theorem sX6_writeSteps_6_k {ls : List Value} {x1 x2 : Value} {k' n' : Nat} (hst : (st.map fun v => v.category).sum ≤ 8) (hM : am_M E d mJ9_min_7cf53 k' n' [x1, x2] S iv (am_K3 E (d + 1) mX6_writeSteps k n 6 ls st Q)) : am_R E (d + 1) mX6_writeSteps (k' + k) (n' + n) 6 ls (x2 :: x1 :: st) S iv Q := am_cS (M' := mJ9_min_7cf53) (as := [x1, x2]) dX6_writeSteps_6 rfl wq_550 wq_57 wq_50 wq_54 hy_J9_min_7cf53 (by decide) hst (by omega) (by omega) hM
theorem sX6_writeSteps_9 {a0 a1 a2 a3 a4 a5 a6 a7 : Value} (h : am_R E d mX6_writeSteps k n 10 [a0, a1, a2, a3, a4, a5, a6, a7] (.int 1 :: st) S iv Q) : am_R E d mX6_writeSteps k n 9 [a0, a1, a2, a3, a4, a5, a6, a7] st S iv Q := am_iconst dX6_writeSteps_9 (by decide) h
theorem sX6_writeSteps_10 {ls : List Value} {x y : Int32} (h : am_R E d mX6_writeSteps k n 11 ls (.int (x - y) :: st) S iv Q) : am_R E d mX6_writeSteps k n 10 ls (.int y :: .int x :: st) S iv Q := am_isub dX6_writeSteps_10 h
theorem sX6_writeSteps_11 {a0 a1 a2 a3 a4 a5 a6 a7 : Value} {x : Int32} (h : am_R E d mX6_writeSteps k n 13 [a0, a1, a2, a3, a4, .int x, a6, a7] st S iv Q) : am_R E d mX6_writeSteps k n 11 [a0, a1, a2, a3, a4, a5, a6, a7] (.int x :: st) S iv Q := am_istore dX6_writeSteps_11 (by decide) h
theorem sX6_writeSteps_13 {a0 a1 a2 a3 a4 a6 a7 : Value} {x : Int32} (h : am_R E d mX6_writeSteps k n 15 [a0, a1, a2, a3, a4, .int x, a6, a7] (.int x :: st) S iv Q) : am_R E d mX6_writeSteps k n 13 [a0, a1, a2, a3, a4, .int x, a6, a7] st S iv Q := am_iload dX6_writeSteps_13 rfl h
theorem sX6_writeSteps_15 {ls : List Value} {x : Int32} (kt : x < 0 → am_R E d mX6_writeSteps k n 100 ls st S iv Q) (kf : ¬ x < 0 → am_R E d mX6_writeSteps k n 18 ls st S iv Q) : am_R E d mX6_writeSteps k n 15 ls (.int x :: st) S iv Q := am_if_lt dX6_writeSteps_15 (by decide) kt kf
theorem sX6_writeSteps_18 {a0 a1 a2 a3 a5 a6 a7 : Value} {x : Int32} (h : am_R E d mX6_writeSteps k n 20 [a0, a1, a2, a3, .int x, a5, a6, a7] (.int x :: st) S iv Q) : am_R E d mX6_writeSteps k n 18 [a0, a1, a2, a3, .int x, a5, a6, a7] st S iv Q := am_iload dX6_writeSteps_18 rfl h
theorem sX6_writeSteps_20 {ls : List Value} {x : Int32} (kt : x ≤ 0 → am_R E d mX6_writeSteps k n 100 ls st S iv Q) (kf : ¬ x ≤ 0 → am_R E d mX6_writeSteps k n 23 ls st S iv Q) : am_R E d mX6_writeSteps k n 20 ls (.int x :: st) S iv Q := am_if_le dX6_writeSteps_20 (by decide) kt kf
theorem sX6_writeSteps_23 {a0 a1 a2 a3 a5 a6 a7 : Value} {x : Int32} (h : am_R E d mX6_writeSteps k n 25 [a0, a1, a2, a3, .int x, a5, a6, a7] (.int x :: st) S iv Q) : am_R E d mX6_writeSteps k n 23 [a0, a1, a2, a3, .int x, a5, a6, a7] st S iv Q := am_iload dX6_writeSteps_23 rfl h
theorem sX6_writeSteps_25 {a0 a1 a2 a3 a4 a5 a6 a7 : Value} (hv : am_rf a0 = true) (h : am_R E d mX6_writeSteps k n 26 [a0, a1, a2, a3, a4, a5, a6, a7] (a0 :: st) S iv Q) : am_R E d mX6_writeSteps k n 25 [a0, a1, a2, a3, a4, a5, a6, a7] st S iv Q := am_aload_n dX6_writeSteps_25 rfl rfl hv h
theorem sX6_writeSteps_26 {ls : List Value} {a : Nat} (ha : S.1 a = some (.inl 6)) (h : am_R E d mX6_writeSteps k n 29 ls (.int (iv a 2) :: st) S iv Q) : am_R E d mX6_writeSteps k n 26 ls (.ref a :: st) S iv Q := am_getI (ci := 6) dX6_writeSteps_26 rfl rfl (by decide) wq_528 uq_6 rfl ha h
theorem sX6_writeSteps_29 {ls : List Value} {x y : Int32} (kt : y ≤ x → am_R E d mX6_writeSteps k n 100 ls st S iv Q) (kf : ¬ y ≤ x → am_R E d mX6_writeSteps k n 32 ls st S iv Q) : am_R E d mX6_writeSteps k n 29 ls (.int y :: .int x :: st) S iv Q := am_icmp_ge dX6_writeSteps_29 (by decide) kt kf
theorem sX6_writeSteps_32 {a0 a1 a2 a3 a4 a5 a6 a7 : Value} (hv : am_rf a0 = true) (h : am_R E d mX6_writeSteps k n 33 [a0, a1, a2, a3, a4, a5, a6, a7] (a0 :: st) S iv Q) : am_R E d mX6_writeSteps k n 32 [a0, a1, a2, a3, a4, a5, a6, a7] st S iv Q := am_aload_n dX6_writeSteps_32 rfl rfl hv h
theorem sX6_writeSteps_33 {ls : List Value} {a b : Nat} (ha : S.1 a = some (.inl 6)) (hb : S.2.1 a 0 = some b) (h : am_R E d mX6_writeSteps k n 36 ls (.ref b :: st) S iv Q) : am_R E d mX6_writeSteps k n 33 ls (.ref a :: st) S iv Q := am_getR (ci := 6) dX6_writeSteps_33 rfl rfl (by decide) wq_505 uq_6 rfl ha hb h
theorem sX6_writeSteps_36 {a0 a1 a2 a3 a5 a6 a7 : Value} {x : Int32} (h : am_R E d mX6_writeSteps k n 38 [a0, a1, a2, a3, .int x, a5, a6, a7] (.int x :: st) S iv Q) : am_R E d mX6_writeSteps k n 36 [a0, a1, a2, a3, .int x, a5, a6, a7] st S iv Q := am_iload dX6_writeSteps_36 rfl h
theorem sX6_writeSteps_38 {ls : List Value} {a m : Nat} {i : Int32} (ha : S.1 a = some (.inr (.int, m))) (hi : vp_in i m) (h : am_R E d mX6_writeSteps k n 39 ls (.int (iv a i.toNatClampNeg) :: st) S iv Q) : am_R E d mX6_writeSteps k n 38 ls (.int i :: .ref a :: st) S iv Q := am_iaload dX6_writeSteps_38 ha hi h
theorem sX6_writeSteps_39 {a0 a1 a2 a3 a4 a5 a6 a7 : Value} (h : am_R E d mX6_writeSteps k n 41 [a0, a1, a2, a3, a4, a5, a6, a7] (.int 15 :: st) S iv Q) : am_R E d mX6_writeSteps k n 39 [a0, a1, a2, a3, a4, a5, a6, a7] st S iv Q := am_bipush dX6_writeSteps_39 (by decide) h
theorem sX6_writeSteps_41 {ls : List Value} {x y : Int32} (h : am_R E d mX6_writeSteps k n 42 ls (.int (x >>> (y &&& 31)) :: st) S iv Q) : am_R E d mX6_writeSteps k n 41 ls (.int y :: .int x :: st) S iv Q := am_ishr dX6_writeSteps_41 h
theorem sX6_writeSteps_42 {a0 a1 a2 a3 a4 a5 a6 a7 : Value} {x : Int32} (h : am_R E d mX6_writeSteps k n 44 [a0, a1, a2, a3, a4, a5, .int x, a7] st S iv Q) : am_R E d mX6_writeSteps k n 42 [a0, a1, a2, a3, a4, a5, a6, a7] (.int x :: st) S iv Q := am_istore dX6_writeSteps_42 (by decide) h
theorem sX6_writeSteps_44 {a0 a1 a2 a3 a4 a5 a7 : Value} {x : Int32} (h : am_R E d mX6_writeSteps k n 46 [a0, a1, a2, a3, a4, a5, .int x, a7] (.int x :: st) S iv Q) : am_R E d mX6_writeSteps k n 44 [a0, a1, a2, a3, a4, a5, .int x, a7] st S iv Q := am_iload dX6_writeSteps_44 rfl h
theorem sX6_writeSteps_46 {ls : List Value} {x : Int32} (kt : x < 0 → am_R E d mX6_writeSteps k n 56 ls st S iv Q) (kf : ¬ x < 0 → am_R E d mX6_writeSteps k n 49 ls st S iv Q) : am_R E d mX6_writeSteps k n 46 ls (.int x :: st) S iv Q := am_if_lt dX6_writeSteps_46 (by decide) kt kf
theorem sX6_writeSteps_49 {a0 a1 a2 a3 a4 a5 a7 : Value} {x : Int32} (h : am_R E d mX6_writeSteps k n 51 [a0, a1, a2, a3, a4, a5, .int x, a7] (.int x :: st) S iv Q) : am_R E d mX6_writeSteps k n 49 [a0, a1, a2, a3, a4, a5, .int x, a7] st S iv Q := am_iload dX6_writeSteps_49 rfl h
theorem sX6_writeSteps_51 {a0 a1 a2 a3 a5 a6 a7 : Value} {x : Int32} (h : am_R E d mX6_writeSteps k n 53 [a0, a1, a2, a3, .int x, a5, a6, a7] (.int x :: st) S iv Q) : am_R E d mX6_writeSteps k n 51 [a0, a1, a2, a3, .int x, a5, a6, a7] st S iv Q := am_iload dX6_writeSteps_51 rfl h
theorem sX6_writeSteps_53 {ls : List Value} {x y : Int32} (kt : x < y → am_R E d mX6_writeSteps k n 57 ls st S iv Q) (kf : ¬ x < y → am_R E d mX6_writeSteps k n 56 ls st S iv Q) : am_R E d mX6_writeSteps k n 53 ls (.int y :: .int x :: st) S iv Q := am_icmp_lt dX6_writeSteps_53 (by decide) kt kf
theorem sX6_writeSteps_56 {ls : List Value} (h : Q (.inl none) S iv) : am_R E d mX6_writeSteps k n 56 ls [] S iv Q := am_return dX6_writeSteps_56 rfl h
theorem sX6_writeSteps_57 {a0 a1 a2 a3 a4 a5 a6 a7 : Value} (hv : am_rf a0 = true) (h : am_R E d mX6_writeSteps k n 58 [a0, a1, a2, a3, a4, a5, a6, a7] (a0 :: st) S iv Q) : am_R E d mX6_writeSteps k n 57 [a0, a1, a2, a3, a4, a5, a6, a7] st S iv Q := am_aload_n dX6_writeSteps_57 rfl rfl hv h
theorem sX6_writeSteps_58 {ls : List Value} {a b : Nat} (ha : S.1 a = some (.inl 6)) (hb : S.2.1 a 0 = some b) (h : am_R E d mX6_writeSteps k n 61 ls (.ref b :: st) S iv Q) : am_R E d mX6_writeSteps k n 58 ls (.ref a :: st) S iv Q := am_getR (ci := 6) dX6_writeSteps_58 rfl rfl (by decide) wq_505 uq_6 rfl ha hb h
theorem sX6_writeSteps_61 {a0 a1 a2 a3 a5 a6 a7 : Value} {x : Int32} (h : am_R E d mX6_writeSteps k n 63 [a0, a1, a2, a3, .int x, a5, a6, a7] (.int x :: st) S iv Q) : am_R E d mX6_writeSteps k n 61 [a0, a1, a2, a3, .int x, a5, a6, a7] st S iv Q := am_iload dX6_writeSteps_61 rfl h
theorem sX6_writeSteps_63 {ls : List Value} {a m : Nat} {i : Int32} (ha : S.1 a = some (.inr (.int, m))) (hi : vp_in i m) (h : am_R E d mX6_writeSteps k n 64 ls (.int (iv a i.toNatClampNeg) :: st) S iv Q) : am_R E d mX6_writeSteps k n 63 ls (.int i :: .ref a :: st) S iv Q := am_iaload dX6_writeSteps_63 ha hi h
theorem sX6_writeSteps_64 {a0 a1 a2 a3 a4 a5 a6 a7 : Value} (hv : am_rf a0 = true) (h : am_R E d mX6_writeSteps k n 65 [a0, a1, a2, a3, a4, a5, a6, a7] (a0 :: st) S iv Q) : am_R E d mX6_writeSteps k n 64 [a0, a1, a2, a3, a4, a5, a6, a7] st S iv Q := am_aload_n dX6_writeSteps_64 rfl rfl hv h
theorem sX6_writeSteps_65 {ls : List Value} {a b : Nat} (ha : S.1 a = some (.inl 6)) (hb : S.2.1 a 0 = some b) (h : am_R E d mX6_writeSteps k n 68 ls (.ref b :: st) S iv Q) : am_R E d mX6_writeSteps k n 65 ls (.ref a :: st) S iv Q := am_getR (ci := 6) dX6_writeSteps_65 rfl rfl (by decide) wq_505 uq_6 rfl ha hb h
theorem sX6_writeSteps_68 {a0 a1 a2 a3 a4 a5 a7 : Value} {x : Int32} (h : am_R E d mX6_writeSteps k n 70 [a0, a1, a2, a3, a4, a5, .int x, a7] (.int x :: st) S iv Q) : am_R E d mX6_writeSteps k n 68 [a0, a1, a2, a3, a4, a5, .int x, a7] st S iv Q := am_iload dX6_writeSteps_68 rfl h
theorem sX6_writeSteps_70 {ls : List Value} {a m : Nat} {i : Int32} (ha : S.1 a = some (.inr (.int, m))) (hi : vp_in i m) (h : am_R E d mX6_writeSteps k n 71 ls (.int (iv a i.toNatClampNeg) :: st) S iv Q) : am_R E d mX6_writeSteps k n 70 ls (.int i :: .ref a :: st) S iv Q := am_iaload dX6_writeSteps_70 ha hi h
theorem sX6_writeSteps_71 {ls : List Value} {x y : Int32} (h : am_R E d mX6_writeSteps k n 72 ls (.int (x ^^^ y) :: st) S iv Q) : am_R E d mX6_writeSteps k n 71 ls (.int y :: .int x :: st) S iv Q := am_ixor dX6_writeSteps_71 h
theorem sX6_writeSteps_72 {a0 a1 a2 a3 a4 a5 a6 a7 : Value} (hv : am_rf a0 = true) (h : am_R E d mX6_writeSteps k n 73 [a0, a1, a2, a3, a4, a5, a6, a7] (a0 :: st) S iv Q) : am_R E d mX6_writeSteps k n 72 [a0, a1, a2, a3, a4, a5, a6, a7] st S iv Q := am_aload_n dX6_writeSteps_72 rfl rfl hv h
theorem sX6_writeSteps_73 {ls : List Value} {a : Nat} (ha : S.1 a = some (.inl 6)) (h : am_R E d mX6_writeSteps k n 76 ls (.int (iv a 3) :: st) S iv Q) : am_R E d mX6_writeSteps k n 73 ls (.ref a :: st) S iv Q := am_getI (ci := 6) dX6_writeSteps_73 rfl rfl (by decide) wq_514 uq_6 rfl ha h
theorem sX6_writeSteps_76 {ls : List Value} {x y : Int32} (h : am_R E d mX6_writeSteps k n 77 ls (.int (x &&& y) :: st) S iv Q) : am_R E d mX6_writeSteps k n 76 ls (.int y :: .int x :: st) S iv Q := am_iand dX6_writeSteps_76 h
theorem sX6_writeSteps_77 {a0 a1 a2 a3 a4 a5 a6 a7 : Value} {x : Int32} (h : am_R E d mX6_writeSteps k n 79 [a0, a1, a2, a3, a4, a5, a6, .int x] st S iv Q) : am_R E d mX6_writeSteps k n 77 [a0, a1, a2, a3, a4, a5, a6, a7] (.int x :: st) S iv Q := am_istore dX6_writeSteps_77 (by decide) h
theorem sX6_writeSteps_79 {a0 a1 a2 a3 a4 a5 a6 a7 : Value} (hv : am_rf a3 = true) (h : am_R E d mX6_writeSteps k n 80 [a0, a1, a2, a3, a4, a5, a6, a7] (a3 :: st) S iv Q) : am_R E d mX6_writeSteps k n 79 [a0, a1, a2, a3, a4, a5, a6, a7] st S iv Q := am_aload_n dX6_writeSteps_79 rfl rfl hv h
theorem sX6_writeSteps_80 {a0 a1 a2 a3 a4 a6 a7 : Value} {x : Int32} (h : am_R E d mX6_writeSteps k n 82 [a0, a1, a2, a3, a4, .int x, a6, a7] (.int x :: st) S iv Q) : am_R E d mX6_writeSteps k n 80 [a0, a1, a2, a3, a4, .int x, a6, a7] st S iv Q := am_iload dX6_writeSteps_80 rfl h
theorem sX6_writeSteps_82 {a0 a1 a2 a3 a4 a5 a6 : Value} {x : Int32} (h : am_R E d mX6_writeSteps k n 84 [a0, a1, a2, a3, a4, a5, a6, .int x] (.int x :: st) S iv Q) : am_R E d mX6_writeSteps k n 82 [a0, a1, a2, a3, a4, a5, a6, .int x] st S iv Q := am_iload dX6_writeSteps_82 rfl h
theorem sX6_writeSteps_84 {a0 a1 a2 a3 a4 a5 a6 a7 : Value} (h : am_R E d mX6_writeSteps k n 85 [a0, a1, a2, a3, a4, a5, a6, a7] (.int 1 :: st) S iv Q) : am_R E d mX6_writeSteps k n 84 [a0, a1, a2, a3, a4, a5, a6, a7] st S iv Q := am_iconst dX6_writeSteps_84 (by decide) h
theorem sX6_writeSteps_85 {ls : List Value} {x y : Int32} (h : am_R E d mX6_writeSteps k n 86 ls (.int (x - y) :: st) S iv Q) : am_R E d mX6_writeSteps k n 85 ls (.int y :: .int x :: st) S iv Q := am_isub dX6_writeSteps_85 h
theorem sX6_writeSteps_86 {ls : List Value} {x1 : Value} (hst : (st.map fun v => v.category).sum ≤ 8) (hM : am_M E d mJ6_bitCount_0f7a4 0 0 [x1] S iv (am_K3 E (d + 1) mX6_writeSteps k n 86 ls st Q)) : am_R E (d + 1) mX6_writeSteps k n 86 ls (x1 :: st) S iv Q := am_cS (M' := mJ6_bitCount_0f7a4) (as := [x1]) dX6_writeSteps_86 rfl wq_551 wq_276 wq_273 wq_272 hy_J6_bitCount_0f7a4 (by decide) hst (by omega) (by omega) hM
theorem sX6_writeSteps_86_k {ls : List Value} {x1 : Value} {k' n' : Nat} (hst : (st.map fun v => v.category).sum ≤ 8) (hM : am_M E d mJ6_bitCount_0f7a4 k' n' [x1] S iv (am_K3 E (d + 1) mX6_writeSteps k n 86 ls st Q)) : am_R E (d + 1) mX6_writeSteps (k' + k) (n' + n) 86 ls (x1 :: st) S iv Q := am_cS (M' := mJ6_bitCount_0f7a4) (as := [x1]) dX6_writeSteps_86 rfl wq_551 wq_276 wq_273 wq_272 hy_J6_bitCount_0f7a4 (by decide) hst (by omega) (by omega) hM
theorem sX6_writeSteps_89 {ls : List Value} {a m : Nat} {i x : Int32} (ha : S.1 a = some (.inr (.int, m))) (hi : vp_in i m) (h : am_R E d mX6_writeSteps k n 90 ls st S (am_w iv a i.toNatClampNeg x) Q) : am_R E d mX6_writeSteps k n 89 ls (.int x :: .int i :: .ref a :: st) S iv Q := am_iastore dX6_writeSteps_89 ha hi h
theorem sX6_writeSteps_90 {a0 a1 a2 a3 a4 a5 a7 : Value} {x : Int32} (h : am_R E d mX6_writeSteps k n 92 [a0, a1, a2, a3, a4, a5, .int x, a7] (.int x :: st) S iv Q) : am_R E d mX6_writeSteps k n 90 [a0, a1, a2, a3, a4, a5, .int x, a7] st S iv Q := am_iload dX6_writeSteps_90 rfl h
theorem sX6_writeSteps_92 {a0 a1 a2 a3 a4 a5 a6 a7 : Value} {x : Int32} (h : am_R E d mX6_writeSteps k n 94 [a0, a1, a2, a3, .int x, a5, a6, a7] st S iv Q) : am_R E d mX6_writeSteps k n 92 [a0, a1, a2, a3, a4, a5, a6, a7] (.int x :: st) S iv Q := am_istore dX6_writeSteps_92 (by decide) h
theorem sX6_writeSteps_94 {a0 a1 a2 a3 a4 a6 a7 : Value} {x : Int32} (h : am_R E d mX6_writeSteps k n 97 [a0, a1, a2, a3, a4, .int (x + (-1)), a6, a7] st S iv Q) : am_R E d mX6_writeSteps k n 94 [a0, a1, a2, a3, a4, .int x, a6, a7] st S iv Q := am_iinc dX6_writeSteps_94 rfl rfl (by decide) h
theorem sX6_writeSteps_97 {ls : List Value} (h : am_R E d mX6_writeSteps k n 13 ls st S iv Q) : am_R E d mX6_writeSteps k n 97 ls st S iv Q := am_goto dX6_writeSteps_97 (by decide) h
theorem sX6_writeSteps_100 {ls : List Value} (h : Q (.inl none) S iv) : am_R E d mX6_writeSteps k n 100 ls [] S iv Q := am_return dX6_writeSteps_100 rfl h
end R13_X6
