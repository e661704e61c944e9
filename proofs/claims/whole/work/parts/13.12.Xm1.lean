section R13_Xm1
variable {E : am_E} {d k n : Nat} {st : List Value} {S : am_S} {iv : am_I} {Q : am_O → am_S → am_I → Prop}
theorem dX10_readDrawer_0 : decode cX10_readDrawer 0 = .ok (.aload_n 0, 1) := by decide +kernel
theorem dX10_readDrawer_1 : decode cX10_readDrawer 1 = .ok (.getfield 49, 3) := by decide +kernel
theorem dX10_readDrawer_4 : decode cX10_readDrawer 4 = .ok (.bipush 12, 2) := by decide +kernel
theorem dX10_readDrawer_6 : decode cX10_readDrawer 6 = .ok (.iaload, 1) := by decide +kernel
theorem dX10_readDrawer_7 : decode cX10_readDrawer 7 = .ok (.bipush 10, 2) := by decide +kernel
theorem dX10_readDrawer_9 : decode cX10_readDrawer 9 = .ok (.if_icmp .ne 8, 3) := by decide +kernel
theorem dX10_readDrawer_12 : decode cX10_readDrawer 12 = .ok (.aload_n 0, 1) := by decide +kernel
theorem dX10_readDrawer_13 : decode cX10_readDrawer 13 = .ok (.iconst 2, 1) := by decide +kernel
theorem dX10_readDrawer_14 : decode cX10_readDrawer 14 = .ok (.invokevirtual 215, 3) := by decide +kernel
theorem dX10_readDrawer_17 : decode cX10_readDrawer 17 = .ok (.aload_n 0, 1) := by decide +kernel
theorem dX10_readDrawer_18 : decode cX10_readDrawer 18 = .ok (.getfield 192, 3) := by decide +kernel
theorem dX10_readDrawer_21 : decode cX10_readDrawer 21 = .ok (.ifCond .eq 4, 3) := by decide +kernel
theorem dX10_readDrawer_24 : decode cX10_readDrawer 24 = .ok (.return_, 1) := by decide +kernel
theorem dX10_readDrawer_25 : decode cX10_readDrawer 25 = .ok (.aload_n 0, 1) := by decide +kernel
theorem dX10_readDrawer_26 : decode cX10_readDrawer 26 = .ok (.invokevirtual 209, 3) := by decide +kernel
theorem dX10_readDrawer_29 : decode cX10_readDrawer 29 = .ok (.bipush 10, 2) := by decide +kernel
theorem dX10_readDrawer_31 : decode cX10_readDrawer 31 = .ok (.aload_n 0, 1) := by decide +kernel
theorem dX10_readDrawer_32 : decode cX10_readDrawer 32 = .ok (.getfield 49, 3) := by decide +kernel
theorem dX10_readDrawer_35 : decode cX10_readDrawer 35 = .ok (.bipush 12, 2) := by decide +kernel
theorem dX10_readDrawer_37 : decode cX10_readDrawer 37 = .ok (.iaload, 1) := by decide +kernel
theorem dX10_readDrawer_38 : decode cX10_readDrawer 38 = .ok (.iadd, 1) := by decide +kernel
theorem dX10_readDrawer_39 : decode cX10_readDrawer 39 = .ok (.istore_n 2, 1) := by decide +kernel
theorem dX10_readDrawer_40 : decode cX10_readDrawer 40 = .ok (.aload_n 0, 1) := by decide +kernel
theorem dX10_readDrawer_41 : decode cX10_readDrawer 41 = .ok (.getfield 53, 3) := by decide +kernel
theorem dX10_readDrawer_44 : decode cX10_readDrawer 44 = .ok (.iload_n 2, 1) := by decide +kernel
theorem dX10_readDrawer_45 : decode cX10_readDrawer 45 = .ok (.iload_n 1, 1) := by decide +kernel
theorem dX10_readDrawer_46 : decode cX10_readDrawer 46 = .ok (.iastore, 1) := by decide +kernel
theorem dX10_readDrawer_47 : decode cX10_readDrawer 47 = .ok (.aload_n 0, 1) := by decide +kernel
theorem dX10_readDrawer_48 : decode cX10_readDrawer 48 = .ok (.getfield 55, 3) := by decide +kernel
theorem dX10_readDrawer_51 : decode cX10_readDrawer 51 = .ok (.iload_n 2, 1) := by decide +kernel
theorem dX10_readDrawer_52 : decode cX10_readDrawer 52 = .ok (.aload_n 0, 1) := by decide +kernel
theorem dX10_readDrawer_53 : decode cX10_readDrawer 53 = .ok (.iconst 0, 1) := by decide +kernel
theorem dX10_readDrawer_54 : decode cX10_readDrawer 54 = .ok (.aload_n 0, 1) := by decide +kernel
theorem dX10_readDrawer_55 : decode cX10_readDrawer 55 = .ok (.getfield 49, 3) := by decide +kernel
theorem dX10_readDrawer_58 : decode cX10_readDrawer 58 = .ok (.bipush 10, 2) := by decide +kernel
theorem dX10_readDrawer_60 : decode cX10_readDrawer 60 = .ok (.iaload, 1) := by decide +kernel
theorem dX10_readDrawer_61 : decode cX10_readDrawer 61 = .ok (.iconst 1, 1) := by decide +kernel
theorem dX10_readDrawer_62 : decode cX10_readDrawer 62 = .ok (.isub, 1) := by decide +kernel
theorem dX10_readDrawer_63 : decode cX10_readDrawer 63 = .ok (.invokevirtual 225, 3) := by decide +kernel
theorem dX10_readDrawer_66 : decode cX10_readDrawer 66 = .ok (.iastore, 1) := by decide +kernel
theorem dX10_readDrawer_67 : decode cX10_readDrawer 67 = .ok (.aload_n 0, 1) := by decide +kernel
theorem dX10_readDrawer_68 : decode cX10_readDrawer 68 = .ok (.getfield 57, 3) := by decide +kernel
theorem dX10_readDrawer_71 : decode cX10_readDrawer 71 = .ok (.iload_n 2, 1) := by decide +kernel
theorem dX10_readDrawer_72 : decode cX10_readDrawer 72 = .ok (.aload_n 0, 1) := by decide +kernel
theorem dX10_readDrawer_73 : decode cX10_readDrawer 73 = .ok (.iconst 0, 1) := by decide +kernel
theorem dX10_readDrawer_74 : decode cX10_readDrawer 74 = .ok (.aload_n 0, 1) := by decide +kernel
theorem dX10_readDrawer_75 : decode cX10_readDrawer 75 = .ok (.getfield 49, 3) := by decide +kernel
theorem dX10_readDrawer_78 : decode cX10_readDrawer 78 = .ok (.bipush 11, 2) := by decide +kernel
theorem dX10_readDrawer_80 : decode cX10_readDrawer 80 = .ok (.iaload, 1) := by decide +kernel
theorem dX10_readDrawer_81 : decode cX10_readDrawer 81 = .ok (.iconst 1, 1) := by decide +kernel
theorem dX10_readDrawer_82 : decode cX10_readDrawer 82 = .ok (.isub, 1) := by decide +kernel
theorem dX10_readDrawer_83 : decode cX10_readDrawer 83 = .ok (.invokevirtual 219, 3) := by decide +kernel
theorem dX10_readDrawer_86 : decode cX10_readDrawer 86 = .ok (.iastore, 1) := by decide +kernel
theorem dX10_readDrawer_87 : decode cX10_readDrawer 87 = .ok (.aload_n 0, 1) := by decide +kernel
theorem dX10_readDrawer_88 : decode cX10_readDrawer 88 = .ok (.getfield 192, 3) := by decide +kernel
theorem dX10_readDrawer_91 : decode cX10_readDrawer 91 = .ok (.ifCond .ne 34, 3) := by decide +kernel
theorem dX10_readDrawer_94 : decode cX10_readDrawer 94 = .ok (.aload_n 0, 1) := by decide +kernel
theorem dX10_readDrawer_95 : decode cX10_readDrawer 95 = .ok (.aload_n 0, 1) := by decide +kernel
theorem dX10_readDrawer_96 : decode cX10_readDrawer 96 = .ok (.getfield 55, 3) := by decide +kernel
theorem dX10_readDrawer_99 : decode cX10_readDrawer 99 = .ok (.iload_n 2, 1) := by decide +kernel
theorem dX10_readDrawer_100 : decode cX10_readDrawer 100 = .ok (.iaload, 1) := by decide +kernel
theorem dX10_readDrawer_101 : decode cX10_readDrawer 101 = .ok (.aload_n 0, 1) := by decide +kernel
theorem dX10_readDrawer_102 : decode cX10_readDrawer 102 = .ok (.getfield 57, 3) := by decide +kernel
theorem dX10_readDrawer_105 : decode cX10_readDrawer 105 = .ok (.iload_n 2, 1) := by decide +kernel
theorem dX10_readDrawer_106 : decode cX10_readDrawer 106 = .ok (.iaload, 1) := by decide +kernel
theorem dX10_readDrawer_107 : decode cX10_readDrawer 107 = .ok (.aload_n 0, 1) := by decide +kernel
theorem dX10_readDrawer_108 : decode cX10_readDrawer 108 = .ok (.getfield 49, 3) := by decide +kernel
theorem dX10_readDrawer_111 : decode cX10_readDrawer 111 = .ok (.bipush 12, 2) := by decide +kernel
theorem dX10_readDrawer_113 : decode cX10_readDrawer 113 = .ok (.iaload, 1) := by decide +kernel
theorem dX10_readDrawer_114 : decode cX10_readDrawer 114 = .ok (.invokevirtual 262, 3) := by decide +kernel
theorem dX10_readDrawer_117 : decode cX10_readDrawer 117 = .ok (.ifCond .eq 8, 3) := by decide +kernel
theorem dX10_readDrawer_120 : decode cX10_readDrawer 120 = .ok (.aload_n 0, 1) := by decide +kernel
theorem dX10_readDrawer_121 : decode cX10_readDrawer 121 = .ok (.iconst 5, 1) := by decide +kernel
theorem dX10_readDrawer_122 : decode cX10_readDrawer 122 = .ok (.invokevirtual 215, 3) := by decide +kernel
theorem dX10_readDrawer_125 : decode cX10_readDrawer 125 = .ok (.aload_n 0, 1) := by decide +kernel
theorem dX10_readDrawer_126 : decode cX10_readDrawer 126 = .ok (.getfield 192, 3) := by decide +kernel
theorem dX10_readDrawer_129 : decode cX10_readDrawer 129 = .ok (.ifCond .ne 7, 3) := by decide +kernel
theorem dX10_readDrawer_132 : decode cX10_readDrawer 132 = .ok (.aload_n 0, 1) := by decide +kernel
theorem dX10_readDrawer_133 : decode cX10_readDrawer 133 = .ok (.invokevirtual 209, 3) := by decide +kernel
theorem dX10_readDrawer_136 : decode cX10_readDrawer 136 = .ok (.aload_n 0, 1) := by decide +kernel
theorem dX10_readDrawer_137 : decode cX10_readDrawer 137 = .ok (.getfield 59, 3) := by decide +kernel
theorem dX10_readDrawer_140 : decode cX10_readDrawer 140 = .ok (.iload_n 2, 1) := by decide +kernel
theorem dX10_readDrawer_141 : decode cX10_readDrawer 141 = .ok (.aload_n 0, 1) := by decide +kernel
theorem dX10_readDrawer_142 : decode cX10_readDrawer 142 = .ok (.iconst 1, 1) := by decide +kernel
theorem dX10_readDrawer_143 : decode cX10_readDrawer 143 = .ok (.bipush 9, 2) := by decide +kernel
theorem dX10_readDrawer_145 : decode cX10_readDrawer 145 = .ok (.invokevirtual 225, 3) := by decide +kernel
theorem dX10_readDrawer_148 : decode cX10_readDrawer 148 = .ok (.iastore, 1) := by decide +kernel
theorem dX10_readDrawer_149 : decode cX10_readDrawer 149 = .ok (.aload_n 0, 1) := by decide +kernel
theorem dX10_readDrawer_150 : decode cX10_readDrawer 150 = .ok (.getfield 61, 3) := by decide +kernel
theorem dX10_readDrawer_153 : decode cX10_readDrawer 153 = .ok (.iload_n 2, 1) := by decide +kernel
theorem dX10_readDrawer_154 : decode cX10_readDrawer 154 = .ok (.aload_n 0, 1) := by decide +kernel
theorem dX10_readDrawer_155 : decode cX10_readDrawer 155 = .ok (.ldc_w 265, 3) := by decide +kernel
theorem dX10_readDrawer_158 : decode cX10_readDrawer 158 = .ok (.invokevirtual 205, 3) := by decide +kernel
theorem dX10_readDrawer_161 : decode cX10_readDrawer 161 = .ok (.ifCond .eq 7, 3) := by decide +kernel
theorem dX10_readDrawer_164 : decode cX10_readDrawer 164 = .ok (.iconst 1, 1) := by decide +kernel
theorem dX10_readDrawer_165 : decode cX10_readDrawer 165 = .ok (.goto 4, 3) := by decide +kernel
theorem dX10_readDrawer_168 : decode cX10_readDrawer 168 = .ok (.iconst 0, 1) := by decide +kernel
theorem dX10_readDrawer_169 : decode cX10_readDrawer 169 = .ok (.iastore, 1) := by decide +kernel
theorem dX10_readDrawer_170 : decode cX10_readDrawer 170 = .ok (.aload_n 0, 1) := by decide +kernel
theorem dX10_readDrawer_171 : decode cX10_readDrawer 171 = .ok (.getfield 61, 3) := by decide +kernel
theorem dX10_readDrawer_174 : decode cX10_readDrawer 174 = .ok (.iload_n 2, 1) := by decide +kernel
theorem dX10_readDrawer_175 : decode cX10_readDrawer 175 = .ok (.iaload, 1) := by decide +kernel
theorem dX10_readDrawer_176 : decode cX10_readDrawer 176 = .ok (.iconst 1, 1) := by decide +kernel
theorem dX10_readDrawer_177 : decode cX10_readDrawer 177 = .ok (.if_icmp .ne 73, 3) := by decide +kernel
theorem dX10_readDrawer_180 : decode cX10_readDrawer 180 = .ok (.aload_n 0, 1) := by decide +kernel
theorem dX10_readDrawer_181 : decode cX10_readDrawer 181 = .ok (.getfield 55, 3) := by decide +kernel
theorem dX10_readDrawer_184 : decode cX10_readDrawer 184 = .ok (.iload_n 2, 1) := by decide +kernel
theorem dX10_readDrawer_185 : decode cX10_readDrawer 185 = .ok (.iaload, 1) := by decide +kernel
theorem dX10_readDrawer_186 : decode cX10_readDrawer 186 = .ok (.aload_n 0, 1) := by decide +kernel
theorem dX10_readDrawer_187 : decode cX10_readDrawer 187 = .ok (.getfield 49, 3) := by decide +kernel
theorem dX10_readDrawer_190 : decode cX10_readDrawer 190 = .ok (.bipush 10, 2) := by decide +kernel
theorem dX10_readDrawer_192 : decode cX10_readDrawer 192 = .ok (.iaload, 1) := by decide +kernel
theorem dX10_readDrawer_193 : decode cX10_readDrawer 193 = .ok (.iconst 1, 1) := by decide +kernel
theorem dX10_readDrawer_194 : decode cX10_readDrawer 194 = .ok (.isub, 1) := by decide +kernel
theorem dX10_readDrawer_195 : decode cX10_readDrawer 195 = .ok (.if_icmp .ne 11, 3) := by decide +kernel
theorem dX10_readDrawer_198 : decode cX10_readDrawer 198 = .ok (.aload_n 0, 1) := by decide +kernel
theorem dX10_readDrawer_199 : decode cX10_readDrawer 199 = .ok (.iconst 2, 1) := by decide +kernel
theorem dX10_readDrawer_200 : decode cX10_readDrawer 200 = .ok (.invokevirtual 215, 3) := by decide +kernel
theorem dX10_readDrawer_203 : decode cX10_readDrawer 203 = .ok (.goto 36, 3) := by decide +kernel
theorem dX10_readDrawer_206 : decode cX10_readDrawer 206 = .ok (.aload_n 0, 1) := by decide +kernel
theorem dX10_readDrawer_207 : decode cX10_readDrawer 207 = .ok (.aload_n 0, 1) := by decide +kernel
theorem dX10_readDrawer_208 : decode cX10_readDrawer 208 = .ok (.getfield 55, 3) := by decide +kernel
theorem dX10_readDrawer_211 : decode cX10_readDrawer 211 = .ok (.iload_n 2, 1) := by decide +kernel
theorem dX10_readDrawer_212 : decode cX10_readDrawer 212 = .ok (.iaload, 1) := by decide +kernel
theorem dX10_readDrawer_213 : decode cX10_readDrawer 213 = .ok (.iconst 1, 1) := by decide +kernel
theorem dX10_readDrawer_214 : decode cX10_readDrawer 214 = .ok (.iadd, 1) := by decide +kernel
theorem dX10_readDrawer_215 : decode cX10_readDrawer 215 = .ok (.aload_n 0, 1) := by decide +kernel
theorem dX10_readDrawer_216 : decode cX10_readDrawer 216 = .ok (.getfield 57, 3) := by decide +kernel
theorem dX10_readDrawer_219 : decode cX10_readDrawer 219 = .ok (.iload_n 2, 1) := by decide +kernel
theorem dX10_readDrawer_220 : decode cX10_readDrawer 220 = .ok (.iaload, 1) := by decide +kernel
theorem dX10_readDrawer_221 : decode cX10_readDrawer 221 = .ok (.aload_n 0, 1) := by decide +kernel
theorem dX10_readDrawer_222 : decode cX10_readDrawer 222 = .ok (.getfield 49, 3) := by decide +kernel
theorem dX10_readDrawer_225 : decode cX10_readDrawer 225 = .ok (.bipush 12, 2) := by decide +kernel
theorem dX10_readDrawer_227 : decode cX10_readDrawer 227 = .ok (.iaload, 1) := by decide +kernel
theorem dX10_readDrawer_228 : decode cX10_readDrawer 228 = .ok (.invokevirtual 262, 3) := by decide +kernel
theorem dX10_readDrawer_231 : decode cX10_readDrawer 231 = .ok (.ifCond .eq 8, 3) := by decide +kernel
theorem dX10_readDrawer_234 : decode cX10_readDrawer 234 = .ok (.aload_n 0, 1) := by decide +kernel
theorem dX10_readDrawer_235 : decode cX10_readDrawer 235 = .ok (.iconst 5, 1) := by decide +kernel
theorem dX10_readDrawer_236 : decode cX10_readDrawer 236 = .ok (.invokevirtual 215, 3) := by decide +kernel
theorem dX10_readDrawer_239 : decode cX10_readDrawer 239 = .ok (.aload_n 0, 1) := by decide +kernel
theorem dX10_readDrawer_240 : decode cX10_readDrawer 240 = .ok (.getfield 192, 3) := by decide +kernel
theorem dX10_readDrawer_243 : decode cX10_readDrawer 243 = .ok (.ifCond .ne 7, 3) := by decide +kernel
theorem dX10_readDrawer_246 : decode cX10_readDrawer 246 = .ok (.aload_n 0, 1) := by decide +kernel
theorem dX10_readDrawer_247 : decode cX10_readDrawer 247 = .ok (.invokevirtual 209, 3) := by decide +kernel
theorem dX10_readDrawer_250 : decode cX10_readDrawer 250 = .ok (.aload_n 0, 1) := by decide +kernel
theorem dX10_readDrawer_251 : decode cX10_readDrawer 251 = .ok (.getfield 49, 3) := by decide +kernel
theorem dX10_readDrawer_254 : decode cX10_readDrawer 254 = .ok (.bipush 12, 2) := by decide +kernel
theorem dX10_readDrawer_256 : decode cX10_readDrawer 256 = .ok (.dup2, 1) := by decide +kernel
theorem dX10_readDrawer_257 : decode cX10_readDrawer 257 = .ok (.iaload, 1) := by decide +kernel
theorem dX10_readDrawer_258 : decode cX10_readDrawer 258 = .ok (.iconst 1, 1) := by decide +kernel
theorem dX10_readDrawer_259 : decode cX10_readDrawer 259 = .ok (.iadd, 1) := by decide +kernel
theorem dX10_readDrawer_260 : decode cX10_readDrawer 260 = .ok (.iastore, 1) := by decide +kernel
theorem dX10_readDrawer_261 : decode cX10_readDrawer 261 = .ok (.return_, 1) := by decide +kernel
theorem sX10_readDrawer_0 {a0 a1 a2 : Value} (hv : am_rf a0 = true) (h : am_R E d mX10_readDrawer k n 1 [a0, a1, a2] (a0 :: st) S iv Q) : am_R E d mX10_readDrawer k n 0 [a0, a1, a2] st S iv Q := am_aload_n dX10_readDrawer_0 rfl rfl hv h
theorem sX10_readDrawer_1 {ls : List Value} {a b : Nat} (ha : S.1 a = some (.inl 10)) (hb : S.2.1 a 4 = some b) (h : am_R E d mX10_readDrawer k n 4 ls (.ref b :: st) S iv Q) : am_R E d mX10_readDrawer k n 1 ls (.ref a :: st) S iv Q := am_getR (ci := 10) dX10_readDrawer_1 rfl rfl (by decide) wq_772 uq_10 rfl ha hb h
theorem sX10_readDrawer_4 {a0 a1 a2 : Value} (h : am_R E d mX10_readDrawer k n 6 [a0, a1, a2] (.int 12 :: st) S iv Q) : am_R E d mX10_readDrawer k n 4 [a0, a1, a2] st S iv Q := am_bipush dX10_readDrawer_4 (by decide) h
theorem sX10_readDrawer_6 {ls : List Value} {a m : Nat} {i : Int32} (ha : S.1 a = some (.inr (.int, m))) (hi : vp_in i m) (h : am_R E d mX10_readDrawer k n 7 ls (.int (iv a i.toNatClampNeg) :: st) S iv Q) : am_R E d mX10_readDrawer k n 6 ls (.int i :: .ref a :: st) S iv Q := am_iaload dX10_readDrawer_6 ha hi h
theorem sX10_readDrawer_7 {a0 a1 a2 : Value} (h : am_R E d mX10_readDrawer k n 9 [a0, a1, a2] (.int 10 :: st) S iv Q) : am_R E d mX10_readDrawer k n 7 [a0, a1, a2] st S iv Q := am_bipush dX10_readDrawer_7 (by decide) h
theorem sX10_readDrawer_9 {ls : List Value} {x y : Int32} (kt : ¬ x = y → am_R E d mX10_readDrawer k n 17 ls st S iv Q) (kf : x = y → am_R E d mX10_readDrawer k n 12 ls st S iv Q) : am_R E d mX10_readDrawer k n 9 ls (.int y :: .int x :: st) S iv Q := am_icmp_ne dX10_readDrawer_9 (by decide) kt kf
theorem sX10_readDrawer_12 {a0 a1 a2 : Value} (hv : am_rf a0 = true) (h : am_R E d mX10_readDrawer k n 13 [a0, a1, a2] (a0 :: st) S iv Q) : am_R E d mX10_readDrawer k n 12 [a0, a1, a2] st S iv Q := am_aload_n dX10_readDrawer_12 rfl rfl hv h
theorem sX10_readDrawer_13 {a0 a1 a2 : Value} (h : am_R E d mX10_readDrawer k n 14 [a0, a1, a2] (.int 2 :: st) S iv Q) : am_R E d mX10_readDrawer k n 13 [a0, a1, a2] st S iv Q := am_iconst dX10_readDrawer_13 (by decide) h
theorem sX10_readDrawer_14 {ls : List Value} {x1 : Value} {a : Nat} (ha : S.1 a = some (.inl 10)) (hst : (st.map fun v => v.category).sum ≤ 8) (hM : am_M E d mX10_wrong 0 0 [.ref a, x1] S iv (am_K3 E (d + 1) mX10_readDrawer k n 14 ls st Q)) : am_R E (d + 1) mX10_readDrawer k n 14 ls (x1 :: .ref a :: st) S iv Q := am_cV (ci := 10) (M' := mX10_wrong) (as := [x1]) dX10_readDrawer_14 rfl rfl rfl wq_859 wq_860 wq_861 wq_808 wq_857 hy_X10_wrong (by decide) ha hst (by omega) (by omega) hM
theorem sX10_readDrawer_14_k {ls : List Value} {x1 : Value} {k' n' : Nat} {a : Nat} (ha : S.1 a = some (.inl 10)) (hst : (st.map fun v => v.category).sum ≤ 8) (hM : am_M E d mX10_wrong k' n' [.ref a, x1] S iv (am_K3 E (d + 1) mX10_readDrawer k n 14 ls st Q)) : am_R E (d + 1) mX10_readDrawer (k' + k) (n' + n) 14 ls (x1 :: .ref a :: st) S iv Q := am_cV (ci := 10) (M' := mX10_wrong) (as := [x1]) dX10_readDrawer_14 rfl rfl rfl wq_859 wq_860 wq_861 wq_808 wq_857 hy_X10_wrong (by decide) ha hst (by omega) (by omega) hM
theorem sX10_readDrawer_17 {a0 a1 a2 : Value} (hv : am_rf a0 = true) (h : am_R E d mX10_readDrawer k n 18 [a0, a1, a2] (a0 :: st) S iv Q) : am_R E d mX10_readDrawer k n 17 [a0, a1, a2] st S iv Q := am_aload_n dX10_readDrawer_17 rfl rfl hv h
theorem sX10_readDrawer_18 {ls : List Value} {a : Nat} (ha : S.1 a = some (.inl 10)) (h : am_R E d mX10_readDrawer k n 21 ls (.int (iv a 25) :: st) S iv Q) : am_R E d mX10_readDrawer k n 18 ls (.ref a :: st) S iv Q := am_getI (ci := 10) dX10_readDrawer_18 rfl rfl (by decide) wq_838 uq_10 rfl ha h
theorem sX10_readDrawer_21 {ls : List Value} {x : Int32} (kt : x = 0 → am_R E d mX10_readDrawer k n 25 ls st S iv Q) (kf : ¬ x = 0 → am_R E d mX10_readDrawer k n 24 ls st S iv Q) : am_R E d mX10_readDrawer k n 21 ls (.int x :: st) S iv Q := am_if_eq dX10_readDrawer_21 (by decide) kt kf
theorem sX10_readDrawer_24 {ls : List Value} (h : Q (.inl none) S iv) : am_R E d mX10_readDrawer k n 24 ls [] S iv Q := am_return dX10_readDrawer_24 rfl h
theorem sX10_readDrawer_25 {a0 a1 a2 : Value} (hv : am_rf a0 = true) (h : am_R E d mX10_readDrawer k n 26 [a0, a1, a2] (a0 :: st) S iv Q) : am_R E d mX10_readDrawer k n 25 [a0, a1, a2] st S iv Q := am_aload_n dX10_readDrawer_25 rfl rfl hv h
theorem sX10_readDrawer_26 {ls : List Value} {a : Nat} (ha : S.1 a = some (.inl 10)) (hst : (st.map fun v => v.category).sum ≤ 8) (hM : am_M E d mX10_stepOn 0 0 [.ref a] S iv (am_K3 E (d + 1) mX10_readDrawer k n 26 ls st Q)) : am_R E (d + 1) mX10_readDrawer k n 26 ls (.ref a :: st) S iv Q := am_cV (ci := 10) (M' := mX10_stepOn) (as := []) dX10_readDrawer_26 rfl rfl rfl wq_849 wq_850 wq_851 wq_808 wq_847 hy_X10_stepOn (by decide) ha hst (by omega) (by omega) hM
theorem sX10_readDrawer_26_k {ls : List Value} {k' n' : Nat} {a : Nat} (ha : S.1 a = some (.inl 10)) (hst : (st.map fun v => v.category).sum ≤ 8) (hM : am_M E d mX10_stepOn k' n' [.ref a] S iv (am_K3 E (d + 1) mX10_readDrawer k n 26 ls st Q)) : am_R E (d + 1) mX10_readDrawer (k' + k) (n' + n) 26 ls (.ref a :: st) S iv Q := am_cV (ci := 10) (M' := mX10_stepOn) (as := []) dX10_readDrawer_26 rfl rfl rfl wq_849 wq_850 wq_851 wq_808 wq_847 hy_X10_stepOn (by decide) ha hst (by omega) (by omega) hM
theorem sX10_readDrawer_29 {a0 a1 a2 : Value} (h : am_R E d mX10_readDrawer k n 31 [a0, a1, a2] (.int 10 :: st) S iv Q) : am_R E d mX10_readDrawer k n 29 [a0, a1, a2] st S iv Q := am_bipush dX10_readDrawer_29 (by decide) h
theorem sX10_readDrawer_31 {a0 a1 a2 : Value} (hv : am_rf a0 = true) (h : am_R E d mX10_readDrawer k n 32 [a0, a1, a2] (a0 :: st) S iv Q) : am_R E d mX10_readDrawer k n 31 [a0, a1, a2] st S iv Q := am_aload_n dX10_readDrawer_31 rfl rfl hv h
theorem sX10_readDrawer_32 {ls : List Value} {a b : Nat} (ha : S.1 a = some (.inl 10)) (hb : S.2.1 a 4 = some b) (h : am_R E d mX10_readDrawer k n 35 ls (.ref b :: st) S iv Q) : am_R E d mX10_readDrawer k n 32 ls (.ref a :: st) S iv Q := am_getR (ci := 10) dX10_readDrawer_32 rfl rfl (by decide) wq_772 uq_10 rfl ha hb h
theorem sX10_readDrawer_35 {a0 a1 a2 : Value} (h : am_R E d mX10_readDrawer k n 37 [a0, a1, a2] (.int 12 :: st) S iv Q) : am_R E d mX10_readDrawer k n 35 [a0, a1, a2] st S iv Q := am_bipush dX10_readDrawer_35 (by decide) h
theorem sX10_readDrawer_37 {ls : List Value} {a m : Nat} {i : Int32} (ha : S.1 a = some (.inr (.int, m))) (hi : vp_in i m) (h : am_R E d mX10_readDrawer k n 38 ls (.int (iv a i.toNatClampNeg) :: st) S iv Q) : am_R E d mX10_readDrawer k n 37 ls (.int i :: .ref a :: st) S iv Q := am_iaload dX10_readDrawer_37 ha hi h
theorem sX10_readDrawer_38 {ls : List Value} {x y : Int32} (h : am_R E d mX10_readDrawer k n 39 ls (.int (x + y) :: st) S iv Q) : am_R E d mX10_readDrawer k n 38 ls (.int y :: .int x :: st) S iv Q := am_iadd dX10_readDrawer_38 h
theorem sX10_readDrawer_39 {a0 a1 a2 : Value} {x : Int32} (h : am_R E d mX10_readDrawer k n 40 [a0, a1, .int x] st S iv Q) : am_R E d mX10_readDrawer k n 39 [a0, a1, a2] (.int x :: st) S iv Q := am_istore_n dX10_readDrawer_39 rfl (by decide) h
theorem sX10_readDrawer_40 {a0 a1 a2 : Value} (hv : am_rf a0 = true) (h : am_R E d mX10_readDrawer k n 41 [a0, a1, a2] (a0 :: st) S iv Q) : am_R E d mX10_readDrawer k n 40 [a0, a1, a2] st S iv Q := am_aload_n dX10_readDrawer_40 rfl rfl hv h
theorem sX10_readDrawer_41 {ls : List Value} {a b : Nat} (ha : S.1 a = some (.inl 10)) (hb : S.2.1 a 5 = some b) (h : am_R E d mX10_readDrawer k n 44 ls (.ref b :: st) S iv Q) : am_R E d mX10_readDrawer k n 41 ls (.ref a :: st) S iv Q := am_getR (ci := 10) dX10_readDrawer_41 rfl rfl (by decide) wq_773 uq_10 rfl ha hb h
theorem sX10_readDrawer_44 {a0 a1 : Value} {x : Int32} (h : am_R E d mX10_readDrawer k n 45 [a0, a1, .int x] (.int x :: st) S iv Q) : am_R E d mX10_readDrawer k n 44 [a0, a1, .int x] st S iv Q := am_iload_n dX10_readDrawer_44 rfl rfl h
theorem sX10_readDrawer_45 {a0 a2 : Value} {x : Int32} (h : am_R E d mX10_readDrawer k n 46 [a0, .int x, a2] (.int x :: st) S iv Q) : am_R E d mX10_readDrawer k n 45 [a0, .int x, a2] st S iv Q := am_iload_n dX10_readDrawer_45 rfl rfl h
theorem sX10_readDrawer_46 {ls : List Value} {a m : Nat} {i x : Int32} (ha : S.1 a = some (.inr (.int, m))) (hi : vp_in i m) (h : am_R E d mX10_readDrawer k n 47 ls st S (am_w iv a i.toNatClampNeg x) Q) : am_R E d mX10_readDrawer k n 46 ls (.int x :: .int i :: .ref a :: st) S iv Q := am_iastore dX10_readDrawer_46 ha hi h
theorem sX10_readDrawer_47 {a0 a1 a2 : Value} (hv : am_rf a0 = true) (h : am_R E d mX10_readDrawer k n 48 [a0, a1, a2] (a0 :: st) S iv Q) : am_R E d mX10_readDrawer k n 47 [a0, a1, a2] st S iv Q := am_aload_n dX10_readDrawer_47 rfl rfl hv h
theorem sX10_readDrawer_48 {ls : List Value} {a b : Nat} (ha : S.1 a = some (.inl 10)) (hb : S.2.1 a 6 = some b) (h : am_R E d mX10_readDrawer k n 51 ls (.ref b :: st) S iv Q) : am_R E d mX10_readDrawer k n 48 ls (.ref a :: st) S iv Q := am_getR (ci := 10) dX10_readDrawer_48 rfl rfl (by decide) wq_774 uq_10 rfl ha hb h
theorem sX10_readDrawer_51 {a0 a1 : Value} {x : Int32} (h : am_R E d mX10_readDrawer k n 52 [a0, a1, .int x] (.int x :: st) S iv Q) : am_R E d mX10_readDrawer k n 51 [a0, a1, .int x] st S iv Q := am_iload_n dX10_readDrawer_51 rfl rfl h
theorem sX10_readDrawer_52 {a0 a1 a2 : Value} (hv : am_rf a0 = true) (h : am_R E d mX10_readDrawer k n 53 [a0, a1, a2] (a0 :: st) S iv Q) : am_R E d mX10_readDrawer k n 52 [a0, a1, a2] st S iv Q := am_aload_n dX10_readDrawer_52 rfl rfl hv h
theorem sX10_readDrawer_53 {a0 a1 a2 : Value} (h : am_R E d mX10_readDrawer k n 54 [a0, a1, a2] (.int 0 :: st) S iv Q) : am_R E d mX10_readDrawer k n 53 [a0, a1, a2] st S iv Q := am_iconst dX10_readDrawer_53 (by decide) h
theorem sX10_readDrawer_54 {a0 a1 a2 : Value} (hv : am_rf a0 = true) (h : am_R E d mX10_readDrawer k n 55 [a0, a1, a2] (a0 :: st) S iv Q) : am_R E d mX10_readDrawer k n 54 [a0, a1, a2] st S iv Q := am_aload_n dX10_readDrawer_54 rfl rfl hv h
theorem sX10_readDrawer_55 {ls : List Value} {a b : Nat} (ha : S.1 a = some (.inl 10)) (hb : S.2.1 a 4 = some b) (h : am_R E d mX10_readDrawer k n 58 ls (.ref b :: st) S iv Q) : am_R E d mX10_readDrawer k n 55 ls (.ref a :: st) S iv Q := am_getR (ci := 10) dX10_readDrawer_55 rfl rfl (by decide) wq_772 uq_10 rfl ha hb h
theorem sX10_readDrawer_58 {a0 a1 a2 : Value} (h : am_R E d mX10_readDrawer k n 60 [a0, a1, a2] (.int 10 :: st) S iv Q) : am_R E d mX10_readDrawer k n 58 [a0, a1, a2] st S iv Q := am_bipush dX10_readDrawer_58 (by decide) h
theorem sX10_readDrawer_60 {ls : List Value} {a m : Nat} {i : Int32} (ha : S.1 a = some (.inr (.int, m))) (hi : vp_in i m) (h : am_R E d mX10_readDrawer k n 61 ls (.int (iv a i.toNatClampNeg) :: st) S iv Q) : am_R E d mX10_readDrawer k n 60 ls (.int i :: .ref a :: st) S iv Q := am_iaload dX10_readDrawer_60 ha hi h
theorem sX10_readDrawer_61 {a0 a1 a2 : Value} (h : am_R E d mX10_readDrawer k n 62 [a0, a1, a2] (.int 1 :: st) S iv Q) : am_R E d mX10_readDrawer k n 61 [a0, a1, a2] st S iv Q := am_iconst dX10_readDrawer_61 (by decide) h
theorem sX10_readDrawer_62 {ls : List Value} {x y : Int32} (h : am_R E d mX10_readDrawer k n 63 ls (.int (x - y) :: st) S iv Q) : am_R E d mX10_readDrawer k n 62 ls (.int y :: .int x :: st) S iv Q := am_isub dX10_readDrawer_62 h
theorem sX10_readDrawer_63 {ls : List Value} {x1 x2 : Value} {a : Nat} (ha : S.1 a = some (.inl 10)) (hst : (st.map fun v => v.category).sum ≤ 8) (hM : am_M E d mX10_readNumber 0 0 [.ref a, x1, x2] S iv (am_K3 E (d + 1) mX10_readDrawer k n 63 ls st Q)) : am_R E (d + 1) mX10_readDrawer k n 63 ls (x2 :: x1 :: .ref a :: st) S iv Q := am_cV (ci := 10) (M' := mX10_readNumber) (as := [x1, x2]) dX10_readDrawer_63 rfl rfl rfl wq_870 wq_871 wq_872 wq_808 wq_868 hy_X10_readNumber (by decide) ha hst (by omega) (by omega) hM
theorem sX10_readDrawer_63_k {ls : List Value} {x1 x2 : Value} {k' n' : Nat} {a : Nat} (ha : S.1 a = some (.inl 10)) (hst : (st.map fun v => v.category).sum ≤ 8) (hM : am_M E d mX10_readNumber k' n' [.ref a, x1, x2] S iv (am_K3 E (d + 1) mX10_readDrawer k n 63 ls st Q)) : am_R E (d + 1) mX10_readDrawer (k' + k) (n' + n) 63 ls (x2 :: x1 :: .ref a :: st) S iv Q := am_cV (ci := 10) (M' := mX10_readNumber) (as := [x1, x2]) dX10_readDrawer_63 rfl rfl rfl wq_870 wq_871 wq_872 wq_808 wq_868 hy_X10_readNumber (by decide) ha hst (by omega) (by omega) hM
theorem sX10_readDrawer_66 {ls : List Value} {a m : Nat} {i x : Int32} (ha : S.1 a = some (.inr (.int, m))) (hi : vp_in i m) (h : am_R E d mX10_readDrawer k n 67 ls st S (am_w iv a i.toNatClampNeg x) Q) : am_R E d mX10_readDrawer k n 66 ls (.int x :: .int i :: .ref a :: st) S iv Q := am_iastore dX10_readDrawer_66 ha hi h
theorem sX10_readDrawer_67 {a0 a1 a2 : Value} (hv : am_rf a0 = true) (h : am_R E d mX10_readDrawer k n 68 [a0, a1, a2] (a0 :: st) S iv Q) : am_R E d mX10_readDrawer k n 67 [a0, a1, a2] st S iv Q := am_aload_n dX10_readDrawer_67 rfl rfl hv h
theorem sX10_readDrawer_68 {ls : List Value} {a b : Nat} (ha : S.1 a = some (.inl 10)) (hb : S.2.1 a 7 = some b) (h : am_R E d mX10_readDrawer k n 71 ls (.ref b :: st) S iv Q) : am_R E d mX10_readDrawer k n 68 ls (.ref a :: st) S iv Q := am_getR (ci := 10) dX10_readDrawer_68 rfl rfl (by decide) wq_775 uq_10 rfl ha hb h
theorem sX10_readDrawer_71 {a0 a1 : Value} {x : Int32} (h : am_R E d mX10_readDrawer k n 72 [a0, a1, .int x] (.int x :: st) S iv Q) : am_R E d mX10_readDrawer k n 71 [a0, a1, .int x] st S iv Q := am_iload_n dX10_readDrawer_71 rfl rfl h
theorem sX10_readDrawer_72 {a0 a1 a2 : Value} (hv : am_rf a0 = true) (h : am_R E d mX10_readDrawer k n 73 [a0, a1, a2] (a0 :: st) S iv Q) : am_R E d mX10_readDrawer k n 72 [a0, a1, a2] st S iv Q := am_aload_n dX10_readDrawer_72 rfl rfl hv h
theorem sX10_readDrawer_73 {a0 a1 a2 : Value} (h : am_R E d mX10_readDrawer k n 74 [a0, a1, a2] (.int 0 :: st) S iv Q) : am_R E d mX10_readDrawer k n 73 [a0, a1, a2] st S iv Q := am_iconst dX10_readDrawer_73 (by decide) h
theorem sX10_readDrawer_74 {a0 a1 a2 : Value} (hv : am_rf a0 = true) (h : am_R E d mX10_readDrawer k n 75 [a0, a1, a2] (a0 :: st) S iv Q) : am_R E d mX10_readDrawer k n 74 [a0, a1, a2] st S iv Q := am_aload_n dX10_readDrawer_74 rfl rfl hv h
theorem sX10_readDrawer_75 {ls : List Value} {a b : Nat} (ha : S.1 a = some (.inl 10)) (hb : S.2.1 a 4 = some b) (h : am_R E d mX10_readDrawer k n 78 ls (.ref b :: st) S iv Q) : am_R E d mX10_readDrawer k n 75 ls (.ref a :: st) S iv Q := am_getR (ci := 10) dX10_readDrawer_75 rfl rfl (by decide) wq_772 uq_10 rfl ha hb h
theorem sX10_readDrawer_78 {a0 a1 a2 : Value} (h : am_R E d mX10_readDrawer k n 80 [a0, a1, a2] (.int 11 :: st) S iv Q) : am_R E d mX10_readDrawer k n 78 [a0, a1, a2] st S iv Q := am_bipush dX10_readDrawer_78 (by decide) h
theorem sX10_readDrawer_80 {ls : List Value} {a m : Nat} {i : Int32} (ha : S.1 a = some (.inr (.int, m))) (hi : vp_in i m) (h : am_R E d mX10_readDrawer k n 81 ls (.int (iv a i.toNatClampNeg) :: st) S iv Q) : am_R E d mX10_readDrawer k n 80 ls (.int i :: .ref a :: st) S iv Q := am_iaload dX10_readDrawer_80 ha hi h
theorem sX10_readDrawer_81 {a0 a1 a2 : Value} (h : am_R E d mX10_readDrawer k n 82 [a0, a1, a2] (.int 1 :: st) S iv Q) : am_R E d mX10_readDrawer k n 81 [a0, a1, a2] st S iv Q := am_iconst dX10_readDrawer_81 (by decide) h
theorem sX10_readDrawer_82 {ls : List Value} {x y : Int32} (h : am_R E d mX10_readDrawer k n 83 ls (.int (x - y) :: st) S iv Q) : am_R E d mX10_readDrawer k n 82 ls (.int y :: .int x :: st) S iv Q := am_isub dX10_readDrawer_82 h
theorem sX10_readDrawer_83 {ls : List Value} {x1 x2 : Value} {a : Nat} (ha : S.1 a = some (.inl 10)) (hst : (st.map fun v => v.category).sum ≤ 8) (hM : am_M E d mX10_numberNow 0 0 [.ref a, x1, x2] S iv (am_K3 E (d + 1) mX10_readDrawer k n 83 ls st Q)) : am_R E (d + 1) mX10_readDrawer k n 83 ls (x2 :: x1 :: .ref a :: st) S iv Q := am_cV (ci := 10) (M' := mX10_numberNow) (as := [x1, x2]) dX10_readDrawer_83 rfl rfl rfl wq_864 wq_865 wq_866 wq_808 wq_862 hy_X10_numberNow (by decide) ha hst (by omega) (by omega) hM
theorem sX10_readDrawer_83_k {ls : List Value} {x1 x2 : Value} {k' n' : Nat} {a : Nat} (ha : S.1 a = some (.inl 10)) (hst : (st.map fun v => v.category).sum ≤ 8) (hM : am_M E d mX10_numberNow k' n' [.ref a, x1, x2] S iv (am_K3 E (d + 1) mX10_readDrawer k n 83 ls st Q)) : am_R E (d + 1) mX10_readDrawer (k' + k) (n' + n) 83 ls (x2 :: x1 :: .ref a :: st) S iv Q := am_cV (ci := 10) (M' := mX10_numberNow) (as := [x1, x2]) dX10_readDrawer_83 rfl rfl rfl wq_864 wq_865 wq_866 wq_808 wq_862 hy_X10_numberNow (by decide) ha hst (by omega) (by omega) hM
theorem sX10_readDrawer_86 {ls : List Value} {a m : Nat} {i x : Int32} (ha : S.1 a = some (.inr (.int, m))) (hi : vp_in i m) (h : am_R E d mX10_readDrawer k n 87 ls st S (am_w iv a i.toNatClampNeg x) Q) : am_R E d mX10_readDrawer k n 86 ls (.int x :: .int i :: .ref a :: st) S iv Q := am_iastore dX10_readDrawer_86 ha hi h
theorem sX10_readDrawer_87 {a0 a1 a2 : Value} (hv : am_rf a0 = true) (h : am_R E d mX10_readDrawer k n 88 [a0, a1, a2] (a0 :: st) S iv Q) : am_R E d mX10_readDrawer k n 87 [a0, a1, a2] st S iv Q := am_aload_n dX10_readDrawer_87 rfl rfl hv h
theorem sX10_readDrawer_88 {ls : List Value} {a : Nat} (ha : S.1 a = some (.inl 10)) (h : am_R E d mX10_readDrawer k n 91 ls (.int (iv a 25) :: st) S iv Q) : am_R E d mX10_readDrawer k n 88 ls (.ref a :: st) S iv Q := am_getI (ci := 10) dX10_readDrawer_88 rfl rfl (by decide) wq_838 uq_10 rfl ha h
theorem sX10_readDrawer_91 {ls : List Value} {x : Int32} (kt : ¬ x = 0 → am_R E d mX10_readDrawer k n 125 ls st S iv Q) (kf : x = 0 → am_R E d mX10_readDrawer k n 94 ls st S iv Q) : am_R E d mX10_readDrawer k n 91 ls (.int x :: st) S iv Q := am_if_ne dX10_readDrawer_91 (by decide) kt kf
theorem sX10_readDrawer_94 {a0 a1 a2 : Value} (hv : am_rf a0 = true) (h : am_R E d mX10_readDrawer k n 95 [a0, a1, a2] (a0 :: st) S iv Q) : am_R E d mX10_readDrawer k n 94 [a0, a1, a2] st S iv Q := am_aload_n dX10_readDrawer_94 rfl rfl hv h
theorem sX10_readDrawer_95 {a0 a1 a2 : Value} (hv : am_rf a0 = true) (h : am_R E d mX10_readDrawer k n 96 [a0, a1, a2] (a0 :: st) S iv Q) : am_R E d mX10_readDrawer k n 95 [a0, a1, a2] st S iv Q := am_aload_n dX10_readDrawer_95 rfl rfl hv h
theorem sX10_readDrawer_96 {ls : List Value} {a b : Nat} (ha : S.1 a = some (.inl 10)) (hb : S.2.1 a 6 = some b) (h : am_R E d mX10_readDrawer k n 99 ls (.ref b :: st) S iv Q) : am_R E d mX10_readDrawer k n 96 ls (.ref a :: st) S iv Q := am_getR (ci := 10) dX10_readDrawer_96 rfl rfl (by decide) wq_774 uq_10 rfl ha hb h
theorem sX10_readDrawer_99 {a0 a1 : Value} {x : Int32} (h : am_R E d mX10_readDrawer k n 100 [a0, a1, .int x] (.int x :: st) S iv Q) : am_R E d mX10_readDrawer k n 99 [a0, a1, .int x] st S iv Q := am_iload_n dX10_readDrawer_99 rfl rfl h
theorem sX10_readDrawer_100 {ls : List Value} {a m : Nat} {i : Int32} (ha : S.1 a = some (.inr (.int, m))) (hi : vp_in i m) (h : am_R E d mX10_readDrawer k n 101 ls (.int (iv a i.toNatClampNeg) :: st) S iv Q) : am_R E d mX10_readDrawer k n 100 ls (.int i :: .ref a :: st) S iv Q := am_iaload dX10_readDrawer_100 ha hi h
theorem sX10_readDrawer_101 {a0 a1 a2 : Value} (hv : am_rf a0 = true) (h : am_R E d mX10_readDrawer k n 102 [a0, a1, a2] (a0 :: st) S iv Q) : am_R E d mX10_readDrawer k n 101 [a0, a1, a2] st S iv Q := am_aload_n dX10_readDrawer_101 rfl rfl hv h
theorem sX10_readDrawer_102 {ls : List Value} {a b : Nat} (ha : S.1 a = some (.inl 10)) (hb : S.2.1 a 7 = some b) (h : am_R E d mX10_readDrawer k n 105 ls (.ref b :: st) S iv Q) : am_R E d mX10_readDrawer k n 102 ls (.ref a :: st) S iv Q := am_getR (ci := 10) dX10_readDrawer_102 rfl rfl (by decide) wq_775 uq_10 rfl ha hb h
theorem sX10_readDrawer_105 {a0 a1 : Value} {x : Int32} (h : am_R E d mX10_readDrawer k n 106 [a0, a1, .int x] (.int x :: st) S iv Q) : am_R E d mX10_readDrawer k n 105 [a0, a1, .int x] st S iv Q := am_iload_n dX10_readDrawer_105 rfl rfl h
theorem sX10_readDrawer_106 {ls : List Value} {a m : Nat} {i : Int32} (ha : S.1 a = some (.inr (.int, m))) (hi : vp_in i m) (h : am_R E d mX10_readDrawer k n 107 ls (.int (iv a i.toNatClampNeg) :: st) S iv Q) : am_R E d mX10_readDrawer k n 106 ls (.int i :: .ref a :: st) S iv Q := am_iaload dX10_readDrawer_106 ha hi h
theorem sX10_readDrawer_107 {a0 a1 a2 : Value} (hv : am_rf a0 = true) (h : am_R E d mX10_readDrawer k n 108 [a0, a1, a2] (a0 :: st) S iv Q) : am_R E d mX10_readDrawer k n 107 [a0, a1, a2] st S iv Q := am_aload_n dX10_readDrawer_107 rfl rfl hv h
theorem sX10_readDrawer_108 {ls : List Value} {a b : Nat} (ha : S.1 a = some (.inl 10)) (hb : S.2.1 a 4 = some b) (h : am_R E d mX10_readDrawer k n 111 ls (.ref b :: st) S iv Q) : am_R E d mX10_readDrawer k n 108 ls (.ref a :: st) S iv Q := am_getR (ci := 10) dX10_readDrawer_108 rfl rfl (by decide) wq_772 uq_10 rfl ha hb h
theorem sX10_readDrawer_111 {a0 a1 a2 : Value} (h : am_R E d mX10_readDrawer k n 113 [a0, a1, a2] (.int 12 :: st) S iv Q) : am_R E d mX10_readDrawer k n 111 [a0, a1, a2] st S iv Q := am_bipush dX10_readDrawer_111 (by decide) h
theorem sX10_readDrawer_113 {ls : List Value} {a m : Nat} {i : Int32} (ha : S.1 a = some (.inr (.int, m))) (hi : vp_in i m) (h : am_R E d mX10_readDrawer k n 114 ls (.int (iv a i.toNatClampNeg) :: st) S iv Q) : am_R E d mX10_readDrawer k n 113 ls (.int i :: .ref a :: st) S iv Q := am_iaload dX10_readDrawer_113 ha hi h
theorem sX10_readDrawer_114 {ls : List Value} {x1 x2 x3 : Value} {a : Nat} (ha : S.1 a = some (.inl 10)) (hst : (st.map fun v => v.category).sum ≤ 8) (hM : am_M E d mX10_isTaken 0 0 [.ref a, x1, x2, x3] S iv (am_K3 E (d + 1) mX10_readDrawer k n 114 ls st Q)) : am_R E (d + 1) mX10_readDrawer k n 114 ls (x3 :: x2 :: x1 :: .ref a :: st) S iv Q := am_cV (ci := 10) (M' := mX10_isTaken) (as := [x1, x2, x3]) dX10_readDrawer_114 rfl rfl rfl wq_920 wq_921 wq_922 wq_808 wq_918 hy_X10_isTaken (by decide) ha hst (by omega) (by omega) hM
theorem sX10_readDrawer_114_k {ls : List Value} {x1 x2 x3 : Value} {k' n' : Nat} {a : Nat} (ha : S.1 a = some (.inl 10)) (hst : (st.map fun v => v.category).sum ≤ 8) (hM : am_M E d mX10_isTaken k' n' [.ref a, x1, x2, x3] S iv (am_K3 E (d + 1) mX10_readDrawer k n 114 ls st Q)) : am_R E (d + 1) mX10_readDrawer (k' + k) (n' + n) 114 ls (x3 :: x2 :: x1 :: .ref a :: st) S iv Q := am_cV (ci := 10) (M' := mX10_isTaken) (as := [x1, x2, x3]) dX10_readDrawer_114 rfl rfl rfl wq_920 wq_921 wq_922 wq_808 wq_918 hy_X10_isTaken (by decide) ha hst (by omega) (by omega) hM
theorem sX10_readDrawer_117 {ls : List Value} {x : Int32} (kt : x = 0 → am_R E d mX10_readDrawer k n 125 ls st S iv Q) (kf : ¬ x = 0 → am_R E d mX10_readDrawer k n 120 ls st S iv Q) : am_R E d mX10_readDrawer k n 117 ls (.int x :: st) S iv Q := am_if_eq dX10_readDrawer_117 (by decide) kt kf
theorem sX10_readDrawer_120 {a0 a1 a2 : Value} (hv : am_rf a0 = true) (h : am_R E d mX10_readDrawer k n 121 [a0, a1, a2] (a0 :: st) S iv Q) : am_R E d mX10_readDrawer k n 120 [a0, a1, a2] st S iv Q := am_aload_n dX10_readDrawer_120 rfl rfl hv h
theorem sX10_readDrawer_121 {a0 a1 a2 : Value} (h : am_R E d mX10_readDrawer k n 122 [a0, a1, a2] (.int 5 :: st) S iv Q) : am_R E d mX10_readDrawer k n 121 [a0, a1, a2] st S iv Q := am_iconst dX10_readDrawer_121 (by decide) h
theorem sX10_readDrawer_122 {ls : List Value} {x1 : Value} {a : Nat} (ha : S.1 a = some (.inl 10)) (hst : (st.map fun v => v.category).sum ≤ 8) (hM : am_M E d mX10_wrong 0 0 [.ref a, x1] S iv (am_K3 E (d + 1) mX10_readDrawer k n 122 ls st Q)) : am_R E (d + 1) mX10_readDrawer k n 122 ls (x1 :: .ref a :: st) S iv Q := am_cV (ci := 10) (M' := mX10_wrong) (as := [x1]) dX10_readDrawer_122 rfl rfl rfl wq_859 wq_860 wq_861 wq_808 wq_857 hy_X10_wrong (by decide) ha hst (by omega) (by omega) hM
theorem sX10_readDrawer_122_k {ls : List Value} {x1 : Value} {k' n' : Nat} {a : Nat} (ha : S.1 a = some (.inl 10)) (hst : (st.map fun v => v.category).sum ≤ 8) (hM : am_M E d mX10_wrong k' n' [.ref a, x1] S iv (am_K3 E (d + 1) mX10_readDrawer k n 122 ls st Q)) : am_R E (d + 1) mX10_readDrawer (k' + k) (n' + n) 122 ls (x1 :: .ref a :: st) S iv Q := am_cV (ci := 10) (M' := mX10_wrong) (as := [x1]) dX10_readDrawer_122 rfl rfl rfl wq_859 wq_860 wq_861 wq_808 wq_857 hy_X10_wrong (by decide) ha hst (by omega) (by omega) hM
theorem sX10_readDrawer_125 {a0 a1 a2 : Value} (hv : am_rf a0 = true) (h : am_R E d mX10_readDrawer k n 126 [a0, a1, a2] (a0 :: st) S iv Q) : am_R E d mX10_readDrawer k n 125 [a0, a1, a2] st S iv Q := am_aload_n dX10_readDrawer_125 rfl rfl hv h
theorem sX10_readDrawer_126 {ls : List Value} {a : Nat} (ha : S.1 a = some (.inl 10)) (h : am_R E d mX10_readDrawer k n 129 ls (.int (iv a 25) :: st) S iv Q) : am_R E d mX10_readDrawer k n 126 ls (.ref a :: st) S iv Q := am_getI (ci := 10) dX10_readDrawer_126 rfl rfl (by decide) wq_838 uq_10 rfl ha h
theorem sX10_readDrawer_129 {ls : List Value} {x : Int32} (kt : ¬ x = 0 → am_R E d mX10_readDrawer k n 136 ls st S iv Q) (kf : x = 0 → am_R E d mX10_readDrawer k n 132 ls st S iv Q) : am_R E d mX10_readDrawer k n 129 ls (.int x :: st) S iv Q := am_if_ne dX10_readDrawer_129 (by decide) kt kf
theorem sX10_readDrawer_132 {a0 a1 a2 : Value} (hv : am_rf a0 = true) (h : am_R E d mX10_readDrawer k n 133 [a0, a1, a2] (a0 :: st) S iv Q) : am_R E d mX10_readDrawer k n 132 [a0, a1, a2] st S iv Q := am_aload_n dX10_readDrawer_132 rfl rfl hv h
theorem sX10_readDrawer_133 {ls : List Value} {a : Nat} (ha : S.1 a = some (.inl 10)) (hst : (st.map fun v => v.category).sum ≤ 8) (hM : am_M E d mX10_stepOn 0 0 [.ref a] S iv (am_K3 E (d + 1) mX10_readDrawer k n 133 ls st Q)) : am_R E (d + 1) mX10_readDrawer k n 133 ls (.ref a :: st) S iv Q := am_cV (ci := 10) (M' := mX10_stepOn) (as := []) dX10_readDrawer_133 rfl rfl rfl wq_849 wq_850 wq_851 wq_808 wq_847 hy_X10_stepOn (by decide) ha hst (by omega) (by omega) hM
theorem sX10_readDrawer_133_k {ls : List Value} {k' n' : Nat} {a : Nat} (ha : S.1 a = some (.inl 10)) (hst : (st.map fun v => v.category).sum ≤ 8) (hM : am_M E d mX10_stepOn k' n' [.ref a] S iv (am_K3 E (d + 1) mX10_readDrawer k n 133 ls st Q)) : am_R E (d + 1) mX10_readDrawer (k' + k) (n' + n) 133 ls (.ref a :: st) S iv Q := am_cV (ci := 10) (M' := mX10_stepOn) (as := []) dX10_readDrawer_133 rfl rfl rfl wq_849 wq_850 wq_851 wq_808 wq_847 hy_X10_stepOn (by decide) ha hst (by omega) (by omega) hM
theorem sX10_readDrawer_136 {a0 a1 a2 : Value} (hv : am_rf a0 = true) (h : am_R E d mX10_readDrawer k n 137 [a0, a1, a2] (a0 :: st) S iv Q) : am_R E d mX10_readDrawer k n 136 [a0, a1, a2] st S iv Q := am_aload_n dX10_readDrawer_136 rfl rfl hv h
theorem sX10_readDrawer_137 {ls : List Value} {a b : Nat} (ha : S.1 a = some (.inl 10)) (hb : S.2.1 a 8 = some b) (h : am_R E d mX10_readDrawer k n 140 ls (.ref b :: st) S iv Q) : am_R E d mX10_readDrawer k n 137 ls (.ref a :: st) S iv Q := am_getR (ci := 10) dX10_readDrawer_137 rfl rfl (by decide) wq_776 uq_10 rfl ha hb h
theorem sX10_readDrawer_140 {a0 a1 : Value} {x : Int32} (h : am_R E d mX10_readDrawer k n 141 [a0, a1, .int x] (.int x :: st) S iv Q) : am_R E d mX10_readDrawer k n 140 [a0, a1, .int x] st S iv Q := am_iload_n dX10_readDrawer_140 rfl rfl h
theorem sX10_readDrawer_141 {a0 a1 a2 : Value} (hv : am_rf a0 = true) (h : am_R E d mX10_readDrawer k n 142 [a0, a1, a2] (a0 :: st) S iv Q) : am_R E d mX10_readDrawer k n 141 [a0, a1, a2] st S iv Q := am_aload_n dX10_readDrawer_141 rfl rfl hv h
theorem sX10_readDrawer_142 {a0 a1 a2 : Value} (h : am_R E d mX10_readDrawer k n 143 [a0, a1, a2] (.int 1 :: st) S iv Q) : am_R E d mX10_readDrawer k n 142 [a0, a1, a2] st S iv Q := am_iconst dX10_readDrawer_142 (by decide) h
theorem sX10_readDrawer_143 {a0 a1 a2 : Value} (h : am_R E d mX10_readDrawer k n 145 [a0, a1, a2] (.int 9 :: st) S iv Q) : am_R E d mX10_readDrawer k n 143 [a0, a1, a2] st S iv Q := am_bipush dX10_readDrawer_143 (by decide) h
theorem sX10_readDrawer_145 {ls : List Value} {x1 x2 : Value} {a : Nat} (ha : S.1 a = some (.inl 10)) (hst : (st.map fun v => v.category).sum ≤ 8) (hM : am_M E d mX10_readNumber 0 0 [.ref a, x1, x2] S iv (am_K3 E (d + 1) mX10_readDrawer k n 145 ls st Q)) : am_R E (d + 1) mX10_readDrawer k n 145 ls (x2 :: x1 :: .ref a :: st) S iv Q := am_cV (ci := 10) (M' := mX10_readNumber) (as := [x1, x2]) dX10_readDrawer_145 rfl rfl rfl wq_870 wq_871 wq_872 wq_808 wq_868 hy_X10_readNumber (by decide) ha hst (by omega) (by omega) hM
theorem sX10_readDrawer_145_k {ls : List Value} {x1 x2 : Value} {k' n' : Nat} {a : Nat} (ha : S.1 a = some (.inl 10)) (hst : (st.map fun v => v.category).sum ≤ 8) (hM : am_M E d mX10_readNumber k' n' [.ref a, x1, x2] S iv (am_K3 E (d + 1) mX10_readDrawer k n 145 ls st Q)) : am_R E (d + 1) mX10_readDrawer (k' + k) (n' + n) 145 ls (x2 :: x1 :: .ref a :: st) S iv Q := am_cV (ci := 10) (M' := mX10_readNumber) (as := [x1, x2]) dX10_readDrawer_145 rfl rfl rfl wq_870 wq_871 wq_872 wq_808 wq_868 hy_X10_readNumber (by decide) ha hst (by omega) (by omega) hM
theorem sX10_readDrawer_148 {ls : List Value} {a m : Nat} {i x : Int32} (ha : S.1 a = some (.inr (.int, m))) (hi : vp_in i m) (h : am_R E d mX10_readDrawer k n 149 ls st S (am_w iv a i.toNatClampNeg x) Q) : am_R E d mX10_readDrawer k n 148 ls (.int x :: .int i :: .ref a :: st) S iv Q := am_iastore dX10_readDrawer_148 ha hi h
theorem sX10_readDrawer_149 {a0 a1 a2 : Value} (hv : am_rf a0 = true) (h : am_R E d mX10_readDrawer k n 150 [a0, a1, a2] (a0 :: st) S iv Q) : am_R E d mX10_readDrawer k n 149 [a0, a1, a2] st S iv Q := am_aload_n dX10_readDrawer_149 rfl rfl hv h
theorem sX10_readDrawer_150 {ls : List Value} {a b : Nat} (ha : S.1 a = some (.inl 10)) (hb : S.2.1 a 9 = some b) (h : am_R E d mX10_readDrawer k n 153 ls (.ref b :: st) S iv Q) : am_R E d mX10_readDrawer k n 150 ls (.ref a :: st) S iv Q := am_getR (ci := 10) dX10_readDrawer_150 rfl rfl (by decide) wq_777 uq_10 rfl ha hb h
theorem sX10_readDrawer_153 {a0 a1 : Value} {x : Int32} (h : am_R E d mX10_readDrawer k n 154 [a0, a1, .int x] (.int x :: st) S iv Q) : am_R E d mX10_readDrawer k n 153 [a0, a1, .int x] st S iv Q := am_iload_n dX10_readDrawer_153 rfl rfl h
theorem sX10_readDrawer_154 {a0 a1 a2 : Value} (hv : am_rf a0 = true) (h : am_R E d mX10_readDrawer k n 155 [a0, a1, a2] (a0 :: st) S iv Q) : am_R E d mX10_readDrawer k n 154 [a0, a1, a2] st S iv Q := am_aload_n dX10_readDrawer_154 rfl rfl hv h
theorem sX10_readDrawer_155 {a0 a1 a2 : Value} (h : am_R E d mX10_readDrawer k n 158 [a0, a1, a2] (.retAddr 50 :: st) S iv Q) : am_R E d mX10_readDrawer k n 155 [a0, a1, a2] st S iv Q := am_ldcSw (tx := "wide") dX10_readDrawer_155 (List.mem_of_getElem? (i := 50) rfl) h
theorem sX10_readDrawer_158 {ls : List Value} {x1 : Value} {a : Nat} (ha : S.1 a = some (.inl 10)) (hst : (st.map fun v => v.category).sum ≤ 8) (hM : am_M E d mX10_is 0 0 [.ref a, x1] S iv (am_K3 E (d + 1) mX10_readDrawer k n 158 ls st Q)) : am_R E (d + 1) mX10_readDrawer k n 158 ls (x1 :: .ref a :: st) S iv Q := am_cV (ci := 10) (M' := mX10_is) (as := [x1]) dX10_readDrawer_158 rfl rfl rfl wq_844 wq_845 wq_846 wq_808 wq_842 hy_X10_is (by decide) ha hst (by omega) (by omega) hM
theorem sX10_readDrawer_158_k {ls : List Value} {x1 : Value} {k' n' : Nat} {a : Nat} (ha : S.1 a = some (.inl 10)) (hst : (st.map fun v => v.category).sum ≤ 8) (hM : am_M E d mX10_is k' n' [.ref a, x1] S iv (am_K3 E (d + 1) mX10_readDrawer k n 158 ls st Q)) : am_R E (d + 1) mX10_readDrawer (k' + k) (n' + n) 158 ls (x1 :: .ref a :: st) S iv Q := am_cV (ci := 10) (M' := mX10_is) (as := [x1]) dX10_readDrawer_158 rfl rfl rfl wq_844 wq_845 wq_846 wq_808 wq_842 hy_X10_is (by decide) ha hst (by omega) (by omega) hM
theorem sX10_readDrawer_161 {ls : List Value} {x : Int32} (kt : x = 0 → am_R E d mX10_readDrawer k n 168 ls st S iv Q) (kf : ¬ x = 0 → am_R E d mX10_readDrawer k n 164 ls st S iv Q) : am_R E d mX10_readDrawer k n 161 ls (.int x :: st) S iv Q := am_if_eq dX10_readDrawer_161 (by decide) kt kf
theorem sX10_readDrawer_164 {a0 a1 a2 : Value} (h : am_R E d mX10_readDrawer k n 165 [a0, a1, a2] (.int 1 :: st) S iv Q) : am_R E d mX10_readDrawer k n 164 [a0, a1, a2] st S iv Q := am_iconst dX10_readDrawer_164 (by decide) h
theorem sX10_readDrawer_165 {ls : List Value} (h : am_R E d mX10_readDrawer k n 169 ls st S iv Q) : am_R E d mX10_readDrawer k n 165 ls st S iv Q := am_goto dX10_readDrawer_165 (by decide) h
theorem sX10_readDrawer_168 {a0 a1 a2 : Value} (h : am_R E d mX10_readDrawer k n 169 [a0, a1, a2] (.int 0 :: st) S iv Q) : am_R E d mX10_readDrawer k n 168 [a0, a1, a2] st S iv Q := am_iconst dX10_readDrawer_168 (by decide) h
theorem sX10_readDrawer_169 {ls : List Value} {a m : Nat} {i x : Int32} (ha : S.1 a = some (.inr (.int, m))) (hi : vp_in i m) (h : am_R E d mX10_readDrawer k n 170 ls st S (am_w iv a i.toNatClampNeg x) Q) : am_R E d mX10_readDrawer k n 169 ls (.int x :: .int i :: .ref a :: st) S iv Q := am_iastore dX10_readDrawer_169 ha hi h
theorem sX10_readDrawer_170 {a0 a1 a2 : Value} (hv : am_rf a0 = true) (h : am_R E d mX10_readDrawer k n 171 [a0, a1, a2] (a0 :: st) S iv Q) : am_R E d mX10_readDrawer k n 170 [a0, a1, a2] st S iv Q := am_aload_n dX10_readDrawer_170 rfl rfl hv h
theorem sX10_readDrawer_171 {ls : List Value} {a b : Nat} (ha : S.1 a = some (.inl 10)) (hb : S.2.1 a 9 = some b) (h : am_R E d mX10_readDrawer k n 174 ls (.ref b :: st) S iv Q) : am_R E d mX10_readDrawer k n 171 ls (.ref a :: st) S iv Q := am_getR (ci := 10) dX10_readDrawer_171 rfl rfl (by decide) wq_777 uq_10 rfl ha hb h
theorem sX10_readDrawer_174 {a0 a1 : Value} {x : Int32} (h : am_R E d mX10_readDrawer k n 175 [a0, a1, .int x] (.int x :: st) S iv Q) : am_R E d mX10_readDrawer k n 174 [a0, a1, .int x] st S iv Q := am_iload_n dX10_readDrawer_174 rfl rfl h
theorem sX10_readDrawer_175 {ls : List Value} {a m : Nat} {i : Int32} (ha : S.1 a = some (.inr (.int, m))) (hi : vp_in i m) (h : am_R E d mX10_readDrawer k n 176 ls (.int (iv a i.toNatClampNeg) :: st) S iv Q) : am_R E d mX10_readDrawer k n 175 ls (.int i :: .ref a :: st) S iv Q := am_iaload dX10_readDrawer_175 ha hi h
theorem sX10_readDrawer_176 {a0 a1 a2 : Value} (h : am_R E d mX10_readDrawer k n 177 [a0, a1, a2] (.int 1 :: st) S iv Q) : am_R E d mX10_readDrawer k n 176 [a0, a1, a2] st S iv Q := am_iconst dX10_readDrawer_176 (by decide) h
theorem sX10_readDrawer_177 {ls : List Value} {x y : Int32} (kt : ¬ x = y → am_R E d mX10_readDrawer k n 250 ls st S iv Q) (kf : x = y → am_R E d mX10_readDrawer k n 180 ls st S iv Q) : am_R E d mX10_readDrawer k n 177 ls (.int y :: .int x :: st) S iv Q := am_icmp_ne dX10_readDrawer_177 (by decide) kt kf
theorem sX10_readDrawer_180 {a0 a1 a2 : Value} (hv : am_rf a0 = true) (h : am_R E d mX10_readDrawer k n 181 [a0, a1, a2] (a0 :: st) S iv Q) : am_R E d mX10_readDrawer k n 180 [a0, a1, a2] st S iv Q := am_aload_n dX10_readDrawer_180 rfl rfl hv h
theorem sX10_readDrawer_181 {ls : List Value} {a b : Nat} (ha : S.1 a = some (.inl 10)) (hb : S.2.1 a 6 = some b) (h : am_R E d mX10_readDrawer k n 184 ls (.ref b :: st) S iv Q) : am_R E d mX10_readDrawer k n 181 ls (.ref a :: st) S iv Q := am_getR (ci := 10) dX10_readDrawer_181 rfl rfl (by decide) wq_774 uq_10 rfl ha hb h
theorem sX10_readDrawer_184 {a0 a1 : Value} {x : Int32} (h : am_R E d mX10_readDrawer k n 185 [a0, a1, .int x] (.int x :: st) S iv Q) : am_R E d mX10_readDrawer k n 184 [a0, a1, .int x] st S iv Q := am_iload_n dX10_readDrawer_184 rfl rfl h
theorem sX10_readDrawer_185 {ls : List Value} {a m : Nat} {i : Int32} (ha : S.1 a = some (.inr (.int, m))) (hi : vp_in i m) (h : am_R E d mX10_readDrawer k n 186 ls (.int (iv a i.toNatClampNeg) :: st) S iv Q) : am_R E d mX10_readDrawer k n 185 ls (.int i :: .ref a :: st) S iv Q := am_iaload dX10_readDrawer_185 ha hi h
theorem sX10_readDrawer_186 {a0 a1 a2 : Value} (hv : am_rf a0 = true) (h : am_R E d mX10_readDrawer k n 187 [a0, a1, a2] (a0 :: st) S iv Q) : am_R E d mX10_readDrawer k n 186 [a0, a1, a2] st S iv Q := am_aload_n dX10_readDrawer_186 rfl rfl hv h
theorem sX10_readDrawer_187 {ls : List Value} {a b : Nat} (ha : S.1 a = some (.inl 10)) (hb : S.2.1 a 4 = some b) (h : am_R E d mX10_readDrawer k n 190 ls (.ref b :: st) S iv Q) : am_R E d mX10_readDrawer k n 187 ls (.ref a :: st) S iv Q := am_getR (ci := 10) dX10_readDrawer_187 rfl rfl (by decide) wq_772 uq_10 rfl ha hb h
theorem sX10_readDrawer_190 {a0 a1 a2 : Value} (h : am_R E d mX10_readDrawer k n 192 [a0, a1, a2] (.int 10 :: st) S iv Q) : am_R E d mX10_readDrawer k n 190 [a0, a1, a2] st S iv Q := am_bipush dX10_readDrawer_190 (by decide) h
theorem sX10_readDrawer_192 {ls : List Value} {a m : Nat} {i : Int32} (ha : S.1 a = some (.inr (.int, m))) (hi : vp_in i m) (h : am_R E d mX10_readDrawer k n 193 ls (.int (iv a i.toNatClampNeg) :: st) S iv Q) : am_R E d mX10_readDrawer k n 192 ls (.int i :: .ref a :: st) S iv Q := am_iaload dX10_readDrawer_192 ha hi h
theorem sX10_readDrawer_193 {a0 a1 a2 : Value} (h : am_R E d mX10_readDrawer k n 194 [a0, a1, a2] (.int 1 :: st) S iv Q) : am_R E d mX10_readDrawer k n 193 [a0, a1, a2] st S iv Q := am_iconst dX10_readDrawer_193 (by decide) h
theorem sX10_readDrawer_194 {ls : List Value} {x y : Int32} (h : am_R E d mX10_readDrawer k n 195 ls (.int (x - y) :: st) S iv Q) : am_R E d mX10_readDrawer k n 194 ls (.int y :: .int x :: st) S iv Q := am_isub dX10_readDrawer_194 h
theorem sX10_readDrawer_195 {ls : List Value} {x y : Int32} (kt : ¬ x = y → am_R E d mX10_readDrawer k n 206 ls st S iv Q) (kf : x = y → am_R E d mX10_readDrawer k n 198 ls st S iv Q) : am_R E d mX10_readDrawer k n 195 ls (.int y :: .int x :: st) S iv Q := am_icmp_ne dX10_readDrawer_195 (by decide) kt kf
theorem sX10_readDrawer_198 {a0 a1 a2 : Value} (hv : am_rf a0 = true) (h : am_R E d mX10_readDrawer k n 199 [a0, a1, a2] (a0 :: st) S iv Q) : am_R E d mX10_readDrawer k n 198 [a0, a1, a2] st S iv Q := am_aload_n dX10_readDrawer_198 rfl rfl hv h
theorem sX10_readDrawer_199 {a0 a1 a2 : Value} (h : am_R E d mX10_readDrawer k n 200 [a0, a1, a2] (.int 2 :: st) S iv Q) : am_R E d mX10_readDrawer k n 199 [a0, a1, a2] st S iv Q := am_iconst dX10_readDrawer_199 (by decide) h
theorem sX10_readDrawer_200 {ls : List Value} {x1 : Value} {a : Nat} (ha : S.1 a = some (.inl 10)) (hst : (st.map fun v => v.category).sum ≤ 8) (hM : am_M E d mX10_wrong 0 0 [.ref a, x1] S iv (am_K3 E (d + 1) mX10_readDrawer k n 200 ls st Q)) : am_R E (d + 1) mX10_readDrawer k n 200 ls (x1 :: .ref a :: st) S iv Q := am_cV (ci := 10) (M' := mX10_wrong) (as := [x1]) dX10_readDrawer_200 rfl rfl rfl wq_859 wq_860 wq_861 wq_808 wq_857 hy_X10_wrong (by decide) ha hst (by omega) (by omega) hM
theorem sX10_readDrawer_200_k {ls : List Value} {x1 : Value} {k' n' : Nat} {a : Nat} (ha : S.1 a = some (.inl 10)) (hst : (st.map fun v => v.category).sum ≤ 8) (hM : am_M E d mX10_wrong k' n' [.ref a, x1] S iv (am_K3 E (d + 1) mX10_readDrawer k n 200 ls st Q)) : am_R E (d + 1) mX10_readDrawer (k' + k) (n' + n) 200 ls (x1 :: .ref a :: st) S iv Q := am_cV (ci := 10) (M' := mX10_wrong) (as := [x1]) dX10_readDrawer_200 rfl rfl rfl wq_859 wq_860 wq_861 wq_808 wq_857 hy_X10_wrong (by decide) ha hst (by omega) (by omega) hM
theorem sX10_readDrawer_203 {ls : List Value} (h : am_R E d mX10_readDrawer k n 239 ls st S iv Q) : am_R E d mX10_readDrawer k n 203 ls st S iv Q := am_goto dX10_readDrawer_203 (by decide) h
theorem sX10_readDrawer_206 {a0 a1 a2 : Value} (hv : am_rf a0 = true) (h : am_R E d mX10_readDrawer k n 207 [a0, a1, a2] (a0 :: st) S iv Q) : am_R E d mX10_readDrawer k n 206 [a0, a1, a2] st S iv Q := am_aload_n dX10_readDrawer_206 rfl rfl hv h
theorem sX10_readDrawer_207 {a0 a1 a2 : Value} (hv : am_rf a0 = true) (h : am_R E d mX10_readDrawer k n 208 [a0, a1, a2] (a0 :: st) S iv Q) : am_R E d mX10_readDrawer k n 207 [a0, a1, a2] st S iv Q := am_aload_n dX10_readDrawer_207 rfl rfl hv h
theorem sX10_readDrawer_208 {ls : List Value} {a b : Nat} (ha : S.1 a = some (.inl 10)) (hb : S.2.1 a 6 = some b) (h : am_R E d mX10_readDrawer k n 211 ls (.ref b :: st) S iv Q) : am_R E d mX10_readDrawer k n 208 ls (.ref a :: st) S iv Q := am_getR (ci := 10) dX10_readDrawer_208 rfl rfl (by decide) wq_774 uq_10 rfl ha hb h
theorem sX10_readDrawer_211 {a0 a1 : Value} {x : Int32} (h : am_R E d mX10_readDrawer k n 212 [a0, a1, .int x] (.int x :: st) S iv Q) : am_R E d mX10_readDrawer k n 211 [a0, a1, .int x] st S iv Q := am_iload_n dX10_readDrawer_211 rfl rfl h
theorem sX10_readDrawer_212 {ls : List Value} {a m : Nat} {i : Int32} (ha : S.1 a = some (.inr (.int, m))) (hi : vp_in i m) (h : am_R E d mX10_readDrawer k n 213 ls (.int (iv a i.toNatClampNeg) :: st) S iv Q) : am_R E d mX10_readDrawer k n 212 ls (.int i :: .ref a :: st) S iv Q := am_iaload dX10_readDrawer_212 ha hi h
theorem sX10_readDrawer_213 {a0 a1 a2 : Value} (h : am_R E d mX10_readDrawer k n 214 [a0, a1, a2] (.int 1 :: st) S iv Q) : am_R E d mX10_readDrawer k n 213 [a0, a1, a2] st S iv Q := am_iconst dX10_readDrawer_213 (by decide) h
theorem sX10_readDrawer_214 {ls : List Value} {x y : Int32} (h : am_R E d mX10_readDrawer k n 215 ls (.int (x + y) :: st) S iv Q) : am_R E d mX10_readDrawer k n 214 ls (.int y :: .int x :: st) S iv Q := am_iadd dX10_readDrawer_214 h
theorem sX10_readDrawer_215 {a0 a1 a2 : Value} (hv : am_rf a0 = true) (h : am_R E d mX10_readDrawer k n 216 [a0, a1, a2] (a0 :: st) S iv Q) : am_R E d mX10_readDrawer k n 215 [a0, a1, a2] st S iv Q := am_aload_n dX10_readDrawer_215 rfl rfl hv h
theorem sX10_readDrawer_216 {ls : List Value} {a b : Nat} (ha : S.1 a = some (.inl 10)) (hb : S.2.1 a 7 = some b) (h : am_R E d mX10_readDrawer k n 219 ls (.ref b :: st) S iv Q) : am_R E d mX10_readDrawer k n 216 ls (.ref a :: st) S iv Q := am_getR (ci := 10) dX10_readDrawer_216 rfl rfl (by decide) wq_775 uq_10 rfl ha hb h
theorem sX10_readDrawer_219 {a0 a1 : Value} {x : Int32} (h : am_R E d mX10_readDrawer k n 220 [a0, a1, .int x] (.int x :: st) S iv Q) : am_R E d mX10_readDrawer k n 219 [a0, a1, .int x] st S iv Q := am_iload_n dX10_readDrawer_219 rfl rfl h
theorem sX10_readDrawer_220 {ls : List Value} {a m : Nat} {i : Int32} (ha : S.1 a = some (.inr (.int, m))) (hi : vp_in i m) (h : am_R E d mX10_readDrawer k n 221 ls (.int (iv a i.toNatClampNeg) :: st) S iv Q) : am_R E d mX10_readDrawer k n 220 ls (.int i :: .ref a :: st) S iv Q := am_iaload dX10_readDrawer_220 ha hi h
theorem sX10_readDrawer_221 {a0 a1 a2 : Value} (hv : am_rf a0 = true) (h : am_R E d mX10_readDrawer k n 222 [a0, a1, a2] (a0 :: st) S iv Q) : am_R E d mX10_readDrawer k n 221 [a0, a1, a2] st S iv Q := am_aload_n dX10_readDrawer_221 rfl rfl hv h
theorem sX10_readDrawer_222 {ls : List Value} {a b : Nat} (ha : S.1 a = some (.inl 10)) (hb : S.2.1 a 4 = some b) (h : am_R E d mX10_readDrawer k n 225 ls (.ref b :: st) S iv Q) : am_R E d mX10_readDrawer k n 222 ls (.ref a :: st) S iv Q := am_getR (ci := 10) dX10_readDrawer_222 rfl rfl (by decide) wq_772 uq_10 rfl ha hb h
theorem sX10_readDrawer_225 {a0 a1 a2 : Value} (h : am_R E d mX10_readDrawer k n 227 [a0, a1, a2] (.int 12 :: st) S iv Q) : am_R E d mX10_readDrawer k n 225 [a0, a1, a2] st S iv Q := am_bipush dX10_readDrawer_225 (by decide) h
theorem sX10_readDrawer_227 {ls : List Value} {a m : Nat} {i : Int32} (ha : S.1 a = some (.inr (.int, m))) (hi : vp_in i m) (h : am_R E d mX10_readDrawer k n 228 ls (.int (iv a i.toNatClampNeg) :: st) S iv Q) : am_R E d mX10_readDrawer k n 227 ls (.int i :: .ref a :: st) S iv Q := am_iaload dX10_readDrawer_227 ha hi h
theorem sX10_readDrawer_228 {ls : List Value} {x1 x2 x3 : Value} {a : Nat} (ha : S.1 a = some (.inl 10)) (hst : (st.map fun v => v.category).sum ≤ 8) (hM : am_M E d mX10_isTaken 0 0 [.ref a, x1, x2, x3] S iv (am_K3 E (d + 1) mX10_readDrawer k n 228 ls st Q)) : am_R E (d + 1) mX10_readDrawer k n 228 ls (x3 :: x2 :: x1 :: .ref a :: st) S iv Q := am_cV (ci := 10) (M' := mX10_isTaken) (as := [x1, x2, x3]) dX10_readDrawer_228 rfl rfl rfl wq_920 wq_921 wq_922 wq_808 wq_918 hy_X10_isTaken (by decide) ha hst (by omega) (by omega) hM
theorem sX10_readDrawer_228_k {ls : List Value} {x1 x2 x3 : Value} {k' n' : Nat} {a : Nat} (ha : S.1 a = some (.inl 10)) (hst : (st.map fun v => v.category).sum ≤ 8) (hM : am_M E d mX10_isTaken k' n' [.ref a, x1, x2, x3] S iv (am_K3 E (d + 1) mX10_readDrawer k n 228 ls st Q)) : am_R E (d + 1) mX10_readDrawer (k' + k) (n' + n) 228 ls (x3 :: x2 :: x1 :: .ref a :: st) S iv Q := am_cV (ci := 10) (M' := mX10_isTaken) (as := [x1, x2, x3]) dX10_readDrawer_228 rfl rfl rfl wq_920 wq_921 wq_922 wq_808 wq_918 hy_X10_isTaken (by decide) ha hst (by omega) (by omega) hM
theorem sX10_readDrawer_231 {ls : List Value} {x : Int32} (kt : x = 0 → am_R E d mX10_readDrawer k n 239 ls st S iv Q) (kf : ¬ x = 0 → am_R E d mX10_readDrawer k n 234 ls st S iv Q) : am_R E d mX10_readDrawer k n 231 ls (.int x :: st) S iv Q := am_if_eq dX10_readDrawer_231 (by decide) kt kf
theorem sX10_readDrawer_234 {a0 a1 a2 : Value} (hv : am_rf a0 = true) (h : am_R E d mX10_readDrawer k n 235 [a0, a1, a2] (a0 :: st) S iv Q) : am_R E d mX10_readDrawer k n 234 [a0, a1, a2] st S iv Q := am_aload_n dX10_readDrawer_234 rfl rfl hv h
theorem sX10_readDrawer_235 {a0 a1 a2 : Value} (h : am_R E d mX10_readDrawer k n 236 [a0, a1, a2] (.int 5 :: st) S iv Q) : am_R E d mX10_readDrawer k n 235 [a0, a1, a2] st S iv Q := am_iconst dX10_readDrawer_235 (by decide) h
theorem sX10_readDrawer_236 {ls : List Value} {x1 : Value} {a : Nat} (ha : S.1 a = some (.inl 10)) (hst : (st.map fun v => v.category).sum ≤ 8) (hM : am_M E d mX10_wrong 0 0 [.ref a, x1] S iv (am_K3 E (d + 1) mX10_readDrawer k n 236 ls st Q)) : am_R E (d + 1) mX10_readDrawer k n 236 ls (x1 :: .ref a :: st) S iv Q := am_cV (ci := 10) (M' := mX10_wrong) (as := [x1]) dX10_readDrawer_236 rfl rfl rfl wq_859 wq_860 wq_861 wq_808 wq_857 hy_X10_wrong (by decide) ha hst (by omega) (by omega) hM
theorem sX10_readDrawer_236_k {ls : List Value} {x1 : Value} {k' n' : Nat} {a : Nat} (ha : S.1 a = some (.inl 10)) (hst : (st.map fun v => v.category).sum ≤ 8) (hM : am_M E d mX10_wrong k' n' [.ref a, x1] S iv (am_K3 E (d + 1) mX10_readDrawer k n 236 ls st Q)) : am_R E (d + 1) mX10_readDrawer (k' + k) (n' + n) 236 ls (x1 :: .ref a :: st) S iv Q := am_cV (ci := 10) (M' := mX10_wrong) (as := [x1]) dX10_readDrawer_236 rfl rfl rfl wq_859 wq_860 wq_861 wq_808 wq_857 hy_X10_wrong (by decide) ha hst (by omega) (by omega) hM
theorem sX10_readDrawer_239 {a0 a1 a2 : Value} (hv : am_rf a0 = true) (h : am_R E d mX10_readDrawer k n 240 [a0, a1, a2] (a0 :: st) S iv Q) : am_R E d mX10_readDrawer k n 239 [a0, a1, a2] st S iv Q := am_aload_n dX10_readDrawer_239 rfl rfl hv h
theorem sX10_readDrawer_240 {ls : List Value} {a : Nat} (ha : S.1 a = some (.inl 10)) (h : am_R E d mX10_readDrawer k n 243 ls (.int (iv a 25) :: st) S iv Q) : am_R E d mX10_readDrawer k n 240 ls (.ref a :: st) S iv Q := am_getI (ci := 10) dX10_readDrawer_240 rfl rfl (by decide) wq_838 uq_10 rfl ha h
theorem sX10_readDrawer_243 {ls : List Value} {x : Int32} (kt : ¬ x = 0 → am_R E d mX10_readDrawer k n 250 ls st S iv Q) (kf : x = 0 → am_R E d mX10_readDrawer k n 246 ls st S iv Q) : am_R E d mX10_readDrawer k n 243 ls (.int x :: st) S iv Q := am_if_ne dX10_readDrawer_243 (by decide) kt kf
theorem sX10_readDrawer_246 {a0 a1 a2 : Value} (hv : am_rf a0 = true) (h : am_R E d mX10_readDrawer k n 247 [a0, a1, a2] (a0 :: st) S iv Q) : am_R E d mX10_readDrawer k n 246 [a0, a1, a2] st S iv Q := am_aload_n dX10_readDrawer_246 rfl rfl hv h
theorem sX10_readDrawer_247 {ls : List Value} {a : Nat} (ha : S.1 a = some (.inl 10)) (hst : (st.map fun v => v.category).sum ≤ 8) (hM : am_M E d mX10_stepOn 0 0 [.ref a] S iv (am_K3 E (d + 1) mX10_readDrawer k n 247 ls st Q)) : am_R E (d + 1) mX10_readDrawer k n 247 ls (.ref a :: st) S iv Q := am_cV (ci := 10) (M' := mX10_stepOn) (as := []) dX10_readDrawer_247 rfl rfl rfl wq_849 wq_850 wq_851 wq_808 wq_847 hy_X10_stepOn (by decide) ha hst (by omega) (by omega) hM
theorem sX10_readDrawer_247_k {ls : List Value} {k' n' : Nat} {a : Nat} (ha : S.1 a = some (.inl 10)) (hst : (st.map fun v => v.category).sum ≤ 8) (hM : am_M E d mX10_stepOn k' n' [.ref a] S iv (am_K3 E (d + 1) mX10_readDrawer k n 247 ls st Q)) : am_R E (d + 1) mX10_readDrawer (k' + k) (n' + n) 247 ls (.ref a :: st) S iv Q := am_cV (ci := 10) (M' := mX10_stepOn) (as := []) dX10_readDrawer_247 rfl rfl rfl wq_849 wq_850 wq_851 wq_808 wq_847 hy_X10_stepOn (by decide) ha hst (by omega) (by omega) hM
theorem sX10_readDrawer_250 {a0 a1 a2 : Value} (hv : am_rf a0 = true) (h : am_R E d mX10_readDrawer k n 251 [a0, a1, a2] (a0 :: st) S iv Q) : am_R E d mX10_readDrawer k n 250 [a0, a1, a2] st S iv Q := am_aload_n dX10_readDrawer_250 rfl rfl hv h
theorem sX10_readDrawer_251 {ls : List Value} {a b : Nat} (ha : S.1 a = some (.inl 10)) (hb : S.2.1 a 4 = some b) (h : am_R E d mX10_readDrawer k n 254 ls (.ref b :: st) S iv Q) : am_R E d mX10_readDrawer k n 251 ls (.ref a :: st) S iv Q := am_getR (ci := 10) dX10_readDrawer_251 rfl rfl (by decide) wq_772 uq_10 rfl ha hb h
theorem sX10_readDrawer_254 {a0 a1 a2 : Value} (h : am_R E d mX10_readDrawer k n 256 [a0, a1, a2] (.int 12 :: st) S iv Q) : am_R E d mX10_readDrawer k n 254 [a0, a1, a2] st S iv Q := am_bipush dX10_readDrawer_254 (by decide) h
theorem sX10_readDrawer_256 {ls : List Value} {x y : Value} (hv : x.category = 1) (hu : y.category = 1) (h : am_R E d mX10_readDrawer k n 257 ls (x :: y :: x :: y :: st) S iv Q) : am_R E d mX10_readDrawer k n 256 ls (x :: y :: st) S iv Q := am_dup2 dX10_readDrawer_256 hv hu h
theorem sX10_readDrawer_257 {ls : List Value} {a m : Nat} {i : Int32} (ha : S.1 a = some (.inr (.int, m))) (hi : vp_in i m) (h : am_R E d mX10_readDrawer k n 258 ls (.int (iv a i.toNatClampNeg) :: st) S iv Q) : am_R E d mX10_readDrawer k n 257 ls (.int i :: .ref a :: st) S iv Q := am_iaload dX10_readDrawer_257 ha hi h
theorem sX10_readDrawer_258 {a0 a1 a2 : Value} (h : am_R E d mX10_readDrawer k n 259 [a0, a1, a2] (.int 1 :: st) S iv Q) : am_R E d mX10_readDrawer k n 258 [a0, a1, a2] st S iv Q := am_iconst dX10_readDrawer_258 (by decide) h
theorem sX10_readDrawer_259 {ls : List Value} {x y : Int32} (h : am_R E d mX10_readDrawer k n 260 ls (.int (x + y) :: st) S iv Q) : am_R E d mX10_readDrawer k n 259 ls (.int y :: .int x :: st) S iv Q := am_iadd dX10_readDrawer_259 h
theorem sX10_readDrawer_260 {ls : List Value} {a m : Nat} {i x : Int32} (ha : S.1 a = some (.inr (.int, m))) (hi : vp_in i m) (h : am_R E d mX10_readDrawer k n 261 ls st S (am_w iv a i.toNatClampNeg x) Q) : am_R E d mX10_readDrawer k n 260 ls (.int x :: .int i :: .ref a :: st) S iv Q := am_iastore dX10_readDrawer_260 ha hi h
theorem sX10_readDrawer_261 {ls : List Value} (h : Q (.inl none) S iv) : am_R E d mX10_readDrawer k n 261 ls [] S iv Q := am_return dX10_readDrawer_261 rfl h
theorem dX10_readOne_0 : decode cX10_readOne 0 = .ok (.aload_n 0, 1) := by decide +kernel
theorem dX10_readOne_1 : decode cX10_readOne 1 = .ok (.iconst 0, 1) := by decide +kernel
theorem dX10_readOne_2 : decode cX10_readOne 2 = .ok (.sipush 9999, 3) := by decide +kernel
theorem dX10_readOne_5 : decode cX10_readOne 5 = .ok (.invokevirtual 219, 3) := by decide +kernel
theorem dX10_readOne_8 : decode cX10_readOne 8 = .ok (.istore_n 2, 1) := by decide +kernel
theorem dX10_readOne_9 : decode cX10_readOne 9 = .ok (.aload_n 0, 1) := by decide +kernel
theorem dX10_readOne_10 : decode cX10_readOne 10 = .ok (.getfield 192, 3) := by decide +kernel
theorem dX10_readOne_13 : decode cX10_readOne 13 = .ok (.ifCond .ne 22, 3) := by decide +kernel
theorem dX10_readOne_16 : decode cX10_readOne 16 = .ok (.iload_n 2, 1) := by decide +kernel
theorem dX10_readOne_17 : decode cX10_readOne 17 = .ok (.aload_n 0, 1) := by decide +kernel
theorem dX10_readOne_18 : decode cX10_readOne 18 = .ok (.getfield 49, 3) := by decide +kernel
theorem dX10_readOne_21 : decode cX10_readOne 21 = .ok (.bipush 12, 2) := by decide +kernel
theorem dX10_readOne_23 : decode cX10_readOne 23 = .ok (.iaload, 1) := by decide +kernel
theorem dX10_readOne_24 : decode cX10_readOne 24 = .ok (.if_icmp .lt 11, 3) := by decide +kernel
theorem dX10_readOne_27 : decode cX10_readOne 27 = .ok (.aload_n 0, 1) := by decide +kernel
theorem dX10_readOne_28 : decode cX10_readOne 28 = .ok (.iconst 3, 1) := by decide +kernel
theorem dX10_readOne_29 : decode cX10_readOne 29 = .ok (.invokevirtual 215, 3) := by decide +kernel
theorem dX10_readOne_32 : decode cX10_readOne 32 = .ok (.goto 28, 3) := by decide +kernel
theorem dX10_readOne_35 : decode cX10_readOne 35 = .ok (.aload_n 0, 1) := by decide +kernel
theorem dX10_readOne_36 : decode cX10_readOne 36 = .ok (.getfield 192, 3) := by decide +kernel
theorem dX10_readOne_39 : decode cX10_readOne 39 = .ok (.ifCond .ne 21, 3) := by decide +kernel
theorem dX10_readOne_42 : decode cX10_readOne 42 = .ok (.aload_n 0, 1) := by decide +kernel
theorem dX10_readOne_43 : decode cX10_readOne 43 = .ok (.getfield 53, 3) := by decide +kernel
theorem dX10_readOne_46 : decode cX10_readOne 46 = .ok (.bipush 10, 2) := by decide +kernel
theorem dX10_readOne_48 : decode cX10_readOne 48 = .ok (.iload_n 2, 1) := by decide +kernel
theorem dX10_readOne_49 : decode cX10_readOne 49 = .ok (.iadd, 1) := by decide +kernel
theorem dX10_readOne_50 : decode cX10_readOne 50 = .ok (.iaload, 1) := by decide +kernel
theorem dX10_readOne_51 : decode cX10_readOne 51 = .ok (.iload_n 1, 1) := by decide +kernel
theorem dX10_readOne_52 : decode cX10_readOne 52 = .ok (.if_icmp .eq 8, 3) := by decide +kernel
theorem dX10_readOne_55 : decode cX10_readOne 55 = .ok (.aload_n 0, 1) := by decide +kernel
theorem dX10_readOne_56 : decode cX10_readOne 56 = .ok (.iconst 5, 1) := by decide +kernel
theorem dX10_readOne_57 : decode cX10_readOne 57 = .ok (.invokevirtual 215, 3) := by decide +kernel
theorem dX10_readOne_60 : decode cX10_readOne 60 = .ok (.aload_n 0, 1) := by decide +kernel
theorem dX10_readOne_61 : decode cX10_readOne 61 = .ok (.getfield 192, 3) := by decide +kernel
theorem dX10_readOne_64 : decode cX10_readOne 64 = .ok (.ifCond .ne 7, 3) := by decide +kernel
theorem dX10_readOne_67 : decode cX10_readOne 67 = .ok (.aload_n 0, 1) := by decide +kernel
theorem dX10_readOne_68 : decode cX10_readOne 68 = .ok (.invokevirtual 209, 3) := by decide +kernel
theorem dX10_readOne_71 : decode cX10_readOne 71 = .ok (.iload_n 2, 1) := by decide +kernel
theorem dX10_readOne_72 : decode cX10_readOne 72 = .ok (.ireturn, 1) := by decide +kernel
theorem sX10_readOne_0 {a0 a1 a2 : Value} (hv : am_rf a0 = true) (h : am_R E d mX10_readOne k n 1 [a0, a1, a2] (a0 :: st) S iv Q) : am_R E d mX10_readOne k n 0 [a0, a1, a2] st S iv Q := am_aload_n dX10_readOne_0 rfl rfl hv h
theorem sX10_readOne_1 {a0 a1 a2 : Value} (h : am_R E d mX10_readOne k n 2 [a0, a1, a2] (.int 0 :: st) S iv Q) : am_R E d mX10_readOne k n 1 [a0, a1, a2] st S iv Q := am_iconst dX10_readOne_1 (by decide) h
theorem sX10_readOne_2 {a0 a1 a2 : Value} (h : am_R E d mX10_readOne k n 5 [a0, a1, a2] (.int 9999 :: st) S iv Q) : am_R E d mX10_readOne k n 2 [a0, a1, a2] st S iv Q := am_sipush dX10_readOne_2 (by decide) h
theorem sX10_readOne_5 {ls : List Value} {x1 x2 : Value} {a : Nat} (ha : S.1 a = some (.inl 10)) (hst : (st.map fun v => v.category).sum ≤ 8) (hM : am_M E d mX10_numberNow 0 0 [.ref a, x1, x2] S iv (am_K3 E (d + 1) mX10_readOne k n 5 ls st Q)) : am_R E (d + 1) mX10_readOne k n 5 ls (x2 :: x1 :: .ref a :: st) S iv Q := am_cV (ci := 10) (M' := mX10_numberNow) (as := [x1, x2]) dX10_readOne_5 rfl rfl rfl wq_864 wq_865 wq_866 wq_808 wq_862 hy_X10_numberNow (by decide) ha hst (by omega) (by omega) hM
theorem sX10_readOne_5_k {ls : List Value} {x1 x2 : Value} {k' n' : Nat} {a : Nat} (ha : S.1 a = some (.inl 10)) (hst : (st.map fun v => v.category).sum ≤ 8) (hM : am_M E d mX10_numberNow k' n' [.ref a, x1, x2] S iv (am_K3 E (d + 1) mX10_readOne k n 5 ls st Q)) : am_R E (d + 1) mX10_readOne (k' + k) (n' + n) 5 ls (x2 :: x1 :: .ref a :: st) S iv Q := am_cV (ci := 10) (M' := mX10_numberNow) (as := [x1, x2]) dX10_readOne_5 rfl rfl rfl wq_864 wq_865 wq_866 wq_808 wq_862 hy_X10_numberNow (by decide) ha hst (by omega) (by omega) hM
theorem sX10_readOne_8 {a0 a1 a2 : Value} {x : Int32} (h : am_R E d mX10_readOne k n 9 [a0, a1, .int x] st S iv Q) : am_R E d mX10_readOne k n 8 [a0, a1, a2] (.int x :: st) S iv Q := am_istore_n dX10_readOne_8 rfl (by decide) h
theorem sX10_readOne_9 {a0 a1 a2 : Value} (hv : am_rf a0 = true) (h : am_R E d mX10_readOne k n 10 [a0, a1, a2] (a0 :: st) S iv Q) : am_R E d mX10_readOne k n 9 [a0, a1, a2] st S iv Q := am_aload_n dX10_readOne_9 rfl rfl hv h
theorem sX10_readOne_10 {ls : List Value} {a : Nat} (ha : S.1 a = some (.inl 10)) (h : am_R E d mX10_readOne k n 13 ls (.int (iv a 25) :: st) S iv Q) : am_R E d mX10_readOne k n 10 ls (.ref a :: st) S iv Q := am_getI (ci := 10) dX10_readOne_10 rfl rfl (by decide) wq_838 uq_10 rfl ha h
theorem sX10_readOne_13 {ls : List Value} {x : Int32} (kt : ¬ x = 0 → am_R E d mX10_readOne k n 35 ls st S iv Q) (kf : x = 0 → am_R E d mX10_readOne k n 16 ls st S iv Q) : am_R E d mX10_readOne k n 13 ls (.int x :: st) S iv Q := am_if_ne dX10_readOne_13 (by decide) kt kf
theorem sX10_readOne_16 {a0 a1 : Value} {x : Int32} (h : am_R E d mX10_readOne k n 17 [a0, a1, .int x] (.int x :: st) S iv Q) : am_R E d mX10_readOne k n 16 [a0, a1, .int x] st S iv Q := am_iload_n dX10_readOne_16 rfl rfl h
theorem sX10_readOne_17 {a0 a1 a2 : Value} (hv : am_rf a0 = true) (h : am_R E d mX10_readOne k n 18 [a0, a1, a2] (a0 :: st) S iv Q) : am_R E d mX10_readOne k n 17 [a0, a1, a2] st S iv Q := am_aload_n dX10_readOne_17 rfl rfl hv h
theorem sX10_readOne_18 {ls : List Value} {a b : Nat} (ha : S.1 a = some (.inl 10)) (hb : S.2.1 a 4 = some b) (h : am_R E d mX10_readOne k n 21 ls (.ref b :: st) S iv Q) : am_R E d mX10_readOne k n 18 ls (.ref a :: st) S iv Q := am_getR (ci := 10) dX10_readOne_18 rfl rfl (by decide) wq_772 uq_10 rfl ha hb h
theorem sX10_readOne_21 {a0 a1 a2 : Value} (h : am_R E d mX10_readOne k n 23 [a0, a1, a2] (.int 12 :: st) S iv Q) : am_R E d mX10_readOne k n 21 [a0, a1, a2] st S iv Q := am_bipush dX10_readOne_21 (by decide) h
theorem sX10_readOne_23 {ls : List Value} {a m : Nat} {i : Int32} (ha : S.1 a = some (.inr (.int, m))) (hi : vp_in i m) (h : am_R E d mX10_readOne k n 24 ls (.int (iv a i.toNatClampNeg) :: st) S iv Q) : am_R E d mX10_readOne k n 23 ls (.int i :: .ref a :: st) S iv Q := am_iaload dX10_readOne_23 ha hi h
theorem sX10_readOne_24 {ls : List Value} {x y : Int32} (kt : x < y → am_R E d mX10_readOne k n 35 ls st S iv Q) (kf : ¬ x < y → am_R E d mX10_readOne k n 27 ls st S iv Q) : am_R E d mX10_readOne k n 24 ls (.int y :: .int x :: st) S iv Q := am_icmp_lt dX10_readOne_24 (by decide) kt kf
theorem sX10_readOne_27 {a0 a1 a2 : Value} (hv : am_rf a0 = true) (h : am_R E d mX10_readOne k n 28 [a0, a1, a2] (a0 :: st) S iv Q) : am_R E d mX10_readOne k n 27 [a0, a1, a2] st S iv Q := am_aload_n dX10_readOne_27 rfl rfl hv h
theorem sX10_readOne_28 {a0 a1 a2 : Value} (h : am_R E d mX10_readOne k n 29 [a0, a1, a2] (.int 3 :: st) S iv Q) : am_R E d mX10_readOne k n 28 [a0, a1, a2] st S iv Q := am_iconst dX10_readOne_28 (by decide) h
theorem sX10_readOne_29 {ls : List Value} {x1 : Value} {a : Nat} (ha : S.1 a = some (.inl 10)) (hst : (st.map fun v => v.category).sum ≤ 8) (hM : am_M E d mX10_wrong 0 0 [.ref a, x1] S iv (am_K3 E (d + 1) mX10_readOne k n 29 ls st Q)) : am_R E (d + 1) mX10_readOne k n 29 ls (x1 :: .ref a :: st) S iv Q := am_cV (ci := 10) (M' := mX10_wrong) (as := [x1]) dX10_readOne_29 rfl rfl rfl wq_859 wq_860 wq_861 wq_808 wq_857 hy_X10_wrong (by decide) ha hst (by omega) (by omega) hM
theorem sX10_readOne_29_k {ls : List Value} {x1 : Value} {k' n' : Nat} {a : Nat} (ha : S.1 a = some (.inl 10)) (hst : (st.map fun v => v.category).sum ≤ 8) (hM : am_M E d mX10_wrong k' n' [.ref a, x1] S iv (am_K3 E (d + 1) mX10_readOne k n 29 ls st Q)) : am_R E (d + 1) mX10_readOne (k' + k) (n' + n) 29 ls (x1 :: .ref a :: st) S iv Q := am_cV (ci := 10) (M' := mX10_wrong) (as := [x1]) dX10_readOne_29 rfl rfl rfl wq_859 wq_860 wq_861 wq_808 wq_857 hy_X10_wrong (by decide) ha hst (by omega) (by omega) hM
theorem sX10_readOne_32 {ls : List Value} (h : am_R E d mX10_readOne k n 60 ls st S iv Q) : am_R E d mX10_readOne k n 32 ls st S iv Q := am_goto dX10_readOne_32 (by decide) h
theorem sX10_readOne_35 {a0 a1 a2 : Value} (hv : am_rf a0 = true) (h : am_R E d mX10_readOne k n 36 [a0, a1, a2] (a0 :: st) S iv Q) : am_R E d mX10_readOne k n 35 [a0, a1, a2] st S iv Q := am_aload_n dX10_readOne_35 rfl rfl hv h
theorem sX10_readOne_36 {ls : List Value} {a : Nat} (ha : S.1 a = some (.inl 10)) (h : am_R E d mX10_readOne k n 39 ls (.int (iv a 25) :: st) S iv Q) : am_R E d mX10_readOne k n 36 ls (.ref a :: st) S iv Q := am_getI (ci := 10) dX10_readOne_36 rfl rfl (by decide) wq_838 uq_10 rfl ha h
theorem sX10_readOne_39 {ls : List Value} {x : Int32} (kt : ¬ x = 0 → am_R E d mX10_readOne k n 60 ls st S iv Q) (kf : x = 0 → am_R E d mX10_readOne k n 42 ls st S iv Q) : am_R E d mX10_readOne k n 39 ls (.int x :: st) S iv Q := am_if_ne dX10_readOne_39 (by decide) kt kf
theorem sX10_readOne_42 {a0 a1 a2 : Value} (hv : am_rf a0 = true) (h : am_R E d mX10_readOne k n 43 [a0, a1, a2] (a0 :: st) S iv Q) : am_R E d mX10_readOne k n 42 [a0, a1, a2] st S iv Q := am_aload_n dX10_readOne_42 rfl rfl hv h
theorem sX10_readOne_43 {ls : List Value} {a b : Nat} (ha : S.1 a = some (.inl 10)) (hb : S.2.1 a 5 = some b) (h : am_R E d mX10_readOne k n 46 ls (.ref b :: st) S iv Q) : am_R E d mX10_readOne k n 43 ls (.ref a :: st) S iv Q := am_getR (ci := 10) dX10_readOne_43 rfl rfl (by decide) wq_773 uq_10 rfl ha hb h
theorem sX10_readOne_46 {a0 a1 a2 : Value} (h : am_R E d mX10_readOne k n 48 [a0, a1, a2] (.int 10 :: st) S iv Q) : am_R E d mX10_readOne k n 46 [a0, a1, a2] st S iv Q := am_bipush dX10_readOne_46 (by decide) h
theorem sX10_readOne_48 {a0 a1 : Value} {x : Int32} (h : am_R E d mX10_readOne k n 49 [a0, a1, .int x] (.int x :: st) S iv Q) : am_R E d mX10_readOne k n 48 [a0, a1, .int x] st S iv Q := am_iload_n dX10_readOne_48 rfl rfl h
theorem sX10_readOne_49 {ls : List Value} {x y : Int32} (h : am_R E d mX10_readOne k n 50 ls (.int (x + y) :: st) S iv Q) : am_R E d mX10_readOne k n 49 ls (.int y :: .int x :: st) S iv Q := am_iadd dX10_readOne_49 h
theorem sX10_readOne_50 {ls : List Value} {a m : Nat} {i : Int32} (ha : S.1 a = some (.inr (.int, m))) (hi : vp_in i m) (h : am_R E d mX10_readOne k n 51 ls (.int (iv a i.toNatClampNeg) :: st) S iv Q) : am_R E d mX10_readOne k n 50 ls (.int i :: .ref a :: st) S iv Q := am_iaload dX10_readOne_50 ha hi h
theorem sX10_readOne_51 {a0 a2 : Value} {x : Int32} (h : am_R E d mX10_readOne k n 52 [a0, .int x, a2] (.int x :: st) S iv Q) : am_R E d mX10_readOne k n 51 [a0, .int x, a2] st S iv Q := am_iload_n dX10_readOne_51 rfl rfl h
theorem sX10_readOne_52 {ls : List Value} {x y : Int32} (kt : x = y → am_R E d mX10_readOne k n 60 ls st S iv Q) (kf : ¬ x = y → am_R E d mX10_readOne k n 55 ls st S iv Q) : am_R E d mX10_readOne k n 52 ls (.int y :: .int x :: st) S iv Q := am_icmp_eq dX10_readOne_52 (by decide) kt kf
theorem sX10_readOne_55 {a0 a1 a2 : Value} (hv : am_rf a0 = true) (h : am_R E d mX10_readOne k n 56 [a0, a1, a2] (a0 :: st) S iv Q) : am_R E d mX10_readOne k n 55 [a0, a1, a2] st S iv Q := am_aload_n dX10_readOne_55 rfl rfl hv h
theorem sX10_readOne_56 {a0 a1 a2 : Value} (h : am_R E d mX10_readOne k n 57 [a0, a1, a2] (.int 5 :: st) S iv Q) : am_R E d mX10_readOne k n 56 [a0, a1, a2] st S iv Q := am_iconst dX10_readOne_56 (by decide) h
theorem sX10_readOne_57 {ls : List Value} {x1 : Value} {a : Nat} (ha : S.1 a = some (.inl 10)) (hst : (st.map fun v => v.category).sum ≤ 8) (hM : am_M E d mX10_wrong 0 0 [.ref a, x1] S iv (am_K3 E (d + 1) mX10_readOne k n 57 ls st Q)) : am_R E (d + 1) mX10_readOne k n 57 ls (x1 :: .ref a :: st) S iv Q := am_cV (ci := 10) (M' := mX10_wrong) (as := [x1]) dX10_readOne_57 rfl rfl rfl wq_859 wq_860 wq_861 wq_808 wq_857 hy_X10_wrong (by decide) ha hst (by omega) (by omega) hM
theorem sX10_readOne_57_k {ls : List Value} {x1 : Value} {k' n' : Nat} {a : Nat} (ha : S.1 a = some (.inl 10)) (hst : (st.map fun v => v.category).sum ≤ 8) (hM : am_M E d mX10_wrong k' n' [.ref a, x1] S iv (am_K3 E (d + 1) mX10_readOne k n 57 ls st Q)) : am_R E (d + 1) mX10_readOne (k' + k) (n' + n) 57 ls (x1 :: .ref a :: st) S iv Q := am_cV (ci := 10) (M' := mX10_wrong) (as := [x1]) dX10_readOne_57 rfl rfl rfl wq_859 wq_860 wq_861 wq_808 wq_857 hy_X10_wrong (by decide) ha hst (by omega) (by omega) hM
theorem sX10_readOne_60 {a0 a1 a2 : Value} (hv : am_rf a0 = true) (h : am_R E d mX10_readOne k n 61 [a0, a1, a2] (a0 :: st) S iv Q) : am_R E d mX10_readOne k n 60 [a0, a1, a2] st S iv Q := am_aload_n dX10_readOne_60 rfl rfl hv h
theorem sX10_readOne_61 {ls : List Value} {a : Nat} (ha : S.1 a = some (.inl 10)) (h : am_R E d mX10_readOne k n 64 ls (.int (iv a 25) :: st) S iv Q) : am_R E d mX10_readOne k n 61 ls (.ref a :: st) S iv Q := am_getI (ci := 10) dX10_readOne_61 rfl rfl (by decide) wq_838 uq_10 rfl ha h
theorem sX10_readOne_64 {ls : List Value} {x : Int32} (kt : ¬ x = 0 → am_R E d mX10_readOne k n 71 ls st S iv Q) (kf : x = 0 → am_R E d mX10_readOne k n 67 ls st S iv Q) : am_R E d mX10_readOne k n 64 ls (.int x :: st) S iv Q := am_if_ne dX10_readOne_64 (by decide) kt kf
theorem sX10_readOne_67 {a0 a1 a2 : Value} (hv : am_rf a0 = true) (h : am_R E d mX10_readOne k n 68 [a0, a1, a2] (a0 :: st) S iv Q) : am_R E d mX10_readOne k n 67 [a0, a1, a2] st S iv Q := am_aload_n dX10_readOne_67 rfl rfl hv h
theorem sX10_readOne_68 {ls : List Value} {a : Nat} (ha : S.1 a = some (.inl 10)) (hst : (st.map fun v => v.category).sum ≤ 8) (hM : am_M E d mX10_stepOn 0 0 [.ref a] S iv (am_K3 E (d + 1) mX10_readOne k n 68 ls st Q)) : am_R E (d + 1) mX10_readOne k n 68 ls (.ref a :: st) S iv Q := am_cV (ci := 10) (M' := mX10_stepOn) (as := []) dX10_readOne_68 rfl rfl rfl wq_849 wq_850 wq_851 wq_808 wq_847 hy_X10_stepOn (by decide) ha hst (by omega) (by omega) hM
theorem sX10_readOne_68_k {ls : List Value} {k' n' : Nat} {a : Nat} (ha : S.1 a = some (.inl 10)) (hst : (st.map fun v => v.category).sum ≤ 8) (hM : am_M E d mX10_stepOn k' n' [.ref a] S iv (am_K3 E (d + 1) mX10_readOne k n 68 ls st Q)) : am_R E (d + 1) mX10_readOne (k' + k) (n' + n) 68 ls (.ref a :: st) S iv Q := am_cV (ci := 10) (M' := mX10_stepOn) (as := []) dX10_readOne_68 rfl rfl rfl wq_849 wq_850 wq_851 wq_808 wq_847 hy_X10_stepOn (by decide) ha hst (by omega) (by omega) hM
theorem sX10_readOne_71 {a0 a1 : Value} {x : Int32} (h : am_R E d mX10_readOne k n 72 [a0, a1, .int x] (.int x :: st) S iv Q) : am_R E d mX10_readOne k n 71 [a0, a1, .int x] st S iv Q := am_iload_n dX10_readOne_71 rfl rfl h
theorem sX10_readOne_72 {ls : List Value} {x : Int32} (h : Q (.inl (some (.int x))) S iv) : am_R E d mX10_readOne k n 72 ls [.int x] S iv Q := am_ireturn dX10_readOne_72 rfl h
theorem dX10_readPerson_0 : decode cX10_readPerson 0 = .ok (.aload_n 0, 1) := by decide +kernel
theorem dX10_readPerson_1 : decode cX10_readPerson 1 = .ok (.getfield 49, 3) := by decide +kernel
theorem dX10_readPerson_4 : decode cX10_readPerson 4 = .ok (.bipush 13, 2) := by decide +kernel
theorem dX10_readPerson_6 : decode cX10_readPerson 6 = .ok (.iaload, 1) := by decide +kernel
theorem dX10_readPerson_7 : decode cX10_readPerson 7 = .ok (.iconst 5, 1) := by decide +kernel
theorem dX10_readPerson_8 : decode cX10_readPerson 8 = .ok (.if_icmp .ne 8, 3) := by decide +kernel
theorem dX10_readPerson_11 : decode cX10_readPerson 11 = .ok (.aload_n 0, 1) := by decide +kernel
theorem dX10_readPerson_12 : decode cX10_readPerson 12 = .ok (.iconst 2, 1) := by decide +kernel
theorem dX10_readPerson_13 : decode cX10_readPerson 13 = .ok (.invokevirtual 215, 3) := by decide +kernel
theorem dX10_readPerson_16 : decode cX10_readPerson 16 = .ok (.aload_n 0, 1) := by decide +kernel
theorem dX10_readPerson_17 : decode cX10_readPerson 17 = .ok (.getfield 192, 3) := by decide +kernel
theorem dX10_readPerson_20 : decode cX10_readPerson 20 = .ok (.ifCond .eq 4, 3) := by decide +kernel
theorem dX10_readPerson_23 : decode cX10_readPerson 23 = .ok (.return_, 1) := by decide +kernel
theorem dX10_readPerson_24 : decode cX10_readPerson 24 = .ok (.aload_n 0, 1) := by decide +kernel
theorem dX10_readPerson_25 : decode cX10_readPerson 25 = .ok (.invokevirtual 209, 3) := by decide +kernel
theorem dX10_readPerson_28 : decode cX10_readPerson 28 = .ok (.iconst 5, 1) := by decide +kernel
theorem dX10_readPerson_29 : decode cX10_readPerson 29 = .ok (.aload_n 0, 1) := by decide +kernel
theorem dX10_readPerson_30 : decode cX10_readPerson 30 = .ok (.getfield 49, 3) := by decide +kernel
theorem dX10_readPerson_33 : decode cX10_readPerson 33 = .ok (.bipush 13, 2) := by decide +kernel
theorem dX10_readPerson_35 : decode cX10_readPerson 35 = .ok (.iaload, 1) := by decide +kernel
theorem dX10_readPerson_36 : decode cX10_readPerson 36 = .ok (.iadd, 1) := by decide +kernel
theorem dX10_readPerson_37 : decode cX10_readPerson 37 = .ok (.istore_n 1, 1) := by decide +kernel
theorem dX10_readPerson_38 : decode cX10_readPerson 38 = .ok (.aload_n 0, 1) := by decide +kernel
theorem dX10_readPerson_39 : decode cX10_readPerson 39 = .ok (.getfield 64, 3) := by decide +kernel
theorem dX10_readPerson_42 : decode cX10_readPerson 42 = .ok (.iload_n 1, 1) := by decide +kernel
theorem dX10_readPerson_43 : decode cX10_readPerson 43 = .ok (.aload_n 0, 1) := by decide +kernel
theorem dX10_readPerson_44 : decode cX10_readPerson 44 = .ok (.iconst 0, 1) := by decide +kernel
theorem dX10_readPerson_45 : decode cX10_readPerson 45 = .ok (.invokevirtual 266, 3) := by decide +kernel
theorem dX10_readPerson_48 : decode cX10_readPerson 48 = .ok (.iastore, 1) := by decide +kernel
theorem dX10_readPerson_49 : decode cX10_readPerson 49 = .ok (.aload_n 0, 1) := by decide +kernel
theorem dX10_readPerson_50 : decode cX10_readPerson 50 = .ok (.getfield 66, 3) := by decide +kernel
theorem dX10_readPerson_53 : decode cX10_readPerson 53 = .ok (.iload_n 1, 1) := by decide +kernel
theorem dX10_readPerson_54 : decode cX10_readPerson 54 = .ok (.aload_n 0, 1) := by decide +kernel
theorem dX10_readPerson_55 : decode cX10_readPerson 55 = .ok (.ldc_w 269, 3) := by decide +kernel
theorem dX10_readPerson_58 : decode cX10_readPerson 58 = .ok (.invokevirtual 271, 3) := by decide +kernel
theorem dX10_readPerson_61 : decode cX10_readPerson 61 = .ok (.ifCond .eq 11, 3) := by decide +kernel
theorem dX10_readPerson_64 : decode cX10_readPerson 64 = .ok (.aload_n 0, 1) := by decide +kernel
theorem dX10_readPerson_65 : decode cX10_readPerson 65 = .ok (.iconst 1, 1) := by decide +kernel
theorem dX10_readPerson_66 : decode cX10_readPerson 66 = .ok (.invokevirtual 266, 3) := by decide +kernel
theorem dX10_readPerson_69 : decode cX10_readPerson 69 = .ok (.goto 4, 3) := by decide +kernel
theorem dX10_readPerson_72 : decode cX10_readPerson 72 = .ok (.iconst (-1), 1) := by decide +kernel
theorem dX10_readPerson_73 : decode cX10_readPerson 73 = .ok (.iastore, 1) := by decide +kernel
theorem dX10_readPerson_74 : decode cX10_readPerson 74 = .ok (.aload_n 0, 1) := by decide +kernel
theorem dX10_readPerson_75 : decode cX10_readPerson 75 = .ok (.getfield 68, 3) := by decide +kernel
theorem dX10_readPerson_78 : decode cX10_readPerson 78 = .ok (.iload_n 1, 1) := by decide +kernel
theorem dX10_readPerson_79 : decode cX10_readPerson 79 = .ok (.aload_n 0, 1) := by decide +kernel
theorem dX10_readPerson_80 : decode cX10_readPerson 80 = .ok (.ldc_w 274, 3) := by decide +kernel
theorem dX10_readPerson_83 : decode cX10_readPerson 83 = .ok (.invokevirtual 271, 3) := by decide +kernel
theorem dX10_readPerson_86 : decode cX10_readPerson 86 = .ok (.ifCond .eq 13, 3) := by decide +kernel
theorem dX10_readPerson_89 : decode cX10_readPerson 89 = .ok (.aload_n 0, 1) := by decide +kernel
theorem dX10_readPerson_90 : decode cX10_readPerson 90 = .ok (.iconst 0, 1) := by decide +kernel
theorem dX10_readPerson_91 : decode cX10_readPerson 91 = .ok (.bipush 99, 2) := by decide +kernel
theorem dX10_readPerson_93 : decode cX10_readPerson 93 = .ok (.invokevirtual 225, 3) := by decide +kernel
theorem dX10_readPerson_96 : decode cX10_readPerson 96 = .ok (.goto 4, 3) := by decide +kernel
theorem dX10_readPerson_99 : decode cX10_readPerson 99 = .ok (.iconst 1, 1) := by decide +kernel
theorem dX10_readPerson_100 : decode cX10_readPerson 100 = .ok (.iastore, 1) := by decide +kernel
theorem dX10_readPerson_101 : decode cX10_readPerson 101 = .ok (.aload_n 0, 1) := by decide +kernel
theorem dX10_readPerson_102 : decode cX10_readPerson 102 = .ok (.getfield 49, 3) := by decide +kernel
theorem dX10_readPerson_105 : decode cX10_readPerson 105 = .ok (.bipush 13, 2) := by decide +kernel
theorem dX10_readPerson_107 : decode cX10_readPerson 107 = .ok (.dup2, 1) := by decide +kernel
theorem dX10_readPerson_108 : decode cX10_readPerson 108 = .ok (.iaload, 1) := by decide +kernel
theorem dX10_readPerson_109 : decode cX10_readPerson 109 = .ok (.iconst 1, 1) := by decide +kernel
theorem dX10_readPerson_110 : decode cX10_readPerson 110 = .ok (.iadd, 1) := by decide +kernel
theorem dX10_readPerson_111 : decode cX10_readPerson 111 = .ok (.iastore, 1) := by decide +kernel
theorem dX10_readPerson_112 : decode cX10_readPerson 112 = .ok (.return_, 1) := by decide +kernel
theorem sX10_readPerson_0 {a0 a1 : Value} (hv : am_rf a0 = true) (h : am_R E d mX10_readPerson k n 1 [a0, a1] (a0 :: st) S iv Q) : am_R E d mX10_readPerson k n 0 [a0, a1] st S iv Q := am_aload_n dX10_readPerson_0 rfl rfl hv h
theorem sX10_readPerson_1 {ls : List Value} {a b : Nat} (ha : S.1 a = some (.inl 10)) (hb : S.2.1 a 4 = some b) (h : am_R E d mX10_readPerson k n 4 ls (.ref b :: st) S iv Q) : am_R E d mX10_readPerson k n 1 ls (.ref a :: st) S iv Q := am_getR (ci := 10) dX10_readPerson_1 rfl rfl (by decide) wq_772 uq_10 rfl ha hb h
theorem sX10_readPerson_4 {a0 a1 : Value} (h : am_R E d mX10_readPerson k n 6 [a0, a1] (.int 13 :: st) S iv Q) : am_R E d mX10_readPerson k n 4 [a0, a1] st S iv Q := am_bipush dX10_readPerson_4 (by decide) h
theorem sX10_readPerson_6 {ls : List Value} {a m : Nat} {i : Int32} (ha : S.1 a = some (.inr (.int, m))) (hi : vp_in i m) (h : am_R E d mX10_readPerson k n 7 ls (.int (iv a i.toNatClampNeg) :: st) S iv Q) : am_R E d mX10_readPerson k n 6 ls (.int i :: .ref a :: st) S iv Q := am_iaload dX10_readPerson_6 ha hi h
theorem sX10_readPerson_7 {a0 a1 : Value} (h : am_R E d mX10_readPerson k n 8 [a0, a1] (.int 5 :: st) S iv Q) : am_R E d mX10_readPerson k n 7 [a0, a1] st S iv Q := am_iconst dX10_readPerson_7 (by decide) h
theorem sX10_readPerson_8 {ls : List Value} {x y : Int32} (kt : ¬ x = y → am_R E d mX10_readPerson k n 16 ls st S iv Q) (kf : x = y → am_R E d mX10_readPerson k n 11 ls st S iv Q) : am_R E d mX10_readPerson k n 8 ls (.int y :: .int x :: st) S iv Q := am_icmp_ne dX10_readPerson_8 (by decide) kt kf
theorem sX10_readPerson_11 {a0 a1 : Value} (hv : am_rf a0 = true) (h : am_R E d mX10_readPerson k n 12 [a0, a1] (a0 :: st) S iv Q) : am_R E d mX10_readPerson k n 11 [a0, a1] st S iv Q := am_aload_n dX10_readPerson_11 rfl rfl hv h
theorem sX10_readPerson_12 {a0 a1 : Value} (h : am_R E d mX10_readPerson k n 13 [a0, a1] (.int 2 :: st) S iv Q) : am_R E d mX10_readPerson k n 12 [a0, a1] st S iv Q := am_iconst dX10_readPerson_12 (by decide) h
theorem sX10_readPerson_13 {ls : List Value} {x1 : Value} {a : Nat} (ha : S.1 a = some (.inl 10)) (hst : (st.map fun v => v.category).sum ≤ 8) (hM : am_M E d mX10_wrong 0 0 [.ref a, x1] S iv (am_K3 E (d + 1) mX10_readPerson k n 13 ls st Q)) : am_R E (d + 1) mX10_readPerson k n 13 ls (x1 :: .ref a :: st) S iv Q := am_cV (ci := 10) (M' := mX10_wrong) (as := [x1]) dX10_readPerson_13 rfl rfl rfl wq_859 wq_860 wq_861 wq_808 wq_857 hy_X10_wrong (by decide) ha hst (by omega) (by omega) hM
theorem sX10_readPerson_13_k {ls : List Value} {x1 : Value} {k' n' : Nat} {a : Nat} (ha : S.1 a = some (.inl 10)) (hst : (st.map fun v => v.category).sum ≤ 8) (hM : am_M E d mX10_wrong k' n' [.ref a, x1] S iv (am_K3 E (d + 1) mX10_readPerson k n 13 ls st Q)) : am_R E (d + 1) mX10_readPerson (k' + k) (n' + n) 13 ls (x1 :: .ref a :: st) S iv Q := am_cV (ci := 10) (M' := mX10_wrong) (as := [x1]) dX10_readPerson_13 rfl rfl rfl wq_859 wq_860 wq_861 wq_808 wq_857 hy_X10_wrong (by decide) ha hst (by omega) (by omega) hM
theorem sX10_readPerson_16 {a0 a1 : Value} (hv : am_rf a0 = true) (h : am_R E d mX10_readPerson k n 17 [a0, a1] (a0 :: st) S iv Q) : am_R E d mX10_readPerson k n 16 [a0, a1] st S iv Q := am_aload_n dX10_readPerson_16 rfl rfl hv h
theorem sX10_readPerson_17 {ls : List Value} {a : Nat} (ha : S.1 a = some (.inl 10)) (h : am_R E d mX10_readPerson k n 20 ls (.int (iv a 25) :: st) S iv Q) : am_R E d mX10_readPerson k n 17 ls (.ref a :: st) S iv Q := am_getI (ci := 10) dX10_readPerson_17 rfl rfl (by decide) wq_838 uq_10 rfl ha h
theorem sX10_readPerson_20 {ls : List Value} {x : Int32} (kt : x = 0 → am_R E d mX10_readPerson k n 24 ls st S iv Q) (kf : ¬ x = 0 → am_R E d mX10_readPerson k n 23 ls st S iv Q) : am_R E d mX10_readPerson k n 20 ls (.int x :: st) S iv Q := am_if_eq dX10_readPerson_20 (by decide) kt kf
theorem sX10_readPerson_23 {ls : List Value} (h : Q (.inl none) S iv) : am_R E d mX10_readPerson k n 23 ls [] S iv Q := am_return dX10_readPerson_23 rfl h
theorem sX10_readPerson_24 {a0 a1 : Value} (hv : am_rf a0 = true) (h : am_R E d mX10_readPerson k n 25 [a0, a1] (a0 :: st) S iv Q) : am_R E d mX10_readPerson k n 24 [a0, a1] st S iv Q := am_aload_n dX10_readPerson_24 rfl rfl hv h
theorem sX10_readPerson_25 {ls : List Value} {a : Nat} (ha : S.1 a = some (.inl 10)) (hst : (st.map fun v => v.category).sum ≤ 8) (hM : am_M E d mX10_stepOn 0 0 [.ref a] S iv (am_K3 E (d + 1) mX10_readPerson k n 25 ls st Q)) : am_R E (d + 1) mX10_readPerson k n 25 ls (.ref a :: st) S iv Q := am_cV (ci := 10) (M' := mX10_stepOn) (as := []) dX10_readPerson_25 rfl rfl rfl wq_849 wq_850 wq_851 wq_808 wq_847 hy_X10_stepOn (by decide) ha hst (by omega) (by omega) hM
theorem sX10_readPerson_25_k {ls : List Value} {k' n' : Nat} {a : Nat} (ha : S.1 a = some (.inl 10)) (hst : (st.map fun v => v.category).sum ≤ 8) (hM : am_M E d mX10_stepOn k' n' [.ref a] S iv (am_K3 E (d + 1) mX10_readPerson k n 25 ls st Q)) : am_R E (d + 1) mX10_readPerson (k' + k) (n' + n) 25 ls (.ref a :: st) S iv Q := am_cV (ci := 10) (M' := mX10_stepOn) (as := []) dX10_readPerson_25 rfl rfl rfl wq_849 wq_850 wq_851 wq_808 wq_847 hy_X10_stepOn (by decide) ha hst (by omega) (by omega) hM
theorem sX10_readPerson_28 {a0 a1 : Value} (h : am_R E d mX10_readPerson k n 29 [a0, a1] (.int 5 :: st) S iv Q) : am_R E d mX10_readPerson k n 28 [a0, a1] st S iv Q := am_iconst dX10_readPerson_28 (by decide) h
theorem sX10_readPerson_29 {a0 a1 : Value} (hv : am_rf a0 = true) (h : am_R E d mX10_readPerson k n 30 [a0, a1] (a0 :: st) S iv Q) : am_R E d mX10_readPerson k n 29 [a0, a1] st S iv Q := am_aload_n dX10_readPerson_29 rfl rfl hv h
theorem sX10_readPerson_30 {ls : List Value} {a b : Nat} (ha : S.1 a = some (.inl 10)) (hb : S.2.1 a 4 = some b) (h : am_R E d mX10_readPerson k n 33 ls (.ref b :: st) S iv Q) : am_R E d mX10_readPerson k n 30 ls (.ref a :: st) S iv Q := am_getR (ci := 10) dX10_readPerson_30 rfl rfl (by decide) wq_772 uq_10 rfl ha hb h
theorem sX10_readPerson_33 {a0 a1 : Value} (h : am_R E d mX10_readPerson k n 35 [a0, a1] (.int 13 :: st) S iv Q) : am_R E d mX10_readPerson k n 33 [a0, a1] st S iv Q := am_bipush dX10_readPerson_33 (by decide) h
theorem sX10_readPerson_35 {ls : List Value} {a m : Nat} {i : Int32} (ha : S.1 a = some (.inr (.int, m))) (hi : vp_in i m) (h : am_R E d mX10_readPerson k n 36 ls (.int (iv a i.toNatClampNeg) :: st) S iv Q) : am_R E d mX10_readPerson k n 35 ls (.int i :: .ref a :: st) S iv Q := am_iaload dX10_readPerson_35 ha hi h
theorem sX10_readPerson_36 {ls : List Value} {x y : Int32} (h : am_R E d mX10_readPerson k n 37 ls (.int (x + y) :: st) S iv Q) : am_R E d mX10_readPerson k n 36 ls (.int y :: .int x :: st) S iv Q := am_iadd dX10_readPerson_36 h
theorem sX10_readPerson_37 {a0 a1 : Value} {x : Int32} (h : am_R E d mX10_readPerson k n 38 [a0, .int x] st S iv Q) : am_R E d mX10_readPerson k n 37 [a0, a1] (.int x :: st) S iv Q := am_istore_n dX10_readPerson_37 rfl (by decide) h
theorem sX10_readPerson_38 {a0 a1 : Value} (hv : am_rf a0 = true) (h : am_R E d mX10_readPerson k n 39 [a0, a1] (a0 :: st) S iv Q) : am_R E d mX10_readPerson k n 38 [a0, a1] st S iv Q := am_aload_n dX10_readPerson_38 rfl rfl hv h
theorem sX10_readPerson_39 {ls : List Value} {a b : Nat} (ha : S.1 a = some (.inl 10)) (hb : S.2.1 a 10 = some b) (h : am_R E d mX10_readPerson k n 42 ls (.ref b :: st) S iv Q) : am_R E d mX10_readPerson k n 39 ls (.ref a :: st) S iv Q := am_getR (ci := 10) dX10_readPerson_39 rfl rfl (by decide) wq_778 uq_10 rfl ha hb h
theorem sX10_readPerson_42 {a0 : Value} {x : Int32} (h : am_R E d mX10_readPerson k n 43 [a0, .int x] (.int x :: st) S iv Q) : am_R E d mX10_readPerson k n 42 [a0, .int x] st S iv Q := am_iload_n dX10_readPerson_42 rfl rfl h
theorem sX10_readPerson_43 {a0 a1 : Value} (hv : am_rf a0 = true) (h : am_R E d mX10_readPerson k n 44 [a0, a1] (a0 :: st) S iv Q) : am_R E d mX10_readPerson k n 43 [a0, a1] st S iv Q := am_aload_n dX10_readPerson_43 rfl rfl hv h
theorem sX10_readPerson_44 {a0 a1 : Value} (h : am_R E d mX10_readPerson k n 45 [a0, a1] (.int 0 :: st) S iv Q) : am_R E d mX10_readPerson k n 44 [a0, a1] st S iv Q := am_iconst dX10_readPerson_44 (by decide) h
theorem sX10_readPerson_45 {ls : List Value} {x1 : Value} {a : Nat} (ha : S.1 a = some (.inl 10)) (hst : (st.map fun v => v.category).sum ≤ 8) (hM : am_M E d mX10_readOne 0 0 [.ref a, x1] S iv (am_K3 E (d + 1) mX10_readPerson k n 45 ls st Q)) : am_R E (d + 1) mX10_readPerson k n 45 ls (x1 :: .ref a :: st) S iv Q := am_cV (ci := 10) (M' := mX10_readOne) (as := [x1]) dX10_readPerson_45 rfl rfl rfl wq_925 wq_926 wq_927 wq_808 wq_923 hy_X10_readOne (by decide) ha hst (by omega) (by omega) hM
theorem sX10_readPerson_45_k {ls : List Value} {x1 : Value} {k' n' : Nat} {a : Nat} (ha : S.1 a = some (.inl 10)) (hst : (st.map fun v => v.category).sum ≤ 8) (hM : am_M E d mX10_readOne k' n' [.ref a, x1] S iv (am_K3 E (d + 1) mX10_readPerson k n 45 ls st Q)) : am_R E (d + 1) mX10_readPerson (k' + k) (n' + n) 45 ls (x1 :: .ref a :: st) S iv Q := am_cV (ci := 10) (M' := mX10_readOne) (as := [x1]) dX10_readPerson_45 rfl rfl rfl wq_925 wq_926 wq_927 wq_808 wq_923 hy_X10_readOne (by decide) ha hst (by omega) (by omega) hM
theorem sX10_readPerson_48 {ls : List Value} {a m : Nat} {i x : Int32} (ha : S.1 a = some (.inr (.int, m))) (hi : vp_in i m) (h : am_R E d mX10_readPerson k n 49 ls st S (am_w iv a i.toNatClampNeg x) Q) : am_R E d mX10_readPerson k n 48 ls (.int x :: .int i :: .ref a :: st) S iv Q := am_iastore dX10_readPerson_48 ha hi h
theorem sX10_readPerson_49 {a0 a1 : Value} (hv : am_rf a0 = true) (h : am_R E d mX10_readPerson k n 50 [a0, a1] (a0 :: st) S iv Q) : am_R E d mX10_readPerson k n 49 [a0, a1] st S iv Q := am_aload_n dX10_readPerson_49 rfl rfl hv h
theorem sX10_readPerson_50 {ls : List Value} {a b : Nat} (ha : S.1 a = some (.inl 10)) (hb : S.2.1 a 11 = some b) (h : am_R E d mX10_readPerson k n 53 ls (.ref b :: st) S iv Q) : am_R E d mX10_readPerson k n 50 ls (.ref a :: st) S iv Q := am_getR (ci := 10) dX10_readPerson_50 rfl rfl (by decide) wq_779 uq_10 rfl ha hb h
theorem sX10_readPerson_53 {a0 : Value} {x : Int32} (h : am_R E d mX10_readPerson k n 54 [a0, .int x] (.int x :: st) S iv Q) : am_R E d mX10_readPerson k n 53 [a0, .int x] st S iv Q := am_iload_n dX10_readPerson_53 rfl rfl h
theorem sX10_readPerson_54 {a0 a1 : Value} (hv : am_rf a0 = true) (h : am_R E d mX10_readPerson k n 55 [a0, a1] (a0 :: st) S iv Q) : am_R E d mX10_readPerson k n 54 [a0, a1] st S iv Q := am_aload_n dX10_readPerson_54 rfl rfl hv h
theorem sX10_readPerson_55 {a0 a1 : Value} (h : am_R E d mX10_readPerson k n 58 [a0, a1] (.retAddr 52 :: st) S iv Q) : am_R E d mX10_readPerson k n 55 [a0, a1] st S iv Q := am_ldcSw (tx := "wants") dX10_readPerson_55 (List.mem_of_getElem? (i := 52) rfl) h
theorem sX10_readPerson_58 {ls : List Value} {x1 : Value} {a : Nat} (ha : S.1 a = some (.inl 10)) (hst : (st.map fun v => v.category).sum ≤ 8) (hM : am_M E d mX10_passes 0 0 [.ref a, x1] S iv (am_K3 E (d + 1) mX10_readPerson k n 58 ls st Q)) : am_R E (d + 1) mX10_readPerson k n 58 ls (x1 :: .ref a :: st) S iv Q := am_cV (ci := 10) (M' := mX10_passes) (as := [x1]) dX10_readPerson_58 rfl rfl rfl wq_930 wq_931 wq_932 wq_808 wq_928 hy_X10_passes (by decide) ha hst (by omega) (by omega) hM
theorem sX10_readPerson_58_k {ls : List Value} {x1 : Value} {k' n' : Nat} {a : Nat} (ha : S.1 a = some (.inl 10)) (hst : (st.map fun v => v.category).sum ≤ 8) (hM : am_M E d mX10_passes k' n' [.ref a, x1] S iv (am_K3 E (d + 1) mX10_readPerson k n 58 ls st Q)) : am_R E (d + 1) mX10_readPerson (k' + k) (n' + n) 58 ls (x1 :: .ref a :: st) S iv Q := am_cV (ci := 10) (M' := mX10_passes) (as := [x1]) dX10_readPerson_58 rfl rfl rfl wq_930 wq_931 wq_932 wq_808 wq_928 hy_X10_passes (by decide) ha hst (by omega) (by omega) hM
theorem sX10_readPerson_61 {ls : List Value} {x : Int32} (kt : x = 0 → am_R E d mX10_readPerson k n 72 ls st S iv Q) (kf : ¬ x = 0 → am_R E d mX10_readPerson k n 64 ls st S iv Q) : am_R E d mX10_readPerson k n 61 ls (.int x :: st) S iv Q := am_if_eq dX10_readPerson_61 (by decide) kt kf
theorem sX10_readPerson_64 {a0 a1 : Value} (hv : am_rf a0 = true) (h : am_R E d mX10_readPerson k n 65 [a0, a1] (a0 :: st) S iv Q) : am_R E d mX10_readPerson k n 64 [a0, a1] st S iv Q := am_aload_n dX10_readPerson_64 rfl rfl hv h
theorem sX10_readPerson_65 {a0 a1 : Value} (h : am_R E d mX10_readPerson k n 66 [a0, a1] (.int 1 :: st) S iv Q) : am_R E d mX10_readPerson k n 65 [a0, a1] st S iv Q := am_iconst dX10_readPerson_65 (by decide) h
theorem sX10_readPerson_66 {ls : List Value} {x1 : Value} {a : Nat} (ha : S.1 a = some (.inl 10)) (hst : (st.map fun v => v.category).sum ≤ 8) (hM : am_M E d mX10_readOne 0 0 [.ref a, x1] S iv (am_K3 E (d + 1) mX10_readPerson k n 66 ls st Q)) : am_R E (d + 1) mX10_readPerson k n 66 ls (x1 :: .ref a :: st) S iv Q := am_cV (ci := 10) (M' := mX10_readOne) (as := [x1]) dX10_readPerson_66 rfl rfl rfl wq_925 wq_926 wq_927 wq_808 wq_923 hy_X10_readOne (by decide) ha hst (by omega) (by omega) hM
theorem sX10_readPerson_66_k {ls : List Value} {x1 : Value} {k' n' : Nat} {a : Nat} (ha : S.1 a = some (.inl 10)) (hst : (st.map fun v => v.category).sum ≤ 8) (hM : am_M E d mX10_readOne k' n' [.ref a, x1] S iv (am_K3 E (d + 1) mX10_readPerson k n 66 ls st Q)) : am_R E (d + 1) mX10_readPerson (k' + k) (n' + n) 66 ls (x1 :: .ref a :: st) S iv Q := am_cV (ci := 10) (M' := mX10_readOne) (as := [x1]) dX10_readPerson_66 rfl rfl rfl wq_925 wq_926 wq_927 wq_808 wq_923 hy_X10_readOne (by decide) ha hst (by omega) (by omega) hM
theorem sX10_readPerson_69 {ls : List Value} (h : am_R E d mX10_readPerson k n 73 ls st S iv Q) : am_R E d mX10_readPerson k n 69 ls st S iv Q := am_goto dX10_readPerson_69 (by decide) h
theorem sX10_readPerson_72 {a0 a1 : Value} (h : am_R E d mX10_readPerson k n 73 [a0, a1] (.int (-1) :: st) S iv Q) : am_R E d mX10_readPerson k n 72 [a0, a1] st S iv Q := am_iconst dX10_readPerson_72 (by decide) h
theorem sX10_readPerson_73 {ls : List Value} {a m : Nat} {i x : Int32} (ha : S.1 a = some (.inr (.int, m))) (hi : vp_in i m) (h : am_R E d mX10_readPerson k n 74 ls st S (am_w iv a i.toNatClampNeg x) Q) : am_R E d mX10_readPerson k n 73 ls (.int x :: .int i :: .ref a :: st) S iv Q := am_iastore dX10_readPerson_73 ha hi h
theorem sX10_readPerson_74 {a0 a1 : Value} (hv : am_rf a0 = true) (h : am_R E d mX10_readPerson k n 75 [a0, a1] (a0 :: st) S iv Q) : am_R E d mX10_readPerson k n 74 [a0, a1] st S iv Q := am_aload_n dX10_readPerson_74 rfl rfl hv h
theorem sX10_readPerson_75 {ls : List Value} {a b : Nat} (ha : S.1 a = some (.inl 10)) (hb : S.2.1 a 12 = some b) (h : am_R E d mX10_readPerson k n 78 ls (.ref b :: st) S iv Q) : am_R E d mX10_readPerson k n 75 ls (.ref a :: st) S iv Q := am_getR (ci := 10) dX10_readPerson_75 rfl rfl (by decide) wq_780 uq_10 rfl ha hb h
theorem sX10_readPerson_78 {a0 : Value} {x : Int32} (h : am_R E d mX10_readPerson k n 79 [a0, .int x] (.int x :: st) S iv Q) : am_R E d mX10_readPerson k n 78 [a0, .int x] st S iv Q := am_iload_n dX10_readPerson_78 rfl rfl h
theorem sX10_readPerson_79 {a0 a1 : Value} (hv : am_rf a0 = true) (h : am_R E d mX10_readPerson k n 80 [a0, a1] (a0 :: st) S iv Q) : am_R E d mX10_readPerson k n 79 [a0, a1] st S iv Q := am_aload_n dX10_readPerson_79 rfl rfl hv h
theorem sX10_readPerson_80 {a0 a1 : Value} (h : am_R E d mX10_readPerson k n 83 [a0, a1] (.retAddr 53 :: st) S iv Q) : am_R E d mX10_readPerson k n 80 [a0, a1] st S iv Q := am_ldcSw (tx := "weight") dX10_readPerson_80 (List.mem_of_getElem? (i := 53) rfl) h
theorem sX10_readPerson_83 {ls : List Value} {x1 : Value} {a : Nat} (ha : S.1 a = some (.inl 10)) (hst : (st.map fun v => v.category).sum ≤ 8) (hM : am_M E d mX10_passes 0 0 [.ref a, x1] S iv (am_K3 E (d + 1) mX10_readPerson k n 83 ls st Q)) : am_R E (d + 1) mX10_readPerson k n 83 ls (x1 :: .ref a :: st) S iv Q := am_cV (ci := 10) (M' := mX10_passes) (as := [x1]) dX10_readPerson_83 rfl rfl rfl wq_930 wq_931 wq_932 wq_808 wq_928 hy_X10_passes (by decide) ha hst (by omega) (by omega) hM
theorem sX10_readPerson_83_k {ls : List Value} {x1 : Value} {k' n' : Nat} {a : Nat} (ha : S.1 a = some (.inl 10)) (hst : (st.map fun v => v.category).sum ≤ 8) (hM : am_M E d mX10_passes k' n' [.ref a, x1] S iv (am_K3 E (d + 1) mX10_readPerson k n 83 ls st Q)) : am_R E (d + 1) mX10_readPerson (k' + k) (n' + n) 83 ls (x1 :: .ref a :: st) S iv Q := am_cV (ci := 10) (M' := mX10_passes) (as := [x1]) dX10_readPerson_83 rfl rfl rfl wq_930 wq_931 wq_932 wq_808 wq_928 hy_X10_passes (by decide) ha hst (by omega) (by omega) hM
theorem sX10_readPerson_86 {ls : List Value} {x : Int32} (kt : x = 0 → am_R E d mX10_readPerson k n 99 ls st S iv Q) (kf : ¬ x = 0 → am_R E d mX10_readPerson k n 89 ls st S iv Q) : am_R E d mX10_readPerson k n 86 ls (.int x :: st) S iv Q := am_if_eq dX10_readPerson_86 (by decide) kt kf
theorem sX10_readPerson_89 {a0 a1 : Value} (hv : am_rf a0 = true) (h : am_R E d mX10_readPerson k n 90 [a0, a1] (a0 :: st) S iv Q) : am_R E d mX10_readPerson k n 89 [a0, a1] st S iv Q := am_aload_n dX10_readPerson_89 rfl rfl hv h
theorem sX10_readPerson_90 {a0 a1 : Value} (h : am_R E d mX10_readPerson k n 91 [a0, a1] (.int 0 :: st) S iv Q) : am_R E d mX10_readPerson k n 90 [a0, a1] st S iv Q := am_iconst dX10_readPerson_90 (by decide) h
theorem sX10_readPerson_91 {a0 a1 : Value} (h : am_R E d mX10_readPerson k n 93 [a0, a1] (.int 99 :: st) S iv Q) : am_R E d mX10_readPerson k n 91 [a0, a1] st S iv Q := am_bipush dX10_readPerson_91 (by decide) h
theorem sX10_readPerson_93 {ls : List Value} {x1 x2 : Value} {a : Nat} (ha : S.1 a = some (.inl 10)) (hst : (st.map fun v => v.category).sum ≤ 8) (hM : am_M E d mX10_readNumber 0 0 [.ref a, x1, x2] S iv (am_K3 E (d + 1) mX10_readPerson k n 93 ls st Q)) : am_R E (d + 1) mX10_readPerson k n 93 ls (x2 :: x1 :: .ref a :: st) S iv Q := am_cV (ci := 10) (M' := mX10_readNumber) (as := [x1, x2]) dX10_readPerson_93 rfl rfl rfl wq_870 wq_871 wq_872 wq_808 wq_868 hy_X10_readNumber (by decide) ha hst (by omega) (by omega) hM
theorem sX10_readPerson_93_k {ls : List Value} {x1 x2 : Value} {k' n' : Nat} {a : Nat} (ha : S.1 a = some (.inl 10)) (hst : (st.map fun v => v.category).sum ≤ 8) (hM : am_M E d mX10_readNumber k' n' [.ref a, x1, x2] S iv (am_K3 E (d + 1) mX10_readPerson k n 93 ls st Q)) : am_R E (d + 1) mX10_readPerson (k' + k) (n' + n) 93 ls (x2 :: x1 :: .ref a :: st) S iv Q := am_cV (ci := 10) (M' := mX10_readNumber) (as := [x1, x2]) dX10_readPerson_93 rfl rfl rfl wq_870 wq_871 wq_872 wq_808 wq_868 hy_X10_readNumber (by decide) ha hst (by omega) (by omega) hM
theorem sX10_readPerson_96 {ls : List Value} (h : am_R E d mX10_readPerson k n 100 ls st S iv Q) : am_R E d mX10_readPerson k n 96 ls st S iv Q := am_goto dX10_readPerson_96 (by decide) h
theorem sX10_readPerson_99 {a0 a1 : Value} (h : am_R E d mX10_readPerson k n 100 [a0, a1] (.int 1 :: st) S iv Q) : am_R E d mX10_readPerson k n 99 [a0, a1] st S iv Q := am_iconst dX10_readPerson_99 (by decide) h
theorem sX10_readPerson_100 {ls : List Value} {a m : Nat} {i x : Int32} (ha : S.1 a = some (.inr (.int, m))) (hi : vp_in i m) (h : am_R E d mX10_readPerson k n 101 ls st S (am_w iv a i.toNatClampNeg x) Q) : am_R E d mX10_readPerson k n 100 ls (.int x :: .int i :: .ref a :: st) S iv Q := am_iastore dX10_readPerson_100 ha hi h
theorem sX10_readPerson_101 {a0 a1 : Value} (hv : am_rf a0 = true) (h : am_R E d mX10_readPerson k n 102 [a0, a1] (a0 :: st) S iv Q) : am_R E d mX10_readPerson k n 101 [a0, a1] st S iv Q := am_aload_n dX10_readPerson_101 rfl rfl hv h
theorem sX10_readPerson_102 {ls : List Value} {a b : Nat} (ha : S.1 a = some (.inl 10)) (hb : S.2.1 a 4 = some b) (h : am_R E d mX10_readPerson k n 105 ls (.ref b :: st) S iv Q) : am_R E d mX10_readPerson k n 102 ls (.ref a :: st) S iv Q := am_getR (ci := 10) dX10_readPerson_102 rfl rfl (by decide) wq_772 uq_10 rfl ha hb h
theorem sX10_readPerson_105 {a0 a1 : Value} (h : am_R E d mX10_readPerson k n 107 [a0, a1] (.int 13 :: st) S iv Q) : am_R E d mX10_readPerson k n 105 [a0, a1] st S iv Q := am_bipush dX10_readPerson_105 (by decide) h
theorem sX10_readPerson_107 {ls : List Value} {x y : Value} (hv : x.category = 1) (hu : y.category = 1) (h : am_R E d mX10_readPerson k n 108 ls (x :: y :: x :: y :: st) S iv Q) : am_R E d mX10_readPerson k n 107 ls (x :: y :: st) S iv Q := am_dup2 dX10_readPerson_107 hv hu h
theorem sX10_readPerson_108 {ls : List Value} {a m : Nat} {i : Int32} (ha : S.1 a = some (.inr (.int, m))) (hi : vp_in i m) (h : am_R E d mX10_readPerson k n 109 ls (.int (iv a i.toNatClampNeg) :: st) S iv Q) : am_R E d mX10_readPerson k n 108 ls (.int i :: .ref a :: st) S iv Q := am_iaload dX10_readPerson_108 ha hi h
theorem sX10_readPerson_109 {a0 a1 : Value} (h : am_R E d mX10_readPerson k n 110 [a0, a1] (.int 1 :: st) S iv Q) : am_R E d mX10_readPerson k n 109 [a0, a1] st S iv Q := am_iconst dX10_readPerson_109 (by decide) h
theorem sX10_readPerson_110 {ls : List Value} {x y : Int32} (h : am_R E d mX10_readPerson k n 111 ls (.int (x + y) :: st) S iv Q) : am_R E d mX10_readPerson k n 110 ls (.int y :: .int x :: st) S iv Q := am_iadd dX10_readPerson_110 h
theorem sX10_readPerson_111 {ls : List Value} {a m : Nat} {i x : Int32} (ha : S.1 a = some (.inr (.int, m))) (hi : vp_in i m) (h : am_R E d mX10_readPerson k n 112 ls st S (am_w iv a i.toNatClampNeg x) Q) : am_R E d mX10_readPerson k n 111 ls (.int x :: .int i :: .ref a :: st) S iv Q := am_iastore dX10_readPerson_111 ha hi h
theorem sX10_readPerson_112 {ls : List Value} (h : Q (.inl none) S iv) : am_R E d mX10_readPerson k n 112 ls [] S iv Q := am_return dX10_readPerson_112 rfl h
theorem dX10_readRule_0 : decode cX10_readRule 0 = .ok (.aload_n 0, 1) := by decide +kernel
theorem dX10_readRule_1 : decode cX10_readRule 1 = .ok (.getfield 49, 3) := by decide +kernel
theorem dX10_readRule_4 : decode cX10_readRule 4 = .ok (.bipush 15, 2) := by decide +kernel
theorem dX10_readRule_6 : decode cX10_readRule 6 = .ok (.iaload, 1) := by decide +kernel
theorem dX10_readRule_7 : decode cX10_readRule 7 = .ok (.iconst 4, 1) := by decide +kernel
theorem dX10_readRule_8 : decode cX10_readRule 8 = .ok (.if_icmp .ne 8, 3) := by decide +kernel
theorem dX10_readRule_11 : decode cX10_readRule 11 = .ok (.aload_n 0, 1) := by decide +kernel
theorem dX10_readRule_12 : decode cX10_readRule 12 = .ok (.iconst 2, 1) := by decide +kernel
theorem dX10_readRule_13 : decode cX10_readRule 13 = .ok (.invokevirtual 215, 3) := by decide +kernel
theorem dX10_readRule_16 : decode cX10_readRule 16 = .ok (.aload_n 0, 1) := by decide +kernel
theorem dX10_readRule_17 : decode cX10_readRule 17 = .ok (.getfield 192, 3) := by decide +kernel
theorem dX10_readRule_20 : decode cX10_readRule 20 = .ok (.ifCond .eq 4, 3) := by decide +kernel
theorem dX10_readRule_23 : decode cX10_readRule 23 = .ok (.return_, 1) := by decide +kernel
theorem dX10_readRule_24 : decode cX10_readRule 24 = .ok (.aload_n 0, 1) := by decide +kernel
theorem dX10_readRule_25 : decode cX10_readRule 25 = .ok (.invokevirtual 209, 3) := by decide +kernel
theorem dX10_readRule_28 : decode cX10_readRule 28 = .ok (.iconst 4, 1) := by decide +kernel
theorem dX10_readRule_29 : decode cX10_readRule 29 = .ok (.aload_n 0, 1) := by decide +kernel
theorem dX10_readRule_30 : decode cX10_readRule 30 = .ok (.getfield 49, 3) := by decide +kernel
theorem dX10_readRule_33 : decode cX10_readRule 33 = .ok (.bipush 15, 2) := by decide +kernel
theorem dX10_readRule_35 : decode cX10_readRule 35 = .ok (.iaload, 1) := by decide +kernel
theorem dX10_readRule_36 : decode cX10_readRule 36 = .ok (.iadd, 1) := by decide +kernel
theorem dX10_readRule_37 : decode cX10_readRule 37 = .ok (.istore_n 1, 1) := by decide +kernel
theorem dX10_readRule_38 : decode cX10_readRule 38 = .ok (.aload_n 0, 1) := by decide +kernel
theorem dX10_readRule_39 : decode cX10_readRule 39 = .ok (.getfield 71, 3) := by decide +kernel
theorem dX10_readRule_42 : decode cX10_readRule 42 = .ok (.iload_n 1, 1) := by decide +kernel
theorem dX10_readRule_43 : decode cX10_readRule 43 = .ok (.aload_n 0, 1) := by decide +kernel
theorem dX10_readRule_44 : decode cX10_readRule 44 = .ok (.getfield 222, 3) := by decide +kernel
theorem dX10_readRule_47 : decode cX10_readRule 47 = .ok (.iastore, 1) := by decide +kernel
theorem dX10_readRule_48 : decode cX10_readRule 48 = .ok (.aload_n 0, 1) := by decide +kernel
theorem dX10_readRule_49 : decode cX10_readRule 49 = .ok (.iconst 0, 1) := by decide +kernel
theorem dX10_readRule_50 : decode cX10_readRule 50 = .ok (.invokevirtual 238, 3) := by decide +kernel
theorem dX10_readRule_53 : decode cX10_readRule 53 = .ok (.aload_n 0, 1) := by decide +kernel
theorem dX10_readRule_54 : decode cX10_readRule 54 = .ok (.getfield 74, 3) := by decide +kernel
theorem dX10_readRule_57 : decode cX10_readRule 57 = .ok (.iload_n 1, 1) := by decide +kernel
theorem dX10_readRule_58 : decode cX10_readRule 58 = .ok (.aload_n 0, 1) := by decide +kernel
theorem dX10_readRule_59 : decode cX10_readRule 59 = .ok (.getfield 222, 3) := by decide +kernel
theorem dX10_readRule_62 : decode cX10_readRule 62 = .ok (.iastore, 1) := by decide +kernel
theorem dX10_readRule_63 : decode cX10_readRule 63 = .ok (.aload_n 0, 1) := by decide +kernel
theorem dX10_readRule_64 : decode cX10_readRule 64 = .ok (.getfield 49, 3) := by decide +kernel
theorem dX10_readRule_67 : decode cX10_readRule 67 = .ok (.bipush 15, 2) := by decide +kernel
theorem dX10_readRule_69 : decode cX10_readRule 69 = .ok (.dup2, 1) := by decide +kernel
theorem dX10_readRule_70 : decode cX10_readRule 70 = .ok (.iaload, 1) := by decide +kernel
theorem dX10_readRule_71 : decode cX10_readRule 71 = .ok (.iconst 1, 1) := by decide +kernel
theorem dX10_readRule_72 : decode cX10_readRule 72 = .ok (.iadd, 1) := by decide +kernel
theorem dX10_readRule_73 : decode cX10_readRule 73 = .ok (.iastore, 1) := by decide +kernel
theorem dX10_readRule_74 : decode cX10_readRule 74 = .ok (.return_, 1) := by decide +kernel
theorem sX10_readRule_0 {a0 a1 : Value} (hv : am_rf a0 = true) (h : am_R E d mX10_readRule k n 1 [a0, a1] (a0 :: st) S iv Q) : am_R E d mX10_readRule k n 0 [a0, a1] st S iv Q := am_aload_n dX10_readRule_0 rfl rfl hv h
theorem sX10_readRule_1 {ls : List Value} {a b : Nat} (ha : S.1 a = some (.inl 10)) (hb : S.2.1 a 4 = some b) (h : am_R E d mX10_readRule k n 4 ls (.ref b :: st) S iv Q) : am_R E d mX10_readRule k n 1 ls (.ref a :: st) S iv Q := am_getR (ci := 10) dX10_readRule_1 rfl rfl (by decide) wq_772 uq_10 rfl ha hb h
theorem sX10_readRule_4 {a0 a1 : Value} (h : am_R E d mX10_readRule k n 6 [a0, a1] (.int 15 :: st) S iv Q) : am_R E d mX10_readRule k n 4 [a0, a1] st S iv Q := am_bipush dX10_readRule_4 (by decide) h
theorem sX10_readRule_6 {ls : List Value} {a m : Nat} {i : Int32} (ha : S.1 a = some (.inr (.int, m))) (hi : vp_in i m) (h : am_R E d mX10_readRule k n 7 ls (.int (iv a i.toNatClampNeg) :: st) S iv Q) : am_R E d mX10_readRule k n 6 ls (.int i :: .ref a :: st) S iv Q := am_iaload dX10_readRule_6 ha hi h
theorem sX10_readRule_7 {a0 a1 : Value} (h : am_R E d mX10_readRule k n 8 [a0, a1] (.int 4 :: st) S iv Q) : am_R E d mX10_readRule k n 7 [a0, a1] st S iv Q := am_iconst dX10_readRule_7 (by decide) h
theorem sX10_readRule_8 {ls : List Value} {x y : Int32} (kt : ¬ x = y → am_R E d mX10_readRule k n 16 ls st S iv Q) (kf : x = y → am_R E d mX10_readRule k n 11 ls st S iv Q) : am_R E d mX10_readRule k n 8 ls (.int y :: .int x :: st) S iv Q := am_icmp_ne dX10_readRule_8 (by decide) kt kf
theorem sX10_readRule_11 {a0 a1 : Value} (hv : am_rf a0 = true) (h : am_R E d mX10_readRule k n 12 [a0, a1] (a0 :: st) S iv Q) : am_R E d mX10_readRule k n 11 [a0, a1] st S iv Q := am_aload_n dX10_readRule_11 rfl rfl hv h
theorem sX10_readRule_12 {a0 a1 : Value} (h : am_R E d mX10_readRule k n 13 [a0, a1] (.int 2 :: st) S iv Q) : am_R E d mX10_readRule k n 12 [a0, a1] st S iv Q := am_iconst dX10_readRule_12 (by decide) h
theorem sX10_readRule_13 {ls : List Value} {x1 : Value} {a : Nat} (ha : S.1 a = some (.inl 10)) (hst : (st.map fun v => v.category).sum ≤ 8) (hM : am_M E d mX10_wrong 0 0 [.ref a, x1] S iv (am_K3 E (d + 1) mX10_readRule k n 13 ls st Q)) : am_R E (d + 1) mX10_readRule k n 13 ls (x1 :: .ref a :: st) S iv Q := am_cV (ci := 10) (M' := mX10_wrong) (as := [x1]) dX10_readRule_13 rfl rfl rfl wq_859 wq_860 wq_861 wq_808 wq_857 hy_X10_wrong (by decide) ha hst (by omega) (by omega) hM
theorem sX10_readRule_13_k {ls : List Value} {x1 : Value} {k' n' : Nat} {a : Nat} (ha : S.1 a = some (.inl 10)) (hst : (st.map fun v => v.category).sum ≤ 8) (hM : am_M E d mX10_wrong k' n' [.ref a, x1] S iv (am_K3 E (d + 1) mX10_readRule k n 13 ls st Q)) : am_R E (d + 1) mX10_readRule (k' + k) (n' + n) 13 ls (x1 :: .ref a :: st) S iv Q := am_cV (ci := 10) (M' := mX10_wrong) (as := [x1]) dX10_readRule_13 rfl rfl rfl wq_859 wq_860 wq_861 wq_808 wq_857 hy_X10_wrong (by decide) ha hst (by omega) (by omega) hM
theorem sX10_readRule_16 {a0 a1 : Value} (hv : am_rf a0 = true) (h : am_R E d mX10_readRule k n 17 [a0, a1] (a0 :: st) S iv Q) : am_R E d mX10_readRule k n 16 [a0, a1] st S iv Q := am_aload_n dX10_readRule_16 rfl rfl hv h
theorem sX10_readRule_17 {ls : List Value} {a : Nat} (ha : S.1 a = some (.inl 10)) (h : am_R E d mX10_readRule k n 20 ls (.int (iv a 25) :: st) S iv Q) : am_R E d mX10_readRule k n 17 ls (.ref a :: st) S iv Q := am_getI (ci := 10) dX10_readRule_17 rfl rfl (by decide) wq_838 uq_10 rfl ha h
theorem sX10_readRule_20 {ls : List Value} {x : Int32} (kt : x = 0 → am_R E d mX10_readRule k n 24 ls st S iv Q) (kf : ¬ x = 0 → am_R E d mX10_readRule k n 23 ls st S iv Q) : am_R E d mX10_readRule k n 20 ls (.int x :: st) S iv Q := am_if_eq dX10_readRule_20 (by decide) kt kf
theorem sX10_readRule_23 {ls : List Value} (h : Q (.inl none) S iv) : am_R E d mX10_readRule k n 23 ls [] S iv Q := am_return dX10_readRule_23 rfl h
theorem sX10_readRule_24 {a0 a1 : Value} (hv : am_rf a0 = true) (h : am_R E d mX10_readRule k n 25 [a0, a1] (a0 :: st) S iv Q) : am_R E d mX10_readRule k n 24 [a0, a1] st S iv Q := am_aload_n dX10_readRule_24 rfl rfl hv h
theorem sX10_readRule_25 {ls : List Value} {a : Nat} (ha : S.1 a = some (.inl 10)) (hst : (st.map fun v => v.category).sum ≤ 8) (hM : am_M E d mX10_stepOn 0 0 [.ref a] S iv (am_K3 E (d + 1) mX10_readRule k n 25 ls st Q)) : am_R E (d + 1) mX10_readRule k n 25 ls (.ref a :: st) S iv Q := am_cV (ci := 10) (M' := mX10_stepOn) (as := []) dX10_readRule_25 rfl rfl rfl wq_849 wq_850 wq_851 wq_808 wq_847 hy_X10_stepOn (by decide) ha hst (by omega) (by omega) hM
theorem sX10_readRule_25_k {ls : List Value} {k' n' : Nat} {a : Nat} (ha : S.1 a = some (.inl 10)) (hst : (st.map fun v => v.category).sum ≤ 8) (hM : am_M E d mX10_stepOn k' n' [.ref a] S iv (am_K3 E (d + 1) mX10_readRule k n 25 ls st Q)) : am_R E (d + 1) mX10_readRule (k' + k) (n' + n) 25 ls (.ref a :: st) S iv Q := am_cV (ci := 10) (M' := mX10_stepOn) (as := []) dX10_readRule_25 rfl rfl rfl wq_849 wq_850 wq_851 wq_808 wq_847 hy_X10_stepOn (by decide) ha hst (by omega) (by omega) hM
theorem sX10_readRule_28 {a0 a1 : Value} (h : am_R E d mX10_readRule k n 29 [a0, a1] (.int 4 :: st) S iv Q) : am_R E d mX10_readRule k n 28 [a0, a1] st S iv Q := am_iconst dX10_readRule_28 (by decide) h
theorem sX10_readRule_29 {a0 a1 : Value} (hv : am_rf a0 = true) (h : am_R E d mX10_readRule k n 30 [a0, a1] (a0 :: st) S iv Q) : am_R E d mX10_readRule k n 29 [a0, a1] st S iv Q := am_aload_n dX10_readRule_29 rfl rfl hv h
theorem sX10_readRule_30 {ls : List Value} {a b : Nat} (ha : S.1 a = some (.inl 10)) (hb : S.2.1 a 4 = some b) (h : am_R E d mX10_readRule k n 33 ls (.ref b :: st) S iv Q) : am_R E d mX10_readRule k n 30 ls (.ref a :: st) S iv Q := am_getR (ci := 10) dX10_readRule_30 rfl rfl (by decide) wq_772 uq_10 rfl ha hb h
theorem sX10_readRule_33 {a0 a1 : Value} (h : am_R E d mX10_readRule k n 35 [a0, a1] (.int 15 :: st) S iv Q) : am_R E d mX10_readRule k n 33 [a0, a1] st S iv Q := am_bipush dX10_readRule_33 (by decide) h
theorem sX10_readRule_35 {ls : List Value} {a m : Nat} {i : Int32} (ha : S.1 a = some (.inr (.int, m))) (hi : vp_in i m) (h : am_R E d mX10_readRule k n 36 ls (.int (iv a i.toNatClampNeg) :: st) S iv Q) : am_R E d mX10_readRule k n 35 ls (.int i :: .ref a :: st) S iv Q := am_iaload dX10_readRule_35 ha hi h
theorem sX10_readRule_36 {ls : List Value} {x y : Int32} (h : am_R E d mX10_readRule k n 37 ls (.int (x + y) :: st) S iv Q) : am_R E d mX10_readRule k n 36 ls (.int y :: .int x :: st) S iv Q := am_iadd dX10_readRule_36 h
theorem sX10_readRule_37 {a0 a1 : Value} {x : Int32} (h : am_R E d mX10_readRule k n 38 [a0, .int x] st S iv Q) : am_R E d mX10_readRule k n 37 [a0, a1] (.int x :: st) S iv Q := am_istore_n dX10_readRule_37 rfl (by decide) h
theorem sX10_readRule_38 {a0 a1 : Value} (hv : am_rf a0 = true) (h : am_R E d mX10_readRule k n 39 [a0, a1] (a0 :: st) S iv Q) : am_R E d mX10_readRule k n 38 [a0, a1] st S iv Q := am_aload_n dX10_readRule_38 rfl rfl hv h
theorem sX10_readRule_39 {ls : List Value} {a b : Nat} (ha : S.1 a = some (.inl 10)) (hb : S.2.1 a 13 = some b) (h : am_R E d mX10_readRule k n 42 ls (.ref b :: st) S iv Q) : am_R E d mX10_readRule k n 39 ls (.ref a :: st) S iv Q := am_getR (ci := 10) dX10_readRule_39 rfl rfl (by decide) wq_781 uq_10 rfl ha hb h
theorem sX10_readRule_42 {a0 : Value} {x : Int32} (h : am_R E d mX10_readRule k n 43 [a0, .int x] (.int x :: st) S iv Q) : am_R E d mX10_readRule k n 42 [a0, .int x] st S iv Q := am_iload_n dX10_readRule_42 rfl rfl h
theorem sX10_readRule_43 {a0 a1 : Value} (hv : am_rf a0 = true) (h : am_R E d mX10_readRule k n 44 [a0, a1] (a0 :: st) S iv Q) : am_R E d mX10_readRule k n 43 [a0, a1] st S iv Q := am_aload_n dX10_readRule_43 rfl rfl hv h
theorem sX10_readRule_44 {ls : List Value} {a : Nat} (ha : S.1 a = some (.inl 10)) (h : am_R E d mX10_readRule k n 47 ls (.int (iv a 28) :: st) S iv Q) : am_R E d mX10_readRule k n 44 ls (.ref a :: st) S iv Q := am_getI (ci := 10) dX10_readRule_44 rfl rfl (by decide) wq_867 uq_10 rfl ha h
theorem sX10_readRule_47 {ls : List Value} {a m : Nat} {i x : Int32} (ha : S.1 a = some (.inr (.int, m))) (hi : vp_in i m) (h : am_R E d mX10_readRule k n 48 ls st S (am_w iv a i.toNatClampNeg x) Q) : am_R E d mX10_readRule k n 47 ls (.int x :: .int i :: .ref a :: st) S iv Q := am_iastore dX10_readRule_47 ha hi h
theorem sX10_readRule_48 {a0 a1 : Value} (hv : am_rf a0 = true) (h : am_R E d mX10_readRule k n 49 [a0, a1] (a0 :: st) S iv Q) : am_R E d mX10_readRule k n 48 [a0, a1] st S iv Q := am_aload_n dX10_readRule_48 rfl rfl hv h
theorem sX10_readRule_49 {a0 a1 : Value} (h : am_R E d mX10_readRule k n 50 [a0, a1] (.int 0 :: st) S iv Q) : am_R E d mX10_readRule k n 49 [a0, a1] st S iv Q := am_iconst dX10_readRule_49 (by decide) h
theorem sX10_readRule_50 {ls : List Value} {x1 : Value} {a : Nat} (ha : S.1 a = some (.inl 10)) (hst : (st.map fun v => v.category).sum ≤ 8) (hM : am_M E d mX10_readExpression 0 0 [.ref a, x1] S iv (am_K3 E (d + 1) mX10_readRule k n 50 ls st Q)) : am_R E (d + 1) mX10_readRule k n 50 ls (x1 :: .ref a :: st) S iv Q := am_cV (ci := 10) (M' := mX10_readExpression) (as := [x1]) dX10_readRule_50 rfl rfl rfl wq_890 wq_891 wq_892 wq_808 wq_888 hy_X10_readExpression (by decide) ha hst (by omega) (by omega) hM
theorem sX10_readRule_50_k {ls : List Value} {x1 : Value} {k' n' : Nat} {a : Nat} (ha : S.1 a = some (.inl 10)) (hst : (st.map fun v => v.category).sum ≤ 8) (hM : am_M E d mX10_readExpression k' n' [.ref a, x1] S iv (am_K3 E (d + 1) mX10_readRule k n 50 ls st Q)) : am_R E (d + 1) mX10_readRule (k' + k) (n' + n) 50 ls (x1 :: .ref a :: st) S iv Q := am_cV (ci := 10) (M' := mX10_readExpression) (as := [x1]) dX10_readRule_50 rfl rfl rfl wq_890 wq_891 wq_892 wq_808 wq_888 hy_X10_readExpression (by decide) ha hst (by omega) (by omega) hM
theorem sX10_readRule_53 {a0 a1 : Value} (hv : am_rf a0 = true) (h : am_R E d mX10_readRule k n 54 [a0, a1] (a0 :: st) S iv Q) : am_R E d mX10_readRule k n 53 [a0, a1] st S iv Q := am_aload_n dX10_readRule_53 rfl rfl hv h
theorem sX10_readRule_54 {ls : List Value} {a b : Nat} (ha : S.1 a = some (.inl 10)) (hb : S.2.1 a 14 = some b) (h : am_R E d mX10_readRule k n 57 ls (.ref b :: st) S iv Q) : am_R E d mX10_readRule k n 54 ls (.ref a :: st) S iv Q := am_getR (ci := 10) dX10_readRule_54 rfl rfl (by decide) wq_782 uq_10 rfl ha hb h
theorem sX10_readRule_57 {a0 : Value} {x : Int32} (h : am_R E d mX10_readRule k n 58 [a0, .int x] (.int x :: st) S iv Q) : am_R E d mX10_readRule k n 57 [a0, .int x] st S iv Q := am_iload_n dX10_readRule_57 rfl rfl h
theorem sX10_readRule_58 {a0 a1 : Value} (hv : am_rf a0 = true) (h : am_R E d mX10_readRule k n 59 [a0, a1] (a0 :: st) S iv Q) : am_R E d mX10_readRule k n 58 [a0, a1] st S iv Q := am_aload_n dX10_readRule_58 rfl rfl hv h
theorem sX10_readRule_59 {ls : List Value} {a : Nat} (ha : S.1 a = some (.inl 10)) (h : am_R E d mX10_readRule k n 62 ls (.int (iv a 28) :: st) S iv Q) : am_R E d mX10_readRule k n 59 ls (.ref a :: st) S iv Q := am_getI (ci := 10) dX10_readRule_59 rfl rfl (by decide) wq_867 uq_10 rfl ha h
theorem sX10_readRule_62 {ls : List Value} {a m : Nat} {i x : Int32} (ha : S.1 a = some (.inr (.int, m))) (hi : vp_in i m) (h : am_R E d mX10_readRule k n 63 ls st S (am_w iv a i.toNatClampNeg x) Q) : am_R E d mX10_readRule k n 62 ls (.int x :: .int i :: .ref a :: st) S iv Q := am_iastore dX10_readRule_62 ha hi h
theorem sX10_readRule_63 {a0 a1 : Value} (hv : am_rf a0 = true) (h : am_R E d mX10_readRule k n 64 [a0, a1] (a0 :: st) S iv Q) : am_R E d mX10_readRule k n 63 [a0, a1] st S iv Q := am_aload_n dX10_readRule_63 rfl rfl hv h
theorem sX10_readRule_64 {ls : List Value} {a b : Nat} (ha : S.1 a = some (.inl 10)) (hb : S.2.1 a 4 = some b) (h : am_R E d mX10_readRule k n 67 ls (.ref b :: st) S iv Q) : am_R E d mX10_readRule k n 64 ls (.ref a :: st) S iv Q := am_getR (ci := 10) dX10_readRule_64 rfl rfl (by decide) wq_772 uq_10 rfl ha hb h
theorem sX10_readRule_67 {a0 a1 : Value} (h : am_R E d mX10_readRule k n 69 [a0, a1] (.int 15 :: st) S iv Q) : am_R E d mX10_readRule k n 67 [a0, a1] st S iv Q := am_bipush dX10_readRule_67 (by decide) h
theorem sX10_readRule_69 {ls : List Value} {x y : Value} (hv : x.category = 1) (hu : y.category = 1) (h : am_R E d mX10_readRule k n 70 ls (x :: y :: x :: y :: st) S iv Q) : am_R E d mX10_readRule k n 69 ls (x :: y :: st) S iv Q := am_dup2 dX10_readRule_69 hv hu h
theorem sX10_readRule_70 {ls : List Value} {a m : Nat} {i : Int32} (ha : S.1 a = some (.inr (.int, m))) (hi : vp_in i m) (h : am_R E d mX10_readRule k n 71 ls (.int (iv a i.toNatClampNeg) :: st) S iv Q) : am_R E d mX10_readRule k n 70 ls (.int i :: .ref a :: st) S iv Q := am_iaload dX10_readRule_70 ha hi h
theorem sX10_readRule_71 {a0 a1 : Value} (h : am_R E d mX10_readRule k n 72 [a0, a1] (.int 1 :: st) S iv Q) : am_R E d mX10_readRule k n 71 [a0, a1] st S iv Q := am_iconst dX10_readRule_71 (by decide) h
theorem sX10_readRule_72 {ls : List Value} {x y : Int32} (h : am_R E d mX10_readRule k n 73 ls (.int (x + y) :: st) S iv Q) : am_R E d mX10_readRule k n 72 ls (.int y :: .int x :: st) S iv Q := am_iadd dX10_readRule_72 h
theorem sX10_readRule_73 {ls : List Value} {a m : Nat} {i x : Int32} (ha : S.1 a = some (.inr (.int, m))) (hi : vp_in i m) (h : am_R E d mX10_readRule k n 74 ls st S (am_w iv a i.toNatClampNeg x) Q) : am_R E d mX10_readRule k n 73 ls (.int x :: .int i :: .ref a :: st) S iv Q := am_iastore dX10_readRule_73 ha hi h
theorem sX10_readRule_74 {ls : List Value} (h : Q (.inl none) S iv) : am_R E d mX10_readRule k n 74 ls [] S iv Q := am_return dX10_readRule_74 rfl h
theorem dX10_readOnce_0 : decode cX10_readOnce 0 = .ok (.aload_n 0, 1) := by decide +kernel
theorem dX10_readOnce_1 : decode cX10_readOnce 1 = .ok (.invokevirtual 209, 3) := by decide +kernel
theorem dX10_readOnce_4 : decode cX10_readOnce 4 = .ok (.iload_n 1, 1) := by decide +kernel
theorem dX10_readOnce_5 : decode cX10_readOnce 5 = .ok (.ifCond .ne 20, 3) := by decide +kernel
theorem dX10_readOnce_8 : decode cX10_readOnce 8 = .ok (.aload_n 0, 1) := by decide +kernel
theorem dX10_readOnce_9 : decode cX10_readOnce 9 = .ok (.getfield 49, 3) := by decide +kernel
theorem dX10_readOnce_12 : decode cX10_readOnce 12 = .ok (.bipush 14, 2) := by decide +kernel
theorem dX10_readOnce_14 : decode cX10_readOnce 14 = .ok (.aload_n 0, 1) := by decide +kernel
theorem dX10_readOnce_15 : decode cX10_readOnce 15 = .ok (.iconst 1, 1) := by decide +kernel
theorem dX10_readOnce_16 : decode cX10_readOnce 16 = .ok (.bipush 9, 2) := by decide +kernel
theorem dX10_readOnce_18 : decode cX10_readOnce 18 = .ok (.invokevirtual 225, 3) := by decide +kernel
theorem dX10_readOnce_21 : decode cX10_readOnce 21 = .ok (.iastore, 1) := by decide +kernel
theorem dX10_readOnce_22 : decode cX10_readOnce 22 = .ok (.goto 54, 3) := by decide +kernel
theorem dX10_readOnce_25 : decode cX10_readOnce 25 = .ok (.iload_n 1, 1) := by decide +kernel
theorem dX10_readOnce_26 : decode cX10_readOnce 26 = .ok (.iconst 2, 1) := by decide +kernel
theorem dX10_readOnce_27 : decode cX10_readOnce 27 = .ok (.if_icmp .ne 21, 3) := by decide +kernel
theorem dX10_readOnce_30 : decode cX10_readOnce 30 = .ok (.aload_n 0, 1) := by decide +kernel
theorem dX10_readOnce_31 : decode cX10_readOnce 31 = .ok (.getfield 49, 3) := by decide +kernel
theorem dX10_readOnce_34 : decode cX10_readOnce 34 = .ok (.bipush 19, 2) := by decide +kernel
theorem dX10_readOnce_36 : decode cX10_readOnce 36 = .ok (.aload_n 0, 1) := by decide +kernel
theorem dX10_readOnce_37 : decode cX10_readOnce 37 = .ok (.iconst 0, 1) := by decide +kernel
theorem dX10_readOnce_38 : decode cX10_readOnce 38 = .ok (.sipush 1000, 3) := by decide +kernel
theorem dX10_readOnce_41 : decode cX10_readOnce 41 = .ok (.invokevirtual 225, 3) := by decide +kernel
theorem dX10_readOnce_44 : decode cX10_readOnce 44 = .ok (.iastore, 1) := by decide +kernel
theorem dX10_readOnce_45 : decode cX10_readOnce 45 = .ok (.goto 31, 3) := by decide +kernel
theorem dX10_readOnce_48 : decode cX10_readOnce 48 = .ok (.bipush 16, 2) := by decide +kernel
theorem dX10_readOnce_50 : decode cX10_readOnce 50 = .ok (.istore_n 2, 1) := by decide +kernel
theorem dX10_readOnce_51 : decode cX10_readOnce 51 = .ok (.iload_n 2, 1) := by decide +kernel
theorem dX10_readOnce_52 : decode cX10_readOnce 52 = .ok (.bipush 19, 2) := by decide +kernel
theorem dX10_readOnce_54 : decode cX10_readOnce 54 = .ok (.if_icmp .ge 22, 3) := by decide +kernel
theorem dX10_readOnce_57 : decode cX10_readOnce 57 = .ok (.aload_n 0, 1) := by decide +kernel
theorem dX10_readOnce_58 : decode cX10_readOnce 58 = .ok (.getfield 49, 3) := by decide +kernel
theorem dX10_readOnce_61 : decode cX10_readOnce 61 = .ok (.iload_n 2, 1) := by decide +kernel
theorem dX10_readOnce_62 : decode cX10_readOnce 62 = .ok (.aload_n 0, 1) := by decide +kernel
theorem dX10_readOnce_63 : decode cX10_readOnce 63 = .ok (.iconst 0, 1) := by decide +kernel
theorem dX10_readOnce_64 : decode cX10_readOnce 64 = .ok (.bipush 99, 2) := by decide +kernel
theorem dX10_readOnce_66 : decode cX10_readOnce 66 = .ok (.invokevirtual 225, 3) := by decide +kernel
theorem dX10_readOnce_69 : decode cX10_readOnce 69 = .ok (.iastore, 1) := by decide +kernel
theorem dX10_readOnce_70 : decode cX10_readOnce 70 = .ok (.iinc 2 1, 3) := by decide +kernel
theorem dX10_readOnce_73 : decode cX10_readOnce 73 = .ok (.goto (-22), 3) := by decide +kernel
theorem dX10_readOnce_76 : decode cX10_readOnce 76 = .ok (.return_, 1) := by decide +kernel
theorem sX10_readOnce_0 {a0 a1 a2 : Value} (hv : am_rf a0 = true) (h : am_R E d mX10_readOnce k n 1 [a0, a1, a2] (a0 :: st) S iv Q) : am_R E d mX10_readOnce k n 0 [a0, a1, a2] st S iv Q := am_aload_n dX10_readOnce_0 rfl rfl hv h
theorem sX10_readOnce_1 {ls : List Value} {a : Nat} (ha : S.1 a = some (.inl 10)) (hst : (st.map fun v => v.category).sum ≤ 8) (hM : am_M E d mX10_stepOn 0 0 [.ref a] S iv (am_K3 E (d + 1) mX10_readOnce k n 1 ls st Q)) : am_R E (d + 1) mX10_readOnce k n 1 ls (.ref a :: st) S iv Q := am_cV (ci := 10) (M' := mX10_stepOn) (as := []) dX10_readOnce_1 rfl rfl rfl wq_849 wq_850 wq_851 wq_808 wq_847 hy_X10_stepOn (by decide) ha hst (by omega) (by omega) hM
theorem sX10_readOnce_1_k {ls : List Value} {k' n' : Nat} {a : Nat} (ha : S.1 a = some (.inl 10)) (hst : (st.map fun v => v.category).sum ≤ 8) (hM : am_M E d mX10_stepOn k' n' [.ref a] S iv (am_K3 E (d + 1) mX10_readOnce k n 1 ls st Q)) : am_R E (d + 1) mX10_readOnce (k' + k) (n' + n) 1 ls (.ref a :: st) S iv Q := am_cV (ci := 10) (M' := mX10_stepOn) (as := []) dX10_readOnce_1 rfl rfl rfl wq_849 wq_850 wq_851 wq_808 wq_847 hy_X10_stepOn (by decide) ha hst (by omega) (by omega) hM
theorem sX10_readOnce_4 {a0 a2 : Value} {x : Int32} (h : am_R E d mX10_readOnce k n 5 [a0, .int x, a2] (.int x :: st) S iv Q) : am_R E d mX10_readOnce k n 4 [a0, .int x, a2] st S iv Q := am_iload_n dX10_readOnce_4 rfl rfl h
theorem sX10_readOnce_5 {ls : List Value} {x : Int32} (kt : ¬ x = 0 → am_R E d mX10_readOnce k n 25 ls st S iv Q) (kf : x = 0 → am_R E d mX10_readOnce k n 8 ls st S iv Q) : am_R E d mX10_readOnce k n 5 ls (.int x :: st) S iv Q := am_if_ne dX10_readOnce_5 (by decide) kt kf
theorem sX10_readOnce_8 {a0 a1 a2 : Value} (hv : am_rf a0 = true) (h : am_R E d mX10_readOnce k n 9 [a0, a1, a2] (a0 :: st) S iv Q) : am_R E d mX10_readOnce k n 8 [a0, a1, a2] st S iv Q := am_aload_n dX10_readOnce_8 rfl rfl hv h
theorem sX10_readOnce_9 {ls : List Value} {a b : Nat} (ha : S.1 a = some (.inl 10)) (hb : S.2.1 a 4 = some b) (h : am_R E d mX10_readOnce k n 12 ls (.ref b :: st) S iv Q) : am_R E d mX10_readOnce k n 9 ls (.ref a :: st) S iv Q := am_getR (ci := 10) dX10_readOnce_9 rfl rfl (by decide) wq_772 uq_10 rfl ha hb h
theorem sX10_readOnce_12 {a0 a1 a2 : Value} (h : am_R E d mX10_readOnce k n 14 [a0, a1, a2] (.int 14 :: st) S iv Q) : am_R E d mX10_readOnce k n 12 [a0, a1, a2] st S iv Q := am_bipush dX10_readOnce_12 (by decide) h
theorem sX10_readOnce_14 {a0 a1 a2 : Value} (hv : am_rf a0 = true) (h : am_R E d mX10_readOnce k n 15 [a0, a1, a2] (a0 :: st) S iv Q) : am_R E d mX10_readOnce k n 14 [a0, a1, a2] st S iv Q := am_aload_n dX10_readOnce_14 rfl rfl hv h
theorem sX10_readOnce_15 {a0 a1 a2 : Value} (h : am_R E d mX10_readOnce k n 16 [a0, a1, a2] (.int 1 :: st) S iv Q) : am_R E d mX10_readOnce k n 15 [a0, a1, a2] st S iv Q := am_iconst dX10_readOnce_15 (by decide) h
theorem sX10_readOnce_16 {a0 a1 a2 : Value} (h : am_R E d mX10_readOnce k n 18 [a0, a1, a2] (.int 9 :: st) S iv Q) : am_R E d mX10_readOnce k n 16 [a0, a1, a2] st S iv Q := am_bipush dX10_readOnce_16 (by decide) h
theorem sX10_readOnce_18 {ls : List Value} {x1 x2 : Value} {a : Nat} (ha : S.1 a = some (.inl 10)) (hst : (st.map fun v => v.category).sum ≤ 8) (hM : am_M E d mX10_readNumber 0 0 [.ref a, x1, x2] S iv (am_K3 E (d + 1) mX10_readOnce k n 18 ls st Q)) : am_R E (d + 1) mX10_readOnce k n 18 ls (x2 :: x1 :: .ref a :: st) S iv Q := am_cV (ci := 10) (M' := mX10_readNumber) (as := [x1, x2]) dX10_readOnce_18 rfl rfl rfl wq_870 wq_871 wq_872 wq_808 wq_868 hy_X10_readNumber (by decide) ha hst (by omega) (by omega) hM
theorem sX10_readOnce_18_k {ls : List Value} {x1 x2 : Value} {k' n' : Nat} {a : Nat} (ha : S.1 a = some (.inl 10)) (hst : (st.map fun v => v.category).sum ≤ 8) (hM : am_M E d mX10_readNumber k' n' [.ref a, x1, x2] S iv (am_K3 E (d + 1) mX10_readOnce k n 18 ls st Q)) : am_R E (d + 1) mX10_readOnce (k' + k) (n' + n) 18 ls (x2 :: x1 :: .ref a :: st) S iv Q := am_cV (ci := 10) (M' := mX10_readNumber) (as := [x1, x2]) dX10_readOnce_18 rfl rfl rfl wq_870 wq_871 wq_872 wq_808 wq_868 hy_X10_readNumber (by decide) ha hst (by omega) (by omega) hM
theorem sX10_readOnce_21 {ls : List Value} {a m : Nat} {i x : Int32} (ha : S.1 a = some (.inr (.int, m))) (hi : vp_in i m) (h : am_R E d mX10_readOnce k n 22 ls st S (am_w iv a i.toNatClampNeg x) Q) : am_R E d mX10_readOnce k n 21 ls (.int x :: .int i :: .ref a :: st) S iv Q := am_iastore dX10_readOnce_21 ha hi h
theorem sX10_readOnce_22 {ls : List Value} (h : am_R E d mX10_readOnce k n 76 ls st S iv Q) : am_R E d mX10_readOnce k n 22 ls st S iv Q := am_goto dX10_readOnce_22 (by decide) h
theorem sX10_readOnce_25 {a0 a2 : Value} {x : Int32} (h : am_R E d mX10_readOnce k n 26 [a0, .int x, a2] (.int x :: st) S iv Q) : am_R E d mX10_readOnce k n 25 [a0, .int x, a2] st S iv Q := am_iload_n dX10_readOnce_25 rfl rfl h
theorem sX10_readOnce_26 {a0 a1 a2 : Value} (h : am_R E d mX10_readOnce k n 27 [a0, a1, a2] (.int 2 :: st) S iv Q) : am_R E d mX10_readOnce k n 26 [a0, a1, a2] st S iv Q := am_iconst dX10_readOnce_26 (by decide) h
theorem sX10_readOnce_27 {ls : List Value} {x y : Int32} (kt : ¬ x = y → am_R E d mX10_readOnce k n 48 ls st S iv Q) (kf : x = y → am_R E d mX10_readOnce k n 30 ls st S iv Q) : am_R E d mX10_readOnce k n 27 ls (.int y :: .int x :: st) S iv Q := am_icmp_ne dX10_readOnce_27 (by decide) kt kf
theorem sX10_readOnce_30 {a0 a1 a2 : Value} (hv : am_rf a0 = true) (h : am_R E d mX10_readOnce k n 31 [a0, a1, a2] (a0 :: st) S iv Q) : am_R E d mX10_readOnce k n 30 [a0, a1, a2] st S iv Q := am_aload_n dX10_readOnce_30 rfl rfl hv h
theorem sX10_readOnce_31 {ls : List Value} {a b : Nat} (ha : S.1 a = some (.inl 10)) (hb : S.2.1 a 4 = some b) (h : am_R E d mX10_readOnce k n 34 ls (.ref b :: st) S iv Q) : am_R E d mX10_readOnce k n 31 ls (.ref a :: st) S iv Q := am_getR (ci := 10) dX10_readOnce_31 rfl rfl (by decide) wq_772 uq_10 rfl ha hb h
theorem sX10_readOnce_34 {a0 a1 a2 : Value} (h : am_R E d mX10_readOnce k n 36 [a0, a1, a2] (.int 19 :: st) S iv Q) : am_R E d mX10_readOnce k n 34 [a0, a1, a2] st S iv Q := am_bipush dX10_readOnce_34 (by decide) h
theorem sX10_readOnce_36 {a0 a1 a2 : Value} (hv : am_rf a0 = true) (h : am_R E d mX10_readOnce k n 37 [a0, a1, a2] (a0 :: st) S iv Q) : am_R E d mX10_readOnce k n 36 [a0, a1, a2] st S iv Q := am_aload_n dX10_readOnce_36 rfl rfl hv h
theorem sX10_readOnce_37 {a0 a1 a2 : Value} (h : am_R E d mX10_readOnce k n 38 [a0, a1, a2] (.int 0 :: st) S iv Q) : am_R E d mX10_readOnce k n 37 [a0, a1, a2] st S iv Q := am_iconst dX10_readOnce_37 (by decide) h
theorem sX10_readOnce_38 {a0 a1 a2 : Value} (h : am_R E d mX10_readOnce k n 41 [a0, a1, a2] (.int 1000 :: st) S iv Q) : am_R E d mX10_readOnce k n 38 [a0, a1, a2] st S iv Q := am_sipush dX10_readOnce_38 (by decide) h
theorem sX10_readOnce_41 {ls : List Value} {x1 x2 : Value} {a : Nat} (ha : S.1 a = some (.inl 10)) (hst : (st.map fun v => v.category).sum ≤ 8) (hM : am_M E d mX10_readNumber 0 0 [.ref a, x1, x2] S iv (am_K3 E (d + 1) mX10_readOnce k n 41 ls st Q)) : am_R E (d + 1) mX10_readOnce k n 41 ls (x2 :: x1 :: .ref a :: st) S iv Q := am_cV (ci := 10) (M' := mX10_readNumber) (as := [x1, x2]) dX10_readOnce_41 rfl rfl rfl wq_870 wq_871 wq_872 wq_808 wq_868 hy_X10_readNumber (by decide) ha hst (by omega) (by omega) hM
theorem sX10_readOnce_41_k {ls : List Value} {x1 x2 : Value} {k' n' : Nat} {a : Nat} (ha : S.1 a = some (.inl 10)) (hst : (st.map fun v => v.category).sum ≤ 8) (hM : am_M E d mX10_readNumber k' n' [.ref a, x1, x2] S iv (am_K3 E (d + 1) mX10_readOnce k n 41 ls st Q)) : am_R E (d + 1) mX10_readOnce (k' + k) (n' + n) 41 ls (x2 :: x1 :: .ref a :: st) S iv Q := am_cV (ci := 10) (M' := mX10_readNumber) (as := [x1, x2]) dX10_readOnce_41 rfl rfl rfl wq_870 wq_871 wq_872 wq_808 wq_868 hy_X10_readNumber (by decide) ha hst (by omega) (by omega) hM
theorem sX10_readOnce_44 {ls : List Value} {a m : Nat} {i x : Int32} (ha : S.1 a = some (.inr (.int, m))) (hi : vp_in i m) (h : am_R E d mX10_readOnce k n 45 ls st S (am_w iv a i.toNatClampNeg x) Q) : am_R E d mX10_readOnce k n 44 ls (.int x :: .int i :: .ref a :: st) S iv Q := am_iastore dX10_readOnce_44 ha hi h
theorem sX10_readOnce_45 {ls : List Value} (h : am_R E d mX10_readOnce k n 76 ls st S iv Q) : am_R E d mX10_readOnce k n 45 ls st S iv Q := am_goto dX10_readOnce_45 (by decide) h
theorem sX10_readOnce_48 {a0 a1 a2 : Value} (h : am_R E d mX10_readOnce k n 50 [a0, a1, a2] (.int 16 :: st) S iv Q) : am_R E d mX10_readOnce k n 48 [a0, a1, a2] st S iv Q := am_bipush dX10_readOnce_48 (by decide) h
theorem sX10_readOnce_50 {a0 a1 a2 : Value} {x : Int32} (h : am_R E d mX10_readOnce k n 51 [a0, a1, .int x] st S iv Q) : am_R E d mX10_readOnce k n 50 [a0, a1, a2] (.int x :: st) S iv Q := am_istore_n dX10_readOnce_50 rfl (by decide) h
theorem sX10_readOnce_51 {a0 a1 : Value} {x : Int32} (h : am_R E d mX10_readOnce k n 52 [a0, a1, .int x] (.int x :: st) S iv Q) : am_R E d mX10_readOnce k n 51 [a0, a1, .int x] st S iv Q := am_iload_n dX10_readOnce_51 rfl rfl h
theorem sX10_readOnce_52 {a0 a1 a2 : Value} (h : am_R E d mX10_readOnce k n 54 [a0, a1, a2] (.int 19 :: st) S iv Q) : am_R E d mX10_readOnce k n 52 [a0, a1, a2] st S iv Q := am_bipush dX10_readOnce_52 (by decide) h
theorem sX10_readOnce_54 {ls : List Value} {x y : Int32} (kt : y ≤ x → am_R E d mX10_readOnce k n 76 ls st S iv Q) (kf : ¬ y ≤ x → am_R E d mX10_readOnce k n 57 ls st S iv Q) : am_R E d mX10_readOnce k n 54 ls (.int y :: .int x :: st) S iv Q := am_icmp_ge dX10_readOnce_54 (by decide) kt kf
theorem sX10_readOnce_57 {a0 a1 a2 : Value} (hv : am_rf a0 = true) (h : am_R E d mX10_readOnce k n 58 [a0, a1, a2] (a0 :: st) S iv Q) : am_R E d mX10_readOnce k n 57 [a0, a1, a2] st S iv Q := am_aload_n dX10_readOnce_57 rfl rfl hv h
theorem sX10_readOnce_58 {ls : List Value} {a b : Nat} (ha : S.1 a = some (.inl 10)) (hb : S.2.1 a 4 = some b) (h : am_R E d mX10_readOnce k n 61 ls (.ref b :: st) S iv Q) : am_R E d mX10_readOnce k n 58 ls (.ref a :: st) S iv Q := am_getR (ci := 10) dX10_readOnce_58 rfl rfl (by decide) wq_772 uq_10 rfl ha hb h
theorem sX10_readOnce_61 {a0 a1 : Value} {x : Int32} (h : am_R E d mX10_readOnce k n 62 [a0, a1, .int x] (.int x :: st) S iv Q) : am_R E d mX10_readOnce k n 61 [a0, a1, .int x] st S iv Q := am_iload_n dX10_readOnce_61 rfl rfl h
theorem sX10_readOnce_62 {a0 a1 a2 : Value} (hv : am_rf a0 = true) (h : am_R E d mX10_readOnce k n 63 [a0, a1, a2] (a0 :: st) S iv Q) : am_R E d mX10_readOnce k n 62 [a0, a1, a2] st S iv Q := am_aload_n dX10_readOnce_62 rfl rfl hv h
theorem sX10_readOnce_63 {a0 a1 a2 : Value} (h : am_R E d mX10_readOnce k n 64 [a0, a1, a2] (.int 0 :: st) S iv Q) : am_R E d mX10_readOnce k n 63 [a0, a1, a2] st S iv Q := am_iconst dX10_readOnce_63 (by decide) h
theorem sX10_readOnce_64 {a0 a1 a2 : Value} (h : am_R E d mX10_readOnce k n 66 [a0, a1, a2] (.int 99 :: st) S iv Q) : am_R E d mX10_readOnce k n 64 [a0, a1, a2] st S iv Q := am_bipush dX10_readOnce_64 (by decide) h
theorem sX10_readOnce_66 {ls : List Value} {x1 x2 : Value} {a : Nat} (ha : S.1 a = some (.inl 10)) (hst : (st.map fun v => v.category).sum ≤ 8) (hM : am_M E d mX10_readNumber 0 0 [.ref a, x1, x2] S iv (am_K3 E (d + 1) mX10_readOnce k n 66 ls st Q)) : am_R E (d + 1) mX10_readOnce k n 66 ls (x2 :: x1 :: .ref a :: st) S iv Q := am_cV (ci := 10) (M' := mX10_readNumber) (as := [x1, x2]) dX10_readOnce_66 rfl rfl rfl wq_870 wq_871 wq_872 wq_808 wq_868 hy_X10_readNumber (by decide) ha hst (by omega) (by omega) hM
theorem sX10_readOnce_66_k {ls : List Value} {x1 x2 : Value} {k' n' : Nat} {a : Nat} (ha : S.1 a = some (.inl 10)) (hst : (st.map fun v => v.category).sum ≤ 8) (hM : am_M E d mX10_readNumber k' n' [.ref a, x1, x2] S iv (am_K3 E (d + 1) mX10_readOnce k n 66 ls st Q)) : am_R E (d + 1) mX10_readOnce (k' + k) (n' + n) 66 ls (x2 :: x1 :: .ref a :: st) S iv Q := am_cV (ci := 10) (M' := mX10_readNumber) (as := [x1, x2]) dX10_readOnce_66 rfl rfl rfl wq_870 wq_871 wq_872 wq_808 wq_868 hy_X10_readNumber (by decide) ha hst (by omega) (by omega) hM
theorem sX10_readOnce_69 {ls : List Value} {a m : Nat} {i x : Int32} (ha : S.1 a = some (.inr (.int, m))) (hi : vp_in i m) (h : am_R E d mX10_readOnce k n 70 ls st S (am_w iv a i.toNatClampNeg x) Q) : am_R E d mX10_readOnce k n 69 ls (.int x :: .int i :: .ref a :: st) S iv Q := am_iastore dX10_readOnce_69 ha hi h
theorem sX10_readOnce_70 {a0 a1 : Value} {x : Int32} (h : am_R E d mX10_readOnce k n 73 [a0, a1, .int (x + 1)] st S iv Q) : am_R E d mX10_readOnce k n 70 [a0, a1, .int x] st S iv Q := am_iinc dX10_readOnce_70 rfl rfl (by decide) h
theorem sX10_readOnce_73 {ls : List Value} (h : am_R E d mX10_readOnce k n 51 ls st S iv Q) : am_R E d mX10_readOnce k n 73 ls st S iv Q := am_goto dX10_readOnce_73 (by decide) h
theorem sX10_readOnce_76 {ls : List Value} (h : Q (.inl none) S iv) : am_R E d mX10_readOnce k n 76 ls [] S iv Q := am_return dX10_readOnce_76 rfl h
theorem dX10_readLine_0 : decode cX10_readLine 0 = .ok (.aload_n 0, 1) := by decide +kernel
theorem dX10_readLine_1 : decode cX10_readLine 1 = .ok (.aload_n 0, 1) := by decide +kernel
theorem dX10_readLine_2 : decode cX10_readLine 2 = .ok (.getfield 17, 3) := by decide +kernel
theorem dX10_readLine_5 : decode cX10_readLine 5 = .ok (.invokevirtual 231, 3) := by decide +kernel
theorem dX10_readLine_8 : decode cX10_readLine 8 = .ok (.istore_n 2, 1) := by decide +kernel
theorem dX10_readLine_9 : decode cX10_readLine 9 = .ok (.aload_n 0, 1) := by decide +kernel
theorem dX10_readLine_10 : decode cX10_readLine 10 = .ok (.aload_n 0, 1) := by decide +kernel
theorem dX10_readLine_11 : decode cX10_readLine 11 = .ok (.getfield 29, 3) := by decide +kernel
theorem dX10_readLine_14 : decode cX10_readLine 14 = .ok (.invokevirtual 231, 3) := by decide +kernel
theorem dX10_readLine_17 : decode cX10_readLine 17 = .ok (.istore_n 3, 1) := by decide +kernel
theorem dX10_readLine_18 : decode cX10_readLine 18 = .ok (.aload_n 0, 1) := by decide +kernel
theorem dX10_readLine_19 : decode cX10_readLine 19 = .ok (.ldc_w 275, 3) := by decide +kernel
theorem dX10_readLine_22 : decode cX10_readLine 22 = .ok (.invokevirtual 205, 3) := by decide +kernel
theorem dX10_readLine_25 : decode cX10_readLine 25 = .ok (.ifCond .eq 8, 3) := by decide +kernel
theorem dX10_readLine_28 : decode cX10_readLine 28 = .ok (.bipush 16, 2) := by decide +kernel
theorem dX10_readLine_30 : decode cX10_readLine 30 = .ok (.goto 16, 3) := by decide +kernel
theorem dX10_readLine_33 : decode cX10_readLine 33 = .ok (.iload_n 3, 1) := by decide +kernel
theorem dX10_readLine_34 : decode cX10_readLine 34 = .ok (.iconst (-1), 1) := by decide +kernel
theorem dX10_readLine_35 : decode cX10_readLine 35 = .ok (.if_icmp .ne 8, 3) := by decide +kernel
theorem dX10_readLine_38 : decode cX10_readLine 38 = .ok (.bipush 32, 2) := by decide +kernel
theorem dX10_readLine_40 : decode cX10_readLine 40 = .ok (.goto 6, 3) := by decide +kernel
theorem dX10_readLine_43 : decode cX10_readLine 43 = .ok (.iconst 1, 1) := by decide +kernel
theorem dX10_readLine_44 : decode cX10_readLine 44 = .ok (.iload_n 3, 1) := by decide +kernel
theorem dX10_readLine_45 : decode cX10_readLine 45 = .ok (.ishl, 1) := by decide +kernel
theorem dX10_readLine_46 : decode cX10_readLine 46 = .ok (.istore 4, 2) := by decide +kernel
theorem dX10_readLine_48 : decode cX10_readLine 48 = .ok (.iload 4, 2) := by decide +kernel
theorem dX10_readLine_50 : decode cX10_readLine 50 = .ok (.bipush 16, 2) := by decide +kernel
theorem dX10_readLine_52 : decode cX10_readLine 52 = .ok (.if_icmp .ne 7, 3) := by decide +kernel
theorem dX10_readLine_55 : decode cX10_readLine 55 = .ok (.iload_n 1, 1) := by decide +kernel
theorem dX10_readLine_56 : decode cX10_readLine 56 = .ok (.ifCond .ne 17, 3) := by decide +kernel
theorem dX10_readLine_59 : decode cX10_readLine 59 = .ok (.iload 4, 2) := by decide +kernel
theorem dX10_readLine_61 : decode cX10_readLine 61 = .ok (.bipush 16, 2) := by decide +kernel
theorem dX10_readLine_63 : decode cX10_readLine 63 = .ok (.if_icmp .ge 15, 3) := by decide +kernel
theorem dX10_readLine_66 : decode cX10_readLine 66 = .ok (.iload_n 1, 1) := by decide +kernel
theorem dX10_readLine_67 : decode cX10_readLine 67 = .ok (.iload 4, 2) := by decide +kernel
theorem dX10_readLine_69 : decode cX10_readLine 69 = .ok (.iand, 1) := by decide +kernel
theorem dX10_readLine_70 : decode cX10_readLine 70 = .ok (.ifCond .eq 8, 3) := by decide +kernel
theorem dX10_readLine_73 : decode cX10_readLine 73 = .ok (.aload_n 0, 1) := by decide +kernel
theorem dX10_readLine_74 : decode cX10_readLine 74 = .ok (.iconst 4, 1) := by decide +kernel
theorem dX10_readLine_75 : decode cX10_readLine 75 = .ok (.invokevirtual 215, 3) := by decide +kernel
theorem dX10_readLine_78 : decode cX10_readLine 78 = .ok (.iload_n 2, 1) := by decide +kernel
theorem dX10_readLine_79 : decode cX10_readLine 79 = .ok (.iconst (-1), 1) := by decide +kernel
theorem dX10_readLine_80 : decode cX10_readLine 80 = .ok (.if_icmp .eq 11, 3) := by decide +kernel
theorem dX10_readLine_83 : decode cX10_readLine 83 = .ok (.aload_n 0, 1) := by decide +kernel
theorem dX10_readLine_84 : decode cX10_readLine 84 = .ok (.iload_n 2, 1) := by decide +kernel
theorem dX10_readLine_85 : decode cX10_readLine 85 = .ok (.invokevirtual 277, 3) := by decide +kernel
theorem dX10_readLine_88 : decode cX10_readLine 88 = .ok (.goto 108, 3) := by decide +kernel
theorem dX10_readLine_91 : decode cX10_readLine 91 = .ok (.aload_n 0, 1) := by decide +kernel
theorem dX10_readLine_92 : decode cX10_readLine 92 = .ok (.ldc_w 280, 3) := by decide +kernel
theorem dX10_readLine_95 : decode cX10_readLine 95 = .ok (.invokevirtual 205, 3) := by decide +kernel
theorem dX10_readLine_98 : decode cX10_readLine 98 = .ok (.ifCond .eq 10, 3) := by decide +kernel
theorem dX10_readLine_101 : decode cX10_readLine 101 = .ok (.aload_n 0, 1) := by decide +kernel
theorem dX10_readLine_102 : decode cX10_readLine 102 = .ok (.invokevirtual 282, 3) := by decide +kernel
theorem dX10_readLine_105 : decode cX10_readLine 105 = .ok (.goto 91, 3) := by decide +kernel
theorem dX10_readLine_108 : decode cX10_readLine 108 = .ok (.aload_n 0, 1) := by decide +kernel
theorem dX10_readLine_109 : decode cX10_readLine 109 = .ok (.ldc_w 285, 3) := by decide +kernel
theorem dX10_readLine_112 : decode cX10_readLine 112 = .ok (.invokevirtual 205, 3) := by decide +kernel
theorem dX10_readLine_115 : decode cX10_readLine 115 = .ok (.ifCond .eq 10, 3) := by decide +kernel
theorem dX10_readLine_118 : decode cX10_readLine 118 = .ok (.aload_n 0, 1) := by decide +kernel
theorem dX10_readLine_119 : decode cX10_readLine 119 = .ok (.invokevirtual 287, 3) := by decide +kernel
theorem dX10_readLine_122 : decode cX10_readLine 122 = .ok (.goto 74, 3) := by decide +kernel
theorem dX10_readLine_125 : decode cX10_readLine 125 = .ok (.iload_n 3, 1) := by decide +kernel
theorem dX10_readLine_126 : decode cX10_readLine 126 = .ok (.iconst (-1), 1) := by decide +kernel
theorem dX10_readLine_127 : decode cX10_readLine 127 = .ok (.if_icmp .eq 18, 3) := by decide +kernel
theorem dX10_readLine_130 : decode cX10_readLine 130 = .ok (.aload_n 0, 1) := by decide +kernel
theorem dX10_readLine_131 : decode cX10_readLine 131 = .ok (.getfield 192, 3) := by decide +kernel
theorem dX10_readLine_134 : decode cX10_readLine 134 = .ok (.ifCond .ne 11, 3) := by decide +kernel
theorem dX10_readLine_137 : decode cX10_readLine 137 = .ok (.aload_n 0, 1) := by decide +kernel
theorem dX10_readLine_138 : decode cX10_readLine 138 = .ok (.iload_n 3, 1) := by decide +kernel
theorem dX10_readLine_139 : decode cX10_readLine 139 = .ok (.invokevirtual 290, 3) := by decide +kernel
theorem dX10_readLine_142 : decode cX10_readLine 142 = .ok (.goto 54, 3) := by decide +kernel
theorem dX10_readLine_145 : decode cX10_readLine 145 = .ok (.iload 4, 2) := by decide +kernel
theorem dX10_readLine_147 : decode cX10_readLine 147 = .ok (.bipush 16, 2) := by decide +kernel
theorem dX10_readLine_149 : decode cX10_readLine 149 = .ok (.if_icmp .eq 8, 3) := by decide +kernel
theorem dX10_readLine_152 : decode cX10_readLine 152 = .ok (.aload_n 0, 1) := by decide +kernel
theorem dX10_readLine_153 : decode cX10_readLine 153 = .ok (.iconst 1, 1) := by decide +kernel
theorem dX10_readLine_154 : decode cX10_readLine 154 = .ok (.invokevirtual 215, 3) := by decide +kernel
theorem dX10_readLine_157 : decode cX10_readLine 157 = .ok (.aload_n 0, 1) := by decide +kernel
theorem dX10_readLine_158 : decode cX10_readLine 158 = .ok (.getfield 192, 3) := by decide +kernel
theorem dX10_readLine_161 : decode cX10_readLine 161 = .ok (.ifCond .ne 7, 3) := by decide +kernel
theorem dX10_readLine_164 : decode cX10_readLine 164 = .ok (.aload_n 0, 1) := by decide +kernel
theorem dX10_readLine_165 : decode cX10_readLine 165 = .ok (.invokevirtual 209, 3) := by decide +kernel
theorem dX10_readLine_168 : decode cX10_readLine 168 = .ok (.aload_n 0, 1) := by decide +kernel
theorem dX10_readLine_169 : decode cX10_readLine 169 = .ok (.getfield 49, 3) := by decide +kernel
theorem dX10_readLine_172 : decode cX10_readLine 172 = .ok (.bipush 10, 2) := by decide +kernel
theorem dX10_readLine_174 : decode cX10_readLine 174 = .ok (.aload_n 0, 1) := by decide +kernel
theorem dX10_readLine_175 : decode cX10_readLine 175 = .ok (.iconst 1, 1) := by decide +kernel
theorem dX10_readLine_176 : decode cX10_readLine 176 = .ok (.bipush 6, 2) := by decide +kernel
theorem dX10_readLine_178 : decode cX10_readLine 178 = .ok (.invokevirtual 225, 3) := by decide +kernel
theorem dX10_readLine_181 : decode cX10_readLine 181 = .ok (.iastore, 1) := by decide +kernel
theorem dX10_readLine_182 : decode cX10_readLine 182 = .ok (.aload_n 0, 1) := by decide +kernel
theorem dX10_readLine_183 : decode cX10_readLine 183 = .ok (.getfield 49, 3) := by decide +kernel
theorem dX10_readLine_186 : decode cX10_readLine 186 = .ok (.bipush 11, 2) := by decide +kernel
theorem dX10_readLine_188 : decode cX10_readLine 188 = .ok (.aload_n 0, 1) := by decide +kernel
theorem dX10_readLine_189 : decode cX10_readLine 189 = .ok (.iconst 1, 1) := by decide +kernel
theorem dX10_readLine_190 : decode cX10_readLine 190 = .ok (.bipush 9, 2) := by decide +kernel
theorem dX10_readLine_192 : decode cX10_readLine 192 = .ok (.invokevirtual 225, 3) := by decide +kernel
theorem dX10_readLine_195 : decode cX10_readLine 195 = .ok (.iastore, 1) := by decide +kernel
theorem dX10_readLine_196 : decode cX10_readLine 196 = .ok (.aload_n 0, 1) := by decide +kernel
theorem dX10_readLine_197 : decode cX10_readLine 197 = .ok (.bipush 59, 2) := by decide +kernel
theorem dX10_readLine_199 : decode cX10_readLine 199 = .ok (.invokevirtual 235, 3) := by decide +kernel
theorem dX10_readLine_202 : decode cX10_readLine 202 = .ok (.iload_n 1, 1) := by decide +kernel
theorem dX10_readLine_203 : decode cX10_readLine 203 = .ok (.iload 4, 2) := by decide +kernel
theorem dX10_readLine_205 : decode cX10_readLine 205 = .ok (.ior, 1) := by decide +kernel
theorem dX10_readLine_206 : decode cX10_readLine 206 = .ok (.ireturn, 1) := by decide +kernel
theorem sX10_readLine_0 {a0 a1 a2 a3 a4 : Value} (hv : am_rf a0 = true) (h : am_R E d mX10_readLine k n 1 [a0, a1, a2, a3, a4] (a0 :: st) S iv Q) : am_R E d mX10_readLine k n 0 [a0, a1, a2, a3, a4] st S iv Q := am_aload_n dX10_readLine_0 rfl rfl hv h
theorem sX10_readLine_1 {a0 a1 a2 a3 a4 : Value} (hv : am_rf a0 = true) (h : am_R E d mX10_readLine k n 2 [a0, a1, a2, a3, a4] (a0 :: st) S iv Q) : am_R E d mX10_readLine k n 1 [a0, a1, a2, a3, a4] st S iv Q := am_aload_n dX10_readLine_1 rfl rfl hv h
theorem sX10_readLine_2 {ls : List Value} {a b : Nat} (ha : S.1 a = some (.inl 10)) (hb : S.2.1 a 0 = some b) (h : am_R E d mX10_readLine k n 5 ls (.ref b :: st) S iv Q) : am_R E d mX10_readLine k n 2 ls (.ref a :: st) S iv Q := am_getR (ci := 10) dX10_readLine_2 rfl rfl (by decide) wq_769 uq_10 rfl ha hb h
theorem sX10_readLine_5 {ls : List Value} {x1 : Value} {a : Nat} (ha : S.1 a = some (.inl 10)) (hst : (st.map fun v => v.category).sum ≤ 8) (hM : am_M E d mX10_which 0 0 [.ref a, x1] S iv (am_K3 E (d + 1) mX10_readLine k n 5 ls st Q)) : am_R E (d + 1) mX10_readLine k n 5 ls (x1 :: .ref a :: st) S iv Q := am_cV (ci := 10) (M' := mX10_which) (as := [x1]) dX10_readLine_5 rfl rfl rfl wq_880 wq_881 wq_882 wq_808 wq_878 hy_X10_which (by decide) ha hst (by omega) (by omega) hM
theorem sX10_readLine_5_k {ls : List Value} {x1 : Value} {k' n' : Nat} {a : Nat} (ha : S.1 a = some (.inl 10)) (hst : (st.map fun v => v.category).sum ≤ 8) (hM : am_M E d mX10_which k' n' [.ref a, x1] S iv (am_K3 E (d + 1) mX10_readLine k n 5 ls st Q)) : am_R E (d + 1) mX10_readLine (k' + k) (n' + n) 5 ls (x1 :: .ref a :: st) S iv Q := am_cV (ci := 10) (M' := mX10_which) (as := [x1]) dX10_readLine_5 rfl rfl rfl wq_880 wq_881 wq_882 wq_808 wq_878 hy_X10_which (by decide) ha hst (by omega) (by omega) hM
theorem sX10_readLine_8 {a0 a1 a2 a3 a4 : Value} {x : Int32} (h : am_R E d mX10_readLine k n 9 [a0, a1, .int x, a3, a4] st S iv Q) : am_R E d mX10_readLine k n 8 [a0, a1, a2, a3, a4] (.int x :: st) S iv Q := am_istore_n dX10_readLine_8 rfl (by decide) h
theorem sX10_readLine_9 {a0 a1 a2 a3 a4 : Value} (hv : am_rf a0 = true) (h : am_R E d mX10_readLine k n 10 [a0, a1, a2, a3, a4] (a0 :: st) S iv Q) : am_R E d mX10_readLine k n 9 [a0, a1, a2, a3, a4] st S iv Q := am_aload_n dX10_readLine_9 rfl rfl hv h
theorem sX10_readLine_10 {a0 a1 a2 a3 a4 : Value} (hv : am_rf a0 = true) (h : am_R E d mX10_readLine k n 11 [a0, a1, a2, a3, a4] (a0 :: st) S iv Q) : am_R E d mX10_readLine k n 10 [a0, a1, a2, a3, a4] st S iv Q := am_aload_n dX10_readLine_10 rfl rfl hv h
theorem sX10_readLine_11 {ls : List Value} {a b : Nat} (ha : S.1 a = some (.inl 10)) (hb : S.2.1 a 1 = some b) (h : am_R E d mX10_readLine k n 14 ls (.ref b :: st) S iv Q) : am_R E d mX10_readLine k n 11 ls (.ref a :: st) S iv Q := am_getR (ci := 10) dX10_readLine_11 rfl rfl (by decide) wq_770 uq_10 rfl ha hb h
theorem sX10_readLine_14 {ls : List Value} {x1 : Value} {a : Nat} (ha : S.1 a = some (.inl 10)) (hst : (st.map fun v => v.category).sum ≤ 8) (hM : am_M E d mX10_which 0 0 [.ref a, x1] S iv (am_K3 E (d + 1) mX10_readLine k n 14 ls st Q)) : am_R E (d + 1) mX10_readLine k n 14 ls (x1 :: .ref a :: st) S iv Q := am_cV (ci := 10) (M' := mX10_which) (as := [x1]) dX10_readLine_14 rfl rfl rfl wq_880 wq_881 wq_882 wq_808 wq_878 hy_X10_which (by decide) ha hst (by omega) (by omega) hM
theorem sX10_readLine_14_k {ls : List Value} {x1 : Value} {k' n' : Nat} {a : Nat} (ha : S.1 a = some (.inl 10)) (hst : (st.map fun v => v.category).sum ≤ 8) (hM : am_M E d mX10_which k' n' [.ref a, x1] S iv (am_K3 E (d + 1) mX10_readLine k n 14 ls st Q)) : am_R E (d + 1) mX10_readLine (k' + k) (n' + n) 14 ls (x1 :: .ref a :: st) S iv Q := am_cV (ci := 10) (M' := mX10_which) (as := [x1]) dX10_readLine_14 rfl rfl rfl wq_880 wq_881 wq_882 wq_808 wq_878 hy_X10_which (by decide) ha hst (by omega) (by omega) hM
theorem sX10_readLine_17 {a0 a1 a2 a3 a4 : Value} {x : Int32} (h : am_R E d mX10_readLine k n 18 [a0, a1, a2, .int x, a4] st S iv Q) : am_R E d mX10_readLine k n 17 [a0, a1, a2, a3, a4] (.int x :: st) S iv Q := am_istore_n dX10_readLine_17 rfl (by decide) h
theorem sX10_readLine_18 {a0 a1 a2 a3 a4 : Value} (hv : am_rf a0 = true) (h : am_R E d mX10_readLine k n 19 [a0, a1, a2, a3, a4] (a0 :: st) S iv Q) : am_R E d mX10_readLine k n 18 [a0, a1, a2, a3, a4] st S iv Q := am_aload_n dX10_readLine_18 rfl rfl hv h
theorem sX10_readLine_19 {a0 a1 a2 a3 a4 : Value} (h : am_R E d mX10_readLine k n 22 [a0, a1, a2, a3, a4] (.retAddr 49 :: st) S iv Q) : am_R E d mX10_readLine k n 19 [a0, a1, a2, a3, a4] st S iv Q := am_ldcSw (tx := "wall") dX10_readLine_19 (List.mem_of_getElem? (i := 49) rfl) h
theorem sX10_readLine_22 {ls : List Value} {x1 : Value} {a : Nat} (ha : S.1 a = some (.inl 10)) (hst : (st.map fun v => v.category).sum ≤ 8) (hM : am_M E d mX10_is 0 0 [.ref a, x1] S iv (am_K3 E (d + 1) mX10_readLine k n 22 ls st Q)) : am_R E (d + 1) mX10_readLine k n 22 ls (x1 :: .ref a :: st) S iv Q := am_cV (ci := 10) (M' := mX10_is) (as := [x1]) dX10_readLine_22 rfl rfl rfl wq_844 wq_845 wq_846 wq_808 wq_842 hy_X10_is (by decide) ha hst (by omega) (by omega) hM
theorem sX10_readLine_22_k {ls : List Value} {x1 : Value} {k' n' : Nat} {a : Nat} (ha : S.1 a = some (.inl 10)) (hst : (st.map fun v => v.category).sum ≤ 8) (hM : am_M E d mX10_is k' n' [.ref a, x1] S iv (am_K3 E (d + 1) mX10_readLine k n 22 ls st Q)) : am_R E (d + 1) mX10_readLine (k' + k) (n' + n) 22 ls (x1 :: .ref a :: st) S iv Q := am_cV (ci := 10) (M' := mX10_is) (as := [x1]) dX10_readLine_22 rfl rfl rfl wq_844 wq_845 wq_846 wq_808 wq_842 hy_X10_is (by decide) ha hst (by omega) (by omega) hM
theorem sX10_readLine_25 {ls : List Value} {x : Int32} (kt : x = 0 → am_R E d mX10_readLine k n 33 ls st S iv Q) (kf : ¬ x = 0 → am_R E d mX10_readLine k n 28 ls st S iv Q) : am_R E d mX10_readLine k n 25 ls (.int x :: st) S iv Q := am_if_eq dX10_readLine_25 (by decide) kt kf
theorem sX10_readLine_28 {a0 a1 a2 a3 a4 : Value} (h : am_R E d mX10_readLine k n 30 [a0, a1, a2, a3, a4] (.int 16 :: st) S iv Q) : am_R E d mX10_readLine k n 28 [a0, a1, a2, a3, a4] st S iv Q := am_bipush dX10_readLine_28 (by decide) h
theorem sX10_readLine_30 {ls : List Value} (h : am_R E d mX10_readLine k n 46 ls st S iv Q) : am_R E d mX10_readLine k n 30 ls st S iv Q := am_goto dX10_readLine_30 (by decide) h
theorem sX10_readLine_33 {a0 a1 a2 a4 : Value} {x : Int32} (h : am_R E d mX10_readLine k n 34 [a0, a1, a2, .int x, a4] (.int x :: st) S iv Q) : am_R E d mX10_readLine k n 33 [a0, a1, a2, .int x, a4] st S iv Q := am_iload_n dX10_readLine_33 rfl rfl h
theorem sX10_readLine_34 {a0 a1 a2 a3 a4 : Value} (h : am_R E d mX10_readLine k n 35 [a0, a1, a2, a3, a4] (.int (-1) :: st) S iv Q) : am_R E d mX10_readLine k n 34 [a0, a1, a2, a3, a4] st S iv Q := am_iconst dX10_readLine_34 (by decide) h
theorem sX10_readLine_35 {ls : List Value} {x y : Int32} (kt : ¬ x = y → am_R E d mX10_readLine k n 43 ls st S iv Q) (kf : x = y → am_R E d mX10_readLine k n 38 ls st S iv Q) : am_R E d mX10_readLine k n 35 ls (.int y :: .int x :: st) S iv Q := am_icmp_ne dX10_readLine_35 (by decide) kt kf
theorem sX10_readLine_38 {a0 a1 a2 a3 a4 : Value} (h : am_R E d mX10_readLine k n 40 [a0, a1, a2, a3, a4] (.int 32 :: st) S iv Q) : am_R E d mX10_readLine k n 38 [a0, a1, a2, a3, a4] st S iv Q := am_bipush dX10_readLine_38 (by decide) h
theorem sX10_readLine_40 {ls : List Value} (h : am_R E d mX10_readLine k n 46 ls st S iv Q) : am_R E d mX10_readLine k n 40 ls st S iv Q := am_goto dX10_readLine_40 (by decide) h
theorem sX10_readLine_43 {a0 a1 a2 a3 a4 : Value} (h : am_R E d mX10_readLine k n 44 [a0, a1, a2, a3, a4] (.int 1 :: st) S iv Q) : am_R E d mX10_readLine k n 43 [a0, a1, a2, a3, a4] st S iv Q := am_iconst dX10_readLine_43 (by decide) h
theorem sX10_readLine_44 {a0 a1 a2 a4 : Value} {x : Int32} (h : am_R E d mX10_readLine k n 45 [a0, a1, a2, .int x, a4] (.int x :: st) S iv Q) : am_R E d mX10_readLine k n 44 [a0, a1, a2, .int x, a4] st S iv Q := am_iload_n dX10_readLine_44 rfl rfl h
theorem sX10_readLine_45 {ls : List Value} {x y : Int32} (h : am_R E d mX10_readLine k n 46 ls (.int (x <<< (y &&& 31)) :: st) S iv Q) : am_R E d mX10_readLine k n 45 ls (.int y :: .int x :: st) S iv Q := am_ishl dX10_readLine_45 h
theorem sX10_readLine_46 {a0 a1 a2 a3 a4 : Value} {x : Int32} (h : am_R E d mX10_readLine k n 48 [a0, a1, a2, a3, .int x] st S iv Q) : am_R E d mX10_readLine k n 46 [a0, a1, a2, a3, a4] (.int x :: st) S iv Q := am_istore dX10_readLine_46 (by decide) h
theorem sX10_readLine_48 {a0 a1 a2 a3 : Value} {x : Int32} (h : am_R E d mX10_readLine k n 50 [a0, a1, a2, a3, .int x] (.int x :: st) S iv Q) : am_R E d mX10_readLine k n 48 [a0, a1, a2, a3, .int x] st S iv Q := am_iload dX10_readLine_48 rfl h
theorem sX10_readLine_50 {a0 a1 a2 a3 a4 : Value} (h : am_R E d mX10_readLine k n 52 [a0, a1, a2, a3, a4] (.int 16 :: st) S iv Q) : am_R E d mX10_readLine k n 50 [a0, a1, a2, a3, a4] st S iv Q := am_bipush dX10_readLine_50 (by decide) h
theorem sX10_readLine_52 {ls : List Value} {x y : Int32} (kt : ¬ x = y → am_R E d mX10_readLine k n 59 ls st S iv Q) (kf : x = y → am_R E d mX10_readLine k n 55 ls st S iv Q) : am_R E d mX10_readLine k n 52 ls (.int y :: .int x :: st) S iv Q := am_icmp_ne dX10_readLine_52 (by decide) kt kf
theorem sX10_readLine_55 {a0 a2 a3 a4 : Value} {x : Int32} (h : am_R E d mX10_readLine k n 56 [a0, .int x, a2, a3, a4] (.int x :: st) S iv Q) : am_R E d mX10_readLine k n 55 [a0, .int x, a2, a3, a4] st S iv Q := am_iload_n dX10_readLine_55 rfl rfl h
theorem sX10_readLine_56 {ls : List Value} {x : Int32} (kt : ¬ x = 0 → am_R E d mX10_readLine k n 73 ls st S iv Q) (kf : x = 0 → am_R E d mX10_readLine k n 59 ls st S iv Q) : am_R E d mX10_readLine k n 56 ls (.int x :: st) S iv Q := am_if_ne dX10_readLine_56 (by decide) kt kf
theorem sX10_readLine_59 {a0 a1 a2 a3 : Value} {x : Int32} (h : am_R E d mX10_readLine k n 61 [a0, a1, a2, a3, .int x] (.int x :: st) S iv Q) : am_R E d mX10_readLine k n 59 [a0, a1, a2, a3, .int x] st S iv Q := am_iload dX10_readLine_59 rfl h
theorem sX10_readLine_61 {a0 a1 a2 a3 a4 : Value} (h : am_R E d mX10_readLine k n 63 [a0, a1, a2, a3, a4] (.int 16 :: st) S iv Q) : am_R E d mX10_readLine k n 61 [a0, a1, a2, a3, a4] st S iv Q := am_bipush dX10_readLine_61 (by decide) h
theorem sX10_readLine_63 {ls : List Value} {x y : Int32} (kt : y ≤ x → am_R E d mX10_readLine k n 78 ls st S iv Q) (kf : ¬ y ≤ x → am_R E d mX10_readLine k n 66 ls st S iv Q) : am_R E d mX10_readLine k n 63 ls (.int y :: .int x :: st) S iv Q := am_icmp_ge dX10_readLine_63 (by decide) kt kf
theorem sX10_readLine_66 {a0 a2 a3 a4 : Value} {x : Int32} (h : am_R E d mX10_readLine k n 67 [a0, .int x, a2, a3, a4] (.int x :: st) S iv Q) : am_R E d mX10_readLine k n 66 [a0, .int x, a2, a3, a4] st S iv Q := am_iload_n dX10_readLine_66 rfl rfl h
theorem sX10_readLine_67 {a0 a1 a2 a3 : Value} {x : Int32} (h : am_R E d mX10_readLine k n 69 [a0, a1, a2, a3, .int x] (.int x :: st) S iv Q) : am_R E d mX10_readLine k n 67 [a0, a1, a2, a3, .int x] st S iv Q := am_iload dX10_readLine_67 rfl h
theorem sX10_readLine_69 {ls : List Value} {x y : Int32} (h : am_R E d mX10_readLine k n 70 ls (.int (x &&& y) :: st) S iv Q) : am_R E d mX10_readLine k n 69 ls (.int y :: .int x :: st) S iv Q := am_iand dX10_readLine_69 h
theorem sX10_readLine_70 {ls : List Value} {x : Int32} (kt : x = 0 → am_R E d mX10_readLine k n 78 ls st S iv Q) (kf : ¬ x = 0 → am_R E d mX10_readLine k n 73 ls st S iv Q) : am_R E d mX10_readLine k n 70 ls (.int x :: st) S iv Q := am_if_eq dX10_readLine_70 (by decide) kt kf
theorem sX10_readLine_73 {a0 a1 a2 a3 a4 : Value} (hv : am_rf a0 = true) (h : am_R E d mX10_readLine k n 74 [a0, a1, a2, a3, a4] (a0 :: st) S iv Q) : am_R E d mX10_readLine k n 73 [a0, a1, a2, a3, a4] st S iv Q := am_aload_n dX10_readLine_73 rfl rfl hv h
theorem sX10_readLine_74 {a0 a1 a2 a3 a4 : Value} (h : am_R E d mX10_readLine k n 75 [a0, a1, a2, a3, a4] (.int 4 :: st) S iv Q) : am_R E d mX10_readLine k n 74 [a0, a1, a2, a3, a4] st S iv Q := am_iconst dX10_readLine_74 (by decide) h
theorem sX10_readLine_75 {ls : List Value} {x1 : Value} {a : Nat} (ha : S.1 a = some (.inl 10)) (hst : (st.map fun v => v.category).sum ≤ 8) (hM : am_M E d mX10_wrong 0 0 [.ref a, x1] S iv (am_K3 E (d + 1) mX10_readLine k n 75 ls st Q)) : am_R E (d + 1) mX10_readLine k n 75 ls (x1 :: .ref a :: st) S iv Q := am_cV (ci := 10) (M' := mX10_wrong) (as := [x1]) dX10_readLine_75 rfl rfl rfl wq_859 wq_860 wq_861 wq_808 wq_857 hy_X10_wrong (by decide) ha hst (by omega) (by omega) hM
theorem sX10_readLine_75_k {ls : List Value} {x1 : Value} {k' n' : Nat} {a : Nat} (ha : S.1 a = some (.inl 10)) (hst : (st.map fun v => v.category).sum ≤ 8) (hM : am_M E d mX10_wrong k' n' [.ref a, x1] S iv (am_K3 E (d + 1) mX10_readLine k n 75 ls st Q)) : am_R E (d + 1) mX10_readLine (k' + k) (n' + n) 75 ls (x1 :: .ref a :: st) S iv Q := am_cV (ci := 10) (M' := mX10_wrong) (as := [x1]) dX10_readLine_75 rfl rfl rfl wq_859 wq_860 wq_861 wq_808 wq_857 hy_X10_wrong (by decide) ha hst (by omega) (by omega) hM
theorem sX10_readLine_78 {a0 a1 a3 a4 : Value} {x : Int32} (h : am_R E d mX10_readLine k n 79 [a0, a1, .int x, a3, a4] (.int x :: st) S iv Q) : am_R E d mX10_readLine k n 78 [a0, a1, .int x, a3, a4] st S iv Q := am_iload_n dX10_readLine_78 rfl rfl h
theorem sX10_readLine_79 {a0 a1 a2 a3 a4 : Value} (h : am_R E d mX10_readLine k n 80 [a0, a1, a2, a3, a4] (.int (-1) :: st) S iv Q) : am_R E d mX10_readLine k n 79 [a0, a1, a2, a3, a4] st S iv Q := am_iconst dX10_readLine_79 (by decide) h
theorem sX10_readLine_80 {ls : List Value} {x y : Int32} (kt : x = y → am_R E d mX10_readLine k n 91 ls st S iv Q) (kf : ¬ x = y → am_R E d mX10_readLine k n 83 ls st S iv Q) : am_R E d mX10_readLine k n 80 ls (.int y :: .int x :: st) S iv Q := am_icmp_eq dX10_readLine_80 (by decide) kt kf
theorem sX10_readLine_83 {a0 a1 a2 a3 a4 : Value} (hv : am_rf a0 = true) (h : am_R E d mX10_readLine k n 84 [a0, a1, a2, a3, a4] (a0 :: st) S iv Q) : am_R E d mX10_readLine k n 83 [a0, a1, a2, a3, a4] st S iv Q := am_aload_n dX10_readLine_83 rfl rfl hv h
theorem sX10_readLine_84 {a0 a1 a3 a4 : Value} {x : Int32} (h : am_R E d mX10_readLine k n 85 [a0, a1, .int x, a3, a4] (.int x :: st) S iv Q) : am_R E d mX10_readLine k n 84 [a0, a1, .int x, a3, a4] st S iv Q := am_iload_n dX10_readLine_84 rfl rfl h
theorem sX10_readLine_85 {ls : List Value} {x1 : Value} {a : Nat} (ha : S.1 a = some (.inl 10)) (hst : (st.map fun v => v.category).sum ≤ 8) (hM : am_M E d mX10_readDrawer 0 0 [.ref a, x1] S iv (am_K3 E (d + 1) mX10_readLine k n 85 ls st Q)) : am_R E (d + 1) mX10_readLine k n 85 ls (x1 :: .ref a :: st) S iv Q := am_cV (ci := 10) (M' := mX10_readDrawer) (as := [x1]) dX10_readLine_85 rfl rfl rfl wq_935 wq_936 wq_937 wq_808 wq_933 hy_X10_readDrawer (by decide) ha hst (by omega) (by omega) hM
theorem sX10_readLine_85_k {ls : List Value} {x1 : Value} {k' n' : Nat} {a : Nat} (ha : S.1 a = some (.inl 10)) (hst : (st.map fun v => v.category).sum ≤ 8) (hM : am_M E d mX10_readDrawer k' n' [.ref a, x1] S iv (am_K3 E (d + 1) mX10_readLine k n 85 ls st Q)) : am_R E (d + 1) mX10_readLine (k' + k) (n' + n) 85 ls (x1 :: .ref a :: st) S iv Q := am_cV (ci := 10) (M' := mX10_readDrawer) (as := [x1]) dX10_readLine_85 rfl rfl rfl wq_935 wq_936 wq_937 wq_808 wq_933 hy_X10_readDrawer (by decide) ha hst (by omega) (by omega) hM
theorem sX10_readLine_88 {ls : List Value} (h : am_R E d mX10_readLine k n 196 ls st S iv Q) : am_R E d mX10_readLine k n 88 ls st S iv Q := am_goto dX10_readLine_88 (by decide) h
theorem sX10_readLine_91 {a0 a1 a2 a3 a4 : Value} (hv : am_rf a0 = true) (h : am_R E d mX10_readLine k n 92 [a0, a1, a2, a3, a4] (a0 :: st) S iv Q) : am_R E d mX10_readLine k n 91 [a0, a1, a2, a3, a4] st S iv Q := am_aload_n dX10_readLine_91 rfl rfl hv h
theorem sX10_readLine_92 {a0 a1 a2 a3 a4 : Value} (h : am_R E d mX10_readLine k n 95 [a0, a1, a2, a3, a4] (.retAddr 51 :: st) S iv Q) : am_R E d mX10_readLine k n 92 [a0, a1, a2, a3, a4] st S iv Q := am_ldcSw (tx := "person") dX10_readLine_92 (List.mem_of_getElem? (i := 51) rfl) h
theorem sX10_readLine_95 {ls : List Value} {x1 : Value} {a : Nat} (ha : S.1 a = some (.inl 10)) (hst : (st.map fun v => v.category).sum ≤ 8) (hM : am_M E d mX10_is 0 0 [.ref a, x1] S iv (am_K3 E (d + 1) mX10_readLine k n 95 ls st Q)) : am_R E (d + 1) mX10_readLine k n 95 ls (x1 :: .ref a :: st) S iv Q := am_cV (ci := 10) (M' := mX10_is) (as := [x1]) dX10_readLine_95 rfl rfl rfl wq_844 wq_845 wq_846 wq_808 wq_842 hy_X10_is (by decide) ha hst (by omega) (by omega) hM
theorem sX10_readLine_95_k {ls : List Value} {x1 : Value} {k' n' : Nat} {a : Nat} (ha : S.1 a = some (.inl 10)) (hst : (st.map fun v => v.category).sum ≤ 8) (hM : am_M E d mX10_is k' n' [.ref a, x1] S iv (am_K3 E (d + 1) mX10_readLine k n 95 ls st Q)) : am_R E (d + 1) mX10_readLine (k' + k) (n' + n) 95 ls (x1 :: .ref a :: st) S iv Q := am_cV (ci := 10) (M' := mX10_is) (as := [x1]) dX10_readLine_95 rfl rfl rfl wq_844 wq_845 wq_846 wq_808 wq_842 hy_X10_is (by decide) ha hst (by omega) (by omega) hM
theorem sX10_readLine_98 {ls : List Value} {x : Int32} (kt : x = 0 → am_R E d mX10_readLine k n 108 ls st S iv Q) (kf : ¬ x = 0 → am_R E d mX10_readLine k n 101 ls st S iv Q) : am_R E d mX10_readLine k n 98 ls (.int x :: st) S iv Q := am_if_eq dX10_readLine_98 (by decide) kt kf
theorem sX10_readLine_101 {a0 a1 a2 a3 a4 : Value} (hv : am_rf a0 = true) (h : am_R E d mX10_readLine k n 102 [a0, a1, a2, a3, a4] (a0 :: st) S iv Q) : am_R E d mX10_readLine k n 101 [a0, a1, a2, a3, a4] st S iv Q := am_aload_n dX10_readLine_101 rfl rfl hv h
theorem sX10_readLine_102 {ls : List Value} {a : Nat} (ha : S.1 a = some (.inl 10)) (hst : (st.map fun v => v.category).sum ≤ 8) (hM : am_M E d mX10_readPerson 0 0 [.ref a] S iv (am_K3 E (d + 1) mX10_readLine k n 102 ls st Q)) : am_R E (d + 1) mX10_readLine k n 102 ls (.ref a :: st) S iv Q := am_cV (ci := 10) (M' := mX10_readPerson) (as := []) dX10_readLine_102 rfl rfl rfl wq_940 wq_941 wq_942 wq_808 wq_938 hy_X10_readPerson (by decide) ha hst (by omega) (by omega) hM
theorem sX10_readLine_102_k {ls : List Value} {k' n' : Nat} {a : Nat} (ha : S.1 a = some (.inl 10)) (hst : (st.map fun v => v.category).sum ≤ 8) (hM : am_M E d mX10_readPerson k' n' [.ref a] S iv (am_K3 E (d + 1) mX10_readLine k n 102 ls st Q)) : am_R E (d + 1) mX10_readLine (k' + k) (n' + n) 102 ls (.ref a :: st) S iv Q := am_cV (ci := 10) (M' := mX10_readPerson) (as := []) dX10_readLine_102 rfl rfl rfl wq_940 wq_941 wq_942 wq_808 wq_938 hy_X10_readPerson (by decide) ha hst (by omega) (by omega) hM
theorem sX10_readLine_105 {ls : List Value} (h : am_R E d mX10_readLine k n 196 ls st S iv Q) : am_R E d mX10_readLine k n 105 ls st S iv Q := am_goto dX10_readLine_105 (by decide) h
theorem sX10_readLine_108 {a0 a1 a2 a3 a4 : Value} (hv : am_rf a0 = true) (h : am_R E d mX10_readLine k n 109 [a0, a1, a2, a3, a4] (a0 :: st) S iv Q) : am_R E d mX10_readLine k n 108 [a0, a1, a2, a3, a4] st S iv Q := am_aload_n dX10_readLine_108 rfl rfl hv h
theorem sX10_readLine_109 {a0 a1 a2 a3 a4 : Value} (h : am_R E d mX10_readLine k n 112 [a0, a1, a2, a3, a4] (.retAddr 54 :: st) S iv Q) : am_R E d mX10_readLine k n 109 [a0, a1, a2, a3, a4] st S iv Q := am_ldcSw (tx := "rule") dX10_readLine_109 (List.mem_of_getElem? (i := 54) rfl) h
theorem sX10_readLine_112 {ls : List Value} {x1 : Value} {a : Nat} (ha : S.1 a = some (.inl 10)) (hst : (st.map fun v => v.category).sum ≤ 8) (hM : am_M E d mX10_is 0 0 [.ref a, x1] S iv (am_K3 E (d + 1) mX10_readLine k n 112 ls st Q)) : am_R E (d + 1) mX10_readLine k n 112 ls (x1 :: .ref a :: st) S iv Q := am_cV (ci := 10) (M' := mX10_is) (as := [x1]) dX10_readLine_112 rfl rfl rfl wq_844 wq_845 wq_846 wq_808 wq_842 hy_X10_is (by decide) ha hst (by omega) (by omega) hM
theorem sX10_readLine_112_k {ls : List Value} {x1 : Value} {k' n' : Nat} {a : Nat} (ha : S.1 a = some (.inl 10)) (hst : (st.map fun v => v.category).sum ≤ 8) (hM : am_M E d mX10_is k' n' [.ref a, x1] S iv (am_K3 E (d + 1) mX10_readLine k n 112 ls st Q)) : am_R E (d + 1) mX10_readLine (k' + k) (n' + n) 112 ls (x1 :: .ref a :: st) S iv Q := am_cV (ci := 10) (M' := mX10_is) (as := [x1]) dX10_readLine_112 rfl rfl rfl wq_844 wq_845 wq_846 wq_808 wq_842 hy_X10_is (by decide) ha hst (by omega) (by omega) hM
theorem sX10_readLine_115 {ls : List Value} {x : Int32} (kt : x = 0 → am_R E d mX10_readLine k n 125 ls st S iv Q) (kf : ¬ x = 0 → am_R E d mX10_readLine k n 118 ls st S iv Q) : am_R E d mX10_readLine k n 115 ls (.int x :: st) S iv Q := am_if_eq dX10_readLine_115 (by decide) kt kf
theorem sX10_readLine_118 {a0 a1 a2 a3 a4 : Value} (hv : am_rf a0 = true) (h : am_R E d mX10_readLine k n 119 [a0, a1, a2, a3, a4] (a0 :: st) S iv Q) : am_R E d mX10_readLine k n 118 [a0, a1, a2, a3, a4] st S iv Q := am_aload_n dX10_readLine_118 rfl rfl hv h
theorem sX10_readLine_119 {ls : List Value} {a : Nat} (ha : S.1 a = some (.inl 10)) (hst : (st.map fun v => v.category).sum ≤ 8) (hM : am_M E d mX10_readRule 0 0 [.ref a] S iv (am_K3 E (d + 1) mX10_readLine k n 119 ls st Q)) : am_R E (d + 1) mX10_readLine k n 119 ls (.ref a :: st) S iv Q := am_cV (ci := 10) (M' := mX10_readRule) (as := []) dX10_readLine_119 rfl rfl rfl wq_945 wq_946 wq_947 wq_808 wq_943 hy_X10_readRule (by decide) ha hst (by omega) (by omega) hM
theorem sX10_readLine_119_k {ls : List Value} {k' n' : Nat} {a : Nat} (ha : S.1 a = some (.inl 10)) (hst : (st.map fun v => v.category).sum ≤ 8) (hM : am_M E d mX10_readRule k' n' [.ref a] S iv (am_K3 E (d + 1) mX10_readLine k n 119 ls st Q)) : am_R E (d + 1) mX10_readLine (k' + k) (n' + n) 119 ls (.ref a :: st) S iv Q := am_cV (ci := 10) (M' := mX10_readRule) (as := []) dX10_readLine_119 rfl rfl rfl wq_945 wq_946 wq_947 wq_808 wq_943 hy_X10_readRule (by decide) ha hst (by omega) (by omega) hM
theorem sX10_readLine_122 {ls : List Value} (h : am_R E d mX10_readLine k n 196 ls st S iv Q) : am_R E d mX10_readLine k n 122 ls st S iv Q := am_goto dX10_readLine_122 (by decide) h
theorem sX10_readLine_125 {a0 a1 a2 a4 : Value} {x : Int32} (h : am_R E d mX10_readLine k n 126 [a0, a1, a2, .int x, a4] (.int x :: st) S iv Q) : am_R E d mX10_readLine k n 125 [a0, a1, a2, .int x, a4] st S iv Q := am_iload_n dX10_readLine_125 rfl rfl h
theorem sX10_readLine_126 {a0 a1 a2 a3 a4 : Value} (h : am_R E d mX10_readLine k n 127 [a0, a1, a2, a3, a4] (.int (-1) :: st) S iv Q) : am_R E d mX10_readLine k n 126 [a0, a1, a2, a3, a4] st S iv Q := am_iconst dX10_readLine_126 (by decide) h
theorem sX10_readLine_127 {ls : List Value} {x y : Int32} (kt : x = y → am_R E d mX10_readLine k n 145 ls st S iv Q) (kf : ¬ x = y → am_R E d mX10_readLine k n 130 ls st S iv Q) : am_R E d mX10_readLine k n 127 ls (.int y :: .int x :: st) S iv Q := am_icmp_eq dX10_readLine_127 (by decide) kt kf
theorem sX10_readLine_130 {a0 a1 a2 a3 a4 : Value} (hv : am_rf a0 = true) (h : am_R E d mX10_readLine k n 131 [a0, a1, a2, a3, a4] (a0 :: st) S iv Q) : am_R E d mX10_readLine k n 130 [a0, a1, a2, a3, a4] st S iv Q := am_aload_n dX10_readLine_130 rfl rfl hv h
theorem sX10_readLine_131 {ls : List Value} {a : Nat} (ha : S.1 a = some (.inl 10)) (h : am_R E d mX10_readLine k n 134 ls (.int (iv a 25) :: st) S iv Q) : am_R E d mX10_readLine k n 131 ls (.ref a :: st) S iv Q := am_getI (ci := 10) dX10_readLine_131 rfl rfl (by decide) wq_838 uq_10 rfl ha h
theorem sX10_readLine_134 {ls : List Value} {x : Int32} (kt : ¬ x = 0 → am_R E d mX10_readLine k n 145 ls st S iv Q) (kf : x = 0 → am_R E d mX10_readLine k n 137 ls st S iv Q) : am_R E d mX10_readLine k n 134 ls (.int x :: st) S iv Q := am_if_ne dX10_readLine_134 (by decide) kt kf
theorem sX10_readLine_137 {a0 a1 a2 a3 a4 : Value} (hv : am_rf a0 = true) (h : am_R E d mX10_readLine k n 138 [a0, a1, a2, a3, a4] (a0 :: st) S iv Q) : am_R E d mX10_readLine k n 137 [a0, a1, a2, a3, a4] st S iv Q := am_aload_n dX10_readLine_137 rfl rfl hv h
theorem sX10_readLine_138 {a0 a1 a2 a4 : Value} {x : Int32} (h : am_R E d mX10_readLine k n 139 [a0, a1, a2, .int x, a4] (.int x :: st) S iv Q) : am_R E d mX10_readLine k n 138 [a0, a1, a2, .int x, a4] st S iv Q := am_iload_n dX10_readLine_138 rfl rfl h
theorem sX10_readLine_139 {ls : List Value} {x1 : Value} {a : Nat} (ha : S.1 a = some (.inl 10)) (hst : (st.map fun v => v.category).sum ≤ 8) (hM : am_M E d mX10_readOnce 0 0 [.ref a, x1] S iv (am_K3 E (d + 1) mX10_readLine k n 139 ls st Q)) : am_R E (d + 1) mX10_readLine k n 139 ls (x1 :: .ref a :: st) S iv Q := am_cV (ci := 10) (M' := mX10_readOnce) (as := [x1]) dX10_readLine_139 rfl rfl rfl wq_950 wq_951 wq_952 wq_808 wq_948 hy_X10_readOnce (by decide) ha hst (by omega) (by omega) hM
theorem sX10_readLine_139_k {ls : List Value} {x1 : Value} {k' n' : Nat} {a : Nat} (ha : S.1 a = some (.inl 10)) (hst : (st.map fun v => v.category).sum ≤ 8) (hM : am_M E d mX10_readOnce k' n' [.ref a, x1] S iv (am_K3 E (d + 1) mX10_readLine k n 139 ls st Q)) : am_R E (d + 1) mX10_readLine (k' + k) (n' + n) 139 ls (x1 :: .ref a :: st) S iv Q := am_cV (ci := 10) (M' := mX10_readOnce) (as := [x1]) dX10_readLine_139 rfl rfl rfl wq_950 wq_951 wq_952 wq_808 wq_948 hy_X10_readOnce (by decide) ha hst (by omega) (by omega) hM
theorem sX10_readLine_142 {ls : List Value} (h : am_R E d mX10_readLine k n 196 ls st S iv Q) : am_R E d mX10_readLine k n 142 ls st S iv Q := am_goto dX10_readLine_142 (by decide) h
theorem sX10_readLine_145 {a0 a1 a2 a3 : Value} {x : Int32} (h : am_R E d mX10_readLine k n 147 [a0, a1, a2, a3, .int x] (.int x :: st) S iv Q) : am_R E d mX10_readLine k n 145 [a0, a1, a2, a3, .int x] st S iv Q := am_iload dX10_readLine_145 rfl h
theorem sX10_readLine_147 {a0 a1 a2 a3 a4 : Value} (h : am_R E d mX10_readLine k n 149 [a0, a1, a2, a3, a4] (.int 16 :: st) S iv Q) : am_R E d mX10_readLine k n 147 [a0, a1, a2, a3, a4] st S iv Q := am_bipush dX10_readLine_147 (by decide) h
theorem sX10_readLine_149 {ls : List Value} {x y : Int32} (kt : x = y → am_R E d mX10_readLine k n 157 ls st S iv Q) (kf : ¬ x = y → am_R E d mX10_readLine k n 152 ls st S iv Q) : am_R E d mX10_readLine k n 149 ls (.int y :: .int x :: st) S iv Q := am_icmp_eq dX10_readLine_149 (by decide) kt kf
theorem sX10_readLine_152 {a0 a1 a2 a3 a4 : Value} (hv : am_rf a0 = true) (h : am_R E d mX10_readLine k n 153 [a0, a1, a2, a3, a4] (a0 :: st) S iv Q) : am_R E d mX10_readLine k n 152 [a0, a1, a2, a3, a4] st S iv Q := am_aload_n dX10_readLine_152 rfl rfl hv h
theorem sX10_readLine_153 {a0 a1 a2 a3 a4 : Value} (h : am_R E d mX10_readLine k n 154 [a0, a1, a2, a3, a4] (.int 1 :: st) S iv Q) : am_R E d mX10_readLine k n 153 [a0, a1, a2, a3, a4] st S iv Q := am_iconst dX10_readLine_153 (by decide) h
theorem sX10_readLine_154 {ls : List Value} {x1 : Value} {a : Nat} (ha : S.1 a = some (.inl 10)) (hst : (st.map fun v => v.category).sum ≤ 8) (hM : am_M E d mX10_wrong 0 0 [.ref a, x1] S iv (am_K3 E (d + 1) mX10_readLine k n 154 ls st Q)) : am_R E (d + 1) mX10_readLine k n 154 ls (x1 :: .ref a :: st) S iv Q := am_cV (ci := 10) (M' := mX10_wrong) (as := [x1]) dX10_readLine_154 rfl rfl rfl wq_859 wq_860 wq_861 wq_808 wq_857 hy_X10_wrong (by decide) ha hst (by omega) (by omega) hM
theorem sX10_readLine_154_k {ls : List Value} {x1 : Value} {k' n' : Nat} {a : Nat} (ha : S.1 a = some (.inl 10)) (hst : (st.map fun v => v.category).sum ≤ 8) (hM : am_M E d mX10_wrong k' n' [.ref a, x1] S iv (am_K3 E (d + 1) mX10_readLine k n 154 ls st Q)) : am_R E (d + 1) mX10_readLine (k' + k) (n' + n) 154 ls (x1 :: .ref a :: st) S iv Q := am_cV (ci := 10) (M' := mX10_wrong) (as := [x1]) dX10_readLine_154 rfl rfl rfl wq_859 wq_860 wq_861 wq_808 wq_857 hy_X10_wrong (by decide) ha hst (by omega) (by omega) hM
theorem sX10_readLine_157 {a0 a1 a2 a3 a4 : Value} (hv : am_rf a0 = true) (h : am_R E d mX10_readLine k n 158 [a0, a1, a2, a3, a4] (a0 :: st) S iv Q) : am_R E d mX10_readLine k n 157 [a0, a1, a2, a3, a4] st S iv Q := am_aload_n dX10_readLine_157 rfl rfl hv h
theorem sX10_readLine_158 {ls : List Value} {a : Nat} (ha : S.1 a = some (.inl 10)) (h : am_R E d mX10_readLine k n 161 ls (.int (iv a 25) :: st) S iv Q) : am_R E d mX10_readLine k n 158 ls (.ref a :: st) S iv Q := am_getI (ci := 10) dX10_readLine_158 rfl rfl (by decide) wq_838 uq_10 rfl ha h
theorem sX10_readLine_161 {ls : List Value} {x : Int32} (kt : ¬ x = 0 → am_R E d mX10_readLine k n 168 ls st S iv Q) (kf : x = 0 → am_R E d mX10_readLine k n 164 ls st S iv Q) : am_R E d mX10_readLine k n 161 ls (.int x :: st) S iv Q := am_if_ne dX10_readLine_161 (by decide) kt kf
theorem sX10_readLine_164 {a0 a1 a2 a3 a4 : Value} (hv : am_rf a0 = true) (h : am_R E d mX10_readLine k n 165 [a0, a1, a2, a3, a4] (a0 :: st) S iv Q) : am_R E d mX10_readLine k n 164 [a0, a1, a2, a3, a4] st S iv Q := am_aload_n dX10_readLine_164 rfl rfl hv h
theorem sX10_readLine_165 {ls : List Value} {a : Nat} (ha : S.1 a = some (.inl 10)) (hst : (st.map fun v => v.category).sum ≤ 8) (hM : am_M E d mX10_stepOn 0 0 [.ref a] S iv (am_K3 E (d + 1) mX10_readLine k n 165 ls st Q)) : am_R E (d + 1) mX10_readLine k n 165 ls (.ref a :: st) S iv Q := am_cV (ci := 10) (M' := mX10_stepOn) (as := []) dX10_readLine_165 rfl rfl rfl wq_849 wq_850 wq_851 wq_808 wq_847 hy_X10_stepOn (by decide) ha hst (by omega) (by omega) hM
theorem sX10_readLine_165_k {ls : List Value} {k' n' : Nat} {a : Nat} (ha : S.1 a = some (.inl 10)) (hst : (st.map fun v => v.category).sum ≤ 8) (hM : am_M E d mX10_stepOn k' n' [.ref a] S iv (am_K3 E (d + 1) mX10_readLine k n 165 ls st Q)) : am_R E (d + 1) mX10_readLine (k' + k) (n' + n) 165 ls (.ref a :: st) S iv Q := am_cV (ci := 10) (M' := mX10_stepOn) (as := []) dX10_readLine_165 rfl rfl rfl wq_849 wq_850 wq_851 wq_808 wq_847 hy_X10_stepOn (by decide) ha hst (by omega) (by omega) hM
theorem sX10_readLine_168 {a0 a1 a2 a3 a4 : Value} (hv : am_rf a0 = true) (h : am_R E d mX10_readLine k n 169 [a0, a1, a2, a3, a4] (a0 :: st) S iv Q) : am_R E d mX10_readLine k n 168 [a0, a1, a2, a3, a4] st S iv Q := am_aload_n dX10_readLine_168 rfl rfl hv h
theorem sX10_readLine_169 {ls : List Value} {a b : Nat} (ha : S.1 a = some (.inl 10)) (hb : S.2.1 a 4 = some b) (h : am_R E d mX10_readLine k n 172 ls (.ref b :: st) S iv Q) : am_R E d mX10_readLine k n 169 ls (.ref a :: st) S iv Q := am_getR (ci := 10) dX10_readLine_169 rfl rfl (by decide) wq_772 uq_10 rfl ha hb h
theorem sX10_readLine_172 {a0 a1 a2 a3 a4 : Value} (h : am_R E d mX10_readLine k n 174 [a0, a1, a2, a3, a4] (.int 10 :: st) S iv Q) : am_R E d mX10_readLine k n 172 [a0, a1, a2, a3, a4] st S iv Q := am_bipush dX10_readLine_172 (by decide) h
theorem sX10_readLine_174 {a0 a1 a2 a3 a4 : Value} (hv : am_rf a0 = true) (h : am_R E d mX10_readLine k n 175 [a0, a1, a2, a3, a4] (a0 :: st) S iv Q) : am_R E d mX10_readLine k n 174 [a0, a1, a2, a3, a4] st S iv Q := am_aload_n dX10_readLine_174 rfl rfl hv h
theorem sX10_readLine_175 {a0 a1 a2 a3 a4 : Value} (h : am_R E d mX10_readLine k n 176 [a0, a1, a2, a3, a4] (.int 1 :: st) S iv Q) : am_R E d mX10_readLine k n 175 [a0, a1, a2, a3, a4] st S iv Q := am_iconst dX10_readLine_175 (by decide) h
theorem sX10_readLine_176 {a0 a1 a2 a3 a4 : Value} (h : am_R E d mX10_readLine k n 178 [a0, a1, a2, a3, a4] (.int 6 :: st) S iv Q) : am_R E d mX10_readLine k n 176 [a0, a1, a2, a3, a4] st S iv Q := am_bipush dX10_readLine_176 (by decide) h
theorem sX10_readLine_178 {ls : List Value} {x1 x2 : Value} {a : Nat} (ha : S.1 a = some (.inl 10)) (hst : (st.map fun v => v.category).sum ≤ 8) (hM : am_M E d mX10_readNumber 0 0 [.ref a, x1, x2] S iv (am_K3 E (d + 1) mX10_readLine k n 178 ls st Q)) : am_R E (d + 1) mX10_readLine k n 178 ls (x2 :: x1 :: .ref a :: st) S iv Q := am_cV (ci := 10) (M' := mX10_readNumber) (as := [x1, x2]) dX10_readLine_178 rfl rfl rfl wq_870 wq_871 wq_872 wq_808 wq_868 hy_X10_readNumber (by decide) ha hst (by omega) (by omega) hM
theorem sX10_readLine_178_k {ls : List Value} {x1 x2 : Value} {k' n' : Nat} {a : Nat} (ha : S.1 a = some (.inl 10)) (hst : (st.map fun v => v.category).sum ≤ 8) (hM : am_M E d mX10_readNumber k' n' [.ref a, x1, x2] S iv (am_K3 E (d + 1) mX10_readLine k n 178 ls st Q)) : am_R E (d + 1) mX10_readLine (k' + k) (n' + n) 178 ls (x2 :: x1 :: .ref a :: st) S iv Q := am_cV (ci := 10) (M' := mX10_readNumber) (as := [x1, x2]) dX10_readLine_178 rfl rfl rfl wq_870 wq_871 wq_872 wq_808 wq_868 hy_X10_readNumber (by decide) ha hst (by omega) (by omega) hM
theorem sX10_readLine_181 {ls : List Value} {a m : Nat} {i x : Int32} (ha : S.1 a = some (.inr (.int, m))) (hi : vp_in i m) (h : am_R E d mX10_readLine k n 182 ls st S (am_w iv a i.toNatClampNeg x) Q) : am_R E d mX10_readLine k n 181 ls (.int x :: .int i :: .ref a :: st) S iv Q := am_iastore dX10_readLine_181 ha hi h
theorem sX10_readLine_182 {a0 a1 a2 a3 a4 : Value} (hv : am_rf a0 = true) (h : am_R E d mX10_readLine k n 183 [a0, a1, a2, a3, a4] (a0 :: st) S iv Q) : am_R E d mX10_readLine k n 182 [a0, a1, a2, a3, a4] st S iv Q := am_aload_n dX10_readLine_182 rfl rfl hv h
theorem sX10_readLine_183 {ls : List Value} {a b : Nat} (ha : S.1 a = some (.inl 10)) (hb : S.2.1 a 4 = some b) (h : am_R E d mX10_readLine k n 186 ls (.ref b :: st) S iv Q) : am_R E d mX10_readLine k n 183 ls (.ref a :: st) S iv Q := am_getR (ci := 10) dX10_readLine_183 rfl rfl (by decide) wq_772 uq_10 rfl ha hb h
theorem sX10_readLine_186 {a0 a1 a2 a3 a4 : Value} (h : am_R E d mX10_readLine k n 188 [a0, a1, a2, a3, a4] (.int 11 :: st) S iv Q) : am_R E d mX10_readLine k n 186 [a0, a1, a2, a3, a4] st S iv Q := am_bipush dX10_readLine_186 (by decide) h
theorem sX10_readLine_188 {a0 a1 a2 a3 a4 : Value} (hv : am_rf a0 = true) (h : am_R E d mX10_readLine k n 189 [a0, a1, a2, a3, a4] (a0 :: st) S iv Q) : am_R E d mX10_readLine k n 188 [a0, a1, a2, a3, a4] st S iv Q := am_aload_n dX10_readLine_188 rfl rfl hv h
theorem sX10_readLine_189 {a0 a1 a2 a3 a4 : Value} (h : am_R E d mX10_readLine k n 190 [a0, a1, a2, a3, a4] (.int 1 :: st) S iv Q) : am_R E d mX10_readLine k n 189 [a0, a1, a2, a3, a4] st S iv Q := am_iconst dX10_readLine_189 (by decide) h
theorem sX10_readLine_190 {a0 a1 a2 a3 a4 : Value} (h : am_R E d mX10_readLine k n 192 [a0, a1, a2, a3, a4] (.int 9 :: st) S iv Q) : am_R E d mX10_readLine k n 190 [a0, a1, a2, a3, a4] st S iv Q := am_bipush dX10_readLine_190 (by decide) h
theorem sX10_readLine_192 {ls : List Value} {x1 x2 : Value} {a : Nat} (ha : S.1 a = some (.inl 10)) (hst : (st.map fun v => v.category).sum ≤ 8) (hM : am_M E d mX10_readNumber 0 0 [.ref a, x1, x2] S iv (am_K3 E (d + 1) mX10_readLine k n 192 ls st Q)) : am_R E (d + 1) mX10_readLine k n 192 ls (x2 :: x1 :: .ref a :: st) S iv Q := am_cV (ci := 10) (M' := mX10_readNumber) (as := [x1, x2]) dX10_readLine_192 rfl rfl rfl wq_870 wq_871 wq_872 wq_808 wq_868 hy_X10_readNumber (by decide) ha hst (by omega) (by omega) hM
theorem sX10_readLine_192_k {ls : List Value} {x1 x2 : Value} {k' n' : Nat} {a : Nat} (ha : S.1 a = some (.inl 10)) (hst : (st.map fun v => v.category).sum ≤ 8) (hM : am_M E d mX10_readNumber k' n' [.ref a, x1, x2] S iv (am_K3 E (d + 1) mX10_readLine k n 192 ls st Q)) : am_R E (d + 1) mX10_readLine (k' + k) (n' + n) 192 ls (x2 :: x1 :: .ref a :: st) S iv Q := am_cV (ci := 10) (M' := mX10_readNumber) (as := [x1, x2]) dX10_readLine_192 rfl rfl rfl wq_870 wq_871 wq_872 wq_808 wq_868 hy_X10_readNumber (by decide) ha hst (by omega) (by omega) hM
theorem sX10_readLine_195 {ls : List Value} {a m : Nat} {i x : Int32} (ha : S.1 a = some (.inr (.int, m))) (hi : vp_in i m) (h : am_R E d mX10_readLine k n 196 ls st S (am_w iv a i.toNatClampNeg x) Q) : am_R E d mX10_readLine k n 195 ls (.int x :: .int i :: .ref a :: st) S iv Q := am_iastore dX10_readLine_195 ha hi h
theorem sX10_readLine_196 {a0 a1 a2 a3 a4 : Value} (hv : am_rf a0 = true) (h : am_R E d mX10_readLine k n 197 [a0, a1, a2, a3, a4] (a0 :: st) S iv Q) : am_R E d mX10_readLine k n 196 [a0, a1, a2, a3, a4] st S iv Q := am_aload_n dX10_readLine_196 rfl rfl hv h
theorem sX10_readLine_197 {a0 a1 a2 a3 a4 : Value} (h : am_R E d mX10_readLine k n 199 [a0, a1, a2, a3, a4] (.int 59 :: st) S iv Q) : am_R E d mX10_readLine k n 197 [a0, a1, a2, a3, a4] st S iv Q := am_bipush dX10_readLine_197 (by decide) h
theorem sX10_readLine_199 {ls : List Value} {x1 : Value} {a : Nat} (ha : S.1 a = some (.inl 10)) (hst : (st.map fun v => v.category).sum ≤ 8) (hM : am_M E d mX10_mark 0 0 [.ref a, x1] S iv (am_K3 E (d + 1) mX10_readLine k n 199 ls st Q)) : am_R E (d + 1) mX10_readLine k n 199 ls (x1 :: .ref a :: st) S iv Q := am_cV (ci := 10) (M' := mX10_mark) (as := [x1]) dX10_readLine_199 rfl rfl rfl wq_885 wq_886 wq_887 wq_808 wq_883 hy_X10_mark (by decide) ha hst (by omega) (by omega) hM
theorem sX10_readLine_199_k {ls : List Value} {x1 : Value} {k' n' : Nat} {a : Nat} (ha : S.1 a = some (.inl 10)) (hst : (st.map fun v => v.category).sum ≤ 8) (hM : am_M E d mX10_mark k' n' [.ref a, x1] S iv (am_K3 E (d + 1) mX10_readLine k n 199 ls st Q)) : am_R E (d + 1) mX10_readLine (k' + k) (n' + n) 199 ls (x1 :: .ref a :: st) S iv Q := am_cV (ci := 10) (M' := mX10_mark) (as := [x1]) dX10_readLine_199 rfl rfl rfl wq_885 wq_886 wq_887 wq_808 wq_883 hy_X10_mark (by decide) ha hst (by omega) (by omega) hM
theorem sX10_readLine_202 {a0 a2 a3 a4 : Value} {x : Int32} (h : am_R E d mX10_readLine k n 203 [a0, .int x, a2, a3, a4] (.int x :: st) S iv Q) : am_R E d mX10_readLine k n 202 [a0, .int x, a2, a3, a4] st S iv Q := am_iload_n dX10_readLine_202 rfl rfl h
theorem sX10_readLine_203 {a0 a1 a2 a3 : Value} {x : Int32} (h : am_R E d mX10_readLine k n 205 [a0, a1, a2, a3, .int x] (.int x :: st) S iv Q) : am_R E d mX10_readLine k n 203 [a0, a1, a2, a3, .int x] st S iv Q := am_iload dX10_readLine_203 rfl h
theorem sX10_readLine_205 {ls : List Value} {x y : Int32} (h : am_R E d mX10_readLine k n 206 ls (.int (x ||| y) :: st) S iv Q) : am_R E d mX10_readLine k n 205 ls (.int y :: .int x :: st) S iv Q := am_ior dX10_readLine_205 h
theorem sX10_readLine_206 {ls : List Value} {x : Int32} (h : Q (.inl (some (.int x))) S iv) : am_R E d mX10_readLine k n 206 ls [.int x] S iv Q := am_ireturn dX10_readLine_206 rfl h
theorem dX10_city_0 : decode cX10_city 0 = .ok (.aload_n 0, 1) := by decide +kernel
theorem dX10_city_1 : decode cX10_city 1 = .ok (.iconst 0, 1) := by decide +kernel
theorem dX10_city_2 : decode cX10_city 2 = .ok (.putfield 143, 3) := by decide +kernel
theorem dX10_city_5 : decode cX10_city 5 = .ok (.iload_n 1, 1) := by decide +kernel
theorem dX10_city_6 : decode cX10_city 6 = .ok (.ifCond .lt 11, 3) := by decide +kernel
theorem dX10_city_9 : decode cX10_city 9 = .ok (.iload_n 1, 1) := by decide +kernel
theorem dX10_city_10 : decode cX10_city 10 = .ok (.aload_n 0, 1) := by decide +kernel
theorem dX10_city_11 : decode cX10_city 11 = .ok (.getfield 150, 3) := by decide +kernel
theorem dX10_city_14 : decode cX10_city 14 = .ok (.if_icmp .le 9, 3) := by decide +kernel
theorem dX10_city_17 : decode cX10_city 17 = .ok (.aload_n 0, 1) := by decide +kernel
theorem dX10_city_18 : decode cX10_city 18 = .ok (.iconst 1, 1) := by decide +kernel
theorem dX10_city_19 : decode cX10_city 19 = .ok (.invokevirtual 293, 3) := by decide +kernel
theorem dX10_city_22 : decode cX10_city 22 = .ok (.ireturn, 1) := by decide +kernel
theorem dX10_city_23 : decode cX10_city 23 = .ok (.aload_n 0, 1) := by decide +kernel
theorem dX10_city_24 : decode cX10_city 24 = .ok (.iconst 0, 1) := by decide +kernel
theorem dX10_city_25 : decode cX10_city 25 = .ok (.putfield 150, 3) := by decide +kernel
theorem dX10_city_28 : decode cX10_city 28 = .ok (.aload_n 0, 1) := by decide +kernel
theorem dX10_city_29 : decode cX10_city 29 = .ok (.iload_n 1, 1) := by decide +kernel
theorem dX10_city_30 : decode cX10_city 30 = .ok (.putfield 153, 3) := by decide +kernel
theorem dX10_city_33 : decode cX10_city 33 = .ok (.aload_n 0, 1) := by decide +kernel
theorem dX10_city_34 : decode cX10_city 34 = .ok (.iconst 0, 1) := by decide +kernel
theorem dX10_city_35 : decode cX10_city 35 = .ok (.putfield 156, 3) := by decide +kernel
theorem dX10_city_38 : decode cX10_city 38 = .ok (.aload_n 0, 1) := by decide +kernel
theorem dX10_city_39 : decode cX10_city 39 = .ok (.iconst 0, 1) := by decide +kernel
theorem dX10_city_40 : decode cX10_city 40 = .ok (.putfield 192, 3) := by decide +kernel
theorem dX10_city_43 : decode cX10_city 43 = .ok (.aload_n 0, 1) := by decide +kernel
theorem dX10_city_44 : decode cX10_city 44 = .ok (.iconst (-1), 1) := by decide +kernel
theorem dX10_city_45 : decode cX10_city 45 = .ok (.putfield 86, 3) := by decide +kernel
theorem dX10_city_48 : decode cX10_city 48 = .ok (.aload_n 0, 1) := by decide +kernel
theorem dX10_city_49 : decode cX10_city 49 = .ok (.iconst 0, 1) := by decide +kernel
theorem dX10_city_50 : decode cX10_city 50 = .ok (.putfield 222, 3) := by decide +kernel
theorem dX10_city_53 : decode cX10_city 53 = .ok (.bipush 10, 2) := by decide +kernel
theorem dX10_city_55 : decode cX10_city 55 = .ok (.istore_n 2, 1) := by decide +kernel
theorem dX10_city_56 : decode cX10_city 56 = .ok (.iload_n 2, 1) := by decide +kernel
theorem dX10_city_57 : decode cX10_city 57 = .ok (.bipush 20, 2) := by decide +kernel
theorem dX10_city_59 : decode cX10_city 59 = .ok (.if_icmp .ge 46, 3) := by decide +kernel
theorem dX10_city_62 : decode cX10_city 62 = .ok (.aload_n 0, 1) := by decide +kernel
theorem dX10_city_63 : decode cX10_city 63 = .ok (.getfield 49, 3) := by decide +kernel
theorem dX10_city_66 : decode cX10_city 66 = .ok (.iload_n 2, 1) := by decide +kernel
theorem dX10_city_67 : decode cX10_city 67 = .ok (.iload_n 2, 1) := by decide +kernel
theorem dX10_city_68 : decode cX10_city 68 = .ok (.bipush 10, 2) := by decide +kernel
theorem dX10_city_70 : decode cX10_city 70 = .ok (.if_icmp .ne 7, 3) := by decide +kernel
theorem dX10_city_73 : decode cX10_city 73 = .ok (.iconst 3, 1) := by decide +kernel
theorem dX10_city_74 : decode cX10_city 74 = .ok (.goto 24, 3) := by decide +kernel
theorem dX10_city_77 : decode cX10_city 77 = .ok (.iload_n 2, 1) := by decide +kernel
theorem dX10_city_78 : decode cX10_city 78 = .ok (.bipush 11, 2) := by decide +kernel
theorem dX10_city_80 : decode cX10_city 80 = .ok (.if_icmp .ne 7, 3) := by decide +kernel
theorem dX10_city_83 : decode cX10_city 83 = .ok (.iconst 4, 1) := by decide +kernel
theorem dX10_city_84 : decode cX10_city 84 = .ok (.goto 14, 3) := by decide +kernel
theorem dX10_city_87 : decode cX10_city 87 = .ok (.iload_n 2, 1) := by decide +kernel
theorem dX10_city_88 : decode cX10_city 88 = .ok (.bipush 14, 2) := by decide +kernel
theorem dX10_city_90 : decode cX10_city 90 = .ok (.if_icmp .ne 7, 3) := by decide +kernel
theorem dX10_city_93 : decode cX10_city 93 = .ok (.iconst 2, 1) := by decide +kernel
theorem dX10_city_94 : decode cX10_city 94 = .ok (.goto 4, 3) := by decide +kernel
theorem dX10_city_97 : decode cX10_city 97 = .ok (.iconst 0, 1) := by decide +kernel
theorem dX10_city_98 : decode cX10_city 98 = .ok (.iastore, 1) := by decide +kernel
theorem dX10_city_99 : decode cX10_city 99 = .ok (.iinc 2 1, 3) := by decide +kernel
theorem dX10_city_102 : decode cX10_city 102 = .ok (.goto (-46), 3) := by decide +kernel
theorem dX10_city_105 : decode cX10_city 105 = .ok (.aload_n 0, 1) := by decide +kernel
theorem dX10_city_106 : decode cX10_city 106 = .ok (.invokevirtual 209, 3) := by decide +kernel
theorem dX10_city_109 : decode cX10_city 109 = .ok (.iconst 0, 1) := by decide +kernel
theorem dX10_city_110 : decode cX10_city 110 = .ok (.istore_n 2, 1) := by decide +kernel
theorem dX10_city_111 : decode cX10_city 111 = .ok (.aload_n 0, 1) := by decide +kernel
theorem dX10_city_112 : decode cX10_city 112 = .ok (.getfield 192, 3) := by decide +kernel
theorem dX10_city_115 : decode cX10_city 115 = .ok (.ifCond .ne 19, 3) := by decide +kernel
theorem dX10_city_118 : decode cX10_city 118 = .ok (.aload_n 0, 1) := by decide +kernel
theorem dX10_city_119 : decode cX10_city 119 = .ok (.getfield 166, 3) := by decide +kernel
theorem dX10_city_122 : decode cX10_city 122 = .ok (.ifCond .eq 12, 3) := by decide +kernel
theorem dX10_city_125 : decode cX10_city 125 = .ok (.aload_n 0, 1) := by decide +kernel
theorem dX10_city_126 : decode cX10_city 126 = .ok (.iload_n 2, 1) := by decide +kernel
theorem dX10_city_127 : decode cX10_city 127 = .ok (.invokevirtual 296, 3) := by decide +kernel
theorem dX10_city_130 : decode cX10_city 130 = .ok (.istore_n 2, 1) := by decide +kernel
theorem dX10_city_131 : decode cX10_city 131 = .ok (.goto (-20), 3) := by decide +kernel
theorem dX10_city_134 : decode cX10_city 134 = .ok (.aload_n 0, 1) := by decide +kernel
theorem dX10_city_135 : decode cX10_city 135 = .ok (.getfield 192, 3) := by decide +kernel
theorem dX10_city_138 : decode cX10_city 138 = .ok (.ifCond .eq 26, 3) := by decide +kernel
theorem dX10_city_141 : decode cX10_city 141 = .ok (.aload_n 0, 1) := by decide +kernel
theorem dX10_city_142 : decode cX10_city 142 = .ok (.aload_n 0, 1) := by decide +kernel
theorem dX10_city_143 : decode cX10_city 143 = .ok (.getfield 195, 3) := by decide +kernel
theorem dX10_city_146 : decode cX10_city 146 = .ok (.putfield 86, 3) := by decide +kernel
theorem dX10_city_149 : decode cX10_city 149 = .ok (.aload_n 0, 1) := by decide +kernel
theorem dX10_city_150 : decode cX10_city 150 = .ok (.getfield 80, 3) := by decide +kernel
theorem dX10_city_153 : decode cX10_city 153 = .ok (.iconst 0, 1) := by decide +kernel
theorem dX10_city_154 : decode cX10_city 154 = .ok (.dup2, 1) := by decide +kernel
theorem dX10_city_155 : decode cX10_city 155 = .ok (.iaload, 1) := by decide +kernel
theorem dX10_city_156 : decode cX10_city 156 = .ok (.iconst 1, 1) := by decide +kernel
theorem dX10_city_157 : decode cX10_city 157 = .ok (.iadd, 1) := by decide +kernel
theorem dX10_city_158 : decode cX10_city 158 = .ok (.iastore, 1) := by decide +kernel
theorem dX10_city_159 : decode cX10_city 159 = .ok (.aload_n 0, 1) := by decide +kernel
theorem dX10_city_160 : decode cX10_city 160 = .ok (.getfield 192, 3) := by decide +kernel
theorem dX10_city_163 : decode cX10_city 163 = .ok (.ireturn, 1) := by decide +kernel
theorem dX10_city_164 : decode cX10_city 164 = .ok (.aload_n 0, 1) := by decide +kernel
theorem dX10_city_165 : decode cX10_city 165 = .ok (.invokevirtual 299, 3) := by decide +kernel
theorem dX10_city_168 : decode cX10_city 168 = .ok (.iconst 0, 1) := by decide +kernel
theorem dX10_city_169 : decode cX10_city 169 = .ok (.ireturn, 1) := by decide +kernel
theorem sX10_city_0 {a0 a1 a2 : Value} (hv : am_rf a0 = true) (h : am_R E d mX10_city k n 1 [a0, a1, a2] (a0 :: st) S iv Q) : am_R E d mX10_city k n 0 [a0, a1, a2] st S iv Q := am_aload_n dX10_city_0 rfl rfl hv h
theorem sX10_city_1 {a0 a1 a2 : Value} (h : am_R E d mX10_city k n 2 [a0, a1, a2] (.int 0 :: st) S iv Q) : am_R E d mX10_city k n 1 [a0, a1, a2] st S iv Q := am_iconst dX10_city_1 (by decide) h
theorem sX10_city_2 {ls : List Value} {a : Nat} {x : Int32} (ha : S.1 a = some (.inl 10)) (h : am_R E d mX10_city k n 5 ls st S (am_w iv a 3 x) Q) : am_R E d mX10_city k n 2 ls (.int x :: .ref a :: st) S iv Q := am_putI (ci := 10) dX10_city_2 rfl rfl (by decide) wq_806 uq_10 tyX10_ok nmX10 (Or.inl rfl) rfl ha h
theorem sX10_city_5 {a0 a2 : Value} {x : Int32} (h : am_R E d mX10_city k n 6 [a0, .int x, a2] (.int x :: st) S iv Q) : am_R E d mX10_city k n 5 [a0, .int x, a2] st S iv Q := am_iload_n dX10_city_5 rfl rfl h
theorem sX10_city_6 {ls : List Value} {x : Int32} (kt : x < 0 → am_R E d mX10_city k n 17 ls st S iv Q) (kf : ¬ x < 0 → am_R E d mX10_city k n 9 ls st S iv Q) : am_R E d mX10_city k n 6 ls (.int x :: st) S iv Q := am_if_lt dX10_city_6 (by decide) kt kf
theorem sX10_city_9 {a0 a2 : Value} {x : Int32} (h : am_R E d mX10_city k n 10 [a0, .int x, a2] (.int x :: st) S iv Q) : am_R E d mX10_city k n 9 [a0, .int x, a2] st S iv Q := am_iload_n dX10_city_9 rfl rfl h
theorem sX10_city_10 {a0 a1 a2 : Value} (hv : am_rf a0 = true) (h : am_R E d mX10_city k n 11 [a0, a1, a2] (a0 :: st) S iv Q) : am_R E d mX10_city k n 10 [a0, a1, a2] st S iv Q := am_aload_n dX10_city_10 rfl rfl hv h
theorem sX10_city_11 {ls : List Value} {a : Nat} (ha : S.1 a = some (.inl 10)) (h : am_R E d mX10_city k n 14 ls (.int (iv a 18) :: st) S iv Q) : am_R E d mX10_city k n 11 ls (.ref a :: st) S iv Q := am_getI (ci := 10) dX10_city_11 rfl rfl (by decide) wq_812 uq_10 rfl ha h
theorem sX10_city_14 {ls : List Value} {x y : Int32} (kt : x ≤ y → am_R E d mX10_city k n 23 ls st S iv Q) (kf : ¬ x ≤ y → am_R E d mX10_city k n 17 ls st S iv Q) : am_R E d mX10_city k n 14 ls (.int y :: .int x :: st) S iv Q := am_icmp_le dX10_city_14 (by decide) kt kf
theorem sX10_city_17 {a0 a1 a2 : Value} (hv : am_rf a0 = true) (h : am_R E d mX10_city k n 18 [a0, a1, a2] (a0 :: st) S iv Q) : am_R E d mX10_city k n 17 [a0, a1, a2] st S iv Q := am_aload_n dX10_city_17 rfl rfl hv h
theorem sX10_city_18 {a0 a1 a2 : Value} (h : am_R E d mX10_city k n 19 [a0, a1, a2] (.int 1 :: st) S iv Q) : am_R E d mX10_city k n 18 [a0, a1, a2] st S iv Q := am_iconst dX10_city_18 (by decide) h
theorem sX10_city_19 {ls : List Value} {x1 : Value} {a : Nat} (ha : S.1 a = some (.inl 10)) (hst : (st.map fun v => v.category).sum ≤ 8) (hM : am_M E d mX10_fail 0 0 [.ref a, x1] S iv (am_K3 E (d + 1) mX10_city k n 19 ls st Q)) : am_R E (d + 1) mX10_city k n 19 ls (x1 :: .ref a :: st) S iv Q := am_cV (ci := 10) (M' := mX10_fail) (as := [x1]) dX10_city_19 rfl rfl rfl wq_955 wq_956 wq_957 wq_808 wq_953 hy_X10_fail (by decide) ha hst (by omega) (by omega) hM
theorem sX10_city_19_k {ls : List Value} {x1 : Value} {k' n' : Nat} {a : Nat} (ha : S.1 a = some (.inl 10)) (hst : (st.map fun v => v.category).sum ≤ 8) (hM : am_M E d mX10_fail k' n' [.ref a, x1] S iv (am_K3 E (d + 1) mX10_city k n 19 ls st Q)) : am_R E (d + 1) mX10_city (k' + k) (n' + n) 19 ls (x1 :: .ref a :: st) S iv Q := am_cV (ci := 10) (M' := mX10_fail) (as := [x1]) dX10_city_19 rfl rfl rfl wq_955 wq_956 wq_957 wq_808 wq_953 hy_X10_fail (by decide) ha hst (by omega) (by omega) hM
theorem sX10_city_22 {ls : List Value} {x : Int32} (h : Q (.inl (some (.int x))) S iv) : am_R E d mX10_city k n 22 ls [.int x] S iv Q := am_ireturn dX10_city_22 rfl h
theorem sX10_city_23 {a0 a1 a2 : Value} (hv : am_rf a0 = true) (h : am_R E d mX10_city k n 24 [a0, a1, a2] (a0 :: st) S iv Q) : am_R E d mX10_city k n 23 [a0, a1, a2] st S iv Q := am_aload_n dX10_city_23 rfl rfl hv h
theorem sX10_city_24 {a0 a1 a2 : Value} (h : am_R E d mX10_city k n 25 [a0, a1, a2] (.int 0 :: st) S iv Q) : am_R E d mX10_city k n 24 [a0, a1, a2] st S iv Q := am_iconst dX10_city_24 (by decide) h
theorem sX10_city_25 {ls : List Value} {a : Nat} {x : Int32} (ha : S.1 a = some (.inl 10)) (h : am_R E d mX10_city k n 28 ls st S (am_w iv a 18 x) Q) : am_R E d mX10_city k n 25 ls (.int x :: .ref a :: st) S iv Q := am_putI (ci := 10) dX10_city_25 rfl rfl (by decide) wq_812 uq_10 tyX10_ok nmX10 (Or.inl rfl) rfl ha h
theorem sX10_city_28 {a0 a1 a2 : Value} (hv : am_rf a0 = true) (h : am_R E d mX10_city k n 29 [a0, a1, a2] (a0 :: st) S iv Q) : am_R E d mX10_city k n 28 [a0, a1, a2] st S iv Q := am_aload_n dX10_city_28 rfl rfl hv h
theorem sX10_city_29 {a0 a2 : Value} {x : Int32} (h : am_R E d mX10_city k n 30 [a0, .int x, a2] (.int x :: st) S iv Q) : am_R E d mX10_city k n 29 [a0, .int x, a2] st S iv Q := am_iload_n dX10_city_29 rfl rfl h
theorem sX10_city_30 {ls : List Value} {a : Nat} {x : Int32} (ha : S.1 a = some (.inl 10)) (h : am_R E d mX10_city k n 33 ls st S (am_w iv a 20 x) Q) : am_R E d mX10_city k n 30 ls (.int x :: .ref a :: st) S iv Q := am_putI (ci := 10) dX10_city_30 rfl rfl (by decide) wq_813 uq_10 tyX10_ok nmX10 (Or.inl rfl) rfl ha h
theorem sX10_city_33 {a0 a1 a2 : Value} (hv : am_rf a0 = true) (h : am_R E d mX10_city k n 34 [a0, a1, a2] (a0 :: st) S iv Q) : am_R E d mX10_city k n 33 [a0, a1, a2] st S iv Q := am_aload_n dX10_city_33 rfl rfl hv h
theorem sX10_city_34 {a0 a1 a2 : Value} (h : am_R E d mX10_city k n 35 [a0, a1, a2] (.int 0 :: st) S iv Q) : am_R E d mX10_city k n 34 [a0, a1, a2] st S iv Q := am_iconst dX10_city_34 (by decide) h
theorem sX10_city_35 {ls : List Value} {a : Nat} {x : Int32} (ha : S.1 a = some (.inl 10)) (h : am_R E d mX10_city k n 38 ls st S (am_w iv a 19 x) Q) : am_R E d mX10_city k n 35 ls (.int x :: .ref a :: st) S iv Q := am_putI (ci := 10) dX10_city_35 rfl rfl (by decide) wq_814 uq_10 tyX10_ok nmX10 (Or.inl rfl) rfl ha h
theorem sX10_city_38 {a0 a1 a2 : Value} (hv : am_rf a0 = true) (h : am_R E d mX10_city k n 39 [a0, a1, a2] (a0 :: st) S iv Q) : am_R E d mX10_city k n 38 [a0, a1, a2] st S iv Q := am_aload_n dX10_city_38 rfl rfl hv h
theorem sX10_city_39 {a0 a1 a2 : Value} (h : am_R E d mX10_city k n 40 [a0, a1, a2] (.int 0 :: st) S iv Q) : am_R E d mX10_city k n 39 [a0, a1, a2] st S iv Q := am_iconst dX10_city_39 (by decide) h
theorem sX10_city_40 {ls : List Value} {a : Nat} {x : Int32} (ha : S.1 a = some (.inl 10)) (h : am_R E d mX10_city k n 43 ls st S (am_w iv a 25 x) Q) : am_R E d mX10_city k n 40 ls (.int x :: .ref a :: st) S iv Q := am_putI (ci := 10) dX10_city_40 rfl rfl (by decide) wq_838 uq_10 tyX10_ok nmX10 (Or.inl rfl) rfl ha h
theorem sX10_city_43 {a0 a1 a2 : Value} (hv : am_rf a0 = true) (h : am_R E d mX10_city k n 44 [a0, a1, a2] (a0 :: st) S iv Q) : am_R E d mX10_city k n 43 [a0, a1, a2] st S iv Q := am_aload_n dX10_city_43 rfl rfl hv h
theorem sX10_city_44 {a0 a1 a2 : Value} (h : am_R E d mX10_city k n 45 [a0, a1, a2] (.int (-1) :: st) S iv Q) : am_R E d mX10_city k n 44 [a0, a1, a2] st S iv Q := am_iconst dX10_city_44 (by decide) h
theorem sX10_city_45 {ls : List Value} {a : Nat} {x : Int32} (ha : S.1 a = some (.inl 10)) (h : am_R E d mX10_city k n 48 ls st S (am_w iv a 27 x) Q) : am_R E d mX10_city k n 45 ls (.int x :: .ref a :: st) S iv Q := am_putI (ci := 10) dX10_city_45 rfl rfl (by decide) wq_786 uq_10 tyX10_ok nmX10 (Or.inl rfl) rfl ha h
theorem sX10_city_48 {a0 a1 a2 : Value} (hv : am_rf a0 = true) (h : am_R E d mX10_city k n 49 [a0, a1, a2] (a0 :: st) S iv Q) : am_R E d mX10_city k n 48 [a0, a1, a2] st S iv Q := am_aload_n dX10_city_48 rfl rfl hv h
theorem sX10_city_49 {a0 a1 a2 : Value} (h : am_R E d mX10_city k n 50 [a0, a1, a2] (.int 0 :: st) S iv Q) : am_R E d mX10_city k n 49 [a0, a1, a2] st S iv Q := am_iconst dX10_city_49 (by decide) h
theorem sX10_city_50 {ls : List Value} {a : Nat} {x : Int32} (ha : S.1 a = some (.inl 10)) (h : am_R E d mX10_city k n 53 ls st S (am_w iv a 28 x) Q) : am_R E d mX10_city k n 50 ls (.int x :: .ref a :: st) S iv Q := am_putI (ci := 10) dX10_city_50 rfl rfl (by decide) wq_867 uq_10 tyX10_ok nmX10 (Or.inl rfl) rfl ha h
theorem sX10_city_53 {a0 a1 a2 : Value} (h : am_R E d mX10_city k n 55 [a0, a1, a2] (.int 10 :: st) S iv Q) : am_R E d mX10_city k n 53 [a0, a1, a2] st S iv Q := am_bipush dX10_city_53 (by decide) h
theorem sX10_city_55 {a0 a1 a2 : Value} {x : Int32} (h : am_R E d mX10_city k n 56 [a0, a1, .int x] st S iv Q) : am_R E d mX10_city k n 55 [a0, a1, a2] (.int x :: st) S iv Q := am_istore_n dX10_city_55 rfl (by decide) h
theorem sX10_city_56 {a0 a1 : Value} {x : Int32} (h : am_R E d mX10_city k n 57 [a0, a1, .int x] (.int x :: st) S iv Q) : am_R E d mX10_city k n 56 [a0, a1, .int x] st S iv Q := am_iload_n dX10_city_56 rfl rfl h
theorem sX10_city_57 {a0 a1 a2 : Value} (h : am_R E d mX10_city k n 59 [a0, a1, a2] (.int 20 :: st) S iv Q) : am_R E d mX10_city k n 57 [a0, a1, a2] st S iv Q := am_bipush dX10_city_57 (by decide) h
theorem sX10_city_59 {ls : List Value} {x y : Int32} (kt : y ≤ x → am_R E d mX10_city k n 105 ls st S iv Q) (kf : ¬ y ≤ x → am_R E d mX10_city k n 62 ls st S iv Q) : am_R E d mX10_city k n 59 ls (.int y :: .int x :: st) S iv Q := am_icmp_ge dX10_city_59 (by decide) kt kf
theorem sX10_city_62 {a0 a1 a2 : Value} (hv : am_rf a0 = true) (h : am_R E d mX10_city k n 63 [a0, a1, a2] (a0 :: st) S iv Q) : am_R E d mX10_city k n 62 [a0, a1, a2] st S iv Q := am_aload_n dX10_city_62 rfl rfl hv h
theorem sX10_city_63 {ls : List Value} {a b : Nat} (ha : S.1 a = some (.inl 10)) (hb : S.2.1 a 4 = some b) (h : am_R E d mX10_city k n 66 ls (.ref b :: st) S iv Q) : am_R E d mX10_city k n 63 ls (.ref a :: st) S iv Q := am_getR (ci := 10) dX10_city_63 rfl rfl (by decide) wq_772 uq_10 rfl ha hb h
theorem sX10_city_66 {a0 a1 : Value} {x : Int32} (h : am_R E d mX10_city k n 67 [a0, a1, .int x] (.int x :: st) S iv Q) : am_R E d mX10_city k n 66 [a0, a1, .int x] st S iv Q := am_iload_n dX10_city_66 rfl rfl h
theorem sX10_city_67 {a0 a1 : Value} {x : Int32} (h : am_R E d mX10_city k n 68 [a0, a1, .int x] (.int x :: st) S iv Q) : am_R E d mX10_city k n 67 [a0, a1, .int x] st S iv Q := am_iload_n dX10_city_67 rfl rfl h
theorem sX10_city_68 {a0 a1 a2 : Value} (h : am_R E d mX10_city k n 70 [a0, a1, a2] (.int 10 :: st) S iv Q) : am_R E d mX10_city k n 68 [a0, a1, a2] st S iv Q := am_bipush dX10_city_68 (by decide) h
theorem sX10_city_70 {ls : List Value} {x y : Int32} (kt : ¬ x = y → am_R E d mX10_city k n 77 ls st S iv Q) (kf : x = y → am_R E d mX10_city k n 73 ls st S iv Q) : am_R E d mX10_city k n 70 ls (.int y :: .int x :: st) S iv Q := am_icmp_ne dX10_city_70 (by decide) kt kf
theorem sX10_city_73 {a0 a1 a2 : Value} (h : am_R E d mX10_city k n 74 [a0, a1, a2] (.int 3 :: st) S iv Q) : am_R E d mX10_city k n 73 [a0, a1, a2] st S iv Q := am_iconst dX10_city_73 (by decide) h
theorem sX10_city_74 {ls : List Value} (h : am_R E d mX10_city k n 98 ls st S iv Q) : am_R E d mX10_city k n 74 ls st S iv Q := am_goto dX10_city_74 (by decide) h
theorem sX10_city_77 {a0 a1 : Value} {x : Int32} (h : am_R E d mX10_city k n 78 [a0, a1, .int x] (.int x :: st) S iv Q) : am_R E d mX10_city k n 77 [a0, a1, .int x] st S iv Q := am_iload_n dX10_city_77 rfl rfl h
theorem sX10_city_78 {a0 a1 a2 : Value} (h : am_R E d mX10_city k n 80 [a0, a1, a2] (.int 11 :: st) S iv Q) : am_R E d mX10_city k n 78 [a0, a1, a2] st S iv Q := am_bipush dX10_city_78 (by decide) h
theorem sX10_city_80 {ls : List Value} {x y : Int32} (kt : ¬ x = y → am_R E d mX10_city k n 87 ls st S iv Q) (kf : x = y → am_R E d mX10_city k n 83 ls st S iv Q) : am_R E d mX10_city k n 80 ls (.int y :: .int x :: st) S iv Q := am_icmp_ne dX10_city_80 (by decide) kt kf
theorem sX10_city_83 {a0 a1 a2 : Value} (h : am_R E d mX10_city k n 84 [a0, a1, a2] (.int 4 :: st) S iv Q) : am_R E d mX10_city k n 83 [a0, a1, a2] st S iv Q := am_iconst dX10_city_83 (by decide) h
theorem sX10_city_84 {ls : List Value} (h : am_R E d mX10_city k n 98 ls st S iv Q) : am_R E d mX10_city k n 84 ls st S iv Q := am_goto dX10_city_84 (by decide) h
theorem sX10_city_87 {a0 a1 : Value} {x : Int32} (h : am_R E d mX10_city k n 88 [a0, a1, .int x] (.int x :: st) S iv Q) : am_R E d mX10_city k n 87 [a0, a1, .int x] st S iv Q := am_iload_n dX10_city_87 rfl rfl h
theorem sX10_city_88 {a0 a1 a2 : Value} (h : am_R E d mX10_city k n 90 [a0, a1, a2] (.int 14 :: st) S iv Q) : am_R E d mX10_city k n 88 [a0, a1, a2] st S iv Q := am_bipush dX10_city_88 (by decide) h
theorem sX10_city_90 {ls : List Value} {x y : Int32} (kt : ¬ x = y → am_R E d mX10_city k n 97 ls st S iv Q) (kf : x = y → am_R E d mX10_city k n 93 ls st S iv Q) : am_R E d mX10_city k n 90 ls (.int y :: .int x :: st) S iv Q := am_icmp_ne dX10_city_90 (by decide) kt kf
theorem sX10_city_93 {a0 a1 a2 : Value} (h : am_R E d mX10_city k n 94 [a0, a1, a2] (.int 2 :: st) S iv Q) : am_R E d mX10_city k n 93 [a0, a1, a2] st S iv Q := am_iconst dX10_city_93 (by decide) h
theorem sX10_city_94 {ls : List Value} (h : am_R E d mX10_city k n 98 ls st S iv Q) : am_R E d mX10_city k n 94 ls st S iv Q := am_goto dX10_city_94 (by decide) h
theorem sX10_city_97 {a0 a1 a2 : Value} (h : am_R E d mX10_city k n 98 [a0, a1, a2] (.int 0 :: st) S iv Q) : am_R E d mX10_city k n 97 [a0, a1, a2] st S iv Q := am_iconst dX10_city_97 (by decide) h
theorem sX10_city_98 {ls : List Value} {a m : Nat} {i x : Int32} (ha : S.1 a = some (.inr (.int, m))) (hi : vp_in i m) (h : am_R E d mX10_city k n 99 ls st S (am_w iv a i.toNatClampNeg x) Q) : am_R E d mX10_city k n 98 ls (.int x :: .int i :: .ref a :: st) S iv Q := am_iastore dX10_city_98 ha hi h
theorem sX10_city_99 {a0 a1 : Value} {x : Int32} (h : am_R E d mX10_city k n 102 [a0, a1, .int (x + 1)] st S iv Q) : am_R E d mX10_city k n 99 [a0, a1, .int x] st S iv Q := am_iinc dX10_city_99 rfl rfl (by decide) h
theorem sX10_city_102 {ls : List Value} (h : am_R E d mX10_city k n 56 ls st S iv Q) : am_R E d mX10_city k n 102 ls st S iv Q := am_goto dX10_city_102 (by decide) h
theorem sX10_city_105 {a0 a1 a2 : Value} (hv : am_rf a0 = true) (h : am_R E d mX10_city k n 106 [a0, a1, a2] (a0 :: st) S iv Q) : am_R E d mX10_city k n 105 [a0, a1, a2] st S iv Q := am_aload_n dX10_city_105 rfl rfl hv h
theorem sX10_city_106 {ls : List Value} {a : Nat} (ha : S.1 a = some (.inl 10)) (hst : (st.map fun v => v.category).sum ≤ 8) (hM : am_M E d mX10_stepOn 0 0 [.ref a] S iv (am_K3 E (d + 1) mX10_city k n 106 ls st Q)) : am_R E (d + 1) mX10_city k n 106 ls (.ref a :: st) S iv Q := am_cV (ci := 10) (M' := mX10_stepOn) (as := []) dX10_city_106 rfl rfl rfl wq_849 wq_850 wq_851 wq_808 wq_847 hy_X10_stepOn (by decide) ha hst (by omega) (by omega) hM
theorem sX10_city_106_k {ls : List Value} {k' n' : Nat} {a : Nat} (ha : S.1 a = some (.inl 10)) (hst : (st.map fun v => v.category).sum ≤ 8) (hM : am_M E d mX10_stepOn k' n' [.ref a] S iv (am_K3 E (d + 1) mX10_city k n 106 ls st Q)) : am_R E (d + 1) mX10_city (k' + k) (n' + n) 106 ls (.ref a :: st) S iv Q := am_cV (ci := 10) (M' := mX10_stepOn) (as := []) dX10_city_106 rfl rfl rfl wq_849 wq_850 wq_851 wq_808 wq_847 hy_X10_stepOn (by decide) ha hst (by omega) (by omega) hM
theorem sX10_city_109 {a0 a1 a2 : Value} (h : am_R E d mX10_city k n 110 [a0, a1, a2] (.int 0 :: st) S iv Q) : am_R E d mX10_city k n 109 [a0, a1, a2] st S iv Q := am_iconst dX10_city_109 (by decide) h
theorem sX10_city_110 {a0 a1 a2 : Value} {x : Int32} (h : am_R E d mX10_city k n 111 [a0, a1, .int x] st S iv Q) : am_R E d mX10_city k n 110 [a0, a1, a2] (.int x :: st) S iv Q := am_istore_n dX10_city_110 rfl (by decide) h
theorem sX10_city_111 {a0 a1 a2 : Value} (hv : am_rf a0 = true) (h : am_R E d mX10_city k n 112 [a0, a1, a2] (a0 :: st) S iv Q) : am_R E d mX10_city k n 111 [a0, a1, a2] st S iv Q := am_aload_n dX10_city_111 rfl rfl hv h
theorem sX10_city_112 {ls : List Value} {a : Nat} (ha : S.1 a = some (.inl 10)) (h : am_R E d mX10_city k n 115 ls (.int (iv a 25) :: st) S iv Q) : am_R E d mX10_city k n 112 ls (.ref a :: st) S iv Q := am_getI (ci := 10) dX10_city_112 rfl rfl (by decide) wq_838 uq_10 rfl ha h
theorem sX10_city_115 {ls : List Value} {x : Int32} (kt : ¬ x = 0 → am_R E d mX10_city k n 134 ls st S iv Q) (kf : x = 0 → am_R E d mX10_city k n 118 ls st S iv Q) : am_R E d mX10_city k n 115 ls (.int x :: st) S iv Q := am_if_ne dX10_city_115 (by decide) kt kf
theorem sX10_city_118 {a0 a1 a2 : Value} (hv : am_rf a0 = true) (h : am_R E d mX10_city k n 119 [a0, a1, a2] (a0 :: st) S iv Q) : am_R E d mX10_city k n 118 [a0, a1, a2] st S iv Q := am_aload_n dX10_city_118 rfl rfl hv h
theorem sX10_city_119 {ls : List Value} {a : Nat} (ha : S.1 a = some (.inl 10)) (h : am_R E d mX10_city k n 122 ls (.int (iv a 21) :: st) S iv Q) : am_R E d mX10_city k n 119 ls (.ref a :: st) S iv Q := am_getI (ci := 10) dX10_city_119 rfl rfl (by decide) wq_821 uq_10 rfl ha h
theorem sX10_city_122 {ls : List Value} {x : Int32} (kt : x = 0 → am_R E d mX10_city k n 134 ls st S iv Q) (kf : ¬ x = 0 → am_R E d mX10_city k n 125 ls st S iv Q) : am_R E d mX10_city k n 122 ls (.int x :: st) S iv Q := am_if_eq dX10_city_122 (by decide) kt kf
theorem sX10_city_125 {a0 a1 a2 : Value} (hv : am_rf a0 = true) (h : am_R E d mX10_city k n 126 [a0, a1, a2] (a0 :: st) S iv Q) : am_R E d mX10_city k n 125 [a0, a1, a2] st S iv Q := am_aload_n dX10_city_125 rfl rfl hv h
theorem sX10_city_126 {a0 a1 : Value} {x : Int32} (h : am_R E d mX10_city k n 127 [a0, a1, .int x] (.int x :: st) S iv Q) : am_R E d mX10_city k n 126 [a0, a1, .int x] st S iv Q := am_iload_n dX10_city_126 rfl rfl h
theorem sX10_city_127 {ls : List Value} {x1 : Value} {a : Nat} (ha : S.1 a = some (.inl 10)) (hst : (st.map fun v => v.category).sum ≤ 8) (hM : am_M E d mX10_readLine 0 0 [.ref a, x1] S iv (am_K3 E (d + 1) mX10_city k n 127 ls st Q)) : am_R E (d + 1) mX10_city k n 127 ls (x1 :: .ref a :: st) S iv Q := am_cV (ci := 10) (M' := mX10_readLine) (as := [x1]) dX10_city_127 rfl rfl rfl wq_960 wq_961 wq_962 wq_808 wq_958 hy_X10_readLine (by decide) ha hst (by omega) (by omega) hM
theorem sX10_city_127_k {ls : List Value} {x1 : Value} {k' n' : Nat} {a : Nat} (ha : S.1 a = some (.inl 10)) (hst : (st.map fun v => v.category).sum ≤ 8) (hM : am_M E d mX10_readLine k' n' [.ref a, x1] S iv (am_K3 E (d + 1) mX10_city k n 127 ls st Q)) : am_R E (d + 1) mX10_city (k' + k) (n' + n) 127 ls (x1 :: .ref a :: st) S iv Q := am_cV (ci := 10) (M' := mX10_readLine) (as := [x1]) dX10_city_127 rfl rfl rfl wq_960 wq_961 wq_962 wq_808 wq_958 hy_X10_readLine (by decide) ha hst (by omega) (by omega) hM
theorem sX10_city_130 {a0 a1 a2 : Value} {x : Int32} (h : am_R E d mX10_city k n 131 [a0, a1, .int x] st S iv Q) : am_R E d mX10_city k n 130 [a0, a1, a2] (.int x :: st) S iv Q := am_istore_n dX10_city_130 rfl (by decide) h
theorem sX10_city_131 {ls : List Value} (h : am_R E d mX10_city k n 111 ls st S iv Q) : am_R E d mX10_city k n 131 ls st S iv Q := am_goto dX10_city_131 (by decide) h
theorem sX10_city_134 {a0 a1 a2 : Value} (hv : am_rf a0 = true) (h : am_R E d mX10_city k n 135 [a0, a1, a2] (a0 :: st) S iv Q) : am_R E d mX10_city k n 134 [a0, a1, a2] st S iv Q := am_aload_n dX10_city_134 rfl rfl hv h
theorem sX10_city_135 {ls : List Value} {a : Nat} (ha : S.1 a = some (.inl 10)) (h : am_R E d mX10_city k n 138 ls (.int (iv a 25) :: st) S iv Q) : am_R E d mX10_city k n 135 ls (.ref a :: st) S iv Q := am_getI (ci := 10) dX10_city_135 rfl rfl (by decide) wq_838 uq_10 rfl ha h
theorem sX10_city_138 {ls : List Value} {x : Int32} (kt : x = 0 → am_R E d mX10_city k n 164 ls st S iv Q) (kf : ¬ x = 0 → am_R E d mX10_city k n 141 ls st S iv Q) : am_R E d mX10_city k n 138 ls (.int x :: st) S iv Q := am_if_eq dX10_city_138 (by decide) kt kf
theorem sX10_city_141 {a0 a1 a2 : Value} (hv : am_rf a0 = true) (h : am_R E d mX10_city k n 142 [a0, a1, a2] (a0 :: st) S iv Q) : am_R E d mX10_city k n 141 [a0, a1, a2] st S iv Q := am_aload_n dX10_city_141 rfl rfl hv h
theorem sX10_city_142 {a0 a1 a2 : Value} (hv : am_rf a0 = true) (h : am_R E d mX10_city k n 143 [a0, a1, a2] (a0 :: st) S iv Q) : am_R E d mX10_city k n 142 [a0, a1, a2] st S iv Q := am_aload_n dX10_city_142 rfl rfl hv h
theorem sX10_city_143 {ls : List Value} {a : Nat} (ha : S.1 a = some (.inl 10)) (h : am_R E d mX10_city k n 146 ls (.int (iv a 26) :: st) S iv Q) : am_R E d mX10_city k n 143 ls (.ref a :: st) S iv Q := am_getI (ci := 10) dX10_city_143 rfl rfl (by decide) wq_839 uq_10 rfl ha h
theorem sX10_city_146 {ls : List Value} {a : Nat} {x : Int32} (ha : S.1 a = some (.inl 10)) (h : am_R E d mX10_city k n 149 ls st S (am_w iv a 27 x) Q) : am_R E d mX10_city k n 146 ls (.int x :: .ref a :: st) S iv Q := am_putI (ci := 10) dX10_city_146 rfl rfl (by decide) wq_786 uq_10 tyX10_ok nmX10 (Or.inl rfl) rfl ha h
theorem sX10_city_149 {a0 a1 a2 : Value} (hv : am_rf a0 = true) (h : am_R E d mX10_city k n 150 [a0, a1, a2] (a0 :: st) S iv Q) : am_R E d mX10_city k n 149 [a0, a1, a2] st S iv Q := am_aload_n dX10_city_149 rfl rfl hv h
theorem sX10_city_150 {ls : List Value} {a b : Nat} (ha : S.1 a = some (.inl 10)) (hb : S.2.1 a 16 = some b) (h : am_R E d mX10_city k n 153 ls (.ref b :: st) S iv Q) : am_R E d mX10_city k n 150 ls (.ref a :: st) S iv Q := am_getR (ci := 10) dX10_city_150 rfl rfl (by decide) wq_784 uq_10 rfl ha hb h
theorem sX10_city_153 {a0 a1 a2 : Value} (h : am_R E d mX10_city k n 154 [a0, a1, a2] (.int 0 :: st) S iv Q) : am_R E d mX10_city k n 153 [a0, a1, a2] st S iv Q := am_iconst dX10_city_153 (by decide) h
theorem sX10_city_154 {ls : List Value} {x y : Value} (hv : x.category = 1) (hu : y.category = 1) (h : am_R E d mX10_city k n 155 ls (x :: y :: x :: y :: st) S iv Q) : am_R E d mX10_city k n 154 ls (x :: y :: st) S iv Q := am_dup2 dX10_city_154 hv hu h
theorem sX10_city_155 {ls : List Value} {a m : Nat} {i : Int32} (ha : S.1 a = some (.inr (.int, m))) (hi : vp_in i m) (h : am_R E d mX10_city k n 156 ls (.int (iv a i.toNatClampNeg) :: st) S iv Q) : am_R E d mX10_city k n 155 ls (.int i :: .ref a :: st) S iv Q := am_iaload dX10_city_155 ha hi h
theorem sX10_city_156 {a0 a1 a2 : Value} (h : am_R E d mX10_city k n 157 [a0, a1, a2] (.int 1 :: st) S iv Q) : am_R E d mX10_city k n 156 [a0, a1, a2] st S iv Q := am_iconst dX10_city_156 (by decide) h
theorem sX10_city_157 {ls : List Value} {x y : Int32} (h : am_R E d mX10_city k n 158 ls (.int (x + y) :: st) S iv Q) : am_R E d mX10_city k n 157 ls (.int y :: .int x :: st) S iv Q := am_iadd dX10_city_157 h
theorem sX10_city_158 {ls : List Value} {a m : Nat} {i x : Int32} (ha : S.1 a = some (.inr (.int, m))) (hi : vp_in i m) (h : am_R E d mX10_city k n 159 ls st S (am_w iv a i.toNatClampNeg x) Q) : am_R E d mX10_city k n 158 ls (.int x :: .int i :: .ref a :: st) S iv Q := am_iastore dX10_city_158 ha hi h
theorem sX10_city_159 {a0 a1 a2 : Value} (hv : am_rf a0 = true) (h : am_R E d mX10_city k n 160 [a0, a1, a2] (a0 :: st) S iv Q) : am_R E d mX10_city k n 159 [a0, a1, a2] st S iv Q := am_aload_n dX10_city_159 rfl rfl hv h
theorem sX10_city_160 {ls : List Value} {a : Nat} (ha : S.1 a = some (.inl 10)) (h : am_R E d mX10_city k n 163 ls (.int (iv a 25) :: st) S iv Q) : am_R E d mX10_city k n 160 ls (.ref a :: st) S iv Q := am_getI (ci := 10) dX10_city_160 rfl rfl (by decide) wq_838 uq_10 rfl ha h
theorem sX10_city_163 {ls : List Value} {x : Int32} (h : Q (.inl (some (.int x))) S iv) : am_R E d mX10_city k n 163 ls [.int x] S iv Q := am_ireturn dX10_city_163 rfl h
theorem sX10_city_164 {a0 a1 a2 : Value} (hv : am_rf a0 = true) (h : am_R E d mX10_city k n 165 [a0, a1, a2] (a0 :: st) S iv Q) : am_R E d mX10_city k n 164 [a0, a1, a2] st S iv Q := am_aload_n dX10_city_164 rfl rfl hv h
theorem sX10_city_165 {ls : List Value} {a : Nat} (ha : S.1 a = some (.inl 10)) (hst : (st.map fun v => v.category).sum ≤ 8) (hM : am_M E d mX10_take 0 0 [.ref a] S iv (am_K3 E (d + 1) mX10_city k n 165 ls st Q)) : am_R E (d + 1) mX10_city k n 165 ls (.ref a :: st) S iv Q := am_cV (ci := 10) (M' := mX10_take) (as := []) dX10_city_165 rfl rfl rfl wq_965 wq_966 wq_967 wq_808 wq_963 hy_X10_take (by decide) ha hst (by omega) (by omega) hM
theorem sX10_city_165_k {ls : List Value} {k' n' : Nat} {a : Nat} (ha : S.1 a = some (.inl 10)) (hst : (st.map fun v => v.category).sum ≤ 8) (hM : am_M E d mX10_take k' n' [.ref a] S iv (am_K3 E (d + 1) mX10_city k n 165 ls st Q)) : am_R E (d + 1) mX10_city (k' + k) (n' + n) 165 ls (.ref a :: st) S iv Q := am_cV (ci := 10) (M' := mX10_take) (as := []) dX10_city_165 rfl rfl rfl wq_965 wq_966 wq_967 wq_808 wq_963 hy_X10_take (by decide) ha hst (by omega) (by omega) hM
theorem sX10_city_168 {a0 a1 a2 : Value} (h : am_R E d mX10_city k n 169 [a0, a1, a2] (.int 0 :: st) S iv Q) : am_R E d mX10_city k n 168 [a0, a1, a2] st S iv Q := am_iconst dX10_city_168 (by decide) h
theorem sX10_city_169 {ls : List Value} {x : Int32} (h : Q (.inl (some (.int x))) S iv) : am_R E d mX10_city k n 169 ls [.int x] S iv Q := am_ireturn dX10_city_169 rfl h
theorem dX10_takeHalf_0 : decode cX10_takeHalf 0 = .ok (.iconst 0, 1) := by decide +kernel
theorem dX10_takeHalf_1 : decode cX10_takeHalf 1 = .ok (.istore_n 1, 1) := by decide +kernel
theorem dX10_takeHalf_2 : decode cX10_takeHalf 2 = .ok (.iload_n 1, 1) := by decide +kernel
theorem dX10_takeHalf_3 : decode cX10_takeHalf 3 = .ok (.aload_n 0, 1) := by decide +kernel
theorem dX10_takeHalf_4 : decode cX10_takeHalf 4 = .ok (.arraylength, 1) := by decide +kernel
theorem dX10_takeHalf_5 : decode cX10_takeHalf 5 = .ok (.iconst 2, 1) := by decide +kernel
theorem dX10_takeHalf_6 : decode cX10_takeHalf 6 = .ok (.idiv, 1) := by decide +kernel
theorem dX10_takeHalf_7 : decode cX10_takeHalf 7 = .ok (.if_icmp .ge 20, 3) := by decide +kernel
theorem dX10_takeHalf_10 : decode cX10_takeHalf 10 = .ok (.aload_n 0, 1) := by decide +kernel
theorem dX10_takeHalf_11 : decode cX10_takeHalf 11 = .ok (.iload_n 1, 1) := by decide +kernel
theorem dX10_takeHalf_12 : decode cX10_takeHalf 12 = .ok (.aload_n 0, 1) := by decide +kernel
theorem dX10_takeHalf_13 : decode cX10_takeHalf 13 = .ok (.aload_n 0, 1) := by decide +kernel
theorem dX10_takeHalf_14 : decode cX10_takeHalf 14 = .ok (.arraylength, 1) := by decide +kernel
theorem dX10_takeHalf_15 : decode cX10_takeHalf 15 = .ok (.iconst 2, 1) := by decide +kernel
theorem dX10_takeHalf_16 : decode cX10_takeHalf 16 = .ok (.idiv, 1) := by decide +kernel
theorem dX10_takeHalf_17 : decode cX10_takeHalf 17 = .ok (.iload_n 1, 1) := by decide +kernel
theorem dX10_takeHalf_18 : decode cX10_takeHalf 18 = .ok (.iadd, 1) := by decide +kernel
theorem dX10_takeHalf_19 : decode cX10_takeHalf 19 = .ok (.iaload, 1) := by decide +kernel
theorem dX10_takeHalf_20 : decode cX10_takeHalf 20 = .ok (.iastore, 1) := by decide +kernel
theorem dX10_takeHalf_21 : decode cX10_takeHalf 21 = .ok (.iinc 1 1, 3) := by decide +kernel
theorem dX10_takeHalf_24 : decode cX10_takeHalf 24 = .ok (.goto (-22), 3) := by decide +kernel
theorem dX10_takeHalf_27 : decode cX10_takeHalf 27 = .ok (.return_, 1) := by decide +kernel
theorem sX10_takeHalf_0 {a0 a1 : Value} (h : am_R E d mX10_takeHalf k n 1 [a0, a1] (.int 0 :: st) S iv Q) : am_R E d mX10_takeHalf k n 0 [a0, a1] st S iv Q := am_iconst dX10_takeHalf_0 (by decide) h
theorem sX10_takeHalf_1 {a0 a1 : Value} {x : Int32} (h : am_R E d mX10_takeHalf k n 2 [a0, .int x] st S iv Q) : am_R E d mX10_takeHalf k n 1 [a0, a1] (.int x :: st) S iv Q := am_istore_n dX10_takeHalf_1 rfl (by decide) h
theorem sX10_takeHalf_2 {a0 : Value} {x : Int32} (h : am_R E d mX10_takeHalf k n 3 [a0, .int x] (.int x :: st) S iv Q) : am_R E d mX10_takeHalf k n 2 [a0, .int x] st S iv Q := am_iload_n dX10_takeHalf_2 rfl rfl h
theorem sX10_takeHalf_3 {a0 a1 : Value} (hv : am_rf a0 = true) (h : am_R E d mX10_takeHalf k n 4 [a0, a1] (a0 :: st) S iv Q) : am_R E d mX10_takeHalf k n 3 [a0, a1] st S iv Q := am_aload_n dX10_takeHalf_3 rfl rfl hv h
theorem sX10_takeHalf_4 {ls : List Value} {a m t : Nat} {ty : FieldType} (ha : S.1 a = some (.inr (ty, m))) (ht : am_ti ty = some t) (h : am_R E d mX10_takeHalf k n 5 ls (.int (Int32.ofNat m) :: st) S iv Q) : am_R E d mX10_takeHalf k n 4 ls (.ref a :: st) S iv Q := am_alen dX10_takeHalf_4 ha ht h
theorem sX10_takeHalf_5 {a0 a1 : Value} (h : am_R E d mX10_takeHalf k n 6 [a0, a1] (.int 2 :: st) S iv Q) : am_R E d mX10_takeHalf k n 5 [a0, a1] st S iv Q := am_iconst dX10_takeHalf_5 (by decide) h
theorem sX10_takeHalf_6 {ls : List Value} {x y : Int32} (hy : ¬ y = 0) (h : am_R E d mX10_takeHalf k n 7 ls (.int (x / y) :: st) S iv Q) : am_R E d mX10_takeHalf k n 6 ls (.int y :: .int x :: st) S iv Q := am_idiv dX10_takeHalf_6 hy h
theorem sX10_takeHalf_7 {ls : List Value} {x y : Int32} (kt : y ≤ x → am_R E d mX10_takeHalf k n 27 ls st S iv Q) (kf : ¬ y ≤ x → am_R E d mX10_takeHalf k n 10 ls st S iv Q) : am_R E d mX10_takeHalf k n 7 ls (.int y :: .int x :: st) S iv Q := am_icmp_ge dX10_takeHalf_7 (by decide) kt kf
theorem sX10_takeHalf_10 {a0 a1 : Value} (hv : am_rf a0 = true) (h : am_R E d mX10_takeHalf k n 11 [a0, a1] (a0 :: st) S iv Q) : am_R E d mX10_takeHalf k n 10 [a0, a1] st S iv Q := am_aload_n dX10_takeHalf_10 rfl rfl hv h
theorem sX10_takeHalf_11 {a0 : Value} {x : Int32} (h : am_R E d mX10_takeHalf k n 12 [a0, .int x] (.int x :: st) S iv Q) : am_R E d mX10_takeHalf k n 11 [a0, .int x] st S iv Q := am_iload_n dX10_takeHalf_11 rfl rfl h
theorem sX10_takeHalf_12 {a0 a1 : Value} (hv : am_rf a0 = true) (h : am_R E d mX10_takeHalf k n 13 [a0, a1] (a0 :: st) S iv Q) : am_R E d mX10_takeHalf k n 12 [a0, a1] st S iv Q := am_aload_n dX10_takeHalf_12 rfl rfl hv h
theorem sX10_takeHalf_13 {a0 a1 : Value} (hv : am_rf a0 = true) (h : am_R E d mX10_takeHalf k n 14 [a0, a1] (a0 :: st) S iv Q) : am_R E d mX10_takeHalf k n 13 [a0, a1] st S iv Q := am_aload_n dX10_takeHalf_13 rfl rfl hv h
theorem sX10_takeHalf_14 {ls : List Value} {a m t : Nat} {ty : FieldType} (ha : S.1 a = some (.inr (ty, m))) (ht : am_ti ty = some t) (h : am_R E d mX10_takeHalf k n 15 ls (.int (Int32.ofNat m) :: st) S iv Q) : am_R E d mX10_takeHalf k n 14 ls (.ref a :: st) S iv Q := am_alen dX10_takeHalf_14 ha ht h
theorem sX10_takeHalf_15 {a0 a1 : Value} (h : am_R E d mX10_takeHalf k n 16 [a0, a1] (.int 2 :: st) S iv Q) : am_R E d mX10_takeHalf k n 15 [a0, a1] st S iv Q := am_iconst dX10_takeHalf_15 (by decide) h
theorem sX10_takeHalf_16 {ls : List Value} {x y : Int32} (hy : ¬ y = 0) (h : am_R E d mX10_takeHalf k n 17 ls (.int (x / y) :: st) S iv Q) : am_R E d mX10_takeHalf k n 16 ls (.int y :: .int x :: st) S iv Q := am_idiv dX10_takeHalf_16 hy h
theorem sX10_takeHalf_17 {a0 : Value} {x : Int32} (h : am_R E d mX10_takeHalf k n 18 [a0, .int x] (.int x :: st) S iv Q) : am_R E d mX10_takeHalf k n 17 [a0, .int x] st S iv Q := am_iload_n dX10_takeHalf_17 rfl rfl h
theorem sX10_takeHalf_18 {ls : List Value} {x y : Int32} (h : am_R E d mX10_takeHalf k n 19 ls (.int (x + y) :: st) S iv Q) : am_R E d mX10_takeHalf k n 18 ls (.int y :: .int x :: st) S iv Q := am_iadd dX10_takeHalf_18 h
theorem sX10_takeHalf_19 {ls : List Value} {a m : Nat} {i : Int32} (ha : S.1 a = some (.inr (.int, m))) (hi : vp_in i m) (h : am_R E d mX10_takeHalf k n 20 ls (.int (iv a i.toNatClampNeg) :: st) S iv Q) : am_R E d mX10_takeHalf k n 19 ls (.int i :: .ref a :: st) S iv Q := am_iaload dX10_takeHalf_19 ha hi h
theorem sX10_takeHalf_20 {ls : List Value} {a m : Nat} {i x : Int32} (ha : S.1 a = some (.inr (.int, m))) (hi : vp_in i m) (h : am_R E d mX10_takeHalf k n 21 ls st S (am_w iv a i.toNatClampNeg x) Q) : am_R E d mX10_takeHalf k n 20 ls (.int x :: .int i :: .ref a :: st) S iv Q := am_iastore dX10_takeHalf_20 ha hi h
theorem sX10_takeHalf_21 {a0 : Value} {x : Int32} (h : am_R E d mX10_takeHalf k n 24 [a0, .int (x + 1)] st S iv Q) : am_R E d mX10_takeHalf k n 21 [a0, .int x] st S iv Q := am_iinc dX10_takeHalf_21 rfl rfl (by decide) h
theorem sX10_takeHalf_24 {ls : List Value} (h : am_R E d mX10_takeHalf k n 2 ls st S iv Q) : am_R E d mX10_takeHalf k n 24 ls st S iv Q := am_goto dX10_takeHalf_24 (by decide) h
theorem sX10_takeHalf_27 {ls : List Value} (h : Q (.inl none) S iv) : am_R E d mX10_takeHalf k n 27 ls [] S iv Q := am_return dX10_takeHalf_27 rfl h
theorem dX10_take_0 : decode cX10_take 0 = .ok (.aload_n 0, 1) := by decide +kernel
theorem dX10_take_1 : decode cX10_take 1 = .ok (.getfield 49, 3) := by decide +kernel
theorem dX10_take_4 : decode cX10_take 4 = .ok (.invokestatic 302, 3) := by decide +kernel
theorem dX10_take_7 : decode cX10_take 7 = .ok (.aload_n 0, 1) := by decide +kernel
theorem dX10_take_8 : decode cX10_take 8 = .ok (.getfield 53, 3) := by decide +kernel
theorem dX10_take_11 : decode cX10_take 11 = .ok (.invokestatic 302, 3) := by decide +kernel
theorem dX10_take_14 : decode cX10_take 14 = .ok (.aload_n 0, 1) := by decide +kernel
theorem dX10_take_15 : decode cX10_take 15 = .ok (.getfield 55, 3) := by decide +kernel
theorem dX10_take_18 : decode cX10_take 18 = .ok (.invokestatic 302, 3) := by decide +kernel
theorem dX10_take_21 : decode cX10_take 21 = .ok (.aload_n 0, 1) := by decide +kernel
theorem dX10_take_22 : decode cX10_take 22 = .ok (.getfield 57, 3) := by decide +kernel
theorem dX10_take_25 : decode cX10_take 25 = .ok (.invokestatic 302, 3) := by decide +kernel
theorem dX10_take_28 : decode cX10_take 28 = .ok (.aload_n 0, 1) := by decide +kernel
theorem dX10_take_29 : decode cX10_take 29 = .ok (.getfield 59, 3) := by decide +kernel
theorem dX10_take_32 : decode cX10_take 32 = .ok (.invokestatic 302, 3) := by decide +kernel
theorem dX10_take_35 : decode cX10_take 35 = .ok (.aload_n 0, 1) := by decide +kernel
theorem dX10_take_36 : decode cX10_take 36 = .ok (.getfield 61, 3) := by decide +kernel
theorem dX10_take_39 : decode cX10_take 39 = .ok (.invokestatic 302, 3) := by decide +kernel
theorem dX10_take_42 : decode cX10_take 42 = .ok (.aload_n 0, 1) := by decide +kernel
theorem dX10_take_43 : decode cX10_take 43 = .ok (.getfield 64, 3) := by decide +kernel
theorem dX10_take_46 : decode cX10_take 46 = .ok (.invokestatic 302, 3) := by decide +kernel
theorem dX10_take_49 : decode cX10_take 49 = .ok (.aload_n 0, 1) := by decide +kernel
theorem dX10_take_50 : decode cX10_take 50 = .ok (.getfield 66, 3) := by decide +kernel
theorem dX10_take_53 : decode cX10_take 53 = .ok (.invokestatic 302, 3) := by decide +kernel
theorem dX10_take_56 : decode cX10_take 56 = .ok (.aload_n 0, 1) := by decide +kernel
theorem dX10_take_57 : decode cX10_take 57 = .ok (.getfield 68, 3) := by decide +kernel
theorem dX10_take_60 : decode cX10_take 60 = .ok (.invokestatic 302, 3) := by decide +kernel
theorem dX10_take_63 : decode cX10_take 63 = .ok (.aload_n 0, 1) := by decide +kernel
theorem dX10_take_64 : decode cX10_take 64 = .ok (.getfield 71, 3) := by decide +kernel
theorem dX10_take_67 : decode cX10_take 67 = .ok (.invokestatic 302, 3) := by decide +kernel
theorem dX10_take_70 : decode cX10_take 70 = .ok (.aload_n 0, 1) := by decide +kernel
theorem dX10_take_71 : decode cX10_take 71 = .ok (.getfield 74, 3) := by decide +kernel
theorem dX10_take_74 : decode cX10_take 74 = .ok (.invokestatic 302, 3) := by decide +kernel
theorem dX10_take_77 : decode cX10_take 77 = .ok (.aload_n 0, 1) := by decide +kernel
theorem dX10_take_78 : decode cX10_take 78 = .ok (.getfield 77, 3) := by decide +kernel
theorem dX10_take_81 : decode cX10_take 81 = .ok (.invokestatic 302, 3) := by decide +kernel
theorem dX10_take_84 : decode cX10_take 84 = .ok (.aload_n 0, 1) := by decide +kernel
theorem dX10_take_85 : decode cX10_take 85 = .ok (.iconst 0, 1) := by decide +kernel
theorem dX10_take_86 : decode cX10_take 86 = .ok (.putfield 306, 3) := by decide +kernel
theorem dX10_take_89 : decode cX10_take 89 = .ok (.aload_n 0, 1) := by decide +kernel
theorem dX10_take_90 : decode cX10_take 90 = .ok (.iconst 0, 1) := by decide +kernel
theorem dX10_take_91 : decode cX10_take 91 = .ok (.putfield 308, 3) := by decide +kernel
theorem dX10_take_94 : decode cX10_take 94 = .ok (.aload_n 0, 1) := by decide +kernel
theorem dX10_take_95 : decode cX10_take 95 = .ok (.iconst 0, 1) := by decide +kernel
theorem dX10_take_96 : decode cX10_take 96 = .ok (.putfield 311, 3) := by decide +kernel
theorem dX10_take_99 : decode cX10_take 99 = .ok (.aload_n 0, 1) := by decide +kernel
theorem dX10_take_100 : decode cX10_take 100 = .ok (.iconst 0, 1) := by decide +kernel
theorem dX10_take_101 : decode cX10_take 101 = .ok (.putfield 314, 3) := by decide +kernel
theorem dX10_take_104 : decode cX10_take 104 = .ok (.iconst 0, 1) := by decide +kernel
theorem dX10_take_105 : decode cX10_take 105 = .ok (.istore_n 1, 1) := by decide +kernel
theorem dX10_take_106 : decode cX10_take 106 = .ok (.iload_n 1, 1) := by decide +kernel
theorem dX10_take_107 : decode cX10_take 107 = .ok (.iconst 5, 1) := by decide +kernel
theorem dX10_take_108 : decode cX10_take 108 = .ok (.if_icmp .ge 16, 3) := by decide +kernel
theorem dX10_take_111 : decode cX10_take 111 = .ok (.aload_n 0, 1) := by decide +kernel
theorem dX10_take_112 : decode cX10_take 112 = .ok (.getfield 90, 3) := by decide +kernel
theorem dX10_take_115 : decode cX10_take 115 = .ok (.iload_n 1, 1) := by decide +kernel
theorem dX10_take_116 : decode cX10_take 116 = .ok (.iconst 0, 1) := by decide +kernel
theorem dX10_take_117 : decode cX10_take 117 = .ok (.iastore, 1) := by decide +kernel
theorem dX10_take_118 : decode cX10_take 118 = .ok (.iinc 1 1, 3) := by decide +kernel
theorem dX10_take_121 : decode cX10_take 121 = .ok (.goto (-15), 3) := by decide +kernel
theorem dX10_take_124 : decode cX10_take 124 = .ok (.aload_n 0, 1) := by decide +kernel
theorem dX10_take_125 : decode cX10_take 125 = .ok (.iconst (-1), 1) := by decide +kernel
theorem dX10_take_126 : decode cX10_take 126 = .ok (.putfield 125, 3) := by decide +kernel
theorem dX10_take_129 : decode cX10_take 129 = .ok (.aload_n 0, 1) := by decide +kernel
theorem dX10_take_130 : decode cX10_take 130 = .ok (.iconst 0, 1) := by decide +kernel
theorem dX10_take_131 : decode cX10_take 131 = .ok (.putfield 317, 3) := by decide +kernel
theorem dX10_take_134 : decode cX10_take 134 = .ok (.return_, 1) := by decide +kernel
theorem sX10_take_0 {a0 a1 : Value} (hv : am_rf a0 = true) (h : am_R E d mX10_take k n 1 [a0, a1] (a0 :: st) S iv Q) : am_R E d mX10_take k n 0 [a0, a1] st S iv Q := am_aload_n dX10_take_0 rfl rfl hv h
theorem sX10_take_1 {ls : List Value} {a b : Nat} (ha : S.1 a = some (.inl 10)) (hb : S.2.1 a 4 = some b) (h : am_R E d mX10_take k n 4 ls (.ref b :: st) S iv Q) : am_R E d mX10_take k n 1 ls (.ref a :: st) S iv Q := am_getR (ci := 10) dX10_take_1 rfl rfl (by decide) wq_772 uq_10 rfl ha hb h
theorem sX10_take_4 {ls : List Value} {x1 : Value} (hst : (st.map fun v => v.category).sum ≤ 8) (hM : am_M E d mX10_takeHalf 0 0 [x1] S iv (am_K3 E (d + 1) mX10_take k n 4 ls st Q)) : am_R E (d + 1) mX10_take k n 4 ls (x1 :: st) S iv Q := am_cS (M' := mX10_takeHalf) (as := [x1]) dX10_take_4 rfl wq_970 wq_971 wq_808 wq_968 hy_X10_takeHalf (by decide) hst (by omega) (by omega) hM
theorem sX10_take_4_k {ls : List Value} {x1 : Value} {k' n' : Nat} (hst : (st.map fun v => v.category).sum ≤ 8) (hM : am_M E d mX10_takeHalf k' n' [x1] S iv (am_K3 E (d + 1) mX10_take k n 4 ls st Q)) : am_R E (d + 1) mX10_take (k' + k) (n' + n) 4 ls (x1 :: st) S iv Q := am_cS (M' := mX10_takeHalf) (as := [x1]) dX10_take_4 rfl wq_970 wq_971 wq_808 wq_968 hy_X10_takeHalf (by decide) hst (by omega) (by omega) hM
theorem sX10_take_7 {a0 a1 : Value} (hv : am_rf a0 = true) (h : am_R E d mX10_take k n 8 [a0, a1] (a0 :: st) S iv Q) : am_R E d mX10_take k n 7 [a0, a1] st S iv Q := am_aload_n dX10_take_7 rfl rfl hv h
theorem sX10_take_8 {ls : List Value} {a b : Nat} (ha : S.1 a = some (.inl 10)) (hb : S.2.1 a 5 = some b) (h : am_R E d mX10_take k n 11 ls (.ref b :: st) S iv Q) : am_R E d mX10_take k n 8 ls (.ref a :: st) S iv Q := am_getR (ci := 10) dX10_take_8 rfl rfl (by decide) wq_773 uq_10 rfl ha hb h
theorem sX10_take_11 {ls : List Value} {x1 : Value} (hst : (st.map fun v => v.category).sum ≤ 8) (hM : am_M E d mX10_takeHalf 0 0 [x1] S iv (am_K3 E (d + 1) mX10_take k n 11 ls st Q)) : am_R E (d + 1) mX10_take k n 11 ls (x1 :: st) S iv Q := am_cS (M' := mX10_takeHalf) (as := [x1]) dX10_take_11 rfl wq_970 wq_971 wq_808 wq_968 hy_X10_takeHalf (by decide) hst (by omega) (by omega) hM
theorem sX10_take_11_k {ls : List Value} {x1 : Value} {k' n' : Nat} (hst : (st.map fun v => v.category).sum ≤ 8) (hM : am_M E d mX10_takeHalf k' n' [x1] S iv (am_K3 E (d + 1) mX10_take k n 11 ls st Q)) : am_R E (d + 1) mX10_take (k' + k) (n' + n) 11 ls (x1 :: st) S iv Q := am_cS (M' := mX10_takeHalf) (as := [x1]) dX10_take_11 rfl wq_970 wq_971 wq_808 wq_968 hy_X10_takeHalf (by decide) hst (by omega) (by omega) hM
theorem sX10_take_14 {a0 a1 : Value} (hv : am_rf a0 = true) (h : am_R E d mX10_take k n 15 [a0, a1] (a0 :: st) S iv Q) : am_R E d mX10_take k n 14 [a0, a1] st S iv Q := am_aload_n dX10_take_14 rfl rfl hv h
theorem sX10_take_15 {ls : List Value} {a b : Nat} (ha : S.1 a = some (.inl 10)) (hb : S.2.1 a 6 = some b) (h : am_R E d mX10_take k n 18 ls (.ref b :: st) S iv Q) : am_R E d mX10_take k n 15 ls (.ref a :: st) S iv Q := am_getR (ci := 10) dX10_take_15 rfl rfl (by decide) wq_774 uq_10 rfl ha hb h
theorem sX10_take_18 {ls : List Value} {x1 : Value} (hst : (st.map fun v => v.category).sum ≤ 8) (hM : am_M E d mX10_takeHalf 0 0 [x1] S iv (am_K3 E (d + 1) mX10_take k n 18 ls st Q)) : am_R E (d + 1) mX10_take k n 18 ls (x1 :: st) S iv Q := am_cS (M' := mX10_takeHalf) (as := [x1]) dX10_take_18 rfl wq_970 wq_971 wq_808 wq_968 hy_X10_takeHalf (by decide) hst (by omega) (by omega) hM
theorem sX10_take_18_k {ls : List Value} {x1 : Value} {k' n' : Nat} (hst : (st.map fun v => v.category).sum ≤ 8) (hM : am_M E d mX10_takeHalf k' n' [x1] S iv (am_K3 E (d + 1) mX10_take k n 18 ls st Q)) : am_R E (d + 1) mX10_take (k' + k) (n' + n) 18 ls (x1 :: st) S iv Q := am_cS (M' := mX10_takeHalf) (as := [x1]) dX10_take_18 rfl wq_970 wq_971 wq_808 wq_968 hy_X10_takeHalf (by decide) hst (by omega) (by omega) hM
theorem sX10_take_21 {a0 a1 : Value} (hv : am_rf a0 = true) (h : am_R E d mX10_take k n 22 [a0, a1] (a0 :: st) S iv Q) : am_R E d mX10_take k n 21 [a0, a1] st S iv Q := am_aload_n dX10_take_21 rfl rfl hv h
theorem sX10_take_22 {ls : List Value} {a b : Nat} (ha : S.1 a = some (.inl 10)) (hb : S.2.1 a 7 = some b) (h : am_R E d mX10_take k n 25 ls (.ref b :: st) S iv Q) : am_R E d mX10_take k n 22 ls (.ref a :: st) S iv Q := am_getR (ci := 10) dX10_take_22 rfl rfl (by decide) wq_775 uq_10 rfl ha hb h
theorem sX10_take_25 {ls : List Value} {x1 : Value} (hst : (st.map fun v => v.category).sum ≤ 8) (hM : am_M E d mX10_takeHalf 0 0 [x1] S iv (am_K3 E (d + 1) mX10_take k n 25 ls st Q)) : am_R E (d + 1) mX10_take k n 25 ls (x1 :: st) S iv Q := am_cS (M' := mX10_takeHalf) (as := [x1]) dX10_take_25 rfl wq_970 wq_971 wq_808 wq_968 hy_X10_takeHalf (by decide) hst (by omega) (by omega) hM
theorem sX10_take_25_k {ls : List Value} {x1 : Value} {k' n' : Nat} (hst : (st.map fun v => v.category).sum ≤ 8) (hM : am_M E d mX10_takeHalf k' n' [x1] S iv (am_K3 E (d + 1) mX10_take k n 25 ls st Q)) : am_R E (d + 1) mX10_take (k' + k) (n' + n) 25 ls (x1 :: st) S iv Q := am_cS (M' := mX10_takeHalf) (as := [x1]) dX10_take_25 rfl wq_970 wq_971 wq_808 wq_968 hy_X10_takeHalf (by decide) hst (by omega) (by omega) hM
theorem sX10_take_28 {a0 a1 : Value} (hv : am_rf a0 = true) (h : am_R E d mX10_take k n 29 [a0, a1] (a0 :: st) S iv Q) : am_R E d mX10_take k n 28 [a0, a1] st S iv Q := am_aload_n dX10_take_28 rfl rfl hv h
theorem sX10_take_29 {ls : List Value} {a b : Nat} (ha : S.1 a = some (.inl 10)) (hb : S.2.1 a 8 = some b) (h : am_R E d mX10_take k n 32 ls (.ref b :: st) S iv Q) : am_R E d mX10_take k n 29 ls (.ref a :: st) S iv Q := am_getR (ci := 10) dX10_take_29 rfl rfl (by decide) wq_776 uq_10 rfl ha hb h
theorem sX10_take_32 {ls : List Value} {x1 : Value} (hst : (st.map fun v => v.category).sum ≤ 8) (hM : am_M E d mX10_takeHalf 0 0 [x1] S iv (am_K3 E (d + 1) mX10_take k n 32 ls st Q)) : am_R E (d + 1) mX10_take k n 32 ls (x1 :: st) S iv Q := am_cS (M' := mX10_takeHalf) (as := [x1]) dX10_take_32 rfl wq_970 wq_971 wq_808 wq_968 hy_X10_takeHalf (by decide) hst (by omega) (by omega) hM
theorem sX10_take_32_k {ls : List Value} {x1 : Value} {k' n' : Nat} (hst : (st.map fun v => v.category).sum ≤ 8) (hM : am_M E d mX10_takeHalf k' n' [x1] S iv (am_K3 E (d + 1) mX10_take k n 32 ls st Q)) : am_R E (d + 1) mX10_take (k' + k) (n' + n) 32 ls (x1 :: st) S iv Q := am_cS (M' := mX10_takeHalf) (as := [x1]) dX10_take_32 rfl wq_970 wq_971 wq_808 wq_968 hy_X10_takeHalf (by decide) hst (by omega) (by omega) hM
theorem sX10_take_35 {a0 a1 : Value} (hv : am_rf a0 = true) (h : am_R E d mX10_take k n 36 [a0, a1] (a0 :: st) S iv Q) : am_R E d mX10_take k n 35 [a0, a1] st S iv Q := am_aload_n dX10_take_35 rfl rfl hv h
theorem sX10_take_36 {ls : List Value} {a b : Nat} (ha : S.1 a = some (.inl 10)) (hb : S.2.1 a 9 = some b) (h : am_R E d mX10_take k n 39 ls (.ref b :: st) S iv Q) : am_R E d mX10_take k n 36 ls (.ref a :: st) S iv Q := am_getR (ci := 10) dX10_take_36 rfl rfl (by decide) wq_777 uq_10 rfl ha hb h
theorem sX10_take_39 {ls : List Value} {x1 : Value} (hst : (st.map fun v => v.category).sum ≤ 8) (hM : am_M E d mX10_takeHalf 0 0 [x1] S iv (am_K3 E (d + 1) mX10_take k n 39 ls st Q)) : am_R E (d + 1) mX10_take k n 39 ls (x1 :: st) S iv Q := am_cS (M' := mX10_takeHalf) (as := [x1]) dX10_take_39 rfl wq_970 wq_971 wq_808 wq_968 hy_X10_takeHalf (by decide) hst (by omega) (by omega) hM
theorem sX10_take_39_k {ls : List Value} {x1 : Value} {k' n' : Nat} (hst : (st.map fun v => v.category).sum ≤ 8) (hM : am_M E d mX10_takeHalf k' n' [x1] S iv (am_K3 E (d + 1) mX10_take k n 39 ls st Q)) : am_R E (d + 1) mX10_take (k' + k) (n' + n) 39 ls (x1 :: st) S iv Q := am_cS (M' := mX10_takeHalf) (as := [x1]) dX10_take_39 rfl wq_970 wq_971 wq_808 wq_968 hy_X10_takeHalf (by decide) hst (by omega) (by omega) hM
theorem sX10_take_42 {a0 a1 : Value} (hv : am_rf a0 = true) (h : am_R E d mX10_take k n 43 [a0, a1] (a0 :: st) S iv Q) : am_R E d mX10_take k n 42 [a0, a1] st S iv Q := am_aload_n dX10_take_42 rfl rfl hv h
theorem sX10_take_43 {ls : List Value} {a b : Nat} (ha : S.1 a = some (.inl 10)) (hb : S.2.1 a 10 = some b) (h : am_R E d mX10_take k n 46 ls (.ref b :: st) S iv Q) : am_R E d mX10_take k n 43 ls (.ref a :: st) S iv Q := am_getR (ci := 10) dX10_take_43 rfl rfl (by decide) wq_778 uq_10 rfl ha hb h
theorem sX10_take_46 {ls : List Value} {x1 : Value} (hst : (st.map fun v => v.category).sum ≤ 8) (hM : am_M E d mX10_takeHalf 0 0 [x1] S iv (am_K3 E (d + 1) mX10_take k n 46 ls st Q)) : am_R E (d + 1) mX10_take k n 46 ls (x1 :: st) S iv Q := am_cS (M' := mX10_takeHalf) (as := [x1]) dX10_take_46 rfl wq_970 wq_971 wq_808 wq_968 hy_X10_takeHalf (by decide) hst (by omega) (by omega) hM
theorem sX10_take_46_k {ls : List Value} {x1 : Value} {k' n' : Nat} (hst : (st.map fun v => v.category).sum ≤ 8) (hM : am_M E d mX10_takeHalf k' n' [x1] S iv (am_K3 E (d + 1) mX10_take k n 46 ls st Q)) : am_R E (d + 1) mX10_take (k' + k) (n' + n) 46 ls (x1 :: st) S iv Q := am_cS (M' := mX10_takeHalf) (as := [x1]) dX10_take_46 rfl wq_970 wq_971 wq_808 wq_968 hy_X10_takeHalf (by decide) hst (by omega) (by omega) hM
theorem sX10_take_49 {a0 a1 : Value} (hv : am_rf a0 = true) (h : am_R E d mX10_take k n 50 [a0, a1] (a0 :: st) S iv Q) : am_R E d mX10_take k n 49 [a0, a1] st S iv Q := am_aload_n dX10_take_49 rfl rfl hv h
theorem sX10_take_50 {ls : List Value} {a b : Nat} (ha : S.1 a = some (.inl 10)) (hb : S.2.1 a 11 = some b) (h : am_R E d mX10_take k n 53 ls (.ref b :: st) S iv Q) : am_R E d mX10_take k n 50 ls (.ref a :: st) S iv Q := am_getR (ci := 10) dX10_take_50 rfl rfl (by decide) wq_779 uq_10 rfl ha hb h
theorem sX10_take_53 {ls : List Value} {x1 : Value} (hst : (st.map fun v => v.category).sum ≤ 8) (hM : am_M E d mX10_takeHalf 0 0 [x1] S iv (am_K3 E (d + 1) mX10_take k n 53 ls st Q)) : am_R E (d + 1) mX10_take k n 53 ls (x1 :: st) S iv Q := am_cS (M' := mX10_takeHalf) (as := [x1]) dX10_take_53 rfl wq_970 wq_971 wq_808 wq_968 hy_X10_takeHalf (by decide) hst (by omega) (by omega) hM
theorem sX10_take_53_k {ls : List Value} {x1 : Value} {k' n' : Nat} (hst : (st.map fun v => v.category).sum ≤ 8) (hM : am_M E d mX10_takeHalf k' n' [x1] S iv (am_K3 E (d + 1) mX10_take k n 53 ls st Q)) : am_R E (d + 1) mX10_take (k' + k) (n' + n) 53 ls (x1 :: st) S iv Q := am_cS (M' := mX10_takeHalf) (as := [x1]) dX10_take_53 rfl wq_970 wq_971 wq_808 wq_968 hy_X10_takeHalf (by decide) hst (by omega) (by omega) hM
theorem sX10_take_56 {a0 a1 : Value} (hv : am_rf a0 = true) (h : am_R E d mX10_take k n 57 [a0, a1] (a0 :: st) S iv Q) : am_R E d mX10_take k n 56 [a0, a1] st S iv Q := am_aload_n dX10_take_56 rfl rfl hv h
theorem sX10_take_57 {ls : List Value} {a b : Nat} (ha : S.1 a = some (.inl 10)) (hb : S.2.1 a 12 = some b) (h : am_R E d mX10_take k n 60 ls (.ref b :: st) S iv Q) : am_R E d mX10_take k n 57 ls (.ref a :: st) S iv Q := am_getR (ci := 10) dX10_take_57 rfl rfl (by decide) wq_780 uq_10 rfl ha hb h
theorem sX10_take_60 {ls : List Value} {x1 : Value} (hst : (st.map fun v => v.category).sum ≤ 8) (hM : am_M E d mX10_takeHalf 0 0 [x1] S iv (am_K3 E (d + 1) mX10_take k n 60 ls st Q)) : am_R E (d + 1) mX10_take k n 60 ls (x1 :: st) S iv Q := am_cS (M' := mX10_takeHalf) (as := [x1]) dX10_take_60 rfl wq_970 wq_971 wq_808 wq_968 hy_X10_takeHalf (by decide) hst (by omega) (by omega) hM
theorem sX10_take_60_k {ls : List Value} {x1 : Value} {k' n' : Nat} (hst : (st.map fun v => v.category).sum ≤ 8) (hM : am_M E d mX10_takeHalf k' n' [x1] S iv (am_K3 E (d + 1) mX10_take k n 60 ls st Q)) : am_R E (d + 1) mX10_take (k' + k) (n' + n) 60 ls (x1 :: st) S iv Q := am_cS (M' := mX10_takeHalf) (as := [x1]) dX10_take_60 rfl wq_970 wq_971 wq_808 wq_968 hy_X10_takeHalf (by decide) hst (by omega) (by omega) hM
theorem sX10_take_63 {a0 a1 : Value} (hv : am_rf a0 = true) (h : am_R E d mX10_take k n 64 [a0, a1] (a0 :: st) S iv Q) : am_R E d mX10_take k n 63 [a0, a1] st S iv Q := am_aload_n dX10_take_63 rfl rfl hv h
theorem sX10_take_64 {ls : List Value} {a b : Nat} (ha : S.1 a = some (.inl 10)) (hb : S.2.1 a 13 = some b) (h : am_R E d mX10_take k n 67 ls (.ref b :: st) S iv Q) : am_R E d mX10_take k n 64 ls (.ref a :: st) S iv Q := am_getR (ci := 10) dX10_take_64 rfl rfl (by decide) wq_781 uq_10 rfl ha hb h
theorem sX10_take_67 {ls : List Value} {x1 : Value} (hst : (st.map fun v => v.category).sum ≤ 8) (hM : am_M E d mX10_takeHalf 0 0 [x1] S iv (am_K3 E (d + 1) mX10_take k n 67 ls st Q)) : am_R E (d + 1) mX10_take k n 67 ls (x1 :: st) S iv Q := am_cS (M' := mX10_takeHalf) (as := [x1]) dX10_take_67 rfl wq_970 wq_971 wq_808 wq_968 hy_X10_takeHalf (by decide) hst (by omega) (by omega) hM
theorem sX10_take_67_k {ls : List Value} {x1 : Value} {k' n' : Nat} (hst : (st.map fun v => v.category).sum ≤ 8) (hM : am_M E d mX10_takeHalf k' n' [x1] S iv (am_K3 E (d + 1) mX10_take k n 67 ls st Q)) : am_R E (d + 1) mX10_take (k' + k) (n' + n) 67 ls (x1 :: st) S iv Q := am_cS (M' := mX10_takeHalf) (as := [x1]) dX10_take_67 rfl wq_970 wq_971 wq_808 wq_968 hy_X10_takeHalf (by decide) hst (by omega) (by omega) hM
theorem sX10_take_70 {a0 a1 : Value} (hv : am_rf a0 = true) (h : am_R E d mX10_take k n 71 [a0, a1] (a0 :: st) S iv Q) : am_R E d mX10_take k n 70 [a0, a1] st S iv Q := am_aload_n dX10_take_70 rfl rfl hv h
theorem sX10_take_71 {ls : List Value} {a b : Nat} (ha : S.1 a = some (.inl 10)) (hb : S.2.1 a 14 = some b) (h : am_R E d mX10_take k n 74 ls (.ref b :: st) S iv Q) : am_R E d mX10_take k n 71 ls (.ref a :: st) S iv Q := am_getR (ci := 10) dX10_take_71 rfl rfl (by decide) wq_782 uq_10 rfl ha hb h
theorem sX10_take_74 {ls : List Value} {x1 : Value} (hst : (st.map fun v => v.category).sum ≤ 8) (hM : am_M E d mX10_takeHalf 0 0 [x1] S iv (am_K3 E (d + 1) mX10_take k n 74 ls st Q)) : am_R E (d + 1) mX10_take k n 74 ls (x1 :: st) S iv Q := am_cS (M' := mX10_takeHalf) (as := [x1]) dX10_take_74 rfl wq_970 wq_971 wq_808 wq_968 hy_X10_takeHalf (by decide) hst (by omega) (by omega) hM
theorem sX10_take_74_k {ls : List Value} {x1 : Value} {k' n' : Nat} (hst : (st.map fun v => v.category).sum ≤ 8) (hM : am_M E d mX10_takeHalf k' n' [x1] S iv (am_K3 E (d + 1) mX10_take k n 74 ls st Q)) : am_R E (d + 1) mX10_take (k' + k) (n' + n) 74 ls (x1 :: st) S iv Q := am_cS (M' := mX10_takeHalf) (as := [x1]) dX10_take_74 rfl wq_970 wq_971 wq_808 wq_968 hy_X10_takeHalf (by decide) hst (by omega) (by omega) hM
theorem sX10_take_77 {a0 a1 : Value} (hv : am_rf a0 = true) (h : am_R E d mX10_take k n 78 [a0, a1] (a0 :: st) S iv Q) : am_R E d mX10_take k n 77 [a0, a1] st S iv Q := am_aload_n dX10_take_77 rfl rfl hv h
theorem sX10_take_78 {ls : List Value} {a b : Nat} (ha : S.1 a = some (.inl 10)) (hb : S.2.1 a 15 = some b) (h : am_R E d mX10_take k n 81 ls (.ref b :: st) S iv Q) : am_R E d mX10_take k n 78 ls (.ref a :: st) S iv Q := am_getR (ci := 10) dX10_take_78 rfl rfl (by decide) wq_783 uq_10 rfl ha hb h
theorem sX10_take_81 {ls : List Value} {x1 : Value} (hst : (st.map fun v => v.category).sum ≤ 8) (hM : am_M E d mX10_takeHalf 0 0 [x1] S iv (am_K3 E (d + 1) mX10_take k n 81 ls st Q)) : am_R E (d + 1) mX10_take k n 81 ls (x1 :: st) S iv Q := am_cS (M' := mX10_takeHalf) (as := [x1]) dX10_take_81 rfl wq_970 wq_971 wq_808 wq_968 hy_X10_takeHalf (by decide) hst (by omega) (by omega) hM
theorem sX10_take_81_k {ls : List Value} {x1 : Value} {k' n' : Nat} (hst : (st.map fun v => v.category).sum ≤ 8) (hM : am_M E d mX10_takeHalf k' n' [x1] S iv (am_K3 E (d + 1) mX10_take k n 81 ls st Q)) : am_R E (d + 1) mX10_take (k' + k) (n' + n) 81 ls (x1 :: st) S iv Q := am_cS (M' := mX10_takeHalf) (as := [x1]) dX10_take_81 rfl wq_970 wq_971 wq_808 wq_968 hy_X10_takeHalf (by decide) hst (by omega) (by omega) hM
theorem sX10_take_84 {a0 a1 : Value} (hv : am_rf a0 = true) (h : am_R E d mX10_take k n 85 [a0, a1] (a0 :: st) S iv Q) : am_R E d mX10_take k n 84 [a0, a1] st S iv Q := am_aload_n dX10_take_84 rfl rfl hv h
theorem sX10_take_85 {a0 a1 : Value} (h : am_R E d mX10_take k n 86 [a0, a1] (.int 0 :: st) S iv Q) : am_R E d mX10_take k n 85 [a0, a1] st S iv Q := am_iconst dX10_take_85 (by decide) h
theorem sX10_take_86 {ls : List Value} {a : Nat} {x : Int32} (ha : S.1 a = some (.inl 10)) (h : am_R E d mX10_take k n 89 ls st S (am_w iv a 29 x) Q) : am_R E d mX10_take k n 86 ls (.int x :: .ref a :: st) S iv Q := am_putI (ci := 10) dX10_take_86 rfl rfl (by decide) wq_972 uq_10 tyX10_ok nmX10 (Or.inl rfl) rfl ha h
theorem sX10_take_89 {a0 a1 : Value} (hv : am_rf a0 = true) (h : am_R E d mX10_take k n 90 [a0, a1] (a0 :: st) S iv Q) : am_R E d mX10_take k n 89 [a0, a1] st S iv Q := am_aload_n dX10_take_89 rfl rfl hv h
theorem sX10_take_90 {a0 a1 : Value} (h : am_R E d mX10_take k n 91 [a0, a1] (.int 0 :: st) S iv Q) : am_R E d mX10_take k n 90 [a0, a1] st S iv Q := am_iconst dX10_take_90 (by decide) h
theorem sX10_take_91 {ls : List Value} {a : Nat} {x : Int32} (ha : S.1 a = some (.inl 10)) (h : am_R E d mX10_take k n 94 ls st S (am_w iv a 30 x) Q) : am_R E d mX10_take k n 91 ls (.int x :: .ref a :: st) S iv Q := am_putI (ci := 10) dX10_take_91 rfl rfl (by decide) wq_973 uq_10 tyX10_ok nmX10 (Or.inl rfl) rfl ha h
theorem sX10_take_94 {a0 a1 : Value} (hv : am_rf a0 = true) (h : am_R E d mX10_take k n 95 [a0, a1] (a0 :: st) S iv Q) : am_R E d mX10_take k n 94 [a0, a1] st S iv Q := am_aload_n dX10_take_94 rfl rfl hv h
theorem sX10_take_95 {a0 a1 : Value} (h : am_R E d mX10_take k n 96 [a0, a1] (.int 0 :: st) S iv Q) : am_R E d mX10_take k n 95 [a0, a1] st S iv Q := am_iconst dX10_take_95 (by decide) h
theorem sX10_take_96 {ls : List Value} {a : Nat} {x : Int32} (ha : S.1 a = some (.inl 10)) (h : am_R E d mX10_take k n 99 ls st S (am_w iv a 31 x) Q) : am_R E d mX10_take k n 96 ls (.int x :: .ref a :: st) S iv Q := am_putI (ci := 10) dX10_take_96 rfl rfl (by decide) wq_974 uq_10 tyX10_ok nmX10 (Or.inl rfl) rfl ha h
theorem sX10_take_99 {a0 a1 : Value} (hv : am_rf a0 = true) (h : am_R E d mX10_take k n 100 [a0, a1] (a0 :: st) S iv Q) : am_R E d mX10_take k n 99 [a0, a1] st S iv Q := am_aload_n dX10_take_99 rfl rfl hv h
theorem sX10_take_100 {a0 a1 : Value} (h : am_R E d mX10_take k n 101 [a0, a1] (.int 0 :: st) S iv Q) : am_R E d mX10_take k n 100 [a0, a1] st S iv Q := am_iconst dX10_take_100 (by decide) h
theorem sX10_take_101 {ls : List Value} {a : Nat} {x : Int32} (ha : S.1 a = some (.inl 10)) (h : am_R E d mX10_take k n 104 ls st S (am_w iv a 32 x) Q) : am_R E d mX10_take k n 101 ls (.int x :: .ref a :: st) S iv Q := am_putI (ci := 10) dX10_take_101 rfl rfl (by decide) wq_975 uq_10 tyX10_ok nmX10 (Or.inl rfl) rfl ha h
theorem sX10_take_104 {a0 a1 : Value} (h : am_R E d mX10_take k n 105 [a0, a1] (.int 0 :: st) S iv Q) : am_R E d mX10_take k n 104 [a0, a1] st S iv Q := am_iconst dX10_take_104 (by decide) h
theorem sX10_take_105 {a0 a1 : Value} {x : Int32} (h : am_R E d mX10_take k n 106 [a0, .int x] st S iv Q) : am_R E d mX10_take k n 105 [a0, a1] (.int x :: st) S iv Q := am_istore_n dX10_take_105 rfl (by decide) h
theorem sX10_take_106 {a0 : Value} {x : Int32} (h : am_R E d mX10_take k n 107 [a0, .int x] (.int x :: st) S iv Q) : am_R E d mX10_take k n 106 [a0, .int x] st S iv Q := am_iload_n dX10_take_106 rfl rfl h
theorem sX10_take_107 {a0 a1 : Value} (h : am_R E d mX10_take k n 108 [a0, a1] (.int 5 :: st) S iv Q) : am_R E d mX10_take k n 107 [a0, a1] st S iv Q := am_iconst dX10_take_107 (by decide) h
theorem sX10_take_108 {ls : List Value} {x y : Int32} (kt : y ≤ x → am_R E d mX10_take k n 124 ls st S iv Q) (kf : ¬ y ≤ x → am_R E d mX10_take k n 111 ls st S iv Q) : am_R E d mX10_take k n 108 ls (.int y :: .int x :: st) S iv Q := am_icmp_ge dX10_take_108 (by decide) kt kf
theorem sX10_take_111 {a0 a1 : Value} (hv : am_rf a0 = true) (h : am_R E d mX10_take k n 112 [a0, a1] (a0 :: st) S iv Q) : am_R E d mX10_take k n 111 [a0, a1] st S iv Q := am_aload_n dX10_take_111 rfl rfl hv h
theorem sX10_take_112 {ls : List Value} {a b : Nat} (ha : S.1 a = some (.inl 10)) (hb : S.2.1 a 33 = some b) (h : am_R E d mX10_take k n 115 ls (.ref b :: st) S iv Q) : am_R E d mX10_take k n 112 ls (.ref a :: st) S iv Q := am_getR (ci := 10) dX10_take_112 rfl rfl (by decide) wq_787 uq_10 rfl ha hb h
theorem sX10_take_115 {a0 : Value} {x : Int32} (h : am_R E d mX10_take k n 116 [a0, .int x] (.int x :: st) S iv Q) : am_R E d mX10_take k n 115 [a0, .int x] st S iv Q := am_iload_n dX10_take_115 rfl rfl h
theorem sX10_take_116 {a0 a1 : Value} (h : am_R E d mX10_take k n 117 [a0, a1] (.int 0 :: st) S iv Q) : am_R E d mX10_take k n 116 [a0, a1] st S iv Q := am_iconst dX10_take_116 (by decide) h
theorem sX10_take_117 {ls : List Value} {a m : Nat} {i x : Int32} (ha : S.1 a = some (.inr (.int, m))) (hi : vp_in i m) (h : am_R E d mX10_take k n 118 ls st S (am_w iv a i.toNatClampNeg x) Q) : am_R E d mX10_take k n 117 ls (.int x :: .int i :: .ref a :: st) S iv Q := am_iastore dX10_take_117 ha hi h
theorem sX10_take_118 {a0 : Value} {x : Int32} (h : am_R E d mX10_take k n 121 [a0, .int (x + 1)] st S iv Q) : am_R E d mX10_take k n 118 [a0, .int x] st S iv Q := am_iinc dX10_take_118 rfl rfl (by decide) h
theorem sX10_take_121 {ls : List Value} (h : am_R E d mX10_take k n 106 ls st S iv Q) : am_R E d mX10_take k n 121 ls st S iv Q := am_goto dX10_take_121 (by decide) h
theorem sX10_take_124 {a0 a1 : Value} (hv : am_rf a0 = true) (h : am_R E d mX10_take k n 125 [a0, a1] (a0 :: st) S iv Q) : am_R E d mX10_take k n 124 [a0, a1] st S iv Q := am_aload_n dX10_take_124 rfl rfl hv h
theorem sX10_take_125 {a0 a1 : Value} (h : am_R E d mX10_take k n 126 [a0, a1] (.int (-1) :: st) S iv Q) : am_R E d mX10_take k n 125 [a0, a1] st S iv Q := am_iconst dX10_take_125 (by decide) h
theorem sX10_take_126 {ls : List Value} {a : Nat} {x : Int32} (ha : S.1 a = some (.inl 10)) (h : am_R E d mX10_take k n 129 ls st S (am_w iv a 45 x) Q) : am_R E d mX10_take k n 126 ls (.int x :: .ref a :: st) S iv Q := am_putI (ci := 10) dX10_take_126 rfl rfl (by decide) wq_800 uq_10 tyX10_ok nmX10 (Or.inl rfl) rfl ha h
theorem sX10_take_129 {a0 a1 : Value} (hv : am_rf a0 = true) (h : am_R E d mX10_take k n 130 [a0, a1] (a0 :: st) S iv Q) : am_R E d mX10_take k n 129 [a0, a1] st S iv Q := am_aload_n dX10_take_129 rfl rfl hv h
theorem sX10_take_130 {a0 a1 : Value} (h : am_R E d mX10_take k n 131 [a0, a1] (.int 0 :: st) S iv Q) : am_R E d mX10_take k n 130 [a0, a1] st S iv Q := am_iconst dX10_take_130 (by decide) h
theorem sX10_take_131 {ls : List Value} {a : Nat} {x : Int32} (ha : S.1 a = some (.inl 10)) (hx : x = 0 ∨ x = 1) (h : am_R E d mX10_take k n 134 ls st S (am_w iv a 48 x) Q) : am_R E d mX10_take k n 131 ls (.int x :: .ref a :: st) S iv Q := am_putZ (ci := 10) dX10_take_131 rfl rfl (by decide) wq_976 uq_10 tyX10_ok nmX10 (Or.inl rfl) rfl hx ha h
theorem sX10_take_134 {ls : List Value} (h : Q (.inl none) S iv) : am_R E d mX10_take k n 134 ls [] S iv Q := am_return dX10_take_134 rfl h
theorem dX10_fault_0 : decode cX10_fault 0 = .ok (.aload_n 0, 1) := by decide +kernel
theorem dX10_fault_1 : decode cX10_fault 1 = .ok (.iconst 0, 1) := by decide +kernel
theorem dX10_fault_2 : decode cX10_fault 2 = .ok (.putfield 143, 3) := by decide +kernel
theorem dX10_fault_5 : decode cX10_fault 5 = .ok (.aload_n 0, 1) := by decide +kernel
theorem dX10_fault_6 : decode cX10_fault 6 = .ok (.getfield 86, 3) := by decide +kernel
theorem dX10_fault_9 : decode cX10_fault 9 = .ok (.ireturn, 1) := by decide +kernel
theorem sX10_fault_0 {a0 : Value} (hv : am_rf a0 = true) (h : am_R E d mX10_fault k n 1 [a0] (a0 :: st) S iv Q) : am_R E d mX10_fault k n 0 [a0] st S iv Q := am_aload_n dX10_fault_0 rfl rfl hv h
theorem sX10_fault_1 {a0 : Value} (h : am_R E d mX10_fault k n 2 [a0] (.int 0 :: st) S iv Q) : am_R E d mX10_fault k n 1 [a0] st S iv Q := am_iconst dX10_fault_1 (by decide) h
theorem sX10_fault_2 {ls : List Value} {a : Nat} {x : Int32} (ha : S.1 a = some (.inl 10)) (h : am_R E d mX10_fault k n 5 ls st S (am_w iv a 3 x) Q) : am_R E d mX10_fault k n 2 ls (.int x :: .ref a :: st) S iv Q := am_putI (ci := 10) dX10_fault_2 rfl rfl (by decide) wq_806 uq_10 tyX10_ok nmX10 (Or.inl rfl) rfl ha h
theorem sX10_fault_5 {a0 : Value} (hv : am_rf a0 = true) (h : am_R E d mX10_fault k n 6 [a0] (a0 :: st) S iv Q) : am_R E d mX10_fault k n 5 [a0] st S iv Q := am_aload_n dX10_fault_5 rfl rfl hv h
theorem sX10_fault_6 {ls : List Value} {a : Nat} (ha : S.1 a = some (.inl 10)) (h : am_R E d mX10_fault k n 9 ls (.int (iv a 27) :: st) S iv Q) : am_R E d mX10_fault k n 6 ls (.ref a :: st) S iv Q := am_getI (ci := 10) dX10_fault_6 rfl rfl (by decide) wq_786 uq_10 rfl ha h
theorem sX10_fault_9 {ls : List Value} {x : Int32} (h : Q (.inl (some (.int x))) S iv) : am_R E d mX10_fault k n 9 ls [.int x] S iv Q := am_ireturn dX10_fault_9 rfl h
theorem dX10_has_0 : decode cX10_has 0 = .ok (.iload_n 0, 1) := by decide +kernel
theorem dX10_has_1 : decode cX10_has 1 = .ok (.iload_n 1, 1) := by decide +kernel
theorem dX10_has_2 : decode cX10_has 2 = .ok (.ishr, 1) := by decide +kernel
theorem dX10_has_3 : decode cX10_has 3 = .ok (.iconst 1, 1) := by decide +kernel
theorem dX10_has_4 : decode cX10_has 4 = .ok (.iand, 1) := by decide +kernel
theorem dX10_has_5 : decode cX10_has 5 = .ok (.iconst 1, 1) := by decide +kernel
theorem dX10_has_6 : decode cX10_has 6 = .ok (.if_icmp .ne 7, 3) := by decide +kernel
theorem dX10_has_9 : decode cX10_has 9 = .ok (.iconst 1, 1) := by decide +kernel
theorem dX10_has_10 : decode cX10_has 10 = .ok (.goto 4, 3) := by decide +kernel
theorem dX10_has_13 : decode cX10_has 13 = .ok (.iconst 0, 1) := by decide +kernel
theorem dX10_has_14 : decode cX10_has 14 = .ok (.ireturn, 1) := by decide +kernel
theorem sX10_has_0 {a1 : Value} {x : Int32} (h : am_R E d mX10_has k n 1 [.int x, a1] (.int x :: st) S iv Q) : am_R E d mX10_has k n 0 [.int x, a1] st S iv Q := am_iload_n dX10_has_0 rfl rfl h
theorem sX10_has_1 {a0 : Value} {x : Int32} (h : am_R E d mX10_has k n 2 [a0, .int x] (.int x :: st) S iv Q) : am_R E d mX10_has k n 1 [a0, .int x] st S iv Q := am_iload_n dX10_has_1 rfl rfl h
theorem sX10_has_2 {ls : List Value} {x y : Int32} (h : am_R E d mX10_has k n 3 ls (.int (x >>> (y &&& 31)) :: st) S iv Q) : am_R E d mX10_has k n 2 ls (.int y :: .int x :: st) S iv Q := am_ishr dX10_has_2 h
theorem sX10_has_3 {a0 a1 : Value} (h : am_R E d mX10_has k n 4 [a0, a1] (.int 1 :: st) S iv Q) : am_R E d mX10_has k n 3 [a0, a1] st S iv Q := am_iconst dX10_has_3 (by decide) h
theorem sX10_has_4 {ls : List Value} {x y : Int32} (h : am_R E d mX10_has k n 5 ls (.int (x &&& y) :: st) S iv Q) : am_R E d mX10_has k n 4 ls (.int y :: .int x :: st) S iv Q := am_iand dX10_has_4 h
theorem sX10_has_5 {a0 a1 : Value} (h : am_R E d mX10_has k n 6 [a0, a1] (.int 1 :: st) S iv Q) : am_R E d mX10_has k n 5 [a0, a1] st S iv Q := am_iconst dX10_has_5 (by decide) h
theorem sX10_has_6 {ls : List Value} {x y : Int32} (kt : ¬ x = y → am_R E d mX10_has k n 13 ls st S iv Q) (kf : x = y → am_R E d mX10_has k n 9 ls st S iv Q) : am_R E d mX10_has k n 6 ls (.int y :: .int x :: st) S iv Q := am_icmp_ne dX10_has_6 (by decide) kt kf
theorem sX10_has_9 {a0 a1 : Value} (h : am_R E d mX10_has k n 10 [a0, a1] (.int 1 :: st) S iv Q) : am_R E d mX10_has k n 9 [a0, a1] st S iv Q := am_iconst dX10_has_9 (by decide) h
theorem sX10_has_10 {ls : List Value} (h : am_R E d mX10_has k n 14 ls st S iv Q) : am_R E d mX10_has k n 10 ls st S iv Q := am_goto dX10_has_10 (by decide) h
theorem sX10_has_13 {a0 a1 : Value} (h : am_R E d mX10_has k n 14 [a0, a1] (.int 0 :: st) S iv Q) : am_R E d mX10_has k n 13 [a0, a1] st S iv Q := am_iconst dX10_has_13 (by decide) h
theorem sX10_has_14 {ls : List Value} {x : Int32} (hn : narrow .boolean (.int x) = .int x) (h : Q (.inl (some (.int x))) S iv) : am_R E d mX10_has k n 14 ls [.int x] S iv Q := am_zreturn dX10_has_14 rfl hn h
theorem dX10_shares_0 : decode cX10_shares 0 = .ok (.aload_n 0, 1) := by decide +kernel
theorem dX10_shares_1 : decode cX10_shares 1 = .ok (.getfield 55, 3) := by decide +kernel
theorem dX10_shares_4 : decode cX10_shares 4 = .ok (.iload_n 1, 1) := by decide +kernel
theorem dX10_shares_5 : decode cX10_shares 5 = .ok (.iaload, 1) := by decide +kernel
theorem dX10_shares_6 : decode cX10_shares 6 = .ok (.aload_n 0, 1) := by decide +kernel
theorem dX10_shares_7 : decode cX10_shares 7 = .ok (.getfield 55, 3) := by decide +kernel
theorem dX10_shares_10 : decode cX10_shares 10 = .ok (.iload_n 2, 1) := by decide +kernel
theorem dX10_shares_11 : decode cX10_shares 11 = .ok (.iaload, 1) := by decide +kernel
theorem dX10_shares_12 : decode cX10_shares 12 = .ok (.aload_n 0, 1) := by decide +kernel
theorem dX10_shares_13 : decode cX10_shares 13 = .ok (.getfield 61, 3) := by decide +kernel
theorem dX10_shares_16 : decode cX10_shares 16 = .ok (.iload_n 2, 1) := by decide +kernel
theorem dX10_shares_17 : decode cX10_shares 17 = .ok (.iaload, 1) := by decide +kernel
theorem dX10_shares_18 : decode cX10_shares 18 = .ok (.iadd, 1) := by decide +kernel
theorem dX10_shares_19 : decode cX10_shares 19 = .ok (.if_icmp .gt 29, 3) := by decide +kernel
theorem dX10_shares_22 : decode cX10_shares 22 = .ok (.aload_n 0, 1) := by decide +kernel
theorem dX10_shares_23 : decode cX10_shares 23 = .ok (.getfield 55, 3) := by decide +kernel
theorem dX10_shares_26 : decode cX10_shares 26 = .ok (.iload_n 2, 1) := by decide +kernel
theorem dX10_shares_27 : decode cX10_shares 27 = .ok (.iaload, 1) := by decide +kernel
theorem dX10_shares_28 : decode cX10_shares 28 = .ok (.aload_n 0, 1) := by decide +kernel
theorem dX10_shares_29 : decode cX10_shares 29 = .ok (.getfield 55, 3) := by decide +kernel
theorem dX10_shares_32 : decode cX10_shares 32 = .ok (.iload_n 1, 1) := by decide +kernel
theorem dX10_shares_33 : decode cX10_shares 33 = .ok (.iaload, 1) := by decide +kernel
theorem dX10_shares_34 : decode cX10_shares 34 = .ok (.aload_n 0, 1) := by decide +kernel
theorem dX10_shares_35 : decode cX10_shares 35 = .ok (.getfield 61, 3) := by decide +kernel
theorem dX10_shares_38 : decode cX10_shares 38 = .ok (.iload_n 1, 1) := by decide +kernel
theorem dX10_shares_39 : decode cX10_shares 39 = .ok (.iaload, 1) := by decide +kernel
theorem dX10_shares_40 : decode cX10_shares 40 = .ok (.iadd, 1) := by decide +kernel
theorem dX10_shares_41 : decode cX10_shares 41 = .ok (.if_icmp .gt 7, 3) := by decide +kernel
theorem dX10_shares_44 : decode cX10_shares 44 = .ok (.iconst 1, 1) := by decide +kernel
theorem dX10_shares_45 : decode cX10_shares 45 = .ok (.goto 4, 3) := by decide +kernel
theorem dX10_shares_48 : decode cX10_shares 48 = .ok (.iconst 0, 1) := by decide +kernel
theorem dX10_shares_49 : decode cX10_shares 49 = .ok (.ireturn, 1) := by decide +kernel
theorem sX10_shares_0 {a0 a1 a2 : Value} (hv : am_rf a0 = true) (h : am_R E d mX10_shares k n 1 [a0, a1, a2] (a0 :: st) S iv Q) : am_R E d mX10_shares k n 0 [a0, a1, a2] st S iv Q := am_aload_n dX10_shares_0 rfl rfl hv h
theorem sX10_shares_1 {ls : List Value} {a b : Nat} (ha : S.1 a = some (.inl 10)) (hb : S.2.1 a 6 = some b) (h : am_R E d mX10_shares k n 4 ls (.ref b :: st) S iv Q) : am_R E d mX10_shares k n 1 ls (.ref a :: st) S iv Q := am_getR (ci := 10) dX10_shares_1 rfl rfl (by decide) wq_774 uq_10 rfl ha hb h
theorem sX10_shares_4 {a0 a2 : Value} {x : Int32} (h : am_R E d mX10_shares k n 5 [a0, .int x, a2] (.int x :: st) S iv Q) : am_R E d mX10_shares k n 4 [a0, .int x, a2] st S iv Q := am_iload_n dX10_shares_4 rfl rfl h
theorem sX10_shares_5 {ls : List Value} {a m : Nat} {i : Int32} (ha : S.1 a = some (.inr (.int, m))) (hi : vp_in i m) (h : am_R E d mX10_shares k n 6 ls (.int (iv a i.toNatClampNeg) :: st) S iv Q) : am_R E d mX10_shares k n 5 ls (.int i :: .ref a :: st) S iv Q := am_iaload dX10_shares_5 ha hi h
theorem sX10_shares_6 {a0 a1 a2 : Value} (hv : am_rf a0 = true) (h : am_R E d mX10_shares k n 7 [a0, a1, a2] (a0 :: st) S iv Q) : am_R E d mX10_shares k n 6 [a0, a1, a2] st S iv Q := am_aload_n dX10_shares_6 rfl rfl hv h
theorem sX10_shares_7 {ls : List Value} {a b : Nat} (ha : S.1 a = some (.inl 10)) (hb : S.2.1 a 6 = some b) (h : am_R E d mX10_shares k n 10 ls (.ref b :: st) S iv Q) : am_R E d mX10_shares k n 7 ls (.ref a :: st) S iv Q := am_getR (ci := 10) dX10_shares_7 rfl rfl (by decide) wq_774 uq_10 rfl ha hb h
theorem sX10_shares_10 {a0 a1 : Value} {x : Int32} (h : am_R E d mX10_shares k n 11 [a0, a1, .int x] (.int x :: st) S iv Q) : am_R E d mX10_shares k n 10 [a0, a1, .int x] st S iv Q := am_iload_n dX10_shares_10 rfl rfl h
theorem sX10_shares_11 {ls : List Value} {a m : Nat} {i : Int32} (ha : S.1 a = some (.inr (.int, m))) (hi : vp_in i m) (h : am_R E d mX10_shares k n 12 ls (.int (iv a i.toNatClampNeg) :: st) S iv Q) : am_R E d mX10_shares k n 11 ls (.int i :: .ref a :: st) S iv Q := am_iaload dX10_shares_11 ha hi h
theorem sX10_shares_12 {a0 a1 a2 : Value} (hv : am_rf a0 = true) (h : am_R E d mX10_shares k n 13 [a0, a1, a2] (a0 :: st) S iv Q) : am_R E d mX10_shares k n 12 [a0, a1, a2] st S iv Q := am_aload_n dX10_shares_12 rfl rfl hv h
theorem sX10_shares_13 {ls : List Value} {a b : Nat} (ha : S.1 a = some (.inl 10)) (hb : S.2.1 a 9 = some b) (h : am_R E d mX10_shares k n 16 ls (.ref b :: st) S iv Q) : am_R E d mX10_shares k n 13 ls (.ref a :: st) S iv Q := am_getR (ci := 10) dX10_shares_13 rfl rfl (by decide) wq_777 uq_10 rfl ha hb h
theorem sX10_shares_16 {a0 a1 : Value} {x : Int32} (h : am_R E d mX10_shares k n 17 [a0, a1, .int x] (.int x :: st) S iv Q) : am_R E d mX10_shares k n 16 [a0, a1, .int x] st S iv Q := am_iload_n dX10_shares_16 rfl rfl h
theorem sX10_shares_17 {ls : List Value} {a m : Nat} {i : Int32} (ha : S.1 a = some (.inr (.int, m))) (hi : vp_in i m) (h : am_R E d mX10_shares k n 18 ls (.int (iv a i.toNatClampNeg) :: st) S iv Q) : am_R E d mX10_shares k n 17 ls (.int i :: .ref a :: st) S iv Q := am_iaload dX10_shares_17 ha hi h
theorem sX10_shares_18 {ls : List Value} {x y : Int32} (h : am_R E d mX10_shares k n 19 ls (.int (x + y) :: st) S iv Q) : am_R E d mX10_shares k n 18 ls (.int y :: .int x :: st) S iv Q := am_iadd dX10_shares_18 h
theorem sX10_shares_19 {ls : List Value} {x y : Int32} (kt : y < x → am_R E d mX10_shares k n 48 ls st S iv Q) (kf : ¬ y < x → am_R E d mX10_shares k n 22 ls st S iv Q) : am_R E d mX10_shares k n 19 ls (.int y :: .int x :: st) S iv Q := am_icmp_gt dX10_shares_19 (by decide) kt kf
theorem sX10_shares_22 {a0 a1 a2 : Value} (hv : am_rf a0 = true) (h : am_R E d mX10_shares k n 23 [a0, a1, a2] (a0 :: st) S iv Q) : am_R E d mX10_shares k n 22 [a0, a1, a2] st S iv Q := am_aload_n dX10_shares_22 rfl rfl hv h
theorem sX10_shares_23 {ls : List Value} {a b : Nat} (ha : S.1 a = some (.inl 10)) (hb : S.2.1 a 6 = some b) (h : am_R E d mX10_shares k n 26 ls (.ref b :: st) S iv Q) : am_R E d mX10_shares k n 23 ls (.ref a :: st) S iv Q := am_getR (ci := 10) dX10_shares_23 rfl rfl (by decide) wq_774 uq_10 rfl ha hb h
theorem sX10_shares_26 {a0 a1 : Value} {x : Int32} (h : am_R E d mX10_shares k n 27 [a0, a1, .int x] (.int x :: st) S iv Q) : am_R E d mX10_shares k n 26 [a0, a1, .int x] st S iv Q := am_iload_n dX10_shares_26 rfl rfl h
theorem sX10_shares_27 {ls : List Value} {a m : Nat} {i : Int32} (ha : S.1 a = some (.inr (.int, m))) (hi : vp_in i m) (h : am_R E d mX10_shares k n 28 ls (.int (iv a i.toNatClampNeg) :: st) S iv Q) : am_R E d mX10_shares k n 27 ls (.int i :: .ref a :: st) S iv Q := am_iaload dX10_shares_27 ha hi h
theorem sX10_shares_28 {a0 a1 a2 : Value} (hv : am_rf a0 = true) (h : am_R E d mX10_shares k n 29 [a0, a1, a2] (a0 :: st) S iv Q) : am_R E d mX10_shares k n 28 [a0, a1, a2] st S iv Q := am_aload_n dX10_shares_28 rfl rfl hv h
theorem sX10_shares_29 {ls : List Value} {a b : Nat} (ha : S.1 a = some (.inl 10)) (hb : S.2.1 a 6 = some b) (h : am_R E d mX10_shares k n 32 ls (.ref b :: st) S iv Q) : am_R E d mX10_shares k n 29 ls (.ref a :: st) S iv Q := am_getR (ci := 10) dX10_shares_29 rfl rfl (by decide) wq_774 uq_10 rfl ha hb h
theorem sX10_shares_32 {a0 a2 : Value} {x : Int32} (h : am_R E d mX10_shares k n 33 [a0, .int x, a2] (.int x :: st) S iv Q) : am_R E d mX10_shares k n 32 [a0, .int x, a2] st S iv Q := am_iload_n dX10_shares_32 rfl rfl h
theorem sX10_shares_33 {ls : List Value} {a m : Nat} {i : Int32} (ha : S.1 a = some (.inr (.int, m))) (hi : vp_in i m) (h : am_R E d mX10_shares k n 34 ls (.int (iv a i.toNatClampNeg) :: st) S iv Q) : am_R E d mX10_shares k n 33 ls (.int i :: .ref a :: st) S iv Q := am_iaload dX10_shares_33 ha hi h
theorem sX10_shares_34 {a0 a1 a2 : Value} (hv : am_rf a0 = true) (h : am_R E d mX10_shares k n 35 [a0, a1, a2] (a0 :: st) S iv Q) : am_R E d mX10_shares k n 34 [a0, a1, a2] st S iv Q := am_aload_n dX10_shares_34 rfl rfl hv h
theorem sX10_shares_35 {ls : List Value} {a b : Nat} (ha : S.1 a = some (.inl 10)) (hb : S.2.1 a 9 = some b) (h : am_R E d mX10_shares k n 38 ls (.ref b :: st) S iv Q) : am_R E d mX10_shares k n 35 ls (.ref a :: st) S iv Q := am_getR (ci := 10) dX10_shares_35 rfl rfl (by decide) wq_777 uq_10 rfl ha hb h
theorem sX10_shares_38 {a0 a2 : Value} {x : Int32} (h : am_R E d mX10_shares k n 39 [a0, .int x, a2] (.int x :: st) S iv Q) : am_R E d mX10_shares k n 38 [a0, .int x, a2] st S iv Q := am_iload_n dX10_shares_38 rfl rfl h
theorem sX10_shares_39 {ls : List Value} {a m : Nat} {i : Int32} (ha : S.1 a = some (.inr (.int, m))) (hi : vp_in i m) (h : am_R E d mX10_shares k n 40 ls (.int (iv a i.toNatClampNeg) :: st) S iv Q) : am_R E d mX10_shares k n 39 ls (.int i :: .ref a :: st) S iv Q := am_iaload dX10_shares_39 ha hi h
theorem sX10_shares_40 {ls : List Value} {x y : Int32} (h : am_R E d mX10_shares k n 41 ls (.int (x + y) :: st) S iv Q) : am_R E d mX10_shares k n 40 ls (.int y :: .int x :: st) S iv Q := am_iadd dX10_shares_40 h
theorem sX10_shares_41 {ls : List Value} {x y : Int32} (kt : y < x → am_R E d mX10_shares k n 48 ls st S iv Q) (kf : ¬ y < x → am_R E d mX10_shares k n 44 ls st S iv Q) : am_R E d mX10_shares k n 41 ls (.int y :: .int x :: st) S iv Q := am_icmp_gt dX10_shares_41 (by decide) kt kf
theorem sX10_shares_44 {a0 a1 a2 : Value} (h : am_R E d mX10_shares k n 45 [a0, a1, a2] (.int 1 :: st) S iv Q) : am_R E d mX10_shares k n 44 [a0, a1, a2] st S iv Q := am_iconst dX10_shares_44 (by decide) h
theorem sX10_shares_45 {ls : List Value} (h : am_R E d mX10_shares k n 49 ls st S iv Q) : am_R E d mX10_shares k n 45 ls st S iv Q := am_goto dX10_shares_45 (by decide) h
theorem sX10_shares_48 {a0 a1 a2 : Value} (h : am_R E d mX10_shares k n 49 [a0, a1, a2] (.int 0 :: st) S iv Q) : am_R E d mX10_shares k n 48 [a0, a1, a2] st S iv Q := am_iconst dX10_shares_48 (by decide) h
theorem sX10_shares_49 {ls : List Value} {x : Int32} (hn : narrow .boolean (.int x) = .int x) (h : Q (.inl (some (.int x))) S iv) : am_R E d mX10_shares k n 49 ls [.int x] S iv Q := am_zreturn dX10_shares_49 rfl hn h
theorem dX10_bitsOf_0 : decode cX10_bitsOf 0 = .ok (.iconst 0, 1) := by decide +kernel
theorem dX10_bitsOf_1 : decode cX10_bitsOf 1 = .ok (.istore_n 1, 1) := by decide +kernel
theorem dX10_bitsOf_2 : decode cX10_bitsOf 2 = .ok (.iload_n 0, 1) := by decide +kernel
theorem dX10_bitsOf_3 : decode cX10_bitsOf 3 = .ok (.istore_n 2, 1) := by decide +kernel
theorem dX10_bitsOf_4 : decode cX10_bitsOf 4 = .ok (.iload_n 2, 1) := by decide +kernel
theorem dX10_bitsOf_5 : decode cX10_bitsOf 5 = .ok (.ifCond .eq 15, 3) := by decide +kernel
theorem dX10_bitsOf_8 : decode cX10_bitsOf 8 = .ok (.iinc 1 1, 3) := by decide +kernel
theorem dX10_bitsOf_11 : decode cX10_bitsOf 11 = .ok (.iload_n 2, 1) := by decide +kernel
theorem dX10_bitsOf_12 : decode cX10_bitsOf 12 = .ok (.iload_n 2, 1) := by decide +kernel
theorem dX10_bitsOf_13 : decode cX10_bitsOf 13 = .ok (.iconst 1, 1) := by decide +kernel
theorem dX10_bitsOf_14 : decode cX10_bitsOf 14 = .ok (.isub, 1) := by decide +kernel
theorem dX10_bitsOf_15 : decode cX10_bitsOf 15 = .ok (.iand, 1) := by decide +kernel
theorem dX10_bitsOf_16 : decode cX10_bitsOf 16 = .ok (.istore_n 2, 1) := by decide +kernel
theorem dX10_bitsOf_17 : decode cX10_bitsOf 17 = .ok (.goto (-13), 3) := by decide +kernel
theorem dX10_bitsOf_20 : decode cX10_bitsOf 20 = .ok (.iload_n 1, 1) := by decide +kernel
theorem dX10_bitsOf_21 : decode cX10_bitsOf 21 = .ok (.ireturn, 1) := by decide +kernel
theorem sX10_bitsOf_0 {a0 a1 a2 : Value} (h : am_R E d mX10_bitsOf k n 1 [a0, a1, a2] (.int 0 :: st) S iv Q) : am_R E d mX10_bitsOf k n 0 [a0, a1, a2] st S iv Q := am_iconst dX10_bitsOf_0 (by decide) h
theorem sX10_bitsOf_1 {a0 a1 a2 : Value} {x : Int32} (h : am_R E d mX10_bitsOf k n 2 [a0, .int x, a2] st S iv Q) : am_R E d mX10_bitsOf k n 1 [a0, a1, a2] (.int x :: st) S iv Q := am_istore_n dX10_bitsOf_1 rfl (by decide) h
theorem sX10_bitsOf_2 {a1 a2 : Value} {x : Int32} (h : am_R E d mX10_bitsOf k n 3 [.int x, a1, a2] (.int x :: st) S iv Q) : am_R E d mX10_bitsOf k n 2 [.int x, a1, a2] st S iv Q := am_iload_n dX10_bitsOf_2 rfl rfl h
theorem sX10_bitsOf_3 {a0 a1 a2 : Value} {x : Int32} (h : am_R E d mX10_bitsOf k n 4 [a0, a1, .int x] st S iv Q) : am_R E d mX10_bitsOf k n 3 [a0, a1, a2] (.int x :: st) S iv Q := am_istore_n dX10_bitsOf_3 rfl (by decide) h
theorem sX10_bitsOf_4 {a0 a1 : Value} {x : Int32} (h : am_R E d mX10_bitsOf k n 5 [a0, a1, .int x] (.int x :: st) S iv Q) : am_R E d mX10_bitsOf k n 4 [a0, a1, .int x] st S iv Q := am_iload_n dX10_bitsOf_4 rfl rfl h
theorem sX10_bitsOf_5 {ls : List Value} {x : Int32} (kt : x = 0 → am_R E d mX10_bitsOf k n 20 ls st S iv Q) (kf : ¬ x = 0 → am_R E d mX10_bitsOf k n 8 ls st S iv Q) : am_R E d mX10_bitsOf k n 5 ls (.int x :: st) S iv Q := am_if_eq dX10_bitsOf_5 (by decide) kt kf
theorem sX10_bitsOf_8 {a0 a2 : Value} {x : Int32} (h : am_R E d mX10_bitsOf k n 11 [a0, .int (x + 1), a2] st S iv Q) : am_R E d mX10_bitsOf k n 8 [a0, .int x, a2] st S iv Q := am_iinc dX10_bitsOf_8 rfl rfl (by decide) h
theorem sX10_bitsOf_11 {a0 a1 : Value} {x : Int32} (h : am_R E d mX10_bitsOf k n 12 [a0, a1, .int x] (.int x :: st) S iv Q) : am_R E d mX10_bitsOf k n 11 [a0, a1, .int x] st S iv Q := am_iload_n dX10_bitsOf_11 rfl rfl h
theorem sX10_bitsOf_12 {a0 a1 : Value} {x : Int32} (h : am_R E d mX10_bitsOf k n 13 [a0, a1, .int x] (.int x :: st) S iv Q) : am_R E d mX10_bitsOf k n 12 [a0, a1, .int x] st S iv Q := am_iload_n dX10_bitsOf_12 rfl rfl h
theorem sX10_bitsOf_13 {a0 a1 a2 : Value} (h : am_R E d mX10_bitsOf k n 14 [a0, a1, a2] (.int 1 :: st) S iv Q) : am_R E d mX10_bitsOf k n 13 [a0, a1, a2] st S iv Q := am_iconst dX10_bitsOf_13 (by decide) h
theorem sX10_bitsOf_14 {ls : List Value} {x y : Int32} (h : am_R E d mX10_bitsOf k n 15 ls (.int (x - y) :: st) S iv Q) : am_R E d mX10_bitsOf k n 14 ls (.int y :: .int x :: st) S iv Q := am_isub dX10_bitsOf_14 h
theorem sX10_bitsOf_15 {ls : List Value} {x y : Int32} (h : am_R E d mX10_bitsOf k n 16 ls (.int (x &&& y) :: st) S iv Q) : am_R E d mX10_bitsOf k n 15 ls (.int y :: .int x :: st) S iv Q := am_iand dX10_bitsOf_15 h
theorem sX10_bitsOf_16 {a0 a1 a2 : Value} {x : Int32} (h : am_R E d mX10_bitsOf k n 17 [a0, a1, .int x] st S iv Q) : am_R E d mX10_bitsOf k n 16 [a0, a1, a2] (.int x :: st) S iv Q := am_istore_n dX10_bitsOf_16 rfl (by decide) h
theorem sX10_bitsOf_17 {ls : List Value} (h : am_R E d mX10_bitsOf k n 4 ls st S iv Q) : am_R E d mX10_bitsOf k n 17 ls st S iv Q := am_goto dX10_bitsOf_17 (by decide) h
theorem sX10_bitsOf_20 {a0 a2 : Value} {x : Int32} (h : am_R E d mX10_bitsOf k n 21 [a0, .int x, a2] (.int x :: st) S iv Q) : am_R E d mX10_bitsOf k n 20 [a0, .int x, a2] st S iv Q := am_iload_n dX10_bitsOf_20 rfl rfl h
theorem sX10_bitsOf_21 {ls : List Value} {x : Int32} (h : Q (.inl (some (.int x))) S iv) : am_R E d mX10_bitsOf k n 21 ls [.int x] S iv Q := am_ireturn dX10_bitsOf_21 rfl h
theorem dX10_reckon_0 : decode cX10_reckon 0 = .ok (.iload_n 0, 1) := by decide +kernel
theorem dX10_reckon_1 : decode cX10_reckon 1 = .ok (.tableswitch 103 (-26) (-20) #[89, 78, 67, 55, 51, 47, 43], 43) := by decide +kernel
theorem dX10_reckon_44 : decode cX10_reckon 44 = .ok (.iload_n 1, 1) := by decide +kernel
theorem dX10_reckon_45 : decode cX10_reckon 45 = .ok (.iload_n 2, 1) := by decide +kernel
theorem dX10_reckon_46 : decode cX10_reckon 46 = .ok (.iadd, 1) := by decide +kernel
theorem dX10_reckon_47 : decode cX10_reckon 47 = .ok (.ireturn, 1) := by decide +kernel
theorem dX10_reckon_48 : decode cX10_reckon 48 = .ok (.iload_n 1, 1) := by decide +kernel
theorem dX10_reckon_49 : decode cX10_reckon 49 = .ok (.iload_n 2, 1) := by decide +kernel
theorem dX10_reckon_50 : decode cX10_reckon 50 = .ok (.isub, 1) := by decide +kernel
theorem dX10_reckon_51 : decode cX10_reckon 51 = .ok (.ireturn, 1) := by decide +kernel
theorem dX10_reckon_52 : decode cX10_reckon 52 = .ok (.iload_n 1, 1) := by decide +kernel
theorem dX10_reckon_53 : decode cX10_reckon 53 = .ok (.iload_n 2, 1) := by decide +kernel
theorem dX10_reckon_54 : decode cX10_reckon 54 = .ok (.imul, 1) := by decide +kernel
theorem dX10_reckon_55 : decode cX10_reckon 55 = .ok (.ireturn, 1) := by decide +kernel
theorem dX10_reckon_56 : decode cX10_reckon 56 = .ok (.iload_n 2, 1) := by decide +kernel
theorem dX10_reckon_57 : decode cX10_reckon 57 = .ok (.ifCond .ne 7, 3) := by decide +kernel
theorem dX10_reckon_60 : decode cX10_reckon 60 = .ok (.iconst 0, 1) := by decide +kernel
theorem dX10_reckon_61 : decode cX10_reckon 61 = .ok (.goto 6, 3) := by decide +kernel
theorem dX10_reckon_64 : decode cX10_reckon 64 = .ok (.iload_n 1, 1) := by decide +kernel
theorem dX10_reckon_65 : decode cX10_reckon 65 = .ok (.iload_n 2, 1) := by decide +kernel
theorem dX10_reckon_66 : decode cX10_reckon 66 = .ok (.idiv, 1) := by decide +kernel
theorem dX10_reckon_67 : decode cX10_reckon 67 = .ok (.ireturn, 1) := by decide +kernel
theorem dX10_reckon_68 : decode cX10_reckon 68 = .ok (.iload_n 1, 1) := by decide +kernel
theorem dX10_reckon_69 : decode cX10_reckon 69 = .ok (.iload_n 2, 1) := by decide +kernel
theorem dX10_reckon_70 : decode cX10_reckon 70 = .ok (.if_icmp .ge 7, 3) := by decide +kernel
theorem dX10_reckon_73 : decode cX10_reckon 73 = .ok (.iconst 1, 1) := by decide +kernel
theorem dX10_reckon_74 : decode cX10_reckon 74 = .ok (.goto 4, 3) := by decide +kernel
theorem dX10_reckon_77 : decode cX10_reckon 77 = .ok (.iconst 0, 1) := by decide +kernel
theorem dX10_reckon_78 : decode cX10_reckon 78 = .ok (.ireturn, 1) := by decide +kernel
theorem dX10_reckon_79 : decode cX10_reckon 79 = .ok (.iload_n 1, 1) := by decide +kernel
theorem dX10_reckon_80 : decode cX10_reckon 80 = .ok (.iload_n 2, 1) := by decide +kernel
theorem dX10_reckon_81 : decode cX10_reckon 81 = .ok (.if_icmp .ne 7, 3) := by decide +kernel
theorem dX10_reckon_84 : decode cX10_reckon 84 = .ok (.iconst 1, 1) := by decide +kernel
theorem dX10_reckon_85 : decode cX10_reckon 85 = .ok (.goto 4, 3) := by decide +kernel
theorem dX10_reckon_88 : decode cX10_reckon 88 = .ok (.iconst 0, 1) := by decide +kernel
theorem dX10_reckon_89 : decode cX10_reckon 89 = .ok (.ireturn, 1) := by decide +kernel
theorem dX10_reckon_90 : decode cX10_reckon 90 = .ok (.iload_n 1, 1) := by decide +kernel
theorem dX10_reckon_91 : decode cX10_reckon 91 = .ok (.ifCond .eq 11, 3) := by decide +kernel
theorem dX10_reckon_94 : decode cX10_reckon 94 = .ok (.iload_n 2, 1) := by decide +kernel
theorem dX10_reckon_95 : decode cX10_reckon 95 = .ok (.ifCond .eq 7, 3) := by decide +kernel
theorem dX10_reckon_98 : decode cX10_reckon 98 = .ok (.iconst 1, 1) := by decide +kernel
theorem dX10_reckon_99 : decode cX10_reckon 99 = .ok (.goto 4, 3) := by decide +kernel
theorem dX10_reckon_102 : decode cX10_reckon 102 = .ok (.iconst 0, 1) := by decide +kernel
theorem dX10_reckon_103 : decode cX10_reckon 103 = .ok (.ireturn, 1) := by decide +kernel
theorem dX10_reckon_104 : decode cX10_reckon 104 = .ok (.iload_n 1, 1) := by decide +kernel
theorem dX10_reckon_105 : decode cX10_reckon 105 = .ok (.ifCond .ne 7, 3) := by decide +kernel
theorem dX10_reckon_108 : decode cX10_reckon 108 = .ok (.iload_n 2, 1) := by decide +kernel
theorem dX10_reckon_109 : decode cX10_reckon 109 = .ok (.ifCond .eq 7, 3) := by decide +kernel
theorem dX10_reckon_112 : decode cX10_reckon 112 = .ok (.iconst 1, 1) := by decide +kernel
theorem dX10_reckon_113 : decode cX10_reckon 113 = .ok (.goto 4, 3) := by decide +kernel
theorem dX10_reckon_116 : decode cX10_reckon 116 = .ok (.iconst 0, 1) := by decide +kernel
theorem dX10_reckon_117 : decode cX10_reckon 117 = .ok (.ireturn, 1) := by decide +kernel
theorem sX10_reckon_0 {a1 a2 : Value} {x : Int32} (h : am_R E d mX10_reckon k n 1 [.int x, a1, a2] (.int x :: st) S iv Q) : am_R E d mX10_reckon k n 0 [.int x, a1, a2] st S iv Q := am_iload_n dX10_reckon_0 rfl rfl h
theorem sX10_reckon_1_m26 {ls : List Value} (h : am_R E d mX10_reckon k n 90 ls st S iv Q) : am_R E d mX10_reckon k n 1 ls (.int (-26) :: st) S iv Q := am_tableIn (off := 89) dX10_reckon_1 (by decide) (by decide) (by decide) (by decide) h
theorem sX10_reckon_1_m25 {ls : List Value} (h : am_R E d mX10_reckon k n 79 ls st S iv Q) : am_R E d mX10_reckon k n 1 ls (.int (-25) :: st) S iv Q := am_tableIn (off := 78) dX10_reckon_1 (by decide) (by decide) (by decide) (by decide) h
theorem sX10_reckon_1_m24 {ls : List Value} (h : am_R E d mX10_reckon k n 68 ls st S iv Q) : am_R E d mX10_reckon k n 1 ls (.int (-24) :: st) S iv Q := am_tableIn (off := 67) dX10_reckon_1 (by decide) (by decide) (by decide) (by decide) h
theorem sX10_reckon_1_m23 {ls : List Value} (h : am_R E d mX10_reckon k n 56 ls st S iv Q) : am_R E d mX10_reckon k n 1 ls (.int (-23) :: st) S iv Q := am_tableIn (off := 55) dX10_reckon_1 (by decide) (by decide) (by decide) (by decide) h
theorem sX10_reckon_1_m22 {ls : List Value} (h : am_R E d mX10_reckon k n 52 ls st S iv Q) : am_R E d mX10_reckon k n 1 ls (.int (-22) :: st) S iv Q := am_tableIn (off := 51) dX10_reckon_1 (by decide) (by decide) (by decide) (by decide) h
theorem sX10_reckon_1_m21 {ls : List Value} (h : am_R E d mX10_reckon k n 48 ls st S iv Q) : am_R E d mX10_reckon k n 1 ls (.int (-21) :: st) S iv Q := am_tableIn (off := 47) dX10_reckon_1 (by decide) (by decide) (by decide) (by decide) h
theorem sX10_reckon_1_m20 {ls : List Value} (h : am_R E d mX10_reckon k n 44 ls st S iv Q) : am_R E d mX10_reckon k n 1 ls (.int (-20) :: st) S iv Q := am_tableIn (off := 43) dX10_reckon_1 (by decide) (by decide) (by decide) (by decide) h
theorem sX10_reckon_1_d {ls : List Value} {x : Int32} (hx : x.toInt < -26 ∨ -20 < x.toInt) (h : am_R E d mX10_reckon k n 104 ls st S iv Q) : am_R E d mX10_reckon k n 1 ls (.int x :: st) S iv Q := am_tableOut dX10_reckon_1 hx (by decide) h
theorem sX10_reckon_44 {a0 a2 : Value} {x : Int32} (h : am_R E d mX10_reckon k n 45 [a0, .int x, a2] (.int x :: st) S iv Q) : am_R E d mX10_reckon k n 44 [a0, .int x, a2] st S iv Q := am_iload_n dX10_reckon_44 rfl rfl h
theorem sX10_reckon_45 {a0 a1 : Value} {x : Int32} (h : am_R E d mX10_reckon k n 46 [a0, a1, .int x] (.int x :: st) S iv Q) : am_R E d mX10_reckon k n 45 [a0, a1, .int x] st S iv Q := am_iload_n dX10_reckon_45 rfl rfl h
theorem sX10_reckon_46 {ls : List Value} {x y : Int32} (h : am_R E d mX10_reckon k n 47 ls (.int (x + y) :: st) S iv Q) : am_R E d mX10_reckon k n 46 ls (.int y :: .int x :: st) S iv Q := am_iadd dX10_reckon_46 h
theorem sX10_reckon_47 {ls : List Value} {x : Int32} (h : Q (.inl (some (.int x))) S iv) : am_R E d mX10_reckon k n 47 ls [.int x] S iv Q := am_ireturn dX10_reckon_47 rfl h
theorem sX10_reckon_48 {a0 a2 : Value} {x : Int32} (h : am_R E d mX10_reckon k n 49 [a0, .int x, a2] (.int x :: st) S iv Q) : am_R E d mX10_reckon k n 48 [a0, .int x, a2] st S iv Q := am_iload_n dX10_reckon_48 rfl rfl h
theorem sX10_reckon_49 {a0 a1 : Value} {x : Int32} (h : am_R E d mX10_reckon k n 50 [a0, a1, .int x] (.int x :: st) S iv Q) : am_R E d mX10_reckon k n 49 [a0, a1, .int x] st S iv Q := am_iload_n dX10_reckon_49 rfl rfl h
theorem sX10_reckon_50 {ls : List Value} {x y : Int32} (h : am_R E d mX10_reckon k n 51 ls (.int (x - y) :: st) S iv Q) : am_R E d mX10_reckon k n 50 ls (.int y :: .int x :: st) S iv Q := am_isub dX10_reckon_50 h
theorem sX10_reckon_51 {ls : List Value} {x : Int32} (h : Q (.inl (some (.int x))) S iv) : am_R E d mX10_reckon k n 51 ls [.int x] S iv Q := am_ireturn dX10_reckon_51 rfl h
theorem sX10_reckon_52 {a0 a2 : Value} {x : Int32} (h : am_R E d mX10_reckon k n 53 [a0, .int x, a2] (.int x :: st) S iv Q) : am_R E d mX10_reckon k n 52 [a0, .int x, a2] st S iv Q := am_iload_n dX10_reckon_52 rfl rfl h
theorem sX10_reckon_53 {a0 a1 : Value} {x : Int32} (h : am_R E d mX10_reckon k n 54 [a0, a1, .int x] (.int x :: st) S iv Q) : am_R E d mX10_reckon k n 53 [a0, a1, .int x] st S iv Q := am_iload_n dX10_reckon_53 rfl rfl h
theorem sX10_reckon_54 {ls : List Value} {x y : Int32} (h : am_R E d mX10_reckon k n 55 ls (.int (x * y) :: st) S iv Q) : am_R E d mX10_reckon k n 54 ls (.int y :: .int x :: st) S iv Q := am_imul dX10_reckon_54 h
theorem sX10_reckon_55 {ls : List Value} {x : Int32} (h : Q (.inl (some (.int x))) S iv) : am_R E d mX10_reckon k n 55 ls [.int x] S iv Q := am_ireturn dX10_reckon_55 rfl h
theorem sX10_reckon_56 {a0 a1 : Value} {x : Int32} (h : am_R E d mX10_reckon k n 57 [a0, a1, .int x] (.int x :: st) S iv Q) : am_R E d mX10_reckon k n 56 [a0, a1, .int x] st S iv Q := am_iload_n dX10_reckon_56 rfl rfl h
theorem sX10_reckon_57 {ls : List Value} {x : Int32} (kt : ¬ x = 0 → am_R E d mX10_reckon k n 64 ls st S iv Q) (kf : x = 0 → am_R E d mX10_reckon k n 60 ls st S iv Q) : am_R E d mX10_reckon k n 57 ls (.int x :: st) S iv Q := am_if_ne dX10_reckon_57 (by decide) kt kf
theorem sX10_reckon_60 {a0 a1 a2 : Value} (h : am_R E d mX10_reckon k n 61 [a0, a1, a2] (.int 0 :: st) S iv Q) : am_R E d mX10_reckon k n 60 [a0, a1, a2] st S iv Q := am_iconst dX10_reckon_60 (by decide) h
theorem sX10_reckon_61 {ls : List Value} (h : am_R E d mX10_reckon k n 67 ls st S iv Q) : am_R E d mX10_reckon k n 61 ls st S iv Q := am_goto dX10_reckon_61 (by decide) h
theorem sX10_reckon_64 {a0 a2 : Value} {x : Int32} (h : am_R E d mX10_reckon k n 65 [a0, .int x, a2] (.int x :: st) S iv Q) : am_R E d mX10_reckon k n 64 [a0, .int x, a2] st S iv Q := am_iload_n dX10_reckon_64 rfl rfl h
theorem sX10_reckon_65 {a0 a1 : Value} {x : Int32} (h : am_R E d mX10_reckon k n 66 [a0, a1, .int x] (.int x :: st) S iv Q) : am_R E d mX10_reckon k n 65 [a0, a1, .int x] st S iv Q := am_iload_n dX10_reckon_65 rfl rfl h
theorem sX10_reckon_66 {ls : List Value} {x y : Int32} (hy : ¬ y = 0) (h : am_R E d mX10_reckon k n 67 ls (.int (x / y) :: st) S iv Q) : am_R E d mX10_reckon k n 66 ls (.int y :: .int x :: st) S iv Q := am_idiv dX10_reckon_66 hy h
theorem sX10_reckon_67 {ls : List Value} {x : Int32} (h : Q (.inl (some (.int x))) S iv) : am_R E d mX10_reckon k n 67 ls [.int x] S iv Q := am_ireturn dX10_reckon_67 rfl h
theorem sX10_reckon_68 {a0 a2 : Value} {x : Int32} (h : am_R E d mX10_reckon k n 69 [a0, .int x, a2] (.int x :: st) S iv Q) : am_R E d mX10_reckon k n 68 [a0, .int x, a2] st S iv Q := am_iload_n dX10_reckon_68 rfl rfl h
theorem sX10_reckon_69 {a0 a1 : Value} {x : Int32} (h : am_R E d mX10_reckon k n 70 [a0, a1, .int x] (.int x :: st) S iv Q) : am_R E d mX10_reckon k n 69 [a0, a1, .int x] st S iv Q := am_iload_n dX10_reckon_69 rfl rfl h
theorem sX10_reckon_70 {ls : List Value} {x y : Int32} (kt : y ≤ x → am_R E d mX10_reckon k n 77 ls st S iv Q) (kf : ¬ y ≤ x → am_R E d mX10_reckon k n 73 ls st S iv Q) : am_R E d mX10_reckon k n 70 ls (.int y :: .int x :: st) S iv Q := am_icmp_ge dX10_reckon_70 (by decide) kt kf
theorem sX10_reckon_73 {a0 a1 a2 : Value} (h : am_R E d mX10_reckon k n 74 [a0, a1, a2] (.int 1 :: st) S iv Q) : am_R E d mX10_reckon k n 73 [a0, a1, a2] st S iv Q := am_iconst dX10_reckon_73 (by decide) h
theorem sX10_reckon_74 {ls : List Value} (h : am_R E d mX10_reckon k n 78 ls st S iv Q) : am_R E d mX10_reckon k n 74 ls st S iv Q := am_goto dX10_reckon_74 (by decide) h
theorem sX10_reckon_77 {a0 a1 a2 : Value} (h : am_R E d mX10_reckon k n 78 [a0, a1, a2] (.int 0 :: st) S iv Q) : am_R E d mX10_reckon k n 77 [a0, a1, a2] st S iv Q := am_iconst dX10_reckon_77 (by decide) h
theorem sX10_reckon_78 {ls : List Value} {x : Int32} (h : Q (.inl (some (.int x))) S iv) : am_R E d mX10_reckon k n 78 ls [.int x] S iv Q := am_ireturn dX10_reckon_78 rfl h
theorem sX10_reckon_79 {a0 a2 : Value} {x : Int32} (h : am_R E d mX10_reckon k n 80 [a0, .int x, a2] (.int x :: st) S iv Q) : am_R E d mX10_reckon k n 79 [a0, .int x, a2] st S iv Q := am_iload_n dX10_reckon_79 rfl rfl h
theorem sX10_reckon_80 {a0 a1 : Value} {x : Int32} (h : am_R E d mX10_reckon k n 81 [a0, a1, .int x] (.int x :: st) S iv Q) : am_R E d mX10_reckon k n 80 [a0, a1, .int x] st S iv Q := am_iload_n dX10_reckon_80 rfl rfl h
theorem sX10_reckon_81 {ls : List Value} {x y : Int32} (kt : ¬ x = y → am_R E d mX10_reckon k n 88 ls st S iv Q) (kf : x = y → am_R E d mX10_reckon k n 84 ls st S iv Q) : am_R E d mX10_reckon k n 81 ls (.int y :: .int x :: st) S iv Q := am_icmp_ne dX10_reckon_81 (by decide) kt kf
theorem sX10_reckon_84 {a0 a1 a2 : Value} (h : am_R E d mX10_reckon k n 85 [a0, a1, a2] (.int 1 :: st) S iv Q) : am_R E d mX10_reckon k n 84 [a0, a1, a2] st S iv Q := am_iconst dX10_reckon_84 (by decide) h
theorem sX10_reckon_85 {ls : List Value} (h : am_R E d mX10_reckon k n 89 ls st S iv Q) : am_R E d mX10_reckon k n 85 ls st S iv Q := am_goto dX10_reckon_85 (by decide) h
theorem sX10_reckon_88 {a0 a1 a2 : Value} (h : am_R E d mX10_reckon k n 89 [a0, a1, a2] (.int 0 :: st) S iv Q) : am_R E d mX10_reckon k n 88 [a0, a1, a2] st S iv Q := am_iconst dX10_reckon_88 (by decide) h
theorem sX10_reckon_89 {ls : List Value} {x : Int32} (h : Q (.inl (some (.int x))) S iv) : am_R E d mX10_reckon k n 89 ls [.int x] S iv Q := am_ireturn dX10_reckon_89 rfl h
theorem sX10_reckon_90 {a0 a2 : Value} {x : Int32} (h : am_R E d mX10_reckon k n 91 [a0, .int x, a2] (.int x :: st) S iv Q) : am_R E d mX10_reckon k n 90 [a0, .int x, a2] st S iv Q := am_iload_n dX10_reckon_90 rfl rfl h
theorem sX10_reckon_91 {ls : List Value} {x : Int32} (kt : x = 0 → am_R E d mX10_reckon k n 102 ls st S iv Q) (kf : ¬ x = 0 → am_R E d mX10_reckon k n 94 ls st S iv Q) : am_R E d mX10_reckon k n 91 ls (.int x :: st) S iv Q := am_if_eq dX10_reckon_91 (by decide) kt kf
theorem sX10_reckon_94 {a0 a1 : Value} {x : Int32} (h : am_R E d mX10_reckon k n 95 [a0, a1, .int x] (.int x :: st) S iv Q) : am_R E d mX10_reckon k n 94 [a0, a1, .int x] st S iv Q := am_iload_n dX10_reckon_94 rfl rfl h
theorem sX10_reckon_95 {ls : List Value} {x : Int32} (kt : x = 0 → am_R E d mX10_reckon k n 102 ls st S iv Q) (kf : ¬ x = 0 → am_R E d mX10_reckon k n 98 ls st S iv Q) : am_R E d mX10_reckon k n 95 ls (.int x :: st) S iv Q := am_if_eq dX10_reckon_95 (by decide) kt kf
theorem sX10_reckon_98 {a0 a1 a2 : Value} (h : am_R E d mX10_reckon k n 99 [a0, a1, a2] (.int 1 :: st) S iv Q) : am_R E d mX10_reckon k n 98 [a0, a1, a2] st S iv Q := am_iconst dX10_reckon_98 (by decide) h
theorem sX10_reckon_99 {ls : List Value} (h : am_R E d mX10_reckon k n 103 ls st S iv Q) : am_R E d mX10_reckon k n 99 ls st S iv Q := am_goto dX10_reckon_99 (by decide) h
theorem sX10_reckon_102 {a0 a1 a2 : Value} (h : am_R E d mX10_reckon k n 103 [a0, a1, a2] (.int 0 :: st) S iv Q) : am_R E d mX10_reckon k n 102 [a0, a1, a2] st S iv Q := am_iconst dX10_reckon_102 (by decide) h
theorem sX10_reckon_103 {ls : List Value} {x : Int32} (h : Q (.inl (some (.int x))) S iv) : am_R E d mX10_reckon k n 103 ls [.int x] S iv Q := am_ireturn dX10_reckon_103 rfl h
theorem sX10_reckon_104 {a0 a2 : Value} {x : Int32} (h : am_R E d mX10_reckon k n 105 [a0, .int x, a2] (.int x :: st) S iv Q) : am_R E d mX10_reckon k n 104 [a0, .int x, a2] st S iv Q := am_iload_n dX10_reckon_104 rfl rfl h
theorem sX10_reckon_105 {ls : List Value} {x : Int32} (kt : ¬ x = 0 → am_R E d mX10_reckon k n 112 ls st S iv Q) (kf : x = 0 → am_R E d mX10_reckon k n 108 ls st S iv Q) : am_R E d mX10_reckon k n 105 ls (.int x :: st) S iv Q := am_if_ne dX10_reckon_105 (by decide) kt kf
theorem sX10_reckon_108 {a0 a1 : Value} {x : Int32} (h : am_R E d mX10_reckon k n 109 [a0, a1, .int x] (.int x :: st) S iv Q) : am_R E d mX10_reckon k n 108 [a0, a1, .int x] st S iv Q := am_iload_n dX10_reckon_108 rfl rfl h
theorem sX10_reckon_109 {ls : List Value} {x : Int32} (kt : x = 0 → am_R E d mX10_reckon k n 116 ls st S iv Q) (kf : ¬ x = 0 → am_R E d mX10_reckon k n 112 ls st S iv Q) : am_R E d mX10_reckon k n 109 ls (.int x :: st) S iv Q := am_if_eq dX10_reckon_109 (by decide) kt kf
theorem sX10_reckon_112 {a0 a1 a2 : Value} (h : am_R E d mX10_reckon k n 113 [a0, a1, a2] (.int 1 :: st) S iv Q) : am_R E d mX10_reckon k n 112 [a0, a1, a2] st S iv Q := am_iconst dX10_reckon_112 (by decide) h
theorem sX10_reckon_113 {ls : List Value} (h : am_R E d mX10_reckon k n 117 ls st S iv Q) : am_R E d mX10_reckon k n 113 ls st S iv Q := am_goto dX10_reckon_113 (by decide) h
theorem sX10_reckon_116 {a0 a1 a2 : Value} (h : am_R E d mX10_reckon k n 117 [a0, a1, a2] (.int 0 :: st) S iv Q) : am_R E d mX10_reckon k n 116 [a0, a1, a2] st S iv Q := am_iconst dX10_reckon_116 (by decide) h
theorem sX10_reckon_117 {ls : List Value} {x : Int32} (h : Q (.inl (some (.int x))) S iv) : am_R E d mX10_reckon k n 117 ls [.int x] S iv Q := am_ireturn dX10_reckon_117 rfl h
theorem dX10_holds_0 : decode cX10_holds 0 = .ok (.iconst 0, 1) := by decide +kernel
theorem dX10_holds_1 : decode cX10_holds 1 = .ok (.istore_n 2, 1) := by decide +kernel
theorem dX10_holds_2 : decode cX10_holds 2 = .ok (.aload_n 0, 1) := by decide +kernel
theorem dX10_holds_3 : decode cX10_holds 3 = .ok (.getfield 71, 3) := by decide +kernel
theorem dX10_holds_6 : decode cX10_holds 6 = .ok (.iload_n 1, 1) := by decide +kernel
theorem dX10_holds_7 : decode cX10_holds 7 = .ok (.iaload, 1) := by decide +kernel
theorem dX10_holds_8 : decode cX10_holds 8 = .ok (.istore_n 3, 1) := by decide +kernel
theorem dX10_holds_9 : decode cX10_holds 9 = .ok (.iload_n 3, 1) := by decide +kernel
theorem dX10_holds_10 : decode cX10_holds 10 = .ok (.aload_n 0, 1) := by decide +kernel
theorem dX10_holds_11 : decode cX10_holds 11 = .ok (.getfield 74, 3) := by decide +kernel
theorem dX10_holds_14 : decode cX10_holds 14 = .ok (.iload_n 1, 1) := by decide +kernel
theorem dX10_holds_15 : decode cX10_holds 15 = .ok (.iaload, 1) := by decide +kernel
theorem dX10_holds_16 : decode cX10_holds 16 = .ok (.if_icmp .ge 119, 3) := by decide +kernel
theorem dX10_holds_19 : decode cX10_holds 19 = .ok (.aload_n 0, 1) := by decide +kernel
theorem dX10_holds_20 : decode cX10_holds 20 = .ok (.getfield 77, 3) := by decide +kernel
theorem dX10_holds_23 : decode cX10_holds 23 = .ok (.iload_n 3, 1) := by decide +kernel
theorem dX10_holds_24 : decode cX10_holds 24 = .ok (.iaload, 1) := by decide +kernel
theorem dX10_holds_25 : decode cX10_holds 25 = .ok (.istore 4, 2) := by decide +kernel
theorem dX10_holds_27 : decode cX10_holds 27 = .ok (.iload 4, 2) := by decide +kernel
theorem dX10_holds_29 : decode cX10_holds 29 = .ok (.bipush (-20), 2) := by decide +kernel
theorem dX10_holds_31 : decode cX10_holds 31 = .ok (.if_icmp .le 34, 3) := by decide +kernel
theorem dX10_holds_34 : decode cX10_holds 34 = .ok (.aload_n 0, 1) := by decide +kernel
theorem dX10_holds_35 : decode cX10_holds 35 = .ok (.getfield 102, 3) := by decide +kernel
theorem dX10_holds_38 : decode cX10_holds 38 = .ok (.iload_n 2, 1) := by decide +kernel
theorem dX10_holds_39 : decode cX10_holds 39 = .ok (.iload 4, 2) := by decide +kernel
theorem dX10_holds_41 : decode cX10_holds 41 = .ok (.ifCond .lt 8, 3) := by decide +kernel
theorem dX10_holds_44 : decode cX10_holds 44 = .ok (.iload 4, 2) := by decide +kernel
theorem dX10_holds_46 : decode cX10_holds 46 = .ok (.goto 12, 3) := by decide +kernel
theorem dX10_holds_49 : decode cX10_holds 49 = .ok (.aload_n 0, 1) := by decide +kernel
theorem dX10_holds_50 : decode cX10_holds 50 = .ok (.getfield 99, 3) := by decide +kernel
theorem dX10_holds_53 : decode cX10_holds 53 = .ok (.iconst (-1), 1) := by decide +kernel
theorem dX10_holds_54 : decode cX10_holds 54 = .ok (.iload 4, 2) := by decide +kernel
theorem dX10_holds_56 : decode cX10_holds 56 = .ok (.isub, 1) := by decide +kernel
theorem dX10_holds_57 : decode cX10_holds 57 = .ok (.iaload, 1) := by decide +kernel
theorem dX10_holds_58 : decode cX10_holds 58 = .ok (.iastore, 1) := by decide +kernel
theorem dX10_holds_59 : decode cX10_holds 59 = .ok (.iinc 2 1, 3) := by decide +kernel
theorem dX10_holds_62 : decode cX10_holds 62 = .ok (.goto 67, 3) := by decide +kernel
theorem dX10_holds_65 : decode cX10_holds 65 = .ok (.iload 4, 2) := by decide +kernel
theorem dX10_holds_67 : decode cX10_holds 67 = .ok (.bipush (-28), 2) := by decide +kernel
theorem dX10_holds_69 : decode cX10_holds 69 = .ok (.if_icmp .ne 30, 3) := by decide +kernel
theorem dX10_holds_72 : decode cX10_holds 72 = .ok (.aload_n 0, 1) := by decide +kernel
theorem dX10_holds_73 : decode cX10_holds 73 = .ok (.getfield 102, 3) := by decide +kernel
theorem dX10_holds_76 : decode cX10_holds 76 = .ok (.iload_n 2, 1) := by decide +kernel
theorem dX10_holds_77 : decode cX10_holds 77 = .ok (.iconst 1, 1) := by decide +kernel
theorem dX10_holds_78 : decode cX10_holds 78 = .ok (.isub, 1) := by decide +kernel
theorem dX10_holds_79 : decode cX10_holds 79 = .ok (.aload_n 0, 1) := by decide +kernel
theorem dX10_holds_80 : decode cX10_holds 80 = .ok (.getfield 102, 3) := by decide +kernel
theorem dX10_holds_83 : decode cX10_holds 83 = .ok (.iload_n 2, 1) := by decide +kernel
theorem dX10_holds_84 : decode cX10_holds 84 = .ok (.iconst 1, 1) := by decide +kernel
theorem dX10_holds_85 : decode cX10_holds 85 = .ok (.isub, 1) := by decide +kernel
theorem dX10_holds_86 : decode cX10_holds 86 = .ok (.iaload, 1) := by decide +kernel
theorem dX10_holds_87 : decode cX10_holds 87 = .ok (.ifCond .eq 7, 3) := by decide +kernel
theorem dX10_holds_90 : decode cX10_holds 90 = .ok (.iconst 0, 1) := by decide +kernel
theorem dX10_holds_91 : decode cX10_holds 91 = .ok (.goto 4, 3) := by decide +kernel
theorem dX10_holds_94 : decode cX10_holds 94 = .ok (.iconst 1, 1) := by decide +kernel
theorem dX10_holds_95 : decode cX10_holds 95 = .ok (.iastore, 1) := by decide +kernel
theorem dX10_holds_96 : decode cX10_holds 96 = .ok (.goto 33, 3) := by decide +kernel
theorem dX10_holds_99 : decode cX10_holds 99 = .ok (.iinc 2 (-1), 3) := by decide +kernel
theorem dX10_holds_102 : decode cX10_holds 102 = .ok (.aload_n 0, 1) := by decide +kernel
theorem dX10_holds_103 : decode cX10_holds 103 = .ok (.getfield 102, 3) := by decide +kernel
theorem dX10_holds_106 : decode cX10_holds 106 = .ok (.iload_n 2, 1) := by decide +kernel
theorem dX10_holds_107 : decode cX10_holds 107 = .ok (.iconst 1, 1) := by decide +kernel
theorem dX10_holds_108 : decode cX10_holds 108 = .ok (.isub, 1) := by decide +kernel
theorem dX10_holds_109 : decode cX10_holds 109 = .ok (.iload 4, 2) := by decide +kernel
theorem dX10_holds_111 : decode cX10_holds 111 = .ok (.aload_n 0, 1) := by decide +kernel
theorem dX10_holds_112 : decode cX10_holds 112 = .ok (.getfield 102, 3) := by decide +kernel
theorem dX10_holds_115 : decode cX10_holds 115 = .ok (.iload_n 2, 1) := by decide +kernel
theorem dX10_holds_116 : decode cX10_holds 116 = .ok (.iconst 1, 1) := by decide +kernel
theorem dX10_holds_117 : decode cX10_holds 117 = .ok (.isub, 1) := by decide +kernel
theorem dX10_holds_118 : decode cX10_holds 118 = .ok (.iaload, 1) := by decide +kernel
theorem dX10_holds_119 : decode cX10_holds 119 = .ok (.aload_n 0, 1) := by decide +kernel
theorem dX10_holds_120 : decode cX10_holds 120 = .ok (.getfield 102, 3) := by decide +kernel
theorem dX10_holds_123 : decode cX10_holds 123 = .ok (.iload_n 2, 1) := by decide +kernel
theorem dX10_holds_124 : decode cX10_holds 124 = .ok (.iaload, 1) := by decide +kernel
theorem dX10_holds_125 : decode cX10_holds 125 = .ok (.invokestatic 321, 3) := by decide +kernel
theorem dX10_holds_128 : decode cX10_holds 128 = .ok (.iastore, 1) := by decide +kernel
theorem dX10_holds_129 : decode cX10_holds 129 = .ok (.iinc 3 1, 3) := by decide +kernel
theorem dX10_holds_132 : decode cX10_holds 132 = .ok (.goto (-123), 3) := by decide +kernel
theorem dX10_holds_135 : decode cX10_holds 135 = .ok (.aload_n 0, 1) := by decide +kernel
theorem dX10_holds_136 : decode cX10_holds 136 = .ok (.getfield 102, 3) := by decide +kernel
theorem dX10_holds_139 : decode cX10_holds 139 = .ok (.iconst 0, 1) := by decide +kernel
theorem dX10_holds_140 : decode cX10_holds 140 = .ok (.iaload, 1) := by decide +kernel
theorem dX10_holds_141 : decode cX10_holds 141 = .ok (.ifCond .eq 7, 3) := by decide +kernel
theorem dX10_holds_144 : decode cX10_holds 144 = .ok (.iconst 1, 1) := by decide +kernel
theorem dX10_holds_145 : decode cX10_holds 145 = .ok (.goto 4, 3) := by decide +kernel
theorem dX10_holds_148 : decode cX10_holds 148 = .ok (.iconst 0, 1) := by decide +kernel
theorem dX10_holds_149 : decode cX10_holds 149 = .ok (.ireturn, 1) := by decide +kernel
theorem sX10_holds_0 {a0 a1 a2 a3 a4 : Value} (h : am_R E d mX10_holds k n 1 [a0, a1, a2, a3, a4] (.int 0 :: st) S iv Q) : am_R E d mX10_holds k n 0 [a0, a1, a2, a3, a4] st S iv Q := am_iconst dX10_holds_0 (by decide) h
theorem sX10_holds_1 {a0 a1 a2 a3 a4 : Value} {x : Int32} (h : am_R E d mX10_holds k n 2 [a0, a1, .int x, a3, a4] st S iv Q) : am_R E d mX10_holds k n 1 [a0, a1, a2, a3, a4] (.int x :: st) S iv Q := am_istore_n dX10_holds_1 rfl (by decide) h
theorem sX10_holds_2 {a0 a1 a2 a3 a4 : Value} (hv : am_rf a0 = true) (h : am_R E d mX10_holds k n 3 [a0, a1, a2, a3, a4] (a0 :: st) S iv Q) : am_R E d mX10_holds k n 2 [a0, a1, a2, a3, a4] st S iv Q := am_aload_n dX10_holds_2 rfl rfl hv h
theorem sX10_holds_3 {ls : List Value} {a b : Nat} (ha : S.1 a = some (.inl 10)) (hb : S.2.1 a 13 = some b) (h : am_R E d mX10_holds k n 6 ls (.ref b :: st) S iv Q) : am_R E d mX10_holds k n 3 ls (.ref a :: st) S iv Q := am_getR (ci := 10) dX10_holds_3 rfl rfl (by decide) wq_781 uq_10 rfl ha hb h
theorem sX10_holds_6 {a0 a2 a3 a4 : Value} {x : Int32} (h : am_R E d mX10_holds k n 7 [a0, .int x, a2, a3, a4] (.int x :: st) S iv Q) : am_R E d mX10_holds k n 6 [a0, .int x, a2, a3, a4] st S iv Q := am_iload_n dX10_holds_6 rfl rfl h
theorem sX10_holds_7 {ls : List Value} {a m : Nat} {i : Int32} (ha : S.1 a = some (.inr (.int, m))) (hi : vp_in i m) (h : am_R E d mX10_holds k n 8 ls (.int (iv a i.toNatClampNeg) :: st) S iv Q) : am_R E d mX10_holds k n 7 ls (.int i :: .ref a :: st) S iv Q := am_iaload dX10_holds_7 ha hi h
theorem sX10_holds_8 {a0 a1 a2 a3 a4 : Value} {x : Int32} (h : am_R E d mX10_holds k n 9 [a0, a1, a2, .int x, a4] st S iv Q) : am_R E d mX10_holds k n 8 [a0, a1, a2, a3, a4] (.int x :: st) S iv Q := am_istore_n dX10_holds_8 rfl (by decide) h
theorem sX10_holds_9 {a0 a1 a2 a4 : Value} {x : Int32} (h : am_R E d mX10_holds k n 10 [a0, a1, a2, .int x, a4] (.int x :: st) S iv Q) : am_R E d mX10_holds k n 9 [a0, a1, a2, .int x, a4] st S iv Q := am_iload_n dX10_holds_9 rfl rfl h
theorem sX10_holds_10 {a0 a1 a2 a3 a4 : Value} (hv : am_rf a0 = true) (h : am_R E d mX10_holds k n 11 [a0, a1, a2, a3, a4] (a0 :: st) S iv Q) : am_R E d mX10_holds k n 10 [a0, a1, a2, a3, a4] st S iv Q := am_aload_n dX10_holds_10 rfl rfl hv h
theorem sX10_holds_11 {ls : List Value} {a b : Nat} (ha : S.1 a = some (.inl 10)) (hb : S.2.1 a 14 = some b) (h : am_R E d mX10_holds k n 14 ls (.ref b :: st) S iv Q) : am_R E d mX10_holds k n 11 ls (.ref a :: st) S iv Q := am_getR (ci := 10) dX10_holds_11 rfl rfl (by decide) wq_782 uq_10 rfl ha hb h
theorem sX10_holds_14 {a0 a2 a3 a4 : Value} {x : Int32} (h : am_R E d mX10_holds k n 15 [a0, .int x, a2, a3, a4] (.int x :: st) S iv Q) : am_R E d mX10_holds k n 14 [a0, .int x, a2, a3, a4] st S iv Q := am_iload_n dX10_holds_14 rfl rfl h
theorem sX10_holds_15 {ls : List Value} {a m : Nat} {i : Int32} (ha : S.1 a = some (.inr (.int, m))) (hi : vp_in i m) (h : am_R E d mX10_holds k n 16 ls (.int (iv a i.toNatClampNeg) :: st) S iv Q) : am_R E d mX10_holds k n 15 ls (.int i :: .ref a :: st) S iv Q := am_iaload dX10_holds_15 ha hi h
theorem sX10_holds_16 {ls : List Value} {x y : Int32} (kt : y ≤ x → am_R E d mX10_holds k n 135 ls st S iv Q) (kf : ¬ y ≤ x → am_R E d mX10_holds k n 19 ls st S iv Q) : am_R E d mX10_holds k n 16 ls (.int y :: .int x :: st) S iv Q := am_icmp_ge dX10_holds_16 (by decide) kt kf
theorem sX10_holds_19 {a0 a1 a2 a3 a4 : Value} (hv : am_rf a0 = true) (h : am_R E d mX10_holds k n 20 [a0, a1, a2, a3, a4] (a0 :: st) S iv Q) : am_R E d mX10_holds k n 19 [a0, a1, a2, a3, a4] st S iv Q := am_aload_n dX10_holds_19 rfl rfl hv h
theorem sX10_holds_20 {ls : List Value} {a b : Nat} (ha : S.1 a = some (.inl 10)) (hb : S.2.1 a 15 = some b) (h : am_R E d mX10_holds k n 23 ls (.ref b :: st) S iv Q) : am_R E d mX10_holds k n 20 ls (.ref a :: st) S iv Q := am_getR (ci := 10) dX10_holds_20 rfl rfl (by decide) wq_783 uq_10 rfl ha hb h
theorem sX10_holds_23 {a0 a1 a2 a4 : Value} {x : Int32} (h : am_R E d mX10_holds k n 24 [a0, a1, a2, .int x, a4] (.int x :: st) S iv Q) : am_R E d mX10_holds k n 23 [a0, a1, a2, .int x, a4] st S iv Q := am_iload_n dX10_holds_23 rfl rfl h
theorem sX10_holds_24 {ls : List Value} {a m : Nat} {i : Int32} (ha : S.1 a = some (.inr (.int, m))) (hi : vp_in i m) (h : am_R E d mX10_holds k n 25 ls (.int (iv a i.toNatClampNeg) :: st) S iv Q) : am_R E d mX10_holds k n 24 ls (.int i :: .ref a :: st) S iv Q := am_iaload dX10_holds_24 ha hi h
theorem sX10_holds_25 {a0 a1 a2 a3 a4 : Value} {x : Int32} (h : am_R E d mX10_holds k n 27 [a0, a1, a2, a3, .int x] st S iv Q) : am_R E d mX10_holds k n 25 [a0, a1, a2, a3, a4] (.int x :: st) S iv Q := am_istore dX10_holds_25 (by decide) h
theorem sX10_holds_27 {a0 a1 a2 a3 : Value} {x : Int32} (h : am_R E d mX10_holds k n 29 [a0, a1, a2, a3, .int x] (.int x :: st) S iv Q) : am_R E d mX10_holds k n 27 [a0, a1, a2, a3, .int x] st S iv Q := am_iload dX10_holds_27 rfl h
theorem sX10_holds_29 {a0 a1 a2 a3 a4 : Value} (h : am_R E d mX10_holds k n 31 [a0, a1, a2, a3, a4] (.int (-20) :: st) S iv Q) : am_R E d mX10_holds k n 29 [a0, a1, a2, a3, a4] st S iv Q := am_bipush dX10_holds_29 (by decide) h
theorem sX10_holds_31 {ls : List Value} {x y : Int32} (kt : x ≤ y → am_R E d mX10_holds k n 65 ls st S iv Q) (kf : ¬ x ≤ y → am_R E d mX10_holds k n 34 ls st S iv Q) : am_R E d mX10_holds k n 31 ls (.int y :: .int x :: st) S iv Q := am_icmp_le dX10_holds_31 (by decide) kt kf
theorem sX10_holds_34 {a0 a1 a2 a3 a4 : Value} (hv : am_rf a0 = true) (h : am_R E d mX10_holds k n 35 [a0, a1, a2, a3, a4] (a0 :: st) S iv Q) : am_R E d mX10_holds k n 34 [a0, a1, a2, a3, a4] st S iv Q := am_aload_n dX10_holds_34 rfl rfl hv h
theorem sX10_holds_35 {ls : List Value} {a b : Nat} (ha : S.1 a = some (.inl 10)) (hb : S.2.1 a 37 = some b) (h : am_R E d mX10_holds k n 38 ls (.ref b :: st) S iv Q) : am_R E d mX10_holds k n 35 ls (.ref a :: st) S iv Q := am_getR (ci := 10) dX10_holds_35 rfl rfl (by decide) wq_791 uq_10 rfl ha hb h
theorem sX10_holds_38 {a0 a1 a3 a4 : Value} {x : Int32} (h : am_R E d mX10_holds k n 39 [a0, a1, .int x, a3, a4] (.int x :: st) S iv Q) : am_R E d mX10_holds k n 38 [a0, a1, .int x, a3, a4] st S iv Q := am_iload_n dX10_holds_38 rfl rfl h
theorem sX10_holds_39 {a0 a1 a2 a3 : Value} {x : Int32} (h : am_R E d mX10_holds k n 41 [a0, a1, a2, a3, .int x] (.int x :: st) S iv Q) : am_R E d mX10_holds k n 39 [a0, a1, a2, a3, .int x] st S iv Q := am_iload dX10_holds_39 rfl h
theorem sX10_holds_41 {ls : List Value} {x : Int32} (kt : x < 0 → am_R E d mX10_holds k n 49 ls st S iv Q) (kf : ¬ x < 0 → am_R E d mX10_holds k n 44 ls st S iv Q) : am_R E d mX10_holds k n 41 ls (.int x :: st) S iv Q := am_if_lt dX10_holds_41 (by decide) kt kf
theorem sX10_holds_44 {a0 a1 a2 a3 : Value} {x : Int32} (h : am_R E d mX10_holds k n 46 [a0, a1, a2, a3, .int x] (.int x :: st) S iv Q) : am_R E d mX10_holds k n 44 [a0, a1, a2, a3, .int x] st S iv Q := am_iload dX10_holds_44 rfl h
theorem sX10_holds_46 {ls : List Value} (h : am_R E d mX10_holds k n 58 ls st S iv Q) : am_R E d mX10_holds k n 46 ls st S iv Q := am_goto dX10_holds_46 (by decide) h
theorem sX10_holds_49 {a0 a1 a2 a3 a4 : Value} (hv : am_rf a0 = true) (h : am_R E d mX10_holds k n 50 [a0, a1, a2, a3, a4] (a0 :: st) S iv Q) : am_R E d mX10_holds k n 49 [a0, a1, a2, a3, a4] st S iv Q := am_aload_n dX10_holds_49 rfl rfl hv h
theorem sX10_holds_50 {ls : List Value} {a b : Nat} (ha : S.1 a = some (.inl 10)) (hb : S.2.1 a 36 = some b) (h : am_R E d mX10_holds k n 53 ls (.ref b :: st) S iv Q) : am_R E d mX10_holds k n 50 ls (.ref a :: st) S iv Q := am_getR (ci := 10) dX10_holds_50 rfl rfl (by decide) wq_790 uq_10 rfl ha hb h
theorem sX10_holds_53 {a0 a1 a2 a3 a4 : Value} (h : am_R E d mX10_holds k n 54 [a0, a1, a2, a3, a4] (.int (-1) :: st) S iv Q) : am_R E d mX10_holds k n 53 [a0, a1, a2, a3, a4] st S iv Q := am_iconst dX10_holds_53 (by decide) h
theorem sX10_holds_54 {a0 a1 a2 a3 : Value} {x : Int32} (h : am_R E d mX10_holds k n 56 [a0, a1, a2, a3, .int x] (.int x :: st) S iv Q) : am_R E d mX10_holds k n 54 [a0, a1, a2, a3, .int x] st S iv Q := am_iload dX10_holds_54 rfl h
theorem sX10_holds_56 {ls : List Value} {x y : Int32} (h : am_R E d mX10_holds k n 57 ls (.int (x - y) :: st) S iv Q) : am_R E d mX10_holds k n 56 ls (.int y :: .int x :: st) S iv Q := am_isub dX10_holds_56 h
theorem sX10_holds_57 {ls : List Value} {a m : Nat} {i : Int32} (ha : S.1 a = some (.inr (.int, m))) (hi : vp_in i m) (h : am_R E d mX10_holds k n 58 ls (.int (iv a i.toNatClampNeg) :: st) S iv Q) : am_R E d mX10_holds k n 57 ls (.int i :: .ref a :: st) S iv Q := am_iaload dX10_holds_57 ha hi h
theorem sX10_holds_58 {ls : List Value} {a m : Nat} {i x : Int32} (ha : S.1 a = some (.inr (.int, m))) (hi : vp_in i m) (h : am_R E d mX10_holds k n 59 ls st S (am_w iv a i.toNatClampNeg x) Q) : am_R E d mX10_holds k n 58 ls (.int x :: .int i :: .ref a :: st) S iv Q := am_iastore dX10_holds_58 ha hi h
theorem sX10_holds_59 {a0 a1 a3 a4 : Value} {x : Int32} (h : am_R E d mX10_holds k n 62 [a0, a1, .int (x + 1), a3, a4] st S iv Q) : am_R E d mX10_holds k n 59 [a0, a1, .int x, a3, a4] st S iv Q := am_iinc dX10_holds_59 rfl rfl (by decide) h
theorem sX10_holds_62 {ls : List Value} (h : am_R E d mX10_holds k n 129 ls st S iv Q) : am_R E d mX10_holds k n 62 ls st S iv Q := am_goto dX10_holds_62 (by decide) h
theorem sX10_holds_65 {a0 a1 a2 a3 : Value} {x : Int32} (h : am_R E d mX10_holds k n 67 [a0, a1, a2, a3, .int x] (.int x :: st) S iv Q) : am_R E d mX10_holds k n 65 [a0, a1, a2, a3, .int x] st S iv Q := am_iload dX10_holds_65 rfl h
theorem sX10_holds_67 {a0 a1 a2 a3 a4 : Value} (h : am_R E d mX10_holds k n 69 [a0, a1, a2, a3, a4] (.int (-28) :: st) S iv Q) : am_R E d mX10_holds k n 67 [a0, a1, a2, a3, a4] st S iv Q := am_bipush dX10_holds_67 (by decide) h
theorem sX10_holds_69 {ls : List Value} {x y : Int32} (kt : ¬ x = y → am_R E d mX10_holds k n 99 ls st S iv Q) (kf : x = y → am_R E d mX10_holds k n 72 ls st S iv Q) : am_R E d mX10_holds k n 69 ls (.int y :: .int x :: st) S iv Q := am_icmp_ne dX10_holds_69 (by decide) kt kf
theorem sX10_holds_72 {a0 a1 a2 a3 a4 : Value} (hv : am_rf a0 = true) (h : am_R E d mX10_holds k n 73 [a0, a1, a2, a3, a4] (a0 :: st) S iv Q) : am_R E d mX10_holds k n 72 [a0, a1, a2, a3, a4] st S iv Q := am_aload_n dX10_holds_72 rfl rfl hv h
theorem sX10_holds_73 {ls : List Value} {a b : Nat} (ha : S.1 a = some (.inl 10)) (hb : S.2.1 a 37 = some b) (h : am_R E d mX10_holds k n 76 ls (.ref b :: st) S iv Q) : am_R E d mX10_holds k n 73 ls (.ref a :: st) S iv Q := am_getR (ci := 10) dX10_holds_73 rfl rfl (by decide) wq_791 uq_10 rfl ha hb h
theorem sX10_holds_76 {a0 a1 a3 a4 : Value} {x : Int32} (h : am_R E d mX10_holds k n 77 [a0, a1, .int x, a3, a4] (.int x :: st) S iv Q) : am_R E d mX10_holds k n 76 [a0, a1, .int x, a3, a4] st S iv Q := am_iload_n dX10_holds_76 rfl rfl h
theorem sX10_holds_77 {a0 a1 a2 a3 a4 : Value} (h : am_R E d mX10_holds k n 78 [a0, a1, a2, a3, a4] (.int 1 :: st) S iv Q) : am_R E d mX10_holds k n 77 [a0, a1, a2, a3, a4] st S iv Q := am_iconst dX10_holds_77 (by decide) h
theorem sX10_holds_78 {ls : List Value} {x y : Int32} (h : am_R E d mX10_holds k n 79 ls (.int (x - y) :: st) S iv Q) : am_R E d mX10_holds k n 78 ls (.int y :: .int x :: st) S iv Q := am_isub dX10_holds_78 h
theorem sX10_holds_79 {a0 a1 a2 a3 a4 : Value} (hv : am_rf a0 = true) (h : am_R E d mX10_holds k n 80 [a0, a1, a2, a3, a4] (a0 :: st) S iv Q) : am_R E d mX10_holds k n 79 [a0, a1, a2, a3, a4] st S iv Q := am_aload_n dX10_holds_79 rfl rfl hv h
theorem sX10_holds_80 {ls : List Value} {a b : Nat} (ha : S.1 a = some (.inl 10)) (hb : S.2.1 a 37 = some b) (h : am_R E d mX10_holds k n 83 ls (.ref b :: st) S iv Q) : am_R E d mX10_holds k n 80 ls (.ref a :: st) S iv Q := am_getR (ci := 10) dX10_holds_80 rfl rfl (by decide) wq_791 uq_10 rfl ha hb h
theorem sX10_holds_83 {a0 a1 a3 a4 : Value} {x : Int32} (h : am_R E d mX10_holds k n 84 [a0, a1, .int x, a3, a4] (.int x :: st) S iv Q) : am_R E d mX10_holds k n 83 [a0, a1, .int x, a3, a4] st S iv Q := am_iload_n dX10_holds_83 rfl rfl h
theorem sX10_holds_84 {a0 a1 a2 a3 a4 : Value} (h : am_R E d mX10_holds k n 85 [a0, a1, a2, a3, a4] (.int 1 :: st) S iv Q) : am_R E d mX10_holds k n 84 [a0, a1, a2, a3, a4] st S iv Q := am_iconst dX10_holds_84 (by decide) h
theorem sX10_holds_85 {ls : List Value} {x y : Int32} (h : am_R E d mX10_holds k n 86 ls (.int (x - y) :: st) S iv Q) : am_R E d mX10_holds k n 85 ls (.int y :: .int x :: st) S iv Q := am_isub dX10_holds_85 h
theorem sX10_holds_86 {ls : List Value} {a m : Nat} {i : Int32} (ha : S.1 a = some (.inr (.int, m))) (hi : vp_in i m) (h : am_R E d mX10_holds k n 87 ls (.int (iv a i.toNatClampNeg) :: st) S iv Q) : am_R E d mX10_holds k n 86 ls (.int i :: .ref a :: st) S iv Q := am_iaload dX10_holds_86 ha hi h
theorem sX10_holds_87 {ls : List Value} {x : Int32} (kt : x = 0 → am_R E d mX10_holds k n 94 ls st S iv Q) (kf : ¬ x = 0 → am_R E d mX10_holds k n 90 ls st S iv Q) : am_R E d mX10_holds k n 87 ls (.int x :: st) S iv Q := am_if_eq dX10_holds_87 (by decide) kt kf
theorem sX10_holds_90 {a0 a1 a2 a3 a4 : Value} (h : am_R E d mX10_holds k n 91 [a0, a1, a2, a3, a4] (.int 0 :: st) S iv Q) : am_R E d mX10_holds k n 90 [a0, a1, a2, a3, a4] st S iv Q := am_iconst dX10_holds_90 (by decide) h
theorem sX10_holds_91 {ls : List Value} (h : am_R E d mX10_holds k n 95 ls st S iv Q) : am_R E d mX10_holds k n 91 ls st S iv Q := am_goto dX10_holds_91 (by decide) h
theorem sX10_holds_94 {a0 a1 a2 a3 a4 : Value} (h : am_R E d mX10_holds k n 95 [a0, a1, a2, a3, a4] (.int 1 :: st) S iv Q) : am_R E d mX10_holds k n 94 [a0, a1, a2, a3, a4] st S iv Q := am_iconst dX10_holds_94 (by decide) h
theorem sX10_holds_95 {ls : List Value} {a m : Nat} {i x : Int32} (ha : S.1 a = some (.inr (.int, m))) (hi : vp_in i m) (h : am_R E d mX10_holds k n 96 ls st S (am_w iv a i.toNatClampNeg x) Q) : am_R E d mX10_holds k n 95 ls (.int x :: .int i :: .ref a :: st) S iv Q := am_iastore dX10_holds_95 ha hi h
theorem sX10_holds_96 {ls : List Value} (h : am_R E d mX10_holds k n 129 ls st S iv Q) : am_R E d mX10_holds k n 96 ls st S iv Q := am_goto dX10_holds_96 (by decide) h
theorem sX10_holds_99 {a0 a1 a3 a4 : Value} {x : Int32} (h : am_R E d mX10_holds k n 102 [a0, a1, .int (x + (-1)), a3, a4] st S iv Q) : am_R E d mX10_holds k n 99 [a0, a1, .int x, a3, a4] st S iv Q := am_iinc dX10_holds_99 rfl rfl (by decide) h
theorem sX10_holds_102 {a0 a1 a2 a3 a4 : Value} (hv : am_rf a0 = true) (h : am_R E d mX10_holds k n 103 [a0, a1, a2, a3, a4] (a0 :: st) S iv Q) : am_R E d mX10_holds k n 102 [a0, a1, a2, a3, a4] st S iv Q := am_aload_n dX10_holds_102 rfl rfl hv h
theorem sX10_holds_103 {ls : List Value} {a b : Nat} (ha : S.1 a = some (.inl 10)) (hb : S.2.1 a 37 = some b) (h : am_R E d mX10_holds k n 106 ls (.ref b :: st) S iv Q) : am_R E d mX10_holds k n 103 ls (.ref a :: st) S iv Q := am_getR (ci := 10) dX10_holds_103 rfl rfl (by decide) wq_791 uq_10 rfl ha hb h
theorem sX10_holds_106 {a0 a1 a3 a4 : Value} {x : Int32} (h : am_R E d mX10_holds k n 107 [a0, a1, .int x, a3, a4] (.int x :: st) S iv Q) : am_R E d mX10_holds k n 106 [a0, a1, .int x, a3, a4] st S iv Q := am_iload_n dX10_holds_106 rfl rfl h
theorem sX10_holds_107 {a0 a1 a2 a3 a4 : Value} (h : am_R E d mX10_holds k n 108 [a0, a1, a2, a3, a4] (.int 1 :: st) S iv Q) : am_R E d mX10_holds k n 107 [a0, a1, a2, a3, a4] st S iv Q := am_iconst dX10_holds_107 (by decide) h
theorem sX10_holds_108 {ls : List Value} {x y : Int32} (h : am_R E d mX10_holds k n 109 ls (.int (x - y) :: st) S iv Q) : am_R E d mX10_holds k n 108 ls (.int y :: .int x :: st) S iv Q := am_isub dX10_holds_108 h
theorem sX10_holds_109 {a0 a1 a2 a3 : Value} {x : Int32} (h : am_R E d mX10_holds k n 111 [a0, a1, a2, a3, .int x] (.int x :: st) S iv Q) : am_R E d mX10_holds k n 109 [a0, a1, a2, a3, .int x] st S iv Q := am_iload dX10_holds_109 rfl h
theorem sX10_holds_111 {a0 a1 a2 a3 a4 : Value} (hv : am_rf a0 = true) (h : am_R E d mX10_holds k n 112 [a0, a1, a2, a3, a4] (a0 :: st) S iv Q) : am_R E d mX10_holds k n 111 [a0, a1, a2, a3, a4] st S iv Q := am_aload_n dX10_holds_111 rfl rfl hv h
theorem sX10_holds_112 {ls : List Value} {a b : Nat} (ha : S.1 a = some (.inl 10)) (hb : S.2.1 a 37 = some b) (h : am_R E d mX10_holds k n 115 ls (.ref b :: st) S iv Q) : am_R E d mX10_holds k n 112 ls (.ref a :: st) S iv Q := am_getR (ci := 10) dX10_holds_112 rfl rfl (by decide) wq_791 uq_10 rfl ha hb h
theorem sX10_holds_115 {a0 a1 a3 a4 : Value} {x : Int32} (h : am_R E d mX10_holds k n 116 [a0, a1, .int x, a3, a4] (.int x :: st) S iv Q) : am_R E d mX10_holds k n 115 [a0, a1, .int x, a3, a4] st S iv Q := am_iload_n dX10_holds_115 rfl rfl h
theorem sX10_holds_116 {a0 a1 a2 a3 a4 : Value} (h : am_R E d mX10_holds k n 117 [a0, a1, a2, a3, a4] (.int 1 :: st) S iv Q) : am_R E d mX10_holds k n 116 [a0, a1, a2, a3, a4] st S iv Q := am_iconst dX10_holds_116 (by decide) h
theorem sX10_holds_117 {ls : List Value} {x y : Int32} (h : am_R E d mX10_holds k n 118 ls (.int (x - y) :: st) S iv Q) : am_R E d mX10_holds k n 117 ls (.int y :: .int x :: st) S iv Q := am_isub dX10_holds_117 h
theorem sX10_holds_118 {ls : List Value} {a m : Nat} {i : Int32} (ha : S.1 a = some (.inr (.int, m))) (hi : vp_in i m) (h : am_R E d mX10_holds k n 119 ls (.int (iv a i.toNatClampNeg) :: st) S iv Q) : am_R E d mX10_holds k n 118 ls (.int i :: .ref a :: st) S iv Q := am_iaload dX10_holds_118 ha hi h
theorem sX10_holds_119 {a0 a1 a2 a3 a4 : Value} (hv : am_rf a0 = true) (h : am_R E d mX10_holds k n 120 [a0, a1, a2, a3, a4] (a0 :: st) S iv Q) : am_R E d mX10_holds k n 119 [a0, a1, a2, a3, a4] st S iv Q := am_aload_n dX10_holds_119 rfl rfl hv h
theorem sX10_holds_120 {ls : List Value} {a b : Nat} (ha : S.1 a = some (.inl 10)) (hb : S.2.1 a 37 = some b) (h : am_R E d mX10_holds k n 123 ls (.ref b :: st) S iv Q) : am_R E d mX10_holds k n 120 ls (.ref a :: st) S iv Q := am_getR (ci := 10) dX10_holds_120 rfl rfl (by decide) wq_791 uq_10 rfl ha hb h
theorem sX10_holds_123 {a0 a1 a3 a4 : Value} {x : Int32} (h : am_R E d mX10_holds k n 124 [a0, a1, .int x, a3, a4] (.int x :: st) S iv Q) : am_R E d mX10_holds k n 123 [a0, a1, .int x, a3, a4] st S iv Q := am_iload_n dX10_holds_123 rfl rfl h
theorem sX10_holds_124 {ls : List Value} {a m : Nat} {i : Int32} (ha : S.1 a = some (.inr (.int, m))) (hi : vp_in i m) (h : am_R E d mX10_holds k n 125 ls (.int (iv a i.toNatClampNeg) :: st) S iv Q) : am_R E d mX10_holds k n 124 ls (.int i :: .ref a :: st) S iv Q := am_iaload dX10_holds_124 ha hi h
theorem sX10_holds_125 {ls : List Value} {x1 x2 x3 : Value} (hst : (st.map fun v => v.category).sum ≤ 8) (hM : am_M E d mX10_reckon 0 0 [x1, x2, x3] S iv (am_K3 E (d + 1) mX10_holds k n 125 ls st Q)) : am_R E (d + 1) mX10_holds k n 125 ls (x3 :: x2 :: x1 :: st) S iv Q := am_cS (M' := mX10_reckon) (as := [x1, x2, x3]) dX10_holds_125 rfl wq_979 wq_980 wq_808 wq_977 hy_X10_reckon (by decide) hst (by omega) (by omega) hM
theorem sX10_holds_125_k {ls : List Value} {x1 x2 x3 : Value} {k' n' : Nat} (hst : (st.map fun v => v.category).sum ≤ 8) (hM : am_M E d mX10_reckon k' n' [x1, x2, x3] S iv (am_K3 E (d + 1) mX10_holds k n 125 ls st Q)) : am_R E (d + 1) mX10_holds (k' + k) (n' + n) 125 ls (x3 :: x2 :: x1 :: st) S iv Q := am_cS (M' := mX10_reckon) (as := [x1, x2, x3]) dX10_holds_125 rfl wq_979 wq_980 wq_808 wq_977 hy_X10_reckon (by decide) hst (by omega) (by omega) hM
theorem sX10_holds_128 {ls : List Value} {a m : Nat} {i x : Int32} (ha : S.1 a = some (.inr (.int, m))) (hi : vp_in i m) (h : am_R E d mX10_holds k n 129 ls st S (am_w iv a i.toNatClampNeg x) Q) : am_R E d mX10_holds k n 128 ls (.int x :: .int i :: .ref a :: st) S iv Q := am_iastore dX10_holds_128 ha hi h
theorem sX10_holds_129 {a0 a1 a2 a4 : Value} {x : Int32} (h : am_R E d mX10_holds k n 132 [a0, a1, a2, .int (x + 1), a4] st S iv Q) : am_R E d mX10_holds k n 129 [a0, a1, a2, .int x, a4] st S iv Q := am_iinc dX10_holds_129 rfl rfl (by decide) h
theorem sX10_holds_132 {ls : List Value} (h : am_R E d mX10_holds k n 9 ls st S iv Q) : am_R E d mX10_holds k n 132 ls st S iv Q := am_goto dX10_holds_132 (by decide) h
theorem sX10_holds_135 {a0 a1 a2 a3 a4 : Value} (hv : am_rf a0 = true) (h : am_R E d mX10_holds k n 136 [a0, a1, a2, a3, a4] (a0 :: st) S iv Q) : am_R E d mX10_holds k n 135 [a0, a1, a2, a3, a4] st S iv Q := am_aload_n dX10_holds_135 rfl rfl hv h
theorem sX10_holds_136 {ls : List Value} {a b : Nat} (ha : S.1 a = some (.inl 10)) (hb : S.2.1 a 37 = some b) (h : am_R E d mX10_holds k n 139 ls (.ref b :: st) S iv Q) : am_R E d mX10_holds k n 136 ls (.ref a :: st) S iv Q := am_getR (ci := 10) dX10_holds_136 rfl rfl (by decide) wq_791 uq_10 rfl ha hb h
theorem sX10_holds_139 {a0 a1 a2 a3 a4 : Value} (h : am_R E d mX10_holds k n 140 [a0, a1, a2, a3, a4] (.int 0 :: st) S iv Q) : am_R E d mX10_holds k n 139 [a0, a1, a2, a3, a4] st S iv Q := am_iconst dX10_holds_139 (by decide) h
theorem sX10_holds_140 {ls : List Value} {a m : Nat} {i : Int32} (ha : S.1 a = some (.inr (.int, m))) (hi : vp_in i m) (h : am_R E d mX10_holds k n 141 ls (.int (iv a i.toNatClampNeg) :: st) S iv Q) : am_R E d mX10_holds k n 140 ls (.int i :: .ref a :: st) S iv Q := am_iaload dX10_holds_140 ha hi h
theorem sX10_holds_141 {ls : List Value} {x : Int32} (kt : x = 0 → am_R E d mX10_holds k n 148 ls st S iv Q) (kf : ¬ x = 0 → am_R E d mX10_holds k n 144 ls st S iv Q) : am_R E d mX10_holds k n 141 ls (.int x :: st) S iv Q := am_if_eq dX10_holds_141 (by decide) kt kf
theorem sX10_holds_144 {a0 a1 a2 a3 a4 : Value} (h : am_R E d mX10_holds k n 145 [a0, a1, a2, a3, a4] (.int 1 :: st) S iv Q) : am_R E d mX10_holds k n 144 [a0, a1, a2, a3, a4] st S iv Q := am_iconst dX10_holds_144 (by decide) h
theorem sX10_holds_145 {ls : List Value} (h : am_R E d mX10_holds k n 149 ls st S iv Q) : am_R E d mX10_holds k n 145 ls st S iv Q := am_goto dX10_holds_145 (by decide) h
theorem sX10_holds_148 {a0 a1 a2 a3 a4 : Value} (h : am_R E d mX10_holds k n 149 [a0, a1, a2, a3, a4] (.int 0 :: st) S iv Q) : am_R E d mX10_holds k n 148 [a0, a1, a2, a3, a4] st S iv Q := am_iconst dX10_holds_148 (by decide) h
theorem sX10_holds_149 {ls : List Value} {x : Int32} (hn : narrow .boolean (.int x) = .int x) (h : Q (.inl (some (.int x))) S iv) : am_R E d mX10_holds k n 149 ls [.int x] S iv Q := am_zreturn dX10_holds_149 rfl hn h
theorem dX10_ask_0 : decode cX10_ask 0 = .ok (.aload_n 0, 1) := by decide +kernel
theorem dX10_ask_1 : decode cX10_ask 1 = .ok (.getfield 99, 3) := by decide +kernel
theorem dX10_ask_4 : decode cX10_ask 4 = .ok (.iconst 0, 1) := by decide +kernel
theorem dX10_ask_5 : decode cX10_ask 5 = .ok (.aload_n 0, 1) := by decide +kernel
theorem dX10_ask_6 : decode cX10_ask 6 = .ok (.getfield 55, 3) := by decide +kernel
theorem dX10_ask_9 : decode cX10_ask 9 = .ok (.iload_n 1, 1) := by decide +kernel
theorem dX10_ask_10 : decode cX10_ask 10 = .ok (.iaload, 1) := by decide +kernel
theorem dX10_ask_11 : decode cX10_ask 11 = .ok (.iastore, 1) := by decide +kernel
theorem dX10_ask_12 : decode cX10_ask 12 = .ok (.aload_n 0, 1) := by decide +kernel
theorem dX10_ask_13 : decode cX10_ask 13 = .ok (.getfield 99, 3) := by decide +kernel
theorem dX10_ask_16 : decode cX10_ask 16 = .ok (.iconst 1, 1) := by decide +kernel
theorem dX10_ask_17 : decode cX10_ask 17 = .ok (.aload_n 0, 1) := by decide +kernel
theorem dX10_ask_18 : decode cX10_ask 18 = .ok (.getfield 57, 3) := by decide +kernel
theorem dX10_ask_21 : decode cX10_ask 21 = .ok (.iload_n 1, 1) := by decide +kernel
theorem dX10_ask_22 : decode cX10_ask 22 = .ok (.iaload, 1) := by decide +kernel
theorem dX10_ask_23 : decode cX10_ask 23 = .ok (.iastore, 1) := by decide +kernel
theorem dX10_ask_24 : decode cX10_ask 24 = .ok (.aload_n 0, 1) := by decide +kernel
theorem dX10_ask_25 : decode cX10_ask 25 = .ok (.getfield 99, 3) := by decide +kernel
theorem dX10_ask_28 : decode cX10_ask 28 = .ok (.iconst 2, 1) := by decide +kernel
theorem dX10_ask_29 : decode cX10_ask 29 = .ok (.aload_n 0, 1) := by decide +kernel
theorem dX10_ask_30 : decode cX10_ask 30 = .ok (.getfield 59, 3) := by decide +kernel
theorem dX10_ask_33 : decode cX10_ask 33 = .ok (.iload_n 1, 1) := by decide +kernel
theorem dX10_ask_34 : decode cX10_ask 34 = .ok (.iaload, 1) := by decide +kernel
theorem dX10_ask_35 : decode cX10_ask 35 = .ok (.iastore, 1) := by decide +kernel
theorem dX10_ask_36 : decode cX10_ask 36 = .ok (.aload_n 0, 1) := by decide +kernel
theorem dX10_ask_37 : decode cX10_ask 37 = .ok (.getfield 99, 3) := by decide +kernel
theorem dX10_ask_40 : decode cX10_ask 40 = .ok (.iconst 3, 1) := by decide +kernel
theorem dX10_ask_41 : decode cX10_ask 41 = .ok (.aload_n 0, 1) := by decide +kernel
theorem dX10_ask_42 : decode cX10_ask 42 = .ok (.getfield 53, 3) := by decide +kernel
theorem dX10_ask_45 : decode cX10_ask 45 = .ok (.iload_n 1, 1) := by decide +kernel
theorem dX10_ask_46 : decode cX10_ask 46 = .ok (.iaload, 1) := by decide +kernel
theorem dX10_ask_47 : decode cX10_ask 47 = .ok (.iastore, 1) := by decide +kernel
theorem dX10_ask_48 : decode cX10_ask 48 = .ok (.aload_n 0, 1) := by decide +kernel
theorem dX10_ask_49 : decode cX10_ask 49 = .ok (.getfield 99, 3) := by decide +kernel
theorem dX10_ask_52 : decode cX10_ask 52 = .ok (.iconst 4, 1) := by decide +kernel
theorem dX10_ask_53 : decode cX10_ask 53 = .ok (.iload_n 2, 1) := by decide +kernel
theorem dX10_ask_54 : decode cX10_ask 54 = .ok (.invokestatic 325, 3) := by decide +kernel
theorem dX10_ask_57 : decode cX10_ask 57 = .ok (.iastore, 1) := by decide +kernel
theorem dX10_ask_58 : decode cX10_ask 58 = .ok (.aload_n 0, 1) := by decide +kernel
theorem dX10_ask_59 : decode cX10_ask 59 = .ok (.getfield 99, 3) := by decide +kernel
theorem dX10_ask_62 : decode cX10_ask 62 = .ok (.iconst 5, 1) := by decide +kernel
theorem dX10_ask_63 : decode cX10_ask 63 = .ok (.iconst 0, 1) := by decide +kernel
theorem dX10_ask_64 : decode cX10_ask 64 = .ok (.iastore, 1) := by decide +kernel
theorem dX10_ask_65 : decode cX10_ask 65 = .ok (.aload_n 0, 1) := by decide +kernel
theorem dX10_ask_66 : decode cX10_ask 66 = .ok (.getfield 99, 3) := by decide +kernel
theorem dX10_ask_69 : decode cX10_ask 69 = .ok (.bipush 6, 2) := by decide +kernel
theorem dX10_ask_71 : decode cX10_ask 71 = .ok (.iconst 0, 1) := by decide +kernel
theorem dX10_ask_72 : decode cX10_ask 72 = .ok (.iastore, 1) := by decide +kernel
theorem dX10_ask_73 : decode cX10_ask 73 = .ok (.iconst 0, 1) := by decide +kernel
theorem dX10_ask_74 : decode cX10_ask 74 = .ok (.istore_n 3, 1) := by decide +kernel
theorem dX10_ask_75 : decode cX10_ask 75 = .ok (.iload_n 3, 1) := by decide +kernel
theorem dX10_ask_76 : decode cX10_ask 76 = .ok (.aload_n 0, 1) := by decide +kernel
theorem dX10_ask_77 : decode cX10_ask 77 = .ok (.getfield 49, 3) := by decide +kernel
theorem dX10_ask_80 : decode cX10_ask 80 = .ok (.iconst 2, 1) := by decide +kernel
theorem dX10_ask_81 : decode cX10_ask 81 = .ok (.iaload, 1) := by decide +kernel
theorem dX10_ask_82 : decode cX10_ask 82 = .ok (.if_icmp .ge 88, 3) := by decide +kernel
theorem dX10_ask_85 : decode cX10_ask 85 = .ok (.iload_n 2, 1) := by decide +kernel
theorem dX10_ask_86 : decode cX10_ask 86 = .ok (.iload_n 3, 1) := by decide +kernel
theorem dX10_ask_87 : decode cX10_ask 87 = .ok (.invokestatic 328, 3) := by decide +kernel
theorem dX10_ask_90 : decode cX10_ask 90 = .ok (.ifCond .ne 6, 3) := by decide +kernel
theorem dX10_ask_93 : decode cX10_ask 93 = .ok (.goto 71, 3) := by decide +kernel
theorem dX10_ask_96 : decode cX10_ask 96 = .ok (.aload_n 0, 1) := by decide +kernel
theorem dX10_ask_97 : decode cX10_ask 97 = .ok (.getfield 99, 3) := by decide +kernel
theorem dX10_ask_100 : decode cX10_ask 100 = .ok (.iconst 5, 1) := by decide +kernel
theorem dX10_ask_101 : decode cX10_ask 101 = .ok (.dup2, 1) := by decide +kernel
theorem dX10_ask_102 : decode cX10_ask 102 = .ok (.iaload, 1) := by decide +kernel
theorem dX10_ask_103 : decode cX10_ask 103 = .ok (.aload_n 0, 1) := by decide +kernel
theorem dX10_ask_104 : decode cX10_ask 104 = .ok (.getfield 53, 3) := by decide +kernel
theorem dX10_ask_107 : decode cX10_ask 107 = .ok (.iload_n 3, 1) := by decide +kernel
theorem dX10_ask_108 : decode cX10_ask 108 = .ok (.iaload, 1) := by decide +kernel
theorem dX10_ask_109 : decode cX10_ask 109 = .ok (.iconst 1, 1) := by decide +kernel
theorem dX10_ask_110 : decode cX10_ask 110 = .ok (.if_icmp .ne 7, 3) := by decide +kernel
theorem dX10_ask_113 : decode cX10_ask 113 = .ok (.iconst 1, 1) := by decide +kernel
theorem dX10_ask_114 : decode cX10_ask 114 = .ok (.goto 4, 3) := by decide +kernel
theorem dX10_ask_117 : decode cX10_ask 117 = .ok (.iconst 0, 1) := by decide +kernel
theorem dX10_ask_118 : decode cX10_ask 118 = .ok (.iadd, 1) := by decide +kernel
theorem dX10_ask_119 : decode cX10_ask 119 = .ok (.iastore, 1) := by decide +kernel
theorem dX10_ask_120 : decode cX10_ask 120 = .ok (.aload_n 0, 1) := by decide +kernel
theorem dX10_ask_121 : decode cX10_ask 121 = .ok (.getfield 99, 3) := by decide +kernel
theorem dX10_ask_124 : decode cX10_ask 124 = .ok (.bipush 6, 2) := by decide +kernel
theorem dX10_ask_126 : decode cX10_ask 126 = .ok (.dup2, 1) := by decide +kernel
theorem dX10_ask_127 : decode cX10_ask 127 = .ok (.iaload, 1) := by decide +kernel
theorem dX10_ask_128 : decode cX10_ask 128 = .ok (.iload_n 3, 1) := by decide +kernel
theorem dX10_ask_129 : decode cX10_ask 129 = .ok (.iload_n 1, 1) := by decide +kernel
theorem dX10_ask_130 : decode cX10_ask 130 = .ok (.if_icmp .eq 31, 3) := by decide +kernel
theorem dX10_ask_133 : decode cX10_ask 133 = .ok (.aload_n 0, 1) := by decide +kernel
theorem dX10_ask_134 : decode cX10_ask 134 = .ok (.iload_n 3, 1) := by decide +kernel
theorem dX10_ask_135 : decode cX10_ask 135 = .ok (.iload_n 1, 1) := by decide +kernel
theorem dX10_ask_136 : decode cX10_ask 136 = .ok (.invokevirtual 332, 3) := by decide +kernel
theorem dX10_ask_139 : decode cX10_ask 139 = .ok (.ifCond .eq 22, 3) := by decide +kernel
theorem dX10_ask_142 : decode cX10_ask 142 = .ok (.aload_n 0, 1) := by decide +kernel
theorem dX10_ask_143 : decode cX10_ask 143 = .ok (.getfield 57, 3) := by decide +kernel
theorem dX10_ask_146 : decode cX10_ask 146 = .ok (.iload_n 3, 1) := by decide +kernel
theorem dX10_ask_147 : decode cX10_ask 147 = .ok (.iaload, 1) := by decide +kernel
theorem dX10_ask_148 : decode cX10_ask 148 = .ok (.aload_n 0, 1) := by decide +kernel
theorem dX10_ask_149 : decode cX10_ask 149 = .ok (.getfield 57, 3) := by decide +kernel
theorem dX10_ask_152 : decode cX10_ask 152 = .ok (.iload_n 1, 1) := by decide +kernel
theorem dX10_ask_153 : decode cX10_ask 153 = .ok (.iaload, 1) := by decide +kernel
theorem dX10_ask_154 : decode cX10_ask 154 = .ok (.if_icmp .le 7, 3) := by decide +kernel
theorem dX10_ask_157 : decode cX10_ask 157 = .ok (.iconst 1, 1) := by decide +kernel
theorem dX10_ask_158 : decode cX10_ask 158 = .ok (.goto 4, 3) := by decide +kernel
theorem dX10_ask_161 : decode cX10_ask 161 = .ok (.iconst 0, 1) := by decide +kernel
theorem dX10_ask_162 : decode cX10_ask 162 = .ok (.iadd, 1) := by decide +kernel
theorem dX10_ask_163 : decode cX10_ask 163 = .ok (.iastore, 1) := by decide +kernel
theorem dX10_ask_164 : decode cX10_ask 164 = .ok (.iinc 3 1, 3) := by decide +kernel
theorem dX10_ask_167 : decode cX10_ask 167 = .ok (.goto (-92), 3) := by decide +kernel
theorem dX10_ask_170 : decode cX10_ask 170 = .ok (.return_, 1) := by decide +kernel
theorem sX10_ask_0 {a0 a1 a2 a3 : Value} (hv : am_rf a0 = true) (h : am_R E d mX10_ask k n 1 [a0, a1, a2, a3] (a0 :: st) S iv Q) : am_R E d mX10_ask k n 0 [a0, a1, a2, a3] st S iv Q := am_aload_n dX10_ask_0 rfl rfl hv h
theorem sX10_ask_1 {ls : List Value} {a b : Nat} (ha : S.1 a = some (.inl 10)) (hb : S.2.1 a 36 = some b) (h : am_R E d mX10_ask k n 4 ls (.ref b :: st) S iv Q) : am_R E d mX10_ask k n 1 ls (.ref a :: st) S iv Q := am_getR (ci := 10) dX10_ask_1 rfl rfl (by decide) wq_790 uq_10 rfl ha hb h
theorem sX10_ask_4 {a0 a1 a2 a3 : Value} (h : am_R E d mX10_ask k n 5 [a0, a1, a2, a3] (.int 0 :: st) S iv Q) : am_R E d mX10_ask k n 4 [a0, a1, a2, a3] st S iv Q := am_iconst dX10_ask_4 (by decide) h
theorem sX10_ask_5 {a0 a1 a2 a3 : Value} (hv : am_rf a0 = true) (h : am_R E d mX10_ask k n 6 [a0, a1, a2, a3] (a0 :: st) S iv Q) : am_R E d mX10_ask k n 5 [a0, a1, a2, a3] st S iv Q := am_aload_n dX10_ask_5 rfl rfl hv h
theorem sX10_ask_6 {ls : List Value} {a b : Nat} (ha : S.1 a = some (.inl 10)) (hb : S.2.1 a 6 = some b) (h : am_R E d mX10_ask k n 9 ls (.ref b :: st) S iv Q) : am_R E d mX10_ask k n 6 ls (.ref a :: st) S iv Q := am_getR (ci := 10) dX10_ask_6 rfl rfl (by decide) wq_774 uq_10 rfl ha hb h
theorem sX10_ask_9 {a0 a2 a3 : Value} {x : Int32} (h : am_R E d mX10_ask k n 10 [a0, .int x, a2, a3] (.int x :: st) S iv Q) : am_R E d mX10_ask k n 9 [a0, .int x, a2, a3] st S iv Q := am_iload_n dX10_ask_9 rfl rfl h
theorem sX10_ask_10 {ls : List Value} {a m : Nat} {i : Int32} (ha : S.1 a = some (.inr (.int, m))) (hi : vp_in i m) (h : am_R E d mX10_ask k n 11 ls (.int (iv a i.toNatClampNeg) :: st) S iv Q) : am_R E d mX10_ask k n 10 ls (.int i :: .ref a :: st) S iv Q := am_iaload dX10_ask_10 ha hi h
theorem sX10_ask_11 {ls : List Value} {a m : Nat} {i x : Int32} (ha : S.1 a = some (.inr (.int, m))) (hi : vp_in i m) (h : am_R E d mX10_ask k n 12 ls st S (am_w iv a i.toNatClampNeg x) Q) : am_R E d mX10_ask k n 11 ls (.int x :: .int i :: .ref a :: st) S iv Q := am_iastore dX10_ask_11 ha hi h
theorem sX10_ask_12 {a0 a1 a2 a3 : Value} (hv : am_rf a0 = true) (h : am_R E d mX10_ask k n 13 [a0, a1, a2, a3] (a0 :: st) S iv Q) : am_R E d mX10_ask k n 12 [a0, a1, a2, a3] st S iv Q := am_aload_n dX10_ask_12 rfl rfl hv h
theorem sX10_ask_13 {ls : List Value} {a b : Nat} (ha : S.1 a = some (.inl 10)) (hb : S.2.1 a 36 = some b) (h : am_R E d mX10_ask k n 16 ls (.ref b :: st) S iv Q) : am_R E d mX10_ask k n 13 ls (.ref a :: st) S iv Q := am_getR (ci := 10) dX10_ask_13 rfl rfl (by decide) wq_790 uq_10 rfl ha hb h
theorem sX10_ask_16 {a0 a1 a2 a3 : Value} (h : am_R E d mX10_ask k n 17 [a0, a1, a2, a3] (.int 1 :: st) S iv Q) : am_R E d mX10_ask k n 16 [a0, a1, a2, a3] st S iv Q := am_iconst dX10_ask_16 (by decide) h
theorem sX10_ask_17 {a0 a1 a2 a3 : Value} (hv : am_rf a0 = true) (h : am_R E d mX10_ask k n 18 [a0, a1, a2, a3] (a0 :: st) S iv Q) : am_R E d mX10_ask k n 17 [a0, a1, a2, a3] st S iv Q := am_aload_n dX10_ask_17 rfl rfl hv h
theorem sX10_ask_18 {ls : List Value} {a b : Nat} (ha : S.1 a = some (.inl 10)) (hb : S.2.1 a 7 = some b) (h : am_R E d mX10_ask k n 21 ls (.ref b :: st) S iv Q) : am_R E d mX10_ask k n 18 ls (.ref a :: st) S iv Q := am_getR (ci := 10) dX10_ask_18 rfl rfl (by decide) wq_775 uq_10 rfl ha hb h
theorem sX10_ask_21 {a0 a2 a3 : Value} {x : Int32} (h : am_R E d mX10_ask k n 22 [a0, .int x, a2, a3] (.int x :: st) S iv Q) : am_R E d mX10_ask k n 21 [a0, .int x, a2, a3] st S iv Q := am_iload_n dX10_ask_21 rfl rfl h
theorem sX10_ask_22 {ls : List Value} {a m : Nat} {i : Int32} (ha : S.1 a = some (.inr (.int, m))) (hi : vp_in i m) (h : am_R E d mX10_ask k n 23 ls (.int (iv a i.toNatClampNeg) :: st) S iv Q) : am_R E d mX10_ask k n 22 ls (.int i :: .ref a :: st) S iv Q := am_iaload dX10_ask_22 ha hi h
theorem sX10_ask_23 {ls : List Value} {a m : Nat} {i x : Int32} (ha : S.1 a = some (.inr (.int, m))) (hi : vp_in i m) (h : am_R E d mX10_ask k n 24 ls st S (am_w iv a i.toNatClampNeg x) Q) : am_R E d mX10_ask k n 23 ls (.int x :: .int i :: .ref a :: st) S iv Q := am_iastore dX10_ask_23 ha hi h
theorem sX10_ask_24 {a0 a1 a2 a3 : Value} (hv : am_rf a0 = true) (h : am_R E d mX10_ask k n 25 [a0, a1, a2, a3] (a0 :: st) S iv Q) : am_R E d mX10_ask k n 24 [a0, a1, a2, a3] st S iv Q := am_aload_n dX10_ask_24 rfl rfl hv h
theorem sX10_ask_25 {ls : List Value} {a b : Nat} (ha : S.1 a = some (.inl 10)) (hb : S.2.1 a 36 = some b) (h : am_R E d mX10_ask k n 28 ls (.ref b :: st) S iv Q) : am_R E d mX10_ask k n 25 ls (.ref a :: st) S iv Q := am_getR (ci := 10) dX10_ask_25 rfl rfl (by decide) wq_790 uq_10 rfl ha hb h
theorem sX10_ask_28 {a0 a1 a2 a3 : Value} (h : am_R E d mX10_ask k n 29 [a0, a1, a2, a3] (.int 2 :: st) S iv Q) : am_R E d mX10_ask k n 28 [a0, a1, a2, a3] st S iv Q := am_iconst dX10_ask_28 (by decide) h
theorem sX10_ask_29 {a0 a1 a2 a3 : Value} (hv : am_rf a0 = true) (h : am_R E d mX10_ask k n 30 [a0, a1, a2, a3] (a0 :: st) S iv Q) : am_R E d mX10_ask k n 29 [a0, a1, a2, a3] st S iv Q := am_aload_n dX10_ask_29 rfl rfl hv h
theorem sX10_ask_30 {ls : List Value} {a b : Nat} (ha : S.1 a = some (.inl 10)) (hb : S.2.1 a 8 = some b) (h : am_R E d mX10_ask k n 33 ls (.ref b :: st) S iv Q) : am_R E d mX10_ask k n 30 ls (.ref a :: st) S iv Q := am_getR (ci := 10) dX10_ask_30 rfl rfl (by decide) wq_776 uq_10 rfl ha hb h
theorem sX10_ask_33 {a0 a2 a3 : Value} {x : Int32} (h : am_R E d mX10_ask k n 34 [a0, .int x, a2, a3] (.int x :: st) S iv Q) : am_R E d mX10_ask k n 33 [a0, .int x, a2, a3] st S iv Q := am_iload_n dX10_ask_33 rfl rfl h
theorem sX10_ask_34 {ls : List Value} {a m : Nat} {i : Int32} (ha : S.1 a = some (.inr (.int, m))) (hi : vp_in i m) (h : am_R E d mX10_ask k n 35 ls (.int (iv a i.toNatClampNeg) :: st) S iv Q) : am_R E d mX10_ask k n 34 ls (.int i :: .ref a :: st) S iv Q := am_iaload dX10_ask_34 ha hi h
theorem sX10_ask_35 {ls : List Value} {a m : Nat} {i x : Int32} (ha : S.1 a = some (.inr (.int, m))) (hi : vp_in i m) (h : am_R E d mX10_ask k n 36 ls st S (am_w iv a i.toNatClampNeg x) Q) : am_R E d mX10_ask k n 35 ls (.int x :: .int i :: .ref a :: st) S iv Q := am_iastore dX10_ask_35 ha hi h
theorem sX10_ask_36 {a0 a1 a2 a3 : Value} (hv : am_rf a0 = true) (h : am_R E d mX10_ask k n 37 [a0, a1, a2, a3] (a0 :: st) S iv Q) : am_R E d mX10_ask k n 36 [a0, a1, a2, a3] st S iv Q := am_aload_n dX10_ask_36 rfl rfl hv h
theorem sX10_ask_37 {ls : List Value} {a b : Nat} (ha : S.1 a = some (.inl 10)) (hb : S.2.1 a 36 = some b) (h : am_R E d mX10_ask k n 40 ls (.ref b :: st) S iv Q) : am_R E d mX10_ask k n 37 ls (.ref a :: st) S iv Q := am_getR (ci := 10) dX10_ask_37 rfl rfl (by decide) wq_790 uq_10 rfl ha hb h
theorem sX10_ask_40 {a0 a1 a2 a3 : Value} (h : am_R E d mX10_ask k n 41 [a0, a1, a2, a3] (.int 3 :: st) S iv Q) : am_R E d mX10_ask k n 40 [a0, a1, a2, a3] st S iv Q := am_iconst dX10_ask_40 (by decide) h
theorem sX10_ask_41 {a0 a1 a2 a3 : Value} (hv : am_rf a0 = true) (h : am_R E d mX10_ask k n 42 [a0, a1, a2, a3] (a0 :: st) S iv Q) : am_R E d mX10_ask k n 41 [a0, a1, a2, a3] st S iv Q := am_aload_n dX10_ask_41 rfl rfl hv h
theorem sX10_ask_42 {ls : List Value} {a b : Nat} (ha : S.1 a = some (.inl 10)) (hb : S.2.1 a 5 = some b) (h : am_R E d mX10_ask k n 45 ls (.ref b :: st) S iv Q) : am_R E d mX10_ask k n 42 ls (.ref a :: st) S iv Q := am_getR (ci := 10) dX10_ask_42 rfl rfl (by decide) wq_773 uq_10 rfl ha hb h
theorem sX10_ask_45 {a0 a2 a3 : Value} {x : Int32} (h : am_R E d mX10_ask k n 46 [a0, .int x, a2, a3] (.int x :: st) S iv Q) : am_R E d mX10_ask k n 45 [a0, .int x, a2, a3] st S iv Q := am_iload_n dX10_ask_45 rfl rfl h
theorem sX10_ask_46 {ls : List Value} {a m : Nat} {i : Int32} (ha : S.1 a = some (.inr (.int, m))) (hi : vp_in i m) (h : am_R E d mX10_ask k n 47 ls (.int (iv a i.toNatClampNeg) :: st) S iv Q) : am_R E d mX10_ask k n 46 ls (.int i :: .ref a :: st) S iv Q := am_iaload dX10_ask_46 ha hi h
theorem sX10_ask_47 {ls : List Value} {a m : Nat} {i x : Int32} (ha : S.1 a = some (.inr (.int, m))) (hi : vp_in i m) (h : am_R E d mX10_ask k n 48 ls st S (am_w iv a i.toNatClampNeg x) Q) : am_R E d mX10_ask k n 47 ls (.int x :: .int i :: .ref a :: st) S iv Q := am_iastore dX10_ask_47 ha hi h
theorem sX10_ask_48 {a0 a1 a2 a3 : Value} (hv : am_rf a0 = true) (h : am_R E d mX10_ask k n 49 [a0, a1, a2, a3] (a0 :: st) S iv Q) : am_R E d mX10_ask k n 48 [a0, a1, a2, a3] st S iv Q := am_aload_n dX10_ask_48 rfl rfl hv h
theorem sX10_ask_49 {ls : List Value} {a b : Nat} (ha : S.1 a = some (.inl 10)) (hb : S.2.1 a 36 = some b) (h : am_R E d mX10_ask k n 52 ls (.ref b :: st) S iv Q) : am_R E d mX10_ask k n 49 ls (.ref a :: st) S iv Q := am_getR (ci := 10) dX10_ask_49 rfl rfl (by decide) wq_790 uq_10 rfl ha hb h
theorem sX10_ask_52 {a0 a1 a2 a3 : Value} (h : am_R E d mX10_ask k n 53 [a0, a1, a2, a3] (.int 4 :: st) S iv Q) : am_R E d mX10_ask k n 52 [a0, a1, a2, a3] st S iv Q := am_iconst dX10_ask_52 (by decide) h
theorem sX10_ask_53 {a0 a1 a3 : Value} {x : Int32} (h : am_R E d mX10_ask k n 54 [a0, a1, .int x, a3] (.int x :: st) S iv Q) : am_R E d mX10_ask k n 53 [a0, a1, .int x, a3] st S iv Q := am_iload_n dX10_ask_53 rfl rfl h
theorem sX10_ask_54 {ls : List Value} {x1 : Value} (hst : (st.map fun v => v.category).sum ≤ 8) (hM : am_M E d mX10_bitsOf 0 0 [x1] S iv (am_K3 E (d + 1) mX10_ask k n 54 ls st Q)) : am_R E (d + 1) mX10_ask k n 54 ls (x1 :: st) S iv Q := am_cS (M' := mX10_bitsOf) (as := [x1]) dX10_ask_54 rfl wq_983 wq_984 wq_808 wq_981 hy_X10_bitsOf (by decide) hst (by omega) (by omega) hM
theorem sX10_ask_54_k {ls : List Value} {x1 : Value} {k' n' : Nat} (hst : (st.map fun v => v.category).sum ≤ 8) (hM : am_M E d mX10_bitsOf k' n' [x1] S iv (am_K3 E (d + 1) mX10_ask k n 54 ls st Q)) : am_R E (d + 1) mX10_ask (k' + k) (n' + n) 54 ls (x1 :: st) S iv Q := am_cS (M' := mX10_bitsOf) (as := [x1]) dX10_ask_54 rfl wq_983 wq_984 wq_808 wq_981 hy_X10_bitsOf (by decide) hst (by omega) (by omega) hM
theorem sX10_ask_57 {ls : List Value} {a m : Nat} {i x : Int32} (ha : S.1 a = some (.inr (.int, m))) (hi : vp_in i m) (h : am_R E d mX10_ask k n 58 ls st S (am_w iv a i.toNatClampNeg x) Q) : am_R E d mX10_ask k n 57 ls (.int x :: .int i :: .ref a :: st) S iv Q := am_iastore dX10_ask_57 ha hi h
theorem sX10_ask_58 {a0 a1 a2 a3 : Value} (hv : am_rf a0 = true) (h : am_R E d mX10_ask k n 59 [a0, a1, a2, a3] (a0 :: st) S iv Q) : am_R E d mX10_ask k n 58 [a0, a1, a2, a3] st S iv Q := am_aload_n dX10_ask_58 rfl rfl hv h
theorem sX10_ask_59 {ls : List Value} {a b : Nat} (ha : S.1 a = some (.inl 10)) (hb : S.2.1 a 36 = some b) (h : am_R E d mX10_ask k n 62 ls (.ref b :: st) S iv Q) : am_R E d mX10_ask k n 59 ls (.ref a :: st) S iv Q := am_getR (ci := 10) dX10_ask_59 rfl rfl (by decide) wq_790 uq_10 rfl ha hb h
theorem sX10_ask_62 {a0 a1 a2 a3 : Value} (h : am_R E d mX10_ask k n 63 [a0, a1, a2, a3] (.int 5 :: st) S iv Q) : am_R E d mX10_ask k n 62 [a0, a1, a2, a3] st S iv Q := am_iconst dX10_ask_62 (by decide) h
theorem sX10_ask_63 {a0 a1 a2 a3 : Value} (h : am_R E d mX10_ask k n 64 [a0, a1, a2, a3] (.int 0 :: st) S iv Q) : am_R E d mX10_ask k n 63 [a0, a1, a2, a3] st S iv Q := am_iconst dX10_ask_63 (by decide) h
theorem sX10_ask_64 {ls : List Value} {a m : Nat} {i x : Int32} (ha : S.1 a = some (.inr (.int, m))) (hi : vp_in i m) (h : am_R E d mX10_ask k n 65 ls st S (am_w iv a i.toNatClampNeg x) Q) : am_R E d mX10_ask k n 64 ls (.int x :: .int i :: .ref a :: st) S iv Q := am_iastore dX10_ask_64 ha hi h
theorem sX10_ask_65 {a0 a1 a2 a3 : Value} (hv : am_rf a0 = true) (h : am_R E d mX10_ask k n 66 [a0, a1, a2, a3] (a0 :: st) S iv Q) : am_R E d mX10_ask k n 65 [a0, a1, a2, a3] st S iv Q := am_aload_n dX10_ask_65 rfl rfl hv h
theorem sX10_ask_66 {ls : List Value} {a b : Nat} (ha : S.1 a = some (.inl 10)) (hb : S.2.1 a 36 = some b) (h : am_R E d mX10_ask k n 69 ls (.ref b :: st) S iv Q) : am_R E d mX10_ask k n 66 ls (.ref a :: st) S iv Q := am_getR (ci := 10) dX10_ask_66 rfl rfl (by decide) wq_790 uq_10 rfl ha hb h
theorem sX10_ask_69 {a0 a1 a2 a3 : Value} (h : am_R E d mX10_ask k n 71 [a0, a1, a2, a3] (.int 6 :: st) S iv Q) : am_R E d mX10_ask k n 69 [a0, a1, a2, a3] st S iv Q := am_bipush dX10_ask_69 (by decide) h
theorem sX10_ask_71 {a0 a1 a2 a3 : Value} (h : am_R E d mX10_ask k n 72 [a0, a1, a2, a3] (.int 0 :: st) S iv Q) : am_R E d mX10_ask k n 71 [a0, a1, a2, a3] st S iv Q := am_iconst dX10_ask_71 (by decide) h
theorem sX10_ask_72 {ls : List Value} {a m : Nat} {i x : Int32} (ha : S.1 a = some (.inr (.int, m))) (hi : vp_in i m) (h : am_R E d mX10_ask k n 73 ls st S (am_w iv a i.toNatClampNeg x) Q) : am_R E d mX10_ask k n 72 ls (.int x :: .int i :: .ref a :: st) S iv Q := am_iastore dX10_ask_72 ha hi h
theorem sX10_ask_73 {a0 a1 a2 a3 : Value} (h : am_R E d mX10_ask k n 74 [a0, a1, a2, a3] (.int 0 :: st) S iv Q) : am_R E d mX10_ask k n 73 [a0, a1, a2, a3] st S iv Q := am_iconst dX10_ask_73 (by decide) h
theorem sX10_ask_74 {a0 a1 a2 a3 : Value} {x : Int32} (h : am_R E d mX10_ask k n 75 [a0, a1, a2, .int x] st S iv Q) : am_R E d mX10_ask k n 74 [a0, a1, a2, a3] (.int x :: st) S iv Q := am_istore_n dX10_ask_74 rfl (by decide) h
theorem sX10_ask_75 {a0 a1 a2 : Value} {x : Int32} (h : am_R E d mX10_ask k n 76 [a0, a1, a2, .int x] (.int x :: st) S iv Q) : am_R E d mX10_ask k n 75 [a0, a1, a2, .int x] st S iv Q := am_iload_n dX10_ask_75 rfl rfl h
theorem sX10_ask_76 {a0 a1 a2 a3 : Value} (hv : am_rf a0 = true) (h : am_R E d mX10_ask k n 77 [a0, a1, a2, a3] (a0 :: st) S iv Q) : am_R E d mX10_ask k n 76 [a0, a1, a2, a3] st S iv Q := am_aload_n dX10_ask_76 rfl rfl hv h
theorem sX10_ask_77 {ls : List Value} {a b : Nat} (ha : S.1 a = some (.inl 10)) (hb : S.2.1 a 4 = some b) (h : am_R E d mX10_ask k n 80 ls (.ref b :: st) S iv Q) : am_R E d mX10_ask k n 77 ls (.ref a :: st) S iv Q := am_getR (ci := 10) dX10_ask_77 rfl rfl (by decide) wq_772 uq_10 rfl ha hb h
theorem sX10_ask_80 {a0 a1 a2 a3 : Value} (h : am_R E d mX10_ask k n 81 [a0, a1, a2, a3] (.int 2 :: st) S iv Q) : am_R E d mX10_ask k n 80 [a0, a1, a2, a3] st S iv Q := am_iconst dX10_ask_80 (by decide) h
theorem sX10_ask_81 {ls : List Value} {a m : Nat} {i : Int32} (ha : S.1 a = some (.inr (.int, m))) (hi : vp_in i m) (h : am_R E d mX10_ask k n 82 ls (.int (iv a i.toNatClampNeg) :: st) S iv Q) : am_R E d mX10_ask k n 81 ls (.int i :: .ref a :: st) S iv Q := am_iaload dX10_ask_81 ha hi h
theorem sX10_ask_82 {ls : List Value} {x y : Int32} (kt : y ≤ x → am_R E d mX10_ask k n 170 ls st S iv Q) (kf : ¬ y ≤ x → am_R E d mX10_ask k n 85 ls st S iv Q) : am_R E d mX10_ask k n 82 ls (.int y :: .int x :: st) S iv Q := am_icmp_ge dX10_ask_82 (by decide) kt kf
theorem sX10_ask_85 {a0 a1 a3 : Value} {x : Int32} (h : am_R E d mX10_ask k n 86 [a0, a1, .int x, a3] (.int x :: st) S iv Q) : am_R E d mX10_ask k n 85 [a0, a1, .int x, a3] st S iv Q := am_iload_n dX10_ask_85 rfl rfl h
theorem sX10_ask_86 {a0 a1 a2 : Value} {x : Int32} (h : am_R E d mX10_ask k n 87 [a0, a1, a2, .int x] (.int x :: st) S iv Q) : am_R E d mX10_ask k n 86 [a0, a1, a2, .int x] st S iv Q := am_iload_n dX10_ask_86 rfl rfl h
theorem sX10_ask_87 {ls : List Value} {x1 x2 : Value} (hst : (st.map fun v => v.category).sum ≤ 8) (hM : am_M E d mX10_has 0 0 [x1, x2] S iv (am_K3 E (d + 1) mX10_ask k n 87 ls st Q)) : am_R E (d + 1) mX10_ask k n 87 ls (x2 :: x1 :: st) S iv Q := am_cS (M' := mX10_has) (as := [x1, x2]) dX10_ask_87 rfl wq_987 wq_988 wq_808 wq_985 hy_X10_has (by decide) hst (by omega) (by omega) hM
theorem sX10_ask_87_k {ls : List Value} {x1 x2 : Value} {k' n' : Nat} (hst : (st.map fun v => v.category).sum ≤ 8) (hM : am_M E d mX10_has k' n' [x1, x2] S iv (am_K3 E (d + 1) mX10_ask k n 87 ls st Q)) : am_R E (d + 1) mX10_ask (k' + k) (n' + n) 87 ls (x2 :: x1 :: st) S iv Q := am_cS (M' := mX10_has) (as := [x1, x2]) dX10_ask_87 rfl wq_987 wq_988 wq_808 wq_985 hy_X10_has (by decide) hst (by omega) (by omega) hM
theorem sX10_ask_90 {ls : List Value} {x : Int32} (kt : ¬ x = 0 → am_R E d mX10_ask k n 96 ls st S iv Q) (kf : x = 0 → am_R E d mX10_ask k n 93 ls st S iv Q) : am_R E d mX10_ask k n 90 ls (.int x :: st) S iv Q := am_if_ne dX10_ask_90 (by decide) kt kf
theorem sX10_ask_93 {ls : List Value} (h : am_R E d mX10_ask k n 164 ls st S iv Q) : am_R E d mX10_ask k n 93 ls st S iv Q := am_goto dX10_ask_93 (by decide) h
theorem sX10_ask_96 {a0 a1 a2 a3 : Value} (hv : am_rf a0 = true) (h : am_R E d mX10_ask k n 97 [a0, a1, a2, a3] (a0 :: st) S iv Q) : am_R E d mX10_ask k n 96 [a0, a1, a2, a3] st S iv Q := am_aload_n dX10_ask_96 rfl rfl hv h
theorem sX10_ask_97 {ls : List Value} {a b : Nat} (ha : S.1 a = some (.inl 10)) (hb : S.2.1 a 36 = some b) (h : am_R E d mX10_ask k n 100 ls (.ref b :: st) S iv Q) : am_R E d mX10_ask k n 97 ls (.ref a :: st) S iv Q := am_getR (ci := 10) dX10_ask_97 rfl rfl (by decide) wq_790 uq_10 rfl ha hb h
theorem sX10_ask_100 {a0 a1 a2 a3 : Value} (h : am_R E d mX10_ask k n 101 [a0, a1, a2, a3] (.int 5 :: st) S iv Q) : am_R E d mX10_ask k n 100 [a0, a1, a2, a3] st S iv Q := am_iconst dX10_ask_100 (by decide) h
theorem sX10_ask_101 {ls : List Value} {x y : Value} (hv : x.category = 1) (hu : y.category = 1) (h : am_R E d mX10_ask k n 102 ls (x :: y :: x :: y :: st) S iv Q) : am_R E d mX10_ask k n 101 ls (x :: y :: st) S iv Q := am_dup2 dX10_ask_101 hv hu h
theorem sX10_ask_102 {ls : List Value} {a m : Nat} {i : Int32} (ha : S.1 a = some (.inr (.int, m))) (hi : vp_in i m) (h : am_R E d mX10_ask k n 103 ls (.int (iv a i.toNatClampNeg) :: st) S iv Q) : am_R E d mX10_ask k n 102 ls (.int i :: .ref a :: st) S iv Q := am_iaload dX10_ask_102 ha hi h
theorem sX10_ask_103 {a0 a1 a2 a3 : Value} (hv : am_rf a0 = true) (h : am_R E d mX10_ask k n 104 [a0, a1, a2, a3] (a0 :: st) S iv Q) : am_R E d mX10_ask k n 103 [a0, a1, a2, a3] st S iv Q := am_aload_n dX10_ask_103 rfl rfl hv h
theorem sX10_ask_104 {ls : List Value} {a b : Nat} (ha : S.1 a = some (.inl 10)) (hb : S.2.1 a 5 = some b) (h : am_R E d mX10_ask k n 107 ls (.ref b :: st) S iv Q) : am_R E d mX10_ask k n 104 ls (.ref a :: st) S iv Q := am_getR (ci := 10) dX10_ask_104 rfl rfl (by decide) wq_773 uq_10 rfl ha hb h
theorem sX10_ask_107 {a0 a1 a2 : Value} {x : Int32} (h : am_R E d mX10_ask k n 108 [a0, a1, a2, .int x] (.int x :: st) S iv Q) : am_R E d mX10_ask k n 107 [a0, a1, a2, .int x] st S iv Q := am_iload_n dX10_ask_107 rfl rfl h
theorem sX10_ask_108 {ls : List Value} {a m : Nat} {i : Int32} (ha : S.1 a = some (.inr (.int, m))) (hi : vp_in i m) (h : am_R E d mX10_ask k n 109 ls (.int (iv a i.toNatClampNeg) :: st) S iv Q) : am_R E d mX10_ask k n 108 ls (.int i :: .ref a :: st) S iv Q := am_iaload dX10_ask_108 ha hi h
theorem sX10_ask_109 {a0 a1 a2 a3 : Value} (h : am_R E d mX10_ask k n 110 [a0, a1, a2, a3] (.int 1 :: st) S iv Q) : am_R E d mX10_ask k n 109 [a0, a1, a2, a3] st S iv Q := am_iconst dX10_ask_109 (by decide) h
theorem sX10_ask_110 {ls : List Value} {x y : Int32} (kt : ¬ x = y → am_R E d mX10_ask k n 117 ls st S iv Q) (kf : x = y → am_R E d mX10_ask k n 113 ls st S iv Q) : am_R E d mX10_ask k n 110 ls (.int y :: .int x :: st) S iv Q := am_icmp_ne dX10_ask_110 (by decide) kt kf
theorem sX10_ask_113 {a0 a1 a2 a3 : Value} (h : am_R E d mX10_ask k n 114 [a0, a1, a2, a3] (.int 1 :: st) S iv Q) : am_R E d mX10_ask k n 113 [a0, a1, a2, a3] st S iv Q := am_iconst dX10_ask_113 (by decide) h
theorem sX10_ask_114 {ls : List Value} (h : am_R E d mX10_ask k n 118 ls st S iv Q) : am_R E d mX10_ask k n 114 ls st S iv Q := am_goto dX10_ask_114 (by decide) h
theorem sX10_ask_117 {a0 a1 a2 a3 : Value} (h : am_R E d mX10_ask k n 118 [a0, a1, a2, a3] (.int 0 :: st) S iv Q) : am_R E d mX10_ask k n 117 [a0, a1, a2, a3] st S iv Q := am_iconst dX10_ask_117 (by decide) h
theorem sX10_ask_118 {ls : List Value} {x y : Int32} (h : am_R E d mX10_ask k n 119 ls (.int (x + y) :: st) S iv Q) : am_R E d mX10_ask k n 118 ls (.int y :: .int x :: st) S iv Q := am_iadd dX10_ask_118 h
theorem sX10_ask_119 {ls : List Value} {a m : Nat} {i x : Int32} (ha : S.1 a = some (.inr (.int, m))) (hi : vp_in i m) (h : am_R E d mX10_ask k n 120 ls st S (am_w iv a i.toNatClampNeg x) Q) : am_R E d mX10_ask k n 119 ls (.int x :: .int i :: .ref a :: st) S iv Q := am_iastore dX10_ask_119 ha hi h
theorem sX10_ask_120 {a0 a1 a2 a3 : Value} (hv : am_rf a0 = true) (h : am_R E d mX10_ask k n 121 [a0, a1, a2, a3] (a0 :: st) S iv Q) : am_R E d mX10_ask k n 120 [a0, a1, a2, a3] st S iv Q := am_aload_n dX10_ask_120 rfl rfl hv h
theorem sX10_ask_121 {ls : List Value} {a b : Nat} (ha : S.1 a = some (.inl 10)) (hb : S.2.1 a 36 = some b) (h : am_R E d mX10_ask k n 124 ls (.ref b :: st) S iv Q) : am_R E d mX10_ask k n 121 ls (.ref a :: st) S iv Q := am_getR (ci := 10) dX10_ask_121 rfl rfl (by decide) wq_790 uq_10 rfl ha hb h
theorem sX10_ask_124 {a0 a1 a2 a3 : Value} (h : am_R E d mX10_ask k n 126 [a0, a1, a2, a3] (.int 6 :: st) S iv Q) : am_R E d mX10_ask k n 124 [a0, a1, a2, a3] st S iv Q := am_bipush dX10_ask_124 (by decide) h
theorem sX10_ask_126 {ls : List Value} {x y : Value} (hv : x.category = 1) (hu : y.category = 1) (h : am_R E d mX10_ask k n 127 ls (x :: y :: x :: y :: st) S iv Q) : am_R E d mX10_ask k n 126 ls (x :: y :: st) S iv Q := am_dup2 dX10_ask_126 hv hu h
theorem sX10_ask_127 {ls : List Value} {a m : Nat} {i : Int32} (ha : S.1 a = some (.inr (.int, m))) (hi : vp_in i m) (h : am_R E d mX10_ask k n 128 ls (.int (iv a i.toNatClampNeg) :: st) S iv Q) : am_R E d mX10_ask k n 127 ls (.int i :: .ref a :: st) S iv Q := am_iaload dX10_ask_127 ha hi h
theorem sX10_ask_128 {a0 a1 a2 : Value} {x : Int32} (h : am_R E d mX10_ask k n 129 [a0, a1, a2, .int x] (.int x :: st) S iv Q) : am_R E d mX10_ask k n 128 [a0, a1, a2, .int x] st S iv Q := am_iload_n dX10_ask_128 rfl rfl h
theorem sX10_ask_129 {a0 a2 a3 : Value} {x : Int32} (h : am_R E d mX10_ask k n 130 [a0, .int x, a2, a3] (.int x :: st) S iv Q) : am_R E d mX10_ask k n 129 [a0, .int x, a2, a3] st S iv Q := am_iload_n dX10_ask_129 rfl rfl h
theorem sX10_ask_130 {ls : List Value} {x y : Int32} (kt : x = y → am_R E d mX10_ask k n 161 ls st S iv Q) (kf : ¬ x = y → am_R E d mX10_ask k n 133 ls st S iv Q) : am_R E d mX10_ask k n 130 ls (.int y :: .int x :: st) S iv Q := am_icmp_eq dX10_ask_130 (by decide) kt kf
theorem sX10_ask_133 {a0 a1 a2 a3 : Value} (hv : am_rf a0 = true) (h : am_R E d mX10_ask k n 134 [a0, a1, a2, a3] (a0 :: st) S iv Q) : am_R E d mX10_ask k n 133 [a0, a1, a2, a3] st S iv Q := am_aload_n dX10_ask_133 rfl rfl hv h
theorem sX10_ask_134 {a0 a1 a2 : Value} {x : Int32} (h : am_R E d mX10_ask k n 135 [a0, a1, a2, .int x] (.int x :: st) S iv Q) : am_R E d mX10_ask k n 134 [a0, a1, a2, .int x] st S iv Q := am_iload_n dX10_ask_134 rfl rfl h
theorem sX10_ask_135 {a0 a2 a3 : Value} {x : Int32} (h : am_R E d mX10_ask k n 136 [a0, .int x, a2, a3] (.int x :: st) S iv Q) : am_R E d mX10_ask k n 135 [a0, .int x, a2, a3] st S iv Q := am_iload_n dX10_ask_135 rfl rfl h
theorem sX10_ask_136 {ls : List Value} {x1 x2 : Value} {a : Nat} (ha : S.1 a = some (.inl 10)) (hst : (st.map fun v => v.category).sum ≤ 8) (hM : am_M E d mX10_shares 0 0 [.ref a, x1, x2] S iv (am_K3 E (d + 1) mX10_ask k n 136 ls st Q)) : am_R E (d + 1) mX10_ask k n 136 ls (x2 :: x1 :: .ref a :: st) S iv Q := am_cV (ci := 10) (M' := mX10_shares) (as := [x1, x2]) dX10_ask_136 rfl rfl rfl wq_991 wq_992 wq_993 wq_808 wq_989 hy_X10_shares (by decide) ha hst (by omega) (by omega) hM
theorem sX10_ask_136_k {ls : List Value} {x1 x2 : Value} {k' n' : Nat} {a : Nat} (ha : S.1 a = some (.inl 10)) (hst : (st.map fun v => v.category).sum ≤ 8) (hM : am_M E d mX10_shares k' n' [.ref a, x1, x2] S iv (am_K3 E (d + 1) mX10_ask k n 136 ls st Q)) : am_R E (d + 1) mX10_ask (k' + k) (n' + n) 136 ls (x2 :: x1 :: .ref a :: st) S iv Q := am_cV (ci := 10) (M' := mX10_shares) (as := [x1, x2]) dX10_ask_136 rfl rfl rfl wq_991 wq_992 wq_993 wq_808 wq_989 hy_X10_shares (by decide) ha hst (by omega) (by omega) hM
theorem sX10_ask_139 {ls : List Value} {x : Int32} (kt : x = 0 → am_R E d mX10_ask k n 161 ls st S iv Q) (kf : ¬ x = 0 → am_R E d mX10_ask k n 142 ls st S iv Q) : am_R E d mX10_ask k n 139 ls (.int x :: st) S iv Q := am_if_eq dX10_ask_139 (by decide) kt kf
theorem sX10_ask_142 {a0 a1 a2 a3 : Value} (hv : am_rf a0 = true) (h : am_R E d mX10_ask k n 143 [a0, a1, a2, a3] (a0 :: st) S iv Q) : am_R E d mX10_ask k n 142 [a0, a1, a2, a3] st S iv Q := am_aload_n dX10_ask_142 rfl rfl hv h
theorem sX10_ask_143 {ls : List Value} {a b : Nat} (ha : S.1 a = some (.inl 10)) (hb : S.2.1 a 7 = some b) (h : am_R E d mX10_ask k n 146 ls (.ref b :: st) S iv Q) : am_R E d mX10_ask k n 143 ls (.ref a :: st) S iv Q := am_getR (ci := 10) dX10_ask_143 rfl rfl (by decide) wq_775 uq_10 rfl ha hb h
theorem sX10_ask_146 {a0 a1 a2 : Value} {x : Int32} (h : am_R E d mX10_ask k n 147 [a0, a1, a2, .int x] (.int x :: st) S iv Q) : am_R E d mX10_ask k n 146 [a0, a1, a2, .int x] st S iv Q := am_iload_n dX10_ask_146 rfl rfl h
theorem sX10_ask_147 {ls : List Value} {a m : Nat} {i : Int32} (ha : S.1 a = some (.inr (.int, m))) (hi : vp_in i m) (h : am_R E d mX10_ask k n 148 ls (.int (iv a i.toNatClampNeg) :: st) S iv Q) : am_R E d mX10_ask k n 147 ls (.int i :: .ref a :: st) S iv Q := am_iaload dX10_ask_147 ha hi h
theorem sX10_ask_148 {a0 a1 a2 a3 : Value} (hv : am_rf a0 = true) (h : am_R E d mX10_ask k n 149 [a0, a1, a2, a3] (a0 :: st) S iv Q) : am_R E d mX10_ask k n 148 [a0, a1, a2, a3] st S iv Q := am_aload_n dX10_ask_148 rfl rfl hv h
theorem sX10_ask_149 {ls : List Value} {a b : Nat} (ha : S.1 a = some (.inl 10)) (hb : S.2.1 a 7 = some b) (h : am_R E d mX10_ask k n 152 ls (.ref b :: st) S iv Q) : am_R E d mX10_ask k n 149 ls (.ref a :: st) S iv Q := am_getR (ci := 10) dX10_ask_149 rfl rfl (by decide) wq_775 uq_10 rfl ha hb h
theorem sX10_ask_152 {a0 a2 a3 : Value} {x : Int32} (h : am_R E d mX10_ask k n 153 [a0, .int x, a2, a3] (.int x :: st) S iv Q) : am_R E d mX10_ask k n 152 [a0, .int x, a2, a3] st S iv Q := am_iload_n dX10_ask_152 rfl rfl h
theorem sX10_ask_153 {ls : List Value} {a m : Nat} {i : Int32} (ha : S.1 a = some (.inr (.int, m))) (hi : vp_in i m) (h : am_R E d mX10_ask k n 154 ls (.int (iv a i.toNatClampNeg) :: st) S iv Q) : am_R E d mX10_ask k n 153 ls (.int i :: .ref a :: st) S iv Q := am_iaload dX10_ask_153 ha hi h
theorem sX10_ask_154 {ls : List Value} {x y : Int32} (kt : x ≤ y → am_R E d mX10_ask k n 161 ls st S iv Q) (kf : ¬ x ≤ y → am_R E d mX10_ask k n 157 ls st S iv Q) : am_R E d mX10_ask k n 154 ls (.int y :: .int x :: st) S iv Q := am_icmp_le dX10_ask_154 (by decide) kt kf
theorem sX10_ask_157 {a0 a1 a2 a3 : Value} (h : am_R E d mX10_ask k n 158 [a0, a1, a2, a3] (.int 1 :: st) S iv Q) : am_R E d mX10_ask k n 157 [a0, a1, a2, a3] st S iv Q := am_iconst dX10_ask_157 (by decide) h
theorem sX10_ask_158 {ls : List Value} (h : am_R E d mX10_ask k n 162 ls st S iv Q) : am_R E d mX10_ask k n 158 ls st S iv Q := am_goto dX10_ask_158 (by decide) h
theorem sX10_ask_161 {a0 a1 a2 a3 : Value} (h : am_R E d mX10_ask k n 162 [a0, a1, a2, a3] (.int 0 :: st) S iv Q) : am_R E d mX10_ask k n 161 [a0, a1, a2, a3] st S iv Q := am_iconst dX10_ask_161 (by decide) h
theorem sX10_ask_162 {ls : List Value} {x y : Int32} (h : am_R E d mX10_ask k n 163 ls (.int (x + y) :: st) S iv Q) : am_R E d mX10_ask k n 162 ls (.int y :: .int x :: st) S iv Q := am_iadd dX10_ask_162 h
theorem sX10_ask_163 {ls : List Value} {a m : Nat} {i x : Int32} (ha : S.1 a = some (.inr (.int, m))) (hi : vp_in i m) (h : am_R E d mX10_ask k n 164 ls st S (am_w iv a i.toNatClampNeg x) Q) : am_R E d mX10_ask k n 163 ls (.int x :: .int i :: .ref a :: st) S iv Q := am_iastore dX10_ask_163 ha hi h
theorem sX10_ask_164 {a0 a1 a2 : Value} {x : Int32} (h : am_R E d mX10_ask k n 167 [a0, a1, a2, .int (x + 1)] st S iv Q) : am_R E d mX10_ask k n 164 [a0, a1, a2, .int x] st S iv Q := am_iinc dX10_ask_164 rfl rfl (by decide) h
theorem sX10_ask_167 {ls : List Value} (h : am_R E d mX10_ask k n 75 ls st S iv Q) : am_R E d mX10_ask k n 167 ls st S iv Q := am_goto dX10_ask_167 (by decide) h
theorem sX10_ask_170 {ls : List Value} (h : Q (.inl none) S iv) : am_R E d mX10_ask k n 170 ls [] S iv Q := am_return dX10_ask_170 rfl h
theorem dX10_brokenBy_0 : decode cX10_brokenBy 0 = .ok (.iconst (-1), 1) := by decide +kernel
theorem dX10_brokenBy_1 : decode cX10_brokenBy 1 = .ok (.istore_n 2, 1) := by decide +kernel
theorem dX10_brokenBy_2 : decode cX10_brokenBy 2 = .ok (.iconst 0, 1) := by decide +kernel
theorem dX10_brokenBy_3 : decode cX10_brokenBy 3 = .ok (.istore_n 3, 1) := by decide +kernel
theorem dX10_brokenBy_4 : decode cX10_brokenBy 4 = .ok (.iload_n 3, 1) := by decide +kernel
theorem dX10_brokenBy_5 : decode cX10_brokenBy 5 = .ok (.aload_n 0, 1) := by decide +kernel
theorem dX10_brokenBy_6 : decode cX10_brokenBy 6 = .ok (.getfield 49, 3) := by decide +kernel
theorem dX10_brokenBy_9 : decode cX10_brokenBy 9 = .ok (.iconst 2, 1) := by decide +kernel
theorem dX10_brokenBy_10 : decode cX10_brokenBy 10 = .ok (.iaload, 1) := by decide +kernel
theorem dX10_brokenBy_11 : decode cX10_brokenBy 11 = .ok (.if_icmp .ge 69, 3) := by decide +kernel
theorem dX10_brokenBy_14 : decode cX10_brokenBy 14 = .ok (.iload_n 1, 1) := by decide +kernel
theorem dX10_brokenBy_15 : decode cX10_brokenBy 15 = .ok (.iload_n 3, 1) := by decide +kernel
theorem dX10_brokenBy_16 : decode cX10_brokenBy 16 = .ok (.invokestatic 328, 3) := by decide +kernel
theorem dX10_brokenBy_19 : decode cX10_brokenBy 19 = .ok (.ifCond .ne 6, 3) := by decide +kernel
theorem dX10_brokenBy_22 : decode cX10_brokenBy 22 = .ok (.goto 52, 3) := by decide +kernel
theorem dX10_brokenBy_25 : decode cX10_brokenBy 25 = .ok (.aload_n 0, 1) := by decide +kernel
theorem dX10_brokenBy_26 : decode cX10_brokenBy 26 = .ok (.iload_n 3, 1) := by decide +kernel
theorem dX10_brokenBy_27 : decode cX10_brokenBy 27 = .ok (.iload_n 1, 1) := by decide +kernel
theorem dX10_brokenBy_28 : decode cX10_brokenBy 28 = .ok (.invokevirtual 335, 3) := by decide +kernel
theorem dX10_brokenBy_31 : decode cX10_brokenBy 31 = .ok (.iconst 0, 1) := by decide +kernel
theorem dX10_brokenBy_32 : decode cX10_brokenBy 32 = .ok (.istore 4, 2) := by decide +kernel
theorem dX10_brokenBy_34 : decode cX10_brokenBy 34 = .ok (.iload 4, 2) := by decide +kernel
theorem dX10_brokenBy_36 : decode cX10_brokenBy 36 = .ok (.aload_n 0, 1) := by decide +kernel
theorem dX10_brokenBy_37 : decode cX10_brokenBy 37 = .ok (.getfield 49, 3) := by decide +kernel
theorem dX10_brokenBy_40 : decode cX10_brokenBy 40 = .ok (.iconst 5, 1) := by decide +kernel
theorem dX10_brokenBy_41 : decode cX10_brokenBy 41 = .ok (.iaload, 1) := by decide +kernel
theorem dX10_brokenBy_42 : decode cX10_brokenBy 42 = .ok (.if_icmp .ge 32, 3) := by decide +kernel
theorem dX10_brokenBy_45 : decode cX10_brokenBy 45 = .ok (.iload_n 2, 1) := by decide +kernel
theorem dX10_brokenBy_46 : decode cX10_brokenBy 46 = .ok (.iconst (-1), 1) := by decide +kernel
theorem dX10_brokenBy_47 : decode cX10_brokenBy 47 = .ok (.if_icmp .eq 9, 3) := by decide +kernel
theorem dX10_brokenBy_50 : decode cX10_brokenBy 50 = .ok (.iload 4, 2) := by decide +kernel
theorem dX10_brokenBy_52 : decode cX10_brokenBy 52 = .ok (.iload_n 2, 1) := by decide +kernel
theorem dX10_brokenBy_53 : decode cX10_brokenBy 53 = .ok (.if_icmp .ge 15, 3) := by decide +kernel
theorem dX10_brokenBy_56 : decode cX10_brokenBy 56 = .ok (.aload_n 0, 1) := by decide +kernel
theorem dX10_brokenBy_57 : decode cX10_brokenBy 57 = .ok (.iload 4, 2) := by decide +kernel
theorem dX10_brokenBy_59 : decode cX10_brokenBy 59 = .ok (.invokevirtual 339, 3) := by decide +kernel
theorem dX10_brokenBy_62 : decode cX10_brokenBy 62 = .ok (.ifCond .ne 6, 3) := by decide +kernel
theorem dX10_brokenBy_65 : decode cX10_brokenBy 65 = .ok (.iload 4, 2) := by decide +kernel
theorem dX10_brokenBy_67 : decode cX10_brokenBy 67 = .ok (.istore_n 2, 1) := by decide +kernel
theorem dX10_brokenBy_68 : decode cX10_brokenBy 68 = .ok (.iinc 4 1, 3) := by decide +kernel
theorem dX10_brokenBy_71 : decode cX10_brokenBy 71 = .ok (.goto (-37), 3) := by decide +kernel
theorem dX10_brokenBy_74 : decode cX10_brokenBy 74 = .ok (.iinc 3 1, 3) := by decide +kernel
theorem dX10_brokenBy_77 : decode cX10_brokenBy 77 = .ok (.goto (-73), 3) := by decide +kernel
theorem dX10_brokenBy_80 : decode cX10_brokenBy 80 = .ok (.iload_n 2, 1) := by decide +kernel
theorem dX10_brokenBy_81 : decode cX10_brokenBy 81 = .ok (.ireturn, 1) := by decide +kernel
theorem sX10_brokenBy_0 {a0 a1 a2 a3 a4 : Value} (h : am_R E d mX10_brokenBy k n 1 [a0, a1, a2, a3, a4] (.int (-1) :: st) S iv Q) : am_R E d mX10_brokenBy k n 0 [a0, a1, a2, a3, a4] st S iv Q := am_iconst dX10_brokenBy_0 (by decide) h
theorem sX10_brokenBy_1 {a0 a1 a2 a3 a4 : Value} {x : Int32} (h : am_R E d mX10_brokenBy k n 2 [a0, a1, .int x, a3, a4] st S iv Q) : am_R E d mX10_brokenBy k n 1 [a0, a1, a2, a3, a4] (.int x :: st) S iv Q := am_istore_n dX10_brokenBy_1 rfl (by decide) h
theorem sX10_brokenBy_2 {a0 a1 a2 a3 a4 : Value} (h : am_R E d mX10_brokenBy k n 3 [a0, a1, a2, a3, a4] (.int 0 :: st) S iv Q) : am_R E d mX10_brokenBy k n 2 [a0, a1, a2, a3, a4] st S iv Q := am_iconst dX10_brokenBy_2 (by decide) h
theorem sX10_brokenBy_3 {a0 a1 a2 a3 a4 : Value} {x : Int32} (h : am_R E d mX10_brokenBy k n 4 [a0, a1, a2, .int x, a4] st S iv Q) : am_R E d mX10_brokenBy k n 3 [a0, a1, a2, a3, a4] (.int x :: st) S iv Q := am_istore_n dX10_brokenBy_3 rfl (by decide) h
theorem sX10_brokenBy_4 {a0 a1 a2 a4 : Value} {x : Int32} (h : am_R E d mX10_brokenBy k n 5 [a0, a1, a2, .int x, a4] (.int x :: st) S iv Q) : am_R E d mX10_brokenBy k n 4 [a0, a1, a2, .int x, a4] st S iv Q := am_iload_n dX10_brokenBy_4 rfl rfl h
theorem sX10_brokenBy_5 {a0 a1 a2 a3 a4 : Value} (hv : am_rf a0 = true) (h : am_R E d mX10_brokenBy k n 6 [a0, a1, a2, a3, a4] (a0 :: st) S iv Q) : am_R E d mX10_brokenBy k n 5 [a0, a1, a2, a3, a4] st S iv Q := am_aload_n dX10_brokenBy_5 rfl rfl hv h
theorem sX10_brokenBy_6 {ls : List Value} {a b : Nat} (ha : S.1 a = some (.inl 10)) (hb : S.2.1 a 4 = some b) (h : am_R E d mX10_brokenBy k n 9 ls (.ref b :: st) S iv Q) : am_R E d mX10_brokenBy k n 6 ls (.ref a :: st) S iv Q := am_getR (ci := 10) dX10_brokenBy_6 rfl rfl (by decide) wq_772 uq_10 rfl ha hb h
theorem sX10_brokenBy_9 {a0 a1 a2 a3 a4 : Value} (h : am_R E d mX10_brokenBy k n 10 [a0, a1, a2, a3, a4] (.int 2 :: st) S iv Q) : am_R E d mX10_brokenBy k n 9 [a0, a1, a2, a3, a4] st S iv Q := am_iconst dX10_brokenBy_9 (by decide) h
theorem sX10_brokenBy_10 {ls : List Value} {a m : Nat} {i : Int32} (ha : S.1 a = some (.inr (.int, m))) (hi : vp_in i m) (h : am_R E d mX10_brokenBy k n 11 ls (.int (iv a i.toNatClampNeg) :: st) S iv Q) : am_R E d mX10_brokenBy k n 10 ls (.int i :: .ref a :: st) S iv Q := am_iaload dX10_brokenBy_10 ha hi h
theorem sX10_brokenBy_11 {ls : List Value} {x y : Int32} (kt : y ≤ x → am_R E d mX10_brokenBy k n 80 ls st S iv Q) (kf : ¬ y ≤ x → am_R E d mX10_brokenBy k n 14 ls st S iv Q) : am_R E d mX10_brokenBy k n 11 ls (.int y :: .int x :: st) S iv Q := am_icmp_ge dX10_brokenBy_11 (by decide) kt kf
theorem sX10_brokenBy_14 {a0 a2 a3 a4 : Value} {x : Int32} (h : am_R E d mX10_brokenBy k n 15 [a0, .int x, a2, a3, a4] (.int x :: st) S iv Q) : am_R E d mX10_brokenBy k n 14 [a0, .int x, a2, a3, a4] st S iv Q := am_iload_n dX10_brokenBy_14 rfl rfl h
theorem sX10_brokenBy_15 {a0 a1 a2 a4 : Value} {x : Int32} (h : am_R E d mX10_brokenBy k n 16 [a0, a1, a2, .int x, a4] (.int x :: st) S iv Q) : am_R E d mX10_brokenBy k n 15 [a0, a1, a2, .int x, a4] st S iv Q := am_iload_n dX10_brokenBy_15 rfl rfl h
theorem sX10_brokenBy_16 {ls : List Value} {x1 x2 : Value} (hst : (st.map fun v => v.category).sum ≤ 8) (hM : am_M E d mX10_has 0 0 [x1, x2] S iv (am_K3 E (d + 1) mX10_brokenBy k n 16 ls st Q)) : am_R E (d + 1) mX10_brokenBy k n 16 ls (x2 :: x1 :: st) S iv Q := am_cS (M' := mX10_has) (as := [x1, x2]) dX10_brokenBy_16 rfl wq_987 wq_988 wq_808 wq_985 hy_X10_has (by decide) hst (by omega) (by omega) hM
theorem sX10_brokenBy_16_k {ls : List Value} {x1 x2 : Value} {k' n' : Nat} (hst : (st.map fun v => v.category).sum ≤ 8) (hM : am_M E d mX10_has k' n' [x1, x2] S iv (am_K3 E (d + 1) mX10_brokenBy k n 16 ls st Q)) : am_R E (d + 1) mX10_brokenBy (k' + k) (n' + n) 16 ls (x2 :: x1 :: st) S iv Q := am_cS (M' := mX10_has) (as := [x1, x2]) dX10_brokenBy_16 rfl wq_987 wq_988 wq_808 wq_985 hy_X10_has (by decide) hst (by omega) (by omega) hM
theorem sX10_brokenBy_19 {ls : List Value} {x : Int32} (kt : ¬ x = 0 → am_R E d mX10_brokenBy k n 25 ls st S iv Q) (kf : x = 0 → am_R E d mX10_brokenBy k n 22 ls st S iv Q) : am_R E d mX10_brokenBy k n 19 ls (.int x :: st) S iv Q := am_if_ne dX10_brokenBy_19 (by decide) kt kf
theorem sX10_brokenBy_22 {ls : List Value} (h : am_R E d mX10_brokenBy k n 74 ls st S iv Q) : am_R E d mX10_brokenBy k n 22 ls st S iv Q := am_goto dX10_brokenBy_22 (by decide) h
theorem sX10_brokenBy_25 {a0 a1 a2 a3 a4 : Value} (hv : am_rf a0 = true) (h : am_R E d mX10_brokenBy k n 26 [a0, a1, a2, a3, a4] (a0 :: st) S iv Q) : am_R E d mX10_brokenBy k n 25 [a0, a1, a2, a3, a4] st S iv Q := am_aload_n dX10_brokenBy_25 rfl rfl hv h
theorem sX10_brokenBy_26 {a0 a1 a2 a4 : Value} {x : Int32} (h : am_R E d mX10_brokenBy k n 27 [a0, a1, a2, .int x, a4] (.int x :: st) S iv Q) : am_R E d mX10_brokenBy k n 26 [a0, a1, a2, .int x, a4] st S iv Q := am_iload_n dX10_brokenBy_26 rfl rfl h
theorem sX10_brokenBy_27 {a0 a2 a3 a4 : Value} {x : Int32} (h : am_R E d mX10_brokenBy k n 28 [a0, .int x, a2, a3, a4] (.int x :: st) S iv Q) : am_R E d mX10_brokenBy k n 27 [a0, .int x, a2, a3, a4] st S iv Q := am_iload_n dX10_brokenBy_27 rfl rfl h
theorem sX10_brokenBy_28 {ls : List Value} {x1 x2 : Value} {a : Nat} (ha : S.1 a = some (.inl 10)) (hst : (st.map fun v => v.category).sum ≤ 8) (hM : am_M E d mX10_ask 0 0 [.ref a, x1, x2] S iv (am_K3 E (d + 1) mX10_brokenBy k n 28 ls st Q)) : am_R E (d + 1) mX10_brokenBy k n 28 ls (x2 :: x1 :: .ref a :: st) S iv Q := am_cV (ci := 10) (M' := mX10_ask) (as := [x1, x2]) dX10_brokenBy_28 rfl rfl rfl wq_996 wq_997 wq_998 wq_808 wq_994 hy_X10_ask (by decide) ha hst (by omega) (by omega) hM
theorem sX10_brokenBy_28_k {ls : List Value} {x1 x2 : Value} {k' n' : Nat} {a : Nat} (ha : S.1 a = some (.inl 10)) (hst : (st.map fun v => v.category).sum ≤ 8) (hM : am_M E d mX10_ask k' n' [.ref a, x1, x2] S iv (am_K3 E (d + 1) mX10_brokenBy k n 28 ls st Q)) : am_R E (d + 1) mX10_brokenBy (k' + k) (n' + n) 28 ls (x2 :: x1 :: .ref a :: st) S iv Q := am_cV (ci := 10) (M' := mX10_ask) (as := [x1, x2]) dX10_brokenBy_28 rfl rfl rfl wq_996 wq_997 wq_998 wq_808 wq_994 hy_X10_ask (by decide) ha hst (by omega) (by omega) hM
theorem sX10_brokenBy_31 {a0 a1 a2 a3 a4 : Value} (h : am_R E d mX10_brokenBy k n 32 [a0, a1, a2, a3, a4] (.int 0 :: st) S iv Q) : am_R E d mX10_brokenBy k n 31 [a0, a1, a2, a3, a4] st S iv Q := am_iconst dX10_brokenBy_31 (by decide) h
theorem sX10_brokenBy_32 {a0 a1 a2 a3 a4 : Value} {x : Int32} (h : am_R E d mX10_brokenBy k n 34 [a0, a1, a2, a3, .int x] st S iv Q) : am_R E d mX10_brokenBy k n 32 [a0, a1, a2, a3, a4] (.int x :: st) S iv Q := am_istore dX10_brokenBy_32 (by decide) h
theorem sX10_brokenBy_34 {a0 a1 a2 a3 : Value} {x : Int32} (h : am_R E d mX10_brokenBy k n 36 [a0, a1, a2, a3, .int x] (.int x :: st) S iv Q) : am_R E d mX10_brokenBy k n 34 [a0, a1, a2, a3, .int x] st S iv Q := am_iload dX10_brokenBy_34 rfl h
theorem sX10_brokenBy_36 {a0 a1 a2 a3 a4 : Value} (hv : am_rf a0 = true) (h : am_R E d mX10_brokenBy k n 37 [a0, a1, a2, a3, a4] (a0 :: st) S iv Q) : am_R E d mX10_brokenBy k n 36 [a0, a1, a2, a3, a4] st S iv Q := am_aload_n dX10_brokenBy_36 rfl rfl hv h
theorem sX10_brokenBy_37 {ls : List Value} {a b : Nat} (ha : S.1 a = some (.inl 10)) (hb : S.2.1 a 4 = some b) (h : am_R E d mX10_brokenBy k n 40 ls (.ref b :: st) S iv Q) : am_R E d mX10_brokenBy k n 37 ls (.ref a :: st) S iv Q := am_getR (ci := 10) dX10_brokenBy_37 rfl rfl (by decide) wq_772 uq_10 rfl ha hb h
theorem sX10_brokenBy_40 {a0 a1 a2 a3 a4 : Value} (h : am_R E d mX10_brokenBy k n 41 [a0, a1, a2, a3, a4] (.int 5 :: st) S iv Q) : am_R E d mX10_brokenBy k n 40 [a0, a1, a2, a3, a4] st S iv Q := am_iconst dX10_brokenBy_40 (by decide) h
theorem sX10_brokenBy_41 {ls : List Value} {a m : Nat} {i : Int32} (ha : S.1 a = some (.inr (.int, m))) (hi : vp_in i m) (h : am_R E d mX10_brokenBy k n 42 ls (.int (iv a i.toNatClampNeg) :: st) S iv Q) : am_R E d mX10_brokenBy k n 41 ls (.int i :: .ref a :: st) S iv Q := am_iaload dX10_brokenBy_41 ha hi h
theorem sX10_brokenBy_42 {ls : List Value} {x y : Int32} (kt : y ≤ x → am_R E d mX10_brokenBy k n 74 ls st S iv Q) (kf : ¬ y ≤ x → am_R E d mX10_brokenBy k n 45 ls st S iv Q) : am_R E d mX10_brokenBy k n 42 ls (.int y :: .int x :: st) S iv Q := am_icmp_ge dX10_brokenBy_42 (by decide) kt kf
theorem sX10_brokenBy_45 {a0 a1 a3 a4 : Value} {x : Int32} (h : am_R E d mX10_brokenBy k n 46 [a0, a1, .int x, a3, a4] (.int x :: st) S iv Q) : am_R E d mX10_brokenBy k n 45 [a0, a1, .int x, a3, a4] st S iv Q := am_iload_n dX10_brokenBy_45 rfl rfl h
theorem sX10_brokenBy_46 {a0 a1 a2 a3 a4 : Value} (h : am_R E d mX10_brokenBy k n 47 [a0, a1, a2, a3, a4] (.int (-1) :: st) S iv Q) : am_R E d mX10_brokenBy k n 46 [a0, a1, a2, a3, a4] st S iv Q := am_iconst dX10_brokenBy_46 (by decide) h
theorem sX10_brokenBy_47 {ls : List Value} {x y : Int32} (kt : x = y → am_R E d mX10_brokenBy k n 56 ls st S iv Q) (kf : ¬ x = y → am_R E d mX10_brokenBy k n 50 ls st S iv Q) : am_R E d mX10_brokenBy k n 47 ls (.int y :: .int x :: st) S iv Q := am_icmp_eq dX10_brokenBy_47 (by decide) kt kf
theorem sX10_brokenBy_50 {a0 a1 a2 a3 : Value} {x : Int32} (h : am_R E d mX10_brokenBy k n 52 [a0, a1, a2, a3, .int x] (.int x :: st) S iv Q) : am_R E d mX10_brokenBy k n 50 [a0, a1, a2, a3, .int x] st S iv Q := am_iload dX10_brokenBy_50 rfl h
theorem sX10_brokenBy_52 {a0 a1 a3 a4 : Value} {x : Int32} (h : am_R E d mX10_brokenBy k n 53 [a0, a1, .int x, a3, a4] (.int x :: st) S iv Q) : am_R E d mX10_brokenBy k n 52 [a0, a1, .int x, a3, a4] st S iv Q := am_iload_n dX10_brokenBy_52 rfl rfl h
theorem sX10_brokenBy_53 {ls : List Value} {x y : Int32} (kt : y ≤ x → am_R E d mX10_brokenBy k n 68 ls st S iv Q) (kf : ¬ y ≤ x → am_R E d mX10_brokenBy k n 56 ls st S iv Q) : am_R E d mX10_brokenBy k n 53 ls (.int y :: .int x :: st) S iv Q := am_icmp_ge dX10_brokenBy_53 (by decide) kt kf
theorem sX10_brokenBy_56 {a0 a1 a2 a3 a4 : Value} (hv : am_rf a0 = true) (h : am_R E d mX10_brokenBy k n 57 [a0, a1, a2, a3, a4] (a0 :: st) S iv Q) : am_R E d mX10_brokenBy k n 56 [a0, a1, a2, a3, a4] st S iv Q := am_aload_n dX10_brokenBy_56 rfl rfl hv h
theorem sX10_brokenBy_57 {a0 a1 a2 a3 : Value} {x : Int32} (h : am_R E d mX10_brokenBy k n 59 [a0, a1, a2, a3, .int x] (.int x :: st) S iv Q) : am_R E d mX10_brokenBy k n 57 [a0, a1, a2, a3, .int x] st S iv Q := am_iload dX10_brokenBy_57 rfl h
theorem sX10_brokenBy_59 {ls : List Value} {x1 : Value} {a : Nat} (ha : S.1 a = some (.inl 10)) (hst : (st.map fun v => v.category).sum ≤ 8) (hM : am_M E d mX10_holds 0 0 [.ref a, x1] S iv (am_K3 E (d + 1) mX10_brokenBy k n 59 ls st Q)) : am_R E (d + 1) mX10_brokenBy k n 59 ls (x1 :: .ref a :: st) S iv Q := am_cV (ci := 10) (M' := mX10_holds) (as := [x1]) dX10_brokenBy_59 rfl rfl rfl wq_1001 wq_1002 wq_1003 wq_808 wq_999 hy_X10_holds (by decide) ha hst (by omega) (by omega) hM
theorem sX10_brokenBy_59_k {ls : List Value} {x1 : Value} {k' n' : Nat} {a : Nat} (ha : S.1 a = some (.inl 10)) (hst : (st.map fun v => v.category).sum ≤ 8) (hM : am_M E d mX10_holds k' n' [.ref a, x1] S iv (am_K3 E (d + 1) mX10_brokenBy k n 59 ls st Q)) : am_R E (d + 1) mX10_brokenBy (k' + k) (n' + n) 59 ls (x1 :: .ref a :: st) S iv Q := am_cV (ci := 10) (M' := mX10_holds) (as := [x1]) dX10_brokenBy_59 rfl rfl rfl wq_1001 wq_1002 wq_1003 wq_808 wq_999 hy_X10_holds (by decide) ha hst (by omega) (by omega) hM
theorem sX10_brokenBy_62 {ls : List Value} {x : Int32} (kt : ¬ x = 0 → am_R E d mX10_brokenBy k n 68 ls st S iv Q) (kf : x = 0 → am_R E d mX10_brokenBy k n 65 ls st S iv Q) : am_R E d mX10_brokenBy k n 62 ls (.int x :: st) S iv Q := am_if_ne dX10_brokenBy_62 (by decide) kt kf
theorem sX10_brokenBy_65 {a0 a1 a2 a3 : Value} {x : Int32} (h : am_R E d mX10_brokenBy k n 67 [a0, a1, a2, a3, .int x] (.int x :: st) S iv Q) : am_R E d mX10_brokenBy k n 65 [a0, a1, a2, a3, .int x] st S iv Q := am_iload dX10_brokenBy_65 rfl h
theorem sX10_brokenBy_67 {a0 a1 a2 a3 a4 : Value} {x : Int32} (h : am_R E d mX10_brokenBy k n 68 [a0, a1, .int x, a3, a4] st S iv Q) : am_R E d mX10_brokenBy k n 67 [a0, a1, a2, a3, a4] (.int x :: st) S iv Q := am_istore_n dX10_brokenBy_67 rfl (by decide) h
theorem sX10_brokenBy_68 {a0 a1 a2 a3 : Value} {x : Int32} (h : am_R E d mX10_brokenBy k n 71 [a0, a1, a2, a3, .int (x + 1)] st S iv Q) : am_R E d mX10_brokenBy k n 68 [a0, a1, a2, a3, .int x] st S iv Q := am_iinc dX10_brokenBy_68 rfl rfl (by decide) h
theorem sX10_brokenBy_71 {ls : List Value} (h : am_R E d mX10_brokenBy k n 34 ls st S iv Q) : am_R E d mX10_brokenBy k n 71 ls st S iv Q := am_goto dX10_brokenBy_71 (by decide) h
theorem sX10_brokenBy_74 {a0 a1 a2 a4 : Value} {x : Int32} (h : am_R E d mX10_brokenBy k n 77 [a0, a1, a2, .int (x + 1), a4] st S iv Q) : am_R E d mX10_brokenBy k n 74 [a0, a1, a2, .int x, a4] st S iv Q := am_iinc dX10_brokenBy_74 rfl rfl (by decide) h
theorem sX10_brokenBy_77 {ls : List Value} (h : am_R E d mX10_brokenBy k n 4 ls st S iv Q) : am_R E d mX10_brokenBy k n 77 ls st S iv Q := am_goto dX10_brokenBy_77 (by decide) h
theorem sX10_brokenBy_80 {a0 a1 a3 a4 : Value} {x : Int32} (h : am_R E d mX10_brokenBy k n 81 [a0, a1, .int x, a3, a4] (.int x :: st) S iv Q) : am_R E d mX10_brokenBy k n 80 [a0, a1, .int x, a3, a4] st S iv Q := am_iload_n dX10_brokenBy_80 rfl rfl h
theorem sX10_brokenBy_81 {ls : List Value} {x : Int32} (h : Q (.inl (some (.int x))) S iv) : am_R E d mX10_brokenBy k n 81 ls [.int x] S iv Q := am_ireturn dX10_brokenBy_81 rfl h
theorem dX10_canBe_0 : decode cX10_canBe 0 = .ok (.iconst 0, 1) := by decide +kernel
theorem dX10_canBe_1 : decode cX10_canBe 1 = .ok (.istore_n 2, 1) := by decide +kernel
theorem dX10_canBe_2 : decode cX10_canBe 2 = .ok (.iload_n 2, 1) := by decide +kernel
theorem dX10_canBe_3 : decode cX10_canBe 3 = .ok (.aload_n 0, 1) := by decide +kernel
theorem dX10_canBe_4 : decode cX10_canBe 4 = .ok (.getfield 49, 3) := by decide +kernel
theorem dX10_canBe_7 : decode cX10_canBe 7 = .ok (.iconst 2, 1) := by decide +kernel
theorem dX10_canBe_8 : decode cX10_canBe 8 = .ok (.iaload, 1) := by decide +kernel
theorem dX10_canBe_9 : decode cX10_canBe 9 = .ok (.if_icmp .ge 99, 3) := by decide +kernel
theorem dX10_canBe_12 : decode cX10_canBe 12 = .ok (.iload_n 1, 1) := by decide +kernel
theorem dX10_canBe_13 : decode cX10_canBe 13 = .ok (.iload_n 2, 1) := by decide +kernel
theorem dX10_canBe_14 : decode cX10_canBe 14 = .ok (.invokestatic 328, 3) := by decide +kernel
theorem dX10_canBe_17 : decode cX10_canBe 17 = .ok (.ifCond .ne 6, 3) := by decide +kernel
theorem dX10_canBe_20 : decode cX10_canBe 20 = .ok (.goto 82, 3) := by decide +kernel
theorem dX10_canBe_23 : decode cX10_canBe 23 = .ok (.aload_n 0, 1) := by decide +kernel
theorem dX10_canBe_24 : decode cX10_canBe 24 = .ok (.getfield 53, 3) := by decide +kernel
theorem dX10_canBe_27 : decode cX10_canBe 27 = .ok (.iload_n 2, 1) := by decide +kernel
theorem dX10_canBe_28 : decode cX10_canBe 28 = .ok (.iaload, 1) := by decide +kernel
theorem dX10_canBe_29 : decode cX10_canBe 29 = .ok (.iconst 2, 1) := by decide +kernel
theorem dX10_canBe_30 : decode cX10_canBe 30 = .ok (.if_icmp .ne 5, 3) := by decide +kernel
theorem dX10_canBe_33 : decode cX10_canBe 33 = .ok (.iconst 0, 1) := by decide +kernel
theorem dX10_canBe_34 : decode cX10_canBe 34 = .ok (.ireturn, 1) := by decide +kernel
theorem dX10_canBe_35 : decode cX10_canBe 35 = .ok (.iconst 0, 1) := by decide +kernel
theorem dX10_canBe_36 : decode cX10_canBe 36 = .ok (.istore_n 3, 1) := by decide +kernel
theorem dX10_canBe_37 : decode cX10_canBe 37 = .ok (.iload_n 3, 1) := by decide +kernel
theorem dX10_canBe_38 : decode cX10_canBe 38 = .ok (.aload_n 0, 1) := by decide +kernel
theorem dX10_canBe_39 : decode cX10_canBe 39 = .ok (.getfield 49, 3) := by decide +kernel
theorem dX10_canBe_42 : decode cX10_canBe 42 = .ok (.iconst 2, 1) := by decide +kernel
theorem dX10_canBe_43 : decode cX10_canBe 43 = .ok (.iaload, 1) := by decide +kernel
theorem dX10_canBe_44 : decode cX10_canBe 44 = .ok (.if_icmp .ge 58, 3) := by decide +kernel
theorem dX10_canBe_47 : decode cX10_canBe 47 = .ok (.iload_n 1, 1) := by decide +kernel
theorem dX10_canBe_48 : decode cX10_canBe 48 = .ok (.iload_n 3, 1) := by decide +kernel
theorem dX10_canBe_49 : decode cX10_canBe 49 = .ok (.invokestatic 328, 3) := by decide +kernel
theorem dX10_canBe_52 : decode cX10_canBe 52 = .ok (.ifCond .eq 44, 3) := by decide +kernel
theorem dX10_canBe_55 : decode cX10_canBe 55 = .ok (.aload_n 0, 1) := by decide +kernel
theorem dX10_canBe_56 : decode cX10_canBe 56 = .ok (.iload_n 2, 1) := by decide +kernel
theorem dX10_canBe_57 : decode cX10_canBe 57 = .ok (.iload_n 3, 1) := by decide +kernel
theorem dX10_canBe_58 : decode cX10_canBe 58 = .ok (.invokevirtual 332, 3) := by decide +kernel
theorem dX10_canBe_61 : decode cX10_canBe 61 = .ok (.ifCond .eq 35, 3) := by decide +kernel
theorem dX10_canBe_64 : decode cX10_canBe 64 = .ok (.aload_n 0, 1) := by decide +kernel
theorem dX10_canBe_65 : decode cX10_canBe 65 = .ok (.getfield 57, 3) := by decide +kernel
theorem dX10_canBe_68 : decode cX10_canBe 68 = .ok (.iload_n 3, 1) := by decide +kernel
theorem dX10_canBe_69 : decode cX10_canBe 69 = .ok (.iaload, 1) := by decide +kernel
theorem dX10_canBe_70 : decode cX10_canBe 70 = .ok (.aload_n 0, 1) := by decide +kernel
theorem dX10_canBe_71 : decode cX10_canBe 71 = .ok (.getfield 57, 3) := by decide +kernel
theorem dX10_canBe_74 : decode cX10_canBe 74 = .ok (.iload_n 2, 1) := by decide +kernel
theorem dX10_canBe_75 : decode cX10_canBe 75 = .ok (.iaload, 1) := by decide +kernel
theorem dX10_canBe_76 : decode cX10_canBe 76 = .ok (.if_icmp .ge 20, 3) := by decide +kernel
theorem dX10_canBe_79 : decode cX10_canBe 79 = .ok (.aload_n 0, 1) := by decide +kernel
theorem dX10_canBe_80 : decode cX10_canBe 80 = .ok (.getfield 59, 3) := by decide +kernel
theorem dX10_canBe_83 : decode cX10_canBe 83 = .ok (.iload_n 3, 1) := by decide +kernel
theorem dX10_canBe_84 : decode cX10_canBe 84 = .ok (.iaload, 1) := by decide +kernel
theorem dX10_canBe_85 : decode cX10_canBe 85 = .ok (.aload_n 0, 1) := by decide +kernel
theorem dX10_canBe_86 : decode cX10_canBe 86 = .ok (.getfield 59, 3) := by decide +kernel
theorem dX10_canBe_89 : decode cX10_canBe 89 = .ok (.iload_n 2, 1) := by decide +kernel
theorem dX10_canBe_90 : decode cX10_canBe 90 = .ok (.iaload, 1) := by decide +kernel
theorem dX10_canBe_91 : decode cX10_canBe 91 = .ok (.if_icmp .gt 5, 3) := by decide +kernel
theorem dX10_canBe_94 : decode cX10_canBe 94 = .ok (.iconst 0, 1) := by decide +kernel
theorem dX10_canBe_95 : decode cX10_canBe 95 = .ok (.ireturn, 1) := by decide +kernel
theorem dX10_canBe_96 : decode cX10_canBe 96 = .ok (.iinc 3 1, 3) := by decide +kernel
theorem dX10_canBe_99 : decode cX10_canBe 99 = .ok (.goto (-62), 3) := by decide +kernel
theorem dX10_canBe_102 : decode cX10_canBe 102 = .ok (.iinc 2 1, 3) := by decide +kernel
theorem dX10_canBe_105 : decode cX10_canBe 105 = .ok (.goto (-103), 3) := by decide +kernel
theorem dX10_canBe_108 : decode cX10_canBe 108 = .ok (.aload_n 0, 1) := by decide +kernel
theorem dX10_canBe_109 : decode cX10_canBe 109 = .ok (.iload_n 1, 1) := by decide +kernel
theorem dX10_canBe_110 : decode cX10_canBe 110 = .ok (.invokevirtual 342, 3) := by decide +kernel
theorem dX10_canBe_113 : decode cX10_canBe 113 = .ok (.iconst (-1), 1) := by decide +kernel
theorem dX10_canBe_114 : decode cX10_canBe 114 = .ok (.if_icmp .ne 7, 3) := by decide +kernel
theorem dX10_canBe_117 : decode cX10_canBe 117 = .ok (.iconst 1, 1) := by decide +kernel
theorem dX10_canBe_118 : decode cX10_canBe 118 = .ok (.goto 4, 3) := by decide +kernel
theorem dX10_canBe_121 : decode cX10_canBe 121 = .ok (.iconst 0, 1) := by decide +kernel
theorem dX10_canBe_122 : decode cX10_canBe 122 = .ok (.ireturn, 1) := by decide +kernel
theorem sX10_canBe_0 {a0 a1 a2 a3 : Value} (h : am_R E d mX10_canBe k n 1 [a0, a1, a2, a3] (.int 0 :: st) S iv Q) : am_R E d mX10_canBe k n 0 [a0, a1, a2, a3] st S iv Q := am_iconst dX10_canBe_0 (by decide) h
theorem sX10_canBe_1 {a0 a1 a2 a3 : Value} {x : Int32} (h : am_R E d mX10_canBe k n 2 [a0, a1, .int x, a3] st S iv Q) : am_R E d mX10_canBe k n 1 [a0, a1, a2, a3] (.int x :: st) S iv Q := am_istore_n dX10_canBe_1 rfl (by decide) h
theorem sX10_canBe_2 {a0 a1 a3 : Value} {x : Int32} (h : am_R E d mX10_canBe k n 3 [a0, a1, .int x, a3] (.int x :: st) S iv Q) : am_R E d mX10_canBe k n 2 [a0, a1, .int x, a3] st S iv Q := am_iload_n dX10_canBe_2 rfl rfl h
theorem sX10_canBe_3 {a0 a1 a2 a3 : Value} (hv : am_rf a0 = true) (h : am_R E d mX10_canBe k n 4 [a0, a1, a2, a3] (a0 :: st) S iv Q) : am_R E d mX10_canBe k n 3 [a0, a1, a2, a3] st S iv Q := am_aload_n dX10_canBe_3 rfl rfl hv h
theorem sX10_canBe_4 {ls : List Value} {a b : Nat} (ha : S.1 a = some (.inl 10)) (hb : S.2.1 a 4 = some b) (h : am_R E d mX10_canBe k n 7 ls (.ref b :: st) S iv Q) : am_R E d mX10_canBe k n 4 ls (.ref a :: st) S iv Q := am_getR (ci := 10) dX10_canBe_4 rfl rfl (by decide) wq_772 uq_10 rfl ha hb h
theorem sX10_canBe_7 {a0 a1 a2 a3 : Value} (h : am_R E d mX10_canBe k n 8 [a0, a1, a2, a3] (.int 2 :: st) S iv Q) : am_R E d mX10_canBe k n 7 [a0, a1, a2, a3] st S iv Q := am_iconst dX10_canBe_7 (by decide) h
theorem sX10_canBe_8 {ls : List Value} {a m : Nat} {i : Int32} (ha : S.1 a = some (.inr (.int, m))) (hi : vp_in i m) (h : am_R E d mX10_canBe k n 9 ls (.int (iv a i.toNatClampNeg) :: st) S iv Q) : am_R E d mX10_canBe k n 8 ls (.int i :: .ref a :: st) S iv Q := am_iaload dX10_canBe_8 ha hi h
theorem sX10_canBe_9 {ls : List Value} {x y : Int32} (kt : y ≤ x → am_R E d mX10_canBe k n 108 ls st S iv Q) (kf : ¬ y ≤ x → am_R E d mX10_canBe k n 12 ls st S iv Q) : am_R E d mX10_canBe k n 9 ls (.int y :: .int x :: st) S iv Q := am_icmp_ge dX10_canBe_9 (by decide) kt kf
theorem sX10_canBe_12 {a0 a2 a3 : Value} {x : Int32} (h : am_R E d mX10_canBe k n 13 [a0, .int x, a2, a3] (.int x :: st) S iv Q) : am_R E d mX10_canBe k n 12 [a0, .int x, a2, a3] st S iv Q := am_iload_n dX10_canBe_12 rfl rfl h
theorem sX10_canBe_13 {a0 a1 a3 : Value} {x : Int32} (h : am_R E d mX10_canBe k n 14 [a0, a1, .int x, a3] (.int x :: st) S iv Q) : am_R E d mX10_canBe k n 13 [a0, a1, .int x, a3] st S iv Q := am_iload_n dX10_canBe_13 rfl rfl h
theorem sX10_canBe_14 {ls : List Value} {x1 x2 : Value} (hst : (st.map fun v => v.category).sum ≤ 8) (hM : am_M E d mX10_has 0 0 [x1, x2] S iv (am_K3 E (d + 1) mX10_canBe k n 14 ls st Q)) : am_R E (d + 1) mX10_canBe k n 14 ls (x2 :: x1 :: st) S iv Q := am_cS (M' := mX10_has) (as := [x1, x2]) dX10_canBe_14 rfl wq_987 wq_988 wq_808 wq_985 hy_X10_has (by decide) hst (by omega) (by omega) hM
theorem sX10_canBe_14_k {ls : List Value} {x1 x2 : Value} {k' n' : Nat} (hst : (st.map fun v => v.category).sum ≤ 8) (hM : am_M E d mX10_has k' n' [x1, x2] S iv (am_K3 E (d + 1) mX10_canBe k n 14 ls st Q)) : am_R E (d + 1) mX10_canBe (k' + k) (n' + n) 14 ls (x2 :: x1 :: st) S iv Q := am_cS (M' := mX10_has) (as := [x1, x2]) dX10_canBe_14 rfl wq_987 wq_988 wq_808 wq_985 hy_X10_has (by decide) hst (by omega) (by omega) hM
theorem sX10_canBe_17 {ls : List Value} {x : Int32} (kt : ¬ x = 0 → am_R E d mX10_canBe k n 23 ls st S iv Q) (kf : x = 0 → am_R E d mX10_canBe k n 20 ls st S iv Q) : am_R E d mX10_canBe k n 17 ls (.int x :: st) S iv Q := am_if_ne dX10_canBe_17 (by decide) kt kf
theorem sX10_canBe_20 {ls : List Value} (h : am_R E d mX10_canBe k n 102 ls st S iv Q) : am_R E d mX10_canBe k n 20 ls st S iv Q := am_goto dX10_canBe_20 (by decide) h
theorem sX10_canBe_23 {a0 a1 a2 a3 : Value} (hv : am_rf a0 = true) (h : am_R E d mX10_canBe k n 24 [a0, a1, a2, a3] (a0 :: st) S iv Q) : am_R E d mX10_canBe k n 23 [a0, a1, a2, a3] st S iv Q := am_aload_n dX10_canBe_23 rfl rfl hv h
theorem sX10_canBe_24 {ls : List Value} {a b : Nat} (ha : S.1 a = some (.inl 10)) (hb : S.2.1 a 5 = some b) (h : am_R E d mX10_canBe k n 27 ls (.ref b :: st) S iv Q) : am_R E d mX10_canBe k n 24 ls (.ref a :: st) S iv Q := am_getR (ci := 10) dX10_canBe_24 rfl rfl (by decide) wq_773 uq_10 rfl ha hb h
theorem sX10_canBe_27 {a0 a1 a3 : Value} {x : Int32} (h : am_R E d mX10_canBe k n 28 [a0, a1, .int x, a3] (.int x :: st) S iv Q) : am_R E d mX10_canBe k n 27 [a0, a1, .int x, a3] st S iv Q := am_iload_n dX10_canBe_27 rfl rfl h
theorem sX10_canBe_28 {ls : List Value} {a m : Nat} {i : Int32} (ha : S.1 a = some (.inr (.int, m))) (hi : vp_in i m) (h : am_R E d mX10_canBe k n 29 ls (.int (iv a i.toNatClampNeg) :: st) S iv Q) : am_R E d mX10_canBe k n 28 ls (.int i :: .ref a :: st) S iv Q := am_iaload dX10_canBe_28 ha hi h
theorem sX10_canBe_29 {a0 a1 a2 a3 : Value} (h : am_R E d mX10_canBe k n 30 [a0, a1, a2, a3] (.int 2 :: st) S iv Q) : am_R E d mX10_canBe k n 29 [a0, a1, a2, a3] st S iv Q := am_iconst dX10_canBe_29 (by decide) h
theorem sX10_canBe_30 {ls : List Value} {x y : Int32} (kt : ¬ x = y → am_R E d mX10_canBe k n 35 ls st S iv Q) (kf : x = y → am_R E d mX10_canBe k n 33 ls st S iv Q) : am_R E d mX10_canBe k n 30 ls (.int y :: .int x :: st) S iv Q := am_icmp_ne dX10_canBe_30 (by decide) kt kf
theorem sX10_canBe_33 {a0 a1 a2 a3 : Value} (h : am_R E d mX10_canBe k n 34 [a0, a1, a2, a3] (.int 0 :: st) S iv Q) : am_R E d mX10_canBe k n 33 [a0, a1, a2, a3] st S iv Q := am_iconst dX10_canBe_33 (by decide) h
theorem sX10_canBe_34 {ls : List Value} {x : Int32} (hn : narrow .boolean (.int x) = .int x) (h : Q (.inl (some (.int x))) S iv) : am_R E d mX10_canBe k n 34 ls [.int x] S iv Q := am_zreturn dX10_canBe_34 rfl hn h
theorem sX10_canBe_35 {a0 a1 a2 a3 : Value} (h : am_R E d mX10_canBe k n 36 [a0, a1, a2, a3] (.int 0 :: st) S iv Q) : am_R E d mX10_canBe k n 35 [a0, a1, a2, a3] st S iv Q := am_iconst dX10_canBe_35 (by decide) h
theorem sX10_canBe_36 {a0 a1 a2 a3 : Value} {x : Int32} (h : am_R E d mX10_canBe k n 37 [a0, a1, a2, .int x] st S iv Q) : am_R E d mX10_canBe k n 36 [a0, a1, a2, a3] (.int x :: st) S iv Q := am_istore_n dX10_canBe_36 rfl (by decide) h
theorem sX10_canBe_37 {a0 a1 a2 : Value} {x : Int32} (h : am_R E d mX10_canBe k n 38 [a0, a1, a2, .int x] (.int x :: st) S iv Q) : am_R E d mX10_canBe k n 37 [a0, a1, a2, .int x] st S iv Q := am_iload_n dX10_canBe_37 rfl rfl h
theorem sX10_canBe_38 {a0 a1 a2 a3 : Value} (hv : am_rf a0 = true) (h : am_R E d mX10_canBe k n 39 [a0, a1, a2, a3] (a0 :: st) S iv Q) : am_R E d mX10_canBe k n 38 [a0, a1, a2, a3] st S iv Q := am_aload_n dX10_canBe_38 rfl rfl hv h
theorem sX10_canBe_39 {ls : List Value} {a b : Nat} (ha : S.1 a = some (.inl 10)) (hb : S.2.1 a 4 = some b) (h : am_R E d mX10_canBe k n 42 ls (.ref b :: st) S iv Q) : am_R E d mX10_canBe k n 39 ls (.ref a :: st) S iv Q := am_getR (ci := 10) dX10_canBe_39 rfl rfl (by decide) wq_772 uq_10 rfl ha hb h
theorem sX10_canBe_42 {a0 a1 a2 a3 : Value} (h : am_R E d mX10_canBe k n 43 [a0, a1, a2, a3] (.int 2 :: st) S iv Q) : am_R E d mX10_canBe k n 42 [a0, a1, a2, a3] st S iv Q := am_iconst dX10_canBe_42 (by decide) h
theorem sX10_canBe_43 {ls : List Value} {a m : Nat} {i : Int32} (ha : S.1 a = some (.inr (.int, m))) (hi : vp_in i m) (h : am_R E d mX10_canBe k n 44 ls (.int (iv a i.toNatClampNeg) :: st) S iv Q) : am_R E d mX10_canBe k n 43 ls (.int i :: .ref a :: st) S iv Q := am_iaload dX10_canBe_43 ha hi h
theorem sX10_canBe_44 {ls : List Value} {x y : Int32} (kt : y ≤ x → am_R E d mX10_canBe k n 102 ls st S iv Q) (kf : ¬ y ≤ x → am_R E d mX10_canBe k n 47 ls st S iv Q) : am_R E d mX10_canBe k n 44 ls (.int y :: .int x :: st) S iv Q := am_icmp_ge dX10_canBe_44 (by decide) kt kf
theorem sX10_canBe_47 {a0 a2 a3 : Value} {x : Int32} (h : am_R E d mX10_canBe k n 48 [a0, .int x, a2, a3] (.int x :: st) S iv Q) : am_R E d mX10_canBe k n 47 [a0, .int x, a2, a3] st S iv Q := am_iload_n dX10_canBe_47 rfl rfl h
theorem sX10_canBe_48 {a0 a1 a2 : Value} {x : Int32} (h : am_R E d mX10_canBe k n 49 [a0, a1, a2, .int x] (.int x :: st) S iv Q) : am_R E d mX10_canBe k n 48 [a0, a1, a2, .int x] st S iv Q := am_iload_n dX10_canBe_48 rfl rfl h
theorem sX10_canBe_49 {ls : List Value} {x1 x2 : Value} (hst : (st.map fun v => v.category).sum ≤ 8) (hM : am_M E d mX10_has 0 0 [x1, x2] S iv (am_K3 E (d + 1) mX10_canBe k n 49 ls st Q)) : am_R E (d + 1) mX10_canBe k n 49 ls (x2 :: x1 :: st) S iv Q := am_cS (M' := mX10_has) (as := [x1, x2]) dX10_canBe_49 rfl wq_987 wq_988 wq_808 wq_985 hy_X10_has (by decide) hst (by omega) (by omega) hM
theorem sX10_canBe_49_k {ls : List Value} {x1 x2 : Value} {k' n' : Nat} (hst : (st.map fun v => v.category).sum ≤ 8) (hM : am_M E d mX10_has k' n' [x1, x2] S iv (am_K3 E (d + 1) mX10_canBe k n 49 ls st Q)) : am_R E (d + 1) mX10_canBe (k' + k) (n' + n) 49 ls (x2 :: x1 :: st) S iv Q := am_cS (M' := mX10_has) (as := [x1, x2]) dX10_canBe_49 rfl wq_987 wq_988 wq_808 wq_985 hy_X10_has (by decide) hst (by omega) (by omega) hM
theorem sX10_canBe_52 {ls : List Value} {x : Int32} (kt : x = 0 → am_R E d mX10_canBe k n 96 ls st S iv Q) (kf : ¬ x = 0 → am_R E d mX10_canBe k n 55 ls st S iv Q) : am_R E d mX10_canBe k n 52 ls (.int x :: st) S iv Q := am_if_eq dX10_canBe_52 (by decide) kt kf
theorem sX10_canBe_55 {a0 a1 a2 a3 : Value} (hv : am_rf a0 = true) (h : am_R E d mX10_canBe k n 56 [a0, a1, a2, a3] (a0 :: st) S iv Q) : am_R E d mX10_canBe k n 55 [a0, a1, a2, a3] st S iv Q := am_aload_n dX10_canBe_55 rfl rfl hv h
theorem sX10_canBe_56 {a0 a1 a3 : Value} {x : Int32} (h : am_R E d mX10_canBe k n 57 [a0, a1, .int x, a3] (.int x :: st) S iv Q) : am_R E d mX10_canBe k n 56 [a0, a1, .int x, a3] st S iv Q := am_iload_n dX10_canBe_56 rfl rfl h
theorem sX10_canBe_57 {a0 a1 a2 : Value} {x : Int32} (h : am_R E d mX10_canBe k n 58 [a0, a1, a2, .int x] (.int x :: st) S iv Q) : am_R E d mX10_canBe k n 57 [a0, a1, a2, .int x] st S iv Q := am_iload_n dX10_canBe_57 rfl rfl h
theorem sX10_canBe_58 {ls : List Value} {x1 x2 : Value} {a : Nat} (ha : S.1 a = some (.inl 10)) (hst : (st.map fun v => v.category).sum ≤ 8) (hM : am_M E d mX10_shares 0 0 [.ref a, x1, x2] S iv (am_K3 E (d + 1) mX10_canBe k n 58 ls st Q)) : am_R E (d + 1) mX10_canBe k n 58 ls (x2 :: x1 :: .ref a :: st) S iv Q := am_cV (ci := 10) (M' := mX10_shares) (as := [x1, x2]) dX10_canBe_58 rfl rfl rfl wq_991 wq_992 wq_993 wq_808 wq_989 hy_X10_shares (by decide) ha hst (by omega) (by omega) hM
theorem sX10_canBe_58_k {ls : List Value} {x1 x2 : Value} {k' n' : Nat} {a : Nat} (ha : S.1 a = some (.inl 10)) (hst : (st.map fun v => v.category).sum ≤ 8) (hM : am_M E d mX10_shares k' n' [.ref a, x1, x2] S iv (am_K3 E (d + 1) mX10_canBe k n 58 ls st Q)) : am_R E (d + 1) mX10_canBe (k' + k) (n' + n) 58 ls (x2 :: x1 :: .ref a :: st) S iv Q := am_cV (ci := 10) (M' := mX10_shares) (as := [x1, x2]) dX10_canBe_58 rfl rfl rfl wq_991 wq_992 wq_993 wq_808 wq_989 hy_X10_shares (by decide) ha hst (by omega) (by omega) hM
theorem sX10_canBe_61 {ls : List Value} {x : Int32} (kt : x = 0 → am_R E d mX10_canBe k n 96 ls st S iv Q) (kf : ¬ x = 0 → am_R E d mX10_canBe k n 64 ls st S iv Q) : am_R E d mX10_canBe k n 61 ls (.int x :: st) S iv Q := am_if_eq dX10_canBe_61 (by decide) kt kf
theorem sX10_canBe_64 {a0 a1 a2 a3 : Value} (hv : am_rf a0 = true) (h : am_R E d mX10_canBe k n 65 [a0, a1, a2, a3] (a0 :: st) S iv Q) : am_R E d mX10_canBe k n 64 [a0, a1, a2, a3] st S iv Q := am_aload_n dX10_canBe_64 rfl rfl hv h
theorem sX10_canBe_65 {ls : List Value} {a b : Nat} (ha : S.1 a = some (.inl 10)) (hb : S.2.1 a 7 = some b) (h : am_R E d mX10_canBe k n 68 ls (.ref b :: st) S iv Q) : am_R E d mX10_canBe k n 65 ls (.ref a :: st) S iv Q := am_getR (ci := 10) dX10_canBe_65 rfl rfl (by decide) wq_775 uq_10 rfl ha hb h
theorem sX10_canBe_68 {a0 a1 a2 : Value} {x : Int32} (h : am_R E d mX10_canBe k n 69 [a0, a1, a2, .int x] (.int x :: st) S iv Q) : am_R E d mX10_canBe k n 68 [a0, a1, a2, .int x] st S iv Q := am_iload_n dX10_canBe_68 rfl rfl h
theorem sX10_canBe_69 {ls : List Value} {a m : Nat} {i : Int32} (ha : S.1 a = some (.inr (.int, m))) (hi : vp_in i m) (h : am_R E d mX10_canBe k n 70 ls (.int (iv a i.toNatClampNeg) :: st) S iv Q) : am_R E d mX10_canBe k n 69 ls (.int i :: .ref a :: st) S iv Q := am_iaload dX10_canBe_69 ha hi h
theorem sX10_canBe_70 {a0 a1 a2 a3 : Value} (hv : am_rf a0 = true) (h : am_R E d mX10_canBe k n 71 [a0, a1, a2, a3] (a0 :: st) S iv Q) : am_R E d mX10_canBe k n 70 [a0, a1, a2, a3] st S iv Q := am_aload_n dX10_canBe_70 rfl rfl hv h
theorem sX10_canBe_71 {ls : List Value} {a b : Nat} (ha : S.1 a = some (.inl 10)) (hb : S.2.1 a 7 = some b) (h : am_R E d mX10_canBe k n 74 ls (.ref b :: st) S iv Q) : am_R E d mX10_canBe k n 71 ls (.ref a :: st) S iv Q := am_getR (ci := 10) dX10_canBe_71 rfl rfl (by decide) wq_775 uq_10 rfl ha hb h
theorem sX10_canBe_74 {a0 a1 a3 : Value} {x : Int32} (h : am_R E d mX10_canBe k n 75 [a0, a1, .int x, a3] (.int x :: st) S iv Q) : am_R E d mX10_canBe k n 74 [a0, a1, .int x, a3] st S iv Q := am_iload_n dX10_canBe_74 rfl rfl h
theorem sX10_canBe_75 {ls : List Value} {a m : Nat} {i : Int32} (ha : S.1 a = some (.inr (.int, m))) (hi : vp_in i m) (h : am_R E d mX10_canBe k n 76 ls (.int (iv a i.toNatClampNeg) :: st) S iv Q) : am_R E d mX10_canBe k n 75 ls (.int i :: .ref a :: st) S iv Q := am_iaload dX10_canBe_75 ha hi h
theorem sX10_canBe_76 {ls : List Value} {x y : Int32} (kt : y ≤ x → am_R E d mX10_canBe k n 96 ls st S iv Q) (kf : ¬ y ≤ x → am_R E d mX10_canBe k n 79 ls st S iv Q) : am_R E d mX10_canBe k n 76 ls (.int y :: .int x :: st) S iv Q := am_icmp_ge dX10_canBe_76 (by decide) kt kf
theorem sX10_canBe_79 {a0 a1 a2 a3 : Value} (hv : am_rf a0 = true) (h : am_R E d mX10_canBe k n 80 [a0, a1, a2, a3] (a0 :: st) S iv Q) : am_R E d mX10_canBe k n 79 [a0, a1, a2, a3] st S iv Q := am_aload_n dX10_canBe_79 rfl rfl hv h
theorem sX10_canBe_80 {ls : List Value} {a b : Nat} (ha : S.1 a = some (.inl 10)) (hb : S.2.1 a 8 = some b) (h : am_R E d mX10_canBe k n 83 ls (.ref b :: st) S iv Q) : am_R E d mX10_canBe k n 80 ls (.ref a :: st) S iv Q := am_getR (ci := 10) dX10_canBe_80 rfl rfl (by decide) wq_776 uq_10 rfl ha hb h
theorem sX10_canBe_83 {a0 a1 a2 : Value} {x : Int32} (h : am_R E d mX10_canBe k n 84 [a0, a1, a2, .int x] (.int x :: st) S iv Q) : am_R E d mX10_canBe k n 83 [a0, a1, a2, .int x] st S iv Q := am_iload_n dX10_canBe_83 rfl rfl h
theorem sX10_canBe_84 {ls : List Value} {a m : Nat} {i : Int32} (ha : S.1 a = some (.inr (.int, m))) (hi : vp_in i m) (h : am_R E d mX10_canBe k n 85 ls (.int (iv a i.toNatClampNeg) :: st) S iv Q) : am_R E d mX10_canBe k n 84 ls (.int i :: .ref a :: st) S iv Q := am_iaload dX10_canBe_84 ha hi h
theorem sX10_canBe_85 {a0 a1 a2 a3 : Value} (hv : am_rf a0 = true) (h : am_R E d mX10_canBe k n 86 [a0, a1, a2, a3] (a0 :: st) S iv Q) : am_R E d mX10_canBe k n 85 [a0, a1, a2, a3] st S iv Q := am_aload_n dX10_canBe_85 rfl rfl hv h
theorem sX10_canBe_86 {ls : List Value} {a b : Nat} (ha : S.1 a = some (.inl 10)) (hb : S.2.1 a 8 = some b) (h : am_R E d mX10_canBe k n 89 ls (.ref b :: st) S iv Q) : am_R E d mX10_canBe k n 86 ls (.ref a :: st) S iv Q := am_getR (ci := 10) dX10_canBe_86 rfl rfl (by decide) wq_776 uq_10 rfl ha hb h
theorem sX10_canBe_89 {a0 a1 a3 : Value} {x : Int32} (h : am_R E d mX10_canBe k n 90 [a0, a1, .int x, a3] (.int x :: st) S iv Q) : am_R E d mX10_canBe k n 89 [a0, a1, .int x, a3] st S iv Q := am_iload_n dX10_canBe_89 rfl rfl h
theorem sX10_canBe_90 {ls : List Value} {a m : Nat} {i : Int32} (ha : S.1 a = some (.inr (.int, m))) (hi : vp_in i m) (h : am_R E d mX10_canBe k n 91 ls (.int (iv a i.toNatClampNeg) :: st) S iv Q) : am_R E d mX10_canBe k n 90 ls (.int i :: .ref a :: st) S iv Q := am_iaload dX10_canBe_90 ha hi h
theorem sX10_canBe_91 {ls : List Value} {x y : Int32} (kt : y < x → am_R E d mX10_canBe k n 96 ls st S iv Q) (kf : ¬ y < x → am_R E d mX10_canBe k n 94 ls st S iv Q) : am_R E d mX10_canBe k n 91 ls (.int y :: .int x :: st) S iv Q := am_icmp_gt dX10_canBe_91 (by decide) kt kf
theorem sX10_canBe_94 {a0 a1 a2 a3 : Value} (h : am_R E d mX10_canBe k n 95 [a0, a1, a2, a3] (.int 0 :: st) S iv Q) : am_R E d mX10_canBe k n 94 [a0, a1, a2, a3] st S iv Q := am_iconst dX10_canBe_94 (by decide) h
theorem sX10_canBe_95 {ls : List Value} {x : Int32} (hn : narrow .boolean (.int x) = .int x) (h : Q (.inl (some (.int x))) S iv) : am_R E d mX10_canBe k n 95 ls [.int x] S iv Q := am_zreturn dX10_canBe_95 rfl hn h
theorem sX10_canBe_96 {a0 a1 a2 : Value} {x : Int32} (h : am_R E d mX10_canBe k n 99 [a0, a1, a2, .int (x + 1)] st S iv Q) : am_R E d mX10_canBe k n 96 [a0, a1, a2, .int x] st S iv Q := am_iinc dX10_canBe_96 rfl rfl (by decide) h
theorem sX10_canBe_99 {ls : List Value} (h : am_R E d mX10_canBe k n 37 ls st S iv Q) : am_R E d mX10_canBe k n 99 ls st S iv Q := am_goto dX10_canBe_99 (by decide) h
theorem sX10_canBe_102 {a0 a1 a3 : Value} {x : Int32} (h : am_R E d mX10_canBe k n 105 [a0, a1, .int (x + 1), a3] st S iv Q) : am_R E d mX10_canBe k n 102 [a0, a1, .int x, a3] st S iv Q := am_iinc dX10_canBe_102 rfl rfl (by decide) h
theorem sX10_canBe_105 {ls : List Value} (h : am_R E d mX10_canBe k n 2 ls st S iv Q) : am_R E d mX10_canBe k n 105 ls st S iv Q := am_goto dX10_canBe_105 (by decide) h
theorem sX10_canBe_108 {a0 a1 a2 a3 : Value} (hv : am_rf a0 = true) (h : am_R E d mX10_canBe k n 109 [a0, a1, a2, a3] (a0 :: st) S iv Q) : am_R E d mX10_canBe k n 108 [a0, a1, a2, a3] st S iv Q := am_aload_n dX10_canBe_108 rfl rfl hv h
theorem sX10_canBe_109 {a0 a2 a3 : Value} {x : Int32} (h : am_R E d mX10_canBe k n 110 [a0, .int x, a2, a3] (.int x :: st) S iv Q) : am_R E d mX10_canBe k n 109 [a0, .int x, a2, a3] st S iv Q := am_iload_n dX10_canBe_109 rfl rfl h
theorem sX10_canBe_110 {ls : List Value} {x1 : Value} {a : Nat} (ha : S.1 a = some (.inl 10)) (hst : (st.map fun v => v.category).sum ≤ 8) (hM : am_M E d mX10_brokenBy 0 0 [.ref a, x1] S iv (am_K3 E (d + 1) mX10_canBe k n 110 ls st Q)) : am_R E (d + 1) mX10_canBe k n 110 ls (x1 :: .ref a :: st) S iv Q := am_cV (ci := 10) (M' := mX10_brokenBy) (as := [x1]) dX10_canBe_110 rfl rfl rfl wq_1006 wq_1007 wq_1008 wq_808 wq_1004 hy_X10_brokenBy (by decide) ha hst (by omega) (by omega) hM
theorem sX10_canBe_110_k {ls : List Value} {x1 : Value} {k' n' : Nat} {a : Nat} (ha : S.1 a = some (.inl 10)) (hst : (st.map fun v => v.category).sum ≤ 8) (hM : am_M E d mX10_brokenBy k' n' [.ref a, x1] S iv (am_K3 E (d + 1) mX10_canBe k n 110 ls st Q)) : am_R E (d + 1) mX10_canBe (k' + k) (n' + n) 110 ls (x1 :: .ref a :: st) S iv Q := am_cV (ci := 10) (M' := mX10_brokenBy) (as := [x1]) dX10_canBe_110 rfl rfl rfl wq_1006 wq_1007 wq_1008 wq_808 wq_1004 hy_X10_brokenBy (by decide) ha hst (by omega) (by omega) hM
theorem sX10_canBe_113 {a0 a1 a2 a3 : Value} (h : am_R E d mX10_canBe k n 114 [a0, a1, a2, a3] (.int (-1) :: st) S iv Q) : am_R E d mX10_canBe k n 113 [a0, a1, a2, a3] st S iv Q := am_iconst dX10_canBe_113 (by decide) h
theorem sX10_canBe_114 {ls : List Value} {x y : Int32} (kt : ¬ x = y → am_R E d mX10_canBe k n 121 ls st S iv Q) (kf : x = y → am_R E d mX10_canBe k n 117 ls st S iv Q) : am_R E d mX10_canBe k n 114 ls (.int y :: .int x :: st) S iv Q := am_icmp_ne dX10_canBe_114 (by decide) kt kf
theorem sX10_canBe_117 {a0 a1 a2 a3 : Value} (h : am_R E d mX10_canBe k n 118 [a0, a1, a2, a3] (.int 1 :: st) S iv Q) : am_R E d mX10_canBe k n 117 [a0, a1, a2, a3] st S iv Q := am_iconst dX10_canBe_117 (by decide) h
theorem sX10_canBe_118 {ls : List Value} (h : am_R E d mX10_canBe k n 122 ls st S iv Q) : am_R E d mX10_canBe k n 118 ls st S iv Q := am_goto dX10_canBe_118 (by decide) h
theorem sX10_canBe_121 {a0 a1 a2 a3 : Value} (h : am_R E d mX10_canBe k n 122 [a0, a1, a2, a3] (.int 0 :: st) S iv Q) : am_R E d mX10_canBe k n 121 [a0, a1, a2, a3] st S iv Q := am_iconst dX10_canBe_121 (by decide) h
theorem sX10_canBe_122 {ls : List Value} {x : Int32} (hn : narrow .boolean (.int x) = .int x) (h : Q (.inl (some (.int x))) S iv) : am_R E d mX10_canBe k n 122 ls [.int x] S iv Q := am_zreturn dX10_canBe_122 rfl hn h
end R13_Xm1
