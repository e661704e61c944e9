section R13_L
variable {E : am_E} {d k n : Nat} {st : List Value} {S : am_S} {iv : am_I} {Q : am_O → am_S → am_I → Prop}
theorem dL_city_0 : decode cL_city 0 = .ok (.aload_n 2, 1) := by decide +kernel
theorem dL_city_1 : decode cL_city 1 = .ok (.iconst 0, 1) := by decide +kernel
theorem dL_city_2 : decode cL_city 2 = .ok (.aload_n 0, 1) := by decide +kernel
theorem dL_city_3 : decode cL_city 3 = .ok (.iload_n 1, 1) := by decide +kernel
theorem dL_city_4 : decode cL_city 4 = .ok (.invokevirtual 7, 3) := by decide +kernel
theorem dL_city_7 : decode cL_city 7 = .ok (.i2l, 1) := by decide +kernel
theorem dL_city_8 : decode cL_city 8 = .ok (.lastore, 1) := by decide +kernel
theorem dL_city_9 : decode cL_city 9 = .ok (.goto 6, 3) := by decide +kernel
theorem dL_city_12 : decode cL_city 12 = .ok (.astore_n 3, 1) := by decide +kernel
theorem dL_city_13 : decode cL_city 13 = .ok (.iconst 1, 1) := by decide +kernel
theorem dL_city_14 : decode cL_city 14 = .ok (.ireturn, 1) := by decide +kernel
theorem dL_city_15 : decode cL_city 15 = .ok (.iconst 0, 1) := by decide +kernel
theorem dL_city_16 : decode cL_city 16 = .ok (.ireturn, 1) := by decide +kernel
theorem sL_city_0 {a0 a1 a2 a3 : Value} (hv : am_rf a2 = true) (h : am_R E d mL_city k n 1 [a0, a1, a2, a3] (a2 :: st) S iv Q) : am_R E d mL_city k n 0 [a0, a1, a2, a3] st S iv Q := am_aload_n dL_city_0 rfl rfl hv h
theorem sL_city_1 {a0 a1 a2 a3 : Value} (h : am_R E d mL_city k n 2 [a0, a1, a2, a3] (.int 0 :: st) S iv Q) : am_R E d mL_city k n 1 [a0, a1, a2, a3] st S iv Q := am_iconst dL_city_1 (by decide) h
theorem sL_city_2 {a0 a1 a2 a3 : Value} (hv : am_rf a0 = true) (h : am_R E d mL_city k n 3 [a0, a1, a2, a3] (a0 :: st) S iv Q) : am_R E d mL_city k n 2 [a0, a1, a2, a3] st S iv Q := am_aload_n dL_city_2 rfl rfl hv h
theorem sL_city_3 {a0 a2 a3 : Value} {x : Int32} (h : am_R E d mL_city k n 4 [a0, .int x, a2, a3] (.int x :: st) S iv Q) : am_R E d mL_city k n 3 [a0, .int x, a2, a3] st S iv Q := am_iload_n dL_city_3 rfl rfl h
theorem sL_city_4 {ls : List Value} {x1 : Value} {a : Nat} (ha : S.1 a = some (.inl 9)) (hst : (st.map fun v => v.category).sum ≤ 8) (hM : am_M E d mX9_city 0 0 [.ref a, x1] S iv (am_K3 E (d + 1) mL_city k n 4 ls st Q)) : am_R E (d + 1) mL_city k n 4 ls (x1 :: .ref a :: st) S iv Q := am_cV (ci := 9) (M' := mX9_city) (as := [x1]) dL_city_4 rfl rfl rfl wq_1133 wq_1134 wq_1135 wq_581 wq_1131 hy_X9_city (by decide) ha hst (by omega) (by omega) hM
theorem sL_city_4_k {ls : List Value} {x1 : Value} {k' n' : Nat} {a : Nat} (ha : S.1 a = some (.inl 9)) (hst : (st.map fun v => v.category).sum ≤ 8) (hM : am_M E d mX9_city k' n' [.ref a, x1] S iv (am_K3 E (d + 1) mL_city k n 4 ls st Q)) : am_R E (d + 1) mL_city (k' + k) (n' + n) 4 ls (x1 :: .ref a :: st) S iv Q := am_cV (ci := 9) (M' := mX9_city) (as := [x1]) dL_city_4 rfl rfl rfl wq_1133 wq_1134 wq_1135 wq_581 wq_1131 hy_X9_city (by decide) ha hst (by omega) (by omega) hM
theorem sL_city_7 {ls : List Value} {x : Int32} (h : am_R E d mL_city k n 8 ls (.long x.toInt64 :: st) S iv Q) : am_R E d mL_city k n 7 ls (.int x :: st) S iv Q := am_i2l dL_city_7 h
theorem sL_city_8 {ls : List Value} {a m : Nat} {i : Int32} {x : Int64} (ha : S.1 a = some (.inr (.long, m))) (hi : vp_in i m) (h : am_R E d mL_city k n 9 ls st (am_wl S a i.toNatClampNeg x) iv Q) : am_R E d mL_city k n 8 ls (.long x :: .int i :: .ref a :: st) S iv Q := am_lastore dL_city_8 ha hi h
theorem sL_city_9 {ls : List Value} (h : am_R E d mL_city k n 15 ls st S iv Q) : am_R E d mL_city k n 9 ls st S iv Q := am_goto dL_city_9 (by decide) h
theorem sL_city_12 {a0 a1 a2 a3 : Value} {x : Value} (hv : am_rf x = true) (h : am_R E d mL_city k n 13 [a0, a1, a2, x] st S iv Q) : am_R E d mL_city k n 12 [a0, a1, a2, a3] (x :: st) S iv Q := am_astore_n dL_city_12 rfl (by decide) hv h
theorem sL_city_13 {a0 a1 a2 a3 : Value} (h : am_R E d mL_city k n 14 [a0, a1, a2, a3] (.int 1 :: st) S iv Q) : am_R E d mL_city k n 13 [a0, a1, a2, a3] st S iv Q := am_iconst dL_city_13 (by decide) h
theorem sL_city_14 {ls : List Value} {x : Int32} (h : Q (.inl (some (.int x))) S iv) : am_R E d mL_city k n 14 ls [.int x] S iv Q := am_ireturn dL_city_14 rfl h
theorem sL_city_15 {a0 a1 a2 a3 : Value} (h : am_R E d mL_city k n 16 [a0, a1, a2, a3] (.int 0 :: st) S iv Q) : am_R E d mL_city k n 15 [a0, a1, a2, a3] st S iv Q := am_iconst dL_city_15 (by decide) h
theorem sL_city_16 {ls : List Value} {x : Int32} (h : Q (.inl (some (.int x))) S iv) : am_R E d mL_city k n 16 ls [.int x] S iv Q := am_ireturn dL_city_16 rfl h
theorem dL_count_0 : decode cL_count 0 = .ok (.aload_n 2, 1) := by decide +kernel
theorem dL_count_1 : decode cL_count 1 = .ok (.iconst 0, 1) := by decide +kernel
theorem dL_count_2 : decode cL_count 2 = .ok (.aload_n 0, 1) := by decide +kernel
theorem dL_count_3 : decode cL_count 3 = .ok (.iload_n 1, 1) := by decide +kernel
theorem dL_count_4 : decode cL_count 4 = .ok (.invokevirtual 15, 3) := by decide +kernel
theorem dL_count_7 : decode cL_count 7 = .ok (.i2l, 1) := by decide +kernel
theorem dL_count_8 : decode cL_count 8 = .ok (.lastore, 1) := by decide +kernel
theorem dL_count_9 : decode cL_count 9 = .ok (.goto 6, 3) := by decide +kernel
theorem dL_count_12 : decode cL_count 12 = .ok (.astore_n 3, 1) := by decide +kernel
theorem dL_count_13 : decode cL_count 13 = .ok (.iconst 1, 1) := by decide +kernel
theorem dL_count_14 : decode cL_count 14 = .ok (.ireturn, 1) := by decide +kernel
theorem dL_count_15 : decode cL_count 15 = .ok (.iconst 0, 1) := by decide +kernel
theorem dL_count_16 : decode cL_count 16 = .ok (.ireturn, 1) := by decide +kernel
theorem sL_count_0 {a0 a1 a2 a3 : Value} (hv : am_rf a2 = true) (h : am_R E d mL_count k n 1 [a0, a1, a2, a3] (a2 :: st) S iv Q) : am_R E d mL_count k n 0 [a0, a1, a2, a3] st S iv Q := am_aload_n dL_count_0 rfl rfl hv h
theorem sL_count_1 {a0 a1 a2 a3 : Value} (h : am_R E d mL_count k n 2 [a0, a1, a2, a3] (.int 0 :: st) S iv Q) : am_R E d mL_count k n 1 [a0, a1, a2, a3] st S iv Q := am_iconst dL_count_1 (by decide) h
theorem sL_count_2 {a0 a1 a2 a3 : Value} (hv : am_rf a0 = true) (h : am_R E d mL_count k n 3 [a0, a1, a2, a3] (a0 :: st) S iv Q) : am_R E d mL_count k n 2 [a0, a1, a2, a3] st S iv Q := am_aload_n dL_count_2 rfl rfl hv h
theorem sL_count_3 {a0 a2 a3 : Value} {x : Int32} (h : am_R E d mL_count k n 4 [a0, .int x, a2, a3] (.int x :: st) S iv Q) : am_R E d mL_count k n 3 [a0, .int x, a2, a3] st S iv Q := am_iload_n dL_count_3 rfl rfl h
theorem sL_count_4 {ls : List Value} {x1 : Value} {a : Nat} (ha : S.1 a = some (.inl 9)) (hst : (st.map fun v => v.category).sum ≤ 8) (hM : am_M E d mX9_count 0 0 [.ref a, x1] S iv (am_K3 E (d + 1) mL_count k n 4 ls st Q)) : am_R E (d + 1) mL_count k n 4 ls (x1 :: .ref a :: st) S iv Q := am_cV (ci := 9) (M' := mX9_count) (as := [x1]) dL_count_4 rfl rfl rfl wq_1138 wq_1139 wq_1140 wq_581 wq_1136 hy_X9_count (by decide) ha hst (by omega) (by omega) hM
theorem sL_count_4_k {ls : List Value} {x1 : Value} {k' n' : Nat} {a : Nat} (ha : S.1 a = some (.inl 9)) (hst : (st.map fun v => v.category).sum ≤ 8) (hM : am_M E d mX9_count k' n' [.ref a, x1] S iv (am_K3 E (d + 1) mL_count k n 4 ls st Q)) : am_R E (d + 1) mL_count (k' + k) (n' + n) 4 ls (x1 :: .ref a :: st) S iv Q := am_cV (ci := 9) (M' := mX9_count) (as := [x1]) dL_count_4 rfl rfl rfl wq_1138 wq_1139 wq_1140 wq_581 wq_1136 hy_X9_count (by decide) ha hst (by omega) (by omega) hM
theorem sL_count_7 {ls : List Value} {x : Int32} (h : am_R E d mL_count k n 8 ls (.long x.toInt64 :: st) S iv Q) : am_R E d mL_count k n 7 ls (.int x :: st) S iv Q := am_i2l dL_count_7 h
theorem sL_count_8 {ls : List Value} {a m : Nat} {i : Int32} {x : Int64} (ha : S.1 a = some (.inr (.long, m))) (hi : vp_in i m) (h : am_R E d mL_count k n 9 ls st (am_wl S a i.toNatClampNeg x) iv Q) : am_R E d mL_count k n 8 ls (.long x :: .int i :: .ref a :: st) S iv Q := am_lastore dL_count_8 ha hi h
theorem sL_count_9 {ls : List Value} (h : am_R E d mL_count k n 15 ls st S iv Q) : am_R E d mL_count k n 9 ls st S iv Q := am_goto dL_count_9 (by decide) h
theorem sL_count_12 {a0 a1 a2 a3 : Value} {x : Value} (hv : am_rf x = true) (h : am_R E d mL_count k n 13 [a0, a1, a2, x] st S iv Q) : am_R E d mL_count k n 12 [a0, a1, a2, a3] (x :: st) S iv Q := am_astore_n dL_count_12 rfl (by decide) hv h
theorem sL_count_13 {a0 a1 a2 a3 : Value} (h : am_R E d mL_count k n 14 [a0, a1, a2, a3] (.int 1 :: st) S iv Q) : am_R E d mL_count k n 13 [a0, a1, a2, a3] st S iv Q := am_iconst dL_count_13 (by decide) h
theorem sL_count_14 {ls : List Value} {x : Int32} (h : Q (.inl (some (.int x))) S iv) : am_R E d mL_count k n 14 ls [.int x] S iv Q := am_ireturn dL_count_14 rfl h
theorem sL_count_15 {a0 a1 a2 a3 : Value} (h : am_R E d mL_count k n 16 [a0, a1, a2, a3] (.int 0 :: st) S iv Q) : am_R E d mL_count k n 15 [a0, a1, a2, a3] st S iv Q := am_iconst dL_count_15 (by decide) h
theorem sL_count_16 {ls : List Value} {x : Int32} (h : Q (.inl (some (.int x))) S iv) : am_R E d mL_count k n 16 ls [.int x] S iv Q := am_ireturn dL_count_16 rfl h
theorem dL_drawer_0 : decode cL_drawer 0 = .ok (.aload_n 3, 1) := by decide +kernel
theorem dL_drawer_1 : decode cL_drawer 1 = .ok (.iconst 0, 1) := by decide +kernel
theorem dL_drawer_2 : decode cL_drawer 2 = .ok (.aload_n 0, 1) := by decide +kernel
theorem dL_drawer_3 : decode cL_drawer 3 = .ok (.iload_n 1, 1) := by decide +kernel
theorem dL_drawer_4 : decode cL_drawer 4 = .ok (.iload_n 2, 1) := by decide +kernel
theorem dL_drawer_5 : decode cL_drawer 5 = .ok (.invokevirtual 20, 3) := by decide +kernel
theorem dL_drawer_8 : decode cL_drawer 8 = .ok (.i2l, 1) := by decide +kernel
theorem dL_drawer_9 : decode cL_drawer 9 = .ok (.lastore, 1) := by decide +kernel
theorem dL_drawer_10 : decode cL_drawer 10 = .ok (.goto 7, 3) := by decide +kernel
theorem dL_drawer_13 : decode cL_drawer 13 = .ok (.astore 4, 2) := by decide +kernel
theorem dL_drawer_15 : decode cL_drawer 15 = .ok (.iconst 1, 1) := by decide +kernel
theorem dL_drawer_16 : decode cL_drawer 16 = .ok (.ireturn, 1) := by decide +kernel
theorem dL_drawer_17 : decode cL_drawer 17 = .ok (.iconst 0, 1) := by decide +kernel
theorem dL_drawer_18 : decode cL_drawer 18 = .ok (.ireturn, 1) := by decide +kernel
theorem sL_drawer_0 {a0 a1 a2 a3 a4 : Value} (hv : am_rf a3 = true) (h : am_R E d mL_drawer k n 1 [a0, a1, a2, a3, a4] (a3 :: st) S iv Q) : am_R E d mL_drawer k n 0 [a0, a1, a2, a3, a4] st S iv Q := am_aload_n dL_drawer_0 rfl rfl hv h
theorem sL_drawer_1 {a0 a1 a2 a3 a4 : Value} (h : am_R E d mL_drawer k n 2 [a0, a1, a2, a3, a4] (.int 0 :: st) S iv Q) : am_R E d mL_drawer k n 1 [a0, a1, a2, a3, a4] st S iv Q := am_iconst dL_drawer_1 (by decide) h
theorem sL_drawer_2 {a0 a1 a2 a3 a4 : Value} (hv : am_rf a0 = true) (h : am_R E d mL_drawer k n 3 [a0, a1, a2, a3, a4] (a0 :: st) S iv Q) : am_R E d mL_drawer k n 2 [a0, a1, a2, a3, a4] st S iv Q := am_aload_n dL_drawer_2 rfl rfl hv h
theorem sL_drawer_3 {a0 a2 a3 a4 : Value} {x : Int32} (h : am_R E d mL_drawer k n 4 [a0, .int x, a2, a3, a4] (.int x :: st) S iv Q) : am_R E d mL_drawer k n 3 [a0, .int x, a2, a3, a4] st S iv Q := am_iload_n dL_drawer_3 rfl rfl h
theorem sL_drawer_4 {a0 a1 a3 a4 : Value} {x : Int32} (h : am_R E d mL_drawer k n 5 [a0, a1, .int x, a3, a4] (.int x :: st) S iv Q) : am_R E d mL_drawer k n 4 [a0, a1, .int x, a3, a4] st S iv Q := am_iload_n dL_drawer_4 rfl rfl h
theorem sL_drawer_5 {ls : List Value} {x1 x2 : Value} {a : Nat} (ha : S.1 a = some (.inl 9)) (hst : (st.map fun v => v.category).sum ≤ 8) (hM : am_M E d mX9_drawer 0 0 [.ref a, x1, x2] S iv (am_K3 E (d + 1) mL_drawer k n 5 ls st Q)) : am_R E (d + 1) mL_drawer k n 5 ls (x2 :: x1 :: .ref a :: st) S iv Q := am_cV (ci := 9) (M' := mX9_drawer) (as := [x1, x2]) dL_drawer_5 rfl rfl rfl wq_1143 wq_1144 wq_1145 wq_581 wq_1141 hy_X9_drawer (by decide) ha hst (by omega) (by omega) hM
theorem sL_drawer_5_k {ls : List Value} {x1 x2 : Value} {k' n' : Nat} {a : Nat} (ha : S.1 a = some (.inl 9)) (hst : (st.map fun v => v.category).sum ≤ 8) (hM : am_M E d mX9_drawer k' n' [.ref a, x1, x2] S iv (am_K3 E (d + 1) mL_drawer k n 5 ls st Q)) : am_R E (d + 1) mL_drawer (k' + k) (n' + n) 5 ls (x2 :: x1 :: .ref a :: st) S iv Q := am_cV (ci := 9) (M' := mX9_drawer) (as := [x1, x2]) dL_drawer_5 rfl rfl rfl wq_1143 wq_1144 wq_1145 wq_581 wq_1141 hy_X9_drawer (by decide) ha hst (by omega) (by omega) hM
theorem sL_drawer_8 {ls : List Value} {x : Int32} (h : am_R E d mL_drawer k n 9 ls (.long x.toInt64 :: st) S iv Q) : am_R E d mL_drawer k n 8 ls (.int x :: st) S iv Q := am_i2l dL_drawer_8 h
theorem sL_drawer_9 {ls : List Value} {a m : Nat} {i : Int32} {x : Int64} (ha : S.1 a = some (.inr (.long, m))) (hi : vp_in i m) (h : am_R E d mL_drawer k n 10 ls st (am_wl S a i.toNatClampNeg x) iv Q) : am_R E d mL_drawer k n 9 ls (.long x :: .int i :: .ref a :: st) S iv Q := am_lastore dL_drawer_9 ha hi h
theorem sL_drawer_10 {ls : List Value} (h : am_R E d mL_drawer k n 17 ls st S iv Q) : am_R E d mL_drawer k n 10 ls st S iv Q := am_goto dL_drawer_10 (by decide) h
theorem sL_drawer_13 {a0 a1 a2 a3 a4 : Value} {x : Value} (hv : am_rf x = true) (h : am_R E d mL_drawer k n 15 [a0, a1, a2, a3, x] st S iv Q) : am_R E d mL_drawer k n 13 [a0, a1, a2, a3, a4] (x :: st) S iv Q := am_astore dL_drawer_13 (by decide) hv h
theorem sL_drawer_15 {a0 a1 a2 a3 a4 : Value} (h : am_R E d mL_drawer k n 16 [a0, a1, a2, a3, a4] (.int 1 :: st) S iv Q) : am_R E d mL_drawer k n 15 [a0, a1, a2, a3, a4] st S iv Q := am_iconst dL_drawer_15 (by decide) h
theorem sL_drawer_16 {ls : List Value} {x : Int32} (h : Q (.inl (some (.int x))) S iv) : am_R E d mL_drawer k n 16 ls [.int x] S iv Q := am_ireturn dL_drawer_16 rfl h
theorem sL_drawer_17 {a0 a1 a2 a3 a4 : Value} (h : am_R E d mL_drawer k n 18 [a0, a1, a2, a3, a4] (.int 0 :: st) S iv Q) : am_R E d mL_drawer k n 17 [a0, a1, a2, a3, a4] st S iv Q := am_iconst dL_drawer_17 (by decide) h
theorem sL_drawer_18 {ls : List Value} {x : Int32} (h : Q (.inl (some (.int x))) S iv) : am_R E d mL_drawer k n 18 ls [.int x] S iv Q := am_ireturn dL_drawer_18 rfl h
theorem dL_person_0 : decode cL_person 0 = .ok (.aload_n 3, 1) := by decide +kernel
theorem dL_person_1 : decode cL_person 1 = .ok (.iconst 0, 1) := by decide +kernel
theorem dL_person_2 : decode cL_person 2 = .ok (.aload_n 0, 1) := by decide +kernel
theorem dL_person_3 : decode cL_person 3 = .ok (.iload_n 1, 1) := by decide +kernel
theorem dL_person_4 : decode cL_person 4 = .ok (.iload_n 2, 1) := by decide +kernel
theorem dL_person_5 : decode cL_person 5 = .ok (.invokevirtual 24, 3) := by decide +kernel
theorem dL_person_8 : decode cL_person 8 = .ok (.i2l, 1) := by decide +kernel
theorem dL_person_9 : decode cL_person 9 = .ok (.lastore, 1) := by decide +kernel
theorem dL_person_10 : decode cL_person 10 = .ok (.goto 7, 3) := by decide +kernel
theorem dL_person_13 : decode cL_person 13 = .ok (.astore 4, 2) := by decide +kernel
theorem dL_person_15 : decode cL_person 15 = .ok (.iconst 1, 1) := by decide +kernel
theorem dL_person_16 : decode cL_person 16 = .ok (.ireturn, 1) := by decide +kernel
theorem dL_person_17 : decode cL_person 17 = .ok (.iconst 0, 1) := by decide +kernel
theorem dL_person_18 : decode cL_person 18 = .ok (.ireturn, 1) := by decide +kernel
theorem sL_person_0 {a0 a1 a2 a3 a4 : Value} (hv : am_rf a3 = true) (h : am_R E d mL_person k n 1 [a0, a1, a2, a3, a4] (a3 :: st) S iv Q) : am_R E d mL_person k n 0 [a0, a1, a2, a3, a4] st S iv Q := am_aload_n dL_person_0 rfl rfl hv h
theorem sL_person_1 {a0 a1 a2 a3 a4 : Value} (h : am_R E d mL_person k n 2 [a0, a1, a2, a3, a4] (.int 0 :: st) S iv Q) : am_R E d mL_person k n 1 [a0, a1, a2, a3, a4] st S iv Q := am_iconst dL_person_1 (by decide) h
theorem sL_person_2 {a0 a1 a2 a3 a4 : Value} (hv : am_rf a0 = true) (h : am_R E d mL_person k n 3 [a0, a1, a2, a3, a4] (a0 :: st) S iv Q) : am_R E d mL_person k n 2 [a0, a1, a2, a3, a4] st S iv Q := am_aload_n dL_person_2 rfl rfl hv h
theorem sL_person_3 {a0 a2 a3 a4 : Value} {x : Int32} (h : am_R E d mL_person k n 4 [a0, .int x, a2, a3, a4] (.int x :: st) S iv Q) : am_R E d mL_person k n 3 [a0, .int x, a2, a3, a4] st S iv Q := am_iload_n dL_person_3 rfl rfl h
theorem sL_person_4 {a0 a1 a3 a4 : Value} {x : Int32} (h : am_R E d mL_person k n 5 [a0, a1, .int x, a3, a4] (.int x :: st) S iv Q) : am_R E d mL_person k n 4 [a0, a1, .int x, a3, a4] st S iv Q := am_iload_n dL_person_4 rfl rfl h
theorem sL_person_5 {ls : List Value} {x1 x2 : Value} {a : Nat} (ha : S.1 a = some (.inl 9)) (hst : (st.map fun v => v.category).sum ≤ 8) (hM : am_M E d mX9_person 0 0 [.ref a, x1, x2] S iv (am_K3 E (d + 1) mL_person k n 5 ls st Q)) : am_R E (d + 1) mL_person k n 5 ls (x2 :: x1 :: .ref a :: st) S iv Q := am_cV (ci := 9) (M' := mX9_person) (as := [x1, x2]) dL_person_5 rfl rfl rfl wq_1148 wq_1149 wq_1150 wq_581 wq_1146 hy_X9_person (by decide) ha hst (by omega) (by omega) hM
theorem sL_person_5_k {ls : List Value} {x1 x2 : Value} {k' n' : Nat} {a : Nat} (ha : S.1 a = some (.inl 9)) (hst : (st.map fun v => v.category).sum ≤ 8) (hM : am_M E d mX9_person k' n' [.ref a, x1, x2] S iv (am_K3 E (d + 1) mL_person k n 5 ls st Q)) : am_R E (d + 1) mL_person (k' + k) (n' + n) 5 ls (x2 :: x1 :: .ref a :: st) S iv Q := am_cV (ci := 9) (M' := mX9_person) (as := [x1, x2]) dL_person_5 rfl rfl rfl wq_1148 wq_1149 wq_1150 wq_581 wq_1146 hy_X9_person (by decide) ha hst (by omega) (by omega) hM
theorem sL_person_8 {ls : List Value} {x : Int32} (h : am_R E d mL_person k n 9 ls (.long x.toInt64 :: st) S iv Q) : am_R E d mL_person k n 8 ls (.int x :: st) S iv Q := am_i2l dL_person_8 h
theorem sL_person_9 {ls : List Value} {a m : Nat} {i : Int32} {x : Int64} (ha : S.1 a = some (.inr (.long, m))) (hi : vp_in i m) (h : am_R E d mL_person k n 10 ls st (am_wl S a i.toNatClampNeg x) iv Q) : am_R E d mL_person k n 9 ls (.long x :: .int i :: .ref a :: st) S iv Q := am_lastore dL_person_9 ha hi h
theorem sL_person_10 {ls : List Value} (h : am_R E d mL_person k n 17 ls st S iv Q) : am_R E d mL_person k n 10 ls st S iv Q := am_goto dL_person_10 (by decide) h
theorem sL_person_13 {a0 a1 a2 a3 a4 : Value} {x : Value} (hv : am_rf x = true) (h : am_R E d mL_person k n 15 [a0, a1, a2, a3, x] st S iv Q) : am_R E d mL_person k n 13 [a0, a1, a2, a3, a4] (x :: st) S iv Q := am_astore dL_person_13 (by decide) hv h
theorem sL_person_15 {a0 a1 a2 a3 a4 : Value} (h : am_R E d mL_person k n 16 [a0, a1, a2, a3, a4] (.int 1 :: st) S iv Q) : am_R E d mL_person k n 15 [a0, a1, a2, a3, a4] st S iv Q := am_iconst dL_person_15 (by decide) h
theorem sL_person_16 {ls : List Value} {x : Int32} (h : Q (.inl (some (.int x))) S iv) : am_R E d mL_person k n 16 ls [.int x] S iv Q := am_ireturn dL_person_16 rfl h
theorem sL_person_17 {a0 a1 a2 a3 a4 : Value} (h : am_R E d mL_person k n 18 [a0, a1, a2, a3, a4] (.int 0 :: st) S iv Q) : am_R E d mL_person k n 17 [a0, a1, a2, a3, a4] st S iv Q := am_iconst dL_person_17 (by decide) h
theorem sL_person_18 {ls : List Value} {x : Int32} (h : Q (.inl (some (.int x))) S iv) : am_R E d mL_person k n 18 ls [.int x] S iv Q := am_ireturn dL_person_18 rfl h
theorem dL_may_0 : decode cL_may 0 = .ok (.aload_n 2, 1) := by decide +kernel
theorem dL_may_1 : decode cL_may 1 = .ok (.iconst 0, 1) := by decide +kernel
theorem dL_may_2 : decode cL_may 2 = .ok (.aload_n 0, 1) := by decide +kernel
theorem dL_may_3 : decode cL_may 3 = .ok (.iload_n 1, 1) := by decide +kernel
theorem dL_may_4 : decode cL_may 4 = .ok (.invokevirtual 27, 3) := by decide +kernel
theorem dL_may_7 : decode cL_may 7 = .ok (.ifCond .eq 7, 3) := by decide +kernel
theorem dL_may_10 : decode cL_may 10 = .ok (.lconst 1, 1) := by decide +kernel
theorem dL_may_11 : decode cL_may 11 = .ok (.goto 4, 3) := by decide +kernel
theorem dL_may_14 : decode cL_may 14 = .ok (.lconst 0, 1) := by decide +kernel
theorem dL_may_15 : decode cL_may 15 = .ok (.lastore, 1) := by decide +kernel
theorem dL_may_16 : decode cL_may 16 = .ok (.goto 6, 3) := by decide +kernel
theorem dL_may_19 : decode cL_may 19 = .ok (.astore_n 3, 1) := by decide +kernel
theorem dL_may_20 : decode cL_may 20 = .ok (.iconst 1, 1) := by decide +kernel
theorem dL_may_21 : decode cL_may 21 = .ok (.ireturn, 1) := by decide +kernel
theorem dL_may_22 : decode cL_may 22 = .ok (.iconst 0, 1) := by decide +kernel
theorem dL_may_23 : decode cL_may 23 = .ok (.ireturn, 1) := by decide +kernel
theorem sL_may_0 {a0 a1 a2 a3 : Value} (hv : am_rf a2 = true) (h : am_R E d mL_may k n 1 [a0, a1, a2, a3] (a2 :: st) S iv Q) : am_R E d mL_may k n 0 [a0, a1, a2, a3] st S iv Q := am_aload_n dL_may_0 rfl rfl hv h
theorem sL_may_1 {a0 a1 a2 a3 : Value} (h : am_R E d mL_may k n 2 [a0, a1, a2, a3] (.int 0 :: st) S iv Q) : am_R E d mL_may k n 1 [a0, a1, a2, a3] st S iv Q := am_iconst dL_may_1 (by decide) h
theorem sL_may_2 {a0 a1 a2 a3 : Value} (hv : am_rf a0 = true) (h : am_R E d mL_may k n 3 [a0, a1, a2, a3] (a0 :: st) S iv Q) : am_R E d mL_may k n 2 [a0, a1, a2, a3] st S iv Q := am_aload_n dL_may_2 rfl rfl hv h
theorem sL_may_3 {a0 a2 a3 : Value} {x : Int32} (h : am_R E d mL_may k n 4 [a0, .int x, a2, a3] (.int x :: st) S iv Q) : am_R E d mL_may k n 3 [a0, .int x, a2, a3] st S iv Q := am_iload_n dL_may_3 rfl rfl h
theorem sL_may_4 {ls : List Value} {x1 : Value} {a : Nat} (ha : S.1 a = some (.inl 9)) (hst : (st.map fun v => v.category).sum ≤ 8) (hM : am_M E d mX9_may 0 0 [.ref a, x1] S iv (am_K3 E (d + 1) mL_may k n 4 ls st Q)) : am_R E (d + 1) mL_may k n 4 ls (x1 :: .ref a :: st) S iv Q := am_cV (ci := 9) (M' := mX9_may) (as := [x1]) dL_may_4 rfl rfl rfl wq_1153 wq_1154 wq_1155 wq_581 wq_1151 hy_X9_may (by decide) ha hst (by omega) (by omega) hM
theorem sL_may_4_k {ls : List Value} {x1 : Value} {k' n' : Nat} {a : Nat} (ha : S.1 a = some (.inl 9)) (hst : (st.map fun v => v.category).sum ≤ 8) (hM : am_M E d mX9_may k' n' [.ref a, x1] S iv (am_K3 E (d + 1) mL_may k n 4 ls st Q)) : am_R E (d + 1) mL_may (k' + k) (n' + n) 4 ls (x1 :: .ref a :: st) S iv Q := am_cV (ci := 9) (M' := mX9_may) (as := [x1]) dL_may_4 rfl rfl rfl wq_1153 wq_1154 wq_1155 wq_581 wq_1151 hy_X9_may (by decide) ha hst (by omega) (by omega) hM
theorem sL_may_7 {ls : List Value} {x : Int32} (kt : x = 0 → am_R E d mL_may k n 14 ls st S iv Q) (kf : ¬ x = 0 → am_R E d mL_may k n 10 ls st S iv Q) : am_R E d mL_may k n 7 ls (.int x :: st) S iv Q := am_if_eq dL_may_7 (by decide) kt kf
theorem sL_may_10 {a0 a1 a2 a3 : Value} (h : am_R E d mL_may k n 11 [a0, a1, a2, a3] (.long 1 :: st) S iv Q) : am_R E d mL_may k n 10 [a0, a1, a2, a3] st S iv Q := am_lconst dL_may_10 (by decide) h
theorem sL_may_11 {ls : List Value} (h : am_R E d mL_may k n 15 ls st S iv Q) : am_R E d mL_may k n 11 ls st S iv Q := am_goto dL_may_11 (by decide) h
theorem sL_may_14 {a0 a1 a2 a3 : Value} (h : am_R E d mL_may k n 15 [a0, a1, a2, a3] (.long 0 :: st) S iv Q) : am_R E d mL_may k n 14 [a0, a1, a2, a3] st S iv Q := am_lconst dL_may_14 (by decide) h
theorem sL_may_15 {ls : List Value} {a m : Nat} {i : Int32} {x : Int64} (ha : S.1 a = some (.inr (.long, m))) (hi : vp_in i m) (h : am_R E d mL_may k n 16 ls st (am_wl S a i.toNatClampNeg x) iv Q) : am_R E d mL_may k n 15 ls (.long x :: .int i :: .ref a :: st) S iv Q := am_lastore dL_may_15 ha hi h
theorem sL_may_16 {ls : List Value} (h : am_R E d mL_may k n 22 ls st S iv Q) : am_R E d mL_may k n 16 ls st S iv Q := am_goto dL_may_16 (by decide) h
theorem sL_may_19 {a0 a1 a2 a3 : Value} {x : Value} (hv : am_rf x = true) (h : am_R E d mL_may k n 20 [a0, a1, a2, x] st S iv Q) : am_R E d mL_may k n 19 [a0, a1, a2, a3] (x :: st) S iv Q := am_astore_n dL_may_19 rfl (by decide) hv h
theorem sL_may_20 {a0 a1 a2 a3 : Value} (h : am_R E d mL_may k n 21 [a0, a1, a2, a3] (.int 1 :: st) S iv Q) : am_R E d mL_may k n 20 [a0, a1, a2, a3] st S iv Q := am_iconst dL_may_20 (by decide) h
theorem sL_may_21 {ls : List Value} {x : Int32} (h : Q (.inl (some (.int x))) S iv) : am_R E d mL_may k n 21 ls [.int x] S iv Q := am_ireturn dL_may_21 rfl h
theorem sL_may_22 {a0 a1 a2 a3 : Value} (h : am_R E d mL_may k n 23 [a0, a1, a2, a3] (.int 0 :: st) S iv Q) : am_R E d mL_may k n 22 [a0, a1, a2, a3] st S iv Q := am_iconst dL_may_22 (by decide) h
theorem sL_may_23 {ls : List Value} {x : Int32} (h : Q (.inl (some (.int x))) S iv) : am_R E d mL_may k n 23 ls [.int x] S iv Q := am_ireturn dL_may_23 rfl h
theorem dL_broken_0 : decode cL_broken 0 = .ok (.aload_n 2, 1) := by decide +kernel
theorem dL_broken_1 : decode cL_broken 1 = .ok (.iconst 0, 1) := by decide +kernel
theorem dL_broken_2 : decode cL_broken 2 = .ok (.aload_n 0, 1) := by decide +kernel
theorem dL_broken_3 : decode cL_broken 3 = .ok (.iload_n 1, 1) := by decide +kernel
theorem dL_broken_4 : decode cL_broken 4 = .ok (.invokevirtual 31, 3) := by decide +kernel
theorem dL_broken_7 : decode cL_broken 7 = .ok (.i2l, 1) := by decide +kernel
theorem dL_broken_8 : decode cL_broken 8 = .ok (.lastore, 1) := by decide +kernel
theorem dL_broken_9 : decode cL_broken 9 = .ok (.goto 6, 3) := by decide +kernel
theorem dL_broken_12 : decode cL_broken 12 = .ok (.astore_n 3, 1) := by decide +kernel
theorem dL_broken_13 : decode cL_broken 13 = .ok (.iconst 1, 1) := by decide +kernel
theorem dL_broken_14 : decode cL_broken 14 = .ok (.ireturn, 1) := by decide +kernel
theorem dL_broken_15 : decode cL_broken 15 = .ok (.iconst 0, 1) := by decide +kernel
theorem dL_broken_16 : decode cL_broken 16 = .ok (.ireturn, 1) := by decide +kernel
theorem sL_broken_0 {a0 a1 a2 a3 : Value} (hv : am_rf a2 = true) (h : am_R E d mL_broken k n 1 [a0, a1, a2, a3] (a2 :: st) S iv Q) : am_R E d mL_broken k n 0 [a0, a1, a2, a3] st S iv Q := am_aload_n dL_broken_0 rfl rfl hv h
theorem sL_broken_1 {a0 a1 a2 a3 : Value} (h : am_R E d mL_broken k n 2 [a0, a1, a2, a3] (.int 0 :: st) S iv Q) : am_R E d mL_broken k n 1 [a0, a1, a2, a3] st S iv Q := am_iconst dL_broken_1 (by decide) h
theorem sL_broken_2 {a0 a1 a2 a3 : Value} (hv : am_rf a0 = true) (h : am_R E d mL_broken k n 3 [a0, a1, a2, a3] (a0 :: st) S iv Q) : am_R E d mL_broken k n 2 [a0, a1, a2, a3] st S iv Q := am_aload_n dL_broken_2 rfl rfl hv h
theorem sL_broken_3 {a0 a2 a3 : Value} {x : Int32} (h : am_R E d mL_broken k n 4 [a0, .int x, a2, a3] (.int x :: st) S iv Q) : am_R E d mL_broken k n 3 [a0, .int x, a2, a3] st S iv Q := am_iload_n dL_broken_3 rfl rfl h
theorem sL_broken_4 {ls : List Value} {x1 : Value} {a : Nat} (ha : S.1 a = some (.inl 9)) (hst : (st.map fun v => v.category).sum ≤ 8) (hM : am_M E d mX9_broken 0 0 [.ref a, x1] S iv (am_K3 E (d + 1) mL_broken k n 4 ls st Q)) : am_R E (d + 1) mL_broken k n 4 ls (x1 :: .ref a :: st) S iv Q := am_cV (ci := 9) (M' := mX9_broken) (as := [x1]) dL_broken_4 rfl rfl rfl wq_1158 wq_1159 wq_1160 wq_581 wq_1156 hy_X9_broken (by decide) ha hst (by omega) (by omega) hM
theorem sL_broken_4_k {ls : List Value} {x1 : Value} {k' n' : Nat} {a : Nat} (ha : S.1 a = some (.inl 9)) (hst : (st.map fun v => v.category).sum ≤ 8) (hM : am_M E d mX9_broken k' n' [.ref a, x1] S iv (am_K3 E (d + 1) mL_broken k n 4 ls st Q)) : am_R E (d + 1) mL_broken (k' + k) (n' + n) 4 ls (x1 :: .ref a :: st) S iv Q := am_cV (ci := 9) (M' := mX9_broken) (as := [x1]) dL_broken_4 rfl rfl rfl wq_1158 wq_1159 wq_1160 wq_581 wq_1156 hy_X9_broken (by decide) ha hst (by omega) (by omega) hM
theorem sL_broken_7 {ls : List Value} {x : Int32} (h : am_R E d mL_broken k n 8 ls (.long x.toInt64 :: st) S iv Q) : am_R E d mL_broken k n 7 ls (.int x :: st) S iv Q := am_i2l dL_broken_7 h
theorem sL_broken_8 {ls : List Value} {a m : Nat} {i : Int32} {x : Int64} (ha : S.1 a = some (.inr (.long, m))) (hi : vp_in i m) (h : am_R E d mL_broken k n 9 ls st (am_wl S a i.toNatClampNeg x) iv Q) : am_R E d mL_broken k n 8 ls (.long x :: .int i :: .ref a :: st) S iv Q := am_lastore dL_broken_8 ha hi h
theorem sL_broken_9 {ls : List Value} (h : am_R E d mL_broken k n 15 ls st S iv Q) : am_R E d mL_broken k n 9 ls st S iv Q := am_goto dL_broken_9 (by decide) h
theorem sL_broken_12 {a0 a1 a2 a3 : Value} {x : Value} (hv : am_rf x = true) (h : am_R E d mL_broken k n 13 [a0, a1, a2, x] st S iv Q) : am_R E d mL_broken k n 12 [a0, a1, a2, a3] (x :: st) S iv Q := am_astore_n dL_broken_12 rfl (by decide) hv h
theorem sL_broken_13 {a0 a1 a2 a3 : Value} (h : am_R E d mL_broken k n 14 [a0, a1, a2, a3] (.int 1 :: st) S iv Q) : am_R E d mL_broken k n 13 [a0, a1, a2, a3] st S iv Q := am_iconst dL_broken_13 (by decide) h
theorem sL_broken_14 {ls : List Value} {x : Int32} (h : Q (.inl (some (.int x))) S iv) : am_R E d mL_broken k n 14 ls [.int x] S iv Q := am_ireturn dL_broken_14 rfl h
theorem sL_broken_15 {a0 a1 a2 a3 : Value} (h : am_R E d mL_broken k n 16 [a0, a1, a2, a3] (.int 0 :: st) S iv Q) : am_R E d mL_broken k n 15 [a0, a1, a2, a3] st S iv Q := am_iconst dL_broken_15 (by decide) h
theorem sL_broken_16 {ls : List Value} {x : Int32} (h : Q (.inl (some (.int x))) S iv) : am_R E d mL_broken k n 16 ls [.int x] S iv Q := am_ireturn dL_broken_16 rfl h
theorem dL_sleeps_0 : decode cL_sleeps 0 = .ok (.aload_n 0, 1) := by decide +kernel
theorem dL_sleeps_1 : decode cL_sleeps 1 = .ok (.iload_n 1, 1) := by decide +kernel
theorem dL_sleeps_2 : decode cL_sleeps 2 = .ok (.iload_n 2, 1) := by decide +kernel
theorem dL_sleeps_3 : decode cL_sleeps 3 = .ok (.invokevirtual 34, 3) := by decide +kernel
theorem dL_sleeps_6 : decode cL_sleeps 6 = .ok (.goto 6, 3) := by decide +kernel
theorem dL_sleeps_9 : decode cL_sleeps 9 = .ok (.astore_n 3, 1) := by decide +kernel
theorem dL_sleeps_10 : decode cL_sleeps 10 = .ok (.iconst 1, 1) := by decide +kernel
theorem dL_sleeps_11 : decode cL_sleeps 11 = .ok (.ireturn, 1) := by decide +kernel
theorem dL_sleeps_12 : decode cL_sleeps 12 = .ok (.iconst 0, 1) := by decide +kernel
theorem dL_sleeps_13 : decode cL_sleeps 13 = .ok (.ireturn, 1) := by decide +kernel
theorem sL_sleeps_0 {a0 a1 a2 a3 : Value} (hv : am_rf a0 = true) (h : am_R E d mL_sleeps k n 1 [a0, a1, a2, a3] (a0 :: st) S iv Q) : am_R E d mL_sleeps k n 0 [a0, a1, a2, a3] st S iv Q := am_aload_n dL_sleeps_0 rfl rfl hv h
theorem sL_sleeps_1 {a0 a2 a3 : Value} {x : Int32} (h : am_R E d mL_sleeps k n 2 [a0, .int x, a2, a3] (.int x :: st) S iv Q) : am_R E d mL_sleeps k n 1 [a0, .int x, a2, a3] st S iv Q := am_iload_n dL_sleeps_1 rfl rfl h
theorem sL_sleeps_2 {a0 a1 a3 : Value} {x : Int32} (h : am_R E d mL_sleeps k n 3 [a0, a1, .int x, a3] (.int x :: st) S iv Q) : am_R E d mL_sleeps k n 2 [a0, a1, .int x, a3] st S iv Q := am_iload_n dL_sleeps_2 rfl rfl h
theorem sL_sleeps_3 {ls : List Value} {x1 x2 : Value} {a : Nat} (ha : S.1 a = some (.inl 9)) (hst : (st.map fun v => v.category).sum ≤ 8) (hM : am_M E d mX9_sleeps 0 0 [.ref a, x1, x2] S iv (am_K3 E (d + 1) mL_sleeps k n 3 ls st Q)) : am_R E (d + 1) mL_sleeps k n 3 ls (x2 :: x1 :: .ref a :: st) S iv Q := am_cV (ci := 9) (M' := mX9_sleeps) (as := [x1, x2]) dL_sleeps_3 rfl rfl rfl wq_1163 wq_1164 wq_1165 wq_581 wq_1161 hy_X9_sleeps (by decide) ha hst (by omega) (by omega) hM
theorem sL_sleeps_3_k {ls : List Value} {x1 x2 : Value} {k' n' : Nat} {a : Nat} (ha : S.1 a = some (.inl 9)) (hst : (st.map fun v => v.category).sum ≤ 8) (hM : am_M E d mX9_sleeps k' n' [.ref a, x1, x2] S iv (am_K3 E (d + 1) mL_sleeps k n 3 ls st Q)) : am_R E (d + 1) mL_sleeps (k' + k) (n' + n) 3 ls (x2 :: x1 :: .ref a :: st) S iv Q := am_cV (ci := 9) (M' := mX9_sleeps) (as := [x1, x2]) dL_sleeps_3 rfl rfl rfl wq_1163 wq_1164 wq_1165 wq_581 wq_1161 hy_X9_sleeps (by decide) ha hst (by omega) (by omega) hM
theorem sL_sleeps_6 {ls : List Value} (h : am_R E d mL_sleeps k n 12 ls st S iv Q) : am_R E d mL_sleeps k n 6 ls st S iv Q := am_goto dL_sleeps_6 (by decide) h
theorem sL_sleeps_9 {a0 a1 a2 a3 : Value} {x : Value} (hv : am_rf x = true) (h : am_R E d mL_sleeps k n 10 [a0, a1, a2, x] st S iv Q) : am_R E d mL_sleeps k n 9 [a0, a1, a2, a3] (x :: st) S iv Q := am_astore_n dL_sleeps_9 rfl (by decide) hv h
theorem sL_sleeps_10 {a0 a1 a2 a3 : Value} (h : am_R E d mL_sleeps k n 11 [a0, a1, a2, a3] (.int 1 :: st) S iv Q) : am_R E d mL_sleeps k n 10 [a0, a1, a2, a3] st S iv Q := am_iconst dL_sleeps_10 (by decide) h
theorem sL_sleeps_11 {ls : List Value} {x : Int32} (h : Q (.inl (some (.int x))) S iv) : am_R E d mL_sleeps k n 11 ls [.int x] S iv Q := am_ireturn dL_sleeps_11 rfl h
theorem sL_sleeps_12 {a0 a1 a2 a3 : Value} (h : am_R E d mL_sleeps k n 13 [a0, a1, a2, a3] (.int 0 :: st) S iv Q) : am_R E d mL_sleeps k n 12 [a0, a1, a2, a3] st S iv Q := am_iconst dL_sleeps_12 (by decide) h
theorem sL_sleeps_13 {ls : List Value} {x : Int32} (h : Q (.inl (some (.int x))) S iv) : am_R E d mL_sleeps k n 13 ls [.int x] S iv Q := am_ireturn dL_sleeps_13 rfl h
theorem dL_opens_0 : decode cL_opens 0 = .ok (.aload_n 2, 1) := by decide +kernel
theorem dL_opens_1 : decode cL_opens 1 = .ok (.iconst 0, 1) := by decide +kernel
theorem dL_opens_2 : decode cL_opens 2 = .ok (.aload_n 0, 1) := by decide +kernel
theorem dL_opens_3 : decode cL_opens 3 = .ok (.iload_n 1, 1) := by decide +kernel
theorem dL_opens_4 : decode cL_opens 4 = .ok (.invokevirtual 38, 3) := by decide +kernel
theorem dL_opens_7 : decode cL_opens 7 = .ok (.i2l, 1) := by decide +kernel
theorem dL_opens_8 : decode cL_opens 8 = .ok (.lastore, 1) := by decide +kernel
theorem dL_opens_9 : decode cL_opens 9 = .ok (.goto 6, 3) := by decide +kernel
theorem dL_opens_12 : decode cL_opens 12 = .ok (.astore_n 3, 1) := by decide +kernel
theorem dL_opens_13 : decode cL_opens 13 = .ok (.iconst 1, 1) := by decide +kernel
theorem dL_opens_14 : decode cL_opens 14 = .ok (.ireturn, 1) := by decide +kernel
theorem dL_opens_15 : decode cL_opens 15 = .ok (.iconst 0, 1) := by decide +kernel
theorem dL_opens_16 : decode cL_opens 16 = .ok (.ireturn, 1) := by decide +kernel
theorem sL_opens_0 {a0 a1 a2 a3 : Value} (hv : am_rf a2 = true) (h : am_R E d mL_opens k n 1 [a0, a1, a2, a3] (a2 :: st) S iv Q) : am_R E d mL_opens k n 0 [a0, a1, a2, a3] st S iv Q := am_aload_n dL_opens_0 rfl rfl hv h
theorem sL_opens_1 {a0 a1 a2 a3 : Value} (h : am_R E d mL_opens k n 2 [a0, a1, a2, a3] (.int 0 :: st) S iv Q) : am_R E d mL_opens k n 1 [a0, a1, a2, a3] st S iv Q := am_iconst dL_opens_1 (by decide) h
theorem sL_opens_2 {a0 a1 a2 a3 : Value} (hv : am_rf a0 = true) (h : am_R E d mL_opens k n 3 [a0, a1, a2, a3] (a0 :: st) S iv Q) : am_R E d mL_opens k n 2 [a0, a1, a2, a3] st S iv Q := am_aload_n dL_opens_2 rfl rfl hv h
theorem sL_opens_3 {a0 a2 a3 : Value} {x : Int32} (h : am_R E d mL_opens k n 4 [a0, .int x, a2, a3] (.int x :: st) S iv Q) : am_R E d mL_opens k n 3 [a0, .int x, a2, a3] st S iv Q := am_iload_n dL_opens_3 rfl rfl h
theorem sL_opens_4 {ls : List Value} {x1 : Value} {a : Nat} (ha : S.1 a = some (.inl 9)) (hst : (st.map fun v => v.category).sum ≤ 8) (hM : am_M E d mX9_opens 0 0 [.ref a, x1] S iv (am_K3 E (d + 1) mL_opens k n 4 ls st Q)) : am_R E (d + 1) mL_opens k n 4 ls (x1 :: .ref a :: st) S iv Q := am_cV (ci := 9) (M' := mX9_opens) (as := [x1]) dL_opens_4 rfl rfl rfl wq_1168 wq_1169 wq_1170 wq_581 wq_1166 hy_X9_opens (by decide) ha hst (by omega) (by omega) hM
theorem sL_opens_4_k {ls : List Value} {x1 : Value} {k' n' : Nat} {a : Nat} (ha : S.1 a = some (.inl 9)) (hst : (st.map fun v => v.category).sum ≤ 8) (hM : am_M E d mX9_opens k' n' [.ref a, x1] S iv (am_K3 E (d + 1) mL_opens k n 4 ls st Q)) : am_R E (d + 1) mL_opens (k' + k) (n' + n) 4 ls (x1 :: .ref a :: st) S iv Q := am_cV (ci := 9) (M' := mX9_opens) (as := [x1]) dL_opens_4 rfl rfl rfl wq_1168 wq_1169 wq_1170 wq_581 wq_1166 hy_X9_opens (by decide) ha hst (by omega) (by omega) hM
theorem sL_opens_7 {ls : List Value} {x : Int32} (h : am_R E d mL_opens k n 8 ls (.long x.toInt64 :: st) S iv Q) : am_R E d mL_opens k n 7 ls (.int x :: st) S iv Q := am_i2l dL_opens_7 h
theorem sL_opens_8 {ls : List Value} {a m : Nat} {i : Int32} {x : Int64} (ha : S.1 a = some (.inr (.long, m))) (hi : vp_in i m) (h : am_R E d mL_opens k n 9 ls st (am_wl S a i.toNatClampNeg x) iv Q) : am_R E d mL_opens k n 8 ls (.long x :: .int i :: .ref a :: st) S iv Q := am_lastore dL_opens_8 ha hi h
theorem sL_opens_9 {ls : List Value} (h : am_R E d mL_opens k n 15 ls st S iv Q) : am_R E d mL_opens k n 9 ls st S iv Q := am_goto dL_opens_9 (by decide) h
theorem sL_opens_12 {a0 a1 a2 a3 : Value} {x : Value} (hv : am_rf x = true) (h : am_R E d mL_opens k n 13 [a0, a1, a2, x] st S iv Q) : am_R E d mL_opens k n 12 [a0, a1, a2, a3] (x :: st) S iv Q := am_astore_n dL_opens_12 rfl (by decide) hv h
theorem sL_opens_13 {a0 a1 a2 a3 : Value} (h : am_R E d mL_opens k n 14 [a0, a1, a2, a3] (.int 1 :: st) S iv Q) : am_R E d mL_opens k n 13 [a0, a1, a2, a3] st S iv Q := am_iconst dL_opens_13 (by decide) h
theorem sL_opens_14 {ls : List Value} {x : Int32} (h : Q (.inl (some (.int x))) S iv) : am_R E d mL_opens k n 14 ls [.int x] S iv Q := am_ireturn dL_opens_14 rfl h
theorem sL_opens_15 {a0 a1 a2 a3 : Value} (h : am_R E d mL_opens k n 16 [a0, a1, a2, a3] (.int 0 :: st) S iv Q) : am_R E d mL_opens k n 15 [a0, a1, a2, a3] st S iv Q := am_iconst dL_opens_15 (by decide) h
theorem sL_opens_16 {ls : List Value} {x : Int32} (h : Q (.inl (some (.int x))) S iv) : am_R E d mL_opens k n 16 ls [.int x] S iv Q := am_ireturn dL_opens_16 rfl h
theorem dL_shuts_0 : decode cL_shuts 0 = .ok (.aload_n 2, 1) := by decide +kernel
theorem dL_shuts_1 : decode cL_shuts 1 = .ok (.iconst 0, 1) := by decide +kernel
theorem dL_shuts_2 : decode cL_shuts 2 = .ok (.aload_n 0, 1) := by decide +kernel
theorem dL_shuts_3 : decode cL_shuts 3 = .ok (.iload_n 1, 1) := by decide +kernel
theorem dL_shuts_4 : decode cL_shuts 4 = .ok (.invokevirtual 41, 3) := by decide +kernel
theorem dL_shuts_7 : decode cL_shuts 7 = .ok (.i2l, 1) := by decide +kernel
theorem dL_shuts_8 : decode cL_shuts 8 = .ok (.lastore, 1) := by decide +kernel
theorem dL_shuts_9 : decode cL_shuts 9 = .ok (.goto 6, 3) := by decide +kernel
theorem dL_shuts_12 : decode cL_shuts 12 = .ok (.astore_n 3, 1) := by decide +kernel
theorem dL_shuts_13 : decode cL_shuts 13 = .ok (.iconst 1, 1) := by decide +kernel
theorem dL_shuts_14 : decode cL_shuts 14 = .ok (.ireturn, 1) := by decide +kernel
theorem dL_shuts_15 : decode cL_shuts 15 = .ok (.iconst 0, 1) := by decide +kernel
theorem dL_shuts_16 : decode cL_shuts 16 = .ok (.ireturn, 1) := by decide +kernel
theorem sL_shuts_0 {a0 a1 a2 a3 : Value} (hv : am_rf a2 = true) (h : am_R E d mL_shuts k n 1 [a0, a1, a2, a3] (a2 :: st) S iv Q) : am_R E d mL_shuts k n 0 [a0, a1, a2, a3] st S iv Q := am_aload_n dL_shuts_0 rfl rfl hv h
theorem sL_shuts_1 {a0 a1 a2 a3 : Value} (h : am_R E d mL_shuts k n 2 [a0, a1, a2, a3] (.int 0 :: st) S iv Q) : am_R E d mL_shuts k n 1 [a0, a1, a2, a3] st S iv Q := am_iconst dL_shuts_1 (by decide) h
theorem sL_shuts_2 {a0 a1 a2 a3 : Value} (hv : am_rf a0 = true) (h : am_R E d mL_shuts k n 3 [a0, a1, a2, a3] (a0 :: st) S iv Q) : am_R E d mL_shuts k n 2 [a0, a1, a2, a3] st S iv Q := am_aload_n dL_shuts_2 rfl rfl hv h
theorem sL_shuts_3 {a0 a2 a3 : Value} {x : Int32} (h : am_R E d mL_shuts k n 4 [a0, .int x, a2, a3] (.int x :: st) S iv Q) : am_R E d mL_shuts k n 3 [a0, .int x, a2, a3] st S iv Q := am_iload_n dL_shuts_3 rfl rfl h
theorem sL_shuts_4 {ls : List Value} {x1 : Value} {a : Nat} (ha : S.1 a = some (.inl 9)) (hst : (st.map fun v => v.category).sum ≤ 8) (hM : am_M E d mX9_shuts 0 0 [.ref a, x1] S iv (am_K3 E (d + 1) mL_shuts k n 4 ls st Q)) : am_R E (d + 1) mL_shuts k n 4 ls (x1 :: .ref a :: st) S iv Q := am_cV (ci := 9) (M' := mX9_shuts) (as := [x1]) dL_shuts_4 rfl rfl rfl wq_1173 wq_1174 wq_1175 wq_581 wq_1171 hy_X9_shuts (by decide) ha hst (by omega) (by omega) hM
theorem sL_shuts_4_k {ls : List Value} {x1 : Value} {k' n' : Nat} {a : Nat} (ha : S.1 a = some (.inl 9)) (hst : (st.map fun v => v.category).sum ≤ 8) (hM : am_M E d mX9_shuts k' n' [.ref a, x1] S iv (am_K3 E (d + 1) mL_shuts k n 4 ls st Q)) : am_R E (d + 1) mL_shuts (k' + k) (n' + n) 4 ls (x1 :: .ref a :: st) S iv Q := am_cV (ci := 9) (M' := mX9_shuts) (as := [x1]) dL_shuts_4 rfl rfl rfl wq_1173 wq_1174 wq_1175 wq_581 wq_1171 hy_X9_shuts (by decide) ha hst (by omega) (by omega) hM
theorem sL_shuts_7 {ls : List Value} {x : Int32} (h : am_R E d mL_shuts k n 8 ls (.long x.toInt64 :: st) S iv Q) : am_R E d mL_shuts k n 7 ls (.int x :: st) S iv Q := am_i2l dL_shuts_7 h
theorem sL_shuts_8 {ls : List Value} {a m : Nat} {i : Int32} {x : Int64} (ha : S.1 a = some (.inr (.long, m))) (hi : vp_in i m) (h : am_R E d mL_shuts k n 9 ls st (am_wl S a i.toNatClampNeg x) iv Q) : am_R E d mL_shuts k n 8 ls (.long x :: .int i :: .ref a :: st) S iv Q := am_lastore dL_shuts_8 ha hi h
theorem sL_shuts_9 {ls : List Value} (h : am_R E d mL_shuts k n 15 ls st S iv Q) : am_R E d mL_shuts k n 9 ls st S iv Q := am_goto dL_shuts_9 (by decide) h
theorem sL_shuts_12 {a0 a1 a2 a3 : Value} {x : Value} (hv : am_rf x = true) (h : am_R E d mL_shuts k n 13 [a0, a1, a2, x] st S iv Q) : am_R E d mL_shuts k n 12 [a0, a1, a2, a3] (x :: st) S iv Q := am_astore_n dL_shuts_12 rfl (by decide) hv h
theorem sL_shuts_13 {a0 a1 a2 a3 : Value} (h : am_R E d mL_shuts k n 14 [a0, a1, a2, a3] (.int 1 :: st) S iv Q) : am_R E d mL_shuts k n 13 [a0, a1, a2, a3] st S iv Q := am_iconst dL_shuts_13 (by decide) h
theorem sL_shuts_14 {ls : List Value} {x : Int32} (h : Q (.inl (some (.int x))) S iv) : am_R E d mL_shuts k n 14 ls [.int x] S iv Q := am_ireturn dL_shuts_14 rfl h
theorem sL_shuts_15 {a0 a1 a2 a3 : Value} (h : am_R E d mL_shuts k n 16 [a0, a1, a2, a3] (.int 0 :: st) S iv Q) : am_R E d mL_shuts k n 15 [a0, a1, a2, a3] st S iv Q := am_iconst dL_shuts_15 (by decide) h
theorem sL_shuts_16 {ls : List Value} {x : Int32} (h : Q (.inl (some (.int x))) S iv) : am_R E d mL_shuts k n 16 ls [.int x] S iv Q := am_ireturn dL_shuts_16 rfl h
theorem dL_row_0 : decode cL_row 0 = .ok (.aload_n 2, 1) := by decide +kernel
theorem dL_row_1 : decode cL_row 1 = .ok (.iconst 0, 1) := by decide +kernel
theorem dL_row_2 : decode cL_row 2 = .ok (.aload_n 0, 1) := by decide +kernel
theorem dL_row_3 : decode cL_row 3 = .ok (.iload_n 1, 1) := by decide +kernel
theorem dL_row_4 : decode cL_row 4 = .ok (.invokevirtual 44, 3) := by decide +kernel
theorem dL_row_7 : decode cL_row 7 = .ok (.i2l, 1) := by decide +kernel
theorem dL_row_8 : decode cL_row 8 = .ok (.lastore, 1) := by decide +kernel
theorem dL_row_9 : decode cL_row 9 = .ok (.goto 6, 3) := by decide +kernel
theorem dL_row_12 : decode cL_row 12 = .ok (.astore_n 3, 1) := by decide +kernel
theorem dL_row_13 : decode cL_row 13 = .ok (.iconst 1, 1) := by decide +kernel
theorem dL_row_14 : decode cL_row 14 = .ok (.ireturn, 1) := by decide +kernel
theorem dL_row_15 : decode cL_row 15 = .ok (.iconst 0, 1) := by decide +kernel
theorem dL_row_16 : decode cL_row 16 = .ok (.ireturn, 1) := by decide +kernel
theorem sL_row_0 {a0 a1 a2 a3 : Value} (hv : am_rf a2 = true) (h : am_R E d mL_row k n 1 [a0, a1, a2, a3] (a2 :: st) S iv Q) : am_R E d mL_row k n 0 [a0, a1, a2, a3] st S iv Q := am_aload_n dL_row_0 rfl rfl hv h
theorem sL_row_1 {a0 a1 a2 a3 : Value} (h : am_R E d mL_row k n 2 [a0, a1, a2, a3] (.int 0 :: st) S iv Q) : am_R E d mL_row k n 1 [a0, a1, a2, a3] st S iv Q := am_iconst dL_row_1 (by decide) h
theorem sL_row_2 {a0 a1 a2 a3 : Value} (hv : am_rf a0 = true) (h : am_R E d mL_row k n 3 [a0, a1, a2, a3] (a0 :: st) S iv Q) : am_R E d mL_row k n 2 [a0, a1, a2, a3] st S iv Q := am_aload_n dL_row_2 rfl rfl hv h
theorem sL_row_3 {a0 a2 a3 : Value} {x : Int32} (h : am_R E d mL_row k n 4 [a0, .int x, a2, a3] (.int x :: st) S iv Q) : am_R E d mL_row k n 3 [a0, .int x, a2, a3] st S iv Q := am_iload_n dL_row_3 rfl rfl h
theorem sL_row_4 {ls : List Value} {x1 : Value} {a : Nat} (ha : S.1 a = some (.inl 9)) (hst : (st.map fun v => v.category).sum ≤ 8) (hM : am_M E d mX9_row 0 0 [.ref a, x1] S iv (am_K3 E (d + 1) mL_row k n 4 ls st Q)) : am_R E (d + 1) mL_row k n 4 ls (x1 :: .ref a :: st) S iv Q := am_cV (ci := 9) (M' := mX9_row) (as := [x1]) dL_row_4 rfl rfl rfl wq_1178 wq_1179 wq_1180 wq_581 wq_1176 hy_X9_row (by decide) ha hst (by omega) (by omega) hM
theorem sL_row_4_k {ls : List Value} {x1 : Value} {k' n' : Nat} {a : Nat} (ha : S.1 a = some (.inl 9)) (hst : (st.map fun v => v.category).sum ≤ 8) (hM : am_M E d mX9_row k' n' [.ref a, x1] S iv (am_K3 E (d + 1) mL_row k n 4 ls st Q)) : am_R E (d + 1) mL_row (k' + k) (n' + n) 4 ls (x1 :: .ref a :: st) S iv Q := am_cV (ci := 9) (M' := mX9_row) (as := [x1]) dL_row_4 rfl rfl rfl wq_1178 wq_1179 wq_1180 wq_581 wq_1176 hy_X9_row (by decide) ha hst (by omega) (by omega) hM
theorem sL_row_7 {ls : List Value} {x : Int32} (h : am_R E d mL_row k n 8 ls (.long x.toInt64 :: st) S iv Q) : am_R E d mL_row k n 7 ls (.int x :: st) S iv Q := am_i2l dL_row_7 h
theorem sL_row_8 {ls : List Value} {a m : Nat} {i : Int32} {x : Int64} (ha : S.1 a = some (.inr (.long, m))) (hi : vp_in i m) (h : am_R E d mL_row k n 9 ls st (am_wl S a i.toNatClampNeg x) iv Q) : am_R E d mL_row k n 8 ls (.long x :: .int i :: .ref a :: st) S iv Q := am_lastore dL_row_8 ha hi h
theorem sL_row_9 {ls : List Value} (h : am_R E d mL_row k n 15 ls st S iv Q) : am_R E d mL_row k n 9 ls st S iv Q := am_goto dL_row_9 (by decide) h
theorem sL_row_12 {a0 a1 a2 a3 : Value} {x : Value} (hv : am_rf x = true) (h : am_R E d mL_row k n 13 [a0, a1, a2, x] st S iv Q) : am_R E d mL_row k n 12 [a0, a1, a2, a3] (x :: st) S iv Q := am_astore_n dL_row_12 rfl (by decide) hv h
theorem sL_row_13 {a0 a1 a2 a3 : Value} (h : am_R E d mL_row k n 14 [a0, a1, a2, a3] (.int 1 :: st) S iv Q) : am_R E d mL_row k n 13 [a0, a1, a2, a3] st S iv Q := am_iconst dL_row_13 (by decide) h
theorem sL_row_14 {ls : List Value} {x : Int32} (h : Q (.inl (some (.int x))) S iv) : am_R E d mL_row k n 14 ls [.int x] S iv Q := am_ireturn dL_row_14 rfl h
theorem sL_row_15 {a0 a1 a2 a3 : Value} (h : am_R E d mL_row k n 16 [a0, a1, a2, a3] (.int 0 :: st) S iv Q) : am_R E d mL_row k n 15 [a0, a1, a2, a3] st S iv Q := am_iconst dL_row_15 (by decide) h
theorem sL_row_16 {ls : List Value} {x : Int32} (h : Q (.inl (some (.int x))) S iv) : am_R E d mL_row k n 16 ls [.int x] S iv Q := am_ireturn dL_row_16 rfl h
theorem dL_harm_0 : decode cL_harm 0 = .ok (.aload_n 2, 1) := by decide +kernel
theorem dL_harm_1 : decode cL_harm 1 = .ok (.iconst 0, 1) := by decide +kernel
theorem dL_harm_2 : decode cL_harm 2 = .ok (.aload_n 0, 1) := by decide +kernel
theorem dL_harm_3 : decode cL_harm 3 = .ok (.iload_n 1, 1) := by decide +kernel
theorem dL_harm_4 : decode cL_harm 4 = .ok (.invokevirtual 47, 3) := by decide +kernel
theorem dL_harm_7 : decode cL_harm 7 = .ok (.i2l, 1) := by decide +kernel
theorem dL_harm_8 : decode cL_harm 8 = .ok (.lastore, 1) := by decide +kernel
theorem dL_harm_9 : decode cL_harm 9 = .ok (.goto 6, 3) := by decide +kernel
theorem dL_harm_12 : decode cL_harm 12 = .ok (.astore_n 3, 1) := by decide +kernel
theorem dL_harm_13 : decode cL_harm 13 = .ok (.iconst 1, 1) := by decide +kernel
theorem dL_harm_14 : decode cL_harm 14 = .ok (.ireturn, 1) := by decide +kernel
theorem dL_harm_15 : decode cL_harm 15 = .ok (.iconst 0, 1) := by decide +kernel
theorem dL_harm_16 : decode cL_harm 16 = .ok (.ireturn, 1) := by decide +kernel
theorem sL_harm_0 {a0 a1 a2 a3 : Value} (hv : am_rf a2 = true) (h : am_R E d mL_harm k n 1 [a0, a1, a2, a3] (a2 :: st) S iv Q) : am_R E d mL_harm k n 0 [a0, a1, a2, a3] st S iv Q := am_aload_n dL_harm_0 rfl rfl hv h
theorem sL_harm_1 {a0 a1 a2 a3 : Value} (h : am_R E d mL_harm k n 2 [a0, a1, a2, a3] (.int 0 :: st) S iv Q) : am_R E d mL_harm k n 1 [a0, a1, a2, a3] st S iv Q := am_iconst dL_harm_1 (by decide) h
theorem sL_harm_2 {a0 a1 a2 a3 : Value} (hv : am_rf a0 = true) (h : am_R E d mL_harm k n 3 [a0, a1, a2, a3] (a0 :: st) S iv Q) : am_R E d mL_harm k n 2 [a0, a1, a2, a3] st S iv Q := am_aload_n dL_harm_2 rfl rfl hv h
theorem sL_harm_3 {a0 a2 a3 : Value} {x : Int32} (h : am_R E d mL_harm k n 4 [a0, .int x, a2, a3] (.int x :: st) S iv Q) : am_R E d mL_harm k n 3 [a0, .int x, a2, a3] st S iv Q := am_iload_n dL_harm_3 rfl rfl h
theorem sL_harm_4 {ls : List Value} {x1 : Value} {a : Nat} (ha : S.1 a = some (.inl 9)) (hst : (st.map fun v => v.category).sum ≤ 8) (hM : am_M E d mX9_harm 0 0 [.ref a, x1] S iv (am_K3 E (d + 1) mL_harm k n 4 ls st Q)) : am_R E (d + 1) mL_harm k n 4 ls (x1 :: .ref a :: st) S iv Q := am_cV (ci := 9) (M' := mX9_harm) (as := [x1]) dL_harm_4 rfl rfl rfl wq_1183 wq_1184 wq_1185 wq_581 wq_1181 hy_X9_harm (by decide) ha hst (by omega) (by omega) hM
theorem sL_harm_4_k {ls : List Value} {x1 : Value} {k' n' : Nat} {a : Nat} (ha : S.1 a = some (.inl 9)) (hst : (st.map fun v => v.category).sum ≤ 8) (hM : am_M E d mX9_harm k' n' [.ref a, x1] S iv (am_K3 E (d + 1) mL_harm k n 4 ls st Q)) : am_R E (d + 1) mL_harm (k' + k) (n' + n) 4 ls (x1 :: .ref a :: st) S iv Q := am_cV (ci := 9) (M' := mX9_harm) (as := [x1]) dL_harm_4 rfl rfl rfl wq_1183 wq_1184 wq_1185 wq_581 wq_1181 hy_X9_harm (by decide) ha hst (by omega) (by omega) hM
theorem sL_harm_7 {ls : List Value} {x : Int32} (h : am_R E d mL_harm k n 8 ls (.long x.toInt64 :: st) S iv Q) : am_R E d mL_harm k n 7 ls (.int x :: st) S iv Q := am_i2l dL_harm_7 h
theorem sL_harm_8 {ls : List Value} {a m : Nat} {i : Int32} {x : Int64} (ha : S.1 a = some (.inr (.long, m))) (hi : vp_in i m) (h : am_R E d mL_harm k n 9 ls st (am_wl S a i.toNatClampNeg x) iv Q) : am_R E d mL_harm k n 8 ls (.long x :: .int i :: .ref a :: st) S iv Q := am_lastore dL_harm_8 ha hi h
theorem sL_harm_9 {ls : List Value} (h : am_R E d mL_harm k n 15 ls st S iv Q) : am_R E d mL_harm k n 9 ls st S iv Q := am_goto dL_harm_9 (by decide) h
theorem sL_harm_12 {a0 a1 a2 a3 : Value} {x : Value} (hv : am_rf x = true) (h : am_R E d mL_harm k n 13 [a0, a1, a2, x] st S iv Q) : am_R E d mL_harm k n 12 [a0, a1, a2, a3] (x :: st) S iv Q := am_astore_n dL_harm_12 rfl (by decide) hv h
theorem sL_harm_13 {a0 a1 a2 a3 : Value} (h : am_R E d mL_harm k n 14 [a0, a1, a2, a3] (.int 1 :: st) S iv Q) : am_R E d mL_harm k n 13 [a0, a1, a2, a3] st S iv Q := am_iconst dL_harm_13 (by decide) h
theorem sL_harm_14 {ls : List Value} {x : Int32} (h : Q (.inl (some (.int x))) S iv) : am_R E d mL_harm k n 14 ls [.int x] S iv Q := am_ireturn dL_harm_14 rfl h
theorem sL_harm_15 {a0 a1 a2 a3 : Value} (h : am_R E d mL_harm k n 16 [a0, a1, a2, a3] (.int 0 :: st) S iv Q) : am_R E d mL_harm k n 15 [a0, a1, a2, a3] st S iv Q := am_iconst dL_harm_15 (by decide) h
theorem sL_harm_16 {ls : List Value} {x : Int32} (h : Q (.inl (some (.int x))) S iv) : am_R E d mL_harm k n 16 ls [.int x] S iv Q := am_ireturn dL_harm_16 rfl h
theorem dL_married_0 : decode cL_married 0 = .ok (.aload_n 3, 1) := by decide +kernel
theorem dL_married_1 : decode cL_married 1 = .ok (.iconst 0, 1) := by decide +kernel
theorem dL_married_2 : decode cL_married 2 = .ok (.aload_n 0, 1) := by decide +kernel
theorem dL_married_3 : decode cL_married 3 = .ok (.iload_n 1, 1) := by decide +kernel
theorem dL_married_4 : decode cL_married 4 = .ok (.iload_n 2, 1) := by decide +kernel
theorem dL_married_5 : decode cL_married 5 = .ok (.invokevirtual 50, 3) := by decide +kernel
theorem dL_married_8 : decode cL_married 8 = .ok (.i2l, 1) := by decide +kernel
theorem dL_married_9 : decode cL_married 9 = .ok (.lastore, 1) := by decide +kernel
theorem dL_married_10 : decode cL_married 10 = .ok (.goto 7, 3) := by decide +kernel
theorem dL_married_13 : decode cL_married 13 = .ok (.astore 4, 2) := by decide +kernel
theorem dL_married_15 : decode cL_married 15 = .ok (.iconst 1, 1) := by decide +kernel
theorem dL_married_16 : decode cL_married 16 = .ok (.ireturn, 1) := by decide +kernel
theorem dL_married_17 : decode cL_married 17 = .ok (.iconst 0, 1) := by decide +kernel
theorem dL_married_18 : decode cL_married 18 = .ok (.ireturn, 1) := by decide +kernel
theorem sL_married_0 {a0 a1 a2 a3 a4 : Value} (hv : am_rf a3 = true) (h : am_R E d mL_married k n 1 [a0, a1, a2, a3, a4] (a3 :: st) S iv Q) : am_R E d mL_married k n 0 [a0, a1, a2, a3, a4] st S iv Q := am_aload_n dL_married_0 rfl rfl hv h
theorem sL_married_1 {a0 a1 a2 a3 a4 : Value} (h : am_R E d mL_married k n 2 [a0, a1, a2, a3, a4] (.int 0 :: st) S iv Q) : am_R E d mL_married k n 1 [a0, a1, a2, a3, a4] st S iv Q := am_iconst dL_married_1 (by decide) h
theorem sL_married_2 {a0 a1 a2 a3 a4 : Value} (hv : am_rf a0 = true) (h : am_R E d mL_married k n 3 [a0, a1, a2, a3, a4] (a0 :: st) S iv Q) : am_R E d mL_married k n 2 [a0, a1, a2, a3, a4] st S iv Q := am_aload_n dL_married_2 rfl rfl hv h
theorem sL_married_3 {a0 a2 a3 a4 : Value} {x : Int32} (h : am_R E d mL_married k n 4 [a0, .int x, a2, a3, a4] (.int x :: st) S iv Q) : am_R E d mL_married k n 3 [a0, .int x, a2, a3, a4] st S iv Q := am_iload_n dL_married_3 rfl rfl h
theorem sL_married_4 {a0 a1 a3 a4 : Value} {x : Int32} (h : am_R E d mL_married k n 5 [a0, a1, .int x, a3, a4] (.int x :: st) S iv Q) : am_R E d mL_married k n 4 [a0, a1, .int x, a3, a4] st S iv Q := am_iload_n dL_married_4 rfl rfl h
theorem sL_married_5 {ls : List Value} {x1 x2 : Value} {a : Nat} (ha : S.1 a = some (.inl 9)) (hst : (st.map fun v => v.category).sum ≤ 8) (hM : am_M E d mX9_married 0 0 [.ref a, x1, x2] S iv (am_K3 E (d + 1) mL_married k n 5 ls st Q)) : am_R E (d + 1) mL_married k n 5 ls (x2 :: x1 :: .ref a :: st) S iv Q := am_cV (ci := 9) (M' := mX9_married) (as := [x1, x2]) dL_married_5 rfl rfl rfl wq_1188 wq_1189 wq_1190 wq_581 wq_1186 hy_X9_married (by decide) ha hst (by omega) (by omega) hM
theorem sL_married_5_k {ls : List Value} {x1 x2 : Value} {k' n' : Nat} {a : Nat} (ha : S.1 a = some (.inl 9)) (hst : (st.map fun v => v.category).sum ≤ 8) (hM : am_M E d mX9_married k' n' [.ref a, x1, x2] S iv (am_K3 E (d + 1) mL_married k n 5 ls st Q)) : am_R E (d + 1) mL_married (k' + k) (n' + n) 5 ls (x2 :: x1 :: .ref a :: st) S iv Q := am_cV (ci := 9) (M' := mX9_married) (as := [x1, x2]) dL_married_5 rfl rfl rfl wq_1188 wq_1189 wq_1190 wq_581 wq_1186 hy_X9_married (by decide) ha hst (by omega) (by omega) hM
theorem sL_married_8 {ls : List Value} {x : Int32} (h : am_R E d mL_married k n 9 ls (.long x.toInt64 :: st) S iv Q) : am_R E d mL_married k n 8 ls (.int x :: st) S iv Q := am_i2l dL_married_8 h
theorem sL_married_9 {ls : List Value} {a m : Nat} {i : Int32} {x : Int64} (ha : S.1 a = some (.inr (.long, m))) (hi : vp_in i m) (h : am_R E d mL_married k n 10 ls st (am_wl S a i.toNatClampNeg x) iv Q) : am_R E d mL_married k n 9 ls (.long x :: .int i :: .ref a :: st) S iv Q := am_lastore dL_married_9 ha hi h
theorem sL_married_10 {ls : List Value} (h : am_R E d mL_married k n 17 ls st S iv Q) : am_R E d mL_married k n 10 ls st S iv Q := am_goto dL_married_10 (by decide) h
theorem sL_married_13 {a0 a1 a2 a3 a4 : Value} {x : Value} (hv : am_rf x = true) (h : am_R E d mL_married k n 15 [a0, a1, a2, a3, x] st S iv Q) : am_R E d mL_married k n 13 [a0, a1, a2, a3, a4] (x :: st) S iv Q := am_astore dL_married_13 (by decide) hv h
theorem sL_married_15 {a0 a1 a2 a3 a4 : Value} (h : am_R E d mL_married k n 16 [a0, a1, a2, a3, a4] (.int 1 :: st) S iv Q) : am_R E d mL_married k n 15 [a0, a1, a2, a3, a4] st S iv Q := am_iconst dL_married_15 (by decide) h
theorem sL_married_16 {ls : List Value} {x : Int32} (h : Q (.inl (some (.int x))) S iv) : am_R E d mL_married k n 16 ls [.int x] S iv Q := am_ireturn dL_married_16 rfl h
theorem sL_married_17 {a0 a1 a2 a3 a4 : Value} (h : am_R E d mL_married k n 18 [a0, a1, a2, a3, a4] (.int 0 :: st) S iv Q) : am_R E d mL_married k n 17 [a0, a1, a2, a3, a4] st S iv Q := am_iconst dL_married_17 (by decide) h
theorem sL_married_18 {ls : List Value} {x : Int32} (h : Q (.inl (some (.int x))) S iv) : am_R E d mL_married k n 18 ls [.int x] S iv Q := am_ireturn dL_married_18 rfl h
theorem dL_wind_0 : decode cL_wind 0 = .ok (.aload_n 3, 1) := by decide +kernel
theorem dL_wind_1 : decode cL_wind 1 = .ok (.iconst 0, 1) := by decide +kernel
theorem dL_wind_2 : decode cL_wind 2 = .ok (.aload_n 0, 1) := by decide +kernel
theorem dL_wind_3 : decode cL_wind 3 = .ok (.iload_n 1, 1) := by decide +kernel
theorem dL_wind_4 : decode cL_wind 4 = .ok (.iload_n 2, 1) := by decide +kernel
theorem dL_wind_5 : decode cL_wind 5 = .ok (.invokevirtual 53, 3) := by decide +kernel
theorem dL_wind_8 : decode cL_wind 8 = .ok (.i2l, 1) := by decide +kernel
theorem dL_wind_9 : decode cL_wind 9 = .ok (.lastore, 1) := by decide +kernel
theorem dL_wind_10 : decode cL_wind 10 = .ok (.goto 7, 3) := by decide +kernel
theorem dL_wind_13 : decode cL_wind 13 = .ok (.astore 4, 2) := by decide +kernel
theorem dL_wind_15 : decode cL_wind 15 = .ok (.iconst 1, 1) := by decide +kernel
theorem dL_wind_16 : decode cL_wind 16 = .ok (.ireturn, 1) := by decide +kernel
theorem dL_wind_17 : decode cL_wind 17 = .ok (.iconst 0, 1) := by decide +kernel
theorem dL_wind_18 : decode cL_wind 18 = .ok (.ireturn, 1) := by decide +kernel
theorem sL_wind_0 {a0 a1 a2 a3 a4 : Value} (hv : am_rf a3 = true) (h : am_R E d mL_wind k n 1 [a0, a1, a2, a3, a4] (a3 :: st) S iv Q) : am_R E d mL_wind k n 0 [a0, a1, a2, a3, a4] st S iv Q := am_aload_n dL_wind_0 rfl rfl hv h
theorem sL_wind_1 {a0 a1 a2 a3 a4 : Value} (h : am_R E d mL_wind k n 2 [a0, a1, a2, a3, a4] (.int 0 :: st) S iv Q) : am_R E d mL_wind k n 1 [a0, a1, a2, a3, a4] st S iv Q := am_iconst dL_wind_1 (by decide) h
theorem sL_wind_2 {a0 a1 a2 a3 a4 : Value} (hv : am_rf a0 = true) (h : am_R E d mL_wind k n 3 [a0, a1, a2, a3, a4] (a0 :: st) S iv Q) : am_R E d mL_wind k n 2 [a0, a1, a2, a3, a4] st S iv Q := am_aload_n dL_wind_2 rfl rfl hv h
theorem sL_wind_3 {a0 a2 a3 a4 : Value} {x : Int32} (h : am_R E d mL_wind k n 4 [a0, .int x, a2, a3, a4] (.int x :: st) S iv Q) : am_R E d mL_wind k n 3 [a0, .int x, a2, a3, a4] st S iv Q := am_iload_n dL_wind_3 rfl rfl h
theorem sL_wind_4 {a0 a1 a3 a4 : Value} {x : Int32} (h : am_R E d mL_wind k n 5 [a0, a1, .int x, a3, a4] (.int x :: st) S iv Q) : am_R E d mL_wind k n 4 [a0, a1, .int x, a3, a4] st S iv Q := am_iload_n dL_wind_4 rfl rfl h
theorem sL_wind_5 {ls : List Value} {x1 x2 : Value} {a : Nat} (ha : S.1 a = some (.inl 9)) (hst : (st.map fun v => v.category).sum ≤ 8) (hM : am_M E d mX9_wind 0 0 [.ref a, x1, x2] S iv (am_K3 E (d + 1) mL_wind k n 5 ls st Q)) : am_R E (d + 1) mL_wind k n 5 ls (x2 :: x1 :: .ref a :: st) S iv Q := am_cV (ci := 9) (M' := mX9_wind) (as := [x1, x2]) dL_wind_5 rfl rfl rfl wq_1193 wq_1194 wq_1195 wq_581 wq_1191 hy_X9_wind (by decide) ha hst (by omega) (by omega) hM
theorem sL_wind_5_k {ls : List Value} {x1 x2 : Value} {k' n' : Nat} {a : Nat} (ha : S.1 a = some (.inl 9)) (hst : (st.map fun v => v.category).sum ≤ 8) (hM : am_M E d mX9_wind k' n' [.ref a, x1, x2] S iv (am_K3 E (d + 1) mL_wind k n 5 ls st Q)) : am_R E (d + 1) mL_wind (k' + k) (n' + n) 5 ls (x2 :: x1 :: .ref a :: st) S iv Q := am_cV (ci := 9) (M' := mX9_wind) (as := [x1, x2]) dL_wind_5 rfl rfl rfl wq_1193 wq_1194 wq_1195 wq_581 wq_1191 hy_X9_wind (by decide) ha hst (by omega) (by omega) hM
theorem sL_wind_8 {ls : List Value} {x : Int32} (h : am_R E d mL_wind k n 9 ls (.long x.toInt64 :: st) S iv Q) : am_R E d mL_wind k n 8 ls (.int x :: st) S iv Q := am_i2l dL_wind_8 h
theorem sL_wind_9 {ls : List Value} {a m : Nat} {i : Int32} {x : Int64} (ha : S.1 a = some (.inr (.long, m))) (hi : vp_in i m) (h : am_R E d mL_wind k n 10 ls st (am_wl S a i.toNatClampNeg x) iv Q) : am_R E d mL_wind k n 9 ls (.long x :: .int i :: .ref a :: st) S iv Q := am_lastore dL_wind_9 ha hi h
theorem sL_wind_10 {ls : List Value} (h : am_R E d mL_wind k n 17 ls st S iv Q) : am_R E d mL_wind k n 10 ls st S iv Q := am_goto dL_wind_10 (by decide) h
theorem sL_wind_13 {a0 a1 a2 a3 a4 : Value} {x : Value} (hv : am_rf x = true) (h : am_R E d mL_wind k n 15 [a0, a1, a2, a3, x] st S iv Q) : am_R E d mL_wind k n 13 [a0, a1, a2, a3, a4] (x :: st) S iv Q := am_astore dL_wind_13 (by decide) hv h
theorem sL_wind_15 {a0 a1 a2 a3 a4 : Value} (h : am_R E d mL_wind k n 16 [a0, a1, a2, a3, a4] (.int 1 :: st) S iv Q) : am_R E d mL_wind k n 15 [a0, a1, a2, a3, a4] st S iv Q := am_iconst dL_wind_15 (by decide) h
theorem sL_wind_16 {ls : List Value} {x : Int32} (h : Q (.inl (some (.int x))) S iv) : am_R E d mL_wind k n 16 ls [.int x] S iv Q := am_ireturn dL_wind_16 rfl h
theorem sL_wind_17 {a0 a1 a2 a3 a4 : Value} (h : am_R E d mL_wind k n 18 [a0, a1, a2, a3, a4] (.int 0 :: st) S iv Q) : am_R E d mL_wind k n 17 [a0, a1, a2, a3, a4] st S iv Q := am_iconst dL_wind_17 (by decide) h
theorem sL_wind_18 {ls : List Value} {x : Int32} (h : Q (.inl (some (.int x))) S iv) : am_R E d mL_wind k n 18 ls [.int x] S iv Q := am_ireturn dL_wind_18 rfl h
theorem dL_who_0 : decode cL_who 0 = .ok (.aload_n 2, 1) := by decide +kernel
theorem dL_who_1 : decode cL_who 1 = .ok (.iconst 0, 1) := by decide +kernel
theorem dL_who_2 : decode cL_who 2 = .ok (.aload_n 0, 1) := by decide +kernel
theorem dL_who_3 : decode cL_who 3 = .ok (.iload_n 1, 1) := by decide +kernel
theorem dL_who_4 : decode cL_who 4 = .ok (.invokevirtual 56, 3) := by decide +kernel
theorem dL_who_7 : decode cL_who 7 = .ok (.i2l, 1) := by decide +kernel
theorem dL_who_8 : decode cL_who 8 = .ok (.lastore, 1) := by decide +kernel
theorem dL_who_9 : decode cL_who 9 = .ok (.goto 6, 3) := by decide +kernel
theorem dL_who_12 : decode cL_who 12 = .ok (.astore_n 3, 1) := by decide +kernel
theorem dL_who_13 : decode cL_who 13 = .ok (.iconst 1, 1) := by decide +kernel
theorem dL_who_14 : decode cL_who 14 = .ok (.ireturn, 1) := by decide +kernel
theorem dL_who_15 : decode cL_who 15 = .ok (.iconst 0, 1) := by decide +kernel
theorem dL_who_16 : decode cL_who 16 = .ok (.ireturn, 1) := by decide +kernel
theorem sL_who_0 {a0 a1 a2 a3 : Value} (hv : am_rf a2 = true) (h : am_R E d mL_who k n 1 [a0, a1, a2, a3] (a2 :: st) S iv Q) : am_R E d mL_who k n 0 [a0, a1, a2, a3] st S iv Q := am_aload_n dL_who_0 rfl rfl hv h
theorem sL_who_1 {a0 a1 a2 a3 : Value} (h : am_R E d mL_who k n 2 [a0, a1, a2, a3] (.int 0 :: st) S iv Q) : am_R E d mL_who k n 1 [a0, a1, a2, a3] st S iv Q := am_iconst dL_who_1 (by decide) h
theorem sL_who_2 {a0 a1 a2 a3 : Value} (hv : am_rf a0 = true) (h : am_R E d mL_who k n 3 [a0, a1, a2, a3] (a0 :: st) S iv Q) : am_R E d mL_who k n 2 [a0, a1, a2, a3] st S iv Q := am_aload_n dL_who_2 rfl rfl hv h
theorem sL_who_3 {a0 a2 a3 : Value} {x : Int32} (h : am_R E d mL_who k n 4 [a0, .int x, a2, a3] (.int x :: st) S iv Q) : am_R E d mL_who k n 3 [a0, .int x, a2, a3] st S iv Q := am_iload_n dL_who_3 rfl rfl h
theorem sL_who_4 {ls : List Value} {x1 : Value} {a : Nat} (ha : S.1 a = some (.inl 9)) (hst : (st.map fun v => v.category).sum ≤ 8) (hM : am_M E d mX9_who 0 0 [.ref a, x1] S iv (am_K3 E (d + 1) mL_who k n 4 ls st Q)) : am_R E (d + 1) mL_who k n 4 ls (x1 :: .ref a :: st) S iv Q := am_cV (ci := 9) (M' := mX9_who) (as := [x1]) dL_who_4 rfl rfl rfl wq_1198 wq_1199 wq_1200 wq_581 wq_1196 hy_X9_who (by decide) ha hst (by omega) (by omega) hM
theorem sL_who_4_k {ls : List Value} {x1 : Value} {k' n' : Nat} {a : Nat} (ha : S.1 a = some (.inl 9)) (hst : (st.map fun v => v.category).sum ≤ 8) (hM : am_M E d mX9_who k' n' [.ref a, x1] S iv (am_K3 E (d + 1) mL_who k n 4 ls st Q)) : am_R E (d + 1) mL_who (k' + k) (n' + n) 4 ls (x1 :: .ref a :: st) S iv Q := am_cV (ci := 9) (M' := mX9_who) (as := [x1]) dL_who_4 rfl rfl rfl wq_1198 wq_1199 wq_1200 wq_581 wq_1196 hy_X9_who (by decide) ha hst (by omega) (by omega) hM
theorem sL_who_7 {ls : List Value} {x : Int32} (h : am_R E d mL_who k n 8 ls (.long x.toInt64 :: st) S iv Q) : am_R E d mL_who k n 7 ls (.int x :: st) S iv Q := am_i2l dL_who_7 h
theorem sL_who_8 {ls : List Value} {a m : Nat} {i : Int32} {x : Int64} (ha : S.1 a = some (.inr (.long, m))) (hi : vp_in i m) (h : am_R E d mL_who k n 9 ls st (am_wl S a i.toNatClampNeg x) iv Q) : am_R E d mL_who k n 8 ls (.long x :: .int i :: .ref a :: st) S iv Q := am_lastore dL_who_8 ha hi h
theorem sL_who_9 {ls : List Value} (h : am_R E d mL_who k n 15 ls st S iv Q) : am_R E d mL_who k n 9 ls st S iv Q := am_goto dL_who_9 (by decide) h
theorem sL_who_12 {a0 a1 a2 a3 : Value} {x : Value} (hv : am_rf x = true) (h : am_R E d mL_who k n 13 [a0, a1, a2, x] st S iv Q) : am_R E d mL_who k n 12 [a0, a1, a2, a3] (x :: st) S iv Q := am_astore_n dL_who_12 rfl (by decide) hv h
theorem sL_who_13 {a0 a1 a2 a3 : Value} (h : am_R E d mL_who k n 14 [a0, a1, a2, a3] (.int 1 :: st) S iv Q) : am_R E d mL_who k n 13 [a0, a1, a2, a3] st S iv Q := am_iconst dL_who_13 (by decide) h
theorem sL_who_14 {ls : List Value} {x : Int32} (h : Q (.inl (some (.int x))) S iv) : am_R E d mL_who k n 14 ls [.int x] S iv Q := am_ireturn dL_who_14 rfl h
theorem sL_who_15 {a0 a1 a2 a3 : Value} (h : am_R E d mL_who k n 16 [a0, a1, a2, a3] (.int 0 :: st) S iv Q) : am_R E d mL_who k n 15 [a0, a1, a2, a3] st S iv Q := am_iconst dL_who_15 (by decide) h
theorem sL_who_16 {ls : List Value} {x : Int32} (h : Q (.inl (some (.int x))) S iv) : am_R E d mL_who k n 16 ls [.int x] S iv Q := am_ireturn dL_who_16 rfl h
theorem dL_odds_0 : decode cL_odds 0 = .ok (.aload 4, 2) := by decide +kernel
theorem dL_odds_2 : decode cL_odds 2 = .ok (.iconst 0, 1) := by decide +kernel
theorem dL_odds_3 : decode cL_odds 3 = .ok (.aload_n 0, 1) := by decide +kernel
theorem dL_odds_4 : decode cL_odds 4 = .ok (.iload_n 1, 1) := by decide +kernel
theorem dL_odds_5 : decode cL_odds 5 = .ok (.iload_n 2, 1) := by decide +kernel
theorem dL_odds_6 : decode cL_odds 6 = .ok (.iload_n 3, 1) := by decide +kernel
theorem dL_odds_7 : decode cL_odds 7 = .ok (.invokevirtual 59, 3) := by decide +kernel
theorem dL_odds_10 : decode cL_odds 10 = .ok (.i2l, 1) := by decide +kernel
theorem dL_odds_11 : decode cL_odds 11 = .ok (.lastore, 1) := by decide +kernel
theorem dL_odds_12 : decode cL_odds 12 = .ok (.goto 7, 3) := by decide +kernel
theorem dL_odds_15 : decode cL_odds 15 = .ok (.astore 5, 2) := by decide +kernel
theorem dL_odds_17 : decode cL_odds 17 = .ok (.iconst 1, 1) := by decide +kernel
theorem dL_odds_18 : decode cL_odds 18 = .ok (.ireturn, 1) := by decide +kernel
theorem dL_odds_19 : decode cL_odds 19 = .ok (.iconst 0, 1) := by decide +kernel
theorem dL_odds_20 : decode cL_odds 20 = .ok (.ireturn, 1) := by decide +kernel
theorem sL_odds_0 {a0 a1 a2 a3 a4 a5 : Value} (hv : am_rf a4 = true) (h : am_R E d mL_odds k n 2 [a0, a1, a2, a3, a4, a5] (a4 :: st) S iv Q) : am_R E d mL_odds k n 0 [a0, a1, a2, a3, a4, a5] st S iv Q := am_aload dL_odds_0 rfl hv h
theorem sL_odds_2 {a0 a1 a2 a3 a4 a5 : Value} (h : am_R E d mL_odds k n 3 [a0, a1, a2, a3, a4, a5] (.int 0 :: st) S iv Q) : am_R E d mL_odds k n 2 [a0, a1, a2, a3, a4, a5] st S iv Q := am_iconst dL_odds_2 (by decide) h
theorem sL_odds_3 {a0 a1 a2 a3 a4 a5 : Value} (hv : am_rf a0 = true) (h : am_R E d mL_odds k n 4 [a0, a1, a2, a3, a4, a5] (a0 :: st) S iv Q) : am_R E d mL_odds k n 3 [a0, a1, a2, a3, a4, a5] st S iv Q := am_aload_n dL_odds_3 rfl rfl hv h
theorem sL_odds_4 {a0 a2 a3 a4 a5 : Value} {x : Int32} (h : am_R E d mL_odds k n 5 [a0, .int x, a2, a3, a4, a5] (.int x :: st) S iv Q) : am_R E d mL_odds k n 4 [a0, .int x, a2, a3, a4, a5] st S iv Q := am_iload_n dL_odds_4 rfl rfl h
theorem sL_odds_5 {a0 a1 a3 a4 a5 : Value} {x : Int32} (h : am_R E d mL_odds k n 6 [a0, a1, .int x, a3, a4, a5] (.int x :: st) S iv Q) : am_R E d mL_odds k n 5 [a0, a1, .int x, a3, a4, a5] st S iv Q := am_iload_n dL_odds_5 rfl rfl h
theorem sL_odds_6 {a0 a1 a2 a4 a5 : Value} {x : Int32} (h : am_R E d mL_odds k n 7 [a0, a1, a2, .int x, a4, a5] (.int x :: st) S iv Q) : am_R E d mL_odds k n 6 [a0, a1, a2, .int x, a4, a5] st S iv Q := am_iload_n dL_odds_6 rfl rfl h
theorem sL_odds_7 {ls : List Value} {x1 x2 x3 : Value} {a : Nat} (ha : S.1 a = some (.inl 9)) (hst : (st.map fun v => v.category).sum ≤ 8) (hM : am_M E d mX9_odds 0 0 [.ref a, x1, x2, x3] S iv (am_K3 E (d + 1) mL_odds k n 7 ls st Q)) : am_R E (d + 1) mL_odds k n 7 ls (x3 :: x2 :: x1 :: .ref a :: st) S iv Q := am_cV (ci := 9) (M' := mX9_odds) (as := [x1, x2, x3]) dL_odds_7 rfl rfl rfl wq_1203 wq_1204 wq_1205 wq_581 wq_1201 hy_X9_odds (by decide) ha hst (by omega) (by omega) hM
theorem sL_odds_7_k {ls : List Value} {x1 x2 x3 : Value} {k' n' : Nat} {a : Nat} (ha : S.1 a = some (.inl 9)) (hst : (st.map fun v => v.category).sum ≤ 8) (hM : am_M E d mX9_odds k' n' [.ref a, x1, x2, x3] S iv (am_K3 E (d + 1) mL_odds k n 7 ls st Q)) : am_R E (d + 1) mL_odds (k' + k) (n' + n) 7 ls (x3 :: x2 :: x1 :: .ref a :: st) S iv Q := am_cV (ci := 9) (M' := mX9_odds) (as := [x1, x2, x3]) dL_odds_7 rfl rfl rfl wq_1203 wq_1204 wq_1205 wq_581 wq_1201 hy_X9_odds (by decide) ha hst (by omega) (by omega) hM
theorem sL_odds_10 {ls : List Value} {x : Int32} (h : am_R E d mL_odds k n 11 ls (.long x.toInt64 :: st) S iv Q) : am_R E d mL_odds k n 10 ls (.int x :: st) S iv Q := am_i2l dL_odds_10 h
theorem sL_odds_11 {ls : List Value} {a m : Nat} {i : Int32} {x : Int64} (ha : S.1 a = some (.inr (.long, m))) (hi : vp_in i m) (h : am_R E d mL_odds k n 12 ls st (am_wl S a i.toNatClampNeg x) iv Q) : am_R E d mL_odds k n 11 ls (.long x :: .int i :: .ref a :: st) S iv Q := am_lastore dL_odds_11 ha hi h
theorem sL_odds_12 {ls : List Value} (h : am_R E d mL_odds k n 19 ls st S iv Q) : am_R E d mL_odds k n 12 ls st S iv Q := am_goto dL_odds_12 (by decide) h
theorem sL_odds_15 {a0 a1 a2 a3 a4 a5 : Value} {x : Value} (hv : am_rf x = true) (h : am_R E d mL_odds k n 17 [a0, a1, a2, a3, a4, x] st S iv Q) : am_R E d mL_odds k n 15 [a0, a1, a2, a3, a4, a5] (x :: st) S iv Q := am_astore dL_odds_15 (by decide) hv h
theorem sL_odds_17 {a0 a1 a2 a3 a4 a5 : Value} (h : am_R E d mL_odds k n 18 [a0, a1, a2, a3, a4, a5] (.int 1 :: st) S iv Q) : am_R E d mL_odds k n 17 [a0, a1, a2, a3, a4, a5] st S iv Q := am_iconst dL_odds_17 (by decide) h
theorem sL_odds_18 {ls : List Value} {x : Int32} (h : Q (.inl (some (.int x))) S iv) : am_R E d mL_odds k n 18 ls [.int x] S iv Q := am_ireturn dL_odds_18 rfl h
theorem sL_odds_19 {a0 a1 a2 a3 a4 a5 : Value} (h : am_R E d mL_odds k n 20 [a0, a1, a2, a3, a4, a5] (.int 0 :: st) S iv Q) : am_R E d mL_odds k n 19 [a0, a1, a2, a3, a4, a5] st S iv Q := am_iconst dL_odds_19 (by decide) h
theorem sL_odds_20 {ls : List Value} {x : Int32} (h : Q (.inl (some (.int x))) S iv) : am_R E d mL_odds k n 20 ls [.int x] S iv Q := am_ireturn dL_odds_20 rfl h
theorem dL_law_0 : decode cL_law 0 = .ok (.new 8, 3) := by decide +kernel
theorem dL_law_3 : decode cL_law 3 = .ok (.dup, 1) := by decide +kernel
theorem dL_law_4 : decode cL_law 4 = .ok (.invokespecial 63, 3) := by decide +kernel
theorem dL_law_7 : decode cL_law 7 = .ok (.astore_n 1, 1) := by decide +kernel
theorem dL_law_8 : decode cL_law 8 = .ok (.new 64, 3) := by decide +kernel
theorem dL_law_11 : decode cL_law 11 = .ok (.dup, 1) := by decide +kernel
theorem dL_law_12 : decode cL_law 12 = .ok (.invokespecial 66, 3) := by decide +kernel
theorem dL_law_15 : decode cL_law 15 = .ok (.astore_n 2, 1) := by decide +kernel
theorem dL_law_16 : decode cL_law 16 = .ok (.iconst 1, 1) := by decide +kernel
theorem dL_law_17 : decode cL_law 17 = .ok (.newarray .long, 2) := by decide +kernel
theorem dL_law_19 : decode cL_law 19 = .ok (.astore_n 3, 1) := by decide +kernel
theorem dL_law_20 : decode cL_law 20 = .ok (.iconst 0, 1) := by decide +kernel
theorem dL_law_21 : decode cL_law 21 = .ok (.istore 4, 2) := by decide +kernel
theorem dL_law_23 : decode cL_law 23 = .ok (.iload 4, 2) := by decide +kernel
theorem dL_law_25 : decode cL_law 25 = .ok (.aload_n 0, 1) := by decide +kernel
theorem dL_law_26 : decode cL_law 26 = .ok (.arraylength, 1) := by decide +kernel
theorem dL_law_27 : decode cL_law 27 = .ok (.bipush 6, 2) := by decide +kernel
theorem dL_law_29 : decode cL_law 29 = .ok (.isub, 1) := by decide +kernel
theorem dL_law_30 : decode cL_law 30 = .ok (.if_icmp .gt 1225, 3) := by decide +kernel
theorem dL_law_33 : decode cL_law 33 = .ok (.aload_n 0, 1) := by decide +kernel
theorem dL_law_34 : decode cL_law 34 = .ok (.iload 4, 2) := by decide +kernel
theorem dL_law_36 : decode cL_law 36 = .ok (.iaload, 1) := by decide +kernel
theorem dL_law_37 : decode cL_law 37 = .ok (.bipush 31, 2) := by decide +kernel
theorem dL_law_39 : decode cL_law 39 = .ok (.iand, 1) := by decide +kernel
theorem dL_law_40 : decode cL_law 40 = .ok (.tableswitch 1209 0 22 #[108, 181, 237, 250, 306, 374, 442, 505, 561, 586, 599, 663, 719, 775, 788, 844, 900, 968, 981, 1049, 1105, 1185, 1196], 108) := by decide +kernel
theorem dL_law_148 : decode cL_law 148 = .ok (.aload_n 1, 1) := by decide +kernel
theorem dL_law_149 : decode cL_law 149 = .ok (.aload_n 0, 1) := by decide +kernel
theorem dL_law_150 : decode cL_law 150 = .ok (.iload 4, 2) := by decide +kernel
theorem dL_law_152 : decode cL_law 152 = .ok (.iconst 1, 1) := by decide +kernel
theorem dL_law_153 : decode cL_law 153 = .ok (.iadd, 1) := by decide +kernel
theorem dL_law_154 : decode cL_law 154 = .ok (.iaload, 1) := by decide +kernel
theorem dL_law_155 : decode cL_law 155 = .ok (.aload_n 0, 1) := by decide +kernel
theorem dL_law_156 : decode cL_law 156 = .ok (.iload 4, 2) := by decide +kernel
theorem dL_law_158 : decode cL_law 158 = .ok (.iconst 2, 1) := by decide +kernel
theorem dL_law_159 : decode cL_law 159 = .ok (.iadd, 1) := by decide +kernel
theorem dL_law_160 : decode cL_law 160 = .ok (.iaload, 1) := by decide +kernel
theorem dL_law_161 : decode cL_law 161 = .ok (.aload_n 0, 1) := by decide +kernel
theorem dL_law_162 : decode cL_law 162 = .ok (.iload 4, 2) := by decide +kernel
theorem dL_law_164 : decode cL_law 164 = .ok (.iconst 3, 1) := by decide +kernel
theorem dL_law_165 : decode cL_law 165 = .ok (.iadd, 1) := by decide +kernel
theorem dL_law_166 : decode cL_law 166 = .ok (.iaload, 1) := by decide +kernel
theorem dL_law_167 : decode cL_law 167 = .ok (.aload_n 0, 1) := by decide +kernel
theorem dL_law_168 : decode cL_law 168 = .ok (.iload 4, 2) := by decide +kernel
theorem dL_law_170 : decode cL_law 170 = .ok (.iconst 4, 1) := by decide +kernel
theorem dL_law_171 : decode cL_law 171 = .ok (.iadd, 1) := by decide +kernel
theorem dL_law_172 : decode cL_law 172 = .ok (.iaload, 1) := by decide +kernel
theorem dL_law_173 : decode cL_law 173 = .ok (.aload_n 0, 1) := by decide +kernel
theorem dL_law_174 : decode cL_law 174 = .ok (.iload 4, 2) := by decide +kernel
theorem dL_law_176 : decode cL_law 176 = .ok (.iconst 5, 1) := by decide +kernel
theorem dL_law_177 : decode cL_law 177 = .ok (.iadd, 1) := by decide +kernel
theorem dL_law_178 : decode cL_law 178 = .ok (.iaload, 1) := by decide +kernel
theorem dL_law_179 : decode cL_law 179 = .ok (.invokevirtual 67, 3) := by decide +kernel
theorem dL_law_182 : decode cL_law 182 = .ok (.aload_n 2, 1) := by decide +kernel
theorem dL_law_183 : decode cL_law 183 = .ok (.aload_n 0, 1) := by decide +kernel
theorem dL_law_184 : decode cL_law 184 = .ok (.iload 4, 2) := by decide +kernel
theorem dL_law_186 : decode cL_law 186 = .ok (.iconst 1, 1) := by decide +kernel
theorem dL_law_187 : decode cL_law 187 = .ok (.iadd, 1) := by decide +kernel
theorem dL_law_188 : decode cL_law 188 = .ok (.iaload, 1) := by decide +kernel
theorem dL_law_189 : decode cL_law 189 = .ok (.aload_n 0, 1) := by decide +kernel
theorem dL_law_190 : decode cL_law 190 = .ok (.iload 4, 2) := by decide +kernel
theorem dL_law_192 : decode cL_law 192 = .ok (.iconst 2, 1) := by decide +kernel
theorem dL_law_193 : decode cL_law 193 = .ok (.iadd, 1) := by decide +kernel
theorem dL_law_194 : decode cL_law 194 = .ok (.iaload, 1) := by decide +kernel
theorem dL_law_195 : decode cL_law 195 = .ok (.aload_n 0, 1) := by decide +kernel
theorem dL_law_196 : decode cL_law 196 = .ok (.iload 4, 2) := by decide +kernel
theorem dL_law_198 : decode cL_law 198 = .ok (.iconst 3, 1) := by decide +kernel
theorem dL_law_199 : decode cL_law 199 = .ok (.iadd, 1) := by decide +kernel
theorem dL_law_200 : decode cL_law 200 = .ok (.iaload, 1) := by decide +kernel
theorem dL_law_201 : decode cL_law 201 = .ok (.aload_n 0, 1) := by decide +kernel
theorem dL_law_202 : decode cL_law 202 = .ok (.iload 4, 2) := by decide +kernel
theorem dL_law_204 : decode cL_law 204 = .ok (.iconst 4, 1) := by decide +kernel
theorem dL_law_205 : decode cL_law 205 = .ok (.iadd, 1) := by decide +kernel
theorem dL_law_206 : decode cL_law 206 = .ok (.iaload, 1) := by decide +kernel
theorem dL_law_207 : decode cL_law 207 = .ok (.aload_n 0, 1) := by decide +kernel
theorem dL_law_208 : decode cL_law 208 = .ok (.iload 4, 2) := by decide +kernel
theorem dL_law_210 : decode cL_law 210 = .ok (.iconst 5, 1) := by decide +kernel
theorem dL_law_211 : decode cL_law 211 = .ok (.iadd, 1) := by decide +kernel
theorem dL_law_212 : decode cL_law 212 = .ok (.iaload, 1) := by decide +kernel
theorem dL_law_213 : decode cL_law 213 = .ok (.invokevirtual 71, 3) := by decide +kernel
theorem dL_law_216 : decode cL_law 216 = .ok (.if_icmp .eq 1033, 3) := by decide +kernel
theorem dL_law_219 : decode cL_law 219 = .ok (.iconst 0, 1) := by decide +kernel
theorem dL_law_220 : decode cL_law 220 = .ok (.ireturn, 1) := by decide +kernel
theorem dL_law_221 : decode cL_law 221 = .ok (.aload_n 1, 1) := by decide +kernel
theorem dL_law_222 : decode cL_law 222 = .ok (.aload_n 0, 1) := by decide +kernel
theorem dL_law_223 : decode cL_law 223 = .ok (.iload 4, 2) := by decide +kernel
theorem dL_law_225 : decode cL_law 225 = .ok (.iconst 1, 1) := by decide +kernel
theorem dL_law_226 : decode cL_law 226 = .ok (.iadd, 1) := by decide +kernel
theorem dL_law_227 : decode cL_law 227 = .ok (.iaload, 1) := by decide +kernel
theorem dL_law_228 : decode cL_law 228 = .ok (.aload_n 3, 1) := by decide +kernel
theorem dL_law_229 : decode cL_law 229 = .ok (.invokestatic 72, 3) := by decide +kernel
theorem dL_law_232 : decode cL_law 232 = .ok (.istore 5, 2) := by decide +kernel
theorem dL_law_234 : decode cL_law 234 = .ok (.aload_n 2, 1) := by decide +kernel
theorem dL_law_235 : decode cL_law 235 = .ok (.aload_n 0, 1) := by decide +kernel
theorem dL_law_236 : decode cL_law 236 = .ok (.iload 4, 2) := by decide +kernel
theorem dL_law_238 : decode cL_law 238 = .ok (.iconst 1, 1) := by decide +kernel
theorem dL_law_239 : decode cL_law 239 = .ok (.iadd, 1) := by decide +kernel
theorem dL_law_240 : decode cL_law 240 = .ok (.iaload, 1) := by decide +kernel
theorem dL_law_241 : decode cL_law 241 = .ok (.invokevirtual 77, 3) := by decide +kernel
theorem dL_law_244 : decode cL_law 244 = .ok (.istore 6, 2) := by decide +kernel
theorem dL_law_246 : decode cL_law 246 = .ok (.aload_n 2, 1) := by decide +kernel
theorem dL_law_247 : decode cL_law 247 = .ok (.invokevirtual 78, 3) := by decide +kernel
theorem dL_law_250 : decode cL_law 250 = .ok (.iload 5, 2) := by decide +kernel
theorem dL_law_252 : decode cL_law 252 = .ok (.if_icmp .eq 5, 3) := by decide +kernel
theorem dL_law_255 : decode cL_law 255 = .ok (.iconst 0, 1) := by decide +kernel
theorem dL_law_256 : decode cL_law 256 = .ok (.ireturn, 1) := by decide +kernel
theorem dL_law_257 : decode cL_law 257 = .ok (.iload 5, 2) := by decide +kernel
theorem dL_law_259 : decode cL_law 259 = .ok (.ifCond .ne 15, 3) := by decide +kernel
theorem dL_law_262 : decode cL_law 262 = .ok (.aload_n 3, 1) := by decide +kernel
theorem dL_law_263 : decode cL_law 263 = .ok (.iconst 0, 1) := by decide +kernel
theorem dL_law_264 : decode cL_law 264 = .ok (.laload, 1) := by decide +kernel
theorem dL_law_265 : decode cL_law 265 = .ok (.iload 6, 2) := by decide +kernel
theorem dL_law_267 : decode cL_law 267 = .ok (.i2l, 1) := by decide +kernel
theorem dL_law_268 : decode cL_law 268 = .ok (.lcmp, 1) := by decide +kernel
theorem dL_law_269 : decode cL_law 269 = .ok (.ifCond .eq 5, 3) := by decide +kernel
theorem dL_law_272 : decode cL_law 272 = .ok (.iconst 0, 1) := by decide +kernel
theorem dL_law_273 : decode cL_law 273 = .ok (.ireturn, 1) := by decide +kernel
theorem dL_law_274 : decode cL_law 274 = .ok (.goto 975, 3) := by decide +kernel
theorem dL_law_277 : decode cL_law 277 = .ok (.aload_n 1, 1) := by decide +kernel
theorem dL_law_278 : decode cL_law 278 = .ok (.invokevirtual 82, 3) := by decide +kernel
theorem dL_law_281 : decode cL_law 281 = .ok (.aload_n 2, 1) := by decide +kernel
theorem dL_law_282 : decode cL_law 282 = .ok (.invokevirtual 85, 3) := by decide +kernel
theorem dL_law_285 : decode cL_law 285 = .ok (.if_icmp .eq 964, 3) := by decide +kernel
theorem dL_law_288 : decode cL_law 288 = .ok (.iconst 0, 1) := by decide +kernel
theorem dL_law_289 : decode cL_law 289 = .ok (.ireturn, 1) := by decide +kernel
theorem dL_law_290 : decode cL_law 290 = .ok (.aload_n 1, 1) := by decide +kernel
theorem dL_law_291 : decode cL_law 291 = .ok (.aload_n 0, 1) := by decide +kernel
theorem dL_law_292 : decode cL_law 292 = .ok (.iload 4, 2) := by decide +kernel
theorem dL_law_294 : decode cL_law 294 = .ok (.iconst 1, 1) := by decide +kernel
theorem dL_law_295 : decode cL_law 295 = .ok (.iadd, 1) := by decide +kernel
theorem dL_law_296 : decode cL_law 296 = .ok (.iaload, 1) := by decide +kernel
theorem dL_law_297 : decode cL_law 297 = .ok (.aload_n 3, 1) := by decide +kernel
theorem dL_law_298 : decode cL_law 298 = .ok (.invokestatic 86, 3) := by decide +kernel
theorem dL_law_301 : decode cL_law 301 = .ok (.istore 5, 2) := by decide +kernel
theorem dL_law_303 : decode cL_law 303 = .ok (.aload_n 2, 1) := by decide +kernel
theorem dL_law_304 : decode cL_law 304 = .ok (.aload_n 0, 1) := by decide +kernel
theorem dL_law_305 : decode cL_law 305 = .ok (.iload 4, 2) := by decide +kernel
theorem dL_law_307 : decode cL_law 307 = .ok (.iconst 1, 1) := by decide +kernel
theorem dL_law_308 : decode cL_law 308 = .ok (.iadd, 1) := by decide +kernel
theorem dL_law_309 : decode cL_law 309 = .ok (.iaload, 1) := by decide +kernel
theorem dL_law_310 : decode cL_law 310 = .ok (.invokevirtual 88, 3) := by decide +kernel
theorem dL_law_313 : decode cL_law 313 = .ok (.istore 6, 2) := by decide +kernel
theorem dL_law_315 : decode cL_law 315 = .ok (.aload_n 2, 1) := by decide +kernel
theorem dL_law_316 : decode cL_law 316 = .ok (.invokevirtual 78, 3) := by decide +kernel
theorem dL_law_319 : decode cL_law 319 = .ok (.iload 5, 2) := by decide +kernel
theorem dL_law_321 : decode cL_law 321 = .ok (.if_icmp .eq 5, 3) := by decide +kernel
theorem dL_law_324 : decode cL_law 324 = .ok (.iconst 0, 1) := by decide +kernel
theorem dL_law_325 : decode cL_law 325 = .ok (.ireturn, 1) := by decide +kernel
theorem dL_law_326 : decode cL_law 326 = .ok (.iload 5, 2) := by decide +kernel
theorem dL_law_328 : decode cL_law 328 = .ok (.ifCond .ne 15, 3) := by decide +kernel
theorem dL_law_331 : decode cL_law 331 = .ok (.aload_n 3, 1) := by decide +kernel
theorem dL_law_332 : decode cL_law 332 = .ok (.iconst 0, 1) := by decide +kernel
theorem dL_law_333 : decode cL_law 333 = .ok (.laload, 1) := by decide +kernel
theorem dL_law_334 : decode cL_law 334 = .ok (.iload 6, 2) := by decide +kernel
theorem dL_law_336 : decode cL_law 336 = .ok (.i2l, 1) := by decide +kernel
theorem dL_law_337 : decode cL_law 337 = .ok (.lcmp, 1) := by decide +kernel
theorem dL_law_338 : decode cL_law 338 = .ok (.ifCond .eq 5, 3) := by decide +kernel
theorem dL_law_341 : decode cL_law 341 = .ok (.iconst 0, 1) := by decide +kernel
theorem dL_law_342 : decode cL_law 342 = .ok (.ireturn, 1) := by decide +kernel
theorem dL_law_343 : decode cL_law 343 = .ok (.goto 906, 3) := by decide +kernel
theorem dL_law_346 : decode cL_law 346 = .ok (.aload_n 1, 1) := by decide +kernel
theorem dL_law_347 : decode cL_law 347 = .ok (.aload_n 0, 1) := by decide +kernel
theorem dL_law_348 : decode cL_law 348 = .ok (.iload 4, 2) := by decide +kernel
theorem dL_law_350 : decode cL_law 350 = .ok (.iconst 1, 1) := by decide +kernel
theorem dL_law_351 : decode cL_law 351 = .ok (.iadd, 1) := by decide +kernel
theorem dL_law_352 : decode cL_law 352 = .ok (.iaload, 1) := by decide +kernel
theorem dL_law_353 : decode cL_law 353 = .ok (.aload_n 0, 1) := by decide +kernel
theorem dL_law_354 : decode cL_law 354 = .ok (.iload 4, 2) := by decide +kernel
theorem dL_law_356 : decode cL_law 356 = .ok (.iconst 2, 1) := by decide +kernel
theorem dL_law_357 : decode cL_law 357 = .ok (.iadd, 1) := by decide +kernel
theorem dL_law_358 : decode cL_law 358 = .ok (.iaload, 1) := by decide +kernel
theorem dL_law_359 : decode cL_law 359 = .ok (.aload_n 3, 1) := by decide +kernel
theorem dL_law_360 : decode cL_law 360 = .ok (.invokestatic 89, 3) := by decide +kernel
theorem dL_law_363 : decode cL_law 363 = .ok (.istore 5, 2) := by decide +kernel
theorem dL_law_365 : decode cL_law 365 = .ok (.aload_n 2, 1) := by decide +kernel
theorem dL_law_366 : decode cL_law 366 = .ok (.aload_n 0, 1) := by decide +kernel
theorem dL_law_367 : decode cL_law 367 = .ok (.iload 4, 2) := by decide +kernel
theorem dL_law_369 : decode cL_law 369 = .ok (.iconst 1, 1) := by decide +kernel
theorem dL_law_370 : decode cL_law 370 = .ok (.iadd, 1) := by decide +kernel
theorem dL_law_371 : decode cL_law 371 = .ok (.iaload, 1) := by decide +kernel
theorem dL_law_372 : decode cL_law 372 = .ok (.aload_n 0, 1) := by decide +kernel
theorem dL_law_373 : decode cL_law 373 = .ok (.iload 4, 2) := by decide +kernel
theorem dL_law_375 : decode cL_law 375 = .ok (.iconst 2, 1) := by decide +kernel
theorem dL_law_376 : decode cL_law 376 = .ok (.iadd, 1) := by decide +kernel
theorem dL_law_377 : decode cL_law 377 = .ok (.iaload, 1) := by decide +kernel
theorem dL_law_378 : decode cL_law 378 = .ok (.invokevirtual 92, 3) := by decide +kernel
theorem dL_law_381 : decode cL_law 381 = .ok (.istore 6, 2) := by decide +kernel
theorem dL_law_383 : decode cL_law 383 = .ok (.aload_n 2, 1) := by decide +kernel
theorem dL_law_384 : decode cL_law 384 = .ok (.invokevirtual 78, 3) := by decide +kernel
theorem dL_law_387 : decode cL_law 387 = .ok (.iload 5, 2) := by decide +kernel
theorem dL_law_389 : decode cL_law 389 = .ok (.if_icmp .eq 5, 3) := by decide +kernel
theorem dL_law_392 : decode cL_law 392 = .ok (.iconst 0, 1) := by decide +kernel
theorem dL_law_393 : decode cL_law 393 = .ok (.ireturn, 1) := by decide +kernel
theorem dL_law_394 : decode cL_law 394 = .ok (.iload 5, 2) := by decide +kernel
theorem dL_law_396 : decode cL_law 396 = .ok (.ifCond .ne 15, 3) := by decide +kernel
theorem dL_law_399 : decode cL_law 399 = .ok (.aload_n 3, 1) := by decide +kernel
theorem dL_law_400 : decode cL_law 400 = .ok (.iconst 0, 1) := by decide +kernel
theorem dL_law_401 : decode cL_law 401 = .ok (.laload, 1) := by decide +kernel
theorem dL_law_402 : decode cL_law 402 = .ok (.iload 6, 2) := by decide +kernel
theorem dL_law_404 : decode cL_law 404 = .ok (.i2l, 1) := by decide +kernel
theorem dL_law_405 : decode cL_law 405 = .ok (.lcmp, 1) := by decide +kernel
theorem dL_law_406 : decode cL_law 406 = .ok (.ifCond .eq 5, 3) := by decide +kernel
theorem dL_law_409 : decode cL_law 409 = .ok (.iconst 0, 1) := by decide +kernel
theorem dL_law_410 : decode cL_law 410 = .ok (.ireturn, 1) := by decide +kernel
theorem dL_law_411 : decode cL_law 411 = .ok (.goto 838, 3) := by decide +kernel
theorem dL_law_414 : decode cL_law 414 = .ok (.aload_n 1, 1) := by decide +kernel
theorem dL_law_415 : decode cL_law 415 = .ok (.aload_n 0, 1) := by decide +kernel
theorem dL_law_416 : decode cL_law 416 = .ok (.iload 4, 2) := by decide +kernel
theorem dL_law_418 : decode cL_law 418 = .ok (.iconst 1, 1) := by decide +kernel
theorem dL_law_419 : decode cL_law 419 = .ok (.iadd, 1) := by decide +kernel
theorem dL_law_420 : decode cL_law 420 = .ok (.iaload, 1) := by decide +kernel
theorem dL_law_421 : decode cL_law 421 = .ok (.aload_n 0, 1) := by decide +kernel
theorem dL_law_422 : decode cL_law 422 = .ok (.iload 4, 2) := by decide +kernel
theorem dL_law_424 : decode cL_law 424 = .ok (.iconst 2, 1) := by decide +kernel
theorem dL_law_425 : decode cL_law 425 = .ok (.iadd, 1) := by decide +kernel
theorem dL_law_426 : decode cL_law 426 = .ok (.iaload, 1) := by decide +kernel
theorem dL_law_427 : decode cL_law 427 = .ok (.aload_n 3, 1) := by decide +kernel
theorem dL_law_428 : decode cL_law 428 = .ok (.invokestatic 93, 3) := by decide +kernel
theorem dL_law_431 : decode cL_law 431 = .ok (.istore 5, 2) := by decide +kernel
theorem dL_law_433 : decode cL_law 433 = .ok (.aload_n 2, 1) := by decide +kernel
theorem dL_law_434 : decode cL_law 434 = .ok (.aload_n 0, 1) := by decide +kernel
theorem dL_law_435 : decode cL_law 435 = .ok (.iload 4, 2) := by decide +kernel
theorem dL_law_437 : decode cL_law 437 = .ok (.iconst 1, 1) := by decide +kernel
theorem dL_law_438 : decode cL_law 438 = .ok (.iadd, 1) := by decide +kernel
theorem dL_law_439 : decode cL_law 439 = .ok (.iaload, 1) := by decide +kernel
theorem dL_law_440 : decode cL_law 440 = .ok (.aload_n 0, 1) := by decide +kernel
theorem dL_law_441 : decode cL_law 441 = .ok (.iload 4, 2) := by decide +kernel
theorem dL_law_443 : decode cL_law 443 = .ok (.iconst 2, 1) := by decide +kernel
theorem dL_law_444 : decode cL_law 444 = .ok (.iadd, 1) := by decide +kernel
theorem dL_law_445 : decode cL_law 445 = .ok (.iaload, 1) := by decide +kernel
theorem dL_law_446 : decode cL_law 446 = .ok (.invokevirtual 95, 3) := by decide +kernel
theorem dL_law_449 : decode cL_law 449 = .ok (.istore 6, 2) := by decide +kernel
theorem dL_law_451 : decode cL_law 451 = .ok (.aload_n 2, 1) := by decide +kernel
theorem dL_law_452 : decode cL_law 452 = .ok (.invokevirtual 78, 3) := by decide +kernel
theorem dL_law_455 : decode cL_law 455 = .ok (.iload 5, 2) := by decide +kernel
theorem dL_law_457 : decode cL_law 457 = .ok (.if_icmp .eq 5, 3) := by decide +kernel
theorem dL_law_460 : decode cL_law 460 = .ok (.iconst 0, 1) := by decide +kernel
theorem dL_law_461 : decode cL_law 461 = .ok (.ireturn, 1) := by decide +kernel
theorem dL_law_462 : decode cL_law 462 = .ok (.iload 5, 2) := by decide +kernel
theorem dL_law_464 : decode cL_law 464 = .ok (.ifCond .ne 15, 3) := by decide +kernel
theorem dL_law_467 : decode cL_law 467 = .ok (.aload_n 3, 1) := by decide +kernel
theorem dL_law_468 : decode cL_law 468 = .ok (.iconst 0, 1) := by decide +kernel
theorem dL_law_469 : decode cL_law 469 = .ok (.laload, 1) := by decide +kernel
theorem dL_law_470 : decode cL_law 470 = .ok (.iload 6, 2) := by decide +kernel
theorem dL_law_472 : decode cL_law 472 = .ok (.i2l, 1) := by decide +kernel
theorem dL_law_473 : decode cL_law 473 = .ok (.lcmp, 1) := by decide +kernel
theorem dL_law_474 : decode cL_law 474 = .ok (.ifCond .eq 5, 3) := by decide +kernel
theorem dL_law_477 : decode cL_law 477 = .ok (.iconst 0, 1) := by decide +kernel
theorem dL_law_478 : decode cL_law 478 = .ok (.ireturn, 1) := by decide +kernel
theorem dL_law_479 : decode cL_law 479 = .ok (.goto 770, 3) := by decide +kernel
theorem dL_law_482 : decode cL_law 482 = .ok (.aload_n 1, 1) := by decide +kernel
theorem dL_law_483 : decode cL_law 483 = .ok (.aload_n 0, 1) := by decide +kernel
theorem dL_law_484 : decode cL_law 484 = .ok (.iload 4, 2) := by decide +kernel
theorem dL_law_486 : decode cL_law 486 = .ok (.iconst 1, 1) := by decide +kernel
theorem dL_law_487 : decode cL_law 487 = .ok (.iadd, 1) := by decide +kernel
theorem dL_law_488 : decode cL_law 488 = .ok (.iaload, 1) := by decide +kernel
theorem dL_law_489 : decode cL_law 489 = .ok (.aload_n 3, 1) := by decide +kernel
theorem dL_law_490 : decode cL_law 490 = .ok (.invokestatic 96, 3) := by decide +kernel
theorem dL_law_493 : decode cL_law 493 = .ok (.istore 5, 2) := by decide +kernel
theorem dL_law_495 : decode cL_law 495 = .ok (.aload_n 2, 1) := by decide +kernel
theorem dL_law_496 : decode cL_law 496 = .ok (.aload_n 0, 1) := by decide +kernel
theorem dL_law_497 : decode cL_law 497 = .ok (.iload 4, 2) := by decide +kernel
theorem dL_law_499 : decode cL_law 499 = .ok (.iconst 1, 1) := by decide +kernel
theorem dL_law_500 : decode cL_law 500 = .ok (.iadd, 1) := by decide +kernel
theorem dL_law_501 : decode cL_law 501 = .ok (.iaload, 1) := by decide +kernel
theorem dL_law_502 : decode cL_law 502 = .ok (.invokevirtual 98, 3) := by decide +kernel
theorem dL_law_505 : decode cL_law 505 = .ok (.istore 6, 2) := by decide +kernel
theorem dL_law_507 : decode cL_law 507 = .ok (.aload_n 2, 1) := by decide +kernel
theorem dL_law_508 : decode cL_law 508 = .ok (.invokevirtual 78, 3) := by decide +kernel
theorem dL_law_511 : decode cL_law 511 = .ok (.iload 5, 2) := by decide +kernel
theorem dL_law_513 : decode cL_law 513 = .ok (.if_icmp .eq 5, 3) := by decide +kernel
theorem dL_law_516 : decode cL_law 516 = .ok (.iconst 0, 1) := by decide +kernel
theorem dL_law_517 : decode cL_law 517 = .ok (.ireturn, 1) := by decide +kernel
theorem dL_law_518 : decode cL_law 518 = .ok (.iload 5, 2) := by decide +kernel
theorem dL_law_520 : decode cL_law 520 = .ok (.ifCond .ne 22, 3) := by decide +kernel
theorem dL_law_523 : decode cL_law 523 = .ok (.aload_n 3, 1) := by decide +kernel
theorem dL_law_524 : decode cL_law 524 = .ok (.iconst 0, 1) := by decide +kernel
theorem dL_law_525 : decode cL_law 525 = .ok (.laload, 1) := by decide +kernel
theorem dL_law_526 : decode cL_law 526 = .ok (.iload 6, 2) := by decide +kernel
theorem dL_law_528 : decode cL_law 528 = .ok (.ifCond .eq 7, 3) := by decide +kernel
theorem dL_law_531 : decode cL_law 531 = .ok (.lconst 1, 1) := by decide +kernel
theorem dL_law_532 : decode cL_law 532 = .ok (.goto 4, 3) := by decide +kernel
theorem dL_law_535 : decode cL_law 535 = .ok (.lconst 0, 1) := by decide +kernel
theorem dL_law_536 : decode cL_law 536 = .ok (.lcmp, 1) := by decide +kernel
theorem dL_law_537 : decode cL_law 537 = .ok (.ifCond .eq 5, 3) := by decide +kernel
theorem dL_law_540 : decode cL_law 540 = .ok (.iconst 0, 1) := by decide +kernel
theorem dL_law_541 : decode cL_law 541 = .ok (.ireturn, 1) := by decide +kernel
theorem dL_law_542 : decode cL_law 542 = .ok (.goto 707, 3) := by decide +kernel
theorem dL_law_545 : decode cL_law 545 = .ok (.aload_n 1, 1) := by decide +kernel
theorem dL_law_546 : decode cL_law 546 = .ok (.aload_n 0, 1) := by decide +kernel
theorem dL_law_547 : decode cL_law 547 = .ok (.iload 4, 2) := by decide +kernel
theorem dL_law_549 : decode cL_law 549 = .ok (.iconst 1, 1) := by decide +kernel
theorem dL_law_550 : decode cL_law 550 = .ok (.iadd, 1) := by decide +kernel
theorem dL_law_551 : decode cL_law 551 = .ok (.iaload, 1) := by decide +kernel
theorem dL_law_552 : decode cL_law 552 = .ok (.aload_n 3, 1) := by decide +kernel
theorem dL_law_553 : decode cL_law 553 = .ok (.invokestatic 99, 3) := by decide +kernel
theorem dL_law_556 : decode cL_law 556 = .ok (.istore 5, 2) := by decide +kernel
theorem dL_law_558 : decode cL_law 558 = .ok (.aload_n 2, 1) := by decide +kernel
theorem dL_law_559 : decode cL_law 559 = .ok (.aload_n 0, 1) := by decide +kernel
theorem dL_law_560 : decode cL_law 560 = .ok (.iload 4, 2) := by decide +kernel
theorem dL_law_562 : decode cL_law 562 = .ok (.iconst 1, 1) := by decide +kernel
theorem dL_law_563 : decode cL_law 563 = .ok (.iadd, 1) := by decide +kernel
theorem dL_law_564 : decode cL_law 564 = .ok (.iaload, 1) := by decide +kernel
theorem dL_law_565 : decode cL_law 565 = .ok (.invokevirtual 101, 3) := by decide +kernel
theorem dL_law_568 : decode cL_law 568 = .ok (.istore 6, 2) := by decide +kernel
theorem dL_law_570 : decode cL_law 570 = .ok (.aload_n 2, 1) := by decide +kernel
theorem dL_law_571 : decode cL_law 571 = .ok (.invokevirtual 78, 3) := by decide +kernel
theorem dL_law_574 : decode cL_law 574 = .ok (.iload 5, 2) := by decide +kernel
theorem dL_law_576 : decode cL_law 576 = .ok (.if_icmp .eq 5, 3) := by decide +kernel
theorem dL_law_579 : decode cL_law 579 = .ok (.iconst 0, 1) := by decide +kernel
theorem dL_law_580 : decode cL_law 580 = .ok (.ireturn, 1) := by decide +kernel
theorem dL_law_581 : decode cL_law 581 = .ok (.iload 5, 2) := by decide +kernel
theorem dL_law_583 : decode cL_law 583 = .ok (.ifCond .ne 15, 3) := by decide +kernel
theorem dL_law_586 : decode cL_law 586 = .ok (.aload_n 3, 1) := by decide +kernel
theorem dL_law_587 : decode cL_law 587 = .ok (.iconst 0, 1) := by decide +kernel
theorem dL_law_588 : decode cL_law 588 = .ok (.laload, 1) := by decide +kernel
theorem dL_law_589 : decode cL_law 589 = .ok (.iload 6, 2) := by decide +kernel
theorem dL_law_591 : decode cL_law 591 = .ok (.i2l, 1) := by decide +kernel
theorem dL_law_592 : decode cL_law 592 = .ok (.lcmp, 1) := by decide +kernel
theorem dL_law_593 : decode cL_law 593 = .ok (.ifCond .eq 5, 3) := by decide +kernel
theorem dL_law_596 : decode cL_law 596 = .ok (.iconst 0, 1) := by decide +kernel
theorem dL_law_597 : decode cL_law 597 = .ok (.ireturn, 1) := by decide +kernel
theorem dL_law_598 : decode cL_law 598 = .ok (.goto 651, 3) := by decide +kernel
theorem dL_law_601 : decode cL_law 601 = .ok (.aload_n 1, 1) := by decide +kernel
theorem dL_law_602 : decode cL_law 602 = .ok (.aload_n 0, 1) := by decide +kernel
theorem dL_law_603 : decode cL_law 603 = .ok (.iload 4, 2) := by decide +kernel
theorem dL_law_605 : decode cL_law 605 = .ok (.iconst 1, 1) := by decide +kernel
theorem dL_law_606 : decode cL_law 606 = .ok (.iadd, 1) := by decide +kernel
theorem dL_law_607 : decode cL_law 607 = .ok (.iaload, 1) := by decide +kernel
theorem dL_law_608 : decode cL_law 608 = .ok (.invokevirtual 102, 3) := by decide +kernel
theorem dL_law_611 : decode cL_law 611 = .ok (.aload_n 2, 1) := by decide +kernel
theorem dL_law_612 : decode cL_law 612 = .ok (.aload_n 0, 1) := by decide +kernel
theorem dL_law_613 : decode cL_law 613 = .ok (.iload 4, 2) := by decide +kernel
theorem dL_law_615 : decode cL_law 615 = .ok (.iconst 1, 1) := by decide +kernel
theorem dL_law_616 : decode cL_law 616 = .ok (.iadd, 1) := by decide +kernel
theorem dL_law_617 : decode cL_law 617 = .ok (.iaload, 1) := by decide +kernel
theorem dL_law_618 : decode cL_law 618 = .ok (.invokevirtual 105, 3) := by decide +kernel
theorem dL_law_621 : decode cL_law 621 = .ok (.if_icmp .eq 628, 3) := by decide +kernel
theorem dL_law_624 : decode cL_law 624 = .ok (.iconst 0, 1) := by decide +kernel
theorem dL_law_625 : decode cL_law 625 = .ok (.ireturn, 1) := by decide +kernel
theorem dL_law_626 : decode cL_law 626 = .ok (.aload_n 1, 1) := by decide +kernel
theorem dL_law_627 : decode cL_law 627 = .ok (.invokevirtual 106, 3) := by decide +kernel
theorem dL_law_630 : decode cL_law 630 = .ok (.aload_n 2, 1) := by decide +kernel
theorem dL_law_631 : decode cL_law 631 = .ok (.invokevirtual 109, 3) := by decide +kernel
theorem dL_law_634 : decode cL_law 634 = .ok (.if_icmp .eq 615, 3) := by decide +kernel
theorem dL_law_637 : decode cL_law 637 = .ok (.iconst 0, 1) := by decide +kernel
theorem dL_law_638 : decode cL_law 638 = .ok (.ireturn, 1) := by decide +kernel
theorem dL_law_639 : decode cL_law 639 = .ok (.aload_n 1, 1) := by decide +kernel
theorem dL_law_640 : decode cL_law 640 = .ok (.aload_n 0, 1) := by decide +kernel
theorem dL_law_641 : decode cL_law 641 = .ok (.iload 4, 2) := by decide +kernel
theorem dL_law_643 : decode cL_law 643 = .ok (.iconst 1, 1) := by decide +kernel
theorem dL_law_644 : decode cL_law 644 = .ok (.iadd, 1) := by decide +kernel
theorem dL_law_645 : decode cL_law 645 = .ok (.iaload, 1) := by decide +kernel
theorem dL_law_646 : decode cL_law 646 = .ok (.aload_n 0, 1) := by decide +kernel
theorem dL_law_647 : decode cL_law 647 = .ok (.iload 4, 2) := by decide +kernel
theorem dL_law_649 : decode cL_law 649 = .ok (.iconst 2, 1) := by decide +kernel
theorem dL_law_650 : decode cL_law 650 = .ok (.iadd, 1) := by decide +kernel
theorem dL_law_651 : decode cL_law 651 = .ok (.iaload, 1) := by decide +kernel
theorem dL_law_652 : decode cL_law 652 = .ok (.ifCond .eq 7, 3) := by decide +kernel
theorem dL_law_655 : decode cL_law 655 = .ok (.iconst 1, 1) := by decide +kernel
theorem dL_law_656 : decode cL_law 656 = .ok (.goto 4, 3) := by decide +kernel
theorem dL_law_659 : decode cL_law 659 = .ok (.iconst 0, 1) := by decide +kernel
theorem dL_law_660 : decode cL_law 660 = .ok (.invokestatic 110, 3) := by decide +kernel
theorem dL_law_663 : decode cL_law 663 = .ok (.istore 5, 2) := by decide +kernel
theorem dL_law_665 : decode cL_law 665 = .ok (.aload_n 2, 1) := by decide +kernel
theorem dL_law_666 : decode cL_law 666 = .ok (.aload_n 0, 1) := by decide +kernel
theorem dL_law_667 : decode cL_law 667 = .ok (.iload 4, 2) := by decide +kernel
theorem dL_law_669 : decode cL_law 669 = .ok (.iconst 1, 1) := by decide +kernel
theorem dL_law_670 : decode cL_law 670 = .ok (.iadd, 1) := by decide +kernel
theorem dL_law_671 : decode cL_law 671 = .ok (.iaload, 1) := by decide +kernel
theorem dL_law_672 : decode cL_law 672 = .ok (.aload_n 0, 1) := by decide +kernel
theorem dL_law_673 : decode cL_law 673 = .ok (.iload 4, 2) := by decide +kernel
theorem dL_law_675 : decode cL_law 675 = .ok (.iconst 2, 1) := by decide +kernel
theorem dL_law_676 : decode cL_law 676 = .ok (.iadd, 1) := by decide +kernel
theorem dL_law_677 : decode cL_law 677 = .ok (.iaload, 1) := by decide +kernel
theorem dL_law_678 : decode cL_law 678 = .ok (.ifCond .eq 7, 3) := by decide +kernel
theorem dL_law_681 : decode cL_law 681 = .ok (.iconst 1, 1) := by decide +kernel
theorem dL_law_682 : decode cL_law 682 = .ok (.goto 4, 3) := by decide +kernel
theorem dL_law_685 : decode cL_law 685 = .ok (.iconst 0, 1) := by decide +kernel
theorem dL_law_686 : decode cL_law 686 = .ok (.invokevirtual 113, 3) := by decide +kernel
theorem dL_law_689 : decode cL_law 689 = .ok (.aload_n 2, 1) := by decide +kernel
theorem dL_law_690 : decode cL_law 690 = .ok (.invokevirtual 78, 3) := by decide +kernel
theorem dL_law_693 : decode cL_law 693 = .ok (.iload 5, 2) := by decide +kernel
theorem dL_law_695 : decode cL_law 695 = .ok (.if_icmp .eq 5, 3) := by decide +kernel
theorem dL_law_698 : decode cL_law 698 = .ok (.iconst 0, 1) := by decide +kernel
theorem dL_law_699 : decode cL_law 699 = .ok (.ireturn, 1) := by decide +kernel
theorem dL_law_700 : decode cL_law 700 = .ok (.goto 549, 3) := by decide +kernel
theorem dL_law_703 : decode cL_law 703 = .ok (.aload_n 1, 1) := by decide +kernel
theorem dL_law_704 : decode cL_law 704 = .ok (.aload_n 0, 1) := by decide +kernel
theorem dL_law_705 : decode cL_law 705 = .ok (.iload 4, 2) := by decide +kernel
theorem dL_law_707 : decode cL_law 707 = .ok (.iconst 1, 1) := by decide +kernel
theorem dL_law_708 : decode cL_law 708 = .ok (.iadd, 1) := by decide +kernel
theorem dL_law_709 : decode cL_law 709 = .ok (.iaload, 1) := by decide +kernel
theorem dL_law_710 : decode cL_law 710 = .ok (.aload_n 3, 1) := by decide +kernel
theorem dL_law_711 : decode cL_law 711 = .ok (.invokestatic 114, 3) := by decide +kernel
theorem dL_law_714 : decode cL_law 714 = .ok (.istore 5, 2) := by decide +kernel
theorem dL_law_716 : decode cL_law 716 = .ok (.aload_n 2, 1) := by decide +kernel
theorem dL_law_717 : decode cL_law 717 = .ok (.aload_n 0, 1) := by decide +kernel
theorem dL_law_718 : decode cL_law 718 = .ok (.iload 4, 2) := by decide +kernel
theorem dL_law_720 : decode cL_law 720 = .ok (.iconst 1, 1) := by decide +kernel
theorem dL_law_721 : decode cL_law 721 = .ok (.iadd, 1) := by decide +kernel
theorem dL_law_722 : decode cL_law 722 = .ok (.iaload, 1) := by decide +kernel
theorem dL_law_723 : decode cL_law 723 = .ok (.invokevirtual 116, 3) := by decide +kernel
theorem dL_law_726 : decode cL_law 726 = .ok (.istore 6, 2) := by decide +kernel
theorem dL_law_728 : decode cL_law 728 = .ok (.aload_n 2, 1) := by decide +kernel
theorem dL_law_729 : decode cL_law 729 = .ok (.invokevirtual 78, 3) := by decide +kernel
theorem dL_law_732 : decode cL_law 732 = .ok (.iload 5, 2) := by decide +kernel
theorem dL_law_734 : decode cL_law 734 = .ok (.if_icmp .eq 5, 3) := by decide +kernel
theorem dL_law_737 : decode cL_law 737 = .ok (.iconst 0, 1) := by decide +kernel
theorem dL_law_738 : decode cL_law 738 = .ok (.ireturn, 1) := by decide +kernel
theorem dL_law_739 : decode cL_law 739 = .ok (.iload 5, 2) := by decide +kernel
theorem dL_law_741 : decode cL_law 741 = .ok (.ifCond .ne 15, 3) := by decide +kernel
theorem dL_law_744 : decode cL_law 744 = .ok (.aload_n 3, 1) := by decide +kernel
theorem dL_law_745 : decode cL_law 745 = .ok (.iconst 0, 1) := by decide +kernel
theorem dL_law_746 : decode cL_law 746 = .ok (.laload, 1) := by decide +kernel
theorem dL_law_747 : decode cL_law 747 = .ok (.iload 6, 2) := by decide +kernel
theorem dL_law_749 : decode cL_law 749 = .ok (.i2l, 1) := by decide +kernel
theorem dL_law_750 : decode cL_law 750 = .ok (.lcmp, 1) := by decide +kernel
theorem dL_law_751 : decode cL_law 751 = .ok (.ifCond .eq 5, 3) := by decide +kernel
theorem dL_law_754 : decode cL_law 754 = .ok (.iconst 0, 1) := by decide +kernel
theorem dL_law_755 : decode cL_law 755 = .ok (.ireturn, 1) := by decide +kernel
theorem dL_law_756 : decode cL_law 756 = .ok (.goto 493, 3) := by decide +kernel
theorem dL_law_759 : decode cL_law 759 = .ok (.aload_n 1, 1) := by decide +kernel
theorem dL_law_760 : decode cL_law 760 = .ok (.aload_n 0, 1) := by decide +kernel
theorem dL_law_761 : decode cL_law 761 = .ok (.iload 4, 2) := by decide +kernel
theorem dL_law_763 : decode cL_law 763 = .ok (.iconst 1, 1) := by decide +kernel
theorem dL_law_764 : decode cL_law 764 = .ok (.iadd, 1) := by decide +kernel
theorem dL_law_765 : decode cL_law 765 = .ok (.iaload, 1) := by decide +kernel
theorem dL_law_766 : decode cL_law 766 = .ok (.aload_n 3, 1) := by decide +kernel
theorem dL_law_767 : decode cL_law 767 = .ok (.invokestatic 117, 3) := by decide +kernel
theorem dL_law_770 : decode cL_law 770 = .ok (.istore 5, 2) := by decide +kernel
theorem dL_law_772 : decode cL_law 772 = .ok (.aload_n 2, 1) := by decide +kernel
theorem dL_law_773 : decode cL_law 773 = .ok (.aload_n 0, 1) := by decide +kernel
theorem dL_law_774 : decode cL_law 774 = .ok (.iload 4, 2) := by decide +kernel
theorem dL_law_776 : decode cL_law 776 = .ok (.iconst 1, 1) := by decide +kernel
theorem dL_law_777 : decode cL_law 777 = .ok (.iadd, 1) := by decide +kernel
theorem dL_law_778 : decode cL_law 778 = .ok (.iaload, 1) := by decide +kernel
theorem dL_law_779 : decode cL_law 779 = .ok (.invokevirtual 119, 3) := by decide +kernel
theorem dL_law_782 : decode cL_law 782 = .ok (.istore 6, 2) := by decide +kernel
theorem dL_law_784 : decode cL_law 784 = .ok (.aload_n 2, 1) := by decide +kernel
theorem dL_law_785 : decode cL_law 785 = .ok (.invokevirtual 78, 3) := by decide +kernel
theorem dL_law_788 : decode cL_law 788 = .ok (.iload 5, 2) := by decide +kernel
theorem dL_law_790 : decode cL_law 790 = .ok (.if_icmp .eq 5, 3) := by decide +kernel
theorem dL_law_793 : decode cL_law 793 = .ok (.iconst 0, 1) := by decide +kernel
theorem dL_law_794 : decode cL_law 794 = .ok (.ireturn, 1) := by decide +kernel
theorem dL_law_795 : decode cL_law 795 = .ok (.iload 5, 2) := by decide +kernel
theorem dL_law_797 : decode cL_law 797 = .ok (.ifCond .ne 15, 3) := by decide +kernel
theorem dL_law_800 : decode cL_law 800 = .ok (.aload_n 3, 1) := by decide +kernel
theorem dL_law_801 : decode cL_law 801 = .ok (.iconst 0, 1) := by decide +kernel
theorem dL_law_802 : decode cL_law 802 = .ok (.laload, 1) := by decide +kernel
theorem dL_law_803 : decode cL_law 803 = .ok (.iload 6, 2) := by decide +kernel
theorem dL_law_805 : decode cL_law 805 = .ok (.i2l, 1) := by decide +kernel
theorem dL_law_806 : decode cL_law 806 = .ok (.lcmp, 1) := by decide +kernel
theorem dL_law_807 : decode cL_law 807 = .ok (.ifCond .eq 5, 3) := by decide +kernel
theorem dL_law_810 : decode cL_law 810 = .ok (.iconst 0, 1) := by decide +kernel
theorem dL_law_811 : decode cL_law 811 = .ok (.ireturn, 1) := by decide +kernel
theorem dL_law_812 : decode cL_law 812 = .ok (.goto 437, 3) := by decide +kernel
theorem dL_law_815 : decode cL_law 815 = .ok (.aload_n 1, 1) := by decide +kernel
theorem dL_law_816 : decode cL_law 816 = .ok (.invokevirtual 120, 3) := by decide +kernel
theorem dL_law_819 : decode cL_law 819 = .ok (.aload_n 2, 1) := by decide +kernel
theorem dL_law_820 : decode cL_law 820 = .ok (.invokevirtual 123, 3) := by decide +kernel
theorem dL_law_823 : decode cL_law 823 = .ok (.if_icmp .eq 426, 3) := by decide +kernel
theorem dL_law_826 : decode cL_law 826 = .ok (.iconst 0, 1) := by decide +kernel
theorem dL_law_827 : decode cL_law 827 = .ok (.ireturn, 1) := by decide +kernel
theorem dL_law_828 : decode cL_law 828 = .ok (.aload_n 1, 1) := by decide +kernel
theorem dL_law_829 : decode cL_law 829 = .ok (.aload_n 0, 1) := by decide +kernel
theorem dL_law_830 : decode cL_law 830 = .ok (.iload 4, 2) := by decide +kernel
theorem dL_law_832 : decode cL_law 832 = .ok (.iconst 1, 1) := by decide +kernel
theorem dL_law_833 : decode cL_law 833 = .ok (.iadd, 1) := by decide +kernel
theorem dL_law_834 : decode cL_law 834 = .ok (.iaload, 1) := by decide +kernel
theorem dL_law_835 : decode cL_law 835 = .ok (.aload_n 3, 1) := by decide +kernel
theorem dL_law_836 : decode cL_law 836 = .ok (.invokestatic 124, 3) := by decide +kernel
theorem dL_law_839 : decode cL_law 839 = .ok (.istore 5, 2) := by decide +kernel
theorem dL_law_841 : decode cL_law 841 = .ok (.aload_n 2, 1) := by decide +kernel
theorem dL_law_842 : decode cL_law 842 = .ok (.aload_n 0, 1) := by decide +kernel
theorem dL_law_843 : decode cL_law 843 = .ok (.iload 4, 2) := by decide +kernel
theorem dL_law_845 : decode cL_law 845 = .ok (.iconst 1, 1) := by decide +kernel
theorem dL_law_846 : decode cL_law 846 = .ok (.iadd, 1) := by decide +kernel
theorem dL_law_847 : decode cL_law 847 = .ok (.iaload, 1) := by decide +kernel
theorem dL_law_848 : decode cL_law 848 = .ok (.invokevirtual 126, 3) := by decide +kernel
theorem dL_law_851 : decode cL_law 851 = .ok (.istore 6, 2) := by decide +kernel
theorem dL_law_853 : decode cL_law 853 = .ok (.aload_n 2, 1) := by decide +kernel
theorem dL_law_854 : decode cL_law 854 = .ok (.invokevirtual 78, 3) := by decide +kernel
theorem dL_law_857 : decode cL_law 857 = .ok (.iload 5, 2) := by decide +kernel
theorem dL_law_859 : decode cL_law 859 = .ok (.if_icmp .eq 5, 3) := by decide +kernel
theorem dL_law_862 : decode cL_law 862 = .ok (.iconst 0, 1) := by decide +kernel
theorem dL_law_863 : decode cL_law 863 = .ok (.ireturn, 1) := by decide +kernel
theorem dL_law_864 : decode cL_law 864 = .ok (.iload 5, 2) := by decide +kernel
theorem dL_law_866 : decode cL_law 866 = .ok (.ifCond .ne 15, 3) := by decide +kernel
theorem dL_law_869 : decode cL_law 869 = .ok (.aload_n 3, 1) := by decide +kernel
theorem dL_law_870 : decode cL_law 870 = .ok (.iconst 0, 1) := by decide +kernel
theorem dL_law_871 : decode cL_law 871 = .ok (.laload, 1) := by decide +kernel
theorem dL_law_872 : decode cL_law 872 = .ok (.iload 6, 2) := by decide +kernel
theorem dL_law_874 : decode cL_law 874 = .ok (.i2l, 1) := by decide +kernel
theorem dL_law_875 : decode cL_law 875 = .ok (.lcmp, 1) := by decide +kernel
theorem dL_law_876 : decode cL_law 876 = .ok (.ifCond .eq 5, 3) := by decide +kernel
theorem dL_law_879 : decode cL_law 879 = .ok (.iconst 0, 1) := by decide +kernel
theorem dL_law_880 : decode cL_law 880 = .ok (.ireturn, 1) := by decide +kernel
theorem dL_law_881 : decode cL_law 881 = .ok (.goto 368, 3) := by decide +kernel
theorem dL_law_884 : decode cL_law 884 = .ok (.aload_n 1, 1) := by decide +kernel
theorem dL_law_885 : decode cL_law 885 = .ok (.aload_n 0, 1) := by decide +kernel
theorem dL_law_886 : decode cL_law 886 = .ok (.iload 4, 2) := by decide +kernel
theorem dL_law_888 : decode cL_law 888 = .ok (.iconst 1, 1) := by decide +kernel
theorem dL_law_889 : decode cL_law 889 = .ok (.iadd, 1) := by decide +kernel
theorem dL_law_890 : decode cL_law 890 = .ok (.iaload, 1) := by decide +kernel
theorem dL_law_891 : decode cL_law 891 = .ok (.aload_n 3, 1) := by decide +kernel
theorem dL_law_892 : decode cL_law 892 = .ok (.invokestatic 127, 3) := by decide +kernel
theorem dL_law_895 : decode cL_law 895 = .ok (.istore 5, 2) := by decide +kernel
theorem dL_law_897 : decode cL_law 897 = .ok (.aload_n 2, 1) := by decide +kernel
theorem dL_law_898 : decode cL_law 898 = .ok (.aload_n 0, 1) := by decide +kernel
theorem dL_law_899 : decode cL_law 899 = .ok (.iload 4, 2) := by decide +kernel
theorem dL_law_901 : decode cL_law 901 = .ok (.iconst 1, 1) := by decide +kernel
theorem dL_law_902 : decode cL_law 902 = .ok (.iadd, 1) := by decide +kernel
theorem dL_law_903 : decode cL_law 903 = .ok (.iaload, 1) := by decide +kernel
theorem dL_law_904 : decode cL_law 904 = .ok (.invokevirtual 129, 3) := by decide +kernel
theorem dL_law_907 : decode cL_law 907 = .ok (.istore 6, 2) := by decide +kernel
theorem dL_law_909 : decode cL_law 909 = .ok (.aload_n 2, 1) := by decide +kernel
theorem dL_law_910 : decode cL_law 910 = .ok (.invokevirtual 78, 3) := by decide +kernel
theorem dL_law_913 : decode cL_law 913 = .ok (.iload 5, 2) := by decide +kernel
theorem dL_law_915 : decode cL_law 915 = .ok (.if_icmp .eq 5, 3) := by decide +kernel
theorem dL_law_918 : decode cL_law 918 = .ok (.iconst 0, 1) := by decide +kernel
theorem dL_law_919 : decode cL_law 919 = .ok (.ireturn, 1) := by decide +kernel
theorem dL_law_920 : decode cL_law 920 = .ok (.iload 5, 2) := by decide +kernel
theorem dL_law_922 : decode cL_law 922 = .ok (.ifCond .ne 15, 3) := by decide +kernel
theorem dL_law_925 : decode cL_law 925 = .ok (.aload_n 3, 1) := by decide +kernel
theorem dL_law_926 : decode cL_law 926 = .ok (.iconst 0, 1) := by decide +kernel
theorem dL_law_927 : decode cL_law 927 = .ok (.laload, 1) := by decide +kernel
theorem dL_law_928 : decode cL_law 928 = .ok (.iload 6, 2) := by decide +kernel
theorem dL_law_930 : decode cL_law 930 = .ok (.i2l, 1) := by decide +kernel
theorem dL_law_931 : decode cL_law 931 = .ok (.lcmp, 1) := by decide +kernel
theorem dL_law_932 : decode cL_law 932 = .ok (.ifCond .eq 5, 3) := by decide +kernel
theorem dL_law_935 : decode cL_law 935 = .ok (.iconst 0, 1) := by decide +kernel
theorem dL_law_936 : decode cL_law 936 = .ok (.ireturn, 1) := by decide +kernel
theorem dL_law_937 : decode cL_law 937 = .ok (.goto 312, 3) := by decide +kernel
theorem dL_law_940 : decode cL_law 940 = .ok (.aload_n 1, 1) := by decide +kernel
theorem dL_law_941 : decode cL_law 941 = .ok (.aload_n 0, 1) := by decide +kernel
theorem dL_law_942 : decode cL_law 942 = .ok (.iload 4, 2) := by decide +kernel
theorem dL_law_944 : decode cL_law 944 = .ok (.iconst 1, 1) := by decide +kernel
theorem dL_law_945 : decode cL_law 945 = .ok (.iadd, 1) := by decide +kernel
theorem dL_law_946 : decode cL_law 946 = .ok (.iaload, 1) := by decide +kernel
theorem dL_law_947 : decode cL_law 947 = .ok (.aload_n 0, 1) := by decide +kernel
theorem dL_law_948 : decode cL_law 948 = .ok (.iload 4, 2) := by decide +kernel
theorem dL_law_950 : decode cL_law 950 = .ok (.iconst 2, 1) := by decide +kernel
theorem dL_law_951 : decode cL_law 951 = .ok (.iadd, 1) := by decide +kernel
theorem dL_law_952 : decode cL_law 952 = .ok (.iaload, 1) := by decide +kernel
theorem dL_law_953 : decode cL_law 953 = .ok (.aload_n 3, 1) := by decide +kernel
theorem dL_law_954 : decode cL_law 954 = .ok (.invokestatic 130, 3) := by decide +kernel
theorem dL_law_957 : decode cL_law 957 = .ok (.istore 5, 2) := by decide +kernel
theorem dL_law_959 : decode cL_law 959 = .ok (.aload_n 2, 1) := by decide +kernel
theorem dL_law_960 : decode cL_law 960 = .ok (.aload_n 0, 1) := by decide +kernel
theorem dL_law_961 : decode cL_law 961 = .ok (.iload 4, 2) := by decide +kernel
theorem dL_law_963 : decode cL_law 963 = .ok (.iconst 1, 1) := by decide +kernel
theorem dL_law_964 : decode cL_law 964 = .ok (.iadd, 1) := by decide +kernel
theorem dL_law_965 : decode cL_law 965 = .ok (.iaload, 1) := by decide +kernel
theorem dL_law_966 : decode cL_law 966 = .ok (.aload_n 0, 1) := by decide +kernel
theorem dL_law_967 : decode cL_law 967 = .ok (.iload 4, 2) := by decide +kernel
theorem dL_law_969 : decode cL_law 969 = .ok (.iconst 2, 1) := by decide +kernel
theorem dL_law_970 : decode cL_law 970 = .ok (.iadd, 1) := by decide +kernel
theorem dL_law_971 : decode cL_law 971 = .ok (.iaload, 1) := by decide +kernel
theorem dL_law_972 : decode cL_law 972 = .ok (.invokevirtual 132, 3) := by decide +kernel
theorem dL_law_975 : decode cL_law 975 = .ok (.istore 6, 2) := by decide +kernel
theorem dL_law_977 : decode cL_law 977 = .ok (.aload_n 2, 1) := by decide +kernel
theorem dL_law_978 : decode cL_law 978 = .ok (.invokevirtual 78, 3) := by decide +kernel
theorem dL_law_981 : decode cL_law 981 = .ok (.iload 5, 2) := by decide +kernel
theorem dL_law_983 : decode cL_law 983 = .ok (.if_icmp .eq 5, 3) := by decide +kernel
theorem dL_law_986 : decode cL_law 986 = .ok (.iconst 0, 1) := by decide +kernel
theorem dL_law_987 : decode cL_law 987 = .ok (.ireturn, 1) := by decide +kernel
theorem dL_law_988 : decode cL_law 988 = .ok (.iload 5, 2) := by decide +kernel
theorem dL_law_990 : decode cL_law 990 = .ok (.ifCond .ne 15, 3) := by decide +kernel
theorem dL_law_993 : decode cL_law 993 = .ok (.aload_n 3, 1) := by decide +kernel
theorem dL_law_994 : decode cL_law 994 = .ok (.iconst 0, 1) := by decide +kernel
theorem dL_law_995 : decode cL_law 995 = .ok (.laload, 1) := by decide +kernel
theorem dL_law_996 : decode cL_law 996 = .ok (.iload 6, 2) := by decide +kernel
theorem dL_law_998 : decode cL_law 998 = .ok (.i2l, 1) := by decide +kernel
theorem dL_law_999 : decode cL_law 999 = .ok (.lcmp, 1) := by decide +kernel
theorem dL_law_1000 : decode cL_law 1000 = .ok (.ifCond .eq 5, 3) := by decide +kernel
theorem dL_law_1003 : decode cL_law 1003 = .ok (.iconst 0, 1) := by decide +kernel
theorem dL_law_1004 : decode cL_law 1004 = .ok (.ireturn, 1) := by decide +kernel
theorem dL_law_1005 : decode cL_law 1005 = .ok (.goto 244, 3) := by decide +kernel
theorem dL_law_1008 : decode cL_law 1008 = .ok (.aload_n 1, 1) := by decide +kernel
theorem dL_law_1009 : decode cL_law 1009 = .ok (.invokevirtual 133, 3) := by decide +kernel
theorem dL_law_1012 : decode cL_law 1012 = .ok (.aload_n 2, 1) := by decide +kernel
theorem dL_law_1013 : decode cL_law 1013 = .ok (.invokevirtual 136, 3) := by decide +kernel
theorem dL_law_1016 : decode cL_law 1016 = .ok (.if_icmp .eq 233, 3) := by decide +kernel
theorem dL_law_1019 : decode cL_law 1019 = .ok (.iconst 0, 1) := by decide +kernel
theorem dL_law_1020 : decode cL_law 1020 = .ok (.ireturn, 1) := by decide +kernel
theorem dL_law_1021 : decode cL_law 1021 = .ok (.aload_n 1, 1) := by decide +kernel
theorem dL_law_1022 : decode cL_law 1022 = .ok (.aload_n 0, 1) := by decide +kernel
theorem dL_law_1023 : decode cL_law 1023 = .ok (.iload 4, 2) := by decide +kernel
theorem dL_law_1025 : decode cL_law 1025 = .ok (.iconst 1, 1) := by decide +kernel
theorem dL_law_1026 : decode cL_law 1026 = .ok (.iadd, 1) := by decide +kernel
theorem dL_law_1027 : decode cL_law 1027 = .ok (.iaload, 1) := by decide +kernel
theorem dL_law_1028 : decode cL_law 1028 = .ok (.aload_n 0, 1) := by decide +kernel
theorem dL_law_1029 : decode cL_law 1029 = .ok (.iload 4, 2) := by decide +kernel
theorem dL_law_1031 : decode cL_law 1031 = .ok (.iconst 2, 1) := by decide +kernel
theorem dL_law_1032 : decode cL_law 1032 = .ok (.iadd, 1) := by decide +kernel
theorem dL_law_1033 : decode cL_law 1033 = .ok (.iaload, 1) := by decide +kernel
theorem dL_law_1034 : decode cL_law 1034 = .ok (.aload_n 3, 1) := by decide +kernel
theorem dL_law_1035 : decode cL_law 1035 = .ok (.invokestatic 137, 3) := by decide +kernel
theorem dL_law_1038 : decode cL_law 1038 = .ok (.istore 5, 2) := by decide +kernel
theorem dL_law_1040 : decode cL_law 1040 = .ok (.aload_n 2, 1) := by decide +kernel
theorem dL_law_1041 : decode cL_law 1041 = .ok (.aload_n 0, 1) := by decide +kernel
theorem dL_law_1042 : decode cL_law 1042 = .ok (.iload 4, 2) := by decide +kernel
theorem dL_law_1044 : decode cL_law 1044 = .ok (.iconst 1, 1) := by decide +kernel
theorem dL_law_1045 : decode cL_law 1045 = .ok (.iadd, 1) := by decide +kernel
theorem dL_law_1046 : decode cL_law 1046 = .ok (.iaload, 1) := by decide +kernel
theorem dL_law_1047 : decode cL_law 1047 = .ok (.aload_n 0, 1) := by decide +kernel
theorem dL_law_1048 : decode cL_law 1048 = .ok (.iload 4, 2) := by decide +kernel
theorem dL_law_1050 : decode cL_law 1050 = .ok (.iconst 2, 1) := by decide +kernel
theorem dL_law_1051 : decode cL_law 1051 = .ok (.iadd, 1) := by decide +kernel
theorem dL_law_1052 : decode cL_law 1052 = .ok (.iaload, 1) := by decide +kernel
theorem dL_law_1053 : decode cL_law 1053 = .ok (.invokevirtual 139, 3) := by decide +kernel
theorem dL_law_1056 : decode cL_law 1056 = .ok (.istore 6, 2) := by decide +kernel
theorem dL_law_1058 : decode cL_law 1058 = .ok (.aload_n 2, 1) := by decide +kernel
theorem dL_law_1059 : decode cL_law 1059 = .ok (.invokevirtual 78, 3) := by decide +kernel
theorem dL_law_1062 : decode cL_law 1062 = .ok (.iload 5, 2) := by decide +kernel
theorem dL_law_1064 : decode cL_law 1064 = .ok (.if_icmp .eq 5, 3) := by decide +kernel
theorem dL_law_1067 : decode cL_law 1067 = .ok (.iconst 0, 1) := by decide +kernel
theorem dL_law_1068 : decode cL_law 1068 = .ok (.ireturn, 1) := by decide +kernel
theorem dL_law_1069 : decode cL_law 1069 = .ok (.iload 5, 2) := by decide +kernel
theorem dL_law_1071 : decode cL_law 1071 = .ok (.ifCond .ne 15, 3) := by decide +kernel
theorem dL_law_1074 : decode cL_law 1074 = .ok (.aload_n 3, 1) := by decide +kernel
theorem dL_law_1075 : decode cL_law 1075 = .ok (.iconst 0, 1) := by decide +kernel
theorem dL_law_1076 : decode cL_law 1076 = .ok (.laload, 1) := by decide +kernel
theorem dL_law_1077 : decode cL_law 1077 = .ok (.iload 6, 2) := by decide +kernel
theorem dL_law_1079 : decode cL_law 1079 = .ok (.i2l, 1) := by decide +kernel
theorem dL_law_1080 : decode cL_law 1080 = .ok (.lcmp, 1) := by decide +kernel
theorem dL_law_1081 : decode cL_law 1081 = .ok (.ifCond .eq 5, 3) := by decide +kernel
theorem dL_law_1084 : decode cL_law 1084 = .ok (.iconst 0, 1) := by decide +kernel
theorem dL_law_1085 : decode cL_law 1085 = .ok (.ireturn, 1) := by decide +kernel
theorem dL_law_1086 : decode cL_law 1086 = .ok (.goto 163, 3) := by decide +kernel
theorem dL_law_1089 : decode cL_law 1089 = .ok (.aload_n 1, 1) := by decide +kernel
theorem dL_law_1090 : decode cL_law 1090 = .ok (.aload_n 0, 1) := by decide +kernel
theorem dL_law_1091 : decode cL_law 1091 = .ok (.iload 4, 2) := by decide +kernel
theorem dL_law_1093 : decode cL_law 1093 = .ok (.iconst 1, 1) := by decide +kernel
theorem dL_law_1094 : decode cL_law 1094 = .ok (.iadd, 1) := by decide +kernel
theorem dL_law_1095 : decode cL_law 1095 = .ok (.iaload, 1) := by decide +kernel
theorem dL_law_1096 : decode cL_law 1096 = .ok (.aload_n 3, 1) := by decide +kernel
theorem dL_law_1097 : decode cL_law 1097 = .ok (.invokestatic 140, 3) := by decide +kernel
theorem dL_law_1100 : decode cL_law 1100 = .ok (.istore 5, 2) := by decide +kernel
theorem dL_law_1102 : decode cL_law 1102 = .ok (.aload_n 2, 1) := by decide +kernel
theorem dL_law_1103 : decode cL_law 1103 = .ok (.aload_n 0, 1) := by decide +kernel
theorem dL_law_1104 : decode cL_law 1104 = .ok (.iload 4, 2) := by decide +kernel
theorem dL_law_1106 : decode cL_law 1106 = .ok (.iconst 1, 1) := by decide +kernel
theorem dL_law_1107 : decode cL_law 1107 = .ok (.iadd, 1) := by decide +kernel
theorem dL_law_1108 : decode cL_law 1108 = .ok (.iaload, 1) := by decide +kernel
theorem dL_law_1109 : decode cL_law 1109 = .ok (.invokevirtual 142, 3) := by decide +kernel
theorem dL_law_1112 : decode cL_law 1112 = .ok (.istore 6, 2) := by decide +kernel
theorem dL_law_1114 : decode cL_law 1114 = .ok (.aload_n 2, 1) := by decide +kernel
theorem dL_law_1115 : decode cL_law 1115 = .ok (.invokevirtual 78, 3) := by decide +kernel
theorem dL_law_1118 : decode cL_law 1118 = .ok (.iload 5, 2) := by decide +kernel
theorem dL_law_1120 : decode cL_law 1120 = .ok (.if_icmp .eq 5, 3) := by decide +kernel
theorem dL_law_1123 : decode cL_law 1123 = .ok (.iconst 0, 1) := by decide +kernel
theorem dL_law_1124 : decode cL_law 1124 = .ok (.ireturn, 1) := by decide +kernel
theorem dL_law_1125 : decode cL_law 1125 = .ok (.iload 5, 2) := by decide +kernel
theorem dL_law_1127 : decode cL_law 1127 = .ok (.ifCond .ne 15, 3) := by decide +kernel
theorem dL_law_1130 : decode cL_law 1130 = .ok (.aload_n 3, 1) := by decide +kernel
theorem dL_law_1131 : decode cL_law 1131 = .ok (.iconst 0, 1) := by decide +kernel
theorem dL_law_1132 : decode cL_law 1132 = .ok (.laload, 1) := by decide +kernel
theorem dL_law_1133 : decode cL_law 1133 = .ok (.iload 6, 2) := by decide +kernel
theorem dL_law_1135 : decode cL_law 1135 = .ok (.i2l, 1) := by decide +kernel
theorem dL_law_1136 : decode cL_law 1136 = .ok (.lcmp, 1) := by decide +kernel
theorem dL_law_1137 : decode cL_law 1137 = .ok (.ifCond .eq 5, 3) := by decide +kernel
theorem dL_law_1140 : decode cL_law 1140 = .ok (.iconst 0, 1) := by decide +kernel
theorem dL_law_1141 : decode cL_law 1141 = .ok (.ireturn, 1) := by decide +kernel
theorem dL_law_1142 : decode cL_law 1142 = .ok (.goto 107, 3) := by decide +kernel
theorem dL_law_1145 : decode cL_law 1145 = .ok (.aload_n 1, 1) := by decide +kernel
theorem dL_law_1146 : decode cL_law 1146 = .ok (.aload_n 0, 1) := by decide +kernel
theorem dL_law_1147 : decode cL_law 1147 = .ok (.iload 4, 2) := by decide +kernel
theorem dL_law_1149 : decode cL_law 1149 = .ok (.iconst 1, 1) := by decide +kernel
theorem dL_law_1150 : decode cL_law 1150 = .ok (.iadd, 1) := by decide +kernel
theorem dL_law_1151 : decode cL_law 1151 = .ok (.iaload, 1) := by decide +kernel
theorem dL_law_1152 : decode cL_law 1152 = .ok (.aload_n 0, 1) := by decide +kernel
theorem dL_law_1153 : decode cL_law 1153 = .ok (.iload 4, 2) := by decide +kernel
theorem dL_law_1155 : decode cL_law 1155 = .ok (.iconst 2, 1) := by decide +kernel
theorem dL_law_1156 : decode cL_law 1156 = .ok (.iadd, 1) := by decide +kernel
theorem dL_law_1157 : decode cL_law 1157 = .ok (.iaload, 1) := by decide +kernel
theorem dL_law_1158 : decode cL_law 1158 = .ok (.aload_n 0, 1) := by decide +kernel
theorem dL_law_1159 : decode cL_law 1159 = .ok (.iload 4, 2) := by decide +kernel
theorem dL_law_1161 : decode cL_law 1161 = .ok (.iconst 3, 1) := by decide +kernel
theorem dL_law_1162 : decode cL_law 1162 = .ok (.iadd, 1) := by decide +kernel
theorem dL_law_1163 : decode cL_law 1163 = .ok (.iaload, 1) := by decide +kernel
theorem dL_law_1164 : decode cL_law 1164 = .ok (.aload_n 3, 1) := by decide +kernel
theorem dL_law_1165 : decode cL_law 1165 = .ok (.invokestatic 143, 3) := by decide +kernel
theorem dL_law_1168 : decode cL_law 1168 = .ok (.istore 5, 2) := by decide +kernel
theorem dL_law_1170 : decode cL_law 1170 = .ok (.aload_n 2, 1) := by decide +kernel
theorem dL_law_1171 : decode cL_law 1171 = .ok (.aload_n 0, 1) := by decide +kernel
theorem dL_law_1172 : decode cL_law 1172 = .ok (.iload 4, 2) := by decide +kernel
theorem dL_law_1174 : decode cL_law 1174 = .ok (.iconst 1, 1) := by decide +kernel
theorem dL_law_1175 : decode cL_law 1175 = .ok (.iadd, 1) := by decide +kernel
theorem dL_law_1176 : decode cL_law 1176 = .ok (.iaload, 1) := by decide +kernel
theorem dL_law_1177 : decode cL_law 1177 = .ok (.aload_n 0, 1) := by decide +kernel
theorem dL_law_1178 : decode cL_law 1178 = .ok (.iload 4, 2) := by decide +kernel
theorem dL_law_1180 : decode cL_law 1180 = .ok (.iconst 2, 1) := by decide +kernel
theorem dL_law_1181 : decode cL_law 1181 = .ok (.iadd, 1) := by decide +kernel
theorem dL_law_1182 : decode cL_law 1182 = .ok (.iaload, 1) := by decide +kernel
theorem dL_law_1183 : decode cL_law 1183 = .ok (.aload_n 0, 1) := by decide +kernel
theorem dL_law_1184 : decode cL_law 1184 = .ok (.iload 4, 2) := by decide +kernel
theorem dL_law_1186 : decode cL_law 1186 = .ok (.iconst 3, 1) := by decide +kernel
theorem dL_law_1187 : decode cL_law 1187 = .ok (.iadd, 1) := by decide +kernel
theorem dL_law_1188 : decode cL_law 1188 = .ok (.iaload, 1) := by decide +kernel
theorem dL_law_1189 : decode cL_law 1189 = .ok (.invokevirtual 146, 3) := by decide +kernel
theorem dL_law_1192 : decode cL_law 1192 = .ok (.istore 6, 2) := by decide +kernel
theorem dL_law_1194 : decode cL_law 1194 = .ok (.aload_n 2, 1) := by decide +kernel
theorem dL_law_1195 : decode cL_law 1195 = .ok (.invokevirtual 78, 3) := by decide +kernel
theorem dL_law_1198 : decode cL_law 1198 = .ok (.iload 5, 2) := by decide +kernel
theorem dL_law_1200 : decode cL_law 1200 = .ok (.if_icmp .eq 5, 3) := by decide +kernel
theorem dL_law_1203 : decode cL_law 1203 = .ok (.iconst 0, 1) := by decide +kernel
theorem dL_law_1204 : decode cL_law 1204 = .ok (.ireturn, 1) := by decide +kernel
theorem dL_law_1205 : decode cL_law 1205 = .ok (.iload 5, 2) := by decide +kernel
theorem dL_law_1207 : decode cL_law 1207 = .ok (.ifCond .ne 15, 3) := by decide +kernel
theorem dL_law_1210 : decode cL_law 1210 = .ok (.aload_n 3, 1) := by decide +kernel
theorem dL_law_1211 : decode cL_law 1211 = .ok (.iconst 0, 1) := by decide +kernel
theorem dL_law_1212 : decode cL_law 1212 = .ok (.laload, 1) := by decide +kernel
theorem dL_law_1213 : decode cL_law 1213 = .ok (.iload 6, 2) := by decide +kernel
theorem dL_law_1215 : decode cL_law 1215 = .ok (.i2l, 1) := by decide +kernel
theorem dL_law_1216 : decode cL_law 1216 = .ok (.lcmp, 1) := by decide +kernel
theorem dL_law_1217 : decode cL_law 1217 = .ok (.ifCond .eq 5, 3) := by decide +kernel
theorem dL_law_1220 : decode cL_law 1220 = .ok (.iconst 0, 1) := by decide +kernel
theorem dL_law_1221 : decode cL_law 1221 = .ok (.ireturn, 1) := by decide +kernel
theorem dL_law_1222 : decode cL_law 1222 = .ok (.goto 27, 3) := by decide +kernel
theorem dL_law_1225 : decode cL_law 1225 = .ok (.aload_n 1, 1) := by decide +kernel
theorem dL_law_1226 : decode cL_law 1226 = .ok (.invokevirtual 147, 3) := by decide +kernel
theorem dL_law_1229 : decode cL_law 1229 = .ok (.aload_n 2, 1) := by decide +kernel
theorem dL_law_1230 : decode cL_law 1230 = .ok (.invokevirtual 150, 3) := by decide +kernel
theorem dL_law_1233 : decode cL_law 1233 = .ok (.goto 16, 3) := by decide +kernel
theorem dL_law_1236 : decode cL_law 1236 = .ok (.aload_n 1, 1) := by decide +kernel
theorem dL_law_1237 : decode cL_law 1237 = .ok (.invokevirtual 151, 3) := by decide +kernel
theorem dL_law_1240 : decode cL_law 1240 = .ok (.aload_n 2, 1) := by decide +kernel
theorem dL_law_1241 : decode cL_law 1241 = .ok (.invokevirtual 155, 3) := by decide +kernel
theorem dL_law_1244 : decode cL_law 1244 = .ok (.if_icmp .eq 5, 3) := by decide +kernel
theorem dL_law_1247 : decode cL_law 1247 = .ok (.iconst 0, 1) := by decide +kernel
theorem dL_law_1248 : decode cL_law 1248 = .ok (.ireturn, 1) := by decide +kernel
theorem dL_law_1249 : decode cL_law 1249 = .ok (.iinc 4 6, 3) := by decide +kernel
theorem dL_law_1252 : decode cL_law 1252 = .ok (.goto (-1229), 3) := by decide +kernel
theorem dL_law_1255 : decode cL_law 1255 = .ok (.iconst 1, 1) := by decide +kernel
theorem dL_law_1256 : decode cL_law 1256 = .ok (.ireturn, 1) := by decide +kernel
theorem sL_law_0 {ls : List Value} (h : am_R E d mL_law k n 3 ls (.ref S.2.2.2 :: st) (am_new S (.inl 9)) (am_0 S iv) Q) : am_R E d mL_law (k + 1) (n + 11) 0 ls st S iv Q := am_newO (ci := 9) dL_law_0 rfl rfl wq_1206 wq_1207 wq_581 uq_9 tyX9_ok dq_9 (by omega) (by omega) h
theorem sL_law_3 {ls : List Value} {x : Value} (hv : x.category = 1) (h : am_R E d mL_law k n 4 ls (x :: x :: st) S iv Q) : am_R E d mL_law k n 3 ls (x :: st) S iv Q := am_dup dL_law_3 hv h
theorem sL_law_4 {ls : List Value} {k' n' : Nat} {a : Nat} (hst : (st.map fun v => v.category).sum ≤ 8) (hM : am_M E d mX9_init k' n' [.ref a] S iv (fun o S' iv' => o = .inl none ∧ am_R E (d + 1) mL_law k n 7 ls st S' iv' Q)) : am_R E (d + 1) mL_law (k' + k) (n' + n) 4 ls (.ref a :: st) S iv Q := am_cI (M' := mX9_init) (as := []) "" dL_law_4 rfl rfl rfl (Or.inl wq_1211) wq_1210 wq_581 wq_1208 hy_X9_init (by decide) hst (by omega) (by omega) hM
theorem sL_law_7 {a0 a1 a2 a3 a4 a5 a6 : Value} {x : Value} (hv : am_rf x = true) (h : am_R E d mL_law k n 8 [a0, x, a2, a3, a4, a5, a6] st S iv Q) : am_R E d mL_law k n 7 [a0, a1, a2, a3, a4, a5, a6] (x :: st) S iv Q := am_astore_n dL_law_7 rfl (by decide) hv h
theorem sL_law_8 {ls : List Value} (h : am_R E d mL_law k n 11 ls (.ref S.2.2.2 :: st) (am_new S (.inl 10)) (am_0 S iv) Q) : am_R E d mL_law (k + 1) (n + 57) 8 ls st S iv Q := am_newO (ci := 10) dL_law_8 rfl rfl wq_1212 wq_1213 wq_808 uq_10 tyX10_ok dq_10 (by omega) (by omega) h
theorem sL_law_11 {ls : List Value} {x : Value} (hv : x.category = 1) (h : am_R E d mL_law k n 12 ls (x :: x :: st) S iv Q) : am_R E d mL_law k n 11 ls (x :: st) S iv Q := am_dup dL_law_11 hv h
theorem sL_law_12 {ls : List Value} {k' n' : Nat} {a : Nat} (hst : (st.map fun v => v.category).sum ≤ 8) (hM : am_M E d mX10_init k' n' [.ref a] S iv (fun o S' iv' => o = .inl none ∧ am_R E (d + 1) mL_law k n 15 ls st S' iv' Q)) : am_R E (d + 1) mL_law (k' + k) (n' + n) 12 ls (.ref a :: st) S iv Q := am_cI (M' := mX10_init) (as := []) "" dL_law_12 rfl rfl rfl (Or.inl wq_1217) wq_1216 wq_808 wq_1214 hy_X10_init (by decide) hst (by omega) (by omega) hM
theorem sL_law_15 {a0 a1 a2 a3 a4 a5 a6 : Value} {x : Value} (hv : am_rf x = true) (h : am_R E d mL_law k n 16 [a0, a1, x, a3, a4, a5, a6] st S iv Q) : am_R E d mL_law k n 15 [a0, a1, a2, a3, a4, a5, a6] (x :: st) S iv Q := am_astore_n dL_law_15 rfl (by decide) hv h
theorem sL_law_16 {a0 a1 a2 a3 a4 a5 a6 : Value} (h : am_R E d mL_law k n 17 [a0, a1, a2, a3, a4, a5, a6] (.int 1 :: st) S iv Q) : am_R E d mL_law k n 16 [a0, a1, a2, a3, a4, a5, a6] st S iv Q := am_iconst dL_law_16 (by decide) h
theorem sL_law_17 {ls : List Value} {x : Int32} {m : Nat} (hx : ¬ x < 0) (hm : x.toNatClampNeg = m) (hb : m ≤ 50000000) (h : am_R E d mL_law k n 19 ls (.ref S.2.2.2 :: st) (am_new S (.inr (.long, m))) (am_0 S iv) Q) : am_R E d mL_law (k + 1) (n + m) 17 ls (.int x :: st) S iv Q := am_nL dL_law_17 wq_1218 hx hm (by omega) (by omega) (by omega) h
theorem sL_law_19 {a0 a1 a2 a3 a4 a5 a6 : Value} {x : Value} (hv : am_rf x = true) (h : am_R E d mL_law k n 20 [a0, a1, a2, x, a4, a5, a6] st S iv Q) : am_R E d mL_law k n 19 [a0, a1, a2, a3, a4, a5, a6] (x :: st) S iv Q := am_astore_n dL_law_19 rfl (by decide) hv h
theorem sL_law_20 {a0 a1 a2 a3 a4 a5 a6 : Value} (h : am_R E d mL_law k n 21 [a0, a1, a2, a3, a4, a5, a6] (.int 0 :: st) S iv Q) : am_R E d mL_law k n 20 [a0, a1, a2, a3, a4, a5, a6] st S iv Q := am_iconst dL_law_20 (by decide) h
theorem sL_law_21 {a0 a1 a2 a3 a4 a5 a6 : Value} {x : Int32} (h : am_R E d mL_law k n 23 [a0, a1, a2, a3, .int x, a5, a6] st S iv Q) : am_R E d mL_law k n 21 [a0, a1, a2, a3, a4, a5, a6] (.int x :: st) S iv Q := am_istore dL_law_21 (by decide) h
theorem sL_law_23 {a0 a1 a2 a3 a5 a6 : Value} {x : Int32} (h : am_R E d mL_law k n 25 [a0, a1, a2, a3, .int x, a5, a6] (.int x :: st) S iv Q) : am_R E d mL_law k n 23 [a0, a1, a2, a3, .int x, a5, a6] st S iv Q := am_iload dL_law_23 rfl h
theorem sL_law_25 {a0 a1 a2 a3 a4 a5 a6 : Value} (hv : am_rf a0 = true) (h : am_R E d mL_law k n 26 [a0, a1, a2, a3, a4, a5, a6] (a0 :: st) S iv Q) : am_R E d mL_law k n 25 [a0, a1, a2, a3, a4, a5, a6] st S iv Q := am_aload_n dL_law_25 rfl rfl hv h
theorem sL_law_26 {ls : List Value} (h : am_R E d mL_law k n 27 ls (.int (Int32.ofNat (am_L E)) :: st) S iv Q) : am_R E d mL_law k n 26 ls (.null :: st) S iv Q := am_salen dL_law_26 h
theorem sL_law_27 {a0 a1 a2 a3 a4 a5 a6 : Value} (h : am_R E d mL_law k n 29 [a0, a1, a2, a3, a4, a5, a6] (.int 6 :: st) S iv Q) : am_R E d mL_law k n 27 [a0, a1, a2, a3, a4, a5, a6] st S iv Q := am_bipush dL_law_27 (by decide) h
theorem sL_law_29 {ls : List Value} {x y : Int32} (h : am_R E d mL_law k n 30 ls (.int (x - y) :: st) S iv Q) : am_R E d mL_law k n 29 ls (.int y :: .int x :: st) S iv Q := am_isub dL_law_29 h
theorem sL_law_30 {ls : List Value} {x y : Int32} (kt : y < x → am_R E d mL_law k n 1255 ls st S iv Q) (kf : ¬ y < x → am_R E d mL_law k n 33 ls st S iv Q) : am_R E d mL_law k n 30 ls (.int y :: .int x :: st) S iv Q := am_icmp_gt dL_law_30 (by decide) kt kf
theorem sL_law_33 {a0 a1 a2 a3 a4 a5 a6 : Value} (hv : am_rf a0 = true) (h : am_R E d mL_law k n 34 [a0, a1, a2, a3, a4, a5, a6] (a0 :: st) S iv Q) : am_R E d mL_law k n 33 [a0, a1, a2, a3, a4, a5, a6] st S iv Q := am_aload_n dL_law_33 rfl rfl hv h
theorem sL_law_34 {a0 a1 a2 a3 a5 a6 : Value} {x : Int32} (h : am_R E d mL_law k n 36 [a0, a1, a2, a3, .int x, a5, a6] (.int x :: st) S iv Q) : am_R E d mL_law k n 34 [a0, a1, a2, a3, .int x, a5, a6] st S iv Q := am_iload dL_law_34 rfl h
theorem sL_law_36 {ls : List Value} {i : Int32} (hi : vp_in i (am_L E)) (h : am_R E d mL_law k n 37 ls (.int (am_xs E i.toNatClampNeg) :: st) S iv Q) : am_R E d mL_law k n 36 ls (.int i :: .null :: st) S iv Q := am_saload dL_law_36 hi h
theorem sL_law_37 {a0 a1 a2 a3 a4 a5 a6 : Value} (h : am_R E d mL_law k n 39 [a0, a1, a2, a3, a4, a5, a6] (.int 31 :: st) S iv Q) : am_R E d mL_law k n 37 [a0, a1, a2, a3, a4, a5, a6] st S iv Q := am_bipush dL_law_37 (by decide) h
theorem sL_law_39 {ls : List Value} {x y : Int32} (h : am_R E d mL_law k n 40 ls (.int (x &&& y) :: st) S iv Q) : am_R E d mL_law k n 39 ls (.int y :: .int x :: st) S iv Q := am_iand dL_law_39 h
theorem sL_law_40_0 {ls : List Value} (h : am_R E d mL_law k n 148 ls st S iv Q) : am_R E d mL_law k n 40 ls (.int 0 :: st) S iv Q := am_tableIn (off := 108) dL_law_40 (by decide) (by decide) (by decide) (by decide) h
theorem sL_law_40_1 {ls : List Value} (h : am_R E d mL_law k n 221 ls st S iv Q) : am_R E d mL_law k n 40 ls (.int 1 :: st) S iv Q := am_tableIn (off := 181) dL_law_40 (by decide) (by decide) (by decide) (by decide) h
theorem sL_law_40_2 {ls : List Value} (h : am_R E d mL_law k n 277 ls st S iv Q) : am_R E d mL_law k n 40 ls (.int 2 :: st) S iv Q := am_tableIn (off := 237) dL_law_40 (by decide) (by decide) (by decide) (by decide) h
theorem sL_law_40_3 {ls : List Value} (h : am_R E d mL_law k n 290 ls st S iv Q) : am_R E d mL_law k n 40 ls (.int 3 :: st) S iv Q := am_tableIn (off := 250) dL_law_40 (by decide) (by decide) (by decide) (by decide) h
theorem sL_law_40_4 {ls : List Value} (h : am_R E d mL_law k n 346 ls st S iv Q) : am_R E d mL_law k n 40 ls (.int 4 :: st) S iv Q := am_tableIn (off := 306) dL_law_40 (by decide) (by decide) (by decide) (by decide) h
theorem sL_law_40_5 {ls : List Value} (h : am_R E d mL_law k n 414 ls st S iv Q) : am_R E d mL_law k n 40 ls (.int 5 :: st) S iv Q := am_tableIn (off := 374) dL_law_40 (by decide) (by decide) (by decide) (by decide) h
theorem sL_law_40_6 {ls : List Value} (h : am_R E d mL_law k n 482 ls st S iv Q) : am_R E d mL_law k n 40 ls (.int 6 :: st) S iv Q := am_tableIn (off := 442) dL_law_40 (by decide) (by decide) (by decide) (by decide) h
theorem sL_law_40_7 {ls : List Value} (h : am_R E d mL_law k n 545 ls st S iv Q) : am_R E d mL_law k n 40 ls (.int 7 :: st) S iv Q := am_tableIn (off := 505) dL_law_40 (by decide) (by decide) (by decide) (by decide) h
theorem sL_law_40_8 {ls : List Value} (h : am_R E d mL_law k n 601 ls st S iv Q) : am_R E d mL_law k n 40 ls (.int 8 :: st) S iv Q := am_tableIn (off := 561) dL_law_40 (by decide) (by decide) (by decide) (by decide) h
theorem sL_law_40_9 {ls : List Value} (h : am_R E d mL_law k n 626 ls st S iv Q) : am_R E d mL_law k n 40 ls (.int 9 :: st) S iv Q := am_tableIn (off := 586) dL_law_40 (by decide) (by decide) (by decide) (by decide) h
theorem sL_law_40_10 {ls : List Value} (h : am_R E d mL_law k n 639 ls st S iv Q) : am_R E d mL_law k n 40 ls (.int 10 :: st) S iv Q := am_tableIn (off := 599) dL_law_40 (by decide) (by decide) (by decide) (by decide) h
theorem sL_law_40_11 {ls : List Value} (h : am_R E d mL_law k n 703 ls st S iv Q) : am_R E d mL_law k n 40 ls (.int 11 :: st) S iv Q := am_tableIn (off := 663) dL_law_40 (by decide) (by decide) (by decide) (by decide) h
theorem sL_law_40_12 {ls : List Value} (h : am_R E d mL_law k n 759 ls st S iv Q) : am_R E d mL_law k n 40 ls (.int 12 :: st) S iv Q := am_tableIn (off := 719) dL_law_40 (by decide) (by decide) (by decide) (by decide) h
theorem sL_law_40_13 {ls : List Value} (h : am_R E d mL_law k n 815 ls st S iv Q) : am_R E d mL_law k n 40 ls (.int 13 :: st) S iv Q := am_tableIn (off := 775) dL_law_40 (by decide) (by decide) (by decide) (by decide) h
theorem sL_law_40_14 {ls : List Value} (h : am_R E d mL_law k n 828 ls st S iv Q) : am_R E d mL_law k n 40 ls (.int 14 :: st) S iv Q := am_tableIn (off := 788) dL_law_40 (by decide) (by decide) (by decide) (by decide) h
theorem sL_law_40_15 {ls : List Value} (h : am_R E d mL_law k n 884 ls st S iv Q) : am_R E d mL_law k n 40 ls (.int 15 :: st) S iv Q := am_tableIn (off := 844) dL_law_40 (by decide) (by decide) (by decide) (by decide) h
theorem sL_law_40_16 {ls : List Value} (h : am_R E d mL_law k n 940 ls st S iv Q) : am_R E d mL_law k n 40 ls (.int 16 :: st) S iv Q := am_tableIn (off := 900) dL_law_40 (by decide) (by decide) (by decide) (by decide) h
theorem sL_law_40_17 {ls : List Value} (h : am_R E d mL_law k n 1008 ls st S iv Q) : am_R E d mL_law k n 40 ls (.int 17 :: st) S iv Q := am_tableIn (off := 968) dL_law_40 (by decide) (by decide) (by decide) (by decide) h
theorem sL_law_40_18 {ls : List Value} (h : am_R E d mL_law k n 1021 ls st S iv Q) : am_R E d mL_law k n 40 ls (.int 18 :: st) S iv Q := am_tableIn (off := 981) dL_law_40 (by decide) (by decide) (by decide) (by decide) h
theorem sL_law_40_19 {ls : List Value} (h : am_R E d mL_law k n 1089 ls st S iv Q) : am_R E d mL_law k n 40 ls (.int 19 :: st) S iv Q := am_tableIn (off := 1049) dL_law_40 (by decide) (by decide) (by decide) (by decide) h
theorem sL_law_40_20 {ls : List Value} (h : am_R E d mL_law k n 1145 ls st S iv Q) : am_R E d mL_law k n 40 ls (.int 20 :: st) S iv Q := am_tableIn (off := 1105) dL_law_40 (by decide) (by decide) (by decide) (by decide) h
theorem sL_law_40_21 {ls : List Value} (h : am_R E d mL_law k n 1225 ls st S iv Q) : am_R E d mL_law k n 40 ls (.int 21 :: st) S iv Q := am_tableIn (off := 1185) dL_law_40 (by decide) (by decide) (by decide) (by decide) h
theorem sL_law_40_22 {ls : List Value} (h : am_R E d mL_law k n 1236 ls st S iv Q) : am_R E d mL_law k n 40 ls (.int 22 :: st) S iv Q := am_tableIn (off := 1196) dL_law_40 (by decide) (by decide) (by decide) (by decide) h
theorem sL_law_40_d {ls : List Value} {x : Int32} (hx : x.toInt < 0 ∨ 22 < x.toInt) (h : am_R E d mL_law k n 1249 ls st S iv Q) : am_R E d mL_law k n 40 ls (.int x :: st) S iv Q := am_tableOut dL_law_40 hx (by decide) h
theorem sL_law_148 {a0 a1 a2 a3 a4 a5 a6 : Value} (hv : am_rf a1 = true) (h : am_R E d mL_law k n 149 [a0, a1, a2, a3, a4, a5, a6] (a1 :: st) S iv Q) : am_R E d mL_law k n 148 [a0, a1, a2, a3, a4, a5, a6] st S iv Q := am_aload_n dL_law_148 rfl rfl hv h
theorem sL_law_149 {a0 a1 a2 a3 a4 a5 a6 : Value} (hv : am_rf a0 = true) (h : am_R E d mL_law k n 150 [a0, a1, a2, a3, a4, a5, a6] (a0 :: st) S iv Q) : am_R E d mL_law k n 149 [a0, a1, a2, a3, a4, a5, a6] st S iv Q := am_aload_n dL_law_149 rfl rfl hv h
theorem sL_law_150 {a0 a1 a2 a3 a5 a6 : Value} {x : Int32} (h : am_R E d mL_law k n 152 [a0, a1, a2, a3, .int x, a5, a6] (.int x :: st) S iv Q) : am_R E d mL_law k n 150 [a0, a1, a2, a3, .int x, a5, a6] st S iv Q := am_iload dL_law_150 rfl h
theorem sL_law_152 {a0 a1 a2 a3 a4 a5 a6 : Value} (h : am_R E d mL_law k n 153 [a0, a1, a2, a3, a4, a5, a6] (.int 1 :: st) S iv Q) : am_R E d mL_law k n 152 [a0, a1, a2, a3, a4, a5, a6] st S iv Q := am_iconst dL_law_152 (by decide) h
theorem sL_law_153 {ls : List Value} {x y : Int32} (h : am_R E d mL_law k n 154 ls (.int (x + y) :: st) S iv Q) : am_R E d mL_law k n 153 ls (.int y :: .int x :: st) S iv Q := am_iadd dL_law_153 h
theorem sL_law_154 {ls : List Value} {i : Int32} (hi : vp_in i (am_L E)) (h : am_R E d mL_law k n 155 ls (.int (am_xs E i.toNatClampNeg) :: st) S iv Q) : am_R E d mL_law k n 154 ls (.int i :: .null :: st) S iv Q := am_saload dL_law_154 hi h
theorem sL_law_155 {a0 a1 a2 a3 a4 a5 a6 : Value} (hv : am_rf a0 = true) (h : am_R E d mL_law k n 156 [a0, a1, a2, a3, a4, a5, a6] (a0 :: st) S iv Q) : am_R E d mL_law k n 155 [a0, a1, a2, a3, a4, a5, a6] st S iv Q := am_aload_n dL_law_155 rfl rfl hv h
theorem sL_law_156 {a0 a1 a2 a3 a5 a6 : Value} {x : Int32} (h : am_R E d mL_law k n 158 [a0, a1, a2, a3, .int x, a5, a6] (.int x :: st) S iv Q) : am_R E d mL_law k n 156 [a0, a1, a2, a3, .int x, a5, a6] st S iv Q := am_iload dL_law_156 rfl h
theorem sL_law_158 {a0 a1 a2 a3 a4 a5 a6 : Value} (h : am_R E d mL_law k n 159 [a0, a1, a2, a3, a4, a5, a6] (.int 2 :: st) S iv Q) : am_R E d mL_law k n 158 [a0, a1, a2, a3, a4, a5, a6] st S iv Q := am_iconst dL_law_158 (by decide) h
theorem sL_law_159 {ls : List Value} {x y : Int32} (h : am_R E d mL_law k n 160 ls (.int (x + y) :: st) S iv Q) : am_R E d mL_law k n 159 ls (.int y :: .int x :: st) S iv Q := am_iadd dL_law_159 h
theorem sL_law_160 {ls : List Value} {i : Int32} (hi : vp_in i (am_L E)) (h : am_R E d mL_law k n 161 ls (.int (am_xs E i.toNatClampNeg) :: st) S iv Q) : am_R E d mL_law k n 160 ls (.int i :: .null :: st) S iv Q := am_saload dL_law_160 hi h
theorem sL_law_161 {a0 a1 a2 a3 a4 a5 a6 : Value} (hv : am_rf a0 = true) (h : am_R E d mL_law k n 162 [a0, a1, a2, a3, a4, a5, a6] (a0 :: st) S iv Q) : am_R E d mL_law k n 161 [a0, a1, a2, a3, a4, a5, a6] st S iv Q := am_aload_n dL_law_161 rfl rfl hv h
theorem sL_law_162 {a0 a1 a2 a3 a5 a6 : Value} {x : Int32} (h : am_R E d mL_law k n 164 [a0, a1, a2, a3, .int x, a5, a6] (.int x :: st) S iv Q) : am_R E d mL_law k n 162 [a0, a1, a2, a3, .int x, a5, a6] st S iv Q := am_iload dL_law_162 rfl h
theorem sL_law_164 {a0 a1 a2 a3 a4 a5 a6 : Value} (h : am_R E d mL_law k n 165 [a0, a1, a2, a3, a4, a5, a6] (.int 3 :: st) S iv Q) : am_R E d mL_law k n 164 [a0, a1, a2, a3, a4, a5, a6] st S iv Q := am_iconst dL_law_164 (by decide) h
theorem sL_law_165 {ls : List Value} {x y : Int32} (h : am_R E d mL_law k n 166 ls (.int (x + y) :: st) S iv Q) : am_R E d mL_law k n 165 ls (.int y :: .int x :: st) S iv Q := am_iadd dL_law_165 h
theorem sL_law_166 {ls : List Value} {i : Int32} (hi : vp_in i (am_L E)) (h : am_R E d mL_law k n 167 ls (.int (am_xs E i.toNatClampNeg) :: st) S iv Q) : am_R E d mL_law k n 166 ls (.int i :: .null :: st) S iv Q := am_saload dL_law_166 hi h
theorem sL_law_167 {a0 a1 a2 a3 a4 a5 a6 : Value} (hv : am_rf a0 = true) (h : am_R E d mL_law k n 168 [a0, a1, a2, a3, a4, a5, a6] (a0 :: st) S iv Q) : am_R E d mL_law k n 167 [a0, a1, a2, a3, a4, a5, a6] st S iv Q := am_aload_n dL_law_167 rfl rfl hv h
theorem sL_law_168 {a0 a1 a2 a3 a5 a6 : Value} {x : Int32} (h : am_R E d mL_law k n 170 [a0, a1, a2, a3, .int x, a5, a6] (.int x :: st) S iv Q) : am_R E d mL_law k n 168 [a0, a1, a2, a3, .int x, a5, a6] st S iv Q := am_iload dL_law_168 rfl h
theorem sL_law_170 {a0 a1 a2 a3 a4 a5 a6 : Value} (h : am_R E d mL_law k n 171 [a0, a1, a2, a3, a4, a5, a6] (.int 4 :: st) S iv Q) : am_R E d mL_law k n 170 [a0, a1, a2, a3, a4, a5, a6] st S iv Q := am_iconst dL_law_170 (by decide) h
theorem sL_law_171 {ls : List Value} {x y : Int32} (h : am_R E d mL_law k n 172 ls (.int (x + y) :: st) S iv Q) : am_R E d mL_law k n 171 ls (.int y :: .int x :: st) S iv Q := am_iadd dL_law_171 h
theorem sL_law_172 {ls : List Value} {i : Int32} (hi : vp_in i (am_L E)) (h : am_R E d mL_law k n 173 ls (.int (am_xs E i.toNatClampNeg) :: st) S iv Q) : am_R E d mL_law k n 172 ls (.int i :: .null :: st) S iv Q := am_saload dL_law_172 hi h
theorem sL_law_173 {a0 a1 a2 a3 a4 a5 a6 : Value} (hv : am_rf a0 = true) (h : am_R E d mL_law k n 174 [a0, a1, a2, a3, a4, a5, a6] (a0 :: st) S iv Q) : am_R E d mL_law k n 173 [a0, a1, a2, a3, a4, a5, a6] st S iv Q := am_aload_n dL_law_173 rfl rfl hv h
theorem sL_law_174 {a0 a1 a2 a3 a5 a6 : Value} {x : Int32} (h : am_R E d mL_law k n 176 [a0, a1, a2, a3, .int x, a5, a6] (.int x :: st) S iv Q) : am_R E d mL_law k n 174 [a0, a1, a2, a3, .int x, a5, a6] st S iv Q := am_iload dL_law_174 rfl h
theorem sL_law_176 {a0 a1 a2 a3 a4 a5 a6 : Value} (h : am_R E d mL_law k n 177 [a0, a1, a2, a3, a4, a5, a6] (.int 5 :: st) S iv Q) : am_R E d mL_law k n 176 [a0, a1, a2, a3, a4, a5, a6] st S iv Q := am_iconst dL_law_176 (by decide) h
theorem sL_law_177 {ls : List Value} {x y : Int32} (h : am_R E d mL_law k n 178 ls (.int (x + y) :: st) S iv Q) : am_R E d mL_law k n 177 ls (.int y :: .int x :: st) S iv Q := am_iadd dL_law_177 h
theorem sL_law_178 {ls : List Value} {i : Int32} (hi : vp_in i (am_L E)) (h : am_R E d mL_law k n 179 ls (.int (am_xs E i.toNatClampNeg) :: st) S iv Q) : am_R E d mL_law k n 178 ls (.int i :: .null :: st) S iv Q := am_saload dL_law_178 hi h
theorem sL_law_179 {ls : List Value} {x1 x2 x3 x4 x5 : Value} {a : Nat} (ha : S.1 a = some (.inl 9)) (hst : (st.map fun v => v.category).sum ≤ 8) (hM : am_M E d mX9_feed 0 0 [.ref a, x1, x2, x3, x4, x5] S iv (am_K3 E (d + 1) mL_law k n 179 ls st Q)) : am_R E (d + 1) mL_law k n 179 ls (x5 :: x4 :: x3 :: x2 :: x1 :: .ref a :: st) S iv Q := am_cV (ci := 9) (M' := mX9_feed) (as := [x1, x2, x3, x4, x5]) dL_law_179 rfl rfl rfl wq_1221 wq_1222 wq_1223 wq_581 wq_1219 hy_X9_feed (by decide) ha hst (by omega) (by omega) hM
theorem sL_law_179_k {ls : List Value} {x1 x2 x3 x4 x5 : Value} {k' n' : Nat} {a : Nat} (ha : S.1 a = some (.inl 9)) (hst : (st.map fun v => v.category).sum ≤ 8) (hM : am_M E d mX9_feed k' n' [.ref a, x1, x2, x3, x4, x5] S iv (am_K3 E (d + 1) mL_law k n 179 ls st Q)) : am_R E (d + 1) mL_law (k' + k) (n' + n) 179 ls (x5 :: x4 :: x3 :: x2 :: x1 :: .ref a :: st) S iv Q := am_cV (ci := 9) (M' := mX9_feed) (as := [x1, x2, x3, x4, x5]) dL_law_179 rfl rfl rfl wq_1221 wq_1222 wq_1223 wq_581 wq_1219 hy_X9_feed (by decide) ha hst (by omega) (by omega) hM
theorem sL_law_182 {a0 a1 a2 a3 a4 a5 a6 : Value} (hv : am_rf a2 = true) (h : am_R E d mL_law k n 183 [a0, a1, a2, a3, a4, a5, a6] (a2 :: st) S iv Q) : am_R E d mL_law k n 182 [a0, a1, a2, a3, a4, a5, a6] st S iv Q := am_aload_n dL_law_182 rfl rfl hv h
theorem sL_law_183 {a0 a1 a2 a3 a4 a5 a6 : Value} (hv : am_rf a0 = true) (h : am_R E d mL_law k n 184 [a0, a1, a2, a3, a4, a5, a6] (a0 :: st) S iv Q) : am_R E d mL_law k n 183 [a0, a1, a2, a3, a4, a5, a6] st S iv Q := am_aload_n dL_law_183 rfl rfl hv h
theorem sL_law_184 {a0 a1 a2 a3 a5 a6 : Value} {x : Int32} (h : am_R E d mL_law k n 186 [a0, a1, a2, a3, .int x, a5, a6] (.int x :: st) S iv Q) : am_R E d mL_law k n 184 [a0, a1, a2, a3, .int x, a5, a6] st S iv Q := am_iload dL_law_184 rfl h
theorem sL_law_186 {a0 a1 a2 a3 a4 a5 a6 : Value} (h : am_R E d mL_law k n 187 [a0, a1, a2, a3, a4, a5, a6] (.int 1 :: st) S iv Q) : am_R E d mL_law k n 186 [a0, a1, a2, a3, a4, a5, a6] st S iv Q := am_iconst dL_law_186 (by decide) h
theorem sL_law_187 {ls : List Value} {x y : Int32} (h : am_R E d mL_law k n 188 ls (.int (x + y) :: st) S iv Q) : am_R E d mL_law k n 187 ls (.int y :: .int x :: st) S iv Q := am_iadd dL_law_187 h
theorem sL_law_188 {ls : List Value} {i : Int32} (hi : vp_in i (am_L E)) (h : am_R E d mL_law k n 189 ls (.int (am_xs E i.toNatClampNeg) :: st) S iv Q) : am_R E d mL_law k n 188 ls (.int i :: .null :: st) S iv Q := am_saload dL_law_188 hi h
theorem sL_law_189 {a0 a1 a2 a3 a4 a5 a6 : Value} (hv : am_rf a0 = true) (h : am_R E d mL_law k n 190 [a0, a1, a2, a3, a4, a5, a6] (a0 :: st) S iv Q) : am_R E d mL_law k n 189 [a0, a1, a2, a3, a4, a5, a6] st S iv Q := am_aload_n dL_law_189 rfl rfl hv h
theorem sL_law_190 {a0 a1 a2 a3 a5 a6 : Value} {x : Int32} (h : am_R E d mL_law k n 192 [a0, a1, a2, a3, .int x, a5, a6] (.int x :: st) S iv Q) : am_R E d mL_law k n 190 [a0, a1, a2, a3, .int x, a5, a6] st S iv Q := am_iload dL_law_190 rfl h
theorem sL_law_192 {a0 a1 a2 a3 a4 a5 a6 : Value} (h : am_R E d mL_law k n 193 [a0, a1, a2, a3, a4, a5, a6] (.int 2 :: st) S iv Q) : am_R E d mL_law k n 192 [a0, a1, a2, a3, a4, a5, a6] st S iv Q := am_iconst dL_law_192 (by decide) h
theorem sL_law_193 {ls : List Value} {x y : Int32} (h : am_R E d mL_law k n 194 ls (.int (x + y) :: st) S iv Q) : am_R E d mL_law k n 193 ls (.int y :: .int x :: st) S iv Q := am_iadd dL_law_193 h
theorem sL_law_194 {ls : List Value} {i : Int32} (hi : vp_in i (am_L E)) (h : am_R E d mL_law k n 195 ls (.int (am_xs E i.toNatClampNeg) :: st) S iv Q) : am_R E d mL_law k n 194 ls (.int i :: .null :: st) S iv Q := am_saload dL_law_194 hi h
theorem sL_law_195 {a0 a1 a2 a3 a4 a5 a6 : Value} (hv : am_rf a0 = true) (h : am_R E d mL_law k n 196 [a0, a1, a2, a3, a4, a5, a6] (a0 :: st) S iv Q) : am_R E d mL_law k n 195 [a0, a1, a2, a3, a4, a5, a6] st S iv Q := am_aload_n dL_law_195 rfl rfl hv h
theorem sL_law_196 {a0 a1 a2 a3 a5 a6 : Value} {x : Int32} (h : am_R E d mL_law k n 198 [a0, a1, a2, a3, .int x, a5, a6] (.int x :: st) S iv Q) : am_R E d mL_law k n 196 [a0, a1, a2, a3, .int x, a5, a6] st S iv Q := am_iload dL_law_196 rfl h
theorem sL_law_198 {a0 a1 a2 a3 a4 a5 a6 : Value} (h : am_R E d mL_law k n 199 [a0, a1, a2, a3, a4, a5, a6] (.int 3 :: st) S iv Q) : am_R E d mL_law k n 198 [a0, a1, a2, a3, a4, a5, a6] st S iv Q := am_iconst dL_law_198 (by decide) h
theorem sL_law_199 {ls : List Value} {x y : Int32} (h : am_R E d mL_law k n 200 ls (.int (x + y) :: st) S iv Q) : am_R E d mL_law k n 199 ls (.int y :: .int x :: st) S iv Q := am_iadd dL_law_199 h
theorem sL_law_200 {ls : List Value} {i : Int32} (hi : vp_in i (am_L E)) (h : am_R E d mL_law k n 201 ls (.int (am_xs E i.toNatClampNeg) :: st) S iv Q) : am_R E d mL_law k n 200 ls (.int i :: .null :: st) S iv Q := am_saload dL_law_200 hi h
theorem sL_law_201 {a0 a1 a2 a3 a4 a5 a6 : Value} (hv : am_rf a0 = true) (h : am_R E d mL_law k n 202 [a0, a1, a2, a3, a4, a5, a6] (a0 :: st) S iv Q) : am_R E d mL_law k n 201 [a0, a1, a2, a3, a4, a5, a6] st S iv Q := am_aload_n dL_law_201 rfl rfl hv h
theorem sL_law_202 {a0 a1 a2 a3 a5 a6 : Value} {x : Int32} (h : am_R E d mL_law k n 204 [a0, a1, a2, a3, .int x, a5, a6] (.int x :: st) S iv Q) : am_R E d mL_law k n 202 [a0, a1, a2, a3, .int x, a5, a6] st S iv Q := am_iload dL_law_202 rfl h
theorem sL_law_204 {a0 a1 a2 a3 a4 a5 a6 : Value} (h : am_R E d mL_law k n 205 [a0, a1, a2, a3, a4, a5, a6] (.int 4 :: st) S iv Q) : am_R E d mL_law k n 204 [a0, a1, a2, a3, a4, a5, a6] st S iv Q := am_iconst dL_law_204 (by decide) h
theorem sL_law_205 {ls : List Value} {x y : Int32} (h : am_R E d mL_law k n 206 ls (.int (x + y) :: st) S iv Q) : am_R E d mL_law k n 205 ls (.int y :: .int x :: st) S iv Q := am_iadd dL_law_205 h
theorem sL_law_206 {ls : List Value} {i : Int32} (hi : vp_in i (am_L E)) (h : am_R E d mL_law k n 207 ls (.int (am_xs E i.toNatClampNeg) :: st) S iv Q) : am_R E d mL_law k n 206 ls (.int i :: .null :: st) S iv Q := am_saload dL_law_206 hi h
theorem sL_law_207 {a0 a1 a2 a3 a4 a5 a6 : Value} (hv : am_rf a0 = true) (h : am_R E d mL_law k n 208 [a0, a1, a2, a3, a4, a5, a6] (a0 :: st) S iv Q) : am_R E d mL_law k n 207 [a0, a1, a2, a3, a4, a5, a6] st S iv Q := am_aload_n dL_law_207 rfl rfl hv h
theorem sL_law_208 {a0 a1 a2 a3 a5 a6 : Value} {x : Int32} (h : am_R E d mL_law k n 210 [a0, a1, a2, a3, .int x, a5, a6] (.int x :: st) S iv Q) : am_R E d mL_law k n 208 [a0, a1, a2, a3, .int x, a5, a6] st S iv Q := am_iload dL_law_208 rfl h
theorem sL_law_210 {a0 a1 a2 a3 a4 a5 a6 : Value} (h : am_R E d mL_law k n 211 [a0, a1, a2, a3, a4, a5, a6] (.int 5 :: st) S iv Q) : am_R E d mL_law k n 210 [a0, a1, a2, a3, a4, a5, a6] st S iv Q := am_iconst dL_law_210 (by decide) h
theorem sL_law_211 {ls : List Value} {x y : Int32} (h : am_R E d mL_law k n 212 ls (.int (x + y) :: st) S iv Q) : am_R E d mL_law k n 211 ls (.int y :: .int x :: st) S iv Q := am_iadd dL_law_211 h
theorem sL_law_212 {ls : List Value} {i : Int32} (hi : vp_in i (am_L E)) (h : am_R E d mL_law k n 213 ls (.int (am_xs E i.toNatClampNeg) :: st) S iv Q) : am_R E d mL_law k n 212 ls (.int i :: .null :: st) S iv Q := am_saload dL_law_212 hi h
theorem sL_law_213 {ls : List Value} {x1 x2 x3 x4 x5 : Value} {a : Nat} (ha : S.1 a = some (.inl 10)) (hst : (st.map fun v => v.category).sum ≤ 8) (hM : am_M E d mX10_feed 0 0 [.ref a, x1, x2, x3, x4, x5] S iv (am_K3 E (d + 1) mL_law k n 213 ls st Q)) : am_R E (d + 1) mL_law k n 213 ls (x5 :: x4 :: x3 :: x2 :: x1 :: .ref a :: st) S iv Q := am_cV (ci := 10) (M' := mX10_feed) (as := [x1, x2, x3, x4, x5]) dL_law_213 rfl rfl rfl wq_1226 wq_1227 wq_1228 wq_808 wq_1224 hy_X10_feed (by decide) ha hst (by omega) (by omega) hM
theorem sL_law_213_k {ls : List Value} {x1 x2 x3 x4 x5 : Value} {k' n' : Nat} {a : Nat} (ha : S.1 a = some (.inl 10)) (hst : (st.map fun v => v.category).sum ≤ 8) (hM : am_M E d mX10_feed k' n' [.ref a, x1, x2, x3, x4, x5] S iv (am_K3 E (d + 1) mL_law k n 213 ls st Q)) : am_R E (d + 1) mL_law (k' + k) (n' + n) 213 ls (x5 :: x4 :: x3 :: x2 :: x1 :: .ref a :: st) S iv Q := am_cV (ci := 10) (M' := mX10_feed) (as := [x1, x2, x3, x4, x5]) dL_law_213 rfl rfl rfl wq_1226 wq_1227 wq_1228 wq_808 wq_1224 hy_X10_feed (by decide) ha hst (by omega) (by omega) hM
theorem sL_law_216 {ls : List Value} {x y : Int32} (kt : x = y → am_R E d mL_law k n 1249 ls st S iv Q) (kf : ¬ x = y → am_R E d mL_law k n 219 ls st S iv Q) : am_R E d mL_law k n 216 ls (.int y :: .int x :: st) S iv Q := am_icmp_eq dL_law_216 (by decide) kt kf
theorem sL_law_219 {a0 a1 a2 a3 a4 a5 a6 : Value} (h : am_R E d mL_law k n 220 [a0, a1, a2, a3, a4, a5, a6] (.int 0 :: st) S iv Q) : am_R E d mL_law k n 219 [a0, a1, a2, a3, a4, a5, a6] st S iv Q := am_iconst dL_law_219 (by decide) h
theorem sL_law_220 {ls : List Value} {x : Int32} (hn : narrow .boolean (.int x) = .int x) (h : Q (.inl (some (.int x))) S iv) : am_R E d mL_law k n 220 ls [.int x] S iv Q := am_zreturn dL_law_220 rfl hn h
theorem sL_law_221 {a0 a1 a2 a3 a4 a5 a6 : Value} (hv : am_rf a1 = true) (h : am_R E d mL_law k n 222 [a0, a1, a2, a3, a4, a5, a6] (a1 :: st) S iv Q) : am_R E d mL_law k n 221 [a0, a1, a2, a3, a4, a5, a6] st S iv Q := am_aload_n dL_law_221 rfl rfl hv h
theorem sL_law_222 {a0 a1 a2 a3 a4 a5 a6 : Value} (hv : am_rf a0 = true) (h : am_R E d mL_law k n 223 [a0, a1, a2, a3, a4, a5, a6] (a0 :: st) S iv Q) : am_R E d mL_law k n 222 [a0, a1, a2, a3, a4, a5, a6] st S iv Q := am_aload_n dL_law_222 rfl rfl hv h
theorem sL_law_223 {a0 a1 a2 a3 a5 a6 : Value} {x : Int32} (h : am_R E d mL_law k n 225 [a0, a1, a2, a3, .int x, a5, a6] (.int x :: st) S iv Q) : am_R E d mL_law k n 223 [a0, a1, a2, a3, .int x, a5, a6] st S iv Q := am_iload dL_law_223 rfl h
theorem sL_law_225 {a0 a1 a2 a3 a4 a5 a6 : Value} (h : am_R E d mL_law k n 226 [a0, a1, a2, a3, a4, a5, a6] (.int 1 :: st) S iv Q) : am_R E d mL_law k n 225 [a0, a1, a2, a3, a4, a5, a6] st S iv Q := am_iconst dL_law_225 (by decide) h
theorem sL_law_226 {ls : List Value} {x y : Int32} (h : am_R E d mL_law k n 227 ls (.int (x + y) :: st) S iv Q) : am_R E d mL_law k n 226 ls (.int y :: .int x :: st) S iv Q := am_iadd dL_law_226 h
theorem sL_law_227 {ls : List Value} {i : Int32} (hi : vp_in i (am_L E)) (h : am_R E d mL_law k n 228 ls (.int (am_xs E i.toNatClampNeg) :: st) S iv Q) : am_R E d mL_law k n 227 ls (.int i :: .null :: st) S iv Q := am_saload dL_law_227 hi h
theorem sL_law_228 {a0 a1 a2 a3 a4 a5 a6 : Value} (hv : am_rf a3 = true) (h : am_R E d mL_law k n 229 [a0, a1, a2, a3, a4, a5, a6] (a3 :: st) S iv Q) : am_R E d mL_law k n 228 [a0, a1, a2, a3, a4, a5, a6] st S iv Q := am_aload_n dL_law_228 rfl rfl hv h
theorem sL_law_229 {ls : List Value} {x1 x2 x3 : Value} (hst : (st.map fun v => v.category).sum ≤ 8) (hM : am_M E d mL_city 0 0 [x1, x2, x3] S iv (am_K3 E (d + 1) mL_law k n 229 ls st Q)) : am_R E (d + 1) mL_law k n 229 ls (x3 :: x2 :: x1 :: st) S iv Q := am_cSH (M' := mL_city) (as := [x1, x2, x3]) dL_law_229 (by decide) wq_1232 wq_1233 wq_1230 wq_1229 hy_L_city (by decide) hst (by omega) (by omega) hM
theorem sL_law_229_k {ls : List Value} {x1 x2 x3 : Value} {k' n' : Nat} (hst : (st.map fun v => v.category).sum ≤ 8) (hM : am_M E d mL_city k' n' [x1, x2, x3] S iv (am_K3 E (d + 1) mL_law k n 229 ls st Q)) : am_R E (d + 1) mL_law (k' + k) (n' + n) 229 ls (x3 :: x2 :: x1 :: st) S iv Q := am_cSH (M' := mL_city) (as := [x1, x2, x3]) dL_law_229 (by decide) wq_1232 wq_1233 wq_1230 wq_1229 hy_L_city (by decide) hst (by omega) (by omega) hM
theorem sL_law_232 {a0 a1 a2 a3 a4 a5 a6 : Value} {x : Int32} (h : am_R E d mL_law k n 234 [a0, a1, a2, a3, a4, .int x, a6] st S iv Q) : am_R E d mL_law k n 232 [a0, a1, a2, a3, a4, a5, a6] (.int x :: st) S iv Q := am_istore dL_law_232 (by decide) h
theorem sL_law_234 {a0 a1 a2 a3 a4 a5 a6 : Value} (hv : am_rf a2 = true) (h : am_R E d mL_law k n 235 [a0, a1, a2, a3, a4, a5, a6] (a2 :: st) S iv Q) : am_R E d mL_law k n 234 [a0, a1, a2, a3, a4, a5, a6] st S iv Q := am_aload_n dL_law_234 rfl rfl hv h
theorem sL_law_235 {a0 a1 a2 a3 a4 a5 a6 : Value} (hv : am_rf a0 = true) (h : am_R E d mL_law k n 236 [a0, a1, a2, a3, a4, a5, a6] (a0 :: st) S iv Q) : am_R E d mL_law k n 235 [a0, a1, a2, a3, a4, a5, a6] st S iv Q := am_aload_n dL_law_235 rfl rfl hv h
theorem sL_law_236 {a0 a1 a2 a3 a5 a6 : Value} {x : Int32} (h : am_R E d mL_law k n 238 [a0, a1, a2, a3, .int x, a5, a6] (.int x :: st) S iv Q) : am_R E d mL_law k n 236 [a0, a1, a2, a3, .int x, a5, a6] st S iv Q := am_iload dL_law_236 rfl h
theorem sL_law_238 {a0 a1 a2 a3 a4 a5 a6 : Value} (h : am_R E d mL_law k n 239 [a0, a1, a2, a3, a4, a5, a6] (.int 1 :: st) S iv Q) : am_R E d mL_law k n 238 [a0, a1, a2, a3, a4, a5, a6] st S iv Q := am_iconst dL_law_238 (by decide) h
theorem sL_law_239 {ls : List Value} {x y : Int32} (h : am_R E d mL_law k n 240 ls (.int (x + y) :: st) S iv Q) : am_R E d mL_law k n 239 ls (.int y :: .int x :: st) S iv Q := am_iadd dL_law_239 h
theorem sL_law_240 {ls : List Value} {i : Int32} (hi : vp_in i (am_L E)) (h : am_R E d mL_law k n 241 ls (.int (am_xs E i.toNatClampNeg) :: st) S iv Q) : am_R E d mL_law k n 240 ls (.int i :: .null :: st) S iv Q := am_saload dL_law_240 hi h
theorem sL_law_241 {ls : List Value} {x1 : Value} {a : Nat} (ha : S.1 a = some (.inl 10)) (hst : (st.map fun v => v.category).sum ≤ 8) (hM : am_M E d mX10_city 0 0 [.ref a, x1] S iv (am_K3 E (d + 1) mL_law k n 241 ls st Q)) : am_R E (d + 1) mL_law k n 241 ls (x1 :: .ref a :: st) S iv Q := am_cV (ci := 10) (M' := mX10_city) (as := [x1]) dL_law_241 rfl rfl rfl wq_1236 wq_1237 wq_1238 wq_808 wq_1234 hy_X10_city (by decide) ha hst (by omega) (by omega) hM
theorem sL_law_241_k {ls : List Value} {x1 : Value} {k' n' : Nat} {a : Nat} (ha : S.1 a = some (.inl 10)) (hst : (st.map fun v => v.category).sum ≤ 8) (hM : am_M E d mX10_city k' n' [.ref a, x1] S iv (am_K3 E (d + 1) mL_law k n 241 ls st Q)) : am_R E (d + 1) mL_law (k' + k) (n' + n) 241 ls (x1 :: .ref a :: st) S iv Q := am_cV (ci := 10) (M' := mX10_city) (as := [x1]) dL_law_241 rfl rfl rfl wq_1236 wq_1237 wq_1238 wq_808 wq_1234 hy_X10_city (by decide) ha hst (by omega) (by omega) hM
theorem sL_law_244 {a0 a1 a2 a3 a4 a5 a6 : Value} {x : Int32} (h : am_R E d mL_law k n 246 [a0, a1, a2, a3, a4, a5, .int x] st S iv Q) : am_R E d mL_law k n 244 [a0, a1, a2, a3, a4, a5, a6] (.int x :: st) S iv Q := am_istore dL_law_244 (by decide) h
theorem sL_law_246 {a0 a1 a2 a3 a4 a5 a6 : Value} (hv : am_rf a2 = true) (h : am_R E d mL_law k n 247 [a0, a1, a2, a3, a4, a5, a6] (a2 :: st) S iv Q) : am_R E d mL_law k n 246 [a0, a1, a2, a3, a4, a5, a6] st S iv Q := am_aload_n dL_law_246 rfl rfl hv h
theorem sL_law_247 {ls : List Value} {a : Nat} (ha : S.1 a = some (.inl 10)) (hst : (st.map fun v => v.category).sum ≤ 8) (hM : am_M E d mX10_thrown 0 0 [.ref a] S iv (am_K3 E (d + 1) mL_law k n 247 ls st Q)) : am_R E (d + 1) mL_law k n 247 ls (.ref a :: st) S iv Q := am_cV (ci := 10) (M' := mX10_thrown) (as := []) dL_law_247 rfl rfl rfl wq_1241 wq_1242 wq_1243 wq_808 wq_1239 hy_X10_thrown (by decide) ha hst (by omega) (by omega) hM
theorem sL_law_247_k {ls : List Value} {k' n' : Nat} {a : Nat} (ha : S.1 a = some (.inl 10)) (hst : (st.map fun v => v.category).sum ≤ 8) (hM : am_M E d mX10_thrown k' n' [.ref a] S iv (am_K3 E (d + 1) mL_law k n 247 ls st Q)) : am_R E (d + 1) mL_law (k' + k) (n' + n) 247 ls (.ref a :: st) S iv Q := am_cV (ci := 10) (M' := mX10_thrown) (as := []) dL_law_247 rfl rfl rfl wq_1241 wq_1242 wq_1243 wq_808 wq_1239 hy_X10_thrown (by decide) ha hst (by omega) (by omega) hM
theorem sL_law_250 {a0 a1 a2 a3 a4 a6 : Value} {x : Int32} (h : am_R E d mL_law k n 252 [a0, a1, a2, a3, a4, .int x, a6] (.int x :: st) S iv Q) : am_R E d mL_law k n 250 [a0, a1, a2, a3, a4, .int x, a6] st S iv Q := am_iload dL_law_250 rfl h
theorem sL_law_252 {ls : List Value} {x y : Int32} (kt : x = y → am_R E d mL_law k n 257 ls st S iv Q) (kf : ¬ x = y → am_R E d mL_law k n 255 ls st S iv Q) : am_R E d mL_law k n 252 ls (.int y :: .int x :: st) S iv Q := am_icmp_eq dL_law_252 (by decide) kt kf
theorem sL_law_255 {a0 a1 a2 a3 a4 a5 a6 : Value} (h : am_R E d mL_law k n 256 [a0, a1, a2, a3, a4, a5, a6] (.int 0 :: st) S iv Q) : am_R E d mL_law k n 255 [a0, a1, a2, a3, a4, a5, a6] st S iv Q := am_iconst dL_law_255 (by decide) h
theorem sL_law_256 {ls : List Value} {x : Int32} (hn : narrow .boolean (.int x) = .int x) (h : Q (.inl (some (.int x))) S iv) : am_R E d mL_law k n 256 ls [.int x] S iv Q := am_zreturn dL_law_256 rfl hn h
theorem sL_law_257 {a0 a1 a2 a3 a4 a6 : Value} {x : Int32} (h : am_R E d mL_law k n 259 [a0, a1, a2, a3, a4, .int x, a6] (.int x :: st) S iv Q) : am_R E d mL_law k n 257 [a0, a1, a2, a3, a4, .int x, a6] st S iv Q := am_iload dL_law_257 rfl h
theorem sL_law_259 {ls : List Value} {x : Int32} (kt : ¬ x = 0 → am_R E d mL_law k n 274 ls st S iv Q) (kf : x = 0 → am_R E d mL_law k n 262 ls st S iv Q) : am_R E d mL_law k n 259 ls (.int x :: st) S iv Q := am_if_ne dL_law_259 (by decide) kt kf
theorem sL_law_262 {a0 a1 a2 a3 a4 a5 a6 : Value} (hv : am_rf a3 = true) (h : am_R E d mL_law k n 263 [a0, a1, a2, a3, a4, a5, a6] (a3 :: st) S iv Q) : am_R E d mL_law k n 262 [a0, a1, a2, a3, a4, a5, a6] st S iv Q := am_aload_n dL_law_262 rfl rfl hv h
theorem sL_law_263 {a0 a1 a2 a3 a4 a5 a6 : Value} (h : am_R E d mL_law k n 264 [a0, a1, a2, a3, a4, a5, a6] (.int 0 :: st) S iv Q) : am_R E d mL_law k n 263 [a0, a1, a2, a3, a4, a5, a6] st S iv Q := am_iconst dL_law_263 (by decide) h
theorem sL_law_264 {ls : List Value} {a m : Nat} {i : Int32} (ha : S.1 a = some (.inr (.long, m))) (hi : vp_in i m) (h : am_R E d mL_law k n 265 ls (.long (S.2.2.1 a i.toNatClampNeg) :: st) S iv Q) : am_R E d mL_law k n 264 ls (.int i :: .ref a :: st) S iv Q := am_laload dL_law_264 ha hi h
theorem sL_law_265 {a0 a1 a2 a3 a4 a5 : Value} {x : Int32} (h : am_R E d mL_law k n 267 [a0, a1, a2, a3, a4, a5, .int x] (.int x :: st) S iv Q) : am_R E d mL_law k n 265 [a0, a1, a2, a3, a4, a5, .int x] st S iv Q := am_iload dL_law_265 rfl h
theorem sL_law_267 {ls : List Value} {x : Int32} (h : am_R E d mL_law k n 268 ls (.long x.toInt64 :: st) S iv Q) : am_R E d mL_law k n 267 ls (.int x :: st) S iv Q := am_i2l dL_law_267 h
theorem sL_law_268 {ls : List Value} {x y : Int64} (h : am_R E d mL_law k n 269 ls (.int (lg_cmp x y) :: st) S iv Q) : am_R E d mL_law k n 268 ls (.long y :: .long x :: st) S iv Q := am_lcmp dL_law_268 h
theorem sL_law_269 {ls : List Value} {x : Int32} (kt : x = 0 → am_R E d mL_law k n 274 ls st S iv Q) (kf : ¬ x = 0 → am_R E d mL_law k n 272 ls st S iv Q) : am_R E d mL_law k n 269 ls (.int x :: st) S iv Q := am_if_eq dL_law_269 (by decide) kt kf
theorem sL_law_272 {a0 a1 a2 a3 a4 a5 a6 : Value} (h : am_R E d mL_law k n 273 [a0, a1, a2, a3, a4, a5, a6] (.int 0 :: st) S iv Q) : am_R E d mL_law k n 272 [a0, a1, a2, a3, a4, a5, a6] st S iv Q := am_iconst dL_law_272 (by decide) h
theorem sL_law_273 {ls : List Value} {x : Int32} (hn : narrow .boolean (.int x) = .int x) (h : Q (.inl (some (.int x))) S iv) : am_R E d mL_law k n 273 ls [.int x] S iv Q := am_zreturn dL_law_273 rfl hn h
theorem sL_law_274 {ls : List Value} (h : am_R E d mL_law k n 1249 ls st S iv Q) : am_R E d mL_law k n 274 ls st S iv Q := am_goto dL_law_274 (by decide) h
theorem sL_law_277 {a0 a1 a2 a3 a4 a5 a6 : Value} (hv : am_rf a1 = true) (h : am_R E d mL_law k n 278 [a0, a1, a2, a3, a4, a5, a6] (a1 :: st) S iv Q) : am_R E d mL_law k n 277 [a0, a1, a2, a3, a4, a5, a6] st S iv Q := am_aload_n dL_law_277 rfl rfl hv h
theorem sL_law_278 {ls : List Value} {a : Nat} (ha : S.1 a = some (.inl 9)) (hst : (st.map fun v => v.category).sum ≤ 8) (hM : am_M E d mX9_fault 0 0 [.ref a] S iv (am_K3 E (d + 1) mL_law k n 278 ls st Q)) : am_R E (d + 1) mL_law k n 278 ls (.ref a :: st) S iv Q := am_cV (ci := 9) (M' := mX9_fault) (as := []) dL_law_278 rfl rfl rfl wq_1246 wq_1247 wq_1248 wq_581 wq_1244 hy_X9_fault (by decide) ha hst (by omega) (by omega) hM
theorem sL_law_278_k {ls : List Value} {k' n' : Nat} {a : Nat} (ha : S.1 a = some (.inl 9)) (hst : (st.map fun v => v.category).sum ≤ 8) (hM : am_M E d mX9_fault k' n' [.ref a] S iv (am_K3 E (d + 1) mL_law k n 278 ls st Q)) : am_R E (d + 1) mL_law (k' + k) (n' + n) 278 ls (.ref a :: st) S iv Q := am_cV (ci := 9) (M' := mX9_fault) (as := []) dL_law_278 rfl rfl rfl wq_1246 wq_1247 wq_1248 wq_581 wq_1244 hy_X9_fault (by decide) ha hst (by omega) (by omega) hM
theorem sL_law_281 {a0 a1 a2 a3 a4 a5 a6 : Value} (hv : am_rf a2 = true) (h : am_R E d mL_law k n 282 [a0, a1, a2, a3, a4, a5, a6] (a2 :: st) S iv Q) : am_R E d mL_law k n 281 [a0, a1, a2, a3, a4, a5, a6] st S iv Q := am_aload_n dL_law_281 rfl rfl hv h
theorem sL_law_282 {ls : List Value} {a : Nat} (ha : S.1 a = some (.inl 10)) (hst : (st.map fun v => v.category).sum ≤ 8) (hM : am_M E d mX10_fault 0 0 [.ref a] S iv (am_K3 E (d + 1) mL_law k n 282 ls st Q)) : am_R E (d + 1) mL_law k n 282 ls (.ref a :: st) S iv Q := am_cV (ci := 10) (M' := mX10_fault) (as := []) dL_law_282 rfl rfl rfl wq_1251 wq_1252 wq_1253 wq_808 wq_1249 hy_X10_fault (by decide) ha hst (by omega) (by omega) hM
theorem sL_law_282_k {ls : List Value} {k' n' : Nat} {a : Nat} (ha : S.1 a = some (.inl 10)) (hst : (st.map fun v => v.category).sum ≤ 8) (hM : am_M E d mX10_fault k' n' [.ref a] S iv (am_K3 E (d + 1) mL_law k n 282 ls st Q)) : am_R E (d + 1) mL_law (k' + k) (n' + n) 282 ls (.ref a :: st) S iv Q := am_cV (ci := 10) (M' := mX10_fault) (as := []) dL_law_282 rfl rfl rfl wq_1251 wq_1252 wq_1253 wq_808 wq_1249 hy_X10_fault (by decide) ha hst (by omega) (by omega) hM
theorem sL_law_285 {ls : List Value} {x y : Int32} (kt : x = y → am_R E d mL_law k n 1249 ls st S iv Q) (kf : ¬ x = y → am_R E d mL_law k n 288 ls st S iv Q) : am_R E d mL_law k n 285 ls (.int y :: .int x :: st) S iv Q := am_icmp_eq dL_law_285 (by decide) kt kf
theorem sL_law_288 {a0 a1 a2 a3 a4 a5 a6 : Value} (h : am_R E d mL_law k n 289 [a0, a1, a2, a3, a4, a5, a6] (.int 0 :: st) S iv Q) : am_R E d mL_law k n 288 [a0, a1, a2, a3, a4, a5, a6] st S iv Q := am_iconst dL_law_288 (by decide) h
theorem sL_law_289 {ls : List Value} {x : Int32} (hn : narrow .boolean (.int x) = .int x) (h : Q (.inl (some (.int x))) S iv) : am_R E d mL_law k n 289 ls [.int x] S iv Q := am_zreturn dL_law_289 rfl hn h
theorem sL_law_290 {a0 a1 a2 a3 a4 a5 a6 : Value} (hv : am_rf a1 = true) (h : am_R E d mL_law k n 291 [a0, a1, a2, a3, a4, a5, a6] (a1 :: st) S iv Q) : am_R E d mL_law k n 290 [a0, a1, a2, a3, a4, a5, a6] st S iv Q := am_aload_n dL_law_290 rfl rfl hv h
theorem sL_law_291 {a0 a1 a2 a3 a4 a5 a6 : Value} (hv : am_rf a0 = true) (h : am_R E d mL_law k n 292 [a0, a1, a2, a3, a4, a5, a6] (a0 :: st) S iv Q) : am_R E d mL_law k n 291 [a0, a1, a2, a3, a4, a5, a6] st S iv Q := am_aload_n dL_law_291 rfl rfl hv h
theorem sL_law_292 {a0 a1 a2 a3 a5 a6 : Value} {x : Int32} (h : am_R E d mL_law k n 294 [a0, a1, a2, a3, .int x, a5, a6] (.int x :: st) S iv Q) : am_R E d mL_law k n 292 [a0, a1, a2, a3, .int x, a5, a6] st S iv Q := am_iload dL_law_292 rfl h
theorem sL_law_294 {a0 a1 a2 a3 a4 a5 a6 : Value} (h : am_R E d mL_law k n 295 [a0, a1, a2, a3, a4, a5, a6] (.int 1 :: st) S iv Q) : am_R E d mL_law k n 294 [a0, a1, a2, a3, a4, a5, a6] st S iv Q := am_iconst dL_law_294 (by decide) h
theorem sL_law_295 {ls : List Value} {x y : Int32} (h : am_R E d mL_law k n 296 ls (.int (x + y) :: st) S iv Q) : am_R E d mL_law k n 295 ls (.int y :: .int x :: st) S iv Q := am_iadd dL_law_295 h
theorem sL_law_296 {ls : List Value} {i : Int32} (hi : vp_in i (am_L E)) (h : am_R E d mL_law k n 297 ls (.int (am_xs E i.toNatClampNeg) :: st) S iv Q) : am_R E d mL_law k n 296 ls (.int i :: .null :: st) S iv Q := am_saload dL_law_296 hi h
theorem sL_law_297 {a0 a1 a2 a3 a4 a5 a6 : Value} (hv : am_rf a3 = true) (h : am_R E d mL_law k n 298 [a0, a1, a2, a3, a4, a5, a6] (a3 :: st) S iv Q) : am_R E d mL_law k n 297 [a0, a1, a2, a3, a4, a5, a6] st S iv Q := am_aload_n dL_law_297 rfl rfl hv h
theorem sL_law_298 {ls : List Value} {x1 x2 x3 : Value} (hst : (st.map fun v => v.category).sum ≤ 8) (hM : am_M E d mL_count 0 0 [x1, x2, x3] S iv (am_K3 E (d + 1) mL_law k n 298 ls st Q)) : am_R E (d + 1) mL_law k n 298 ls (x3 :: x2 :: x1 :: st) S iv Q := am_cSH (M' := mL_count) (as := [x1, x2, x3]) dL_law_298 (by decide) wq_1256 wq_1257 wq_1230 wq_1254 hy_L_count (by decide) hst (by omega) (by omega) hM
theorem sL_law_298_k {ls : List Value} {x1 x2 x3 : Value} {k' n' : Nat} (hst : (st.map fun v => v.category).sum ≤ 8) (hM : am_M E d mL_count k' n' [x1, x2, x3] S iv (am_K3 E (d + 1) mL_law k n 298 ls st Q)) : am_R E (d + 1) mL_law (k' + k) (n' + n) 298 ls (x3 :: x2 :: x1 :: st) S iv Q := am_cSH (M' := mL_count) (as := [x1, x2, x3]) dL_law_298 (by decide) wq_1256 wq_1257 wq_1230 wq_1254 hy_L_count (by decide) hst (by omega) (by omega) hM
theorem sL_law_301 {a0 a1 a2 a3 a4 a5 a6 : Value} {x : Int32} (h : am_R E d mL_law k n 303 [a0, a1, a2, a3, a4, .int x, a6] st S iv Q) : am_R E d mL_law k n 301 [a0, a1, a2, a3, a4, a5, a6] (.int x :: st) S iv Q := am_istore dL_law_301 (by decide) h
theorem sL_law_303 {a0 a1 a2 a3 a4 a5 a6 : Value} (hv : am_rf a2 = true) (h : am_R E d mL_law k n 304 [a0, a1, a2, a3, a4, a5, a6] (a2 :: st) S iv Q) : am_R E d mL_law k n 303 [a0, a1, a2, a3, a4, a5, a6] st S iv Q := am_aload_n dL_law_303 rfl rfl hv h
theorem sL_law_304 {a0 a1 a2 a3 a4 a5 a6 : Value} (hv : am_rf a0 = true) (h : am_R E d mL_law k n 305 [a0, a1, a2, a3, a4, a5, a6] (a0 :: st) S iv Q) : am_R E d mL_law k n 304 [a0, a1, a2, a3, a4, a5, a6] st S iv Q := am_aload_n dL_law_304 rfl rfl hv h
theorem sL_law_305 {a0 a1 a2 a3 a5 a6 : Value} {x : Int32} (h : am_R E d mL_law k n 307 [a0, a1, a2, a3, .int x, a5, a6] (.int x :: st) S iv Q) : am_R E d mL_law k n 305 [a0, a1, a2, a3, .int x, a5, a6] st S iv Q := am_iload dL_law_305 rfl h
theorem sL_law_307 {a0 a1 a2 a3 a4 a5 a6 : Value} (h : am_R E d mL_law k n 308 [a0, a1, a2, a3, a4, a5, a6] (.int 1 :: st) S iv Q) : am_R E d mL_law k n 307 [a0, a1, a2, a3, a4, a5, a6] st S iv Q := am_iconst dL_law_307 (by decide) h
theorem sL_law_308 {ls : List Value} {x y : Int32} (h : am_R E d mL_law k n 309 ls (.int (x + y) :: st) S iv Q) : am_R E d mL_law k n 308 ls (.int y :: .int x :: st) S iv Q := am_iadd dL_law_308 h
theorem sL_law_309 {ls : List Value} {i : Int32} (hi : vp_in i (am_L E)) (h : am_R E d mL_law k n 310 ls (.int (am_xs E i.toNatClampNeg) :: st) S iv Q) : am_R E d mL_law k n 309 ls (.int i :: .null :: st) S iv Q := am_saload dL_law_309 hi h
theorem sL_law_310 {ls : List Value} {x1 : Value} {a : Nat} (ha : S.1 a = some (.inl 10)) (hst : (st.map fun v => v.category).sum ≤ 8) (hM : am_M E d mX10_count 0 0 [.ref a, x1] S iv (am_K3 E (d + 1) mL_law k n 310 ls st Q)) : am_R E (d + 1) mL_law k n 310 ls (x1 :: .ref a :: st) S iv Q := am_cV (ci := 10) (M' := mX10_count) (as := [x1]) dL_law_310 rfl rfl rfl wq_1260 wq_1261 wq_1262 wq_808 wq_1258 hy_X10_count (by decide) ha hst (by omega) (by omega) hM
theorem sL_law_310_k {ls : List Value} {x1 : Value} {k' n' : Nat} {a : Nat} (ha : S.1 a = some (.inl 10)) (hst : (st.map fun v => v.category).sum ≤ 8) (hM : am_M E d mX10_count k' n' [.ref a, x1] S iv (am_K3 E (d + 1) mL_law k n 310 ls st Q)) : am_R E (d + 1) mL_law (k' + k) (n' + n) 310 ls (x1 :: .ref a :: st) S iv Q := am_cV (ci := 10) (M' := mX10_count) (as := [x1]) dL_law_310 rfl rfl rfl wq_1260 wq_1261 wq_1262 wq_808 wq_1258 hy_X10_count (by decide) ha hst (by omega) (by omega) hM
theorem sL_law_313 {a0 a1 a2 a3 a4 a5 a6 : Value} {x : Int32} (h : am_R E d mL_law k n 315 [a0, a1, a2, a3, a4, a5, .int x] st S iv Q) : am_R E d mL_law k n 313 [a0, a1, a2, a3, a4, a5, a6] (.int x :: st) S iv Q := am_istore dL_law_313 (by decide) h
theorem sL_law_315 {a0 a1 a2 a3 a4 a5 a6 : Value} (hv : am_rf a2 = true) (h : am_R E d mL_law k n 316 [a0, a1, a2, a3, a4, a5, a6] (a2 :: st) S iv Q) : am_R E d mL_law k n 315 [a0, a1, a2, a3, a4, a5, a6] st S iv Q := am_aload_n dL_law_315 rfl rfl hv h
theorem sL_law_316 {ls : List Value} {a : Nat} (ha : S.1 a = some (.inl 10)) (hst : (st.map fun v => v.category).sum ≤ 8) (hM : am_M E d mX10_thrown 0 0 [.ref a] S iv (am_K3 E (d + 1) mL_law k n 316 ls st Q)) : am_R E (d + 1) mL_law k n 316 ls (.ref a :: st) S iv Q := am_cV (ci := 10) (M' := mX10_thrown) (as := []) dL_law_316 rfl rfl rfl wq_1241 wq_1242 wq_1243 wq_808 wq_1239 hy_X10_thrown (by decide) ha hst (by omega) (by omega) hM
theorem sL_law_316_k {ls : List Value} {k' n' : Nat} {a : Nat} (ha : S.1 a = some (.inl 10)) (hst : (st.map fun v => v.category).sum ≤ 8) (hM : am_M E d mX10_thrown k' n' [.ref a] S iv (am_K3 E (d + 1) mL_law k n 316 ls st Q)) : am_R E (d + 1) mL_law (k' + k) (n' + n) 316 ls (.ref a :: st) S iv Q := am_cV (ci := 10) (M' := mX10_thrown) (as := []) dL_law_316 rfl rfl rfl wq_1241 wq_1242 wq_1243 wq_808 wq_1239 hy_X10_thrown (by decide) ha hst (by omega) (by omega) hM
theorem sL_law_319 {a0 a1 a2 a3 a4 a6 : Value} {x : Int32} (h : am_R E d mL_law k n 321 [a0, a1, a2, a3, a4, .int x, a6] (.int x :: st) S iv Q) : am_R E d mL_law k n 319 [a0, a1, a2, a3, a4, .int x, a6] st S iv Q := am_iload dL_law_319 rfl h
theorem sL_law_321 {ls : List Value} {x y : Int32} (kt : x = y → am_R E d mL_law k n 326 ls st S iv Q) (kf : ¬ x = y → am_R E d mL_law k n 324 ls st S iv Q) : am_R E d mL_law k n 321 ls (.int y :: .int x :: st) S iv Q := am_icmp_eq dL_law_321 (by decide) kt kf
theorem sL_law_324 {a0 a1 a2 a3 a4 a5 a6 : Value} (h : am_R E d mL_law k n 325 [a0, a1, a2, a3, a4, a5, a6] (.int 0 :: st) S iv Q) : am_R E d mL_law k n 324 [a0, a1, a2, a3, a4, a5, a6] st S iv Q := am_iconst dL_law_324 (by decide) h
theorem sL_law_325 {ls : List Value} {x : Int32} (hn : narrow .boolean (.int x) = .int x) (h : Q (.inl (some (.int x))) S iv) : am_R E d mL_law k n 325 ls [.int x] S iv Q := am_zreturn dL_law_325 rfl hn h
theorem sL_law_326 {a0 a1 a2 a3 a4 a6 : Value} {x : Int32} (h : am_R E d mL_law k n 328 [a0, a1, a2, a3, a4, .int x, a6] (.int x :: st) S iv Q) : am_R E d mL_law k n 326 [a0, a1, a2, a3, a4, .int x, a6] st S iv Q := am_iload dL_law_326 rfl h
theorem sL_law_328 {ls : List Value} {x : Int32} (kt : ¬ x = 0 → am_R E d mL_law k n 343 ls st S iv Q) (kf : x = 0 → am_R E d mL_law k n 331 ls st S iv Q) : am_R E d mL_law k n 328 ls (.int x :: st) S iv Q := am_if_ne dL_law_328 (by decide) kt kf
theorem sL_law_331 {a0 a1 a2 a3 a4 a5 a6 : Value} (hv : am_rf a3 = true) (h : am_R E d mL_law k n 332 [a0, a1, a2, a3, a4, a5, a6] (a3 :: st) S iv Q) : am_R E d mL_law k n 331 [a0, a1, a2, a3, a4, a5, a6] st S iv Q := am_aload_n dL_law_331 rfl rfl hv h
theorem sL_law_332 {a0 a1 a2 a3 a4 a5 a6 : Value} (h : am_R E d mL_law k n 333 [a0, a1, a2, a3, a4, a5, a6] (.int 0 :: st) S iv Q) : am_R E d mL_law k n 332 [a0, a1, a2, a3, a4, a5, a6] st S iv Q := am_iconst dL_law_332 (by decide) h
theorem sL_law_333 {ls : List Value} {a m : Nat} {i : Int32} (ha : S.1 a = some (.inr (.long, m))) (hi : vp_in i m) (h : am_R E d mL_law k n 334 ls (.long (S.2.2.1 a i.toNatClampNeg) :: st) S iv Q) : am_R E d mL_law k n 333 ls (.int i :: .ref a :: st) S iv Q := am_laload dL_law_333 ha hi h
theorem sL_law_334 {a0 a1 a2 a3 a4 a5 : Value} {x : Int32} (h : am_R E d mL_law k n 336 [a0, a1, a2, a3, a4, a5, .int x] (.int x :: st) S iv Q) : am_R E d mL_law k n 334 [a0, a1, a2, a3, a4, a5, .int x] st S iv Q := am_iload dL_law_334 rfl h
theorem sL_law_336 {ls : List Value} {x : Int32} (h : am_R E d mL_law k n 337 ls (.long x.toInt64 :: st) S iv Q) : am_R E d mL_law k n 336 ls (.int x :: st) S iv Q := am_i2l dL_law_336 h
theorem sL_law_337 {ls : List Value} {x y : Int64} (h : am_R E d mL_law k n 338 ls (.int (lg_cmp x y) :: st) S iv Q) : am_R E d mL_law k n 337 ls (.long y :: .long x :: st) S iv Q := am_lcmp dL_law_337 h
theorem sL_law_338 {ls : List Value} {x : Int32} (kt : x = 0 → am_R E d mL_law k n 343 ls st S iv Q) (kf : ¬ x = 0 → am_R E d mL_law k n 341 ls st S iv Q) : am_R E d mL_law k n 338 ls (.int x :: st) S iv Q := am_if_eq dL_law_338 (by decide) kt kf
theorem sL_law_341 {a0 a1 a2 a3 a4 a5 a6 : Value} (h : am_R E d mL_law k n 342 [a0, a1, a2, a3, a4, a5, a6] (.int 0 :: st) S iv Q) : am_R E d mL_law k n 341 [a0, a1, a2, a3, a4, a5, a6] st S iv Q := am_iconst dL_law_341 (by decide) h
theorem sL_law_342 {ls : List Value} {x : Int32} (hn : narrow .boolean (.int x) = .int x) (h : Q (.inl (some (.int x))) S iv) : am_R E d mL_law k n 342 ls [.int x] S iv Q := am_zreturn dL_law_342 rfl hn h
theorem sL_law_343 {ls : List Value} (h : am_R E d mL_law k n 1249 ls st S iv Q) : am_R E d mL_law k n 343 ls st S iv Q := am_goto dL_law_343 (by decide) h
theorem sL_law_346 {a0 a1 a2 a3 a4 a5 a6 : Value} (hv : am_rf a1 = true) (h : am_R E d mL_law k n 347 [a0, a1, a2, a3, a4, a5, a6] (a1 :: st) S iv Q) : am_R E d mL_law k n 346 [a0, a1, a2, a3, a4, a5, a6] st S iv Q := am_aload_n dL_law_346 rfl rfl hv h
theorem sL_law_347 {a0 a1 a2 a3 a4 a5 a6 : Value} (hv : am_rf a0 = true) (h : am_R E d mL_law k n 348 [a0, a1, a2, a3, a4, a5, a6] (a0 :: st) S iv Q) : am_R E d mL_law k n 347 [a0, a1, a2, a3, a4, a5, a6] st S iv Q := am_aload_n dL_law_347 rfl rfl hv h
theorem sL_law_348 {a0 a1 a2 a3 a5 a6 : Value} {x : Int32} (h : am_R E d mL_law k n 350 [a0, a1, a2, a3, .int x, a5, a6] (.int x :: st) S iv Q) : am_R E d mL_law k n 348 [a0, a1, a2, a3, .int x, a5, a6] st S iv Q := am_iload dL_law_348 rfl h
theorem sL_law_350 {a0 a1 a2 a3 a4 a5 a6 : Value} (h : am_R E d mL_law k n 351 [a0, a1, a2, a3, a4, a5, a6] (.int 1 :: st) S iv Q) : am_R E d mL_law k n 350 [a0, a1, a2, a3, a4, a5, a6] st S iv Q := am_iconst dL_law_350 (by decide) h
theorem sL_law_351 {ls : List Value} {x y : Int32} (h : am_R E d mL_law k n 352 ls (.int (x + y) :: st) S iv Q) : am_R E d mL_law k n 351 ls (.int y :: .int x :: st) S iv Q := am_iadd dL_law_351 h
theorem sL_law_352 {ls : List Value} {i : Int32} (hi : vp_in i (am_L E)) (h : am_R E d mL_law k n 353 ls (.int (am_xs E i.toNatClampNeg) :: st) S iv Q) : am_R E d mL_law k n 352 ls (.int i :: .null :: st) S iv Q := am_saload dL_law_352 hi h
theorem sL_law_353 {a0 a1 a2 a3 a4 a5 a6 : Value} (hv : am_rf a0 = true) (h : am_R E d mL_law k n 354 [a0, a1, a2, a3, a4, a5, a6] (a0 :: st) S iv Q) : am_R E d mL_law k n 353 [a0, a1, a2, a3, a4, a5, a6] st S iv Q := am_aload_n dL_law_353 rfl rfl hv h
theorem sL_law_354 {a0 a1 a2 a3 a5 a6 : Value} {x : Int32} (h : am_R E d mL_law k n 356 [a0, a1, a2, a3, .int x, a5, a6] (.int x :: st) S iv Q) : am_R E d mL_law k n 354 [a0, a1, a2, a3, .int x, a5, a6] st S iv Q := am_iload dL_law_354 rfl h
theorem sL_law_356 {a0 a1 a2 a3 a4 a5 a6 : Value} (h : am_R E d mL_law k n 357 [a0, a1, a2, a3, a4, a5, a6] (.int 2 :: st) S iv Q) : am_R E d mL_law k n 356 [a0, a1, a2, a3, a4, a5, a6] st S iv Q := am_iconst dL_law_356 (by decide) h
theorem sL_law_357 {ls : List Value} {x y : Int32} (h : am_R E d mL_law k n 358 ls (.int (x + y) :: st) S iv Q) : am_R E d mL_law k n 357 ls (.int y :: .int x :: st) S iv Q := am_iadd dL_law_357 h
theorem sL_law_358 {ls : List Value} {i : Int32} (hi : vp_in i (am_L E)) (h : am_R E d mL_law k n 359 ls (.int (am_xs E i.toNatClampNeg) :: st) S iv Q) : am_R E d mL_law k n 358 ls (.int i :: .null :: st) S iv Q := am_saload dL_law_358 hi h
theorem sL_law_359 {a0 a1 a2 a3 a4 a5 a6 : Value} (hv : am_rf a3 = true) (h : am_R E d mL_law k n 360 [a0, a1, a2, a3, a4, a5, a6] (a3 :: st) S iv Q) : am_R E d mL_law k n 359 [a0, a1, a2, a3, a4, a5, a6] st S iv Q := am_aload_n dL_law_359 rfl rfl hv h
theorem sL_law_360 {ls : List Value} {x1 x2 x3 x4 : Value} (hst : (st.map fun v => v.category).sum ≤ 8) (hM : am_M E d mL_drawer 0 0 [x1, x2, x3, x4] S iv (am_K3 E (d + 1) mL_law k n 360 ls st Q)) : am_R E (d + 1) mL_law k n 360 ls (x4 :: x3 :: x2 :: x1 :: st) S iv Q := am_cSH (M' := mL_drawer) (as := [x1, x2, x3, x4]) dL_law_360 (by decide) wq_1265 wq_1266 wq_1230 wq_1263 hy_L_drawer (by decide) hst (by omega) (by omega) hM
theorem sL_law_360_k {ls : List Value} {x1 x2 x3 x4 : Value} {k' n' : Nat} (hst : (st.map fun v => v.category).sum ≤ 8) (hM : am_M E d mL_drawer k' n' [x1, x2, x3, x4] S iv (am_K3 E (d + 1) mL_law k n 360 ls st Q)) : am_R E (d + 1) mL_law (k' + k) (n' + n) 360 ls (x4 :: x3 :: x2 :: x1 :: st) S iv Q := am_cSH (M' := mL_drawer) (as := [x1, x2, x3, x4]) dL_law_360 (by decide) wq_1265 wq_1266 wq_1230 wq_1263 hy_L_drawer (by decide) hst (by omega) (by omega) hM
theorem sL_law_363 {a0 a1 a2 a3 a4 a5 a6 : Value} {x : Int32} (h : am_R E d mL_law k n 365 [a0, a1, a2, a3, a4, .int x, a6] st S iv Q) : am_R E d mL_law k n 363 [a0, a1, a2, a3, a4, a5, a6] (.int x :: st) S iv Q := am_istore dL_law_363 (by decide) h
theorem sL_law_365 {a0 a1 a2 a3 a4 a5 a6 : Value} (hv : am_rf a2 = true) (h : am_R E d mL_law k n 366 [a0, a1, a2, a3, a4, a5, a6] (a2 :: st) S iv Q) : am_R E d mL_law k n 365 [a0, a1, a2, a3, a4, a5, a6] st S iv Q := am_aload_n dL_law_365 rfl rfl hv h
theorem sL_law_366 {a0 a1 a2 a3 a4 a5 a6 : Value} (hv : am_rf a0 = true) (h : am_R E d mL_law k n 367 [a0, a1, a2, a3, a4, a5, a6] (a0 :: st) S iv Q) : am_R E d mL_law k n 366 [a0, a1, a2, a3, a4, a5, a6] st S iv Q := am_aload_n dL_law_366 rfl rfl hv h
theorem sL_law_367 {a0 a1 a2 a3 a5 a6 : Value} {x : Int32} (h : am_R E d mL_law k n 369 [a0, a1, a2, a3, .int x, a5, a6] (.int x :: st) S iv Q) : am_R E d mL_law k n 367 [a0, a1, a2, a3, .int x, a5, a6] st S iv Q := am_iload dL_law_367 rfl h
theorem sL_law_369 {a0 a1 a2 a3 a4 a5 a6 : Value} (h : am_R E d mL_law k n 370 [a0, a1, a2, a3, a4, a5, a6] (.int 1 :: st) S iv Q) : am_R E d mL_law k n 369 [a0, a1, a2, a3, a4, a5, a6] st S iv Q := am_iconst dL_law_369 (by decide) h
theorem sL_law_370 {ls : List Value} {x y : Int32} (h : am_R E d mL_law k n 371 ls (.int (x + y) :: st) S iv Q) : am_R E d mL_law k n 370 ls (.int y :: .int x :: st) S iv Q := am_iadd dL_law_370 h
theorem sL_law_371 {ls : List Value} {i : Int32} (hi : vp_in i (am_L E)) (h : am_R E d mL_law k n 372 ls (.int (am_xs E i.toNatClampNeg) :: st) S iv Q) : am_R E d mL_law k n 371 ls (.int i :: .null :: st) S iv Q := am_saload dL_law_371 hi h
theorem sL_law_372 {a0 a1 a2 a3 a4 a5 a6 : Value} (hv : am_rf a0 = true) (h : am_R E d mL_law k n 373 [a0, a1, a2, a3, a4, a5, a6] (a0 :: st) S iv Q) : am_R E d mL_law k n 372 [a0, a1, a2, a3, a4, a5, a6] st S iv Q := am_aload_n dL_law_372 rfl rfl hv h
theorem sL_law_373 {a0 a1 a2 a3 a5 a6 : Value} {x : Int32} (h : am_R E d mL_law k n 375 [a0, a1, a2, a3, .int x, a5, a6] (.int x :: st) S iv Q) : am_R E d mL_law k n 373 [a0, a1, a2, a3, .int x, a5, a6] st S iv Q := am_iload dL_law_373 rfl h
theorem sL_law_375 {a0 a1 a2 a3 a4 a5 a6 : Value} (h : am_R E d mL_law k n 376 [a0, a1, a2, a3, a4, a5, a6] (.int 2 :: st) S iv Q) : am_R E d mL_law k n 375 [a0, a1, a2, a3, a4, a5, a6] st S iv Q := am_iconst dL_law_375 (by decide) h
theorem sL_law_376 {ls : List Value} {x y : Int32} (h : am_R E d mL_law k n 377 ls (.int (x + y) :: st) S iv Q) : am_R E d mL_law k n 376 ls (.int y :: .int x :: st) S iv Q := am_iadd dL_law_376 h
theorem sL_law_377 {ls : List Value} {i : Int32} (hi : vp_in i (am_L E)) (h : am_R E d mL_law k n 378 ls (.int (am_xs E i.toNatClampNeg) :: st) S iv Q) : am_R E d mL_law k n 377 ls (.int i :: .null :: st) S iv Q := am_saload dL_law_377 hi h
theorem sL_law_378 {ls : List Value} {x1 x2 : Value} {a : Nat} (ha : S.1 a = some (.inl 10)) (hst : (st.map fun v => v.category).sum ≤ 8) (hM : am_M E d mX10_drawer 0 0 [.ref a, x1, x2] S iv (am_K3 E (d + 1) mL_law k n 378 ls st Q)) : am_R E (d + 1) mL_law k n 378 ls (x2 :: x1 :: .ref a :: st) S iv Q := am_cV (ci := 10) (M' := mX10_drawer) (as := [x1, x2]) dL_law_378 rfl rfl rfl wq_1269 wq_1270 wq_1271 wq_808 wq_1267 hy_X10_drawer (by decide) ha hst (by omega) (by omega) hM
theorem sL_law_378_k {ls : List Value} {x1 x2 : Value} {k' n' : Nat} {a : Nat} (ha : S.1 a = some (.inl 10)) (hst : (st.map fun v => v.category).sum ≤ 8) (hM : am_M E d mX10_drawer k' n' [.ref a, x1, x2] S iv (am_K3 E (d + 1) mL_law k n 378 ls st Q)) : am_R E (d + 1) mL_law (k' + k) (n' + n) 378 ls (x2 :: x1 :: .ref a :: st) S iv Q := am_cV (ci := 10) (M' := mX10_drawer) (as := [x1, x2]) dL_law_378 rfl rfl rfl wq_1269 wq_1270 wq_1271 wq_808 wq_1267 hy_X10_drawer (by decide) ha hst (by omega) (by omega) hM
theorem sL_law_381 {a0 a1 a2 a3 a4 a5 a6 : Value} {x : Int32} (h : am_R E d mL_law k n 383 [a0, a1, a2, a3, a4, a5, .int x] st S iv Q) : am_R E d mL_law k n 381 [a0, a1, a2, a3, a4, a5, a6] (.int x :: st) S iv Q := am_istore dL_law_381 (by decide) h
theorem sL_law_383 {a0 a1 a2 a3 a4 a5 a6 : Value} (hv : am_rf a2 = true) (h : am_R E d mL_law k n 384 [a0, a1, a2, a3, a4, a5, a6] (a2 :: st) S iv Q) : am_R E d mL_law k n 383 [a0, a1, a2, a3, a4, a5, a6] st S iv Q := am_aload_n dL_law_383 rfl rfl hv h
theorem sL_law_384 {ls : List Value} {a : Nat} (ha : S.1 a = some (.inl 10)) (hst : (st.map fun v => v.category).sum ≤ 8) (hM : am_M E d mX10_thrown 0 0 [.ref a] S iv (am_K3 E (d + 1) mL_law k n 384 ls st Q)) : am_R E (d + 1) mL_law k n 384 ls (.ref a :: st) S iv Q := am_cV (ci := 10) (M' := mX10_thrown) (as := []) dL_law_384 rfl rfl rfl wq_1241 wq_1242 wq_1243 wq_808 wq_1239 hy_X10_thrown (by decide) ha hst (by omega) (by omega) hM
theorem sL_law_384_k {ls : List Value} {k' n' : Nat} {a : Nat} (ha : S.1 a = some (.inl 10)) (hst : (st.map fun v => v.category).sum ≤ 8) (hM : am_M E d mX10_thrown k' n' [.ref a] S iv (am_K3 E (d + 1) mL_law k n 384 ls st Q)) : am_R E (d + 1) mL_law (k' + k) (n' + n) 384 ls (.ref a :: st) S iv Q := am_cV (ci := 10) (M' := mX10_thrown) (as := []) dL_law_384 rfl rfl rfl wq_1241 wq_1242 wq_1243 wq_808 wq_1239 hy_X10_thrown (by decide) ha hst (by omega) (by omega) hM
theorem sL_law_387 {a0 a1 a2 a3 a4 a6 : Value} {x : Int32} (h : am_R E d mL_law k n 389 [a0, a1, a2, a3, a4, .int x, a6] (.int x :: st) S iv Q) : am_R E d mL_law k n 387 [a0, a1, a2, a3, a4, .int x, a6] st S iv Q := am_iload dL_law_387 rfl h
theorem sL_law_389 {ls : List Value} {x y : Int32} (kt : x = y → am_R E d mL_law k n 394 ls st S iv Q) (kf : ¬ x = y → am_R E d mL_law k n 392 ls st S iv Q) : am_R E d mL_law k n 389 ls (.int y :: .int x :: st) S iv Q := am_icmp_eq dL_law_389 (by decide) kt kf
theorem sL_law_392 {a0 a1 a2 a3 a4 a5 a6 : Value} (h : am_R E d mL_law k n 393 [a0, a1, a2, a3, a4, a5, a6] (.int 0 :: st) S iv Q) : am_R E d mL_law k n 392 [a0, a1, a2, a3, a4, a5, a6] st S iv Q := am_iconst dL_law_392 (by decide) h
theorem sL_law_393 {ls : List Value} {x : Int32} (hn : narrow .boolean (.int x) = .int x) (h : Q (.inl (some (.int x))) S iv) : am_R E d mL_law k n 393 ls [.int x] S iv Q := am_zreturn dL_law_393 rfl hn h
theorem sL_law_394 {a0 a1 a2 a3 a4 a6 : Value} {x : Int32} (h : am_R E d mL_law k n 396 [a0, a1, a2, a3, a4, .int x, a6] (.int x :: st) S iv Q) : am_R E d mL_law k n 394 [a0, a1, a2, a3, a4, .int x, a6] st S iv Q := am_iload dL_law_394 rfl h
theorem sL_law_396 {ls : List Value} {x : Int32} (kt : ¬ x = 0 → am_R E d mL_law k n 411 ls st S iv Q) (kf : x = 0 → am_R E d mL_law k n 399 ls st S iv Q) : am_R E d mL_law k n 396 ls (.int x :: st) S iv Q := am_if_ne dL_law_396 (by decide) kt kf
theorem sL_law_399 {a0 a1 a2 a3 a4 a5 a6 : Value} (hv : am_rf a3 = true) (h : am_R E d mL_law k n 400 [a0, a1, a2, a3, a4, a5, a6] (a3 :: st) S iv Q) : am_R E d mL_law k n 399 [a0, a1, a2, a3, a4, a5, a6] st S iv Q := am_aload_n dL_law_399 rfl rfl hv h
theorem sL_law_400 {a0 a1 a2 a3 a4 a5 a6 : Value} (h : am_R E d mL_law k n 401 [a0, a1, a2, a3, a4, a5, a6] (.int 0 :: st) S iv Q) : am_R E d mL_law k n 400 [a0, a1, a2, a3, a4, a5, a6] st S iv Q := am_iconst dL_law_400 (by decide) h
theorem sL_law_401 {ls : List Value} {a m : Nat} {i : Int32} (ha : S.1 a = some (.inr (.long, m))) (hi : vp_in i m) (h : am_R E d mL_law k n 402 ls (.long (S.2.2.1 a i.toNatClampNeg) :: st) S iv Q) : am_R E d mL_law k n 401 ls (.int i :: .ref a :: st) S iv Q := am_laload dL_law_401 ha hi h
theorem sL_law_402 {a0 a1 a2 a3 a4 a5 : Value} {x : Int32} (h : am_R E d mL_law k n 404 [a0, a1, a2, a3, a4, a5, .int x] (.int x :: st) S iv Q) : am_R E d mL_law k n 402 [a0, a1, a2, a3, a4, a5, .int x] st S iv Q := am_iload dL_law_402 rfl h
theorem sL_law_404 {ls : List Value} {x : Int32} (h : am_R E d mL_law k n 405 ls (.long x.toInt64 :: st) S iv Q) : am_R E d mL_law k n 404 ls (.int x :: st) S iv Q := am_i2l dL_law_404 h
theorem sL_law_405 {ls : List Value} {x y : Int64} (h : am_R E d mL_law k n 406 ls (.int (lg_cmp x y) :: st) S iv Q) : am_R E d mL_law k n 405 ls (.long y :: .long x :: st) S iv Q := am_lcmp dL_law_405 h
theorem sL_law_406 {ls : List Value} {x : Int32} (kt : x = 0 → am_R E d mL_law k n 411 ls st S iv Q) (kf : ¬ x = 0 → am_R E d mL_law k n 409 ls st S iv Q) : am_R E d mL_law k n 406 ls (.int x :: st) S iv Q := am_if_eq dL_law_406 (by decide) kt kf
theorem sL_law_409 {a0 a1 a2 a3 a4 a5 a6 : Value} (h : am_R E d mL_law k n 410 [a0, a1, a2, a3, a4, a5, a6] (.int 0 :: st) S iv Q) : am_R E d mL_law k n 409 [a0, a1, a2, a3, a4, a5, a6] st S iv Q := am_iconst dL_law_409 (by decide) h
theorem sL_law_410 {ls : List Value} {x : Int32} (hn : narrow .boolean (.int x) = .int x) (h : Q (.inl (some (.int x))) S iv) : am_R E d mL_law k n 410 ls [.int x] S iv Q := am_zreturn dL_law_410 rfl hn h
theorem sL_law_411 {ls : List Value} (h : am_R E d mL_law k n 1249 ls st S iv Q) : am_R E d mL_law k n 411 ls st S iv Q := am_goto dL_law_411 (by decide) h
theorem sL_law_414 {a0 a1 a2 a3 a4 a5 a6 : Value} (hv : am_rf a1 = true) (h : am_R E d mL_law k n 415 [a0, a1, a2, a3, a4, a5, a6] (a1 :: st) S iv Q) : am_R E d mL_law k n 414 [a0, a1, a2, a3, a4, a5, a6] st S iv Q := am_aload_n dL_law_414 rfl rfl hv h
theorem sL_law_415 {a0 a1 a2 a3 a4 a5 a6 : Value} (hv : am_rf a0 = true) (h : am_R E d mL_law k n 416 [a0, a1, a2, a3, a4, a5, a6] (a0 :: st) S iv Q) : am_R E d mL_law k n 415 [a0, a1, a2, a3, a4, a5, a6] st S iv Q := am_aload_n dL_law_415 rfl rfl hv h
theorem sL_law_416 {a0 a1 a2 a3 a5 a6 : Value} {x : Int32} (h : am_R E d mL_law k n 418 [a0, a1, a2, a3, .int x, a5, a6] (.int x :: st) S iv Q) : am_R E d mL_law k n 416 [a0, a1, a2, a3, .int x, a5, a6] st S iv Q := am_iload dL_law_416 rfl h
theorem sL_law_418 {a0 a1 a2 a3 a4 a5 a6 : Value} (h : am_R E d mL_law k n 419 [a0, a1, a2, a3, a4, a5, a6] (.int 1 :: st) S iv Q) : am_R E d mL_law k n 418 [a0, a1, a2, a3, a4, a5, a6] st S iv Q := am_iconst dL_law_418 (by decide) h
theorem sL_law_419 {ls : List Value} {x y : Int32} (h : am_R E d mL_law k n 420 ls (.int (x + y) :: st) S iv Q) : am_R E d mL_law k n 419 ls (.int y :: .int x :: st) S iv Q := am_iadd dL_law_419 h
theorem sL_law_420 {ls : List Value} {i : Int32} (hi : vp_in i (am_L E)) (h : am_R E d mL_law k n 421 ls (.int (am_xs E i.toNatClampNeg) :: st) S iv Q) : am_R E d mL_law k n 420 ls (.int i :: .null :: st) S iv Q := am_saload dL_law_420 hi h
theorem sL_law_421 {a0 a1 a2 a3 a4 a5 a6 : Value} (hv : am_rf a0 = true) (h : am_R E d mL_law k n 422 [a0, a1, a2, a3, a4, a5, a6] (a0 :: st) S iv Q) : am_R E d mL_law k n 421 [a0, a1, a2, a3, a4, a5, a6] st S iv Q := am_aload_n dL_law_421 rfl rfl hv h
theorem sL_law_422 {a0 a1 a2 a3 a5 a6 : Value} {x : Int32} (h : am_R E d mL_law k n 424 [a0, a1, a2, a3, .int x, a5, a6] (.int x :: st) S iv Q) : am_R E d mL_law k n 422 [a0, a1, a2, a3, .int x, a5, a6] st S iv Q := am_iload dL_law_422 rfl h
theorem sL_law_424 {a0 a1 a2 a3 a4 a5 a6 : Value} (h : am_R E d mL_law k n 425 [a0, a1, a2, a3, a4, a5, a6] (.int 2 :: st) S iv Q) : am_R E d mL_law k n 424 [a0, a1, a2, a3, a4, a5, a6] st S iv Q := am_iconst dL_law_424 (by decide) h
theorem sL_law_425 {ls : List Value} {x y : Int32} (h : am_R E d mL_law k n 426 ls (.int (x + y) :: st) S iv Q) : am_R E d mL_law k n 425 ls (.int y :: .int x :: st) S iv Q := am_iadd dL_law_425 h
theorem sL_law_426 {ls : List Value} {i : Int32} (hi : vp_in i (am_L E)) (h : am_R E d mL_law k n 427 ls (.int (am_xs E i.toNatClampNeg) :: st) S iv Q) : am_R E d mL_law k n 426 ls (.int i :: .null :: st) S iv Q := am_saload dL_law_426 hi h
theorem sL_law_427 {a0 a1 a2 a3 a4 a5 a6 : Value} (hv : am_rf a3 = true) (h : am_R E d mL_law k n 428 [a0, a1, a2, a3, a4, a5, a6] (a3 :: st) S iv Q) : am_R E d mL_law k n 427 [a0, a1, a2, a3, a4, a5, a6] st S iv Q := am_aload_n dL_law_427 rfl rfl hv h
theorem sL_law_428 {ls : List Value} {x1 x2 x3 x4 : Value} (hst : (st.map fun v => v.category).sum ≤ 8) (hM : am_M E d mL_person 0 0 [x1, x2, x3, x4] S iv (am_K3 E (d + 1) mL_law k n 428 ls st Q)) : am_R E (d + 1) mL_law k n 428 ls (x4 :: x3 :: x2 :: x1 :: st) S iv Q := am_cSH (M' := mL_person) (as := [x1, x2, x3, x4]) dL_law_428 (by decide) wq_1274 wq_1275 wq_1230 wq_1272 hy_L_person (by decide) hst (by omega) (by omega) hM
theorem sL_law_428_k {ls : List Value} {x1 x2 x3 x4 : Value} {k' n' : Nat} (hst : (st.map fun v => v.category).sum ≤ 8) (hM : am_M E d mL_person k' n' [x1, x2, x3, x4] S iv (am_K3 E (d + 1) mL_law k n 428 ls st Q)) : am_R E (d + 1) mL_law (k' + k) (n' + n) 428 ls (x4 :: x3 :: x2 :: x1 :: st) S iv Q := am_cSH (M' := mL_person) (as := [x1, x2, x3, x4]) dL_law_428 (by decide) wq_1274 wq_1275 wq_1230 wq_1272 hy_L_person (by decide) hst (by omega) (by omega) hM
theorem sL_law_431 {a0 a1 a2 a3 a4 a5 a6 : Value} {x : Int32} (h : am_R E d mL_law k n 433 [a0, a1, a2, a3, a4, .int x, a6] st S iv Q) : am_R E d mL_law k n 431 [a0, a1, a2, a3, a4, a5, a6] (.int x :: st) S iv Q := am_istore dL_law_431 (by decide) h
theorem sL_law_433 {a0 a1 a2 a3 a4 a5 a6 : Value} (hv : am_rf a2 = true) (h : am_R E d mL_law k n 434 [a0, a1, a2, a3, a4, a5, a6] (a2 :: st) S iv Q) : am_R E d mL_law k n 433 [a0, a1, a2, a3, a4, a5, a6] st S iv Q := am_aload_n dL_law_433 rfl rfl hv h
theorem sL_law_434 {a0 a1 a2 a3 a4 a5 a6 : Value} (hv : am_rf a0 = true) (h : am_R E d mL_law k n 435 [a0, a1, a2, a3, a4, a5, a6] (a0 :: st) S iv Q) : am_R E d mL_law k n 434 [a0, a1, a2, a3, a4, a5, a6] st S iv Q := am_aload_n dL_law_434 rfl rfl hv h
theorem sL_law_435 {a0 a1 a2 a3 a5 a6 : Value} {x : Int32} (h : am_R E d mL_law k n 437 [a0, a1, a2, a3, .int x, a5, a6] (.int x :: st) S iv Q) : am_R E d mL_law k n 435 [a0, a1, a2, a3, .int x, a5, a6] st S iv Q := am_iload dL_law_435 rfl h
theorem sL_law_437 {a0 a1 a2 a3 a4 a5 a6 : Value} (h : am_R E d mL_law k n 438 [a0, a1, a2, a3, a4, a5, a6] (.int 1 :: st) S iv Q) : am_R E d mL_law k n 437 [a0, a1, a2, a3, a4, a5, a6] st S iv Q := am_iconst dL_law_437 (by decide) h
theorem sL_law_438 {ls : List Value} {x y : Int32} (h : am_R E d mL_law k n 439 ls (.int (x + y) :: st) S iv Q) : am_R E d mL_law k n 438 ls (.int y :: .int x :: st) S iv Q := am_iadd dL_law_438 h
theorem sL_law_439 {ls : List Value} {i : Int32} (hi : vp_in i (am_L E)) (h : am_R E d mL_law k n 440 ls (.int (am_xs E i.toNatClampNeg) :: st) S iv Q) : am_R E d mL_law k n 439 ls (.int i :: .null :: st) S iv Q := am_saload dL_law_439 hi h
theorem sL_law_440 {a0 a1 a2 a3 a4 a5 a6 : Value} (hv : am_rf a0 = true) (h : am_R E d mL_law k n 441 [a0, a1, a2, a3, a4, a5, a6] (a0 :: st) S iv Q) : am_R E d mL_law k n 440 [a0, a1, a2, a3, a4, a5, a6] st S iv Q := am_aload_n dL_law_440 rfl rfl hv h
theorem sL_law_441 {a0 a1 a2 a3 a5 a6 : Value} {x : Int32} (h : am_R E d mL_law k n 443 [a0, a1, a2, a3, .int x, a5, a6] (.int x :: st) S iv Q) : am_R E d mL_law k n 441 [a0, a1, a2, a3, .int x, a5, a6] st S iv Q := am_iload dL_law_441 rfl h
theorem sL_law_443 {a0 a1 a2 a3 a4 a5 a6 : Value} (h : am_R E d mL_law k n 444 [a0, a1, a2, a3, a4, a5, a6] (.int 2 :: st) S iv Q) : am_R E d mL_law k n 443 [a0, a1, a2, a3, a4, a5, a6] st S iv Q := am_iconst dL_law_443 (by decide) h
theorem sL_law_444 {ls : List Value} {x y : Int32} (h : am_R E d mL_law k n 445 ls (.int (x + y) :: st) S iv Q) : am_R E d mL_law k n 444 ls (.int y :: .int x :: st) S iv Q := am_iadd dL_law_444 h
theorem sL_law_445 {ls : List Value} {i : Int32} (hi : vp_in i (am_L E)) (h : am_R E d mL_law k n 446 ls (.int (am_xs E i.toNatClampNeg) :: st) S iv Q) : am_R E d mL_law k n 445 ls (.int i :: .null :: st) S iv Q := am_saload dL_law_445 hi h
theorem sL_law_446 {ls : List Value} {x1 x2 : Value} {a : Nat} (ha : S.1 a = some (.inl 10)) (hst : (st.map fun v => v.category).sum ≤ 8) (hM : am_M E d mX10_person 0 0 [.ref a, x1, x2] S iv (am_K3 E (d + 1) mL_law k n 446 ls st Q)) : am_R E (d + 1) mL_law k n 446 ls (x2 :: x1 :: .ref a :: st) S iv Q := am_cV (ci := 10) (M' := mX10_person) (as := [x1, x2]) dL_law_446 rfl rfl rfl wq_1278 wq_1279 wq_1280 wq_808 wq_1276 hy_X10_person (by decide) ha hst (by omega) (by omega) hM
theorem sL_law_446_k {ls : List Value} {x1 x2 : Value} {k' n' : Nat} {a : Nat} (ha : S.1 a = some (.inl 10)) (hst : (st.map fun v => v.category).sum ≤ 8) (hM : am_M E d mX10_person k' n' [.ref a, x1, x2] S iv (am_K3 E (d + 1) mL_law k n 446 ls st Q)) : am_R E (d + 1) mL_law (k' + k) (n' + n) 446 ls (x2 :: x1 :: .ref a :: st) S iv Q := am_cV (ci := 10) (M' := mX10_person) (as := [x1, x2]) dL_law_446 rfl rfl rfl wq_1278 wq_1279 wq_1280 wq_808 wq_1276 hy_X10_person (by decide) ha hst (by omega) (by omega) hM
theorem sL_law_449 {a0 a1 a2 a3 a4 a5 a6 : Value} {x : Int32} (h : am_R E d mL_law k n 451 [a0, a1, a2, a3, a4, a5, .int x] st S iv Q) : am_R E d mL_law k n 449 [a0, a1, a2, a3, a4, a5, a6] (.int x :: st) S iv Q := am_istore dL_law_449 (by decide) h
theorem sL_law_451 {a0 a1 a2 a3 a4 a5 a6 : Value} (hv : am_rf a2 = true) (h : am_R E d mL_law k n 452 [a0, a1, a2, a3, a4, a5, a6] (a2 :: st) S iv Q) : am_R E d mL_law k n 451 [a0, a1, a2, a3, a4, a5, a6] st S iv Q := am_aload_n dL_law_451 rfl rfl hv h
theorem sL_law_452 {ls : List Value} {a : Nat} (ha : S.1 a = some (.inl 10)) (hst : (st.map fun v => v.category).sum ≤ 8) (hM : am_M E d mX10_thrown 0 0 [.ref a] S iv (am_K3 E (d + 1) mL_law k n 452 ls st Q)) : am_R E (d + 1) mL_law k n 452 ls (.ref a :: st) S iv Q := am_cV (ci := 10) (M' := mX10_thrown) (as := []) dL_law_452 rfl rfl rfl wq_1241 wq_1242 wq_1243 wq_808 wq_1239 hy_X10_thrown (by decide) ha hst (by omega) (by omega) hM
theorem sL_law_452_k {ls : List Value} {k' n' : Nat} {a : Nat} (ha : S.1 a = some (.inl 10)) (hst : (st.map fun v => v.category).sum ≤ 8) (hM : am_M E d mX10_thrown k' n' [.ref a] S iv (am_K3 E (d + 1) mL_law k n 452 ls st Q)) : am_R E (d + 1) mL_law (k' + k) (n' + n) 452 ls (.ref a :: st) S iv Q := am_cV (ci := 10) (M' := mX10_thrown) (as := []) dL_law_452 rfl rfl rfl wq_1241 wq_1242 wq_1243 wq_808 wq_1239 hy_X10_thrown (by decide) ha hst (by omega) (by omega) hM
theorem sL_law_455 {a0 a1 a2 a3 a4 a6 : Value} {x : Int32} (h : am_R E d mL_law k n 457 [a0, a1, a2, a3, a4, .int x, a6] (.int x :: st) S iv Q) : am_R E d mL_law k n 455 [a0, a1, a2, a3, a4, .int x, a6] st S iv Q := am_iload dL_law_455 rfl h
theorem sL_law_457 {ls : List Value} {x y : Int32} (kt : x = y → am_R E d mL_law k n 462 ls st S iv Q) (kf : ¬ x = y → am_R E d mL_law k n 460 ls st S iv Q) : am_R E d mL_law k n 457 ls (.int y :: .int x :: st) S iv Q := am_icmp_eq dL_law_457 (by decide) kt kf
theorem sL_law_460 {a0 a1 a2 a3 a4 a5 a6 : Value} (h : am_R E d mL_law k n 461 [a0, a1, a2, a3, a4, a5, a6] (.int 0 :: st) S iv Q) : am_R E d mL_law k n 460 [a0, a1, a2, a3, a4, a5, a6] st S iv Q := am_iconst dL_law_460 (by decide) h
theorem sL_law_461 {ls : List Value} {x : Int32} (hn : narrow .boolean (.int x) = .int x) (h : Q (.inl (some (.int x))) S iv) : am_R E d mL_law k n 461 ls [.int x] S iv Q := am_zreturn dL_law_461 rfl hn h
theorem sL_law_462 {a0 a1 a2 a3 a4 a6 : Value} {x : Int32} (h : am_R E d mL_law k n 464 [a0, a1, a2, a3, a4, .int x, a6] (.int x :: st) S iv Q) : am_R E d mL_law k n 462 [a0, a1, a2, a3, a4, .int x, a6] st S iv Q := am_iload dL_law_462 rfl h
theorem sL_law_464 {ls : List Value} {x : Int32} (kt : ¬ x = 0 → am_R E d mL_law k n 479 ls st S iv Q) (kf : x = 0 → am_R E d mL_law k n 467 ls st S iv Q) : am_R E d mL_law k n 464 ls (.int x :: st) S iv Q := am_if_ne dL_law_464 (by decide) kt kf
theorem sL_law_467 {a0 a1 a2 a3 a4 a5 a6 : Value} (hv : am_rf a3 = true) (h : am_R E d mL_law k n 468 [a0, a1, a2, a3, a4, a5, a6] (a3 :: st) S iv Q) : am_R E d mL_law k n 467 [a0, a1, a2, a3, a4, a5, a6] st S iv Q := am_aload_n dL_law_467 rfl rfl hv h
theorem sL_law_468 {a0 a1 a2 a3 a4 a5 a6 : Value} (h : am_R E d mL_law k n 469 [a0, a1, a2, a3, a4, a5, a6] (.int 0 :: st) S iv Q) : am_R E d mL_law k n 468 [a0, a1, a2, a3, a4, a5, a6] st S iv Q := am_iconst dL_law_468 (by decide) h
theorem sL_law_469 {ls : List Value} {a m : Nat} {i : Int32} (ha : S.1 a = some (.inr (.long, m))) (hi : vp_in i m) (h : am_R E d mL_law k n 470 ls (.long (S.2.2.1 a i.toNatClampNeg) :: st) S iv Q) : am_R E d mL_law k n 469 ls (.int i :: .ref a :: st) S iv Q := am_laload dL_law_469 ha hi h
theorem sL_law_470 {a0 a1 a2 a3 a4 a5 : Value} {x : Int32} (h : am_R E d mL_law k n 472 [a0, a1, a2, a3, a4, a5, .int x] (.int x :: st) S iv Q) : am_R E d mL_law k n 470 [a0, a1, a2, a3, a4, a5, .int x] st S iv Q := am_iload dL_law_470 rfl h
theorem sL_law_472 {ls : List Value} {x : Int32} (h : am_R E d mL_law k n 473 ls (.long x.toInt64 :: st) S iv Q) : am_R E d mL_law k n 472 ls (.int x :: st) S iv Q := am_i2l dL_law_472 h
theorem sL_law_473 {ls : List Value} {x y : Int64} (h : am_R E d mL_law k n 474 ls (.int (lg_cmp x y) :: st) S iv Q) : am_R E d mL_law k n 473 ls (.long y :: .long x :: st) S iv Q := am_lcmp dL_law_473 h
theorem sL_law_474 {ls : List Value} {x : Int32} (kt : x = 0 → am_R E d mL_law k n 479 ls st S iv Q) (kf : ¬ x = 0 → am_R E d mL_law k n 477 ls st S iv Q) : am_R E d mL_law k n 474 ls (.int x :: st) S iv Q := am_if_eq dL_law_474 (by decide) kt kf
theorem sL_law_477 {a0 a1 a2 a3 a4 a5 a6 : Value} (h : am_R E d mL_law k n 478 [a0, a1, a2, a3, a4, a5, a6] (.int 0 :: st) S iv Q) : am_R E d mL_law k n 477 [a0, a1, a2, a3, a4, a5, a6] st S iv Q := am_iconst dL_law_477 (by decide) h
theorem sL_law_478 {ls : List Value} {x : Int32} (hn : narrow .boolean (.int x) = .int x) (h : Q (.inl (some (.int x))) S iv) : am_R E d mL_law k n 478 ls [.int x] S iv Q := am_zreturn dL_law_478 rfl hn h
theorem sL_law_479 {ls : List Value} (h : am_R E d mL_law k n 1249 ls st S iv Q) : am_R E d mL_law k n 479 ls st S iv Q := am_goto dL_law_479 (by decide) h
theorem sL_law_482 {a0 a1 a2 a3 a4 a5 a6 : Value} (hv : am_rf a1 = true) (h : am_R E d mL_law k n 483 [a0, a1, a2, a3, a4, a5, a6] (a1 :: st) S iv Q) : am_R E d mL_law k n 482 [a0, a1, a2, a3, a4, a5, a6] st S iv Q := am_aload_n dL_law_482 rfl rfl hv h
theorem sL_law_483 {a0 a1 a2 a3 a4 a5 a6 : Value} (hv : am_rf a0 = true) (h : am_R E d mL_law k n 484 [a0, a1, a2, a3, a4, a5, a6] (a0 :: st) S iv Q) : am_R E d mL_law k n 483 [a0, a1, a2, a3, a4, a5, a6] st S iv Q := am_aload_n dL_law_483 rfl rfl hv h
theorem sL_law_484 {a0 a1 a2 a3 a5 a6 : Value} {x : Int32} (h : am_R E d mL_law k n 486 [a0, a1, a2, a3, .int x, a5, a6] (.int x :: st) S iv Q) : am_R E d mL_law k n 484 [a0, a1, a2, a3, .int x, a5, a6] st S iv Q := am_iload dL_law_484 rfl h
theorem sL_law_486 {a0 a1 a2 a3 a4 a5 a6 : Value} (h : am_R E d mL_law k n 487 [a0, a1, a2, a3, a4, a5, a6] (.int 1 :: st) S iv Q) : am_R E d mL_law k n 486 [a0, a1, a2, a3, a4, a5, a6] st S iv Q := am_iconst dL_law_486 (by decide) h
theorem sL_law_487 {ls : List Value} {x y : Int32} (h : am_R E d mL_law k n 488 ls (.int (x + y) :: st) S iv Q) : am_R E d mL_law k n 487 ls (.int y :: .int x :: st) S iv Q := am_iadd dL_law_487 h
theorem sL_law_488 {ls : List Value} {i : Int32} (hi : vp_in i (am_L E)) (h : am_R E d mL_law k n 489 ls (.int (am_xs E i.toNatClampNeg) :: st) S iv Q) : am_R E d mL_law k n 488 ls (.int i :: .null :: st) S iv Q := am_saload dL_law_488 hi h
theorem sL_law_489 {a0 a1 a2 a3 a4 a5 a6 : Value} (hv : am_rf a3 = true) (h : am_R E d mL_law k n 490 [a0, a1, a2, a3, a4, a5, a6] (a3 :: st) S iv Q) : am_R E d mL_law k n 489 [a0, a1, a2, a3, a4, a5, a6] st S iv Q := am_aload_n dL_law_489 rfl rfl hv h
theorem sL_law_490 {ls : List Value} {x1 x2 x3 : Value} (hst : (st.map fun v => v.category).sum ≤ 8) (hM : am_M E d mL_may 0 0 [x1, x2, x3] S iv (am_K3 E (d + 1) mL_law k n 490 ls st Q)) : am_R E (d + 1) mL_law k n 490 ls (x3 :: x2 :: x1 :: st) S iv Q := am_cSH (M' := mL_may) (as := [x1, x2, x3]) dL_law_490 (by decide) wq_1283 wq_1284 wq_1230 wq_1281 hy_L_may (by decide) hst (by omega) (by omega) hM
theorem sL_law_490_k {ls : List Value} {x1 x2 x3 : Value} {k' n' : Nat} (hst : (st.map fun v => v.category).sum ≤ 8) (hM : am_M E d mL_may k' n' [x1, x2, x3] S iv (am_K3 E (d + 1) mL_law k n 490 ls st Q)) : am_R E (d + 1) mL_law (k' + k) (n' + n) 490 ls (x3 :: x2 :: x1 :: st) S iv Q := am_cSH (M' := mL_may) (as := [x1, x2, x3]) dL_law_490 (by decide) wq_1283 wq_1284 wq_1230 wq_1281 hy_L_may (by decide) hst (by omega) (by omega) hM
theorem sL_law_493 {a0 a1 a2 a3 a4 a5 a6 : Value} {x : Int32} (h : am_R E d mL_law k n 495 [a0, a1, a2, a3, a4, .int x, a6] st S iv Q) : am_R E d mL_law k n 493 [a0, a1, a2, a3, a4, a5, a6] (.int x :: st) S iv Q := am_istore dL_law_493 (by decide) h
theorem sL_law_495 {a0 a1 a2 a3 a4 a5 a6 : Value} (hv : am_rf a2 = true) (h : am_R E d mL_law k n 496 [a0, a1, a2, a3, a4, a5, a6] (a2 :: st) S iv Q) : am_R E d mL_law k n 495 [a0, a1, a2, a3, a4, a5, a6] st S iv Q := am_aload_n dL_law_495 rfl rfl hv h
theorem sL_law_496 {a0 a1 a2 a3 a4 a5 a6 : Value} (hv : am_rf a0 = true) (h : am_R E d mL_law k n 497 [a0, a1, a2, a3, a4, a5, a6] (a0 :: st) S iv Q) : am_R E d mL_law k n 496 [a0, a1, a2, a3, a4, a5, a6] st S iv Q := am_aload_n dL_law_496 rfl rfl hv h
theorem sL_law_497 {a0 a1 a2 a3 a5 a6 : Value} {x : Int32} (h : am_R E d mL_law k n 499 [a0, a1, a2, a3, .int x, a5, a6] (.int x :: st) S iv Q) : am_R E d mL_law k n 497 [a0, a1, a2, a3, .int x, a5, a6] st S iv Q := am_iload dL_law_497 rfl h
theorem sL_law_499 {a0 a1 a2 a3 a4 a5 a6 : Value} (h : am_R E d mL_law k n 500 [a0, a1, a2, a3, a4, a5, a6] (.int 1 :: st) S iv Q) : am_R E d mL_law k n 499 [a0, a1, a2, a3, a4, a5, a6] st S iv Q := am_iconst dL_law_499 (by decide) h
theorem sL_law_500 {ls : List Value} {x y : Int32} (h : am_R E d mL_law k n 501 ls (.int (x + y) :: st) S iv Q) : am_R E d mL_law k n 500 ls (.int y :: .int x :: st) S iv Q := am_iadd dL_law_500 h
theorem sL_law_501 {ls : List Value} {i : Int32} (hi : vp_in i (am_L E)) (h : am_R E d mL_law k n 502 ls (.int (am_xs E i.toNatClampNeg) :: st) S iv Q) : am_R E d mL_law k n 501 ls (.int i :: .null :: st) S iv Q := am_saload dL_law_501 hi h
theorem sL_law_502 {ls : List Value} {x1 : Value} {a : Nat} (ha : S.1 a = some (.inl 10)) (hst : (st.map fun v => v.category).sum ≤ 8) (hM : am_M E d mX10_may 0 0 [.ref a, x1] S iv (am_K3 E (d + 1) mL_law k n 502 ls st Q)) : am_R E (d + 1) mL_law k n 502 ls (x1 :: .ref a :: st) S iv Q := am_cV (ci := 10) (M' := mX10_may) (as := [x1]) dL_law_502 rfl rfl rfl wq_1287 wq_1288 wq_1289 wq_808 wq_1285 hy_X10_may (by decide) ha hst (by omega) (by omega) hM
theorem sL_law_502_k {ls : List Value} {x1 : Value} {k' n' : Nat} {a : Nat} (ha : S.1 a = some (.inl 10)) (hst : (st.map fun v => v.category).sum ≤ 8) (hM : am_M E d mX10_may k' n' [.ref a, x1] S iv (am_K3 E (d + 1) mL_law k n 502 ls st Q)) : am_R E (d + 1) mL_law (k' + k) (n' + n) 502 ls (x1 :: .ref a :: st) S iv Q := am_cV (ci := 10) (M' := mX10_may) (as := [x1]) dL_law_502 rfl rfl rfl wq_1287 wq_1288 wq_1289 wq_808 wq_1285 hy_X10_may (by decide) ha hst (by omega) (by omega) hM
theorem sL_law_505 {a0 a1 a2 a3 a4 a5 a6 : Value} {x : Int32} (h : am_R E d mL_law k n 507 [a0, a1, a2, a3, a4, a5, .int x] st S iv Q) : am_R E d mL_law k n 505 [a0, a1, a2, a3, a4, a5, a6] (.int x :: st) S iv Q := am_istore dL_law_505 (by decide) h
theorem sL_law_507 {a0 a1 a2 a3 a4 a5 a6 : Value} (hv : am_rf a2 = true) (h : am_R E d mL_law k n 508 [a0, a1, a2, a3, a4, a5, a6] (a2 :: st) S iv Q) : am_R E d mL_law k n 507 [a0, a1, a2, a3, a4, a5, a6] st S iv Q := am_aload_n dL_law_507 rfl rfl hv h
theorem sL_law_508 {ls : List Value} {a : Nat} (ha : S.1 a = some (.inl 10)) (hst : (st.map fun v => v.category).sum ≤ 8) (hM : am_M E d mX10_thrown 0 0 [.ref a] S iv (am_K3 E (d + 1) mL_law k n 508 ls st Q)) : am_R E (d + 1) mL_law k n 508 ls (.ref a :: st) S iv Q := am_cV (ci := 10) (M' := mX10_thrown) (as := []) dL_law_508 rfl rfl rfl wq_1241 wq_1242 wq_1243 wq_808 wq_1239 hy_X10_thrown (by decide) ha hst (by omega) (by omega) hM
theorem sL_law_508_k {ls : List Value} {k' n' : Nat} {a : Nat} (ha : S.1 a = some (.inl 10)) (hst : (st.map fun v => v.category).sum ≤ 8) (hM : am_M E d mX10_thrown k' n' [.ref a] S iv (am_K3 E (d + 1) mL_law k n 508 ls st Q)) : am_R E (d + 1) mL_law (k' + k) (n' + n) 508 ls (.ref a :: st) S iv Q := am_cV (ci := 10) (M' := mX10_thrown) (as := []) dL_law_508 rfl rfl rfl wq_1241 wq_1242 wq_1243 wq_808 wq_1239 hy_X10_thrown (by decide) ha hst (by omega) (by omega) hM
theorem sL_law_511 {a0 a1 a2 a3 a4 a6 : Value} {x : Int32} (h : am_R E d mL_law k n 513 [a0, a1, a2, a3, a4, .int x, a6] (.int x :: st) S iv Q) : am_R E d mL_law k n 511 [a0, a1, a2, a3, a4, .int x, a6] st S iv Q := am_iload dL_law_511 rfl h
theorem sL_law_513 {ls : List Value} {x y : Int32} (kt : x = y → am_R E d mL_law k n 518 ls st S iv Q) (kf : ¬ x = y → am_R E d mL_law k n 516 ls st S iv Q) : am_R E d mL_law k n 513 ls (.int y :: .int x :: st) S iv Q := am_icmp_eq dL_law_513 (by decide) kt kf
theorem sL_law_516 {a0 a1 a2 a3 a4 a5 a6 : Value} (h : am_R E d mL_law k n 517 [a0, a1, a2, a3, a4, a5, a6] (.int 0 :: st) S iv Q) : am_R E d mL_law k n 516 [a0, a1, a2, a3, a4, a5, a6] st S iv Q := am_iconst dL_law_516 (by decide) h
theorem sL_law_517 {ls : List Value} {x : Int32} (hn : narrow .boolean (.int x) = .int x) (h : Q (.inl (some (.int x))) S iv) : am_R E d mL_law k n 517 ls [.int x] S iv Q := am_zreturn dL_law_517 rfl hn h
theorem sL_law_518 {a0 a1 a2 a3 a4 a6 : Value} {x : Int32} (h : am_R E d mL_law k n 520 [a0, a1, a2, a3, a4, .int x, a6] (.int x :: st) S iv Q) : am_R E d mL_law k n 518 [a0, a1, a2, a3, a4, .int x, a6] st S iv Q := am_iload dL_law_518 rfl h
theorem sL_law_520 {ls : List Value} {x : Int32} (kt : ¬ x = 0 → am_R E d mL_law k n 542 ls st S iv Q) (kf : x = 0 → am_R E d mL_law k n 523 ls st S iv Q) : am_R E d mL_law k n 520 ls (.int x :: st) S iv Q := am_if_ne dL_law_520 (by decide) kt kf
theorem sL_law_523 {a0 a1 a2 a3 a4 a5 a6 : Value} (hv : am_rf a3 = true) (h : am_R E d mL_law k n 524 [a0, a1, a2, a3, a4, a5, a6] (a3 :: st) S iv Q) : am_R E d mL_law k n 523 [a0, a1, a2, a3, a4, a5, a6] st S iv Q := am_aload_n dL_law_523 rfl rfl hv h
theorem sL_law_524 {a0 a1 a2 a3 a4 a5 a6 : Value} (h : am_R E d mL_law k n 525 [a0, a1, a2, a3, a4, a5, a6] (.int 0 :: st) S iv Q) : am_R E d mL_law k n 524 [a0, a1, a2, a3, a4, a5, a6] st S iv Q := am_iconst dL_law_524 (by decide) h
theorem sL_law_525 {ls : List Value} {a m : Nat} {i : Int32} (ha : S.1 a = some (.inr (.long, m))) (hi : vp_in i m) (h : am_R E d mL_law k n 526 ls (.long (S.2.2.1 a i.toNatClampNeg) :: st) S iv Q) : am_R E d mL_law k n 525 ls (.int i :: .ref a :: st) S iv Q := am_laload dL_law_525 ha hi h
theorem sL_law_526 {a0 a1 a2 a3 a4 a5 : Value} {x : Int32} (h : am_R E d mL_law k n 528 [a0, a1, a2, a3, a4, a5, .int x] (.int x :: st) S iv Q) : am_R E d mL_law k n 526 [a0, a1, a2, a3, a4, a5, .int x] st S iv Q := am_iload dL_law_526 rfl h
theorem sL_law_528 {ls : List Value} {x : Int32} (kt : x = 0 → am_R E d mL_law k n 535 ls st S iv Q) (kf : ¬ x = 0 → am_R E d mL_law k n 531 ls st S iv Q) : am_R E d mL_law k n 528 ls (.int x :: st) S iv Q := am_if_eq dL_law_528 (by decide) kt kf
theorem sL_law_531 {a0 a1 a2 a3 a4 a5 a6 : Value} (h : am_R E d mL_law k n 532 [a0, a1, a2, a3, a4, a5, a6] (.long 1 :: st) S iv Q) : am_R E d mL_law k n 531 [a0, a1, a2, a3, a4, a5, a6] st S iv Q := am_lconst dL_law_531 (by decide) h
theorem sL_law_532 {ls : List Value} (h : am_R E d mL_law k n 536 ls st S iv Q) : am_R E d mL_law k n 532 ls st S iv Q := am_goto dL_law_532 (by decide) h
theorem sL_law_535 {a0 a1 a2 a3 a4 a5 a6 : Value} (h : am_R E d mL_law k n 536 [a0, a1, a2, a3, a4, a5, a6] (.long 0 :: st) S iv Q) : am_R E d mL_law k n 535 [a0, a1, a2, a3, a4, a5, a6] st S iv Q := am_lconst dL_law_535 (by decide) h
theorem sL_law_536 {ls : List Value} {x y : Int64} (h : am_R E d mL_law k n 537 ls (.int (lg_cmp x y) :: st) S iv Q) : am_R E d mL_law k n 536 ls (.long y :: .long x :: st) S iv Q := am_lcmp dL_law_536 h
theorem sL_law_537 {ls : List Value} {x : Int32} (kt : x = 0 → am_R E d mL_law k n 542 ls st S iv Q) (kf : ¬ x = 0 → am_R E d mL_law k n 540 ls st S iv Q) : am_R E d mL_law k n 537 ls (.int x :: st) S iv Q := am_if_eq dL_law_537 (by decide) kt kf
theorem sL_law_540 {a0 a1 a2 a3 a4 a5 a6 : Value} (h : am_R E d mL_law k n 541 [a0, a1, a2, a3, a4, a5, a6] (.int 0 :: st) S iv Q) : am_R E d mL_law k n 540 [a0, a1, a2, a3, a4, a5, a6] st S iv Q := am_iconst dL_law_540 (by decide) h
theorem sL_law_541 {ls : List Value} {x : Int32} (hn : narrow .boolean (.int x) = .int x) (h : Q (.inl (some (.int x))) S iv) : am_R E d mL_law k n 541 ls [.int x] S iv Q := am_zreturn dL_law_541 rfl hn h
theorem sL_law_542 {ls : List Value} (h : am_R E d mL_law k n 1249 ls st S iv Q) : am_R E d mL_law k n 542 ls st S iv Q := am_goto dL_law_542 (by decide) h
theorem sL_law_545 {a0 a1 a2 a3 a4 a5 a6 : Value} (hv : am_rf a1 = true) (h : am_R E d mL_law k n 546 [a0, a1, a2, a3, a4, a5, a6] (a1 :: st) S iv Q) : am_R E d mL_law k n 545 [a0, a1, a2, a3, a4, a5, a6] st S iv Q := am_aload_n dL_law_545 rfl rfl hv h
theorem sL_law_546 {a0 a1 a2 a3 a4 a5 a6 : Value} (hv : am_rf a0 = true) (h : am_R E d mL_law k n 547 [a0, a1, a2, a3, a4, a5, a6] (a0 :: st) S iv Q) : am_R E d mL_law k n 546 [a0, a1, a2, a3, a4, a5, a6] st S iv Q := am_aload_n dL_law_546 rfl rfl hv h
theorem sL_law_547 {a0 a1 a2 a3 a5 a6 : Value} {x : Int32} (h : am_R E d mL_law k n 549 [a0, a1, a2, a3, .int x, a5, a6] (.int x :: st) S iv Q) : am_R E d mL_law k n 547 [a0, a1, a2, a3, .int x, a5, a6] st S iv Q := am_iload dL_law_547 rfl h
theorem sL_law_549 {a0 a1 a2 a3 a4 a5 a6 : Value} (h : am_R E d mL_law k n 550 [a0, a1, a2, a3, a4, a5, a6] (.int 1 :: st) S iv Q) : am_R E d mL_law k n 549 [a0, a1, a2, a3, a4, a5, a6] st S iv Q := am_iconst dL_law_549 (by decide) h
theorem sL_law_550 {ls : List Value} {x y : Int32} (h : am_R E d mL_law k n 551 ls (.int (x + y) :: st) S iv Q) : am_R E d mL_law k n 550 ls (.int y :: .int x :: st) S iv Q := am_iadd dL_law_550 h
theorem sL_law_551 {ls : List Value} {i : Int32} (hi : vp_in i (am_L E)) (h : am_R E d mL_law k n 552 ls (.int (am_xs E i.toNatClampNeg) :: st) S iv Q) : am_R E d mL_law k n 551 ls (.int i :: .null :: st) S iv Q := am_saload dL_law_551 hi h
theorem sL_law_552 {a0 a1 a2 a3 a4 a5 a6 : Value} (hv : am_rf a3 = true) (h : am_R E d mL_law k n 553 [a0, a1, a2, a3, a4, a5, a6] (a3 :: st) S iv Q) : am_R E d mL_law k n 552 [a0, a1, a2, a3, a4, a5, a6] st S iv Q := am_aload_n dL_law_552 rfl rfl hv h
theorem sL_law_553 {ls : List Value} {x1 x2 x3 : Value} (hst : (st.map fun v => v.category).sum ≤ 8) (hM : am_M E d mL_broken 0 0 [x1, x2, x3] S iv (am_K3 E (d + 1) mL_law k n 553 ls st Q)) : am_R E (d + 1) mL_law k n 553 ls (x3 :: x2 :: x1 :: st) S iv Q := am_cSH (M' := mL_broken) (as := [x1, x2, x3]) dL_law_553 (by decide) wq_1292 wq_1293 wq_1230 wq_1290 hy_L_broken (by decide) hst (by omega) (by omega) hM
theorem sL_law_553_k {ls : List Value} {x1 x2 x3 : Value} {k' n' : Nat} (hst : (st.map fun v => v.category).sum ≤ 8) (hM : am_M E d mL_broken k' n' [x1, x2, x3] S iv (am_K3 E (d + 1) mL_law k n 553 ls st Q)) : am_R E (d + 1) mL_law (k' + k) (n' + n) 553 ls (x3 :: x2 :: x1 :: st) S iv Q := am_cSH (M' := mL_broken) (as := [x1, x2, x3]) dL_law_553 (by decide) wq_1292 wq_1293 wq_1230 wq_1290 hy_L_broken (by decide) hst (by omega) (by omega) hM
theorem sL_law_556 {a0 a1 a2 a3 a4 a5 a6 : Value} {x : Int32} (h : am_R E d mL_law k n 558 [a0, a1, a2, a3, a4, .int x, a6] st S iv Q) : am_R E d mL_law k n 556 [a0, a1, a2, a3, a4, a5, a6] (.int x :: st) S iv Q := am_istore dL_law_556 (by decide) h
theorem sL_law_558 {a0 a1 a2 a3 a4 a5 a6 : Value} (hv : am_rf a2 = true) (h : am_R E d mL_law k n 559 [a0, a1, a2, a3, a4, a5, a6] (a2 :: st) S iv Q) : am_R E d mL_law k n 558 [a0, a1, a2, a3, a4, a5, a6] st S iv Q := am_aload_n dL_law_558 rfl rfl hv h
theorem sL_law_559 {a0 a1 a2 a3 a4 a5 a6 : Value} (hv : am_rf a0 = true) (h : am_R E d mL_law k n 560 [a0, a1, a2, a3, a4, a5, a6] (a0 :: st) S iv Q) : am_R E d mL_law k n 559 [a0, a1, a2, a3, a4, a5, a6] st S iv Q := am_aload_n dL_law_559 rfl rfl hv h
theorem sL_law_560 {a0 a1 a2 a3 a5 a6 : Value} {x : Int32} (h : am_R E d mL_law k n 562 [a0, a1, a2, a3, .int x, a5, a6] (.int x :: st) S iv Q) : am_R E d mL_law k n 560 [a0, a1, a2, a3, .int x, a5, a6] st S iv Q := am_iload dL_law_560 rfl h
theorem sL_law_562 {a0 a1 a2 a3 a4 a5 a6 : Value} (h : am_R E d mL_law k n 563 [a0, a1, a2, a3, a4, a5, a6] (.int 1 :: st) S iv Q) : am_R E d mL_law k n 562 [a0, a1, a2, a3, a4, a5, a6] st S iv Q := am_iconst dL_law_562 (by decide) h
theorem sL_law_563 {ls : List Value} {x y : Int32} (h : am_R E d mL_law k n 564 ls (.int (x + y) :: st) S iv Q) : am_R E d mL_law k n 563 ls (.int y :: .int x :: st) S iv Q := am_iadd dL_law_563 h
theorem sL_law_564 {ls : List Value} {i : Int32} (hi : vp_in i (am_L E)) (h : am_R E d mL_law k n 565 ls (.int (am_xs E i.toNatClampNeg) :: st) S iv Q) : am_R E d mL_law k n 564 ls (.int i :: .null :: st) S iv Q := am_saload dL_law_564 hi h
theorem sL_law_565 {ls : List Value} {x1 : Value} {a : Nat} (ha : S.1 a = some (.inl 10)) (hst : (st.map fun v => v.category).sum ≤ 8) (hM : am_M E d mX10_broken 0 0 [.ref a, x1] S iv (am_K3 E (d + 1) mL_law k n 565 ls st Q)) : am_R E (d + 1) mL_law k n 565 ls (x1 :: .ref a :: st) S iv Q := am_cV (ci := 10) (M' := mX10_broken) (as := [x1]) dL_law_565 rfl rfl rfl wq_1296 wq_1297 wq_1298 wq_808 wq_1294 hy_X10_broken (by decide) ha hst (by omega) (by omega) hM
theorem sL_law_565_k {ls : List Value} {x1 : Value} {k' n' : Nat} {a : Nat} (ha : S.1 a = some (.inl 10)) (hst : (st.map fun v => v.category).sum ≤ 8) (hM : am_M E d mX10_broken k' n' [.ref a, x1] S iv (am_K3 E (d + 1) mL_law k n 565 ls st Q)) : am_R E (d + 1) mL_law (k' + k) (n' + n) 565 ls (x1 :: .ref a :: st) S iv Q := am_cV (ci := 10) (M' := mX10_broken) (as := [x1]) dL_law_565 rfl rfl rfl wq_1296 wq_1297 wq_1298 wq_808 wq_1294 hy_X10_broken (by decide) ha hst (by omega) (by omega) hM
theorem sL_law_568 {a0 a1 a2 a3 a4 a5 a6 : Value} {x : Int32} (h : am_R E d mL_law k n 570 [a0, a1, a2, a3, a4, a5, .int x] st S iv Q) : am_R E d mL_law k n 568 [a0, a1, a2, a3, a4, a5, a6] (.int x :: st) S iv Q := am_istore dL_law_568 (by decide) h
theorem sL_law_570 {a0 a1 a2 a3 a4 a5 a6 : Value} (hv : am_rf a2 = true) (h : am_R E d mL_law k n 571 [a0, a1, a2, a3, a4, a5, a6] (a2 :: st) S iv Q) : am_R E d mL_law k n 570 [a0, a1, a2, a3, a4, a5, a6] st S iv Q := am_aload_n dL_law_570 rfl rfl hv h
theorem sL_law_571 {ls : List Value} {a : Nat} (ha : S.1 a = some (.inl 10)) (hst : (st.map fun v => v.category).sum ≤ 8) (hM : am_M E d mX10_thrown 0 0 [.ref a] S iv (am_K3 E (d + 1) mL_law k n 571 ls st Q)) : am_R E (d + 1) mL_law k n 571 ls (.ref a :: st) S iv Q := am_cV (ci := 10) (M' := mX10_thrown) (as := []) dL_law_571 rfl rfl rfl wq_1241 wq_1242 wq_1243 wq_808 wq_1239 hy_X10_thrown (by decide) ha hst (by omega) (by omega) hM
theorem sL_law_571_k {ls : List Value} {k' n' : Nat} {a : Nat} (ha : S.1 a = some (.inl 10)) (hst : (st.map fun v => v.category).sum ≤ 8) (hM : am_M E d mX10_thrown k' n' [.ref a] S iv (am_K3 E (d + 1) mL_law k n 571 ls st Q)) : am_R E (d + 1) mL_law (k' + k) (n' + n) 571 ls (.ref a :: st) S iv Q := am_cV (ci := 10) (M' := mX10_thrown) (as := []) dL_law_571 rfl rfl rfl wq_1241 wq_1242 wq_1243 wq_808 wq_1239 hy_X10_thrown (by decide) ha hst (by omega) (by omega) hM
theorem sL_law_574 {a0 a1 a2 a3 a4 a6 : Value} {x : Int32} (h : am_R E d mL_law k n 576 [a0, a1, a2, a3, a4, .int x, a6] (.int x :: st) S iv Q) : am_R E d mL_law k n 574 [a0, a1, a2, a3, a4, .int x, a6] st S iv Q := am_iload dL_law_574 rfl h
theorem sL_law_576 {ls : List Value} {x y : Int32} (kt : x = y → am_R E d mL_law k n 581 ls st S iv Q) (kf : ¬ x = y → am_R E d mL_law k n 579 ls st S iv Q) : am_R E d mL_law k n 576 ls (.int y :: .int x :: st) S iv Q := am_icmp_eq dL_law_576 (by decide) kt kf
theorem sL_law_579 {a0 a1 a2 a3 a4 a5 a6 : Value} (h : am_R E d mL_law k n 580 [a0, a1, a2, a3, a4, a5, a6] (.int 0 :: st) S iv Q) : am_R E d mL_law k n 579 [a0, a1, a2, a3, a4, a5, a6] st S iv Q := am_iconst dL_law_579 (by decide) h
theorem sL_law_580 {ls : List Value} {x : Int32} (hn : narrow .boolean (.int x) = .int x) (h : Q (.inl (some (.int x))) S iv) : am_R E d mL_law k n 580 ls [.int x] S iv Q := am_zreturn dL_law_580 rfl hn h
theorem sL_law_581 {a0 a1 a2 a3 a4 a6 : Value} {x : Int32} (h : am_R E d mL_law k n 583 [a0, a1, a2, a3, a4, .int x, a6] (.int x :: st) S iv Q) : am_R E d mL_law k n 581 [a0, a1, a2, a3, a4, .int x, a6] st S iv Q := am_iload dL_law_581 rfl h
theorem sL_law_583 {ls : List Value} {x : Int32} (kt : ¬ x = 0 → am_R E d mL_law k n 598 ls st S iv Q) (kf : x = 0 → am_R E d mL_law k n 586 ls st S iv Q) : am_R E d mL_law k n 583 ls (.int x :: st) S iv Q := am_if_ne dL_law_583 (by decide) kt kf
theorem sL_law_586 {a0 a1 a2 a3 a4 a5 a6 : Value} (hv : am_rf a3 = true) (h : am_R E d mL_law k n 587 [a0, a1, a2, a3, a4, a5, a6] (a3 :: st) S iv Q) : am_R E d mL_law k n 586 [a0, a1, a2, a3, a4, a5, a6] st S iv Q := am_aload_n dL_law_586 rfl rfl hv h
theorem sL_law_587 {a0 a1 a2 a3 a4 a5 a6 : Value} (h : am_R E d mL_law k n 588 [a0, a1, a2, a3, a4, a5, a6] (.int 0 :: st) S iv Q) : am_R E d mL_law k n 587 [a0, a1, a2, a3, a4, a5, a6] st S iv Q := am_iconst dL_law_587 (by decide) h
theorem sL_law_588 {ls : List Value} {a m : Nat} {i : Int32} (ha : S.1 a = some (.inr (.long, m))) (hi : vp_in i m) (h : am_R E d mL_law k n 589 ls (.long (S.2.2.1 a i.toNatClampNeg) :: st) S iv Q) : am_R E d mL_law k n 588 ls (.int i :: .ref a :: st) S iv Q := am_laload dL_law_588 ha hi h
theorem sL_law_589 {a0 a1 a2 a3 a4 a5 : Value} {x : Int32} (h : am_R E d mL_law k n 591 [a0, a1, a2, a3, a4, a5, .int x] (.int x :: st) S iv Q) : am_R E d mL_law k n 589 [a0, a1, a2, a3, a4, a5, .int x] st S iv Q := am_iload dL_law_589 rfl h
theorem sL_law_591 {ls : List Value} {x : Int32} (h : am_R E d mL_law k n 592 ls (.long x.toInt64 :: st) S iv Q) : am_R E d mL_law k n 591 ls (.int x :: st) S iv Q := am_i2l dL_law_591 h
theorem sL_law_592 {ls : List Value} {x y : Int64} (h : am_R E d mL_law k n 593 ls (.int (lg_cmp x y) :: st) S iv Q) : am_R E d mL_law k n 592 ls (.long y :: .long x :: st) S iv Q := am_lcmp dL_law_592 h
theorem sL_law_593 {ls : List Value} {x : Int32} (kt : x = 0 → am_R E d mL_law k n 598 ls st S iv Q) (kf : ¬ x = 0 → am_R E d mL_law k n 596 ls st S iv Q) : am_R E d mL_law k n 593 ls (.int x :: st) S iv Q := am_if_eq dL_law_593 (by decide) kt kf
theorem sL_law_596 {a0 a1 a2 a3 a4 a5 a6 : Value} (h : am_R E d mL_law k n 597 [a0, a1, a2, a3, a4, a5, a6] (.int 0 :: st) S iv Q) : am_R E d mL_law k n 596 [a0, a1, a2, a3, a4, a5, a6] st S iv Q := am_iconst dL_law_596 (by decide) h
theorem sL_law_597 {ls : List Value} {x : Int32} (hn : narrow .boolean (.int x) = .int x) (h : Q (.inl (some (.int x))) S iv) : am_R E d mL_law k n 597 ls [.int x] S iv Q := am_zreturn dL_law_597 rfl hn h
theorem sL_law_598 {ls : List Value} (h : am_R E d mL_law k n 1249 ls st S iv Q) : am_R E d mL_law k n 598 ls st S iv Q := am_goto dL_law_598 (by decide) h
theorem sL_law_601 {a0 a1 a2 a3 a4 a5 a6 : Value} (hv : am_rf a1 = true) (h : am_R E d mL_law k n 602 [a0, a1, a2, a3, a4, a5, a6] (a1 :: st) S iv Q) : am_R E d mL_law k n 601 [a0, a1, a2, a3, a4, a5, a6] st S iv Q := am_aload_n dL_law_601 rfl rfl hv h
theorem sL_law_602 {a0 a1 a2 a3 a4 a5 a6 : Value} (hv : am_rf a0 = true) (h : am_R E d mL_law k n 603 [a0, a1, a2, a3, a4, a5, a6] (a0 :: st) S iv Q) : am_R E d mL_law k n 602 [a0, a1, a2, a3, a4, a5, a6] st S iv Q := am_aload_n dL_law_602 rfl rfl hv h
theorem sL_law_603 {a0 a1 a2 a3 a5 a6 : Value} {x : Int32} (h : am_R E d mL_law k n 605 [a0, a1, a2, a3, .int x, a5, a6] (.int x :: st) S iv Q) : am_R E d mL_law k n 603 [a0, a1, a2, a3, .int x, a5, a6] st S iv Q := am_iload dL_law_603 rfl h
theorem sL_law_605 {a0 a1 a2 a3 a4 a5 a6 : Value} (h : am_R E d mL_law k n 606 [a0, a1, a2, a3, a4, a5, a6] (.int 1 :: st) S iv Q) : am_R E d mL_law k n 605 [a0, a1, a2, a3, a4, a5, a6] st S iv Q := am_iconst dL_law_605 (by decide) h
theorem sL_law_606 {ls : List Value} {x y : Int32} (h : am_R E d mL_law k n 607 ls (.int (x + y) :: st) S iv Q) : am_R E d mL_law k n 606 ls (.int y :: .int x :: st) S iv Q := am_iadd dL_law_606 h
theorem sL_law_607 {ls : List Value} {i : Int32} (hi : vp_in i (am_L E)) (h : am_R E d mL_law k n 608 ls (.int (am_xs E i.toNatClampNeg) :: st) S iv Q) : am_R E d mL_law k n 607 ls (.int i :: .null :: st) S iv Q := am_saload dL_law_607 hi h
theorem sL_law_608 {ls : List Value} {x1 : Value} {a : Nat} (ha : S.1 a = some (.inl 9)) (hst : (st.map fun v => v.category).sum ≤ 8) (hM : am_M E d mX9_move 0 0 [.ref a, x1] S iv (am_K3 E (d + 1) mL_law k n 608 ls st Q)) : am_R E (d + 1) mL_law k n 608 ls (x1 :: .ref a :: st) S iv Q := am_cV (ci := 9) (M' := mX9_move) (as := [x1]) dL_law_608 rfl rfl rfl wq_1301 wq_1302 wq_1303 wq_581 wq_1299 hy_X9_move (by decide) ha hst (by omega) (by omega) hM
theorem sL_law_608_k {ls : List Value} {x1 : Value} {k' n' : Nat} {a : Nat} (ha : S.1 a = some (.inl 9)) (hst : (st.map fun v => v.category).sum ≤ 8) (hM : am_M E d mX9_move k' n' [.ref a, x1] S iv (am_K3 E (d + 1) mL_law k n 608 ls st Q)) : am_R E (d + 1) mL_law (k' + k) (n' + n) 608 ls (x1 :: .ref a :: st) S iv Q := am_cV (ci := 9) (M' := mX9_move) (as := [x1]) dL_law_608 rfl rfl rfl wq_1301 wq_1302 wq_1303 wq_581 wq_1299 hy_X9_move (by decide) ha hst (by omega) (by omega) hM
theorem sL_law_611 {a0 a1 a2 a3 a4 a5 a6 : Value} (hv : am_rf a2 = true) (h : am_R E d mL_law k n 612 [a0, a1, a2, a3, a4, a5, a6] (a2 :: st) S iv Q) : am_R E d mL_law k n 611 [a0, a1, a2, a3, a4, a5, a6] st S iv Q := am_aload_n dL_law_611 rfl rfl hv h
theorem sL_law_612 {a0 a1 a2 a3 a4 a5 a6 : Value} (hv : am_rf a0 = true) (h : am_R E d mL_law k n 613 [a0, a1, a2, a3, a4, a5, a6] (a0 :: st) S iv Q) : am_R E d mL_law k n 612 [a0, a1, a2, a3, a4, a5, a6] st S iv Q := am_aload_n dL_law_612 rfl rfl hv h
theorem sL_law_613 {a0 a1 a2 a3 a5 a6 : Value} {x : Int32} (h : am_R E d mL_law k n 615 [a0, a1, a2, a3, .int x, a5, a6] (.int x :: st) S iv Q) : am_R E d mL_law k n 613 [a0, a1, a2, a3, .int x, a5, a6] st S iv Q := am_iload dL_law_613 rfl h
theorem sL_law_615 {a0 a1 a2 a3 a4 a5 a6 : Value} (h : am_R E d mL_law k n 616 [a0, a1, a2, a3, a4, a5, a6] (.int 1 :: st) S iv Q) : am_R E d mL_law k n 615 [a0, a1, a2, a3, a4, a5, a6] st S iv Q := am_iconst dL_law_615 (by decide) h
theorem sL_law_616 {ls : List Value} {x y : Int32} (h : am_R E d mL_law k n 617 ls (.int (x + y) :: st) S iv Q) : am_R E d mL_law k n 616 ls (.int y :: .int x :: st) S iv Q := am_iadd dL_law_616 h
theorem sL_law_617 {ls : List Value} {i : Int32} (hi : vp_in i (am_L E)) (h : am_R E d mL_law k n 618 ls (.int (am_xs E i.toNatClampNeg) :: st) S iv Q) : am_R E d mL_law k n 617 ls (.int i :: .null :: st) S iv Q := am_saload dL_law_617 hi h
theorem sL_law_618 {ls : List Value} {x1 : Value} {a : Nat} (ha : S.1 a = some (.inl 10)) (hst : (st.map fun v => v.category).sum ≤ 8) (hM : am_M E d mX10_move 0 0 [.ref a, x1] S iv (am_K3 E (d + 1) mL_law k n 618 ls st Q)) : am_R E (d + 1) mL_law k n 618 ls (x1 :: .ref a :: st) S iv Q := am_cV (ci := 10) (M' := mX10_move) (as := [x1]) dL_law_618 rfl rfl rfl wq_1306 wq_1307 wq_1308 wq_808 wq_1304 hy_X10_move (by decide) ha hst (by omega) (by omega) hM
theorem sL_law_618_k {ls : List Value} {x1 : Value} {k' n' : Nat} {a : Nat} (ha : S.1 a = some (.inl 10)) (hst : (st.map fun v => v.category).sum ≤ 8) (hM : am_M E d mX10_move k' n' [.ref a, x1] S iv (am_K3 E (d + 1) mL_law k n 618 ls st Q)) : am_R E (d + 1) mL_law (k' + k) (n' + n) 618 ls (x1 :: .ref a :: st) S iv Q := am_cV (ci := 10) (M' := mX10_move) (as := [x1]) dL_law_618 rfl rfl rfl wq_1306 wq_1307 wq_1308 wq_808 wq_1304 hy_X10_move (by decide) ha hst (by omega) (by omega) hM
theorem sL_law_621 {ls : List Value} {x y : Int32} (kt : x = y → am_R E d mL_law k n 1249 ls st S iv Q) (kf : ¬ x = y → am_R E d mL_law k n 624 ls st S iv Q) : am_R E d mL_law k n 621 ls (.int y :: .int x :: st) S iv Q := am_icmp_eq dL_law_621 (by decide) kt kf
theorem sL_law_624 {a0 a1 a2 a3 a4 a5 a6 : Value} (h : am_R E d mL_law k n 625 [a0, a1, a2, a3, a4, a5, a6] (.int 0 :: st) S iv Q) : am_R E d mL_law k n 624 [a0, a1, a2, a3, a4, a5, a6] st S iv Q := am_iconst dL_law_624 (by decide) h
theorem sL_law_625 {ls : List Value} {x : Int32} (hn : narrow .boolean (.int x) = .int x) (h : Q (.inl (some (.int x))) S iv) : am_R E d mL_law k n 625 ls [.int x] S iv Q := am_zreturn dL_law_625 rfl hn h
theorem sL_law_626 {a0 a1 a2 a3 a4 a5 a6 : Value} (hv : am_rf a1 = true) (h : am_R E d mL_law k n 627 [a0, a1, a2, a3, a4, a5, a6] (a1 :: st) S iv Q) : am_R E d mL_law k n 626 [a0, a1, a2, a3, a4, a5, a6] st S iv Q := am_aload_n dL_law_626 rfl rfl hv h
theorem sL_law_627 {ls : List Value} {a : Nat} (ha : S.1 a = some (.inl 9)) (hst : (st.map fun v => v.category).sum ≤ 8) (hM : am_M E d mX9_undo 0 0 [.ref a] S iv (am_K3 E (d + 1) mL_law k n 627 ls st Q)) : am_R E (d + 1) mL_law k n 627 ls (.ref a :: st) S iv Q := am_cV (ci := 9) (M' := mX9_undo) (as := []) dL_law_627 rfl rfl rfl wq_1311 wq_1312 wq_1313 wq_581 wq_1309 hy_X9_undo (by decide) ha hst (by omega) (by omega) hM
theorem sL_law_627_k {ls : List Value} {k' n' : Nat} {a : Nat} (ha : S.1 a = some (.inl 9)) (hst : (st.map fun v => v.category).sum ≤ 8) (hM : am_M E d mX9_undo k' n' [.ref a] S iv (am_K3 E (d + 1) mL_law k n 627 ls st Q)) : am_R E (d + 1) mL_law (k' + k) (n' + n) 627 ls (.ref a :: st) S iv Q := am_cV (ci := 9) (M' := mX9_undo) (as := []) dL_law_627 rfl rfl rfl wq_1311 wq_1312 wq_1313 wq_581 wq_1309 hy_X9_undo (by decide) ha hst (by omega) (by omega) hM
theorem sL_law_630 {a0 a1 a2 a3 a4 a5 a6 : Value} (hv : am_rf a2 = true) (h : am_R E d mL_law k n 631 [a0, a1, a2, a3, a4, a5, a6] (a2 :: st) S iv Q) : am_R E d mL_law k n 630 [a0, a1, a2, a3, a4, a5, a6] st S iv Q := am_aload_n dL_law_630 rfl rfl hv h
theorem sL_law_631 {ls : List Value} {a : Nat} (ha : S.1 a = some (.inl 10)) (hst : (st.map fun v => v.category).sum ≤ 8) (hM : am_M E d mX10_undo 0 0 [.ref a] S iv (am_K3 E (d + 1) mL_law k n 631 ls st Q)) : am_R E (d + 1) mL_law k n 631 ls (.ref a :: st) S iv Q := am_cV (ci := 10) (M' := mX10_undo) (as := []) dL_law_631 rfl rfl rfl wq_1316 wq_1317 wq_1318 wq_808 wq_1314 hy_X10_undo (by decide) ha hst (by omega) (by omega) hM
theorem sL_law_631_k {ls : List Value} {k' n' : Nat} {a : Nat} (ha : S.1 a = some (.inl 10)) (hst : (st.map fun v => v.category).sum ≤ 8) (hM : am_M E d mX10_undo k' n' [.ref a] S iv (am_K3 E (d + 1) mL_law k n 631 ls st Q)) : am_R E (d + 1) mL_law (k' + k) (n' + n) 631 ls (.ref a :: st) S iv Q := am_cV (ci := 10) (M' := mX10_undo) (as := []) dL_law_631 rfl rfl rfl wq_1316 wq_1317 wq_1318 wq_808 wq_1314 hy_X10_undo (by decide) ha hst (by omega) (by omega) hM
theorem sL_law_634 {ls : List Value} {x y : Int32} (kt : x = y → am_R E d mL_law k n 1249 ls st S iv Q) (kf : ¬ x = y → am_R E d mL_law k n 637 ls st S iv Q) : am_R E d mL_law k n 634 ls (.int y :: .int x :: st) S iv Q := am_icmp_eq dL_law_634 (by decide) kt kf
theorem sL_law_637 {a0 a1 a2 a3 a4 a5 a6 : Value} (h : am_R E d mL_law k n 638 [a0, a1, a2, a3, a4, a5, a6] (.int 0 :: st) S iv Q) : am_R E d mL_law k n 637 [a0, a1, a2, a3, a4, a5, a6] st S iv Q := am_iconst dL_law_637 (by decide) h
theorem sL_law_638 {ls : List Value} {x : Int32} (hn : narrow .boolean (.int x) = .int x) (h : Q (.inl (some (.int x))) S iv) : am_R E d mL_law k n 638 ls [.int x] S iv Q := am_zreturn dL_law_638 rfl hn h
theorem sL_law_639 {a0 a1 a2 a3 a4 a5 a6 : Value} (hv : am_rf a1 = true) (h : am_R E d mL_law k n 640 [a0, a1, a2, a3, a4, a5, a6] (a1 :: st) S iv Q) : am_R E d mL_law k n 639 [a0, a1, a2, a3, a4, a5, a6] st S iv Q := am_aload_n dL_law_639 rfl rfl hv h
theorem sL_law_640 {a0 a1 a2 a3 a4 a5 a6 : Value} (hv : am_rf a0 = true) (h : am_R E d mL_law k n 641 [a0, a1, a2, a3, a4, a5, a6] (a0 :: st) S iv Q) : am_R E d mL_law k n 640 [a0, a1, a2, a3, a4, a5, a6] st S iv Q := am_aload_n dL_law_640 rfl rfl hv h
theorem sL_law_641 {a0 a1 a2 a3 a5 a6 : Value} {x : Int32} (h : am_R E d mL_law k n 643 [a0, a1, a2, a3, .int x, a5, a6] (.int x :: st) S iv Q) : am_R E d mL_law k n 641 [a0, a1, a2, a3, .int x, a5, a6] st S iv Q := am_iload dL_law_641 rfl h
theorem sL_law_643 {a0 a1 a2 a3 a4 a5 a6 : Value} (h : am_R E d mL_law k n 644 [a0, a1, a2, a3, a4, a5, a6] (.int 1 :: st) S iv Q) : am_R E d mL_law k n 643 [a0, a1, a2, a3, a4, a5, a6] st S iv Q := am_iconst dL_law_643 (by decide) h
theorem sL_law_644 {ls : List Value} {x y : Int32} (h : am_R E d mL_law k n 645 ls (.int (x + y) :: st) S iv Q) : am_R E d mL_law k n 644 ls (.int y :: .int x :: st) S iv Q := am_iadd dL_law_644 h
theorem sL_law_645 {ls : List Value} {i : Int32} (hi : vp_in i (am_L E)) (h : am_R E d mL_law k n 646 ls (.int (am_xs E i.toNatClampNeg) :: st) S iv Q) : am_R E d mL_law k n 645 ls (.int i :: .null :: st) S iv Q := am_saload dL_law_645 hi h
theorem sL_law_646 {a0 a1 a2 a3 a4 a5 a6 : Value} (hv : am_rf a0 = true) (h : am_R E d mL_law k n 647 [a0, a1, a2, a3, a4, a5, a6] (a0 :: st) S iv Q) : am_R E d mL_law k n 646 [a0, a1, a2, a3, a4, a5, a6] st S iv Q := am_aload_n dL_law_646 rfl rfl hv h
theorem sL_law_647 {a0 a1 a2 a3 a5 a6 : Value} {x : Int32} (h : am_R E d mL_law k n 649 [a0, a1, a2, a3, .int x, a5, a6] (.int x :: st) S iv Q) : am_R E d mL_law k n 647 [a0, a1, a2, a3, .int x, a5, a6] st S iv Q := am_iload dL_law_647 rfl h
theorem sL_law_649 {a0 a1 a2 a3 a4 a5 a6 : Value} (h : am_R E d mL_law k n 650 [a0, a1, a2, a3, a4, a5, a6] (.int 2 :: st) S iv Q) : am_R E d mL_law k n 649 [a0, a1, a2, a3, a4, a5, a6] st S iv Q := am_iconst dL_law_649 (by decide) h
theorem sL_law_650 {ls : List Value} {x y : Int32} (h : am_R E d mL_law k n 651 ls (.int (x + y) :: st) S iv Q) : am_R E d mL_law k n 650 ls (.int y :: .int x :: st) S iv Q := am_iadd dL_law_650 h
theorem sL_law_651 {ls : List Value} {i : Int32} (hi : vp_in i (am_L E)) (h : am_R E d mL_law k n 652 ls (.int (am_xs E i.toNatClampNeg) :: st) S iv Q) : am_R E d mL_law k n 651 ls (.int i :: .null :: st) S iv Q := am_saload dL_law_651 hi h
theorem sL_law_652 {ls : List Value} {x : Int32} (kt : x = 0 → am_R E d mL_law k n 659 ls st S iv Q) (kf : ¬ x = 0 → am_R E d mL_law k n 655 ls st S iv Q) : am_R E d mL_law k n 652 ls (.int x :: st) S iv Q := am_if_eq dL_law_652 (by decide) kt kf
theorem sL_law_655 {a0 a1 a2 a3 a4 a5 a6 : Value} (h : am_R E d mL_law k n 656 [a0, a1, a2, a3, a4, a5, a6] (.int 1 :: st) S iv Q) : am_R E d mL_law k n 655 [a0, a1, a2, a3, a4, a5, a6] st S iv Q := am_iconst dL_law_655 (by decide) h
theorem sL_law_656 {ls : List Value} (h : am_R E d mL_law k n 660 ls st S iv Q) : am_R E d mL_law k n 656 ls st S iv Q := am_goto dL_law_656 (by decide) h
theorem sL_law_659 {a0 a1 a2 a3 a4 a5 a6 : Value} (h : am_R E d mL_law k n 660 [a0, a1, a2, a3, a4, a5, a6] (.int 0 :: st) S iv Q) : am_R E d mL_law k n 659 [a0, a1, a2, a3, a4, a5, a6] st S iv Q := am_iconst dL_law_659 (by decide) h
theorem sL_law_660 {ls : List Value} {x1 x2 x3 : Value} (hst : (st.map fun v => v.category).sum ≤ 8) (hM : am_M E d mL_sleeps 0 0 [x1, x2, x3] S iv (am_K3 E (d + 1) mL_law k n 660 ls st Q)) : am_R E (d + 1) mL_law k n 660 ls (x3 :: x2 :: x1 :: st) S iv Q := am_cSH (M' := mL_sleeps) (as := [x1, x2, x3]) dL_law_660 (by decide) wq_1321 wq_1322 wq_1230 wq_1319 hy_L_sleeps (by decide) hst (by omega) (by omega) hM
theorem sL_law_660_k {ls : List Value} {x1 x2 x3 : Value} {k' n' : Nat} (hst : (st.map fun v => v.category).sum ≤ 8) (hM : am_M E d mL_sleeps k' n' [x1, x2, x3] S iv (am_K3 E (d + 1) mL_law k n 660 ls st Q)) : am_R E (d + 1) mL_law (k' + k) (n' + n) 660 ls (x3 :: x2 :: x1 :: st) S iv Q := am_cSH (M' := mL_sleeps) (as := [x1, x2, x3]) dL_law_660 (by decide) wq_1321 wq_1322 wq_1230 wq_1319 hy_L_sleeps (by decide) hst (by omega) (by omega) hM
theorem sL_law_663 {a0 a1 a2 a3 a4 a5 a6 : Value} {x : Int32} (h : am_R E d mL_law k n 665 [a0, a1, a2, a3, a4, .int x, a6] st S iv Q) : am_R E d mL_law k n 663 [a0, a1, a2, a3, a4, a5, a6] (.int x :: st) S iv Q := am_istore dL_law_663 (by decide) h
theorem sL_law_665 {a0 a1 a2 a3 a4 a5 a6 : Value} (hv : am_rf a2 = true) (h : am_R E d mL_law k n 666 [a0, a1, a2, a3, a4, a5, a6] (a2 :: st) S iv Q) : am_R E d mL_law k n 665 [a0, a1, a2, a3, a4, a5, a6] st S iv Q := am_aload_n dL_law_665 rfl rfl hv h
theorem sL_law_666 {a0 a1 a2 a3 a4 a5 a6 : Value} (hv : am_rf a0 = true) (h : am_R E d mL_law k n 667 [a0, a1, a2, a3, a4, a5, a6] (a0 :: st) S iv Q) : am_R E d mL_law k n 666 [a0, a1, a2, a3, a4, a5, a6] st S iv Q := am_aload_n dL_law_666 rfl rfl hv h
theorem sL_law_667 {a0 a1 a2 a3 a5 a6 : Value} {x : Int32} (h : am_R E d mL_law k n 669 [a0, a1, a2, a3, .int x, a5, a6] (.int x :: st) S iv Q) : am_R E d mL_law k n 667 [a0, a1, a2, a3, .int x, a5, a6] st S iv Q := am_iload dL_law_667 rfl h
theorem sL_law_669 {a0 a1 a2 a3 a4 a5 a6 : Value} (h : am_R E d mL_law k n 670 [a0, a1, a2, a3, a4, a5, a6] (.int 1 :: st) S iv Q) : am_R E d mL_law k n 669 [a0, a1, a2, a3, a4, a5, a6] st S iv Q := am_iconst dL_law_669 (by decide) h
theorem sL_law_670 {ls : List Value} {x y : Int32} (h : am_R E d mL_law k n 671 ls (.int (x + y) :: st) S iv Q) : am_R E d mL_law k n 670 ls (.int y :: .int x :: st) S iv Q := am_iadd dL_law_670 h
theorem sL_law_671 {ls : List Value} {i : Int32} (hi : vp_in i (am_L E)) (h : am_R E d mL_law k n 672 ls (.int (am_xs E i.toNatClampNeg) :: st) S iv Q) : am_R E d mL_law k n 671 ls (.int i :: .null :: st) S iv Q := am_saload dL_law_671 hi h
theorem sL_law_672 {a0 a1 a2 a3 a4 a5 a6 : Value} (hv : am_rf a0 = true) (h : am_R E d mL_law k n 673 [a0, a1, a2, a3, a4, a5, a6] (a0 :: st) S iv Q) : am_R E d mL_law k n 672 [a0, a1, a2, a3, a4, a5, a6] st S iv Q := am_aload_n dL_law_672 rfl rfl hv h
theorem sL_law_673 {a0 a1 a2 a3 a5 a6 : Value} {x : Int32} (h : am_R E d mL_law k n 675 [a0, a1, a2, a3, .int x, a5, a6] (.int x :: st) S iv Q) : am_R E d mL_law k n 673 [a0, a1, a2, a3, .int x, a5, a6] st S iv Q := am_iload dL_law_673 rfl h
theorem sL_law_675 {a0 a1 a2 a3 a4 a5 a6 : Value} (h : am_R E d mL_law k n 676 [a0, a1, a2, a3, a4, a5, a6] (.int 2 :: st) S iv Q) : am_R E d mL_law k n 675 [a0, a1, a2, a3, a4, a5, a6] st S iv Q := am_iconst dL_law_675 (by decide) h
theorem sL_law_676 {ls : List Value} {x y : Int32} (h : am_R E d mL_law k n 677 ls (.int (x + y) :: st) S iv Q) : am_R E d mL_law k n 676 ls (.int y :: .int x :: st) S iv Q := am_iadd dL_law_676 h
theorem sL_law_677 {ls : List Value} {i : Int32} (hi : vp_in i (am_L E)) (h : am_R E d mL_law k n 678 ls (.int (am_xs E i.toNatClampNeg) :: st) S iv Q) : am_R E d mL_law k n 677 ls (.int i :: .null :: st) S iv Q := am_saload dL_law_677 hi h
theorem sL_law_678 {ls : List Value} {x : Int32} (kt : x = 0 → am_R E d mL_law k n 685 ls st S iv Q) (kf : ¬ x = 0 → am_R E d mL_law k n 681 ls st S iv Q) : am_R E d mL_law k n 678 ls (.int x :: st) S iv Q := am_if_eq dL_law_678 (by decide) kt kf
theorem sL_law_681 {a0 a1 a2 a3 a4 a5 a6 : Value} (h : am_R E d mL_law k n 682 [a0, a1, a2, a3, a4, a5, a6] (.int 1 :: st) S iv Q) : am_R E d mL_law k n 681 [a0, a1, a2, a3, a4, a5, a6] st S iv Q := am_iconst dL_law_681 (by decide) h
theorem sL_law_682 {ls : List Value} (h : am_R E d mL_law k n 686 ls st S iv Q) : am_R E d mL_law k n 682 ls st S iv Q := am_goto dL_law_682 (by decide) h
theorem sL_law_685 {a0 a1 a2 a3 a4 a5 a6 : Value} (h : am_R E d mL_law k n 686 [a0, a1, a2, a3, a4, a5, a6] (.int 0 :: st) S iv Q) : am_R E d mL_law k n 685 [a0, a1, a2, a3, a4, a5, a6] st S iv Q := am_iconst dL_law_685 (by decide) h
theorem sL_law_686 {ls : List Value} {x1 x2 : Value} {a : Nat} (ha : S.1 a = some (.inl 10)) (hst : (st.map fun v => v.category).sum ≤ 8) (hM : am_M E d mX10_sleeps 0 0 [.ref a, x1, x2] S iv (am_K3 E (d + 1) mL_law k n 686 ls st Q)) : am_R E (d + 1) mL_law k n 686 ls (x2 :: x1 :: .ref a :: st) S iv Q := am_cV (ci := 10) (M' := mX10_sleeps) (as := [x1, x2]) dL_law_686 rfl rfl rfl wq_1325 wq_1326 wq_1327 wq_808 wq_1323 hy_X10_sleeps (by decide) ha hst (by omega) (by omega) hM
theorem sL_law_686_k {ls : List Value} {x1 x2 : Value} {k' n' : Nat} {a : Nat} (ha : S.1 a = some (.inl 10)) (hst : (st.map fun v => v.category).sum ≤ 8) (hM : am_M E d mX10_sleeps k' n' [.ref a, x1, x2] S iv (am_K3 E (d + 1) mL_law k n 686 ls st Q)) : am_R E (d + 1) mL_law (k' + k) (n' + n) 686 ls (x2 :: x1 :: .ref a :: st) S iv Q := am_cV (ci := 10) (M' := mX10_sleeps) (as := [x1, x2]) dL_law_686 rfl rfl rfl wq_1325 wq_1326 wq_1327 wq_808 wq_1323 hy_X10_sleeps (by decide) ha hst (by omega) (by omega) hM
theorem sL_law_689 {a0 a1 a2 a3 a4 a5 a6 : Value} (hv : am_rf a2 = true) (h : am_R E d mL_law k n 690 [a0, a1, a2, a3, a4, a5, a6] (a2 :: st) S iv Q) : am_R E d mL_law k n 689 [a0, a1, a2, a3, a4, a5, a6] st S iv Q := am_aload_n dL_law_689 rfl rfl hv h
theorem sL_law_690 {ls : List Value} {a : Nat} (ha : S.1 a = some (.inl 10)) (hst : (st.map fun v => v.category).sum ≤ 8) (hM : am_M E d mX10_thrown 0 0 [.ref a] S iv (am_K3 E (d + 1) mL_law k n 690 ls st Q)) : am_R E (d + 1) mL_law k n 690 ls (.ref a :: st) S iv Q := am_cV (ci := 10) (M' := mX10_thrown) (as := []) dL_law_690 rfl rfl rfl wq_1241 wq_1242 wq_1243 wq_808 wq_1239 hy_X10_thrown (by decide) ha hst (by omega) (by omega) hM
theorem sL_law_690_k {ls : List Value} {k' n' : Nat} {a : Nat} (ha : S.1 a = some (.inl 10)) (hst : (st.map fun v => v.category).sum ≤ 8) (hM : am_M E d mX10_thrown k' n' [.ref a] S iv (am_K3 E (d + 1) mL_law k n 690 ls st Q)) : am_R E (d + 1) mL_law (k' + k) (n' + n) 690 ls (.ref a :: st) S iv Q := am_cV (ci := 10) (M' := mX10_thrown) (as := []) dL_law_690 rfl rfl rfl wq_1241 wq_1242 wq_1243 wq_808 wq_1239 hy_X10_thrown (by decide) ha hst (by omega) (by omega) hM
theorem sL_law_693 {a0 a1 a2 a3 a4 a6 : Value} {x : Int32} (h : am_R E d mL_law k n 695 [a0, a1, a2, a3, a4, .int x, a6] (.int x :: st) S iv Q) : am_R E d mL_law k n 693 [a0, a1, a2, a3, a4, .int x, a6] st S iv Q := am_iload dL_law_693 rfl h
theorem sL_law_695 {ls : List Value} {x y : Int32} (kt : x = y → am_R E d mL_law k n 700 ls st S iv Q) (kf : ¬ x = y → am_R E d mL_law k n 698 ls st S iv Q) : am_R E d mL_law k n 695 ls (.int y :: .int x :: st) S iv Q := am_icmp_eq dL_law_695 (by decide) kt kf
theorem sL_law_698 {a0 a1 a2 a3 a4 a5 a6 : Value} (h : am_R E d mL_law k n 699 [a0, a1, a2, a3, a4, a5, a6] (.int 0 :: st) S iv Q) : am_R E d mL_law k n 698 [a0, a1, a2, a3, a4, a5, a6] st S iv Q := am_iconst dL_law_698 (by decide) h
theorem sL_law_699 {ls : List Value} {x : Int32} (hn : narrow .boolean (.int x) = .int x) (h : Q (.inl (some (.int x))) S iv) : am_R E d mL_law k n 699 ls [.int x] S iv Q := am_zreturn dL_law_699 rfl hn h
theorem sL_law_700 {ls : List Value} (h : am_R E d mL_law k n 1249 ls st S iv Q) : am_R E d mL_law k n 700 ls st S iv Q := am_goto dL_law_700 (by decide) h
theorem sL_law_703 {a0 a1 a2 a3 a4 a5 a6 : Value} (hv : am_rf a1 = true) (h : am_R E d mL_law k n 704 [a0, a1, a2, a3, a4, a5, a6] (a1 :: st) S iv Q) : am_R E d mL_law k n 703 [a0, a1, a2, a3, a4, a5, a6] st S iv Q := am_aload_n dL_law_703 rfl rfl hv h
theorem sL_law_704 {a0 a1 a2 a3 a4 a5 a6 : Value} (hv : am_rf a0 = true) (h : am_R E d mL_law k n 705 [a0, a1, a2, a3, a4, a5, a6] (a0 :: st) S iv Q) : am_R E d mL_law k n 704 [a0, a1, a2, a3, a4, a5, a6] st S iv Q := am_aload_n dL_law_704 rfl rfl hv h
theorem sL_law_705 {a0 a1 a2 a3 a5 a6 : Value} {x : Int32} (h : am_R E d mL_law k n 707 [a0, a1, a2, a3, .int x, a5, a6] (.int x :: st) S iv Q) : am_R E d mL_law k n 705 [a0, a1, a2, a3, .int x, a5, a6] st S iv Q := am_iload dL_law_705 rfl h
theorem sL_law_707 {a0 a1 a2 a3 a4 a5 a6 : Value} (h : am_R E d mL_law k n 708 [a0, a1, a2, a3, a4, a5, a6] (.int 1 :: st) S iv Q) : am_R E d mL_law k n 707 [a0, a1, a2, a3, a4, a5, a6] st S iv Q := am_iconst dL_law_707 (by decide) h
theorem sL_law_708 {ls : List Value} {x y : Int32} (h : am_R E d mL_law k n 709 ls (.int (x + y) :: st) S iv Q) : am_R E d mL_law k n 708 ls (.int y :: .int x :: st) S iv Q := am_iadd dL_law_708 h
theorem sL_law_709 {ls : List Value} {i : Int32} (hi : vp_in i (am_L E)) (h : am_R E d mL_law k n 710 ls (.int (am_xs E i.toNatClampNeg) :: st) S iv Q) : am_R E d mL_law k n 709 ls (.int i :: .null :: st) S iv Q := am_saload dL_law_709 hi h
theorem sL_law_710 {a0 a1 a2 a3 a4 a5 a6 : Value} (hv : am_rf a3 = true) (h : am_R E d mL_law k n 711 [a0, a1, a2, a3, a4, a5, a6] (a3 :: st) S iv Q) : am_R E d mL_law k n 710 [a0, a1, a2, a3, a4, a5, a6] st S iv Q := am_aload_n dL_law_710 rfl rfl hv h
theorem sL_law_711 {ls : List Value} {x1 x2 x3 : Value} (hst : (st.map fun v => v.category).sum ≤ 8) (hM : am_M E d mL_opens 0 0 [x1, x2, x3] S iv (am_K3 E (d + 1) mL_law k n 711 ls st Q)) : am_R E (d + 1) mL_law k n 711 ls (x3 :: x2 :: x1 :: st) S iv Q := am_cSH (M' := mL_opens) (as := [x1, x2, x3]) dL_law_711 (by decide) wq_1330 wq_1331 wq_1230 wq_1328 hy_L_opens (by decide) hst (by omega) (by omega) hM
theorem sL_law_711_k {ls : List Value} {x1 x2 x3 : Value} {k' n' : Nat} (hst : (st.map fun v => v.category).sum ≤ 8) (hM : am_M E d mL_opens k' n' [x1, x2, x3] S iv (am_K3 E (d + 1) mL_law k n 711 ls st Q)) : am_R E (d + 1) mL_law (k' + k) (n' + n) 711 ls (x3 :: x2 :: x1 :: st) S iv Q := am_cSH (M' := mL_opens) (as := [x1, x2, x3]) dL_law_711 (by decide) wq_1330 wq_1331 wq_1230 wq_1328 hy_L_opens (by decide) hst (by omega) (by omega) hM
theorem sL_law_714 {a0 a1 a2 a3 a4 a5 a6 : Value} {x : Int32} (h : am_R E d mL_law k n 716 [a0, a1, a2, a3, a4, .int x, a6] st S iv Q) : am_R E d mL_law k n 714 [a0, a1, a2, a3, a4, a5, a6] (.int x :: st) S iv Q := am_istore dL_law_714 (by decide) h
theorem sL_law_716 {a0 a1 a2 a3 a4 a5 a6 : Value} (hv : am_rf a2 = true) (h : am_R E d mL_law k n 717 [a0, a1, a2, a3, a4, a5, a6] (a2 :: st) S iv Q) : am_R E d mL_law k n 716 [a0, a1, a2, a3, a4, a5, a6] st S iv Q := am_aload_n dL_law_716 rfl rfl hv h
theorem sL_law_717 {a0 a1 a2 a3 a4 a5 a6 : Value} (hv : am_rf a0 = true) (h : am_R E d mL_law k n 718 [a0, a1, a2, a3, a4, a5, a6] (a0 :: st) S iv Q) : am_R E d mL_law k n 717 [a0, a1, a2, a3, a4, a5, a6] st S iv Q := am_aload_n dL_law_717 rfl rfl hv h
theorem sL_law_718 {a0 a1 a2 a3 a5 a6 : Value} {x : Int32} (h : am_R E d mL_law k n 720 [a0, a1, a2, a3, .int x, a5, a6] (.int x :: st) S iv Q) : am_R E d mL_law k n 718 [a0, a1, a2, a3, .int x, a5, a6] st S iv Q := am_iload dL_law_718 rfl h
theorem sL_law_720 {a0 a1 a2 a3 a4 a5 a6 : Value} (h : am_R E d mL_law k n 721 [a0, a1, a2, a3, a4, a5, a6] (.int 1 :: st) S iv Q) : am_R E d mL_law k n 720 [a0, a1, a2, a3, a4, a5, a6] st S iv Q := am_iconst dL_law_720 (by decide) h
theorem sL_law_721 {ls : List Value} {x y : Int32} (h : am_R E d mL_law k n 722 ls (.int (x + y) :: st) S iv Q) : am_R E d mL_law k n 721 ls (.int y :: .int x :: st) S iv Q := am_iadd dL_law_721 h
theorem sL_law_722 {ls : List Value} {i : Int32} (hi : vp_in i (am_L E)) (h : am_R E d mL_law k n 723 ls (.int (am_xs E i.toNatClampNeg) :: st) S iv Q) : am_R E d mL_law k n 722 ls (.int i :: .null :: st) S iv Q := am_saload dL_law_722 hi h
theorem sL_law_723 {ls : List Value} {x1 : Value} {a : Nat} (ha : S.1 a = some (.inl 10)) (hst : (st.map fun v => v.category).sum ≤ 8) (hM : am_M E d mX10_opens 0 0 [.ref a, x1] S iv (am_K3 E (d + 1) mL_law k n 723 ls st Q)) : am_R E (d + 1) mL_law k n 723 ls (x1 :: .ref a :: st) S iv Q := am_cV (ci := 10) (M' := mX10_opens) (as := [x1]) dL_law_723 rfl rfl rfl wq_1334 wq_1335 wq_1336 wq_808 wq_1332 hy_X10_opens (by decide) ha hst (by omega) (by omega) hM
theorem sL_law_723_k {ls : List Value} {x1 : Value} {k' n' : Nat} {a : Nat} (ha : S.1 a = some (.inl 10)) (hst : (st.map fun v => v.category).sum ≤ 8) (hM : am_M E d mX10_opens k' n' [.ref a, x1] S iv (am_K3 E (d + 1) mL_law k n 723 ls st Q)) : am_R E (d + 1) mL_law (k' + k) (n' + n) 723 ls (x1 :: .ref a :: st) S iv Q := am_cV (ci := 10) (M' := mX10_opens) (as := [x1]) dL_law_723 rfl rfl rfl wq_1334 wq_1335 wq_1336 wq_808 wq_1332 hy_X10_opens (by decide) ha hst (by omega) (by omega) hM
theorem sL_law_726 {a0 a1 a2 a3 a4 a5 a6 : Value} {x : Int32} (h : am_R E d mL_law k n 728 [a0, a1, a2, a3, a4, a5, .int x] st S iv Q) : am_R E d mL_law k n 726 [a0, a1, a2, a3, a4, a5, a6] (.int x :: st) S iv Q := am_istore dL_law_726 (by decide) h
theorem sL_law_728 {a0 a1 a2 a3 a4 a5 a6 : Value} (hv : am_rf a2 = true) (h : am_R E d mL_law k n 729 [a0, a1, a2, a3, a4, a5, a6] (a2 :: st) S iv Q) : am_R E d mL_law k n 728 [a0, a1, a2, a3, a4, a5, a6] st S iv Q := am_aload_n dL_law_728 rfl rfl hv h
theorem sL_law_729 {ls : List Value} {a : Nat} (ha : S.1 a = some (.inl 10)) (hst : (st.map fun v => v.category).sum ≤ 8) (hM : am_M E d mX10_thrown 0 0 [.ref a] S iv (am_K3 E (d + 1) mL_law k n 729 ls st Q)) : am_R E (d + 1) mL_law k n 729 ls (.ref a :: st) S iv Q := am_cV (ci := 10) (M' := mX10_thrown) (as := []) dL_law_729 rfl rfl rfl wq_1241 wq_1242 wq_1243 wq_808 wq_1239 hy_X10_thrown (by decide) ha hst (by omega) (by omega) hM
theorem sL_law_729_k {ls : List Value} {k' n' : Nat} {a : Nat} (ha : S.1 a = some (.inl 10)) (hst : (st.map fun v => v.category).sum ≤ 8) (hM : am_M E d mX10_thrown k' n' [.ref a] S iv (am_K3 E (d + 1) mL_law k n 729 ls st Q)) : am_R E (d + 1) mL_law (k' + k) (n' + n) 729 ls (.ref a :: st) S iv Q := am_cV (ci := 10) (M' := mX10_thrown) (as := []) dL_law_729 rfl rfl rfl wq_1241 wq_1242 wq_1243 wq_808 wq_1239 hy_X10_thrown (by decide) ha hst (by omega) (by omega) hM
theorem sL_law_732 {a0 a1 a2 a3 a4 a6 : Value} {x : Int32} (h : am_R E d mL_law k n 734 [a0, a1, a2, a3, a4, .int x, a6] (.int x :: st) S iv Q) : am_R E d mL_law k n 732 [a0, a1, a2, a3, a4, .int x, a6] st S iv Q := am_iload dL_law_732 rfl h
theorem sL_law_734 {ls : List Value} {x y : Int32} (kt : x = y → am_R E d mL_law k n 739 ls st S iv Q) (kf : ¬ x = y → am_R E d mL_law k n 737 ls st S iv Q) : am_R E d mL_law k n 734 ls (.int y :: .int x :: st) S iv Q := am_icmp_eq dL_law_734 (by decide) kt kf
theorem sL_law_737 {a0 a1 a2 a3 a4 a5 a6 : Value} (h : am_R E d mL_law k n 738 [a0, a1, a2, a3, a4, a5, a6] (.int 0 :: st) S iv Q) : am_R E d mL_law k n 737 [a0, a1, a2, a3, a4, a5, a6] st S iv Q := am_iconst dL_law_737 (by decide) h
theorem sL_law_738 {ls : List Value} {x : Int32} (hn : narrow .boolean (.int x) = .int x) (h : Q (.inl (some (.int x))) S iv) : am_R E d mL_law k n 738 ls [.int x] S iv Q := am_zreturn dL_law_738 rfl hn h
theorem sL_law_739 {a0 a1 a2 a3 a4 a6 : Value} {x : Int32} (h : am_R E d mL_law k n 741 [a0, a1, a2, a3, a4, .int x, a6] (.int x :: st) S iv Q) : am_R E d mL_law k n 739 [a0, a1, a2, a3, a4, .int x, a6] st S iv Q := am_iload dL_law_739 rfl h
theorem sL_law_741 {ls : List Value} {x : Int32} (kt : ¬ x = 0 → am_R E d mL_law k n 756 ls st S iv Q) (kf : x = 0 → am_R E d mL_law k n 744 ls st S iv Q) : am_R E d mL_law k n 741 ls (.int x :: st) S iv Q := am_if_ne dL_law_741 (by decide) kt kf
theorem sL_law_744 {a0 a1 a2 a3 a4 a5 a6 : Value} (hv : am_rf a3 = true) (h : am_R E d mL_law k n 745 [a0, a1, a2, a3, a4, a5, a6] (a3 :: st) S iv Q) : am_R E d mL_law k n 744 [a0, a1, a2, a3, a4, a5, a6] st S iv Q := am_aload_n dL_law_744 rfl rfl hv h
theorem sL_law_745 {a0 a1 a2 a3 a4 a5 a6 : Value} (h : am_R E d mL_law k n 746 [a0, a1, a2, a3, a4, a5, a6] (.int 0 :: st) S iv Q) : am_R E d mL_law k n 745 [a0, a1, a2, a3, a4, a5, a6] st S iv Q := am_iconst dL_law_745 (by decide) h
theorem sL_law_746 {ls : List Value} {a m : Nat} {i : Int32} (ha : S.1 a = some (.inr (.long, m))) (hi : vp_in i m) (h : am_R E d mL_law k n 747 ls (.long (S.2.2.1 a i.toNatClampNeg) :: st) S iv Q) : am_R E d mL_law k n 746 ls (.int i :: .ref a :: st) S iv Q := am_laload dL_law_746 ha hi h
theorem sL_law_747 {a0 a1 a2 a3 a4 a5 : Value} {x : Int32} (h : am_R E d mL_law k n 749 [a0, a1, a2, a3, a4, a5, .int x] (.int x :: st) S iv Q) : am_R E d mL_law k n 747 [a0, a1, a2, a3, a4, a5, .int x] st S iv Q := am_iload dL_law_747 rfl h
theorem sL_law_749 {ls : List Value} {x : Int32} (h : am_R E d mL_law k n 750 ls (.long x.toInt64 :: st) S iv Q) : am_R E d mL_law k n 749 ls (.int x :: st) S iv Q := am_i2l dL_law_749 h
theorem sL_law_750 {ls : List Value} {x y : Int64} (h : am_R E d mL_law k n 751 ls (.int (lg_cmp x y) :: st) S iv Q) : am_R E d mL_law k n 750 ls (.long y :: .long x :: st) S iv Q := am_lcmp dL_law_750 h
theorem sL_law_751 {ls : List Value} {x : Int32} (kt : x = 0 → am_R E d mL_law k n 756 ls st S iv Q) (kf : ¬ x = 0 → am_R E d mL_law k n 754 ls st S iv Q) : am_R E d mL_law k n 751 ls (.int x :: st) S iv Q := am_if_eq dL_law_751 (by decide) kt kf
theorem sL_law_754 {a0 a1 a2 a3 a4 a5 a6 : Value} (h : am_R E d mL_law k n 755 [a0, a1, a2, a3, a4, a5, a6] (.int 0 :: st) S iv Q) : am_R E d mL_law k n 754 [a0, a1, a2, a3, a4, a5, a6] st S iv Q := am_iconst dL_law_754 (by decide) h
theorem sL_law_755 {ls : List Value} {x : Int32} (hn : narrow .boolean (.int x) = .int x) (h : Q (.inl (some (.int x))) S iv) : am_R E d mL_law k n 755 ls [.int x] S iv Q := am_zreturn dL_law_755 rfl hn h
theorem sL_law_756 {ls : List Value} (h : am_R E d mL_law k n 1249 ls st S iv Q) : am_R E d mL_law k n 756 ls st S iv Q := am_goto dL_law_756 (by decide) h
theorem sL_law_759 {a0 a1 a2 a3 a4 a5 a6 : Value} (hv : am_rf a1 = true) (h : am_R E d mL_law k n 760 [a0, a1, a2, a3, a4, a5, a6] (a1 :: st) S iv Q) : am_R E d mL_law k n 759 [a0, a1, a2, a3, a4, a5, a6] st S iv Q := am_aload_n dL_law_759 rfl rfl hv h
theorem sL_law_760 {a0 a1 a2 a3 a4 a5 a6 : Value} (hv : am_rf a0 = true) (h : am_R E d mL_law k n 761 [a0, a1, a2, a3, a4, a5, a6] (a0 :: st) S iv Q) : am_R E d mL_law k n 760 [a0, a1, a2, a3, a4, a5, a6] st S iv Q := am_aload_n dL_law_760 rfl rfl hv h
theorem sL_law_761 {a0 a1 a2 a3 a5 a6 : Value} {x : Int32} (h : am_R E d mL_law k n 763 [a0, a1, a2, a3, .int x, a5, a6] (.int x :: st) S iv Q) : am_R E d mL_law k n 761 [a0, a1, a2, a3, .int x, a5, a6] st S iv Q := am_iload dL_law_761 rfl h
theorem sL_law_763 {a0 a1 a2 a3 a4 a5 a6 : Value} (h : am_R E d mL_law k n 764 [a0, a1, a2, a3, a4, a5, a6] (.int 1 :: st) S iv Q) : am_R E d mL_law k n 763 [a0, a1, a2, a3, a4, a5, a6] st S iv Q := am_iconst dL_law_763 (by decide) h
theorem sL_law_764 {ls : List Value} {x y : Int32} (h : am_R E d mL_law k n 765 ls (.int (x + y) :: st) S iv Q) : am_R E d mL_law k n 764 ls (.int y :: .int x :: st) S iv Q := am_iadd dL_law_764 h
theorem sL_law_765 {ls : List Value} {i : Int32} (hi : vp_in i (am_L E)) (h : am_R E d mL_law k n 766 ls (.int (am_xs E i.toNatClampNeg) :: st) S iv Q) : am_R E d mL_law k n 765 ls (.int i :: .null :: st) S iv Q := am_saload dL_law_765 hi h
theorem sL_law_766 {a0 a1 a2 a3 a4 a5 a6 : Value} (hv : am_rf a3 = true) (h : am_R E d mL_law k n 767 [a0, a1, a2, a3, a4, a5, a6] (a3 :: st) S iv Q) : am_R E d mL_law k n 766 [a0, a1, a2, a3, a4, a5, a6] st S iv Q := am_aload_n dL_law_766 rfl rfl hv h
theorem sL_law_767 {ls : List Value} {x1 x2 x3 : Value} (hst : (st.map fun v => v.category).sum ≤ 8) (hM : am_M E d mL_shuts 0 0 [x1, x2, x3] S iv (am_K3 E (d + 1) mL_law k n 767 ls st Q)) : am_R E (d + 1) mL_law k n 767 ls (x3 :: x2 :: x1 :: st) S iv Q := am_cSH (M' := mL_shuts) (as := [x1, x2, x3]) dL_law_767 (by decide) wq_1339 wq_1340 wq_1230 wq_1337 hy_L_shuts (by decide) hst (by omega) (by omega) hM
theorem sL_law_767_k {ls : List Value} {x1 x2 x3 : Value} {k' n' : Nat} (hst : (st.map fun v => v.category).sum ≤ 8) (hM : am_M E d mL_shuts k' n' [x1, x2, x3] S iv (am_K3 E (d + 1) mL_law k n 767 ls st Q)) : am_R E (d + 1) mL_law (k' + k) (n' + n) 767 ls (x3 :: x2 :: x1 :: st) S iv Q := am_cSH (M' := mL_shuts) (as := [x1, x2, x3]) dL_law_767 (by decide) wq_1339 wq_1340 wq_1230 wq_1337 hy_L_shuts (by decide) hst (by omega) (by omega) hM
theorem sL_law_770 {a0 a1 a2 a3 a4 a5 a6 : Value} {x : Int32} (h : am_R E d mL_law k n 772 [a0, a1, a2, a3, a4, .int x, a6] st S iv Q) : am_R E d mL_law k n 770 [a0, a1, a2, a3, a4, a5, a6] (.int x :: st) S iv Q := am_istore dL_law_770 (by decide) h
theorem sL_law_772 {a0 a1 a2 a3 a4 a5 a6 : Value} (hv : am_rf a2 = true) (h : am_R E d mL_law k n 773 [a0, a1, a2, a3, a4, a5, a6] (a2 :: st) S iv Q) : am_R E d mL_law k n 772 [a0, a1, a2, a3, a4, a5, a6] st S iv Q := am_aload_n dL_law_772 rfl rfl hv h
theorem sL_law_773 {a0 a1 a2 a3 a4 a5 a6 : Value} (hv : am_rf a0 = true) (h : am_R E d mL_law k n 774 [a0, a1, a2, a3, a4, a5, a6] (a0 :: st) S iv Q) : am_R E d mL_law k n 773 [a0, a1, a2, a3, a4, a5, a6] st S iv Q := am_aload_n dL_law_773 rfl rfl hv h
theorem sL_law_774 {a0 a1 a2 a3 a5 a6 : Value} {x : Int32} (h : am_R E d mL_law k n 776 [a0, a1, a2, a3, .int x, a5, a6] (.int x :: st) S iv Q) : am_R E d mL_law k n 774 [a0, a1, a2, a3, .int x, a5, a6] st S iv Q := am_iload dL_law_774 rfl h
theorem sL_law_776 {a0 a1 a2 a3 a4 a5 a6 : Value} (h : am_R E d mL_law k n 777 [a0, a1, a2, a3, a4, a5, a6] (.int 1 :: st) S iv Q) : am_R E d mL_law k n 776 [a0, a1, a2, a3, a4, a5, a6] st S iv Q := am_iconst dL_law_776 (by decide) h
theorem sL_law_777 {ls : List Value} {x y : Int32} (h : am_R E d mL_law k n 778 ls (.int (x + y) :: st) S iv Q) : am_R E d mL_law k n 777 ls (.int y :: .int x :: st) S iv Q := am_iadd dL_law_777 h
theorem sL_law_778 {ls : List Value} {i : Int32} (hi : vp_in i (am_L E)) (h : am_R E d mL_law k n 779 ls (.int (am_xs E i.toNatClampNeg) :: st) S iv Q) : am_R E d mL_law k n 778 ls (.int i :: .null :: st) S iv Q := am_saload dL_law_778 hi h
theorem sL_law_779 {ls : List Value} {x1 : Value} {a : Nat} (ha : S.1 a = some (.inl 10)) (hst : (st.map fun v => v.category).sum ≤ 8) (hM : am_M E d mX10_shuts 0 0 [.ref a, x1] S iv (am_K3 E (d + 1) mL_law k n 779 ls st Q)) : am_R E (d + 1) mL_law k n 779 ls (x1 :: .ref a :: st) S iv Q := am_cV (ci := 10) (M' := mX10_shuts) (as := [x1]) dL_law_779 rfl rfl rfl wq_1343 wq_1344 wq_1345 wq_808 wq_1341 hy_X10_shuts (by decide) ha hst (by omega) (by omega) hM
theorem sL_law_779_k {ls : List Value} {x1 : Value} {k' n' : Nat} {a : Nat} (ha : S.1 a = some (.inl 10)) (hst : (st.map fun v => v.category).sum ≤ 8) (hM : am_M E d mX10_shuts k' n' [.ref a, x1] S iv (am_K3 E (d + 1) mL_law k n 779 ls st Q)) : am_R E (d + 1) mL_law (k' + k) (n' + n) 779 ls (x1 :: .ref a :: st) S iv Q := am_cV (ci := 10) (M' := mX10_shuts) (as := [x1]) dL_law_779 rfl rfl rfl wq_1343 wq_1344 wq_1345 wq_808 wq_1341 hy_X10_shuts (by decide) ha hst (by omega) (by omega) hM
theorem sL_law_782 {a0 a1 a2 a3 a4 a5 a6 : Value} {x : Int32} (h : am_R E d mL_law k n 784 [a0, a1, a2, a3, a4, a5, .int x] st S iv Q) : am_R E d mL_law k n 782 [a0, a1, a2, a3, a4, a5, a6] (.int x :: st) S iv Q := am_istore dL_law_782 (by decide) h
theorem sL_law_784 {a0 a1 a2 a3 a4 a5 a6 : Value} (hv : am_rf a2 = true) (h : am_R E d mL_law k n 785 [a0, a1, a2, a3, a4, a5, a6] (a2 :: st) S iv Q) : am_R E d mL_law k n 784 [a0, a1, a2, a3, a4, a5, a6] st S iv Q := am_aload_n dL_law_784 rfl rfl hv h
theorem sL_law_785 {ls : List Value} {a : Nat} (ha : S.1 a = some (.inl 10)) (hst : (st.map fun v => v.category).sum ≤ 8) (hM : am_M E d mX10_thrown 0 0 [.ref a] S iv (am_K3 E (d + 1) mL_law k n 785 ls st Q)) : am_R E (d + 1) mL_law k n 785 ls (.ref a :: st) S iv Q := am_cV (ci := 10) (M' := mX10_thrown) (as := []) dL_law_785 rfl rfl rfl wq_1241 wq_1242 wq_1243 wq_808 wq_1239 hy_X10_thrown (by decide) ha hst (by omega) (by omega) hM
theorem sL_law_785_k {ls : List Value} {k' n' : Nat} {a : Nat} (ha : S.1 a = some (.inl 10)) (hst : (st.map fun v => v.category).sum ≤ 8) (hM : am_M E d mX10_thrown k' n' [.ref a] S iv (am_K3 E (d + 1) mL_law k n 785 ls st Q)) : am_R E (d + 1) mL_law (k' + k) (n' + n) 785 ls (.ref a :: st) S iv Q := am_cV (ci := 10) (M' := mX10_thrown) (as := []) dL_law_785 rfl rfl rfl wq_1241 wq_1242 wq_1243 wq_808 wq_1239 hy_X10_thrown (by decide) ha hst (by omega) (by omega) hM
theorem sL_law_788 {a0 a1 a2 a3 a4 a6 : Value} {x : Int32} (h : am_R E d mL_law k n 790 [a0, a1, a2, a3, a4, .int x, a6] (.int x :: st) S iv Q) : am_R E d mL_law k n 788 [a0, a1, a2, a3, a4, .int x, a6] st S iv Q := am_iload dL_law_788 rfl h
theorem sL_law_790 {ls : List Value} {x y : Int32} (kt : x = y → am_R E d mL_law k n 795 ls st S iv Q) (kf : ¬ x = y → am_R E d mL_law k n 793 ls st S iv Q) : am_R E d mL_law k n 790 ls (.int y :: .int x :: st) S iv Q := am_icmp_eq dL_law_790 (by decide) kt kf
theorem sL_law_793 {a0 a1 a2 a3 a4 a5 a6 : Value} (h : am_R E d mL_law k n 794 [a0, a1, a2, a3, a4, a5, a6] (.int 0 :: st) S iv Q) : am_R E d mL_law k n 793 [a0, a1, a2, a3, a4, a5, a6] st S iv Q := am_iconst dL_law_793 (by decide) h
theorem sL_law_794 {ls : List Value} {x : Int32} (hn : narrow .boolean (.int x) = .int x) (h : Q (.inl (some (.int x))) S iv) : am_R E d mL_law k n 794 ls [.int x] S iv Q := am_zreturn dL_law_794 rfl hn h
theorem sL_law_795 {a0 a1 a2 a3 a4 a6 : Value} {x : Int32} (h : am_R E d mL_law k n 797 [a0, a1, a2, a3, a4, .int x, a6] (.int x :: st) S iv Q) : am_R E d mL_law k n 795 [a0, a1, a2, a3, a4, .int x, a6] st S iv Q := am_iload dL_law_795 rfl h
theorem sL_law_797 {ls : List Value} {x : Int32} (kt : ¬ x = 0 → am_R E d mL_law k n 812 ls st S iv Q) (kf : x = 0 → am_R E d mL_law k n 800 ls st S iv Q) : am_R E d mL_law k n 797 ls (.int x :: st) S iv Q := am_if_ne dL_law_797 (by decide) kt kf
theorem sL_law_800 {a0 a1 a2 a3 a4 a5 a6 : Value} (hv : am_rf a3 = true) (h : am_R E d mL_law k n 801 [a0, a1, a2, a3, a4, a5, a6] (a3 :: st) S iv Q) : am_R E d mL_law k n 800 [a0, a1, a2, a3, a4, a5, a6] st S iv Q := am_aload_n dL_law_800 rfl rfl hv h
theorem sL_law_801 {a0 a1 a2 a3 a4 a5 a6 : Value} (h : am_R E d mL_law k n 802 [a0, a1, a2, a3, a4, a5, a6] (.int 0 :: st) S iv Q) : am_R E d mL_law k n 801 [a0, a1, a2, a3, a4, a5, a6] st S iv Q := am_iconst dL_law_801 (by decide) h
theorem sL_law_802 {ls : List Value} {a m : Nat} {i : Int32} (ha : S.1 a = some (.inr (.long, m))) (hi : vp_in i m) (h : am_R E d mL_law k n 803 ls (.long (S.2.2.1 a i.toNatClampNeg) :: st) S iv Q) : am_R E d mL_law k n 802 ls (.int i :: .ref a :: st) S iv Q := am_laload dL_law_802 ha hi h
theorem sL_law_803 {a0 a1 a2 a3 a4 a5 : Value} {x : Int32} (h : am_R E d mL_law k n 805 [a0, a1, a2, a3, a4, a5, .int x] (.int x :: st) S iv Q) : am_R E d mL_law k n 803 [a0, a1, a2, a3, a4, a5, .int x] st S iv Q := am_iload dL_law_803 rfl h
theorem sL_law_805 {ls : List Value} {x : Int32} (h : am_R E d mL_law k n 806 ls (.long x.toInt64 :: st) S iv Q) : am_R E d mL_law k n 805 ls (.int x :: st) S iv Q := am_i2l dL_law_805 h
theorem sL_law_806 {ls : List Value} {x y : Int64} (h : am_R E d mL_law k n 807 ls (.int (lg_cmp x y) :: st) S iv Q) : am_R E d mL_law k n 806 ls (.long y :: .long x :: st) S iv Q := am_lcmp dL_law_806 h
theorem sL_law_807 {ls : List Value} {x : Int32} (kt : x = 0 → am_R E d mL_law k n 812 ls st S iv Q) (kf : ¬ x = 0 → am_R E d mL_law k n 810 ls st S iv Q) : am_R E d mL_law k n 807 ls (.int x :: st) S iv Q := am_if_eq dL_law_807 (by decide) kt kf
theorem sL_law_810 {a0 a1 a2 a3 a4 a5 a6 : Value} (h : am_R E d mL_law k n 811 [a0, a1, a2, a3, a4, a5, a6] (.int 0 :: st) S iv Q) : am_R E d mL_law k n 810 [a0, a1, a2, a3, a4, a5, a6] st S iv Q := am_iconst dL_law_810 (by decide) h
theorem sL_law_811 {ls : List Value} {x : Int32} (hn : narrow .boolean (.int x) = .int x) (h : Q (.inl (some (.int x))) S iv) : am_R E d mL_law k n 811 ls [.int x] S iv Q := am_zreturn dL_law_811 rfl hn h
theorem sL_law_812 {ls : List Value} (h : am_R E d mL_law k n 1249 ls st S iv Q) : am_R E d mL_law k n 812 ls st S iv Q := am_goto dL_law_812 (by decide) h
theorem sL_law_815 {a0 a1 a2 a3 a4 a5 a6 : Value} (hv : am_rf a1 = true) (h : am_R E d mL_law k n 816 [a0, a1, a2, a3, a4, a5, a6] (a1 :: st) S iv Q) : am_R E d mL_law k n 815 [a0, a1, a2, a3, a4, a5, a6] st S iv Q := am_aload_n dL_law_815 rfl rfl hv h
theorem sL_law_816 {ls : List Value} {a : Nat} (ha : S.1 a = some (.inl 9)) (hst : (st.map fun v => v.category).sum ≤ 8) (hM : am_M E d mX9_bread 0 0 [.ref a] S iv (am_K3 E (d + 1) mL_law k n 816 ls st Q)) : am_R E (d + 1) mL_law k n 816 ls (.ref a :: st) S iv Q := am_cV (ci := 9) (M' := mX9_bread) (as := []) dL_law_816 rfl rfl rfl wq_1348 wq_1349 wq_1350 wq_581 wq_1346 hy_X9_bread (by decide) ha hst (by omega) (by omega) hM
theorem sL_law_816_k {ls : List Value} {k' n' : Nat} {a : Nat} (ha : S.1 a = some (.inl 9)) (hst : (st.map fun v => v.category).sum ≤ 8) (hM : am_M E d mX9_bread k' n' [.ref a] S iv (am_K3 E (d + 1) mL_law k n 816 ls st Q)) : am_R E (d + 1) mL_law (k' + k) (n' + n) 816 ls (.ref a :: st) S iv Q := am_cV (ci := 9) (M' := mX9_bread) (as := []) dL_law_816 rfl rfl rfl wq_1348 wq_1349 wq_1350 wq_581 wq_1346 hy_X9_bread (by decide) ha hst (by omega) (by omega) hM
theorem sL_law_819 {a0 a1 a2 a3 a4 a5 a6 : Value} (hv : am_rf a2 = true) (h : am_R E d mL_law k n 820 [a0, a1, a2, a3, a4, a5, a6] (a2 :: st) S iv Q) : am_R E d mL_law k n 819 [a0, a1, a2, a3, a4, a5, a6] st S iv Q := am_aload_n dL_law_819 rfl rfl hv h
theorem sL_law_820 {ls : List Value} {a : Nat} (ha : S.1 a = some (.inl 10)) (hst : (st.map fun v => v.category).sum ≤ 8) (hM : am_M E d mX10_bread 0 0 [.ref a] S iv (am_K3 E (d + 1) mL_law k n 820 ls st Q)) : am_R E (d + 1) mL_law k n 820 ls (.ref a :: st) S iv Q := am_cV (ci := 10) (M' := mX10_bread) (as := []) dL_law_820 rfl rfl rfl wq_1353 wq_1354 wq_1355 wq_808 wq_1351 hy_X10_bread (by decide) ha hst (by omega) (by omega) hM
theorem sL_law_820_k {ls : List Value} {k' n' : Nat} {a : Nat} (ha : S.1 a = some (.inl 10)) (hst : (st.map fun v => v.category).sum ≤ 8) (hM : am_M E d mX10_bread k' n' [.ref a] S iv (am_K3 E (d + 1) mL_law k n 820 ls st Q)) : am_R E (d + 1) mL_law (k' + k) (n' + n) 820 ls (.ref a :: st) S iv Q := am_cV (ci := 10) (M' := mX10_bread) (as := []) dL_law_820 rfl rfl rfl wq_1353 wq_1354 wq_1355 wq_808 wq_1351 hy_X10_bread (by decide) ha hst (by omega) (by omega) hM
theorem sL_law_823 {ls : List Value} {x y : Int32} (kt : x = y → am_R E d mL_law k n 1249 ls st S iv Q) (kf : ¬ x = y → am_R E d mL_law k n 826 ls st S iv Q) : am_R E d mL_law k n 823 ls (.int y :: .int x :: st) S iv Q := am_icmp_eq dL_law_823 (by decide) kt kf
theorem sL_law_826 {a0 a1 a2 a3 a4 a5 a6 : Value} (h : am_R E d mL_law k n 827 [a0, a1, a2, a3, a4, a5, a6] (.int 0 :: st) S iv Q) : am_R E d mL_law k n 826 [a0, a1, a2, a3, a4, a5, a6] st S iv Q := am_iconst dL_law_826 (by decide) h
theorem sL_law_827 {ls : List Value} {x : Int32} (hn : narrow .boolean (.int x) = .int x) (h : Q (.inl (some (.int x))) S iv) : am_R E d mL_law k n 827 ls [.int x] S iv Q := am_zreturn dL_law_827 rfl hn h
theorem sL_law_828 {a0 a1 a2 a3 a4 a5 a6 : Value} (hv : am_rf a1 = true) (h : am_R E d mL_law k n 829 [a0, a1, a2, a3, a4, a5, a6] (a1 :: st) S iv Q) : am_R E d mL_law k n 828 [a0, a1, a2, a3, a4, a5, a6] st S iv Q := am_aload_n dL_law_828 rfl rfl hv h
theorem sL_law_829 {a0 a1 a2 a3 a4 a5 a6 : Value} (hv : am_rf a0 = true) (h : am_R E d mL_law k n 830 [a0, a1, a2, a3, a4, a5, a6] (a0 :: st) S iv Q) : am_R E d mL_law k n 829 [a0, a1, a2, a3, a4, a5, a6] st S iv Q := am_aload_n dL_law_829 rfl rfl hv h
theorem sL_law_830 {a0 a1 a2 a3 a5 a6 : Value} {x : Int32} (h : am_R E d mL_law k n 832 [a0, a1, a2, a3, .int x, a5, a6] (.int x :: st) S iv Q) : am_R E d mL_law k n 830 [a0, a1, a2, a3, .int x, a5, a6] st S iv Q := am_iload dL_law_830 rfl h
theorem sL_law_832 {a0 a1 a2 a3 a4 a5 a6 : Value} (h : am_R E d mL_law k n 833 [a0, a1, a2, a3, a4, a5, a6] (.int 1 :: st) S iv Q) : am_R E d mL_law k n 832 [a0, a1, a2, a3, a4, a5, a6] st S iv Q := am_iconst dL_law_832 (by decide) h
theorem sL_law_833 {ls : List Value} {x y : Int32} (h : am_R E d mL_law k n 834 ls (.int (x + y) :: st) S iv Q) : am_R E d mL_law k n 833 ls (.int y :: .int x :: st) S iv Q := am_iadd dL_law_833 h
theorem sL_law_834 {ls : List Value} {i : Int32} (hi : vp_in i (am_L E)) (h : am_R E d mL_law k n 835 ls (.int (am_xs E i.toNatClampNeg) :: st) S iv Q) : am_R E d mL_law k n 834 ls (.int i :: .null :: st) S iv Q := am_saload dL_law_834 hi h
theorem sL_law_835 {a0 a1 a2 a3 a4 a5 a6 : Value} (hv : am_rf a3 = true) (h : am_R E d mL_law k n 836 [a0, a1, a2, a3, a4, a5, a6] (a3 :: st) S iv Q) : am_R E d mL_law k n 835 [a0, a1, a2, a3, a4, a5, a6] st S iv Q := am_aload_n dL_law_835 rfl rfl hv h
theorem sL_law_836 {ls : List Value} {x1 x2 x3 : Value} (hst : (st.map fun v => v.category).sum ≤ 8) (hM : am_M E d mL_row 0 0 [x1, x2, x3] S iv (am_K3 E (d + 1) mL_law k n 836 ls st Q)) : am_R E (d + 1) mL_law k n 836 ls (x3 :: x2 :: x1 :: st) S iv Q := am_cSH (M' := mL_row) (as := [x1, x2, x3]) dL_law_836 (by decide) wq_1358 wq_1359 wq_1230 wq_1356 hy_L_row (by decide) hst (by omega) (by omega) hM
theorem sL_law_836_k {ls : List Value} {x1 x2 x3 : Value} {k' n' : Nat} (hst : (st.map fun v => v.category).sum ≤ 8) (hM : am_M E d mL_row k' n' [x1, x2, x3] S iv (am_K3 E (d + 1) mL_law k n 836 ls st Q)) : am_R E (d + 1) mL_law (k' + k) (n' + n) 836 ls (x3 :: x2 :: x1 :: st) S iv Q := am_cSH (M' := mL_row) (as := [x1, x2, x3]) dL_law_836 (by decide) wq_1358 wq_1359 wq_1230 wq_1356 hy_L_row (by decide) hst (by omega) (by omega) hM
theorem sL_law_839 {a0 a1 a2 a3 a4 a5 a6 : Value} {x : Int32} (h : am_R E d mL_law k n 841 [a0, a1, a2, a3, a4, .int x, a6] st S iv Q) : am_R E d mL_law k n 839 [a0, a1, a2, a3, a4, a5, a6] (.int x :: st) S iv Q := am_istore dL_law_839 (by decide) h
theorem sL_law_841 {a0 a1 a2 a3 a4 a5 a6 : Value} (hv : am_rf a2 = true) (h : am_R E d mL_law k n 842 [a0, a1, a2, a3, a4, a5, a6] (a2 :: st) S iv Q) : am_R E d mL_law k n 841 [a0, a1, a2, a3, a4, a5, a6] st S iv Q := am_aload_n dL_law_841 rfl rfl hv h
theorem sL_law_842 {a0 a1 a2 a3 a4 a5 a6 : Value} (hv : am_rf a0 = true) (h : am_R E d mL_law k n 843 [a0, a1, a2, a3, a4, a5, a6] (a0 :: st) S iv Q) : am_R E d mL_law k n 842 [a0, a1, a2, a3, a4, a5, a6] st S iv Q := am_aload_n dL_law_842 rfl rfl hv h
theorem sL_law_843 {a0 a1 a2 a3 a5 a6 : Value} {x : Int32} (h : am_R E d mL_law k n 845 [a0, a1, a2, a3, .int x, a5, a6] (.int x :: st) S iv Q) : am_R E d mL_law k n 843 [a0, a1, a2, a3, .int x, a5, a6] st S iv Q := am_iload dL_law_843 rfl h
theorem sL_law_845 {a0 a1 a2 a3 a4 a5 a6 : Value} (h : am_R E d mL_law k n 846 [a0, a1, a2, a3, a4, a5, a6] (.int 1 :: st) S iv Q) : am_R E d mL_law k n 845 [a0, a1, a2, a3, a4, a5, a6] st S iv Q := am_iconst dL_law_845 (by decide) h
theorem sL_law_846 {ls : List Value} {x y : Int32} (h : am_R E d mL_law k n 847 ls (.int (x + y) :: st) S iv Q) : am_R E d mL_law k n 846 ls (.int y :: .int x :: st) S iv Q := am_iadd dL_law_846 h
theorem sL_law_847 {ls : List Value} {i : Int32} (hi : vp_in i (am_L E)) (h : am_R E d mL_law k n 848 ls (.int (am_xs E i.toNatClampNeg) :: st) S iv Q) : am_R E d mL_law k n 847 ls (.int i :: .null :: st) S iv Q := am_saload dL_law_847 hi h
theorem sL_law_848 {ls : List Value} {x1 : Value} {a : Nat} (ha : S.1 a = some (.inl 10)) (hst : (st.map fun v => v.category).sum ≤ 8) (hM : am_M E d mX10_row 0 0 [.ref a, x1] S iv (am_K3 E (d + 1) mL_law k n 848 ls st Q)) : am_R E (d + 1) mL_law k n 848 ls (x1 :: .ref a :: st) S iv Q := am_cV (ci := 10) (M' := mX10_row) (as := [x1]) dL_law_848 rfl rfl rfl wq_1362 wq_1363 wq_1364 wq_808 wq_1360 hy_X10_row (by decide) ha hst (by omega) (by omega) hM
theorem sL_law_848_k {ls : List Value} {x1 : Value} {k' n' : Nat} {a : Nat} (ha : S.1 a = some (.inl 10)) (hst : (st.map fun v => v.category).sum ≤ 8) (hM : am_M E d mX10_row k' n' [.ref a, x1] S iv (am_K3 E (d + 1) mL_law k n 848 ls st Q)) : am_R E (d + 1) mL_law (k' + k) (n' + n) 848 ls (x1 :: .ref a :: st) S iv Q := am_cV (ci := 10) (M' := mX10_row) (as := [x1]) dL_law_848 rfl rfl rfl wq_1362 wq_1363 wq_1364 wq_808 wq_1360 hy_X10_row (by decide) ha hst (by omega) (by omega) hM
theorem sL_law_851 {a0 a1 a2 a3 a4 a5 a6 : Value} {x : Int32} (h : am_R E d mL_law k n 853 [a0, a1, a2, a3, a4, a5, .int x] st S iv Q) : am_R E d mL_law k n 851 [a0, a1, a2, a3, a4, a5, a6] (.int x :: st) S iv Q := am_istore dL_law_851 (by decide) h
theorem sL_law_853 {a0 a1 a2 a3 a4 a5 a6 : Value} (hv : am_rf a2 = true) (h : am_R E d mL_law k n 854 [a0, a1, a2, a3, a4, a5, a6] (a2 :: st) S iv Q) : am_R E d mL_law k n 853 [a0, a1, a2, a3, a4, a5, a6] st S iv Q := am_aload_n dL_law_853 rfl rfl hv h
theorem sL_law_854 {ls : List Value} {a : Nat} (ha : S.1 a = some (.inl 10)) (hst : (st.map fun v => v.category).sum ≤ 8) (hM : am_M E d mX10_thrown 0 0 [.ref a] S iv (am_K3 E (d + 1) mL_law k n 854 ls st Q)) : am_R E (d + 1) mL_law k n 854 ls (.ref a :: st) S iv Q := am_cV (ci := 10) (M' := mX10_thrown) (as := []) dL_law_854 rfl rfl rfl wq_1241 wq_1242 wq_1243 wq_808 wq_1239 hy_X10_thrown (by decide) ha hst (by omega) (by omega) hM
theorem sL_law_854_k {ls : List Value} {k' n' : Nat} {a : Nat} (ha : S.1 a = some (.inl 10)) (hst : (st.map fun v => v.category).sum ≤ 8) (hM : am_M E d mX10_thrown k' n' [.ref a] S iv (am_K3 E (d + 1) mL_law k n 854 ls st Q)) : am_R E (d + 1) mL_law (k' + k) (n' + n) 854 ls (.ref a :: st) S iv Q := am_cV (ci := 10) (M' := mX10_thrown) (as := []) dL_law_854 rfl rfl rfl wq_1241 wq_1242 wq_1243 wq_808 wq_1239 hy_X10_thrown (by decide) ha hst (by omega) (by omega) hM
theorem sL_law_857 {a0 a1 a2 a3 a4 a6 : Value} {x : Int32} (h : am_R E d mL_law k n 859 [a0, a1, a2, a3, a4, .int x, a6] (.int x :: st) S iv Q) : am_R E d mL_law k n 857 [a0, a1, a2, a3, a4, .int x, a6] st S iv Q := am_iload dL_law_857 rfl h
theorem sL_law_859 {ls : List Value} {x y : Int32} (kt : x = y → am_R E d mL_law k n 864 ls st S iv Q) (kf : ¬ x = y → am_R E d mL_law k n 862 ls st S iv Q) : am_R E d mL_law k n 859 ls (.int y :: .int x :: st) S iv Q := am_icmp_eq dL_law_859 (by decide) kt kf
theorem sL_law_862 {a0 a1 a2 a3 a4 a5 a6 : Value} (h : am_R E d mL_law k n 863 [a0, a1, a2, a3, a4, a5, a6] (.int 0 :: st) S iv Q) : am_R E d mL_law k n 862 [a0, a1, a2, a3, a4, a5, a6] st S iv Q := am_iconst dL_law_862 (by decide) h
theorem sL_law_863 {ls : List Value} {x : Int32} (hn : narrow .boolean (.int x) = .int x) (h : Q (.inl (some (.int x))) S iv) : am_R E d mL_law k n 863 ls [.int x] S iv Q := am_zreturn dL_law_863 rfl hn h
theorem sL_law_864 {a0 a1 a2 a3 a4 a6 : Value} {x : Int32} (h : am_R E d mL_law k n 866 [a0, a1, a2, a3, a4, .int x, a6] (.int x :: st) S iv Q) : am_R E d mL_law k n 864 [a0, a1, a2, a3, a4, .int x, a6] st S iv Q := am_iload dL_law_864 rfl h
theorem sL_law_866 {ls : List Value} {x : Int32} (kt : ¬ x = 0 → am_R E d mL_law k n 881 ls st S iv Q) (kf : x = 0 → am_R E d mL_law k n 869 ls st S iv Q) : am_R E d mL_law k n 866 ls (.int x :: st) S iv Q := am_if_ne dL_law_866 (by decide) kt kf
theorem sL_law_869 {a0 a1 a2 a3 a4 a5 a6 : Value} (hv : am_rf a3 = true) (h : am_R E d mL_law k n 870 [a0, a1, a2, a3, a4, a5, a6] (a3 :: st) S iv Q) : am_R E d mL_law k n 869 [a0, a1, a2, a3, a4, a5, a6] st S iv Q := am_aload_n dL_law_869 rfl rfl hv h
theorem sL_law_870 {a0 a1 a2 a3 a4 a5 a6 : Value} (h : am_R E d mL_law k n 871 [a0, a1, a2, a3, a4, a5, a6] (.int 0 :: st) S iv Q) : am_R E d mL_law k n 870 [a0, a1, a2, a3, a4, a5, a6] st S iv Q := am_iconst dL_law_870 (by decide) h
theorem sL_law_871 {ls : List Value} {a m : Nat} {i : Int32} (ha : S.1 a = some (.inr (.long, m))) (hi : vp_in i m) (h : am_R E d mL_law k n 872 ls (.long (S.2.2.1 a i.toNatClampNeg) :: st) S iv Q) : am_R E d mL_law k n 871 ls (.int i :: .ref a :: st) S iv Q := am_laload dL_law_871 ha hi h
theorem sL_law_872 {a0 a1 a2 a3 a4 a5 : Value} {x : Int32} (h : am_R E d mL_law k n 874 [a0, a1, a2, a3, a4, a5, .int x] (.int x :: st) S iv Q) : am_R E d mL_law k n 872 [a0, a1, a2, a3, a4, a5, .int x] st S iv Q := am_iload dL_law_872 rfl h
theorem sL_law_874 {ls : List Value} {x : Int32} (h : am_R E d mL_law k n 875 ls (.long x.toInt64 :: st) S iv Q) : am_R E d mL_law k n 874 ls (.int x :: st) S iv Q := am_i2l dL_law_874 h
theorem sL_law_875 {ls : List Value} {x y : Int64} (h : am_R E d mL_law k n 876 ls (.int (lg_cmp x y) :: st) S iv Q) : am_R E d mL_law k n 875 ls (.long y :: .long x :: st) S iv Q := am_lcmp dL_law_875 h
theorem sL_law_876 {ls : List Value} {x : Int32} (kt : x = 0 → am_R E d mL_law k n 881 ls st S iv Q) (kf : ¬ x = 0 → am_R E d mL_law k n 879 ls st S iv Q) : am_R E d mL_law k n 876 ls (.int x :: st) S iv Q := am_if_eq dL_law_876 (by decide) kt kf
theorem sL_law_879 {a0 a1 a2 a3 a4 a5 a6 : Value} (h : am_R E d mL_law k n 880 [a0, a1, a2, a3, a4, a5, a6] (.int 0 :: st) S iv Q) : am_R E d mL_law k n 879 [a0, a1, a2, a3, a4, a5, a6] st S iv Q := am_iconst dL_law_879 (by decide) h
theorem sL_law_880 {ls : List Value} {x : Int32} (hn : narrow .boolean (.int x) = .int x) (h : Q (.inl (some (.int x))) S iv) : am_R E d mL_law k n 880 ls [.int x] S iv Q := am_zreturn dL_law_880 rfl hn h
theorem sL_law_881 {ls : List Value} (h : am_R E d mL_law k n 1249 ls st S iv Q) : am_R E d mL_law k n 881 ls st S iv Q := am_goto dL_law_881 (by decide) h
theorem sL_law_884 {a0 a1 a2 a3 a4 a5 a6 : Value} (hv : am_rf a1 = true) (h : am_R E d mL_law k n 885 [a0, a1, a2, a3, a4, a5, a6] (a1 :: st) S iv Q) : am_R E d mL_law k n 884 [a0, a1, a2, a3, a4, a5, a6] st S iv Q := am_aload_n dL_law_884 rfl rfl hv h
theorem sL_law_885 {a0 a1 a2 a3 a4 a5 a6 : Value} (hv : am_rf a0 = true) (h : am_R E d mL_law k n 886 [a0, a1, a2, a3, a4, a5, a6] (a0 :: st) S iv Q) : am_R E d mL_law k n 885 [a0, a1, a2, a3, a4, a5, a6] st S iv Q := am_aload_n dL_law_885 rfl rfl hv h
theorem sL_law_886 {a0 a1 a2 a3 a5 a6 : Value} {x : Int32} (h : am_R E d mL_law k n 888 [a0, a1, a2, a3, .int x, a5, a6] (.int x :: st) S iv Q) : am_R E d mL_law k n 886 [a0, a1, a2, a3, .int x, a5, a6] st S iv Q := am_iload dL_law_886 rfl h
theorem sL_law_888 {a0 a1 a2 a3 a4 a5 a6 : Value} (h : am_R E d mL_law k n 889 [a0, a1, a2, a3, a4, a5, a6] (.int 1 :: st) S iv Q) : am_R E d mL_law k n 888 [a0, a1, a2, a3, a4, a5, a6] st S iv Q := am_iconst dL_law_888 (by decide) h
theorem sL_law_889 {ls : List Value} {x y : Int32} (h : am_R E d mL_law k n 890 ls (.int (x + y) :: st) S iv Q) : am_R E d mL_law k n 889 ls (.int y :: .int x :: st) S iv Q := am_iadd dL_law_889 h
theorem sL_law_890 {ls : List Value} {i : Int32} (hi : vp_in i (am_L E)) (h : am_R E d mL_law k n 891 ls (.int (am_xs E i.toNatClampNeg) :: st) S iv Q) : am_R E d mL_law k n 890 ls (.int i :: .null :: st) S iv Q := am_saload dL_law_890 hi h
theorem sL_law_891 {a0 a1 a2 a3 a4 a5 a6 : Value} (hv : am_rf a3 = true) (h : am_R E d mL_law k n 892 [a0, a1, a2, a3, a4, a5, a6] (a3 :: st) S iv Q) : am_R E d mL_law k n 891 [a0, a1, a2, a3, a4, a5, a6] st S iv Q := am_aload_n dL_law_891 rfl rfl hv h
theorem sL_law_892 {ls : List Value} {x1 x2 x3 : Value} (hst : (st.map fun v => v.category).sum ≤ 8) (hM : am_M E d mL_harm 0 0 [x1, x2, x3] S iv (am_K3 E (d + 1) mL_law k n 892 ls st Q)) : am_R E (d + 1) mL_law k n 892 ls (x3 :: x2 :: x1 :: st) S iv Q := am_cSH (M' := mL_harm) (as := [x1, x2, x3]) dL_law_892 (by decide) wq_1367 wq_1368 wq_1230 wq_1365 hy_L_harm (by decide) hst (by omega) (by omega) hM
theorem sL_law_892_k {ls : List Value} {x1 x2 x3 : Value} {k' n' : Nat} (hst : (st.map fun v => v.category).sum ≤ 8) (hM : am_M E d mL_harm k' n' [x1, x2, x3] S iv (am_K3 E (d + 1) mL_law k n 892 ls st Q)) : am_R E (d + 1) mL_law (k' + k) (n' + n) 892 ls (x3 :: x2 :: x1 :: st) S iv Q := am_cSH (M' := mL_harm) (as := [x1, x2, x3]) dL_law_892 (by decide) wq_1367 wq_1368 wq_1230 wq_1365 hy_L_harm (by decide) hst (by omega) (by omega) hM
theorem sL_law_895 {a0 a1 a2 a3 a4 a5 a6 : Value} {x : Int32} (h : am_R E d mL_law k n 897 [a0, a1, a2, a3, a4, .int x, a6] st S iv Q) : am_R E d mL_law k n 895 [a0, a1, a2, a3, a4, a5, a6] (.int x :: st) S iv Q := am_istore dL_law_895 (by decide) h
theorem sL_law_897 {a0 a1 a2 a3 a4 a5 a6 : Value} (hv : am_rf a2 = true) (h : am_R E d mL_law k n 898 [a0, a1, a2, a3, a4, a5, a6] (a2 :: st) S iv Q) : am_R E d mL_law k n 897 [a0, a1, a2, a3, a4, a5, a6] st S iv Q := am_aload_n dL_law_897 rfl rfl hv h
theorem sL_law_898 {a0 a1 a2 a3 a4 a5 a6 : Value} (hv : am_rf a0 = true) (h : am_R E d mL_law k n 899 [a0, a1, a2, a3, a4, a5, a6] (a0 :: st) S iv Q) : am_R E d mL_law k n 898 [a0, a1, a2, a3, a4, a5, a6] st S iv Q := am_aload_n dL_law_898 rfl rfl hv h
theorem sL_law_899 {a0 a1 a2 a3 a5 a6 : Value} {x : Int32} (h : am_R E d mL_law k n 901 [a0, a1, a2, a3, .int x, a5, a6] (.int x :: st) S iv Q) : am_R E d mL_law k n 899 [a0, a1, a2, a3, .int x, a5, a6] st S iv Q := am_iload dL_law_899 rfl h
theorem sL_law_901 {a0 a1 a2 a3 a4 a5 a6 : Value} (h : am_R E d mL_law k n 902 [a0, a1, a2, a3, a4, a5, a6] (.int 1 :: st) S iv Q) : am_R E d mL_law k n 901 [a0, a1, a2, a3, a4, a5, a6] st S iv Q := am_iconst dL_law_901 (by decide) h
theorem sL_law_902 {ls : List Value} {x y : Int32} (h : am_R E d mL_law k n 903 ls (.int (x + y) :: st) S iv Q) : am_R E d mL_law k n 902 ls (.int y :: .int x :: st) S iv Q := am_iadd dL_law_902 h
theorem sL_law_903 {ls : List Value} {i : Int32} (hi : vp_in i (am_L E)) (h : am_R E d mL_law k n 904 ls (.int (am_xs E i.toNatClampNeg) :: st) S iv Q) : am_R E d mL_law k n 903 ls (.int i :: .null :: st) S iv Q := am_saload dL_law_903 hi h
theorem sL_law_904 {ls : List Value} {x1 : Value} {a : Nat} (ha : S.1 a = some (.inl 10)) (hst : (st.map fun v => v.category).sum ≤ 8) (hM : am_M E d mX10_harm 0 0 [.ref a, x1] S iv (am_K3 E (d + 1) mL_law k n 904 ls st Q)) : am_R E (d + 1) mL_law k n 904 ls (x1 :: .ref a :: st) S iv Q := am_cV (ci := 10) (M' := mX10_harm) (as := [x1]) dL_law_904 rfl rfl rfl wq_1371 wq_1372 wq_1373 wq_808 wq_1369 hy_X10_harm (by decide) ha hst (by omega) (by omega) hM
theorem sL_law_904_k {ls : List Value} {x1 : Value} {k' n' : Nat} {a : Nat} (ha : S.1 a = some (.inl 10)) (hst : (st.map fun v => v.category).sum ≤ 8) (hM : am_M E d mX10_harm k' n' [.ref a, x1] S iv (am_K3 E (d + 1) mL_law k n 904 ls st Q)) : am_R E (d + 1) mL_law (k' + k) (n' + n) 904 ls (x1 :: .ref a :: st) S iv Q := am_cV (ci := 10) (M' := mX10_harm) (as := [x1]) dL_law_904 rfl rfl rfl wq_1371 wq_1372 wq_1373 wq_808 wq_1369 hy_X10_harm (by decide) ha hst (by omega) (by omega) hM
theorem sL_law_907 {a0 a1 a2 a3 a4 a5 a6 : Value} {x : Int32} (h : am_R E d mL_law k n 909 [a0, a1, a2, a3, a4, a5, .int x] st S iv Q) : am_R E d mL_law k n 907 [a0, a1, a2, a3, a4, a5, a6] (.int x :: st) S iv Q := am_istore dL_law_907 (by decide) h
theorem sL_law_909 {a0 a1 a2 a3 a4 a5 a6 : Value} (hv : am_rf a2 = true) (h : am_R E d mL_law k n 910 [a0, a1, a2, a3, a4, a5, a6] (a2 :: st) S iv Q) : am_R E d mL_law k n 909 [a0, a1, a2, a3, a4, a5, a6] st S iv Q := am_aload_n dL_law_909 rfl rfl hv h
theorem sL_law_910 {ls : List Value} {a : Nat} (ha : S.1 a = some (.inl 10)) (hst : (st.map fun v => v.category).sum ≤ 8) (hM : am_M E d mX10_thrown 0 0 [.ref a] S iv (am_K3 E (d + 1) mL_law k n 910 ls st Q)) : am_R E (d + 1) mL_law k n 910 ls (.ref a :: st) S iv Q := am_cV (ci := 10) (M' := mX10_thrown) (as := []) dL_law_910 rfl rfl rfl wq_1241 wq_1242 wq_1243 wq_808 wq_1239 hy_X10_thrown (by decide) ha hst (by omega) (by omega) hM
theorem sL_law_910_k {ls : List Value} {k' n' : Nat} {a : Nat} (ha : S.1 a = some (.inl 10)) (hst : (st.map fun v => v.category).sum ≤ 8) (hM : am_M E d mX10_thrown k' n' [.ref a] S iv (am_K3 E (d + 1) mL_law k n 910 ls st Q)) : am_R E (d + 1) mL_law (k' + k) (n' + n) 910 ls (.ref a :: st) S iv Q := am_cV (ci := 10) (M' := mX10_thrown) (as := []) dL_law_910 rfl rfl rfl wq_1241 wq_1242 wq_1243 wq_808 wq_1239 hy_X10_thrown (by decide) ha hst (by omega) (by omega) hM
theorem sL_law_913 {a0 a1 a2 a3 a4 a6 : Value} {x : Int32} (h : am_R E d mL_law k n 915 [a0, a1, a2, a3, a4, .int x, a6] (.int x :: st) S iv Q) : am_R E d mL_law k n 913 [a0, a1, a2, a3, a4, .int x, a6] st S iv Q := am_iload dL_law_913 rfl h
theorem sL_law_915 {ls : List Value} {x y : Int32} (kt : x = y → am_R E d mL_law k n 920 ls st S iv Q) (kf : ¬ x = y → am_R E d mL_law k n 918 ls st S iv Q) : am_R E d mL_law k n 915 ls (.int y :: .int x :: st) S iv Q := am_icmp_eq dL_law_915 (by decide) kt kf
theorem sL_law_918 {a0 a1 a2 a3 a4 a5 a6 : Value} (h : am_R E d mL_law k n 919 [a0, a1, a2, a3, a4, a5, a6] (.int 0 :: st) S iv Q) : am_R E d mL_law k n 918 [a0, a1, a2, a3, a4, a5, a6] st S iv Q := am_iconst dL_law_918 (by decide) h
theorem sL_law_919 {ls : List Value} {x : Int32} (hn : narrow .boolean (.int x) = .int x) (h : Q (.inl (some (.int x))) S iv) : am_R E d mL_law k n 919 ls [.int x] S iv Q := am_zreturn dL_law_919 rfl hn h
theorem sL_law_920 {a0 a1 a2 a3 a4 a6 : Value} {x : Int32} (h : am_R E d mL_law k n 922 [a0, a1, a2, a3, a4, .int x, a6] (.int x :: st) S iv Q) : am_R E d mL_law k n 920 [a0, a1, a2, a3, a4, .int x, a6] st S iv Q := am_iload dL_law_920 rfl h
theorem sL_law_922 {ls : List Value} {x : Int32} (kt : ¬ x = 0 → am_R E d mL_law k n 937 ls st S iv Q) (kf : x = 0 → am_R E d mL_law k n 925 ls st S iv Q) : am_R E d mL_law k n 922 ls (.int x :: st) S iv Q := am_if_ne dL_law_922 (by decide) kt kf
theorem sL_law_925 {a0 a1 a2 a3 a4 a5 a6 : Value} (hv : am_rf a3 = true) (h : am_R E d mL_law k n 926 [a0, a1, a2, a3, a4, a5, a6] (a3 :: st) S iv Q) : am_R E d mL_law k n 925 [a0, a1, a2, a3, a4, a5, a6] st S iv Q := am_aload_n dL_law_925 rfl rfl hv h
theorem sL_law_926 {a0 a1 a2 a3 a4 a5 a6 : Value} (h : am_R E d mL_law k n 927 [a0, a1, a2, a3, a4, a5, a6] (.int 0 :: st) S iv Q) : am_R E d mL_law k n 926 [a0, a1, a2, a3, a4, a5, a6] st S iv Q := am_iconst dL_law_926 (by decide) h
theorem sL_law_927 {ls : List Value} {a m : Nat} {i : Int32} (ha : S.1 a = some (.inr (.long, m))) (hi : vp_in i m) (h : am_R E d mL_law k n 928 ls (.long (S.2.2.1 a i.toNatClampNeg) :: st) S iv Q) : am_R E d mL_law k n 927 ls (.int i :: .ref a :: st) S iv Q := am_laload dL_law_927 ha hi h
theorem sL_law_928 {a0 a1 a2 a3 a4 a5 : Value} {x : Int32} (h : am_R E d mL_law k n 930 [a0, a1, a2, a3, a4, a5, .int x] (.int x :: st) S iv Q) : am_R E d mL_law k n 928 [a0, a1, a2, a3, a4, a5, .int x] st S iv Q := am_iload dL_law_928 rfl h
theorem sL_law_930 {ls : List Value} {x : Int32} (h : am_R E d mL_law k n 931 ls (.long x.toInt64 :: st) S iv Q) : am_R E d mL_law k n 930 ls (.int x :: st) S iv Q := am_i2l dL_law_930 h
theorem sL_law_931 {ls : List Value} {x y : Int64} (h : am_R E d mL_law k n 932 ls (.int (lg_cmp x y) :: st) S iv Q) : am_R E d mL_law k n 931 ls (.long y :: .long x :: st) S iv Q := am_lcmp dL_law_931 h
theorem sL_law_932 {ls : List Value} {x : Int32} (kt : x = 0 → am_R E d mL_law k n 937 ls st S iv Q) (kf : ¬ x = 0 → am_R E d mL_law k n 935 ls st S iv Q) : am_R E d mL_law k n 932 ls (.int x :: st) S iv Q := am_if_eq dL_law_932 (by decide) kt kf
theorem sL_law_935 {a0 a1 a2 a3 a4 a5 a6 : Value} (h : am_R E d mL_law k n 936 [a0, a1, a2, a3, a4, a5, a6] (.int 0 :: st) S iv Q) : am_R E d mL_law k n 935 [a0, a1, a2, a3, a4, a5, a6] st S iv Q := am_iconst dL_law_935 (by decide) h
theorem sL_law_936 {ls : List Value} {x : Int32} (hn : narrow .boolean (.int x) = .int x) (h : Q (.inl (some (.int x))) S iv) : am_R E d mL_law k n 936 ls [.int x] S iv Q := am_zreturn dL_law_936 rfl hn h
theorem sL_law_937 {ls : List Value} (h : am_R E d mL_law k n 1249 ls st S iv Q) : am_R E d mL_law k n 937 ls st S iv Q := am_goto dL_law_937 (by decide) h
theorem sL_law_940 {a0 a1 a2 a3 a4 a5 a6 : Value} (hv : am_rf a1 = true) (h : am_R E d mL_law k n 941 [a0, a1, a2, a3, a4, a5, a6] (a1 :: st) S iv Q) : am_R E d mL_law k n 940 [a0, a1, a2, a3, a4, a5, a6] st S iv Q := am_aload_n dL_law_940 rfl rfl hv h
theorem sL_law_941 {a0 a1 a2 a3 a4 a5 a6 : Value} (hv : am_rf a0 = true) (h : am_R E d mL_law k n 942 [a0, a1, a2, a3, a4, a5, a6] (a0 :: st) S iv Q) : am_R E d mL_law k n 941 [a0, a1, a2, a3, a4, a5, a6] st S iv Q := am_aload_n dL_law_941 rfl rfl hv h
theorem sL_law_942 {a0 a1 a2 a3 a5 a6 : Value} {x : Int32} (h : am_R E d mL_law k n 944 [a0, a1, a2, a3, .int x, a5, a6] (.int x :: st) S iv Q) : am_R E d mL_law k n 942 [a0, a1, a2, a3, .int x, a5, a6] st S iv Q := am_iload dL_law_942 rfl h
theorem sL_law_944 {a0 a1 a2 a3 a4 a5 a6 : Value} (h : am_R E d mL_law k n 945 [a0, a1, a2, a3, a4, a5, a6] (.int 1 :: st) S iv Q) : am_R E d mL_law k n 944 [a0, a1, a2, a3, a4, a5, a6] st S iv Q := am_iconst dL_law_944 (by decide) h
theorem sL_law_945 {ls : List Value} {x y : Int32} (h : am_R E d mL_law k n 946 ls (.int (x + y) :: st) S iv Q) : am_R E d mL_law k n 945 ls (.int y :: .int x :: st) S iv Q := am_iadd dL_law_945 h
theorem sL_law_946 {ls : List Value} {i : Int32} (hi : vp_in i (am_L E)) (h : am_R E d mL_law k n 947 ls (.int (am_xs E i.toNatClampNeg) :: st) S iv Q) : am_R E d mL_law k n 946 ls (.int i :: .null :: st) S iv Q := am_saload dL_law_946 hi h
theorem sL_law_947 {a0 a1 a2 a3 a4 a5 a6 : Value} (hv : am_rf a0 = true) (h : am_R E d mL_law k n 948 [a0, a1, a2, a3, a4, a5, a6] (a0 :: st) S iv Q) : am_R E d mL_law k n 947 [a0, a1, a2, a3, a4, a5, a6] st S iv Q := am_aload_n dL_law_947 rfl rfl hv h
theorem sL_law_948 {a0 a1 a2 a3 a5 a6 : Value} {x : Int32} (h : am_R E d mL_law k n 950 [a0, a1, a2, a3, .int x, a5, a6] (.int x :: st) S iv Q) : am_R E d mL_law k n 948 [a0, a1, a2, a3, .int x, a5, a6] st S iv Q := am_iload dL_law_948 rfl h
theorem sL_law_950 {a0 a1 a2 a3 a4 a5 a6 : Value} (h : am_R E d mL_law k n 951 [a0, a1, a2, a3, a4, a5, a6] (.int 2 :: st) S iv Q) : am_R E d mL_law k n 950 [a0, a1, a2, a3, a4, a5, a6] st S iv Q := am_iconst dL_law_950 (by decide) h
theorem sL_law_951 {ls : List Value} {x y : Int32} (h : am_R E d mL_law k n 952 ls (.int (x + y) :: st) S iv Q) : am_R E d mL_law k n 951 ls (.int y :: .int x :: st) S iv Q := am_iadd dL_law_951 h
theorem sL_law_952 {ls : List Value} {i : Int32} (hi : vp_in i (am_L E)) (h : am_R E d mL_law k n 953 ls (.int (am_xs E i.toNatClampNeg) :: st) S iv Q) : am_R E d mL_law k n 952 ls (.int i :: .null :: st) S iv Q := am_saload dL_law_952 hi h
theorem sL_law_953 {a0 a1 a2 a3 a4 a5 a6 : Value} (hv : am_rf a3 = true) (h : am_R E d mL_law k n 954 [a0, a1, a2, a3, a4, a5, a6] (a3 :: st) S iv Q) : am_R E d mL_law k n 953 [a0, a1, a2, a3, a4, a5, a6] st S iv Q := am_aload_n dL_law_953 rfl rfl hv h
theorem sL_law_954 {ls : List Value} {x1 x2 x3 x4 : Value} (hst : (st.map fun v => v.category).sum ≤ 8) (hM : am_M E d mL_married 0 0 [x1, x2, x3, x4] S iv (am_K3 E (d + 1) mL_law k n 954 ls st Q)) : am_R E (d + 1) mL_law k n 954 ls (x4 :: x3 :: x2 :: x1 :: st) S iv Q := am_cSH (M' := mL_married) (as := [x1, x2, x3, x4]) dL_law_954 (by decide) wq_1376 wq_1377 wq_1230 wq_1374 hy_L_married (by decide) hst (by omega) (by omega) hM
theorem sL_law_954_k {ls : List Value} {x1 x2 x3 x4 : Value} {k' n' : Nat} (hst : (st.map fun v => v.category).sum ≤ 8) (hM : am_M E d mL_married k' n' [x1, x2, x3, x4] S iv (am_K3 E (d + 1) mL_law k n 954 ls st Q)) : am_R E (d + 1) mL_law (k' + k) (n' + n) 954 ls (x4 :: x3 :: x2 :: x1 :: st) S iv Q := am_cSH (M' := mL_married) (as := [x1, x2, x3, x4]) dL_law_954 (by decide) wq_1376 wq_1377 wq_1230 wq_1374 hy_L_married (by decide) hst (by omega) (by omega) hM
theorem sL_law_957 {a0 a1 a2 a3 a4 a5 a6 : Value} {x : Int32} (h : am_R E d mL_law k n 959 [a0, a1, a2, a3, a4, .int x, a6] st S iv Q) : am_R E d mL_law k n 957 [a0, a1, a2, a3, a4, a5, a6] (.int x :: st) S iv Q := am_istore dL_law_957 (by decide) h
theorem sL_law_959 {a0 a1 a2 a3 a4 a5 a6 : Value} (hv : am_rf a2 = true) (h : am_R E d mL_law k n 960 [a0, a1, a2, a3, a4, a5, a6] (a2 :: st) S iv Q) : am_R E d mL_law k n 959 [a0, a1, a2, a3, a4, a5, a6] st S iv Q := am_aload_n dL_law_959 rfl rfl hv h
theorem sL_law_960 {a0 a1 a2 a3 a4 a5 a6 : Value} (hv : am_rf a0 = true) (h : am_R E d mL_law k n 961 [a0, a1, a2, a3, a4, a5, a6] (a0 :: st) S iv Q) : am_R E d mL_law k n 960 [a0, a1, a2, a3, a4, a5, a6] st S iv Q := am_aload_n dL_law_960 rfl rfl hv h
theorem sL_law_961 {a0 a1 a2 a3 a5 a6 : Value} {x : Int32} (h : am_R E d mL_law k n 963 [a0, a1, a2, a3, .int x, a5, a6] (.int x :: st) S iv Q) : am_R E d mL_law k n 961 [a0, a1, a2, a3, .int x, a5, a6] st S iv Q := am_iload dL_law_961 rfl h
theorem sL_law_963 {a0 a1 a2 a3 a4 a5 a6 : Value} (h : am_R E d mL_law k n 964 [a0, a1, a2, a3, a4, a5, a6] (.int 1 :: st) S iv Q) : am_R E d mL_law k n 963 [a0, a1, a2, a3, a4, a5, a6] st S iv Q := am_iconst dL_law_963 (by decide) h
theorem sL_law_964 {ls : List Value} {x y : Int32} (h : am_R E d mL_law k n 965 ls (.int (x + y) :: st) S iv Q) : am_R E d mL_law k n 964 ls (.int y :: .int x :: st) S iv Q := am_iadd dL_law_964 h
theorem sL_law_965 {ls : List Value} {i : Int32} (hi : vp_in i (am_L E)) (h : am_R E d mL_law k n 966 ls (.int (am_xs E i.toNatClampNeg) :: st) S iv Q) : am_R E d mL_law k n 965 ls (.int i :: .null :: st) S iv Q := am_saload dL_law_965 hi h
theorem sL_law_966 {a0 a1 a2 a3 a4 a5 a6 : Value} (hv : am_rf a0 = true) (h : am_R E d mL_law k n 967 [a0, a1, a2, a3, a4, a5, a6] (a0 :: st) S iv Q) : am_R E d mL_law k n 966 [a0, a1, a2, a3, a4, a5, a6] st S iv Q := am_aload_n dL_law_966 rfl rfl hv h
theorem sL_law_967 {a0 a1 a2 a3 a5 a6 : Value} {x : Int32} (h : am_R E d mL_law k n 969 [a0, a1, a2, a3, .int x, a5, a6] (.int x :: st) S iv Q) : am_R E d mL_law k n 967 [a0, a1, a2, a3, .int x, a5, a6] st S iv Q := am_iload dL_law_967 rfl h
theorem sL_law_969 {a0 a1 a2 a3 a4 a5 a6 : Value} (h : am_R E d mL_law k n 970 [a0, a1, a2, a3, a4, a5, a6] (.int 2 :: st) S iv Q) : am_R E d mL_law k n 969 [a0, a1, a2, a3, a4, a5, a6] st S iv Q := am_iconst dL_law_969 (by decide) h
theorem sL_law_970 {ls : List Value} {x y : Int32} (h : am_R E d mL_law k n 971 ls (.int (x + y) :: st) S iv Q) : am_R E d mL_law k n 970 ls (.int y :: .int x :: st) S iv Q := am_iadd dL_law_970 h
theorem sL_law_971 {ls : List Value} {i : Int32} (hi : vp_in i (am_L E)) (h : am_R E d mL_law k n 972 ls (.int (am_xs E i.toNatClampNeg) :: st) S iv Q) : am_R E d mL_law k n 971 ls (.int i :: .null :: st) S iv Q := am_saload dL_law_971 hi h
theorem sL_law_972 {ls : List Value} {x1 x2 : Value} {a : Nat} (ha : S.1 a = some (.inl 10)) (hst : (st.map fun v => v.category).sum ≤ 8) (hM : am_M E d mX10_married 0 0 [.ref a, x1, x2] S iv (am_K3 E (d + 1) mL_law k n 972 ls st Q)) : am_R E (d + 1) mL_law k n 972 ls (x2 :: x1 :: .ref a :: st) S iv Q := am_cV (ci := 10) (M' := mX10_married) (as := [x1, x2]) dL_law_972 rfl rfl rfl wq_1380 wq_1381 wq_1382 wq_808 wq_1378 hy_X10_married (by decide) ha hst (by omega) (by omega) hM
theorem sL_law_972_k {ls : List Value} {x1 x2 : Value} {k' n' : Nat} {a : Nat} (ha : S.1 a = some (.inl 10)) (hst : (st.map fun v => v.category).sum ≤ 8) (hM : am_M E d mX10_married k' n' [.ref a, x1, x2] S iv (am_K3 E (d + 1) mL_law k n 972 ls st Q)) : am_R E (d + 1) mL_law (k' + k) (n' + n) 972 ls (x2 :: x1 :: .ref a :: st) S iv Q := am_cV (ci := 10) (M' := mX10_married) (as := [x1, x2]) dL_law_972 rfl rfl rfl wq_1380 wq_1381 wq_1382 wq_808 wq_1378 hy_X10_married (by decide) ha hst (by omega) (by omega) hM
theorem sL_law_975 {a0 a1 a2 a3 a4 a5 a6 : Value} {x : Int32} (h : am_R E d mL_law k n 977 [a0, a1, a2, a3, a4, a5, .int x] st S iv Q) : am_R E d mL_law k n 975 [a0, a1, a2, a3, a4, a5, a6] (.int x :: st) S iv Q := am_istore dL_law_975 (by decide) h
theorem sL_law_977 {a0 a1 a2 a3 a4 a5 a6 : Value} (hv : am_rf a2 = true) (h : am_R E d mL_law k n 978 [a0, a1, a2, a3, a4, a5, a6] (a2 :: st) S iv Q) : am_R E d mL_law k n 977 [a0, a1, a2, a3, a4, a5, a6] st S iv Q := am_aload_n dL_law_977 rfl rfl hv h
theorem sL_law_978 {ls : List Value} {a : Nat} (ha : S.1 a = some (.inl 10)) (hst : (st.map fun v => v.category).sum ≤ 8) (hM : am_M E d mX10_thrown 0 0 [.ref a] S iv (am_K3 E (d + 1) mL_law k n 978 ls st Q)) : am_R E (d + 1) mL_law k n 978 ls (.ref a :: st) S iv Q := am_cV (ci := 10) (M' := mX10_thrown) (as := []) dL_law_978 rfl rfl rfl wq_1241 wq_1242 wq_1243 wq_808 wq_1239 hy_X10_thrown (by decide) ha hst (by omega) (by omega) hM
theorem sL_law_978_k {ls : List Value} {k' n' : Nat} {a : Nat} (ha : S.1 a = some (.inl 10)) (hst : (st.map fun v => v.category).sum ≤ 8) (hM : am_M E d mX10_thrown k' n' [.ref a] S iv (am_K3 E (d + 1) mL_law k n 978 ls st Q)) : am_R E (d + 1) mL_law (k' + k) (n' + n) 978 ls (.ref a :: st) S iv Q := am_cV (ci := 10) (M' := mX10_thrown) (as := []) dL_law_978 rfl rfl rfl wq_1241 wq_1242 wq_1243 wq_808 wq_1239 hy_X10_thrown (by decide) ha hst (by omega) (by omega) hM
theorem sL_law_981 {a0 a1 a2 a3 a4 a6 : Value} {x : Int32} (h : am_R E d mL_law k n 983 [a0, a1, a2, a3, a4, .int x, a6] (.int x :: st) S iv Q) : am_R E d mL_law k n 981 [a0, a1, a2, a3, a4, .int x, a6] st S iv Q := am_iload dL_law_981 rfl h
theorem sL_law_983 {ls : List Value} {x y : Int32} (kt : x = y → am_R E d mL_law k n 988 ls st S iv Q) (kf : ¬ x = y → am_R E d mL_law k n 986 ls st S iv Q) : am_R E d mL_law k n 983 ls (.int y :: .int x :: st) S iv Q := am_icmp_eq dL_law_983 (by decide) kt kf
theorem sL_law_986 {a0 a1 a2 a3 a4 a5 a6 : Value} (h : am_R E d mL_law k n 987 [a0, a1, a2, a3, a4, a5, a6] (.int 0 :: st) S iv Q) : am_R E d mL_law k n 986 [a0, a1, a2, a3, a4, a5, a6] st S iv Q := am_iconst dL_law_986 (by decide) h
theorem sL_law_987 {ls : List Value} {x : Int32} (hn : narrow .boolean (.int x) = .int x) (h : Q (.inl (some (.int x))) S iv) : am_R E d mL_law k n 987 ls [.int x] S iv Q := am_zreturn dL_law_987 rfl hn h
theorem sL_law_988 {a0 a1 a2 a3 a4 a6 : Value} {x : Int32} (h : am_R E d mL_law k n 990 [a0, a1, a2, a3, a4, .int x, a6] (.int x :: st) S iv Q) : am_R E d mL_law k n 988 [a0, a1, a2, a3, a4, .int x, a6] st S iv Q := am_iload dL_law_988 rfl h
theorem sL_law_990 {ls : List Value} {x : Int32} (kt : ¬ x = 0 → am_R E d mL_law k n 1005 ls st S iv Q) (kf : x = 0 → am_R E d mL_law k n 993 ls st S iv Q) : am_R E d mL_law k n 990 ls (.int x :: st) S iv Q := am_if_ne dL_law_990 (by decide) kt kf
theorem sL_law_993 {a0 a1 a2 a3 a4 a5 a6 : Value} (hv : am_rf a3 = true) (h : am_R E d mL_law k n 994 [a0, a1, a2, a3, a4, a5, a6] (a3 :: st) S iv Q) : am_R E d mL_law k n 993 [a0, a1, a2, a3, a4, a5, a6] st S iv Q := am_aload_n dL_law_993 rfl rfl hv h
theorem sL_law_994 {a0 a1 a2 a3 a4 a5 a6 : Value} (h : am_R E d mL_law k n 995 [a0, a1, a2, a3, a4, a5, a6] (.int 0 :: st) S iv Q) : am_R E d mL_law k n 994 [a0, a1, a2, a3, a4, a5, a6] st S iv Q := am_iconst dL_law_994 (by decide) h
theorem sL_law_995 {ls : List Value} {a m : Nat} {i : Int32} (ha : S.1 a = some (.inr (.long, m))) (hi : vp_in i m) (h : am_R E d mL_law k n 996 ls (.long (S.2.2.1 a i.toNatClampNeg) :: st) S iv Q) : am_R E d mL_law k n 995 ls (.int i :: .ref a :: st) S iv Q := am_laload dL_law_995 ha hi h
theorem sL_law_996 {a0 a1 a2 a3 a4 a5 : Value} {x : Int32} (h : am_R E d mL_law k n 998 [a0, a1, a2, a3, a4, a5, .int x] (.int x :: st) S iv Q) : am_R E d mL_law k n 996 [a0, a1, a2, a3, a4, a5, .int x] st S iv Q := am_iload dL_law_996 rfl h
theorem sL_law_998 {ls : List Value} {x : Int32} (h : am_R E d mL_law k n 999 ls (.long x.toInt64 :: st) S iv Q) : am_R E d mL_law k n 998 ls (.int x :: st) S iv Q := am_i2l dL_law_998 h
theorem sL_law_999 {ls : List Value} {x y : Int64} (h : am_R E d mL_law k n 1000 ls (.int (lg_cmp x y) :: st) S iv Q) : am_R E d mL_law k n 999 ls (.long y :: .long x :: st) S iv Q := am_lcmp dL_law_999 h
theorem sL_law_1000 {ls : List Value} {x : Int32} (kt : x = 0 → am_R E d mL_law k n 1005 ls st S iv Q) (kf : ¬ x = 0 → am_R E d mL_law k n 1003 ls st S iv Q) : am_R E d mL_law k n 1000 ls (.int x :: st) S iv Q := am_if_eq dL_law_1000 (by decide) kt kf
theorem sL_law_1003 {a0 a1 a2 a3 a4 a5 a6 : Value} (h : am_R E d mL_law k n 1004 [a0, a1, a2, a3, a4, a5, a6] (.int 0 :: st) S iv Q) : am_R E d mL_law k n 1003 [a0, a1, a2, a3, a4, a5, a6] st S iv Q := am_iconst dL_law_1003 (by decide) h
theorem sL_law_1004 {ls : List Value} {x : Int32} (hn : narrow .boolean (.int x) = .int x) (h : Q (.inl (some (.int x))) S iv) : am_R E d mL_law k n 1004 ls [.int x] S iv Q := am_zreturn dL_law_1004 rfl hn h
theorem sL_law_1005 {ls : List Value} (h : am_R E d mL_law k n 1249 ls st S iv Q) : am_R E d mL_law k n 1005 ls st S iv Q := am_goto dL_law_1005 (by decide) h
theorem sL_law_1008 {a0 a1 a2 a3 a4 a5 a6 : Value} (hv : am_rf a1 = true) (h : am_R E d mL_law k n 1009 [a0, a1, a2, a3, a4, a5, a6] (a1 :: st) S iv Q) : am_R E d mL_law k n 1008 [a0, a1, a2, a3, a4, a5, a6] st S iv Q := am_aload_n dL_law_1008 rfl rfl hv h
theorem sL_law_1009 {ls : List Value} {a : Nat} (ha : S.1 a = some (.inl 9)) (hst : (st.map fun v => v.category).sum ≤ 8) (hM : am_M E d mX9_rent 0 0 [.ref a] S iv (am_K3 E (d + 1) mL_law k n 1009 ls st Q)) : am_R E (d + 1) mL_law k n 1009 ls (.ref a :: st) S iv Q := am_cV (ci := 9) (M' := mX9_rent) (as := []) dL_law_1009 rfl rfl rfl wq_1385 wq_1386 wq_1387 wq_581 wq_1383 hy_X9_rent (by decide) ha hst (by omega) (by omega) hM
theorem sL_law_1009_k {ls : List Value} {k' n' : Nat} {a : Nat} (ha : S.1 a = some (.inl 9)) (hst : (st.map fun v => v.category).sum ≤ 8) (hM : am_M E d mX9_rent k' n' [.ref a] S iv (am_K3 E (d + 1) mL_law k n 1009 ls st Q)) : am_R E (d + 1) mL_law (k' + k) (n' + n) 1009 ls (.ref a :: st) S iv Q := am_cV (ci := 9) (M' := mX9_rent) (as := []) dL_law_1009 rfl rfl rfl wq_1385 wq_1386 wq_1387 wq_581 wq_1383 hy_X9_rent (by decide) ha hst (by omega) (by omega) hM
theorem sL_law_1012 {a0 a1 a2 a3 a4 a5 a6 : Value} (hv : am_rf a2 = true) (h : am_R E d mL_law k n 1013 [a0, a1, a2, a3, a4, a5, a6] (a2 :: st) S iv Q) : am_R E d mL_law k n 1012 [a0, a1, a2, a3, a4, a5, a6] st S iv Q := am_aload_n dL_law_1012 rfl rfl hv h
theorem sL_law_1013 {ls : List Value} {a : Nat} (ha : S.1 a = some (.inl 10)) (hst : (st.map fun v => v.category).sum ≤ 8) (hM : am_M E d mX10_rent 0 0 [.ref a] S iv (am_K3 E (d + 1) mL_law k n 1013 ls st Q)) : am_R E (d + 1) mL_law k n 1013 ls (.ref a :: st) S iv Q := am_cV (ci := 10) (M' := mX10_rent) (as := []) dL_law_1013 rfl rfl rfl wq_1390 wq_1391 wq_1392 wq_808 wq_1388 hy_X10_rent (by decide) ha hst (by omega) (by omega) hM
theorem sL_law_1013_k {ls : List Value} {k' n' : Nat} {a : Nat} (ha : S.1 a = some (.inl 10)) (hst : (st.map fun v => v.category).sum ≤ 8) (hM : am_M E d mX10_rent k' n' [.ref a] S iv (am_K3 E (d + 1) mL_law k n 1013 ls st Q)) : am_R E (d + 1) mL_law (k' + k) (n' + n) 1013 ls (.ref a :: st) S iv Q := am_cV (ci := 10) (M' := mX10_rent) (as := []) dL_law_1013 rfl rfl rfl wq_1390 wq_1391 wq_1392 wq_808 wq_1388 hy_X10_rent (by decide) ha hst (by omega) (by omega) hM
theorem sL_law_1016 {ls : List Value} {x y : Int32} (kt : x = y → am_R E d mL_law k n 1249 ls st S iv Q) (kf : ¬ x = y → am_R E d mL_law k n 1019 ls st S iv Q) : am_R E d mL_law k n 1016 ls (.int y :: .int x :: st) S iv Q := am_icmp_eq dL_law_1016 (by decide) kt kf
theorem sL_law_1019 {a0 a1 a2 a3 a4 a5 a6 : Value} (h : am_R E d mL_law k n 1020 [a0, a1, a2, a3, a4, a5, a6] (.int 0 :: st) S iv Q) : am_R E d mL_law k n 1019 [a0, a1, a2, a3, a4, a5, a6] st S iv Q := am_iconst dL_law_1019 (by decide) h
theorem sL_law_1020 {ls : List Value} {x : Int32} (hn : narrow .boolean (.int x) = .int x) (h : Q (.inl (some (.int x))) S iv) : am_R E d mL_law k n 1020 ls [.int x] S iv Q := am_zreturn dL_law_1020 rfl hn h
theorem sL_law_1021 {a0 a1 a2 a3 a4 a5 a6 : Value} (hv : am_rf a1 = true) (h : am_R E d mL_law k n 1022 [a0, a1, a2, a3, a4, a5, a6] (a1 :: st) S iv Q) : am_R E d mL_law k n 1021 [a0, a1, a2, a3, a4, a5, a6] st S iv Q := am_aload_n dL_law_1021 rfl rfl hv h
theorem sL_law_1022 {a0 a1 a2 a3 a4 a5 a6 : Value} (hv : am_rf a0 = true) (h : am_R E d mL_law k n 1023 [a0, a1, a2, a3, a4, a5, a6] (a0 :: st) S iv Q) : am_R E d mL_law k n 1022 [a0, a1, a2, a3, a4, a5, a6] st S iv Q := am_aload_n dL_law_1022 rfl rfl hv h
theorem sL_law_1023 {a0 a1 a2 a3 a5 a6 : Value} {x : Int32} (h : am_R E d mL_law k n 1025 [a0, a1, a2, a3, .int x, a5, a6] (.int x :: st) S iv Q) : am_R E d mL_law k n 1023 [a0, a1, a2, a3, .int x, a5, a6] st S iv Q := am_iload dL_law_1023 rfl h
theorem sL_law_1025 {a0 a1 a2 a3 a4 a5 a6 : Value} (h : am_R E d mL_law k n 1026 [a0, a1, a2, a3, a4, a5, a6] (.int 1 :: st) S iv Q) : am_R E d mL_law k n 1025 [a0, a1, a2, a3, a4, a5, a6] st S iv Q := am_iconst dL_law_1025 (by decide) h
theorem sL_law_1026 {ls : List Value} {x y : Int32} (h : am_R E d mL_law k n 1027 ls (.int (x + y) :: st) S iv Q) : am_R E d mL_law k n 1026 ls (.int y :: .int x :: st) S iv Q := am_iadd dL_law_1026 h
theorem sL_law_1027 {ls : List Value} {i : Int32} (hi : vp_in i (am_L E)) (h : am_R E d mL_law k n 1028 ls (.int (am_xs E i.toNatClampNeg) :: st) S iv Q) : am_R E d mL_law k n 1027 ls (.int i :: .null :: st) S iv Q := am_saload dL_law_1027 hi h
theorem sL_law_1028 {a0 a1 a2 a3 a4 a5 a6 : Value} (hv : am_rf a0 = true) (h : am_R E d mL_law k n 1029 [a0, a1, a2, a3, a4, a5, a6] (a0 :: st) S iv Q) : am_R E d mL_law k n 1028 [a0, a1, a2, a3, a4, a5, a6] st S iv Q := am_aload_n dL_law_1028 rfl rfl hv h
theorem sL_law_1029 {a0 a1 a2 a3 a5 a6 : Value} {x : Int32} (h : am_R E d mL_law k n 1031 [a0, a1, a2, a3, .int x, a5, a6] (.int x :: st) S iv Q) : am_R E d mL_law k n 1029 [a0, a1, a2, a3, .int x, a5, a6] st S iv Q := am_iload dL_law_1029 rfl h
theorem sL_law_1031 {a0 a1 a2 a3 a4 a5 a6 : Value} (h : am_R E d mL_law k n 1032 [a0, a1, a2, a3, a4, a5, a6] (.int 2 :: st) S iv Q) : am_R E d mL_law k n 1031 [a0, a1, a2, a3, a4, a5, a6] st S iv Q := am_iconst dL_law_1031 (by decide) h
theorem sL_law_1032 {ls : List Value} {x y : Int32} (h : am_R E d mL_law k n 1033 ls (.int (x + y) :: st) S iv Q) : am_R E d mL_law k n 1032 ls (.int y :: .int x :: st) S iv Q := am_iadd dL_law_1032 h
theorem sL_law_1033 {ls : List Value} {i : Int32} (hi : vp_in i (am_L E)) (h : am_R E d mL_law k n 1034 ls (.int (am_xs E i.toNatClampNeg) :: st) S iv Q) : am_R E d mL_law k n 1033 ls (.int i :: .null :: st) S iv Q := am_saload dL_law_1033 hi h
theorem sL_law_1034 {a0 a1 a2 a3 a4 a5 a6 : Value} (hv : am_rf a3 = true) (h : am_R E d mL_law k n 1035 [a0, a1, a2, a3, a4, a5, a6] (a3 :: st) S iv Q) : am_R E d mL_law k n 1034 [a0, a1, a2, a3, a4, a5, a6] st S iv Q := am_aload_n dL_law_1034 rfl rfl hv h
theorem sL_law_1035 {ls : List Value} {x1 x2 x3 x4 : Value} (hst : (st.map fun v => v.category).sum ≤ 8) (hM : am_M E d mL_wind 0 0 [x1, x2, x3, x4] S iv (am_K3 E (d + 1) mL_law k n 1035 ls st Q)) : am_R E (d + 1) mL_law k n 1035 ls (x4 :: x3 :: x2 :: x1 :: st) S iv Q := am_cSH (M' := mL_wind) (as := [x1, x2, x3, x4]) dL_law_1035 (by decide) wq_1395 wq_1396 wq_1230 wq_1393 hy_L_wind (by decide) hst (by omega) (by omega) hM
theorem sL_law_1035_k {ls : List Value} {x1 x2 x3 x4 : Value} {k' n' : Nat} (hst : (st.map fun v => v.category).sum ≤ 8) (hM : am_M E d mL_wind k' n' [x1, x2, x3, x4] S iv (am_K3 E (d + 1) mL_law k n 1035 ls st Q)) : am_R E (d + 1) mL_law (k' + k) (n' + n) 1035 ls (x4 :: x3 :: x2 :: x1 :: st) S iv Q := am_cSH (M' := mL_wind) (as := [x1, x2, x3, x4]) dL_law_1035 (by decide) wq_1395 wq_1396 wq_1230 wq_1393 hy_L_wind (by decide) hst (by omega) (by omega) hM
theorem sL_law_1038 {a0 a1 a2 a3 a4 a5 a6 : Value} {x : Int32} (h : am_R E d mL_law k n 1040 [a0, a1, a2, a3, a4, .int x, a6] st S iv Q) : am_R E d mL_law k n 1038 [a0, a1, a2, a3, a4, a5, a6] (.int x :: st) S iv Q := am_istore dL_law_1038 (by decide) h
theorem sL_law_1040 {a0 a1 a2 a3 a4 a5 a6 : Value} (hv : am_rf a2 = true) (h : am_R E d mL_law k n 1041 [a0, a1, a2, a3, a4, a5, a6] (a2 :: st) S iv Q) : am_R E d mL_law k n 1040 [a0, a1, a2, a3, a4, a5, a6] st S iv Q := am_aload_n dL_law_1040 rfl rfl hv h
theorem sL_law_1041 {a0 a1 a2 a3 a4 a5 a6 : Value} (hv : am_rf a0 = true) (h : am_R E d mL_law k n 1042 [a0, a1, a2, a3, a4, a5, a6] (a0 :: st) S iv Q) : am_R E d mL_law k n 1041 [a0, a1, a2, a3, a4, a5, a6] st S iv Q := am_aload_n dL_law_1041 rfl rfl hv h
theorem sL_law_1042 {a0 a1 a2 a3 a5 a6 : Value} {x : Int32} (h : am_R E d mL_law k n 1044 [a0, a1, a2, a3, .int x, a5, a6] (.int x :: st) S iv Q) : am_R E d mL_law k n 1042 [a0, a1, a2, a3, .int x, a5, a6] st S iv Q := am_iload dL_law_1042 rfl h
theorem sL_law_1044 {a0 a1 a2 a3 a4 a5 a6 : Value} (h : am_R E d mL_law k n 1045 [a0, a1, a2, a3, a4, a5, a6] (.int 1 :: st) S iv Q) : am_R E d mL_law k n 1044 [a0, a1, a2, a3, a4, a5, a6] st S iv Q := am_iconst dL_law_1044 (by decide) h
theorem sL_law_1045 {ls : List Value} {x y : Int32} (h : am_R E d mL_law k n 1046 ls (.int (x + y) :: st) S iv Q) : am_R E d mL_law k n 1045 ls (.int y :: .int x :: st) S iv Q := am_iadd dL_law_1045 h
theorem sL_law_1046 {ls : List Value} {i : Int32} (hi : vp_in i (am_L E)) (h : am_R E d mL_law k n 1047 ls (.int (am_xs E i.toNatClampNeg) :: st) S iv Q) : am_R E d mL_law k n 1046 ls (.int i :: .null :: st) S iv Q := am_saload dL_law_1046 hi h
theorem sL_law_1047 {a0 a1 a2 a3 a4 a5 a6 : Value} (hv : am_rf a0 = true) (h : am_R E d mL_law k n 1048 [a0, a1, a2, a3, a4, a5, a6] (a0 :: st) S iv Q) : am_R E d mL_law k n 1047 [a0, a1, a2, a3, a4, a5, a6] st S iv Q := am_aload_n dL_law_1047 rfl rfl hv h
theorem sL_law_1048 {a0 a1 a2 a3 a5 a6 : Value} {x : Int32} (h : am_R E d mL_law k n 1050 [a0, a1, a2, a3, .int x, a5, a6] (.int x :: st) S iv Q) : am_R E d mL_law k n 1048 [a0, a1, a2, a3, .int x, a5, a6] st S iv Q := am_iload dL_law_1048 rfl h
theorem sL_law_1050 {a0 a1 a2 a3 a4 a5 a6 : Value} (h : am_R E d mL_law k n 1051 [a0, a1, a2, a3, a4, a5, a6] (.int 2 :: st) S iv Q) : am_R E d mL_law k n 1050 [a0, a1, a2, a3, a4, a5, a6] st S iv Q := am_iconst dL_law_1050 (by decide) h
theorem sL_law_1051 {ls : List Value} {x y : Int32} (h : am_R E d mL_law k n 1052 ls (.int (x + y) :: st) S iv Q) : am_R E d mL_law k n 1051 ls (.int y :: .int x :: st) S iv Q := am_iadd dL_law_1051 h
theorem sL_law_1052 {ls : List Value} {i : Int32} (hi : vp_in i (am_L E)) (h : am_R E d mL_law k n 1053 ls (.int (am_xs E i.toNatClampNeg) :: st) S iv Q) : am_R E d mL_law k n 1052 ls (.int i :: .null :: st) S iv Q := am_saload dL_law_1052 hi h
theorem sL_law_1053 {ls : List Value} {x1 x2 : Value} {a : Nat} (ha : S.1 a = some (.inl 10)) (hst : (st.map fun v => v.category).sum ≤ 8) (hM : am_M E d mX10_wind 0 0 [.ref a, x1, x2] S iv (am_K3 E (d + 1) mL_law k n 1053 ls st Q)) : am_R E (d + 1) mL_law k n 1053 ls (x2 :: x1 :: .ref a :: st) S iv Q := am_cV (ci := 10) (M' := mX10_wind) (as := [x1, x2]) dL_law_1053 rfl rfl rfl wq_1399 wq_1400 wq_1401 wq_808 wq_1397 hy_X10_wind (by decide) ha hst (by omega) (by omega) hM
theorem sL_law_1053_k {ls : List Value} {x1 x2 : Value} {k' n' : Nat} {a : Nat} (ha : S.1 a = some (.inl 10)) (hst : (st.map fun v => v.category).sum ≤ 8) (hM : am_M E d mX10_wind k' n' [.ref a, x1, x2] S iv (am_K3 E (d + 1) mL_law k n 1053 ls st Q)) : am_R E (d + 1) mL_law (k' + k) (n' + n) 1053 ls (x2 :: x1 :: .ref a :: st) S iv Q := am_cV (ci := 10) (M' := mX10_wind) (as := [x1, x2]) dL_law_1053 rfl rfl rfl wq_1399 wq_1400 wq_1401 wq_808 wq_1397 hy_X10_wind (by decide) ha hst (by omega) (by omega) hM
theorem sL_law_1056 {a0 a1 a2 a3 a4 a5 a6 : Value} {x : Int32} (h : am_R E d mL_law k n 1058 [a0, a1, a2, a3, a4, a5, .int x] st S iv Q) : am_R E d mL_law k n 1056 [a0, a1, a2, a3, a4, a5, a6] (.int x :: st) S iv Q := am_istore dL_law_1056 (by decide) h
theorem sL_law_1058 {a0 a1 a2 a3 a4 a5 a6 : Value} (hv : am_rf a2 = true) (h : am_R E d mL_law k n 1059 [a0, a1, a2, a3, a4, a5, a6] (a2 :: st) S iv Q) : am_R E d mL_law k n 1058 [a0, a1, a2, a3, a4, a5, a6] st S iv Q := am_aload_n dL_law_1058 rfl rfl hv h
theorem sL_law_1059 {ls : List Value} {a : Nat} (ha : S.1 a = some (.inl 10)) (hst : (st.map fun v => v.category).sum ≤ 8) (hM : am_M E d mX10_thrown 0 0 [.ref a] S iv (am_K3 E (d + 1) mL_law k n 1059 ls st Q)) : am_R E (d + 1) mL_law k n 1059 ls (.ref a :: st) S iv Q := am_cV (ci := 10) (M' := mX10_thrown) (as := []) dL_law_1059 rfl rfl rfl wq_1241 wq_1242 wq_1243 wq_808 wq_1239 hy_X10_thrown (by decide) ha hst (by omega) (by omega) hM
theorem sL_law_1059_k {ls : List Value} {k' n' : Nat} {a : Nat} (ha : S.1 a = some (.inl 10)) (hst : (st.map fun v => v.category).sum ≤ 8) (hM : am_M E d mX10_thrown k' n' [.ref a] S iv (am_K3 E (d + 1) mL_law k n 1059 ls st Q)) : am_R E (d + 1) mL_law (k' + k) (n' + n) 1059 ls (.ref a :: st) S iv Q := am_cV (ci := 10) (M' := mX10_thrown) (as := []) dL_law_1059 rfl rfl rfl wq_1241 wq_1242 wq_1243 wq_808 wq_1239 hy_X10_thrown (by decide) ha hst (by omega) (by omega) hM
theorem sL_law_1062 {a0 a1 a2 a3 a4 a6 : Value} {x : Int32} (h : am_R E d mL_law k n 1064 [a0, a1, a2, a3, a4, .int x, a6] (.int x :: st) S iv Q) : am_R E d mL_law k n 1062 [a0, a1, a2, a3, a4, .int x, a6] st S iv Q := am_iload dL_law_1062 rfl h
theorem sL_law_1064 {ls : List Value} {x y : Int32} (kt : x = y → am_R E d mL_law k n 1069 ls st S iv Q) (kf : ¬ x = y → am_R E d mL_law k n 1067 ls st S iv Q) : am_R E d mL_law k n 1064 ls (.int y :: .int x :: st) S iv Q := am_icmp_eq dL_law_1064 (by decide) kt kf
theorem sL_law_1067 {a0 a1 a2 a3 a4 a5 a6 : Value} (h : am_R E d mL_law k n 1068 [a0, a1, a2, a3, a4, a5, a6] (.int 0 :: st) S iv Q) : am_R E d mL_law k n 1067 [a0, a1, a2, a3, a4, a5, a6] st S iv Q := am_iconst dL_law_1067 (by decide) h
theorem sL_law_1068 {ls : List Value} {x : Int32} (hn : narrow .boolean (.int x) = .int x) (h : Q (.inl (some (.int x))) S iv) : am_R E d mL_law k n 1068 ls [.int x] S iv Q := am_zreturn dL_law_1068 rfl hn h
theorem sL_law_1069 {a0 a1 a2 a3 a4 a6 : Value} {x : Int32} (h : am_R E d mL_law k n 1071 [a0, a1, a2, a3, a4, .int x, a6] (.int x :: st) S iv Q) : am_R E d mL_law k n 1069 [a0, a1, a2, a3, a4, .int x, a6] st S iv Q := am_iload dL_law_1069 rfl h
theorem sL_law_1071 {ls : List Value} {x : Int32} (kt : ¬ x = 0 → am_R E d mL_law k n 1086 ls st S iv Q) (kf : x = 0 → am_R E d mL_law k n 1074 ls st S iv Q) : am_R E d mL_law k n 1071 ls (.int x :: st) S iv Q := am_if_ne dL_law_1071 (by decide) kt kf
theorem sL_law_1074 {a0 a1 a2 a3 a4 a5 a6 : Value} (hv : am_rf a3 = true) (h : am_R E d mL_law k n 1075 [a0, a1, a2, a3, a4, a5, a6] (a3 :: st) S iv Q) : am_R E d mL_law k n 1074 [a0, a1, a2, a3, a4, a5, a6] st S iv Q := am_aload_n dL_law_1074 rfl rfl hv h
theorem sL_law_1075 {a0 a1 a2 a3 a4 a5 a6 : Value} (h : am_R E d mL_law k n 1076 [a0, a1, a2, a3, a4, a5, a6] (.int 0 :: st) S iv Q) : am_R E d mL_law k n 1075 [a0, a1, a2, a3, a4, a5, a6] st S iv Q := am_iconst dL_law_1075 (by decide) h
theorem sL_law_1076 {ls : List Value} {a m : Nat} {i : Int32} (ha : S.1 a = some (.inr (.long, m))) (hi : vp_in i m) (h : am_R E d mL_law k n 1077 ls (.long (S.2.2.1 a i.toNatClampNeg) :: st) S iv Q) : am_R E d mL_law k n 1076 ls (.int i :: .ref a :: st) S iv Q := am_laload dL_law_1076 ha hi h
theorem sL_law_1077 {a0 a1 a2 a3 a4 a5 : Value} {x : Int32} (h : am_R E d mL_law k n 1079 [a0, a1, a2, a3, a4, a5, .int x] (.int x :: st) S iv Q) : am_R E d mL_law k n 1077 [a0, a1, a2, a3, a4, a5, .int x] st S iv Q := am_iload dL_law_1077 rfl h
theorem sL_law_1079 {ls : List Value} {x : Int32} (h : am_R E d mL_law k n 1080 ls (.long x.toInt64 :: st) S iv Q) : am_R E d mL_law k n 1079 ls (.int x :: st) S iv Q := am_i2l dL_law_1079 h
theorem sL_law_1080 {ls : List Value} {x y : Int64} (h : am_R E d mL_law k n 1081 ls (.int (lg_cmp x y) :: st) S iv Q) : am_R E d mL_law k n 1080 ls (.long y :: .long x :: st) S iv Q := am_lcmp dL_law_1080 h
theorem sL_law_1081 {ls : List Value} {x : Int32} (kt : x = 0 → am_R E d mL_law k n 1086 ls st S iv Q) (kf : ¬ x = 0 → am_R E d mL_law k n 1084 ls st S iv Q) : am_R E d mL_law k n 1081 ls (.int x :: st) S iv Q := am_if_eq dL_law_1081 (by decide) kt kf
theorem sL_law_1084 {a0 a1 a2 a3 a4 a5 a6 : Value} (h : am_R E d mL_law k n 1085 [a0, a1, a2, a3, a4, a5, a6] (.int 0 :: st) S iv Q) : am_R E d mL_law k n 1084 [a0, a1, a2, a3, a4, a5, a6] st S iv Q := am_iconst dL_law_1084 (by decide) h
theorem sL_law_1085 {ls : List Value} {x : Int32} (hn : narrow .boolean (.int x) = .int x) (h : Q (.inl (some (.int x))) S iv) : am_R E d mL_law k n 1085 ls [.int x] S iv Q := am_zreturn dL_law_1085 rfl hn h
theorem sL_law_1086 {ls : List Value} (h : am_R E d mL_law k n 1249 ls st S iv Q) : am_R E d mL_law k n 1086 ls st S iv Q := am_goto dL_law_1086 (by decide) h
theorem sL_law_1089 {a0 a1 a2 a3 a4 a5 a6 : Value} (hv : am_rf a1 = true) (h : am_R E d mL_law k n 1090 [a0, a1, a2, a3, a4, a5, a6] (a1 :: st) S iv Q) : am_R E d mL_law k n 1089 [a0, a1, a2, a3, a4, a5, a6] st S iv Q := am_aload_n dL_law_1089 rfl rfl hv h
theorem sL_law_1090 {a0 a1 a2 a3 a4 a5 a6 : Value} (hv : am_rf a0 = true) (h : am_R E d mL_law k n 1091 [a0, a1, a2, a3, a4, a5, a6] (a0 :: st) S iv Q) : am_R E d mL_law k n 1090 [a0, a1, a2, a3, a4, a5, a6] st S iv Q := am_aload_n dL_law_1090 rfl rfl hv h
theorem sL_law_1091 {a0 a1 a2 a3 a5 a6 : Value} {x : Int32} (h : am_R E d mL_law k n 1093 [a0, a1, a2, a3, .int x, a5, a6] (.int x :: st) S iv Q) : am_R E d mL_law k n 1091 [a0, a1, a2, a3, .int x, a5, a6] st S iv Q := am_iload dL_law_1091 rfl h
theorem sL_law_1093 {a0 a1 a2 a3 a4 a5 a6 : Value} (h : am_R E d mL_law k n 1094 [a0, a1, a2, a3, a4, a5, a6] (.int 1 :: st) S iv Q) : am_R E d mL_law k n 1093 [a0, a1, a2, a3, a4, a5, a6] st S iv Q := am_iconst dL_law_1093 (by decide) h
theorem sL_law_1094 {ls : List Value} {x y : Int32} (h : am_R E d mL_law k n 1095 ls (.int (x + y) :: st) S iv Q) : am_R E d mL_law k n 1094 ls (.int y :: .int x :: st) S iv Q := am_iadd dL_law_1094 h
theorem sL_law_1095 {ls : List Value} {i : Int32} (hi : vp_in i (am_L E)) (h : am_R E d mL_law k n 1096 ls (.int (am_xs E i.toNatClampNeg) :: st) S iv Q) : am_R E d mL_law k n 1095 ls (.int i :: .null :: st) S iv Q := am_saload dL_law_1095 hi h
theorem sL_law_1096 {a0 a1 a2 a3 a4 a5 a6 : Value} (hv : am_rf a3 = true) (h : am_R E d mL_law k n 1097 [a0, a1, a2, a3, a4, a5, a6] (a3 :: st) S iv Q) : am_R E d mL_law k n 1096 [a0, a1, a2, a3, a4, a5, a6] st S iv Q := am_aload_n dL_law_1096 rfl rfl hv h
theorem sL_law_1097 {ls : List Value} {x1 x2 x3 : Value} (hst : (st.map fun v => v.category).sum ≤ 8) (hM : am_M E d mL_who 0 0 [x1, x2, x3] S iv (am_K3 E (d + 1) mL_law k n 1097 ls st Q)) : am_R E (d + 1) mL_law k n 1097 ls (x3 :: x2 :: x1 :: st) S iv Q := am_cSH (M' := mL_who) (as := [x1, x2, x3]) dL_law_1097 (by decide) wq_1404 wq_1405 wq_1230 wq_1402 hy_L_who (by decide) hst (by omega) (by omega) hM
theorem sL_law_1097_k {ls : List Value} {x1 x2 x3 : Value} {k' n' : Nat} (hst : (st.map fun v => v.category).sum ≤ 8) (hM : am_M E d mL_who k' n' [x1, x2, x3] S iv (am_K3 E (d + 1) mL_law k n 1097 ls st Q)) : am_R E (d + 1) mL_law (k' + k) (n' + n) 1097 ls (x3 :: x2 :: x1 :: st) S iv Q := am_cSH (M' := mL_who) (as := [x1, x2, x3]) dL_law_1097 (by decide) wq_1404 wq_1405 wq_1230 wq_1402 hy_L_who (by decide) hst (by omega) (by omega) hM
theorem sL_law_1100 {a0 a1 a2 a3 a4 a5 a6 : Value} {x : Int32} (h : am_R E d mL_law k n 1102 [a0, a1, a2, a3, a4, .int x, a6] st S iv Q) : am_R E d mL_law k n 1100 [a0, a1, a2, a3, a4, a5, a6] (.int x :: st) S iv Q := am_istore dL_law_1100 (by decide) h
theorem sL_law_1102 {a0 a1 a2 a3 a4 a5 a6 : Value} (hv : am_rf a2 = true) (h : am_R E d mL_law k n 1103 [a0, a1, a2, a3, a4, a5, a6] (a2 :: st) S iv Q) : am_R E d mL_law k n 1102 [a0, a1, a2, a3, a4, a5, a6] st S iv Q := am_aload_n dL_law_1102 rfl rfl hv h
theorem sL_law_1103 {a0 a1 a2 a3 a4 a5 a6 : Value} (hv : am_rf a0 = true) (h : am_R E d mL_law k n 1104 [a0, a1, a2, a3, a4, a5, a6] (a0 :: st) S iv Q) : am_R E d mL_law k n 1103 [a0, a1, a2, a3, a4, a5, a6] st S iv Q := am_aload_n dL_law_1103 rfl rfl hv h
theorem sL_law_1104 {a0 a1 a2 a3 a5 a6 : Value} {x : Int32} (h : am_R E d mL_law k n 1106 [a0, a1, a2, a3, .int x, a5, a6] (.int x :: st) S iv Q) : am_R E d mL_law k n 1104 [a0, a1, a2, a3, .int x, a5, a6] st S iv Q := am_iload dL_law_1104 rfl h
theorem sL_law_1106 {a0 a1 a2 a3 a4 a5 a6 : Value} (h : am_R E d mL_law k n 1107 [a0, a1, a2, a3, a4, a5, a6] (.int 1 :: st) S iv Q) : am_R E d mL_law k n 1106 [a0, a1, a2, a3, a4, a5, a6] st S iv Q := am_iconst dL_law_1106 (by decide) h
theorem sL_law_1107 {ls : List Value} {x y : Int32} (h : am_R E d mL_law k n 1108 ls (.int (x + y) :: st) S iv Q) : am_R E d mL_law k n 1107 ls (.int y :: .int x :: st) S iv Q := am_iadd dL_law_1107 h
theorem sL_law_1108 {ls : List Value} {i : Int32} (hi : vp_in i (am_L E)) (h : am_R E d mL_law k n 1109 ls (.int (am_xs E i.toNatClampNeg) :: st) S iv Q) : am_R E d mL_law k n 1108 ls (.int i :: .null :: st) S iv Q := am_saload dL_law_1108 hi h
theorem sL_law_1109 {ls : List Value} {x1 : Value} {a : Nat} (ha : S.1 a = some (.inl 10)) (hst : (st.map fun v => v.category).sum ≤ 8) (hM : am_M E d mX10_who 0 0 [.ref a, x1] S iv (am_K3 E (d + 1) mL_law k n 1109 ls st Q)) : am_R E (d + 1) mL_law k n 1109 ls (x1 :: .ref a :: st) S iv Q := am_cV (ci := 10) (M' := mX10_who) (as := [x1]) dL_law_1109 rfl rfl rfl wq_1408 wq_1409 wq_1410 wq_808 wq_1406 hy_X10_who (by decide) ha hst (by omega) (by omega) hM
theorem sL_law_1109_k {ls : List Value} {x1 : Value} {k' n' : Nat} {a : Nat} (ha : S.1 a = some (.inl 10)) (hst : (st.map fun v => v.category).sum ≤ 8) (hM : am_M E d mX10_who k' n' [.ref a, x1] S iv (am_K3 E (d + 1) mL_law k n 1109 ls st Q)) : am_R E (d + 1) mL_law (k' + k) (n' + n) 1109 ls (x1 :: .ref a :: st) S iv Q := am_cV (ci := 10) (M' := mX10_who) (as := [x1]) dL_law_1109 rfl rfl rfl wq_1408 wq_1409 wq_1410 wq_808 wq_1406 hy_X10_who (by decide) ha hst (by omega) (by omega) hM
theorem sL_law_1112 {a0 a1 a2 a3 a4 a5 a6 : Value} {x : Int32} (h : am_R E d mL_law k n 1114 [a0, a1, a2, a3, a4, a5, .int x] st S iv Q) : am_R E d mL_law k n 1112 [a0, a1, a2, a3, a4, a5, a6] (.int x :: st) S iv Q := am_istore dL_law_1112 (by decide) h
theorem sL_law_1114 {a0 a1 a2 a3 a4 a5 a6 : Value} (hv : am_rf a2 = true) (h : am_R E d mL_law k n 1115 [a0, a1, a2, a3, a4, a5, a6] (a2 :: st) S iv Q) : am_R E d mL_law k n 1114 [a0, a1, a2, a3, a4, a5, a6] st S iv Q := am_aload_n dL_law_1114 rfl rfl hv h
theorem sL_law_1115 {ls : List Value} {a : Nat} (ha : S.1 a = some (.inl 10)) (hst : (st.map fun v => v.category).sum ≤ 8) (hM : am_M E d mX10_thrown 0 0 [.ref a] S iv (am_K3 E (d + 1) mL_law k n 1115 ls st Q)) : am_R E (d + 1) mL_law k n 1115 ls (.ref a :: st) S iv Q := am_cV (ci := 10) (M' := mX10_thrown) (as := []) dL_law_1115 rfl rfl rfl wq_1241 wq_1242 wq_1243 wq_808 wq_1239 hy_X10_thrown (by decide) ha hst (by omega) (by omega) hM
theorem sL_law_1115_k {ls : List Value} {k' n' : Nat} {a : Nat} (ha : S.1 a = some (.inl 10)) (hst : (st.map fun v => v.category).sum ≤ 8) (hM : am_M E d mX10_thrown k' n' [.ref a] S iv (am_K3 E (d + 1) mL_law k n 1115 ls st Q)) : am_R E (d + 1) mL_law (k' + k) (n' + n) 1115 ls (.ref a :: st) S iv Q := am_cV (ci := 10) (M' := mX10_thrown) (as := []) dL_law_1115 rfl rfl rfl wq_1241 wq_1242 wq_1243 wq_808 wq_1239 hy_X10_thrown (by decide) ha hst (by omega) (by omega) hM
theorem sL_law_1118 {a0 a1 a2 a3 a4 a6 : Value} {x : Int32} (h : am_R E d mL_law k n 1120 [a0, a1, a2, a3, a4, .int x, a6] (.int x :: st) S iv Q) : am_R E d mL_law k n 1118 [a0, a1, a2, a3, a4, .int x, a6] st S iv Q := am_iload dL_law_1118 rfl h
theorem sL_law_1120 {ls : List Value} {x y : Int32} (kt : x = y → am_R E d mL_law k n 1125 ls st S iv Q) (kf : ¬ x = y → am_R E d mL_law k n 1123 ls st S iv Q) : am_R E d mL_law k n 1120 ls (.int y :: .int x :: st) S iv Q := am_icmp_eq dL_law_1120 (by decide) kt kf
theorem sL_law_1123 {a0 a1 a2 a3 a4 a5 a6 : Value} (h : am_R E d mL_law k n 1124 [a0, a1, a2, a3, a4, a5, a6] (.int 0 :: st) S iv Q) : am_R E d mL_law k n 1123 [a0, a1, a2, a3, a4, a5, a6] st S iv Q := am_iconst dL_law_1123 (by decide) h
theorem sL_law_1124 {ls : List Value} {x : Int32} (hn : narrow .boolean (.int x) = .int x) (h : Q (.inl (some (.int x))) S iv) : am_R E d mL_law k n 1124 ls [.int x] S iv Q := am_zreturn dL_law_1124 rfl hn h
theorem sL_law_1125 {a0 a1 a2 a3 a4 a6 : Value} {x : Int32} (h : am_R E d mL_law k n 1127 [a0, a1, a2, a3, a4, .int x, a6] (.int x :: st) S iv Q) : am_R E d mL_law k n 1125 [a0, a1, a2, a3, a4, .int x, a6] st S iv Q := am_iload dL_law_1125 rfl h
theorem sL_law_1127 {ls : List Value} {x : Int32} (kt : ¬ x = 0 → am_R E d mL_law k n 1142 ls st S iv Q) (kf : x = 0 → am_R E d mL_law k n 1130 ls st S iv Q) : am_R E d mL_law k n 1127 ls (.int x :: st) S iv Q := am_if_ne dL_law_1127 (by decide) kt kf
theorem sL_law_1130 {a0 a1 a2 a3 a4 a5 a6 : Value} (hv : am_rf a3 = true) (h : am_R E d mL_law k n 1131 [a0, a1, a2, a3, a4, a5, a6] (a3 :: st) S iv Q) : am_R E d mL_law k n 1130 [a0, a1, a2, a3, a4, a5, a6] st S iv Q := am_aload_n dL_law_1130 rfl rfl hv h
theorem sL_law_1131 {a0 a1 a2 a3 a4 a5 a6 : Value} (h : am_R E d mL_law k n 1132 [a0, a1, a2, a3, a4, a5, a6] (.int 0 :: st) S iv Q) : am_R E d mL_law k n 1131 [a0, a1, a2, a3, a4, a5, a6] st S iv Q := am_iconst dL_law_1131 (by decide) h
theorem sL_law_1132 {ls : List Value} {a m : Nat} {i : Int32} (ha : S.1 a = some (.inr (.long, m))) (hi : vp_in i m) (h : am_R E d mL_law k n 1133 ls (.long (S.2.2.1 a i.toNatClampNeg) :: st) S iv Q) : am_R E d mL_law k n 1132 ls (.int i :: .ref a :: st) S iv Q := am_laload dL_law_1132 ha hi h
theorem sL_law_1133 {a0 a1 a2 a3 a4 a5 : Value} {x : Int32} (h : am_R E d mL_law k n 1135 [a0, a1, a2, a3, a4, a5, .int x] (.int x :: st) S iv Q) : am_R E d mL_law k n 1133 [a0, a1, a2, a3, a4, a5, .int x] st S iv Q := am_iload dL_law_1133 rfl h
theorem sL_law_1135 {ls : List Value} {x : Int32} (h : am_R E d mL_law k n 1136 ls (.long x.toInt64 :: st) S iv Q) : am_R E d mL_law k n 1135 ls (.int x :: st) S iv Q := am_i2l dL_law_1135 h
theorem sL_law_1136 {ls : List Value} {x y : Int64} (h : am_R E d mL_law k n 1137 ls (.int (lg_cmp x y) :: st) S iv Q) : am_R E d mL_law k n 1136 ls (.long y :: .long x :: st) S iv Q := am_lcmp dL_law_1136 h
theorem sL_law_1137 {ls : List Value} {x : Int32} (kt : x = 0 → am_R E d mL_law k n 1142 ls st S iv Q) (kf : ¬ x = 0 → am_R E d mL_law k n 1140 ls st S iv Q) : am_R E d mL_law k n 1137 ls (.int x :: st) S iv Q := am_if_eq dL_law_1137 (by decide) kt kf
theorem sL_law_1140 {a0 a1 a2 a3 a4 a5 a6 : Value} (h : am_R E d mL_law k n 1141 [a0, a1, a2, a3, a4, a5, a6] (.int 0 :: st) S iv Q) : am_R E d mL_law k n 1140 [a0, a1, a2, a3, a4, a5, a6] st S iv Q := am_iconst dL_law_1140 (by decide) h
theorem sL_law_1141 {ls : List Value} {x : Int32} (hn : narrow .boolean (.int x) = .int x) (h : Q (.inl (some (.int x))) S iv) : am_R E d mL_law k n 1141 ls [.int x] S iv Q := am_zreturn dL_law_1141 rfl hn h
theorem sL_law_1142 {ls : List Value} (h : am_R E d mL_law k n 1249 ls st S iv Q) : am_R E d mL_law k n 1142 ls st S iv Q := am_goto dL_law_1142 (by decide) h
theorem sL_law_1145 {a0 a1 a2 a3 a4 a5 a6 : Value} (hv : am_rf a1 = true) (h : am_R E d mL_law k n 1146 [a0, a1, a2, a3, a4, a5, a6] (a1 :: st) S iv Q) : am_R E d mL_law k n 1145 [a0, a1, a2, a3, a4, a5, a6] st S iv Q := am_aload_n dL_law_1145 rfl rfl hv h
theorem sL_law_1146 {a0 a1 a2 a3 a4 a5 a6 : Value} (hv : am_rf a0 = true) (h : am_R E d mL_law k n 1147 [a0, a1, a2, a3, a4, a5, a6] (a0 :: st) S iv Q) : am_R E d mL_law k n 1146 [a0, a1, a2, a3, a4, a5, a6] st S iv Q := am_aload_n dL_law_1146 rfl rfl hv h
theorem sL_law_1147 {a0 a1 a2 a3 a5 a6 : Value} {x : Int32} (h : am_R E d mL_law k n 1149 [a0, a1, a2, a3, .int x, a5, a6] (.int x :: st) S iv Q) : am_R E d mL_law k n 1147 [a0, a1, a2, a3, .int x, a5, a6] st S iv Q := am_iload dL_law_1147 rfl h
theorem sL_law_1149 {a0 a1 a2 a3 a4 a5 a6 : Value} (h : am_R E d mL_law k n 1150 [a0, a1, a2, a3, a4, a5, a6] (.int 1 :: st) S iv Q) : am_R E d mL_law k n 1149 [a0, a1, a2, a3, a4, a5, a6] st S iv Q := am_iconst dL_law_1149 (by decide) h
theorem sL_law_1150 {ls : List Value} {x y : Int32} (h : am_R E d mL_law k n 1151 ls (.int (x + y) :: st) S iv Q) : am_R E d mL_law k n 1150 ls (.int y :: .int x :: st) S iv Q := am_iadd dL_law_1150 h
theorem sL_law_1151 {ls : List Value} {i : Int32} (hi : vp_in i (am_L E)) (h : am_R E d mL_law k n 1152 ls (.int (am_xs E i.toNatClampNeg) :: st) S iv Q) : am_R E d mL_law k n 1151 ls (.int i :: .null :: st) S iv Q := am_saload dL_law_1151 hi h
theorem sL_law_1152 {a0 a1 a2 a3 a4 a5 a6 : Value} (hv : am_rf a0 = true) (h : am_R E d mL_law k n 1153 [a0, a1, a2, a3, a4, a5, a6] (a0 :: st) S iv Q) : am_R E d mL_law k n 1152 [a0, a1, a2, a3, a4, a5, a6] st S iv Q := am_aload_n dL_law_1152 rfl rfl hv h
theorem sL_law_1153 {a0 a1 a2 a3 a5 a6 : Value} {x : Int32} (h : am_R E d mL_law k n 1155 [a0, a1, a2, a3, .int x, a5, a6] (.int x :: st) S iv Q) : am_R E d mL_law k n 1153 [a0, a1, a2, a3, .int x, a5, a6] st S iv Q := am_iload dL_law_1153 rfl h
theorem sL_law_1155 {a0 a1 a2 a3 a4 a5 a6 : Value} (h : am_R E d mL_law k n 1156 [a0, a1, a2, a3, a4, a5, a6] (.int 2 :: st) S iv Q) : am_R E d mL_law k n 1155 [a0, a1, a2, a3, a4, a5, a6] st S iv Q := am_iconst dL_law_1155 (by decide) h
theorem sL_law_1156 {ls : List Value} {x y : Int32} (h : am_R E d mL_law k n 1157 ls (.int (x + y) :: st) S iv Q) : am_R E d mL_law k n 1156 ls (.int y :: .int x :: st) S iv Q := am_iadd dL_law_1156 h
theorem sL_law_1157 {ls : List Value} {i : Int32} (hi : vp_in i (am_L E)) (h : am_R E d mL_law k n 1158 ls (.int (am_xs E i.toNatClampNeg) :: st) S iv Q) : am_R E d mL_law k n 1157 ls (.int i :: .null :: st) S iv Q := am_saload dL_law_1157 hi h
theorem sL_law_1158 {a0 a1 a2 a3 a4 a5 a6 : Value} (hv : am_rf a0 = true) (h : am_R E d mL_law k n 1159 [a0, a1, a2, a3, a4, a5, a6] (a0 :: st) S iv Q) : am_R E d mL_law k n 1158 [a0, a1, a2, a3, a4, a5, a6] st S iv Q := am_aload_n dL_law_1158 rfl rfl hv h
theorem sL_law_1159 {a0 a1 a2 a3 a5 a6 : Value} {x : Int32} (h : am_R E d mL_law k n 1161 [a0, a1, a2, a3, .int x, a5, a6] (.int x :: st) S iv Q) : am_R E d mL_law k n 1159 [a0, a1, a2, a3, .int x, a5, a6] st S iv Q := am_iload dL_law_1159 rfl h
theorem sL_law_1161 {a0 a1 a2 a3 a4 a5 a6 : Value} (h : am_R E d mL_law k n 1162 [a0, a1, a2, a3, a4, a5, a6] (.int 3 :: st) S iv Q) : am_R E d mL_law k n 1161 [a0, a1, a2, a3, a4, a5, a6] st S iv Q := am_iconst dL_law_1161 (by decide) h
theorem sL_law_1162 {ls : List Value} {x y : Int32} (h : am_R E d mL_law k n 1163 ls (.int (x + y) :: st) S iv Q) : am_R E d mL_law k n 1162 ls (.int y :: .int x :: st) S iv Q := am_iadd dL_law_1162 h
theorem sL_law_1163 {ls : List Value} {i : Int32} (hi : vp_in i (am_L E)) (h : am_R E d mL_law k n 1164 ls (.int (am_xs E i.toNatClampNeg) :: st) S iv Q) : am_R E d mL_law k n 1163 ls (.int i :: .null :: st) S iv Q := am_saload dL_law_1163 hi h
theorem sL_law_1164 {a0 a1 a2 a3 a4 a5 a6 : Value} (hv : am_rf a3 = true) (h : am_R E d mL_law k n 1165 [a0, a1, a2, a3, a4, a5, a6] (a3 :: st) S iv Q) : am_R E d mL_law k n 1164 [a0, a1, a2, a3, a4, a5, a6] st S iv Q := am_aload_n dL_law_1164 rfl rfl hv h
theorem sL_law_1165 {ls : List Value} {x1 x2 x3 x4 x5 : Value} (hst : (st.map fun v => v.category).sum ≤ 8) (hM : am_M E d mL_odds 0 0 [x1, x2, x3, x4, x5] S iv (am_K3 E (d + 1) mL_law k n 1165 ls st Q)) : am_R E (d + 1) mL_law k n 1165 ls (x5 :: x4 :: x3 :: x2 :: x1 :: st) S iv Q := am_cSH (M' := mL_odds) (as := [x1, x2, x3, x4, x5]) dL_law_1165 (by decide) wq_1413 wq_1414 wq_1230 wq_1411 hy_L_odds (by decide) hst (by omega) (by omega) hM
theorem sL_law_1165_k {ls : List Value} {x1 x2 x3 x4 x5 : Value} {k' n' : Nat} (hst : (st.map fun v => v.category).sum ≤ 8) (hM : am_M E d mL_odds k' n' [x1, x2, x3, x4, x5] S iv (am_K3 E (d + 1) mL_law k n 1165 ls st Q)) : am_R E (d + 1) mL_law (k' + k) (n' + n) 1165 ls (x5 :: x4 :: x3 :: x2 :: x1 :: st) S iv Q := am_cSH (M' := mL_odds) (as := [x1, x2, x3, x4, x5]) dL_law_1165 (by decide) wq_1413 wq_1414 wq_1230 wq_1411 hy_L_odds (by decide) hst (by omega) (by omega) hM
theorem sL_law_1168 {a0 a1 a2 a3 a4 a5 a6 : Value} {x : Int32} (h : am_R E d mL_law k n 1170 [a0, a1, a2, a3, a4, .int x, a6] st S iv Q) : am_R E d mL_law k n 1168 [a0, a1, a2, a3, a4, a5, a6] (.int x :: st) S iv Q := am_istore dL_law_1168 (by decide) h
theorem sL_law_1170 {a0 a1 a2 a3 a4 a5 a6 : Value} (hv : am_rf a2 = true) (h : am_R E d mL_law k n 1171 [a0, a1, a2, a3, a4, a5, a6] (a2 :: st) S iv Q) : am_R E d mL_law k n 1170 [a0, a1, a2, a3, a4, a5, a6] st S iv Q := am_aload_n dL_law_1170 rfl rfl hv h
theorem sL_law_1171 {a0 a1 a2 a3 a4 a5 a6 : Value} (hv : am_rf a0 = true) (h : am_R E d mL_law k n 1172 [a0, a1, a2, a3, a4, a5, a6] (a0 :: st) S iv Q) : am_R E d mL_law k n 1171 [a0, a1, a2, a3, a4, a5, a6] st S iv Q := am_aload_n dL_law_1171 rfl rfl hv h
theorem sL_law_1172 {a0 a1 a2 a3 a5 a6 : Value} {x : Int32} (h : am_R E d mL_law k n 1174 [a0, a1, a2, a3, .int x, a5, a6] (.int x :: st) S iv Q) : am_R E d mL_law k n 1172 [a0, a1, a2, a3, .int x, a5, a6] st S iv Q := am_iload dL_law_1172 rfl h
theorem sL_law_1174 {a0 a1 a2 a3 a4 a5 a6 : Value} (h : am_R E d mL_law k n 1175 [a0, a1, a2, a3, a4, a5, a6] (.int 1 :: st) S iv Q) : am_R E d mL_law k n 1174 [a0, a1, a2, a3, a4, a5, a6] st S iv Q := am_iconst dL_law_1174 (by decide) h
theorem sL_law_1175 {ls : List Value} {x y : Int32} (h : am_R E d mL_law k n 1176 ls (.int (x + y) :: st) S iv Q) : am_R E d mL_law k n 1175 ls (.int y :: .int x :: st) S iv Q := am_iadd dL_law_1175 h
theorem sL_law_1176 {ls : List Value} {i : Int32} (hi : vp_in i (am_L E)) (h : am_R E d mL_law k n 1177 ls (.int (am_xs E i.toNatClampNeg) :: st) S iv Q) : am_R E d mL_law k n 1176 ls (.int i :: .null :: st) S iv Q := am_saload dL_law_1176 hi h
theorem sL_law_1177 {a0 a1 a2 a3 a4 a5 a6 : Value} (hv : am_rf a0 = true) (h : am_R E d mL_law k n 1178 [a0, a1, a2, a3, a4, a5, a6] (a0 :: st) S iv Q) : am_R E d mL_law k n 1177 [a0, a1, a2, a3, a4, a5, a6] st S iv Q := am_aload_n dL_law_1177 rfl rfl hv h
theorem sL_law_1178 {a0 a1 a2 a3 a5 a6 : Value} {x : Int32} (h : am_R E d mL_law k n 1180 [a0, a1, a2, a3, .int x, a5, a6] (.int x :: st) S iv Q) : am_R E d mL_law k n 1178 [a0, a1, a2, a3, .int x, a5, a6] st S iv Q := am_iload dL_law_1178 rfl h
theorem sL_law_1180 {a0 a1 a2 a3 a4 a5 a6 : Value} (h : am_R E d mL_law k n 1181 [a0, a1, a2, a3, a4, a5, a6] (.int 2 :: st) S iv Q) : am_R E d mL_law k n 1180 [a0, a1, a2, a3, a4, a5, a6] st S iv Q := am_iconst dL_law_1180 (by decide) h
theorem sL_law_1181 {ls : List Value} {x y : Int32} (h : am_R E d mL_law k n 1182 ls (.int (x + y) :: st) S iv Q) : am_R E d mL_law k n 1181 ls (.int y :: .int x :: st) S iv Q := am_iadd dL_law_1181 h
theorem sL_law_1182 {ls : List Value} {i : Int32} (hi : vp_in i (am_L E)) (h : am_R E d mL_law k n 1183 ls (.int (am_xs E i.toNatClampNeg) :: st) S iv Q) : am_R E d mL_law k n 1182 ls (.int i :: .null :: st) S iv Q := am_saload dL_law_1182 hi h
theorem sL_law_1183 {a0 a1 a2 a3 a4 a5 a6 : Value} (hv : am_rf a0 = true) (h : am_R E d mL_law k n 1184 [a0, a1, a2, a3, a4, a5, a6] (a0 :: st) S iv Q) : am_R E d mL_law k n 1183 [a0, a1, a2, a3, a4, a5, a6] st S iv Q := am_aload_n dL_law_1183 rfl rfl hv h
theorem sL_law_1184 {a0 a1 a2 a3 a5 a6 : Value} {x : Int32} (h : am_R E d mL_law k n 1186 [a0, a1, a2, a3, .int x, a5, a6] (.int x :: st) S iv Q) : am_R E d mL_law k n 1184 [a0, a1, a2, a3, .int x, a5, a6] st S iv Q := am_iload dL_law_1184 rfl h
theorem sL_law_1186 {a0 a1 a2 a3 a4 a5 a6 : Value} (h : am_R E d mL_law k n 1187 [a0, a1, a2, a3, a4, a5, a6] (.int 3 :: st) S iv Q) : am_R E d mL_law k n 1186 [a0, a1, a2, a3, a4, a5, a6] st S iv Q := am_iconst dL_law_1186 (by decide) h
theorem sL_law_1187 {ls : List Value} {x y : Int32} (h : am_R E d mL_law k n 1188 ls (.int (x + y) :: st) S iv Q) : am_R E d mL_law k n 1187 ls (.int y :: .int x :: st) S iv Q := am_iadd dL_law_1187 h
theorem sL_law_1188 {ls : List Value} {i : Int32} (hi : vp_in i (am_L E)) (h : am_R E d mL_law k n 1189 ls (.int (am_xs E i.toNatClampNeg) :: st) S iv Q) : am_R E d mL_law k n 1188 ls (.int i :: .null :: st) S iv Q := am_saload dL_law_1188 hi h
theorem sL_law_1189 {ls : List Value} {x1 x2 x3 : Value} {a : Nat} (ha : S.1 a = some (.inl 10)) (hst : (st.map fun v => v.category).sum ≤ 8) (hM : am_M E d mX10_odds 0 0 [.ref a, x1, x2, x3] S iv (am_K3 E (d + 1) mL_law k n 1189 ls st Q)) : am_R E (d + 1) mL_law k n 1189 ls (x3 :: x2 :: x1 :: .ref a :: st) S iv Q := am_cV (ci := 10) (M' := mX10_odds) (as := [x1, x2, x3]) dL_law_1189 rfl rfl rfl wq_1417 wq_1418 wq_1419 wq_808 wq_1415 hy_X10_odds (by decide) ha hst (by omega) (by omega) hM
theorem sL_law_1189_k {ls : List Value} {x1 x2 x3 : Value} {k' n' : Nat} {a : Nat} (ha : S.1 a = some (.inl 10)) (hst : (st.map fun v => v.category).sum ≤ 8) (hM : am_M E d mX10_odds k' n' [.ref a, x1, x2, x3] S iv (am_K3 E (d + 1) mL_law k n 1189 ls st Q)) : am_R E (d + 1) mL_law (k' + k) (n' + n) 1189 ls (x3 :: x2 :: x1 :: .ref a :: st) S iv Q := am_cV (ci := 10) (M' := mX10_odds) (as := [x1, x2, x3]) dL_law_1189 rfl rfl rfl wq_1417 wq_1418 wq_1419 wq_808 wq_1415 hy_X10_odds (by decide) ha hst (by omega) (by omega) hM
theorem sL_law_1192 {a0 a1 a2 a3 a4 a5 a6 : Value} {x : Int32} (h : am_R E d mL_law k n 1194 [a0, a1, a2, a3, a4, a5, .int x] st S iv Q) : am_R E d mL_law k n 1192 [a0, a1, a2, a3, a4, a5, a6] (.int x :: st) S iv Q := am_istore dL_law_1192 (by decide) h
theorem sL_law_1194 {a0 a1 a2 a3 a4 a5 a6 : Value} (hv : am_rf a2 = true) (h : am_R E d mL_law k n 1195 [a0, a1, a2, a3, a4, a5, a6] (a2 :: st) S iv Q) : am_R E d mL_law k n 1194 [a0, a1, a2, a3, a4, a5, a6] st S iv Q := am_aload_n dL_law_1194 rfl rfl hv h
theorem sL_law_1195 {ls : List Value} {a : Nat} (ha : S.1 a = some (.inl 10)) (hst : (st.map fun v => v.category).sum ≤ 8) (hM : am_M E d mX10_thrown 0 0 [.ref a] S iv (am_K3 E (d + 1) mL_law k n 1195 ls st Q)) : am_R E (d + 1) mL_law k n 1195 ls (.ref a :: st) S iv Q := am_cV (ci := 10) (M' := mX10_thrown) (as := []) dL_law_1195 rfl rfl rfl wq_1241 wq_1242 wq_1243 wq_808 wq_1239 hy_X10_thrown (by decide) ha hst (by omega) (by omega) hM
theorem sL_law_1195_k {ls : List Value} {k' n' : Nat} {a : Nat} (ha : S.1 a = some (.inl 10)) (hst : (st.map fun v => v.category).sum ≤ 8) (hM : am_M E d mX10_thrown k' n' [.ref a] S iv (am_K3 E (d + 1) mL_law k n 1195 ls st Q)) : am_R E (d + 1) mL_law (k' + k) (n' + n) 1195 ls (.ref a :: st) S iv Q := am_cV (ci := 10) (M' := mX10_thrown) (as := []) dL_law_1195 rfl rfl rfl wq_1241 wq_1242 wq_1243 wq_808 wq_1239 hy_X10_thrown (by decide) ha hst (by omega) (by omega) hM
theorem sL_law_1198 {a0 a1 a2 a3 a4 a6 : Value} {x : Int32} (h : am_R E d mL_law k n 1200 [a0, a1, a2, a3, a4, .int x, a6] (.int x :: st) S iv Q) : am_R E d mL_law k n 1198 [a0, a1, a2, a3, a4, .int x, a6] st S iv Q := am_iload dL_law_1198 rfl h
theorem sL_law_1200 {ls : List Value} {x y : Int32} (kt : x = y → am_R E d mL_law k n 1205 ls st S iv Q) (kf : ¬ x = y → am_R E d mL_law k n 1203 ls st S iv Q) : am_R E d mL_law k n 1200 ls (.int y :: .int x :: st) S iv Q := am_icmp_eq dL_law_1200 (by decide) kt kf
theorem sL_law_1203 {a0 a1 a2 a3 a4 a5 a6 : Value} (h : am_R E d mL_law k n 1204 [a0, a1, a2, a3, a4, a5, a6] (.int 0 :: st) S iv Q) : am_R E d mL_law k n 1203 [a0, a1, a2, a3, a4, a5, a6] st S iv Q := am_iconst dL_law_1203 (by decide) h
theorem sL_law_1204 {ls : List Value} {x : Int32} (hn : narrow .boolean (.int x) = .int x) (h : Q (.inl (some (.int x))) S iv) : am_R E d mL_law k n 1204 ls [.int x] S iv Q := am_zreturn dL_law_1204 rfl hn h
theorem sL_law_1205 {a0 a1 a2 a3 a4 a6 : Value} {x : Int32} (h : am_R E d mL_law k n 1207 [a0, a1, a2, a3, a4, .int x, a6] (.int x :: st) S iv Q) : am_R E d mL_law k n 1205 [a0, a1, a2, a3, a4, .int x, a6] st S iv Q := am_iload dL_law_1205 rfl h
theorem sL_law_1207 {ls : List Value} {x : Int32} (kt : ¬ x = 0 → am_R E d mL_law k n 1222 ls st S iv Q) (kf : x = 0 → am_R E d mL_law k n 1210 ls st S iv Q) : am_R E d mL_law k n 1207 ls (.int x :: st) S iv Q := am_if_ne dL_law_1207 (by decide) kt kf
theorem sL_law_1210 {a0 a1 a2 a3 a4 a5 a6 : Value} (hv : am_rf a3 = true) (h : am_R E d mL_law k n 1211 [a0, a1, a2, a3, a4, a5, a6] (a3 :: st) S iv Q) : am_R E d mL_law k n 1210 [a0, a1, a2, a3, a4, a5, a6] st S iv Q := am_aload_n dL_law_1210 rfl rfl hv h
theorem sL_law_1211 {a0 a1 a2 a3 a4 a5 a6 : Value} (h : am_R E d mL_law k n 1212 [a0, a1, a2, a3, a4, a5, a6] (.int 0 :: st) S iv Q) : am_R E d mL_law k n 1211 [a0, a1, a2, a3, a4, a5, a6] st S iv Q := am_iconst dL_law_1211 (by decide) h
theorem sL_law_1212 {ls : List Value} {a m : Nat} {i : Int32} (ha : S.1 a = some (.inr (.long, m))) (hi : vp_in i m) (h : am_R E d mL_law k n 1213 ls (.long (S.2.2.1 a i.toNatClampNeg) :: st) S iv Q) : am_R E d mL_law k n 1212 ls (.int i :: .ref a :: st) S iv Q := am_laload dL_law_1212 ha hi h
theorem sL_law_1213 {a0 a1 a2 a3 a4 a5 : Value} {x : Int32} (h : am_R E d mL_law k n 1215 [a0, a1, a2, a3, a4, a5, .int x] (.int x :: st) S iv Q) : am_R E d mL_law k n 1213 [a0, a1, a2, a3, a4, a5, .int x] st S iv Q := am_iload dL_law_1213 rfl h
theorem sL_law_1215 {ls : List Value} {x : Int32} (h : am_R E d mL_law k n 1216 ls (.long x.toInt64 :: st) S iv Q) : am_R E d mL_law k n 1215 ls (.int x :: st) S iv Q := am_i2l dL_law_1215 h
theorem sL_law_1216 {ls : List Value} {x y : Int64} (h : am_R E d mL_law k n 1217 ls (.int (lg_cmp x y) :: st) S iv Q) : am_R E d mL_law k n 1216 ls (.long y :: .long x :: st) S iv Q := am_lcmp dL_law_1216 h
theorem sL_law_1217 {ls : List Value} {x : Int32} (kt : x = 0 → am_R E d mL_law k n 1222 ls st S iv Q) (kf : ¬ x = 0 → am_R E d mL_law k n 1220 ls st S iv Q) : am_R E d mL_law k n 1217 ls (.int x :: st) S iv Q := am_if_eq dL_law_1217 (by decide) kt kf
theorem sL_law_1220 {a0 a1 a2 a3 a4 a5 a6 : Value} (h : am_R E d mL_law k n 1221 [a0, a1, a2, a3, a4, a5, a6] (.int 0 :: st) S iv Q) : am_R E d mL_law k n 1220 [a0, a1, a2, a3, a4, a5, a6] st S iv Q := am_iconst dL_law_1220 (by decide) h
theorem sL_law_1221 {ls : List Value} {x : Int32} (hn : narrow .boolean (.int x) = .int x) (h : Q (.inl (some (.int x))) S iv) : am_R E d mL_law k n 1221 ls [.int x] S iv Q := am_zreturn dL_law_1221 rfl hn h
theorem sL_law_1222 {ls : List Value} (h : am_R E d mL_law k n 1249 ls st S iv Q) : am_R E d mL_law k n 1222 ls st S iv Q := am_goto dL_law_1222 (by decide) h
theorem sL_law_1225 {a0 a1 a2 a3 a4 a5 a6 : Value} (hv : am_rf a1 = true) (h : am_R E d mL_law k n 1226 [a0, a1, a2, a3, a4, a5, a6] (a1 :: st) S iv Q) : am_R E d mL_law k n 1225 [a0, a1, a2, a3, a4, a5, a6] st S iv Q := am_aload_n dL_law_1225 rfl rfl hv h
theorem sL_law_1226 {ls : List Value} {a : Nat} (ha : S.1 a = some (.inl 9)) (hst : (st.map fun v => v.category).sum ≤ 8) (hM : am_M E d mX9_image 0 0 [.ref a] S iv (am_K3 E (d + 1) mL_law k n 1226 ls st Q)) : am_R E (d + 1) mL_law k n 1226 ls (.ref a :: st) S iv Q := am_cV (ci := 9) (M' := mX9_image) (as := []) dL_law_1226 rfl rfl rfl wq_1422 wq_1423 wq_1424 wq_581 wq_1420 hy_X9_image (by decide) ha hst (by omega) (by omega) hM
theorem sL_law_1226_k {ls : List Value} {k' n' : Nat} {a : Nat} (ha : S.1 a = some (.inl 9)) (hst : (st.map fun v => v.category).sum ≤ 8) (hM : am_M E d mX9_image k' n' [.ref a] S iv (am_K3 E (d + 1) mL_law k n 1226 ls st Q)) : am_R E (d + 1) mL_law (k' + k) (n' + n) 1226 ls (.ref a :: st) S iv Q := am_cV (ci := 9) (M' := mX9_image) (as := []) dL_law_1226 rfl rfl rfl wq_1422 wq_1423 wq_1424 wq_581 wq_1420 hy_X9_image (by decide) ha hst (by omega) (by omega) hM
theorem sL_law_1229 {a0 a1 a2 a3 a4 a5 a6 : Value} (hv : am_rf a2 = true) (h : am_R E d mL_law k n 1230 [a0, a1, a2, a3, a4, a5, a6] (a2 :: st) S iv Q) : am_R E d mL_law k n 1229 [a0, a1, a2, a3, a4, a5, a6] st S iv Q := am_aload_n dL_law_1229 rfl rfl hv h
theorem sL_law_1230 {ls : List Value} {a : Nat} (ha : S.1 a = some (.inl 10)) (hst : (st.map fun v => v.category).sum ≤ 8) (hM : am_M E d mX10_image 0 0 [.ref a] S iv (am_K3 E (d + 1) mL_law k n 1230 ls st Q)) : am_R E (d + 1) mL_law k n 1230 ls (.ref a :: st) S iv Q := am_cV (ci := 10) (M' := mX10_image) (as := []) dL_law_1230 rfl rfl rfl wq_1427 wq_1428 wq_1429 wq_808 wq_1425 hy_X10_image (by decide) ha hst (by omega) (by omega) hM
theorem sL_law_1230_k {ls : List Value} {k' n' : Nat} {a : Nat} (ha : S.1 a = some (.inl 10)) (hst : (st.map fun v => v.category).sum ≤ 8) (hM : am_M E d mX10_image k' n' [.ref a] S iv (am_K3 E (d + 1) mL_law k n 1230 ls st Q)) : am_R E (d + 1) mL_law (k' + k) (n' + n) 1230 ls (.ref a :: st) S iv Q := am_cV (ci := 10) (M' := mX10_image) (as := []) dL_law_1230 rfl rfl rfl wq_1427 wq_1428 wq_1429 wq_808 wq_1425 hy_X10_image (by decide) ha hst (by omega) (by omega) hM
theorem sL_law_1233 {ls : List Value} (h : am_R E d mL_law k n 1249 ls st S iv Q) : am_R E d mL_law k n 1233 ls st S iv Q := am_goto dL_law_1233 (by decide) h
theorem sL_law_1236 {a0 a1 a2 a3 a4 a5 a6 : Value} (hv : am_rf a1 = true) (h : am_R E d mL_law k n 1237 [a0, a1, a2, a3, a4, a5, a6] (a1 :: st) S iv Q) : am_R E d mL_law k n 1236 [a0, a1, a2, a3, a4, a5, a6] st S iv Q := am_aload_n dL_law_1236 rfl rfl hv h
theorem sL_law_1237 {ls : List Value} {a : Nat} (ha : S.1 a = some (.inl 9)) (hst : (st.map fun v => v.category).sum ≤ 8) (hM : am_M E d mX9_restore 0 0 [.ref a] S iv (am_K3 E (d + 1) mL_law k n 1237 ls st Q)) : am_R E (d + 1) mL_law k n 1237 ls (.ref a :: st) S iv Q := am_cV (ci := 9) (M' := mX9_restore) (as := []) dL_law_1237 rfl rfl rfl wq_1432 wq_1433 wq_1434 wq_581 wq_1430 hy_X9_restore (by decide) ha hst (by omega) (by omega) hM
theorem sL_law_1237_k {ls : List Value} {k' n' : Nat} {a : Nat} (ha : S.1 a = some (.inl 9)) (hst : (st.map fun v => v.category).sum ≤ 8) (hM : am_M E d mX9_restore k' n' [.ref a] S iv (am_K3 E (d + 1) mL_law k n 1237 ls st Q)) : am_R E (d + 1) mL_law (k' + k) (n' + n) 1237 ls (.ref a :: st) S iv Q := am_cV (ci := 9) (M' := mX9_restore) (as := []) dL_law_1237 rfl rfl rfl wq_1432 wq_1433 wq_1434 wq_581 wq_1430 hy_X9_restore (by decide) ha hst (by omega) (by omega) hM
theorem sL_law_1240 {a0 a1 a2 a3 a4 a5 a6 : Value} (hv : am_rf a2 = true) (h : am_R E d mL_law k n 1241 [a0, a1, a2, a3, a4, a5, a6] (a2 :: st) S iv Q) : am_R E d mL_law k n 1240 [a0, a1, a2, a3, a4, a5, a6] st S iv Q := am_aload_n dL_law_1240 rfl rfl hv h
theorem sL_law_1241 {ls : List Value} {a : Nat} (ha : S.1 a = some (.inl 10)) (hst : (st.map fun v => v.category).sum ≤ 8) (hM : am_M E d mX10_restore 0 0 [.ref a] S iv (am_K3 E (d + 1) mL_law k n 1241 ls st Q)) : am_R E (d + 1) mL_law k n 1241 ls (.ref a :: st) S iv Q := am_cV (ci := 10) (M' := mX10_restore) (as := []) dL_law_1241 rfl rfl rfl wq_1437 wq_1438 wq_1439 wq_808 wq_1435 hy_X10_restore (by decide) ha hst (by omega) (by omega) hM
theorem sL_law_1241_k {ls : List Value} {k' n' : Nat} {a : Nat} (ha : S.1 a = some (.inl 10)) (hst : (st.map fun v => v.category).sum ≤ 8) (hM : am_M E d mX10_restore k' n' [.ref a] S iv (am_K3 E (d + 1) mL_law k n 1241 ls st Q)) : am_R E (d + 1) mL_law (k' + k) (n' + n) 1241 ls (.ref a :: st) S iv Q := am_cV (ci := 10) (M' := mX10_restore) (as := []) dL_law_1241 rfl rfl rfl wq_1437 wq_1438 wq_1439 wq_808 wq_1435 hy_X10_restore (by decide) ha hst (by omega) (by omega) hM
theorem sL_law_1244 {ls : List Value} {x y : Int32} (kt : x = y → am_R E d mL_law k n 1249 ls st S iv Q) (kf : ¬ x = y → am_R E d mL_law k n 1247 ls st S iv Q) : am_R E d mL_law k n 1244 ls (.int y :: .int x :: st) S iv Q := am_icmp_eq dL_law_1244 (by decide) kt kf
theorem sL_law_1247 {a0 a1 a2 a3 a4 a5 a6 : Value} (h : am_R E d mL_law k n 1248 [a0, a1, a2, a3, a4, a5, a6] (.int 0 :: st) S iv Q) : am_R E d mL_law k n 1247 [a0, a1, a2, a3, a4, a5, a6] st S iv Q := am_iconst dL_law_1247 (by decide) h
theorem sL_law_1248 {ls : List Value} {x : Int32} (hn : narrow .boolean (.int x) = .int x) (h : Q (.inl (some (.int x))) S iv) : am_R E d mL_law k n 1248 ls [.int x] S iv Q := am_zreturn dL_law_1248 rfl hn h
theorem sL_law_1249 {a0 a1 a2 a3 a5 a6 : Value} {x : Int32} (h : am_R E d mL_law k n 1252 [a0, a1, a2, a3, .int (x + 6), a5, a6] st S iv Q) : am_R E d mL_law k n 1249 [a0, a1, a2, a3, .int x, a5, a6] st S iv Q := am_iinc dL_law_1249 rfl rfl (by decide) h
theorem sL_law_1252 {ls : List Value} (h : am_R E d mL_law k n 23 ls st S iv Q) : am_R E d mL_law k n 1252 ls st S iv Q := am_goto dL_law_1252 (by decide) h
theorem sL_law_1255 {a0 a1 a2 a3 a4 a5 a6 : Value} (h : am_R E d mL_law k n 1256 [a0, a1, a2, a3, a4, a5, a6] (.int 1 :: st) S iv Q) : am_R E d mL_law k n 1255 [a0, a1, a2, a3, a4, a5, a6] st S iv Q := am_iconst dL_law_1255 (by decide) h
theorem sL_law_1256 {ls : List Value} {x : Int32} (hn : narrow .boolean (.int x) = .int x) (h : Q (.inl (some (.int x))) S iv) : am_R E d mL_law k n 1256 ls [.int x] S iv Q := am_zreturn dL_law_1256 rfl hn h
end R13_L
