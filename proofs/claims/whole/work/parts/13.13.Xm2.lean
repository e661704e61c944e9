section R13_Xm2
variable {E : am_E} {d k n : Nat} {st : List Value} {S : am_S} {iv : am_I} {Q : am_O → am_S → am_I → Prop}
theorem dX10_reachedBy_0 : decode cX10_reachedBy 0 = .ok (.iconst 0, 1) := by decide +kernel
theorem dX10_reachedBy_1 : decode cX10_reachedBy 1 = .ok (.istore_n 2, 1) := by decide +kernel
theorem dX10_reachedBy_2 : decode cX10_reachedBy 2 = .ok (.iconst 0, 1) := by decide +kernel
theorem dX10_reachedBy_3 : decode cX10_reachedBy 3 = .ok (.istore_n 3, 1) := by decide +kernel
theorem dX10_reachedBy_4 : decode cX10_reachedBy 4 = .ok (.iload_n 3, 1) := by decide +kernel
theorem dX10_reachedBy_5 : decode cX10_reachedBy 5 = .ok (.aload_n 0, 1) := by decide +kernel
theorem dX10_reachedBy_6 : decode cX10_reachedBy 6 = .ok (.getfield 49, 3) := by decide +kernel
theorem dX10_reachedBy_9 : decode cX10_reachedBy 9 = .ok (.iconst 2, 1) := by decide +kernel
theorem dX10_reachedBy_10 : decode cX10_reachedBy 10 = .ok (.iaload, 1) := by decide +kernel
theorem dX10_reachedBy_11 : decode cX10_reachedBy 11 = .ok (.if_icmp .gt 57, 3) := by decide +kernel
theorem dX10_reachedBy_14 : decode cX10_reachedBy 14 = .ok (.iconst 0, 1) := by decide +kernel
theorem dX10_reachedBy_15 : decode cX10_reachedBy 15 = .ok (.istore 4, 2) := by decide +kernel
theorem dX10_reachedBy_17 : decode cX10_reachedBy 17 = .ok (.iload 4, 2) := by decide +kernel
theorem dX10_reachedBy_19 : decode cX10_reachedBy 19 = .ok (.aload_n 0, 1) := by decide +kernel
theorem dX10_reachedBy_20 : decode cX10_reachedBy 20 = .ok (.getfield 49, 3) := by decide +kernel
theorem dX10_reachedBy_23 : decode cX10_reachedBy 23 = .ok (.iconst 2, 1) := by decide +kernel
theorem dX10_reachedBy_24 : decode cX10_reachedBy 24 = .ok (.iaload, 1) := by decide +kernel
theorem dX10_reachedBy_25 : decode cX10_reachedBy 25 = .ok (.if_icmp .ge 37, 3) := by decide +kernel
theorem dX10_reachedBy_28 : decode cX10_reachedBy 28 = .ok (.iload_n 2, 1) := by decide +kernel
theorem dX10_reachedBy_29 : decode cX10_reachedBy 29 = .ok (.iload 4, 2) := by decide +kernel
theorem dX10_reachedBy_31 : decode cX10_reachedBy 31 = .ok (.invokestatic 328, 3) := by decide +kernel
theorem dX10_reachedBy_34 : decode cX10_reachedBy 34 = .ok (.ifCond .ne 22, 3) := by decide +kernel
theorem dX10_reachedBy_37 : decode cX10_reachedBy 37 = .ok (.aload_n 0, 1) := by decide +kernel
theorem dX10_reachedBy_38 : decode cX10_reachedBy 38 = .ok (.iload 4, 2) := by decide +kernel
theorem dX10_reachedBy_40 : decode cX10_reachedBy 40 = .ok (.iload_n 1, 1) := by decide +kernel
theorem dX10_reachedBy_41 : decode cX10_reachedBy 41 = .ok (.iload_n 2, 1) := by decide +kernel
theorem dX10_reachedBy_42 : decode cX10_reachedBy 42 = .ok (.iand, 1) := by decide +kernel
theorem dX10_reachedBy_43 : decode cX10_reachedBy 43 = .ok (.invokevirtual 345, 3) := by decide +kernel
theorem dX10_reachedBy_46 : decode cX10_reachedBy 46 = .ok (.ifCond .eq 10, 3) := by decide +kernel
theorem dX10_reachedBy_49 : decode cX10_reachedBy 49 = .ok (.iload_n 2, 1) := by decide +kernel
theorem dX10_reachedBy_50 : decode cX10_reachedBy 50 = .ok (.iconst 1, 1) := by decide +kernel
theorem dX10_reachedBy_51 : decode cX10_reachedBy 51 = .ok (.iload 4, 2) := by decide +kernel
theorem dX10_reachedBy_53 : decode cX10_reachedBy 53 = .ok (.ishl, 1) := by decide +kernel
theorem dX10_reachedBy_54 : decode cX10_reachedBy 54 = .ok (.ior, 1) := by decide +kernel
theorem dX10_reachedBy_55 : decode cX10_reachedBy 55 = .ok (.istore_n 2, 1) := by decide +kernel
theorem dX10_reachedBy_56 : decode cX10_reachedBy 56 = .ok (.iinc 4 1, 3) := by decide +kernel
theorem dX10_reachedBy_59 : decode cX10_reachedBy 59 = .ok (.goto (-42), 3) := by decide +kernel
theorem dX10_reachedBy_62 : decode cX10_reachedBy 62 = .ok (.iinc 3 1, 3) := by decide +kernel
theorem dX10_reachedBy_65 : decode cX10_reachedBy 65 = .ok (.goto (-61), 3) := by decide +kernel
theorem dX10_reachedBy_68 : decode cX10_reachedBy 68 = .ok (.iload_n 2, 1) := by decide +kernel
theorem dX10_reachedBy_69 : decode cX10_reachedBy 69 = .ok (.ireturn, 1) := by decide +kernel
theorem sX10_reachedBy_0 {a0 a1 a2 a3 a4 : Value} (h : am_R E d mX10_reachedBy k n 1 [a0, a1, a2, a3, a4] (.int 0 :: st) S iv Q) : am_R E d mX10_reachedBy k n 0 [a0, a1, a2, a3, a4] st S iv Q := am_iconst dX10_reachedBy_0 (by decide) h
theorem sX10_reachedBy_1 {a0 a1 a2 a3 a4 : Value} {x : Int32} (h : am_R E d mX10_reachedBy k n 2 [a0, a1, .int x, a3, a4] st S iv Q) : am_R E d mX10_reachedBy k n 1 [a0, a1, a2, a3, a4] (.int x :: st) S iv Q := am_istore_n dX10_reachedBy_1 rfl (by decide) h
theorem sX10_reachedBy_2 {a0 a1 a2 a3 a4 : Value} (h : am_R E d mX10_reachedBy k n 3 [a0, a1, a2, a3, a4] (.int 0 :: st) S iv Q) : am_R E d mX10_reachedBy k n 2 [a0, a1, a2, a3, a4] st S iv Q := am_iconst dX10_reachedBy_2 (by decide) h
theorem sX10_reachedBy_3 {a0 a1 a2 a3 a4 : Value} {x : Int32} (h : am_R E d mX10_reachedBy k n 4 [a0, a1, a2, .int x, a4] st S iv Q) : am_R E d mX10_reachedBy k n 3 [a0, a1, a2, a3, a4] (.int x :: st) S iv Q := am_istore_n dX10_reachedBy_3 rfl (by decide) h
theorem sX10_reachedBy_4 {a0 a1 a2 a4 : Value} {x : Int32} (h : am_R E d mX10_reachedBy k n 5 [a0, a1, a2, .int x, a4] (.int x :: st) S iv Q) : am_R E d mX10_reachedBy k n 4 [a0, a1, a2, .int x, a4] st S iv Q := am_iload_n dX10_reachedBy_4 rfl rfl h
theorem sX10_reachedBy_5 {a0 a1 a2 a3 a4 : Value} (hv : am_rf a0 = true) (h : am_R E d mX10_reachedBy k n 6 [a0, a1, a2, a3, a4] (a0 :: st) S iv Q) : am_R E d mX10_reachedBy k n 5 [a0, a1, a2, a3, a4] st S iv Q := am_aload_n dX10_reachedBy_5 rfl rfl hv h
theorem sX10_reachedBy_6 {ls : List Value} {a b : Nat} (ha : S.1 a = some (.inl 10)) (hb : S.2.1 a 4 = some b) (h : am_R E d mX10_reachedBy k n 9 ls (.ref b :: st) S iv Q) : am_R E d mX10_reachedBy k n 6 ls (.ref a :: st) S iv Q := am_getR (ci := 10) dX10_reachedBy_6 rfl rfl (by decide) wq_772 uq_10 rfl ha hb h
theorem sX10_reachedBy_9 {a0 a1 a2 a3 a4 : Value} (h : am_R E d mX10_reachedBy k n 10 [a0, a1, a2, a3, a4] (.int 2 :: st) S iv Q) : am_R E d mX10_reachedBy k n 9 [a0, a1, a2, a3, a4] st S iv Q := am_iconst dX10_reachedBy_9 (by decide) h
theorem sX10_reachedBy_10 {ls : List Value} {a m : Nat} {i : Int32} (ha : S.1 a = some (.inr (.int, m))) (hi : vp_in i m) (h : am_R E d mX10_reachedBy k n 11 ls (.int (iv a i.toNatClampNeg) :: st) S iv Q) : am_R E d mX10_reachedBy k n 10 ls (.int i :: .ref a :: st) S iv Q := am_iaload dX10_reachedBy_10 ha hi h
theorem sX10_reachedBy_11 {ls : List Value} {x y : Int32} (kt : y < x → am_R E d mX10_reachedBy k n 68 ls st S iv Q) (kf : ¬ y < x → am_R E d mX10_reachedBy k n 14 ls st S iv Q) : am_R E d mX10_reachedBy k n 11 ls (.int y :: .int x :: st) S iv Q := am_icmp_gt dX10_reachedBy_11 (by decide) kt kf
theorem sX10_reachedBy_14 {a0 a1 a2 a3 a4 : Value} (h : am_R E d mX10_reachedBy k n 15 [a0, a1, a2, a3, a4] (.int 0 :: st) S iv Q) : am_R E d mX10_reachedBy k n 14 [a0, a1, a2, a3, a4] st S iv Q := am_iconst dX10_reachedBy_14 (by decide) h
theorem sX10_reachedBy_15 {a0 a1 a2 a3 a4 : Value} {x : Int32} (h : am_R E d mX10_reachedBy k n 17 [a0, a1, a2, a3, .int x] st S iv Q) : am_R E d mX10_reachedBy k n 15 [a0, a1, a2, a3, a4] (.int x :: st) S iv Q := am_istore dX10_reachedBy_15 (by decide) h
theorem sX10_reachedBy_17 {a0 a1 a2 a3 : Value} {x : Int32} (h : am_R E d mX10_reachedBy k n 19 [a0, a1, a2, a3, .int x] (.int x :: st) S iv Q) : am_R E d mX10_reachedBy k n 17 [a0, a1, a2, a3, .int x] st S iv Q := am_iload dX10_reachedBy_17 rfl h
theorem sX10_reachedBy_19 {a0 a1 a2 a3 a4 : Value} (hv : am_rf a0 = true) (h : am_R E d mX10_reachedBy k n 20 [a0, a1, a2, a3, a4] (a0 :: st) S iv Q) : am_R E d mX10_reachedBy k n 19 [a0, a1, a2, a3, a4] st S iv Q := am_aload_n dX10_reachedBy_19 rfl rfl hv h
theorem sX10_reachedBy_20 {ls : List Value} {a b : Nat} (ha : S.1 a = some (.inl 10)) (hb : S.2.1 a 4 = some b) (h : am_R E d mX10_reachedBy k n 23 ls (.ref b :: st) S iv Q) : am_R E d mX10_reachedBy k n 20 ls (.ref a :: st) S iv Q := am_getR (ci := 10) dX10_reachedBy_20 rfl rfl (by decide) wq_772 uq_10 rfl ha hb h
theorem sX10_reachedBy_23 {a0 a1 a2 a3 a4 : Value} (h : am_R E d mX10_reachedBy k n 24 [a0, a1, a2, a3, a4] (.int 2 :: st) S iv Q) : am_R E d mX10_reachedBy k n 23 [a0, a1, a2, a3, a4] st S iv Q := am_iconst dX10_reachedBy_23 (by decide) h
theorem sX10_reachedBy_24 {ls : List Value} {a m : Nat} {i : Int32} (ha : S.1 a = some (.inr (.int, m))) (hi : vp_in i m) (h : am_R E d mX10_reachedBy k n 25 ls (.int (iv a i.toNatClampNeg) :: st) S iv Q) : am_R E d mX10_reachedBy k n 24 ls (.int i :: .ref a :: st) S iv Q := am_iaload dX10_reachedBy_24 ha hi h
theorem sX10_reachedBy_25 {ls : List Value} {x y : Int32} (kt : y ≤ x → am_R E d mX10_reachedBy k n 62 ls st S iv Q) (kf : ¬ y ≤ x → am_R E d mX10_reachedBy k n 28 ls st S iv Q) : am_R E d mX10_reachedBy k n 25 ls (.int y :: .int x :: st) S iv Q := am_icmp_ge dX10_reachedBy_25 (by decide) kt kf
theorem sX10_reachedBy_28 {a0 a1 a3 a4 : Value} {x : Int32} (h : am_R E d mX10_reachedBy k n 29 [a0, a1, .int x, a3, a4] (.int x :: st) S iv Q) : am_R E d mX10_reachedBy k n 28 [a0, a1, .int x, a3, a4] st S iv Q := am_iload_n dX10_reachedBy_28 rfl rfl h
theorem sX10_reachedBy_29 {a0 a1 a2 a3 : Value} {x : Int32} (h : am_R E d mX10_reachedBy k n 31 [a0, a1, a2, a3, .int x] (.int x :: st) S iv Q) : am_R E d mX10_reachedBy k n 29 [a0, a1, a2, a3, .int x] st S iv Q := am_iload dX10_reachedBy_29 rfl h
theorem sX10_reachedBy_31 {ls : List Value} {x1 x2 : Value} (hst : (st.map fun v => v.category).sum ≤ 8) (hM : am_M E d mX10_has 0 0 [x1, x2] S iv (am_K3 E (d + 1) mX10_reachedBy k n 31 ls st Q)) : am_R E (d + 1) mX10_reachedBy k n 31 ls (x2 :: x1 :: st) S iv Q := am_cS (M' := mX10_has) (as := [x1, x2]) dX10_reachedBy_31 rfl wq_987 wq_988 wq_808 wq_985 hy_X10_has (by decide) hst (by omega) (by omega) hM
theorem sX10_reachedBy_31_k {ls : List Value} {x1 x2 : Value} {k' n' : Nat} (hst : (st.map fun v => v.category).sum ≤ 8) (hM : am_M E d mX10_has k' n' [x1, x2] S iv (am_K3 E (d + 1) mX10_reachedBy k n 31 ls st Q)) : am_R E (d + 1) mX10_reachedBy (k' + k) (n' + n) 31 ls (x2 :: x1 :: st) S iv Q := am_cS (M' := mX10_has) (as := [x1, x2]) dX10_reachedBy_31 rfl wq_987 wq_988 wq_808 wq_985 hy_X10_has (by decide) hst (by omega) (by omega) hM
theorem sX10_reachedBy_34 {ls : List Value} {x : Int32} (kt : ¬ x = 0 → am_R E d mX10_reachedBy k n 56 ls st S iv Q) (kf : x = 0 → am_R E d mX10_reachedBy k n 37 ls st S iv Q) : am_R E d mX10_reachedBy k n 34 ls (.int x :: st) S iv Q := am_if_ne dX10_reachedBy_34 (by decide) kt kf
theorem sX10_reachedBy_37 {a0 a1 a2 a3 a4 : Value} (hv : am_rf a0 = true) (h : am_R E d mX10_reachedBy k n 38 [a0, a1, a2, a3, a4] (a0 :: st) S iv Q) : am_R E d mX10_reachedBy k n 37 [a0, a1, a2, a3, a4] st S iv Q := am_aload_n dX10_reachedBy_37 rfl rfl hv h
theorem sX10_reachedBy_38 {a0 a1 a2 a3 : Value} {x : Int32} (h : am_R E d mX10_reachedBy k n 40 [a0, a1, a2, a3, .int x] (.int x :: st) S iv Q) : am_R E d mX10_reachedBy k n 38 [a0, a1, a2, a3, .int x] st S iv Q := am_iload dX10_reachedBy_38 rfl h
theorem sX10_reachedBy_40 {a0 a2 a3 a4 : Value} {x : Int32} (h : am_R E d mX10_reachedBy k n 41 [a0, .int x, a2, a3, a4] (.int x :: st) S iv Q) : am_R E d mX10_reachedBy k n 40 [a0, .int x, a2, a3, a4] st S iv Q := am_iload_n dX10_reachedBy_40 rfl rfl h
theorem sX10_reachedBy_41 {a0 a1 a3 a4 : Value} {x : Int32} (h : am_R E d mX10_reachedBy k n 42 [a0, a1, .int x, a3, a4] (.int x :: st) S iv Q) : am_R E d mX10_reachedBy k n 41 [a0, a1, .int x, a3, a4] st S iv Q := am_iload_n dX10_reachedBy_41 rfl rfl h
theorem sX10_reachedBy_42 {ls : List Value} {x y : Int32} (h : am_R E d mX10_reachedBy k n 43 ls (.int (x &&& y) :: st) S iv Q) : am_R E d mX10_reachedBy k n 42 ls (.int y :: .int x :: st) S iv Q := am_iand dX10_reachedBy_42 h
theorem sX10_reachedBy_43 {ls : List Value} {x1 x2 : Value} {a : Nat} (ha : S.1 a = some (.inl 10)) (hst : (st.map fun v => v.category).sum ≤ 8) (hM : am_M E d mX10_isReachedBy 0 0 [.ref a, x1, x2] S iv (am_K3 E (d + 1) mX10_reachedBy k n 43 ls st Q)) : am_R E (d + 1) mX10_reachedBy k n 43 ls (x2 :: x1 :: .ref a :: st) S iv Q := am_cV (ci := 10) (M' := mX10_isReachedBy) (as := [x1, x2]) dX10_reachedBy_43 rfl rfl rfl wq_1011 wq_1012 wq_1013 wq_808 wq_1009 hy_X10_isReachedBy (by decide) ha hst (by omega) (by omega) hM
theorem sX10_reachedBy_43_k {ls : List Value} {x1 x2 : Value} {k' n' : Nat} {a : Nat} (ha : S.1 a = some (.inl 10)) (hst : (st.map fun v => v.category).sum ≤ 8) (hM : am_M E d mX10_isReachedBy k' n' [.ref a, x1, x2] S iv (am_K3 E (d + 1) mX10_reachedBy k n 43 ls st Q)) : am_R E (d + 1) mX10_reachedBy (k' + k) (n' + n) 43 ls (x2 :: x1 :: .ref a :: st) S iv Q := am_cV (ci := 10) (M' := mX10_isReachedBy) (as := [x1, x2]) dX10_reachedBy_43 rfl rfl rfl wq_1011 wq_1012 wq_1013 wq_808 wq_1009 hy_X10_isReachedBy (by decide) ha hst (by omega) (by omega) hM
theorem sX10_reachedBy_46 {ls : List Value} {x : Int32} (kt : x = 0 → am_R E d mX10_reachedBy k n 56 ls st S iv Q) (kf : ¬ x = 0 → am_R E d mX10_reachedBy k n 49 ls st S iv Q) : am_R E d mX10_reachedBy k n 46 ls (.int x :: st) S iv Q := am_if_eq dX10_reachedBy_46 (by decide) kt kf
theorem sX10_reachedBy_49 {a0 a1 a3 a4 : Value} {x : Int32} (h : am_R E d mX10_reachedBy k n 50 [a0, a1, .int x, a3, a4] (.int x :: st) S iv Q) : am_R E d mX10_reachedBy k n 49 [a0, a1, .int x, a3, a4] st S iv Q := am_iload_n dX10_reachedBy_49 rfl rfl h
theorem sX10_reachedBy_50 {a0 a1 a2 a3 a4 : Value} (h : am_R E d mX10_reachedBy k n 51 [a0, a1, a2, a3, a4] (.int 1 :: st) S iv Q) : am_R E d mX10_reachedBy k n 50 [a0, a1, a2, a3, a4] st S iv Q := am_iconst dX10_reachedBy_50 (by decide) h
theorem sX10_reachedBy_51 {a0 a1 a2 a3 : Value} {x : Int32} (h : am_R E d mX10_reachedBy k n 53 [a0, a1, a2, a3, .int x] (.int x :: st) S iv Q) : am_R E d mX10_reachedBy k n 51 [a0, a1, a2, a3, .int x] st S iv Q := am_iload dX10_reachedBy_51 rfl h
theorem sX10_reachedBy_53 {ls : List Value} {x y : Int32} (h : am_R E d mX10_reachedBy k n 54 ls (.int (x <<< (y &&& 31)) :: st) S iv Q) : am_R E d mX10_reachedBy k n 53 ls (.int y :: .int x :: st) S iv Q := am_ishl dX10_reachedBy_53 h
theorem sX10_reachedBy_54 {ls : List Value} {x y : Int32} (h : am_R E d mX10_reachedBy k n 55 ls (.int (x ||| y) :: st) S iv Q) : am_R E d mX10_reachedBy k n 54 ls (.int y :: .int x :: st) S iv Q := am_ior dX10_reachedBy_54 h
theorem sX10_reachedBy_55 {a0 a1 a2 a3 a4 : Value} {x : Int32} (h : am_R E d mX10_reachedBy k n 56 [a0, a1, .int x, a3, a4] st S iv Q) : am_R E d mX10_reachedBy k n 55 [a0, a1, a2, a3, a4] (.int x :: st) S iv Q := am_istore_n dX10_reachedBy_55 rfl (by decide) h
theorem sX10_reachedBy_56 {a0 a1 a2 a3 : Value} {x : Int32} (h : am_R E d mX10_reachedBy k n 59 [a0, a1, a2, a3, .int (x + 1)] st S iv Q) : am_R E d mX10_reachedBy k n 56 [a0, a1, a2, a3, .int x] st S iv Q := am_iinc dX10_reachedBy_56 rfl rfl (by decide) h
theorem sX10_reachedBy_59 {ls : List Value} (h : am_R E d mX10_reachedBy k n 17 ls st S iv Q) : am_R E d mX10_reachedBy k n 59 ls st S iv Q := am_goto dX10_reachedBy_59 (by decide) h
theorem sX10_reachedBy_62 {a0 a1 a2 a4 : Value} {x : Int32} (h : am_R E d mX10_reachedBy k n 65 [a0, a1, a2, .int (x + 1), a4] st S iv Q) : am_R E d mX10_reachedBy k n 62 [a0, a1, a2, .int x, a4] st S iv Q := am_iinc dX10_reachedBy_62 rfl rfl (by decide) h
theorem sX10_reachedBy_65 {ls : List Value} (h : am_R E d mX10_reachedBy k n 4 ls st S iv Q) : am_R E d mX10_reachedBy k n 65 ls st S iv Q := am_goto dX10_reachedBy_65 (by decide) h
theorem sX10_reachedBy_68 {a0 a1 a3 a4 : Value} {x : Int32} (h : am_R E d mX10_reachedBy k n 69 [a0, a1, .int x, a3, a4] (.int x :: st) S iv Q) : am_R E d mX10_reachedBy k n 68 [a0, a1, .int x, a3, a4] st S iv Q := am_iload_n dX10_reachedBy_68 rfl rfl h
theorem sX10_reachedBy_69 {ls : List Value} {x : Int32} (h : Q (.inl (some (.int x))) S iv) : am_R E d mX10_reachedBy k n 69 ls [.int x] S iv Q := am_ireturn dX10_reachedBy_69 rfl h
theorem dX10_isReachedBy_0 : decode cX10_isReachedBy 0 = .ok (.aload_n 0, 1) := by decide +kernel
theorem dX10_isReachedBy_1 : decode cX10_isReachedBy 1 = .ok (.getfield 57, 3) := by decide +kernel
theorem dX10_isReachedBy_4 : decode cX10_isReachedBy 4 = .ok (.iload_n 1, 1) := by decide +kernel
theorem dX10_isReachedBy_5 : decode cX10_isReachedBy 5 = .ok (.iaload, 1) := by decide +kernel
theorem dX10_isReachedBy_6 : decode cX10_isReachedBy 6 = .ok (.aload_n 0, 1) := by decide +kernel
theorem dX10_isReachedBy_7 : decode cX10_isReachedBy 7 = .ok (.getfield 49, 3) := by decide +kernel
theorem dX10_isReachedBy_10 : decode cX10_isReachedBy 10 = .ok (.iconst 4, 1) := by decide +kernel
theorem dX10_isReachedBy_11 : decode cX10_isReachedBy 11 = .ok (.iaload, 1) := by decide +kernel
theorem dX10_isReachedBy_12 : decode cX10_isReachedBy 12 = .ok (.if_icmp .ge 5, 3) := by decide +kernel
theorem dX10_isReachedBy_15 : decode cX10_isReachedBy 15 = .ok (.iconst 1, 1) := by decide +kernel
theorem dX10_isReachedBy_16 : decode cX10_isReachedBy 16 = .ok (.ireturn, 1) := by decide +kernel
theorem dX10_isReachedBy_17 : decode cX10_isReachedBy 17 = .ok (.iconst 0, 1) := by decide +kernel
theorem dX10_isReachedBy_18 : decode cX10_isReachedBy 18 = .ok (.istore_n 3, 1) := by decide +kernel
theorem dX10_isReachedBy_19 : decode cX10_isReachedBy 19 = .ok (.iload_n 3, 1) := by decide +kernel
theorem dX10_isReachedBy_20 : decode cX10_isReachedBy 20 = .ok (.aload_n 0, 1) := by decide +kernel
theorem dX10_isReachedBy_21 : decode cX10_isReachedBy 21 = .ok (.getfield 49, 3) := by decide +kernel
theorem dX10_isReachedBy_24 : decode cX10_isReachedBy 24 = .ok (.iconst 2, 1) := by decide +kernel
theorem dX10_isReachedBy_25 : decode cX10_isReachedBy 25 = .ok (.iaload, 1) := by decide +kernel
theorem dX10_isReachedBy_26 : decode cX10_isReachedBy 26 = .ok (.if_icmp .ge 54, 3) := by decide +kernel
theorem dX10_isReachedBy_29 : decode cX10_isReachedBy 29 = .ok (.iload_n 2, 1) := by decide +kernel
theorem dX10_isReachedBy_30 : decode cX10_isReachedBy 30 = .ok (.iload_n 3, 1) := by decide +kernel
theorem dX10_isReachedBy_31 : decode cX10_isReachedBy 31 = .ok (.invokestatic 328, 3) := by decide +kernel
theorem dX10_isReachedBy_34 : decode cX10_isReachedBy 34 = .ok (.ifCond .eq 40, 3) := by decide +kernel
theorem dX10_isReachedBy_37 : decode cX10_isReachedBy 37 = .ok (.aload_n 0, 1) := by decide +kernel
theorem dX10_isReachedBy_38 : decode cX10_isReachedBy 38 = .ok (.iload_n 3, 1) := by decide +kernel
theorem dX10_isReachedBy_39 : decode cX10_isReachedBy 39 = .ok (.iload_n 1, 1) := by decide +kernel
theorem dX10_isReachedBy_40 : decode cX10_isReachedBy 40 = .ok (.invokevirtual 332, 3) := by decide +kernel
theorem dX10_isReachedBy_43 : decode cX10_isReachedBy 43 = .ok (.ifCond .eq 31, 3) := by decide +kernel
theorem dX10_isReachedBy_46 : decode cX10_isReachedBy 46 = .ok (.aload_n 0, 1) := by decide +kernel
theorem dX10_isReachedBy_47 : decode cX10_isReachedBy 47 = .ok (.getfield 57, 3) := by decide +kernel
theorem dX10_isReachedBy_50 : decode cX10_isReachedBy 50 = .ok (.iload_n 1, 1) := by decide +kernel
theorem dX10_isReachedBy_51 : decode cX10_isReachedBy 51 = .ok (.iaload, 1) := by decide +kernel
theorem dX10_isReachedBy_52 : decode cX10_isReachedBy 52 = .ok (.aload_n 0, 1) := by decide +kernel
theorem dX10_isReachedBy_53 : decode cX10_isReachedBy 53 = .ok (.getfield 57, 3) := by decide +kernel
theorem dX10_isReachedBy_56 : decode cX10_isReachedBy 56 = .ok (.iload_n 3, 1) := by decide +kernel
theorem dX10_isReachedBy_57 : decode cX10_isReachedBy 57 = .ok (.iaload, 1) := by decide +kernel
theorem dX10_isReachedBy_58 : decode cX10_isReachedBy 58 = .ok (.isub, 1) := by decide +kernel
theorem dX10_isReachedBy_59 : decode cX10_isReachedBy 59 = .ok (.iconst 1, 1) := by decide +kernel
theorem dX10_isReachedBy_60 : decode cX10_isReachedBy 60 = .ok (.aload_n 0, 1) := by decide +kernel
theorem dX10_isReachedBy_61 : decode cX10_isReachedBy 61 = .ok (.getfield 49, 3) := by decide +kernel
theorem dX10_isReachedBy_64 : decode cX10_isReachedBy 64 = .ok (.iconst 4, 1) := by decide +kernel
theorem dX10_isReachedBy_65 : decode cX10_isReachedBy 65 = .ok (.iaload, 1) := by decide +kernel
theorem dX10_isReachedBy_66 : decode cX10_isReachedBy 66 = .ok (.invokestatic 146, 3) := by decide +kernel
theorem dX10_isReachedBy_69 : decode cX10_isReachedBy 69 = .ok (.ifCond .eq 5, 3) := by decide +kernel
theorem dX10_isReachedBy_72 : decode cX10_isReachedBy 72 = .ok (.iconst 1, 1) := by decide +kernel
theorem dX10_isReachedBy_73 : decode cX10_isReachedBy 73 = .ok (.ireturn, 1) := by decide +kernel
theorem dX10_isReachedBy_74 : decode cX10_isReachedBy 74 = .ok (.iinc 3 1, 3) := by decide +kernel
theorem dX10_isReachedBy_77 : decode cX10_isReachedBy 77 = .ok (.goto (-58), 3) := by decide +kernel
theorem dX10_isReachedBy_80 : decode cX10_isReachedBy 80 = .ok (.iconst 0, 1) := by decide +kernel
theorem dX10_isReachedBy_81 : decode cX10_isReachedBy 81 = .ok (.ireturn, 1) := by decide +kernel
theorem sX10_isReachedBy_0 {a0 a1 a2 a3 : Value} (hv : am_rf a0 = true) (h : am_R E d mX10_isReachedBy k n 1 [a0, a1, a2, a3] (a0 :: st) S iv Q) : am_R E d mX10_isReachedBy k n 0 [a0, a1, a2, a3] st S iv Q := am_aload_n dX10_isReachedBy_0 rfl rfl hv h
theorem sX10_isReachedBy_1 {ls : List Value} {a b : Nat} (ha : S.1 a = some (.inl 10)) (hb : S.2.1 a 7 = some b) (h : am_R E d mX10_isReachedBy k n 4 ls (.ref b :: st) S iv Q) : am_R E d mX10_isReachedBy k n 1 ls (.ref a :: st) S iv Q := am_getR (ci := 10) dX10_isReachedBy_1 rfl rfl (by decide) wq_775 uq_10 rfl ha hb h
theorem sX10_isReachedBy_4 {a0 a2 a3 : Value} {x : Int32} (h : am_R E d mX10_isReachedBy k n 5 [a0, .int x, a2, a3] (.int x :: st) S iv Q) : am_R E d mX10_isReachedBy k n 4 [a0, .int x, a2, a3] st S iv Q := am_iload_n dX10_isReachedBy_4 rfl rfl h
theorem sX10_isReachedBy_5 {ls : List Value} {a m : Nat} {i : Int32} (ha : S.1 a = some (.inr (.int, m))) (hi : vp_in i m) (h : am_R E d mX10_isReachedBy k n 6 ls (.int (iv a i.toNatClampNeg) :: st) S iv Q) : am_R E d mX10_isReachedBy k n 5 ls (.int i :: .ref a :: st) S iv Q := am_iaload dX10_isReachedBy_5 ha hi h
theorem sX10_isReachedBy_6 {a0 a1 a2 a3 : Value} (hv : am_rf a0 = true) (h : am_R E d mX10_isReachedBy k n 7 [a0, a1, a2, a3] (a0 :: st) S iv Q) : am_R E d mX10_isReachedBy k n 6 [a0, a1, a2, a3] st S iv Q := am_aload_n dX10_isReachedBy_6 rfl rfl hv h
theorem sX10_isReachedBy_7 {ls : List Value} {a b : Nat} (ha : S.1 a = some (.inl 10)) (hb : S.2.1 a 4 = some b) (h : am_R E d mX10_isReachedBy k n 10 ls (.ref b :: st) S iv Q) : am_R E d mX10_isReachedBy k n 7 ls (.ref a :: st) S iv Q := am_getR (ci := 10) dX10_isReachedBy_7 rfl rfl (by decide) wq_772 uq_10 rfl ha hb h
theorem sX10_isReachedBy_10 {a0 a1 a2 a3 : Value} (h : am_R E d mX10_isReachedBy k n 11 [a0, a1, a2, a3] (.int 4 :: st) S iv Q) : am_R E d mX10_isReachedBy k n 10 [a0, a1, a2, a3] st S iv Q := am_iconst dX10_isReachedBy_10 (by decide) h
theorem sX10_isReachedBy_11 {ls : List Value} {a m : Nat} {i : Int32} (ha : S.1 a = some (.inr (.int, m))) (hi : vp_in i m) (h : am_R E d mX10_isReachedBy k n 12 ls (.int (iv a i.toNatClampNeg) :: st) S iv Q) : am_R E d mX10_isReachedBy k n 11 ls (.int i :: .ref a :: st) S iv Q := am_iaload dX10_isReachedBy_11 ha hi h
theorem sX10_isReachedBy_12 {ls : List Value} {x y : Int32} (kt : y ≤ x → am_R E d mX10_isReachedBy k n 17 ls st S iv Q) (kf : ¬ y ≤ x → am_R E d mX10_isReachedBy k n 15 ls st S iv Q) : am_R E d mX10_isReachedBy k n 12 ls (.int y :: .int x :: st) S iv Q := am_icmp_ge dX10_isReachedBy_12 (by decide) kt kf
theorem sX10_isReachedBy_15 {a0 a1 a2 a3 : Value} (h : am_R E d mX10_isReachedBy k n 16 [a0, a1, a2, a3] (.int 1 :: st) S iv Q) : am_R E d mX10_isReachedBy k n 15 [a0, a1, a2, a3] st S iv Q := am_iconst dX10_isReachedBy_15 (by decide) h
theorem sX10_isReachedBy_16 {ls : List Value} {x : Int32} (hn : narrow .boolean (.int x) = .int x) (h : Q (.inl (some (.int x))) S iv) : am_R E d mX10_isReachedBy k n 16 ls [.int x] S iv Q := am_zreturn dX10_isReachedBy_16 rfl hn h
theorem sX10_isReachedBy_17 {a0 a1 a2 a3 : Value} (h : am_R E d mX10_isReachedBy k n 18 [a0, a1, a2, a3] (.int 0 :: st) S iv Q) : am_R E d mX10_isReachedBy k n 17 [a0, a1, a2, a3] st S iv Q := am_iconst dX10_isReachedBy_17 (by decide) h
theorem sX10_isReachedBy_18 {a0 a1 a2 a3 : Value} {x : Int32} (h : am_R E d mX10_isReachedBy k n 19 [a0, a1, a2, .int x] st S iv Q) : am_R E d mX10_isReachedBy k n 18 [a0, a1, a2, a3] (.int x :: st) S iv Q := am_istore_n dX10_isReachedBy_18 rfl (by decide) h
theorem sX10_isReachedBy_19 {a0 a1 a2 : Value} {x : Int32} (h : am_R E d mX10_isReachedBy k n 20 [a0, a1, a2, .int x] (.int x :: st) S iv Q) : am_R E d mX10_isReachedBy k n 19 [a0, a1, a2, .int x] st S iv Q := am_iload_n dX10_isReachedBy_19 rfl rfl h
theorem sX10_isReachedBy_20 {a0 a1 a2 a3 : Value} (hv : am_rf a0 = true) (h : am_R E d mX10_isReachedBy k n 21 [a0, a1, a2, a3] (a0 :: st) S iv Q) : am_R E d mX10_isReachedBy k n 20 [a0, a1, a2, a3] st S iv Q := am_aload_n dX10_isReachedBy_20 rfl rfl hv h
theorem sX10_isReachedBy_21 {ls : List Value} {a b : Nat} (ha : S.1 a = some (.inl 10)) (hb : S.2.1 a 4 = some b) (h : am_R E d mX10_isReachedBy k n 24 ls (.ref b :: st) S iv Q) : am_R E d mX10_isReachedBy k n 21 ls (.ref a :: st) S iv Q := am_getR (ci := 10) dX10_isReachedBy_21 rfl rfl (by decide) wq_772 uq_10 rfl ha hb h
theorem sX10_isReachedBy_24 {a0 a1 a2 a3 : Value} (h : am_R E d mX10_isReachedBy k n 25 [a0, a1, a2, a3] (.int 2 :: st) S iv Q) : am_R E d mX10_isReachedBy k n 24 [a0, a1, a2, a3] st S iv Q := am_iconst dX10_isReachedBy_24 (by decide) h
theorem sX10_isReachedBy_25 {ls : List Value} {a m : Nat} {i : Int32} (ha : S.1 a = some (.inr (.int, m))) (hi : vp_in i m) (h : am_R E d mX10_isReachedBy k n 26 ls (.int (iv a i.toNatClampNeg) :: st) S iv Q) : am_R E d mX10_isReachedBy k n 25 ls (.int i :: .ref a :: st) S iv Q := am_iaload dX10_isReachedBy_25 ha hi h
theorem sX10_isReachedBy_26 {ls : List Value} {x y : Int32} (kt : y ≤ x → am_R E d mX10_isReachedBy k n 80 ls st S iv Q) (kf : ¬ y ≤ x → am_R E d mX10_isReachedBy k n 29 ls st S iv Q) : am_R E d mX10_isReachedBy k n 26 ls (.int y :: .int x :: st) S iv Q := am_icmp_ge dX10_isReachedBy_26 (by decide) kt kf
theorem sX10_isReachedBy_29 {a0 a1 a3 : Value} {x : Int32} (h : am_R E d mX10_isReachedBy k n 30 [a0, a1, .int x, a3] (.int x :: st) S iv Q) : am_R E d mX10_isReachedBy k n 29 [a0, a1, .int x, a3] st S iv Q := am_iload_n dX10_isReachedBy_29 rfl rfl h
theorem sX10_isReachedBy_30 {a0 a1 a2 : Value} {x : Int32} (h : am_R E d mX10_isReachedBy k n 31 [a0, a1, a2, .int x] (.int x :: st) S iv Q) : am_R E d mX10_isReachedBy k n 30 [a0, a1, a2, .int x] st S iv Q := am_iload_n dX10_isReachedBy_30 rfl rfl h
theorem sX10_isReachedBy_31 {ls : List Value} {x1 x2 : Value} (hst : (st.map fun v => v.category).sum ≤ 8) (hM : am_M E d mX10_has 0 0 [x1, x2] S iv (am_K3 E (d + 1) mX10_isReachedBy k n 31 ls st Q)) : am_R E (d + 1) mX10_isReachedBy k n 31 ls (x2 :: x1 :: st) S iv Q := am_cS (M' := mX10_has) (as := [x1, x2]) dX10_isReachedBy_31 rfl wq_987 wq_988 wq_808 wq_985 hy_X10_has (by decide) hst (by omega) (by omega) hM
theorem sX10_isReachedBy_31_k {ls : List Value} {x1 x2 : Value} {k' n' : Nat} (hst : (st.map fun v => v.category).sum ≤ 8) (hM : am_M E d mX10_has k' n' [x1, x2] S iv (am_K3 E (d + 1) mX10_isReachedBy k n 31 ls st Q)) : am_R E (d + 1) mX10_isReachedBy (k' + k) (n' + n) 31 ls (x2 :: x1 :: st) S iv Q := am_cS (M' := mX10_has) (as := [x1, x2]) dX10_isReachedBy_31 rfl wq_987 wq_988 wq_808 wq_985 hy_X10_has (by decide) hst (by omega) (by omega) hM
theorem sX10_isReachedBy_34 {ls : List Value} {x : Int32} (kt : x = 0 → am_R E d mX10_isReachedBy k n 74 ls st S iv Q) (kf : ¬ x = 0 → am_R E d mX10_isReachedBy k n 37 ls st S iv Q) : am_R E d mX10_isReachedBy k n 34 ls (.int x :: st) S iv Q := am_if_eq dX10_isReachedBy_34 (by decide) kt kf
theorem sX10_isReachedBy_37 {a0 a1 a2 a3 : Value} (hv : am_rf a0 = true) (h : am_R E d mX10_isReachedBy k n 38 [a0, a1, a2, a3] (a0 :: st) S iv Q) : am_R E d mX10_isReachedBy k n 37 [a0, a1, a2, a3] st S iv Q := am_aload_n dX10_isReachedBy_37 rfl rfl hv h
theorem sX10_isReachedBy_38 {a0 a1 a2 : Value} {x : Int32} (h : am_R E d mX10_isReachedBy k n 39 [a0, a1, a2, .int x] (.int x :: st) S iv Q) : am_R E d mX10_isReachedBy k n 38 [a0, a1, a2, .int x] st S iv Q := am_iload_n dX10_isReachedBy_38 rfl rfl h
theorem sX10_isReachedBy_39 {a0 a2 a3 : Value} {x : Int32} (h : am_R E d mX10_isReachedBy k n 40 [a0, .int x, a2, a3] (.int x :: st) S iv Q) : am_R E d mX10_isReachedBy k n 39 [a0, .int x, a2, a3] st S iv Q := am_iload_n dX10_isReachedBy_39 rfl rfl h
theorem sX10_isReachedBy_40 {ls : List Value} {x1 x2 : Value} {a : Nat} (ha : S.1 a = some (.inl 10)) (hst : (st.map fun v => v.category).sum ≤ 8) (hM : am_M E d mX10_shares 0 0 [.ref a, x1, x2] S iv (am_K3 E (d + 1) mX10_isReachedBy k n 40 ls st Q)) : am_R E (d + 1) mX10_isReachedBy k n 40 ls (x2 :: x1 :: .ref a :: st) S iv Q := am_cV (ci := 10) (M' := mX10_shares) (as := [x1, x2]) dX10_isReachedBy_40 rfl rfl rfl wq_991 wq_992 wq_993 wq_808 wq_989 hy_X10_shares (by decide) ha hst (by omega) (by omega) hM
theorem sX10_isReachedBy_40_k {ls : List Value} {x1 x2 : Value} {k' n' : Nat} {a : Nat} (ha : S.1 a = some (.inl 10)) (hst : (st.map fun v => v.category).sum ≤ 8) (hM : am_M E d mX10_shares k' n' [.ref a, x1, x2] S iv (am_K3 E (d + 1) mX10_isReachedBy k n 40 ls st Q)) : am_R E (d + 1) mX10_isReachedBy (k' + k) (n' + n) 40 ls (x2 :: x1 :: .ref a :: st) S iv Q := am_cV (ci := 10) (M' := mX10_shares) (as := [x1, x2]) dX10_isReachedBy_40 rfl rfl rfl wq_991 wq_992 wq_993 wq_808 wq_989 hy_X10_shares (by decide) ha hst (by omega) (by omega) hM
theorem sX10_isReachedBy_43 {ls : List Value} {x : Int32} (kt : x = 0 → am_R E d mX10_isReachedBy k n 74 ls st S iv Q) (kf : ¬ x = 0 → am_R E d mX10_isReachedBy k n 46 ls st S iv Q) : am_R E d mX10_isReachedBy k n 43 ls (.int x :: st) S iv Q := am_if_eq dX10_isReachedBy_43 (by decide) kt kf
theorem sX10_isReachedBy_46 {a0 a1 a2 a3 : Value} (hv : am_rf a0 = true) (h : am_R E d mX10_isReachedBy k n 47 [a0, a1, a2, a3] (a0 :: st) S iv Q) : am_R E d mX10_isReachedBy k n 46 [a0, a1, a2, a3] st S iv Q := am_aload_n dX10_isReachedBy_46 rfl rfl hv h
theorem sX10_isReachedBy_47 {ls : List Value} {a b : Nat} (ha : S.1 a = some (.inl 10)) (hb : S.2.1 a 7 = some b) (h : am_R E d mX10_isReachedBy k n 50 ls (.ref b :: st) S iv Q) : am_R E d mX10_isReachedBy k n 47 ls (.ref a :: st) S iv Q := am_getR (ci := 10) dX10_isReachedBy_47 rfl rfl (by decide) wq_775 uq_10 rfl ha hb h
theorem sX10_isReachedBy_50 {a0 a2 a3 : Value} {x : Int32} (h : am_R E d mX10_isReachedBy k n 51 [a0, .int x, a2, a3] (.int x :: st) S iv Q) : am_R E d mX10_isReachedBy k n 50 [a0, .int x, a2, a3] st S iv Q := am_iload_n dX10_isReachedBy_50 rfl rfl h
theorem sX10_isReachedBy_51 {ls : List Value} {a m : Nat} {i : Int32} (ha : S.1 a = some (.inr (.int, m))) (hi : vp_in i m) (h : am_R E d mX10_isReachedBy k n 52 ls (.int (iv a i.toNatClampNeg) :: st) S iv Q) : am_R E d mX10_isReachedBy k n 51 ls (.int i :: .ref a :: st) S iv Q := am_iaload dX10_isReachedBy_51 ha hi h
theorem sX10_isReachedBy_52 {a0 a1 a2 a3 : Value} (hv : am_rf a0 = true) (h : am_R E d mX10_isReachedBy k n 53 [a0, a1, a2, a3] (a0 :: st) S iv Q) : am_R E d mX10_isReachedBy k n 52 [a0, a1, a2, a3] st S iv Q := am_aload_n dX10_isReachedBy_52 rfl rfl hv h
theorem sX10_isReachedBy_53 {ls : List Value} {a b : Nat} (ha : S.1 a = some (.inl 10)) (hb : S.2.1 a 7 = some b) (h : am_R E d mX10_isReachedBy k n 56 ls (.ref b :: st) S iv Q) : am_R E d mX10_isReachedBy k n 53 ls (.ref a :: st) S iv Q := am_getR (ci := 10) dX10_isReachedBy_53 rfl rfl (by decide) wq_775 uq_10 rfl ha hb h
theorem sX10_isReachedBy_56 {a0 a1 a2 : Value} {x : Int32} (h : am_R E d mX10_isReachedBy k n 57 [a0, a1, a2, .int x] (.int x :: st) S iv Q) : am_R E d mX10_isReachedBy k n 56 [a0, a1, a2, .int x] st S iv Q := am_iload_n dX10_isReachedBy_56 rfl rfl h
theorem sX10_isReachedBy_57 {ls : List Value} {a m : Nat} {i : Int32} (ha : S.1 a = some (.inr (.int, m))) (hi : vp_in i m) (h : am_R E d mX10_isReachedBy k n 58 ls (.int (iv a i.toNatClampNeg) :: st) S iv Q) : am_R E d mX10_isReachedBy k n 57 ls (.int i :: .ref a :: st) S iv Q := am_iaload dX10_isReachedBy_57 ha hi h
theorem sX10_isReachedBy_58 {ls : List Value} {x y : Int32} (h : am_R E d mX10_isReachedBy k n 59 ls (.int (x - y) :: st) S iv Q) : am_R E d mX10_isReachedBy k n 58 ls (.int y :: .int x :: st) S iv Q := am_isub dX10_isReachedBy_58 h
theorem sX10_isReachedBy_59 {a0 a1 a2 a3 : Value} (h : am_R E d mX10_isReachedBy k n 60 [a0, a1, a2, a3] (.int 1 :: st) S iv Q) : am_R E d mX10_isReachedBy k n 59 [a0, a1, a2, a3] st S iv Q := am_iconst dX10_isReachedBy_59 (by decide) h
theorem sX10_isReachedBy_60 {a0 a1 a2 a3 : Value} (hv : am_rf a0 = true) (h : am_R E d mX10_isReachedBy k n 61 [a0, a1, a2, a3] (a0 :: st) S iv Q) : am_R E d mX10_isReachedBy k n 60 [a0, a1, a2, a3] st S iv Q := am_aload_n dX10_isReachedBy_60 rfl rfl hv h
theorem sX10_isReachedBy_61 {ls : List Value} {a b : Nat} (ha : S.1 a = some (.inl 10)) (hb : S.2.1 a 4 = some b) (h : am_R E d mX10_isReachedBy k n 64 ls (.ref b :: st) S iv Q) : am_R E d mX10_isReachedBy k n 61 ls (.ref a :: st) S iv Q := am_getR (ci := 10) dX10_isReachedBy_61 rfl rfl (by decide) wq_772 uq_10 rfl ha hb h
theorem sX10_isReachedBy_64 {a0 a1 a2 a3 : Value} (h : am_R E d mX10_isReachedBy k n 65 [a0, a1, a2, a3] (.int 4 :: st) S iv Q) : am_R E d mX10_isReachedBy k n 64 [a0, a1, a2, a3] st S iv Q := am_iconst dX10_isReachedBy_64 (by decide) h
theorem sX10_isReachedBy_65 {ls : List Value} {a m : Nat} {i : Int32} (ha : S.1 a = some (.inr (.int, m))) (hi : vp_in i m) (h : am_R E d mX10_isReachedBy k n 66 ls (.int (iv a i.toNatClampNeg) :: st) S iv Q) : am_R E d mX10_isReachedBy k n 65 ls (.int i :: .ref a :: st) S iv Q := am_iaload dX10_isReachedBy_65 ha hi h
theorem sX10_isReachedBy_66 {ls : List Value} {x1 x2 x3 : Value} (hst : (st.map fun v => v.category).sum ≤ 8) (hM : am_M E d mX10_isIn 0 0 [x1, x2, x3] S iv (am_K3 E (d + 1) mX10_isReachedBy k n 66 ls st Q)) : am_R E (d + 1) mX10_isReachedBy k n 66 ls (x3 :: x2 :: x1 :: st) S iv Q := am_cS (M' := mX10_isIn) (as := [x1, x2, x3]) dX10_isReachedBy_66 rfl wq_810 wq_811 wq_808 wq_807 hy_X10_isIn (by decide) hst (by omega) (by omega) hM
theorem sX10_isReachedBy_66_k {ls : List Value} {x1 x2 x3 : Value} {k' n' : Nat} (hst : (st.map fun v => v.category).sum ≤ 8) (hM : am_M E d mX10_isIn k' n' [x1, x2, x3] S iv (am_K3 E (d + 1) mX10_isReachedBy k n 66 ls st Q)) : am_R E (d + 1) mX10_isReachedBy (k' + k) (n' + n) 66 ls (x3 :: x2 :: x1 :: st) S iv Q := am_cS (M' := mX10_isIn) (as := [x1, x2, x3]) dX10_isReachedBy_66 rfl wq_810 wq_811 wq_808 wq_807 hy_X10_isIn (by decide) hst (by omega) (by omega) hM
theorem sX10_isReachedBy_69 {ls : List Value} {x : Int32} (kt : x = 0 → am_R E d mX10_isReachedBy k n 74 ls st S iv Q) (kf : ¬ x = 0 → am_R E d mX10_isReachedBy k n 72 ls st S iv Q) : am_R E d mX10_isReachedBy k n 69 ls (.int x :: st) S iv Q := am_if_eq dX10_isReachedBy_69 (by decide) kt kf
theorem sX10_isReachedBy_72 {a0 a1 a2 a3 : Value} (h : am_R E d mX10_isReachedBy k n 73 [a0, a1, a2, a3] (.int 1 :: st) S iv Q) : am_R E d mX10_isReachedBy k n 72 [a0, a1, a2, a3] st S iv Q := am_iconst dX10_isReachedBy_72 (by decide) h
theorem sX10_isReachedBy_73 {ls : List Value} {x : Int32} (hn : narrow .boolean (.int x) = .int x) (h : Q (.inl (some (.int x))) S iv) : am_R E d mX10_isReachedBy k n 73 ls [.int x] S iv Q := am_zreturn dX10_isReachedBy_73 rfl hn h
theorem sX10_isReachedBy_74 {a0 a1 a2 : Value} {x : Int32} (h : am_R E d mX10_isReachedBy k n 77 [a0, a1, a2, .int (x + 1)] st S iv Q) : am_R E d mX10_isReachedBy k n 74 [a0, a1, a2, .int x] st S iv Q := am_iinc dX10_isReachedBy_74 rfl rfl (by decide) h
theorem sX10_isReachedBy_77 {ls : List Value} (h : am_R E d mX10_isReachedBy k n 19 ls st S iv Q) : am_R E d mX10_isReachedBy k n 77 ls st S iv Q := am_goto dX10_isReachedBy_77 (by decide) h
theorem sX10_isReachedBy_80 {a0 a1 a2 a3 : Value} (h : am_R E d mX10_isReachedBy k n 81 [a0, a1, a2, a3] (.int 0 :: st) S iv Q) : am_R E d mX10_isReachedBy k n 80 [a0, a1, a2, a3] st S iv Q := am_iconst dX10_isReachedBy_80 (by decide) h
theorem sX10_isReachedBy_81 {ls : List Value} {x : Int32} (hn : narrow .boolean (.int x) = .int x) (h : Q (.inl (some (.int x))) S iv) : am_R E d mX10_isReachedBy k n 81 ls [.int x] S iv Q := am_zreturn dX10_isReachedBy_81 rfl hn h
theorem dX10_isSet_0 : decode cX10_isSet 0 = .ok (.iload_n 1, 1) := by decide +kernel
theorem dX10_isSet_1 : decode cX10_isSet 1 = .ok (.iconst 0, 1) := by decide +kernel
theorem dX10_isSet_2 : decode cX10_isSet 2 = .ok (.iconst 1, 1) := by decide +kernel
theorem dX10_isSet_3 : decode cX10_isSet 3 = .ok (.aload_n 0, 1) := by decide +kernel
theorem dX10_isSet_4 : decode cX10_isSet 4 = .ok (.getfield 49, 3) := by decide +kernel
theorem dX10_isSet_7 : decode cX10_isSet 7 = .ok (.iconst 2, 1) := by decide +kernel
theorem dX10_isSet_8 : decode cX10_isSet 8 = .ok (.iaload, 1) := by decide +kernel
theorem dX10_isSet_9 : decode cX10_isSet 9 = .ok (.ishl, 1) := by decide +kernel
theorem dX10_isSet_10 : decode cX10_isSet 10 = .ok (.iconst 1, 1) := by decide +kernel
theorem dX10_isSet_11 : decode cX10_isSet 11 = .ok (.isub, 1) := by decide +kernel
theorem dX10_isSet_12 : decode cX10_isSet 12 = .ok (.invokestatic 146, 3) := by decide +kernel
theorem dX10_isSet_15 : decode cX10_isSet 15 = .ok (.ireturn, 1) := by decide +kernel
theorem sX10_isSet_0 {a0 : Value} {x : Int32} (h : am_R E d mX10_isSet k n 1 [a0, .int x] (.int x :: st) S iv Q) : am_R E d mX10_isSet k n 0 [a0, .int x] st S iv Q := am_iload_n dX10_isSet_0 rfl rfl h
theorem sX10_isSet_1 {a0 a1 : Value} (h : am_R E d mX10_isSet k n 2 [a0, a1] (.int 0 :: st) S iv Q) : am_R E d mX10_isSet k n 1 [a0, a1] st S iv Q := am_iconst dX10_isSet_1 (by decide) h
theorem sX10_isSet_2 {a0 a1 : Value} (h : am_R E d mX10_isSet k n 3 [a0, a1] (.int 1 :: st) S iv Q) : am_R E d mX10_isSet k n 2 [a0, a1] st S iv Q := am_iconst dX10_isSet_2 (by decide) h
theorem sX10_isSet_3 {a0 a1 : Value} (hv : am_rf a0 = true) (h : am_R E d mX10_isSet k n 4 [a0, a1] (a0 :: st) S iv Q) : am_R E d mX10_isSet k n 3 [a0, a1] st S iv Q := am_aload_n dX10_isSet_3 rfl rfl hv h
theorem sX10_isSet_4 {ls : List Value} {a b : Nat} (ha : S.1 a = some (.inl 10)) (hb : S.2.1 a 4 = some b) (h : am_R E d mX10_isSet k n 7 ls (.ref b :: st) S iv Q) : am_R E d mX10_isSet k n 4 ls (.ref a :: st) S iv Q := am_getR (ci := 10) dX10_isSet_4 rfl rfl (by decide) wq_772 uq_10 rfl ha hb h
theorem sX10_isSet_7 {a0 a1 : Value} (h : am_R E d mX10_isSet k n 8 [a0, a1] (.int 2 :: st) S iv Q) : am_R E d mX10_isSet k n 7 [a0, a1] st S iv Q := am_iconst dX10_isSet_7 (by decide) h
theorem sX10_isSet_8 {ls : List Value} {a m : Nat} {i : Int32} (ha : S.1 a = some (.inr (.int, m))) (hi : vp_in i m) (h : am_R E d mX10_isSet k n 9 ls (.int (iv a i.toNatClampNeg) :: st) S iv Q) : am_R E d mX10_isSet k n 8 ls (.int i :: .ref a :: st) S iv Q := am_iaload dX10_isSet_8 ha hi h
theorem sX10_isSet_9 {ls : List Value} {x y : Int32} (h : am_R E d mX10_isSet k n 10 ls (.int (x <<< (y &&& 31)) :: st) S iv Q) : am_R E d mX10_isSet k n 9 ls (.int y :: .int x :: st) S iv Q := am_ishl dX10_isSet_9 h
theorem sX10_isSet_10 {a0 a1 : Value} (h : am_R E d mX10_isSet k n 11 [a0, a1] (.int 1 :: st) S iv Q) : am_R E d mX10_isSet k n 10 [a0, a1] st S iv Q := am_iconst dX10_isSet_10 (by decide) h
theorem sX10_isSet_11 {ls : List Value} {x y : Int32} (h : am_R E d mX10_isSet k n 12 ls (.int (x - y) :: st) S iv Q) : am_R E d mX10_isSet k n 11 ls (.int y :: .int x :: st) S iv Q := am_isub dX10_isSet_11 h
theorem sX10_isSet_12 {ls : List Value} {x1 x2 x3 : Value} (hst : (st.map fun v => v.category).sum ≤ 8) (hM : am_M E d mX10_isIn 0 0 [x1, x2, x3] S iv (am_K3 E (d + 1) mX10_isSet k n 12 ls st Q)) : am_R E (d + 1) mX10_isSet k n 12 ls (x3 :: x2 :: x1 :: st) S iv Q := am_cS (M' := mX10_isIn) (as := [x1, x2, x3]) dX10_isSet_12 rfl wq_810 wq_811 wq_808 wq_807 hy_X10_isIn (by decide) hst (by omega) (by omega) hM
theorem sX10_isSet_12_k {ls : List Value} {x1 x2 x3 : Value} {k' n' : Nat} (hst : (st.map fun v => v.category).sum ≤ 8) (hM : am_M E d mX10_isIn k' n' [x1, x2, x3] S iv (am_K3 E (d + 1) mX10_isSet k n 12 ls st Q)) : am_R E (d + 1) mX10_isSet (k' + k) (n' + n) 12 ls (x3 :: x2 :: x1 :: st) S iv Q := am_cS (M' := mX10_isIn) (as := [x1, x2, x3]) dX10_isSet_12 rfl wq_810 wq_811 wq_808 wq_807 hy_X10_isIn (by decide) hst (by omega) (by omega) hM
theorem sX10_isSet_15 {ls : List Value} {x : Int32} (hn : narrow .boolean (.int x) = .int x) (h : Q (.inl (some (.int x))) S iv) : am_R E d mX10_isSet k n 15 ls [.int x] S iv Q := am_zreturn dX10_isSet_15 rfl hn h
theorem dX10_may_0 : decode cX10_may 0 = .ok (.aload_n 0, 1) := by decide +kernel
theorem dX10_may_1 : decode cX10_may 1 = .ok (.iconst 0, 1) := by decide +kernel
theorem dX10_may_2 : decode cX10_may 2 = .ok (.putfield 143, 3) := by decide +kernel
theorem dX10_may_5 : decode cX10_may 5 = .ok (.aload_n 0, 1) := by decide +kernel
theorem dX10_may_6 : decode cX10_may 6 = .ok (.iload_n 1, 1) := by decide +kernel
theorem dX10_may_7 : decode cX10_may 7 = .ok (.invokevirtual 348, 3) := by decide +kernel
theorem dX10_may_10 : decode cX10_may 10 = .ok (.ifCond .ne 10, 3) := by decide +kernel
theorem dX10_may_13 : decode cX10_may 13 = .ok (.aload_n 0, 1) := by decide +kernel
theorem dX10_may_14 : decode cX10_may 14 = .ok (.iconst 1, 1) := by decide +kernel
theorem dX10_may_15 : decode cX10_may 15 = .ok (.putfield 143, 3) := by decide +kernel
theorem dX10_may_18 : decode cX10_may 18 = .ok (.iconst 0, 1) := by decide +kernel
theorem dX10_may_19 : decode cX10_may 19 = .ok (.ireturn, 1) := by decide +kernel
theorem dX10_may_20 : decode cX10_may 20 = .ok (.aload_n 0, 1) := by decide +kernel
theorem dX10_may_21 : decode cX10_may 21 = .ok (.iload_n 1, 1) := by decide +kernel
theorem dX10_may_22 : decode cX10_may 22 = .ok (.invokevirtual 351, 3) := by decide +kernel
theorem dX10_may_25 : decode cX10_may 25 = .ok (.ireturn, 1) := by decide +kernel
theorem sX10_may_0 {a0 a1 : Value} (hv : am_rf a0 = true) (h : am_R E d mX10_may k n 1 [a0, a1] (a0 :: st) S iv Q) : am_R E d mX10_may k n 0 [a0, a1] st S iv Q := am_aload_n dX10_may_0 rfl rfl hv h
theorem sX10_may_1 {a0 a1 : Value} (h : am_R E d mX10_may k n 2 [a0, a1] (.int 0 :: st) S iv Q) : am_R E d mX10_may k n 1 [a0, a1] st S iv Q := am_iconst dX10_may_1 (by decide) h
theorem sX10_may_2 {ls : List Value} {a : Nat} {x : Int32} (ha : S.1 a = some (.inl 10)) (h : am_R E d mX10_may k n 5 ls st S (am_w iv a 3 x) Q) : am_R E d mX10_may k n 2 ls (.int x :: .ref a :: st) S iv Q := am_putI (ci := 10) dX10_may_2 rfl rfl (by decide) wq_806 uq_10 tyX10_ok nmX10 (Or.inl rfl) rfl ha h
theorem sX10_may_5 {a0 a1 : Value} (hv : am_rf a0 = true) (h : am_R E d mX10_may k n 6 [a0, a1] (a0 :: st) S iv Q) : am_R E d mX10_may k n 5 [a0, a1] st S iv Q := am_aload_n dX10_may_5 rfl rfl hv h
theorem sX10_may_6 {a0 : Value} {x : Int32} (h : am_R E d mX10_may k n 7 [a0, .int x] (.int x :: st) S iv Q) : am_R E d mX10_may k n 6 [a0, .int x] st S iv Q := am_iload_n dX10_may_6 rfl rfl h
theorem sX10_may_7 {ls : List Value} {x1 : Value} {a : Nat} (ha : S.1 a = some (.inl 10)) (hst : (st.map fun v => v.category).sum ≤ 8) (hM : am_M E d mX10_isSet 0 0 [.ref a, x1] S iv (am_K3 E (d + 1) mX10_may k n 7 ls st Q)) : am_R E (d + 1) mX10_may k n 7 ls (x1 :: .ref a :: st) S iv Q := am_cV (ci := 10) (M' := mX10_isSet) (as := [x1]) dX10_may_7 rfl rfl rfl wq_1016 wq_1017 wq_1018 wq_808 wq_1014 hy_X10_isSet (by decide) ha hst (by omega) (by omega) hM
theorem sX10_may_7_k {ls : List Value} {x1 : Value} {k' n' : Nat} {a : Nat} (ha : S.1 a = some (.inl 10)) (hst : (st.map fun v => v.category).sum ≤ 8) (hM : am_M E d mX10_isSet k' n' [.ref a, x1] S iv (am_K3 E (d + 1) mX10_may k n 7 ls st Q)) : am_R E (d + 1) mX10_may (k' + k) (n' + n) 7 ls (x1 :: .ref a :: st) S iv Q := am_cV (ci := 10) (M' := mX10_isSet) (as := [x1]) dX10_may_7 rfl rfl rfl wq_1016 wq_1017 wq_1018 wq_808 wq_1014 hy_X10_isSet (by decide) ha hst (by omega) (by omega) hM
theorem sX10_may_10 {ls : List Value} {x : Int32} (kt : ¬ x = 0 → am_R E d mX10_may k n 20 ls st S iv Q) (kf : x = 0 → am_R E d mX10_may k n 13 ls st S iv Q) : am_R E d mX10_may k n 10 ls (.int x :: st) S iv Q := am_if_ne dX10_may_10 (by decide) kt kf
theorem sX10_may_13 {a0 a1 : Value} (hv : am_rf a0 = true) (h : am_R E d mX10_may k n 14 [a0, a1] (a0 :: st) S iv Q) : am_R E d mX10_may k n 13 [a0, a1] st S iv Q := am_aload_n dX10_may_13 rfl rfl hv h
theorem sX10_may_14 {a0 a1 : Value} (h : am_R E d mX10_may k n 15 [a0, a1] (.int 1 :: st) S iv Q) : am_R E d mX10_may k n 14 [a0, a1] st S iv Q := am_iconst dX10_may_14 (by decide) h
theorem sX10_may_15 {ls : List Value} {a : Nat} {x : Int32} (ha : S.1 a = some (.inl 10)) (h : am_R E d mX10_may k n 18 ls st S (am_w iv a 3 x) Q) : am_R E d mX10_may k n 15 ls (.int x :: .ref a :: st) S iv Q := am_putI (ci := 10) dX10_may_15 rfl rfl (by decide) wq_806 uq_10 tyX10_ok nmX10 (Or.inl rfl) rfl ha h
theorem sX10_may_18 {a0 a1 : Value} (h : am_R E d mX10_may k n 19 [a0, a1] (.int 0 :: st) S iv Q) : am_R E d mX10_may k n 18 [a0, a1] st S iv Q := am_iconst dX10_may_18 (by decide) h
theorem sX10_may_19 {ls : List Value} {x : Int32} (hn : narrow .boolean (.int x) = .int x) (h : Q (.inl (some (.int x))) S iv) : am_R E d mX10_may k n 19 ls [.int x] S iv Q := am_zreturn dX10_may_19 rfl hn h
theorem sX10_may_20 {a0 a1 : Value} (hv : am_rf a0 = true) (h : am_R E d mX10_may k n 21 [a0, a1] (a0 :: st) S iv Q) : am_R E d mX10_may k n 20 [a0, a1] st S iv Q := am_aload_n dX10_may_20 rfl rfl hv h
theorem sX10_may_21 {a0 : Value} {x : Int32} (h : am_R E d mX10_may k n 22 [a0, .int x] (.int x :: st) S iv Q) : am_R E d mX10_may k n 21 [a0, .int x] st S iv Q := am_iload_n dX10_may_21 rfl rfl h
theorem sX10_may_22 {ls : List Value} {x1 : Value} {a : Nat} (ha : S.1 a = some (.inl 10)) (hst : (st.map fun v => v.category).sum ≤ 8) (hM : am_M E d mX10_canBe 0 0 [.ref a, x1] S iv (am_K3 E (d + 1) mX10_may k n 22 ls st Q)) : am_R E (d + 1) mX10_may k n 22 ls (x1 :: .ref a :: st) S iv Q := am_cV (ci := 10) (M' := mX10_canBe) (as := [x1]) dX10_may_22 rfl rfl rfl wq_1021 wq_1022 wq_1023 wq_808 wq_1019 hy_X10_canBe (by decide) ha hst (by omega) (by omega) hM
theorem sX10_may_22_k {ls : List Value} {x1 : Value} {k' n' : Nat} {a : Nat} (ha : S.1 a = some (.inl 10)) (hst : (st.map fun v => v.category).sum ≤ 8) (hM : am_M E d mX10_canBe k' n' [.ref a, x1] S iv (am_K3 E (d + 1) mX10_may k n 22 ls st Q)) : am_R E (d + 1) mX10_may (k' + k) (n' + n) 22 ls (x1 :: .ref a :: st) S iv Q := am_cV (ci := 10) (M' := mX10_canBe) (as := [x1]) dX10_may_22 rfl rfl rfl wq_1021 wq_1022 wq_1023 wq_808 wq_1019 hy_X10_canBe (by decide) ha hst (by omega) (by omega) hM
theorem sX10_may_25 {ls : List Value} {x : Int32} (hn : narrow .boolean (.int x) = .int x) (h : Q (.inl (some (.int x))) S iv) : am_R E d mX10_may k n 25 ls [.int x] S iv Q := am_zreturn dX10_may_25 rfl hn h
theorem dX10_broken_0 : decode cX10_broken 0 = .ok (.aload_n 0, 1) := by decide +kernel
theorem dX10_broken_1 : decode cX10_broken 1 = .ok (.iconst 0, 1) := by decide +kernel
theorem dX10_broken_2 : decode cX10_broken 2 = .ok (.putfield 143, 3) := by decide +kernel
theorem dX10_broken_5 : decode cX10_broken 5 = .ok (.aload_n 0, 1) := by decide +kernel
theorem dX10_broken_6 : decode cX10_broken 6 = .ok (.iload_n 1, 1) := by decide +kernel
theorem dX10_broken_7 : decode cX10_broken 7 = .ok (.invokevirtual 348, 3) := by decide +kernel
theorem dX10_broken_10 : decode cX10_broken 10 = .ok (.ifCond .eq 11, 3) := by decide +kernel
theorem dX10_broken_13 : decode cX10_broken 13 = .ok (.aload_n 0, 1) := by decide +kernel
theorem dX10_broken_14 : decode cX10_broken 14 = .ok (.iload_n 1, 1) := by decide +kernel
theorem dX10_broken_15 : decode cX10_broken 15 = .ok (.invokevirtual 342, 3) := by decide +kernel
theorem dX10_broken_18 : decode cX10_broken 18 = .ok (.goto 8, 3) := by decide +kernel
theorem dX10_broken_21 : decode cX10_broken 21 = .ok (.aload_n 0, 1) := by decide +kernel
theorem dX10_broken_22 : decode cX10_broken 22 = .ok (.iconst 1, 1) := by decide +kernel
theorem dX10_broken_23 : decode cX10_broken 23 = .ok (.invokevirtual 293, 3) := by decide +kernel
theorem dX10_broken_26 : decode cX10_broken 26 = .ok (.ireturn, 1) := by decide +kernel
theorem sX10_broken_0 {a0 a1 : Value} (hv : am_rf a0 = true) (h : am_R E d mX10_broken k n 1 [a0, a1] (a0 :: st) S iv Q) : am_R E d mX10_broken k n 0 [a0, a1] st S iv Q := am_aload_n dX10_broken_0 rfl rfl hv h
theorem sX10_broken_1 {a0 a1 : Value} (h : am_R E d mX10_broken k n 2 [a0, a1] (.int 0 :: st) S iv Q) : am_R E d mX10_broken k n 1 [a0, a1] st S iv Q := am_iconst dX10_broken_1 (by decide) h
theorem sX10_broken_2 {ls : List Value} {a : Nat} {x : Int32} (ha : S.1 a = some (.inl 10)) (h : am_R E d mX10_broken k n 5 ls st S (am_w iv a 3 x) Q) : am_R E d mX10_broken k n 2 ls (.int x :: .ref a :: st) S iv Q := am_putI (ci := 10) dX10_broken_2 rfl rfl (by decide) wq_806 uq_10 tyX10_ok nmX10 (Or.inl rfl) rfl ha h
theorem sX10_broken_5 {a0 a1 : Value} (hv : am_rf a0 = true) (h : am_R E d mX10_broken k n 6 [a0, a1] (a0 :: st) S iv Q) : am_R E d mX10_broken k n 5 [a0, a1] st S iv Q := am_aload_n dX10_broken_5 rfl rfl hv h
theorem sX10_broken_6 {a0 : Value} {x : Int32} (h : am_R E d mX10_broken k n 7 [a0, .int x] (.int x :: st) S iv Q) : am_R E d mX10_broken k n 6 [a0, .int x] st S iv Q := am_iload_n dX10_broken_6 rfl rfl h
theorem sX10_broken_7 {ls : List Value} {x1 : Value} {a : Nat} (ha : S.1 a = some (.inl 10)) (hst : (st.map fun v => v.category).sum ≤ 8) (hM : am_M E d mX10_isSet 0 0 [.ref a, x1] S iv (am_K3 E (d + 1) mX10_broken k n 7 ls st Q)) : am_R E (d + 1) mX10_broken k n 7 ls (x1 :: .ref a :: st) S iv Q := am_cV (ci := 10) (M' := mX10_isSet) (as := [x1]) dX10_broken_7 rfl rfl rfl wq_1016 wq_1017 wq_1018 wq_808 wq_1014 hy_X10_isSet (by decide) ha hst (by omega) (by omega) hM
theorem sX10_broken_7_k {ls : List Value} {x1 : Value} {k' n' : Nat} {a : Nat} (ha : S.1 a = some (.inl 10)) (hst : (st.map fun v => v.category).sum ≤ 8) (hM : am_M E d mX10_isSet k' n' [.ref a, x1] S iv (am_K3 E (d + 1) mX10_broken k n 7 ls st Q)) : am_R E (d + 1) mX10_broken (k' + k) (n' + n) 7 ls (x1 :: .ref a :: st) S iv Q := am_cV (ci := 10) (M' := mX10_isSet) (as := [x1]) dX10_broken_7 rfl rfl rfl wq_1016 wq_1017 wq_1018 wq_808 wq_1014 hy_X10_isSet (by decide) ha hst (by omega) (by omega) hM
theorem sX10_broken_10 {ls : List Value} {x : Int32} (kt : x = 0 → am_R E d mX10_broken k n 21 ls st S iv Q) (kf : ¬ x = 0 → am_R E d mX10_broken k n 13 ls st S iv Q) : am_R E d mX10_broken k n 10 ls (.int x :: st) S iv Q := am_if_eq dX10_broken_10 (by decide) kt kf
theorem sX10_broken_13 {a0 a1 : Value} (hv : am_rf a0 = true) (h : am_R E d mX10_broken k n 14 [a0, a1] (a0 :: st) S iv Q) : am_R E d mX10_broken k n 13 [a0, a1] st S iv Q := am_aload_n dX10_broken_13 rfl rfl hv h
theorem sX10_broken_14 {a0 : Value} {x : Int32} (h : am_R E d mX10_broken k n 15 [a0, .int x] (.int x :: st) S iv Q) : am_R E d mX10_broken k n 14 [a0, .int x] st S iv Q := am_iload_n dX10_broken_14 rfl rfl h
theorem sX10_broken_15 {ls : List Value} {x1 : Value} {a : Nat} (ha : S.1 a = some (.inl 10)) (hst : (st.map fun v => v.category).sum ≤ 8) (hM : am_M E d mX10_brokenBy 0 0 [.ref a, x1] S iv (am_K3 E (d + 1) mX10_broken k n 15 ls st Q)) : am_R E (d + 1) mX10_broken k n 15 ls (x1 :: .ref a :: st) S iv Q := am_cV (ci := 10) (M' := mX10_brokenBy) (as := [x1]) dX10_broken_15 rfl rfl rfl wq_1006 wq_1007 wq_1008 wq_808 wq_1004 hy_X10_brokenBy (by decide) ha hst (by omega) (by omega) hM
theorem sX10_broken_15_k {ls : List Value} {x1 : Value} {k' n' : Nat} {a : Nat} (ha : S.1 a = some (.inl 10)) (hst : (st.map fun v => v.category).sum ≤ 8) (hM : am_M E d mX10_brokenBy k' n' [.ref a, x1] S iv (am_K3 E (d + 1) mX10_broken k n 15 ls st Q)) : am_R E (d + 1) mX10_broken (k' + k) (n' + n) 15 ls (x1 :: .ref a :: st) S iv Q := am_cV (ci := 10) (M' := mX10_brokenBy) (as := [x1]) dX10_broken_15 rfl rfl rfl wq_1006 wq_1007 wq_1008 wq_808 wq_1004 hy_X10_brokenBy (by decide) ha hst (by omega) (by omega) hM
theorem sX10_broken_18 {ls : List Value} (h : am_R E d mX10_broken k n 26 ls st S iv Q) : am_R E d mX10_broken k n 18 ls st S iv Q := am_goto dX10_broken_18 (by decide) h
theorem sX10_broken_21 {a0 a1 : Value} (hv : am_rf a0 = true) (h : am_R E d mX10_broken k n 22 [a0, a1] (a0 :: st) S iv Q) : am_R E d mX10_broken k n 21 [a0, a1] st S iv Q := am_aload_n dX10_broken_21 rfl rfl hv h
theorem sX10_broken_22 {a0 a1 : Value} (h : am_R E d mX10_broken k n 23 [a0, a1] (.int 1 :: st) S iv Q) : am_R E d mX10_broken k n 22 [a0, a1] st S iv Q := am_iconst dX10_broken_22 (by decide) h
theorem sX10_broken_23 {ls : List Value} {x1 : Value} {a : Nat} (ha : S.1 a = some (.inl 10)) (hst : (st.map fun v => v.category).sum ≤ 8) (hM : am_M E d mX10_fail 0 0 [.ref a, x1] S iv (am_K3 E (d + 1) mX10_broken k n 23 ls st Q)) : am_R E (d + 1) mX10_broken k n 23 ls (x1 :: .ref a :: st) S iv Q := am_cV (ci := 10) (M' := mX10_fail) (as := [x1]) dX10_broken_23 rfl rfl rfl wq_955 wq_956 wq_957 wq_808 wq_953 hy_X10_fail (by decide) ha hst (by omega) (by omega) hM
theorem sX10_broken_23_k {ls : List Value} {x1 : Value} {k' n' : Nat} {a : Nat} (ha : S.1 a = some (.inl 10)) (hst : (st.map fun v => v.category).sum ≤ 8) (hM : am_M E d mX10_fail k' n' [.ref a, x1] S iv (am_K3 E (d + 1) mX10_broken k n 23 ls st Q)) : am_R E (d + 1) mX10_broken (k' + k) (n' + n) 23 ls (x1 :: .ref a :: st) S iv Q := am_cV (ci := 10) (M' := mX10_fail) (as := [x1]) dX10_broken_23 rfl rfl rfl wq_955 wq_956 wq_957 wq_808 wq_953 hy_X10_fail (by decide) ha hst (by omega) (by omega) hM
theorem sX10_broken_26 {ls : List Value} {x : Int32} (h : Q (.inl (some (.int x))) S iv) : am_R E d mX10_broken k n 26 ls [.int x] S iv Q := am_ireturn dX10_broken_26 rfl h
theorem dX10_rentOf_0 : decode cX10_rentOf 0 = .ok (.aload_n 0, 1) := by decide +kernel
theorem dX10_rentOf_1 : decode cX10_rentOf 1 = .ok (.getfield 49, 3) := by decide +kernel
theorem dX10_rentOf_4 : decode cX10_rentOf 4 = .ok (.bipush 6, 2) := by decide +kernel
theorem dX10_rentOf_6 : decode cX10_rentOf 6 = .ok (.iaload, 1) := by decide +kernel
theorem dX10_rentOf_7 : decode cX10_rentOf 7 = .ok (.aload_n 0, 1) := by decide +kernel
theorem dX10_rentOf_8 : decode cX10_rentOf 8 = .ok (.getfield 49, 3) := by decide +kernel
theorem dX10_rentOf_11 : decode cX10_rentOf 11 = .ok (.bipush 7, 2) := by decide +kernel
theorem dX10_rentOf_13 : decode cX10_rentOf 13 = .ok (.iaload, 1) := by decide +kernel
theorem dX10_rentOf_14 : decode cX10_rentOf 14 = .ok (.aload_n 0, 1) := by decide +kernel
theorem dX10_rentOf_15 : decode cX10_rentOf 15 = .ok (.getfield 57, 3) := by decide +kernel
theorem dX10_rentOf_18 : decode cX10_rentOf 18 = .ok (.iload_n 1, 1) := by decide +kernel
theorem dX10_rentOf_19 : decode cX10_rentOf 19 = .ok (.iaload, 1) := by decide +kernel
theorem dX10_rentOf_20 : decode cX10_rentOf 20 = .ok (.imul, 1) := by decide +kernel
theorem dX10_rentOf_21 : decode cX10_rentOf 21 = .ok (.iadd, 1) := by decide +kernel
theorem dX10_rentOf_22 : decode cX10_rentOf 22 = .ok (.aload_n 0, 1) := by decide +kernel
theorem dX10_rentOf_23 : decode cX10_rentOf 23 = .ok (.getfield 49, 3) := by decide +kernel
theorem dX10_rentOf_26 : decode cX10_rentOf 26 = .ok (.bipush 8, 2) := by decide +kernel
theorem dX10_rentOf_28 : decode cX10_rentOf 28 = .ok (.iaload, 1) := by decide +kernel
theorem dX10_rentOf_29 : decode cX10_rentOf 29 = .ok (.aload_n 0, 1) := by decide +kernel
theorem dX10_rentOf_30 : decode cX10_rentOf 30 = .ok (.getfield 59, 3) := by decide +kernel
theorem dX10_rentOf_33 : decode cX10_rentOf 33 = .ok (.iload_n 1, 1) := by decide +kernel
theorem dX10_rentOf_34 : decode cX10_rentOf 34 = .ok (.iaload, 1) := by decide +kernel
theorem dX10_rentOf_35 : decode cX10_rentOf 35 = .ok (.imul, 1) := by decide +kernel
theorem dX10_rentOf_36 : decode cX10_rentOf 36 = .ok (.iadd, 1) := by decide +kernel
theorem dX10_rentOf_37 : decode cX10_rentOf 37 = .ok (.istore_n 2, 1) := by decide +kernel
theorem dX10_rentOf_38 : decode cX10_rentOf 38 = .ok (.aload_n 0, 1) := by decide +kernel
theorem dX10_rentOf_39 : decode cX10_rentOf 39 = .ok (.getfield 53, 3) := by decide +kernel
theorem dX10_rentOf_42 : decode cX10_rentOf 42 = .ok (.iload_n 1, 1) := by decide +kernel
theorem dX10_rentOf_43 : decode cX10_rentOf 43 = .ok (.iaload, 1) := by decide +kernel
theorem dX10_rentOf_44 : decode cX10_rentOf 44 = .ok (.iconst 2, 1) := by decide +kernel
theorem dX10_rentOf_45 : decode cX10_rentOf 45 = .ok (.if_icmp .ne 7, 3) := by decide +kernel
theorem dX10_rentOf_48 : decode cX10_rentOf 48 = .ok (.iconst 0, 1) := by decide +kernel
theorem dX10_rentOf_49 : decode cX10_rentOf 49 = .ok (.goto 20, 3) := by decide +kernel
theorem dX10_rentOf_52 : decode cX10_rentOf 52 = .ok (.aload_n 0, 1) := by decide +kernel
theorem dX10_rentOf_53 : decode cX10_rentOf 53 = .ok (.getfield 61, 3) := by decide +kernel
theorem dX10_rentOf_56 : decode cX10_rentOf 56 = .ok (.iload_n 1, 1) := by decide +kernel
theorem dX10_rentOf_57 : decode cX10_rentOf 57 = .ok (.iaload, 1) := by decide +kernel
theorem dX10_rentOf_58 : decode cX10_rentOf 58 = .ok (.iconst 1, 1) := by decide +kernel
theorem dX10_rentOf_59 : decode cX10_rentOf 59 = .ok (.if_icmp .ne 9, 3) := by decide +kernel
theorem dX10_rentOf_62 : decode cX10_rentOf 62 = .ok (.iconst 2, 1) := by decide +kernel
theorem dX10_rentOf_63 : decode cX10_rentOf 63 = .ok (.iload_n 2, 1) := by decide +kernel
theorem dX10_rentOf_64 : decode cX10_rentOf 64 = .ok (.imul, 1) := by decide +kernel
theorem dX10_rentOf_65 : decode cX10_rentOf 65 = .ok (.goto 4, 3) := by decide +kernel
theorem dX10_rentOf_68 : decode cX10_rentOf 68 = .ok (.iload_n 2, 1) := by decide +kernel
theorem dX10_rentOf_69 : decode cX10_rentOf 69 = .ok (.ireturn, 1) := by decide +kernel
theorem sX10_rentOf_0 {a0 a1 a2 : Value} (hv : am_rf a0 = true) (h : am_R E d mX10_rentOf k n 1 [a0, a1, a2] (a0 :: st) S iv Q) : am_R E d mX10_rentOf k n 0 [a0, a1, a2] st S iv Q := am_aload_n dX10_rentOf_0 rfl rfl hv h
theorem sX10_rentOf_1 {ls : List Value} {a b : Nat} (ha : S.1 a = some (.inl 10)) (hb : S.2.1 a 4 = some b) (h : am_R E d mX10_rentOf k n 4 ls (.ref b :: st) S iv Q) : am_R E d mX10_rentOf k n 1 ls (.ref a :: st) S iv Q := am_getR (ci := 10) dX10_rentOf_1 rfl rfl (by decide) wq_772 uq_10 rfl ha hb h
theorem sX10_rentOf_4 {a0 a1 a2 : Value} (h : am_R E d mX10_rentOf k n 6 [a0, a1, a2] (.int 6 :: st) S iv Q) : am_R E d mX10_rentOf k n 4 [a0, a1, a2] st S iv Q := am_bipush dX10_rentOf_4 (by decide) h
theorem sX10_rentOf_6 {ls : List Value} {a m : Nat} {i : Int32} (ha : S.1 a = some (.inr (.int, m))) (hi : vp_in i m) (h : am_R E d mX10_rentOf k n 7 ls (.int (iv a i.toNatClampNeg) :: st) S iv Q) : am_R E d mX10_rentOf k n 6 ls (.int i :: .ref a :: st) S iv Q := am_iaload dX10_rentOf_6 ha hi h
theorem sX10_rentOf_7 {a0 a1 a2 : Value} (hv : am_rf a0 = true) (h : am_R E d mX10_rentOf k n 8 [a0, a1, a2] (a0 :: st) S iv Q) : am_R E d mX10_rentOf k n 7 [a0, a1, a2] st S iv Q := am_aload_n dX10_rentOf_7 rfl rfl hv h
theorem sX10_rentOf_8 {ls : List Value} {a b : Nat} (ha : S.1 a = some (.inl 10)) (hb : S.2.1 a 4 = some b) (h : am_R E d mX10_rentOf k n 11 ls (.ref b :: st) S iv Q) : am_R E d mX10_rentOf k n 8 ls (.ref a :: st) S iv Q := am_getR (ci := 10) dX10_rentOf_8 rfl rfl (by decide) wq_772 uq_10 rfl ha hb h
theorem sX10_rentOf_11 {a0 a1 a2 : Value} (h : am_R E d mX10_rentOf k n 13 [a0, a1, a2] (.int 7 :: st) S iv Q) : am_R E d mX10_rentOf k n 11 [a0, a1, a2] st S iv Q := am_bipush dX10_rentOf_11 (by decide) h
theorem sX10_rentOf_13 {ls : List Value} {a m : Nat} {i : Int32} (ha : S.1 a = some (.inr (.int, m))) (hi : vp_in i m) (h : am_R E d mX10_rentOf k n 14 ls (.int (iv a i.toNatClampNeg) :: st) S iv Q) : am_R E d mX10_rentOf k n 13 ls (.int i :: .ref a :: st) S iv Q := am_iaload dX10_rentOf_13 ha hi h
theorem sX10_rentOf_14 {a0 a1 a2 : Value} (hv : am_rf a0 = true) (h : am_R E d mX10_rentOf k n 15 [a0, a1, a2] (a0 :: st) S iv Q) : am_R E d mX10_rentOf k n 14 [a0, a1, a2] st S iv Q := am_aload_n dX10_rentOf_14 rfl rfl hv h
theorem sX10_rentOf_15 {ls : List Value} {a b : Nat} (ha : S.1 a = some (.inl 10)) (hb : S.2.1 a 7 = some b) (h : am_R E d mX10_rentOf k n 18 ls (.ref b :: st) S iv Q) : am_R E d mX10_rentOf k n 15 ls (.ref a :: st) S iv Q := am_getR (ci := 10) dX10_rentOf_15 rfl rfl (by decide) wq_775 uq_10 rfl ha hb h
theorem sX10_rentOf_18 {a0 a2 : Value} {x : Int32} (h : am_R E d mX10_rentOf k n 19 [a0, .int x, a2] (.int x :: st) S iv Q) : am_R E d mX10_rentOf k n 18 [a0, .int x, a2] st S iv Q := am_iload_n dX10_rentOf_18 rfl rfl h
theorem sX10_rentOf_19 {ls : List Value} {a m : Nat} {i : Int32} (ha : S.1 a = some (.inr (.int, m))) (hi : vp_in i m) (h : am_R E d mX10_rentOf k n 20 ls (.int (iv a i.toNatClampNeg) :: st) S iv Q) : am_R E d mX10_rentOf k n 19 ls (.int i :: .ref a :: st) S iv Q := am_iaload dX10_rentOf_19 ha hi h
theorem sX10_rentOf_20 {ls : List Value} {x y : Int32} (h : am_R E d mX10_rentOf k n 21 ls (.int (x * y) :: st) S iv Q) : am_R E d mX10_rentOf k n 20 ls (.int y :: .int x :: st) S iv Q := am_imul dX10_rentOf_20 h
theorem sX10_rentOf_21 {ls : List Value} {x y : Int32} (h : am_R E d mX10_rentOf k n 22 ls (.int (x + y) :: st) S iv Q) : am_R E d mX10_rentOf k n 21 ls (.int y :: .int x :: st) S iv Q := am_iadd dX10_rentOf_21 h
theorem sX10_rentOf_22 {a0 a1 a2 : Value} (hv : am_rf a0 = true) (h : am_R E d mX10_rentOf k n 23 [a0, a1, a2] (a0 :: st) S iv Q) : am_R E d mX10_rentOf k n 22 [a0, a1, a2] st S iv Q := am_aload_n dX10_rentOf_22 rfl rfl hv h
theorem sX10_rentOf_23 {ls : List Value} {a b : Nat} (ha : S.1 a = some (.inl 10)) (hb : S.2.1 a 4 = some b) (h : am_R E d mX10_rentOf k n 26 ls (.ref b :: st) S iv Q) : am_R E d mX10_rentOf k n 23 ls (.ref a :: st) S iv Q := am_getR (ci := 10) dX10_rentOf_23 rfl rfl (by decide) wq_772 uq_10 rfl ha hb h
theorem sX10_rentOf_26 {a0 a1 a2 : Value} (h : am_R E d mX10_rentOf k n 28 [a0, a1, a2] (.int 8 :: st) S iv Q) : am_R E d mX10_rentOf k n 26 [a0, a1, a2] st S iv Q := am_bipush dX10_rentOf_26 (by decide) h
theorem sX10_rentOf_28 {ls : List Value} {a m : Nat} {i : Int32} (ha : S.1 a = some (.inr (.int, m))) (hi : vp_in i m) (h : am_R E d mX10_rentOf k n 29 ls (.int (iv a i.toNatClampNeg) :: st) S iv Q) : am_R E d mX10_rentOf k n 28 ls (.int i :: .ref a :: st) S iv Q := am_iaload dX10_rentOf_28 ha hi h
theorem sX10_rentOf_29 {a0 a1 a2 : Value} (hv : am_rf a0 = true) (h : am_R E d mX10_rentOf k n 30 [a0, a1, a2] (a0 :: st) S iv Q) : am_R E d mX10_rentOf k n 29 [a0, a1, a2] st S iv Q := am_aload_n dX10_rentOf_29 rfl rfl hv h
theorem sX10_rentOf_30 {ls : List Value} {a b : Nat} (ha : S.1 a = some (.inl 10)) (hb : S.2.1 a 8 = some b) (h : am_R E d mX10_rentOf k n 33 ls (.ref b :: st) S iv Q) : am_R E d mX10_rentOf k n 30 ls (.ref a :: st) S iv Q := am_getR (ci := 10) dX10_rentOf_30 rfl rfl (by decide) wq_776 uq_10 rfl ha hb h
theorem sX10_rentOf_33 {a0 a2 : Value} {x : Int32} (h : am_R E d mX10_rentOf k n 34 [a0, .int x, a2] (.int x :: st) S iv Q) : am_R E d mX10_rentOf k n 33 [a0, .int x, a2] st S iv Q := am_iload_n dX10_rentOf_33 rfl rfl h
theorem sX10_rentOf_34 {ls : List Value} {a m : Nat} {i : Int32} (ha : S.1 a = some (.inr (.int, m))) (hi : vp_in i m) (h : am_R E d mX10_rentOf k n 35 ls (.int (iv a i.toNatClampNeg) :: st) S iv Q) : am_R E d mX10_rentOf k n 34 ls (.int i :: .ref a :: st) S iv Q := am_iaload dX10_rentOf_34 ha hi h
theorem sX10_rentOf_35 {ls : List Value} {x y : Int32} (h : am_R E d mX10_rentOf k n 36 ls (.int (x * y) :: st) S iv Q) : am_R E d mX10_rentOf k n 35 ls (.int y :: .int x :: st) S iv Q := am_imul dX10_rentOf_35 h
theorem sX10_rentOf_36 {ls : List Value} {x y : Int32} (h : am_R E d mX10_rentOf k n 37 ls (.int (x + y) :: st) S iv Q) : am_R E d mX10_rentOf k n 36 ls (.int y :: .int x :: st) S iv Q := am_iadd dX10_rentOf_36 h
theorem sX10_rentOf_37 {a0 a1 a2 : Value} {x : Int32} (h : am_R E d mX10_rentOf k n 38 [a0, a1, .int x] st S iv Q) : am_R E d mX10_rentOf k n 37 [a0, a1, a2] (.int x :: st) S iv Q := am_istore_n dX10_rentOf_37 rfl (by decide) h
theorem sX10_rentOf_38 {a0 a1 a2 : Value} (hv : am_rf a0 = true) (h : am_R E d mX10_rentOf k n 39 [a0, a1, a2] (a0 :: st) S iv Q) : am_R E d mX10_rentOf k n 38 [a0, a1, a2] st S iv Q := am_aload_n dX10_rentOf_38 rfl rfl hv h
theorem sX10_rentOf_39 {ls : List Value} {a b : Nat} (ha : S.1 a = some (.inl 10)) (hb : S.2.1 a 5 = some b) (h : am_R E d mX10_rentOf k n 42 ls (.ref b :: st) S iv Q) : am_R E d mX10_rentOf k n 39 ls (.ref a :: st) S iv Q := am_getR (ci := 10) dX10_rentOf_39 rfl rfl (by decide) wq_773 uq_10 rfl ha hb h
theorem sX10_rentOf_42 {a0 a2 : Value} {x : Int32} (h : am_R E d mX10_rentOf k n 43 [a0, .int x, a2] (.int x :: st) S iv Q) : am_R E d mX10_rentOf k n 42 [a0, .int x, a2] st S iv Q := am_iload_n dX10_rentOf_42 rfl rfl h
theorem sX10_rentOf_43 {ls : List Value} {a m : Nat} {i : Int32} (ha : S.1 a = some (.inr (.int, m))) (hi : vp_in i m) (h : am_R E d mX10_rentOf k n 44 ls (.int (iv a i.toNatClampNeg) :: st) S iv Q) : am_R E d mX10_rentOf k n 43 ls (.int i :: .ref a :: st) S iv Q := am_iaload dX10_rentOf_43 ha hi h
theorem sX10_rentOf_44 {a0 a1 a2 : Value} (h : am_R E d mX10_rentOf k n 45 [a0, a1, a2] (.int 2 :: st) S iv Q) : am_R E d mX10_rentOf k n 44 [a0, a1, a2] st S iv Q := am_iconst dX10_rentOf_44 (by decide) h
theorem sX10_rentOf_45 {ls : List Value} {x y : Int32} (kt : ¬ x = y → am_R E d mX10_rentOf k n 52 ls st S iv Q) (kf : x = y → am_R E d mX10_rentOf k n 48 ls st S iv Q) : am_R E d mX10_rentOf k n 45 ls (.int y :: .int x :: st) S iv Q := am_icmp_ne dX10_rentOf_45 (by decide) kt kf
theorem sX10_rentOf_48 {a0 a1 a2 : Value} (h : am_R E d mX10_rentOf k n 49 [a0, a1, a2] (.int 0 :: st) S iv Q) : am_R E d mX10_rentOf k n 48 [a0, a1, a2] st S iv Q := am_iconst dX10_rentOf_48 (by decide) h
theorem sX10_rentOf_49 {ls : List Value} (h : am_R E d mX10_rentOf k n 69 ls st S iv Q) : am_R E d mX10_rentOf k n 49 ls st S iv Q := am_goto dX10_rentOf_49 (by decide) h
theorem sX10_rentOf_52 {a0 a1 a2 : Value} (hv : am_rf a0 = true) (h : am_R E d mX10_rentOf k n 53 [a0, a1, a2] (a0 :: st) S iv Q) : am_R E d mX10_rentOf k n 52 [a0, a1, a2] st S iv Q := am_aload_n dX10_rentOf_52 rfl rfl hv h
theorem sX10_rentOf_53 {ls : List Value} {a b : Nat} (ha : S.1 a = some (.inl 10)) (hb : S.2.1 a 9 = some b) (h : am_R E d mX10_rentOf k n 56 ls (.ref b :: st) S iv Q) : am_R E d mX10_rentOf k n 53 ls (.ref a :: st) S iv Q := am_getR (ci := 10) dX10_rentOf_53 rfl rfl (by decide) wq_777 uq_10 rfl ha hb h
theorem sX10_rentOf_56 {a0 a2 : Value} {x : Int32} (h : am_R E d mX10_rentOf k n 57 [a0, .int x, a2] (.int x :: st) S iv Q) : am_R E d mX10_rentOf k n 56 [a0, .int x, a2] st S iv Q := am_iload_n dX10_rentOf_56 rfl rfl h
theorem sX10_rentOf_57 {ls : List Value} {a m : Nat} {i : Int32} (ha : S.1 a = some (.inr (.int, m))) (hi : vp_in i m) (h : am_R E d mX10_rentOf k n 58 ls (.int (iv a i.toNatClampNeg) :: st) S iv Q) : am_R E d mX10_rentOf k n 57 ls (.int i :: .ref a :: st) S iv Q := am_iaload dX10_rentOf_57 ha hi h
theorem sX10_rentOf_58 {a0 a1 a2 : Value} (h : am_R E d mX10_rentOf k n 59 [a0, a1, a2] (.int 1 :: st) S iv Q) : am_R E d mX10_rentOf k n 58 [a0, a1, a2] st S iv Q := am_iconst dX10_rentOf_58 (by decide) h
theorem sX10_rentOf_59 {ls : List Value} {x y : Int32} (kt : ¬ x = y → am_R E d mX10_rentOf k n 68 ls st S iv Q) (kf : x = y → am_R E d mX10_rentOf k n 62 ls st S iv Q) : am_R E d mX10_rentOf k n 59 ls (.int y :: .int x :: st) S iv Q := am_icmp_ne dX10_rentOf_59 (by decide) kt kf
theorem sX10_rentOf_62 {a0 a1 a2 : Value} (h : am_R E d mX10_rentOf k n 63 [a0, a1, a2] (.int 2 :: st) S iv Q) : am_R E d mX10_rentOf k n 62 [a0, a1, a2] st S iv Q := am_iconst dX10_rentOf_62 (by decide) h
theorem sX10_rentOf_63 {a0 a1 : Value} {x : Int32} (h : am_R E d mX10_rentOf k n 64 [a0, a1, .int x] (.int x :: st) S iv Q) : am_R E d mX10_rentOf k n 63 [a0, a1, .int x] st S iv Q := am_iload_n dX10_rentOf_63 rfl rfl h
theorem sX10_rentOf_64 {ls : List Value} {x y : Int32} (h : am_R E d mX10_rentOf k n 65 ls (.int (x * y) :: st) S iv Q) : am_R E d mX10_rentOf k n 64 ls (.int y :: .int x :: st) S iv Q := am_imul dX10_rentOf_64 h
theorem sX10_rentOf_65 {ls : List Value} (h : am_R E d mX10_rentOf k n 69 ls st S iv Q) : am_R E d mX10_rentOf k n 65 ls st S iv Q := am_goto dX10_rentOf_65 (by decide) h
theorem sX10_rentOf_68 {a0 a1 : Value} {x : Int32} (h : am_R E d mX10_rentOf k n 69 [a0, a1, .int x] (.int x :: st) S iv Q) : am_R E d mX10_rentOf k n 68 [a0, a1, .int x] st S iv Q := am_iload_n dX10_rentOf_68 rfl rfl h
theorem sX10_rentOf_69 {ls : List Value} {x : Int32} (h : Q (.inl (some (.int x))) S iv) : am_R E d mX10_rentOf k n 69 ls [.int x] S iv Q := am_ireturn dX10_rentOf_69 rfl h
theorem dX10_count_0 : decode cX10_count 0 = .ok (.aload_n 0, 1) := by decide +kernel
theorem dX10_count_1 : decode cX10_count 1 = .ok (.iconst 0, 1) := by decide +kernel
theorem dX10_count_2 : decode cX10_count 2 = .ok (.putfield 143, 3) := by decide +kernel
theorem dX10_count_5 : decode cX10_count 5 = .ok (.iload_n 1, 1) := by decide +kernel
theorem dX10_count_6 : decode cX10_count 6 = .ok (.iconst 0, 1) := by decide +kernel
theorem dX10_count_7 : decode cX10_count 7 = .ok (.iconst 5, 1) := by decide +kernel
theorem dX10_count_8 : decode cX10_count 8 = .ok (.invokestatic 146, 3) := by decide +kernel
theorem dX10_count_11 : decode cX10_count 11 = .ok (.ifCond .eq 10, 3) := by decide +kernel
theorem dX10_count_14 : decode cX10_count 14 = .ok (.aload_n 0, 1) := by decide +kernel
theorem dX10_count_15 : decode cX10_count 15 = .ok (.getfield 49, 3) := by decide +kernel
theorem dX10_count_18 : decode cX10_count 18 = .ok (.iload_n 1, 1) := by decide +kernel
theorem dX10_count_19 : decode cX10_count 19 = .ok (.iaload, 1) := by decide +kernel
theorem dX10_count_20 : decode cX10_count 20 = .ok (.ireturn, 1) := by decide +kernel
theorem dX10_count_21 : decode cX10_count 21 = .ok (.iload_n 1, 1) := by decide +kernel
theorem dX10_count_22 : decode cX10_count 22 = .ok (.tableswitch 77 6 12 #[42, 47, 52, 57, 62, 67, 67], 42) := by decide +kernel
theorem dX10_count_64 : decode cX10_count 64 = .ok (.aload_n 0, 1) := by decide +kernel
theorem dX10_count_65 : decode cX10_count 65 = .ok (.getfield 306, 3) := by decide +kernel
theorem dX10_count_68 : decode cX10_count 68 = .ok (.ireturn, 1) := by decide +kernel
theorem dX10_count_69 : decode cX10_count 69 = .ok (.aload_n 0, 1) := by decide +kernel
theorem dX10_count_70 : decode cX10_count 70 = .ok (.getfield 314, 3) := by decide +kernel
theorem dX10_count_73 : decode cX10_count 73 = .ok (.ireturn, 1) := by decide +kernel
theorem dX10_count_74 : decode cX10_count 74 = .ok (.aload_n 0, 1) := by decide +kernel
theorem dX10_count_75 : decode cX10_count 75 = .ok (.getfield 311, 3) := by decide +kernel
theorem dX10_count_78 : decode cX10_count 78 = .ok (.ireturn, 1) := by decide +kernel
theorem dX10_count_79 : decode cX10_count 79 = .ok (.aload_n 0, 1) := by decide +kernel
theorem dX10_count_80 : decode cX10_count 80 = .ok (.getfield 308, 3) := by decide +kernel
theorem dX10_count_83 : decode cX10_count 83 = .ok (.ireturn, 1) := by decide +kernel
theorem dX10_count_84 : decode cX10_count 84 = .ok (.aload_n 0, 1) := by decide +kernel
theorem dX10_count_85 : decode cX10_count 85 = .ok (.getfield 150, 3) := by decide +kernel
theorem dX10_count_88 : decode cX10_count 88 = .ok (.ireturn, 1) := by decide +kernel
theorem dX10_count_89 : decode cX10_count 89 = .ok (.aload_n 0, 1) := by decide +kernel
theorem dX10_count_90 : decode cX10_count 90 = .ok (.getfield 80, 3) := by decide +kernel
theorem dX10_count_93 : decode cX10_count 93 = .ok (.iload_n 1, 1) := by decide +kernel
theorem dX10_count_94 : decode cX10_count 94 = .ok (.bipush 11, 2) := by decide +kernel
theorem dX10_count_96 : decode cX10_count 96 = .ok (.isub, 1) := by decide +kernel
theorem dX10_count_97 : decode cX10_count 97 = .ok (.iaload, 1) := by decide +kernel
theorem dX10_count_98 : decode cX10_count 98 = .ok (.ireturn, 1) := by decide +kernel
theorem dX10_count_99 : decode cX10_count 99 = .ok (.aload_n 0, 1) := by decide +kernel
theorem dX10_count_100 : decode cX10_count 100 = .ok (.iconst 1, 1) := by decide +kernel
theorem dX10_count_101 : decode cX10_count 101 = .ok (.invokevirtual 293, 3) := by decide +kernel
theorem dX10_count_104 : decode cX10_count 104 = .ok (.ireturn, 1) := by decide +kernel
theorem sX10_count_0 {a0 a1 : Value} (hv : am_rf a0 = true) (h : am_R E d mX10_count k n 1 [a0, a1] (a0 :: st) S iv Q) : am_R E d mX10_count k n 0 [a0, a1] st S iv Q := am_aload_n dX10_count_0 rfl rfl hv h
theorem sX10_count_1 {a0 a1 : Value} (h : am_R E d mX10_count k n 2 [a0, a1] (.int 0 :: st) S iv Q) : am_R E d mX10_count k n 1 [a0, a1] st S iv Q := am_iconst dX10_count_1 (by decide) h
theorem sX10_count_2 {ls : List Value} {a : Nat} {x : Int32} (ha : S.1 a = some (.inl 10)) (h : am_R E d mX10_count k n 5 ls st S (am_w iv a 3 x) Q) : am_R E d mX10_count k n 2 ls (.int x :: .ref a :: st) S iv Q := am_putI (ci := 10) dX10_count_2 rfl rfl (by decide) wq_806 uq_10 tyX10_ok nmX10 (Or.inl rfl) rfl ha h
theorem sX10_count_5 {a0 : Value} {x : Int32} (h : am_R E d mX10_count k n 6 [a0, .int x] (.int x :: st) S iv Q) : am_R E d mX10_count k n 5 [a0, .int x] st S iv Q := am_iload_n dX10_count_5 rfl rfl h
theorem sX10_count_6 {a0 a1 : Value} (h : am_R E d mX10_count k n 7 [a0, a1] (.int 0 :: st) S iv Q) : am_R E d mX10_count k n 6 [a0, a1] st S iv Q := am_iconst dX10_count_6 (by decide) h
theorem sX10_count_7 {a0 a1 : Value} (h : am_R E d mX10_count k n 8 [a0, a1] (.int 5 :: st) S iv Q) : am_R E d mX10_count k n 7 [a0, a1] st S iv Q := am_iconst dX10_count_7 (by decide) h
theorem sX10_count_8 {ls : List Value} {x1 x2 x3 : Value} (hst : (st.map fun v => v.category).sum ≤ 8) (hM : am_M E d mX10_isIn 0 0 [x1, x2, x3] S iv (am_K3 E (d + 1) mX10_count k n 8 ls st Q)) : am_R E (d + 1) mX10_count k n 8 ls (x3 :: x2 :: x1 :: st) S iv Q := am_cS (M' := mX10_isIn) (as := [x1, x2, x3]) dX10_count_8 rfl wq_810 wq_811 wq_808 wq_807 hy_X10_isIn (by decide) hst (by omega) (by omega) hM
theorem sX10_count_8_k {ls : List Value} {x1 x2 x3 : Value} {k' n' : Nat} (hst : (st.map fun v => v.category).sum ≤ 8) (hM : am_M E d mX10_isIn k' n' [x1, x2, x3] S iv (am_K3 E (d + 1) mX10_count k n 8 ls st Q)) : am_R E (d + 1) mX10_count (k' + k) (n' + n) 8 ls (x3 :: x2 :: x1 :: st) S iv Q := am_cS (M' := mX10_isIn) (as := [x1, x2, x3]) dX10_count_8 rfl wq_810 wq_811 wq_808 wq_807 hy_X10_isIn (by decide) hst (by omega) (by omega) hM
theorem sX10_count_11 {ls : List Value} {x : Int32} (kt : x = 0 → am_R E d mX10_count k n 21 ls st S iv Q) (kf : ¬ x = 0 → am_R E d mX10_count k n 14 ls st S iv Q) : am_R E d mX10_count k n 11 ls (.int x :: st) S iv Q := am_if_eq dX10_count_11 (by decide) kt kf
theorem sX10_count_14 {a0 a1 : Value} (hv : am_rf a0 = true) (h : am_R E d mX10_count k n 15 [a0, a1] (a0 :: st) S iv Q) : am_R E d mX10_count k n 14 [a0, a1] st S iv Q := am_aload_n dX10_count_14 rfl rfl hv h
theorem sX10_count_15 {ls : List Value} {a b : Nat} (ha : S.1 a = some (.inl 10)) (hb : S.2.1 a 4 = some b) (h : am_R E d mX10_count k n 18 ls (.ref b :: st) S iv Q) : am_R E d mX10_count k n 15 ls (.ref a :: st) S iv Q := am_getR (ci := 10) dX10_count_15 rfl rfl (by decide) wq_772 uq_10 rfl ha hb h
theorem sX10_count_18 {a0 : Value} {x : Int32} (h : am_R E d mX10_count k n 19 [a0, .int x] (.int x :: st) S iv Q) : am_R E d mX10_count k n 18 [a0, .int x] st S iv Q := am_iload_n dX10_count_18 rfl rfl h
theorem sX10_count_19 {ls : List Value} {a m : Nat} {i : Int32} (ha : S.1 a = some (.inr (.int, m))) (hi : vp_in i m) (h : am_R E d mX10_count k n 20 ls (.int (iv a i.toNatClampNeg) :: st) S iv Q) : am_R E d mX10_count k n 19 ls (.int i :: .ref a :: st) S iv Q := am_iaload dX10_count_19 ha hi h
theorem sX10_count_20 {ls : List Value} {x : Int32} (h : Q (.inl (some (.int x))) S iv) : am_R E d mX10_count k n 20 ls [.int x] S iv Q := am_ireturn dX10_count_20 rfl h
theorem sX10_count_21 {a0 : Value} {x : Int32} (h : am_R E d mX10_count k n 22 [a0, .int x] (.int x :: st) S iv Q) : am_R E d mX10_count k n 21 [a0, .int x] st S iv Q := am_iload_n dX10_count_21 rfl rfl h
theorem sX10_count_22_6 {ls : List Value} (h : am_R E d mX10_count k n 64 ls st S iv Q) : am_R E d mX10_count k n 22 ls (.int 6 :: st) S iv Q := am_tableIn (off := 42) dX10_count_22 (by decide) (by decide) (by decide) (by decide) h
theorem sX10_count_22_7 {ls : List Value} (h : am_R E d mX10_count k n 69 ls st S iv Q) : am_R E d mX10_count k n 22 ls (.int 7 :: st) S iv Q := am_tableIn (off := 47) dX10_count_22 (by decide) (by decide) (by decide) (by decide) h
theorem sX10_count_22_8 {ls : List Value} (h : am_R E d mX10_count k n 74 ls st S iv Q) : am_R E d mX10_count k n 22 ls (.int 8 :: st) S iv Q := am_tableIn (off := 52) dX10_count_22 (by decide) (by decide) (by decide) (by decide) h
theorem sX10_count_22_9 {ls : List Value} (h : am_R E d mX10_count k n 79 ls st S iv Q) : am_R E d mX10_count k n 22 ls (.int 9 :: st) S iv Q := am_tableIn (off := 57) dX10_count_22 (by decide) (by decide) (by decide) (by decide) h
theorem sX10_count_22_10 {ls : List Value} (h : am_R E d mX10_count k n 84 ls st S iv Q) : am_R E d mX10_count k n 22 ls (.int 10 :: st) S iv Q := am_tableIn (off := 62) dX10_count_22 (by decide) (by decide) (by decide) (by decide) h
theorem sX10_count_22_11 {ls : List Value} (h : am_R E d mX10_count k n 89 ls st S iv Q) : am_R E d mX10_count k n 22 ls (.int 11 :: st) S iv Q := am_tableIn (off := 67) dX10_count_22 (by decide) (by decide) (by decide) (by decide) h
theorem sX10_count_22_12 {ls : List Value} (h : am_R E d mX10_count k n 89 ls st S iv Q) : am_R E d mX10_count k n 22 ls (.int 12 :: st) S iv Q := am_tableIn (off := 67) dX10_count_22 (by decide) (by decide) (by decide) (by decide) h
theorem sX10_count_22_d {ls : List Value} {x : Int32} (hx : x.toInt < 6 ∨ 12 < x.toInt) (h : am_R E d mX10_count k n 99 ls st S iv Q) : am_R E d mX10_count k n 22 ls (.int x :: st) S iv Q := am_tableOut dX10_count_22 hx (by decide) h
theorem sX10_count_64 {a0 a1 : Value} (hv : am_rf a0 = true) (h : am_R E d mX10_count k n 65 [a0, a1] (a0 :: st) S iv Q) : am_R E d mX10_count k n 64 [a0, a1] st S iv Q := am_aload_n dX10_count_64 rfl rfl hv h
theorem sX10_count_65 {ls : List Value} {a : Nat} (ha : S.1 a = some (.inl 10)) (h : am_R E d mX10_count k n 68 ls (.int (iv a 29) :: st) S iv Q) : am_R E d mX10_count k n 65 ls (.ref a :: st) S iv Q := am_getI (ci := 10) dX10_count_65 rfl rfl (by decide) wq_972 uq_10 rfl ha h
theorem sX10_count_68 {ls : List Value} {x : Int32} (h : Q (.inl (some (.int x))) S iv) : am_R E d mX10_count k n 68 ls [.int x] S iv Q := am_ireturn dX10_count_68 rfl h
theorem sX10_count_69 {a0 a1 : Value} (hv : am_rf a0 = true) (h : am_R E d mX10_count k n 70 [a0, a1] (a0 :: st) S iv Q) : am_R E d mX10_count k n 69 [a0, a1] st S iv Q := am_aload_n dX10_count_69 rfl rfl hv h
theorem sX10_count_70 {ls : List Value} {a : Nat} (ha : S.1 a = some (.inl 10)) (h : am_R E d mX10_count k n 73 ls (.int (iv a 32) :: st) S iv Q) : am_R E d mX10_count k n 70 ls (.ref a :: st) S iv Q := am_getI (ci := 10) dX10_count_70 rfl rfl (by decide) wq_975 uq_10 rfl ha h
theorem sX10_count_73 {ls : List Value} {x : Int32} (h : Q (.inl (some (.int x))) S iv) : am_R E d mX10_count k n 73 ls [.int x] S iv Q := am_ireturn dX10_count_73 rfl h
theorem sX10_count_74 {a0 a1 : Value} (hv : am_rf a0 = true) (h : am_R E d mX10_count k n 75 [a0, a1] (a0 :: st) S iv Q) : am_R E d mX10_count k n 74 [a0, a1] st S iv Q := am_aload_n dX10_count_74 rfl rfl hv h
theorem sX10_count_75 {ls : List Value} {a : Nat} (ha : S.1 a = some (.inl 10)) (h : am_R E d mX10_count k n 78 ls (.int (iv a 31) :: st) S iv Q) : am_R E d mX10_count k n 75 ls (.ref a :: st) S iv Q := am_getI (ci := 10) dX10_count_75 rfl rfl (by decide) wq_974 uq_10 rfl ha h
theorem sX10_count_78 {ls : List Value} {x : Int32} (h : Q (.inl (some (.int x))) S iv) : am_R E d mX10_count k n 78 ls [.int x] S iv Q := am_ireturn dX10_count_78 rfl h
theorem sX10_count_79 {a0 a1 : Value} (hv : am_rf a0 = true) (h : am_R E d mX10_count k n 80 [a0, a1] (a0 :: st) S iv Q) : am_R E d mX10_count k n 79 [a0, a1] st S iv Q := am_aload_n dX10_count_79 rfl rfl hv h
theorem sX10_count_80 {ls : List Value} {a : Nat} (ha : S.1 a = some (.inl 10)) (h : am_R E d mX10_count k n 83 ls (.int (iv a 30) :: st) S iv Q) : am_R E d mX10_count k n 80 ls (.ref a :: st) S iv Q := am_getI (ci := 10) dX10_count_80 rfl rfl (by decide) wq_973 uq_10 rfl ha h
theorem sX10_count_83 {ls : List Value} {x : Int32} (h : Q (.inl (some (.int x))) S iv) : am_R E d mX10_count k n 83 ls [.int x] S iv Q := am_ireturn dX10_count_83 rfl h
theorem sX10_count_84 {a0 a1 : Value} (hv : am_rf a0 = true) (h : am_R E d mX10_count k n 85 [a0, a1] (a0 :: st) S iv Q) : am_R E d mX10_count k n 84 [a0, a1] st S iv Q := am_aload_n dX10_count_84 rfl rfl hv h
theorem sX10_count_85 {ls : List Value} {a : Nat} (ha : S.1 a = some (.inl 10)) (h : am_R E d mX10_count k n 88 ls (.int (iv a 18) :: st) S iv Q) : am_R E d mX10_count k n 85 ls (.ref a :: st) S iv Q := am_getI (ci := 10) dX10_count_85 rfl rfl (by decide) wq_812 uq_10 rfl ha h
theorem sX10_count_88 {ls : List Value} {x : Int32} (h : Q (.inl (some (.int x))) S iv) : am_R E d mX10_count k n 88 ls [.int x] S iv Q := am_ireturn dX10_count_88 rfl h
theorem sX10_count_89 {a0 a1 : Value} (hv : am_rf a0 = true) (h : am_R E d mX10_count k n 90 [a0, a1] (a0 :: st) S iv Q) : am_R E d mX10_count k n 89 [a0, a1] st S iv Q := am_aload_n dX10_count_89 rfl rfl hv h
theorem sX10_count_90 {ls : List Value} {a b : Nat} (ha : S.1 a = some (.inl 10)) (hb : S.2.1 a 16 = some b) (h : am_R E d mX10_count k n 93 ls (.ref b :: st) S iv Q) : am_R E d mX10_count k n 90 ls (.ref a :: st) S iv Q := am_getR (ci := 10) dX10_count_90 rfl rfl (by decide) wq_784 uq_10 rfl ha hb h
theorem sX10_count_93 {a0 : Value} {x : Int32} (h : am_R E d mX10_count k n 94 [a0, .int x] (.int x :: st) S iv Q) : am_R E d mX10_count k n 93 [a0, .int x] st S iv Q := am_iload_n dX10_count_93 rfl rfl h
theorem sX10_count_94 {a0 a1 : Value} (h : am_R E d mX10_count k n 96 [a0, a1] (.int 11 :: st) S iv Q) : am_R E d mX10_count k n 94 [a0, a1] st S iv Q := am_bipush dX10_count_94 (by decide) h
theorem sX10_count_96 {ls : List Value} {x y : Int32} (h : am_R E d mX10_count k n 97 ls (.int (x - y) :: st) S iv Q) : am_R E d mX10_count k n 96 ls (.int y :: .int x :: st) S iv Q := am_isub dX10_count_96 h
theorem sX10_count_97 {ls : List Value} {a m : Nat} {i : Int32} (ha : S.1 a = some (.inr (.int, m))) (hi : vp_in i m) (h : am_R E d mX10_count k n 98 ls (.int (iv a i.toNatClampNeg) :: st) S iv Q) : am_R E d mX10_count k n 97 ls (.int i :: .ref a :: st) S iv Q := am_iaload dX10_count_97 ha hi h
theorem sX10_count_98 {ls : List Value} {x : Int32} (h : Q (.inl (some (.int x))) S iv) : am_R E d mX10_count k n 98 ls [.int x] S iv Q := am_ireturn dX10_count_98 rfl h
theorem sX10_count_99 {a0 a1 : Value} (hv : am_rf a0 = true) (h : am_R E d mX10_count k n 100 [a0, a1] (a0 :: st) S iv Q) : am_R E d mX10_count k n 99 [a0, a1] st S iv Q := am_aload_n dX10_count_99 rfl rfl hv h
theorem sX10_count_100 {a0 a1 : Value} (h : am_R E d mX10_count k n 101 [a0, a1] (.int 1 :: st) S iv Q) : am_R E d mX10_count k n 100 [a0, a1] st S iv Q := am_iconst dX10_count_100 (by decide) h
theorem sX10_count_101 {ls : List Value} {x1 : Value} {a : Nat} (ha : S.1 a = some (.inl 10)) (hst : (st.map fun v => v.category).sum ≤ 8) (hM : am_M E d mX10_fail 0 0 [.ref a, x1] S iv (am_K3 E (d + 1) mX10_count k n 101 ls st Q)) : am_R E (d + 1) mX10_count k n 101 ls (x1 :: .ref a :: st) S iv Q := am_cV (ci := 10) (M' := mX10_fail) (as := [x1]) dX10_count_101 rfl rfl rfl wq_955 wq_956 wq_957 wq_808 wq_953 hy_X10_fail (by decide) ha hst (by omega) (by omega) hM
theorem sX10_count_101_k {ls : List Value} {x1 : Value} {k' n' : Nat} {a : Nat} (ha : S.1 a = some (.inl 10)) (hst : (st.map fun v => v.category).sum ≤ 8) (hM : am_M E d mX10_fail k' n' [.ref a, x1] S iv (am_K3 E (d + 1) mX10_count k n 101 ls st Q)) : am_R E (d + 1) mX10_count (k' + k) (n' + n) 101 ls (x1 :: .ref a :: st) S iv Q := am_cV (ci := 10) (M' := mX10_fail) (as := [x1]) dX10_count_101 rfl rfl rfl wq_955 wq_956 wq_957 wq_808 wq_953 hy_X10_fail (by decide) ha hst (by omega) (by omega) hM
theorem sX10_count_104 {ls : List Value} {x : Int32} (h : Q (.inl (some (.int x))) S iv) : am_R E d mX10_count k n 104 ls [.int x] S iv Q := am_ireturn dX10_count_104 rfl h
theorem dX10_drawer_0 : decode cX10_drawer 0 = .ok (.aload_n 0, 1) := by decide +kernel
theorem dX10_drawer_1 : decode cX10_drawer 1 = .ok (.iconst 0, 1) := by decide +kernel
theorem dX10_drawer_2 : decode cX10_drawer 2 = .ok (.putfield 143, 3) := by decide +kernel
theorem dX10_drawer_5 : decode cX10_drawer 5 = .ok (.aload_n 0, 1) := by decide +kernel
theorem dX10_drawer_6 : decode cX10_drawer 6 = .ok (.iload_n 1, 1) := by decide +kernel
theorem dX10_drawer_7 : decode cX10_drawer 7 = .ok (.invokevirtual 354, 3) := by decide +kernel
theorem dX10_drawer_10 : decode cX10_drawer 10 = .ok (.ifCond .ne 9, 3) := by decide +kernel
theorem dX10_drawer_13 : decode cX10_drawer 13 = .ok (.aload_n 0, 1) := by decide +kernel
theorem dX10_drawer_14 : decode cX10_drawer 14 = .ok (.iconst 1, 1) := by decide +kernel
theorem dX10_drawer_15 : decode cX10_drawer 15 = .ok (.invokevirtual 293, 3) := by decide +kernel
theorem dX10_drawer_18 : decode cX10_drawer 18 = .ok (.ireturn, 1) := by decide +kernel
theorem dX10_drawer_19 : decode cX10_drawer 19 = .ok (.iload_n 2, 1) := by decide +kernel
theorem dX10_drawer_20 : decode cX10_drawer 20 = .ok (.tableswitch 111 0 7 #[48, 55, 62, 69, 76, 83, 92, 105], 48) := by decide +kernel
theorem dX10_drawer_68 : decode cX10_drawer 68 = .ok (.aload_n 0, 1) := by decide +kernel
theorem dX10_drawer_69 : decode cX10_drawer 69 = .ok (.getfield 53, 3) := by decide +kernel
theorem dX10_drawer_72 : decode cX10_drawer 72 = .ok (.iload_n 1, 1) := by decide +kernel
theorem dX10_drawer_73 : decode cX10_drawer 73 = .ok (.iaload, 1) := by decide +kernel
theorem dX10_drawer_74 : decode cX10_drawer 74 = .ok (.ireturn, 1) := by decide +kernel
theorem dX10_drawer_75 : decode cX10_drawer 75 = .ok (.aload_n 0, 1) := by decide +kernel
theorem dX10_drawer_76 : decode cX10_drawer 76 = .ok (.getfield 55, 3) := by decide +kernel
theorem dX10_drawer_79 : decode cX10_drawer 79 = .ok (.iload_n 1, 1) := by decide +kernel
theorem dX10_drawer_80 : decode cX10_drawer 80 = .ok (.iaload, 1) := by decide +kernel
theorem dX10_drawer_81 : decode cX10_drawer 81 = .ok (.ireturn, 1) := by decide +kernel
theorem dX10_drawer_82 : decode cX10_drawer 82 = .ok (.aload_n 0, 1) := by decide +kernel
theorem dX10_drawer_83 : decode cX10_drawer 83 = .ok (.getfield 57, 3) := by decide +kernel
theorem dX10_drawer_86 : decode cX10_drawer 86 = .ok (.iload_n 1, 1) := by decide +kernel
theorem dX10_drawer_87 : decode cX10_drawer 87 = .ok (.iaload, 1) := by decide +kernel
theorem dX10_drawer_88 : decode cX10_drawer 88 = .ok (.ireturn, 1) := by decide +kernel
theorem dX10_drawer_89 : decode cX10_drawer 89 = .ok (.aload_n 0, 1) := by decide +kernel
theorem dX10_drawer_90 : decode cX10_drawer 90 = .ok (.getfield 59, 3) := by decide +kernel
theorem dX10_drawer_93 : decode cX10_drawer 93 = .ok (.iload_n 1, 1) := by decide +kernel
theorem dX10_drawer_94 : decode cX10_drawer 94 = .ok (.iaload, 1) := by decide +kernel
theorem dX10_drawer_95 : decode cX10_drawer 95 = .ok (.ireturn, 1) := by decide +kernel
theorem dX10_drawer_96 : decode cX10_drawer 96 = .ok (.aload_n 0, 1) := by decide +kernel
theorem dX10_drawer_97 : decode cX10_drawer 97 = .ok (.getfield 61, 3) := by decide +kernel
theorem dX10_drawer_100 : decode cX10_drawer 100 = .ok (.iload_n 1, 1) := by decide +kernel
theorem dX10_drawer_101 : decode cX10_drawer 101 = .ok (.iaload, 1) := by decide +kernel
theorem dX10_drawer_102 : decode cX10_drawer 102 = .ok (.ireturn, 1) := by decide +kernel
theorem dX10_drawer_103 : decode cX10_drawer 103 = .ok (.aload_n 0, 1) := by decide +kernel
theorem dX10_drawer_104 : decode cX10_drawer 104 = .ok (.getfield 306, 3) := by decide +kernel
theorem dX10_drawer_107 : decode cX10_drawer 107 = .ok (.iload_n 1, 1) := by decide +kernel
theorem dX10_drawer_108 : decode cX10_drawer 108 = .ok (.ishr, 1) := by decide +kernel
theorem dX10_drawer_109 : decode cX10_drawer 109 = .ok (.iconst 1, 1) := by decide +kernel
theorem dX10_drawer_110 : decode cX10_drawer 110 = .ok (.iand, 1) := by decide +kernel
theorem dX10_drawer_111 : decode cX10_drawer 111 = .ok (.ireturn, 1) := by decide +kernel
theorem dX10_drawer_112 : decode cX10_drawer 112 = .ok (.aload_n 0, 1) := by decide +kernel
theorem dX10_drawer_113 : decode cX10_drawer 113 = .ok (.aload_n 0, 1) := by decide +kernel
theorem dX10_drawer_114 : decode cX10_drawer 114 = .ok (.getfield 306, 3) := by decide +kernel
theorem dX10_drawer_117 : decode cX10_drawer 117 = .ok (.invokevirtual 357, 3) := by decide +kernel
theorem dX10_drawer_120 : decode cX10_drawer 120 = .ok (.iload_n 1, 1) := by decide +kernel
theorem dX10_drawer_121 : decode cX10_drawer 121 = .ok (.ishr, 1) := by decide +kernel
theorem dX10_drawer_122 : decode cX10_drawer 122 = .ok (.iconst 1, 1) := by decide +kernel
theorem dX10_drawer_123 : decode cX10_drawer 123 = .ok (.iand, 1) := by decide +kernel
theorem dX10_drawer_124 : decode cX10_drawer 124 = .ok (.ireturn, 1) := by decide +kernel
theorem dX10_drawer_125 : decode cX10_drawer 125 = .ok (.aload_n 0, 1) := by decide +kernel
theorem dX10_drawer_126 : decode cX10_drawer 126 = .ok (.iload_n 1, 1) := by decide +kernel
theorem dX10_drawer_127 : decode cX10_drawer 127 = .ok (.invokevirtual 360, 3) := by decide +kernel
theorem dX10_drawer_130 : decode cX10_drawer 130 = .ok (.ireturn, 1) := by decide +kernel
theorem dX10_drawer_131 : decode cX10_drawer 131 = .ok (.aload_n 0, 1) := by decide +kernel
theorem dX10_drawer_132 : decode cX10_drawer 132 = .ok (.iconst 1, 1) := by decide +kernel
theorem dX10_drawer_133 : decode cX10_drawer 133 = .ok (.invokevirtual 293, 3) := by decide +kernel
theorem dX10_drawer_136 : decode cX10_drawer 136 = .ok (.ireturn, 1) := by decide +kernel
theorem sX10_drawer_0 {a0 a1 a2 : Value} (hv : am_rf a0 = true) (h : am_R E d mX10_drawer k n 1 [a0, a1, a2] (a0 :: st) S iv Q) : am_R E d mX10_drawer k n 0 [a0, a1, a2] st S iv Q := am_aload_n dX10_drawer_0 rfl rfl hv h
theorem sX10_drawer_1 {a0 a1 a2 : Value} (h : am_R E d mX10_drawer k n 2 [a0, a1, a2] (.int 0 :: st) S iv Q) : am_R E d mX10_drawer k n 1 [a0, a1, a2] st S iv Q := am_iconst dX10_drawer_1 (by decide) h
theorem sX10_drawer_2 {ls : List Value} {a : Nat} {x : Int32} (ha : S.1 a = some (.inl 10)) (h : am_R E d mX10_drawer k n 5 ls st S (am_w iv a 3 x) Q) : am_R E d mX10_drawer k n 2 ls (.int x :: .ref a :: st) S iv Q := am_putI (ci := 10) dX10_drawer_2 rfl rfl (by decide) wq_806 uq_10 tyX10_ok nmX10 (Or.inl rfl) rfl ha h
theorem sX10_drawer_5 {a0 a1 a2 : Value} (hv : am_rf a0 = true) (h : am_R E d mX10_drawer k n 6 [a0, a1, a2] (a0 :: st) S iv Q) : am_R E d mX10_drawer k n 5 [a0, a1, a2] st S iv Q := am_aload_n dX10_drawer_5 rfl rfl hv h
theorem sX10_drawer_6 {a0 a2 : Value} {x : Int32} (h : am_R E d mX10_drawer k n 7 [a0, .int x, a2] (.int x :: st) S iv Q) : am_R E d mX10_drawer k n 6 [a0, .int x, a2] st S iv Q := am_iload_n dX10_drawer_6 rfl rfl h
theorem sX10_drawer_7 {ls : List Value} {x1 : Value} {a : Nat} (ha : S.1 a = some (.inl 10)) (hst : (st.map fun v => v.category).sum ≤ 8) (hM : am_M E d mX10_isDrawer 0 0 [.ref a, x1] S iv (am_K3 E (d + 1) mX10_drawer k n 7 ls st Q)) : am_R E (d + 1) mX10_drawer k n 7 ls (x1 :: .ref a :: st) S iv Q := am_cV (ci := 10) (M' := mX10_isDrawer) (as := [x1]) dX10_drawer_7 rfl rfl rfl wq_1026 wq_1027 wq_1028 wq_808 wq_1024 hy_X10_isDrawer (by decide) ha hst (by omega) (by omega) hM
theorem sX10_drawer_7_k {ls : List Value} {x1 : Value} {k' n' : Nat} {a : Nat} (ha : S.1 a = some (.inl 10)) (hst : (st.map fun v => v.category).sum ≤ 8) (hM : am_M E d mX10_isDrawer k' n' [.ref a, x1] S iv (am_K3 E (d + 1) mX10_drawer k n 7 ls st Q)) : am_R E (d + 1) mX10_drawer (k' + k) (n' + n) 7 ls (x1 :: .ref a :: st) S iv Q := am_cV (ci := 10) (M' := mX10_isDrawer) (as := [x1]) dX10_drawer_7 rfl rfl rfl wq_1026 wq_1027 wq_1028 wq_808 wq_1024 hy_X10_isDrawer (by decide) ha hst (by omega) (by omega) hM
theorem sX10_drawer_10 {ls : List Value} {x : Int32} (kt : ¬ x = 0 → am_R E d mX10_drawer k n 19 ls st S iv Q) (kf : x = 0 → am_R E d mX10_drawer k n 13 ls st S iv Q) : am_R E d mX10_drawer k n 10 ls (.int x :: st) S iv Q := am_if_ne dX10_drawer_10 (by decide) kt kf
theorem sX10_drawer_13 {a0 a1 a2 : Value} (hv : am_rf a0 = true) (h : am_R E d mX10_drawer k n 14 [a0, a1, a2] (a0 :: st) S iv Q) : am_R E d mX10_drawer k n 13 [a0, a1, a2] st S iv Q := am_aload_n dX10_drawer_13 rfl rfl hv h
theorem sX10_drawer_14 {a0 a1 a2 : Value} (h : am_R E d mX10_drawer k n 15 [a0, a1, a2] (.int 1 :: st) S iv Q) : am_R E d mX10_drawer k n 14 [a0, a1, a2] st S iv Q := am_iconst dX10_drawer_14 (by decide) h
theorem sX10_drawer_15 {ls : List Value} {x1 : Value} {a : Nat} (ha : S.1 a = some (.inl 10)) (hst : (st.map fun v => v.category).sum ≤ 8) (hM : am_M E d mX10_fail 0 0 [.ref a, x1] S iv (am_K3 E (d + 1) mX10_drawer k n 15 ls st Q)) : am_R E (d + 1) mX10_drawer k n 15 ls (x1 :: .ref a :: st) S iv Q := am_cV (ci := 10) (M' := mX10_fail) (as := [x1]) dX10_drawer_15 rfl rfl rfl wq_955 wq_956 wq_957 wq_808 wq_953 hy_X10_fail (by decide) ha hst (by omega) (by omega) hM
theorem sX10_drawer_15_k {ls : List Value} {x1 : Value} {k' n' : Nat} {a : Nat} (ha : S.1 a = some (.inl 10)) (hst : (st.map fun v => v.category).sum ≤ 8) (hM : am_M E d mX10_fail k' n' [.ref a, x1] S iv (am_K3 E (d + 1) mX10_drawer k n 15 ls st Q)) : am_R E (d + 1) mX10_drawer (k' + k) (n' + n) 15 ls (x1 :: .ref a :: st) S iv Q := am_cV (ci := 10) (M' := mX10_fail) (as := [x1]) dX10_drawer_15 rfl rfl rfl wq_955 wq_956 wq_957 wq_808 wq_953 hy_X10_fail (by decide) ha hst (by omega) (by omega) hM
theorem sX10_drawer_18 {ls : List Value} {x : Int32} (h : Q (.inl (some (.int x))) S iv) : am_R E d mX10_drawer k n 18 ls [.int x] S iv Q := am_ireturn dX10_drawer_18 rfl h
theorem sX10_drawer_19 {a0 a1 : Value} {x : Int32} (h : am_R E d mX10_drawer k n 20 [a0, a1, .int x] (.int x :: st) S iv Q) : am_R E d mX10_drawer k n 19 [a0, a1, .int x] st S iv Q := am_iload_n dX10_drawer_19 rfl rfl h
theorem sX10_drawer_20_0 {ls : List Value} (h : am_R E d mX10_drawer k n 68 ls st S iv Q) : am_R E d mX10_drawer k n 20 ls (.int 0 :: st) S iv Q := am_tableIn (off := 48) dX10_drawer_20 (by decide) (by decide) (by decide) (by decide) h
theorem sX10_drawer_20_1 {ls : List Value} (h : am_R E d mX10_drawer k n 75 ls st S iv Q) : am_R E d mX10_drawer k n 20 ls (.int 1 :: st) S iv Q := am_tableIn (off := 55) dX10_drawer_20 (by decide) (by decide) (by decide) (by decide) h
theorem sX10_drawer_20_2 {ls : List Value} (h : am_R E d mX10_drawer k n 82 ls st S iv Q) : am_R E d mX10_drawer k n 20 ls (.int 2 :: st) S iv Q := am_tableIn (off := 62) dX10_drawer_20 (by decide) (by decide) (by decide) (by decide) h
theorem sX10_drawer_20_3 {ls : List Value} (h : am_R E d mX10_drawer k n 89 ls st S iv Q) : am_R E d mX10_drawer k n 20 ls (.int 3 :: st) S iv Q := am_tableIn (off := 69) dX10_drawer_20 (by decide) (by decide) (by decide) (by decide) h
theorem sX10_drawer_20_4 {ls : List Value} (h : am_R E d mX10_drawer k n 96 ls st S iv Q) : am_R E d mX10_drawer k n 20 ls (.int 4 :: st) S iv Q := am_tableIn (off := 76) dX10_drawer_20 (by decide) (by decide) (by decide) (by decide) h
theorem sX10_drawer_20_5 {ls : List Value} (h : am_R E d mX10_drawer k n 103 ls st S iv Q) : am_R E d mX10_drawer k n 20 ls (.int 5 :: st) S iv Q := am_tableIn (off := 83) dX10_drawer_20 (by decide) (by decide) (by decide) (by decide) h
theorem sX10_drawer_20_6 {ls : List Value} (h : am_R E d mX10_drawer k n 112 ls st S iv Q) : am_R E d mX10_drawer k n 20 ls (.int 6 :: st) S iv Q := am_tableIn (off := 92) dX10_drawer_20 (by decide) (by decide) (by decide) (by decide) h
theorem sX10_drawer_20_7 {ls : List Value} (h : am_R E d mX10_drawer k n 125 ls st S iv Q) : am_R E d mX10_drawer k n 20 ls (.int 7 :: st) S iv Q := am_tableIn (off := 105) dX10_drawer_20 (by decide) (by decide) (by decide) (by decide) h
theorem sX10_drawer_20_d {ls : List Value} {x : Int32} (hx : x.toInt < 0 ∨ 7 < x.toInt) (h : am_R E d mX10_drawer k n 131 ls st S iv Q) : am_R E d mX10_drawer k n 20 ls (.int x :: st) S iv Q := am_tableOut dX10_drawer_20 hx (by decide) h
theorem sX10_drawer_68 {a0 a1 a2 : Value} (hv : am_rf a0 = true) (h : am_R E d mX10_drawer k n 69 [a0, a1, a2] (a0 :: st) S iv Q) : am_R E d mX10_drawer k n 68 [a0, a1, a2] st S iv Q := am_aload_n dX10_drawer_68 rfl rfl hv h
theorem sX10_drawer_69 {ls : List Value} {a b : Nat} (ha : S.1 a = some (.inl 10)) (hb : S.2.1 a 5 = some b) (h : am_R E d mX10_drawer k n 72 ls (.ref b :: st) S iv Q) : am_R E d mX10_drawer k n 69 ls (.ref a :: st) S iv Q := am_getR (ci := 10) dX10_drawer_69 rfl rfl (by decide) wq_773 uq_10 rfl ha hb h
theorem sX10_drawer_72 {a0 a2 : Value} {x : Int32} (h : am_R E d mX10_drawer k n 73 [a0, .int x, a2] (.int x :: st) S iv Q) : am_R E d mX10_drawer k n 72 [a0, .int x, a2] st S iv Q := am_iload_n dX10_drawer_72 rfl rfl h
theorem sX10_drawer_73 {ls : List Value} {a m : Nat} {i : Int32} (ha : S.1 a = some (.inr (.int, m))) (hi : vp_in i m) (h : am_R E d mX10_drawer k n 74 ls (.int (iv a i.toNatClampNeg) :: st) S iv Q) : am_R E d mX10_drawer k n 73 ls (.int i :: .ref a :: st) S iv Q := am_iaload dX10_drawer_73 ha hi h
theorem sX10_drawer_74 {ls : List Value} {x : Int32} (h : Q (.inl (some (.int x))) S iv) : am_R E d mX10_drawer k n 74 ls [.int x] S iv Q := am_ireturn dX10_drawer_74 rfl h
theorem sX10_drawer_75 {a0 a1 a2 : Value} (hv : am_rf a0 = true) (h : am_R E d mX10_drawer k n 76 [a0, a1, a2] (a0 :: st) S iv Q) : am_R E d mX10_drawer k n 75 [a0, a1, a2] st S iv Q := am_aload_n dX10_drawer_75 rfl rfl hv h
theorem sX10_drawer_76 {ls : List Value} {a b : Nat} (ha : S.1 a = some (.inl 10)) (hb : S.2.1 a 6 = some b) (h : am_R E d mX10_drawer k n 79 ls (.ref b :: st) S iv Q) : am_R E d mX10_drawer k n 76 ls (.ref a :: st) S iv Q := am_getR (ci := 10) dX10_drawer_76 rfl rfl (by decide) wq_774 uq_10 rfl ha hb h
theorem sX10_drawer_79 {a0 a2 : Value} {x : Int32} (h : am_R E d mX10_drawer k n 80 [a0, .int x, a2] (.int x :: st) S iv Q) : am_R E d mX10_drawer k n 79 [a0, .int x, a2] st S iv Q := am_iload_n dX10_drawer_79 rfl rfl h
theorem sX10_drawer_80 {ls : List Value} {a m : Nat} {i : Int32} (ha : S.1 a = some (.inr (.int, m))) (hi : vp_in i m) (h : am_R E d mX10_drawer k n 81 ls (.int (iv a i.toNatClampNeg) :: st) S iv Q) : am_R E d mX10_drawer k n 80 ls (.int i :: .ref a :: st) S iv Q := am_iaload dX10_drawer_80 ha hi h
theorem sX10_drawer_81 {ls : List Value} {x : Int32} (h : Q (.inl (some (.int x))) S iv) : am_R E d mX10_drawer k n 81 ls [.int x] S iv Q := am_ireturn dX10_drawer_81 rfl h
theorem sX10_drawer_82 {a0 a1 a2 : Value} (hv : am_rf a0 = true) (h : am_R E d mX10_drawer k n 83 [a0, a1, a2] (a0 :: st) S iv Q) : am_R E d mX10_drawer k n 82 [a0, a1, a2] st S iv Q := am_aload_n dX10_drawer_82 rfl rfl hv h
theorem sX10_drawer_83 {ls : List Value} {a b : Nat} (ha : S.1 a = some (.inl 10)) (hb : S.2.1 a 7 = some b) (h : am_R E d mX10_drawer k n 86 ls (.ref b :: st) S iv Q) : am_R E d mX10_drawer k n 83 ls (.ref a :: st) S iv Q := am_getR (ci := 10) dX10_drawer_83 rfl rfl (by decide) wq_775 uq_10 rfl ha hb h
theorem sX10_drawer_86 {a0 a2 : Value} {x : Int32} (h : am_R E d mX10_drawer k n 87 [a0, .int x, a2] (.int x :: st) S iv Q) : am_R E d mX10_drawer k n 86 [a0, .int x, a2] st S iv Q := am_iload_n dX10_drawer_86 rfl rfl h
theorem sX10_drawer_87 {ls : List Value} {a m : Nat} {i : Int32} (ha : S.1 a = some (.inr (.int, m))) (hi : vp_in i m) (h : am_R E d mX10_drawer k n 88 ls (.int (iv a i.toNatClampNeg) :: st) S iv Q) : am_R E d mX10_drawer k n 87 ls (.int i :: .ref a :: st) S iv Q := am_iaload dX10_drawer_87 ha hi h
theorem sX10_drawer_88 {ls : List Value} {x : Int32} (h : Q (.inl (some (.int x))) S iv) : am_R E d mX10_drawer k n 88 ls [.int x] S iv Q := am_ireturn dX10_drawer_88 rfl h
theorem sX10_drawer_89 {a0 a1 a2 : Value} (hv : am_rf a0 = true) (h : am_R E d mX10_drawer k n 90 [a0, a1, a2] (a0 :: st) S iv Q) : am_R E d mX10_drawer k n 89 [a0, a1, a2] st S iv Q := am_aload_n dX10_drawer_89 rfl rfl hv h
theorem sX10_drawer_90 {ls : List Value} {a b : Nat} (ha : S.1 a = some (.inl 10)) (hb : S.2.1 a 8 = some b) (h : am_R E d mX10_drawer k n 93 ls (.ref b :: st) S iv Q) : am_R E d mX10_drawer k n 90 ls (.ref a :: st) S iv Q := am_getR (ci := 10) dX10_drawer_90 rfl rfl (by decide) wq_776 uq_10 rfl ha hb h
theorem sX10_drawer_93 {a0 a2 : Value} {x : Int32} (h : am_R E d mX10_drawer k n 94 [a0, .int x, a2] (.int x :: st) S iv Q) : am_R E d mX10_drawer k n 93 [a0, .int x, a2] st S iv Q := am_iload_n dX10_drawer_93 rfl rfl h
theorem sX10_drawer_94 {ls : List Value} {a m : Nat} {i : Int32} (ha : S.1 a = some (.inr (.int, m))) (hi : vp_in i m) (h : am_R E d mX10_drawer k n 95 ls (.int (iv a i.toNatClampNeg) :: st) S iv Q) : am_R E d mX10_drawer k n 94 ls (.int i :: .ref a :: st) S iv Q := am_iaload dX10_drawer_94 ha hi h
theorem sX10_drawer_95 {ls : List Value} {x : Int32} (h : Q (.inl (some (.int x))) S iv) : am_R E d mX10_drawer k n 95 ls [.int x] S iv Q := am_ireturn dX10_drawer_95 rfl h
theorem sX10_drawer_96 {a0 a1 a2 : Value} (hv : am_rf a0 = true) (h : am_R E d mX10_drawer k n 97 [a0, a1, a2] (a0 :: st) S iv Q) : am_R E d mX10_drawer k n 96 [a0, a1, a2] st S iv Q := am_aload_n dX10_drawer_96 rfl rfl hv h
theorem sX10_drawer_97 {ls : List Value} {a b : Nat} (ha : S.1 a = some (.inl 10)) (hb : S.2.1 a 9 = some b) (h : am_R E d mX10_drawer k n 100 ls (.ref b :: st) S iv Q) : am_R E d mX10_drawer k n 97 ls (.ref a :: st) S iv Q := am_getR (ci := 10) dX10_drawer_97 rfl rfl (by decide) wq_777 uq_10 rfl ha hb h
theorem sX10_drawer_100 {a0 a2 : Value} {x : Int32} (h : am_R E d mX10_drawer k n 101 [a0, .int x, a2] (.int x :: st) S iv Q) : am_R E d mX10_drawer k n 100 [a0, .int x, a2] st S iv Q := am_iload_n dX10_drawer_100 rfl rfl h
theorem sX10_drawer_101 {ls : List Value} {a m : Nat} {i : Int32} (ha : S.1 a = some (.inr (.int, m))) (hi : vp_in i m) (h : am_R E d mX10_drawer k n 102 ls (.int (iv a i.toNatClampNeg) :: st) S iv Q) : am_R E d mX10_drawer k n 101 ls (.int i :: .ref a :: st) S iv Q := am_iaload dX10_drawer_101 ha hi h
theorem sX10_drawer_102 {ls : List Value} {x : Int32} (h : Q (.inl (some (.int x))) S iv) : am_R E d mX10_drawer k n 102 ls [.int x] S iv Q := am_ireturn dX10_drawer_102 rfl h
theorem sX10_drawer_103 {a0 a1 a2 : Value} (hv : am_rf a0 = true) (h : am_R E d mX10_drawer k n 104 [a0, a1, a2] (a0 :: st) S iv Q) : am_R E d mX10_drawer k n 103 [a0, a1, a2] st S iv Q := am_aload_n dX10_drawer_103 rfl rfl hv h
theorem sX10_drawer_104 {ls : List Value} {a : Nat} (ha : S.1 a = some (.inl 10)) (h : am_R E d mX10_drawer k n 107 ls (.int (iv a 29) :: st) S iv Q) : am_R E d mX10_drawer k n 104 ls (.ref a :: st) S iv Q := am_getI (ci := 10) dX10_drawer_104 rfl rfl (by decide) wq_972 uq_10 rfl ha h
theorem sX10_drawer_107 {a0 a2 : Value} {x : Int32} (h : am_R E d mX10_drawer k n 108 [a0, .int x, a2] (.int x :: st) S iv Q) : am_R E d mX10_drawer k n 107 [a0, .int x, a2] st S iv Q := am_iload_n dX10_drawer_107 rfl rfl h
theorem sX10_drawer_108 {ls : List Value} {x y : Int32} (h : am_R E d mX10_drawer k n 109 ls (.int (x >>> (y &&& 31)) :: st) S iv Q) : am_R E d mX10_drawer k n 108 ls (.int y :: .int x :: st) S iv Q := am_ishr dX10_drawer_108 h
theorem sX10_drawer_109 {a0 a1 a2 : Value} (h : am_R E d mX10_drawer k n 110 [a0, a1, a2] (.int 1 :: st) S iv Q) : am_R E d mX10_drawer k n 109 [a0, a1, a2] st S iv Q := am_iconst dX10_drawer_109 (by decide) h
theorem sX10_drawer_110 {ls : List Value} {x y : Int32} (h : am_R E d mX10_drawer k n 111 ls (.int (x &&& y) :: st) S iv Q) : am_R E d mX10_drawer k n 110 ls (.int y :: .int x :: st) S iv Q := am_iand dX10_drawer_110 h
theorem sX10_drawer_111 {ls : List Value} {x : Int32} (h : Q (.inl (some (.int x))) S iv) : am_R E d mX10_drawer k n 111 ls [.int x] S iv Q := am_ireturn dX10_drawer_111 rfl h
theorem sX10_drawer_112 {a0 a1 a2 : Value} (hv : am_rf a0 = true) (h : am_R E d mX10_drawer k n 113 [a0, a1, a2] (a0 :: st) S iv Q) : am_R E d mX10_drawer k n 112 [a0, a1, a2] st S iv Q := am_aload_n dX10_drawer_112 rfl rfl hv h
theorem sX10_drawer_113 {a0 a1 a2 : Value} (hv : am_rf a0 = true) (h : am_R E d mX10_drawer k n 114 [a0, a1, a2] (a0 :: st) S iv Q) : am_R E d mX10_drawer k n 113 [a0, a1, a2] st S iv Q := am_aload_n dX10_drawer_113 rfl rfl hv h
theorem sX10_drawer_114 {ls : List Value} {a : Nat} (ha : S.1 a = some (.inl 10)) (h : am_R E d mX10_drawer k n 117 ls (.int (iv a 29) :: st) S iv Q) : am_R E d mX10_drawer k n 114 ls (.ref a :: st) S iv Q := am_getI (ci := 10) dX10_drawer_114 rfl rfl (by decide) wq_972 uq_10 rfl ha h
theorem sX10_drawer_117 {ls : List Value} {x1 : Value} {a : Nat} (ha : S.1 a = some (.inl 10)) (hst : (st.map fun v => v.category).sum ≤ 8) (hM : am_M E d mX10_reachedBy 0 0 [.ref a, x1] S iv (am_K3 E (d + 1) mX10_drawer k n 117 ls st Q)) : am_R E (d + 1) mX10_drawer k n 117 ls (x1 :: .ref a :: st) S iv Q := am_cV (ci := 10) (M' := mX10_reachedBy) (as := [x1]) dX10_drawer_117 rfl rfl rfl wq_1031 wq_1032 wq_1033 wq_808 wq_1029 hy_X10_reachedBy (by decide) ha hst (by omega) (by omega) hM
theorem sX10_drawer_117_k {ls : List Value} {x1 : Value} {k' n' : Nat} {a : Nat} (ha : S.1 a = some (.inl 10)) (hst : (st.map fun v => v.category).sum ≤ 8) (hM : am_M E d mX10_reachedBy k' n' [.ref a, x1] S iv (am_K3 E (d + 1) mX10_drawer k n 117 ls st Q)) : am_R E (d + 1) mX10_drawer (k' + k) (n' + n) 117 ls (x1 :: .ref a :: st) S iv Q := am_cV (ci := 10) (M' := mX10_reachedBy) (as := [x1]) dX10_drawer_117 rfl rfl rfl wq_1031 wq_1032 wq_1033 wq_808 wq_1029 hy_X10_reachedBy (by decide) ha hst (by omega) (by omega) hM
theorem sX10_drawer_120 {a0 a2 : Value} {x : Int32} (h : am_R E d mX10_drawer k n 121 [a0, .int x, a2] (.int x :: st) S iv Q) : am_R E d mX10_drawer k n 120 [a0, .int x, a2] st S iv Q := am_iload_n dX10_drawer_120 rfl rfl h
theorem sX10_drawer_121 {ls : List Value} {x y : Int32} (h : am_R E d mX10_drawer k n 122 ls (.int (x >>> (y &&& 31)) :: st) S iv Q) : am_R E d mX10_drawer k n 121 ls (.int y :: .int x :: st) S iv Q := am_ishr dX10_drawer_121 h
theorem sX10_drawer_122 {a0 a1 a2 : Value} (h : am_R E d mX10_drawer k n 123 [a0, a1, a2] (.int 1 :: st) S iv Q) : am_R E d mX10_drawer k n 122 [a0, a1, a2] st S iv Q := am_iconst dX10_drawer_122 (by decide) h
theorem sX10_drawer_123 {ls : List Value} {x y : Int32} (h : am_R E d mX10_drawer k n 124 ls (.int (x &&& y) :: st) S iv Q) : am_R E d mX10_drawer k n 123 ls (.int y :: .int x :: st) S iv Q := am_iand dX10_drawer_123 h
theorem sX10_drawer_124 {ls : List Value} {x : Int32} (h : Q (.inl (some (.int x))) S iv) : am_R E d mX10_drawer k n 124 ls [.int x] S iv Q := am_ireturn dX10_drawer_124 rfl h
theorem sX10_drawer_125 {a0 a1 a2 : Value} (hv : am_rf a0 = true) (h : am_R E d mX10_drawer k n 126 [a0, a1, a2] (a0 :: st) S iv Q) : am_R E d mX10_drawer k n 125 [a0, a1, a2] st S iv Q := am_aload_n dX10_drawer_125 rfl rfl hv h
theorem sX10_drawer_126 {a0 a2 : Value} {x : Int32} (h : am_R E d mX10_drawer k n 127 [a0, .int x, a2] (.int x :: st) S iv Q) : am_R E d mX10_drawer k n 126 [a0, .int x, a2] st S iv Q := am_iload_n dX10_drawer_126 rfl rfl h
theorem sX10_drawer_127 {ls : List Value} {x1 : Value} {a : Nat} (ha : S.1 a = some (.inl 10)) (hst : (st.map fun v => v.category).sum ≤ 8) (hM : am_M E d mX10_rentOf 0 0 [.ref a, x1] S iv (am_K3 E (d + 1) mX10_drawer k n 127 ls st Q)) : am_R E (d + 1) mX10_drawer k n 127 ls (x1 :: .ref a :: st) S iv Q := am_cV (ci := 10) (M' := mX10_rentOf) (as := [x1]) dX10_drawer_127 rfl rfl rfl wq_1036 wq_1037 wq_1038 wq_808 wq_1034 hy_X10_rentOf (by decide) ha hst (by omega) (by omega) hM
theorem sX10_drawer_127_k {ls : List Value} {x1 : Value} {k' n' : Nat} {a : Nat} (ha : S.1 a = some (.inl 10)) (hst : (st.map fun v => v.category).sum ≤ 8) (hM : am_M E d mX10_rentOf k' n' [.ref a, x1] S iv (am_K3 E (d + 1) mX10_drawer k n 127 ls st Q)) : am_R E (d + 1) mX10_drawer (k' + k) (n' + n) 127 ls (x1 :: .ref a :: st) S iv Q := am_cV (ci := 10) (M' := mX10_rentOf) (as := [x1]) dX10_drawer_127 rfl rfl rfl wq_1036 wq_1037 wq_1038 wq_808 wq_1034 hy_X10_rentOf (by decide) ha hst (by omega) (by omega) hM
theorem sX10_drawer_130 {ls : List Value} {x : Int32} (h : Q (.inl (some (.int x))) S iv) : am_R E d mX10_drawer k n 130 ls [.int x] S iv Q := am_ireturn dX10_drawer_130 rfl h
theorem sX10_drawer_131 {a0 a1 a2 : Value} (hv : am_rf a0 = true) (h : am_R E d mX10_drawer k n 132 [a0, a1, a2] (a0 :: st) S iv Q) : am_R E d mX10_drawer k n 131 [a0, a1, a2] st S iv Q := am_aload_n dX10_drawer_131 rfl rfl hv h
theorem sX10_drawer_132 {a0 a1 a2 : Value} (h : am_R E d mX10_drawer k n 133 [a0, a1, a2] (.int 1 :: st) S iv Q) : am_R E d mX10_drawer k n 132 [a0, a1, a2] st S iv Q := am_iconst dX10_drawer_132 (by decide) h
theorem sX10_drawer_133 {ls : List Value} {x1 : Value} {a : Nat} (ha : S.1 a = some (.inl 10)) (hst : (st.map fun v => v.category).sum ≤ 8) (hM : am_M E d mX10_fail 0 0 [.ref a, x1] S iv (am_K3 E (d + 1) mX10_drawer k n 133 ls st Q)) : am_R E (d + 1) mX10_drawer k n 133 ls (x1 :: .ref a :: st) S iv Q := am_cV (ci := 10) (M' := mX10_fail) (as := [x1]) dX10_drawer_133 rfl rfl rfl wq_955 wq_956 wq_957 wq_808 wq_953 hy_X10_fail (by decide) ha hst (by omega) (by omega) hM
theorem sX10_drawer_133_k {ls : List Value} {x1 : Value} {k' n' : Nat} {a : Nat} (ha : S.1 a = some (.inl 10)) (hst : (st.map fun v => v.category).sum ≤ 8) (hM : am_M E d mX10_fail k' n' [.ref a, x1] S iv (am_K3 E (d + 1) mX10_drawer k n 133 ls st Q)) : am_R E (d + 1) mX10_drawer (k' + k) (n' + n) 133 ls (x1 :: .ref a :: st) S iv Q := am_cV (ci := 10) (M' := mX10_fail) (as := [x1]) dX10_drawer_133 rfl rfl rfl wq_955 wq_956 wq_957 wq_808 wq_953 hy_X10_fail (by decide) ha hst (by omega) (by omega) hM
theorem sX10_drawer_136 {ls : List Value} {x : Int32} (h : Q (.inl (some (.int x))) S iv) : am_R E d mX10_drawer k n 136 ls [.int x] S iv Q := am_ireturn dX10_drawer_136 rfl h
theorem dX10_person_0 : decode cX10_person 0 = .ok (.aload_n 0, 1) := by decide +kernel
theorem dX10_person_1 : decode cX10_person 1 = .ok (.iconst 0, 1) := by decide +kernel
theorem dX10_person_2 : decode cX10_person 2 = .ok (.putfield 143, 3) := by decide +kernel
theorem dX10_person_5 : decode cX10_person 5 = .ok (.aload_n 0, 1) := by decide +kernel
theorem dX10_person_6 : decode cX10_person 6 = .ok (.iload_n 1, 1) := by decide +kernel
theorem dX10_person_7 : decode cX10_person 7 = .ok (.invokevirtual 363, 3) := by decide +kernel
theorem dX10_person_10 : decode cX10_person 10 = .ok (.ifCond .ne 9, 3) := by decide +kernel
theorem dX10_person_13 : decode cX10_person 13 = .ok (.aload_n 0, 1) := by decide +kernel
theorem dX10_person_14 : decode cX10_person 14 = .ok (.iconst 1, 1) := by decide +kernel
theorem dX10_person_15 : decode cX10_person 15 = .ok (.invokevirtual 293, 3) := by decide +kernel
theorem dX10_person_18 : decode cX10_person 18 = .ok (.ireturn, 1) := by decide +kernel
theorem dX10_person_19 : decode cX10_person 19 = .ok (.iload_n 2, 1) := by decide +kernel
theorem dX10_person_20 : decode cX10_person 20 = .ok (.ifCond .ne 12, 3) := by decide +kernel
theorem dX10_person_23 : decode cX10_person 23 = .ok (.aload_n 0, 1) := by decide +kernel
theorem dX10_person_24 : decode cX10_person 24 = .ok (.getfield 64, 3) := by decide +kernel
theorem dX10_person_27 : decode cX10_person 27 = .ok (.iload_n 1, 1) := by decide +kernel
theorem dX10_person_28 : decode cX10_person 28 = .ok (.iaload, 1) := by decide +kernel
theorem dX10_person_29 : decode cX10_person 29 = .ok (.goto 66, 3) := by decide +kernel
theorem dX10_person_32 : decode cX10_person 32 = .ok (.iload_n 2, 1) := by decide +kernel
theorem dX10_person_33 : decode cX10_person 33 = .ok (.iconst 1, 1) := by decide +kernel
theorem dX10_person_34 : decode cX10_person 34 = .ok (.if_icmp .ne 12, 3) := by decide +kernel
theorem dX10_person_37 : decode cX10_person 37 = .ok (.aload_n 0, 1) := by decide +kernel
theorem dX10_person_38 : decode cX10_person 38 = .ok (.getfield 66, 3) := by decide +kernel
theorem dX10_person_41 : decode cX10_person 41 = .ok (.iload_n 1, 1) := by decide +kernel
theorem dX10_person_42 : decode cX10_person 42 = .ok (.iaload, 1) := by decide +kernel
theorem dX10_person_43 : decode cX10_person 43 = .ok (.goto 52, 3) := by decide +kernel
theorem dX10_person_46 : decode cX10_person 46 = .ok (.iload_n 2, 1) := by decide +kernel
theorem dX10_person_47 : decode cX10_person 47 = .ok (.iconst 2, 1) := by decide +kernel
theorem dX10_person_48 : decode cX10_person 48 = .ok (.if_icmp .ne 12, 3) := by decide +kernel
theorem dX10_person_51 : decode cX10_person 51 = .ok (.aload_n 0, 1) := by decide +kernel
theorem dX10_person_52 : decode cX10_person 52 = .ok (.getfield 68, 3) := by decide +kernel
theorem dX10_person_55 : decode cX10_person 55 = .ok (.iload_n 1, 1) := by decide +kernel
theorem dX10_person_56 : decode cX10_person 56 = .ok (.iaload, 1) := by decide +kernel
theorem dX10_person_57 : decode cX10_person 57 = .ok (.goto 38, 3) := by decide +kernel
theorem dX10_person_60 : decode cX10_person 60 = .ok (.iload_n 2, 1) := by decide +kernel
theorem dX10_person_61 : decode cX10_person 61 = .ok (.iconst 3, 1) := by decide +kernel
theorem dX10_person_62 : decode cX10_person 62 = .ok (.if_icmp .ne 14, 3) := by decide +kernel
theorem dX10_person_65 : decode cX10_person 65 = .ok (.aload_n 0, 1) := by decide +kernel
theorem dX10_person_66 : decode cX10_person 66 = .ok (.getfield 311, 3) := by decide +kernel
theorem dX10_person_69 : decode cX10_person 69 = .ok (.iload_n 1, 1) := by decide +kernel
theorem dX10_person_70 : decode cX10_person 70 = .ok (.ishr, 1) := by decide +kernel
theorem dX10_person_71 : decode cX10_person 71 = .ok (.iconst 1, 1) := by decide +kernel
theorem dX10_person_72 : decode cX10_person 72 = .ok (.iand, 1) := by decide +kernel
theorem dX10_person_73 : decode cX10_person 73 = .ok (.goto 22, 3) := by decide +kernel
theorem dX10_person_76 : decode cX10_person 76 = .ok (.iload_n 2, 1) := by decide +kernel
theorem dX10_person_77 : decode cX10_person 77 = .ok (.iconst 4, 1) := by decide +kernel
theorem dX10_person_78 : decode cX10_person 78 = .ok (.if_icmp .ne 12, 3) := by decide +kernel
theorem dX10_person_81 : decode cX10_person 81 = .ok (.aload_n 0, 1) := by decide +kernel
theorem dX10_person_82 : decode cX10_person 82 = .ok (.getfield 90, 3) := by decide +kernel
theorem dX10_person_85 : decode cX10_person 85 = .ok (.iload_n 1, 1) := by decide +kernel
theorem dX10_person_86 : decode cX10_person 86 = .ok (.iaload, 1) := by decide +kernel
theorem dX10_person_87 : decode cX10_person 87 = .ok (.goto 8, 3) := by decide +kernel
theorem dX10_person_90 : decode cX10_person 90 = .ok (.aload_n 0, 1) := by decide +kernel
theorem dX10_person_91 : decode cX10_person 91 = .ok (.iconst 1, 1) := by decide +kernel
theorem dX10_person_92 : decode cX10_person 92 = .ok (.invokevirtual 293, 3) := by decide +kernel
theorem dX10_person_95 : decode cX10_person 95 = .ok (.ireturn, 1) := by decide +kernel
theorem sX10_person_0 {a0 a1 a2 : Value} (hv : am_rf a0 = true) (h : am_R E d mX10_person k n 1 [a0, a1, a2] (a0 :: st) S iv Q) : am_R E d mX10_person k n 0 [a0, a1, a2] st S iv Q := am_aload_n dX10_person_0 rfl rfl hv h
theorem sX10_person_1 {a0 a1 a2 : Value} (h : am_R E d mX10_person k n 2 [a0, a1, a2] (.int 0 :: st) S iv Q) : am_R E d mX10_person k n 1 [a0, a1, a2] st S iv Q := am_iconst dX10_person_1 (by decide) h
theorem sX10_person_2 {ls : List Value} {a : Nat} {x : Int32} (ha : S.1 a = some (.inl 10)) (h : am_R E d mX10_person k n 5 ls st S (am_w iv a 3 x) Q) : am_R E d mX10_person k n 2 ls (.int x :: .ref a :: st) S iv Q := am_putI (ci := 10) dX10_person_2 rfl rfl (by decide) wq_806 uq_10 tyX10_ok nmX10 (Or.inl rfl) rfl ha h
theorem sX10_person_5 {a0 a1 a2 : Value} (hv : am_rf a0 = true) (h : am_R E d mX10_person k n 6 [a0, a1, a2] (a0 :: st) S iv Q) : am_R E d mX10_person k n 5 [a0, a1, a2] st S iv Q := am_aload_n dX10_person_5 rfl rfl hv h
theorem sX10_person_6 {a0 a2 : Value} {x : Int32} (h : am_R E d mX10_person k n 7 [a0, .int x, a2] (.int x :: st) S iv Q) : am_R E d mX10_person k n 6 [a0, .int x, a2] st S iv Q := am_iload_n dX10_person_6 rfl rfl h
theorem sX10_person_7 {ls : List Value} {x1 : Value} {a : Nat} (ha : S.1 a = some (.inl 10)) (hst : (st.map fun v => v.category).sum ≤ 8) (hM : am_M E d mX10_isPerson 0 0 [.ref a, x1] S iv (am_K3 E (d + 1) mX10_person k n 7 ls st Q)) : am_R E (d + 1) mX10_person k n 7 ls (x1 :: .ref a :: st) S iv Q := am_cV (ci := 10) (M' := mX10_isPerson) (as := [x1]) dX10_person_7 rfl rfl rfl wq_1041 wq_1042 wq_1043 wq_808 wq_1039 hy_X10_isPerson (by decide) ha hst (by omega) (by omega) hM
theorem sX10_person_7_k {ls : List Value} {x1 : Value} {k' n' : Nat} {a : Nat} (ha : S.1 a = some (.inl 10)) (hst : (st.map fun v => v.category).sum ≤ 8) (hM : am_M E d mX10_isPerson k' n' [.ref a, x1] S iv (am_K3 E (d + 1) mX10_person k n 7 ls st Q)) : am_R E (d + 1) mX10_person (k' + k) (n' + n) 7 ls (x1 :: .ref a :: st) S iv Q := am_cV (ci := 10) (M' := mX10_isPerson) (as := [x1]) dX10_person_7 rfl rfl rfl wq_1041 wq_1042 wq_1043 wq_808 wq_1039 hy_X10_isPerson (by decide) ha hst (by omega) (by omega) hM
theorem sX10_person_10 {ls : List Value} {x : Int32} (kt : ¬ x = 0 → am_R E d mX10_person k n 19 ls st S iv Q) (kf : x = 0 → am_R E d mX10_person k n 13 ls st S iv Q) : am_R E d mX10_person k n 10 ls (.int x :: st) S iv Q := am_if_ne dX10_person_10 (by decide) kt kf
theorem sX10_person_13 {a0 a1 a2 : Value} (hv : am_rf a0 = true) (h : am_R E d mX10_person k n 14 [a0, a1, a2] (a0 :: st) S iv Q) : am_R E d mX10_person k n 13 [a0, a1, a2] st S iv Q := am_aload_n dX10_person_13 rfl rfl hv h
theorem sX10_person_14 {a0 a1 a2 : Value} (h : am_R E d mX10_person k n 15 [a0, a1, a2] (.int 1 :: st) S iv Q) : am_R E d mX10_person k n 14 [a0, a1, a2] st S iv Q := am_iconst dX10_person_14 (by decide) h
theorem sX10_person_15 {ls : List Value} {x1 : Value} {a : Nat} (ha : S.1 a = some (.inl 10)) (hst : (st.map fun v => v.category).sum ≤ 8) (hM : am_M E d mX10_fail 0 0 [.ref a, x1] S iv (am_K3 E (d + 1) mX10_person k n 15 ls st Q)) : am_R E (d + 1) mX10_person k n 15 ls (x1 :: .ref a :: st) S iv Q := am_cV (ci := 10) (M' := mX10_fail) (as := [x1]) dX10_person_15 rfl rfl rfl wq_955 wq_956 wq_957 wq_808 wq_953 hy_X10_fail (by decide) ha hst (by omega) (by omega) hM
theorem sX10_person_15_k {ls : List Value} {x1 : Value} {k' n' : Nat} {a : Nat} (ha : S.1 a = some (.inl 10)) (hst : (st.map fun v => v.category).sum ≤ 8) (hM : am_M E d mX10_fail k' n' [.ref a, x1] S iv (am_K3 E (d + 1) mX10_person k n 15 ls st Q)) : am_R E (d + 1) mX10_person (k' + k) (n' + n) 15 ls (x1 :: .ref a :: st) S iv Q := am_cV (ci := 10) (M' := mX10_fail) (as := [x1]) dX10_person_15 rfl rfl rfl wq_955 wq_956 wq_957 wq_808 wq_953 hy_X10_fail (by decide) ha hst (by omega) (by omega) hM
theorem sX10_person_18 {ls : List Value} {x : Int32} (h : Q (.inl (some (.int x))) S iv) : am_R E d mX10_person k n 18 ls [.int x] S iv Q := am_ireturn dX10_person_18 rfl h
theorem sX10_person_19 {a0 a1 : Value} {x : Int32} (h : am_R E d mX10_person k n 20 [a0, a1, .int x] (.int x :: st) S iv Q) : am_R E d mX10_person k n 19 [a0, a1, .int x] st S iv Q := am_iload_n dX10_person_19 rfl rfl h
theorem sX10_person_20 {ls : List Value} {x : Int32} (kt : ¬ x = 0 → am_R E d mX10_person k n 32 ls st S iv Q) (kf : x = 0 → am_R E d mX10_person k n 23 ls st S iv Q) : am_R E d mX10_person k n 20 ls (.int x :: st) S iv Q := am_if_ne dX10_person_20 (by decide) kt kf
theorem sX10_person_23 {a0 a1 a2 : Value} (hv : am_rf a0 = true) (h : am_R E d mX10_person k n 24 [a0, a1, a2] (a0 :: st) S iv Q) : am_R E d mX10_person k n 23 [a0, a1, a2] st S iv Q := am_aload_n dX10_person_23 rfl rfl hv h
theorem sX10_person_24 {ls : List Value} {a b : Nat} (ha : S.1 a = some (.inl 10)) (hb : S.2.1 a 10 = some b) (h : am_R E d mX10_person k n 27 ls (.ref b :: st) S iv Q) : am_R E d mX10_person k n 24 ls (.ref a :: st) S iv Q := am_getR (ci := 10) dX10_person_24 rfl rfl (by decide) wq_778 uq_10 rfl ha hb h
theorem sX10_person_27 {a0 a2 : Value} {x : Int32} (h : am_R E d mX10_person k n 28 [a0, .int x, a2] (.int x :: st) S iv Q) : am_R E d mX10_person k n 27 [a0, .int x, a2] st S iv Q := am_iload_n dX10_person_27 rfl rfl h
theorem sX10_person_28 {ls : List Value} {a m : Nat} {i : Int32} (ha : S.1 a = some (.inr (.int, m))) (hi : vp_in i m) (h : am_R E d mX10_person k n 29 ls (.int (iv a i.toNatClampNeg) :: st) S iv Q) : am_R E d mX10_person k n 28 ls (.int i :: .ref a :: st) S iv Q := am_iaload dX10_person_28 ha hi h
theorem sX10_person_29 {ls : List Value} (h : am_R E d mX10_person k n 95 ls st S iv Q) : am_R E d mX10_person k n 29 ls st S iv Q := am_goto dX10_person_29 (by decide) h
theorem sX10_person_32 {a0 a1 : Value} {x : Int32} (h : am_R E d mX10_person k n 33 [a0, a1, .int x] (.int x :: st) S iv Q) : am_R E d mX10_person k n 32 [a0, a1, .int x] st S iv Q := am_iload_n dX10_person_32 rfl rfl h
theorem sX10_person_33 {a0 a1 a2 : Value} (h : am_R E d mX10_person k n 34 [a0, a1, a2] (.int 1 :: st) S iv Q) : am_R E d mX10_person k n 33 [a0, a1, a2] st S iv Q := am_iconst dX10_person_33 (by decide) h
theorem sX10_person_34 {ls : List Value} {x y : Int32} (kt : ¬ x = y → am_R E d mX10_person k n 46 ls st S iv Q) (kf : x = y → am_R E d mX10_person k n 37 ls st S iv Q) : am_R E d mX10_person k n 34 ls (.int y :: .int x :: st) S iv Q := am_icmp_ne dX10_person_34 (by decide) kt kf
theorem sX10_person_37 {a0 a1 a2 : Value} (hv : am_rf a0 = true) (h : am_R E d mX10_person k n 38 [a0, a1, a2] (a0 :: st) S iv Q) : am_R E d mX10_person k n 37 [a0, a1, a2] st S iv Q := am_aload_n dX10_person_37 rfl rfl hv h
theorem sX10_person_38 {ls : List Value} {a b : Nat} (ha : S.1 a = some (.inl 10)) (hb : S.2.1 a 11 = some b) (h : am_R E d mX10_person k n 41 ls (.ref b :: st) S iv Q) : am_R E d mX10_person k n 38 ls (.ref a :: st) S iv Q := am_getR (ci := 10) dX10_person_38 rfl rfl (by decide) wq_779 uq_10 rfl ha hb h
theorem sX10_person_41 {a0 a2 : Value} {x : Int32} (h : am_R E d mX10_person k n 42 [a0, .int x, a2] (.int x :: st) S iv Q) : am_R E d mX10_person k n 41 [a0, .int x, a2] st S iv Q := am_iload_n dX10_person_41 rfl rfl h
theorem sX10_person_42 {ls : List Value} {a m : Nat} {i : Int32} (ha : S.1 a = some (.inr (.int, m))) (hi : vp_in i m) (h : am_R E d mX10_person k n 43 ls (.int (iv a i.toNatClampNeg) :: st) S iv Q) : am_R E d mX10_person k n 42 ls (.int i :: .ref a :: st) S iv Q := am_iaload dX10_person_42 ha hi h
theorem sX10_person_43 {ls : List Value} (h : am_R E d mX10_person k n 95 ls st S iv Q) : am_R E d mX10_person k n 43 ls st S iv Q := am_goto dX10_person_43 (by decide) h
theorem sX10_person_46 {a0 a1 : Value} {x : Int32} (h : am_R E d mX10_person k n 47 [a0, a1, .int x] (.int x :: st) S iv Q) : am_R E d mX10_person k n 46 [a0, a1, .int x] st S iv Q := am_iload_n dX10_person_46 rfl rfl h
theorem sX10_person_47 {a0 a1 a2 : Value} (h : am_R E d mX10_person k n 48 [a0, a1, a2] (.int 2 :: st) S iv Q) : am_R E d mX10_person k n 47 [a0, a1, a2] st S iv Q := am_iconst dX10_person_47 (by decide) h
theorem sX10_person_48 {ls : List Value} {x y : Int32} (kt : ¬ x = y → am_R E d mX10_person k n 60 ls st S iv Q) (kf : x = y → am_R E d mX10_person k n 51 ls st S iv Q) : am_R E d mX10_person k n 48 ls (.int y :: .int x :: st) S iv Q := am_icmp_ne dX10_person_48 (by decide) kt kf
theorem sX10_person_51 {a0 a1 a2 : Value} (hv : am_rf a0 = true) (h : am_R E d mX10_person k n 52 [a0, a1, a2] (a0 :: st) S iv Q) : am_R E d mX10_person k n 51 [a0, a1, a2] st S iv Q := am_aload_n dX10_person_51 rfl rfl hv h
theorem sX10_person_52 {ls : List Value} {a b : Nat} (ha : S.1 a = some (.inl 10)) (hb : S.2.1 a 12 = some b) (h : am_R E d mX10_person k n 55 ls (.ref b :: st) S iv Q) : am_R E d mX10_person k n 52 ls (.ref a :: st) S iv Q := am_getR (ci := 10) dX10_person_52 rfl rfl (by decide) wq_780 uq_10 rfl ha hb h
theorem sX10_person_55 {a0 a2 : Value} {x : Int32} (h : am_R E d mX10_person k n 56 [a0, .int x, a2] (.int x :: st) S iv Q) : am_R E d mX10_person k n 55 [a0, .int x, a2] st S iv Q := am_iload_n dX10_person_55 rfl rfl h
theorem sX10_person_56 {ls : List Value} {a m : Nat} {i : Int32} (ha : S.1 a = some (.inr (.int, m))) (hi : vp_in i m) (h : am_R E d mX10_person k n 57 ls (.int (iv a i.toNatClampNeg) :: st) S iv Q) : am_R E d mX10_person k n 56 ls (.int i :: .ref a :: st) S iv Q := am_iaload dX10_person_56 ha hi h
theorem sX10_person_57 {ls : List Value} (h : am_R E d mX10_person k n 95 ls st S iv Q) : am_R E d mX10_person k n 57 ls st S iv Q := am_goto dX10_person_57 (by decide) h
theorem sX10_person_60 {a0 a1 : Value} {x : Int32} (h : am_R E d mX10_person k n 61 [a0, a1, .int x] (.int x :: st) S iv Q) : am_R E d mX10_person k n 60 [a0, a1, .int x] st S iv Q := am_iload_n dX10_person_60 rfl rfl h
theorem sX10_person_61 {a0 a1 a2 : Value} (h : am_R E d mX10_person k n 62 [a0, a1, a2] (.int 3 :: st) S iv Q) : am_R E d mX10_person k n 61 [a0, a1, a2] st S iv Q := am_iconst dX10_person_61 (by decide) h
theorem sX10_person_62 {ls : List Value} {x y : Int32} (kt : ¬ x = y → am_R E d mX10_person k n 76 ls st S iv Q) (kf : x = y → am_R E d mX10_person k n 65 ls st S iv Q) : am_R E d mX10_person k n 62 ls (.int y :: .int x :: st) S iv Q := am_icmp_ne dX10_person_62 (by decide) kt kf
theorem sX10_person_65 {a0 a1 a2 : Value} (hv : am_rf a0 = true) (h : am_R E d mX10_person k n 66 [a0, a1, a2] (a0 :: st) S iv Q) : am_R E d mX10_person k n 65 [a0, a1, a2] st S iv Q := am_aload_n dX10_person_65 rfl rfl hv h
theorem sX10_person_66 {ls : List Value} {a : Nat} (ha : S.1 a = some (.inl 10)) (h : am_R E d mX10_person k n 69 ls (.int (iv a 31) :: st) S iv Q) : am_R E d mX10_person k n 66 ls (.ref a :: st) S iv Q := am_getI (ci := 10) dX10_person_66 rfl rfl (by decide) wq_974 uq_10 rfl ha h
theorem sX10_person_69 {a0 a2 : Value} {x : Int32} (h : am_R E d mX10_person k n 70 [a0, .int x, a2] (.int x :: st) S iv Q) : am_R E d mX10_person k n 69 [a0, .int x, a2] st S iv Q := am_iload_n dX10_person_69 rfl rfl h
theorem sX10_person_70 {ls : List Value} {x y : Int32} (h : am_R E d mX10_person k n 71 ls (.int (x >>> (y &&& 31)) :: st) S iv Q) : am_R E d mX10_person k n 70 ls (.int y :: .int x :: st) S iv Q := am_ishr dX10_person_70 h
theorem sX10_person_71 {a0 a1 a2 : Value} (h : am_R E d mX10_person k n 72 [a0, a1, a2] (.int 1 :: st) S iv Q) : am_R E d mX10_person k n 71 [a0, a1, a2] st S iv Q := am_iconst dX10_person_71 (by decide) h
theorem sX10_person_72 {ls : List Value} {x y : Int32} (h : am_R E d mX10_person k n 73 ls (.int (x &&& y) :: st) S iv Q) : am_R E d mX10_person k n 72 ls (.int y :: .int x :: st) S iv Q := am_iand dX10_person_72 h
theorem sX10_person_73 {ls : List Value} (h : am_R E d mX10_person k n 95 ls st S iv Q) : am_R E d mX10_person k n 73 ls st S iv Q := am_goto dX10_person_73 (by decide) h
theorem sX10_person_76 {a0 a1 : Value} {x : Int32} (h : am_R E d mX10_person k n 77 [a0, a1, .int x] (.int x :: st) S iv Q) : am_R E d mX10_person k n 76 [a0, a1, .int x] st S iv Q := am_iload_n dX10_person_76 rfl rfl h
theorem sX10_person_77 {a0 a1 a2 : Value} (h : am_R E d mX10_person k n 78 [a0, a1, a2] (.int 4 :: st) S iv Q) : am_R E d mX10_person k n 77 [a0, a1, a2] st S iv Q := am_iconst dX10_person_77 (by decide) h
theorem sX10_person_78 {ls : List Value} {x y : Int32} (kt : ¬ x = y → am_R E d mX10_person k n 90 ls st S iv Q) (kf : x = y → am_R E d mX10_person k n 81 ls st S iv Q) : am_R E d mX10_person k n 78 ls (.int y :: .int x :: st) S iv Q := am_icmp_ne dX10_person_78 (by decide) kt kf
theorem sX10_person_81 {a0 a1 a2 : Value} (hv : am_rf a0 = true) (h : am_R E d mX10_person k n 82 [a0, a1, a2] (a0 :: st) S iv Q) : am_R E d mX10_person k n 81 [a0, a1, a2] st S iv Q := am_aload_n dX10_person_81 rfl rfl hv h
theorem sX10_person_82 {ls : List Value} {a b : Nat} (ha : S.1 a = some (.inl 10)) (hb : S.2.1 a 33 = some b) (h : am_R E d mX10_person k n 85 ls (.ref b :: st) S iv Q) : am_R E d mX10_person k n 82 ls (.ref a :: st) S iv Q := am_getR (ci := 10) dX10_person_82 rfl rfl (by decide) wq_787 uq_10 rfl ha hb h
theorem sX10_person_85 {a0 a2 : Value} {x : Int32} (h : am_R E d mX10_person k n 86 [a0, .int x, a2] (.int x :: st) S iv Q) : am_R E d mX10_person k n 85 [a0, .int x, a2] st S iv Q := am_iload_n dX10_person_85 rfl rfl h
theorem sX10_person_86 {ls : List Value} {a m : Nat} {i : Int32} (ha : S.1 a = some (.inr (.int, m))) (hi : vp_in i m) (h : am_R E d mX10_person k n 87 ls (.int (iv a i.toNatClampNeg) :: st) S iv Q) : am_R E d mX10_person k n 86 ls (.int i :: .ref a :: st) S iv Q := am_iaload dX10_person_86 ha hi h
theorem sX10_person_87 {ls : List Value} (h : am_R E d mX10_person k n 95 ls st S iv Q) : am_R E d mX10_person k n 87 ls st S iv Q := am_goto dX10_person_87 (by decide) h
theorem sX10_person_90 {a0 a1 a2 : Value} (hv : am_rf a0 = true) (h : am_R E d mX10_person k n 91 [a0, a1, a2] (a0 :: st) S iv Q) : am_R E d mX10_person k n 90 [a0, a1, a2] st S iv Q := am_aload_n dX10_person_90 rfl rfl hv h
theorem sX10_person_91 {a0 a1 a2 : Value} (h : am_R E d mX10_person k n 92 [a0, a1, a2] (.int 1 :: st) S iv Q) : am_R E d mX10_person k n 91 [a0, a1, a2] st S iv Q := am_iconst dX10_person_91 (by decide) h
theorem sX10_person_92 {ls : List Value} {x1 : Value} {a : Nat} (ha : S.1 a = some (.inl 10)) (hst : (st.map fun v => v.category).sum ≤ 8) (hM : am_M E d mX10_fail 0 0 [.ref a, x1] S iv (am_K3 E (d + 1) mX10_person k n 92 ls st Q)) : am_R E (d + 1) mX10_person k n 92 ls (x1 :: .ref a :: st) S iv Q := am_cV (ci := 10) (M' := mX10_fail) (as := [x1]) dX10_person_92 rfl rfl rfl wq_955 wq_956 wq_957 wq_808 wq_953 hy_X10_fail (by decide) ha hst (by omega) (by omega) hM
theorem sX10_person_92_k {ls : List Value} {x1 : Value} {k' n' : Nat} {a : Nat} (ha : S.1 a = some (.inl 10)) (hst : (st.map fun v => v.category).sum ≤ 8) (hM : am_M E d mX10_fail k' n' [.ref a, x1] S iv (am_K3 E (d + 1) mX10_person k n 92 ls st Q)) : am_R E (d + 1) mX10_person (k' + k) (n' + n) 92 ls (x1 :: .ref a :: st) S iv Q := am_cV (ci := 10) (M' := mX10_fail) (as := [x1]) dX10_person_92 rfl rfl rfl wq_955 wq_956 wq_957 wq_808 wq_953 hy_X10_fail (by decide) ha hst (by omega) (by omega) hM
theorem sX10_person_95 {ls : List Value} {x : Int32} (h : Q (.inl (some (.int x))) S iv) : am_R E d mX10_person k n 95 ls [.int x] S iv Q := am_ireturn dX10_person_95 rfl h
theorem dX10_feedBy_0 : decode cX10_feedBy 0 = .ok (.iload_n 1, 1) := by decide +kernel
theorem dX10_feedBy_1 : decode cX10_feedBy 1 = .ok (.istore_n 3, 1) := by decide +kernel
theorem dX10_feedBy_2 : decode cX10_feedBy 2 = .ok (.iconst 0, 1) := by decide +kernel
theorem dX10_feedBy_3 : decode cX10_feedBy 3 = .ok (.istore 4, 2) := by decide +kernel
theorem dX10_feedBy_5 : decode cX10_feedBy 5 = .ok (.iload 4, 2) := by decide +kernel
theorem dX10_feedBy_7 : decode cX10_feedBy 7 = .ok (.aload_n 0, 1) := by decide +kernel
theorem dX10_feedBy_8 : decode cX10_feedBy 8 = .ok (.getfield 49, 3) := by decide +kernel
theorem dX10_feedBy_11 : decode cX10_feedBy 11 = .ok (.iconst 3, 1) := by decide +kernel
theorem dX10_feedBy_12 : decode cX10_feedBy 12 = .ok (.iaload, 1) := by decide +kernel
theorem dX10_feedBy_13 : decode cX10_feedBy 13 = .ok (.if_icmp .ge 55, 3) := by decide +kernel
theorem dX10_feedBy_16 : decode cX10_feedBy 16 = .ok (.aload_n 0, 1) := by decide +kernel
theorem dX10_feedBy_17 : decode cX10_feedBy 17 = .ok (.getfield 66, 3) := by decide +kernel
theorem dX10_feedBy_20 : decode cX10_feedBy 20 = .ok (.iload 4, 2) := by decide +kernel
theorem dX10_feedBy_22 : decode cX10_feedBy 22 = .ok (.iaload, 1) := by decide +kernel
theorem dX10_feedBy_23 : decode cX10_feedBy 23 = .ok (.iconst (-1), 1) := by decide +kernel
theorem dX10_feedBy_24 : decode cX10_feedBy 24 = .ok (.if_icmp .eq 38, 3) := by decide +kernel
theorem dX10_feedBy_27 : decode cX10_feedBy 27 = .ok (.iload_n 2, 1) := by decide +kernel
theorem dX10_feedBy_28 : decode cX10_feedBy 28 = .ok (.aload_n 0, 1) := by decide +kernel
theorem dX10_feedBy_29 : decode cX10_feedBy 29 = .ok (.getfield 64, 3) := by decide +kernel
theorem dX10_feedBy_32 : decode cX10_feedBy 32 = .ok (.iload 4, 2) := by decide +kernel
theorem dX10_feedBy_34 : decode cX10_feedBy 34 = .ok (.iaload, 1) := by decide +kernel
theorem dX10_feedBy_35 : decode cX10_feedBy 35 = .ok (.invokestatic 328, 3) := by decide +kernel
theorem dX10_feedBy_38 : decode cX10_feedBy 38 = .ok (.ifCond .eq 24, 3) := by decide +kernel
theorem dX10_feedBy_41 : decode cX10_feedBy 41 = .ok (.iload_n 2, 1) := by decide +kernel
theorem dX10_feedBy_42 : decode cX10_feedBy 42 = .ok (.aload_n 0, 1) := by decide +kernel
theorem dX10_feedBy_43 : decode cX10_feedBy 43 = .ok (.getfield 66, 3) := by decide +kernel
theorem dX10_feedBy_46 : decode cX10_feedBy 46 = .ok (.iload 4, 2) := by decide +kernel
theorem dX10_feedBy_48 : decode cX10_feedBy 48 = .ok (.iaload, 1) := by decide +kernel
theorem dX10_feedBy_49 : decode cX10_feedBy 49 = .ok (.invokestatic 328, 3) := by decide +kernel
theorem dX10_feedBy_52 : decode cX10_feedBy 52 = .ok (.ifCond .eq 10, 3) := by decide +kernel
theorem dX10_feedBy_55 : decode cX10_feedBy 55 = .ok (.iload_n 3, 1) := by decide +kernel
theorem dX10_feedBy_56 : decode cX10_feedBy 56 = .ok (.iconst 1, 1) := by decide +kernel
theorem dX10_feedBy_57 : decode cX10_feedBy 57 = .ok (.iload 4, 2) := by decide +kernel
theorem dX10_feedBy_59 : decode cX10_feedBy 59 = .ok (.ishl, 1) := by decide +kernel
theorem dX10_feedBy_60 : decode cX10_feedBy 60 = .ok (.ior, 1) := by decide +kernel
theorem dX10_feedBy_61 : decode cX10_feedBy 61 = .ok (.istore_n 3, 1) := by decide +kernel
theorem dX10_feedBy_62 : decode cX10_feedBy 62 = .ok (.iinc 4 1, 3) := by decide +kernel
theorem dX10_feedBy_65 : decode cX10_feedBy 65 = .ok (.goto (-60), 3) := by decide +kernel
theorem dX10_feedBy_68 : decode cX10_feedBy 68 = .ok (.iload_n 3, 1) := by decide +kernel
theorem dX10_feedBy_69 : decode cX10_feedBy 69 = .ok (.ireturn, 1) := by decide +kernel
theorem sX10_feedBy_0 {a0 a2 a3 a4 : Value} {x : Int32} (h : am_R E d mX10_feedBy k n 1 [a0, .int x, a2, a3, a4] (.int x :: st) S iv Q) : am_R E d mX10_feedBy k n 0 [a0, .int x, a2, a3, a4] st S iv Q := am_iload_n dX10_feedBy_0 rfl rfl h
theorem sX10_feedBy_1 {a0 a1 a2 a3 a4 : Value} {x : Int32} (h : am_R E d mX10_feedBy k n 2 [a0, a1, a2, .int x, a4] st S iv Q) : am_R E d mX10_feedBy k n 1 [a0, a1, a2, a3, a4] (.int x :: st) S iv Q := am_istore_n dX10_feedBy_1 rfl (by decide) h
theorem sX10_feedBy_2 {a0 a1 a2 a3 a4 : Value} (h : am_R E d mX10_feedBy k n 3 [a0, a1, a2, a3, a4] (.int 0 :: st) S iv Q) : am_R E d mX10_feedBy k n 2 [a0, a1, a2, a3, a4] st S iv Q := am_iconst dX10_feedBy_2 (by decide) h
theorem sX10_feedBy_3 {a0 a1 a2 a3 a4 : Value} {x : Int32} (h : am_R E d mX10_feedBy k n 5 [a0, a1, a2, a3, .int x] st S iv Q) : am_R E d mX10_feedBy k n 3 [a0, a1, a2, a3, a4] (.int x :: st) S iv Q := am_istore dX10_feedBy_3 (by decide) h
theorem sX10_feedBy_5 {a0 a1 a2 a3 : Value} {x : Int32} (h : am_R E d mX10_feedBy k n 7 [a0, a1, a2, a3, .int x] (.int x :: st) S iv Q) : am_R E d mX10_feedBy k n 5 [a0, a1, a2, a3, .int x] st S iv Q := am_iload dX10_feedBy_5 rfl h
theorem sX10_feedBy_7 {a0 a1 a2 a3 a4 : Value} (hv : am_rf a0 = true) (h : am_R E d mX10_feedBy k n 8 [a0, a1, a2, a3, a4] (a0 :: st) S iv Q) : am_R E d mX10_feedBy k n 7 [a0, a1, a2, a3, a4] st S iv Q := am_aload_n dX10_feedBy_7 rfl rfl hv h
theorem sX10_feedBy_8 {ls : List Value} {a b : Nat} (ha : S.1 a = some (.inl 10)) (hb : S.2.1 a 4 = some b) (h : am_R E d mX10_feedBy k n 11 ls (.ref b :: st) S iv Q) : am_R E d mX10_feedBy k n 8 ls (.ref a :: st) S iv Q := am_getR (ci := 10) dX10_feedBy_8 rfl rfl (by decide) wq_772 uq_10 rfl ha hb h
theorem sX10_feedBy_11 {a0 a1 a2 a3 a4 : Value} (h : am_R E d mX10_feedBy k n 12 [a0, a1, a2, a3, a4] (.int 3 :: st) S iv Q) : am_R E d mX10_feedBy k n 11 [a0, a1, a2, a3, a4] st S iv Q := am_iconst dX10_feedBy_11 (by decide) h
theorem sX10_feedBy_12 {ls : List Value} {a m : Nat} {i : Int32} (ha : S.1 a = some (.inr (.int, m))) (hi : vp_in i m) (h : am_R E d mX10_feedBy k n 13 ls (.int (iv a i.toNatClampNeg) :: st) S iv Q) : am_R E d mX10_feedBy k n 12 ls (.int i :: .ref a :: st) S iv Q := am_iaload dX10_feedBy_12 ha hi h
theorem sX10_feedBy_13 {ls : List Value} {x y : Int32} (kt : y ≤ x → am_R E d mX10_feedBy k n 68 ls st S iv Q) (kf : ¬ y ≤ x → am_R E d mX10_feedBy k n 16 ls st S iv Q) : am_R E d mX10_feedBy k n 13 ls (.int y :: .int x :: st) S iv Q := am_icmp_ge dX10_feedBy_13 (by decide) kt kf
theorem sX10_feedBy_16 {a0 a1 a2 a3 a4 : Value} (hv : am_rf a0 = true) (h : am_R E d mX10_feedBy k n 17 [a0, a1, a2, a3, a4] (a0 :: st) S iv Q) : am_R E d mX10_feedBy k n 16 [a0, a1, a2, a3, a4] st S iv Q := am_aload_n dX10_feedBy_16 rfl rfl hv h
theorem sX10_feedBy_17 {ls : List Value} {a b : Nat} (ha : S.1 a = some (.inl 10)) (hb : S.2.1 a 11 = some b) (h : am_R E d mX10_feedBy k n 20 ls (.ref b :: st) S iv Q) : am_R E d mX10_feedBy k n 17 ls (.ref a :: st) S iv Q := am_getR (ci := 10) dX10_feedBy_17 rfl rfl (by decide) wq_779 uq_10 rfl ha hb h
theorem sX10_feedBy_20 {a0 a1 a2 a3 : Value} {x : Int32} (h : am_R E d mX10_feedBy k n 22 [a0, a1, a2, a3, .int x] (.int x :: st) S iv Q) : am_R E d mX10_feedBy k n 20 [a0, a1, a2, a3, .int x] st S iv Q := am_iload dX10_feedBy_20 rfl h
theorem sX10_feedBy_22 {ls : List Value} {a m : Nat} {i : Int32} (ha : S.1 a = some (.inr (.int, m))) (hi : vp_in i m) (h : am_R E d mX10_feedBy k n 23 ls (.int (iv a i.toNatClampNeg) :: st) S iv Q) : am_R E d mX10_feedBy k n 22 ls (.int i :: .ref a :: st) S iv Q := am_iaload dX10_feedBy_22 ha hi h
theorem sX10_feedBy_23 {a0 a1 a2 a3 a4 : Value} (h : am_R E d mX10_feedBy k n 24 [a0, a1, a2, a3, a4] (.int (-1) :: st) S iv Q) : am_R E d mX10_feedBy k n 23 [a0, a1, a2, a3, a4] st S iv Q := am_iconst dX10_feedBy_23 (by decide) h
theorem sX10_feedBy_24 {ls : List Value} {x y : Int32} (kt : x = y → am_R E d mX10_feedBy k n 62 ls st S iv Q) (kf : ¬ x = y → am_R E d mX10_feedBy k n 27 ls st S iv Q) : am_R E d mX10_feedBy k n 24 ls (.int y :: .int x :: st) S iv Q := am_icmp_eq dX10_feedBy_24 (by decide) kt kf
theorem sX10_feedBy_27 {a0 a1 a3 a4 : Value} {x : Int32} (h : am_R E d mX10_feedBy k n 28 [a0, a1, .int x, a3, a4] (.int x :: st) S iv Q) : am_R E d mX10_feedBy k n 27 [a0, a1, .int x, a3, a4] st S iv Q := am_iload_n dX10_feedBy_27 rfl rfl h
theorem sX10_feedBy_28 {a0 a1 a2 a3 a4 : Value} (hv : am_rf a0 = true) (h : am_R E d mX10_feedBy k n 29 [a0, a1, a2, a3, a4] (a0 :: st) S iv Q) : am_R E d mX10_feedBy k n 28 [a0, a1, a2, a3, a4] st S iv Q := am_aload_n dX10_feedBy_28 rfl rfl hv h
theorem sX10_feedBy_29 {ls : List Value} {a b : Nat} (ha : S.1 a = some (.inl 10)) (hb : S.2.1 a 10 = some b) (h : am_R E d mX10_feedBy k n 32 ls (.ref b :: st) S iv Q) : am_R E d mX10_feedBy k n 29 ls (.ref a :: st) S iv Q := am_getR (ci := 10) dX10_feedBy_29 rfl rfl (by decide) wq_778 uq_10 rfl ha hb h
theorem sX10_feedBy_32 {a0 a1 a2 a3 : Value} {x : Int32} (h : am_R E d mX10_feedBy k n 34 [a0, a1, a2, a3, .int x] (.int x :: st) S iv Q) : am_R E d mX10_feedBy k n 32 [a0, a1, a2, a3, .int x] st S iv Q := am_iload dX10_feedBy_32 rfl h
theorem sX10_feedBy_34 {ls : List Value} {a m : Nat} {i : Int32} (ha : S.1 a = some (.inr (.int, m))) (hi : vp_in i m) (h : am_R E d mX10_feedBy k n 35 ls (.int (iv a i.toNatClampNeg) :: st) S iv Q) : am_R E d mX10_feedBy k n 34 ls (.int i :: .ref a :: st) S iv Q := am_iaload dX10_feedBy_34 ha hi h
theorem sX10_feedBy_35 {ls : List Value} {x1 x2 : Value} (hst : (st.map fun v => v.category).sum ≤ 8) (hM : am_M E d mX10_has 0 0 [x1, x2] S iv (am_K3 E (d + 1) mX10_feedBy k n 35 ls st Q)) : am_R E (d + 1) mX10_feedBy k n 35 ls (x2 :: x1 :: st) S iv Q := am_cS (M' := mX10_has) (as := [x1, x2]) dX10_feedBy_35 rfl wq_987 wq_988 wq_808 wq_985 hy_X10_has (by decide) hst (by omega) (by omega) hM
theorem sX10_feedBy_35_k {ls : List Value} {x1 x2 : Value} {k' n' : Nat} (hst : (st.map fun v => v.category).sum ≤ 8) (hM : am_M E d mX10_has k' n' [x1, x2] S iv (am_K3 E (d + 1) mX10_feedBy k n 35 ls st Q)) : am_R E (d + 1) mX10_feedBy (k' + k) (n' + n) 35 ls (x2 :: x1 :: st) S iv Q := am_cS (M' := mX10_has) (as := [x1, x2]) dX10_feedBy_35 rfl wq_987 wq_988 wq_808 wq_985 hy_X10_has (by decide) hst (by omega) (by omega) hM
theorem sX10_feedBy_38 {ls : List Value} {x : Int32} (kt : x = 0 → am_R E d mX10_feedBy k n 62 ls st S iv Q) (kf : ¬ x = 0 → am_R E d mX10_feedBy k n 41 ls st S iv Q) : am_R E d mX10_feedBy k n 38 ls (.int x :: st) S iv Q := am_if_eq dX10_feedBy_38 (by decide) kt kf
theorem sX10_feedBy_41 {a0 a1 a3 a4 : Value} {x : Int32} (h : am_R E d mX10_feedBy k n 42 [a0, a1, .int x, a3, a4] (.int x :: st) S iv Q) : am_R E d mX10_feedBy k n 41 [a0, a1, .int x, a3, a4] st S iv Q := am_iload_n dX10_feedBy_41 rfl rfl h
theorem sX10_feedBy_42 {a0 a1 a2 a3 a4 : Value} (hv : am_rf a0 = true) (h : am_R E d mX10_feedBy k n 43 [a0, a1, a2, a3, a4] (a0 :: st) S iv Q) : am_R E d mX10_feedBy k n 42 [a0, a1, a2, a3, a4] st S iv Q := am_aload_n dX10_feedBy_42 rfl rfl hv h
theorem sX10_feedBy_43 {ls : List Value} {a b : Nat} (ha : S.1 a = some (.inl 10)) (hb : S.2.1 a 11 = some b) (h : am_R E d mX10_feedBy k n 46 ls (.ref b :: st) S iv Q) : am_R E d mX10_feedBy k n 43 ls (.ref a :: st) S iv Q := am_getR (ci := 10) dX10_feedBy_43 rfl rfl (by decide) wq_779 uq_10 rfl ha hb h
theorem sX10_feedBy_46 {a0 a1 a2 a3 : Value} {x : Int32} (h : am_R E d mX10_feedBy k n 48 [a0, a1, a2, a3, .int x] (.int x :: st) S iv Q) : am_R E d mX10_feedBy k n 46 [a0, a1, a2, a3, .int x] st S iv Q := am_iload dX10_feedBy_46 rfl h
theorem sX10_feedBy_48 {ls : List Value} {a m : Nat} {i : Int32} (ha : S.1 a = some (.inr (.int, m))) (hi : vp_in i m) (h : am_R E d mX10_feedBy k n 49 ls (.int (iv a i.toNatClampNeg) :: st) S iv Q) : am_R E d mX10_feedBy k n 48 ls (.int i :: .ref a :: st) S iv Q := am_iaload dX10_feedBy_48 ha hi h
theorem sX10_feedBy_49 {ls : List Value} {x1 x2 : Value} (hst : (st.map fun v => v.category).sum ≤ 8) (hM : am_M E d mX10_has 0 0 [x1, x2] S iv (am_K3 E (d + 1) mX10_feedBy k n 49 ls st Q)) : am_R E (d + 1) mX10_feedBy k n 49 ls (x2 :: x1 :: st) S iv Q := am_cS (M' := mX10_has) (as := [x1, x2]) dX10_feedBy_49 rfl wq_987 wq_988 wq_808 wq_985 hy_X10_has (by decide) hst (by omega) (by omega) hM
theorem sX10_feedBy_49_k {ls : List Value} {x1 x2 : Value} {k' n' : Nat} (hst : (st.map fun v => v.category).sum ≤ 8) (hM : am_M E d mX10_has k' n' [x1, x2] S iv (am_K3 E (d + 1) mX10_feedBy k n 49 ls st Q)) : am_R E (d + 1) mX10_feedBy (k' + k) (n' + n) 49 ls (x2 :: x1 :: st) S iv Q := am_cS (M' := mX10_has) (as := [x1, x2]) dX10_feedBy_49 rfl wq_987 wq_988 wq_808 wq_985 hy_X10_has (by decide) hst (by omega) (by omega) hM
theorem sX10_feedBy_52 {ls : List Value} {x : Int32} (kt : x = 0 → am_R E d mX10_feedBy k n 62 ls st S iv Q) (kf : ¬ x = 0 → am_R E d mX10_feedBy k n 55 ls st S iv Q) : am_R E d mX10_feedBy k n 52 ls (.int x :: st) S iv Q := am_if_eq dX10_feedBy_52 (by decide) kt kf
theorem sX10_feedBy_55 {a0 a1 a2 a4 : Value} {x : Int32} (h : am_R E d mX10_feedBy k n 56 [a0, a1, a2, .int x, a4] (.int x :: st) S iv Q) : am_R E d mX10_feedBy k n 55 [a0, a1, a2, .int x, a4] st S iv Q := am_iload_n dX10_feedBy_55 rfl rfl h
theorem sX10_feedBy_56 {a0 a1 a2 a3 a4 : Value} (h : am_R E d mX10_feedBy k n 57 [a0, a1, a2, a3, a4] (.int 1 :: st) S iv Q) : am_R E d mX10_feedBy k n 56 [a0, a1, a2, a3, a4] st S iv Q := am_iconst dX10_feedBy_56 (by decide) h
theorem sX10_feedBy_57 {a0 a1 a2 a3 : Value} {x : Int32} (h : am_R E d mX10_feedBy k n 59 [a0, a1, a2, a3, .int x] (.int x :: st) S iv Q) : am_R E d mX10_feedBy k n 57 [a0, a1, a2, a3, .int x] st S iv Q := am_iload dX10_feedBy_57 rfl h
theorem sX10_feedBy_59 {ls : List Value} {x y : Int32} (h : am_R E d mX10_feedBy k n 60 ls (.int (x <<< (y &&& 31)) :: st) S iv Q) : am_R E d mX10_feedBy k n 59 ls (.int y :: .int x :: st) S iv Q := am_ishl dX10_feedBy_59 h
theorem sX10_feedBy_60 {ls : List Value} {x y : Int32} (h : am_R E d mX10_feedBy k n 61 ls (.int (x ||| y) :: st) S iv Q) : am_R E d mX10_feedBy k n 60 ls (.int y :: .int x :: st) S iv Q := am_ior dX10_feedBy_60 h
theorem sX10_feedBy_61 {a0 a1 a2 a3 a4 : Value} {x : Int32} (h : am_R E d mX10_feedBy k n 62 [a0, a1, a2, .int x, a4] st S iv Q) : am_R E d mX10_feedBy k n 61 [a0, a1, a2, a3, a4] (.int x :: st) S iv Q := am_istore_n dX10_feedBy_61 rfl (by decide) h
theorem sX10_feedBy_62 {a0 a1 a2 a3 : Value} {x : Int32} (h : am_R E d mX10_feedBy k n 65 [a0, a1, a2, a3, .int (x + 1)] st S iv Q) : am_R E d mX10_feedBy k n 62 [a0, a1, a2, a3, .int x] st S iv Q := am_iinc dX10_feedBy_62 rfl rfl (by decide) h
theorem sX10_feedBy_65 {ls : List Value} (h : am_R E d mX10_feedBy k n 5 ls st S iv Q) : am_R E d mX10_feedBy k n 65 ls st S iv Q := am_goto dX10_feedBy_65 (by decide) h
theorem sX10_feedBy_68 {a0 a1 a2 a4 : Value} {x : Int32} (h : am_R E d mX10_feedBy k n 69 [a0, a1, a2, .int x, a4] (.int x :: st) S iv Q) : am_R E d mX10_feedBy k n 68 [a0, a1, a2, .int x, a4] st S iv Q := am_iload_n dX10_feedBy_68 rfl rfl h
theorem sX10_feedBy_69 {ls : List Value} {x : Int32} (h : Q (.inl (some (.int x))) S iv) : am_R E d mX10_feedBy k n 69 ls [.int x] S iv Q := am_ireturn dX10_feedBy_69 rfl h
theorem dX10_troubleOf_0 : decode cX10_troubleOf 0 = .ok (.aload_n 0, 1) := by decide +kernel
theorem dX10_troubleOf_1 : decode cX10_troubleOf 1 = .ok (.iload_n 1, 1) := by decide +kernel
theorem dX10_troubleOf_2 : decode cX10_troubleOf 2 = .ok (.invokevirtual 354, 3) := by decide +kernel
theorem dX10_troubleOf_5 : decode cX10_troubleOf 5 = .ok (.ifCond .ne 5, 3) := by decide +kernel
theorem dX10_troubleOf_8 : decode cX10_troubleOf 8 = .ok (.iconst 1, 1) := by decide +kernel
theorem dX10_troubleOf_9 : decode cX10_troubleOf 9 = .ok (.ireturn, 1) := by decide +kernel
theorem dX10_troubleOf_10 : decode cX10_troubleOf 10 = .ok (.aload_n 0, 1) := by decide +kernel
theorem dX10_troubleOf_11 : decode cX10_troubleOf 11 = .ok (.getfield 308, 3) := by decide +kernel
theorem dX10_troubleOf_14 : decode cX10_troubleOf 14 = .ok (.iload_n 1, 1) := by decide +kernel
theorem dX10_troubleOf_15 : decode cX10_troubleOf 15 = .ok (.invokestatic 328, 3) := by decide +kernel
theorem dX10_troubleOf_18 : decode cX10_troubleOf 18 = .ok (.ifCond .eq 5, 3) := by decide +kernel
theorem dX10_troubleOf_21 : decode cX10_troubleOf 21 = .ok (.iconst 2, 1) := by decide +kernel
theorem dX10_troubleOf_22 : decode cX10_troubleOf 22 = .ok (.ireturn, 1) := by decide +kernel
theorem dX10_troubleOf_23 : decode cX10_troubleOf 23 = .ok (.aload_n 0, 1) := by decide +kernel
theorem dX10_troubleOf_24 : decode cX10_troubleOf 24 = .ok (.aload_n 0, 1) := by decide +kernel
theorem dX10_troubleOf_25 : decode cX10_troubleOf 25 = .ok (.getfield 306, 3) := by decide +kernel
theorem dX10_troubleOf_28 : decode cX10_troubleOf 28 = .ok (.invokevirtual 357, 3) := by decide +kernel
theorem dX10_troubleOf_31 : decode cX10_troubleOf 31 = .ok (.iload_n 1, 1) := by decide +kernel
theorem dX10_troubleOf_32 : decode cX10_troubleOf 32 = .ok (.invokestatic 328, 3) := by decide +kernel
theorem dX10_troubleOf_35 : decode cX10_troubleOf 35 = .ok (.ifCond .ne 5, 3) := by decide +kernel
theorem dX10_troubleOf_38 : decode cX10_troubleOf 38 = .ok (.iconst 3, 1) := by decide +kernel
theorem dX10_troubleOf_39 : decode cX10_troubleOf 39 = .ok (.ireturn, 1) := by decide +kernel
theorem dX10_troubleOf_40 : decode cX10_troubleOf 40 = .ok (.aload_n 0, 1) := by decide +kernel
theorem dX10_troubleOf_41 : decode cX10_troubleOf 41 = .ok (.aload_n 0, 1) := by decide +kernel
theorem dX10_troubleOf_42 : decode cX10_troubleOf 42 = .ok (.getfield 306, 3) := by decide +kernel
theorem dX10_troubleOf_45 : decode cX10_troubleOf 45 = .ok (.iconst 1, 1) := by decide +kernel
theorem dX10_troubleOf_46 : decode cX10_troubleOf 46 = .ok (.iload_n 1, 1) := by decide +kernel
theorem dX10_troubleOf_47 : decode cX10_troubleOf 47 = .ok (.ishl, 1) := by decide +kernel
theorem dX10_troubleOf_48 : decode cX10_troubleOf 48 = .ok (.ixor, 1) := by decide +kernel
theorem dX10_troubleOf_49 : decode cX10_troubleOf 49 = .ok (.invokevirtual 351, 3) := by decide +kernel
theorem dX10_troubleOf_52 : decode cX10_troubleOf 52 = .ok (.ifCond .eq 20, 3) := by decide +kernel
theorem dX10_troubleOf_55 : decode cX10_troubleOf 55 = .ok (.aload_n 0, 1) := by decide +kernel
theorem dX10_troubleOf_56 : decode cX10_troubleOf 56 = .ok (.getfield 314, 3) := by decide +kernel
theorem dX10_troubleOf_59 : decode cX10_troubleOf 59 = .ok (.bipush 100, 2) := by decide +kernel
theorem dX10_troubleOf_61 : decode cX10_troubleOf 61 = .ok (.if_icmp .ne 7, 3) := by decide +kernel
theorem dX10_troubleOf_64 : decode cX10_troubleOf 64 = .ok (.iconst 5, 1) := by decide +kernel
theorem dX10_troubleOf_65 : decode cX10_troubleOf 65 = .ok (.goto 8, 3) := by decide +kernel
theorem dX10_troubleOf_68 : decode cX10_troubleOf 68 = .ok (.iconst 0, 1) := by decide +kernel
theorem dX10_troubleOf_69 : decode cX10_troubleOf 69 = .ok (.goto 4, 3) := by decide +kernel
theorem dX10_troubleOf_72 : decode cX10_troubleOf 72 = .ok (.iconst 4, 1) := by decide +kernel
theorem dX10_troubleOf_73 : decode cX10_troubleOf 73 = .ok (.ireturn, 1) := by decide +kernel
theorem sX10_troubleOf_0 {a0 a1 : Value} (hv : am_rf a0 = true) (h : am_R E d mX10_troubleOf k n 1 [a0, a1] (a0 :: st) S iv Q) : am_R E d mX10_troubleOf k n 0 [a0, a1] st S iv Q := am_aload_n dX10_troubleOf_0 rfl rfl hv h
theorem sX10_troubleOf_1 {a0 : Value} {x : Int32} (h : am_R E d mX10_troubleOf k n 2 [a0, .int x] (.int x :: st) S iv Q) : am_R E d mX10_troubleOf k n 1 [a0, .int x] st S iv Q := am_iload_n dX10_troubleOf_1 rfl rfl h
theorem sX10_troubleOf_2 {ls : List Value} {x1 : Value} {a : Nat} (ha : S.1 a = some (.inl 10)) (hst : (st.map fun v => v.category).sum ≤ 8) (hM : am_M E d mX10_isDrawer 0 0 [.ref a, x1] S iv (am_K3 E (d + 1) mX10_troubleOf k n 2 ls st Q)) : am_R E (d + 1) mX10_troubleOf k n 2 ls (x1 :: .ref a :: st) S iv Q := am_cV (ci := 10) (M' := mX10_isDrawer) (as := [x1]) dX10_troubleOf_2 rfl rfl rfl wq_1026 wq_1027 wq_1028 wq_808 wq_1024 hy_X10_isDrawer (by decide) ha hst (by omega) (by omega) hM
theorem sX10_troubleOf_2_k {ls : List Value} {x1 : Value} {k' n' : Nat} {a : Nat} (ha : S.1 a = some (.inl 10)) (hst : (st.map fun v => v.category).sum ≤ 8) (hM : am_M E d mX10_isDrawer k' n' [.ref a, x1] S iv (am_K3 E (d + 1) mX10_troubleOf k n 2 ls st Q)) : am_R E (d + 1) mX10_troubleOf (k' + k) (n' + n) 2 ls (x1 :: .ref a :: st) S iv Q := am_cV (ci := 10) (M' := mX10_isDrawer) (as := [x1]) dX10_troubleOf_2 rfl rfl rfl wq_1026 wq_1027 wq_1028 wq_808 wq_1024 hy_X10_isDrawer (by decide) ha hst (by omega) (by omega) hM
theorem sX10_troubleOf_5 {ls : List Value} {x : Int32} (kt : ¬ x = 0 → am_R E d mX10_troubleOf k n 10 ls st S iv Q) (kf : x = 0 → am_R E d mX10_troubleOf k n 8 ls st S iv Q) : am_R E d mX10_troubleOf k n 5 ls (.int x :: st) S iv Q := am_if_ne dX10_troubleOf_5 (by decide) kt kf
theorem sX10_troubleOf_8 {a0 a1 : Value} (h : am_R E d mX10_troubleOf k n 9 [a0, a1] (.int 1 :: st) S iv Q) : am_R E d mX10_troubleOf k n 8 [a0, a1] st S iv Q := am_iconst dX10_troubleOf_8 (by decide) h
theorem sX10_troubleOf_9 {ls : List Value} {x : Int32} (h : Q (.inl (some (.int x))) S iv) : am_R E d mX10_troubleOf k n 9 ls [.int x] S iv Q := am_ireturn dX10_troubleOf_9 rfl h
theorem sX10_troubleOf_10 {a0 a1 : Value} (hv : am_rf a0 = true) (h : am_R E d mX10_troubleOf k n 11 [a0, a1] (a0 :: st) S iv Q) : am_R E d mX10_troubleOf k n 10 [a0, a1] st S iv Q := am_aload_n dX10_troubleOf_10 rfl rfl hv h
theorem sX10_troubleOf_11 {ls : List Value} {a : Nat} (ha : S.1 a = some (.inl 10)) (h : am_R E d mX10_troubleOf k n 14 ls (.int (iv a 30) :: st) S iv Q) : am_R E d mX10_troubleOf k n 11 ls (.ref a :: st) S iv Q := am_getI (ci := 10) dX10_troubleOf_11 rfl rfl (by decide) wq_973 uq_10 rfl ha h
theorem sX10_troubleOf_14 {a0 : Value} {x : Int32} (h : am_R E d mX10_troubleOf k n 15 [a0, .int x] (.int x :: st) S iv Q) : am_R E d mX10_troubleOf k n 14 [a0, .int x] st S iv Q := am_iload_n dX10_troubleOf_14 rfl rfl h
theorem sX10_troubleOf_15 {ls : List Value} {x1 x2 : Value} (hst : (st.map fun v => v.category).sum ≤ 8) (hM : am_M E d mX10_has 0 0 [x1, x2] S iv (am_K3 E (d + 1) mX10_troubleOf k n 15 ls st Q)) : am_R E (d + 1) mX10_troubleOf k n 15 ls (x2 :: x1 :: st) S iv Q := am_cS (M' := mX10_has) (as := [x1, x2]) dX10_troubleOf_15 rfl wq_987 wq_988 wq_808 wq_985 hy_X10_has (by decide) hst (by omega) (by omega) hM
theorem sX10_troubleOf_15_k {ls : List Value} {x1 x2 : Value} {k' n' : Nat} (hst : (st.map fun v => v.category).sum ≤ 8) (hM : am_M E d mX10_has k' n' [x1, x2] S iv (am_K3 E (d + 1) mX10_troubleOf k n 15 ls st Q)) : am_R E (d + 1) mX10_troubleOf (k' + k) (n' + n) 15 ls (x2 :: x1 :: st) S iv Q := am_cS (M' := mX10_has) (as := [x1, x2]) dX10_troubleOf_15 rfl wq_987 wq_988 wq_808 wq_985 hy_X10_has (by decide) hst (by omega) (by omega) hM
theorem sX10_troubleOf_18 {ls : List Value} {x : Int32} (kt : x = 0 → am_R E d mX10_troubleOf k n 23 ls st S iv Q) (kf : ¬ x = 0 → am_R E d mX10_troubleOf k n 21 ls st S iv Q) : am_R E d mX10_troubleOf k n 18 ls (.int x :: st) S iv Q := am_if_eq dX10_troubleOf_18 (by decide) kt kf
theorem sX10_troubleOf_21 {a0 a1 : Value} (h : am_R E d mX10_troubleOf k n 22 [a0, a1] (.int 2 :: st) S iv Q) : am_R E d mX10_troubleOf k n 21 [a0, a1] st S iv Q := am_iconst dX10_troubleOf_21 (by decide) h
theorem sX10_troubleOf_22 {ls : List Value} {x : Int32} (h : Q (.inl (some (.int x))) S iv) : am_R E d mX10_troubleOf k n 22 ls [.int x] S iv Q := am_ireturn dX10_troubleOf_22 rfl h
theorem sX10_troubleOf_23 {a0 a1 : Value} (hv : am_rf a0 = true) (h : am_R E d mX10_troubleOf k n 24 [a0, a1] (a0 :: st) S iv Q) : am_R E d mX10_troubleOf k n 23 [a0, a1] st S iv Q := am_aload_n dX10_troubleOf_23 rfl rfl hv h
theorem sX10_troubleOf_24 {a0 a1 : Value} (hv : am_rf a0 = true) (h : am_R E d mX10_troubleOf k n 25 [a0, a1] (a0 :: st) S iv Q) : am_R E d mX10_troubleOf k n 24 [a0, a1] st S iv Q := am_aload_n dX10_troubleOf_24 rfl rfl hv h
theorem sX10_troubleOf_25 {ls : List Value} {a : Nat} (ha : S.1 a = some (.inl 10)) (h : am_R E d mX10_troubleOf k n 28 ls (.int (iv a 29) :: st) S iv Q) : am_R E d mX10_troubleOf k n 25 ls (.ref a :: st) S iv Q := am_getI (ci := 10) dX10_troubleOf_25 rfl rfl (by decide) wq_972 uq_10 rfl ha h
theorem sX10_troubleOf_28 {ls : List Value} {x1 : Value} {a : Nat} (ha : S.1 a = some (.inl 10)) (hst : (st.map fun v => v.category).sum ≤ 8) (hM : am_M E d mX10_reachedBy 0 0 [.ref a, x1] S iv (am_K3 E (d + 1) mX10_troubleOf k n 28 ls st Q)) : am_R E (d + 1) mX10_troubleOf k n 28 ls (x1 :: .ref a :: st) S iv Q := am_cV (ci := 10) (M' := mX10_reachedBy) (as := [x1]) dX10_troubleOf_28 rfl rfl rfl wq_1031 wq_1032 wq_1033 wq_808 wq_1029 hy_X10_reachedBy (by decide) ha hst (by omega) (by omega) hM
theorem sX10_troubleOf_28_k {ls : List Value} {x1 : Value} {k' n' : Nat} {a : Nat} (ha : S.1 a = some (.inl 10)) (hst : (st.map fun v => v.category).sum ≤ 8) (hM : am_M E d mX10_reachedBy k' n' [.ref a, x1] S iv (am_K3 E (d + 1) mX10_troubleOf k n 28 ls st Q)) : am_R E (d + 1) mX10_troubleOf (k' + k) (n' + n) 28 ls (x1 :: .ref a :: st) S iv Q := am_cV (ci := 10) (M' := mX10_reachedBy) (as := [x1]) dX10_troubleOf_28 rfl rfl rfl wq_1031 wq_1032 wq_1033 wq_808 wq_1029 hy_X10_reachedBy (by decide) ha hst (by omega) (by omega) hM
theorem sX10_troubleOf_31 {a0 : Value} {x : Int32} (h : am_R E d mX10_troubleOf k n 32 [a0, .int x] (.int x :: st) S iv Q) : am_R E d mX10_troubleOf k n 31 [a0, .int x] st S iv Q := am_iload_n dX10_troubleOf_31 rfl rfl h
theorem sX10_troubleOf_32 {ls : List Value} {x1 x2 : Value} (hst : (st.map fun v => v.category).sum ≤ 8) (hM : am_M E d mX10_has 0 0 [x1, x2] S iv (am_K3 E (d + 1) mX10_troubleOf k n 32 ls st Q)) : am_R E (d + 1) mX10_troubleOf k n 32 ls (x2 :: x1 :: st) S iv Q := am_cS (M' := mX10_has) (as := [x1, x2]) dX10_troubleOf_32 rfl wq_987 wq_988 wq_808 wq_985 hy_X10_has (by decide) hst (by omega) (by omega) hM
theorem sX10_troubleOf_32_k {ls : List Value} {x1 x2 : Value} {k' n' : Nat} (hst : (st.map fun v => v.category).sum ≤ 8) (hM : am_M E d mX10_has k' n' [x1, x2] S iv (am_K3 E (d + 1) mX10_troubleOf k n 32 ls st Q)) : am_R E (d + 1) mX10_troubleOf (k' + k) (n' + n) 32 ls (x2 :: x1 :: st) S iv Q := am_cS (M' := mX10_has) (as := [x1, x2]) dX10_troubleOf_32 rfl wq_987 wq_988 wq_808 wq_985 hy_X10_has (by decide) hst (by omega) (by omega) hM
theorem sX10_troubleOf_35 {ls : List Value} {x : Int32} (kt : ¬ x = 0 → am_R E d mX10_troubleOf k n 40 ls st S iv Q) (kf : x = 0 → am_R E d mX10_troubleOf k n 38 ls st S iv Q) : am_R E d mX10_troubleOf k n 35 ls (.int x :: st) S iv Q := am_if_ne dX10_troubleOf_35 (by decide) kt kf
theorem sX10_troubleOf_38 {a0 a1 : Value} (h : am_R E d mX10_troubleOf k n 39 [a0, a1] (.int 3 :: st) S iv Q) : am_R E d mX10_troubleOf k n 38 [a0, a1] st S iv Q := am_iconst dX10_troubleOf_38 (by decide) h
theorem sX10_troubleOf_39 {ls : List Value} {x : Int32} (h : Q (.inl (some (.int x))) S iv) : am_R E d mX10_troubleOf k n 39 ls [.int x] S iv Q := am_ireturn dX10_troubleOf_39 rfl h
theorem sX10_troubleOf_40 {a0 a1 : Value} (hv : am_rf a0 = true) (h : am_R E d mX10_troubleOf k n 41 [a0, a1] (a0 :: st) S iv Q) : am_R E d mX10_troubleOf k n 40 [a0, a1] st S iv Q := am_aload_n dX10_troubleOf_40 rfl rfl hv h
theorem sX10_troubleOf_41 {a0 a1 : Value} (hv : am_rf a0 = true) (h : am_R E d mX10_troubleOf k n 42 [a0, a1] (a0 :: st) S iv Q) : am_R E d mX10_troubleOf k n 41 [a0, a1] st S iv Q := am_aload_n dX10_troubleOf_41 rfl rfl hv h
theorem sX10_troubleOf_42 {ls : List Value} {a : Nat} (ha : S.1 a = some (.inl 10)) (h : am_R E d mX10_troubleOf k n 45 ls (.int (iv a 29) :: st) S iv Q) : am_R E d mX10_troubleOf k n 42 ls (.ref a :: st) S iv Q := am_getI (ci := 10) dX10_troubleOf_42 rfl rfl (by decide) wq_972 uq_10 rfl ha h
theorem sX10_troubleOf_45 {a0 a1 : Value} (h : am_R E d mX10_troubleOf k n 46 [a0, a1] (.int 1 :: st) S iv Q) : am_R E d mX10_troubleOf k n 45 [a0, a1] st S iv Q := am_iconst dX10_troubleOf_45 (by decide) h
theorem sX10_troubleOf_46 {a0 : Value} {x : Int32} (h : am_R E d mX10_troubleOf k n 47 [a0, .int x] (.int x :: st) S iv Q) : am_R E d mX10_troubleOf k n 46 [a0, .int x] st S iv Q := am_iload_n dX10_troubleOf_46 rfl rfl h
theorem sX10_troubleOf_47 {ls : List Value} {x y : Int32} (h : am_R E d mX10_troubleOf k n 48 ls (.int (x <<< (y &&& 31)) :: st) S iv Q) : am_R E d mX10_troubleOf k n 47 ls (.int y :: .int x :: st) S iv Q := am_ishl dX10_troubleOf_47 h
theorem sX10_troubleOf_48 {ls : List Value} {x y : Int32} (h : am_R E d mX10_troubleOf k n 49 ls (.int (x ^^^ y) :: st) S iv Q) : am_R E d mX10_troubleOf k n 48 ls (.int y :: .int x :: st) S iv Q := am_ixor dX10_troubleOf_48 h
theorem sX10_troubleOf_49 {ls : List Value} {x1 : Value} {a : Nat} (ha : S.1 a = some (.inl 10)) (hst : (st.map fun v => v.category).sum ≤ 8) (hM : am_M E d mX10_canBe 0 0 [.ref a, x1] S iv (am_K3 E (d + 1) mX10_troubleOf k n 49 ls st Q)) : am_R E (d + 1) mX10_troubleOf k n 49 ls (x1 :: .ref a :: st) S iv Q := am_cV (ci := 10) (M' := mX10_canBe) (as := [x1]) dX10_troubleOf_49 rfl rfl rfl wq_1021 wq_1022 wq_1023 wq_808 wq_1019 hy_X10_canBe (by decide) ha hst (by omega) (by omega) hM
theorem sX10_troubleOf_49_k {ls : List Value} {x1 : Value} {k' n' : Nat} {a : Nat} (ha : S.1 a = some (.inl 10)) (hst : (st.map fun v => v.category).sum ≤ 8) (hM : am_M E d mX10_canBe k' n' [.ref a, x1] S iv (am_K3 E (d + 1) mX10_troubleOf k n 49 ls st Q)) : am_R E (d + 1) mX10_troubleOf (k' + k) (n' + n) 49 ls (x1 :: .ref a :: st) S iv Q := am_cV (ci := 10) (M' := mX10_canBe) (as := [x1]) dX10_troubleOf_49 rfl rfl rfl wq_1021 wq_1022 wq_1023 wq_808 wq_1019 hy_X10_canBe (by decide) ha hst (by omega) (by omega) hM
theorem sX10_troubleOf_52 {ls : List Value} {x : Int32} (kt : x = 0 → am_R E d mX10_troubleOf k n 72 ls st S iv Q) (kf : ¬ x = 0 → am_R E d mX10_troubleOf k n 55 ls st S iv Q) : am_R E d mX10_troubleOf k n 52 ls (.int x :: st) S iv Q := am_if_eq dX10_troubleOf_52 (by decide) kt kf
theorem sX10_troubleOf_55 {a0 a1 : Value} (hv : am_rf a0 = true) (h : am_R E d mX10_troubleOf k n 56 [a0, a1] (a0 :: st) S iv Q) : am_R E d mX10_troubleOf k n 55 [a0, a1] st S iv Q := am_aload_n dX10_troubleOf_55 rfl rfl hv h
theorem sX10_troubleOf_56 {ls : List Value} {a : Nat} (ha : S.1 a = some (.inl 10)) (h : am_R E d mX10_troubleOf k n 59 ls (.int (iv a 32) :: st) S iv Q) : am_R E d mX10_troubleOf k n 56 ls (.ref a :: st) S iv Q := am_getI (ci := 10) dX10_troubleOf_56 rfl rfl (by decide) wq_975 uq_10 rfl ha h
theorem sX10_troubleOf_59 {a0 a1 : Value} (h : am_R E d mX10_troubleOf k n 61 [a0, a1] (.int 100 :: st) S iv Q) : am_R E d mX10_troubleOf k n 59 [a0, a1] st S iv Q := am_bipush dX10_troubleOf_59 (by decide) h
theorem sX10_troubleOf_61 {ls : List Value} {x y : Int32} (kt : ¬ x = y → am_R E d mX10_troubleOf k n 68 ls st S iv Q) (kf : x = y → am_R E d mX10_troubleOf k n 64 ls st S iv Q) : am_R E d mX10_troubleOf k n 61 ls (.int y :: .int x :: st) S iv Q := am_icmp_ne dX10_troubleOf_61 (by decide) kt kf
theorem sX10_troubleOf_64 {a0 a1 : Value} (h : am_R E d mX10_troubleOf k n 65 [a0, a1] (.int 5 :: st) S iv Q) : am_R E d mX10_troubleOf k n 64 [a0, a1] st S iv Q := am_iconst dX10_troubleOf_64 (by decide) h
theorem sX10_troubleOf_65 {ls : List Value} (h : am_R E d mX10_troubleOf k n 73 ls st S iv Q) : am_R E d mX10_troubleOf k n 65 ls st S iv Q := am_goto dX10_troubleOf_65 (by decide) h
theorem sX10_troubleOf_68 {a0 a1 : Value} (h : am_R E d mX10_troubleOf k n 69 [a0, a1] (.int 0 :: st) S iv Q) : am_R E d mX10_troubleOf k n 68 [a0, a1] st S iv Q := am_iconst dX10_troubleOf_68 (by decide) h
theorem sX10_troubleOf_69 {ls : List Value} (h : am_R E d mX10_troubleOf k n 73 ls st S iv Q) : am_R E d mX10_troubleOf k n 69 ls st S iv Q := am_goto dX10_troubleOf_69 (by decide) h
theorem sX10_troubleOf_72 {a0 a1 : Value} (h : am_R E d mX10_troubleOf k n 73 [a0, a1] (.int 4 :: st) S iv Q) : am_R E d mX10_troubleOf k n 72 [a0, a1] st S iv Q := am_iconst dX10_troubleOf_72 (by decide) h
theorem sX10_troubleOf_73 {ls : List Value} {x : Int32} (h : Q (.inl (some (.int x))) S iv) : am_R E d mX10_troubleOf k n 73 ls [.int x] S iv Q := am_ireturn dX10_troubleOf_73 rfl h
theorem dX10_move_0 : decode cX10_move 0 = .ok (.aload_n 0, 1) := by decide +kernel
theorem dX10_move_1 : decode cX10_move 1 = .ok (.iconst 0, 1) := by decide +kernel
theorem dX10_move_2 : decode cX10_move 2 = .ok (.putfield 143, 3) := by decide +kernel
theorem dX10_move_5 : decode cX10_move 5 = .ok (.aload_n 0, 1) := by decide +kernel
theorem dX10_move_6 : decode cX10_move 6 = .ok (.iload_n 1, 1) := by decide +kernel
theorem dX10_move_7 : decode cX10_move 7 = .ok (.invokevirtual 366, 3) := by decide +kernel
theorem dX10_move_10 : decode cX10_move 10 = .ok (.istore_n 2, 1) := by decide +kernel
theorem dX10_move_11 : decode cX10_move 11 = .ok (.iload_n 2, 1) := by decide +kernel
theorem dX10_move_12 : decode cX10_move 12 = .ok (.ifCond .eq 15, 3) := by decide +kernel
theorem dX10_move_15 : decode cX10_move 15 = .ok (.aload_n 0, 1) := by decide +kernel
theorem dX10_move_16 : decode cX10_move 16 = .ok (.getfield 80, 3) := by decide +kernel
theorem dX10_move_19 : decode cX10_move 19 = .ok (.iconst 1, 1) := by decide +kernel
theorem dX10_move_20 : decode cX10_move 20 = .ok (.dup2, 1) := by decide +kernel
theorem dX10_move_21 : decode cX10_move 21 = .ok (.iaload, 1) := by decide +kernel
theorem dX10_move_22 : decode cX10_move 22 = .ok (.iconst 1, 1) := by decide +kernel
theorem dX10_move_23 : decode cX10_move 23 = .ok (.iadd, 1) := by decide +kernel
theorem dX10_move_24 : decode cX10_move 24 = .ok (.iastore, 1) := by decide +kernel
theorem dX10_move_25 : decode cX10_move 25 = .ok (.iload_n 2, 1) := by decide +kernel
theorem dX10_move_26 : decode cX10_move 26 = .ok (.ireturn, 1) := by decide +kernel
theorem dX10_move_27 : decode cX10_move 27 = .ok (.aload_n 0, 1) := by decide +kernel
theorem dX10_move_28 : decode cX10_move 28 = .ok (.getfield 93, 3) := by decide +kernel
theorem dX10_move_31 : decode cX10_move 31 = .ok (.aload_n 0, 1) := by decide +kernel
theorem dX10_move_32 : decode cX10_move 32 = .ok (.getfield 314, 3) := by decide +kernel
theorem dX10_move_35 : decode cX10_move 35 = .ok (.iload_n 1, 1) := by decide +kernel
theorem dX10_move_36 : decode cX10_move 36 = .ok (.iastore, 1) := by decide +kernel
theorem dX10_move_37 : decode cX10_move 37 = .ok (.aload_n 0, 1) := by decide +kernel
theorem dX10_move_38 : decode cX10_move 38 = .ok (.getfield 96, 3) := by decide +kernel
theorem dX10_move_41 : decode cX10_move 41 = .ok (.aload_n 0, 1) := by decide +kernel
theorem dX10_move_42 : decode cX10_move 42 = .ok (.getfield 314, 3) := by decide +kernel
theorem dX10_move_45 : decode cX10_move 45 = .ok (.aload_n 0, 1) := by decide +kernel
theorem dX10_move_46 : decode cX10_move 46 = .ok (.getfield 311, 3) := by decide +kernel
theorem dX10_move_49 : decode cX10_move 49 = .ok (.iastore, 1) := by decide +kernel
theorem dX10_move_50 : decode cX10_move 50 = .ok (.aload_n 0, 1) := by decide +kernel
theorem dX10_move_51 : decode cX10_move 51 = .ok (.dup, 1) := by decide +kernel
theorem dX10_move_52 : decode cX10_move 52 = .ok (.getfield 314, 3) := by decide +kernel
theorem dX10_move_55 : decode cX10_move 55 = .ok (.iconst 1, 1) := by decide +kernel
theorem dX10_move_56 : decode cX10_move 56 = .ok (.iadd, 1) := by decide +kernel
theorem dX10_move_57 : decode cX10_move 57 = .ok (.putfield 314, 3) := by decide +kernel
theorem dX10_move_60 : decode cX10_move 60 = .ok (.aload_n 0, 1) := by decide +kernel
theorem dX10_move_61 : decode cX10_move 61 = .ok (.dup, 1) := by decide +kernel
theorem dX10_move_62 : decode cX10_move 62 = .ok (.getfield 306, 3) := by decide +kernel
theorem dX10_move_65 : decode cX10_move 65 = .ok (.iconst 1, 1) := by decide +kernel
theorem dX10_move_66 : decode cX10_move 66 = .ok (.iload_n 1, 1) := by decide +kernel
theorem dX10_move_67 : decode cX10_move 67 = .ok (.ishl, 1) := by decide +kernel
theorem dX10_move_68 : decode cX10_move 68 = .ok (.ixor, 1) := by decide +kernel
theorem dX10_move_69 : decode cX10_move 69 = .ok (.putfield 306, 3) := by decide +kernel
theorem dX10_move_72 : decode cX10_move 72 = .ok (.aload_n 0, 1) := by decide +kernel
theorem dX10_move_73 : decode cX10_move 73 = .ok (.aload_n 0, 1) := by decide +kernel
theorem dX10_move_74 : decode cX10_move 74 = .ok (.aload_n 0, 1) := by decide +kernel
theorem dX10_move_75 : decode cX10_move 75 = .ok (.getfield 311, 3) := by decide +kernel
theorem dX10_move_78 : decode cX10_move 78 = .ok (.aload_n 0, 1) := by decide +kernel
theorem dX10_move_79 : decode cX10_move 79 = .ok (.getfield 306, 3) := by decide +kernel
theorem dX10_move_82 : decode cX10_move 82 = .ok (.invokevirtual 369, 3) := by decide +kernel
theorem dX10_move_85 : decode cX10_move 85 = .ok (.putfield 311, 3) := by decide +kernel
theorem dX10_move_88 : decode cX10_move 88 = .ok (.iconst 0, 1) := by decide +kernel
theorem dX10_move_89 : decode cX10_move 89 = .ok (.ireturn, 1) := by decide +kernel
theorem sX10_move_0 {a0 a1 a2 : Value} (hv : am_rf a0 = true) (h : am_R E d mX10_move k n 1 [a0, a1, a2] (a0 :: st) S iv Q) : am_R E d mX10_move k n 0 [a0, a1, a2] st S iv Q := am_aload_n dX10_move_0 rfl rfl hv h
theorem sX10_move_1 {a0 a1 a2 : Value} (h : am_R E d mX10_move k n 2 [a0, a1, a2] (.int 0 :: st) S iv Q) : am_R E d mX10_move k n 1 [a0, a1, a2] st S iv Q := am_iconst dX10_move_1 (by decide) h
theorem sX10_move_2 {ls : List Value} {a : Nat} {x : Int32} (ha : S.1 a = some (.inl 10)) (h : am_R E d mX10_move k n 5 ls st S (am_w iv a 3 x) Q) : am_R E d mX10_move k n 2 ls (.int x :: .ref a :: st) S iv Q := am_putI (ci := 10) dX10_move_2 rfl rfl (by decide) wq_806 uq_10 tyX10_ok nmX10 (Or.inl rfl) rfl ha h
theorem sX10_move_5 {a0 a1 a2 : Value} (hv : am_rf a0 = true) (h : am_R E d mX10_move k n 6 [a0, a1, a2] (a0 :: st) S iv Q) : am_R E d mX10_move k n 5 [a0, a1, a2] st S iv Q := am_aload_n dX10_move_5 rfl rfl hv h
theorem sX10_move_6 {a0 a2 : Value} {x : Int32} (h : am_R E d mX10_move k n 7 [a0, .int x, a2] (.int x :: st) S iv Q) : am_R E d mX10_move k n 6 [a0, .int x, a2] st S iv Q := am_iload_n dX10_move_6 rfl rfl h
theorem sX10_move_7 {ls : List Value} {x1 : Value} {a : Nat} (ha : S.1 a = some (.inl 10)) (hst : (st.map fun v => v.category).sum ≤ 8) (hM : am_M E d mX10_troubleOf 0 0 [.ref a, x1] S iv (am_K3 E (d + 1) mX10_move k n 7 ls st Q)) : am_R E (d + 1) mX10_move k n 7 ls (x1 :: .ref a :: st) S iv Q := am_cV (ci := 10) (M' := mX10_troubleOf) (as := [x1]) dX10_move_7 rfl rfl rfl wq_1046 wq_1047 wq_1048 wq_808 wq_1044 hy_X10_troubleOf (by decide) ha hst (by omega) (by omega) hM
theorem sX10_move_7_k {ls : List Value} {x1 : Value} {k' n' : Nat} {a : Nat} (ha : S.1 a = some (.inl 10)) (hst : (st.map fun v => v.category).sum ≤ 8) (hM : am_M E d mX10_troubleOf k' n' [.ref a, x1] S iv (am_K3 E (d + 1) mX10_move k n 7 ls st Q)) : am_R E (d + 1) mX10_move (k' + k) (n' + n) 7 ls (x1 :: .ref a :: st) S iv Q := am_cV (ci := 10) (M' := mX10_troubleOf) (as := [x1]) dX10_move_7 rfl rfl rfl wq_1046 wq_1047 wq_1048 wq_808 wq_1044 hy_X10_troubleOf (by decide) ha hst (by omega) (by omega) hM
theorem sX10_move_10 {a0 a1 a2 : Value} {x : Int32} (h : am_R E d mX10_move k n 11 [a0, a1, .int x] st S iv Q) : am_R E d mX10_move k n 10 [a0, a1, a2] (.int x :: st) S iv Q := am_istore_n dX10_move_10 rfl (by decide) h
theorem sX10_move_11 {a0 a1 : Value} {x : Int32} (h : am_R E d mX10_move k n 12 [a0, a1, .int x] (.int x :: st) S iv Q) : am_R E d mX10_move k n 11 [a0, a1, .int x] st S iv Q := am_iload_n dX10_move_11 rfl rfl h
theorem sX10_move_12 {ls : List Value} {x : Int32} (kt : x = 0 → am_R E d mX10_move k n 27 ls st S iv Q) (kf : ¬ x = 0 → am_R E d mX10_move k n 15 ls st S iv Q) : am_R E d mX10_move k n 12 ls (.int x :: st) S iv Q := am_if_eq dX10_move_12 (by decide) kt kf
theorem sX10_move_15 {a0 a1 a2 : Value} (hv : am_rf a0 = true) (h : am_R E d mX10_move k n 16 [a0, a1, a2] (a0 :: st) S iv Q) : am_R E d mX10_move k n 15 [a0, a1, a2] st S iv Q := am_aload_n dX10_move_15 rfl rfl hv h
theorem sX10_move_16 {ls : List Value} {a b : Nat} (ha : S.1 a = some (.inl 10)) (hb : S.2.1 a 16 = some b) (h : am_R E d mX10_move k n 19 ls (.ref b :: st) S iv Q) : am_R E d mX10_move k n 16 ls (.ref a :: st) S iv Q := am_getR (ci := 10) dX10_move_16 rfl rfl (by decide) wq_784 uq_10 rfl ha hb h
theorem sX10_move_19 {a0 a1 a2 : Value} (h : am_R E d mX10_move k n 20 [a0, a1, a2] (.int 1 :: st) S iv Q) : am_R E d mX10_move k n 19 [a0, a1, a2] st S iv Q := am_iconst dX10_move_19 (by decide) h
theorem sX10_move_20 {ls : List Value} {x y : Value} (hv : x.category = 1) (hu : y.category = 1) (h : am_R E d mX10_move k n 21 ls (x :: y :: x :: y :: st) S iv Q) : am_R E d mX10_move k n 20 ls (x :: y :: st) S iv Q := am_dup2 dX10_move_20 hv hu h
theorem sX10_move_21 {ls : List Value} {a m : Nat} {i : Int32} (ha : S.1 a = some (.inr (.int, m))) (hi : vp_in i m) (h : am_R E d mX10_move k n 22 ls (.int (iv a i.toNatClampNeg) :: st) S iv Q) : am_R E d mX10_move k n 21 ls (.int i :: .ref a :: st) S iv Q := am_iaload dX10_move_21 ha hi h
theorem sX10_move_22 {a0 a1 a2 : Value} (h : am_R E d mX10_move k n 23 [a0, a1, a2] (.int 1 :: st) S iv Q) : am_R E d mX10_move k n 22 [a0, a1, a2] st S iv Q := am_iconst dX10_move_22 (by decide) h
theorem sX10_move_23 {ls : List Value} {x y : Int32} (h : am_R E d mX10_move k n 24 ls (.int (x + y) :: st) S iv Q) : am_R E d mX10_move k n 23 ls (.int y :: .int x :: st) S iv Q := am_iadd dX10_move_23 h
theorem sX10_move_24 {ls : List Value} {a m : Nat} {i x : Int32} (ha : S.1 a = some (.inr (.int, m))) (hi : vp_in i m) (h : am_R E d mX10_move k n 25 ls st S (am_w iv a i.toNatClampNeg x) Q) : am_R E d mX10_move k n 24 ls (.int x :: .int i :: .ref a :: st) S iv Q := am_iastore dX10_move_24 ha hi h
theorem sX10_move_25 {a0 a1 : Value} {x : Int32} (h : am_R E d mX10_move k n 26 [a0, a1, .int x] (.int x :: st) S iv Q) : am_R E d mX10_move k n 25 [a0, a1, .int x] st S iv Q := am_iload_n dX10_move_25 rfl rfl h
theorem sX10_move_26 {ls : List Value} {x : Int32} (h : Q (.inl (some (.int x))) S iv) : am_R E d mX10_move k n 26 ls [.int x] S iv Q := am_ireturn dX10_move_26 rfl h
theorem sX10_move_27 {a0 a1 a2 : Value} (hv : am_rf a0 = true) (h : am_R E d mX10_move k n 28 [a0, a1, a2] (a0 :: st) S iv Q) : am_R E d mX10_move k n 27 [a0, a1, a2] st S iv Q := am_aload_n dX10_move_27 rfl rfl hv h
theorem sX10_move_28 {ls : List Value} {a b : Nat} (ha : S.1 a = some (.inl 10)) (hb : S.2.1 a 34 = some b) (h : am_R E d mX10_move k n 31 ls (.ref b :: st) S iv Q) : am_R E d mX10_move k n 28 ls (.ref a :: st) S iv Q := am_getR (ci := 10) dX10_move_28 rfl rfl (by decide) wq_788 uq_10 rfl ha hb h
theorem sX10_move_31 {a0 a1 a2 : Value} (hv : am_rf a0 = true) (h : am_R E d mX10_move k n 32 [a0, a1, a2] (a0 :: st) S iv Q) : am_R E d mX10_move k n 31 [a0, a1, a2] st S iv Q := am_aload_n dX10_move_31 rfl rfl hv h
theorem sX10_move_32 {ls : List Value} {a : Nat} (ha : S.1 a = some (.inl 10)) (h : am_R E d mX10_move k n 35 ls (.int (iv a 32) :: st) S iv Q) : am_R E d mX10_move k n 32 ls (.ref a :: st) S iv Q := am_getI (ci := 10) dX10_move_32 rfl rfl (by decide) wq_975 uq_10 rfl ha h
theorem sX10_move_35 {a0 a2 : Value} {x : Int32} (h : am_R E d mX10_move k n 36 [a0, .int x, a2] (.int x :: st) S iv Q) : am_R E d mX10_move k n 35 [a0, .int x, a2] st S iv Q := am_iload_n dX10_move_35 rfl rfl h
theorem sX10_move_36 {ls : List Value} {a m : Nat} {i x : Int32} (ha : S.1 a = some (.inr (.int, m))) (hi : vp_in i m) (h : am_R E d mX10_move k n 37 ls st S (am_w iv a i.toNatClampNeg x) Q) : am_R E d mX10_move k n 36 ls (.int x :: .int i :: .ref a :: st) S iv Q := am_iastore dX10_move_36 ha hi h
theorem sX10_move_37 {a0 a1 a2 : Value} (hv : am_rf a0 = true) (h : am_R E d mX10_move k n 38 [a0, a1, a2] (a0 :: st) S iv Q) : am_R E d mX10_move k n 37 [a0, a1, a2] st S iv Q := am_aload_n dX10_move_37 rfl rfl hv h
theorem sX10_move_38 {ls : List Value} {a b : Nat} (ha : S.1 a = some (.inl 10)) (hb : S.2.1 a 35 = some b) (h : am_R E d mX10_move k n 41 ls (.ref b :: st) S iv Q) : am_R E d mX10_move k n 38 ls (.ref a :: st) S iv Q := am_getR (ci := 10) dX10_move_38 rfl rfl (by decide) wq_789 uq_10 rfl ha hb h
theorem sX10_move_41 {a0 a1 a2 : Value} (hv : am_rf a0 = true) (h : am_R E d mX10_move k n 42 [a0, a1, a2] (a0 :: st) S iv Q) : am_R E d mX10_move k n 41 [a0, a1, a2] st S iv Q := am_aload_n dX10_move_41 rfl rfl hv h
theorem sX10_move_42 {ls : List Value} {a : Nat} (ha : S.1 a = some (.inl 10)) (h : am_R E d mX10_move k n 45 ls (.int (iv a 32) :: st) S iv Q) : am_R E d mX10_move k n 42 ls (.ref a :: st) S iv Q := am_getI (ci := 10) dX10_move_42 rfl rfl (by decide) wq_975 uq_10 rfl ha h
theorem sX10_move_45 {a0 a1 a2 : Value} (hv : am_rf a0 = true) (h : am_R E d mX10_move k n 46 [a0, a1, a2] (a0 :: st) S iv Q) : am_R E d mX10_move k n 45 [a0, a1, a2] st S iv Q := am_aload_n dX10_move_45 rfl rfl hv h
theorem sX10_move_46 {ls : List Value} {a : Nat} (ha : S.1 a = some (.inl 10)) (h : am_R E d mX10_move k n 49 ls (.int (iv a 31) :: st) S iv Q) : am_R E d mX10_move k n 46 ls (.ref a :: st) S iv Q := am_getI (ci := 10) dX10_move_46 rfl rfl (by decide) wq_974 uq_10 rfl ha h
theorem sX10_move_49 {ls : List Value} {a m : Nat} {i x : Int32} (ha : S.1 a = some (.inr (.int, m))) (hi : vp_in i m) (h : am_R E d mX10_move k n 50 ls st S (am_w iv a i.toNatClampNeg x) Q) : am_R E d mX10_move k n 49 ls (.int x :: .int i :: .ref a :: st) S iv Q := am_iastore dX10_move_49 ha hi h
theorem sX10_move_50 {a0 a1 a2 : Value} (hv : am_rf a0 = true) (h : am_R E d mX10_move k n 51 [a0, a1, a2] (a0 :: st) S iv Q) : am_R E d mX10_move k n 50 [a0, a1, a2] st S iv Q := am_aload_n dX10_move_50 rfl rfl hv h
theorem sX10_move_51 {ls : List Value} {x : Value} (hv : x.category = 1) (h : am_R E d mX10_move k n 52 ls (x :: x :: st) S iv Q) : am_R E d mX10_move k n 51 ls (x :: st) S iv Q := am_dup dX10_move_51 hv h
theorem sX10_move_52 {ls : List Value} {a : Nat} (ha : S.1 a = some (.inl 10)) (h : am_R E d mX10_move k n 55 ls (.int (iv a 32) :: st) S iv Q) : am_R E d mX10_move k n 52 ls (.ref a :: st) S iv Q := am_getI (ci := 10) dX10_move_52 rfl rfl (by decide) wq_975 uq_10 rfl ha h
theorem sX10_move_55 {a0 a1 a2 : Value} (h : am_R E d mX10_move k n 56 [a0, a1, a2] (.int 1 :: st) S iv Q) : am_R E d mX10_move k n 55 [a0, a1, a2] st S iv Q := am_iconst dX10_move_55 (by decide) h
theorem sX10_move_56 {ls : List Value} {x y : Int32} (h : am_R E d mX10_move k n 57 ls (.int (x + y) :: st) S iv Q) : am_R E d mX10_move k n 56 ls (.int y :: .int x :: st) S iv Q := am_iadd dX10_move_56 h
theorem sX10_move_57 {ls : List Value} {a : Nat} {x : Int32} (ha : S.1 a = some (.inl 10)) (h : am_R E d mX10_move k n 60 ls st S (am_w iv a 32 x) Q) : am_R E d mX10_move k n 57 ls (.int x :: .ref a :: st) S iv Q := am_putI (ci := 10) dX10_move_57 rfl rfl (by decide) wq_975 uq_10 tyX10_ok nmX10 (Or.inl rfl) rfl ha h
theorem sX10_move_60 {a0 a1 a2 : Value} (hv : am_rf a0 = true) (h : am_R E d mX10_move k n 61 [a0, a1, a2] (a0 :: st) S iv Q) : am_R E d mX10_move k n 60 [a0, a1, a2] st S iv Q := am_aload_n dX10_move_60 rfl rfl hv h
theorem sX10_move_61 {ls : List Value} {x : Value} (hv : x.category = 1) (h : am_R E d mX10_move k n 62 ls (x :: x :: st) S iv Q) : am_R E d mX10_move k n 61 ls (x :: st) S iv Q := am_dup dX10_move_61 hv h
theorem sX10_move_62 {ls : List Value} {a : Nat} (ha : S.1 a = some (.inl 10)) (h : am_R E d mX10_move k n 65 ls (.int (iv a 29) :: st) S iv Q) : am_R E d mX10_move k n 62 ls (.ref a :: st) S iv Q := am_getI (ci := 10) dX10_move_62 rfl rfl (by decide) wq_972 uq_10 rfl ha h
theorem sX10_move_65 {a0 a1 a2 : Value} (h : am_R E d mX10_move k n 66 [a0, a1, a2] (.int 1 :: st) S iv Q) : am_R E d mX10_move k n 65 [a0, a1, a2] st S iv Q := am_iconst dX10_move_65 (by decide) h
theorem sX10_move_66 {a0 a2 : Value} {x : Int32} (h : am_R E d mX10_move k n 67 [a0, .int x, a2] (.int x :: st) S iv Q) : am_R E d mX10_move k n 66 [a0, .int x, a2] st S iv Q := am_iload_n dX10_move_66 rfl rfl h
theorem sX10_move_67 {ls : List Value} {x y : Int32} (h : am_R E d mX10_move k n 68 ls (.int (x <<< (y &&& 31)) :: st) S iv Q) : am_R E d mX10_move k n 67 ls (.int y :: .int x :: st) S iv Q := am_ishl dX10_move_67 h
theorem sX10_move_68 {ls : List Value} {x y : Int32} (h : am_R E d mX10_move k n 69 ls (.int (x ^^^ y) :: st) S iv Q) : am_R E d mX10_move k n 68 ls (.int y :: .int x :: st) S iv Q := am_ixor dX10_move_68 h
theorem sX10_move_69 {ls : List Value} {a : Nat} {x : Int32} (ha : S.1 a = some (.inl 10)) (h : am_R E d mX10_move k n 72 ls st S (am_w iv a 29 x) Q) : am_R E d mX10_move k n 69 ls (.int x :: .ref a :: st) S iv Q := am_putI (ci := 10) dX10_move_69 rfl rfl (by decide) wq_972 uq_10 tyX10_ok nmX10 (Or.inl rfl) rfl ha h
theorem sX10_move_72 {a0 a1 a2 : Value} (hv : am_rf a0 = true) (h : am_R E d mX10_move k n 73 [a0, a1, a2] (a0 :: st) S iv Q) : am_R E d mX10_move k n 72 [a0, a1, a2] st S iv Q := am_aload_n dX10_move_72 rfl rfl hv h
theorem sX10_move_73 {a0 a1 a2 : Value} (hv : am_rf a0 = true) (h : am_R E d mX10_move k n 74 [a0, a1, a2] (a0 :: st) S iv Q) : am_R E d mX10_move k n 73 [a0, a1, a2] st S iv Q := am_aload_n dX10_move_73 rfl rfl hv h
theorem sX10_move_74 {a0 a1 a2 : Value} (hv : am_rf a0 = true) (h : am_R E d mX10_move k n 75 [a0, a1, a2] (a0 :: st) S iv Q) : am_R E d mX10_move k n 74 [a0, a1, a2] st S iv Q := am_aload_n dX10_move_74 rfl rfl hv h
theorem sX10_move_75 {ls : List Value} {a : Nat} (ha : S.1 a = some (.inl 10)) (h : am_R E d mX10_move k n 78 ls (.int (iv a 31) :: st) S iv Q) : am_R E d mX10_move k n 75 ls (.ref a :: st) S iv Q := am_getI (ci := 10) dX10_move_75 rfl rfl (by decide) wq_974 uq_10 rfl ha h
theorem sX10_move_78 {a0 a1 a2 : Value} (hv : am_rf a0 = true) (h : am_R E d mX10_move k n 79 [a0, a1, a2] (a0 :: st) S iv Q) : am_R E d mX10_move k n 78 [a0, a1, a2] st S iv Q := am_aload_n dX10_move_78 rfl rfl hv h
theorem sX10_move_79 {ls : List Value} {a : Nat} (ha : S.1 a = some (.inl 10)) (h : am_R E d mX10_move k n 82 ls (.int (iv a 29) :: st) S iv Q) : am_R E d mX10_move k n 79 ls (.ref a :: st) S iv Q := am_getI (ci := 10) dX10_move_79 rfl rfl (by decide) wq_972 uq_10 rfl ha h
theorem sX10_move_82 {ls : List Value} {x1 x2 : Value} {a : Nat} (ha : S.1 a = some (.inl 10)) (hst : (st.map fun v => v.category).sum ≤ 8) (hM : am_M E d mX10_feedBy 0 0 [.ref a, x1, x2] S iv (am_K3 E (d + 1) mX10_move k n 82 ls st Q)) : am_R E (d + 1) mX10_move k n 82 ls (x2 :: x1 :: .ref a :: st) S iv Q := am_cV (ci := 10) (M' := mX10_feedBy) (as := [x1, x2]) dX10_move_82 rfl rfl rfl wq_1051 wq_1052 wq_1053 wq_808 wq_1049 hy_X10_feedBy (by decide) ha hst (by omega) (by omega) hM
theorem sX10_move_82_k {ls : List Value} {x1 x2 : Value} {k' n' : Nat} {a : Nat} (ha : S.1 a = some (.inl 10)) (hst : (st.map fun v => v.category).sum ≤ 8) (hM : am_M E d mX10_feedBy k' n' [.ref a, x1, x2] S iv (am_K3 E (d + 1) mX10_move k n 82 ls st Q)) : am_R E (d + 1) mX10_move (k' + k) (n' + n) 82 ls (x2 :: x1 :: .ref a :: st) S iv Q := am_cV (ci := 10) (M' := mX10_feedBy) (as := [x1, x2]) dX10_move_82 rfl rfl rfl wq_1051 wq_1052 wq_1053 wq_808 wq_1049 hy_X10_feedBy (by decide) ha hst (by omega) (by omega) hM
theorem sX10_move_85 {ls : List Value} {a : Nat} {x : Int32} (ha : S.1 a = some (.inl 10)) (h : am_R E d mX10_move k n 88 ls st S (am_w iv a 31 x) Q) : am_R E d mX10_move k n 85 ls (.int x :: .ref a :: st) S iv Q := am_putI (ci := 10) dX10_move_85 rfl rfl (by decide) wq_974 uq_10 tyX10_ok nmX10 (Or.inl rfl) rfl ha h
theorem sX10_move_88 {a0 a1 a2 : Value} (h : am_R E d mX10_move k n 89 [a0, a1, a2] (.int 0 :: st) S iv Q) : am_R E d mX10_move k n 88 [a0, a1, a2] st S iv Q := am_iconst dX10_move_88 (by decide) h
theorem sX10_move_89 {ls : List Value} {x : Int32} (h : Q (.inl (some (.int x))) S iv) : am_R E d mX10_move k n 89 ls [.int x] S iv Q := am_ireturn dX10_move_89 rfl h
theorem dX10_undo_0 : decode cX10_undo 0 = .ok (.aload_n 0, 1) := by decide +kernel
theorem dX10_undo_1 : decode cX10_undo 1 = .ok (.iconst 0, 1) := by decide +kernel
theorem dX10_undo_2 : decode cX10_undo 2 = .ok (.putfield 143, 3) := by decide +kernel
theorem dX10_undo_5 : decode cX10_undo 5 = .ok (.aload_n 0, 1) := by decide +kernel
theorem dX10_undo_6 : decode cX10_undo 6 = .ok (.getfield 314, 3) := by decide +kernel
theorem dX10_undo_9 : decode cX10_undo 9 = .ok (.ifCond .ne 5, 3) := by decide +kernel
theorem dX10_undo_12 : decode cX10_undo 12 = .ok (.iconst (-1), 1) := by decide +kernel
theorem dX10_undo_13 : decode cX10_undo 13 = .ok (.ireturn, 1) := by decide +kernel
theorem dX10_undo_14 : decode cX10_undo 14 = .ok (.aload_n 0, 1) := by decide +kernel
theorem dX10_undo_15 : decode cX10_undo 15 = .ok (.dup, 1) := by decide +kernel
theorem dX10_undo_16 : decode cX10_undo 16 = .ok (.getfield 314, 3) := by decide +kernel
theorem dX10_undo_19 : decode cX10_undo 19 = .ok (.iconst 1, 1) := by decide +kernel
theorem dX10_undo_20 : decode cX10_undo 20 = .ok (.isub, 1) := by decide +kernel
theorem dX10_undo_21 : decode cX10_undo 21 = .ok (.putfield 314, 3) := by decide +kernel
theorem dX10_undo_24 : decode cX10_undo 24 = .ok (.aload_n 0, 1) := by decide +kernel
theorem dX10_undo_25 : decode cX10_undo 25 = .ok (.dup, 1) := by decide +kernel
theorem dX10_undo_26 : decode cX10_undo 26 = .ok (.getfield 306, 3) := by decide +kernel
theorem dX10_undo_29 : decode cX10_undo 29 = .ok (.iconst 1, 1) := by decide +kernel
theorem dX10_undo_30 : decode cX10_undo 30 = .ok (.aload_n 0, 1) := by decide +kernel
theorem dX10_undo_31 : decode cX10_undo 31 = .ok (.getfield 93, 3) := by decide +kernel
theorem dX10_undo_34 : decode cX10_undo 34 = .ok (.aload_n 0, 1) := by decide +kernel
theorem dX10_undo_35 : decode cX10_undo 35 = .ok (.getfield 314, 3) := by decide +kernel
theorem dX10_undo_38 : decode cX10_undo 38 = .ok (.iaload, 1) := by decide +kernel
theorem dX10_undo_39 : decode cX10_undo 39 = .ok (.ishl, 1) := by decide +kernel
theorem dX10_undo_40 : decode cX10_undo 40 = .ok (.ixor, 1) := by decide +kernel
theorem dX10_undo_41 : decode cX10_undo 41 = .ok (.putfield 306, 3) := by decide +kernel
theorem dX10_undo_44 : decode cX10_undo 44 = .ok (.aload_n 0, 1) := by decide +kernel
theorem dX10_undo_45 : decode cX10_undo 45 = .ok (.aload_n 0, 1) := by decide +kernel
theorem dX10_undo_46 : decode cX10_undo 46 = .ok (.getfield 96, 3) := by decide +kernel
theorem dX10_undo_49 : decode cX10_undo 49 = .ok (.aload_n 0, 1) := by decide +kernel
theorem dX10_undo_50 : decode cX10_undo 50 = .ok (.getfield 314, 3) := by decide +kernel
theorem dX10_undo_53 : decode cX10_undo 53 = .ok (.iaload, 1) := by decide +kernel
theorem dX10_undo_54 : decode cX10_undo 54 = .ok (.putfield 311, 3) := by decide +kernel
theorem dX10_undo_57 : decode cX10_undo 57 = .ok (.aload_n 0, 1) := by decide +kernel
theorem dX10_undo_58 : decode cX10_undo 58 = .ok (.getfield 314, 3) := by decide +kernel
theorem dX10_undo_61 : decode cX10_undo 61 = .ok (.ireturn, 1) := by decide +kernel
theorem sX10_undo_0 {a0 : Value} (hv : am_rf a0 = true) (h : am_R E d mX10_undo k n 1 [a0] (a0 :: st) S iv Q) : am_R E d mX10_undo k n 0 [a0] st S iv Q := am_aload_n dX10_undo_0 rfl rfl hv h
theorem sX10_undo_1 {a0 : Value} (h : am_R E d mX10_undo k n 2 [a0] (.int 0 :: st) S iv Q) : am_R E d mX10_undo k n 1 [a0] st S iv Q := am_iconst dX10_undo_1 (by decide) h
theorem sX10_undo_2 {ls : List Value} {a : Nat} {x : Int32} (ha : S.1 a = some (.inl 10)) (h : am_R E d mX10_undo k n 5 ls st S (am_w iv a 3 x) Q) : am_R E d mX10_undo k n 2 ls (.int x :: .ref a :: st) S iv Q := am_putI (ci := 10) dX10_undo_2 rfl rfl (by decide) wq_806 uq_10 tyX10_ok nmX10 (Or.inl rfl) rfl ha h
theorem sX10_undo_5 {a0 : Value} (hv : am_rf a0 = true) (h : am_R E d mX10_undo k n 6 [a0] (a0 :: st) S iv Q) : am_R E d mX10_undo k n 5 [a0] st S iv Q := am_aload_n dX10_undo_5 rfl rfl hv h
theorem sX10_undo_6 {ls : List Value} {a : Nat} (ha : S.1 a = some (.inl 10)) (h : am_R E d mX10_undo k n 9 ls (.int (iv a 32) :: st) S iv Q) : am_R E d mX10_undo k n 6 ls (.ref a :: st) S iv Q := am_getI (ci := 10) dX10_undo_6 rfl rfl (by decide) wq_975 uq_10 rfl ha h
theorem sX10_undo_9 {ls : List Value} {x : Int32} (kt : ¬ x = 0 → am_R E d mX10_undo k n 14 ls st S iv Q) (kf : x = 0 → am_R E d mX10_undo k n 12 ls st S iv Q) : am_R E d mX10_undo k n 9 ls (.int x :: st) S iv Q := am_if_ne dX10_undo_9 (by decide) kt kf
theorem sX10_undo_12 {a0 : Value} (h : am_R E d mX10_undo k n 13 [a0] (.int (-1) :: st) S iv Q) : am_R E d mX10_undo k n 12 [a0] st S iv Q := am_iconst dX10_undo_12 (by decide) h
theorem sX10_undo_13 {ls : List Value} {x : Int32} (h : Q (.inl (some (.int x))) S iv) : am_R E d mX10_undo k n 13 ls [.int x] S iv Q := am_ireturn dX10_undo_13 rfl h
theorem sX10_undo_14 {a0 : Value} (hv : am_rf a0 = true) (h : am_R E d mX10_undo k n 15 [a0] (a0 :: st) S iv Q) : am_R E d mX10_undo k n 14 [a0] st S iv Q := am_aload_n dX10_undo_14 rfl rfl hv h
theorem sX10_undo_15 {ls : List Value} {x : Value} (hv : x.category = 1) (h : am_R E d mX10_undo k n 16 ls (x :: x :: st) S iv Q) : am_R E d mX10_undo k n 15 ls (x :: st) S iv Q := am_dup dX10_undo_15 hv h
theorem sX10_undo_16 {ls : List Value} {a : Nat} (ha : S.1 a = some (.inl 10)) (h : am_R E d mX10_undo k n 19 ls (.int (iv a 32) :: st) S iv Q) : am_R E d mX10_undo k n 16 ls (.ref a :: st) S iv Q := am_getI (ci := 10) dX10_undo_16 rfl rfl (by decide) wq_975 uq_10 rfl ha h
theorem sX10_undo_19 {a0 : Value} (h : am_R E d mX10_undo k n 20 [a0] (.int 1 :: st) S iv Q) : am_R E d mX10_undo k n 19 [a0] st S iv Q := am_iconst dX10_undo_19 (by decide) h
theorem sX10_undo_20 {ls : List Value} {x y : Int32} (h : am_R E d mX10_undo k n 21 ls (.int (x - y) :: st) S iv Q) : am_R E d mX10_undo k n 20 ls (.int y :: .int x :: st) S iv Q := am_isub dX10_undo_20 h
theorem sX10_undo_21 {ls : List Value} {a : Nat} {x : Int32} (ha : S.1 a = some (.inl 10)) (h : am_R E d mX10_undo k n 24 ls st S (am_w iv a 32 x) Q) : am_R E d mX10_undo k n 21 ls (.int x :: .ref a :: st) S iv Q := am_putI (ci := 10) dX10_undo_21 rfl rfl (by decide) wq_975 uq_10 tyX10_ok nmX10 (Or.inl rfl) rfl ha h
theorem sX10_undo_24 {a0 : Value} (hv : am_rf a0 = true) (h : am_R E d mX10_undo k n 25 [a0] (a0 :: st) S iv Q) : am_R E d mX10_undo k n 24 [a0] st S iv Q := am_aload_n dX10_undo_24 rfl rfl hv h
theorem sX10_undo_25 {ls : List Value} {x : Value} (hv : x.category = 1) (h : am_R E d mX10_undo k n 26 ls (x :: x :: st) S iv Q) : am_R E d mX10_undo k n 25 ls (x :: st) S iv Q := am_dup dX10_undo_25 hv h
theorem sX10_undo_26 {ls : List Value} {a : Nat} (ha : S.1 a = some (.inl 10)) (h : am_R E d mX10_undo k n 29 ls (.int (iv a 29) :: st) S iv Q) : am_R E d mX10_undo k n 26 ls (.ref a :: st) S iv Q := am_getI (ci := 10) dX10_undo_26 rfl rfl (by decide) wq_972 uq_10 rfl ha h
theorem sX10_undo_29 {a0 : Value} (h : am_R E d mX10_undo k n 30 [a0] (.int 1 :: st) S iv Q) : am_R E d mX10_undo k n 29 [a0] st S iv Q := am_iconst dX10_undo_29 (by decide) h
theorem sX10_undo_30 {a0 : Value} (hv : am_rf a0 = true) (h : am_R E d mX10_undo k n 31 [a0] (a0 :: st) S iv Q) : am_R E d mX10_undo k n 30 [a0] st S iv Q := am_aload_n dX10_undo_30 rfl rfl hv h
theorem sX10_undo_31 {ls : List Value} {a b : Nat} (ha : S.1 a = some (.inl 10)) (hb : S.2.1 a 34 = some b) (h : am_R E d mX10_undo k n 34 ls (.ref b :: st) S iv Q) : am_R E d mX10_undo k n 31 ls (.ref a :: st) S iv Q := am_getR (ci := 10) dX10_undo_31 rfl rfl (by decide) wq_788 uq_10 rfl ha hb h
theorem sX10_undo_34 {a0 : Value} (hv : am_rf a0 = true) (h : am_R E d mX10_undo k n 35 [a0] (a0 :: st) S iv Q) : am_R E d mX10_undo k n 34 [a0] st S iv Q := am_aload_n dX10_undo_34 rfl rfl hv h
theorem sX10_undo_35 {ls : List Value} {a : Nat} (ha : S.1 a = some (.inl 10)) (h : am_R E d mX10_undo k n 38 ls (.int (iv a 32) :: st) S iv Q) : am_R E d mX10_undo k n 35 ls (.ref a :: st) S iv Q := am_getI (ci := 10) dX10_undo_35 rfl rfl (by decide) wq_975 uq_10 rfl ha h
theorem sX10_undo_38 {ls : List Value} {a m : Nat} {i : Int32} (ha : S.1 a = some (.inr (.int, m))) (hi : vp_in i m) (h : am_R E d mX10_undo k n 39 ls (.int (iv a i.toNatClampNeg) :: st) S iv Q) : am_R E d mX10_undo k n 38 ls (.int i :: .ref a :: st) S iv Q := am_iaload dX10_undo_38 ha hi h
theorem sX10_undo_39 {ls : List Value} {x y : Int32} (h : am_R E d mX10_undo k n 40 ls (.int (x <<< (y &&& 31)) :: st) S iv Q) : am_R E d mX10_undo k n 39 ls (.int y :: .int x :: st) S iv Q := am_ishl dX10_undo_39 h
theorem sX10_undo_40 {ls : List Value} {x y : Int32} (h : am_R E d mX10_undo k n 41 ls (.int (x ^^^ y) :: st) S iv Q) : am_R E d mX10_undo k n 40 ls (.int y :: .int x :: st) S iv Q := am_ixor dX10_undo_40 h
theorem sX10_undo_41 {ls : List Value} {a : Nat} {x : Int32} (ha : S.1 a = some (.inl 10)) (h : am_R E d mX10_undo k n 44 ls st S (am_w iv a 29 x) Q) : am_R E d mX10_undo k n 41 ls (.int x :: .ref a :: st) S iv Q := am_putI (ci := 10) dX10_undo_41 rfl rfl (by decide) wq_972 uq_10 tyX10_ok nmX10 (Or.inl rfl) rfl ha h
theorem sX10_undo_44 {a0 : Value} (hv : am_rf a0 = true) (h : am_R E d mX10_undo k n 45 [a0] (a0 :: st) S iv Q) : am_R E d mX10_undo k n 44 [a0] st S iv Q := am_aload_n dX10_undo_44 rfl rfl hv h
theorem sX10_undo_45 {a0 : Value} (hv : am_rf a0 = true) (h : am_R E d mX10_undo k n 46 [a0] (a0 :: st) S iv Q) : am_R E d mX10_undo k n 45 [a0] st S iv Q := am_aload_n dX10_undo_45 rfl rfl hv h
theorem sX10_undo_46 {ls : List Value} {a b : Nat} (ha : S.1 a = some (.inl 10)) (hb : S.2.1 a 35 = some b) (h : am_R E d mX10_undo k n 49 ls (.ref b :: st) S iv Q) : am_R E d mX10_undo k n 46 ls (.ref a :: st) S iv Q := am_getR (ci := 10) dX10_undo_46 rfl rfl (by decide) wq_789 uq_10 rfl ha hb h
theorem sX10_undo_49 {a0 : Value} (hv : am_rf a0 = true) (h : am_R E d mX10_undo k n 50 [a0] (a0 :: st) S iv Q) : am_R E d mX10_undo k n 49 [a0] st S iv Q := am_aload_n dX10_undo_49 rfl rfl hv h
theorem sX10_undo_50 {ls : List Value} {a : Nat} (ha : S.1 a = some (.inl 10)) (h : am_R E d mX10_undo k n 53 ls (.int (iv a 32) :: st) S iv Q) : am_R E d mX10_undo k n 50 ls (.ref a :: st) S iv Q := am_getI (ci := 10) dX10_undo_50 rfl rfl (by decide) wq_975 uq_10 rfl ha h
theorem sX10_undo_53 {ls : List Value} {a m : Nat} {i : Int32} (ha : S.1 a = some (.inr (.int, m))) (hi : vp_in i m) (h : am_R E d mX10_undo k n 54 ls (.int (iv a i.toNatClampNeg) :: st) S iv Q) : am_R E d mX10_undo k n 53 ls (.int i :: .ref a :: st) S iv Q := am_iaload dX10_undo_53 ha hi h
theorem sX10_undo_54 {ls : List Value} {a : Nat} {x : Int32} (ha : S.1 a = some (.inl 10)) (h : am_R E d mX10_undo k n 57 ls st S (am_w iv a 31 x) Q) : am_R E d mX10_undo k n 54 ls (.int x :: .ref a :: st) S iv Q := am_putI (ci := 10) dX10_undo_54 rfl rfl (by decide) wq_974 uq_10 tyX10_ok nmX10 (Or.inl rfl) rfl ha h
theorem sX10_undo_57 {a0 : Value} (hv : am_rf a0 = true) (h : am_R E d mX10_undo k n 58 [a0] (a0 :: st) S iv Q) : am_R E d mX10_undo k n 57 [a0] st S iv Q := am_aload_n dX10_undo_57 rfl rfl hv h
theorem sX10_undo_58 {ls : List Value} {a : Nat} (ha : S.1 a = some (.inl 10)) (h : am_R E d mX10_undo k n 61 ls (.int (iv a 32) :: st) S iv Q) : am_R E d mX10_undo k n 58 ls (.ref a :: st) S iv Q := am_getI (ci := 10) dX10_undo_58 rfl rfl (by decide) wq_975 uq_10 rfl ha h
theorem sX10_undo_61 {ls : List Value} {x : Int32} (h : Q (.inl (some (.int x))) S iv) : am_R E d mX10_undo k n 61 ls [.int x] S iv Q := am_ireturn dX10_undo_61 rfl h
theorem dX10_sleeps_0 : decode cX10_sleeps 0 = .ok (.aload_n 0, 1) := by decide +kernel
theorem dX10_sleeps_1 : decode cX10_sleeps 1 = .ok (.iconst 0, 1) := by decide +kernel
theorem dX10_sleeps_2 : decode cX10_sleeps 2 = .ok (.putfield 143, 3) := by decide +kernel
theorem dX10_sleeps_5 : decode cX10_sleeps 5 = .ok (.aload_n 0, 1) := by decide +kernel
theorem dX10_sleeps_6 : decode cX10_sleeps 6 = .ok (.iload_n 1, 1) := by decide +kernel
theorem dX10_sleeps_7 : decode cX10_sleeps 7 = .ok (.invokevirtual 354, 3) := by decide +kernel
theorem dX10_sleeps_10 : decode cX10_sleeps 10 = .ok (.ifCond .ne 9, 3) := by decide +kernel
theorem dX10_sleeps_13 : decode cX10_sleeps 13 = .ok (.aload_n 0, 1) := by decide +kernel
theorem dX10_sleeps_14 : decode cX10_sleeps 14 = .ok (.iconst 1, 1) := by decide +kernel
theorem dX10_sleeps_15 : decode cX10_sleeps 15 = .ok (.putfield 143, 3) := by decide +kernel
theorem dX10_sleeps_18 : decode cX10_sleeps 18 = .ok (.return_, 1) := by decide +kernel
theorem dX10_sleeps_19 : decode cX10_sleeps 19 = .ok (.aload_n 0, 1) := by decide +kernel
theorem dX10_sleeps_20 : decode cX10_sleeps 20 = .ok (.iload_n 2, 1) := by decide +kernel
theorem dX10_sleeps_21 : decode cX10_sleeps 21 = .ok (.ifCond .eq 14, 3) := by decide +kernel
theorem dX10_sleeps_24 : decode cX10_sleeps 24 = .ok (.aload_n 0, 1) := by decide +kernel
theorem dX10_sleeps_25 : decode cX10_sleeps 25 = .ok (.getfield 308, 3) := by decide +kernel
theorem dX10_sleeps_28 : decode cX10_sleeps 28 = .ok (.iconst 1, 1) := by decide +kernel
theorem dX10_sleeps_29 : decode cX10_sleeps 29 = .ok (.iload_n 1, 1) := by decide +kernel
theorem dX10_sleeps_30 : decode cX10_sleeps 30 = .ok (.ishl, 1) := by decide +kernel
theorem dX10_sleeps_31 : decode cX10_sleeps 31 = .ok (.ior, 1) := by decide +kernel
theorem dX10_sleeps_32 : decode cX10_sleeps 32 = .ok (.goto 13, 3) := by decide +kernel
theorem dX10_sleeps_35 : decode cX10_sleeps 35 = .ok (.aload_n 0, 1) := by decide +kernel
theorem dX10_sleeps_36 : decode cX10_sleeps 36 = .ok (.getfield 308, 3) := by decide +kernel
theorem dX10_sleeps_39 : decode cX10_sleeps 39 = .ok (.iconst 1, 1) := by decide +kernel
theorem dX10_sleeps_40 : decode cX10_sleeps 40 = .ok (.iload_n 1, 1) := by decide +kernel
theorem dX10_sleeps_41 : decode cX10_sleeps 41 = .ok (.ishl, 1) := by decide +kernel
theorem dX10_sleeps_42 : decode cX10_sleeps 42 = .ok (.iconst (-1), 1) := by decide +kernel
theorem dX10_sleeps_43 : decode cX10_sleeps 43 = .ok (.ixor, 1) := by decide +kernel
theorem dX10_sleeps_44 : decode cX10_sleeps 44 = .ok (.iand, 1) := by decide +kernel
theorem dX10_sleeps_45 : decode cX10_sleeps 45 = .ok (.putfield 308, 3) := by decide +kernel
theorem dX10_sleeps_48 : decode cX10_sleeps 48 = .ok (.return_, 1) := by decide +kernel
theorem sX10_sleeps_0 {a0 a1 a2 : Value} (hv : am_rf a0 = true) (h : am_R E d mX10_sleeps k n 1 [a0, a1, a2] (a0 :: st) S iv Q) : am_R E d mX10_sleeps k n 0 [a0, a1, a2] st S iv Q := am_aload_n dX10_sleeps_0 rfl rfl hv h
theorem sX10_sleeps_1 {a0 a1 a2 : Value} (h : am_R E d mX10_sleeps k n 2 [a0, a1, a2] (.int 0 :: st) S iv Q) : am_R E d mX10_sleeps k n 1 [a0, a1, a2] st S iv Q := am_iconst dX10_sleeps_1 (by decide) h
theorem sX10_sleeps_2 {ls : List Value} {a : Nat} {x : Int32} (ha : S.1 a = some (.inl 10)) (h : am_R E d mX10_sleeps k n 5 ls st S (am_w iv a 3 x) Q) : am_R E d mX10_sleeps k n 2 ls (.int x :: .ref a :: st) S iv Q := am_putI (ci := 10) dX10_sleeps_2 rfl rfl (by decide) wq_806 uq_10 tyX10_ok nmX10 (Or.inl rfl) rfl ha h
theorem sX10_sleeps_5 {a0 a1 a2 : Value} (hv : am_rf a0 = true) (h : am_R E d mX10_sleeps k n 6 [a0, a1, a2] (a0 :: st) S iv Q) : am_R E d mX10_sleeps k n 5 [a0, a1, a2] st S iv Q := am_aload_n dX10_sleeps_5 rfl rfl hv h
theorem sX10_sleeps_6 {a0 a2 : Value} {x : Int32} (h : am_R E d mX10_sleeps k n 7 [a0, .int x, a2] (.int x :: st) S iv Q) : am_R E d mX10_sleeps k n 6 [a0, .int x, a2] st S iv Q := am_iload_n dX10_sleeps_6 rfl rfl h
theorem sX10_sleeps_7 {ls : List Value} {x1 : Value} {a : Nat} (ha : S.1 a = some (.inl 10)) (hst : (st.map fun v => v.category).sum ≤ 8) (hM : am_M E d mX10_isDrawer 0 0 [.ref a, x1] S iv (am_K3 E (d + 1) mX10_sleeps k n 7 ls st Q)) : am_R E (d + 1) mX10_sleeps k n 7 ls (x1 :: .ref a :: st) S iv Q := am_cV (ci := 10) (M' := mX10_isDrawer) (as := [x1]) dX10_sleeps_7 rfl rfl rfl wq_1026 wq_1027 wq_1028 wq_808 wq_1024 hy_X10_isDrawer (by decide) ha hst (by omega) (by omega) hM
theorem sX10_sleeps_7_k {ls : List Value} {x1 : Value} {k' n' : Nat} {a : Nat} (ha : S.1 a = some (.inl 10)) (hst : (st.map fun v => v.category).sum ≤ 8) (hM : am_M E d mX10_isDrawer k' n' [.ref a, x1] S iv (am_K3 E (d + 1) mX10_sleeps k n 7 ls st Q)) : am_R E (d + 1) mX10_sleeps (k' + k) (n' + n) 7 ls (x1 :: .ref a :: st) S iv Q := am_cV (ci := 10) (M' := mX10_isDrawer) (as := [x1]) dX10_sleeps_7 rfl rfl rfl wq_1026 wq_1027 wq_1028 wq_808 wq_1024 hy_X10_isDrawer (by decide) ha hst (by omega) (by omega) hM
theorem sX10_sleeps_10 {ls : List Value} {x : Int32} (kt : ¬ x = 0 → am_R E d mX10_sleeps k n 19 ls st S iv Q) (kf : x = 0 → am_R E d mX10_sleeps k n 13 ls st S iv Q) : am_R E d mX10_sleeps k n 10 ls (.int x :: st) S iv Q := am_if_ne dX10_sleeps_10 (by decide) kt kf
theorem sX10_sleeps_13 {a0 a1 a2 : Value} (hv : am_rf a0 = true) (h : am_R E d mX10_sleeps k n 14 [a0, a1, a2] (a0 :: st) S iv Q) : am_R E d mX10_sleeps k n 13 [a0, a1, a2] st S iv Q := am_aload_n dX10_sleeps_13 rfl rfl hv h
theorem sX10_sleeps_14 {a0 a1 a2 : Value} (h : am_R E d mX10_sleeps k n 15 [a0, a1, a2] (.int 1 :: st) S iv Q) : am_R E d mX10_sleeps k n 14 [a0, a1, a2] st S iv Q := am_iconst dX10_sleeps_14 (by decide) h
theorem sX10_sleeps_15 {ls : List Value} {a : Nat} {x : Int32} (ha : S.1 a = some (.inl 10)) (h : am_R E d mX10_sleeps k n 18 ls st S (am_w iv a 3 x) Q) : am_R E d mX10_sleeps k n 15 ls (.int x :: .ref a :: st) S iv Q := am_putI (ci := 10) dX10_sleeps_15 rfl rfl (by decide) wq_806 uq_10 tyX10_ok nmX10 (Or.inl rfl) rfl ha h
theorem sX10_sleeps_18 {ls : List Value} (h : Q (.inl none) S iv) : am_R E d mX10_sleeps k n 18 ls [] S iv Q := am_return dX10_sleeps_18 rfl h
theorem sX10_sleeps_19 {a0 a1 a2 : Value} (hv : am_rf a0 = true) (h : am_R E d mX10_sleeps k n 20 [a0, a1, a2] (a0 :: st) S iv Q) : am_R E d mX10_sleeps k n 19 [a0, a1, a2] st S iv Q := am_aload_n dX10_sleeps_19 rfl rfl hv h
theorem sX10_sleeps_20 {a0 a1 : Value} {x : Int32} (h : am_R E d mX10_sleeps k n 21 [a0, a1, .int x] (.int x :: st) S iv Q) : am_R E d mX10_sleeps k n 20 [a0, a1, .int x] st S iv Q := am_iload_n dX10_sleeps_20 rfl rfl h
theorem sX10_sleeps_21 {ls : List Value} {x : Int32} (kt : x = 0 → am_R E d mX10_sleeps k n 35 ls st S iv Q) (kf : ¬ x = 0 → am_R E d mX10_sleeps k n 24 ls st S iv Q) : am_R E d mX10_sleeps k n 21 ls (.int x :: st) S iv Q := am_if_eq dX10_sleeps_21 (by decide) kt kf
theorem sX10_sleeps_24 {a0 a1 a2 : Value} (hv : am_rf a0 = true) (h : am_R E d mX10_sleeps k n 25 [a0, a1, a2] (a0 :: st) S iv Q) : am_R E d mX10_sleeps k n 24 [a0, a1, a2] st S iv Q := am_aload_n dX10_sleeps_24 rfl rfl hv h
theorem sX10_sleeps_25 {ls : List Value} {a : Nat} (ha : S.1 a = some (.inl 10)) (h : am_R E d mX10_sleeps k n 28 ls (.int (iv a 30) :: st) S iv Q) : am_R E d mX10_sleeps k n 25 ls (.ref a :: st) S iv Q := am_getI (ci := 10) dX10_sleeps_25 rfl rfl (by decide) wq_973 uq_10 rfl ha h
theorem sX10_sleeps_28 {a0 a1 a2 : Value} (h : am_R E d mX10_sleeps k n 29 [a0, a1, a2] (.int 1 :: st) S iv Q) : am_R E d mX10_sleeps k n 28 [a0, a1, a2] st S iv Q := am_iconst dX10_sleeps_28 (by decide) h
theorem sX10_sleeps_29 {a0 a2 : Value} {x : Int32} (h : am_R E d mX10_sleeps k n 30 [a0, .int x, a2] (.int x :: st) S iv Q) : am_R E d mX10_sleeps k n 29 [a0, .int x, a2] st S iv Q := am_iload_n dX10_sleeps_29 rfl rfl h
theorem sX10_sleeps_30 {ls : List Value} {x y : Int32} (h : am_R E d mX10_sleeps k n 31 ls (.int (x <<< (y &&& 31)) :: st) S iv Q) : am_R E d mX10_sleeps k n 30 ls (.int y :: .int x :: st) S iv Q := am_ishl dX10_sleeps_30 h
theorem sX10_sleeps_31 {ls : List Value} {x y : Int32} (h : am_R E d mX10_sleeps k n 32 ls (.int (x ||| y) :: st) S iv Q) : am_R E d mX10_sleeps k n 31 ls (.int y :: .int x :: st) S iv Q := am_ior dX10_sleeps_31 h
theorem sX10_sleeps_32 {ls : List Value} (h : am_R E d mX10_sleeps k n 45 ls st S iv Q) : am_R E d mX10_sleeps k n 32 ls st S iv Q := am_goto dX10_sleeps_32 (by decide) h
theorem sX10_sleeps_35 {a0 a1 a2 : Value} (hv : am_rf a0 = true) (h : am_R E d mX10_sleeps k n 36 [a0, a1, a2] (a0 :: st) S iv Q) : am_R E d mX10_sleeps k n 35 [a0, a1, a2] st S iv Q := am_aload_n dX10_sleeps_35 rfl rfl hv h
theorem sX10_sleeps_36 {ls : List Value} {a : Nat} (ha : S.1 a = some (.inl 10)) (h : am_R E d mX10_sleeps k n 39 ls (.int (iv a 30) :: st) S iv Q) : am_R E d mX10_sleeps k n 36 ls (.ref a :: st) S iv Q := am_getI (ci := 10) dX10_sleeps_36 rfl rfl (by decide) wq_973 uq_10 rfl ha h
theorem sX10_sleeps_39 {a0 a1 a2 : Value} (h : am_R E d mX10_sleeps k n 40 [a0, a1, a2] (.int 1 :: st) S iv Q) : am_R E d mX10_sleeps k n 39 [a0, a1, a2] st S iv Q := am_iconst dX10_sleeps_39 (by decide) h
theorem sX10_sleeps_40 {a0 a2 : Value} {x : Int32} (h : am_R E d mX10_sleeps k n 41 [a0, .int x, a2] (.int x :: st) S iv Q) : am_R E d mX10_sleeps k n 40 [a0, .int x, a2] st S iv Q := am_iload_n dX10_sleeps_40 rfl rfl h
theorem sX10_sleeps_41 {ls : List Value} {x y : Int32} (h : am_R E d mX10_sleeps k n 42 ls (.int (x <<< (y &&& 31)) :: st) S iv Q) : am_R E d mX10_sleeps k n 41 ls (.int y :: .int x :: st) S iv Q := am_ishl dX10_sleeps_41 h
theorem sX10_sleeps_42 {a0 a1 a2 : Value} (h : am_R E d mX10_sleeps k n 43 [a0, a1, a2] (.int (-1) :: st) S iv Q) : am_R E d mX10_sleeps k n 42 [a0, a1, a2] st S iv Q := am_iconst dX10_sleeps_42 (by decide) h
theorem sX10_sleeps_43 {ls : List Value} {x y : Int32} (h : am_R E d mX10_sleeps k n 44 ls (.int (x ^^^ y) :: st) S iv Q) : am_R E d mX10_sleeps k n 43 ls (.int y :: .int x :: st) S iv Q := am_ixor dX10_sleeps_43 h
theorem sX10_sleeps_44 {ls : List Value} {x y : Int32} (h : am_R E d mX10_sleeps k n 45 ls (.int (x &&& y) :: st) S iv Q) : am_R E d mX10_sleeps k n 44 ls (.int y :: .int x :: st) S iv Q := am_iand dX10_sleeps_44 h
theorem sX10_sleeps_45 {ls : List Value} {a : Nat} {x : Int32} (ha : S.1 a = some (.inl 10)) (h : am_R E d mX10_sleeps k n 48 ls st S (am_w iv a 30 x) Q) : am_R E d mX10_sleeps k n 45 ls (.int x :: .ref a :: st) S iv Q := am_putI (ci := 10) dX10_sleeps_45 rfl rfl (by decide) wq_973 uq_10 tyX10_ok nmX10 (Or.inl rfl) rfl ha h
theorem sX10_sleeps_48 {ls : List Value} (h : Q (.inl none) S iv) : am_R E d mX10_sleeps k n 48 ls [] S iv Q := am_return dX10_sleeps_48 rfl h
theorem dX10_seek_0 : decode cX10_seek 0 = .ok (.iconst 0, 1) := by decide +kernel
theorem dX10_seek_1 : decode cX10_seek 1 = .ok (.istore_n 2, 1) := by decide +kernel
theorem dX10_seek_2 : decode cX10_seek 2 = .ok (.iload_n 2, 1) := by decide +kernel
theorem dX10_seek_3 : decode cX10_seek 3 = .ok (.iconst 1, 1) := by decide +kernel
theorem dX10_seek_4 : decode cX10_seek 4 = .ok (.aload_n 0, 1) := by decide +kernel
theorem dX10_seek_5 : decode cX10_seek 5 = .ok (.getfield 49, 3) := by decide +kernel
theorem dX10_seek_8 : decode cX10_seek 8 = .ok (.iconst 2, 1) := by decide +kernel
theorem dX10_seek_9 : decode cX10_seek 9 = .ok (.iaload, 1) := by decide +kernel
theorem dX10_seek_10 : decode cX10_seek 10 = .ok (.ishl, 1) := by decide +kernel
theorem dX10_seek_11 : decode cX10_seek 11 = .ok (.if_icmp .ge 20, 3) := by decide +kernel
theorem dX10_seek_14 : decode cX10_seek 14 = .ok (.aload_n 0, 1) := by decide +kernel
theorem dX10_seek_15 : decode cX10_seek 15 = .ok (.getfield 121, 3) := by decide +kernel
theorem dX10_seek_18 : decode cX10_seek 18 = .ok (.iload_n 2, 1) := by decide +kernel
theorem dX10_seek_19 : decode cX10_seek 19 = .ok (.aload_n 0, 1) := by decide +kernel
theorem dX10_seek_20 : decode cX10_seek 20 = .ok (.iload_n 2, 1) := by decide +kernel
theorem dX10_seek_21 : decode cX10_seek 21 = .ok (.invokevirtual 351, 3) := by decide +kernel
theorem dX10_seek_24 : decode cX10_seek 24 = .ok (.bastore, 1) := by decide +kernel
theorem dX10_seek_25 : decode cX10_seek 25 = .ok (.iinc 2 1, 3) := by decide +kernel
theorem dX10_seek_28 : decode cX10_seek 28 = .ok (.goto (-26), 3) := by decide +kernel
theorem dX10_seek_31 : decode cX10_seek 31 = .ok (.iconst 0, 1) := by decide +kernel
theorem dX10_seek_32 : decode cX10_seek 32 = .ok (.istore_n 2, 1) := by decide +kernel
theorem dX10_seek_33 : decode cX10_seek 33 = .ok (.iload_n 2, 1) := by decide +kernel
theorem dX10_seek_34 : decode cX10_seek 34 = .ok (.aload_n 0, 1) := by decide +kernel
theorem dX10_seek_35 : decode cX10_seek 35 = .ok (.getfield 112, 3) := by decide +kernel
theorem dX10_seek_38 : decode cX10_seek 38 = .ok (.arraylength, 1) := by decide +kernel
theorem dX10_seek_39 : decode cX10_seek 39 = .ok (.if_icmp .ge 16, 3) := by decide +kernel
theorem dX10_seek_42 : decode cX10_seek 42 = .ok (.aload_n 0, 1) := by decide +kernel
theorem dX10_seek_43 : decode cX10_seek 43 = .ok (.getfield 112, 3) := by decide +kernel
theorem dX10_seek_46 : decode cX10_seek 46 = .ok (.iload_n 2, 1) := by decide +kernel
theorem dX10_seek_47 : decode cX10_seek 47 = .ok (.iconst (-1), 1) := by decide +kernel
theorem dX10_seek_48 : decode cX10_seek 48 = .ok (.iastore, 1) := by decide +kernel
theorem dX10_seek_49 : decode cX10_seek 49 = .ok (.iinc 2 1, 3) := by decide +kernel
theorem dX10_seek_52 : decode cX10_seek 52 = .ok (.goto (-19), 3) := by decide +kernel
theorem dX10_seek_55 : decode cX10_seek 55 = .ok (.bipush 32, 2) := by decide +kernel
theorem dX10_seek_57 : decode cX10_seek 57 = .ok (.aload_n 0, 1) := by decide +kernel
theorem dX10_seek_58 : decode cX10_seek 58 = .ok (.getfield 306, 3) := by decide +kernel
theorem dX10_seek_61 : decode cX10_seek 61 = .ok (.imul, 1) := by decide +kernel
theorem dX10_seek_62 : decode cX10_seek 62 = .ok (.aload_n 0, 1) := by decide +kernel
theorem dX10_seek_63 : decode cX10_seek 63 = .ok (.getfield 311, 3) := by decide +kernel
theorem dX10_seek_66 : decode cX10_seek 66 = .ok (.iadd, 1) := by decide +kernel
theorem dX10_seek_67 : decode cX10_seek 67 = .ok (.istore_n 2, 1) := by decide +kernel
theorem dX10_seek_68 : decode cX10_seek 68 = .ok (.aload_n 0, 1) := by decide +kernel
theorem dX10_seek_69 : decode cX10_seek 69 = .ok (.getfield 112, 3) := by decide +kernel
theorem dX10_seek_72 : decode cX10_seek 72 = .ok (.iload_n 2, 1) := by decide +kernel
theorem dX10_seek_73 : decode cX10_seek 73 = .ok (.iconst 0, 1) := by decide +kernel
theorem dX10_seek_74 : decode cX10_seek 74 = .ok (.iastore, 1) := by decide +kernel
theorem dX10_seek_75 : decode cX10_seek 75 = .ok (.aload_n 0, 1) := by decide +kernel
theorem dX10_seek_76 : decode cX10_seek 76 = .ok (.getfield 115, 3) := by decide +kernel
theorem dX10_seek_79 : decode cX10_seek 79 = .ok (.iconst 0, 1) := by decide +kernel
theorem dX10_seek_80 : decode cX10_seek 80 = .ok (.iload_n 2, 1) := by decide +kernel
theorem dX10_seek_81 : decode cX10_seek 81 = .ok (.iastore, 1) := by decide +kernel
theorem dX10_seek_82 : decode cX10_seek 82 = .ok (.aload_n 0, 1) := by decide +kernel
theorem dX10_seek_83 : decode cX10_seek 83 = .ok (.iconst 1, 1) := by decide +kernel
theorem dX10_seek_84 : decode cX10_seek 84 = .ok (.putfield 372, 3) := by decide +kernel
theorem dX10_seek_87 : decode cX10_seek 87 = .ok (.iconst 0, 1) := by decide +kernel
theorem dX10_seek_88 : decode cX10_seek 88 = .ok (.istore_n 3, 1) := by decide +kernel
theorem dX10_seek_89 : decode cX10_seek 89 = .ok (.iload_n 3, 1) := by decide +kernel
theorem dX10_seek_90 : decode cX10_seek 90 = .ok (.aload_n 0, 1) := by decide +kernel
theorem dX10_seek_91 : decode cX10_seek 91 = .ok (.getfield 372, 3) := by decide +kernel
theorem dX10_seek_94 : decode cX10_seek 94 = .ok (.if_icmp .ge 20, 3) := by decide +kernel
theorem dX10_seek_97 : decode cX10_seek 97 = .ok (.aload_n 0, 1) := by decide +kernel
theorem dX10_seek_98 : decode cX10_seek 98 = .ok (.aload_n 0, 1) := by decide +kernel
theorem dX10_seek_99 : decode cX10_seek 99 = .ok (.getfield 115, 3) := by decide +kernel
theorem dX10_seek_102 : decode cX10_seek 102 = .ok (.iload_n 3, 1) := by decide +kernel
theorem dX10_seek_103 : decode cX10_seek 103 = .ok (.iaload, 1) := by decide +kernel
theorem dX10_seek_104 : decode cX10_seek 104 = .ok (.iload_n 1, 1) := by decide +kernel
theorem dX10_seek_105 : decode cX10_seek 105 = .ok (.invokevirtual 375, 3) := by decide +kernel
theorem dX10_seek_108 : decode cX10_seek 108 = .ok (.iinc 3 1, 3) := by decide +kernel
theorem dX10_seek_111 : decode cX10_seek 111 = .ok (.goto (-22), 3) := by decide +kernel
theorem dX10_seek_114 : decode cX10_seek 114 = .ok (.return_, 1) := by decide +kernel
theorem sX10_seek_0 {a0 a1 a2 a3 : Value} (h : am_R E d mX10_seek k n 1 [a0, a1, a2, a3] (.int 0 :: st) S iv Q) : am_R E d mX10_seek k n 0 [a0, a1, a2, a3] st S iv Q := am_iconst dX10_seek_0 (by decide) h
theorem sX10_seek_1 {a0 a1 a2 a3 : Value} {x : Int32} (h : am_R E d mX10_seek k n 2 [a0, a1, .int x, a3] st S iv Q) : am_R E d mX10_seek k n 1 [a0, a1, a2, a3] (.int x :: st) S iv Q := am_istore_n dX10_seek_1 rfl (by decide) h
theorem sX10_seek_2 {a0 a1 a3 : Value} {x : Int32} (h : am_R E d mX10_seek k n 3 [a0, a1, .int x, a3] (.int x :: st) S iv Q) : am_R E d mX10_seek k n 2 [a0, a1, .int x, a3] st S iv Q := am_iload_n dX10_seek_2 rfl rfl h
theorem sX10_seek_3 {a0 a1 a2 a3 : Value} (h : am_R E d mX10_seek k n 4 [a0, a1, a2, a3] (.int 1 :: st) S iv Q) : am_R E d mX10_seek k n 3 [a0, a1, a2, a3] st S iv Q := am_iconst dX10_seek_3 (by decide) h
theorem sX10_seek_4 {a0 a1 a2 a3 : Value} (hv : am_rf a0 = true) (h : am_R E d mX10_seek k n 5 [a0, a1, a2, a3] (a0 :: st) S iv Q) : am_R E d mX10_seek k n 4 [a0, a1, a2, a3] st S iv Q := am_aload_n dX10_seek_4 rfl rfl hv h
theorem sX10_seek_5 {ls : List Value} {a b : Nat} (ha : S.1 a = some (.inl 10)) (hb : S.2.1 a 4 = some b) (h : am_R E d mX10_seek k n 8 ls (.ref b :: st) S iv Q) : am_R E d mX10_seek k n 5 ls (.ref a :: st) S iv Q := am_getR (ci := 10) dX10_seek_5 rfl rfl (by decide) wq_772 uq_10 rfl ha hb h
theorem sX10_seek_8 {a0 a1 a2 a3 : Value} (h : am_R E d mX10_seek k n 9 [a0, a1, a2, a3] (.int 2 :: st) S iv Q) : am_R E d mX10_seek k n 8 [a0, a1, a2, a3] st S iv Q := am_iconst dX10_seek_8 (by decide) h
theorem sX10_seek_9 {ls : List Value} {a m : Nat} {i : Int32} (ha : S.1 a = some (.inr (.int, m))) (hi : vp_in i m) (h : am_R E d mX10_seek k n 10 ls (.int (iv a i.toNatClampNeg) :: st) S iv Q) : am_R E d mX10_seek k n 9 ls (.int i :: .ref a :: st) S iv Q := am_iaload dX10_seek_9 ha hi h
theorem sX10_seek_10 {ls : List Value} {x y : Int32} (h : am_R E d mX10_seek k n 11 ls (.int (x <<< (y &&& 31)) :: st) S iv Q) : am_R E d mX10_seek k n 10 ls (.int y :: .int x :: st) S iv Q := am_ishl dX10_seek_10 h
theorem sX10_seek_11 {ls : List Value} {x y : Int32} (kt : y ≤ x → am_R E d mX10_seek k n 31 ls st S iv Q) (kf : ¬ y ≤ x → am_R E d mX10_seek k n 14 ls st S iv Q) : am_R E d mX10_seek k n 11 ls (.int y :: .int x :: st) S iv Q := am_icmp_ge dX10_seek_11 (by decide) kt kf
theorem sX10_seek_14 {a0 a1 a2 a3 : Value} (hv : am_rf a0 = true) (h : am_R E d mX10_seek k n 15 [a0, a1, a2, a3] (a0 :: st) S iv Q) : am_R E d mX10_seek k n 14 [a0, a1, a2, a3] st S iv Q := am_aload_n dX10_seek_14 rfl rfl hv h
theorem sX10_seek_15 {ls : List Value} {a b : Nat} (ha : S.1 a = some (.inl 10)) (hb : S.2.1 a 43 = some b) (h : am_R E d mX10_seek k n 18 ls (.ref b :: st) S iv Q) : am_R E d mX10_seek k n 15 ls (.ref a :: st) S iv Q := am_getR (ci := 10) dX10_seek_15 rfl rfl (by decide) wq_799 uq_10 rfl ha hb h
theorem sX10_seek_18 {a0 a1 a3 : Value} {x : Int32} (h : am_R E d mX10_seek k n 19 [a0, a1, .int x, a3] (.int x :: st) S iv Q) : am_R E d mX10_seek k n 18 [a0, a1, .int x, a3] st S iv Q := am_iload_n dX10_seek_18 rfl rfl h
theorem sX10_seek_19 {a0 a1 a2 a3 : Value} (hv : am_rf a0 = true) (h : am_R E d mX10_seek k n 20 [a0, a1, a2, a3] (a0 :: st) S iv Q) : am_R E d mX10_seek k n 19 [a0, a1, a2, a3] st S iv Q := am_aload_n dX10_seek_19 rfl rfl hv h
theorem sX10_seek_20 {a0 a1 a3 : Value} {x : Int32} (h : am_R E d mX10_seek k n 21 [a0, a1, .int x, a3] (.int x :: st) S iv Q) : am_R E d mX10_seek k n 20 [a0, a1, .int x, a3] st S iv Q := am_iload_n dX10_seek_20 rfl rfl h
theorem sX10_seek_21 {ls : List Value} {x1 : Value} {a : Nat} (ha : S.1 a = some (.inl 10)) (hst : (st.map fun v => v.category).sum ≤ 8) (hM : am_M E d mX10_canBe 0 0 [.ref a, x1] S iv (am_K3 E (d + 1) mX10_seek k n 21 ls st Q)) : am_R E (d + 1) mX10_seek k n 21 ls (x1 :: .ref a :: st) S iv Q := am_cV (ci := 10) (M' := mX10_canBe) (as := [x1]) dX10_seek_21 rfl rfl rfl wq_1021 wq_1022 wq_1023 wq_808 wq_1019 hy_X10_canBe (by decide) ha hst (by omega) (by omega) hM
theorem sX10_seek_21_k {ls : List Value} {x1 : Value} {k' n' : Nat} {a : Nat} (ha : S.1 a = some (.inl 10)) (hst : (st.map fun v => v.category).sum ≤ 8) (hM : am_M E d mX10_canBe k' n' [.ref a, x1] S iv (am_K3 E (d + 1) mX10_seek k n 21 ls st Q)) : am_R E (d + 1) mX10_seek (k' + k) (n' + n) 21 ls (x1 :: .ref a :: st) S iv Q := am_cV (ci := 10) (M' := mX10_canBe) (as := [x1]) dX10_seek_21 rfl rfl rfl wq_1021 wq_1022 wq_1023 wq_808 wq_1019 hy_X10_canBe (by decide) ha hst (by omega) (by omega) hM
theorem sX10_seek_24 {ls : List Value} {a m : Nat} {i x : Int32} (ha : S.1 a = some (.inr (.boolean, m))) (hi : vp_in i m) (hx : x = 0 ∨ x = 1) (h : am_R E d mX10_seek k n 25 ls st S (am_w iv a i.toNatClampNeg x) Q) : am_R E d mX10_seek k n 24 ls (.int x :: .int i :: .ref a :: st) S iv Q := am_zastore dX10_seek_24 ha hi hx h
theorem sX10_seek_25 {a0 a1 a3 : Value} {x : Int32} (h : am_R E d mX10_seek k n 28 [a0, a1, .int (x + 1), a3] st S iv Q) : am_R E d mX10_seek k n 25 [a0, a1, .int x, a3] st S iv Q := am_iinc dX10_seek_25 rfl rfl (by decide) h
theorem sX10_seek_28 {ls : List Value} (h : am_R E d mX10_seek k n 2 ls st S iv Q) : am_R E d mX10_seek k n 28 ls st S iv Q := am_goto dX10_seek_28 (by decide) h
theorem sX10_seek_31 {a0 a1 a2 a3 : Value} (h : am_R E d mX10_seek k n 32 [a0, a1, a2, a3] (.int 0 :: st) S iv Q) : am_R E d mX10_seek k n 31 [a0, a1, a2, a3] st S iv Q := am_iconst dX10_seek_31 (by decide) h
theorem sX10_seek_32 {a0 a1 a2 a3 : Value} {x : Int32} (h : am_R E d mX10_seek k n 33 [a0, a1, .int x, a3] st S iv Q) : am_R E d mX10_seek k n 32 [a0, a1, a2, a3] (.int x :: st) S iv Q := am_istore_n dX10_seek_32 rfl (by decide) h
theorem sX10_seek_33 {a0 a1 a3 : Value} {x : Int32} (h : am_R E d mX10_seek k n 34 [a0, a1, .int x, a3] (.int x :: st) S iv Q) : am_R E d mX10_seek k n 33 [a0, a1, .int x, a3] st S iv Q := am_iload_n dX10_seek_33 rfl rfl h
theorem sX10_seek_34 {a0 a1 a2 a3 : Value} (hv : am_rf a0 = true) (h : am_R E d mX10_seek k n 35 [a0, a1, a2, a3] (a0 :: st) S iv Q) : am_R E d mX10_seek k n 34 [a0, a1, a2, a3] st S iv Q := am_aload_n dX10_seek_34 rfl rfl hv h
theorem sX10_seek_35 {ls : List Value} {a b : Nat} (ha : S.1 a = some (.inl 10)) (hb : S.2.1 a 40 = some b) (h : am_R E d mX10_seek k n 38 ls (.ref b :: st) S iv Q) : am_R E d mX10_seek k n 35 ls (.ref a :: st) S iv Q := am_getR (ci := 10) dX10_seek_35 rfl rfl (by decide) wq_795 uq_10 rfl ha hb h
theorem sX10_seek_38 {ls : List Value} {a m t : Nat} {ty : FieldType} (ha : S.1 a = some (.inr (ty, m))) (ht : am_ti ty = some t) (h : am_R E d mX10_seek k n 39 ls (.int (Int32.ofNat m) :: st) S iv Q) : am_R E d mX10_seek k n 38 ls (.ref a :: st) S iv Q := am_alen dX10_seek_38 ha ht h
theorem sX10_seek_39 {ls : List Value} {x y : Int32} (kt : y ≤ x → am_R E d mX10_seek k n 55 ls st S iv Q) (kf : ¬ y ≤ x → am_R E d mX10_seek k n 42 ls st S iv Q) : am_R E d mX10_seek k n 39 ls (.int y :: .int x :: st) S iv Q := am_icmp_ge dX10_seek_39 (by decide) kt kf
theorem sX10_seek_42 {a0 a1 a2 a3 : Value} (hv : am_rf a0 = true) (h : am_R E d mX10_seek k n 43 [a0, a1, a2, a3] (a0 :: st) S iv Q) : am_R E d mX10_seek k n 42 [a0, a1, a2, a3] st S iv Q := am_aload_n dX10_seek_42 rfl rfl hv h
theorem sX10_seek_43 {ls : List Value} {a b : Nat} (ha : S.1 a = some (.inl 10)) (hb : S.2.1 a 40 = some b) (h : am_R E d mX10_seek k n 46 ls (.ref b :: st) S iv Q) : am_R E d mX10_seek k n 43 ls (.ref a :: st) S iv Q := am_getR (ci := 10) dX10_seek_43 rfl rfl (by decide) wq_795 uq_10 rfl ha hb h
theorem sX10_seek_46 {a0 a1 a3 : Value} {x : Int32} (h : am_R E d mX10_seek k n 47 [a0, a1, .int x, a3] (.int x :: st) S iv Q) : am_R E d mX10_seek k n 46 [a0, a1, .int x, a3] st S iv Q := am_iload_n dX10_seek_46 rfl rfl h
theorem sX10_seek_47 {a0 a1 a2 a3 : Value} (h : am_R E d mX10_seek k n 48 [a0, a1, a2, a3] (.int (-1) :: st) S iv Q) : am_R E d mX10_seek k n 47 [a0, a1, a2, a3] st S iv Q := am_iconst dX10_seek_47 (by decide) h
theorem sX10_seek_48 {ls : List Value} {a m : Nat} {i x : Int32} (ha : S.1 a = some (.inr (.int, m))) (hi : vp_in i m) (h : am_R E d mX10_seek k n 49 ls st S (am_w iv a i.toNatClampNeg x) Q) : am_R E d mX10_seek k n 48 ls (.int x :: .int i :: .ref a :: st) S iv Q := am_iastore dX10_seek_48 ha hi h
theorem sX10_seek_49 {a0 a1 a3 : Value} {x : Int32} (h : am_R E d mX10_seek k n 52 [a0, a1, .int (x + 1), a3] st S iv Q) : am_R E d mX10_seek k n 49 [a0, a1, .int x, a3] st S iv Q := am_iinc dX10_seek_49 rfl rfl (by decide) h
theorem sX10_seek_52 {ls : List Value} (h : am_R E d mX10_seek k n 33 ls st S iv Q) : am_R E d mX10_seek k n 52 ls st S iv Q := am_goto dX10_seek_52 (by decide) h
theorem sX10_seek_55 {a0 a1 a2 a3 : Value} (h : am_R E d mX10_seek k n 57 [a0, a1, a2, a3] (.int 32 :: st) S iv Q) : am_R E d mX10_seek k n 55 [a0, a1, a2, a3] st S iv Q := am_bipush dX10_seek_55 (by decide) h
theorem sX10_seek_57 {a0 a1 a2 a3 : Value} (hv : am_rf a0 = true) (h : am_R E d mX10_seek k n 58 [a0, a1, a2, a3] (a0 :: st) S iv Q) : am_R E d mX10_seek k n 57 [a0, a1, a2, a3] st S iv Q := am_aload_n dX10_seek_57 rfl rfl hv h
theorem sX10_seek_58 {ls : List Value} {a : Nat} (ha : S.1 a = some (.inl 10)) (h : am_R E d mX10_seek k n 61 ls (.int (iv a 29) :: st) S iv Q) : am_R E d mX10_seek k n 58 ls (.ref a :: st) S iv Q := am_getI (ci := 10) dX10_seek_58 rfl rfl (by decide) wq_972 uq_10 rfl ha h
theorem sX10_seek_61 {ls : List Value} {x y : Int32} (h : am_R E d mX10_seek k n 62 ls (.int (x * y) :: st) S iv Q) : am_R E d mX10_seek k n 61 ls (.int y :: .int x :: st) S iv Q := am_imul dX10_seek_61 h
theorem sX10_seek_62 {a0 a1 a2 a3 : Value} (hv : am_rf a0 = true) (h : am_R E d mX10_seek k n 63 [a0, a1, a2, a3] (a0 :: st) S iv Q) : am_R E d mX10_seek k n 62 [a0, a1, a2, a3] st S iv Q := am_aload_n dX10_seek_62 rfl rfl hv h
theorem sX10_seek_63 {ls : List Value} {a : Nat} (ha : S.1 a = some (.inl 10)) (h : am_R E d mX10_seek k n 66 ls (.int (iv a 31) :: st) S iv Q) : am_R E d mX10_seek k n 63 ls (.ref a :: st) S iv Q := am_getI (ci := 10) dX10_seek_63 rfl rfl (by decide) wq_974 uq_10 rfl ha h
theorem sX10_seek_66 {ls : List Value} {x y : Int32} (h : am_R E d mX10_seek k n 67 ls (.int (x + y) :: st) S iv Q) : am_R E d mX10_seek k n 66 ls (.int y :: .int x :: st) S iv Q := am_iadd dX10_seek_66 h
theorem sX10_seek_67 {a0 a1 a2 a3 : Value} {x : Int32} (h : am_R E d mX10_seek k n 68 [a0, a1, .int x, a3] st S iv Q) : am_R E d mX10_seek k n 67 [a0, a1, a2, a3] (.int x :: st) S iv Q := am_istore_n dX10_seek_67 rfl (by decide) h
theorem sX10_seek_68 {a0 a1 a2 a3 : Value} (hv : am_rf a0 = true) (h : am_R E d mX10_seek k n 69 [a0, a1, a2, a3] (a0 :: st) S iv Q) : am_R E d mX10_seek k n 68 [a0, a1, a2, a3] st S iv Q := am_aload_n dX10_seek_68 rfl rfl hv h
theorem sX10_seek_69 {ls : List Value} {a b : Nat} (ha : S.1 a = some (.inl 10)) (hb : S.2.1 a 40 = some b) (h : am_R E d mX10_seek k n 72 ls (.ref b :: st) S iv Q) : am_R E d mX10_seek k n 69 ls (.ref a :: st) S iv Q := am_getR (ci := 10) dX10_seek_69 rfl rfl (by decide) wq_795 uq_10 rfl ha hb h
theorem sX10_seek_72 {a0 a1 a3 : Value} {x : Int32} (h : am_R E d mX10_seek k n 73 [a0, a1, .int x, a3] (.int x :: st) S iv Q) : am_R E d mX10_seek k n 72 [a0, a1, .int x, a3] st S iv Q := am_iload_n dX10_seek_72 rfl rfl h
theorem sX10_seek_73 {a0 a1 a2 a3 : Value} (h : am_R E d mX10_seek k n 74 [a0, a1, a2, a3] (.int 0 :: st) S iv Q) : am_R E d mX10_seek k n 73 [a0, a1, a2, a3] st S iv Q := am_iconst dX10_seek_73 (by decide) h
theorem sX10_seek_74 {ls : List Value} {a m : Nat} {i x : Int32} (ha : S.1 a = some (.inr (.int, m))) (hi : vp_in i m) (h : am_R E d mX10_seek k n 75 ls st S (am_w iv a i.toNatClampNeg x) Q) : am_R E d mX10_seek k n 74 ls (.int x :: .int i :: .ref a :: st) S iv Q := am_iastore dX10_seek_74 ha hi h
theorem sX10_seek_75 {a0 a1 a2 a3 : Value} (hv : am_rf a0 = true) (h : am_R E d mX10_seek k n 76 [a0, a1, a2, a3] (a0 :: st) S iv Q) : am_R E d mX10_seek k n 75 [a0, a1, a2, a3] st S iv Q := am_aload_n dX10_seek_75 rfl rfl hv h
theorem sX10_seek_76 {ls : List Value} {a b : Nat} (ha : S.1 a = some (.inl 10)) (hb : S.2.1 a 41 = some b) (h : am_R E d mX10_seek k n 79 ls (.ref b :: st) S iv Q) : am_R E d mX10_seek k n 76 ls (.ref a :: st) S iv Q := am_getR (ci := 10) dX10_seek_76 rfl rfl (by decide) wq_796 uq_10 rfl ha hb h
theorem sX10_seek_79 {a0 a1 a2 a3 : Value} (h : am_R E d mX10_seek k n 80 [a0, a1, a2, a3] (.int 0 :: st) S iv Q) : am_R E d mX10_seek k n 79 [a0, a1, a2, a3] st S iv Q := am_iconst dX10_seek_79 (by decide) h
theorem sX10_seek_80 {a0 a1 a3 : Value} {x : Int32} (h : am_R E d mX10_seek k n 81 [a0, a1, .int x, a3] (.int x :: st) S iv Q) : am_R E d mX10_seek k n 80 [a0, a1, .int x, a3] st S iv Q := am_iload_n dX10_seek_80 rfl rfl h
theorem sX10_seek_81 {ls : List Value} {a m : Nat} {i x : Int32} (ha : S.1 a = some (.inr (.int, m))) (hi : vp_in i m) (h : am_R E d mX10_seek k n 82 ls st S (am_w iv a i.toNatClampNeg x) Q) : am_R E d mX10_seek k n 81 ls (.int x :: .int i :: .ref a :: st) S iv Q := am_iastore dX10_seek_81 ha hi h
theorem sX10_seek_82 {a0 a1 a2 a3 : Value} (hv : am_rf a0 = true) (h : am_R E d mX10_seek k n 83 [a0, a1, a2, a3] (a0 :: st) S iv Q) : am_R E d mX10_seek k n 82 [a0, a1, a2, a3] st S iv Q := am_aload_n dX10_seek_82 rfl rfl hv h
theorem sX10_seek_83 {a0 a1 a2 a3 : Value} (h : am_R E d mX10_seek k n 84 [a0, a1, a2, a3] (.int 1 :: st) S iv Q) : am_R E d mX10_seek k n 83 [a0, a1, a2, a3] st S iv Q := am_iconst dX10_seek_83 (by decide) h
theorem sX10_seek_84 {ls : List Value} {a : Nat} {x : Int32} (ha : S.1 a = some (.inl 10)) (h : am_R E d mX10_seek k n 87 ls st S (am_w iv a 44 x) Q) : am_R E d mX10_seek k n 84 ls (.int x :: .ref a :: st) S iv Q := am_putI (ci := 10) dX10_seek_84 rfl rfl (by decide) wq_1054 uq_10 tyX10_ok nmX10 (Or.inl rfl) rfl ha h
theorem sX10_seek_87 {a0 a1 a2 a3 : Value} (h : am_R E d mX10_seek k n 88 [a0, a1, a2, a3] (.int 0 :: st) S iv Q) : am_R E d mX10_seek k n 87 [a0, a1, a2, a3] st S iv Q := am_iconst dX10_seek_87 (by decide) h
theorem sX10_seek_88 {a0 a1 a2 a3 : Value} {x : Int32} (h : am_R E d mX10_seek k n 89 [a0, a1, a2, .int x] st S iv Q) : am_R E d mX10_seek k n 88 [a0, a1, a2, a3] (.int x :: st) S iv Q := am_istore_n dX10_seek_88 rfl (by decide) h
theorem sX10_seek_89 {a0 a1 a2 : Value} {x : Int32} (h : am_R E d mX10_seek k n 90 [a0, a1, a2, .int x] (.int x :: st) S iv Q) : am_R E d mX10_seek k n 89 [a0, a1, a2, .int x] st S iv Q := am_iload_n dX10_seek_89 rfl rfl h
theorem sX10_seek_90 {a0 a1 a2 a3 : Value} (hv : am_rf a0 = true) (h : am_R E d mX10_seek k n 91 [a0, a1, a2, a3] (a0 :: st) S iv Q) : am_R E d mX10_seek k n 90 [a0, a1, a2, a3] st S iv Q := am_aload_n dX10_seek_90 rfl rfl hv h
theorem sX10_seek_91 {ls : List Value} {a : Nat} (ha : S.1 a = some (.inl 10)) (h : am_R E d mX10_seek k n 94 ls (.int (iv a 44) :: st) S iv Q) : am_R E d mX10_seek k n 91 ls (.ref a :: st) S iv Q := am_getI (ci := 10) dX10_seek_91 rfl rfl (by decide) wq_1054 uq_10 rfl ha h
theorem sX10_seek_94 {ls : List Value} {x y : Int32} (kt : y ≤ x → am_R E d mX10_seek k n 114 ls st S iv Q) (kf : ¬ y ≤ x → am_R E d mX10_seek k n 97 ls st S iv Q) : am_R E d mX10_seek k n 94 ls (.int y :: .int x :: st) S iv Q := am_icmp_ge dX10_seek_94 (by decide) kt kf
theorem sX10_seek_97 {a0 a1 a2 a3 : Value} (hv : am_rf a0 = true) (h : am_R E d mX10_seek k n 98 [a0, a1, a2, a3] (a0 :: st) S iv Q) : am_R E d mX10_seek k n 97 [a0, a1, a2, a3] st S iv Q := am_aload_n dX10_seek_97 rfl rfl hv h
theorem sX10_seek_98 {a0 a1 a2 a3 : Value} (hv : am_rf a0 = true) (h : am_R E d mX10_seek k n 99 [a0, a1, a2, a3] (a0 :: st) S iv Q) : am_R E d mX10_seek k n 98 [a0, a1, a2, a3] st S iv Q := am_aload_n dX10_seek_98 rfl rfl hv h
theorem sX10_seek_99 {ls : List Value} {a b : Nat} (ha : S.1 a = some (.inl 10)) (hb : S.2.1 a 41 = some b) (h : am_R E d mX10_seek k n 102 ls (.ref b :: st) S iv Q) : am_R E d mX10_seek k n 99 ls (.ref a :: st) S iv Q := am_getR (ci := 10) dX10_seek_99 rfl rfl (by decide) wq_796 uq_10 rfl ha hb h
theorem sX10_seek_102 {a0 a1 a2 : Value} {x : Int32} (h : am_R E d mX10_seek k n 103 [a0, a1, a2, .int x] (.int x :: st) S iv Q) : am_R E d mX10_seek k n 102 [a0, a1, a2, .int x] st S iv Q := am_iload_n dX10_seek_102 rfl rfl h
theorem sX10_seek_103 {ls : List Value} {a m : Nat} {i : Int32} (ha : S.1 a = some (.inr (.int, m))) (hi : vp_in i m) (h : am_R E d mX10_seek k n 104 ls (.int (iv a i.toNatClampNeg) :: st) S iv Q) : am_R E d mX10_seek k n 103 ls (.int i :: .ref a :: st) S iv Q := am_iaload dX10_seek_103 ha hi h
theorem sX10_seek_104 {a0 a2 a3 : Value} {x : Int32} (h : am_R E d mX10_seek k n 105 [a0, .int x, a2, a3] (.int x :: st) S iv Q) : am_R E d mX10_seek k n 104 [a0, .int x, a2, a3] st S iv Q := am_iload_n dX10_seek_104 rfl rfl h
theorem sX10_seek_105 {ls : List Value} {x1 x2 : Value} {a : Nat} (ha : S.1 a = some (.inl 10)) (hst : (st.map fun v => v.category).sum ≤ 8) (hM : am_M E d mX10_goOn 0 0 [.ref a, x1, x2] S iv (am_K3 E (d + 1) mX10_seek k n 105 ls st Q)) : am_R E (d + 1) mX10_seek k n 105 ls (x2 :: x1 :: .ref a :: st) S iv Q := am_cV (ci := 10) (M' := mX10_goOn) (as := [x1, x2]) dX10_seek_105 rfl rfl rfl wq_1057 wq_1058 wq_1059 wq_808 wq_1055 hy_X10_goOn (by decide) ha hst (by omega) (by omega) hM
theorem sX10_seek_105_k {ls : List Value} {x1 x2 : Value} {k' n' : Nat} {a : Nat} (ha : S.1 a = some (.inl 10)) (hst : (st.map fun v => v.category).sum ≤ 8) (hM : am_M E d mX10_goOn k' n' [.ref a, x1, x2] S iv (am_K3 E (d + 1) mX10_seek k n 105 ls st Q)) : am_R E (d + 1) mX10_seek (k' + k) (n' + n) 105 ls (x2 :: x1 :: .ref a :: st) S iv Q := am_cV (ci := 10) (M' := mX10_goOn) (as := [x1, x2]) dX10_seek_105 rfl rfl rfl wq_1057 wq_1058 wq_1059 wq_808 wq_1055 hy_X10_goOn (by decide) ha hst (by omega) (by omega) hM
theorem sX10_seek_108 {a0 a1 a2 : Value} {x : Int32} (h : am_R E d mX10_seek k n 111 [a0, a1, a2, .int (x + 1)] st S iv Q) : am_R E d mX10_seek k n 108 [a0, a1, a2, .int x] st S iv Q := am_iinc dX10_seek_108 rfl rfl (by decide) h
theorem sX10_seek_111 {ls : List Value} (h : am_R E d mX10_seek k n 89 ls st S iv Q) : am_R E d mX10_seek k n 111 ls st S iv Q := am_goto dX10_seek_111 (by decide) h
theorem sX10_seek_114 {ls : List Value} (h : Q (.inl none) S iv) : am_R E d mX10_seek k n 114 ls [] S iv Q := am_return dX10_seek_114 rfl h
theorem dX10_goOn_0 : decode cX10_goOn 0 = .ok (.iload_n 1, 1) := by decide +kernel
theorem dX10_goOn_1 : decode cX10_goOn 1 = .ok (.bipush 32, 2) := by decide +kernel
theorem dX10_goOn_3 : decode cX10_goOn 3 = .ok (.idiv, 1) := by decide +kernel
theorem dX10_goOn_4 : decode cX10_goOn 4 = .ok (.istore_n 3, 1) := by decide +kernel
theorem dX10_goOn_5 : decode cX10_goOn 5 = .ok (.aload_n 0, 1) := by decide +kernel
theorem dX10_goOn_6 : decode cX10_goOn 6 = .ok (.iload_n 3, 1) := by decide +kernel
theorem dX10_goOn_7 : decode cX10_goOn 7 = .ok (.invokevirtual 357, 3) := by decide +kernel
theorem dX10_goOn_10 : decode cX10_goOn 10 = .ok (.istore 4, 2) := by decide +kernel
theorem dX10_goOn_12 : decode cX10_goOn 12 = .ok (.iconst 0, 1) := by decide +kernel
theorem dX10_goOn_13 : decode cX10_goOn 13 = .ok (.istore 5, 2) := by decide +kernel
theorem dX10_goOn_15 : decode cX10_goOn 15 = .ok (.iload 5, 2) := by decide +kernel
theorem dX10_goOn_17 : decode cX10_goOn 17 = .ok (.aload_n 0, 1) := by decide +kernel
theorem dX10_goOn_18 : decode cX10_goOn 18 = .ok (.getfield 49, 3) := by decide +kernel
theorem dX10_goOn_21 : decode cX10_goOn 21 = .ok (.iconst 2, 1) := by decide +kernel
theorem dX10_goOn_22 : decode cX10_goOn 22 = .ok (.iaload, 1) := by decide +kernel
theorem dX10_goOn_23 : decode cX10_goOn 23 = .ok (.if_icmp .ge 134, 3) := by decide +kernel
theorem dX10_goOn_26 : decode cX10_goOn 26 = .ok (.iload_n 3, 1) := by decide +kernel
theorem dX10_goOn_27 : decode cX10_goOn 27 = .ok (.iconst 1, 1) := by decide +kernel
theorem dX10_goOn_28 : decode cX10_goOn 28 = .ok (.iload 5, 2) := by decide +kernel
theorem dX10_goOn_30 : decode cX10_goOn 30 = .ok (.ishl, 1) := by decide +kernel
theorem dX10_goOn_31 : decode cX10_goOn 31 = .ok (.ixor, 1) := by decide +kernel
theorem dX10_goOn_32 : decode cX10_goOn 32 = .ok (.istore 6, 2) := by decide +kernel
theorem dX10_goOn_34 : decode cX10_goOn 34 = .ok (.iload_n 2, 1) := by decide +kernel
theorem dX10_goOn_35 : decode cX10_goOn 35 = .ok (.iload 5, 2) := by decide +kernel
theorem dX10_goOn_37 : decode cX10_goOn 37 = .ok (.invokestatic 328, 3) := by decide +kernel
theorem dX10_goOn_40 : decode cX10_goOn 40 = .ok (.ifCond .ne 111, 3) := by decide +kernel
theorem dX10_goOn_43 : decode cX10_goOn 43 = .ok (.iload 4, 2) := by decide +kernel
theorem dX10_goOn_45 : decode cX10_goOn 45 = .ok (.iload 5, 2) := by decide +kernel
theorem dX10_goOn_47 : decode cX10_goOn 47 = .ok (.invokestatic 328, 3) := by decide +kernel
theorem dX10_goOn_50 : decode cX10_goOn 50 = .ok (.ifCond .eq 101, 3) := by decide +kernel
theorem dX10_goOn_53 : decode cX10_goOn 53 = .ok (.aload_n 0, 1) := by decide +kernel
theorem dX10_goOn_54 : decode cX10_goOn 54 = .ok (.getfield 121, 3) := by decide +kernel
theorem dX10_goOn_57 : decode cX10_goOn 57 = .ok (.iload 6, 2) := by decide +kernel
theorem dX10_goOn_59 : decode cX10_goOn 59 = .ok (.baload, 1) := by decide +kernel
theorem dX10_goOn_60 : decode cX10_goOn 60 = .ok (.ifCond .ne 6, 3) := by decide +kernel
theorem dX10_goOn_63 : decode cX10_goOn 63 = .ok (.goto 88, 3) := by decide +kernel
theorem dX10_goOn_66 : decode cX10_goOn 66 = .ok (.bipush 32, 2) := by decide +kernel
theorem dX10_goOn_68 : decode cX10_goOn 68 = .ok (.iload 6, 2) := by decide +kernel
theorem dX10_goOn_70 : decode cX10_goOn 70 = .ok (.imul, 1) := by decide +kernel
theorem dX10_goOn_71 : decode cX10_goOn 71 = .ok (.aload_n 0, 1) := by decide +kernel
theorem dX10_goOn_72 : decode cX10_goOn 72 = .ok (.iload_n 1, 1) := by decide +kernel
theorem dX10_goOn_73 : decode cX10_goOn 73 = .ok (.bipush 32, 2) := by decide +kernel
theorem dX10_goOn_75 : decode cX10_goOn 75 = .ok (.irem, 1) := by decide +kernel
theorem dX10_goOn_76 : decode cX10_goOn 76 = .ok (.iload 6, 2) := by decide +kernel
theorem dX10_goOn_78 : decode cX10_goOn 78 = .ok (.invokevirtual 369, 3) := by decide +kernel
theorem dX10_goOn_81 : decode cX10_goOn 81 = .ok (.iadd, 1) := by decide +kernel
theorem dX10_goOn_82 : decode cX10_goOn 82 = .ok (.istore 7, 2) := by decide +kernel
theorem dX10_goOn_84 : decode cX10_goOn 84 = .ok (.aload_n 0, 1) := by decide +kernel
theorem dX10_goOn_85 : decode cX10_goOn 85 = .ok (.getfield 112, 3) := by decide +kernel
theorem dX10_goOn_88 : decode cX10_goOn 88 = .ok (.iload 7, 2) := by decide +kernel
theorem dX10_goOn_90 : decode cX10_goOn 90 = .ok (.iaload, 1) := by decide +kernel
theorem dX10_goOn_91 : decode cX10_goOn 91 = .ok (.iconst (-1), 1) := by decide +kernel
theorem dX10_goOn_92 : decode cX10_goOn 92 = .ok (.if_icmp .eq 6, 3) := by decide +kernel
theorem dX10_goOn_95 : decode cX10_goOn 95 = .ok (.goto 56, 3) := by decide +kernel
theorem dX10_goOn_98 : decode cX10_goOn 98 = .ok (.aload_n 0, 1) := by decide +kernel
theorem dX10_goOn_99 : decode cX10_goOn 99 = .ok (.getfield 112, 3) := by decide +kernel
theorem dX10_goOn_102 : decode cX10_goOn 102 = .ok (.iload 7, 2) := by decide +kernel
theorem dX10_goOn_104 : decode cX10_goOn 104 = .ok (.aload_n 0, 1) := by decide +kernel
theorem dX10_goOn_105 : decode cX10_goOn 105 = .ok (.getfield 112, 3) := by decide +kernel
theorem dX10_goOn_108 : decode cX10_goOn 108 = .ok (.iload_n 1, 1) := by decide +kernel
theorem dX10_goOn_109 : decode cX10_goOn 109 = .ok (.iaload, 1) := by decide +kernel
theorem dX10_goOn_110 : decode cX10_goOn 110 = .ok (.iconst 1, 1) := by decide +kernel
theorem dX10_goOn_111 : decode cX10_goOn 111 = .ok (.iadd, 1) := by decide +kernel
theorem dX10_goOn_112 : decode cX10_goOn 112 = .ok (.iastore, 1) := by decide +kernel
theorem dX10_goOn_113 : decode cX10_goOn 113 = .ok (.aload_n 0, 1) := by decide +kernel
theorem dX10_goOn_114 : decode cX10_goOn 114 = .ok (.getfield 106, 3) := by decide +kernel
theorem dX10_goOn_117 : decode cX10_goOn 117 = .ok (.iload 7, 2) := by decide +kernel
theorem dX10_goOn_119 : decode cX10_goOn 119 = .ok (.iload_n 1, 1) := by decide +kernel
theorem dX10_goOn_120 : decode cX10_goOn 120 = .ok (.iastore, 1) := by decide +kernel
theorem dX10_goOn_121 : decode cX10_goOn 121 = .ok (.aload_n 0, 1) := by decide +kernel
theorem dX10_goOn_122 : decode cX10_goOn 122 = .ok (.getfield 109, 3) := by decide +kernel
theorem dX10_goOn_125 : decode cX10_goOn 125 = .ok (.iload 7, 2) := by decide +kernel
theorem dX10_goOn_127 : decode cX10_goOn 127 = .ok (.iload 5, 2) := by decide +kernel
theorem dX10_goOn_129 : decode cX10_goOn 129 = .ok (.iastore, 1) := by decide +kernel
theorem dX10_goOn_130 : decode cX10_goOn 130 = .ok (.aload_n 0, 1) := by decide +kernel
theorem dX10_goOn_131 : decode cX10_goOn 131 = .ok (.getfield 115, 3) := by decide +kernel
theorem dX10_goOn_134 : decode cX10_goOn 134 = .ok (.aload_n 0, 1) := by decide +kernel
theorem dX10_goOn_135 : decode cX10_goOn 135 = .ok (.getfield 372, 3) := by decide +kernel
theorem dX10_goOn_138 : decode cX10_goOn 138 = .ok (.iload 7, 2) := by decide +kernel
theorem dX10_goOn_140 : decode cX10_goOn 140 = .ok (.iastore, 1) := by decide +kernel
theorem dX10_goOn_141 : decode cX10_goOn 141 = .ok (.aload_n 0, 1) := by decide +kernel
theorem dX10_goOn_142 : decode cX10_goOn 142 = .ok (.dup, 1) := by decide +kernel
theorem dX10_goOn_143 : decode cX10_goOn 143 = .ok (.getfield 372, 3) := by decide +kernel
theorem dX10_goOn_146 : decode cX10_goOn 146 = .ok (.iconst 1, 1) := by decide +kernel
theorem dX10_goOn_147 : decode cX10_goOn 147 = .ok (.iadd, 1) := by decide +kernel
theorem dX10_goOn_148 : decode cX10_goOn 148 = .ok (.putfield 372, 3) := by decide +kernel
theorem dX10_goOn_151 : decode cX10_goOn 151 = .ok (.iinc 5 1, 3) := by decide +kernel
theorem dX10_goOn_154 : decode cX10_goOn 154 = .ok (.goto (-139), 3) := by decide +kernel
theorem dX10_goOn_157 : decode cX10_goOn 157 = .ok (.return_, 1) := by decide +kernel
theorem sX10_goOn_0 {a0 a2 a3 a4 a5 a6 a7 : Value} {x : Int32} (h : am_R E d mX10_goOn k n 1 [a0, .int x, a2, a3, a4, a5, a6, a7] (.int x :: st) S iv Q) : am_R E d mX10_goOn k n 0 [a0, .int x, a2, a3, a4, a5, a6, a7] st S iv Q := am_iload_n dX10_goOn_0 rfl rfl h
theorem sX10_goOn_1 {a0 a1 a2 a3 a4 a5 a6 a7 : Value} (h : am_R E d mX10_goOn k n 3 [a0, a1, a2, a3, a4, a5, a6, a7] (.int 32 :: st) S iv Q) : am_R E d mX10_goOn k n 1 [a0, a1, a2, a3, a4, a5, a6, a7] st S iv Q := am_bipush dX10_goOn_1 (by decide) h
theorem sX10_goOn_3 {ls : List Value} {x y : Int32} (hy : ¬ y = 0) (h : am_R E d mX10_goOn k n 4 ls (.int (x / y) :: st) S iv Q) : am_R E d mX10_goOn k n 3 ls (.int y :: .int x :: st) S iv Q := am_idiv dX10_goOn_3 hy h
theorem sX10_goOn_4 {a0 a1 a2 a3 a4 a5 a6 a7 : Value} {x : Int32} (h : am_R E d mX10_goOn k n 5 [a0, a1, a2, .int x, a4, a5, a6, a7] st S iv Q) : am_R E d mX10_goOn k n 4 [a0, a1, a2, a3, a4, a5, a6, a7] (.int x :: st) S iv Q := am_istore_n dX10_goOn_4 rfl (by decide) h
theorem sX10_goOn_5 {a0 a1 a2 a3 a4 a5 a6 a7 : Value} (hv : am_rf a0 = true) (h : am_R E d mX10_goOn k n 6 [a0, a1, a2, a3, a4, a5, a6, a7] (a0 :: st) S iv Q) : am_R E d mX10_goOn k n 5 [a0, a1, a2, a3, a4, a5, a6, a7] st S iv Q := am_aload_n dX10_goOn_5 rfl rfl hv h
theorem sX10_goOn_6 {a0 a1 a2 a4 a5 a6 a7 : Value} {x : Int32} (h : am_R E d mX10_goOn k n 7 [a0, a1, a2, .int x, a4, a5, a6, a7] (.int x :: st) S iv Q) : am_R E d mX10_goOn k n 6 [a0, a1, a2, .int x, a4, a5, a6, a7] st S iv Q := am_iload_n dX10_goOn_6 rfl rfl h
theorem sX10_goOn_7 {ls : List Value} {x1 : Value} {a : Nat} (ha : S.1 a = some (.inl 10)) (hst : (st.map fun v => v.category).sum ≤ 8) (hM : am_M E d mX10_reachedBy 0 0 [.ref a, x1] S iv (am_K3 E (d + 1) mX10_goOn k n 7 ls st Q)) : am_R E (d + 1) mX10_goOn k n 7 ls (x1 :: .ref a :: st) S iv Q := am_cV (ci := 10) (M' := mX10_reachedBy) (as := [x1]) dX10_goOn_7 rfl rfl rfl wq_1031 wq_1032 wq_1033 wq_808 wq_1029 hy_X10_reachedBy (by decide) ha hst (by omega) (by omega) hM
theorem sX10_goOn_7_k {ls : List Value} {x1 : Value} {k' n' : Nat} {a : Nat} (ha : S.1 a = some (.inl 10)) (hst : (st.map fun v => v.category).sum ≤ 8) (hM : am_M E d mX10_reachedBy k' n' [.ref a, x1] S iv (am_K3 E (d + 1) mX10_goOn k n 7 ls st Q)) : am_R E (d + 1) mX10_goOn (k' + k) (n' + n) 7 ls (x1 :: .ref a :: st) S iv Q := am_cV (ci := 10) (M' := mX10_reachedBy) (as := [x1]) dX10_goOn_7 rfl rfl rfl wq_1031 wq_1032 wq_1033 wq_808 wq_1029 hy_X10_reachedBy (by decide) ha hst (by omega) (by omega) hM
theorem sX10_goOn_10 {a0 a1 a2 a3 a4 a5 a6 a7 : Value} {x : Int32} (h : am_R E d mX10_goOn k n 12 [a0, a1, a2, a3, .int x, a5, a6, a7] st S iv Q) : am_R E d mX10_goOn k n 10 [a0, a1, a2, a3, a4, a5, a6, a7] (.int x :: st) S iv Q := am_istore dX10_goOn_10 (by decide) h
theorem sX10_goOn_12 {a0 a1 a2 a3 a4 a5 a6 a7 : Value} (h : am_R E d mX10_goOn k n 13 [a0, a1, a2, a3, a4, a5, a6, a7] (.int 0 :: st) S iv Q) : am_R E d mX10_goOn k n 12 [a0, a1, a2, a3, a4, a5, a6, a7] st S iv Q := am_iconst dX10_goOn_12 (by decide) h
theorem sX10_goOn_13 {a0 a1 a2 a3 a4 a5 a6 a7 : Value} {x : Int32} (h : am_R E d mX10_goOn k n 15 [a0, a1, a2, a3, a4, .int x, a6, a7] st S iv Q) : am_R E d mX10_goOn k n 13 [a0, a1, a2, a3, a4, a5, a6, a7] (.int x :: st) S iv Q := am_istore dX10_goOn_13 (by decide) h
theorem sX10_goOn_15 {a0 a1 a2 a3 a4 a6 a7 : Value} {x : Int32} (h : am_R E d mX10_goOn k n 17 [a0, a1, a2, a3, a4, .int x, a6, a7] (.int x :: st) S iv Q) : am_R E d mX10_goOn k n 15 [a0, a1, a2, a3, a4, .int x, a6, a7] st S iv Q := am_iload dX10_goOn_15 rfl h
theorem sX10_goOn_17 {a0 a1 a2 a3 a4 a5 a6 a7 : Value} (hv : am_rf a0 = true) (h : am_R E d mX10_goOn k n 18 [a0, a1, a2, a3, a4, a5, a6, a7] (a0 :: st) S iv Q) : am_R E d mX10_goOn k n 17 [a0, a1, a2, a3, a4, a5, a6, a7] st S iv Q := am_aload_n dX10_goOn_17 rfl rfl hv h
theorem sX10_goOn_18 {ls : List Value} {a b : Nat} (ha : S.1 a = some (.inl 10)) (hb : S.2.1 a 4 = some b) (h : am_R E d mX10_goOn k n 21 ls (.ref b :: st) S iv Q) : am_R E d mX10_goOn k n 18 ls (.ref a :: st) S iv Q := am_getR (ci := 10) dX10_goOn_18 rfl rfl (by decide) wq_772 uq_10 rfl ha hb h
theorem sX10_goOn_21 {a0 a1 a2 a3 a4 a5 a6 a7 : Value} (h : am_R E d mX10_goOn k n 22 [a0, a1, a2, a3, a4, a5, a6, a7] (.int 2 :: st) S iv Q) : am_R E d mX10_goOn k n 21 [a0, a1, a2, a3, a4, a5, a6, a7] st S iv Q := am_iconst dX10_goOn_21 (by decide) h
theorem sX10_goOn_22 {ls : List Value} {a m : Nat} {i : Int32} (ha : S.1 a = some (.inr (.int, m))) (hi : vp_in i m) (h : am_R E d mX10_goOn k n 23 ls (.int (iv a i.toNatClampNeg) :: st) S iv Q) : am_R E d mX10_goOn k n 22 ls (.int i :: .ref a :: st) S iv Q := am_iaload dX10_goOn_22 ha hi h
theorem sX10_goOn_23 {ls : List Value} {x y : Int32} (kt : y ≤ x → am_R E d mX10_goOn k n 157 ls st S iv Q) (kf : ¬ y ≤ x → am_R E d mX10_goOn k n 26 ls st S iv Q) : am_R E d mX10_goOn k n 23 ls (.int y :: .int x :: st) S iv Q := am_icmp_ge dX10_goOn_23 (by decide) kt kf
theorem sX10_goOn_26 {a0 a1 a2 a4 a5 a6 a7 : Value} {x : Int32} (h : am_R E d mX10_goOn k n 27 [a0, a1, a2, .int x, a4, a5, a6, a7] (.int x :: st) S iv Q) : am_R E d mX10_goOn k n 26 [a0, a1, a2, .int x, a4, a5, a6, a7] st S iv Q := am_iload_n dX10_goOn_26 rfl rfl h
theorem sX10_goOn_27 {a0 a1 a2 a3 a4 a5 a6 a7 : Value} (h : am_R E d mX10_goOn k n 28 [a0, a1, a2, a3, a4, a5, a6, a7] (.int 1 :: st) S iv Q) : am_R E d mX10_goOn k n 27 [a0, a1, a2, a3, a4, a5, a6, a7] st S iv Q := am_iconst dX10_goOn_27 (by decide) h
theorem sX10_goOn_28 {a0 a1 a2 a3 a4 a6 a7 : Value} {x : Int32} (h : am_R E d mX10_goOn k n 30 [a0, a1, a2, a3, a4, .int x, a6, a7] (.int x :: st) S iv Q) : am_R E d mX10_goOn k n 28 [a0, a1, a2, a3, a4, .int x, a6, a7] st S iv Q := am_iload dX10_goOn_28 rfl h
theorem sX10_goOn_30 {ls : List Value} {x y : Int32} (h : am_R E d mX10_goOn k n 31 ls (.int (x <<< (y &&& 31)) :: st) S iv Q) : am_R E d mX10_goOn k n 30 ls (.int y :: .int x :: st) S iv Q := am_ishl dX10_goOn_30 h
theorem sX10_goOn_31 {ls : List Value} {x y : Int32} (h : am_R E d mX10_goOn k n 32 ls (.int (x ^^^ y) :: st) S iv Q) : am_R E d mX10_goOn k n 31 ls (.int y :: .int x :: st) S iv Q := am_ixor dX10_goOn_31 h
theorem sX10_goOn_32 {a0 a1 a2 a3 a4 a5 a6 a7 : Value} {x : Int32} (h : am_R E d mX10_goOn k n 34 [a0, a1, a2, a3, a4, a5, .int x, a7] st S iv Q) : am_R E d mX10_goOn k n 32 [a0, a1, a2, a3, a4, a5, a6, a7] (.int x :: st) S iv Q := am_istore dX10_goOn_32 (by decide) h
theorem sX10_goOn_34 {a0 a1 a3 a4 a5 a6 a7 : Value} {x : Int32} (h : am_R E d mX10_goOn k n 35 [a0, a1, .int x, a3, a4, a5, a6, a7] (.int x :: st) S iv Q) : am_R E d mX10_goOn k n 34 [a0, a1, .int x, a3, a4, a5, a6, a7] st S iv Q := am_iload_n dX10_goOn_34 rfl rfl h
theorem sX10_goOn_35 {a0 a1 a2 a3 a4 a6 a7 : Value} {x : Int32} (h : am_R E d mX10_goOn k n 37 [a0, a1, a2, a3, a4, .int x, a6, a7] (.int x :: st) S iv Q) : am_R E d mX10_goOn k n 35 [a0, a1, a2, a3, a4, .int x, a6, a7] st S iv Q := am_iload dX10_goOn_35 rfl h
theorem sX10_goOn_37 {ls : List Value} {x1 x2 : Value} (hst : (st.map fun v => v.category).sum ≤ 8) (hM : am_M E d mX10_has 0 0 [x1, x2] S iv (am_K3 E (d + 1) mX10_goOn k n 37 ls st Q)) : am_R E (d + 1) mX10_goOn k n 37 ls (x2 :: x1 :: st) S iv Q := am_cS (M' := mX10_has) (as := [x1, x2]) dX10_goOn_37 rfl wq_987 wq_988 wq_808 wq_985 hy_X10_has (by decide) hst (by omega) (by omega) hM
theorem sX10_goOn_37_k {ls : List Value} {x1 x2 : Value} {k' n' : Nat} (hst : (st.map fun v => v.category).sum ≤ 8) (hM : am_M E d mX10_has k' n' [x1, x2] S iv (am_K3 E (d + 1) mX10_goOn k n 37 ls st Q)) : am_R E (d + 1) mX10_goOn (k' + k) (n' + n) 37 ls (x2 :: x1 :: st) S iv Q := am_cS (M' := mX10_has) (as := [x1, x2]) dX10_goOn_37 rfl wq_987 wq_988 wq_808 wq_985 hy_X10_has (by decide) hst (by omega) (by omega) hM
theorem sX10_goOn_40 {ls : List Value} {x : Int32} (kt : ¬ x = 0 → am_R E d mX10_goOn k n 151 ls st S iv Q) (kf : x = 0 → am_R E d mX10_goOn k n 43 ls st S iv Q) : am_R E d mX10_goOn k n 40 ls (.int x :: st) S iv Q := am_if_ne dX10_goOn_40 (by decide) kt kf
theorem sX10_goOn_43 {a0 a1 a2 a3 a5 a6 a7 : Value} {x : Int32} (h : am_R E d mX10_goOn k n 45 [a0, a1, a2, a3, .int x, a5, a6, a7] (.int x :: st) S iv Q) : am_R E d mX10_goOn k n 43 [a0, a1, a2, a3, .int x, a5, a6, a7] st S iv Q := am_iload dX10_goOn_43 rfl h
theorem sX10_goOn_45 {a0 a1 a2 a3 a4 a6 a7 : Value} {x : Int32} (h : am_R E d mX10_goOn k n 47 [a0, a1, a2, a3, a4, .int x, a6, a7] (.int x :: st) S iv Q) : am_R E d mX10_goOn k n 45 [a0, a1, a2, a3, a4, .int x, a6, a7] st S iv Q := am_iload dX10_goOn_45 rfl h
theorem sX10_goOn_47 {ls : List Value} {x1 x2 : Value} (hst : (st.map fun v => v.category).sum ≤ 8) (hM : am_M E d mX10_has 0 0 [x1, x2] S iv (am_K3 E (d + 1) mX10_goOn k n 47 ls st Q)) : am_R E (d + 1) mX10_goOn k n 47 ls (x2 :: x1 :: st) S iv Q := am_cS (M' := mX10_has) (as := [x1, x2]) dX10_goOn_47 rfl wq_987 wq_988 wq_808 wq_985 hy_X10_has (by decide) hst (by omega) (by omega) hM
theorem sX10_goOn_47_k {ls : List Value} {x1 x2 : Value} {k' n' : Nat} (hst : (st.map fun v => v.category).sum ≤ 8) (hM : am_M E d mX10_has k' n' [x1, x2] S iv (am_K3 E (d + 1) mX10_goOn k n 47 ls st Q)) : am_R E (d + 1) mX10_goOn (k' + k) (n' + n) 47 ls (x2 :: x1 :: st) S iv Q := am_cS (M' := mX10_has) (as := [x1, x2]) dX10_goOn_47 rfl wq_987 wq_988 wq_808 wq_985 hy_X10_has (by decide) hst (by omega) (by omega) hM
theorem sX10_goOn_50 {ls : List Value} {x : Int32} (kt : x = 0 → am_R E d mX10_goOn k n 151 ls st S iv Q) (kf : ¬ x = 0 → am_R E d mX10_goOn k n 53 ls st S iv Q) : am_R E d mX10_goOn k n 50 ls (.int x :: st) S iv Q := am_if_eq dX10_goOn_50 (by decide) kt kf
theorem sX10_goOn_53 {a0 a1 a2 a3 a4 a5 a6 a7 : Value} (hv : am_rf a0 = true) (h : am_R E d mX10_goOn k n 54 [a0, a1, a2, a3, a4, a5, a6, a7] (a0 :: st) S iv Q) : am_R E d mX10_goOn k n 53 [a0, a1, a2, a3, a4, a5, a6, a7] st S iv Q := am_aload_n dX10_goOn_53 rfl rfl hv h
theorem sX10_goOn_54 {ls : List Value} {a b : Nat} (ha : S.1 a = some (.inl 10)) (hb : S.2.1 a 43 = some b) (h : am_R E d mX10_goOn k n 57 ls (.ref b :: st) S iv Q) : am_R E d mX10_goOn k n 54 ls (.ref a :: st) S iv Q := am_getR (ci := 10) dX10_goOn_54 rfl rfl (by decide) wq_799 uq_10 rfl ha hb h
theorem sX10_goOn_57 {a0 a1 a2 a3 a4 a5 a7 : Value} {x : Int32} (h : am_R E d mX10_goOn k n 59 [a0, a1, a2, a3, a4, a5, .int x, a7] (.int x :: st) S iv Q) : am_R E d mX10_goOn k n 57 [a0, a1, a2, a3, a4, a5, .int x, a7] st S iv Q := am_iload dX10_goOn_57 rfl h
theorem sX10_goOn_59 {ls : List Value} {a m : Nat} {i : Int32} (ha : S.1 a = some (.inr (.boolean, m))) (hi : vp_in i m) (h : am_R E d mX10_goOn k n 60 ls (.int (iv a i.toNatClampNeg) :: st) S iv Q) : am_R E d mX10_goOn k n 59 ls (.int i :: .ref a :: st) S iv Q := am_zaload dX10_goOn_59 ha hi h
theorem sX10_goOn_60 {ls : List Value} {x : Int32} (kt : ¬ x = 0 → am_R E d mX10_goOn k n 66 ls st S iv Q) (kf : x = 0 → am_R E d mX10_goOn k n 63 ls st S iv Q) : am_R E d mX10_goOn k n 60 ls (.int x :: st) S iv Q := am_if_ne dX10_goOn_60 (by decide) kt kf
theorem sX10_goOn_63 {ls : List Value} (h : am_R E d mX10_goOn k n 151 ls st S iv Q) : am_R E d mX10_goOn k n 63 ls st S iv Q := am_goto dX10_goOn_63 (by decide) h
theorem sX10_goOn_66 {a0 a1 a2 a3 a4 a5 a6 a7 : Value} (h : am_R E d mX10_goOn k n 68 [a0, a1, a2, a3, a4, a5, a6, a7] (.int 32 :: st) S iv Q) : am_R E d mX10_goOn k n 66 [a0, a1, a2, a3, a4, a5, a6, a7] st S iv Q := am_bipush dX10_goOn_66 (by decide) h
theorem sX10_goOn_68 {a0 a1 a2 a3 a4 a5 a7 : Value} {x : Int32} (h : am_R E d mX10_goOn k n 70 [a0, a1, a2, a3, a4, a5, .int x, a7] (.int x :: st) S iv Q) : am_R E d mX10_goOn k n 68 [a0, a1, a2, a3, a4, a5, .int x, a7] st S iv Q := am_iload dX10_goOn_68 rfl h
theorem sX10_goOn_70 {ls : List Value} {x y : Int32} (h : am_R E d mX10_goOn k n 71 ls (.int (x * y) :: st) S iv Q) : am_R E d mX10_goOn k n 70 ls (.int y :: .int x :: st) S iv Q := am_imul dX10_goOn_70 h
theorem sX10_goOn_71 {a0 a1 a2 a3 a4 a5 a6 a7 : Value} (hv : am_rf a0 = true) (h : am_R E d mX10_goOn k n 72 [a0, a1, a2, a3, a4, a5, a6, a7] (a0 :: st) S iv Q) : am_R E d mX10_goOn k n 71 [a0, a1, a2, a3, a4, a5, a6, a7] st S iv Q := am_aload_n dX10_goOn_71 rfl rfl hv h
theorem sX10_goOn_72 {a0 a2 a3 a4 a5 a6 a7 : Value} {x : Int32} (h : am_R E d mX10_goOn k n 73 [a0, .int x, a2, a3, a4, a5, a6, a7] (.int x :: st) S iv Q) : am_R E d mX10_goOn k n 72 [a0, .int x, a2, a3, a4, a5, a6, a7] st S iv Q := am_iload_n dX10_goOn_72 rfl rfl h
theorem sX10_goOn_73 {a0 a1 a2 a3 a4 a5 a6 a7 : Value} (h : am_R E d mX10_goOn k n 75 [a0, a1, a2, a3, a4, a5, a6, a7] (.int 32 :: st) S iv Q) : am_R E d mX10_goOn k n 73 [a0, a1, a2, a3, a4, a5, a6, a7] st S iv Q := am_bipush dX10_goOn_73 (by decide) h
theorem sX10_goOn_75 {ls : List Value} {x y : Int32} (hy : ¬ y = 0) (h : am_R E d mX10_goOn k n 76 ls (.int (x - x / y * y) :: st) S iv Q) : am_R E d mX10_goOn k n 75 ls (.int y :: .int x :: st) S iv Q := am_irem dX10_goOn_75 hy h
theorem sX10_goOn_76 {a0 a1 a2 a3 a4 a5 a7 : Value} {x : Int32} (h : am_R E d mX10_goOn k n 78 [a0, a1, a2, a3, a4, a5, .int x, a7] (.int x :: st) S iv Q) : am_R E d mX10_goOn k n 76 [a0, a1, a2, a3, a4, a5, .int x, a7] st S iv Q := am_iload dX10_goOn_76 rfl h
theorem sX10_goOn_78 {ls : List Value} {x1 x2 : Value} {a : Nat} (ha : S.1 a = some (.inl 10)) (hst : (st.map fun v => v.category).sum ≤ 8) (hM : am_M E d mX10_feedBy 0 0 [.ref a, x1, x2] S iv (am_K3 E (d + 1) mX10_goOn k n 78 ls st Q)) : am_R E (d + 1) mX10_goOn k n 78 ls (x2 :: x1 :: .ref a :: st) S iv Q := am_cV (ci := 10) (M' := mX10_feedBy) (as := [x1, x2]) dX10_goOn_78 rfl rfl rfl wq_1051 wq_1052 wq_1053 wq_808 wq_1049 hy_X10_feedBy (by decide) ha hst (by omega) (by omega) hM
theorem sX10_goOn_78_k {ls : List Value} {x1 x2 : Value} {k' n' : Nat} {a : Nat} (ha : S.1 a = some (.inl 10)) (hst : (st.map fun v => v.category).sum ≤ 8) (hM : am_M E d mX10_feedBy k' n' [.ref a, x1, x2] S iv (am_K3 E (d + 1) mX10_goOn k n 78 ls st Q)) : am_R E (d + 1) mX10_goOn (k' + k) (n' + n) 78 ls (x2 :: x1 :: .ref a :: st) S iv Q := am_cV (ci := 10) (M' := mX10_feedBy) (as := [x1, x2]) dX10_goOn_78 rfl rfl rfl wq_1051 wq_1052 wq_1053 wq_808 wq_1049 hy_X10_feedBy (by decide) ha hst (by omega) (by omega) hM
theorem sX10_goOn_81 {ls : List Value} {x y : Int32} (h : am_R E d mX10_goOn k n 82 ls (.int (x + y) :: st) S iv Q) : am_R E d mX10_goOn k n 81 ls (.int y :: .int x :: st) S iv Q := am_iadd dX10_goOn_81 h
theorem sX10_goOn_82 {a0 a1 a2 a3 a4 a5 a6 a7 : Value} {x : Int32} (h : am_R E d mX10_goOn k n 84 [a0, a1, a2, a3, a4, a5, a6, .int x] st S iv Q) : am_R E d mX10_goOn k n 82 [a0, a1, a2, a3, a4, a5, a6, a7] (.int x :: st) S iv Q := am_istore dX10_goOn_82 (by decide) h
theorem sX10_goOn_84 {a0 a1 a2 a3 a4 a5 a6 a7 : Value} (hv : am_rf a0 = true) (h : am_R E d mX10_goOn k n 85 [a0, a1, a2, a3, a4, a5, a6, a7] (a0 :: st) S iv Q) : am_R E d mX10_goOn k n 84 [a0, a1, a2, a3, a4, a5, a6, a7] st S iv Q := am_aload_n dX10_goOn_84 rfl rfl hv h
theorem sX10_goOn_85 {ls : List Value} {a b : Nat} (ha : S.1 a = some (.inl 10)) (hb : S.2.1 a 40 = some b) (h : am_R E d mX10_goOn k n 88 ls (.ref b :: st) S iv Q) : am_R E d mX10_goOn k n 85 ls (.ref a :: st) S iv Q := am_getR (ci := 10) dX10_goOn_85 rfl rfl (by decide) wq_795 uq_10 rfl ha hb h
theorem sX10_goOn_88 {a0 a1 a2 a3 a4 a5 a6 : Value} {x : Int32} (h : am_R E d mX10_goOn k n 90 [a0, a1, a2, a3, a4, a5, a6, .int x] (.int x :: st) S iv Q) : am_R E d mX10_goOn k n 88 [a0, a1, a2, a3, a4, a5, a6, .int x] st S iv Q := am_iload dX10_goOn_88 rfl h
theorem sX10_goOn_90 {ls : List Value} {a m : Nat} {i : Int32} (ha : S.1 a = some (.inr (.int, m))) (hi : vp_in i m) (h : am_R E d mX10_goOn k n 91 ls (.int (iv a i.toNatClampNeg) :: st) S iv Q) : am_R E d mX10_goOn k n 90 ls (.int i :: .ref a :: st) S iv Q := am_iaload dX10_goOn_90 ha hi h
theorem sX10_goOn_91 {a0 a1 a2 a3 a4 a5 a6 a7 : Value} (h : am_R E d mX10_goOn k n 92 [a0, a1, a2, a3, a4, a5, a6, a7] (.int (-1) :: st) S iv Q) : am_R E d mX10_goOn k n 91 [a0, a1, a2, a3, a4, a5, a6, a7] st S iv Q := am_iconst dX10_goOn_91 (by decide) h
theorem sX10_goOn_92 {ls : List Value} {x y : Int32} (kt : x = y → am_R E d mX10_goOn k n 98 ls st S iv Q) (kf : ¬ x = y → am_R E d mX10_goOn k n 95 ls st S iv Q) : am_R E d mX10_goOn k n 92 ls (.int y :: .int x :: st) S iv Q := am_icmp_eq dX10_goOn_92 (by decide) kt kf
theorem sX10_goOn_95 {ls : List Value} (h : am_R E d mX10_goOn k n 151 ls st S iv Q) : am_R E d mX10_goOn k n 95 ls st S iv Q := am_goto dX10_goOn_95 (by decide) h
theorem sX10_goOn_98 {a0 a1 a2 a3 a4 a5 a6 a7 : Value} (hv : am_rf a0 = true) (h : am_R E d mX10_goOn k n 99 [a0, a1, a2, a3, a4, a5, a6, a7] (a0 :: st) S iv Q) : am_R E d mX10_goOn k n 98 [a0, a1, a2, a3, a4, a5, a6, a7] st S iv Q := am_aload_n dX10_goOn_98 rfl rfl hv h
theorem sX10_goOn_99 {ls : List Value} {a b : Nat} (ha : S.1 a = some (.inl 10)) (hb : S.2.1 a 40 = some b) (h : am_R E d mX10_goOn k n 102 ls (.ref b :: st) S iv Q) : am_R E d mX10_goOn k n 99 ls (.ref a :: st) S iv Q := am_getR (ci := 10) dX10_goOn_99 rfl rfl (by decide) wq_795 uq_10 rfl ha hb h
theorem sX10_goOn_102 {a0 a1 a2 a3 a4 a5 a6 : Value} {x : Int32} (h : am_R E d mX10_goOn k n 104 [a0, a1, a2, a3, a4, a5, a6, .int x] (.int x :: st) S iv Q) : am_R E d mX10_goOn k n 102 [a0, a1, a2, a3, a4, a5, a6, .int x] st S iv Q := am_iload dX10_goOn_102 rfl h
theorem sX10_goOn_104 {a0 a1 a2 a3 a4 a5 a6 a7 : Value} (hv : am_rf a0 = true) (h : am_R E d mX10_goOn k n 105 [a0, a1, a2, a3, a4, a5, a6, a7] (a0 :: st) S iv Q) : am_R E d mX10_goOn k n 104 [a0, a1, a2, a3, a4, a5, a6, a7] st S iv Q := am_aload_n dX10_goOn_104 rfl rfl hv h
theorem sX10_goOn_105 {ls : List Value} {a b : Nat} (ha : S.1 a = some (.inl 10)) (hb : S.2.1 a 40 = some b) (h : am_R E d mX10_goOn k n 108 ls (.ref b :: st) S iv Q) : am_R E d mX10_goOn k n 105 ls (.ref a :: st) S iv Q := am_getR (ci := 10) dX10_goOn_105 rfl rfl (by decide) wq_795 uq_10 rfl ha hb h
theorem sX10_goOn_108 {a0 a2 a3 a4 a5 a6 a7 : Value} {x : Int32} (h : am_R E d mX10_goOn k n 109 [a0, .int x, a2, a3, a4, a5, a6, a7] (.int x :: st) S iv Q) : am_R E d mX10_goOn k n 108 [a0, .int x, a2, a3, a4, a5, a6, a7] st S iv Q := am_iload_n dX10_goOn_108 rfl rfl h
theorem sX10_goOn_109 {ls : List Value} {a m : Nat} {i : Int32} (ha : S.1 a = some (.inr (.int, m))) (hi : vp_in i m) (h : am_R E d mX10_goOn k n 110 ls (.int (iv a i.toNatClampNeg) :: st) S iv Q) : am_R E d mX10_goOn k n 109 ls (.int i :: .ref a :: st) S iv Q := am_iaload dX10_goOn_109 ha hi h
theorem sX10_goOn_110 {a0 a1 a2 a3 a4 a5 a6 a7 : Value} (h : am_R E d mX10_goOn k n 111 [a0, a1, a2, a3, a4, a5, a6, a7] (.int 1 :: st) S iv Q) : am_R E d mX10_goOn k n 110 [a0, a1, a2, a3, a4, a5, a6, a7] st S iv Q := am_iconst dX10_goOn_110 (by decide) h
theorem sX10_goOn_111 {ls : List Value} {x y : Int32} (h : am_R E d mX10_goOn k n 112 ls (.int (x + y) :: st) S iv Q) : am_R E d mX10_goOn k n 111 ls (.int y :: .int x :: st) S iv Q := am_iadd dX10_goOn_111 h
theorem sX10_goOn_112 {ls : List Value} {a m : Nat} {i x : Int32} (ha : S.1 a = some (.inr (.int, m))) (hi : vp_in i m) (h : am_R E d mX10_goOn k n 113 ls st S (am_w iv a i.toNatClampNeg x) Q) : am_R E d mX10_goOn k n 112 ls (.int x :: .int i :: .ref a :: st) S iv Q := am_iastore dX10_goOn_112 ha hi h
theorem sX10_goOn_113 {a0 a1 a2 a3 a4 a5 a6 a7 : Value} (hv : am_rf a0 = true) (h : am_R E d mX10_goOn k n 114 [a0, a1, a2, a3, a4, a5, a6, a7] (a0 :: st) S iv Q) : am_R E d mX10_goOn k n 113 [a0, a1, a2, a3, a4, a5, a6, a7] st S iv Q := am_aload_n dX10_goOn_113 rfl rfl hv h
theorem sX10_goOn_114 {ls : List Value} {a b : Nat} (ha : S.1 a = some (.inl 10)) (hb : S.2.1 a 38 = some b) (h : am_R E d mX10_goOn k n 117 ls (.ref b :: st) S iv Q) : am_R E d mX10_goOn k n 114 ls (.ref a :: st) S iv Q := am_getR (ci := 10) dX10_goOn_114 rfl rfl (by decide) wq_793 uq_10 rfl ha hb h
theorem sX10_goOn_117 {a0 a1 a2 a3 a4 a5 a6 : Value} {x : Int32} (h : am_R E d mX10_goOn k n 119 [a0, a1, a2, a3, a4, a5, a6, .int x] (.int x :: st) S iv Q) : am_R E d mX10_goOn k n 117 [a0, a1, a2, a3, a4, a5, a6, .int x] st S iv Q := am_iload dX10_goOn_117 rfl h
theorem sX10_goOn_119 {a0 a2 a3 a4 a5 a6 a7 : Value} {x : Int32} (h : am_R E d mX10_goOn k n 120 [a0, .int x, a2, a3, a4, a5, a6, a7] (.int x :: st) S iv Q) : am_R E d mX10_goOn k n 119 [a0, .int x, a2, a3, a4, a5, a6, a7] st S iv Q := am_iload_n dX10_goOn_119 rfl rfl h
theorem sX10_goOn_120 {ls : List Value} {a m : Nat} {i x : Int32} (ha : S.1 a = some (.inr (.int, m))) (hi : vp_in i m) (h : am_R E d mX10_goOn k n 121 ls st S (am_w iv a i.toNatClampNeg x) Q) : am_R E d mX10_goOn k n 120 ls (.int x :: .int i :: .ref a :: st) S iv Q := am_iastore dX10_goOn_120 ha hi h
theorem sX10_goOn_121 {a0 a1 a2 a3 a4 a5 a6 a7 : Value} (hv : am_rf a0 = true) (h : am_R E d mX10_goOn k n 122 [a0, a1, a2, a3, a4, a5, a6, a7] (a0 :: st) S iv Q) : am_R E d mX10_goOn k n 121 [a0, a1, a2, a3, a4, a5, a6, a7] st S iv Q := am_aload_n dX10_goOn_121 rfl rfl hv h
theorem sX10_goOn_122 {ls : List Value} {a b : Nat} (ha : S.1 a = some (.inl 10)) (hb : S.2.1 a 39 = some b) (h : am_R E d mX10_goOn k n 125 ls (.ref b :: st) S iv Q) : am_R E d mX10_goOn k n 122 ls (.ref a :: st) S iv Q := am_getR (ci := 10) dX10_goOn_122 rfl rfl (by decide) wq_794 uq_10 rfl ha hb h
theorem sX10_goOn_125 {a0 a1 a2 a3 a4 a5 a6 : Value} {x : Int32} (h : am_R E d mX10_goOn k n 127 [a0, a1, a2, a3, a4, a5, a6, .int x] (.int x :: st) S iv Q) : am_R E d mX10_goOn k n 125 [a0, a1, a2, a3, a4, a5, a6, .int x] st S iv Q := am_iload dX10_goOn_125 rfl h
theorem sX10_goOn_127 {a0 a1 a2 a3 a4 a6 a7 : Value} {x : Int32} (h : am_R E d mX10_goOn k n 129 [a0, a1, a2, a3, a4, .int x, a6, a7] (.int x :: st) S iv Q) : am_R E d mX10_goOn k n 127 [a0, a1, a2, a3, a4, .int x, a6, a7] st S iv Q := am_iload dX10_goOn_127 rfl h
theorem sX10_goOn_129 {ls : List Value} {a m : Nat} {i x : Int32} (ha : S.1 a = some (.inr (.int, m))) (hi : vp_in i m) (h : am_R E d mX10_goOn k n 130 ls st S (am_w iv a i.toNatClampNeg x) Q) : am_R E d mX10_goOn k n 129 ls (.int x :: .int i :: .ref a :: st) S iv Q := am_iastore dX10_goOn_129 ha hi h
theorem sX10_goOn_130 {a0 a1 a2 a3 a4 a5 a6 a7 : Value} (hv : am_rf a0 = true) (h : am_R E d mX10_goOn k n 131 [a0, a1, a2, a3, a4, a5, a6, a7] (a0 :: st) S iv Q) : am_R E d mX10_goOn k n 130 [a0, a1, a2, a3, a4, a5, a6, a7] st S iv Q := am_aload_n dX10_goOn_130 rfl rfl hv h
theorem sX10_goOn_131 {ls : List Value} {a b : Nat} (ha : S.1 a = some (.inl 10)) (hb : S.2.1 a 41 = some b) (h : am_R E d mX10_goOn k n 134 ls (.ref b :: st) S iv Q) : am_R E d mX10_goOn k n 131 ls (.ref a :: st) S iv Q := am_getR (ci := 10) dX10_goOn_131 rfl rfl (by decide) wq_796 uq_10 rfl ha hb h
theorem sX10_goOn_134 {a0 a1 a2 a3 a4 a5 a6 a7 : Value} (hv : am_rf a0 = true) (h : am_R E d mX10_goOn k n 135 [a0, a1, a2, a3, a4, a5, a6, a7] (a0 :: st) S iv Q) : am_R E d mX10_goOn k n 134 [a0, a1, a2, a3, a4, a5, a6, a7] st S iv Q := am_aload_n dX10_goOn_134 rfl rfl hv h
theorem sX10_goOn_135 {ls : List Value} {a : Nat} (ha : S.1 a = some (.inl 10)) (h : am_R E d mX10_goOn k n 138 ls (.int (iv a 44) :: st) S iv Q) : am_R E d mX10_goOn k n 135 ls (.ref a :: st) S iv Q := am_getI (ci := 10) dX10_goOn_135 rfl rfl (by decide) wq_1054 uq_10 rfl ha h
theorem sX10_goOn_138 {a0 a1 a2 a3 a4 a5 a6 : Value} {x : Int32} (h : am_R E d mX10_goOn k n 140 [a0, a1, a2, a3, a4, a5, a6, .int x] (.int x :: st) S iv Q) : am_R E d mX10_goOn k n 138 [a0, a1, a2, a3, a4, a5, a6, .int x] st S iv Q := am_iload dX10_goOn_138 rfl h
theorem sX10_goOn_140 {ls : List Value} {a m : Nat} {i x : Int32} (ha : S.1 a = some (.inr (.int, m))) (hi : vp_in i m) (h : am_R E d mX10_goOn k n 141 ls st S (am_w iv a i.toNatClampNeg x) Q) : am_R E d mX10_goOn k n 140 ls (.int x :: .int i :: .ref a :: st) S iv Q := am_iastore dX10_goOn_140 ha hi h
theorem sX10_goOn_141 {a0 a1 a2 a3 a4 a5 a6 a7 : Value} (hv : am_rf a0 = true) (h : am_R E d mX10_goOn k n 142 [a0, a1, a2, a3, a4, a5, a6, a7] (a0 :: st) S iv Q) : am_R E d mX10_goOn k n 141 [a0, a1, a2, a3, a4, a5, a6, a7] st S iv Q := am_aload_n dX10_goOn_141 rfl rfl hv h
theorem sX10_goOn_142 {ls : List Value} {x : Value} (hv : x.category = 1) (h : am_R E d mX10_goOn k n 143 ls (x :: x :: st) S iv Q) : am_R E d mX10_goOn k n 142 ls (x :: st) S iv Q := am_dup dX10_goOn_142 hv h
theorem sX10_goOn_143 {ls : List Value} {a : Nat} (ha : S.1 a = some (.inl 10)) (h : am_R E d mX10_goOn k n 146 ls (.int (iv a 44) :: st) S iv Q) : am_R E d mX10_goOn k n 143 ls (.ref a :: st) S iv Q := am_getI (ci := 10) dX10_goOn_143 rfl rfl (by decide) wq_1054 uq_10 rfl ha h
theorem sX10_goOn_146 {a0 a1 a2 a3 a4 a5 a6 a7 : Value} (h : am_R E d mX10_goOn k n 147 [a0, a1, a2, a3, a4, a5, a6, a7] (.int 1 :: st) S iv Q) : am_R E d mX10_goOn k n 146 [a0, a1, a2, a3, a4, a5, a6, a7] st S iv Q := am_iconst dX10_goOn_146 (by decide) h
theorem sX10_goOn_147 {ls : List Value} {x y : Int32} (h : am_R E d mX10_goOn k n 148 ls (.int (x + y) :: st) S iv Q) : am_R E d mX10_goOn k n 147 ls (.int y :: .int x :: st) S iv Q := am_iadd dX10_goOn_147 h
theorem sX10_goOn_148 {ls : List Value} {a : Nat} {x : Int32} (ha : S.1 a = some (.inl 10)) (h : am_R E d mX10_goOn k n 151 ls st S (am_w iv a 44 x) Q) : am_R E d mX10_goOn k n 148 ls (.int x :: .ref a :: st) S iv Q := am_putI (ci := 10) dX10_goOn_148 rfl rfl (by decide) wq_1054 uq_10 tyX10_ok nmX10 (Or.inl rfl) rfl ha h
theorem sX10_goOn_151 {a0 a1 a2 a3 a4 a6 a7 : Value} {x : Int32} (h : am_R E d mX10_goOn k n 154 [a0, a1, a2, a3, a4, .int (x + 1), a6, a7] st S iv Q) : am_R E d mX10_goOn k n 151 [a0, a1, a2, a3, a4, .int x, a6, a7] st S iv Q := am_iinc dX10_goOn_151 rfl rfl (by decide) h
theorem sX10_goOn_154 {ls : List Value} (h : am_R E d mX10_goOn k n 15 ls st S iv Q) : am_R E d mX10_goOn k n 154 ls st S iv Q := am_goto dX10_goOn_154 (by decide) h
theorem sX10_goOn_157 {ls : List Value} (h : Q (.inl none) S iv) : am_R E d mX10_goOn k n 157 ls [] S iv Q := am_return dX10_goOn_157 rfl h
theorem dX10_wanting_0 : decode cX10_wanting 0 = .ok (.iconst 0, 1) := by decide +kernel
theorem dX10_wanting_1 : decode cX10_wanting 1 = .ok (.istore_n 1, 1) := by decide +kernel
theorem dX10_wanting_2 : decode cX10_wanting 2 = .ok (.iconst 0, 1) := by decide +kernel
theorem dX10_wanting_3 : decode cX10_wanting 3 = .ok (.istore_n 2, 1) := by decide +kernel
theorem dX10_wanting_4 : decode cX10_wanting 4 = .ok (.iload_n 2, 1) := by decide +kernel
theorem dX10_wanting_5 : decode cX10_wanting 5 = .ok (.aload_n 0, 1) := by decide +kernel
theorem dX10_wanting_6 : decode cX10_wanting 6 = .ok (.getfield 49, 3) := by decide +kernel
theorem dX10_wanting_9 : decode cX10_wanting 9 = .ok (.iconst 3, 1) := by decide +kernel
theorem dX10_wanting_10 : decode cX10_wanting 10 = .ok (.iaload, 1) := by decide +kernel
theorem dX10_wanting_11 : decode cX10_wanting 11 = .ok (.if_icmp .ge 29, 3) := by decide +kernel
theorem dX10_wanting_14 : decode cX10_wanting 14 = .ok (.iload_n 1, 1) := by decide +kernel
theorem dX10_wanting_15 : decode cX10_wanting 15 = .ok (.aload_n 0, 1) := by decide +kernel
theorem dX10_wanting_16 : decode cX10_wanting 16 = .ok (.getfield 66, 3) := by decide +kernel
theorem dX10_wanting_19 : decode cX10_wanting 19 = .ok (.iload_n 2, 1) := by decide +kernel
theorem dX10_wanting_20 : decode cX10_wanting 20 = .ok (.iaload, 1) := by decide +kernel
theorem dX10_wanting_21 : decode cX10_wanting 21 = .ok (.iconst (-1), 1) := by decide +kernel
theorem dX10_wanting_22 : decode cX10_wanting 22 = .ok (.if_icmp .eq 9, 3) := by decide +kernel
theorem dX10_wanting_25 : decode cX10_wanting 25 = .ok (.iconst 1, 1) := by decide +kernel
theorem dX10_wanting_26 : decode cX10_wanting 26 = .ok (.iload_n 2, 1) := by decide +kernel
theorem dX10_wanting_27 : decode cX10_wanting 27 = .ok (.ishl, 1) := by decide +kernel
theorem dX10_wanting_28 : decode cX10_wanting 28 = .ok (.goto 4, 3) := by decide +kernel
theorem dX10_wanting_31 : decode cX10_wanting 31 = .ok (.iconst 0, 1) := by decide +kernel
theorem dX10_wanting_32 : decode cX10_wanting 32 = .ok (.ior, 1) := by decide +kernel
theorem dX10_wanting_33 : decode cX10_wanting 33 = .ok (.istore_n 1, 1) := by decide +kernel
theorem dX10_wanting_34 : decode cX10_wanting 34 = .ok (.iinc 2 1, 3) := by decide +kernel
theorem dX10_wanting_37 : decode cX10_wanting 37 = .ok (.goto (-33), 3) := by decide +kernel
theorem dX10_wanting_40 : decode cX10_wanting 40 = .ok (.iload_n 1, 1) := by decide +kernel
theorem dX10_wanting_41 : decode cX10_wanting 41 = .ok (.ireturn, 1) := by decide +kernel
theorem sX10_wanting_0 {a0 a1 a2 : Value} (h : am_R E d mX10_wanting k n 1 [a0, a1, a2] (.int 0 :: st) S iv Q) : am_R E d mX10_wanting k n 0 [a0, a1, a2] st S iv Q := am_iconst dX10_wanting_0 (by decide) h
theorem sX10_wanting_1 {a0 a1 a2 : Value} {x : Int32} (h : am_R E d mX10_wanting k n 2 [a0, .int x, a2] st S iv Q) : am_R E d mX10_wanting k n 1 [a0, a1, a2] (.int x :: st) S iv Q := am_istore_n dX10_wanting_1 rfl (by decide) h
theorem sX10_wanting_2 {a0 a1 a2 : Value} (h : am_R E d mX10_wanting k n 3 [a0, a1, a2] (.int 0 :: st) S iv Q) : am_R E d mX10_wanting k n 2 [a0, a1, a2] st S iv Q := am_iconst dX10_wanting_2 (by decide) h
theorem sX10_wanting_3 {a0 a1 a2 : Value} {x : Int32} (h : am_R E d mX10_wanting k n 4 [a0, a1, .int x] st S iv Q) : am_R E d mX10_wanting k n 3 [a0, a1, a2] (.int x :: st) S iv Q := am_istore_n dX10_wanting_3 rfl (by decide) h
theorem sX10_wanting_4 {a0 a1 : Value} {x : Int32} (h : am_R E d mX10_wanting k n 5 [a0, a1, .int x] (.int x :: st) S iv Q) : am_R E d mX10_wanting k n 4 [a0, a1, .int x] st S iv Q := am_iload_n dX10_wanting_4 rfl rfl h
theorem sX10_wanting_5 {a0 a1 a2 : Value} (hv : am_rf a0 = true) (h : am_R E d mX10_wanting k n 6 [a0, a1, a2] (a0 :: st) S iv Q) : am_R E d mX10_wanting k n 5 [a0, a1, a2] st S iv Q := am_aload_n dX10_wanting_5 rfl rfl hv h
theorem sX10_wanting_6 {ls : List Value} {a b : Nat} (ha : S.1 a = some (.inl 10)) (hb : S.2.1 a 4 = some b) (h : am_R E d mX10_wanting k n 9 ls (.ref b :: st) S iv Q) : am_R E d mX10_wanting k n 6 ls (.ref a :: st) S iv Q := am_getR (ci := 10) dX10_wanting_6 rfl rfl (by decide) wq_772 uq_10 rfl ha hb h
theorem sX10_wanting_9 {a0 a1 a2 : Value} (h : am_R E d mX10_wanting k n 10 [a0, a1, a2] (.int 3 :: st) S iv Q) : am_R E d mX10_wanting k n 9 [a0, a1, a2] st S iv Q := am_iconst dX10_wanting_9 (by decide) h
theorem sX10_wanting_10 {ls : List Value} {a m : Nat} {i : Int32} (ha : S.1 a = some (.inr (.int, m))) (hi : vp_in i m) (h : am_R E d mX10_wanting k n 11 ls (.int (iv a i.toNatClampNeg) :: st) S iv Q) : am_R E d mX10_wanting k n 10 ls (.int i :: .ref a :: st) S iv Q := am_iaload dX10_wanting_10 ha hi h
theorem sX10_wanting_11 {ls : List Value} {x y : Int32} (kt : y ≤ x → am_R E d mX10_wanting k n 40 ls st S iv Q) (kf : ¬ y ≤ x → am_R E d mX10_wanting k n 14 ls st S iv Q) : am_R E d mX10_wanting k n 11 ls (.int y :: .int x :: st) S iv Q := am_icmp_ge dX10_wanting_11 (by decide) kt kf
theorem sX10_wanting_14 {a0 a2 : Value} {x : Int32} (h : am_R E d mX10_wanting k n 15 [a0, .int x, a2] (.int x :: st) S iv Q) : am_R E d mX10_wanting k n 14 [a0, .int x, a2] st S iv Q := am_iload_n dX10_wanting_14 rfl rfl h
theorem sX10_wanting_15 {a0 a1 a2 : Value} (hv : am_rf a0 = true) (h : am_R E d mX10_wanting k n 16 [a0, a1, a2] (a0 :: st) S iv Q) : am_R E d mX10_wanting k n 15 [a0, a1, a2] st S iv Q := am_aload_n dX10_wanting_15 rfl rfl hv h
theorem sX10_wanting_16 {ls : List Value} {a b : Nat} (ha : S.1 a = some (.inl 10)) (hb : S.2.1 a 11 = some b) (h : am_R E d mX10_wanting k n 19 ls (.ref b :: st) S iv Q) : am_R E d mX10_wanting k n 16 ls (.ref a :: st) S iv Q := am_getR (ci := 10) dX10_wanting_16 rfl rfl (by decide) wq_779 uq_10 rfl ha hb h
theorem sX10_wanting_19 {a0 a1 : Value} {x : Int32} (h : am_R E d mX10_wanting k n 20 [a0, a1, .int x] (.int x :: st) S iv Q) : am_R E d mX10_wanting k n 19 [a0, a1, .int x] st S iv Q := am_iload_n dX10_wanting_19 rfl rfl h
theorem sX10_wanting_20 {ls : List Value} {a m : Nat} {i : Int32} (ha : S.1 a = some (.inr (.int, m))) (hi : vp_in i m) (h : am_R E d mX10_wanting k n 21 ls (.int (iv a i.toNatClampNeg) :: st) S iv Q) : am_R E d mX10_wanting k n 20 ls (.int i :: .ref a :: st) S iv Q := am_iaload dX10_wanting_20 ha hi h
theorem sX10_wanting_21 {a0 a1 a2 : Value} (h : am_R E d mX10_wanting k n 22 [a0, a1, a2] (.int (-1) :: st) S iv Q) : am_R E d mX10_wanting k n 21 [a0, a1, a2] st S iv Q := am_iconst dX10_wanting_21 (by decide) h
theorem sX10_wanting_22 {ls : List Value} {x y : Int32} (kt : x = y → am_R E d mX10_wanting k n 31 ls st S iv Q) (kf : ¬ x = y → am_R E d mX10_wanting k n 25 ls st S iv Q) : am_R E d mX10_wanting k n 22 ls (.int y :: .int x :: st) S iv Q := am_icmp_eq dX10_wanting_22 (by decide) kt kf
theorem sX10_wanting_25 {a0 a1 a2 : Value} (h : am_R E d mX10_wanting k n 26 [a0, a1, a2] (.int 1 :: st) S iv Q) : am_R E d mX10_wanting k n 25 [a0, a1, a2] st S iv Q := am_iconst dX10_wanting_25 (by decide) h
theorem sX10_wanting_26 {a0 a1 : Value} {x : Int32} (h : am_R E d mX10_wanting k n 27 [a0, a1, .int x] (.int x :: st) S iv Q) : am_R E d mX10_wanting k n 26 [a0, a1, .int x] st S iv Q := am_iload_n dX10_wanting_26 rfl rfl h
theorem sX10_wanting_27 {ls : List Value} {x y : Int32} (h : am_R E d mX10_wanting k n 28 ls (.int (x <<< (y &&& 31)) :: st) S iv Q) : am_R E d mX10_wanting k n 27 ls (.int y :: .int x :: st) S iv Q := am_ishl dX10_wanting_27 h
theorem sX10_wanting_28 {ls : List Value} (h : am_R E d mX10_wanting k n 32 ls st S iv Q) : am_R E d mX10_wanting k n 28 ls st S iv Q := am_goto dX10_wanting_28 (by decide) h
theorem sX10_wanting_31 {a0 a1 a2 : Value} (h : am_R E d mX10_wanting k n 32 [a0, a1, a2] (.int 0 :: st) S iv Q) : am_R E d mX10_wanting k n 31 [a0, a1, a2] st S iv Q := am_iconst dX10_wanting_31 (by decide) h
theorem sX10_wanting_32 {ls : List Value} {x y : Int32} (h : am_R E d mX10_wanting k n 33 ls (.int (x ||| y) :: st) S iv Q) : am_R E d mX10_wanting k n 32 ls (.int y :: .int x :: st) S iv Q := am_ior dX10_wanting_32 h
theorem sX10_wanting_33 {a0 a1 a2 : Value} {x : Int32} (h : am_R E d mX10_wanting k n 34 [a0, .int x, a2] st S iv Q) : am_R E d mX10_wanting k n 33 [a0, a1, a2] (.int x :: st) S iv Q := am_istore_n dX10_wanting_33 rfl (by decide) h
theorem sX10_wanting_34 {a0 a1 : Value} {x : Int32} (h : am_R E d mX10_wanting k n 37 [a0, a1, .int (x + 1)] st S iv Q) : am_R E d mX10_wanting k n 34 [a0, a1, .int x] st S iv Q := am_iinc dX10_wanting_34 rfl rfl (by decide) h
theorem sX10_wanting_37 {ls : List Value} (h : am_R E d mX10_wanting k n 4 ls st S iv Q) : am_R E d mX10_wanting k n 37 ls st S iv Q := am_goto dX10_wanting_37 (by decide) h
theorem sX10_wanting_40 {a0 a2 : Value} {x : Int32} (h : am_R E d mX10_wanting k n 41 [a0, .int x, a2] (.int x :: st) S iv Q) : am_R E d mX10_wanting k n 40 [a0, .int x, a2] st S iv Q := am_iload_n dX10_wanting_40 rfl rfl h
theorem sX10_wanting_41 {ls : List Value} {x : Int32} (h : Q (.inl (some (.int x))) S iv) : am_R E d mX10_wanting k n 41 ls [.int x] S iv Q := am_ireturn dX10_wanting_41 rfl h
theorem dX10_isWanted_0 : decode cX10_isWanted 0 = .ok (.iload_n 2, 1) := by decide +kernel
theorem dX10_isWanted_1 : decode cX10_isWanted 1 = .ok (.iconst 2, 1) := by decide +kernel
theorem dX10_isWanted_2 : decode cX10_isWanted 2 = .ok (.if_icmp .ne 23, 3) := by decide +kernel
theorem dX10_isWanted_5 : decode cX10_isWanted 5 = .ok (.aload_n 0, 1) := by decide +kernel
theorem dX10_isWanted_6 : decode cX10_isWanted 6 = .ok (.invokevirtual 378, 3) := by decide +kernel
theorem dX10_isWanted_9 : decode cX10_isWanted 9 = .ok (.iload_n 1, 1) := by decide +kernel
theorem dX10_isWanted_10 : decode cX10_isWanted 10 = .ok (.bipush 32, 2) := by decide +kernel
theorem dX10_isWanted_12 : decode cX10_isWanted 12 = .ok (.irem, 1) := by decide +kernel
theorem dX10_isWanted_13 : decode cX10_isWanted 13 = .ok (.iconst (-1), 1) := by decide +kernel
theorem dX10_isWanted_14 : decode cX10_isWanted 14 = .ok (.ixor, 1) := by decide +kernel
theorem dX10_isWanted_15 : decode cX10_isWanted 15 = .ok (.iand, 1) := by decide +kernel
theorem dX10_isWanted_16 : decode cX10_isWanted 16 = .ok (.ifCond .ne 7, 3) := by decide +kernel
theorem dX10_isWanted_19 : decode cX10_isWanted 19 = .ok (.iconst 1, 1) := by decide +kernel
theorem dX10_isWanted_20 : decode cX10_isWanted 20 = .ok (.goto 4, 3) := by decide +kernel
theorem dX10_isWanted_23 : decode cX10_isWanted 23 = .ok (.iconst 0, 1) := by decide +kernel
theorem dX10_isWanted_24 : decode cX10_isWanted 24 = .ok (.ireturn, 1) := by decide +kernel
theorem dX10_isWanted_25 : decode cX10_isWanted 25 = .ok (.iload_n 1, 1) := by decide +kernel
theorem dX10_isWanted_26 : decode cX10_isWanted 26 = .ok (.bipush 32, 2) := by decide +kernel
theorem dX10_isWanted_28 : decode cX10_isWanted 28 = .ok (.idiv, 1) := by decide +kernel
theorem dX10_isWanted_29 : decode cX10_isWanted 29 = .ok (.iload_n 3, 1) := by decide +kernel
theorem dX10_isWanted_30 : decode cX10_isWanted 30 = .ok (.invokestatic 328, 3) := by decide +kernel
theorem dX10_isWanted_33 : decode cX10_isWanted 33 = .ok (.iload_n 2, 1) := by decide +kernel
theorem dX10_isWanted_34 : decode cX10_isWanted 34 = .ok (.ifCond .ne 7, 3) := by decide +kernel
theorem dX10_isWanted_37 : decode cX10_isWanted 37 = .ok (.iconst 1, 1) := by decide +kernel
theorem dX10_isWanted_38 : decode cX10_isWanted 38 = .ok (.goto 4, 3) := by decide +kernel
theorem dX10_isWanted_41 : decode cX10_isWanted 41 = .ok (.iconst 0, 1) := by decide +kernel
theorem dX10_isWanted_42 : decode cX10_isWanted 42 = .ok (.if_icmp .ne 7, 3) := by decide +kernel
theorem dX10_isWanted_45 : decode cX10_isWanted 45 = .ok (.iconst 1, 1) := by decide +kernel
theorem dX10_isWanted_46 : decode cX10_isWanted 46 = .ok (.goto 4, 3) := by decide +kernel
theorem dX10_isWanted_49 : decode cX10_isWanted 49 = .ok (.iconst 0, 1) := by decide +kernel
theorem dX10_isWanted_50 : decode cX10_isWanted 50 = .ok (.ireturn, 1) := by decide +kernel
theorem sX10_isWanted_0 {a0 a1 a3 : Value} {x : Int32} (h : am_R E d mX10_isWanted k n 1 [a0, a1, .int x, a3] (.int x :: st) S iv Q) : am_R E d mX10_isWanted k n 0 [a0, a1, .int x, a3] st S iv Q := am_iload_n dX10_isWanted_0 rfl rfl h
theorem sX10_isWanted_1 {a0 a1 a2 a3 : Value} (h : am_R E d mX10_isWanted k n 2 [a0, a1, a2, a3] (.int 2 :: st) S iv Q) : am_R E d mX10_isWanted k n 1 [a0, a1, a2, a3] st S iv Q := am_iconst dX10_isWanted_1 (by decide) h
theorem sX10_isWanted_2 {ls : List Value} {x y : Int32} (kt : ¬ x = y → am_R E d mX10_isWanted k n 25 ls st S iv Q) (kf : x = y → am_R E d mX10_isWanted k n 5 ls st S iv Q) : am_R E d mX10_isWanted k n 2 ls (.int y :: .int x :: st) S iv Q := am_icmp_ne dX10_isWanted_2 (by decide) kt kf
theorem sX10_isWanted_5 {a0 a1 a2 a3 : Value} (hv : am_rf a0 = true) (h : am_R E d mX10_isWanted k n 6 [a0, a1, a2, a3] (a0 :: st) S iv Q) : am_R E d mX10_isWanted k n 5 [a0, a1, a2, a3] st S iv Q := am_aload_n dX10_isWanted_5 rfl rfl hv h
theorem sX10_isWanted_6 {ls : List Value} {a : Nat} (ha : S.1 a = some (.inl 10)) (hst : (st.map fun v => v.category).sum ≤ 8) (hM : am_M E d mX10_wanting 0 0 [.ref a] S iv (am_K3 E (d + 1) mX10_isWanted k n 6 ls st Q)) : am_R E (d + 1) mX10_isWanted k n 6 ls (.ref a :: st) S iv Q := am_cV (ci := 10) (M' := mX10_wanting) (as := []) dX10_isWanted_6 rfl rfl rfl wq_1062 wq_1063 wq_1064 wq_808 wq_1060 hy_X10_wanting (by decide) ha hst (by omega) (by omega) hM
theorem sX10_isWanted_6_k {ls : List Value} {k' n' : Nat} {a : Nat} (ha : S.1 a = some (.inl 10)) (hst : (st.map fun v => v.category).sum ≤ 8) (hM : am_M E d mX10_wanting k' n' [.ref a] S iv (am_K3 E (d + 1) mX10_isWanted k n 6 ls st Q)) : am_R E (d + 1) mX10_isWanted (k' + k) (n' + n) 6 ls (.ref a :: st) S iv Q := am_cV (ci := 10) (M' := mX10_wanting) (as := []) dX10_isWanted_6 rfl rfl rfl wq_1062 wq_1063 wq_1064 wq_808 wq_1060 hy_X10_wanting (by decide) ha hst (by omega) (by omega) hM
theorem sX10_isWanted_9 {a0 a2 a3 : Value} {x : Int32} (h : am_R E d mX10_isWanted k n 10 [a0, .int x, a2, a3] (.int x :: st) S iv Q) : am_R E d mX10_isWanted k n 9 [a0, .int x, a2, a3] st S iv Q := am_iload_n dX10_isWanted_9 rfl rfl h
theorem sX10_isWanted_10 {a0 a1 a2 a3 : Value} (h : am_R E d mX10_isWanted k n 12 [a0, a1, a2, a3] (.int 32 :: st) S iv Q) : am_R E d mX10_isWanted k n 10 [a0, a1, a2, a3] st S iv Q := am_bipush dX10_isWanted_10 (by decide) h
theorem sX10_isWanted_12 {ls : List Value} {x y : Int32} (hy : ¬ y = 0) (h : am_R E d mX10_isWanted k n 13 ls (.int (x - x / y * y) :: st) S iv Q) : am_R E d mX10_isWanted k n 12 ls (.int y :: .int x :: st) S iv Q := am_irem dX10_isWanted_12 hy h
theorem sX10_isWanted_13 {a0 a1 a2 a3 : Value} (h : am_R E d mX10_isWanted k n 14 [a0, a1, a2, a3] (.int (-1) :: st) S iv Q) : am_R E d mX10_isWanted k n 13 [a0, a1, a2, a3] st S iv Q := am_iconst dX10_isWanted_13 (by decide) h
theorem sX10_isWanted_14 {ls : List Value} {x y : Int32} (h : am_R E d mX10_isWanted k n 15 ls (.int (x ^^^ y) :: st) S iv Q) : am_R E d mX10_isWanted k n 14 ls (.int y :: .int x :: st) S iv Q := am_ixor dX10_isWanted_14 h
theorem sX10_isWanted_15 {ls : List Value} {x y : Int32} (h : am_R E d mX10_isWanted k n 16 ls (.int (x &&& y) :: st) S iv Q) : am_R E d mX10_isWanted k n 15 ls (.int y :: .int x :: st) S iv Q := am_iand dX10_isWanted_15 h
theorem sX10_isWanted_16 {ls : List Value} {x : Int32} (kt : ¬ x = 0 → am_R E d mX10_isWanted k n 23 ls st S iv Q) (kf : x = 0 → am_R E d mX10_isWanted k n 19 ls st S iv Q) : am_R E d mX10_isWanted k n 16 ls (.int x :: st) S iv Q := am_if_ne dX10_isWanted_16 (by decide) kt kf
theorem sX10_isWanted_19 {a0 a1 a2 a3 : Value} (h : am_R E d mX10_isWanted k n 20 [a0, a1, a2, a3] (.int 1 :: st) S iv Q) : am_R E d mX10_isWanted k n 19 [a0, a1, a2, a3] st S iv Q := am_iconst dX10_isWanted_19 (by decide) h
theorem sX10_isWanted_20 {ls : List Value} (h : am_R E d mX10_isWanted k n 24 ls st S iv Q) : am_R E d mX10_isWanted k n 20 ls st S iv Q := am_goto dX10_isWanted_20 (by decide) h
theorem sX10_isWanted_23 {a0 a1 a2 a3 : Value} (h : am_R E d mX10_isWanted k n 24 [a0, a1, a2, a3] (.int 0 :: st) S iv Q) : am_R E d mX10_isWanted k n 23 [a0, a1, a2, a3] st S iv Q := am_iconst dX10_isWanted_23 (by decide) h
theorem sX10_isWanted_24 {ls : List Value} {x : Int32} (hn : narrow .boolean (.int x) = .int x) (h : Q (.inl (some (.int x))) S iv) : am_R E d mX10_isWanted k n 24 ls [.int x] S iv Q := am_zreturn dX10_isWanted_24 rfl hn h
theorem sX10_isWanted_25 {a0 a2 a3 : Value} {x : Int32} (h : am_R E d mX10_isWanted k n 26 [a0, .int x, a2, a3] (.int x :: st) S iv Q) : am_R E d mX10_isWanted k n 25 [a0, .int x, a2, a3] st S iv Q := am_iload_n dX10_isWanted_25 rfl rfl h
theorem sX10_isWanted_26 {a0 a1 a2 a3 : Value} (h : am_R E d mX10_isWanted k n 28 [a0, a1, a2, a3] (.int 32 :: st) S iv Q) : am_R E d mX10_isWanted k n 26 [a0, a1, a2, a3] st S iv Q := am_bipush dX10_isWanted_26 (by decide) h
theorem sX10_isWanted_28 {ls : List Value} {x y : Int32} (hy : ¬ y = 0) (h : am_R E d mX10_isWanted k n 29 ls (.int (x / y) :: st) S iv Q) : am_R E d mX10_isWanted k n 28 ls (.int y :: .int x :: st) S iv Q := am_idiv dX10_isWanted_28 hy h
theorem sX10_isWanted_29 {a0 a1 a2 : Value} {x : Int32} (h : am_R E d mX10_isWanted k n 30 [a0, a1, a2, .int x] (.int x :: st) S iv Q) : am_R E d mX10_isWanted k n 29 [a0, a1, a2, .int x] st S iv Q := am_iload_n dX10_isWanted_29 rfl rfl h
theorem sX10_isWanted_30 {ls : List Value} {x1 x2 : Value} (hst : (st.map fun v => v.category).sum ≤ 8) (hM : am_M E d mX10_has 0 0 [x1, x2] S iv (am_K3 E (d + 1) mX10_isWanted k n 30 ls st Q)) : am_R E (d + 1) mX10_isWanted k n 30 ls (x2 :: x1 :: st) S iv Q := am_cS (M' := mX10_has) (as := [x1, x2]) dX10_isWanted_30 rfl wq_987 wq_988 wq_808 wq_985 hy_X10_has (by decide) hst (by omega) (by omega) hM
theorem sX10_isWanted_30_k {ls : List Value} {x1 x2 : Value} {k' n' : Nat} (hst : (st.map fun v => v.category).sum ≤ 8) (hM : am_M E d mX10_has k' n' [x1, x2] S iv (am_K3 E (d + 1) mX10_isWanted k n 30 ls st Q)) : am_R E (d + 1) mX10_isWanted (k' + k) (n' + n) 30 ls (x2 :: x1 :: st) S iv Q := am_cS (M' := mX10_has) (as := [x1, x2]) dX10_isWanted_30 rfl wq_987 wq_988 wq_808 wq_985 hy_X10_has (by decide) hst (by omega) (by omega) hM
theorem sX10_isWanted_33 {a0 a1 a3 : Value} {x : Int32} (h : am_R E d mX10_isWanted k n 34 [a0, a1, .int x, a3] (.int x :: st) S iv Q) : am_R E d mX10_isWanted k n 33 [a0, a1, .int x, a3] st S iv Q := am_iload_n dX10_isWanted_33 rfl rfl h
theorem sX10_isWanted_34 {ls : List Value} {x : Int32} (kt : ¬ x = 0 → am_R E d mX10_isWanted k n 41 ls st S iv Q) (kf : x = 0 → am_R E d mX10_isWanted k n 37 ls st S iv Q) : am_R E d mX10_isWanted k n 34 ls (.int x :: st) S iv Q := am_if_ne dX10_isWanted_34 (by decide) kt kf
theorem sX10_isWanted_37 {a0 a1 a2 a3 : Value} (h : am_R E d mX10_isWanted k n 38 [a0, a1, a2, a3] (.int 1 :: st) S iv Q) : am_R E d mX10_isWanted k n 37 [a0, a1, a2, a3] st S iv Q := am_iconst dX10_isWanted_37 (by decide) h
theorem sX10_isWanted_38 {ls : List Value} (h : am_R E d mX10_isWanted k n 42 ls st S iv Q) : am_R E d mX10_isWanted k n 38 ls st S iv Q := am_goto dX10_isWanted_38 (by decide) h
theorem sX10_isWanted_41 {a0 a1 a2 a3 : Value} (h : am_R E d mX10_isWanted k n 42 [a0, a1, a2, a3] (.int 0 :: st) S iv Q) : am_R E d mX10_isWanted k n 41 [a0, a1, a2, a3] st S iv Q := am_iconst dX10_isWanted_41 (by decide) h
theorem sX10_isWanted_42 {ls : List Value} {x y : Int32} (kt : ¬ x = y → am_R E d mX10_isWanted k n 49 ls st S iv Q) (kf : x = y → am_R E d mX10_isWanted k n 45 ls st S iv Q) : am_R E d mX10_isWanted k n 42 ls (.int y :: .int x :: st) S iv Q := am_icmp_ne dX10_isWanted_42 (by decide) kt kf
theorem sX10_isWanted_45 {a0 a1 a2 a3 : Value} (h : am_R E d mX10_isWanted k n 46 [a0, a1, a2, a3] (.int 1 :: st) S iv Q) : am_R E d mX10_isWanted k n 45 [a0, a1, a2, a3] st S iv Q := am_iconst dX10_isWanted_45 (by decide) h
theorem sX10_isWanted_46 {ls : List Value} (h : am_R E d mX10_isWanted k n 50 ls st S iv Q) : am_R E d mX10_isWanted k n 46 ls st S iv Q := am_goto dX10_isWanted_46 (by decide) h
theorem sX10_isWanted_49 {a0 a1 a2 a3 : Value} (h : am_R E d mX10_isWanted k n 50 [a0, a1, a2, a3] (.int 0 :: st) S iv Q) : am_R E d mX10_isWanted k n 49 [a0, a1, a2, a3] st S iv Q := am_iconst dX10_isWanted_49 (by decide) h
theorem sX10_isWanted_50 {ls : List Value} {x : Int32} (hn : narrow .boolean (.int x) = .int x) (h : Q (.inl (some (.int x))) S iv) : am_R E d mX10_isWanted k n 50 ls [.int x] S iv Q := am_zreturn dX10_isWanted_50 rfl hn h
theorem dX10_soonest_0 : decode cX10_soonest 0 = .ok (.iconst 0, 1) := by decide +kernel
theorem dX10_soonest_1 : decode cX10_soonest 1 = .ok (.istore_n 3, 1) := by decide +kernel
theorem dX10_soonest_2 : decode cX10_soonest 2 = .ok (.iload_n 3, 1) := by decide +kernel
theorem dX10_soonest_3 : decode cX10_soonest 3 = .ok (.aload_n 0, 1) := by decide +kernel
theorem dX10_soonest_4 : decode cX10_soonest 4 = .ok (.getfield 372, 3) := by decide +kernel
theorem dX10_soonest_7 : decode cX10_soonest 7 = .ok (.if_icmp .ge 31, 3) := by decide +kernel
theorem dX10_soonest_10 : decode cX10_soonest 10 = .ok (.aload_n 0, 1) := by decide +kernel
theorem dX10_soonest_11 : decode cX10_soonest 11 = .ok (.aload_n 0, 1) := by decide +kernel
theorem dX10_soonest_12 : decode cX10_soonest 12 = .ok (.getfield 115, 3) := by decide +kernel
theorem dX10_soonest_15 : decode cX10_soonest 15 = .ok (.iload_n 3, 1) := by decide +kernel
theorem dX10_soonest_16 : decode cX10_soonest 16 = .ok (.iaload, 1) := by decide +kernel
theorem dX10_soonest_17 : decode cX10_soonest 17 = .ok (.iload_n 1, 1) := by decide +kernel
theorem dX10_soonest_18 : decode cX10_soonest 18 = .ok (.iload_n 2, 1) := by decide +kernel
theorem dX10_soonest_19 : decode cX10_soonest 19 = .ok (.invokevirtual 381, 3) := by decide +kernel
theorem dX10_soonest_22 : decode cX10_soonest 22 = .ok (.ifCond .eq 10, 3) := by decide +kernel
theorem dX10_soonest_25 : decode cX10_soonest 25 = .ok (.aload_n 0, 1) := by decide +kernel
theorem dX10_soonest_26 : decode cX10_soonest 26 = .ok (.getfield 115, 3) := by decide +kernel
theorem dX10_soonest_29 : decode cX10_soonest 29 = .ok (.iload_n 3, 1) := by decide +kernel
theorem dX10_soonest_30 : decode cX10_soonest 30 = .ok (.iaload, 1) := by decide +kernel
theorem dX10_soonest_31 : decode cX10_soonest 31 = .ok (.ireturn, 1) := by decide +kernel
theorem dX10_soonest_32 : decode cX10_soonest 32 = .ok (.iinc 3 1, 3) := by decide +kernel
theorem dX10_soonest_35 : decode cX10_soonest 35 = .ok (.goto (-33), 3) := by decide +kernel
theorem dX10_soonest_38 : decode cX10_soonest 38 = .ok (.iconst (-1), 1) := by decide +kernel
theorem dX10_soonest_39 : decode cX10_soonest 39 = .ok (.ireturn, 1) := by decide +kernel
theorem sX10_soonest_0 {a0 a1 a2 a3 : Value} (h : am_R E d mX10_soonest k n 1 [a0, a1, a2, a3] (.int 0 :: st) S iv Q) : am_R E d mX10_soonest k n 0 [a0, a1, a2, a3] st S iv Q := am_iconst dX10_soonest_0 (by decide) h
theorem sX10_soonest_1 {a0 a1 a2 a3 : Value} {x : Int32} (h : am_R E d mX10_soonest k n 2 [a0, a1, a2, .int x] st S iv Q) : am_R E d mX10_soonest k n 1 [a0, a1, a2, a3] (.int x :: st) S iv Q := am_istore_n dX10_soonest_1 rfl (by decide) h
theorem sX10_soonest_2 {a0 a1 a2 : Value} {x : Int32} (h : am_R E d mX10_soonest k n 3 [a0, a1, a2, .int x] (.int x :: st) S iv Q) : am_R E d mX10_soonest k n 2 [a0, a1, a2, .int x] st S iv Q := am_iload_n dX10_soonest_2 rfl rfl h
theorem sX10_soonest_3 {a0 a1 a2 a3 : Value} (hv : am_rf a0 = true) (h : am_R E d mX10_soonest k n 4 [a0, a1, a2, a3] (a0 :: st) S iv Q) : am_R E d mX10_soonest k n 3 [a0, a1, a2, a3] st S iv Q := am_aload_n dX10_soonest_3 rfl rfl hv h
theorem sX10_soonest_4 {ls : List Value} {a : Nat} (ha : S.1 a = some (.inl 10)) (h : am_R E d mX10_soonest k n 7 ls (.int (iv a 44) :: st) S iv Q) : am_R E d mX10_soonest k n 4 ls (.ref a :: st) S iv Q := am_getI (ci := 10) dX10_soonest_4 rfl rfl (by decide) wq_1054 uq_10 rfl ha h
theorem sX10_soonest_7 {ls : List Value} {x y : Int32} (kt : y ≤ x → am_R E d mX10_soonest k n 38 ls st S iv Q) (kf : ¬ y ≤ x → am_R E d mX10_soonest k n 10 ls st S iv Q) : am_R E d mX10_soonest k n 7 ls (.int y :: .int x :: st) S iv Q := am_icmp_ge dX10_soonest_7 (by decide) kt kf
theorem sX10_soonest_10 {a0 a1 a2 a3 : Value} (hv : am_rf a0 = true) (h : am_R E d mX10_soonest k n 11 [a0, a1, a2, a3] (a0 :: st) S iv Q) : am_R E d mX10_soonest k n 10 [a0, a1, a2, a3] st S iv Q := am_aload_n dX10_soonest_10 rfl rfl hv h
theorem sX10_soonest_11 {a0 a1 a2 a3 : Value} (hv : am_rf a0 = true) (h : am_R E d mX10_soonest k n 12 [a0, a1, a2, a3] (a0 :: st) S iv Q) : am_R E d mX10_soonest k n 11 [a0, a1, a2, a3] st S iv Q := am_aload_n dX10_soonest_11 rfl rfl hv h
theorem sX10_soonest_12 {ls : List Value} {a b : Nat} (ha : S.1 a = some (.inl 10)) (hb : S.2.1 a 41 = some b) (h : am_R E d mX10_soonest k n 15 ls (.ref b :: st) S iv Q) : am_R E d mX10_soonest k n 12 ls (.ref a :: st) S iv Q := am_getR (ci := 10) dX10_soonest_12 rfl rfl (by decide) wq_796 uq_10 rfl ha hb h
theorem sX10_soonest_15 {a0 a1 a2 : Value} {x : Int32} (h : am_R E d mX10_soonest k n 16 [a0, a1, a2, .int x] (.int x :: st) S iv Q) : am_R E d mX10_soonest k n 15 [a0, a1, a2, .int x] st S iv Q := am_iload_n dX10_soonest_15 rfl rfl h
theorem sX10_soonest_16 {ls : List Value} {a m : Nat} {i : Int32} (ha : S.1 a = some (.inr (.int, m))) (hi : vp_in i m) (h : am_R E d mX10_soonest k n 17 ls (.int (iv a i.toNatClampNeg) :: st) S iv Q) : am_R E d mX10_soonest k n 16 ls (.int i :: .ref a :: st) S iv Q := am_iaload dX10_soonest_16 ha hi h
theorem sX10_soonest_17 {a0 a2 a3 : Value} {x : Int32} (h : am_R E d mX10_soonest k n 18 [a0, .int x, a2, a3] (.int x :: st) S iv Q) : am_R E d mX10_soonest k n 17 [a0, .int x, a2, a3] st S iv Q := am_iload_n dX10_soonest_17 rfl rfl h
theorem sX10_soonest_18 {a0 a1 a3 : Value} {x : Int32} (h : am_R E d mX10_soonest k n 19 [a0, a1, .int x, a3] (.int x :: st) S iv Q) : am_R E d mX10_soonest k n 18 [a0, a1, .int x, a3] st S iv Q := am_iload_n dX10_soonest_18 rfl rfl h
theorem sX10_soonest_19 {ls : List Value} {x1 x2 x3 : Value} {a : Nat} (ha : S.1 a = some (.inl 10)) (hst : (st.map fun v => v.category).sum ≤ 8) (hM : am_M E d mX10_isWanted 0 0 [.ref a, x1, x2, x3] S iv (am_K3 E (d + 1) mX10_soonest k n 19 ls st Q)) : am_R E (d + 1) mX10_soonest k n 19 ls (x3 :: x2 :: x1 :: .ref a :: st) S iv Q := am_cV (ci := 10) (M' := mX10_isWanted) (as := [x1, x2, x3]) dX10_soonest_19 rfl rfl rfl wq_1067 wq_1068 wq_1069 wq_808 wq_1065 hy_X10_isWanted (by decide) ha hst (by omega) (by omega) hM
theorem sX10_soonest_19_k {ls : List Value} {x1 x2 x3 : Value} {k' n' : Nat} {a : Nat} (ha : S.1 a = some (.inl 10)) (hst : (st.map fun v => v.category).sum ≤ 8) (hM : am_M E d mX10_isWanted k' n' [.ref a, x1, x2, x3] S iv (am_K3 E (d + 1) mX10_soonest k n 19 ls st Q)) : am_R E (d + 1) mX10_soonest (k' + k) (n' + n) 19 ls (x3 :: x2 :: x1 :: .ref a :: st) S iv Q := am_cV (ci := 10) (M' := mX10_isWanted) (as := [x1, x2, x3]) dX10_soonest_19 rfl rfl rfl wq_1067 wq_1068 wq_1069 wq_808 wq_1065 hy_X10_isWanted (by decide) ha hst (by omega) (by omega) hM
theorem sX10_soonest_22 {ls : List Value} {x : Int32} (kt : x = 0 → am_R E d mX10_soonest k n 32 ls st S iv Q) (kf : ¬ x = 0 → am_R E d mX10_soonest k n 25 ls st S iv Q) : am_R E d mX10_soonest k n 22 ls (.int x :: st) S iv Q := am_if_eq dX10_soonest_22 (by decide) kt kf
theorem sX10_soonest_25 {a0 a1 a2 a3 : Value} (hv : am_rf a0 = true) (h : am_R E d mX10_soonest k n 26 [a0, a1, a2, a3] (a0 :: st) S iv Q) : am_R E d mX10_soonest k n 25 [a0, a1, a2, a3] st S iv Q := am_aload_n dX10_soonest_25 rfl rfl hv h
theorem sX10_soonest_26 {ls : List Value} {a b : Nat} (ha : S.1 a = some (.inl 10)) (hb : S.2.1 a 41 = some b) (h : am_R E d mX10_soonest k n 29 ls (.ref b :: st) S iv Q) : am_R E d mX10_soonest k n 26 ls (.ref a :: st) S iv Q := am_getR (ci := 10) dX10_soonest_26 rfl rfl (by decide) wq_796 uq_10 rfl ha hb h
theorem sX10_soonest_29 {a0 a1 a2 : Value} {x : Int32} (h : am_R E d mX10_soonest k n 30 [a0, a1, a2, .int x] (.int x :: st) S iv Q) : am_R E d mX10_soonest k n 29 [a0, a1, a2, .int x] st S iv Q := am_iload_n dX10_soonest_29 rfl rfl h
theorem sX10_soonest_30 {ls : List Value} {a m : Nat} {i : Int32} (ha : S.1 a = some (.inr (.int, m))) (hi : vp_in i m) (h : am_R E d mX10_soonest k n 31 ls (.int (iv a i.toNatClampNeg) :: st) S iv Q) : am_R E d mX10_soonest k n 30 ls (.int i :: .ref a :: st) S iv Q := am_iaload dX10_soonest_30 ha hi h
theorem sX10_soonest_31 {ls : List Value} {x : Int32} (h : Q (.inl (some (.int x))) S iv) : am_R E d mX10_soonest k n 31 ls [.int x] S iv Q := am_ireturn dX10_soonest_31 rfl h
theorem sX10_soonest_32 {a0 a1 a2 : Value} {x : Int32} (h : am_R E d mX10_soonest k n 35 [a0, a1, a2, .int (x + 1)] st S iv Q) : am_R E d mX10_soonest k n 32 [a0, a1, a2, .int x] st S iv Q := am_iinc dX10_soonest_32 rfl rfl (by decide) h
theorem sX10_soonest_35 {ls : List Value} (h : am_R E d mX10_soonest k n 2 ls st S iv Q) : am_R E d mX10_soonest k n 35 ls st S iv Q := am_goto dX10_soonest_35 (by decide) h
theorem sX10_soonest_38 {a0 a1 a2 a3 : Value} (h : am_R E d mX10_soonest k n 39 [a0, a1, a2, a3] (.int (-1) :: st) S iv Q) : am_R E d mX10_soonest k n 38 [a0, a1, a2, a3] st S iv Q := am_iconst dX10_soonest_38 (by decide) h
theorem sX10_soonest_39 {ls : List Value} {x : Int32} (h : Q (.inl (some (.int x))) S iv) : am_R E d mX10_soonest k n 39 ls [.int x] S iv Q := am_ireturn dX10_soonest_39 rfl h
theorem dX10_howSoon_0 : decode cX10_howSoon 0 = .ok (.aload_n 0, 1) := by decide +kernel
theorem dX10_howSoon_1 : decode cX10_howSoon 1 = .ok (.aload_n 0, 1) := by decide +kernel
theorem dX10_howSoon_2 : decode cX10_howSoon 2 = .ok (.getfield 308, 3) := by decide +kernel
theorem dX10_howSoon_5 : decode cX10_howSoon 5 = .ok (.invokevirtual 384, 3) := by decide +kernel
theorem dX10_howSoon_8 : decode cX10_howSoon 8 = .ok (.aload_n 0, 1) := by decide +kernel
theorem dX10_howSoon_9 : decode cX10_howSoon 9 = .ok (.iload_n 1, 1) := by decide +kernel
theorem dX10_howSoon_10 : decode cX10_howSoon 10 = .ok (.iload_n 2, 1) := by decide +kernel
theorem dX10_howSoon_11 : decode cX10_howSoon 11 = .ok (.invokevirtual 387, 3) := by decide +kernel
theorem dX10_howSoon_14 : decode cX10_howSoon 14 = .ok (.istore_n 3, 1) := by decide +kernel
theorem dX10_howSoon_15 : decode cX10_howSoon 15 = .ok (.iload_n 3, 1) := by decide +kernel
theorem dX10_howSoon_16 : decode cX10_howSoon 16 = .ok (.iconst (-1), 1) := by decide +kernel
theorem dX10_howSoon_17 : decode cX10_howSoon 17 = .ok (.if_icmp .ne 5, 3) := by decide +kernel
theorem dX10_howSoon_20 : decode cX10_howSoon 20 = .ok (.iconst (-1), 1) := by decide +kernel
theorem dX10_howSoon_21 : decode cX10_howSoon 21 = .ok (.ireturn, 1) := by decide +kernel
theorem dX10_howSoon_22 : decode cX10_howSoon 22 = .ok (.aload_n 0, 1) := by decide +kernel
theorem dX10_howSoon_23 : decode cX10_howSoon 23 = .ok (.aload_n 0, 1) := by decide +kernel
theorem dX10_howSoon_24 : decode cX10_howSoon 24 = .ok (.getfield 112, 3) := by decide +kernel
theorem dX10_howSoon_27 : decode cX10_howSoon 27 = .ok (.iload_n 3, 1) := by decide +kernel
theorem dX10_howSoon_28 : decode cX10_howSoon 28 = .ok (.iaload, 1) := by decide +kernel
theorem dX10_howSoon_29 : decode cX10_howSoon 29 = .ok (.putfield 125, 3) := by decide +kernel
theorem dX10_howSoon_32 : decode cX10_howSoon 32 = .ok (.iload_n 3, 1) := by decide +kernel
theorem dX10_howSoon_33 : decode cX10_howSoon 33 = .ok (.istore 4, 2) := by decide +kernel
theorem dX10_howSoon_35 : decode cX10_howSoon 35 = .ok (.aload_n 0, 1) := by decide +kernel
theorem dX10_howSoon_36 : decode cX10_howSoon 36 = .ok (.getfield 125, 3) := by decide +kernel
theorem dX10_howSoon_39 : decode cX10_howSoon 39 = .ok (.iconst 1, 1) := by decide +kernel
theorem dX10_howSoon_40 : decode cX10_howSoon 40 = .ok (.isub, 1) := by decide +kernel
theorem dX10_howSoon_41 : decode cX10_howSoon 41 = .ok (.istore 5, 2) := by decide +kernel
theorem dX10_howSoon_43 : decode cX10_howSoon 43 = .ok (.iload 5, 2) := by decide +kernel
theorem dX10_howSoon_45 : decode cX10_howSoon 45 = .ok (.ifCond .lt 32, 3) := by decide +kernel
theorem dX10_howSoon_48 : decode cX10_howSoon 48 = .ok (.aload_n 0, 1) := by decide +kernel
theorem dX10_howSoon_49 : decode cX10_howSoon 49 = .ok (.getfield 118, 3) := by decide +kernel
theorem dX10_howSoon_52 : decode cX10_howSoon 52 = .ok (.iload 5, 2) := by decide +kernel
theorem dX10_howSoon_54 : decode cX10_howSoon 54 = .ok (.aload_n 0, 1) := by decide +kernel
theorem dX10_howSoon_55 : decode cX10_howSoon 55 = .ok (.getfield 109, 3) := by decide +kernel
theorem dX10_howSoon_58 : decode cX10_howSoon 58 = .ok (.iload 4, 2) := by decide +kernel
theorem dX10_howSoon_60 : decode cX10_howSoon 60 = .ok (.iaload, 1) := by decide +kernel
theorem dX10_howSoon_61 : decode cX10_howSoon 61 = .ok (.iastore, 1) := by decide +kernel
theorem dX10_howSoon_62 : decode cX10_howSoon 62 = .ok (.aload_n 0, 1) := by decide +kernel
theorem dX10_howSoon_63 : decode cX10_howSoon 63 = .ok (.getfield 106, 3) := by decide +kernel
theorem dX10_howSoon_66 : decode cX10_howSoon 66 = .ok (.iload 4, 2) := by decide +kernel
theorem dX10_howSoon_68 : decode cX10_howSoon 68 = .ok (.iaload, 1) := by decide +kernel
theorem dX10_howSoon_69 : decode cX10_howSoon 69 = .ok (.istore 4, 2) := by decide +kernel
theorem dX10_howSoon_71 : decode cX10_howSoon 71 = .ok (.iinc 5 (-1), 3) := by decide +kernel
theorem dX10_howSoon_74 : decode cX10_howSoon 74 = .ok (.goto (-31), 3) := by decide +kernel
theorem dX10_howSoon_77 : decode cX10_howSoon 77 = .ok (.aload_n 0, 1) := by decide +kernel
theorem dX10_howSoon_78 : decode cX10_howSoon 78 = .ok (.getfield 125, 3) := by decide +kernel
theorem dX10_howSoon_81 : decode cX10_howSoon 81 = .ok (.ireturn, 1) := by decide +kernel
theorem sX10_howSoon_0 {a0 a1 a2 a3 a4 a5 : Value} (hv : am_rf a0 = true) (h : am_R E d mX10_howSoon k n 1 [a0, a1, a2, a3, a4, a5] (a0 :: st) S iv Q) : am_R E d mX10_howSoon k n 0 [a0, a1, a2, a3, a4, a5] st S iv Q := am_aload_n dX10_howSoon_0 rfl rfl hv h
theorem sX10_howSoon_1 {a0 a1 a2 a3 a4 a5 : Value} (hv : am_rf a0 = true) (h : am_R E d mX10_howSoon k n 2 [a0, a1, a2, a3, a4, a5] (a0 :: st) S iv Q) : am_R E d mX10_howSoon k n 1 [a0, a1, a2, a3, a4, a5] st S iv Q := am_aload_n dX10_howSoon_1 rfl rfl hv h
theorem sX10_howSoon_2 {ls : List Value} {a : Nat} (ha : S.1 a = some (.inl 10)) (h : am_R E d mX10_howSoon k n 5 ls (.int (iv a 30) :: st) S iv Q) : am_R E d mX10_howSoon k n 2 ls (.ref a :: st) S iv Q := am_getI (ci := 10) dX10_howSoon_2 rfl rfl (by decide) wq_973 uq_10 rfl ha h
theorem sX10_howSoon_5 {ls : List Value} {x1 : Value} {a : Nat} (ha : S.1 a = some (.inl 10)) (hst : (st.map fun v => v.category).sum ≤ 8) (hM : am_M E d mX10_seek 0 0 [.ref a, x1] S iv (am_K3 E (d + 1) mX10_howSoon k n 5 ls st Q)) : am_R E (d + 1) mX10_howSoon k n 5 ls (x1 :: .ref a :: st) S iv Q := am_cV (ci := 10) (M' := mX10_seek) (as := [x1]) dX10_howSoon_5 rfl rfl rfl wq_1072 wq_1073 wq_1074 wq_808 wq_1070 hy_X10_seek (by decide) ha hst (by omega) (by omega) hM
theorem sX10_howSoon_5_k {ls : List Value} {x1 : Value} {k' n' : Nat} {a : Nat} (ha : S.1 a = some (.inl 10)) (hst : (st.map fun v => v.category).sum ≤ 8) (hM : am_M E d mX10_seek k' n' [.ref a, x1] S iv (am_K3 E (d + 1) mX10_howSoon k n 5 ls st Q)) : am_R E (d + 1) mX10_howSoon (k' + k) (n' + n) 5 ls (x1 :: .ref a :: st) S iv Q := am_cV (ci := 10) (M' := mX10_seek) (as := [x1]) dX10_howSoon_5 rfl rfl rfl wq_1072 wq_1073 wq_1074 wq_808 wq_1070 hy_X10_seek (by decide) ha hst (by omega) (by omega) hM
theorem sX10_howSoon_8 {a0 a1 a2 a3 a4 a5 : Value} (hv : am_rf a0 = true) (h : am_R E d mX10_howSoon k n 9 [a0, a1, a2, a3, a4, a5] (a0 :: st) S iv Q) : am_R E d mX10_howSoon k n 8 [a0, a1, a2, a3, a4, a5] st S iv Q := am_aload_n dX10_howSoon_8 rfl rfl hv h
theorem sX10_howSoon_9 {a0 a2 a3 a4 a5 : Value} {x : Int32} (h : am_R E d mX10_howSoon k n 10 [a0, .int x, a2, a3, a4, a5] (.int x :: st) S iv Q) : am_R E d mX10_howSoon k n 9 [a0, .int x, a2, a3, a4, a5] st S iv Q := am_iload_n dX10_howSoon_9 rfl rfl h
theorem sX10_howSoon_10 {a0 a1 a3 a4 a5 : Value} {x : Int32} (h : am_R E d mX10_howSoon k n 11 [a0, a1, .int x, a3, a4, a5] (.int x :: st) S iv Q) : am_R E d mX10_howSoon k n 10 [a0, a1, .int x, a3, a4, a5] st S iv Q := am_iload_n dX10_howSoon_10 rfl rfl h
theorem sX10_howSoon_11 {ls : List Value} {x1 x2 : Value} {a : Nat} (ha : S.1 a = some (.inl 10)) (hst : (st.map fun v => v.category).sum ≤ 8) (hM : am_M E d mX10_soonest 0 0 [.ref a, x1, x2] S iv (am_K3 E (d + 1) mX10_howSoon k n 11 ls st Q)) : am_R E (d + 1) mX10_howSoon k n 11 ls (x2 :: x1 :: .ref a :: st) S iv Q := am_cV (ci := 10) (M' := mX10_soonest) (as := [x1, x2]) dX10_howSoon_11 rfl rfl rfl wq_1077 wq_1078 wq_1079 wq_808 wq_1075 hy_X10_soonest (by decide) ha hst (by omega) (by omega) hM
theorem sX10_howSoon_11_k {ls : List Value} {x1 x2 : Value} {k' n' : Nat} {a : Nat} (ha : S.1 a = some (.inl 10)) (hst : (st.map fun v => v.category).sum ≤ 8) (hM : am_M E d mX10_soonest k' n' [.ref a, x1, x2] S iv (am_K3 E (d + 1) mX10_howSoon k n 11 ls st Q)) : am_R E (d + 1) mX10_howSoon (k' + k) (n' + n) 11 ls (x2 :: x1 :: .ref a :: st) S iv Q := am_cV (ci := 10) (M' := mX10_soonest) (as := [x1, x2]) dX10_howSoon_11 rfl rfl rfl wq_1077 wq_1078 wq_1079 wq_808 wq_1075 hy_X10_soonest (by decide) ha hst (by omega) (by omega) hM
theorem sX10_howSoon_14 {a0 a1 a2 a3 a4 a5 : Value} {x : Int32} (h : am_R E d mX10_howSoon k n 15 [a0, a1, a2, .int x, a4, a5] st S iv Q) : am_R E d mX10_howSoon k n 14 [a0, a1, a2, a3, a4, a5] (.int x :: st) S iv Q := am_istore_n dX10_howSoon_14 rfl (by decide) h
theorem sX10_howSoon_15 {a0 a1 a2 a4 a5 : Value} {x : Int32} (h : am_R E d mX10_howSoon k n 16 [a0, a1, a2, .int x, a4, a5] (.int x :: st) S iv Q) : am_R E d mX10_howSoon k n 15 [a0, a1, a2, .int x, a4, a5] st S iv Q := am_iload_n dX10_howSoon_15 rfl rfl h
theorem sX10_howSoon_16 {a0 a1 a2 a3 a4 a5 : Value} (h : am_R E d mX10_howSoon k n 17 [a0, a1, a2, a3, a4, a5] (.int (-1) :: st) S iv Q) : am_R E d mX10_howSoon k n 16 [a0, a1, a2, a3, a4, a5] st S iv Q := am_iconst dX10_howSoon_16 (by decide) h
theorem sX10_howSoon_17 {ls : List Value} {x y : Int32} (kt : ¬ x = y → am_R E d mX10_howSoon k n 22 ls st S iv Q) (kf : x = y → am_R E d mX10_howSoon k n 20 ls st S iv Q) : am_R E d mX10_howSoon k n 17 ls (.int y :: .int x :: st) S iv Q := am_icmp_ne dX10_howSoon_17 (by decide) kt kf
theorem sX10_howSoon_20 {a0 a1 a2 a3 a4 a5 : Value} (h : am_R E d mX10_howSoon k n 21 [a0, a1, a2, a3, a4, a5] (.int (-1) :: st) S iv Q) : am_R E d mX10_howSoon k n 20 [a0, a1, a2, a3, a4, a5] st S iv Q := am_iconst dX10_howSoon_20 (by decide) h
theorem sX10_howSoon_21 {ls : List Value} {x : Int32} (h : Q (.inl (some (.int x))) S iv) : am_R E d mX10_howSoon k n 21 ls [.int x] S iv Q := am_ireturn dX10_howSoon_21 rfl h
theorem sX10_howSoon_22 {a0 a1 a2 a3 a4 a5 : Value} (hv : am_rf a0 = true) (h : am_R E d mX10_howSoon k n 23 [a0, a1, a2, a3, a4, a5] (a0 :: st) S iv Q) : am_R E d mX10_howSoon k n 22 [a0, a1, a2, a3, a4, a5] st S iv Q := am_aload_n dX10_howSoon_22 rfl rfl hv h
theorem sX10_howSoon_23 {a0 a1 a2 a3 a4 a5 : Value} (hv : am_rf a0 = true) (h : am_R E d mX10_howSoon k n 24 [a0, a1, a2, a3, a4, a5] (a0 :: st) S iv Q) : am_R E d mX10_howSoon k n 23 [a0, a1, a2, a3, a4, a5] st S iv Q := am_aload_n dX10_howSoon_23 rfl rfl hv h
theorem sX10_howSoon_24 {ls : List Value} {a b : Nat} (ha : S.1 a = some (.inl 10)) (hb : S.2.1 a 40 = some b) (h : am_R E d mX10_howSoon k n 27 ls (.ref b :: st) S iv Q) : am_R E d mX10_howSoon k n 24 ls (.ref a :: st) S iv Q := am_getR (ci := 10) dX10_howSoon_24 rfl rfl (by decide) wq_795 uq_10 rfl ha hb h
theorem sX10_howSoon_27 {a0 a1 a2 a4 a5 : Value} {x : Int32} (h : am_R E d mX10_howSoon k n 28 [a0, a1, a2, .int x, a4, a5] (.int x :: st) S iv Q) : am_R E d mX10_howSoon k n 27 [a0, a1, a2, .int x, a4, a5] st S iv Q := am_iload_n dX10_howSoon_27 rfl rfl h
theorem sX10_howSoon_28 {ls : List Value} {a m : Nat} {i : Int32} (ha : S.1 a = some (.inr (.int, m))) (hi : vp_in i m) (h : am_R E d mX10_howSoon k n 29 ls (.int (iv a i.toNatClampNeg) :: st) S iv Q) : am_R E d mX10_howSoon k n 28 ls (.int i :: .ref a :: st) S iv Q := am_iaload dX10_howSoon_28 ha hi h
theorem sX10_howSoon_29 {ls : List Value} {a : Nat} {x : Int32} (ha : S.1 a = some (.inl 10)) (h : am_R E d mX10_howSoon k n 32 ls st S (am_w iv a 45 x) Q) : am_R E d mX10_howSoon k n 29 ls (.int x :: .ref a :: st) S iv Q := am_putI (ci := 10) dX10_howSoon_29 rfl rfl (by decide) wq_800 uq_10 tyX10_ok nmX10 (Or.inl rfl) rfl ha h
theorem sX10_howSoon_32 {a0 a1 a2 a4 a5 : Value} {x : Int32} (h : am_R E d mX10_howSoon k n 33 [a0, a1, a2, .int x, a4, a5] (.int x :: st) S iv Q) : am_R E d mX10_howSoon k n 32 [a0, a1, a2, .int x, a4, a5] st S iv Q := am_iload_n dX10_howSoon_32 rfl rfl h
theorem sX10_howSoon_33 {a0 a1 a2 a3 a4 a5 : Value} {x : Int32} (h : am_R E d mX10_howSoon k n 35 [a0, a1, a2, a3, .int x, a5] st S iv Q) : am_R E d mX10_howSoon k n 33 [a0, a1, a2, a3, a4, a5] (.int x :: st) S iv Q := am_istore dX10_howSoon_33 (by decide) h
theorem sX10_howSoon_35 {a0 a1 a2 a3 a4 a5 : Value} (hv : am_rf a0 = true) (h : am_R E d mX10_howSoon k n 36 [a0, a1, a2, a3, a4, a5] (a0 :: st) S iv Q) : am_R E d mX10_howSoon k n 35 [a0, a1, a2, a3, a4, a5] st S iv Q := am_aload_n dX10_howSoon_35 rfl rfl hv h
theorem sX10_howSoon_36 {ls : List Value} {a : Nat} (ha : S.1 a = some (.inl 10)) (h : am_R E d mX10_howSoon k n 39 ls (.int (iv a 45) :: st) S iv Q) : am_R E d mX10_howSoon k n 36 ls (.ref a :: st) S iv Q := am_getI (ci := 10) dX10_howSoon_36 rfl rfl (by decide) wq_800 uq_10 rfl ha h
theorem sX10_howSoon_39 {a0 a1 a2 a3 a4 a5 : Value} (h : am_R E d mX10_howSoon k n 40 [a0, a1, a2, a3, a4, a5] (.int 1 :: st) S iv Q) : am_R E d mX10_howSoon k n 39 [a0, a1, a2, a3, a4, a5] st S iv Q := am_iconst dX10_howSoon_39 (by decide) h
theorem sX10_howSoon_40 {ls : List Value} {x y : Int32} (h : am_R E d mX10_howSoon k n 41 ls (.int (x - y) :: st) S iv Q) : am_R E d mX10_howSoon k n 40 ls (.int y :: .int x :: st) S iv Q := am_isub dX10_howSoon_40 h
theorem sX10_howSoon_41 {a0 a1 a2 a3 a4 a5 : Value} {x : Int32} (h : am_R E d mX10_howSoon k n 43 [a0, a1, a2, a3, a4, .int x] st S iv Q) : am_R E d mX10_howSoon k n 41 [a0, a1, a2, a3, a4, a5] (.int x :: st) S iv Q := am_istore dX10_howSoon_41 (by decide) h
theorem sX10_howSoon_43 {a0 a1 a2 a3 a4 : Value} {x : Int32} (h : am_R E d mX10_howSoon k n 45 [a0, a1, a2, a3, a4, .int x] (.int x :: st) S iv Q) : am_R E d mX10_howSoon k n 43 [a0, a1, a2, a3, a4, .int x] st S iv Q := am_iload dX10_howSoon_43 rfl h
theorem sX10_howSoon_45 {ls : List Value} {x : Int32} (kt : x < 0 → am_R E d mX10_howSoon k n 77 ls st S iv Q) (kf : ¬ x < 0 → am_R E d mX10_howSoon k n 48 ls st S iv Q) : am_R E d mX10_howSoon k n 45 ls (.int x :: st) S iv Q := am_if_lt dX10_howSoon_45 (by decide) kt kf
theorem sX10_howSoon_48 {a0 a1 a2 a3 a4 a5 : Value} (hv : am_rf a0 = true) (h : am_R E d mX10_howSoon k n 49 [a0, a1, a2, a3, a4, a5] (a0 :: st) S iv Q) : am_R E d mX10_howSoon k n 48 [a0, a1, a2, a3, a4, a5] st S iv Q := am_aload_n dX10_howSoon_48 rfl rfl hv h
theorem sX10_howSoon_49 {ls : List Value} {a b : Nat} (ha : S.1 a = some (.inl 10)) (hb : S.2.1 a 42 = some b) (h : am_R E d mX10_howSoon k n 52 ls (.ref b :: st) S iv Q) : am_R E d mX10_howSoon k n 49 ls (.ref a :: st) S iv Q := am_getR (ci := 10) dX10_howSoon_49 rfl rfl (by decide) wq_797 uq_10 rfl ha hb h
theorem sX10_howSoon_52 {a0 a1 a2 a3 a4 : Value} {x : Int32} (h : am_R E d mX10_howSoon k n 54 [a0, a1, a2, a3, a4, .int x] (.int x :: st) S iv Q) : am_R E d mX10_howSoon k n 52 [a0, a1, a2, a3, a4, .int x] st S iv Q := am_iload dX10_howSoon_52 rfl h
theorem sX10_howSoon_54 {a0 a1 a2 a3 a4 a5 : Value} (hv : am_rf a0 = true) (h : am_R E d mX10_howSoon k n 55 [a0, a1, a2, a3, a4, a5] (a0 :: st) S iv Q) : am_R E d mX10_howSoon k n 54 [a0, a1, a2, a3, a4, a5] st S iv Q := am_aload_n dX10_howSoon_54 rfl rfl hv h
theorem sX10_howSoon_55 {ls : List Value} {a b : Nat} (ha : S.1 a = some (.inl 10)) (hb : S.2.1 a 39 = some b) (h : am_R E d mX10_howSoon k n 58 ls (.ref b :: st) S iv Q) : am_R E d mX10_howSoon k n 55 ls (.ref a :: st) S iv Q := am_getR (ci := 10) dX10_howSoon_55 rfl rfl (by decide) wq_794 uq_10 rfl ha hb h
theorem sX10_howSoon_58 {a0 a1 a2 a3 a5 : Value} {x : Int32} (h : am_R E d mX10_howSoon k n 60 [a0, a1, a2, a3, .int x, a5] (.int x :: st) S iv Q) : am_R E d mX10_howSoon k n 58 [a0, a1, a2, a3, .int x, a5] st S iv Q := am_iload dX10_howSoon_58 rfl h
theorem sX10_howSoon_60 {ls : List Value} {a m : Nat} {i : Int32} (ha : S.1 a = some (.inr (.int, m))) (hi : vp_in i m) (h : am_R E d mX10_howSoon k n 61 ls (.int (iv a i.toNatClampNeg) :: st) S iv Q) : am_R E d mX10_howSoon k n 60 ls (.int i :: .ref a :: st) S iv Q := am_iaload dX10_howSoon_60 ha hi h
theorem sX10_howSoon_61 {ls : List Value} {a m : Nat} {i x : Int32} (ha : S.1 a = some (.inr (.int, m))) (hi : vp_in i m) (h : am_R E d mX10_howSoon k n 62 ls st S (am_w iv a i.toNatClampNeg x) Q) : am_R E d mX10_howSoon k n 61 ls (.int x :: .int i :: .ref a :: st) S iv Q := am_iastore dX10_howSoon_61 ha hi h
theorem sX10_howSoon_62 {a0 a1 a2 a3 a4 a5 : Value} (hv : am_rf a0 = true) (h : am_R E d mX10_howSoon k n 63 [a0, a1, a2, a3, a4, a5] (a0 :: st) S iv Q) : am_R E d mX10_howSoon k n 62 [a0, a1, a2, a3, a4, a5] st S iv Q := am_aload_n dX10_howSoon_62 rfl rfl hv h
theorem sX10_howSoon_63 {ls : List Value} {a b : Nat} (ha : S.1 a = some (.inl 10)) (hb : S.2.1 a 38 = some b) (h : am_R E d mX10_howSoon k n 66 ls (.ref b :: st) S iv Q) : am_R E d mX10_howSoon k n 63 ls (.ref a :: st) S iv Q := am_getR (ci := 10) dX10_howSoon_63 rfl rfl (by decide) wq_793 uq_10 rfl ha hb h
theorem sX10_howSoon_66 {a0 a1 a2 a3 a5 : Value} {x : Int32} (h : am_R E d mX10_howSoon k n 68 [a0, a1, a2, a3, .int x, a5] (.int x :: st) S iv Q) : am_R E d mX10_howSoon k n 66 [a0, a1, a2, a3, .int x, a5] st S iv Q := am_iload dX10_howSoon_66 rfl h
theorem sX10_howSoon_68 {ls : List Value} {a m : Nat} {i : Int32} (ha : S.1 a = some (.inr (.int, m))) (hi : vp_in i m) (h : am_R E d mX10_howSoon k n 69 ls (.int (iv a i.toNatClampNeg) :: st) S iv Q) : am_R E d mX10_howSoon k n 68 ls (.int i :: .ref a :: st) S iv Q := am_iaload dX10_howSoon_68 ha hi h
theorem sX10_howSoon_69 {a0 a1 a2 a3 a4 a5 : Value} {x : Int32} (h : am_R E d mX10_howSoon k n 71 [a0, a1, a2, a3, .int x, a5] st S iv Q) : am_R E d mX10_howSoon k n 69 [a0, a1, a2, a3, a4, a5] (.int x :: st) S iv Q := am_istore dX10_howSoon_69 (by decide) h
theorem sX10_howSoon_71 {a0 a1 a2 a3 a4 : Value} {x : Int32} (h : am_R E d mX10_howSoon k n 74 [a0, a1, a2, a3, a4, .int (x + (-1))] st S iv Q) : am_R E d mX10_howSoon k n 71 [a0, a1, a2, a3, a4, .int x] st S iv Q := am_iinc dX10_howSoon_71 rfl rfl (by decide) h
theorem sX10_howSoon_74 {ls : List Value} (h : am_R E d mX10_howSoon k n 43 ls st S iv Q) : am_R E d mX10_howSoon k n 74 ls st S iv Q := am_goto dX10_howSoon_74 (by decide) h
theorem sX10_howSoon_77 {a0 a1 a2 a3 a4 a5 : Value} (hv : am_rf a0 = true) (h : am_R E d mX10_howSoon k n 78 [a0, a1, a2, a3, a4, a5] (a0 :: st) S iv Q) : am_R E d mX10_howSoon k n 77 [a0, a1, a2, a3, a4, a5] st S iv Q := am_aload_n dX10_howSoon_77 rfl rfl hv h
theorem sX10_howSoon_78 {ls : List Value} {a : Nat} (ha : S.1 a = some (.inl 10)) (h : am_R E d mX10_howSoon k n 81 ls (.int (iv a 45) :: st) S iv Q) : am_R E d mX10_howSoon k n 78 ls (.ref a :: st) S iv Q := am_getI (ci := 10) dX10_howSoon_78 rfl rfl (by decide) wq_800 uq_10 rfl ha h
theorem sX10_howSoon_81 {ls : List Value} {x : Int32} (h : Q (.inl (some (.int x))) S iv) : am_R E d mX10_howSoon k n 81 ls [.int x] S iv Q := am_ireturn dX10_howSoon_81 rfl h
theorem dX10_opens_0 : decode cX10_opens 0 = .ok (.aload_n 0, 1) := by decide +kernel
theorem dX10_opens_1 : decode cX10_opens 1 = .ok (.iconst 0, 1) := by decide +kernel
theorem dX10_opens_2 : decode cX10_opens 2 = .ok (.putfield 143, 3) := by decide +kernel
theorem dX10_opens_5 : decode cX10_opens 5 = .ok (.aload_n 0, 1) := by decide +kernel
theorem dX10_opens_6 : decode cX10_opens 6 = .ok (.iload_n 1, 1) := by decide +kernel
theorem dX10_opens_7 : decode cX10_opens 7 = .ok (.invokevirtual 354, 3) := by decide +kernel
theorem dX10_opens_10 : decode cX10_opens 10 = .ok (.ifCond .eq 12, 3) := by decide +kernel
theorem dX10_opens_13 : decode cX10_opens 13 = .ok (.aload_n 0, 1) := by decide +kernel
theorem dX10_opens_14 : decode cX10_opens 14 = .ok (.iconst 0, 1) := by decide +kernel
theorem dX10_opens_15 : decode cX10_opens 15 = .ok (.iload_n 1, 1) := by decide +kernel
theorem dX10_opens_16 : decode cX10_opens 16 = .ok (.invokevirtual 390, 3) := by decide +kernel
theorem dX10_opens_19 : decode cX10_opens 19 = .ok (.goto 8, 3) := by decide +kernel
theorem dX10_opens_22 : decode cX10_opens 22 = .ok (.aload_n 0, 1) := by decide +kernel
theorem dX10_opens_23 : decode cX10_opens 23 = .ok (.iconst 1, 1) := by decide +kernel
theorem dX10_opens_24 : decode cX10_opens 24 = .ok (.invokevirtual 293, 3) := by decide +kernel
theorem dX10_opens_27 : decode cX10_opens 27 = .ok (.ireturn, 1) := by decide +kernel
theorem sX10_opens_0 {a0 a1 : Value} (hv : am_rf a0 = true) (h : am_R E d mX10_opens k n 1 [a0, a1] (a0 :: st) S iv Q) : am_R E d mX10_opens k n 0 [a0, a1] st S iv Q := am_aload_n dX10_opens_0 rfl rfl hv h
theorem sX10_opens_1 {a0 a1 : Value} (h : am_R E d mX10_opens k n 2 [a0, a1] (.int 0 :: st) S iv Q) : am_R E d mX10_opens k n 1 [a0, a1] st S iv Q := am_iconst dX10_opens_1 (by decide) h
theorem sX10_opens_2 {ls : List Value} {a : Nat} {x : Int32} (ha : S.1 a = some (.inl 10)) (h : am_R E d mX10_opens k n 5 ls st S (am_w iv a 3 x) Q) : am_R E d mX10_opens k n 2 ls (.int x :: .ref a :: st) S iv Q := am_putI (ci := 10) dX10_opens_2 rfl rfl (by decide) wq_806 uq_10 tyX10_ok nmX10 (Or.inl rfl) rfl ha h
theorem sX10_opens_5 {a0 a1 : Value} (hv : am_rf a0 = true) (h : am_R E d mX10_opens k n 6 [a0, a1] (a0 :: st) S iv Q) : am_R E d mX10_opens k n 5 [a0, a1] st S iv Q := am_aload_n dX10_opens_5 rfl rfl hv h
theorem sX10_opens_6 {a0 : Value} {x : Int32} (h : am_R E d mX10_opens k n 7 [a0, .int x] (.int x :: st) S iv Q) : am_R E d mX10_opens k n 6 [a0, .int x] st S iv Q := am_iload_n dX10_opens_6 rfl rfl h
theorem sX10_opens_7 {ls : List Value} {x1 : Value} {a : Nat} (ha : S.1 a = some (.inl 10)) (hst : (st.map fun v => v.category).sum ≤ 8) (hM : am_M E d mX10_isDrawer 0 0 [.ref a, x1] S iv (am_K3 E (d + 1) mX10_opens k n 7 ls st Q)) : am_R E (d + 1) mX10_opens k n 7 ls (x1 :: .ref a :: st) S iv Q := am_cV (ci := 10) (M' := mX10_isDrawer) (as := [x1]) dX10_opens_7 rfl rfl rfl wq_1026 wq_1027 wq_1028 wq_808 wq_1024 hy_X10_isDrawer (by decide) ha hst (by omega) (by omega) hM
theorem sX10_opens_7_k {ls : List Value} {x1 : Value} {k' n' : Nat} {a : Nat} (ha : S.1 a = some (.inl 10)) (hst : (st.map fun v => v.category).sum ≤ 8) (hM : am_M E d mX10_isDrawer k' n' [.ref a, x1] S iv (am_K3 E (d + 1) mX10_opens k n 7 ls st Q)) : am_R E (d + 1) mX10_opens (k' + k) (n' + n) 7 ls (x1 :: .ref a :: st) S iv Q := am_cV (ci := 10) (M' := mX10_isDrawer) (as := [x1]) dX10_opens_7 rfl rfl rfl wq_1026 wq_1027 wq_1028 wq_808 wq_1024 hy_X10_isDrawer (by decide) ha hst (by omega) (by omega) hM
theorem sX10_opens_10 {ls : List Value} {x : Int32} (kt : x = 0 → am_R E d mX10_opens k n 22 ls st S iv Q) (kf : ¬ x = 0 → am_R E d mX10_opens k n 13 ls st S iv Q) : am_R E d mX10_opens k n 10 ls (.int x :: st) S iv Q := am_if_eq dX10_opens_10 (by decide) kt kf
theorem sX10_opens_13 {a0 a1 : Value} (hv : am_rf a0 = true) (h : am_R E d mX10_opens k n 14 [a0, a1] (a0 :: st) S iv Q) : am_R E d mX10_opens k n 13 [a0, a1] st S iv Q := am_aload_n dX10_opens_13 rfl rfl hv h
theorem sX10_opens_14 {a0 a1 : Value} (h : am_R E d mX10_opens k n 15 [a0, a1] (.int 0 :: st) S iv Q) : am_R E d mX10_opens k n 14 [a0, a1] st S iv Q := am_iconst dX10_opens_14 (by decide) h
theorem sX10_opens_15 {a0 : Value} {x : Int32} (h : am_R E d mX10_opens k n 16 [a0, .int x] (.int x :: st) S iv Q) : am_R E d mX10_opens k n 15 [a0, .int x] st S iv Q := am_iload_n dX10_opens_15 rfl rfl h
theorem sX10_opens_16 {ls : List Value} {x1 x2 : Value} {a : Nat} (ha : S.1 a = some (.inl 10)) (hst : (st.map fun v => v.category).sum ≤ 8) (hM : am_M E d mX10_howSoon 0 0 [.ref a, x1, x2] S iv (am_K3 E (d + 1) mX10_opens k n 16 ls st Q)) : am_R E (d + 1) mX10_opens k n 16 ls (x2 :: x1 :: .ref a :: st) S iv Q := am_cV (ci := 10) (M' := mX10_howSoon) (as := [x1, x2]) dX10_opens_16 rfl rfl rfl wq_1082 wq_1083 wq_1084 wq_808 wq_1080 hy_X10_howSoon (by decide) ha hst (by omega) (by omega) hM
theorem sX10_opens_16_k {ls : List Value} {x1 x2 : Value} {k' n' : Nat} {a : Nat} (ha : S.1 a = some (.inl 10)) (hst : (st.map fun v => v.category).sum ≤ 8) (hM : am_M E d mX10_howSoon k' n' [.ref a, x1, x2] S iv (am_K3 E (d + 1) mX10_opens k n 16 ls st Q)) : am_R E (d + 1) mX10_opens (k' + k) (n' + n) 16 ls (x2 :: x1 :: .ref a :: st) S iv Q := am_cV (ci := 10) (M' := mX10_howSoon) (as := [x1, x2]) dX10_opens_16 rfl rfl rfl wq_1082 wq_1083 wq_1084 wq_808 wq_1080 hy_X10_howSoon (by decide) ha hst (by omega) (by omega) hM
theorem sX10_opens_19 {ls : List Value} (h : am_R E d mX10_opens k n 27 ls st S iv Q) : am_R E d mX10_opens k n 19 ls st S iv Q := am_goto dX10_opens_19 (by decide) h
theorem sX10_opens_22 {a0 a1 : Value} (hv : am_rf a0 = true) (h : am_R E d mX10_opens k n 23 [a0, a1] (a0 :: st) S iv Q) : am_R E d mX10_opens k n 22 [a0, a1] st S iv Q := am_aload_n dX10_opens_22 rfl rfl hv h
theorem sX10_opens_23 {a0 a1 : Value} (h : am_R E d mX10_opens k n 24 [a0, a1] (.int 1 :: st) S iv Q) : am_R E d mX10_opens k n 23 [a0, a1] st S iv Q := am_iconst dX10_opens_23 (by decide) h
theorem sX10_opens_24 {ls : List Value} {x1 : Value} {a : Nat} (ha : S.1 a = some (.inl 10)) (hst : (st.map fun v => v.category).sum ≤ 8) (hM : am_M E d mX10_fail 0 0 [.ref a, x1] S iv (am_K3 E (d + 1) mX10_opens k n 24 ls st Q)) : am_R E (d + 1) mX10_opens k n 24 ls (x1 :: .ref a :: st) S iv Q := am_cV (ci := 10) (M' := mX10_fail) (as := [x1]) dX10_opens_24 rfl rfl rfl wq_955 wq_956 wq_957 wq_808 wq_953 hy_X10_fail (by decide) ha hst (by omega) (by omega) hM
theorem sX10_opens_24_k {ls : List Value} {x1 : Value} {k' n' : Nat} {a : Nat} (ha : S.1 a = some (.inl 10)) (hst : (st.map fun v => v.category).sum ≤ 8) (hM : am_M E d mX10_fail k' n' [.ref a, x1] S iv (am_K3 E (d + 1) mX10_opens k n 24 ls st Q)) : am_R E (d + 1) mX10_opens (k' + k) (n' + n) 24 ls (x1 :: .ref a :: st) S iv Q := am_cV (ci := 10) (M' := mX10_fail) (as := [x1]) dX10_opens_24 rfl rfl rfl wq_955 wq_956 wq_957 wq_808 wq_953 hy_X10_fail (by decide) ha hst (by omega) (by omega) hM
theorem sX10_opens_27 {ls : List Value} {x : Int32} (h : Q (.inl (some (.int x))) S iv) : am_R E d mX10_opens k n 27 ls [.int x] S iv Q := am_ireturn dX10_opens_27 rfl h
theorem dX10_shuts_0 : decode cX10_shuts 0 = .ok (.aload_n 0, 1) := by decide +kernel
theorem dX10_shuts_1 : decode cX10_shuts 1 = .ok (.iconst 0, 1) := by decide +kernel
theorem dX10_shuts_2 : decode cX10_shuts 2 = .ok (.putfield 143, 3) := by decide +kernel
theorem dX10_shuts_5 : decode cX10_shuts 5 = .ok (.aload_n 0, 1) := by decide +kernel
theorem dX10_shuts_6 : decode cX10_shuts 6 = .ok (.iload_n 1, 1) := by decide +kernel
theorem dX10_shuts_7 : decode cX10_shuts 7 = .ok (.invokevirtual 354, 3) := by decide +kernel
theorem dX10_shuts_10 : decode cX10_shuts 10 = .ok (.ifCond .eq 12, 3) := by decide +kernel
theorem dX10_shuts_13 : decode cX10_shuts 13 = .ok (.aload_n 0, 1) := by decide +kernel
theorem dX10_shuts_14 : decode cX10_shuts 14 = .ok (.iconst 1, 1) := by decide +kernel
theorem dX10_shuts_15 : decode cX10_shuts 15 = .ok (.iload_n 1, 1) := by decide +kernel
theorem dX10_shuts_16 : decode cX10_shuts 16 = .ok (.invokevirtual 390, 3) := by decide +kernel
theorem dX10_shuts_19 : decode cX10_shuts 19 = .ok (.goto 8, 3) := by decide +kernel
theorem dX10_shuts_22 : decode cX10_shuts 22 = .ok (.aload_n 0, 1) := by decide +kernel
theorem dX10_shuts_23 : decode cX10_shuts 23 = .ok (.iconst 1, 1) := by decide +kernel
theorem dX10_shuts_24 : decode cX10_shuts 24 = .ok (.invokevirtual 293, 3) := by decide +kernel
theorem dX10_shuts_27 : decode cX10_shuts 27 = .ok (.ireturn, 1) := by decide +kernel
theorem sX10_shuts_0 {a0 a1 : Value} (hv : am_rf a0 = true) (h : am_R E d mX10_shuts k n 1 [a0, a1] (a0 :: st) S iv Q) : am_R E d mX10_shuts k n 0 [a0, a1] st S iv Q := am_aload_n dX10_shuts_0 rfl rfl hv h
theorem sX10_shuts_1 {a0 a1 : Value} (h : am_R E d mX10_shuts k n 2 [a0, a1] (.int 0 :: st) S iv Q) : am_R E d mX10_shuts k n 1 [a0, a1] st S iv Q := am_iconst dX10_shuts_1 (by decide) h
theorem sX10_shuts_2 {ls : List Value} {a : Nat} {x : Int32} (ha : S.1 a = some (.inl 10)) (h : am_R E d mX10_shuts k n 5 ls st S (am_w iv a 3 x) Q) : am_R E d mX10_shuts k n 2 ls (.int x :: .ref a :: st) S iv Q := am_putI (ci := 10) dX10_shuts_2 rfl rfl (by decide) wq_806 uq_10 tyX10_ok nmX10 (Or.inl rfl) rfl ha h
theorem sX10_shuts_5 {a0 a1 : Value} (hv : am_rf a0 = true) (h : am_R E d mX10_shuts k n 6 [a0, a1] (a0 :: st) S iv Q) : am_R E d mX10_shuts k n 5 [a0, a1] st S iv Q := am_aload_n dX10_shuts_5 rfl rfl hv h
theorem sX10_shuts_6 {a0 : Value} {x : Int32} (h : am_R E d mX10_shuts k n 7 [a0, .int x] (.int x :: st) S iv Q) : am_R E d mX10_shuts k n 6 [a0, .int x] st S iv Q := am_iload_n dX10_shuts_6 rfl rfl h
theorem sX10_shuts_7 {ls : List Value} {x1 : Value} {a : Nat} (ha : S.1 a = some (.inl 10)) (hst : (st.map fun v => v.category).sum ≤ 8) (hM : am_M E d mX10_isDrawer 0 0 [.ref a, x1] S iv (am_K3 E (d + 1) mX10_shuts k n 7 ls st Q)) : am_R E (d + 1) mX10_shuts k n 7 ls (x1 :: .ref a :: st) S iv Q := am_cV (ci := 10) (M' := mX10_isDrawer) (as := [x1]) dX10_shuts_7 rfl rfl rfl wq_1026 wq_1027 wq_1028 wq_808 wq_1024 hy_X10_isDrawer (by decide) ha hst (by omega) (by omega) hM
theorem sX10_shuts_7_k {ls : List Value} {x1 : Value} {k' n' : Nat} {a : Nat} (ha : S.1 a = some (.inl 10)) (hst : (st.map fun v => v.category).sum ≤ 8) (hM : am_M E d mX10_isDrawer k' n' [.ref a, x1] S iv (am_K3 E (d + 1) mX10_shuts k n 7 ls st Q)) : am_R E (d + 1) mX10_shuts (k' + k) (n' + n) 7 ls (x1 :: .ref a :: st) S iv Q := am_cV (ci := 10) (M' := mX10_isDrawer) (as := [x1]) dX10_shuts_7 rfl rfl rfl wq_1026 wq_1027 wq_1028 wq_808 wq_1024 hy_X10_isDrawer (by decide) ha hst (by omega) (by omega) hM
theorem sX10_shuts_10 {ls : List Value} {x : Int32} (kt : x = 0 → am_R E d mX10_shuts k n 22 ls st S iv Q) (kf : ¬ x = 0 → am_R E d mX10_shuts k n 13 ls st S iv Q) : am_R E d mX10_shuts k n 10 ls (.int x :: st) S iv Q := am_if_eq dX10_shuts_10 (by decide) kt kf
theorem sX10_shuts_13 {a0 a1 : Value} (hv : am_rf a0 = true) (h : am_R E d mX10_shuts k n 14 [a0, a1] (a0 :: st) S iv Q) : am_R E d mX10_shuts k n 13 [a0, a1] st S iv Q := am_aload_n dX10_shuts_13 rfl rfl hv h
theorem sX10_shuts_14 {a0 a1 : Value} (h : am_R E d mX10_shuts k n 15 [a0, a1] (.int 1 :: st) S iv Q) : am_R E d mX10_shuts k n 14 [a0, a1] st S iv Q := am_iconst dX10_shuts_14 (by decide) h
theorem sX10_shuts_15 {a0 : Value} {x : Int32} (h : am_R E d mX10_shuts k n 16 [a0, .int x] (.int x :: st) S iv Q) : am_R E d mX10_shuts k n 15 [a0, .int x] st S iv Q := am_iload_n dX10_shuts_15 rfl rfl h
theorem sX10_shuts_16 {ls : List Value} {x1 x2 : Value} {a : Nat} (ha : S.1 a = some (.inl 10)) (hst : (st.map fun v => v.category).sum ≤ 8) (hM : am_M E d mX10_howSoon 0 0 [.ref a, x1, x2] S iv (am_K3 E (d + 1) mX10_shuts k n 16 ls st Q)) : am_R E (d + 1) mX10_shuts k n 16 ls (x2 :: x1 :: .ref a :: st) S iv Q := am_cV (ci := 10) (M' := mX10_howSoon) (as := [x1, x2]) dX10_shuts_16 rfl rfl rfl wq_1082 wq_1083 wq_1084 wq_808 wq_1080 hy_X10_howSoon (by decide) ha hst (by omega) (by omega) hM
theorem sX10_shuts_16_k {ls : List Value} {x1 x2 : Value} {k' n' : Nat} {a : Nat} (ha : S.1 a = some (.inl 10)) (hst : (st.map fun v => v.category).sum ≤ 8) (hM : am_M E d mX10_howSoon k' n' [.ref a, x1, x2] S iv (am_K3 E (d + 1) mX10_shuts k n 16 ls st Q)) : am_R E (d + 1) mX10_shuts (k' + k) (n' + n) 16 ls (x2 :: x1 :: .ref a :: st) S iv Q := am_cV (ci := 10) (M' := mX10_howSoon) (as := [x1, x2]) dX10_shuts_16 rfl rfl rfl wq_1082 wq_1083 wq_1084 wq_808 wq_1080 hy_X10_howSoon (by decide) ha hst (by omega) (by omega) hM
theorem sX10_shuts_19 {ls : List Value} (h : am_R E d mX10_shuts k n 27 ls st S iv Q) : am_R E d mX10_shuts k n 19 ls st S iv Q := am_goto dX10_shuts_19 (by decide) h
theorem sX10_shuts_22 {a0 a1 : Value} (hv : am_rf a0 = true) (h : am_R E d mX10_shuts k n 23 [a0, a1] (a0 :: st) S iv Q) : am_R E d mX10_shuts k n 22 [a0, a1] st S iv Q := am_aload_n dX10_shuts_22 rfl rfl hv h
theorem sX10_shuts_23 {a0 a1 : Value} (h : am_R E d mX10_shuts k n 24 [a0, a1] (.int 1 :: st) S iv Q) : am_R E d mX10_shuts k n 23 [a0, a1] st S iv Q := am_iconst dX10_shuts_23 (by decide) h
theorem sX10_shuts_24 {ls : List Value} {x1 : Value} {a : Nat} (ha : S.1 a = some (.inl 10)) (hst : (st.map fun v => v.category).sum ≤ 8) (hM : am_M E d mX10_fail 0 0 [.ref a, x1] S iv (am_K3 E (d + 1) mX10_shuts k n 24 ls st Q)) : am_R E (d + 1) mX10_shuts k n 24 ls (x1 :: .ref a :: st) S iv Q := am_cV (ci := 10) (M' := mX10_fail) (as := [x1]) dX10_shuts_24 rfl rfl rfl wq_955 wq_956 wq_957 wq_808 wq_953 hy_X10_fail (by decide) ha hst (by omega) (by omega) hM
theorem sX10_shuts_24_k {ls : List Value} {x1 : Value} {k' n' : Nat} {a : Nat} (ha : S.1 a = some (.inl 10)) (hst : (st.map fun v => v.category).sum ≤ 8) (hM : am_M E d mX10_fail k' n' [.ref a, x1] S iv (am_K3 E (d + 1) mX10_shuts k n 24 ls st Q)) : am_R E (d + 1) mX10_shuts (k' + k) (n' + n) 24 ls (x1 :: .ref a :: st) S iv Q := am_cV (ci := 10) (M' := mX10_fail) (as := [x1]) dX10_shuts_24 rfl rfl rfl wq_955 wq_956 wq_957 wq_808 wq_953 hy_X10_fail (by decide) ha hst (by omega) (by omega) hM
theorem sX10_shuts_27 {ls : List Value} {x : Int32} (h : Q (.inl (some (.int x))) S iv) : am_R E d mX10_shuts k n 27 ls [.int x] S iv Q := am_ireturn dX10_shuts_27 rfl h
theorem dX10_bread_0 : decode cX10_bread 0 = .ok (.aload_n 0, 1) := by decide +kernel
theorem dX10_bread_1 : decode cX10_bread 1 = .ok (.iconst 0, 1) := by decide +kernel
theorem dX10_bread_2 : decode cX10_bread 2 = .ok (.putfield 143, 3) := by decide +kernel
theorem dX10_bread_5 : decode cX10_bread 5 = .ok (.aload_n 0, 1) := by decide +kernel
theorem dX10_bread_6 : decode cX10_bread 6 = .ok (.iconst 2, 1) := by decide +kernel
theorem dX10_bread_7 : decode cX10_bread 7 = .ok (.iconst 0, 1) := by decide +kernel
theorem dX10_bread_8 : decode cX10_bread 8 = .ok (.invokevirtual 390, 3) := by decide +kernel
theorem dX10_bread_11 : decode cX10_bread 11 = .ok (.ireturn, 1) := by decide +kernel
theorem sX10_bread_0 {a0 : Value} (hv : am_rf a0 = true) (h : am_R E d mX10_bread k n 1 [a0] (a0 :: st) S iv Q) : am_R E d mX10_bread k n 0 [a0] st S iv Q := am_aload_n dX10_bread_0 rfl rfl hv h
theorem sX10_bread_1 {a0 : Value} (h : am_R E d mX10_bread k n 2 [a0] (.int 0 :: st) S iv Q) : am_R E d mX10_bread k n 1 [a0] st S iv Q := am_iconst dX10_bread_1 (by decide) h
theorem sX10_bread_2 {ls : List Value} {a : Nat} {x : Int32} (ha : S.1 a = some (.inl 10)) (h : am_R E d mX10_bread k n 5 ls st S (am_w iv a 3 x) Q) : am_R E d mX10_bread k n 2 ls (.int x :: .ref a :: st) S iv Q := am_putI (ci := 10) dX10_bread_2 rfl rfl (by decide) wq_806 uq_10 tyX10_ok nmX10 (Or.inl rfl) rfl ha h
theorem sX10_bread_5 {a0 : Value} (hv : am_rf a0 = true) (h : am_R E d mX10_bread k n 6 [a0] (a0 :: st) S iv Q) : am_R E d mX10_bread k n 5 [a0] st S iv Q := am_aload_n dX10_bread_5 rfl rfl hv h
theorem sX10_bread_6 {a0 : Value} (h : am_R E d mX10_bread k n 7 [a0] (.int 2 :: st) S iv Q) : am_R E d mX10_bread k n 6 [a0] st S iv Q := am_iconst dX10_bread_6 (by decide) h
theorem sX10_bread_7 {a0 : Value} (h : am_R E d mX10_bread k n 8 [a0] (.int 0 :: st) S iv Q) : am_R E d mX10_bread k n 7 [a0] st S iv Q := am_iconst dX10_bread_7 (by decide) h
theorem sX10_bread_8 {ls : List Value} {x1 x2 : Value} {a : Nat} (ha : S.1 a = some (.inl 10)) (hst : (st.map fun v => v.category).sum ≤ 8) (hM : am_M E d mX10_howSoon 0 0 [.ref a, x1, x2] S iv (am_K3 E (d + 1) mX10_bread k n 8 ls st Q)) : am_R E (d + 1) mX10_bread k n 8 ls (x2 :: x1 :: .ref a :: st) S iv Q := am_cV (ci := 10) (M' := mX10_howSoon) (as := [x1, x2]) dX10_bread_8 rfl rfl rfl wq_1082 wq_1083 wq_1084 wq_808 wq_1080 hy_X10_howSoon (by decide) ha hst (by omega) (by omega) hM
theorem sX10_bread_8_k {ls : List Value} {x1 x2 : Value} {k' n' : Nat} {a : Nat} (ha : S.1 a = some (.inl 10)) (hst : (st.map fun v => v.category).sum ≤ 8) (hM : am_M E d mX10_howSoon k' n' [.ref a, x1, x2] S iv (am_K3 E (d + 1) mX10_bread k n 8 ls st Q)) : am_R E (d + 1) mX10_bread (k' + k) (n' + n) 8 ls (x2 :: x1 :: .ref a :: st) S iv Q := am_cV (ci := 10) (M' := mX10_howSoon) (as := [x1, x2]) dX10_bread_8 rfl rfl rfl wq_1082 wq_1083 wq_1084 wq_808 wq_1080 hy_X10_howSoon (by decide) ha hst (by omega) (by omega) hM
theorem sX10_bread_11 {ls : List Value} {x : Int32} (h : Q (.inl (some (.int x))) S iv) : am_R E d mX10_bread k n 11 ls [.int x] S iv Q := am_ireturn dX10_bread_11 rfl h
theorem dX10_row_0 : decode cX10_row 0 = .ok (.aload_n 0, 1) := by decide +kernel
theorem dX10_row_1 : decode cX10_row 1 = .ok (.iconst 0, 1) := by decide +kernel
theorem dX10_row_2 : decode cX10_row 2 = .ok (.putfield 143, 3) := by decide +kernel
theorem dX10_row_5 : decode cX10_row 5 = .ok (.aload_n 0, 1) := by decide +kernel
theorem dX10_row_6 : decode cX10_row 6 = .ok (.getfield 125, 3) := by decide +kernel
theorem dX10_row_9 : decode cX10_row 9 = .ok (.iconst (-1), 1) := by decide +kernel
theorem dX10_row_10 : decode cX10_row 10 = .ok (.if_icmp .ne 9, 3) := by decide +kernel
theorem dX10_row_13 : decode cX10_row 13 = .ok (.aload_n 0, 1) := by decide +kernel
theorem dX10_row_14 : decode cX10_row 14 = .ok (.iconst 1, 1) := by decide +kernel
theorem dX10_row_15 : decode cX10_row 15 = .ok (.invokevirtual 293, 3) := by decide +kernel
theorem dX10_row_18 : decode cX10_row 18 = .ok (.ireturn, 1) := by decide +kernel
theorem dX10_row_19 : decode cX10_row 19 = .ok (.iload_n 1, 1) := by decide +kernel
theorem dX10_row_20 : decode cX10_row 20 = .ok (.iconst (-1), 1) := by decide +kernel
theorem dX10_row_21 : decode cX10_row 21 = .ok (.if_icmp .ne 10, 3) := by decide +kernel
theorem dX10_row_24 : decode cX10_row 24 = .ok (.aload_n 0, 1) := by decide +kernel
theorem dX10_row_25 : decode cX10_row 25 = .ok (.getfield 125, 3) := by decide +kernel
theorem dX10_row_28 : decode cX10_row 28 = .ok (.goto 31, 3) := by decide +kernel
theorem dX10_row_31 : decode cX10_row 31 = .ok (.iload_n 1, 1) := by decide +kernel
theorem dX10_row_32 : decode cX10_row 32 = .ok (.iconst 0, 1) := by decide +kernel
theorem dX10_row_33 : decode cX10_row 33 = .ok (.aload_n 0, 1) := by decide +kernel
theorem dX10_row_34 : decode cX10_row 34 = .ok (.getfield 125, 3) := by decide +kernel
theorem dX10_row_37 : decode cX10_row 37 = .ok (.iconst 1, 1) := by decide +kernel
theorem dX10_row_38 : decode cX10_row 38 = .ok (.isub, 1) := by decide +kernel
theorem dX10_row_39 : decode cX10_row 39 = .ok (.invokestatic 146, 3) := by decide +kernel
theorem dX10_row_42 : decode cX10_row 42 = .ok (.ifCond .eq 12, 3) := by decide +kernel
theorem dX10_row_45 : decode cX10_row 45 = .ok (.aload_n 0, 1) := by decide +kernel
theorem dX10_row_46 : decode cX10_row 46 = .ok (.getfield 118, 3) := by decide +kernel
theorem dX10_row_49 : decode cX10_row 49 = .ok (.iload_n 1, 1) := by decide +kernel
theorem dX10_row_50 : decode cX10_row 50 = .ok (.iaload, 1) := by decide +kernel
theorem dX10_row_51 : decode cX10_row 51 = .ok (.goto 8, 3) := by decide +kernel
theorem dX10_row_54 : decode cX10_row 54 = .ok (.aload_n 0, 1) := by decide +kernel
theorem dX10_row_55 : decode cX10_row 55 = .ok (.iconst 1, 1) := by decide +kernel
theorem dX10_row_56 : decode cX10_row 56 = .ok (.invokevirtual 293, 3) := by decide +kernel
theorem dX10_row_59 : decode cX10_row 59 = .ok (.ireturn, 1) := by decide +kernel
theorem sX10_row_0 {a0 a1 : Value} (hv : am_rf a0 = true) (h : am_R E d mX10_row k n 1 [a0, a1] (a0 :: st) S iv Q) : am_R E d mX10_row k n 0 [a0, a1] st S iv Q := am_aload_n dX10_row_0 rfl rfl hv h
theorem sX10_row_1 {a0 a1 : Value} (h : am_R E d mX10_row k n 2 [a0, a1] (.int 0 :: st) S iv Q) : am_R E d mX10_row k n 1 [a0, a1] st S iv Q := am_iconst dX10_row_1 (by decide) h
theorem sX10_row_2 {ls : List Value} {a : Nat} {x : Int32} (ha : S.1 a = some (.inl 10)) (h : am_R E d mX10_row k n 5 ls st S (am_w iv a 3 x) Q) : am_R E d mX10_row k n 2 ls (.int x :: .ref a :: st) S iv Q := am_putI (ci := 10) dX10_row_2 rfl rfl (by decide) wq_806 uq_10 tyX10_ok nmX10 (Or.inl rfl) rfl ha h
theorem sX10_row_5 {a0 a1 : Value} (hv : am_rf a0 = true) (h : am_R E d mX10_row k n 6 [a0, a1] (a0 :: st) S iv Q) : am_R E d mX10_row k n 5 [a0, a1] st S iv Q := am_aload_n dX10_row_5 rfl rfl hv h
theorem sX10_row_6 {ls : List Value} {a : Nat} (ha : S.1 a = some (.inl 10)) (h : am_R E d mX10_row k n 9 ls (.int (iv a 45) :: st) S iv Q) : am_R E d mX10_row k n 6 ls (.ref a :: st) S iv Q := am_getI (ci := 10) dX10_row_6 rfl rfl (by decide) wq_800 uq_10 rfl ha h
theorem sX10_row_9 {a0 a1 : Value} (h : am_R E d mX10_row k n 10 [a0, a1] (.int (-1) :: st) S iv Q) : am_R E d mX10_row k n 9 [a0, a1] st S iv Q := am_iconst dX10_row_9 (by decide) h
theorem sX10_row_10 {ls : List Value} {x y : Int32} (kt : ¬ x = y → am_R E d mX10_row k n 19 ls st S iv Q) (kf : x = y → am_R E d mX10_row k n 13 ls st S iv Q) : am_R E d mX10_row k n 10 ls (.int y :: .int x :: st) S iv Q := am_icmp_ne dX10_row_10 (by decide) kt kf
theorem sX10_row_13 {a0 a1 : Value} (hv : am_rf a0 = true) (h : am_R E d mX10_row k n 14 [a0, a1] (a0 :: st) S iv Q) : am_R E d mX10_row k n 13 [a0, a1] st S iv Q := am_aload_n dX10_row_13 rfl rfl hv h
theorem sX10_row_14 {a0 a1 : Value} (h : am_R E d mX10_row k n 15 [a0, a1] (.int 1 :: st) S iv Q) : am_R E d mX10_row k n 14 [a0, a1] st S iv Q := am_iconst dX10_row_14 (by decide) h
theorem sX10_row_15 {ls : List Value} {x1 : Value} {a : Nat} (ha : S.1 a = some (.inl 10)) (hst : (st.map fun v => v.category).sum ≤ 8) (hM : am_M E d mX10_fail 0 0 [.ref a, x1] S iv (am_K3 E (d + 1) mX10_row k n 15 ls st Q)) : am_R E (d + 1) mX10_row k n 15 ls (x1 :: .ref a :: st) S iv Q := am_cV (ci := 10) (M' := mX10_fail) (as := [x1]) dX10_row_15 rfl rfl rfl wq_955 wq_956 wq_957 wq_808 wq_953 hy_X10_fail (by decide) ha hst (by omega) (by omega) hM
theorem sX10_row_15_k {ls : List Value} {x1 : Value} {k' n' : Nat} {a : Nat} (ha : S.1 a = some (.inl 10)) (hst : (st.map fun v => v.category).sum ≤ 8) (hM : am_M E d mX10_fail k' n' [.ref a, x1] S iv (am_K3 E (d + 1) mX10_row k n 15 ls st Q)) : am_R E (d + 1) mX10_row (k' + k) (n' + n) 15 ls (x1 :: .ref a :: st) S iv Q := am_cV (ci := 10) (M' := mX10_fail) (as := [x1]) dX10_row_15 rfl rfl rfl wq_955 wq_956 wq_957 wq_808 wq_953 hy_X10_fail (by decide) ha hst (by omega) (by omega) hM
theorem sX10_row_18 {ls : List Value} {x : Int32} (h : Q (.inl (some (.int x))) S iv) : am_R E d mX10_row k n 18 ls [.int x] S iv Q := am_ireturn dX10_row_18 rfl h
theorem sX10_row_19 {a0 : Value} {x : Int32} (h : am_R E d mX10_row k n 20 [a0, .int x] (.int x :: st) S iv Q) : am_R E d mX10_row k n 19 [a0, .int x] st S iv Q := am_iload_n dX10_row_19 rfl rfl h
theorem sX10_row_20 {a0 a1 : Value} (h : am_R E d mX10_row k n 21 [a0, a1] (.int (-1) :: st) S iv Q) : am_R E d mX10_row k n 20 [a0, a1] st S iv Q := am_iconst dX10_row_20 (by decide) h
theorem sX10_row_21 {ls : List Value} {x y : Int32} (kt : ¬ x = y → am_R E d mX10_row k n 31 ls st S iv Q) (kf : x = y → am_R E d mX10_row k n 24 ls st S iv Q) : am_R E d mX10_row k n 21 ls (.int y :: .int x :: st) S iv Q := am_icmp_ne dX10_row_21 (by decide) kt kf
theorem sX10_row_24 {a0 a1 : Value} (hv : am_rf a0 = true) (h : am_R E d mX10_row k n 25 [a0, a1] (a0 :: st) S iv Q) : am_R E d mX10_row k n 24 [a0, a1] st S iv Q := am_aload_n dX10_row_24 rfl rfl hv h
theorem sX10_row_25 {ls : List Value} {a : Nat} (ha : S.1 a = some (.inl 10)) (h : am_R E d mX10_row k n 28 ls (.int (iv a 45) :: st) S iv Q) : am_R E d mX10_row k n 25 ls (.ref a :: st) S iv Q := am_getI (ci := 10) dX10_row_25 rfl rfl (by decide) wq_800 uq_10 rfl ha h
theorem sX10_row_28 {ls : List Value} (h : am_R E d mX10_row k n 59 ls st S iv Q) : am_R E d mX10_row k n 28 ls st S iv Q := am_goto dX10_row_28 (by decide) h
theorem sX10_row_31 {a0 : Value} {x : Int32} (h : am_R E d mX10_row k n 32 [a0, .int x] (.int x :: st) S iv Q) : am_R E d mX10_row k n 31 [a0, .int x] st S iv Q := am_iload_n dX10_row_31 rfl rfl h
theorem sX10_row_32 {a0 a1 : Value} (h : am_R E d mX10_row k n 33 [a0, a1] (.int 0 :: st) S iv Q) : am_R E d mX10_row k n 32 [a0, a1] st S iv Q := am_iconst dX10_row_32 (by decide) h
theorem sX10_row_33 {a0 a1 : Value} (hv : am_rf a0 = true) (h : am_R E d mX10_row k n 34 [a0, a1] (a0 :: st) S iv Q) : am_R E d mX10_row k n 33 [a0, a1] st S iv Q := am_aload_n dX10_row_33 rfl rfl hv h
theorem sX10_row_34 {ls : List Value} {a : Nat} (ha : S.1 a = some (.inl 10)) (h : am_R E d mX10_row k n 37 ls (.int (iv a 45) :: st) S iv Q) : am_R E d mX10_row k n 34 ls (.ref a :: st) S iv Q := am_getI (ci := 10) dX10_row_34 rfl rfl (by decide) wq_800 uq_10 rfl ha h
theorem sX10_row_37 {a0 a1 : Value} (h : am_R E d mX10_row k n 38 [a0, a1] (.int 1 :: st) S iv Q) : am_R E d mX10_row k n 37 [a0, a1] st S iv Q := am_iconst dX10_row_37 (by decide) h
theorem sX10_row_38 {ls : List Value} {x y : Int32} (h : am_R E d mX10_row k n 39 ls (.int (x - y) :: st) S iv Q) : am_R E d mX10_row k n 38 ls (.int y :: .int x :: st) S iv Q := am_isub dX10_row_38 h
theorem sX10_row_39 {ls : List Value} {x1 x2 x3 : Value} (hst : (st.map fun v => v.category).sum ≤ 8) (hM : am_M E d mX10_isIn 0 0 [x1, x2, x3] S iv (am_K3 E (d + 1) mX10_row k n 39 ls st Q)) : am_R E (d + 1) mX10_row k n 39 ls (x3 :: x2 :: x1 :: st) S iv Q := am_cS (M' := mX10_isIn) (as := [x1, x2, x3]) dX10_row_39 rfl wq_810 wq_811 wq_808 wq_807 hy_X10_isIn (by decide) hst (by omega) (by omega) hM
theorem sX10_row_39_k {ls : List Value} {x1 x2 x3 : Value} {k' n' : Nat} (hst : (st.map fun v => v.category).sum ≤ 8) (hM : am_M E d mX10_isIn k' n' [x1, x2, x3] S iv (am_K3 E (d + 1) mX10_row k n 39 ls st Q)) : am_R E (d + 1) mX10_row (k' + k) (n' + n) 39 ls (x3 :: x2 :: x1 :: st) S iv Q := am_cS (M' := mX10_isIn) (as := [x1, x2, x3]) dX10_row_39 rfl wq_810 wq_811 wq_808 wq_807 hy_X10_isIn (by decide) hst (by omega) (by omega) hM
theorem sX10_row_42 {ls : List Value} {x : Int32} (kt : x = 0 → am_R E d mX10_row k n 54 ls st S iv Q) (kf : ¬ x = 0 → am_R E d mX10_row k n 45 ls st S iv Q) : am_R E d mX10_row k n 42 ls (.int x :: st) S iv Q := am_if_eq dX10_row_42 (by decide) kt kf
theorem sX10_row_45 {a0 a1 : Value} (hv : am_rf a0 = true) (h : am_R E d mX10_row k n 46 [a0, a1] (a0 :: st) S iv Q) : am_R E d mX10_row k n 45 [a0, a1] st S iv Q := am_aload_n dX10_row_45 rfl rfl hv h
theorem sX10_row_46 {ls : List Value} {a b : Nat} (ha : S.1 a = some (.inl 10)) (hb : S.2.1 a 42 = some b) (h : am_R E d mX10_row k n 49 ls (.ref b :: st) S iv Q) : am_R E d mX10_row k n 46 ls (.ref a :: st) S iv Q := am_getR (ci := 10) dX10_row_46 rfl rfl (by decide) wq_797 uq_10 rfl ha hb h
theorem sX10_row_49 {a0 : Value} {x : Int32} (h : am_R E d mX10_row k n 50 [a0, .int x] (.int x :: st) S iv Q) : am_R E d mX10_row k n 49 [a0, .int x] st S iv Q := am_iload_n dX10_row_49 rfl rfl h
theorem sX10_row_50 {ls : List Value} {a m : Nat} {i : Int32} (ha : S.1 a = some (.inr (.int, m))) (hi : vp_in i m) (h : am_R E d mX10_row k n 51 ls (.int (iv a i.toNatClampNeg) :: st) S iv Q) : am_R E d mX10_row k n 50 ls (.int i :: .ref a :: st) S iv Q := am_iaload dX10_row_50 ha hi h
theorem sX10_row_51 {ls : List Value} (h : am_R E d mX10_row k n 59 ls st S iv Q) : am_R E d mX10_row k n 51 ls st S iv Q := am_goto dX10_row_51 (by decide) h
theorem sX10_row_54 {a0 a1 : Value} (hv : am_rf a0 = true) (h : am_R E d mX10_row k n 55 [a0, a1] (a0 :: st) S iv Q) : am_R E d mX10_row k n 54 [a0, a1] st S iv Q := am_aload_n dX10_row_54 rfl rfl hv h
theorem sX10_row_55 {a0 a1 : Value} (h : am_R E d mX10_row k n 56 [a0, a1] (.int 1 :: st) S iv Q) : am_R E d mX10_row k n 55 [a0, a1] st S iv Q := am_iconst dX10_row_55 (by decide) h
theorem sX10_row_56 {ls : List Value} {x1 : Value} {a : Nat} (ha : S.1 a = some (.inl 10)) (hst : (st.map fun v => v.category).sum ≤ 8) (hM : am_M E d mX10_fail 0 0 [.ref a, x1] S iv (am_K3 E (d + 1) mX10_row k n 56 ls st Q)) : am_R E (d + 1) mX10_row k n 56 ls (x1 :: .ref a :: st) S iv Q := am_cV (ci := 10) (M' := mX10_fail) (as := [x1]) dX10_row_56 rfl rfl rfl wq_955 wq_956 wq_957 wq_808 wq_953 hy_X10_fail (by decide) ha hst (by omega) (by omega) hM
theorem sX10_row_56_k {ls : List Value} {x1 : Value} {k' n' : Nat} {a : Nat} (ha : S.1 a = some (.inl 10)) (hst : (st.map fun v => v.category).sum ≤ 8) (hM : am_M E d mX10_fail k' n' [.ref a, x1] S iv (am_K3 E (d + 1) mX10_row k n 56 ls st Q)) : am_R E (d + 1) mX10_row (k' + k) (n' + n) 56 ls (x1 :: .ref a :: st) S iv Q := am_cV (ci := 10) (M' := mX10_fail) (as := [x1]) dX10_row_56 rfl rfl rfl wq_955 wq_956 wq_957 wq_808 wq_953 hy_X10_fail (by decide) ha hst (by omega) (by omega) hM
theorem sX10_row_59 {ls : List Value} {x : Int32} (h : Q (.inl (some (.int x))) S iv) : am_R E d mX10_row k n 59 ls [.int x] S iv Q := am_ireturn dX10_row_59 rfl h
theorem dX10_everOut_0 : decode cX10_everOut 0 = .ok (.aload_n 0, 1) := by decide +kernel
theorem dX10_everOut_1 : decode cX10_everOut 1 = .ok (.iload_n 2, 1) := by decide +kernel
theorem dX10_everOut_2 : decode cX10_everOut 2 = .ok (.invokevirtual 384, 3) := by decide +kernel
theorem dX10_everOut_5 : decode cX10_everOut 5 = .ok (.iconst 0, 1) := by decide +kernel
theorem dX10_everOut_6 : decode cX10_everOut 6 = .ok (.istore_n 3, 1) := by decide +kernel
theorem dX10_everOut_7 : decode cX10_everOut 7 = .ok (.iconst 0, 1) := by decide +kernel
theorem dX10_everOut_8 : decode cX10_everOut 8 = .ok (.istore 4, 2) := by decide +kernel
theorem dX10_everOut_10 : decode cX10_everOut 10 = .ok (.iload 4, 2) := by decide +kernel
theorem dX10_everOut_12 : decode cX10_everOut 12 = .ok (.aload_n 0, 1) := by decide +kernel
theorem dX10_everOut_13 : decode cX10_everOut 13 = .ok (.getfield 372, 3) := by decide +kernel
theorem dX10_everOut_16 : decode cX10_everOut 16 = .ok (.if_icmp .ge 22, 3) := by decide +kernel
theorem dX10_everOut_19 : decode cX10_everOut 19 = .ok (.iload_n 3, 1) := by decide +kernel
theorem dX10_everOut_20 : decode cX10_everOut 20 = .ok (.aload_n 0, 1) := by decide +kernel
theorem dX10_everOut_21 : decode cX10_everOut 21 = .ok (.getfield 115, 3) := by decide +kernel
theorem dX10_everOut_24 : decode cX10_everOut 24 = .ok (.iload 4, 2) := by decide +kernel
theorem dX10_everOut_26 : decode cX10_everOut 26 = .ok (.iaload, 1) := by decide +kernel
theorem dX10_everOut_27 : decode cX10_everOut 27 = .ok (.bipush 32, 2) := by decide +kernel
theorem dX10_everOut_29 : decode cX10_everOut 29 = .ok (.idiv, 1) := by decide +kernel
theorem dX10_everOut_30 : decode cX10_everOut 30 = .ok (.ior, 1) := by decide +kernel
theorem dX10_everOut_31 : decode cX10_everOut 31 = .ok (.istore_n 3, 1) := by decide +kernel
theorem dX10_everOut_32 : decode cX10_everOut 32 = .ok (.iinc 4 1, 3) := by decide +kernel
theorem dX10_everOut_35 : decode cX10_everOut 35 = .ok (.goto (-25), 3) := by decide +kernel
theorem dX10_everOut_38 : decode cX10_everOut 38 = .ok (.iload_n 3, 1) := by decide +kernel
theorem dX10_everOut_39 : decode cX10_everOut 39 = .ok (.iconst 1, 1) := by decide +kernel
theorem dX10_everOut_40 : decode cX10_everOut 40 = .ok (.iload_n 1, 1) := by decide +kernel
theorem dX10_everOut_41 : decode cX10_everOut 41 = .ok (.ishl, 1) := by decide +kernel
theorem dX10_everOut_42 : decode cX10_everOut 42 = .ok (.iconst (-1), 1) := by decide +kernel
theorem dX10_everOut_43 : decode cX10_everOut 43 = .ok (.ixor, 1) := by decide +kernel
theorem dX10_everOut_44 : decode cX10_everOut 44 = .ok (.iand, 1) := by decide +kernel
theorem dX10_everOut_45 : decode cX10_everOut 45 = .ok (.invokestatic 325, 3) := by decide +kernel
theorem dX10_everOut_48 : decode cX10_everOut 48 = .ok (.ireturn, 1) := by decide +kernel
theorem sX10_everOut_0 {a0 a1 a2 a3 a4 : Value} (hv : am_rf a0 = true) (h : am_R E d mX10_everOut k n 1 [a0, a1, a2, a3, a4] (a0 :: st) S iv Q) : am_R E d mX10_everOut k n 0 [a0, a1, a2, a3, a4] st S iv Q := am_aload_n dX10_everOut_0 rfl rfl hv h
theorem sX10_everOut_1 {a0 a1 a3 a4 : Value} {x : Int32} (h : am_R E d mX10_everOut k n 2 [a0, a1, .int x, a3, a4] (.int x :: st) S iv Q) : am_R E d mX10_everOut k n 1 [a0, a1, .int x, a3, a4] st S iv Q := am_iload_n dX10_everOut_1 rfl rfl h
theorem sX10_everOut_2 {ls : List Value} {x1 : Value} {a : Nat} (ha : S.1 a = some (.inl 10)) (hst : (st.map fun v => v.category).sum ≤ 8) (hM : am_M E d mX10_seek 0 0 [.ref a, x1] S iv (am_K3 E (d + 1) mX10_everOut k n 2 ls st Q)) : am_R E (d + 1) mX10_everOut k n 2 ls (x1 :: .ref a :: st) S iv Q := am_cV (ci := 10) (M' := mX10_seek) (as := [x1]) dX10_everOut_2 rfl rfl rfl wq_1072 wq_1073 wq_1074 wq_808 wq_1070 hy_X10_seek (by decide) ha hst (by omega) (by omega) hM
theorem sX10_everOut_2_k {ls : List Value} {x1 : Value} {k' n' : Nat} {a : Nat} (ha : S.1 a = some (.inl 10)) (hst : (st.map fun v => v.category).sum ≤ 8) (hM : am_M E d mX10_seek k' n' [.ref a, x1] S iv (am_K3 E (d + 1) mX10_everOut k n 2 ls st Q)) : am_R E (d + 1) mX10_everOut (k' + k) (n' + n) 2 ls (x1 :: .ref a :: st) S iv Q := am_cV (ci := 10) (M' := mX10_seek) (as := [x1]) dX10_everOut_2 rfl rfl rfl wq_1072 wq_1073 wq_1074 wq_808 wq_1070 hy_X10_seek (by decide) ha hst (by omega) (by omega) hM
theorem sX10_everOut_5 {a0 a1 a2 a3 a4 : Value} (h : am_R E d mX10_everOut k n 6 [a0, a1, a2, a3, a4] (.int 0 :: st) S iv Q) : am_R E d mX10_everOut k n 5 [a0, a1, a2, a3, a4] st S iv Q := am_iconst dX10_everOut_5 (by decide) h
theorem sX10_everOut_6 {a0 a1 a2 a3 a4 : Value} {x : Int32} (h : am_R E d mX10_everOut k n 7 [a0, a1, a2, .int x, a4] st S iv Q) : am_R E d mX10_everOut k n 6 [a0, a1, a2, a3, a4] (.int x :: st) S iv Q := am_istore_n dX10_everOut_6 rfl (by decide) h
theorem sX10_everOut_7 {a0 a1 a2 a3 a4 : Value} (h : am_R E d mX10_everOut k n 8 [a0, a1, a2, a3, a4] (.int 0 :: st) S iv Q) : am_R E d mX10_everOut k n 7 [a0, a1, a2, a3, a4] st S iv Q := am_iconst dX10_everOut_7 (by decide) h
theorem sX10_everOut_8 {a0 a1 a2 a3 a4 : Value} {x : Int32} (h : am_R E d mX10_everOut k n 10 [a0, a1, a2, a3, .int x] st S iv Q) : am_R E d mX10_everOut k n 8 [a0, a1, a2, a3, a4] (.int x :: st) S iv Q := am_istore dX10_everOut_8 (by decide) h
theorem sX10_everOut_10 {a0 a1 a2 a3 : Value} {x : Int32} (h : am_R E d mX10_everOut k n 12 [a0, a1, a2, a3, .int x] (.int x :: st) S iv Q) : am_R E d mX10_everOut k n 10 [a0, a1, a2, a3, .int x] st S iv Q := am_iload dX10_everOut_10 rfl h
theorem sX10_everOut_12 {a0 a1 a2 a3 a4 : Value} (hv : am_rf a0 = true) (h : am_R E d mX10_everOut k n 13 [a0, a1, a2, a3, a4] (a0 :: st) S iv Q) : am_R E d mX10_everOut k n 12 [a0, a1, a2, a3, a4] st S iv Q := am_aload_n dX10_everOut_12 rfl rfl hv h
theorem sX10_everOut_13 {ls : List Value} {a : Nat} (ha : S.1 a = some (.inl 10)) (h : am_R E d mX10_everOut k n 16 ls (.int (iv a 44) :: st) S iv Q) : am_R E d mX10_everOut k n 13 ls (.ref a :: st) S iv Q := am_getI (ci := 10) dX10_everOut_13 rfl rfl (by decide) wq_1054 uq_10 rfl ha h
theorem sX10_everOut_16 {ls : List Value} {x y : Int32} (kt : y ≤ x → am_R E d mX10_everOut k n 38 ls st S iv Q) (kf : ¬ y ≤ x → am_R E d mX10_everOut k n 19 ls st S iv Q) : am_R E d mX10_everOut k n 16 ls (.int y :: .int x :: st) S iv Q := am_icmp_ge dX10_everOut_16 (by decide) kt kf
theorem sX10_everOut_19 {a0 a1 a2 a4 : Value} {x : Int32} (h : am_R E d mX10_everOut k n 20 [a0, a1, a2, .int x, a4] (.int x :: st) S iv Q) : am_R E d mX10_everOut k n 19 [a0, a1, a2, .int x, a4] st S iv Q := am_iload_n dX10_everOut_19 rfl rfl h
theorem sX10_everOut_20 {a0 a1 a2 a3 a4 : Value} (hv : am_rf a0 = true) (h : am_R E d mX10_everOut k n 21 [a0, a1, a2, a3, a4] (a0 :: st) S iv Q) : am_R E d mX10_everOut k n 20 [a0, a1, a2, a3, a4] st S iv Q := am_aload_n dX10_everOut_20 rfl rfl hv h
theorem sX10_everOut_21 {ls : List Value} {a b : Nat} (ha : S.1 a = some (.inl 10)) (hb : S.2.1 a 41 = some b) (h : am_R E d mX10_everOut k n 24 ls (.ref b :: st) S iv Q) : am_R E d mX10_everOut k n 21 ls (.ref a :: st) S iv Q := am_getR (ci := 10) dX10_everOut_21 rfl rfl (by decide) wq_796 uq_10 rfl ha hb h
theorem sX10_everOut_24 {a0 a1 a2 a3 : Value} {x : Int32} (h : am_R E d mX10_everOut k n 26 [a0, a1, a2, a3, .int x] (.int x :: st) S iv Q) : am_R E d mX10_everOut k n 24 [a0, a1, a2, a3, .int x] st S iv Q := am_iload dX10_everOut_24 rfl h
theorem sX10_everOut_26 {ls : List Value} {a m : Nat} {i : Int32} (ha : S.1 a = some (.inr (.int, m))) (hi : vp_in i m) (h : am_R E d mX10_everOut k n 27 ls (.int (iv a i.toNatClampNeg) :: st) S iv Q) : am_R E d mX10_everOut k n 26 ls (.int i :: .ref a :: st) S iv Q := am_iaload dX10_everOut_26 ha hi h
theorem sX10_everOut_27 {a0 a1 a2 a3 a4 : Value} (h : am_R E d mX10_everOut k n 29 [a0, a1, a2, a3, a4] (.int 32 :: st) S iv Q) : am_R E d mX10_everOut k n 27 [a0, a1, a2, a3, a4] st S iv Q := am_bipush dX10_everOut_27 (by decide) h
theorem sX10_everOut_29 {ls : List Value} {x y : Int32} (hy : ¬ y = 0) (h : am_R E d mX10_everOut k n 30 ls (.int (x / y) :: st) S iv Q) : am_R E d mX10_everOut k n 29 ls (.int y :: .int x :: st) S iv Q := am_idiv dX10_everOut_29 hy h
theorem sX10_everOut_30 {ls : List Value} {x y : Int32} (h : am_R E d mX10_everOut k n 31 ls (.int (x ||| y) :: st) S iv Q) : am_R E d mX10_everOut k n 30 ls (.int y :: .int x :: st) S iv Q := am_ior dX10_everOut_30 h
theorem sX10_everOut_31 {a0 a1 a2 a3 a4 : Value} {x : Int32} (h : am_R E d mX10_everOut k n 32 [a0, a1, a2, .int x, a4] st S iv Q) : am_R E d mX10_everOut k n 31 [a0, a1, a2, a3, a4] (.int x :: st) S iv Q := am_istore_n dX10_everOut_31 rfl (by decide) h
theorem sX10_everOut_32 {a0 a1 a2 a3 : Value} {x : Int32} (h : am_R E d mX10_everOut k n 35 [a0, a1, a2, a3, .int (x + 1)] st S iv Q) : am_R E d mX10_everOut k n 32 [a0, a1, a2, a3, .int x] st S iv Q := am_iinc dX10_everOut_32 rfl rfl (by decide) h
theorem sX10_everOut_35 {ls : List Value} (h : am_R E d mX10_everOut k n 10 ls st S iv Q) : am_R E d mX10_everOut k n 35 ls st S iv Q := am_goto dX10_everOut_35 (by decide) h
theorem sX10_everOut_38 {a0 a1 a2 a4 : Value} {x : Int32} (h : am_R E d mX10_everOut k n 39 [a0, a1, a2, .int x, a4] (.int x :: st) S iv Q) : am_R E d mX10_everOut k n 38 [a0, a1, a2, .int x, a4] st S iv Q := am_iload_n dX10_everOut_38 rfl rfl h
theorem sX10_everOut_39 {a0 a1 a2 a3 a4 : Value} (h : am_R E d mX10_everOut k n 40 [a0, a1, a2, a3, a4] (.int 1 :: st) S iv Q) : am_R E d mX10_everOut k n 39 [a0, a1, a2, a3, a4] st S iv Q := am_iconst dX10_everOut_39 (by decide) h
theorem sX10_everOut_40 {a0 a2 a3 a4 : Value} {x : Int32} (h : am_R E d mX10_everOut k n 41 [a0, .int x, a2, a3, a4] (.int x :: st) S iv Q) : am_R E d mX10_everOut k n 40 [a0, .int x, a2, a3, a4] st S iv Q := am_iload_n dX10_everOut_40 rfl rfl h
theorem sX10_everOut_41 {ls : List Value} {x y : Int32} (h : am_R E d mX10_everOut k n 42 ls (.int (x <<< (y &&& 31)) :: st) S iv Q) : am_R E d mX10_everOut k n 41 ls (.int y :: .int x :: st) S iv Q := am_ishl dX10_everOut_41 h
theorem sX10_everOut_42 {a0 a1 a2 a3 a4 : Value} (h : am_R E d mX10_everOut k n 43 [a0, a1, a2, a3, a4] (.int (-1) :: st) S iv Q) : am_R E d mX10_everOut k n 42 [a0, a1, a2, a3, a4] st S iv Q := am_iconst dX10_everOut_42 (by decide) h
theorem sX10_everOut_43 {ls : List Value} {x y : Int32} (h : am_R E d mX10_everOut k n 44 ls (.int (x ^^^ y) :: st) S iv Q) : am_R E d mX10_everOut k n 43 ls (.int y :: .int x :: st) S iv Q := am_ixor dX10_everOut_43 h
theorem sX10_everOut_44 {ls : List Value} {x y : Int32} (h : am_R E d mX10_everOut k n 45 ls (.int (x &&& y) :: st) S iv Q) : am_R E d mX10_everOut k n 44 ls (.int y :: .int x :: st) S iv Q := am_iand dX10_everOut_44 h
theorem sX10_everOut_45 {ls : List Value} {x1 : Value} (hst : (st.map fun v => v.category).sum ≤ 8) (hM : am_M E d mX10_bitsOf 0 0 [x1] S iv (am_K3 E (d + 1) mX10_everOut k n 45 ls st Q)) : am_R E (d + 1) mX10_everOut k n 45 ls (x1 :: st) S iv Q := am_cS (M' := mX10_bitsOf) (as := [x1]) dX10_everOut_45 rfl wq_983 wq_984 wq_808 wq_981 hy_X10_bitsOf (by decide) hst (by omega) (by omega) hM
theorem sX10_everOut_45_k {ls : List Value} {x1 : Value} {k' n' : Nat} (hst : (st.map fun v => v.category).sum ≤ 8) (hM : am_M E d mX10_bitsOf k' n' [x1] S iv (am_K3 E (d + 1) mX10_everOut k n 45 ls st Q)) : am_R E (d + 1) mX10_everOut (k' + k) (n' + n) 45 ls (x1 :: st) S iv Q := am_cS (M' := mX10_bitsOf) (as := [x1]) dX10_everOut_45 rfl wq_983 wq_984 wq_808 wq_981 hy_X10_bitsOf (by decide) hst (by omega) (by omega) hM
theorem sX10_everOut_48 {ls : List Value} {x : Int32} (h : Q (.inl (some (.int x))) S iv) : am_R E d mX10_everOut k n 48 ls [.int x] S iv Q := am_ireturn dX10_everOut_48 rfl h
theorem dX10_harm_0 : decode cX10_harm 0 = .ok (.aload_n 0, 1) := by decide +kernel
theorem dX10_harm_1 : decode cX10_harm 1 = .ok (.iconst 0, 1) := by decide +kernel
theorem dX10_harm_2 : decode cX10_harm 2 = .ok (.putfield 143, 3) := by decide +kernel
theorem dX10_harm_5 : decode cX10_harm 5 = .ok (.aload_n 0, 1) := by decide +kernel
theorem dX10_harm_6 : decode cX10_harm 6 = .ok (.iload_n 1, 1) := by decide +kernel
theorem dX10_harm_7 : decode cX10_harm 7 = .ok (.invokevirtual 354, 3) := by decide +kernel
theorem dX10_harm_10 : decode cX10_harm 10 = .ok (.ifCond .eq 35, 3) := by decide +kernel
theorem dX10_harm_13 : decode cX10_harm 13 = .ok (.aload_n 0, 1) := by decide +kernel
theorem dX10_harm_14 : decode cX10_harm 14 = .ok (.iload_n 1, 1) := by decide +kernel
theorem dX10_harm_15 : decode cX10_harm 15 = .ok (.aload_n 0, 1) := by decide +kernel
theorem dX10_harm_16 : decode cX10_harm 16 = .ok (.getfield 308, 3) := by decide +kernel
theorem dX10_harm_19 : decode cX10_harm 19 = .ok (.iconst 1, 1) := by decide +kernel
theorem dX10_harm_20 : decode cX10_harm 20 = .ok (.iload_n 1, 1) := by decide +kernel
theorem dX10_harm_21 : decode cX10_harm 21 = .ok (.ishl, 1) := by decide +kernel
theorem dX10_harm_22 : decode cX10_harm 22 = .ok (.iconst (-1), 1) := by decide +kernel
theorem dX10_harm_23 : decode cX10_harm 23 = .ok (.ixor, 1) := by decide +kernel
theorem dX10_harm_24 : decode cX10_harm 24 = .ok (.iand, 1) := by decide +kernel
theorem dX10_harm_25 : decode cX10_harm 25 = .ok (.invokevirtual 393, 3) := by decide +kernel
theorem dX10_harm_28 : decode cX10_harm 28 = .ok (.aload_n 0, 1) := by decide +kernel
theorem dX10_harm_29 : decode cX10_harm 29 = .ok (.iload_n 1, 1) := by decide +kernel
theorem dX10_harm_30 : decode cX10_harm 30 = .ok (.aload_n 0, 1) := by decide +kernel
theorem dX10_harm_31 : decode cX10_harm 31 = .ok (.getfield 308, 3) := by decide +kernel
theorem dX10_harm_34 : decode cX10_harm 34 = .ok (.iconst 1, 1) := by decide +kernel
theorem dX10_harm_35 : decode cX10_harm 35 = .ok (.iload_n 1, 1) := by decide +kernel
theorem dX10_harm_36 : decode cX10_harm 36 = .ok (.ishl, 1) := by decide +kernel
theorem dX10_harm_37 : decode cX10_harm 37 = .ok (.ior, 1) := by decide +kernel
theorem dX10_harm_38 : decode cX10_harm 38 = .ok (.invokevirtual 393, 3) := by decide +kernel
theorem dX10_harm_41 : decode cX10_harm 41 = .ok (.isub, 1) := by decide +kernel
theorem dX10_harm_42 : decode cX10_harm 42 = .ok (.goto 8, 3) := by decide +kernel
theorem dX10_harm_45 : decode cX10_harm 45 = .ok (.aload_n 0, 1) := by decide +kernel
theorem dX10_harm_46 : decode cX10_harm 46 = .ok (.iconst 1, 1) := by decide +kernel
theorem dX10_harm_47 : decode cX10_harm 47 = .ok (.invokevirtual 293, 3) := by decide +kernel
theorem dX10_harm_50 : decode cX10_harm 50 = .ok (.ireturn, 1) := by decide +kernel
theorem sX10_harm_0 {a0 a1 : Value} (hv : am_rf a0 = true) (h : am_R E d mX10_harm k n 1 [a0, a1] (a0 :: st) S iv Q) : am_R E d mX10_harm k n 0 [a0, a1] st S iv Q := am_aload_n dX10_harm_0 rfl rfl hv h
theorem sX10_harm_1 {a0 a1 : Value} (h : am_R E d mX10_harm k n 2 [a0, a1] (.int 0 :: st) S iv Q) : am_R E d mX10_harm k n 1 [a0, a1] st S iv Q := am_iconst dX10_harm_1 (by decide) h
theorem sX10_harm_2 {ls : List Value} {a : Nat} {x : Int32} (ha : S.1 a = some (.inl 10)) (h : am_R E d mX10_harm k n 5 ls st S (am_w iv a 3 x) Q) : am_R E d mX10_harm k n 2 ls (.int x :: .ref a :: st) S iv Q := am_putI (ci := 10) dX10_harm_2 rfl rfl (by decide) wq_806 uq_10 tyX10_ok nmX10 (Or.inl rfl) rfl ha h
theorem sX10_harm_5 {a0 a1 : Value} (hv : am_rf a0 = true) (h : am_R E d mX10_harm k n 6 [a0, a1] (a0 :: st) S iv Q) : am_R E d mX10_harm k n 5 [a0, a1] st S iv Q := am_aload_n dX10_harm_5 rfl rfl hv h
theorem sX10_harm_6 {a0 : Value} {x : Int32} (h : am_R E d mX10_harm k n 7 [a0, .int x] (.int x :: st) S iv Q) : am_R E d mX10_harm k n 6 [a0, .int x] st S iv Q := am_iload_n dX10_harm_6 rfl rfl h
theorem sX10_harm_7 {ls : List Value} {x1 : Value} {a : Nat} (ha : S.1 a = some (.inl 10)) (hst : (st.map fun v => v.category).sum ≤ 8) (hM : am_M E d mX10_isDrawer 0 0 [.ref a, x1] S iv (am_K3 E (d + 1) mX10_harm k n 7 ls st Q)) : am_R E (d + 1) mX10_harm k n 7 ls (x1 :: .ref a :: st) S iv Q := am_cV (ci := 10) (M' := mX10_isDrawer) (as := [x1]) dX10_harm_7 rfl rfl rfl wq_1026 wq_1027 wq_1028 wq_808 wq_1024 hy_X10_isDrawer (by decide) ha hst (by omega) (by omega) hM
theorem sX10_harm_7_k {ls : List Value} {x1 : Value} {k' n' : Nat} {a : Nat} (ha : S.1 a = some (.inl 10)) (hst : (st.map fun v => v.category).sum ≤ 8) (hM : am_M E d mX10_isDrawer k' n' [.ref a, x1] S iv (am_K3 E (d + 1) mX10_harm k n 7 ls st Q)) : am_R E (d + 1) mX10_harm (k' + k) (n' + n) 7 ls (x1 :: .ref a :: st) S iv Q := am_cV (ci := 10) (M' := mX10_isDrawer) (as := [x1]) dX10_harm_7 rfl rfl rfl wq_1026 wq_1027 wq_1028 wq_808 wq_1024 hy_X10_isDrawer (by decide) ha hst (by omega) (by omega) hM
theorem sX10_harm_10 {ls : List Value} {x : Int32} (kt : x = 0 → am_R E d mX10_harm k n 45 ls st S iv Q) (kf : ¬ x = 0 → am_R E d mX10_harm k n 13 ls st S iv Q) : am_R E d mX10_harm k n 10 ls (.int x :: st) S iv Q := am_if_eq dX10_harm_10 (by decide) kt kf
theorem sX10_harm_13 {a0 a1 : Value} (hv : am_rf a0 = true) (h : am_R E d mX10_harm k n 14 [a0, a1] (a0 :: st) S iv Q) : am_R E d mX10_harm k n 13 [a0, a1] st S iv Q := am_aload_n dX10_harm_13 rfl rfl hv h
theorem sX10_harm_14 {a0 : Value} {x : Int32} (h : am_R E d mX10_harm k n 15 [a0, .int x] (.int x :: st) S iv Q) : am_R E d mX10_harm k n 14 [a0, .int x] st S iv Q := am_iload_n dX10_harm_14 rfl rfl h
theorem sX10_harm_15 {a0 a1 : Value} (hv : am_rf a0 = true) (h : am_R E d mX10_harm k n 16 [a0, a1] (a0 :: st) S iv Q) : am_R E d mX10_harm k n 15 [a0, a1] st S iv Q := am_aload_n dX10_harm_15 rfl rfl hv h
theorem sX10_harm_16 {ls : List Value} {a : Nat} (ha : S.1 a = some (.inl 10)) (h : am_R E d mX10_harm k n 19 ls (.int (iv a 30) :: st) S iv Q) : am_R E d mX10_harm k n 16 ls (.ref a :: st) S iv Q := am_getI (ci := 10) dX10_harm_16 rfl rfl (by decide) wq_973 uq_10 rfl ha h
theorem sX10_harm_19 {a0 a1 : Value} (h : am_R E d mX10_harm k n 20 [a0, a1] (.int 1 :: st) S iv Q) : am_R E d mX10_harm k n 19 [a0, a1] st S iv Q := am_iconst dX10_harm_19 (by decide) h
theorem sX10_harm_20 {a0 : Value} {x : Int32} (h : am_R E d mX10_harm k n 21 [a0, .int x] (.int x :: st) S iv Q) : am_R E d mX10_harm k n 20 [a0, .int x] st S iv Q := am_iload_n dX10_harm_20 rfl rfl h
theorem sX10_harm_21 {ls : List Value} {x y : Int32} (h : am_R E d mX10_harm k n 22 ls (.int (x <<< (y &&& 31)) :: st) S iv Q) : am_R E d mX10_harm k n 21 ls (.int y :: .int x :: st) S iv Q := am_ishl dX10_harm_21 h
theorem sX10_harm_22 {a0 a1 : Value} (h : am_R E d mX10_harm k n 23 [a0, a1] (.int (-1) :: st) S iv Q) : am_R E d mX10_harm k n 22 [a0, a1] st S iv Q := am_iconst dX10_harm_22 (by decide) h
theorem sX10_harm_23 {ls : List Value} {x y : Int32} (h : am_R E d mX10_harm k n 24 ls (.int (x ^^^ y) :: st) S iv Q) : am_R E d mX10_harm k n 23 ls (.int y :: .int x :: st) S iv Q := am_ixor dX10_harm_23 h
theorem sX10_harm_24 {ls : List Value} {x y : Int32} (h : am_R E d mX10_harm k n 25 ls (.int (x &&& y) :: st) S iv Q) : am_R E d mX10_harm k n 24 ls (.int y :: .int x :: st) S iv Q := am_iand dX10_harm_24 h
theorem sX10_harm_25 {ls : List Value} {x1 x2 : Value} {a : Nat} (ha : S.1 a = some (.inl 10)) (hst : (st.map fun v => v.category).sum ≤ 8) (hM : am_M E d mX10_everOut 0 0 [.ref a, x1, x2] S iv (am_K3 E (d + 1) mX10_harm k n 25 ls st Q)) : am_R E (d + 1) mX10_harm k n 25 ls (x2 :: x1 :: .ref a :: st) S iv Q := am_cV (ci := 10) (M' := mX10_everOut) (as := [x1, x2]) dX10_harm_25 rfl rfl rfl wq_1087 wq_1088 wq_1089 wq_808 wq_1085 hy_X10_everOut (by decide) ha hst (by omega) (by omega) hM
theorem sX10_harm_25_k {ls : List Value} {x1 x2 : Value} {k' n' : Nat} {a : Nat} (ha : S.1 a = some (.inl 10)) (hst : (st.map fun v => v.category).sum ≤ 8) (hM : am_M E d mX10_everOut k' n' [.ref a, x1, x2] S iv (am_K3 E (d + 1) mX10_harm k n 25 ls st Q)) : am_R E (d + 1) mX10_harm (k' + k) (n' + n) 25 ls (x2 :: x1 :: .ref a :: st) S iv Q := am_cV (ci := 10) (M' := mX10_everOut) (as := [x1, x2]) dX10_harm_25 rfl rfl rfl wq_1087 wq_1088 wq_1089 wq_808 wq_1085 hy_X10_everOut (by decide) ha hst (by omega) (by omega) hM
theorem sX10_harm_28 {a0 a1 : Value} (hv : am_rf a0 = true) (h : am_R E d mX10_harm k n 29 [a0, a1] (a0 :: st) S iv Q) : am_R E d mX10_harm k n 28 [a0, a1] st S iv Q := am_aload_n dX10_harm_28 rfl rfl hv h
theorem sX10_harm_29 {a0 : Value} {x : Int32} (h : am_R E d mX10_harm k n 30 [a0, .int x] (.int x :: st) S iv Q) : am_R E d mX10_harm k n 29 [a0, .int x] st S iv Q := am_iload_n dX10_harm_29 rfl rfl h
theorem sX10_harm_30 {a0 a1 : Value} (hv : am_rf a0 = true) (h : am_R E d mX10_harm k n 31 [a0, a1] (a0 :: st) S iv Q) : am_R E d mX10_harm k n 30 [a0, a1] st S iv Q := am_aload_n dX10_harm_30 rfl rfl hv h
theorem sX10_harm_31 {ls : List Value} {a : Nat} (ha : S.1 a = some (.inl 10)) (h : am_R E d mX10_harm k n 34 ls (.int (iv a 30) :: st) S iv Q) : am_R E d mX10_harm k n 31 ls (.ref a :: st) S iv Q := am_getI (ci := 10) dX10_harm_31 rfl rfl (by decide) wq_973 uq_10 rfl ha h
theorem sX10_harm_34 {a0 a1 : Value} (h : am_R E d mX10_harm k n 35 [a0, a1] (.int 1 :: st) S iv Q) : am_R E d mX10_harm k n 34 [a0, a1] st S iv Q := am_iconst dX10_harm_34 (by decide) h
theorem sX10_harm_35 {a0 : Value} {x : Int32} (h : am_R E d mX10_harm k n 36 [a0, .int x] (.int x :: st) S iv Q) : am_R E d mX10_harm k n 35 [a0, .int x] st S iv Q := am_iload_n dX10_harm_35 rfl rfl h
theorem sX10_harm_36 {ls : List Value} {x y : Int32} (h : am_R E d mX10_harm k n 37 ls (.int (x <<< (y &&& 31)) :: st) S iv Q) : am_R E d mX10_harm k n 36 ls (.int y :: .int x :: st) S iv Q := am_ishl dX10_harm_36 h
theorem sX10_harm_37 {ls : List Value} {x y : Int32} (h : am_R E d mX10_harm k n 38 ls (.int (x ||| y) :: st) S iv Q) : am_R E d mX10_harm k n 37 ls (.int y :: .int x :: st) S iv Q := am_ior dX10_harm_37 h
theorem sX10_harm_38 {ls : List Value} {x1 x2 : Value} {a : Nat} (ha : S.1 a = some (.inl 10)) (hst : (st.map fun v => v.category).sum ≤ 8) (hM : am_M E d mX10_everOut 0 0 [.ref a, x1, x2] S iv (am_K3 E (d + 1) mX10_harm k n 38 ls st Q)) : am_R E (d + 1) mX10_harm k n 38 ls (x2 :: x1 :: .ref a :: st) S iv Q := am_cV (ci := 10) (M' := mX10_everOut) (as := [x1, x2]) dX10_harm_38 rfl rfl rfl wq_1087 wq_1088 wq_1089 wq_808 wq_1085 hy_X10_everOut (by decide) ha hst (by omega) (by omega) hM
theorem sX10_harm_38_k {ls : List Value} {x1 x2 : Value} {k' n' : Nat} {a : Nat} (ha : S.1 a = some (.inl 10)) (hst : (st.map fun v => v.category).sum ≤ 8) (hM : am_M E d mX10_everOut k' n' [.ref a, x1, x2] S iv (am_K3 E (d + 1) mX10_harm k n 38 ls st Q)) : am_R E (d + 1) mX10_harm (k' + k) (n' + n) 38 ls (x2 :: x1 :: .ref a :: st) S iv Q := am_cV (ci := 10) (M' := mX10_everOut) (as := [x1, x2]) dX10_harm_38 rfl rfl rfl wq_1087 wq_1088 wq_1089 wq_808 wq_1085 hy_X10_everOut (by decide) ha hst (by omega) (by omega) hM
theorem sX10_harm_41 {ls : List Value} {x y : Int32} (h : am_R E d mX10_harm k n 42 ls (.int (x - y) :: st) S iv Q) : am_R E d mX10_harm k n 41 ls (.int y :: .int x :: st) S iv Q := am_isub dX10_harm_41 h
theorem sX10_harm_42 {ls : List Value} (h : am_R E d mX10_harm k n 50 ls st S iv Q) : am_R E d mX10_harm k n 42 ls st S iv Q := am_goto dX10_harm_42 (by decide) h
theorem sX10_harm_45 {a0 a1 : Value} (hv : am_rf a0 = true) (h : am_R E d mX10_harm k n 46 [a0, a1] (a0 :: st) S iv Q) : am_R E d mX10_harm k n 45 [a0, a1] st S iv Q := am_aload_n dX10_harm_45 rfl rfl hv h
theorem sX10_harm_46 {a0 a1 : Value} (h : am_R E d mX10_harm k n 47 [a0, a1] (.int 1 :: st) S iv Q) : am_R E d mX10_harm k n 46 [a0, a1] st S iv Q := am_iconst dX10_harm_46 (by decide) h
theorem sX10_harm_47 {ls : List Value} {x1 : Value} {a : Nat} (ha : S.1 a = some (.inl 10)) (hst : (st.map fun v => v.category).sum ≤ 8) (hM : am_M E d mX10_fail 0 0 [.ref a, x1] S iv (am_K3 E (d + 1) mX10_harm k n 47 ls st Q)) : am_R E (d + 1) mX10_harm k n 47 ls (x1 :: .ref a :: st) S iv Q := am_cV (ci := 10) (M' := mX10_fail) (as := [x1]) dX10_harm_47 rfl rfl rfl wq_955 wq_956 wq_957 wq_808 wq_953 hy_X10_fail (by decide) ha hst (by omega) (by omega) hM
theorem sX10_harm_47_k {ls : List Value} {x1 : Value} {k' n' : Nat} {a : Nat} (ha : S.1 a = some (.inl 10)) (hst : (st.map fun v => v.category).sum ≤ 8) (hM : am_M E d mX10_fail k' n' [.ref a, x1] S iv (am_K3 E (d + 1) mX10_harm k n 47 ls st Q)) : am_R E (d + 1) mX10_harm (k' + k) (n' + n) 47 ls (x1 :: .ref a :: st) S iv Q := am_cV (ci := 10) (M' := mX10_fail) (as := [x1]) dX10_harm_47 rfl rfl rfl wq_955 wq_956 wq_957 wq_808 wq_953 hy_X10_fail (by decide) ha hst (by omega) (by omega) hM
theorem sX10_harm_50 {ls : List Value} {x : Int32} (h : Q (.inl (some (.int x))) S iv) : am_R E d mX10_harm k n 50 ls [.int x] S iv Q := am_ireturn dX10_harm_50 rfl h
theorem dX10_canMarry_0 : decode cX10_canMarry 0 = .ok (.iload_n 1, 1) := by decide +kernel
theorem dX10_canMarry_1 : decode cX10_canMarry 1 = .ok (.iload_n 2, 1) := by decide +kernel
theorem dX10_canMarry_2 : decode cX10_canMarry 2 = .ok (.if_icmp .eq 60, 3) := by decide +kernel
theorem dX10_canMarry_5 : decode cX10_canMarry 5 = .ok (.aload_n 0, 1) := by decide +kernel
theorem dX10_canMarry_6 : decode cX10_canMarry 6 = .ok (.getfield 53, 3) := by decide +kernel
theorem dX10_canMarry_9 : decode cX10_canMarry 9 = .ok (.iload_n 1, 1) := by decide +kernel
theorem dX10_canMarry_10 : decode cX10_canMarry 10 = .ok (.iaload, 1) := by decide +kernel
theorem dX10_canMarry_11 : decode cX10_canMarry 11 = .ok (.ifCond .ne 51, 3) := by decide +kernel
theorem dX10_canMarry_14 : decode cX10_canMarry 14 = .ok (.aload_n 0, 1) := by decide +kernel
theorem dX10_canMarry_15 : decode cX10_canMarry 15 = .ok (.getfield 53, 3) := by decide +kernel
theorem dX10_canMarry_18 : decode cX10_canMarry 18 = .ok (.iload_n 2, 1) := by decide +kernel
theorem dX10_canMarry_19 : decode cX10_canMarry 19 = .ok (.iaload, 1) := by decide +kernel
theorem dX10_canMarry_20 : decode cX10_canMarry 20 = .ok (.ifCond .ne 42, 3) := by decide +kernel
theorem dX10_canMarry_23 : decode cX10_canMarry 23 = .ok (.aload_n 0, 1) := by decide +kernel
theorem dX10_canMarry_24 : decode cX10_canMarry 24 = .ok (.getfield 57, 3) := by decide +kernel
theorem dX10_canMarry_27 : decode cX10_canMarry 27 = .ok (.iload_n 1, 1) := by decide +kernel
theorem dX10_canMarry_28 : decode cX10_canMarry 28 = .ok (.iaload, 1) := by decide +kernel
theorem dX10_canMarry_29 : decode cX10_canMarry 29 = .ok (.aload_n 0, 1) := by decide +kernel
theorem dX10_canMarry_30 : decode cX10_canMarry 30 = .ok (.getfield 57, 3) := by decide +kernel
theorem dX10_canMarry_33 : decode cX10_canMarry 33 = .ok (.iload_n 2, 1) := by decide +kernel
theorem dX10_canMarry_34 : decode cX10_canMarry 34 = .ok (.iaload, 1) := by decide +kernel
theorem dX10_canMarry_35 : decode cX10_canMarry 35 = .ok (.if_icmp .ne 27, 3) := by decide +kernel
theorem dX10_canMarry_38 : decode cX10_canMarry 38 = .ok (.aload_n 0, 1) := by decide +kernel
theorem dX10_canMarry_39 : decode cX10_canMarry 39 = .ok (.getfield 55, 3) := by decide +kernel
theorem dX10_canMarry_42 : decode cX10_canMarry 42 = .ok (.iload_n 1, 1) := by decide +kernel
theorem dX10_canMarry_43 : decode cX10_canMarry 43 = .ok (.iaload, 1) := by decide +kernel
theorem dX10_canMarry_44 : decode cX10_canMarry 44 = .ok (.aload_n 0, 1) := by decide +kernel
theorem dX10_canMarry_45 : decode cX10_canMarry 45 = .ok (.getfield 55, 3) := by decide +kernel
theorem dX10_canMarry_48 : decode cX10_canMarry 48 = .ok (.iload_n 2, 1) := by decide +kernel
theorem dX10_canMarry_49 : decode cX10_canMarry 49 = .ok (.iaload, 1) := by decide +kernel
theorem dX10_canMarry_50 : decode cX10_canMarry 50 = .ok (.isub, 1) := by decide +kernel
theorem dX10_canMarry_51 : decode cX10_canMarry 51 = .ok (.invokestatic 396, 3) := by decide +kernel
theorem dX10_canMarry_54 : decode cX10_canMarry 54 = .ok (.iconst 1, 1) := by decide +kernel
theorem dX10_canMarry_55 : decode cX10_canMarry 55 = .ok (.if_icmp .ne 7, 3) := by decide +kernel
theorem dX10_canMarry_58 : decode cX10_canMarry 58 = .ok (.iconst 1, 1) := by decide +kernel
theorem dX10_canMarry_59 : decode cX10_canMarry 59 = .ok (.goto 4, 3) := by decide +kernel
theorem dX10_canMarry_62 : decode cX10_canMarry 62 = .ok (.iconst 0, 1) := by decide +kernel
theorem dX10_canMarry_63 : decode cX10_canMarry 63 = .ok (.istore_n 3, 1) := by decide +kernel
theorem dX10_canMarry_64 : decode cX10_canMarry 64 = .ok (.iload_n 3, 1) := by decide +kernel
theorem dX10_canMarry_65 : decode cX10_canMarry 65 = .ok (.ifCond .eq 57, 3) := by decide +kernel
theorem dX10_canMarry_68 : decode cX10_canMarry 68 = .ok (.aload_n 0, 1) := by decide +kernel
theorem dX10_canMarry_69 : decode cX10_canMarry 69 = .ok (.getfield 61, 3) := by decide +kernel
theorem dX10_canMarry_72 : decode cX10_canMarry 72 = .ok (.iload_n 1, 1) := by decide +kernel
theorem dX10_canMarry_73 : decode cX10_canMarry 73 = .ok (.iaload, 1) := by decide +kernel
theorem dX10_canMarry_74 : decode cX10_canMarry 74 = .ok (.ifCond .ne 48, 3) := by decide +kernel
theorem dX10_canMarry_77 : decode cX10_canMarry 77 = .ok (.aload_n 0, 1) := by decide +kernel
theorem dX10_canMarry_78 : decode cX10_canMarry 78 = .ok (.getfield 61, 3) := by decide +kernel
theorem dX10_canMarry_81 : decode cX10_canMarry 81 = .ok (.iload_n 2, 1) := by decide +kernel
theorem dX10_canMarry_82 : decode cX10_canMarry 82 = .ok (.iaload, 1) := by decide +kernel
theorem dX10_canMarry_83 : decode cX10_canMarry 83 = .ok (.ifCond .ne 39, 3) := by decide +kernel
theorem dX10_canMarry_86 : decode cX10_canMarry 86 = .ok (.aload_n 0, 1) := by decide +kernel
theorem dX10_canMarry_87 : decode cX10_canMarry 87 = .ok (.getfield 306, 3) := by decide +kernel
theorem dX10_canMarry_90 : decode cX10_canMarry 90 = .ok (.aload_n 0, 1) := by decide +kernel
theorem dX10_canMarry_91 : decode cX10_canMarry 91 = .ok (.getfield 308, 3) := by decide +kernel
theorem dX10_canMarry_94 : decode cX10_canMarry 94 = .ok (.ior, 1) := by decide +kernel
theorem dX10_canMarry_95 : decode cX10_canMarry 95 = .ok (.iload_n 1, 1) := by decide +kernel
theorem dX10_canMarry_96 : decode cX10_canMarry 96 = .ok (.ishr, 1) := by decide +kernel
theorem dX10_canMarry_97 : decode cX10_canMarry 97 = .ok (.iconst 1, 1) := by decide +kernel
theorem dX10_canMarry_98 : decode cX10_canMarry 98 = .ok (.iand, 1) := by decide +kernel
theorem dX10_canMarry_99 : decode cX10_canMarry 99 = .ok (.ifCond .ne 23, 3) := by decide +kernel
theorem dX10_canMarry_102 : decode cX10_canMarry 102 = .ok (.aload_n 0, 1) := by decide +kernel
theorem dX10_canMarry_103 : decode cX10_canMarry 103 = .ok (.getfield 306, 3) := by decide +kernel
theorem dX10_canMarry_106 : decode cX10_canMarry 106 = .ok (.aload_n 0, 1) := by decide +kernel
theorem dX10_canMarry_107 : decode cX10_canMarry 107 = .ok (.getfield 308, 3) := by decide +kernel
theorem dX10_canMarry_110 : decode cX10_canMarry 110 = .ok (.ior, 1) := by decide +kernel
theorem dX10_canMarry_111 : decode cX10_canMarry 111 = .ok (.iload_n 2, 1) := by decide +kernel
theorem dX10_canMarry_112 : decode cX10_canMarry 112 = .ok (.ishr, 1) := by decide +kernel
theorem dX10_canMarry_113 : decode cX10_canMarry 113 = .ok (.iconst 1, 1) := by decide +kernel
theorem dX10_canMarry_114 : decode cX10_canMarry 114 = .ok (.iand, 1) := by decide +kernel
theorem dX10_canMarry_115 : decode cX10_canMarry 115 = .ok (.ifCond .ne 7, 3) := by decide +kernel
theorem dX10_canMarry_118 : decode cX10_canMarry 118 = .ok (.iconst 1, 1) := by decide +kernel
theorem dX10_canMarry_119 : decode cX10_canMarry 119 = .ok (.goto 4, 3) := by decide +kernel
theorem dX10_canMarry_122 : decode cX10_canMarry 122 = .ok (.iconst 0, 1) := by decide +kernel
theorem dX10_canMarry_123 : decode cX10_canMarry 123 = .ok (.ireturn, 1) := by decide +kernel
theorem sX10_canMarry_0 {a0 a2 a3 : Value} {x : Int32} (h : am_R E d mX10_canMarry k n 1 [a0, .int x, a2, a3] (.int x :: st) S iv Q) : am_R E d mX10_canMarry k n 0 [a0, .int x, a2, a3] st S iv Q := am_iload_n dX10_canMarry_0 rfl rfl h
theorem sX10_canMarry_1 {a0 a1 a3 : Value} {x : Int32} (h : am_R E d mX10_canMarry k n 2 [a0, a1, .int x, a3] (.int x :: st) S iv Q) : am_R E d mX10_canMarry k n 1 [a0, a1, .int x, a3] st S iv Q := am_iload_n dX10_canMarry_1 rfl rfl h
theorem sX10_canMarry_2 {ls : List Value} {x y : Int32} (kt : x = y → am_R E d mX10_canMarry k n 62 ls st S iv Q) (kf : ¬ x = y → am_R E d mX10_canMarry k n 5 ls st S iv Q) : am_R E d mX10_canMarry k n 2 ls (.int y :: .int x :: st) S iv Q := am_icmp_eq dX10_canMarry_2 (by decide) kt kf
theorem sX10_canMarry_5 {a0 a1 a2 a3 : Value} (hv : am_rf a0 = true) (h : am_R E d mX10_canMarry k n 6 [a0, a1, a2, a3] (a0 :: st) S iv Q) : am_R E d mX10_canMarry k n 5 [a0, a1, a2, a3] st S iv Q := am_aload_n dX10_canMarry_5 rfl rfl hv h
theorem sX10_canMarry_6 {ls : List Value} {a b : Nat} (ha : S.1 a = some (.inl 10)) (hb : S.2.1 a 5 = some b) (h : am_R E d mX10_canMarry k n 9 ls (.ref b :: st) S iv Q) : am_R E d mX10_canMarry k n 6 ls (.ref a :: st) S iv Q := am_getR (ci := 10) dX10_canMarry_6 rfl rfl (by decide) wq_773 uq_10 rfl ha hb h
theorem sX10_canMarry_9 {a0 a2 a3 : Value} {x : Int32} (h : am_R E d mX10_canMarry k n 10 [a0, .int x, a2, a3] (.int x :: st) S iv Q) : am_R E d mX10_canMarry k n 9 [a0, .int x, a2, a3] st S iv Q := am_iload_n dX10_canMarry_9 rfl rfl h
theorem sX10_canMarry_10 {ls : List Value} {a m : Nat} {i : Int32} (ha : S.1 a = some (.inr (.int, m))) (hi : vp_in i m) (h : am_R E d mX10_canMarry k n 11 ls (.int (iv a i.toNatClampNeg) :: st) S iv Q) : am_R E d mX10_canMarry k n 10 ls (.int i :: .ref a :: st) S iv Q := am_iaload dX10_canMarry_10 ha hi h
theorem sX10_canMarry_11 {ls : List Value} {x : Int32} (kt : ¬ x = 0 → am_R E d mX10_canMarry k n 62 ls st S iv Q) (kf : x = 0 → am_R E d mX10_canMarry k n 14 ls st S iv Q) : am_R E d mX10_canMarry k n 11 ls (.int x :: st) S iv Q := am_if_ne dX10_canMarry_11 (by decide) kt kf
theorem sX10_canMarry_14 {a0 a1 a2 a3 : Value} (hv : am_rf a0 = true) (h : am_R E d mX10_canMarry k n 15 [a0, a1, a2, a3] (a0 :: st) S iv Q) : am_R E d mX10_canMarry k n 14 [a0, a1, a2, a3] st S iv Q := am_aload_n dX10_canMarry_14 rfl rfl hv h
theorem sX10_canMarry_15 {ls : List Value} {a b : Nat} (ha : S.1 a = some (.inl 10)) (hb : S.2.1 a 5 = some b) (h : am_R E d mX10_canMarry k n 18 ls (.ref b :: st) S iv Q) : am_R E d mX10_canMarry k n 15 ls (.ref a :: st) S iv Q := am_getR (ci := 10) dX10_canMarry_15 rfl rfl (by decide) wq_773 uq_10 rfl ha hb h
theorem sX10_canMarry_18 {a0 a1 a3 : Value} {x : Int32} (h : am_R E d mX10_canMarry k n 19 [a0, a1, .int x, a3] (.int x :: st) S iv Q) : am_R E d mX10_canMarry k n 18 [a0, a1, .int x, a3] st S iv Q := am_iload_n dX10_canMarry_18 rfl rfl h
theorem sX10_canMarry_19 {ls : List Value} {a m : Nat} {i : Int32} (ha : S.1 a = some (.inr (.int, m))) (hi : vp_in i m) (h : am_R E d mX10_canMarry k n 20 ls (.int (iv a i.toNatClampNeg) :: st) S iv Q) : am_R E d mX10_canMarry k n 19 ls (.int i :: .ref a :: st) S iv Q := am_iaload dX10_canMarry_19 ha hi h
theorem sX10_canMarry_20 {ls : List Value} {x : Int32} (kt : ¬ x = 0 → am_R E d mX10_canMarry k n 62 ls st S iv Q) (kf : x = 0 → am_R E d mX10_canMarry k n 23 ls st S iv Q) : am_R E d mX10_canMarry k n 20 ls (.int x :: st) S iv Q := am_if_ne dX10_canMarry_20 (by decide) kt kf
theorem sX10_canMarry_23 {a0 a1 a2 a3 : Value} (hv : am_rf a0 = true) (h : am_R E d mX10_canMarry k n 24 [a0, a1, a2, a3] (a0 :: st) S iv Q) : am_R E d mX10_canMarry k n 23 [a0, a1, a2, a3] st S iv Q := am_aload_n dX10_canMarry_23 rfl rfl hv h
theorem sX10_canMarry_24 {ls : List Value} {a b : Nat} (ha : S.1 a = some (.inl 10)) (hb : S.2.1 a 7 = some b) (h : am_R E d mX10_canMarry k n 27 ls (.ref b :: st) S iv Q) : am_R E d mX10_canMarry k n 24 ls (.ref a :: st) S iv Q := am_getR (ci := 10) dX10_canMarry_24 rfl rfl (by decide) wq_775 uq_10 rfl ha hb h
theorem sX10_canMarry_27 {a0 a2 a3 : Value} {x : Int32} (h : am_R E d mX10_canMarry k n 28 [a0, .int x, a2, a3] (.int x :: st) S iv Q) : am_R E d mX10_canMarry k n 27 [a0, .int x, a2, a3] st S iv Q := am_iload_n dX10_canMarry_27 rfl rfl h
theorem sX10_canMarry_28 {ls : List Value} {a m : Nat} {i : Int32} (ha : S.1 a = some (.inr (.int, m))) (hi : vp_in i m) (h : am_R E d mX10_canMarry k n 29 ls (.int (iv a i.toNatClampNeg) :: st) S iv Q) : am_R E d mX10_canMarry k n 28 ls (.int i :: .ref a :: st) S iv Q := am_iaload dX10_canMarry_28 ha hi h
theorem sX10_canMarry_29 {a0 a1 a2 a3 : Value} (hv : am_rf a0 = true) (h : am_R E d mX10_canMarry k n 30 [a0, a1, a2, a3] (a0 :: st) S iv Q) : am_R E d mX10_canMarry k n 29 [a0, a1, a2, a3] st S iv Q := am_aload_n dX10_canMarry_29 rfl rfl hv h
theorem sX10_canMarry_30 {ls : List Value} {a b : Nat} (ha : S.1 a = some (.inl 10)) (hb : S.2.1 a 7 = some b) (h : am_R E d mX10_canMarry k n 33 ls (.ref b :: st) S iv Q) : am_R E d mX10_canMarry k n 30 ls (.ref a :: st) S iv Q := am_getR (ci := 10) dX10_canMarry_30 rfl rfl (by decide) wq_775 uq_10 rfl ha hb h
theorem sX10_canMarry_33 {a0 a1 a3 : Value} {x : Int32} (h : am_R E d mX10_canMarry k n 34 [a0, a1, .int x, a3] (.int x :: st) S iv Q) : am_R E d mX10_canMarry k n 33 [a0, a1, .int x, a3] st S iv Q := am_iload_n dX10_canMarry_33 rfl rfl h
theorem sX10_canMarry_34 {ls : List Value} {a m : Nat} {i : Int32} (ha : S.1 a = some (.inr (.int, m))) (hi : vp_in i m) (h : am_R E d mX10_canMarry k n 35 ls (.int (iv a i.toNatClampNeg) :: st) S iv Q) : am_R E d mX10_canMarry k n 34 ls (.int i :: .ref a :: st) S iv Q := am_iaload dX10_canMarry_34 ha hi h
theorem sX10_canMarry_35 {ls : List Value} {x y : Int32} (kt : ¬ x = y → am_R E d mX10_canMarry k n 62 ls st S iv Q) (kf : x = y → am_R E d mX10_canMarry k n 38 ls st S iv Q) : am_R E d mX10_canMarry k n 35 ls (.int y :: .int x :: st) S iv Q := am_icmp_ne dX10_canMarry_35 (by decide) kt kf
theorem sX10_canMarry_38 {a0 a1 a2 a3 : Value} (hv : am_rf a0 = true) (h : am_R E d mX10_canMarry k n 39 [a0, a1, a2, a3] (a0 :: st) S iv Q) : am_R E d mX10_canMarry k n 38 [a0, a1, a2, a3] st S iv Q := am_aload_n dX10_canMarry_38 rfl rfl hv h
theorem sX10_canMarry_39 {ls : List Value} {a b : Nat} (ha : S.1 a = some (.inl 10)) (hb : S.2.1 a 6 = some b) (h : am_R E d mX10_canMarry k n 42 ls (.ref b :: st) S iv Q) : am_R E d mX10_canMarry k n 39 ls (.ref a :: st) S iv Q := am_getR (ci := 10) dX10_canMarry_39 rfl rfl (by decide) wq_774 uq_10 rfl ha hb h
theorem sX10_canMarry_42 {a0 a2 a3 : Value} {x : Int32} (h : am_R E d mX10_canMarry k n 43 [a0, .int x, a2, a3] (.int x :: st) S iv Q) : am_R E d mX10_canMarry k n 42 [a0, .int x, a2, a3] st S iv Q := am_iload_n dX10_canMarry_42 rfl rfl h
theorem sX10_canMarry_43 {ls : List Value} {a m : Nat} {i : Int32} (ha : S.1 a = some (.inr (.int, m))) (hi : vp_in i m) (h : am_R E d mX10_canMarry k n 44 ls (.int (iv a i.toNatClampNeg) :: st) S iv Q) : am_R E d mX10_canMarry k n 43 ls (.int i :: .ref a :: st) S iv Q := am_iaload dX10_canMarry_43 ha hi h
theorem sX10_canMarry_44 {a0 a1 a2 a3 : Value} (hv : am_rf a0 = true) (h : am_R E d mX10_canMarry k n 45 [a0, a1, a2, a3] (a0 :: st) S iv Q) : am_R E d mX10_canMarry k n 44 [a0, a1, a2, a3] st S iv Q := am_aload_n dX10_canMarry_44 rfl rfl hv h
theorem sX10_canMarry_45 {ls : List Value} {a b : Nat} (ha : S.1 a = some (.inl 10)) (hb : S.2.1 a 6 = some b) (h : am_R E d mX10_canMarry k n 48 ls (.ref b :: st) S iv Q) : am_R E d mX10_canMarry k n 45 ls (.ref a :: st) S iv Q := am_getR (ci := 10) dX10_canMarry_45 rfl rfl (by decide) wq_774 uq_10 rfl ha hb h
theorem sX10_canMarry_48 {a0 a1 a3 : Value} {x : Int32} (h : am_R E d mX10_canMarry k n 49 [a0, a1, .int x, a3] (.int x :: st) S iv Q) : am_R E d mX10_canMarry k n 48 [a0, a1, .int x, a3] st S iv Q := am_iload_n dX10_canMarry_48 rfl rfl h
theorem sX10_canMarry_49 {ls : List Value} {a m : Nat} {i : Int32} (ha : S.1 a = some (.inr (.int, m))) (hi : vp_in i m) (h : am_R E d mX10_canMarry k n 50 ls (.int (iv a i.toNatClampNeg) :: st) S iv Q) : am_R E d mX10_canMarry k n 49 ls (.int i :: .ref a :: st) S iv Q := am_iaload dX10_canMarry_49 ha hi h
theorem sX10_canMarry_50 {ls : List Value} {x y : Int32} (h : am_R E d mX10_canMarry k n 51 ls (.int (x - y) :: st) S iv Q) : am_R E d mX10_canMarry k n 50 ls (.int y :: .int x :: st) S iv Q := am_isub dX10_canMarry_50 h
theorem sX10_canMarry_51 {ls : List Value} {x1 : Value} (hst : (st.map fun v => v.category).sum ≤ 8) (hM : am_M E d mJ9_abs_0f7a4 0 0 [x1] S iv (am_K3 E (d + 1) mX10_canMarry k n 51 ls st Q)) : am_R E (d + 1) mX10_canMarry k n 51 ls (x1 :: st) S iv Q := am_cS (M' := mJ9_abs_0f7a4) (as := [x1]) dX10_canMarry_51 rfl wq_1090 wq_231 wq_50 wq_228 hy_J9_abs_0f7a4 (by decide) hst (by omega) (by omega) hM
theorem sX10_canMarry_51_k {ls : List Value} {x1 : Value} {k' n' : Nat} (hst : (st.map fun v => v.category).sum ≤ 8) (hM : am_M E d mJ9_abs_0f7a4 k' n' [x1] S iv (am_K3 E (d + 1) mX10_canMarry k n 51 ls st Q)) : am_R E (d + 1) mX10_canMarry (k' + k) (n' + n) 51 ls (x1 :: st) S iv Q := am_cS (M' := mJ9_abs_0f7a4) (as := [x1]) dX10_canMarry_51 rfl wq_1090 wq_231 wq_50 wq_228 hy_J9_abs_0f7a4 (by decide) hst (by omega) (by omega) hM
theorem sX10_canMarry_54 {a0 a1 a2 a3 : Value} (h : am_R E d mX10_canMarry k n 55 [a0, a1, a2, a3] (.int 1 :: st) S iv Q) : am_R E d mX10_canMarry k n 54 [a0, a1, a2, a3] st S iv Q := am_iconst dX10_canMarry_54 (by decide) h
theorem sX10_canMarry_55 {ls : List Value} {x y : Int32} (kt : ¬ x = y → am_R E d mX10_canMarry k n 62 ls st S iv Q) (kf : x = y → am_R E d mX10_canMarry k n 58 ls st S iv Q) : am_R E d mX10_canMarry k n 55 ls (.int y :: .int x :: st) S iv Q := am_icmp_ne dX10_canMarry_55 (by decide) kt kf
theorem sX10_canMarry_58 {a0 a1 a2 a3 : Value} (h : am_R E d mX10_canMarry k n 59 [a0, a1, a2, a3] (.int 1 :: st) S iv Q) : am_R E d mX10_canMarry k n 58 [a0, a1, a2, a3] st S iv Q := am_iconst dX10_canMarry_58 (by decide) h
theorem sX10_canMarry_59 {ls : List Value} (h : am_R E d mX10_canMarry k n 63 ls st S iv Q) : am_R E d mX10_canMarry k n 59 ls st S iv Q := am_goto dX10_canMarry_59 (by decide) h
theorem sX10_canMarry_62 {a0 a1 a2 a3 : Value} (h : am_R E d mX10_canMarry k n 63 [a0, a1, a2, a3] (.int 0 :: st) S iv Q) : am_R E d mX10_canMarry k n 62 [a0, a1, a2, a3] st S iv Q := am_iconst dX10_canMarry_62 (by decide) h
theorem sX10_canMarry_63 {a0 a1 a2 a3 : Value} {x : Int32} (h : am_R E d mX10_canMarry k n 64 [a0, a1, a2, .int x] st S iv Q) : am_R E d mX10_canMarry k n 63 [a0, a1, a2, a3] (.int x :: st) S iv Q := am_istore_n dX10_canMarry_63 rfl (by decide) h
theorem sX10_canMarry_64 {a0 a1 a2 : Value} {x : Int32} (h : am_R E d mX10_canMarry k n 65 [a0, a1, a2, .int x] (.int x :: st) S iv Q) : am_R E d mX10_canMarry k n 64 [a0, a1, a2, .int x] st S iv Q := am_iload_n dX10_canMarry_64 rfl rfl h
theorem sX10_canMarry_65 {ls : List Value} {x : Int32} (kt : x = 0 → am_R E d mX10_canMarry k n 122 ls st S iv Q) (kf : ¬ x = 0 → am_R E d mX10_canMarry k n 68 ls st S iv Q) : am_R E d mX10_canMarry k n 65 ls (.int x :: st) S iv Q := am_if_eq dX10_canMarry_65 (by decide) kt kf
theorem sX10_canMarry_68 {a0 a1 a2 a3 : Value} (hv : am_rf a0 = true) (h : am_R E d mX10_canMarry k n 69 [a0, a1, a2, a3] (a0 :: st) S iv Q) : am_R E d mX10_canMarry k n 68 [a0, a1, a2, a3] st S iv Q := am_aload_n dX10_canMarry_68 rfl rfl hv h
theorem sX10_canMarry_69 {ls : List Value} {a b : Nat} (ha : S.1 a = some (.inl 10)) (hb : S.2.1 a 9 = some b) (h : am_R E d mX10_canMarry k n 72 ls (.ref b :: st) S iv Q) : am_R E d mX10_canMarry k n 69 ls (.ref a :: st) S iv Q := am_getR (ci := 10) dX10_canMarry_69 rfl rfl (by decide) wq_777 uq_10 rfl ha hb h
theorem sX10_canMarry_72 {a0 a2 a3 : Value} {x : Int32} (h : am_R E d mX10_canMarry k n 73 [a0, .int x, a2, a3] (.int x :: st) S iv Q) : am_R E d mX10_canMarry k n 72 [a0, .int x, a2, a3] st S iv Q := am_iload_n dX10_canMarry_72 rfl rfl h
theorem sX10_canMarry_73 {ls : List Value} {a m : Nat} {i : Int32} (ha : S.1 a = some (.inr (.int, m))) (hi : vp_in i m) (h : am_R E d mX10_canMarry k n 74 ls (.int (iv a i.toNatClampNeg) :: st) S iv Q) : am_R E d mX10_canMarry k n 73 ls (.int i :: .ref a :: st) S iv Q := am_iaload dX10_canMarry_73 ha hi h
theorem sX10_canMarry_74 {ls : List Value} {x : Int32} (kt : ¬ x = 0 → am_R E d mX10_canMarry k n 122 ls st S iv Q) (kf : x = 0 → am_R E d mX10_canMarry k n 77 ls st S iv Q) : am_R E d mX10_canMarry k n 74 ls (.int x :: st) S iv Q := am_if_ne dX10_canMarry_74 (by decide) kt kf
theorem sX10_canMarry_77 {a0 a1 a2 a3 : Value} (hv : am_rf a0 = true) (h : am_R E d mX10_canMarry k n 78 [a0, a1, a2, a3] (a0 :: st) S iv Q) : am_R E d mX10_canMarry k n 77 [a0, a1, a2, a3] st S iv Q := am_aload_n dX10_canMarry_77 rfl rfl hv h
theorem sX10_canMarry_78 {ls : List Value} {a b : Nat} (ha : S.1 a = some (.inl 10)) (hb : S.2.1 a 9 = some b) (h : am_R E d mX10_canMarry k n 81 ls (.ref b :: st) S iv Q) : am_R E d mX10_canMarry k n 78 ls (.ref a :: st) S iv Q := am_getR (ci := 10) dX10_canMarry_78 rfl rfl (by decide) wq_777 uq_10 rfl ha hb h
theorem sX10_canMarry_81 {a0 a1 a3 : Value} {x : Int32} (h : am_R E d mX10_canMarry k n 82 [a0, a1, .int x, a3] (.int x :: st) S iv Q) : am_R E d mX10_canMarry k n 81 [a0, a1, .int x, a3] st S iv Q := am_iload_n dX10_canMarry_81 rfl rfl h
theorem sX10_canMarry_82 {ls : List Value} {a m : Nat} {i : Int32} (ha : S.1 a = some (.inr (.int, m))) (hi : vp_in i m) (h : am_R E d mX10_canMarry k n 83 ls (.int (iv a i.toNatClampNeg) :: st) S iv Q) : am_R E d mX10_canMarry k n 82 ls (.int i :: .ref a :: st) S iv Q := am_iaload dX10_canMarry_82 ha hi h
theorem sX10_canMarry_83 {ls : List Value} {x : Int32} (kt : ¬ x = 0 → am_R E d mX10_canMarry k n 122 ls st S iv Q) (kf : x = 0 → am_R E d mX10_canMarry k n 86 ls st S iv Q) : am_R E d mX10_canMarry k n 83 ls (.int x :: st) S iv Q := am_if_ne dX10_canMarry_83 (by decide) kt kf
theorem sX10_canMarry_86 {a0 a1 a2 a3 : Value} (hv : am_rf a0 = true) (h : am_R E d mX10_canMarry k n 87 [a0, a1, a2, a3] (a0 :: st) S iv Q) : am_R E d mX10_canMarry k n 86 [a0, a1, a2, a3] st S iv Q := am_aload_n dX10_canMarry_86 rfl rfl hv h
theorem sX10_canMarry_87 {ls : List Value} {a : Nat} (ha : S.1 a = some (.inl 10)) (h : am_R E d mX10_canMarry k n 90 ls (.int (iv a 29) :: st) S iv Q) : am_R E d mX10_canMarry k n 87 ls (.ref a :: st) S iv Q := am_getI (ci := 10) dX10_canMarry_87 rfl rfl (by decide) wq_972 uq_10 rfl ha h
theorem sX10_canMarry_90 {a0 a1 a2 a3 : Value} (hv : am_rf a0 = true) (h : am_R E d mX10_canMarry k n 91 [a0, a1, a2, a3] (a0 :: st) S iv Q) : am_R E d mX10_canMarry k n 90 [a0, a1, a2, a3] st S iv Q := am_aload_n dX10_canMarry_90 rfl rfl hv h
theorem sX10_canMarry_91 {ls : List Value} {a : Nat} (ha : S.1 a = some (.inl 10)) (h : am_R E d mX10_canMarry k n 94 ls (.int (iv a 30) :: st) S iv Q) : am_R E d mX10_canMarry k n 91 ls (.ref a :: st) S iv Q := am_getI (ci := 10) dX10_canMarry_91 rfl rfl (by decide) wq_973 uq_10 rfl ha h
theorem sX10_canMarry_94 {ls : List Value} {x y : Int32} (h : am_R E d mX10_canMarry k n 95 ls (.int (x ||| y) :: st) S iv Q) : am_R E d mX10_canMarry k n 94 ls (.int y :: .int x :: st) S iv Q := am_ior dX10_canMarry_94 h
theorem sX10_canMarry_95 {a0 a2 a3 : Value} {x : Int32} (h : am_R E d mX10_canMarry k n 96 [a0, .int x, a2, a3] (.int x :: st) S iv Q) : am_R E d mX10_canMarry k n 95 [a0, .int x, a2, a3] st S iv Q := am_iload_n dX10_canMarry_95 rfl rfl h
theorem sX10_canMarry_96 {ls : List Value} {x y : Int32} (h : am_R E d mX10_canMarry k n 97 ls (.int (x >>> (y &&& 31)) :: st) S iv Q) : am_R E d mX10_canMarry k n 96 ls (.int y :: .int x :: st) S iv Q := am_ishr dX10_canMarry_96 h
theorem sX10_canMarry_97 {a0 a1 a2 a3 : Value} (h : am_R E d mX10_canMarry k n 98 [a0, a1, a2, a3] (.int 1 :: st) S iv Q) : am_R E d mX10_canMarry k n 97 [a0, a1, a2, a3] st S iv Q := am_iconst dX10_canMarry_97 (by decide) h
theorem sX10_canMarry_98 {ls : List Value} {x y : Int32} (h : am_R E d mX10_canMarry k n 99 ls (.int (x &&& y) :: st) S iv Q) : am_R E d mX10_canMarry k n 98 ls (.int y :: .int x :: st) S iv Q := am_iand dX10_canMarry_98 h
theorem sX10_canMarry_99 {ls : List Value} {x : Int32} (kt : ¬ x = 0 → am_R E d mX10_canMarry k n 122 ls st S iv Q) (kf : x = 0 → am_R E d mX10_canMarry k n 102 ls st S iv Q) : am_R E d mX10_canMarry k n 99 ls (.int x :: st) S iv Q := am_if_ne dX10_canMarry_99 (by decide) kt kf
theorem sX10_canMarry_102 {a0 a1 a2 a3 : Value} (hv : am_rf a0 = true) (h : am_R E d mX10_canMarry k n 103 [a0, a1, a2, a3] (a0 :: st) S iv Q) : am_R E d mX10_canMarry k n 102 [a0, a1, a2, a3] st S iv Q := am_aload_n dX10_canMarry_102 rfl rfl hv h
theorem sX10_canMarry_103 {ls : List Value} {a : Nat} (ha : S.1 a = some (.inl 10)) (h : am_R E d mX10_canMarry k n 106 ls (.int (iv a 29) :: st) S iv Q) : am_R E d mX10_canMarry k n 103 ls (.ref a :: st) S iv Q := am_getI (ci := 10) dX10_canMarry_103 rfl rfl (by decide) wq_972 uq_10 rfl ha h
theorem sX10_canMarry_106 {a0 a1 a2 a3 : Value} (hv : am_rf a0 = true) (h : am_R E d mX10_canMarry k n 107 [a0, a1, a2, a3] (a0 :: st) S iv Q) : am_R E d mX10_canMarry k n 106 [a0, a1, a2, a3] st S iv Q := am_aload_n dX10_canMarry_106 rfl rfl hv h
theorem sX10_canMarry_107 {ls : List Value} {a : Nat} (ha : S.1 a = some (.inl 10)) (h : am_R E d mX10_canMarry k n 110 ls (.int (iv a 30) :: st) S iv Q) : am_R E d mX10_canMarry k n 107 ls (.ref a :: st) S iv Q := am_getI (ci := 10) dX10_canMarry_107 rfl rfl (by decide) wq_973 uq_10 rfl ha h
theorem sX10_canMarry_110 {ls : List Value} {x y : Int32} (h : am_R E d mX10_canMarry k n 111 ls (.int (x ||| y) :: st) S iv Q) : am_R E d mX10_canMarry k n 110 ls (.int y :: .int x :: st) S iv Q := am_ior dX10_canMarry_110 h
theorem sX10_canMarry_111 {a0 a1 a3 : Value} {x : Int32} (h : am_R E d mX10_canMarry k n 112 [a0, a1, .int x, a3] (.int x :: st) S iv Q) : am_R E d mX10_canMarry k n 111 [a0, a1, .int x, a3] st S iv Q := am_iload_n dX10_canMarry_111 rfl rfl h
theorem sX10_canMarry_112 {ls : List Value} {x y : Int32} (h : am_R E d mX10_canMarry k n 113 ls (.int (x >>> (y &&& 31)) :: st) S iv Q) : am_R E d mX10_canMarry k n 112 ls (.int y :: .int x :: st) S iv Q := am_ishr dX10_canMarry_112 h
theorem sX10_canMarry_113 {a0 a1 a2 a3 : Value} (h : am_R E d mX10_canMarry k n 114 [a0, a1, a2, a3] (.int 1 :: st) S iv Q) : am_R E d mX10_canMarry k n 113 [a0, a1, a2, a3] st S iv Q := am_iconst dX10_canMarry_113 (by decide) h
theorem sX10_canMarry_114 {ls : List Value} {x y : Int32} (h : am_R E d mX10_canMarry k n 115 ls (.int (x &&& y) :: st) S iv Q) : am_R E d mX10_canMarry k n 114 ls (.int y :: .int x :: st) S iv Q := am_iand dX10_canMarry_114 h
theorem sX10_canMarry_115 {ls : List Value} {x : Int32} (kt : ¬ x = 0 → am_R E d mX10_canMarry k n 122 ls st S iv Q) (kf : x = 0 → am_R E d mX10_canMarry k n 118 ls st S iv Q) : am_R E d mX10_canMarry k n 115 ls (.int x :: st) S iv Q := am_if_ne dX10_canMarry_115 (by decide) kt kf
theorem sX10_canMarry_118 {a0 a1 a2 a3 : Value} (h : am_R E d mX10_canMarry k n 119 [a0, a1, a2, a3] (.int 1 :: st) S iv Q) : am_R E d mX10_canMarry k n 118 [a0, a1, a2, a3] st S iv Q := am_iconst dX10_canMarry_118 (by decide) h
theorem sX10_canMarry_119 {ls : List Value} (h : am_R E d mX10_canMarry k n 123 ls st S iv Q) : am_R E d mX10_canMarry k n 119 ls st S iv Q := am_goto dX10_canMarry_119 (by decide) h
theorem sX10_canMarry_122 {a0 a1 a2 a3 : Value} (h : am_R E d mX10_canMarry k n 123 [a0, a1, a2, a3] (.int 0 :: st) S iv Q) : am_R E d mX10_canMarry k n 122 [a0, a1, a2, a3] st S iv Q := am_iconst dX10_canMarry_122 (by decide) h
theorem sX10_canMarry_123 {ls : List Value} {x : Int32} (hn : narrow .boolean (.int x) = .int x) (h : Q (.inl (some (.int x))) S iv) : am_R E d mX10_canMarry k n 123 ls [.int x] S iv Q := am_zreturn dX10_canMarry_123 rfl hn h
end R13_Xm2
