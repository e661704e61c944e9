section R13_J
variable {E : am_E} {d k n : Nat} {st : List Value} {S : am_S} {iv : am_I} {Q : am_O → am_S → am_I → Prop}
theorem dJ6_bitCount_0f7a4_0 : decode cJ6_bitCount_0f7a4 0 = .ok (.iload_n 0, 1) := by decide +kernel
theorem dJ6_bitCount_0f7a4_1 : decode cJ6_bitCount_0f7a4 1 = .ok (.iload_n 0, 1) := by decide +kernel
theorem dJ6_bitCount_0f7a4_2 : decode cJ6_bitCount_0f7a4 2 = .ok (.iconst 1, 1) := by decide +kernel
theorem dJ6_bitCount_0f7a4_3 : decode cJ6_bitCount_0f7a4 3 = .ok (.iushr, 1) := by decide +kernel
theorem dJ6_bitCount_0f7a4_4 : decode cJ6_bitCount_0f7a4 4 = .ok (.ldc_w 265, 3) := by decide +kernel
theorem dJ6_bitCount_0f7a4_7 : decode cJ6_bitCount_0f7a4 7 = .ok (.iand, 1) := by decide +kernel
theorem dJ6_bitCount_0f7a4_8 : decode cJ6_bitCount_0f7a4 8 = .ok (.isub, 1) := by decide +kernel
theorem dJ6_bitCount_0f7a4_9 : decode cJ6_bitCount_0f7a4 9 = .ok (.istore_n 0, 1) := by decide +kernel
theorem dJ6_bitCount_0f7a4_10 : decode cJ6_bitCount_0f7a4 10 = .ok (.iload_n 0, 1) := by decide +kernel
theorem dJ6_bitCount_0f7a4_11 : decode cJ6_bitCount_0f7a4 11 = .ok (.ldc_w 266, 3) := by decide +kernel
theorem dJ6_bitCount_0f7a4_14 : decode cJ6_bitCount_0f7a4 14 = .ok (.iand, 1) := by decide +kernel
theorem dJ6_bitCount_0f7a4_15 : decode cJ6_bitCount_0f7a4 15 = .ok (.iload_n 0, 1) := by decide +kernel
theorem dJ6_bitCount_0f7a4_16 : decode cJ6_bitCount_0f7a4 16 = .ok (.iconst 2, 1) := by decide +kernel
theorem dJ6_bitCount_0f7a4_17 : decode cJ6_bitCount_0f7a4 17 = .ok (.iushr, 1) := by decide +kernel
theorem dJ6_bitCount_0f7a4_18 : decode cJ6_bitCount_0f7a4 18 = .ok (.ldc_w 266, 3) := by decide +kernel
theorem dJ6_bitCount_0f7a4_21 : decode cJ6_bitCount_0f7a4 21 = .ok (.iand, 1) := by decide +kernel
theorem dJ6_bitCount_0f7a4_22 : decode cJ6_bitCount_0f7a4 22 = .ok (.iadd, 1) := by decide +kernel
theorem dJ6_bitCount_0f7a4_23 : decode cJ6_bitCount_0f7a4 23 = .ok (.istore_n 0, 1) := by decide +kernel
theorem dJ6_bitCount_0f7a4_24 : decode cJ6_bitCount_0f7a4 24 = .ok (.iload_n 0, 1) := by decide +kernel
theorem dJ6_bitCount_0f7a4_25 : decode cJ6_bitCount_0f7a4 25 = .ok (.iload_n 0, 1) := by decide +kernel
theorem dJ6_bitCount_0f7a4_26 : decode cJ6_bitCount_0f7a4 26 = .ok (.iconst 4, 1) := by decide +kernel
theorem dJ6_bitCount_0f7a4_27 : decode cJ6_bitCount_0f7a4 27 = .ok (.iushr, 1) := by decide +kernel
theorem dJ6_bitCount_0f7a4_28 : decode cJ6_bitCount_0f7a4 28 = .ok (.iadd, 1) := by decide +kernel
theorem dJ6_bitCount_0f7a4_29 : decode cJ6_bitCount_0f7a4 29 = .ok (.ldc_w 267, 3) := by decide +kernel
theorem dJ6_bitCount_0f7a4_32 : decode cJ6_bitCount_0f7a4 32 = .ok (.iand, 1) := by decide +kernel
theorem dJ6_bitCount_0f7a4_33 : decode cJ6_bitCount_0f7a4 33 = .ok (.istore_n 0, 1) := by decide +kernel
theorem dJ6_bitCount_0f7a4_34 : decode cJ6_bitCount_0f7a4 34 = .ok (.iload_n 0, 1) := by decide +kernel
theorem dJ6_bitCount_0f7a4_35 : decode cJ6_bitCount_0f7a4 35 = .ok (.iload_n 0, 1) := by decide +kernel
theorem dJ6_bitCount_0f7a4_36 : decode cJ6_bitCount_0f7a4 36 = .ok (.bipush 8, 2) := by decide +kernel
theorem dJ6_bitCount_0f7a4_38 : decode cJ6_bitCount_0f7a4 38 = .ok (.iushr, 1) := by decide +kernel
theorem dJ6_bitCount_0f7a4_39 : decode cJ6_bitCount_0f7a4 39 = .ok (.iadd, 1) := by decide +kernel
theorem dJ6_bitCount_0f7a4_40 : decode cJ6_bitCount_0f7a4 40 = .ok (.istore_n 0, 1) := by decide +kernel
theorem dJ6_bitCount_0f7a4_41 : decode cJ6_bitCount_0f7a4 41 = .ok (.iload_n 0, 1) := by decide +kernel
theorem dJ6_bitCount_0f7a4_42 : decode cJ6_bitCount_0f7a4 42 = .ok (.iload_n 0, 1) := by decide +kernel
theorem dJ6_bitCount_0f7a4_43 : decode cJ6_bitCount_0f7a4 43 = .ok (.bipush 16, 2) := by decide +kernel
theorem dJ6_bitCount_0f7a4_45 : decode cJ6_bitCount_0f7a4 45 = .ok (.iushr, 1) := by decide +kernel
theorem dJ6_bitCount_0f7a4_46 : decode cJ6_bitCount_0f7a4 46 = .ok (.iadd, 1) := by decide +kernel
theorem dJ6_bitCount_0f7a4_47 : decode cJ6_bitCount_0f7a4 47 = .ok (.istore_n 0, 1) := by decide +kernel
theorem dJ6_bitCount_0f7a4_48 : decode cJ6_bitCount_0f7a4 48 = .ok (.iload_n 0, 1) := by decide +kernel
theorem dJ6_bitCount_0f7a4_49 : decode cJ6_bitCount_0f7a4 49 = .ok (.bipush 63, 2) := by decide +kernel
theorem dJ6_bitCount_0f7a4_51 : decode cJ6_bitCount_0f7a4 51 = .ok (.iand, 1) := by decide +kernel
theorem dJ6_bitCount_0f7a4_52 : decode cJ6_bitCount_0f7a4 52 = .ok (.ireturn, 1) := by decide +kernel
theorem sJ6_bitCount_0f7a4_0 {x : Int32} (h : am_R E d mJ6_bitCount_0f7a4 k n 1 [.int x] (.int x :: st) S iv Q) : am_R E d mJ6_bitCount_0f7a4 k n 0 [.int x] st S iv Q := am_iload_n dJ6_bitCount_0f7a4_0 rfl rfl h
theorem sJ6_bitCount_0f7a4_1 {x : Int32} (h : am_R E d mJ6_bitCount_0f7a4 k n 2 [.int x] (.int x :: st) S iv Q) : am_R E d mJ6_bitCount_0f7a4 k n 1 [.int x] st S iv Q := am_iload_n dJ6_bitCount_0f7a4_1 rfl rfl h
theorem sJ6_bitCount_0f7a4_2 {a0 : Value} (h : am_R E d mJ6_bitCount_0f7a4 k n 3 [a0] (.int 1 :: st) S iv Q) : am_R E d mJ6_bitCount_0f7a4 k n 2 [a0] st S iv Q := am_iconst dJ6_bitCount_0f7a4_2 (by decide) h
theorem sJ6_bitCount_0f7a4_3 {ls : List Value} {x y : Int32} (h : am_R E d mJ6_bitCount_0f7a4 k n 4 ls (.int ((x.toUInt32 >>> (y.toUInt32 &&& Int32.toUInt32 31)).toInt32) :: st) S iv Q) : am_R E d mJ6_bitCount_0f7a4 k n 3 ls (.int y :: .int x :: st) S iv Q := am_iushr dJ6_bitCount_0f7a4_3 h
theorem sJ6_bitCount_0f7a4_4 {a0 : Value} (h : am_R E d mJ6_bitCount_0f7a4 k n 7 [a0] (.int 1431655765 :: st) S iv Q) : am_R E d mJ6_bitCount_0f7a4 k n 4 [a0] st S iv Q := am_ldcw dJ6_bitCount_0f7a4_4 wq_0 h
theorem sJ6_bitCount_0f7a4_7 {ls : List Value} {x y : Int32} (h : am_R E d mJ6_bitCount_0f7a4 k n 8 ls (.int (x &&& y) :: st) S iv Q) : am_R E d mJ6_bitCount_0f7a4 k n 7 ls (.int y :: .int x :: st) S iv Q := am_iand dJ6_bitCount_0f7a4_7 h
theorem sJ6_bitCount_0f7a4_8 {ls : List Value} {x y : Int32} (h : am_R E d mJ6_bitCount_0f7a4 k n 9 ls (.int (x - y) :: st) S iv Q) : am_R E d mJ6_bitCount_0f7a4 k n 8 ls (.int y :: .int x :: st) S iv Q := am_isub dJ6_bitCount_0f7a4_8 h
theorem sJ6_bitCount_0f7a4_9 {a0 : Value} {x : Int32} (h : am_R E d mJ6_bitCount_0f7a4 k n 10 [.int x] st S iv Q) : am_R E d mJ6_bitCount_0f7a4 k n 9 [a0] (.int x :: st) S iv Q := am_istore_n dJ6_bitCount_0f7a4_9 rfl (by decide) h
theorem sJ6_bitCount_0f7a4_10 {x : Int32} (h : am_R E d mJ6_bitCount_0f7a4 k n 11 [.int x] (.int x :: st) S iv Q) : am_R E d mJ6_bitCount_0f7a4 k n 10 [.int x] st S iv Q := am_iload_n dJ6_bitCount_0f7a4_10 rfl rfl h
theorem sJ6_bitCount_0f7a4_11 {a0 : Value} (h : am_R E d mJ6_bitCount_0f7a4 k n 14 [a0] (.int 858993459 :: st) S iv Q) : am_R E d mJ6_bitCount_0f7a4 k n 11 [a0] st S iv Q := am_ldcw dJ6_bitCount_0f7a4_11 wq_1 h
theorem sJ6_bitCount_0f7a4_14 {ls : List Value} {x y : Int32} (h : am_R E d mJ6_bitCount_0f7a4 k n 15 ls (.int (x &&& y) :: st) S iv Q) : am_R E d mJ6_bitCount_0f7a4 k n 14 ls (.int y :: .int x :: st) S iv Q := am_iand dJ6_bitCount_0f7a4_14 h
theorem sJ6_bitCount_0f7a4_15 {x : Int32} (h : am_R E d mJ6_bitCount_0f7a4 k n 16 [.int x] (.int x :: st) S iv Q) : am_R E d mJ6_bitCount_0f7a4 k n 15 [.int x] st S iv Q := am_iload_n dJ6_bitCount_0f7a4_15 rfl rfl h
theorem sJ6_bitCount_0f7a4_16 {a0 : Value} (h : am_R E d mJ6_bitCount_0f7a4 k n 17 [a0] (.int 2 :: st) S iv Q) : am_R E d mJ6_bitCount_0f7a4 k n 16 [a0] st S iv Q := am_iconst dJ6_bitCount_0f7a4_16 (by decide) h
theorem sJ6_bitCount_0f7a4_17 {ls : List Value} {x y : Int32} (h : am_R E d mJ6_bitCount_0f7a4 k n 18 ls (.int ((x.toUInt32 >>> (y.toUInt32 &&& Int32.toUInt32 31)).toInt32) :: st) S iv Q) : am_R E d mJ6_bitCount_0f7a4 k n 17 ls (.int y :: .int x :: st) S iv Q := am_iushr dJ6_bitCount_0f7a4_17 h
theorem sJ6_bitCount_0f7a4_18 {a0 : Value} (h : am_R E d mJ6_bitCount_0f7a4 k n 21 [a0] (.int 858993459 :: st) S iv Q) : am_R E d mJ6_bitCount_0f7a4 k n 18 [a0] st S iv Q := am_ldcw dJ6_bitCount_0f7a4_18 wq_1 h
theorem sJ6_bitCount_0f7a4_21 {ls : List Value} {x y : Int32} (h : am_R E d mJ6_bitCount_0f7a4 k n 22 ls (.int (x &&& y) :: st) S iv Q) : am_R E d mJ6_bitCount_0f7a4 k n 21 ls (.int y :: .int x :: st) S iv Q := am_iand dJ6_bitCount_0f7a4_21 h
theorem sJ6_bitCount_0f7a4_22 {ls : List Value} {x y : Int32} (h : am_R E d mJ6_bitCount_0f7a4 k n 23 ls (.int (x + y) :: st) S iv Q) : am_R E d mJ6_bitCount_0f7a4 k n 22 ls (.int y :: .int x :: st) S iv Q := am_iadd dJ6_bitCount_0f7a4_22 h
theorem sJ6_bitCount_0f7a4_23 {a0 : Value} {x : Int32} (h : am_R E d mJ6_bitCount_0f7a4 k n 24 [.int x] st S iv Q) : am_R E d mJ6_bitCount_0f7a4 k n 23 [a0] (.int x :: st) S iv Q := am_istore_n dJ6_bitCount_0f7a4_23 rfl (by decide) h
theorem sJ6_bitCount_0f7a4_24 {x : Int32} (h : am_R E d mJ6_bitCount_0f7a4 k n 25 [.int x] (.int x :: st) S iv Q) : am_R E d mJ6_bitCount_0f7a4 k n 24 [.int x] st S iv Q := am_iload_n dJ6_bitCount_0f7a4_24 rfl rfl h
theorem sJ6_bitCount_0f7a4_25 {x : Int32} (h : am_R E d mJ6_bitCount_0f7a4 k n 26 [.int x] (.int x :: st) S iv Q) : am_R E d mJ6_bitCount_0f7a4 k n 25 [.int x] st S iv Q := am_iload_n dJ6_bitCount_0f7a4_25 rfl rfl h
theorem sJ6_bitCount_0f7a4_26 {a0 : Value} (h : am_R E d mJ6_bitCount_0f7a4 k n 27 [a0] (.int 4 :: st) S iv Q) : am_R E d mJ6_bitCount_0f7a4 k n 26 [a0] st S iv Q := am_iconst dJ6_bitCount_0f7a4_26 (by decide) h
theorem sJ6_bitCount_0f7a4_27 {ls : List Value} {x y : Int32} (h : am_R E d mJ6_bitCount_0f7a4 k n 28 ls (.int ((x.toUInt32 >>> (y.toUInt32 &&& Int32.toUInt32 31)).toInt32) :: st) S iv Q) : am_R E d mJ6_bitCount_0f7a4 k n 27 ls (.int y :: .int x :: st) S iv Q := am_iushr dJ6_bitCount_0f7a4_27 h
theorem sJ6_bitCount_0f7a4_28 {ls : List Value} {x y : Int32} (h : am_R E d mJ6_bitCount_0f7a4 k n 29 ls (.int (x + y) :: st) S iv Q) : am_R E d mJ6_bitCount_0f7a4 k n 28 ls (.int y :: .int x :: st) S iv Q := am_iadd dJ6_bitCount_0f7a4_28 h
theorem sJ6_bitCount_0f7a4_29 {a0 : Value} (h : am_R E d mJ6_bitCount_0f7a4 k n 32 [a0] (.int 252645135 :: st) S iv Q) : am_R E d mJ6_bitCount_0f7a4 k n 29 [a0] st S iv Q := am_ldcw dJ6_bitCount_0f7a4_29 wq_2 h
theorem sJ6_bitCount_0f7a4_32 {ls : List Value} {x y : Int32} (h : am_R E d mJ6_bitCount_0f7a4 k n 33 ls (.int (x &&& y) :: st) S iv Q) : am_R E d mJ6_bitCount_0f7a4 k n 32 ls (.int y :: .int x :: st) S iv Q := am_iand dJ6_bitCount_0f7a4_32 h
theorem sJ6_bitCount_0f7a4_33 {a0 : Value} {x : Int32} (h : am_R E d mJ6_bitCount_0f7a4 k n 34 [.int x] st S iv Q) : am_R E d mJ6_bitCount_0f7a4 k n 33 [a0] (.int x :: st) S iv Q := am_istore_n dJ6_bitCount_0f7a4_33 rfl (by decide) h
theorem sJ6_bitCount_0f7a4_34 {x : Int32} (h : am_R E d mJ6_bitCount_0f7a4 k n 35 [.int x] (.int x :: st) S iv Q) : am_R E d mJ6_bitCount_0f7a4 k n 34 [.int x] st S iv Q := am_iload_n dJ6_bitCount_0f7a4_34 rfl rfl h
theorem sJ6_bitCount_0f7a4_35 {x : Int32} (h : am_R E d mJ6_bitCount_0f7a4 k n 36 [.int x] (.int x :: st) S iv Q) : am_R E d mJ6_bitCount_0f7a4 k n 35 [.int x] st S iv Q := am_iload_n dJ6_bitCount_0f7a4_35 rfl rfl h
theorem sJ6_bitCount_0f7a4_36 {a0 : Value} (h : am_R E d mJ6_bitCount_0f7a4 k n 38 [a0] (.int 8 :: st) S iv Q) : am_R E d mJ6_bitCount_0f7a4 k n 36 [a0] st S iv Q := am_bipush dJ6_bitCount_0f7a4_36 (by decide) h
theorem sJ6_bitCount_0f7a4_38 {ls : List Value} {x y : Int32} (h : am_R E d mJ6_bitCount_0f7a4 k n 39 ls (.int ((x.toUInt32 >>> (y.toUInt32 &&& Int32.toUInt32 31)).toInt32) :: st) S iv Q) : am_R E d mJ6_bitCount_0f7a4 k n 38 ls (.int y :: .int x :: st) S iv Q := am_iushr dJ6_bitCount_0f7a4_38 h
theorem sJ6_bitCount_0f7a4_39 {ls : List Value} {x y : Int32} (h : am_R E d mJ6_bitCount_0f7a4 k n 40 ls (.int (x + y) :: st) S iv Q) : am_R E d mJ6_bitCount_0f7a4 k n 39 ls (.int y :: .int x :: st) S iv Q := am_iadd dJ6_bitCount_0f7a4_39 h
theorem sJ6_bitCount_0f7a4_40 {a0 : Value} {x : Int32} (h : am_R E d mJ6_bitCount_0f7a4 k n 41 [.int x] st S iv Q) : am_R E d mJ6_bitCount_0f7a4 k n 40 [a0] (.int x :: st) S iv Q := am_istore_n dJ6_bitCount_0f7a4_40 rfl (by decide) h
theorem sJ6_bitCount_0f7a4_41 {x : Int32} (h : am_R E d mJ6_bitCount_0f7a4 k n 42 [.int x] (.int x :: st) S iv Q) : am_R E d mJ6_bitCount_0f7a4 k n 41 [.int x] st S iv Q := am_iload_n dJ6_bitCount_0f7a4_41 rfl rfl h
theorem sJ6_bitCount_0f7a4_42 {x : Int32} (h : am_R E d mJ6_bitCount_0f7a4 k n 43 [.int x] (.int x :: st) S iv Q) : am_R E d mJ6_bitCount_0f7a4 k n 42 [.int x] st S iv Q := am_iload_n dJ6_bitCount_0f7a4_42 rfl rfl h
theorem sJ6_bitCount_0f7a4_43 {a0 : Value} (h : am_R E d mJ6_bitCount_0f7a4 k n 45 [a0] (.int 16 :: st) S iv Q) : am_R E d mJ6_bitCount_0f7a4 k n 43 [a0] st S iv Q := am_bipush dJ6_bitCount_0f7a4_43 (by decide) h
theorem sJ6_bitCount_0f7a4_45 {ls : List Value} {x y : Int32} (h : am_R E d mJ6_bitCount_0f7a4 k n 46 ls (.int ((x.toUInt32 >>> (y.toUInt32 &&& Int32.toUInt32 31)).toInt32) :: st) S iv Q) : am_R E d mJ6_bitCount_0f7a4 k n 45 ls (.int y :: .int x :: st) S iv Q := am_iushr dJ6_bitCount_0f7a4_45 h
theorem sJ6_bitCount_0f7a4_46 {ls : List Value} {x y : Int32} (h : am_R E d mJ6_bitCount_0f7a4 k n 47 ls (.int (x + y) :: st) S iv Q) : am_R E d mJ6_bitCount_0f7a4 k n 46 ls (.int y :: .int x :: st) S iv Q := am_iadd dJ6_bitCount_0f7a4_46 h
theorem sJ6_bitCount_0f7a4_47 {a0 : Value} {x : Int32} (h : am_R E d mJ6_bitCount_0f7a4 k n 48 [.int x] st S iv Q) : am_R E d mJ6_bitCount_0f7a4 k n 47 [a0] (.int x :: st) S iv Q := am_istore_n dJ6_bitCount_0f7a4_47 rfl (by decide) h
theorem sJ6_bitCount_0f7a4_48 {x : Int32} (h : am_R E d mJ6_bitCount_0f7a4 k n 49 [.int x] (.int x :: st) S iv Q) : am_R E d mJ6_bitCount_0f7a4 k n 48 [.int x] st S iv Q := am_iload_n dJ6_bitCount_0f7a4_48 rfl rfl h
theorem sJ6_bitCount_0f7a4_49 {a0 : Value} (h : am_R E d mJ6_bitCount_0f7a4 k n 51 [a0] (.int 63 :: st) S iv Q) : am_R E d mJ6_bitCount_0f7a4 k n 49 [a0] st S iv Q := am_bipush dJ6_bitCount_0f7a4_49 (by decide) h
theorem sJ6_bitCount_0f7a4_51 {ls : List Value} {x y : Int32} (h : am_R E d mJ6_bitCount_0f7a4 k n 52 ls (.int (x &&& y) :: st) S iv Q) : am_R E d mJ6_bitCount_0f7a4 k n 51 ls (.int y :: .int x :: st) S iv Q := am_iand dJ6_bitCount_0f7a4_51 h
theorem sJ6_bitCount_0f7a4_52 {ls : List Value} {x : Int32} (h : Q (.inl (some (.int x))) S iv) : am_R E d mJ6_bitCount_0f7a4 k n 52 ls [.int x] S iv Q := am_ireturn dJ6_bitCount_0f7a4_52 rfl h
theorem dJ9_abs_0f7a4_0 : decode cJ9_abs_0f7a4 0 = .ok (.iload_n 0, 1) := by decide +kernel
theorem dJ9_abs_0f7a4_1 : decode cJ9_abs_0f7a4 1 = .ok (.ifCond .ge 8, 3) := by decide +kernel
theorem dJ9_abs_0f7a4_4 : decode cJ9_abs_0f7a4 4 = .ok (.iload_n 0, 1) := by decide +kernel
theorem dJ9_abs_0f7a4_5 : decode cJ9_abs_0f7a4 5 = .ok (.ineg, 1) := by decide +kernel
theorem dJ9_abs_0f7a4_6 : decode cJ9_abs_0f7a4 6 = .ok (.goto 4, 3) := by decide +kernel
theorem dJ9_abs_0f7a4_9 : decode cJ9_abs_0f7a4 9 = .ok (.iload_n 0, 1) := by decide +kernel
theorem dJ9_abs_0f7a4_10 : decode cJ9_abs_0f7a4 10 = .ok (.ireturn, 1) := by decide +kernel
theorem sJ9_abs_0f7a4_0 {x : Int32} (h : am_R E d mJ9_abs_0f7a4 k n 1 [.int x] (.int x :: st) S iv Q) : am_R E d mJ9_abs_0f7a4 k n 0 [.int x] st S iv Q := am_iload_n dJ9_abs_0f7a4_0 rfl rfl h
theorem sJ9_abs_0f7a4_1 {ls : List Value} {x : Int32} (kt : 0 ≤ x → am_R E d mJ9_abs_0f7a4 k n 9 ls st S iv Q) (kf : ¬ 0 ≤ x → am_R E d mJ9_abs_0f7a4 k n 4 ls st S iv Q) : am_R E d mJ9_abs_0f7a4 k n 1 ls (.int x :: st) S iv Q := am_if_ge dJ9_abs_0f7a4_1 (by decide) kt kf
theorem sJ9_abs_0f7a4_4 {x : Int32} (h : am_R E d mJ9_abs_0f7a4 k n 5 [.int x] (.int x :: st) S iv Q) : am_R E d mJ9_abs_0f7a4 k n 4 [.int x] st S iv Q := am_iload_n dJ9_abs_0f7a4_4 rfl rfl h
theorem sJ9_abs_0f7a4_5 {ls : List Value} {x : Int32} (h : am_R E d mJ9_abs_0f7a4 k n 6 ls (.int (-x) :: st) S iv Q) : am_R E d mJ9_abs_0f7a4 k n 5 ls (.int x :: st) S iv Q := am_ineg dJ9_abs_0f7a4_5 h
theorem sJ9_abs_0f7a4_6 {ls : List Value} (h : am_R E d mJ9_abs_0f7a4 k n 10 ls st S iv Q) : am_R E d mJ9_abs_0f7a4 k n 6 ls st S iv Q := am_goto dJ9_abs_0f7a4_6 (by decide) h
theorem sJ9_abs_0f7a4_9 {x : Int32} (h : am_R E d mJ9_abs_0f7a4 k n 10 [.int x] (.int x :: st) S iv Q) : am_R E d mJ9_abs_0f7a4 k n 9 [.int x] st S iv Q := am_iload_n dJ9_abs_0f7a4_9 rfl rfl h
theorem sJ9_abs_0f7a4_10 {ls : List Value} {x : Int32} (h : Q (.inl (some (.int x))) S iv) : am_R E d mJ9_abs_0f7a4 k n 10 ls [.int x] S iv Q := am_ireturn dJ9_abs_0f7a4_10 rfl h
theorem dJ9_max_7cf53_0 : decode cJ9_max_7cf53 0 = .ok (.iload_n 0, 1) := by decide +kernel
theorem dJ9_max_7cf53_1 : decode cJ9_max_7cf53 1 = .ok (.iload_n 1, 1) := by decide +kernel
theorem dJ9_max_7cf53_2 : decode cJ9_max_7cf53 2 = .ok (.if_icmp .lt 7, 3) := by decide +kernel
theorem dJ9_max_7cf53_5 : decode cJ9_max_7cf53 5 = .ok (.iload_n 0, 1) := by decide +kernel
theorem dJ9_max_7cf53_6 : decode cJ9_max_7cf53 6 = .ok (.goto 4, 3) := by decide +kernel
theorem dJ9_max_7cf53_9 : decode cJ9_max_7cf53 9 = .ok (.iload_n 1, 1) := by decide +kernel
theorem dJ9_max_7cf53_10 : decode cJ9_max_7cf53 10 = .ok (.ireturn, 1) := by decide +kernel
theorem sJ9_max_7cf53_0 {a1 : Value} {x : Int32} (h : am_R E d mJ9_max_7cf53 k n 1 [.int x, a1] (.int x :: st) S iv Q) : am_R E d mJ9_max_7cf53 k n 0 [.int x, a1] st S iv Q := am_iload_n dJ9_max_7cf53_0 rfl rfl h
theorem sJ9_max_7cf53_1 {a0 : Value} {x : Int32} (h : am_R E d mJ9_max_7cf53 k n 2 [a0, .int x] (.int x :: st) S iv Q) : am_R E d mJ9_max_7cf53 k n 1 [a0, .int x] st S iv Q := am_iload_n dJ9_max_7cf53_1 rfl rfl h
theorem sJ9_max_7cf53_2 {ls : List Value} {x y : Int32} (kt : x < y → am_R E d mJ9_max_7cf53 k n 9 ls st S iv Q) (kf : ¬ x < y → am_R E d mJ9_max_7cf53 k n 5 ls st S iv Q) : am_R E d mJ9_max_7cf53 k n 2 ls (.int y :: .int x :: st) S iv Q := am_icmp_lt dJ9_max_7cf53_2 (by decide) kt kf
theorem sJ9_max_7cf53_5 {a1 : Value} {x : Int32} (h : am_R E d mJ9_max_7cf53 k n 6 [.int x, a1] (.int x :: st) S iv Q) : am_R E d mJ9_max_7cf53 k n 5 [.int x, a1] st S iv Q := am_iload_n dJ9_max_7cf53_5 rfl rfl h
theorem sJ9_max_7cf53_6 {ls : List Value} (h : am_R E d mJ9_max_7cf53 k n 10 ls st S iv Q) : am_R E d mJ9_max_7cf53 k n 6 ls st S iv Q := am_goto dJ9_max_7cf53_6 (by decide) h
theorem sJ9_max_7cf53_9 {a0 : Value} {x : Int32} (h : am_R E d mJ9_max_7cf53 k n 10 [a0, .int x] (.int x :: st) S iv Q) : am_R E d mJ9_max_7cf53 k n 9 [a0, .int x] st S iv Q := am_iload_n dJ9_max_7cf53_9 rfl rfl h
theorem sJ9_max_7cf53_10 {ls : List Value} {x : Int32} (h : Q (.inl (some (.int x))) S iv) : am_R E d mJ9_max_7cf53 k n 10 ls [.int x] S iv Q := am_ireturn dJ9_max_7cf53_10 rfl h
theorem dJ9_min_7cf53_0 : decode cJ9_min_7cf53 0 = .ok (.iload_n 0, 1) := by decide +kernel
theorem dJ9_min_7cf53_1 : decode cJ9_min_7cf53 1 = .ok (.iload_n 1, 1) := by decide +kernel
theorem dJ9_min_7cf53_2 : decode cJ9_min_7cf53 2 = .ok (.if_icmp .gt 7, 3) := by decide +kernel
theorem dJ9_min_7cf53_5 : decode cJ9_min_7cf53 5 = .ok (.iload_n 0, 1) := by decide +kernel
theorem dJ9_min_7cf53_6 : decode cJ9_min_7cf53 6 = .ok (.goto 4, 3) := by decide +kernel
theorem dJ9_min_7cf53_9 : decode cJ9_min_7cf53 9 = .ok (.iload_n 1, 1) := by decide +kernel
theorem dJ9_min_7cf53_10 : decode cJ9_min_7cf53 10 = .ok (.ireturn, 1) := by decide +kernel
theorem sJ9_min_7cf53_0 {a1 : Value} {x : Int32} (h : am_R E d mJ9_min_7cf53 k n 1 [.int x, a1] (.int x :: st) S iv Q) : am_R E d mJ9_min_7cf53 k n 0 [.int x, a1] st S iv Q := am_iload_n dJ9_min_7cf53_0 rfl rfl h
theorem sJ9_min_7cf53_1 {a0 : Value} {x : Int32} (h : am_R E d mJ9_min_7cf53 k n 2 [a0, .int x] (.int x :: st) S iv Q) : am_R E d mJ9_min_7cf53 k n 1 [a0, .int x] st S iv Q := am_iload_n dJ9_min_7cf53_1 rfl rfl h
theorem sJ9_min_7cf53_2 {ls : List Value} {x y : Int32} (kt : y < x → am_R E d mJ9_min_7cf53 k n 9 ls st S iv Q) (kf : ¬ y < x → am_R E d mJ9_min_7cf53 k n 5 ls st S iv Q) : am_R E d mJ9_min_7cf53 k n 2 ls (.int y :: .int x :: st) S iv Q := am_icmp_gt dJ9_min_7cf53_2 (by decide) kt kf
theorem sJ9_min_7cf53_5 {a1 : Value} {x : Int32} (h : am_R E d mJ9_min_7cf53 k n 6 [.int x, a1] (.int x :: st) S iv Q) : am_R E d mJ9_min_7cf53 k n 5 [.int x, a1] st S iv Q := am_iload_n dJ9_min_7cf53_5 rfl rfl h
theorem sJ9_min_7cf53_6 {ls : List Value} (h : am_R E d mJ9_min_7cf53 k n 10 ls st S iv Q) : am_R E d mJ9_min_7cf53 k n 6 ls st S iv Q := am_goto dJ9_min_7cf53_6 (by decide) h
theorem sJ9_min_7cf53_9 {a0 : Value} {x : Int32} (h : am_R E d mJ9_min_7cf53 k n 10 [a0, .int x] (.int x :: st) S iv Q) : am_R E d mJ9_min_7cf53 k n 9 [a0, .int x] st S iv Q := am_iload_n dJ9_min_7cf53_9 rfl rfl h
theorem sJ9_min_7cf53_10 {ls : List Value} {x : Int32} (h : Q (.inl (some (.int x))) S iv) : am_R E d mJ9_min_7cf53 k n 10 ls [.int x] S iv Q := am_ireturn dJ9_min_7cf53_10 rfl h
theorem dJ0_length_8abf5_0 : decode cJ0_length_8abf5 0 = .ok (.aload_n 0, 1) := by decide +kernel
theorem dJ0_length_8abf5_1 : decode cJ0_length_8abf5 1 = .ok (.getfield 9, 3) := by decide +kernel
theorem dJ0_length_8abf5_4 : decode cJ0_length_8abf5 4 = .ok (.arraylength, 1) := by decide +kernel
theorem dJ0_length_8abf5_5 : decode cJ0_length_8abf5 5 = .ok (.aload_n 0, 1) := by decide +kernel
theorem dJ0_length_8abf5_6 : decode cJ0_length_8abf5 6 = .ok (.invokevirtual 335, 3) := by decide +kernel
theorem dJ0_length_8abf5_9 : decode cJ0_length_8abf5 9 = .ok (.ishr, 1) := by decide +kernel
theorem dJ0_length_8abf5_10 : decode cJ0_length_8abf5 10 = .ok (.ireturn, 1) := by decide +kernel
theorem sJ0_length_8abf5_0 {a0 : Value} (hv : am_rf a0 = true) (h : am_R E d mJ0_length_8abf5 k n 1 [a0] (a0 :: st) S iv Q) : am_R E d mJ0_length_8abf5 k n 0 [a0] st S iv Q := am_aload_n dJ0_length_8abf5_0 rfl rfl hv h
theorem sJ0_length_8abf5_1 {ls : List Value} {j : Nat} (hj : j < am_by.length) {u : UInt32} (hu : u.toNat = j) (h : am_R E d mJ0_length_8abf5 k n 4 ls (.float u :: st) S iv Q) : am_R E d mJ0_length_8abf5 k n 1 ls (.retAddr j :: st) S iv Q := am_getSv dJ0_length_8abf5_1 wq_3 hj hu h
theorem sJ0_length_8abf5_4 {ls : List Value} {u : UInt32} (hj : u.toNat < am_by.length) (h : am_R E d mJ0_length_8abf5 k n 5 ls (.int (Int32.ofNat (am_by.getD u.toNat []).length) :: st) S iv Q) : am_R E d mJ0_length_8abf5 k n 4 ls (.float u :: st) S iv Q := am_Salen dJ0_length_8abf5_4 hj h
theorem sJ0_length_8abf5_5 {a0 : Value} (hv : am_rf a0 = true) (h : am_R E d mJ0_length_8abf5 k n 6 [a0] (a0 :: st) S iv Q) : am_R E d mJ0_length_8abf5 k n 5 [a0] st S iv Q := am_aload_n dJ0_length_8abf5_5 rfl rfl hv h
theorem sJ0_length_8abf5_6 {ls : List Value} {j : Nat} (hj : j < am_by.length) (hst : (st.map fun v => v.category).sum ≤ 8) (hM : am_M E d mJ0_coder_7d493 0 0 [.retAddr j] S iv (am_K3 E (d + 1) mJ0_length_8abf5 k n 6 ls st Q)) : am_R E (d + 1) mJ0_length_8abf5 k n 6 ls (.retAddr j :: st) S iv Q := am_cT' (M' := mJ0_coder_7d493) (as := []) dJ0_length_8abf5_6 rfl wq_7 wq_8 wq_9 wq_5 wq_4 hy_J0_coder_7d493 (by decide) hj hst (by omega) (by omega) hM
theorem sJ0_length_8abf5_9 {ls : List Value} {x y : Int32} (h : am_R E d mJ0_length_8abf5 k n 10 ls (.int (x >>> (y &&& 31)) :: st) S iv Q) : am_R E d mJ0_length_8abf5 k n 9 ls (.int y :: .int x :: st) S iv Q := am_ishr dJ0_length_8abf5_9 h
theorem sJ0_length_8abf5_10 {ls : List Value} {x : Int32} (h : Q (.inl (some (.int x))) S iv) : am_R E d mJ0_length_8abf5 k n 10 ls [.int x] S iv Q := am_ireturn dJ0_length_8abf5_10 rfl h
theorem dJ0_charAt_5068e_0 : decode cJ0_charAt_5068e 0 = .ok (.aload_n 0, 1) := by decide +kernel
theorem dJ0_charAt_5068e_1 : decode cJ0_charAt_5068e 1 = .ok (.invokevirtual 492, 3) := by decide +kernel
theorem dJ0_charAt_5068e_4 : decode cJ0_charAt_5068e 4 = .ok (.ifCond .eq 12, 3) := by decide +kernel
theorem dJ0_charAt_5068e_7 : decode cJ0_charAt_5068e 7 = .ok (.aload_n 0, 1) := by decide +kernel
theorem dJ0_charAt_5068e_8 : decode cJ0_charAt_5068e 8 = .ok (.getfield 9, 3) := by decide +kernel
theorem dJ0_charAt_5068e_11 : decode cJ0_charAt_5068e 11 = .ok (.iload_n 1, 1) := by decide +kernel
theorem dJ0_charAt_5068e_12 : decode cJ0_charAt_5068e 12 = .ok (.invokestatic 495, 3) := by decide +kernel
theorem dJ0_charAt_5068e_15 : decode cJ0_charAt_5068e 15 = .ok (.ireturn, 1) := by decide +kernel
theorem dJ0_charAt_5068e_16 : decode cJ0_charAt_5068e 16 = .ok (.aload_n 0, 1) := by decide +kernel
theorem dJ0_charAt_5068e_17 : decode cJ0_charAt_5068e 17 = .ok (.getfield 9, 3) := by decide +kernel
theorem dJ0_charAt_5068e_20 : decode cJ0_charAt_5068e 20 = .ok (.iload_n 1, 1) := by decide +kernel
theorem dJ0_charAt_5068e_21 : decode cJ0_charAt_5068e 21 = .ok (.invokestatic 498, 3) := by decide +kernel
theorem dJ0_charAt_5068e_24 : decode cJ0_charAt_5068e 24 = .ok (.ireturn, 1) := by decide +kernel
theorem sJ0_charAt_5068e_0 {a0 a1 : Value} (hv : am_rf a0 = true) (h : am_R E d mJ0_charAt_5068e k n 1 [a0, a1] (a0 :: st) S iv Q) : am_R E d mJ0_charAt_5068e k n 0 [a0, a1] st S iv Q := am_aload_n dJ0_charAt_5068e_0 rfl rfl hv h
theorem sJ0_charAt_5068e_1 {ls : List Value} {j : Nat} (hj : j < am_by.length) (hst : (st.map fun v => v.category).sum ≤ 8) (hM : am_M E d mJ0_isLatin1_aae02 0 0 [.retAddr j] S iv (am_K3 E (d + 1) mJ0_charAt_5068e k n 1 ls st Q)) : am_R E (d + 1) mJ0_charAt_5068e k n 1 ls (.retAddr j :: st) S iv Q := am_cT' (M' := mJ0_isLatin1_aae02) (as := []) dJ0_charAt_5068e_1 rfl wq_12 wq_13 wq_14 wq_5 wq_10 hy_J0_isLatin1_aae02 (by decide) hj hst (by omega) (by omega) hM
theorem sJ0_charAt_5068e_4 {ls : List Value} {x : Int32} (kt : x = 0 → am_R E d mJ0_charAt_5068e k n 16 ls st S iv Q) (kf : ¬ x = 0 → am_R E d mJ0_charAt_5068e k n 7 ls st S iv Q) : am_R E d mJ0_charAt_5068e k n 4 ls (.int x :: st) S iv Q := am_if_eq dJ0_charAt_5068e_4 (by decide) kt kf
theorem sJ0_charAt_5068e_7 {a0 a1 : Value} (hv : am_rf a0 = true) (h : am_R E d mJ0_charAt_5068e k n 8 [a0, a1] (a0 :: st) S iv Q) : am_R E d mJ0_charAt_5068e k n 7 [a0, a1] st S iv Q := am_aload_n dJ0_charAt_5068e_7 rfl rfl hv h
theorem sJ0_charAt_5068e_8 {ls : List Value} {j : Nat} (hj : j < am_by.length) {u : UInt32} (hu : u.toNat = j) (h : am_R E d mJ0_charAt_5068e k n 11 ls (.float u :: st) S iv Q) : am_R E d mJ0_charAt_5068e k n 8 ls (.retAddr j :: st) S iv Q := am_getSv dJ0_charAt_5068e_8 wq_3 hj hu h
theorem sJ0_charAt_5068e_11 {a0 : Value} {x : Int32} (h : am_R E d mJ0_charAt_5068e k n 12 [a0, .int x] (.int x :: st) S iv Q) : am_R E d mJ0_charAt_5068e k n 11 [a0, .int x] st S iv Q := am_iload_n dJ0_charAt_5068e_11 rfl rfl h
theorem sJ0_charAt_5068e_12 {ls : List Value} {x1 x2 : Value} (hst : (st.map fun v => v.category).sum ≤ 8) (hM : am_M E d mJ1_charAt_3b067 0 0 [x1, x2] S iv (am_K3 E (d + 1) mJ0_charAt_5068e k n 12 ls st Q)) : am_R E (d + 1) mJ0_charAt_5068e k n 12 ls (x2 :: x1 :: st) S iv Q := am_cS (M' := mJ1_charAt_3b067) (as := [x1, x2]) dJ0_charAt_5068e_12 rfl wq_18 wq_19 wq_16 wq_15 hy_J1_charAt_3b067 (by decide) hst (by omega) (by omega) hM
theorem sJ0_charAt_5068e_12_k {ls : List Value} {x1 x2 : Value} {k' n' : Nat} (hst : (st.map fun v => v.category).sum ≤ 8) (hM : am_M E d mJ1_charAt_3b067 k' n' [x1, x2] S iv (am_K3 E (d + 1) mJ0_charAt_5068e k n 12 ls st Q)) : am_R E (d + 1) mJ0_charAt_5068e (k' + k) (n' + n) 12 ls (x2 :: x1 :: st) S iv Q := am_cS (M' := mJ1_charAt_3b067) (as := [x1, x2]) dJ0_charAt_5068e_12 rfl wq_18 wq_19 wq_16 wq_15 hy_J1_charAt_3b067 (by decide) hst (by omega) (by omega) hM
theorem sJ0_charAt_5068e_15 {ls : List Value} {x : Int32} (hn : narrow .char (.int x) = .int x) (h : Q (.inl (some (.int x))) S iv) : am_R E d mJ0_charAt_5068e k n 15 ls [.int x] S iv Q := am_zreturn dJ0_charAt_5068e_15 rfl hn h
theorem sJ0_charAt_5068e_16 {a0 a1 : Value} (hv : am_rf a0 = true) (h : am_R E d mJ0_charAt_5068e k n 17 [a0, a1] (a0 :: st) S iv Q) : am_R E d mJ0_charAt_5068e k n 16 [a0, a1] st S iv Q := am_aload_n dJ0_charAt_5068e_16 rfl rfl hv h
theorem sJ0_charAt_5068e_17 {ls : List Value} {j : Nat} (hj : j < am_by.length) {u : UInt32} (hu : u.toNat = j) (h : am_R E d mJ0_charAt_5068e k n 20 ls (.float u :: st) S iv Q) : am_R E d mJ0_charAt_5068e k n 17 ls (.retAddr j :: st) S iv Q := am_getSv dJ0_charAt_5068e_17 wq_3 hj hu h
theorem sJ0_charAt_5068e_20 {a0 : Value} {x : Int32} (h : am_R E d mJ0_charAt_5068e k n 21 [a0, .int x] (.int x :: st) S iv Q) : am_R E d mJ0_charAt_5068e k n 20 [a0, .int x] st S iv Q := am_iload_n dJ0_charAt_5068e_20 rfl rfl h
theorem sJ0_charAt_5068e_24 {ls : List Value} {x : Int32} (hn : narrow .char (.int x) = .int x) (h : Q (.inl (some (.int x))) S iv) : am_R E d mJ0_charAt_5068e k n 24 ls [.int x] S iv Q := am_zreturn dJ0_charAt_5068e_24 rfl hn h
theorem dJ0_indexOf_0f7a4_0 : decode cJ0_indexOf_0f7a4 0 = .ok (.aload_n 0, 1) := by decide +kernel
theorem dJ0_indexOf_0f7a4_1 : decode cJ0_indexOf_0f7a4 1 = .ok (.iload_n 1, 1) := by decide +kernel
theorem dJ0_indexOf_0f7a4_2 : decode cJ0_indexOf_0f7a4 2 = .ok (.iconst 0, 1) := by decide +kernel
theorem dJ0_indexOf_0f7a4_3 : decode cJ0_indexOf_0f7a4 3 = .ok (.invokevirtual 633, 3) := by decide +kernel
theorem dJ0_indexOf_0f7a4_6 : decode cJ0_indexOf_0f7a4 6 = .ok (.ireturn, 1) := by decide +kernel
theorem sJ0_indexOf_0f7a4_0 {a0 a1 : Value} (hv : am_rf a0 = true) (h : am_R E d mJ0_indexOf_0f7a4 k n 1 [a0, a1] (a0 :: st) S iv Q) : am_R E d mJ0_indexOf_0f7a4 k n 0 [a0, a1] st S iv Q := am_aload_n dJ0_indexOf_0f7a4_0 rfl rfl hv h
theorem sJ0_indexOf_0f7a4_1 {a0 : Value} {x : Int32} (h : am_R E d mJ0_indexOf_0f7a4 k n 2 [a0, .int x] (.int x :: st) S iv Q) : am_R E d mJ0_indexOf_0f7a4 k n 1 [a0, .int x] st S iv Q := am_iload_n dJ0_indexOf_0f7a4_1 rfl rfl h
theorem sJ0_indexOf_0f7a4_2 {a0 a1 : Value} (h : am_R E d mJ0_indexOf_0f7a4 k n 3 [a0, a1] (.int 0 :: st) S iv Q) : am_R E d mJ0_indexOf_0f7a4 k n 2 [a0, a1] st S iv Q := am_iconst dJ0_indexOf_0f7a4_2 (by decide) h
theorem sJ0_indexOf_0f7a4_3 {ls : List Value} {x1 x2 : Value} {j : Nat} (hj : j < am_by.length) (hst : (st.map fun v => v.category).sum ≤ 8) (hM : am_M E d mJ0_indexOf_7cf53 0 0 [.retAddr j, x1, x2] S iv (am_K3 E (d + 1) mJ0_indexOf_0f7a4 k n 3 ls st Q)) : am_R E (d + 1) mJ0_indexOf_0f7a4 k n 3 ls (x2 :: x1 :: .retAddr j :: st) S iv Q := am_cT' (M' := mJ0_indexOf_7cf53) (as := [x1, x2]) dJ0_indexOf_0f7a4_3 rfl wq_22 wq_23 wq_24 wq_5 wq_20 hy_J0_indexOf_7cf53 (by decide) hj hst (by omega) (by omega) hM
theorem sJ0_indexOf_0f7a4_6 {ls : List Value} {x : Int32} (h : Q (.inl (some (.int x))) S iv) : am_R E d mJ0_indexOf_0f7a4 k n 6 ls [.int x] S iv Q := am_ireturn dJ0_indexOf_0f7a4_6 rfl h
theorem dJ0_indexOf_7cf53_0 : decode cJ0_indexOf_7cf53 0 = .ok (.aload_n 0, 1) := by decide +kernel
theorem dJ0_indexOf_7cf53_1 : decode cJ0_indexOf_7cf53 1 = .ok (.invokevirtual 492, 3) := by decide +kernel
theorem dJ0_indexOf_7cf53_4 : decode cJ0_indexOf_7cf53 4 = .ok (.ifCond .eq 19, 3) := by decide +kernel
theorem dJ0_indexOf_7cf53_7 : decode cJ0_indexOf_7cf53 7 = .ok (.aload_n 0, 1) := by decide +kernel
theorem dJ0_indexOf_7cf53_8 : decode cJ0_indexOf_7cf53 8 = .ok (.getfield 9, 3) := by decide +kernel
theorem dJ0_indexOf_7cf53_11 : decode cJ0_indexOf_7cf53 11 = .ok (.iload_n 1, 1) := by decide +kernel
theorem dJ0_indexOf_7cf53_12 : decode cJ0_indexOf_7cf53 12 = .ok (.iload_n 2, 1) := by decide +kernel
theorem dJ0_indexOf_7cf53_13 : decode cJ0_indexOf_7cf53 13 = .ok (.aload_n 0, 1) := by decide +kernel
theorem dJ0_indexOf_7cf53_14 : decode cJ0_indexOf_7cf53 14 = .ok (.invokevirtual 505, 3) := by decide +kernel
theorem dJ0_indexOf_7cf53_17 : decode cJ0_indexOf_7cf53 17 = .ok (.invokestatic 637, 3) := by decide +kernel
theorem dJ0_indexOf_7cf53_20 : decode cJ0_indexOf_7cf53 20 = .ok (.goto 16, 3) := by decide +kernel
theorem dJ0_indexOf_7cf53_23 : decode cJ0_indexOf_7cf53 23 = .ok (.aload_n 0, 1) := by decide +kernel
theorem dJ0_indexOf_7cf53_24 : decode cJ0_indexOf_7cf53 24 = .ok (.getfield 9, 3) := by decide +kernel
theorem dJ0_indexOf_7cf53_27 : decode cJ0_indexOf_7cf53 27 = .ok (.iload_n 1, 1) := by decide +kernel
theorem dJ0_indexOf_7cf53_28 : decode cJ0_indexOf_7cf53 28 = .ok (.iload_n 2, 1) := by decide +kernel
theorem dJ0_indexOf_7cf53_29 : decode cJ0_indexOf_7cf53 29 = .ok (.aload_n 0, 1) := by decide +kernel
theorem dJ0_indexOf_7cf53_30 : decode cJ0_indexOf_7cf53 30 = .ok (.invokevirtual 505, 3) := by decide +kernel
theorem dJ0_indexOf_7cf53_33 : decode cJ0_indexOf_7cf53 33 = .ok (.invokestatic 640, 3) := by decide +kernel
theorem dJ0_indexOf_7cf53_36 : decode cJ0_indexOf_7cf53 36 = .ok (.ireturn, 1) := by decide +kernel
theorem sJ0_indexOf_7cf53_0 {a0 a1 a2 : Value} (hv : am_rf a0 = true) (h : am_R E d mJ0_indexOf_7cf53 k n 1 [a0, a1, a2] (a0 :: st) S iv Q) : am_R E d mJ0_indexOf_7cf53 k n 0 [a0, a1, a2] st S iv Q := am_aload_n dJ0_indexOf_7cf53_0 rfl rfl hv h
theorem sJ0_indexOf_7cf53_1 {ls : List Value} {j : Nat} (hj : j < am_by.length) (hst : (st.map fun v => v.category).sum ≤ 8) (hM : am_M E d mJ0_isLatin1_aae02 0 0 [.retAddr j] S iv (am_K3 E (d + 1) mJ0_indexOf_7cf53 k n 1 ls st Q)) : am_R E (d + 1) mJ0_indexOf_7cf53 k n 1 ls (.retAddr j :: st) S iv Q := am_cT' (M' := mJ0_isLatin1_aae02) (as := []) dJ0_indexOf_7cf53_1 rfl wq_12 wq_13 wq_14 wq_5 wq_10 hy_J0_isLatin1_aae02 (by decide) hj hst (by omega) (by omega) hM
theorem sJ0_indexOf_7cf53_4 {ls : List Value} {x : Int32} (kt : x = 0 → am_R E d mJ0_indexOf_7cf53 k n 23 ls st S iv Q) (kf : ¬ x = 0 → am_R E d mJ0_indexOf_7cf53 k n 7 ls st S iv Q) : am_R E d mJ0_indexOf_7cf53 k n 4 ls (.int x :: st) S iv Q := am_if_eq dJ0_indexOf_7cf53_4 (by decide) kt kf
theorem sJ0_indexOf_7cf53_7 {a0 a1 a2 : Value} (hv : am_rf a0 = true) (h : am_R E d mJ0_indexOf_7cf53 k n 8 [a0, a1, a2] (a0 :: st) S iv Q) : am_R E d mJ0_indexOf_7cf53 k n 7 [a0, a1, a2] st S iv Q := am_aload_n dJ0_indexOf_7cf53_7 rfl rfl hv h
theorem sJ0_indexOf_7cf53_8 {ls : List Value} {j : Nat} (hj : j < am_by.length) {u : UInt32} (hu : u.toNat = j) (h : am_R E d mJ0_indexOf_7cf53 k n 11 ls (.float u :: st) S iv Q) : am_R E d mJ0_indexOf_7cf53 k n 8 ls (.retAddr j :: st) S iv Q := am_getSv dJ0_indexOf_7cf53_8 wq_3 hj hu h
theorem sJ0_indexOf_7cf53_11 {a0 a2 : Value} {x : Int32} (h : am_R E d mJ0_indexOf_7cf53 k n 12 [a0, .int x, a2] (.int x :: st) S iv Q) : am_R E d mJ0_indexOf_7cf53 k n 11 [a0, .int x, a2] st S iv Q := am_iload_n dJ0_indexOf_7cf53_11 rfl rfl h
theorem sJ0_indexOf_7cf53_12 {a0 a1 : Value} {x : Int32} (h : am_R E d mJ0_indexOf_7cf53 k n 13 [a0, a1, .int x] (.int x :: st) S iv Q) : am_R E d mJ0_indexOf_7cf53 k n 12 [a0, a1, .int x] st S iv Q := am_iload_n dJ0_indexOf_7cf53_12 rfl rfl h
theorem sJ0_indexOf_7cf53_13 {a0 a1 a2 : Value} (hv : am_rf a0 = true) (h : am_R E d mJ0_indexOf_7cf53 k n 14 [a0, a1, a2] (a0 :: st) S iv Q) : am_R E d mJ0_indexOf_7cf53 k n 13 [a0, a1, a2] st S iv Q := am_aload_n dJ0_indexOf_7cf53_13 rfl rfl hv h
theorem sJ0_indexOf_7cf53_14 {ls : List Value} {j : Nat} (hj : j < am_by.length) (hst : (st.map fun v => v.category).sum ≤ 8) (hM : am_M E d mJ0_length_8abf5 0 0 [.retAddr j] S iv (am_K3 E (d + 1) mJ0_indexOf_7cf53 k n 14 ls st Q)) : am_R E (d + 1) mJ0_indexOf_7cf53 k n 14 ls (.retAddr j :: st) S iv Q := am_cT' (M' := mJ0_length_8abf5) (as := []) dJ0_indexOf_7cf53_14 rfl wq_27 wq_28 wq_29 wq_5 wq_25 hy_J0_length_8abf5 (by decide) hj hst (by omega) (by omega) hM
theorem sJ0_indexOf_7cf53_17 {ls : List Value} {x1 x2 x3 x4 : Value} (hst : (st.map fun v => v.category).sum ≤ 8) (hM : am_M E d mJ1_indexOf_4cfef 0 0 [x1, x2, x3, x4] S iv (am_K3 E (d + 1) mJ0_indexOf_7cf53 k n 17 ls st Q)) : am_R E (d + 1) mJ0_indexOf_7cf53 k n 17 ls (x4 :: x3 :: x2 :: x1 :: st) S iv Q := am_cS (M' := mJ1_indexOf_4cfef) (as := [x1, x2, x3, x4]) dJ0_indexOf_7cf53_17 rfl wq_32 wq_33 wq_16 wq_30 hy_J1_indexOf_4cfef (by decide) hst (by omega) (by omega) hM
theorem sJ0_indexOf_7cf53_17_k {ls : List Value} {x1 x2 x3 x4 : Value} {k' n' : Nat} (hst : (st.map fun v => v.category).sum ≤ 8) (hM : am_M E d mJ1_indexOf_4cfef k' n' [x1, x2, x3, x4] S iv (am_K3 E (d + 1) mJ0_indexOf_7cf53 k n 17 ls st Q)) : am_R E (d + 1) mJ0_indexOf_7cf53 (k' + k) (n' + n) 17 ls (x4 :: x3 :: x2 :: x1 :: st) S iv Q := am_cS (M' := mJ1_indexOf_4cfef) (as := [x1, x2, x3, x4]) dJ0_indexOf_7cf53_17 rfl wq_32 wq_33 wq_16 wq_30 hy_J1_indexOf_4cfef (by decide) hst (by omega) (by omega) hM
theorem sJ0_indexOf_7cf53_20 {ls : List Value} (h : am_R E d mJ0_indexOf_7cf53 k n 36 ls st S iv Q) : am_R E d mJ0_indexOf_7cf53 k n 20 ls st S iv Q := am_goto dJ0_indexOf_7cf53_20 (by decide) h
theorem sJ0_indexOf_7cf53_23 {a0 a1 a2 : Value} (hv : am_rf a0 = true) (h : am_R E d mJ0_indexOf_7cf53 k n 24 [a0, a1, a2] (a0 :: st) S iv Q) : am_R E d mJ0_indexOf_7cf53 k n 23 [a0, a1, a2] st S iv Q := am_aload_n dJ0_indexOf_7cf53_23 rfl rfl hv h
theorem sJ0_indexOf_7cf53_24 {ls : List Value} {j : Nat} (hj : j < am_by.length) {u : UInt32} (hu : u.toNat = j) (h : am_R E d mJ0_indexOf_7cf53 k n 27 ls (.float u :: st) S iv Q) : am_R E d mJ0_indexOf_7cf53 k n 24 ls (.retAddr j :: st) S iv Q := am_getSv dJ0_indexOf_7cf53_24 wq_3 hj hu h
theorem sJ0_indexOf_7cf53_27 {a0 a2 : Value} {x : Int32} (h : am_R E d mJ0_indexOf_7cf53 k n 28 [a0, .int x, a2] (.int x :: st) S iv Q) : am_R E d mJ0_indexOf_7cf53 k n 27 [a0, .int x, a2] st S iv Q := am_iload_n dJ0_indexOf_7cf53_27 rfl rfl h
theorem sJ0_indexOf_7cf53_28 {a0 a1 : Value} {x : Int32} (h : am_R E d mJ0_indexOf_7cf53 k n 29 [a0, a1, .int x] (.int x :: st) S iv Q) : am_R E d mJ0_indexOf_7cf53 k n 28 [a0, a1, .int x] st S iv Q := am_iload_n dJ0_indexOf_7cf53_28 rfl rfl h
theorem sJ0_indexOf_7cf53_29 {a0 a1 a2 : Value} (hv : am_rf a0 = true) (h : am_R E d mJ0_indexOf_7cf53 k n 30 [a0, a1, a2] (a0 :: st) S iv Q) : am_R E d mJ0_indexOf_7cf53 k n 29 [a0, a1, a2] st S iv Q := am_aload_n dJ0_indexOf_7cf53_29 rfl rfl hv h
theorem sJ0_indexOf_7cf53_30 {ls : List Value} {j : Nat} (hj : j < am_by.length) (hst : (st.map fun v => v.category).sum ≤ 8) (hM : am_M E d mJ0_length_8abf5 0 0 [.retAddr j] S iv (am_K3 E (d + 1) mJ0_indexOf_7cf53 k n 30 ls st Q)) : am_R E (d + 1) mJ0_indexOf_7cf53 k n 30 ls (.retAddr j :: st) S iv Q := am_cT' (M' := mJ0_length_8abf5) (as := []) dJ0_indexOf_7cf53_30 rfl wq_27 wq_28 wq_29 wq_5 wq_25 hy_J0_length_8abf5 (by decide) hj hst (by omega) (by omega) hM
theorem sJ0_indexOf_7cf53_36 {ls : List Value} {x : Int32} (h : Q (.inl (some (.int x))) S iv) : am_R E d mJ0_indexOf_7cf53 k n 36 ls [.int x] S iv Q := am_ireturn dJ0_indexOf_7cf53_36 rfl h
theorem dJ0_coder_7d493_0 : decode cJ0_coder_7d493 0 = .ok (.getstatic 38, 3) := by decide +kernel
theorem dJ0_coder_7d493_3 : decode cJ0_coder_7d493 3 = .ok (.ifCond .eq 10, 3) := by decide +kernel
theorem dJ0_coder_7d493_6 : decode cJ0_coder_7d493 6 = .ok (.aload_n 0, 1) := by decide +kernel
theorem dJ0_coder_7d493_7 : decode cJ0_coder_7d493 7 = .ok (.getfield 15, 3) := by decide +kernel
theorem dJ0_coder_7d493_10 : decode cJ0_coder_7d493 10 = .ok (.goto 4, 3) := by decide +kernel
theorem dJ0_coder_7d493_13 : decode cJ0_coder_7d493 13 = .ok (.iconst 1, 1) := by decide +kernel
theorem dJ0_coder_7d493_14 : decode cJ0_coder_7d493 14 = .ok (.ireturn, 1) := by decide +kernel
theorem sJ0_coder_7d493_0 {ls : List Value} (h : am_R E d mJ0_coder_7d493 k n 3 ls (.int 1 :: st) S iv Q) : am_R E d mJ0_coder_7d493 k n 0 ls st S iv Q := am_gets dJ0_coder_7d493_0 wq_34 h
theorem sJ0_coder_7d493_3 {ls : List Value} {x : Int32} (kt : x = 0 → am_R E d mJ0_coder_7d493 k n 13 ls st S iv Q) (kf : ¬ x = 0 → am_R E d mJ0_coder_7d493 k n 6 ls st S iv Q) : am_R E d mJ0_coder_7d493 k n 3 ls (.int x :: st) S iv Q := am_if_eq dJ0_coder_7d493_3 (by decide) kt kf
theorem sJ0_coder_7d493_6 {a0 : Value} (hv : am_rf a0 = true) (h : am_R E d mJ0_coder_7d493 k n 7 [a0] (a0 :: st) S iv Q) : am_R E d mJ0_coder_7d493 k n 6 [a0] st S iv Q := am_aload_n dJ0_coder_7d493_6 rfl rfl hv h
theorem sJ0_coder_7d493_7 {ls : List Value} {j : Nat} (hj : j < am_by.length) (h : am_R E d mJ0_coder_7d493 k n 10 ls (.int 0 :: st) S iv Q) : am_R E d mJ0_coder_7d493 k n 7 ls (.retAddr j :: st) S iv Q := am_getSc dJ0_coder_7d493_7 wq_35 hj h
theorem sJ0_coder_7d493_10 {ls : List Value} (h : am_R E d mJ0_coder_7d493 k n 14 ls st S iv Q) : am_R E d mJ0_coder_7d493 k n 10 ls st S iv Q := am_goto dJ0_coder_7d493_10 (by decide) h
theorem sJ0_coder_7d493_13 {a0 : Value} (h : am_R E d mJ0_coder_7d493 k n 14 [a0] (.int 1 :: st) S iv Q) : am_R E d mJ0_coder_7d493 k n 13 [a0] st S iv Q := am_iconst dJ0_coder_7d493_13 (by decide) h
theorem sJ0_coder_7d493_14 {ls : List Value} {x : Int32} (hn : narrow .byte (.int x) = .int x) (h : Q (.inl (some (.int x))) S iv) : am_R E d mJ0_coder_7d493 k n 14 ls [.int x] S iv Q := am_zreturn dJ0_coder_7d493_14 rfl hn h
theorem dJ0_isLatin1_aae02_0 : decode cJ0_isLatin1_aae02 0 = .ok (.getstatic 38, 3) := by decide +kernel
theorem dJ0_isLatin1_aae02_3 : decode cJ0_isLatin1_aae02 3 = .ok (.ifCond .eq 14, 3) := by decide +kernel
theorem dJ0_isLatin1_aae02_6 : decode cJ0_isLatin1_aae02 6 = .ok (.aload_n 0, 1) := by decide +kernel
theorem dJ0_isLatin1_aae02_7 : decode cJ0_isLatin1_aae02 7 = .ok (.getfield 15, 3) := by decide +kernel
theorem dJ0_isLatin1_aae02_10 : decode cJ0_isLatin1_aae02 10 = .ok (.ifCond .ne 7, 3) := by decide +kernel
theorem dJ0_isLatin1_aae02_13 : decode cJ0_isLatin1_aae02 13 = .ok (.iconst 1, 1) := by decide +kernel
theorem dJ0_isLatin1_aae02_14 : decode cJ0_isLatin1_aae02 14 = .ok (.goto 4, 3) := by decide +kernel
theorem dJ0_isLatin1_aae02_17 : decode cJ0_isLatin1_aae02 17 = .ok (.iconst 0, 1) := by decide +kernel
theorem dJ0_isLatin1_aae02_18 : decode cJ0_isLatin1_aae02 18 = .ok (.ireturn, 1) := by decide +kernel
theorem sJ0_isLatin1_aae02_0 {ls : List Value} (h : am_R E d mJ0_isLatin1_aae02 k n 3 ls (.int 1 :: st) S iv Q) : am_R E d mJ0_isLatin1_aae02 k n 0 ls st S iv Q := am_gets dJ0_isLatin1_aae02_0 wq_34 h
theorem sJ0_isLatin1_aae02_3 {ls : List Value} {x : Int32} (kt : x = 0 → am_R E d mJ0_isLatin1_aae02 k n 17 ls st S iv Q) (kf : ¬ x = 0 → am_R E d mJ0_isLatin1_aae02 k n 6 ls st S iv Q) : am_R E d mJ0_isLatin1_aae02 k n 3 ls (.int x :: st) S iv Q := am_if_eq dJ0_isLatin1_aae02_3 (by decide) kt kf
theorem sJ0_isLatin1_aae02_6 {a0 : Value} (hv : am_rf a0 = true) (h : am_R E d mJ0_isLatin1_aae02 k n 7 [a0] (a0 :: st) S iv Q) : am_R E d mJ0_isLatin1_aae02 k n 6 [a0] st S iv Q := am_aload_n dJ0_isLatin1_aae02_6 rfl rfl hv h
theorem sJ0_isLatin1_aae02_7 {ls : List Value} {j : Nat} (hj : j < am_by.length) (h : am_R E d mJ0_isLatin1_aae02 k n 10 ls (.int 0 :: st) S iv Q) : am_R E d mJ0_isLatin1_aae02 k n 7 ls (.retAddr j :: st) S iv Q := am_getSc dJ0_isLatin1_aae02_7 wq_35 hj h
theorem sJ0_isLatin1_aae02_10 {ls : List Value} {x : Int32} (kt : ¬ x = 0 → am_R E d mJ0_isLatin1_aae02 k n 17 ls st S iv Q) (kf : x = 0 → am_R E d mJ0_isLatin1_aae02 k n 13 ls st S iv Q) : am_R E d mJ0_isLatin1_aae02 k n 10 ls (.int x :: st) S iv Q := am_if_ne dJ0_isLatin1_aae02_10 (by decide) kt kf
theorem sJ0_isLatin1_aae02_13 {a0 : Value} (h : am_R E d mJ0_isLatin1_aae02 k n 14 [a0] (.int 1 :: st) S iv Q) : am_R E d mJ0_isLatin1_aae02 k n 13 [a0] st S iv Q := am_iconst dJ0_isLatin1_aae02_13 (by decide) h
theorem sJ0_isLatin1_aae02_14 {ls : List Value} (h : am_R E d mJ0_isLatin1_aae02 k n 18 ls st S iv Q) : am_R E d mJ0_isLatin1_aae02 k n 14 ls st S iv Q := am_goto dJ0_isLatin1_aae02_14 (by decide) h
theorem sJ0_isLatin1_aae02_17 {a0 : Value} (h : am_R E d mJ0_isLatin1_aae02 k n 18 [a0] (.int 0 :: st) S iv Q) : am_R E d mJ0_isLatin1_aae02 k n 17 [a0] st S iv Q := am_iconst dJ0_isLatin1_aae02_17 (by decide) h
theorem sJ0_isLatin1_aae02_18 {ls : List Value} {x : Int32} (hn : narrow .boolean (.int x) = .int x) (h : Q (.inl (some (.int x))) S iv) : am_R E d mJ0_isLatin1_aae02 k n 18 ls [.int x] S iv Q := am_zreturn dJ0_isLatin1_aae02_18 rfl hn h
theorem dJ0_checkIndex_df160_0 : decode cJ0_checkIndex_df160 0 = .ok (.iload_n 0, 1) := by decide +kernel
theorem dJ0_checkIndex_df160_1 : decode cJ0_checkIndex_df160 1 = .ok (.iload_n 1, 1) := by decide +kernel
theorem dJ0_checkIndex_df160_2 : decode cJ0_checkIndex_df160 2 = .ok (.getstatic 1053, 3) := by decide +kernel
theorem dJ0_checkIndex_df160_5 : decode cJ0_checkIndex_df160 5 = .ok (.invokestatic 1059, 3) := by decide +kernel
theorem dJ0_checkIndex_df160_8 : decode cJ0_checkIndex_df160 8 = .ok (.pop, 1) := by decide +kernel
theorem dJ0_checkIndex_df160_9 : decode cJ0_checkIndex_df160 9 = .ok (.return_, 1) := by decide +kernel
theorem sJ0_checkIndex_df160_0 {a1 : Value} {x : Int32} (h : am_R E d mJ0_checkIndex_df160 k n 1 [.int x, a1] (.int x :: st) S iv Q) : am_R E d mJ0_checkIndex_df160 k n 0 [.int x, a1] st S iv Q := am_iload_n dJ0_checkIndex_df160_0 rfl rfl h
theorem sJ0_checkIndex_df160_1 {a0 : Value} {x : Int32} (h : am_R E d mJ0_checkIndex_df160 k n 2 [a0, .int x] (.int x :: st) S iv Q) : am_R E d mJ0_checkIndex_df160 k n 1 [a0, .int x] st S iv Q := am_iload_n dJ0_checkIndex_df160_1 rfl rfl h
theorem sJ0_checkIndex_df160_5 {ls : List Value} {x1 x2 x3 : Value} (hst : (st.map fun v => v.category).sum ≤ 8) (hM : am_M E d mJ3_checkIndex_8e157 0 0 [x1, x2, x3] S iv (am_K3 E (d + 1) mJ0_checkIndex_df160 k n 5 ls st Q)) : am_R E (d + 1) mJ0_checkIndex_df160 k n 5 ls (x3 :: x2 :: x1 :: st) S iv Q := am_cS (M' := mJ3_checkIndex_8e157) (as := [x1, x2, x3]) dJ0_checkIndex_df160_5 rfl wq_39 wq_40 wq_37 wq_36 hy_J3_checkIndex_8e157 (by decide) hst (by omega) (by omega) hM
theorem sJ0_checkIndex_df160_5_k {ls : List Value} {x1 x2 x3 : Value} {k' n' : Nat} (hst : (st.map fun v => v.category).sum ≤ 8) (hM : am_M E d mJ3_checkIndex_8e157 k' n' [x1, x2, x3] S iv (am_K3 E (d + 1) mJ0_checkIndex_df160 k n 5 ls st Q)) : am_R E (d + 1) mJ0_checkIndex_df160 (k' + k) (n' + n) 5 ls (x3 :: x2 :: x1 :: st) S iv Q := am_cS (M' := mJ3_checkIndex_8e157) (as := [x1, x2, x3]) dJ0_checkIndex_df160_5 rfl wq_39 wq_40 wq_37 wq_36 hy_J3_checkIndex_8e157 (by decide) hst (by omega) (by omega) hM
theorem sJ0_checkIndex_df160_8 {ls : List Value} {x : Value} (hv : x.category = 1) (h : am_R E d mJ0_checkIndex_df160 k n 9 ls st S iv Q) : am_R E d mJ0_checkIndex_df160 k n 8 ls (x :: st) S iv Q := am_pop dJ0_checkIndex_df160_8 hv h
theorem sJ0_checkIndex_df160_9 {ls : List Value} (h : Q (.inl none) S iv) : am_R E d mJ0_checkIndex_df160 k n 9 ls [] S iv Q := am_return dJ0_checkIndex_df160_9 rfl h
theorem dJ1_charAt_3b067_0 : decode cJ1_charAt_3b067 0 = .ok (.iload_n 1, 1) := by decide +kernel
theorem dJ1_charAt_3b067_1 : decode cJ1_charAt_3b067 1 = .ok (.aload_n 0, 1) := by decide +kernel
theorem dJ1_charAt_3b067_2 : decode cJ1_charAt_3b067 2 = .ok (.arraylength, 1) := by decide +kernel
theorem dJ1_charAt_3b067_3 : decode cJ1_charAt_3b067 3 = .ok (.invokestatic 9, 3) := by decide +kernel
theorem dJ1_charAt_3b067_6 : decode cJ1_charAt_3b067 6 = .ok (.aload_n 0, 1) := by decide +kernel
theorem dJ1_charAt_3b067_7 : decode cJ1_charAt_3b067 7 = .ok (.iload_n 1, 1) := by decide +kernel
theorem dJ1_charAt_3b067_8 : decode cJ1_charAt_3b067 8 = .ok (.baload, 1) := by decide +kernel
theorem dJ1_charAt_3b067_9 : decode cJ1_charAt_3b067 9 = .ok (.sipush 255, 3) := by decide +kernel
theorem dJ1_charAt_3b067_12 : decode cJ1_charAt_3b067 12 = .ok (.iand, 1) := by decide +kernel
theorem dJ1_charAt_3b067_13 : decode cJ1_charAt_3b067 13 = .ok (.i2c, 1) := by decide +kernel
theorem dJ1_charAt_3b067_14 : decode cJ1_charAt_3b067 14 = .ok (.ireturn, 1) := by decide +kernel
theorem sJ1_charAt_3b067_0 {a0 : Value} {x : Int32} (h : am_R E d mJ1_charAt_3b067 k n 1 [a0, .int x] (.int x :: st) S iv Q) : am_R E d mJ1_charAt_3b067 k n 0 [a0, .int x] st S iv Q := am_iload_n dJ1_charAt_3b067_0 rfl rfl h
theorem sJ1_charAt_3b067_1 {a0 a1 : Value} (hv : am_rf a0 = true) (h : am_R E d mJ1_charAt_3b067 k n 2 [a0, a1] (a0 :: st) S iv Q) : am_R E d mJ1_charAt_3b067 k n 1 [a0, a1] st S iv Q := am_aload_n dJ1_charAt_3b067_1 rfl rfl hv h
theorem sJ1_charAt_3b067_2 {ls : List Value} {u : UInt32} (hj : u.toNat < am_by.length) (h : am_R E d mJ1_charAt_3b067 k n 3 ls (.int (Int32.ofNat (am_by.getD u.toNat []).length) :: st) S iv Q) : am_R E d mJ1_charAt_3b067 k n 2 ls (.float u :: st) S iv Q := am_Salen dJ1_charAt_3b067_2 hj h
theorem sJ1_charAt_3b067_3 {ls : List Value} {x1 x2 : Value} (hst : (st.map fun v => v.category).sum ≤ 8) (hM : am_M E d mJ0_checkIndex_df160 0 0 [x1, x2] S iv (am_K3 E (d + 1) mJ1_charAt_3b067 k n 3 ls st Q)) : am_R E (d + 1) mJ1_charAt_3b067 k n 3 ls (x2 :: x1 :: st) S iv Q := am_cS (M' := mJ0_checkIndex_df160) (as := [x1, x2]) dJ1_charAt_3b067_3 rfl wq_43 wq_44 wq_5 wq_41 hy_J0_checkIndex_df160 (by decide) hst (by omega) (by omega) hM
theorem sJ1_charAt_3b067_3_k {ls : List Value} {x1 x2 : Value} {k' n' : Nat} (hst : (st.map fun v => v.category).sum ≤ 8) (hM : am_M E d mJ0_checkIndex_df160 k' n' [x1, x2] S iv (am_K3 E (d + 1) mJ1_charAt_3b067 k n 3 ls st Q)) : am_R E (d + 1) mJ1_charAt_3b067 (k' + k) (n' + n) 3 ls (x2 :: x1 :: st) S iv Q := am_cS (M' := mJ0_checkIndex_df160) (as := [x1, x2]) dJ1_charAt_3b067_3 rfl wq_43 wq_44 wq_5 wq_41 hy_J0_checkIndex_df160 (by decide) hst (by omega) (by omega) hM
theorem sJ1_charAt_3b067_6 {a0 a1 : Value} (hv : am_rf a0 = true) (h : am_R E d mJ1_charAt_3b067 k n 7 [a0, a1] (a0 :: st) S iv Q) : am_R E d mJ1_charAt_3b067 k n 6 [a0, a1] st S iv Q := am_aload_n dJ1_charAt_3b067_6 rfl rfl hv h
theorem sJ1_charAt_3b067_7 {a0 : Value} {x : Int32} (h : am_R E d mJ1_charAt_3b067 k n 8 [a0, .int x] (.int x :: st) S iv Q) : am_R E d mJ1_charAt_3b067 k n 7 [a0, .int x] st S iv Q := am_iload_n dJ1_charAt_3b067_7 rfl rfl h
theorem sJ1_charAt_3b067_8 {ls : List Value} {u : UInt32} {i : Int32} (hj : u.toNat < am_by.length) (hi : vp_in i (am_by.getD u.toNat []).length) (h : am_R E d mJ1_charAt_3b067 k n 9 ls (.int ((am_by.getD u.toNat []).getD i.toNatClampNeg 0) :: st) S iv Q) : am_R E d mJ1_charAt_3b067 k n 8 ls (.int i :: .float u :: st) S iv Q := am_Sbaload dJ1_charAt_3b067_8 hj hi h
theorem sJ1_charAt_3b067_9 {a0 a1 : Value} (h : am_R E d mJ1_charAt_3b067 k n 12 [a0, a1] (.int 255 :: st) S iv Q) : am_R E d mJ1_charAt_3b067 k n 9 [a0, a1] st S iv Q := am_sipush dJ1_charAt_3b067_9 (by decide) h
theorem sJ1_charAt_3b067_12 {ls : List Value} {x y : Int32} (h : am_R E d mJ1_charAt_3b067 k n 13 ls (.int (x &&& y) :: st) S iv Q) : am_R E d mJ1_charAt_3b067 k n 12 ls (.int y :: .int x :: st) S iv Q := am_iand dJ1_charAt_3b067_12 h
theorem sJ1_charAt_3b067_13 {ls : List Value} {x : Int32} (h : am_R E d mJ1_charAt_3b067 k n 14 ls (.int (x.toUInt32 % 65536).toInt32 :: st) S iv Q) : am_R E d mJ1_charAt_3b067 k n 13 ls (.int x :: st) S iv Q := am_i2c dJ1_charAt_3b067_13 h
theorem sJ1_charAt_3b067_14 {ls : List Value} {x : Int32} (hn : narrow .char (.int x) = .int x) (h : Q (.inl (some (.int x))) S iv) : am_R E d mJ1_charAt_3b067 k n 14 ls [.int x] S iv Q := am_zreturn dJ1_charAt_3b067_14 rfl hn h
theorem dJ1_canEncode_9a6ad_0 : decode cJ1_canEncode_9a6ad 0 = .ok (.iload_n 0, 1) := by decide +kernel
theorem dJ1_canEncode_9a6ad_1 : decode cJ1_canEncode_9a6ad 1 = .ok (.ifCond .lt 14, 3) := by decide +kernel
theorem dJ1_canEncode_9a6ad_4 : decode cJ1_canEncode_9a6ad 4 = .ok (.iload_n 0, 1) := by decide +kernel
theorem dJ1_canEncode_9a6ad_5 : decode cJ1_canEncode_9a6ad 5 = .ok (.sipush 255, 3) := by decide +kernel
theorem dJ1_canEncode_9a6ad_8 : decode cJ1_canEncode_9a6ad 8 = .ok (.if_icmp .gt 7, 3) := by decide +kernel
theorem dJ1_canEncode_9a6ad_11 : decode cJ1_canEncode_9a6ad 11 = .ok (.iconst 1, 1) := by decide +kernel
theorem dJ1_canEncode_9a6ad_12 : decode cJ1_canEncode_9a6ad 12 = .ok (.goto 4, 3) := by decide +kernel
theorem dJ1_canEncode_9a6ad_15 : decode cJ1_canEncode_9a6ad 15 = .ok (.iconst 0, 1) := by decide +kernel
theorem dJ1_canEncode_9a6ad_16 : decode cJ1_canEncode_9a6ad 16 = .ok (.ireturn, 1) := by decide +kernel
theorem sJ1_canEncode_9a6ad_0 {x : Int32} (h : am_R E d mJ1_canEncode_9a6ad k n 1 [.int x] (.int x :: st) S iv Q) : am_R E d mJ1_canEncode_9a6ad k n 0 [.int x] st S iv Q := am_iload_n dJ1_canEncode_9a6ad_0 rfl rfl h
theorem sJ1_canEncode_9a6ad_1 {ls : List Value} {x : Int32} (kt : x < 0 → am_R E d mJ1_canEncode_9a6ad k n 15 ls st S iv Q) (kf : ¬ x < 0 → am_R E d mJ1_canEncode_9a6ad k n 4 ls st S iv Q) : am_R E d mJ1_canEncode_9a6ad k n 1 ls (.int x :: st) S iv Q := am_if_lt dJ1_canEncode_9a6ad_1 (by decide) kt kf
theorem sJ1_canEncode_9a6ad_4 {x : Int32} (h : am_R E d mJ1_canEncode_9a6ad k n 5 [.int x] (.int x :: st) S iv Q) : am_R E d mJ1_canEncode_9a6ad k n 4 [.int x] st S iv Q := am_iload_n dJ1_canEncode_9a6ad_4 rfl rfl h
theorem sJ1_canEncode_9a6ad_5 {a0 : Value} (h : am_R E d mJ1_canEncode_9a6ad k n 8 [a0] (.int 255 :: st) S iv Q) : am_R E d mJ1_canEncode_9a6ad k n 5 [a0] st S iv Q := am_sipush dJ1_canEncode_9a6ad_5 (by decide) h
theorem sJ1_canEncode_9a6ad_8 {ls : List Value} {x y : Int32} (kt : y < x → am_R E d mJ1_canEncode_9a6ad k n 15 ls st S iv Q) (kf : ¬ y < x → am_R E d mJ1_canEncode_9a6ad k n 11 ls st S iv Q) : am_R E d mJ1_canEncode_9a6ad k n 8 ls (.int y :: .int x :: st) S iv Q := am_icmp_gt dJ1_canEncode_9a6ad_8 (by decide) kt kf
theorem sJ1_canEncode_9a6ad_11 {a0 : Value} (h : am_R E d mJ1_canEncode_9a6ad k n 12 [a0] (.int 1 :: st) S iv Q) : am_R E d mJ1_canEncode_9a6ad k n 11 [a0] st S iv Q := am_iconst dJ1_canEncode_9a6ad_11 (by decide) h
theorem sJ1_canEncode_9a6ad_12 {ls : List Value} (h : am_R E d mJ1_canEncode_9a6ad k n 16 ls st S iv Q) : am_R E d mJ1_canEncode_9a6ad k n 12 ls st S iv Q := am_goto dJ1_canEncode_9a6ad_12 (by decide) h
theorem sJ1_canEncode_9a6ad_15 {a0 : Value} (h : am_R E d mJ1_canEncode_9a6ad k n 16 [a0] (.int 0 :: st) S iv Q) : am_R E d mJ1_canEncode_9a6ad k n 15 [a0] st S iv Q := am_iconst dJ1_canEncode_9a6ad_15 (by decide) h
theorem sJ1_canEncode_9a6ad_16 {ls : List Value} {x : Int32} (hn : narrow .boolean (.int x) = .int x) (h : Q (.inl (some (.int x))) S iv) : am_R E d mJ1_canEncode_9a6ad k n 16 ls [.int x] S iv Q := am_zreturn dJ1_canEncode_9a6ad_16 rfl hn h
theorem dJ1_indexOf_4cfef_0 : decode cJ1_indexOf_4cfef 0 = .ok (.iload_n 1, 1) := by decide +kernel
theorem dJ1_indexOf_4cfef_1 : decode cJ1_indexOf_4cfef 1 = .ok (.invokestatic 88, 3) := by decide +kernel
theorem dJ1_indexOf_4cfef_4 : decode cJ1_indexOf_4cfef 4 = .ok (.ifCond .ne 5, 3) := by decide +kernel
theorem dJ1_indexOf_4cfef_7 : decode cJ1_indexOf_4cfef 7 = .ok (.iconst (-1), 1) := by decide +kernel
theorem dJ1_indexOf_4cfef_8 : decode cJ1_indexOf_4cfef 8 = .ok (.ireturn, 1) := by decide +kernel
theorem dJ1_indexOf_4cfef_9 : decode cJ1_indexOf_4cfef 9 = .ok (.iload_n 2, 1) := by decide +kernel
theorem dJ1_indexOf_4cfef_10 : decode cJ1_indexOf_4cfef 10 = .ok (.iconst 0, 1) := by decide +kernel
theorem dJ1_indexOf_4cfef_11 : decode cJ1_indexOf_4cfef 11 = .ok (.invokestatic 92, 3) := by decide +kernel
theorem dJ1_indexOf_4cfef_14 : decode cJ1_indexOf_4cfef 14 = .ok (.istore_n 2, 1) := by decide +kernel
theorem dJ1_indexOf_4cfef_15 : decode cJ1_indexOf_4cfef 15 = .ok (.iload_n 3, 1) := by decide +kernel
theorem dJ1_indexOf_4cfef_16 : decode cJ1_indexOf_4cfef 16 = .ok (.aload_n 0, 1) := by decide +kernel
theorem dJ1_indexOf_4cfef_17 : decode cJ1_indexOf_4cfef 17 = .ok (.arraylength, 1) := by decide +kernel
theorem dJ1_indexOf_4cfef_18 : decode cJ1_indexOf_4cfef 18 = .ok (.invokestatic 38, 3) := by decide +kernel
theorem dJ1_indexOf_4cfef_21 : decode cJ1_indexOf_4cfef 21 = .ok (.istore_n 3, 1) := by decide +kernel
theorem dJ1_indexOf_4cfef_22 : decode cJ1_indexOf_4cfef 22 = .ok (.iload_n 2, 1) := by decide +kernel
theorem dJ1_indexOf_4cfef_23 : decode cJ1_indexOf_4cfef 23 = .ok (.iload_n 3, 1) := by decide +kernel
theorem dJ1_indexOf_4cfef_24 : decode cJ1_indexOf_4cfef 24 = .ok (.if_icmp .lt 5, 3) := by decide +kernel
theorem dJ1_indexOf_4cfef_27 : decode cJ1_indexOf_4cfef 27 = .ok (.iconst (-1), 1) := by decide +kernel
theorem dJ1_indexOf_4cfef_28 : decode cJ1_indexOf_4cfef 28 = .ok (.ireturn, 1) := by decide +kernel
theorem dJ1_indexOf_4cfef_29 : decode cJ1_indexOf_4cfef 29 = .ok (.aload_n 0, 1) := by decide +kernel
theorem dJ1_indexOf_4cfef_30 : decode cJ1_indexOf_4cfef 30 = .ok (.iload_n 1, 1) := by decide +kernel
theorem dJ1_indexOf_4cfef_31 : decode cJ1_indexOf_4cfef 31 = .ok (.iload_n 2, 1) := by decide +kernel
theorem dJ1_indexOf_4cfef_32 : decode cJ1_indexOf_4cfef 32 = .ok (.iload_n 3, 1) := by decide +kernel
theorem dJ1_indexOf_4cfef_33 : decode cJ1_indexOf_4cfef 33 = .ok (.invokestatic 95, 3) := by decide +kernel
theorem dJ1_indexOf_4cfef_36 : decode cJ1_indexOf_4cfef 36 = .ok (.ireturn, 1) := by decide +kernel
theorem sJ1_indexOf_4cfef_0 {a0 a2 a3 : Value} {x : Int32} (h : am_R E d mJ1_indexOf_4cfef k n 1 [a0, .int x, a2, a3] (.int x :: st) S iv Q) : am_R E d mJ1_indexOf_4cfef k n 0 [a0, .int x, a2, a3] st S iv Q := am_iload_n dJ1_indexOf_4cfef_0 rfl rfl h
theorem sJ1_indexOf_4cfef_1 {ls : List Value} {x1 : Value} (hst : (st.map fun v => v.category).sum ≤ 8) (hM : am_M E d mJ1_canEncode_9a6ad 0 0 [x1] S iv (am_K3 E (d + 1) mJ1_indexOf_4cfef k n 1 ls st Q)) : am_R E (d + 1) mJ1_indexOf_4cfef k n 1 ls (x1 :: st) S iv Q := am_cS (M' := mJ1_canEncode_9a6ad) (as := [x1]) dJ1_indexOf_4cfef_1 rfl wq_47 wq_48 wq_16 wq_45 hy_J1_canEncode_9a6ad (by decide) hst (by omega) (by omega) hM
theorem sJ1_indexOf_4cfef_1_k {ls : List Value} {x1 : Value} {k' n' : Nat} (hst : (st.map fun v => v.category).sum ≤ 8) (hM : am_M E d mJ1_canEncode_9a6ad k' n' [x1] S iv (am_K3 E (d + 1) mJ1_indexOf_4cfef k n 1 ls st Q)) : am_R E (d + 1) mJ1_indexOf_4cfef (k' + k) (n' + n) 1 ls (x1 :: st) S iv Q := am_cS (M' := mJ1_canEncode_9a6ad) (as := [x1]) dJ1_indexOf_4cfef_1 rfl wq_47 wq_48 wq_16 wq_45 hy_J1_canEncode_9a6ad (by decide) hst (by omega) (by omega) hM
theorem sJ1_indexOf_4cfef_4 {ls : List Value} {x : Int32} (kt : ¬ x = 0 → am_R E d mJ1_indexOf_4cfef k n 9 ls st S iv Q) (kf : x = 0 → am_R E d mJ1_indexOf_4cfef k n 7 ls st S iv Q) : am_R E d mJ1_indexOf_4cfef k n 4 ls (.int x :: st) S iv Q := am_if_ne dJ1_indexOf_4cfef_4 (by decide) kt kf
theorem sJ1_indexOf_4cfef_7 {a0 a1 a2 a3 : Value} (h : am_R E d mJ1_indexOf_4cfef k n 8 [a0, a1, a2, a3] (.int (-1) :: st) S iv Q) : am_R E d mJ1_indexOf_4cfef k n 7 [a0, a1, a2, a3] st S iv Q := am_iconst dJ1_indexOf_4cfef_7 (by decide) h
theorem sJ1_indexOf_4cfef_8 {ls : List Value} {x : Int32} (h : Q (.inl (some (.int x))) S iv) : am_R E d mJ1_indexOf_4cfef k n 8 ls [.int x] S iv Q := am_ireturn dJ1_indexOf_4cfef_8 rfl h
theorem sJ1_indexOf_4cfef_9 {a0 a1 a3 : Value} {x : Int32} (h : am_R E d mJ1_indexOf_4cfef k n 10 [a0, a1, .int x, a3] (.int x :: st) S iv Q) : am_R E d mJ1_indexOf_4cfef k n 9 [a0, a1, .int x, a3] st S iv Q := am_iload_n dJ1_indexOf_4cfef_9 rfl rfl h
theorem sJ1_indexOf_4cfef_10 {a0 a1 a2 a3 : Value} (h : am_R E d mJ1_indexOf_4cfef k n 11 [a0, a1, a2, a3] (.int 0 :: st) S iv Q) : am_R E d mJ1_indexOf_4cfef k n 10 [a0, a1, a2, a3] st S iv Q := am_iconst dJ1_indexOf_4cfef_10 (by decide) h
theorem sJ1_indexOf_4cfef_11 {ls : List Value} {x1 x2 : Value} (hst : (st.map fun v => v.category).sum ≤ 8) (hM : am_M E d mJ9_max_7cf53 0 0 [x1, x2] S iv (am_K3 E (d + 1) mJ1_indexOf_4cfef k n 11 ls st Q)) : am_R E (d + 1) mJ1_indexOf_4cfef k n 11 ls (x2 :: x1 :: st) S iv Q := am_cS (M' := mJ9_max_7cf53) (as := [x1, x2]) dJ1_indexOf_4cfef_11 rfl wq_52 wq_53 wq_50 wq_49 hy_J9_max_7cf53 (by decide) hst (by omega) (by omega) hM
theorem sJ1_indexOf_4cfef_11_k {ls : List Value} {x1 x2 : Value} {k' n' : Nat} (hst : (st.map fun v => v.category).sum ≤ 8) (hM : am_M E d mJ9_max_7cf53 k' n' [x1, x2] S iv (am_K3 E (d + 1) mJ1_indexOf_4cfef k n 11 ls st Q)) : am_R E (d + 1) mJ1_indexOf_4cfef (k' + k) (n' + n) 11 ls (x2 :: x1 :: st) S iv Q := am_cS (M' := mJ9_max_7cf53) (as := [x1, x2]) dJ1_indexOf_4cfef_11 rfl wq_52 wq_53 wq_50 wq_49 hy_J9_max_7cf53 (by decide) hst (by omega) (by omega) hM
theorem sJ1_indexOf_4cfef_14 {a0 a1 a2 a3 : Value} {x : Int32} (h : am_R E d mJ1_indexOf_4cfef k n 15 [a0, a1, .int x, a3] st S iv Q) : am_R E d mJ1_indexOf_4cfef k n 14 [a0, a1, a2, a3] (.int x :: st) S iv Q := am_istore_n dJ1_indexOf_4cfef_14 rfl (by decide) h
theorem sJ1_indexOf_4cfef_15 {a0 a1 a2 : Value} {x : Int32} (h : am_R E d mJ1_indexOf_4cfef k n 16 [a0, a1, a2, .int x] (.int x :: st) S iv Q) : am_R E d mJ1_indexOf_4cfef k n 15 [a0, a1, a2, .int x] st S iv Q := am_iload_n dJ1_indexOf_4cfef_15 rfl rfl h
theorem sJ1_indexOf_4cfef_16 {a0 a1 a2 a3 : Value} (hv : am_rf a0 = true) (h : am_R E d mJ1_indexOf_4cfef k n 17 [a0, a1, a2, a3] (a0 :: st) S iv Q) : am_R E d mJ1_indexOf_4cfef k n 16 [a0, a1, a2, a3] st S iv Q := am_aload_n dJ1_indexOf_4cfef_16 rfl rfl hv h
theorem sJ1_indexOf_4cfef_17 {ls : List Value} {u : UInt32} (hj : u.toNat < am_by.length) (h : am_R E d mJ1_indexOf_4cfef k n 18 ls (.int (Int32.ofNat (am_by.getD u.toNat []).length) :: st) S iv Q) : am_R E d mJ1_indexOf_4cfef k n 17 ls (.float u :: st) S iv Q := am_Salen dJ1_indexOf_4cfef_17 hj h
theorem sJ1_indexOf_4cfef_18 {ls : List Value} {x1 x2 : Value} (hst : (st.map fun v => v.category).sum ≤ 8) (hM : am_M E d mJ9_min_7cf53 0 0 [x1, x2] S iv (am_K3 E (d + 1) mJ1_indexOf_4cfef k n 18 ls st Q)) : am_R E (d + 1) mJ1_indexOf_4cfef k n 18 ls (x2 :: x1 :: st) S iv Q := am_cS (M' := mJ9_min_7cf53) (as := [x1, x2]) dJ1_indexOf_4cfef_18 rfl wq_56 wq_57 wq_50 wq_54 hy_J9_min_7cf53 (by decide) hst (by omega) (by omega) hM
theorem sJ1_indexOf_4cfef_18_k {ls : List Value} {x1 x2 : Value} {k' n' : Nat} (hst : (st.map fun v => v.category).sum ≤ 8) (hM : am_M E d mJ9_min_7cf53 k' n' [x1, x2] S iv (am_K3 E (d + 1) mJ1_indexOf_4cfef k n 18 ls st Q)) : am_R E (d + 1) mJ1_indexOf_4cfef (k' + k) (n' + n) 18 ls (x2 :: x1 :: st) S iv Q := am_cS (M' := mJ9_min_7cf53) (as := [x1, x2]) dJ1_indexOf_4cfef_18 rfl wq_56 wq_57 wq_50 wq_54 hy_J9_min_7cf53 (by decide) hst (by omega) (by omega) hM
theorem sJ1_indexOf_4cfef_21 {a0 a1 a2 a3 : Value} {x : Int32} (h : am_R E d mJ1_indexOf_4cfef k n 22 [a0, a1, a2, .int x] st S iv Q) : am_R E d mJ1_indexOf_4cfef k n 21 [a0, a1, a2, a3] (.int x :: st) S iv Q := am_istore_n dJ1_indexOf_4cfef_21 rfl (by decide) h
theorem sJ1_indexOf_4cfef_22 {a0 a1 a3 : Value} {x : Int32} (h : am_R E d mJ1_indexOf_4cfef k n 23 [a0, a1, .int x, a3] (.int x :: st) S iv Q) : am_R E d mJ1_indexOf_4cfef k n 22 [a0, a1, .int x, a3] st S iv Q := am_iload_n dJ1_indexOf_4cfef_22 rfl rfl h
theorem sJ1_indexOf_4cfef_23 {a0 a1 a2 : Value} {x : Int32} (h : am_R E d mJ1_indexOf_4cfef k n 24 [a0, a1, a2, .int x] (.int x :: st) S iv Q) : am_R E d mJ1_indexOf_4cfef k n 23 [a0, a1, a2, .int x] st S iv Q := am_iload_n dJ1_indexOf_4cfef_23 rfl rfl h
theorem sJ1_indexOf_4cfef_24 {ls : List Value} {x y : Int32} (kt : x < y → am_R E d mJ1_indexOf_4cfef k n 29 ls st S iv Q) (kf : ¬ x < y → am_R E d mJ1_indexOf_4cfef k n 27 ls st S iv Q) : am_R E d mJ1_indexOf_4cfef k n 24 ls (.int y :: .int x :: st) S iv Q := am_icmp_lt dJ1_indexOf_4cfef_24 (by decide) kt kf
theorem sJ1_indexOf_4cfef_27 {a0 a1 a2 a3 : Value} (h : am_R E d mJ1_indexOf_4cfef k n 28 [a0, a1, a2, a3] (.int (-1) :: st) S iv Q) : am_R E d mJ1_indexOf_4cfef k n 27 [a0, a1, a2, a3] st S iv Q := am_iconst dJ1_indexOf_4cfef_27 (by decide) h
theorem sJ1_indexOf_4cfef_28 {ls : List Value} {x : Int32} (h : Q (.inl (some (.int x))) S iv) : am_R E d mJ1_indexOf_4cfef k n 28 ls [.int x] S iv Q := am_ireturn dJ1_indexOf_4cfef_28 rfl h
theorem sJ1_indexOf_4cfef_29 {a0 a1 a2 a3 : Value} (hv : am_rf a0 = true) (h : am_R E d mJ1_indexOf_4cfef k n 30 [a0, a1, a2, a3] (a0 :: st) S iv Q) : am_R E d mJ1_indexOf_4cfef k n 29 [a0, a1, a2, a3] st S iv Q := am_aload_n dJ1_indexOf_4cfef_29 rfl rfl hv h
theorem sJ1_indexOf_4cfef_30 {a0 a2 a3 : Value} {x : Int32} (h : am_R E d mJ1_indexOf_4cfef k n 31 [a0, .int x, a2, a3] (.int x :: st) S iv Q) : am_R E d mJ1_indexOf_4cfef k n 30 [a0, .int x, a2, a3] st S iv Q := am_iload_n dJ1_indexOf_4cfef_30 rfl rfl h
theorem sJ1_indexOf_4cfef_31 {a0 a1 a3 : Value} {x : Int32} (h : am_R E d mJ1_indexOf_4cfef k n 32 [a0, a1, .int x, a3] (.int x :: st) S iv Q) : am_R E d mJ1_indexOf_4cfef k n 31 [a0, a1, .int x, a3] st S iv Q := am_iload_n dJ1_indexOf_4cfef_31 rfl rfl h
theorem sJ1_indexOf_4cfef_32 {a0 a1 a2 : Value} {x : Int32} (h : am_R E d mJ1_indexOf_4cfef k n 33 [a0, a1, a2, .int x] (.int x :: st) S iv Q) : am_R E d mJ1_indexOf_4cfef k n 32 [a0, a1, a2, .int x] st S iv Q := am_iload_n dJ1_indexOf_4cfef_32 rfl rfl h
theorem sJ1_indexOf_4cfef_33 {ls : List Value} {x1 x2 x3 x4 : Value} (hst : (st.map fun v => v.category).sum ≤ 8) (hM : am_M E d mJ1_indexOfChar_4cfef 0 0 [x1, x2, x3, x4] S iv (am_K3 E (d + 1) mJ1_indexOf_4cfef k n 33 ls st Q)) : am_R E (d + 1) mJ1_indexOf_4cfef k n 33 ls (x4 :: x3 :: x2 :: x1 :: st) S iv Q := am_cS (M' := mJ1_indexOfChar_4cfef) (as := [x1, x2, x3, x4]) dJ1_indexOf_4cfef_33 rfl wq_60 wq_61 wq_16 wq_58 hy_J1_indexOfChar_4cfef (by decide) hst (by omega) (by omega) hM
theorem sJ1_indexOf_4cfef_33_k {ls : List Value} {x1 x2 x3 x4 : Value} {k' n' : Nat} (hst : (st.map fun v => v.category).sum ≤ 8) (hM : am_M E d mJ1_indexOfChar_4cfef k' n' [x1, x2, x3, x4] S iv (am_K3 E (d + 1) mJ1_indexOf_4cfef k n 33 ls st Q)) : am_R E (d + 1) mJ1_indexOf_4cfef (k' + k) (n' + n) 33 ls (x4 :: x3 :: x2 :: x1 :: st) S iv Q := am_cS (M' := mJ1_indexOfChar_4cfef) (as := [x1, x2, x3, x4]) dJ1_indexOf_4cfef_33 rfl wq_60 wq_61 wq_16 wq_58 hy_J1_indexOfChar_4cfef (by decide) hst (by omega) (by omega) hM
theorem sJ1_indexOf_4cfef_36 {ls : List Value} {x : Int32} (h : Q (.inl (some (.int x))) S iv) : am_R E d mJ1_indexOf_4cfef k n 36 ls [.int x] S iv Q := am_ireturn dJ1_indexOf_4cfef_36 rfl h
theorem dJ1_indexOfChar_4cfef_0 : decode cJ1_indexOfChar_4cfef 0 = .ok (.iload_n 1, 1) := by decide +kernel
theorem dJ1_indexOfChar_4cfef_1 : decode cJ1_indexOfChar_4cfef 1 = .ok (.i2b, 1) := by decide +kernel
theorem dJ1_indexOfChar_4cfef_2 : decode cJ1_indexOfChar_4cfef 2 = .ok (.istore 4, 2) := by decide +kernel
theorem dJ1_indexOfChar_4cfef_4 : decode cJ1_indexOfChar_4cfef 4 = .ok (.iload_n 2, 1) := by decide +kernel
theorem dJ1_indexOfChar_4cfef_5 : decode cJ1_indexOfChar_4cfef 5 = .ok (.istore 5, 2) := by decide +kernel
theorem dJ1_indexOfChar_4cfef_7 : decode cJ1_indexOfChar_4cfef 7 = .ok (.iload 5, 2) := by decide +kernel
theorem dJ1_indexOfChar_4cfef_9 : decode cJ1_indexOfChar_4cfef 9 = .ok (.iload_n 3, 1) := by decide +kernel
theorem dJ1_indexOfChar_4cfef_10 : decode cJ1_indexOfChar_4cfef 10 = .ok (.if_icmp .ge 21, 3) := by decide +kernel
theorem dJ1_indexOfChar_4cfef_13 : decode cJ1_indexOfChar_4cfef 13 = .ok (.aload_n 0, 1) := by decide +kernel
theorem dJ1_indexOfChar_4cfef_14 : decode cJ1_indexOfChar_4cfef 14 = .ok (.iload 5, 2) := by decide +kernel
theorem dJ1_indexOfChar_4cfef_16 : decode cJ1_indexOfChar_4cfef 16 = .ok (.baload, 1) := by decide +kernel
theorem dJ1_indexOfChar_4cfef_17 : decode cJ1_indexOfChar_4cfef 17 = .ok (.iload 4, 2) := by decide +kernel
theorem dJ1_indexOfChar_4cfef_19 : decode cJ1_indexOfChar_4cfef 19 = .ok (.if_icmp .ne 6, 3) := by decide +kernel
theorem dJ1_indexOfChar_4cfef_22 : decode cJ1_indexOfChar_4cfef 22 = .ok (.iload 5, 2) := by decide +kernel
theorem dJ1_indexOfChar_4cfef_24 : decode cJ1_indexOfChar_4cfef 24 = .ok (.ireturn, 1) := by decide +kernel
theorem dJ1_indexOfChar_4cfef_25 : decode cJ1_indexOfChar_4cfef 25 = .ok (.iinc 5 1, 3) := by decide +kernel
theorem dJ1_indexOfChar_4cfef_28 : decode cJ1_indexOfChar_4cfef 28 = .ok (.goto (-21), 3) := by decide +kernel
theorem dJ1_indexOfChar_4cfef_31 : decode cJ1_indexOfChar_4cfef 31 = .ok (.iconst (-1), 1) := by decide +kernel
theorem dJ1_indexOfChar_4cfef_32 : decode cJ1_indexOfChar_4cfef 32 = .ok (.ireturn, 1) := by decide +kernel
theorem sJ1_indexOfChar_4cfef_0 {a0 a2 a3 a4 a5 : Value} {x : Int32} (h : am_R E d mJ1_indexOfChar_4cfef k n 1 [a0, .int x, a2, a3, a4, a5] (.int x :: st) S iv Q) : am_R E d mJ1_indexOfChar_4cfef k n 0 [a0, .int x, a2, a3, a4, a5] st S iv Q := am_iload_n dJ1_indexOfChar_4cfef_0 rfl rfl h
theorem sJ1_indexOfChar_4cfef_1 {ls : List Value} {x : Int32} (h : am_R E d mJ1_indexOfChar_4cfef k n 2 ls (.int x.toInt8.toInt32 :: st) S iv Q) : am_R E d mJ1_indexOfChar_4cfef k n 1 ls (.int x :: st) S iv Q := am_i2b dJ1_indexOfChar_4cfef_1 h
theorem sJ1_indexOfChar_4cfef_2 {a0 a1 a2 a3 a4 a5 : Value} {x : Int32} (h : am_R E d mJ1_indexOfChar_4cfef k n 4 [a0, a1, a2, a3, .int x, a5] st S iv Q) : am_R E d mJ1_indexOfChar_4cfef k n 2 [a0, a1, a2, a3, a4, a5] (.int x :: st) S iv Q := am_istore dJ1_indexOfChar_4cfef_2 (by decide) h
theorem sJ1_indexOfChar_4cfef_4 {a0 a1 a3 a4 a5 : Value} {x : Int32} (h : am_R E d mJ1_indexOfChar_4cfef k n 5 [a0, a1, .int x, a3, a4, a5] (.int x :: st) S iv Q) : am_R E d mJ1_indexOfChar_4cfef k n 4 [a0, a1, .int x, a3, a4, a5] st S iv Q := am_iload_n dJ1_indexOfChar_4cfef_4 rfl rfl h
theorem sJ1_indexOfChar_4cfef_5 {a0 a1 a2 a3 a4 a5 : Value} {x : Int32} (h : am_R E d mJ1_indexOfChar_4cfef k n 7 [a0, a1, a2, a3, a4, .int x] st S iv Q) : am_R E d mJ1_indexOfChar_4cfef k n 5 [a0, a1, a2, a3, a4, a5] (.int x :: st) S iv Q := am_istore dJ1_indexOfChar_4cfef_5 (by decide) h
theorem sJ1_indexOfChar_4cfef_7 {a0 a1 a2 a3 a4 : Value} {x : Int32} (h : am_R E d mJ1_indexOfChar_4cfef k n 9 [a0, a1, a2, a3, a4, .int x] (.int x :: st) S iv Q) : am_R E d mJ1_indexOfChar_4cfef k n 7 [a0, a1, a2, a3, a4, .int x] st S iv Q := am_iload dJ1_indexOfChar_4cfef_7 rfl h
theorem sJ1_indexOfChar_4cfef_9 {a0 a1 a2 a4 a5 : Value} {x : Int32} (h : am_R E d mJ1_indexOfChar_4cfef k n 10 [a0, a1, a2, .int x, a4, a5] (.int x :: st) S iv Q) : am_R E d mJ1_indexOfChar_4cfef k n 9 [a0, a1, a2, .int x, a4, a5] st S iv Q := am_iload_n dJ1_indexOfChar_4cfef_9 rfl rfl h
theorem sJ1_indexOfChar_4cfef_10 {ls : List Value} {x y : Int32} (kt : y ≤ x → am_R E d mJ1_indexOfChar_4cfef k n 31 ls st S iv Q) (kf : ¬ y ≤ x → am_R E d mJ1_indexOfChar_4cfef k n 13 ls st S iv Q) : am_R E d mJ1_indexOfChar_4cfef k n 10 ls (.int y :: .int x :: st) S iv Q := am_icmp_ge dJ1_indexOfChar_4cfef_10 (by decide) kt kf
theorem sJ1_indexOfChar_4cfef_13 {a0 a1 a2 a3 a4 a5 : Value} (hv : am_rf a0 = true) (h : am_R E d mJ1_indexOfChar_4cfef k n 14 [a0, a1, a2, a3, a4, a5] (a0 :: st) S iv Q) : am_R E d mJ1_indexOfChar_4cfef k n 13 [a0, a1, a2, a3, a4, a5] st S iv Q := am_aload_n dJ1_indexOfChar_4cfef_13 rfl rfl hv h
theorem sJ1_indexOfChar_4cfef_14 {a0 a1 a2 a3 a4 : Value} {x : Int32} (h : am_R E d mJ1_indexOfChar_4cfef k n 16 [a0, a1, a2, a3, a4, .int x] (.int x :: st) S iv Q) : am_R E d mJ1_indexOfChar_4cfef k n 14 [a0, a1, a2, a3, a4, .int x] st S iv Q := am_iload dJ1_indexOfChar_4cfef_14 rfl h
theorem sJ1_indexOfChar_4cfef_16 {ls : List Value} {u : UInt32} {i : Int32} (hj : u.toNat < am_by.length) (hi : vp_in i (am_by.getD u.toNat []).length) (h : am_R E d mJ1_indexOfChar_4cfef k n 17 ls (.int ((am_by.getD u.toNat []).getD i.toNatClampNeg 0) :: st) S iv Q) : am_R E d mJ1_indexOfChar_4cfef k n 16 ls (.int i :: .float u :: st) S iv Q := am_Sbaload dJ1_indexOfChar_4cfef_16 hj hi h
theorem sJ1_indexOfChar_4cfef_17 {a0 a1 a2 a3 a5 : Value} {x : Int32} (h : am_R E d mJ1_indexOfChar_4cfef k n 19 [a0, a1, a2, a3, .int x, a5] (.int x :: st) S iv Q) : am_R E d mJ1_indexOfChar_4cfef k n 17 [a0, a1, a2, a3, .int x, a5] st S iv Q := am_iload dJ1_indexOfChar_4cfef_17 rfl h
theorem sJ1_indexOfChar_4cfef_19 {ls : List Value} {x y : Int32} (kt : ¬ x = y → am_R E d mJ1_indexOfChar_4cfef k n 25 ls st S iv Q) (kf : x = y → am_R E d mJ1_indexOfChar_4cfef k n 22 ls st S iv Q) : am_R E d mJ1_indexOfChar_4cfef k n 19 ls (.int y :: .int x :: st) S iv Q := am_icmp_ne dJ1_indexOfChar_4cfef_19 (by decide) kt kf
theorem sJ1_indexOfChar_4cfef_22 {a0 a1 a2 a3 a4 : Value} {x : Int32} (h : am_R E d mJ1_indexOfChar_4cfef k n 24 [a0, a1, a2, a3, a4, .int x] (.int x :: st) S iv Q) : am_R E d mJ1_indexOfChar_4cfef k n 22 [a0, a1, a2, a3, a4, .int x] st S iv Q := am_iload dJ1_indexOfChar_4cfef_22 rfl h
theorem sJ1_indexOfChar_4cfef_24 {ls : List Value} {x : Int32} (h : Q (.inl (some (.int x))) S iv) : am_R E d mJ1_indexOfChar_4cfef k n 24 ls [.int x] S iv Q := am_ireturn dJ1_indexOfChar_4cfef_24 rfl h
theorem sJ1_indexOfChar_4cfef_25 {a0 a1 a2 a3 a4 : Value} {x : Int32} (h : am_R E d mJ1_indexOfChar_4cfef k n 28 [a0, a1, a2, a3, a4, .int (x + 1)] st S iv Q) : am_R E d mJ1_indexOfChar_4cfef k n 25 [a0, a1, a2, a3, a4, .int x] st S iv Q := am_iinc dJ1_indexOfChar_4cfef_25 rfl rfl (by decide) h
theorem sJ1_indexOfChar_4cfef_28 {ls : List Value} (h : am_R E d mJ1_indexOfChar_4cfef k n 7 ls st S iv Q) : am_R E d mJ1_indexOfChar_4cfef k n 28 ls st S iv Q := am_goto dJ1_indexOfChar_4cfef_28 (by decide) h
theorem sJ1_indexOfChar_4cfef_31 {a0 a1 a2 a3 a4 a5 : Value} (h : am_R E d mJ1_indexOfChar_4cfef k n 32 [a0, a1, a2, a3, a4, a5] (.int (-1) :: st) S iv Q) : am_R E d mJ1_indexOfChar_4cfef k n 31 [a0, a1, a2, a3, a4, a5] st S iv Q := am_iconst dJ1_indexOfChar_4cfef_31 (by decide) h
theorem sJ1_indexOfChar_4cfef_32 {ls : List Value} {x : Int32} (h : Q (.inl (some (.int x))) S iv) : am_R E d mJ1_indexOfChar_4cfef k n 32 ls [.int x] S iv Q := am_ireturn dJ1_indexOfChar_4cfef_32 rfl h
theorem dJ7_fill_53178_0 : decode cJ7_fill_53178 0 = .ok (.iconst 0, 1) := by decide +kernel
theorem dJ7_fill_53178_1 : decode cJ7_fill_53178 1 = .ok (.istore_n 2, 1) := by decide +kernel
theorem dJ7_fill_53178_2 : decode cJ7_fill_53178 2 = .ok (.aload_n 0, 1) := by decide +kernel
theorem dJ7_fill_53178_3 : decode cJ7_fill_53178 3 = .ok (.arraylength, 1) := by decide +kernel
theorem dJ7_fill_53178_4 : decode cJ7_fill_53178 4 = .ok (.istore_n 3, 1) := by decide +kernel
theorem dJ7_fill_53178_5 : decode cJ7_fill_53178 5 = .ok (.iload_n 2, 1) := by decide +kernel
theorem dJ7_fill_53178_6 : decode cJ7_fill_53178 6 = .ok (.iload_n 3, 1) := by decide +kernel
theorem dJ7_fill_53178_7 : decode cJ7_fill_53178 7 = .ok (.if_icmp .ge 13, 3) := by decide +kernel
theorem dJ7_fill_53178_10 : decode cJ7_fill_53178 10 = .ok (.aload_n 0, 1) := by decide +kernel
theorem dJ7_fill_53178_11 : decode cJ7_fill_53178 11 = .ok (.iload_n 2, 1) := by decide +kernel
theorem dJ7_fill_53178_12 : decode cJ7_fill_53178 12 = .ok (.iload_n 1, 1) := by decide +kernel
theorem dJ7_fill_53178_13 : decode cJ7_fill_53178 13 = .ok (.iastore, 1) := by decide +kernel
theorem dJ7_fill_53178_14 : decode cJ7_fill_53178 14 = .ok (.iinc 2 1, 3) := by decide +kernel
theorem dJ7_fill_53178_17 : decode cJ7_fill_53178 17 = .ok (.goto (-12), 3) := by decide +kernel
theorem dJ7_fill_53178_20 : decode cJ7_fill_53178 20 = .ok (.return_, 1) := by decide +kernel
theorem sJ7_fill_53178_0 {a0 a1 a2 a3 : Value} (h : am_R E d mJ7_fill_53178 k n 1 [a0, a1, a2, a3] (.int 0 :: st) S iv Q) : am_R E d mJ7_fill_53178 k n 0 [a0, a1, a2, a3] st S iv Q := am_iconst dJ7_fill_53178_0 (by decide) h
theorem sJ7_fill_53178_1 {a0 a1 a2 a3 : Value} {x : Int32} (h : am_R E d mJ7_fill_53178 k n 2 [a0, a1, .int x, a3] st S iv Q) : am_R E d mJ7_fill_53178 k n 1 [a0, a1, a2, a3] (.int x :: st) S iv Q := am_istore_n dJ7_fill_53178_1 rfl (by decide) h
theorem sJ7_fill_53178_2 {a0 a1 a2 a3 : Value} (hv : am_rf a0 = true) (h : am_R E d mJ7_fill_53178 k n 3 [a0, a1, a2, a3] (a0 :: st) S iv Q) : am_R E d mJ7_fill_53178 k n 2 [a0, a1, a2, a3] st S iv Q := am_aload_n dJ7_fill_53178_2 rfl rfl hv h
theorem sJ7_fill_53178_3 {ls : List Value} {a m t : Nat} {ty : FieldType} (ha : S.1 a = some (.inr (ty, m))) (ht : am_ti ty = some t) (h : am_R E d mJ7_fill_53178 k n 4 ls (.int (Int32.ofNat m) :: st) S iv Q) : am_R E d mJ7_fill_53178 k n 3 ls (.ref a :: st) S iv Q := am_alen dJ7_fill_53178_3 ha ht h
theorem sJ7_fill_53178_4 {a0 a1 a2 a3 : Value} {x : Int32} (h : am_R E d mJ7_fill_53178 k n 5 [a0, a1, a2, .int x] st S iv Q) : am_R E d mJ7_fill_53178 k n 4 [a0, a1, a2, a3] (.int x :: st) S iv Q := am_istore_n dJ7_fill_53178_4 rfl (by decide) h
theorem sJ7_fill_53178_5 {a0 a1 a3 : Value} {x : Int32} (h : am_R E d mJ7_fill_53178 k n 6 [a0, a1, .int x, a3] (.int x :: st) S iv Q) : am_R E d mJ7_fill_53178 k n 5 [a0, a1, .int x, a3] st S iv Q := am_iload_n dJ7_fill_53178_5 rfl rfl h
theorem sJ7_fill_53178_6 {a0 a1 a2 : Value} {x : Int32} (h : am_R E d mJ7_fill_53178 k n 7 [a0, a1, a2, .int x] (.int x :: st) S iv Q) : am_R E d mJ7_fill_53178 k n 6 [a0, a1, a2, .int x] st S iv Q := am_iload_n dJ7_fill_53178_6 rfl rfl h
theorem sJ7_fill_53178_7 {ls : List Value} {x y : Int32} (kt : y ≤ x → am_R E d mJ7_fill_53178 k n 20 ls st S iv Q) (kf : ¬ y ≤ x → am_R E d mJ7_fill_53178 k n 10 ls st S iv Q) : am_R E d mJ7_fill_53178 k n 7 ls (.int y :: .int x :: st) S iv Q := am_icmp_ge dJ7_fill_53178_7 (by decide) kt kf
theorem sJ7_fill_53178_10 {a0 a1 a2 a3 : Value} (hv : am_rf a0 = true) (h : am_R E d mJ7_fill_53178 k n 11 [a0, a1, a2, a3] (a0 :: st) S iv Q) : am_R E d mJ7_fill_53178 k n 10 [a0, a1, a2, a3] st S iv Q := am_aload_n dJ7_fill_53178_10 rfl rfl hv h
theorem sJ7_fill_53178_11 {a0 a1 a3 : Value} {x : Int32} (h : am_R E d mJ7_fill_53178 k n 12 [a0, a1, .int x, a3] (.int x :: st) S iv Q) : am_R E d mJ7_fill_53178 k n 11 [a0, a1, .int x, a3] st S iv Q := am_iload_n dJ7_fill_53178_11 rfl rfl h
theorem sJ7_fill_53178_12 {a0 a2 a3 : Value} {x : Int32} (h : am_R E d mJ7_fill_53178 k n 13 [a0, .int x, a2, a3] (.int x :: st) S iv Q) : am_R E d mJ7_fill_53178 k n 12 [a0, .int x, a2, a3] st S iv Q := am_iload_n dJ7_fill_53178_12 rfl rfl h
theorem sJ7_fill_53178_13 {ls : List Value} {a m : Nat} {i x : Int32} (ha : S.1 a = some (.inr (.int, m))) (hi : vp_in i m) (h : am_R E d mJ7_fill_53178 k n 14 ls st S (am_w iv a i.toNatClampNeg x) Q) : am_R E d mJ7_fill_53178 k n 13 ls (.int x :: .int i :: .ref a :: st) S iv Q := am_iastore dJ7_fill_53178_13 ha hi h
theorem sJ7_fill_53178_14 {a0 a1 a3 : Value} {x : Int32} (h : am_R E d mJ7_fill_53178 k n 17 [a0, a1, .int (x + 1), a3] st S iv Q) : am_R E d mJ7_fill_53178 k n 14 [a0, a1, .int x, a3] st S iv Q := am_iinc dJ7_fill_53178_14 rfl rfl (by decide) h
theorem sJ7_fill_53178_17 {ls : List Value} (h : am_R E d mJ7_fill_53178 k n 5 ls st S iv Q) : am_R E d mJ7_fill_53178 k n 17 ls st S iv Q := am_goto dJ7_fill_53178_17 (by decide) h
theorem sJ7_fill_53178_20 {ls : List Value} (h : Q (.inl none) S iv) : am_R E d mJ7_fill_53178 k n 20 ls [] S iv Q := am_return dJ7_fill_53178_20 rfl h
theorem dJ3_checkIndex_8e157_0 : decode cJ3_checkIndex_8e157 0 = .ok (.iload_n 0, 1) := by decide +kernel
theorem dJ3_checkIndex_8e157_1 : decode cJ3_checkIndex_8e157 1 = .ok (.ifCond .lt 8, 3) := by decide +kernel
theorem dJ3_checkIndex_8e157_4 : decode cJ3_checkIndex_8e157 4 = .ok (.iload_n 0, 1) := by decide +kernel
theorem dJ3_checkIndex_8e157_5 : decode cJ3_checkIndex_8e157 5 = .ok (.iload_n 1, 1) := by decide +kernel
theorem dJ3_checkIndex_8e157_6 : decode cJ3_checkIndex_8e157 6 = .ok (.if_icmp .lt 10, 3) := by decide +kernel
theorem dJ3_checkIndex_8e157_9 : decode cJ3_checkIndex_8e157 9 = .ok (.aload_n 2, 1) := by decide +kernel
theorem dJ3_checkIndex_8e157_10 : decode cJ3_checkIndex_8e157 10 = .ok (.iload_n 0, 1) := by decide +kernel
theorem dJ3_checkIndex_8e157_11 : decode cJ3_checkIndex_8e157 11 = .ok (.iload_n 1, 1) := by decide +kernel
theorem dJ3_checkIndex_8e157_12 : decode cJ3_checkIndex_8e157 12 = .ok (.invokestatic 95, 3) := by decide +kernel
theorem dJ3_checkIndex_8e157_15 : decode cJ3_checkIndex_8e157 15 = .ok (.athrow, 1) := by decide +kernel
theorem dJ3_checkIndex_8e157_16 : decode cJ3_checkIndex_8e157 16 = .ok (.iload_n 0, 1) := by decide +kernel
theorem dJ3_checkIndex_8e157_17 : decode cJ3_checkIndex_8e157 17 = .ok (.ireturn, 1) := by decide +kernel
theorem sJ3_checkIndex_8e157_0 {a1 a2 : Value} {x : Int32} (h : am_R E d mJ3_checkIndex_8e157 k n 1 [.int x, a1, a2] (.int x :: st) S iv Q) : am_R E d mJ3_checkIndex_8e157 k n 0 [.int x, a1, a2] st S iv Q := am_iload_n dJ3_checkIndex_8e157_0 rfl rfl h
theorem sJ3_checkIndex_8e157_1 {ls : List Value} {x : Int32} (kt : x < 0 → am_R E d mJ3_checkIndex_8e157 k n 9 ls st S iv Q) (kf : ¬ x < 0 → am_R E d mJ3_checkIndex_8e157 k n 4 ls st S iv Q) : am_R E d mJ3_checkIndex_8e157 k n 1 ls (.int x :: st) S iv Q := am_if_lt dJ3_checkIndex_8e157_1 (by decide) kt kf
theorem sJ3_checkIndex_8e157_4 {a1 a2 : Value} {x : Int32} (h : am_R E d mJ3_checkIndex_8e157 k n 5 [.int x, a1, a2] (.int x :: st) S iv Q) : am_R E d mJ3_checkIndex_8e157 k n 4 [.int x, a1, a2] st S iv Q := am_iload_n dJ3_checkIndex_8e157_4 rfl rfl h
theorem sJ3_checkIndex_8e157_5 {a0 a2 : Value} {x : Int32} (h : am_R E d mJ3_checkIndex_8e157 k n 6 [a0, .int x, a2] (.int x :: st) S iv Q) : am_R E d mJ3_checkIndex_8e157 k n 5 [a0, .int x, a2] st S iv Q := am_iload_n dJ3_checkIndex_8e157_5 rfl rfl h
theorem sJ3_checkIndex_8e157_6 {ls : List Value} {x y : Int32} (kt : x < y → am_R E d mJ3_checkIndex_8e157 k n 16 ls st S iv Q) (kf : ¬ x < y → am_R E d mJ3_checkIndex_8e157 k n 9 ls st S iv Q) : am_R E d mJ3_checkIndex_8e157 k n 6 ls (.int y :: .int x :: st) S iv Q := am_icmp_lt dJ3_checkIndex_8e157_6 (by decide) kt kf
theorem sJ3_checkIndex_8e157_9 {a0 a1 a2 : Value} (hv : am_rf a2 = true) (h : am_R E d mJ3_checkIndex_8e157 k n 10 [a0, a1, a2] (a2 :: st) S iv Q) : am_R E d mJ3_checkIndex_8e157 k n 9 [a0, a1, a2] st S iv Q := am_aload_n dJ3_checkIndex_8e157_9 rfl rfl hv h
theorem sJ3_checkIndex_8e157_10 {a1 a2 : Value} {x : Int32} (h : am_R E d mJ3_checkIndex_8e157 k n 11 [.int x, a1, a2] (.int x :: st) S iv Q) : am_R E d mJ3_checkIndex_8e157 k n 10 [.int x, a1, a2] st S iv Q := am_iload_n dJ3_checkIndex_8e157_10 rfl rfl h
theorem sJ3_checkIndex_8e157_11 {a0 a2 : Value} {x : Int32} (h : am_R E d mJ3_checkIndex_8e157 k n 12 [a0, .int x, a2] (.int x :: st) S iv Q) : am_R E d mJ3_checkIndex_8e157 k n 11 [a0, .int x, a2] st S iv Q := am_iload_n dJ3_checkIndex_8e157_11 rfl rfl h
theorem sJ3_checkIndex_8e157_16 {a1 a2 : Value} {x : Int32} (h : am_R E d mJ3_checkIndex_8e157 k n 17 [.int x, a1, a2] (.int x :: st) S iv Q) : am_R E d mJ3_checkIndex_8e157 k n 16 [.int x, a1, a2] st S iv Q := am_iload_n dJ3_checkIndex_8e157_16 rfl rfl h
theorem sJ3_checkIndex_8e157_17 {ls : List Value} {x : Int32} (h : Q (.inl (some (.int x))) S iv) : am_R E d mJ3_checkIndex_8e157 k n 17 ls [.int x] S iv Q := am_ireturn dJ3_checkIndex_8e157_17 rfl h
end R13_J
