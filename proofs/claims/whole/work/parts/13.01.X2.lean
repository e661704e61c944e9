section R13_X2
variable {E : am_E} {d k n : Nat} {st : List Value} {S : am_S} {iv : am_I} {Q : am_O → am_S → am_I → Prop}
theorem dX2_init_0 : decode cX2_init 0 = .ok (.aload_n 0, 1) := by decide +kernel
theorem dX2_init_1 : decode cX2_init 1 = .ok (.invokespecial 3, 3) := by decide +kernel
theorem dX2_init_4 : decode cX2_init 4 = .ok (.aload_n 0, 1) := by decide +kernel
theorem dX2_init_5 : decode cX2_init 5 = .ok (.bipush 10, 2) := by decide +kernel
theorem dX2_init_7 : decode cX2_init 7 = .ok (.newarray .int, 2) := by decide +kernel
theorem dX2_init_9 : decode cX2_init 9 = .ok (.putfield 9, 3) := by decide +kernel
theorem dX2_init_12 : decode cX2_init 12 = .ok (.aload_n 0, 1) := by decide +kernel
theorem dX2_init_13 : decode cX2_init 13 = .ok (.bipush 10, 2) := by decide +kernel
theorem dX2_init_15 : decode cX2_init 15 = .ok (.newarray .int, 2) := by decide +kernel
theorem dX2_init_17 : decode cX2_init 17 = .ok (.putfield 15, 3) := by decide +kernel
theorem dX2_init_20 : decode cX2_init 20 = .ok (.aload_n 0, 1) := by decide +kernel
theorem dX2_init_21 : decode cX2_init 21 = .ok (.bipush 10, 2) := by decide +kernel
theorem dX2_init_23 : decode cX2_init 23 = .ok (.newarray .int, 2) := by decide +kernel
theorem dX2_init_25 : decode cX2_init 25 = .ok (.putfield 18, 3) := by decide +kernel
theorem dX2_init_28 : decode cX2_init 28 = .ok (.aload_n 0, 1) := by decide +kernel
theorem dX2_init_29 : decode cX2_init 29 = .ok (.bipush 10, 2) := by decide +kernel
theorem dX2_init_31 : decode cX2_init 31 = .ok (.newarray .int, 2) := by decide +kernel
theorem dX2_init_33 : decode cX2_init 33 = .ok (.putfield 21, 3) := by decide +kernel
theorem dX2_init_36 : decode cX2_init 36 = .ok (.aload_n 0, 1) := by decide +kernel
theorem dX2_init_37 : decode cX2_init 37 = .ok (.bipush 10, 2) := by decide +kernel
theorem dX2_init_39 : decode cX2_init 39 = .ok (.newarray .int, 2) := by decide +kernel
theorem dX2_init_41 : decode cX2_init 41 = .ok (.putfield 24, 3) := by decide +kernel
theorem dX2_init_44 : decode cX2_init 44 = .ok (.aload_n 0, 1) := by decide +kernel
theorem dX2_init_45 : decode cX2_init 45 = .ok (.bipush 10, 2) := by decide +kernel
theorem dX2_init_47 : decode cX2_init 47 = .ok (.newarray .int, 2) := by decide +kernel
theorem dX2_init_49 : decode cX2_init 49 = .ok (.putfield 27, 3) := by decide +kernel
theorem dX2_init_52 : decode cX2_init 52 = .ok (.aload_n 0, 1) := by decide +kernel
theorem dX2_init_53 : decode cX2_init 53 = .ok (.bipush 10, 2) := by decide +kernel
theorem dX2_init_55 : decode cX2_init 55 = .ok (.newarray .int, 2) := by decide +kernel
theorem dX2_init_57 : decode cX2_init 57 = .ok (.putfield 30, 3) := by decide +kernel
theorem dX2_init_60 : decode cX2_init 60 = .ok (.aload_n 0, 1) := by decide +kernel
theorem dX2_init_61 : decode cX2_init 61 = .ok (.bipush 10, 2) := by decide +kernel
theorem dX2_init_63 : decode cX2_init 63 = .ok (.newarray .int, 2) := by decide +kernel
theorem dX2_init_65 : decode cX2_init 65 = .ok (.putfield 33, 3) := by decide +kernel
theorem dX2_init_68 : decode cX2_init 68 = .ok (.return_, 1) := by decide +kernel
theorem sX2_init_0 {a0 : Value} (hv : am_rf a0 = true) (h : am_R E d mX2_init k n 1 [a0] (a0 :: st) S iv Q) : am_R E d mX2_init k n 0 [a0] st S iv Q := am_aload_n dX2_init_0 rfl rfl hv h
theorem sX2_init_1 {ls : List Value} {a : Nat} (hst : (st.map fun v => v.category).sum ≤ 8) (h : am_R E (d + 1) mX2_init k n 4 ls st S iv Q) : am_R E (d + 1) mX2_init k n 1 ls (.ref a :: st) S iv Q := am_objInit dX2_init_1 wq_62 wq_63 wq_64 hst (by omega) h
theorem sX2_init_4 {a0 : Value} (hv : am_rf a0 = true) (h : am_R E d mX2_init k n 5 [a0] (a0 :: st) S iv Q) : am_R E d mX2_init k n 4 [a0] st S iv Q := am_aload_n dX2_init_4 rfl rfl hv h
theorem sX2_init_5 {a0 : Value} (h : am_R E d mX2_init k n 7 [a0] (.int 10 :: st) S iv Q) : am_R E d mX2_init k n 5 [a0] st S iv Q := am_bipush dX2_init_5 (by decide) h
theorem sX2_init_7 {ls : List Value} {x : Int32} {m : Nat} (hx : ¬ x < 0) (hm : x.toNatClampNeg = m) (hb : m ≤ 50000000) (h : am_R E d mX2_init k n 9 ls (.ref S.2.2.2 :: st) (am_new S (.inr (.int, m))) (am_0 S iv) Q) : am_R E d mX2_init (k + 1) (n + m) 7 ls (.int x :: st) S iv Q := am_nI dX2_init_7 wq_65 hx hm (by omega) (by omega) (by omega) h
theorem sX2_init_9 {ls : List Value} {a b : Nat} (ha : S.1 a = some (.inl 2)) (h : am_R E d mX2_init k n 12 ls st (am_wr S a 1 b) iv Q) : am_R E d mX2_init k n 9 ls (.ref b :: .ref a :: st) S iv Q := am_putR (ci := 2) dX2_init_9 rfl rfl (by decide) wq_66 uq_2 tyX2_ok nmX2 (Or.inr ⟨rfl, rfl, rfl⟩) rfl ha h
theorem sX2_init_12 {a0 : Value} (hv : am_rf a0 = true) (h : am_R E d mX2_init k n 13 [a0] (a0 :: st) S iv Q) : am_R E d mX2_init k n 12 [a0] st S iv Q := am_aload_n dX2_init_12 rfl rfl hv h
theorem sX2_init_13 {a0 : Value} (h : am_R E d mX2_init k n 15 [a0] (.int 10 :: st) S iv Q) : am_R E d mX2_init k n 13 [a0] st S iv Q := am_bipush dX2_init_13 (by decide) h
theorem sX2_init_15 {ls : List Value} {x : Int32} {m : Nat} (hx : ¬ x < 0) (hm : x.toNatClampNeg = m) (hb : m ≤ 50000000) (h : am_R E d mX2_init k n 17 ls (.ref S.2.2.2 :: st) (am_new S (.inr (.int, m))) (am_0 S iv) Q) : am_R E d mX2_init (k + 1) (n + m) 15 ls (.int x :: st) S iv Q := am_nI dX2_init_15 wq_65 hx hm (by omega) (by omega) (by omega) h
theorem sX2_init_17 {ls : List Value} {a b : Nat} (ha : S.1 a = some (.inl 2)) (h : am_R E d mX2_init k n 20 ls st (am_wr S a 2 b) iv Q) : am_R E d mX2_init k n 17 ls (.ref b :: .ref a :: st) S iv Q := am_putR (ci := 2) dX2_init_17 rfl rfl (by decide) wq_67 uq_2 tyX2_ok nmX2 (Or.inr ⟨rfl, rfl, rfl⟩) rfl ha h
theorem sX2_init_20 {a0 : Value} (hv : am_rf a0 = true) (h : am_R E d mX2_init k n 21 [a0] (a0 :: st) S iv Q) : am_R E d mX2_init k n 20 [a0] st S iv Q := am_aload_n dX2_init_20 rfl rfl hv h
theorem sX2_init_21 {a0 : Value} (h : am_R E d mX2_init k n 23 [a0] (.int 10 :: st) S iv Q) : am_R E d mX2_init k n 21 [a0] st S iv Q := am_bipush dX2_init_21 (by decide) h
theorem sX2_init_23 {ls : List Value} {x : Int32} {m : Nat} (hx : ¬ x < 0) (hm : x.toNatClampNeg = m) (hb : m ≤ 50000000) (h : am_R E d mX2_init k n 25 ls (.ref S.2.2.2 :: st) (am_new S (.inr (.int, m))) (am_0 S iv) Q) : am_R E d mX2_init (k + 1) (n + m) 23 ls (.int x :: st) S iv Q := am_nI dX2_init_23 wq_65 hx hm (by omega) (by omega) (by omega) h
theorem sX2_init_25 {ls : List Value} {a b : Nat} (ha : S.1 a = some (.inl 2)) (h : am_R E d mX2_init k n 28 ls st (am_wr S a 3 b) iv Q) : am_R E d mX2_init k n 25 ls (.ref b :: .ref a :: st) S iv Q := am_putR (ci := 2) dX2_init_25 rfl rfl (by decide) wq_68 uq_2 tyX2_ok nmX2 (Or.inr ⟨rfl, rfl, rfl⟩) rfl ha h
theorem sX2_init_28 {a0 : Value} (hv : am_rf a0 = true) (h : am_R E d mX2_init k n 29 [a0] (a0 :: st) S iv Q) : am_R E d mX2_init k n 28 [a0] st S iv Q := am_aload_n dX2_init_28 rfl rfl hv h
theorem sX2_init_29 {a0 : Value} (h : am_R E d mX2_init k n 31 [a0] (.int 10 :: st) S iv Q) : am_R E d mX2_init k n 29 [a0] st S iv Q := am_bipush dX2_init_29 (by decide) h
theorem sX2_init_31 {ls : List Value} {x : Int32} {m : Nat} (hx : ¬ x < 0) (hm : x.toNatClampNeg = m) (hb : m ≤ 50000000) (h : am_R E d mX2_init k n 33 ls (.ref S.2.2.2 :: st) (am_new S (.inr (.int, m))) (am_0 S iv) Q) : am_R E d mX2_init (k + 1) (n + m) 31 ls (.int x :: st) S iv Q := am_nI dX2_init_31 wq_65 hx hm (by omega) (by omega) (by omega) h
theorem sX2_init_33 {ls : List Value} {a b : Nat} (ha : S.1 a = some (.inl 2)) (h : am_R E d mX2_init k n 36 ls st (am_wr S a 4 b) iv Q) : am_R E d mX2_init k n 33 ls (.ref b :: .ref a :: st) S iv Q := am_putR (ci := 2) dX2_init_33 rfl rfl (by decide) wq_69 uq_2 tyX2_ok nmX2 (Or.inr ⟨rfl, rfl, rfl⟩) rfl ha h
theorem sX2_init_36 {a0 : Value} (hv : am_rf a0 = true) (h : am_R E d mX2_init k n 37 [a0] (a0 :: st) S iv Q) : am_R E d mX2_init k n 36 [a0] st S iv Q := am_aload_n dX2_init_36 rfl rfl hv h
theorem sX2_init_37 {a0 : Value} (h : am_R E d mX2_init k n 39 [a0] (.int 10 :: st) S iv Q) : am_R E d mX2_init k n 37 [a0] st S iv Q := am_bipush dX2_init_37 (by decide) h
theorem sX2_init_39 {ls : List Value} {x : Int32} {m : Nat} (hx : ¬ x < 0) (hm : x.toNatClampNeg = m) (hb : m ≤ 50000000) (h : am_R E d mX2_init k n 41 ls (.ref S.2.2.2 :: st) (am_new S (.inr (.int, m))) (am_0 S iv) Q) : am_R E d mX2_init (k + 1) (n + m) 39 ls (.int x :: st) S iv Q := am_nI dX2_init_39 wq_65 hx hm (by omega) (by omega) (by omega) h
theorem sX2_init_41 {ls : List Value} {a b : Nat} (ha : S.1 a = some (.inl 2)) (h : am_R E d mX2_init k n 44 ls st (am_wr S a 5 b) iv Q) : am_R E d mX2_init k n 41 ls (.ref b :: .ref a :: st) S iv Q := am_putR (ci := 2) dX2_init_41 rfl rfl (by decide) wq_70 uq_2 tyX2_ok nmX2 (Or.inr ⟨rfl, rfl, rfl⟩) rfl ha h
theorem sX2_init_44 {a0 : Value} (hv : am_rf a0 = true) (h : am_R E d mX2_init k n 45 [a0] (a0 :: st) S iv Q) : am_R E d mX2_init k n 44 [a0] st S iv Q := am_aload_n dX2_init_44 rfl rfl hv h
theorem sX2_init_45 {a0 : Value} (h : am_R E d mX2_init k n 47 [a0] (.int 10 :: st) S iv Q) : am_R E d mX2_init k n 45 [a0] st S iv Q := am_bipush dX2_init_45 (by decide) h
theorem sX2_init_47 {ls : List Value} {x : Int32} {m : Nat} (hx : ¬ x < 0) (hm : x.toNatClampNeg = m) (hb : m ≤ 50000000) (h : am_R E d mX2_init k n 49 ls (.ref S.2.2.2 :: st) (am_new S (.inr (.int, m))) (am_0 S iv) Q) : am_R E d mX2_init (k + 1) (n + m) 47 ls (.int x :: st) S iv Q := am_nI dX2_init_47 wq_65 hx hm (by omega) (by omega) (by omega) h
theorem sX2_init_49 {ls : List Value} {a b : Nat} (ha : S.1 a = some (.inl 2)) (h : am_R E d mX2_init k n 52 ls st (am_wr S a 6 b) iv Q) : am_R E d mX2_init k n 49 ls (.ref b :: .ref a :: st) S iv Q := am_putR (ci := 2) dX2_init_49 rfl rfl (by decide) wq_71 uq_2 tyX2_ok nmX2 (Or.inr ⟨rfl, rfl, rfl⟩) rfl ha h
theorem sX2_init_52 {a0 : Value} (hv : am_rf a0 = true) (h : am_R E d mX2_init k n 53 [a0] (a0 :: st) S iv Q) : am_R E d mX2_init k n 52 [a0] st S iv Q := am_aload_n dX2_init_52 rfl rfl hv h
theorem sX2_init_53 {a0 : Value} (h : am_R E d mX2_init k n 55 [a0] (.int 10 :: st) S iv Q) : am_R E d mX2_init k n 53 [a0] st S iv Q := am_bipush dX2_init_53 (by decide) h
theorem sX2_init_55 {ls : List Value} {x : Int32} {m : Nat} (hx : ¬ x < 0) (hm : x.toNatClampNeg = m) (hb : m ≤ 50000000) (h : am_R E d mX2_init k n 57 ls (.ref S.2.2.2 :: st) (am_new S (.inr (.int, m))) (am_0 S iv) Q) : am_R E d mX2_init (k + 1) (n + m) 55 ls (.int x :: st) S iv Q := am_nI dX2_init_55 wq_65 hx hm (by omega) (by omega) (by omega) h
theorem sX2_init_57 {ls : List Value} {a b : Nat} (ha : S.1 a = some (.inl 2)) (h : am_R E d mX2_init k n 60 ls st (am_wr S a 7 b) iv Q) : am_R E d mX2_init k n 57 ls (.ref b :: .ref a :: st) S iv Q := am_putR (ci := 2) dX2_init_57 rfl rfl (by decide) wq_72 uq_2 tyX2_ok nmX2 (Or.inr ⟨rfl, rfl, rfl⟩) rfl ha h
theorem sX2_init_60 {a0 : Value} (hv : am_rf a0 = true) (h : am_R E d mX2_init k n 61 [a0] (a0 :: st) S iv Q) : am_R E d mX2_init k n 60 [a0] st S iv Q := am_aload_n dX2_init_60 rfl rfl hv h
theorem sX2_init_61 {a0 : Value} (h : am_R E d mX2_init k n 63 [a0] (.int 10 :: st) S iv Q) : am_R E d mX2_init k n 61 [a0] st S iv Q := am_bipush dX2_init_61 (by decide) h
theorem sX2_init_63 {ls : List Value} {x : Int32} {m : Nat} (hx : ¬ x < 0) (hm : x.toNatClampNeg = m) (hb : m ≤ 50000000) (h : am_R E d mX2_init k n 65 ls (.ref S.2.2.2 :: st) (am_new S (.inr (.int, m))) (am_0 S iv) Q) : am_R E d mX2_init (k + 1) (n + m) 63 ls (.int x :: st) S iv Q := am_nI dX2_init_63 wq_65 hx hm (by omega) (by omega) (by omega) h
theorem sX2_init_65 {ls : List Value} {a b : Nat} (ha : S.1 a = some (.inl 2)) (h : am_R E d mX2_init k n 68 ls st (am_wr S a 8 b) iv Q) : am_R E d mX2_init k n 65 ls (.ref b :: .ref a :: st) S iv Q := am_putR (ci := 2) dX2_init_65 rfl rfl (by decide) wq_73 uq_2 tyX2_ok nmX2 (Or.inr ⟨rfl, rfl, rfl⟩) rfl ha h
theorem sX2_init_68 {ls : List Value} (h : Q (.inl none) S iv) : am_R E d mX2_init k n 68 ls [] S iv Q := am_return dX2_init_68 rfl h
theorem dX2_all_0 : decode cX2_all 0 = .ok (.iconst 1, 1) := by decide +kernel
theorem dX2_all_1 : decode cX2_all 1 = .ok (.aload_n 0, 1) := by decide +kernel
theorem dX2_all_2 : decode cX2_all 2 = .ok (.getfield 36, 3) := by decide +kernel
theorem dX2_all_5 : decode cX2_all 5 = .ok (.ishl, 1) := by decide +kernel
theorem dX2_all_6 : decode cX2_all 6 = .ok (.iconst 1, 1) := by decide +kernel
theorem dX2_all_7 : decode cX2_all 7 = .ok (.isub, 1) := by decide +kernel
theorem dX2_all_8 : decode cX2_all 8 = .ok (.ireturn, 1) := by decide +kernel
theorem sX2_all_0 {a0 : Value} (h : am_R E d mX2_all k n 1 [a0] (.int 1 :: st) S iv Q) : am_R E d mX2_all k n 0 [a0] st S iv Q := am_iconst dX2_all_0 (by decide) h
theorem sX2_all_1 {a0 : Value} (hv : am_rf a0 = true) (h : am_R E d mX2_all k n 2 [a0] (a0 :: st) S iv Q) : am_R E d mX2_all k n 1 [a0] st S iv Q := am_aload_n dX2_all_1 rfl rfl hv h
theorem sX2_all_2 {ls : List Value} {a : Nat} (ha : S.1 a = some (.inl 2)) (h : am_R E d mX2_all k n 5 ls (.int (iv a 0) :: st) S iv Q) : am_R E d mX2_all k n 2 ls (.ref a :: st) S iv Q := am_getI (ci := 2) dX2_all_2 rfl rfl (by decide) wq_74 uq_2 rfl ha h
theorem sX2_all_5 {ls : List Value} {x y : Int32} (h : am_R E d mX2_all k n 6 ls (.int (x <<< (y &&& 31)) :: st) S iv Q) : am_R E d mX2_all k n 5 ls (.int y :: .int x :: st) S iv Q := am_ishl dX2_all_5 h
theorem sX2_all_6 {a0 : Value} (h : am_R E d mX2_all k n 7 [a0] (.int 1 :: st) S iv Q) : am_R E d mX2_all k n 6 [a0] st S iv Q := am_iconst dX2_all_6 (by decide) h
theorem sX2_all_7 {ls : List Value} {x y : Int32} (h : am_R E d mX2_all k n 8 ls (.int (x - y) :: st) S iv Q) : am_R E d mX2_all k n 7 ls (.int y :: .int x :: st) S iv Q := am_isub dX2_all_7 h
theorem sX2_all_8 {ls : List Value} {x : Int32} (h : Q (.inl (some (.int x))) S iv) : am_R E d mX2_all k n 8 ls [.int x] S iv Q := am_ireturn dX2_all_8 rfl h
theorem dX2_isWide_0 : decode cX2_isWide 0 = .ok (.aload_n 0, 1) := by decide +kernel
theorem dX2_isWide_1 : decode cX2_isWide 1 = .ok (.getfield 18, 3) := by decide +kernel
theorem dX2_isWide_4 : decode cX2_isWide 4 = .ok (.iload_n 1, 1) := by decide +kernel
theorem dX2_isWide_5 : decode cX2_isWide 5 = .ok (.iaload, 1) := by decide +kernel
theorem dX2_isWide_6 : decode cX2_isWide 6 = .ok (.aload_n 0, 1) := by decide +kernel
theorem dX2_isWide_7 : decode cX2_isWide 7 = .ok (.getfield 15, 3) := by decide +kernel
theorem dX2_isWide_10 : decode cX2_isWide 10 = .ok (.iload_n 1, 1) := by decide +kernel
theorem dX2_isWide_11 : decode cX2_isWide 11 = .ok (.iaload, 1) := by decide +kernel
theorem dX2_isWide_12 : decode cX2_isWide 12 = .ok (.if_icmp .le 7, 3) := by decide +kernel
theorem dX2_isWide_15 : decode cX2_isWide 15 = .ok (.iconst 1, 1) := by decide +kernel
theorem dX2_isWide_16 : decode cX2_isWide 16 = .ok (.goto 4, 3) := by decide +kernel
theorem dX2_isWide_19 : decode cX2_isWide 19 = .ok (.iconst 0, 1) := by decide +kernel
theorem dX2_isWide_20 : decode cX2_isWide 20 = .ok (.ireturn, 1) := by decide +kernel
theorem sX2_isWide_0 {a0 a1 : Value} (hv : am_rf a0 = true) (h : am_R E d mX2_isWide k n 1 [a0, a1] (a0 :: st) S iv Q) : am_R E d mX2_isWide k n 0 [a0, a1] st S iv Q := am_aload_n dX2_isWide_0 rfl rfl hv h
theorem sX2_isWide_1 {ls : List Value} {a b : Nat} (ha : S.1 a = some (.inl 2)) (hb : S.2.1 a 3 = some b) (h : am_R E d mX2_isWide k n 4 ls (.ref b :: st) S iv Q) : am_R E d mX2_isWide k n 1 ls (.ref a :: st) S iv Q := am_getR (ci := 2) dX2_isWide_1 rfl rfl (by decide) wq_68 uq_2 rfl ha hb h
theorem sX2_isWide_4 {a0 : Value} {x : Int32} (h : am_R E d mX2_isWide k n 5 [a0, .int x] (.int x :: st) S iv Q) : am_R E d mX2_isWide k n 4 [a0, .int x] st S iv Q := am_iload_n dX2_isWide_4 rfl rfl h
theorem sX2_isWide_5 {ls : List Value} {a m : Nat} {i : Int32} (ha : S.1 a = some (.inr (.int, m))) (hi : vp_in i m) (h : am_R E d mX2_isWide k n 6 ls (.int (iv a i.toNatClampNeg) :: st) S iv Q) : am_R E d mX2_isWide k n 5 ls (.int i :: .ref a :: st) S iv Q := am_iaload dX2_isWide_5 ha hi h
theorem sX2_isWide_6 {a0 a1 : Value} (hv : am_rf a0 = true) (h : am_R E d mX2_isWide k n 7 [a0, a1] (a0 :: st) S iv Q) : am_R E d mX2_isWide k n 6 [a0, a1] st S iv Q := am_aload_n dX2_isWide_6 rfl rfl hv h
theorem sX2_isWide_7 {ls : List Value} {a b : Nat} (ha : S.1 a = some (.inl 2)) (hb : S.2.1 a 2 = some b) (h : am_R E d mX2_isWide k n 10 ls (.ref b :: st) S iv Q) : am_R E d mX2_isWide k n 7 ls (.ref a :: st) S iv Q := am_getR (ci := 2) dX2_isWide_7 rfl rfl (by decide) wq_67 uq_2 rfl ha hb h
theorem sX2_isWide_10 {a0 : Value} {x : Int32} (h : am_R E d mX2_isWide k n 11 [a0, .int x] (.int x :: st) S iv Q) : am_R E d mX2_isWide k n 10 [a0, .int x] st S iv Q := am_iload_n dX2_isWide_10 rfl rfl h
theorem sX2_isWide_11 {ls : List Value} {a m : Nat} {i : Int32} (ha : S.1 a = some (.inr (.int, m))) (hi : vp_in i m) (h : am_R E d mX2_isWide k n 12 ls (.int (iv a i.toNatClampNeg) :: st) S iv Q) : am_R E d mX2_isWide k n 11 ls (.int i :: .ref a :: st) S iv Q := am_iaload dX2_isWide_11 ha hi h
theorem sX2_isWide_12 {ls : List Value} {x y : Int32} (kt : x ≤ y → am_R E d mX2_isWide k n 19 ls st S iv Q) (kf : ¬ x ≤ y → am_R E d mX2_isWide k n 15 ls st S iv Q) : am_R E d mX2_isWide k n 12 ls (.int y :: .int x :: st) S iv Q := am_icmp_le dX2_isWide_12 (by decide) kt kf
theorem sX2_isWide_15 {a0 a1 : Value} (h : am_R E d mX2_isWide k n 16 [a0, a1] (.int 1 :: st) S iv Q) : am_R E d mX2_isWide k n 15 [a0, a1] st S iv Q := am_iconst dX2_isWide_15 (by decide) h
theorem sX2_isWide_16 {ls : List Value} (h : am_R E d mX2_isWide k n 20 ls st S iv Q) : am_R E d mX2_isWide k n 16 ls st S iv Q := am_goto dX2_isWide_16 (by decide) h
theorem sX2_isWide_19 {a0 a1 : Value} (h : am_R E d mX2_isWide k n 20 [a0, a1] (.int 0 :: st) S iv Q) : am_R E d mX2_isWide k n 19 [a0, a1] st S iv Q := am_iconst dX2_isWide_19 (by decide) h
theorem sX2_isWide_20 {ls : List Value} {x : Int32} (hn : narrow .boolean (.int x) = .int x) (h : Q (.inl (some (.int x))) S iv) : am_R E d mX2_isWide k n 20 ls [.int x] S iv Q := am_zreturn dX2_isWide_20 rfl hn h
theorem dX2_isTaken_0 : decode cX2_isTaken 0 = .ok (.iconst 0, 1) := by decide +kernel
theorem dX2_isTaken_1 : decode cX2_isTaken 1 = .ok (.istore_n 3, 1) := by decide +kernel
theorem dX2_isTaken_2 : decode cX2_isTaken 2 = .ok (.iload_n 3, 1) := by decide +kernel
theorem dX2_isTaken_3 : decode cX2_isTaken 3 = .ok (.aload_n 0, 1) := by decide +kernel
theorem dX2_isTaken_4 : decode cX2_isTaken 4 = .ok (.getfield 36, 3) := by decide +kernel
theorem dX2_isTaken_7 : decode cX2_isTaken 7 = .ok (.if_icmp .ge 41, 3) := by decide +kernel
theorem dX2_isTaken_10 : decode cX2_isTaken 10 = .ok (.aload_n 0, 1) := by decide +kernel
theorem dX2_isTaken_11 : decode cX2_isTaken 11 = .ok (.getfield 21, 3) := by decide +kernel
theorem dX2_isTaken_14 : decode cX2_isTaken 14 = .ok (.iload_n 3, 1) := by decide +kernel
theorem dX2_isTaken_15 : decode cX2_isTaken 15 = .ok (.iaload, 1) := by decide +kernel
theorem dX2_isTaken_16 : decode cX2_isTaken 16 = .ok (.iload_n 2, 1) := by decide +kernel
theorem dX2_isTaken_17 : decode cX2_isTaken 17 = .ok (.if_icmp .ne 25, 3) := by decide +kernel
theorem dX2_isTaken_20 : decode cX2_isTaken 20 = .ok (.aload_n 0, 1) := by decide +kernel
theorem dX2_isTaken_21 : decode cX2_isTaken 21 = .ok (.getfield 15, 3) := by decide +kernel
theorem dX2_isTaken_24 : decode cX2_isTaken 24 = .ok (.iload_n 3, 1) := by decide +kernel
theorem dX2_isTaken_25 : decode cX2_isTaken 25 = .ok (.iaload, 1) := by decide +kernel
theorem dX2_isTaken_26 : decode cX2_isTaken 26 = .ok (.iload_n 1, 1) := by decide +kernel
theorem dX2_isTaken_27 : decode cX2_isTaken 27 = .ok (.if_icmp .gt 15, 3) := by decide +kernel
theorem dX2_isTaken_30 : decode cX2_isTaken 30 = .ok (.iload_n 1, 1) := by decide +kernel
theorem dX2_isTaken_31 : decode cX2_isTaken 31 = .ok (.aload_n 0, 1) := by decide +kernel
theorem dX2_isTaken_32 : decode cX2_isTaken 32 = .ok (.getfield 18, 3) := by decide +kernel
theorem dX2_isTaken_35 : decode cX2_isTaken 35 = .ok (.iload_n 3, 1) := by decide +kernel
theorem dX2_isTaken_36 : decode cX2_isTaken 36 = .ok (.iaload, 1) := by decide +kernel
theorem dX2_isTaken_37 : decode cX2_isTaken 37 = .ok (.if_icmp .gt 5, 3) := by decide +kernel
theorem dX2_isTaken_40 : decode cX2_isTaken 40 = .ok (.iconst 1, 1) := by decide +kernel
theorem dX2_isTaken_41 : decode cX2_isTaken 41 = .ok (.ireturn, 1) := by decide +kernel
theorem dX2_isTaken_42 : decode cX2_isTaken 42 = .ok (.iinc 3 1, 3) := by decide +kernel
theorem dX2_isTaken_45 : decode cX2_isTaken 45 = .ok (.goto (-43), 3) := by decide +kernel
theorem dX2_isTaken_48 : decode cX2_isTaken 48 = .ok (.iconst 0, 1) := by decide +kernel
theorem dX2_isTaken_49 : decode cX2_isTaken 49 = .ok (.ireturn, 1) := by decide +kernel
theorem sX2_isTaken_0 {a0 a1 a2 a3 : Value} (h : am_R E d mX2_isTaken k n 1 [a0, a1, a2, a3] (.int 0 :: st) S iv Q) : am_R E d mX2_isTaken k n 0 [a0, a1, a2, a3] st S iv Q := am_iconst dX2_isTaken_0 (by decide) h
theorem sX2_isTaken_1 {a0 a1 a2 a3 : Value} {x : Int32} (h : am_R E d mX2_isTaken k n 2 [a0, a1, a2, .int x] st S iv Q) : am_R E d mX2_isTaken k n 1 [a0, a1, a2, a3] (.int x :: st) S iv Q := am_istore_n dX2_isTaken_1 rfl (by decide) h
theorem sX2_isTaken_2 {a0 a1 a2 : Value} {x : Int32} (h : am_R E d mX2_isTaken k n 3 [a0, a1, a2, .int x] (.int x :: st) S iv Q) : am_R E d mX2_isTaken k n 2 [a0, a1, a2, .int x] st S iv Q := am_iload_n dX2_isTaken_2 rfl rfl h
theorem sX2_isTaken_3 {a0 a1 a2 a3 : Value} (hv : am_rf a0 = true) (h : am_R E d mX2_isTaken k n 4 [a0, a1, a2, a3] (a0 :: st) S iv Q) : am_R E d mX2_isTaken k n 3 [a0, a1, a2, a3] st S iv Q := am_aload_n dX2_isTaken_3 rfl rfl hv h
theorem sX2_isTaken_4 {ls : List Value} {a : Nat} (ha : S.1 a = some (.inl 2)) (h : am_R E d mX2_isTaken k n 7 ls (.int (iv a 0) :: st) S iv Q) : am_R E d mX2_isTaken k n 4 ls (.ref a :: st) S iv Q := am_getI (ci := 2) dX2_isTaken_4 rfl rfl (by decide) wq_74 uq_2 rfl ha h
theorem sX2_isTaken_7 {ls : List Value} {x y : Int32} (kt : y ≤ x → am_R E d mX2_isTaken k n 48 ls st S iv Q) (kf : ¬ y ≤ x → am_R E d mX2_isTaken k n 10 ls st S iv Q) : am_R E d mX2_isTaken k n 7 ls (.int y :: .int x :: st) S iv Q := am_icmp_ge dX2_isTaken_7 (by decide) kt kf
theorem sX2_isTaken_10 {a0 a1 a2 a3 : Value} (hv : am_rf a0 = true) (h : am_R E d mX2_isTaken k n 11 [a0, a1, a2, a3] (a0 :: st) S iv Q) : am_R E d mX2_isTaken k n 10 [a0, a1, a2, a3] st S iv Q := am_aload_n dX2_isTaken_10 rfl rfl hv h
theorem sX2_isTaken_11 {ls : List Value} {a b : Nat} (ha : S.1 a = some (.inl 2)) (hb : S.2.1 a 4 = some b) (h : am_R E d mX2_isTaken k n 14 ls (.ref b :: st) S iv Q) : am_R E d mX2_isTaken k n 11 ls (.ref a :: st) S iv Q := am_getR (ci := 2) dX2_isTaken_11 rfl rfl (by decide) wq_69 uq_2 rfl ha hb h
theorem sX2_isTaken_14 {a0 a1 a2 : Value} {x : Int32} (h : am_R E d mX2_isTaken k n 15 [a0, a1, a2, .int x] (.int x :: st) S iv Q) : am_R E d mX2_isTaken k n 14 [a0, a1, a2, .int x] st S iv Q := am_iload_n dX2_isTaken_14 rfl rfl h
theorem sX2_isTaken_15 {ls : List Value} {a m : Nat} {i : Int32} (ha : S.1 a = some (.inr (.int, m))) (hi : vp_in i m) (h : am_R E d mX2_isTaken k n 16 ls (.int (iv a i.toNatClampNeg) :: st) S iv Q) : am_R E d mX2_isTaken k n 15 ls (.int i :: .ref a :: st) S iv Q := am_iaload dX2_isTaken_15 ha hi h
theorem sX2_isTaken_16 {a0 a1 a3 : Value} {x : Int32} (h : am_R E d mX2_isTaken k n 17 [a0, a1, .int x, a3] (.int x :: st) S iv Q) : am_R E d mX2_isTaken k n 16 [a0, a1, .int x, a3] st S iv Q := am_iload_n dX2_isTaken_16 rfl rfl h
theorem sX2_isTaken_17 {ls : List Value} {x y : Int32} (kt : ¬ x = y → am_R E d mX2_isTaken k n 42 ls st S iv Q) (kf : x = y → am_R E d mX2_isTaken k n 20 ls st S iv Q) : am_R E d mX2_isTaken k n 17 ls (.int y :: .int x :: st) S iv Q := am_icmp_ne dX2_isTaken_17 (by decide) kt kf
theorem sX2_isTaken_20 {a0 a1 a2 a3 : Value} (hv : am_rf a0 = true) (h : am_R E d mX2_isTaken k n 21 [a0, a1, a2, a3] (a0 :: st) S iv Q) : am_R E d mX2_isTaken k n 20 [a0, a1, a2, a3] st S iv Q := am_aload_n dX2_isTaken_20 rfl rfl hv h
theorem sX2_isTaken_21 {ls : List Value} {a b : Nat} (ha : S.1 a = some (.inl 2)) (hb : S.2.1 a 2 = some b) (h : am_R E d mX2_isTaken k n 24 ls (.ref b :: st) S iv Q) : am_R E d mX2_isTaken k n 21 ls (.ref a :: st) S iv Q := am_getR (ci := 2) dX2_isTaken_21 rfl rfl (by decide) wq_67 uq_2 rfl ha hb h
theorem sX2_isTaken_24 {a0 a1 a2 : Value} {x : Int32} (h : am_R E d mX2_isTaken k n 25 [a0, a1, a2, .int x] (.int x :: st) S iv Q) : am_R E d mX2_isTaken k n 24 [a0, a1, a2, .int x] st S iv Q := am_iload_n dX2_isTaken_24 rfl rfl h
theorem sX2_isTaken_25 {ls : List Value} {a m : Nat} {i : Int32} (ha : S.1 a = some (.inr (.int, m))) (hi : vp_in i m) (h : am_R E d mX2_isTaken k n 26 ls (.int (iv a i.toNatClampNeg) :: st) S iv Q) : am_R E d mX2_isTaken k n 25 ls (.int i :: .ref a :: st) S iv Q := am_iaload dX2_isTaken_25 ha hi h
theorem sX2_isTaken_26 {a0 a2 a3 : Value} {x : Int32} (h : am_R E d mX2_isTaken k n 27 [a0, .int x, a2, a3] (.int x :: st) S iv Q) : am_R E d mX2_isTaken k n 26 [a0, .int x, a2, a3] st S iv Q := am_iload_n dX2_isTaken_26 rfl rfl h
theorem sX2_isTaken_27 {ls : List Value} {x y : Int32} (kt : y < x → am_R E d mX2_isTaken k n 42 ls st S iv Q) (kf : ¬ y < x → am_R E d mX2_isTaken k n 30 ls st S iv Q) : am_R E d mX2_isTaken k n 27 ls (.int y :: .int x :: st) S iv Q := am_icmp_gt dX2_isTaken_27 (by decide) kt kf
theorem sX2_isTaken_30 {a0 a2 a3 : Value} {x : Int32} (h : am_R E d mX2_isTaken k n 31 [a0, .int x, a2, a3] (.int x :: st) S iv Q) : am_R E d mX2_isTaken k n 30 [a0, .int x, a2, a3] st S iv Q := am_iload_n dX2_isTaken_30 rfl rfl h
theorem sX2_isTaken_31 {a0 a1 a2 a3 : Value} (hv : am_rf a0 = true) (h : am_R E d mX2_isTaken k n 32 [a0, a1, a2, a3] (a0 :: st) S iv Q) : am_R E d mX2_isTaken k n 31 [a0, a1, a2, a3] st S iv Q := am_aload_n dX2_isTaken_31 rfl rfl hv h
theorem sX2_isTaken_32 {ls : List Value} {a b : Nat} (ha : S.1 a = some (.inl 2)) (hb : S.2.1 a 3 = some b) (h : am_R E d mX2_isTaken k n 35 ls (.ref b :: st) S iv Q) : am_R E d mX2_isTaken k n 32 ls (.ref a :: st) S iv Q := am_getR (ci := 2) dX2_isTaken_32 rfl rfl (by decide) wq_68 uq_2 rfl ha hb h
theorem sX2_isTaken_35 {a0 a1 a2 : Value} {x : Int32} (h : am_R E d mX2_isTaken k n 36 [a0, a1, a2, .int x] (.int x :: st) S iv Q) : am_R E d mX2_isTaken k n 35 [a0, a1, a2, .int x] st S iv Q := am_iload_n dX2_isTaken_35 rfl rfl h
theorem sX2_isTaken_36 {ls : List Value} {a m : Nat} {i : Int32} (ha : S.1 a = some (.inr (.int, m))) (hi : vp_in i m) (h : am_R E d mX2_isTaken k n 37 ls (.int (iv a i.toNatClampNeg) :: st) S iv Q) : am_R E d mX2_isTaken k n 36 ls (.int i :: .ref a :: st) S iv Q := am_iaload dX2_isTaken_36 ha hi h
theorem sX2_isTaken_37 {ls : List Value} {x y : Int32} (kt : y < x → am_R E d mX2_isTaken k n 42 ls st S iv Q) (kf : ¬ y < x → am_R E d mX2_isTaken k n 40 ls st S iv Q) : am_R E d mX2_isTaken k n 37 ls (.int y :: .int x :: st) S iv Q := am_icmp_gt dX2_isTaken_37 (by decide) kt kf
theorem sX2_isTaken_40 {a0 a1 a2 a3 : Value} (h : am_R E d mX2_isTaken k n 41 [a0, a1, a2, a3] (.int 1 :: st) S iv Q) : am_R E d mX2_isTaken k n 40 [a0, a1, a2, a3] st S iv Q := am_iconst dX2_isTaken_40 (by decide) h
theorem sX2_isTaken_41 {ls : List Value} {x : Int32} (hn : narrow .boolean (.int x) = .int x) (h : Q (.inl (some (.int x))) S iv) : am_R E d mX2_isTaken k n 41 ls [.int x] S iv Q := am_zreturn dX2_isTaken_41 rfl hn h
theorem sX2_isTaken_42 {a0 a1 a2 : Value} {x : Int32} (h : am_R E d mX2_isTaken k n 45 [a0, a1, a2, .int (x + 1)] st S iv Q) : am_R E d mX2_isTaken k n 42 [a0, a1, a2, .int x] st S iv Q := am_iinc dX2_isTaken_42 rfl rfl (by decide) h
theorem sX2_isTaken_45 {ls : List Value} (h : am_R E d mX2_isTaken k n 2 ls st S iv Q) : am_R E d mX2_isTaken k n 45 ls st S iv Q := am_goto dX2_isTaken_45 (by decide) h
theorem sX2_isTaken_48 {a0 a1 a2 a3 : Value} (h : am_R E d mX2_isTaken k n 49 [a0, a1, a2, a3] (.int 0 :: st) S iv Q) : am_R E d mX2_isTaken k n 48 [a0, a1, a2, a3] st S iv Q := am_iconst dX2_isTaken_48 (by decide) h
theorem sX2_isTaken_49 {ls : List Value} {x : Int32} (hn : narrow .boolean (.int x) = .int x) (h : Q (.inl (some (.int x))) S iv) : am_R E d mX2_isTaken k n 49 ls [.int x] S iv Q := am_zreturn dX2_isTaken_49 rfl hn h
theorem dX2_add_0 : decode cX2_add 0 = .ok (.aload_n 0, 1) := by decide +kernel
theorem dX2_add_1 : decode cX2_add 1 = .ok (.getfield 36, 3) := by decide +kernel
theorem dX2_add_4 : decode cX2_add 4 = .ok (.bipush 10, 2) := by decide +kernel
theorem dX2_add_6 : decode cX2_add 6 = .ok (.if_icmp .ge 64, 3) := by decide +kernel
theorem dX2_add_9 : decode cX2_add 9 = .ok (.aload_n 0, 1) := by decide +kernel
theorem dX2_add_10 : decode cX2_add 10 = .ok (.getfield 9, 3) := by decide +kernel
theorem dX2_add_13 : decode cX2_add 13 = .ok (.aload_n 0, 1) := by decide +kernel
theorem dX2_add_14 : decode cX2_add 14 = .ok (.getfield 36, 3) := by decide +kernel
theorem dX2_add_17 : decode cX2_add 17 = .ok (.iload_n 1, 1) := by decide +kernel
theorem dX2_add_18 : decode cX2_add 18 = .ok (.iastore, 1) := by decide +kernel
theorem dX2_add_19 : decode cX2_add 19 = .ok (.aload_n 0, 1) := by decide +kernel
theorem dX2_add_20 : decode cX2_add 20 = .ok (.getfield 15, 3) := by decide +kernel
theorem dX2_add_23 : decode cX2_add 23 = .ok (.aload_n 0, 1) := by decide +kernel
theorem dX2_add_24 : decode cX2_add 24 = .ok (.getfield 36, 3) := by decide +kernel
theorem dX2_add_27 : decode cX2_add 27 = .ok (.iload_n 2, 1) := by decide +kernel
theorem dX2_add_28 : decode cX2_add 28 = .ok (.iastore, 1) := by decide +kernel
theorem dX2_add_29 : decode cX2_add 29 = .ok (.aload_n 0, 1) := by decide +kernel
theorem dX2_add_30 : decode cX2_add 30 = .ok (.getfield 18, 3) := by decide +kernel
theorem dX2_add_33 : decode cX2_add 33 = .ok (.aload_n 0, 1) := by decide +kernel
theorem dX2_add_34 : decode cX2_add 34 = .ok (.getfield 36, 3) := by decide +kernel
theorem dX2_add_37 : decode cX2_add 37 = .ok (.iload_n 2, 1) := by decide +kernel
theorem dX2_add_38 : decode cX2_add 38 = .ok (.iastore, 1) := by decide +kernel
theorem dX2_add_39 : decode cX2_add 39 = .ok (.aload_n 0, 1) := by decide +kernel
theorem dX2_add_40 : decode cX2_add 40 = .ok (.getfield 21, 3) := by decide +kernel
theorem dX2_add_43 : decode cX2_add 43 = .ok (.aload_n 0, 1) := by decide +kernel
theorem dX2_add_44 : decode cX2_add 44 = .ok (.getfield 36, 3) := by decide +kernel
theorem dX2_add_47 : decode cX2_add 47 = .ok (.iload_n 3, 1) := by decide +kernel
theorem dX2_add_48 : decode cX2_add 48 = .ok (.iastore, 1) := by decide +kernel
theorem dX2_add_49 : decode cX2_add 49 = .ok (.aload_n 0, 1) := by decide +kernel
theorem dX2_add_50 : decode cX2_add 50 = .ok (.getfield 24, 3) := by decide +kernel
theorem dX2_add_53 : decode cX2_add 53 = .ok (.aload_n 0, 1) := by decide +kernel
theorem dX2_add_54 : decode cX2_add 54 = .ok (.getfield 36, 3) := by decide +kernel
theorem dX2_add_57 : decode cX2_add 57 = .ok (.iload 4, 2) := by decide +kernel
theorem dX2_add_59 : decode cX2_add 59 = .ok (.iastore, 1) := by decide +kernel
theorem dX2_add_60 : decode cX2_add 60 = .ok (.aload_n 0, 1) := by decide +kernel
theorem dX2_add_61 : decode cX2_add 61 = .ok (.dup, 1) := by decide +kernel
theorem dX2_add_62 : decode cX2_add 62 = .ok (.getfield 36, 3) := by decide +kernel
theorem dX2_add_65 : decode cX2_add 65 = .ok (.iconst 1, 1) := by decide +kernel
theorem dX2_add_66 : decode cX2_add 66 = .ok (.iadd, 1) := by decide +kernel
theorem dX2_add_67 : decode cX2_add 67 = .ok (.putfield 36, 3) := by decide +kernel
theorem dX2_add_70 : decode cX2_add 70 = .ok (.return_, 1) := by decide +kernel
theorem sX2_add_0 {a0 a1 a2 a3 a4 : Value} (hv : am_rf a0 = true) (h : am_R E d mX2_add k n 1 [a0, a1, a2, a3, a4] (a0 :: st) S iv Q) : am_R E d mX2_add k n 0 [a0, a1, a2, a3, a4] st S iv Q := am_aload_n dX2_add_0 rfl rfl hv h
theorem sX2_add_1 {ls : List Value} {a : Nat} (ha : S.1 a = some (.inl 2)) (h : am_R E d mX2_add k n 4 ls (.int (iv a 0) :: st) S iv Q) : am_R E d mX2_add k n 1 ls (.ref a :: st) S iv Q := am_getI (ci := 2) dX2_add_1 rfl rfl (by decide) wq_74 uq_2 rfl ha h
theorem sX2_add_4 {a0 a1 a2 a3 a4 : Value} (h : am_R E d mX2_add k n 6 [a0, a1, a2, a3, a4] (.int 10 :: st) S iv Q) : am_R E d mX2_add k n 4 [a0, a1, a2, a3, a4] st S iv Q := am_bipush dX2_add_4 (by decide) h
theorem sX2_add_6 {ls : List Value} {x y : Int32} (kt : y ≤ x → am_R E d mX2_add k n 70 ls st S iv Q) (kf : ¬ y ≤ x → am_R E d mX2_add k n 9 ls st S iv Q) : am_R E d mX2_add k n 6 ls (.int y :: .int x :: st) S iv Q := am_icmp_ge dX2_add_6 (by decide) kt kf
theorem sX2_add_9 {a0 a1 a2 a3 a4 : Value} (hv : am_rf a0 = true) (h : am_R E d mX2_add k n 10 [a0, a1, a2, a3, a4] (a0 :: st) S iv Q) : am_R E d mX2_add k n 9 [a0, a1, a2, a3, a4] st S iv Q := am_aload_n dX2_add_9 rfl rfl hv h
theorem sX2_add_10 {ls : List Value} {a b : Nat} (ha : S.1 a = some (.inl 2)) (hb : S.2.1 a 1 = some b) (h : am_R E d mX2_add k n 13 ls (.ref b :: st) S iv Q) : am_R E d mX2_add k n 10 ls (.ref a :: st) S iv Q := am_getR (ci := 2) dX2_add_10 rfl rfl (by decide) wq_66 uq_2 rfl ha hb h
theorem sX2_add_13 {a0 a1 a2 a3 a4 : Value} (hv : am_rf a0 = true) (h : am_R E d mX2_add k n 14 [a0, a1, a2, a3, a4] (a0 :: st) S iv Q) : am_R E d mX2_add k n 13 [a0, a1, a2, a3, a4] st S iv Q := am_aload_n dX2_add_13 rfl rfl hv h
theorem sX2_add_14 {ls : List Value} {a : Nat} (ha : S.1 a = some (.inl 2)) (h : am_R E d mX2_add k n 17 ls (.int (iv a 0) :: st) S iv Q) : am_R E d mX2_add k n 14 ls (.ref a :: st) S iv Q := am_getI (ci := 2) dX2_add_14 rfl rfl (by decide) wq_74 uq_2 rfl ha h
theorem sX2_add_17 {a0 a2 a3 a4 : Value} {x : Int32} (h : am_R E d mX2_add k n 18 [a0, .int x, a2, a3, a4] (.int x :: st) S iv Q) : am_R E d mX2_add k n 17 [a0, .int x, a2, a3, a4] st S iv Q := am_iload_n dX2_add_17 rfl rfl h
theorem sX2_add_18 {ls : List Value} {a m : Nat} {i x : Int32} (ha : S.1 a = some (.inr (.int, m))) (hi : vp_in i m) (h : am_R E d mX2_add k n 19 ls st S (am_w iv a i.toNatClampNeg x) Q) : am_R E d mX2_add k n 18 ls (.int x :: .int i :: .ref a :: st) S iv Q := am_iastore dX2_add_18 ha hi h
theorem sX2_add_19 {a0 a1 a2 a3 a4 : Value} (hv : am_rf a0 = true) (h : am_R E d mX2_add k n 20 [a0, a1, a2, a3, a4] (a0 :: st) S iv Q) : am_R E d mX2_add k n 19 [a0, a1, a2, a3, a4] st S iv Q := am_aload_n dX2_add_19 rfl rfl hv h
theorem sX2_add_20 {ls : List Value} {a b : Nat} (ha : S.1 a = some (.inl 2)) (hb : S.2.1 a 2 = some b) (h : am_R E d mX2_add k n 23 ls (.ref b :: st) S iv Q) : am_R E d mX2_add k n 20 ls (.ref a :: st) S iv Q := am_getR (ci := 2) dX2_add_20 rfl rfl (by decide) wq_67 uq_2 rfl ha hb h
theorem sX2_add_23 {a0 a1 a2 a3 a4 : Value} (hv : am_rf a0 = true) (h : am_R E d mX2_add k n 24 [a0, a1, a2, a3, a4] (a0 :: st) S iv Q) : am_R E d mX2_add k n 23 [a0, a1, a2, a3, a4] st S iv Q := am_aload_n dX2_add_23 rfl rfl hv h
theorem sX2_add_24 {ls : List Value} {a : Nat} (ha : S.1 a = some (.inl 2)) (h : am_R E d mX2_add k n 27 ls (.int (iv a 0) :: st) S iv Q) : am_R E d mX2_add k n 24 ls (.ref a :: st) S iv Q := am_getI (ci := 2) dX2_add_24 rfl rfl (by decide) wq_74 uq_2 rfl ha h
theorem sX2_add_27 {a0 a1 a3 a4 : Value} {x : Int32} (h : am_R E d mX2_add k n 28 [a0, a1, .int x, a3, a4] (.int x :: st) S iv Q) : am_R E d mX2_add k n 27 [a0, a1, .int x, a3, a4] st S iv Q := am_iload_n dX2_add_27 rfl rfl h
theorem sX2_add_28 {ls : List Value} {a m : Nat} {i x : Int32} (ha : S.1 a = some (.inr (.int, m))) (hi : vp_in i m) (h : am_R E d mX2_add k n 29 ls st S (am_w iv a i.toNatClampNeg x) Q) : am_R E d mX2_add k n 28 ls (.int x :: .int i :: .ref a :: st) S iv Q := am_iastore dX2_add_28 ha hi h
theorem sX2_add_29 {a0 a1 a2 a3 a4 : Value} (hv : am_rf a0 = true) (h : am_R E d mX2_add k n 30 [a0, a1, a2, a3, a4] (a0 :: st) S iv Q) : am_R E d mX2_add k n 29 [a0, a1, a2, a3, a4] st S iv Q := am_aload_n dX2_add_29 rfl rfl hv h
theorem sX2_add_30 {ls : List Value} {a b : Nat} (ha : S.1 a = some (.inl 2)) (hb : S.2.1 a 3 = some b) (h : am_R E d mX2_add k n 33 ls (.ref b :: st) S iv Q) : am_R E d mX2_add k n 30 ls (.ref a :: st) S iv Q := am_getR (ci := 2) dX2_add_30 rfl rfl (by decide) wq_68 uq_2 rfl ha hb h
theorem sX2_add_33 {a0 a1 a2 a3 a4 : Value} (hv : am_rf a0 = true) (h : am_R E d mX2_add k n 34 [a0, a1, a2, a3, a4] (a0 :: st) S iv Q) : am_R E d mX2_add k n 33 [a0, a1, a2, a3, a4] st S iv Q := am_aload_n dX2_add_33 rfl rfl hv h
theorem sX2_add_34 {ls : List Value} {a : Nat} (ha : S.1 a = some (.inl 2)) (h : am_R E d mX2_add k n 37 ls (.int (iv a 0) :: st) S iv Q) : am_R E d mX2_add k n 34 ls (.ref a :: st) S iv Q := am_getI (ci := 2) dX2_add_34 rfl rfl (by decide) wq_74 uq_2 rfl ha h
theorem sX2_add_37 {a0 a1 a3 a4 : Value} {x : Int32} (h : am_R E d mX2_add k n 38 [a0, a1, .int x, a3, a4] (.int x :: st) S iv Q) : am_R E d mX2_add k n 37 [a0, a1, .int x, a3, a4] st S iv Q := am_iload_n dX2_add_37 rfl rfl h
theorem sX2_add_38 {ls : List Value} {a m : Nat} {i x : Int32} (ha : S.1 a = some (.inr (.int, m))) (hi : vp_in i m) (h : am_R E d mX2_add k n 39 ls st S (am_w iv a i.toNatClampNeg x) Q) : am_R E d mX2_add k n 38 ls (.int x :: .int i :: .ref a :: st) S iv Q := am_iastore dX2_add_38 ha hi h
theorem sX2_add_39 {a0 a1 a2 a3 a4 : Value} (hv : am_rf a0 = true) (h : am_R E d mX2_add k n 40 [a0, a1, a2, a3, a4] (a0 :: st) S iv Q) : am_R E d mX2_add k n 39 [a0, a1, a2, a3, a4] st S iv Q := am_aload_n dX2_add_39 rfl rfl hv h
theorem sX2_add_40 {ls : List Value} {a b : Nat} (ha : S.1 a = some (.inl 2)) (hb : S.2.1 a 4 = some b) (h : am_R E d mX2_add k n 43 ls (.ref b :: st) S iv Q) : am_R E d mX2_add k n 40 ls (.ref a :: st) S iv Q := am_getR (ci := 2) dX2_add_40 rfl rfl (by decide) wq_69 uq_2 rfl ha hb h
theorem sX2_add_43 {a0 a1 a2 a3 a4 : Value} (hv : am_rf a0 = true) (h : am_R E d mX2_add k n 44 [a0, a1, a2, a3, a4] (a0 :: st) S iv Q) : am_R E d mX2_add k n 43 [a0, a1, a2, a3, a4] st S iv Q := am_aload_n dX2_add_43 rfl rfl hv h
theorem sX2_add_44 {ls : List Value} {a : Nat} (ha : S.1 a = some (.inl 2)) (h : am_R E d mX2_add k n 47 ls (.int (iv a 0) :: st) S iv Q) : am_R E d mX2_add k n 44 ls (.ref a :: st) S iv Q := am_getI (ci := 2) dX2_add_44 rfl rfl (by decide) wq_74 uq_2 rfl ha h
theorem sX2_add_47 {a0 a1 a2 a4 : Value} {x : Int32} (h : am_R E d mX2_add k n 48 [a0, a1, a2, .int x, a4] (.int x :: st) S iv Q) : am_R E d mX2_add k n 47 [a0, a1, a2, .int x, a4] st S iv Q := am_iload_n dX2_add_47 rfl rfl h
theorem sX2_add_48 {ls : List Value} {a m : Nat} {i x : Int32} (ha : S.1 a = some (.inr (.int, m))) (hi : vp_in i m) (h : am_R E d mX2_add k n 49 ls st S (am_w iv a i.toNatClampNeg x) Q) : am_R E d mX2_add k n 48 ls (.int x :: .int i :: .ref a :: st) S iv Q := am_iastore dX2_add_48 ha hi h
theorem sX2_add_49 {a0 a1 a2 a3 a4 : Value} (hv : am_rf a0 = true) (h : am_R E d mX2_add k n 50 [a0, a1, a2, a3, a4] (a0 :: st) S iv Q) : am_R E d mX2_add k n 49 [a0, a1, a2, a3, a4] st S iv Q := am_aload_n dX2_add_49 rfl rfl hv h
theorem sX2_add_50 {ls : List Value} {a b : Nat} (ha : S.1 a = some (.inl 2)) (hb : S.2.1 a 5 = some b) (h : am_R E d mX2_add k n 53 ls (.ref b :: st) S iv Q) : am_R E d mX2_add k n 50 ls (.ref a :: st) S iv Q := am_getR (ci := 2) dX2_add_50 rfl rfl (by decide) wq_70 uq_2 rfl ha hb h
theorem sX2_add_53 {a0 a1 a2 a3 a4 : Value} (hv : am_rf a0 = true) (h : am_R E d mX2_add k n 54 [a0, a1, a2, a3, a4] (a0 :: st) S iv Q) : am_R E d mX2_add k n 53 [a0, a1, a2, a3, a4] st S iv Q := am_aload_n dX2_add_53 rfl rfl hv h
theorem sX2_add_54 {ls : List Value} {a : Nat} (ha : S.1 a = some (.inl 2)) (h : am_R E d mX2_add k n 57 ls (.int (iv a 0) :: st) S iv Q) : am_R E d mX2_add k n 54 ls (.ref a :: st) S iv Q := am_getI (ci := 2) dX2_add_54 rfl rfl (by decide) wq_74 uq_2 rfl ha h
theorem sX2_add_57 {a0 a1 a2 a3 : Value} {x : Int32} (h : am_R E d mX2_add k n 59 [a0, a1, a2, a3, .int x] (.int x :: st) S iv Q) : am_R E d mX2_add k n 57 [a0, a1, a2, a3, .int x] st S iv Q := am_iload dX2_add_57 rfl h
theorem sX2_add_59 {ls : List Value} {a m : Nat} {i x : Int32} (ha : S.1 a = some (.inr (.int, m))) (hi : vp_in i m) (h : am_R E d mX2_add k n 60 ls st S (am_w iv a i.toNatClampNeg x) Q) : am_R E d mX2_add k n 59 ls (.int x :: .int i :: .ref a :: st) S iv Q := am_iastore dX2_add_59 ha hi h
theorem sX2_add_60 {a0 a1 a2 a3 a4 : Value} (hv : am_rf a0 = true) (h : am_R E d mX2_add k n 61 [a0, a1, a2, a3, a4] (a0 :: st) S iv Q) : am_R E d mX2_add k n 60 [a0, a1, a2, a3, a4] st S iv Q := am_aload_n dX2_add_60 rfl rfl hv h
theorem sX2_add_61 {ls : List Value} {x : Value} (hv : x.category = 1) (h : am_R E d mX2_add k n 62 ls (x :: x :: st) S iv Q) : am_R E d mX2_add k n 61 ls (x :: st) S iv Q := am_dup dX2_add_61 hv h
theorem sX2_add_62 {ls : List Value} {a : Nat} (ha : S.1 a = some (.inl 2)) (h : am_R E d mX2_add k n 65 ls (.int (iv a 0) :: st) S iv Q) : am_R E d mX2_add k n 62 ls (.ref a :: st) S iv Q := am_getI (ci := 2) dX2_add_62 rfl rfl (by decide) wq_74 uq_2 rfl ha h
theorem sX2_add_65 {a0 a1 a2 a3 a4 : Value} (h : am_R E d mX2_add k n 66 [a0, a1, a2, a3, a4] (.int 1 :: st) S iv Q) : am_R E d mX2_add k n 65 [a0, a1, a2, a3, a4] st S iv Q := am_iconst dX2_add_65 (by decide) h
theorem sX2_add_66 {ls : List Value} {x y : Int32} (h : am_R E d mX2_add k n 67 ls (.int (x + y) :: st) S iv Q) : am_R E d mX2_add k n 66 ls (.int y :: .int x :: st) S iv Q := am_iadd dX2_add_66 h
theorem sX2_add_67 {ls : List Value} {a : Nat} {x : Int32} (ha : S.1 a = some (.inl 2)) (h : am_R E d mX2_add k n 70 ls st S (am_w iv a 0 x) Q) : am_R E d mX2_add k n 67 ls (.int x :: .ref a :: st) S iv Q := am_putI (ci := 2) dX2_add_67 rfl rfl (by decide) wq_74 uq_2 tyX2_ok nmX2 (Or.inl rfl) rfl ha h
theorem sX2_add_70 {ls : List Value} (h : Q (.inl none) S iv) : am_R E d mX2_add k n 70 ls [] S iv Q := am_return dX2_add_70 rfl h
theorem dX2_copyFrom_0 : decode cX2_copyFrom 0 = .ok (.aload_n 0, 1) := by decide +kernel
theorem dX2_copyFrom_1 : decode cX2_copyFrom 1 = .ok (.aload_n 1, 1) := by decide +kernel
theorem dX2_copyFrom_2 : decode cX2_copyFrom 2 = .ok (.getfield 36, 3) := by decide +kernel
theorem dX2_copyFrom_5 : decode cX2_copyFrom 5 = .ok (.putfield 36, 3) := by decide +kernel
theorem dX2_copyFrom_8 : decode cX2_copyFrom 8 = .ok (.aload_n 1, 1) := by decide +kernel
theorem dX2_copyFrom_9 : decode cX2_copyFrom 9 = .ok (.getfield 9, 3) := by decide +kernel
theorem dX2_copyFrom_12 : decode cX2_copyFrom 12 = .ok (.iconst 0, 1) := by decide +kernel
theorem dX2_copyFrom_13 : decode cX2_copyFrom 13 = .ok (.aload_n 0, 1) := by decide +kernel
theorem dX2_copyFrom_14 : decode cX2_copyFrom 14 = .ok (.getfield 9, 3) := by decide +kernel
theorem dX2_copyFrom_17 : decode cX2_copyFrom 17 = .ok (.iconst 0, 1) := by decide +kernel
theorem dX2_copyFrom_18 : decode cX2_copyFrom 18 = .ok (.bipush 10, 2) := by decide +kernel
theorem dX2_copyFrom_20 : decode cX2_copyFrom 20 = .ok (.invokestatic 40, 3) := by decide +kernel
theorem dX2_copyFrom_23 : decode cX2_copyFrom 23 = .ok (.aload_n 1, 1) := by decide +kernel
theorem dX2_copyFrom_24 : decode cX2_copyFrom 24 = .ok (.getfield 15, 3) := by decide +kernel
theorem dX2_copyFrom_27 : decode cX2_copyFrom 27 = .ok (.iconst 0, 1) := by decide +kernel
theorem dX2_copyFrom_28 : decode cX2_copyFrom 28 = .ok (.aload_n 0, 1) := by decide +kernel
theorem dX2_copyFrom_29 : decode cX2_copyFrom 29 = .ok (.getfield 15, 3) := by decide +kernel
theorem dX2_copyFrom_32 : decode cX2_copyFrom 32 = .ok (.iconst 0, 1) := by decide +kernel
theorem dX2_copyFrom_33 : decode cX2_copyFrom 33 = .ok (.bipush 10, 2) := by decide +kernel
theorem dX2_copyFrom_35 : decode cX2_copyFrom 35 = .ok (.invokestatic 40, 3) := by decide +kernel
theorem dX2_copyFrom_38 : decode cX2_copyFrom 38 = .ok (.aload_n 1, 1) := by decide +kernel
theorem dX2_copyFrom_39 : decode cX2_copyFrom 39 = .ok (.getfield 18, 3) := by decide +kernel
theorem dX2_copyFrom_42 : decode cX2_copyFrom 42 = .ok (.iconst 0, 1) := by decide +kernel
theorem dX2_copyFrom_43 : decode cX2_copyFrom 43 = .ok (.aload_n 0, 1) := by decide +kernel
theorem dX2_copyFrom_44 : decode cX2_copyFrom 44 = .ok (.getfield 18, 3) := by decide +kernel
theorem dX2_copyFrom_47 : decode cX2_copyFrom 47 = .ok (.iconst 0, 1) := by decide +kernel
theorem dX2_copyFrom_48 : decode cX2_copyFrom 48 = .ok (.bipush 10, 2) := by decide +kernel
theorem dX2_copyFrom_50 : decode cX2_copyFrom 50 = .ok (.invokestatic 40, 3) := by decide +kernel
theorem dX2_copyFrom_53 : decode cX2_copyFrom 53 = .ok (.aload_n 1, 1) := by decide +kernel
theorem dX2_copyFrom_54 : decode cX2_copyFrom 54 = .ok (.getfield 21, 3) := by decide +kernel
theorem dX2_copyFrom_57 : decode cX2_copyFrom 57 = .ok (.iconst 0, 1) := by decide +kernel
theorem dX2_copyFrom_58 : decode cX2_copyFrom 58 = .ok (.aload_n 0, 1) := by decide +kernel
theorem dX2_copyFrom_59 : decode cX2_copyFrom 59 = .ok (.getfield 21, 3) := by decide +kernel
theorem dX2_copyFrom_62 : decode cX2_copyFrom 62 = .ok (.iconst 0, 1) := by decide +kernel
theorem dX2_copyFrom_63 : decode cX2_copyFrom 63 = .ok (.bipush 10, 2) := by decide +kernel
theorem dX2_copyFrom_65 : decode cX2_copyFrom 65 = .ok (.invokestatic 40, 3) := by decide +kernel
theorem dX2_copyFrom_68 : decode cX2_copyFrom 68 = .ok (.aload_n 1, 1) := by decide +kernel
theorem dX2_copyFrom_69 : decode cX2_copyFrom 69 = .ok (.getfield 24, 3) := by decide +kernel
theorem dX2_copyFrom_72 : decode cX2_copyFrom 72 = .ok (.iconst 0, 1) := by decide +kernel
theorem dX2_copyFrom_73 : decode cX2_copyFrom 73 = .ok (.aload_n 0, 1) := by decide +kernel
theorem dX2_copyFrom_74 : decode cX2_copyFrom 74 = .ok (.getfield 24, 3) := by decide +kernel
theorem dX2_copyFrom_77 : decode cX2_copyFrom 77 = .ok (.iconst 0, 1) := by decide +kernel
theorem dX2_copyFrom_78 : decode cX2_copyFrom 78 = .ok (.bipush 10, 2) := by decide +kernel
theorem dX2_copyFrom_80 : decode cX2_copyFrom 80 = .ok (.invokestatic 40, 3) := by decide +kernel
theorem dX2_copyFrom_83 : decode cX2_copyFrom 83 = .ok (.return_, 1) := by decide +kernel
theorem sX2_copyFrom_0 {a0 a1 : Value} (hv : am_rf a0 = true) (h : am_R E d mX2_copyFrom k n 1 [a0, a1] (a0 :: st) S iv Q) : am_R E d mX2_copyFrom k n 0 [a0, a1] st S iv Q := am_aload_n dX2_copyFrom_0 rfl rfl hv h
theorem sX2_copyFrom_1 {a0 a1 : Value} (hv : am_rf a1 = true) (h : am_R E d mX2_copyFrom k n 2 [a0, a1] (a1 :: st) S iv Q) : am_R E d mX2_copyFrom k n 1 [a0, a1] st S iv Q := am_aload_n dX2_copyFrom_1 rfl rfl hv h
theorem sX2_copyFrom_2 {ls : List Value} {a : Nat} (ha : S.1 a = some (.inl 2)) (h : am_R E d mX2_copyFrom k n 5 ls (.int (iv a 0) :: st) S iv Q) : am_R E d mX2_copyFrom k n 2 ls (.ref a :: st) S iv Q := am_getI (ci := 2) dX2_copyFrom_2 rfl rfl (by decide) wq_74 uq_2 rfl ha h
theorem sX2_copyFrom_5 {ls : List Value} {a : Nat} {x : Int32} (ha : S.1 a = some (.inl 2)) (h : am_R E d mX2_copyFrom k n 8 ls st S (am_w iv a 0 x) Q) : am_R E d mX2_copyFrom k n 5 ls (.int x :: .ref a :: st) S iv Q := am_putI (ci := 2) dX2_copyFrom_5 rfl rfl (by decide) wq_74 uq_2 tyX2_ok nmX2 (Or.inl rfl) rfl ha h
theorem sX2_copyFrom_8 {a0 a1 : Value} (hv : am_rf a1 = true) (h : am_R E d mX2_copyFrom k n 9 [a0, a1] (a1 :: st) S iv Q) : am_R E d mX2_copyFrom k n 8 [a0, a1] st S iv Q := am_aload_n dX2_copyFrom_8 rfl rfl hv h
theorem sX2_copyFrom_9 {ls : List Value} {a b : Nat} (ha : S.1 a = some (.inl 2)) (hb : S.2.1 a 1 = some b) (h : am_R E d mX2_copyFrom k n 12 ls (.ref b :: st) S iv Q) : am_R E d mX2_copyFrom k n 9 ls (.ref a :: st) S iv Q := am_getR (ci := 2) dX2_copyFrom_9 rfl rfl (by decide) wq_66 uq_2 rfl ha hb h
theorem sX2_copyFrom_12 {a0 a1 : Value} (h : am_R E d mX2_copyFrom k n 13 [a0, a1] (.int 0 :: st) S iv Q) : am_R E d mX2_copyFrom k n 12 [a0, a1] st S iv Q := am_iconst dX2_copyFrom_12 (by decide) h
theorem sX2_copyFrom_13 {a0 a1 : Value} (hv : am_rf a0 = true) (h : am_R E d mX2_copyFrom k n 14 [a0, a1] (a0 :: st) S iv Q) : am_R E d mX2_copyFrom k n 13 [a0, a1] st S iv Q := am_aload_n dX2_copyFrom_13 rfl rfl hv h
theorem sX2_copyFrom_14 {ls : List Value} {a b : Nat} (ha : S.1 a = some (.inl 2)) (hb : S.2.1 a 1 = some b) (h : am_R E d mX2_copyFrom k n 17 ls (.ref b :: st) S iv Q) : am_R E d mX2_copyFrom k n 14 ls (.ref a :: st) S iv Q := am_getR (ci := 2) dX2_copyFrom_14 rfl rfl (by decide) wq_66 uq_2 rfl ha hb h
theorem sX2_copyFrom_17 {a0 a1 : Value} (h : am_R E d mX2_copyFrom k n 18 [a0, a1] (.int 0 :: st) S iv Q) : am_R E d mX2_copyFrom k n 17 [a0, a1] st S iv Q := am_iconst dX2_copyFrom_17 (by decide) h
theorem sX2_copyFrom_18 {a0 a1 : Value} (h : am_R E d mX2_copyFrom k n 20 [a0, a1] (.int 10 :: st) S iv Q) : am_R E d mX2_copyFrom k n 18 [a0, a1] st S iv Q := am_bipush dX2_copyFrom_18 (by decide) h
theorem sX2_copyFrom_20 {ls : List Value} {a0 a n0 n1 : Nat} {sp dp x : Int32} (ha0 : S.1 a0 = some (.inr (.int, n0))) (ha : S.1 a = some (.inr (.int, n1))) (g1 : ¬ sp < 0) (g2 : ¬ dp < 0) (g3 : ¬ x < 0) (g4 : sp.toNatClampNeg + x.toNatClampNeg ≤ n0) (g5 : dp.toNatClampNeg + x.toNatClampNeg ≤ n1) (hst : (st.map fun v => v.category).sum ≤ 8) (h : am_R E (d + 2) mX2_copyFrom k n 23 ls st S (fun b => if b = a then va_cpy (iv a0) (iv a) sp.toNatClampNeg dp.toNatClampNeg x.toNatClampNeg else iv b) Q) : am_R E (d + 2) mX2_copyFrom k n 20 ls (.int x :: .int dp :: .ref a :: .int sp :: .ref a0 :: st) S iv Q := am_copy dX2_copyFrom_20 wq_75 wq_76 wq_77 wq_78 ha0 ha g1 g2 g3 g4 g5 hst (by omega) h
theorem sX2_copyFrom_23 {a0 a1 : Value} (hv : am_rf a1 = true) (h : am_R E d mX2_copyFrom k n 24 [a0, a1] (a1 :: st) S iv Q) : am_R E d mX2_copyFrom k n 23 [a0, a1] st S iv Q := am_aload_n dX2_copyFrom_23 rfl rfl hv h
theorem sX2_copyFrom_24 {ls : List Value} {a b : Nat} (ha : S.1 a = some (.inl 2)) (hb : S.2.1 a 2 = some b) (h : am_R E d mX2_copyFrom k n 27 ls (.ref b :: st) S iv Q) : am_R E d mX2_copyFrom k n 24 ls (.ref a :: st) S iv Q := am_getR (ci := 2) dX2_copyFrom_24 rfl rfl (by decide) wq_67 uq_2 rfl ha hb h
theorem sX2_copyFrom_27 {a0 a1 : Value} (h : am_R E d mX2_copyFrom k n 28 [a0, a1] (.int 0 :: st) S iv Q) : am_R E d mX2_copyFrom k n 27 [a0, a1] st S iv Q := am_iconst dX2_copyFrom_27 (by decide) h
theorem sX2_copyFrom_28 {a0 a1 : Value} (hv : am_rf a0 = true) (h : am_R E d mX2_copyFrom k n 29 [a0, a1] (a0 :: st) S iv Q) : am_R E d mX2_copyFrom k n 28 [a0, a1] st S iv Q := am_aload_n dX2_copyFrom_28 rfl rfl hv h
theorem sX2_copyFrom_29 {ls : List Value} {a b : Nat} (ha : S.1 a = some (.inl 2)) (hb : S.2.1 a 2 = some b) (h : am_R E d mX2_copyFrom k n 32 ls (.ref b :: st) S iv Q) : am_R E d mX2_copyFrom k n 29 ls (.ref a :: st) S iv Q := am_getR (ci := 2) dX2_copyFrom_29 rfl rfl (by decide) wq_67 uq_2 rfl ha hb h
theorem sX2_copyFrom_32 {a0 a1 : Value} (h : am_R E d mX2_copyFrom k n 33 [a0, a1] (.int 0 :: st) S iv Q) : am_R E d mX2_copyFrom k n 32 [a0, a1] st S iv Q := am_iconst dX2_copyFrom_32 (by decide) h
theorem sX2_copyFrom_33 {a0 a1 : Value} (h : am_R E d mX2_copyFrom k n 35 [a0, a1] (.int 10 :: st) S iv Q) : am_R E d mX2_copyFrom k n 33 [a0, a1] st S iv Q := am_bipush dX2_copyFrom_33 (by decide) h
theorem sX2_copyFrom_35 {ls : List Value} {a0 a n0 n1 : Nat} {sp dp x : Int32} (ha0 : S.1 a0 = some (.inr (.int, n0))) (ha : S.1 a = some (.inr (.int, n1))) (g1 : ¬ sp < 0) (g2 : ¬ dp < 0) (g3 : ¬ x < 0) (g4 : sp.toNatClampNeg + x.toNatClampNeg ≤ n0) (g5 : dp.toNatClampNeg + x.toNatClampNeg ≤ n1) (hst : (st.map fun v => v.category).sum ≤ 8) (h : am_R E (d + 2) mX2_copyFrom k n 38 ls st S (fun b => if b = a then va_cpy (iv a0) (iv a) sp.toNatClampNeg dp.toNatClampNeg x.toNatClampNeg else iv b) Q) : am_R E (d + 2) mX2_copyFrom k n 35 ls (.int x :: .int dp :: .ref a :: .int sp :: .ref a0 :: st) S iv Q := am_copy dX2_copyFrom_35 wq_75 wq_76 wq_77 wq_78 ha0 ha g1 g2 g3 g4 g5 hst (by omega) h
theorem sX2_copyFrom_38 {a0 a1 : Value} (hv : am_rf a1 = true) (h : am_R E d mX2_copyFrom k n 39 [a0, a1] (a1 :: st) S iv Q) : am_R E d mX2_copyFrom k n 38 [a0, a1] st S iv Q := am_aload_n dX2_copyFrom_38 rfl rfl hv h
theorem sX2_copyFrom_39 {ls : List Value} {a b : Nat} (ha : S.1 a = some (.inl 2)) (hb : S.2.1 a 3 = some b) (h : am_R E d mX2_copyFrom k n 42 ls (.ref b :: st) S iv Q) : am_R E d mX2_copyFrom k n 39 ls (.ref a :: st) S iv Q := am_getR (ci := 2) dX2_copyFrom_39 rfl rfl (by decide) wq_68 uq_2 rfl ha hb h
theorem sX2_copyFrom_42 {a0 a1 : Value} (h : am_R E d mX2_copyFrom k n 43 [a0, a1] (.int 0 :: st) S iv Q) : am_R E d mX2_copyFrom k n 42 [a0, a1] st S iv Q := am_iconst dX2_copyFrom_42 (by decide) h
theorem sX2_copyFrom_43 {a0 a1 : Value} (hv : am_rf a0 = true) (h : am_R E d mX2_copyFrom k n 44 [a0, a1] (a0 :: st) S iv Q) : am_R E d mX2_copyFrom k n 43 [a0, a1] st S iv Q := am_aload_n dX2_copyFrom_43 rfl rfl hv h
theorem sX2_copyFrom_44 {ls : List Value} {a b : Nat} (ha : S.1 a = some (.inl 2)) (hb : S.2.1 a 3 = some b) (h : am_R E d mX2_copyFrom k n 47 ls (.ref b :: st) S iv Q) : am_R E d mX2_copyFrom k n 44 ls (.ref a :: st) S iv Q := am_getR (ci := 2) dX2_copyFrom_44 rfl rfl (by decide) wq_68 uq_2 rfl ha hb h
theorem sX2_copyFrom_47 {a0 a1 : Value} (h : am_R E d mX2_copyFrom k n 48 [a0, a1] (.int 0 :: st) S iv Q) : am_R E d mX2_copyFrom k n 47 [a0, a1] st S iv Q := am_iconst dX2_copyFrom_47 (by decide) h
theorem sX2_copyFrom_48 {a0 a1 : Value} (h : am_R E d mX2_copyFrom k n 50 [a0, a1] (.int 10 :: st) S iv Q) : am_R E d mX2_copyFrom k n 48 [a0, a1] st S iv Q := am_bipush dX2_copyFrom_48 (by decide) h
theorem sX2_copyFrom_50 {ls : List Value} {a0 a n0 n1 : Nat} {sp dp x : Int32} (ha0 : S.1 a0 = some (.inr (.int, n0))) (ha : S.1 a = some (.inr (.int, n1))) (g1 : ¬ sp < 0) (g2 : ¬ dp < 0) (g3 : ¬ x < 0) (g4 : sp.toNatClampNeg + x.toNatClampNeg ≤ n0) (g5 : dp.toNatClampNeg + x.toNatClampNeg ≤ n1) (hst : (st.map fun v => v.category).sum ≤ 8) (h : am_R E (d + 2) mX2_copyFrom k n 53 ls st S (fun b => if b = a then va_cpy (iv a0) (iv a) sp.toNatClampNeg dp.toNatClampNeg x.toNatClampNeg else iv b) Q) : am_R E (d + 2) mX2_copyFrom k n 50 ls (.int x :: .int dp :: .ref a :: .int sp :: .ref a0 :: st) S iv Q := am_copy dX2_copyFrom_50 wq_75 wq_76 wq_77 wq_78 ha0 ha g1 g2 g3 g4 g5 hst (by omega) h
theorem sX2_copyFrom_53 {a0 a1 : Value} (hv : am_rf a1 = true) (h : am_R E d mX2_copyFrom k n 54 [a0, a1] (a1 :: st) S iv Q) : am_R E d mX2_copyFrom k n 53 [a0, a1] st S iv Q := am_aload_n dX2_copyFrom_53 rfl rfl hv h
theorem sX2_copyFrom_54 {ls : List Value} {a b : Nat} (ha : S.1 a = some (.inl 2)) (hb : S.2.1 a 4 = some b) (h : am_R E d mX2_copyFrom k n 57 ls (.ref b :: st) S iv Q) : am_R E d mX2_copyFrom k n 54 ls (.ref a :: st) S iv Q := am_getR (ci := 2) dX2_copyFrom_54 rfl rfl (by decide) wq_69 uq_2 rfl ha hb h
theorem sX2_copyFrom_57 {a0 a1 : Value} (h : am_R E d mX2_copyFrom k n 58 [a0, a1] (.int 0 :: st) S iv Q) : am_R E d mX2_copyFrom k n 57 [a0, a1] st S iv Q := am_iconst dX2_copyFrom_57 (by decide) h
theorem sX2_copyFrom_58 {a0 a1 : Value} (hv : am_rf a0 = true) (h : am_R E d mX2_copyFrom k n 59 [a0, a1] (a0 :: st) S iv Q) : am_R E d mX2_copyFrom k n 58 [a0, a1] st S iv Q := am_aload_n dX2_copyFrom_58 rfl rfl hv h
theorem sX2_copyFrom_59 {ls : List Value} {a b : Nat} (ha : S.1 a = some (.inl 2)) (hb : S.2.1 a 4 = some b) (h : am_R E d mX2_copyFrom k n 62 ls (.ref b :: st) S iv Q) : am_R E d mX2_copyFrom k n 59 ls (.ref a :: st) S iv Q := am_getR (ci := 2) dX2_copyFrom_59 rfl rfl (by decide) wq_69 uq_2 rfl ha hb h
theorem sX2_copyFrom_62 {a0 a1 : Value} (h : am_R E d mX2_copyFrom k n 63 [a0, a1] (.int 0 :: st) S iv Q) : am_R E d mX2_copyFrom k n 62 [a0, a1] st S iv Q := am_iconst dX2_copyFrom_62 (by decide) h
theorem sX2_copyFrom_63 {a0 a1 : Value} (h : am_R E d mX2_copyFrom k n 65 [a0, a1] (.int 10 :: st) S iv Q) : am_R E d mX2_copyFrom k n 63 [a0, a1] st S iv Q := am_bipush dX2_copyFrom_63 (by decide) h
theorem sX2_copyFrom_65 {ls : List Value} {a0 a n0 n1 : Nat} {sp dp x : Int32} (ha0 : S.1 a0 = some (.inr (.int, n0))) (ha : S.1 a = some (.inr (.int, n1))) (g1 : ¬ sp < 0) (g2 : ¬ dp < 0) (g3 : ¬ x < 0) (g4 : sp.toNatClampNeg + x.toNatClampNeg ≤ n0) (g5 : dp.toNatClampNeg + x.toNatClampNeg ≤ n1) (hst : (st.map fun v => v.category).sum ≤ 8) (h : am_R E (d + 2) mX2_copyFrom k n 68 ls st S (fun b => if b = a then va_cpy (iv a0) (iv a) sp.toNatClampNeg dp.toNatClampNeg x.toNatClampNeg else iv b) Q) : am_R E (d + 2) mX2_copyFrom k n 65 ls (.int x :: .int dp :: .ref a :: .int sp :: .ref a0 :: st) S iv Q := am_copy dX2_copyFrom_65 wq_75 wq_76 wq_77 wq_78 ha0 ha g1 g2 g3 g4 g5 hst (by omega) h
theorem sX2_copyFrom_68 {a0 a1 : Value} (hv : am_rf a1 = true) (h : am_R E d mX2_copyFrom k n 69 [a0, a1] (a1 :: st) S iv Q) : am_R E d mX2_copyFrom k n 68 [a0, a1] st S iv Q := am_aload_n dX2_copyFrom_68 rfl rfl hv h
theorem sX2_copyFrom_69 {ls : List Value} {a b : Nat} (ha : S.1 a = some (.inl 2)) (hb : S.2.1 a 5 = some b) (h : am_R E d mX2_copyFrom k n 72 ls (.ref b :: st) S iv Q) : am_R E d mX2_copyFrom k n 69 ls (.ref a :: st) S iv Q := am_getR (ci := 2) dX2_copyFrom_69 rfl rfl (by decide) wq_70 uq_2 rfl ha hb h
theorem sX2_copyFrom_72 {a0 a1 : Value} (h : am_R E d mX2_copyFrom k n 73 [a0, a1] (.int 0 :: st) S iv Q) : am_R E d mX2_copyFrom k n 72 [a0, a1] st S iv Q := am_iconst dX2_copyFrom_72 (by decide) h
theorem sX2_copyFrom_73 {a0 a1 : Value} (hv : am_rf a0 = true) (h : am_R E d mX2_copyFrom k n 74 [a0, a1] (a0 :: st) S iv Q) : am_R E d mX2_copyFrom k n 73 [a0, a1] st S iv Q := am_aload_n dX2_copyFrom_73 rfl rfl hv h
theorem sX2_copyFrom_74 {ls : List Value} {a b : Nat} (ha : S.1 a = some (.inl 2)) (hb : S.2.1 a 5 = some b) (h : am_R E d mX2_copyFrom k n 77 ls (.ref b :: st) S iv Q) : am_R E d mX2_copyFrom k n 74 ls (.ref a :: st) S iv Q := am_getR (ci := 2) dX2_copyFrom_74 rfl rfl (by decide) wq_70 uq_2 rfl ha hb h
theorem sX2_copyFrom_77 {a0 a1 : Value} (h : am_R E d mX2_copyFrom k n 78 [a0, a1] (.int 0 :: st) S iv Q) : am_R E d mX2_copyFrom k n 77 [a0, a1] st S iv Q := am_iconst dX2_copyFrom_77 (by decide) h
theorem sX2_copyFrom_78 {a0 a1 : Value} (h : am_R E d mX2_copyFrom k n 80 [a0, a1] (.int 10 :: st) S iv Q) : am_R E d mX2_copyFrom k n 78 [a0, a1] st S iv Q := am_bipush dX2_copyFrom_78 (by decide) h
theorem sX2_copyFrom_80 {ls : List Value} {a0 a n0 n1 : Nat} {sp dp x : Int32} (ha0 : S.1 a0 = some (.inr (.int, n0))) (ha : S.1 a = some (.inr (.int, n1))) (g1 : ¬ sp < 0) (g2 : ¬ dp < 0) (g3 : ¬ x < 0) (g4 : sp.toNatClampNeg + x.toNatClampNeg ≤ n0) (g5 : dp.toNatClampNeg + x.toNatClampNeg ≤ n1) (hst : (st.map fun v => v.category).sum ≤ 8) (h : am_R E (d + 2) mX2_copyFrom k n 83 ls st S (fun b => if b = a then va_cpy (iv a0) (iv a) sp.toNatClampNeg dp.toNatClampNeg x.toNatClampNeg else iv b) Q) : am_R E (d + 2) mX2_copyFrom k n 80 ls (.int x :: .int dp :: .ref a :: .int sp :: .ref a0 :: st) S iv Q := am_copy dX2_copyFrom_80 wq_75 wq_76 wq_77 wq_78 ha0 ha g1 g2 g3 g4 g5 hst (by omega) h
theorem sX2_copyFrom_83 {ls : List Value} (h : Q (.inl none) S iv) : am_R E d mX2_copyFrom k n 83 ls [] S iv Q := am_return dX2_copyFrom_83 rfl h
theorem dX2_columnsApart_0 : decode cX2_columnsApart 0 = .ok (.iconst 0, 1) := by decide +kernel
theorem dX2_columnsApart_1 : decode cX2_columnsApart 1 = .ok (.aload_n 0, 1) := by decide +kernel
theorem dX2_columnsApart_2 : decode cX2_columnsApart 2 = .ok (.getfield 15, 3) := by decide +kernel
theorem dX2_columnsApart_5 : decode cX2_columnsApart 5 = .ok (.iload_n 1, 1) := by decide +kernel
theorem dX2_columnsApart_6 : decode cX2_columnsApart 6 = .ok (.iaload, 1) := by decide +kernel
theorem dX2_columnsApart_7 : decode cX2_columnsApart 7 = .ok (.aload_n 0, 1) := by decide +kernel
theorem dX2_columnsApart_8 : decode cX2_columnsApart 8 = .ok (.getfield 18, 3) := by decide +kernel
theorem dX2_columnsApart_11 : decode cX2_columnsApart 11 = .ok (.iload_n 2, 1) := by decide +kernel
theorem dX2_columnsApart_12 : decode cX2_columnsApart 12 = .ok (.iaload, 1) := by decide +kernel
theorem dX2_columnsApart_13 : decode cX2_columnsApart 13 = .ok (.isub, 1) := by decide +kernel
theorem dX2_columnsApart_14 : decode cX2_columnsApart 14 = .ok (.aload_n 0, 1) := by decide +kernel
theorem dX2_columnsApart_15 : decode cX2_columnsApart 15 = .ok (.getfield 15, 3) := by decide +kernel
theorem dX2_columnsApart_18 : decode cX2_columnsApart 18 = .ok (.iload_n 2, 1) := by decide +kernel
theorem dX2_columnsApart_19 : decode cX2_columnsApart 19 = .ok (.iaload, 1) := by decide +kernel
theorem dX2_columnsApart_20 : decode cX2_columnsApart 20 = .ok (.aload_n 0, 1) := by decide +kernel
theorem dX2_columnsApart_21 : decode cX2_columnsApart 21 = .ok (.getfield 18, 3) := by decide +kernel
theorem dX2_columnsApart_24 : decode cX2_columnsApart 24 = .ok (.iload_n 1, 1) := by decide +kernel
theorem dX2_columnsApart_25 : decode cX2_columnsApart 25 = .ok (.iaload, 1) := by decide +kernel
theorem dX2_columnsApart_26 : decode cX2_columnsApart 26 = .ok (.isub, 1) := by decide +kernel
theorem dX2_columnsApart_27 : decode cX2_columnsApart 27 = .ok (.invokestatic 46, 3) := by decide +kernel
theorem dX2_columnsApart_30 : decode cX2_columnsApart 30 = .ok (.invokestatic 46, 3) := by decide +kernel
theorem dX2_columnsApart_33 : decode cX2_columnsApart 33 = .ok (.ireturn, 1) := by decide +kernel
theorem sX2_columnsApart_0 {a0 a1 a2 : Value} (h : am_R E d mX2_columnsApart k n 1 [a0, a1, a2] (.int 0 :: st) S iv Q) : am_R E d mX2_columnsApart k n 0 [a0, a1, a2] st S iv Q := am_iconst dX2_columnsApart_0 (by decide) h
theorem sX2_columnsApart_1 {a0 a1 a2 : Value} (hv : am_rf a0 = true) (h : am_R E d mX2_columnsApart k n 2 [a0, a1, a2] (a0 :: st) S iv Q) : am_R E d mX2_columnsApart k n 1 [a0, a1, a2] st S iv Q := am_aload_n dX2_columnsApart_1 rfl rfl hv h
theorem sX2_columnsApart_2 {ls : List Value} {a b : Nat} (ha : S.1 a = some (.inl 2)) (hb : S.2.1 a 2 = some b) (h : am_R E d mX2_columnsApart k n 5 ls (.ref b :: st) S iv Q) : am_R E d mX2_columnsApart k n 2 ls (.ref a :: st) S iv Q := am_getR (ci := 2) dX2_columnsApart_2 rfl rfl (by decide) wq_67 uq_2 rfl ha hb h
theorem sX2_columnsApart_5 {a0 a2 : Value} {x : Int32} (h : am_R E d mX2_columnsApart k n 6 [a0, .int x, a2] (.int x :: st) S iv Q) : am_R E d mX2_columnsApart k n 5 [a0, .int x, a2] st S iv Q := am_iload_n dX2_columnsApart_5 rfl rfl h
theorem sX2_columnsApart_6 {ls : List Value} {a m : Nat} {i : Int32} (ha : S.1 a = some (.inr (.int, m))) (hi : vp_in i m) (h : am_R E d mX2_columnsApart k n 7 ls (.int (iv a i.toNatClampNeg) :: st) S iv Q) : am_R E d mX2_columnsApart k n 6 ls (.int i :: .ref a :: st) S iv Q := am_iaload dX2_columnsApart_6 ha hi h
theorem sX2_columnsApart_7 {a0 a1 a2 : Value} (hv : am_rf a0 = true) (h : am_R E d mX2_columnsApart k n 8 [a0, a1, a2] (a0 :: st) S iv Q) : am_R E d mX2_columnsApart k n 7 [a0, a1, a2] st S iv Q := am_aload_n dX2_columnsApart_7 rfl rfl hv h
theorem sX2_columnsApart_8 {ls : List Value} {a b : Nat} (ha : S.1 a = some (.inl 2)) (hb : S.2.1 a 3 = some b) (h : am_R E d mX2_columnsApart k n 11 ls (.ref b :: st) S iv Q) : am_R E d mX2_columnsApart k n 8 ls (.ref a :: st) S iv Q := am_getR (ci := 2) dX2_columnsApart_8 rfl rfl (by decide) wq_68 uq_2 rfl ha hb h
theorem sX2_columnsApart_11 {a0 a1 : Value} {x : Int32} (h : am_R E d mX2_columnsApart k n 12 [a0, a1, .int x] (.int x :: st) S iv Q) : am_R E d mX2_columnsApart k n 11 [a0, a1, .int x] st S iv Q := am_iload_n dX2_columnsApart_11 rfl rfl h
theorem sX2_columnsApart_12 {ls : List Value} {a m : Nat} {i : Int32} (ha : S.1 a = some (.inr (.int, m))) (hi : vp_in i m) (h : am_R E d mX2_columnsApart k n 13 ls (.int (iv a i.toNatClampNeg) :: st) S iv Q) : am_R E d mX2_columnsApart k n 12 ls (.int i :: .ref a :: st) S iv Q := am_iaload dX2_columnsApart_12 ha hi h
theorem sX2_columnsApart_13 {ls : List Value} {x y : Int32} (h : am_R E d mX2_columnsApart k n 14 ls (.int (x - y) :: st) S iv Q) : am_R E d mX2_columnsApart k n 13 ls (.int y :: .int x :: st) S iv Q := am_isub dX2_columnsApart_13 h
theorem sX2_columnsApart_14 {a0 a1 a2 : Value} (hv : am_rf a0 = true) (h : am_R E d mX2_columnsApart k n 15 [a0, a1, a2] (a0 :: st) S iv Q) : am_R E d mX2_columnsApart k n 14 [a0, a1, a2] st S iv Q := am_aload_n dX2_columnsApart_14 rfl rfl hv h
theorem sX2_columnsApart_15 {ls : List Value} {a b : Nat} (ha : S.1 a = some (.inl 2)) (hb : S.2.1 a 2 = some b) (h : am_R E d mX2_columnsApart k n 18 ls (.ref b :: st) S iv Q) : am_R E d mX2_columnsApart k n 15 ls (.ref a :: st) S iv Q := am_getR (ci := 2) dX2_columnsApart_15 rfl rfl (by decide) wq_67 uq_2 rfl ha hb h
theorem sX2_columnsApart_18 {a0 a1 : Value} {x : Int32} (h : am_R E d mX2_columnsApart k n 19 [a0, a1, .int x] (.int x :: st) S iv Q) : am_R E d mX2_columnsApart k n 18 [a0, a1, .int x] st S iv Q := am_iload_n dX2_columnsApart_18 rfl rfl h
theorem sX2_columnsApart_19 {ls : List Value} {a m : Nat} {i : Int32} (ha : S.1 a = some (.inr (.int, m))) (hi : vp_in i m) (h : am_R E d mX2_columnsApart k n 20 ls (.int (iv a i.toNatClampNeg) :: st) S iv Q) : am_R E d mX2_columnsApart k n 19 ls (.int i :: .ref a :: st) S iv Q := am_iaload dX2_columnsApart_19 ha hi h
theorem sX2_columnsApart_20 {a0 a1 a2 : Value} (hv : am_rf a0 = true) (h : am_R E d mX2_columnsApart k n 21 [a0, a1, a2] (a0 :: st) S iv Q) : am_R E d mX2_columnsApart k n 20 [a0, a1, a2] st S iv Q := am_aload_n dX2_columnsApart_20 rfl rfl hv h
theorem sX2_columnsApart_21 {ls : List Value} {a b : Nat} (ha : S.1 a = some (.inl 2)) (hb : S.2.1 a 3 = some b) (h : am_R E d mX2_columnsApart k n 24 ls (.ref b :: st) S iv Q) : am_R E d mX2_columnsApart k n 21 ls (.ref a :: st) S iv Q := am_getR (ci := 2) dX2_columnsApart_21 rfl rfl (by decide) wq_68 uq_2 rfl ha hb h
theorem sX2_columnsApart_24 {a0 a2 : Value} {x : Int32} (h : am_R E d mX2_columnsApart k n 25 [a0, .int x, a2] (.int x :: st) S iv Q) : am_R E d mX2_columnsApart k n 24 [a0, .int x, a2] st S iv Q := am_iload_n dX2_columnsApart_24 rfl rfl h
theorem sX2_columnsApart_25 {ls : List Value} {a m : Nat} {i : Int32} (ha : S.1 a = some (.inr (.int, m))) (hi : vp_in i m) (h : am_R E d mX2_columnsApart k n 26 ls (.int (iv a i.toNatClampNeg) :: st) S iv Q) : am_R E d mX2_columnsApart k n 25 ls (.int i :: .ref a :: st) S iv Q := am_iaload dX2_columnsApart_25 ha hi h
theorem sX2_columnsApart_26 {ls : List Value} {x y : Int32} (h : am_R E d mX2_columnsApart k n 27 ls (.int (x - y) :: st) S iv Q) : am_R E d mX2_columnsApart k n 26 ls (.int y :: .int x :: st) S iv Q := am_isub dX2_columnsApart_26 h
theorem sX2_columnsApart_27 {ls : List Value} {x1 x2 : Value} (hst : (st.map fun v => v.category).sum ≤ 8) (hM : am_M E d mJ9_max_7cf53 0 0 [x1, x2] S iv (am_K3 E (d + 1) mX2_columnsApart k n 27 ls st Q)) : am_R E (d + 1) mX2_columnsApart k n 27 ls (x2 :: x1 :: st) S iv Q := am_cS (M' := mJ9_max_7cf53) (as := [x1, x2]) dX2_columnsApart_27 rfl wq_79 wq_53 wq_50 wq_49 hy_J9_max_7cf53 (by decide) hst (by omega) (by omega) hM
theorem sX2_columnsApart_27_k {ls : List Value} {x1 x2 : Value} {k' n' : Nat} (hst : (st.map fun v => v.category).sum ≤ 8) (hM : am_M E d mJ9_max_7cf53 k' n' [x1, x2] S iv (am_K3 E (d + 1) mX2_columnsApart k n 27 ls st Q)) : am_R E (d + 1) mX2_columnsApart (k' + k) (n' + n) 27 ls (x2 :: x1 :: st) S iv Q := am_cS (M' := mJ9_max_7cf53) (as := [x1, x2]) dX2_columnsApart_27 rfl wq_79 wq_53 wq_50 wq_49 hy_J9_max_7cf53 (by decide) hst (by omega) (by omega) hM
theorem sX2_columnsApart_30 {ls : List Value} {x1 x2 : Value} (hst : (st.map fun v => v.category).sum ≤ 8) (hM : am_M E d mJ9_max_7cf53 0 0 [x1, x2] S iv (am_K3 E (d + 1) mX2_columnsApart k n 30 ls st Q)) : am_R E (d + 1) mX2_columnsApart k n 30 ls (x2 :: x1 :: st) S iv Q := am_cS (M' := mJ9_max_7cf53) (as := [x1, x2]) dX2_columnsApart_30 rfl wq_79 wq_53 wq_50 wq_49 hy_J9_max_7cf53 (by decide) hst (by omega) (by omega) hM
theorem sX2_columnsApart_30_k {ls : List Value} {x1 x2 : Value} {k' n' : Nat} (hst : (st.map fun v => v.category).sum ≤ 8) (hM : am_M E d mJ9_max_7cf53 k' n' [x1, x2] S iv (am_K3 E (d + 1) mX2_columnsApart k n 30 ls st Q)) : am_R E (d + 1) mX2_columnsApart (k' + k) (n' + n) 30 ls (x2 :: x1 :: st) S iv Q := am_cS (M' := mJ9_max_7cf53) (as := [x1, x2]) dX2_columnsApart_30 rfl wq_79 wq_53 wq_50 wq_49 hy_J9_max_7cf53 (by decide) hst (by omega) (by omega) hM
theorem sX2_columnsApart_33 {ls : List Value} {x : Int32} (h : Q (.inl (some (.int x))) S iv) : am_R E d mX2_columnsApart k n 33 ls [.int x] S iv Q := am_ireturn dX2_columnsApart_33 rfl h
theorem dX2_canMarry_0 : decode cX2_canMarry 0 = .ok (.aload_n 0, 1) := by decide +kernel
theorem dX2_canMarry_1 : decode cX2_canMarry 1 = .ok (.getfield 9, 3) := by decide +kernel
theorem dX2_canMarry_4 : decode cX2_canMarry 4 = .ok (.iload_n 1, 1) := by decide +kernel
theorem dX2_canMarry_5 : decode cX2_canMarry 5 = .ok (.iaload, 1) := by decide +kernel
theorem dX2_canMarry_6 : decode cX2_canMarry 6 = .ok (.ifCond .ne 57, 3) := by decide +kernel
theorem dX2_canMarry_9 : decode cX2_canMarry 9 = .ok (.aload_n 0, 1) := by decide +kernel
theorem dX2_canMarry_10 : decode cX2_canMarry 10 = .ok (.getfield 9, 3) := by decide +kernel
theorem dX2_canMarry_13 : decode cX2_canMarry 13 = .ok (.iload_n 2, 1) := by decide +kernel
theorem dX2_canMarry_14 : decode cX2_canMarry 14 = .ok (.iaload, 1) := by decide +kernel
theorem dX2_canMarry_15 : decode cX2_canMarry 15 = .ok (.ifCond .ne 48, 3) := by decide +kernel
theorem dX2_canMarry_18 : decode cX2_canMarry 18 = .ok (.aload_n 0, 1) := by decide +kernel
theorem dX2_canMarry_19 : decode cX2_canMarry 19 = .ok (.iload_n 1, 1) := by decide +kernel
theorem dX2_canMarry_20 : decode cX2_canMarry 20 = .ok (.invokevirtual 52, 3) := by decide +kernel
theorem dX2_canMarry_23 : decode cX2_canMarry 23 = .ok (.ifCond .ne 40, 3) := by decide +kernel
theorem dX2_canMarry_26 : decode cX2_canMarry 26 = .ok (.aload_n 0, 1) := by decide +kernel
theorem dX2_canMarry_27 : decode cX2_canMarry 27 = .ok (.iload_n 2, 1) := by decide +kernel
theorem dX2_canMarry_28 : decode cX2_canMarry 28 = .ok (.invokevirtual 52, 3) := by decide +kernel
theorem dX2_canMarry_31 : decode cX2_canMarry 31 = .ok (.ifCond .ne 32, 3) := by decide +kernel
theorem dX2_canMarry_34 : decode cX2_canMarry 34 = .ok (.aload_n 0, 1) := by decide +kernel
theorem dX2_canMarry_35 : decode cX2_canMarry 35 = .ok (.getfield 21, 3) := by decide +kernel
theorem dX2_canMarry_38 : decode cX2_canMarry 38 = .ok (.iload_n 1, 1) := by decide +kernel
theorem dX2_canMarry_39 : decode cX2_canMarry 39 = .ok (.iaload, 1) := by decide +kernel
theorem dX2_canMarry_40 : decode cX2_canMarry 40 = .ok (.aload_n 0, 1) := by decide +kernel
theorem dX2_canMarry_41 : decode cX2_canMarry 41 = .ok (.getfield 21, 3) := by decide +kernel
theorem dX2_canMarry_44 : decode cX2_canMarry 44 = .ok (.iload_n 2, 1) := by decide +kernel
theorem dX2_canMarry_45 : decode cX2_canMarry 45 = .ok (.iaload, 1) := by decide +kernel
theorem dX2_canMarry_46 : decode cX2_canMarry 46 = .ok (.if_icmp .ne 17, 3) := by decide +kernel
theorem dX2_canMarry_49 : decode cX2_canMarry 49 = .ok (.aload_n 0, 1) := by decide +kernel
theorem dX2_canMarry_50 : decode cX2_canMarry 50 = .ok (.iload_n 1, 1) := by decide +kernel
theorem dX2_canMarry_51 : decode cX2_canMarry 51 = .ok (.iload_n 2, 1) := by decide +kernel
theorem dX2_canMarry_52 : decode cX2_canMarry 52 = .ok (.invokevirtual 56, 3) := by decide +kernel
theorem dX2_canMarry_55 : decode cX2_canMarry 55 = .ok (.iconst 1, 1) := by decide +kernel
theorem dX2_canMarry_56 : decode cX2_canMarry 56 = .ok (.if_icmp .ne 7, 3) := by decide +kernel
theorem dX2_canMarry_59 : decode cX2_canMarry 59 = .ok (.iconst 1, 1) := by decide +kernel
theorem dX2_canMarry_60 : decode cX2_canMarry 60 = .ok (.goto 4, 3) := by decide +kernel
theorem dX2_canMarry_63 : decode cX2_canMarry 63 = .ok (.iconst 0, 1) := by decide +kernel
theorem dX2_canMarry_64 : decode cX2_canMarry 64 = .ok (.ireturn, 1) := by decide +kernel
theorem sX2_canMarry_0 {a0 a1 a2 : Value} (hv : am_rf a0 = true) (h : am_R E d mX2_canMarry k n 1 [a0, a1, a2] (a0 :: st) S iv Q) : am_R E d mX2_canMarry k n 0 [a0, a1, a2] st S iv Q := am_aload_n dX2_canMarry_0 rfl rfl hv h
theorem sX2_canMarry_1 {ls : List Value} {a b : Nat} (ha : S.1 a = some (.inl 2)) (hb : S.2.1 a 1 = some b) (h : am_R E d mX2_canMarry k n 4 ls (.ref b :: st) S iv Q) : am_R E d mX2_canMarry k n 1 ls (.ref a :: st) S iv Q := am_getR (ci := 2) dX2_canMarry_1 rfl rfl (by decide) wq_66 uq_2 rfl ha hb h
theorem sX2_canMarry_4 {a0 a2 : Value} {x : Int32} (h : am_R E d mX2_canMarry k n 5 [a0, .int x, a2] (.int x :: st) S iv Q) : am_R E d mX2_canMarry k n 4 [a0, .int x, a2] st S iv Q := am_iload_n dX2_canMarry_4 rfl rfl h
theorem sX2_canMarry_5 {ls : List Value} {a m : Nat} {i : Int32} (ha : S.1 a = some (.inr (.int, m))) (hi : vp_in i m) (h : am_R E d mX2_canMarry k n 6 ls (.int (iv a i.toNatClampNeg) :: st) S iv Q) : am_R E d mX2_canMarry k n 5 ls (.int i :: .ref a :: st) S iv Q := am_iaload dX2_canMarry_5 ha hi h
theorem sX2_canMarry_6 {ls : List Value} {x : Int32} (kt : ¬ x = 0 → am_R E d mX2_canMarry k n 63 ls st S iv Q) (kf : x = 0 → am_R E d mX2_canMarry k n 9 ls st S iv Q) : am_R E d mX2_canMarry k n 6 ls (.int x :: st) S iv Q := am_if_ne dX2_canMarry_6 (by decide) kt kf
theorem sX2_canMarry_9 {a0 a1 a2 : Value} (hv : am_rf a0 = true) (h : am_R E d mX2_canMarry k n 10 [a0, a1, a2] (a0 :: st) S iv Q) : am_R E d mX2_canMarry k n 9 [a0, a1, a2] st S iv Q := am_aload_n dX2_canMarry_9 rfl rfl hv h
theorem sX2_canMarry_10 {ls : List Value} {a b : Nat} (ha : S.1 a = some (.inl 2)) (hb : S.2.1 a 1 = some b) (h : am_R E d mX2_canMarry k n 13 ls (.ref b :: st) S iv Q) : am_R E d mX2_canMarry k n 10 ls (.ref a :: st) S iv Q := am_getR (ci := 2) dX2_canMarry_10 rfl rfl (by decide) wq_66 uq_2 rfl ha hb h
theorem sX2_canMarry_13 {a0 a1 : Value} {x : Int32} (h : am_R E d mX2_canMarry k n 14 [a0, a1, .int x] (.int x :: st) S iv Q) : am_R E d mX2_canMarry k n 13 [a0, a1, .int x] st S iv Q := am_iload_n dX2_canMarry_13 rfl rfl h
theorem sX2_canMarry_14 {ls : List Value} {a m : Nat} {i : Int32} (ha : S.1 a = some (.inr (.int, m))) (hi : vp_in i m) (h : am_R E d mX2_canMarry k n 15 ls (.int (iv a i.toNatClampNeg) :: st) S iv Q) : am_R E d mX2_canMarry k n 14 ls (.int i :: .ref a :: st) S iv Q := am_iaload dX2_canMarry_14 ha hi h
theorem sX2_canMarry_15 {ls : List Value} {x : Int32} (kt : ¬ x = 0 → am_R E d mX2_canMarry k n 63 ls st S iv Q) (kf : x = 0 → am_R E d mX2_canMarry k n 18 ls st S iv Q) : am_R E d mX2_canMarry k n 15 ls (.int x :: st) S iv Q := am_if_ne dX2_canMarry_15 (by decide) kt kf
theorem sX2_canMarry_18 {a0 a1 a2 : Value} (hv : am_rf a0 = true) (h : am_R E d mX2_canMarry k n 19 [a0, a1, a2] (a0 :: st) S iv Q) : am_R E d mX2_canMarry k n 18 [a0, a1, a2] st S iv Q := am_aload_n dX2_canMarry_18 rfl rfl hv h
theorem sX2_canMarry_19 {a0 a2 : Value} {x : Int32} (h : am_R E d mX2_canMarry k n 20 [a0, .int x, a2] (.int x :: st) S iv Q) : am_R E d mX2_canMarry k n 19 [a0, .int x, a2] st S iv Q := am_iload_n dX2_canMarry_19 rfl rfl h
theorem sX2_canMarry_20 {ls : List Value} {x1 : Value} {a : Nat} (ha : S.1 a = some (.inl 2)) (hst : (st.map fun v => v.category).sum ≤ 8) (hM : am_M E d mX2_isWide 0 0 [.ref a, x1] S iv (am_K3 E (d + 1) mX2_canMarry k n 20 ls st Q)) : am_R E (d + 1) mX2_canMarry k n 20 ls (x1 :: .ref a :: st) S iv Q := am_cV (ci := 2) (M' := mX2_isWide) (as := [x1]) dX2_canMarry_20 rfl rfl rfl wq_83 wq_84 wq_85 wq_81 wq_80 hy_X2_isWide (by decide) ha hst (by omega) (by omega) hM
theorem sX2_canMarry_20_k {ls : List Value} {x1 : Value} {k' n' : Nat} {a : Nat} (ha : S.1 a = some (.inl 2)) (hst : (st.map fun v => v.category).sum ≤ 8) (hM : am_M E d mX2_isWide k' n' [.ref a, x1] S iv (am_K3 E (d + 1) mX2_canMarry k n 20 ls st Q)) : am_R E (d + 1) mX2_canMarry (k' + k) (n' + n) 20 ls (x1 :: .ref a :: st) S iv Q := am_cV (ci := 2) (M' := mX2_isWide) (as := [x1]) dX2_canMarry_20 rfl rfl rfl wq_83 wq_84 wq_85 wq_81 wq_80 hy_X2_isWide (by decide) ha hst (by omega) (by omega) hM
theorem sX2_canMarry_23 {ls : List Value} {x : Int32} (kt : ¬ x = 0 → am_R E d mX2_canMarry k n 63 ls st S iv Q) (kf : x = 0 → am_R E d mX2_canMarry k n 26 ls st S iv Q) : am_R E d mX2_canMarry k n 23 ls (.int x :: st) S iv Q := am_if_ne dX2_canMarry_23 (by decide) kt kf
theorem sX2_canMarry_26 {a0 a1 a2 : Value} (hv : am_rf a0 = true) (h : am_R E d mX2_canMarry k n 27 [a0, a1, a2] (a0 :: st) S iv Q) : am_R E d mX2_canMarry k n 26 [a0, a1, a2] st S iv Q := am_aload_n dX2_canMarry_26 rfl rfl hv h
theorem sX2_canMarry_27 {a0 a1 : Value} {x : Int32} (h : am_R E d mX2_canMarry k n 28 [a0, a1, .int x] (.int x :: st) S iv Q) : am_R E d mX2_canMarry k n 27 [a0, a1, .int x] st S iv Q := am_iload_n dX2_canMarry_27 rfl rfl h
theorem sX2_canMarry_28 {ls : List Value} {x1 : Value} {a : Nat} (ha : S.1 a = some (.inl 2)) (hst : (st.map fun v => v.category).sum ≤ 8) (hM : am_M E d mX2_isWide 0 0 [.ref a, x1] S iv (am_K3 E (d + 1) mX2_canMarry k n 28 ls st Q)) : am_R E (d + 1) mX2_canMarry k n 28 ls (x1 :: .ref a :: st) S iv Q := am_cV (ci := 2) (M' := mX2_isWide) (as := [x1]) dX2_canMarry_28 rfl rfl rfl wq_83 wq_84 wq_85 wq_81 wq_80 hy_X2_isWide (by decide) ha hst (by omega) (by omega) hM
theorem sX2_canMarry_28_k {ls : List Value} {x1 : Value} {k' n' : Nat} {a : Nat} (ha : S.1 a = some (.inl 2)) (hst : (st.map fun v => v.category).sum ≤ 8) (hM : am_M E d mX2_isWide k' n' [.ref a, x1] S iv (am_K3 E (d + 1) mX2_canMarry k n 28 ls st Q)) : am_R E (d + 1) mX2_canMarry (k' + k) (n' + n) 28 ls (x1 :: .ref a :: st) S iv Q := am_cV (ci := 2) (M' := mX2_isWide) (as := [x1]) dX2_canMarry_28 rfl rfl rfl wq_83 wq_84 wq_85 wq_81 wq_80 hy_X2_isWide (by decide) ha hst (by omega) (by omega) hM
theorem sX2_canMarry_31 {ls : List Value} {x : Int32} (kt : ¬ x = 0 → am_R E d mX2_canMarry k n 63 ls st S iv Q) (kf : x = 0 → am_R E d mX2_canMarry k n 34 ls st S iv Q) : am_R E d mX2_canMarry k n 31 ls (.int x :: st) S iv Q := am_if_ne dX2_canMarry_31 (by decide) kt kf
theorem sX2_canMarry_34 {a0 a1 a2 : Value} (hv : am_rf a0 = true) (h : am_R E d mX2_canMarry k n 35 [a0, a1, a2] (a0 :: st) S iv Q) : am_R E d mX2_canMarry k n 34 [a0, a1, a2] st S iv Q := am_aload_n dX2_canMarry_34 rfl rfl hv h
theorem sX2_canMarry_35 {ls : List Value} {a b : Nat} (ha : S.1 a = some (.inl 2)) (hb : S.2.1 a 4 = some b) (h : am_R E d mX2_canMarry k n 38 ls (.ref b :: st) S iv Q) : am_R E d mX2_canMarry k n 35 ls (.ref a :: st) S iv Q := am_getR (ci := 2) dX2_canMarry_35 rfl rfl (by decide) wq_69 uq_2 rfl ha hb h
theorem sX2_canMarry_38 {a0 a2 : Value} {x : Int32} (h : am_R E d mX2_canMarry k n 39 [a0, .int x, a2] (.int x :: st) S iv Q) : am_R E d mX2_canMarry k n 38 [a0, .int x, a2] st S iv Q := am_iload_n dX2_canMarry_38 rfl rfl h
theorem sX2_canMarry_39 {ls : List Value} {a m : Nat} {i : Int32} (ha : S.1 a = some (.inr (.int, m))) (hi : vp_in i m) (h : am_R E d mX2_canMarry k n 40 ls (.int (iv a i.toNatClampNeg) :: st) S iv Q) : am_R E d mX2_canMarry k n 39 ls (.int i :: .ref a :: st) S iv Q := am_iaload dX2_canMarry_39 ha hi h
theorem sX2_canMarry_40 {a0 a1 a2 : Value} (hv : am_rf a0 = true) (h : am_R E d mX2_canMarry k n 41 [a0, a1, a2] (a0 :: st) S iv Q) : am_R E d mX2_canMarry k n 40 [a0, a1, a2] st S iv Q := am_aload_n dX2_canMarry_40 rfl rfl hv h
theorem sX2_canMarry_41 {ls : List Value} {a b : Nat} (ha : S.1 a = some (.inl 2)) (hb : S.2.1 a 4 = some b) (h : am_R E d mX2_canMarry k n 44 ls (.ref b :: st) S iv Q) : am_R E d mX2_canMarry k n 41 ls (.ref a :: st) S iv Q := am_getR (ci := 2) dX2_canMarry_41 rfl rfl (by decide) wq_69 uq_2 rfl ha hb h
theorem sX2_canMarry_44 {a0 a1 : Value} {x : Int32} (h : am_R E d mX2_canMarry k n 45 [a0, a1, .int x] (.int x :: st) S iv Q) : am_R E d mX2_canMarry k n 44 [a0, a1, .int x] st S iv Q := am_iload_n dX2_canMarry_44 rfl rfl h
theorem sX2_canMarry_45 {ls : List Value} {a m : Nat} {i : Int32} (ha : S.1 a = some (.inr (.int, m))) (hi : vp_in i m) (h : am_R E d mX2_canMarry k n 46 ls (.int (iv a i.toNatClampNeg) :: st) S iv Q) : am_R E d mX2_canMarry k n 45 ls (.int i :: .ref a :: st) S iv Q := am_iaload dX2_canMarry_45 ha hi h
theorem sX2_canMarry_46 {ls : List Value} {x y : Int32} (kt : ¬ x = y → am_R E d mX2_canMarry k n 63 ls st S iv Q) (kf : x = y → am_R E d mX2_canMarry k n 49 ls st S iv Q) : am_R E d mX2_canMarry k n 46 ls (.int y :: .int x :: st) S iv Q := am_icmp_ne dX2_canMarry_46 (by decide) kt kf
theorem sX2_canMarry_49 {a0 a1 a2 : Value} (hv : am_rf a0 = true) (h : am_R E d mX2_canMarry k n 50 [a0, a1, a2] (a0 :: st) S iv Q) : am_R E d mX2_canMarry k n 49 [a0, a1, a2] st S iv Q := am_aload_n dX2_canMarry_49 rfl rfl hv h
theorem sX2_canMarry_50 {a0 a2 : Value} {x : Int32} (h : am_R E d mX2_canMarry k n 51 [a0, .int x, a2] (.int x :: st) S iv Q) : am_R E d mX2_canMarry k n 50 [a0, .int x, a2] st S iv Q := am_iload_n dX2_canMarry_50 rfl rfl h
theorem sX2_canMarry_51 {a0 a1 : Value} {x : Int32} (h : am_R E d mX2_canMarry k n 52 [a0, a1, .int x] (.int x :: st) S iv Q) : am_R E d mX2_canMarry k n 51 [a0, a1, .int x] st S iv Q := am_iload_n dX2_canMarry_51 rfl rfl h
theorem sX2_canMarry_52 {ls : List Value} {x1 x2 : Value} {a : Nat} (ha : S.1 a = some (.inl 2)) (hst : (st.map fun v => v.category).sum ≤ 8) (hM : am_M E d mX2_columnsApart 0 0 [.ref a, x1, x2] S iv (am_K3 E (d + 1) mX2_canMarry k n 52 ls st Q)) : am_R E (d + 1) mX2_canMarry k n 52 ls (x2 :: x1 :: .ref a :: st) S iv Q := am_cV (ci := 2) (M' := mX2_columnsApart) (as := [x1, x2]) dX2_canMarry_52 rfl rfl rfl wq_88 wq_89 wq_90 wq_81 wq_86 hy_X2_columnsApart (by decide) ha hst (by omega) (by omega) hM
theorem sX2_canMarry_52_k {ls : List Value} {x1 x2 : Value} {k' n' : Nat} {a : Nat} (ha : S.1 a = some (.inl 2)) (hst : (st.map fun v => v.category).sum ≤ 8) (hM : am_M E d mX2_columnsApart k' n' [.ref a, x1, x2] S iv (am_K3 E (d + 1) mX2_canMarry k n 52 ls st Q)) : am_R E (d + 1) mX2_canMarry (k' + k) (n' + n) 52 ls (x2 :: x1 :: .ref a :: st) S iv Q := am_cV (ci := 2) (M' := mX2_columnsApart) (as := [x1, x2]) dX2_canMarry_52 rfl rfl rfl wq_88 wq_89 wq_90 wq_81 wq_86 hy_X2_columnsApart (by decide) ha hst (by omega) (by omega) hM
theorem sX2_canMarry_55 {a0 a1 a2 : Value} (h : am_R E d mX2_canMarry k n 56 [a0, a1, a2] (.int 1 :: st) S iv Q) : am_R E d mX2_canMarry k n 55 [a0, a1, a2] st S iv Q := am_iconst dX2_canMarry_55 (by decide) h
theorem sX2_canMarry_56 {ls : List Value} {x y : Int32} (kt : ¬ x = y → am_R E d mX2_canMarry k n 63 ls st S iv Q) (kf : x = y → am_R E d mX2_canMarry k n 59 ls st S iv Q) : am_R E d mX2_canMarry k n 56 ls (.int y :: .int x :: st) S iv Q := am_icmp_ne dX2_canMarry_56 (by decide) kt kf
theorem sX2_canMarry_59 {a0 a1 a2 : Value} (h : am_R E d mX2_canMarry k n 60 [a0, a1, a2] (.int 1 :: st) S iv Q) : am_R E d mX2_canMarry k n 59 [a0, a1, a2] st S iv Q := am_iconst dX2_canMarry_59 (by decide) h
theorem sX2_canMarry_60 {ls : List Value} (h : am_R E d mX2_canMarry k n 64 ls st S iv Q) : am_R E d mX2_canMarry k n 60 ls st S iv Q := am_goto dX2_canMarry_60 (by decide) h
theorem sX2_canMarry_63 {a0 a1 a2 : Value} (h : am_R E d mX2_canMarry k n 64 [a0, a1, a2] (.int 0 :: st) S iv Q) : am_R E d mX2_canMarry k n 63 [a0, a1, a2] st S iv Q := am_iconst dX2_canMarry_63 (by decide) h
theorem sX2_canMarry_64 {ls : List Value} {x : Int32} (hn : narrow .boolean (.int x) = .int x) (h : Q (.inl (some (.int x))) S iv) : am_R E d mX2_canMarry k n 64 ls [.int x] S iv Q := am_zreturn dX2_canMarry_64 rfl hn h
theorem dX2_compare_0 : decode cX2_compare 0 = .ok (.aload_n 0, 1) := by decide +kernel
theorem dX2_compare_1 : decode cX2_compare 1 = .ok (.iconst 0, 1) := by decide +kernel
theorem dX2_compare_2 : decode cX2_compare 2 = .ok (.putfield 59, 3) := by decide +kernel
theorem dX2_compare_5 : decode cX2_compare 5 = .ok (.aload_n 0, 1) := by decide +kernel
theorem dX2_compare_6 : decode cX2_compare 6 = .ok (.iconst 0, 1) := by decide +kernel
theorem dX2_compare_7 : decode cX2_compare 7 = .ok (.putfield 62, 3) := by decide +kernel
theorem dX2_compare_10 : decode cX2_compare 10 = .ok (.iconst 0, 1) := by decide +kernel
theorem dX2_compare_11 : decode cX2_compare 11 = .ok (.istore_n 2, 1) := by decide +kernel
theorem dX2_compare_12 : decode cX2_compare 12 = .ok (.iload_n 2, 1) := by decide +kernel
theorem dX2_compare_13 : decode cX2_compare 13 = .ok (.aload_n 0, 1) := by decide +kernel
theorem dX2_compare_14 : decode cX2_compare 14 = .ok (.getfield 36, 3) := by decide +kernel
theorem dX2_compare_17 : decode cX2_compare 17 = .ok (.if_icmp .ge 105, 3) := by decide +kernel
theorem dX2_compare_20 : decode cX2_compare 20 = .ok (.aload_n 0, 1) := by decide +kernel
theorem dX2_compare_21 : decode cX2_compare 21 = .ok (.dup, 1) := by decide +kernel
theorem dX2_compare_22 : decode cX2_compare 22 = .ok (.getfield 59, 3) := by decide +kernel
theorem dX2_compare_25 : decode cX2_compare 25 = .ok (.aload_n 0, 1) := by decide +kernel
theorem dX2_compare_26 : decode cX2_compare 26 = .ok (.getfield 9, 3) := by decide +kernel
theorem dX2_compare_29 : decode cX2_compare 29 = .ok (.iload_n 2, 1) := by decide +kernel
theorem dX2_compare_30 : decode cX2_compare 30 = .ok (.iaload, 1) := by decide +kernel
theorem dX2_compare_31 : decode cX2_compare 31 = .ok (.iconst 1, 1) := by decide +kernel
theorem dX2_compare_32 : decode cX2_compare 32 = .ok (.if_icmp .ne 9, 3) := by decide +kernel
theorem dX2_compare_35 : decode cX2_compare 35 = .ok (.iconst 1, 1) := by decide +kernel
theorem dX2_compare_36 : decode cX2_compare 36 = .ok (.iload_n 2, 1) := by decide +kernel
theorem dX2_compare_37 : decode cX2_compare 37 = .ok (.ishl, 1) := by decide +kernel
theorem dX2_compare_38 : decode cX2_compare 38 = .ok (.goto 4, 3) := by decide +kernel
theorem dX2_compare_41 : decode cX2_compare 41 = .ok (.iconst 0, 1) := by decide +kernel
theorem dX2_compare_42 : decode cX2_compare 42 = .ok (.ior, 1) := by decide +kernel
theorem dX2_compare_43 : decode cX2_compare 43 = .ok (.putfield 59, 3) := by decide +kernel
theorem dX2_compare_46 : decode cX2_compare 46 = .ok (.aload_n 0, 1) := by decide +kernel
theorem dX2_compare_47 : decode cX2_compare 47 = .ok (.dup, 1) := by decide +kernel
theorem dX2_compare_48 : decode cX2_compare 48 = .ok (.getfield 62, 3) := by decide +kernel
theorem dX2_compare_51 : decode cX2_compare 51 = .ok (.aload_n 0, 1) := by decide +kernel
theorem dX2_compare_52 : decode cX2_compare 52 = .ok (.getfield 9, 3) := by decide +kernel
theorem dX2_compare_55 : decode cX2_compare 55 = .ok (.iload_n 2, 1) := by decide +kernel
theorem dX2_compare_56 : decode cX2_compare 56 = .ok (.iaload, 1) := by decide +kernel
theorem dX2_compare_57 : decode cX2_compare 57 = .ok (.iconst 2, 1) := by decide +kernel
theorem dX2_compare_58 : decode cX2_compare 58 = .ok (.if_icmp .ne 9, 3) := by decide +kernel
theorem dX2_compare_61 : decode cX2_compare 61 = .ok (.iconst 1, 1) := by decide +kernel
theorem dX2_compare_62 : decode cX2_compare 62 = .ok (.iload_n 2, 1) := by decide +kernel
theorem dX2_compare_63 : decode cX2_compare 63 = .ok (.ishl, 1) := by decide +kernel
theorem dX2_compare_64 : decode cX2_compare 64 = .ok (.goto 4, 3) := by decide +kernel
theorem dX2_compare_67 : decode cX2_compare 67 = .ok (.iconst 0, 1) := by decide +kernel
theorem dX2_compare_68 : decode cX2_compare 68 = .ok (.ior, 1) := by decide +kernel
theorem dX2_compare_69 : decode cX2_compare 69 = .ok (.putfield 62, 3) := by decide +kernel
theorem dX2_compare_72 : decode cX2_compare 72 = .ok (.aload_n 0, 1) := by decide +kernel
theorem dX2_compare_73 : decode cX2_compare 73 = .ok (.getfield 27, 3) := by decide +kernel
theorem dX2_compare_76 : decode cX2_compare 76 = .ok (.iload_n 2, 1) := by decide +kernel
theorem dX2_compare_77 : decode cX2_compare 77 = .ok (.iconst 0, 1) := by decide +kernel
theorem dX2_compare_78 : decode cX2_compare 78 = .ok (.iastore, 1) := by decide +kernel
theorem dX2_compare_79 : decode cX2_compare 79 = .ok (.aload_n 0, 1) := by decide +kernel
theorem dX2_compare_80 : decode cX2_compare 80 = .ok (.getfield 30, 3) := by decide +kernel
theorem dX2_compare_83 : decode cX2_compare 83 = .ok (.iload_n 2, 1) := by decide +kernel
theorem dX2_compare_84 : decode cX2_compare 84 = .ok (.iconst 0, 1) := by decide +kernel
theorem dX2_compare_85 : decode cX2_compare 85 = .ok (.iastore, 1) := by decide +kernel
theorem dX2_compare_86 : decode cX2_compare 86 = .ok (.aload_n 0, 1) := by decide +kernel
theorem dX2_compare_87 : decode cX2_compare 87 = .ok (.getfield 33, 3) := by decide +kernel
theorem dX2_compare_90 : decode cX2_compare 90 = .ok (.iload_n 2, 1) := by decide +kernel
theorem dX2_compare_91 : decode cX2_compare 91 = .ok (.iconst 0, 1) := by decide +kernel
theorem dX2_compare_92 : decode cX2_compare 92 = .ok (.iastore, 1) := by decide +kernel
theorem dX2_compare_93 : decode cX2_compare 93 = .ok (.iconst 0, 1) := by decide +kernel
theorem dX2_compare_94 : decode cX2_compare 94 = .ok (.istore_n 3, 1) := by decide +kernel
theorem dX2_compare_95 : decode cX2_compare 95 = .ok (.iload_n 3, 1) := by decide +kernel
theorem dX2_compare_96 : decode cX2_compare 96 = .ok (.aload_n 0, 1) := by decide +kernel
theorem dX2_compare_97 : decode cX2_compare 97 = .ok (.getfield 36, 3) := by decide +kernel
theorem dX2_compare_100 : decode cX2_compare 100 = .ok (.if_icmp .ge 16, 3) := by decide +kernel
theorem dX2_compare_103 : decode cX2_compare 103 = .ok (.aload_n 0, 1) := by decide +kernel
theorem dX2_compare_104 : decode cX2_compare 104 = .ok (.iload_n 2, 1) := by decide +kernel
theorem dX2_compare_105 : decode cX2_compare 105 = .ok (.iload_n 3, 1) := by decide +kernel
theorem dX2_compare_106 : decode cX2_compare 106 = .ok (.iload_n 1, 1) := by decide +kernel
theorem dX2_compare_107 : decode cX2_compare 107 = .ok (.invokevirtual 65, 3) := by decide +kernel
theorem dX2_compare_110 : decode cX2_compare 110 = .ok (.iinc 3 1, 3) := by decide +kernel
theorem dX2_compare_113 : decode cX2_compare 113 = .ok (.goto (-18), 3) := by decide +kernel
theorem dX2_compare_116 : decode cX2_compare 116 = .ok (.iinc 2 1, 3) := by decide +kernel
theorem dX2_compare_119 : decode cX2_compare 119 = .ok (.goto (-107), 3) := by decide +kernel
theorem dX2_compare_122 : decode cX2_compare 122 = .ok (.return_, 1) := by decide +kernel
theorem sX2_compare_0 {a0 a1 a2 a3 : Value} (hv : am_rf a0 = true) (h : am_R E d mX2_compare k n 1 [a0, a1, a2, a3] (a0 :: st) S iv Q) : am_R E d mX2_compare k n 0 [a0, a1, a2, a3] st S iv Q := am_aload_n dX2_compare_0 rfl rfl hv h
theorem sX2_compare_1 {a0 a1 a2 a3 : Value} (h : am_R E d mX2_compare k n 2 [a0, a1, a2, a3] (.int 0 :: st) S iv Q) : am_R E d mX2_compare k n 1 [a0, a1, a2, a3] st S iv Q := am_iconst dX2_compare_1 (by decide) h
theorem sX2_compare_2 {ls : List Value} {a : Nat} {x : Int32} (ha : S.1 a = some (.inl 2)) (h : am_R E d mX2_compare k n 5 ls st S (am_w iv a 9 x) Q) : am_R E d mX2_compare k n 2 ls (.int x :: .ref a :: st) S iv Q := am_putI (ci := 2) dX2_compare_2 rfl rfl (by decide) wq_91 uq_2 tyX2_ok nmX2 (Or.inl rfl) rfl ha h
theorem sX2_compare_5 {a0 a1 a2 a3 : Value} (hv : am_rf a0 = true) (h : am_R E d mX2_compare k n 6 [a0, a1, a2, a3] (a0 :: st) S iv Q) : am_R E d mX2_compare k n 5 [a0, a1, a2, a3] st S iv Q := am_aload_n dX2_compare_5 rfl rfl hv h
theorem sX2_compare_6 {a0 a1 a2 a3 : Value} (h : am_R E d mX2_compare k n 7 [a0, a1, a2, a3] (.int 0 :: st) S iv Q) : am_R E d mX2_compare k n 6 [a0, a1, a2, a3] st S iv Q := am_iconst dX2_compare_6 (by decide) h
theorem sX2_compare_7 {ls : List Value} {a : Nat} {x : Int32} (ha : S.1 a = some (.inl 2)) (h : am_R E d mX2_compare k n 10 ls st S (am_w iv a 10 x) Q) : am_R E d mX2_compare k n 7 ls (.int x :: .ref a :: st) S iv Q := am_putI (ci := 2) dX2_compare_7 rfl rfl (by decide) wq_92 uq_2 tyX2_ok nmX2 (Or.inl rfl) rfl ha h
theorem sX2_compare_10 {a0 a1 a2 a3 : Value} (h : am_R E d mX2_compare k n 11 [a0, a1, a2, a3] (.int 0 :: st) S iv Q) : am_R E d mX2_compare k n 10 [a0, a1, a2, a3] st S iv Q := am_iconst dX2_compare_10 (by decide) h
theorem sX2_compare_11 {a0 a1 a2 a3 : Value} {x : Int32} (h : am_R E d mX2_compare k n 12 [a0, a1, .int x, a3] st S iv Q) : am_R E d mX2_compare k n 11 [a0, a1, a2, a3] (.int x :: st) S iv Q := am_istore_n dX2_compare_11 rfl (by decide) h
theorem sX2_compare_12 {a0 a1 a3 : Value} {x : Int32} (h : am_R E d mX2_compare k n 13 [a0, a1, .int x, a3] (.int x :: st) S iv Q) : am_R E d mX2_compare k n 12 [a0, a1, .int x, a3] st S iv Q := am_iload_n dX2_compare_12 rfl rfl h
theorem sX2_compare_13 {a0 a1 a2 a3 : Value} (hv : am_rf a0 = true) (h : am_R E d mX2_compare k n 14 [a0, a1, a2, a3] (a0 :: st) S iv Q) : am_R E d mX2_compare k n 13 [a0, a1, a2, a3] st S iv Q := am_aload_n dX2_compare_13 rfl rfl hv h
theorem sX2_compare_14 {ls : List Value} {a : Nat} (ha : S.1 a = some (.inl 2)) (h : am_R E d mX2_compare k n 17 ls (.int (iv a 0) :: st) S iv Q) : am_R E d mX2_compare k n 14 ls (.ref a :: st) S iv Q := am_getI (ci := 2) dX2_compare_14 rfl rfl (by decide) wq_74 uq_2 rfl ha h
theorem sX2_compare_17 {ls : List Value} {x y : Int32} (kt : y ≤ x → am_R E d mX2_compare k n 122 ls st S iv Q) (kf : ¬ y ≤ x → am_R E d mX2_compare k n 20 ls st S iv Q) : am_R E d mX2_compare k n 17 ls (.int y :: .int x :: st) S iv Q := am_icmp_ge dX2_compare_17 (by decide) kt kf
theorem sX2_compare_20 {a0 a1 a2 a3 : Value} (hv : am_rf a0 = true) (h : am_R E d mX2_compare k n 21 [a0, a1, a2, a3] (a0 :: st) S iv Q) : am_R E d mX2_compare k n 20 [a0, a1, a2, a3] st S iv Q := am_aload_n dX2_compare_20 rfl rfl hv h
theorem sX2_compare_21 {ls : List Value} {x : Value} (hv : x.category = 1) (h : am_R E d mX2_compare k n 22 ls (x :: x :: st) S iv Q) : am_R E d mX2_compare k n 21 ls (x :: st) S iv Q := am_dup dX2_compare_21 hv h
theorem sX2_compare_22 {ls : List Value} {a : Nat} (ha : S.1 a = some (.inl 2)) (h : am_R E d mX2_compare k n 25 ls (.int (iv a 9) :: st) S iv Q) : am_R E d mX2_compare k n 22 ls (.ref a :: st) S iv Q := am_getI (ci := 2) dX2_compare_22 rfl rfl (by decide) wq_91 uq_2 rfl ha h
theorem sX2_compare_25 {a0 a1 a2 a3 : Value} (hv : am_rf a0 = true) (h : am_R E d mX2_compare k n 26 [a0, a1, a2, a3] (a0 :: st) S iv Q) : am_R E d mX2_compare k n 25 [a0, a1, a2, a3] st S iv Q := am_aload_n dX2_compare_25 rfl rfl hv h
theorem sX2_compare_26 {ls : List Value} {a b : Nat} (ha : S.1 a = some (.inl 2)) (hb : S.2.1 a 1 = some b) (h : am_R E d mX2_compare k n 29 ls (.ref b :: st) S iv Q) : am_R E d mX2_compare k n 26 ls (.ref a :: st) S iv Q := am_getR (ci := 2) dX2_compare_26 rfl rfl (by decide) wq_66 uq_2 rfl ha hb h
theorem sX2_compare_29 {a0 a1 a3 : Value} {x : Int32} (h : am_R E d mX2_compare k n 30 [a0, a1, .int x, a3] (.int x :: st) S iv Q) : am_R E d mX2_compare k n 29 [a0, a1, .int x, a3] st S iv Q := am_iload_n dX2_compare_29 rfl rfl h
theorem sX2_compare_30 {ls : List Value} {a m : Nat} {i : Int32} (ha : S.1 a = some (.inr (.int, m))) (hi : vp_in i m) (h : am_R E d mX2_compare k n 31 ls (.int (iv a i.toNatClampNeg) :: st) S iv Q) : am_R E d mX2_compare k n 30 ls (.int i :: .ref a :: st) S iv Q := am_iaload dX2_compare_30 ha hi h
theorem sX2_compare_31 {a0 a1 a2 a3 : Value} (h : am_R E d mX2_compare k n 32 [a0, a1, a2, a3] (.int 1 :: st) S iv Q) : am_R E d mX2_compare k n 31 [a0, a1, a2, a3] st S iv Q := am_iconst dX2_compare_31 (by decide) h
theorem sX2_compare_32 {ls : List Value} {x y : Int32} (kt : ¬ x = y → am_R E d mX2_compare k n 41 ls st S iv Q) (kf : x = y → am_R E d mX2_compare k n 35 ls st S iv Q) : am_R E d mX2_compare k n 32 ls (.int y :: .int x :: st) S iv Q := am_icmp_ne dX2_compare_32 (by decide) kt kf
theorem sX2_compare_35 {a0 a1 a2 a3 : Value} (h : am_R E d mX2_compare k n 36 [a0, a1, a2, a3] (.int 1 :: st) S iv Q) : am_R E d mX2_compare k n 35 [a0, a1, a2, a3] st S iv Q := am_iconst dX2_compare_35 (by decide) h
theorem sX2_compare_36 {a0 a1 a3 : Value} {x : Int32} (h : am_R E d mX2_compare k n 37 [a0, a1, .int x, a3] (.int x :: st) S iv Q) : am_R E d mX2_compare k n 36 [a0, a1, .int x, a3] st S iv Q := am_iload_n dX2_compare_36 rfl rfl h
theorem sX2_compare_37 {ls : List Value} {x y : Int32} (h : am_R E d mX2_compare k n 38 ls (.int (x <<< (y &&& 31)) :: st) S iv Q) : am_R E d mX2_compare k n 37 ls (.int y :: .int x :: st) S iv Q := am_ishl dX2_compare_37 h
theorem sX2_compare_38 {ls : List Value} (h : am_R E d mX2_compare k n 42 ls st S iv Q) : am_R E d mX2_compare k n 38 ls st S iv Q := am_goto dX2_compare_38 (by decide) h
theorem sX2_compare_41 {a0 a1 a2 a3 : Value} (h : am_R E d mX2_compare k n 42 [a0, a1, a2, a3] (.int 0 :: st) S iv Q) : am_R E d mX2_compare k n 41 [a0, a1, a2, a3] st S iv Q := am_iconst dX2_compare_41 (by decide) h
theorem sX2_compare_42 {ls : List Value} {x y : Int32} (h : am_R E d mX2_compare k n 43 ls (.int (x ||| y) :: st) S iv Q) : am_R E d mX2_compare k n 42 ls (.int y :: .int x :: st) S iv Q := am_ior dX2_compare_42 h
theorem sX2_compare_43 {ls : List Value} {a : Nat} {x : Int32} (ha : S.1 a = some (.inl 2)) (h : am_R E d mX2_compare k n 46 ls st S (am_w iv a 9 x) Q) : am_R E d mX2_compare k n 43 ls (.int x :: .ref a :: st) S iv Q := am_putI (ci := 2) dX2_compare_43 rfl rfl (by decide) wq_91 uq_2 tyX2_ok nmX2 (Or.inl rfl) rfl ha h
theorem sX2_compare_46 {a0 a1 a2 a3 : Value} (hv : am_rf a0 = true) (h : am_R E d mX2_compare k n 47 [a0, a1, a2, a3] (a0 :: st) S iv Q) : am_R E d mX2_compare k n 46 [a0, a1, a2, a3] st S iv Q := am_aload_n dX2_compare_46 rfl rfl hv h
theorem sX2_compare_47 {ls : List Value} {x : Value} (hv : x.category = 1) (h : am_R E d mX2_compare k n 48 ls (x :: x :: st) S iv Q) : am_R E d mX2_compare k n 47 ls (x :: st) S iv Q := am_dup dX2_compare_47 hv h
theorem sX2_compare_48 {ls : List Value} {a : Nat} (ha : S.1 a = some (.inl 2)) (h : am_R E d mX2_compare k n 51 ls (.int (iv a 10) :: st) S iv Q) : am_R E d mX2_compare k n 48 ls (.ref a :: st) S iv Q := am_getI (ci := 2) dX2_compare_48 rfl rfl (by decide) wq_92 uq_2 rfl ha h
theorem sX2_compare_51 {a0 a1 a2 a3 : Value} (hv : am_rf a0 = true) (h : am_R E d mX2_compare k n 52 [a0, a1, a2, a3] (a0 :: st) S iv Q) : am_R E d mX2_compare k n 51 [a0, a1, a2, a3] st S iv Q := am_aload_n dX2_compare_51 rfl rfl hv h
theorem sX2_compare_52 {ls : List Value} {a b : Nat} (ha : S.1 a = some (.inl 2)) (hb : S.2.1 a 1 = some b) (h : am_R E d mX2_compare k n 55 ls (.ref b :: st) S iv Q) : am_R E d mX2_compare k n 52 ls (.ref a :: st) S iv Q := am_getR (ci := 2) dX2_compare_52 rfl rfl (by decide) wq_66 uq_2 rfl ha hb h
theorem sX2_compare_55 {a0 a1 a3 : Value} {x : Int32} (h : am_R E d mX2_compare k n 56 [a0, a1, .int x, a3] (.int x :: st) S iv Q) : am_R E d mX2_compare k n 55 [a0, a1, .int x, a3] st S iv Q := am_iload_n dX2_compare_55 rfl rfl h
theorem sX2_compare_56 {ls : List Value} {a m : Nat} {i : Int32} (ha : S.1 a = some (.inr (.int, m))) (hi : vp_in i m) (h : am_R E d mX2_compare k n 57 ls (.int (iv a i.toNatClampNeg) :: st) S iv Q) : am_R E d mX2_compare k n 56 ls (.int i :: .ref a :: st) S iv Q := am_iaload dX2_compare_56 ha hi h
theorem sX2_compare_57 {a0 a1 a2 a3 : Value} (h : am_R E d mX2_compare k n 58 [a0, a1, a2, a3] (.int 2 :: st) S iv Q) : am_R E d mX2_compare k n 57 [a0, a1, a2, a3] st S iv Q := am_iconst dX2_compare_57 (by decide) h
theorem sX2_compare_58 {ls : List Value} {x y : Int32} (kt : ¬ x = y → am_R E d mX2_compare k n 67 ls st S iv Q) (kf : x = y → am_R E d mX2_compare k n 61 ls st S iv Q) : am_R E d mX2_compare k n 58 ls (.int y :: .int x :: st) S iv Q := am_icmp_ne dX2_compare_58 (by decide) kt kf
theorem sX2_compare_61 {a0 a1 a2 a3 : Value} (h : am_R E d mX2_compare k n 62 [a0, a1, a2, a3] (.int 1 :: st) S iv Q) : am_R E d mX2_compare k n 61 [a0, a1, a2, a3] st S iv Q := am_iconst dX2_compare_61 (by decide) h
theorem sX2_compare_62 {a0 a1 a3 : Value} {x : Int32} (h : am_R E d mX2_compare k n 63 [a0, a1, .int x, a3] (.int x :: st) S iv Q) : am_R E d mX2_compare k n 62 [a0, a1, .int x, a3] st S iv Q := am_iload_n dX2_compare_62 rfl rfl h
theorem sX2_compare_63 {ls : List Value} {x y : Int32} (h : am_R E d mX2_compare k n 64 ls (.int (x <<< (y &&& 31)) :: st) S iv Q) : am_R E d mX2_compare k n 63 ls (.int y :: .int x :: st) S iv Q := am_ishl dX2_compare_63 h
theorem sX2_compare_64 {ls : List Value} (h : am_R E d mX2_compare k n 68 ls st S iv Q) : am_R E d mX2_compare k n 64 ls st S iv Q := am_goto dX2_compare_64 (by decide) h
theorem sX2_compare_67 {a0 a1 a2 a3 : Value} (h : am_R E d mX2_compare k n 68 [a0, a1, a2, a3] (.int 0 :: st) S iv Q) : am_R E d mX2_compare k n 67 [a0, a1, a2, a3] st S iv Q := am_iconst dX2_compare_67 (by decide) h
theorem sX2_compare_68 {ls : List Value} {x y : Int32} (h : am_R E d mX2_compare k n 69 ls (.int (x ||| y) :: st) S iv Q) : am_R E d mX2_compare k n 68 ls (.int y :: .int x :: st) S iv Q := am_ior dX2_compare_68 h
theorem sX2_compare_69 {ls : List Value} {a : Nat} {x : Int32} (ha : S.1 a = some (.inl 2)) (h : am_R E d mX2_compare k n 72 ls st S (am_w iv a 10 x) Q) : am_R E d mX2_compare k n 69 ls (.int x :: .ref a :: st) S iv Q := am_putI (ci := 2) dX2_compare_69 rfl rfl (by decide) wq_92 uq_2 tyX2_ok nmX2 (Or.inl rfl) rfl ha h
theorem sX2_compare_72 {a0 a1 a2 a3 : Value} (hv : am_rf a0 = true) (h : am_R E d mX2_compare k n 73 [a0, a1, a2, a3] (a0 :: st) S iv Q) : am_R E d mX2_compare k n 72 [a0, a1, a2, a3] st S iv Q := am_aload_n dX2_compare_72 rfl rfl hv h
theorem sX2_compare_73 {ls : List Value} {a b : Nat} (ha : S.1 a = some (.inl 2)) (hb : S.2.1 a 6 = some b) (h : am_R E d mX2_compare k n 76 ls (.ref b :: st) S iv Q) : am_R E d mX2_compare k n 73 ls (.ref a :: st) S iv Q := am_getR (ci := 2) dX2_compare_73 rfl rfl (by decide) wq_71 uq_2 rfl ha hb h
theorem sX2_compare_76 {a0 a1 a3 : Value} {x : Int32} (h : am_R E d mX2_compare k n 77 [a0, a1, .int x, a3] (.int x :: st) S iv Q) : am_R E d mX2_compare k n 76 [a0, a1, .int x, a3] st S iv Q := am_iload_n dX2_compare_76 rfl rfl h
theorem sX2_compare_77 {a0 a1 a2 a3 : Value} (h : am_R E d mX2_compare k n 78 [a0, a1, a2, a3] (.int 0 :: st) S iv Q) : am_R E d mX2_compare k n 77 [a0, a1, a2, a3] st S iv Q := am_iconst dX2_compare_77 (by decide) h
theorem sX2_compare_78 {ls : List Value} {a m : Nat} {i x : Int32} (ha : S.1 a = some (.inr (.int, m))) (hi : vp_in i m) (h : am_R E d mX2_compare k n 79 ls st S (am_w iv a i.toNatClampNeg x) Q) : am_R E d mX2_compare k n 78 ls (.int x :: .int i :: .ref a :: st) S iv Q := am_iastore dX2_compare_78 ha hi h
theorem sX2_compare_79 {a0 a1 a2 a3 : Value} (hv : am_rf a0 = true) (h : am_R E d mX2_compare k n 80 [a0, a1, a2, a3] (a0 :: st) S iv Q) : am_R E d mX2_compare k n 79 [a0, a1, a2, a3] st S iv Q := am_aload_n dX2_compare_79 rfl rfl hv h
theorem sX2_compare_80 {ls : List Value} {a b : Nat} (ha : S.1 a = some (.inl 2)) (hb : S.2.1 a 7 = some b) (h : am_R E d mX2_compare k n 83 ls (.ref b :: st) S iv Q) : am_R E d mX2_compare k n 80 ls (.ref a :: st) S iv Q := am_getR (ci := 2) dX2_compare_80 rfl rfl (by decide) wq_72 uq_2 rfl ha hb h
theorem sX2_compare_83 {a0 a1 a3 : Value} {x : Int32} (h : am_R E d mX2_compare k n 84 [a0, a1, .int x, a3] (.int x :: st) S iv Q) : am_R E d mX2_compare k n 83 [a0, a1, .int x, a3] st S iv Q := am_iload_n dX2_compare_83 rfl rfl h
theorem sX2_compare_84 {a0 a1 a2 a3 : Value} (h : am_R E d mX2_compare k n 85 [a0, a1, a2, a3] (.int 0 :: st) S iv Q) : am_R E d mX2_compare k n 84 [a0, a1, a2, a3] st S iv Q := am_iconst dX2_compare_84 (by decide) h
theorem sX2_compare_85 {ls : List Value} {a m : Nat} {i x : Int32} (ha : S.1 a = some (.inr (.int, m))) (hi : vp_in i m) (h : am_R E d mX2_compare k n 86 ls st S (am_w iv a i.toNatClampNeg x) Q) : am_R E d mX2_compare k n 85 ls (.int x :: .int i :: .ref a :: st) S iv Q := am_iastore dX2_compare_85 ha hi h
theorem sX2_compare_86 {a0 a1 a2 a3 : Value} (hv : am_rf a0 = true) (h : am_R E d mX2_compare k n 87 [a0, a1, a2, a3] (a0 :: st) S iv Q) : am_R E d mX2_compare k n 86 [a0, a1, a2, a3] st S iv Q := am_aload_n dX2_compare_86 rfl rfl hv h
theorem sX2_compare_87 {ls : List Value} {a b : Nat} (ha : S.1 a = some (.inl 2)) (hb : S.2.1 a 8 = some b) (h : am_R E d mX2_compare k n 90 ls (.ref b :: st) S iv Q) : am_R E d mX2_compare k n 87 ls (.ref a :: st) S iv Q := am_getR (ci := 2) dX2_compare_87 rfl rfl (by decide) wq_73 uq_2 rfl ha hb h
theorem sX2_compare_90 {a0 a1 a3 : Value} {x : Int32} (h : am_R E d mX2_compare k n 91 [a0, a1, .int x, a3] (.int x :: st) S iv Q) : am_R E d mX2_compare k n 90 [a0, a1, .int x, a3] st S iv Q := am_iload_n dX2_compare_90 rfl rfl h
theorem sX2_compare_91 {a0 a1 a2 a3 : Value} (h : am_R E d mX2_compare k n 92 [a0, a1, a2, a3] (.int 0 :: st) S iv Q) : am_R E d mX2_compare k n 91 [a0, a1, a2, a3] st S iv Q := am_iconst dX2_compare_91 (by decide) h
theorem sX2_compare_92 {ls : List Value} {a m : Nat} {i x : Int32} (ha : S.1 a = some (.inr (.int, m))) (hi : vp_in i m) (h : am_R E d mX2_compare k n 93 ls st S (am_w iv a i.toNatClampNeg x) Q) : am_R E d mX2_compare k n 92 ls (.int x :: .int i :: .ref a :: st) S iv Q := am_iastore dX2_compare_92 ha hi h
theorem sX2_compare_93 {a0 a1 a2 a3 : Value} (h : am_R E d mX2_compare k n 94 [a0, a1, a2, a3] (.int 0 :: st) S iv Q) : am_R E d mX2_compare k n 93 [a0, a1, a2, a3] st S iv Q := am_iconst dX2_compare_93 (by decide) h
theorem sX2_compare_94 {a0 a1 a2 a3 : Value} {x : Int32} (h : am_R E d mX2_compare k n 95 [a0, a1, a2, .int x] st S iv Q) : am_R E d mX2_compare k n 94 [a0, a1, a2, a3] (.int x :: st) S iv Q := am_istore_n dX2_compare_94 rfl (by decide) h
theorem sX2_compare_95 {a0 a1 a2 : Value} {x : Int32} (h : am_R E d mX2_compare k n 96 [a0, a1, a2, .int x] (.int x :: st) S iv Q) : am_R E d mX2_compare k n 95 [a0, a1, a2, .int x] st S iv Q := am_iload_n dX2_compare_95 rfl rfl h
theorem sX2_compare_96 {a0 a1 a2 a3 : Value} (hv : am_rf a0 = true) (h : am_R E d mX2_compare k n 97 [a0, a1, a2, a3] (a0 :: st) S iv Q) : am_R E d mX2_compare k n 96 [a0, a1, a2, a3] st S iv Q := am_aload_n dX2_compare_96 rfl rfl hv h
theorem sX2_compare_97 {ls : List Value} {a : Nat} (ha : S.1 a = some (.inl 2)) (h : am_R E d mX2_compare k n 100 ls (.int (iv a 0) :: st) S iv Q) : am_R E d mX2_compare k n 97 ls (.ref a :: st) S iv Q := am_getI (ci := 2) dX2_compare_97 rfl rfl (by decide) wq_74 uq_2 rfl ha h
theorem sX2_compare_100 {ls : List Value} {x y : Int32} (kt : y ≤ x → am_R E d mX2_compare k n 116 ls st S iv Q) (kf : ¬ y ≤ x → am_R E d mX2_compare k n 103 ls st S iv Q) : am_R E d mX2_compare k n 100 ls (.int y :: .int x :: st) S iv Q := am_icmp_ge dX2_compare_100 (by decide) kt kf
theorem sX2_compare_103 {a0 a1 a2 a3 : Value} (hv : am_rf a0 = true) (h : am_R E d mX2_compare k n 104 [a0, a1, a2, a3] (a0 :: st) S iv Q) : am_R E d mX2_compare k n 103 [a0, a1, a2, a3] st S iv Q := am_aload_n dX2_compare_103 rfl rfl hv h
theorem sX2_compare_104 {a0 a1 a3 : Value} {x : Int32} (h : am_R E d mX2_compare k n 105 [a0, a1, .int x, a3] (.int x :: st) S iv Q) : am_R E d mX2_compare k n 104 [a0, a1, .int x, a3] st S iv Q := am_iload_n dX2_compare_104 rfl rfl h
theorem sX2_compare_105 {a0 a1 a2 : Value} {x : Int32} (h : am_R E d mX2_compare k n 106 [a0, a1, a2, .int x] (.int x :: st) S iv Q) : am_R E d mX2_compare k n 105 [a0, a1, a2, .int x] st S iv Q := am_iload_n dX2_compare_105 rfl rfl h
theorem sX2_compare_106 {a0 a2 a3 : Value} {x : Int32} (h : am_R E d mX2_compare k n 107 [a0, .int x, a2, a3] (.int x :: st) S iv Q) : am_R E d mX2_compare k n 106 [a0, .int x, a2, a3] st S iv Q := am_iload_n dX2_compare_106 rfl rfl h
theorem sX2_compare_107 {ls : List Value} {x1 x2 x3 : Value} {a : Nat} (ha : S.1 a = some (.inl 2)) (hst : (st.map fun v => v.category).sum ≤ 8) (hM : am_M E d mX2_compareTwo 0 0 [.ref a, x1, x2, x3] S iv (am_K3 E (d + 1) mX2_compare k n 107 ls st Q)) : am_R E (d + 1) mX2_compare k n 107 ls (x3 :: x2 :: x1 :: .ref a :: st) S iv Q := am_cV (ci := 2) (M' := mX2_compareTwo) (as := [x1, x2, x3]) dX2_compare_107 rfl rfl rfl wq_95 wq_96 wq_97 wq_81 wq_93 hy_X2_compareTwo (by decide) ha hst (by omega) (by omega) hM
theorem sX2_compare_107_k {ls : List Value} {x1 x2 x3 : Value} {k' n' : Nat} {a : Nat} (ha : S.1 a = some (.inl 2)) (hst : (st.map fun v => v.category).sum ≤ 8) (hM : am_M E d mX2_compareTwo k' n' [.ref a, x1, x2, x3] S iv (am_K3 E (d + 1) mX2_compare k n 107 ls st Q)) : am_R E (d + 1) mX2_compare (k' + k) (n' + n) 107 ls (x3 :: x2 :: x1 :: .ref a :: st) S iv Q := am_cV (ci := 2) (M' := mX2_compareTwo) (as := [x1, x2, x3]) dX2_compare_107 rfl rfl rfl wq_95 wq_96 wq_97 wq_81 wq_93 hy_X2_compareTwo (by decide) ha hst (by omega) (by omega) hM
theorem sX2_compare_110 {a0 a1 a2 : Value} {x : Int32} (h : am_R E d mX2_compare k n 113 [a0, a1, a2, .int (x + 1)] st S iv Q) : am_R E d mX2_compare k n 110 [a0, a1, a2, .int x] st S iv Q := am_iinc dX2_compare_110 rfl rfl (by decide) h
theorem sX2_compare_113 {ls : List Value} (h : am_R E d mX2_compare k n 95 ls st S iv Q) : am_R E d mX2_compare k n 113 ls st S iv Q := am_goto dX2_compare_113 (by decide) h
theorem sX2_compare_116 {a0 a1 a3 : Value} {x : Int32} (h : am_R E d mX2_compare k n 119 [a0, a1, .int (x + 1), a3] st S iv Q) : am_R E d mX2_compare k n 116 [a0, a1, .int x, a3] st S iv Q := am_iinc dX2_compare_116 rfl rfl (by decide) h
theorem sX2_compare_119 {ls : List Value} (h : am_R E d mX2_compare k n 12 ls st S iv Q) : am_R E d mX2_compare k n 119 ls st S iv Q := am_goto dX2_compare_119 (by decide) h
theorem sX2_compare_122 {ls : List Value} (h : Q (.inl none) S iv) : am_R E d mX2_compare k n 122 ls [] S iv Q := am_return dX2_compare_122 rfl h
theorem dX2_compareTwo_0 : decode cX2_compareTwo 0 = .ok (.aload_n 0, 1) := by decide +kernel
theorem dX2_compareTwo_1 : decode cX2_compareTwo 1 = .ok (.iload_n 1, 1) := by decide +kernel
theorem dX2_compareTwo_2 : decode cX2_compareTwo 2 = .ok (.iload_n 2, 1) := by decide +kernel
theorem dX2_compareTwo_3 : decode cX2_compareTwo 3 = .ok (.invokevirtual 56, 3) := by decide +kernel
theorem dX2_compareTwo_6 : decode cX2_compareTwo 6 = .ok (.ifCond .le 4, 3) := by decide +kernel
theorem dX2_compareTwo_9 : decode cX2_compareTwo 9 = .ok (.return_, 1) := by decide +kernel
theorem dX2_compareTwo_10 : decode cX2_compareTwo 10 = .ok (.aload_n 0, 1) := by decide +kernel
theorem dX2_compareTwo_11 : decode cX2_compareTwo 11 = .ok (.getfield 21, 3) := by decide +kernel
theorem dX2_compareTwo_14 : decode cX2_compareTwo 14 = .ok (.iload_n 2, 1) := by decide +kernel
theorem dX2_compareTwo_15 : decode cX2_compareTwo 15 = .ok (.iaload, 1) := by decide +kernel
theorem dX2_compareTwo_16 : decode cX2_compareTwo 16 = .ok (.aload_n 0, 1) := by decide +kernel
theorem dX2_compareTwo_17 : decode cX2_compareTwo 17 = .ok (.getfield 21, 3) := by decide +kernel
theorem dX2_compareTwo_20 : decode cX2_compareTwo 20 = .ok (.iload_n 1, 1) := by decide +kernel
theorem dX2_compareTwo_21 : decode cX2_compareTwo 21 = .ok (.iaload, 1) := by decide +kernel
theorem dX2_compareTwo_22 : decode cX2_compareTwo 22 = .ok (.if_icmp .le 46, 3) := by decide +kernel
theorem dX2_compareTwo_25 : decode cX2_compareTwo 25 = .ok (.aload_n 0, 1) := by decide +kernel
theorem dX2_compareTwo_26 : decode cX2_compareTwo 26 = .ok (.getfield 27, 3) := by decide +kernel
theorem dX2_compareTwo_29 : decode cX2_compareTwo 29 = .ok (.iload_n 1, 1) := by decide +kernel
theorem dX2_compareTwo_30 : decode cX2_compareTwo 30 = .ok (.dup2, 1) := by decide +kernel
theorem dX2_compareTwo_31 : decode cX2_compareTwo 31 = .ok (.iaload, 1) := by decide +kernel
theorem dX2_compareTwo_32 : decode cX2_compareTwo 32 = .ok (.iconst 1, 1) := by decide +kernel
theorem dX2_compareTwo_33 : decode cX2_compareTwo 33 = .ok (.iload_n 2, 1) := by decide +kernel
theorem dX2_compareTwo_34 : decode cX2_compareTwo 34 = .ok (.ishl, 1) := by decide +kernel
theorem dX2_compareTwo_35 : decode cX2_compareTwo 35 = .ok (.ior, 1) := by decide +kernel
theorem dX2_compareTwo_36 : decode cX2_compareTwo 36 = .ok (.iastore, 1) := by decide +kernel
theorem dX2_compareTwo_37 : decode cX2_compareTwo 37 = .ok (.aload_n 0, 1) := by decide +kernel
theorem dX2_compareTwo_38 : decode cX2_compareTwo 38 = .ok (.getfield 30, 3) := by decide +kernel
theorem dX2_compareTwo_41 : decode cX2_compareTwo 41 = .ok (.iload_n 1, 1) := by decide +kernel
theorem dX2_compareTwo_42 : decode cX2_compareTwo 42 = .ok (.dup2, 1) := by decide +kernel
theorem dX2_compareTwo_43 : decode cX2_compareTwo 43 = .ok (.iaload, 1) := by decide +kernel
theorem dX2_compareTwo_44 : decode cX2_compareTwo 44 = .ok (.aload_n 0, 1) := by decide +kernel
theorem dX2_compareTwo_45 : decode cX2_compareTwo 45 = .ok (.getfield 24, 3) := by decide +kernel
theorem dX2_compareTwo_48 : decode cX2_compareTwo 48 = .ok (.iload_n 2, 1) := by decide +kernel
theorem dX2_compareTwo_49 : decode cX2_compareTwo 49 = .ok (.iaload, 1) := by decide +kernel
theorem dX2_compareTwo_50 : decode cX2_compareTwo 50 = .ok (.aload_n 0, 1) := by decide +kernel
theorem dX2_compareTwo_51 : decode cX2_compareTwo 51 = .ok (.getfield 24, 3) := by decide +kernel
theorem dX2_compareTwo_54 : decode cX2_compareTwo 54 = .ok (.iload_n 1, 1) := by decide +kernel
theorem dX2_compareTwo_55 : decode cX2_compareTwo 55 = .ok (.iaload, 1) := by decide +kernel
theorem dX2_compareTwo_56 : decode cX2_compareTwo 56 = .ok (.if_icmp .lt 9, 3) := by decide +kernel
theorem dX2_compareTwo_59 : decode cX2_compareTwo 59 = .ok (.iconst 1, 1) := by decide +kernel
theorem dX2_compareTwo_60 : decode cX2_compareTwo 60 = .ok (.iload_n 2, 1) := by decide +kernel
theorem dX2_compareTwo_61 : decode cX2_compareTwo 61 = .ok (.ishl, 1) := by decide +kernel
theorem dX2_compareTwo_62 : decode cX2_compareTwo 62 = .ok (.goto 4, 3) := by decide +kernel
theorem dX2_compareTwo_65 : decode cX2_compareTwo 65 = .ok (.iconst 0, 1) := by decide +kernel
theorem dX2_compareTwo_66 : decode cX2_compareTwo 66 = .ok (.ior, 1) := by decide +kernel
theorem dX2_compareTwo_67 : decode cX2_compareTwo 67 = .ok (.iastore, 1) := by decide +kernel
theorem dX2_compareTwo_68 : decode cX2_compareTwo 68 = .ok (.aload_n 0, 1) := by decide +kernel
theorem dX2_compareTwo_69 : decode cX2_compareTwo 69 = .ok (.getfield 21, 3) := by decide +kernel
theorem dX2_compareTwo_72 : decode cX2_compareTwo 72 = .ok (.iload_n 2, 1) := by decide +kernel
theorem dX2_compareTwo_73 : decode cX2_compareTwo 73 = .ok (.iaload, 1) := by decide +kernel
theorem dX2_compareTwo_74 : decode cX2_compareTwo 74 = .ok (.aload_n 0, 1) := by decide +kernel
theorem dX2_compareTwo_75 : decode cX2_compareTwo 75 = .ok (.getfield 21, 3) := by decide +kernel
theorem dX2_compareTwo_78 : decode cX2_compareTwo 78 = .ok (.iload_n 1, 1) := by decide +kernel
theorem dX2_compareTwo_79 : decode cX2_compareTwo 79 = .ok (.iaload, 1) := by decide +kernel
theorem dX2_compareTwo_80 : decode cX2_compareTwo 80 = .ok (.if_icmp .ge 32, 3) := by decide +kernel
theorem dX2_compareTwo_83 : decode cX2_compareTwo 83 = .ok (.aload_n 0, 1) := by decide +kernel
theorem dX2_compareTwo_84 : decode cX2_compareTwo 84 = .ok (.getfield 21, 3) := by decide +kernel
theorem dX2_compareTwo_87 : decode cX2_compareTwo 87 = .ok (.iload_n 1, 1) := by decide +kernel
theorem dX2_compareTwo_88 : decode cX2_compareTwo 88 = .ok (.iaload, 1) := by decide +kernel
theorem dX2_compareTwo_89 : decode cX2_compareTwo 89 = .ok (.aload_n 0, 1) := by decide +kernel
theorem dX2_compareTwo_90 : decode cX2_compareTwo 90 = .ok (.getfield 21, 3) := by decide +kernel
theorem dX2_compareTwo_93 : decode cX2_compareTwo 93 = .ok (.iload_n 2, 1) := by decide +kernel
theorem dX2_compareTwo_94 : decode cX2_compareTwo 94 = .ok (.iaload, 1) := by decide +kernel
theorem dX2_compareTwo_95 : decode cX2_compareTwo 95 = .ok (.isub, 1) := by decide +kernel
theorem dX2_compareTwo_96 : decode cX2_compareTwo 96 = .ok (.iload_n 3, 1) := by decide +kernel
theorem dX2_compareTwo_97 : decode cX2_compareTwo 97 = .ok (.if_icmp .gt 15, 3) := by decide +kernel
theorem dX2_compareTwo_100 : decode cX2_compareTwo 100 = .ok (.aload_n 0, 1) := by decide +kernel
theorem dX2_compareTwo_101 : decode cX2_compareTwo 101 = .ok (.getfield 33, 3) := by decide +kernel
theorem dX2_compareTwo_104 : decode cX2_compareTwo 104 = .ok (.iload_n 1, 1) := by decide +kernel
theorem dX2_compareTwo_105 : decode cX2_compareTwo 105 = .ok (.dup2, 1) := by decide +kernel
theorem dX2_compareTwo_106 : decode cX2_compareTwo 106 = .ok (.iaload, 1) := by decide +kernel
theorem dX2_compareTwo_107 : decode cX2_compareTwo 107 = .ok (.iconst 1, 1) := by decide +kernel
theorem dX2_compareTwo_108 : decode cX2_compareTwo 108 = .ok (.iload_n 2, 1) := by decide +kernel
theorem dX2_compareTwo_109 : decode cX2_compareTwo 109 = .ok (.ishl, 1) := by decide +kernel
theorem dX2_compareTwo_110 : decode cX2_compareTwo 110 = .ok (.ior, 1) := by decide +kernel
theorem dX2_compareTwo_111 : decode cX2_compareTwo 111 = .ok (.iastore, 1) := by decide +kernel
theorem dX2_compareTwo_112 : decode cX2_compareTwo 112 = .ok (.return_, 1) := by decide +kernel
theorem sX2_compareTwo_0 {a0 a1 a2 a3 : Value} (hv : am_rf a0 = true) (h : am_R E d mX2_compareTwo k n 1 [a0, a1, a2, a3] (a0 :: st) S iv Q) : am_R E d mX2_compareTwo k n 0 [a0, a1, a2, a3] st S iv Q := am_aload_n dX2_compareTwo_0 rfl rfl hv h
theorem sX2_compareTwo_1 {a0 a2 a3 : Value} {x : Int32} (h : am_R E d mX2_compareTwo k n 2 [a0, .int x, a2, a3] (.int x :: st) S iv Q) : am_R E d mX2_compareTwo k n 1 [a0, .int x, a2, a3] st S iv Q := am_iload_n dX2_compareTwo_1 rfl rfl h
theorem sX2_compareTwo_2 {a0 a1 a3 : Value} {x : Int32} (h : am_R E d mX2_compareTwo k n 3 [a0, a1, .int x, a3] (.int x :: st) S iv Q) : am_R E d mX2_compareTwo k n 2 [a0, a1, .int x, a3] st S iv Q := am_iload_n dX2_compareTwo_2 rfl rfl h
theorem sX2_compareTwo_3 {ls : List Value} {x1 x2 : Value} {a : Nat} (ha : S.1 a = some (.inl 2)) (hst : (st.map fun v => v.category).sum ≤ 8) (hM : am_M E d mX2_columnsApart 0 0 [.ref a, x1, x2] S iv (am_K3 E (d + 1) mX2_compareTwo k n 3 ls st Q)) : am_R E (d + 1) mX2_compareTwo k n 3 ls (x2 :: x1 :: .ref a :: st) S iv Q := am_cV (ci := 2) (M' := mX2_columnsApart) (as := [x1, x2]) dX2_compareTwo_3 rfl rfl rfl wq_88 wq_89 wq_90 wq_81 wq_86 hy_X2_columnsApart (by decide) ha hst (by omega) (by omega) hM
theorem sX2_compareTwo_3_k {ls : List Value} {x1 x2 : Value} {k' n' : Nat} {a : Nat} (ha : S.1 a = some (.inl 2)) (hst : (st.map fun v => v.category).sum ≤ 8) (hM : am_M E d mX2_columnsApart k' n' [.ref a, x1, x2] S iv (am_K3 E (d + 1) mX2_compareTwo k n 3 ls st Q)) : am_R E (d + 1) mX2_compareTwo (k' + k) (n' + n) 3 ls (x2 :: x1 :: .ref a :: st) S iv Q := am_cV (ci := 2) (M' := mX2_columnsApart) (as := [x1, x2]) dX2_compareTwo_3 rfl rfl rfl wq_88 wq_89 wq_90 wq_81 wq_86 hy_X2_columnsApart (by decide) ha hst (by omega) (by omega) hM
theorem sX2_compareTwo_6 {ls : List Value} {x : Int32} (kt : x ≤ 0 → am_R E d mX2_compareTwo k n 10 ls st S iv Q) (kf : ¬ x ≤ 0 → am_R E d mX2_compareTwo k n 9 ls st S iv Q) : am_R E d mX2_compareTwo k n 6 ls (.int x :: st) S iv Q := am_if_le dX2_compareTwo_6 (by decide) kt kf
theorem sX2_compareTwo_9 {ls : List Value} (h : Q (.inl none) S iv) : am_R E d mX2_compareTwo k n 9 ls [] S iv Q := am_return dX2_compareTwo_9 rfl h
theorem sX2_compareTwo_10 {a0 a1 a2 a3 : Value} (hv : am_rf a0 = true) (h : am_R E d mX2_compareTwo k n 11 [a0, a1, a2, a3] (a0 :: st) S iv Q) : am_R E d mX2_compareTwo k n 10 [a0, a1, a2, a3] st S iv Q := am_aload_n dX2_compareTwo_10 rfl rfl hv h
theorem sX2_compareTwo_11 {ls : List Value} {a b : Nat} (ha : S.1 a = some (.inl 2)) (hb : S.2.1 a 4 = some b) (h : am_R E d mX2_compareTwo k n 14 ls (.ref b :: st) S iv Q) : am_R E d mX2_compareTwo k n 11 ls (.ref a :: st) S iv Q := am_getR (ci := 2) dX2_compareTwo_11 rfl rfl (by decide) wq_69 uq_2 rfl ha hb h
theorem sX2_compareTwo_14 {a0 a1 a3 : Value} {x : Int32} (h : am_R E d mX2_compareTwo k n 15 [a0, a1, .int x, a3] (.int x :: st) S iv Q) : am_R E d mX2_compareTwo k n 14 [a0, a1, .int x, a3] st S iv Q := am_iload_n dX2_compareTwo_14 rfl rfl h
theorem sX2_compareTwo_15 {ls : List Value} {a m : Nat} {i : Int32} (ha : S.1 a = some (.inr (.int, m))) (hi : vp_in i m) (h : am_R E d mX2_compareTwo k n 16 ls (.int (iv a i.toNatClampNeg) :: st) S iv Q) : am_R E d mX2_compareTwo k n 15 ls (.int i :: .ref a :: st) S iv Q := am_iaload dX2_compareTwo_15 ha hi h
theorem sX2_compareTwo_16 {a0 a1 a2 a3 : Value} (hv : am_rf a0 = true) (h : am_R E d mX2_compareTwo k n 17 [a0, a1, a2, a3] (a0 :: st) S iv Q) : am_R E d mX2_compareTwo k n 16 [a0, a1, a2, a3] st S iv Q := am_aload_n dX2_compareTwo_16 rfl rfl hv h
theorem sX2_compareTwo_17 {ls : List Value} {a b : Nat} (ha : S.1 a = some (.inl 2)) (hb : S.2.1 a 4 = some b) (h : am_R E d mX2_compareTwo k n 20 ls (.ref b :: st) S iv Q) : am_R E d mX2_compareTwo k n 17 ls (.ref a :: st) S iv Q := am_getR (ci := 2) dX2_compareTwo_17 rfl rfl (by decide) wq_69 uq_2 rfl ha hb h
theorem sX2_compareTwo_20 {a0 a2 a3 : Value} {x : Int32} (h : am_R E d mX2_compareTwo k n 21 [a0, .int x, a2, a3] (.int x :: st) S iv Q) : am_R E d mX2_compareTwo k n 20 [a0, .int x, a2, a3] st S iv Q := am_iload_n dX2_compareTwo_20 rfl rfl h
theorem sX2_compareTwo_21 {ls : List Value} {a m : Nat} {i : Int32} (ha : S.1 a = some (.inr (.int, m))) (hi : vp_in i m) (h : am_R E d mX2_compareTwo k n 22 ls (.int (iv a i.toNatClampNeg) :: st) S iv Q) : am_R E d mX2_compareTwo k n 21 ls (.int i :: .ref a :: st) S iv Q := am_iaload dX2_compareTwo_21 ha hi h
theorem sX2_compareTwo_22 {ls : List Value} {x y : Int32} (kt : x ≤ y → am_R E d mX2_compareTwo k n 68 ls st S iv Q) (kf : ¬ x ≤ y → am_R E d mX2_compareTwo k n 25 ls st S iv Q) : am_R E d mX2_compareTwo k n 22 ls (.int y :: .int x :: st) S iv Q := am_icmp_le dX2_compareTwo_22 (by decide) kt kf
theorem sX2_compareTwo_25 {a0 a1 a2 a3 : Value} (hv : am_rf a0 = true) (h : am_R E d mX2_compareTwo k n 26 [a0, a1, a2, a3] (a0 :: st) S iv Q) : am_R E d mX2_compareTwo k n 25 [a0, a1, a2, a3] st S iv Q := am_aload_n dX2_compareTwo_25 rfl rfl hv h
theorem sX2_compareTwo_26 {ls : List Value} {a b : Nat} (ha : S.1 a = some (.inl 2)) (hb : S.2.1 a 6 = some b) (h : am_R E d mX2_compareTwo k n 29 ls (.ref b :: st) S iv Q) : am_R E d mX2_compareTwo k n 26 ls (.ref a :: st) S iv Q := am_getR (ci := 2) dX2_compareTwo_26 rfl rfl (by decide) wq_71 uq_2 rfl ha hb h
theorem sX2_compareTwo_29 {a0 a2 a3 : Value} {x : Int32} (h : am_R E d mX2_compareTwo k n 30 [a0, .int x, a2, a3] (.int x :: st) S iv Q) : am_R E d mX2_compareTwo k n 29 [a0, .int x, a2, a3] st S iv Q := am_iload_n dX2_compareTwo_29 rfl rfl h
theorem sX2_compareTwo_30 {ls : List Value} {x y : Value} (hv : x.category = 1) (hu : y.category = 1) (h : am_R E d mX2_compareTwo k n 31 ls (x :: y :: x :: y :: st) S iv Q) : am_R E d mX2_compareTwo k n 30 ls (x :: y :: st) S iv Q := am_dup2 dX2_compareTwo_30 hv hu h
theorem sX2_compareTwo_31 {ls : List Value} {a m : Nat} {i : Int32} (ha : S.1 a = some (.inr (.int, m))) (hi : vp_in i m) (h : am_R E d mX2_compareTwo k n 32 ls (.int (iv a i.toNatClampNeg) :: st) S iv Q) : am_R E d mX2_compareTwo k n 31 ls (.int i :: .ref a :: st) S iv Q := am_iaload dX2_compareTwo_31 ha hi h
theorem sX2_compareTwo_32 {a0 a1 a2 a3 : Value} (h : am_R E d mX2_compareTwo k n 33 [a0, a1, a2, a3] (.int 1 :: st) S iv Q) : am_R E d mX2_compareTwo k n 32 [a0, a1, a2, a3] st S iv Q := am_iconst dX2_compareTwo_32 (by decide) h
theorem sX2_compareTwo_33 {a0 a1 a3 : Value} {x : Int32} (h : am_R E d mX2_compareTwo k n 34 [a0, a1, .int x, a3] (.int x :: st) S iv Q) : am_R E d mX2_compareTwo k n 33 [a0, a1, .int x, a3] st S iv Q := am_iload_n dX2_compareTwo_33 rfl rfl h
theorem sX2_compareTwo_34 {ls : List Value} {x y : Int32} (h : am_R E d mX2_compareTwo k n 35 ls (.int (x <<< (y &&& 31)) :: st) S iv Q) : am_R E d mX2_compareTwo k n 34 ls (.int y :: .int x :: st) S iv Q := am_ishl dX2_compareTwo_34 h
theorem sX2_compareTwo_35 {ls : List Value} {x y : Int32} (h : am_R E d mX2_compareTwo k n 36 ls (.int (x ||| y) :: st) S iv Q) : am_R E d mX2_compareTwo k n 35 ls (.int y :: .int x :: st) S iv Q := am_ior dX2_compareTwo_35 h
theorem sX2_compareTwo_36 {ls : List Value} {a m : Nat} {i x : Int32} (ha : S.1 a = some (.inr (.int, m))) (hi : vp_in i m) (h : am_R E d mX2_compareTwo k n 37 ls st S (am_w iv a i.toNatClampNeg x) Q) : am_R E d mX2_compareTwo k n 36 ls (.int x :: .int i :: .ref a :: st) S iv Q := am_iastore dX2_compareTwo_36 ha hi h
theorem sX2_compareTwo_37 {a0 a1 a2 a3 : Value} (hv : am_rf a0 = true) (h : am_R E d mX2_compareTwo k n 38 [a0, a1, a2, a3] (a0 :: st) S iv Q) : am_R E d mX2_compareTwo k n 37 [a0, a1, a2, a3] st S iv Q := am_aload_n dX2_compareTwo_37 rfl rfl hv h
theorem sX2_compareTwo_38 {ls : List Value} {a b : Nat} (ha : S.1 a = some (.inl 2)) (hb : S.2.1 a 7 = some b) (h : am_R E d mX2_compareTwo k n 41 ls (.ref b :: st) S iv Q) : am_R E d mX2_compareTwo k n 38 ls (.ref a :: st) S iv Q := am_getR (ci := 2) dX2_compareTwo_38 rfl rfl (by decide) wq_72 uq_2 rfl ha hb h
theorem sX2_compareTwo_41 {a0 a2 a3 : Value} {x : Int32} (h : am_R E d mX2_compareTwo k n 42 [a0, .int x, a2, a3] (.int x :: st) S iv Q) : am_R E d mX2_compareTwo k n 41 [a0, .int x, a2, a3] st S iv Q := am_iload_n dX2_compareTwo_41 rfl rfl h
theorem sX2_compareTwo_42 {ls : List Value} {x y : Value} (hv : x.category = 1) (hu : y.category = 1) (h : am_R E d mX2_compareTwo k n 43 ls (x :: y :: x :: y :: st) S iv Q) : am_R E d mX2_compareTwo k n 42 ls (x :: y :: st) S iv Q := am_dup2 dX2_compareTwo_42 hv hu h
theorem sX2_compareTwo_43 {ls : List Value} {a m : Nat} {i : Int32} (ha : S.1 a = some (.inr (.int, m))) (hi : vp_in i m) (h : am_R E d mX2_compareTwo k n 44 ls (.int (iv a i.toNatClampNeg) :: st) S iv Q) : am_R E d mX2_compareTwo k n 43 ls (.int i :: .ref a :: st) S iv Q := am_iaload dX2_compareTwo_43 ha hi h
theorem sX2_compareTwo_44 {a0 a1 a2 a3 : Value} (hv : am_rf a0 = true) (h : am_R E d mX2_compareTwo k n 45 [a0, a1, a2, a3] (a0 :: st) S iv Q) : am_R E d mX2_compareTwo k n 44 [a0, a1, a2, a3] st S iv Q := am_aload_n dX2_compareTwo_44 rfl rfl hv h
theorem sX2_compareTwo_45 {ls : List Value} {a b : Nat} (ha : S.1 a = some (.inl 2)) (hb : S.2.1 a 5 = some b) (h : am_R E d mX2_compareTwo k n 48 ls (.ref b :: st) S iv Q) : am_R E d mX2_compareTwo k n 45 ls (.ref a :: st) S iv Q := am_getR (ci := 2) dX2_compareTwo_45 rfl rfl (by decide) wq_70 uq_2 rfl ha hb h
theorem sX2_compareTwo_48 {a0 a1 a3 : Value} {x : Int32} (h : am_R E d mX2_compareTwo k n 49 [a0, a1, .int x, a3] (.int x :: st) S iv Q) : am_R E d mX2_compareTwo k n 48 [a0, a1, .int x, a3] st S iv Q := am_iload_n dX2_compareTwo_48 rfl rfl h
theorem sX2_compareTwo_49 {ls : List Value} {a m : Nat} {i : Int32} (ha : S.1 a = some (.inr (.int, m))) (hi : vp_in i m) (h : am_R E d mX2_compareTwo k n 50 ls (.int (iv a i.toNatClampNeg) :: st) S iv Q) : am_R E d mX2_compareTwo k n 49 ls (.int i :: .ref a :: st) S iv Q := am_iaload dX2_compareTwo_49 ha hi h
theorem sX2_compareTwo_50 {a0 a1 a2 a3 : Value} (hv : am_rf a0 = true) (h : am_R E d mX2_compareTwo k n 51 [a0, a1, a2, a3] (a0 :: st) S iv Q) : am_R E d mX2_compareTwo k n 50 [a0, a1, a2, a3] st S iv Q := am_aload_n dX2_compareTwo_50 rfl rfl hv h
theorem sX2_compareTwo_51 {ls : List Value} {a b : Nat} (ha : S.1 a = some (.inl 2)) (hb : S.2.1 a 5 = some b) (h : am_R E d mX2_compareTwo k n 54 ls (.ref b :: st) S iv Q) : am_R E d mX2_compareTwo k n 51 ls (.ref a :: st) S iv Q := am_getR (ci := 2) dX2_compareTwo_51 rfl rfl (by decide) wq_70 uq_2 rfl ha hb h
theorem sX2_compareTwo_54 {a0 a2 a3 : Value} {x : Int32} (h : am_R E d mX2_compareTwo k n 55 [a0, .int x, a2, a3] (.int x :: st) S iv Q) : am_R E d mX2_compareTwo k n 54 [a0, .int x, a2, a3] st S iv Q := am_iload_n dX2_compareTwo_54 rfl rfl h
theorem sX2_compareTwo_55 {ls : List Value} {a m : Nat} {i : Int32} (ha : S.1 a = some (.inr (.int, m))) (hi : vp_in i m) (h : am_R E d mX2_compareTwo k n 56 ls (.int (iv a i.toNatClampNeg) :: st) S iv Q) : am_R E d mX2_compareTwo k n 55 ls (.int i :: .ref a :: st) S iv Q := am_iaload dX2_compareTwo_55 ha hi h
theorem sX2_compareTwo_56 {ls : List Value} {x y : Int32} (kt : x < y → am_R E d mX2_compareTwo k n 65 ls st S iv Q) (kf : ¬ x < y → am_R E d mX2_compareTwo k n 59 ls st S iv Q) : am_R E d mX2_compareTwo k n 56 ls (.int y :: .int x :: st) S iv Q := am_icmp_lt dX2_compareTwo_56 (by decide) kt kf
theorem sX2_compareTwo_59 {a0 a1 a2 a3 : Value} (h : am_R E d mX2_compareTwo k n 60 [a0, a1, a2, a3] (.int 1 :: st) S iv Q) : am_R E d mX2_compareTwo k n 59 [a0, a1, a2, a3] st S iv Q := am_iconst dX2_compareTwo_59 (by decide) h
theorem sX2_compareTwo_60 {a0 a1 a3 : Value} {x : Int32} (h : am_R E d mX2_compareTwo k n 61 [a0, a1, .int x, a3] (.int x :: st) S iv Q) : am_R E d mX2_compareTwo k n 60 [a0, a1, .int x, a3] st S iv Q := am_iload_n dX2_compareTwo_60 rfl rfl h
theorem sX2_compareTwo_61 {ls : List Value} {x y : Int32} (h : am_R E d mX2_compareTwo k n 62 ls (.int (x <<< (y &&& 31)) :: st) S iv Q) : am_R E d mX2_compareTwo k n 61 ls (.int y :: .int x :: st) S iv Q := am_ishl dX2_compareTwo_61 h
theorem sX2_compareTwo_62 {ls : List Value} (h : am_R E d mX2_compareTwo k n 66 ls st S iv Q) : am_R E d mX2_compareTwo k n 62 ls st S iv Q := am_goto dX2_compareTwo_62 (by decide) h
theorem sX2_compareTwo_65 {a0 a1 a2 a3 : Value} (h : am_R E d mX2_compareTwo k n 66 [a0, a1, a2, a3] (.int 0 :: st) S iv Q) : am_R E d mX2_compareTwo k n 65 [a0, a1, a2, a3] st S iv Q := am_iconst dX2_compareTwo_65 (by decide) h
theorem sX2_compareTwo_66 {ls : List Value} {x y : Int32} (h : am_R E d mX2_compareTwo k n 67 ls (.int (x ||| y) :: st) S iv Q) : am_R E d mX2_compareTwo k n 66 ls (.int y :: .int x :: st) S iv Q := am_ior dX2_compareTwo_66 h
theorem sX2_compareTwo_67 {ls : List Value} {a m : Nat} {i x : Int32} (ha : S.1 a = some (.inr (.int, m))) (hi : vp_in i m) (h : am_R E d mX2_compareTwo k n 68 ls st S (am_w iv a i.toNatClampNeg x) Q) : am_R E d mX2_compareTwo k n 67 ls (.int x :: .int i :: .ref a :: st) S iv Q := am_iastore dX2_compareTwo_67 ha hi h
theorem sX2_compareTwo_68 {a0 a1 a2 a3 : Value} (hv : am_rf a0 = true) (h : am_R E d mX2_compareTwo k n 69 [a0, a1, a2, a3] (a0 :: st) S iv Q) : am_R E d mX2_compareTwo k n 68 [a0, a1, a2, a3] st S iv Q := am_aload_n dX2_compareTwo_68 rfl rfl hv h
theorem sX2_compareTwo_69 {ls : List Value} {a b : Nat} (ha : S.1 a = some (.inl 2)) (hb : S.2.1 a 4 = some b) (h : am_R E d mX2_compareTwo k n 72 ls (.ref b :: st) S iv Q) : am_R E d mX2_compareTwo k n 69 ls (.ref a :: st) S iv Q := am_getR (ci := 2) dX2_compareTwo_69 rfl rfl (by decide) wq_69 uq_2 rfl ha hb h
theorem sX2_compareTwo_72 {a0 a1 a3 : Value} {x : Int32} (h : am_R E d mX2_compareTwo k n 73 [a0, a1, .int x, a3] (.int x :: st) S iv Q) : am_R E d mX2_compareTwo k n 72 [a0, a1, .int x, a3] st S iv Q := am_iload_n dX2_compareTwo_72 rfl rfl h
theorem sX2_compareTwo_73 {ls : List Value} {a m : Nat} {i : Int32} (ha : S.1 a = some (.inr (.int, m))) (hi : vp_in i m) (h : am_R E d mX2_compareTwo k n 74 ls (.int (iv a i.toNatClampNeg) :: st) S iv Q) : am_R E d mX2_compareTwo k n 73 ls (.int i :: .ref a :: st) S iv Q := am_iaload dX2_compareTwo_73 ha hi h
theorem sX2_compareTwo_74 {a0 a1 a2 a3 : Value} (hv : am_rf a0 = true) (h : am_R E d mX2_compareTwo k n 75 [a0, a1, a2, a3] (a0 :: st) S iv Q) : am_R E d mX2_compareTwo k n 74 [a0, a1, a2, a3] st S iv Q := am_aload_n dX2_compareTwo_74 rfl rfl hv h
theorem sX2_compareTwo_75 {ls : List Value} {a b : Nat} (ha : S.1 a = some (.inl 2)) (hb : S.2.1 a 4 = some b) (h : am_R E d mX2_compareTwo k n 78 ls (.ref b :: st) S iv Q) : am_R E d mX2_compareTwo k n 75 ls (.ref a :: st) S iv Q := am_getR (ci := 2) dX2_compareTwo_75 rfl rfl (by decide) wq_69 uq_2 rfl ha hb h
theorem sX2_compareTwo_78 {a0 a2 a3 : Value} {x : Int32} (h : am_R E d mX2_compareTwo k n 79 [a0, .int x, a2, a3] (.int x :: st) S iv Q) : am_R E d mX2_compareTwo k n 78 [a0, .int x, a2, a3] st S iv Q := am_iload_n dX2_compareTwo_78 rfl rfl h
theorem sX2_compareTwo_79 {ls : List Value} {a m : Nat} {i : Int32} (ha : S.1 a = some (.inr (.int, m))) (hi : vp_in i m) (h : am_R E d mX2_compareTwo k n 80 ls (.int (iv a i.toNatClampNeg) :: st) S iv Q) : am_R E d mX2_compareTwo k n 79 ls (.int i :: .ref a :: st) S iv Q := am_iaload dX2_compareTwo_79 ha hi h
theorem sX2_compareTwo_80 {ls : List Value} {x y : Int32} (kt : y ≤ x → am_R E d mX2_compareTwo k n 112 ls st S iv Q) (kf : ¬ y ≤ x → am_R E d mX2_compareTwo k n 83 ls st S iv Q) : am_R E d mX2_compareTwo k n 80 ls (.int y :: .int x :: st) S iv Q := am_icmp_ge dX2_compareTwo_80 (by decide) kt kf
theorem sX2_compareTwo_83 {a0 a1 a2 a3 : Value} (hv : am_rf a0 = true) (h : am_R E d mX2_compareTwo k n 84 [a0, a1, a2, a3] (a0 :: st) S iv Q) : am_R E d mX2_compareTwo k n 83 [a0, a1, a2, a3] st S iv Q := am_aload_n dX2_compareTwo_83 rfl rfl hv h
theorem sX2_compareTwo_84 {ls : List Value} {a b : Nat} (ha : S.1 a = some (.inl 2)) (hb : S.2.1 a 4 = some b) (h : am_R E d mX2_compareTwo k n 87 ls (.ref b :: st) S iv Q) : am_R E d mX2_compareTwo k n 84 ls (.ref a :: st) S iv Q := am_getR (ci := 2) dX2_compareTwo_84 rfl rfl (by decide) wq_69 uq_2 rfl ha hb h
theorem sX2_compareTwo_87 {a0 a2 a3 : Value} {x : Int32} (h : am_R E d mX2_compareTwo k n 88 [a0, .int x, a2, a3] (.int x :: st) S iv Q) : am_R E d mX2_compareTwo k n 87 [a0, .int x, a2, a3] st S iv Q := am_iload_n dX2_compareTwo_87 rfl rfl h
theorem sX2_compareTwo_88 {ls : List Value} {a m : Nat} {i : Int32} (ha : S.1 a = some (.inr (.int, m))) (hi : vp_in i m) (h : am_R E d mX2_compareTwo k n 89 ls (.int (iv a i.toNatClampNeg) :: st) S iv Q) : am_R E d mX2_compareTwo k n 88 ls (.int i :: .ref a :: st) S iv Q := am_iaload dX2_compareTwo_88 ha hi h
theorem sX2_compareTwo_89 {a0 a1 a2 a3 : Value} (hv : am_rf a0 = true) (h : am_R E d mX2_compareTwo k n 90 [a0, a1, a2, a3] (a0 :: st) S iv Q) : am_R E d mX2_compareTwo k n 89 [a0, a1, a2, a3] st S iv Q := am_aload_n dX2_compareTwo_89 rfl rfl hv h
theorem sX2_compareTwo_90 {ls : List Value} {a b : Nat} (ha : S.1 a = some (.inl 2)) (hb : S.2.1 a 4 = some b) (h : am_R E d mX2_compareTwo k n 93 ls (.ref b :: st) S iv Q) : am_R E d mX2_compareTwo k n 90 ls (.ref a :: st) S iv Q := am_getR (ci := 2) dX2_compareTwo_90 rfl rfl (by decide) wq_69 uq_2 rfl ha hb h
theorem sX2_compareTwo_93 {a0 a1 a3 : Value} {x : Int32} (h : am_R E d mX2_compareTwo k n 94 [a0, a1, .int x, a3] (.int x :: st) S iv Q) : am_R E d mX2_compareTwo k n 93 [a0, a1, .int x, a3] st S iv Q := am_iload_n dX2_compareTwo_93 rfl rfl h
theorem sX2_compareTwo_94 {ls : List Value} {a m : Nat} {i : Int32} (ha : S.1 a = some (.inr (.int, m))) (hi : vp_in i m) (h : am_R E d mX2_compareTwo k n 95 ls (.int (iv a i.toNatClampNeg) :: st) S iv Q) : am_R E d mX2_compareTwo k n 94 ls (.int i :: .ref a :: st) S iv Q := am_iaload dX2_compareTwo_94 ha hi h
theorem sX2_compareTwo_95 {ls : List Value} {x y : Int32} (h : am_R E d mX2_compareTwo k n 96 ls (.int (x - y) :: st) S iv Q) : am_R E d mX2_compareTwo k n 95 ls (.int y :: .int x :: st) S iv Q := am_isub dX2_compareTwo_95 h
theorem sX2_compareTwo_96 {a0 a1 a2 : Value} {x : Int32} (h : am_R E d mX2_compareTwo k n 97 [a0, a1, a2, .int x] (.int x :: st) S iv Q) : am_R E d mX2_compareTwo k n 96 [a0, a1, a2, .int x] st S iv Q := am_iload_n dX2_compareTwo_96 rfl rfl h
theorem sX2_compareTwo_97 {ls : List Value} {x y : Int32} (kt : y < x → am_R E d mX2_compareTwo k n 112 ls st S iv Q) (kf : ¬ y < x → am_R E d mX2_compareTwo k n 100 ls st S iv Q) : am_R E d mX2_compareTwo k n 97 ls (.int y :: .int x :: st) S iv Q := am_icmp_gt dX2_compareTwo_97 (by decide) kt kf
theorem sX2_compareTwo_100 {a0 a1 a2 a3 : Value} (hv : am_rf a0 = true) (h : am_R E d mX2_compareTwo k n 101 [a0, a1, a2, a3] (a0 :: st) S iv Q) : am_R E d mX2_compareTwo k n 100 [a0, a1, a2, a3] st S iv Q := am_aload_n dX2_compareTwo_100 rfl rfl hv h
theorem sX2_compareTwo_101 {ls : List Value} {a b : Nat} (ha : S.1 a = some (.inl 2)) (hb : S.2.1 a 8 = some b) (h : am_R E d mX2_compareTwo k n 104 ls (.ref b :: st) S iv Q) : am_R E d mX2_compareTwo k n 101 ls (.ref a :: st) S iv Q := am_getR (ci := 2) dX2_compareTwo_101 rfl rfl (by decide) wq_73 uq_2 rfl ha hb h
theorem sX2_compareTwo_104 {a0 a2 a3 : Value} {x : Int32} (h : am_R E d mX2_compareTwo k n 105 [a0, .int x, a2, a3] (.int x :: st) S iv Q) : am_R E d mX2_compareTwo k n 104 [a0, .int x, a2, a3] st S iv Q := am_iload_n dX2_compareTwo_104 rfl rfl h
theorem sX2_compareTwo_105 {ls : List Value} {x y : Value} (hv : x.category = 1) (hu : y.category = 1) (h : am_R E d mX2_compareTwo k n 106 ls (x :: y :: x :: y :: st) S iv Q) : am_R E d mX2_compareTwo k n 105 ls (x :: y :: st) S iv Q := am_dup2 dX2_compareTwo_105 hv hu h
theorem sX2_compareTwo_106 {ls : List Value} {a m : Nat} {i : Int32} (ha : S.1 a = some (.inr (.int, m))) (hi : vp_in i m) (h : am_R E d mX2_compareTwo k n 107 ls (.int (iv a i.toNatClampNeg) :: st) S iv Q) : am_R E d mX2_compareTwo k n 106 ls (.int i :: .ref a :: st) S iv Q := am_iaload dX2_compareTwo_106 ha hi h
theorem sX2_compareTwo_107 {a0 a1 a2 a3 : Value} (h : am_R E d mX2_compareTwo k n 108 [a0, a1, a2, a3] (.int 1 :: st) S iv Q) : am_R E d mX2_compareTwo k n 107 [a0, a1, a2, a3] st S iv Q := am_iconst dX2_compareTwo_107 (by decide) h
theorem sX2_compareTwo_108 {a0 a1 a3 : Value} {x : Int32} (h : am_R E d mX2_compareTwo k n 109 [a0, a1, .int x, a3] (.int x :: st) S iv Q) : am_R E d mX2_compareTwo k n 108 [a0, a1, .int x, a3] st S iv Q := am_iload_n dX2_compareTwo_108 rfl rfl h
theorem sX2_compareTwo_109 {ls : List Value} {x y : Int32} (h : am_R E d mX2_compareTwo k n 110 ls (.int (x <<< (y &&& 31)) :: st) S iv Q) : am_R E d mX2_compareTwo k n 109 ls (.int y :: .int x :: st) S iv Q := am_ishl dX2_compareTwo_109 h
theorem sX2_compareTwo_110 {ls : List Value} {x y : Int32} (h : am_R E d mX2_compareTwo k n 111 ls (.int (x ||| y) :: st) S iv Q) : am_R E d mX2_compareTwo k n 110 ls (.int y :: .int x :: st) S iv Q := am_ior dX2_compareTwo_110 h
theorem sX2_compareTwo_111 {ls : List Value} {a m : Nat} {i x : Int32} (ha : S.1 a = some (.inr (.int, m))) (hi : vp_in i m) (h : am_R E d mX2_compareTwo k n 112 ls st S (am_w iv a i.toNatClampNeg x) Q) : am_R E d mX2_compareTwo k n 111 ls (.int x :: .int i :: .ref a :: st) S iv Q := am_iastore dX2_compareTwo_111 ha hi h
theorem sX2_compareTwo_112 {ls : List Value} (h : Q (.inl none) S iv) : am_R E d mX2_compareTwo k n 112 ls [] S iv Q := am_return dX2_compareTwo_112 rfl h
end R13_X2
