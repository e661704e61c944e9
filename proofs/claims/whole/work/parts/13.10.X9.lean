section R13_X9
variable {E : am_E} {d k n : Nat} {st : List Value} {S : am_S} {iv : am_I} {Q : am_O → am_S → am_I → Prop}
theorem dX9_init_0 : decode cX9_init 0 = .ok (.aload_n 0, 1) := by decide +kernel
theorem dX9_init_1 : decode cX9_init 1 = .ok (.invokespecial 3, 3) := by decide +kernel
theorem dX9_init_4 : decode cX9_init 4 = .ok (.aload_n 0, 1) := by decide +kernel
theorem dX9_init_5 : decode cX9_init 5 = .ok (.sipush 700, 3) := by decide +kernel
theorem dX9_init_8 : decode cX9_init 8 = .ok (.newarray .byte, 2) := by decide +kernel
theorem dX9_init_10 : decode cX9_init 10 = .ok (.putfield 9, 3) := by decide +kernel
theorem dX9_init_13 : decode cX9_init 13 = .ok (.aload_n 0, 1) := by decide +kernel
theorem dX9_init_14 : decode cX9_init 14 = .ok (.iconst (-1), 1) := by decide +kernel
theorem dX9_init_15 : decode cX9_init 15 = .ok (.putfield 13, 3) := by decide +kernel
theorem dX9_init_18 : decode cX9_init 18 = .ok (.aload_n 0, 1) := by decide +kernel
theorem dX9_init_19 : decode cX9_init 19 = .ok (.new 17, 3) := by decide +kernel
theorem dX9_init_22 : decode cX9_init 22 = .ok (.dup, 1) := by decide +kernel
theorem dX9_init_23 : decode cX9_init 23 = .ok (.invokespecial 19, 3) := by decide +kernel
theorem dX9_init_26 : decode cX9_init 26 = .ok (.putfield 20, 3) := by decide +kernel
theorem dX9_init_29 : decode cX9_init 29 = .ok (.aload_n 0, 1) := by decide +kernel
theorem dX9_init_30 : decode cX9_init 30 = .ok (.new 17, 3) := by decide +kernel
theorem dX9_init_33 : decode cX9_init 33 = .ok (.dup, 1) := by decide +kernel
theorem dX9_init_34 : decode cX9_init 34 = .ok (.invokespecial 19, 3) := by decide +kernel
theorem dX9_init_37 : decode cX9_init 37 = .ok (.putfield 24, 3) := by decide +kernel
theorem dX9_init_40 : decode cX9_init 40 = .ok (.aload_n 0, 1) := by decide +kernel
theorem dX9_init_41 : decode cX9_init 41 = .ok (.new 27, 3) := by decide +kernel
theorem dX9_init_44 : decode cX9_init 44 = .ok (.dup, 1) := by decide +kernel
theorem dX9_init_45 : decode cX9_init 45 = .ok (.invokespecial 29, 3) := by decide +kernel
theorem dX9_init_48 : decode cX9_init 48 = .ok (.putfield 30, 3) := by decide +kernel
theorem dX9_init_51 : decode cX9_init 51 = .ok (.aload_n 0, 1) := by decide +kernel
theorem dX9_init_52 : decode cX9_init 52 = .ok (.new 27, 3) := by decide +kernel
theorem dX9_init_55 : decode cX9_init 55 = .ok (.dup, 1) := by decide +kernel
theorem dX9_init_56 : decode cX9_init 56 = .ok (.invokespecial 29, 3) := by decide +kernel
theorem dX9_init_59 : decode cX9_init 59 = .ok (.putfield 34, 3) := by decide +kernel
theorem dX9_init_62 : decode cX9_init 62 = .ok (.aload_n 0, 1) := by decide +kernel
theorem dX9_init_63 : decode cX9_init 63 = .ok (.new 37, 3) := by decide +kernel
theorem dX9_init_66 : decode cX9_init 66 = .ok (.dup, 1) := by decide +kernel
theorem dX9_init_67 : decode cX9_init 67 = .ok (.invokespecial 39, 3) := by decide +kernel
theorem dX9_init_70 : decode cX9_init 70 = .ok (.putfield 40, 3) := by decide +kernel
theorem dX9_init_73 : decode cX9_init 73 = .ok (.aload_n 0, 1) := by decide +kernel
theorem dX9_init_74 : decode cX9_init 74 = .ok (.bipush 10, 2) := by decide +kernel
theorem dX9_init_76 : decode cX9_init 76 = .ok (.newarray .int, 2) := by decide +kernel
theorem dX9_init_78 : decode cX9_init 78 = .ok (.putfield 44, 3) := by decide +kernel
theorem dX9_init_81 : decode cX9_init 81 = .ok (.aload_n 0, 1) := by decide +kernel
theorem dX9_init_82 : decode cX9_init 82 = .ok (.iconst (-1), 1) := by decide +kernel
theorem dX9_init_83 : decode cX9_init 83 = .ok (.putfield 48, 3) := by decide +kernel
theorem dX9_init_86 : decode cX9_init 86 = .ok (.return_, 1) := by decide +kernel
theorem sX9_init_0 {a0 : Value} (hv : am_rf a0 = true) (h : am_R E d mX9_init k n 1 [a0] (a0 :: st) S iv Q) : am_R E d mX9_init k n 0 [a0] st S iv Q := am_aload_n dX9_init_0 rfl rfl hv h
theorem sX9_init_1 {ls : List Value} {a : Nat} (hst : (st.map fun v => v.category).sum ≤ 8) (h : am_R E (d + 1) mX9_init k n 4 ls st S iv Q) : am_R E (d + 1) mX9_init k n 1 ls (.ref a :: st) S iv Q := am_objInit dX9_init_1 wq_552 wq_63 wq_64 hst (by omega) h
theorem sX9_init_4 {a0 : Value} (hv : am_rf a0 = true) (h : am_R E d mX9_init k n 5 [a0] (a0 :: st) S iv Q) : am_R E d mX9_init k n 4 [a0] st S iv Q := am_aload_n dX9_init_4 rfl rfl hv h
theorem sX9_init_5 {a0 : Value} (h : am_R E d mX9_init k n 8 [a0] (.int 700 :: st) S iv Q) : am_R E d mX9_init k n 5 [a0] st S iv Q := am_sipush dX9_init_5 (by decide) h
theorem sX9_init_8 {ls : List Value} {x : Int32} {m : Nat} (hx : ¬ x < 0) (hm : x.toNatClampNeg = m) (hb : m ≤ 50000000) (h : am_R E d mX9_init k n 10 ls (.ref S.2.2.2 :: st) (am_new S (.inr (.byte, m))) (am_0 S iv) Q) : am_R E d mX9_init (k + 1) (n + m) 8 ls (.int x :: st) S iv Q := am_nB dX9_init_8 wq_553 hx hm (by omega) (by omega) (by omega) h
theorem sX9_init_10 {ls : List Value} {a b : Nat} (ha : S.1 a = some (.inl 9)) (h : am_R E d mX9_init k n 13 ls st (am_wr S a 0 b) iv Q) : am_R E d mX9_init k n 10 ls (.ref b :: .ref a :: st) S iv Q := am_putR (ci := 9) dX9_init_10 rfl rfl (by decide) wq_554 uq_9 tyX9_ok nmX9 (Or.inr ⟨rfl, rfl, rfl⟩) rfl ha h
theorem sX9_init_13 {a0 : Value} (hv : am_rf a0 = true) (h : am_R E d mX9_init k n 14 [a0] (a0 :: st) S iv Q) : am_R E d mX9_init k n 13 [a0] st S iv Q := am_aload_n dX9_init_13 rfl rfl hv h
theorem sX9_init_14 {a0 : Value} (h : am_R E d mX9_init k n 15 [a0] (.int (-1) :: st) S iv Q) : am_R E d mX9_init k n 14 [a0] st S iv Q := am_iconst dX9_init_14 (by decide) h
theorem sX9_init_15 {ls : List Value} {a : Nat} {x : Int32} (ha : S.1 a = some (.inl 9)) (h : am_R E d mX9_init k n 18 ls st S (am_w iv a 2 x) Q) : am_R E d mX9_init k n 15 ls (.int x :: .ref a :: st) S iv Q := am_putI (ci := 9) dX9_init_15 rfl rfl (by decide) wq_555 uq_9 tyX9_ok nmX9 (Or.inl rfl) rfl ha h
theorem sX9_init_18 {a0 : Value} (hv : am_rf a0 = true) (h : am_R E d mX9_init k n 19 [a0] (a0 :: st) S iv Q) : am_R E d mX9_init k n 18 [a0] st S iv Q := am_aload_n dX9_init_18 rfl rfl hv h
theorem sX9_init_19 {ls : List Value} (h : am_R E d mX9_init k n 22 ls (.ref S.2.2.2 :: st) (am_new S (.inl 0)) (am_0 S iv) Q) : am_R E d mX9_init (k + 1) (n + 12) 19 ls st S iv Q := am_newO (ci := 0) dX9_init_19 rfl rfl wq_556 wq_557 wq_220 uq_0 tyX0_ok dq_0 (by omega) (by omega) h
theorem sX9_init_22 {ls : List Value} {x : Value} (hv : x.category = 1) (h : am_R E d mX9_init k n 23 ls (x :: x :: st) S iv Q) : am_R E d mX9_init k n 22 ls (x :: st) S iv Q := am_dup dX9_init_22 hv h
theorem sX9_init_23 {ls : List Value} {k' n' : Nat} {a : Nat} (hst : (st.map fun v => v.category).sum ≤ 8) (hM : am_M E d mX0_init k' n' [.ref a] S iv (fun o S' iv' => o = .inl none ∧ am_R E (d + 1) mX9_init k n 26 ls st S' iv' Q)) : am_R E (d + 1) mX9_init (k' + k) (n' + n) 23 ls (.ref a :: st) S iv Q := am_cI (M' := mX0_init) (as := []) "DrawerWall" dX9_init_23 rfl rfl rfl (Or.inr (List.mem_of_getElem? (i := 0) rfl)) wq_560 wq_220 wq_558 hy_X0_init (by decide) hst (by omega) (by omega) hM
theorem sX9_init_26 {ls : List Value} {a b : Nat} (ha : S.1 a = some (.inl 9)) (h : am_R E d mX9_init k n 29 ls st (am_wr S a 3 b) iv Q) : am_R E d mX9_init k n 26 ls (.ref b :: .ref a :: st) S iv Q := am_putR (ci := 9) dX9_init_26 rfl rfl (by decide) wq_561 uq_9 tyX9_ok nmX9 (Or.inl rfl) rfl ha h
theorem sX9_init_29 {a0 : Value} (hv : am_rf a0 = true) (h : am_R E d mX9_init k n 30 [a0] (a0 :: st) S iv Q) : am_R E d mX9_init k n 29 [a0] st S iv Q := am_aload_n dX9_init_29 rfl rfl hv h
theorem sX9_init_30 {ls : List Value} (h : am_R E d mX9_init k n 33 ls (.ref S.2.2.2 :: st) (am_new S (.inl 0)) (am_0 S iv) Q) : am_R E d mX9_init (k + 1) (n + 12) 30 ls st S iv Q := am_newO (ci := 0) dX9_init_30 rfl rfl wq_556 wq_557 wq_220 uq_0 tyX0_ok dq_0 (by omega) (by omega) h
theorem sX9_init_33 {ls : List Value} {x : Value} (hv : x.category = 1) (h : am_R E d mX9_init k n 34 ls (x :: x :: st) S iv Q) : am_R E d mX9_init k n 33 ls (x :: st) S iv Q := am_dup dX9_init_33 hv h
theorem sX9_init_34 {ls : List Value} {k' n' : Nat} {a : Nat} (hst : (st.map fun v => v.category).sum ≤ 8) (hM : am_M E d mX0_init k' n' [.ref a] S iv (fun o S' iv' => o = .inl none ∧ am_R E (d + 1) mX9_init k n 37 ls st S' iv' Q)) : am_R E (d + 1) mX9_init (k' + k) (n' + n) 34 ls (.ref a :: st) S iv Q := am_cI (M' := mX0_init) (as := []) "DrawerWall" dX9_init_34 rfl rfl rfl (Or.inr (List.mem_of_getElem? (i := 0) rfl)) wq_560 wq_220 wq_558 hy_X0_init (by decide) hst (by omega) (by omega) hM
theorem sX9_init_37 {ls : List Value} {a b : Nat} (ha : S.1 a = some (.inl 9)) (h : am_R E d mX9_init k n 40 ls st (am_wr S a 4 b) iv Q) : am_R E d mX9_init k n 37 ls (.ref b :: .ref a :: st) S iv Q := am_putR (ci := 9) dX9_init_37 rfl rfl (by decide) wq_562 uq_9 tyX9_ok nmX9 (Or.inl rfl) rfl ha h
theorem sX9_init_40 {a0 : Value} (hv : am_rf a0 = true) (h : am_R E d mX9_init k n 41 [a0] (a0 :: st) S iv Q) : am_R E d mX9_init k n 40 [a0] st S iv Q := am_aload_n dX9_init_40 rfl rfl hv h
theorem sX9_init_41 {ls : List Value} (h : am_R E d mX9_init k n 44 ls (.ref S.2.2.2 :: st) (am_new S (.inl 7)) (am_0 S iv) Q) : am_R E d mX9_init (k + 1) (n + 9) 41 ls st S iv Q := am_newO (ci := 7) dX9_init_41 rfl rfl wq_563 wq_564 wq_565 uq_7 tyX7_ok dq_7 (by omega) (by omega) h
theorem sX9_init_44 {ls : List Value} {x : Value} (hv : x.category = 1) (h : am_R E d mX9_init k n 45 ls (x :: x :: st) S iv Q) : am_R E d mX9_init k n 44 ls (x :: st) S iv Q := am_dup dX9_init_44 hv h
theorem sX9_init_45 {ls : List Value} {k' n' : Nat} {a : Nat} (hst : (st.map fun v => v.category).sum ≤ 8) (hM : am_M E d mX7_init k' n' [.ref a] S iv (fun o S' iv' => o = .inl none ∧ am_R E (d + 1) mX9_init k n 48 ls st S' iv' Q)) : am_R E (d + 1) mX9_init (k' + k) (n' + n) 45 ls (.ref a :: st) S iv Q := am_cI (M' := mX7_init) (as := []) "DrawerWall" dX9_init_45 rfl rfl rfl (Or.inr (List.mem_of_getElem? (i := 4) rfl)) wq_568 wq_565 wq_566 hy_X7_init (by decide) hst (by omega) (by omega) hM
theorem sX9_init_48 {ls : List Value} {a b : Nat} (ha : S.1 a = some (.inl 9)) (h : am_R E d mX9_init k n 51 ls st (am_wr S a 5 b) iv Q) : am_R E d mX9_init k n 48 ls (.ref b :: .ref a :: st) S iv Q := am_putR (ci := 9) dX9_init_48 rfl rfl (by decide) wq_569 uq_9 tyX9_ok nmX9 (Or.inr ⟨rfl, rfl, rfl⟩) rfl ha h
theorem sX9_init_51 {a0 : Value} (hv : am_rf a0 = true) (h : am_R E d mX9_init k n 52 [a0] (a0 :: st) S iv Q) : am_R E d mX9_init k n 51 [a0] st S iv Q := am_aload_n dX9_init_51 rfl rfl hv h
theorem sX9_init_52 {ls : List Value} (h : am_R E d mX9_init k n 55 ls (.ref S.2.2.2 :: st) (am_new S (.inl 7)) (am_0 S iv) Q) : am_R E d mX9_init (k + 1) (n + 9) 52 ls st S iv Q := am_newO (ci := 7) dX9_init_52 rfl rfl wq_563 wq_564 wq_565 uq_7 tyX7_ok dq_7 (by omega) (by omega) h
theorem sX9_init_55 {ls : List Value} {x : Value} (hv : x.category = 1) (h : am_R E d mX9_init k n 56 ls (x :: x :: st) S iv Q) : am_R E d mX9_init k n 55 ls (x :: st) S iv Q := am_dup dX9_init_55 hv h
theorem sX9_init_56 {ls : List Value} {k' n' : Nat} {a : Nat} (hst : (st.map fun v => v.category).sum ≤ 8) (hM : am_M E d mX7_init k' n' [.ref a] S iv (fun o S' iv' => o = .inl none ∧ am_R E (d + 1) mX9_init k n 59 ls st S' iv' Q)) : am_R E (d + 1) mX9_init (k' + k) (n' + n) 56 ls (.ref a :: st) S iv Q := am_cI (M' := mX7_init) (as := []) "DrawerWall" dX9_init_56 rfl rfl rfl (Or.inr (List.mem_of_getElem? (i := 4) rfl)) wq_568 wq_565 wq_566 hy_X7_init (by decide) hst (by omega) (by omega) hM
theorem sX9_init_59 {ls : List Value} {a b : Nat} (ha : S.1 a = some (.inl 9)) (h : am_R E d mX9_init k n 62 ls st (am_wr S a 6 b) iv Q) : am_R E d mX9_init k n 59 ls (.ref b :: .ref a :: st) S iv Q := am_putR (ci := 9) dX9_init_59 rfl rfl (by decide) wq_570 uq_9 tyX9_ok nmX9 (Or.inr ⟨rfl, rfl, rfl⟩) rfl ha h
theorem sX9_init_62 {a0 : Value} (hv : am_rf a0 = true) (h : am_R E d mX9_init k n 63 [a0] (a0 :: st) S iv Q) : am_R E d mX9_init k n 62 [a0] st S iv Q := am_aload_n dX9_init_62 rfl rfl hv h
theorem sX9_init_63 {ls : List Value} (h : am_R E d mX9_init k n 66 ls (.ref S.2.2.2 :: st) (am_new S (.inl 6)) (am_0 S iv) Q) : am_R E d mX9_init (k + 1) (n + 4) 63 ls st S iv Q := am_newO (ci := 6) dX9_init_63 rfl rfl wq_571 wq_572 wq_518 uq_6 tyX6_ok dq_6 (by omega) (by omega) h
theorem sX9_init_66 {ls : List Value} {x : Value} (hv : x.category = 1) (h : am_R E d mX9_init k n 67 ls (x :: x :: st) S iv Q) : am_R E d mX9_init k n 66 ls (x :: st) S iv Q := am_dup dX9_init_66 hv h
theorem sX9_init_67 {ls : List Value} {k' n' : Nat} {a : Nat} (hst : (st.map fun v => v.category).sum ≤ 8) (hM : am_M E d mX6_init k' n' [.ref a] S iv (fun o S' iv' => o = .inl none ∧ am_R E (d + 1) mX9_init k n 70 ls st S' iv' Q)) : am_R E (d + 1) mX9_init (k' + k) (n' + n) 67 ls (.ref a :: st) S iv Q := am_cI (M' := mX6_init) (as := []) "DrawerWall" dX9_init_67 rfl rfl rfl (Or.inr (List.mem_of_getElem? (i := 5) rfl)) wq_575 wq_518 wq_573 hy_X6_init (by decide) hst (by omega) (by omega) hM
theorem sX9_init_70 {ls : List Value} {a b : Nat} (ha : S.1 a = some (.inl 9)) (h : am_R E d mX9_init k n 73 ls st (am_wr S a 8 b) iv Q) : am_R E d mX9_init k n 70 ls (.ref b :: .ref a :: st) S iv Q := am_putR (ci := 9) dX9_init_70 rfl rfl (by decide) wq_576 uq_9 tyX9_ok nmX9 (Or.inr ⟨rfl, rfl, rfl⟩) rfl ha h
theorem sX9_init_73 {a0 : Value} (hv : am_rf a0 = true) (h : am_R E d mX9_init k n 74 [a0] (a0 :: st) S iv Q) : am_R E d mX9_init k n 73 [a0] st S iv Q := am_aload_n dX9_init_73 rfl rfl hv h
theorem sX9_init_74 {a0 : Value} (h : am_R E d mX9_init k n 76 [a0] (.int 10 :: st) S iv Q) : am_R E d mX9_init k n 74 [a0] st S iv Q := am_bipush dX9_init_74 (by decide) h
theorem sX9_init_76 {ls : List Value} {x : Int32} {m : Nat} (hx : ¬ x < 0) (hm : x.toNatClampNeg = m) (hb : m ≤ 50000000) (h : am_R E d mX9_init k n 78 ls (.ref S.2.2.2 :: st) (am_new S (.inr (.int, m))) (am_0 S iv) Q) : am_R E d mX9_init (k + 1) (n + m) 76 ls (.int x :: st) S iv Q := am_nI dX9_init_76 wq_65 hx hm (by omega) (by omega) (by omega) h
theorem sX9_init_78 {ls : List Value} {a b : Nat} (ha : S.1 a = some (.inl 9)) (h : am_R E d mX9_init k n 81 ls st (am_wr S a 9 b) iv Q) : am_R E d mX9_init k n 78 ls (.ref b :: .ref a :: st) S iv Q := am_putR (ci := 9) dX9_init_78 rfl rfl (by decide) wq_577 uq_9 tyX9_ok nmX9 (Or.inl rfl) rfl ha h
theorem sX9_init_81 {a0 : Value} (hv : am_rf a0 = true) (h : am_R E d mX9_init k n 82 [a0] (a0 :: st) S iv Q) : am_R E d mX9_init k n 81 [a0] st S iv Q := am_aload_n dX9_init_81 rfl rfl hv h
theorem sX9_init_82 {a0 : Value} (h : am_R E d mX9_init k n 83 [a0] (.int (-1) :: st) S iv Q) : am_R E d mX9_init k n 82 [a0] st S iv Q := am_iconst dX9_init_82 (by decide) h
theorem sX9_init_83 {ls : List Value} {a : Nat} {x : Int32} (ha : S.1 a = some (.inl 9)) (h : am_R E d mX9_init k n 86 ls st S (am_w iv a 10 x) Q) : am_R E d mX9_init k n 83 ls (.int x :: .ref a :: st) S iv Q := am_putI (ci := 9) dX9_init_83 rfl rfl (by decide) wq_578 uq_9 tyX9_ok nmX9 (Or.inl rfl) rfl ha h
theorem sX9_init_86 {ls : List Value} (h : Q (.inl none) S iv) : am_R E d mX9_init k n 86 ls [] S iv Q := am_return dX9_init_86 rfl h
theorem dX9_feed_0 : decode cX9_feed 0 = .ok (.aload_n 0, 1) := by decide +kernel
theorem dX9_feed_1 : decode cX9_feed 1 = .ok (.getfield 51, 3) := by decide +kernel
theorem dX9_feed_4 : decode cX9_feed 4 = .ok (.bipush 20, 2) := by decide +kernel
theorem dX9_feed_6 : decode cX9_feed 6 = .ok (.iadd, 1) := by decide +kernel
theorem dX9_feed_7 : decode cX9_feed 7 = .ok (.sipush 700, 3) := by decide +kernel
theorem dX9_feed_10 : decode cX9_feed 10 = .ok (.if_icmp .le 5, 3) := by decide +kernel
theorem dX9_feed_13 : decode cX9_feed 13 = .ok (.iconst (-1), 1) := by decide +kernel
theorem dX9_feed_14 : decode cX9_feed 14 = .ok (.ireturn, 1) := by decide +kernel
theorem dX9_feed_15 : decode cX9_feed 15 = .ok (.aload_n 0, 1) := by decide +kernel
theorem dX9_feed_16 : decode cX9_feed 16 = .ok (.iload_n 1, 1) := by decide +kernel
theorem dX9_feed_17 : decode cX9_feed 17 = .ok (.invokevirtual 54, 3) := by decide +kernel
theorem dX9_feed_20 : decode cX9_feed 20 = .ok (.aload_n 0, 1) := by decide +kernel
theorem dX9_feed_21 : decode cX9_feed 21 = .ok (.iload_n 2, 1) := by decide +kernel
theorem dX9_feed_22 : decode cX9_feed 22 = .ok (.invokevirtual 54, 3) := by decide +kernel
theorem dX9_feed_25 : decode cX9_feed 25 = .ok (.aload_n 0, 1) := by decide +kernel
theorem dX9_feed_26 : decode cX9_feed 26 = .ok (.iload_n 3, 1) := by decide +kernel
theorem dX9_feed_27 : decode cX9_feed 27 = .ok (.invokevirtual 54, 3) := by decide +kernel
theorem dX9_feed_30 : decode cX9_feed 30 = .ok (.aload_n 0, 1) := by decide +kernel
theorem dX9_feed_31 : decode cX9_feed 31 = .ok (.iload 4, 2) := by decide +kernel
theorem dX9_feed_33 : decode cX9_feed 33 = .ok (.invokevirtual 54, 3) := by decide +kernel
theorem dX9_feed_36 : decode cX9_feed 36 = .ok (.aload_n 0, 1) := by decide +kernel
theorem dX9_feed_37 : decode cX9_feed 37 = .ok (.iload 5, 2) := by decide +kernel
theorem dX9_feed_39 : decode cX9_feed 39 = .ok (.invokevirtual 54, 3) := by decide +kernel
theorem dX9_feed_42 : decode cX9_feed 42 = .ok (.aload_n 0, 1) := by decide +kernel
theorem dX9_feed_43 : decode cX9_feed 43 = .ok (.getfield 51, 3) := by decide +kernel
theorem dX9_feed_46 : decode cX9_feed 46 = .ok (.ireturn, 1) := by decide +kernel
theorem sX9_feed_0 {a0 a1 a2 a3 a4 a5 : Value} (hv : am_rf a0 = true) (h : am_R E d mX9_feed k n 1 [a0, a1, a2, a3, a4, a5] (a0 :: st) S iv Q) : am_R E d mX9_feed k n 0 [a0, a1, a2, a3, a4, a5] st S iv Q := am_aload_n dX9_feed_0 rfl rfl hv h
theorem sX9_feed_1 {ls : List Value} {a : Nat} (ha : S.1 a = some (.inl 9)) (h : am_R E d mX9_feed k n 4 ls (.int (iv a 1) :: st) S iv Q) : am_R E d mX9_feed k n 1 ls (.ref a :: st) S iv Q := am_getI (ci := 9) dX9_feed_1 rfl rfl (by decide) wq_579 uq_9 rfl ha h
theorem sX9_feed_4 {a0 a1 a2 a3 a4 a5 : Value} (h : am_R E d mX9_feed k n 6 [a0, a1, a2, a3, a4, a5] (.int 20 :: st) S iv Q) : am_R E d mX9_feed k n 4 [a0, a1, a2, a3, a4, a5] st S iv Q := am_bipush dX9_feed_4 (by decide) h
theorem sX9_feed_6 {ls : List Value} {x y : Int32} (h : am_R E d mX9_feed k n 7 ls (.int (x + y) :: st) S iv Q) : am_R E d mX9_feed k n 6 ls (.int y :: .int x :: st) S iv Q := am_iadd dX9_feed_6 h
theorem sX9_feed_7 {a0 a1 a2 a3 a4 a5 : Value} (h : am_R E d mX9_feed k n 10 [a0, a1, a2, a3, a4, a5] (.int 700 :: st) S iv Q) : am_R E d mX9_feed k n 7 [a0, a1, a2, a3, a4, a5] st S iv Q := am_sipush dX9_feed_7 (by decide) h
theorem sX9_feed_10 {ls : List Value} {x y : Int32} (kt : x ≤ y → am_R E d mX9_feed k n 15 ls st S iv Q) (kf : ¬ x ≤ y → am_R E d mX9_feed k n 13 ls st S iv Q) : am_R E d mX9_feed k n 10 ls (.int y :: .int x :: st) S iv Q := am_icmp_le dX9_feed_10 (by decide) kt kf
theorem sX9_feed_13 {a0 a1 a2 a3 a4 a5 : Value} (h : am_R E d mX9_feed k n 14 [a0, a1, a2, a3, a4, a5] (.int (-1) :: st) S iv Q) : am_R E d mX9_feed k n 13 [a0, a1, a2, a3, a4, a5] st S iv Q := am_iconst dX9_feed_13 (by decide) h
theorem sX9_feed_14 {ls : List Value} {x : Int32} (h : Q (.inl (some (.int x))) S iv) : am_R E d mX9_feed k n 14 ls [.int x] S iv Q := am_ireturn dX9_feed_14 rfl h
theorem sX9_feed_15 {a0 a1 a2 a3 a4 a5 : Value} (hv : am_rf a0 = true) (h : am_R E d mX9_feed k n 16 [a0, a1, a2, a3, a4, a5] (a0 :: st) S iv Q) : am_R E d mX9_feed k n 15 [a0, a1, a2, a3, a4, a5] st S iv Q := am_aload_n dX9_feed_15 rfl rfl hv h
theorem sX9_feed_16 {a0 a2 a3 a4 a5 : Value} {x : Int32} (h : am_R E d mX9_feed k n 17 [a0, .int x, a2, a3, a4, a5] (.int x :: st) S iv Q) : am_R E d mX9_feed k n 16 [a0, .int x, a2, a3, a4, a5] st S iv Q := am_iload_n dX9_feed_16 rfl rfl h
theorem sX9_feed_17 {ls : List Value} {x1 : Value} {a : Nat} (ha : S.1 a = some (.inl 9)) (hst : (st.map fun v => v.category).sum ≤ 8) (hM : am_M E d mX9_append 0 0 [.ref a, x1] S iv (am_K3 E (d + 1) mX9_feed k n 17 ls st Q)) : am_R E (d + 1) mX9_feed k n 17 ls (x1 :: .ref a :: st) S iv Q := am_cV (ci := 9) (M' := mX9_append) (as := [x1]) dX9_feed_17 rfl rfl rfl wq_583 wq_584 wq_585 wq_581 wq_580 hy_X9_append (by decide) ha hst (by omega) (by omega) hM
theorem sX9_feed_17_k {ls : List Value} {x1 : Value} {k' n' : Nat} {a : Nat} (ha : S.1 a = some (.inl 9)) (hst : (st.map fun v => v.category).sum ≤ 8) (hM : am_M E d mX9_append k' n' [.ref a, x1] S iv (am_K3 E (d + 1) mX9_feed k n 17 ls st Q)) : am_R E (d + 1) mX9_feed (k' + k) (n' + n) 17 ls (x1 :: .ref a :: st) S iv Q := am_cV (ci := 9) (M' := mX9_append) (as := [x1]) dX9_feed_17 rfl rfl rfl wq_583 wq_584 wq_585 wq_581 wq_580 hy_X9_append (by decide) ha hst (by omega) (by omega) hM
theorem sX9_feed_20 {a0 a1 a2 a3 a4 a5 : Value} (hv : am_rf a0 = true) (h : am_R E d mX9_feed k n 21 [a0, a1, a2, a3, a4, a5] (a0 :: st) S iv Q) : am_R E d mX9_feed k n 20 [a0, a1, a2, a3, a4, a5] st S iv Q := am_aload_n dX9_feed_20 rfl rfl hv h
theorem sX9_feed_21 {a0 a1 a3 a4 a5 : Value} {x : Int32} (h : am_R E d mX9_feed k n 22 [a0, a1, .int x, a3, a4, a5] (.int x :: st) S iv Q) : am_R E d mX9_feed k n 21 [a0, a1, .int x, a3, a4, a5] st S iv Q := am_iload_n dX9_feed_21 rfl rfl h
theorem sX9_feed_22 {ls : List Value} {x1 : Value} {a : Nat} (ha : S.1 a = some (.inl 9)) (hst : (st.map fun v => v.category).sum ≤ 8) (hM : am_M E d mX9_append 0 0 [.ref a, x1] S iv (am_K3 E (d + 1) mX9_feed k n 22 ls st Q)) : am_R E (d + 1) mX9_feed k n 22 ls (x1 :: .ref a :: st) S iv Q := am_cV (ci := 9) (M' := mX9_append) (as := [x1]) dX9_feed_22 rfl rfl rfl wq_583 wq_584 wq_585 wq_581 wq_580 hy_X9_append (by decide) ha hst (by omega) (by omega) hM
theorem sX9_feed_22_k {ls : List Value} {x1 : Value} {k' n' : Nat} {a : Nat} (ha : S.1 a = some (.inl 9)) (hst : (st.map fun v => v.category).sum ≤ 8) (hM : am_M E d mX9_append k' n' [.ref a, x1] S iv (am_K3 E (d + 1) mX9_feed k n 22 ls st Q)) : am_R E (d + 1) mX9_feed (k' + k) (n' + n) 22 ls (x1 :: .ref a :: st) S iv Q := am_cV (ci := 9) (M' := mX9_append) (as := [x1]) dX9_feed_22 rfl rfl rfl wq_583 wq_584 wq_585 wq_581 wq_580 hy_X9_append (by decide) ha hst (by omega) (by omega) hM
theorem sX9_feed_25 {a0 a1 a2 a3 a4 a5 : Value} (hv : am_rf a0 = true) (h : am_R E d mX9_feed k n 26 [a0, a1, a2, a3, a4, a5] (a0 :: st) S iv Q) : am_R E d mX9_feed k n 25 [a0, a1, a2, a3, a4, a5] st S iv Q := am_aload_n dX9_feed_25 rfl rfl hv h
theorem sX9_feed_26 {a0 a1 a2 a4 a5 : Value} {x : Int32} (h : am_R E d mX9_feed k n 27 [a0, a1, a2, .int x, a4, a5] (.int x :: st) S iv Q) : am_R E d mX9_feed k n 26 [a0, a1, a2, .int x, a4, a5] st S iv Q := am_iload_n dX9_feed_26 rfl rfl h
theorem sX9_feed_27 {ls : List Value} {x1 : Value} {a : Nat} (ha : S.1 a = some (.inl 9)) (hst : (st.map fun v => v.category).sum ≤ 8) (hM : am_M E d mX9_append 0 0 [.ref a, x1] S iv (am_K3 E (d + 1) mX9_feed k n 27 ls st Q)) : am_R E (d + 1) mX9_feed k n 27 ls (x1 :: .ref a :: st) S iv Q := am_cV (ci := 9) (M' := mX9_append) (as := [x1]) dX9_feed_27 rfl rfl rfl wq_583 wq_584 wq_585 wq_581 wq_580 hy_X9_append (by decide) ha hst (by omega) (by omega) hM
theorem sX9_feed_27_k {ls : List Value} {x1 : Value} {k' n' : Nat} {a : Nat} (ha : S.1 a = some (.inl 9)) (hst : (st.map fun v => v.category).sum ≤ 8) (hM : am_M E d mX9_append k' n' [.ref a, x1] S iv (am_K3 E (d + 1) mX9_feed k n 27 ls st Q)) : am_R E (d + 1) mX9_feed (k' + k) (n' + n) 27 ls (x1 :: .ref a :: st) S iv Q := am_cV (ci := 9) (M' := mX9_append) (as := [x1]) dX9_feed_27 rfl rfl rfl wq_583 wq_584 wq_585 wq_581 wq_580 hy_X9_append (by decide) ha hst (by omega) (by omega) hM
theorem sX9_feed_30 {a0 a1 a2 a3 a4 a5 : Value} (hv : am_rf a0 = true) (h : am_R E d mX9_feed k n 31 [a0, a1, a2, a3, a4, a5] (a0 :: st) S iv Q) : am_R E d mX9_feed k n 30 [a0, a1, a2, a3, a4, a5] st S iv Q := am_aload_n dX9_feed_30 rfl rfl hv h
theorem sX9_feed_31 {a0 a1 a2 a3 a5 : Value} {x : Int32} (h : am_R E d mX9_feed k n 33 [a0, a1, a2, a3, .int x, a5] (.int x :: st) S iv Q) : am_R E d mX9_feed k n 31 [a0, a1, a2, a3, .int x, a5] st S iv Q := am_iload dX9_feed_31 rfl h
theorem sX9_feed_33 {ls : List Value} {x1 : Value} {a : Nat} (ha : S.1 a = some (.inl 9)) (hst : (st.map fun v => v.category).sum ≤ 8) (hM : am_M E d mX9_append 0 0 [.ref a, x1] S iv (am_K3 E (d + 1) mX9_feed k n 33 ls st Q)) : am_R E (d + 1) mX9_feed k n 33 ls (x1 :: .ref a :: st) S iv Q := am_cV (ci := 9) (M' := mX9_append) (as := [x1]) dX9_feed_33 rfl rfl rfl wq_583 wq_584 wq_585 wq_581 wq_580 hy_X9_append (by decide) ha hst (by omega) (by omega) hM
theorem sX9_feed_33_k {ls : List Value} {x1 : Value} {k' n' : Nat} {a : Nat} (ha : S.1 a = some (.inl 9)) (hst : (st.map fun v => v.category).sum ≤ 8) (hM : am_M E d mX9_append k' n' [.ref a, x1] S iv (am_K3 E (d + 1) mX9_feed k n 33 ls st Q)) : am_R E (d + 1) mX9_feed (k' + k) (n' + n) 33 ls (x1 :: .ref a :: st) S iv Q := am_cV (ci := 9) (M' := mX9_append) (as := [x1]) dX9_feed_33 rfl rfl rfl wq_583 wq_584 wq_585 wq_581 wq_580 hy_X9_append (by decide) ha hst (by omega) (by omega) hM
theorem sX9_feed_36 {a0 a1 a2 a3 a4 a5 : Value} (hv : am_rf a0 = true) (h : am_R E d mX9_feed k n 37 [a0, a1, a2, a3, a4, a5] (a0 :: st) S iv Q) : am_R E d mX9_feed k n 36 [a0, a1, a2, a3, a4, a5] st S iv Q := am_aload_n dX9_feed_36 rfl rfl hv h
theorem sX9_feed_37 {a0 a1 a2 a3 a4 : Value} {x : Int32} (h : am_R E d mX9_feed k n 39 [a0, a1, a2, a3, a4, .int x] (.int x :: st) S iv Q) : am_R E d mX9_feed k n 37 [a0, a1, a2, a3, a4, .int x] st S iv Q := am_iload dX9_feed_37 rfl h
theorem sX9_feed_39 {ls : List Value} {x1 : Value} {a : Nat} (ha : S.1 a = some (.inl 9)) (hst : (st.map fun v => v.category).sum ≤ 8) (hM : am_M E d mX9_append 0 0 [.ref a, x1] S iv (am_K3 E (d + 1) mX9_feed k n 39 ls st Q)) : am_R E (d + 1) mX9_feed k n 39 ls (x1 :: .ref a :: st) S iv Q := am_cV (ci := 9) (M' := mX9_append) (as := [x1]) dX9_feed_39 rfl rfl rfl wq_583 wq_584 wq_585 wq_581 wq_580 hy_X9_append (by decide) ha hst (by omega) (by omega) hM
theorem sX9_feed_39_k {ls : List Value} {x1 : Value} {k' n' : Nat} {a : Nat} (ha : S.1 a = some (.inl 9)) (hst : (st.map fun v => v.category).sum ≤ 8) (hM : am_M E d mX9_append k' n' [.ref a, x1] S iv (am_K3 E (d + 1) mX9_feed k n 39 ls st Q)) : am_R E (d + 1) mX9_feed (k' + k) (n' + n) 39 ls (x1 :: .ref a :: st) S iv Q := am_cV (ci := 9) (M' := mX9_append) (as := [x1]) dX9_feed_39 rfl rfl rfl wq_583 wq_584 wq_585 wq_581 wq_580 hy_X9_append (by decide) ha hst (by omega) (by omega) hM
theorem sX9_feed_42 {a0 a1 a2 a3 a4 a5 : Value} (hv : am_rf a0 = true) (h : am_R E d mX9_feed k n 43 [a0, a1, a2, a3, a4, a5] (a0 :: st) S iv Q) : am_R E d mX9_feed k n 42 [a0, a1, a2, a3, a4, a5] st S iv Q := am_aload_n dX9_feed_42 rfl rfl hv h
theorem sX9_feed_43 {ls : List Value} {a : Nat} (ha : S.1 a = some (.inl 9)) (h : am_R E d mX9_feed k n 46 ls (.int (iv a 1) :: st) S iv Q) : am_R E d mX9_feed k n 43 ls (.ref a :: st) S iv Q := am_getI (ci := 9) dX9_feed_43 rfl rfl (by decide) wq_579 uq_9 rfl ha h
theorem sX9_feed_46 {ls : List Value} {x : Int32} (h : Q (.inl (some (.int x))) S iv) : am_R E d mX9_feed k n 46 ls [.int x] S iv Q := am_ireturn dX9_feed_46 rfl h
theorem dX9_append_0 : decode cX9_append 0 = .ok (.iconst 0, 1) := by decide +kernel
theorem dX9_append_1 : decode cX9_append 1 = .ok (.istore_n 2, 1) := by decide +kernel
theorem dX9_append_2 : decode cX9_append 2 = .ok (.iload_n 2, 1) := by decide +kernel
theorem dX9_append_3 : decode cX9_append 3 = .ok (.iconst 4, 1) := by decide +kernel
theorem dX9_append_4 : decode cX9_append 4 = .ok (.if_icmp .ge 50, 3) := by decide +kernel
theorem dX9_append_7 : decode cX9_append 7 = .ok (.aload_n 0, 1) := by decide +kernel
theorem dX9_append_8 : decode cX9_append 8 = .ok (.getfield 51, 3) := by decide +kernel
theorem dX9_append_11 : decode cX9_append 11 = .ok (.aload_n 0, 1) := by decide +kernel
theorem dX9_append_12 : decode cX9_append 12 = .ok (.getfield 9, 3) := by decide +kernel
theorem dX9_append_15 : decode cX9_append 15 = .ok (.arraylength, 1) := by decide +kernel
theorem dX9_append_16 : decode cX9_append 16 = .ok (.if_icmp .ge 38, 3) := by decide +kernel
theorem dX9_append_19 : decode cX9_append 19 = .ok (.aload_n 0, 1) := by decide +kernel
theorem dX9_append_20 : decode cX9_append 20 = .ok (.getfield 9, 3) := by decide +kernel
theorem dX9_append_23 : decode cX9_append 23 = .ok (.aload_n 0, 1) := by decide +kernel
theorem dX9_append_24 : decode cX9_append 24 = .ok (.getfield 51, 3) := by decide +kernel
theorem dX9_append_27 : decode cX9_append 27 = .ok (.iload_n 1, 1) := by decide +kernel
theorem dX9_append_28 : decode cX9_append 28 = .ok (.bipush 24, 2) := by decide +kernel
theorem dX9_append_30 : decode cX9_append 30 = .ok (.bipush 8, 2) := by decide +kernel
theorem dX9_append_32 : decode cX9_append 32 = .ok (.iload_n 2, 1) := by decide +kernel
theorem dX9_append_33 : decode cX9_append 33 = .ok (.imul, 1) := by decide +kernel
theorem dX9_append_34 : decode cX9_append 34 = .ok (.isub, 1) := by decide +kernel
theorem dX9_append_35 : decode cX9_append 35 = .ok (.iushr, 1) := by decide +kernel
theorem dX9_append_36 : decode cX9_append 36 = .ok (.i2b, 1) := by decide +kernel
theorem dX9_append_37 : decode cX9_append 37 = .ok (.bastore, 1) := by decide +kernel
theorem dX9_append_38 : decode cX9_append 38 = .ok (.aload_n 0, 1) := by decide +kernel
theorem dX9_append_39 : decode cX9_append 39 = .ok (.dup, 1) := by decide +kernel
theorem dX9_append_40 : decode cX9_append 40 = .ok (.getfield 51, 3) := by decide +kernel
theorem dX9_append_43 : decode cX9_append 43 = .ok (.iconst 1, 1) := by decide +kernel
theorem dX9_append_44 : decode cX9_append 44 = .ok (.iadd, 1) := by decide +kernel
theorem dX9_append_45 : decode cX9_append 45 = .ok (.putfield 51, 3) := by decide +kernel
theorem dX9_append_48 : decode cX9_append 48 = .ok (.iinc 2 1, 3) := by decide +kernel
theorem dX9_append_51 : decode cX9_append 51 = .ok (.goto (-49), 3) := by decide +kernel
theorem dX9_append_54 : decode cX9_append 54 = .ok (.return_, 1) := by decide +kernel
theorem sX9_append_0 {a0 a1 a2 : Value} (h : am_R E d mX9_append k n 1 [a0, a1, a2] (.int 0 :: st) S iv Q) : am_R E d mX9_append k n 0 [a0, a1, a2] st S iv Q := am_iconst dX9_append_0 (by decide) h
theorem sX9_append_1 {a0 a1 a2 : Value} {x : Int32} (h : am_R E d mX9_append k n 2 [a0, a1, .int x] st S iv Q) : am_R E d mX9_append k n 1 [a0, a1, a2] (.int x :: st) S iv Q := am_istore_n dX9_append_1 rfl (by decide) h
theorem sX9_append_2 {a0 a1 : Value} {x : Int32} (h : am_R E d mX9_append k n 3 [a0, a1, .int x] (.int x :: st) S iv Q) : am_R E d mX9_append k n 2 [a0, a1, .int x] st S iv Q := am_iload_n dX9_append_2 rfl rfl h
theorem sX9_append_3 {a0 a1 a2 : Value} (h : am_R E d mX9_append k n 4 [a0, a1, a2] (.int 4 :: st) S iv Q) : am_R E d mX9_append k n 3 [a0, a1, a2] st S iv Q := am_iconst dX9_append_3 (by decide) h
theorem sX9_append_4 {ls : List Value} {x y : Int32} (kt : y ≤ x → am_R E d mX9_append k n 54 ls st S iv Q) (kf : ¬ y ≤ x → am_R E d mX9_append k n 7 ls st S iv Q) : am_R E d mX9_append k n 4 ls (.int y :: .int x :: st) S iv Q := am_icmp_ge dX9_append_4 (by decide) kt kf
theorem sX9_append_7 {a0 a1 a2 : Value} (hv : am_rf a0 = true) (h : am_R E d mX9_append k n 8 [a0, a1, a2] (a0 :: st) S iv Q) : am_R E d mX9_append k n 7 [a0, a1, a2] st S iv Q := am_aload_n dX9_append_7 rfl rfl hv h
theorem sX9_append_8 {ls : List Value} {a : Nat} (ha : S.1 a = some (.inl 9)) (h : am_R E d mX9_append k n 11 ls (.int (iv a 1) :: st) S iv Q) : am_R E d mX9_append k n 8 ls (.ref a :: st) S iv Q := am_getI (ci := 9) dX9_append_8 rfl rfl (by decide) wq_579 uq_9 rfl ha h
theorem sX9_append_11 {a0 a1 a2 : Value} (hv : am_rf a0 = true) (h : am_R E d mX9_append k n 12 [a0, a1, a2] (a0 :: st) S iv Q) : am_R E d mX9_append k n 11 [a0, a1, a2] st S iv Q := am_aload_n dX9_append_11 rfl rfl hv h
theorem sX9_append_12 {ls : List Value} {a b : Nat} (ha : S.1 a = some (.inl 9)) (hb : S.2.1 a 0 = some b) (h : am_R E d mX9_append k n 15 ls (.ref b :: st) S iv Q) : am_R E d mX9_append k n 12 ls (.ref a :: st) S iv Q := am_getR (ci := 9) dX9_append_12 rfl rfl (by decide) wq_554 uq_9 rfl ha hb h
theorem sX9_append_15 {ls : List Value} {a m t : Nat} {ty : FieldType} (ha : S.1 a = some (.inr (ty, m))) (ht : am_ti ty = some t) (h : am_R E d mX9_append k n 16 ls (.int (Int32.ofNat m) :: st) S iv Q) : am_R E d mX9_append k n 15 ls (.ref a :: st) S iv Q := am_alen dX9_append_15 ha ht h
theorem sX9_append_16 {ls : List Value} {x y : Int32} (kt : y ≤ x → am_R E d mX9_append k n 54 ls st S iv Q) (kf : ¬ y ≤ x → am_R E d mX9_append k n 19 ls st S iv Q) : am_R E d mX9_append k n 16 ls (.int y :: .int x :: st) S iv Q := am_icmp_ge dX9_append_16 (by decide) kt kf
theorem sX9_append_19 {a0 a1 a2 : Value} (hv : am_rf a0 = true) (h : am_R E d mX9_append k n 20 [a0, a1, a2] (a0 :: st) S iv Q) : am_R E d mX9_append k n 19 [a0, a1, a2] st S iv Q := am_aload_n dX9_append_19 rfl rfl hv h
theorem sX9_append_20 {ls : List Value} {a b : Nat} (ha : S.1 a = some (.inl 9)) (hb : S.2.1 a 0 = some b) (h : am_R E d mX9_append k n 23 ls (.ref b :: st) S iv Q) : am_R E d mX9_append k n 20 ls (.ref a :: st) S iv Q := am_getR (ci := 9) dX9_append_20 rfl rfl (by decide) wq_554 uq_9 rfl ha hb h
theorem sX9_append_23 {a0 a1 a2 : Value} (hv : am_rf a0 = true) (h : am_R E d mX9_append k n 24 [a0, a1, a2] (a0 :: st) S iv Q) : am_R E d mX9_append k n 23 [a0, a1, a2] st S iv Q := am_aload_n dX9_append_23 rfl rfl hv h
theorem sX9_append_24 {ls : List Value} {a : Nat} (ha : S.1 a = some (.inl 9)) (h : am_R E d mX9_append k n 27 ls (.int (iv a 1) :: st) S iv Q) : am_R E d mX9_append k n 24 ls (.ref a :: st) S iv Q := am_getI (ci := 9) dX9_append_24 rfl rfl (by decide) wq_579 uq_9 rfl ha h
theorem sX9_append_27 {a0 a2 : Value} {x : Int32} (h : am_R E d mX9_append k n 28 [a0, .int x, a2] (.int x :: st) S iv Q) : am_R E d mX9_append k n 27 [a0, .int x, a2] st S iv Q := am_iload_n dX9_append_27 rfl rfl h
theorem sX9_append_28 {a0 a1 a2 : Value} (h : am_R E d mX9_append k n 30 [a0, a1, a2] (.int 24 :: st) S iv Q) : am_R E d mX9_append k n 28 [a0, a1, a2] st S iv Q := am_bipush dX9_append_28 (by decide) h
theorem sX9_append_30 {a0 a1 a2 : Value} (h : am_R E d mX9_append k n 32 [a0, a1, a2] (.int 8 :: st) S iv Q) : am_R E d mX9_append k n 30 [a0, a1, a2] st S iv Q := am_bipush dX9_append_30 (by decide) h
theorem sX9_append_32 {a0 a1 : Value} {x : Int32} (h : am_R E d mX9_append k n 33 [a0, a1, .int x] (.int x :: st) S iv Q) : am_R E d mX9_append k n 32 [a0, a1, .int x] st S iv Q := am_iload_n dX9_append_32 rfl rfl h
theorem sX9_append_33 {ls : List Value} {x y : Int32} (h : am_R E d mX9_append k n 34 ls (.int (x * y) :: st) S iv Q) : am_R E d mX9_append k n 33 ls (.int y :: .int x :: st) S iv Q := am_imul dX9_append_33 h
theorem sX9_append_34 {ls : List Value} {x y : Int32} (h : am_R E d mX9_append k n 35 ls (.int (x - y) :: st) S iv Q) : am_R E d mX9_append k n 34 ls (.int y :: .int x :: st) S iv Q := am_isub dX9_append_34 h
theorem sX9_append_35 {ls : List Value} {x y : Int32} (h : am_R E d mX9_append k n 36 ls (.int ((x.toUInt32 >>> (y.toUInt32 &&& Int32.toUInt32 31)).toInt32) :: st) S iv Q) : am_R E d mX9_append k n 35 ls (.int y :: .int x :: st) S iv Q := am_iushr dX9_append_35 h
theorem sX9_append_36 {ls : List Value} {x : Int32} (h : am_R E d mX9_append k n 37 ls (.int x.toInt8.toInt32 :: st) S iv Q) : am_R E d mX9_append k n 36 ls (.int x :: st) S iv Q := am_i2b dX9_append_36 h
theorem sX9_append_37 {ls : List Value} {a m : Nat} {i x : Int32} (ha : S.1 a = some (.inr (.byte, m))) (hi : vp_in i m) (hx : x.toInt8.toInt32 = x) (h : am_R E d mX9_append k n 38 ls st S (am_w iv a i.toNatClampNeg x) Q) : am_R E d mX9_append k n 37 ls (.int x :: .int i :: .ref a :: st) S iv Q := am_bastore dX9_append_37 ha hi hx h
theorem sX9_append_38 {a0 a1 a2 : Value} (hv : am_rf a0 = true) (h : am_R E d mX9_append k n 39 [a0, a1, a2] (a0 :: st) S iv Q) : am_R E d mX9_append k n 38 [a0, a1, a2] st S iv Q := am_aload_n dX9_append_38 rfl rfl hv h
theorem sX9_append_39 {ls : List Value} {x : Value} (hv : x.category = 1) (h : am_R E d mX9_append k n 40 ls (x :: x :: st) S iv Q) : am_R E d mX9_append k n 39 ls (x :: st) S iv Q := am_dup dX9_append_39 hv h
theorem sX9_append_40 {ls : List Value} {a : Nat} (ha : S.1 a = some (.inl 9)) (h : am_R E d mX9_append k n 43 ls (.int (iv a 1) :: st) S iv Q) : am_R E d mX9_append k n 40 ls (.ref a :: st) S iv Q := am_getI (ci := 9) dX9_append_40 rfl rfl (by decide) wq_579 uq_9 rfl ha h
theorem sX9_append_43 {a0 a1 a2 : Value} (h : am_R E d mX9_append k n 44 [a0, a1, a2] (.int 1 :: st) S iv Q) : am_R E d mX9_append k n 43 [a0, a1, a2] st S iv Q := am_iconst dX9_append_43 (by decide) h
theorem sX9_append_44 {ls : List Value} {x y : Int32} (h : am_R E d mX9_append k n 45 ls (.int (x + y) :: st) S iv Q) : am_R E d mX9_append k n 44 ls (.int y :: .int x :: st) S iv Q := am_iadd dX9_append_44 h
theorem sX9_append_45 {ls : List Value} {a : Nat} {x : Int32} (ha : S.1 a = some (.inl 9)) (h : am_R E d mX9_append k n 48 ls st S (am_w iv a 1 x) Q) : am_R E d mX9_append k n 45 ls (.int x :: .ref a :: st) S iv Q := am_putI (ci := 9) dX9_append_45 rfl rfl (by decide) wq_579 uq_9 tyX9_ok nmX9 (Or.inl rfl) rfl ha h
theorem sX9_append_48 {a0 a1 : Value} {x : Int32} (h : am_R E d mX9_append k n 51 [a0, a1, .int (x + 1)] st S iv Q) : am_R E d mX9_append k n 48 [a0, a1, .int x] st S iv Q := am_iinc dX9_append_48 rfl rfl (by decide) h
theorem sX9_append_51 {ls : List Value} (h : am_R E d mX9_append k n 2 ls st S iv Q) : am_R E d mX9_append k n 51 ls st S iv Q := am_goto dX9_append_51 (by decide) h
theorem sX9_append_54 {ls : List Value} (h : Q (.inl none) S iv) : am_R E d mX9_append k n 54 ls [] S iv Q := am_return dX9_append_54 rfl h
theorem dX9_city_0 : decode cX9_city 0 = .ok (.iload_n 1, 1) := by decide +kernel
theorem dX9_city_1 : decode cX9_city 1 = .ok (.ifCond .lt 11, 3) := by decide +kernel
theorem dX9_city_4 : decode cX9_city 4 = .ok (.iload_n 1, 1) := by decide +kernel
theorem dX9_city_5 : decode cX9_city 5 = .ok (.aload_n 0, 1) := by decide +kernel
theorem dX9_city_6 : decode cX9_city 6 = .ok (.getfield 51, 3) := by decide +kernel
theorem dX9_city_9 : decode cX9_city 9 = .ok (.if_icmp .le 13, 3) := by decide +kernel
theorem dX9_city_12 : decode cX9_city 12 = .ok (.new 58, 3) := by decide +kernel
theorem dX9_city_15 : decode cX9_city 15 = .ok (.dup, 1) := by decide +kernel
theorem dX9_city_16 : decode cX9_city 16 = .ok (.ldc 60, 2) := by decide +kernel
theorem dX9_city_18 : decode cX9_city 18 = .ok (.invokespecial 62, 3) := by decide +kernel
theorem dX9_city_21 : decode cX9_city 21 = .ok (.athrow, 1) := by decide +kernel
theorem dX9_city_22 : decode cX9_city 22 = .ok (.aload_n 0, 1) := by decide +kernel
theorem dX9_city_23 : decode cX9_city 23 = .ok (.iconst 0, 1) := by decide +kernel
theorem dX9_city_24 : decode cX9_city 24 = .ok (.putfield 51, 3) := by decide +kernel
theorem dX9_city_27 : decode cX9_city 27 = .ok (.new 65, 3) := by decide +kernel
theorem dX9_city_30 : decode cX9_city 30 = .ok (.dup, 1) := by decide +kernel
theorem dX9_city_31 : decode cX9_city 31 = .ok (.aload_n 0, 1) := by decide +kernel
theorem dX9_city_32 : decode cX9_city 32 = .ok (.getfield 9, 3) := by decide +kernel
theorem dX9_city_35 : decode cX9_city 35 = .ok (.iload_n 1, 1) := by decide +kernel
theorem dX9_city_36 : decode cX9_city 36 = .ok (.invokespecial 67, 3) := by decide +kernel
theorem dX9_city_39 : decode cX9_city 39 = .ok (.astore_n 2, 1) := by decide +kernel
theorem dX9_city_40 : decode cX9_city 40 = .ok (.new 70, 3) := by decide +kernel
theorem dX9_city_43 : decode cX9_city 43 = .ok (.dup, 1) := by decide +kernel
theorem dX9_city_44 : decode cX9_city 44 = .ok (.aload_n 2, 1) := by decide +kernel
theorem dX9_city_45 : decode cX9_city 45 = .ok (.aload_n 0, 1) := by decide +kernel
theorem dX9_city_46 : decode cX9_city 46 = .ok (.getfield 24, 3) := by decide +kernel
theorem dX9_city_49 : decode cX9_city 49 = .ok (.invokespecial 72, 3) := by decide +kernel
theorem dX9_city_52 : decode cX9_city 52 = .ok (.astore_n 3, 1) := by decide +kernel
theorem dX9_city_53 : decode cX9_city 53 = .ok (.aload_n 3, 1) := by decide +kernel
theorem dX9_city_54 : decode cX9_city 54 = .ok (.invokevirtual 75, 3) := by decide +kernel
theorem dX9_city_57 : decode cX9_city 57 = .ok (.ifCond .ne 29, 3) := by decide +kernel
theorem dX9_city_60 : decode cX9_city 60 = .ok (.aload_n 0, 1) := by decide +kernel
theorem dX9_city_61 : decode cX9_city 61 = .ok (.aload_n 2, 1) := by decide +kernel
theorem dX9_city_62 : decode cX9_city 62 = .ok (.invokevirtual 79, 3) := by decide +kernel
theorem dX9_city_65 : decode cX9_city 65 = .ok (.putfield 13, 3) := by decide +kernel
theorem dX9_city_68 : decode cX9_city 68 = .ok (.aload_n 0, 1) := by decide +kernel
theorem dX9_city_69 : decode cX9_city 69 = .ok (.getfield 30, 3) := by decide +kernel
theorem dX9_city_72 : decode cX9_city 72 = .ok (.dup, 1) := by decide +kernel
theorem dX9_city_73 : decode cX9_city 73 = .ok (.getfield 83, 3) := by decide +kernel
theorem dX9_city_76 : decode cX9_city 76 = .ok (.iconst 1, 1) := by decide +kernel
theorem dX9_city_77 : decode cX9_city 77 = .ok (.iadd, 1) := by decide +kernel
theorem dX9_city_78 : decode cX9_city 78 = .ok (.putfield 83, 3) := by decide +kernel
theorem dX9_city_81 : decode cX9_city 81 = .ok (.aload_n 2, 1) := by decide +kernel
theorem dX9_city_82 : decode cX9_city 82 = .ok (.invokevirtual 86, 3) := by decide +kernel
theorem dX9_city_85 : decode cX9_city 85 = .ok (.ireturn, 1) := by decide +kernel
theorem dX9_city_86 : decode cX9_city 86 = .ok (.aload_n 0, 1) := by decide +kernel
theorem dX9_city_87 : decode cX9_city 87 = .ok (.getfield 20, 3) := by decide +kernel
theorem dX9_city_90 : decode cX9_city 90 = .ok (.astore 4, 2) := by decide +kernel
theorem dX9_city_92 : decode cX9_city 92 = .ok (.aload_n 0, 1) := by decide +kernel
theorem dX9_city_93 : decode cX9_city 93 = .ok (.aload_n 0, 1) := by decide +kernel
theorem dX9_city_94 : decode cX9_city 94 = .ok (.getfield 24, 3) := by decide +kernel
theorem dX9_city_97 : decode cX9_city 97 = .ok (.putfield 20, 3) := by decide +kernel
theorem dX9_city_100 : decode cX9_city 100 = .ok (.aload_n 0, 1) := by decide +kernel
theorem dX9_city_101 : decode cX9_city 101 = .ok (.aload 4, 2) := by decide +kernel
theorem dX9_city_103 : decode cX9_city 103 = .ok (.putfield 24, 3) := by decide +kernel
theorem dX9_city_106 : decode cX9_city 106 = .ok (.aload_n 0, 1) := by decide +kernel
theorem dX9_city_107 : decode cX9_city 107 = .ok (.iconst (-1), 1) := by decide +kernel
theorem dX9_city_108 : decode cX9_city 108 = .ok (.putfield 13, 3) := by decide +kernel
theorem dX9_city_111 : decode cX9_city 111 = .ok (.aload_n 0, 1) := by decide +kernel
theorem dX9_city_112 : decode cX9_city 112 = .ok (.getfield 30, 3) := by decide +kernel
theorem dX9_city_115 : decode cX9_city 115 = .ok (.invokevirtual 89, 3) := by decide +kernel
theorem dX9_city_118 : decode cX9_city 118 = .ok (.aload_n 0, 1) := by decide +kernel
theorem dX9_city_119 : decode cX9_city 119 = .ok (.iconst 0, 1) := by decide +kernel
theorem dX9_city_120 : decode cX9_city 120 = .ok (.putfield 92, 3) := by decide +kernel
theorem dX9_city_123 : decode cX9_city 123 = .ok (.aload_n 0, 1) := by decide +kernel
theorem dX9_city_124 : decode cX9_city 124 = .ok (.iconst (-1), 1) := by decide +kernel
theorem dX9_city_125 : decode cX9_city 125 = .ok (.putfield 48, 3) := by decide +kernel
theorem dX9_city_128 : decode cX9_city 128 = .ok (.iconst 0, 1) := by decide +kernel
theorem dX9_city_129 : decode cX9_city 129 = .ok (.ireturn, 1) := by decide +kernel
theorem sX9_city_0 {a0 a2 a3 a4 : Value} {x : Int32} (h : am_R E d mX9_city k n 1 [a0, .int x, a2, a3, a4] (.int x :: st) S iv Q) : am_R E d mX9_city k n 0 [a0, .int x, a2, a3, a4] st S iv Q := am_iload_n dX9_city_0 rfl rfl h
theorem sX9_city_1 {ls : List Value} {x : Int32} (kt : x < 0 → am_R E d mX9_city k n 12 ls st S iv Q) (kf : ¬ x < 0 → am_R E d mX9_city k n 4 ls st S iv Q) : am_R E d mX9_city k n 1 ls (.int x :: st) S iv Q := am_if_lt dX9_city_1 (by decide) kt kf
theorem sX9_city_4 {a0 a2 a3 a4 : Value} {x : Int32} (h : am_R E d mX9_city k n 5 [a0, .int x, a2, a3, a4] (.int x :: st) S iv Q) : am_R E d mX9_city k n 4 [a0, .int x, a2, a3, a4] st S iv Q := am_iload_n dX9_city_4 rfl rfl h
theorem sX9_city_5 {a0 a1 a2 a3 a4 : Value} (hv : am_rf a0 = true) (h : am_R E d mX9_city k n 6 [a0, a1, a2, a3, a4] (a0 :: st) S iv Q) : am_R E d mX9_city k n 5 [a0, a1, a2, a3, a4] st S iv Q := am_aload_n dX9_city_5 rfl rfl hv h
theorem sX9_city_6 {ls : List Value} {a : Nat} (ha : S.1 a = some (.inl 9)) (h : am_R E d mX9_city k n 9 ls (.int (iv a 1) :: st) S iv Q) : am_R E d mX9_city k n 6 ls (.ref a :: st) S iv Q := am_getI (ci := 9) dX9_city_6 rfl rfl (by decide) wq_579 uq_9 rfl ha h
theorem sX9_city_9 {ls : List Value} {x y : Int32} (kt : x ≤ y → am_R E d mX9_city k n 22 ls st S iv Q) (kf : ¬ x ≤ y → am_R E d mX9_city k n 12 ls st S iv Q) : am_R E d mX9_city k n 9 ls (.int y :: .int x :: st) S iv Q := am_icmp_le dX9_city_9 (by decide) kt kf
theorem sX9_city_12 {ls : List Value} (hst : (st.map fun v => v.category).sum ≤ 8) (h : ∀ nx, S.2.2.2 ≤ nx → Q (.inr "java/lang/IllegalArgumentException") (S.1, S.2.1, S.2.2.1, nx) iv) : am_R E (d + 7) mX9_city (k + 1) (n + 6) 12 ls st S iv Q := am_throw (X := "java/lang/IllegalArgumentException") (tx := "the tape has not so many bytes") (j := 0) dX9_city_12 dX9_city_15 dX9_city_16 dX9_city_18 dX9_city_21 rfl (by decide) wq_586 wq_587 wq_588 wq_588_g (List.mem_of_getElem? (i := 0) rfl) (by omega) hst (by omega) (by omega) h
theorem sX9_city_15 {ls : List Value} {x : Value} (hv : x.category = 1) (h : am_R E d mX9_city k n 16 ls (x :: x :: st) S iv Q) : am_R E d mX9_city k n 15 ls (x :: st) S iv Q := am_dup dX9_city_15 hv h
theorem sX9_city_16 {a0 a1 a2 a3 a4 : Value} (h : am_R E d mX9_city k n 18 [a0, a1, a2, a3, a4] (.retAddr 0 :: st) S iv Q) : am_R E d mX9_city k n 16 [a0, a1, a2, a3, a4] st S iv Q := am_ldcS (tx := "the tape has not so many bytes") dX9_city_16 (List.mem_of_getElem? (i := 0) rfl) h
theorem sX9_city_22 {a0 a1 a2 a3 a4 : Value} (hv : am_rf a0 = true) (h : am_R E d mX9_city k n 23 [a0, a1, a2, a3, a4] (a0 :: st) S iv Q) : am_R E d mX9_city k n 22 [a0, a1, a2, a3, a4] st S iv Q := am_aload_n dX9_city_22 rfl rfl hv h
theorem sX9_city_23 {a0 a1 a2 a3 a4 : Value} (h : am_R E d mX9_city k n 24 [a0, a1, a2, a3, a4] (.int 0 :: st) S iv Q) : am_R E d mX9_city k n 23 [a0, a1, a2, a3, a4] st S iv Q := am_iconst dX9_city_23 (by decide) h
theorem sX9_city_24 {ls : List Value} {a : Nat} {x : Int32} (ha : S.1 a = some (.inl 9)) (h : am_R E d mX9_city k n 27 ls st S (am_w iv a 1 x) Q) : am_R E d mX9_city k n 24 ls (.int x :: .ref a :: st) S iv Q := am_putI (ci := 9) dX9_city_24 rfl rfl (by decide) wq_579 uq_9 tyX9_ok nmX9 (Or.inl rfl) rfl ha h
theorem sX9_city_27 {ls : List Value} (h : am_R E d mX9_city k n 30 ls (.ref S.2.2.2 :: st) (am_new S (.inl 8)) (am_0 S iv) Q) : am_R E d mX9_city (k + 1) (n + 6) 27 ls st S iv Q := am_newO (ci := 8) dX9_city_27 rfl rfl wq_589 wq_590 wq_139 uq_8 tyX8_ok dq_8 (by omega) (by omega) h
theorem sX9_city_30 {ls : List Value} {x : Value} (hv : x.category = 1) (h : am_R E d mX9_city k n 31 ls (x :: x :: st) S iv Q) : am_R E d mX9_city k n 30 ls (x :: st) S iv Q := am_dup dX9_city_30 hv h
theorem sX9_city_31 {a0 a1 a2 a3 a4 : Value} (hv : am_rf a0 = true) (h : am_R E d mX9_city k n 32 [a0, a1, a2, a3, a4] (a0 :: st) S iv Q) : am_R E d mX9_city k n 31 [a0, a1, a2, a3, a4] st S iv Q := am_aload_n dX9_city_31 rfl rfl hv h
theorem sX9_city_32 {ls : List Value} {a b : Nat} (ha : S.1 a = some (.inl 9)) (hb : S.2.1 a 0 = some b) (h : am_R E d mX9_city k n 35 ls (.ref b :: st) S iv Q) : am_R E d mX9_city k n 32 ls (.ref a :: st) S iv Q := am_getR (ci := 9) dX9_city_32 rfl rfl (by decide) wq_554 uq_9 rfl ha hb h
theorem sX9_city_35 {a0 a2 a3 a4 : Value} {x : Int32} (h : am_R E d mX9_city k n 36 [a0, .int x, a2, a3, a4] (.int x :: st) S iv Q) : am_R E d mX9_city k n 35 [a0, .int x, a2, a3, a4] st S iv Q := am_iload_n dX9_city_35 rfl rfl h
theorem sX9_city_36 {ls : List Value} {x1 x2 : Value} {k' n' : Nat} {a : Nat} (hst : (st.map fun v => v.category).sum ≤ 8) (hM : am_M E d mX8_init k' n' [.ref a, x1, x2] S iv (fun o S' iv' => o = .inl none ∧ am_R E (d + 1) mX9_city k n 39 ls st S' iv' Q)) : am_R E (d + 1) mX9_city (k' + k) (n' + n) 36 ls (x2 :: x1 :: .ref a :: st) S iv Q := am_cI (M' := mX8_init) (as := [x1, x2]) "" dX9_city_36 rfl rfl rfl (Or.inl wq_594) wq_593 wq_139 wq_591 hy_X8_init (by decide) hst (by omega) (by omega) hM
theorem sX9_city_39 {a0 a1 a2 a3 a4 : Value} {x : Value} (hv : am_rf x = true) (h : am_R E d mX9_city k n 40 [a0, a1, x, a3, a4] st S iv Q) : am_R E d mX9_city k n 39 [a0, a1, a2, a3, a4] (x :: st) S iv Q := am_astore_n dX9_city_39 rfl (by decide) hv h
theorem sX9_city_40 {ls : List Value} (h : am_R E d mX9_city k n 43 ls (.ref S.2.2.2 :: st) (am_new S (.inl 1)) (am_0 S iv) Q) : am_R E d mX9_city (k + 1) (n + 7) 40 ls st S iv Q := am_newO (ci := 1) dX9_city_40 rfl rfl wq_595 wq_596 wq_391 uq_1 tyX1_ok dq_1 (by omega) (by omega) h
theorem sX9_city_43 {ls : List Value} {x : Value} (hv : x.category = 1) (h : am_R E d mX9_city k n 44 ls (x :: x :: st) S iv Q) : am_R E d mX9_city k n 43 ls (x :: st) S iv Q := am_dup dX9_city_43 hv h
theorem sX9_city_44 {a0 a1 a2 a3 a4 : Value} (hv : am_rf a2 = true) (h : am_R E d mX9_city k n 45 [a0, a1, a2, a3, a4] (a2 :: st) S iv Q) : am_R E d mX9_city k n 44 [a0, a1, a2, a3, a4] st S iv Q := am_aload_n dX9_city_44 rfl rfl hv h
theorem sX9_city_45 {a0 a1 a2 a3 a4 : Value} (hv : am_rf a0 = true) (h : am_R E d mX9_city k n 46 [a0, a1, a2, a3, a4] (a0 :: st) S iv Q) : am_R E d mX9_city k n 45 [a0, a1, a2, a3, a4] st S iv Q := am_aload_n dX9_city_45 rfl rfl hv h
theorem sX9_city_46 {ls : List Value} {a b : Nat} (ha : S.1 a = some (.inl 9)) (hb : S.2.1 a 4 = some b) (h : am_R E d mX9_city k n 49 ls (.ref b :: st) S iv Q) : am_R E d mX9_city k n 46 ls (.ref a :: st) S iv Q := am_getR (ci := 9) dX9_city_46 rfl rfl (by decide) wq_562 uq_9 rfl ha hb h
theorem sX9_city_49 {ls : List Value} {x1 x2 : Value} {k' n' : Nat} {a : Nat} (hst : (st.map fun v => v.category).sum ≤ 8) (hM : am_M E d mX1_init k' n' [.ref a, x1, x2] S iv (fun o S' iv' => o = .inl none ∧ am_R E (d + 1) mX9_city k n 52 ls st S' iv' Q)) : am_R E (d + 1) mX9_city (k' + k) (n' + n) 49 ls (x2 :: x1 :: .ref a :: st) S iv Q := am_cI (M' := mX1_init) (as := [x1, x2]) "" dX9_city_49 rfl rfl rfl (Or.inl wq_600) wq_599 wq_391 wq_597 hy_X1_init (by decide) hst (by omega) (by omega) hM
theorem sX9_city_52 {a0 a1 a2 a3 a4 : Value} {x : Value} (hv : am_rf x = true) (h : am_R E d mX9_city k n 53 [a0, a1, a2, x, a4] st S iv Q) : am_R E d mX9_city k n 52 [a0, a1, a2, a3, a4] (x :: st) S iv Q := am_astore_n dX9_city_52 rfl (by decide) hv h
theorem sX9_city_53 {a0 a1 a2 a3 a4 : Value} (hv : am_rf a3 = true) (h : am_R E d mX9_city k n 54 [a0, a1, a2, a3, a4] (a3 :: st) S iv Q) : am_R E d mX9_city k n 53 [a0, a1, a2, a3, a4] st S iv Q := am_aload_n dX9_city_53 rfl rfl hv h
theorem sX9_city_54 {ls : List Value} {a : Nat} (ha : S.1 a = some (.inl 1)) (hst : (st.map fun v => v.category).sum ≤ 8) (hM : am_M E d mX1_readCity 0 0 [.ref a] S iv (am_K3 E (d + 1) mX9_city k n 54 ls st Q)) : am_R E (d + 1) mX9_city k n 54 ls (.ref a :: st) S iv Q := am_cV (ci := 1) (M' := mX1_readCity) (as := []) dX9_city_54 rfl rfl rfl wq_603 wq_604 wq_605 wq_391 wq_601 hy_X1_readCity (by decide) ha hst (by omega) (by omega) hM
theorem sX9_city_54_k {ls : List Value} {k' n' : Nat} {a : Nat} (ha : S.1 a = some (.inl 1)) (hst : (st.map fun v => v.category).sum ≤ 8) (hM : am_M E d mX1_readCity k' n' [.ref a] S iv (am_K3 E (d + 1) mX9_city k n 54 ls st Q)) : am_R E (d + 1) mX9_city (k' + k) (n' + n) 54 ls (.ref a :: st) S iv Q := am_cV (ci := 1) (M' := mX1_readCity) (as := []) dX9_city_54 rfl rfl rfl wq_603 wq_604 wq_605 wq_391 wq_601 hy_X1_readCity (by decide) ha hst (by omega) (by omega) hM
theorem sX9_city_57 {ls : List Value} {x : Int32} (kt : ¬ x = 0 → am_R E d mX9_city k n 86 ls st S iv Q) (kf : x = 0 → am_R E d mX9_city k n 60 ls st S iv Q) : am_R E d mX9_city k n 57 ls (.int x :: st) S iv Q := am_if_ne dX9_city_57 (by decide) kt kf
theorem sX9_city_60 {a0 a1 a2 a3 a4 : Value} (hv : am_rf a0 = true) (h : am_R E d mX9_city k n 61 [a0, a1, a2, a3, a4] (a0 :: st) S iv Q) : am_R E d mX9_city k n 60 [a0, a1, a2, a3, a4] st S iv Q := am_aload_n dX9_city_60 rfl rfl hv h
theorem sX9_city_61 {a0 a1 a2 a3 a4 : Value} (hv : am_rf a2 = true) (h : am_R E d mX9_city k n 62 [a0, a1, a2, a3, a4] (a2 :: st) S iv Q) : am_R E d mX9_city k n 61 [a0, a1, a2, a3, a4] st S iv Q := am_aload_n dX9_city_61 rfl rfl hv h
theorem sX9_city_62 {ls : List Value} {a : Nat} (ha : S.1 a = some (.inl 8)) (hst : (st.map fun v => v.category).sum ≤ 8) (hM : am_M E d mX8_place 0 0 [.ref a] S iv (am_K3 E (d + 1) mX9_city k n 62 ls st Q)) : am_R E (d + 1) mX9_city k n 62 ls (.ref a :: st) S iv Q := am_cV (ci := 8) (M' := mX8_place) (as := []) dX9_city_62 rfl rfl rfl wq_608 wq_609 wq_610 wq_139 wq_606 hy_X8_place (by decide) ha hst (by omega) (by omega) hM
theorem sX9_city_62_k {ls : List Value} {k' n' : Nat} {a : Nat} (ha : S.1 a = some (.inl 8)) (hst : (st.map fun v => v.category).sum ≤ 8) (hM : am_M E d mX8_place k' n' [.ref a] S iv (am_K3 E (d + 1) mX9_city k n 62 ls st Q)) : am_R E (d + 1) mX9_city (k' + k) (n' + n) 62 ls (.ref a :: st) S iv Q := am_cV (ci := 8) (M' := mX8_place) (as := []) dX9_city_62 rfl rfl rfl wq_608 wq_609 wq_610 wq_139 wq_606 hy_X8_place (by decide) ha hst (by omega) (by omega) hM
theorem sX9_city_65 {ls : List Value} {a : Nat} {x : Int32} (ha : S.1 a = some (.inl 9)) (h : am_R E d mX9_city k n 68 ls st S (am_w iv a 2 x) Q) : am_R E d mX9_city k n 65 ls (.int x :: .ref a :: st) S iv Q := am_putI (ci := 9) dX9_city_65 rfl rfl (by decide) wq_555 uq_9 tyX9_ok nmX9 (Or.inl rfl) rfl ha h
theorem sX9_city_68 {a0 a1 a2 a3 a4 : Value} (hv : am_rf a0 = true) (h : am_R E d mX9_city k n 69 [a0, a1, a2, a3, a4] (a0 :: st) S iv Q) : am_R E d mX9_city k n 68 [a0, a1, a2, a3, a4] st S iv Q := am_aload_n dX9_city_68 rfl rfl hv h
theorem sX9_city_69 {ls : List Value} {a b : Nat} (ha : S.1 a = some (.inl 9)) (hb : S.2.1 a 5 = some b) (h : am_R E d mX9_city k n 72 ls (.ref b :: st) S iv Q) : am_R E d mX9_city k n 69 ls (.ref a :: st) S iv Q := am_getR (ci := 9) dX9_city_69 rfl rfl (by decide) wq_569 uq_9 rfl ha hb h
theorem sX9_city_72 {ls : List Value} {x : Value} (hv : x.category = 1) (h : am_R E d mX9_city k n 73 ls (x :: x :: st) S iv Q) : am_R E d mX9_city k n 72 ls (x :: st) S iv Q := am_dup dX9_city_72 hv h
theorem sX9_city_73 {ls : List Value} {a : Nat} (ha : S.1 a = some (.inl 7)) (h : am_R E d mX9_city k n 76 ls (.int (iv a 4) :: st) S iv Q) : am_R E d mX9_city k n 73 ls (.ref a :: st) S iv Q := am_getI (ci := 7) dX9_city_73 rfl rfl (by decide) wq_611 uq_7 rfl ha h
theorem sX9_city_76 {a0 a1 a2 a3 a4 : Value} (h : am_R E d mX9_city k n 77 [a0, a1, a2, a3, a4] (.int 1 :: st) S iv Q) : am_R E d mX9_city k n 76 [a0, a1, a2, a3, a4] st S iv Q := am_iconst dX9_city_76 (by decide) h
theorem sX9_city_77 {ls : List Value} {x y : Int32} (h : am_R E d mX9_city k n 78 ls (.int (x + y) :: st) S iv Q) : am_R E d mX9_city k n 77 ls (.int y :: .int x :: st) S iv Q := am_iadd dX9_city_77 h
theorem sX9_city_78 {ls : List Value} {a : Nat} {x : Int32} (ha : S.1 a = some (.inl 7)) (h : am_R E d mX9_city k n 81 ls st S (am_w iv a 4 x) Q) : am_R E d mX9_city k n 78 ls (.int x :: .ref a :: st) S iv Q := am_putI (ci := 7) dX9_city_78 rfl rfl (by decide) wq_611 uq_7 tyX7_ok nmX7 (Or.inl rfl) rfl ha h
theorem sX9_city_81 {a0 a1 a2 a3 a4 : Value} (hv : am_rf a2 = true) (h : am_R E d mX9_city k n 82 [a0, a1, a2, a3, a4] (a2 :: st) S iv Q) : am_R E d mX9_city k n 81 [a0, a1, a2, a3, a4] st S iv Q := am_aload_n dX9_city_81 rfl rfl hv h
theorem sX9_city_82 {ls : List Value} {a : Nat} (ha : S.1 a = some (.inl 8)) (hst : (st.map fun v => v.category).sum ≤ 8) (hM : am_M E d mX8_refusal 0 0 [.ref a] S iv (am_K3 E (d + 1) mX9_city k n 82 ls st Q)) : am_R E (d + 1) mX9_city k n 82 ls (.ref a :: st) S iv Q := am_cV (ci := 8) (M' := mX8_refusal) (as := []) dX9_city_82 rfl rfl rfl wq_614 wq_615 wq_616 wq_139 wq_612 hy_X8_refusal (by decide) ha hst (by omega) (by omega) hM
theorem sX9_city_82_k {ls : List Value} {k' n' : Nat} {a : Nat} (ha : S.1 a = some (.inl 8)) (hst : (st.map fun v => v.category).sum ≤ 8) (hM : am_M E d mX8_refusal k' n' [.ref a] S iv (am_K3 E (d + 1) mX9_city k n 82 ls st Q)) : am_R E (d + 1) mX9_city (k' + k) (n' + n) 82 ls (.ref a :: st) S iv Q := am_cV (ci := 8) (M' := mX8_refusal) (as := []) dX9_city_82 rfl rfl rfl wq_614 wq_615 wq_616 wq_139 wq_612 hy_X8_refusal (by decide) ha hst (by omega) (by omega) hM
theorem sX9_city_85 {ls : List Value} {x : Int32} (h : Q (.inl (some (.int x))) S iv) : am_R E d mX9_city k n 85 ls [.int x] S iv Q := am_ireturn dX9_city_85 rfl h
theorem sX9_city_86 {a0 a1 a2 a3 a4 : Value} (hv : am_rf a0 = true) (h : am_R E d mX9_city k n 87 [a0, a1, a2, a3, a4] (a0 :: st) S iv Q) : am_R E d mX9_city k n 86 [a0, a1, a2, a3, a4] st S iv Q := am_aload_n dX9_city_86 rfl rfl hv h
theorem sX9_city_87 {ls : List Value} {a b : Nat} (ha : S.1 a = some (.inl 9)) (hb : S.2.1 a 3 = some b) (h : am_R E d mX9_city k n 90 ls (.ref b :: st) S iv Q) : am_R E d mX9_city k n 87 ls (.ref a :: st) S iv Q := am_getR (ci := 9) dX9_city_87 rfl rfl (by decide) wq_561 uq_9 rfl ha hb h
theorem sX9_city_90 {a0 a1 a2 a3 a4 : Value} {x : Value} (hv : am_rf x = true) (h : am_R E d mX9_city k n 92 [a0, a1, a2, a3, x] st S iv Q) : am_R E d mX9_city k n 90 [a0, a1, a2, a3, a4] (x :: st) S iv Q := am_astore dX9_city_90 (by decide) hv h
theorem sX9_city_92 {a0 a1 a2 a3 a4 : Value} (hv : am_rf a0 = true) (h : am_R E d mX9_city k n 93 [a0, a1, a2, a3, a4] (a0 :: st) S iv Q) : am_R E d mX9_city k n 92 [a0, a1, a2, a3, a4] st S iv Q := am_aload_n dX9_city_92 rfl rfl hv h
theorem sX9_city_93 {a0 a1 a2 a3 a4 : Value} (hv : am_rf a0 = true) (h : am_R E d mX9_city k n 94 [a0, a1, a2, a3, a4] (a0 :: st) S iv Q) : am_R E d mX9_city k n 93 [a0, a1, a2, a3, a4] st S iv Q := am_aload_n dX9_city_93 rfl rfl hv h
theorem sX9_city_94 {ls : List Value} {a b : Nat} (ha : S.1 a = some (.inl 9)) (hb : S.2.1 a 4 = some b) (h : am_R E d mX9_city k n 97 ls (.ref b :: st) S iv Q) : am_R E d mX9_city k n 94 ls (.ref a :: st) S iv Q := am_getR (ci := 9) dX9_city_94 rfl rfl (by decide) wq_562 uq_9 rfl ha hb h
theorem sX9_city_97 {ls : List Value} {a b : Nat} (ha : S.1 a = some (.inl 9)) (h : am_R E d mX9_city k n 100 ls st (am_wr S a 3 b) iv Q) : am_R E d mX9_city k n 97 ls (.ref b :: .ref a :: st) S iv Q := am_putR (ci := 9) dX9_city_97 rfl rfl (by decide) wq_561 uq_9 tyX9_ok nmX9 (Or.inl rfl) rfl ha h
theorem sX9_city_100 {a0 a1 a2 a3 a4 : Value} (hv : am_rf a0 = true) (h : am_R E d mX9_city k n 101 [a0, a1, a2, a3, a4] (a0 :: st) S iv Q) : am_R E d mX9_city k n 100 [a0, a1, a2, a3, a4] st S iv Q := am_aload_n dX9_city_100 rfl rfl hv h
theorem sX9_city_101 {a0 a1 a2 a3 a4 : Value} (hv : am_rf a4 = true) (h : am_R E d mX9_city k n 103 [a0, a1, a2, a3, a4] (a4 :: st) S iv Q) : am_R E d mX9_city k n 101 [a0, a1, a2, a3, a4] st S iv Q := am_aload dX9_city_101 rfl hv h
theorem sX9_city_103 {ls : List Value} {a b : Nat} (ha : S.1 a = some (.inl 9)) (h : am_R E d mX9_city k n 106 ls st (am_wr S a 4 b) iv Q) : am_R E d mX9_city k n 103 ls (.ref b :: .ref a :: st) S iv Q := am_putR (ci := 9) dX9_city_103 rfl rfl (by decide) wq_562 uq_9 tyX9_ok nmX9 (Or.inl rfl) rfl ha h
theorem sX9_city_106 {a0 a1 a2 a3 a4 : Value} (hv : am_rf a0 = true) (h : am_R E d mX9_city k n 107 [a0, a1, a2, a3, a4] (a0 :: st) S iv Q) : am_R E d mX9_city k n 106 [a0, a1, a2, a3, a4] st S iv Q := am_aload_n dX9_city_106 rfl rfl hv h
theorem sX9_city_107 {a0 a1 a2 a3 a4 : Value} (h : am_R E d mX9_city k n 108 [a0, a1, a2, a3, a4] (.int (-1) :: st) S iv Q) : am_R E d mX9_city k n 107 [a0, a1, a2, a3, a4] st S iv Q := am_iconst dX9_city_107 (by decide) h
theorem sX9_city_108 {ls : List Value} {a : Nat} {x : Int32} (ha : S.1 a = some (.inl 9)) (h : am_R E d mX9_city k n 111 ls st S (am_w iv a 2 x) Q) : am_R E d mX9_city k n 108 ls (.int x :: .ref a :: st) S iv Q := am_putI (ci := 9) dX9_city_108 rfl rfl (by decide) wq_555 uq_9 tyX9_ok nmX9 (Or.inl rfl) rfl ha h
theorem sX9_city_111 {a0 a1 a2 a3 a4 : Value} (hv : am_rf a0 = true) (h : am_R E d mX9_city k n 112 [a0, a1, a2, a3, a4] (a0 :: st) S iv Q) : am_R E d mX9_city k n 111 [a0, a1, a2, a3, a4] st S iv Q := am_aload_n dX9_city_111 rfl rfl hv h
theorem sX9_city_112 {ls : List Value} {a b : Nat} (ha : S.1 a = some (.inl 9)) (hb : S.2.1 a 5 = some b) (h : am_R E d mX9_city k n 115 ls (.ref b :: st) S iv Q) : am_R E d mX9_city k n 112 ls (.ref a :: st) S iv Q := am_getR (ci := 9) dX9_city_112 rfl rfl (by decide) wq_569 uq_9 rfl ha hb h
theorem sX9_city_115 {ls : List Value} {a : Nat} (ha : S.1 a = some (.inl 7)) (hst : (st.map fun v => v.category).sum ≤ 8) (hM : am_M E d mX7_startAnew 0 0 [.ref a] S iv (am_K3 E (d + 1) mX9_city k n 115 ls st Q)) : am_R E (d + 1) mX9_city k n 115 ls (.ref a :: st) S iv Q := am_cV (ci := 7) (M' := mX7_startAnew) (as := []) dX9_city_115 rfl rfl rfl wq_619 wq_620 wq_621 wq_565 wq_617 hy_X7_startAnew (by decide) ha hst (by omega) (by omega) hM
theorem sX9_city_115_k {ls : List Value} {k' n' : Nat} {a : Nat} (ha : S.1 a = some (.inl 7)) (hst : (st.map fun v => v.category).sum ≤ 8) (hM : am_M E d mX7_startAnew k' n' [.ref a] S iv (am_K3 E (d + 1) mX9_city k n 115 ls st Q)) : am_R E (d + 1) mX9_city (k' + k) (n' + n) 115 ls (.ref a :: st) S iv Q := am_cV (ci := 7) (M' := mX7_startAnew) (as := []) dX9_city_115 rfl rfl rfl wq_619 wq_620 wq_621 wq_565 wq_617 hy_X7_startAnew (by decide) ha hst (by omega) (by omega) hM
theorem sX9_city_118 {a0 a1 a2 a3 a4 : Value} (hv : am_rf a0 = true) (h : am_R E d mX9_city k n 119 [a0, a1, a2, a3, a4] (a0 :: st) S iv Q) : am_R E d mX9_city k n 118 [a0, a1, a2, a3, a4] st S iv Q := am_aload_n dX9_city_118 rfl rfl hv h
theorem sX9_city_119 {a0 a1 a2 a3 a4 : Value} (h : am_R E d mX9_city k n 120 [a0, a1, a2, a3, a4] (.int 0 :: st) S iv Q) : am_R E d mX9_city k n 119 [a0, a1, a2, a3, a4] st S iv Q := am_iconst dX9_city_119 (by decide) h
theorem sX9_city_120 {ls : List Value} {a : Nat} {x : Int32} (ha : S.1 a = some (.inl 9)) (hx : x = 0 ∨ x = 1) (h : am_R E d mX9_city k n 123 ls st S (am_w iv a 7 x) Q) : am_R E d mX9_city k n 120 ls (.int x :: .ref a :: st) S iv Q := am_putZ (ci := 9) dX9_city_120 rfl rfl (by decide) wq_622 uq_9 tyX9_ok nmX9 (Or.inl rfl) rfl hx ha h
theorem sX9_city_123 {a0 a1 a2 a3 a4 : Value} (hv : am_rf a0 = true) (h : am_R E d mX9_city k n 124 [a0, a1, a2, a3, a4] (a0 :: st) S iv Q) : am_R E d mX9_city k n 123 [a0, a1, a2, a3, a4] st S iv Q := am_aload_n dX9_city_123 rfl rfl hv h
theorem sX9_city_124 {a0 a1 a2 a3 a4 : Value} (h : am_R E d mX9_city k n 125 [a0, a1, a2, a3, a4] (.int (-1) :: st) S iv Q) : am_R E d mX9_city k n 124 [a0, a1, a2, a3, a4] st S iv Q := am_iconst dX9_city_124 (by decide) h
theorem sX9_city_125 {ls : List Value} {a : Nat} {x : Int32} (ha : S.1 a = some (.inl 9)) (h : am_R E d mX9_city k n 128 ls st S (am_w iv a 10 x) Q) : am_R E d mX9_city k n 125 ls (.int x :: .ref a :: st) S iv Q := am_putI (ci := 9) dX9_city_125 rfl rfl (by decide) wq_578 uq_9 tyX9_ok nmX9 (Or.inl rfl) rfl ha h
theorem sX9_city_128 {a0 a1 a2 a3 a4 : Value} (h : am_R E d mX9_city k n 129 [a0, a1, a2, a3, a4] (.int 0 :: st) S iv Q) : am_R E d mX9_city k n 128 [a0, a1, a2, a3, a4] st S iv Q := am_iconst dX9_city_128 (by decide) h
theorem sX9_city_129 {ls : List Value} {x : Int32} (h : Q (.inl (some (.int x))) S iv) : am_R E d mX9_city k n 129 ls [.int x] S iv Q := am_ireturn dX9_city_129 rfl h
theorem dX9_fault_0 : decode cX9_fault 0 = .ok (.aload_n 0, 1) := by decide +kernel
theorem dX9_fault_1 : decode cX9_fault 1 = .ok (.getfield 13, 3) := by decide +kernel
theorem dX9_fault_4 : decode cX9_fault 4 = .ok (.ireturn, 1) := by decide +kernel
theorem sX9_fault_0 {a0 : Value} (hv : am_rf a0 = true) (h : am_R E d mX9_fault k n 1 [a0] (a0 :: st) S iv Q) : am_R E d mX9_fault k n 0 [a0] st S iv Q := am_aload_n dX9_fault_0 rfl rfl hv h
theorem sX9_fault_1 {ls : List Value} {a : Nat} (ha : S.1 a = some (.inl 9)) (h : am_R E d mX9_fault k n 4 ls (.int (iv a 2) :: st) S iv Q) : am_R E d mX9_fault k n 1 ls (.ref a :: st) S iv Q := am_getI (ci := 9) dX9_fault_1 rfl rfl (by decide) wq_555 uq_9 rfl ha h
theorem sX9_fault_4 {ls : List Value} {x : Int32} (h : Q (.inl (some (.int x))) S iv) : am_R E d mX9_fault k n 4 ls [.int x] S iv Q := am_ireturn dX9_fault_4 rfl h
theorem dX9_count_0 : decode cX9_count 0 = .ok (.iload_n 1, 1) := by decide +kernel
theorem dX9_count_1 : decode cX9_count 1 = .ok (.tableswitch 177 0 12 #[67, 75, 83, 94, 105, 113, 124, 132, 140, 148, 156, 161, 169], 67) := by decide +kernel
theorem dX9_count_68 : decode cX9_count 68 = .ok (.aload_n 0, 1) := by decide +kernel
theorem dX9_count_69 : decode cX9_count 69 = .ok (.getfield 20, 3) := by decide +kernel
theorem dX9_count_72 : decode cX9_count 72 = .ok (.getfield 96, 3) := by decide +kernel
theorem dX9_count_75 : decode cX9_count 75 = .ok (.ireturn, 1) := by decide +kernel
theorem dX9_count_76 : decode cX9_count 76 = .ok (.aload_n 0, 1) := by decide +kernel
theorem dX9_count_77 : decode cX9_count 77 = .ok (.getfield 20, 3) := by decide +kernel
theorem dX9_count_80 : decode cX9_count 80 = .ok (.getfield 99, 3) := by decide +kernel
theorem dX9_count_83 : decode cX9_count 83 = .ok (.ireturn, 1) := by decide +kernel
theorem dX9_count_84 : decode cX9_count 84 = .ok (.aload_n 0, 1) := by decide +kernel
theorem dX9_count_85 : decode cX9_count 85 = .ok (.getfield 20, 3) := by decide +kernel
theorem dX9_count_88 : decode cX9_count 88 = .ok (.getfield 102, 3) := by decide +kernel
theorem dX9_count_91 : decode cX9_count 91 = .ok (.getfield 106, 3) := by decide +kernel
theorem dX9_count_94 : decode cX9_count 94 = .ok (.ireturn, 1) := by decide +kernel
theorem dX9_count_95 : decode cX9_count 95 = .ok (.aload_n 0, 1) := by decide +kernel
theorem dX9_count_96 : decode cX9_count 96 = .ok (.getfield 20, 3) := by decide +kernel
theorem dX9_count_99 : decode cX9_count 99 = .ok (.getfield 111, 3) := by decide +kernel
theorem dX9_count_102 : decode cX9_count 102 = .ok (.getfield 115, 3) := by decide +kernel
theorem dX9_count_105 : decode cX9_count 105 = .ok (.ireturn, 1) := by decide +kernel
theorem dX9_count_106 : decode cX9_count 106 = .ok (.aload_n 0, 1) := by decide +kernel
theorem dX9_count_107 : decode cX9_count 107 = .ok (.getfield 20, 3) := by decide +kernel
theorem dX9_count_110 : decode cX9_count 110 = .ok (.getfield 118, 3) := by decide +kernel
theorem dX9_count_113 : decode cX9_count 113 = .ok (.ireturn, 1) := by decide +kernel
theorem dX9_count_114 : decode cX9_count 114 = .ok (.aload_n 0, 1) := by decide +kernel
theorem dX9_count_115 : decode cX9_count 115 = .ok (.getfield 20, 3) := by decide +kernel
theorem dX9_count_118 : decode cX9_count 118 = .ok (.getfield 121, 3) := by decide +kernel
theorem dX9_count_121 : decode cX9_count 121 = .ok (.getfield 125, 3) := by decide +kernel
theorem dX9_count_124 : decode cX9_count 124 = .ok (.ireturn, 1) := by decide +kernel
theorem dX9_count_125 : decode cX9_count 125 = .ok (.aload_n 0, 1) := by decide +kernel
theorem dX9_count_126 : decode cX9_count 126 = .ok (.getfield 30, 3) := by decide +kernel
theorem dX9_count_129 : decode cX9_count 129 = .ok (.getfield 128, 3) := by decide +kernel
theorem dX9_count_132 : decode cX9_count 132 = .ok (.ireturn, 1) := by decide +kernel
theorem dX9_count_133 : decode cX9_count 133 = .ok (.aload_n 0, 1) := by decide +kernel
theorem dX9_count_134 : decode cX9_count 134 = .ok (.getfield 30, 3) := by decide +kernel
theorem dX9_count_137 : decode cX9_count 137 = .ok (.getfield 131, 3) := by decide +kernel
theorem dX9_count_140 : decode cX9_count 140 = .ok (.ireturn, 1) := by decide +kernel
theorem dX9_count_141 : decode cX9_count 141 = .ok (.aload_n 0, 1) := by decide +kernel
theorem dX9_count_142 : decode cX9_count 142 = .ok (.getfield 30, 3) := by decide +kernel
theorem dX9_count_145 : decode cX9_count 145 = .ok (.getfield 134, 3) := by decide +kernel
theorem dX9_count_148 : decode cX9_count 148 = .ok (.ireturn, 1) := by decide +kernel
theorem dX9_count_149 : decode cX9_count 149 = .ok (.aload_n 0, 1) := by decide +kernel
theorem dX9_count_150 : decode cX9_count 150 = .ok (.getfield 30, 3) := by decide +kernel
theorem dX9_count_153 : decode cX9_count 153 = .ok (.getfield 137, 3) := by decide +kernel
theorem dX9_count_156 : decode cX9_count 156 = .ok (.ireturn, 1) := by decide +kernel
theorem dX9_count_157 : decode cX9_count 157 = .ok (.aload_n 0, 1) := by decide +kernel
theorem dX9_count_158 : decode cX9_count 158 = .ok (.getfield 51, 3) := by decide +kernel
theorem dX9_count_161 : decode cX9_count 161 = .ok (.ireturn, 1) := by decide +kernel
theorem dX9_count_162 : decode cX9_count 162 = .ok (.aload_n 0, 1) := by decide +kernel
theorem dX9_count_163 : decode cX9_count 163 = .ok (.getfield 30, 3) := by decide +kernel
theorem dX9_count_166 : decode cX9_count 166 = .ok (.getfield 83, 3) := by decide +kernel
theorem dX9_count_169 : decode cX9_count 169 = .ok (.ireturn, 1) := by decide +kernel
theorem dX9_count_170 : decode cX9_count 170 = .ok (.aload_n 0, 1) := by decide +kernel
theorem dX9_count_171 : decode cX9_count 171 = .ok (.getfield 30, 3) := by decide +kernel
theorem dX9_count_174 : decode cX9_count 174 = .ok (.getfield 140, 3) := by decide +kernel
theorem dX9_count_177 : decode cX9_count 177 = .ok (.ireturn, 1) := by decide +kernel
theorem dX9_count_178 : decode cX9_count 178 = .ok (.new 143, 3) := by decide +kernel
theorem dX9_count_181 : decode cX9_count 181 = .ok (.dup, 1) := by decide +kernel
theorem dX9_count_182 : decode cX9_count 182 = .ok (.ldc 145, 2) := by decide +kernel
theorem dX9_count_184 : decode cX9_count 184 = .ok (.invokespecial 147, 3) := by decide +kernel
theorem dX9_count_187 : decode cX9_count 187 = .ok (.athrow, 1) := by decide +kernel
theorem sX9_count_0 {a0 : Value} {x : Int32} (h : am_R E d mX9_count k n 1 [a0, .int x] (.int x :: st) S iv Q) : am_R E d mX9_count k n 0 [a0, .int x] st S iv Q := am_iload_n dX9_count_0 rfl rfl h
theorem sX9_count_1_0 {ls : List Value} (h : am_R E d mX9_count k n 68 ls st S iv Q) : am_R E d mX9_count k n 1 ls (.int 0 :: st) S iv Q := am_tableIn (off := 67) dX9_count_1 (by decide) (by decide) (by decide) (by decide) h
theorem sX9_count_1_1 {ls : List Value} (h : am_R E d mX9_count k n 76 ls st S iv Q) : am_R E d mX9_count k n 1 ls (.int 1 :: st) S iv Q := am_tableIn (off := 75) dX9_count_1 (by decide) (by decide) (by decide) (by decide) h
theorem sX9_count_1_2 {ls : List Value} (h : am_R E d mX9_count k n 84 ls st S iv Q) : am_R E d mX9_count k n 1 ls (.int 2 :: st) S iv Q := am_tableIn (off := 83) dX9_count_1 (by decide) (by decide) (by decide) (by decide) h
theorem sX9_count_1_3 {ls : List Value} (h : am_R E d mX9_count k n 95 ls st S iv Q) : am_R E d mX9_count k n 1 ls (.int 3 :: st) S iv Q := am_tableIn (off := 94) dX9_count_1 (by decide) (by decide) (by decide) (by decide) h
theorem sX9_count_1_4 {ls : List Value} (h : am_R E d mX9_count k n 106 ls st S iv Q) : am_R E d mX9_count k n 1 ls (.int 4 :: st) S iv Q := am_tableIn (off := 105) dX9_count_1 (by decide) (by decide) (by decide) (by decide) h
theorem sX9_count_1_5 {ls : List Value} (h : am_R E d mX9_count k n 114 ls st S iv Q) : am_R E d mX9_count k n 1 ls (.int 5 :: st) S iv Q := am_tableIn (off := 113) dX9_count_1 (by decide) (by decide) (by decide) (by decide) h
theorem sX9_count_1_6 {ls : List Value} (h : am_R E d mX9_count k n 125 ls st S iv Q) : am_R E d mX9_count k n 1 ls (.int 6 :: st) S iv Q := am_tableIn (off := 124) dX9_count_1 (by decide) (by decide) (by decide) (by decide) h
theorem sX9_count_1_7 {ls : List Value} (h : am_R E d mX9_count k n 133 ls st S iv Q) : am_R E d mX9_count k n 1 ls (.int 7 :: st) S iv Q := am_tableIn (off := 132) dX9_count_1 (by decide) (by decide) (by decide) (by decide) h
theorem sX9_count_1_8 {ls : List Value} (h : am_R E d mX9_count k n 141 ls st S iv Q) : am_R E d mX9_count k n 1 ls (.int 8 :: st) S iv Q := am_tableIn (off := 140) dX9_count_1 (by decide) (by decide) (by decide) (by decide) h
theorem sX9_count_1_9 {ls : List Value} (h : am_R E d mX9_count k n 149 ls st S iv Q) : am_R E d mX9_count k n 1 ls (.int 9 :: st) S iv Q := am_tableIn (off := 148) dX9_count_1 (by decide) (by decide) (by decide) (by decide) h
theorem sX9_count_1_10 {ls : List Value} (h : am_R E d mX9_count k n 157 ls st S iv Q) : am_R E d mX9_count k n 1 ls (.int 10 :: st) S iv Q := am_tableIn (off := 156) dX9_count_1 (by decide) (by decide) (by decide) (by decide) h
theorem sX9_count_1_11 {ls : List Value} (h : am_R E d mX9_count k n 162 ls st S iv Q) : am_R E d mX9_count k n 1 ls (.int 11 :: st) S iv Q := am_tableIn (off := 161) dX9_count_1 (by decide) (by decide) (by decide) (by decide) h
theorem sX9_count_1_12 {ls : List Value} (h : am_R E d mX9_count k n 170 ls st S iv Q) : am_R E d mX9_count k n 1 ls (.int 12 :: st) S iv Q := am_tableIn (off := 169) dX9_count_1 (by decide) (by decide) (by decide) (by decide) h
theorem sX9_count_1_d {ls : List Value} {x : Int32} (hx : x.toInt < 0 ∨ 12 < x.toInt) (h : am_R E d mX9_count k n 178 ls st S iv Q) : am_R E d mX9_count k n 1 ls (.int x :: st) S iv Q := am_tableOut dX9_count_1 hx (by decide) h
theorem sX9_count_68 {a0 a1 : Value} (hv : am_rf a0 = true) (h : am_R E d mX9_count k n 69 [a0, a1] (a0 :: st) S iv Q) : am_R E d mX9_count k n 68 [a0, a1] st S iv Q := am_aload_n dX9_count_68 rfl rfl hv h
theorem sX9_count_69 {ls : List Value} {a b : Nat} (ha : S.1 a = some (.inl 9)) (hb : S.2.1 a 3 = some b) (h : am_R E d mX9_count k n 72 ls (.ref b :: st) S iv Q) : am_R E d mX9_count k n 69 ls (.ref a :: st) S iv Q := am_getR (ci := 9) dX9_count_69 rfl rfl (by decide) wq_561 uq_9 rfl ha hb h
theorem sX9_count_72 {ls : List Value} {a : Nat} (ha : S.1 a = some (.inl 0)) (h : am_R E d mX9_count k n 75 ls (.int (iv a 0) :: st) S iv Q) : am_R E d mX9_count k n 72 ls (.ref a :: st) S iv Q := am_getI (ci := 0) dX9_count_72 rfl rfl (by decide) wq_623 uq_0 rfl ha h
theorem sX9_count_75 {ls : List Value} {x : Int32} (h : Q (.inl (some (.int x))) S iv) : am_R E d mX9_count k n 75 ls [.int x] S iv Q := am_ireturn dX9_count_75 rfl h
theorem sX9_count_76 {a0 a1 : Value} (hv : am_rf a0 = true) (h : am_R E d mX9_count k n 77 [a0, a1] (a0 :: st) S iv Q) : am_R E d mX9_count k n 76 [a0, a1] st S iv Q := am_aload_n dX9_count_76 rfl rfl hv h
theorem sX9_count_77 {ls : List Value} {a b : Nat} (ha : S.1 a = some (.inl 9)) (hb : S.2.1 a 3 = some b) (h : am_R E d mX9_count k n 80 ls (.ref b :: st) S iv Q) : am_R E d mX9_count k n 77 ls (.ref a :: st) S iv Q := am_getR (ci := 9) dX9_count_77 rfl rfl (by decide) wq_561 uq_9 rfl ha hb h
theorem sX9_count_80 {ls : List Value} {a : Nat} (ha : S.1 a = some (.inl 0)) (h : am_R E d mX9_count k n 83 ls (.int (iv a 1) :: st) S iv Q) : am_R E d mX9_count k n 80 ls (.ref a :: st) S iv Q := am_getI (ci := 0) dX9_count_80 rfl rfl (by decide) wq_624 uq_0 rfl ha h
theorem sX9_count_83 {ls : List Value} {x : Int32} (h : Q (.inl (some (.int x))) S iv) : am_R E d mX9_count k n 83 ls [.int x] S iv Q := am_ireturn dX9_count_83 rfl h
theorem sX9_count_84 {a0 a1 : Value} (hv : am_rf a0 = true) (h : am_R E d mX9_count k n 85 [a0, a1] (a0 :: st) S iv Q) : am_R E d mX9_count k n 84 [a0, a1] st S iv Q := am_aload_n dX9_count_84 rfl rfl hv h
theorem sX9_count_85 {ls : List Value} {a b : Nat} (ha : S.1 a = some (.inl 9)) (hb : S.2.1 a 3 = some b) (h : am_R E d mX9_count k n 88 ls (.ref b :: st) S iv Q) : am_R E d mX9_count k n 85 ls (.ref a :: st) S iv Q := am_getR (ci := 9) dX9_count_85 rfl rfl (by decide) wq_561 uq_9 rfl ha hb h
theorem sX9_count_88 {ls : List Value} {a b : Nat} (ha : S.1 a = some (.inl 0)) (hb : S.2.1 a 7 = some b) (h : am_R E d mX9_count k n 91 ls (.ref b :: st) S iv Q) : am_R E d mX9_count k n 88 ls (.ref a :: st) S iv Q := am_getR (ci := 0) dX9_count_88 rfl rfl (by decide) wq_625 uq_0 rfl ha hb h
theorem sX9_count_91 {ls : List Value} {a : Nat} (ha : S.1 a = some (.inl 2)) (h : am_R E d mX9_count k n 94 ls (.int (iv a 0) :: st) S iv Q) : am_R E d mX9_count k n 91 ls (.ref a :: st) S iv Q := am_getI (ci := 2) dX9_count_91 rfl rfl (by decide) wq_626 uq_2 rfl ha h
theorem sX9_count_94 {ls : List Value} {x : Int32} (h : Q (.inl (some (.int x))) S iv) : am_R E d mX9_count k n 94 ls [.int x] S iv Q := am_ireturn dX9_count_94 rfl h
theorem sX9_count_95 {a0 a1 : Value} (hv : am_rf a0 = true) (h : am_R E d mX9_count k n 96 [a0, a1] (a0 :: st) S iv Q) : am_R E d mX9_count k n 95 [a0, a1] st S iv Q := am_aload_n dX9_count_95 rfl rfl hv h
theorem sX9_count_96 {ls : List Value} {a b : Nat} (ha : S.1 a = some (.inl 9)) (hb : S.2.1 a 3 = some b) (h : am_R E d mX9_count k n 99 ls (.ref b :: st) S iv Q) : am_R E d mX9_count k n 96 ls (.ref a :: st) S iv Q := am_getR (ci := 9) dX9_count_96 rfl rfl (by decide) wq_561 uq_9 rfl ha hb h
theorem sX9_count_99 {ls : List Value} {a b : Nat} (ha : S.1 a = some (.inl 0)) (hb : S.2.1 a 8 = some b) (h : am_R E d mX9_count k n 102 ls (.ref b :: st) S iv Q) : am_R E d mX9_count k n 99 ls (.ref a :: st) S iv Q := am_getR (ci := 0) dX9_count_99 rfl rfl (by decide) wq_627 uq_0 rfl ha hb h
theorem sX9_count_102 {ls : List Value} {a : Nat} (ha : S.1 a = some (.inl 4)) (h : am_R E d mX9_count k n 105 ls (.int (iv a 0) :: st) S iv Q) : am_R E d mX9_count k n 102 ls (.ref a :: st) S iv Q := am_getI (ci := 4) dX9_count_102 rfl rfl (by decide) wq_628 uq_4 rfl ha h
theorem sX9_count_105 {ls : List Value} {x : Int32} (h : Q (.inl (some (.int x))) S iv) : am_R E d mX9_count k n 105 ls [.int x] S iv Q := am_ireturn dX9_count_105 rfl h
theorem sX9_count_106 {a0 a1 : Value} (hv : am_rf a0 = true) (h : am_R E d mX9_count k n 107 [a0, a1] (a0 :: st) S iv Q) : am_R E d mX9_count k n 106 [a0, a1] st S iv Q := am_aload_n dX9_count_106 rfl rfl hv h
theorem sX9_count_107 {ls : List Value} {a b : Nat} (ha : S.1 a = some (.inl 9)) (hb : S.2.1 a 3 = some b) (h : am_R E d mX9_count k n 110 ls (.ref b :: st) S iv Q) : am_R E d mX9_count k n 107 ls (.ref a :: st) S iv Q := am_getR (ci := 9) dX9_count_107 rfl rfl (by decide) wq_561 uq_9 rfl ha hb h
theorem sX9_count_110 {ls : List Value} {a : Nat} (ha : S.1 a = some (.inl 0)) (h : am_R E d mX9_count k n 113 ls (.int (iv a 2) :: st) S iv Q) : am_R E d mX9_count k n 110 ls (.ref a :: st) S iv Q := am_getI (ci := 0) dX9_count_110 rfl rfl (by decide) wq_629 uq_0 rfl ha h
theorem sX9_count_113 {ls : List Value} {x : Int32} (h : Q (.inl (some (.int x))) S iv) : am_R E d mX9_count k n 113 ls [.int x] S iv Q := am_ireturn dX9_count_113 rfl h
theorem sX9_count_114 {a0 a1 : Value} (hv : am_rf a0 = true) (h : am_R E d mX9_count k n 115 [a0, a1] (a0 :: st) S iv Q) : am_R E d mX9_count k n 114 [a0, a1] st S iv Q := am_aload_n dX9_count_114 rfl rfl hv h
theorem sX9_count_115 {ls : List Value} {a b : Nat} (ha : S.1 a = some (.inl 9)) (hb : S.2.1 a 3 = some b) (h : am_R E d mX9_count k n 118 ls (.ref b :: st) S iv Q) : am_R E d mX9_count k n 115 ls (.ref a :: st) S iv Q := am_getR (ci := 9) dX9_count_115 rfl rfl (by decide) wq_561 uq_9 rfl ha hb h
theorem sX9_count_118 {ls : List Value} {a b : Nat} (ha : S.1 a = some (.inl 0)) (hb : S.2.1 a 9 = some b) (h : am_R E d mX9_count k n 121 ls (.ref b :: st) S iv Q) : am_R E d mX9_count k n 118 ls (.ref a :: st) S iv Q := am_getR (ci := 0) dX9_count_118 rfl rfl (by decide) wq_630 uq_0 rfl ha hb h
theorem sX9_count_121 {ls : List Value} {a : Nat} (ha : S.1 a = some (.inl 5)) (h : am_R E d mX9_count k n 124 ls (.int (iv a 0) :: st) S iv Q) : am_R E d mX9_count k n 121 ls (.ref a :: st) S iv Q := am_getI (ci := 5) dX9_count_121 rfl rfl (by decide) wq_631 uq_5 rfl ha h
theorem sX9_count_124 {ls : List Value} {x : Int32} (h : Q (.inl (some (.int x))) S iv) : am_R E d mX9_count k n 124 ls [.int x] S iv Q := am_ireturn dX9_count_124 rfl h
theorem sX9_count_125 {a0 a1 : Value} (hv : am_rf a0 = true) (h : am_R E d mX9_count k n 126 [a0, a1] (a0 :: st) S iv Q) : am_R E d mX9_count k n 125 [a0, a1] st S iv Q := am_aload_n dX9_count_125 rfl rfl hv h
theorem sX9_count_126 {ls : List Value} {a b : Nat} (ha : S.1 a = some (.inl 9)) (hb : S.2.1 a 5 = some b) (h : am_R E d mX9_count k n 129 ls (.ref b :: st) S iv Q) : am_R E d mX9_count k n 126 ls (.ref a :: st) S iv Q := am_getR (ci := 9) dX9_count_126 rfl rfl (by decide) wq_569 uq_9 rfl ha hb h
theorem sX9_count_129 {ls : List Value} {a : Nat} (ha : S.1 a = some (.inl 7)) (h : am_R E d mX9_count k n 132 ls (.int (iv a 0) :: st) S iv Q) : am_R E d mX9_count k n 129 ls (.ref a :: st) S iv Q := am_getI (ci := 7) dX9_count_129 rfl rfl (by decide) wq_632 uq_7 rfl ha h
theorem sX9_count_132 {ls : List Value} {x : Int32} (h : Q (.inl (some (.int x))) S iv) : am_R E d mX9_count k n 132 ls [.int x] S iv Q := am_ireturn dX9_count_132 rfl h
theorem sX9_count_133 {a0 a1 : Value} (hv : am_rf a0 = true) (h : am_R E d mX9_count k n 134 [a0, a1] (a0 :: st) S iv Q) : am_R E d mX9_count k n 133 [a0, a1] st S iv Q := am_aload_n dX9_count_133 rfl rfl hv h
theorem sX9_count_134 {ls : List Value} {a b : Nat} (ha : S.1 a = some (.inl 9)) (hb : S.2.1 a 5 = some b) (h : am_R E d mX9_count k n 137 ls (.ref b :: st) S iv Q) : am_R E d mX9_count k n 134 ls (.ref a :: st) S iv Q := am_getR (ci := 9) dX9_count_134 rfl rfl (by decide) wq_569 uq_9 rfl ha hb h
theorem sX9_count_137 {ls : List Value} {a : Nat} (ha : S.1 a = some (.inl 7)) (h : am_R E d mX9_count k n 140 ls (.int (iv a 3) :: st) S iv Q) : am_R E d mX9_count k n 137 ls (.ref a :: st) S iv Q := am_getI (ci := 7) dX9_count_137 rfl rfl (by decide) wq_633 uq_7 rfl ha h
theorem sX9_count_140 {ls : List Value} {x : Int32} (h : Q (.inl (some (.int x))) S iv) : am_R E d mX9_count k n 140 ls [.int x] S iv Q := am_ireturn dX9_count_140 rfl h
theorem sX9_count_141 {a0 a1 : Value} (hv : am_rf a0 = true) (h : am_R E d mX9_count k n 142 [a0, a1] (a0 :: st) S iv Q) : am_R E d mX9_count k n 141 [a0, a1] st S iv Q := am_aload_n dX9_count_141 rfl rfl hv h
theorem sX9_count_142 {ls : List Value} {a b : Nat} (ha : S.1 a = some (.inl 9)) (hb : S.2.1 a 5 = some b) (h : am_R E d mX9_count k n 145 ls (.ref b :: st) S iv Q) : am_R E d mX9_count k n 142 ls (.ref a :: st) S iv Q := am_getR (ci := 9) dX9_count_142 rfl rfl (by decide) wq_569 uq_9 rfl ha hb h
theorem sX9_count_145 {ls : List Value} {a : Nat} (ha : S.1 a = some (.inl 7)) (h : am_R E d mX9_count k n 148 ls (.int (iv a 2) :: st) S iv Q) : am_R E d mX9_count k n 145 ls (.ref a :: st) S iv Q := am_getI (ci := 7) dX9_count_145 rfl rfl (by decide) wq_634 uq_7 rfl ha h
theorem sX9_count_148 {ls : List Value} {x : Int32} (h : Q (.inl (some (.int x))) S iv) : am_R E d mX9_count k n 148 ls [.int x] S iv Q := am_ireturn dX9_count_148 rfl h
theorem sX9_count_149 {a0 a1 : Value} (hv : am_rf a0 = true) (h : am_R E d mX9_count k n 150 [a0, a1] (a0 :: st) S iv Q) : am_R E d mX9_count k n 149 [a0, a1] st S iv Q := am_aload_n dX9_count_149 rfl rfl hv h
theorem sX9_count_150 {ls : List Value} {a b : Nat} (ha : S.1 a = some (.inl 9)) (hb : S.2.1 a 5 = some b) (h : am_R E d mX9_count k n 153 ls (.ref b :: st) S iv Q) : am_R E d mX9_count k n 150 ls (.ref a :: st) S iv Q := am_getR (ci := 9) dX9_count_150 rfl rfl (by decide) wq_569 uq_9 rfl ha hb h
theorem sX9_count_153 {ls : List Value} {a : Nat} (ha : S.1 a = some (.inl 7)) (h : am_R E d mX9_count k n 156 ls (.int (iv a 1) :: st) S iv Q) : am_R E d mX9_count k n 153 ls (.ref a :: st) S iv Q := am_getI (ci := 7) dX9_count_153 rfl rfl (by decide) wq_635 uq_7 rfl ha h
theorem sX9_count_156 {ls : List Value} {x : Int32} (h : Q (.inl (some (.int x))) S iv) : am_R E d mX9_count k n 156 ls [.int x] S iv Q := am_ireturn dX9_count_156 rfl h
theorem sX9_count_157 {a0 a1 : Value} (hv : am_rf a0 = true) (h : am_R E d mX9_count k n 158 [a0, a1] (a0 :: st) S iv Q) : am_R E d mX9_count k n 157 [a0, a1] st S iv Q := am_aload_n dX9_count_157 rfl rfl hv h
theorem sX9_count_158 {ls : List Value} {a : Nat} (ha : S.1 a = some (.inl 9)) (h : am_R E d mX9_count k n 161 ls (.int (iv a 1) :: st) S iv Q) : am_R E d mX9_count k n 158 ls (.ref a :: st) S iv Q := am_getI (ci := 9) dX9_count_158 rfl rfl (by decide) wq_579 uq_9 rfl ha h
theorem sX9_count_161 {ls : List Value} {x : Int32} (h : Q (.inl (some (.int x))) S iv) : am_R E d mX9_count k n 161 ls [.int x] S iv Q := am_ireturn dX9_count_161 rfl h
theorem sX9_count_162 {a0 a1 : Value} (hv : am_rf a0 = true) (h : am_R E d mX9_count k n 163 [a0, a1] (a0 :: st) S iv Q) : am_R E d mX9_count k n 162 [a0, a1] st S iv Q := am_aload_n dX9_count_162 rfl rfl hv h
theorem sX9_count_163 {ls : List Value} {a b : Nat} (ha : S.1 a = some (.inl 9)) (hb : S.2.1 a 5 = some b) (h : am_R E d mX9_count k n 166 ls (.ref b :: st) S iv Q) : am_R E d mX9_count k n 163 ls (.ref a :: st) S iv Q := am_getR (ci := 9) dX9_count_163 rfl rfl (by decide) wq_569 uq_9 rfl ha hb h
theorem sX9_count_166 {ls : List Value} {a : Nat} (ha : S.1 a = some (.inl 7)) (h : am_R E d mX9_count k n 169 ls (.int (iv a 4) :: st) S iv Q) : am_R E d mX9_count k n 166 ls (.ref a :: st) S iv Q := am_getI (ci := 7) dX9_count_166 rfl rfl (by decide) wq_611 uq_7 rfl ha h
theorem sX9_count_169 {ls : List Value} {x : Int32} (h : Q (.inl (some (.int x))) S iv) : am_R E d mX9_count k n 169 ls [.int x] S iv Q := am_ireturn dX9_count_169 rfl h
theorem sX9_count_170 {a0 a1 : Value} (hv : am_rf a0 = true) (h : am_R E d mX9_count k n 171 [a0, a1] (a0 :: st) S iv Q) : am_R E d mX9_count k n 170 [a0, a1] st S iv Q := am_aload_n dX9_count_170 rfl rfl hv h
theorem sX9_count_171 {ls : List Value} {a b : Nat} (ha : S.1 a = some (.inl 9)) (hb : S.2.1 a 5 = some b) (h : am_R E d mX9_count k n 174 ls (.ref b :: st) S iv Q) : am_R E d mX9_count k n 171 ls (.ref a :: st) S iv Q := am_getR (ci := 9) dX9_count_171 rfl rfl (by decide) wq_569 uq_9 rfl ha hb h
theorem sX9_count_174 {ls : List Value} {a : Nat} (ha : S.1 a = some (.inl 7)) (h : am_R E d mX9_count k n 177 ls (.int (iv a 5) :: st) S iv Q) : am_R E d mX9_count k n 174 ls (.ref a :: st) S iv Q := am_getI (ci := 7) dX9_count_174 rfl rfl (by decide) wq_636 uq_7 rfl ha h
theorem sX9_count_177 {ls : List Value} {x : Int32} (h : Q (.inl (some (.int x))) S iv) : am_R E d mX9_count k n 177 ls [.int x] S iv Q := am_ireturn dX9_count_177 rfl h
theorem sX9_count_178 {ls : List Value} (hst : (st.map fun v => v.category).sum ≤ 8) (h : ∀ nx, S.2.2.2 ≤ nx → Q (.inr "java/util/NoSuchElementException") (S.1, S.2.1, S.2.2.1, nx) iv) : am_R E (d + 7) mX9_count (k + 1) (n + 6) 178 ls st S iv Q := am_throwN (X := "java/util/NoSuchElementException") (tx := "no such count") (j := 25) wq_639_b0 wq_639_b1 wq_639_b2 wq_639_b5 dX9_count_178 dX9_count_181 (Or.inl ⟨rfl, dX9_count_182⟩) dX9_count_184 dX9_count_187 rfl (by decide) (by decide) (by decide) (by decide) wq_637 wq_638 wq_639 wq_639_g (List.mem_of_getElem? (i := 25) rfl) (by omega) hst (by omega) (by omega) h
theorem sX9_count_181 {ls : List Value} {x : Value} (hv : x.category = 1) (h : am_R E d mX9_count k n 182 ls (x :: x :: st) S iv Q) : am_R E d mX9_count k n 181 ls (x :: st) S iv Q := am_dup dX9_count_181 hv h
theorem sX9_count_182 {a0 a1 : Value} (h : am_R E d mX9_count k n 184 [a0, a1] (.retAddr 25 :: st) S iv Q) : am_R E d mX9_count k n 182 [a0, a1] st S iv Q := am_ldcS (tx := "no such count") dX9_count_182 (List.mem_of_getElem? (i := 25) rfl) h
theorem dX9_drawer_0 : decode cX9_drawer 0 = .ok (.aload_n 0, 1) := by decide +kernel
theorem dX9_drawer_1 : decode cX9_drawer 1 = .ok (.iload_n 1, 1) := by decide +kernel
theorem dX9_drawer_2 : decode cX9_drawer 2 = .ok (.invokevirtual 148, 3) := by decide +kernel
theorem dX9_drawer_5 : decode cX9_drawer 5 = .ok (.iload_n 2, 1) := by decide +kernel
theorem dX9_drawer_6 : decode cX9_drawer 6 = .ok (.tableswitch 158 0 7 #[46, 59, 72, 85, 98, 118, 130, 149], 46) := by decide +kernel
theorem dX9_drawer_52 : decode cX9_drawer 52 = .ok (.aload_n 0, 1) := by decide +kernel
theorem dX9_drawer_53 : decode cX9_drawer 53 = .ok (.getfield 20, 3) := by decide +kernel
theorem dX9_drawer_56 : decode cX9_drawer 56 = .ok (.getfield 102, 3) := by decide +kernel
theorem dX9_drawer_59 : decode cX9_drawer 59 = .ok (.getfield 151, 3) := by decide +kernel
theorem dX9_drawer_62 : decode cX9_drawer 62 = .ok (.iload_n 1, 1) := by decide +kernel
theorem dX9_drawer_63 : decode cX9_drawer 63 = .ok (.iaload, 1) := by decide +kernel
theorem dX9_drawer_64 : decode cX9_drawer 64 = .ok (.ireturn, 1) := by decide +kernel
theorem dX9_drawer_65 : decode cX9_drawer 65 = .ok (.aload_n 0, 1) := by decide +kernel
theorem dX9_drawer_66 : decode cX9_drawer 66 = .ok (.getfield 20, 3) := by decide +kernel
theorem dX9_drawer_69 : decode cX9_drawer 69 = .ok (.getfield 102, 3) := by decide +kernel
theorem dX9_drawer_72 : decode cX9_drawer 72 = .ok (.getfield 154, 3) := by decide +kernel
theorem dX9_drawer_75 : decode cX9_drawer 75 = .ok (.iload_n 1, 1) := by decide +kernel
theorem dX9_drawer_76 : decode cX9_drawer 76 = .ok (.iaload, 1) := by decide +kernel
theorem dX9_drawer_77 : decode cX9_drawer 77 = .ok (.ireturn, 1) := by decide +kernel
theorem dX9_drawer_78 : decode cX9_drawer 78 = .ok (.aload_n 0, 1) := by decide +kernel
theorem dX9_drawer_79 : decode cX9_drawer 79 = .ok (.getfield 20, 3) := by decide +kernel
theorem dX9_drawer_82 : decode cX9_drawer 82 = .ok (.getfield 102, 3) := by decide +kernel
theorem dX9_drawer_85 : decode cX9_drawer 85 = .ok (.getfield 157, 3) := by decide +kernel
theorem dX9_drawer_88 : decode cX9_drawer 88 = .ok (.iload_n 1, 1) := by decide +kernel
theorem dX9_drawer_89 : decode cX9_drawer 89 = .ok (.iaload, 1) := by decide +kernel
theorem dX9_drawer_90 : decode cX9_drawer 90 = .ok (.ireturn, 1) := by decide +kernel
theorem dX9_drawer_91 : decode cX9_drawer 91 = .ok (.aload_n 0, 1) := by decide +kernel
theorem dX9_drawer_92 : decode cX9_drawer 92 = .ok (.getfield 20, 3) := by decide +kernel
theorem dX9_drawer_95 : decode cX9_drawer 95 = .ok (.getfield 102, 3) := by decide +kernel
theorem dX9_drawer_98 : decode cX9_drawer 98 = .ok (.getfield 160, 3) := by decide +kernel
theorem dX9_drawer_101 : decode cX9_drawer 101 = .ok (.iload_n 1, 1) := by decide +kernel
theorem dX9_drawer_102 : decode cX9_drawer 102 = .ok (.iaload, 1) := by decide +kernel
theorem dX9_drawer_103 : decode cX9_drawer 103 = .ok (.ireturn, 1) := by decide +kernel
theorem dX9_drawer_104 : decode cX9_drawer 104 = .ok (.aload_n 0, 1) := by decide +kernel
theorem dX9_drawer_105 : decode cX9_drawer 105 = .ok (.getfield 20, 3) := by decide +kernel
theorem dX9_drawer_108 : decode cX9_drawer 108 = .ok (.getfield 102, 3) := by decide +kernel
theorem dX9_drawer_111 : decode cX9_drawer 111 = .ok (.iload_n 1, 1) := by decide +kernel
theorem dX9_drawer_112 : decode cX9_drawer 112 = .ok (.invokevirtual 163, 3) := by decide +kernel
theorem dX9_drawer_115 : decode cX9_drawer 115 = .ok (.ifCond .eq 7, 3) := by decide +kernel
theorem dX9_drawer_118 : decode cX9_drawer 118 = .ok (.iconst 1, 1) := by decide +kernel
theorem dX9_drawer_119 : decode cX9_drawer 119 = .ok (.goto 4, 3) := by decide +kernel
theorem dX9_drawer_122 : decode cX9_drawer 122 = .ok (.iconst 0, 1) := by decide +kernel
theorem dX9_drawer_123 : decode cX9_drawer 123 = .ok (.ireturn, 1) := by decide +kernel
theorem dX9_drawer_124 : decode cX9_drawer 124 = .ok (.aload_n 0, 1) := by decide +kernel
theorem dX9_drawer_125 : decode cX9_drawer 125 = .ok (.getfield 30, 3) := by decide +kernel
theorem dX9_drawer_128 : decode cX9_drawer 128 = .ok (.getfield 128, 3) := by decide +kernel
theorem dX9_drawer_131 : decode cX9_drawer 131 = .ok (.iload_n 1, 1) := by decide +kernel
theorem dX9_drawer_132 : decode cX9_drawer 132 = .ok (.ishr, 1) := by decide +kernel
theorem dX9_drawer_133 : decode cX9_drawer 133 = .ok (.iconst 1, 1) := by decide +kernel
theorem dX9_drawer_134 : decode cX9_drawer 134 = .ok (.iand, 1) := by decide +kernel
theorem dX9_drawer_135 : decode cX9_drawer 135 = .ok (.ireturn, 1) := by decide +kernel
theorem dX9_drawer_136 : decode cX9_drawer 136 = .ok (.aload_n 0, 1) := by decide +kernel
theorem dX9_drawer_137 : decode cX9_drawer 137 = .ok (.getfield 20, 3) := by decide +kernel
theorem dX9_drawer_140 : decode cX9_drawer 140 = .ok (.aload_n 0, 1) := by decide +kernel
theorem dX9_drawer_141 : decode cX9_drawer 141 = .ok (.getfield 30, 3) := by decide +kernel
theorem dX9_drawer_144 : decode cX9_drawer 144 = .ok (.getfield 128, 3) := by decide +kernel
theorem dX9_drawer_147 : decode cX9_drawer 147 = .ok (.invokevirtual 167, 3) := by decide +kernel
theorem dX9_drawer_150 : decode cX9_drawer 150 = .ok (.iload_n 1, 1) := by decide +kernel
theorem dX9_drawer_151 : decode cX9_drawer 151 = .ok (.ishr, 1) := by decide +kernel
theorem dX9_drawer_152 : decode cX9_drawer 152 = .ok (.iconst 1, 1) := by decide +kernel
theorem dX9_drawer_153 : decode cX9_drawer 153 = .ok (.iand, 1) := by decide +kernel
theorem dX9_drawer_154 : decode cX9_drawer 154 = .ok (.ireturn, 1) := by decide +kernel
theorem dX9_drawer_155 : decode cX9_drawer 155 = .ok (.aload_n 0, 1) := by decide +kernel
theorem dX9_drawer_156 : decode cX9_drawer 156 = .ok (.getfield 20, 3) := by decide +kernel
theorem dX9_drawer_159 : decode cX9_drawer 159 = .ok (.iload_n 1, 1) := by decide +kernel
theorem dX9_drawer_160 : decode cX9_drawer 160 = .ok (.invokevirtual 171, 3) := by decide +kernel
theorem dX9_drawer_163 : decode cX9_drawer 163 = .ok (.ireturn, 1) := by decide +kernel
theorem dX9_drawer_164 : decode cX9_drawer 164 = .ok (.new 143, 3) := by decide +kernel
theorem dX9_drawer_167 : decode cX9_drawer 167 = .ok (.dup, 1) := by decide +kernel
theorem dX9_drawer_168 : decode cX9_drawer 168 = .ok (.ldc 174, 2) := by decide +kernel
theorem dX9_drawer_170 : decode cX9_drawer 170 = .ok (.invokespecial 147, 3) := by decide +kernel
theorem dX9_drawer_173 : decode cX9_drawer 173 = .ok (.athrow, 1) := by decide +kernel
theorem sX9_drawer_0 {a0 a1 a2 : Value} (hv : am_rf a0 = true) (h : am_R E d mX9_drawer k n 1 [a0, a1, a2] (a0 :: st) S iv Q) : am_R E d mX9_drawer k n 0 [a0, a1, a2] st S iv Q := am_aload_n dX9_drawer_0 rfl rfl hv h
theorem sX9_drawer_1 {a0 a2 : Value} {x : Int32} (h : am_R E d mX9_drawer k n 2 [a0, .int x, a2] (.int x :: st) S iv Q) : am_R E d mX9_drawer k n 1 [a0, .int x, a2] st S iv Q := am_iload_n dX9_drawer_1 rfl rfl h
theorem sX9_drawer_2 {ls : List Value} {x1 : Value} {a : Nat} (ha : S.1 a = some (.inl 9)) (hst : (st.map fun v => v.category).sum ≤ 8) (hM : am_M E d mX9_demandDrawer 0 0 [.ref a, x1] S iv (am_K3 E (d + 1) mX9_drawer k n 2 ls st Q)) : am_R E (d + 1) mX9_drawer k n 2 ls (x1 :: .ref a :: st) S iv Q := am_cV (ci := 9) (M' := mX9_demandDrawer) (as := [x1]) dX9_drawer_2 rfl rfl rfl wq_642 wq_643 wq_644 wq_581 wq_640 hy_X9_demandDrawer (by decide) ha hst (by omega) (by omega) hM
theorem sX9_drawer_2_k {ls : List Value} {x1 : Value} {k' n' : Nat} {a : Nat} (ha : S.1 a = some (.inl 9)) (hst : (st.map fun v => v.category).sum ≤ 8) (hM : am_M E d mX9_demandDrawer k' n' [.ref a, x1] S iv (am_K3 E (d + 1) mX9_drawer k n 2 ls st Q)) : am_R E (d + 1) mX9_drawer (k' + k) (n' + n) 2 ls (x1 :: .ref a :: st) S iv Q := am_cV (ci := 9) (M' := mX9_demandDrawer) (as := [x1]) dX9_drawer_2 rfl rfl rfl wq_642 wq_643 wq_644 wq_581 wq_640 hy_X9_demandDrawer (by decide) ha hst (by omega) (by omega) hM
theorem sX9_drawer_5 {a0 a1 : Value} {x : Int32} (h : am_R E d mX9_drawer k n 6 [a0, a1, .int x] (.int x :: st) S iv Q) : am_R E d mX9_drawer k n 5 [a0, a1, .int x] st S iv Q := am_iload_n dX9_drawer_5 rfl rfl h
theorem sX9_drawer_6_0 {ls : List Value} (h : am_R E d mX9_drawer k n 52 ls st S iv Q) : am_R E d mX9_drawer k n 6 ls (.int 0 :: st) S iv Q := am_tableIn (off := 46) dX9_drawer_6 (by decide) (by decide) (by decide) (by decide) h
theorem sX9_drawer_6_1 {ls : List Value} (h : am_R E d mX9_drawer k n 65 ls st S iv Q) : am_R E d mX9_drawer k n 6 ls (.int 1 :: st) S iv Q := am_tableIn (off := 59) dX9_drawer_6 (by decide) (by decide) (by decide) (by decide) h
theorem sX9_drawer_6_2 {ls : List Value} (h : am_R E d mX9_drawer k n 78 ls st S iv Q) : am_R E d mX9_drawer k n 6 ls (.int 2 :: st) S iv Q := am_tableIn (off := 72) dX9_drawer_6 (by decide) (by decide) (by decide) (by decide) h
theorem sX9_drawer_6_3 {ls : List Value} (h : am_R E d mX9_drawer k n 91 ls st S iv Q) : am_R E d mX9_drawer k n 6 ls (.int 3 :: st) S iv Q := am_tableIn (off := 85) dX9_drawer_6 (by decide) (by decide) (by decide) (by decide) h
theorem sX9_drawer_6_4 {ls : List Value} (h : am_R E d mX9_drawer k n 104 ls st S iv Q) : am_R E d mX9_drawer k n 6 ls (.int 4 :: st) S iv Q := am_tableIn (off := 98) dX9_drawer_6 (by decide) (by decide) (by decide) (by decide) h
theorem sX9_drawer_6_5 {ls : List Value} (h : am_R E d mX9_drawer k n 124 ls st S iv Q) : am_R E d mX9_drawer k n 6 ls (.int 5 :: st) S iv Q := am_tableIn (off := 118) dX9_drawer_6 (by decide) (by decide) (by decide) (by decide) h
theorem sX9_drawer_6_6 {ls : List Value} (h : am_R E d mX9_drawer k n 136 ls st S iv Q) : am_R E d mX9_drawer k n 6 ls (.int 6 :: st) S iv Q := am_tableIn (off := 130) dX9_drawer_6 (by decide) (by decide) (by decide) (by decide) h
theorem sX9_drawer_6_7 {ls : List Value} (h : am_R E d mX9_drawer k n 155 ls st S iv Q) : am_R E d mX9_drawer k n 6 ls (.int 7 :: st) S iv Q := am_tableIn (off := 149) dX9_drawer_6 (by decide) (by decide) (by decide) (by decide) h
theorem sX9_drawer_6_d {ls : List Value} {x : Int32} (hx : x.toInt < 0 ∨ 7 < x.toInt) (h : am_R E d mX9_drawer k n 164 ls st S iv Q) : am_R E d mX9_drawer k n 6 ls (.int x :: st) S iv Q := am_tableOut dX9_drawer_6 hx (by decide) h
theorem sX9_drawer_52 {a0 a1 a2 : Value} (hv : am_rf a0 = true) (h : am_R E d mX9_drawer k n 53 [a0, a1, a2] (a0 :: st) S iv Q) : am_R E d mX9_drawer k n 52 [a0, a1, a2] st S iv Q := am_aload_n dX9_drawer_52 rfl rfl hv h
theorem sX9_drawer_53 {ls : List Value} {a b : Nat} (ha : S.1 a = some (.inl 9)) (hb : S.2.1 a 3 = some b) (h : am_R E d mX9_drawer k n 56 ls (.ref b :: st) S iv Q) : am_R E d mX9_drawer k n 53 ls (.ref a :: st) S iv Q := am_getR (ci := 9) dX9_drawer_53 rfl rfl (by decide) wq_561 uq_9 rfl ha hb h
theorem sX9_drawer_56 {ls : List Value} {a b : Nat} (ha : S.1 a = some (.inl 0)) (hb : S.2.1 a 7 = some b) (h : am_R E d mX9_drawer k n 59 ls (.ref b :: st) S iv Q) : am_R E d mX9_drawer k n 56 ls (.ref a :: st) S iv Q := am_getR (ci := 0) dX9_drawer_56 rfl rfl (by decide) wq_625 uq_0 rfl ha hb h
theorem sX9_drawer_59 {ls : List Value} {a b : Nat} (ha : S.1 a = some (.inl 2)) (hb : S.2.1 a 1 = some b) (h : am_R E d mX9_drawer k n 62 ls (.ref b :: st) S iv Q) : am_R E d mX9_drawer k n 59 ls (.ref a :: st) S iv Q := am_getR (ci := 2) dX9_drawer_59 rfl rfl (by decide) wq_645 uq_2 rfl ha hb h
theorem sX9_drawer_62 {a0 a2 : Value} {x : Int32} (h : am_R E d mX9_drawer k n 63 [a0, .int x, a2] (.int x :: st) S iv Q) : am_R E d mX9_drawer k n 62 [a0, .int x, a2] st S iv Q := am_iload_n dX9_drawer_62 rfl rfl h
theorem sX9_drawer_63 {ls : List Value} {a m : Nat} {i : Int32} (ha : S.1 a = some (.inr (.int, m))) (hi : vp_in i m) (h : am_R E d mX9_drawer k n 64 ls (.int (iv a i.toNatClampNeg) :: st) S iv Q) : am_R E d mX9_drawer k n 63 ls (.int i :: .ref a :: st) S iv Q := am_iaload dX9_drawer_63 ha hi h
theorem sX9_drawer_64 {ls : List Value} {x : Int32} (h : Q (.inl (some (.int x))) S iv) : am_R E d mX9_drawer k n 64 ls [.int x] S iv Q := am_ireturn dX9_drawer_64 rfl h
theorem sX9_drawer_65 {a0 a1 a2 : Value} (hv : am_rf a0 = true) (h : am_R E d mX9_drawer k n 66 [a0, a1, a2] (a0 :: st) S iv Q) : am_R E d mX9_drawer k n 65 [a0, a1, a2] st S iv Q := am_aload_n dX9_drawer_65 rfl rfl hv h
theorem sX9_drawer_66 {ls : List Value} {a b : Nat} (ha : S.1 a = some (.inl 9)) (hb : S.2.1 a 3 = some b) (h : am_R E d mX9_drawer k n 69 ls (.ref b :: st) S iv Q) : am_R E d mX9_drawer k n 66 ls (.ref a :: st) S iv Q := am_getR (ci := 9) dX9_drawer_66 rfl rfl (by decide) wq_561 uq_9 rfl ha hb h
theorem sX9_drawer_69 {ls : List Value} {a b : Nat} (ha : S.1 a = some (.inl 0)) (hb : S.2.1 a 7 = some b) (h : am_R E d mX9_drawer k n 72 ls (.ref b :: st) S iv Q) : am_R E d mX9_drawer k n 69 ls (.ref a :: st) S iv Q := am_getR (ci := 0) dX9_drawer_69 rfl rfl (by decide) wq_625 uq_0 rfl ha hb h
theorem sX9_drawer_72 {ls : List Value} {a b : Nat} (ha : S.1 a = some (.inl 2)) (hb : S.2.1 a 2 = some b) (h : am_R E d mX9_drawer k n 75 ls (.ref b :: st) S iv Q) : am_R E d mX9_drawer k n 72 ls (.ref a :: st) S iv Q := am_getR (ci := 2) dX9_drawer_72 rfl rfl (by decide) wq_646 uq_2 rfl ha hb h
theorem sX9_drawer_75 {a0 a2 : Value} {x : Int32} (h : am_R E d mX9_drawer k n 76 [a0, .int x, a2] (.int x :: st) S iv Q) : am_R E d mX9_drawer k n 75 [a0, .int x, a2] st S iv Q := am_iload_n dX9_drawer_75 rfl rfl h
theorem sX9_drawer_76 {ls : List Value} {a m : Nat} {i : Int32} (ha : S.1 a = some (.inr (.int, m))) (hi : vp_in i m) (h : am_R E d mX9_drawer k n 77 ls (.int (iv a i.toNatClampNeg) :: st) S iv Q) : am_R E d mX9_drawer k n 76 ls (.int i :: .ref a :: st) S iv Q := am_iaload dX9_drawer_76 ha hi h
theorem sX9_drawer_77 {ls : List Value} {x : Int32} (h : Q (.inl (some (.int x))) S iv) : am_R E d mX9_drawer k n 77 ls [.int x] S iv Q := am_ireturn dX9_drawer_77 rfl h
theorem sX9_drawer_78 {a0 a1 a2 : Value} (hv : am_rf a0 = true) (h : am_R E d mX9_drawer k n 79 [a0, a1, a2] (a0 :: st) S iv Q) : am_R E d mX9_drawer k n 78 [a0, a1, a2] st S iv Q := am_aload_n dX9_drawer_78 rfl rfl hv h
theorem sX9_drawer_79 {ls : List Value} {a b : Nat} (ha : S.1 a = some (.inl 9)) (hb : S.2.1 a 3 = some b) (h : am_R E d mX9_drawer k n 82 ls (.ref b :: st) S iv Q) : am_R E d mX9_drawer k n 79 ls (.ref a :: st) S iv Q := am_getR (ci := 9) dX9_drawer_79 rfl rfl (by decide) wq_561 uq_9 rfl ha hb h
theorem sX9_drawer_82 {ls : List Value} {a b : Nat} (ha : S.1 a = some (.inl 0)) (hb : S.2.1 a 7 = some b) (h : am_R E d mX9_drawer k n 85 ls (.ref b :: st) S iv Q) : am_R E d mX9_drawer k n 82 ls (.ref a :: st) S iv Q := am_getR (ci := 0) dX9_drawer_82 rfl rfl (by decide) wq_625 uq_0 rfl ha hb h
theorem sX9_drawer_85 {ls : List Value} {a b : Nat} (ha : S.1 a = some (.inl 2)) (hb : S.2.1 a 4 = some b) (h : am_R E d mX9_drawer k n 88 ls (.ref b :: st) S iv Q) : am_R E d mX9_drawer k n 85 ls (.ref a :: st) S iv Q := am_getR (ci := 2) dX9_drawer_85 rfl rfl (by decide) wq_647 uq_2 rfl ha hb h
theorem sX9_drawer_88 {a0 a2 : Value} {x : Int32} (h : am_R E d mX9_drawer k n 89 [a0, .int x, a2] (.int x :: st) S iv Q) : am_R E d mX9_drawer k n 88 [a0, .int x, a2] st S iv Q := am_iload_n dX9_drawer_88 rfl rfl h
theorem sX9_drawer_89 {ls : List Value} {a m : Nat} {i : Int32} (ha : S.1 a = some (.inr (.int, m))) (hi : vp_in i m) (h : am_R E d mX9_drawer k n 90 ls (.int (iv a i.toNatClampNeg) :: st) S iv Q) : am_R E d mX9_drawer k n 89 ls (.int i :: .ref a :: st) S iv Q := am_iaload dX9_drawer_89 ha hi h
theorem sX9_drawer_90 {ls : List Value} {x : Int32} (h : Q (.inl (some (.int x))) S iv) : am_R E d mX9_drawer k n 90 ls [.int x] S iv Q := am_ireturn dX9_drawer_90 rfl h
theorem sX9_drawer_91 {a0 a1 a2 : Value} (hv : am_rf a0 = true) (h : am_R E d mX9_drawer k n 92 [a0, a1, a2] (a0 :: st) S iv Q) : am_R E d mX9_drawer k n 91 [a0, a1, a2] st S iv Q := am_aload_n dX9_drawer_91 rfl rfl hv h
theorem sX9_drawer_92 {ls : List Value} {a b : Nat} (ha : S.1 a = some (.inl 9)) (hb : S.2.1 a 3 = some b) (h : am_R E d mX9_drawer k n 95 ls (.ref b :: st) S iv Q) : am_R E d mX9_drawer k n 92 ls (.ref a :: st) S iv Q := am_getR (ci := 9) dX9_drawer_92 rfl rfl (by decide) wq_561 uq_9 rfl ha hb h
theorem sX9_drawer_95 {ls : List Value} {a b : Nat} (ha : S.1 a = some (.inl 0)) (hb : S.2.1 a 7 = some b) (h : am_R E d mX9_drawer k n 98 ls (.ref b :: st) S iv Q) : am_R E d mX9_drawer k n 95 ls (.ref a :: st) S iv Q := am_getR (ci := 0) dX9_drawer_95 rfl rfl (by decide) wq_625 uq_0 rfl ha hb h
theorem sX9_drawer_98 {ls : List Value} {a b : Nat} (ha : S.1 a = some (.inl 2)) (hb : S.2.1 a 5 = some b) (h : am_R E d mX9_drawer k n 101 ls (.ref b :: st) S iv Q) : am_R E d mX9_drawer k n 98 ls (.ref a :: st) S iv Q := am_getR (ci := 2) dX9_drawer_98 rfl rfl (by decide) wq_648 uq_2 rfl ha hb h
theorem sX9_drawer_101 {a0 a2 : Value} {x : Int32} (h : am_R E d mX9_drawer k n 102 [a0, .int x, a2] (.int x :: st) S iv Q) : am_R E d mX9_drawer k n 101 [a0, .int x, a2] st S iv Q := am_iload_n dX9_drawer_101 rfl rfl h
theorem sX9_drawer_102 {ls : List Value} {a m : Nat} {i : Int32} (ha : S.1 a = some (.inr (.int, m))) (hi : vp_in i m) (h : am_R E d mX9_drawer k n 103 ls (.int (iv a i.toNatClampNeg) :: st) S iv Q) : am_R E d mX9_drawer k n 102 ls (.int i :: .ref a :: st) S iv Q := am_iaload dX9_drawer_102 ha hi h
theorem sX9_drawer_103 {ls : List Value} {x : Int32} (h : Q (.inl (some (.int x))) S iv) : am_R E d mX9_drawer k n 103 ls [.int x] S iv Q := am_ireturn dX9_drawer_103 rfl h
theorem sX9_drawer_104 {a0 a1 a2 : Value} (hv : am_rf a0 = true) (h : am_R E d mX9_drawer k n 105 [a0, a1, a2] (a0 :: st) S iv Q) : am_R E d mX9_drawer k n 104 [a0, a1, a2] st S iv Q := am_aload_n dX9_drawer_104 rfl rfl hv h
theorem sX9_drawer_105 {ls : List Value} {a b : Nat} (ha : S.1 a = some (.inl 9)) (hb : S.2.1 a 3 = some b) (h : am_R E d mX9_drawer k n 108 ls (.ref b :: st) S iv Q) : am_R E d mX9_drawer k n 105 ls (.ref a :: st) S iv Q := am_getR (ci := 9) dX9_drawer_105 rfl rfl (by decide) wq_561 uq_9 rfl ha hb h
theorem sX9_drawer_108 {ls : List Value} {a b : Nat} (ha : S.1 a = some (.inl 0)) (hb : S.2.1 a 7 = some b) (h : am_R E d mX9_drawer k n 111 ls (.ref b :: st) S iv Q) : am_R E d mX9_drawer k n 108 ls (.ref a :: st) S iv Q := am_getR (ci := 0) dX9_drawer_108 rfl rfl (by decide) wq_625 uq_0 rfl ha hb h
theorem sX9_drawer_111 {a0 a2 : Value} {x : Int32} (h : am_R E d mX9_drawer k n 112 [a0, .int x, a2] (.int x :: st) S iv Q) : am_R E d mX9_drawer k n 111 [a0, .int x, a2] st S iv Q := am_iload_n dX9_drawer_111 rfl rfl h
theorem sX9_drawer_112 {ls : List Value} {x1 : Value} {a : Nat} (ha : S.1 a = some (.inl 2)) (hst : (st.map fun v => v.category).sum ≤ 8) (hM : am_M E d mX2_isWide 0 0 [.ref a, x1] S iv (am_K3 E (d + 1) mX9_drawer k n 112 ls st Q)) : am_R E (d + 1) mX9_drawer k n 112 ls (x1 :: .ref a :: st) S iv Q := am_cV (ci := 2) (M' := mX2_isWide) (as := [x1]) dX9_drawer_112 rfl rfl rfl wq_649 wq_84 wq_85 wq_81 wq_80 hy_X2_isWide (by decide) ha hst (by omega) (by omega) hM
theorem sX9_drawer_112_k {ls : List Value} {x1 : Value} {k' n' : Nat} {a : Nat} (ha : S.1 a = some (.inl 2)) (hst : (st.map fun v => v.category).sum ≤ 8) (hM : am_M E d mX2_isWide k' n' [.ref a, x1] S iv (am_K3 E (d + 1) mX9_drawer k n 112 ls st Q)) : am_R E (d + 1) mX9_drawer (k' + k) (n' + n) 112 ls (x1 :: .ref a :: st) S iv Q := am_cV (ci := 2) (M' := mX2_isWide) (as := [x1]) dX9_drawer_112 rfl rfl rfl wq_649 wq_84 wq_85 wq_81 wq_80 hy_X2_isWide (by decide) ha hst (by omega) (by omega) hM
theorem sX9_drawer_115 {ls : List Value} {x : Int32} (kt : x = 0 → am_R E d mX9_drawer k n 122 ls st S iv Q) (kf : ¬ x = 0 → am_R E d mX9_drawer k n 118 ls st S iv Q) : am_R E d mX9_drawer k n 115 ls (.int x :: st) S iv Q := am_if_eq dX9_drawer_115 (by decide) kt kf
theorem sX9_drawer_118 {a0 a1 a2 : Value} (h : am_R E d mX9_drawer k n 119 [a0, a1, a2] (.int 1 :: st) S iv Q) : am_R E d mX9_drawer k n 118 [a0, a1, a2] st S iv Q := am_iconst dX9_drawer_118 (by decide) h
theorem sX9_drawer_119 {ls : List Value} (h : am_R E d mX9_drawer k n 123 ls st S iv Q) : am_R E d mX9_drawer k n 119 ls st S iv Q := am_goto dX9_drawer_119 (by decide) h
theorem sX9_drawer_122 {a0 a1 a2 : Value} (h : am_R E d mX9_drawer k n 123 [a0, a1, a2] (.int 0 :: st) S iv Q) : am_R E d mX9_drawer k n 122 [a0, a1, a2] st S iv Q := am_iconst dX9_drawer_122 (by decide) h
theorem sX9_drawer_123 {ls : List Value} {x : Int32} (h : Q (.inl (some (.int x))) S iv) : am_R E d mX9_drawer k n 123 ls [.int x] S iv Q := am_ireturn dX9_drawer_123 rfl h
theorem sX9_drawer_124 {a0 a1 a2 : Value} (hv : am_rf a0 = true) (h : am_R E d mX9_drawer k n 125 [a0, a1, a2] (a0 :: st) S iv Q) : am_R E d mX9_drawer k n 124 [a0, a1, a2] st S iv Q := am_aload_n dX9_drawer_124 rfl rfl hv h
theorem sX9_drawer_125 {ls : List Value} {a b : Nat} (ha : S.1 a = some (.inl 9)) (hb : S.2.1 a 5 = some b) (h : am_R E d mX9_drawer k n 128 ls (.ref b :: st) S iv Q) : am_R E d mX9_drawer k n 125 ls (.ref a :: st) S iv Q := am_getR (ci := 9) dX9_drawer_125 rfl rfl (by decide) wq_569 uq_9 rfl ha hb h
theorem sX9_drawer_128 {ls : List Value} {a : Nat} (ha : S.1 a = some (.inl 7)) (h : am_R E d mX9_drawer k n 131 ls (.int (iv a 0) :: st) S iv Q) : am_R E d mX9_drawer k n 128 ls (.ref a :: st) S iv Q := am_getI (ci := 7) dX9_drawer_128 rfl rfl (by decide) wq_632 uq_7 rfl ha h
theorem sX9_drawer_131 {a0 a2 : Value} {x : Int32} (h : am_R E d mX9_drawer k n 132 [a0, .int x, a2] (.int x :: st) S iv Q) : am_R E d mX9_drawer k n 131 [a0, .int x, a2] st S iv Q := am_iload_n dX9_drawer_131 rfl rfl h
theorem sX9_drawer_132 {ls : List Value} {x y : Int32} (h : am_R E d mX9_drawer k n 133 ls (.int (x >>> (y &&& 31)) :: st) S iv Q) : am_R E d mX9_drawer k n 132 ls (.int y :: .int x :: st) S iv Q := am_ishr dX9_drawer_132 h
theorem sX9_drawer_133 {a0 a1 a2 : Value} (h : am_R E d mX9_drawer k n 134 [a0, a1, a2] (.int 1 :: st) S iv Q) : am_R E d mX9_drawer k n 133 [a0, a1, a2] st S iv Q := am_iconst dX9_drawer_133 (by decide) h
theorem sX9_drawer_134 {ls : List Value} {x y : Int32} (h : am_R E d mX9_drawer k n 135 ls (.int (x &&& y) :: st) S iv Q) : am_R E d mX9_drawer k n 134 ls (.int y :: .int x :: st) S iv Q := am_iand dX9_drawer_134 h
theorem sX9_drawer_135 {ls : List Value} {x : Int32} (h : Q (.inl (some (.int x))) S iv) : am_R E d mX9_drawer k n 135 ls [.int x] S iv Q := am_ireturn dX9_drawer_135 rfl h
theorem sX9_drawer_136 {a0 a1 a2 : Value} (hv : am_rf a0 = true) (h : am_R E d mX9_drawer k n 137 [a0, a1, a2] (a0 :: st) S iv Q) : am_R E d mX9_drawer k n 136 [a0, a1, a2] st S iv Q := am_aload_n dX9_drawer_136 rfl rfl hv h
theorem sX9_drawer_137 {ls : List Value} {a b : Nat} (ha : S.1 a = some (.inl 9)) (hb : S.2.1 a 3 = some b) (h : am_R E d mX9_drawer k n 140 ls (.ref b :: st) S iv Q) : am_R E d mX9_drawer k n 137 ls (.ref a :: st) S iv Q := am_getR (ci := 9) dX9_drawer_137 rfl rfl (by decide) wq_561 uq_9 rfl ha hb h
theorem sX9_drawer_140 {a0 a1 a2 : Value} (hv : am_rf a0 = true) (h : am_R E d mX9_drawer k n 141 [a0, a1, a2] (a0 :: st) S iv Q) : am_R E d mX9_drawer k n 140 [a0, a1, a2] st S iv Q := am_aload_n dX9_drawer_140 rfl rfl hv h
theorem sX9_drawer_141 {ls : List Value} {a b : Nat} (ha : S.1 a = some (.inl 9)) (hb : S.2.1 a 5 = some b) (h : am_R E d mX9_drawer k n 144 ls (.ref b :: st) S iv Q) : am_R E d mX9_drawer k n 141 ls (.ref a :: st) S iv Q := am_getR (ci := 9) dX9_drawer_141 rfl rfl (by decide) wq_569 uq_9 rfl ha hb h
theorem sX9_drawer_144 {ls : List Value} {a : Nat} (ha : S.1 a = some (.inl 7)) (h : am_R E d mX9_drawer k n 147 ls (.int (iv a 0) :: st) S iv Q) : am_R E d mX9_drawer k n 144 ls (.ref a :: st) S iv Q := am_getI (ci := 7) dX9_drawer_144 rfl rfl (by decide) wq_632 uq_7 rfl ha h
theorem sX9_drawer_147 {ls : List Value} {x1 : Value} {a : Nat} (ha : S.1 a = some (.inl 0)) (hst : (st.map fun v => v.category).sum ≤ 8) (hM : am_M E d mX0_reachedBy 0 0 [.ref a, x1] S iv (am_K3 E (d + 1) mX9_drawer k n 147 ls st Q)) : am_R E (d + 1) mX9_drawer k n 147 ls (x1 :: .ref a :: st) S iv Q := am_cV (ci := 0) (M' := mX0_reachedBy) (as := [x1]) dX9_drawer_147 rfl rfl rfl wq_650 wq_532 wq_533 wq_220 wq_529 hy_X0_reachedBy (by decide) ha hst (by omega) (by omega) hM
theorem sX9_drawer_147_k {ls : List Value} {x1 : Value} {k' n' : Nat} {a : Nat} (ha : S.1 a = some (.inl 0)) (hst : (st.map fun v => v.category).sum ≤ 8) (hM : am_M E d mX0_reachedBy k' n' [.ref a, x1] S iv (am_K3 E (d + 1) mX9_drawer k n 147 ls st Q)) : am_R E (d + 1) mX9_drawer (k' + k) (n' + n) 147 ls (x1 :: .ref a :: st) S iv Q := am_cV (ci := 0) (M' := mX0_reachedBy) (as := [x1]) dX9_drawer_147 rfl rfl rfl wq_650 wq_532 wq_533 wq_220 wq_529 hy_X0_reachedBy (by decide) ha hst (by omega) (by omega) hM
theorem sX9_drawer_150 {a0 a2 : Value} {x : Int32} (h : am_R E d mX9_drawer k n 151 [a0, .int x, a2] (.int x :: st) S iv Q) : am_R E d mX9_drawer k n 150 [a0, .int x, a2] st S iv Q := am_iload_n dX9_drawer_150 rfl rfl h
theorem sX9_drawer_151 {ls : List Value} {x y : Int32} (h : am_R E d mX9_drawer k n 152 ls (.int (x >>> (y &&& 31)) :: st) S iv Q) : am_R E d mX9_drawer k n 151 ls (.int y :: .int x :: st) S iv Q := am_ishr dX9_drawer_151 h
theorem sX9_drawer_152 {a0 a1 a2 : Value} (h : am_R E d mX9_drawer k n 153 [a0, a1, a2] (.int 1 :: st) S iv Q) : am_R E d mX9_drawer k n 152 [a0, a1, a2] st S iv Q := am_iconst dX9_drawer_152 (by decide) h
theorem sX9_drawer_153 {ls : List Value} {x y : Int32} (h : am_R E d mX9_drawer k n 154 ls (.int (x &&& y) :: st) S iv Q) : am_R E d mX9_drawer k n 153 ls (.int y :: .int x :: st) S iv Q := am_iand dX9_drawer_153 h
theorem sX9_drawer_154 {ls : List Value} {x : Int32} (h : Q (.inl (some (.int x))) S iv) : am_R E d mX9_drawer k n 154 ls [.int x] S iv Q := am_ireturn dX9_drawer_154 rfl h
theorem sX9_drawer_155 {a0 a1 a2 : Value} (hv : am_rf a0 = true) (h : am_R E d mX9_drawer k n 156 [a0, a1, a2] (a0 :: st) S iv Q) : am_R E d mX9_drawer k n 155 [a0, a1, a2] st S iv Q := am_aload_n dX9_drawer_155 rfl rfl hv h
theorem sX9_drawer_156 {ls : List Value} {a b : Nat} (ha : S.1 a = some (.inl 9)) (hb : S.2.1 a 3 = some b) (h : am_R E d mX9_drawer k n 159 ls (.ref b :: st) S iv Q) : am_R E d mX9_drawer k n 156 ls (.ref a :: st) S iv Q := am_getR (ci := 9) dX9_drawer_156 rfl rfl (by decide) wq_561 uq_9 rfl ha hb h
theorem sX9_drawer_159 {a0 a2 : Value} {x : Int32} (h : am_R E d mX9_drawer k n 160 [a0, .int x, a2] (.int x :: st) S iv Q) : am_R E d mX9_drawer k n 159 [a0, .int x, a2] st S iv Q := am_iload_n dX9_drawer_159 rfl rfl h
theorem sX9_drawer_160 {ls : List Value} {x1 : Value} {a : Nat} (ha : S.1 a = some (.inl 0)) (hst : (st.map fun v => v.category).sum ≤ 8) (hM : am_M E d mX0_rentOf 0 0 [.ref a, x1] S iv (am_K3 E (d + 1) mX9_drawer k n 160 ls st Q)) : am_R E (d + 1) mX9_drawer k n 160 ls (x1 :: .ref a :: st) S iv Q := am_cV (ci := 0) (M' := mX0_rentOf) (as := [x1]) dX9_drawer_160 rfl rfl rfl wq_653 wq_654 wq_655 wq_220 wq_651 hy_X0_rentOf (by decide) ha hst (by omega) (by omega) hM
theorem sX9_drawer_160_k {ls : List Value} {x1 : Value} {k' n' : Nat} {a : Nat} (ha : S.1 a = some (.inl 0)) (hst : (st.map fun v => v.category).sum ≤ 8) (hM : am_M E d mX0_rentOf k' n' [.ref a, x1] S iv (am_K3 E (d + 1) mX9_drawer k n 160 ls st Q)) : am_R E (d + 1) mX9_drawer (k' + k) (n' + n) 160 ls (x1 :: .ref a :: st) S iv Q := am_cV (ci := 0) (M' := mX0_rentOf) (as := [x1]) dX9_drawer_160 rfl rfl rfl wq_653 wq_654 wq_655 wq_220 wq_651 hy_X0_rentOf (by decide) ha hst (by omega) (by omega) hM
theorem sX9_drawer_163 {ls : List Value} {x : Int32} (h : Q (.inl (some (.int x))) S iv) : am_R E d mX9_drawer k n 163 ls [.int x] S iv Q := am_ireturn dX9_drawer_163 rfl h
theorem sX9_drawer_164 {ls : List Value} (hst : (st.map fun v => v.category).sum ≤ 8) (h : ∀ nx, S.2.2.2 ≤ nx → Q (.inr "java/util/NoSuchElementException") (S.1, S.2.1, S.2.2.1, nx) iv) : am_R E (d + 7) mX9_drawer (k + 1) (n + 6) 164 ls st S iv Q := am_throwN (X := "java/util/NoSuchElementException") (tx := "a drawer has no such thing") (j := 27) wq_639_b0 wq_639_b1 wq_639_b2 wq_639_b5 dX9_drawer_164 dX9_drawer_167 (Or.inl ⟨rfl, dX9_drawer_168⟩) dX9_drawer_170 dX9_drawer_173 rfl (by decide) (by decide) (by decide) (by decide) wq_637 wq_638 wq_639 wq_639_g (List.mem_of_getElem? (i := 27) rfl) (by omega) hst (by omega) (by omega) h
theorem sX9_drawer_167 {ls : List Value} {x : Value} (hv : x.category = 1) (h : am_R E d mX9_drawer k n 168 ls (x :: x :: st) S iv Q) : am_R E d mX9_drawer k n 167 ls (x :: st) S iv Q := am_dup dX9_drawer_167 hv h
theorem sX9_drawer_168 {a0 a1 a2 : Value} (h : am_R E d mX9_drawer k n 170 [a0, a1, a2] (.retAddr 27 :: st) S iv Q) : am_R E d mX9_drawer k n 168 [a0, a1, a2] st S iv Q := am_ldcS (tx := "a drawer has no such thing") dX9_drawer_168 (List.mem_of_getElem? (i := 27) rfl) h
theorem dX9_isDrawer_0 : decode cX9_isDrawer 0 = .ok (.iload_n 1, 1) := by decide +kernel
theorem dX9_isDrawer_1 : decode cX9_isDrawer 1 = .ok (.ifCond .lt 21, 3) := by decide +kernel
theorem dX9_isDrawer_4 : decode cX9_isDrawer 4 = .ok (.iload_n 1, 1) := by decide +kernel
theorem dX9_isDrawer_5 : decode cX9_isDrawer 5 = .ok (.aload_n 0, 1) := by decide +kernel
theorem dX9_isDrawer_6 : decode cX9_isDrawer 6 = .ok (.getfield 20, 3) := by decide +kernel
theorem dX9_isDrawer_9 : decode cX9_isDrawer 9 = .ok (.getfield 102, 3) := by decide +kernel
theorem dX9_isDrawer_12 : decode cX9_isDrawer 12 = .ok (.getfield 106, 3) := by decide +kernel
theorem dX9_isDrawer_15 : decode cX9_isDrawer 15 = .ok (.if_icmp .ge 7, 3) := by decide +kernel
theorem dX9_isDrawer_18 : decode cX9_isDrawer 18 = .ok (.iconst 1, 1) := by decide +kernel
theorem dX9_isDrawer_19 : decode cX9_isDrawer 19 = .ok (.goto 4, 3) := by decide +kernel
theorem dX9_isDrawer_22 : decode cX9_isDrawer 22 = .ok (.iconst 0, 1) := by decide +kernel
theorem dX9_isDrawer_23 : decode cX9_isDrawer 23 = .ok (.ireturn, 1) := by decide +kernel
theorem sX9_isDrawer_0 {a0 : Value} {x : Int32} (h : am_R E d mX9_isDrawer k n 1 [a0, .int x] (.int x :: st) S iv Q) : am_R E d mX9_isDrawer k n 0 [a0, .int x] st S iv Q := am_iload_n dX9_isDrawer_0 rfl rfl h
theorem sX9_isDrawer_1 {ls : List Value} {x : Int32} (kt : x < 0 → am_R E d mX9_isDrawer k n 22 ls st S iv Q) (kf : ¬ x < 0 → am_R E d mX9_isDrawer k n 4 ls st S iv Q) : am_R E d mX9_isDrawer k n 1 ls (.int x :: st) S iv Q := am_if_lt dX9_isDrawer_1 (by decide) kt kf
theorem sX9_isDrawer_4 {a0 : Value} {x : Int32} (h : am_R E d mX9_isDrawer k n 5 [a0, .int x] (.int x :: st) S iv Q) : am_R E d mX9_isDrawer k n 4 [a0, .int x] st S iv Q := am_iload_n dX9_isDrawer_4 rfl rfl h
theorem sX9_isDrawer_5 {a0 a1 : Value} (hv : am_rf a0 = true) (h : am_R E d mX9_isDrawer k n 6 [a0, a1] (a0 :: st) S iv Q) : am_R E d mX9_isDrawer k n 5 [a0, a1] st S iv Q := am_aload_n dX9_isDrawer_5 rfl rfl hv h
theorem sX9_isDrawer_6 {ls : List Value} {a b : Nat} (ha : S.1 a = some (.inl 9)) (hb : S.2.1 a 3 = some b) (h : am_R E d mX9_isDrawer k n 9 ls (.ref b :: st) S iv Q) : am_R E d mX9_isDrawer k n 6 ls (.ref a :: st) S iv Q := am_getR (ci := 9) dX9_isDrawer_6 rfl rfl (by decide) wq_561 uq_9 rfl ha hb h
theorem sX9_isDrawer_9 {ls : List Value} {a b : Nat} (ha : S.1 a = some (.inl 0)) (hb : S.2.1 a 7 = some b) (h : am_R E d mX9_isDrawer k n 12 ls (.ref b :: st) S iv Q) : am_R E d mX9_isDrawer k n 9 ls (.ref a :: st) S iv Q := am_getR (ci := 0) dX9_isDrawer_9 rfl rfl (by decide) wq_625 uq_0 rfl ha hb h
theorem sX9_isDrawer_12 {ls : List Value} {a : Nat} (ha : S.1 a = some (.inl 2)) (h : am_R E d mX9_isDrawer k n 15 ls (.int (iv a 0) :: st) S iv Q) : am_R E d mX9_isDrawer k n 12 ls (.ref a :: st) S iv Q := am_getI (ci := 2) dX9_isDrawer_12 rfl rfl (by decide) wq_626 uq_2 rfl ha h
theorem sX9_isDrawer_15 {ls : List Value} {x y : Int32} (kt : y ≤ x → am_R E d mX9_isDrawer k n 22 ls st S iv Q) (kf : ¬ y ≤ x → am_R E d mX9_isDrawer k n 18 ls st S iv Q) : am_R E d mX9_isDrawer k n 15 ls (.int y :: .int x :: st) S iv Q := am_icmp_ge dX9_isDrawer_15 (by decide) kt kf
theorem sX9_isDrawer_18 {a0 a1 : Value} (h : am_R E d mX9_isDrawer k n 19 [a0, a1] (.int 1 :: st) S iv Q) : am_R E d mX9_isDrawer k n 18 [a0, a1] st S iv Q := am_iconst dX9_isDrawer_18 (by decide) h
theorem sX9_isDrawer_19 {ls : List Value} (h : am_R E d mX9_isDrawer k n 23 ls st S iv Q) : am_R E d mX9_isDrawer k n 19 ls st S iv Q := am_goto dX9_isDrawer_19 (by decide) h
theorem sX9_isDrawer_22 {a0 a1 : Value} (h : am_R E d mX9_isDrawer k n 23 [a0, a1] (.int 0 :: st) S iv Q) : am_R E d mX9_isDrawer k n 22 [a0, a1] st S iv Q := am_iconst dX9_isDrawer_22 (by decide) h
theorem sX9_isDrawer_23 {ls : List Value} {x : Int32} (hn : narrow .boolean (.int x) = .int x) (h : Q (.inl (some (.int x))) S iv) : am_R E d mX9_isDrawer k n 23 ls [.int x] S iv Q := am_zreturn dX9_isDrawer_23 rfl hn h
theorem dX9_demandDrawer_0 : decode cX9_demandDrawer 0 = .ok (.aload_n 0, 1) := by decide +kernel
theorem dX9_demandDrawer_1 : decode cX9_demandDrawer 1 = .ok (.iload_n 1, 1) := by decide +kernel
theorem dX9_demandDrawer_2 : decode cX9_demandDrawer 2 = .ok (.invokevirtual 176, 3) := by decide +kernel
theorem dX9_demandDrawer_5 : decode cX9_demandDrawer 5 = .ok (.ifCond .ne 13, 3) := by decide +kernel
theorem dX9_demandDrawer_8 : decode cX9_demandDrawer 8 = .ok (.new 143, 3) := by decide +kernel
theorem dX9_demandDrawer_11 : decode cX9_demandDrawer 11 = .ok (.dup, 1) := by decide +kernel
theorem dX9_demandDrawer_12 : decode cX9_demandDrawer 12 = .ok (.ldc 179, 2) := by decide +kernel
theorem dX9_demandDrawer_14 : decode cX9_demandDrawer 14 = .ok (.invokespecial 147, 3) := by decide +kernel
theorem dX9_demandDrawer_17 : decode cX9_demandDrawer 17 = .ok (.athrow, 1) := by decide +kernel
theorem dX9_demandDrawer_18 : decode cX9_demandDrawer 18 = .ok (.return_, 1) := by decide +kernel
theorem sX9_demandDrawer_0 {a0 a1 : Value} (hv : am_rf a0 = true) (h : am_R E d mX9_demandDrawer k n 1 [a0, a1] (a0 :: st) S iv Q) : am_R E d mX9_demandDrawer k n 0 [a0, a1] st S iv Q := am_aload_n dX9_demandDrawer_0 rfl rfl hv h
theorem sX9_demandDrawer_1 {a0 : Value} {x : Int32} (h : am_R E d mX9_demandDrawer k n 2 [a0, .int x] (.int x :: st) S iv Q) : am_R E d mX9_demandDrawer k n 1 [a0, .int x] st S iv Q := am_iload_n dX9_demandDrawer_1 rfl rfl h
theorem sX9_demandDrawer_2 {ls : List Value} {x1 : Value} {a : Nat} (ha : S.1 a = some (.inl 9)) (hst : (st.map fun v => v.category).sum ≤ 8) (hM : am_M E d mX9_isDrawer 0 0 [.ref a, x1] S iv (am_K3 E (d + 1) mX9_demandDrawer k n 2 ls st Q)) : am_R E (d + 1) mX9_demandDrawer k n 2 ls (x1 :: .ref a :: st) S iv Q := am_cV (ci := 9) (M' := mX9_isDrawer) (as := [x1]) dX9_demandDrawer_2 rfl rfl rfl wq_658 wq_659 wq_660 wq_581 wq_656 hy_X9_isDrawer (by decide) ha hst (by omega) (by omega) hM
theorem sX9_demandDrawer_2_k {ls : List Value} {x1 : Value} {k' n' : Nat} {a : Nat} (ha : S.1 a = some (.inl 9)) (hst : (st.map fun v => v.category).sum ≤ 8) (hM : am_M E d mX9_isDrawer k' n' [.ref a, x1] S iv (am_K3 E (d + 1) mX9_demandDrawer k n 2 ls st Q)) : am_R E (d + 1) mX9_demandDrawer (k' + k) (n' + n) 2 ls (x1 :: .ref a :: st) S iv Q := am_cV (ci := 9) (M' := mX9_isDrawer) (as := [x1]) dX9_demandDrawer_2 rfl rfl rfl wq_658 wq_659 wq_660 wq_581 wq_656 hy_X9_isDrawer (by decide) ha hst (by omega) (by omega) hM
theorem sX9_demandDrawer_5 {ls : List Value} {x : Int32} (kt : ¬ x = 0 → am_R E d mX9_demandDrawer k n 18 ls st S iv Q) (kf : x = 0 → am_R E d mX9_demandDrawer k n 8 ls st S iv Q) : am_R E d mX9_demandDrawer k n 5 ls (.int x :: st) S iv Q := am_if_ne dX9_demandDrawer_5 (by decide) kt kf
theorem sX9_demandDrawer_8 {ls : List Value} (hst : (st.map fun v => v.category).sum ≤ 8) (h : ∀ nx, S.2.2.2 ≤ nx → Q (.inr "java/util/NoSuchElementException") (S.1, S.2.1, S.2.2.1, nx) iv) : am_R E (d + 7) mX9_demandDrawer (k + 1) (n + 6) 8 ls st S iv Q := am_throwN (X := "java/util/NoSuchElementException") (tx := "no such drawer") (j := 26) wq_639_b0 wq_639_b1 wq_639_b2 wq_639_b5 dX9_demandDrawer_8 dX9_demandDrawer_11 (Or.inl ⟨rfl, dX9_demandDrawer_12⟩) dX9_demandDrawer_14 dX9_demandDrawer_17 rfl (by decide) (by decide) (by decide) (by decide) wq_637 wq_638 wq_639 wq_639_g (List.mem_of_getElem? (i := 26) rfl) (by omega) hst (by omega) (by omega) h
theorem sX9_demandDrawer_11 {ls : List Value} {x : Value} (hv : x.category = 1) (h : am_R E d mX9_demandDrawer k n 12 ls (x :: x :: st) S iv Q) : am_R E d mX9_demandDrawer k n 11 ls (x :: st) S iv Q := am_dup dX9_demandDrawer_11 hv h
theorem sX9_demandDrawer_12 {a0 a1 : Value} (h : am_R E d mX9_demandDrawer k n 14 [a0, a1] (.retAddr 26 :: st) S iv Q) : am_R E d mX9_demandDrawer k n 12 [a0, a1] st S iv Q := am_ldcS (tx := "no such drawer") dX9_demandDrawer_12 (List.mem_of_getElem? (i := 26) rfl) h
theorem sX9_demandDrawer_18 {ls : List Value} (h : Q (.inl none) S iv) : am_R E d mX9_demandDrawer k n 18 ls [] S iv Q := am_return dX9_demandDrawer_18 rfl h
theorem dX9_person_0 : decode cX9_person 0 = .ok (.aload_n 0, 1) := by decide +kernel
theorem dX9_person_1 : decode cX9_person 1 = .ok (.iload_n 1, 1) := by decide +kernel
theorem dX9_person_2 : decode cX9_person 2 = .ok (.invokevirtual 181, 3) := by decide +kernel
theorem dX9_person_5 : decode cX9_person 5 = .ok (.iload_n 2, 1) := by decide +kernel
theorem dX9_person_6 : decode cX9_person 6 = .ok (.tableswitch 95 0 4 #[34, 47, 60, 73, 85], 34) := by decide +kernel
theorem dX9_person_40 : decode cX9_person 40 = .ok (.aload_n 0, 1) := by decide +kernel
theorem dX9_person_41 : decode cX9_person 41 = .ok (.getfield 20, 3) := by decide +kernel
theorem dX9_person_44 : decode cX9_person 44 = .ok (.getfield 111, 3) := by decide +kernel
theorem dX9_person_47 : decode cX9_person 47 = .ok (.getfield 184, 3) := by decide +kernel
theorem dX9_person_50 : decode cX9_person 50 = .ok (.iload_n 1, 1) := by decide +kernel
theorem dX9_person_51 : decode cX9_person 51 = .ok (.iaload, 1) := by decide +kernel
theorem dX9_person_52 : decode cX9_person 52 = .ok (.ireturn, 1) := by decide +kernel
theorem dX9_person_53 : decode cX9_person 53 = .ok (.aload_n 0, 1) := by decide +kernel
theorem dX9_person_54 : decode cX9_person 54 = .ok (.getfield 20, 3) := by decide +kernel
theorem dX9_person_57 : decode cX9_person 57 = .ok (.getfield 111, 3) := by decide +kernel
theorem dX9_person_60 : decode cX9_person 60 = .ok (.getfield 187, 3) := by decide +kernel
theorem dX9_person_63 : decode cX9_person 63 = .ok (.iload_n 1, 1) := by decide +kernel
theorem dX9_person_64 : decode cX9_person 64 = .ok (.iaload, 1) := by decide +kernel
theorem dX9_person_65 : decode cX9_person 65 = .ok (.ireturn, 1) := by decide +kernel
theorem dX9_person_66 : decode cX9_person 66 = .ok (.aload_n 0, 1) := by decide +kernel
theorem dX9_person_67 : decode cX9_person 67 = .ok (.getfield 20, 3) := by decide +kernel
theorem dX9_person_70 : decode cX9_person 70 = .ok (.getfield 111, 3) := by decide +kernel
theorem dX9_person_73 : decode cX9_person 73 = .ok (.getfield 190, 3) := by decide +kernel
theorem dX9_person_76 : decode cX9_person 76 = .ok (.iload_n 1, 1) := by decide +kernel
theorem dX9_person_77 : decode cX9_person 77 = .ok (.iaload, 1) := by decide +kernel
theorem dX9_person_78 : decode cX9_person 78 = .ok (.ireturn, 1) := by decide +kernel
theorem dX9_person_79 : decode cX9_person 79 = .ok (.aload_n 0, 1) := by decide +kernel
theorem dX9_person_80 : decode cX9_person 80 = .ok (.getfield 30, 3) := by decide +kernel
theorem dX9_person_83 : decode cX9_person 83 = .ok (.getfield 134, 3) := by decide +kernel
theorem dX9_person_86 : decode cX9_person 86 = .ok (.iload_n 1, 1) := by decide +kernel
theorem dX9_person_87 : decode cX9_person 87 = .ok (.ishr, 1) := by decide +kernel
theorem dX9_person_88 : decode cX9_person 88 = .ok (.iconst 1, 1) := by decide +kernel
theorem dX9_person_89 : decode cX9_person 89 = .ok (.iand, 1) := by decide +kernel
theorem dX9_person_90 : decode cX9_person 90 = .ok (.ireturn, 1) := by decide +kernel
theorem dX9_person_91 : decode cX9_person 91 = .ok (.aload_n 0, 1) := by decide +kernel
theorem dX9_person_92 : decode cX9_person 92 = .ok (.getfield 30, 3) := by decide +kernel
theorem dX9_person_95 : decode cX9_person 95 = .ok (.getfield 193, 3) := by decide +kernel
theorem dX9_person_98 : decode cX9_person 98 = .ok (.iload_n 1, 1) := by decide +kernel
theorem dX9_person_99 : decode cX9_person 99 = .ok (.iaload, 1) := by decide +kernel
theorem dX9_person_100 : decode cX9_person 100 = .ok (.ireturn, 1) := by decide +kernel
theorem dX9_person_101 : decode cX9_person 101 = .ok (.new 143, 3) := by decide +kernel
theorem dX9_person_104 : decode cX9_person 104 = .ok (.dup, 1) := by decide +kernel
theorem dX9_person_105 : decode cX9_person 105 = .ok (.ldc 196, 2) := by decide +kernel
theorem dX9_person_107 : decode cX9_person 107 = .ok (.invokespecial 147, 3) := by decide +kernel
theorem dX9_person_110 : decode cX9_person 110 = .ok (.athrow, 1) := by decide +kernel
theorem sX9_person_0 {a0 a1 a2 : Value} (hv : am_rf a0 = true) (h : am_R E d mX9_person k n 1 [a0, a1, a2] (a0 :: st) S iv Q) : am_R E d mX9_person k n 0 [a0, a1, a2] st S iv Q := am_aload_n dX9_person_0 rfl rfl hv h
theorem sX9_person_1 {a0 a2 : Value} {x : Int32} (h : am_R E d mX9_person k n 2 [a0, .int x, a2] (.int x :: st) S iv Q) : am_R E d mX9_person k n 1 [a0, .int x, a2] st S iv Q := am_iload_n dX9_person_1 rfl rfl h
theorem sX9_person_2 {ls : List Value} {x1 : Value} {a : Nat} (ha : S.1 a = some (.inl 9)) (hst : (st.map fun v => v.category).sum ≤ 8) (hM : am_M E d mX9_demandPerson 0 0 [.ref a, x1] S iv (am_K3 E (d + 1) mX9_person k n 2 ls st Q)) : am_R E (d + 1) mX9_person k n 2 ls (x1 :: .ref a :: st) S iv Q := am_cV (ci := 9) (M' := mX9_demandPerson) (as := [x1]) dX9_person_2 rfl rfl rfl wq_663 wq_664 wq_665 wq_581 wq_661 hy_X9_demandPerson (by decide) ha hst (by omega) (by omega) hM
theorem sX9_person_2_k {ls : List Value} {x1 : Value} {k' n' : Nat} {a : Nat} (ha : S.1 a = some (.inl 9)) (hst : (st.map fun v => v.category).sum ≤ 8) (hM : am_M E d mX9_demandPerson k' n' [.ref a, x1] S iv (am_K3 E (d + 1) mX9_person k n 2 ls st Q)) : am_R E (d + 1) mX9_person (k' + k) (n' + n) 2 ls (x1 :: .ref a :: st) S iv Q := am_cV (ci := 9) (M' := mX9_demandPerson) (as := [x1]) dX9_person_2 rfl rfl rfl wq_663 wq_664 wq_665 wq_581 wq_661 hy_X9_demandPerson (by decide) ha hst (by omega) (by omega) hM
theorem sX9_person_5 {a0 a1 : Value} {x : Int32} (h : am_R E d mX9_person k n 6 [a0, a1, .int x] (.int x :: st) S iv Q) : am_R E d mX9_person k n 5 [a0, a1, .int x] st S iv Q := am_iload_n dX9_person_5 rfl rfl h
theorem sX9_person_6_0 {ls : List Value} (h : am_R E d mX9_person k n 40 ls st S iv Q) : am_R E d mX9_person k n 6 ls (.int 0 :: st) S iv Q := am_tableIn (off := 34) dX9_person_6 (by decide) (by decide) (by decide) (by decide) h
theorem sX9_person_6_1 {ls : List Value} (h : am_R E d mX9_person k n 53 ls st S iv Q) : am_R E d mX9_person k n 6 ls (.int 1 :: st) S iv Q := am_tableIn (off := 47) dX9_person_6 (by decide) (by decide) (by decide) (by decide) h
theorem sX9_person_6_2 {ls : List Value} (h : am_R E d mX9_person k n 66 ls st S iv Q) : am_R E d mX9_person k n 6 ls (.int 2 :: st) S iv Q := am_tableIn (off := 60) dX9_person_6 (by decide) (by decide) (by decide) (by decide) h
theorem sX9_person_6_3 {ls : List Value} (h : am_R E d mX9_person k n 79 ls st S iv Q) : am_R E d mX9_person k n 6 ls (.int 3 :: st) S iv Q := am_tableIn (off := 73) dX9_person_6 (by decide) (by decide) (by decide) (by decide) h
theorem sX9_person_6_4 {ls : List Value} (h : am_R E d mX9_person k n 91 ls st S iv Q) : am_R E d mX9_person k n 6 ls (.int 4 :: st) S iv Q := am_tableIn (off := 85) dX9_person_6 (by decide) (by decide) (by decide) (by decide) h
theorem sX9_person_6_d {ls : List Value} {x : Int32} (hx : x.toInt < 0 ∨ 4 < x.toInt) (h : am_R E d mX9_person k n 101 ls st S iv Q) : am_R E d mX9_person k n 6 ls (.int x :: st) S iv Q := am_tableOut dX9_person_6 hx (by decide) h
theorem sX9_person_40 {a0 a1 a2 : Value} (hv : am_rf a0 = true) (h : am_R E d mX9_person k n 41 [a0, a1, a2] (a0 :: st) S iv Q) : am_R E d mX9_person k n 40 [a0, a1, a2] st S iv Q := am_aload_n dX9_person_40 rfl rfl hv h
theorem sX9_person_41 {ls : List Value} {a b : Nat} (ha : S.1 a = some (.inl 9)) (hb : S.2.1 a 3 = some b) (h : am_R E d mX9_person k n 44 ls (.ref b :: st) S iv Q) : am_R E d mX9_person k n 41 ls (.ref a :: st) S iv Q := am_getR (ci := 9) dX9_person_41 rfl rfl (by decide) wq_561 uq_9 rfl ha hb h
theorem sX9_person_44 {ls : List Value} {a b : Nat} (ha : S.1 a = some (.inl 0)) (hb : S.2.1 a 8 = some b) (h : am_R E d mX9_person k n 47 ls (.ref b :: st) S iv Q) : am_R E d mX9_person k n 44 ls (.ref a :: st) S iv Q := am_getR (ci := 0) dX9_person_44 rfl rfl (by decide) wq_627 uq_0 rfl ha hb h
theorem sX9_person_47 {ls : List Value} {a b : Nat} (ha : S.1 a = some (.inl 4)) (hb : S.2.1 a 1 = some b) (h : am_R E d mX9_person k n 50 ls (.ref b :: st) S iv Q) : am_R E d mX9_person k n 47 ls (.ref a :: st) S iv Q := am_getR (ci := 4) dX9_person_47 rfl rfl (by decide) wq_666 uq_4 rfl ha hb h
theorem sX9_person_50 {a0 a2 : Value} {x : Int32} (h : am_R E d mX9_person k n 51 [a0, .int x, a2] (.int x :: st) S iv Q) : am_R E d mX9_person k n 50 [a0, .int x, a2] st S iv Q := am_iload_n dX9_person_50 rfl rfl h
theorem sX9_person_51 {ls : List Value} {a m : Nat} {i : Int32} (ha : S.1 a = some (.inr (.int, m))) (hi : vp_in i m) (h : am_R E d mX9_person k n 52 ls (.int (iv a i.toNatClampNeg) :: st) S iv Q) : am_R E d mX9_person k n 51 ls (.int i :: .ref a :: st) S iv Q := am_iaload dX9_person_51 ha hi h
theorem sX9_person_52 {ls : List Value} {x : Int32} (h : Q (.inl (some (.int x))) S iv) : am_R E d mX9_person k n 52 ls [.int x] S iv Q := am_ireturn dX9_person_52 rfl h
theorem sX9_person_53 {a0 a1 a2 : Value} (hv : am_rf a0 = true) (h : am_R E d mX9_person k n 54 [a0, a1, a2] (a0 :: st) S iv Q) : am_R E d mX9_person k n 53 [a0, a1, a2] st S iv Q := am_aload_n dX9_person_53 rfl rfl hv h
theorem sX9_person_54 {ls : List Value} {a b : Nat} (ha : S.1 a = some (.inl 9)) (hb : S.2.1 a 3 = some b) (h : am_R E d mX9_person k n 57 ls (.ref b :: st) S iv Q) : am_R E d mX9_person k n 54 ls (.ref a :: st) S iv Q := am_getR (ci := 9) dX9_person_54 rfl rfl (by decide) wq_561 uq_9 rfl ha hb h
theorem sX9_person_57 {ls : List Value} {a b : Nat} (ha : S.1 a = some (.inl 0)) (hb : S.2.1 a 8 = some b) (h : am_R E d mX9_person k n 60 ls (.ref b :: st) S iv Q) : am_R E d mX9_person k n 57 ls (.ref a :: st) S iv Q := am_getR (ci := 0) dX9_person_57 rfl rfl (by decide) wq_627 uq_0 rfl ha hb h
theorem sX9_person_60 {ls : List Value} {a b : Nat} (ha : S.1 a = some (.inl 4)) (hb : S.2.1 a 2 = some b) (h : am_R E d mX9_person k n 63 ls (.ref b :: st) S iv Q) : am_R E d mX9_person k n 60 ls (.ref a :: st) S iv Q := am_getR (ci := 4) dX9_person_60 rfl rfl (by decide) wq_667 uq_4 rfl ha hb h
theorem sX9_person_63 {a0 a2 : Value} {x : Int32} (h : am_R E d mX9_person k n 64 [a0, .int x, a2] (.int x :: st) S iv Q) : am_R E d mX9_person k n 63 [a0, .int x, a2] st S iv Q := am_iload_n dX9_person_63 rfl rfl h
theorem sX9_person_64 {ls : List Value} {a m : Nat} {i : Int32} (ha : S.1 a = some (.inr (.int, m))) (hi : vp_in i m) (h : am_R E d mX9_person k n 65 ls (.int (iv a i.toNatClampNeg) :: st) S iv Q) : am_R E d mX9_person k n 64 ls (.int i :: .ref a :: st) S iv Q := am_iaload dX9_person_64 ha hi h
theorem sX9_person_65 {ls : List Value} {x : Int32} (h : Q (.inl (some (.int x))) S iv) : am_R E d mX9_person k n 65 ls [.int x] S iv Q := am_ireturn dX9_person_65 rfl h
theorem sX9_person_66 {a0 a1 a2 : Value} (hv : am_rf a0 = true) (h : am_R E d mX9_person k n 67 [a0, a1, a2] (a0 :: st) S iv Q) : am_R E d mX9_person k n 66 [a0, a1, a2] st S iv Q := am_aload_n dX9_person_66 rfl rfl hv h
theorem sX9_person_67 {ls : List Value} {a b : Nat} (ha : S.1 a = some (.inl 9)) (hb : S.2.1 a 3 = some b) (h : am_R E d mX9_person k n 70 ls (.ref b :: st) S iv Q) : am_R E d mX9_person k n 67 ls (.ref a :: st) S iv Q := am_getR (ci := 9) dX9_person_67 rfl rfl (by decide) wq_561 uq_9 rfl ha hb h
theorem sX9_person_70 {ls : List Value} {a b : Nat} (ha : S.1 a = some (.inl 0)) (hb : S.2.1 a 8 = some b) (h : am_R E d mX9_person k n 73 ls (.ref b :: st) S iv Q) : am_R E d mX9_person k n 70 ls (.ref a :: st) S iv Q := am_getR (ci := 0) dX9_person_70 rfl rfl (by decide) wq_627 uq_0 rfl ha hb h
theorem sX9_person_73 {ls : List Value} {a b : Nat} (ha : S.1 a = some (.inl 4)) (hb : S.2.1 a 3 = some b) (h : am_R E d mX9_person k n 76 ls (.ref b :: st) S iv Q) : am_R E d mX9_person k n 73 ls (.ref a :: st) S iv Q := am_getR (ci := 4) dX9_person_73 rfl rfl (by decide) wq_668 uq_4 rfl ha hb h
theorem sX9_person_76 {a0 a2 : Value} {x : Int32} (h : am_R E d mX9_person k n 77 [a0, .int x, a2] (.int x :: st) S iv Q) : am_R E d mX9_person k n 76 [a0, .int x, a2] st S iv Q := am_iload_n dX9_person_76 rfl rfl h
theorem sX9_person_77 {ls : List Value} {a m : Nat} {i : Int32} (ha : S.1 a = some (.inr (.int, m))) (hi : vp_in i m) (h : am_R E d mX9_person k n 78 ls (.int (iv a i.toNatClampNeg) :: st) S iv Q) : am_R E d mX9_person k n 77 ls (.int i :: .ref a :: st) S iv Q := am_iaload dX9_person_77 ha hi h
theorem sX9_person_78 {ls : List Value} {x : Int32} (h : Q (.inl (some (.int x))) S iv) : am_R E d mX9_person k n 78 ls [.int x] S iv Q := am_ireturn dX9_person_78 rfl h
theorem sX9_person_79 {a0 a1 a2 : Value} (hv : am_rf a0 = true) (h : am_R E d mX9_person k n 80 [a0, a1, a2] (a0 :: st) S iv Q) : am_R E d mX9_person k n 79 [a0, a1, a2] st S iv Q := am_aload_n dX9_person_79 rfl rfl hv h
theorem sX9_person_80 {ls : List Value} {a b : Nat} (ha : S.1 a = some (.inl 9)) (hb : S.2.1 a 5 = some b) (h : am_R E d mX9_person k n 83 ls (.ref b :: st) S iv Q) : am_R E d mX9_person k n 80 ls (.ref a :: st) S iv Q := am_getR (ci := 9) dX9_person_80 rfl rfl (by decide) wq_569 uq_9 rfl ha hb h
theorem sX9_person_83 {ls : List Value} {a : Nat} (ha : S.1 a = some (.inl 7)) (h : am_R E d mX9_person k n 86 ls (.int (iv a 2) :: st) S iv Q) : am_R E d mX9_person k n 83 ls (.ref a :: st) S iv Q := am_getI (ci := 7) dX9_person_83 rfl rfl (by decide) wq_634 uq_7 rfl ha h
theorem sX9_person_86 {a0 a2 : Value} {x : Int32} (h : am_R E d mX9_person k n 87 [a0, .int x, a2] (.int x :: st) S iv Q) : am_R E d mX9_person k n 86 [a0, .int x, a2] st S iv Q := am_iload_n dX9_person_86 rfl rfl h
theorem sX9_person_87 {ls : List Value} {x y : Int32} (h : am_R E d mX9_person k n 88 ls (.int (x >>> (y &&& 31)) :: st) S iv Q) : am_R E d mX9_person k n 87 ls (.int y :: .int x :: st) S iv Q := am_ishr dX9_person_87 h
theorem sX9_person_88 {a0 a1 a2 : Value} (h : am_R E d mX9_person k n 89 [a0, a1, a2] (.int 1 :: st) S iv Q) : am_R E d mX9_person k n 88 [a0, a1, a2] st S iv Q := am_iconst dX9_person_88 (by decide) h
theorem sX9_person_89 {ls : List Value} {x y : Int32} (h : am_R E d mX9_person k n 90 ls (.int (x &&& y) :: st) S iv Q) : am_R E d mX9_person k n 89 ls (.int y :: .int x :: st) S iv Q := am_iand dX9_person_89 h
theorem sX9_person_90 {ls : List Value} {x : Int32} (h : Q (.inl (some (.int x))) S iv) : am_R E d mX9_person k n 90 ls [.int x] S iv Q := am_ireturn dX9_person_90 rfl h
theorem sX9_person_91 {a0 a1 a2 : Value} (hv : am_rf a0 = true) (h : am_R E d mX9_person k n 92 [a0, a1, a2] (a0 :: st) S iv Q) : am_R E d mX9_person k n 91 [a0, a1, a2] st S iv Q := am_aload_n dX9_person_91 rfl rfl hv h
theorem sX9_person_92 {ls : List Value} {a b : Nat} (ha : S.1 a = some (.inl 9)) (hb : S.2.1 a 5 = some b) (h : am_R E d mX9_person k n 95 ls (.ref b :: st) S iv Q) : am_R E d mX9_person k n 92 ls (.ref a :: st) S iv Q := am_getR (ci := 9) dX9_person_92 rfl rfl (by decide) wq_569 uq_9 rfl ha hb h
theorem sX9_person_95 {ls : List Value} {a b : Nat} (ha : S.1 a = some (.inl 7)) (hb : S.2.1 a 6 = some b) (h : am_R E d mX9_person k n 98 ls (.ref b :: st) S iv Q) : am_R E d mX9_person k n 95 ls (.ref a :: st) S iv Q := am_getR (ci := 7) dX9_person_95 rfl rfl (by decide) wq_669 uq_7 rfl ha hb h
theorem sX9_person_98 {a0 a2 : Value} {x : Int32} (h : am_R E d mX9_person k n 99 [a0, .int x, a2] (.int x :: st) S iv Q) : am_R E d mX9_person k n 98 [a0, .int x, a2] st S iv Q := am_iload_n dX9_person_98 rfl rfl h
theorem sX9_person_99 {ls : List Value} {a m : Nat} {i : Int32} (ha : S.1 a = some (.inr (.int, m))) (hi : vp_in i m) (h : am_R E d mX9_person k n 100 ls (.int (iv a i.toNatClampNeg) :: st) S iv Q) : am_R E d mX9_person k n 99 ls (.int i :: .ref a :: st) S iv Q := am_iaload dX9_person_99 ha hi h
theorem sX9_person_100 {ls : List Value} {x : Int32} (h : Q (.inl (some (.int x))) S iv) : am_R E d mX9_person k n 100 ls [.int x] S iv Q := am_ireturn dX9_person_100 rfl h
theorem sX9_person_101 {ls : List Value} (hst : (st.map fun v => v.category).sum ≤ 8) (h : ∀ nx, S.2.2.2 ≤ nx → Q (.inr "java/util/NoSuchElementException") (S.1, S.2.1, S.2.2.1, nx) iv) : am_R E (d + 7) mX9_person (k + 1) (n + 6) 101 ls st S iv Q := am_throwN (X := "java/util/NoSuchElementException") (tx := "a person has no such thing") (j := 29) wq_639_b0 wq_639_b1 wq_639_b2 wq_639_b5 dX9_person_101 dX9_person_104 (Or.inl ⟨rfl, dX9_person_105⟩) dX9_person_107 dX9_person_110 rfl (by decide) (by decide) (by decide) (by decide) wq_637 wq_638 wq_639 wq_639_g (List.mem_of_getElem? (i := 29) rfl) (by omega) hst (by omega) (by omega) h
theorem sX9_person_104 {ls : List Value} {x : Value} (hv : x.category = 1) (h : am_R E d mX9_person k n 105 ls (x :: x :: st) S iv Q) : am_R E d mX9_person k n 104 ls (x :: st) S iv Q := am_dup dX9_person_104 hv h
theorem sX9_person_105 {a0 a1 a2 : Value} (h : am_R E d mX9_person k n 107 [a0, a1, a2] (.retAddr 29 :: st) S iv Q) : am_R E d mX9_person k n 105 [a0, a1, a2] st S iv Q := am_ldcS (tx := "a person has no such thing") dX9_person_105 (List.mem_of_getElem? (i := 29) rfl) h
theorem dX9_demandPerson_0 : decode cX9_demandPerson 0 = .ok (.iload_n 1, 1) := by decide +kernel
theorem dX9_demandPerson_1 : decode cX9_demandPerson 1 = .ok (.ifCond .lt 17, 3) := by decide +kernel
theorem dX9_demandPerson_4 : decode cX9_demandPerson 4 = .ok (.iload_n 1, 1) := by decide +kernel
theorem dX9_demandPerson_5 : decode cX9_demandPerson 5 = .ok (.aload_n 0, 1) := by decide +kernel
theorem dX9_demandPerson_6 : decode cX9_demandPerson 6 = .ok (.getfield 20, 3) := by decide +kernel
theorem dX9_demandPerson_9 : decode cX9_demandPerson 9 = .ok (.getfield 111, 3) := by decide +kernel
theorem dX9_demandPerson_12 : decode cX9_demandPerson 12 = .ok (.getfield 115, 3) := by decide +kernel
theorem dX9_demandPerson_15 : decode cX9_demandPerson 15 = .ok (.if_icmp .lt 13, 3) := by decide +kernel
theorem dX9_demandPerson_18 : decode cX9_demandPerson 18 = .ok (.new 143, 3) := by decide +kernel
theorem dX9_demandPerson_21 : decode cX9_demandPerson 21 = .ok (.dup, 1) := by decide +kernel
theorem dX9_demandPerson_22 : decode cX9_demandPerson 22 = .ok (.ldc 198, 2) := by decide +kernel
theorem dX9_demandPerson_24 : decode cX9_demandPerson 24 = .ok (.invokespecial 147, 3) := by decide +kernel
theorem dX9_demandPerson_27 : decode cX9_demandPerson 27 = .ok (.athrow, 1) := by decide +kernel
theorem dX9_demandPerson_28 : decode cX9_demandPerson 28 = .ok (.return_, 1) := by decide +kernel
theorem sX9_demandPerson_0 {a0 : Value} {x : Int32} (h : am_R E d mX9_demandPerson k n 1 [a0, .int x] (.int x :: st) S iv Q) : am_R E d mX9_demandPerson k n 0 [a0, .int x] st S iv Q := am_iload_n dX9_demandPerson_0 rfl rfl h
theorem sX9_demandPerson_1 {ls : List Value} {x : Int32} (kt : x < 0 → am_R E d mX9_demandPerson k n 18 ls st S iv Q) (kf : ¬ x < 0 → am_R E d mX9_demandPerson k n 4 ls st S iv Q) : am_R E d mX9_demandPerson k n 1 ls (.int x :: st) S iv Q := am_if_lt dX9_demandPerson_1 (by decide) kt kf
theorem sX9_demandPerson_4 {a0 : Value} {x : Int32} (h : am_R E d mX9_demandPerson k n 5 [a0, .int x] (.int x :: st) S iv Q) : am_R E d mX9_demandPerson k n 4 [a0, .int x] st S iv Q := am_iload_n dX9_demandPerson_4 rfl rfl h
theorem sX9_demandPerson_5 {a0 a1 : Value} (hv : am_rf a0 = true) (h : am_R E d mX9_demandPerson k n 6 [a0, a1] (a0 :: st) S iv Q) : am_R E d mX9_demandPerson k n 5 [a0, a1] st S iv Q := am_aload_n dX9_demandPerson_5 rfl rfl hv h
theorem sX9_demandPerson_6 {ls : List Value} {a b : Nat} (ha : S.1 a = some (.inl 9)) (hb : S.2.1 a 3 = some b) (h : am_R E d mX9_demandPerson k n 9 ls (.ref b :: st) S iv Q) : am_R E d mX9_demandPerson k n 6 ls (.ref a :: st) S iv Q := am_getR (ci := 9) dX9_demandPerson_6 rfl rfl (by decide) wq_561 uq_9 rfl ha hb h
theorem sX9_demandPerson_9 {ls : List Value} {a b : Nat} (ha : S.1 a = some (.inl 0)) (hb : S.2.1 a 8 = some b) (h : am_R E d mX9_demandPerson k n 12 ls (.ref b :: st) S iv Q) : am_R E d mX9_demandPerson k n 9 ls (.ref a :: st) S iv Q := am_getR (ci := 0) dX9_demandPerson_9 rfl rfl (by decide) wq_627 uq_0 rfl ha hb h
theorem sX9_demandPerson_12 {ls : List Value} {a : Nat} (ha : S.1 a = some (.inl 4)) (h : am_R E d mX9_demandPerson k n 15 ls (.int (iv a 0) :: st) S iv Q) : am_R E d mX9_demandPerson k n 12 ls (.ref a :: st) S iv Q := am_getI (ci := 4) dX9_demandPerson_12 rfl rfl (by decide) wq_628 uq_4 rfl ha h
theorem sX9_demandPerson_15 {ls : List Value} {x y : Int32} (kt : x < y → am_R E d mX9_demandPerson k n 28 ls st S iv Q) (kf : ¬ x < y → am_R E d mX9_demandPerson k n 18 ls st S iv Q) : am_R E d mX9_demandPerson k n 15 ls (.int y :: .int x :: st) S iv Q := am_icmp_lt dX9_demandPerson_15 (by decide) kt kf
theorem sX9_demandPerson_18 {ls : List Value} (hst : (st.map fun v => v.category).sum ≤ 8) (h : ∀ nx, S.2.2.2 ≤ nx → Q (.inr "java/util/NoSuchElementException") (S.1, S.2.1, S.2.2.1, nx) iv) : am_R E (d + 7) mX9_demandPerson (k + 1) (n + 6) 18 ls st S iv Q := am_throwN (X := "java/util/NoSuchElementException") (tx := "no such person") (j := 28) wq_639_b0 wq_639_b1 wq_639_b2 wq_639_b5 dX9_demandPerson_18 dX9_demandPerson_21 (Or.inl ⟨rfl, dX9_demandPerson_22⟩) dX9_demandPerson_24 dX9_demandPerson_27 rfl (by decide) (by decide) (by decide) (by decide) wq_637 wq_638 wq_639 wq_639_g (List.mem_of_getElem? (i := 28) rfl) (by omega) hst (by omega) (by omega) h
theorem sX9_demandPerson_21 {ls : List Value} {x : Value} (hv : x.category = 1) (h : am_R E d mX9_demandPerson k n 22 ls (x :: x :: st) S iv Q) : am_R E d mX9_demandPerson k n 21 ls (x :: st) S iv Q := am_dup dX9_demandPerson_21 hv h
theorem sX9_demandPerson_22 {a0 a1 : Value} (h : am_R E d mX9_demandPerson k n 24 [a0, a1] (.retAddr 28 :: st) S iv Q) : am_R E d mX9_demandPerson k n 22 [a0, a1] st S iv Q := am_ldcS (tx := "no such person") dX9_demandPerson_22 (List.mem_of_getElem? (i := 28) rfl) h
theorem sX9_demandPerson_28 {ls : List Value} (h : Q (.inl none) S iv) : am_R E d mX9_demandPerson k n 28 ls [] S iv Q := am_return dX9_demandPerson_28 rfl h
theorem dX9_may_0 : decode cX9_may 0 = .ok (.aload_n 0, 1) := by decide +kernel
theorem dX9_may_1 : decode cX9_may 1 = .ok (.iload_n 1, 1) := by decide +kernel
theorem dX9_may_2 : decode cX9_may 2 = .ok (.invokevirtual 200, 3) := by decide +kernel
theorem dX9_may_5 : decode cX9_may 5 = .ok (.aload_n 0, 1) := by decide +kernel
theorem dX9_may_6 : decode cX9_may 6 = .ok (.getfield 20, 3) := by decide +kernel
theorem dX9_may_9 : decode cX9_may 9 = .ok (.iload_n 1, 1) := by decide +kernel
theorem dX9_may_10 : decode cX9_may 10 = .ok (.invokevirtual 203, 3) := by decide +kernel
theorem dX9_may_13 : decode cX9_may 13 = .ok (.ireturn, 1) := by decide +kernel
theorem sX9_may_0 {a0 a1 : Value} (hv : am_rf a0 = true) (h : am_R E d mX9_may k n 1 [a0, a1] (a0 :: st) S iv Q) : am_R E d mX9_may k n 0 [a0, a1] st S iv Q := am_aload_n dX9_may_0 rfl rfl hv h
theorem sX9_may_1 {a0 : Value} {x : Int32} (h : am_R E d mX9_may k n 2 [a0, .int x] (.int x :: st) S iv Q) : am_R E d mX9_may k n 1 [a0, .int x] st S iv Q := am_iload_n dX9_may_1 rfl rfl h
theorem sX9_may_2 {ls : List Value} {x1 : Value} {a : Nat} (ha : S.1 a = some (.inl 9)) (hst : (st.map fun v => v.category).sum ≤ 8) (hM : am_M E d mX9_demandSet 0 0 [.ref a, x1] S iv (am_K3 E (d + 1) mX9_may k n 2 ls st Q)) : am_R E (d + 1) mX9_may k n 2 ls (x1 :: .ref a :: st) S iv Q := am_cV (ci := 9) (M' := mX9_demandSet) (as := [x1]) dX9_may_2 rfl rfl rfl wq_672 wq_673 wq_674 wq_581 wq_670 hy_X9_demandSet (by decide) ha hst (by omega) (by omega) hM
theorem sX9_may_2_k {ls : List Value} {x1 : Value} {k' n' : Nat} {a : Nat} (ha : S.1 a = some (.inl 9)) (hst : (st.map fun v => v.category).sum ≤ 8) (hM : am_M E d mX9_demandSet k' n' [.ref a, x1] S iv (am_K3 E (d + 1) mX9_may k n 2 ls st Q)) : am_R E (d + 1) mX9_may (k' + k) (n' + n) 2 ls (x1 :: .ref a :: st) S iv Q := am_cV (ci := 9) (M' := mX9_demandSet) (as := [x1]) dX9_may_2 rfl rfl rfl wq_672 wq_673 wq_674 wq_581 wq_670 hy_X9_demandSet (by decide) ha hst (by omega) (by omega) hM
theorem sX9_may_5 {a0 a1 : Value} (hv : am_rf a0 = true) (h : am_R E d mX9_may k n 6 [a0, a1] (a0 :: st) S iv Q) : am_R E d mX9_may k n 5 [a0, a1] st S iv Q := am_aload_n dX9_may_5 rfl rfl hv h
theorem sX9_may_6 {ls : List Value} {a b : Nat} (ha : S.1 a = some (.inl 9)) (hb : S.2.1 a 3 = some b) (h : am_R E d mX9_may k n 9 ls (.ref b :: st) S iv Q) : am_R E d mX9_may k n 6 ls (.ref a :: st) S iv Q := am_getR (ci := 9) dX9_may_6 rfl rfl (by decide) wq_561 uq_9 rfl ha hb h
theorem sX9_may_9 {a0 : Value} {x : Int32} (h : am_R E d mX9_may k n 10 [a0, .int x] (.int x :: st) S iv Q) : am_R E d mX9_may k n 9 [a0, .int x] st S iv Q := am_iload_n dX9_may_9 rfl rfl h
theorem sX9_may_10 {ls : List Value} {x1 : Value} {a : Nat} (ha : S.1 a = some (.inl 0)) (hst : (st.map fun v => v.category).sum ≤ 8) (hM : am_M E d mX0_canBe 0 0 [.ref a, x1] S iv (am_K3 E (d + 1) mX9_may k n 10 ls st Q)) : am_R E (d + 1) mX9_may k n 10 ls (x1 :: .ref a :: st) S iv Q := am_cV (ci := 0) (M' := mX0_canBe) (as := [x1]) dX9_may_10 rfl rfl rfl wq_675 wq_537 wq_538 wq_220 wq_534 hy_X0_canBe (by decide) ha hst (by omega) (by omega) hM
theorem sX9_may_10_k {ls : List Value} {x1 : Value} {k' n' : Nat} {a : Nat} (ha : S.1 a = some (.inl 0)) (hst : (st.map fun v => v.category).sum ≤ 8) (hM : am_M E d mX0_canBe k' n' [.ref a, x1] S iv (am_K3 E (d + 1) mX9_may k n 10 ls st Q)) : am_R E (d + 1) mX9_may (k' + k) (n' + n) 10 ls (x1 :: .ref a :: st) S iv Q := am_cV (ci := 0) (M' := mX0_canBe) (as := [x1]) dX9_may_10 rfl rfl rfl wq_675 wq_537 wq_538 wq_220 wq_534 hy_X0_canBe (by decide) ha hst (by omega) (by omega) hM
theorem sX9_may_13 {ls : List Value} {x : Int32} (hn : narrow .boolean (.int x) = .int x) (h : Q (.inl (some (.int x))) S iv) : am_R E d mX9_may k n 13 ls [.int x] S iv Q := am_zreturn dX9_may_13 rfl hn h
theorem dX9_broken_0 : decode cX9_broken 0 = .ok (.aload_n 0, 1) := by decide +kernel
theorem dX9_broken_1 : decode cX9_broken 1 = .ok (.iload_n 1, 1) := by decide +kernel
theorem dX9_broken_2 : decode cX9_broken 2 = .ok (.invokevirtual 200, 3) := by decide +kernel
theorem dX9_broken_5 : decode cX9_broken 5 = .ok (.aload_n 0, 1) := by decide +kernel
theorem dX9_broken_6 : decode cX9_broken 6 = .ok (.getfield 20, 3) := by decide +kernel
theorem dX9_broken_9 : decode cX9_broken 9 = .ok (.iload_n 1, 1) := by decide +kernel
theorem dX9_broken_10 : decode cX9_broken 10 = .ok (.invokevirtual 206, 3) := by decide +kernel
theorem dX9_broken_13 : decode cX9_broken 13 = .ok (.ireturn, 1) := by decide +kernel
theorem sX9_broken_0 {a0 a1 : Value} (hv : am_rf a0 = true) (h : am_R E d mX9_broken k n 1 [a0, a1] (a0 :: st) S iv Q) : am_R E d mX9_broken k n 0 [a0, a1] st S iv Q := am_aload_n dX9_broken_0 rfl rfl hv h
theorem sX9_broken_1 {a0 : Value} {x : Int32} (h : am_R E d mX9_broken k n 2 [a0, .int x] (.int x :: st) S iv Q) : am_R E d mX9_broken k n 1 [a0, .int x] st S iv Q := am_iload_n dX9_broken_1 rfl rfl h
theorem sX9_broken_2 {ls : List Value} {x1 : Value} {a : Nat} (ha : S.1 a = some (.inl 9)) (hst : (st.map fun v => v.category).sum ≤ 8) (hM : am_M E d mX9_demandSet 0 0 [.ref a, x1] S iv (am_K3 E (d + 1) mX9_broken k n 2 ls st Q)) : am_R E (d + 1) mX9_broken k n 2 ls (x1 :: .ref a :: st) S iv Q := am_cV (ci := 9) (M' := mX9_demandSet) (as := [x1]) dX9_broken_2 rfl rfl rfl wq_672 wq_673 wq_674 wq_581 wq_670 hy_X9_demandSet (by decide) ha hst (by omega) (by omega) hM
theorem sX9_broken_2_k {ls : List Value} {x1 : Value} {k' n' : Nat} {a : Nat} (ha : S.1 a = some (.inl 9)) (hst : (st.map fun v => v.category).sum ≤ 8) (hM : am_M E d mX9_demandSet k' n' [.ref a, x1] S iv (am_K3 E (d + 1) mX9_broken k n 2 ls st Q)) : am_R E (d + 1) mX9_broken (k' + k) (n' + n) 2 ls (x1 :: .ref a :: st) S iv Q := am_cV (ci := 9) (M' := mX9_demandSet) (as := [x1]) dX9_broken_2 rfl rfl rfl wq_672 wq_673 wq_674 wq_581 wq_670 hy_X9_demandSet (by decide) ha hst (by omega) (by omega) hM
theorem sX9_broken_5 {a0 a1 : Value} (hv : am_rf a0 = true) (h : am_R E d mX9_broken k n 6 [a0, a1] (a0 :: st) S iv Q) : am_R E d mX9_broken k n 5 [a0, a1] st S iv Q := am_aload_n dX9_broken_5 rfl rfl hv h
theorem sX9_broken_6 {ls : List Value} {a b : Nat} (ha : S.1 a = some (.inl 9)) (hb : S.2.1 a 3 = some b) (h : am_R E d mX9_broken k n 9 ls (.ref b :: st) S iv Q) : am_R E d mX9_broken k n 6 ls (.ref a :: st) S iv Q := am_getR (ci := 9) dX9_broken_6 rfl rfl (by decide) wq_561 uq_9 rfl ha hb h
theorem sX9_broken_9 {a0 : Value} {x : Int32} (h : am_R E d mX9_broken k n 10 [a0, .int x] (.int x :: st) S iv Q) : am_R E d mX9_broken k n 9 [a0, .int x] st S iv Q := am_iload_n dX9_broken_9 rfl rfl h
theorem sX9_broken_10 {ls : List Value} {x1 : Value} {a : Nat} (ha : S.1 a = some (.inl 0)) (hst : (st.map fun v => v.category).sum ≤ 8) (hM : am_M E d mX0_leastBroken 0 0 [.ref a, x1] S iv (am_K3 E (d + 1) mX9_broken k n 10 ls st Q)) : am_R E (d + 1) mX9_broken k n 10 ls (x1 :: .ref a :: st) S iv Q := am_cV (ci := 0) (M' := mX0_leastBroken) (as := [x1]) dX9_broken_10 rfl rfl rfl wq_676 wq_246 wq_247 wq_220 wq_243 hy_X0_leastBroken (by decide) ha hst (by omega) (by omega) hM
theorem sX9_broken_10_k {ls : List Value} {x1 : Value} {k' n' : Nat} {a : Nat} (ha : S.1 a = some (.inl 0)) (hst : (st.map fun v => v.category).sum ≤ 8) (hM : am_M E d mX0_leastBroken k' n' [.ref a, x1] S iv (am_K3 E (d + 1) mX9_broken k n 10 ls st Q)) : am_R E (d + 1) mX9_broken (k' + k) (n' + n) 10 ls (x1 :: .ref a :: st) S iv Q := am_cV (ci := 0) (M' := mX0_leastBroken) (as := [x1]) dX9_broken_10 rfl rfl rfl wq_676 wq_246 wq_247 wq_220 wq_243 hy_X0_leastBroken (by decide) ha hst (by omega) (by omega) hM
theorem sX9_broken_13 {ls : List Value} {x : Int32} (h : Q (.inl (some (.int x))) S iv) : am_R E d mX9_broken k n 13 ls [.int x] S iv Q := am_ireturn dX9_broken_13 rfl h
theorem dX9_demandSet_0 : decode cX9_demandSet 0 = .ok (.iload_n 1, 1) := by decide +kernel
theorem dX9_demandSet_1 : decode cX9_demandSet 1 = .ok (.aload_n 0, 1) := by decide +kernel
theorem dX9_demandSet_2 : decode cX9_demandSet 2 = .ok (.getfield 20, 3) := by decide +kernel
theorem dX9_demandSet_5 : decode cX9_demandSet 5 = .ok (.getfield 102, 3) := by decide +kernel
theorem dX9_demandSet_8 : decode cX9_demandSet 8 = .ok (.invokevirtual 209, 3) := by decide +kernel
theorem dX9_demandSet_11 : decode cX9_demandSet 11 = .ok (.iconst (-1), 1) := by decide +kernel
theorem dX9_demandSet_12 : decode cX9_demandSet 12 = .ok (.ixor, 1) := by decide +kernel
theorem dX9_demandSet_13 : decode cX9_demandSet 13 = .ok (.iand, 1) := by decide +kernel
theorem dX9_demandSet_14 : decode cX9_demandSet 14 = .ok (.ifCond .eq 13, 3) := by decide +kernel
theorem dX9_demandSet_17 : decode cX9_demandSet 17 = .ok (.new 58, 3) := by decide +kernel
theorem dX9_demandSet_20 : decode cX9_demandSet 20 = .ok (.dup, 1) := by decide +kernel
theorem dX9_demandSet_21 : decode cX9_demandSet 21 = .ok (.ldc 212, 2) := by decide +kernel
theorem dX9_demandSet_23 : decode cX9_demandSet 23 = .ok (.invokespecial 62, 3) := by decide +kernel
theorem dX9_demandSet_26 : decode cX9_demandSet 26 = .ok (.athrow, 1) := by decide +kernel
theorem dX9_demandSet_27 : decode cX9_demandSet 27 = .ok (.return_, 1) := by decide +kernel
theorem sX9_demandSet_0 {a0 : Value} {x : Int32} (h : am_R E d mX9_demandSet k n 1 [a0, .int x] (.int x :: st) S iv Q) : am_R E d mX9_demandSet k n 0 [a0, .int x] st S iv Q := am_iload_n dX9_demandSet_0 rfl rfl h
theorem sX9_demandSet_1 {a0 a1 : Value} (hv : am_rf a0 = true) (h : am_R E d mX9_demandSet k n 2 [a0, a1] (a0 :: st) S iv Q) : am_R E d mX9_demandSet k n 1 [a0, a1] st S iv Q := am_aload_n dX9_demandSet_1 rfl rfl hv h
theorem sX9_demandSet_2 {ls : List Value} {a b : Nat} (ha : S.1 a = some (.inl 9)) (hb : S.2.1 a 3 = some b) (h : am_R E d mX9_demandSet k n 5 ls (.ref b :: st) S iv Q) : am_R E d mX9_demandSet k n 2 ls (.ref a :: st) S iv Q := am_getR (ci := 9) dX9_demandSet_2 rfl rfl (by decide) wq_561 uq_9 rfl ha hb h
theorem sX9_demandSet_5 {ls : List Value} {a b : Nat} (ha : S.1 a = some (.inl 0)) (hb : S.2.1 a 7 = some b) (h : am_R E d mX9_demandSet k n 8 ls (.ref b :: st) S iv Q) : am_R E d mX9_demandSet k n 5 ls (.ref a :: st) S iv Q := am_getR (ci := 0) dX9_demandSet_5 rfl rfl (by decide) wq_625 uq_0 rfl ha hb h
theorem sX9_demandSet_8 {ls : List Value} {a : Nat} (ha : S.1 a = some (.inl 2)) (hst : (st.map fun v => v.category).sum ≤ 8) (hM : am_M E d mX2_all 0 0 [.ref a] S iv (am_K3 E (d + 1) mX9_demandSet k n 8 ls st Q)) : am_R E (d + 1) mX9_demandSet k n 8 ls (.ref a :: st) S iv Q := am_cV (ci := 2) (M' := mX2_all) (as := []) dX9_demandSet_8 rfl rfl rfl wq_677 wq_512 wq_513 wq_81 wq_509 hy_X2_all (by decide) ha hst (by omega) (by omega) hM
theorem sX9_demandSet_8_k {ls : List Value} {k' n' : Nat} {a : Nat} (ha : S.1 a = some (.inl 2)) (hst : (st.map fun v => v.category).sum ≤ 8) (hM : am_M E d mX2_all k' n' [.ref a] S iv (am_K3 E (d + 1) mX9_demandSet k n 8 ls st Q)) : am_R E (d + 1) mX9_demandSet (k' + k) (n' + n) 8 ls (.ref a :: st) S iv Q := am_cV (ci := 2) (M' := mX2_all) (as := []) dX9_demandSet_8 rfl rfl rfl wq_677 wq_512 wq_513 wq_81 wq_509 hy_X2_all (by decide) ha hst (by omega) (by omega) hM
theorem sX9_demandSet_11 {a0 a1 : Value} (h : am_R E d mX9_demandSet k n 12 [a0, a1] (.int (-1) :: st) S iv Q) : am_R E d mX9_demandSet k n 11 [a0, a1] st S iv Q := am_iconst dX9_demandSet_11 (by decide) h
theorem sX9_demandSet_12 {ls : List Value} {x y : Int32} (h : am_R E d mX9_demandSet k n 13 ls (.int (x ^^^ y) :: st) S iv Q) : am_R E d mX9_demandSet k n 12 ls (.int y :: .int x :: st) S iv Q := am_ixor dX9_demandSet_12 h
theorem sX9_demandSet_13 {ls : List Value} {x y : Int32} (h : am_R E d mX9_demandSet k n 14 ls (.int (x &&& y) :: st) S iv Q) : am_R E d mX9_demandSet k n 13 ls (.int y :: .int x :: st) S iv Q := am_iand dX9_demandSet_13 h
theorem sX9_demandSet_14 {ls : List Value} {x : Int32} (kt : x = 0 → am_R E d mX9_demandSet k n 27 ls st S iv Q) (kf : ¬ x = 0 → am_R E d mX9_demandSet k n 17 ls st S iv Q) : am_R E d mX9_demandSet k n 14 ls (.int x :: st) S iv Q := am_if_eq dX9_demandSet_14 (by decide) kt kf
theorem sX9_demandSet_17 {ls : List Value} (hst : (st.map fun v => v.category).sum ≤ 8) (h : ∀ nx, S.2.2.2 ≤ nx → Q (.inr "java/lang/IllegalArgumentException") (S.1, S.2.1, S.2.2.1, nx) iv) : am_R E (d + 7) mX9_demandSet (k + 1) (n + 6) 17 ls st S iv Q := am_throw (X := "java/lang/IllegalArgumentException") (tx := "bits of drawers that there aren't") (j := 30) dX9_demandSet_17 dX9_demandSet_20 dX9_demandSet_21 dX9_demandSet_23 dX9_demandSet_26 rfl (by decide) wq_586 wq_587 wq_588 wq_588_g (List.mem_of_getElem? (i := 30) rfl) (by omega) hst (by omega) (by omega) h
theorem sX9_demandSet_20 {ls : List Value} {x : Value} (hv : x.category = 1) (h : am_R E d mX9_demandSet k n 21 ls (x :: x :: st) S iv Q) : am_R E d mX9_demandSet k n 20 ls (x :: st) S iv Q := am_dup dX9_demandSet_20 hv h
theorem sX9_demandSet_21 {a0 a1 : Value} (h : am_R E d mX9_demandSet k n 23 [a0, a1] (.retAddr 30 :: st) S iv Q) : am_R E d mX9_demandSet k n 21 [a0, a1] st S iv Q := am_ldcS (tx := "bits of drawers that there aren't") dX9_demandSet_21 (List.mem_of_getElem? (i := 30) rfl) h
theorem sX9_demandSet_27 {ls : List Value} (h : Q (.inl none) S iv) : am_R E d mX9_demandSet k n 27 ls [] S iv Q := am_return dX9_demandSet_27 rfl h
theorem dX9_move_0 : decode cX9_move 0 = .ok (.aload_n 0, 1) := by decide +kernel
theorem dX9_move_1 : decode cX9_move 1 = .ok (.iload_n 1, 1) := by decide +kernel
theorem dX9_move_2 : decode cX9_move 2 = .ok (.invokevirtual 214, 3) := by decide +kernel
theorem dX9_move_5 : decode cX9_move 5 = .ok (.istore_n 2, 1) := by decide +kernel
theorem dX9_move_6 : decode cX9_move 6 = .ok (.iload_n 2, 1) := by decide +kernel
theorem dX9_move_7 : decode cX9_move 7 = .ok (.ifCond .ne 34, 3) := by decide +kernel
theorem dX9_move_10 : decode cX9_move 10 = .ok (.aload_n 0, 1) := by decide +kernel
theorem dX9_move_11 : decode cX9_move 11 = .ok (.getfield 30, 3) := by decide +kernel
theorem dX9_move_14 : decode cX9_move 14 = .ok (.getfield 128, 3) := by decide +kernel
theorem dX9_move_17 : decode cX9_move 17 = .ok (.iconst 1, 1) := by decide +kernel
theorem dX9_move_18 : decode cX9_move 18 = .ok (.iload_n 1, 1) := by decide +kernel
theorem dX9_move_19 : decode cX9_move 19 = .ok (.ishl, 1) := by decide +kernel
theorem dX9_move_20 : decode cX9_move 20 = .ok (.ixor, 1) := by decide +kernel
theorem dX9_move_21 : decode cX9_move 21 = .ok (.istore_n 3, 1) := by decide +kernel
theorem dX9_move_22 : decode cX9_move 22 = .ok (.aload_n 0, 1) := by decide +kernel
theorem dX9_move_23 : decode cX9_move 23 = .ok (.getfield 30, 3) := by decide +kernel
theorem dX9_move_26 : decode cX9_move 26 = .ok (.iload_n 1, 1) := by decide +kernel
theorem dX9_move_27 : decode cX9_move 27 = .ok (.aload_n 0, 1) := by decide +kernel
theorem dX9_move_28 : decode cX9_move 28 = .ok (.getfield 20, 3) := by decide +kernel
theorem dX9_move_31 : decode cX9_move 31 = .ok (.iload_n 3, 1) := by decide +kernel
theorem dX9_move_32 : decode cX9_move 32 = .ok (.invokevirtual 217, 3) := by decide +kernel
theorem dX9_move_35 : decode cX9_move 35 = .ok (.invokevirtual 220, 3) := by decide +kernel
theorem dX9_move_38 : decode cX9_move 38 = .ok (.goto 16, 3) := by decide +kernel
theorem dX9_move_41 : decode cX9_move 41 = .ok (.aload_n 0, 1) := by decide +kernel
theorem dX9_move_42 : decode cX9_move 42 = .ok (.getfield 30, 3) := by decide +kernel
theorem dX9_move_45 : decode cX9_move 45 = .ok (.dup, 1) := by decide +kernel
theorem dX9_move_46 : decode cX9_move 46 = .ok (.getfield 140, 3) := by decide +kernel
theorem dX9_move_49 : decode cX9_move 49 = .ok (.iconst 1, 1) := by decide +kernel
theorem dX9_move_50 : decode cX9_move 50 = .ok (.iadd, 1) := by decide +kernel
theorem dX9_move_51 : decode cX9_move 51 = .ok (.putfield 140, 3) := by decide +kernel
theorem dX9_move_54 : decode cX9_move 54 = .ok (.iload_n 2, 1) := by decide +kernel
theorem dX9_move_55 : decode cX9_move 55 = .ok (.ireturn, 1) := by decide +kernel
theorem sX9_move_0 {a0 a1 a2 a3 : Value} (hv : am_rf a0 = true) (h : am_R E d mX9_move k n 1 [a0, a1, a2, a3] (a0 :: st) S iv Q) : am_R E d mX9_move k n 0 [a0, a1, a2, a3] st S iv Q := am_aload_n dX9_move_0 rfl rfl hv h
theorem sX9_move_1 {a0 a2 a3 : Value} {x : Int32} (h : am_R E d mX9_move k n 2 [a0, .int x, a2, a3] (.int x :: st) S iv Q) : am_R E d mX9_move k n 1 [a0, .int x, a2, a3] st S iv Q := am_iload_n dX9_move_1 rfl rfl h
theorem sX9_move_2 {ls : List Value} {x1 : Value} {a : Nat} (ha : S.1 a = some (.inl 9)) (hst : (st.map fun v => v.category).sum ≤ 8) (hM : am_M E d mX9_troubleOf 0 0 [.ref a, x1] S iv (am_K3 E (d + 1) mX9_move k n 2 ls st Q)) : am_R E (d + 1) mX9_move k n 2 ls (x1 :: .ref a :: st) S iv Q := am_cV (ci := 9) (M' := mX9_troubleOf) (as := [x1]) dX9_move_2 rfl rfl rfl wq_680 wq_681 wq_682 wq_581 wq_678 hy_X9_troubleOf (by decide) ha hst (by omega) (by omega) hM
theorem sX9_move_2_k {ls : List Value} {x1 : Value} {k' n' : Nat} {a : Nat} (ha : S.1 a = some (.inl 9)) (hst : (st.map fun v => v.category).sum ≤ 8) (hM : am_M E d mX9_troubleOf k' n' [.ref a, x1] S iv (am_K3 E (d + 1) mX9_move k n 2 ls st Q)) : am_R E (d + 1) mX9_move (k' + k) (n' + n) 2 ls (x1 :: .ref a :: st) S iv Q := am_cV (ci := 9) (M' := mX9_troubleOf) (as := [x1]) dX9_move_2 rfl rfl rfl wq_680 wq_681 wq_682 wq_581 wq_678 hy_X9_troubleOf (by decide) ha hst (by omega) (by omega) hM
theorem sX9_move_5 {a0 a1 a2 a3 : Value} {x : Int32} (h : am_R E d mX9_move k n 6 [a0, a1, .int x, a3] st S iv Q) : am_R E d mX9_move k n 5 [a0, a1, a2, a3] (.int x :: st) S iv Q := am_istore_n dX9_move_5 rfl (by decide) h
theorem sX9_move_6 {a0 a1 a3 : Value} {x : Int32} (h : am_R E d mX9_move k n 7 [a0, a1, .int x, a3] (.int x :: st) S iv Q) : am_R E d mX9_move k n 6 [a0, a1, .int x, a3] st S iv Q := am_iload_n dX9_move_6 rfl rfl h
theorem sX9_move_7 {ls : List Value} {x : Int32} (kt : ¬ x = 0 → am_R E d mX9_move k n 41 ls st S iv Q) (kf : x = 0 → am_R E d mX9_move k n 10 ls st S iv Q) : am_R E d mX9_move k n 7 ls (.int x :: st) S iv Q := am_if_ne dX9_move_7 (by decide) kt kf
theorem sX9_move_10 {a0 a1 a2 a3 : Value} (hv : am_rf a0 = true) (h : am_R E d mX9_move k n 11 [a0, a1, a2, a3] (a0 :: st) S iv Q) : am_R E d mX9_move k n 10 [a0, a1, a2, a3] st S iv Q := am_aload_n dX9_move_10 rfl rfl hv h
theorem sX9_move_11 {ls : List Value} {a b : Nat} (ha : S.1 a = some (.inl 9)) (hb : S.2.1 a 5 = some b) (h : am_R E d mX9_move k n 14 ls (.ref b :: st) S iv Q) : am_R E d mX9_move k n 11 ls (.ref a :: st) S iv Q := am_getR (ci := 9) dX9_move_11 rfl rfl (by decide) wq_569 uq_9 rfl ha hb h
theorem sX9_move_14 {ls : List Value} {a : Nat} (ha : S.1 a = some (.inl 7)) (h : am_R E d mX9_move k n 17 ls (.int (iv a 0) :: st) S iv Q) : am_R E d mX9_move k n 14 ls (.ref a :: st) S iv Q := am_getI (ci := 7) dX9_move_14 rfl rfl (by decide) wq_632 uq_7 rfl ha h
theorem sX9_move_17 {a0 a1 a2 a3 : Value} (h : am_R E d mX9_move k n 18 [a0, a1, a2, a3] (.int 1 :: st) S iv Q) : am_R E d mX9_move k n 17 [a0, a1, a2, a3] st S iv Q := am_iconst dX9_move_17 (by decide) h
theorem sX9_move_18 {a0 a2 a3 : Value} {x : Int32} (h : am_R E d mX9_move k n 19 [a0, .int x, a2, a3] (.int x :: st) S iv Q) : am_R E d mX9_move k n 18 [a0, .int x, a2, a3] st S iv Q := am_iload_n dX9_move_18 rfl rfl h
theorem sX9_move_19 {ls : List Value} {x y : Int32} (h : am_R E d mX9_move k n 20 ls (.int (x <<< (y &&& 31)) :: st) S iv Q) : am_R E d mX9_move k n 19 ls (.int y :: .int x :: st) S iv Q := am_ishl dX9_move_19 h
theorem sX9_move_20 {ls : List Value} {x y : Int32} (h : am_R E d mX9_move k n 21 ls (.int (x ^^^ y) :: st) S iv Q) : am_R E d mX9_move k n 20 ls (.int y :: .int x :: st) S iv Q := am_ixor dX9_move_20 h
theorem sX9_move_21 {a0 a1 a2 a3 : Value} {x : Int32} (h : am_R E d mX9_move k n 22 [a0, a1, a2, .int x] st S iv Q) : am_R E d mX9_move k n 21 [a0, a1, a2, a3] (.int x :: st) S iv Q := am_istore_n dX9_move_21 rfl (by decide) h
theorem sX9_move_22 {a0 a1 a2 a3 : Value} (hv : am_rf a0 = true) (h : am_R E d mX9_move k n 23 [a0, a1, a2, a3] (a0 :: st) S iv Q) : am_R E d mX9_move k n 22 [a0, a1, a2, a3] st S iv Q := am_aload_n dX9_move_22 rfl rfl hv h
theorem sX9_move_23 {ls : List Value} {a b : Nat} (ha : S.1 a = some (.inl 9)) (hb : S.2.1 a 5 = some b) (h : am_R E d mX9_move k n 26 ls (.ref b :: st) S iv Q) : am_R E d mX9_move k n 23 ls (.ref a :: st) S iv Q := am_getR (ci := 9) dX9_move_23 rfl rfl (by decide) wq_569 uq_9 rfl ha hb h
theorem sX9_move_26 {a0 a2 a3 : Value} {x : Int32} (h : am_R E d mX9_move k n 27 [a0, .int x, a2, a3] (.int x :: st) S iv Q) : am_R E d mX9_move k n 26 [a0, .int x, a2, a3] st S iv Q := am_iload_n dX9_move_26 rfl rfl h
theorem sX9_move_27 {a0 a1 a2 a3 : Value} (hv : am_rf a0 = true) (h : am_R E d mX9_move k n 28 [a0, a1, a2, a3] (a0 :: st) S iv Q) : am_R E d mX9_move k n 27 [a0, a1, a2, a3] st S iv Q := am_aload_n dX9_move_27 rfl rfl hv h
theorem sX9_move_28 {ls : List Value} {a b : Nat} (ha : S.1 a = some (.inl 9)) (hb : S.2.1 a 3 = some b) (h : am_R E d mX9_move k n 31 ls (.ref b :: st) S iv Q) : am_R E d mX9_move k n 28 ls (.ref a :: st) S iv Q := am_getR (ci := 9) dX9_move_28 rfl rfl (by decide) wq_561 uq_9 rfl ha hb h
theorem sX9_move_31 {a0 a1 a2 : Value} {x : Int32} (h : am_R E d mX9_move k n 32 [a0, a1, a2, .int x] (.int x :: st) S iv Q) : am_R E d mX9_move k n 31 [a0, a1, a2, .int x] st S iv Q := am_iload_n dX9_move_31 rfl rfl h
theorem sX9_move_32 {ls : List Value} {x1 : Value} {a : Nat} (ha : S.1 a = some (.inl 0)) (hst : (st.map fun v => v.category).sum ≤ 8) (hM : am_M E d mX0_fedBy 0 0 [.ref a, x1] S iv (am_K3 E (d + 1) mX9_move k n 32 ls st Q)) : am_R E (d + 1) mX9_move k n 32 ls (x1 :: .ref a :: st) S iv Q := am_cV (ci := 0) (M' := mX0_fedBy) (as := [x1]) dX9_move_32 rfl rfl rfl wq_683 wq_542 wq_543 wq_220 wq_539 hy_X0_fedBy (by decide) ha hst (by omega) (by omega) hM
theorem sX9_move_32_k {ls : List Value} {x1 : Value} {k' n' : Nat} {a : Nat} (ha : S.1 a = some (.inl 0)) (hst : (st.map fun v => v.category).sum ≤ 8) (hM : am_M E d mX0_fedBy k' n' [.ref a, x1] S iv (am_K3 E (d + 1) mX9_move k n 32 ls st Q)) : am_R E (d + 1) mX9_move (k' + k) (n' + n) 32 ls (x1 :: .ref a :: st) S iv Q := am_cV (ci := 0) (M' := mX0_fedBy) (as := [x1]) dX9_move_32 rfl rfl rfl wq_683 wq_542 wq_543 wq_220 wq_539 hy_X0_fedBy (by decide) ha hst (by omega) (by omega) hM
theorem sX9_move_35 {ls : List Value} {x1 x2 : Value} {a : Nat} (ha : S.1 a = some (.inl 7)) (hst : (st.map fun v => v.category).sum ≤ 8) (hM : am_M E d mX7_doMove 0 0 [.ref a, x1, x2] S iv (am_K3 E (d + 1) mX9_move k n 35 ls st Q)) : am_R E (d + 1) mX9_move k n 35 ls (x2 :: x1 :: .ref a :: st) S iv Q := am_cV (ci := 7) (M' := mX7_doMove) (as := [x1, x2]) dX9_move_35 rfl rfl rfl wq_686 wq_687 wq_688 wq_565 wq_684 hy_X7_doMove (by decide) ha hst (by omega) (by omega) hM
theorem sX9_move_35_k {ls : List Value} {x1 x2 : Value} {k' n' : Nat} {a : Nat} (ha : S.1 a = some (.inl 7)) (hst : (st.map fun v => v.category).sum ≤ 8) (hM : am_M E d mX7_doMove k' n' [.ref a, x1, x2] S iv (am_K3 E (d + 1) mX9_move k n 35 ls st Q)) : am_R E (d + 1) mX9_move (k' + k) (n' + n) 35 ls (x2 :: x1 :: .ref a :: st) S iv Q := am_cV (ci := 7) (M' := mX7_doMove) (as := [x1, x2]) dX9_move_35 rfl rfl rfl wq_686 wq_687 wq_688 wq_565 wq_684 hy_X7_doMove (by decide) ha hst (by omega) (by omega) hM
theorem sX9_move_38 {ls : List Value} (h : am_R E d mX9_move k n 54 ls st S iv Q) : am_R E d mX9_move k n 38 ls st S iv Q := am_goto dX9_move_38 (by decide) h
theorem sX9_move_41 {a0 a1 a2 a3 : Value} (hv : am_rf a0 = true) (h : am_R E d mX9_move k n 42 [a0, a1, a2, a3] (a0 :: st) S iv Q) : am_R E d mX9_move k n 41 [a0, a1, a2, a3] st S iv Q := am_aload_n dX9_move_41 rfl rfl hv h
theorem sX9_move_42 {ls : List Value} {a b : Nat} (ha : S.1 a = some (.inl 9)) (hb : S.2.1 a 5 = some b) (h : am_R E d mX9_move k n 45 ls (.ref b :: st) S iv Q) : am_R E d mX9_move k n 42 ls (.ref a :: st) S iv Q := am_getR (ci := 9) dX9_move_42 rfl rfl (by decide) wq_569 uq_9 rfl ha hb h
theorem sX9_move_45 {ls : List Value} {x : Value} (hv : x.category = 1) (h : am_R E d mX9_move k n 46 ls (x :: x :: st) S iv Q) : am_R E d mX9_move k n 45 ls (x :: st) S iv Q := am_dup dX9_move_45 hv h
theorem sX9_move_46 {ls : List Value} {a : Nat} (ha : S.1 a = some (.inl 7)) (h : am_R E d mX9_move k n 49 ls (.int (iv a 5) :: st) S iv Q) : am_R E d mX9_move k n 46 ls (.ref a :: st) S iv Q := am_getI (ci := 7) dX9_move_46 rfl rfl (by decide) wq_636 uq_7 rfl ha h
theorem sX9_move_49 {a0 a1 a2 a3 : Value} (h : am_R E d mX9_move k n 50 [a0, a1, a2, a3] (.int 1 :: st) S iv Q) : am_R E d mX9_move k n 49 [a0, a1, a2, a3] st S iv Q := am_iconst dX9_move_49 (by decide) h
theorem sX9_move_50 {ls : List Value} {x y : Int32} (h : am_R E d mX9_move k n 51 ls (.int (x + y) :: st) S iv Q) : am_R E d mX9_move k n 50 ls (.int y :: .int x :: st) S iv Q := am_iadd dX9_move_50 h
theorem sX9_move_51 {ls : List Value} {a : Nat} {x : Int32} (ha : S.1 a = some (.inl 7)) (h : am_R E d mX9_move k n 54 ls st S (am_w iv a 5 x) Q) : am_R E d mX9_move k n 51 ls (.int x :: .ref a :: st) S iv Q := am_putI (ci := 7) dX9_move_51 rfl rfl (by decide) wq_636 uq_7 tyX7_ok nmX7 (Or.inl rfl) rfl ha h
theorem sX9_move_54 {a0 a1 a3 : Value} {x : Int32} (h : am_R E d mX9_move k n 55 [a0, a1, .int x, a3] (.int x :: st) S iv Q) : am_R E d mX9_move k n 54 [a0, a1, .int x, a3] st S iv Q := am_iload_n dX9_move_54 rfl rfl h
theorem sX9_move_55 {ls : List Value} {x : Int32} (h : Q (.inl (some (.int x))) S iv) : am_R E d mX9_move k n 55 ls [.int x] S iv Q := am_ireturn dX9_move_55 rfl h
theorem dX9_troubleOf_0 : decode cX9_troubleOf 0 = .ok (.aload_n 0, 1) := by decide +kernel
theorem dX9_troubleOf_1 : decode cX9_troubleOf 1 = .ok (.iload_n 1, 1) := by decide +kernel
theorem dX9_troubleOf_2 : decode cX9_troubleOf 2 = .ok (.invokevirtual 176, 3) := by decide +kernel
theorem dX9_troubleOf_5 : decode cX9_troubleOf 5 = .ok (.ifCond .ne 5, 3) := by decide +kernel
theorem dX9_troubleOf_8 : decode cX9_troubleOf 8 = .ok (.iconst 1, 1) := by decide +kernel
theorem dX9_troubleOf_9 : decode cX9_troubleOf 9 = .ok (.ireturn, 1) := by decide +kernel
theorem dX9_troubleOf_10 : decode cX9_troubleOf 10 = .ok (.iconst 1, 1) := by decide +kernel
theorem dX9_troubleOf_11 : decode cX9_troubleOf 11 = .ok (.iload_n 1, 1) := by decide +kernel
theorem dX9_troubleOf_12 : decode cX9_troubleOf 12 = .ok (.ishl, 1) := by decide +kernel
theorem dX9_troubleOf_13 : decode cX9_troubleOf 13 = .ok (.istore_n 2, 1) := by decide +kernel
theorem dX9_troubleOf_14 : decode cX9_troubleOf 14 = .ok (.aload_n 0, 1) := by decide +kernel
theorem dX9_troubleOf_15 : decode cX9_troubleOf 15 = .ok (.getfield 30, 3) := by decide +kernel
theorem dX9_troubleOf_18 : decode cX9_troubleOf 18 = .ok (.getfield 137, 3) := by decide +kernel
theorem dX9_troubleOf_21 : decode cX9_troubleOf 21 = .ok (.iload_n 2, 1) := by decide +kernel
theorem dX9_troubleOf_22 : decode cX9_troubleOf 22 = .ok (.iand, 1) := by decide +kernel
theorem dX9_troubleOf_23 : decode cX9_troubleOf 23 = .ok (.ifCond .eq 5, 3) := by decide +kernel
theorem dX9_troubleOf_26 : decode cX9_troubleOf 26 = .ok (.iconst 2, 1) := by decide +kernel
theorem dX9_troubleOf_27 : decode cX9_troubleOf 27 = .ok (.ireturn, 1) := by decide +kernel
theorem dX9_troubleOf_28 : decode cX9_troubleOf 28 = .ok (.aload_n 0, 1) := by decide +kernel
theorem dX9_troubleOf_29 : decode cX9_troubleOf 29 = .ok (.getfield 20, 3) := by decide +kernel
theorem dX9_troubleOf_32 : decode cX9_troubleOf 32 = .ok (.aload_n 0, 1) := by decide +kernel
theorem dX9_troubleOf_33 : decode cX9_troubleOf 33 = .ok (.getfield 30, 3) := by decide +kernel
theorem dX9_troubleOf_36 : decode cX9_troubleOf 36 = .ok (.getfield 128, 3) := by decide +kernel
theorem dX9_troubleOf_39 : decode cX9_troubleOf 39 = .ok (.invokevirtual 167, 3) := by decide +kernel
theorem dX9_troubleOf_42 : decode cX9_troubleOf 42 = .ok (.iload_n 2, 1) := by decide +kernel
theorem dX9_troubleOf_43 : decode cX9_troubleOf 43 = .ok (.iand, 1) := by decide +kernel
theorem dX9_troubleOf_44 : decode cX9_troubleOf 44 = .ok (.ifCond .ne 5, 3) := by decide +kernel
theorem dX9_troubleOf_47 : decode cX9_troubleOf 47 = .ok (.iconst 3, 1) := by decide +kernel
theorem dX9_troubleOf_48 : decode cX9_troubleOf 48 = .ok (.ireturn, 1) := by decide +kernel
theorem dX9_troubleOf_49 : decode cX9_troubleOf 49 = .ok (.aload_n 0, 1) := by decide +kernel
theorem dX9_troubleOf_50 : decode cX9_troubleOf 50 = .ok (.getfield 20, 3) := by decide +kernel
theorem dX9_troubleOf_53 : decode cX9_troubleOf 53 = .ok (.aload_n 0, 1) := by decide +kernel
theorem dX9_troubleOf_54 : decode cX9_troubleOf 54 = .ok (.getfield 30, 3) := by decide +kernel
theorem dX9_troubleOf_57 : decode cX9_troubleOf 57 = .ok (.getfield 128, 3) := by decide +kernel
theorem dX9_troubleOf_60 : decode cX9_troubleOf 60 = .ok (.iload_n 2, 1) := by decide +kernel
theorem dX9_troubleOf_61 : decode cX9_troubleOf 61 = .ok (.ixor, 1) := by decide +kernel
theorem dX9_troubleOf_62 : decode cX9_troubleOf 62 = .ok (.invokevirtual 203, 3) := by decide +kernel
theorem dX9_troubleOf_65 : decode cX9_troubleOf 65 = .ok (.ifCond .ne 5, 3) := by decide +kernel
theorem dX9_troubleOf_68 : decode cX9_troubleOf 68 = .ok (.iconst 4, 1) := by decide +kernel
theorem dX9_troubleOf_69 : decode cX9_troubleOf 69 = .ok (.ireturn, 1) := by decide +kernel
theorem dX9_troubleOf_70 : decode cX9_troubleOf 70 = .ok (.aload_n 0, 1) := by decide +kernel
theorem dX9_troubleOf_71 : decode cX9_troubleOf 71 = .ok (.getfield 30, 3) := by decide +kernel
theorem dX9_troubleOf_74 : decode cX9_troubleOf 74 = .ok (.getfield 131, 3) := by decide +kernel
theorem dX9_troubleOf_77 : decode cX9_troubleOf 77 = .ok (.bipush 100, 2) := by decide +kernel
theorem dX9_troubleOf_79 : decode cX9_troubleOf 79 = .ok (.if_icmp .lt 7, 3) := by decide +kernel
theorem dX9_troubleOf_82 : decode cX9_troubleOf 82 = .ok (.iconst 5, 1) := by decide +kernel
theorem dX9_troubleOf_83 : decode cX9_troubleOf 83 = .ok (.goto 4, 3) := by decide +kernel
theorem dX9_troubleOf_86 : decode cX9_troubleOf 86 = .ok (.iconst 0, 1) := by decide +kernel
theorem dX9_troubleOf_87 : decode cX9_troubleOf 87 = .ok (.ireturn, 1) := by decide +kernel
theorem sX9_troubleOf_0 {a0 a1 a2 : Value} (hv : am_rf a0 = true) (h : am_R E d mX9_troubleOf k n 1 [a0, a1, a2] (a0 :: st) S iv Q) : am_R E d mX9_troubleOf k n 0 [a0, a1, a2] st S iv Q := am_aload_n dX9_troubleOf_0 rfl rfl hv h
theorem sX9_troubleOf_1 {a0 a2 : Value} {x : Int32} (h : am_R E d mX9_troubleOf k n 2 [a0, .int x, a2] (.int x :: st) S iv Q) : am_R E d mX9_troubleOf k n 1 [a0, .int x, a2] st S iv Q := am_iload_n dX9_troubleOf_1 rfl rfl h
theorem sX9_troubleOf_2 {ls : List Value} {x1 : Value} {a : Nat} (ha : S.1 a = some (.inl 9)) (hst : (st.map fun v => v.category).sum ≤ 8) (hM : am_M E d mX9_isDrawer 0 0 [.ref a, x1] S iv (am_K3 E (d + 1) mX9_troubleOf k n 2 ls st Q)) : am_R E (d + 1) mX9_troubleOf k n 2 ls (x1 :: .ref a :: st) S iv Q := am_cV (ci := 9) (M' := mX9_isDrawer) (as := [x1]) dX9_troubleOf_2 rfl rfl rfl wq_658 wq_659 wq_660 wq_581 wq_656 hy_X9_isDrawer (by decide) ha hst (by omega) (by omega) hM
theorem sX9_troubleOf_2_k {ls : List Value} {x1 : Value} {k' n' : Nat} {a : Nat} (ha : S.1 a = some (.inl 9)) (hst : (st.map fun v => v.category).sum ≤ 8) (hM : am_M E d mX9_isDrawer k' n' [.ref a, x1] S iv (am_K3 E (d + 1) mX9_troubleOf k n 2 ls st Q)) : am_R E (d + 1) mX9_troubleOf (k' + k) (n' + n) 2 ls (x1 :: .ref a :: st) S iv Q := am_cV (ci := 9) (M' := mX9_isDrawer) (as := [x1]) dX9_troubleOf_2 rfl rfl rfl wq_658 wq_659 wq_660 wq_581 wq_656 hy_X9_isDrawer (by decide) ha hst (by omega) (by omega) hM
theorem sX9_troubleOf_5 {ls : List Value} {x : Int32} (kt : ¬ x = 0 → am_R E d mX9_troubleOf k n 10 ls st S iv Q) (kf : x = 0 → am_R E d mX9_troubleOf k n 8 ls st S iv Q) : am_R E d mX9_troubleOf k n 5 ls (.int x :: st) S iv Q := am_if_ne dX9_troubleOf_5 (by decide) kt kf
theorem sX9_troubleOf_8 {a0 a1 a2 : Value} (h : am_R E d mX9_troubleOf k n 9 [a0, a1, a2] (.int 1 :: st) S iv Q) : am_R E d mX9_troubleOf k n 8 [a0, a1, a2] st S iv Q := am_iconst dX9_troubleOf_8 (by decide) h
theorem sX9_troubleOf_9 {ls : List Value} {x : Int32} (h : Q (.inl (some (.int x))) S iv) : am_R E d mX9_troubleOf k n 9 ls [.int x] S iv Q := am_ireturn dX9_troubleOf_9 rfl h
theorem sX9_troubleOf_10 {a0 a1 a2 : Value} (h : am_R E d mX9_troubleOf k n 11 [a0, a1, a2] (.int 1 :: st) S iv Q) : am_R E d mX9_troubleOf k n 10 [a0, a1, a2] st S iv Q := am_iconst dX9_troubleOf_10 (by decide) h
theorem sX9_troubleOf_11 {a0 a2 : Value} {x : Int32} (h : am_R E d mX9_troubleOf k n 12 [a0, .int x, a2] (.int x :: st) S iv Q) : am_R E d mX9_troubleOf k n 11 [a0, .int x, a2] st S iv Q := am_iload_n dX9_troubleOf_11 rfl rfl h
theorem sX9_troubleOf_12 {ls : List Value} {x y : Int32} (h : am_R E d mX9_troubleOf k n 13 ls (.int (x <<< (y &&& 31)) :: st) S iv Q) : am_R E d mX9_troubleOf k n 12 ls (.int y :: .int x :: st) S iv Q := am_ishl dX9_troubleOf_12 h
theorem sX9_troubleOf_13 {a0 a1 a2 : Value} {x : Int32} (h : am_R E d mX9_troubleOf k n 14 [a0, a1, .int x] st S iv Q) : am_R E d mX9_troubleOf k n 13 [a0, a1, a2] (.int x :: st) S iv Q := am_istore_n dX9_troubleOf_13 rfl (by decide) h
theorem sX9_troubleOf_14 {a0 a1 a2 : Value} (hv : am_rf a0 = true) (h : am_R E d mX9_troubleOf k n 15 [a0, a1, a2] (a0 :: st) S iv Q) : am_R E d mX9_troubleOf k n 14 [a0, a1, a2] st S iv Q := am_aload_n dX9_troubleOf_14 rfl rfl hv h
theorem sX9_troubleOf_15 {ls : List Value} {a b : Nat} (ha : S.1 a = some (.inl 9)) (hb : S.2.1 a 5 = some b) (h : am_R E d mX9_troubleOf k n 18 ls (.ref b :: st) S iv Q) : am_R E d mX9_troubleOf k n 15 ls (.ref a :: st) S iv Q := am_getR (ci := 9) dX9_troubleOf_15 rfl rfl (by decide) wq_569 uq_9 rfl ha hb h
theorem sX9_troubleOf_18 {ls : List Value} {a : Nat} (ha : S.1 a = some (.inl 7)) (h : am_R E d mX9_troubleOf k n 21 ls (.int (iv a 1) :: st) S iv Q) : am_R E d mX9_troubleOf k n 18 ls (.ref a :: st) S iv Q := am_getI (ci := 7) dX9_troubleOf_18 rfl rfl (by decide) wq_635 uq_7 rfl ha h
theorem sX9_troubleOf_21 {a0 a1 : Value} {x : Int32} (h : am_R E d mX9_troubleOf k n 22 [a0, a1, .int x] (.int x :: st) S iv Q) : am_R E d mX9_troubleOf k n 21 [a0, a1, .int x] st S iv Q := am_iload_n dX9_troubleOf_21 rfl rfl h
theorem sX9_troubleOf_22 {ls : List Value} {x y : Int32} (h : am_R E d mX9_troubleOf k n 23 ls (.int (x &&& y) :: st) S iv Q) : am_R E d mX9_troubleOf k n 22 ls (.int y :: .int x :: st) S iv Q := am_iand dX9_troubleOf_22 h
theorem sX9_troubleOf_23 {ls : List Value} {x : Int32} (kt : x = 0 → am_R E d mX9_troubleOf k n 28 ls st S iv Q) (kf : ¬ x = 0 → am_R E d mX9_troubleOf k n 26 ls st S iv Q) : am_R E d mX9_troubleOf k n 23 ls (.int x :: st) S iv Q := am_if_eq dX9_troubleOf_23 (by decide) kt kf
theorem sX9_troubleOf_26 {a0 a1 a2 : Value} (h : am_R E d mX9_troubleOf k n 27 [a0, a1, a2] (.int 2 :: st) S iv Q) : am_R E d mX9_troubleOf k n 26 [a0, a1, a2] st S iv Q := am_iconst dX9_troubleOf_26 (by decide) h
theorem sX9_troubleOf_27 {ls : List Value} {x : Int32} (h : Q (.inl (some (.int x))) S iv) : am_R E d mX9_troubleOf k n 27 ls [.int x] S iv Q := am_ireturn dX9_troubleOf_27 rfl h
theorem sX9_troubleOf_28 {a0 a1 a2 : Value} (hv : am_rf a0 = true) (h : am_R E d mX9_troubleOf k n 29 [a0, a1, a2] (a0 :: st) S iv Q) : am_R E d mX9_troubleOf k n 28 [a0, a1, a2] st S iv Q := am_aload_n dX9_troubleOf_28 rfl rfl hv h
theorem sX9_troubleOf_29 {ls : List Value} {a b : Nat} (ha : S.1 a = some (.inl 9)) (hb : S.2.1 a 3 = some b) (h : am_R E d mX9_troubleOf k n 32 ls (.ref b :: st) S iv Q) : am_R E d mX9_troubleOf k n 29 ls (.ref a :: st) S iv Q := am_getR (ci := 9) dX9_troubleOf_29 rfl rfl (by decide) wq_561 uq_9 rfl ha hb h
theorem sX9_troubleOf_32 {a0 a1 a2 : Value} (hv : am_rf a0 = true) (h : am_R E d mX9_troubleOf k n 33 [a0, a1, a2] (a0 :: st) S iv Q) : am_R E d mX9_troubleOf k n 32 [a0, a1, a2] st S iv Q := am_aload_n dX9_troubleOf_32 rfl rfl hv h
theorem sX9_troubleOf_33 {ls : List Value} {a b : Nat} (ha : S.1 a = some (.inl 9)) (hb : S.2.1 a 5 = some b) (h : am_R E d mX9_troubleOf k n 36 ls (.ref b :: st) S iv Q) : am_R E d mX9_troubleOf k n 33 ls (.ref a :: st) S iv Q := am_getR (ci := 9) dX9_troubleOf_33 rfl rfl (by decide) wq_569 uq_9 rfl ha hb h
theorem sX9_troubleOf_36 {ls : List Value} {a : Nat} (ha : S.1 a = some (.inl 7)) (h : am_R E d mX9_troubleOf k n 39 ls (.int (iv a 0) :: st) S iv Q) : am_R E d mX9_troubleOf k n 36 ls (.ref a :: st) S iv Q := am_getI (ci := 7) dX9_troubleOf_36 rfl rfl (by decide) wq_632 uq_7 rfl ha h
theorem sX9_troubleOf_39 {ls : List Value} {x1 : Value} {a : Nat} (ha : S.1 a = some (.inl 0)) (hst : (st.map fun v => v.category).sum ≤ 8) (hM : am_M E d mX0_reachedBy 0 0 [.ref a, x1] S iv (am_K3 E (d + 1) mX9_troubleOf k n 39 ls st Q)) : am_R E (d + 1) mX9_troubleOf k n 39 ls (x1 :: .ref a :: st) S iv Q := am_cV (ci := 0) (M' := mX0_reachedBy) (as := [x1]) dX9_troubleOf_39 rfl rfl rfl wq_650 wq_532 wq_533 wq_220 wq_529 hy_X0_reachedBy (by decide) ha hst (by omega) (by omega) hM
theorem sX9_troubleOf_39_k {ls : List Value} {x1 : Value} {k' n' : Nat} {a : Nat} (ha : S.1 a = some (.inl 0)) (hst : (st.map fun v => v.category).sum ≤ 8) (hM : am_M E d mX0_reachedBy k' n' [.ref a, x1] S iv (am_K3 E (d + 1) mX9_troubleOf k n 39 ls st Q)) : am_R E (d + 1) mX9_troubleOf (k' + k) (n' + n) 39 ls (x1 :: .ref a :: st) S iv Q := am_cV (ci := 0) (M' := mX0_reachedBy) (as := [x1]) dX9_troubleOf_39 rfl rfl rfl wq_650 wq_532 wq_533 wq_220 wq_529 hy_X0_reachedBy (by decide) ha hst (by omega) (by omega) hM
theorem sX9_troubleOf_42 {a0 a1 : Value} {x : Int32} (h : am_R E d mX9_troubleOf k n 43 [a0, a1, .int x] (.int x :: st) S iv Q) : am_R E d mX9_troubleOf k n 42 [a0, a1, .int x] st S iv Q := am_iload_n dX9_troubleOf_42 rfl rfl h
theorem sX9_troubleOf_43 {ls : List Value} {x y : Int32} (h : am_R E d mX9_troubleOf k n 44 ls (.int (x &&& y) :: st) S iv Q) : am_R E d mX9_troubleOf k n 43 ls (.int y :: .int x :: st) S iv Q := am_iand dX9_troubleOf_43 h
theorem sX9_troubleOf_44 {ls : List Value} {x : Int32} (kt : ¬ x = 0 → am_R E d mX9_troubleOf k n 49 ls st S iv Q) (kf : x = 0 → am_R E d mX9_troubleOf k n 47 ls st S iv Q) : am_R E d mX9_troubleOf k n 44 ls (.int x :: st) S iv Q := am_if_ne dX9_troubleOf_44 (by decide) kt kf
theorem sX9_troubleOf_47 {a0 a1 a2 : Value} (h : am_R E d mX9_troubleOf k n 48 [a0, a1, a2] (.int 3 :: st) S iv Q) : am_R E d mX9_troubleOf k n 47 [a0, a1, a2] st S iv Q := am_iconst dX9_troubleOf_47 (by decide) h
theorem sX9_troubleOf_48 {ls : List Value} {x : Int32} (h : Q (.inl (some (.int x))) S iv) : am_R E d mX9_troubleOf k n 48 ls [.int x] S iv Q := am_ireturn dX9_troubleOf_48 rfl h
theorem sX9_troubleOf_49 {a0 a1 a2 : Value} (hv : am_rf a0 = true) (h : am_R E d mX9_troubleOf k n 50 [a0, a1, a2] (a0 :: st) S iv Q) : am_R E d mX9_troubleOf k n 49 [a0, a1, a2] st S iv Q := am_aload_n dX9_troubleOf_49 rfl rfl hv h
theorem sX9_troubleOf_50 {ls : List Value} {a b : Nat} (ha : S.1 a = some (.inl 9)) (hb : S.2.1 a 3 = some b) (h : am_R E d mX9_troubleOf k n 53 ls (.ref b :: st) S iv Q) : am_R E d mX9_troubleOf k n 50 ls (.ref a :: st) S iv Q := am_getR (ci := 9) dX9_troubleOf_50 rfl rfl (by decide) wq_561 uq_9 rfl ha hb h
theorem sX9_troubleOf_53 {a0 a1 a2 : Value} (hv : am_rf a0 = true) (h : am_R E d mX9_troubleOf k n 54 [a0, a1, a2] (a0 :: st) S iv Q) : am_R E d mX9_troubleOf k n 53 [a0, a1, a2] st S iv Q := am_aload_n dX9_troubleOf_53 rfl rfl hv h
theorem sX9_troubleOf_54 {ls : List Value} {a b : Nat} (ha : S.1 a = some (.inl 9)) (hb : S.2.1 a 5 = some b) (h : am_R E d mX9_troubleOf k n 57 ls (.ref b :: st) S iv Q) : am_R E d mX9_troubleOf k n 54 ls (.ref a :: st) S iv Q := am_getR (ci := 9) dX9_troubleOf_54 rfl rfl (by decide) wq_569 uq_9 rfl ha hb h
theorem sX9_troubleOf_57 {ls : List Value} {a : Nat} (ha : S.1 a = some (.inl 7)) (h : am_R E d mX9_troubleOf k n 60 ls (.int (iv a 0) :: st) S iv Q) : am_R E d mX9_troubleOf k n 57 ls (.ref a :: st) S iv Q := am_getI (ci := 7) dX9_troubleOf_57 rfl rfl (by decide) wq_632 uq_7 rfl ha h
theorem sX9_troubleOf_60 {a0 a1 : Value} {x : Int32} (h : am_R E d mX9_troubleOf k n 61 [a0, a1, .int x] (.int x :: st) S iv Q) : am_R E d mX9_troubleOf k n 60 [a0, a1, .int x] st S iv Q := am_iload_n dX9_troubleOf_60 rfl rfl h
theorem sX9_troubleOf_61 {ls : List Value} {x y : Int32} (h : am_R E d mX9_troubleOf k n 62 ls (.int (x ^^^ y) :: st) S iv Q) : am_R E d mX9_troubleOf k n 61 ls (.int y :: .int x :: st) S iv Q := am_ixor dX9_troubleOf_61 h
theorem sX9_troubleOf_62 {ls : List Value} {x1 : Value} {a : Nat} (ha : S.1 a = some (.inl 0)) (hst : (st.map fun v => v.category).sum ≤ 8) (hM : am_M E d mX0_canBe 0 0 [.ref a, x1] S iv (am_K3 E (d + 1) mX9_troubleOf k n 62 ls st Q)) : am_R E (d + 1) mX9_troubleOf k n 62 ls (x1 :: .ref a :: st) S iv Q := am_cV (ci := 0) (M' := mX0_canBe) (as := [x1]) dX9_troubleOf_62 rfl rfl rfl wq_675 wq_537 wq_538 wq_220 wq_534 hy_X0_canBe (by decide) ha hst (by omega) (by omega) hM
theorem sX9_troubleOf_62_k {ls : List Value} {x1 : Value} {k' n' : Nat} {a : Nat} (ha : S.1 a = some (.inl 0)) (hst : (st.map fun v => v.category).sum ≤ 8) (hM : am_M E d mX0_canBe k' n' [.ref a, x1] S iv (am_K3 E (d + 1) mX9_troubleOf k n 62 ls st Q)) : am_R E (d + 1) mX9_troubleOf (k' + k) (n' + n) 62 ls (x1 :: .ref a :: st) S iv Q := am_cV (ci := 0) (M' := mX0_canBe) (as := [x1]) dX9_troubleOf_62 rfl rfl rfl wq_675 wq_537 wq_538 wq_220 wq_534 hy_X0_canBe (by decide) ha hst (by omega) (by omega) hM
theorem sX9_troubleOf_65 {ls : List Value} {x : Int32} (kt : ¬ x = 0 → am_R E d mX9_troubleOf k n 70 ls st S iv Q) (kf : x = 0 → am_R E d mX9_troubleOf k n 68 ls st S iv Q) : am_R E d mX9_troubleOf k n 65 ls (.int x :: st) S iv Q := am_if_ne dX9_troubleOf_65 (by decide) kt kf
theorem sX9_troubleOf_68 {a0 a1 a2 : Value} (h : am_R E d mX9_troubleOf k n 69 [a0, a1, a2] (.int 4 :: st) S iv Q) : am_R E d mX9_troubleOf k n 68 [a0, a1, a2] st S iv Q := am_iconst dX9_troubleOf_68 (by decide) h
theorem sX9_troubleOf_69 {ls : List Value} {x : Int32} (h : Q (.inl (some (.int x))) S iv) : am_R E d mX9_troubleOf k n 69 ls [.int x] S iv Q := am_ireturn dX9_troubleOf_69 rfl h
theorem sX9_troubleOf_70 {a0 a1 a2 : Value} (hv : am_rf a0 = true) (h : am_R E d mX9_troubleOf k n 71 [a0, a1, a2] (a0 :: st) S iv Q) : am_R E d mX9_troubleOf k n 70 [a0, a1, a2] st S iv Q := am_aload_n dX9_troubleOf_70 rfl rfl hv h
theorem sX9_troubleOf_71 {ls : List Value} {a b : Nat} (ha : S.1 a = some (.inl 9)) (hb : S.2.1 a 5 = some b) (h : am_R E d mX9_troubleOf k n 74 ls (.ref b :: st) S iv Q) : am_R E d mX9_troubleOf k n 71 ls (.ref a :: st) S iv Q := am_getR (ci := 9) dX9_troubleOf_71 rfl rfl (by decide) wq_569 uq_9 rfl ha hb h
theorem sX9_troubleOf_74 {ls : List Value} {a : Nat} (ha : S.1 a = some (.inl 7)) (h : am_R E d mX9_troubleOf k n 77 ls (.int (iv a 3) :: st) S iv Q) : am_R E d mX9_troubleOf k n 74 ls (.ref a :: st) S iv Q := am_getI (ci := 7) dX9_troubleOf_74 rfl rfl (by decide) wq_633 uq_7 rfl ha h
theorem sX9_troubleOf_77 {a0 a1 a2 : Value} (h : am_R E d mX9_troubleOf k n 79 [a0, a1, a2] (.int 100 :: st) S iv Q) : am_R E d mX9_troubleOf k n 77 [a0, a1, a2] st S iv Q := am_bipush dX9_troubleOf_77 (by decide) h
theorem sX9_troubleOf_79 {ls : List Value} {x y : Int32} (kt : x < y → am_R E d mX9_troubleOf k n 86 ls st S iv Q) (kf : ¬ x < y → am_R E d mX9_troubleOf k n 82 ls st S iv Q) : am_R E d mX9_troubleOf k n 79 ls (.int y :: .int x :: st) S iv Q := am_icmp_lt dX9_troubleOf_79 (by decide) kt kf
theorem sX9_troubleOf_82 {a0 a1 a2 : Value} (h : am_R E d mX9_troubleOf k n 83 [a0, a1, a2] (.int 5 :: st) S iv Q) : am_R E d mX9_troubleOf k n 82 [a0, a1, a2] st S iv Q := am_iconst dX9_troubleOf_82 (by decide) h
theorem sX9_troubleOf_83 {ls : List Value} (h : am_R E d mX9_troubleOf k n 87 ls st S iv Q) : am_R E d mX9_troubleOf k n 83 ls st S iv Q := am_goto dX9_troubleOf_83 (by decide) h
theorem sX9_troubleOf_86 {a0 a1 a2 : Value} (h : am_R E d mX9_troubleOf k n 87 [a0, a1, a2] (.int 0 :: st) S iv Q) : am_R E d mX9_troubleOf k n 86 [a0, a1, a2] st S iv Q := am_iconst dX9_troubleOf_86 (by decide) h
theorem sX9_troubleOf_87 {ls : List Value} {x : Int32} (h : Q (.inl (some (.int x))) S iv) : am_R E d mX9_troubleOf k n 87 ls [.int x] S iv Q := am_ireturn dX9_troubleOf_87 rfl h
theorem dX9_undo_0 : decode cX9_undo 0 = .ok (.aload_n 0, 1) := by decide +kernel
theorem dX9_undo_1 : decode cX9_undo 1 = .ok (.getfield 30, 3) := by decide +kernel
theorem dX9_undo_4 : decode cX9_undo 4 = .ok (.invokevirtual 224, 3) := by decide +kernel
theorem dX9_undo_7 : decode cX9_undo 7 = .ok (.ireturn, 1) := by decide +kernel
theorem sX9_undo_0 {a0 : Value} (hv : am_rf a0 = true) (h : am_R E d mX9_undo k n 1 [a0] (a0 :: st) S iv Q) : am_R E d mX9_undo k n 0 [a0] st S iv Q := am_aload_n dX9_undo_0 rfl rfl hv h
theorem sX9_undo_1 {ls : List Value} {a b : Nat} (ha : S.1 a = some (.inl 9)) (hb : S.2.1 a 5 = some b) (h : am_R E d mX9_undo k n 4 ls (.ref b :: st) S iv Q) : am_R E d mX9_undo k n 1 ls (.ref a :: st) S iv Q := am_getR (ci := 9) dX9_undo_1 rfl rfl (by decide) wq_569 uq_9 rfl ha hb h
theorem sX9_undo_4 {ls : List Value} {a : Nat} (ha : S.1 a = some (.inl 7)) (hst : (st.map fun v => v.category).sum ≤ 8) (hM : am_M E d mX7_undoMove 0 0 [.ref a] S iv (am_K3 E (d + 1) mX9_undo k n 4 ls st Q)) : am_R E (d + 1) mX9_undo k n 4 ls (.ref a :: st) S iv Q := am_cV (ci := 7) (M' := mX7_undoMove) (as := []) dX9_undo_4 rfl rfl rfl wq_691 wq_692 wq_693 wq_565 wq_689 hy_X7_undoMove (by decide) ha hst (by omega) (by omega) hM
theorem sX9_undo_4_k {ls : List Value} {k' n' : Nat} {a : Nat} (ha : S.1 a = some (.inl 7)) (hst : (st.map fun v => v.category).sum ≤ 8) (hM : am_M E d mX7_undoMove k' n' [.ref a] S iv (am_K3 E (d + 1) mX9_undo k n 4 ls st Q)) : am_R E (d + 1) mX9_undo (k' + k) (n' + n) 4 ls (.ref a :: st) S iv Q := am_cV (ci := 7) (M' := mX7_undoMove) (as := []) dX9_undo_4 rfl rfl rfl wq_691 wq_692 wq_693 wq_565 wq_689 hy_X7_undoMove (by decide) ha hst (by omega) (by omega) hM
theorem sX9_undo_7 {ls : List Value} {x : Int32} (h : Q (.inl (some (.int x))) S iv) : am_R E d mX9_undo k n 7 ls [.int x] S iv Q := am_ireturn dX9_undo_7 rfl h
theorem dX9_sleeps_0 : decode cX9_sleeps 0 = .ok (.aload_n 0, 1) := by decide +kernel
theorem dX9_sleeps_1 : decode cX9_sleeps 1 = .ok (.iload_n 1, 1) := by decide +kernel
theorem dX9_sleeps_2 : decode cX9_sleeps 2 = .ok (.invokevirtual 148, 3) := by decide +kernel
theorem dX9_sleeps_5 : decode cX9_sleeps 5 = .ok (.iconst 1, 1) := by decide +kernel
theorem dX9_sleeps_6 : decode cX9_sleeps 6 = .ok (.iload_n 1, 1) := by decide +kernel
theorem dX9_sleeps_7 : decode cX9_sleeps 7 = .ok (.ishl, 1) := by decide +kernel
theorem dX9_sleeps_8 : decode cX9_sleeps 8 = .ok (.istore_n 3, 1) := by decide +kernel
theorem dX9_sleeps_9 : decode cX9_sleeps 9 = .ok (.aload_n 0, 1) := by decide +kernel
theorem dX9_sleeps_10 : decode cX9_sleeps 10 = .ok (.getfield 30, 3) := by decide +kernel
theorem dX9_sleeps_13 : decode cX9_sleeps 13 = .ok (.iload_n 2, 1) := by decide +kernel
theorem dX9_sleeps_14 : decode cX9_sleeps 14 = .ok (.ifCond .eq 15, 3) := by decide +kernel
theorem dX9_sleeps_17 : decode cX9_sleeps 17 = .ok (.aload_n 0, 1) := by decide +kernel
theorem dX9_sleeps_18 : decode cX9_sleeps 18 = .ok (.getfield 30, 3) := by decide +kernel
theorem dX9_sleeps_21 : decode cX9_sleeps 21 = .ok (.getfield 137, 3) := by decide +kernel
theorem dX9_sleeps_24 : decode cX9_sleeps 24 = .ok (.iload_n 3, 1) := by decide +kernel
theorem dX9_sleeps_25 : decode cX9_sleeps 25 = .ok (.ior, 1) := by decide +kernel
theorem dX9_sleeps_26 : decode cX9_sleeps 26 = .ok (.goto 14, 3) := by decide +kernel
theorem dX9_sleeps_29 : decode cX9_sleeps 29 = .ok (.aload_n 0, 1) := by decide +kernel
theorem dX9_sleeps_30 : decode cX9_sleeps 30 = .ok (.getfield 30, 3) := by decide +kernel
theorem dX9_sleeps_33 : decode cX9_sleeps 33 = .ok (.getfield 137, 3) := by decide +kernel
theorem dX9_sleeps_36 : decode cX9_sleeps 36 = .ok (.iload_n 3, 1) := by decide +kernel
theorem dX9_sleeps_37 : decode cX9_sleeps 37 = .ok (.iconst (-1), 1) := by decide +kernel
theorem dX9_sleeps_38 : decode cX9_sleeps 38 = .ok (.ixor, 1) := by decide +kernel
theorem dX9_sleeps_39 : decode cX9_sleeps 39 = .ok (.iand, 1) := by decide +kernel
theorem dX9_sleeps_40 : decode cX9_sleeps 40 = .ok (.putfield 137, 3) := by decide +kernel
theorem dX9_sleeps_43 : decode cX9_sleeps 43 = .ok (.return_, 1) := by decide +kernel
theorem sX9_sleeps_0 {a0 a1 a2 a3 : Value} (hv : am_rf a0 = true) (h : am_R E d mX9_sleeps k n 1 [a0, a1, a2, a3] (a0 :: st) S iv Q) : am_R E d mX9_sleeps k n 0 [a0, a1, a2, a3] st S iv Q := am_aload_n dX9_sleeps_0 rfl rfl hv h
theorem sX9_sleeps_1 {a0 a2 a3 : Value} {x : Int32} (h : am_R E d mX9_sleeps k n 2 [a0, .int x, a2, a3] (.int x :: st) S iv Q) : am_R E d mX9_sleeps k n 1 [a0, .int x, a2, a3] st S iv Q := am_iload_n dX9_sleeps_1 rfl rfl h
theorem sX9_sleeps_2 {ls : List Value} {x1 : Value} {a : Nat} (ha : S.1 a = some (.inl 9)) (hst : (st.map fun v => v.category).sum ≤ 8) (hM : am_M E d mX9_demandDrawer 0 0 [.ref a, x1] S iv (am_K3 E (d + 1) mX9_sleeps k n 2 ls st Q)) : am_R E (d + 1) mX9_sleeps k n 2 ls (x1 :: .ref a :: st) S iv Q := am_cV (ci := 9) (M' := mX9_demandDrawer) (as := [x1]) dX9_sleeps_2 rfl rfl rfl wq_642 wq_643 wq_644 wq_581 wq_640 hy_X9_demandDrawer (by decide) ha hst (by omega) (by omega) hM
theorem sX9_sleeps_2_k {ls : List Value} {x1 : Value} {k' n' : Nat} {a : Nat} (ha : S.1 a = some (.inl 9)) (hst : (st.map fun v => v.category).sum ≤ 8) (hM : am_M E d mX9_demandDrawer k' n' [.ref a, x1] S iv (am_K3 E (d + 1) mX9_sleeps k n 2 ls st Q)) : am_R E (d + 1) mX9_sleeps (k' + k) (n' + n) 2 ls (x1 :: .ref a :: st) S iv Q := am_cV (ci := 9) (M' := mX9_demandDrawer) (as := [x1]) dX9_sleeps_2 rfl rfl rfl wq_642 wq_643 wq_644 wq_581 wq_640 hy_X9_demandDrawer (by decide) ha hst (by omega) (by omega) hM
theorem sX9_sleeps_5 {a0 a1 a2 a3 : Value} (h : am_R E d mX9_sleeps k n 6 [a0, a1, a2, a3] (.int 1 :: st) S iv Q) : am_R E d mX9_sleeps k n 5 [a0, a1, a2, a3] st S iv Q := am_iconst dX9_sleeps_5 (by decide) h
theorem sX9_sleeps_6 {a0 a2 a3 : Value} {x : Int32} (h : am_R E d mX9_sleeps k n 7 [a0, .int x, a2, a3] (.int x :: st) S iv Q) : am_R E d mX9_sleeps k n 6 [a0, .int x, a2, a3] st S iv Q := am_iload_n dX9_sleeps_6 rfl rfl h
theorem sX9_sleeps_7 {ls : List Value} {x y : Int32} (h : am_R E d mX9_sleeps k n 8 ls (.int (x <<< (y &&& 31)) :: st) S iv Q) : am_R E d mX9_sleeps k n 7 ls (.int y :: .int x :: st) S iv Q := am_ishl dX9_sleeps_7 h
theorem sX9_sleeps_8 {a0 a1 a2 a3 : Value} {x : Int32} (h : am_R E d mX9_sleeps k n 9 [a0, a1, a2, .int x] st S iv Q) : am_R E d mX9_sleeps k n 8 [a0, a1, a2, a3] (.int x :: st) S iv Q := am_istore_n dX9_sleeps_8 rfl (by decide) h
theorem sX9_sleeps_9 {a0 a1 a2 a3 : Value} (hv : am_rf a0 = true) (h : am_R E d mX9_sleeps k n 10 [a0, a1, a2, a3] (a0 :: st) S iv Q) : am_R E d mX9_sleeps k n 9 [a0, a1, a2, a3] st S iv Q := am_aload_n dX9_sleeps_9 rfl rfl hv h
theorem sX9_sleeps_10 {ls : List Value} {a b : Nat} (ha : S.1 a = some (.inl 9)) (hb : S.2.1 a 5 = some b) (h : am_R E d mX9_sleeps k n 13 ls (.ref b :: st) S iv Q) : am_R E d mX9_sleeps k n 10 ls (.ref a :: st) S iv Q := am_getR (ci := 9) dX9_sleeps_10 rfl rfl (by decide) wq_569 uq_9 rfl ha hb h
theorem sX9_sleeps_13 {a0 a1 a3 : Value} {x : Int32} (h : am_R E d mX9_sleeps k n 14 [a0, a1, .int x, a3] (.int x :: st) S iv Q) : am_R E d mX9_sleeps k n 13 [a0, a1, .int x, a3] st S iv Q := am_iload_n dX9_sleeps_13 rfl rfl h
theorem sX9_sleeps_14 {ls : List Value} {x : Int32} (kt : x = 0 → am_R E d mX9_sleeps k n 29 ls st S iv Q) (kf : ¬ x = 0 → am_R E d mX9_sleeps k n 17 ls st S iv Q) : am_R E d mX9_sleeps k n 14 ls (.int x :: st) S iv Q := am_if_eq dX9_sleeps_14 (by decide) kt kf
theorem sX9_sleeps_17 {a0 a1 a2 a3 : Value} (hv : am_rf a0 = true) (h : am_R E d mX9_sleeps k n 18 [a0, a1, a2, a3] (a0 :: st) S iv Q) : am_R E d mX9_sleeps k n 17 [a0, a1, a2, a3] st S iv Q := am_aload_n dX9_sleeps_17 rfl rfl hv h
theorem sX9_sleeps_18 {ls : List Value} {a b : Nat} (ha : S.1 a = some (.inl 9)) (hb : S.2.1 a 5 = some b) (h : am_R E d mX9_sleeps k n 21 ls (.ref b :: st) S iv Q) : am_R E d mX9_sleeps k n 18 ls (.ref a :: st) S iv Q := am_getR (ci := 9) dX9_sleeps_18 rfl rfl (by decide) wq_569 uq_9 rfl ha hb h
theorem sX9_sleeps_21 {ls : List Value} {a : Nat} (ha : S.1 a = some (.inl 7)) (h : am_R E d mX9_sleeps k n 24 ls (.int (iv a 1) :: st) S iv Q) : am_R E d mX9_sleeps k n 21 ls (.ref a :: st) S iv Q := am_getI (ci := 7) dX9_sleeps_21 rfl rfl (by decide) wq_635 uq_7 rfl ha h
theorem sX9_sleeps_24 {a0 a1 a2 : Value} {x : Int32} (h : am_R E d mX9_sleeps k n 25 [a0, a1, a2, .int x] (.int x :: st) S iv Q) : am_R E d mX9_sleeps k n 24 [a0, a1, a2, .int x] st S iv Q := am_iload_n dX9_sleeps_24 rfl rfl h
theorem sX9_sleeps_25 {ls : List Value} {x y : Int32} (h : am_R E d mX9_sleeps k n 26 ls (.int (x ||| y) :: st) S iv Q) : am_R E d mX9_sleeps k n 25 ls (.int y :: .int x :: st) S iv Q := am_ior dX9_sleeps_25 h
theorem sX9_sleeps_26 {ls : List Value} (h : am_R E d mX9_sleeps k n 40 ls st S iv Q) : am_R E d mX9_sleeps k n 26 ls st S iv Q := am_goto dX9_sleeps_26 (by decide) h
theorem sX9_sleeps_29 {a0 a1 a2 a3 : Value} (hv : am_rf a0 = true) (h : am_R E d mX9_sleeps k n 30 [a0, a1, a2, a3] (a0 :: st) S iv Q) : am_R E d mX9_sleeps k n 29 [a0, a1, a2, a3] st S iv Q := am_aload_n dX9_sleeps_29 rfl rfl hv h
theorem sX9_sleeps_30 {ls : List Value} {a b : Nat} (ha : S.1 a = some (.inl 9)) (hb : S.2.1 a 5 = some b) (h : am_R E d mX9_sleeps k n 33 ls (.ref b :: st) S iv Q) : am_R E d mX9_sleeps k n 30 ls (.ref a :: st) S iv Q := am_getR (ci := 9) dX9_sleeps_30 rfl rfl (by decide) wq_569 uq_9 rfl ha hb h
theorem sX9_sleeps_33 {ls : List Value} {a : Nat} (ha : S.1 a = some (.inl 7)) (h : am_R E d mX9_sleeps k n 36 ls (.int (iv a 1) :: st) S iv Q) : am_R E d mX9_sleeps k n 33 ls (.ref a :: st) S iv Q := am_getI (ci := 7) dX9_sleeps_33 rfl rfl (by decide) wq_635 uq_7 rfl ha h
theorem sX9_sleeps_36 {a0 a1 a2 : Value} {x : Int32} (h : am_R E d mX9_sleeps k n 37 [a0, a1, a2, .int x] (.int x :: st) S iv Q) : am_R E d mX9_sleeps k n 36 [a0, a1, a2, .int x] st S iv Q := am_iload_n dX9_sleeps_36 rfl rfl h
theorem sX9_sleeps_37 {a0 a1 a2 a3 : Value} (h : am_R E d mX9_sleeps k n 38 [a0, a1, a2, a3] (.int (-1) :: st) S iv Q) : am_R E d mX9_sleeps k n 37 [a0, a1, a2, a3] st S iv Q := am_iconst dX9_sleeps_37 (by decide) h
theorem sX9_sleeps_38 {ls : List Value} {x y : Int32} (h : am_R E d mX9_sleeps k n 39 ls (.int (x ^^^ y) :: st) S iv Q) : am_R E d mX9_sleeps k n 38 ls (.int y :: .int x :: st) S iv Q := am_ixor dX9_sleeps_38 h
theorem sX9_sleeps_39 {ls : List Value} {x y : Int32} (h : am_R E d mX9_sleeps k n 40 ls (.int (x &&& y) :: st) S iv Q) : am_R E d mX9_sleeps k n 39 ls (.int y :: .int x :: st) S iv Q := am_iand dX9_sleeps_39 h
theorem sX9_sleeps_40 {ls : List Value} {a : Nat} {x : Int32} (ha : S.1 a = some (.inl 7)) (h : am_R E d mX9_sleeps k n 43 ls st S (am_w iv a 1 x) Q) : am_R E d mX9_sleeps k n 40 ls (.int x :: .ref a :: st) S iv Q := am_putI (ci := 7) dX9_sleeps_40 rfl rfl (by decide) wq_635 uq_7 tyX7_ok nmX7 (Or.inl rfl) rfl ha h
theorem sX9_sleeps_43 {ls : List Value} (h : Q (.inl none) S iv) : am_R E d mX9_sleeps k n 43 ls [] S iv Q := am_return dX9_sleeps_43 rfl h
theorem dX9_opens_0 : decode cX9_opens 0 = .ok (.aload_n 0, 1) := by decide +kernel
theorem dX9_opens_1 : decode cX9_opens 1 = .ok (.iload_n 1, 1) := by decide +kernel
theorem dX9_opens_2 : decode cX9_opens 2 = .ok (.invokevirtual 148, 3) := by decide +kernel
theorem dX9_opens_5 : decode cX9_opens 5 = .ok (.aload_n 0, 1) := by decide +kernel
theorem dX9_opens_6 : decode cX9_opens 6 = .ok (.aload_n 0, 1) := by decide +kernel
theorem dX9_opens_7 : decode cX9_opens 7 = .ok (.getfield 40, 3) := by decide +kernel
theorem dX9_opens_10 : decode cX9_opens 10 = .ok (.aload_n 0, 1) := by decide +kernel
theorem dX9_opens_11 : decode cX9_opens 11 = .ok (.getfield 20, 3) := by decide +kernel
theorem dX9_opens_14 : decode cX9_opens 14 = .ok (.aload_n 0, 1) := by decide +kernel
theorem dX9_opens_15 : decode cX9_opens 15 = .ok (.getfield 30, 3) := by decide +kernel
theorem dX9_opens_18 : decode cX9_opens 18 = .ok (.getfield 128, 3) := by decide +kernel
theorem dX9_opens_21 : decode cX9_opens 21 = .ok (.aload_n 0, 1) := by decide +kernel
theorem dX9_opens_22 : decode cX9_opens 22 = .ok (.getfield 30, 3) := by decide +kernel
theorem dX9_opens_25 : decode cX9_opens 25 = .ok (.getfield 137, 3) := by decide +kernel
theorem dX9_opens_28 : decode cX9_opens 28 = .ok (.iconst 1, 1) := by decide +kernel
theorem dX9_opens_29 : decode cX9_opens 29 = .ok (.iload_n 1, 1) := by decide +kernel
theorem dX9_opens_30 : decode cX9_opens 30 = .ok (.ishl, 1) := by decide +kernel
theorem dX9_opens_31 : decode cX9_opens 31 = .ok (.iconst 1, 1) := by decide +kernel
theorem dX9_opens_32 : decode cX9_opens 32 = .ok (.iload_n 1, 1) := by decide +kernel
theorem dX9_opens_33 : decode cX9_opens 33 = .ok (.ishl, 1) := by decide +kernel
theorem dX9_opens_34 : decode cX9_opens 34 = .ok (.invokevirtual 227, 3) := by decide +kernel
theorem dX9_opens_37 : decode cX9_opens 37 = .ok (.invokevirtual 231, 3) := by decide +kernel
theorem dX9_opens_40 : decode cX9_opens 40 = .ok (.ireturn, 1) := by decide +kernel
theorem sX9_opens_0 {a0 a1 : Value} (hv : am_rf a0 = true) (h : am_R E d mX9_opens k n 1 [a0, a1] (a0 :: st) S iv Q) : am_R E d mX9_opens k n 0 [a0, a1] st S iv Q := am_aload_n dX9_opens_0 rfl rfl hv h
theorem sX9_opens_1 {a0 : Value} {x : Int32} (h : am_R E d mX9_opens k n 2 [a0, .int x] (.int x :: st) S iv Q) : am_R E d mX9_opens k n 1 [a0, .int x] st S iv Q := am_iload_n dX9_opens_1 rfl rfl h
theorem sX9_opens_2 {ls : List Value} {x1 : Value} {a : Nat} (ha : S.1 a = some (.inl 9)) (hst : (st.map fun v => v.category).sum ≤ 8) (hM : am_M E d mX9_demandDrawer 0 0 [.ref a, x1] S iv (am_K3 E (d + 1) mX9_opens k n 2 ls st Q)) : am_R E (d + 1) mX9_opens k n 2 ls (x1 :: .ref a :: st) S iv Q := am_cV (ci := 9) (M' := mX9_demandDrawer) (as := [x1]) dX9_opens_2 rfl rfl rfl wq_642 wq_643 wq_644 wq_581 wq_640 hy_X9_demandDrawer (by decide) ha hst (by omega) (by omega) hM
theorem sX9_opens_2_k {ls : List Value} {x1 : Value} {k' n' : Nat} {a : Nat} (ha : S.1 a = some (.inl 9)) (hst : (st.map fun v => v.category).sum ≤ 8) (hM : am_M E d mX9_demandDrawer k' n' [.ref a, x1] S iv (am_K3 E (d + 1) mX9_opens k n 2 ls st Q)) : am_R E (d + 1) mX9_opens (k' + k) (n' + n) 2 ls (x1 :: .ref a :: st) S iv Q := am_cV (ci := 9) (M' := mX9_demandDrawer) (as := [x1]) dX9_opens_2 rfl rfl rfl wq_642 wq_643 wq_644 wq_581 wq_640 hy_X9_demandDrawer (by decide) ha hst (by omega) (by omega) hM
theorem sX9_opens_5 {a0 a1 : Value} (hv : am_rf a0 = true) (h : am_R E d mX9_opens k n 6 [a0, a1] (a0 :: st) S iv Q) : am_R E d mX9_opens k n 5 [a0, a1] st S iv Q := am_aload_n dX9_opens_5 rfl rfl hv h
theorem sX9_opens_6 {a0 a1 : Value} (hv : am_rf a0 = true) (h : am_R E d mX9_opens k n 7 [a0, a1] (a0 :: st) S iv Q) : am_R E d mX9_opens k n 6 [a0, a1] st S iv Q := am_aload_n dX9_opens_6 rfl rfl hv h
theorem sX9_opens_7 {ls : List Value} {a b : Nat} (ha : S.1 a = some (.inl 9)) (hb : S.2.1 a 8 = some b) (h : am_R E d mX9_opens k n 10 ls (.ref b :: st) S iv Q) : am_R E d mX9_opens k n 7 ls (.ref a :: st) S iv Q := am_getR (ci := 9) dX9_opens_7 rfl rfl (by decide) wq_576 uq_9 rfl ha hb h
theorem sX9_opens_10 {a0 a1 : Value} (hv : am_rf a0 = true) (h : am_R E d mX9_opens k n 11 [a0, a1] (a0 :: st) S iv Q) : am_R E d mX9_opens k n 10 [a0, a1] st S iv Q := am_aload_n dX9_opens_10 rfl rfl hv h
theorem sX9_opens_11 {ls : List Value} {a b : Nat} (ha : S.1 a = some (.inl 9)) (hb : S.2.1 a 3 = some b) (h : am_R E d mX9_opens k n 14 ls (.ref b :: st) S iv Q) : am_R E d mX9_opens k n 11 ls (.ref a :: st) S iv Q := am_getR (ci := 9) dX9_opens_11 rfl rfl (by decide) wq_561 uq_9 rfl ha hb h
theorem sX9_opens_14 {a0 a1 : Value} (hv : am_rf a0 = true) (h : am_R E d mX9_opens k n 15 [a0, a1] (a0 :: st) S iv Q) : am_R E d mX9_opens k n 14 [a0, a1] st S iv Q := am_aload_n dX9_opens_14 rfl rfl hv h
theorem sX9_opens_15 {ls : List Value} {a b : Nat} (ha : S.1 a = some (.inl 9)) (hb : S.2.1 a 5 = some b) (h : am_R E d mX9_opens k n 18 ls (.ref b :: st) S iv Q) : am_R E d mX9_opens k n 15 ls (.ref a :: st) S iv Q := am_getR (ci := 9) dX9_opens_15 rfl rfl (by decide) wq_569 uq_9 rfl ha hb h
theorem sX9_opens_18 {ls : List Value} {a : Nat} (ha : S.1 a = some (.inl 7)) (h : am_R E d mX9_opens k n 21 ls (.int (iv a 0) :: st) S iv Q) : am_R E d mX9_opens k n 18 ls (.ref a :: st) S iv Q := am_getI (ci := 7) dX9_opens_18 rfl rfl (by decide) wq_632 uq_7 rfl ha h
theorem sX9_opens_21 {a0 a1 : Value} (hv : am_rf a0 = true) (h : am_R E d mX9_opens k n 22 [a0, a1] (a0 :: st) S iv Q) : am_R E d mX9_opens k n 21 [a0, a1] st S iv Q := am_aload_n dX9_opens_21 rfl rfl hv h
theorem sX9_opens_22 {ls : List Value} {a b : Nat} (ha : S.1 a = some (.inl 9)) (hb : S.2.1 a 5 = some b) (h : am_R E d mX9_opens k n 25 ls (.ref b :: st) S iv Q) : am_R E d mX9_opens k n 22 ls (.ref a :: st) S iv Q := am_getR (ci := 9) dX9_opens_22 rfl rfl (by decide) wq_569 uq_9 rfl ha hb h
theorem sX9_opens_25 {ls : List Value} {a : Nat} (ha : S.1 a = some (.inl 7)) (h : am_R E d mX9_opens k n 28 ls (.int (iv a 1) :: st) S iv Q) : am_R E d mX9_opens k n 25 ls (.ref a :: st) S iv Q := am_getI (ci := 7) dX9_opens_25 rfl rfl (by decide) wq_635 uq_7 rfl ha h
theorem sX9_opens_28 {a0 a1 : Value} (h : am_R E d mX9_opens k n 29 [a0, a1] (.int 1 :: st) S iv Q) : am_R E d mX9_opens k n 28 [a0, a1] st S iv Q := am_iconst dX9_opens_28 (by decide) h
theorem sX9_opens_29 {a0 : Value} {x : Int32} (h : am_R E d mX9_opens k n 30 [a0, .int x] (.int x :: st) S iv Q) : am_R E d mX9_opens k n 29 [a0, .int x] st S iv Q := am_iload_n dX9_opens_29 rfl rfl h
theorem sX9_opens_30 {ls : List Value} {x y : Int32} (h : am_R E d mX9_opens k n 31 ls (.int (x <<< (y &&& 31)) :: st) S iv Q) : am_R E d mX9_opens k n 30 ls (.int y :: .int x :: st) S iv Q := am_ishl dX9_opens_30 h
theorem sX9_opens_31 {a0 a1 : Value} (h : am_R E d mX9_opens k n 32 [a0, a1] (.int 1 :: st) S iv Q) : am_R E d mX9_opens k n 31 [a0, a1] st S iv Q := am_iconst dX9_opens_31 (by decide) h
theorem sX9_opens_32 {a0 : Value} {x : Int32} (h : am_R E d mX9_opens k n 33 [a0, .int x] (.int x :: st) S iv Q) : am_R E d mX9_opens k n 32 [a0, .int x] st S iv Q := am_iload_n dX9_opens_32 rfl rfl h
theorem sX9_opens_33 {ls : List Value} {x y : Int32} (h : am_R E d mX9_opens k n 34 ls (.int (x <<< (y &&& 31)) :: st) S iv Q) : am_R E d mX9_opens k n 33 ls (.int y :: .int x :: st) S iv Q := am_ishl dX9_opens_33 h
theorem sX9_opens_34 {ls : List Value} {x1 x2 x3 x4 x5 : Value} {a : Nat} (ha : S.1 a = some (.inl 6)) (hst : (st.map fun v => v.category).sum ≤ 8) (hM : am_M E d mX6_seek 0 0 [.ref a, x1, x2, x3, x4, x5] S iv (am_K3 E (d + 1) mX9_opens k n 34 ls st Q)) : am_R E (d + 1) mX9_opens k n 34 ls (x5 :: x4 :: x3 :: x2 :: x1 :: .ref a :: st) S iv Q := am_cV (ci := 6) (M' := mX6_seek) (as := [x1, x2, x3, x4, x5]) dX9_opens_34 rfl rfl rfl wq_694 wq_547 wq_548 wq_518 wq_544 hy_X6_seek (by decide) ha hst (by omega) (by omega) hM
theorem sX9_opens_34_k {ls : List Value} {x1 x2 x3 x4 x5 : Value} {k' n' : Nat} {a : Nat} (ha : S.1 a = some (.inl 6)) (hst : (st.map fun v => v.category).sum ≤ 8) (hM : am_M E d mX6_seek k' n' [.ref a, x1, x2, x3, x4, x5] S iv (am_K3 E (d + 1) mX9_opens k n 34 ls st Q)) : am_R E (d + 1) mX9_opens (k' + k) (n' + n) 34 ls (x5 :: x4 :: x3 :: x2 :: x1 :: .ref a :: st) S iv Q := am_cV (ci := 6) (M' := mX6_seek) (as := [x1, x2, x3, x4, x5]) dX9_opens_34 rfl rfl rfl wq_694 wq_547 wq_548 wq_518 wq_544 hy_X6_seek (by decide) ha hst (by omega) (by omega) hM
theorem sX9_opens_37 {ls : List Value} {x1 : Value} {a : Nat} (ha : S.1 a = some (.inl 9)) (hst : (st.map fun v => v.category).sum ≤ 8) (hM : am_M E d mX9_keepSteps 0 0 [.ref a, x1] S iv (am_K3 E (d + 1) mX9_opens k n 37 ls st Q)) : am_R E (d + 1) mX9_opens k n 37 ls (x1 :: .ref a :: st) S iv Q := am_cV (ci := 9) (M' := mX9_keepSteps) (as := [x1]) dX9_opens_37 rfl rfl rfl wq_697 wq_698 wq_699 wq_581 wq_695 hy_X9_keepSteps (by decide) ha hst (by omega) (by omega) hM
theorem sX9_opens_37_k {ls : List Value} {x1 : Value} {k' n' : Nat} {a : Nat} (ha : S.1 a = some (.inl 9)) (hst : (st.map fun v => v.category).sum ≤ 8) (hM : am_M E d mX9_keepSteps k' n' [.ref a, x1] S iv (am_K3 E (d + 1) mX9_opens k n 37 ls st Q)) : am_R E (d + 1) mX9_opens (k' + k) (n' + n) 37 ls (x1 :: .ref a :: st) S iv Q := am_cV (ci := 9) (M' := mX9_keepSteps) (as := [x1]) dX9_opens_37 rfl rfl rfl wq_697 wq_698 wq_699 wq_581 wq_695 hy_X9_keepSteps (by decide) ha hst (by omega) (by omega) hM
theorem sX9_opens_40 {ls : List Value} {x : Int32} (h : Q (.inl (some (.int x))) S iv) : am_R E d mX9_opens k n 40 ls [.int x] S iv Q := am_ireturn dX9_opens_40 rfl h
theorem dX9_shuts_0 : decode cX9_shuts 0 = .ok (.aload_n 0, 1) := by decide +kernel
theorem dX9_shuts_1 : decode cX9_shuts 1 = .ok (.iload_n 1, 1) := by decide +kernel
theorem dX9_shuts_2 : decode cX9_shuts 2 = .ok (.invokevirtual 148, 3) := by decide +kernel
theorem dX9_shuts_5 : decode cX9_shuts 5 = .ok (.aload_n 0, 1) := by decide +kernel
theorem dX9_shuts_6 : decode cX9_shuts 6 = .ok (.aload_n 0, 1) := by decide +kernel
theorem dX9_shuts_7 : decode cX9_shuts 7 = .ok (.getfield 40, 3) := by decide +kernel
theorem dX9_shuts_10 : decode cX9_shuts 10 = .ok (.aload_n 0, 1) := by decide +kernel
theorem dX9_shuts_11 : decode cX9_shuts 11 = .ok (.getfield 20, 3) := by decide +kernel
theorem dX9_shuts_14 : decode cX9_shuts 14 = .ok (.aload_n 0, 1) := by decide +kernel
theorem dX9_shuts_15 : decode cX9_shuts 15 = .ok (.getfield 30, 3) := by decide +kernel
theorem dX9_shuts_18 : decode cX9_shuts 18 = .ok (.getfield 128, 3) := by decide +kernel
theorem dX9_shuts_21 : decode cX9_shuts 21 = .ok (.aload_n 0, 1) := by decide +kernel
theorem dX9_shuts_22 : decode cX9_shuts 22 = .ok (.getfield 30, 3) := by decide +kernel
theorem dX9_shuts_25 : decode cX9_shuts 25 = .ok (.getfield 137, 3) := by decide +kernel
theorem dX9_shuts_28 : decode cX9_shuts 28 = .ok (.iconst 1, 1) := by decide +kernel
theorem dX9_shuts_29 : decode cX9_shuts 29 = .ok (.iload_n 1, 1) := by decide +kernel
theorem dX9_shuts_30 : decode cX9_shuts 30 = .ok (.ishl, 1) := by decide +kernel
theorem dX9_shuts_31 : decode cX9_shuts 31 = .ok (.iconst 0, 1) := by decide +kernel
theorem dX9_shuts_32 : decode cX9_shuts 32 = .ok (.invokevirtual 227, 3) := by decide +kernel
theorem dX9_shuts_35 : decode cX9_shuts 35 = .ok (.invokevirtual 231, 3) := by decide +kernel
theorem dX9_shuts_38 : decode cX9_shuts 38 = .ok (.ireturn, 1) := by decide +kernel
theorem sX9_shuts_0 {a0 a1 : Value} (hv : am_rf a0 = true) (h : am_R E d mX9_shuts k n 1 [a0, a1] (a0 :: st) S iv Q) : am_R E d mX9_shuts k n 0 [a0, a1] st S iv Q := am_aload_n dX9_shuts_0 rfl rfl hv h
theorem sX9_shuts_1 {a0 : Value} {x : Int32} (h : am_R E d mX9_shuts k n 2 [a0, .int x] (.int x :: st) S iv Q) : am_R E d mX9_shuts k n 1 [a0, .int x] st S iv Q := am_iload_n dX9_shuts_1 rfl rfl h
theorem sX9_shuts_2 {ls : List Value} {x1 : Value} {a : Nat} (ha : S.1 a = some (.inl 9)) (hst : (st.map fun v => v.category).sum ≤ 8) (hM : am_M E d mX9_demandDrawer 0 0 [.ref a, x1] S iv (am_K3 E (d + 1) mX9_shuts k n 2 ls st Q)) : am_R E (d + 1) mX9_shuts k n 2 ls (x1 :: .ref a :: st) S iv Q := am_cV (ci := 9) (M' := mX9_demandDrawer) (as := [x1]) dX9_shuts_2 rfl rfl rfl wq_642 wq_643 wq_644 wq_581 wq_640 hy_X9_demandDrawer (by decide) ha hst (by omega) (by omega) hM
theorem sX9_shuts_2_k {ls : List Value} {x1 : Value} {k' n' : Nat} {a : Nat} (ha : S.1 a = some (.inl 9)) (hst : (st.map fun v => v.category).sum ≤ 8) (hM : am_M E d mX9_demandDrawer k' n' [.ref a, x1] S iv (am_K3 E (d + 1) mX9_shuts k n 2 ls st Q)) : am_R E (d + 1) mX9_shuts (k' + k) (n' + n) 2 ls (x1 :: .ref a :: st) S iv Q := am_cV (ci := 9) (M' := mX9_demandDrawer) (as := [x1]) dX9_shuts_2 rfl rfl rfl wq_642 wq_643 wq_644 wq_581 wq_640 hy_X9_demandDrawer (by decide) ha hst (by omega) (by omega) hM
theorem sX9_shuts_5 {a0 a1 : Value} (hv : am_rf a0 = true) (h : am_R E d mX9_shuts k n 6 [a0, a1] (a0 :: st) S iv Q) : am_R E d mX9_shuts k n 5 [a0, a1] st S iv Q := am_aload_n dX9_shuts_5 rfl rfl hv h
theorem sX9_shuts_6 {a0 a1 : Value} (hv : am_rf a0 = true) (h : am_R E d mX9_shuts k n 7 [a0, a1] (a0 :: st) S iv Q) : am_R E d mX9_shuts k n 6 [a0, a1] st S iv Q := am_aload_n dX9_shuts_6 rfl rfl hv h
theorem sX9_shuts_7 {ls : List Value} {a b : Nat} (ha : S.1 a = some (.inl 9)) (hb : S.2.1 a 8 = some b) (h : am_R E d mX9_shuts k n 10 ls (.ref b :: st) S iv Q) : am_R E d mX9_shuts k n 7 ls (.ref a :: st) S iv Q := am_getR (ci := 9) dX9_shuts_7 rfl rfl (by decide) wq_576 uq_9 rfl ha hb h
theorem sX9_shuts_10 {a0 a1 : Value} (hv : am_rf a0 = true) (h : am_R E d mX9_shuts k n 11 [a0, a1] (a0 :: st) S iv Q) : am_R E d mX9_shuts k n 10 [a0, a1] st S iv Q := am_aload_n dX9_shuts_10 rfl rfl hv h
theorem sX9_shuts_11 {ls : List Value} {a b : Nat} (ha : S.1 a = some (.inl 9)) (hb : S.2.1 a 3 = some b) (h : am_R E d mX9_shuts k n 14 ls (.ref b :: st) S iv Q) : am_R E d mX9_shuts k n 11 ls (.ref a :: st) S iv Q := am_getR (ci := 9) dX9_shuts_11 rfl rfl (by decide) wq_561 uq_9 rfl ha hb h
theorem sX9_shuts_14 {a0 a1 : Value} (hv : am_rf a0 = true) (h : am_R E d mX9_shuts k n 15 [a0, a1] (a0 :: st) S iv Q) : am_R E d mX9_shuts k n 14 [a0, a1] st S iv Q := am_aload_n dX9_shuts_14 rfl rfl hv h
theorem sX9_shuts_15 {ls : List Value} {a b : Nat} (ha : S.1 a = some (.inl 9)) (hb : S.2.1 a 5 = some b) (h : am_R E d mX9_shuts k n 18 ls (.ref b :: st) S iv Q) : am_R E d mX9_shuts k n 15 ls (.ref a :: st) S iv Q := am_getR (ci := 9) dX9_shuts_15 rfl rfl (by decide) wq_569 uq_9 rfl ha hb h
theorem sX9_shuts_18 {ls : List Value} {a : Nat} (ha : S.1 a = some (.inl 7)) (h : am_R E d mX9_shuts k n 21 ls (.int (iv a 0) :: st) S iv Q) : am_R E d mX9_shuts k n 18 ls (.ref a :: st) S iv Q := am_getI (ci := 7) dX9_shuts_18 rfl rfl (by decide) wq_632 uq_7 rfl ha h
theorem sX9_shuts_21 {a0 a1 : Value} (hv : am_rf a0 = true) (h : am_R E d mX9_shuts k n 22 [a0, a1] (a0 :: st) S iv Q) : am_R E d mX9_shuts k n 21 [a0, a1] st S iv Q := am_aload_n dX9_shuts_21 rfl rfl hv h
theorem sX9_shuts_22 {ls : List Value} {a b : Nat} (ha : S.1 a = some (.inl 9)) (hb : S.2.1 a 5 = some b) (h : am_R E d mX9_shuts k n 25 ls (.ref b :: st) S iv Q) : am_R E d mX9_shuts k n 22 ls (.ref a :: st) S iv Q := am_getR (ci := 9) dX9_shuts_22 rfl rfl (by decide) wq_569 uq_9 rfl ha hb h
theorem sX9_shuts_25 {ls : List Value} {a : Nat} (ha : S.1 a = some (.inl 7)) (h : am_R E d mX9_shuts k n 28 ls (.int (iv a 1) :: st) S iv Q) : am_R E d mX9_shuts k n 25 ls (.ref a :: st) S iv Q := am_getI (ci := 7) dX9_shuts_25 rfl rfl (by decide) wq_635 uq_7 rfl ha h
theorem sX9_shuts_28 {a0 a1 : Value} (h : am_R E d mX9_shuts k n 29 [a0, a1] (.int 1 :: st) S iv Q) : am_R E d mX9_shuts k n 28 [a0, a1] st S iv Q := am_iconst dX9_shuts_28 (by decide) h
theorem sX9_shuts_29 {a0 : Value} {x : Int32} (h : am_R E d mX9_shuts k n 30 [a0, .int x] (.int x :: st) S iv Q) : am_R E d mX9_shuts k n 29 [a0, .int x] st S iv Q := am_iload_n dX9_shuts_29 rfl rfl h
theorem sX9_shuts_30 {ls : List Value} {x y : Int32} (h : am_R E d mX9_shuts k n 31 ls (.int (x <<< (y &&& 31)) :: st) S iv Q) : am_R E d mX9_shuts k n 30 ls (.int y :: .int x :: st) S iv Q := am_ishl dX9_shuts_30 h
theorem sX9_shuts_31 {a0 a1 : Value} (h : am_R E d mX9_shuts k n 32 [a0, a1] (.int 0 :: st) S iv Q) : am_R E d mX9_shuts k n 31 [a0, a1] st S iv Q := am_iconst dX9_shuts_31 (by decide) h
theorem sX9_shuts_32 {ls : List Value} {x1 x2 x3 x4 x5 : Value} {a : Nat} (ha : S.1 a = some (.inl 6)) (hst : (st.map fun v => v.category).sum ≤ 8) (hM : am_M E d mX6_seek 0 0 [.ref a, x1, x2, x3, x4, x5] S iv (am_K3 E (d + 1) mX9_shuts k n 32 ls st Q)) : am_R E (d + 1) mX9_shuts k n 32 ls (x5 :: x4 :: x3 :: x2 :: x1 :: .ref a :: st) S iv Q := am_cV (ci := 6) (M' := mX6_seek) (as := [x1, x2, x3, x4, x5]) dX9_shuts_32 rfl rfl rfl wq_694 wq_547 wq_548 wq_518 wq_544 hy_X6_seek (by decide) ha hst (by omega) (by omega) hM
theorem sX9_shuts_32_k {ls : List Value} {x1 x2 x3 x4 x5 : Value} {k' n' : Nat} {a : Nat} (ha : S.1 a = some (.inl 6)) (hst : (st.map fun v => v.category).sum ≤ 8) (hM : am_M E d mX6_seek k' n' [.ref a, x1, x2, x3, x4, x5] S iv (am_K3 E (d + 1) mX9_shuts k n 32 ls st Q)) : am_R E (d + 1) mX9_shuts (k' + k) (n' + n) 32 ls (x5 :: x4 :: x3 :: x2 :: x1 :: .ref a :: st) S iv Q := am_cV (ci := 6) (M' := mX6_seek) (as := [x1, x2, x3, x4, x5]) dX9_shuts_32 rfl rfl rfl wq_694 wq_547 wq_548 wq_518 wq_544 hy_X6_seek (by decide) ha hst (by omega) (by omega) hM
theorem sX9_shuts_35 {ls : List Value} {x1 : Value} {a : Nat} (ha : S.1 a = some (.inl 9)) (hst : (st.map fun v => v.category).sum ≤ 8) (hM : am_M E d mX9_keepSteps 0 0 [.ref a, x1] S iv (am_K3 E (d + 1) mX9_shuts k n 35 ls st Q)) : am_R E (d + 1) mX9_shuts k n 35 ls (x1 :: .ref a :: st) S iv Q := am_cV (ci := 9) (M' := mX9_keepSteps) (as := [x1]) dX9_shuts_35 rfl rfl rfl wq_697 wq_698 wq_699 wq_581 wq_695 hy_X9_keepSteps (by decide) ha hst (by omega) (by omega) hM
theorem sX9_shuts_35_k {ls : List Value} {x1 : Value} {k' n' : Nat} {a : Nat} (ha : S.1 a = some (.inl 9)) (hst : (st.map fun v => v.category).sum ≤ 8) (hM : am_M E d mX9_keepSteps k' n' [.ref a, x1] S iv (am_K3 E (d + 1) mX9_shuts k n 35 ls st Q)) : am_R E (d + 1) mX9_shuts (k' + k) (n' + n) 35 ls (x1 :: .ref a :: st) S iv Q := am_cV (ci := 9) (M' := mX9_keepSteps) (as := [x1]) dX9_shuts_35 rfl rfl rfl wq_697 wq_698 wq_699 wq_581 wq_695 hy_X9_keepSteps (by decide) ha hst (by omega) (by omega) hM
theorem sX9_shuts_38 {ls : List Value} {x : Int32} (h : Q (.inl (some (.int x))) S iv) : am_R E d mX9_shuts k n 38 ls [.int x] S iv Q := am_ireturn dX9_shuts_38 rfl h
theorem dX9_bread_0 : decode cX9_bread 0 = .ok (.aload_n 0, 1) := by decide +kernel
theorem dX9_bread_1 : decode cX9_bread 1 = .ok (.aload_n 0, 1) := by decide +kernel
theorem dX9_bread_2 : decode cX9_bread 2 = .ok (.aload_n 0, 1) := by decide +kernel
theorem dX9_bread_3 : decode cX9_bread 3 = .ok (.getfield 20, 3) := by decide +kernel
theorem dX9_bread_6 : decode cX9_bread 6 = .ok (.aload_n 0, 1) := by decide +kernel
theorem dX9_bread_7 : decode cX9_bread 7 = .ok (.getfield 30, 3) := by decide +kernel
theorem dX9_bread_10 : decode cX9_bread 10 = .ok (.getfield 137, 3) := by decide +kernel
theorem dX9_bread_13 : decode cX9_bread 13 = .ok (.invokevirtual 234, 3) := by decide +kernel
theorem dX9_bread_16 : decode cX9_bread 16 = .ok (.invokevirtual 231, 3) := by decide +kernel
theorem dX9_bread_19 : decode cX9_bread 19 = .ok (.ireturn, 1) := by decide +kernel
theorem sX9_bread_0 {a0 : Value} (hv : am_rf a0 = true) (h : am_R E d mX9_bread k n 1 [a0] (a0 :: st) S iv Q) : am_R E d mX9_bread k n 0 [a0] st S iv Q := am_aload_n dX9_bread_0 rfl rfl hv h
theorem sX9_bread_1 {a0 : Value} (hv : am_rf a0 = true) (h : am_R E d mX9_bread k n 2 [a0] (a0 :: st) S iv Q) : am_R E d mX9_bread k n 1 [a0] st S iv Q := am_aload_n dX9_bread_1 rfl rfl hv h
theorem sX9_bread_2 {a0 : Value} (hv : am_rf a0 = true) (h : am_R E d mX9_bread k n 3 [a0] (a0 :: st) S iv Q) : am_R E d mX9_bread k n 2 [a0] st S iv Q := am_aload_n dX9_bread_2 rfl rfl hv h
theorem sX9_bread_3 {ls : List Value} {a b : Nat} (ha : S.1 a = some (.inl 9)) (hb : S.2.1 a 3 = some b) (h : am_R E d mX9_bread k n 6 ls (.ref b :: st) S iv Q) : am_R E d mX9_bread k n 3 ls (.ref a :: st) S iv Q := am_getR (ci := 9) dX9_bread_3 rfl rfl (by decide) wq_561 uq_9 rfl ha hb h
theorem sX9_bread_6 {a0 : Value} (hv : am_rf a0 = true) (h : am_R E d mX9_bread k n 7 [a0] (a0 :: st) S iv Q) : am_R E d mX9_bread k n 6 [a0] st S iv Q := am_aload_n dX9_bread_6 rfl rfl hv h
theorem sX9_bread_7 {ls : List Value} {a b : Nat} (ha : S.1 a = some (.inl 9)) (hb : S.2.1 a 5 = some b) (h : am_R E d mX9_bread k n 10 ls (.ref b :: st) S iv Q) : am_R E d mX9_bread k n 7 ls (.ref a :: st) S iv Q := am_getR (ci := 9) dX9_bread_7 rfl rfl (by decide) wq_569 uq_9 rfl ha hb h
theorem sX9_bread_10 {ls : List Value} {a : Nat} (ha : S.1 a = some (.inl 7)) (h : am_R E d mX9_bread k n 13 ls (.int (iv a 1) :: st) S iv Q) : am_R E d mX9_bread k n 10 ls (.ref a :: st) S iv Q := am_getI (ci := 7) dX9_bread_10 rfl rfl (by decide) wq_635 uq_7 rfl ha h
theorem sX9_bread_13 {ls : List Value} {x1 x2 : Value} {a : Nat} (ha : S.1 a = some (.inl 9)) (hst : (st.map fun v => v.category).sum ≤ 8) (hM : am_M E d mX9_seekBread 0 0 [.ref a, x1, x2] S iv (am_K3 E (d + 1) mX9_bread k n 13 ls st Q)) : am_R E (d + 1) mX9_bread k n 13 ls (x2 :: x1 :: .ref a :: st) S iv Q := am_cV (ci := 9) (M' := mX9_seekBread) (as := [x1, x2]) dX9_bread_13 rfl rfl rfl wq_702 wq_703 wq_704 wq_581 wq_700 hy_X9_seekBread (by decide) ha hst (by omega) (by omega) hM
theorem sX9_bread_13_k {ls : List Value} {x1 x2 : Value} {k' n' : Nat} {a : Nat} (ha : S.1 a = some (.inl 9)) (hst : (st.map fun v => v.category).sum ≤ 8) (hM : am_M E d mX9_seekBread k' n' [.ref a, x1, x2] S iv (am_K3 E (d + 1) mX9_bread k n 13 ls st Q)) : am_R E (d + 1) mX9_bread (k' + k) (n' + n) 13 ls (x2 :: x1 :: .ref a :: st) S iv Q := am_cV (ci := 9) (M' := mX9_seekBread) (as := [x1, x2]) dX9_bread_13 rfl rfl rfl wq_702 wq_703 wq_704 wq_581 wq_700 hy_X9_seekBread (by decide) ha hst (by omega) (by omega) hM
theorem sX9_bread_16 {ls : List Value} {x1 : Value} {a : Nat} (ha : S.1 a = some (.inl 9)) (hst : (st.map fun v => v.category).sum ≤ 8) (hM : am_M E d mX9_keepSteps 0 0 [.ref a, x1] S iv (am_K3 E (d + 1) mX9_bread k n 16 ls st Q)) : am_R E (d + 1) mX9_bread k n 16 ls (x1 :: .ref a :: st) S iv Q := am_cV (ci := 9) (M' := mX9_keepSteps) (as := [x1]) dX9_bread_16 rfl rfl rfl wq_697 wq_698 wq_699 wq_581 wq_695 hy_X9_keepSteps (by decide) ha hst (by omega) (by omega) hM
theorem sX9_bread_16_k {ls : List Value} {x1 : Value} {k' n' : Nat} {a : Nat} (ha : S.1 a = some (.inl 9)) (hst : (st.map fun v => v.category).sum ≤ 8) (hM : am_M E d mX9_keepSteps k' n' [.ref a, x1] S iv (am_K3 E (d + 1) mX9_bread k n 16 ls st Q)) : am_R E (d + 1) mX9_bread (k' + k) (n' + n) 16 ls (x1 :: .ref a :: st) S iv Q := am_cV (ci := 9) (M' := mX9_keepSteps) (as := [x1]) dX9_bread_16 rfl rfl rfl wq_697 wq_698 wq_699 wq_581 wq_695 hy_X9_keepSteps (by decide) ha hst (by omega) (by omega) hM
theorem sX9_bread_19 {ls : List Value} {x : Int32} (h : Q (.inl (some (.int x))) S iv) : am_R E d mX9_bread k n 19 ls [.int x] S iv Q := am_ireturn dX9_bread_19 rfl h
theorem dX9_seekBread_0 : decode cX9_seekBread 0 = .ok (.aload_n 0, 1) := by decide +kernel
theorem dX9_seekBread_1 : decode cX9_seekBread 1 = .ok (.getfield 30, 3) := by decide +kernel
theorem dX9_seekBread_4 : decode cX9_seekBread 4 = .ok (.getfield 128, 3) := by decide +kernel
theorem dX9_seekBread_7 : decode cX9_seekBread 7 = .ok (.aload_n 0, 1) := by decide +kernel
theorem dX9_seekBread_8 : decode cX9_seekBread 8 = .ok (.getfield 30, 3) := by decide +kernel
theorem dX9_seekBread_11 : decode cX9_seekBread 11 = .ok (.getfield 134, 3) := by decide +kernel
theorem dX9_seekBread_14 : decode cX9_seekBread 14 = .ok (.aload_n 1, 1) := by decide +kernel
theorem dX9_seekBread_15 : decode cX9_seekBread 15 = .ok (.getfield 102, 3) := by decide +kernel
theorem dX9_seekBread_18 : decode cX9_seekBread 18 = .ok (.getfield 106, 3) := by decide +kernel
theorem dX9_seekBread_21 : decode cX9_seekBread 21 = .ok (.ishl, 1) := by decide +kernel
theorem dX9_seekBread_22 : decode cX9_seekBread 22 = .ok (.ior, 1) := by decide +kernel
theorem dX9_seekBread_23 : decode cX9_seekBread 23 = .ok (.istore_n 3, 1) := by decide +kernel
theorem dX9_seekBread_24 : decode cX9_seekBread 24 = .ok (.aload_n 1, 1) := by decide +kernel
theorem dX9_seekBread_25 : decode cX9_seekBread 25 = .ok (.getfield 111, 3) := by decide +kernel
theorem dX9_seekBread_28 : decode cX9_seekBread 28 = .ok (.invokevirtual 238, 3) := by decide +kernel
theorem dX9_seekBread_31 : decode cX9_seekBread 31 = .ok (.aload_n 1, 1) := by decide +kernel
theorem dX9_seekBread_32 : decode cX9_seekBread 32 = .ok (.getfield 102, 3) := by decide +kernel
theorem dX9_seekBread_35 : decode cX9_seekBread 35 = .ok (.getfield 106, 3) := by decide +kernel
theorem dX9_seekBread_38 : decode cX9_seekBread 38 = .ok (.ishl, 1) := by decide +kernel
theorem dX9_seekBread_39 : decode cX9_seekBread 39 = .ok (.istore 4, 2) := by decide +kernel
theorem dX9_seekBread_41 : decode cX9_seekBread 41 = .ok (.aload_n 0, 1) := by decide +kernel
theorem dX9_seekBread_42 : decode cX9_seekBread 42 = .ok (.getfield 40, 3) := by decide +kernel
theorem dX9_seekBread_45 : decode cX9_seekBread 45 = .ok (.aload_n 1, 1) := by decide +kernel
theorem dX9_seekBread_46 : decode cX9_seekBread 46 = .ok (.iload_n 3, 1) := by decide +kernel
theorem dX9_seekBread_47 : decode cX9_seekBread 47 = .ok (.iload_n 2, 1) := by decide +kernel
theorem dX9_seekBread_48 : decode cX9_seekBread 48 = .ok (.iload 4, 2) := by decide +kernel
theorem dX9_seekBread_50 : decode cX9_seekBread 50 = .ok (.iload 4, 2) := by decide +kernel
theorem dX9_seekBread_52 : decode cX9_seekBread 52 = .ok (.invokevirtual 227, 3) := by decide +kernel
theorem dX9_seekBread_55 : decode cX9_seekBread 55 = .ok (.ireturn, 1) := by decide +kernel
theorem sX9_seekBread_0 {a0 a1 a2 a3 a4 : Value} (hv : am_rf a0 = true) (h : am_R E d mX9_seekBread k n 1 [a0, a1, a2, a3, a4] (a0 :: st) S iv Q) : am_R E d mX9_seekBread k n 0 [a0, a1, a2, a3, a4] st S iv Q := am_aload_n dX9_seekBread_0 rfl rfl hv h
theorem sX9_seekBread_1 {ls : List Value} {a b : Nat} (ha : S.1 a = some (.inl 9)) (hb : S.2.1 a 5 = some b) (h : am_R E d mX9_seekBread k n 4 ls (.ref b :: st) S iv Q) : am_R E d mX9_seekBread k n 1 ls (.ref a :: st) S iv Q := am_getR (ci := 9) dX9_seekBread_1 rfl rfl (by decide) wq_569 uq_9 rfl ha hb h
theorem sX9_seekBread_4 {ls : List Value} {a : Nat} (ha : S.1 a = some (.inl 7)) (h : am_R E d mX9_seekBread k n 7 ls (.int (iv a 0) :: st) S iv Q) : am_R E d mX9_seekBread k n 4 ls (.ref a :: st) S iv Q := am_getI (ci := 7) dX9_seekBread_4 rfl rfl (by decide) wq_632 uq_7 rfl ha h
theorem sX9_seekBread_7 {a0 a1 a2 a3 a4 : Value} (hv : am_rf a0 = true) (h : am_R E d mX9_seekBread k n 8 [a0, a1, a2, a3, a4] (a0 :: st) S iv Q) : am_R E d mX9_seekBread k n 7 [a0, a1, a2, a3, a4] st S iv Q := am_aload_n dX9_seekBread_7 rfl rfl hv h
theorem sX9_seekBread_8 {ls : List Value} {a b : Nat} (ha : S.1 a = some (.inl 9)) (hb : S.2.1 a 5 = some b) (h : am_R E d mX9_seekBread k n 11 ls (.ref b :: st) S iv Q) : am_R E d mX9_seekBread k n 8 ls (.ref a :: st) S iv Q := am_getR (ci := 9) dX9_seekBread_8 rfl rfl (by decide) wq_569 uq_9 rfl ha hb h
theorem sX9_seekBread_11 {ls : List Value} {a : Nat} (ha : S.1 a = some (.inl 7)) (h : am_R E d mX9_seekBread k n 14 ls (.int (iv a 2) :: st) S iv Q) : am_R E d mX9_seekBread k n 11 ls (.ref a :: st) S iv Q := am_getI (ci := 7) dX9_seekBread_11 rfl rfl (by decide) wq_634 uq_7 rfl ha h
theorem sX9_seekBread_14 {a0 a1 a2 a3 a4 : Value} (hv : am_rf a1 = true) (h : am_R E d mX9_seekBread k n 15 [a0, a1, a2, a3, a4] (a1 :: st) S iv Q) : am_R E d mX9_seekBread k n 14 [a0, a1, a2, a3, a4] st S iv Q := am_aload_n dX9_seekBread_14 rfl rfl hv h
theorem sX9_seekBread_15 {ls : List Value} {a b : Nat} (ha : S.1 a = some (.inl 0)) (hb : S.2.1 a 7 = some b) (h : am_R E d mX9_seekBread k n 18 ls (.ref b :: st) S iv Q) : am_R E d mX9_seekBread k n 15 ls (.ref a :: st) S iv Q := am_getR (ci := 0) dX9_seekBread_15 rfl rfl (by decide) wq_625 uq_0 rfl ha hb h
theorem sX9_seekBread_18 {ls : List Value} {a : Nat} (ha : S.1 a = some (.inl 2)) (h : am_R E d mX9_seekBread k n 21 ls (.int (iv a 0) :: st) S iv Q) : am_R E d mX9_seekBread k n 18 ls (.ref a :: st) S iv Q := am_getI (ci := 2) dX9_seekBread_18 rfl rfl (by decide) wq_626 uq_2 rfl ha h
theorem sX9_seekBread_21 {ls : List Value} {x y : Int32} (h : am_R E d mX9_seekBread k n 22 ls (.int (x <<< (y &&& 31)) :: st) S iv Q) : am_R E d mX9_seekBread k n 21 ls (.int y :: .int x :: st) S iv Q := am_ishl dX9_seekBread_21 h
theorem sX9_seekBread_22 {ls : List Value} {x y : Int32} (h : am_R E d mX9_seekBread k n 23 ls (.int (x ||| y) :: st) S iv Q) : am_R E d mX9_seekBread k n 22 ls (.int y :: .int x :: st) S iv Q := am_ior dX9_seekBread_22 h
theorem sX9_seekBread_23 {a0 a1 a2 a3 a4 : Value} {x : Int32} (h : am_R E d mX9_seekBread k n 24 [a0, a1, a2, .int x, a4] st S iv Q) : am_R E d mX9_seekBread k n 23 [a0, a1, a2, a3, a4] (.int x :: st) S iv Q := am_istore_n dX9_seekBread_23 rfl (by decide) h
theorem sX9_seekBread_24 {a0 a1 a2 a3 a4 : Value} (hv : am_rf a1 = true) (h : am_R E d mX9_seekBread k n 25 [a0, a1, a2, a3, a4] (a1 :: st) S iv Q) : am_R E d mX9_seekBread k n 24 [a0, a1, a2, a3, a4] st S iv Q := am_aload_n dX9_seekBread_24 rfl rfl hv h
theorem sX9_seekBread_25 {ls : List Value} {a b : Nat} (ha : S.1 a = some (.inl 0)) (hb : S.2.1 a 8 = some b) (h : am_R E d mX9_seekBread k n 28 ls (.ref b :: st) S iv Q) : am_R E d mX9_seekBread k n 25 ls (.ref a :: st) S iv Q := am_getR (ci := 0) dX9_seekBread_25 rfl rfl (by decide) wq_627 uq_0 rfl ha hb h
theorem sX9_seekBread_28 {ls : List Value} {a : Nat} (ha : S.1 a = some (.inl 4)) (hst : (st.map fun v => v.category).sum ≤ 8) (hM : am_M E d mX4_hungry 0 0 [.ref a] S iv (am_K3 E (d + 1) mX9_seekBread k n 28 ls st Q)) : am_R E (d + 1) mX9_seekBread k n 28 ls (.ref a :: st) S iv Q := am_cV (ci := 4) (M' := mX4_hungry) (as := []) dX9_seekBread_28 rfl rfl rfl wq_707 wq_708 wq_709 wq_168 wq_705 hy_X4_hungry (by decide) ha hst (by omega) (by omega) hM
theorem sX9_seekBread_28_k {ls : List Value} {k' n' : Nat} {a : Nat} (ha : S.1 a = some (.inl 4)) (hst : (st.map fun v => v.category).sum ≤ 8) (hM : am_M E d mX4_hungry k' n' [.ref a] S iv (am_K3 E (d + 1) mX9_seekBread k n 28 ls st Q)) : am_R E (d + 1) mX9_seekBread (k' + k) (n' + n) 28 ls (.ref a :: st) S iv Q := am_cV (ci := 4) (M' := mX4_hungry) (as := []) dX9_seekBread_28 rfl rfl rfl wq_707 wq_708 wq_709 wq_168 wq_705 hy_X4_hungry (by decide) ha hst (by omega) (by omega) hM
theorem sX9_seekBread_31 {a0 a1 a2 a3 a4 : Value} (hv : am_rf a1 = true) (h : am_R E d mX9_seekBread k n 32 [a0, a1, a2, a3, a4] (a1 :: st) S iv Q) : am_R E d mX9_seekBread k n 31 [a0, a1, a2, a3, a4] st S iv Q := am_aload_n dX9_seekBread_31 rfl rfl hv h
theorem sX9_seekBread_32 {ls : List Value} {a b : Nat} (ha : S.1 a = some (.inl 0)) (hb : S.2.1 a 7 = some b) (h : am_R E d mX9_seekBread k n 35 ls (.ref b :: st) S iv Q) : am_R E d mX9_seekBread k n 32 ls (.ref a :: st) S iv Q := am_getR (ci := 0) dX9_seekBread_32 rfl rfl (by decide) wq_625 uq_0 rfl ha hb h
theorem sX9_seekBread_35 {ls : List Value} {a : Nat} (ha : S.1 a = some (.inl 2)) (h : am_R E d mX9_seekBread k n 38 ls (.int (iv a 0) :: st) S iv Q) : am_R E d mX9_seekBread k n 35 ls (.ref a :: st) S iv Q := am_getI (ci := 2) dX9_seekBread_35 rfl rfl (by decide) wq_626 uq_2 rfl ha h
theorem sX9_seekBread_38 {ls : List Value} {x y : Int32} (h : am_R E d mX9_seekBread k n 39 ls (.int (x <<< (y &&& 31)) :: st) S iv Q) : am_R E d mX9_seekBread k n 38 ls (.int y :: .int x :: st) S iv Q := am_ishl dX9_seekBread_38 h
theorem sX9_seekBread_39 {a0 a1 a2 a3 a4 : Value} {x : Int32} (h : am_R E d mX9_seekBread k n 41 [a0, a1, a2, a3, .int x] st S iv Q) : am_R E d mX9_seekBread k n 39 [a0, a1, a2, a3, a4] (.int x :: st) S iv Q := am_istore dX9_seekBread_39 (by decide) h
theorem sX9_seekBread_41 {a0 a1 a2 a3 a4 : Value} (hv : am_rf a0 = true) (h : am_R E d mX9_seekBread k n 42 [a0, a1, a2, a3, a4] (a0 :: st) S iv Q) : am_R E d mX9_seekBread k n 41 [a0, a1, a2, a3, a4] st S iv Q := am_aload_n dX9_seekBread_41 rfl rfl hv h
theorem sX9_seekBread_42 {ls : List Value} {a b : Nat} (ha : S.1 a = some (.inl 9)) (hb : S.2.1 a 8 = some b) (h : am_R E d mX9_seekBread k n 45 ls (.ref b :: st) S iv Q) : am_R E d mX9_seekBread k n 42 ls (.ref a :: st) S iv Q := am_getR (ci := 9) dX9_seekBread_42 rfl rfl (by decide) wq_576 uq_9 rfl ha hb h
theorem sX9_seekBread_45 {a0 a1 a2 a3 a4 : Value} (hv : am_rf a1 = true) (h : am_R E d mX9_seekBread k n 46 [a0, a1, a2, a3, a4] (a1 :: st) S iv Q) : am_R E d mX9_seekBread k n 45 [a0, a1, a2, a3, a4] st S iv Q := am_aload_n dX9_seekBread_45 rfl rfl hv h
theorem sX9_seekBread_46 {a0 a1 a2 a4 : Value} {x : Int32} (h : am_R E d mX9_seekBread k n 47 [a0, a1, a2, .int x, a4] (.int x :: st) S iv Q) : am_R E d mX9_seekBread k n 46 [a0, a1, a2, .int x, a4] st S iv Q := am_iload_n dX9_seekBread_46 rfl rfl h
theorem sX9_seekBread_47 {a0 a1 a3 a4 : Value} {x : Int32} (h : am_R E d mX9_seekBread k n 48 [a0, a1, .int x, a3, a4] (.int x :: st) S iv Q) : am_R E d mX9_seekBread k n 47 [a0, a1, .int x, a3, a4] st S iv Q := am_iload_n dX9_seekBread_47 rfl rfl h
theorem sX9_seekBread_48 {a0 a1 a2 a3 : Value} {x : Int32} (h : am_R E d mX9_seekBread k n 50 [a0, a1, a2, a3, .int x] (.int x :: st) S iv Q) : am_R E d mX9_seekBread k n 48 [a0, a1, a2, a3, .int x] st S iv Q := am_iload dX9_seekBread_48 rfl h
theorem sX9_seekBread_50 {a0 a1 a2 a3 : Value} {x : Int32} (h : am_R E d mX9_seekBread k n 52 [a0, a1, a2, a3, .int x] (.int x :: st) S iv Q) : am_R E d mX9_seekBread k n 50 [a0, a1, a2, a3, .int x] st S iv Q := am_iload dX9_seekBread_50 rfl h
theorem sX9_seekBread_52 {ls : List Value} {x1 x2 x3 x4 x5 : Value} {a : Nat} (ha : S.1 a = some (.inl 6)) (hst : (st.map fun v => v.category).sum ≤ 8) (hM : am_M E d mX6_seek 0 0 [.ref a, x1, x2, x3, x4, x5] S iv (am_K3 E (d + 1) mX9_seekBread k n 52 ls st Q)) : am_R E (d + 1) mX9_seekBread k n 52 ls (x5 :: x4 :: x3 :: x2 :: x1 :: .ref a :: st) S iv Q := am_cV (ci := 6) (M' := mX6_seek) (as := [x1, x2, x3, x4, x5]) dX9_seekBread_52 rfl rfl rfl wq_694 wq_547 wq_548 wq_518 wq_544 hy_X6_seek (by decide) ha hst (by omega) (by omega) hM
theorem sX9_seekBread_52_k {ls : List Value} {x1 x2 x3 x4 x5 : Value} {k' n' : Nat} {a : Nat} (ha : S.1 a = some (.inl 6)) (hst : (st.map fun v => v.category).sum ≤ 8) (hM : am_M E d mX6_seek k' n' [.ref a, x1, x2, x3, x4, x5] S iv (am_K3 E (d + 1) mX9_seekBread k n 52 ls st Q)) : am_R E (d + 1) mX9_seekBread (k' + k) (n' + n) 52 ls (x5 :: x4 :: x3 :: x2 :: x1 :: .ref a :: st) S iv Q := am_cV (ci := 6) (M' := mX6_seek) (as := [x1, x2, x3, x4, x5]) dX9_seekBread_52 rfl rfl rfl wq_694 wq_547 wq_548 wq_518 wq_544 hy_X6_seek (by decide) ha hst (by omega) (by omega) hM
theorem sX9_seekBread_55 {ls : List Value} {x : Int32} (h : Q (.inl (some (.int x))) S iv) : am_R E d mX9_seekBread k n 55 ls [.int x] S iv Q := am_ireturn dX9_seekBread_55 rfl h
theorem dX9_keepSteps_0 : decode cX9_keepSteps 0 = .ok (.iload_n 1, 1) := by decide +kernel
theorem dX9_keepSteps_1 : decode cX9_keepSteps 1 = .ok (.iconst (-1), 1) := by decide +kernel
theorem dX9_keepSteps_2 : decode cX9_keepSteps 2 = .ok (.if_icmp .ne 5, 3) := by decide +kernel
theorem dX9_keepSteps_5 : decode cX9_keepSteps 5 = .ok (.iconst (-1), 1) := by decide +kernel
theorem dX9_keepSteps_6 : decode cX9_keepSteps 6 = .ok (.ireturn, 1) := by decide +kernel
theorem dX9_keepSteps_7 : decode cX9_keepSteps 7 = .ok (.aload_n 0, 1) := by decide +kernel
theorem dX9_keepSteps_8 : decode cX9_keepSteps 8 = .ok (.getfield 40, 3) := by decide +kernel
theorem dX9_keepSteps_11 : decode cX9_keepSteps 11 = .ok (.iload_n 1, 1) := by decide +kernel
theorem dX9_keepSteps_12 : decode cX9_keepSteps 12 = .ok (.invokevirtual 241, 3) := by decide +kernel
theorem dX9_keepSteps_15 : decode cX9_keepSteps 15 = .ok (.istore_n 2, 1) := by decide +kernel
theorem dX9_keepSteps_16 : decode cX9_keepSteps 16 = .ok (.aload_n 0, 1) := by decide +kernel
theorem dX9_keepSteps_17 : decode cX9_keepSteps 17 = .ok (.getfield 44, 3) := by decide +kernel
theorem dX9_keepSteps_20 : decode cX9_keepSteps 20 = .ok (.arraylength, 1) := by decide +kernel
theorem dX9_keepSteps_21 : decode cX9_keepSteps 21 = .ok (.iload_n 2, 1) := by decide +kernel
theorem dX9_keepSteps_22 : decode cX9_keepSteps 22 = .ok (.if_icmp .ge 10, 3) := by decide +kernel
theorem dX9_keepSteps_25 : decode cX9_keepSteps 25 = .ok (.aload_n 0, 1) := by decide +kernel
theorem dX9_keepSteps_26 : decode cX9_keepSteps 26 = .ok (.iload_n 2, 1) := by decide +kernel
theorem dX9_keepSteps_27 : decode cX9_keepSteps 27 = .ok (.newarray .int, 2) := by decide +kernel
theorem dX9_keepSteps_29 : decode cX9_keepSteps 29 = .ok (.putfield 44, 3) := by decide +kernel
theorem dX9_keepSteps_32 : decode cX9_keepSteps 32 = .ok (.aload_n 0, 1) := by decide +kernel
theorem dX9_keepSteps_33 : decode cX9_keepSteps 33 = .ok (.getfield 40, 3) := by decide +kernel
theorem dX9_keepSteps_36 : decode cX9_keepSteps 36 = .ok (.iload_n 1, 1) := by decide +kernel
theorem dX9_keepSteps_37 : decode cX9_keepSteps 37 = .ok (.iload_n 2, 1) := by decide +kernel
theorem dX9_keepSteps_38 : decode cX9_keepSteps 38 = .ok (.aload_n 0, 1) := by decide +kernel
theorem dX9_keepSteps_39 : decode cX9_keepSteps 39 = .ok (.getfield 44, 3) := by decide +kernel
theorem dX9_keepSteps_42 : decode cX9_keepSteps 42 = .ok (.invokevirtual 244, 3) := by decide +kernel
theorem dX9_keepSteps_45 : decode cX9_keepSteps 45 = .ok (.aload_n 0, 1) := by decide +kernel
theorem dX9_keepSteps_46 : decode cX9_keepSteps 46 = .ok (.iload_n 2, 1) := by decide +kernel
theorem dX9_keepSteps_47 : decode cX9_keepSteps 47 = .ok (.putfield 48, 3) := by decide +kernel
theorem dX9_keepSteps_50 : decode cX9_keepSteps 50 = .ok (.iload_n 2, 1) := by decide +kernel
theorem dX9_keepSteps_51 : decode cX9_keepSteps 51 = .ok (.ireturn, 1) := by decide +kernel
theorem sX9_keepSteps_0 {a0 a2 : Value} {x : Int32} (h : am_R E d mX9_keepSteps k n 1 [a0, .int x, a2] (.int x :: st) S iv Q) : am_R E d mX9_keepSteps k n 0 [a0, .int x, a2] st S iv Q := am_iload_n dX9_keepSteps_0 rfl rfl h
theorem sX9_keepSteps_1 {a0 a1 a2 : Value} (h : am_R E d mX9_keepSteps k n 2 [a0, a1, a2] (.int (-1) :: st) S iv Q) : am_R E d mX9_keepSteps k n 1 [a0, a1, a2] st S iv Q := am_iconst dX9_keepSteps_1 (by decide) h
theorem sX9_keepSteps_2 {ls : List Value} {x y : Int32} (kt : ¬ x = y → am_R E d mX9_keepSteps k n 7 ls st S iv Q) (kf : x = y → am_R E d mX9_keepSteps k n 5 ls st S iv Q) : am_R E d mX9_keepSteps k n 2 ls (.int y :: .int x :: st) S iv Q := am_icmp_ne dX9_keepSteps_2 (by decide) kt kf
theorem sX9_keepSteps_5 {a0 a1 a2 : Value} (h : am_R E d mX9_keepSteps k n 6 [a0, a1, a2] (.int (-1) :: st) S iv Q) : am_R E d mX9_keepSteps k n 5 [a0, a1, a2] st S iv Q := am_iconst dX9_keepSteps_5 (by decide) h
theorem sX9_keepSteps_6 {ls : List Value} {x : Int32} (h : Q (.inl (some (.int x))) S iv) : am_R E d mX9_keepSteps k n 6 ls [.int x] S iv Q := am_ireturn dX9_keepSteps_6 rfl h
theorem sX9_keepSteps_7 {a0 a1 a2 : Value} (hv : am_rf a0 = true) (h : am_R E d mX9_keepSteps k n 8 [a0, a1, a2] (a0 :: st) S iv Q) : am_R E d mX9_keepSteps k n 7 [a0, a1, a2] st S iv Q := am_aload_n dX9_keepSteps_7 rfl rfl hv h
theorem sX9_keepSteps_8 {ls : List Value} {a b : Nat} (ha : S.1 a = some (.inl 9)) (hb : S.2.1 a 8 = some b) (h : am_R E d mX9_keepSteps k n 11 ls (.ref b :: st) S iv Q) : am_R E d mX9_keepSteps k n 8 ls (.ref a :: st) S iv Q := am_getR (ci := 9) dX9_keepSteps_8 rfl rfl (by decide) wq_576 uq_9 rfl ha hb h
theorem sX9_keepSteps_11 {a0 a2 : Value} {x : Int32} (h : am_R E d mX9_keepSteps k n 12 [a0, .int x, a2] (.int x :: st) S iv Q) : am_R E d mX9_keepSteps k n 11 [a0, .int x, a2] st S iv Q := am_iload_n dX9_keepSteps_11 rfl rfl h
theorem sX9_keepSteps_12 {ls : List Value} {x1 : Value} {a : Nat} (ha : S.1 a = some (.inl 6)) (hst : (st.map fun v => v.category).sum ≤ 8) (hM : am_M E d mX6_stepsTo 0 0 [.ref a, x1] S iv (am_K3 E (d + 1) mX9_keepSteps k n 12 ls st Q)) : am_R E (d + 1) mX9_keepSteps k n 12 ls (x1 :: .ref a :: st) S iv Q := am_cV (ci := 6) (M' := mX6_stepsTo) (as := [x1]) dX9_keepSteps_12 rfl rfl rfl wq_712 wq_713 wq_714 wq_518 wq_710 hy_X6_stepsTo (by decide) ha hst (by omega) (by omega) hM
theorem sX9_keepSteps_12_k {ls : List Value} {x1 : Value} {k' n' : Nat} {a : Nat} (ha : S.1 a = some (.inl 6)) (hst : (st.map fun v => v.category).sum ≤ 8) (hM : am_M E d mX6_stepsTo k' n' [.ref a, x1] S iv (am_K3 E (d + 1) mX9_keepSteps k n 12 ls st Q)) : am_R E (d + 1) mX9_keepSteps (k' + k) (n' + n) 12 ls (x1 :: .ref a :: st) S iv Q := am_cV (ci := 6) (M' := mX6_stepsTo) (as := [x1]) dX9_keepSteps_12 rfl rfl rfl wq_712 wq_713 wq_714 wq_518 wq_710 hy_X6_stepsTo (by decide) ha hst (by omega) (by omega) hM
theorem sX9_keepSteps_15 {a0 a1 a2 : Value} {x : Int32} (h : am_R E d mX9_keepSteps k n 16 [a0, a1, .int x] st S iv Q) : am_R E d mX9_keepSteps k n 15 [a0, a1, a2] (.int x :: st) S iv Q := am_istore_n dX9_keepSteps_15 rfl (by decide) h
theorem sX9_keepSteps_16 {a0 a1 a2 : Value} (hv : am_rf a0 = true) (h : am_R E d mX9_keepSteps k n 17 [a0, a1, a2] (a0 :: st) S iv Q) : am_R E d mX9_keepSteps k n 16 [a0, a1, a2] st S iv Q := am_aload_n dX9_keepSteps_16 rfl rfl hv h
theorem sX9_keepSteps_17 {ls : List Value} {a b : Nat} (ha : S.1 a = some (.inl 9)) (hb : S.2.1 a 9 = some b) (h : am_R E d mX9_keepSteps k n 20 ls (.ref b :: st) S iv Q) : am_R E d mX9_keepSteps k n 17 ls (.ref a :: st) S iv Q := am_getR (ci := 9) dX9_keepSteps_17 rfl rfl (by decide) wq_577 uq_9 rfl ha hb h
theorem sX9_keepSteps_20 {ls : List Value} {a m t : Nat} {ty : FieldType} (ha : S.1 a = some (.inr (ty, m))) (ht : am_ti ty = some t) (h : am_R E d mX9_keepSteps k n 21 ls (.int (Int32.ofNat m) :: st) S iv Q) : am_R E d mX9_keepSteps k n 20 ls (.ref a :: st) S iv Q := am_alen dX9_keepSteps_20 ha ht h
theorem sX9_keepSteps_21 {a0 a1 : Value} {x : Int32} (h : am_R E d mX9_keepSteps k n 22 [a0, a1, .int x] (.int x :: st) S iv Q) : am_R E d mX9_keepSteps k n 21 [a0, a1, .int x] st S iv Q := am_iload_n dX9_keepSteps_21 rfl rfl h
theorem sX9_keepSteps_22 {ls : List Value} {x y : Int32} (kt : y ≤ x → am_R E d mX9_keepSteps k n 32 ls st S iv Q) (kf : ¬ y ≤ x → am_R E d mX9_keepSteps k n 25 ls st S iv Q) : am_R E d mX9_keepSteps k n 22 ls (.int y :: .int x :: st) S iv Q := am_icmp_ge dX9_keepSteps_22 (by decide) kt kf
theorem sX9_keepSteps_25 {a0 a1 a2 : Value} (hv : am_rf a0 = true) (h : am_R E d mX9_keepSteps k n 26 [a0, a1, a2] (a0 :: st) S iv Q) : am_R E d mX9_keepSteps k n 25 [a0, a1, a2] st S iv Q := am_aload_n dX9_keepSteps_25 rfl rfl hv h
theorem sX9_keepSteps_26 {a0 a1 : Value} {x : Int32} (h : am_R E d mX9_keepSteps k n 27 [a0, a1, .int x] (.int x :: st) S iv Q) : am_R E d mX9_keepSteps k n 26 [a0, a1, .int x] st S iv Q := am_iload_n dX9_keepSteps_26 rfl rfl h
theorem sX9_keepSteps_27 {ls : List Value} {x : Int32} {m : Nat} (hx : ¬ x < 0) (hm : x.toNatClampNeg = m) (hb : m ≤ 50000000) (h : am_R E d mX9_keepSteps k n 29 ls (.ref S.2.2.2 :: st) (am_new S (.inr (.int, m))) (am_0 S iv) Q) : am_R E d mX9_keepSteps (k + 1) (n + m) 27 ls (.int x :: st) S iv Q := am_nI dX9_keepSteps_27 wq_65 hx hm (by omega) (by omega) (by omega) h
theorem sX9_keepSteps_29 {ls : List Value} {a b : Nat} (ha : S.1 a = some (.inl 9)) (h : am_R E d mX9_keepSteps k n 32 ls st (am_wr S a 9 b) iv Q) : am_R E d mX9_keepSteps k n 29 ls (.ref b :: .ref a :: st) S iv Q := am_putR (ci := 9) dX9_keepSteps_29 rfl rfl (by decide) wq_577 uq_9 tyX9_ok nmX9 (Or.inl rfl) rfl ha h
theorem sX9_keepSteps_32 {a0 a1 a2 : Value} (hv : am_rf a0 = true) (h : am_R E d mX9_keepSteps k n 33 [a0, a1, a2] (a0 :: st) S iv Q) : am_R E d mX9_keepSteps k n 32 [a0, a1, a2] st S iv Q := am_aload_n dX9_keepSteps_32 rfl rfl hv h
theorem sX9_keepSteps_33 {ls : List Value} {a b : Nat} (ha : S.1 a = some (.inl 9)) (hb : S.2.1 a 8 = some b) (h : am_R E d mX9_keepSteps k n 36 ls (.ref b :: st) S iv Q) : am_R E d mX9_keepSteps k n 33 ls (.ref a :: st) S iv Q := am_getR (ci := 9) dX9_keepSteps_33 rfl rfl (by decide) wq_576 uq_9 rfl ha hb h
theorem sX9_keepSteps_36 {a0 a2 : Value} {x : Int32} (h : am_R E d mX9_keepSteps k n 37 [a0, .int x, a2] (.int x :: st) S iv Q) : am_R E d mX9_keepSteps k n 36 [a0, .int x, a2] st S iv Q := am_iload_n dX9_keepSteps_36 rfl rfl h
theorem sX9_keepSteps_37 {a0 a1 : Value} {x : Int32} (h : am_R E d mX9_keepSteps k n 38 [a0, a1, .int x] (.int x :: st) S iv Q) : am_R E d mX9_keepSteps k n 37 [a0, a1, .int x] st S iv Q := am_iload_n dX9_keepSteps_37 rfl rfl h
theorem sX9_keepSteps_38 {a0 a1 a2 : Value} (hv : am_rf a0 = true) (h : am_R E d mX9_keepSteps k n 39 [a0, a1, a2] (a0 :: st) S iv Q) : am_R E d mX9_keepSteps k n 38 [a0, a1, a2] st S iv Q := am_aload_n dX9_keepSteps_38 rfl rfl hv h
theorem sX9_keepSteps_39 {ls : List Value} {a b : Nat} (ha : S.1 a = some (.inl 9)) (hb : S.2.1 a 9 = some b) (h : am_R E d mX9_keepSteps k n 42 ls (.ref b :: st) S iv Q) : am_R E d mX9_keepSteps k n 39 ls (.ref a :: st) S iv Q := am_getR (ci := 9) dX9_keepSteps_39 rfl rfl (by decide) wq_577 uq_9 rfl ha hb h
theorem sX9_keepSteps_42 {ls : List Value} {x1 x2 x3 : Value} {a : Nat} (ha : S.1 a = some (.inl 6)) (hst : (st.map fun v => v.category).sum ≤ 8) (hM : am_M E d mX6_writeSteps 0 0 [.ref a, x1, x2, x3] S iv (am_K3 E (d + 1) mX9_keepSteps k n 42 ls st Q)) : am_R E (d + 1) mX9_keepSteps k n 42 ls (x3 :: x2 :: x1 :: .ref a :: st) S iv Q := am_cV (ci := 6) (M' := mX6_writeSteps) (as := [x1, x2, x3]) dX9_keepSteps_42 rfl rfl rfl wq_717 wq_718 wq_719 wq_518 wq_715 hy_X6_writeSteps (by decide) ha hst (by omega) (by omega) hM
theorem sX9_keepSteps_42_k {ls : List Value} {x1 x2 x3 : Value} {k' n' : Nat} {a : Nat} (ha : S.1 a = some (.inl 6)) (hst : (st.map fun v => v.category).sum ≤ 8) (hM : am_M E d mX6_writeSteps k' n' [.ref a, x1, x2, x3] S iv (am_K3 E (d + 1) mX9_keepSteps k n 42 ls st Q)) : am_R E (d + 1) mX9_keepSteps (k' + k) (n' + n) 42 ls (x3 :: x2 :: x1 :: .ref a :: st) S iv Q := am_cV (ci := 6) (M' := mX6_writeSteps) (as := [x1, x2, x3]) dX9_keepSteps_42 rfl rfl rfl wq_717 wq_718 wq_719 wq_518 wq_715 hy_X6_writeSteps (by decide) ha hst (by omega) (by omega) hM
theorem sX9_keepSteps_45 {a0 a1 a2 : Value} (hv : am_rf a0 = true) (h : am_R E d mX9_keepSteps k n 46 [a0, a1, a2] (a0 :: st) S iv Q) : am_R E d mX9_keepSteps k n 45 [a0, a1, a2] st S iv Q := am_aload_n dX9_keepSteps_45 rfl rfl hv h
theorem sX9_keepSteps_46 {a0 a1 : Value} {x : Int32} (h : am_R E d mX9_keepSteps k n 47 [a0, a1, .int x] (.int x :: st) S iv Q) : am_R E d mX9_keepSteps k n 46 [a0, a1, .int x] st S iv Q := am_iload_n dX9_keepSteps_46 rfl rfl h
theorem sX9_keepSteps_47 {ls : List Value} {a : Nat} {x : Int32} (ha : S.1 a = some (.inl 9)) (h : am_R E d mX9_keepSteps k n 50 ls st S (am_w iv a 10 x) Q) : am_R E d mX9_keepSteps k n 47 ls (.int x :: .ref a :: st) S iv Q := am_putI (ci := 9) dX9_keepSteps_47 rfl rfl (by decide) wq_578 uq_9 tyX9_ok nmX9 (Or.inl rfl) rfl ha h
theorem sX9_keepSteps_50 {a0 a1 : Value} {x : Int32} (h : am_R E d mX9_keepSteps k n 51 [a0, a1, .int x] (.int x :: st) S iv Q) : am_R E d mX9_keepSteps k n 50 [a0, a1, .int x] st S iv Q := am_iload_n dX9_keepSteps_50 rfl rfl h
theorem sX9_keepSteps_51 {ls : List Value} {x : Int32} (h : Q (.inl (some (.int x))) S iv) : am_R E d mX9_keepSteps k n 51 ls [.int x] S iv Q := am_ireturn dX9_keepSteps_51 rfl h
theorem dX9_row_0 : decode cX9_row 0 = .ok (.aload_n 0, 1) := by decide +kernel
theorem dX9_row_1 : decode cX9_row 1 = .ok (.getfield 48, 3) := by decide +kernel
theorem dX9_row_4 : decode cX9_row 4 = .ok (.iconst (-1), 1) := by decide +kernel
theorem dX9_row_5 : decode cX9_row 5 = .ok (.if_icmp .ne 13, 3) := by decide +kernel
theorem dX9_row_8 : decode cX9_row 8 = .ok (.new 143, 3) := by decide +kernel
theorem dX9_row_11 : decode cX9_row 11 = .ok (.dup, 1) := by decide +kernel
theorem dX9_row_12 : decode cX9_row 12 = .ok (.ldc 248, 2) := by decide +kernel
theorem dX9_row_14 : decode cX9_row 14 = .ok (.invokespecial 147, 3) := by decide +kernel
theorem dX9_row_17 : decode cX9_row 17 = .ok (.athrow, 1) := by decide +kernel
theorem dX9_row_18 : decode cX9_row 18 = .ok (.iload_n 1, 1) := by decide +kernel
theorem dX9_row_19 : decode cX9_row 19 = .ok (.iconst (-1), 1) := by decide +kernel
theorem dX9_row_20 : decode cX9_row 20 = .ok (.if_icmp .ne 8, 3) := by decide +kernel
theorem dX9_row_23 : decode cX9_row 23 = .ok (.aload_n 0, 1) := by decide +kernel
theorem dX9_row_24 : decode cX9_row 24 = .ok (.getfield 48, 3) := by decide +kernel
theorem dX9_row_27 : decode cX9_row 27 = .ok (.ireturn, 1) := by decide +kernel
theorem dX9_row_28 : decode cX9_row 28 = .ok (.iload_n 1, 1) := by decide +kernel
theorem dX9_row_29 : decode cX9_row 29 = .ok (.ifCond .lt 11, 3) := by decide +kernel
theorem dX9_row_32 : decode cX9_row 32 = .ok (.iload_n 1, 1) := by decide +kernel
theorem dX9_row_33 : decode cX9_row 33 = .ok (.aload_n 0, 1) := by decide +kernel
theorem dX9_row_34 : decode cX9_row 34 = .ok (.getfield 48, 3) := by decide +kernel
theorem dX9_row_37 : decode cX9_row 37 = .ok (.if_icmp .lt 13, 3) := by decide +kernel
theorem dX9_row_40 : decode cX9_row 40 = .ok (.new 143, 3) := by decide +kernel
theorem dX9_row_43 : decode cX9_row 43 = .ok (.dup, 1) := by decide +kernel
theorem dX9_row_44 : decode cX9_row 44 = .ok (.ldc 250, 2) := by decide +kernel
theorem dX9_row_46 : decode cX9_row 46 = .ok (.invokespecial 147, 3) := by decide +kernel
theorem dX9_row_49 : decode cX9_row 49 = .ok (.athrow, 1) := by decide +kernel
theorem dX9_row_50 : decode cX9_row 50 = .ok (.aload_n 0, 1) := by decide +kernel
theorem dX9_row_51 : decode cX9_row 51 = .ok (.getfield 44, 3) := by decide +kernel
theorem dX9_row_54 : decode cX9_row 54 = .ok (.iload_n 1, 1) := by decide +kernel
theorem dX9_row_55 : decode cX9_row 55 = .ok (.iaload, 1) := by decide +kernel
theorem dX9_row_56 : decode cX9_row 56 = .ok (.ireturn, 1) := by decide +kernel
theorem sX9_row_0 {a0 a1 : Value} (hv : am_rf a0 = true) (h : am_R E d mX9_row k n 1 [a0, a1] (a0 :: st) S iv Q) : am_R E d mX9_row k n 0 [a0, a1] st S iv Q := am_aload_n dX9_row_0 rfl rfl hv h
theorem sX9_row_1 {ls : List Value} {a : Nat} (ha : S.1 a = some (.inl 9)) (h : am_R E d mX9_row k n 4 ls (.int (iv a 10) :: st) S iv Q) : am_R E d mX9_row k n 1 ls (.ref a :: st) S iv Q := am_getI (ci := 9) dX9_row_1 rfl rfl (by decide) wq_578 uq_9 rfl ha h
theorem sX9_row_4 {a0 a1 : Value} (h : am_R E d mX9_row k n 5 [a0, a1] (.int (-1) :: st) S iv Q) : am_R E d mX9_row k n 4 [a0, a1] st S iv Q := am_iconst dX9_row_4 (by decide) h
theorem sX9_row_5 {ls : List Value} {x y : Int32} (kt : ¬ x = y → am_R E d mX9_row k n 18 ls st S iv Q) (kf : x = y → am_R E d mX9_row k n 8 ls st S iv Q) : am_R E d mX9_row k n 5 ls (.int y :: .int x :: st) S iv Q := am_icmp_ne dX9_row_5 (by decide) kt kf
theorem sX9_row_8 {ls : List Value} (hst : (st.map fun v => v.category).sum ≤ 8) (h : ∀ nx, S.2.2.2 ≤ nx → Q (.inr "java/util/NoSuchElementException") (S.1, S.2.1, S.2.2.1, nx) iv) : am_R E (d + 7) mX9_row (k + 1) (n + 6) 8 ls st S iv Q := am_throwN (X := "java/util/NoSuchElementException") (tx := "no row is kept") (j := 31) wq_639_b0 wq_639_b1 wq_639_b2 wq_639_b5 dX9_row_8 dX9_row_11 (Or.inl ⟨rfl, dX9_row_12⟩) dX9_row_14 dX9_row_17 rfl (by decide) (by decide) (by decide) (by decide) wq_637 wq_638 wq_639 wq_639_g (List.mem_of_getElem? (i := 31) rfl) (by omega) hst (by omega) (by omega) h
theorem sX9_row_11 {ls : List Value} {x : Value} (hv : x.category = 1) (h : am_R E d mX9_row k n 12 ls (x :: x :: st) S iv Q) : am_R E d mX9_row k n 11 ls (x :: st) S iv Q := am_dup dX9_row_11 hv h
theorem sX9_row_12 {a0 a1 : Value} (h : am_R E d mX9_row k n 14 [a0, a1] (.retAddr 31 :: st) S iv Q) : am_R E d mX9_row k n 12 [a0, a1] st S iv Q := am_ldcS (tx := "no row is kept") dX9_row_12 (List.mem_of_getElem? (i := 31) rfl) h
theorem sX9_row_18 {a0 : Value} {x : Int32} (h : am_R E d mX9_row k n 19 [a0, .int x] (.int x :: st) S iv Q) : am_R E d mX9_row k n 18 [a0, .int x] st S iv Q := am_iload_n dX9_row_18 rfl rfl h
theorem sX9_row_19 {a0 a1 : Value} (h : am_R E d mX9_row k n 20 [a0, a1] (.int (-1) :: st) S iv Q) : am_R E d mX9_row k n 19 [a0, a1] st S iv Q := am_iconst dX9_row_19 (by decide) h
theorem sX9_row_20 {ls : List Value} {x y : Int32} (kt : ¬ x = y → am_R E d mX9_row k n 28 ls st S iv Q) (kf : x = y → am_R E d mX9_row k n 23 ls st S iv Q) : am_R E d mX9_row k n 20 ls (.int y :: .int x :: st) S iv Q := am_icmp_ne dX9_row_20 (by decide) kt kf
theorem sX9_row_23 {a0 a1 : Value} (hv : am_rf a0 = true) (h : am_R E d mX9_row k n 24 [a0, a1] (a0 :: st) S iv Q) : am_R E d mX9_row k n 23 [a0, a1] st S iv Q := am_aload_n dX9_row_23 rfl rfl hv h
theorem sX9_row_24 {ls : List Value} {a : Nat} (ha : S.1 a = some (.inl 9)) (h : am_R E d mX9_row k n 27 ls (.int (iv a 10) :: st) S iv Q) : am_R E d mX9_row k n 24 ls (.ref a :: st) S iv Q := am_getI (ci := 9) dX9_row_24 rfl rfl (by decide) wq_578 uq_9 rfl ha h
theorem sX9_row_27 {ls : List Value} {x : Int32} (h : Q (.inl (some (.int x))) S iv) : am_R E d mX9_row k n 27 ls [.int x] S iv Q := am_ireturn dX9_row_27 rfl h
theorem sX9_row_28 {a0 : Value} {x : Int32} (h : am_R E d mX9_row k n 29 [a0, .int x] (.int x :: st) S iv Q) : am_R E d mX9_row k n 28 [a0, .int x] st S iv Q := am_iload_n dX9_row_28 rfl rfl h
theorem sX9_row_29 {ls : List Value} {x : Int32} (kt : x < 0 → am_R E d mX9_row k n 40 ls st S iv Q) (kf : ¬ x < 0 → am_R E d mX9_row k n 32 ls st S iv Q) : am_R E d mX9_row k n 29 ls (.int x :: st) S iv Q := am_if_lt dX9_row_29 (by decide) kt kf
theorem sX9_row_32 {a0 : Value} {x : Int32} (h : am_R E d mX9_row k n 33 [a0, .int x] (.int x :: st) S iv Q) : am_R E d mX9_row k n 32 [a0, .int x] st S iv Q := am_iload_n dX9_row_32 rfl rfl h
theorem sX9_row_33 {a0 a1 : Value} (hv : am_rf a0 = true) (h : am_R E d mX9_row k n 34 [a0, a1] (a0 :: st) S iv Q) : am_R E d mX9_row k n 33 [a0, a1] st S iv Q := am_aload_n dX9_row_33 rfl rfl hv h
theorem sX9_row_34 {ls : List Value} {a : Nat} (ha : S.1 a = some (.inl 9)) (h : am_R E d mX9_row k n 37 ls (.int (iv a 10) :: st) S iv Q) : am_R E d mX9_row k n 34 ls (.ref a :: st) S iv Q := am_getI (ci := 9) dX9_row_34 rfl rfl (by decide) wq_578 uq_9 rfl ha h
theorem sX9_row_37 {ls : List Value} {x y : Int32} (kt : x < y → am_R E d mX9_row k n 50 ls st S iv Q) (kf : ¬ x < y → am_R E d mX9_row k n 40 ls st S iv Q) : am_R E d mX9_row k n 37 ls (.int y :: .int x :: st) S iv Q := am_icmp_lt dX9_row_37 (by decide) kt kf
theorem sX9_row_40 {ls : List Value} (hst : (st.map fun v => v.category).sum ≤ 8) (h : ∀ nx, S.2.2.2 ≤ nx → Q (.inr "java/util/NoSuchElementException") (S.1, S.2.1, S.2.2.1, nx) iv) : am_R E (d + 7) mX9_row (k + 1) (n + 6) 40 ls st S iv Q := am_throwN (X := "java/util/NoSuchElementException") (tx := "the row has no such place") (j := 32) wq_639_b0 wq_639_b1 wq_639_b2 wq_639_b5 dX9_row_40 dX9_row_43 (Or.inl ⟨rfl, dX9_row_44⟩) dX9_row_46 dX9_row_49 rfl (by decide) (by decide) (by decide) (by decide) wq_637 wq_638 wq_639 wq_639_g (List.mem_of_getElem? (i := 32) rfl) (by omega) hst (by omega) (by omega) h
theorem sX9_row_43 {ls : List Value} {x : Value} (hv : x.category = 1) (h : am_R E d mX9_row k n 44 ls (x :: x :: st) S iv Q) : am_R E d mX9_row k n 43 ls (x :: st) S iv Q := am_dup dX9_row_43 hv h
theorem sX9_row_44 {a0 a1 : Value} (h : am_R E d mX9_row k n 46 [a0, a1] (.retAddr 32 :: st) S iv Q) : am_R E d mX9_row k n 44 [a0, a1] st S iv Q := am_ldcS (tx := "the row has no such place") dX9_row_44 (List.mem_of_getElem? (i := 32) rfl) h
theorem sX9_row_50 {a0 a1 : Value} (hv : am_rf a0 = true) (h : am_R E d mX9_row k n 51 [a0, a1] (a0 :: st) S iv Q) : am_R E d mX9_row k n 50 [a0, a1] st S iv Q := am_aload_n dX9_row_50 rfl rfl hv h
theorem sX9_row_51 {ls : List Value} {a b : Nat} (ha : S.1 a = some (.inl 9)) (hb : S.2.1 a 9 = some b) (h : am_R E d mX9_row k n 54 ls (.ref b :: st) S iv Q) : am_R E d mX9_row k n 51 ls (.ref a :: st) S iv Q := am_getR (ci := 9) dX9_row_51 rfl rfl (by decide) wq_577 uq_9 rfl ha hb h
theorem sX9_row_54 {a0 : Value} {x : Int32} (h : am_R E d mX9_row k n 55 [a0, .int x] (.int x :: st) S iv Q) : am_R E d mX9_row k n 54 [a0, .int x] st S iv Q := am_iload_n dX9_row_54 rfl rfl h
theorem sX9_row_55 {ls : List Value} {a m : Nat} {i : Int32} (ha : S.1 a = some (.inr (.int, m))) (hi : vp_in i m) (h : am_R E d mX9_row k n 56 ls (.int (iv a i.toNatClampNeg) :: st) S iv Q) : am_R E d mX9_row k n 55 ls (.int i :: .ref a :: st) S iv Q := am_iaload dX9_row_55 ha hi h
theorem sX9_row_56 {ls : List Value} {x : Int32} (h : Q (.inl (some (.int x))) S iv) : am_R E d mX9_row k n 56 ls [.int x] S iv Q := am_ireturn dX9_row_56 rfl h
theorem dX9_harm_0 : decode cX9_harm 0 = .ok (.aload_n 0, 1) := by decide +kernel
theorem dX9_harm_1 : decode cX9_harm 1 = .ok (.iload_n 1, 1) := by decide +kernel
theorem dX9_harm_2 : decode cX9_harm 2 = .ok (.invokevirtual 148, 3) := by decide +kernel
theorem dX9_harm_5 : decode cX9_harm 5 = .ok (.iconst 1, 1) := by decide +kernel
theorem dX9_harm_6 : decode cX9_harm 6 = .ok (.iload_n 1, 1) := by decide +kernel
theorem dX9_harm_7 : decode cX9_harm 7 = .ok (.ishl, 1) := by decide +kernel
theorem dX9_harm_8 : decode cX9_harm 8 = .ok (.istore_n 2, 1) := by decide +kernel
theorem dX9_harm_9 : decode cX9_harm 9 = .ok (.aload_n 0, 1) := by decide +kernel
theorem dX9_harm_10 : decode cX9_harm 10 = .ok (.getfield 40, 3) := by decide +kernel
theorem dX9_harm_13 : decode cX9_harm 13 = .ok (.aload_n 0, 1) := by decide +kernel
theorem dX9_harm_14 : decode cX9_harm 14 = .ok (.getfield 20, 3) := by decide +kernel
theorem dX9_harm_17 : decode cX9_harm 17 = .ok (.aload_n 0, 1) := by decide +kernel
theorem dX9_harm_18 : decode cX9_harm 18 = .ok (.getfield 30, 3) := by decide +kernel
theorem dX9_harm_21 : decode cX9_harm 21 = .ok (.getfield 128, 3) := by decide +kernel
theorem dX9_harm_24 : decode cX9_harm 24 = .ok (.aload_n 0, 1) := by decide +kernel
theorem dX9_harm_25 : decode cX9_harm 25 = .ok (.getfield 30, 3) := by decide +kernel
theorem dX9_harm_28 : decode cX9_harm 28 = .ok (.getfield 137, 3) := by decide +kernel
theorem dX9_harm_31 : decode cX9_harm 31 = .ok (.iload_n 2, 1) := by decide +kernel
theorem dX9_harm_32 : decode cX9_harm 32 = .ok (.iconst (-1), 1) := by decide +kernel
theorem dX9_harm_33 : decode cX9_harm 33 = .ok (.ixor, 1) := by decide +kernel
theorem dX9_harm_34 : decode cX9_harm 34 = .ok (.iand, 1) := by decide +kernel
theorem dX9_harm_35 : decode cX9_harm 35 = .ok (.invokevirtual 252, 3) := by decide +kernel
theorem dX9_harm_38 : decode cX9_harm 38 = .ok (.iload_n 2, 1) := by decide +kernel
theorem dX9_harm_39 : decode cX9_harm 39 = .ok (.iconst (-1), 1) := by decide +kernel
theorem dX9_harm_40 : decode cX9_harm 40 = .ok (.ixor, 1) := by decide +kernel
theorem dX9_harm_41 : decode cX9_harm 41 = .ok (.iand, 1) := by decide +kernel
theorem dX9_harm_42 : decode cX9_harm 42 = .ok (.istore_n 3, 1) := by decide +kernel
theorem dX9_harm_43 : decode cX9_harm 43 = .ok (.aload_n 0, 1) := by decide +kernel
theorem dX9_harm_44 : decode cX9_harm 44 = .ok (.getfield 40, 3) := by decide +kernel
theorem dX9_harm_47 : decode cX9_harm 47 = .ok (.aload_n 0, 1) := by decide +kernel
theorem dX9_harm_48 : decode cX9_harm 48 = .ok (.getfield 20, 3) := by decide +kernel
theorem dX9_harm_51 : decode cX9_harm 51 = .ok (.aload_n 0, 1) := by decide +kernel
theorem dX9_harm_52 : decode cX9_harm 52 = .ok (.getfield 30, 3) := by decide +kernel
theorem dX9_harm_55 : decode cX9_harm 55 = .ok (.getfield 128, 3) := by decide +kernel
theorem dX9_harm_58 : decode cX9_harm 58 = .ok (.aload_n 0, 1) := by decide +kernel
theorem dX9_harm_59 : decode cX9_harm 59 = .ok (.getfield 30, 3) := by decide +kernel
theorem dX9_harm_62 : decode cX9_harm 62 = .ok (.getfield 137, 3) := by decide +kernel
theorem dX9_harm_65 : decode cX9_harm 65 = .ok (.iload_n 2, 1) := by decide +kernel
theorem dX9_harm_66 : decode cX9_harm 66 = .ok (.ior, 1) := by decide +kernel
theorem dX9_harm_67 : decode cX9_harm 67 = .ok (.invokevirtual 252, 3) := by decide +kernel
theorem dX9_harm_70 : decode cX9_harm 70 = .ok (.iload_n 2, 1) := by decide +kernel
theorem dX9_harm_71 : decode cX9_harm 71 = .ok (.iconst (-1), 1) := by decide +kernel
theorem dX9_harm_72 : decode cX9_harm 72 = .ok (.ixor, 1) := by decide +kernel
theorem dX9_harm_73 : decode cX9_harm 73 = .ok (.iand, 1) := by decide +kernel
theorem dX9_harm_74 : decode cX9_harm 74 = .ok (.istore 4, 2) := by decide +kernel
theorem dX9_harm_76 : decode cX9_harm 76 = .ok (.iload_n 3, 1) := by decide +kernel
theorem dX9_harm_77 : decode cX9_harm 77 = .ok (.invokestatic 256, 3) := by decide +kernel
theorem dX9_harm_80 : decode cX9_harm 80 = .ok (.iload 4, 2) := by decide +kernel
theorem dX9_harm_82 : decode cX9_harm 82 = .ok (.invokestatic 256, 3) := by decide +kernel
theorem dX9_harm_85 : decode cX9_harm 85 = .ok (.isub, 1) := by decide +kernel
theorem dX9_harm_86 : decode cX9_harm 86 = .ok (.ireturn, 1) := by decide +kernel
theorem sX9_harm_0 {a0 a1 a2 a3 a4 : Value} (hv : am_rf a0 = true) (h : am_R E d mX9_harm k n 1 [a0, a1, a2, a3, a4] (a0 :: st) S iv Q) : am_R E d mX9_harm k n 0 [a0, a1, a2, a3, a4] st S iv Q := am_aload_n dX9_harm_0 rfl rfl hv h
theorem sX9_harm_1 {a0 a2 a3 a4 : Value} {x : Int32} (h : am_R E d mX9_harm k n 2 [a0, .int x, a2, a3, a4] (.int x :: st) S iv Q) : am_R E d mX9_harm k n 1 [a0, .int x, a2, a3, a4] st S iv Q := am_iload_n dX9_harm_1 rfl rfl h
theorem sX9_harm_2 {ls : List Value} {x1 : Value} {a : Nat} (ha : S.1 a = some (.inl 9)) (hst : (st.map fun v => v.category).sum ≤ 8) (hM : am_M E d mX9_demandDrawer 0 0 [.ref a, x1] S iv (am_K3 E (d + 1) mX9_harm k n 2 ls st Q)) : am_R E (d + 1) mX9_harm k n 2 ls (x1 :: .ref a :: st) S iv Q := am_cV (ci := 9) (M' := mX9_demandDrawer) (as := [x1]) dX9_harm_2 rfl rfl rfl wq_642 wq_643 wq_644 wq_581 wq_640 hy_X9_demandDrawer (by decide) ha hst (by omega) (by omega) hM
theorem sX9_harm_2_k {ls : List Value} {x1 : Value} {k' n' : Nat} {a : Nat} (ha : S.1 a = some (.inl 9)) (hst : (st.map fun v => v.category).sum ≤ 8) (hM : am_M E d mX9_demandDrawer k' n' [.ref a, x1] S iv (am_K3 E (d + 1) mX9_harm k n 2 ls st Q)) : am_R E (d + 1) mX9_harm (k' + k) (n' + n) 2 ls (x1 :: .ref a :: st) S iv Q := am_cV (ci := 9) (M' := mX9_demandDrawer) (as := [x1]) dX9_harm_2 rfl rfl rfl wq_642 wq_643 wq_644 wq_581 wq_640 hy_X9_demandDrawer (by decide) ha hst (by omega) (by omega) hM
theorem sX9_harm_5 {a0 a1 a2 a3 a4 : Value} (h : am_R E d mX9_harm k n 6 [a0, a1, a2, a3, a4] (.int 1 :: st) S iv Q) : am_R E d mX9_harm k n 5 [a0, a1, a2, a3, a4] st S iv Q := am_iconst dX9_harm_5 (by decide) h
theorem sX9_harm_6 {a0 a2 a3 a4 : Value} {x : Int32} (h : am_R E d mX9_harm k n 7 [a0, .int x, a2, a3, a4] (.int x :: st) S iv Q) : am_R E d mX9_harm k n 6 [a0, .int x, a2, a3, a4] st S iv Q := am_iload_n dX9_harm_6 rfl rfl h
theorem sX9_harm_7 {ls : List Value} {x y : Int32} (h : am_R E d mX9_harm k n 8 ls (.int (x <<< (y &&& 31)) :: st) S iv Q) : am_R E d mX9_harm k n 7 ls (.int y :: .int x :: st) S iv Q := am_ishl dX9_harm_7 h
theorem sX9_harm_8 {a0 a1 a2 a3 a4 : Value} {x : Int32} (h : am_R E d mX9_harm k n 9 [a0, a1, .int x, a3, a4] st S iv Q) : am_R E d mX9_harm k n 8 [a0, a1, a2, a3, a4] (.int x :: st) S iv Q := am_istore_n dX9_harm_8 rfl (by decide) h
theorem sX9_harm_9 {a0 a1 a2 a3 a4 : Value} (hv : am_rf a0 = true) (h : am_R E d mX9_harm k n 10 [a0, a1, a2, a3, a4] (a0 :: st) S iv Q) : am_R E d mX9_harm k n 9 [a0, a1, a2, a3, a4] st S iv Q := am_aload_n dX9_harm_9 rfl rfl hv h
theorem sX9_harm_10 {ls : List Value} {a b : Nat} (ha : S.1 a = some (.inl 9)) (hb : S.2.1 a 8 = some b) (h : am_R E d mX9_harm k n 13 ls (.ref b :: st) S iv Q) : am_R E d mX9_harm k n 10 ls (.ref a :: st) S iv Q := am_getR (ci := 9) dX9_harm_10 rfl rfl (by decide) wq_576 uq_9 rfl ha hb h
theorem sX9_harm_13 {a0 a1 a2 a3 a4 : Value} (hv : am_rf a0 = true) (h : am_R E d mX9_harm k n 14 [a0, a1, a2, a3, a4] (a0 :: st) S iv Q) : am_R E d mX9_harm k n 13 [a0, a1, a2, a3, a4] st S iv Q := am_aload_n dX9_harm_13 rfl rfl hv h
theorem sX9_harm_14 {ls : List Value} {a b : Nat} (ha : S.1 a = some (.inl 9)) (hb : S.2.1 a 3 = some b) (h : am_R E d mX9_harm k n 17 ls (.ref b :: st) S iv Q) : am_R E d mX9_harm k n 14 ls (.ref a :: st) S iv Q := am_getR (ci := 9) dX9_harm_14 rfl rfl (by decide) wq_561 uq_9 rfl ha hb h
theorem sX9_harm_17 {a0 a1 a2 a3 a4 : Value} (hv : am_rf a0 = true) (h : am_R E d mX9_harm k n 18 [a0, a1, a2, a3, a4] (a0 :: st) S iv Q) : am_R E d mX9_harm k n 17 [a0, a1, a2, a3, a4] st S iv Q := am_aload_n dX9_harm_17 rfl rfl hv h
theorem sX9_harm_18 {ls : List Value} {a b : Nat} (ha : S.1 a = some (.inl 9)) (hb : S.2.1 a 5 = some b) (h : am_R E d mX9_harm k n 21 ls (.ref b :: st) S iv Q) : am_R E d mX9_harm k n 18 ls (.ref a :: st) S iv Q := am_getR (ci := 9) dX9_harm_18 rfl rfl (by decide) wq_569 uq_9 rfl ha hb h
theorem sX9_harm_21 {ls : List Value} {a : Nat} (ha : S.1 a = some (.inl 7)) (h : am_R E d mX9_harm k n 24 ls (.int (iv a 0) :: st) S iv Q) : am_R E d mX9_harm k n 21 ls (.ref a :: st) S iv Q := am_getI (ci := 7) dX9_harm_21 rfl rfl (by decide) wq_632 uq_7 rfl ha h
theorem sX9_harm_24 {a0 a1 a2 a3 a4 : Value} (hv : am_rf a0 = true) (h : am_R E d mX9_harm k n 25 [a0, a1, a2, a3, a4] (a0 :: st) S iv Q) : am_R E d mX9_harm k n 24 [a0, a1, a2, a3, a4] st S iv Q := am_aload_n dX9_harm_24 rfl rfl hv h
theorem sX9_harm_25 {ls : List Value} {a b : Nat} (ha : S.1 a = some (.inl 9)) (hb : S.2.1 a 5 = some b) (h : am_R E d mX9_harm k n 28 ls (.ref b :: st) S iv Q) : am_R E d mX9_harm k n 25 ls (.ref a :: st) S iv Q := am_getR (ci := 9) dX9_harm_25 rfl rfl (by decide) wq_569 uq_9 rfl ha hb h
theorem sX9_harm_28 {ls : List Value} {a : Nat} (ha : S.1 a = some (.inl 7)) (h : am_R E d mX9_harm k n 31 ls (.int (iv a 1) :: st) S iv Q) : am_R E d mX9_harm k n 28 ls (.ref a :: st) S iv Q := am_getI (ci := 7) dX9_harm_28 rfl rfl (by decide) wq_635 uq_7 rfl ha h
theorem sX9_harm_31 {a0 a1 a3 a4 : Value} {x : Int32} (h : am_R E d mX9_harm k n 32 [a0, a1, .int x, a3, a4] (.int x :: st) S iv Q) : am_R E d mX9_harm k n 31 [a0, a1, .int x, a3, a4] st S iv Q := am_iload_n dX9_harm_31 rfl rfl h
theorem sX9_harm_32 {a0 a1 a2 a3 a4 : Value} (h : am_R E d mX9_harm k n 33 [a0, a1, a2, a3, a4] (.int (-1) :: st) S iv Q) : am_R E d mX9_harm k n 32 [a0, a1, a2, a3, a4] st S iv Q := am_iconst dX9_harm_32 (by decide) h
theorem sX9_harm_33 {ls : List Value} {x y : Int32} (h : am_R E d mX9_harm k n 34 ls (.int (x ^^^ y) :: st) S iv Q) : am_R E d mX9_harm k n 33 ls (.int y :: .int x :: st) S iv Q := am_ixor dX9_harm_33 h
theorem sX9_harm_34 {ls : List Value} {x y : Int32} (h : am_R E d mX9_harm k n 35 ls (.int (x &&& y) :: st) S iv Q) : am_R E d mX9_harm k n 34 ls (.int y :: .int x :: st) S iv Q := am_iand dX9_harm_34 h
theorem sX9_harm_35 {ls : List Value} {x1 x2 x3 : Value} {a : Nat} (ha : S.1 a = some (.inl 6)) (hst : (st.map fun v => v.category).sum ≤ 8) (hM : am_M E d mX6_everOut 0 0 [.ref a, x1, x2, x3] S iv (am_K3 E (d + 1) mX9_harm k n 35 ls st Q)) : am_R E (d + 1) mX9_harm k n 35 ls (x3 :: x2 :: x1 :: .ref a :: st) S iv Q := am_cV (ci := 6) (M' := mX6_everOut) (as := [x1, x2, x3]) dX9_harm_35 rfl rfl rfl wq_722 wq_723 wq_724 wq_518 wq_720 hy_X6_everOut (by decide) ha hst (by omega) (by omega) hM
theorem sX9_harm_35_k {ls : List Value} {x1 x2 x3 : Value} {k' n' : Nat} {a : Nat} (ha : S.1 a = some (.inl 6)) (hst : (st.map fun v => v.category).sum ≤ 8) (hM : am_M E d mX6_everOut k' n' [.ref a, x1, x2, x3] S iv (am_K3 E (d + 1) mX9_harm k n 35 ls st Q)) : am_R E (d + 1) mX9_harm (k' + k) (n' + n) 35 ls (x3 :: x2 :: x1 :: .ref a :: st) S iv Q := am_cV (ci := 6) (M' := mX6_everOut) (as := [x1, x2, x3]) dX9_harm_35 rfl rfl rfl wq_722 wq_723 wq_724 wq_518 wq_720 hy_X6_everOut (by decide) ha hst (by omega) (by omega) hM
theorem sX9_harm_38 {a0 a1 a3 a4 : Value} {x : Int32} (h : am_R E d mX9_harm k n 39 [a0, a1, .int x, a3, a4] (.int x :: st) S iv Q) : am_R E d mX9_harm k n 38 [a0, a1, .int x, a3, a4] st S iv Q := am_iload_n dX9_harm_38 rfl rfl h
theorem sX9_harm_39 {a0 a1 a2 a3 a4 : Value} (h : am_R E d mX9_harm k n 40 [a0, a1, a2, a3, a4] (.int (-1) :: st) S iv Q) : am_R E d mX9_harm k n 39 [a0, a1, a2, a3, a4] st S iv Q := am_iconst dX9_harm_39 (by decide) h
theorem sX9_harm_40 {ls : List Value} {x y : Int32} (h : am_R E d mX9_harm k n 41 ls (.int (x ^^^ y) :: st) S iv Q) : am_R E d mX9_harm k n 40 ls (.int y :: .int x :: st) S iv Q := am_ixor dX9_harm_40 h
theorem sX9_harm_41 {ls : List Value} {x y : Int32} (h : am_R E d mX9_harm k n 42 ls (.int (x &&& y) :: st) S iv Q) : am_R E d mX9_harm k n 41 ls (.int y :: .int x :: st) S iv Q := am_iand dX9_harm_41 h
theorem sX9_harm_42 {a0 a1 a2 a3 a4 : Value} {x : Int32} (h : am_R E d mX9_harm k n 43 [a0, a1, a2, .int x, a4] st S iv Q) : am_R E d mX9_harm k n 42 [a0, a1, a2, a3, a4] (.int x :: st) S iv Q := am_istore_n dX9_harm_42 rfl (by decide) h
theorem sX9_harm_43 {a0 a1 a2 a3 a4 : Value} (hv : am_rf a0 = true) (h : am_R E d mX9_harm k n 44 [a0, a1, a2, a3, a4] (a0 :: st) S iv Q) : am_R E d mX9_harm k n 43 [a0, a1, a2, a3, a4] st S iv Q := am_aload_n dX9_harm_43 rfl rfl hv h
theorem sX9_harm_44 {ls : List Value} {a b : Nat} (ha : S.1 a = some (.inl 9)) (hb : S.2.1 a 8 = some b) (h : am_R E d mX9_harm k n 47 ls (.ref b :: st) S iv Q) : am_R E d mX9_harm k n 44 ls (.ref a :: st) S iv Q := am_getR (ci := 9) dX9_harm_44 rfl rfl (by decide) wq_576 uq_9 rfl ha hb h
theorem sX9_harm_47 {a0 a1 a2 a3 a4 : Value} (hv : am_rf a0 = true) (h : am_R E d mX9_harm k n 48 [a0, a1, a2, a3, a4] (a0 :: st) S iv Q) : am_R E d mX9_harm k n 47 [a0, a1, a2, a3, a4] st S iv Q := am_aload_n dX9_harm_47 rfl rfl hv h
theorem sX9_harm_48 {ls : List Value} {a b : Nat} (ha : S.1 a = some (.inl 9)) (hb : S.2.1 a 3 = some b) (h : am_R E d mX9_harm k n 51 ls (.ref b :: st) S iv Q) : am_R E d mX9_harm k n 48 ls (.ref a :: st) S iv Q := am_getR (ci := 9) dX9_harm_48 rfl rfl (by decide) wq_561 uq_9 rfl ha hb h
theorem sX9_harm_51 {a0 a1 a2 a3 a4 : Value} (hv : am_rf a0 = true) (h : am_R E d mX9_harm k n 52 [a0, a1, a2, a3, a4] (a0 :: st) S iv Q) : am_R E d mX9_harm k n 51 [a0, a1, a2, a3, a4] st S iv Q := am_aload_n dX9_harm_51 rfl rfl hv h
theorem sX9_harm_52 {ls : List Value} {a b : Nat} (ha : S.1 a = some (.inl 9)) (hb : S.2.1 a 5 = some b) (h : am_R E d mX9_harm k n 55 ls (.ref b :: st) S iv Q) : am_R E d mX9_harm k n 52 ls (.ref a :: st) S iv Q := am_getR (ci := 9) dX9_harm_52 rfl rfl (by decide) wq_569 uq_9 rfl ha hb h
theorem sX9_harm_55 {ls : List Value} {a : Nat} (ha : S.1 a = some (.inl 7)) (h : am_R E d mX9_harm k n 58 ls (.int (iv a 0) :: st) S iv Q) : am_R E d mX9_harm k n 55 ls (.ref a :: st) S iv Q := am_getI (ci := 7) dX9_harm_55 rfl rfl (by decide) wq_632 uq_7 rfl ha h
theorem sX9_harm_58 {a0 a1 a2 a3 a4 : Value} (hv : am_rf a0 = true) (h : am_R E d mX9_harm k n 59 [a0, a1, a2, a3, a4] (a0 :: st) S iv Q) : am_R E d mX9_harm k n 58 [a0, a1, a2, a3, a4] st S iv Q := am_aload_n dX9_harm_58 rfl rfl hv h
theorem sX9_harm_59 {ls : List Value} {a b : Nat} (ha : S.1 a = some (.inl 9)) (hb : S.2.1 a 5 = some b) (h : am_R E d mX9_harm k n 62 ls (.ref b :: st) S iv Q) : am_R E d mX9_harm k n 59 ls (.ref a :: st) S iv Q := am_getR (ci := 9) dX9_harm_59 rfl rfl (by decide) wq_569 uq_9 rfl ha hb h
theorem sX9_harm_62 {ls : List Value} {a : Nat} (ha : S.1 a = some (.inl 7)) (h : am_R E d mX9_harm k n 65 ls (.int (iv a 1) :: st) S iv Q) : am_R E d mX9_harm k n 62 ls (.ref a :: st) S iv Q := am_getI (ci := 7) dX9_harm_62 rfl rfl (by decide) wq_635 uq_7 rfl ha h
theorem sX9_harm_65 {a0 a1 a3 a4 : Value} {x : Int32} (h : am_R E d mX9_harm k n 66 [a0, a1, .int x, a3, a4] (.int x :: st) S iv Q) : am_R E d mX9_harm k n 65 [a0, a1, .int x, a3, a4] st S iv Q := am_iload_n dX9_harm_65 rfl rfl h
theorem sX9_harm_66 {ls : List Value} {x y : Int32} (h : am_R E d mX9_harm k n 67 ls (.int (x ||| y) :: st) S iv Q) : am_R E d mX9_harm k n 66 ls (.int y :: .int x :: st) S iv Q := am_ior dX9_harm_66 h
theorem sX9_harm_67 {ls : List Value} {x1 x2 x3 : Value} {a : Nat} (ha : S.1 a = some (.inl 6)) (hst : (st.map fun v => v.category).sum ≤ 8) (hM : am_M E d mX6_everOut 0 0 [.ref a, x1, x2, x3] S iv (am_K3 E (d + 1) mX9_harm k n 67 ls st Q)) : am_R E (d + 1) mX9_harm k n 67 ls (x3 :: x2 :: x1 :: .ref a :: st) S iv Q := am_cV (ci := 6) (M' := mX6_everOut) (as := [x1, x2, x3]) dX9_harm_67 rfl rfl rfl wq_722 wq_723 wq_724 wq_518 wq_720 hy_X6_everOut (by decide) ha hst (by omega) (by omega) hM
theorem sX9_harm_67_k {ls : List Value} {x1 x2 x3 : Value} {k' n' : Nat} {a : Nat} (ha : S.1 a = some (.inl 6)) (hst : (st.map fun v => v.category).sum ≤ 8) (hM : am_M E d mX6_everOut k' n' [.ref a, x1, x2, x3] S iv (am_K3 E (d + 1) mX9_harm k n 67 ls st Q)) : am_R E (d + 1) mX9_harm (k' + k) (n' + n) 67 ls (x3 :: x2 :: x1 :: .ref a :: st) S iv Q := am_cV (ci := 6) (M' := mX6_everOut) (as := [x1, x2, x3]) dX9_harm_67 rfl rfl rfl wq_722 wq_723 wq_724 wq_518 wq_720 hy_X6_everOut (by decide) ha hst (by omega) (by omega) hM
theorem sX9_harm_70 {a0 a1 a3 a4 : Value} {x : Int32} (h : am_R E d mX9_harm k n 71 [a0, a1, .int x, a3, a4] (.int x :: st) S iv Q) : am_R E d mX9_harm k n 70 [a0, a1, .int x, a3, a4] st S iv Q := am_iload_n dX9_harm_70 rfl rfl h
theorem sX9_harm_71 {a0 a1 a2 a3 a4 : Value} (h : am_R E d mX9_harm k n 72 [a0, a1, a2, a3, a4] (.int (-1) :: st) S iv Q) : am_R E d mX9_harm k n 71 [a0, a1, a2, a3, a4] st S iv Q := am_iconst dX9_harm_71 (by decide) h
theorem sX9_harm_72 {ls : List Value} {x y : Int32} (h : am_R E d mX9_harm k n 73 ls (.int (x ^^^ y) :: st) S iv Q) : am_R E d mX9_harm k n 72 ls (.int y :: .int x :: st) S iv Q := am_ixor dX9_harm_72 h
theorem sX9_harm_73 {ls : List Value} {x y : Int32} (h : am_R E d mX9_harm k n 74 ls (.int (x &&& y) :: st) S iv Q) : am_R E d mX9_harm k n 73 ls (.int y :: .int x :: st) S iv Q := am_iand dX9_harm_73 h
theorem sX9_harm_74 {a0 a1 a2 a3 a4 : Value} {x : Int32} (h : am_R E d mX9_harm k n 76 [a0, a1, a2, a3, .int x] st S iv Q) : am_R E d mX9_harm k n 74 [a0, a1, a2, a3, a4] (.int x :: st) S iv Q := am_istore dX9_harm_74 (by decide) h
theorem sX9_harm_76 {a0 a1 a2 a4 : Value} {x : Int32} (h : am_R E d mX9_harm k n 77 [a0, a1, a2, .int x, a4] (.int x :: st) S iv Q) : am_R E d mX9_harm k n 76 [a0, a1, a2, .int x, a4] st S iv Q := am_iload_n dX9_harm_76 rfl rfl h
theorem sX9_harm_77 {ls : List Value} {x1 : Value} (hst : (st.map fun v => v.category).sum ≤ 8) (hM : am_M E d mJ6_bitCount_0f7a4 0 0 [x1] S iv (am_K3 E (d + 1) mX9_harm k n 77 ls st Q)) : am_R E (d + 1) mX9_harm k n 77 ls (x1 :: st) S iv Q := am_cS (M' := mJ6_bitCount_0f7a4) (as := [x1]) dX9_harm_77 rfl wq_725 wq_276 wq_273 wq_272 hy_J6_bitCount_0f7a4 (by decide) hst (by omega) (by omega) hM
theorem sX9_harm_77_k {ls : List Value} {x1 : Value} {k' n' : Nat} (hst : (st.map fun v => v.category).sum ≤ 8) (hM : am_M E d mJ6_bitCount_0f7a4 k' n' [x1] S iv (am_K3 E (d + 1) mX9_harm k n 77 ls st Q)) : am_R E (d + 1) mX9_harm (k' + k) (n' + n) 77 ls (x1 :: st) S iv Q := am_cS (M' := mJ6_bitCount_0f7a4) (as := [x1]) dX9_harm_77 rfl wq_725 wq_276 wq_273 wq_272 hy_J6_bitCount_0f7a4 (by decide) hst (by omega) (by omega) hM
theorem sX9_harm_80 {a0 a1 a2 a3 : Value} {x : Int32} (h : am_R E d mX9_harm k n 82 [a0, a1, a2, a3, .int x] (.int x :: st) S iv Q) : am_R E d mX9_harm k n 80 [a0, a1, a2, a3, .int x] st S iv Q := am_iload dX9_harm_80 rfl h
theorem sX9_harm_82 {ls : List Value} {x1 : Value} (hst : (st.map fun v => v.category).sum ≤ 8) (hM : am_M E d mJ6_bitCount_0f7a4 0 0 [x1] S iv (am_K3 E (d + 1) mX9_harm k n 82 ls st Q)) : am_R E (d + 1) mX9_harm k n 82 ls (x1 :: st) S iv Q := am_cS (M' := mJ6_bitCount_0f7a4) (as := [x1]) dX9_harm_82 rfl wq_725 wq_276 wq_273 wq_272 hy_J6_bitCount_0f7a4 (by decide) hst (by omega) (by omega) hM
theorem sX9_harm_82_k {ls : List Value} {x1 : Value} {k' n' : Nat} (hst : (st.map fun v => v.category).sum ≤ 8) (hM : am_M E d mJ6_bitCount_0f7a4 k' n' [x1] S iv (am_K3 E (d + 1) mX9_harm k n 82 ls st Q)) : am_R E (d + 1) mX9_harm (k' + k) (n' + n) 82 ls (x1 :: st) S iv Q := am_cS (M' := mJ6_bitCount_0f7a4) (as := [x1]) dX9_harm_82 rfl wq_725 wq_276 wq_273 wq_272 hy_J6_bitCount_0f7a4 (by decide) hst (by omega) (by omega) hM
theorem sX9_harm_85 {ls : List Value} {x y : Int32} (h : am_R E d mX9_harm k n 86 ls (.int (x - y) :: st) S iv Q) : am_R E d mX9_harm k n 85 ls (.int y :: .int x :: st) S iv Q := am_isub dX9_harm_85 h
theorem sX9_harm_86 {ls : List Value} {x : Int32} (h : Q (.inl (some (.int x))) S iv) : am_R E d mX9_harm k n 86 ls [.int x] S iv Q := am_ireturn dX9_harm_86 rfl h
theorem dX9_married_0 : decode cX9_married 0 = .ok (.aload_n 0, 1) := by decide +kernel
theorem dX9_married_1 : decode cX9_married 1 = .ok (.iload_n 1, 1) := by decide +kernel
theorem dX9_married_2 : decode cX9_married 2 = .ok (.invokevirtual 148, 3) := by decide +kernel
theorem dX9_married_5 : decode cX9_married 5 = .ok (.aload_n 0, 1) := by decide +kernel
theorem dX9_married_6 : decode cX9_married 6 = .ok (.iload_n 2, 1) := by decide +kernel
theorem dX9_married_7 : decode cX9_married 7 = .ok (.invokevirtual 148, 3) := by decide +kernel
theorem dX9_married_10 : decode cX9_married 10 = .ok (.iconst 1, 1) := by decide +kernel
theorem dX9_married_11 : decode cX9_married 11 = .ok (.iload_n 1, 1) := by decide +kernel
theorem dX9_married_12 : decode cX9_married 12 = .ok (.ishl, 1) := by decide +kernel
theorem dX9_married_13 : decode cX9_married 13 = .ok (.iconst 1, 1) := by decide +kernel
theorem dX9_married_14 : decode cX9_married 14 = .ok (.iload_n 2, 1) := by decide +kernel
theorem dX9_married_15 : decode cX9_married 15 = .ok (.ishl, 1) := by decide +kernel
theorem dX9_married_16 : decode cX9_married 16 = .ok (.ior, 1) := by decide +kernel
theorem dX9_married_17 : decode cX9_married 17 = .ok (.istore_n 3, 1) := by decide +kernel
theorem dX9_married_18 : decode cX9_married 18 = .ok (.aload_n 0, 1) := by decide +kernel
theorem dX9_married_19 : decode cX9_married 19 = .ok (.getfield 30, 3) := by decide +kernel
theorem dX9_married_22 : decode cX9_married 22 = .ok (.getfield 128, 3) := by decide +kernel
theorem dX9_married_25 : decode cX9_married 25 = .ok (.aload_n 0, 1) := by decide +kernel
theorem dX9_married_26 : decode cX9_married 26 = .ok (.getfield 30, 3) := by decide +kernel
theorem dX9_married_29 : decode cX9_married 29 = .ok (.getfield 137, 3) := by decide +kernel
theorem dX9_married_32 : decode cX9_married 32 = .ok (.ior, 1) := by decide +kernel
theorem dX9_married_33 : decode cX9_married 33 = .ok (.iload_n 3, 1) := by decide +kernel
theorem dX9_married_34 : decode cX9_married 34 = .ok (.iand, 1) := by decide +kernel
theorem dX9_married_35 : decode cX9_married 35 = .ok (.ifCond .ne 18, 3) := by decide +kernel
theorem dX9_married_38 : decode cX9_married 38 = .ok (.aload_n 0, 1) := by decide +kernel
theorem dX9_married_39 : decode cX9_married 39 = .ok (.getfield 20, 3) := by decide +kernel
theorem dX9_married_42 : decode cX9_married 42 = .ok (.getfield 102, 3) := by decide +kernel
theorem dX9_married_45 : decode cX9_married 45 = .ok (.iload_n 1, 1) := by decide +kernel
theorem dX9_married_46 : decode cX9_married 46 = .ok (.iload_n 2, 1) := by decide +kernel
theorem dX9_married_47 : decode cX9_married 47 = .ok (.invokevirtual 261, 3) := by decide +kernel
theorem dX9_married_50 : decode cX9_married 50 = .ok (.ifCond .ne 6, 3) := by decide +kernel
theorem dX9_married_53 : decode cX9_married 53 = .ok (.bipush (-101), 2) := by decide +kernel
theorem dX9_married_55 : decode cX9_married 55 = .ok (.ireturn, 1) := by decide +kernel
theorem dX9_married_56 : decode cX9_married 56 = .ok (.aload_n 0, 1) := by decide +kernel
theorem dX9_married_57 : decode cX9_married 57 = .ok (.aload_n 0, 1) := by decide +kernel
theorem dX9_married_58 : decode cX9_married 58 = .ok (.getfield 20, 3) := by decide +kernel
theorem dX9_married_61 : decode cX9_married 61 = .ok (.aload_n 0, 1) := by decide +kernel
theorem dX9_married_62 : decode cX9_married 62 = .ok (.getfield 30, 3) := by decide +kernel
theorem dX9_married_65 : decode cX9_married 65 = .ok (.getfield 137, 3) := by decide +kernel
theorem dX9_married_68 : decode cX9_married 68 = .ok (.invokevirtual 234, 3) := by decide +kernel
theorem dX9_married_71 : decode cX9_married 71 = .ok (.istore 4, 2) := by decide +kernel
theorem dX9_married_73 : decode cX9_married 73 = .ok (.iload 4, 2) := by decide +kernel
theorem dX9_married_75 : decode cX9_married 75 = .ok (.iconst (-1), 1) := by decide +kernel
theorem dX9_married_76 : decode cX9_married 76 = .ok (.if_icmp .ne 6, 3) := by decide +kernel
theorem dX9_married_79 : decode cX9_married 79 = .ok (.bipush (-101), 2) := by decide +kernel
theorem dX9_married_81 : decode cX9_married 81 = .ok (.ireturn, 1) := by decide +kernel
theorem dX9_married_82 : decode cX9_married 82 = .ok (.aload_n 0, 1) := by decide +kernel
theorem dX9_married_83 : decode cX9_married 83 = .ok (.getfield 40, 3) := by decide +kernel
theorem dX9_married_86 : decode cX9_married 86 = .ok (.iload 4, 2) := by decide +kernel
theorem dX9_married_88 : decode cX9_married 88 = .ok (.invokevirtual 241, 3) := by decide +kernel
theorem dX9_married_91 : decode cX9_married 91 = .ok (.istore 5, 2) := by decide +kernel
theorem dX9_married_93 : decode cX9_married 93 = .ok (.aload_n 0, 1) := by decide +kernel
theorem dX9_married_94 : decode cX9_married 94 = .ok (.getfield 24, 3) := by decide +kernel
theorem dX9_married_97 : decode cX9_married 97 = .ok (.aload_n 0, 1) := by decide +kernel
theorem dX9_married_98 : decode cX9_married 98 = .ok (.getfield 20, 3) := by decide +kernel
theorem dX9_married_101 : decode cX9_married 101 = .ok (.invokevirtual 265, 3) := by decide +kernel
theorem dX9_married_104 : decode cX9_married 104 = .ok (.aload_n 0, 1) := by decide +kernel
theorem dX9_married_105 : decode cX9_married 105 = .ok (.getfield 24, 3) := by decide +kernel
theorem dX9_married_108 : decode cX9_married 108 = .ok (.iload_n 1, 1) := by decide +kernel
theorem dX9_married_109 : decode cX9_married 109 = .ok (.iload_n 2, 1) := by decide +kernel
theorem dX9_married_110 : decode cX9_married 110 = .ok (.invokevirtual 269, 3) := by decide +kernel
theorem dX9_married_113 : decode cX9_married 113 = .ok (.aload_n 0, 1) := by decide +kernel
theorem dX9_married_114 : decode cX9_married 114 = .ok (.aload_n 0, 1) := by decide +kernel
theorem dX9_married_115 : decode cX9_married 115 = .ok (.getfield 24, 3) := by decide +kernel
theorem dX9_married_118 : decode cX9_married 118 = .ok (.aload_n 0, 1) := by decide +kernel
theorem dX9_married_119 : decode cX9_married 119 = .ok (.getfield 30, 3) := by decide +kernel
theorem dX9_married_122 : decode cX9_married 122 = .ok (.getfield 137, 3) := by decide +kernel
theorem dX9_married_125 : decode cX9_married 125 = .ok (.iconst 1, 1) := by decide +kernel
theorem dX9_married_126 : decode cX9_married 126 = .ok (.iload_n 2, 1) := by decide +kernel
theorem dX9_married_127 : decode cX9_married 127 = .ok (.ishl, 1) := by decide +kernel
theorem dX9_married_128 : decode cX9_married 128 = .ok (.ior, 1) := by decide +kernel
theorem dX9_married_129 : decode cX9_married 129 = .ok (.invokevirtual 234, 3) := by decide +kernel
theorem dX9_married_132 : decode cX9_married 132 = .ok (.istore 6, 2) := by decide +kernel
theorem dX9_married_134 : decode cX9_married 134 = .ok (.iload 6, 2) := by decide +kernel
theorem dX9_married_136 : decode cX9_married 136 = .ok (.iconst (-1), 1) := by decide +kernel
theorem dX9_married_137 : decode cX9_married 137 = .ok (.if_icmp .ne 8, 3) := by decide +kernel
theorem dX9_married_140 : decode cX9_married 140 = .ok (.bipush (-101), 2) := by decide +kernel
theorem dX9_married_142 : decode cX9_married 142 = .ok (.goto 15, 3) := by decide +kernel
theorem dX9_married_145 : decode cX9_married 145 = .ok (.aload_n 0, 1) := by decide +kernel
theorem dX9_married_146 : decode cX9_married 146 = .ok (.getfield 40, 3) := by decide +kernel
theorem dX9_married_149 : decode cX9_married 149 = .ok (.iload 6, 2) := by decide +kernel
theorem dX9_married_151 : decode cX9_married 151 = .ok (.invokevirtual 241, 3) := by decide +kernel
theorem dX9_married_154 : decode cX9_married 154 = .ok (.iload 5, 2) := by decide +kernel
theorem dX9_married_156 : decode cX9_married 156 = .ok (.isub, 1) := by decide +kernel
theorem dX9_married_157 : decode cX9_married 157 = .ok (.ireturn, 1) := by decide +kernel
theorem sX9_married_0 {a0 a1 a2 a3 a4 a5 a6 : Value} (hv : am_rf a0 = true) (h : am_R E d mX9_married k n 1 [a0, a1, a2, a3, a4, a5, a6] (a0 :: st) S iv Q) : am_R E d mX9_married k n 0 [a0, a1, a2, a3, a4, a5, a6] st S iv Q := am_aload_n dX9_married_0 rfl rfl hv h
theorem sX9_married_1 {a0 a2 a3 a4 a5 a6 : Value} {x : Int32} (h : am_R E d mX9_married k n 2 [a0, .int x, a2, a3, a4, a5, a6] (.int x :: st) S iv Q) : am_R E d mX9_married k n 1 [a0, .int x, a2, a3, a4, a5, a6] st S iv Q := am_iload_n dX9_married_1 rfl rfl h
theorem sX9_married_2 {ls : List Value} {x1 : Value} {a : Nat} (ha : S.1 a = some (.inl 9)) (hst : (st.map fun v => v.category).sum ≤ 8) (hM : am_M E d mX9_demandDrawer 0 0 [.ref a, x1] S iv (am_K3 E (d + 1) mX9_married k n 2 ls st Q)) : am_R E (d + 1) mX9_married k n 2 ls (x1 :: .ref a :: st) S iv Q := am_cV (ci := 9) (M' := mX9_demandDrawer) (as := [x1]) dX9_married_2 rfl rfl rfl wq_642 wq_643 wq_644 wq_581 wq_640 hy_X9_demandDrawer (by decide) ha hst (by omega) (by omega) hM
theorem sX9_married_2_k {ls : List Value} {x1 : Value} {k' n' : Nat} {a : Nat} (ha : S.1 a = some (.inl 9)) (hst : (st.map fun v => v.category).sum ≤ 8) (hM : am_M E d mX9_demandDrawer k' n' [.ref a, x1] S iv (am_K3 E (d + 1) mX9_married k n 2 ls st Q)) : am_R E (d + 1) mX9_married (k' + k) (n' + n) 2 ls (x1 :: .ref a :: st) S iv Q := am_cV (ci := 9) (M' := mX9_demandDrawer) (as := [x1]) dX9_married_2 rfl rfl rfl wq_642 wq_643 wq_644 wq_581 wq_640 hy_X9_demandDrawer (by decide) ha hst (by omega) (by omega) hM
theorem sX9_married_5 {a0 a1 a2 a3 a4 a5 a6 : Value} (hv : am_rf a0 = true) (h : am_R E d mX9_married k n 6 [a0, a1, a2, a3, a4, a5, a6] (a0 :: st) S iv Q) : am_R E d mX9_married k n 5 [a0, a1, a2, a3, a4, a5, a6] st S iv Q := am_aload_n dX9_married_5 rfl rfl hv h
theorem sX9_married_6 {a0 a1 a3 a4 a5 a6 : Value} {x : Int32} (h : am_R E d mX9_married k n 7 [a0, a1, .int x, a3, a4, a5, a6] (.int x :: st) S iv Q) : am_R E d mX9_married k n 6 [a0, a1, .int x, a3, a4, a5, a6] st S iv Q := am_iload_n dX9_married_6 rfl rfl h
theorem sX9_married_7 {ls : List Value} {x1 : Value} {a : Nat} (ha : S.1 a = some (.inl 9)) (hst : (st.map fun v => v.category).sum ≤ 8) (hM : am_M E d mX9_demandDrawer 0 0 [.ref a, x1] S iv (am_K3 E (d + 1) mX9_married k n 7 ls st Q)) : am_R E (d + 1) mX9_married k n 7 ls (x1 :: .ref a :: st) S iv Q := am_cV (ci := 9) (M' := mX9_demandDrawer) (as := [x1]) dX9_married_7 rfl rfl rfl wq_642 wq_643 wq_644 wq_581 wq_640 hy_X9_demandDrawer (by decide) ha hst (by omega) (by omega) hM
theorem sX9_married_7_k {ls : List Value} {x1 : Value} {k' n' : Nat} {a : Nat} (ha : S.1 a = some (.inl 9)) (hst : (st.map fun v => v.category).sum ≤ 8) (hM : am_M E d mX9_demandDrawer k' n' [.ref a, x1] S iv (am_K3 E (d + 1) mX9_married k n 7 ls st Q)) : am_R E (d + 1) mX9_married (k' + k) (n' + n) 7 ls (x1 :: .ref a :: st) S iv Q := am_cV (ci := 9) (M' := mX9_demandDrawer) (as := [x1]) dX9_married_7 rfl rfl rfl wq_642 wq_643 wq_644 wq_581 wq_640 hy_X9_demandDrawer (by decide) ha hst (by omega) (by omega) hM
theorem sX9_married_10 {a0 a1 a2 a3 a4 a5 a6 : Value} (h : am_R E d mX9_married k n 11 [a0, a1, a2, a3, a4, a5, a6] (.int 1 :: st) S iv Q) : am_R E d mX9_married k n 10 [a0, a1, a2, a3, a4, a5, a6] st S iv Q := am_iconst dX9_married_10 (by decide) h
theorem sX9_married_11 {a0 a2 a3 a4 a5 a6 : Value} {x : Int32} (h : am_R E d mX9_married k n 12 [a0, .int x, a2, a3, a4, a5, a6] (.int x :: st) S iv Q) : am_R E d mX9_married k n 11 [a0, .int x, a2, a3, a4, a5, a6] st S iv Q := am_iload_n dX9_married_11 rfl rfl h
theorem sX9_married_12 {ls : List Value} {x y : Int32} (h : am_R E d mX9_married k n 13 ls (.int (x <<< (y &&& 31)) :: st) S iv Q) : am_R E d mX9_married k n 12 ls (.int y :: .int x :: st) S iv Q := am_ishl dX9_married_12 h
theorem sX9_married_13 {a0 a1 a2 a3 a4 a5 a6 : Value} (h : am_R E d mX9_married k n 14 [a0, a1, a2, a3, a4, a5, a6] (.int 1 :: st) S iv Q) : am_R E d mX9_married k n 13 [a0, a1, a2, a3, a4, a5, a6] st S iv Q := am_iconst dX9_married_13 (by decide) h
theorem sX9_married_14 {a0 a1 a3 a4 a5 a6 : Value} {x : Int32} (h : am_R E d mX9_married k n 15 [a0, a1, .int x, a3, a4, a5, a6] (.int x :: st) S iv Q) : am_R E d mX9_married k n 14 [a0, a1, .int x, a3, a4, a5, a6] st S iv Q := am_iload_n dX9_married_14 rfl rfl h
theorem sX9_married_15 {ls : List Value} {x y : Int32} (h : am_R E d mX9_married k n 16 ls (.int (x <<< (y &&& 31)) :: st) S iv Q) : am_R E d mX9_married k n 15 ls (.int y :: .int x :: st) S iv Q := am_ishl dX9_married_15 h
theorem sX9_married_16 {ls : List Value} {x y : Int32} (h : am_R E d mX9_married k n 17 ls (.int (x ||| y) :: st) S iv Q) : am_R E d mX9_married k n 16 ls (.int y :: .int x :: st) S iv Q := am_ior dX9_married_16 h
theorem sX9_married_17 {a0 a1 a2 a3 a4 a5 a6 : Value} {x : Int32} (h : am_R E d mX9_married k n 18 [a0, a1, a2, .int x, a4, a5, a6] st S iv Q) : am_R E d mX9_married k n 17 [a0, a1, a2, a3, a4, a5, a6] (.int x :: st) S iv Q := am_istore_n dX9_married_17 rfl (by decide) h
theorem sX9_married_18 {a0 a1 a2 a3 a4 a5 a6 : Value} (hv : am_rf a0 = true) (h : am_R E d mX9_married k n 19 [a0, a1, a2, a3, a4, a5, a6] (a0 :: st) S iv Q) : am_R E d mX9_married k n 18 [a0, a1, a2, a3, a4, a5, a6] st S iv Q := am_aload_n dX9_married_18 rfl rfl hv h
theorem sX9_married_19 {ls : List Value} {a b : Nat} (ha : S.1 a = some (.inl 9)) (hb : S.2.1 a 5 = some b) (h : am_R E d mX9_married k n 22 ls (.ref b :: st) S iv Q) : am_R E d mX9_married k n 19 ls (.ref a :: st) S iv Q := am_getR (ci := 9) dX9_married_19 rfl rfl (by decide) wq_569 uq_9 rfl ha hb h
theorem sX9_married_22 {ls : List Value} {a : Nat} (ha : S.1 a = some (.inl 7)) (h : am_R E d mX9_married k n 25 ls (.int (iv a 0) :: st) S iv Q) : am_R E d mX9_married k n 22 ls (.ref a :: st) S iv Q := am_getI (ci := 7) dX9_married_22 rfl rfl (by decide) wq_632 uq_7 rfl ha h
theorem sX9_married_25 {a0 a1 a2 a3 a4 a5 a6 : Value} (hv : am_rf a0 = true) (h : am_R E d mX9_married k n 26 [a0, a1, a2, a3, a4, a5, a6] (a0 :: st) S iv Q) : am_R E d mX9_married k n 25 [a0, a1, a2, a3, a4, a5, a6] st S iv Q := am_aload_n dX9_married_25 rfl rfl hv h
theorem sX9_married_26 {ls : List Value} {a b : Nat} (ha : S.1 a = some (.inl 9)) (hb : S.2.1 a 5 = some b) (h : am_R E d mX9_married k n 29 ls (.ref b :: st) S iv Q) : am_R E d mX9_married k n 26 ls (.ref a :: st) S iv Q := am_getR (ci := 9) dX9_married_26 rfl rfl (by decide) wq_569 uq_9 rfl ha hb h
theorem sX9_married_29 {ls : List Value} {a : Nat} (ha : S.1 a = some (.inl 7)) (h : am_R E d mX9_married k n 32 ls (.int (iv a 1) :: st) S iv Q) : am_R E d mX9_married k n 29 ls (.ref a :: st) S iv Q := am_getI (ci := 7) dX9_married_29 rfl rfl (by decide) wq_635 uq_7 rfl ha h
theorem sX9_married_32 {ls : List Value} {x y : Int32} (h : am_R E d mX9_married k n 33 ls (.int (x ||| y) :: st) S iv Q) : am_R E d mX9_married k n 32 ls (.int y :: .int x :: st) S iv Q := am_ior dX9_married_32 h
theorem sX9_married_33 {a0 a1 a2 a4 a5 a6 : Value} {x : Int32} (h : am_R E d mX9_married k n 34 [a0, a1, a2, .int x, a4, a5, a6] (.int x :: st) S iv Q) : am_R E d mX9_married k n 33 [a0, a1, a2, .int x, a4, a5, a6] st S iv Q := am_iload_n dX9_married_33 rfl rfl h
theorem sX9_married_34 {ls : List Value} {x y : Int32} (h : am_R E d mX9_married k n 35 ls (.int (x &&& y) :: st) S iv Q) : am_R E d mX9_married k n 34 ls (.int y :: .int x :: st) S iv Q := am_iand dX9_married_34 h
theorem sX9_married_35 {ls : List Value} {x : Int32} (kt : ¬ x = 0 → am_R E d mX9_married k n 53 ls st S iv Q) (kf : x = 0 → am_R E d mX9_married k n 38 ls st S iv Q) : am_R E d mX9_married k n 35 ls (.int x :: st) S iv Q := am_if_ne dX9_married_35 (by decide) kt kf
theorem sX9_married_38 {a0 a1 a2 a3 a4 a5 a6 : Value} (hv : am_rf a0 = true) (h : am_R E d mX9_married k n 39 [a0, a1, a2, a3, a4, a5, a6] (a0 :: st) S iv Q) : am_R E d mX9_married k n 38 [a0, a1, a2, a3, a4, a5, a6] st S iv Q := am_aload_n dX9_married_38 rfl rfl hv h
theorem sX9_married_39 {ls : List Value} {a b : Nat} (ha : S.1 a = some (.inl 9)) (hb : S.2.1 a 3 = some b) (h : am_R E d mX9_married k n 42 ls (.ref b :: st) S iv Q) : am_R E d mX9_married k n 39 ls (.ref a :: st) S iv Q := am_getR (ci := 9) dX9_married_39 rfl rfl (by decide) wq_561 uq_9 rfl ha hb h
theorem sX9_married_42 {ls : List Value} {a b : Nat} (ha : S.1 a = some (.inl 0)) (hb : S.2.1 a 7 = some b) (h : am_R E d mX9_married k n 45 ls (.ref b :: st) S iv Q) : am_R E d mX9_married k n 42 ls (.ref a :: st) S iv Q := am_getR (ci := 0) dX9_married_42 rfl rfl (by decide) wq_625 uq_0 rfl ha hb h
theorem sX9_married_45 {a0 a2 a3 a4 a5 a6 : Value} {x : Int32} (h : am_R E d mX9_married k n 46 [a0, .int x, a2, a3, a4, a5, a6] (.int x :: st) S iv Q) : am_R E d mX9_married k n 45 [a0, .int x, a2, a3, a4, a5, a6] st S iv Q := am_iload_n dX9_married_45 rfl rfl h
theorem sX9_married_46 {a0 a1 a3 a4 a5 a6 : Value} {x : Int32} (h : am_R E d mX9_married k n 47 [a0, a1, .int x, a3, a4, a5, a6] (.int x :: st) S iv Q) : am_R E d mX9_married k n 46 [a0, a1, .int x, a3, a4, a5, a6] st S iv Q := am_iload_n dX9_married_46 rfl rfl h
theorem sX9_married_47 {ls : List Value} {x1 x2 : Value} {a : Nat} (ha : S.1 a = some (.inl 2)) (hst : (st.map fun v => v.category).sum ≤ 8) (hM : am_M E d mX2_canMarry 0 0 [.ref a, x1, x2] S iv (am_K3 E (d + 1) mX9_married k n 47 ls st Q)) : am_R E (d + 1) mX9_married k n 47 ls (x2 :: x1 :: .ref a :: st) S iv Q := am_cV (ci := 2) (M' := mX2_canMarry) (as := [x1, x2]) dX9_married_47 rfl rfl rfl wq_728 wq_729 wq_730 wq_81 wq_726 hy_X2_canMarry (by decide) ha hst (by omega) (by omega) hM
theorem sX9_married_47_k {ls : List Value} {x1 x2 : Value} {k' n' : Nat} {a : Nat} (ha : S.1 a = some (.inl 2)) (hst : (st.map fun v => v.category).sum ≤ 8) (hM : am_M E d mX2_canMarry k' n' [.ref a, x1, x2] S iv (am_K3 E (d + 1) mX9_married k n 47 ls st Q)) : am_R E (d + 1) mX9_married (k' + k) (n' + n) 47 ls (x2 :: x1 :: .ref a :: st) S iv Q := am_cV (ci := 2) (M' := mX2_canMarry) (as := [x1, x2]) dX9_married_47 rfl rfl rfl wq_728 wq_729 wq_730 wq_81 wq_726 hy_X2_canMarry (by decide) ha hst (by omega) (by omega) hM
theorem sX9_married_50 {ls : List Value} {x : Int32} (kt : ¬ x = 0 → am_R E d mX9_married k n 56 ls st S iv Q) (kf : x = 0 → am_R E d mX9_married k n 53 ls st S iv Q) : am_R E d mX9_married k n 50 ls (.int x :: st) S iv Q := am_if_ne dX9_married_50 (by decide) kt kf
theorem sX9_married_53 {a0 a1 a2 a3 a4 a5 a6 : Value} (h : am_R E d mX9_married k n 55 [a0, a1, a2, a3, a4, a5, a6] (.int (-101) :: st) S iv Q) : am_R E d mX9_married k n 53 [a0, a1, a2, a3, a4, a5, a6] st S iv Q := am_bipush dX9_married_53 (by decide) h
theorem sX9_married_55 {ls : List Value} {x : Int32} (h : Q (.inl (some (.int x))) S iv) : am_R E d mX9_married k n 55 ls [.int x] S iv Q := am_ireturn dX9_married_55 rfl h
theorem sX9_married_56 {a0 a1 a2 a3 a4 a5 a6 : Value} (hv : am_rf a0 = true) (h : am_R E d mX9_married k n 57 [a0, a1, a2, a3, a4, a5, a6] (a0 :: st) S iv Q) : am_R E d mX9_married k n 56 [a0, a1, a2, a3, a4, a5, a6] st S iv Q := am_aload_n dX9_married_56 rfl rfl hv h
theorem sX9_married_57 {a0 a1 a2 a3 a4 a5 a6 : Value} (hv : am_rf a0 = true) (h : am_R E d mX9_married k n 58 [a0, a1, a2, a3, a4, a5, a6] (a0 :: st) S iv Q) : am_R E d mX9_married k n 57 [a0, a1, a2, a3, a4, a5, a6] st S iv Q := am_aload_n dX9_married_57 rfl rfl hv h
theorem sX9_married_58 {ls : List Value} {a b : Nat} (ha : S.1 a = some (.inl 9)) (hb : S.2.1 a 3 = some b) (h : am_R E d mX9_married k n 61 ls (.ref b :: st) S iv Q) : am_R E d mX9_married k n 58 ls (.ref a :: st) S iv Q := am_getR (ci := 9) dX9_married_58 rfl rfl (by decide) wq_561 uq_9 rfl ha hb h
theorem sX9_married_61 {a0 a1 a2 a3 a4 a5 a6 : Value} (hv : am_rf a0 = true) (h : am_R E d mX9_married k n 62 [a0, a1, a2, a3, a4, a5, a6] (a0 :: st) S iv Q) : am_R E d mX9_married k n 61 [a0, a1, a2, a3, a4, a5, a6] st S iv Q := am_aload_n dX9_married_61 rfl rfl hv h
theorem sX9_married_62 {ls : List Value} {a b : Nat} (ha : S.1 a = some (.inl 9)) (hb : S.2.1 a 5 = some b) (h : am_R E d mX9_married k n 65 ls (.ref b :: st) S iv Q) : am_R E d mX9_married k n 62 ls (.ref a :: st) S iv Q := am_getR (ci := 9) dX9_married_62 rfl rfl (by decide) wq_569 uq_9 rfl ha hb h
theorem sX9_married_65 {ls : List Value} {a : Nat} (ha : S.1 a = some (.inl 7)) (h : am_R E d mX9_married k n 68 ls (.int (iv a 1) :: st) S iv Q) : am_R E d mX9_married k n 65 ls (.ref a :: st) S iv Q := am_getI (ci := 7) dX9_married_65 rfl rfl (by decide) wq_635 uq_7 rfl ha h
theorem sX9_married_68 {ls : List Value} {x1 x2 : Value} {a : Nat} (ha : S.1 a = some (.inl 9)) (hst : (st.map fun v => v.category).sum ≤ 8) (hM : am_M E d mX9_seekBread 0 0 [.ref a, x1, x2] S iv (am_K3 E (d + 1) mX9_married k n 68 ls st Q)) : am_R E (d + 1) mX9_married k n 68 ls (x2 :: x1 :: .ref a :: st) S iv Q := am_cV (ci := 9) (M' := mX9_seekBread) (as := [x1, x2]) dX9_married_68 rfl rfl rfl wq_702 wq_703 wq_704 wq_581 wq_700 hy_X9_seekBread (by decide) ha hst (by omega) (by omega) hM
theorem sX9_married_68_k {ls : List Value} {x1 x2 : Value} {k' n' : Nat} {a : Nat} (ha : S.1 a = some (.inl 9)) (hst : (st.map fun v => v.category).sum ≤ 8) (hM : am_M E d mX9_seekBread k' n' [.ref a, x1, x2] S iv (am_K3 E (d + 1) mX9_married k n 68 ls st Q)) : am_R E (d + 1) mX9_married (k' + k) (n' + n) 68 ls (x2 :: x1 :: .ref a :: st) S iv Q := am_cV (ci := 9) (M' := mX9_seekBread) (as := [x1, x2]) dX9_married_68 rfl rfl rfl wq_702 wq_703 wq_704 wq_581 wq_700 hy_X9_seekBread (by decide) ha hst (by omega) (by omega) hM
theorem sX9_married_71 {a0 a1 a2 a3 a4 a5 a6 : Value} {x : Int32} (h : am_R E d mX9_married k n 73 [a0, a1, a2, a3, .int x, a5, a6] st S iv Q) : am_R E d mX9_married k n 71 [a0, a1, a2, a3, a4, a5, a6] (.int x :: st) S iv Q := am_istore dX9_married_71 (by decide) h
theorem sX9_married_73 {a0 a1 a2 a3 a5 a6 : Value} {x : Int32} (h : am_R E d mX9_married k n 75 [a0, a1, a2, a3, .int x, a5, a6] (.int x :: st) S iv Q) : am_R E d mX9_married k n 73 [a0, a1, a2, a3, .int x, a5, a6] st S iv Q := am_iload dX9_married_73 rfl h
theorem sX9_married_75 {a0 a1 a2 a3 a4 a5 a6 : Value} (h : am_R E d mX9_married k n 76 [a0, a1, a2, a3, a4, a5, a6] (.int (-1) :: st) S iv Q) : am_R E d mX9_married k n 75 [a0, a1, a2, a3, a4, a5, a6] st S iv Q := am_iconst dX9_married_75 (by decide) h
theorem sX9_married_76 {ls : List Value} {x y : Int32} (kt : ¬ x = y → am_R E d mX9_married k n 82 ls st S iv Q) (kf : x = y → am_R E d mX9_married k n 79 ls st S iv Q) : am_R E d mX9_married k n 76 ls (.int y :: .int x :: st) S iv Q := am_icmp_ne dX9_married_76 (by decide) kt kf
theorem sX9_married_79 {a0 a1 a2 a3 a4 a5 a6 : Value} (h : am_R E d mX9_married k n 81 [a0, a1, a2, a3, a4, a5, a6] (.int (-101) :: st) S iv Q) : am_R E d mX9_married k n 79 [a0, a1, a2, a3, a4, a5, a6] st S iv Q := am_bipush dX9_married_79 (by decide) h
theorem sX9_married_81 {ls : List Value} {x : Int32} (h : Q (.inl (some (.int x))) S iv) : am_R E d mX9_married k n 81 ls [.int x] S iv Q := am_ireturn dX9_married_81 rfl h
theorem sX9_married_82 {a0 a1 a2 a3 a4 a5 a6 : Value} (hv : am_rf a0 = true) (h : am_R E d mX9_married k n 83 [a0, a1, a2, a3, a4, a5, a6] (a0 :: st) S iv Q) : am_R E d mX9_married k n 82 [a0, a1, a2, a3, a4, a5, a6] st S iv Q := am_aload_n dX9_married_82 rfl rfl hv h
theorem sX9_married_83 {ls : List Value} {a b : Nat} (ha : S.1 a = some (.inl 9)) (hb : S.2.1 a 8 = some b) (h : am_R E d mX9_married k n 86 ls (.ref b :: st) S iv Q) : am_R E d mX9_married k n 83 ls (.ref a :: st) S iv Q := am_getR (ci := 9) dX9_married_83 rfl rfl (by decide) wq_576 uq_9 rfl ha hb h
theorem sX9_married_86 {a0 a1 a2 a3 a5 a6 : Value} {x : Int32} (h : am_R E d mX9_married k n 88 [a0, a1, a2, a3, .int x, a5, a6] (.int x :: st) S iv Q) : am_R E d mX9_married k n 86 [a0, a1, a2, a3, .int x, a5, a6] st S iv Q := am_iload dX9_married_86 rfl h
theorem sX9_married_88 {ls : List Value} {x1 : Value} {a : Nat} (ha : S.1 a = some (.inl 6)) (hst : (st.map fun v => v.category).sum ≤ 8) (hM : am_M E d mX6_stepsTo 0 0 [.ref a, x1] S iv (am_K3 E (d + 1) mX9_married k n 88 ls st Q)) : am_R E (d + 1) mX9_married k n 88 ls (x1 :: .ref a :: st) S iv Q := am_cV (ci := 6) (M' := mX6_stepsTo) (as := [x1]) dX9_married_88 rfl rfl rfl wq_712 wq_713 wq_714 wq_518 wq_710 hy_X6_stepsTo (by decide) ha hst (by omega) (by omega) hM
theorem sX9_married_88_k {ls : List Value} {x1 : Value} {k' n' : Nat} {a : Nat} (ha : S.1 a = some (.inl 6)) (hst : (st.map fun v => v.category).sum ≤ 8) (hM : am_M E d mX6_stepsTo k' n' [.ref a, x1] S iv (am_K3 E (d + 1) mX9_married k n 88 ls st Q)) : am_R E (d + 1) mX9_married (k' + k) (n' + n) 88 ls (x1 :: .ref a :: st) S iv Q := am_cV (ci := 6) (M' := mX6_stepsTo) (as := [x1]) dX9_married_88 rfl rfl rfl wq_712 wq_713 wq_714 wq_518 wq_710 hy_X6_stepsTo (by decide) ha hst (by omega) (by omega) hM
theorem sX9_married_91 {a0 a1 a2 a3 a4 a5 a6 : Value} {x : Int32} (h : am_R E d mX9_married k n 93 [a0, a1, a2, a3, a4, .int x, a6] st S iv Q) : am_R E d mX9_married k n 91 [a0, a1, a2, a3, a4, a5, a6] (.int x :: st) S iv Q := am_istore dX9_married_91 (by decide) h
theorem sX9_married_93 {a0 a1 a2 a3 a4 a5 a6 : Value} (hv : am_rf a0 = true) (h : am_R E d mX9_married k n 94 [a0, a1, a2, a3, a4, a5, a6] (a0 :: st) S iv Q) : am_R E d mX9_married k n 93 [a0, a1, a2, a3, a4, a5, a6] st S iv Q := am_aload_n dX9_married_93 rfl rfl hv h
theorem sX9_married_94 {ls : List Value} {a b : Nat} (ha : S.1 a = some (.inl 9)) (hb : S.2.1 a 4 = some b) (h : am_R E d mX9_married k n 97 ls (.ref b :: st) S iv Q) : am_R E d mX9_married k n 94 ls (.ref a :: st) S iv Q := am_getR (ci := 9) dX9_married_94 rfl rfl (by decide) wq_562 uq_9 rfl ha hb h
theorem sX9_married_97 {a0 a1 a2 a3 a4 a5 a6 : Value} (hv : am_rf a0 = true) (h : am_R E d mX9_married k n 98 [a0, a1, a2, a3, a4, a5, a6] (a0 :: st) S iv Q) : am_R E d mX9_married k n 97 [a0, a1, a2, a3, a4, a5, a6] st S iv Q := am_aload_n dX9_married_97 rfl rfl hv h
theorem sX9_married_98 {ls : List Value} {a b : Nat} (ha : S.1 a = some (.inl 9)) (hb : S.2.1 a 3 = some b) (h : am_R E d mX9_married k n 101 ls (.ref b :: st) S iv Q) : am_R E d mX9_married k n 98 ls (.ref a :: st) S iv Q := am_getR (ci := 9) dX9_married_98 rfl rfl (by decide) wq_561 uq_9 rfl ha hb h
theorem sX9_married_101 {ls : List Value} {x1 : Value} {a : Nat} (ha : S.1 a = some (.inl 0)) (hst : (st.map fun v => v.category).sum ≤ 8) (hM : am_M E d mX0_copyFrom 0 0 [.ref a, x1] S iv (am_K3 E (d + 1) mX9_married k n 101 ls st Q)) : am_R E (d + 1) mX9_married k n 101 ls (x1 :: .ref a :: st) S iv Q := am_cV (ci := 0) (M' := mX0_copyFrom) (as := [x1]) dX9_married_101 rfl rfl rfl wq_733 wq_734 wq_735 wq_220 wq_731 hy_X0_copyFrom (by decide) ha hst (by omega) (by omega) hM
theorem sX9_married_101_k {ls : List Value} {x1 : Value} {k' n' : Nat} {a : Nat} (ha : S.1 a = some (.inl 0)) (hst : (st.map fun v => v.category).sum ≤ 8) (hM : am_M E d mX0_copyFrom k' n' [.ref a, x1] S iv (am_K3 E (d + 1) mX9_married k n 101 ls st Q)) : am_R E (d + 1) mX9_married (k' + k) (n' + n) 101 ls (x1 :: .ref a :: st) S iv Q := am_cV (ci := 0) (M' := mX0_copyFrom) (as := [x1]) dX9_married_101 rfl rfl rfl wq_733 wq_734 wq_735 wq_220 wq_731 hy_X0_copyFrom (by decide) ha hst (by omega) (by omega) hM
theorem sX9_married_104 {a0 a1 a2 a3 a4 a5 a6 : Value} (hv : am_rf a0 = true) (h : am_R E d mX9_married k n 105 [a0, a1, a2, a3, a4, a5, a6] (a0 :: st) S iv Q) : am_R E d mX9_married k n 104 [a0, a1, a2, a3, a4, a5, a6] st S iv Q := am_aload_n dX9_married_104 rfl rfl hv h
theorem sX9_married_105 {ls : List Value} {a b : Nat} (ha : S.1 a = some (.inl 9)) (hb : S.2.1 a 4 = some b) (h : am_R E d mX9_married k n 108 ls (.ref b :: st) S iv Q) : am_R E d mX9_married k n 105 ls (.ref a :: st) S iv Q := am_getR (ci := 9) dX9_married_105 rfl rfl (by decide) wq_562 uq_9 rfl ha hb h
theorem sX9_married_108 {a0 a2 a3 a4 a5 a6 : Value} {x : Int32} (h : am_R E d mX9_married k n 109 [a0, .int x, a2, a3, a4, a5, a6] (.int x :: st) S iv Q) : am_R E d mX9_married k n 108 [a0, .int x, a2, a3, a4, a5, a6] st S iv Q := am_iload_n dX9_married_108 rfl rfl h
theorem sX9_married_109 {a0 a1 a3 a4 a5 a6 : Value} {x : Int32} (h : am_R E d mX9_married k n 110 [a0, a1, .int x, a3, a4, a5, a6] (.int x :: st) S iv Q) : am_R E d mX9_married k n 109 [a0, a1, .int x, a3, a4, a5, a6] st S iv Q := am_iload_n dX9_married_109 rfl rfl h
theorem sX9_married_110 {ls : List Value} {x1 x2 : Value} {a : Nat} (ha : S.1 a = some (.inl 0)) (hst : (st.map fun v => v.category).sum ≤ 8) (hM : am_M E d mX0_marry 0 0 [.ref a, x1, x2] S iv (am_K3 E (d + 1) mX9_married k n 110 ls st Q)) : am_R E (d + 1) mX9_married k n 110 ls (x2 :: x1 :: .ref a :: st) S iv Q := am_cV (ci := 0) (M' := mX0_marry) (as := [x1, x2]) dX9_married_110 rfl rfl rfl wq_738 wq_739 wq_740 wq_220 wq_736 hy_X0_marry (by decide) ha hst (by omega) (by omega) hM
theorem sX9_married_110_k {ls : List Value} {x1 x2 : Value} {k' n' : Nat} {a : Nat} (ha : S.1 a = some (.inl 0)) (hst : (st.map fun v => v.category).sum ≤ 8) (hM : am_M E d mX0_marry k' n' [.ref a, x1, x2] S iv (am_K3 E (d + 1) mX9_married k n 110 ls st Q)) : am_R E (d + 1) mX9_married (k' + k) (n' + n) 110 ls (x2 :: x1 :: .ref a :: st) S iv Q := am_cV (ci := 0) (M' := mX0_marry) (as := [x1, x2]) dX9_married_110 rfl rfl rfl wq_738 wq_739 wq_740 wq_220 wq_736 hy_X0_marry (by decide) ha hst (by omega) (by omega) hM
theorem sX9_married_113 {a0 a1 a2 a3 a4 a5 a6 : Value} (hv : am_rf a0 = true) (h : am_R E d mX9_married k n 114 [a0, a1, a2, a3, a4, a5, a6] (a0 :: st) S iv Q) : am_R E d mX9_married k n 113 [a0, a1, a2, a3, a4, a5, a6] st S iv Q := am_aload_n dX9_married_113 rfl rfl hv h
theorem sX9_married_114 {a0 a1 a2 a3 a4 a5 a6 : Value} (hv : am_rf a0 = true) (h : am_R E d mX9_married k n 115 [a0, a1, a2, a3, a4, a5, a6] (a0 :: st) S iv Q) : am_R E d mX9_married k n 114 [a0, a1, a2, a3, a4, a5, a6] st S iv Q := am_aload_n dX9_married_114 rfl rfl hv h
theorem sX9_married_115 {ls : List Value} {a b : Nat} (ha : S.1 a = some (.inl 9)) (hb : S.2.1 a 4 = some b) (h : am_R E d mX9_married k n 118 ls (.ref b :: st) S iv Q) : am_R E d mX9_married k n 115 ls (.ref a :: st) S iv Q := am_getR (ci := 9) dX9_married_115 rfl rfl (by decide) wq_562 uq_9 rfl ha hb h
theorem sX9_married_118 {a0 a1 a2 a3 a4 a5 a6 : Value} (hv : am_rf a0 = true) (h : am_R E d mX9_married k n 119 [a0, a1, a2, a3, a4, a5, a6] (a0 :: st) S iv Q) : am_R E d mX9_married k n 118 [a0, a1, a2, a3, a4, a5, a6] st S iv Q := am_aload_n dX9_married_118 rfl rfl hv h
theorem sX9_married_119 {ls : List Value} {a b : Nat} (ha : S.1 a = some (.inl 9)) (hb : S.2.1 a 5 = some b) (h : am_R E d mX9_married k n 122 ls (.ref b :: st) S iv Q) : am_R E d mX9_married k n 119 ls (.ref a :: st) S iv Q := am_getR (ci := 9) dX9_married_119 rfl rfl (by decide) wq_569 uq_9 rfl ha hb h
theorem sX9_married_122 {ls : List Value} {a : Nat} (ha : S.1 a = some (.inl 7)) (h : am_R E d mX9_married k n 125 ls (.int (iv a 1) :: st) S iv Q) : am_R E d mX9_married k n 122 ls (.ref a :: st) S iv Q := am_getI (ci := 7) dX9_married_122 rfl rfl (by decide) wq_635 uq_7 rfl ha h
theorem sX9_married_125 {a0 a1 a2 a3 a4 a5 a6 : Value} (h : am_R E d mX9_married k n 126 [a0, a1, a2, a3, a4, a5, a6] (.int 1 :: st) S iv Q) : am_R E d mX9_married k n 125 [a0, a1, a2, a3, a4, a5, a6] st S iv Q := am_iconst dX9_married_125 (by decide) h
theorem sX9_married_126 {a0 a1 a3 a4 a5 a6 : Value} {x : Int32} (h : am_R E d mX9_married k n 127 [a0, a1, .int x, a3, a4, a5, a6] (.int x :: st) S iv Q) : am_R E d mX9_married k n 126 [a0, a1, .int x, a3, a4, a5, a6] st S iv Q := am_iload_n dX9_married_126 rfl rfl h
theorem sX9_married_127 {ls : List Value} {x y : Int32} (h : am_R E d mX9_married k n 128 ls (.int (x <<< (y &&& 31)) :: st) S iv Q) : am_R E d mX9_married k n 127 ls (.int y :: .int x :: st) S iv Q := am_ishl dX9_married_127 h
theorem sX9_married_128 {ls : List Value} {x y : Int32} (h : am_R E d mX9_married k n 129 ls (.int (x ||| y) :: st) S iv Q) : am_R E d mX9_married k n 128 ls (.int y :: .int x :: st) S iv Q := am_ior dX9_married_128 h
theorem sX9_married_129 {ls : List Value} {x1 x2 : Value} {a : Nat} (ha : S.1 a = some (.inl 9)) (hst : (st.map fun v => v.category).sum ≤ 8) (hM : am_M E d mX9_seekBread 0 0 [.ref a, x1, x2] S iv (am_K3 E (d + 1) mX9_married k n 129 ls st Q)) : am_R E (d + 1) mX9_married k n 129 ls (x2 :: x1 :: .ref a :: st) S iv Q := am_cV (ci := 9) (M' := mX9_seekBread) (as := [x1, x2]) dX9_married_129 rfl rfl rfl wq_702 wq_703 wq_704 wq_581 wq_700 hy_X9_seekBread (by decide) ha hst (by omega) (by omega) hM
theorem sX9_married_129_k {ls : List Value} {x1 x2 : Value} {k' n' : Nat} {a : Nat} (ha : S.1 a = some (.inl 9)) (hst : (st.map fun v => v.category).sum ≤ 8) (hM : am_M E d mX9_seekBread k' n' [.ref a, x1, x2] S iv (am_K3 E (d + 1) mX9_married k n 129 ls st Q)) : am_R E (d + 1) mX9_married (k' + k) (n' + n) 129 ls (x2 :: x1 :: .ref a :: st) S iv Q := am_cV (ci := 9) (M' := mX9_seekBread) (as := [x1, x2]) dX9_married_129 rfl rfl rfl wq_702 wq_703 wq_704 wq_581 wq_700 hy_X9_seekBread (by decide) ha hst (by omega) (by omega) hM
theorem sX9_married_132 {a0 a1 a2 a3 a4 a5 a6 : Value} {x : Int32} (h : am_R E d mX9_married k n 134 [a0, a1, a2, a3, a4, a5, .int x] st S iv Q) : am_R E d mX9_married k n 132 [a0, a1, a2, a3, a4, a5, a6] (.int x :: st) S iv Q := am_istore dX9_married_132 (by decide) h
theorem sX9_married_134 {a0 a1 a2 a3 a4 a5 : Value} {x : Int32} (h : am_R E d mX9_married k n 136 [a0, a1, a2, a3, a4, a5, .int x] (.int x :: st) S iv Q) : am_R E d mX9_married k n 134 [a0, a1, a2, a3, a4, a5, .int x] st S iv Q := am_iload dX9_married_134 rfl h
theorem sX9_married_136 {a0 a1 a2 a3 a4 a5 a6 : Value} (h : am_R E d mX9_married k n 137 [a0, a1, a2, a3, a4, a5, a6] (.int (-1) :: st) S iv Q) : am_R E d mX9_married k n 136 [a0, a1, a2, a3, a4, a5, a6] st S iv Q := am_iconst dX9_married_136 (by decide) h
theorem sX9_married_137 {ls : List Value} {x y : Int32} (kt : ¬ x = y → am_R E d mX9_married k n 145 ls st S iv Q) (kf : x = y → am_R E d mX9_married k n 140 ls st S iv Q) : am_R E d mX9_married k n 137 ls (.int y :: .int x :: st) S iv Q := am_icmp_ne dX9_married_137 (by decide) kt kf
theorem sX9_married_140 {a0 a1 a2 a3 a4 a5 a6 : Value} (h : am_R E d mX9_married k n 142 [a0, a1, a2, a3, a4, a5, a6] (.int (-101) :: st) S iv Q) : am_R E d mX9_married k n 140 [a0, a1, a2, a3, a4, a5, a6] st S iv Q := am_bipush dX9_married_140 (by decide) h
theorem sX9_married_142 {ls : List Value} (h : am_R E d mX9_married k n 157 ls st S iv Q) : am_R E d mX9_married k n 142 ls st S iv Q := am_goto dX9_married_142 (by decide) h
theorem sX9_married_145 {a0 a1 a2 a3 a4 a5 a6 : Value} (hv : am_rf a0 = true) (h : am_R E d mX9_married k n 146 [a0, a1, a2, a3, a4, a5, a6] (a0 :: st) S iv Q) : am_R E d mX9_married k n 145 [a0, a1, a2, a3, a4, a5, a6] st S iv Q := am_aload_n dX9_married_145 rfl rfl hv h
theorem sX9_married_146 {ls : List Value} {a b : Nat} (ha : S.1 a = some (.inl 9)) (hb : S.2.1 a 8 = some b) (h : am_R E d mX9_married k n 149 ls (.ref b :: st) S iv Q) : am_R E d mX9_married k n 146 ls (.ref a :: st) S iv Q := am_getR (ci := 9) dX9_married_146 rfl rfl (by decide) wq_576 uq_9 rfl ha hb h
theorem sX9_married_149 {a0 a1 a2 a3 a4 a5 : Value} {x : Int32} (h : am_R E d mX9_married k n 151 [a0, a1, a2, a3, a4, a5, .int x] (.int x :: st) S iv Q) : am_R E d mX9_married k n 149 [a0, a1, a2, a3, a4, a5, .int x] st S iv Q := am_iload dX9_married_149 rfl h
theorem sX9_married_151 {ls : List Value} {x1 : Value} {a : Nat} (ha : S.1 a = some (.inl 6)) (hst : (st.map fun v => v.category).sum ≤ 8) (hM : am_M E d mX6_stepsTo 0 0 [.ref a, x1] S iv (am_K3 E (d + 1) mX9_married k n 151 ls st Q)) : am_R E (d + 1) mX9_married k n 151 ls (x1 :: .ref a :: st) S iv Q := am_cV (ci := 6) (M' := mX6_stepsTo) (as := [x1]) dX9_married_151 rfl rfl rfl wq_712 wq_713 wq_714 wq_518 wq_710 hy_X6_stepsTo (by decide) ha hst (by omega) (by omega) hM
theorem sX9_married_151_k {ls : List Value} {x1 : Value} {k' n' : Nat} {a : Nat} (ha : S.1 a = some (.inl 6)) (hst : (st.map fun v => v.category).sum ≤ 8) (hM : am_M E d mX6_stepsTo k' n' [.ref a, x1] S iv (am_K3 E (d + 1) mX9_married k n 151 ls st Q)) : am_R E (d + 1) mX9_married (k' + k) (n' + n) 151 ls (x1 :: .ref a :: st) S iv Q := am_cV (ci := 6) (M' := mX6_stepsTo) (as := [x1]) dX9_married_151 rfl rfl rfl wq_712 wq_713 wq_714 wq_518 wq_710 hy_X6_stepsTo (by decide) ha hst (by omega) (by omega) hM
theorem sX9_married_154 {a0 a1 a2 a3 a4 a6 : Value} {x : Int32} (h : am_R E d mX9_married k n 156 [a0, a1, a2, a3, a4, .int x, a6] (.int x :: st) S iv Q) : am_R E d mX9_married k n 154 [a0, a1, a2, a3, a4, .int x, a6] st S iv Q := am_iload dX9_married_154 rfl h
theorem sX9_married_156 {ls : List Value} {x y : Int32} (h : am_R E d mX9_married k n 157 ls (.int (x - y) :: st) S iv Q) : am_R E d mX9_married k n 156 ls (.int y :: .int x :: st) S iv Q := am_isub dX9_married_156 h
theorem sX9_married_157 {ls : List Value} {x : Int32} (h : Q (.inl (some (.int x))) S iv) : am_R E d mX9_married k n 157 ls [.int x] S iv Q := am_ireturn dX9_married_157 rfl h
theorem dX9_rent_0 : decode cX9_rent 0 = .ok (.iconst 0, 1) := by decide +kernel
theorem dX9_rent_1 : decode cX9_rent 1 = .ok (.istore_n 1, 1) := by decide +kernel
theorem dX9_rent_2 : decode cX9_rent 2 = .ok (.iconst 0, 1) := by decide +kernel
theorem dX9_rent_3 : decode cX9_rent 3 = .ok (.istore_n 2, 1) := by decide +kernel
theorem dX9_rent_4 : decode cX9_rent 4 = .ok (.iload_n 2, 1) := by decide +kernel
theorem dX9_rent_5 : decode cX9_rent 5 = .ok (.aload_n 0, 1) := by decide +kernel
theorem dX9_rent_6 : decode cX9_rent 6 = .ok (.getfield 20, 3) := by decide +kernel
theorem dX9_rent_9 : decode cX9_rent 9 = .ok (.getfield 102, 3) := by decide +kernel
theorem dX9_rent_12 : decode cX9_rent 12 = .ok (.getfield 106, 3) := by decide +kernel
theorem dX9_rent_15 : decode cX9_rent 15 = .ok (.if_icmp .ge 20, 3) := by decide +kernel
theorem dX9_rent_18 : decode cX9_rent 18 = .ok (.iload_n 1, 1) := by decide +kernel
theorem dX9_rent_19 : decode cX9_rent 19 = .ok (.aload_n 0, 1) := by decide +kernel
theorem dX9_rent_20 : decode cX9_rent 20 = .ok (.getfield 20, 3) := by decide +kernel
theorem dX9_rent_23 : decode cX9_rent 23 = .ok (.iload_n 2, 1) := by decide +kernel
theorem dX9_rent_24 : decode cX9_rent 24 = .ok (.invokevirtual 171, 3) := by decide +kernel
theorem dX9_rent_27 : decode cX9_rent 27 = .ok (.iadd, 1) := by decide +kernel
theorem dX9_rent_28 : decode cX9_rent 28 = .ok (.istore_n 1, 1) := by decide +kernel
theorem dX9_rent_29 : decode cX9_rent 29 = .ok (.iinc 2 1, 3) := by decide +kernel
theorem dX9_rent_32 : decode cX9_rent 32 = .ok (.goto (-28), 3) := by decide +kernel
theorem dX9_rent_35 : decode cX9_rent 35 = .ok (.iload_n 1, 1) := by decide +kernel
theorem dX9_rent_36 : decode cX9_rent 36 = .ok (.ireturn, 1) := by decide +kernel
theorem sX9_rent_0 {a0 a1 a2 : Value} (h : am_R E d mX9_rent k n 1 [a0, a1, a2] (.int 0 :: st) S iv Q) : am_R E d mX9_rent k n 0 [a0, a1, a2] st S iv Q := am_iconst dX9_rent_0 (by decide) h
theorem sX9_rent_1 {a0 a1 a2 : Value} {x : Int32} (h : am_R E d mX9_rent k n 2 [a0, .int x, a2] st S iv Q) : am_R E d mX9_rent k n 1 [a0, a1, a2] (.int x :: st) S iv Q := am_istore_n dX9_rent_1 rfl (by decide) h
theorem sX9_rent_2 {a0 a1 a2 : Value} (h : am_R E d mX9_rent k n 3 [a0, a1, a2] (.int 0 :: st) S iv Q) : am_R E d mX9_rent k n 2 [a0, a1, a2] st S iv Q := am_iconst dX9_rent_2 (by decide) h
theorem sX9_rent_3 {a0 a1 a2 : Value} {x : Int32} (h : am_R E d mX9_rent k n 4 [a0, a1, .int x] st S iv Q) : am_R E d mX9_rent k n 3 [a0, a1, a2] (.int x :: st) S iv Q := am_istore_n dX9_rent_3 rfl (by decide) h
theorem sX9_rent_4 {a0 a1 : Value} {x : Int32} (h : am_R E d mX9_rent k n 5 [a0, a1, .int x] (.int x :: st) S iv Q) : am_R E d mX9_rent k n 4 [a0, a1, .int x] st S iv Q := am_iload_n dX9_rent_4 rfl rfl h
theorem sX9_rent_5 {a0 a1 a2 : Value} (hv : am_rf a0 = true) (h : am_R E d mX9_rent k n 6 [a0, a1, a2] (a0 :: st) S iv Q) : am_R E d mX9_rent k n 5 [a0, a1, a2] st S iv Q := am_aload_n dX9_rent_5 rfl rfl hv h
theorem sX9_rent_6 {ls : List Value} {a b : Nat} (ha : S.1 a = some (.inl 9)) (hb : S.2.1 a 3 = some b) (h : am_R E d mX9_rent k n 9 ls (.ref b :: st) S iv Q) : am_R E d mX9_rent k n 6 ls (.ref a :: st) S iv Q := am_getR (ci := 9) dX9_rent_6 rfl rfl (by decide) wq_561 uq_9 rfl ha hb h
theorem sX9_rent_9 {ls : List Value} {a b : Nat} (ha : S.1 a = some (.inl 0)) (hb : S.2.1 a 7 = some b) (h : am_R E d mX9_rent k n 12 ls (.ref b :: st) S iv Q) : am_R E d mX9_rent k n 9 ls (.ref a :: st) S iv Q := am_getR (ci := 0) dX9_rent_9 rfl rfl (by decide) wq_625 uq_0 rfl ha hb h
theorem sX9_rent_12 {ls : List Value} {a : Nat} (ha : S.1 a = some (.inl 2)) (h : am_R E d mX9_rent k n 15 ls (.int (iv a 0) :: st) S iv Q) : am_R E d mX9_rent k n 12 ls (.ref a :: st) S iv Q := am_getI (ci := 2) dX9_rent_12 rfl rfl (by decide) wq_626 uq_2 rfl ha h
theorem sX9_rent_15 {ls : List Value} {x y : Int32} (kt : y ≤ x → am_R E d mX9_rent k n 35 ls st S iv Q) (kf : ¬ y ≤ x → am_R E d mX9_rent k n 18 ls st S iv Q) : am_R E d mX9_rent k n 15 ls (.int y :: .int x :: st) S iv Q := am_icmp_ge dX9_rent_15 (by decide) kt kf
theorem sX9_rent_18 {a0 a2 : Value} {x : Int32} (h : am_R E d mX9_rent k n 19 [a0, .int x, a2] (.int x :: st) S iv Q) : am_R E d mX9_rent k n 18 [a0, .int x, a2] st S iv Q := am_iload_n dX9_rent_18 rfl rfl h
theorem sX9_rent_19 {a0 a1 a2 : Value} (hv : am_rf a0 = true) (h : am_R E d mX9_rent k n 20 [a0, a1, a2] (a0 :: st) S iv Q) : am_R E d mX9_rent k n 19 [a0, a1, a2] st S iv Q := am_aload_n dX9_rent_19 rfl rfl hv h
theorem sX9_rent_20 {ls : List Value} {a b : Nat} (ha : S.1 a = some (.inl 9)) (hb : S.2.1 a 3 = some b) (h : am_R E d mX9_rent k n 23 ls (.ref b :: st) S iv Q) : am_R E d mX9_rent k n 20 ls (.ref a :: st) S iv Q := am_getR (ci := 9) dX9_rent_20 rfl rfl (by decide) wq_561 uq_9 rfl ha hb h
theorem sX9_rent_23 {a0 a1 : Value} {x : Int32} (h : am_R E d mX9_rent k n 24 [a0, a1, .int x] (.int x :: st) S iv Q) : am_R E d mX9_rent k n 23 [a0, a1, .int x] st S iv Q := am_iload_n dX9_rent_23 rfl rfl h
theorem sX9_rent_24 {ls : List Value} {x1 : Value} {a : Nat} (ha : S.1 a = some (.inl 0)) (hst : (st.map fun v => v.category).sum ≤ 8) (hM : am_M E d mX0_rentOf 0 0 [.ref a, x1] S iv (am_K3 E (d + 1) mX9_rent k n 24 ls st Q)) : am_R E (d + 1) mX9_rent k n 24 ls (x1 :: .ref a :: st) S iv Q := am_cV (ci := 0) (M' := mX0_rentOf) (as := [x1]) dX9_rent_24 rfl rfl rfl wq_653 wq_654 wq_655 wq_220 wq_651 hy_X0_rentOf (by decide) ha hst (by omega) (by omega) hM
theorem sX9_rent_24_k {ls : List Value} {x1 : Value} {k' n' : Nat} {a : Nat} (ha : S.1 a = some (.inl 0)) (hst : (st.map fun v => v.category).sum ≤ 8) (hM : am_M E d mX0_rentOf k' n' [.ref a, x1] S iv (am_K3 E (d + 1) mX9_rent k n 24 ls st Q)) : am_R E (d + 1) mX9_rent (k' + k) (n' + n) 24 ls (x1 :: .ref a :: st) S iv Q := am_cV (ci := 0) (M' := mX0_rentOf) (as := [x1]) dX9_rent_24 rfl rfl rfl wq_653 wq_654 wq_655 wq_220 wq_651 hy_X0_rentOf (by decide) ha hst (by omega) (by omega) hM
theorem sX9_rent_27 {ls : List Value} {x y : Int32} (h : am_R E d mX9_rent k n 28 ls (.int (x + y) :: st) S iv Q) : am_R E d mX9_rent k n 27 ls (.int y :: .int x :: st) S iv Q := am_iadd dX9_rent_27 h
theorem sX9_rent_28 {a0 a1 a2 : Value} {x : Int32} (h : am_R E d mX9_rent k n 29 [a0, .int x, a2] st S iv Q) : am_R E d mX9_rent k n 28 [a0, a1, a2] (.int x :: st) S iv Q := am_istore_n dX9_rent_28 rfl (by decide) h
theorem sX9_rent_29 {a0 a1 : Value} {x : Int32} (h : am_R E d mX9_rent k n 32 [a0, a1, .int (x + 1)] st S iv Q) : am_R E d mX9_rent k n 29 [a0, a1, .int x] st S iv Q := am_iinc dX9_rent_29 rfl rfl (by decide) h
theorem sX9_rent_32 {ls : List Value} (h : am_R E d mX9_rent k n 4 ls st S iv Q) : am_R E d mX9_rent k n 32 ls st S iv Q := am_goto dX9_rent_32 (by decide) h
theorem sX9_rent_35 {a0 a2 : Value} {x : Int32} (h : am_R E d mX9_rent k n 36 [a0, .int x, a2] (.int x :: st) S iv Q) : am_R E d mX9_rent k n 35 [a0, .int x, a2] st S iv Q := am_iload_n dX9_rent_35 rfl rfl h
theorem sX9_rent_36 {ls : List Value} {x : Int32} (h : Q (.inl (some (.int x))) S iv) : am_R E d mX9_rent k n 36 ls [.int x] S iv Q := am_ireturn dX9_rent_36 rfl h
theorem dX9_wind_0 : decode cX9_wind 0 = .ok (.iload_n 2, 1) := by decide +kernel
theorem dX9_wind_1 : decode cX9_wind 1 = .ok (.ifCond .lt 9, 3) := by decide +kernel
theorem dX9_wind_4 : decode cX9_wind 4 = .ok (.iload_n 2, 1) := by decide +kernel
theorem dX9_wind_5 : decode cX9_wind 5 = .ok (.bipush 60, 2) := by decide +kernel
theorem dX9_wind_7 : decode cX9_wind 7 = .ok (.if_icmp .le 14, 3) := by decide +kernel
theorem dX9_wind_10 : decode cX9_wind 10 = .ok (.new 58, 3) := by decide +kernel
theorem dX9_wind_13 : decode cX9_wind 13 = .ok (.dup, 1) := by decide +kernel
theorem dX9_wind_14 : decode cX9_wind 14 = .ok (.ldc_w 272, 3) := by decide +kernel
theorem dX9_wind_17 : decode cX9_wind 17 = .ok (.invokespecial 62, 3) := by decide +kernel
theorem dX9_wind_20 : decode cX9_wind 20 = .ok (.athrow, 1) := by decide +kernel
theorem dX9_wind_21 : decode cX9_wind 21 = .ok (.iconst 0, 1) := by decide +kernel
theorem dX9_wind_22 : decode cX9_wind 22 = .ok (.istore_n 3, 1) := by decide +kernel
theorem dX9_wind_23 : decode cX9_wind 23 = .ok (.iload_n 1, 1) := by decide +kernel
theorem dX9_wind_24 : decode cX9_wind 24 = .ok (.istore 4, 2) := by decide +kernel
theorem dX9_wind_26 : decode cX9_wind 26 = .ok (.iconst 0, 1) := by decide +kernel
theorem dX9_wind_27 : decode cX9_wind 27 = .ok (.istore 5, 2) := by decide +kernel
theorem dX9_wind_29 : decode cX9_wind 29 = .ok (.iload 5, 2) := by decide +kernel
theorem dX9_wind_31 : decode cX9_wind 31 = .ok (.iload_n 2, 1) := by decide +kernel
theorem dX9_wind_32 : decode cX9_wind 32 = .ok (.if_icmp .ge 106, 3) := by decide +kernel
theorem dX9_wind_35 : decode cX9_wind 35 = .ok (.iconst 0, 1) := by decide +kernel
theorem dX9_wind_36 : decode cX9_wind 36 = .ok (.istore 6, 2) := by decide +kernel
theorem dX9_wind_38 : decode cX9_wind 38 = .ok (.iload 6, 2) := by decide +kernel
theorem dX9_wind_40 : decode cX9_wind 40 = .ok (.aload_n 0, 1) := by decide +kernel
theorem dX9_wind_41 : decode cX9_wind 41 = .ok (.getfield 20, 3) := by decide +kernel
theorem dX9_wind_44 : decode cX9_wind 44 = .ok (.getfield 102, 3) := by decide +kernel
theorem dX9_wind_47 : decode cX9_wind 47 = .ok (.getfield 106, 3) := by decide +kernel
theorem dX9_wind_50 : decode cX9_wind 50 = .ok (.if_icmp .ge 82, 3) := by decide +kernel
theorem dX9_wind_53 : decode cX9_wind 53 = .ok (.aload_n 0, 1) := by decide +kernel
theorem dX9_wind_54 : decode cX9_wind 54 = .ok (.getfield 30, 3) := by decide +kernel
theorem dX9_wind_57 : decode cX9_wind 57 = .ok (.getfield 128, 3) := by decide +kernel
theorem dX9_wind_60 : decode cX9_wind 60 = .ok (.iload 6, 2) := by decide +kernel
theorem dX9_wind_62 : decode cX9_wind 62 = .ok (.ishr, 1) := by decide +kernel
theorem dX9_wind_63 : decode cX9_wind 63 = .ok (.iconst 1, 1) := by decide +kernel
theorem dX9_wind_64 : decode cX9_wind 64 = .ok (.iand, 1) := by decide +kernel
theorem dX9_wind_65 : decode cX9_wind 65 = .ok (.ifCond .eq 61, 3) := by decide +kernel
theorem dX9_wind_68 : decode cX9_wind 68 = .ok (.iload 4, 2) := by decide +kernel
theorem dX9_wind_70 : decode cX9_wind 70 = .ok (.ldc_w 274, 3) := by decide +kernel
theorem dX9_wind_73 : decode cX9_wind 73 = .ok (.imul, 1) := by decide +kernel
theorem dX9_wind_74 : decode cX9_wind 74 = .ok (.sipush 12345, 3) := by decide +kernel
theorem dX9_wind_77 : decode cX9_wind 77 = .ok (.iadd, 1) := by decide +kernel
theorem dX9_wind_78 : decode cX9_wind 78 = .ok (.istore 4, 2) := by decide +kernel
theorem dX9_wind_80 : decode cX9_wind 80 = .ok (.iload 4, 2) := by decide +kernel
theorem dX9_wind_82 : decode cX9_wind 82 = .ok (.bipush 16, 2) := by decide +kernel
theorem dX9_wind_84 : decode cX9_wind 84 = .ok (.iushr, 1) := by decide +kernel
theorem dX9_wind_85 : decode cX9_wind 85 = .ok (.sipush 32767, 3) := by decide +kernel
theorem dX9_wind_88 : decode cX9_wind 88 = .ok (.iand, 1) := by decide +kernel
theorem dX9_wind_89 : decode cX9_wind 89 = .ok (.sipush 1000, 3) := by decide +kernel
theorem dX9_wind_92 : decode cX9_wind 92 = .ok (.irem, 1) := by decide +kernel
theorem dX9_wind_93 : decode cX9_wind 93 = .ok (.aload_n 0, 1) := by decide +kernel
theorem dX9_wind_94 : decode cX9_wind 94 = .ok (.getfield 20, 3) := by decide +kernel
theorem dX9_wind_97 : decode cX9_wind 97 = .ok (.getfield 275, 3) := by decide +kernel
theorem dX9_wind_100 : decode cX9_wind 100 = .ok (.aload_n 0, 1) := by decide +kernel
theorem dX9_wind_101 : decode cX9_wind 101 = .ok (.getfield 20, 3) := by decide +kernel
theorem dX9_wind_104 : decode cX9_wind 104 = .ok (.getfield 102, 3) := by decide +kernel
theorem dX9_wind_107 : decode cX9_wind 107 = .ok (.getfield 160, 3) := by decide +kernel
theorem dX9_wind_110 : decode cX9_wind 110 = .ok (.iload 6, 2) := by decide +kernel
theorem dX9_wind_112 : decode cX9_wind 112 = .ok (.iaload, 1) := by decide +kernel
theorem dX9_wind_113 : decode cX9_wind 113 = .ok (.imul, 1) := by decide +kernel
theorem dX9_wind_114 : decode cX9_wind 114 = .ok (.if_icmp .ge 12, 3) := by decide +kernel
theorem dX9_wind_117 : decode cX9_wind 117 = .ok (.aload_n 0, 1) := by decide +kernel
theorem dX9_wind_118 : decode cX9_wind 118 = .ok (.iload 6, 2) := by decide +kernel
theorem dX9_wind_120 : decode cX9_wind 120 = .ok (.invokevirtual 278, 3) := by decide +kernel
theorem dX9_wind_123 : decode cX9_wind 123 = .ok (.iinc 3 1, 3) := by decide +kernel
theorem dX9_wind_126 : decode cX9_wind 126 = .ok (.iinc 6 1, 3) := by decide +kernel
theorem dX9_wind_129 : decode cX9_wind 129 = .ok (.goto (-91), 3) := by decide +kernel
theorem dX9_wind_132 : decode cX9_wind 132 = .ok (.iinc 5 1, 3) := by decide +kernel
theorem dX9_wind_135 : decode cX9_wind 135 = .ok (.goto (-106), 3) := by decide +kernel
theorem dX9_wind_138 : decode cX9_wind 138 = .ok (.iload_n 2, 1) := by decide +kernel
theorem dX9_wind_139 : decode cX9_wind 139 = .ok (.ifCond .le 11, 3) := by decide +kernel
theorem dX9_wind_142 : decode cX9_wind 142 = .ok (.aload_n 0, 1) := by decide +kernel
theorem dX9_wind_143 : decode cX9_wind 143 = .ok (.getfield 30, 3) := by decide +kernel
theorem dX9_wind_146 : decode cX9_wind 146 = .ok (.iconst 0, 1) := by decide +kernel
theorem dX9_wind_147 : decode cX9_wind 147 = .ok (.putfield 131, 3) := by decide +kernel
theorem dX9_wind_150 : decode cX9_wind 150 = .ok (.iload_n 3, 1) := by decide +kernel
theorem dX9_wind_151 : decode cX9_wind 151 = .ok (.ireturn, 1) := by decide +kernel
theorem sX9_wind_0 {a0 a1 a3 a4 a5 a6 : Value} {x : Int32} (h : am_R E d mX9_wind k n 1 [a0, a1, .int x, a3, a4, a5, a6] (.int x :: st) S iv Q) : am_R E d mX9_wind k n 0 [a0, a1, .int x, a3, a4, a5, a6] st S iv Q := am_iload_n dX9_wind_0 rfl rfl h
theorem sX9_wind_1 {ls : List Value} {x : Int32} (kt : x < 0 → am_R E d mX9_wind k n 10 ls st S iv Q) (kf : ¬ x < 0 → am_R E d mX9_wind k n 4 ls st S iv Q) : am_R E d mX9_wind k n 1 ls (.int x :: st) S iv Q := am_if_lt dX9_wind_1 (by decide) kt kf
theorem sX9_wind_4 {a0 a1 a3 a4 a5 a6 : Value} {x : Int32} (h : am_R E d mX9_wind k n 5 [a0, a1, .int x, a3, a4, a5, a6] (.int x :: st) S iv Q) : am_R E d mX9_wind k n 4 [a0, a1, .int x, a3, a4, a5, a6] st S iv Q := am_iload_n dX9_wind_4 rfl rfl h
theorem sX9_wind_5 {a0 a1 a2 a3 a4 a5 a6 : Value} (h : am_R E d mX9_wind k n 7 [a0, a1, a2, a3, a4, a5, a6] (.int 60 :: st) S iv Q) : am_R E d mX9_wind k n 5 [a0, a1, a2, a3, a4, a5, a6] st S iv Q := am_bipush dX9_wind_5 (by decide) h
theorem sX9_wind_7 {ls : List Value} {x y : Int32} (kt : x ≤ y → am_R E d mX9_wind k n 21 ls st S iv Q) (kf : ¬ x ≤ y → am_R E d mX9_wind k n 10 ls st S iv Q) : am_R E d mX9_wind k n 7 ls (.int y :: .int x :: st) S iv Q := am_icmp_le dX9_wind_7 (by decide) kt kf
theorem sX9_wind_10 {ls : List Value} (hst : (st.map fun v => v.category).sum ≤ 8) (h : ∀ nx, S.2.2.2 ≤ nx → Q (.inr "java/lang/IllegalArgumentException") (S.1, S.2.1, S.2.2.1, nx) iv) : am_R E (d + 7) mX9_wind (k + 1) (n + 6) 10 ls st S iv Q := am_throwW (X := "java/lang/IllegalArgumentException") (tx := "hours of wind are 0 to 60") (j := 33) dX9_wind_10 dX9_wind_13 dX9_wind_14 dX9_wind_17 dX9_wind_20 rfl (by decide) wq_586 wq_587 wq_588 wq_588_g (List.mem_of_getElem? (i := 33) rfl) (by omega) hst (by omega) (by omega) h
theorem sX9_wind_13 {ls : List Value} {x : Value} (hv : x.category = 1) (h : am_R E d mX9_wind k n 14 ls (x :: x :: st) S iv Q) : am_R E d mX9_wind k n 13 ls (x :: st) S iv Q := am_dup dX9_wind_13 hv h
theorem sX9_wind_14 {a0 a1 a2 a3 a4 a5 a6 : Value} (h : am_R E d mX9_wind k n 17 [a0, a1, a2, a3, a4, a5, a6] (.retAddr 33 :: st) S iv Q) : am_R E d mX9_wind k n 14 [a0, a1, a2, a3, a4, a5, a6] st S iv Q := am_ldcSw (tx := "hours of wind are 0 to 60") dX9_wind_14 (List.mem_of_getElem? (i := 33) rfl) h
theorem sX9_wind_21 {a0 a1 a2 a3 a4 a5 a6 : Value} (h : am_R E d mX9_wind k n 22 [a0, a1, a2, a3, a4, a5, a6] (.int 0 :: st) S iv Q) : am_R E d mX9_wind k n 21 [a0, a1, a2, a3, a4, a5, a6] st S iv Q := am_iconst dX9_wind_21 (by decide) h
theorem sX9_wind_22 {a0 a1 a2 a3 a4 a5 a6 : Value} {x : Int32} (h : am_R E d mX9_wind k n 23 [a0, a1, a2, .int x, a4, a5, a6] st S iv Q) : am_R E d mX9_wind k n 22 [a0, a1, a2, a3, a4, a5, a6] (.int x :: st) S iv Q := am_istore_n dX9_wind_22 rfl (by decide) h
theorem sX9_wind_23 {a0 a2 a3 a4 a5 a6 : Value} {x : Int32} (h : am_R E d mX9_wind k n 24 [a0, .int x, a2, a3, a4, a5, a6] (.int x :: st) S iv Q) : am_R E d mX9_wind k n 23 [a0, .int x, a2, a3, a4, a5, a6] st S iv Q := am_iload_n dX9_wind_23 rfl rfl h
theorem sX9_wind_24 {a0 a1 a2 a3 a4 a5 a6 : Value} {x : Int32} (h : am_R E d mX9_wind k n 26 [a0, a1, a2, a3, .int x, a5, a6] st S iv Q) : am_R E d mX9_wind k n 24 [a0, a1, a2, a3, a4, a5, a6] (.int x :: st) S iv Q := am_istore dX9_wind_24 (by decide) h
theorem sX9_wind_26 {a0 a1 a2 a3 a4 a5 a6 : Value} (h : am_R E d mX9_wind k n 27 [a0, a1, a2, a3, a4, a5, a6] (.int 0 :: st) S iv Q) : am_R E d mX9_wind k n 26 [a0, a1, a2, a3, a4, a5, a6] st S iv Q := am_iconst dX9_wind_26 (by decide) h
theorem sX9_wind_27 {a0 a1 a2 a3 a4 a5 a6 : Value} {x : Int32} (h : am_R E d mX9_wind k n 29 [a0, a1, a2, a3, a4, .int x, a6] st S iv Q) : am_R E d mX9_wind k n 27 [a0, a1, a2, a3, a4, a5, a6] (.int x :: st) S iv Q := am_istore dX9_wind_27 (by decide) h
theorem sX9_wind_29 {a0 a1 a2 a3 a4 a6 : Value} {x : Int32} (h : am_R E d mX9_wind k n 31 [a0, a1, a2, a3, a4, .int x, a6] (.int x :: st) S iv Q) : am_R E d mX9_wind k n 29 [a0, a1, a2, a3, a4, .int x, a6] st S iv Q := am_iload dX9_wind_29 rfl h
theorem sX9_wind_31 {a0 a1 a3 a4 a5 a6 : Value} {x : Int32} (h : am_R E d mX9_wind k n 32 [a0, a1, .int x, a3, a4, a5, a6] (.int x :: st) S iv Q) : am_R E d mX9_wind k n 31 [a0, a1, .int x, a3, a4, a5, a6] st S iv Q := am_iload_n dX9_wind_31 rfl rfl h
theorem sX9_wind_32 {ls : List Value} {x y : Int32} (kt : y ≤ x → am_R E d mX9_wind k n 138 ls st S iv Q) (kf : ¬ y ≤ x → am_R E d mX9_wind k n 35 ls st S iv Q) : am_R E d mX9_wind k n 32 ls (.int y :: .int x :: st) S iv Q := am_icmp_ge dX9_wind_32 (by decide) kt kf
theorem sX9_wind_35 {a0 a1 a2 a3 a4 a5 a6 : Value} (h : am_R E d mX9_wind k n 36 [a0, a1, a2, a3, a4, a5, a6] (.int 0 :: st) S iv Q) : am_R E d mX9_wind k n 35 [a0, a1, a2, a3, a4, a5, a6] st S iv Q := am_iconst dX9_wind_35 (by decide) h
theorem sX9_wind_36 {a0 a1 a2 a3 a4 a5 a6 : Value} {x : Int32} (h : am_R E d mX9_wind k n 38 [a0, a1, a2, a3, a4, a5, .int x] st S iv Q) : am_R E d mX9_wind k n 36 [a0, a1, a2, a3, a4, a5, a6] (.int x :: st) S iv Q := am_istore dX9_wind_36 (by decide) h
theorem sX9_wind_38 {a0 a1 a2 a3 a4 a5 : Value} {x : Int32} (h : am_R E d mX9_wind k n 40 [a0, a1, a2, a3, a4, a5, .int x] (.int x :: st) S iv Q) : am_R E d mX9_wind k n 38 [a0, a1, a2, a3, a4, a5, .int x] st S iv Q := am_iload dX9_wind_38 rfl h
theorem sX9_wind_40 {a0 a1 a2 a3 a4 a5 a6 : Value} (hv : am_rf a0 = true) (h : am_R E d mX9_wind k n 41 [a0, a1, a2, a3, a4, a5, a6] (a0 :: st) S iv Q) : am_R E d mX9_wind k n 40 [a0, a1, a2, a3, a4, a5, a6] st S iv Q := am_aload_n dX9_wind_40 rfl rfl hv h
theorem sX9_wind_41 {ls : List Value} {a b : Nat} (ha : S.1 a = some (.inl 9)) (hb : S.2.1 a 3 = some b) (h : am_R E d mX9_wind k n 44 ls (.ref b :: st) S iv Q) : am_R E d mX9_wind k n 41 ls (.ref a :: st) S iv Q := am_getR (ci := 9) dX9_wind_41 rfl rfl (by decide) wq_561 uq_9 rfl ha hb h
theorem sX9_wind_44 {ls : List Value} {a b : Nat} (ha : S.1 a = some (.inl 0)) (hb : S.2.1 a 7 = some b) (h : am_R E d mX9_wind k n 47 ls (.ref b :: st) S iv Q) : am_R E d mX9_wind k n 44 ls (.ref a :: st) S iv Q := am_getR (ci := 0) dX9_wind_44 rfl rfl (by decide) wq_625 uq_0 rfl ha hb h
theorem sX9_wind_47 {ls : List Value} {a : Nat} (ha : S.1 a = some (.inl 2)) (h : am_R E d mX9_wind k n 50 ls (.int (iv a 0) :: st) S iv Q) : am_R E d mX9_wind k n 47 ls (.ref a :: st) S iv Q := am_getI (ci := 2) dX9_wind_47 rfl rfl (by decide) wq_626 uq_2 rfl ha h
theorem sX9_wind_50 {ls : List Value} {x y : Int32} (kt : y ≤ x → am_R E d mX9_wind k n 132 ls st S iv Q) (kf : ¬ y ≤ x → am_R E d mX9_wind k n 53 ls st S iv Q) : am_R E d mX9_wind k n 50 ls (.int y :: .int x :: st) S iv Q := am_icmp_ge dX9_wind_50 (by decide) kt kf
theorem sX9_wind_53 {a0 a1 a2 a3 a4 a5 a6 : Value} (hv : am_rf a0 = true) (h : am_R E d mX9_wind k n 54 [a0, a1, a2, a3, a4, a5, a6] (a0 :: st) S iv Q) : am_R E d mX9_wind k n 53 [a0, a1, a2, a3, a4, a5, a6] st S iv Q := am_aload_n dX9_wind_53 rfl rfl hv h
theorem sX9_wind_54 {ls : List Value} {a b : Nat} (ha : S.1 a = some (.inl 9)) (hb : S.2.1 a 5 = some b) (h : am_R E d mX9_wind k n 57 ls (.ref b :: st) S iv Q) : am_R E d mX9_wind k n 54 ls (.ref a :: st) S iv Q := am_getR (ci := 9) dX9_wind_54 rfl rfl (by decide) wq_569 uq_9 rfl ha hb h
theorem sX9_wind_57 {ls : List Value} {a : Nat} (ha : S.1 a = some (.inl 7)) (h : am_R E d mX9_wind k n 60 ls (.int (iv a 0) :: st) S iv Q) : am_R E d mX9_wind k n 57 ls (.ref a :: st) S iv Q := am_getI (ci := 7) dX9_wind_57 rfl rfl (by decide) wq_632 uq_7 rfl ha h
theorem sX9_wind_60 {a0 a1 a2 a3 a4 a5 : Value} {x : Int32} (h : am_R E d mX9_wind k n 62 [a0, a1, a2, a3, a4, a5, .int x] (.int x :: st) S iv Q) : am_R E d mX9_wind k n 60 [a0, a1, a2, a3, a4, a5, .int x] st S iv Q := am_iload dX9_wind_60 rfl h
theorem sX9_wind_62 {ls : List Value} {x y : Int32} (h : am_R E d mX9_wind k n 63 ls (.int (x >>> (y &&& 31)) :: st) S iv Q) : am_R E d mX9_wind k n 62 ls (.int y :: .int x :: st) S iv Q := am_ishr dX9_wind_62 h
theorem sX9_wind_63 {a0 a1 a2 a3 a4 a5 a6 : Value} (h : am_R E d mX9_wind k n 64 [a0, a1, a2, a3, a4, a5, a6] (.int 1 :: st) S iv Q) : am_R E d mX9_wind k n 63 [a0, a1, a2, a3, a4, a5, a6] st S iv Q := am_iconst dX9_wind_63 (by decide) h
theorem sX9_wind_64 {ls : List Value} {x y : Int32} (h : am_R E d mX9_wind k n 65 ls (.int (x &&& y) :: st) S iv Q) : am_R E d mX9_wind k n 64 ls (.int y :: .int x :: st) S iv Q := am_iand dX9_wind_64 h
theorem sX9_wind_65 {ls : List Value} {x : Int32} (kt : x = 0 → am_R E d mX9_wind k n 126 ls st S iv Q) (kf : ¬ x = 0 → am_R E d mX9_wind k n 68 ls st S iv Q) : am_R E d mX9_wind k n 65 ls (.int x :: st) S iv Q := am_if_eq dX9_wind_65 (by decide) kt kf
theorem sX9_wind_68 {a0 a1 a2 a3 a5 a6 : Value} {x : Int32} (h : am_R E d mX9_wind k n 70 [a0, a1, a2, a3, .int x, a5, a6] (.int x :: st) S iv Q) : am_R E d mX9_wind k n 68 [a0, a1, a2, a3, .int x, a5, a6] st S iv Q := am_iload dX9_wind_68 rfl h
theorem sX9_wind_70 {a0 a1 a2 a3 a4 a5 a6 : Value} (h : am_R E d mX9_wind k n 73 [a0, a1, a2, a3, a4, a5, a6] (.int 1103515245 :: st) S iv Q) : am_R E d mX9_wind k n 70 [a0, a1, a2, a3, a4, a5, a6] st S iv Q := am_ldcw dX9_wind_70 wq_741 h
theorem sX9_wind_73 {ls : List Value} {x y : Int32} (h : am_R E d mX9_wind k n 74 ls (.int (x * y) :: st) S iv Q) : am_R E d mX9_wind k n 73 ls (.int y :: .int x :: st) S iv Q := am_imul dX9_wind_73 h
theorem sX9_wind_74 {a0 a1 a2 a3 a4 a5 a6 : Value} (h : am_R E d mX9_wind k n 77 [a0, a1, a2, a3, a4, a5, a6] (.int 12345 :: st) S iv Q) : am_R E d mX9_wind k n 74 [a0, a1, a2, a3, a4, a5, a6] st S iv Q := am_sipush dX9_wind_74 (by decide) h
theorem sX9_wind_77 {ls : List Value} {x y : Int32} (h : am_R E d mX9_wind k n 78 ls (.int (x + y) :: st) S iv Q) : am_R E d mX9_wind k n 77 ls (.int y :: .int x :: st) S iv Q := am_iadd dX9_wind_77 h
theorem sX9_wind_78 {a0 a1 a2 a3 a4 a5 a6 : Value} {x : Int32} (h : am_R E d mX9_wind k n 80 [a0, a1, a2, a3, .int x, a5, a6] st S iv Q) : am_R E d mX9_wind k n 78 [a0, a1, a2, a3, a4, a5, a6] (.int x :: st) S iv Q := am_istore dX9_wind_78 (by decide) h
theorem sX9_wind_80 {a0 a1 a2 a3 a5 a6 : Value} {x : Int32} (h : am_R E d mX9_wind k n 82 [a0, a1, a2, a3, .int x, a5, a6] (.int x :: st) S iv Q) : am_R E d mX9_wind k n 80 [a0, a1, a2, a3, .int x, a5, a6] st S iv Q := am_iload dX9_wind_80 rfl h
theorem sX9_wind_82 {a0 a1 a2 a3 a4 a5 a6 : Value} (h : am_R E d mX9_wind k n 84 [a0, a1, a2, a3, a4, a5, a6] (.int 16 :: st) S iv Q) : am_R E d mX9_wind k n 82 [a0, a1, a2, a3, a4, a5, a6] st S iv Q := am_bipush dX9_wind_82 (by decide) h
theorem sX9_wind_84 {ls : List Value} {x y : Int32} (h : am_R E d mX9_wind k n 85 ls (.int ((x.toUInt32 >>> (y.toUInt32 &&& Int32.toUInt32 31)).toInt32) :: st) S iv Q) : am_R E d mX9_wind k n 84 ls (.int y :: .int x :: st) S iv Q := am_iushr dX9_wind_84 h
theorem sX9_wind_85 {a0 a1 a2 a3 a4 a5 a6 : Value} (h : am_R E d mX9_wind k n 88 [a0, a1, a2, a3, a4, a5, a6] (.int 32767 :: st) S iv Q) : am_R E d mX9_wind k n 85 [a0, a1, a2, a3, a4, a5, a6] st S iv Q := am_sipush dX9_wind_85 (by decide) h
theorem sX9_wind_88 {ls : List Value} {x y : Int32} (h : am_R E d mX9_wind k n 89 ls (.int (x &&& y) :: st) S iv Q) : am_R E d mX9_wind k n 88 ls (.int y :: .int x :: st) S iv Q := am_iand dX9_wind_88 h
theorem sX9_wind_89 {a0 a1 a2 a3 a4 a5 a6 : Value} (h : am_R E d mX9_wind k n 92 [a0, a1, a2, a3, a4, a5, a6] (.int 1000 :: st) S iv Q) : am_R E d mX9_wind k n 89 [a0, a1, a2, a3, a4, a5, a6] st S iv Q := am_sipush dX9_wind_89 (by decide) h
theorem sX9_wind_92 {ls : List Value} {x y : Int32} (hy : ¬ y = 0) (h : am_R E d mX9_wind k n 93 ls (.int (x - x / y * y) :: st) S iv Q) : am_R E d mX9_wind k n 92 ls (.int y :: .int x :: st) S iv Q := am_irem dX9_wind_92 hy h
theorem sX9_wind_93 {a0 a1 a2 a3 a4 a5 a6 : Value} (hv : am_rf a0 = true) (h : am_R E d mX9_wind k n 94 [a0, a1, a2, a3, a4, a5, a6] (a0 :: st) S iv Q) : am_R E d mX9_wind k n 93 [a0, a1, a2, a3, a4, a5, a6] st S iv Q := am_aload_n dX9_wind_93 rfl rfl hv h
theorem sX9_wind_94 {ls : List Value} {a b : Nat} (ha : S.1 a = some (.inl 9)) (hb : S.2.1 a 3 = some b) (h : am_R E d mX9_wind k n 97 ls (.ref b :: st) S iv Q) : am_R E d mX9_wind k n 94 ls (.ref a :: st) S iv Q := am_getR (ci := 9) dX9_wind_94 rfl rfl (by decide) wq_561 uq_9 rfl ha hb h
theorem sX9_wind_97 {ls : List Value} {a : Nat} (ha : S.1 a = some (.inl 0)) (h : am_R E d mX9_wind k n 100 ls (.int (iv a 6) :: st) S iv Q) : am_R E d mX9_wind k n 97 ls (.ref a :: st) S iv Q := am_getI (ci := 0) dX9_wind_97 rfl rfl (by decide) wq_742 uq_0 rfl ha h
theorem sX9_wind_100 {a0 a1 a2 a3 a4 a5 a6 : Value} (hv : am_rf a0 = true) (h : am_R E d mX9_wind k n 101 [a0, a1, a2, a3, a4, a5, a6] (a0 :: st) S iv Q) : am_R E d mX9_wind k n 100 [a0, a1, a2, a3, a4, a5, a6] st S iv Q := am_aload_n dX9_wind_100 rfl rfl hv h
theorem sX9_wind_101 {ls : List Value} {a b : Nat} (ha : S.1 a = some (.inl 9)) (hb : S.2.1 a 3 = some b) (h : am_R E d mX9_wind k n 104 ls (.ref b :: st) S iv Q) : am_R E d mX9_wind k n 101 ls (.ref a :: st) S iv Q := am_getR (ci := 9) dX9_wind_101 rfl rfl (by decide) wq_561 uq_9 rfl ha hb h
theorem sX9_wind_104 {ls : List Value} {a b : Nat} (ha : S.1 a = some (.inl 0)) (hb : S.2.1 a 7 = some b) (h : am_R E d mX9_wind k n 107 ls (.ref b :: st) S iv Q) : am_R E d mX9_wind k n 104 ls (.ref a :: st) S iv Q := am_getR (ci := 0) dX9_wind_104 rfl rfl (by decide) wq_625 uq_0 rfl ha hb h
theorem sX9_wind_107 {ls : List Value} {a b : Nat} (ha : S.1 a = some (.inl 2)) (hb : S.2.1 a 5 = some b) (h : am_R E d mX9_wind k n 110 ls (.ref b :: st) S iv Q) : am_R E d mX9_wind k n 107 ls (.ref a :: st) S iv Q := am_getR (ci := 2) dX9_wind_107 rfl rfl (by decide) wq_648 uq_2 rfl ha hb h
theorem sX9_wind_110 {a0 a1 a2 a3 a4 a5 : Value} {x : Int32} (h : am_R E d mX9_wind k n 112 [a0, a1, a2, a3, a4, a5, .int x] (.int x :: st) S iv Q) : am_R E d mX9_wind k n 110 [a0, a1, a2, a3, a4, a5, .int x] st S iv Q := am_iload dX9_wind_110 rfl h
theorem sX9_wind_112 {ls : List Value} {a m : Nat} {i : Int32} (ha : S.1 a = some (.inr (.int, m))) (hi : vp_in i m) (h : am_R E d mX9_wind k n 113 ls (.int (iv a i.toNatClampNeg) :: st) S iv Q) : am_R E d mX9_wind k n 112 ls (.int i :: .ref a :: st) S iv Q := am_iaload dX9_wind_112 ha hi h
theorem sX9_wind_113 {ls : List Value} {x y : Int32} (h : am_R E d mX9_wind k n 114 ls (.int (x * y) :: st) S iv Q) : am_R E d mX9_wind k n 113 ls (.int y :: .int x :: st) S iv Q := am_imul dX9_wind_113 h
theorem sX9_wind_114 {ls : List Value} {x y : Int32} (kt : y ≤ x → am_R E d mX9_wind k n 126 ls st S iv Q) (kf : ¬ y ≤ x → am_R E d mX9_wind k n 117 ls st S iv Q) : am_R E d mX9_wind k n 114 ls (.int y :: .int x :: st) S iv Q := am_icmp_ge dX9_wind_114 (by decide) kt kf
theorem sX9_wind_117 {a0 a1 a2 a3 a4 a5 a6 : Value} (hv : am_rf a0 = true) (h : am_R E d mX9_wind k n 118 [a0, a1, a2, a3, a4, a5, a6] (a0 :: st) S iv Q) : am_R E d mX9_wind k n 117 [a0, a1, a2, a3, a4, a5, a6] st S iv Q := am_aload_n dX9_wind_117 rfl rfl hv h
theorem sX9_wind_118 {a0 a1 a2 a3 a4 a5 : Value} {x : Int32} (h : am_R E d mX9_wind k n 120 [a0, a1, a2, a3, a4, a5, .int x] (.int x :: st) S iv Q) : am_R E d mX9_wind k n 118 [a0, a1, a2, a3, a4, a5, .int x] st S iv Q := am_iload dX9_wind_118 rfl h
theorem sX9_wind_120 {ls : List Value} {x1 : Value} {a : Nat} (ha : S.1 a = some (.inl 9)) (hst : (st.map fun v => v.category).sum ≤ 8) (hM : am_M E d mX9_slam 0 0 [.ref a, x1] S iv (am_K3 E (d + 1) mX9_wind k n 120 ls st Q)) : am_R E (d + 1) mX9_wind k n 120 ls (x1 :: .ref a :: st) S iv Q := am_cV (ci := 9) (M' := mX9_slam) (as := [x1]) dX9_wind_120 rfl rfl rfl wq_745 wq_746 wq_747 wq_581 wq_743 hy_X9_slam (by decide) ha hst (by omega) (by omega) hM
theorem sX9_wind_120_k {ls : List Value} {x1 : Value} {k' n' : Nat} {a : Nat} (ha : S.1 a = some (.inl 9)) (hst : (st.map fun v => v.category).sum ≤ 8) (hM : am_M E d mX9_slam k' n' [.ref a, x1] S iv (am_K3 E (d + 1) mX9_wind k n 120 ls st Q)) : am_R E (d + 1) mX9_wind (k' + k) (n' + n) 120 ls (x1 :: .ref a :: st) S iv Q := am_cV (ci := 9) (M' := mX9_slam) (as := [x1]) dX9_wind_120 rfl rfl rfl wq_745 wq_746 wq_747 wq_581 wq_743 hy_X9_slam (by decide) ha hst (by omega) (by omega) hM
theorem sX9_wind_123 {a0 a1 a2 a4 a5 a6 : Value} {x : Int32} (h : am_R E d mX9_wind k n 126 [a0, a1, a2, .int (x + 1), a4, a5, a6] st S iv Q) : am_R E d mX9_wind k n 123 [a0, a1, a2, .int x, a4, a5, a6] st S iv Q := am_iinc dX9_wind_123 rfl rfl (by decide) h
theorem sX9_wind_126 {a0 a1 a2 a3 a4 a5 : Value} {x : Int32} (h : am_R E d mX9_wind k n 129 [a0, a1, a2, a3, a4, a5, .int (x + 1)] st S iv Q) : am_R E d mX9_wind k n 126 [a0, a1, a2, a3, a4, a5, .int x] st S iv Q := am_iinc dX9_wind_126 rfl rfl (by decide) h
theorem sX9_wind_129 {ls : List Value} (h : am_R E d mX9_wind k n 38 ls st S iv Q) : am_R E d mX9_wind k n 129 ls st S iv Q := am_goto dX9_wind_129 (by decide) h
theorem sX9_wind_132 {a0 a1 a2 a3 a4 a6 : Value} {x : Int32} (h : am_R E d mX9_wind k n 135 [a0, a1, a2, a3, a4, .int (x + 1), a6] st S iv Q) : am_R E d mX9_wind k n 132 [a0, a1, a2, a3, a4, .int x, a6] st S iv Q := am_iinc dX9_wind_132 rfl rfl (by decide) h
theorem sX9_wind_135 {ls : List Value} (h : am_R E d mX9_wind k n 29 ls st S iv Q) : am_R E d mX9_wind k n 135 ls st S iv Q := am_goto dX9_wind_135 (by decide) h
theorem sX9_wind_138 {a0 a1 a3 a4 a5 a6 : Value} {x : Int32} (h : am_R E d mX9_wind k n 139 [a0, a1, .int x, a3, a4, a5, a6] (.int x :: st) S iv Q) : am_R E d mX9_wind k n 138 [a0, a1, .int x, a3, a4, a5, a6] st S iv Q := am_iload_n dX9_wind_138 rfl rfl h
theorem sX9_wind_139 {ls : List Value} {x : Int32} (kt : x ≤ 0 → am_R E d mX9_wind k n 150 ls st S iv Q) (kf : ¬ x ≤ 0 → am_R E d mX9_wind k n 142 ls st S iv Q) : am_R E d mX9_wind k n 139 ls (.int x :: st) S iv Q := am_if_le dX9_wind_139 (by decide) kt kf
theorem sX9_wind_142 {a0 a1 a2 a3 a4 a5 a6 : Value} (hv : am_rf a0 = true) (h : am_R E d mX9_wind k n 143 [a0, a1, a2, a3, a4, a5, a6] (a0 :: st) S iv Q) : am_R E d mX9_wind k n 142 [a0, a1, a2, a3, a4, a5, a6] st S iv Q := am_aload_n dX9_wind_142 rfl rfl hv h
theorem sX9_wind_143 {ls : List Value} {a b : Nat} (ha : S.1 a = some (.inl 9)) (hb : S.2.1 a 5 = some b) (h : am_R E d mX9_wind k n 146 ls (.ref b :: st) S iv Q) : am_R E d mX9_wind k n 143 ls (.ref a :: st) S iv Q := am_getR (ci := 9) dX9_wind_143 rfl rfl (by decide) wq_569 uq_9 rfl ha hb h
theorem sX9_wind_146 {a0 a1 a2 a3 a4 a5 a6 : Value} (h : am_R E d mX9_wind k n 147 [a0, a1, a2, a3, a4, a5, a6] (.int 0 :: st) S iv Q) : am_R E d mX9_wind k n 146 [a0, a1, a2, a3, a4, a5, a6] st S iv Q := am_iconst dX9_wind_146 (by decide) h
theorem sX9_wind_147 {ls : List Value} {a : Nat} {x : Int32} (ha : S.1 a = some (.inl 7)) (h : am_R E d mX9_wind k n 150 ls st S (am_w iv a 3 x) Q) : am_R E d mX9_wind k n 147 ls (.int x :: .ref a :: st) S iv Q := am_putI (ci := 7) dX9_wind_147 rfl rfl (by decide) wq_633 uq_7 tyX7_ok nmX7 (Or.inl rfl) rfl ha h
theorem sX9_wind_150 {a0 a1 a2 a4 a5 a6 : Value} {x : Int32} (h : am_R E d mX9_wind k n 151 [a0, a1, a2, .int x, a4, a5, a6] (.int x :: st) S iv Q) : am_R E d mX9_wind k n 150 [a0, a1, a2, .int x, a4, a5, a6] st S iv Q := am_iload_n dX9_wind_150 rfl rfl h
theorem sX9_wind_151 {ls : List Value} {x : Int32} (h : Q (.inl (some (.int x))) S iv) : am_R E d mX9_wind k n 151 ls [.int x] S iv Q := am_ireturn dX9_wind_151 rfl h
theorem dX9_slam_0 : decode cX9_slam 0 = .ok (.aload_n 0, 1) := by decide +kernel
theorem dX9_slam_1 : decode cX9_slam 1 = .ok (.getfield 30, 3) := by decide +kernel
theorem dX9_slam_4 : decode cX9_slam 4 = .ok (.dup, 1) := by decide +kernel
theorem dX9_slam_5 : decode cX9_slam 5 = .ok (.getfield 128, 3) := by decide +kernel
theorem dX9_slam_8 : decode cX9_slam 8 = .ok (.iconst 1, 1) := by decide +kernel
theorem dX9_slam_9 : decode cX9_slam 9 = .ok (.iload_n 1, 1) := by decide +kernel
theorem dX9_slam_10 : decode cX9_slam 10 = .ok (.ishl, 1) := by decide +kernel
theorem dX9_slam_11 : decode cX9_slam 11 = .ok (.iconst (-1), 1) := by decide +kernel
theorem dX9_slam_12 : decode cX9_slam 12 = .ok (.ixor, 1) := by decide +kernel
theorem dX9_slam_13 : decode cX9_slam 13 = .ok (.iand, 1) := by decide +kernel
theorem dX9_slam_14 : decode cX9_slam 14 = .ok (.putfield 128, 3) := by decide +kernel
theorem dX9_slam_17 : decode cX9_slam 17 = .ok (.aload_n 0, 1) := by decide +kernel
theorem dX9_slam_18 : decode cX9_slam 18 = .ok (.getfield 30, 3) := by decide +kernel
theorem dX9_slam_21 : decode cX9_slam 21 = .ok (.getfield 137, 3) := by decide +kernel
theorem dX9_slam_24 : decode cX9_slam 24 = .ok (.iload_n 1, 1) := by decide +kernel
theorem dX9_slam_25 : decode cX9_slam 25 = .ok (.ishr, 1) := by decide +kernel
theorem dX9_slam_26 : decode cX9_slam 26 = .ok (.iconst 1, 1) := by decide +kernel
theorem dX9_slam_27 : decode cX9_slam 27 = .ok (.iand, 1) := by decide +kernel
theorem dX9_slam_28 : decode cX9_slam 28 = .ok (.ifCond .ne 4, 3) := by decide +kernel
theorem dX9_slam_31 : decode cX9_slam 31 = .ok (.return_, 1) := by decide +kernel
theorem dX9_slam_32 : decode cX9_slam 32 = .ok (.iconst 0, 1) := by decide +kernel
theorem dX9_slam_33 : decode cX9_slam 33 = .ok (.istore_n 2, 1) := by decide +kernel
theorem dX9_slam_34 : decode cX9_slam 34 = .ok (.iload_n 2, 1) := by decide +kernel
theorem dX9_slam_35 : decode cX9_slam 35 = .ok (.aload_n 0, 1) := by decide +kernel
theorem dX9_slam_36 : decode cX9_slam 36 = .ok (.getfield 20, 3) := by decide +kernel
theorem dX9_slam_39 : decode cX9_slam 39 = .ok (.getfield 111, 3) := by decide +kernel
theorem dX9_slam_42 : decode cX9_slam 42 = .ok (.getfield 115, 3) := by decide +kernel
theorem dX9_slam_45 : decode cX9_slam 45 = .ok (.if_icmp .ge 38, 3) := by decide +kernel
theorem dX9_slam_48 : decode cX9_slam 48 = .ok (.aload_n 0, 1) := by decide +kernel
theorem dX9_slam_49 : decode cX9_slam 49 = .ok (.getfield 20, 3) := by decide +kernel
theorem dX9_slam_52 : decode cX9_slam 52 = .ok (.getfield 111, 3) := by decide +kernel
theorem dX9_slam_55 : decode cX9_slam 55 = .ok (.getfield 184, 3) := by decide +kernel
theorem dX9_slam_58 : decode cX9_slam 58 = .ok (.iload_n 2, 1) := by decide +kernel
theorem dX9_slam_59 : decode cX9_slam 59 = .ok (.iaload, 1) := by decide +kernel
theorem dX9_slam_60 : decode cX9_slam 60 = .ok (.iload_n 1, 1) := by decide +kernel
theorem dX9_slam_61 : decode cX9_slam 61 = .ok (.if_icmp .ne 16, 3) := by decide +kernel
theorem dX9_slam_64 : decode cX9_slam 64 = .ok (.aload_n 0, 1) := by decide +kernel
theorem dX9_slam_65 : decode cX9_slam 65 = .ok (.getfield 30, 3) := by decide +kernel
theorem dX9_slam_68 : decode cX9_slam 68 = .ok (.getfield 193, 3) := by decide +kernel
theorem dX9_slam_71 : decode cX9_slam 71 = .ok (.iload_n 2, 1) := by decide +kernel
theorem dX9_slam_72 : decode cX9_slam 72 = .ok (.dup2, 1) := by decide +kernel
theorem dX9_slam_73 : decode cX9_slam 73 = .ok (.iaload, 1) := by decide +kernel
theorem dX9_slam_74 : decode cX9_slam 74 = .ok (.iconst 1, 1) := by decide +kernel
theorem dX9_slam_75 : decode cX9_slam 75 = .ok (.iadd, 1) := by decide +kernel
theorem dX9_slam_76 : decode cX9_slam 76 = .ok (.iastore, 1) := by decide +kernel
theorem dX9_slam_77 : decode cX9_slam 77 = .ok (.iinc 2 1, 3) := by decide +kernel
theorem dX9_slam_80 : decode cX9_slam 80 = .ok (.goto (-46), 3) := by decide +kernel
theorem dX9_slam_83 : decode cX9_slam 83 = .ok (.return_, 1) := by decide +kernel
theorem sX9_slam_0 {a0 a1 a2 : Value} (hv : am_rf a0 = true) (h : am_R E d mX9_slam k n 1 [a0, a1, a2] (a0 :: st) S iv Q) : am_R E d mX9_slam k n 0 [a0, a1, a2] st S iv Q := am_aload_n dX9_slam_0 rfl rfl hv h
theorem sX9_slam_1 {ls : List Value} {a b : Nat} (ha : S.1 a = some (.inl 9)) (hb : S.2.1 a 5 = some b) (h : am_R E d mX9_slam k n 4 ls (.ref b :: st) S iv Q) : am_R E d mX9_slam k n 1 ls (.ref a :: st) S iv Q := am_getR (ci := 9) dX9_slam_1 rfl rfl (by decide) wq_569 uq_9 rfl ha hb h
theorem sX9_slam_4 {ls : List Value} {x : Value} (hv : x.category = 1) (h : am_R E d mX9_slam k n 5 ls (x :: x :: st) S iv Q) : am_R E d mX9_slam k n 4 ls (x :: st) S iv Q := am_dup dX9_slam_4 hv h
theorem sX9_slam_5 {ls : List Value} {a : Nat} (ha : S.1 a = some (.inl 7)) (h : am_R E d mX9_slam k n 8 ls (.int (iv a 0) :: st) S iv Q) : am_R E d mX9_slam k n 5 ls (.ref a :: st) S iv Q := am_getI (ci := 7) dX9_slam_5 rfl rfl (by decide) wq_632 uq_7 rfl ha h
theorem sX9_slam_8 {a0 a1 a2 : Value} (h : am_R E d mX9_slam k n 9 [a0, a1, a2] (.int 1 :: st) S iv Q) : am_R E d mX9_slam k n 8 [a0, a1, a2] st S iv Q := am_iconst dX9_slam_8 (by decide) h
theorem sX9_slam_9 {a0 a2 : Value} {x : Int32} (h : am_R E d mX9_slam k n 10 [a0, .int x, a2] (.int x :: st) S iv Q) : am_R E d mX9_slam k n 9 [a0, .int x, a2] st S iv Q := am_iload_n dX9_slam_9 rfl rfl h
theorem sX9_slam_10 {ls : List Value} {x y : Int32} (h : am_R E d mX9_slam k n 11 ls (.int (x <<< (y &&& 31)) :: st) S iv Q) : am_R E d mX9_slam k n 10 ls (.int y :: .int x :: st) S iv Q := am_ishl dX9_slam_10 h
theorem sX9_slam_11 {a0 a1 a2 : Value} (h : am_R E d mX9_slam k n 12 [a0, a1, a2] (.int (-1) :: st) S iv Q) : am_R E d mX9_slam k n 11 [a0, a1, a2] st S iv Q := am_iconst dX9_slam_11 (by decide) h
theorem sX9_slam_12 {ls : List Value} {x y : Int32} (h : am_R E d mX9_slam k n 13 ls (.int (x ^^^ y) :: st) S iv Q) : am_R E d mX9_slam k n 12 ls (.int y :: .int x :: st) S iv Q := am_ixor dX9_slam_12 h
theorem sX9_slam_13 {ls : List Value} {x y : Int32} (h : am_R E d mX9_slam k n 14 ls (.int (x &&& y) :: st) S iv Q) : am_R E d mX9_slam k n 13 ls (.int y :: .int x :: st) S iv Q := am_iand dX9_slam_13 h
theorem sX9_slam_14 {ls : List Value} {a : Nat} {x : Int32} (ha : S.1 a = some (.inl 7)) (h : am_R E d mX9_slam k n 17 ls st S (am_w iv a 0 x) Q) : am_R E d mX9_slam k n 14 ls (.int x :: .ref a :: st) S iv Q := am_putI (ci := 7) dX9_slam_14 rfl rfl (by decide) wq_632 uq_7 tyX7_ok nmX7 (Or.inl rfl) rfl ha h
theorem sX9_slam_17 {a0 a1 a2 : Value} (hv : am_rf a0 = true) (h : am_R E d mX9_slam k n 18 [a0, a1, a2] (a0 :: st) S iv Q) : am_R E d mX9_slam k n 17 [a0, a1, a2] st S iv Q := am_aload_n dX9_slam_17 rfl rfl hv h
theorem sX9_slam_18 {ls : List Value} {a b : Nat} (ha : S.1 a = some (.inl 9)) (hb : S.2.1 a 5 = some b) (h : am_R E d mX9_slam k n 21 ls (.ref b :: st) S iv Q) : am_R E d mX9_slam k n 18 ls (.ref a :: st) S iv Q := am_getR (ci := 9) dX9_slam_18 rfl rfl (by decide) wq_569 uq_9 rfl ha hb h
theorem sX9_slam_21 {ls : List Value} {a : Nat} (ha : S.1 a = some (.inl 7)) (h : am_R E d mX9_slam k n 24 ls (.int (iv a 1) :: st) S iv Q) : am_R E d mX9_slam k n 21 ls (.ref a :: st) S iv Q := am_getI (ci := 7) dX9_slam_21 rfl rfl (by decide) wq_635 uq_7 rfl ha h
theorem sX9_slam_24 {a0 a2 : Value} {x : Int32} (h : am_R E d mX9_slam k n 25 [a0, .int x, a2] (.int x :: st) S iv Q) : am_R E d mX9_slam k n 24 [a0, .int x, a2] st S iv Q := am_iload_n dX9_slam_24 rfl rfl h
theorem sX9_slam_25 {ls : List Value} {x y : Int32} (h : am_R E d mX9_slam k n 26 ls (.int (x >>> (y &&& 31)) :: st) S iv Q) : am_R E d mX9_slam k n 25 ls (.int y :: .int x :: st) S iv Q := am_ishr dX9_slam_25 h
theorem sX9_slam_26 {a0 a1 a2 : Value} (h : am_R E d mX9_slam k n 27 [a0, a1, a2] (.int 1 :: st) S iv Q) : am_R E d mX9_slam k n 26 [a0, a1, a2] st S iv Q := am_iconst dX9_slam_26 (by decide) h
theorem sX9_slam_27 {ls : List Value} {x y : Int32} (h : am_R E d mX9_slam k n 28 ls (.int (x &&& y) :: st) S iv Q) : am_R E d mX9_slam k n 27 ls (.int y :: .int x :: st) S iv Q := am_iand dX9_slam_27 h
theorem sX9_slam_28 {ls : List Value} {x : Int32} (kt : ¬ x = 0 → am_R E d mX9_slam k n 32 ls st S iv Q) (kf : x = 0 → am_R E d mX9_slam k n 31 ls st S iv Q) : am_R E d mX9_slam k n 28 ls (.int x :: st) S iv Q := am_if_ne dX9_slam_28 (by decide) kt kf
theorem sX9_slam_31 {ls : List Value} (h : Q (.inl none) S iv) : am_R E d mX9_slam k n 31 ls [] S iv Q := am_return dX9_slam_31 rfl h
theorem sX9_slam_32 {a0 a1 a2 : Value} (h : am_R E d mX9_slam k n 33 [a0, a1, a2] (.int 0 :: st) S iv Q) : am_R E d mX9_slam k n 32 [a0, a1, a2] st S iv Q := am_iconst dX9_slam_32 (by decide) h
theorem sX9_slam_33 {a0 a1 a2 : Value} {x : Int32} (h : am_R E d mX9_slam k n 34 [a0, a1, .int x] st S iv Q) : am_R E d mX9_slam k n 33 [a0, a1, a2] (.int x :: st) S iv Q := am_istore_n dX9_slam_33 rfl (by decide) h
theorem sX9_slam_34 {a0 a1 : Value} {x : Int32} (h : am_R E d mX9_slam k n 35 [a0, a1, .int x] (.int x :: st) S iv Q) : am_R E d mX9_slam k n 34 [a0, a1, .int x] st S iv Q := am_iload_n dX9_slam_34 rfl rfl h
theorem sX9_slam_35 {a0 a1 a2 : Value} (hv : am_rf a0 = true) (h : am_R E d mX9_slam k n 36 [a0, a1, a2] (a0 :: st) S iv Q) : am_R E d mX9_slam k n 35 [a0, a1, a2] st S iv Q := am_aload_n dX9_slam_35 rfl rfl hv h
theorem sX9_slam_36 {ls : List Value} {a b : Nat} (ha : S.1 a = some (.inl 9)) (hb : S.2.1 a 3 = some b) (h : am_R E d mX9_slam k n 39 ls (.ref b :: st) S iv Q) : am_R E d mX9_slam k n 36 ls (.ref a :: st) S iv Q := am_getR (ci := 9) dX9_slam_36 rfl rfl (by decide) wq_561 uq_9 rfl ha hb h
theorem sX9_slam_39 {ls : List Value} {a b : Nat} (ha : S.1 a = some (.inl 0)) (hb : S.2.1 a 8 = some b) (h : am_R E d mX9_slam k n 42 ls (.ref b :: st) S iv Q) : am_R E d mX9_slam k n 39 ls (.ref a :: st) S iv Q := am_getR (ci := 0) dX9_slam_39 rfl rfl (by decide) wq_627 uq_0 rfl ha hb h
theorem sX9_slam_42 {ls : List Value} {a : Nat} (ha : S.1 a = some (.inl 4)) (h : am_R E d mX9_slam k n 45 ls (.int (iv a 0) :: st) S iv Q) : am_R E d mX9_slam k n 42 ls (.ref a :: st) S iv Q := am_getI (ci := 4) dX9_slam_42 rfl rfl (by decide) wq_628 uq_4 rfl ha h
theorem sX9_slam_45 {ls : List Value} {x y : Int32} (kt : y ≤ x → am_R E d mX9_slam k n 83 ls st S iv Q) (kf : ¬ y ≤ x → am_R E d mX9_slam k n 48 ls st S iv Q) : am_R E d mX9_slam k n 45 ls (.int y :: .int x :: st) S iv Q := am_icmp_ge dX9_slam_45 (by decide) kt kf
theorem sX9_slam_48 {a0 a1 a2 : Value} (hv : am_rf a0 = true) (h : am_R E d mX9_slam k n 49 [a0, a1, a2] (a0 :: st) S iv Q) : am_R E d mX9_slam k n 48 [a0, a1, a2] st S iv Q := am_aload_n dX9_slam_48 rfl rfl hv h
theorem sX9_slam_49 {ls : List Value} {a b : Nat} (ha : S.1 a = some (.inl 9)) (hb : S.2.1 a 3 = some b) (h : am_R E d mX9_slam k n 52 ls (.ref b :: st) S iv Q) : am_R E d mX9_slam k n 49 ls (.ref a :: st) S iv Q := am_getR (ci := 9) dX9_slam_49 rfl rfl (by decide) wq_561 uq_9 rfl ha hb h
theorem sX9_slam_52 {ls : List Value} {a b : Nat} (ha : S.1 a = some (.inl 0)) (hb : S.2.1 a 8 = some b) (h : am_R E d mX9_slam k n 55 ls (.ref b :: st) S iv Q) : am_R E d mX9_slam k n 52 ls (.ref a :: st) S iv Q := am_getR (ci := 0) dX9_slam_52 rfl rfl (by decide) wq_627 uq_0 rfl ha hb h
theorem sX9_slam_55 {ls : List Value} {a b : Nat} (ha : S.1 a = some (.inl 4)) (hb : S.2.1 a 1 = some b) (h : am_R E d mX9_slam k n 58 ls (.ref b :: st) S iv Q) : am_R E d mX9_slam k n 55 ls (.ref a :: st) S iv Q := am_getR (ci := 4) dX9_slam_55 rfl rfl (by decide) wq_666 uq_4 rfl ha hb h
theorem sX9_slam_58 {a0 a1 : Value} {x : Int32} (h : am_R E d mX9_slam k n 59 [a0, a1, .int x] (.int x :: st) S iv Q) : am_R E d mX9_slam k n 58 [a0, a1, .int x] st S iv Q := am_iload_n dX9_slam_58 rfl rfl h
theorem sX9_slam_59 {ls : List Value} {a m : Nat} {i : Int32} (ha : S.1 a = some (.inr (.int, m))) (hi : vp_in i m) (h : am_R E d mX9_slam k n 60 ls (.int (iv a i.toNatClampNeg) :: st) S iv Q) : am_R E d mX9_slam k n 59 ls (.int i :: .ref a :: st) S iv Q := am_iaload dX9_slam_59 ha hi h
theorem sX9_slam_60 {a0 a2 : Value} {x : Int32} (h : am_R E d mX9_slam k n 61 [a0, .int x, a2] (.int x :: st) S iv Q) : am_R E d mX9_slam k n 60 [a0, .int x, a2] st S iv Q := am_iload_n dX9_slam_60 rfl rfl h
theorem sX9_slam_61 {ls : List Value} {x y : Int32} (kt : ¬ x = y → am_R E d mX9_slam k n 77 ls st S iv Q) (kf : x = y → am_R E d mX9_slam k n 64 ls st S iv Q) : am_R E d mX9_slam k n 61 ls (.int y :: .int x :: st) S iv Q := am_icmp_ne dX9_slam_61 (by decide) kt kf
theorem sX9_slam_64 {a0 a1 a2 : Value} (hv : am_rf a0 = true) (h : am_R E d mX9_slam k n 65 [a0, a1, a2] (a0 :: st) S iv Q) : am_R E d mX9_slam k n 64 [a0, a1, a2] st S iv Q := am_aload_n dX9_slam_64 rfl rfl hv h
theorem sX9_slam_65 {ls : List Value} {a b : Nat} (ha : S.1 a = some (.inl 9)) (hb : S.2.1 a 5 = some b) (h : am_R E d mX9_slam k n 68 ls (.ref b :: st) S iv Q) : am_R E d mX9_slam k n 65 ls (.ref a :: st) S iv Q := am_getR (ci := 9) dX9_slam_65 rfl rfl (by decide) wq_569 uq_9 rfl ha hb h
theorem sX9_slam_68 {ls : List Value} {a b : Nat} (ha : S.1 a = some (.inl 7)) (hb : S.2.1 a 6 = some b) (h : am_R E d mX9_slam k n 71 ls (.ref b :: st) S iv Q) : am_R E d mX9_slam k n 68 ls (.ref a :: st) S iv Q := am_getR (ci := 7) dX9_slam_68 rfl rfl (by decide) wq_669 uq_7 rfl ha hb h
theorem sX9_slam_71 {a0 a1 : Value} {x : Int32} (h : am_R E d mX9_slam k n 72 [a0, a1, .int x] (.int x :: st) S iv Q) : am_R E d mX9_slam k n 71 [a0, a1, .int x] st S iv Q := am_iload_n dX9_slam_71 rfl rfl h
theorem sX9_slam_72 {ls : List Value} {x y : Value} (hv : x.category = 1) (hu : y.category = 1) (h : am_R E d mX9_slam k n 73 ls (x :: y :: x :: y :: st) S iv Q) : am_R E d mX9_slam k n 72 ls (x :: y :: st) S iv Q := am_dup2 dX9_slam_72 hv hu h
theorem sX9_slam_73 {ls : List Value} {a m : Nat} {i : Int32} (ha : S.1 a = some (.inr (.int, m))) (hi : vp_in i m) (h : am_R E d mX9_slam k n 74 ls (.int (iv a i.toNatClampNeg) :: st) S iv Q) : am_R E d mX9_slam k n 73 ls (.int i :: .ref a :: st) S iv Q := am_iaload dX9_slam_73 ha hi h
theorem sX9_slam_74 {a0 a1 a2 : Value} (h : am_R E d mX9_slam k n 75 [a0, a1, a2] (.int 1 :: st) S iv Q) : am_R E d mX9_slam k n 74 [a0, a1, a2] st S iv Q := am_iconst dX9_slam_74 (by decide) h
theorem sX9_slam_75 {ls : List Value} {x y : Int32} (h : am_R E d mX9_slam k n 76 ls (.int (x + y) :: st) S iv Q) : am_R E d mX9_slam k n 75 ls (.int y :: .int x :: st) S iv Q := am_iadd dX9_slam_75 h
theorem sX9_slam_76 {ls : List Value} {a m : Nat} {i x : Int32} (ha : S.1 a = some (.inr (.int, m))) (hi : vp_in i m) (h : am_R E d mX9_slam k n 77 ls st S (am_w iv a i.toNatClampNeg x) Q) : am_R E d mX9_slam k n 76 ls (.int x :: .int i :: .ref a :: st) S iv Q := am_iastore dX9_slam_76 ha hi h
theorem sX9_slam_77 {a0 a1 : Value} {x : Int32} (h : am_R E d mX9_slam k n 80 [a0, a1, .int (x + 1)] st S iv Q) : am_R E d mX9_slam k n 77 [a0, a1, .int x] st S iv Q := am_iinc dX9_slam_77 rfl rfl (by decide) h
theorem sX9_slam_80 {ls : List Value} (h : am_R E d mX9_slam k n 34 ls st S iv Q) : am_R E d mX9_slam k n 80 ls st S iv Q := am_goto dX9_slam_80 (by decide) h
theorem sX9_slam_83 {ls : List Value} (h : Q (.inl none) S iv) : am_R E d mX9_slam k n 83 ls [] S iv Q := am_return dX9_slam_83 rfl h
theorem dX9_who_0 : decode cX9_who 0 = .ok (.aload_n 0, 1) := by decide +kernel
theorem dX9_who_1 : decode cX9_who 1 = .ok (.iload_n 1, 1) := by decide +kernel
theorem dX9_who_2 : decode cX9_who 2 = .ok (.invokevirtual 148, 3) := by decide +kernel
theorem dX9_who_5 : decode cX9_who 5 = .ok (.aload_n 0, 1) := by decide +kernel
theorem dX9_who_6 : decode cX9_who 6 = .ok (.getfield 30, 3) := by decide +kernel
theorem dX9_who_9 : decode cX9_who 9 = .ok (.getfield 128, 3) := by decide +kernel
theorem dX9_who_12 : decode cX9_who 12 = .ok (.iload_n 1, 1) := by decide +kernel
theorem dX9_who_13 : decode cX9_who 13 = .ok (.ishr, 1) := by decide +kernel
theorem dX9_who_14 : decode cX9_who 14 = .ok (.iconst 1, 1) := by decide +kernel
theorem dX9_who_15 : decode cX9_who 15 = .ok (.iand, 1) := by decide +kernel
theorem dX9_who_16 : decode cX9_who 16 = .ok (.ifCond .ne 5, 3) := by decide +kernel
theorem dX9_who_19 : decode cX9_who 19 = .ok (.iconst (-1), 1) := by decide +kernel
theorem dX9_who_20 : decode cX9_who 20 = .ok (.ireturn, 1) := by decide +kernel
theorem dX9_who_21 : decode cX9_who 21 = .ok (.aload_n 0, 1) := by decide +kernel
theorem dX9_who_22 : decode cX9_who 22 = .ok (.getfield 20, 3) := by decide +kernel
theorem dX9_who_25 : decode cX9_who 25 = .ok (.iload_n 1, 1) := by decide +kernel
theorem dX9_who_26 : decode cX9_who 26 = .ok (.aload_n 0, 1) := by decide +kernel
theorem dX9_who_27 : decode cX9_who 27 = .ok (.getfield 30, 3) := by decide +kernel
theorem dX9_who_30 : decode cX9_who 30 = .ok (.getfield 128, 3) := by decide +kernel
theorem dX9_who_33 : decode cX9_who 33 = .ok (.invokevirtual 281, 3) := by decide +kernel
theorem dX9_who_36 : decode cX9_who 36 = .ok (.ireturn, 1) := by decide +kernel
theorem sX9_who_0 {a0 a1 : Value} (hv : am_rf a0 = true) (h : am_R E d mX9_who k n 1 [a0, a1] (a0 :: st) S iv Q) : am_R E d mX9_who k n 0 [a0, a1] st S iv Q := am_aload_n dX9_who_0 rfl rfl hv h
theorem sX9_who_1 {a0 : Value} {x : Int32} (h : am_R E d mX9_who k n 2 [a0, .int x] (.int x :: st) S iv Q) : am_R E d mX9_who k n 1 [a0, .int x] st S iv Q := am_iload_n dX9_who_1 rfl rfl h
theorem sX9_who_2 {ls : List Value} {x1 : Value} {a : Nat} (ha : S.1 a = some (.inl 9)) (hst : (st.map fun v => v.category).sum ≤ 8) (hM : am_M E d mX9_demandDrawer 0 0 [.ref a, x1] S iv (am_K3 E (d + 1) mX9_who k n 2 ls st Q)) : am_R E (d + 1) mX9_who k n 2 ls (x1 :: .ref a :: st) S iv Q := am_cV (ci := 9) (M' := mX9_demandDrawer) (as := [x1]) dX9_who_2 rfl rfl rfl wq_642 wq_643 wq_644 wq_581 wq_640 hy_X9_demandDrawer (by decide) ha hst (by omega) (by omega) hM
theorem sX9_who_2_k {ls : List Value} {x1 : Value} {k' n' : Nat} {a : Nat} (ha : S.1 a = some (.inl 9)) (hst : (st.map fun v => v.category).sum ≤ 8) (hM : am_M E d mX9_demandDrawer k' n' [.ref a, x1] S iv (am_K3 E (d + 1) mX9_who k n 2 ls st Q)) : am_R E (d + 1) mX9_who (k' + k) (n' + n) 2 ls (x1 :: .ref a :: st) S iv Q := am_cV (ci := 9) (M' := mX9_demandDrawer) (as := [x1]) dX9_who_2 rfl rfl rfl wq_642 wq_643 wq_644 wq_581 wq_640 hy_X9_demandDrawer (by decide) ha hst (by omega) (by omega) hM
theorem sX9_who_5 {a0 a1 : Value} (hv : am_rf a0 = true) (h : am_R E d mX9_who k n 6 [a0, a1] (a0 :: st) S iv Q) : am_R E d mX9_who k n 5 [a0, a1] st S iv Q := am_aload_n dX9_who_5 rfl rfl hv h
theorem sX9_who_6 {ls : List Value} {a b : Nat} (ha : S.1 a = some (.inl 9)) (hb : S.2.1 a 5 = some b) (h : am_R E d mX9_who k n 9 ls (.ref b :: st) S iv Q) : am_R E d mX9_who k n 6 ls (.ref a :: st) S iv Q := am_getR (ci := 9) dX9_who_6 rfl rfl (by decide) wq_569 uq_9 rfl ha hb h
theorem sX9_who_9 {ls : List Value} {a : Nat} (ha : S.1 a = some (.inl 7)) (h : am_R E d mX9_who k n 12 ls (.int (iv a 0) :: st) S iv Q) : am_R E d mX9_who k n 9 ls (.ref a :: st) S iv Q := am_getI (ci := 7) dX9_who_9 rfl rfl (by decide) wq_632 uq_7 rfl ha h
theorem sX9_who_12 {a0 : Value} {x : Int32} (h : am_R E d mX9_who k n 13 [a0, .int x] (.int x :: st) S iv Q) : am_R E d mX9_who k n 12 [a0, .int x] st S iv Q := am_iload_n dX9_who_12 rfl rfl h
theorem sX9_who_13 {ls : List Value} {x y : Int32} (h : am_R E d mX9_who k n 14 ls (.int (x >>> (y &&& 31)) :: st) S iv Q) : am_R E d mX9_who k n 13 ls (.int y :: .int x :: st) S iv Q := am_ishr dX9_who_13 h
theorem sX9_who_14 {a0 a1 : Value} (h : am_R E d mX9_who k n 15 [a0, a1] (.int 1 :: st) S iv Q) : am_R E d mX9_who k n 14 [a0, a1] st S iv Q := am_iconst dX9_who_14 (by decide) h
theorem sX9_who_15 {ls : List Value} {x y : Int32} (h : am_R E d mX9_who k n 16 ls (.int (x &&& y) :: st) S iv Q) : am_R E d mX9_who k n 15 ls (.int y :: .int x :: st) S iv Q := am_iand dX9_who_15 h
theorem sX9_who_16 {ls : List Value} {x : Int32} (kt : ¬ x = 0 → am_R E d mX9_who k n 21 ls st S iv Q) (kf : x = 0 → am_R E d mX9_who k n 19 ls st S iv Q) : am_R E d mX9_who k n 16 ls (.int x :: st) S iv Q := am_if_ne dX9_who_16 (by decide) kt kf
theorem sX9_who_19 {a0 a1 : Value} (h : am_R E d mX9_who k n 20 [a0, a1] (.int (-1) :: st) S iv Q) : am_R E d mX9_who k n 19 [a0, a1] st S iv Q := am_iconst dX9_who_19 (by decide) h
theorem sX9_who_20 {ls : List Value} {x : Int32} (h : Q (.inl (some (.int x))) S iv) : am_R E d mX9_who k n 20 ls [.int x] S iv Q := am_ireturn dX9_who_20 rfl h
theorem sX9_who_21 {a0 a1 : Value} (hv : am_rf a0 = true) (h : am_R E d mX9_who k n 22 [a0, a1] (a0 :: st) S iv Q) : am_R E d mX9_who k n 21 [a0, a1] st S iv Q := am_aload_n dX9_who_21 rfl rfl hv h
theorem sX9_who_22 {ls : List Value} {a b : Nat} (ha : S.1 a = some (.inl 9)) (hb : S.2.1 a 3 = some b) (h : am_R E d mX9_who k n 25 ls (.ref b :: st) S iv Q) : am_R E d mX9_who k n 22 ls (.ref a :: st) S iv Q := am_getR (ci := 9) dX9_who_22 rfl rfl (by decide) wq_561 uq_9 rfl ha hb h
theorem sX9_who_25 {a0 : Value} {x : Int32} (h : am_R E d mX9_who k n 26 [a0, .int x] (.int x :: st) S iv Q) : am_R E d mX9_who k n 25 [a0, .int x] st S iv Q := am_iload_n dX9_who_25 rfl rfl h
theorem sX9_who_26 {a0 a1 : Value} (hv : am_rf a0 = true) (h : am_R E d mX9_who k n 27 [a0, a1] (a0 :: st) S iv Q) : am_R E d mX9_who k n 26 [a0, a1] st S iv Q := am_aload_n dX9_who_26 rfl rfl hv h
theorem sX9_who_27 {ls : List Value} {a b : Nat} (ha : S.1 a = some (.inl 9)) (hb : S.2.1 a 5 = some b) (h : am_R E d mX9_who k n 30 ls (.ref b :: st) S iv Q) : am_R E d mX9_who k n 27 ls (.ref a :: st) S iv Q := am_getR (ci := 9) dX9_who_27 rfl rfl (by decide) wq_569 uq_9 rfl ha hb h
theorem sX9_who_30 {ls : List Value} {a : Nat} (ha : S.1 a = some (.inl 7)) (h : am_R E d mX9_who k n 33 ls (.int (iv a 0) :: st) S iv Q) : am_R E d mX9_who k n 30 ls (.ref a :: st) S iv Q := am_getI (ci := 7) dX9_who_30 rfl rfl (by decide) wq_632 uq_7 rfl ha h
theorem sX9_who_33 {ls : List Value} {x1 x2 : Value} {a : Nat} (ha : S.1 a = some (.inl 0)) (hst : (st.map fun v => v.category).sum ≤ 8) (hM : am_M E d mX0_handsNear 0 0 [.ref a, x1, x2] S iv (am_K3 E (d + 1) mX9_who k n 33 ls st Q)) : am_R E (d + 1) mX9_who k n 33 ls (x2 :: x1 :: .ref a :: st) S iv Q := am_cV (ci := 0) (M' := mX0_handsNear) (as := [x1, x2]) dX9_who_33 rfl rfl rfl wq_750 wq_751 wq_752 wq_220 wq_748 hy_X0_handsNear (by decide) ha hst (by omega) (by omega) hM
theorem sX9_who_33_k {ls : List Value} {x1 x2 : Value} {k' n' : Nat} {a : Nat} (ha : S.1 a = some (.inl 0)) (hst : (st.map fun v => v.category).sum ≤ 8) (hM : am_M E d mX0_handsNear k' n' [.ref a, x1, x2] S iv (am_K3 E (d + 1) mX9_who k n 33 ls st Q)) : am_R E (d + 1) mX9_who (k' + k) (n' + n) 33 ls (x2 :: x1 :: .ref a :: st) S iv Q := am_cV (ci := 0) (M' := mX0_handsNear) (as := [x1, x2]) dX9_who_33 rfl rfl rfl wq_750 wq_751 wq_752 wq_220 wq_748 hy_X0_handsNear (by decide) ha hst (by omega) (by omega) hM
theorem sX9_who_36 {ls : List Value} {x : Int32} (h : Q (.inl (some (.int x))) S iv) : am_R E d mX9_who k n 36 ls [.int x] S iv Q := am_ireturn dX9_who_36 rfl h
theorem dX9_odds_0 : decode cX9_odds 0 = .ok (.aload_n 0, 1) := by decide +kernel
theorem dX9_odds_1 : decode cX9_odds 1 = .ok (.iload_n 1, 1) := by decide +kernel
theorem dX9_odds_2 : decode cX9_odds 2 = .ok (.invokevirtual 148, 3) := by decide +kernel
theorem dX9_odds_5 : decode cX9_odds 5 = .ok (.aload_n 0, 1) := by decide +kernel
theorem dX9_odds_6 : decode cX9_odds 6 = .ok (.iload_n 2, 1) := by decide +kernel
theorem dX9_odds_7 : decode cX9_odds 7 = .ok (.invokevirtual 181, 3) := by decide +kernel
theorem dX9_odds_10 : decode cX9_odds 10 = .ok (.iload_n 3, 1) := by decide +kernel
theorem dX9_odds_11 : decode cX9_odds 11 = .ok (.ifCond .eq 19, 3) := by decide +kernel
theorem dX9_odds_14 : decode cX9_odds 14 = .ok (.iload_n 3, 1) := by decide +kernel
theorem dX9_odds_15 : decode cX9_odds 15 = .ok (.iconst 1, 1) := by decide +kernel
theorem dX9_odds_16 : decode cX9_odds 16 = .ok (.if_icmp .eq 14, 3) := by decide +kernel
theorem dX9_odds_19 : decode cX9_odds 19 = .ok (.new 143, 3) := by decide +kernel
theorem dX9_odds_22 : decode cX9_odds 22 = .ok (.dup, 1) := by decide +kernel
theorem dX9_odds_23 : decode cX9_odds 23 = .ok (.ldc_w 285, 3) := by decide +kernel
theorem dX9_odds_26 : decode cX9_odds 26 = .ok (.invokespecial 147, 3) := by decide +kernel
theorem dX9_odds_29 : decode cX9_odds 29 = .ok (.athrow, 1) := by decide +kernel
theorem dX9_odds_30 : decode cX9_odds 30 = .ok (.aload_n 0, 1) := by decide +kernel
theorem dX9_odds_31 : decode cX9_odds 31 = .ok (.getfield 30, 3) := by decide +kernel
theorem dX9_odds_34 : decode cX9_odds 34 = .ok (.getfield 128, 3) := by decide +kernel
theorem dX9_odds_37 : decode cX9_odds 37 = .ok (.iload_n 1, 1) := by decide +kernel
theorem dX9_odds_38 : decode cX9_odds 38 = .ok (.ishr, 1) := by decide +kernel
theorem dX9_odds_39 : decode cX9_odds 39 = .ok (.iconst 1, 1) := by decide +kernel
theorem dX9_odds_40 : decode cX9_odds 40 = .ok (.iand, 1) := by decide +kernel
theorem dX9_odds_41 : decode cX9_odds 41 = .ok (.ifCond .ne 5, 3) := by decide +kernel
theorem dX9_odds_44 : decode cX9_odds 44 = .ok (.iconst (-1), 1) := by decide +kernel
theorem dX9_odds_45 : decode cX9_odds 45 = .ok (.ireturn, 1) := by decide +kernel
theorem dX9_odds_46 : decode cX9_odds 46 = .ok (.aload_n 0, 1) := by decide +kernel
theorem dX9_odds_47 : decode cX9_odds 47 = .ok (.getfield 20, 3) := by decide +kernel
theorem dX9_odds_50 : decode cX9_odds 50 = .ok (.iload_n 1, 1) := by decide +kernel
theorem dX9_odds_51 : decode cX9_odds 51 = .ok (.aload_n 0, 1) := by decide +kernel
theorem dX9_odds_52 : decode cX9_odds 52 = .ok (.getfield 30, 3) := by decide +kernel
theorem dX9_odds_55 : decode cX9_odds 55 = .ok (.getfield 128, 3) := by decide +kernel
theorem dX9_odds_58 : decode cX9_odds 58 = .ok (.invokevirtual 281, 3) := by decide +kernel
theorem dX9_odds_61 : decode cX9_odds 61 = .ok (.istore 4, 2) := by decide +kernel
theorem dX9_odds_63 : decode cX9_odds 63 = .ok (.iload 4, 2) := by decide +kernel
theorem dX9_odds_65 : decode cX9_odds 65 = .ok (.iload_n 2, 1) := by decide +kernel
theorem dX9_odds_66 : decode cX9_odds 66 = .ok (.ishr, 1) := by decide +kernel
theorem dX9_odds_67 : decode cX9_odds 67 = .ok (.iconst 1, 1) := by decide +kernel
theorem dX9_odds_68 : decode cX9_odds 68 = .ok (.iand, 1) := by decide +kernel
theorem dX9_odds_69 : decode cX9_odds 69 = .ok (.ifCond .eq 18, 3) := by decide +kernel
theorem dX9_odds_72 : decode cX9_odds 72 = .ok (.aload_n 0, 1) := by decide +kernel
theorem dX9_odds_73 : decode cX9_odds 73 = .ok (.getfield 20, 3) := by decide +kernel
theorem dX9_odds_76 : decode cX9_odds 76 = .ok (.getfield 111, 3) := by decide +kernel
theorem dX9_odds_79 : decode cX9_odds 79 = .ok (.getfield 190, 3) := by decide +kernel
theorem dX9_odds_82 : decode cX9_odds 82 = .ok (.iload_n 2, 1) := by decide +kernel
theorem dX9_odds_83 : decode cX9_odds 83 = .ok (.iaload, 1) := by decide +kernel
theorem dX9_odds_84 : decode cX9_odds 84 = .ok (.goto 4, 3) := by decide +kernel
theorem dX9_odds_87 : decode cX9_odds 87 = .ok (.iconst 0, 1) := by decide +kernel
theorem dX9_odds_88 : decode cX9_odds 88 = .ok (.istore 5, 2) := by decide +kernel
theorem dX9_odds_90 : decode cX9_odds 90 = .ok (.iload 5, 2) := by decide +kernel
theorem dX9_odds_92 : decode cX9_odds 92 = .ok (.ifCond .ne 5, 3) := by decide +kernel
theorem dX9_odds_95 : decode cX9_odds 95 = .ok (.iload_n 3, 1) := by decide +kernel
theorem dX9_odds_96 : decode cX9_odds 96 = .ok (.ireturn, 1) := by decide +kernel
theorem dX9_odds_97 : decode cX9_odds 97 = .ok (.aload_n 0, 1) := by decide +kernel
theorem dX9_odds_98 : decode cX9_odds 98 = .ok (.getfield 20, 3) := by decide +kernel
theorem dX9_odds_101 : decode cX9_odds 101 = .ok (.getfield 111, 3) := by decide +kernel
theorem dX9_odds_104 : decode cX9_odds 104 = .ok (.iload 4, 2) := by decide +kernel
theorem dX9_odds_106 : decode cX9_odds 106 = .ok (.invokevirtual 287, 3) := by decide +kernel
theorem dX9_odds_109 : decode cX9_odds 109 = .ok (.istore 6, 2) := by decide +kernel
theorem dX9_odds_111 : decode cX9_odds 111 = .ok (.iload 5, 2) := by decide +kernel
theorem dX9_odds_113 : decode cX9_odds 113 = .ok (.iload 6, 2) := by decide +kernel
theorem dX9_odds_115 : decode cX9_odds 115 = .ok (.invokestatic 290, 3) := by decide +kernel
theorem dX9_odds_118 : decode cX9_odds 118 = .ok (.istore 7, 2) := by decide +kernel
theorem dX9_odds_120 : decode cX9_odds 120 = .ok (.iload_n 3, 1) := by decide +kernel
theorem dX9_odds_121 : decode cX9_odds 121 = .ok (.ifCond .ne 8, 3) := by decide +kernel
theorem dX9_odds_124 : decode cX9_odds 124 = .ok (.iload 5, 2) := by decide +kernel
theorem dX9_odds_126 : decode cX9_odds 126 = .ok (.goto 5, 3) := by decide +kernel
theorem dX9_odds_129 : decode cX9_odds 129 = .ok (.iload 6, 2) := by decide +kernel
theorem dX9_odds_131 : decode cX9_odds 131 = .ok (.iload 7, 2) := by decide +kernel
theorem dX9_odds_133 : decode cX9_odds 133 = .ok (.idiv, 1) := by decide +kernel
theorem dX9_odds_134 : decode cX9_odds 134 = .ok (.ireturn, 1) := by decide +kernel
theorem sX9_odds_0 {a0 a1 a2 a3 a4 a5 a6 a7 : Value} (hv : am_rf a0 = true) (h : am_R E d mX9_odds k n 1 [a0, a1, a2, a3, a4, a5, a6, a7] (a0 :: st) S iv Q) : am_R E d mX9_odds k n 0 [a0, a1, a2, a3, a4, a5, a6, a7] st S iv Q := am_aload_n dX9_odds_0 rfl rfl hv h
theorem sX9_odds_1 {a0 a2 a3 a4 a5 a6 a7 : Value} {x : Int32} (h : am_R E d mX9_odds k n 2 [a0, .int x, a2, a3, a4, a5, a6, a7] (.int x :: st) S iv Q) : am_R E d mX9_odds k n 1 [a0, .int x, a2, a3, a4, a5, a6, a7] st S iv Q := am_iload_n dX9_odds_1 rfl rfl h
theorem sX9_odds_2 {ls : List Value} {x1 : Value} {a : Nat} (ha : S.1 a = some (.inl 9)) (hst : (st.map fun v => v.category).sum ≤ 8) (hM : am_M E d mX9_demandDrawer 0 0 [.ref a, x1] S iv (am_K3 E (d + 1) mX9_odds k n 2 ls st Q)) : am_R E (d + 1) mX9_odds k n 2 ls (x1 :: .ref a :: st) S iv Q := am_cV (ci := 9) (M' := mX9_demandDrawer) (as := [x1]) dX9_odds_2 rfl rfl rfl wq_642 wq_643 wq_644 wq_581 wq_640 hy_X9_demandDrawer (by decide) ha hst (by omega) (by omega) hM
theorem sX9_odds_2_k {ls : List Value} {x1 : Value} {k' n' : Nat} {a : Nat} (ha : S.1 a = some (.inl 9)) (hst : (st.map fun v => v.category).sum ≤ 8) (hM : am_M E d mX9_demandDrawer k' n' [.ref a, x1] S iv (am_K3 E (d + 1) mX9_odds k n 2 ls st Q)) : am_R E (d + 1) mX9_odds (k' + k) (n' + n) 2 ls (x1 :: .ref a :: st) S iv Q := am_cV (ci := 9) (M' := mX9_demandDrawer) (as := [x1]) dX9_odds_2 rfl rfl rfl wq_642 wq_643 wq_644 wq_581 wq_640 hy_X9_demandDrawer (by decide) ha hst (by omega) (by omega) hM
theorem sX9_odds_5 {a0 a1 a2 a3 a4 a5 a6 a7 : Value} (hv : am_rf a0 = true) (h : am_R E d mX9_odds k n 6 [a0, a1, a2, a3, a4, a5, a6, a7] (a0 :: st) S iv Q) : am_R E d mX9_odds k n 5 [a0, a1, a2, a3, a4, a5, a6, a7] st S iv Q := am_aload_n dX9_odds_5 rfl rfl hv h
theorem sX9_odds_6 {a0 a1 a3 a4 a5 a6 a7 : Value} {x : Int32} (h : am_R E d mX9_odds k n 7 [a0, a1, .int x, a3, a4, a5, a6, a7] (.int x :: st) S iv Q) : am_R E d mX9_odds k n 6 [a0, a1, .int x, a3, a4, a5, a6, a7] st S iv Q := am_iload_n dX9_odds_6 rfl rfl h
theorem sX9_odds_7 {ls : List Value} {x1 : Value} {a : Nat} (ha : S.1 a = some (.inl 9)) (hst : (st.map fun v => v.category).sum ≤ 8) (hM : am_M E d mX9_demandPerson 0 0 [.ref a, x1] S iv (am_K3 E (d + 1) mX9_odds k n 7 ls st Q)) : am_R E (d + 1) mX9_odds k n 7 ls (x1 :: .ref a :: st) S iv Q := am_cV (ci := 9) (M' := mX9_demandPerson) (as := [x1]) dX9_odds_7 rfl rfl rfl wq_663 wq_664 wq_665 wq_581 wq_661 hy_X9_demandPerson (by decide) ha hst (by omega) (by omega) hM
theorem sX9_odds_7_k {ls : List Value} {x1 : Value} {k' n' : Nat} {a : Nat} (ha : S.1 a = some (.inl 9)) (hst : (st.map fun v => v.category).sum ≤ 8) (hM : am_M E d mX9_demandPerson k' n' [.ref a, x1] S iv (am_K3 E (d + 1) mX9_odds k n 7 ls st Q)) : am_R E (d + 1) mX9_odds (k' + k) (n' + n) 7 ls (x1 :: .ref a :: st) S iv Q := am_cV (ci := 9) (M' := mX9_demandPerson) (as := [x1]) dX9_odds_7 rfl rfl rfl wq_663 wq_664 wq_665 wq_581 wq_661 hy_X9_demandPerson (by decide) ha hst (by omega) (by omega) hM
theorem sX9_odds_10 {a0 a1 a2 a4 a5 a6 a7 : Value} {x : Int32} (h : am_R E d mX9_odds k n 11 [a0, a1, a2, .int x, a4, a5, a6, a7] (.int x :: st) S iv Q) : am_R E d mX9_odds k n 10 [a0, a1, a2, .int x, a4, a5, a6, a7] st S iv Q := am_iload_n dX9_odds_10 rfl rfl h
theorem sX9_odds_11 {ls : List Value} {x : Int32} (kt : x = 0 → am_R E d mX9_odds k n 30 ls st S iv Q) (kf : ¬ x = 0 → am_R E d mX9_odds k n 14 ls st S iv Q) : am_R E d mX9_odds k n 11 ls (.int x :: st) S iv Q := am_if_eq dX9_odds_11 (by decide) kt kf
theorem sX9_odds_14 {a0 a1 a2 a4 a5 a6 a7 : Value} {x : Int32} (h : am_R E d mX9_odds k n 15 [a0, a1, a2, .int x, a4, a5, a6, a7] (.int x :: st) S iv Q) : am_R E d mX9_odds k n 14 [a0, a1, a2, .int x, a4, a5, a6, a7] st S iv Q := am_iload_n dX9_odds_14 rfl rfl h
theorem sX9_odds_15 {a0 a1 a2 a3 a4 a5 a6 a7 : Value} (h : am_R E d mX9_odds k n 16 [a0, a1, a2, a3, a4, a5, a6, a7] (.int 1 :: st) S iv Q) : am_R E d mX9_odds k n 15 [a0, a1, a2, a3, a4, a5, a6, a7] st S iv Q := am_iconst dX9_odds_15 (by decide) h
theorem sX9_odds_16 {ls : List Value} {x y : Int32} (kt : x = y → am_R E d mX9_odds k n 30 ls st S iv Q) (kf : ¬ x = y → am_R E d mX9_odds k n 19 ls st S iv Q) : am_R E d mX9_odds k n 16 ls (.int y :: .int x :: st) S iv Q := am_icmp_eq dX9_odds_16 (by decide) kt kf
theorem sX9_odds_19 {ls : List Value} (hst : (st.map fun v => v.category).sum ≤ 8) (h : ∀ nx, S.2.2.2 ≤ nx → Q (.inr "java/util/NoSuchElementException") (S.1, S.2.1, S.2.2.1, nx) iv) : am_R E (d + 7) mX9_odds (k + 1) (n + 6) 19 ls st S iv Q := am_throwN (X := "java/util/NoSuchElementException") (tx := "a fraction has an upper and a lower part") (j := 34) wq_639_b0 wq_639_b1 wq_639_b2 wq_639_b5 dX9_odds_19 dX9_odds_22 (Or.inr ⟨rfl, dX9_odds_23⟩) dX9_odds_26 dX9_odds_29 rfl (by decide) (by decide) (by decide) (by decide) wq_637 wq_638 wq_639 wq_639_g (List.mem_of_getElem? (i := 34) rfl) (by omega) hst (by omega) (by omega) h
theorem sX9_odds_22 {ls : List Value} {x : Value} (hv : x.category = 1) (h : am_R E d mX9_odds k n 23 ls (x :: x :: st) S iv Q) : am_R E d mX9_odds k n 22 ls (x :: st) S iv Q := am_dup dX9_odds_22 hv h
theorem sX9_odds_23 {a0 a1 a2 a3 a4 a5 a6 a7 : Value} (h : am_R E d mX9_odds k n 26 [a0, a1, a2, a3, a4, a5, a6, a7] (.retAddr 34 :: st) S iv Q) : am_R E d mX9_odds k n 23 [a0, a1, a2, a3, a4, a5, a6, a7] st S iv Q := am_ldcSw (tx := "a fraction has an upper and a lower part") dX9_odds_23 (List.mem_of_getElem? (i := 34) rfl) h
theorem sX9_odds_30 {a0 a1 a2 a3 a4 a5 a6 a7 : Value} (hv : am_rf a0 = true) (h : am_R E d mX9_odds k n 31 [a0, a1, a2, a3, a4, a5, a6, a7] (a0 :: st) S iv Q) : am_R E d mX9_odds k n 30 [a0, a1, a2, a3, a4, a5, a6, a7] st S iv Q := am_aload_n dX9_odds_30 rfl rfl hv h
theorem sX9_odds_31 {ls : List Value} {a b : Nat} (ha : S.1 a = some (.inl 9)) (hb : S.2.1 a 5 = some b) (h : am_R E d mX9_odds k n 34 ls (.ref b :: st) S iv Q) : am_R E d mX9_odds k n 31 ls (.ref a :: st) S iv Q := am_getR (ci := 9) dX9_odds_31 rfl rfl (by decide) wq_569 uq_9 rfl ha hb h
theorem sX9_odds_34 {ls : List Value} {a : Nat} (ha : S.1 a = some (.inl 7)) (h : am_R E d mX9_odds k n 37 ls (.int (iv a 0) :: st) S iv Q) : am_R E d mX9_odds k n 34 ls (.ref a :: st) S iv Q := am_getI (ci := 7) dX9_odds_34 rfl rfl (by decide) wq_632 uq_7 rfl ha h
theorem sX9_odds_37 {a0 a2 a3 a4 a5 a6 a7 : Value} {x : Int32} (h : am_R E d mX9_odds k n 38 [a0, .int x, a2, a3, a4, a5, a6, a7] (.int x :: st) S iv Q) : am_R E d mX9_odds k n 37 [a0, .int x, a2, a3, a4, a5, a6, a7] st S iv Q := am_iload_n dX9_odds_37 rfl rfl h
theorem sX9_odds_38 {ls : List Value} {x y : Int32} (h : am_R E d mX9_odds k n 39 ls (.int (x >>> (y &&& 31)) :: st) S iv Q) : am_R E d mX9_odds k n 38 ls (.int y :: .int x :: st) S iv Q := am_ishr dX9_odds_38 h
theorem sX9_odds_39 {a0 a1 a2 a3 a4 a5 a6 a7 : Value} (h : am_R E d mX9_odds k n 40 [a0, a1, a2, a3, a4, a5, a6, a7] (.int 1 :: st) S iv Q) : am_R E d mX9_odds k n 39 [a0, a1, a2, a3, a4, a5, a6, a7] st S iv Q := am_iconst dX9_odds_39 (by decide) h
theorem sX9_odds_40 {ls : List Value} {x y : Int32} (h : am_R E d mX9_odds k n 41 ls (.int (x &&& y) :: st) S iv Q) : am_R E d mX9_odds k n 40 ls (.int y :: .int x :: st) S iv Q := am_iand dX9_odds_40 h
theorem sX9_odds_41 {ls : List Value} {x : Int32} (kt : ¬ x = 0 → am_R E d mX9_odds k n 46 ls st S iv Q) (kf : x = 0 → am_R E d mX9_odds k n 44 ls st S iv Q) : am_R E d mX9_odds k n 41 ls (.int x :: st) S iv Q := am_if_ne dX9_odds_41 (by decide) kt kf
theorem sX9_odds_44 {a0 a1 a2 a3 a4 a5 a6 a7 : Value} (h : am_R E d mX9_odds k n 45 [a0, a1, a2, a3, a4, a5, a6, a7] (.int (-1) :: st) S iv Q) : am_R E d mX9_odds k n 44 [a0, a1, a2, a3, a4, a5, a6, a7] st S iv Q := am_iconst dX9_odds_44 (by decide) h
theorem sX9_odds_45 {ls : List Value} {x : Int32} (h : Q (.inl (some (.int x))) S iv) : am_R E d mX9_odds k n 45 ls [.int x] S iv Q := am_ireturn dX9_odds_45 rfl h
theorem sX9_odds_46 {a0 a1 a2 a3 a4 a5 a6 a7 : Value} (hv : am_rf a0 = true) (h : am_R E d mX9_odds k n 47 [a0, a1, a2, a3, a4, a5, a6, a7] (a0 :: st) S iv Q) : am_R E d mX9_odds k n 46 [a0, a1, a2, a3, a4, a5, a6, a7] st S iv Q := am_aload_n dX9_odds_46 rfl rfl hv h
theorem sX9_odds_47 {ls : List Value} {a b : Nat} (ha : S.1 a = some (.inl 9)) (hb : S.2.1 a 3 = some b) (h : am_R E d mX9_odds k n 50 ls (.ref b :: st) S iv Q) : am_R E d mX9_odds k n 47 ls (.ref a :: st) S iv Q := am_getR (ci := 9) dX9_odds_47 rfl rfl (by decide) wq_561 uq_9 rfl ha hb h
theorem sX9_odds_50 {a0 a2 a3 a4 a5 a6 a7 : Value} {x : Int32} (h : am_R E d mX9_odds k n 51 [a0, .int x, a2, a3, a4, a5, a6, a7] (.int x :: st) S iv Q) : am_R E d mX9_odds k n 50 [a0, .int x, a2, a3, a4, a5, a6, a7] st S iv Q := am_iload_n dX9_odds_50 rfl rfl h
theorem sX9_odds_51 {a0 a1 a2 a3 a4 a5 a6 a7 : Value} (hv : am_rf a0 = true) (h : am_R E d mX9_odds k n 52 [a0, a1, a2, a3, a4, a5, a6, a7] (a0 :: st) S iv Q) : am_R E d mX9_odds k n 51 [a0, a1, a2, a3, a4, a5, a6, a7] st S iv Q := am_aload_n dX9_odds_51 rfl rfl hv h
theorem sX9_odds_52 {ls : List Value} {a b : Nat} (ha : S.1 a = some (.inl 9)) (hb : S.2.1 a 5 = some b) (h : am_R E d mX9_odds k n 55 ls (.ref b :: st) S iv Q) : am_R E d mX9_odds k n 52 ls (.ref a :: st) S iv Q := am_getR (ci := 9) dX9_odds_52 rfl rfl (by decide) wq_569 uq_9 rfl ha hb h
theorem sX9_odds_55 {ls : List Value} {a : Nat} (ha : S.1 a = some (.inl 7)) (h : am_R E d mX9_odds k n 58 ls (.int (iv a 0) :: st) S iv Q) : am_R E d mX9_odds k n 55 ls (.ref a :: st) S iv Q := am_getI (ci := 7) dX9_odds_55 rfl rfl (by decide) wq_632 uq_7 rfl ha h
theorem sX9_odds_58 {ls : List Value} {x1 x2 : Value} {a : Nat} (ha : S.1 a = some (.inl 0)) (hst : (st.map fun v => v.category).sum ≤ 8) (hM : am_M E d mX0_handsNear 0 0 [.ref a, x1, x2] S iv (am_K3 E (d + 1) mX9_odds k n 58 ls st Q)) : am_R E (d + 1) mX9_odds k n 58 ls (x2 :: x1 :: .ref a :: st) S iv Q := am_cV (ci := 0) (M' := mX0_handsNear) (as := [x1, x2]) dX9_odds_58 rfl rfl rfl wq_750 wq_751 wq_752 wq_220 wq_748 hy_X0_handsNear (by decide) ha hst (by omega) (by omega) hM
theorem sX9_odds_58_k {ls : List Value} {x1 x2 : Value} {k' n' : Nat} {a : Nat} (ha : S.1 a = some (.inl 0)) (hst : (st.map fun v => v.category).sum ≤ 8) (hM : am_M E d mX0_handsNear k' n' [.ref a, x1, x2] S iv (am_K3 E (d + 1) mX9_odds k n 58 ls st Q)) : am_R E (d + 1) mX9_odds (k' + k) (n' + n) 58 ls (x2 :: x1 :: .ref a :: st) S iv Q := am_cV (ci := 0) (M' := mX0_handsNear) (as := [x1, x2]) dX9_odds_58 rfl rfl rfl wq_750 wq_751 wq_752 wq_220 wq_748 hy_X0_handsNear (by decide) ha hst (by omega) (by omega) hM
theorem sX9_odds_61 {a0 a1 a2 a3 a4 a5 a6 a7 : Value} {x : Int32} (h : am_R E d mX9_odds k n 63 [a0, a1, a2, a3, .int x, a5, a6, a7] st S iv Q) : am_R E d mX9_odds k n 61 [a0, a1, a2, a3, a4, a5, a6, a7] (.int x :: st) S iv Q := am_istore dX9_odds_61 (by decide) h
theorem sX9_odds_63 {a0 a1 a2 a3 a5 a6 a7 : Value} {x : Int32} (h : am_R E d mX9_odds k n 65 [a0, a1, a2, a3, .int x, a5, a6, a7] (.int x :: st) S iv Q) : am_R E d mX9_odds k n 63 [a0, a1, a2, a3, .int x, a5, a6, a7] st S iv Q := am_iload dX9_odds_63 rfl h
theorem sX9_odds_65 {a0 a1 a3 a4 a5 a6 a7 : Value} {x : Int32} (h : am_R E d mX9_odds k n 66 [a0, a1, .int x, a3, a4, a5, a6, a7] (.int x :: st) S iv Q) : am_R E d mX9_odds k n 65 [a0, a1, .int x, a3, a4, a5, a6, a7] st S iv Q := am_iload_n dX9_odds_65 rfl rfl h
theorem sX9_odds_66 {ls : List Value} {x y : Int32} (h : am_R E d mX9_odds k n 67 ls (.int (x >>> (y &&& 31)) :: st) S iv Q) : am_R E d mX9_odds k n 66 ls (.int y :: .int x :: st) S iv Q := am_ishr dX9_odds_66 h
theorem sX9_odds_67 {a0 a1 a2 a3 a4 a5 a6 a7 : Value} (h : am_R E d mX9_odds k n 68 [a0, a1, a2, a3, a4, a5, a6, a7] (.int 1 :: st) S iv Q) : am_R E d mX9_odds k n 67 [a0, a1, a2, a3, a4, a5, a6, a7] st S iv Q := am_iconst dX9_odds_67 (by decide) h
theorem sX9_odds_68 {ls : List Value} {x y : Int32} (h : am_R E d mX9_odds k n 69 ls (.int (x &&& y) :: st) S iv Q) : am_R E d mX9_odds k n 68 ls (.int y :: .int x :: st) S iv Q := am_iand dX9_odds_68 h
theorem sX9_odds_69 {ls : List Value} {x : Int32} (kt : x = 0 → am_R E d mX9_odds k n 87 ls st S iv Q) (kf : ¬ x = 0 → am_R E d mX9_odds k n 72 ls st S iv Q) : am_R E d mX9_odds k n 69 ls (.int x :: st) S iv Q := am_if_eq dX9_odds_69 (by decide) kt kf
theorem sX9_odds_72 {a0 a1 a2 a3 a4 a5 a6 a7 : Value} (hv : am_rf a0 = true) (h : am_R E d mX9_odds k n 73 [a0, a1, a2, a3, a4, a5, a6, a7] (a0 :: st) S iv Q) : am_R E d mX9_odds k n 72 [a0, a1, a2, a3, a4, a5, a6, a7] st S iv Q := am_aload_n dX9_odds_72 rfl rfl hv h
theorem sX9_odds_73 {ls : List Value} {a b : Nat} (ha : S.1 a = some (.inl 9)) (hb : S.2.1 a 3 = some b) (h : am_R E d mX9_odds k n 76 ls (.ref b :: st) S iv Q) : am_R E d mX9_odds k n 73 ls (.ref a :: st) S iv Q := am_getR (ci := 9) dX9_odds_73 rfl rfl (by decide) wq_561 uq_9 rfl ha hb h
theorem sX9_odds_76 {ls : List Value} {a b : Nat} (ha : S.1 a = some (.inl 0)) (hb : S.2.1 a 8 = some b) (h : am_R E d mX9_odds k n 79 ls (.ref b :: st) S iv Q) : am_R E d mX9_odds k n 76 ls (.ref a :: st) S iv Q := am_getR (ci := 0) dX9_odds_76 rfl rfl (by decide) wq_627 uq_0 rfl ha hb h
theorem sX9_odds_79 {ls : List Value} {a b : Nat} (ha : S.1 a = some (.inl 4)) (hb : S.2.1 a 3 = some b) (h : am_R E d mX9_odds k n 82 ls (.ref b :: st) S iv Q) : am_R E d mX9_odds k n 79 ls (.ref a :: st) S iv Q := am_getR (ci := 4) dX9_odds_79 rfl rfl (by decide) wq_668 uq_4 rfl ha hb h
theorem sX9_odds_82 {a0 a1 a3 a4 a5 a6 a7 : Value} {x : Int32} (h : am_R E d mX9_odds k n 83 [a0, a1, .int x, a3, a4, a5, a6, a7] (.int x :: st) S iv Q) : am_R E d mX9_odds k n 82 [a0, a1, .int x, a3, a4, a5, a6, a7] st S iv Q := am_iload_n dX9_odds_82 rfl rfl h
theorem sX9_odds_83 {ls : List Value} {a m : Nat} {i : Int32} (ha : S.1 a = some (.inr (.int, m))) (hi : vp_in i m) (h : am_R E d mX9_odds k n 84 ls (.int (iv a i.toNatClampNeg) :: st) S iv Q) : am_R E d mX9_odds k n 83 ls (.int i :: .ref a :: st) S iv Q := am_iaload dX9_odds_83 ha hi h
theorem sX9_odds_84 {ls : List Value} (h : am_R E d mX9_odds k n 88 ls st S iv Q) : am_R E d mX9_odds k n 84 ls st S iv Q := am_goto dX9_odds_84 (by decide) h
theorem sX9_odds_87 {a0 a1 a2 a3 a4 a5 a6 a7 : Value} (h : am_R E d mX9_odds k n 88 [a0, a1, a2, a3, a4, a5, a6, a7] (.int 0 :: st) S iv Q) : am_R E d mX9_odds k n 87 [a0, a1, a2, a3, a4, a5, a6, a7] st S iv Q := am_iconst dX9_odds_87 (by decide) h
theorem sX9_odds_88 {a0 a1 a2 a3 a4 a5 a6 a7 : Value} {x : Int32} (h : am_R E d mX9_odds k n 90 [a0, a1, a2, a3, a4, .int x, a6, a7] st S iv Q) : am_R E d mX9_odds k n 88 [a0, a1, a2, a3, a4, a5, a6, a7] (.int x :: st) S iv Q := am_istore dX9_odds_88 (by decide) h
theorem sX9_odds_90 {a0 a1 a2 a3 a4 a6 a7 : Value} {x : Int32} (h : am_R E d mX9_odds k n 92 [a0, a1, a2, a3, a4, .int x, a6, a7] (.int x :: st) S iv Q) : am_R E d mX9_odds k n 90 [a0, a1, a2, a3, a4, .int x, a6, a7] st S iv Q := am_iload dX9_odds_90 rfl h
theorem sX9_odds_92 {ls : List Value} {x : Int32} (kt : ¬ x = 0 → am_R E d mX9_odds k n 97 ls st S iv Q) (kf : x = 0 → am_R E d mX9_odds k n 95 ls st S iv Q) : am_R E d mX9_odds k n 92 ls (.int x :: st) S iv Q := am_if_ne dX9_odds_92 (by decide) kt kf
theorem sX9_odds_95 {a0 a1 a2 a4 a5 a6 a7 : Value} {x : Int32} (h : am_R E d mX9_odds k n 96 [a0, a1, a2, .int x, a4, a5, a6, a7] (.int x :: st) S iv Q) : am_R E d mX9_odds k n 95 [a0, a1, a2, .int x, a4, a5, a6, a7] st S iv Q := am_iload_n dX9_odds_95 rfl rfl h
theorem sX9_odds_96 {ls : List Value} {x : Int32} (h : Q (.inl (some (.int x))) S iv) : am_R E d mX9_odds k n 96 ls [.int x] S iv Q := am_ireturn dX9_odds_96 rfl h
theorem sX9_odds_97 {a0 a1 a2 a3 a4 a5 a6 a7 : Value} (hv : am_rf a0 = true) (h : am_R E d mX9_odds k n 98 [a0, a1, a2, a3, a4, a5, a6, a7] (a0 :: st) S iv Q) : am_R E d mX9_odds k n 97 [a0, a1, a2, a3, a4, a5, a6, a7] st S iv Q := am_aload_n dX9_odds_97 rfl rfl hv h
theorem sX9_odds_98 {ls : List Value} {a b : Nat} (ha : S.1 a = some (.inl 9)) (hb : S.2.1 a 3 = some b) (h : am_R E d mX9_odds k n 101 ls (.ref b :: st) S iv Q) : am_R E d mX9_odds k n 98 ls (.ref a :: st) S iv Q := am_getR (ci := 9) dX9_odds_98 rfl rfl (by decide) wq_561 uq_9 rfl ha hb h
theorem sX9_odds_101 {ls : List Value} {a b : Nat} (ha : S.1 a = some (.inl 0)) (hb : S.2.1 a 8 = some b) (h : am_R E d mX9_odds k n 104 ls (.ref b :: st) S iv Q) : am_R E d mX9_odds k n 101 ls (.ref a :: st) S iv Q := am_getR (ci := 0) dX9_odds_101 rfl rfl (by decide) wq_627 uq_0 rfl ha hb h
theorem sX9_odds_104 {a0 a1 a2 a3 a5 a6 a7 : Value} {x : Int32} (h : am_R E d mX9_odds k n 106 [a0, a1, a2, a3, .int x, a5, a6, a7] (.int x :: st) S iv Q) : am_R E d mX9_odds k n 104 [a0, a1, a2, a3, .int x, a5, a6, a7] st S iv Q := am_iload dX9_odds_104 rfl h
theorem sX9_odds_106 {ls : List Value} {x1 : Value} {a : Nat} (ha : S.1 a = some (.inl 4)) (hst : (st.map fun v => v.category).sum ≤ 8) (hM : am_M E d mX4_weightOf 0 0 [.ref a, x1] S iv (am_K3 E (d + 1) mX9_odds k n 106 ls st Q)) : am_R E (d + 1) mX9_odds k n 106 ls (x1 :: .ref a :: st) S iv Q := am_cV (ci := 4) (M' := mX4_weightOf) (as := [x1]) dX9_odds_106 rfl rfl rfl wq_755 wq_756 wq_757 wq_168 wq_753 hy_X4_weightOf (by decide) ha hst (by omega) (by omega) hM
theorem sX9_odds_106_k {ls : List Value} {x1 : Value} {k' n' : Nat} {a : Nat} (ha : S.1 a = some (.inl 4)) (hst : (st.map fun v => v.category).sum ≤ 8) (hM : am_M E d mX4_weightOf k' n' [.ref a, x1] S iv (am_K3 E (d + 1) mX9_odds k n 106 ls st Q)) : am_R E (d + 1) mX9_odds (k' + k) (n' + n) 106 ls (x1 :: .ref a :: st) S iv Q := am_cV (ci := 4) (M' := mX4_weightOf) (as := [x1]) dX9_odds_106 rfl rfl rfl wq_755 wq_756 wq_757 wq_168 wq_753 hy_X4_weightOf (by decide) ha hst (by omega) (by omega) hM
theorem sX9_odds_109 {a0 a1 a2 a3 a4 a5 a6 a7 : Value} {x : Int32} (h : am_R E d mX9_odds k n 111 [a0, a1, a2, a3, a4, a5, .int x, a7] st S iv Q) : am_R E d mX9_odds k n 109 [a0, a1, a2, a3, a4, a5, a6, a7] (.int x :: st) S iv Q := am_istore dX9_odds_109 (by decide) h
theorem sX9_odds_111 {a0 a1 a2 a3 a4 a6 a7 : Value} {x : Int32} (h : am_R E d mX9_odds k n 113 [a0, a1, a2, a3, a4, .int x, a6, a7] (.int x :: st) S iv Q) : am_R E d mX9_odds k n 111 [a0, a1, a2, a3, a4, .int x, a6, a7] st S iv Q := am_iload dX9_odds_111 rfl h
theorem sX9_odds_113 {a0 a1 a2 a3 a4 a5 a7 : Value} {x : Int32} (h : am_R E d mX9_odds k n 115 [a0, a1, a2, a3, a4, a5, .int x, a7] (.int x :: st) S iv Q) : am_R E d mX9_odds k n 113 [a0, a1, a2, a3, a4, a5, .int x, a7] st S iv Q := am_iload dX9_odds_113 rfl h
theorem sX9_odds_115 {ls : List Value} {x1 x2 : Value} (hst : (st.map fun v => v.category).sum ≤ 8) (hM : am_M E d mX9_commonDivisor 0 0 [x1, x2] S iv (am_K3 E (d + 1) mX9_odds k n 115 ls st Q)) : am_R E (d + 1) mX9_odds k n 115 ls (x2 :: x1 :: st) S iv Q := am_cS (M' := mX9_commonDivisor) (as := [x1, x2]) dX9_odds_115 rfl wq_760 wq_761 wq_581 wq_758 hy_X9_commonDivisor (by decide) hst (by omega) (by omega) hM
theorem sX9_odds_115_k {ls : List Value} {x1 x2 : Value} {k' n' : Nat} (hst : (st.map fun v => v.category).sum ≤ 8) (hM : am_M E d mX9_commonDivisor k' n' [x1, x2] S iv (am_K3 E (d + 1) mX9_odds k n 115 ls st Q)) : am_R E (d + 1) mX9_odds (k' + k) (n' + n) 115 ls (x2 :: x1 :: st) S iv Q := am_cS (M' := mX9_commonDivisor) (as := [x1, x2]) dX9_odds_115 rfl wq_760 wq_761 wq_581 wq_758 hy_X9_commonDivisor (by decide) hst (by omega) (by omega) hM
theorem sX9_odds_118 {a0 a1 a2 a3 a4 a5 a6 a7 : Value} {x : Int32} (h : am_R E d mX9_odds k n 120 [a0, a1, a2, a3, a4, a5, a6, .int x] st S iv Q) : am_R E d mX9_odds k n 118 [a0, a1, a2, a3, a4, a5, a6, a7] (.int x :: st) S iv Q := am_istore dX9_odds_118 (by decide) h
theorem sX9_odds_120 {a0 a1 a2 a4 a5 a6 a7 : Value} {x : Int32} (h : am_R E d mX9_odds k n 121 [a0, a1, a2, .int x, a4, a5, a6, a7] (.int x :: st) S iv Q) : am_R E d mX9_odds k n 120 [a0, a1, a2, .int x, a4, a5, a6, a7] st S iv Q := am_iload_n dX9_odds_120 rfl rfl h
theorem sX9_odds_121 {ls : List Value} {x : Int32} (kt : ¬ x = 0 → am_R E d mX9_odds k n 129 ls st S iv Q) (kf : x = 0 → am_R E d mX9_odds k n 124 ls st S iv Q) : am_R E d mX9_odds k n 121 ls (.int x :: st) S iv Q := am_if_ne dX9_odds_121 (by decide) kt kf
theorem sX9_odds_124 {a0 a1 a2 a3 a4 a6 a7 : Value} {x : Int32} (h : am_R E d mX9_odds k n 126 [a0, a1, a2, a3, a4, .int x, a6, a7] (.int x :: st) S iv Q) : am_R E d mX9_odds k n 124 [a0, a1, a2, a3, a4, .int x, a6, a7] st S iv Q := am_iload dX9_odds_124 rfl h
theorem sX9_odds_126 {ls : List Value} (h : am_R E d mX9_odds k n 131 ls st S iv Q) : am_R E d mX9_odds k n 126 ls st S iv Q := am_goto dX9_odds_126 (by decide) h
theorem sX9_odds_129 {a0 a1 a2 a3 a4 a5 a7 : Value} {x : Int32} (h : am_R E d mX9_odds k n 131 [a0, a1, a2, a3, a4, a5, .int x, a7] (.int x :: st) S iv Q) : am_R E d mX9_odds k n 129 [a0, a1, a2, a3, a4, a5, .int x, a7] st S iv Q := am_iload dX9_odds_129 rfl h
theorem sX9_odds_131 {a0 a1 a2 a3 a4 a5 a6 : Value} {x : Int32} (h : am_R E d mX9_odds k n 133 [a0, a1, a2, a3, a4, a5, a6, .int x] (.int x :: st) S iv Q) : am_R E d mX9_odds k n 131 [a0, a1, a2, a3, a4, a5, a6, .int x] st S iv Q := am_iload dX9_odds_131 rfl h
theorem sX9_odds_133 {ls : List Value} {x y : Int32} (hy : ¬ y = 0) (h : am_R E d mX9_odds k n 134 ls (.int (x / y) :: st) S iv Q) : am_R E d mX9_odds k n 133 ls (.int y :: .int x :: st) S iv Q := am_idiv dX9_odds_133 hy h
theorem sX9_odds_134 {ls : List Value} {x : Int32} (h : Q (.inl (some (.int x))) S iv) : am_R E d mX9_odds k n 134 ls [.int x] S iv Q := am_ireturn dX9_odds_134 rfl h
theorem dX9_commonDivisor_0 : decode cX9_commonDivisor 0 = .ok (.iload_n 0, 1) := by decide +kernel
theorem dX9_commonDivisor_1 : decode cX9_commonDivisor 1 = .ok (.istore_n 2, 1) := by decide +kernel
theorem dX9_commonDivisor_2 : decode cX9_commonDivisor 2 = .ok (.iload_n 1, 1) := by decide +kernel
theorem dX9_commonDivisor_3 : decode cX9_commonDivisor 3 = .ok (.istore_n 3, 1) := by decide +kernel
theorem dX9_commonDivisor_4 : decode cX9_commonDivisor 4 = .ok (.iconst 0, 1) := by decide +kernel
theorem dX9_commonDivisor_5 : decode cX9_commonDivisor 5 = .ok (.istore 4, 2) := by decide +kernel
theorem dX9_commonDivisor_7 : decode cX9_commonDivisor 7 = .ok (.iload 4, 2) := by decide +kernel
theorem dX9_commonDivisor_9 : decode cX9_commonDivisor 9 = .ok (.sipush 1000, 3) := by decide +kernel
theorem dX9_commonDivisor_12 : decode cX9_commonDivisor 12 = .ok (.if_icmp .ge 23, 3) := by decide +kernel
theorem dX9_commonDivisor_15 : decode cX9_commonDivisor 15 = .ok (.iload_n 3, 1) := by decide +kernel
theorem dX9_commonDivisor_16 : decode cX9_commonDivisor 16 = .ok (.ifCond .le 19, 3) := by decide +kernel
theorem dX9_commonDivisor_19 : decode cX9_commonDivisor 19 = .ok (.iload_n 2, 1) := by decide +kernel
theorem dX9_commonDivisor_20 : decode cX9_commonDivisor 20 = .ok (.iload_n 3, 1) := by decide +kernel
theorem dX9_commonDivisor_21 : decode cX9_commonDivisor 21 = .ok (.irem, 1) := by decide +kernel
theorem dX9_commonDivisor_22 : decode cX9_commonDivisor 22 = .ok (.istore 5, 2) := by decide +kernel
theorem dX9_commonDivisor_24 : decode cX9_commonDivisor 24 = .ok (.iload_n 3, 1) := by decide +kernel
theorem dX9_commonDivisor_25 : decode cX9_commonDivisor 25 = .ok (.istore_n 2, 1) := by decide +kernel
theorem dX9_commonDivisor_26 : decode cX9_commonDivisor 26 = .ok (.iload 5, 2) := by decide +kernel
theorem dX9_commonDivisor_28 : decode cX9_commonDivisor 28 = .ok (.istore_n 3, 1) := by decide +kernel
theorem dX9_commonDivisor_29 : decode cX9_commonDivisor 29 = .ok (.iinc 4 1, 3) := by decide +kernel
theorem dX9_commonDivisor_32 : decode cX9_commonDivisor 32 = .ok (.goto (-25), 3) := by decide +kernel
theorem dX9_commonDivisor_35 : decode cX9_commonDivisor 35 = .ok (.iload_n 2, 1) := by decide +kernel
theorem dX9_commonDivisor_36 : decode cX9_commonDivisor 36 = .ok (.ifCond .le 7, 3) := by decide +kernel
theorem dX9_commonDivisor_39 : decode cX9_commonDivisor 39 = .ok (.iload_n 2, 1) := by decide +kernel
theorem dX9_commonDivisor_40 : decode cX9_commonDivisor 40 = .ok (.goto 4, 3) := by decide +kernel
theorem dX9_commonDivisor_43 : decode cX9_commonDivisor 43 = .ok (.iconst 1, 1) := by decide +kernel
theorem dX9_commonDivisor_44 : decode cX9_commonDivisor 44 = .ok (.ireturn, 1) := by decide +kernel
theorem sX9_commonDivisor_0 {a1 a2 a3 a4 a5 : Value} {x : Int32} (h : am_R E d mX9_commonDivisor k n 1 [.int x, a1, a2, a3, a4, a5] (.int x :: st) S iv Q) : am_R E d mX9_commonDivisor k n 0 [.int x, a1, a2, a3, a4, a5] st S iv Q := am_iload_n dX9_commonDivisor_0 rfl rfl h
theorem sX9_commonDivisor_1 {a0 a1 a2 a3 a4 a5 : Value} {x : Int32} (h : am_R E d mX9_commonDivisor k n 2 [a0, a1, .int x, a3, a4, a5] st S iv Q) : am_R E d mX9_commonDivisor k n 1 [a0, a1, a2, a3, a4, a5] (.int x :: st) S iv Q := am_istore_n dX9_commonDivisor_1 rfl (by decide) h
theorem sX9_commonDivisor_2 {a0 a2 a3 a4 a5 : Value} {x : Int32} (h : am_R E d mX9_commonDivisor k n 3 [a0, .int x, a2, a3, a4, a5] (.int x :: st) S iv Q) : am_R E d mX9_commonDivisor k n 2 [a0, .int x, a2, a3, a4, a5] st S iv Q := am_iload_n dX9_commonDivisor_2 rfl rfl h
theorem sX9_commonDivisor_3 {a0 a1 a2 a3 a4 a5 : Value} {x : Int32} (h : am_R E d mX9_commonDivisor k n 4 [a0, a1, a2, .int x, a4, a5] st S iv Q) : am_R E d mX9_commonDivisor k n 3 [a0, a1, a2, a3, a4, a5] (.int x :: st) S iv Q := am_istore_n dX9_commonDivisor_3 rfl (by decide) h
theorem sX9_commonDivisor_4 {a0 a1 a2 a3 a4 a5 : Value} (h : am_R E d mX9_commonDivisor k n 5 [a0, a1, a2, a3, a4, a5] (.int 0 :: st) S iv Q) : am_R E d mX9_commonDivisor k n 4 [a0, a1, a2, a3, a4, a5] st S iv Q := am_iconst dX9_commonDivisor_4 (by decide) h
theorem sX9_commonDivisor_5 {a0 a1 a2 a3 a4 a5 : Value} {x : Int32} (h : am_R E d mX9_commonDivisor k n 7 [a0, a1, a2, a3, .int x, a5] st S iv Q) : am_R E d mX9_commonDivisor k n 5 [a0, a1, a2, a3, a4, a5] (.int x :: st) S iv Q := am_istore dX9_commonDivisor_5 (by decide) h
theorem sX9_commonDivisor_7 {a0 a1 a2 a3 a5 : Value} {x : Int32} (h : am_R E d mX9_commonDivisor k n 9 [a0, a1, a2, a3, .int x, a5] (.int x :: st) S iv Q) : am_R E d mX9_commonDivisor k n 7 [a0, a1, a2, a3, .int x, a5] st S iv Q := am_iload dX9_commonDivisor_7 rfl h
theorem sX9_commonDivisor_9 {a0 a1 a2 a3 a4 a5 : Value} (h : am_R E d mX9_commonDivisor k n 12 [a0, a1, a2, a3, a4, a5] (.int 1000 :: st) S iv Q) : am_R E d mX9_commonDivisor k n 9 [a0, a1, a2, a3, a4, a5] st S iv Q := am_sipush dX9_commonDivisor_9 (by decide) h
theorem sX9_commonDivisor_12 {ls : List Value} {x y : Int32} (kt : y ≤ x → am_R E d mX9_commonDivisor k n 35 ls st S iv Q) (kf : ¬ y ≤ x → am_R E d mX9_commonDivisor k n 15 ls st S iv Q) : am_R E d mX9_commonDivisor k n 12 ls (.int y :: .int x :: st) S iv Q := am_icmp_ge dX9_commonDivisor_12 (by decide) kt kf
theorem sX9_commonDivisor_15 {a0 a1 a2 a4 a5 : Value} {x : Int32} (h : am_R E d mX9_commonDivisor k n 16 [a0, a1, a2, .int x, a4, a5] (.int x :: st) S iv Q) : am_R E d mX9_commonDivisor k n 15 [a0, a1, a2, .int x, a4, a5] st S iv Q := am_iload_n dX9_commonDivisor_15 rfl rfl h
theorem sX9_commonDivisor_16 {ls : List Value} {x : Int32} (kt : x ≤ 0 → am_R E d mX9_commonDivisor k n 35 ls st S iv Q) (kf : ¬ x ≤ 0 → am_R E d mX9_commonDivisor k n 19 ls st S iv Q) : am_R E d mX9_commonDivisor k n 16 ls (.int x :: st) S iv Q := am_if_le dX9_commonDivisor_16 (by decide) kt kf
theorem sX9_commonDivisor_19 {a0 a1 a3 a4 a5 : Value} {x : Int32} (h : am_R E d mX9_commonDivisor k n 20 [a0, a1, .int x, a3, a4, a5] (.int x :: st) S iv Q) : am_R E d mX9_commonDivisor k n 19 [a0, a1, .int x, a3, a4, a5] st S iv Q := am_iload_n dX9_commonDivisor_19 rfl rfl h
theorem sX9_commonDivisor_20 {a0 a1 a2 a4 a5 : Value} {x : Int32} (h : am_R E d mX9_commonDivisor k n 21 [a0, a1, a2, .int x, a4, a5] (.int x :: st) S iv Q) : am_R E d mX9_commonDivisor k n 20 [a0, a1, a2, .int x, a4, a5] st S iv Q := am_iload_n dX9_commonDivisor_20 rfl rfl h
theorem sX9_commonDivisor_21 {ls : List Value} {x y : Int32} (hy : ¬ y = 0) (h : am_R E d mX9_commonDivisor k n 22 ls (.int (x - x / y * y) :: st) S iv Q) : am_R E d mX9_commonDivisor k n 21 ls (.int y :: .int x :: st) S iv Q := am_irem dX9_commonDivisor_21 hy h
theorem sX9_commonDivisor_22 {a0 a1 a2 a3 a4 a5 : Value} {x : Int32} (h : am_R E d mX9_commonDivisor k n 24 [a0, a1, a2, a3, a4, .int x] st S iv Q) : am_R E d mX9_commonDivisor k n 22 [a0, a1, a2, a3, a4, a5] (.int x :: st) S iv Q := am_istore dX9_commonDivisor_22 (by decide) h
theorem sX9_commonDivisor_24 {a0 a1 a2 a4 a5 : Value} {x : Int32} (h : am_R E d mX9_commonDivisor k n 25 [a0, a1, a2, .int x, a4, a5] (.int x :: st) S iv Q) : am_R E d mX9_commonDivisor k n 24 [a0, a1, a2, .int x, a4, a5] st S iv Q := am_iload_n dX9_commonDivisor_24 rfl rfl h
theorem sX9_commonDivisor_25 {a0 a1 a2 a3 a4 a5 : Value} {x : Int32} (h : am_R E d mX9_commonDivisor k n 26 [a0, a1, .int x, a3, a4, a5] st S iv Q) : am_R E d mX9_commonDivisor k n 25 [a0, a1, a2, a3, a4, a5] (.int x :: st) S iv Q := am_istore_n dX9_commonDivisor_25 rfl (by decide) h
theorem sX9_commonDivisor_26 {a0 a1 a2 a3 a4 : Value} {x : Int32} (h : am_R E d mX9_commonDivisor k n 28 [a0, a1, a2, a3, a4, .int x] (.int x :: st) S iv Q) : am_R E d mX9_commonDivisor k n 26 [a0, a1, a2, a3, a4, .int x] st S iv Q := am_iload dX9_commonDivisor_26 rfl h
theorem sX9_commonDivisor_28 {a0 a1 a2 a3 a4 a5 : Value} {x : Int32} (h : am_R E d mX9_commonDivisor k n 29 [a0, a1, a2, .int x, a4, a5] st S iv Q) : am_R E d mX9_commonDivisor k n 28 [a0, a1, a2, a3, a4, a5] (.int x :: st) S iv Q := am_istore_n dX9_commonDivisor_28 rfl (by decide) h
theorem sX9_commonDivisor_29 {a0 a1 a2 a3 a5 : Value} {x : Int32} (h : am_R E d mX9_commonDivisor k n 32 [a0, a1, a2, a3, .int (x + 1), a5] st S iv Q) : am_R E d mX9_commonDivisor k n 29 [a0, a1, a2, a3, .int x, a5] st S iv Q := am_iinc dX9_commonDivisor_29 rfl rfl (by decide) h
theorem sX9_commonDivisor_32 {ls : List Value} (h : am_R E d mX9_commonDivisor k n 7 ls st S iv Q) : am_R E d mX9_commonDivisor k n 32 ls st S iv Q := am_goto dX9_commonDivisor_32 (by decide) h
theorem sX9_commonDivisor_35 {a0 a1 a3 a4 a5 : Value} {x : Int32} (h : am_R E d mX9_commonDivisor k n 36 [a0, a1, .int x, a3, a4, a5] (.int x :: st) S iv Q) : am_R E d mX9_commonDivisor k n 35 [a0, a1, .int x, a3, a4, a5] st S iv Q := am_iload_n dX9_commonDivisor_35 rfl rfl h
theorem sX9_commonDivisor_36 {ls : List Value} {x : Int32} (kt : x ≤ 0 → am_R E d mX9_commonDivisor k n 43 ls st S iv Q) (kf : ¬ x ≤ 0 → am_R E d mX9_commonDivisor k n 39 ls st S iv Q) : am_R E d mX9_commonDivisor k n 36 ls (.int x :: st) S iv Q := am_if_le dX9_commonDivisor_36 (by decide) kt kf
theorem sX9_commonDivisor_39 {a0 a1 a3 a4 a5 : Value} {x : Int32} (h : am_R E d mX9_commonDivisor k n 40 [a0, a1, .int x, a3, a4, a5] (.int x :: st) S iv Q) : am_R E d mX9_commonDivisor k n 39 [a0, a1, .int x, a3, a4, a5] st S iv Q := am_iload_n dX9_commonDivisor_39 rfl rfl h
theorem sX9_commonDivisor_40 {ls : List Value} (h : am_R E d mX9_commonDivisor k n 44 ls st S iv Q) : am_R E d mX9_commonDivisor k n 40 ls st S iv Q := am_goto dX9_commonDivisor_40 (by decide) h
theorem sX9_commonDivisor_43 {a0 a1 a2 a3 a4 a5 : Value} (h : am_R E d mX9_commonDivisor k n 44 [a0, a1, a2, a3, a4, a5] (.int 1 :: st) S iv Q) : am_R E d mX9_commonDivisor k n 43 [a0, a1, a2, a3, a4, a5] st S iv Q := am_iconst dX9_commonDivisor_43 (by decide) h
theorem sX9_commonDivisor_44 {ls : List Value} {x : Int32} (h : Q (.inl (some (.int x))) S iv) : am_R E d mX9_commonDivisor k n 44 ls [.int x] S iv Q := am_ireturn dX9_commonDivisor_44 rfl h
theorem dX9_image_0 : decode cX9_image 0 = .ok (.aload_n 0, 1) := by decide +kernel
theorem dX9_image_1 : decode cX9_image 1 = .ok (.getfield 34, 3) := by decide +kernel
theorem dX9_image_4 : decode cX9_image 4 = .ok (.aload_n 0, 1) := by decide +kernel
theorem dX9_image_5 : decode cX9_image 5 = .ok (.getfield 30, 3) := by decide +kernel
theorem dX9_image_8 : decode cX9_image 8 = .ok (.invokevirtual 293, 3) := by decide +kernel
theorem dX9_image_11 : decode cX9_image 11 = .ok (.aload_n 0, 1) := by decide +kernel
theorem dX9_image_12 : decode cX9_image 12 = .ok (.iconst 1, 1) := by decide +kernel
theorem dX9_image_13 : decode cX9_image 13 = .ok (.putfield 92, 3) := by decide +kernel
theorem dX9_image_16 : decode cX9_image 16 = .ok (.return_, 1) := by decide +kernel
theorem sX9_image_0 {a0 : Value} (hv : am_rf a0 = true) (h : am_R E d mX9_image k n 1 [a0] (a0 :: st) S iv Q) : am_R E d mX9_image k n 0 [a0] st S iv Q := am_aload_n dX9_image_0 rfl rfl hv h
theorem sX9_image_1 {ls : List Value} {a b : Nat} (ha : S.1 a = some (.inl 9)) (hb : S.2.1 a 6 = some b) (h : am_R E d mX9_image k n 4 ls (.ref b :: st) S iv Q) : am_R E d mX9_image k n 1 ls (.ref a :: st) S iv Q := am_getR (ci := 9) dX9_image_1 rfl rfl (by decide) wq_570 uq_9 rfl ha hb h
theorem sX9_image_4 {a0 : Value} (hv : am_rf a0 = true) (h : am_R E d mX9_image k n 5 [a0] (a0 :: st) S iv Q) : am_R E d mX9_image k n 4 [a0] st S iv Q := am_aload_n dX9_image_4 rfl rfl hv h
theorem sX9_image_5 {ls : List Value} {a b : Nat} (ha : S.1 a = some (.inl 9)) (hb : S.2.1 a 5 = some b) (h : am_R E d mX9_image k n 8 ls (.ref b :: st) S iv Q) : am_R E d mX9_image k n 5 ls (.ref a :: st) S iv Q := am_getR (ci := 9) dX9_image_5 rfl rfl (by decide) wq_569 uq_9 rfl ha hb h
theorem sX9_image_8 {ls : List Value} {x1 : Value} {a : Nat} (ha : S.1 a = some (.inl 7)) (hst : (st.map fun v => v.category).sum ≤ 8) (hM : am_M E d mX7_copyFrom 0 0 [.ref a, x1] S iv (am_K3 E (d + 1) mX9_image k n 8 ls st Q)) : am_R E (d + 1) mX9_image k n 8 ls (x1 :: .ref a :: st) S iv Q := am_cV (ci := 7) (M' := mX7_copyFrom) (as := [x1]) dX9_image_8 rfl rfl rfl wq_764 wq_765 wq_766 wq_565 wq_762 hy_X7_copyFrom (by decide) ha hst (by omega) (by omega) hM
theorem sX9_image_8_k {ls : List Value} {x1 : Value} {k' n' : Nat} {a : Nat} (ha : S.1 a = some (.inl 7)) (hst : (st.map fun v => v.category).sum ≤ 8) (hM : am_M E d mX7_copyFrom k' n' [.ref a, x1] S iv (am_K3 E (d + 1) mX9_image k n 8 ls st Q)) : am_R E (d + 1) mX9_image (k' + k) (n' + n) 8 ls (x1 :: .ref a :: st) S iv Q := am_cV (ci := 7) (M' := mX7_copyFrom) (as := [x1]) dX9_image_8 rfl rfl rfl wq_764 wq_765 wq_766 wq_565 wq_762 hy_X7_copyFrom (by decide) ha hst (by omega) (by omega) hM
theorem sX9_image_11 {a0 : Value} (hv : am_rf a0 = true) (h : am_R E d mX9_image k n 12 [a0] (a0 :: st) S iv Q) : am_R E d mX9_image k n 11 [a0] st S iv Q := am_aload_n dX9_image_11 rfl rfl hv h
theorem sX9_image_12 {a0 : Value} (h : am_R E d mX9_image k n 13 [a0] (.int 1 :: st) S iv Q) : am_R E d mX9_image k n 12 [a0] st S iv Q := am_iconst dX9_image_12 (by decide) h
theorem sX9_image_13 {ls : List Value} {a : Nat} {x : Int32} (ha : S.1 a = some (.inl 9)) (hx : x = 0 ∨ x = 1) (h : am_R E d mX9_image k n 16 ls st S (am_w iv a 7 x) Q) : am_R E d mX9_image k n 13 ls (.int x :: .ref a :: st) S iv Q := am_putZ (ci := 9) dX9_image_13 rfl rfl (by decide) wq_622 uq_9 tyX9_ok nmX9 (Or.inl rfl) rfl hx ha h
theorem sX9_image_16 {ls : List Value} (h : Q (.inl none) S iv) : am_R E d mX9_image k n 16 ls [] S iv Q := am_return dX9_image_16 rfl h
theorem dX9_restore_0 : decode cX9_restore 0 = .ok (.aload_n 0, 1) := by decide +kernel
theorem dX9_restore_1 : decode cX9_restore 1 = .ok (.getfield 92, 3) := by decide +kernel
theorem dX9_restore_4 : decode cX9_restore 4 = .ok (.ifCond .eq 14, 3) := by decide +kernel
theorem dX9_restore_7 : decode cX9_restore 7 = .ok (.aload_n 0, 1) := by decide +kernel
theorem dX9_restore_8 : decode cX9_restore 8 = .ok (.getfield 30, 3) := by decide +kernel
theorem dX9_restore_11 : decode cX9_restore 11 = .ok (.aload_n 0, 1) := by decide +kernel
theorem dX9_restore_12 : decode cX9_restore 12 = .ok (.getfield 34, 3) := by decide +kernel
theorem dX9_restore_15 : decode cX9_restore 15 = .ok (.invokevirtual 293, 3) := by decide +kernel
theorem dX9_restore_18 : decode cX9_restore 18 = .ok (.aload_n 0, 1) := by decide +kernel
theorem dX9_restore_19 : decode cX9_restore 19 = .ok (.getfield 92, 3) := by decide +kernel
theorem dX9_restore_22 : decode cX9_restore 22 = .ok (.ireturn, 1) := by decide +kernel
theorem sX9_restore_0 {a0 : Value} (hv : am_rf a0 = true) (h : am_R E d mX9_restore k n 1 [a0] (a0 :: st) S iv Q) : am_R E d mX9_restore k n 0 [a0] st S iv Q := am_aload_n dX9_restore_0 rfl rfl hv h
theorem sX9_restore_1 {ls : List Value} {a : Nat} (ha : S.1 a = some (.inl 9)) (h : am_R E d mX9_restore k n 4 ls (.int (iv a 7) :: st) S iv Q) : am_R E d mX9_restore k n 1 ls (.ref a :: st) S iv Q := am_getI (ci := 9) dX9_restore_1 rfl rfl (by decide) wq_622 uq_9 rfl ha h
theorem sX9_restore_4 {ls : List Value} {x : Int32} (kt : x = 0 → am_R E d mX9_restore k n 18 ls st S iv Q) (kf : ¬ x = 0 → am_R E d mX9_restore k n 7 ls st S iv Q) : am_R E d mX9_restore k n 4 ls (.int x :: st) S iv Q := am_if_eq dX9_restore_4 (by decide) kt kf
theorem sX9_restore_7 {a0 : Value} (hv : am_rf a0 = true) (h : am_R E d mX9_restore k n 8 [a0] (a0 :: st) S iv Q) : am_R E d mX9_restore k n 7 [a0] st S iv Q := am_aload_n dX9_restore_7 rfl rfl hv h
theorem sX9_restore_8 {ls : List Value} {a b : Nat} (ha : S.1 a = some (.inl 9)) (hb : S.2.1 a 5 = some b) (h : am_R E d mX9_restore k n 11 ls (.ref b :: st) S iv Q) : am_R E d mX9_restore k n 8 ls (.ref a :: st) S iv Q := am_getR (ci := 9) dX9_restore_8 rfl rfl (by decide) wq_569 uq_9 rfl ha hb h
theorem sX9_restore_11 {a0 : Value} (hv : am_rf a0 = true) (h : am_R E d mX9_restore k n 12 [a0] (a0 :: st) S iv Q) : am_R E d mX9_restore k n 11 [a0] st S iv Q := am_aload_n dX9_restore_11 rfl rfl hv h
theorem sX9_restore_12 {ls : List Value} {a b : Nat} (ha : S.1 a = some (.inl 9)) (hb : S.2.1 a 6 = some b) (h : am_R E d mX9_restore k n 15 ls (.ref b :: st) S iv Q) : am_R E d mX9_restore k n 12 ls (.ref a :: st) S iv Q := am_getR (ci := 9) dX9_restore_12 rfl rfl (by decide) wq_570 uq_9 rfl ha hb h
theorem sX9_restore_15 {ls : List Value} {x1 : Value} {a : Nat} (ha : S.1 a = some (.inl 7)) (hst : (st.map fun v => v.category).sum ≤ 8) (hM : am_M E d mX7_copyFrom 0 0 [.ref a, x1] S iv (am_K3 E (d + 1) mX9_restore k n 15 ls st Q)) : am_R E (d + 1) mX9_restore k n 15 ls (x1 :: .ref a :: st) S iv Q := am_cV (ci := 7) (M' := mX7_copyFrom) (as := [x1]) dX9_restore_15 rfl rfl rfl wq_764 wq_765 wq_766 wq_565 wq_762 hy_X7_copyFrom (by decide) ha hst (by omega) (by omega) hM
theorem sX9_restore_15_k {ls : List Value} {x1 : Value} {k' n' : Nat} {a : Nat} (ha : S.1 a = some (.inl 7)) (hst : (st.map fun v => v.category).sum ≤ 8) (hM : am_M E d mX7_copyFrom k' n' [.ref a, x1] S iv (am_K3 E (d + 1) mX9_restore k n 15 ls st Q)) : am_R E (d + 1) mX9_restore (k' + k) (n' + n) 15 ls (x1 :: .ref a :: st) S iv Q := am_cV (ci := 7) (M' := mX7_copyFrom) (as := [x1]) dX9_restore_15 rfl rfl rfl wq_764 wq_765 wq_766 wq_565 wq_762 hy_X7_copyFrom (by decide) ha hst (by omega) (by omega) hM
theorem sX9_restore_18 {a0 : Value} (hv : am_rf a0 = true) (h : am_R E d mX9_restore k n 19 [a0] (a0 :: st) S iv Q) : am_R E d mX9_restore k n 18 [a0] st S iv Q := am_aload_n dX9_restore_18 rfl rfl hv h
theorem sX9_restore_19 {ls : List Value} {a : Nat} (ha : S.1 a = some (.inl 9)) (h : am_R E d mX9_restore k n 22 ls (.int (iv a 7) :: st) S iv Q) : am_R E d mX9_restore k n 19 ls (.ref a :: st) S iv Q := am_getI (ci := 9) dX9_restore_19 rfl rfl (by decide) wq_622 uq_9 rfl ha h
theorem sX9_restore_22 {ls : List Value} {x : Int32} (hn : narrow .boolean (.int x) = .int x) (h : Q (.inl (some (.int x))) S iv) : am_R E d mX9_restore k n 22 ls [.int x] S iv Q := am_zreturn dX9_restore_22 rfl hn h
end R13_X9
