/-! the JDK's methods: Math, Integer.bitCount, Arrays.fill, String on constants -/
/-- how many of ten bits -/
def cy_pc (s : Nat) : Nat := s % 2 + s / 2 % 2 + s / 4 % 2 + s / 8 % 2 + s / 16 % 2 + s / 32 % 2 + s / 64 % 2 + s / 128 % 2 + s / 256 % 2 + s / 512 % 2
def am_us (x : Int32) (y : Int32) : Int32 := (x.toUInt32 >>> (y.toUInt32 &&& Int32.toUInt32 31)).toInt32
def am_b1 (x : Int32) : Int32 := x - (am_us x 1 &&& 1431655765)
def am_b2 (x : Int32) : Int32 := (x &&& 858993459) + (am_us x 2 &&& 858993459)
def am_b3 (x : Int32) : Int32 := (x + am_us x 4) &&& 252645135
def am_b4 (x : Int32) : Int32 := x + am_us x 8
def am_b5 (x : Int32) : Int32 := x + am_us x 16
theorem am_bc : ∀ s, s < 1024 → am_b5 (am_b4 (am_b3 (am_b2 (am_b1 (nI s))))) &&& 63 = nI (cy_pc s) := by decide +kernel
theorem am_u32 : ∀ j, j < 58 → (UInt32.ofNat j).toNat = j := by decide +kernel
theorem am_byl : am_by.length = 58 := by decide +kernel
theorem am_bysm : ∀ j, j < 58 → (am_by.getD j []).length < 100 := by decide +kernel
theorem am_chr : ∀ j, j < 58 → ∀ k, k < (am_by.getD j []).length → ((((am_by.getD j []).getD k 0) &&& 255).toUInt32 % 65536).toInt32 = (am_by.getD j []).getD k 0 ∧ narrow .char (.int ((am_by.getD j []).getD k 0)) = .int ((am_by.getD j []).getD k 0) := by decide +kernel
section B17
variable {E : am_E} {d k n : Nat} {S : am_S} {iv : am_I} {Q : am_O → am_S → am_I → Prop}
theorem pf_max : plainFor yJ9_max_7cf53 = true := by decide +kernel
theorem pf_min : plainFor yJ9_min_7cf53 = true := by decide +kernel
theorem pf_abs : plainFor yJ9_abs_0f7a4 = true := by decide +kernel
theorem pf_bc : plainFor yJ6_bitCount_0f7a4 = true := by decide +kernel
theorem pf_fill : plainFor yJ7_fill_53178 = true := by decide +kernel
theorem pf_len : plainFor yJ0_length_8abf5 = true := by decide +kernel
theorem pf_cod : plainFor yJ0_coder_7d493 = true := by decide +kernel
theorem pf_lat : plainFor yJ0_isLatin1_aae02 = true := by decide +kernel
theorem pf_chr : plainFor yJ0_charAt_5068e = true := by decide +kernel
theorem pf_chr1 : plainFor yJ1_charAt_3b067 = true := by decide +kernel
theorem pf_ck : plainFor yJ0_checkIndex_df160 = true := by decide +kernel
theorem pf_ck3 : plainFor yJ3_checkIndex_8e157 = true := by decide +kernel
theorem pf_ix1 : plainFor yJ0_indexOf_0f7a4 = true := by decide +kernel
theorem pf_ix2 : plainFor yJ0_indexOf_7cf53 = true := by decide +kernel
theorem pf_ix3 : plainFor yJ1_indexOf_4cfef = true := by decide +kernel
theorem pf_ix4 : plainFor yJ1_indexOfChar_4cfef = true := by decide +kernel
theorem pf_can : plainFor yJ1_canEncode_9a6ad = true := by decide +kernel
theorem J_max {x y : Int32} (h : Q (.inl (some (.int (if x < y then y else x)))) S iv) : am_M E d mJ9_max_7cf53 0 0 [.int x, .int y] S iv Q := by
  refine am_enterF (js := []) rfl pf_max rfl rfl rfl (Nat.le_of_ble_eq_true rfl) ?_
  refine (sJ9_max_7cf53_0 (sJ9_max_7cf53_1 ?_))
  refine sJ9_max_7cf53_2 (fun e2 => ?_) (fun e2 => ?_)
  · refine (sJ9_max_7cf53_9 (sJ9_max_7cf53_10 ?_))
    simpa [*] using h
  · refine (sJ9_max_7cf53_5 (sJ9_max_7cf53_6 (sJ9_max_7cf53_10 ?_)))
    simpa [*] using h
theorem J_min {x y : Int32} (h : Q (.inl (some (.int (if y < x then y else x)))) S iv) : am_M E d mJ9_min_7cf53 0 0 [.int x, .int y] S iv Q := by
  refine am_enterF (js := []) rfl pf_min rfl rfl rfl (Nat.le_of_ble_eq_true rfl) ?_
  refine (sJ9_min_7cf53_0 (sJ9_min_7cf53_1 ?_))
  refine sJ9_min_7cf53_2 (fun e2 => ?_) (fun e2 => ?_)
  · refine (sJ9_min_7cf53_9 (sJ9_min_7cf53_10 ?_))
    simpa [*] using h
  · refine (sJ9_min_7cf53_5 (sJ9_min_7cf53_6 (sJ9_min_7cf53_10 ?_)))
    simpa [*] using h
theorem J_abs {x : Int32} (h : Q (.inl (some (.int (if 0 ≤ x then x else -x)))) S iv) : am_M E d mJ9_abs_0f7a4 0 0 [.int x] S iv Q := by
  refine am_enterF (js := []) rfl pf_abs rfl rfl rfl (Nat.le_of_ble_eq_true rfl) ?_
  refine (sJ9_abs_0f7a4_0 ?_)
  refine sJ9_abs_0f7a4_1 (fun e1 => ?_) (fun e1 => ?_)
  · refine (sJ9_abs_0f7a4_9 (sJ9_abs_0f7a4_10 ?_))
    simpa [*] using h
  · refine (sJ9_abs_0f7a4_4 (sJ9_abs_0f7a4_5 (sJ9_abs_0f7a4_6 (sJ9_abs_0f7a4_10 ?_))))
    simpa [*] using h
def am_bcI (x : Int32) : Int32 := am_b5 (am_b4 (am_b3 (am_b2 (am_b1 x)))) &&& 63
theorem J_bcI {x : Int32} (h : Q (.inl (some (.int (am_bcI x)))) S iv) : am_M E d mJ6_bitCount_0f7a4 0 0 [.int x] S iv Q := by
  refine am_enterF (js := []) rfl pf_bc rfl rfl rfl (Nat.le_of_ble_eq_true rfl) ?_
  refine (sJ6_bitCount_0f7a4_0 (sJ6_bitCount_0f7a4_1 (sJ6_bitCount_0f7a4_2 (sJ6_bitCount_0f7a4_3 (sJ6_bitCount_0f7a4_4 (sJ6_bitCount_0f7a4_7 (sJ6_bitCount_0f7a4_8 (sJ6_bitCount_0f7a4_9 (sJ6_bitCount_0f7a4_10 (sJ6_bitCount_0f7a4_11 (sJ6_bitCount_0f7a4_14 (sJ6_bitCount_0f7a4_15 (sJ6_bitCount_0f7a4_16 (sJ6_bitCount_0f7a4_17 (sJ6_bitCount_0f7a4_18 (sJ6_bitCount_0f7a4_21 (sJ6_bitCount_0f7a4_22 (sJ6_bitCount_0f7a4_23 (sJ6_bitCount_0f7a4_24 (sJ6_bitCount_0f7a4_25 (sJ6_bitCount_0f7a4_26 (sJ6_bitCount_0f7a4_27 (sJ6_bitCount_0f7a4_28 (sJ6_bitCount_0f7a4_29 (sJ6_bitCount_0f7a4_32 (sJ6_bitCount_0f7a4_33 (sJ6_bitCount_0f7a4_34 (sJ6_bitCount_0f7a4_35 (sJ6_bitCount_0f7a4_36 (sJ6_bitCount_0f7a4_38 (sJ6_bitCount_0f7a4_39 (sJ6_bitCount_0f7a4_40 (sJ6_bitCount_0f7a4_41 (sJ6_bitCount_0f7a4_42 (sJ6_bitCount_0f7a4_43 (sJ6_bitCount_0f7a4_45 (sJ6_bitCount_0f7a4_46 (sJ6_bitCount_0f7a4_47 (sJ6_bitCount_0f7a4_48 (sJ6_bitCount_0f7a4_49 (sJ6_bitCount_0f7a4_51 (sJ6_bitCount_0f7a4_52 ?_))))))))))))))))))))))))))))))))))))))))))
  exact h
theorem J_bc {s : Nat} (hs : s < 1024) (h : Q (.inl (some (.int (nI (cy_pc s))))) S iv) : am_M E d mJ6_bitCount_0f7a4 0 0 [.int (nI s)] S iv Q := by
  refine am_enterF (js := []) rfl pf_bc rfl rfl rfl (Nat.le_of_ble_eq_true rfl) ?_
  rw [← am_bc s hs] at h
  refine (sJ6_bitCount_0f7a4_0 (sJ6_bitCount_0f7a4_1 (sJ6_bitCount_0f7a4_2 (sJ6_bitCount_0f7a4_3 (sJ6_bitCount_0f7a4_4 (sJ6_bitCount_0f7a4_7 (sJ6_bitCount_0f7a4_8 (sJ6_bitCount_0f7a4_9 (sJ6_bitCount_0f7a4_10 (sJ6_bitCount_0f7a4_11 (sJ6_bitCount_0f7a4_14 (sJ6_bitCount_0f7a4_15 (sJ6_bitCount_0f7a4_16 (sJ6_bitCount_0f7a4_17 (sJ6_bitCount_0f7a4_18 (sJ6_bitCount_0f7a4_21 (sJ6_bitCount_0f7a4_22 (sJ6_bitCount_0f7a4_23 (sJ6_bitCount_0f7a4_24 (sJ6_bitCount_0f7a4_25 (sJ6_bitCount_0f7a4_26 (sJ6_bitCount_0f7a4_27 (sJ6_bitCount_0f7a4_28 (sJ6_bitCount_0f7a4_29 (sJ6_bitCount_0f7a4_32 (sJ6_bitCount_0f7a4_33 (sJ6_bitCount_0f7a4_34 (sJ6_bitCount_0f7a4_35 (sJ6_bitCount_0f7a4_36 (sJ6_bitCount_0f7a4_38 (sJ6_bitCount_0f7a4_39 (sJ6_bitCount_0f7a4_40 (sJ6_bitCount_0f7a4_41 (sJ6_bitCount_0f7a4_42 (sJ6_bitCount_0f7a4_43 (sJ6_bitCount_0f7a4_45 (sJ6_bitCount_0f7a4_46 (sJ6_bitCount_0f7a4_47 (sJ6_bitCount_0f7a4_48 (sJ6_bitCount_0f7a4_49 (sJ6_bitCount_0f7a4_51 (sJ6_bitCount_0f7a4_52 ?_))))))))))))))))))))))))))))))))))))))))))
  exact h
theorem J_fill {a m : Nat} {x : Int32} (ha : S.1 a = some (.inr (.int, m))) (hm : m < 65536) (h : Q (.inl none) S (fun b => if b = a then (fun i => if i < m then x else iv a i) else iv b)) : am_M E d mJ7_fill_53178 0 0 [.ref a, .int x] S iv Q := by
  refine am_enterF (js := [.double 0, .double 0]) rfl pf_fill rfl rfl rfl (Nat.le_of_ble_eq_true rfl) ?_
  refine (sJ7_fill_53178_0 (sJ7_fill_53178_1 (sJ7_fill_53178_2 rfl (sJ7_fill_53178_3 (by assumption) rfl (sJ7_fill_53178_4 ?_)))))
  have loop : ∀ r i, i + r = m → ∀ iv' : am_I, (iv' = fun b => if b = a then (fun q => if q < i then x else iv a q) else iv b) → am_R E d mJ7_fill_53178 0 0 5 [.ref a, .int x, .int (nI i), .int (nI m)] [] S iv' Q := by
    intro r
    induction r with
    | zero =>
      intro i hi iv' hv
      refine (sJ7_fill_53178_5 (sJ7_fill_53178_6 ?_))
      refine sJ7_fill_53178_7 (fun e => ?_) (fun e => ?_)
      · refine (sJ7_fill_53178_20 ?_)
        have e2 : i = m := by omega
        rw [hv, e2]
        exact h
      · rw [am_le (by omega) (by omega)] at e
        omega
    | succ r ih =>
      intro i hi iv' hv
      refine (sJ7_fill_53178_5 (sJ7_fill_53178_6 ?_))
      refine sJ7_fill_53178_7 (fun e => ?_) (fun e => ?_)
      · rw [am_le (by omega) (by omega)] at e
        omega
      · refine (sJ7_fill_53178_10 rfl (sJ7_fill_53178_11 (sJ7_fill_53178_12 (sJ7_fill_53178_13 (by assumption) (am_vin (by omega) (by omega)) (sJ7_fill_53178_14 (sJ7_fill_53178_17 ?_))))))
        rw [nI_1, am_cl (by omega)]
        refine ih (i + 1) (by omega) _ ?_
        funext b
        rw [hv]
        by_cases eb : b = a
        · subst eb
          funext q
          simp only [am_w, if_true, upd]
          by_cases e3 : q = i
          · subst e3; simp
          · simp only [e3, if_false]
            by_cases e4 : q < i
            · simp [e4, Nat.lt_succ_of_lt e4]
            · simp [e4, show ¬ q < i + 1 by omega]
        · simp [am_w, eb]
  exact loop m 0 (by omega) iv (by
    funext b
    by_cases eb : b = a
    · subst eb; simp
    · simp [eb])
theorem S_coder {j : Nat} (hj : j < am_by.length) (h : Q (.inl (some (.int 0))) S iv) : am_M E d mJ0_coder_7d493 0 0 [.retAddr j] S iv Q := by
  refine am_enterF (js := []) rfl pf_cod rfl rfl rfl (Nat.le_of_ble_eq_true rfl) ?_
  refine (sJ0_coder_7d493_0 ?_)
  refine sJ0_coder_7d493_3 (fun e => absurd e (by decide)) (fun e => ?_)
  refine sJ0_coder_7d493_6 rfl (sJ0_coder_7d493_7 hj (sJ0_coder_7d493_10 (sJ0_coder_7d493_14 rfl h)))
theorem S_lat {j : Nat} (hj : j < am_by.length) (h : Q (.inl (some (.int 1))) S iv) : am_M E d mJ0_isLatin1_aae02 0 0 [.retAddr j] S iv Q := by
  refine am_enterF (js := []) rfl pf_lat rfl rfl rfl (Nat.le_of_ble_eq_true rfl) ?_
  refine (sJ0_isLatin1_aae02_0 ?_)
  refine sJ0_isLatin1_aae02_3 (fun e => absurd e (by decide)) (fun e => ?_)
  refine sJ0_isLatin1_aae02_6 rfl (sJ0_isLatin1_aae02_7 hj ?_)
  refine sJ0_isLatin1_aae02_10 (fun e => absurd rfl e) (fun e => ?_)
  refine sJ0_isLatin1_aae02_13 (sJ0_isLatin1_aae02_14 (sJ0_isLatin1_aae02_18 rfl h))
theorem S_len {j : Nat} (hj : j < am_by.length) (h : Q (.inl (some (.int (nI (am_by.getD j []).length)))) S iv) : am_M E (d + 1) mJ0_length_8abf5 0 0 [.retAddr j] S iv Q := by
  have hj' : j < 58 := by rw [← am_byl]; exact hj
  have eu := am_u32 j hj'
  have hsm := am_bysm j hj'
  refine am_enterF (js := []) rfl pf_len rfl rfl rfl (Nat.le_of_ble_eq_true rfl) ?_
  refine sJ0_length_8abf5_0 rfl (sJ0_length_8abf5_1 hj (u := UInt32.ofNat j) eu (sJ0_length_8abf5_4 (by rw [eu]; exact hj) (sJ0_length_8abf5_5 rfl (sJ0_length_8abf5_6 hj (Nat.le_of_ble_eq_true rfl) (S_coder hj ?_)))))
  refine sJ0_length_8abf5_9 (sJ0_length_8abf5_10 ?_)
  rw [eu]
  have e9 : Int32.ofNat (am_by.getD j []).length >>> ((0 : Int32) &&& 31) = nI (am_by.getD j []).length := sc_shr0 (by omega)
  rw [e9]
  exact h
theorem S_ck3 {i j : Int32} (h0 : ¬ i < 0) (h1 : i < j) (h : Q (.inl (some (.int i))) S iv) : am_R E d mJ3_checkIndex_8e157 0 0 0 [.int i, .int j, .double 0] [] S iv Q := by
  refine (sJ3_checkIndex_8e157_0 ?_)
  refine sJ3_checkIndex_8e157_1 (fun e => absurd e h0) (fun e => ?_)
  refine (sJ3_checkIndex_8e157_4 (sJ3_checkIndex_8e157_5 ?_))
  refine sJ3_checkIndex_8e157_6 (fun e => ?_) (fun e => absurd h1 e)
  refine (sJ3_checkIndex_8e157_16 (sJ3_checkIndex_8e157_17 ?_))
  exact h
theorem wq_ck0 : Cond.fieldLink RJ0 1053 "jdk/internal/util/Preconditions" "SIOOBE_FORMATTER" "Ljava/util/function/BiFunction;" ∈ am_gw := am_i3 202 rfl rfl
theorem wq_ck1 : Cond.methodLink RJ0 1059 yJ3_checkIndex_8e157 ∈ am_gw := am_i4 21 rfl rfl
theorem wq_ck2 : Cond.static yJ3_checkIndex_8e157 ∈ am_gw := am_i4 22 rfl rfl
theorem wq_ck3 : am_code mJ3_checkIndex_8e157 ∈ am_gw := am_i4 23 rfl rfl
theorem wq_ck4 : Cond.initialized RJ3 ∈ am_gw := am_i1 20 rfl rfl
theorem hy_ck : yJ3_checkIndex_8e157.cls ≠ "java/lang/invoke/MethodHandle" ∧ yJ3_checkIndex_8e157.cls ≠ "java/lang/invoke/VarHandle" ∧ (parseMethodDescriptor yJ3_checkIndex_8e157.desc).map (fun d => d.parameters.length) = some 3 := ⟨by decide +kernel, by decide +kernel, by decide +kernel⟩
theorem S_ck {i j : Int32} (h0 : ¬ i < 0) (h1 : i < j) (h : Q (.inl none) S iv) : am_M E (d + 1) mJ0_checkIndex_df160 0 0 [.int i, .int j] S iv Q := by
  refine am_enterF (js := []) rfl pf_ck rfl rfl rfl (Nat.le_of_ble_eq_true rfl) ?_
  refine sJ0_checkIndex_df160_0 (sJ0_checkIndex_df160_1 ?_)
  refine am_ckS (M' := mJ3_checkIndex_8e157) dJ0_checkIndex_df160_2 dJ0_checkIndex_df160_5 wq_ck0 rfl wq_ck1 wq_ck2 wq_ck4 wq_ck3 hy_ck (by decide) (Nat.le_of_ble_eq_true rfl) (fun v hv => am_enterX hv rfl pf_ck3 rfl rfl (S_ck3 h0 h1 ⟨rfl, rfl, rfl⟩)) ?_
  refine sJ0_checkIndex_df160_8 rfl (sJ0_checkIndex_df160_9 h)
theorem S_chr1 {j k : Nat} (hj : j < am_by.length) (hk : k < (am_by.getD j []).length) (h : Q (.inl (some (.int ((am_by.getD j []).getD k 0)))) S iv) : am_M E (d + 2) mJ1_charAt_3b067 0 0 [.float (UInt32.ofNat j), .int (nI k)] S iv Q := by
  have hj' : j < 58 := by rw [← am_byl]; exact hj
  have eu := am_u32 j hj'
  have hsm := am_bysm j hj'
  obtain ⟨c1, c2⟩ := am_chr j hj' k hk
  refine am_enterF (js := []) rfl pf_chr1 rfl rfl rfl (Nat.le_of_ble_eq_true rfl) ?_
  refine sJ1_charAt_3b067_0 (sJ1_charAt_3b067_1 rfl (sJ1_charAt_3b067_2 (by rw [eu]; exact hj) (sJ1_charAt_3b067_3 (Nat.le_of_ble_eq_true rfl) (S_ck (nI_pos (by omega)) (by rw [eu]; exact nI_lt hk (by omega)) ?_))))
  refine sJ1_charAt_3b067_6 rfl (sJ1_charAt_3b067_7 (sJ1_charAt_3b067_8 (by rw [eu]; exact hj) (by rw [eu]; exact am_vin hk (by omega)) (sJ1_charAt_3b067_9 (sJ1_charAt_3b067_12 (sJ1_charAt_3b067_13 ?_)))))
  rw [eu, am_cl (by omega), c1]
  exact sJ1_charAt_3b067_14 c2 h
theorem S_chr {j k : Nat} (hj : j < am_by.length) (hk : k < (am_by.getD j []).length) (h : Q (.inl (some (.int ((am_by.getD j []).getD k 0)))) S iv) : am_M E (d + 3) mJ0_charAt_5068e 0 0 [.retAddr j, .int (nI k)] S iv Q := by
  have hj' : j < 58 := by rw [← am_byl]; exact hj
  have eu := am_u32 j hj'
  obtain ⟨c1, c2⟩ := am_chr j hj' k hk
  refine am_enterF (js := []) rfl pf_chr rfl rfl rfl (Nat.le_of_ble_eq_true rfl) ?_
  refine sJ0_charAt_5068e_0 rfl (sJ0_charAt_5068e_1 hj (Nat.le_of_ble_eq_true rfl) (S_lat hj ?_))
  refine sJ0_charAt_5068e_4 (fun e => absurd e (by decide)) (fun e => ?_)
  refine sJ0_charAt_5068e_7 rfl (sJ0_charAt_5068e_8 hj (u := UInt32.ofNat j) eu (sJ0_charAt_5068e_11 (sJ0_charAt_5068e_12 (Nat.le_of_ble_eq_true rfl) (S_chr1 hj hk ?_))))
  exact sJ0_charAt_5068e_15 c2 h
end B17
