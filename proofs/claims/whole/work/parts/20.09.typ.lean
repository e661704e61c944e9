/-! typeOf -/
def am_typ (b : Int32) : Int32 := if b < 97 then (if b < 48 then (if b = 40 ∨ b = 41 ∨ b = 42 ∨ b = 43 ∨ b = 45 ∨ b = 47 then 3 else 4) else if 57 < b then (if b = 59 ∨ b = 60 ∨ b = 61 then 3 else 4) else 2) else if 122 < b then 4 else 1
def F_X8_typeOf (i0 : Int32) (iv : am_I) : Option Int32 := if i0.toInt8.toInt32 = i0 then some (am_typ i0) else none
def ty_no (b : Int32) : Bool := (List.range 9).all (fun k => decide ((am_by.getD 1 []).getD k 0 ≠ b))
theorem ty_no_i (b : Int32) : ty_no b = true ↔ ∀ k, k < 9 → (am_by.getD 1 []).getD k 0 ≠ b := by
  unfold ty_no
  rw [List.all_eq_true]
  simp only [List.mem_range, decide_eq_true_eq]
def ty_x (b : Int32) : Int32 := ((b &&& 255).toUInt32 % 65536).toInt32
theorem ty_1 : ∀ n, n < 256 → decide (ty_x (Int8.ofNat n).toInt32 < 0) = false := by decide +kernel
theorem ty_2 : ∀ n, n < 256 → decide (255 < ty_x (Int8.ofNat n).toInt32) = false := by decide +kernel
theorem ty_3 : ∀ n, n < 256 → (ty_x (Int8.ofNat n).toInt32).toInt8.toInt32 = (Int8.ofNat n).toInt32 := by decide +kernel
theorem ty_4 : ∀ n, n < 256 → (decide ((Int8.ofNat n).toInt32 < 97) || decide (122 < (Int8.ofNat n).toInt32) || decide (am_typ (Int8.ofNat n).toInt32 = 1)) = true := by decide +kernel
theorem ty_5 : ∀ n, n < 256 → ((!decide ((Int8.ofNat n).toInt32 < 97) && !decide (122 < (Int8.ofNat n).toInt32)) || decide ((Int8.ofNat n).toInt32 < 48) || decide (57 < (Int8.ofNat n).toInt32) || decide (am_typ (Int8.ofNat n).toInt32 = 2)) = true := by decide +kernel
theorem ty_6 : ∀ n, n < 256 → ((!decide ((Int8.ofNat n).toInt32 < 97) && !decide (122 < (Int8.ofNat n).toInt32)) || (!decide ((Int8.ofNat n).toInt32 < 48) && !decide (57 < (Int8.ofNat n).toInt32)) || decide (am_typ (Int8.ofNat n).toInt32 = if ty_no (Int8.ofNat n).toInt32 = true then 4 else 3)) = true := by decide +kernel
theorem ty_ok (n : Nat) (hn : n < 256) : ¬ ty_x (Int8.ofNat n).toInt32 < 0 ∧ ¬ 255 < ty_x (Int8.ofNat n).toInt32 ∧ (ty_x (Int8.ofNat n).toInt32).toInt8.toInt32 = (Int8.ofNat n).toInt32 ∧ (¬ (Int8.ofNat n).toInt32 < 97 → ¬ 122 < (Int8.ofNat n).toInt32 → am_typ (Int8.ofNat n).toInt32 = 1) ∧ (¬ (¬ (Int8.ofNat n).toInt32 < 97 ∧ ¬ 122 < (Int8.ofNat n).toInt32) → ¬ (Int8.ofNat n).toInt32 < 48 → ¬ 57 < (Int8.ofNat n).toInt32 → am_typ (Int8.ofNat n).toInt32 = 2) ∧ (¬ (¬ (Int8.ofNat n).toInt32 < 97 ∧ ¬ 122 < (Int8.ofNat n).toInt32) → ¬ (¬ (Int8.ofNat n).toInt32 < 48 ∧ ¬ 57 < (Int8.ofNat n).toInt32) → am_typ (Int8.ofNat n).toInt32 = if ty_no (Int8.ofNat n).toInt32 = true then 4 else 3) := by
  have h4 := ty_4 n hn
  have h5 := ty_5 n hn
  have h6 := ty_6 n hn
  refine ⟨of_decide_eq_false (ty_1 n hn), of_decide_eq_false (ty_2 n hn), ty_3 n hn, fun a1 a2 => ?_, fun a1 a2 a3 => ?_, fun a1 a2 => ?_⟩
  · rw [decide_eq_false a1, decide_eq_false a2, Bool.false_or, Bool.false_or] at h4
    exact of_decide_eq_true h4
  · have a1' : (!decide ((Int8.ofNat n).toInt32 < 97) && !decide (122 < (Int8.ofNat n).toInt32)) = false := by
      by_cases q1 : (Int8.ofNat n).toInt32 < 97
      · rw [decide_eq_true q1]; rfl
      · by_cases q2 : 122 < (Int8.ofNat n).toInt32
        · rw [decide_eq_true q2, Bool.not_true, Bool.and_false]
        · exact absurd ⟨q1, q2⟩ a1
    rw [a1', decide_eq_false a2, decide_eq_false a3, Bool.false_or, Bool.false_or, Bool.false_or] at h5
    exact of_decide_eq_true h5
  · have a1' : (!decide ((Int8.ofNat n).toInt32 < 97) && !decide (122 < (Int8.ofNat n).toInt32)) = false := by
      by_cases q1 : (Int8.ofNat n).toInt32 < 97
      · rw [decide_eq_true q1]; rfl
      · by_cases q2 : 122 < (Int8.ofNat n).toInt32
        · rw [decide_eq_true q2, Bool.not_true, Bool.and_false]
        · exact absurd ⟨q1, q2⟩ a1
    have a2' : (!decide ((Int8.ofNat n).toInt32 < 48) && !decide (57 < (Int8.ofNat n).toInt32)) = false := by
      by_cases q1 : (Int8.ofNat n).toInt32 < 48
      · rw [decide_eq_true q1]; rfl
      · by_cases q2 : 57 < (Int8.ofNat n).toInt32
        · rw [decide_eq_true q2, Bool.not_true, Bool.and_false]
        · exact absurd ⟨q1, q2⟩ a2
    rw [a1', a2', Bool.false_or, Bool.false_or] at h6
    exact of_decide_eq_true h6
theorem ty_i8 (x : Int8) : ∃ n, n < 256 ∧ x = Int8.ofNat n := by
  refine ⟨x.toBitVec.toNat, x.toBitVec.isLt, ?_⟩
  apply Int8.toBitVec_inj.mp
  show x.toBitVec = BitVec.ofNat 8 x.toBitVec.toNat
  rw [BitVec.ofNat_toNat, BitVec.setWidth_eq]
section B209
variable {E : am_E} {d k n : Nat} {S : am_S} {iv : am_I} {Q : am_O → am_S → am_I → Prop}
theorem S_can {x : Int32} (h0 : ¬ x < 0) (h1 : ¬ 255 < x) (h : Q (.inl (some (.int 1))) S iv) : am_M E d mJ1_canEncode_9a6ad 0 0 [.int x] S iv Q := by
  refine am_enterF (js := []) rfl pf_can rfl rfl rfl (Nat.le_of_ble_eq_true rfl) ?_
  exact sJ1_canEncode_9a6ad_0 (sJ1_canEncode_9a6ad_1 (fun e => absurd e h0) (fun _ => sJ1_canEncode_9a6ad_4 (sJ1_canEncode_9a6ad_5 (sJ1_canEncode_9a6ad_8 (fun e => absurd e h1) (fun _ => sJ1_canEncode_9a6ad_11 (sJ1_canEncode_9a6ad_12 (sJ1_canEncode_9a6ad_16 rfl h)))))))
/-- what indexOf says -/
def ixP (j : Nat) (x r : Int32) : Prop := r < 0 ↔ ∀ k, k < (am_by.getD j []).length → (am_by.getD j []).getD k 0 ≠ x.toInt8.toInt32
theorem S_ixc {j : Nat} (hj : j < am_by.length) {x : Int32} (h : ∀ r, ixP j x r → Q (.inl (some (.int r))) S iv) : am_M E d mJ1_indexOfChar_4cfef 0 0 [.float (UInt32.ofNat j), .int x, .int (nI 0), .int (nI (am_by.getD j []).length)] S iv Q := by
  have hj' : j < 58 := by rw [← am_byl]; exact hj
  have eu := am_u32 j hj'
  have hsm := am_bysm j hj'
  unfold ixP at h
  generalize hL : (am_by.getD j []).length = L at *
  refine am_enterF (js := [.double 0, .double 0]) rfl pf_ix4 rfl rfl rfl (Nat.le_of_ble_eq_true rfl) ?_
  refine sJ1_indexOfChar_4cfef_0 (sJ1_indexOfChar_4cfef_1 (sJ1_indexOfChar_4cfef_2 (sJ1_indexOfChar_4cfef_4 (sJ1_indexOfChar_4cfef_5 ?_))))
  have loop : ∀ r i, i + r = L → (∀ k, k < i → (am_by.getD j []).getD k 0 ≠ x.toInt8.toInt32) → am_R E d mJ1_indexOfChar_4cfef 0 0 7 [.float (UInt32.ofNat j), .int x, .int (nI 0), .int (nI L), .int x.toInt8.toInt32, .int (nI i)] [] S iv Q := by
    intro r
    induction r with
    | zero =>
      intro i hi hno
      refine sJ1_indexOfChar_4cfef_7 (sJ1_indexOfChar_4cfef_9 (sJ1_indexOfChar_4cfef_10 (fun e => sJ1_indexOfChar_4cfef_31 (sJ1_indexOfChar_4cfef_32 (h _ ?_))) (fun e => ?_)))
      · exact ⟨fun _ k hk => hno k (by omega), fun _ => by decide⟩
      · rw [am_le (by omega) (by omega)] at e; omega
    | succ r ih =>
      intro i hi hno
      refine sJ1_indexOfChar_4cfef_7 (sJ1_indexOfChar_4cfef_9 (sJ1_indexOfChar_4cfef_10 (fun e => ?_) (fun e => ?_)))
      · rw [am_le (by omega) (by omega)] at e; omega
      · refine sJ1_indexOfChar_4cfef_13 rfl (sJ1_indexOfChar_4cfef_14 (sJ1_indexOfChar_4cfef_16 (by rw [eu]; exact hj) (by rw [eu, hL]; exact am_vin (by omega) (by omega)) (sJ1_indexOfChar_4cfef_17 (sJ1_indexOfChar_4cfef_19 (fun e2 => ?_) (fun e2 => ?_)))))
        · rw [eu, am_cl (by omega)] at e2
          refine sJ1_indexOfChar_4cfef_25 (sJ1_indexOfChar_4cfef_28 ?_)
          rw [nI_1]
          refine ih (i + 1) (by omega) (fun k hk => ?_)
          by_cases ek : k = i
          · subst ek; exact e2
          · exact hno k (by omega)
        · rw [eu, am_cl (by omega)] at e2
          refine sJ1_indexOfChar_4cfef_22 (sJ1_indexOfChar_4cfef_24 (h _ ?_))
          exact ⟨fun q => absurd q (nI_pos (by omega)), fun q => absurd e2 (q i (by omega))⟩
  exact loop L 0 (by omega) (fun k hk => absurd hk (by omega))
theorem S_ix3 {j : Nat} (hj : j < am_by.length) (hl : 0 < (am_by.getD j []).length) {x : Int32} (h0 : ¬ x < 0) (h1 : ¬ 255 < x) (h : ∀ r, ixP j x r → Q (.inl (some (.int r))) S iv) : am_M E (d + 1) mJ1_indexOf_4cfef 0 0 [.float (UInt32.ofNat j), .int x, .int (nI 0), .int (nI (am_by.getD j []).length)] S iv Q := by
  have hj' : j < 58 := by rw [← am_byl]; exact hj
  have eu := am_u32 j hj'
  have hsm := am_bysm j hj'
  refine am_enterF (js := []) rfl pf_ix3 rfl rfl rfl (Nat.le_of_ble_eq_true rfl) ?_
  refine sJ1_indexOf_4cfef_0 (sJ1_indexOf_4cfef_1 (Nat.le_of_ble_eq_true rfl) (S_can h0 h1 ?_))
  refine sJ1_indexOf_4cfef_4 (fun _ => ?_) (fun e => absurd e (by decide))
  refine sJ1_indexOf_4cfef_9 (sJ1_indexOf_4cfef_10 (sJ1_indexOf_4cfef_11 (Nat.le_of_ble_eq_true rfl) (J_max ?_)))
  have e8 : (if nI 0 < (0 : Int32) then (0 : Int32) else nI 0) = nI 0 := ite_self _
  have e9 : (if Int32.ofNat (am_by.getD (UInt32.ofNat j).toNat []).length < nI (am_by.getD j []).length then Int32.ofNat (am_by.getD (UInt32.ofNat j).toNat []).length else nI (am_by.getD j []).length) = nI (am_by.getD j []).length := by rw [eu]; exact ite_self _
  refine sJ1_indexOf_4cfef_14 (sJ1_indexOf_4cfef_15 (sJ1_indexOf_4cfef_16 rfl (sJ1_indexOf_4cfef_17 (by rw [eu]; exact hj) (sJ1_indexOf_4cfef_18 (Nat.le_of_ble_eq_true rfl) (J_min ?_)))))
  refine sJ1_indexOf_4cfef_21 (sJ1_indexOf_4cfef_22 (sJ1_indexOf_4cfef_23 ?_))
  rw [e8, e9]
  refine sJ1_indexOf_4cfef_24 (fun _ => ?_) (fun e => absurd (nI_lt hl (by omega)) e)
  refine sJ1_indexOf_4cfef_29 rfl (sJ1_indexOf_4cfef_30 (sJ1_indexOf_4cfef_31 (sJ1_indexOf_4cfef_32 (sJ1_indexOf_4cfef_33 (Nat.le_of_ble_eq_true rfl) (S_ixc hj (fun r hr => ?_))))))
  exact sJ1_indexOf_4cfef_36 (h r hr)
theorem S_ix2 {j : Nat} (hj : j < am_by.length) (hl : 0 < (am_by.getD j []).length) {x : Int32} (h0 : ¬ x < 0) (h1 : ¬ 255 < x) (h : ∀ r, ixP j x r → Q (.inl (some (.int r))) S iv) : am_M E (d + 2) mJ0_indexOf_7cf53 0 0 [.retAddr j, .int x, .int (nI 0)] S iv Q := by
  have hj' : j < 58 := by rw [← am_byl]; exact hj
  have eu := am_u32 j hj'
  refine am_enterF (js := []) rfl pf_ix2 rfl rfl rfl (Nat.le_of_ble_eq_true rfl) ?_
  refine sJ0_indexOf_7cf53_0 rfl (sJ0_indexOf_7cf53_1 hj (Nat.le_of_ble_eq_true rfl) (S_lat hj ?_))
  refine sJ0_indexOf_7cf53_4 (fun e => absurd e (by decide)) (fun e => ?_)
  refine sJ0_indexOf_7cf53_7 rfl (sJ0_indexOf_7cf53_8 hj (u := UInt32.ofNat j) eu (sJ0_indexOf_7cf53_11 (sJ0_indexOf_7cf53_12 (sJ0_indexOf_7cf53_13 rfl (sJ0_indexOf_7cf53_14 hj (Nat.le_of_ble_eq_true rfl) (S_len hj ?_))))))
  refine sJ0_indexOf_7cf53_17 (Nat.le_of_ble_eq_true rfl) (S_ix3 hj hl h0 h1 (fun r hr => ?_))
  exact sJ0_indexOf_7cf53_20 (sJ0_indexOf_7cf53_36 (h r hr))
theorem S_ix1 {j : Nat} (hj : j < am_by.length) (hl : 0 < (am_by.getD j []).length) {x : Int32} (h0 : ¬ x < 0) (h1 : ¬ 255 < x) (h : ∀ r, ixP j x r → Q (.inl (some (.int r))) S iv) : am_M E (d + 3) mJ0_indexOf_0f7a4 0 0 [.retAddr j, .int x] S iv Q := by
  refine am_enterF (js := []) rfl pf_ix1 rfl rfl rfl (Nat.le_of_ble_eq_true rfl) ?_
  refine sJ0_indexOf_0f7a4_0 rfl (sJ0_indexOf_0f7a4_1 (sJ0_indexOf_0f7a4_2 (sJ0_indexOf_0f7a4_3 hj (Nat.le_of_ble_eq_true rfl) (S_ix2 hj hl h0 h1 (fun r hr => ?_)))))
  exact sJ0_indexOf_0f7a4_6 (h r hr)
theorem R_X8_typeOf {E : am_E} {S : am_S} {Q : am_O → am_S → am_I → Prop} {i0 : Int32} {iv : am_I} {y : Int32} (e : F_X8_typeOf i0 iv = some y) (h : Q (.inl (some (.int y))) S iv) {d : Nat} (hd : 6 ≤ d) : am_M E d mX8_typeOf 0 0 [.int i0] S iv Q := by
  obtain ⟨d, rfl⟩ : ∃ d', d = d' + 4 := ⟨d - 4, by omega⟩
  obtain ⟨e1, e2⟩ := am_ck e
  obtain rfl := Option.some.inj e2
  obtain ⟨m, hm, e3⟩ := ty_i8 i0.toInt8
  rw [e3] at e1
  obtain ⟨t1, t2, t3, t4, t5, t6⟩ := ty_ok m hm
  rw [e1] at t1 t2 t3 t4 t5 t6
  have K28 : ¬ (¬ i0 < 97 ∧ ¬ 122 < i0) → ¬ (¬ i0 < 48 ∧ ¬ 57 < i0) → am_R E (d + 4) mX8_typeOf 0 0 28 [.int i0] [] S iv Q := by
    intro c1 c2
    have t7 := t6 c1 c2
    refine sX8_typeOf_28 (sX8_typeOf_30 (sX8_typeOf_31 (sX8_typeOf_34 (sX8_typeOf_35 (sX8_typeOf_36 (by decide) (Nat.le_of_ble_eq_true rfl) (S_ix1 (x := ty_x i0) (by decide) (by decide) t1 t2 (fun r hr => ?_)))))))
    unfold ixP at hr
    rw [t3, show (am_by.getD 1 []).length = 9 from rfl] at hr
    refine sX8_typeOf_39 (fun q => ?_) (fun q => ?_)
    · rw [if_pos ((ty_no_i _).mpr (hr.mp q))] at t7
      rw [t7] at h
      exact sX8_typeOf_46 (sX8_typeOf_47 h)
    · rw [if_neg (fun z => q (hr.mpr ((ty_no_i _).mp z)))] at t7
      rw [t7] at h
      exact sX8_typeOf_42 (sX8_typeOf_43 (sX8_typeOf_47 h))
  have K14 : ¬ (¬ i0 < 97 ∧ ¬ 122 < i0) → am_R E (d + 4) mX8_typeOf 0 0 14 [.int i0] [] S iv Q := by
    intro c1
    refine sX8_typeOf_14 (sX8_typeOf_15 (sX8_typeOf_17 (fun q => K28 c1 (fun z => z.1 q)) (fun q => ?_)))
    refine sX8_typeOf_20 (sX8_typeOf_21 (sX8_typeOf_23 (fun q2 => K28 c1 (fun z => z.2 q2)) (fun q2 => ?_)))
    rw [t5 c1 q q2] at h
    exact sX8_typeOf_26 (sX8_typeOf_27 h)
  refine am_enter (js := []) rfl pn_X8 rfl rfl rfl (Nat.le_of_ble_eq_true rfl) ?_
  refine sX8_typeOf_0 (sX8_typeOf_1 (sX8_typeOf_3 (fun q => K14 (fun z => z.1 q)) (fun q => ?_)))
  refine sX8_typeOf_6 (sX8_typeOf_7 (sX8_typeOf_9 (fun q2 => K14 (fun z => z.2 q2)) (fun q2 => ?_)))
  rw [t4 q q2] at h
  exact sX8_typeOf_12 (sX8_typeOf_13 h)
end B209
