/-! the constructors -/
def rlk : List (Nat × Nat × Nat) → Nat → Nat → Option Nat
  | [], _, _ => none
  | q :: R, a, j => if a = q.1 ∧ j = q.2.1 then some q.2.2 else rlk R a j
def vlk : List (Nat × Nat × Int32) → Nat → Nat → Int32
  | [], _, _ => 0
  | q :: V, a, j => if a = q.1 ∧ j = q.2.1 then q.2.2 else vlk V a j
theorem rlk_no {R : List (Nat × Nat × Nat)} {m : Nat} (h : ∀ q ∈ R, q.1 < m) (j : Nat) : rlk R m j = none := by
  induction R with
  | nil => rfl
  | cons q R ih =>
    have h1 := h q List.mem_cons_self
    show (if m = q.1 ∧ j = q.2.1 then some q.2.2 else rlk R m j) = _
    rw [if_neg (by omega)]
    exact ih (fun q' hq => h q' (List.mem_cons_of_mem _ hq))
theorem vlk_no {V : List (Nat × Nat × Int32)} {m : Nat} (h : ∀ q ∈ V, q.1 < m) (j : Nat) : vlk V m j = 0 := by
  induction V with
  | nil => rfl
  | cons q V ih =>
    have h1 := h q List.mem_cons_self
    show (if m = q.1 ∧ j = q.2.1 then q.2.2 else vlk V m j) = _
    rw [if_neg (by omega)]
    exact ih (fun q' hq => h q' (List.mem_cons_of_mem _ hq))
/-- the first m cells are made; these references and ints stand in them -/
def IP (S : am_S) (iv : am_I) (m : Nat) (R : List (Nat × Nat × Nat)) (V : List (Nat × Nat × Int32)) : Prop := S.2.2.2 = m ∧ (∀ a, a < m → S.1 a = am_lay a) ∧ (∀ a j, S.2.1 a j = rlk R a j) ∧ (∀ a j, iv a j = vlk V a j) ∧ (∀ q ∈ R, q.1 < m) ∧ ∀ q ∈ V, q.1 < m
section B99a
variable {S : am_S} {iv : am_I} {m : Nat} {R : List (Nat × Nat × Nat)} {V : List (Nat × Nat × Int32)}
theorem IP.k (h : IP S iv m R V) {a : Nat} {t : am_K} (ha : a < m) (ht : am_lay a = some t) : S.1 a = some t := (h.2.1 a ha).trans ht
theorem IP.new (h : IP S iv m R V) {t : am_K} {m' : Nat} (hm : m' = m + 1) (ht : am_lay m = some t) : IP (am_new S t) (am_0 S iv) m' R V := by
  obtain ⟨h1, h2, h3, h4, h5, h6⟩ := h
  subst hm
  refine ⟨by show S.2.2.2 + 1 = _; rw [h1], fun a ha => ?_, fun a j => ?_, fun a j => ?_, fun q hq => Nat.lt_succ_of_lt (h5 q hq), fun q hq => Nat.lt_succ_of_lt (h6 q hq)⟩
  · show (if a = S.2.2.2 then some t else S.1 a) = _
    rw [h1]
    by_cases e : a = m
    · rw [if_pos e, e, ht]
    · rw [if_neg e]; exact h2 a (by omega)
  · show (if a = S.2.2.2 then (fun _ => none) else S.2.1 a) j = _
    rw [h1]
    by_cases e : a = m
    · rw [if_pos e, e, rlk_no h5]
    · rw [if_neg e]; exact h3 a j
  · show (if a = S.2.2.2 then (fun _ => 0) else iv a) j = _
    rw [h1]
    by_cases e : a = m
    · rw [if_pos e, e, vlk_no h6]
    · rw [if_neg e]; exact h4 a j
theorem IP.wr (h : IP S iv m R V) {a k k' b : Nat} (ha : a < m) (hk : k' = k) : IP (am_wr S a k' b) iv m ((a, k, b) :: R) V := by
  obtain ⟨h1, h2, h3, h4, h5, h6⟩ := h
  subst hk
  refine ⟨h1, h2, fun a' j => ?_, h4, fun q hq => ?_, h6⟩
  · show (if a' = a then (fun j => if j = k' then some b else S.2.1 a j) else S.2.1 a') j = if a' = a ∧ j = k' then some b else rlk R a' j
    by_cases e : a' = a
    · subst e
      rw [if_pos rfl]
      show (if j = k' then some b else S.2.1 a' j) = if a' = a' ∧ j = k' then some b else rlk R a' j
      by_cases e2 : j = k'
      · rw [if_pos e2, if_pos ⟨rfl, e2⟩]
      · rw [if_neg e2, if_neg (fun z => e2 z.2)]; exact h3 a' j
    · rw [if_neg e, if_neg (fun z => e z.1)]; exact h3 a' j
  · rcases List.mem_cons.mp hq with e | e
    · rw [e]; exact ha
    · exact h5 q e
theorem IP.w (h : IP S iv m R V) {a k k' : Nat} {x : Int32} (ha : a < m) (hk : k' = k) : IP S (am_w iv a k' x) m R ((a, k, x) :: V) := by
  obtain ⟨h1, h2, h3, h4, h5, h6⟩ := h
  subst hk
  refine ⟨h1, h2, h3, fun a' j => ?_, h5, fun q hq => ?_⟩
  · show am_w iv a k' x a' j = if a' = a ∧ j = k' then x else vlk V a' j
    rw [am_w_r]
    by_cases e : a' = a
    · rw [if_pos e]
      by_cases e2 : j = k'
      · rw [if_pos e2, if_pos ⟨e, e2⟩]
      · rw [if_neg e2, if_neg (fun z => e2 z.2)]; exact h4 a' j
    · rw [if_neg e, if_neg (fun z => e z.1)]; exact h4 a' j
  · rcases List.mem_cons.mp hq with e | e
    · rw [e]; exact ha
    · exact h6 q e
end B99a
section B99b
variable {E : am_E} {S0 : am_S} {iv0 : am_I} {R : List (Nat × Nat × Nat)} {V : List (Nat × Nat × Int32)} {Q : am_O → am_S → am_I → Prop} {d : Nat}

theorem N_X2_init_3 (hP0 : IP S0 iv0 4 R V) (hQ : ∀ S' iv', IP S' iv' 12 ((3, 8, 11) :: (3, 7, 10) :: (3, 6, 9) :: (3, 5, 8) :: (3, 4, 7) :: (3, 3, 6) :: (3, 2, 5) :: (3, 1, 4) :: R) (V) → Q (.inl none) S' iv') : am_M E (d + 1) mX2_init 8 80 [.ref 3] S0 iv0 Q := by
  refine am_enter (js := []) rfl pn_X2 rfl rfl rfl (Nat.le_of_ble_eq_true rfl) ?_
  refine (sX2_init_0 rfl (sX2_init_1 (Nat.le_of_ble_eq_true rfl) (sX2_init_4 rfl (sX2_init_5 (sX2_init_7 (k := 7) (n := 70) (m := 10) (by decide) (by decide) (by decide) ?_)))))
  have hP1 := hP0.new (t := (.inr (.int, 10))) (m' := 5) rfl rfl
  rw [hP0.1]
  generalize am_new S0 (.inr (.int, 10)) = S1 at hP1 ⊢
  generalize am_0 S0 iv0 = iv1 at hP1 ⊢
  refine (sX2_init_9 (hP1.k (by decide) rfl) ?_)
  have hP2 := hP1.wr (a := 3) (k := 1) (b := 4) (by decide) rfl
  generalize am_wr S1 3 1 4 = S2 at hP2 ⊢
  refine (sX2_init_12 rfl (sX2_init_13 (sX2_init_15 (k := 6) (n := 60) (m := 10) (by decide) (by decide) (by decide) ?_)))
  have hP3 := hP2.new (t := (.inr (.int, 10))) (m' := 6) rfl rfl
  rw [hP2.1]
  generalize am_new S2 (.inr (.int, 10)) = S3 at hP3 ⊢
  generalize am_0 S2 iv1 = iv2 at hP3 ⊢
  refine (sX2_init_17 (hP3.k (by decide) rfl) ?_)
  have hP4 := hP3.wr (a := 3) (k := 2) (b := 5) (by decide) rfl
  generalize am_wr S3 3 2 5 = S4 at hP4 ⊢
  refine (sX2_init_20 rfl (sX2_init_21 (sX2_init_23 (k := 5) (n := 50) (m := 10) (by decide) (by decide) (by decide) ?_)))
  have hP5 := hP4.new (t := (.inr (.int, 10))) (m' := 7) rfl rfl
  rw [hP4.1]
  generalize am_new S4 (.inr (.int, 10)) = S5 at hP5 ⊢
  generalize am_0 S4 iv2 = iv3 at hP5 ⊢
  refine (sX2_init_25 (hP5.k (by decide) rfl) ?_)
  have hP6 := hP5.wr (a := 3) (k := 3) (b := 6) (by decide) rfl
  generalize am_wr S5 3 3 6 = S6 at hP6 ⊢
  refine (sX2_init_28 rfl (sX2_init_29 (sX2_init_31 (k := 4) (n := 40) (m := 10) (by decide) (by decide) (by decide) ?_)))
  have hP7 := hP6.new (t := (.inr (.int, 10))) (m' := 8) rfl rfl
  rw [hP6.1]
  generalize am_new S6 (.inr (.int, 10)) = S7 at hP7 ⊢
  generalize am_0 S6 iv3 = iv4 at hP7 ⊢
  refine (sX2_init_33 (hP7.k (by decide) rfl) ?_)
  have hP8 := hP7.wr (a := 3) (k := 4) (b := 7) (by decide) rfl
  generalize am_wr S7 3 4 7 = S8 at hP8 ⊢
  refine (sX2_init_36 rfl (sX2_init_37 (sX2_init_39 (k := 3) (n := 30) (m := 10) (by decide) (by decide) (by decide) ?_)))
  have hP9 := hP8.new (t := (.inr (.int, 10))) (m' := 9) rfl rfl
  rw [hP8.1]
  generalize am_new S8 (.inr (.int, 10)) = S9 at hP9 ⊢
  generalize am_0 S8 iv4 = iv5 at hP9 ⊢
  refine (sX2_init_41 (hP9.k (by decide) rfl) ?_)
  have hP10 := hP9.wr (a := 3) (k := 5) (b := 8) (by decide) rfl
  generalize am_wr S9 3 5 8 = S10 at hP10 ⊢
  refine (sX2_init_44 rfl (sX2_init_45 (sX2_init_47 (k := 2) (n := 20) (m := 10) (by decide) (by decide) (by decide) ?_)))
  have hP11 := hP10.new (t := (.inr (.int, 10))) (m' := 10) rfl rfl
  rw [hP10.1]
  generalize am_new S10 (.inr (.int, 10)) = S11 at hP11 ⊢
  generalize am_0 S10 iv5 = iv6 at hP11 ⊢
  refine (sX2_init_49 (hP11.k (by decide) rfl) ?_)
  have hP12 := hP11.wr (a := 3) (k := 6) (b := 9) (by decide) rfl
  generalize am_wr S11 3 6 9 = S12 at hP12 ⊢
  refine (sX2_init_52 rfl (sX2_init_53 (sX2_init_55 (k := 1) (n := 10) (m := 10) (by decide) (by decide) (by decide) ?_)))
  have hP13 := hP12.new (t := (.inr (.int, 10))) (m' := 11) rfl rfl
  rw [hP12.1]
  generalize am_new S12 (.inr (.int, 10)) = S13 at hP13 ⊢
  generalize am_0 S12 iv6 = iv7 at hP13 ⊢
  refine (sX2_init_57 (hP13.k (by decide) rfl) ?_)
  have hP14 := hP13.wr (a := 3) (k := 7) (b := 10) (by decide) rfl
  generalize am_wr S13 3 7 10 = S14 at hP14 ⊢
  refine (sX2_init_60 rfl (sX2_init_61 (sX2_init_63 (k := 0) (n := 0) (m := 10) (by decide) (by decide) (by decide) ?_)))
  have hP15 := hP14.new (t := (.inr (.int, 10))) (m' := 12) rfl rfl
  rw [hP14.1]
  generalize am_new S14 (.inr (.int, 10)) = S15 at hP15 ⊢
  generalize am_0 S14 iv7 = iv8 at hP15 ⊢
  refine (sX2_init_65 (hP15.k (by decide) rfl) ?_)
  have hP16 := hP15.wr (a := 3) (k := 8) (b := 11) (by decide) rfl
  generalize am_wr S15 3 8 11 = S16 at hP16 ⊢
  exact (sX2_init_68 (hQ _ _ hP16))
theorem N_X4_init_12 (hP0 : IP S0 iv0 13 R V) (hQ : ∀ S' iv', IP S' iv' 16 ((12, 3, 15) :: (12, 2, 14) :: (12, 1, 13) :: R) (V) → Q (.inl none) S' iv') : am_M E (d + 1) mX4_init 3 15 [.ref 12] S0 iv0 Q := by
  refine am_enter (js := []) rfl pn_X4 rfl rfl rfl (Nat.le_of_ble_eq_true rfl) ?_
  refine (sX4_init_0 rfl (sX4_init_1 (Nat.le_of_ble_eq_true rfl) (sX4_init_4 rfl (sX4_init_5 (sX4_init_6 (k := 2) (n := 10) (m := 5) (by decide) (by decide) (by decide) ?_)))))
  have hP1 := hP0.new (t := (.inr (.int, 5))) (m' := 14) rfl rfl
  rw [hP0.1]
  generalize am_new S0 (.inr (.int, 5)) = S1 at hP1 ⊢
  generalize am_0 S0 iv0 = iv1 at hP1 ⊢
  refine (sX4_init_8 (hP1.k (by decide) rfl) ?_)
  have hP2 := hP1.wr (a := 12) (k := 1) (b := 13) (by decide) rfl
  generalize am_wr S1 12 1 13 = S2 at hP2 ⊢
  refine (sX4_init_11 rfl (sX4_init_12 (sX4_init_13 (k := 1) (n := 5) (m := 5) (by decide) (by decide) (by decide) ?_)))
  have hP3 := hP2.new (t := (.inr (.int, 5))) (m' := 15) rfl rfl
  rw [hP2.1]
  generalize am_new S2 (.inr (.int, 5)) = S3 at hP3 ⊢
  generalize am_0 S2 iv1 = iv2 at hP3 ⊢
  refine (sX4_init_15 (hP3.k (by decide) rfl) ?_)
  have hP4 := hP3.wr (a := 12) (k := 2) (b := 14) (by decide) rfl
  generalize am_wr S3 12 2 14 = S4 at hP4 ⊢
  refine (sX4_init_18 rfl (sX4_init_19 (sX4_init_20 (k := 0) (n := 0) (m := 5) (by decide) (by decide) (by decide) ?_)))
  have hP5 := hP4.new (t := (.inr (.int, 5))) (m' := 16) rfl rfl
  rw [hP4.1]
  generalize am_new S4 (.inr (.int, 5)) = S5 at hP5 ⊢
  generalize am_0 S4 iv2 = iv3 at hP5 ⊢
  refine (sX4_init_22 (hP5.k (by decide) rfl) ?_)
  have hP6 := hP5.wr (a := 12) (k := 3) (b := 15) (by decide) rfl
  generalize am_wr S5 12 3 15 = S6 at hP6 ⊢
  exact (sX4_init_25 (hQ _ _ hP6))
theorem N_X5_init_16 (hP0 : IP S0 iv0 17 R V) (hQ : ∀ S' iv', IP S' iv' 20 ((16, 4, 19) :: (16, 3, 18) :: (16, 2, 17) :: R) (V) → Q (.inl none) S' iv') : am_M E (d + 1) mX5_init 3 769 [.ref 16] S0 iv0 Q := by
  refine am_enter (js := []) rfl pn_X5 rfl rfl rfl (Nat.le_of_ble_eq_true rfl) ?_
  refine (sX5_init_0 rfl (sX5_init_1 (Nat.le_of_ble_eq_true rfl) (sX5_init_4 rfl (sX5_init_5 (sX5_init_6 (k := 2) (n := 764) (m := 5) (by decide) (by decide) (by decide) ?_)))))
  have hP1 := hP0.new (t := (.inr (.int, 5))) (m' := 18) rfl rfl
  rw [hP0.1]
  generalize am_new S0 (.inr (.int, 5)) = S1 at hP1 ⊢
  generalize am_0 S0 iv0 = iv1 at hP1 ⊢
  refine (sX5_init_8 (hP1.k (by decide) rfl) ?_)
  have hP2 := hP1.wr (a := 16) (k := 2) (b := 17) (by decide) rfl
  generalize am_wr S1 16 2 17 = S2 at hP2 ⊢
  refine (sX5_init_11 rfl (sX5_init_12 (sX5_init_15 (k := 1) (n := 64) (m := 700) (by decide) (by decide) (by decide) ?_)))
  have hP3 := hP2.new (t := (.inr (.int, 700))) (m' := 19) rfl rfl
  rw [hP2.1]
  generalize am_new S2 (.inr (.int, 700)) = S3 at hP3 ⊢
  generalize am_0 S2 iv1 = iv2 at hP3 ⊢
  refine (sX5_init_17 (hP3.k (by decide) rfl) ?_)
  have hP4 := hP3.wr (a := 16) (k := 3) (b := 18) (by decide) rfl
  generalize am_wr S3 16 3 18 = S4 at hP4 ⊢
  refine (sX5_init_20 rfl (sX5_init_21 (sX5_init_23 (k := 0) (n := 0) (m := 64) (by decide) (by decide) (by decide) ?_)))
  have hP5 := hP4.new (t := (.inr (.int, 64))) (m' := 20) rfl rfl
  rw [hP4.1]
  generalize am_new S4 (.inr (.int, 64)) = S5 at hP5 ⊢
  generalize am_0 S4 iv2 = iv3 at hP5 ⊢
  refine (sX5_init_25 (hP5.k (by decide) rfl) ?_)
  have hP6 := hP5.wr (a := 16) (k := 4) (b := 19) (by decide) rfl
  generalize am_wr S5 16 4 19 = S6 at hP6 ⊢
  exact (sX5_init_28 (hQ _ _ hP6))
theorem N_X0_init_2 (hP0 : IP S0 iv0 3 R V) (hQ : ∀ S' iv', IP S' iv' 22 ((2, 11, 21) :: (2, 10, 20) :: (2, 9, 16) :: (16, 4, 19) :: (16, 3, 18) :: (16, 2, 17) :: (2, 8, 12) :: (12, 3, 15) :: (12, 2, 14) :: (12, 1, 13) :: (2, 7, 3) :: (3, 8, 11) :: (3, 7, 10) :: (3, 6, 9) :: (3, 5, 8) :: (3, 4, 7) :: (3, 3, 6) :: (3, 2, 5) :: (3, 1, 4) :: R) ((2, 2, 2) :: (2, 1, 4) :: (2, 0, 3) :: V) → Q (.inl none) S' iv') : am_M E (d + 2) mX0_init 19 1915 [.ref 2] S0 iv0 Q := by
  refine am_enter (js := []) rfl pn_X0 rfl rfl rfl (Nat.le_of_ble_eq_true rfl) ?_
  refine (sX0_init_0 rfl (sX0_init_1 (Nat.le_of_ble_eq_true rfl) (sX0_init_4 rfl (sX0_init_5 (sX0_init_6 (hP0.k (by decide) rfl) ?_)))))
  have hP1 := hP0.w (a := 2) (k := 0) (x := (3 : Int32)) (by decide) rfl
  generalize am_w iv0 2 0 (3 : Int32) = iv1 at hP1 ⊢
  refine (sX0_init_9 rfl (sX0_init_10 (sX0_init_11 (hP1.k (by decide) rfl) ?_)))
  have hP2 := hP1.w (a := 2) (k := 1) (x := (4 : Int32)) (by decide) rfl
  generalize am_w iv1 2 1 (4 : Int32) = iv2 at hP2 ⊢
  refine (sX0_init_14 rfl (sX0_init_15 (sX0_init_16 (hP2.k (by decide) rfl) ?_)))
  have hP3 := hP2.w (a := 2) (k := 2) (x := (2 : Int32)) (by decide) rfl
  generalize am_w iv2 2 2 (2 : Int32) = iv3 at hP3 ⊢
  refine (sX0_init_19 rfl (sX0_init_20 (k := 18) (n := 1904) ?_))
  have hP4 := hP3.new (t := (.inl 2)) (m' := 4) rfl rfl
  rw [hP3.1]
  generalize am_new S0 (.inl 2) = S1 at hP4 ⊢
  generalize am_0 S0 iv3 = iv4 at hP4 ⊢
  refine (sX0_init_23 rfl (sX0_init_24 (k' := 8) (k := 10) (n' := 80) (n := 1824) (Nat.le_of_ble_eq_true rfl) (N_X2_init_3 hP4 (fun S2 iv5 hP5 => ⟨rfl, ?_⟩))))
  refine (sX0_init_27 (hP5.k (by decide) rfl) ?_)
  have hP6 := hP5.wr (a := 2) (k := 7) (b := 3) (by decide) rfl
  generalize am_wr S2 2 7 3 = S3 at hP6 ⊢
  refine (sX0_init_30 rfl (sX0_init_31 (k := 9) (n := 1820) ?_))
  have hP7 := hP6.new (t := (.inl 4)) (m' := 13) rfl rfl
  rw [hP6.1]
  generalize am_new S3 (.inl 4) = S4 at hP7 ⊢
  generalize am_0 S3 iv5 = iv6 at hP7 ⊢
  refine (sX0_init_34 rfl (sX0_init_35 (k' := 3) (k := 6) (n' := 15) (n := 1805) (Nat.le_of_ble_eq_true rfl) (N_X4_init_12 hP7 (fun S5 iv7 hP8 => ⟨rfl, ?_⟩))))
  refine (sX0_init_38 (hP8.k (by decide) rfl) ?_)
  have hP9 := hP8.wr (a := 2) (k := 8) (b := 12) (by decide) rfl
  generalize am_wr S5 2 8 12 = S6 at hP9 ⊢
  refine (sX0_init_41 rfl (sX0_init_42 (k := 5) (n := 1800) ?_))
  have hP10 := hP9.new (t := (.inl 5)) (m' := 17) rfl rfl
  rw [hP9.1]
  generalize am_new S6 (.inl 5) = S7 at hP10 ⊢
  generalize am_0 S6 iv7 = iv8 at hP10 ⊢
  refine (sX0_init_45 rfl (sX0_init_46 (k' := 3) (k := 2) (n' := 769) (n := 1031) (Nat.le_of_ble_eq_true rfl) (N_X5_init_16 hP10 (fun S8 iv9 hP11 => ⟨rfl, ?_⟩))))
  refine (sX0_init_49 (hP11.k (by decide) rfl) ?_)
  have hP12 := hP11.wr (a := 2) (k := 9) (b := 16) (by decide) rfl
  generalize am_wr S8 2 9 16 = S9 at hP12 ⊢
  refine (sX0_init_52 rfl (sX0_init_53 (sX0_init_55 (k := 1) (n := 1024) (m := 7) (by decide) (by decide) (by decide) ?_)))
  have hP13 := hP12.new (t := (.inr (.int, 7))) (m' := 21) rfl rfl
  rw [hP12.1]
  generalize am_new S9 (.inr (.int, 7)) = S10 at hP13 ⊢
  generalize am_0 S9 iv9 = iv10 at hP13 ⊢
  refine (sX0_init_57 (hP13.k (by decide) rfl) ?_)
  have hP14 := hP13.wr (a := 2) (k := 10) (b := 20) (by decide) rfl
  generalize am_wr S10 2 10 20 = S11 at hP14 ⊢
  refine (sX0_init_60 rfl (sX0_init_61 (sX0_init_64 (k := 0) (n := 0) (m := 1024) (by decide) (by decide) (by decide) ?_)))
  have hP15 := hP14.new (t := (.inr (.int, 1024))) (m' := 22) rfl rfl
  rw [hP14.1]
  generalize am_new S11 (.inr (.int, 1024)) = S12 at hP15 ⊢
  generalize am_0 S11 iv10 = iv11 at hP15 ⊢
  refine (sX0_init_66 (hP15.k (by decide) rfl) ?_)
  have hP16 := hP15.wr (a := 2) (k := 11) (b := 21) (by decide) rfl
  generalize am_wr S12 2 11 21 = S13 at hP16 ⊢
  exact (sX0_init_69 (hQ _ _ hP16))
theorem N_X2_init_23 (hP0 : IP S0 iv0 24 R V) (hQ : ∀ S' iv', IP S' iv' 32 ((23, 8, 31) :: (23, 7, 30) :: (23, 6, 29) :: (23, 5, 28) :: (23, 4, 27) :: (23, 3, 26) :: (23, 2, 25) :: (23, 1, 24) :: R) (V) → Q (.inl none) S' iv') : am_M E (d + 1) mX2_init 8 80 [.ref 23] S0 iv0 Q := by
  refine am_enter (js := []) rfl pn_X2 rfl rfl rfl (Nat.le_of_ble_eq_true rfl) ?_
  refine (sX2_init_0 rfl (sX2_init_1 (Nat.le_of_ble_eq_true rfl) (sX2_init_4 rfl (sX2_init_5 (sX2_init_7 (k := 7) (n := 70) (m := 10) (by decide) (by decide) (by decide) ?_)))))
  have hP1 := hP0.new (t := (.inr (.int, 10))) (m' := 25) rfl rfl
  rw [hP0.1]
  generalize am_new S0 (.inr (.int, 10)) = S1 at hP1 ⊢
  generalize am_0 S0 iv0 = iv1 at hP1 ⊢
  refine (sX2_init_9 (hP1.k (by decide) rfl) ?_)
  have hP2 := hP1.wr (a := 23) (k := 1) (b := 24) (by decide) rfl
  generalize am_wr S1 23 1 24 = S2 at hP2 ⊢
  refine (sX2_init_12 rfl (sX2_init_13 (sX2_init_15 (k := 6) (n := 60) (m := 10) (by decide) (by decide) (by decide) ?_)))
  have hP3 := hP2.new (t := (.inr (.int, 10))) (m' := 26) rfl rfl
  rw [hP2.1]
  generalize am_new S2 (.inr (.int, 10)) = S3 at hP3 ⊢
  generalize am_0 S2 iv1 = iv2 at hP3 ⊢
  refine (sX2_init_17 (hP3.k (by decide) rfl) ?_)
  have hP4 := hP3.wr (a := 23) (k := 2) (b := 25) (by decide) rfl
  generalize am_wr S3 23 2 25 = S4 at hP4 ⊢
  refine (sX2_init_20 rfl (sX2_init_21 (sX2_init_23 (k := 5) (n := 50) (m := 10) (by decide) (by decide) (by decide) ?_)))
  have hP5 := hP4.new (t := (.inr (.int, 10))) (m' := 27) rfl rfl
  rw [hP4.1]
  generalize am_new S4 (.inr (.int, 10)) = S5 at hP5 ⊢
  generalize am_0 S4 iv2 = iv3 at hP5 ⊢
  refine (sX2_init_25 (hP5.k (by decide) rfl) ?_)
  have hP6 := hP5.wr (a := 23) (k := 3) (b := 26) (by decide) rfl
  generalize am_wr S5 23 3 26 = S6 at hP6 ⊢
  refine (sX2_init_28 rfl (sX2_init_29 (sX2_init_31 (k := 4) (n := 40) (m := 10) (by decide) (by decide) (by decide) ?_)))
  have hP7 := hP6.new (t := (.inr (.int, 10))) (m' := 28) rfl rfl
  rw [hP6.1]
  generalize am_new S6 (.inr (.int, 10)) = S7 at hP7 ⊢
  generalize am_0 S6 iv3 = iv4 at hP7 ⊢
  refine (sX2_init_33 (hP7.k (by decide) rfl) ?_)
  have hP8 := hP7.wr (a := 23) (k := 4) (b := 27) (by decide) rfl
  generalize am_wr S7 23 4 27 = S8 at hP8 ⊢
  refine (sX2_init_36 rfl (sX2_init_37 (sX2_init_39 (k := 3) (n := 30) (m := 10) (by decide) (by decide) (by decide) ?_)))
  have hP9 := hP8.new (t := (.inr (.int, 10))) (m' := 29) rfl rfl
  rw [hP8.1]
  generalize am_new S8 (.inr (.int, 10)) = S9 at hP9 ⊢
  generalize am_0 S8 iv4 = iv5 at hP9 ⊢
  refine (sX2_init_41 (hP9.k (by decide) rfl) ?_)
  have hP10 := hP9.wr (a := 23) (k := 5) (b := 28) (by decide) rfl
  generalize am_wr S9 23 5 28 = S10 at hP10 ⊢
  refine (sX2_init_44 rfl (sX2_init_45 (sX2_init_47 (k := 2) (n := 20) (m := 10) (by decide) (by decide) (by decide) ?_)))
  have hP11 := hP10.new (t := (.inr (.int, 10))) (m' := 30) rfl rfl
  rw [hP10.1]
  generalize am_new S10 (.inr (.int, 10)) = S11 at hP11 ⊢
  generalize am_0 S10 iv5 = iv6 at hP11 ⊢
  refine (sX2_init_49 (hP11.k (by decide) rfl) ?_)
  have hP12 := hP11.wr (a := 23) (k := 6) (b := 29) (by decide) rfl
  generalize am_wr S11 23 6 29 = S12 at hP12 ⊢
  refine (sX2_init_52 rfl (sX2_init_53 (sX2_init_55 (k := 1) (n := 10) (m := 10) (by decide) (by decide) (by decide) ?_)))
  have hP13 := hP12.new (t := (.inr (.int, 10))) (m' := 31) rfl rfl
  rw [hP12.1]
  generalize am_new S12 (.inr (.int, 10)) = S13 at hP13 ⊢
  generalize am_0 S12 iv6 = iv7 at hP13 ⊢
  refine (sX2_init_57 (hP13.k (by decide) rfl) ?_)
  have hP14 := hP13.wr (a := 23) (k := 7) (b := 30) (by decide) rfl
  generalize am_wr S13 23 7 30 = S14 at hP14 ⊢
  refine (sX2_init_60 rfl (sX2_init_61 (sX2_init_63 (k := 0) (n := 0) (m := 10) (by decide) (by decide) (by decide) ?_)))
  have hP15 := hP14.new (t := (.inr (.int, 10))) (m' := 32) rfl rfl
  rw [hP14.1]
  generalize am_new S14 (.inr (.int, 10)) = S15 at hP15 ⊢
  generalize am_0 S14 iv7 = iv8 at hP15 ⊢
  refine (sX2_init_65 (hP15.k (by decide) rfl) ?_)
  have hP16 := hP15.wr (a := 23) (k := 8) (b := 31) (by decide) rfl
  generalize am_wr S15 23 8 31 = S16 at hP16 ⊢
  exact (sX2_init_68 (hQ _ _ hP16))
theorem N_X4_init_32 (hP0 : IP S0 iv0 33 R V) (hQ : ∀ S' iv', IP S' iv' 36 ((32, 3, 35) :: (32, 2, 34) :: (32, 1, 33) :: R) (V) → Q (.inl none) S' iv') : am_M E (d + 1) mX4_init 3 15 [.ref 32] S0 iv0 Q := by
  refine am_enter (js := []) rfl pn_X4 rfl rfl rfl (Nat.le_of_ble_eq_true rfl) ?_
  refine (sX4_init_0 rfl (sX4_init_1 (Nat.le_of_ble_eq_true rfl) (sX4_init_4 rfl (sX4_init_5 (sX4_init_6 (k := 2) (n := 10) (m := 5) (by decide) (by decide) (by decide) ?_)))))
  have hP1 := hP0.new (t := (.inr (.int, 5))) (m' := 34) rfl rfl
  rw [hP0.1]
  generalize am_new S0 (.inr (.int, 5)) = S1 at hP1 ⊢
  generalize am_0 S0 iv0 = iv1 at hP1 ⊢
  refine (sX4_init_8 (hP1.k (by decide) rfl) ?_)
  have hP2 := hP1.wr (a := 32) (k := 1) (b := 33) (by decide) rfl
  generalize am_wr S1 32 1 33 = S2 at hP2 ⊢
  refine (sX4_init_11 rfl (sX4_init_12 (sX4_init_13 (k := 1) (n := 5) (m := 5) (by decide) (by decide) (by decide) ?_)))
  have hP3 := hP2.new (t := (.inr (.int, 5))) (m' := 35) rfl rfl
  rw [hP2.1]
  generalize am_new S2 (.inr (.int, 5)) = S3 at hP3 ⊢
  generalize am_0 S2 iv1 = iv2 at hP3 ⊢
  refine (sX4_init_15 (hP3.k (by decide) rfl) ?_)
  have hP4 := hP3.wr (a := 32) (k := 2) (b := 34) (by decide) rfl
  generalize am_wr S3 32 2 34 = S4 at hP4 ⊢
  refine (sX4_init_18 rfl (sX4_init_19 (sX4_init_20 (k := 0) (n := 0) (m := 5) (by decide) (by decide) (by decide) ?_)))
  have hP5 := hP4.new (t := (.inr (.int, 5))) (m' := 36) rfl rfl
  rw [hP4.1]
  generalize am_new S4 (.inr (.int, 5)) = S5 at hP5 ⊢
  generalize am_0 S4 iv2 = iv3 at hP5 ⊢
  refine (sX4_init_22 (hP5.k (by decide) rfl) ?_)
  have hP6 := hP5.wr (a := 32) (k := 3) (b := 35) (by decide) rfl
  generalize am_wr S5 32 3 35 = S6 at hP6 ⊢
  exact (sX4_init_25 (hQ _ _ hP6))
theorem N_X5_init_36 (hP0 : IP S0 iv0 37 R V) (hQ : ∀ S' iv', IP S' iv' 40 ((36, 4, 39) :: (36, 3, 38) :: (36, 2, 37) :: R) (V) → Q (.inl none) S' iv') : am_M E (d + 1) mX5_init 3 769 [.ref 36] S0 iv0 Q := by
  refine am_enter (js := []) rfl pn_X5 rfl rfl rfl (Nat.le_of_ble_eq_true rfl) ?_
  refine (sX5_init_0 rfl (sX5_init_1 (Nat.le_of_ble_eq_true rfl) (sX5_init_4 rfl (sX5_init_5 (sX5_init_6 (k := 2) (n := 764) (m := 5) (by decide) (by decide) (by decide) ?_)))))
  have hP1 := hP0.new (t := (.inr (.int, 5))) (m' := 38) rfl rfl
  rw [hP0.1]
  generalize am_new S0 (.inr (.int, 5)) = S1 at hP1 ⊢
  generalize am_0 S0 iv0 = iv1 at hP1 ⊢
  refine (sX5_init_8 (hP1.k (by decide) rfl) ?_)
  have hP2 := hP1.wr (a := 36) (k := 2) (b := 37) (by decide) rfl
  generalize am_wr S1 36 2 37 = S2 at hP2 ⊢
  refine (sX5_init_11 rfl (sX5_init_12 (sX5_init_15 (k := 1) (n := 64) (m := 700) (by decide) (by decide) (by decide) ?_)))
  have hP3 := hP2.new (t := (.inr (.int, 700))) (m' := 39) rfl rfl
  rw [hP2.1]
  generalize am_new S2 (.inr (.int, 700)) = S3 at hP3 ⊢
  generalize am_0 S2 iv1 = iv2 at hP3 ⊢
  refine (sX5_init_17 (hP3.k (by decide) rfl) ?_)
  have hP4 := hP3.wr (a := 36) (k := 3) (b := 38) (by decide) rfl
  generalize am_wr S3 36 3 38 = S4 at hP4 ⊢
  refine (sX5_init_20 rfl (sX5_init_21 (sX5_init_23 (k := 0) (n := 0) (m := 64) (by decide) (by decide) (by decide) ?_)))
  have hP5 := hP4.new (t := (.inr (.int, 64))) (m' := 40) rfl rfl
  rw [hP4.1]
  generalize am_new S4 (.inr (.int, 64)) = S5 at hP5 ⊢
  generalize am_0 S4 iv2 = iv3 at hP5 ⊢
  refine (sX5_init_25 (hP5.k (by decide) rfl) ?_)
  have hP6 := hP5.wr (a := 36) (k := 4) (b := 39) (by decide) rfl
  generalize am_wr S5 36 4 39 = S6 at hP6 ⊢
  exact (sX5_init_28 (hQ _ _ hP6))
theorem N_X0_init_22 (hP0 : IP S0 iv0 23 R V) (hQ : ∀ S' iv', IP S' iv' 42 ((22, 11, 41) :: (22, 10, 40) :: (22, 9, 36) :: (36, 4, 39) :: (36, 3, 38) :: (36, 2, 37) :: (22, 8, 32) :: (32, 3, 35) :: (32, 2, 34) :: (32, 1, 33) :: (22, 7, 23) :: (23, 8, 31) :: (23, 7, 30) :: (23, 6, 29) :: (23, 5, 28) :: (23, 4, 27) :: (23, 3, 26) :: (23, 2, 25) :: (23, 1, 24) :: R) ((22, 2, 2) :: (22, 1, 4) :: (22, 0, 3) :: V) → Q (.inl none) S' iv') : am_M E (d + 2) mX0_init 19 1915 [.ref 22] S0 iv0 Q := by
  refine am_enter (js := []) rfl pn_X0 rfl rfl rfl (Nat.le_of_ble_eq_true rfl) ?_
  refine (sX0_init_0 rfl (sX0_init_1 (Nat.le_of_ble_eq_true rfl) (sX0_init_4 rfl (sX0_init_5 (sX0_init_6 (hP0.k (by decide) rfl) ?_)))))
  have hP1 := hP0.w (a := 22) (k := 0) (x := (3 : Int32)) (by decide) rfl
  generalize am_w iv0 22 0 (3 : Int32) = iv1 at hP1 ⊢
  refine (sX0_init_9 rfl (sX0_init_10 (sX0_init_11 (hP1.k (by decide) rfl) ?_)))
  have hP2 := hP1.w (a := 22) (k := 1) (x := (4 : Int32)) (by decide) rfl
  generalize am_w iv1 22 1 (4 : Int32) = iv2 at hP2 ⊢
  refine (sX0_init_14 rfl (sX0_init_15 (sX0_init_16 (hP2.k (by decide) rfl) ?_)))
  have hP3 := hP2.w (a := 22) (k := 2) (x := (2 : Int32)) (by decide) rfl
  generalize am_w iv2 22 2 (2 : Int32) = iv3 at hP3 ⊢
  refine (sX0_init_19 rfl (sX0_init_20 (k := 18) (n := 1904) ?_))
  have hP4 := hP3.new (t := (.inl 2)) (m' := 24) rfl rfl
  rw [hP3.1]
  generalize am_new S0 (.inl 2) = S1 at hP4 ⊢
  generalize am_0 S0 iv3 = iv4 at hP4 ⊢
  refine (sX0_init_23 rfl (sX0_init_24 (k' := 8) (k := 10) (n' := 80) (n := 1824) (Nat.le_of_ble_eq_true rfl) (N_X2_init_23 hP4 (fun S2 iv5 hP5 => ⟨rfl, ?_⟩))))
  refine (sX0_init_27 (hP5.k (by decide) rfl) ?_)
  have hP6 := hP5.wr (a := 22) (k := 7) (b := 23) (by decide) rfl
  generalize am_wr S2 22 7 23 = S3 at hP6 ⊢
  refine (sX0_init_30 rfl (sX0_init_31 (k := 9) (n := 1820) ?_))
  have hP7 := hP6.new (t := (.inl 4)) (m' := 33) rfl rfl
  rw [hP6.1]
  generalize am_new S3 (.inl 4) = S4 at hP7 ⊢
  generalize am_0 S3 iv5 = iv6 at hP7 ⊢
  refine (sX0_init_34 rfl (sX0_init_35 (k' := 3) (k := 6) (n' := 15) (n := 1805) (Nat.le_of_ble_eq_true rfl) (N_X4_init_32 hP7 (fun S5 iv7 hP8 => ⟨rfl, ?_⟩))))
  refine (sX0_init_38 (hP8.k (by decide) rfl) ?_)
  have hP9 := hP8.wr (a := 22) (k := 8) (b := 32) (by decide) rfl
  generalize am_wr S5 22 8 32 = S6 at hP9 ⊢
  refine (sX0_init_41 rfl (sX0_init_42 (k := 5) (n := 1800) ?_))
  have hP10 := hP9.new (t := (.inl 5)) (m' := 37) rfl rfl
  rw [hP9.1]
  generalize am_new S6 (.inl 5) = S7 at hP10 ⊢
  generalize am_0 S6 iv7 = iv8 at hP10 ⊢
  refine (sX0_init_45 rfl (sX0_init_46 (k' := 3) (k := 2) (n' := 769) (n := 1031) (Nat.le_of_ble_eq_true rfl) (N_X5_init_36 hP10 (fun S8 iv9 hP11 => ⟨rfl, ?_⟩))))
  refine (sX0_init_49 (hP11.k (by decide) rfl) ?_)
  have hP12 := hP11.wr (a := 22) (k := 9) (b := 36) (by decide) rfl
  generalize am_wr S8 22 9 36 = S9 at hP12 ⊢
  refine (sX0_init_52 rfl (sX0_init_53 (sX0_init_55 (k := 1) (n := 1024) (m := 7) (by decide) (by decide) (by decide) ?_)))
  have hP13 := hP12.new (t := (.inr (.int, 7))) (m' := 41) rfl rfl
  rw [hP12.1]
  generalize am_new S9 (.inr (.int, 7)) = S10 at hP13 ⊢
  generalize am_0 S9 iv9 = iv10 at hP13 ⊢
  refine (sX0_init_57 (hP13.k (by decide) rfl) ?_)
  have hP14 := hP13.wr (a := 22) (k := 10) (b := 40) (by decide) rfl
  generalize am_wr S10 22 10 40 = S11 at hP14 ⊢
  refine (sX0_init_60 rfl (sX0_init_61 (sX0_init_64 (k := 0) (n := 0) (m := 1024) (by decide) (by decide) (by decide) ?_)))
  have hP15 := hP14.new (t := (.inr (.int, 1024))) (m' := 42) rfl rfl
  rw [hP14.1]
  generalize am_new S11 (.inr (.int, 1024)) = S12 at hP15 ⊢
  generalize am_0 S11 iv10 = iv11 at hP15 ⊢
  refine (sX0_init_66 (hP15.k (by decide) rfl) ?_)
  have hP16 := hP15.wr (a := 22) (k := 11) (b := 41) (by decide) rfl
  generalize am_wr S12 22 11 41 = S13 at hP16 ⊢
  exact (sX0_init_69 (hQ _ _ hP16))
theorem N_X7_init_42 (hP0 : IP S0 iv0 43 R V) (hQ : ∀ S' iv', IP S' iv' 46 ((42, 8, 45) :: (42, 7, 44) :: (42, 6, 43) :: R) (V) → Q (.inl none) S' iv') : am_M E (d + 1) mX7_init 3 205 [.ref 42] S0 iv0 Q := by
  refine am_enter (js := []) rfl pn_X7 rfl rfl rfl (Nat.le_of_ble_eq_true rfl) ?_
  refine (sX7_init_0 rfl (sX7_init_1 (Nat.le_of_ble_eq_true rfl) (sX7_init_4 rfl (sX7_init_5 (sX7_init_6 (k := 2) (n := 200) (m := 5) (by decide) (by decide) (by decide) ?_)))))
  have hP1 := hP0.new (t := (.inr (.int, 5))) (m' := 44) rfl rfl
  rw [hP0.1]
  generalize am_new S0 (.inr (.int, 5)) = S1 at hP1 ⊢
  generalize am_0 S0 iv0 = iv1 at hP1 ⊢
  refine (sX7_init_8 (hP1.k (by decide) rfl) ?_)
  have hP2 := hP1.wr (a := 42) (k := 6) (b := 43) (by decide) rfl
  generalize am_wr S1 42 6 43 = S2 at hP2 ⊢
  refine (sX7_init_11 rfl (sX7_init_12 (sX7_init_14 (k := 1) (n := 100) (m := 100) (by decide) (by decide) (by decide) ?_)))
  have hP3 := hP2.new (t := (.inr (.int, 100))) (m' := 45) rfl rfl
  rw [hP2.1]
  generalize am_new S2 (.inr (.int, 100)) = S3 at hP3 ⊢
  generalize am_0 S2 iv1 = iv2 at hP3 ⊢
  refine (sX7_init_16 (hP3.k (by decide) rfl) ?_)
  have hP4 := hP3.wr (a := 42) (k := 7) (b := 44) (by decide) rfl
  generalize am_wr S3 42 7 44 = S4 at hP4 ⊢
  refine (sX7_init_19 rfl (sX7_init_20 (sX7_init_22 (k := 0) (n := 0) (m := 100) (by decide) (by decide) (by decide) ?_)))
  have hP5 := hP4.new (t := (.inr (.int, 100))) (m' := 46) rfl rfl
  rw [hP4.1]
  generalize am_new S4 (.inr (.int, 100)) = S5 at hP5 ⊢
  generalize am_0 S4 iv2 = iv3 at hP5 ⊢
  refine (sX7_init_24 (hP5.k (by decide) rfl) ?_)
  have hP6 := hP5.wr (a := 42) (k := 8) (b := 45) (by decide) rfl
  generalize am_wr S5 42 8 45 = S6 at hP6 ⊢
  exact (sX7_init_27 (hQ _ _ hP6))
theorem N_X7_init_46 (hP0 : IP S0 iv0 47 R V) (hQ : ∀ S' iv', IP S' iv' 50 ((46, 8, 49) :: (46, 7, 48) :: (46, 6, 47) :: R) (V) → Q (.inl none) S' iv') : am_M E (d + 1) mX7_init 3 205 [.ref 46] S0 iv0 Q := by
  refine am_enter (js := []) rfl pn_X7 rfl rfl rfl (Nat.le_of_ble_eq_true rfl) ?_
  refine (sX7_init_0 rfl (sX7_init_1 (Nat.le_of_ble_eq_true rfl) (sX7_init_4 rfl (sX7_init_5 (sX7_init_6 (k := 2) (n := 200) (m := 5) (by decide) (by decide) (by decide) ?_)))))
  have hP1 := hP0.new (t := (.inr (.int, 5))) (m' := 48) rfl rfl
  rw [hP0.1]
  generalize am_new S0 (.inr (.int, 5)) = S1 at hP1 ⊢
  generalize am_0 S0 iv0 = iv1 at hP1 ⊢
  refine (sX7_init_8 (hP1.k (by decide) rfl) ?_)
  have hP2 := hP1.wr (a := 46) (k := 6) (b := 47) (by decide) rfl
  generalize am_wr S1 46 6 47 = S2 at hP2 ⊢
  refine (sX7_init_11 rfl (sX7_init_12 (sX7_init_14 (k := 1) (n := 100) (m := 100) (by decide) (by decide) (by decide) ?_)))
  have hP3 := hP2.new (t := (.inr (.int, 100))) (m' := 49) rfl rfl
  rw [hP2.1]
  generalize am_new S2 (.inr (.int, 100)) = S3 at hP3 ⊢
  generalize am_0 S2 iv1 = iv2 at hP3 ⊢
  refine (sX7_init_16 (hP3.k (by decide) rfl) ?_)
  have hP4 := hP3.wr (a := 46) (k := 7) (b := 48) (by decide) rfl
  generalize am_wr S3 46 7 48 = S4 at hP4 ⊢
  refine (sX7_init_19 rfl (sX7_init_20 (sX7_init_22 (k := 0) (n := 0) (m := 100) (by decide) (by decide) (by decide) ?_)))
  have hP5 := hP4.new (t := (.inr (.int, 100))) (m' := 50) rfl rfl
  rw [hP4.1]
  generalize am_new S4 (.inr (.int, 100)) = S5 at hP5 ⊢
  generalize am_0 S4 iv2 = iv3 at hP5 ⊢
  refine (sX7_init_24 (hP5.k (by decide) rfl) ?_)
  have hP6 := hP5.wr (a := 46) (k := 8) (b := 49) (by decide) rfl
  generalize am_wr S5 46 8 49 = S6 at hP6 ⊢
  exact (sX7_init_27 (hQ _ _ hP6))
theorem N_X6_init_50 (hP0 : IP S0 iv0 51 R V) (hQ : ∀ S' iv', IP S' iv' 53 ((50, 1, 52) :: (50, 0, 51) :: R) (V) → Q (.inl none) S' iv') : am_M E (d + 1) mX6_init 2 0 [.ref 50] S0 iv0 Q := by
  refine am_enter (js := []) rfl pn_X6 rfl rfl rfl (Nat.le_of_ble_eq_true rfl) ?_
  refine (sX6_init_0 rfl (sX6_init_1 (Nat.le_of_ble_eq_true rfl) (sX6_init_4 rfl (sX6_init_5 (sX6_init_6 (k := 1) (n := 0) (m := 0) (by decide) (by decide) (by decide) ?_)))))
  have hP1 := hP0.new (t := (.inr (.int, 0))) (m' := 52) rfl rfl
  rw [hP0.1]
  generalize am_new S0 (.inr (.int, 0)) = S1 at hP1 ⊢
  generalize am_0 S0 iv0 = iv1 at hP1 ⊢
  refine (sX6_init_8 (hP1.k (by decide) rfl) ?_)
  have hP2 := hP1.wr (a := 50) (k := 0) (b := 51) (by decide) rfl
  generalize am_wr S1 50 0 51 = S2 at hP2 ⊢
  refine (sX6_init_11 rfl (sX6_init_12 (sX6_init_13 (k := 0) (n := 0) (m := 0) (by decide) (by decide) (by decide) ?_)))
  have hP3 := hP2.new (t := (.inr (.int, 0))) (m' := 53) rfl rfl
  rw [hP2.1]
  generalize am_new S2 (.inr (.int, 0)) = S3 at hP3 ⊢
  generalize am_0 S2 iv1 = iv2 at hP3 ⊢
  refine (sX6_init_15 (hP3.k (by decide) rfl) ?_)
  have hP4 := hP3.wr (a := 50) (k := 1) (b := 52) (by decide) rfl
  generalize am_wr S3 50 1 52 = S4 at hP4 ⊢
  exact (sX6_init_18 (hQ _ _ hP4))
theorem N_X9_init_0 (hP0 : IP S0 iv0 1 R V) (hQ : ∀ S' iv', IP S' iv' 54 ((0, 9, 53) :: (0, 8, 50) :: (50, 1, 52) :: (50, 0, 51) :: (0, 6, 46) :: (46, 8, 49) :: (46, 7, 48) :: (46, 6, 47) :: (0, 5, 42) :: (42, 8, 45) :: (42, 7, 44) :: (42, 6, 43) :: (0, 4, 22) :: (22, 11, 41) :: (22, 10, 40) :: (22, 9, 36) :: (36, 4, 39) :: (36, 3, 38) :: (36, 2, 37) :: (22, 8, 32) :: (32, 3, 35) :: (32, 2, 34) :: (32, 1, 33) :: (22, 7, 23) :: (23, 8, 31) :: (23, 7, 30) :: (23, 6, 29) :: (23, 5, 28) :: (23, 4, 27) :: (23, 3, 26) :: (23, 2, 25) :: (23, 1, 24) :: (0, 3, 2) :: (2, 11, 21) :: (2, 10, 20) :: (2, 9, 16) :: (16, 4, 19) :: (16, 3, 18) :: (16, 2, 17) :: (2, 8, 12) :: (12, 3, 15) :: (12, 2, 14) :: (12, 1, 13) :: (2, 7, 3) :: (3, 8, 11) :: (3, 7, 10) :: (3, 6, 9) :: (3, 5, 8) :: (3, 4, 7) :: (3, 3, 6) :: (3, 2, 5) :: (3, 1, 4) :: (0, 0, 1) :: R) ((0, 10, -1) :: (22, 2, 2) :: (22, 1, 4) :: (22, 0, 3) :: (2, 2, 2) :: (2, 1, 4) :: (2, 0, 3) :: (0, 2, -1) :: V) → Q (.inl none) S' iv') : am_M E (d + 3) mX9_init 53 4996 [.ref 0] S0 iv0 Q := by
  refine am_enter (js := []) rfl pn_X9 rfl rfl rfl (Nat.le_of_ble_eq_true rfl) ?_
  refine (sX9_init_0 rfl (sX9_init_1 (Nat.le_of_ble_eq_true rfl) (sX9_init_4 rfl (sX9_init_5 (sX9_init_8 (k := 52) (n := 4296) (m := 700) (by decide) (by decide) (by decide) ?_)))))
  have hP1 := hP0.new (t := (.inr (.byte, 700))) (m' := 2) rfl rfl
  rw [hP0.1]
  generalize am_new S0 (.inr (.byte, 700)) = S1 at hP1 ⊢
  generalize am_0 S0 iv0 = iv1 at hP1 ⊢
  refine (sX9_init_10 (hP1.k (by decide) rfl) ?_)
  have hP2 := hP1.wr (a := 0) (k := 0) (b := 1) (by decide) rfl
  generalize am_wr S1 0 0 1 = S2 at hP2 ⊢
  refine (sX9_init_13 rfl (sX9_init_14 (sX9_init_15 (hP2.k (by decide) rfl) ?_)))
  have hP3 := hP2.w (a := 0) (k := 2) (x := (-1 : Int32)) (by decide) rfl
  generalize am_w iv1 0 2 (-1 : Int32) = iv2 at hP3 ⊢
  refine (sX9_init_18 rfl (sX9_init_19 (k := 51) (n := 4284) ?_))
  have hP4 := hP3.new (t := (.inl 0)) (m' := 3) rfl rfl
  rw [hP3.1]
  generalize am_new S2 (.inl 0) = S3 at hP4 ⊢
  generalize am_0 S2 iv2 = iv3 at hP4 ⊢
  refine (sX9_init_22 rfl (sX9_init_23 (k' := 19) (k := 32) (n' := 1915) (n := 2369) (Nat.le_of_ble_eq_true rfl) (N_X0_init_2 hP4 (fun S4 iv4 hP5 => ⟨rfl, ?_⟩))))
  refine (sX9_init_26 (hP5.k (by decide) rfl) ?_)
  have hP6 := hP5.wr (a := 0) (k := 3) (b := 2) (by decide) rfl
  generalize am_wr S4 0 3 2 = S5 at hP6 ⊢
  refine (sX9_init_29 rfl (sX9_init_30 (k := 31) (n := 2357) ?_))
  have hP7 := hP6.new (t := (.inl 0)) (m' := 23) rfl rfl
  rw [hP6.1]
  generalize am_new S5 (.inl 0) = S6 at hP7 ⊢
  generalize am_0 S5 iv4 = iv5 at hP7 ⊢
  refine (sX9_init_33 rfl (sX9_init_34 (k' := 19) (k := 12) (n' := 1915) (n := 442) (Nat.le_of_ble_eq_true rfl) (N_X0_init_22 hP7 (fun S7 iv6 hP8 => ⟨rfl, ?_⟩))))
  refine (sX9_init_37 (hP8.k (by decide) rfl) ?_)
  have hP9 := hP8.wr (a := 0) (k := 4) (b := 22) (by decide) rfl
  generalize am_wr S7 0 4 22 = S8 at hP9 ⊢
  refine (sX9_init_40 rfl (sX9_init_41 (k := 11) (n := 433) ?_))
  have hP10 := hP9.new (t := (.inl 7)) (m' := 43) rfl rfl
  rw [hP9.1]
  generalize am_new S8 (.inl 7) = S9 at hP10 ⊢
  generalize am_0 S8 iv6 = iv7 at hP10 ⊢
  refine (sX9_init_44 rfl (sX9_init_45 (k' := 3) (k := 8) (n' := 205) (n := 228) (Nat.le_of_ble_eq_true rfl) (N_X7_init_42 hP10 (fun S10 iv8 hP11 => ⟨rfl, ?_⟩))))
  refine (sX9_init_48 (hP11.k (by decide) rfl) ?_)
  have hP12 := hP11.wr (a := 0) (k := 5) (b := 42) (by decide) rfl
  generalize am_wr S10 0 5 42 = S11 at hP12 ⊢
  refine (sX9_init_51 rfl (sX9_init_52 (k := 7) (n := 219) ?_))
  have hP13 := hP12.new (t := (.inl 7)) (m' := 47) rfl rfl
  rw [hP12.1]
  generalize am_new S11 (.inl 7) = S12 at hP13 ⊢
  generalize am_0 S11 iv8 = iv9 at hP13 ⊢
  refine (sX9_init_55 rfl (sX9_init_56 (k' := 3) (k := 4) (n' := 205) (n := 14) (Nat.le_of_ble_eq_true rfl) (N_X7_init_46 hP13 (fun S13 iv10 hP14 => ⟨rfl, ?_⟩))))
  refine (sX9_init_59 (hP14.k (by decide) rfl) ?_)
  have hP15 := hP14.wr (a := 0) (k := 6) (b := 46) (by decide) rfl
  generalize am_wr S13 0 6 46 = S14 at hP15 ⊢
  refine (sX9_init_62 rfl (sX9_init_63 (k := 3) (n := 10) ?_))
  have hP16 := hP15.new (t := (.inl 6)) (m' := 51) rfl rfl
  rw [hP15.1]
  generalize am_new S14 (.inl 6) = S15 at hP16 ⊢
  generalize am_0 S14 iv10 = iv11 at hP16 ⊢
  refine (sX9_init_66 rfl (sX9_init_67 (k' := 2) (k := 1) (n' := 0) (n := 10) (Nat.le_of_ble_eq_true rfl) (N_X6_init_50 hP16 (fun S16 iv12 hP17 => ⟨rfl, ?_⟩))))
  refine (sX9_init_70 (hP17.k (by decide) rfl) ?_)
  have hP18 := hP17.wr (a := 0) (k := 8) (b := 50) (by decide) rfl
  generalize am_wr S16 0 8 50 = S17 at hP18 ⊢
  refine (sX9_init_73 rfl (sX9_init_74 (sX9_init_76 (k := 0) (n := 0) (m := 10) (by decide) (by decide) (by decide) ?_)))
  have hP19 := hP18.new (t := (.inr (.int, 10))) (m' := 54) rfl rfl
  rw [hP18.1]
  generalize am_new S17 (.inr (.int, 10)) = S18 at hP19 ⊢
  generalize am_0 S17 iv12 = iv13 at hP19 ⊢
  refine (sX9_init_78 (hP19.k (by decide) rfl) ?_)
  have hP20 := hP19.wr (a := 0) (k := 9) (b := 53) (by decide) rfl
  generalize am_wr S18 0 9 53 = S19 at hP20 ⊢
  refine (sX9_init_81 rfl (sX9_init_82 (sX9_init_83 (hP20.k (by decide) rfl) ?_)))
  have hP21 := hP20.w (a := 0) (k := 10) (x := (-1 : Int32)) (by decide) rfl
  generalize am_w iv13 0 10 (-1 : Int32) = iv14 at hP21 ⊢
  exact (sX9_init_86 (hQ _ _ hP21))
theorem N_X10_init_54 (hP0 : IP S0 iv0 55 R V) (hQ : ∀ S' iv', IP S' iv' 88 ((54, 56, 87) :: (54, 55, 86) :: (54, 54, 85) :: (54, 53, 84) :: (54, 46, 83) :: (54, 43, 82) :: (54, 42, 81) :: (54, 41, 80) :: (54, 40, 79) :: (54, 39, 78) :: (54, 38, 77) :: (54, 37, 76) :: (54, 36, 75) :: (54, 35, 74) :: (54, 34, 73) :: (54, 33, 72) :: (54, 17, 71) :: (54, 16, 70) :: (54, 15, 69) :: (54, 14, 68) :: (54, 13, 67) :: (54, 12, 66) :: (54, 11, 65) :: (54, 10, 64) :: (54, 9, 63) :: (54, 8, 62) :: (54, 7, 61) :: (54, 6, 60) :: (54, 5, 59) :: (54, 4, 58) :: (54, 2, 57) :: (57, 6, 48) :: (57, 5, 47) :: (57, 4, 46) :: (57, 3, 45) :: (57, 2, 44) :: (57, 1, 43) :: (57, 0, 42) :: (54, 1, 56) :: (56, 2, 41) :: (56, 1, 40) :: (56, 0, 39) :: (54, 0, 55) :: (55, 3, 38) :: (55, 2, 37) :: (55, 1, 36) :: (55, 0, 35) :: R) ((54, 45, -1) :: (54, 27, -1) :: (58, 19, 0) :: (58, 18, 0) :: (58, 17, 0) :: (58, 16, 0) :: (58, 15, 0) :: (58, 14, 2) :: (58, 13, 0) :: (58, 12, 0) :: (58, 11, 4) :: (58, 10, 3) :: (58, 9, 0) :: (58, 8, 0) :: (58, 7, 0) :: (58, 6, 0) :: (58, 5, 0) :: (58, 4, 2) :: (58, 3, 0) :: (58, 2, 0) :: (58, 1, 4) :: (58, 0, 3) :: V) → Q (.inl none) S' iv') : am_M E (d + 1) mX10_init 33 167630 [.ref 54] S0 iv0 Q := by
  refine am_enter (js := []) rfl pn_X10 rfl rfl rfl (Nat.le_of_ble_eq_true rfl) ?_
  refine (sX10_init_0 rfl (sX10_init_1 (Nat.le_of_ble_eq_true rfl) (sX10_init_4 rfl (sX10_init_5 (sX10_init_6 (k := 32) (n := 167626) (m := 4) (by decide) (by decide) (by decide) ?_)))))
  have hP1 := hP0.new (t := (.inr (am_S0, 4))) (m' := 56) rfl rfl
  rw [hP0.1]
  generalize am_new S0 (.inr (am_S0, 4)) = S1 at hP1 ⊢
  generalize am_0 S0 iv0 = iv1 at hP1 ⊢
  refine (sX10_init_9 rfl (sX10_init_10 (sX10_init_11 (sX10_init_13 (hP1.k (by decide) rfl) (vp_lit (by decide)) (by rw [am_byl]; decide) ?_))))
  have hP2 := hP1.wr (a := 55) (k := 0) (k' := (0 : Int32).toNatClampNeg) (b := 35) (by decide) (by decide)
  generalize am_wr S1 55 (0 : Int32).toNatClampNeg 35 = S2 at hP2 ⊢
  refine (sX10_init_14 rfl (sX10_init_15 (sX10_init_16 (sX10_init_18 (hP2.k (by decide) rfl) (vp_lit (by decide)) (by rw [am_byl]; decide) ?_))))
  have hP3 := hP2.wr (a := 55) (k := 1) (k' := (1 : Int32).toNatClampNeg) (b := 36) (by decide) (by decide)
  generalize am_wr S2 55 (1 : Int32).toNatClampNeg 36 = S3 at hP3 ⊢
  refine (sX10_init_19 rfl (sX10_init_20 (sX10_init_21 (sX10_init_23 (hP3.k (by decide) rfl) (vp_lit (by decide)) (by rw [am_byl]; decide) ?_))))
  have hP4 := hP3.wr (a := 55) (k := 2) (k' := (2 : Int32).toNatClampNeg) (b := 37) (by decide) (by decide)
  generalize am_wr S3 55 (2 : Int32).toNatClampNeg 37 = S4 at hP4 ⊢
  refine (sX10_init_24 rfl (sX10_init_25 (sX10_init_26 (sX10_init_28 (hP4.k (by decide) rfl) (vp_lit (by decide)) (by rw [am_byl]; decide) ?_))))
  have hP5 := hP4.wr (a := 55) (k := 3) (k' := (3 : Int32).toNatClampNeg) (b := 38) (by decide) (by decide)
  generalize am_wr S4 55 (3 : Int32).toNatClampNeg 38 = S5 at hP5 ⊢
  refine (sX10_init_29 (hP5.k (by decide) rfl) ?_)
  have hP6 := hP5.wr (a := 54) (k := 0) (b := 55) (by decide) rfl
  generalize am_wr S5 54 0 55 = S6 at hP6 ⊢
  refine (sX10_init_32 rfl (sX10_init_33 (sX10_init_34 (k := 31) (n := 167623) (m := 3) (by decide) (by decide) (by decide) ?_)))
  have hP7 := hP6.new (t := (.inr (am_S0, 3))) (m' := 57) rfl rfl
  rw [hP6.1]
  generalize am_new S6 (.inr (am_S0, 3)) = S7 at hP7 ⊢
  generalize am_0 S6 iv1 = iv2 at hP7 ⊢
  refine (sX10_init_37 rfl (sX10_init_38 (sX10_init_39 (sX10_init_41 (hP7.k (by decide) rfl) (vp_lit (by decide)) (by rw [am_byl]; decide) ?_))))
  have hP8 := hP7.wr (a := 56) (k := 0) (k' := (0 : Int32).toNatClampNeg) (b := 39) (by decide) (by decide)
  generalize am_wr S7 56 (0 : Int32).toNatClampNeg 39 = S8 at hP8 ⊢
  refine (sX10_init_42 rfl (sX10_init_43 (sX10_init_44 (sX10_init_46 (hP8.k (by decide) rfl) (vp_lit (by decide)) (by rw [am_byl]; decide) ?_))))
  have hP9 := hP8.wr (a := 56) (k := 1) (k' := (1 : Int32).toNatClampNeg) (b := 40) (by decide) (by decide)
  generalize am_wr S8 56 (1 : Int32).toNatClampNeg 40 = S9 at hP9 ⊢
  refine (sX10_init_47 rfl (sX10_init_48 (sX10_init_49 (sX10_init_51 (hP9.k (by decide) rfl) (vp_lit (by decide)) (by rw [am_byl]; decide) ?_))))
  have hP10 := hP9.wr (a := 56) (k := 2) (k' := (2 : Int32).toNatClampNeg) (b := 41) (by decide) (by decide)
  generalize am_wr S9 56 (2 : Int32).toNatClampNeg 41 = S10 at hP10 ⊢
  refine (sX10_init_52 (hP10.k (by decide) rfl) ?_)
  have hP11 := hP10.wr (a := 54) (k := 1) (b := 56) (by decide) rfl
  generalize am_wr S10 54 1 56 = S11 at hP11 ⊢
  refine (sX10_init_55 rfl (sX10_init_56 (sX10_init_58 (k := 30) (n := 167616) (m := 7) (by decide) (by decide) (by decide) ?_)))
  have hP12 := hP11.new (t := (.inr (am_S0, 7))) (m' := 58) rfl rfl
  rw [hP11.1]
  generalize am_new S11 (.inr (am_S0, 7)) = S12 at hP12 ⊢
  generalize am_0 S11 iv2 = iv3 at hP12 ⊢
  refine (sX10_init_61 rfl (sX10_init_62 (sX10_init_63 (sX10_init_65 (hP12.k (by decide) rfl) (vp_lit (by decide)) (by rw [am_byl]; decide) ?_))))
  have hP13 := hP12.wr (a := 57) (k := 0) (k' := (0 : Int32).toNatClampNeg) (b := 42) (by decide) (by decide)
  generalize am_wr S12 57 (0 : Int32).toNatClampNeg 42 = S13 at hP13 ⊢
  refine (sX10_init_66 rfl (sX10_init_67 (sX10_init_68 (sX10_init_70 (hP13.k (by decide) rfl) (vp_lit (by decide)) (by rw [am_byl]; decide) ?_))))
  have hP14 := hP13.wr (a := 57) (k := 1) (k' := (1 : Int32).toNatClampNeg) (b := 43) (by decide) (by decide)
  generalize am_wr S13 57 (1 : Int32).toNatClampNeg 43 = S14 at hP14 ⊢
  refine (sX10_init_71 rfl (sX10_init_72 (sX10_init_73 (sX10_init_75 (hP14.k (by decide) rfl) (vp_lit (by decide)) (by rw [am_byl]; decide) ?_))))
  have hP15 := hP14.wr (a := 57) (k := 2) (k' := (2 : Int32).toNatClampNeg) (b := 44) (by decide) (by decide)
  generalize am_wr S14 57 (2 : Int32).toNatClampNeg 44 = S15 at hP15 ⊢
  refine (sX10_init_76 rfl (sX10_init_77 (sX10_init_78 (sX10_init_80 (hP15.k (by decide) rfl) (vp_lit (by decide)) (by rw [am_byl]; decide) ?_))))
  have hP16 := hP15.wr (a := 57) (k := 3) (k' := (3 : Int32).toNatClampNeg) (b := 45) (by decide) (by decide)
  generalize am_wr S15 57 (3 : Int32).toNatClampNeg 45 = S16 at hP16 ⊢
  refine (sX10_init_81 rfl (sX10_init_82 (sX10_init_83 (sX10_init_85 (hP16.k (by decide) rfl) (vp_lit (by decide)) (by rw [am_byl]; decide) ?_))))
  have hP17 := hP16.wr (a := 57) (k := 4) (k' := (4 : Int32).toNatClampNeg) (b := 46) (by decide) (by decide)
  generalize am_wr S16 57 (4 : Int32).toNatClampNeg 46 = S17 at hP17 ⊢
  refine (sX10_init_86 rfl (sX10_init_87 (sX10_init_88 (sX10_init_90 (hP17.k (by decide) rfl) (vp_lit (by decide)) (by rw [am_byl]; decide) ?_))))
  have hP18 := hP17.wr (a := 57) (k := 5) (k' := (5 : Int32).toNatClampNeg) (b := 47) (by decide) (by decide)
  generalize am_wr S17 57 (5 : Int32).toNatClampNeg 47 = S18 at hP18 ⊢
  refine (sX10_init_91 rfl (sX10_init_92 (sX10_init_94 (sX10_init_96 (hP18.k (by decide) rfl) (vp_lit (by decide)) (by rw [am_byl]; decide) ?_))))
  have hP19 := hP18.wr (a := 57) (k := 6) (k' := (6 : Int32).toNatClampNeg) (b := 48) (by decide) (by decide)
  generalize am_wr S18 57 (6 : Int32).toNatClampNeg 48 = S19 at hP19 ⊢
  refine (sX10_init_97 (hP19.k (by decide) rfl) ?_)
  have hP20 := hP19.wr (a := 54) (k := 2) (b := 57) (by decide) rfl
  generalize am_wr S19 54 2 57 = S20 at hP20 ⊢
  refine (sX10_init_100 rfl (sX10_init_101 (sX10_init_103 (k := 29) (n := 167596) (m := 20) (by decide) (by decide) (by decide) ?_)))
  have hP21 := hP20.new (t := (.inr (.int, 20))) (m' := 59) rfl rfl
  rw [hP20.1]
  generalize am_new S20 (.inr (.int, 20)) = S21 at hP21 ⊢
  generalize am_0 S20 iv3 = iv4 at hP21 ⊢
  refine (sX10_init_105 rfl (sX10_init_106 (sX10_init_107 (sX10_init_108 (hP21.k (by decide) rfl) (vp_lit (by decide)) ?_))))
  have hP22 := hP21.w (a := 58) (k := 0) (k' := (0 : Int32).toNatClampNeg) (x := (3 : Int32)) (by decide) (by decide)
  generalize am_w iv4 58 (0 : Int32).toNatClampNeg (3 : Int32) = iv5 at hP22 ⊢
  refine (sX10_init_109 rfl (sX10_init_110 (sX10_init_111 (sX10_init_112 (hP22.k (by decide) rfl) (vp_lit (by decide)) ?_))))
  have hP23 := hP22.w (a := 58) (k := 1) (k' := (1 : Int32).toNatClampNeg) (x := (4 : Int32)) (by decide) (by decide)
  generalize am_w iv5 58 (1 : Int32).toNatClampNeg (4 : Int32) = iv6 at hP23 ⊢
  refine (sX10_init_113 rfl (sX10_init_114 (sX10_init_115 (sX10_init_116 (hP23.k (by decide) rfl) (vp_lit (by decide)) ?_))))
  have hP24 := hP23.w (a := 58) (k := 2) (k' := (2 : Int32).toNatClampNeg) (x := (0 : Int32)) (by decide) (by decide)
  generalize am_w iv6 58 (2 : Int32).toNatClampNeg (0 : Int32) = iv7 at hP24 ⊢
  refine (sX10_init_117 rfl (sX10_init_118 (sX10_init_119 (sX10_init_120 (hP24.k (by decide) rfl) (vp_lit (by decide)) ?_))))
  have hP25 := hP24.w (a := 58) (k := 3) (k' := (3 : Int32).toNatClampNeg) (x := (0 : Int32)) (by decide) (by decide)
  generalize am_w iv7 58 (3 : Int32).toNatClampNeg (0 : Int32) = iv8 at hP25 ⊢
  refine (sX10_init_121 rfl (sX10_init_122 (sX10_init_123 (sX10_init_124 (hP25.k (by decide) rfl) (vp_lit (by decide)) ?_))))
  have hP26 := hP25.w (a := 58) (k := 4) (k' := (4 : Int32).toNatClampNeg) (x := (2 : Int32)) (by decide) (by decide)
  generalize am_w iv8 58 (4 : Int32).toNatClampNeg (2 : Int32) = iv9 at hP26 ⊢
  refine (sX10_init_125 rfl (sX10_init_126 (sX10_init_127 (sX10_init_128 (hP26.k (by decide) rfl) (vp_lit (by decide)) ?_))))
  have hP27 := hP26.w (a := 58) (k := 5) (k' := (5 : Int32).toNatClampNeg) (x := (0 : Int32)) (by decide) (by decide)
  generalize am_w iv9 58 (5 : Int32).toNatClampNeg (0 : Int32) = iv10 at hP27 ⊢
  refine (sX10_init_129 rfl (sX10_init_130 (sX10_init_132 (sX10_init_133 (hP27.k (by decide) rfl) (vp_lit (by decide)) ?_))))
  have hP28 := hP27.w (a := 58) (k := 6) (k' := (6 : Int32).toNatClampNeg) (x := (0 : Int32)) (by decide) (by decide)
  generalize am_w iv10 58 (6 : Int32).toNatClampNeg (0 : Int32) = iv11 at hP28 ⊢
  refine (sX10_init_134 rfl (sX10_init_135 (sX10_init_137 (sX10_init_138 (hP28.k (by decide) rfl) (vp_lit (by decide)) ?_))))
  have hP29 := hP28.w (a := 58) (k := 7) (k' := (7 : Int32).toNatClampNeg) (x := (0 : Int32)) (by decide) (by decide)
  generalize am_w iv11 58 (7 : Int32).toNatClampNeg (0 : Int32) = iv12 at hP29 ⊢
  refine (sX10_init_139 rfl (sX10_init_140 (sX10_init_142 (sX10_init_143 (hP29.k (by decide) rfl) (vp_lit (by decide)) ?_))))
  have hP30 := hP29.w (a := 58) (k := 8) (k' := (8 : Int32).toNatClampNeg) (x := (0 : Int32)) (by decide) (by decide)
  generalize am_w iv12 58 (8 : Int32).toNatClampNeg (0 : Int32) = iv13 at hP30 ⊢
  refine (sX10_init_144 rfl (sX10_init_145 (sX10_init_147 (sX10_init_148 (hP30.k (by decide) rfl) (vp_lit (by decide)) ?_))))
  have hP31 := hP30.w (a := 58) (k := 9) (k' := (9 : Int32).toNatClampNeg) (x := (0 : Int32)) (by decide) (by decide)
  generalize am_w iv13 58 (9 : Int32).toNatClampNeg (0 : Int32) = iv14 at hP31 ⊢
  refine (sX10_init_149 rfl (sX10_init_150 (sX10_init_152 (sX10_init_153 (hP31.k (by decide) rfl) (vp_lit (by decide)) ?_))))
  have hP32 := hP31.w (a := 58) (k := 10) (k' := (10 : Int32).toNatClampNeg) (x := (3 : Int32)) (by decide) (by decide)
  generalize am_w iv14 58 (10 : Int32).toNatClampNeg (3 : Int32) = iv15 at hP32 ⊢
  refine (sX10_init_154 rfl (sX10_init_155 (sX10_init_157 (sX10_init_158 (hP32.k (by decide) rfl) (vp_lit (by decide)) ?_))))
  have hP33 := hP32.w (a := 58) (k := 11) (k' := (11 : Int32).toNatClampNeg) (x := (4 : Int32)) (by decide) (by decide)
  generalize am_w iv15 58 (11 : Int32).toNatClampNeg (4 : Int32) = iv16 at hP33 ⊢
  refine (sX10_init_159 rfl (sX10_init_160 (sX10_init_162 (sX10_init_163 (hP33.k (by decide) rfl) (vp_lit (by decide)) ?_))))
  have hP34 := hP33.w (a := 58) (k := 12) (k' := (12 : Int32).toNatClampNeg) (x := (0 : Int32)) (by decide) (by decide)
  generalize am_w iv16 58 (12 : Int32).toNatClampNeg (0 : Int32) = iv17 at hP34 ⊢
  refine (sX10_init_164 rfl (sX10_init_165 (sX10_init_167 (sX10_init_168 (hP34.k (by decide) rfl) (vp_lit (by decide)) ?_))))
  have hP35 := hP34.w (a := 58) (k := 13) (k' := (13 : Int32).toNatClampNeg) (x := (0 : Int32)) (by decide) (by decide)
  generalize am_w iv17 58 (13 : Int32).toNatClampNeg (0 : Int32) = iv18 at hP35 ⊢
  refine (sX10_init_169 rfl (sX10_init_170 (sX10_init_172 (sX10_init_173 (hP35.k (by decide) rfl) (vp_lit (by decide)) ?_))))
  have hP36 := hP35.w (a := 58) (k := 14) (k' := (14 : Int32).toNatClampNeg) (x := (2 : Int32)) (by decide) (by decide)
  generalize am_w iv18 58 (14 : Int32).toNatClampNeg (2 : Int32) = iv19 at hP36 ⊢
  refine (sX10_init_174 rfl (sX10_init_175 (sX10_init_177 (sX10_init_178 (hP36.k (by decide) rfl) (vp_lit (by decide)) ?_))))
  have hP37 := hP36.w (a := 58) (k := 15) (k' := (15 : Int32).toNatClampNeg) (x := (0 : Int32)) (by decide) (by decide)
  generalize am_w iv19 58 (15 : Int32).toNatClampNeg (0 : Int32) = iv20 at hP37 ⊢
  refine (sX10_init_179 rfl (sX10_init_180 (sX10_init_182 (sX10_init_183 (hP37.k (by decide) rfl) (vp_lit (by decide)) ?_))))
  have hP38 := hP37.w (a := 58) (k := 16) (k' := (16 : Int32).toNatClampNeg) (x := (0 : Int32)) (by decide) (by decide)
  generalize am_w iv20 58 (16 : Int32).toNatClampNeg (0 : Int32) = iv21 at hP38 ⊢
  refine (sX10_init_184 rfl (sX10_init_185 (sX10_init_187 (sX10_init_188 (hP38.k (by decide) rfl) (vp_lit (by decide)) ?_))))
  have hP39 := hP38.w (a := 58) (k := 17) (k' := (17 : Int32).toNatClampNeg) (x := (0 : Int32)) (by decide) (by decide)
  generalize am_w iv21 58 (17 : Int32).toNatClampNeg (0 : Int32) = iv22 at hP39 ⊢
  refine (sX10_init_189 rfl (sX10_init_190 (sX10_init_192 (sX10_init_193 (hP39.k (by decide) rfl) (vp_lit (by decide)) ?_))))
  have hP40 := hP39.w (a := 58) (k := 18) (k' := (18 : Int32).toNatClampNeg) (x := (0 : Int32)) (by decide) (by decide)
  generalize am_w iv22 58 (18 : Int32).toNatClampNeg (0 : Int32) = iv23 at hP40 ⊢
  refine (sX10_init_194 rfl (sX10_init_195 (sX10_init_197 (sX10_init_198 (hP40.k (by decide) rfl) (vp_lit (by decide)) ?_))))
  have hP41 := hP40.w (a := 58) (k := 19) (k' := (19 : Int32).toNatClampNeg) (x := (0 : Int32)) (by decide) (by decide)
  generalize am_w iv23 58 (19 : Int32).toNatClampNeg (0 : Int32) = iv24 at hP41 ⊢
  refine (sX10_init_199 (hP41.k (by decide) rfl) ?_)
  have hP42 := hP41.wr (a := 54) (k := 4) (b := 58) (by decide) rfl
  generalize am_wr S21 54 4 58 = S22 at hP42 ⊢
  refine (sX10_init_202 rfl (sX10_init_203 (sX10_init_205 (k := 28) (n := 167576) (m := 20) (by decide) (by decide) (by decide) ?_)))
  have hP43 := hP42.new (t := (.inr (.int, 20))) (m' := 60) rfl rfl
  rw [hP42.1]
  generalize am_new S22 (.inr (.int, 20)) = S23 at hP43 ⊢
  generalize am_0 S22 iv24 = iv25 at hP43 ⊢
  refine (sX10_init_207 (hP43.k (by decide) rfl) ?_)
  have hP44 := hP43.wr (a := 54) (k := 5) (b := 59) (by decide) rfl
  generalize am_wr S23 54 5 59 = S24 at hP44 ⊢
  refine (sX10_init_210 rfl (sX10_init_211 (sX10_init_213 (k := 27) (n := 167556) (m := 20) (by decide) (by decide) (by decide) ?_)))
  have hP45 := hP44.new (t := (.inr (.int, 20))) (m' := 61) rfl rfl
  rw [hP44.1]
  generalize am_new S24 (.inr (.int, 20)) = S25 at hP45 ⊢
  generalize am_0 S24 iv25 = iv26 at hP45 ⊢
  refine (sX10_init_215 (hP45.k (by decide) rfl) ?_)
  have hP46 := hP45.wr (a := 54) (k := 6) (b := 60) (by decide) rfl
  generalize am_wr S25 54 6 60 = S26 at hP46 ⊢
  refine (sX10_init_218 rfl (sX10_init_219 (sX10_init_221 (k := 26) (n := 167536) (m := 20) (by decide) (by decide) (by decide) ?_)))
  have hP47 := hP46.new (t := (.inr (.int, 20))) (m' := 62) rfl rfl
  rw [hP46.1]
  generalize am_new S26 (.inr (.int, 20)) = S27 at hP47 ⊢
  generalize am_0 S26 iv26 = iv27 at hP47 ⊢
  refine (sX10_init_223 (hP47.k (by decide) rfl) ?_)
  have hP48 := hP47.wr (a := 54) (k := 7) (b := 61) (by decide) rfl
  generalize am_wr S27 54 7 61 = S28 at hP48 ⊢
  refine (sX10_init_226 rfl (sX10_init_227 (sX10_init_229 (k := 25) (n := 167516) (m := 20) (by decide) (by decide) (by decide) ?_)))
  have hP49 := hP48.new (t := (.inr (.int, 20))) (m' := 63) rfl rfl
  rw [hP48.1]
  generalize am_new S28 (.inr (.int, 20)) = S29 at hP49 ⊢
  generalize am_0 S28 iv27 = iv28 at hP49 ⊢
  refine (sX10_init_231 (hP49.k (by decide) rfl) ?_)
  have hP50 := hP49.wr (a := 54) (k := 8) (b := 62) (by decide) rfl
  generalize am_wr S29 54 8 62 = S30 at hP50 ⊢
  refine (sX10_init_234 rfl (sX10_init_235 (sX10_init_237 (k := 24) (n := 167496) (m := 20) (by decide) (by decide) (by decide) ?_)))
  have hP51 := hP50.new (t := (.inr (.int, 20))) (m' := 64) rfl rfl
  rw [hP50.1]
  generalize am_new S30 (.inr (.int, 20)) = S31 at hP51 ⊢
  generalize am_0 S30 iv28 = iv29 at hP51 ⊢
  refine (sX10_init_239 (hP51.k (by decide) rfl) ?_)
  have hP52 := hP51.wr (a := 54) (k := 9) (b := 63) (by decide) rfl
  generalize am_wr S31 54 9 63 = S32 at hP52 ⊢
  refine (sX10_init_242 rfl (sX10_init_243 (sX10_init_245 (k := 23) (n := 167486) (m := 10) (by decide) (by decide) (by decide) ?_)))
  have hP53 := hP52.new (t := (.inr (.int, 10))) (m' := 65) rfl rfl
  rw [hP52.1]
  generalize am_new S32 (.inr (.int, 10)) = S33 at hP53 ⊢
  generalize am_0 S32 iv29 = iv30 at hP53 ⊢
  refine (sX10_init_247 (hP53.k (by decide) rfl) ?_)
  have hP54 := hP53.wr (a := 54) (k := 10) (b := 64) (by decide) rfl
  generalize am_wr S33 54 10 64 = S34 at hP54 ⊢
  refine (sX10_init_250 rfl (sX10_init_251 (sX10_init_253 (k := 22) (n := 167476) (m := 10) (by decide) (by decide) (by decide) ?_)))
  have hP55 := hP54.new (t := (.inr (.int, 10))) (m' := 66) rfl rfl
  rw [hP54.1]
  generalize am_new S34 (.inr (.int, 10)) = S35 at hP55 ⊢
  generalize am_0 S34 iv30 = iv31 at hP55 ⊢
  refine (sX10_init_255 (hP55.k (by decide) rfl) ?_)
  have hP56 := hP55.wr (a := 54) (k := 11) (b := 65) (by decide) rfl
  generalize am_wr S35 54 11 65 = S36 at hP56 ⊢
  refine (sX10_init_258 rfl (sX10_init_259 (sX10_init_261 (k := 21) (n := 167466) (m := 10) (by decide) (by decide) (by decide) ?_)))
  have hP57 := hP56.new (t := (.inr (.int, 10))) (m' := 67) rfl rfl
  rw [hP56.1]
  generalize am_new S36 (.inr (.int, 10)) = S37 at hP57 ⊢
  generalize am_0 S36 iv31 = iv32 at hP57 ⊢
  refine (sX10_init_263 (hP57.k (by decide) rfl) ?_)
  have hP58 := hP57.wr (a := 54) (k := 12) (b := 66) (by decide) rfl
  generalize am_wr S37 54 12 66 = S38 at hP58 ⊢
  refine (sX10_init_266 rfl (sX10_init_267 (sX10_init_269 (k := 20) (n := 167458) (m := 8) (by decide) (by decide) (by decide) ?_)))
  have hP59 := hP58.new (t := (.inr (.int, 8))) (m' := 68) rfl rfl
  rw [hP58.1]
  generalize am_new S38 (.inr (.int, 8)) = S39 at hP59 ⊢
  generalize am_0 S38 iv32 = iv33 at hP59 ⊢
  refine (sX10_init_271 (hP59.k (by decide) rfl) ?_)
  have hP60 := hP59.wr (a := 54) (k := 13) (b := 67) (by decide) rfl
  generalize am_wr S39 54 13 67 = S40 at hP60 ⊢
  refine (sX10_init_274 rfl (sX10_init_275 (sX10_init_277 (k := 19) (n := 167450) (m := 8) (by decide) (by decide) (by decide) ?_)))
  have hP61 := hP60.new (t := (.inr (.int, 8))) (m' := 69) rfl rfl
  rw [hP60.1]
  generalize am_new S40 (.inr (.int, 8)) = S41 at hP61 ⊢
  generalize am_0 S40 iv33 = iv34 at hP61 ⊢
  refine (sX10_init_279 (hP61.k (by decide) rfl) ?_)
  have hP62 := hP61.wr (a := 54) (k := 14) (b := 68) (by decide) rfl
  generalize am_wr S41 54 14 68 = S42 at hP62 ⊢
  refine (sX10_init_282 rfl (sX10_init_283 (sX10_init_286 (k := 18) (n := 166050) (m := 1400) (by decide) (by decide) (by decide) ?_)))
  have hP63 := hP62.new (t := (.inr (.int, 1400))) (m' := 70) rfl rfl
  rw [hP62.1]
  generalize am_new S42 (.inr (.int, 1400)) = S43 at hP63 ⊢
  generalize am_0 S42 iv34 = iv35 at hP63 ⊢
  refine (sX10_init_288 (hP63.k (by decide) rfl) ?_)
  have hP64 := hP63.wr (a := 54) (k := 15) (b := 69) (by decide) rfl
  generalize am_wr S43 54 15 69 = S44 at hP64 ⊢
  refine (sX10_init_291 rfl (sX10_init_292 (sX10_init_293 (k := 17) (n := 166048) (m := 2) (by decide) (by decide) (by decide) ?_)))
  have hP65 := hP64.new (t := (.inr (.int, 2))) (m' := 71) rfl rfl
  rw [hP64.1]
  generalize am_new S44 (.inr (.int, 2)) = S45 at hP65 ⊢
  generalize am_0 S44 iv35 = iv36 at hP65 ⊢
  refine (sX10_init_295 (hP65.k (by decide) rfl) ?_)
  have hP66 := hP65.wr (a := 54) (k := 16) (b := 70) (by decide) rfl
  generalize am_wr S45 54 16 70 = S46 at hP66 ⊢
  refine (sX10_init_298 rfl (sX10_init_299 (sX10_init_302 (k := 16) (n := 165348) (m := 700) (by decide) (by decide) (by decide) ?_)))
  have hP67 := hP66.new (t := (.inr (.int, 700))) (m' := 72) rfl rfl
  rw [hP66.1]
  generalize am_new S46 (.inr (.int, 700)) = S47 at hP67 ⊢
  generalize am_0 S46 iv36 = iv37 at hP67 ⊢
  refine (sX10_init_304 (hP67.k (by decide) rfl) ?_)
  have hP68 := hP67.wr (a := 54) (k := 17) (b := 71) (by decide) rfl
  generalize am_wr S47 54 17 71 = S48 at hP68 ⊢
  refine (sX10_init_307 rfl (sX10_init_308 (sX10_init_309 (hP68.k (by decide) rfl) ?_)))
  have hP69 := hP68.w (a := 54) (k := 27) (x := (-1 : Int32)) (by decide) rfl
  generalize am_w iv37 54 27 (-1 : Int32) = iv38 at hP69 ⊢
  refine (sX10_init_312 rfl (sX10_init_313 (sX10_init_314 (k := 15) (n := 165343) (m := 5) (by decide) (by decide) (by decide) ?_)))
  have hP70 := hP69.new (t := (.inr (.int, 5))) (m' := 73) rfl rfl
  rw [hP69.1]
  generalize am_new S48 (.inr (.int, 5)) = S49 at hP70 ⊢
  generalize am_0 S48 iv38 = iv39 at hP70 ⊢
  refine (sX10_init_316 (hP70.k (by decide) rfl) ?_)
  have hP71 := hP70.wr (a := 54) (k := 33) (b := 72) (by decide) rfl
  generalize am_wr S49 54 33 72 = S50 at hP71 ⊢
  refine (sX10_init_319 rfl (sX10_init_320 (sX10_init_322 (k := 14) (n := 165243) (m := 100) (by decide) (by decide) (by decide) ?_)))
  have hP72 := hP71.new (t := (.inr (.int, 100))) (m' := 74) rfl rfl
  rw [hP71.1]
  generalize am_new S50 (.inr (.int, 100)) = S51 at hP72 ⊢
  generalize am_0 S50 iv39 = iv40 at hP72 ⊢
  refine (sX10_init_324 (hP72.k (by decide) rfl) ?_)
  have hP73 := hP72.wr (a := 54) (k := 34) (b := 73) (by decide) rfl
  generalize am_wr S51 54 34 73 = S52 at hP73 ⊢
  refine (sX10_init_327 rfl (sX10_init_328 (sX10_init_330 (k := 13) (n := 165143) (m := 100) (by decide) (by decide) (by decide) ?_)))
  have hP74 := hP73.new (t := (.inr (.int, 100))) (m' := 75) rfl rfl
  rw [hP73.1]
  generalize am_new S52 (.inr (.int, 100)) = S53 at hP74 ⊢
  generalize am_0 S52 iv40 = iv41 at hP74 ⊢
  refine (sX10_init_332 (hP74.k (by decide) rfl) ?_)
  have hP75 := hP74.wr (a := 54) (k := 35) (b := 74) (by decide) rfl
  generalize am_wr S53 54 35 74 = S54 at hP75 ⊢
  refine (sX10_init_335 rfl (sX10_init_336 (sX10_init_338 (k := 12) (n := 165136) (m := 7) (by decide) (by decide) (by decide) ?_)))
  have hP76 := hP75.new (t := (.inr (.int, 7))) (m' := 76) rfl rfl
  rw [hP75.1]
  generalize am_new S54 (.inr (.int, 7)) = S55 at hP76 ⊢
  generalize am_0 S54 iv41 = iv42 at hP76 ⊢
  refine (sX10_init_340 (hP76.k (by decide) rfl) ?_)
  have hP77 := hP76.wr (a := 54) (k := 36) (b := 75) (by decide) rfl
  generalize am_wr S55 54 36 75 = S56 at hP77 ⊢
  refine (sX10_init_343 rfl (sX10_init_344 (sX10_init_346 (k := 11) (n := 165076) (m := 60) (by decide) (by decide) (by decide) ?_)))
  have hP78 := hP77.new (t := (.inr (.int, 60))) (m' := 77) rfl rfl
  rw [hP77.1]
  generalize am_new S56 (.inr (.int, 60)) = S57 at hP78 ⊢
  generalize am_0 S56 iv42 = iv43 at hP78 ⊢
  refine (sX10_init_348 (hP78.k (by decide) rfl) ?_)
  have hP79 := hP78.wr (a := 54) (k := 37) (b := 76) (by decide) rfl
  generalize am_wr S57 54 37 76 = S58 at hP79 ⊢
  refine (sX10_init_351 rfl (sX10_init_352 (sX10_init_354 (k := 10) (n := 132308) (m := 32768) (by decide) (by decide) (by decide) ?_)))
  have hP80 := hP79.new (t := (.inr (.int, 32768))) (m' := 78) rfl rfl
  rw [hP79.1]
  generalize am_new S58 (.inr (.int, 32768)) = S59 at hP80 ⊢
  generalize am_0 S58 iv43 = iv44 at hP80 ⊢
  refine (sX10_init_356 (hP80.k (by decide) rfl) ?_)
  have hP81 := hP80.wr (a := 54) (k := 38) (b := 77) (by decide) rfl
  generalize am_wr S59 54 38 77 = S60 at hP81 ⊢
  refine (sX10_init_359 rfl (sX10_init_360 (sX10_init_362 (k := 9) (n := 99540) (m := 32768) (by decide) (by decide) (by decide) ?_)))
  have hP82 := hP81.new (t := (.inr (.int, 32768))) (m' := 79) rfl rfl
  rw [hP81.1]
  generalize am_new S60 (.inr (.int, 32768)) = S61 at hP82 ⊢
  generalize am_0 S60 iv44 = iv45 at hP82 ⊢
  refine (sX10_init_364 (hP82.k (by decide) rfl) ?_)
  have hP83 := hP82.wr (a := 54) (k := 39) (b := 78) (by decide) rfl
  generalize am_wr S61 54 39 78 = S62 at hP83 ⊢
  refine (sX10_init_367 rfl (sX10_init_368 (sX10_init_370 (k := 8) (n := 66772) (m := 32768) (by decide) (by decide) (by decide) ?_)))
  have hP84 := hP83.new (t := (.inr (.int, 32768))) (m' := 80) rfl rfl
  rw [hP83.1]
  generalize am_new S62 (.inr (.int, 32768)) = S63 at hP84 ⊢
  generalize am_0 S62 iv45 = iv46 at hP84 ⊢
  refine (sX10_init_372 (hP84.k (by decide) rfl) ?_)
  have hP85 := hP84.wr (a := 54) (k := 40) (b := 79) (by decide) rfl
  generalize am_wr S63 54 40 79 = S64 at hP85 ⊢
  refine (sX10_init_375 rfl (sX10_init_376 (sX10_init_378 (k := 7) (n := 34004) (m := 32768) (by decide) (by decide) (by decide) ?_)))
  have hP86 := hP85.new (t := (.inr (.int, 32768))) (m' := 81) rfl rfl
  rw [hP85.1]
  generalize am_new S64 (.inr (.int, 32768)) = S65 at hP86 ⊢
  generalize am_0 S64 iv46 = iv47 at hP86 ⊢
  refine (sX10_init_380 (hP86.k (by decide) rfl) ?_)
  have hP87 := hP86.wr (a := 54) (k := 41) (b := 80) (by decide) rfl
  generalize am_wr S65 54 41 80 = S66 at hP87 ⊢
  refine (sX10_init_383 rfl (sX10_init_384 (sX10_init_386 (k := 6) (n := 1236) (m := 32768) (by decide) (by decide) (by decide) ?_)))
  have hP88 := hP87.new (t := (.inr (.int, 32768))) (m' := 82) rfl rfl
  rw [hP87.1]
  generalize am_new S66 (.inr (.int, 32768)) = S67 at hP88 ⊢
  generalize am_0 S66 iv47 = iv48 at hP88 ⊢
  refine (sX10_init_388 (hP88.k (by decide) rfl) ?_)
  have hP89 := hP88.wr (a := 54) (k := 42) (b := 81) (by decide) rfl
  generalize am_wr S67 54 42 81 = S68 at hP89 ⊢
  refine (sX10_init_391 rfl (sX10_init_392 (sX10_init_395 (k := 5) (n := 212) (m := 1024) (by decide) (by decide) (by decide) ?_)))
  have hP90 := hP89.new (t := (.inr (.boolean, 1024))) (m' := 83) rfl rfl
  rw [hP89.1]
  generalize am_new S68 (.inr (.boolean, 1024)) = S69 at hP90 ⊢
  generalize am_0 S68 iv48 = iv49 at hP90 ⊢
  refine (sX10_init_397 (hP90.k (by decide) rfl) ?_)
  have hP91 := hP90.wr (a := 54) (k := 43) (b := 82) (by decide) rfl
  generalize am_wr S69 54 43 82 = S70 at hP91 ⊢
  refine (sX10_init_400 rfl (sX10_init_401 (sX10_init_402 (hP91.k (by decide) rfl) ?_)))
  have hP92 := hP91.w (a := 54) (k := 45) (x := (-1 : Int32)) (by decide) rfl
  generalize am_w iv49 54 45 (-1 : Int32) = iv50 at hP92 ⊢
  refine (sX10_init_405 rfl (sX10_init_406 (sX10_init_407 (k := 4) (n := 207) (m := 5) (by decide) (by decide) (by decide) ?_)))
  have hP93 := hP92.new (t := (.inr (.int, 5))) (m' := 84) rfl rfl
  rw [hP92.1]
  generalize am_new S70 (.inr (.int, 5)) = S71 at hP93 ⊢
  generalize am_0 S70 iv50 = iv51 at hP93 ⊢
  refine (sX10_init_409 (hP93.k (by decide) rfl) ?_)
  have hP94 := hP93.wr (a := 54) (k := 46) (b := 83) (by decide) rfl
  generalize am_wr S71 54 46 83 = S72 at hP94 ⊢
  refine (sX10_init_412 rfl (sX10_init_413 (sX10_init_414 (k := 3) (n := 202) (m := 5) (by decide) (by decide) (by decide) ?_)))
  have hP95 := hP94.new (t := (.inr (.int, 5))) (m' := 85) rfl rfl
  rw [hP94.1]
  generalize am_new S72 (.inr (.int, 5)) = S73 at hP95 ⊢
  generalize am_0 S72 iv51 = iv52 at hP95 ⊢
  refine (sX10_init_416 (hP95.k (by decide) rfl) ?_)
  have hP96 := hP95.wr (a := 54) (k := 53) (b := 84) (by decide) rfl
  generalize am_wr S73 54 53 84 = S74 at hP96 ⊢
  refine (sX10_init_419 rfl (sX10_init_420 (sX10_init_422 (k := 2) (n := 102) (m := 100) (by decide) (by decide) (by decide) ?_)))
  have hP97 := hP96.new (t := (.inr (.int, 100))) (m' := 86) rfl rfl
  rw [hP96.1]
  generalize am_new S74 (.inr (.int, 100)) = S75 at hP97 ⊢
  generalize am_0 S74 iv52 = iv53 at hP97 ⊢
  refine (sX10_init_424 (hP97.k (by decide) rfl) ?_)
  have hP98 := hP97.wr (a := 54) (k := 54) (b := 85) (by decide) rfl
  generalize am_wr S75 54 54 85 = S76 at hP98 ⊢
  refine (sX10_init_427 rfl (sX10_init_428 (sX10_init_430 (k := 1) (n := 2) (m := 100) (by decide) (by decide) (by decide) ?_)))
  have hP99 := hP98.new (t := (.inr (.int, 100))) (m' := 87) rfl rfl
  rw [hP98.1]
  generalize am_new S76 (.inr (.int, 100)) = S77 at hP99 ⊢
  generalize am_0 S76 iv53 = iv54 at hP99 ⊢
  refine (sX10_init_432 (hP99.k (by decide) rfl) ?_)
  have hP100 := hP99.wr (a := 54) (k := 55) (b := 86) (by decide) rfl
  generalize am_wr S77 54 55 86 = S78 at hP100 ⊢
  refine (sX10_init_435 rfl (sX10_init_436 (sX10_init_437 (k := 0) (n := 0) (m := 2) (by decide) (by decide) (by decide) ?_)))
  have hP101 := hP100.new (t := (.inr (.int, 2))) (m' := 88) rfl rfl
  rw [hP100.1]
  generalize am_new S78 (.inr (.int, 2)) = S79 at hP101 ⊢
  generalize am_0 S78 iv54 = iv55 at hP101 ⊢
  refine (sX10_init_439 (hP101.k (by decide) rfl) ?_)
  have hP102 := hP101.wr (a := 54) (k := 56) (b := 87) (by decide) rfl
  generalize am_wr S79 54 56 87 = S80 at hP102 ⊢
  exact (sX10_init_442 (hQ _ _ hP102))
end B99b
def R89 : List (Nat × Nat × Nat) := [(54, 56, 87), (54, 55, 86), (54, 54, 85), (54, 53, 84), (54, 46, 83), (54, 43, 82), (54, 42, 81), (54, 41, 80), (54, 40, 79), (54, 39, 78), (54, 38, 77), (54, 37, 76), (54, 36, 75), (54, 35, 74), (54, 34, 73), (54, 33, 72), (54, 17, 71), (54, 16, 70), (54, 15, 69), (54, 14, 68), (54, 13, 67), (54, 12, 66), (54, 11, 65), (54, 10, 64), (54, 9, 63), (54, 8, 62), (54, 7, 61), (54, 6, 60), (54, 5, 59), (54, 4, 58), (54, 2, 57), (57, 6, 48), (57, 5, 47), (57, 4, 46), (57, 3, 45), (57, 2, 44), (57, 1, 43), (57, 0, 42), (54, 1, 56), (56, 2, 41), (56, 1, 40), (56, 0, 39), (54, 0, 55), (55, 3, 38), (55, 2, 37), (55, 1, 36), (55, 0, 35), (0, 9, 53), (0, 8, 50), (50, 1, 52), (50, 0, 51), (0, 6, 46), (46, 8, 49), (46, 7, 48), (46, 6, 47), (0, 5, 42), (42, 8, 45), (42, 7, 44), (42, 6, 43), (0, 4, 22), (22, 11, 41), (22, 10, 40), (22, 9, 36), (36, 4, 39), (36, 3, 38), (36, 2, 37), (22, 8, 32), (32, 3, 35), (32, 2, 34), (32, 1, 33), (22, 7, 23), (23, 8, 31), (23, 7, 30), (23, 6, 29), (23, 5, 28), (23, 4, 27), (23, 3, 26), (23, 2, 25), (23, 1, 24), (0, 3, 2), (2, 11, 21), (2, 10, 20), (2, 9, 16), (16, 4, 19), (16, 3, 18), (16, 2, 17), (2, 8, 12), (12, 3, 15), (12, 2, 14), (12, 1, 13), (2, 7, 3), (3, 8, 11), (3, 7, 10), (3, 6, 9), (3, 5, 8), (3, 4, 7), (3, 3, 6), (3, 2, 5), (3, 1, 4), (0, 0, 1)]
def V89 : List (Nat × Nat × Int32) := [(54, 45, -1), (54, 27, -1), (58, 19, 0), (58, 18, 0), (58, 17, 0), (58, 16, 0), (58, 15, 0), (58, 14, 2), (58, 13, 0), (58, 12, 0), (58, 11, 4), (58, 10, 3), (58, 9, 0), (58, 8, 0), (58, 7, 0), (58, 6, 0), (58, 5, 0), (58, 4, 2), (58, 3, 0), (58, 2, 0), (58, 1, 4), (58, 0, 3), (0, 10, -1), (22, 2, 2), (22, 1, 4), (22, 0, 3), (2, 2, 2), (2, 1, 4), (2, 0, 3), (0, 2, -1)]
