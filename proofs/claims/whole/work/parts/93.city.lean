/-! city: the call -/
section B93
variable {E : am_E} {S : am_S} {iv : am_I} {Q : am_O → am_S → am_I → Prop} {w v fd nf sn ns pp np d : Nat} {c : Nat → Nat → Nat} {ρ : ru_T}
theorem P_cityT {x : Int32} (hR : Rel w pp np iv c ρ) (hw : w = 2 ∨ w = 22) (hp : adr pp) {t : Nat} (ht : iv 54 18 = nI t) (hx : x < 0 ∨ ¬ x ≤ nI t) : ∃ y iv2, F_X10_city x iv = some (y, iv2) ∧ iv2 54 3 = 1 ∧ Rel w pp np iv2 c ρ := by
  have hR2 := (hR.code hw hp 0).code hw hp 1
  have e : F_X10_city x iv = J_X10_city_17 (am_w iv 54 3 (0 : Int32)) := by
    unfold F_X10_city
    by_cases h0 : x < 0
    · rw [if_pos h0]
    · have h1 : ¬ x ≤ nI t := by rcases hx with h | h; exact absurd h h0; exact h
      rw [if_neg h0, am_code1 _ (by decide), ht, if_neg h1]
  refine ⟨0, am_w (am_w iv 54 3 0) 54 3 1, ?_, am_code0 _, hR2⟩
  rw [e]
  rfl
theorem M_city {x : Int32} (h : SR S w v fd nf sn ns pp np) (hR : Rel w pp np iv c ρ) (hz : zz iv)
    (hT : ∀ nx, S.2.2.2 ≤ nx → (∃ y iv2, F_X10_city x iv = some (y, iv2) ∧ iv2 54 3 = 1 ∧ Rel w pp np iv2 c ρ) → Q (.inr "java/lang/IllegalArgumentException") (S.1, S.2.1, S.2.2.1, nx) iv)
    (hQ : ∀ S' iv1 r w' v' c' ρ', SR S' w' v' fd nf sn ns pp np → zz iv1 → (∃ iv2, F_X10_city x iv1 = some (r, iv2) ∧ iv2 54 3 = 0 ∧ Rel w' pp np iv2 c' ρ') → Q (.inl (some (.int r))) S' iv1) :
    am_M E (d + 850) mX9_city 3 15 [.ref 0, .int x] S iv Q := by
  have hL := h.1
  have hz9 := hL.2.2
  have hwv := h.2.2.2.2.1
  have hww : w = 2 ∨ w = 22 := by omega
  have hvv : v = 2 ∨ v = 22 := by omega
  have hpp : adr pp := h.2.2.2.2.2.1.2.2
  have hpl : pp < S.2.2.2 := h.2.2.2.2.2.2.2.1.2.2
  have h00 : S.1 0 = some (.inl 9) := hL.1 _ _ rfl
  obtain ⟨t0, ht7, ht1, ht18, htb⟩ := hR.2.2.2.2.1
  have THR : (x < 0 ∨ ¬ x ≤ nI t0) → ∀ ls : List Value, am_R E (d + 850) mX9_city 3 15 12 ls [] S iv Q := by
    intro hx ls
    refine sX9_city_12 (d := d + 843) (k := 2) (n := 9) (Nat.le_of_ble_eq_true rfl) (fun nx hnx => hT nx hnx (P_cityT hR hww hpp ht18 hx))
  refine am_enter (js := [.double 0, .double 0, .double 0]) rfl pn_X9 rfl rfl rfl (Nat.le_of_ble_eq_true rfl) ?_
  refine sX9_city_0 (sX9_city_1 (fun q => THR (Or.inl q) _) (fun q0 => ?_))
  refine sX9_city_4 (sX9_city_5 rfl (sX9_city_6 h00 ?_))
  rw [ht1]
  refine sX9_city_9 (fun q1 => ?_) (fun q => THR (Or.inr q) _)
  obtain ⟨m, hm, rfl⟩ : ∃ m, m ≤ t0 ∧ x = nI m := by
    have hx : xin x (t0 + 1) = true := decide_eq_true ⟨q0, fun q2 => by
      have q3 := Int32.le_trans q2 q1
      rw [am_le (by omega) (by omega)] at q3
      omega⟩
    obtain ⟨m, a1, a2⟩ := xin_t (by omega) hx
    exact ⟨m, by omega, a2⟩
  -- the cells
  generalize hzt : S.2.2.2 = t at *
  have k1 : (am_new S (.inl 8)).1 t = some (.inl 8) := by rw [← hzt]; exact new_s S _
  have hL1 : am_Lay (am_new S (.inl 8)) := hL.new _
  refine sX9_city_22 rfl (sX9_city_23 (sX9_city_24 h00 (sX9_city_27 (k := 2) (n := 9) (sX9_city_30 rfl (sX9_city_31 rfl (sX9_city_32 (hL1.1 _ _ rfl) (hL1.2.1 _ _ _ rfl) (sX9_city_35 ?_)))))))
  rw [hzt]
  refine sX9_city_36 (k' := 0) (k := 2) (n' := 0) (n := 9) (Nat.le_of_ble_eq_true rfl) (M_Tokens k1 (hL1.1 _ _ rfl) (by omega) ⟨rfl, ?_⟩)
  have hL2 : am_Lay (am_wr (am_new S (.inl 8)) t 0 1) := hL1.wr _ (am_lref_no hz9 0)
  have z2 : (am_wr (am_new S (.inl 8)) t 0 1).2.2.2 = t + 1 := by show S.2.2.2 + 1 = _; rw [hzt]
  have x2 : ext S (am_wr (am_new S (.inl 8)) t 0 1) := (ext.new _).wr (by omega)
  have k2 : (am_wr (am_new S (.inl 8)) t 0 1).1 t = some (.inl 8) := k1
  have r2 : (am_wr (am_new S (.inl 8)) t 0 1).2.1 t 0 = some 1 := wr_s _ _ _ _
  generalize hi2 : am_w (am_0 S (am_w iv 0 1 0)) t 1 (nI m) = iv2
  generalize hS2 : am_wr (am_new S (.inl 8)) t 0 1 = S2 at *
  have hL3 : am_Lay (am_new S2 (.inl 1)) := hL2.new _
  have h04 : (am_new S2 (.inl 1)).2.1 0 4 = some v := by rw [new_r _ _ _ (by omega), (x2.2 0 (by omega)).2]; exact h.2.1.2
  refine sX9_city_39 rfl (sX9_city_40 (k := 1) (n := 2) (sX9_city_43 rfl (sX9_city_44 rfl (sX9_city_45 rfl (sX9_city_46 (hL3.1 _ _ rfl) h04 ?_)))))
  have k3 : (am_new S2 (.inl 1)).1 (t + 1) = some (.inl 1) := by rw [← z2]; exact new_s S2 _
  have z3 : (am_new S2 (.inl 1)).2.2.2 = t + 2 := by show S2.2.2.2 + 1 = _; rw [z2]
  rw [z2]
  refine sX9_city_49 (k' := 1) (k := 0) (n' := 2) (n := 0) (Nat.le_of_ble_eq_true rfl) (M_CityReader hL3 hvv k3 (by omega) (by omega) ⟨rfl, ?_⟩)
  have x3 : ext S2 (am_new S2 (.inl 1)) := ext.new _
  have k3t : (am_new S2 (.inl 1)).1 t = some (.inl 8) := by rw [new_o _ _ (by omega)]; exact k2
  have r3t : (am_new S2 (.inl 1)).2.1 t 0 = some 1 := by rw [new_r _ _ _ (by omega)]; exact r2
  rw [z3]
  generalize hS3 : am_new S2 (.inl 1) = S3 at *
  generalize hi3 : am_0 S3 (am_0 S2 iv2) = iv3
  have hL4 : am_Lay (am_wr (am_wr S3 (t + 1) 0 t) (t + 1) 1 v) := (hL3.wr _ (am_lref_no (by omega) 0)).wr _ (am_lref_no (by omega) 1)
  have x4 : ext S (am_wr (am_wr (am_wr (am_new (am_wr (am_wr S3 (t + 1) 0 t) (t + 1) 1 v) (.inl 3)) (t + 2) 0 t) (t + 2) 1 (v + 14)) (t + 1) 2 (t + 2)) := by
    refine ext.wr (ext.wr (ext.wr (ext.tr (ext.wr (ext.wr (ext.tr x2 x3) ?_) ?_) (ext.new _)) ?_) ?_) ?_ <;> omega
  have hRd : am_Rd (am_wr (am_wr (am_wr (am_new (am_wr (am_wr S3 (t + 1) 0 t) (t + 1) 1 v) (.inl 3)) (t + 2) 0 t) (t + 2) 1 (v + 14)) (t + 1) 2 (t + 2)) v t (t + 1) (t + 2) := by
    have kn : ∀ a, a < t + 2 → (am_new (am_wr (am_wr S3 (t + 1) 0 t) (t + 1) 1 v) (.inl 3)).1 a = S3.1 a := fun a ha => by
      rw [new_o _ _ (by show a < S3.2.2.2; omega)]; rfl
    have rn : ∀ a j, a < t + 2 → (am_new (am_wr (am_wr S3 (t + 1) 0 t) (t + 1) 1 v) (.inl 3)).2.1 a j = (am_wr (am_wr S3 (t + 1) 0 t) (t + 1) 1 v).2.1 a j := fun a j ha => new_r _ _ _ (by show a < S3.2.2.2; omega)
    have ks : (am_new (am_wr (am_wr S3 (t + 1) 0 t) (t + 1) 1 v) (.inl 3)).1 (t + 2) = some (.inl 3) := by
      have := new_s (am_wr (am_wr S3 (t + 1) 0 t) (t + 1) 1 v) (.inl 3)
      rw [show (am_wr (am_wr S3 (t + 1) 0 t) (t + 1) 1 v).2.2.2 = t + 2 from z3] at this
      exact this
    refine ⟨⟨?_, ?_⟩, ?_, ?_, ?_, ?_, ?_, ?_, ?_⟩
    · exact (kn t (by omega)).trans k3t
    · rw [wr_o _ _ (by omega), wr_o _ _ (by omega), wr_o _ _ (by omega), rn _ _ (by omega), wr_o _ _ (by omega), wr_o _ _ (by omega)]; exact r3t
    · exact (kn (t + 1) (by omega)).trans k3
    · rw [wr_o _ _ (by omega), wr_o _ _ (by omega), wr_o _ _ (by omega), rn _ _ (by omega), wr_o _ _ (by omega), wr_s]
    · rw [wr_o _ _ (by omega), wr_o _ _ (by omega), wr_o _ _ (by omega), rn _ _ (by omega), wr_s]
    · exact wr_s _ _ _ _
    · exact ks
    · rw [wr_o _ _ (by omega), wr_o _ _ (by omega), wr_s]
    · rw [wr_o _ _ (by omega), wr_s]
  generalize hS4 : am_wr (am_wr (am_wr (am_new (am_wr (am_wr S3 (t + 1) 0 t) (t + 1) 1 v) (.inl 3)) (t + 2) 0 t) (t + 2) 1 (v + 14)) (t + 1) 2 (t + 2) = S4 at *
  have hSR4 : SR S4 w v fd nf sn ns pp np := h.ext x4
  have hL5 := hSR4.1
  have i3 : ∀ a j, a < t → iv3 a j = am_w iv 0 1 0 a j := fun a j ha => by
    rw [← hi3, am_0_o _ _ (by omega), am_0_o _ _ (by omega), ← hi2, am_w_other _ _ _ (by omega), am_0_o _ _ (by omega)]
  have i3t : ∀ j, iv3 t j = if j = 1 then nI m else 0 := fun j => by
    rw [← hi3, am_0_o _ _ (by omega), am_0_o _ _ (by omega), ← hi2, am_w_r, if_pos rfl, ← hzt, am_0_s]
  have i3r : ∀ j, iv3 (t + 1) j = 0 := fun j => by
    rw [← hi3, am_0_o _ _ (by omega), ← z2, am_0_s]
  have hTX : ∃ τ : Nat → Nat, TX τ m ∧ (∀ i, i < m → iv 1 i = sgn (τ i)) ∧ (∀ i, i < m → iv 71 i = nI (τ i)) := by
    refine ⟨fun i => if hi : i < t0 then (htb i hi).choose else 0, ⟨by omega, fun i => ?_⟩, fun i hi => ?_, fun i hi => ?_⟩
    · by_cases hi : i < t0
      · simp only [hi, dif_pos]; exact (htb i hi).choose_spec.1
      · simp [hi]
    · simp only [show i < t0 by omega, dif_pos]; exact (htb i (by omega)).choose_spec.2.2
    · simp only [show i < t0 by omega, dif_pos]; exact (htb i (by omega)).choose_spec.2.1
  obtain ⟨τ, hτ, hτc, hτm⟩ := hTX
  have KEY : ∀ ivm : am_I, (∀ i, ivm 71 i = iv 71 i) → ivm 54 18 = iv 54 18 → _ := fun ivm e1 e2 =>
    S_city (w := v) (t := t) (rr := t + 1) (xr := t + 2) (ivc := iv3) (ivm := ivm) (T := t0) hτ hvv hz9 (by omega) (by omega) (fun i hi => by rw [i3 1 i (by omega), am_w_other _ _ _ (by decide)]; exact hτc i hi) (by rw [i3t, if_pos rfl]) (by rw [i3t, if_neg (by decide)]; rfl) ⟨by rw [i3r]; rfl, by rw [i3r]; rfl, by rw [i3r]; rfl⟩ (by
      rw [i3 _ _ (by omega), am_w_other _ _ _ (by omega)]
      rcases hwv with ⟨-, q⟩ | ⟨-, q⟩
      · subst q; exact hz.2
      · subst q; exact hz.1) (fun i hi => by rw [e1]; exact hτm i hi) (by rw [e2]; exact ht18) hm (by omega)
  have FR : ∀ {r : Int32} {ivc : am_I}, F_X1_readCity v t (t + 1) (t + 2) iv3 = some (r, ivc) → (∀ a j, a < t → ¬ (a = 0 ∧ j = 1) → (a < v ∨ v + 20 ≤ a) → ivc a j = iv a j) ∧ ivc 0 1 = 0 ∧ zz ivc := by
    intro r ivc e
    have f := X_X1_readCity e
    have g : ∀ a j, a < t → (a < v ∨ v + 20 ≤ a) → ivc a j = am_w iv 0 1 0 a j := fun a j ha h2 => by
      rw [f a j (by simp; omega) (by simp; omega)]; exact i3 a j ha
    have g2 : ∀ a j, a < t → ¬ (a = 0 ∧ j = 1) → (a < v ∨ v + 20 ≤ a) → ivc a j = iv a j := fun a j ha h1 h2 => by
      rw [g a j ha h2, am_w_r]
      by_cases e0 : a = 0
      · rw [if_pos e0, if_neg (by omega)]
      · rw [if_neg e0]
    have g15 : ivc (v + 15) 0 = iv (v + 15) 0 := by rw [Z_readCity e, i3 _ _ (by omega), am_w_other _ _ _ (by omega)]
    refine ⟨g2, by rw [g 0 1 (by omega) (by omega), am_w_r, if_pos rfl, if_pos rfl], ?_⟩
    rcases hwv with ⟨q1, q⟩ | ⟨q1, q⟩
    · subst q
      exact ⟨by rw [g2 17 0 (by omega) (by omega) (by omega)]; exact hz.1, by rw [show (37 : Nat) = 22 + 15 from rfl, g15]; exact hz.2⟩
    · subst q
      exact ⟨by rw [show (17 : Nat) = 2 + 15 from rfl, g15]; exact hz.1, by rw [g2 37 0 (by omega) (by omega) (by omega)]; exact hz.2⟩
  refine sX9_city_52 rfl (sX9_city_53 rfl ?_)
  obtain ⟨M0, -, -, -, -, hh0⟩ := KEY iv3 (fun i => by rw [i3 _ _ (by omega), am_w_other _ _ _ (by decide)]) (by rw [i3 _ _ (by omega), am_w_other _ _ _ (by decide)])
  have q00 : S4.1 0 = some (.inl 9) := hL5.1 _ _ rfl
  have q05 : S4.2.1 0 5 = some 42 := hL5.2.1 _ _ _ rfl
  have q42 : S4.1 42 = some (.inl 7) := hL5.1 _ _ rfl
  rcases hh0 with ⟨ivc, -, -, e1, -⟩ | ⟨ivc, e1, -⟩
  · obtain ⟨g1, g2, g3⟩ := FR e1
    refine sX9_city_54 hRd.2.1 (Nat.le_of_ble_eq_true rfl) (R_X1_readCity hL5 hvv hRd e1 ?_ (by omega))
    refine sX9_city_57 (fun _ => ?_) (fun q => absurd q (by decide))
    have SW := hSR4.swap
    have u00 : (am_wr S4 0 3 v).1 0 = some (.inl 9) := q00
    have u04 : S4.2.1 0 4 = some v := hSR4.2.1.2
    refine sX9_city_86 rfl (sX9_city_87 q00 hSR4.2.1.1 (sX9_city_90 rfl (sX9_city_92 rfl (sX9_city_93 rfl (sX9_city_94 q00 u04 (sX9_city_97 q00 (sX9_city_100 rfl (sX9_city_101 rfl (sX9_city_103 u00 ?_)))))))))
    generalize hS5 : am_wr (am_wr S4 0 3 v) 0 4 w = S5 at *
    have hL6 := SW.1
    refine sX9_city_106 rfl (sX9_city_107 (sX9_city_108 (hL6.1 _ _ rfl) (sX9_city_111 rfl (sX9_city_112 (hL6.1 _ _ rfl) (hL6.2.1 _ _ _ rfl) (sX9_city_115 (hL6.1 _ _ rfl) (Nat.le_of_ble_eq_true rfl) (R_X7_startAnew hL6 (Or.inl rfl) rfl ?_ (by omega)))))))
    refine sX9_city_118 rfl (sX9_city_119 (sX9_city_120 (hL6.1 _ _ rfl) (Or.inl rfl) (sX9_city_123 rfl (sX9_city_124 (sX9_city_125 (hL6.1 _ _ rfl) (sX9_city_128 (sX9_city_129 ?_)))))))
    generalize hi1 : am_w (am_w (am_fl (am_w (am_w (am_w (am_w (am_w ivc 0 2 (-1)) 42 0 (0 : Int32)) 42 1 (0 : Int32)) 42 2 (0 : Int32)) 42 3 (0 : Int32)) (42 + 1) 5 (0 : Int32)) 0 7 0) 0 10 (-1) = iv1
    have I : ∀ a j, a ≠ 0 → a ≠ 42 → a ≠ 43 → iv1 a j = ivc a j := fun a j h0 h42 h43 => by
      rw [← hi1, am_w_other _ _ _ h0, am_w_other _ _ _ h0]
      unfold am_fl
      rw [if_neg h43, am_w_other _ _ _ h42, am_w_other _ _ _ h42, am_w_other _ _ _ h42, am_w_other _ _ _ h42, am_w_other _ _ _ h0]
    obtain ⟨M, m1, m3, m18, m27, hh⟩ := KEY iv1 (fun i => by rw [I _ _ (by decide) (by decide) (by decide)]; exact g1 71 i (by omega) (by omega) (by omega)) (by rw [I _ _ (by decide) (by decide) (by decide)]; exact g1 54 18 (by omega) (by omega) (by omega))
    have hzz : zz iv1 := ⟨by rw [I _ _ (by decide) (by decide) (by decide)]; exact g3.1, by rw [I _ _ (by decide) (by decide) (by decide)]; exact g3.2⟩
    rcases hh with ⟨ivc2, c', ρ', f1, f2, f3, f4, f5, f6, f7, f8⟩ | ⟨ivc2, f1, -⟩
    · rw [e1] at f1
      obtain rfl := (Prod.mk.inj (Option.some.inj f1)).2
      obtain ⟨y1, y2⟩ := Rel.anew (v := v) (ivc := ivc) hR hwv (fun a j a1 a2 a3 => g1 a j (by omega) a2 a3) hi1.symm g2 m1 m3 m18 m27 f3 f4 f5 f6 f7 f8
      exact hQ S5 iv1 0 v w c' ρ' SW hzz ⟨tk M, f2, y1, y2⟩
    · rw [e1] at f1
      have := (Prod.mk.inj (Option.some.inj f1)).1
      exact absurd this (by decide)
  · obtain ⟨g1, g2, g3⟩ := FR e1
    refine sX9_city_54 hRd.2.1 (Nat.le_of_ble_eq_true rfl) (R_X1_readCity hL5 hvv hRd e1 ?_ (by omega))
    refine sX9_city_57 (fun q => absurd rfl q) (fun _ => ?_)
    refine sX9_city_60 rfl (sX9_city_61 rfl (sX9_city_62 hRd.1.1 (Nat.le_of_ble_eq_true rfl) (R_X8_place hL5 hRd.1 rfl ?_ (Nat.zero_le _))))
    refine sX9_city_65 q00 (sX9_city_68 rfl (sX9_city_69 q00 q05 (sX9_city_72 rfl (sX9_city_73 q42 (sX9_city_76 (sX9_city_77 (sX9_city_78 q42 (sX9_city_81 rfl (sX9_city_82 hRd.1.1 (Nat.le_of_ble_eq_true rfl) (R_X8_refusal hL5 hRd.1 rfl ?_ (Nat.zero_le _)))))))))))
    refine sX9_city_85 ?_
    rw [am_w_other _ _ _ (show (42 : Nat) ≠ 0 by decide)]
    generalize hi1 : am_w (am_w ivc 0 2 (ivc t 3)) 42 4 (ivc 42 4 + 1) = iv1
    have I : ∀ a j, a ≠ 0 → a ≠ 42 → iv1 a j = ivc a j := fun a j h0 h42 => by rw [← hi1, am_w_other _ _ _ h42, am_w_other _ _ _ h0]
    obtain ⟨M, m1, m3, m18, m27, hh⟩ := KEY iv1 (fun i => by rw [I _ _ (by decide) (by decide)]; exact g1 71 i (by omega) (by omega) (by omega)) (by rw [I _ _ (by decide) (by decide)]; exact g1 54 18 (by omega) (by omega) (by omega))
    have hzz : zz iv1 := ⟨by rw [I _ _ (by decide) (by decide)]; exact g3.1, by rw [I _ _ (by decide) (by decide)]; exact g3.2⟩
    rcases hh with ⟨ivc2, c', ρ', f1, -⟩ | ⟨ivc2, f1, f2, f3⟩
    · rw [e1] at f1
      have := (Prod.mk.inj (Option.some.inj f1)).1
      exact absurd this (by decide)
    · rw [e1] at f1
      obtain rfl := (Prod.mk.inj (Option.some.inj f1)).2
      obtain ⟨y1, y2⟩ := Rel.refuse (v := v) (ivc := ivc) (t := t) hR hwv hpp hpl hz9 (fun a j a1 a2 a3 => g1 a j a1 a2 a3) hi1.symm g2 m1 m3 m18 f3
      have er : iv1 t 5 = M 54 25 := by rw [I t 5 (by omega) (by omega)]; exact f3.2.1.symm
      rw [er]
      exact hQ S4 iv1 _ w v c ρ hSR4 hzz ⟨_, f2, y1, y2⟩
end B93
