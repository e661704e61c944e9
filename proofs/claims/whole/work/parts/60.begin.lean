/-! cells made by the searches: begin, seek, everOut, keepSteps -/
theorem am_lay_lt {a : Nat} {t : am_K} (h : am_lay a = some t) : a < 89 := by
  by_cases q : a < 89
  · exact q
  · exfalso
    unfold am_lay at h
    split at h <;> first | omega | cases h
theorem am_lref_lt {a j b : Nat} (h : am_lref a j = some b) : a < 89 := by
  by_cases q : a < 89
  · exact q
  · exfalso
    unfold am_lref at h
    split at h <;> first | omega | cases h
def adr (a : Nat) : Prop := 51 ≤ a ∧ (a < 54 ∨ 89 ≤ a)
def pw2 (nf : Nat) : Prop := nf = 0 ∨ ∃ b, b ≤ 15 ∧ nf = 2 ^ b
def SR (S : am_S) (w v fd nf sn ns pp np : Nat) : Prop := am_Lay S ∧ (S.2.1 0 3 = some w ∧ S.2.1 0 4 = some v) ∧ am_Fd S fd nf sn ns ∧ am_Pd S pp np ∧ ((w = 2 ∧ v = 22) ∨ (w = 22 ∧ v = 2)) ∧ (adr fd ∧ adr sn ∧ adr pp) ∧ (fd ≠ sn ∧ pp ≠ fd ∧ pp ≠ sn) ∧ (fd < S.2.2.2 ∧ sn < S.2.2.2 ∧ pp < S.2.2.2) ∧ (nf ≤ 32 * ns ∧ nf ≤ 32768 ∧ ns ≤ 1024 ∧ np ≤ 60000 ∧ pw2 nf)
/-- what a search may make: found and seen anew -/
def sct (nf M : Nat) : Nat := if nf < M then (M + 31) / 32 + M else 0
section B60
variable {E : am_E} {S : am_S} {iv : am_I} {Q : am_O → am_S → am_I → Prop} {w v fd nf sn ns pp np d : Nat}
theorem am_Lay.new (h : am_Lay S) (t : am_K) : am_Lay (am_new S t) := by
  obtain ⟨h1, h2, h3⟩ := h
  refine ⟨fun a t' ht => ?_, fun a j b hb => ?_, by show 89 ≤ S.2.2.2 + 1; omega⟩
  · have := am_lay_lt ht
    show (if a = S.2.2.2 then some t else S.1 a) = _
    rw [if_neg (by omega)]; exact h1 a t' ht
  · have := am_lref_lt hb
    show (if a = S.2.2.2 then (fun _ => none) else S.2.1 a) j = _
    rw [if_neg (by omega)]; exact h2 a j b hb
theorem am_Lay.wr (h : am_Lay S) {a k : Nat} (b : Nat) (hn : am_lref a k = none) : am_Lay (am_wr S a k b) := by
  obtain ⟨h1, h2, h3⟩ := h
  refine ⟨h1, fun a' j b' hb => ?_, h3⟩
  show (if a' = a then (fun j => if j = k then some b else S.2.1 a j) else S.2.1 a') j = _
  by_cases e : a' = a
  · subst e
    rw [if_pos rfl]
    by_cases e2 : j = k
    · subst e2; rw [hn] at hb; cases hb
    · show (if j = k then some b else S.2.1 a' j) = _
      rw [if_neg e2]; exact h2 _ _ _ hb
  · rw [if_neg e]; exact h2 _ _ _ hb
theorem wr_s (S : am_S) (a k b : Nat) : (am_wr S a k b).2.1 a k = some b := by simp [am_wr]
theorem wr_o (S : am_S) {a k a' k' : Nat} (b : Nat) (h : a' ≠ a ∨ k' ≠ k) : (am_wr S a k b).2.1 a' k' = S.2.1 a' k' := by
  show (if a' = a then (fun j => if j = k then some b else S.2.1 a j) else S.2.1 a') k' = _
  by_cases e : a' = a
  · subst e
    rw [if_pos rfl]
    show (if k' = k then some b else S.2.1 a' k') = _
    rw [if_neg (by omega)]
  · rw [if_neg e]
theorem new_s (S : am_S) (t : am_K) : (am_new S t).1 S.2.2.2 = some t := by simp [am_new]
theorem new_o (S : am_S) (t : am_K) {a : Nat} (h : a < S.2.2.2) : (am_new S t).1 a = S.1 a := by
  show (if a = S.2.2.2 then some t else S.1 a) = _
  rw [if_neg (by omega)]
theorem new_r (S : am_S) (t : am_K) {a : Nat} (j : Nat) (h : a < S.2.2.2) : (am_new S t).2.1 a j = S.2.1 a j := by
  show (if a = S.2.2.2 then (fun _ => none) else S.2.1 a) j = _
  rw [if_neg (by omega)]
theorem am_0_o (S : am_S) (iv : am_I) {a : Nat} (h : a ≠ S.2.2.2) : am_0 S iv a = iv a := by unfold am_0; rw [if_neg h]
theorem am_0_s (S : am_S) (iv : am_I) : am_0 S iv S.2.2.2 = fun _ => 0 := by unfold am_0; rw [if_pos rfl]
/-- the cells of a search made anew -/
theorem SR.found (h : SR S w v fd nf sn ns pp np) {b wd : Nat} (hb : b ≤ 15) (hwd : 2 ^ b ≤ 32 * wd) (hw2 : wd ≤ 1024) : SR (am_wr (am_new (am_wr (am_new S (.inr (.int, 2 ^ b))) 50 0 S.2.2.2) (.inr (.int, wd))) 50 1 (S.2.2.2 + 1)) w v S.2.2.2 (2 ^ b) (S.2.2.2 + 1) wd pp np := by
  obtain ⟨hL, ⟨h3, h4⟩, hF, hP, hw, ⟨a1, a2, a3⟩, ⟨n1, n2, n3⟩, ⟨l1, l2, l3⟩, m1, m2, m3, m4, m5⟩ := h
  have hz : 89 ≤ S.2.2.2 := hL.2.2
  have hp2 : 2 ^ b ≤ 32768 := Nat.le_trans (Nat.pow_le_pow_right (by decide) hb) (by decide)
  have hL2 : am_Lay (am_wr (am_new (am_wr (am_new S (.inr (.int, 2 ^ b))) 50 0 S.2.2.2) (.inr (.int, wd))) 50 1 (S.2.2.2 + 1)) := ((((hL.new _).wr _ rfl).new _).wr _ rfl)
  generalize hS1 : am_wr (am_new S (.inr (.int, 2 ^ b))) 50 0 S.2.2.2 = S1 at *
  have q1 : S1.2.2.2 = S.2.2.2 + 1 := by rw [← hS1]; rfl
  have r1 : ∀ a j, a < S.2.2.2 → (a ≠ 50 ∨ j ≠ 0) → S1.2.1 a j = S.2.1 a j := fun a j ha hj => by rw [← hS1, wr_o _ _ (by omega), new_r _ _ _ ha]
  have k1 : ∀ a, a < S.2.2.2 → S1.1 a = S.1 a := fun a ha => by rw [← hS1]; exact new_o S _ ha
  have kz : S1.1 S.2.2.2 = some (.inr (.int, 2 ^ b)) := by rw [← hS1]; exact new_s S _
  have r2 : ∀ a j, a < S.2.2.2 → a ≠ 50 → (am_wr (am_new S1 (.inr (.int, wd))) 50 1 (S.2.2.2 + 1)).2.1 a j = S.2.1 a j := fun a j ha h5 => by rw [wr_o _ _ (Or.inl h5), new_r _ _ _ (by omega), r1 a j ha (Or.inl h5)]
  have k2 : ∀ a, a < S.2.2.2 + 1 → (am_wr (am_new S1 (.inr (.int, wd))) 50 1 (S.2.2.2 + 1)).1 a = S1.1 a := fun a ha => new_o S1 _ (by omega)
  refine ⟨hL2, ⟨by rw [r2 0 3 (by omega) (by decide)]; exact h3, by rw [r2 0 4 (by omega) (by decide)]; exact h4⟩, ⟨?_, ?_, ?_, ?_⟩, ⟨?_, ?_⟩, hw, ⟨⟨by omega, by omega⟩, ⟨by omega, by omega⟩, a3⟩, ⟨by omega, by omega, by omega⟩, ⟨?_, ?_, ?_⟩, ⟨hwd, hp2, hw2, m4, Or.inr ⟨b, hb, rfl⟩⟩⟩
  · rw [wr_o _ _ (Or.inr (by decide)), new_r _ _ _ (by omega), ← hS1, wr_s]
  · rw [k2 _ (by omega)]; exact kz
  · exact wr_s _ _ _ _
  · show (am_new S1 (.inr (.int, wd))).1 (S.2.2.2 + 1) = _
    rw [← q1]; exact new_s S1 _
  · rw [r2 0 9 (by omega) (by decide)]; exact hP.1
  · rw [k2 _ (by omega), k1 _ l3]; exact hP.2
  · show S.2.2.2 < S1.2.2.2 + 1; omega
  · show S.2.2.2 + 1 < S1.2.2.2 + 1; omega
  · show pp < S1.2.2.2 + 1; omega
theorem nI_mx {B : Nat} (hB : B ≤ 15) : (if (15 : Int32) < (if nI B < 0 then 0 else nI B) then 15 else (if nI B < 0 then 0 else nI B)) = nI B := by
  rw [if_neg (nI_pos (by omega)), if_neg (show ¬ (15 : Int32) < nI B from nI_nlt (a := 15) hB (by decide))]
theorem M_begin (h : SR S w v fd nf sn ns pp np) {B : Nat} (hB : B ≤ 15)
    (hQ : ∀ S' iv' fd' nf' sn' ns', SR S' w v fd' nf' sn' ns' pp np → 2 ^ B ≤ nf' → nf' = (if nf < 2 ^ B then 2 ^ B else nf) → S.2.2.2 ≤ S'.2.2.2 → iv' 50 2 = 0 → (∀ s, s < 2 ^ B → sb iv' sn' s = false) → (∀ a j, a < 50 ∨ (54 ≤ a ∧ a < 89) ∨ a = pp ∨ (a = 50 ∧ j = 3) → iv' a j = iv a j) → Q (.inl none) S' iv') :
    am_M E (d + 1) mX6_begin 2 (sct nf (2 ^ B)) [.ref 50, .int (nI B)] S iv Q := by
  have hL := h.1
  have hF := h.2.2.1
  have h9 := h
  have hp2 : 2 ^ B ≤ 32768 := Nat.le_trans (Nat.pow_le_pow_right (by decide) hB) (by decide)
  have h1p : 1 ≤ 2 ^ B := Nat.one_le_two_pow
  obtain ⟨-, -, -, -, hw, ⟨a1, a2, a3⟩, ⟨n1, n2, n3⟩, ⟨l1, l2, l3⟩, m1, m2, m3, m4, m5⟩ := h
  have h50 : S.1 50 = some (.inl 6) := hL.1 _ _ rfl
  have hf0 := hF.1
  have hf1 := hF.2.1
  have eD : ∀ (X : Int32), X = nI (2 ^ B) → (X + 31) / 32 = nI ((2 ^ B + 31) / 32) := fun X hX => by
    rw [hX, show (31 : Int32) = nI 31 from rfl, nI_add, show (32 : Int32) = nI 32 from rfl, nI_div (by omega) (by decide)]
  have eS : (1 : Int32) <<< ((if (15 : Int32) < (if nI B < 0 then 0 else nI B) then 15 else (if nI B < 0 then 0 else nI B)) &&& 31) = nI (2 ^ B) := by
    rw [nI_mx hB, show (1 : Int32) = nI 1 from rfl, am_31 B (by omega), nI_shl (by omega), Nat.one_mul]
  refine am_enter (js := [.double 0, .double 0, .double 0]) rfl pn_X6 rfl rfl rfl (Nat.le_of_ble_eq_true rfl) ?_
  refine (sX6_begin_0 (sX6_begin_1 (sX6_begin_2 (sX6_begin_3 (Nat.le_of_ble_eq_true rfl) (J_max (sX6_begin_6 (sX6_begin_8 (Nat.le_of_ble_eq_true rfl) (J_min (sX6_begin_11 (sX6_begin_12 (sX6_begin_13 (sX6_begin_14 (sX6_begin_16 (sX6_begin_17 (sX6_begin_19 (by decide) (sX6_begin_20 (sX6_begin_21 rfl (sX6_begin_22 (by assumption) (by assumption) (sX6_begin_25 (by assumption) rfl (sX6_begin_26 ?_))))))))))))))))))))
  rw [eD _ eS, eS]
  have FIN : ∀ (S' : am_S) (iv1 : am_I) (fd' nf' sn' ns' : Nat), SR S' w v fd' nf' sn' ns' pp np → 2 ^ B ≤ nf' → nf' = (if nf < 2 ^ B then 2 ^ B else nf) → S.2.2.2 ≤ S'.2.2.2 → (∀ a j, a < 50 ∨ (54 ≤ a ∧ a < 89) ∨ a = pp ∨ (a = 50 ∧ j = 3) → iv1 a j = iv a j) → ∀ z1 z2 z4 : Value, am_R E 0 mX6_begin 0 0 44 [.ref 50, z1, z2, .int (nI ((2 ^ B + 31) / 32)), z4] [] S' iv1 Q := by
    intro S' iv1 fd' nf' sn' ns' hS' g1 g2 g3 g4 z1 z2 z4
    have hS9 := hS'
    obtain ⟨hL', -, hF', -, -, ⟨b1, b2, b3⟩, ⟨c1, c2, c3⟩, -, d1, d2, d3, -, -⟩ := hS'
    have hcl : cs_L fd' nf' sn' ns' (2 ^ B) := ⟨c1, b1.1, b2.1, g1, by omega, d2, d3⟩
    obtain ⟨iv2, e2, f2, k2, s2⟩ := K_begin (iv := iv1) (wd := (2 ^ B + 31) / 32) hcl (by omega) (by omega)
    refine j_X6_begin_44 hL' hF' e2 (hQ S' iv2 fd' nf' sn' ns' hS9 g1 g2 g3 k2 s2 (fun a j ha => ?_))
    have hb2 := b2.2
    have hb1 := b2.1
    have ha' : a ≠ sn' ∧ ¬ (a = 50 ∧ j = 2) := by
      rcases ha with h | h | h | h
      · exact ⟨by omega, by omega⟩
      · exact ⟨by omega, by omega⟩
      · exact ⟨by rw [h]; exact c3, by have := b3.1; omega⟩
      · exact ⟨by omega, by omega⟩
    rw [f2 a j (by simpa using ha'.1) (by simp; omega)]
    exact g4 a j ha
  refine sX6_begin_27 (fun e27 => ?_) (fun e27 => ?_)
  · rw [show Int32.ofNat nf = nI nf from rfl, nI_leI (by omega) (by omega)] at e27
    exact ((FIN S iv fd nf sn ns h9 e27 (by rw [if_neg (by omega)]) (Nat.le_refl _) (fun a j _ => rfl) _ _ _).deep (Nat.zero_le _)).less (Nat.zero_le _) (Nat.zero_le _)
  · rw [show Int32.ofNat nf = nI nf from rfl, nI_leI (by omega) (by omega)] at e27
    have hct : sct nf (2 ^ B) = (2 ^ B + 31) / 32 + 2 ^ B := by unfold sct; rw [if_pos (by omega)]
    rw [hct]
    have hwl : (2 ^ B + 31) / 32 < 65536 := by omega
    refine sX6_begin_30 rfl (sX6_begin_31 (sX6_begin_32 (k := 1) (nI_pos (by omega)) (am_cl (by omega)) (by omega) (sX6_begin_34 ?_ (sX6_begin_37 rfl (sX6_begin_38 ?_)))))
    · rw [new_o _ _ (by have := hL.2.2; omega)]; exact h50
    refine am_R.less (k := 0 + 1) (n := 0 + (2 ^ B + 31) / 32) ?_ (by omega) (by omega)
    refine sX6_begin_39 (nI_pos (by omega)) (am_cl hwl) (by omega) (sX6_begin_41 ?_ ?_)
    · have hz := hL.2.2
      rw [new_o _ _ (by show 50 < S.2.2.2 + 1; omega)]
      show (am_new S (.inr (.int, 2 ^ B))).1 50 = _
      rw [new_o _ _ (by omega)]; exact h50
    refine (FIN _ _ S.2.2.2 (2 ^ B) (S.2.2.2 + 1) ((2 ^ B + 31) / 32) (SR.found h9 hB (by omega) (by omega)) (Nat.le_refl _) (by rw [if_pos (by omega)]) (by show S.2.2.2 ≤ S.2.2.2 + 1 + 1; omega) (fun a j ha => ?_) _ _ _).deep (Nat.zero_le _)
    have hz := hL.2.2
    have b3 := a3.2
    rw [am_0_o _ _ (by show a ≠ S.2.2.2 + 1; omega), am_0_o _ _ (by omega)]
end B60
