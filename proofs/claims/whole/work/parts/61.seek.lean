/-! the class: seek -/
section B61
variable {E : am_E} {S : am_S} {iv : am_I} {Q : am_O → am_S → am_I → Prop} {w v fd nf sn ns pp np d : Nat} {c : Nat → Nat → Nat} {ρ : ru_T}
/-- how many bits a search has -/
def kB (c : Nat → Nat → Nat) (br : Bool) : Nat := if br then cy_n c + cy_p c else cy_n c
theorem kB_M (br : Bool) : kM c br = 2 ^ kB c br := by
  unfold kM kB
  cases br with
  | true => simp [Nat.pow_add]
  | false => simp
theorem cl_W.eq {iv' : am_I} (h : cl_W w iv c ρ) (e : ∀ k, k < 20 → ∀ j, iv' (w + k) j = iv (w + k) j) : cl_W w iv' c ρ := by
  have e' : ∀ k, k < 20 → iv' (w + k) = iv (w + k) := fun k hk => funext (e k hk)
  exact ⟨h.1.fr (fun k hk => e' k (by omega)), h.2.1.fr (fun k hk => e' k (by omega)), h.2.2.1.fr (fun k hk => e' k (by omega)), fun s hs => by rw [e' 19 (by omega)]; exact h.2.2.2 s hs⟩
/-- what a search leaves of the rest -/
def sfr (x pp : Nat) (iv iv' : am_I) : Prop := ∀ a j, (a < 50 ∧ ¬ (x + 17 ≤ a ∧ a ≤ x + 19)) ∨ (54 ≤ a ∧ a < 89) ∨ a = pp → iv' a j = iv a j
theorem M_seek {x : Nat} {br : Bool} {sl s0 : Nat} {i2 i4 i5 : Int32} {g : Nat → Bool} (h : SR S w v fd nf sn ns pp np) (hx : x = 2 ∨ x = 22) (hW : cl_W x iv c ρ) (hc : cy_ok c) (ho : ru_ok ρ (cy_r c)) (hsl : sl < 1024) (hbr : (i4 ≤ nI (2 ^ cy_n c - 1)) ↔ br = false) (hs0 : s0 < kM c br) (hi2 : (if br then i2 else i2 &&& nI (2 ^ cy_n c - 1)) = nI s0) (hg : ∀ s, s < kM c br → ((nI s &&& i4 = i5) ↔ g s = true))
    (hQ : ∀ S' iv' fd' nf' sn' ns' r, SR S' w v fd' nf' sn' ns' pp np → cs_L fd' nf' sn' ns' (kM c br) → nf' = (if nf < kM c br then kM c br else nf) → S.2.2.2 ≤ S'.2.2.2 → cs_E x fd' sn' c ρ sl br s0 g r iv' → sfr x pp iv iv' → Q (.inl (some (.int r))) S' iv') :
    am_M E (d + 6) mX6_seek 2 (sct nf (kM c br)) [.ref 50, .ref x, .int i2, .int (nI sl), .int i4, .int i5] S iv Q := by
  have hL := h.1
  have hn := hc.1
  have h10 := cy_p10 hn
  have hp5 := hc.2.2.1
  have hB : kB c br ≤ 15 := by unfold kB; split <;> omega
  have h1p : 1 ≤ 2 ^ cy_n c := Nat.one_le_two_pow
  have h50 : S.1 50 = some (.inl 6) := hL.1 _ _ rfl
  have hx0 : S.1 x = some (.inl 0) := kW_0 hL hx
  have hx7 : S.2.1 x 7 = some (x + 1) := rW_0_7 hL hx
  have hx8 : S.2.1 x 8 = some (x + 10) := rW_0_8 hL hx
  have hx1 : S.1 (x + 1) = some (.inl 2) := kW_1 hL hx
  have hx10 : S.1 (x + 10) = some (.inl 4) := kW_10 hL hx
  have eall : F_X2_all x iv = some (nI (2 ^ cy_n c - 1)) := by
    unfold F_X2_all; rw [hW.1.1.2.2.2.1, am_shl1 _ (by omega), nI_s1 h1p]
  have en : iv (x + 1) 0 = nI (cy_n c) := hW.1.1.2.2.2.1
  have ep : iv (x + 10) 0 = nI (cy_p c) := hW.1.1.2.2.2.2.1
  refine am_enter (js := [.double 0, .double 0, .double 0, .double 0, .double 0, .double 0, .double 0, .double 0, .double 0]) rfl pn_X6 rfl rfl rfl (Nat.le_of_ble_eq_true rfl) ?_
  refine (sX6_seek_0 rfl (sX6_seek_1 (by assumption) (by assumption) (sX6_seek_4 (by assumption) (sX6_seek_7 (sX6_seek_9 rfl (sX6_seek_10 rfl (sX6_seek_11 (by assumption) (by assumption) (sX6_seek_14 (by assumption) (Nat.le_of_ble_eq_true rfl) ((R_X2_all hL hx eall (sX6_seek_17 (by assumption) (sX6_seek_20 (sX6_seek_22 rfl (sX6_seek_23 (by assumption) ?_)))) (Nat.zero_le _)))))))))))
  have e3 : am_w iv 50 3 (nI (2 ^ cy_n c - 1)) 50 3 = nI (2 ^ cy_n c - 1) := by rw [am_w_r, if_pos rfl, if_pos rfl]
  have eo : ∀ a, a ≠ 50 → am_w iv 50 3 (nI (2 ^ cy_n c - 1)) a = iv a := fun a ha => am_w_other _ _ _ ha
  rw [e3, en]
  generalize hv : am_w iv 50 3 (nI (2 ^ cy_n c - 1)) = iv1 at e3 eo
  have K : ∀ z : Int32, z = nI (kB c br) → am_R E (d + 6) mX6_seek 2 (sct nf (kM c br)) 57 [.ref 50, .ref x, .int i2, .int (nI sl), .int i4, .int i5, .int (nI (cy_n c)), .int (am_bi br), .double 0, .double 0, .double 0, .double 0, .double 0, .double 0, .double 0] (.int z :: .ref 50 :: []) S iv1 Q := by
    intro z hz
    subst hz
    rw [kB_M]
    refine sX6_seek_57_k (k' := 2) (k := 0) (n' := sct nf (2 ^ kB c br)) (n := 0) h50 (Nat.le_of_ble_eq_true rfl) (M_begin h hB (fun S' iv2 fd' nf' sn' ns' hS' g1 g2 g3 g4 g5 g6 => ?_))
    show am_R E (d + 6) mX6_seek 0 0 60 _ _ S' iv2 Q
    have hS9 := hS'
    obtain ⟨hL', -, hF', -, -, ⟨b1, b2, b3⟩, ⟨c1, c2, c3⟩, -, d1, d2, d3, -, -⟩ := hS'
    have hcl : cs_L fd' nf' sn' ns' (kM c br) := ⟨c1, b1.1, b2.1, by rw [kB_M]; exact g1, by rw [kB_M]; omega, d2, d3⟩
    have hI : cs_I x iv2 c ρ := by
      refine ⟨hW.eq (fun k hk j => ?_), ?_⟩
      · rw [g6 _ j (by omega), eo _ (by omega)]
      · rw [g6 50 3 (by omega)]; exact e3
    obtain ⟨r, iv3, e4, hE⟩ := K_seek75 (iv := iv2) hx hI hc ho hcl hsl hg hs0 g4 (by rw [kB_M]; exact g5)
    have f4 := x_X6_seek_75 (am_fr.rf _ _ _) e4
    have e5 : J_X6_seek_60 fd' nf' sn' ns' x i2 (nI sl) i4 i5 (nI (cy_n c)) (am_bi br) iv2 = some (r, iv3) := by
      unfold J_X6_seek_60
      rw [hI.2]
      cases br with
      | true =>
        rw [if_neg (show ¬ am_bi true = 0 by decide)]
        rw [if_pos rfl] at hi2
        rw [hi2]; exact e4
      | false =>
        rw [if_pos (show am_bi false = 0 from rfl)]
        rw [if_neg (by decide)] at hi2
        rw [hi2]; exact e4
    refine am_R.deep (j_X6_seek_60 hL' hF' hx e5 (hQ S' iv3 fd' nf' sn' ns' r hS9 hcl (by rw [kB_M]; exact g2) g3 hE (fun a j ha => ?_))) (by omega)
    have hb1 := b1.1
    have hb12 := b1.2
    have hb2 := b2.1
    have hb22 := b2.2
    have hb3 := b3.1
    have ha' : a ≠ x + 17 ∧ a ≠ x + 18 ∧ a ≠ x + 19 ∧ a ≠ fd' ∧ a ≠ sn' ∧ a ≠ 50 := by
      have := b3.2
      refine ⟨?_, ?_, ?_, ?_, ?_, ?_⟩ <;> omega
    have f5 : iv3 a j = iv2 a j := f4 a j (by simp; omega) (by simp; omega)
    rw [f5, g6 a j (by omega), eo _ (by omega)]
  have hbs : (nI (2 ^ cy_n c - 1) < i4) ↔ br = true := by
    have h1 : (nI (2 ^ cy_n c - 1) < i4) ↔ ¬ i4 ≤ nI (2 ^ cy_n c - 1) := ⟨fun q => Int32.not_le.mpr q, fun q => Int32.not_le.mp q⟩
    rw [h1, hbr]
    cases br <;> simp
  refine sX6_seek_26 (fun e26 => ?_) (fun e26 => ?_)
  · have hb : br = false := hbr.mp e26
    subst hb
    refine sX6_seek_33 (sX6_seek_34 (sX6_seek_36 rfl (sX6_seek_37 (sX6_seek_39 (fun _ => ?_) (fun q => absurd rfl q)))))
    refine sX6_seek_55 ?_
    exact K _ (by simp [kB])
  · have hb : br = true := by
      cases br with
      | true => rfl
      | false => exact absurd (hbr.mpr rfl) e26
    subst hb
    refine sX6_seek_29 (sX6_seek_30 (sX6_seek_34 (sX6_seek_36 rfl (sX6_seek_37 (sX6_seek_39 (fun q => absurd q (by decide)) (fun _ => ?_))))))
    refine sX6_seek_42 (sX6_seek_44 rfl (sX6_seek_45 hx0 hx8 (sX6_seek_48 hx10 (sX6_seek_51 (sX6_seek_52 ?_)))))
    refine K _ ?_
    rw [eo (x + 10) (by omega), ep, nI_add]
    simp [kB]
end B61
