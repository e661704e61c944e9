/-! the class: everOut, keepSteps -/
section B62
variable {E : am_E} {S : am_S} {iv : am_I} {Q : am_O → am_S → am_I → Prop} {w v fd nf sn ns pp np d : Nat} {c : Nat → Nat → Nat} {ρ : ru_T}
theorem M_everOut {x sl o : Nat} (h : SR S w v fd nf sn ns pp np) (hx : x = 2 ∨ x = 22) (hW : cl_W x iv c ρ) (hc : cy_ok c) (ho : ru_ok ρ (cy_r c)) (hsl : sl < 1024) (hol : o < 2 ^ cy_n c)
    (hQ : ∀ S' iv' fd' nf' sn' ns' N st par lab p, SR S' w v fd' nf' sn' ns' pp np → nf' = (if nf < 2 ^ cy_n c then 2 ^ cy_n c else nf) → S.2.2.2 ≤ S'.2.2.2 → cl_W x iv' c ρ → bf (ks c ρ sl false) (cy_n c) o N st par lab p → N * 16 ≤ p → (∀ j, j < N → st j < 2 ^ cy_n c) → sfr x pp iv iv' → Q (.inl (some (.int (nI (cy_or (fun j => st j % 2 ^ cy_n c) N))))) S' iv') :
    am_M E (d + 7) mX6_everOut 2 (sct nf (2 ^ cy_n c)) [.ref 50, .ref x, .int (nI o), .int (nI sl)] S iv Q := by
  have hL := h.1
  have hn := hc.1
  have h10 := cy_p10 hn
  have h1p : 1 ≤ 2 ^ cy_n c := Nat.one_le_two_pow
  have h50 : S.1 50 = some (.inl 6) := hL.1 _ _ rfl
  have hkM : kM c false = 2 ^ cy_n c := by simp [kM]
  refine am_enter (js := [.double 0, .double 0]) rfl pn_X6 rfl rfl rfl (Nat.le_of_ble_eq_true rfl) ?_
  refine (sX6_everOut_0 rfl (sX6_everOut_1 rfl (sX6_everOut_2 (sX6_everOut_3 (sX6_everOut_4 (sX6_everOut_5 ?_))))))
  refine sX6_everOut_6_k (k' := 2) (k := 0) (n' := sct nf (2 ^ cy_n c)) (n := 0) h50 (Nat.le_of_ble_eq_true rfl) ?_
  rw [← hkM]
  refine M_seek (br := false) (s0 := o) (g := fun _ => false) h hx hW hc ho hsl ?_ (by rw [hkM]; exact hol) ?_ ?_ (fun S' iv' fd' nf' sn' ns' r hS' hcl g2 g3 hE hf => ?_)
  · exact ⟨fun _ => rfl, fun _ => nI_le (a := 0) (Nat.zero_le _) (by omega)⟩
  · rw [if_neg (by decide), fa_and, and_mask, Nat.mod_eq_of_lt hol]
  · intro s hs
    rw [show nI s &&& (0 : Int32) = nI (s &&& 0) from fa_and s 0, Nat.and_zero]
    constructor
    · intro q; exact absurd q (by decide)
    · intro q; cases q
  · show am_R E (d + 7) mX6_everOut 0 0 9 _ _ S' iv' Q
    obtain ⟨hI, N, st, par, lab, p, hS, hb, hr⟩ := hE
    rcases hr with ⟨r1, r2, r3⟩ | ⟨j, -, -, r3, -⟩
    · refine sX6_everOut_9 rfl ?_
      have e := K_everOut hS hcl hc hI.2
      rw [hkM] at g2
      refine am_R.deep (j_X6_everOut_10 hS'.1 hS'.2.2.1 e (hQ S' iv' fd' nf' sn' ns' N st par lab p hS' g2 g3 hI.1 hb r2 (fun j hj => ?_) hf)) (Nat.zero_le _)
      have := (hS.2.2.1 j hj).1
      rw [hkM] at this
      exact this
    · cases r3
/-- a row made anew -/
theorem SR.steps (h : SR S w v fd nf sn ns pp np) {L : Nat} (hL2 : L ≤ 60000) : SR (am_wr (am_new S (.inr (.int, L))) 0 9 S.2.2.2) w v fd nf sn ns S.2.2.2 L := by
  obtain ⟨hL, ⟨h3, h4⟩, hF, hP, hw, ⟨a1, a2, a3⟩, ⟨n1, n2, n3⟩, ⟨l1, l2, l3⟩, m1, m2, m3, m4, m5⟩ := h
  have hz : 89 ≤ S.2.2.2 := hL.2.2
  have r1 : ∀ a j, a < S.2.2.2 → (a ≠ 0 ∨ j ≠ 9) → (am_wr (am_new S (.inr (.int, L))) 0 9 S.2.2.2).2.1 a j = S.2.1 a j := fun a j ha hj => by rw [wr_o _ _ (by omega), new_r _ _ _ ha]
  have k1 : ∀ a, a < S.2.2.2 → (am_wr (am_new S (.inr (.int, L))) 0 9 S.2.2.2).1 a = S.1 a := fun a ha => new_o S _ ha
  refine ⟨(hL.new _).wr _ rfl, ⟨by rw [r1 0 3 (by omega) (by omega)]; exact h3, by rw [r1 0 4 (by omega) (by omega)]; exact h4⟩, ⟨by rw [r1 50 0 (by omega) (by omega)]; exact hF.1, by rw [k1 _ l1]; exact hF.2.1, by rw [r1 50 1 (by omega) (by omega)]; exact hF.2.2.1, by rw [k1 _ l2]; exact hF.2.2.2⟩, ⟨wr_s _ _ _ _, new_s S _⟩, hw, ⟨a1, a2, ⟨by omega, by omega⟩⟩, ⟨n1, by omega, by omega⟩, ⟨?_, ?_, ?_⟩, ⟨m1, m2, m3, hL2, m5⟩⟩
  · show fd < S.2.2.2 + 1; omega
  · show sn < S.2.2.2 + 1; omega
  · show S.2.2.2 < S.2.2.2 + 1; omega
theorem M_keepSteps {br : Bool} {sl s0 N p j : Nat} {st par lab : Nat → Nat} (h : SR S w v fd nf sn ns pp np) (hc : cy_ok c) (hcl : cs_L fd nf sn ns (kM c br)) (hS : cs_S iv fd sn N st par (kM c br)) (hb : bf (ks c ρ sl br) (cy_n c) s0 N st par lab p) (h3 : iv 50 3 = nI (2 ^ cy_n c - 1)) (hj : j < N)
    (hQ : ∀ S' iv' pp' np', SR S' w v fd nf sn ns pp' np' → S.2.2.2 ≤ S'.2.2.2 → (bo par lab j).length ≤ np' → rw_of iv' pp' (bo par lab j) → iv' 0 10 = nI (bo par lab j).length → (∀ a k, a ≠ pp' → a < S.2.2.2 → (a ≠ 0 ∨ k ≠ 10) → iv' a k = iv a k) → Q (.inl (some (.int (nI (bo par lab j).length)))) S' iv') :
    am_M E (d + 3) mX9_keepSteps 1 6143 [.ref 0, .int (nI j)] S iv Q := by
  have hL := h.1
  have hF := h.2.2.1
  have hP := h.2.2.2.1
  have hlen := K_len hc hS hb hj
  have hz := hL.2.2
  have h00 : S.1 0 = some (.inl 9) := hL.1 _ _ rfl
  have h08 : S.2.1 0 8 = some 50 := hL.2.1 _ _ _ rfl
  have h50 : S.1 50 = some (.inl 6) := hL.1 _ _ rfl
  have est := K_stepsTo (sl := sl) hS hcl hb hj
  have hN := hS.2.1
  have hM := kM_le hc br
  have hnp : np ≤ 60000 := h.2.2.2.2.2.2.2.2.2.2.2.1
  generalize hLe : (bo par lab j).length = L at *
  have W : ∀ (S1 : am_S) (iv1 : am_I) (pp1 np1 : Nat), SR S1 w v fd nf sn ns pp1 np1 → S.2.2.2 ≤ S1.2.2.2 → L ≤ np1 → (∀ a k, a < S.2.2.2 → iv1 a k = iv a k) → am_R E (d + 3) mX9_keepSteps 0 0 32 [.ref 0, .int (nI j), .int (nI L)] [] S1 iv1 Q := by
    intro S1 iv1 pp1 np1 h1 g1 g2 g3
    have hL1 := h1.1
    have hF1 := h1.2.2.1
    have hP1 := h1.2.2.2.1
    have hnp1 : np1 ≤ 60000 := h1.2.2.2.2.2.2.2.2.2.2.2.1
    have hneq := h1.2.2.2.2.2.2.1
    have hadr := h1.2.2.2.2.2.1.2.2
    have h00' : S1.1 0 = some (.inl 9) := hL1.1 _ _ rfl
    have h08' : S1.2.1 0 8 = some 50 := hL1.2.1 _ _ _ rfl
    have h50' : S1.1 50 = some (.inl 6) := hL1.1 _ _ rfl
    have hP0 := hP1.1
    have hfl := h.2.2.2.2.2.2.2.1
    have hS1 : cs_S iv1 fd sn N st par (kM c br) := by
      obtain ⟨q1, q2, q3, q4⟩ := hS
      refine ⟨by rw [g3 50 2 (by omega)]; exact q1, q2, fun i hi => by rw [g3 fd i hfl.1]; exact q3 i hi, fun s hs => ?_⟩
      have : sb iv1 sn s = sb iv sn s := by unfold sb; rw [g3 sn _ hfl.2.1]
      rw [this]; exact q4 s hs
    obtain ⟨iv2, e2, r2⟩ := K_writeSteps (pp := pp1) (np := np1) hS1 hc hcl hb (by rw [g3 50 3 (by omega)]; exact h3) hj hneq.2.1 (by have := hadr.1; omega) (by rw [hLe]; exact g2) hnp1
    rw [hLe] at e2
    have f2 := X_X6_writeSteps e2
    refine (sX9_keepSteps_32 rfl (sX9_keepSteps_33 (by assumption) (by assumption) (sX9_keepSteps_36 (sX9_keepSteps_37 (sX9_keepSteps_38 rfl (sX9_keepSteps_39 (by assumption) (by assumption) ?_))))))
    refine sX9_keepSteps_42 h50' (Nat.le_of_ble_eq_true rfl) (R_X6_writeSteps hL1 hF1 hP1.2 e2 ?_ (by omega))
    show am_R E (d + 3) mX9_keepSteps 0 0 45 _ _ S1 iv2 Q
    refine sX9_keepSteps_45 rfl (sX9_keepSteps_46 (sX9_keepSteps_47 h00' (sX9_keepSteps_50 (sX9_keepSteps_51 ?_))))
    refine hQ S1 _ pp1 np1 h1 g1 g2 ?_ ?_ (fun a k ha1 ha2 ha3 => ?_)
    · intro i hi
      have := hadr.1
      rw [am_w_other _ _ _ (by omega)]; exact r2 i hi
    · rw [am_w_r, if_pos rfl, if_pos rfl]
    · rw [am_w_r]
      by_cases e0 : a = 0
      · subst e0
        rw [if_pos rfl, if_neg (by omega), f2 0 k (by simp; omega) (by simp)]; exact g3 0 k ha2
      · rw [if_neg e0, f2 a k (by simp; omega) (by simp)]; exact g3 a k ha2
  refine am_enter (js := [.double 0]) rfl pn_X9 rfl rfl rfl (Nat.le_of_ble_eq_true rfl) ?_
  refine sX9_keepSteps_0 (sX9_keepSteps_1 (sX9_keepSteps_2 (fun _ => ?_) (fun q => absurd q (cy_m1 (by omega)))))
  refine sX9_keepSteps_7 rfl (sX9_keepSteps_8 h00 h08 (sX9_keepSteps_11 ?_))
  refine sX9_keepSteps_12 h50 (Nat.le_of_ble_eq_true rfl) (R_X6_stepsTo hL hF est ?_ (Nat.zero_le _))
  show am_R E (d + 3) mX9_keepSteps 1 6143 15 _ _ S iv Q
  refine sX9_keepSteps_15 (sX9_keepSteps_16 rfl (sX9_keepSteps_17 h00 hP.1 (sX9_keepSteps_20 hP.2 rfl (sX9_keepSteps_21 (sX9_keepSteps_22 (fun e22 => ?_) (fun e22 => ?_))))))
  · rw [show Int32.ofNat np = nI np from rfl, nI_leI (by omega) (by omega)] at e22
    exact (W S iv pp np h (Nat.le_refl _) e22 (fun _ _ _ => rfl)).less (by omega) (by omega)
  · rw [show Int32.ofNat np = nI np from rfl, nI_leI (by omega) (by omega)] at e22
    refine am_R.less (k := 0 + 1) (n := 0 + L) ?_ (by omega) (by omega)
    refine sX9_keepSteps_25 rfl (sX9_keepSteps_26 (sX9_keepSteps_27 (nI_pos (by omega)) (am_cl (by omega)) (by omega) (sX9_keepSteps_29 ?_ ?_)))
    · rw [new_o _ _ (by omega)]; exact h00
    · exact W _ _ S.2.2.2 L (h.steps (by omega)) (by show S.2.2.2 ≤ S.2.2.2 + 1; omega) (Nat.le_refl _) (fun a k ha => by rw [am_0_o _ _ (by omega)])
theorem M_keepNone {place : Int32} {k n : Nat} (hp : place = -1) (hQ : Q (.inl (some (.int (-1)))) S iv) : am_M E d mX9_keepSteps k n [.ref 0, .int place] S iv Q := by
  refine am_enter (js := [.double 0]) rfl pn_X9 rfl rfl rfl (Nat.le_of_ble_eq_true rfl) ?_
  exact sX9_keepSteps_0 (sX9_keepSteps_1 (sX9_keepSteps_2 (fun q => absurd hp q) (fun _ => sX9_keepSteps_5 (sX9_keepSteps_6 hQ))))
end B62
