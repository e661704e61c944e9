/-! reading a line on both sides: the line, whole -/
section B89
variable {w t rr xr : Nat} {ivc ivm ivc' ivm' iv : am_I} {τ : Nat → Nat} {n ty fi be : Nat} {c : Nat → Nat → Nat} {ρ : ru_T} {f : Nat → Bool}
theorem sn_or : ∀ m, m < 64 → nI m ||| nI 1 = nI (m ||| 1) ∧ nI m ||| nI 2 = nI (m ||| 2) ∧ nI m ||| nI 4 = nI (m ||| 4) ∧ nI m ||| nI 16 = nI (m ||| 16) ∧ nI m ||| nI 32 = nI (m ||| 32) := by decide +kernel
theorem sn_an : ∀ m, m < 64 → ∀ i, i < 3 → (nI m &&& nI (2 ^ i) = 0 ↔ m.testBit i = false) := by decide +kernel
theorem sn_bits : ∀ m, m < 64 → (m ||| 16 < 64 ∧ m ||| 16 ≠ 0 ∧ ∀ i, i < 3 → (m ||| 16).testBit i = m.testBit i) ∧ (m ||| 32 < 64 ∧ m ||| 32 ≠ 0 ∧ ∀ i, i < 3 → (m ||| 32).testBit i = m.testBit i) ∧ ∀ j, j < 3 → (m ||| 2 ^ j < 64 ∧ m ||| 2 ^ j ≠ 0 ∧ ∀ i, i < 3 → (m ||| 2 ^ j).testBit i = if i = j then true else m.testBit i) := by decide +kernel
/-- a line on both sides -/
def LN (w t rr : Nat) (τ : Nat → Nat) (n fi : Nat) (ivm : am_I) (Fc : Option (Int32 × am_I)) (Fm : Option (Int32 × am_I)) : Prop :=
  ∃ (b : Bool) (ivc' ivm' : am_I) (m' : Nat), Fc = some (am_bi b, ivc') ∧ Fm = some (nI m', ivm') ∧ Hk ivm ivm' ∧ (b = true → m' < 64 ∧ m' ≠ 0 ∧ ∃ ty' fi' be' c' ρ' f', TR t ivc' ivm' τ n ty' fi' be' ∧ fi < fi' ∧ CP w ivc' ivm' c' ρ' ∧ ρ'.1 (cy_r c') ≤ fi' ∧ FG rr ivc' f' ∧ ∀ i, i < 3 → f' i = m'.testBit i) ∧ (b = false → EE t ivc' ivm')
theorem LN.of {f' : Nat → Bool} {Fc Fc' : Option (Int32 × am_I)} {Fm : Option am_I} {Fm' : Option (Int32 × am_I)} {m m' : Nat} {i4 : Int32} (hx : TX τ n) (hw : w = 2 ∨ w = 22) (ht : 89 ≤ t) (hrr : 89 ≤ rr) (hr : rr ≠ t) (h : LO w t rr τ n fi f' ivm Fc Fm) (e1 : Fc' = Fc) (e2 : Fm' = am_o1 Fm fun w => J_X10_readLine_196 (nI m) i4 w) (em : nI m ||| i4 = nI m') (hm : m' < 64 ∧ m' ≠ 0 ∧ ∀ i, i < 3 → m'.testBit i = f' i) :
    LN w t rr τ n fi ivm (am_o2 Fc' fun v4 w4 => (if v4 = 0 then some ((0 : Int32), w4) else (am_o2 (F_X1_readSign w t rr xr (59 : Int32) w4) fun v5 w5 => (if v5 = 0 then some ((0 : Int32), w5) else some ((1 : Int32), w5))))) Fm' := by
  subst e1; subst e2
  obtain ⟨b, ivc1, ivm1, a1, a2, a3, a4, a5⟩ := S_semi (xr := xr) hx hw ht hrr hr (nI m) i4 h
  refine ⟨b, ivc1, ivm1, m', a1, by rw [a2, em], a3, fun q => ?_, a5⟩
  obtain ⟨ty', fi', be', c', ρ', b1, b2, b3, b4, b5⟩ := a4 q
  exact ⟨hm.1, hm.2.1, ty', fi', be', c', ρ', f', b1, b2, b3, b4, b5, fun i hi => (hm.2.2 i hi).symm⟩
theorem S_line {m : Nat} {fst : Bool} (hx : TX τ n) (hw : w = 2 ∨ w = 22) (ht : 89 ≤ t) (hrr : 89 ≤ rr) (hr : rr ≠ t) (h : TR t ivc ivm τ n ty fi be) (hc : CP w ivc ivm c ρ) (hF : FG rr ivc f) (hb : ρ.1 (cy_r c) ≤ fi) (hm : m < 64) (hf : ∀ i, i < 3 → m.testBit i = f i) (h1 : fst = true ↔ m = 0) (h0 : fst = true → cy_n c = 0) :
    LN w t rr τ n fi ivm (am_o2 (F_X1_readLine w t rr xr (am_bi fst) ivc) fun v4 w4 => (if v4 = 0 then some ((0 : Int32), w4) else (am_o2 (F_X1_readSign w t rr xr (59 : Int32) w4) fun v5 w5 => (if v5 = 0 then some ((0 : Int32), w5) else some ((1 : Int32), w5))))) (F_X10_readLine (nI m) ivm) := by
  obtain ⟨B16, B32, Bj⟩ := sn_bits m hm
  have so := sn_or m hm
  have hb25 := h.2.2.2
  -- the model's three questions
  have w55 := P_which (aa := 55) (m := 4) (f := fun i => 35 + i) hx h.2.1 h.2.2.1 hb25 (by decide) lref55
  have w56 := P_which (aa := 56) (m := 3) (f := fun i => 39 + i) hx h.2.1 h.2.2.1 hb25 (by decide) lref56
  have w49 := P_is (j := 49) hx h.2.1 h.2.2.1 (by decide) hb25
  have w51 := P_is (j := 51) hx h.2.1 h.2.2.1 (by decide) hb25
  have w54 := P_is (j := 54) hx h.2.1 h.2.2.1 (by decide) hb25
  have kk := K_kindTold (w := w) (rr := rr) (xr := xr) hx h.1 h.2.2.1
  have k7 := K_isWord (j := 7) hx h.1 h.2.2.1 (by decide)
  have k10 := K_isWord (j := 10) hx h.1 h.2.2.1 (by decide)
  have k21 := K_isWord (j := 21) hx h.1 h.2.2.1 (by decide)
  have k22 := K_isWord (j := 22) hx h.1 h.2.2.1 (by decide)
  have k23 := K_isWord (j := 23) hx h.1 h.2.2.1 (by decide)
  have k24 := K_isWord (j := 24) hx h.1 h.2.2.1 (by decide)
  rw [wb_rest.1] at k7
  rw [wb_rest.2.1] at k10
  rw [wb_rest.2.2.1] at k21
  rw [wb_rest.2.2.2.1] at k22
  rw [wb_rest.2.2.2.2.1] at k23
  rw [wb_rest.2.2.2.2.2] at k24
  have n1 : cy_enc 4 4 = -1 := by decide
  have n3 : cy_enc 3 3 = -1 := by decide
  have noK : (∀ i, i < 4 → isw τ ty fi be (wb (35 + i)) = false) → cy_fst (fun i => isw τ ty fi be (wb (35 + i))) 4 = 4 := fun q => (cy_fst_u (Nat.le_refl _) q (fun e => absurd e (by decide))).symm
  have noO : (∀ i, i < 3 → isw τ ty fi be (wb (39 + i)) = false) → cy_fst (fun i => isw τ ty fi be (wb (39 + i))) 3 = 3 := fun q => (cy_fst_u (Nat.le_refl _) q (fun e => absurd e (by decide))).symm
  by_cases K : ∃ i, i < 4 ∧ isw τ ty fi be (wb (35 + i)) = true
  · obtain ⟨i, hi, ei⟩ := K
    have eK : cy_fst (fun i => isw τ ty fi be (wb (35 + i))) 4 = i := (cy_fst_u (by omega) (fun j hj => isw_ne ei (by omega) (by omega) (by omega)) (fun _ => ei)).symm
    have eO := noO (fun j hj => isw_ne ei (by omega) (by omega) (by omega))
    have e49 := isw_ne (j := 49) ei (by omega) (by omega) (by omega)
    rw [eK] at kk w55
    have enc : cy_enc 4 i = nI i := if_pos hi
    rw [enc] at kk w55
    rw [eO, n3] at w56
    have ni : ¬ nI i = (-1 : Int32) := cy_m1 (by omega)
    have L := S_drawer (w := w) (rr := rr) (xr := xr) (kd := i) hx hw ht hrr hr h hc hF hb (by omega)
    refine LN.of (m := m) (m' := m ||| 32) (i4 := 32) hx hw ht hrr hr L ?_ ?_ so.2.2.2.2 ⟨B32.1, B32.2.1, fun j hj => (B32.2.2 j hj).trans (hf j hj)⟩
    · unfold F_X1_readLine
      rw [kk, am_o1_s, if_neg ni, L.id]
    · unfold F_X10_readLine J_X10_readLine_46 J_X10_readLine_59 J_X10_readLine_78
      rw [w55, am_o1_s, w56, am_o1_s, w49, e49, am_o1_s, if_pos (show am_bi false = 0 from rfl), if_pos (show (-1 : Int32) = -1 from rfl), if_neg (show ¬ (32 : Int32) = 16 by decide), if_pos (show (16 : Int32) ≤ 32 by decide), if_neg ni]
  · have allK : ∀ i, i < 4 → isw τ ty fi be (wb (35 + i)) = false := fun i hi => by
      cases z : isw τ ty fi be (wb (35 + i)) with
      | false => rfl
      | true => exact absurd ⟨i, hi, z⟩ K
    rw [noK allK, n1] at kk w55
    have T1 : ¬ am_bi true = 0 := by decide
    have F0 : am_bi false = 0 := rfl
    have M1 : (-1 : Int32) = -1 := rfl
    have badL : ∀ (f' : Nat → Bool) (k : Int32), ¬ k = 0 → LO w t rr τ n fi f' ivm (some (0, am_w ivc t 5 k)) (some (am_w (am_w (am_w (am_w ivm 54 25 k) 54 26 (ivm 54 23)) 58 10 0) 58 11 0)) := fun f' k hk => LO.no rfl rfl ((fM.wr.hk.w (Or.inl (by decide))).w (Or.inl (by decide))) (((EE.of h.1 h.2.1 hk).wm (by decide)).wm (by decide))
    have ref : ∀ k : Int32, (am_o2 (F_X8_refuse t k ivc) fun v w => (if v = 0 ∨ v = 1 then some (v, w) else none)) = some (0, am_w ivc t 5 k) := fun k => by
      unfold F_X8_refuse; rw [am_o2_s, if_pos (Or.inl rfl)]
    by_cases e51 : isw τ ty fi be (wb 51) = true
    · have eO := noO (fun j hj => isw_ne e51 (by omega) (by omega) (by omega))
      have e49 := isw_ne (j := 49) e51 (by omega) (by omega) (by omega)
      rw [eO, n3] at w56
      have L := S_person (w := w) (rr := rr) (xr := xr) hx hw ht hrr hr h hc hF hb
      refine LN.of (m := m) (m' := m ||| 32) (i4 := 32) hx hw ht hrr hr L ?_ ?_ so.2.2.2.2 ⟨B32.1, B32.2.1, fun j hj => (B32.2.2 j hj).trans (hf j hj)⟩
      · unfold F_X1_readLine
        rw [kk, am_o1_s, if_pos M1, k7, e51, am_o1_s, if_neg T1, L.id]
      · unfold F_X10_readLine J_X10_readLine_46 J_X10_readLine_59 J_X10_readLine_78
        rw [w55, am_o1_s, w56, am_o1_s, w49, e49, am_o1_s, if_pos F0, if_pos M1, if_neg (show ¬ (32 : Int32) = 16 by decide), if_pos (show (16 : Int32) ≤ 32 by decide), if_pos M1, w51, e51, am_o1_s, if_neg T1]
    · have e51' : isw τ ty fi be (wb 51) = false := by simpa using e51
      by_cases e54 : isw τ ty fi be (wb 54) = true
      · have eO := noO (fun j hj => isw_ne e54 (by omega) (by omega) (by omega))
        have e49 := isw_ne (j := 49) e54 (by omega) (by omega) (by omega)
        rw [eO, n3] at w56
        have L := S_rule (w := w) (rr := rr) (xr := xr) hx hw ht hrr hr h hc hF hb
        refine LN.of (m := m) (m' := m ||| 32) (i4 := 32) hx hw ht hrr hr L ?_ ?_ so.2.2.2.2 ⟨B32.1, B32.2.1, fun j hj => (B32.2.2 j hj).trans (hf j hj)⟩
        · unfold F_X1_readLine
          rw [kk, am_o1_s, if_pos M1, k7, e51', am_o1_s, if_pos F0, k10, e54, am_o1_s, if_neg T1, L.id]
        · unfold F_X10_readLine J_X10_readLine_46 J_X10_readLine_59 J_X10_readLine_78
          rw [w55, am_o1_s, w56, am_o1_s, w49, e49, am_o1_s, if_pos F0, if_pos M1, if_neg (show ¬ (32 : Int32) = 16 by decide), if_pos (show (16 : Int32) ≤ 32 by decide), if_pos M1, w51, e51', am_o1_s, if_pos F0, w54, e54, am_o1_s, if_neg T1]
      · have e54' : isw τ ty fi be (wb 54) = false := by simpa using e54
        by_cases e49 : isw τ ty fi be (wb 49) = true
        · have eO := noO (fun j hj => isw_ne e49 (by omega) (by omega) (by omega))
          rw [eO, n3] at w56
          cases fst with
          | true =>
            have m0 : m = 0 := h1.mp rfl
            have L := S_wall (w := w) (rr := rr) (xr := xr) hx hw ht hrr hr h hc hF hb (h0 rfl)
            refine LN.of (m := m) (m' := m ||| 16) (i4 := 16) hx hw ht hrr hr L ?_ ?_ so.2.2.2.1 ⟨B16.1, B16.2.1, fun j hj => (B16.2.2 j hj).trans (hf j hj)⟩
            · unfold F_X1_readLine
              rw [kk, am_o1_s, if_pos M1, k7, e51', am_o1_s, if_pos F0, k10, e54', am_o1_s, if_pos F0, k21, e49, am_o1_s, if_neg T1, if_neg T1, L.id]
            · unfold F_X10_readLine J_X10_readLine_46 J_X10_readLine_59 J_X10_readLine_78 J_X10_readLine_145 J_X10_readLine_157
              rw [w55, am_o1_s, w56, am_o1_s, w49, e49, am_o1_s, if_neg T1, if_pos (show (16 : Int32) = 16 from rfl), if_pos (show nI m = 0 by rw [m0]; rfl), if_pos (show (16 : Int32) ≤ 16 by decide), if_pos M1, w51, e51', am_o1_s, if_pos F0, w54, e54', am_o1_s, if_pos F0, if_pos M1, if_pos (show (16 : Int32) = 16 from rfl), if_pos hb25, o1_assoc]
              congr 1; funext a; exact m_wall_eq _ _ _
          | false =>
            have m0 : ¬ nI m = 0 := fun q => by
              have := (am_eq (show m < 65536 by omega) (show 0 < 65536 by decide)).mp q
              exact absurd (h1.mpr this) (by decide)
            refine LN.of (m := m) (m' := m ||| 16) (i4 := 16) hx hw ht hrr hr (badL f 4 (by decide)) ?_ ?_ so.2.2.2.1 ⟨B16.1, B16.2.1, fun j hj => (B16.2.2 j hj).trans (hf j hj)⟩
            · unfold F_X1_readLine
              rw [kk, am_o1_s, if_pos M1, k7, e51', am_o1_s, if_pos F0, k10, e54', am_o1_s, if_pos F0, k21, e49, am_o1_s, if_neg T1, if_pos F0, ref]
            · unfold F_X10_readLine J_X10_readLine_46 J_X10_readLine_73
              rw [w55, am_o1_s, w56, am_o1_s, w49, e49, am_o1_s, if_neg T1, if_pos (show (16 : Int32) = 16 from rfl), if_neg m0, P_wrong hb25, am_o1_s, NB_l78 (nbw (by decide))]
        · have e49' : isw τ ty fi be (wb 49) = false := by simpa using e49
          have key : ∀ (i : Nat) (Fc : Option (Int32 × am_I)), i < 3 → isw τ ty fi be (wb (39 + i)) = true → (LO w t rr τ n fi (tick f i) ivm Fc (F_X10_readOnce (nI i) ivm)) → (F_X1_readLine w t rr xr (am_bi fst) ivc = if f i then some (0, am_w ivc t 5 4) else Fc) → LN w t rr τ n fi ivm (am_o2 (F_X1_readLine w t rr xr (am_bi fst) ivc) fun v4 w4 => (if v4 = 0 then some ((0 : Int32), w4) else (am_o2 (F_X1_readSign w t rr xr (59 : Int32) w4) fun v5 w5 => (if v5 = 0 then some ((0 : Int32), w5) else some ((1 : Int32), w5))))) (F_X10_readLine (nI m) ivm) := by
            intro i Fc hi ei L eC
            have eO : cy_fst (fun i => isw τ ty fi be (wb (39 + i))) 3 = i := (cy_fst_u (by omega) (fun j hj => isw_ne ei (by omega) (by omega) (by omega)) (fun _ => ei)).symm
            rw [eO, show cy_enc 3 i = nI i from if_pos hi] at w56
            have ni : ¬ nI i = (-1 : Int32) := cy_m1 (by omega)
            have Bi := Bj i hi
            have oi : nI m ||| nI (2 ^ i) = nI (m ||| 2 ^ i) := by
              have : i = 0 ∨ i = 1 ∨ i = 2 := by omega
              rcases this with rfl | rfl | rfl
              · exact so.1
              · exact so.2.1
              · exact so.2.2.1
            have q16 : ¬ nI (2 ^ i) = 16 ∧ ¬ (16 : Int32) ≤ nI (2 ^ i) := by
              have : i = 0 ∨ i = 1 ∨ i = 2 := by omega
              rcases this with rfl | rfl | rfl <;> decide
            have an := sn_an m hm i hi
            cases z : f i with
            | true =>
              rw [z, if_pos rfl] at eC
              refine LN.of (m := m) (m' := m ||| 2 ^ i) (i4 := nI (2 ^ i)) hx hw ht hrr hr (badL (tick f i) 4 (by decide)) eC ?_ oi ⟨Bi.1, Bi.2.1, fun j hj => ?_⟩
              · unfold F_X10_readLine J_X10_readLine_46 J_X10_readLine_59 J_X10_readLine_73
                rw [w55, am_o1_s, w56, am_o1_s, w49, e49', am_o1_s, if_pos F0, if_neg ni, am_shl1 i (by omega), if_neg q16.1, if_neg q16.2, if_neg (fun q => by rw [an, hf i hi, z] at q; cases q), P_wrong hb25, am_o1_s, NB_l78 (nbw (by decide))]
              · rw [Bi.2.2 j hj, hf j hj]; rfl
            | false =>
              rw [z, if_neg (show ¬ false = true by decide)] at eC
              refine LN.of (m := m) (m' := m ||| 2 ^ i) (i4 := nI (2 ^ i)) hx hw ht hrr hr L eC ?_ oi ⟨Bi.1, Bi.2.1, fun j hj => ?_⟩
              · unfold F_X10_readLine J_X10_readLine_46 J_X10_readLine_59 J_X10_readLine_78
                rw [w55, am_o1_s, w56, am_o1_s, w49, e49', am_o1_s, if_pos F0, if_neg ni, am_shl1 i (by omega), if_neg q16.1, if_neg q16.2, if_pos (an.mpr ((hf i hi).trans z)), if_pos M1, w51, e51', am_o1_s, if_pos F0, w54, e54', am_o1_s, if_pos F0, if_neg ni, if_pos hb25]
              · rw [Bi.2.2 j hj, hf j hj]; rfl
          by_cases e39 : isw τ ty fi be (wb 39) = true
          · have L := S_reach (w := w) (rr := rr) (xr := xr) hx hw ht hrr hr h hc hF hb
            refine key 0 _ (by decide) e39 L ?_
            unfold F_X1_readLine
            rw [kk, am_o1_s, if_pos M1, k7, e51', am_o1_s, if_pos F0, k10, e54', am_o1_s, if_pos F0, k21, e49', am_o1_s, if_pos F0, k22, e39, am_o1_s, if_neg T1, hF.1, ifb, L.id, ref]
          · have e39' : isw τ ty fi be (wb 39) = false := by simpa using e39
            by_cases e40 : isw τ ty fi be (wb 40) = true
            · have L := S_rent (w := w) (rr := rr) (xr := xr) hx hw ht hrr hr h hc hF hb
              refine key 1 _ (by decide) e40 L ?_
              unfold F_X1_readLine
              rw [kk, am_o1_s, if_pos M1, k7, e51', am_o1_s, if_pos F0, k10, e54', am_o1_s, if_pos F0, k21, e49', am_o1_s, if_pos F0, k22, e39', am_o1_s, if_pos F0, k23, e40, am_o1_s, if_neg T1, hF.2.1, ifb, L.id, ref]
            · have e40' : isw τ ty fi be (wb 40) = false := by simpa using e40
              by_cases e41 : isw τ ty fi be (wb 41) = true
              · have L := S_windL (w := w) (rr := rr) (xr := xr) hx hw ht hrr hr h hc hF hb
                refine key 2 _ (by decide) e41 L ?_
                unfold F_X1_readLine
                rw [kk, am_o1_s, if_pos M1, k7, e51', am_o1_s, if_pos F0, k10, e54', am_o1_s, if_pos F0, k21, e49', am_o1_s, if_pos F0, k22, e39', am_o1_s, if_pos F0, k23, e40', am_o1_s, if_pos F0, k24, e41, am_o1_s, if_neg T1, hF.2.2, ifb, L.id, ref]
              · have e41' : isw τ ty fi be (wb 41) = false := by simpa using e41
                have eO := noO (fun j hj => by
                  have : j = 0 ∨ j = 1 ∨ j = 2 := by omega
                  rcases this with rfl | rfl | rfl
                  · exact e39'
                  · exact e40'
                  · exact e41')
                rw [eO, n3] at w56
                refine LN.of (m := m) (m' := m ||| 32) (i4 := 32) hx hw ht hrr hr (badL f 1 (by decide)) ?_ ?_ so.2.2.2.2 ⟨B32.1, B32.2.1, fun j hj => (B32.2.2 j hj).trans (hf j hj)⟩
                · unfold F_X1_readLine
                  rw [kk, am_o1_s, if_pos M1, k7, e51', am_o1_s, if_pos F0, k10, e54', am_o1_s, if_pos F0, k21, e49', am_o1_s, if_pos F0, k22, e39', am_o1_s, if_pos F0, k23, e40', am_o1_s, if_pos F0, k24, e41', am_o1_s, if_pos F0, ref]
                · have hnb : ¬ am_w (am_w ivm 54 25 1) 54 26 (ivm 54 23) 54 25 = 0 := nbw (by decide)
                  have e145 := NB_l145 (i1 := nI m) (i4 := 32) hnb
                  unfold J_X10_readLine_145 at e145
                  rw [if_neg (show ¬ (32 : Int32) = 16 by decide), P_wrongBad hnb, am_o1_s] at e145
                  unfold F_X10_readLine J_X10_readLine_46 J_X10_readLine_59 J_X10_readLine_78 J_X10_readLine_145
                  rw [w55, am_o1_s, w56, am_o1_s, w49, e49', am_o1_s, if_pos F0, if_pos M1, if_neg (show ¬ (32 : Int32) = 16 by decide), if_pos (show (16 : Int32) ≤ 32 by decide), if_pos M1, w51, e51', am_o1_s, if_pos F0, w54, e54', am_o1_s, if_pos F0, if_pos M1, if_neg (show ¬ (32 : Int32) = 16 by decide), P_wrong hb25, am_o1_s]
                  exact e145
end B89
