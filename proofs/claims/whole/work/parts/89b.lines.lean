/-! reading the lines on both sides -/
section B89b
variable {w t rr xr : Nat} {ivc ivm ivc' ivm' iv : am_I} {τ : Nat → Nat} {n ty fi be : Nat} {c : Nat → Nat → Nat} {ρ : ru_T} {f : Nat → Bool}
theorem K_43 {i1 k1 : Int32} {b : Bool} (h : (am_o2 (F_X1_readLine w t rr xr k1 ivc) fun v4 w4 => (if v4 = 0 then some ((0 : Int32), w4) else (am_o2 (F_X1_readSign w t rr xr (59 : Int32) w4) fun v5 w5 => (if v5 = 0 then some ((0 : Int32), w5) else some ((1 : Int32), w5))))) = some (am_bi b, ivc')) : J_X1_readCity_43 w t rr xr i1 k1 ivc = some (if b then .inl (i1 + 1, ivc') else .inr (.inr ((0 : Int32), ivc'))) := by
  unfold J_X1_readCity_43
  cases h1 : F_X1_readLine w t rr xr k1 ivc with
  | none => rw [h1] at h; cases h
  | some y =>
    obtain ⟨v4, w4⟩ := y
    rw [h1, am_o2_s] at h
    rw [am_o2_s]
    by_cases z : v4 = 0
    · rw [if_pos z] at h ⊢
      cases b with
      | true => exact absurd (congrArg Prod.fst (Option.some.inj h)) (show ¬ (0 : Int32) = am_bi true by decide)
      | false => rw [show w4 = ivc' from congrArg Prod.snd (Option.some.inj h)]; rfl
    · rw [if_neg z] at h ⊢
      cases h2 : F_X1_readSign w t rr xr (59 : Int32) w4 with
      | none => rw [h2] at h; cases h
      | some y =>
        obtain ⟨v5, w5⟩ := y
        rw [h2, am_o2_s] at h
        rw [am_o2_s]
        by_cases z2 : v5 = 0
        · rw [if_pos z2] at h ⊢
          cases b with
          | true => exact absurd (congrArg Prod.fst (Option.some.inj h)) (show ¬ (0 : Int32) = am_bi true by decide)
          | false => rw [show w5 = ivc' from congrArg Prod.snd (Option.some.inj h)]; rfl
        · rw [if_neg z2] at h ⊢
          cases b with
          | false => exact absurd (congrArg Prod.fst (Option.some.inj h)) (show ¬ (1 : Int32) = am_bi false by decide)
          | true => rw [show w5 = ivc' from congrArg Prod.snd (Option.some.inj h)]; rfl
theorem S_lines (hx : TX τ n) (hw : w = 2 ∨ w = 22) (ht : 89 ≤ t) (hrr : 89 ≤ rr) (hr : rr ≠ t) : ∀ (r fc fm i m : Nat) (ivc ivm : am_I) (ty fi be : Nat) (c : Nat → Nat → Nat) (ρ : ru_T) (f : Nat → Bool), n - fi < r → r ≤ fc → r < fm → TR t ivc ivm τ n ty fi be → CP w ivc ivm c ρ → FG rr ivc f → ρ.1 (cy_r c) ≤ fi → m < 64 → (∀ i, i < 3 → m.testBit i = f i) → (i = 0 ↔ m = 0) → (i = 0 → cy_n c = 0) → i ≤ fi →
    ∃ ivm', am_wh (fun s : (Int32 × am_I) => B_X10_city_111 s.1 s.2) fm (nI m, ivm) = some ivm' ∧ Hk ivm ivm' ∧
      ((∃ ivc' c' ρ', am_wh (fun s : (Int32 × am_I) => B_X1_readCity_16 w t rr xr s.1 s.2) fc (nI i, ivc) = some (.inl ivc') ∧ ivm' 54 25 = 0 ∧ CP w ivc' ivm' c' ρ') ∨
       (∃ ivc', am_wh (fun s : (Int32 × am_I) => B_X1_readCity_16 w t rr xr s.1 s.2) fc (nI i, ivc) = some (.inr ((0 : Int32), ivc')) ∧ EE t ivc' ivm'))
  | 0, _, _, _, _, _, _, _, _, _, _, _, _, hr0, _, _, _, _, _, _, _, _, _, _, _ => absurd hr0 (Nat.not_lt_zero _)
  | r + 1, fc, fm, i, m, ivc, ivm, ty, fi, be, c, ρ, f, hr0, hfc, hfm, h, hc, hF, hb, hm, hf, h1, h0, hi => by
    obtain ⟨fc, rfl⟩ : ∃ k, fc = k + 1 := ⟨fc - 1, by omega⟩
    obtain ⟨fm, rfl⟩ : ∃ k, fm = k + 1 + 1 := ⟨fm - 2, by omega⟩
    have hn := hx.1
    have hbn := h.2.2.1.2.1
    have hfb := h.2.2.1.1
    have ety : (nI ty = 0) ↔ ty = 0 := am_eq (show ty < 65536 by have := h.2.2.1.2.2.1; omega) (show 0 < 65536 by decide)
    by_cases t0 : ty = 0
    · refine ⟨ivm, ?_, Hk.rf _, Or.inl ⟨ivc, c, ρ, ?_, h.2.2.2, hc⟩⟩
      · show am_lp (B_X10_city_111 (nI m) ivm) _ _ = _
        unfold B_X10_city_111
        rw [if_pos h.2.2.2, h.2.1.2.2.1, if_pos (ety.mpr t0)]; rfl
      · show am_lp (B_X1_readCity_16 w t rr xr (nI i) ivc) _ _ = _
        unfold B_X1_readCity_16
        by_cases q : (700 : Int32) ≤ nI i
        · rw [if_pos q]; rfl
        · rw [if_neg q, (K_isNumber h.1 h.2.2.1).2.2, am_o1_s, decide_eq_true t0, if_neg (show ¬ am_bi true = 0 by decide)]; rfl
    · have hft := (h.2.2.1.2.2.2.2.1 t0).1
      have hi7 : i < 700 := by omega
      have hii : (nI i = 0) ↔ i = 0 := am_eq (show i < 65536 by omega) (show 0 < 65536 by decide)
      obtain ⟨b, ivc1, ivm1, m', a1, a2, a3, a4, a5⟩ := S_line (xr := xr) (m := m) (fst := decide (i = 0)) hx hw ht hrr hr h hc hF hb hm hf (by rw [decide_eq_true_eq]; exact h1) (fun q => h0 (by simpa using q))
      have kc : B_X1_readCity_16 w t rr xr (nI i) ivc = some (if b then .inl (nI (i + 1), ivc1) else .inr (.inr ((0 : Int32), ivc1))) := by
        unfold B_X1_readCity_16
        rw [if_neg (show ¬ (700 : Int32) ≤ nI i from nI_ge hi7 (by decide)), (K_isNumber h.1 h.2.2.1).2.2, am_o1_s, decide_eq_false t0, if_pos (show am_bi false = 0 from rfl)]
        have k43 := K_43 (i1 := nI i) a1
        rw [show nI i + (1 : Int32) = nI (i + 1) from nI_1 i] at k43
        by_cases z : i = 0
        · rw [if_pos (hii.mpr z)]
          rw [decide_eq_true z] at k43; exact k43
        · rw [if_neg (fun q => z (hii.mp q))]
          rw [decide_eq_false z] at k43; exact k43
      have km : B_X10_city_111 (nI m) ivm = some (.inl (nI m', ivm1)) := by
        unfold B_X10_city_111
        rw [if_pos h.2.2.2, h.2.1.2.2.1, if_neg (fun q => t0 (ety.mp q)), a2, am_o2_s]
      cases b with
      | true =>
        obtain ⟨b1, b2, ty', fi', be', c', ρ', f', g1, g2, g3, g4, g5, g6⟩ := a4 rfl
        have hfn : fi' ≤ n := Nat.le_trans g1.2.2.1.1 g1.2.2.1.2.1
        obtain ⟨ivm2, d1, d2, d3⟩ := S_lines hx hw ht hrr hr r fc (fm + 1) (i + 1) m' ivc1 ivm1 ty' fi' be' c' ρ' f' (by omega) (by omega) (by omega) g1 g3 g5 g4 b1 (fun i hi => (g6 i hi).symm) ⟨fun q => absurd q (by omega), fun q => absurd q b2⟩ (fun q => absurd q (by omega)) (by omega)
        have em : am_wh (fun s : (Int32 × am_I) => B_X10_city_111 s.1 s.2) (fm + 1 + 1) (nI m, ivm) = some ivm2 := by
          show am_lp (B_X10_city_111 (nI m) ivm) _ _ = _
          rw [km]; exact d1
        have ec : am_wh (fun s : (Int32 × am_I) => B_X1_readCity_16 w t rr xr s.1 s.2) (fc + 1) (nI i, ivc) = am_wh (fun s : (Int32 × am_I) => B_X1_readCity_16 w t rr xr s.1 s.2) fc (nI (i + 1), ivc1) := by
          show am_lp (B_X1_readCity_16 w t rr xr (nI i) ivc) _ _ = _
          rw [kc]; rfl
        refine ⟨ivm2, em, a3.tr d2, ?_⟩
        rw [ec]; exact d3
      | false =>
        have ee := a5 rfl
        refine ⟨ivm1, ?_, a3, Or.inr ⟨ivc1, ?_, ee⟩⟩
        · show am_lp (B_X10_city_111 (nI m) ivm) _ _ = _
          rw [km]
          show am_lp (B_X10_city_111 (nI m') ivm1) _ _ = _
          unfold B_X10_city_111
          rw [if_neg ee.1]; rfl
        · show am_lp (B_X1_readCity_16 w t rr xr (nI i) ivc) _ _ = _
          rw [kc]; rfl
end B89b
