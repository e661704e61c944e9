/-! reading a line on both sides: which line it is -/
section B88
variable {w t rr xr : Nat} {ivc ivm ivc' ivm' iv : am_I} {τ : Nat → Nat} {n ty fi be : Nat} {c : Nat → Nat → Nat} {ρ : ru_T} {f : Nat → Bool}
theorem isw_uq {l l' : List Nat} (h : isw τ ty fi be l = true) (h' : isw τ ty fi be l' = true) : l = l' := by
  unfold isw at h h'
  simp only [Bool.and_eq_true, decide_eq_true_eq, Bool.not_eq_true'] at h h'
  obtain ⟨-, a1, a2⟩ := h
  obtain ⟨-, b1, b2⟩ := h'
  rw [cy_any_false] at a2 b2
  have hl : l.length = l'.length := by omega
  refine List.ext_getElem hl fun i h1 h2 => ?_
  have q1 := a2 i h1
  have q2 := b2 i h2
  unfold mism at q1 q2
  simp [h1, h2] at q1 q2
  omega
theorem wb_dist : ∀ i, i < 58 → ∀ j, j < 58 → 35 ≤ i → 35 ≤ j → wb i = wb j → i = j := by decide +kernel
theorem isw_ne {i j : Nat} (h : isw τ ty fi be (wb i) = true) (hi : i < 58 ∧ 35 ≤ i) (hj : j < 58 ∧ 35 ≤ j) (hne : i ≠ j) : isw τ ty fi be (wb j) = false := by
  cases z : isw τ ty fi be (wb j) with
  | false => rfl
  | true => exact absurd (wb_dist i hi.1 j hj.1 hi.2 hj.2 (isw_uq h z)) hne
theorem wb_kinds : ∀ i, i < 4 → wb (2 + i) = wb (35 + i) := by decide +kernel
theorem wb_rest : wb 7 = wb 51 ∧ wb 10 = wb 54 ∧ wb 21 = wb 49 ∧ wb 22 = wb 39 ∧ wb 23 = wb 40 ∧ wb 24 = wb 41 := by decide +kernel
theorem lref55 : ∀ i, i < 4 → am_lref 55 i = some (35 + i) ∧ 35 + i < 58 := by
  intro i hi
  match i, hi with
  | 0, _ => exact ⟨rfl, by decide⟩
  | 1, _ => exact ⟨rfl, by decide⟩
  | 2, _ => exact ⟨rfl, by decide⟩
  | 3, _ => exact ⟨rfl, by decide⟩
theorem lref56 : ∀ i, i < 3 → am_lref 56 i = some (39 + i) ∧ 39 + i < 58 := by
  intro i hi
  match i, hi with
  | 0, _ => exact ⟨rfl, by decide⟩
  | 1, _ => exact ⟨rfl, by decide⟩
  | 2, _ => exact ⟨rfl, by decide⟩
theorem K_kindTold (hx : TX τ n) (h : cT t ivc τ n ty fi be) (hk : TK τ n ty fi be) : F_X1_kindTold w t rr xr ivc = some (cy_enc 4 (cy_fst (fun i => isw τ ty fi be (wb (35 + i))) 4)) := by
  have e : ∀ i, i < 4 → F_X8_isWord t (2 + i) ivc = some (am_bi (isw τ ty fi be (wb (35 + i)))) := fun i hi => by rw [K_isWord hx h hk (by omega), wb_kinds i hi]
  generalize hp : (fun i => isw τ ty fi be (wb (35 + i))) = p
  have e' : ∀ i, i < 4 → F_X8_isWord t (2 + i) ivc = some (am_bi (p i)) := fun i hi => by rw [e i hi, ← hp]
  unfold F_X1_kindTold
  rw [show F_X8_isWord t 2 ivc = _ from e' 0 (by decide), am_o1_s, ifb]
  cases h0 : p 0 with
  | true => rw [if_pos rfl]; exact K_first (m := 4) 0 (by decide) (by decide) (fun i hi => absurd hi (Nat.not_lt_zero _)) (fun _ => h0)
  | false =>
    rw [if_neg (by decide), show F_X8_isWord t 3 ivc = _ from e' 1 (by decide), am_o1_s, ifb]
    cases h1 : p 1 with
    | true => rw [if_pos rfl]; exact K_first (m := 4) 1 (by decide) (by decide) (fun i hi => by match i, hi with | 0, _ => exact h0) (fun _ => h1)
    | false =>
      rw [if_neg (by decide), show F_X8_isWord t 4 ivc = _ from e' 2 (by decide), am_o1_s, ifb]
      cases h2 : p 2 with
      | true => rw [if_pos rfl]; exact K_first (m := 4) 2 (by decide) (by decide) (fun i hi => by match i, hi with | 0, _ => exact h0 | 1, _ => exact h1) (fun _ => h2)
      | false =>
        rw [if_neg (by decide), show F_X8_isWord t 5 ivc = _ from e' 3 (by decide), am_o1_s, ifb]
        cases h3 : p 3 with
        | true => rw [if_pos rfl]; exact K_first (m := 4) 3 (by decide) (by decide) (fun i hi => by match i, hi with | 0, _ => exact h0 | 1, _ => exact h1 | 2, _ => exact h2) (fun _ => h3)
        | false => rw [if_neg (by decide)]; exact K_first (m := 4) 4 (by decide) (by decide) (fun i hi => by match i, hi with | 0, _ => exact h0 | 1, _ => exact h1 | 2, _ => exact h2 | 3, _ => exact h3) (fun q => absurd q (by decide))
/-- the ';' behind a line -/
theorem S_semi {f' : Nat → Bool} {Fc : Option (Int32 × am_I)} {Fm : Option am_I} (hx : TX τ n) (hw : w = 2 ∨ w = 22) (ht : 89 ≤ t) (hrr : 89 ≤ rr) (hr : rr ≠ t) (i1 i4 : Int32) (h : LO w t rr τ n fi f' ivm Fc Fm) :
    ∃ (b : Bool) (ivc' ivm' : am_I), (am_o2 Fc fun v4 w4 => (if v4 = 0 then some ((0 : Int32), w4) else (am_o2 (F_X1_readSign w t rr xr (59 : Int32) w4) fun v5 w5 => (if v5 = 0 then some ((0 : Int32), w5) else some ((1 : Int32), w5))))) = some (am_bi b, ivc') ∧ (am_o1 Fm fun w => J_X10_readLine_196 i1 i4 w) = some (i1 ||| i4, ivm') ∧ Hk ivm ivm' ∧ (b = true → ∃ ty' fi' be' c' ρ', TR t ivc' ivm' τ n ty' fi' be' ∧ fi < fi' ∧ CP w ivc' ivm' c' ρ' ∧ ρ'.1 (cy_r c') ≤ fi' ∧ FG rr ivc' f') ∧ (b = false → EE t ivc' ivm') := by
  obtain ⟨b, ivc1, ivm1, e1, e2, e3, e4, e5⟩ := h
  rw [e1, am_o2_s, e2, am_o1_s]
  unfold J_X10_readLine_196
  cases b with
  | false =>
    have ee := e5 rfl
    rw [if_pos (show am_bi false = 0 from rfl), NB_mark ee.1, am_o1_s]
    exact ⟨false, _, _, rfl, rfl, e3, fun q => (by cases q), fun _ => ee⟩
  | true =>
    obtain ⟨ty', fi', be', c', ρ', a1, a2, a3, a4, a5⟩ := e4 rfl
    rw [if_neg (show ¬ am_bi true = 0 by decide)]
    have sm := S_mark (w := w) (rr := rr) (xr := xr) (k := 59) hx a1 ht (by decide)
    rw [show nI 59 = (59 : Int32) from rfl] at sm
    rcases sm with ⟨ivc2, ivm2, ty2, fi2, be2, g1, g2, g3, g4, g5, g6⟩ | ⟨ivc2, ivm2, g1, g2, g3, g4⟩
    · rw [g1, am_o2_s, if_neg (show ¬ (1 : Int32) = 0 by decide), g2, am_o1_s]
      exact ⟨true, _, _, rfl, rfl, e3.tr g6.hk, fun _ => ⟨ty2, fi2, be2, c', ρ', g3, by omega, a3.fcm hw ht hrr g5 g6, by omega, a5.fcm hr g5⟩, fun q => (by cases q)⟩
    · rw [g1, am_o2_s, if_pos (show (0 : Int32) = 0 from rfl), g2, am_o1_s]
      exact ⟨false, _, _, rfl, rfl, e3.tr g4.hk, fun q => (by cases q), fun _ => g3⟩
theorem LO.id {f' : Nat → Bool} {Fc : Option (Int32 × am_I)} {Fm : Option am_I} (h : LO w t rr τ n fi f' ivm Fc Fm) : (am_o2 Fc fun v w => (if v = 0 ∨ v = 1 then some (v, w) else none)) = Fc := by
  obtain ⟨b, ivc1, ivm1, e1, -⟩ := h
  rw [e1, am_o2_s, if01]
/-- the model after a fault at the line's beginning -/
theorem NB_l145 {i1 i4 : Int32} (hb : ¬ iv 54 25 = 0) : J_X10_readLine_145 i1 i4 iv = am_o1 (some (am_w (am_w iv 58 10 0) 58 11 0)) fun w => J_X10_readLine_196 i1 i4 w := by
  have hb2 : ¬ am_w iv 58 10 0 54 25 = 0 := by rw [am_w_other _ _ _ (by decide)]; exact hb
  have e : J_X10_readLine_157 i1 i4 iv = am_o1 (some (am_w (am_w iv 58 10 0) 58 11 0)) fun w => J_X10_readLine_196 i1 i4 w := by
    unfold J_X10_readLine_157 J_X10_readLine_168
    rw [if_neg hb, NB_num hb, am_o2_s, show (10 : Int32).toNatClampNeg = 10 from by decide, show (11 : Int32).toNatClampNeg = 11 from by decide, NB_num hb2, am_o2_s]; rfl
  unfold J_X10_readLine_145
  by_cases q : i4 = 16
  · rw [if_pos q, e]
  · rw [if_neg q, P_wrongBad hb, am_o1_s, e]
theorem NB_l78 {i1 i3 i4 : Int32} (hb : ¬ iv 54 25 = 0) : J_X10_readLine_78 i1 (-1) i3 i4 iv = am_o1 (some (am_w (am_w iv 58 10 0) 58 11 0)) fun w => J_X10_readLine_196 i1 i4 w := by
  unfold J_X10_readLine_78
  rw [if_pos rfl, P_isBad hb, am_o1_s, if_pos (show (0 : Int32) = 0 from rfl), P_isBad hb, am_o1_s, if_pos (show (0 : Int32) = 0 from rfl), if_neg hb, NB_l145 hb]
  by_cases q : i3 = -1
  · rw [if_pos q]
  · rw [if_neg q]
end B88
