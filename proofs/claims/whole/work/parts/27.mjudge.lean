/-! what the model judges: the least broken rule, what can be, what is reached, who is fed -/
/-- the first below m, or m -/
def cy_fst (p : Nat → Bool) : Nat → Nat
  | 0 => 0
  | m + 1 => if cy_fst p m < m then cy_fst p m else if p m then m else m + 1
theorem cy_fst_s (p : Nat → Bool) : ∀ m, cy_fst p m ≤ m ∧ (∀ j, j < cy_fst p m → p j = false) ∧ (cy_fst p m < m → p (cy_fst p m) = true)
  | 0 => ⟨Nat.le_refl _, fun j hj => absurd hj (Nat.not_lt_zero j), fun h => absurd h (Nat.not_lt_zero _)⟩
  | m + 1 => by
    obtain ⟨h1, h2, h3⟩ := cy_fst_s p m
    unfold cy_fst
    by_cases h : cy_fst p m < m
    · rw [if_pos h]
      exact ⟨by omega, h2, fun _ => h3 h⟩
    · rw [if_neg h]
      have e : cy_fst p m = m := by omega
      cases hp : p m with
      | true =>
        rw [if_pos rfl]
        exact ⟨by omega, fun j hj => h2 j (by omega), fun _ => hp⟩
      | false =>
        rw [if_neg (by decide)]
        refine ⟨Nat.le_refl _, fun j hj => ?_, fun q => absurd q (Nat.lt_irrefl _)⟩
        by_cases ej : j = m
        · rw [ej]; exact hp
        · exact h2 j (by omega)
theorem cy_fst_u {p : Nat → Bool} {m b : Nat} (h1 : b ≤ m) (h2 : ∀ j, j < b → p j = false) (h3 : b < m → p b = true) : b = cy_fst p m := by
  obtain ⟨g1, g2, g3⟩ := cy_fst_s p m
  by_cases e : b < cy_fst p m
  · have := g2 b e
    rw [h3 (by omega)] at this
    cases this
  · by_cases e2 : cy_fst p m < b
    · have := h2 _ e2
      rw [g3 (by omega)] at this
      cases this
    · omega
/-- rule r is broken by a set -/
def cy_vio (c : Nat → Nat → Nat) (ρ : ru_T) (s r : Nat) : Bool := cy_any (fun e => s.testBit e && !ru_h ρ (cy_va c e s) r) (cy_n c)
def cy_lb (c : Nat → Nat → Nat) (ρ : ru_T) (s : Nat) : Nat := cy_fst (cy_vio c ρ s) (cy_r c)
/-- a rule's number, none: -1 -/
def cy_enc (nr b : Nat) : Int32 := if b < nr then nI b else -1
/-- of the drawers below d: b is the least broken rule, or m -/
def cy_LB (c : Nat → Nat → Nat) (ρ : ru_T) (s d b : Nat) : Prop := b ≤ cy_r c ∧ (∀ j, j < b → ∀ e, e < d → s.testBit e = true → ru_h ρ (cy_va c e s) j = true) ∧ (b < cy_r c → ∃ e, e < d ∧ s.testBit e = true ∧ ru_h ρ (cy_va c e s) b = false)
theorem cy_LB_lb {c : Nat → Nat → Nat} {ρ : ru_T} {s b : Nat} (h : cy_LB c ρ s (cy_n c) b) : b = cy_lb c ρ s := by
  obtain ⟨h1, h2, h3⟩ := h
  refine cy_fst_u h1 (fun j hj => ?_) (fun hb => ?_)
  · unfold cy_vio
    rw [cy_any_false]
    intro e he
    cases hb : s.testBit e with
    | false => rfl
    | true => rw [h2 j hj e he hb]; rfl
  · obtain ⟨e, g1, g2, g3⟩ := h3 hb
    unfold cy_vio
    rw [cy_any_iff]
    exact ⟨e, g1, by rw [g2, g3]; rfl⟩
theorem cy_LB_skip {c : Nat → Nat → Nat} {ρ : ru_T} {s d b : Nat} (h : cy_LB c ρ s d b) (hb : s.testBit d = false) : cy_LB c ρ s (d + 1) b := by
  obtain ⟨h1, h2, h3⟩ := h
  refine ⟨h1, fun j hj e he hbe => ?_, fun q => ?_⟩
  · by_cases ed : e = d
    · rw [ed, hb] at hbe; cases hbe
    · exact h2 j hj e (by omega) hbe
  · obtain ⟨e, g1, g2⟩ := h3 q
    exact ⟨e, by omega, g2⟩
/-- the rules at one drawer: b' is the least of them below b, or b -/
theorem cy_LB_step {c : Nat → Nat → Nat} {ρ : ru_T} {s d b b' : Nat} (h : cy_LB c ρ s d b) (hb : s.testBit d = true) (h1 : b' ≤ b) (h2 : ∀ j, j < b' → ru_h ρ (cy_va c d s) j = true) (h3 : b' < b → ru_h ρ (cy_va c d s) b' = false) : cy_LB c ρ s (d + 1) b' := by
  obtain ⟨g1, g2, g3⟩ := h
  refine ⟨by omega, fun j hj e he hbe => ?_, fun q => ?_⟩
  · by_cases ed : e = d
    · rw [ed]; exact h2 j hj
    · exact g2 j (by omega) e (by omega) hbe
  · by_cases e9 : b' < b
    · exact ⟨d, by omega, hb, h3 e9⟩
    · have e8 : b' = b := by omega
      subst e8
      obtain ⟨e, k1, k2⟩ := g3 q
      exact ⟨e, by omega, k2⟩
def cy_snd (c : Nat → Nat → Nat) (s : Nat) : Bool := !cy_any (fun a => s.testBit a && (decide (cy_kd c a = 2) || cy_any (fun b => s.testBit b && (cy_sha c a b && (decide (cy_st c b < cy_st c a) && decide (cy_le c b ≤ cy_le c a)))) (cy_n c))) (cy_n c)
def cy_can (c : Nat → Nat → Nat) (ρ : ru_T) (s : Nat) : Bool := cy_snd c s && decide (cy_lb c ρ s = cy_r c)
/-- bits -/
def cy_bits (p : Nat → Bool) : Nat → Nat
  | 0 => 0
  | n + 1 => cy_bits p n ||| if p n then 2 ^ n else 0
theorem cy_bits_lt (p : Nat → Bool) : ∀ n, cy_bits p n < 2 ^ n
  | 0 => Nat.one_pos
  | n + 1 => by
    unfold cy_bits
    refine am_orlt (Nat.lt_trans (cy_bits_lt p n) (am_p2 (by omega))) ?_
    split
    · exact am_p2 (by omega)
    · exact Nat.two_pow_pos _
theorem cy_bits_s (p : Nat → Bool) (n : Nat) : cy_bits p (n + 1) = cy_bits p n ||| if p n then 2 ^ n else 0 := rfl
theorem cy_bits_t (p : Nat → Bool) : ∀ n i, (cy_bits p n).testBit i = (decide (i < n) && p i)
  | 0, i => by simp [cy_bits]
  | n + 1, i => by
    unfold cy_bits
    cases hp : p n with
    | true =>
      rw [if_pos rfl, fb_bit_set, cy_bits_t p n i]
      by_cases e : i = n
      · subst e; simp [hp]
      · have h1 : decide (i < n + 1) = decide (i < n) := by rw [decide_eq_decide]; omega
        rw [h1]; simp [e]
    | false =>
      rw [if_neg (by decide), Nat.or_zero, cy_bits_t p n i]
      by_cases e : i = n
      · subst e; simp [hp]
      · have h1 : decide (i < n + 1) = decide (i < n) := by rw [decide_eq_decide]; omega
        rw [h1]
theorem cy_bits_cong {p q : Nat → Bool} : ∀ {n : Nat}, (∀ i, i < n → p i = q i) → cy_bits p n = cy_bits q n
  | 0, _ => rfl
  | n + 1, h => by unfold cy_bits; rw [cy_bits_cong (fun i hi => h i (by omega)), h n (by omega)]
theorem cy_bits_u {p : Nat → Bool} {n r : Nat} (h1 : r < 2 ^ n) (h2 : ∀ i, i < n → r.testBit i = p i) : r = cy_bits p n := by
  refine Nat.eq_of_testBit_eq (fun i => ?_)
  rw [cy_bits_t]
  by_cases hi : i < n
  · simp [hi, h2 i hi]
  · rw [Nat.testBit_lt_two_pow (Nat.lt_of_lt_of_le h1 (Nat.pow_le_pow_right (by decide) (by omega)))]
    simp [hi]
theorem cy_p10 {n : Nat} (h : n ≤ 10) : 2 ^ n ≤ 1024 := Nat.le_trans (Nat.pow_le_pow_right (by decide) h) (by decide)
theorem cy_p5 {n : Nat} (h : n ≤ 5) : 2 ^ n ≤ 32 := Nat.le_trans (Nat.pow_le_pow_right (by decide) h) (by decide)
/-- what is reached, by stories -/
def cy_rb (c : Nat → Nat → Nat) (s : Nat) : Nat → Nat → Bool
  | 0, _ => false
  | f + 1, d => decide (cy_st c d < cy_re c) || cy_any (fun k => s.testBit k && (cy_car c d k && cy_rb c s f k)) (cy_n c)
theorem cy_any_cong {f g : Nat → Bool} : ∀ {n : Nat}, (∀ k, k < n → f k = g k) → cy_any f n = cy_any g n
  | 0, _ => rfl
  | n + 1, h => by unfold cy_any; rw [cy_any_cong (fun k hk => h k (by omega)), h n (by omega)]
theorem cy_rb_st (c : Nat → Nat → Nat) (s : Nat) : ∀ f d, cy_st c d < f → cy_rb c s (f + 1) d = cy_rb c s f d
  | 0, d, h => absurd h (Nat.not_lt_zero _)
  | f + 1, d, h => by
    show (_ || cy_any (fun k => s.testBit k && (cy_car c d k && cy_rb c s (f + 1) k)) _) = (_ || cy_any (fun k => s.testBit k && (cy_car c d k && cy_rb c s f k)) _)
    congr 1
    refine cy_any_cong (fun k hk => ?_)
    cases hcar : cy_car c d k with
    | false => rfl
    | true =>
      have h1 : cy_st c k < cy_st c d := by simp [cy_car] at hcar; omega
      rw [cy_rb_st c s f k (by omega)]
theorem cy_rb_up (c : Nat → Nat → Nat) (s d : Nat) : ∀ q, cy_rb c s (cy_st c d + 1 + q) d = cy_rb c s (cy_st c d + 1) d
  | 0 => rfl
  | q + 1 => by rw [show cy_st c d + 1 + (q + 1) = (cy_st c d + 1 + q) + 1 by omega, cy_rb_st c s _ d (by omega)]; exact cy_rb_up c s d q
def cy_rd (c : Nat → Nat → Nat) (s d : Nat) : Bool := cy_rb c s (cy_st c d + 1) d
theorem cy_rd_eq (c : Nat → Nat → Nat) (s d : Nat) : cy_rd c s d = (decide (cy_st c d < cy_re c) || cy_any (fun k => s.testBit k && (cy_car c d k && cy_rd c s k)) (cy_n c)) := by
  show (_ || cy_any (fun k => s.testBit k && (cy_car c d k && cy_rb c s (cy_st c d) k)) _) = _
  congr 1
  refine cy_any_cong (fun k hk => ?_)
  cases hcar : cy_car c d k with
  | false => rfl
  | true =>
    have h1 : cy_st c k < cy_st c d := by simp [cy_car] at hcar; omega
    have h2 := cy_rb_up c s k (cy_st c d - (cy_st c k + 1))
    rw [show cy_st c k + 1 + (cy_st c d - (cy_st c k + 1)) = cy_st c d by omega] at h2
    rw [h2]
    rfl
/-- what answers the same question is the same -/
theorem cy_rd_u (c : Nat → Nat → Nat) (s : Nat) {f : Nat → Bool} (h : ∀ d, d < cy_n c → f d = (decide (cy_st c d < cy_re c) || cy_any (fun k => s.testBit k && (cy_car c d k && f k)) (cy_n c))) : ∀ (q d : Nat), cy_st c d < q → d < cy_n c → f d = cy_rd c s d
  | 0, d, hq, _ => absurd hq (Nat.not_lt_zero _)
  | q + 1, d, hq, hd => by
    rw [h d hd, cy_rd_eq]
    congr 1
    refine cy_any_cong (fun k hk => ?_)
    cases hcar : cy_car c d k with
    | false => rfl
    | true =>
      have h1 : cy_st c k < cy_st c d := by simp [cy_car] at hcar; omega
      rw [cy_rd_u c s h q k (by omega) hk]
def cy_rch (c : Nat → Nat → Nat) (s : Nat) : Nat := cy_bits (cy_rd c s) (cy_n c)
def cy_fd (c : Nat → Nat → Nat) (s p : Nat) : Bool := !decide (cy_sh c p = 0) && (s.testBit (cy_ho c p) && s.testBit (cy_sh c p - 1))
def cy_fed (c : Nat → Nat → Nat) (s : Nat) : Nat := cy_bits (cy_fd c s) (cy_p c)
def cy_wan (c : Nat → Nat → Nat) : Nat := cy_bits (fun p => !decide (cy_sh c p = 0)) (cy_p c)
theorem cy_m1 {n : Nat} (h : n < 65536) : ¬ nI n = (-1 : Int32) := by
  intro e
  have h1 := congrArg Int32.toInt e
  rw [nI_toInt (by omega)] at h1
  have : (-1 : Int32).toInt = -1 := by decide
  omega
theorem cy_shI_m1 {c : Nat → Nat → Nat} {p : Nat} (h : cy_sh c p ≤ 10) : cy_shI c p = -1 ↔ cy_sh c p = 0 := by
  unfold cy_shI
  by_cases e : cy_sh c p = 0
  · simp [e]
  · simp only [e, if_false, iff_false]
    exact cy_m1 (by omega)
section B27
variable {iv : am_I} {c : Nat → Nat → Nat}
theorem P_brokenBy {ρ : ru_T} (hC : mo_C iv c) (hc : cy_ok c) (hR : mo_R iv ρ (cy_r c)) (ho : ru_ok ρ (cy_r c)) {s : Nat} (hs : s < 1024) : ∃ iv', F_X10_brokenBy (nI s) iv = some (cy_enc (cy_r c) (cy_lb c ρ s), iv') := by
  have hn := hc.1
  have hr4 := hc.2.2.2.1
  have H : ∃ x, am_loop (fun s9 : (Int32 × Int32 × am_I) => B_X10_brokenBy_4 (nI s) s9.1 s9.2.1 s9.2.2) ((-1 : Int32), (0 : Int32), iv) = some x ∧ ∃ b, x.1 = cy_enc (cy_r c) b ∧ cy_LB c ρ s (cy_n c) b := by
    refine am_loop_n (fun m q => q.2.1 = nI m ∧ am_fr [75, 76] [] iv q.2.2 ∧ ∃ b, q.1 = cy_enc (cy_r c) b ∧ cy_LB c ρ s m b) (cy_n c) (by omega) ?_ ?_ _ ⟨rfl, am_fr.rf _ _ _, cy_r c, by simp [cy_enc], Nat.le_refl _, fun j _ e he => absurd he (Nat.not_lt_zero _), fun q => absurd q (Nat.lt_irrefl _)⟩
    · rintro m ⟨b0, k0, iv1⟩ hm ⟨a1, a2, b, a3, a4⟩
      dsimp only at a1 a2 a3
      subst a1; subst a3
      have hC1 : mo_C iv1 c := hC.fr (a2.m (by decide) (by decide))
      have hR1 : mo_R iv1 ρ (cy_r c) := hR.fr (a2.m (by decide) (by decide))
      left
      show ∃ s', B_X10_brokenBy_4 _ _ (nI m) iv1 = _ ∧ _
      unfold B_X10_brokenBy_4
      have r2 := hC1.1.2.2.1
      simp (disch := omega) only [cl2, r2, nle, P_has hs, am_o1_s, ifb]
      rw [if_neg (by omega)]
      cases hb : s.testBit m with
      | false =>
        rw [if_neg (by decide)]
        exact ⟨_, rfl, nI_1 m, a2, b, rfl, cy_LB_skip a4 hb⟩
      | true =>
        rw [if_pos rfl]
        obtain ⟨iv2, e2, v2⟩ := P_ask hC1 hc hm hs
        have f2 := X_X10_ask e2
        rw [e2, am_o1_s]
        have hR2 : mo_R iv2 ρ (cy_r c) := hR1.fr (f2.m (by decide) (by decide))
        have hC2 : mo_C iv2 c := hC1.fr (f2.m (by decide) (by decide))
        have hbr := a4.1
        have G : ∃ x, am_loop (fun s9 : (Int32 × Int32 × am_I) => B_X10_brokenBy_34 (nI s) (nI m) s9.1 s9.2.1 s9.2.2) (cy_enc (cy_r c) b, (0 : Int32), iv2) = some x ∧ am_fr [75, 76] [] iv x.2 ∧ ∃ b', x.1 = cy_enc (cy_r c) b' ∧ b' ≤ b ∧ (∀ j, j < b' → ru_h ρ (cy_va c m s) j = true) ∧ (b' < b → ru_h ρ (cy_va c m s) b' = false) := by
          refine am_loop_n (fun i q => q.2.1 = nI i ∧ am_fr [76] [] iv2 q.2.2 ∧ ∃ b', q.1 = cy_enc (cy_r c) b' ∧ b' ≤ b ∧ (∀ j, j < b' → j < i → ru_h ρ (cy_va c m s) j = true) ∧ (b' < b → b' < i ∧ ru_h ρ (cy_va c m s) b' = false)) (cy_r c) (by omega) ?_ ?_ _ ⟨rfl, am_fr.rf _ _ _, b, rfl, Nat.le_refl _, fun j _ h => absurd h (Nat.not_lt_zero _), fun q => absurd q (Nat.lt_irrefl _)⟩
          · rintro i ⟨b9, k9, iv3⟩ hi ⟨d1, d2, b', d3, d4, d5, d6⟩
            dsimp only at d1 d2 d3
            subst d1; subst d3
            have hR3 : mo_R iv3 ρ (cy_r c) := hR2.fr (d2.m (by decide) (by decide))
            have r5 : iv3 58 5 = _ := (hC2.fr (d2.m (by decide) (by decide))).1.2.2.2.2.2.1
            have v3 : ∀ q, q < 7 → iv3 75 q = cy_va c m s q := fun q hq => by rw [d2.g (by decide)]; exact v2 q hq
            obtain ⟨iv4, e4⟩ := P_holds hR3 ho hi hr4 v3
            have f4 := X_X10_holds e4
            left
            show ∃ s', B_X10_brokenBy_34 _ _ _ (nI i) iv3 = _ ∧ _
            unfold B_X10_brokenBy_34 J_X10_brokenBy_56
            simp (disch := omega) only [cl5, r5, nle, e4, am_o2_s, ifb]
            rw [if_neg (by omega)]
            have hH : (i < b') → ∃ s' : Int32 × Int32 × am_I, (if ru_h ρ (cy_va c m s) i then some (Sum.inl (cy_enc (cy_r c) b', nI i + 1, iv4)) else some (Sum.inl (nI i, nI i + 1, iv4)) : Option ((Int32 × Int32 × am_I) ⊕ (Int32 × am_I))) = some (.inl s') ∧ s'.2.1 = nI (i + 1) ∧ am_fr [76] [] iv2 s'.2.2 ∧ ∃ b', s'.1 = cy_enc (cy_r c) b' ∧ b' ≤ b ∧ (∀ j, j < b' → j < i + 1 → ru_h ρ (cy_va c m s) j = true) ∧ (b' < b → b' < i + 1 ∧ ru_h ρ (cy_va c m s) b' = false) := by
              intro hib
              cases hh : ru_h ρ (cy_va c m s) i with
              | true =>
                rw [if_pos rfl]
                refine ⟨_, rfl, nI_1 i, d2.tr f4, b', rfl, d4, fun j hj hj2 => ?_, fun q => ⟨by have := (d6 q).1; omega, (d6 q).2⟩⟩
                by_cases ej : j = i
                · rw [ej]; exact hh
                · exact d5 j hj (by omega)
              | false =>
                rw [if_neg (by decide)]
                exact ⟨_, rfl, nI_1 i, d2.tr f4, i, by simp [cy_enc, hi], by omega, fun j hj _ => d5 j (by omega) hj, fun _ => ⟨by omega, hh⟩⟩
            by_cases hbr2 : b' < cy_r c
            · have e9 : cy_enc (cy_r c) b' = nI b' := by simp [cy_enc, hbr2]
              rw [e9, if_neg (cy_m1 (by omega))]
              rw [nle (by omega) (by omega)]
              by_cases hib : b' ≤ i
              · rw [if_pos hib, ← e9]
                refine ⟨_, rfl, nI_1 i, d2, b', rfl, d4, fun j hj _ => d5 j hj (by omega), fun q => ⟨by omega, (d6 q).2⟩⟩
              · rw [if_neg hib, ← e9]
                exact hH (by omega)
            · have e9 : cy_enc (cy_r c) b' = -1 := by simp [cy_enc, hbr2]
              have h9 := hH (by omega)
              rw [e9] at h9 ⊢
              rw [if_pos rfl]
              exact h9
          · rintro ⟨b9, k9, iv3⟩ ⟨d1, d2, b', d3, d4, d5, d6⟩
            dsimp only at d1 d2 d3
            subst d1; subst d3
            have r5 : iv3 58 5 = _ := (hC2.fr (d2.m (by decide) (by decide))).1.2.2.2.2.2.1
            refine ⟨(cy_enc (cy_r c) b', iv3), ?_, ?_, b', rfl, d4, fun j hj => d5 j hj (by omega), fun q => (d6 q).2⟩
            · show B_X10_brokenBy_34 _ _ _ _ iv3 = _
              unfold B_X10_brokenBy_34
              simp (disch := omega) only [cl5, r5, nle]
              rw [if_pos (by omega)]
            · exact (a2.tr (f2.up (by decide) (by decide))).tr (d2.up (by decide) (by decide))
        obtain ⟨x, hx, g1, b', g2, g3, g4, g5⟩ := G
        rw [hx, am_o1_s]
        refine ⟨_, rfl, nI_1 m, g1, b', g2, cy_LB_step a4 hb g3 g4 g5⟩
    · rintro ⟨b0, k0, iv1⟩ ⟨a1, a2, b, a3, a4⟩
      dsimp only at a1 a2 a3
      subst a1; subst a3
      have r2 : iv1 58 2 = _ := (hC.fr (a2.m (by decide) (by decide))).1.2.2.1
      refine ⟨(cy_enc (cy_r c) b, iv1), ?_, b, rfl, a4⟩
      show B_X10_brokenBy_4 _ _ _ iv1 = _
      unfold B_X10_brokenBy_4
      simp (disch := omega) only [cl2, r2, nle]
      rw [if_pos (by omega)]
  obtain ⟨x, hx, b, h1, h2⟩ := H
  refine ⟨x.2, ?_⟩
  unfold F_X10_brokenBy
  rw [hx, am_o1_s, h1, cy_LB_lb h2]
theorem P_canBe {ρ : ru_T} (hC : mo_C iv c) (hc : cy_ok c) (hR : mo_R iv ρ (cy_r c)) (ho : ru_ok ρ (cy_r c)) {s : Nat} (hs : s < 1024) : ∃ iv', F_X10_canBe (nI s) iv = some (am_bi (cy_can c ρ s), iv') := by
  have hn := hc.1
  have r2 := hC.1.2.2.1
  have hl : am_loop (fun s9 : Int32 => B_X10_canBe_2 (nI s) iv s9) 0 = some (if cy_any (fun a => s.testBit a && (decide (cy_kd c a = 2) || cy_any (fun b => s.testBit b && (cy_sha c a b && (decide (cy_st c b < cy_st c a) && decide (cy_le c b ≤ cy_le c a)))) (cy_n c))) (cy_n c) then .inr (0, iv) else .inl ()) := by
    refine am_loop_any (by omega) (fun a ha => ?_) ?_
    · have ga := hc.2.2.2.2.2.2.2.1 a ha
      obtain ⟨a1, a2, a3, a4, a5⟩ := hC.2.1 a ha
      have h5 := hc.2.2.2.2.2.1.2
      have hi : am_loop (fun s9 : Int32 => B_X10_canBe_37 (nI s) (nI a) iv s9) 0 = some (if cy_any (fun b => s.testBit b && (cy_sha c a b && (decide (cy_st c b < cy_st c a) && decide (cy_le c b ≤ cy_le c a)))) (cy_n c) then .inr (0, iv) else .inl ()) := by
        refine am_loop_any (by omega) (fun b hb => ?_) ?_
        · have gb := hc.2.2.2.2.2.2.2.1 b hb
          obtain ⟨b1, b2, b3, b4, b5⟩ := hC.2.1 b hb
          unfold B_X10_canBe_37
          simp (disch := omega) only [cl2, r2, nle, nlt, P_has hs, P_shares hC hc ha hb, am_o1_s, ifb, vb, am_cl, a3, b3, a4, b4, if_true, nI_1]
          rw [if_neg (by omega)]
          cases h2 : s.testBit b <;> cases h3 : cy_sha c a b <;> simp
          by_cases h6 : cy_st c a ≤ cy_st c b
          · simp [h6, Nat.not_lt.mpr h6]
          · by_cases h7 : cy_le c a < cy_le c b
            · simp [h6, h7, Nat.not_le.mpr h7]
            · simp [h6, h7, Nat.not_le.mp h6, Nat.not_lt.mp h7]
        · unfold B_X10_canBe_37
          simp (disch := omega) only [cl2, r2, nle]
          rw [if_pos (by omega)]
      unfold B_X10_canBe_2
      simp (disch := omega) only [cl2, r2, nle, P_has hs, am_o1_s, ifb, vb, am_cl, a1, if_true, nI_1, hi]
      rw [if_neg (by omega)]
      have e2 : (nI (cy_kd c a) = 2) = (cy_kd c a = 2) := propext (am_eq (by omega) (by decide))
      simp only [e2]
      cases h2 : s.testBit a
      · simp
      · by_cases h3 : cy_kd c a = 2
        · simp [h3]
        · cases h4 : cy_any (fun b => s.testBit b && (cy_sha c a b && (decide (cy_st c b < cy_st c a) && decide (cy_le c b ≤ cy_le c a)))) (cy_n c) <;> simp [h3, am_lp]
    · unfold B_X10_canBe_2
      simp (disch := omega) only [cl2, r2, nle]
      rw [if_pos (by omega)]
  unfold F_X10_canBe
  rw [hl]
  unfold cy_can cy_snd
  cases h1 : cy_any (fun a => s.testBit a && (decide (cy_kd c a = 2) || cy_any (fun b => s.testBit b && (cy_sha c a b && (decide (cy_st c b < cy_st c a) && decide (cy_le c b ≤ cy_le c a)))) (cy_n c))) (cy_n c) with
  | true => exact ⟨iv, rfl⟩
  | false =>
    rw [if_neg (by decide), am_lp_l]
    obtain ⟨iv1, e1⟩ := P_brokenBy hC hc hR ho hs
    refine ⟨iv1, ?_⟩
    rw [e1, am_o2_s]
    have hr4 := hc.2.2.2.1
    have hle : cy_lb c ρ s ≤ cy_r c := (cy_fst_s _ _).1
    by_cases h2 : cy_lb c ρ s < cy_r c
    · have e9 : cy_enc (cy_r c) (cy_lb c ρ s) = nI (cy_lb c ρ s) := by simp [cy_enc, h2]
      rw [e9, if_neg (cy_m1 (by omega))]
      have : decide (cy_lb c ρ s = cy_r c) = false := by simp; omega
      simp [this, am_bi]
    · have e9 : cy_enc (cy_r c) (cy_lb c ρ s) = -1 := by simp [cy_enc, h2]
      rw [e9, if_pos rfl]
      have : decide (cy_lb c ρ s = cy_r c) = true := by simp; omega
      simp [this, am_bi]
end B27
