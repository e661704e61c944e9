/-! the model: what is reached, who is fed, who wants -/
theorem cy_cnt_mono {f g : Nat → Bool} : ∀ {n : Nat}, (∀ i, i < n → f i = true → g i = true) → cy_cnt f n ≤ cy_cnt g n
  | 0, _ => Nat.le_refl _
  | n + 1, h => by
    have h1 := cy_cnt_mono (n := n) (fun i hi => h i (by omega))
    have h2 := h n (by omega)
    unfold cy_cnt
    cases e : f n with
    | false => simp only [Bool.false_eq_true, if_false]; omega
    | true => rw [h2 e]; simp only [if_true]; omega
theorem cy_cnt_eq {f g : Nat → Bool} : ∀ {n : Nat}, (∀ i, i < n → f i = true → g i = true) → cy_cnt g n ≤ cy_cnt f n → ∀ i, i < n → f i = g i
  | 0, _, _, i, hi => absurd hi (Nat.not_lt_zero i)
  | n + 1, h, hc, i, hi => by
    have h1 := cy_cnt_mono (n := n) (fun i hi => h i (by omega))
    have h2 := h n (by omega)
    unfold cy_cnt at hc
    have h3 : f n = g n ∧ cy_cnt g n ≤ cy_cnt f n := by
      cases e : f n with
      | false =>
        rw [e] at hc
        cases e2 : g n with
        | false => rw [e2] at hc; simp only [Bool.false_eq_true, if_false] at hc; exact ⟨rfl, by omega⟩
        | true => rw [e2] at hc; simp only [if_true, Bool.false_eq_true, if_false] at hc; omega
      | true =>
        rw [e, h2 e] at hc
        simp only [if_true] at hc
        exact ⟨(h2 e).symm, by omega⟩
    by_cases ei : i = n
    · rw [ei]; exact h3.1
    · exact cy_cnt_eq (n := n) (fun i hi => h i (by omega)) h3.2 i (by omega)
/-- a round of the model's looking: the drawers below d -/
def cy_rn (c : Nat → Nat → Nat) (s : Nat) : Nat → Nat → Nat
  | 0, r => r
  | d + 1, r => if (cy_rn c s d r).testBit d then cy_rn c s d r else if cy_isR c d (s &&& cy_rn c s d r) then cy_rn c s d r ||| 2 ^ d else cy_rn c s d r
def cy_rt (c : Nat → Nat → Nat) (s : Nat) : Nat → Nat
  | 0 => 0
  | t + 1 => cy_rn c s (cy_n c) (cy_rt c s t)
def cy_sub (a b : Nat) : Prop := ∀ i, a.testBit i = true → b.testBit i = true
theorem cy_rn_sub (c : Nat → Nat → Nat) (s r : Nat) : ∀ d, cy_sub (cy_rn c s d r) (cy_rn c s (d + 1) r) := by
  intro d i hi
  unfold cy_rn
  split
  · exact hi
  · split
    · rw [fb_bit_set, hi]; rfl
    · exact hi
theorem cy_rn_up (c : Nat → Nat → Nat) (s r : Nat) : ∀ q d, cy_sub (cy_rn c s d r) (cy_rn c s (d + q) r)
  | 0, d => fun i h => h
  | q + 1, d => fun i h => cy_rn_sub c s r (d + q) i (cy_rn_up c s r q d i h)
theorem cy_isR_mono {c : Nat → Nat → Nat} {d a b : Nat} (h : cy_sub a b) (h1 : cy_isR c d a = true) : cy_isR c d b = true := by
  unfold cy_isR at h1 ⊢
  rw [Bool.or_eq_true] at h1 ⊢
  rcases h1 with h1 | h1
  · exact Or.inl h1
  · refine Or.inr ?_
    rw [cy_any_iff] at h1 ⊢
    obtain ⟨k, g1, g2⟩ := h1
    rw [Bool.and_eq_true] at g2
    exact ⟨k, g1, by rw [h k g2.1, g2.2]; rfl⟩
theorem cy_and_sub {s a b : Nat} (h : cy_sub a b) : cy_sub (s &&& a) (s &&& b) := by
  intro i hi
  rw [Nat.testBit_and, Bool.and_eq_true] at hi ⊢
  exact ⟨hi.1, h i hi.2⟩
/-- what is in is carried -/
def cy_sup (c : Nat → Nat → Nat) (s r : Nat) : Prop := r < 2 ^ cy_n c ∧ ∀ d, r.testBit d = true → cy_isR c d (s &&& r) = true
theorem cy_rn_sup {c : Nat → Nat → Nat} {s r : Nat} (h : cy_sup c s r) : ∀ d, d ≤ cy_n c → cy_sup c s (cy_rn c s d r)
  | 0, _ => h
  | d + 1, hd => by
    have ih := cy_rn_sup h d (by omega)
    unfold cy_rn
    by_cases h1 : (cy_rn c s d r).testBit d = true
    · rw [if_pos h1]; exact ih
    · rw [if_neg h1]
      by_cases h2 : cy_isR c d (s &&& cy_rn c s d r) = true
      · rw [if_pos h2]
        have hsub : cy_sub (cy_rn c s d r) (cy_rn c s d r ||| 2 ^ d) := fun i hi => by rw [fb_bit_set, hi]; rfl
        refine ⟨am_orlt ih.1 (am_p2 (by omega)), fun e he => cy_isR_mono (cy_and_sub hsub) ?_⟩
        by_cases ed : e = d
        · rw [ed]; exact h2
        · rw [fb_bit_set] at he
          simp [ed] at he
          exact ih.2 e he
      · rw [if_neg h2]; exact ih
theorem cy_rt_sup (c : Nat → Nat → Nat) (s : Nat) : ∀ t, cy_sup c s (cy_rt c s t)
  | 0 => ⟨Nat.two_pow_pos _, fun d h => by simp [cy_rt] at h⟩
  | t + 1 => cy_rn_sup (cy_rt_sup c s t) _ (Nat.le_refl _)
theorem cy_eqb {a b n : Nat} (ha : a < 2 ^ n) (hb : b < 2 ^ n) (h : ∀ i, i < n → a.testBit i = b.testBit i) : a = b := by
  refine Nat.eq_of_testBit_eq (fun i => ?_)
  by_cases hi : i < n
  · exact h i hi
  · rw [Nat.testBit_lt_two_pow (Nat.lt_of_lt_of_le ha (Nat.pow_le_pow_right (by decide) (by omega))), Nat.testBit_lt_two_pow (Nat.lt_of_lt_of_le hb (Nat.pow_le_pow_right (by decide) (by omega)))]
theorem cy_rt_P (c : Nat → Nat → Nat) (s : Nat) : ∀ t, cy_rt c s (t + 1) = cy_rt c s t ∨ t + 1 ≤ cy_cnt (fun i => (cy_rt c s (t + 1)).testBit i) (cy_n c) := by
  have key : ∀ t, cy_rt c s (t + 1) = cy_rt c s t ∨ cy_cnt (fun i => (cy_rt c s t).testBit i) (cy_n c) + 1 ≤ cy_cnt (fun i => (cy_rt c s (t + 1)).testBit i) (cy_n c) := by
    intro t
    have hsub : cy_sub (cy_rt c s t) (cy_rt c s (t + 1)) := by
      have := cy_rn_up c s (cy_rt c s t) (cy_n c) 0
      rw [Nat.zero_add] at this
      exact this
    by_cases h : cy_cnt (fun i => (cy_rt c s (t + 1)).testBit i) (cy_n c) ≤ cy_cnt (fun i => (cy_rt c s t).testBit i) (cy_n c)
    · refine Or.inl (cy_eqb (cy_rt_sup c s (t + 1)).1 (cy_rt_sup c s t).1 (fun i hi => ?_))
      exact (cy_cnt_eq (fun i _ => hsub i) h i hi).symm
    · exact Or.inr (by omega)
  intro t
  induction t with
  | zero =>
    rcases key 0 with h | h
    · exact Or.inl h
    · exact Or.inr (by omega)
  | succ t ih =>
    rcases ih with h | h
    · refine Or.inl ?_
      show cy_rn c s (cy_n c) (cy_rt c s (t + 1)) = cy_rn c s (cy_n c) (cy_rt c s t)
      rw [h]
    · rcases key (t + 1) with h2 | h2
      · exact Or.inl h2
      · exact Or.inr (by omega)
theorem cy_rt_rch (c : Nat → Nat → Nat) (s : Nat) : cy_rt c s (cy_n c + 1) = cy_rch c s := by
  have h0 : cy_rt c s (cy_n c + 1) = cy_rt c s (cy_n c) := by
    rcases cy_rt_P c s (cy_n c) with h | h
    · exact h
    · have := cy_cnt_le (fun i => (cy_rt c s (cy_n c + 1)).testBit i) (cy_n c)
      omega
  obtain ⟨r, hr⟩ : ∃ r, r = cy_rt c s (cy_n c) := ⟨_, rfl⟩
  have h1 : cy_rn c s (cy_n c) r = r := by rw [hr]; exact h0
  have hsup : cy_sup c s r := by rw [hr]; exact cy_rt_sup c s _
  rw [h0, ← hr]
  have hst : ∀ d, d ≤ cy_n c → cy_rn c s d r = r := by
    intro d hd
    refine cy_eqb (cy_rn_sup hsup d hd).1 hsup.1 (fun i hi => ?_)
    have g1 := cy_rn_up c s r d 0 i
    rw [Nat.zero_add] at g1
    have g2 := cy_rn_up c s r (cy_n c - d) d i
    rw [show d + (cy_n c - d) = cy_n c by omega, h1] at g2
    have g3 : r.testBit i = true → (cy_rn c s d r).testBit i = true := g1
    cases e1 : r.testBit i with
    | true => exact g3 e1
    | false =>
      cases e2 : (cy_rn c s d r).testBit i with
      | false => rfl
      | true => rw [g2 e2] at e1; cases e1
  refine cy_bits_u hsup.1 (fun d hd => ?_)
  refine cy_rd_u c s (f := fun d => r.testBit d) (fun d hd => ?_) _ d (Nat.lt_succ_self _) hd
  have e9 : (decide (cy_st c d < cy_re c) || cy_any (fun k => s.testBit k && (cy_car c d k && r.testBit k)) (cy_n c)) = cy_isR c d (s &&& r) := by
    unfold cy_isR
    congr 1
    refine cy_any_cong (fun k _ => ?_)
    rw [Nat.testBit_and]
    cases s.testBit k <;> cases cy_car c d k <;> cases r.testBit k <;> rfl
  show r.testBit d = _
  rw [e9]
  cases e1 : r.testBit d with
  | true => exact (hsup.2 d e1).symm
  | false =>
    have g := hst (d + 1) (by omega)
    unfold cy_rn at g
    rw [hst d (by omega), e1, if_neg (by decide)] at g
    cases e2 : cy_isR c d (s &&& r) with
    | false => rfl
    | true =>
      rw [e2, if_pos rfl] at g
      have := fb_bit_set r d d
      rw [g, e1] at this
      simp at this
section B28
variable {iv : am_I} {c : Nat → Nat → Nat}
theorem P_reachedBy (hC : mo_C iv c) (hc : cy_ok c) {s : Nat} (hs : s < 1024) : F_X10_reachedBy (nI s) iv = some (nI (cy_rch c s)) := by
  have hn := hc.1
  have r2 := hC.1.2.2.1
  have hp := cy_p10 hn
  have hin : ∀ r, cy_sup c s r → ∀ x : Int32, am_loop (fun q : (Int32 × Int32) => B_X10_reachedBy_17 (nI s) x iv q.1 q.2) (nI r, (0 : Int32)) = some (nI (cy_rn c s (cy_n c) r)) := by
    intro r hr x
    refine am_loop_seq (fun i => (nI (cy_rn c s i r), nI i)) (cy_n c) (by omega) rfl (fun d hd => ?_) ?_
    · have hq := (cy_rn_sup hr d (by omega)).1
      show B_X10_reachedBy_17 _ _ _ (nI (cy_rn c s d r)) (nI d) = _
      unfold B_X10_reachedBy_17
      have hq2 : s &&& cy_rn c s d r < 1024 := Nat.lt_of_le_of_lt Nat.and_le_left hs
      simp (disch := omega) only [cl2, r2, nle, P_has, fa_and, P_isReachedBy hC hc hd hq2, am_o1_s, ifb, am_shl1, fa_or, nI_1]
      rw [if_neg (by omega)]
      show _ = some (Sum.inl (nI (if (cy_rn c s d r).testBit d then cy_rn c s d r else if cy_isR c d (s &&& cy_rn c s d r) then cy_rn c s d r ||| 2 ^ d else cy_rn c s d r), nI (d + 1)))
      cases (cy_rn c s d r).testBit d <;> cases cy_isR c d (s &&& cy_rn c s d r) <;> rfl
    · show B_X10_reachedBy_17 _ _ _ _ (nI (cy_n c)) = _
      unfold B_X10_reachedBy_17
      simp (disch := omega) only [cl2, r2, nle]
      rw [if_pos (by omega)]
  have hout : am_loop (fun q : (Int32 × Int32) => B_X10_reachedBy_4 (nI s) iv q.1 q.2) ((0 : Int32), (0 : Int32)) = some (nI (cy_rt c s (cy_n c + 1))) := by
    refine am_loop_seq (fun i => (nI (cy_rt c s i), nI i)) (cy_n c + 1) (by omega) rfl (fun t ht => ?_) ?_
    · show B_X10_reachedBy_4 _ _ _ (nI t) = _
      unfold B_X10_reachedBy_4
      simp (disch := omega) only [cl2, r2, nlt, hin _ (cy_rt_sup c s t), am_o1_s, nI_1]
      rw [if_neg (by omega)]
      rfl
    · show B_X10_reachedBy_4 _ _ _ (nI (cy_n c + 1)) = _
      unfold B_X10_reachedBy_4
      simp (disch := omega) only [cl2, r2, nlt]
      rw [if_pos (by omega)]
  unfold F_X10_reachedBy
  rw [hout, am_o1_s, cy_rt_rch]
theorem P_feedBy (hC : mo_C iv c) (hc : cy_ok c) {f s : Nat} (hs : s < 1024) : F_X10_feedBy (nI f) (nI s) iv = some (nI (f ||| cy_fed c s)) := by
  have hn := hc.1
  have hp5 := hc.2.2.1
  have r3 := hC.1.2.2.2.1
  have hl : am_loop (fun q : (Int32 × Int32) => B_X10_feedBy_5 (nI s) iv q.1 q.2) (nI f, (0 : Int32)) = some (nI (f ||| cy_bits (cy_fd c s) (cy_p c))) := by
    refine am_loop_seq (fun i => (nI (f ||| cy_bits (cy_fd c s) i), nI i)) (cy_p c) (by omega) ?_ (fun p hp => ?_) ?_
    · show _ = (nI (f ||| 0), nI 0)
      rw [Nat.or_zero]; rfl
    · obtain ⟨p1, p2, p3⟩ := hC.2.2 p hp
      obtain ⟨g1, g2, g3, g4, g5⟩ := hc.2.2.2.2.2.2.2.2 p hp
      show B_X10_feedBy_5 _ _ (nI _) (nI p) = some (Sum.inl (nI (f ||| (cy_bits (cy_fd c s) p ||| if cy_fd c s p then 2 ^ p else 0)), nI (p + 1)))
      unfold B_X10_feedBy_5
      simp (disch := omega) only [cl3, r3, nle, vb, am_cl, if_true, p1, p2, P_has hs, am_o1_s, ifb, am_shl1, fa_or, nI_1]
      rw [if_neg (by omega)]
      simp only [cy_shI_m1 (c := c) (p := p) (by omega)]
      by_cases h0 : cy_sh c p = 0
      · rw [if_pos h0, show cy_fd c s p = false by simp [cy_fd, h0]]
        simp
      · rw [if_neg h0, show cy_shI c p = nI (cy_sh c p - 1) by simp [cy_shI, h0]]
        simp (disch := omega) only [P_has hs, am_o1_s, ifb]
        unfold cy_fd
        cases s.testBit (cy_ho c p) <;> cases s.testBit (cy_sh c p - 1) <;> simp [h0, Nat.or_assoc]
    · show B_X10_feedBy_5 _ _ _ (nI (cy_p c)) = _
      unfold B_X10_feedBy_5
      simp (disch := omega) only [cl3, r3, nle]
      rw [if_pos (by omega)]
  unfold F_X10_feedBy
  rw [hl]
  rfl
theorem P_wanting (hC : mo_C iv c) (hc : cy_ok c) : F_X10_wanting iv = some (nI (cy_wan c)) := by
  have hn := hc.1
  have hp5 := hc.2.2.1
  have r3 := hC.1.2.2.2.1
  have hl : am_loop (fun q : (Int32 × Int32) => B_X10_wanting_4 iv q.1 q.2) ((0 : Int32), (0 : Int32)) = some (nI (cy_wan c)) := by
    refine am_loop_seq (fun i => (nI (cy_bits (fun p => !decide (cy_sh c p = 0)) i), nI i)) (cy_p c) (by omega) rfl (fun p hp => ?_) ?_
    · obtain ⟨p1, p2, p3⟩ := hC.2.2 p hp
      obtain ⟨g1, g2, g3, g4, g5⟩ := hc.2.2.2.2.2.2.2.2 p hp
      show B_X10_wanting_4 _ (nI _) (nI p) = some (Sum.inl (nI (cy_bits (fun p => !decide (cy_sh c p = 0)) p ||| if !decide (cy_sh c p = 0) then 2 ^ p else 0), nI (p + 1)))
      unfold B_X10_wanting_4 J_X10_wanting_32
      simp (disch := omega) only [cl3, r3, nle, vb, am_cl, if_true, p2, am_shl1, fa_or, nI_1]
      rw [if_neg (by omega)]
      simp only [cy_shI_m1 (c := c) (p := p) (by omega)]
      by_cases h0 : cy_sh c p = 0
      · simp [h0, show (0 : Int32) = nI 0 from rfl, fa_or]
      · simp [h0]
    · show B_X10_wanting_4 _ _ (nI (cy_p c)) = _
      unfold B_X10_wanting_4
      simp (disch := omega) only [cl3, r3, nle]
      rw [if_pos (by omega)]
      rfl
  unfold F_X10_wanting
  rw [hl]
  rfl
end B28
