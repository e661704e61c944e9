/-! the class: isSound, climb, withBoth, hungry, the rules, judge -/
theorem nI_z {a : Nat} (h : a < 65536) : nI a = 0 ↔ a = 0 := am_eq h (by decide)
theorem cy_nz {a : Nat} : a = 0 ↔ ∀ i, a.testBit i = false := by
  constructor
  · intro h i; rw [h]; exact Nat.zero_testBit i
  · intro h
    exact Nat.eq_of_testBit_eq (fun i => by rw [h i, Nat.zero_testBit])
theorem am_bit0 {s d : Nat} (hs : s < 1024) (hd : d < 10) : (nI s >>> (nI d &&& 31) &&& 1 = 0) = (s.testBit d = false) := by
  rw [am_bit1 s hs d hd]
  exact propext (am_bi_eq0 _)
theorem am_bit5 : ∀ s, s < 32 → ∀ d, d < 5 → nI s >>> (nI d &&& 31) &&& 1 = am_bi (s.testBit d) := by decide +kernel
/-- a set and a row of bits -/
theorem cy_and_bits {s n : Nat} {p : Nat → Bool} : (s &&& cy_bits p n = 0) ↔ cy_any (fun e => s.testBit e && p e) n = false := by
  rw [cy_nz, cy_any_false]
  constructor
  · intro h e he
    have := h e
    rw [Nat.testBit_and, cy_bits_t] at this
    simpa [he] using this
  · intro h e
    rw [Nat.testBit_and, cy_bits_t]
    by_cases he : e < n
    · have := h e he
      simpa [he] using this
    · simp [he]
theorem cy_and3 {s q n : Nat} {p : Nat → Bool} : (s &&& q &&& cy_bits p n = 0) ↔ cy_any (fun e => s.testBit e && (p e && q.testBit e)) n = false := by
  rw [cy_and_bits, cy_any_cong (g := fun e => s.testBit e && (p e && q.testBit e))]
  intro e he
  rw [Nat.testBit_and]
  cases s.testBit e <;> cases q.testBit e <;> cases p e <;> rfl
section B32
variable {iv iv' : am_I} {c : Nat → Nat → Nat} {w : Nat}
theorem K_isSound (hC : cl_C w iv c) (hc : cy_ok c) (hT : cl_T w iv c) {s : Nat} (hs : s < 1024) : F_X0_isSound w (nI s) iv = some (am_bi (cy_snd c s)) := by
  have hn := hc.1
  have n1 := hC.1.2.2.2.1
  unfold F_X0_isSound
  rw [hT.2.1, fa_and]
  have hlt : s &&& cy_bits (cy_k2 c) (cy_n c) < 1024 := Nat.lt_of_le_of_lt Nat.and_le_left hs
  have hl : am_loop (fun q : Int32 => B_X0_isSound_16 w (nI s) iv q) 0 = some (if cy_any (fun d => s.testBit d && cy_any (fun e => s.testBit e && cy_tl c d e) (cy_n c)) (cy_n c) then .inr 0 else .inl ()) := by
    refine am_loop_any (by omega) (fun d hd => ?_) ?_
    · have hlt : s &&& cy_bits (cy_tl c d) (cy_n c) < 1024 := Nat.lt_of_le_of_lt Nat.and_le_left hs
      unfold B_X0_isSound_16
      simp (disch := omega) only [n1, nle, vb, am_cl, if_true, (hT.2.2 d hd).2.1, fa_and, nI_z, cy_and_bits, am_bit0, nI_1]
      rw [if_neg (by omega)]
      cases s.testBit d <;> cases cy_any (fun e => s.testBit e && cy_tl c d e) (cy_n c) <;> rfl
    · unfold B_X0_isSound_16
      simp (disch := omega) only [n1, nle]
      rw [if_pos (by omega)]
  have hsnd : cy_snd c s = (!cy_any (fun e => s.testBit e && cy_k2 c e) (cy_n c) && !cy_any (fun d => s.testBit d && cy_any (fun e => s.testBit e && cy_tl c d e) (cy_n c)) (cy_n c)) := by
    unfold cy_snd
    rw [← Bool.not_or]
    congr 1
    rw [Bool.eq_iff_iff, Bool.or_eq_true, cy_any_iff, cy_any_iff, cy_any_iff]
    constructor
    · rintro ⟨a, ha, h1⟩
      rw [Bool.and_eq_true, Bool.or_eq_true, cy_any_iff] at h1
      obtain ⟨h2, h3 | ⟨b, hb, h3⟩⟩ := h1
      · exact Or.inl ⟨a, ha, by rw [h2]; exact h3⟩
      · rw [Bool.and_eq_true, Bool.and_eq_true] at h3
        refine Or.inr ⟨b, hb, ?_⟩
        rw [Bool.and_eq_true, cy_any_iff]
        exact ⟨h3.1, a, ha, by rw [h2]; unfold cy_tl; rw [h3.2.1]; simpa using h3.2.2⟩
    · rintro (⟨a, ha, h1⟩ | ⟨b, hb, h1⟩)
      · rw [Bool.and_eq_true] at h1
        exact ⟨a, ha, by rw [h1.1]; unfold cy_k2 at h1; rw [h1.2]; rfl⟩
      · rw [Bool.and_eq_true, cy_any_iff] at h1
        obtain ⟨h2, a, ha, h3⟩ := h1
        rw [Bool.and_eq_true] at h3
        refine ⟨a, ha, ?_⟩
        rw [h3.1, Bool.true_and, Bool.or_eq_true, cy_any_iff]
        refine Or.inr ⟨b, hb, ?_⟩
        rw [h2, Bool.true_and]
        exact h3.2
  rw [hl, hsnd]
  simp only [nI_z (show s &&& cy_bits (cy_k2 c) (cy_n c) < 65536 by omega), cy_and_bits]
  cases cy_any (fun e => s.testBit e && cy_k2 c e) (cy_n c) <;> cases cy_any (fun d => s.testBit d && cy_any (fun e => s.testBit e && cy_tl c d e) (cy_n c)) (cy_n c) <;> rfl
/-- what climbing has come to: the stories below t, and of story t the drawers below i -/
def cy_cl (c : Nat → Nat → Nat) (s t i : Nat) : Nat := cy_bits (fun e => cy_rd c s e && (decide (cy_st c e < t) || (decide (cy_st c e = t) && decide (e < i)))) (cy_n c)
theorem cy_or_bits {p q : Nat → Bool} {n i : Nat} (hi : i < n) (h1 : q i = true) (h2 : ∀ e, e < n → e ≠ i → q e = p e) : cy_bits p n ||| 2 ^ i = cy_bits q n := by
  refine cy_bits_u (am_orlt (cy_bits_lt p n) (am_p2 hi)) (fun e he => ?_)
  rw [fb_bit_set, cy_bits_t]
  by_cases ei : e = i
  · simp [ei, h1]
  · simp [ei, he, h2 e he ei]
theorem K_climb (hC : cl_C w iv c) (hc : cy_ok c) (hT : cl_T w iv c) {s : Nat} (hs : s < 1024) : F_X0_climb w (nI s) iv = some (nI (cy_rch c s)) := by
  have hn := hc.1
  have n1 := hC.1.2.2.2.1
  have hp := cy_p10 hn
  have hre := hc.2.1
  have h5 := hc.2.2.2.2.2.1
  have hin : ∀ t, t < 10 → am_loop (fun q : (Int32 × Int32) => B_X0_climb_15 w (nI s) (nI t) iv q.1 q.2) (nI (cy_cl c s t 0), (0 : Int32)) = some (nI (cy_cl c s t (cy_n c))) := by
    intro t ht
    refine am_loop_seq (fun i => (nI (cy_cl c s t i), nI i)) (cy_n c) (by omega) rfl (fun d hd => ?_) ?_
    · have gd := hc.2.2.2.2.2.2.2.1 d hd
      have hq : cy_cl c s t d < 2 ^ cy_n c := cy_bits_lt _ _
      have hlt : s &&& cy_cl c s t d &&& cy_bits (cy_car c d) (cy_n c) < 65536 := Nat.lt_of_le_of_lt Nat.and_le_left (Nat.lt_of_le_of_lt Nat.and_le_left (by omega))
      obtain ⟨-, -, -, d4, -⟩ := hC.2.1 d hd
      show B_X0_climb_15 _ _ _ _ (nI (cy_cl c s t d)) (nI d) = some (Sum.inl (nI (cy_cl c s t (d + 1)), nI (d + 1)))
      unfold B_X0_climb_15 J_X0_climb_66
      simp (disch := omega) only [n1, nle, vb, am_cl, if_true, d4, neq, nlt, hC.1.2.2.1, (hT.2.2 d hd).2.2, fa_and, nI_z hlt, cy_and3, am_shl1, fa_or, nI_1]
      rw [if_neg (by omega)]
      have same : (cy_st c d = t → cy_rd c s d = false) → cy_cl c s t d = cy_cl c s t (d + 1) := by
        intro h
        unfold cy_cl
        refine cy_bits_cong (fun e he => ?_)
        by_cases ed : e = d
        · subst ed
          by_cases h9 : cy_st c e = t
          · simp [h h9]
          · simp [h9]
        · have : decide (e < d + 1) = decide (e < d) := by rw [decide_eq_decide]; omega
          rw [this]
      have more : cy_st c d = t → cy_rd c s d = true → cy_cl c s t d ||| 2 ^ d = cy_cl c s t (d + 1) := by
        intro h h9
        unfold cy_cl
        refine cy_or_bits hd (by simp [h, h9]) (fun e he ed => ?_)
        have : decide (e < d + 1) = decide (e < d) := by rw [decide_eq_decide]; omega
        rw [this]
      by_cases h1 : cy_st c d = t
      · rw [if_pos h1]
        have hrd : cy_rd c s d = (decide (t < cy_re c) || cy_any (fun e => s.testBit e && (cy_car c d e && (cy_cl c s t d).testBit e)) (cy_n c)) := by
          rw [cy_rd_eq, h1]
          congr 1
          refine cy_any_cong (fun e he => ?_)
          cases hcar : cy_car c d e with
          | false => rfl
          | true =>
            have h9 : cy_st c e < t := by simp [cy_car] at hcar; omega
            unfold cy_cl
            rw [cy_bits_t]
            simp [he, h9]
        by_cases h2 : t < cy_re c
        · rw [if_pos h2, more h1 (by rw [hrd]; simp [h2])]
        · rw [if_neg h2]
          cases h3 : cy_any (fun e => s.testBit e && (cy_car c d e && (cy_cl c s t d).testBit e)) (cy_n c) with
          | false => rw [if_pos rfl, same (fun _ => by rw [hrd, h3]; simp [h2])]
          | true => rw [if_neg (by decide), more h1 (by rw [hrd, h3]; simp)]
      · rw [if_neg h1, same (fun q => absurd q h1)]
    · show B_X0_climb_15 _ _ _ _ _ (nI (cy_n c)) = _
      unfold B_X0_climb_15
      simp (disch := omega) only [n1, nle]
      rw [if_pos (by omega)]
  have hout : am_loop (fun q : (Int32 × Int32) => B_X0_climb_4 w (nI s) iv q.1 q.2) ((0 : Int32), (0 : Int32)) = some (nI (cy_cl c s (c 0 5) 0)) := by
    refine am_loop_seq (fun t => (nI (cy_cl c s t 0), nI t)) (c 0 5) (by omega) ?_ (fun t ht => ?_) ?_
    · show _ = (nI (cy_cl c s 0 0), nI 0)
      have : cy_cl c s 0 0 = 0 := by
        rw [cy_nz]
        intro i
        unfold cy_cl
        rw [cy_bits_t]
        simp
      rw [this]; rfl
    · show B_X0_climb_4 _ _ _ _ (nI t) = some (Sum.inl (nI (cy_cl c s (t + 1) 0), nI (t + 1)))
      unfold B_X0_climb_4
      simp (disch := omega) only [hC.1.2.1, nle, hin t (by omega), am_o1_s, nI_1]
      rw [if_neg (by omega)]
      congr 4
      unfold cy_cl
      refine cy_bits_cong (fun e he => ?_)
      congr 1
      rw [Bool.eq_iff_iff]
      simp only [Bool.or_eq_true, Bool.and_eq_true, decide_eq_true_eq]
      omega
    · show B_X0_climb_4 _ _ _ _ (nI (c 0 5)) = _
      unfold B_X0_climb_4
      simp (disch := omega) only [hC.1.2.1, nle]
      rw [if_pos (by omega)]
  unfold F_X0_climb
  rw [hout, am_o1_s]
  congr 2
  unfold cy_cl cy_rch
  refine cy_bits_cong (fun e he => ?_)
  have := (hc.2.2.2.2.2.2.2.1 e he).2.2.1
  simp [this]
theorem am_and1 (x y : Int32) : (x &&& y) &&& 1 = (x &&& 1) &&& (y &&& 1) := by
  apply Int32.toBitVec_inj.1
  apply BitVec.eq_of_getLsbD_eq
  intro i hi
  simp only [Int32.toBitVec_and, BitVec.getLsbD_and]
  cases x.toBitVec.getLsbD i <;> cases y.toBitVec.getLsbD i <;> cases (1 : Int32).toBitVec.getLsbD i <;> rfl
theorem am_bi_and (a b : Bool) : am_bi a &&& am_bi b = am_bi (a && b) := by cases a <;> cases b <;> decide
theorem K_withBoth (hC : cl_C w iv c) (hc : cy_ok c) {s : Nat} (hs : s < 1024) : F_X4_withBoth w (nI s) iv = some (nI (cy_fed c s)) := by
  have hn := hc.1
  have hp5 := hc.2.2.1
  have r3 := hC.1.2.2.2.2.1
  have hl : am_loop (fun q : (Int32 × Int32) => B_X4_withBoth_4 w (nI s) iv q.1 q.2) ((0 : Int32), (0 : Int32)) = some (nI (cy_fed c s)) := by
    refine am_loop_seq (fun i => (nI (cy_bits (cy_fd c s) i), nI i)) (cy_p c) (by omega) rfl (fun p hp => ?_) ?_
    · obtain ⟨p1, p2, p3⟩ := hC.2.2 p hp
      obtain ⟨g1, g2, g3, g4, g5⟩ := hc.2.2.2.2.2.2.2.2 p hp
      show B_X4_withBoth_4 _ _ _ (nI _) (nI p) = some (Sum.inl (nI (cy_bits (cy_fd c s) p ||| if cy_fd c s p then 2 ^ p else 0), nI (p + 1)))
      unfold B_X4_withBoth_4
      simp (disch := omega) only [r3, nle, vb, am_cl, if_true, p1, p2, am_shl1, fa_or, nI_1]
      rw [if_neg (by omega)]
      simp only [cy_shI_m1 (c := c) (p := p) (by omega)]
      by_cases h0 : cy_sh c p = 0
      · rw [if_pos h0, show cy_fd c s p = false by simp [cy_fd, h0]]
        simp
      · rw [if_neg h0, show cy_shI c p = nI (cy_sh c p - 1) by simp [cy_shI, h0], am_and1, am_bit1 s hs _ (by omega), am_bit1 s hs _ (by omega), am_bi_and]
        unfold cy_fd
        cases s.testBit (cy_ho c p) <;> cases s.testBit (cy_sh c p - 1) <;> simp [h0, am_bi]
    · show B_X4_withBoth_4 _ _ _ _ (nI (cy_p c)) = _
      unfold B_X4_withBoth_4
      simp (disch := omega) only [r3, nle]
      rw [if_pos (by omega)]
      rfl
  unfold F_X4_withBoth
  rw [hl]
  rfl
theorem K_hungry (hC : cl_C w iv c) (hc : cy_ok c) : F_X4_hungry w iv = some (nI (cy_wan c)) := by
  have hn := hc.1
  have hp5 := hc.2.2.1
  have r3 := hC.1.2.2.2.2.1
  have hl : am_loop (fun q : (Int32 × Int32) => B_X4_hungry_4 w iv q.1 q.2) ((0 : Int32), (0 : Int32)) = some (nI (cy_wan c)) := by
    refine am_loop_seq (fun i => (nI (cy_bits (fun p => !decide (cy_sh c p = 0)) i), nI i)) (cy_p c) (by omega) rfl (fun p hp => ?_) ?_
    · obtain ⟨p1, p2, p3⟩ := hC.2.2 p hp
      obtain ⟨g1, g2, g3, g4, g5⟩ := hc.2.2.2.2.2.2.2.2 p hp
      show B_X4_hungry_4 _ _ (nI _) (nI p) = some (Sum.inl (nI (cy_bits (fun p => !decide (cy_sh c p = 0)) p ||| if !decide (cy_sh c p = 0) then 2 ^ p else 0), nI (p + 1)))
      unfold B_X4_hungry_4 J_X4_hungry_30
      simp (disch := omega) only [r3, nle, vb, am_cl, if_true, p2, am_shl1, fa_or, nI_1]
      rw [if_neg (by omega)]
      simp only [cy_shI_m1 (c := c) (p := p) (by omega)]
      by_cases h0 : cy_sh c p = 0
      · simp [h0, show (0 : Int32) = nI 0 from rfl, fa_or]
      · simp [h0]
    · show B_X4_hungry_4 _ _ _ (nI (cy_p c)) = _
      unfold B_X4_hungry_4
      simp (disch := omega) only [r3, nle]
      rw [if_pos (by omega)]
      rfl
  unfold F_X4_hungry
  rw [hl]
  rfl
theorem am_bcn {x : Nat} (h : x < 1024) : am_bcI (nI x) = nI (cy_pc x) := am_bc x h
/-- counting bits of a set that are in a row -/
theorem cy_pc_bits {s n : Nat} {p : Nat → Bool} (hs : s < 1024) (hn : n ≤ 10) : cy_pc (s &&& cy_bits p n) = cy_cnt (fun k => s.testBit k && p k) n := by
  rw [cy_pc_cnt _ (Nat.lt_of_le_of_lt Nat.and_le_left hs)]
  have key : ∀ q m, (n ≤ m → cy_cnt (fun k => (s &&& cy_bits p n).testBit k) (m + q) = cy_cnt (fun k => (s &&& cy_bits p n).testBit k) m)
    := by
    intro q
    induction q with
    | zero => intro m _; rfl
    | succ q ih =>
      intro m hm
      rw [← Nat.add_assoc]
      show cy_cnt _ (m + q) + _ = _
      have hz : (s &&& cy_bits p n).testBit (m + q) = false := by
        rw [Nat.testBit_and, cy_bits_t]
        simp [show ¬ m + q < n by omega]
      rw [ih m hm]
      simp [hz]
  rw [show 10 = n + (10 - n) by omega, key (10 - n) n (Nat.le_refl _)]
  refine cy_cnt_cong (fun k hk => ?_)
  rw [Nat.testBit_and, cy_bits_t]
  simp [hk]
theorem K_lookAt (hC : cl_C w iv c) (hc : cy_ok c) (hT : cl_T w iv c) {d s : Nat} (hd : d < cy_n c) (hs : s < 1024) : ∃ iv', F_X0_lookAt w (nI d) (nI s) iv = some iv' ∧ ∀ i, i < 7 → iv' (w + 18) i = cy_va c d s i := by
  have hn := hc.1
  obtain ⟨d1, d2, d3, d4, d5⟩ := hC.2.1 d hd
  have gd := hc.2.2.2.2.2.2.2.1 d hd
  unfold F_X0_lookAt
  simp (disch := omega) only [vb, am_cl, if_true, cl0, cl1, cl2, cl3, cl4, cl5, cl6]
  refine ⟨_, rfl, ?_⟩
  have n1 : ∀ (x : am_I) (k : Nat) (y : Int32), am_w x (w + 18) k y (w + 1) = x (w + 1) := fun x k y => am_w_other _ _ _ (by omega)
  have n7 : ∀ (x : am_I) (k : Nat) (y : Int32), am_w x (w + 18) k y (w + 7) = x (w + 7) := fun x k y => am_w_other _ _ _ (by omega)
  have n5 : ∀ (x : am_I) (k : Nat) (y : Int32), am_w x (w + 18) k y (w + 5) = x (w + 5) := fun x k y => am_w_other _ _ _ (by omega)
  have n6 : ∀ (x : am_I) (k : Nat) (y : Int32), am_w x (w + 18) k y (w + 6) = x (w + 6) := fun x k y => am_w_other _ _ _ (by omega)
  have n2 : ∀ (x : am_I) (k : Nat) (y : Int32), am_w x (w + 18) k y (w + 2) = x (w + 2) := fun x k y => am_w_other _ _ _ (by omega)
  have l1 : s &&& cy_bits (cy_k1 c) (cy_n c) < 1024 := Nat.lt_of_le_of_lt Nat.and_le_left hs
  have l2 : s &&& cy_bits (cy_ab c d) (cy_n c) < 1024 := Nat.lt_of_le_of_lt Nat.and_le_left hs
  simp only [n1, n7, n5, n6, n2, d1, d2, d4, d5, hT.1, (hT.2.2 d hd).1, fa_and, am_bcn hs, am_bcn l1, am_bcn l2, cy_pc_bits hs hn]
  intro i hi
  simp only [am_w_r]
  match i, hi with
  | 0, _ => simp [cy_va]
  | 1, _ => simp [cy_va]
  | 2, _ => simp [cy_va]
  | 3, _ => simp [cy_va]
  | 4, _ => simp [cy_va]
  | 5, _ => simp [cy_va]; rfl
  | 6, _ => simp [cy_va]; rfl
end B32
