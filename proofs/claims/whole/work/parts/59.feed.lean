/-! feed -/
/-- a byte of a number, by the class and by the model -/
def kb (x : Int32) (j : Nat) : Int32 := ((x.toUInt32 >>> (((24 : Int32) - ((8 : Int32) * nI j)).toUInt32 &&& Int32.toUInt32 31)).toInt32).toInt8.toInt32
def mb (x : Int32) (j : Nat) : Int32 := (x >>> (((24 : Int32) - ((8 : Int32) * nI j)) &&& 31)) &&& (255 : Int32)
theorem kb_rt (y : Int32) : (y.toInt8.toInt32).toInt8.toInt32 = y.toInt8.toInt32 := by simp
theorem i8_bit (y : Int32) (i : Nat) (hi : i < 8) : y.toInt8.toBitVec.getLsbD i = y.toBitVec.getLsbD i := by
  have : y.toInt8.toBitVec = y.toBitVec.signExtend 8 := rfl
  rw [this, BitVec.getLsbD_signExtend]
  simp [hi]
  omega
theorem kbmb (x : Int32) {j : Nat} (hj : j < 4) : ∃ b, b < 256 ∧ mb x j = nI b ∧ kb x j = (nI b).toInt8.toInt32 := by
  have hk : ((24 : Int32) - ((8 : Int32) * nI j)) &&& 31 = nI (24 - 8 * j) := by
    match j, hj with
    | 0, _ => decide
    | 1, _ => decide
    | 2, _ => decide
    | 3, _ => decide
  have hu : (x.toUInt32 >>> (((24 : Int32) - ((8 : Int32) * nI j)).toUInt32 &&& Int32.toUInt32 31)).toInt32.toBitVec = x.toBitVec >>> (24 - 8 * j) := by
    match j, hj with
    | 0, _ => rfl
    | 1, _ => rfl
    | 2, _ => rfl
    | 3, _ => rfl
  have hb : ∀ i, i < 32 → (mb x j).toBitVec.getLsbD i = (decide (i < 8) && x.toBitVec.getLsbD (24 - 8 * j + i)) := by
    intro i hi
    unfold mb
    rw [hk]
    have h1 : (x >>> nI (24 - 8 * j) &&& (255 : Int32)).toBitVec = (x >>> nI (24 - 8 * j)).toBitVec &&& (255 : Int32).toBitVec := rfl
    have h3 : (255 : Int32).toBitVec.getLsbD i = decide (i < 8) := by
      have : (255 : Int32) = nI (2 ^ 8 - 1) := rfl
      rw [this, nI_bit hi, Nat.testBit_two_pow_sub_one]
    rw [h1, BitVec.getLsbD_and, h3, sh_r x (by omega)]
    by_cases h8 : i < 8
    · rw [BitVec.getLsbD_sshiftRight]
      simp [h8, hi, show 24 - 8 * j + i < 32 by omega]
    · simp [h8]
  have hlt : (mb x j).toBitVec.toNat < 2 ^ 8 := by
    apply Nat.lt_pow_two_of_testBit
    intro i hi
    by_cases h32 : i < 32
    · have := hb i h32
      have h8 : decide (i < 8) = false := by simp; omega
      rw [h8] at this
      simpa [BitVec.getLsbD] using this
    · exact Nat.testBit_lt_two_pow (Nat.lt_of_lt_of_le (mb x j).toBitVec.isLt (Nat.pow_le_pow_right (by decide) (by omega)))
  have hx : mb x j = nI (mb x j).toBitVec.toNat := by
    apply Int32.toBitVec_inj.1
    rw [nI_toBV, BitVec.ofNat_toNat]
    simp
  refine ⟨(mb x j).toBitVec.toNat, hlt, hx, ?_⟩
  rw [← hx]
  unfold kb
  congr 1
  apply Int8.toBitVec_inj.1
  apply BitVec.eq_of_getLsbD_eq
  intro i hi
  rw [i8_bit _ i hi, i8_bit _ i hi, hb i (by omega), hu, BitVec.getLsbD_ushiftRight]
  simp [hi]
section B59
variable {w pp np : Nat} {iv iv' iv2 : am_I} {c : Nat → Nat → Nat} {ρ : ru_T}
theorem K_append {t : Nat} {x : Int32} (h1 : iv 0 1 = nI t) (ht : t + 4 ≤ 700) : ∃ iv', F_X9_append w x iv = some iv' ∧ iv' 0 1 = nI (t + 4) ∧ ∀ i, iv' 1 i = if t ≤ i ∧ i < t + 4 then kb x (i - t) else iv 1 i := by
  have H : ∃ y, am_loop (fun s : (Int32 × am_I) => B_X9_append_2 w x s.1 s.2) ((0 : Int32), iv) = some y ∧ y 0 1 = nI (t + 4) ∧ ∀ i, y 1 i = if t ≤ i ∧ i < t + 4 then kb x (i - t) else iv 1 i := by
    refine am_loop_n (fun m s => s.1 = nI m ∧ s.2 0 1 = nI (t + m) ∧ ∀ i, s.2 1 i = if t ≤ i ∧ i < t + m then kb x (i - t) else iv 1 i) 4 (by omega) ?_ ?_ _ ⟨rfl, h1, fun i => by show iv 1 i = _; rw [if_neg (by omega)]⟩
    · rintro m ⟨k0, iv1⟩ hm ⟨a1, a2, a3⟩
      dsimp only at a1 a2 a3
      subst a1
      left
      show ∃ s', B_X9_append_2 _ _ (nI m) iv1 = _ ∧ _
      have hke : ((x.toUInt32 >>> (((24 : Int32) - ((8 : Int32) * nI m)).toUInt32 &&& Int32.toUInt32 31)).toInt32).toInt8.toInt32 = kb x m := rfl
      unfold B_X9_append_2
      rw [if_neg (show ¬ (4 : Int32) ≤ nI m from nI_ge hm (by decide)), a2, if_neg (show ¬ Int32.ofNat 700 ≤ nI (t + m) from nI_ge (show t + m < 700 by omega) (by decide)), if_pos (vb (show t + m < 700 by omega) (by decide)), if_pos (kb_rt _), hke, am_cl (by omega)]
      have e1 : am_w iv1 1 (t + m) (kb x m) 0 1 = nI (t + m) := by rw [am_w_other _ _ _ (by decide)]; exact a2
      rw [e1]
      refine ⟨_, rfl, nI_1 m, by dsimp only; rw [am_w_r, if_pos rfl, if_pos rfl, nI_1]; rfl, fun i => ?_⟩
      show am_w (am_w iv1 1 (t + m) (kb x m)) 0 1 (nI (t + m) + 1) 1 i = _
      rw [am_w_other _ _ _ (by decide), am_w_r, if_pos rfl, a3 i]
      by_cases e : i = t + m
      · rw [if_pos e, if_pos (by omega), e, Nat.add_sub_cancel_left]
      · rw [if_neg e]
        by_cases q : t ≤ i ∧ i < t + m
        · rw [if_pos q, if_pos (by omega)]
        · rw [if_neg q, if_neg (by omega)]
    · rintro ⟨k0, iv1⟩ ⟨a1, a2, a3⟩
      dsimp only at a1 a2 a3
      subst a1
      refine ⟨iv1, ?_, a2, a3⟩
      show B_X9_append_2 _ _ _ iv1 = _
      unfold B_X9_append_2
      rw [if_pos (show (4 : Int32) ≤ nI 4 by decide)]
  obtain ⟨y, y1, y2, y3⟩ := H
  exact ⟨y, by unfold F_X9_append; rw [y1, am_o1_s], y2, y3⟩
def fsel (x1 x2 x3 x4 x5 : Int32) (k : Nat) : Int32 := if k < 4 then x1 else if k < 8 then x2 else if k < 12 then x3 else if k < 16 then x4 else x5
theorem P_feedL {t : Nat} {x1 x2 x3 x4 x5 : Int32} (h1 : iv 54 18 = nI t) (ht : t + 20 ≤ 700) : ∃ y, am_loop (fun s : (Int32 × am_I) => B_X10_feed_23 x1 x2 x3 x4 x5 s.1 s.2) ((0 : Int32), iv) = some y ∧ am_fr [71] [(54, 18)] iv y ∧ y 54 18 = nI (t + 20) ∧ ∀ i, y 71 i = if t ≤ i ∧ i < t + 20 then mb (fsel x1 x2 x3 x4 x5 (i - t)) ((i - t) % 4) else iv 71 i := by
  refine am_loop_n (fun m s => s.1 = nI m ∧ am_fr [71] [(54, 18)] iv s.2 ∧ s.2 54 18 = nI (t + m) ∧ ∀ i, s.2 71 i = if t ≤ i ∧ i < t + m then mb (fsel x1 x2 x3 x4 x5 (i - t)) ((i - t) % 4) else iv 71 i) 20 (by omega) ?_ ?_ _ ⟨rfl, am_fr.rf _ _ _, h1, fun i => by show iv 71 i = _; rw [if_neg (by omega)]⟩
  · rintro m ⟨k0, iv1⟩ hm ⟨a1, a2, a3, a4⟩
    dsimp only at a1 a2 a3 a4
    subst a1
    left
    show ∃ s', B_X10_feed_23 _ _ _ _ _ (nI m) iv1 = _ ∧ _
    have hrem : nI m - nI m / (4 : Int32) * (4 : Int32) = nI (m % 4) := nI_rem (by omega) (by decide)
    have J : ∀ z, J_X10_feed_76 x1 x2 x3 x4 x5 (nI m) z iv1 = some (.inl (nI m + 1, am_w (am_w iv1 71 (t + m) (mb z (m % 4))) 54 18 (nI (t + m) + 1))) := by
      intro z
      have hme : (z >>> (((24 : Int32) - ((8 : Int32) * nI (m % 4))) &&& 31)) &&& (255 : Int32) = mb z (m % 4) := rfl
      unfold J_X10_feed_76
      rw [hrem, a3, if_pos (vb (show t + m < 700 by omega) (by decide)), hme, am_cl (by omega), am_w_other _ _ _ (show (54 : Nat) ≠ 71 by decide), a3]
    have hB : B_X10_feed_23 x1 x2 x3 x4 x5 (nI m) iv1 = some (.inl (nI m + 1, am_w (am_w iv1 71 (t + m) (mb (fsel x1 x2 x3 x4 x5 m) (m % 4))) 54 18 (nI (t + m) + 1))) := by
      unfold B_X10_feed_23 fsel
      rw [if_neg (show ¬ (20 : Int32) ≤ nI m from nI_ge hm (by decide)), J, J, J, J, J]
      by_cases q1 : m < 4
      · rw [if_neg (show ¬ (4 : Int32) ≤ nI m from nI_ge q1 (by decide)), if_pos q1]
      · rw [if_pos (show (4 : Int32) ≤ nI m from nI_le (show 4 ≤ m by omega) (by omega)), if_neg q1]
        by_cases q2 : m < 8
        · rw [if_neg (show ¬ (8 : Int32) ≤ nI m from nI_ge q2 (by decide)), if_pos q2]
        · rw [if_pos (show (8 : Int32) ≤ nI m from nI_le (show 8 ≤ m by omega) (by omega)), if_neg q2]
          by_cases q3 : m < 12
          · rw [if_neg (show ¬ (12 : Int32) ≤ nI m from nI_ge q3 (by decide)), if_pos q3]
          · rw [if_pos (show (12 : Int32) ≤ nI m from nI_le (show 12 ≤ m by omega) (by omega)), if_neg q3]
            by_cases q4 : m < 16
            · rw [if_neg (show ¬ (16 : Int32) ≤ nI m from nI_ge q4 (by decide)), if_pos q4]
            · rw [if_pos (show (16 : Int32) ≤ nI m from nI_le (show 16 ≤ m by omega) (by omega)), if_neg q4]
    rw [hB]
    refine ⟨_, rfl, nI_1 m, (a2.a (by simp)).f (by simp), by dsimp only; rw [am_w_r, if_pos rfl, if_pos rfl, nI_1]; rfl, fun i => ?_⟩
    show am_w (am_w iv1 71 (t + m) (mb (fsel x1 x2 x3 x4 x5 m) (m % 4))) 54 18 (nI (t + m) + 1) 71 i = _
    rw [am_w_other _ _ _ (by decide), am_w_r, if_pos rfl, a4 i]
    by_cases e : i = t + m
    · rw [if_pos e, if_pos (by omega), e, Nat.add_sub_cancel_left]
    · rw [if_neg e]
      by_cases q : t ≤ i ∧ i < t + m
      · rw [if_pos q, if_pos (by omega)]
      · rw [if_neg q, if_neg (by omega)]
  · rintro ⟨k0, iv1⟩ ⟨a1, a2, a3, a4⟩
    dsimp only at a1 a2 a3 a4
    subst a1
    refine ⟨iv1, ?_, a2, a3, a4⟩
    show B_X10_feed_23 _ _ _ _ _ _ iv1 = _
    unfold B_X10_feed_23
    rw [if_pos (show (20 : Int32) ≤ nI 20 by decide)]
theorem C_feed (h : Rel w pp np iv c ρ) (hw : w = 2 ∨ w = 22) (hp : 51 ≤ pp ∧ (pp < 54 ∨ 89 ≤ pp)) (x1 x2 x3 x4 x5 : Int32) : ∃ v iv1 iv2, F_X9_feed w x1 x2 x3 x4 x5 iv = some (v, iv1) ∧ F_X10_feed x1 x2 x3 x4 x5 iv1 = some (v, iv2) ∧ Rel w pp np iv2 c ρ := by
  obtain ⟨t, t1, t2, t3, t4⟩ := h.2.2.2.2.1
  have e20 : nI t + (20 : Int32) = nI (t + 20) := nI_add t 20
  by_cases ht : t + 20 ≤ 700
  · obtain ⟨iva, ea, a1, a2⟩ := K_append (w := w) (x := x1) t2 (by omega)
    obtain ⟨ivb, eb, b1, b2⟩ := K_append (w := w) (x := x2) a1 (by omega)
    obtain ⟨ivc, ec, c1, c2⟩ := K_append (w := w) (x := x3) b1 (by omega)
    obtain ⟨ivd, ed, d1, d2⟩ := K_append (w := w) (x := x4) c1 (by omega)
    obtain ⟨ive, ee, f1, f2⟩ := K_append (w := w) (x := x5) d1 (by omega)
    have e1 : F_X9_feed w x1 x2 x3 x4 x5 iv = some (nI (t + 20), ive) := by
      unfold F_X9_feed
      rw [t2, e20, if_pos (show nI (t + 20) ≤ 700 from nI_le ht (by decide)), ea, am_o1_s, eb, am_o1_s, ec, am_o1_s, ed, am_o1_s, ee, am_o1_s, f1]
    have F1 := X_X9_feed e1
    have h18 : am_w ive 54 3 0 54 18 = nI t := by rw [am_code1 _ (by decide), F1 54 18 (by simp) (by simp)]; exact t3
    obtain ⟨y, y1, y2, y3, y4⟩ := P_feedL (iv := am_w ive 54 3 0) (x1 := x1) (x2 := x2) (x3 := x3) (x4 := x4) (x5 := x5) h18 ht
    have e2 : F_X10_feed x1 x2 x3 x4 x5 ive = some (nI (t + 20), y) := by
      unfold F_X10_feed
      rw [h18, e20, if_pos (show nI (t + 20) ≤ 700 from nI_le ht (by decide)), y1, am_o1_s, y3]
    have F2 := X_X10_feed e2
    have F : am_fr [1, 71] [(0, 1), (54, 18), (54, 3)] iv y := (F1.up (by simp) (by simp)).tr (F2.up (by simp) (by simp))
    have G : ∀ a j, a ≠ 0 → a ≠ 1 → a ≠ 71 → a ≠ 54 → y a j = iv a j := fun a j _ _ _ _ => F a j (by simp; omega) (by simp; omega)
    refine ⟨nI (t + 20), ive, y, e1, e2, ?_⟩
    refine ⟨h.1.fr (fun a a1 a2 => funext fun j => G a j (by omega) (by omega) (by omega) (by omega)), h.2.1.fr (fun k hk => funext fun j => G _ j (by omega) (by omega) (by omega) (by omega)) (funext fun j => G _ j (by omega) (by omega) (by omega) (by omega)), h.2.2.1.fr (fun a ha => funext fun j => G a j (by omega) (by omega) (by omega) (by omega)) (fun k hk => F 54 _ (by simp) (by simp; omega)), ?_, ?_, ?_, ?_⟩
    · obtain ⟨k, k1, k2, k3⟩ := h.2.2.2.1
      exact ⟨k, by rw [F 0 7 (by simp) (by simp)]; exact k1, by rw [F 54 48 (by simp) (by simp)]; exact k2, fun hk => (k3 hk).fr (fun a ha => funext fun j => G a j (by omega) (by omega) (by omega) (by omega)) (fun k hk => F 54 _ (by simp) (by simp; omega))⟩
    · refine ⟨t + 20, ht, ?_, y3, fun i hi => ?_⟩
      · rw [F2 0 1 (by simp) (by simp)]; exact f1
      · have yc : y 1 i = ive 1 i := F2 1 i (by simp) (by simp)
        have yo : am_w ive 54 3 0 71 i = iv 71 i := by rw [am_w_other _ _ _ (by decide), F1 71 i (by simp) (by simp)]
        rw [yc, y4 i, yo]
        by_cases hit : i < t
        · rw [if_neg (by omega), f2 i, if_neg (by omega), d2 i, if_neg (by omega), c2 i, if_neg (by omega), b2 i, if_neg (by omega), a2 i, if_neg (by omega)]
          exact t4 i hit
        · rw [if_pos (by omega)]
          obtain ⟨q, rfl⟩ : ∃ q, i = t + q := ⟨i - t, by omega⟩
          rw [Nat.add_sub_cancel_left]
          have hk : ive 1 (t + q) = kb (fsel x1 x2 x3 x4 x5 q) (q % 4) := by
            unfold fsel
            rw [f2, d2, c2, b2, a2]
            by_cases q1 : q < 4
            · rw [if_neg (by omega), if_neg (by omega), if_neg (by omega), if_neg (by omega), if_pos (by omega), if_pos q1]; congr 1; omega
            · by_cases q2 : q < 8
              · rw [if_neg (by omega), if_neg (by omega), if_neg (by omega), if_pos (by omega), if_neg q1, if_pos q2]; congr 1; omega
              · by_cases q3 : q < 12
                · rw [if_neg (by omega), if_neg (by omega), if_pos (by omega), if_neg q1, if_neg q2, if_pos q3]; congr 1; omega
                · by_cases q4 : q < 16
                  · rw [if_neg (by omega), if_pos (by omega), if_neg q1, if_neg q2, if_neg q3, if_pos q4]; congr 1; omega
                  · rw [if_pos (by omega), if_neg q1, if_neg q2, if_neg q3, if_neg q4]; congr 1; omega
          obtain ⟨b, g1, g2, g3⟩ := kbmb (fsel x1 x2 x3 x4 x5 q) (show q % 4 < 4 by omega)
          exact ⟨b, g1, g2, by rw [hk]; exact g3⟩
    · rw [F 0 2 (by simp) (by simp), F 54 27 (by simp) (by simp)]; exact h.2.2.2.2.2.1
    · have hr := h.2.2.2.2.2.2
      unfold Rw at hr ⊢
      rw [F 0 10 (by simp) (by simp), F 54 45 (by simp) (by simp)]
      rcases hr with hr | ⟨L, l1, l2, l3, l4, l5⟩
      · exact Or.inl hr
      · refine Or.inr ⟨L, l1, l2, l3, l4, fun i hi => ?_⟩
        rw [G pp i (by omega) (by omega) (by omega) (by omega), G 81 i (by omega) (by omega) (by omega) (by omega)]
        exact l5 i hi
  · refine ⟨-1, iv, am_w iv 54 3 0, ?_, ?_, h.code hw hp 0⟩
    · unfold F_X9_feed
      rw [t2, e20, if_neg (show ¬ nI (t + 20) ≤ 700 from nI_ge (show 700 < t + 20 by omega) (by omega))]
    · unfold F_X10_feed
      rw [am_code1 _ (by decide), t3, e20, if_neg (show ¬ nI (t + 20) ≤ 700 from nI_ge (show 700 < t + 20 by omega) (by omega))]
end B59
