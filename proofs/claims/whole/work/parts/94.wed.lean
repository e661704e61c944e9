/-! two homes married: the model's side -/
def lw (iv : am_I) (a b : Nat) : Nat → am_I
  | 0 => iv
  | k + 1 => if lw iv a b k 64 k = nI b then am_w (am_w (lw iv a b k) 83 k (lw iv a b k 64 k)) 64 k (nI a) else am_w (lw iv a b k) 83 k (lw iv a b k 64 k)
theorem lw_r (iv : am_I) (a b x j : Nat) : ∀ k, lw iv a b k x j = if x = 83 ∧ j < k then iv 64 j else if x = 64 ∧ j < k then (if iv 64 j = nI b then nI a else iv 64 j) else iv x j
  | 0 => by rw [if_neg (by omega), if_neg (by omega)]; rfl
  | k + 1 => by
    have ek : lw iv a b k 64 k = iv 64 k := by rw [lw_r iv a b 64 k k, if_neg (by omega), if_neg (by omega)]
    have q : (j < k + 1) = (j < k ∨ j = k) := propext (by omega)
    show (if lw iv a b k 64 k = nI b then am_w (am_w (lw iv a b k) 83 k (lw iv a b k 64 k)) 64 k (nI a) else am_w (lw iv a b k) 83 k (lw iv a b k 64 k)) x j = _
    rw [ek]
    simp only [q]
    by_cases z : iv 64 k = nI b
    · rw [if_pos z, am_w_r, am_w_r, lw_r iv a b x j k]
      by_cases x83 : x = 83 <;> by_cases x64 : x = 64 <;> by_cases jk : j = k <;> by_cases jl : j < k <;> first | omega | (simp [x83, x64, jk, jl, z]; done)
    · rw [if_neg z, am_w_r, lw_r iv a b x j k]
      by_cases x83 : x = 83 <;> by_cases x64 : x = 64 <;> by_cases jk : j = k <;> by_cases jl : j < k <;> first | omega | (simp [x83, x64, jk, jl, z]; done)
def lq (iv : am_I) : Nat → am_I
  | 0 => iv
  | k + 1 => am_w (lq iv k) 64 k (lq iv k 83 k)
theorem lq_r (iv : am_I) (x j : Nat) : ∀ k, lq iv k x j = if x = 64 ∧ j < k then iv 83 j else iv x j
  | 0 => by rw [if_neg (by omega)]; rfl
  | k + 1 => by
    have ek : lq iv k 83 k = iv 83 k := by rw [lq_r iv 83 k k, if_neg (by omega)]
    have q : (j < k + 1) = (j < k ∨ j = k) := propext (by omega)
    show am_w (lq iv k) 64 k (lq iv k 83 k) x j = _
    rw [ek, am_w_r, lq_r iv x j k]
    simp only [q]
    by_cases x64 : x = 64 <;> by_cases jk : j = k <;> by_cases jl : j < k <;> first | omega | (simp [x64, jk, jl]; done)
section B94
variable {iv : am_I} {c : Nat → Nat → Nat} {ρ : ru_T} {a b : Nat}
theorem L_125 {i3 i4 i5 : Int32} (W : am_I) : am_loop (fun s : (Int32 × am_I) => B_X10_married_125 (nI a) (nI b) i3 i4 i5 s.1 s.2) ((0 : Int32), W) = some (lw W a b 5) := by
  refine am_loop_seq (fun k => (nI k, lw W a b k)) 5 (by decide) rfl (fun k hk => ?_) ?_
  · show B_X10_married_125 (nI a) (nI b) i3 i4 i5 (nI k) (lw W a b k) = some (.inl (nI (k + 1), lw W a b (k + 1)))
    have h5 : vp_b (nI k) 5 = true := vb hk (by decide)
    have h10 : vp_b (nI k) 10 = true := vb (show k < 10 by omega) (by decide)
    unfold B_X10_married_125
    rw [if_neg (show ¬ (5 : Int32) ≤ nI k from nI_ge hk (by decide)), if_pos h10, if_pos h5, if_pos h10, am_cl (by omega), am_w_other _ _ _ (show (64 : Nat) ≠ 83 by decide), if_pos h10, nI_1]
    show _ = some (Sum.inl (nI (k + 1), if lw W a b k 64 k = nI b then am_w (am_w (lw W a b k) 83 k (lw W a b k 64 k)) 64 k (nI a) else am_w (lw W a b k) 83 k (lw W a b k 64 k)))
    by_cases z : lw W a b k 64 k = nI b
    · rw [if_pos z, if_pos z]
    · rw [if_neg z, if_neg z]
  · show B_X10_married_125 (nI a) (nI b) i3 i4 i5 (nI 5) (lw W a b 5) = _
    unfold B_X10_married_125
    rw [if_pos (show (5 : Int32) ≤ nI 5 by decide)]
theorem L_210 {i3 i6 : Int32} (W : am_I) : am_loop (fun s : (Int32 × am_I) => B_X10_married_210 i3 i6 s.1 s.2) ((0 : Int32), W) = some (lq W 5) := by
  refine am_loop_seq (fun k => (nI k, lq W k)) 5 (by decide) rfl (fun k hk => ?_) ?_
  · show B_X10_married_210 i3 i6 (nI k) (lq W k) = some (.inl (nI (k + 1), am_w (lq W k) 64 k (lq W k 83 k)))
    have h5 : vp_b (nI k) 5 = true := vb hk (by decide)
    have h10 : vp_b (nI k) 10 = true := vb (show k < 10 by omega) (by decide)
    unfold B_X10_married_210
    rw [if_neg (show ¬ (5 : Int32) ≤ nI k from nI_ge hk (by decide)), if_pos h5, if_pos h10, am_cl (by omega), nI_1]
  · show B_X10_married_210 i3 i6 (nI 5) (lq W 5) = _
    unfold B_X10_married_210
    rw [if_pos (show (5 : Int32) ≤ nI 5 by decide)]
/-- how soon all have bread: both sides -/
theorem A_bread {o f sl : Nat} {r : Int32} {N p : Nat} {st par lab : Nat → Nat} (hM : RM iv c ρ) (h29 : iv 54 29 = nI o) (h31 : iv 54 31 = nI f) (hol : o < 2 ^ cy_n c) (hf : f < 2 ^ cy_p c) (hsl : sl < 1024)
    (hb : bf (ks c ρ sl (kbr c)) (cy_n c) (kh c (kbr c) (32 * o + f)) N st par lab p) (hr : (r = -1 ∧ N * 16 ≤ p ∧ ∀ j, j < N → (fun s => decide (cy_wan c &&& (s / 2 ^ cy_n c) = cy_wan c)) (st j) = false) ∨ ∃ j, j < N ∧ r = nI j ∧ (fun s => decide (cy_wan c &&& (s / 2 ^ cy_n c) = cy_wan c)) (st j) = true ∧ ∀ i, i < j → (fun s => decide (cy_wan c &&& (s / 2 ^ cy_n c) = cy_wan c)) (st i) = false) :
    (r = -1 ∧ ∃ iv', F_X10_soonBread (nI sl) iv = some (-1, iv')) ∨ ∃ j, j < N ∧ r = nI j ∧ ∃ iv', F_X10_soonBread (nI sl) iv = some (nI (bo par lab j).length, iv') := by
  obtain ⟨hc, hro, hC, hR⟩ := hM
  have hn := hc.1
  have h5 := cy_p5 hc.2.2.1
  have hg := mg_bread hc
  generalize (fun s => decide (cy_wan c &&& (s / 2 ^ cy_n c) = cy_wan c)) = g at hr hg
  obtain ⟨iv', N1, st1, par1, lab1, b1, hN1, v1, hh⟩ := P_soonBread (sl := sl) hC hc hR hro h29 h31 hol (by omega) hsl
  have hV : kV c (32 * o + f) := ⟨by omega, by omega⟩
  rcases hr with ⟨r1, r2, r3⟩ | ⟨j, j1, j2, j3, j4⟩
  · left
    refine ⟨r1, iv', ?_⟩
    rcases hh with ⟨e, -⟩ | ⟨j, q1, q2, -⟩
    · exact e
    · obtain ⟨k1, j2, k2, k3⟩ := bf_none (V := kV c) hn (md_V hc) (ks_hom hc) hV b1 hb r2 q1
      rw [hg _ k1, ← k3, r3 j2 k2] at q2
      cases q2
  · right
    obtain ⟨m1, k1, k2, k3, k4⟩ := bf_same (V := kV c) hn (md_V hc) (ks_hom hc) hV b1 (Nat.le_refl _) hb hg j1 j3 j4
    refine ⟨j, j1, j2, iv', ?_⟩
    rcases hh with ⟨-, e⟩ | ⟨q, q1, q2, q3, q4⟩
    · rw [e m1 k1] at k2; cases k2
    · have hq : q = m1 := by
        by_cases lt : q < m1
        · rw [k3 q lt] at q2; cases q2
        · by_cases lt2 : m1 < q
          · rw [q3 m1 lt2] at k2; cases k2
          · omega
      subst hq
      rw [k4] at q4
      exact q4
theorem mar_n : cy_n (cy_mar c a b) = cy_n c := mar_o (by decide) (by omega)
theorem mar_p : cy_p (cy_mar c a b) = cy_p c := mar_o (by decide) (by omega)
theorem mar_nr : cy_r (cy_mar c a b) = cy_r c := mar_o (by decide) (by omega)
theorem mar_wan : cy_wan (cy_mar c a b) = cy_wan c := by
  unfold cy_wan
  rw [mar_p]
  congr 1
theorem mar_kbr : kbr (cy_mar c a b) = kbr c := by unfold kbr; rw [mar_wan]
theorem mar_kM (br : Bool) : kM (cy_mar c a b) br = kM c br := by unfold kM; rw [mar_n, mar_p]
theorem mar_kh (br : Bool) (k : Nat) : kh (cy_mar c a b) br k = kh c br k := by unfold kh; rw [mar_n]
/-- the model's rows, married -/
theorem mar_RM {W : am_I} (hM : RM iv c ρ) (ha : a < cy_n c) (hb : b < cy_n c) (hm : cy_mry c a b = true) (hW : W = am_w (am_w (am_w iv 60 a (if iv 60 b < iv 60 a then iv 60 b else iv 60 a)) 62 a (if iv 62 a < iv 62 b then iv 62 b else iv 62 a)) 63 a (1 : Int32)) : RM (lw W a b 5) (cy_mar c a b) ρ := by
  obtain ⟨hc, hro, ⟨h1, h2, h3⟩, hR⟩ := hM
  have hok2 := mar_ok hc ha hb hm
  obtain ⟨a1, a2, a3, a4, a5, a6, a7, a8, a9⟩ := hc
  obtain ⟨p1, p2, p3, p4, p5⟩ := h2 a ha
  obtain ⟨q1, q2, q3, q4, q5⟩ := h2 b hb
  obtain ⟨d1, d2, d3, d4, d5, d6⟩ := a8 a ha
  obtain ⟨e1, e2, e3, e4, e5, e6⟩ := a8 b hb
  have mn : (if nI (cy_co c b) < nI (cy_co c a) then nI (cy_co c b) else nI (cy_co c a)) = nI (if cy_co c b < cy_co c a then cy_co c b else cy_co c a) := by
    rw [nlt (by omega) (by omega)]; split <;> rfl
  have mx : (if nI (cy_le c a) < nI (cy_le c b) then nI (cy_le c b) else nI (cy_le c a)) = nI (if cy_le c a < cy_le c b then cy_le c b else cy_le c a) := by
    rw [nlt (by omega) (by omega)]; split <;> rfl
  rw [p2, q2, p4, q4, mn, mx] at hW
  have O : ∀ x j, x ≠ 60 → x ≠ 62 → x ≠ 63 → x ≠ 64 → x ≠ 83 → lw W a b 5 x j = iv x j := fun x j z0 z2 z3 z4 z8 => by
    rw [lw_r, if_neg (by omega), if_neg (by omega), hW, am_w_other _ _ _ z3, am_w_other _ _ _ z2, am_w_other _ _ _ z0]
  have W64 : ∀ j, W 64 j = iv 64 j := fun j => by rw [hW, am_w_other _ _ _ (by decide), am_w_other _ _ _ (by decide), am_w_other _ _ _ (by decide)]
  refine ⟨hok2, ?_, ⟨?_, fun j hj => ?_, fun p hp => ?_⟩, ?_⟩
  · rw [mar_nr]; exact hro
  · rw [O _ _ (by decide) (by decide) (by decide) (by decide) (by decide), O _ _ (by decide) (by decide) (by decide) (by decide) (by decide), O _ _ (by decide) (by decide) (by decide) (by decide) (by decide), O _ _ (by decide) (by decide) (by decide) (by decide) (by decide), O _ _ (by decide) (by decide) (by decide) (by decide) (by decide), O _ _ (by decide) (by decide) (by decide) (by decide) (by decide), O _ _ (by decide) (by decide) (by decide) (by decide) (by decide), O _ _ (by decide) (by decide) (by decide) (by decide) (by decide), O _ _ (by decide) (by decide) (by decide) (by decide) (by decide), O _ _ (by decide) (by decide) (by decide) (by decide) (by decide)]
    exact h1
  · rw [mar_n] at hj
    obtain ⟨t1, t2, t3, t4, t5⟩ := h2 j hj
    rw [show cy_kd (cy_mar c a b) j = cy_kd c j from mar_o (by decide) (by omega), show cy_st (cy_mar c a b) j = cy_st c j from mar_o (by decide) (by omega)]
    refine ⟨by rw [O _ _ (by decide) (by decide) (by decide) (by decide) (by decide)]; exact t1, ?_, by rw [O _ _ (by decide) (by decide) (by decide) (by decide) (by decide)]; exact t3, ?_, ?_⟩
    · rw [lw_r, if_neg (by omega), if_neg (by omega), hW, am_w_other _ _ _ (by decide), am_w_other _ _ _ (by decide), am_w_r, if_pos rfl]
      by_cases ej : j = a
      · subst ej; rw [if_pos rfl]; exact congrArg nI mar_a.1.symm
      · rw [if_neg ej, show cy_co (cy_mar c a b) j = cy_co c j from mar_o (by decide) (by omega)]; exact t2
    · rw [lw_r, if_neg (by omega), if_neg (by omega), hW, am_w_other _ _ _ (by decide), am_w_r, if_pos rfl, am_w_other _ _ _ (by decide)]
      by_cases ej : j = a
      · subst ej; rw [if_pos rfl]; exact congrArg nI mar_a.2.2.symm
      · rw [if_neg ej, show cy_le (cy_mar c a b) j = cy_le c j from mar_o (by decide) (by omega)]; exact t4
    · rw [lw_r, if_neg (by omega), if_neg (by omega), hW, am_w_r, if_pos rfl, am_w_other _ _ _ (by decide), am_w_other _ _ _ (by decide)]
      by_cases ej : j = a
      · subst ej; rw [if_pos rfl]; exact congrArg nI mar_a.2.1.symm
      · rw [if_neg ej, show cy_wi (cy_mar c a b) j = cy_wi c j from mar_o (by decide) (by omega)]; exact t5
  · rw [mar_p] at hp
    obtain ⟨t1, t2, t3⟩ := h3 p hp
    have hh := (a9 p hp).1
    refine ⟨?_, ?_, ?_⟩
    · rw [lw_r, if_neg (by omega), if_pos ⟨rfl, by omega⟩, W64, t1, neq (by omega) (by omega), show cy_ho (cy_mar c a b) p = _ from mar_6]
      by_cases z : cy_ho c p = b
      · rw [if_pos z, if_pos z]
      · rw [if_neg z, if_neg z]
    · rw [O _ _ (by decide) (by decide) (by decide) (by decide) (by decide), t2]
      unfold cy_shI
      rw [show cy_sh (cy_mar c a b) p = cy_sh c p from mar_o (by decide) (by omega)]
    · rw [O _ _ (by decide) (by decide) (by decide) (by decide) (by decide), t3, show cy_we (cy_mar c a b) p = cy_we c p from mar_o (by decide) (by omega)]
  · rw [mar_nr]
    refine ⟨fun r hr => ?_, fun k hk => ?_⟩
    · rw [O _ _ (by decide) (by decide) (by decide) (by decide) (by decide), O _ _ (by decide) (by decide) (by decide) (by decide) (by decide)]; exact hR.1 r hr
    · rw [O _ _ (by decide) (by decide) (by decide) (by decide) (by decide)]; exact hR.2 k hk
theorem P_wed {o f sl L : Nat} {r : Int32} {N p : Nat} {st par lab : Nat → Nat} (hM : RM iv c ρ) (ha : a < cy_n c) (hb' : b < cy_n c) (hm : cy_mry c a b = true) (hL : L < 65536) (hN : N ≤ 32768) (h29 : iv 54 29 = nI o) (h31 : iv 54 31 = nI f) (h30 : iv 54 30 = nI sl) (hol : o < 2 ^ cy_n c) (hf : f < 2 ^ cy_p c) (hsl : sl < 2 ^ cy_n c)
    (hb : bf (ks (cy_mar c a b) ρ (sl ||| 2 ^ b) (kbr (cy_mar c a b))) (cy_n (cy_mar c a b)) (kh (cy_mar c a b) (kbr (cy_mar c a b)) (32 * o + f)) N st par lab p) (hr : (r = -1 ∧ N * 16 ≤ p ∧ ∀ j, j < N → (fun s => decide (cy_wan (cy_mar c a b) &&& (s / 2 ^ cy_n (cy_mar c a b)) = cy_wan (cy_mar c a b))) (st j) = false) ∨ ∃ j, j < N ∧ r = nI j ∧ (fun s => decide (cy_wan (cy_mar c a b) &&& (s / 2 ^ cy_n (cy_mar c a b)) = cy_wan (cy_mar c a b))) (st j) = true ∧ ∀ i, i < j → (fun s => decide (cy_wan (cy_mar c a b) &&& (s / 2 ^ cy_n (cy_mar c a b)) = cy_wan (cy_mar c a b))) (st i) = false) :
    ∃ iv5, (∀ x j, 58 ≤ x → x < 70 → iv5 x j = iv x j) ∧ iv5 54 3 = iv 54 3 ∧ ((r = -1 ∧ J_X10_married_48 (nI a) (nI b) (nI L) iv = some (-101, iv5)) ∨ ∃ j, j < N ∧ r = nI j ∧ J_X10_married_48 (nI a) (nI b) (nI L) iv = some (nI (bo par lab j).length - nI L, iv5)) := by
  have hn := hM.1.1
  have h10 := cy_p10 hn
  have hav : vp_b (nI a) 20 = true := vb (show a < 20 by omega) (by decide)
  have hbv : vp_b (nI b) 20 = true := vb (show b < 20 by omega) (by decide)
  have h2b : 2 ^ b < 2 ^ cy_n c := am_p2 hb'
  have hsb : sl ||| 2 ^ b < 2 ^ cy_n c := am_orlt hsl h2b
  generalize hW : am_w (am_w (am_w iv 60 a (if iv 60 b < iv 60 a then iv 60 b else iv 60 a)) 62 a (if iv 62 a < iv 62 b then iv 62 b else iv 62 a)) 63 a (1 : Int32) = W
  have hRM := mar_RM hM ha hb' hm hW.symm
  have W54 : ∀ j, lw W a b 5 54 j = iv 54 j := fun j => by
    rw [lw_r, if_neg (by omega), if_neg (by omega), ← hW, am_w_other _ _ _ (by decide), am_w_other _ _ _ (by decide), am_w_other _ _ _ (by decide)]
  have hAB := A_bread (sl := sl ||| 2 ^ b) hRM (by rw [W54]; exact h29) (by rw [W54]; exact h31) (by rw [mar_n]; exact hol) (by rw [mar_p]; exact hf) (by omega) hb hr
  have GO : ∀ (v19 : Int32) (w19 : am_I), F_X10_soonBread (nI (sl ||| 2 ^ b)) (lw W a b 5) = some (v19, w19) → ∃ iv5, (∀ x j, 58 ≤ x → x < 70 → iv5 x j = iv x j) ∧ iv5 54 3 = iv 54 3 ∧ J_X10_married_48 (nI a) (nI b) (nI L) iv = (if v19 = (-1 : Int32) then some ((-101 : Int32), iv5) else some ((v19 - nI L), iv5)) := by
    intro v19 w19 e
    have f := X_X10_soonBread e
    have fo : ∀ x j, 54 < x → x < 75 ∨ x = 83 → w19 x j = lw W a b 5 x j := fun x j x1 x2 => f x j (by simp; omega) (by simp; omega)
    refine ⟨lq (am_w (am_w (am_w w19 60 a (iv 60 a)) 62 a (iv 62 a)) 63 a (0 : Int32)) 5, fun x j x1 x2 => ?_, ?_, ?_⟩
    · rw [lq_r]
      have l83 : ∀ i, i < 5 → lw W a b 5 83 i = iv 64 i := fun i hi => by
        rw [lw_r, if_pos ⟨rfl, hi⟩, ← hW, am_w_other _ _ _ (by decide), am_w_other _ _ _ (by decide), am_w_other _ _ _ (by decide)]
      by_cases c1 : x = 64 ∧ j < 5
      · rw [if_pos c1, am_w_other _ _ _ (by decide), am_w_other _ _ _ (by decide), am_w_other _ _ _ (by decide), fo 83 j (by omega) (by omega), l83 j c1.2, c1.1]
      · rw [if_neg c1]
        have base : w19 x j = W x j := by rw [fo x j (by omega) (by omega), lw_r, if_neg (by omega), if_neg c1]
        simp only [am_w_r]
        rw [base, ← hW]
        simp only [am_w_r]
        have w63 : iv 63 a = 0 := by
          have := (hM.2.2.1.2.1 a ha).2.2.2.2
          rw [(mry_i hm).2.2.1] at this
          exact this
        by_cases x0 : x = 60
        · subst x0; by_cases ja : j = a
          · subst ja; simp
          · simp [ja]
        · by_cases x2' : x = 62
          · subst x2'; by_cases ja : j = a
            · subst ja; simp
            · simp [ja]
          · by_cases x3 : x = 63
            · subst x3; by_cases ja : j = a
              · subst ja; simp [w63]
              · simp [ja]
            · simp [x0, x2', x3]
    · rw [lq_r, if_neg (by omega), am_w_other _ _ _ (by decide), am_w_other _ _ _ (by decide), am_w_other _ _ _ (by decide), f 54 3 (by simp) (by simp), W54]
    · unfold J_X10_married_48
      rw [if_neg (cy_m1 hL)]
      simp only [hav, hbv, if_true, am_cl (show a < 65536 by omega), am_cl (show b < 65536 by omega), am_w_other _ _ _ (show (62 : Nat) ≠ 60 by decide)]
      rw [hW, L_125, am_o1_s, W54, h30, am_shl1 b (by omega), fa_or, e, am_o2_s, L_210, am_o1_s]
  rcases hAB with ⟨r1, w19, e⟩ | ⟨j, j1, j2, w19, e⟩
  · obtain ⟨iv5, g1, g3, g2⟩ := GO _ _ e
    refine ⟨iv5, g1, g3, Or.inl ⟨r1, ?_⟩⟩
    rw [g2, if_pos (show (-1 : Int32) = -1 from rfl)]
  · obtain ⟨iv5, g1, g3, g2⟩ := GO _ _ e
    refine ⟨iv5, g1, g3, Or.inr ⟨j, j1, j2, ?_⟩⟩
    have hlen := bo_ln (par := par) (lab := lab) j
    rw [g2, if_neg (cy_m1 (by omega))]
end B94
