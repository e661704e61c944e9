/-! the model: the soonest, the row, what can ever be out -/
def mg (c : Nat → Nat → Nat) (what d k : Nat) : Bool := if what = 2 then decide (cy_wan c &&& (k % 32) = cy_wan c) else if what = 0 then (k / 32).testBit d else !(k / 32).testBit d
theorem am_wn : ∀ a, a < 32 → ∀ b, b < 32 → decide (nI a &&& (nI b ^^^ (-1 : Int32)) = 0) = decide (a &&& b = a) := by decide +kernel
def cy_or (f : Nat → Nat) : Nat → Nat
  | 0 => 0
  | n + 1 => cy_or f n ||| f n
theorem cy_or_t (f : Nat → Nat) (i : Nat) : ∀ n, (cy_or f n).testBit i = cy_any (fun j => (f j).testBit i) n
  | 0 => by simp [cy_or, cy_any]
  | n + 1 => by unfold cy_or cy_any; rw [Nat.testBit_or, cy_or_t f i n]
theorem cy_or_lt {f : Nat → Nat} {k : Nat} : ∀ n, (∀ j, j < n → f j < 2 ^ k) → cy_or f n < 2 ^ k
  | 0, _ => Nat.two_pow_pos _
  | n + 1, h => am_orlt (cy_or_lt n (fun j hj => h j (by omega))) (h n (by omega))
theorem am_but : ∀ d, d < 10 → ((1 : Int32) <<< (nI d &&& 31)) ^^^ (-1 : Int32) = Int32.ofInt (-1 - 2 ^ d) := by decide +kernel
theorem am_andbut : ∀ d, d < 10 → ∀ a, a < 1024 → nI a &&& (((1 : Int32) <<< (nI d &&& 31)) ^^^ (-1 : Int32)) = nI (a &&& (1023 ^^^ 2 ^ d)) := by decide +kernel
section B42
variable {iv iv' : am_I} {c : Nat → Nat → Nat} {ρ : ru_T}
theorem P_isWanted (hC : mo_C iv c) (hc : cy_ok c) {k what d : Nat} (hk : k < 32768) (hw : what ≤ 2) (hd : d < 10) : F_X10_isWanted (nI k) (nI what) (nI d) iv = some (am_bi (mg c what d k)) := by
  have e1 : nI k / (32 : Int32) = nI (k / 32) := nI_div (by omega) (by decide)
  have e2 : nI k - nI k / (32 : Int32) * (32 : Int32) = nI (k % 32) := nI_rem (by omega) (by decide)
  have hwan : cy_wan c < 32 := Nat.lt_of_lt_of_le (cy_bits_lt _ _) (cy_p5 hc.2.2.1)
  unfold F_X10_isWanted
  rw [P_wanting hC hc, am_o1_s, e2, e1, P_has (by omega) hd, am_o1_s]
  unfold J_X10_isWanted_42
  by_cases h2 : what = 2
  · subst h2
    have h := am_wn _ hwan _ (show k % 32 < 32 by omega)
    rw [if_pos (show nI 2 = 2 from rfl), ifbi, h]
    simp [mg]
  · rw [if_neg (show ¬ nI what = 2 from fun q => h2 ((am_eq (by omega) (by decide)).mp q))]
    by_cases h0 : what = 0
    · subst h0
      rw [if_pos (show nI 0 = 0 from rfl)]
      cases h : (k / 32).testBit d <;> simp [mg, am_bi, h]
    · rw [if_neg (show ¬ nI what = 0 from fun q => h0 ((am_eq (by omega) (by decide)).mp q))]
      cases h : (k / 32).testBit d <;> simp [mg, am_bi, h, h2, h0]
theorem P_soonest {N what d : Nat} {st par lab : Nat → Nat} (hC : mo_C iv c) (hc : cy_ok c) (hS : mo_S iv N st par lab) (hw : what ≤ 2) (hd : d < 10) :
    (F_X10_soonest (nI what) (nI d) iv = some (-1) ∧ ∀ j, j < N → mg c what d (st j) = false) ∨ ∃ j, j < N ∧ mg c what d (st j) = true ∧ (∀ i, i < j → mg c what d (st i) = false) ∧ F_X10_soonest (nI what) (nI d) iv = some (nI (st j)) := by
  have hN := hS.2.1
  obtain ⟨x, h1, h2⟩ := am_loop_n (f := fun s : (Int32) => B_X10_soonest_2 (nI what) (nI d) iv s) (fun m s => s = nI m ∧ ∀ j, j < m → mg c what d (st j) = false) (X := fun x => (x = .inl () ∧ ∀ j, j < N → mg c what d (st j) = false) ∨ ∃ j, j < N ∧ mg c what d (st j) = true ∧ (∀ i, i < j → mg c what d (st i) = false) ∧ x = .inr (nI (st j))) N (by omega) (by
      rintro m s hm ⟨rfl, a2⟩
      obtain ⟨b1, b2, -⟩ := hS.2.2.1 m hm
      unfold B_X10_soonest_2
      simp (disch := omega) only [hS.1, nle, vb, am_cl, if_true, b2, P_isWanted hC hc b1 hw hd, am_o1_s, ifb]
      rw [if_neg (by omega)]
      cases hg : mg c what d (st m) with
      | true =>
        rw [if_pos rfl]
        exact Or.inr ⟨_, rfl, Or.inr ⟨m, hm, hg, a2, rfl⟩⟩
      | false =>
        rw [if_neg (by decide)]
        refine Or.inl ⟨_, rfl, nI_1 m, fun j hj => ?_⟩
        by_cases e : j = m
        · rw [e]; exact hg
        · exact a2 j (by omega)) (by
      rintro s ⟨rfl, a2⟩
      unfold B_X10_soonest_2
      simp (disch := omega) only [hS.1, nle]
      rw [if_pos (by omega)]
      exact ⟨_, rfl, Or.inl ⟨rfl, a2⟩⟩) (0 : Int32) ⟨rfl, fun j hj => absurd hj (Nat.not_lt_zero _)⟩
  unfold F_X10_soonest
  rw [h1]
  rcases h2 with ⟨rfl, h2⟩ | ⟨j, g1, g2, g3, rfl⟩
  · exact Or.inl ⟨rfl, h2⟩
  · exact Or.inr ⟨j, g1, g2, g3, rfl⟩
/-- the row of a word -/
def rw_of (iv : am_I) (a : Nat) (w : List Nat) : Prop := ∀ i, i < w.length → iv a (w.length - 1 - i) = nI (w.getD i 0)
theorem P_row {N j : Nat} {s0 p : Nat} {δ : Nat → Nat → Option Nat} {n : Nat} {st par lab : Nat → Nat} (hS : mo_S iv N st par lab) (hb : bf δ n s0 N st par lab p) (hj : j < N) :
    ∃ x, am_loop (fun s : (Int32 × Int32 × am_I) => B_X10_howSoon_43 s.1 s.2.1 s.2.2) (nI (st j), nI (bo par lab j).length - 1, iv) = some x ∧ am_fr [81] [] iv x ∧ rw_of x 81 (bo par lab j) := by
  have hN := hS.2.1
  have hlen := bo_ln (par := par) (lab := lab) j
  generalize hw : bo par lab j = w at *
  refine am_loop_n (fun t s => am_fr [81] [] iv s.2.2 ∧ s.2.1 = nI (w.length - t) - 1 ∧ (∃ q, q < N ∧ s.1 = nI (st q) ∧ w.drop t = bo par lab q) ∧ ∀ i, i < t → s.2.2 81 (w.length - 1 - i) = nI (w.getD i 0)) w.length (by omega) ?_ ?_ _ ⟨am_fr.rf _ _ _, rfl, ⟨j, hj, rfl, by rw [hw]; rfl⟩, fun i hi => absurd hi (Nat.not_lt_zero _)⟩
  · rintro t ⟨i4, i5, iv1⟩ ht ⟨a1, a2, ⟨q, b1, b2, b3⟩, a4⟩
    dsimp only at a1 a2 b2 a4
    subst a2; subst b2
    have hq0 : 1 ≤ q := by
      by_cases e : q = 0
      · rw [e, bo_0] at b3
        have := congrArg List.length b3
        simp at this; omega
      · omega
    have hbo := bo_s (lab := lab) hb.pr hq0 b1
    have hpq := hb.pr q hq0 b1
    rw [hbo] at b3
    obtain ⟨c1, c2, -⟩ := hS.2.2.1 q b1
    obtain ⟨d1, d2⟩ := hS.2.2.2.1 q hq0 b1
    have e77 : iv1 77 (st q) = nI (st (par q)) := by rw [a1 77 _ (by decide) (by simp)]; exact d1
    have e78 : iv1 78 (st q) = nI (lab q) := by rw [a1 78 _ (by decide) (by simp)]; exact d2
    left
    show ∃ s', B_X10_howSoon_43 (nI (st q)) (nI (w.length - t) - 1) iv1 = _ ∧ _
    unfold B_X10_howSoon_43
    rw [nI_s1 (by omega), if_neg (nI_pos (by omega))]
    simp (disch := omega) only [vb, am_cl, if_true, e78]
    have e77' : am_w iv1 81 (w.length - t - 1) (nI (lab q)) 77 (st q) = nI (st (par q)) := by rw [am_w_other _ _ _ (by decide)]; exact e77
    rw [e77']
    have hdt : w.getD t 0 = lab q := by
      have := congrArg (fun l : List Nat => l.getD 0 0) b3
      simpa [List.getD_eq_getElem?_getD] using this
    refine ⟨_, rfl, a1.a (by decide), ?_, ⟨par q, by omega, rfl, ?_⟩, fun i hi => ?_⟩
    · show nI (w.length - t - 1) + (-1) = nI (w.length - (t + 1)) - 1
      rw [show w.length - (t + 1) = w.length - t - 1 by omega, Int32.sub_eq_add_neg]
    · have := congrArg (List.drop 1) b3
      rw [List.drop_drop] at this
      simpa [Nat.add_comm] using this
    · show am_w iv1 81 (w.length - t - 1) (nI (lab q)) 81 (w.length - 1 - i) = _
      rw [am_w_r, if_pos rfl]
      by_cases e : i = t
      · rw [if_pos (by omega), e, hdt]
      · rw [if_neg (by omega)]; exact a4 i (by omega)
  · rintro ⟨i4, i5, iv1⟩ ⟨a1, a2, -, a4⟩
    dsimp only at a1 a2 a4
    subst a2
    refine ⟨iv1, ?_, a1, a4⟩
    show B_X10_howSoon_43 _ _ _ = _
    unfold B_X10_howSoon_43
    rw [Nat.sub_self, if_pos (show nI 0 - 1 < 0 by decide)]
/-- HOW SOON by the model -/
theorem P_howSoon {o f sl what d : Nat} (hC : mo_C iv c) (hc : cy_ok c) (hR : mo_R iv ρ (cy_r c)) (ho : ru_ok ρ (cy_r c)) (h29 : iv 54 29 = nI o) (h31 : iv 54 31 = nI f) (h30 : iv 54 30 = nI sl) (hol : o < 2 ^ cy_n c) (hf : f < 32) (hsl : sl < 1024) (hw : what ≤ 2) (hd : d < 10) :
    ∃ iv' N st par lab, bf (md c ρ sl) (cy_n c) (32 * o + f) N st par lab (N * 16) ∧ N ≤ 32768 ∧ (∀ j, j < N → st j / 32 < 2 ^ cy_n c) ∧
    ((F_X10_howSoon (nI what) (nI d) iv = some (-1, iv') ∧ (∀ j, j < N → mg c what d (st j) = false) ∧ (∀ i, iv' 81 i = iv 81 i) ∧ iv' 54 45 = iv 54 45) ∨
     ∃ j, j < N ∧ mg c what d (st j) = true ∧ (∀ i, i < j → mg c what d (st i) = false) ∧ F_X10_howSoon (nI what) (nI d) iv = some (nI (bo par lab j).length, iv') ∧ iv' 54 45 = nI (bo par lab j).length ∧ rw_of iv' 81 (bo par lab j)) := by
  obtain ⟨iv1, N, st, par, lab, e1, b1, s1, v1⟩ := P_seek hC hc hR ho h29 h31 hol hf hsl
  have f1 := X_X10_seek e1
  have hC1 : mo_C iv1 c := hC.fr (f1.m (by decide) (by decide))
  unfold F_X10_howSoon
  rw [h30, e1, am_o1_s]
  rcases P_soonest hC1 hc s1 hw hd with ⟨e2, g⟩ | ⟨j, g1, g2, g3, e2⟩
  · refine ⟨iv1, N, st, par, lab, b1, s1.2.1, v1, Or.inl ⟨?_, g, fun i => f1 81 i (by decide) (by simp), f1 54 45 (by decide) (by decide)⟩⟩
    rw [e2, am_o1_s, if_pos rfl]
  · obtain ⟨c1, c2, c3⟩ := s1.2.2.1 j g1
    have hN := s1.2.1
    have s2 : mo_S (am_w iv1 54 45 (iv1 79 (st j))) N st par lab := by
      obtain ⟨q1, q2, q3, q4, q5⟩ := s1
      have o80 : am_w iv1 54 45 (iv1 79 (st j)) 80 = iv1 80 := am_w_other _ _ _ (by decide)
      have o79 : am_w iv1 54 45 (iv1 79 (st j)) 79 = iv1 79 := am_w_other _ _ _ (by decide)
      have o78 : am_w iv1 54 45 (iv1 79 (st j)) 78 = iv1 78 := am_w_other _ _ _ (by decide)
      have o77 : am_w iv1 54 45 (iv1 79 (st j)) 77 = iv1 77 := am_w_other _ _ _ (by decide)
      unfold mo_S
      rw [o80, o79, o78, o77, am_w_r, if_pos rfl, if_neg (by decide)]
      exact ⟨q1, q2, q3, q4, q5⟩
    obtain ⟨x, h1, h2, h3⟩ := P_row s2 b1 g1
    have e45 : am_w iv1 54 45 (iv1 79 (st j)) 54 45 = nI (bo par lab j).length := by rw [am_w_r, if_pos rfl, if_pos rfl, c3]
    refine ⟨x, N, st, par, lab, b1, hN, v1, Or.inr ⟨j, g1, g2, g3, ?_, ?_, h3⟩⟩
    · rw [e2, am_o1_s, if_neg (cy_m1 (by omega)), if_pos (vb c1 (by decide)), am_cl (by omega), e45, h1, am_o1_s, h2 54 45 (by decide) (by simp), e45]
    · rw [h2 54 45 (by decide) (by simp), e45]
theorem P_soonBread {o f sl : Nat} (hC : mo_C iv c) (hc : cy_ok c) (hR : mo_R iv ρ (cy_r c)) (ho : ru_ok ρ (cy_r c)) (h29 : iv 54 29 = nI o) (h31 : iv 54 31 = nI f) (hol : o < 2 ^ cy_n c) (hf : f < 32) (hsl : sl < 1024) :
    ∃ iv' N st par lab, bf (md c ρ sl) (cy_n c) (32 * o + f) N st par lab (N * 16) ∧ N ≤ 32768 ∧ (∀ j, j < N → st j / 32 < 2 ^ cy_n c) ∧
    ((F_X10_soonBread (nI sl) iv = some (-1, iv') ∧ (∀ j, j < N → mg c 2 0 (st j) = false)) ∨
     ∃ j, j < N ∧ mg c 2 0 (st j) = true ∧ (∀ i, i < j → mg c 2 0 (st i) = false) ∧ F_X10_soonBread (nI sl) iv = some (nI (bo par lab j).length, iv')) := by
  obtain ⟨iv1, N, st, par, lab, e1, b1, s1, v1⟩ := P_seek hC hc hR ho h29 h31 hol hf hsl
  have f1 := X_X10_seek e1
  have hC1 : mo_C iv1 c := hC.fr (f1.m (by decide) (by decide))
  unfold F_X10_soonBread
  rw [e1, am_o1_s]
  refine ⟨iv1, N, st, par, lab, b1, s1.2.1, v1, ?_⟩
  rcases P_soonest (what := 2) (d := 0) hC1 hc s1 (by decide) (by decide) with ⟨e2, g⟩ | ⟨j, g1, g2, g3, e2⟩
  · left
    refine ⟨?_, g⟩
    rw [show (2 : Int32) = nI 2 from rfl, show (0 : Int32) = nI 0 from rfl, e2, am_o1_s, if_pos rfl]
  · right
    obtain ⟨c1, c2, c3⟩ := s1.2.2.1 j g1
    refine ⟨j, g1, g2, g3, ?_⟩
    rw [show (2 : Int32) = nI 2 from rfl, show (0 : Int32) = nI 0 from rfl, e2, am_o1_s, if_neg (cy_m1 (by omega)), if_pos (vb c1 (by decide)), am_cl (by omega), c3]
theorem P_everOut {o f sl d : Nat} (hC : mo_C iv c) (hc : cy_ok c) (hR : mo_R iv ρ (cy_r c)) (ho : ru_ok ρ (cy_r c)) (h29 : iv 54 29 = nI o) (h31 : iv 54 31 = nI f) (hol : o < 2 ^ cy_n c) (hf : f < 32) (hsl : sl < 1024) (hd : d < 10) :
    ∃ iv' N st par lab, bf (md c ρ sl) (cy_n c) (32 * o + f) N st par lab (N * 16) ∧ (∀ j, j < N → st j / 32 < 2 ^ cy_n c) ∧
    F_X10_everOut (nI d) (nI sl) iv = some (nI (cy_pc (cy_or (fun j => st j / 32) N &&& (1023 ^^^ 2 ^ d))), iv') := by
  obtain ⟨iv1, N, st, par, lab, e1, b1, s1, v1⟩ := P_seek hC hc hR ho h29 h31 hol hf hsl
  have hN := s1.2.1
  refine ⟨iv1, N, st, par, lab, b1, v1, ?_⟩
  have h10 : ∀ j, j < N → st j / 32 < 2 ^ 10 := fun j hj => Nat.lt_of_lt_of_le (v1 j hj) (cy_p10 hc.1)
  have hl : am_loop (fun s : (Int32 × Int32) => B_X10_everOut_10 (nI d) iv1 s.1 s.2) ((0 : Int32), (0 : Int32)) = some (nI (cy_or (fun j => st j / 32) N)) := by
    refine am_loop_seq (fun i => (nI (cy_or (fun j => st j / 32) i), nI i)) N (by omega) rfl (fun j hj => ?_) ?_
    · obtain ⟨c1, c2, -⟩ := s1.2.2.1 j hj
      have e9 : nI (st j) / (32 : Int32) = nI (st j / 32) := nI_div (by omega) (by decide)
      show B_X10_everOut_10 _ _ (nI (cy_or _ j)) (nI j) = some (Sum.inl (nI (cy_or _ j ||| _), nI (j + 1)))
      unfold B_X10_everOut_10
      simp (disch := omega) only [s1.1, nle, vb, am_cl, if_true, c2, e9, fa_or, nI_1]
      rw [if_neg (by omega)]
    · show B_X10_everOut_10 _ _ _ (nI N) = _
      unfold B_X10_everOut_10
      simp (disch := omega) only [s1.1, nle]
      rw [if_pos (by omega)]
  have hlt : cy_or (fun j => st j / 32) N < 2 ^ 10 := cy_or_lt N h10
  unfold F_X10_everOut
  rw [e1, am_o1_s, hl, am_o1_s, am_andbut d hd _ hlt, P_bitsOf (Nat.lt_of_le_of_lt Nat.and_le_left hlt), am_o1_s]
end B42
