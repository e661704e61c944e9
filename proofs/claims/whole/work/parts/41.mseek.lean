/-! numbers of the searches -/
theorem nI_mul (a b : Nat) : nI a * nI b = nI (a * b) := (Int32.ofNat_mul a b).symm
theorem nI_div {a b : Nat} (ha : a < 2 ^ 31) (hb : b < 2 ^ 31) : nI a / nI b = nI (a / b) := by
  apply Int32.toInt_inj.mp
  have h3 : a / b < 2 ^ 31 := Nat.lt_of_le_of_lt (Nat.div_le_self a b) ha
  rw [nI_toInt h3, Int32.toInt_div, nI_toInt ha, nI_toInt hb]
  rw [← Int.ofNat_tdiv]
  generalize a / b = q at h3 ⊢
  exact Int.bmod_eq_of_le (by omega) (by omega)
theorem nI_rem {a b : Nat} (ha : a < 2 ^ 31) (hb : b < 2 ^ 31) : nI a - nI a / nI b * nI b = nI (a % b) := by
  rw [nI_div ha hb, nI_mul, nI_sub (Nat.div_mul_le_self a b)]
  congr 1
  have := Nat.div_add_mod a b
  rw [Nat.mul_comm] at this
  omega
/-- no more places than values -/
theorem pg_le : ∀ (M N : Nat) (f : Nat → Nat), (∀ j, j < N → f j < M) → (∀ i j, i < j → j < N → f i ≠ f j) → N ≤ M
  | 0, N, f, h1, _ => by
    by_cases e : N = 0
    · omega
    · exact absurd (h1 0 (by omega)) (Nat.not_lt_zero _)
  | M + 1, N, f, h1, h2 => by
    by_cases e : ∃ j, j < N ∧ f j = M
    · obtain ⟨j, hj, hM⟩ := e
      have h3 := pg_le M (N - 1) (fun i => if i = j then f (N - 1) else f i) (fun i hi => by
        show (if i = j then f (N - 1) else f i) < M
        by_cases ei : i = j
        · rw [if_pos ei]
          have a1 := h1 (N - 1) (by omega)
          have a2 := h2 j (N - 1) (by omega) (by omega)
          omega
        · rw [if_neg ei]
          have a1 := h1 i (by omega)
          by_cases lt : i < j
          · have := h2 i j lt hj; omega
          · have := h2 j i (by omega) (by omega); omega) (fun a b hab hb => by
        show (if a = j then f (N - 1) else f a) ≠ (if b = j then f (N - 1) else f b)
        by_cases ea : a = j
        · rw [if_pos ea, if_neg (by omega)]
          exact fun q => h2 b (N - 1) (by omega) (by omega) q.symm
        · rw [if_neg ea]
          by_cases eb : b = j
          · rw [if_pos eb]; exact h2 a (N - 1) (by omega) (by omega)
          · rw [if_neg eb]; exact h2 a b hab (by omega))
      omega
    · have h3 := pg_le M N f (fun j hj => by
        have a1 := h1 j hj
        by_cases ej : f j = M
        · exact absurd ⟨j, hj, ej⟩ e
        · omega) h2
      omega
theorem bo_len {par lab : Nat → Nat} : ∀ f j, (bw par lab f j).length ≤ f
  | 0, j => Nat.le_refl _
  | f + 1, j => by
    unfold bw
    split
    · exact Nat.zero_le _
    · simp only [List.length_cons]; have := bo_len (par := par) (lab := lab) f (par j); omega
theorem bo_ln {par lab : Nat → Nat} (j : Nat) : (bo par lab j).length ≤ j := bo_len j j
/-- the model's graph of states: 32 times what is out and who has bread -/
def md (c : Nat → Nat → Nat) (ρ : ru_T) (sl k d : Nat) : Option Nat :=
  if sl.testBit d then none else if (cy_rch c (k / 32)).testBit d then (if cy_can c ρ ((k / 32) ^^^ 2 ^ d) then some (32 * ((k / 32) ^^^ 2 ^ d) + ((k % 32) ||| cy_fed c ((k / 32) ^^^ 2 ^ d))) else none) else none
theorem cy_fed_lt {c : Nat → Nat → Nat} (hc : cy_ok c) (s : Nat) : cy_fed c s < 32 := Nat.lt_of_lt_of_le (cy_bits_lt _ _) (cy_p5 hc.2.2.1)
theorem cy_x10 {s d : Nat} (hs : s < 1024) (hd : d < 10) : s ^^^ 2 ^ d < 1024 := Nat.xor_lt_two_pow (n := 10) hs (am_p2 hd)
theorem md_lt {c : Nat → Nat → Nat} {ρ : ru_T} (hc : cy_ok c) {sl k d y : Nat} (hk : k < 32768) (hd : d < 10) (h : md c ρ sl k d = some y) : y < 32768 := by
  unfold md at h
  split at h
  · cases h
  · split at h
    · split at h
      · cases h
        have h1 := cy_x10 (show k / 32 < 1024 by omega) hd
        have h2 : k % 32 ||| cy_fed c ((k / 32) ^^^ 2 ^ d) < 2 ^ 5 := am_orlt (Nat.mod_lt _ (by decide)) (cy_fed_lt hc _)
        omega
      · cases h
    · cases h
/-- the model's rows of a search -/
def mo_S (iv : am_I) (N : Nat) (st par lab : Nat → Nat) : Prop :=
  iv 54 44 = nI N ∧ N ≤ 32768 ∧ (∀ j, j < N → st j < 32768 ∧ iv 80 j = nI (st j) ∧ iv 79 (st j) = nI (bo par lab j).length) ∧
  (∀ j, 1 ≤ j → j < N → iv 77 (st j) = nI (st (par j)) ∧ iv 78 (st j) = nI (lab j)) ∧
  ∀ k, k < 32768 → (∀ j, j < N → st j ≠ k) → iv 79 k = -1
def mo_K (iv : am_I) (c : Nat → Nat → Nat) (ρ : ru_T) : Prop := ∀ s, s < 2 ^ cy_n c → iv 82 s = am_bi (cy_can c ρ s)
section B41
variable {iv iv' : am_I} {c : Nat → Nat → Nat} {ρ : ru_T}
theorem cy_x2 {s d n : Nat} (hs : s < 2 ^ n) (hd : d < n) : s ^^^ 2 ^ d < 2 ^ n := Nat.xor_lt_two_pow hs (am_p2 hd)
theorem P_goOn {s0 sl q N : Nat} {st par lab : Nat → Nat} (hC : mo_C iv c) (hc : cy_ok c) (hK : mo_K iv c ρ) (hsl : sl < 1024) (hb : bf (md c ρ sl) (cy_n c) s0 N st par lab (q * 16)) (hS : mo_S iv N st par lab) (hq : q < N) (hw : ∀ j, j < N → st j / 32 < 2 ^ cy_n c) :
    ∃ iv' N' st' par' lab', F_X10_goOn (nI (st q)) (nI sl) iv = some iv' ∧ bf (md c ρ sl) (cy_n c) s0 N' st' par' lab' ((q + 1) * 16) ∧ mo_S iv' N' st' par' lab' ∧ N ≤ N' ∧ (∀ j, j < N' → st' j / 32 < 2 ^ cy_n c) := by
  have hn := hc.1
  have h10 := cy_p10 hn
  have hk := (hS.2.2.1 q hq).1
  have hset : st q / 32 < 1024 := by omega
  have e32 : (32 : Int32) = nI 32 := rfl
  have e1 : nI (st q) / (32 : Int32) = nI (st q / 32) := nI_div (by omega) (by decide)
  have e2 : nI (st q) - nI (st q / 32) * (32 : Int32) = nI (st q % 32) := by rw [← e1]; exact nI_rem (by omega) (by decide)
  have H : ∃ x, am_loop (fun s : (Int32 × am_I) => B_X10_goOn_15 (nI (st q)) (nI sl) (nI (st q / 32)) (nI (cy_rch c (st q / 32))) s.1 s.2) ((0 : Int32), iv) = some x ∧ ∃ N' st' par' lab', bf (md c ρ sl) (cy_n c) s0 N' st' par' lab' (q * 16 + cy_n c) ∧ mo_S x N' st' par' lab' ∧ N ≤ N' ∧ (∀ j, j < N' → st' j / 32 < 2 ^ cy_n c) := by
    refine am_loop_n (fun d s => s.1 = nI d ∧ am_fr [77, 78, 79, 80] [(54, 44)] iv s.2 ∧ ∃ N' st' par' lab', bf (md c ρ sl) (cy_n c) s0 N' st' par' lab' (q * 16 + d) ∧ mo_S s.2 N' st' par' lab' ∧ N ≤ N' ∧ st' q = st q ∧ (∀ j, j < N' → st' j / 32 < 2 ^ cy_n c)) (cy_n c) (by omega) ?_ ?_ _ ⟨rfl, am_fr.rf _ _ _, N, st, par, lab, hb, hS, Nat.le_refl _, rfl, hw⟩
    · rintro d ⟨k0, iv1⟩ hd ⟨a1, a2, N', st', par', lab', a3, a4, a5, a6, a7⟩
      dsimp only at a1 a2 a4
      subst a1
      have hC1 : mo_C iv1 c := hC.fr (a2.m (by decide) (by decide))
      have r2 := hC1.1.2.2.1
      have hK1 : ∀ s, s < 2 ^ cy_n c → iv1 82 s = am_bi (cy_can c ρ s) := fun s hs => by rw [a2 82 s (by decide) (by simp)]; exact hK s hs
      have hy := cy_x10 hset (show d < 10 by omega)
      have hy2 : st q / 32 ^^^ 2 ^ d < 2 ^ cy_n c := cy_x2 (hw q hq) hd
      left
      show ∃ s', B_X10_goOn_15 _ _ _ _ (nI d) iv1 = _ ∧ _
      unfold B_X10_goOn_15
      have hrc : cy_rch c (st q / 32) < 1024 := Nat.lt_of_lt_of_le (cy_bits_lt _ _) h10
      rw [cl2, r2, nle (by omega) (by omega), if_neg (by omega), P_has hsl (by omega), am_o1_s, ifb, P_has hrc (by omega), am_o1_s, ifb, am_shl1 d (by omega), fb_xorI, if_pos (vb hy (by decide)), am_cl (by omega), hK1 _ hy2, ifb, e1, e2, P_feedBy hC1 hc hy, am_o1_s]
      have hmd : md c ρ sl (st' q) d = if sl.testBit d then none else if (cy_rch c (st q / 32)).testBit d then (if cy_can c ρ ((st q / 32) ^^^ 2 ^ d) then some (32 * ((st q / 32) ^^^ 2 ^ d) + ((st q % 32) ||| cy_fed c ((st q / 32) ^^^ 2 ^ d))) else none) else none := by rw [a6]; rfl
      have NO : md c ρ sl (st' q) d = none → ∃ s' : Int32 × am_I, some (Sum.inl (nI d + 1, iv1) : (Int32 × am_I) ⊕ am_I) = some (.inl s') ∧ s'.1 = nI (d + 1) ∧ am_fr [77, 78, 79, 80] [(54, 44)] iv s'.2 ∧ ∃ N' st' par' lab', bf (md c ρ sl) (cy_n c) s0 N' st' par' lab' (q * 16 + (d + 1)) ∧ mo_S s'.2 N' st' par' lab' ∧ N ≤ N' ∧ st' q = st q ∧ (∀ j, j < N' → st' j / 32 < 2 ^ cy_n c) := by
        intro h0
        exact ⟨_, rfl, nI_1 d, a2, N', st', par', lab', a3.no hn hd (fun y hy => by rw [h0] at hy; cases hy), a4, a5, a6, a7⟩
      cases h1 : sl.testBit d with
      | true =>
        rw [if_pos rfl]
        exact NO (by rw [hmd, h1]; rfl)
      | false =>
        rw [if_neg (by decide)]
        cases h2 : (cy_rch c (st q / 32)).testBit d with
        | false =>
          rw [if_neg (by decide)]
          exact NO (by rw [hmd, h1, h2]; rfl)
        | true =>
          rw [if_pos rfl]
          cases h3 : cy_can c ρ ((st q / 32) ^^^ 2 ^ d) with
          | false =>
            rw [if_neg (by decide)]
            exact NO (by rw [hmd, h1, h2, h3]; rfl)
          | true =>
            rw [if_pos rfl]
            have hmd2 : md c ρ sl (st' q) d = some (32 * ((st q / 32) ^^^ 2 ^ d) + ((st q % 32) ||| cy_fed c ((st q / 32) ^^^ 2 ^ d))) := by rw [hmd, h1, h2, h3]; rfl
            have hq' : q < N' := by omega
            have hyl := md_lt hc (by rw [a6]; exact hk) (show d < 10 by omega) hmd2
            rw [e32, nI_mul, nI_add]
            generalize hgy : 32 * ((st q / 32) ^^^ 2 ^ d) + ((st q % 32) ||| cy_fed c ((st q / 32) ^^^ 2 ^ d)) = y at hmd2 hyl ⊢
            have hyd : y / 32 = (st q / 32) ^^^ 2 ^ d := by
              rw [← hgy]
              have : st q % 32 ||| cy_fed c ((st q / 32) ^^^ 2 ^ d) < 2 ^ 5 := am_orlt (Nat.mod_lt _ (by decide)) (cy_fed_lt hc _)
              omega
            rw [if_pos (vb hyl (by decide)), am_cl (by omega)]
            by_cases hold : ∃ j, j < N' ∧ st' j = y
            · obtain ⟨j, g1, g2⟩ := hold
              have g3 : iv1 79 y = nI (bo par' lab' j).length := by rw [← g2]; exact (a4.2.2.1 j g1).2.2
              have g4 := bo_ln (par := par') (lab := lab') j
              rw [g3, if_neg (cy_m1 (by have := a4.2.1; omega))]
              exact ⟨_, rfl, nI_1 d, a2, N', st', par', lab', a3.no hn hd (fun z hz => by rw [hmd2] at hz; cases hz; exact ⟨j, g1, g2⟩), a4, a5, a6, a7⟩
            · have hnew : ∀ j, j < N' → st' j ≠ y := fun j hj e => hold ⟨j, hj, e⟩
              have hNlt : N' + 1 ≤ 32768 := pg_le 32768 (N' + 1) (upn st' N' y) (fun j hj => by
                by_cases e : j = N'
                · rw [e, upn_s]; exact hyl
                · rw [upn_o _ _ e]; exact (a4.2.2.1 j (by omega)).1) (fun i j hij hj => by
                by_cases e : j = N'
                · rw [e, upn_s, upn_o _ _ (by omega)]; exact hnew i (by omega)
                · rw [upn_o _ _ e, upn_o _ _ (by omega)]; exact a3.2.2.2.1 i j hij (by omega))
              rw [a4.2.2.2.2 y hyl hnew, if_pos rfl]
              have w44 : ∀ (x : am_I) (k : Nat) (v : Int32), am_w x 79 k v 54 44 = x 54 44 := fun x k v => by rw [am_w_other _ _ _ (by decide)]
              have w44b : ∀ (x : am_I) (k : Nat) (v : Int32), am_w x 77 k v 54 44 = x 54 44 := fun x k v => by rw [am_w_other _ _ _ (by decide)]
              have w44c : ∀ (x : am_I) (k : Nat) (v : Int32), am_w x 78 k v 54 44 = x 54 44 := fun x k v => by rw [am_w_other _ _ _ (by decide)]
              have w44d : ∀ (x : am_I) (k : Nat) (v : Int32), am_w x 80 k v 54 44 = x 54 44 := fun x k v => by rw [am_w_other _ _ _ (by decide)]
              have hlq : iv1 79 (st q) = nI (bo par' lab' q).length := by rw [← a6]; exact (a4.2.2.1 q hq').2.2
              have hne : st q ≠ y := by rw [← a6]; exact hnew q hq'
              simp (disch := omega) only [vb, am_cl, if_true, w44, w44b, w44c, w44d, a4.1, hlq, show (1 : Int32) = nI 1 from rfl, nI_add]
              refine ⟨_, rfl, rfl, ((((a2.a (by decide)).a (by decide)).a (by decide)).a (by decide)).f (by decide), N' + 1, upn st' N' y, upn par' N' q, upn lab' N' d, a3.new hn hd hq' hmd2 hnew, ?_, by omega, by rw [upn_o _ _ (by omega)]; exact a6, fun j hj => ?_⟩
              · have hbo : ∀ j, j < N' → bo (upn par' N' q) (upn lab' N' d) j = bo par' lab' j := bo_up a3.pr
                have hboN : bo (upn par' N' q) (upn lab' N' d) N' = d :: bo par' lab' q := by
                  rw [bo_s (a3.new hn hd hq' hmd2 hnew).pr (by omega) (by omega), upn_s, upn_s, hbo q hq']
                refine ⟨by simp [am_w_r], hNlt, fun j hj => ?_, fun j h1j hj => ?_, fun k hk9 hno => ?_⟩
                · by_cases e : j = N'
                  · rw [e, upn_s, hboN]
                    refine ⟨hyl, by simp [am_w_r], by simp [am_w_r]⟩
                  · have g := a4.2.2.1 j (by omega)
                    have g9 := hnew j (by omega)
                    rw [upn_o _ _ e, hbo j (by omega)]
                    refine ⟨g.1, ?_, ?_⟩
                    · simp [am_w_r, e, g.2.1]
                    · simp [am_w_r, g9, g.2.2]
                · by_cases e : j = N'
                  · rw [e, upn_s, upn_s, upn_s, upn_o _ _ (by omega), a6]
                    exact ⟨by simp [am_w_r], by simp [am_w_r]⟩
                  · have g := a4.2.2.2.1 j h1j (by omega)
                    have g9 := hnew j (by omega)
                    have g8 := a3.pr j h1j (by omega)
                    rw [upn_o _ _ e, upn_o _ _ e, upn_o _ _ e, upn_o _ _ (by omega)]
                    exact ⟨by simp [am_w_r, g9, g.1], by simp [am_w_r, g9, g.2]⟩
                · have g1 : k ≠ y := fun e => hno N' (by omega) (by rw [upn_s, e])
                  have g2 := a4.2.2.2.2 k hk9 (fun j hj => by have := hno j (by omega); rwa [upn_o _ _ (by omega)] at this)
                  simp [am_w_r, g1, g2]
              · by_cases e : j = N'
                · rw [e, upn_s, hyd]; exact hy2
                · rw [upn_o _ _ e]; exact a7 j (by omega)
    · rintro ⟨k0, iv1⟩ ⟨a1, a2, N', st', par', lab', a3, a4, a5, a6, a7⟩
      dsimp only at a1 a2 a4
      subst a1
      have hC1 : mo_C iv1 c := hC.fr (a2.m (by decide) (by decide))
      refine ⟨iv1, ?_, N', st', par', lab', a3, a4, a5, a7⟩
      show B_X10_goOn_15 _ _ _ _ _ iv1 = _
      unfold B_X10_goOn_15
      rw [cl2, hC1.1.2.2.1, if_pos (Int32.le_refl _)]
  obtain ⟨x, hx, N', st', par', lab', g1, g2, g3, g4⟩ := H
  refine ⟨x, N', st', par', lab', ?_, g1.skip hn, g2, g3, g4⟩
  unfold F_X10_goOn
  rw [e1, P_reachedBy hC hc hset, am_o1_s, hx, am_o1_s]
theorem P_seek {o f sl : Nat} (hC : mo_C iv c) (hc : cy_ok c) (hR : mo_R iv ρ (cy_r c)) (ho : ru_ok ρ (cy_r c)) (h29 : iv 54 29 = nI o) (h31 : iv 54 31 = nI f) (hol : o < 2 ^ cy_n c) (hf : f < 32) (hsl : sl < 1024) :
    ∃ iv' N st par lab, F_X10_seek (nI sl) iv = some iv' ∧ bf (md c ρ sl) (cy_n c) (32 * o + f) N st par lab (N * 16) ∧ mo_S iv' N st par lab ∧ (∀ j, j < N → st j / 32 < 2 ^ cy_n c) := by
  have hn := hc.1
  have h10 := cy_p10 hn
  have p1 : (1 : Int32) <<< (nI (cy_n c) &&& 31) = nI (2 ^ cy_n c) := am_shl1 _ (by omega)
  have H1 : ∃ x, am_loop (fun s : (Int32 × am_I) => B_X10_seek_2 (nI sl) s.1 s.2) ((0 : Int32), iv) = some x ∧ am_fr [75, 76, 82] [] iv x ∧ mo_K x c ρ := by
    refine am_loop_n (fun m s => s.1 = nI m ∧ am_fr [75, 76, 82] [] iv s.2 ∧ ∀ k, k < m → s.2 82 k = am_bi (cy_can c ρ k)) (2 ^ cy_n c) (by omega) ?_ ?_ _ ⟨rfl, am_fr.rf _ _ _, fun k hk => absurd hk (Nat.not_lt_zero _)⟩
    · rintro m ⟨k0, iv1⟩ hm ⟨a1, a2, a3⟩
      dsimp only at a1 a2 a3
      subst a1
      have hC1 : mo_C iv1 c := hC.fr (a2.m (by decide) (by decide))
      have hR1 : mo_R iv1 ρ (cy_r c) := hR.fr (a2.m (by decide) (by decide))
      obtain ⟨iv2, e2⟩ := P_canBe hC1 hc hR1 ho (show m < 1024 by omega)
      have f2 := X_X10_canBe e2
      left
      show ∃ s', B_X10_seek_2 _ (nI m) iv1 = _ ∧ _
      unfold B_X10_seek_2
      rw [cl2, hC1.1.2.2.1, p1, nle (by omega) (by omega), if_neg (by omega), e2, am_o2_s, if_pos (vb (show m < 1024 by omega) (by decide)), if01, am_cl (by omega)]
      refine ⟨_, rfl, nI_1 m, (a2.tr (f2.up (by decide) (by decide))).a (by decide), fun k hk => ?_⟩
      show am_w iv2 82 m _ 82 k = _
      rw [am_w_r, if_pos rfl]
      by_cases e : k = m
      · rw [if_pos e, e]
      · rw [if_neg e, f2 82 k (by decide) (by simp)]; exact a3 k (by omega)
    · rintro ⟨k0, iv1⟩ ⟨a1, a2, a3⟩
      dsimp only at a1 a2 a3
      subst a1
      have hC1 : mo_C iv1 c := hC.fr (a2.m (by decide) (by decide))
      refine ⟨iv1, ?_, a2, a3⟩
      show B_X10_seek_2 _ _ iv1 = _
      unfold B_X10_seek_2
      rw [cl2, hC1.1.2.2.1, p1, if_pos (Int32.le_refl _)]
  obtain ⟨iv1, x1, f1, k1⟩ := H1
  have H2 : ∃ x, am_loop (fun s : (Int32 × am_I) => B_X10_seek_33 (nI sl) s.1 s.2) ((0 : Int32), iv1) = some x ∧ am_fr [79] [] iv1 x ∧ ∀ k, k < 32768 → x 79 k = -1 := by
    refine am_loop_n (fun m s => s.1 = nI m ∧ am_fr [79] [] iv1 s.2 ∧ ∀ k, k < m → s.2 79 k = -1) 32768 (by omega) ?_ ?_ _ ⟨rfl, am_fr.rf _ _ _, fun k hk => absurd hk (Nat.not_lt_zero _)⟩
    · rintro m ⟨k0, iv2⟩ hm ⟨a1, a2, a3⟩
      dsimp only at a1 a2 a3
      subst a1
      left
      show ∃ s', B_X10_seek_33 _ (nI m) iv2 = _ ∧ _
      unfold B_X10_seek_33
      rw [show Int32.ofNat 32768 = nI 32768 from rfl]
      simp (disch := omega) only [nle, vb, am_cl, if_true]
      rw [if_neg (by omega)]
      refine ⟨_, rfl, nI_1 m, a2.a (by decide), fun k hk => ?_⟩
      show am_w iv2 79 m _ 79 k = _
      rw [am_w_r, if_pos rfl]
      by_cases e : k = m
      · rw [if_pos e]
      · rw [if_neg e]; exact a3 k (by omega)
    · rintro ⟨k0, iv2⟩ ⟨a1, a2, a3⟩
      dsimp only at a1 a2 a3
      subst a1
      refine ⟨iv2, ?_, a2, a3⟩
      show B_X10_seek_33 _ _ iv2 = _
      unfold B_X10_seek_33
      rw [show Int32.ofNat 32768 = nI 32768 from rfl, if_pos (Int32.le_refl _)]
  obtain ⟨iv2, x2, f2, k2⟩ := H2
  have f12 : am_fr [75, 76, 77, 78, 79, 80, 82] [(54, 44)] iv iv2 := (f1.up (by decide) (by decide)).tr (f2.up (by decide) (by decide))
  have v29 : iv2 54 29 = nI o := by rw [f12 54 29 (by decide) (by decide)]; exact h29
  have v31 : iv2 54 31 = nI f := by rw [f12 54 31 (by decide) (by decide)]; exact h31
  have hfl : 32 * o + f < 32768 := by omega
  unfold F_X10_seek
  rw [x1, am_o1_s, x2, am_o1_s, v29, v31, show (32 : Int32) = nI 32 from rfl, nI_mul, nI_add, if_pos (vb hfl (by decide)), am_cl (by omega), cl0]
  generalize hv : am_w (am_w (am_w iv2 79 (32 * o + f) 0) 80 0 (nI (32 * o + f))) 54 44 1 = iv3
  have f3 : am_fr [75, 76, 77, 78, 79, 80, 82] [(54, 44)] iv iv3 := by rw [← hv]; exact ((f12.a (by decide)).a (by decide)).f (by decide)
  have k3 : mo_K iv3 c ρ := fun s hs => by rw [← hv]; simp [am_w_r]; rw [f2 82 s (by decide) (by simp)]; exact k1 s hs
  have s3 : mo_S iv3 1 (fun _ => 32 * o + f) (fun _ => 0) (fun _ => 0) := by
    rw [← hv]
    refine ⟨by simp [am_w_r]; rfl, by decide, fun j hj => ?_, fun j h1 h2 => absurd h2 (by omega), fun k hk hno => ?_⟩
    · have e : j = 0 := by omega
      subst e
      exact ⟨hfl, by simp [am_w_r], by simp [am_w_r, bo_0]; rfl⟩
    · have := hno 0 (by omega)
      simp [am_w_r, Ne.symm this]
      exact k2 k hk
  obtain ⟨x, hx, f4, N, st, par, lab, g1, g2, g3⟩ := am_loop_inv (f := fun s : (Int32 × am_I) => B_X10_seek_89 (nI sl) s.1 s.2) (fun s => ∃ i N st par lab, s.1 = nI i ∧ i ≤ N ∧ am_fr [75, 76, 77, 78, 79, 80, 82] [(54, 44)] iv s.2 ∧ mo_K s.2 c ρ ∧ bf (md c ρ sl) (cy_n c) (32 * o + f) N st par lab (i * 16) ∧ mo_S s.2 N st par lab ∧ (∀ j, j < N → st j / 32 < 2 ^ cy_n c)) (fun s => 40000 - s.1.toNatClampNeg) (X := fun x => am_fr [75, 76, 77, 78, 79, 80, 82] [(54, 44)] iv x ∧ ∃ N st par lab, bf (md c ρ sl) (cy_n c) (32 * o + f) N st par lab (N * 16) ∧ mo_S x N st par lab ∧ (∀ j, j < N → st j / 32 < 2 ^ cy_n c)) (by
      rintro ⟨k0, iv4⟩ ⟨i, N, st, par, lab, a1, a2, a3, a4, a5, a6, a7⟩
      dsimp only at a1 a3 a4 a6
      subst a1
      have hN := a6.2.1
      show (∃ s', B_X10_seek_89 _ (nI i) iv4 = _ ∧ _) ∨ (∃ s', B_X10_seek_89 _ (nI i) iv4 = _ ∧ _)
      unfold B_X10_seek_89
      rw [a6.1, nle (by omega) (by omega)]
      by_cases e : N ≤ i
      · right
        rw [if_pos e]
        have e2 : i = N := by omega
        subst e2
        exact ⟨_, rfl, a3, i, st, par, lab, a5, a6, a7⟩
      · left
        rw [if_neg e, if_pos (vb (by omega) (by decide)), am_cl (by omega), (a6.2.2.1 i (by omega)).2.1]
        have hC4 : mo_C iv4 c := hC.fr (a3.m (by decide) (by decide))
        obtain ⟨iv5, N', st', par', lab', b1, b2, b3, b4, b5⟩ := P_goOn hC4 hc a4 hsl a5 a6 (show i < N by omega) a7
        have f5 := X_X10_goOn b1
        rw [b1, am_o1_s]
        refine ⟨_, rfl, ⟨i + 1, N', st', par', lab', nI_1 i, by omega, a3.tr (f5.up (by decide) (by decide)), fun s hs => ?_, b2, b3, b5⟩, ?_⟩
        · show iv5 82 s = _
          rw [f5 82 s (by decide) (by simp)]; exact a4 s hs
        · show 40000 - (nI i + 1).toNatClampNeg < 40000 - i
          rw [nI_1, am_cl (by omega)]; omega) ((0 : Int32), iv3) ⟨0, 1, _, _, _, rfl, by omega, f3, k3, bf_0 rfl, s3, fun j _ => by show (32 * o + f) / 32 < _; omega⟩ (by show 40000 - _ < 1000000; omega)
  refine ⟨x, N, st, par, lab, ?_, g1, g2, g3⟩
  rw [hx, am_o1_s]
end B41
