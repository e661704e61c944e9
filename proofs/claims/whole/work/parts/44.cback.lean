/-! the class: the way back of a search, its rows' cleaning, what can ever be out; the two searches find the same -/
section B44
variable {iv iv' : am_I} {c : Nat → Nat → Nat} {w : Nat} {ρ : ru_T} {fd nf sn ns : Nat}
theorem K_begin {M wd : Nat} (hl : cs_L fd nf sn ns M) (hM : M ≤ 32 * wd) (hwd : wd ≤ ns) : ∃ iv', J_X6_begin_44 fd nf sn ns (nI wd) iv = some iv' ∧ am_fr [sn] [(50, 2)] iv iv' ∧ iv' 50 2 = 0 ∧ ∀ s, s < M → sb iv' sn s = false := by
  obtain ⟨l1, l2, l3, l4, l5, l6, l7⟩ := hl
  have H : ∃ x, am_loop (fun s : (Int32 × am_I) => B_X6_begin_47 fd nf sn ns (nI wd) s.1 s.2) ((0 : Int32), iv) = some x ∧ am_fr [sn] [(50, 2)] iv x ∧ ∀ k, k < wd → x sn k = 0 := by
    refine am_loop_n (fun m s => s.1 = nI m ∧ am_fr [sn] [(50, 2)] iv s.2 ∧ ∀ k, k < m → s.2 sn k = 0) wd (by omega) ?_ ?_ _ ⟨rfl, am_fr.rf _ _ _, fun k hk => absurd hk (Nat.not_lt_zero _)⟩
    · rintro m ⟨k0, iv1⟩ hm ⟨a1, a2, a3⟩
      dsimp only at a1 a2 a3
      subst a1
      left
      show ∃ s', B_X6_begin_47 _ _ _ _ _ (nI m) iv1 = _ ∧ _
      unfold B_X6_begin_47
      rw [show Int32.ofNat ns = nI ns from rfl, nle (by omega) (by omega), if_neg (by omega), nle (by omega) (by omega), if_neg (by omega), if_pos (vb (show m < ns by omega) (by omega)), am_cl (by omega)]
      refine ⟨_, rfl, nI_1 m, a2.a (by simp), fun k hk => ?_⟩
      show am_w iv1 sn m 0 sn k = 0
      rw [am_w_r, if_pos rfl]
      by_cases e : k = m
      · rw [if_pos e]
      · rw [if_neg e]; exact a3 k (by omega)
    · rintro ⟨k0, iv1⟩ ⟨a1, a2, a3⟩
      dsimp only at a1 a2 a3
      subst a1
      refine ⟨iv1, ?_, a2, a3⟩
      show B_X6_begin_47 _ _ _ _ _ _ iv1 = _
      unfold B_X6_begin_47
      rw [if_pos (Int32.le_refl _)]
  obtain ⟨x, h1, h2, h3⟩ := H
  unfold J_X6_begin_44 J_X6_begin_77
  rw [h1, am_o1_s]
  refine ⟨_, rfl, h2.f (by simp), by rw [am_w_r, if_pos rfl, if_pos rfl], fun s hs => ?_⟩
  unfold sb
  rw [am_w_other _ _ _ (by omega), h3 _ (by omega)]
  simp
theorem ks_mod {sl : Nat} {br : Bool} {s d y : Nat} (hd : d < cy_n c) (h : ks c ρ sl br s d = some y) : y % 2 ^ cy_n c = s % 2 ^ cy_n c ^^^ 2 ^ d ∧ (br = true → y / 2 ^ cy_n c = (s / 2 ^ cy_n c ||| cy_fed c (s % 2 ^ cy_n c ^^^ 2 ^ d))) := by
  have h2 : s % 2 ^ cy_n c ^^^ 2 ^ d < 2 ^ cy_n c := cy_x2 (Nat.mod_lt _ (Nat.two_pow_pos _)) hd
  unfold ks at h
  split at h
  · cases h
  · split at h
    · split at h
      · have h := Option.some.inj h
        subst h
        cases br with
        | true =>
          simp only [if_true]
          refine ⟨?_, fun _ => ?_⟩
          · rw [Nat.add_mul_mod_self_right, Nat.mod_eq_of_lt h2]
          · rw [Nat.add_mul_div_right _ _ (Nat.two_pow_pos _), Nat.div_eq_of_lt h2, Nat.zero_add]
        | false =>
          simp only [Bool.false_eq_true, if_false, Nat.add_zero]
          exact ⟨Nat.mod_eq_of_lt h2, fun q => absurd q (by decide)⟩
      · cases h
    · cases h
theorem K_stepsTo {sl s0 N M j p n : Nat} {δ : Nat → Nat → Option Nat} {st par lab : Nat → Nat} (hS : cs_S iv fd sn N st par M) (hl : cs_L fd nf sn ns M) (hb : bf δ n s0 N st par lab p) (hj : j < N) : F_X6_stepsTo fd nf sn ns (nI j) iv = some (nI (bo par lab j).length) := by
  have hN := hS.2.1
  have hM : M ≤ 32768 := Nat.le_trans hl.2.2.2.1 hl.2.2.2.2.2.1
  have hMf := hl.2.2.2.1
  have hnf := hl.2.2.2.2.2.1
  have hlen := bo_ln (par := par) (lab := lab) j
  obtain ⟨x, h1, h2⟩ := am_loop_n (f := fun s : (Int32 × Int32) => B_X6_stepsTo_4 fd nf sn ns iv s.1 s.2) (fun t s => s.1 = nI t ∧ ∃ q, q < N ∧ s.2 = nI q ∧ t + (bo par lab q).length = (bo par lab j).length) (X := fun x => x = nI (bo par lab j).length) (bo par lab j).length (by omega) (by
      rintro t ⟨i2, i3⟩ ht ⟨a1, q, a2, a3, a4⟩
      dsimp only at a1 a3
      subst a1; subst a3
      have hq0 : 1 ≤ q := by
        by_cases e : q = 0
        · rw [e, bo_0] at a4; simp at a4; omega
        · omega
      have hbo := bo_s (lab := lab) hb.pr hq0 a2
      have hpq := hb.pr q hq0 a2
      rw [hbo] at a4
      simp only [List.length_cons] at a4
      left
      show ∃ s', B_X6_stepsTo_4 _ _ _ _ _ (nI t) (nI q) = _ ∧ _
      unfold B_X6_stepsTo_4
      rw [if_neg (nI_nle (by omega) (by omega)), hS.1, nle (by omega) (by omega), if_neg (by omega), nle (by omega) (by omega), if_neg (by omega), if_pos (vb (show q < nf by omega) (by omega)), am_cl (by omega), (cs_st hS hM a2).2]
      exact ⟨_, rfl, nI_1 t, par q, by omega, rfl, by omega⟩) (by
      rintro ⟨i2, i3⟩ ⟨a1, q, a2, a3, a4⟩
      dsimp only at a1 a3
      subst a1; subst a3
      have hq0 : q = 0 := by
        by_cases e : q = 0
        · exact e
        · rw [bo_s (lab := lab) hb.pr (by omega) a2] at a4
          simp at a4
      subst hq0
      refine ⟨_, ?_, rfl⟩
      show B_X6_stepsTo_4 _ _ _ _ _ _ (nI 0) = _
      unfold B_X6_stepsTo_4
      rw [if_pos (show nI 0 ≤ 0 by decide)]) ((0 : Int32), nI j) ⟨rfl, j, hj, rfl, by omega⟩
  unfold F_X6_stepsTo
  rw [h1, am_o1_s, h2]
theorem K_writeSteps {sl s0 N j p pp np : Nat} {br : Bool} {st par lab : Nat → Nat} (hS : cs_S iv fd sn N st par (kM c br)) (hc : cy_ok c) (hl : cs_L fd nf sn ns (kM c br)) (hb : bf (ks c ρ sl br) (cy_n c) s0 N st par lab p) (h3 : iv 50 3 = nI (2 ^ cy_n c - 1)) (hj : j < N) (hp1 : pp ≠ fd) (hp2 : pp ≠ 50) (hnp : (bo par lab j).length ≤ np) (hnp2 : np ≤ 60000) :
    ∃ iv', F_X6_writeSteps fd nf sn ns pp np (nI j) (nI (bo par lab j).length) iv = some iv' ∧ rw_of iv' pp (bo par lab j) := by
  have hn := hc.1
  have hN := hS.2.1
  have hM := kM_le hc br
  have hMf := hl.2.2.2.1
  have hnf := hl.2.2.2.2.2.1
  have hlen := bo_ln (par := par) (lab := lab) j
  generalize hw : bo par lab j = wd at *
  have H : ∃ x, am_loop (fun s : (Int32 × Int32 × am_I) => B_X6_writeSteps_13 fd nf sn ns pp np s.1 s.2.1 s.2.2) (nI j, nI wd.length - 1, iv) = some x ∧ ∃ z, x = .inl z ∧ rw_of z pp wd := by
    refine am_loop_n (fun t s => am_fr [pp] [] iv s.2.2 ∧ s.2.1 = nI (wd.length - t) - 1 ∧ (∃ q, q < N ∧ s.1 = nI q ∧ wd.drop t = bo par lab q) ∧ ∀ i, i < t → s.2.2 pp (wd.length - 1 - i) = nI (wd.getD i 0)) wd.length (by omega) ?_ ?_ _ ⟨am_fr.rf _ _ _, rfl, ⟨j, hj, rfl, by rw [hw]; rfl⟩, fun i hi => absurd hi (Nat.not_lt_zero _)⟩
    · rintro t ⟨i4, i5, iv1⟩ ht ⟨a1, a2, ⟨q, b1, b2, b3⟩, a4⟩
      dsimp only at a1 a2 b2 a4
      subst a2; subst b2
      have hq0 : 1 ≤ q := by
        by_cases e : q = 0
        · rw [e, bo_0] at b3
          have := congrArg List.length b3
          simp at this; omega
        · omega
      have hbo := bo_s (lab := lab) hb.pr hq0 b1
      have hpq := hb.pr q hq0 b1
      obtain ⟨-, hlab, hks, -⟩ := hb.2.1 q hq0 b1
      rw [hbo] at b3
      have hS1 : cs_S iv1 fd sn N st par (kM c br) ∨ True := Or.inr trivial
      have e2 : iv1 50 2 = nI N := by rw [a1 50 2 (by simp; omega) (by simp)]; exact hS.1
      have e3 : iv1 50 3 = nI (2 ^ cy_n c - 1) := by rw [a1 50 3 (by simp; omega) (by simp)]; exact h3
      have efd : iv1 fd = iv fd := funext fun k => a1 fd k (by simp; omega) (by simp)
      left
      show ∃ s', B_X6_writeSteps_13 _ _ _ _ _ _ (nI q) (nI (wd.length - t) - 1) iv1 = _ ∧ _
      unfold B_X6_writeSteps_13
      have hx : ((iv fd q ^^^ iv fd (par q)) &&& nI (2 ^ cy_n c - 1)) = nI (2 ^ lab q) := by
        obtain ⟨c1, c2, c3⟩ := hS.2.2.1 q b1
        obtain ⟨d1, d2, d3⟩ := hS.2.2.1 (par q) (by omega)
        rw [c3, d3, fb_xorI, fa_and, and_mask, Nat.xor_mod_two_pow]
        have hdiv : ∀ a b, (a + b * 32768) % 2 ^ cy_n c = a % 2 ^ cy_n c := by
          intro a b
          have : 32768 = 2 ^ (15 - cy_n c) * 2 ^ cy_n c := by rw [← Nat.pow_add, show 15 - cy_n c + cy_n c = 15 by omega]
          rw [this, ← Nat.mul_assoc, Nat.add_mul_mod_self_right]
        rw [hdiv, hdiv, (ks_mod hlab hks).1]
        congr 1
        rw [Nat.xor_comm, ← Nat.xor_assoc, Nat.xor_self, Nat.zero_xor]
      rw [nI_s1 (by omega), if_neg (nI_pos (by omega)), if_neg (nI_nle (by omega) (by omega)), e2, nle (by omega) (by omega), if_neg (by omega), if_pos (vb (show q < nf by omega) (by omega)), am_cl (show q < 65536 by omega), efd, (cs_st hS hM b1).2, if_neg (nI_pos (show par q < 2 ^ 31 by omega)), nlt (show par q < 65536 by omega) (show q < 65536 by omega), if_pos (show par q < q by omega), if_pos (vb (show q < nf by omega) (by omega)), if_pos (vb (show par q < nf by omega) (by omega)), if_pos (vb (show wd.length - t - 1 < np by omega) (by omega)), am_cl (show par q < 65536 by omega), am_cl (show wd.length - t - 1 < 65536 by omega), e3, hx, am_bcd _ (by omega)]
      have hdt : wd.getD t 0 = lab q := by
        have := congrArg (fun l : List Nat => l.getD 0 0) b3
        simpa [List.getD_eq_getElem?_getD] using this
      refine ⟨_, rfl, a1.a (by simp), ?_, ⟨par q, by omega, rfl, ?_⟩, fun i hi => ?_⟩
      · show nI (wd.length - t - 1) + (-1) = nI (wd.length - (t + 1)) - 1
        rw [show wd.length - (t + 1) = wd.length - t - 1 by omega, Int32.sub_eq_add_neg]
      · have := congrArg (List.drop 1) b3
        rw [List.drop_drop] at this
        simpa [Nat.add_comm] using this
      · show am_w iv1 pp (wd.length - t - 1) (nI (lab q)) pp (wd.length - 1 - i) = _
        rw [am_w_r, if_pos rfl]
        by_cases e : i = t
        · rw [if_pos (by omega), e, hdt]
        · rw [if_neg (by omega)]; exact a4 i (by omega)
    · rintro ⟨i4, i5, iv1⟩ ⟨a1, a2, -, a4⟩
      dsimp only at a1 a2 a4
      subst a2
      refine ⟨.inl iv1, ?_, iv1, rfl, a4⟩
      show B_X6_writeSteps_13 _ _ _ _ _ _ _ _ _ = _
      unfold B_X6_writeSteps_13
      rw [Nat.sub_self, if_pos (show nI 0 - 1 < 0 by decide)]
  obtain ⟨_, h1, x, rfl, h2⟩ := H
  refine ⟨x, ?_, h2⟩
  unfold F_X6_writeSteps
  rw [show Int32.ofNat np = nI np from rfl, if_neg (nI_nlt (by omega) (by omega)), h1, am_lp_l]
theorem K_everOut {N M : Nat} {st par : Nat → Nat} (hS : cs_S iv fd sn N st par M) (hl : cs_L fd nf sn ns M) (hc : cy_ok c) (h3 : iv 50 3 = nI (2 ^ cy_n c - 1)) : J_X6_everOut_10 fd nf sn ns iv = some (nI (cy_or (fun j => st j % 2 ^ cy_n c) N), iv) := by
  have hN := hS.2.1
  have hMf := hl.2.2.2.1
  have hnf := hl.2.2.2.2.2.1
  have hn := hc.1
  have hl2 : am_loop (fun s : (Int32 × Int32) => B_X6_everOut_16 fd nf sn ns iv s.1 s.2) ((0 : Int32), (0 : Int32)) = some (nI (cy_or (fun j => st j % 2 ^ cy_n c) N)) := by
    refine am_loop_seq (fun i => (nI (cy_or (fun j => st j % 2 ^ cy_n c) i), nI i)) N (by omega) rfl (fun j hj => ?_) ?_
    · obtain ⟨c1, c2, c3⟩ := hS.2.2.1 j hj
      show B_X6_everOut_16 _ _ _ _ _ (nI (cy_or _ j)) (nI j) = some (Sum.inl (nI (cy_or _ j ||| _), nI (j + 1)))
      unfold B_X6_everOut_16
      have hdiv : (st j + par j * 32768) % 2 ^ cy_n c = st j % 2 ^ cy_n c := by
        have : 32768 = 2 ^ (15 - cy_n c) * 2 ^ cy_n c := by rw [← Nat.pow_add, show 15 - cy_n c + cy_n c = 15 by omega]
        rw [this, ← Nat.mul_assoc, Nat.add_mul_mod_self_right]
      rw [hS.1, nle (by omega) (by omega), if_neg (by omega), if_pos (vb (show j < nf by omega) (by omega)), am_cl (by omega), c3, h3, fa_and, and_mask, hdiv, fa_or, nI_1]
    · show B_X6_everOut_16 _ _ _ _ _ _ (nI N) = _
      unfold B_X6_everOut_16
      rw [hS.1, if_pos (Int32.le_refl _)]
  unfold J_X6_everOut_10
  rw [hl2, am_o1_s]
/-- the model's state as the class's -/
def kh (c : Nat → Nat → Nat) (br : Bool) (k : Nat) : Nat := k / 32 + (if br then (k % 32) * 2 ^ cy_n c else 0)
def kV (c : Nat → Nat → Nat) (k : Nat) : Prop := k / 32 < 2 ^ cy_n c ∧ k % 32 < 2 ^ cy_p c
theorem kh_md {br : Bool} {k : Nat} (h : kV c k) : kh c br k % 2 ^ cy_n c = k / 32 ∧ (br = true → kh c br k / 2 ^ cy_n c = k % 32) ∧ kh c br k < kM c br := by
  unfold kh kM
  cases br with
  | true =>
    simp only [if_true]
    refine ⟨by rw [Nat.add_mul_mod_self_right, Nat.mod_eq_of_lt h.1], fun _ => by rw [Nat.add_mul_div_right _ _ (Nat.two_pow_pos _), Nat.div_eq_of_lt h.1, Nat.zero_add], ?_⟩
    calc _ < 2 ^ cy_n c + k % 32 * 2 ^ cy_n c := by have := h.1; omega
      _ = (k % 32 + 1) * 2 ^ cy_n c := by rw [Nat.add_mul, Nat.one_mul, Nat.add_comm]
      _ ≤ 2 ^ cy_p c * 2 ^ cy_n c := Nat.mul_le_mul_right _ h.2
      _ = _ := Nat.mul_comm _ _
  | false =>
    simp only [Bool.false_eq_true, if_false, Nat.add_zero, Nat.mul_one]
    exact ⟨Nat.mod_eq_of_lt h.1, fun q => absurd q (by decide), h.1⟩
theorem md_V (hc : cy_ok c) {sl : Nat} : ∀ x d y, kV c x → d < cy_n c → md c ρ sl x d = some y → kV c y := by
  intro x d y hx hd h
  unfold md at h
  split at h
  · cases h
  · split at h
    · split at h
      · have h := Option.some.inj h
        have h1 : x / 32 ^^^ 2 ^ d < 2 ^ cy_n c := cy_x2 hx.1 hd
        have h2 : x % 32 ||| cy_fed c (x / 32 ^^^ 2 ^ d) < 2 ^ cy_p c := am_orlt hx.2 (cy_bits_lt _ _)
        have h3 := cy_p5 hc.2.2.1
        subst h
        constructor <;> omega
      · cases h
    · cases h
theorem ks_hom (hc : cy_ok c) {sl : Nat} {br : Bool} : ∀ x d, kV c x → d < cy_n c → ks c ρ sl br (kh c br x) d = (md c ρ sl x d).map (kh c br) := by
  intro x d hx hd
  obtain ⟨h1, h2, -⟩ := kh_md (br := br) hx
  have h4 : x / 32 ^^^ 2 ^ d < 2 ^ cy_n c := cy_x2 hx.1 hd
  have h5 : x % 32 ||| cy_fed c (x / 32 ^^^ 2 ^ d) < 2 ^ cy_p c := am_orlt hx.2 (cy_bits_lt _ _)
  have h3 := cy_p5 hc.2.2.1
  unfold ks md
  rw [h1]
  cases sl.testBit d with
  | true => rfl
  | false =>
    cases (cy_rch c (x / 32)).testBit d with
    | false => rfl
    | true =>
      cases cy_can c ρ (x / 32 ^^^ 2 ^ d) with
      | false => rfl
      | true =>
        simp only [Bool.false_eq_true, if_false, if_true, Option.map_some]
        congr 1
        unfold kh at h2 ⊢
        have e1 : (32 * (x / 32 ^^^ 2 ^ d) + (x % 32 ||| cy_fed c (x / 32 ^^^ 2 ^ d))) / 32 = x / 32 ^^^ 2 ^ d := by omega
        have e2 : (32 * (x / 32 ^^^ 2 ^ d) + (x % 32 ||| cy_fed c (x / 32 ^^^ 2 ^ d))) % 32 = (x % 32 ||| cy_fed c (x / 32 ^^^ 2 ^ d)) := by omega
        rw [e1, e2]
        cases br with
        | true => have h6 := h2 rfl; simp only [if_true] at h6 ⊢; rw [h6]
        | false => rfl
end B44
