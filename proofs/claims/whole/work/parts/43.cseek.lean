/-! the class's search -/
theorem am_31 : ∀ d, d < 32 → nI d &&& 31 = nI d := by decide +kernel
theorem nI_bit {a i : Nat} (hi : i < 32) : (nI a).toBitVec.getLsbD i = a.testBit i := by
  rw [nI_toBV, BitVec.getLsbD_ofNat]; simp [hi]
theorem m1_bit : ∀ i, i < 32 → (-1 : Int32).toBitVec.getLsbD i = true := by decide +kernel
theorem nI_andn (a b : Nat) : nI a &&& (nI b ^^^ (-1 : Int32)) = nI (a ^^^ (a &&& b)) := by
  apply Int32.toBitVec_inj.1
  apply BitVec.eq_of_getLsbD_eq
  intro i hi
  have h1 : (nI a &&& (nI b ^^^ (-1 : Int32))).toBitVec = (nI a).toBitVec &&& ((nI b).toBitVec ^^^ (-1 : Int32).toBitVec) := rfl
  rw [h1, BitVec.getLsbD_and, BitVec.getLsbD_xor, nI_bit hi, nI_bit hi, nI_bit hi, m1_bit i hi, Nat.testBit_xor, Nat.testBit_and]
  cases a.testBit i <;> cases b.testBit i <;> rfl
theorem am_bitt {a d : Nat} (hd : d < 31) : (nI a >>> (nI d &&& 31) &&& 1 = 0) ↔ a.testBit d = false := by
  rw [am_31 d (by omega), sh_bit _ (by omega), nI_bit (by omega)]
theorem an_t (a b i : Nat) : (a ^^^ (a &&& b)).testBit i = (a.testBit i && !b.testBit i) := by
  rw [Nat.testBit_xor, Nat.testBit_and]
  cases a.testBit i <;> cases b.testBit i <;> rfl
theorem an_mask (a n : Nat) : a ^^^ (a &&& (2 ^ n - 1)) = a / 2 ^ n * 2 ^ n := by
  refine Nat.eq_of_testBit_eq (fun i => ?_)
  rw [an_t, Nat.testBit_two_pow_sub_one, Nat.testBit_mul_two_pow]
  by_cases h : i < n
  · have : ¬ n ≤ i := by omega
    simp [h, this]
  · have h2 : n ≤ i := by omega
    have h3 : i - n + n = i := by omega
    simp [h, h2, Nat.testBit_div_two_pow, h3]
/-- the class's graph of states: what is out, above it who has bread, if that is sought -/
def ks (c : Nat → Nat → Nat) (ρ : ru_T) (sl : Nat) (br : Bool) (s d : Nat) : Option Nat :=
  if sl.testBit d then none else if (cy_rch c (s % 2 ^ cy_n c)).testBit d then (if cy_can c ρ ((s % 2 ^ cy_n c) ^^^ 2 ^ d) then some (((s % 2 ^ cy_n c) ^^^ 2 ^ d) + (if br then ((s / 2 ^ cy_n c) ||| cy_fed c ((s % 2 ^ cy_n c) ^^^ 2 ^ d)) * 2 ^ cy_n c else 0)) else none) else none
def kM (c : Nat → Nat → Nat) (br : Bool) : Nat := 2 ^ cy_n c * (if br then 2 ^ cy_p c else 1)
theorem kM_le {c : Nat → Nat → Nat} (hc : cy_ok c) (br : Bool) : kM c br ≤ 32768 := by
  have h1 := cy_p10 hc.1
  have h2 := cy_p5 hc.2.2.1
  unfold kM
  cases br with
  | true => exact Nat.mul_le_mul h1 h2
  | false => simp; omega
theorem ks_lt {c : Nat → Nat → Nat} {ρ : ru_T} {sl : Nat} {br : Bool} {s d y : Nat} (hs : s < kM c br) (hd : d < cy_n c) (h : ks c ρ sl br s d = some y) : y < kM c br := by
  have h2 : s % 2 ^ cy_n c ^^^ 2 ^ d < 2 ^ cy_n c := cy_x2 (Nat.mod_lt _ (Nat.two_pow_pos _)) hd
  unfold ks at h
  split at h
  · cases h
  · split at h
    · split at h
      · have h := Option.some.inj h
        subst h
        unfold kM at hs ⊢
        cases br with
        | true =>
          simp only [if_true] at hs ⊢
          have h3 : s / 2 ^ cy_n c < 2 ^ cy_p c := Nat.div_lt_of_lt_mul hs
          have h4 : (s / 2 ^ cy_n c ||| cy_fed c (s % 2 ^ cy_n c ^^^ 2 ^ d)) < 2 ^ cy_p c := am_orlt h3 (cy_bits_lt _ _)
          calc _ < 2 ^ cy_n c + (s / 2 ^ cy_n c ||| cy_fed c (s % 2 ^ cy_n c ^^^ 2 ^ d)) * 2 ^ cy_n c := by omega
            _ = ((s / 2 ^ cy_n c ||| cy_fed c (s % 2 ^ cy_n c ^^^ 2 ^ d)) + 1) * 2 ^ cy_n c := by rw [Nat.add_mul, Nat.one_mul, Nat.add_comm]
            _ ≤ 2 ^ cy_p c * 2 ^ cy_n c := Nat.mul_le_mul_right _ h4
            _ = _ := Nat.mul_comm _ _
        | false => simp; omega
      · cases h
    · cases h
/-- the search's rows -/
def sb (iv : am_I) (sn s : Nat) : Bool := (iv sn (s / 32)).toBitVec.getLsbD (s % 32)
def cs_S (iv : am_I) (fd sn N : Nat) (st par : Nat → Nat) (M : Nat) : Prop :=
  iv 50 2 = nI N ∧ N ≤ M ∧ (∀ j, j < N → st j < M ∧ par j < 32768 ∧ iv fd j = nI (st j + par j * 32768)) ∧ ∀ s, s < M → (sb iv sn s = true ↔ ∃ j, j < N ∧ st j = s)
/-- which cells: where the rows lie and how long they are -/
def cs_L (fd nf sn ns M : Nat) : Prop := fd ≠ sn ∧ 51 ≤ fd ∧ 51 ≤ sn ∧ M ≤ nf ∧ M ≤ 32 * ns ∧ nf ≤ 32768 ∧ ns ≤ 1024
section B43
variable {iv iv' : am_I} {c : Nat → Nat → Nat} {w : Nat} {ρ : ru_T} {fd nf sn ns : Nat}
theorem cs_S.fr {A : List Nat} {L : List (Nat × Nat)} {N M : Nat} {st par : Nat → Nat} (h : cs_S iv fd sn N st par M) (f : am_fr A L iv iv') (h1 : fd ∉ A) (h2 : sn ∉ A) (h3 : 50 ∉ A) (h4 : (50, 2) ∉ L) (h5 : ∀ q ∈ L, q.1 ≠ fd ∧ q.1 ≠ sn) : cs_S iv' fd sn N st par M := by
  obtain ⟨a1, a2, a3, a4⟩ := h
  refine ⟨by rw [f 50 2 h3 h4]; exact a1, a2, fun j hj => ?_, fun s hs => ?_⟩
  · rw [f fd j h1 (fun q => (h5 _ q).1 rfl)]; exact a3 j hj
  · have : sb iv' sn s = sb iv sn s := by
      unfold sb
      rw [f sn (s / 32) h2 (fun q => (h5 _ q).2 rfl)]
    rw [this]
    exact a4 s hs
theorem K_note {N M s q : Nat} {st par : Nat → Nat} (hS : cs_S iv fd sn N st par M) (hl : cs_L fd nf sn ns M) (hs : s < M) (hq : q < 32768) (hi : ∀ i j, i < j → j < N → st i ≠ st j) :
    ((∃ j, j < N ∧ st j = s) ∧ F_X6_note fd nf sn ns (nI s) (nI q) iv = some (0, iv)) ∨ ((∀ j, j < N → st j ≠ s) ∧ ∃ iv', F_X6_note fd nf sn ns (nI s) (nI q) iv = some (1, iv') ∧ cs_S iv' fd sn (N + 1) (upn st N s) (upn par N q) M) := by
  obtain ⟨l1, l2, l3, l4, l5, l6, l7⟩ := hl
  obtain ⟨a1, a2, a3, a4⟩ := hS
  have e1 : nI s >>> ((5 : Int32) &&& 31) = nI (s / 32) := nI_shr (k := 5) (by omega) (by decide)
  have e2 : (nI s &&& (31 : Int32)) &&& 31 = nI (s % 32) := by
    have : nI s &&& (31 : Int32) = nI (s % 32) := by
      rw [show (31 : Int32) = nI (2 ^ 5 - 1) from rfl, fa_and, and_mask]
    rw [this, am_31 _ (by omega)]
  have e3 : nI s ||| (nI q <<< ((15 : Int32) &&& 31)) = nI (s + q * 32768) := by
    have : nI q <<< ((15 : Int32) &&& 31) = nI (q * 2 ^ 15) := nI_shl (k := 15) (by decide)
    rw [this, fa_or, or_add (k := 15) _ (by omega)]
  have hb := sh_bit (iv sn (s / 32)) (show s % 32 < 32 by omega)
  have hbs : (iv sn (s / 32)).toBitVec.getLsbD (s % 32) = sb iv sn s := rfl
  unfold F_X6_note
  rw [e1, e2, e3, show Int32.ofNat ns = nI ns from rfl, show Int32.ofNat nf = nI nf from rfl, if_neg (nI_pos (by omega)), if_neg (nI_ge (by omega) (by omega)), if_pos (vb (by omega) (by omega)), am_cl (by omega)]
  have hr := a4 s hs
  cases hsb : sb iv sn s with
  | true =>
    left
    refine ⟨hr.mp hsb, ?_⟩
    rw [if_neg (by rw [hb, hbs, hsb]; decide)]
  | false =>
    right
    have hno : ∀ j, j < N → st j ≠ s := fun j hj e => by
      have := hr.mpr ⟨j, hj, e⟩
      rw [hsb] at this; cases this
    have hN : N + 1 ≤ M := pg_le M (N + 1) (upn st N s) (fun j hj => by
      by_cases e : j = N
      · rw [e, upn_s]; exact hs
      · rw [upn_o _ _ e]; exact (a3 j (by omega)).1) (fun i j hij hj => by
      by_cases e : j = N
      · rw [e, upn_s, upn_o _ _ (by omega)]; exact hno i (by omega)
      · rw [upn_o _ _ e, upn_o _ _ (by omega)]; exact hi i j hij (by omega))
    refine ⟨hno, ?_⟩
    have o1 : ∀ (k : Nat) (v : Int32), am_w iv sn k v 50 = iv 50 := fun k v => am_w_other _ _ _ (by omega)
    have o2 : ∀ (x : am_I) (k : Nat) (v : Int32), am_w x fd k v 50 = x 50 := fun x k v => am_w_other _ _ _ (by omega)
    rw [if_pos (by rw [hb, hbs, hsb])]
    simp only [o2, o1, a1]
    rw [if_pos (nI_lt (by omega) (by omega)), if_pos (vb (show s / 32 < ns by omega) (by omega)), if_pos (vb (show s / 32 < ns by omega) (by omega)), if_pos (vb (show N < nf by omega) (by omega)), am_cl (by omega)]
    refine ⟨_, rfl, ?_⟩
    refine ⟨by rw [am_w_r, if_pos rfl, if_pos rfl, nI_1], hN, fun j hj => ?_, fun t ht => ?_⟩
    · by_cases e : j = N
      · rw [e, upn_s, upn_s, am_w_other _ _ _ (by omega), am_w_r, if_pos rfl, if_pos rfl]
        exact ⟨hs, hq, rfl⟩
      · obtain ⟨b1, b2, b3⟩ := a3 j (by omega)
        rw [upn_o _ _ e, upn_o _ _ e, am_w_other _ _ _ (by omega), am_w_r, if_pos rfl, if_neg e, am_w_other _ _ _ (by omega)]
        exact ⟨b1, b2, b3⟩
    · have hsb2 : sb (am_w (am_w (am_w iv sn (s / 32) (iv sn (s / 32) ||| (1 : Int32) <<< nI (s % 32))) fd N (nI (s + q * 32768))) 50 2 (nI N + 1)) sn t = (sb iv sn t || decide (t = s)) := by
        unfold sb
        rw [am_w_other _ _ _ (by omega), am_w_other _ _ _ (by omega), am_w_r, if_pos rfl]
        by_cases e : t / 32 = s / 32
        · rw [if_pos e, sh_set _ (by omega) (by omega), e]
          congr 1
          rw [decide_eq_decide]
          omega
        · rw [if_neg e]
          have : decide (t = s) = false := by simp; intro q; rw [q] at e; exact e rfl
          rw [this, Bool.or_false]
      rw [hsb2, Bool.or_eq_true, a4 t ht]
      constructor
      · rintro (⟨j, h1, h2⟩ | h)
        · exact ⟨j, by omega, by rw [upn_o _ _ (by omega)]; exact h2⟩
        · exact ⟨N, by omega, by rw [upn_s]; exact (of_decide_eq_true h).symm⟩
      · rintro ⟨j, h1, h2⟩
        by_cases e : j = N
        · rw [e, upn_s] at h2
          exact Or.inr (by rw [h2]; simp)
        · rw [upn_o _ _ e] at h2
          exact Or.inl ⟨j, by omega, h2⟩
theorem cs_st {N M j : Nat} {st par : Nat → Nat} (hS : cs_S iv fd sn N st par M) (hM : M ≤ 32768) (hj : j < N) : iv fd j &&& (32767 : Int32) = nI (st j) ∧ iv fd j >>> ((15 : Int32) &&& 31) = nI (par j) := by
  obtain ⟨b1, b2, b3⟩ := hS.2.2.1 j hj
  rw [b3]
  constructor
  · rw [show (32767 : Int32) = nI (2 ^ 15 - 1) from rfl, fa_and, and_mask]
    congr 1
    omega
  · have : nI (st j + par j * 32768) >>> ((15 : Int32) &&& 31) = nI ((st j + par j * 32768) / 2 ^ 15) := nI_shr (k := 15) (by omega) (by decide)
    rw [this]
    congr 1
    omega
/-- what holds all along a search -/
def cs_I (w : Nat) (iv : am_I) (c : Nat → Nat → Nat) (ρ : ru_T) : Prop := cl_W w iv c ρ ∧ iv 50 3 = nI (2 ^ cy_n c - 1)
theorem am_bcd : ∀ d, d < 10 → am_bcI (nI (2 ^ d) - 1) = nI d := by decide +kernel
theorem K_seekIn {br : Bool} {sl s0 q N : Nat} {st par lab : Nat → Nat} {i4 i5 : Int32} {g : Nat → Bool} (hw : w = 2 ∨ w = 22) (hI : cs_I w iv c ρ) (hc : cy_ok c) (ho : ru_ok ρ (cy_r c)) (hl : cs_L fd nf sn ns (kM c br)) (hsl : sl < 1024) (hg : ∀ s, s < kM c br → ((nI s &&& i4 = i5) ↔ g s = true))
    (hb : bf (ks c ρ sl br) (cy_n c) s0 N st par lab (q * 16)) (hS : cs_S iv fd sn N st par (kM c br)) (hq : q < N) (hng : ∀ j, j < N → g (st j) = false) :
    ∃ x, am_loop (fun s : (Int32 × am_I) => B_X6_seek_156 fd nf sn ns w (nI sl) i4 i5 (nI (cy_n c)) (am_bi br) (nI q) (nI (st q)) (nI (st q % 2 ^ cy_n c)) (nI (cy_rch c (st q % 2 ^ cy_n c)) &&& (nI sl ^^^ (-1 : Int32))) s.1 s.2) ((0 : Int32), iv) = some x ∧
      ∃ N' st' par' lab', N ≤ N' ∧ ((∃ iv', x = .inl iv' ∧ cs_I w iv' c ρ ∧ cs_S iv' fd sn N' st' par' (kM c br) ∧ bf (ks c ρ sl br) (cy_n c) s0 N' st' par' lab' (q * 16 + cy_n c) ∧ ∀ j, j < N' → g (st' j) = false) ∨
        (∃ iv' p, x = .inr (nI (N' - 1), iv') ∧ cs_I w iv' c ρ ∧ cs_S iv' fd sn N' st' par' (kM c br) ∧ bf (ks c ρ sl br) (cy_n c) s0 N' st' par' lab' p ∧ g (st' (N' - 1)) = true ∧ ∀ j, j < N' - 1 → g (st' j) = false)) := by
  have hn := hc.1
  have h10 := cy_p10 hn
  have hM := kM_le hc br
  have hkq := (hS.2.2.1 q hq).1
  have hset : st q % 2 ^ cy_n c < 2 ^ cy_n c := Nat.mod_lt _ (Nat.two_pow_pos _)
  have hfd := hl.2.1
  have hsn := hl.2.2.1
  refine am_loop_n (fun d s => s.1 = nI d ∧ cs_I w s.2 c ρ ∧ ∃ N' st' par' lab', N ≤ N' ∧ cs_S s.2 fd sn N' st' par' (kM c br) ∧ bf (ks c ρ sl br) (cy_n c) s0 N' st' par' lab' (q * 16 + d) ∧ st' q = st q ∧ ∀ j, j < N' → g (st' j) = false) (cy_n c) (by omega) ?_ ?_ _ ⟨rfl, hI, N, st, par, lab, Nat.le_refl _, hS, hb, rfl, hng⟩
  · rintro d ⟨k0, iv1⟩ hd ⟨a1, a2, N', st', par', lab', a3, a4, a5, a6, a7⟩
    dsimp only at a1 a2 a4
    subst a1
    have hy2 : st q % 2 ^ cy_n c ^^^ 2 ^ d < 2 ^ cy_n c := cy_x2 hset hd
    show (∃ s', B_X6_seek_156 _ _ _ _ _ _ _ _ _ _ _ _ _ _ (nI d) iv1 = _ ∧ _) ∨ (∃ s', B_X6_seek_156 _ _ _ _ _ _ _ _ _ _ _ _ _ _ (nI d) iv1 = _ ∧ _)
    unfold B_X6_seek_156
    have hmv : ((nI (cy_rch c (st q % 2 ^ cy_n c)) &&& (nI sl ^^^ (-1 : Int32))) >>> (nI d &&& 31) &&& 1 = 0) ↔ ((cy_rch c (st q % 2 ^ cy_n c)).testBit d && !sl.testBit d) = false := by
      rw [nI_andn, am_bitt (by omega), an_t]
    rw [nle (by omega) (by omega), if_neg (by omega), am_shl1 d (by omega), fb_xorI]
    have hks : ks c ρ sl br (st' q) d = if sl.testBit d then none else if (cy_rch c (st q % 2 ^ cy_n c)).testBit d then (if cy_can c ρ ((st q % 2 ^ cy_n c) ^^^ 2 ^ d) then some (((st q % 2 ^ cy_n c) ^^^ 2 ^ d) + (if br then ((st q / 2 ^ cy_n c) ||| cy_fed c ((st q % 2 ^ cy_n c) ^^^ 2 ^ d)) * 2 ^ cy_n c else 0)) else none) else none := by rw [a6]; rfl
    have NO : ∀ iv2, cs_I w iv2 c ρ → cs_S iv2 fd sn N' st' par' (kM c br) → ks c ρ sl br (st' q) d = none → ∃ s' : Int32 × am_I, some (Sum.inl (nI d + 1, iv2) : (Int32 × am_I) ⊕ (am_I ⊕ (Int32 × am_I))) = some (.inl s') ∧ s'.1 = nI (d + 1) ∧ cs_I w s'.2 c ρ ∧ ∃ N' st' par' lab', N ≤ N' ∧ cs_S s'.2 fd sn N' st' par' (kM c br) ∧ bf (ks c ρ sl br) (cy_n c) s0 N' st' par' lab' (q * 16 + (d + 1)) ∧ st' q = st q ∧ ∀ j, j < N' → g (st' j) = false := by
      intro iv2 hI2 hS2 h0
      exact ⟨_, rfl, nI_1 d, hI2, N', st', par', lab', a3, hS2, a5.no hn hd (fun y hy => by rw [h0] at hy; cases hy), a6, a7⟩
    by_cases hm : (nI (cy_rch c (st q % 2 ^ cy_n c)) &&& (nI sl ^^^ (-1 : Int32))) >>> (nI d &&& 31) &&& 1 = 0
    · rw [if_pos hm]
      left
      refine NO iv1 a2 a4 ?_
      rw [hmv] at hm
      rw [hks]
      cases h1 : sl.testBit d <;> cases h2 : (cy_rch c (st q % 2 ^ cy_n c)).testBit d <;> simp [h1, h2] at hm ⊢
    · rw [if_neg hm]
      have hm2 : sl.testBit d = false ∧ (cy_rch c (st q % 2 ^ cy_n c)).testBit d = true := by
        rw [hmv] at hm
        cases h1 : sl.testBit d <;> cases h2 : (cy_rch c (st q % 2 ^ cy_n c)).testBit d <;> simp [h1, h2] at hm ⊢
      obtain ⟨iv2, e2, w2⟩ := K_canBe a2.1 hc ho (show st q % 2 ^ cy_n c ^^^ 2 ^ d < 1024 by omega)
      have f2 := X_X0_canBe e2
      have hS2 : cs_S iv2 fd sn N' st' par' (kM c br) := a4.fr f2 (by simp; omega) (by simp; omega) (by simp; omega) (by simp) (by simp)
      have hI2 : cs_I w iv2 c ρ := ⟨w2, by rw [f2 50 3 (by simp; omega) (by simp)]; exact a2.2⟩
      rw [e2, am_o2_s, ifb]
      cases hcan : cy_can c ρ ((st q % 2 ^ cy_n c) ^^^ 2 ^ d) with
      | false =>
        rw [if_neg (by decide)]
        left
        exact NO iv2 hI2 hS2 (by rw [hks, hm2.1, hm2.2, hcan]; rfl)
      | true =>
        rw [if_pos rfl]
        have hks2 : ks c ρ sl br (st' q) d = some (((st q % 2 ^ cy_n c) ^^^ 2 ^ d) + (if br then ((st q / 2 ^ cy_n c) ||| cy_fed c ((st q % 2 ^ cy_n c) ^^^ 2 ^ d)) * 2 ^ cy_n c else 0)) := by rw [hks, hm2.1, hm2.2, hcan]; rfl
        have hyl := ks_lt (by rw [a6]; exact hkq) hd hks2
        have FIN : ∀ (y : Nat) (iv3 : am_I), ks c ρ sl br (st' q) d = some y → y < kM c br → cs_I w iv3 c ρ → cs_S iv3 fd sn N' st' par' (kM c br) → (∃ s', J_X6_seek_223 fd nf sn ns w (nI sl) i4 i5 (nI (cy_n c)) (am_bi br) (nI q) (nI (st q)) (nI (st q % 2 ^ cy_n c)) (nI (cy_rch c (st q % 2 ^ cy_n c)) &&& (nI sl ^^^ (-1 : Int32))) (nI d) (nI y) iv3 = some (.inl s') ∧ s'.1 = nI (d + 1) ∧ cs_I w s'.2 c ρ ∧ ∃ N' st' par' lab', N ≤ N' ∧ cs_S s'.2 fd sn N' st' par' (kM c br) ∧ bf (ks c ρ sl br) (cy_n c) s0 N' st' par' lab' (q * 16 + (d + 1)) ∧ st' q = st q ∧ ∀ j, j < N' → g (st' j) = false) ∨ (∃ x, J_X6_seek_223 fd nf sn ns w (nI sl) i4 i5 (nI (cy_n c)) (am_bi br) (nI q) (nI (st q)) (nI (st q % 2 ^ cy_n c)) (nI (cy_rch c (st q % 2 ^ cy_n c)) &&& (nI sl ^^^ (-1 : Int32))) (nI d) (nI y) iv3 = some (.inr x) ∧ ∃ N' st' par' lab', N ≤ N' ∧ ((∃ iv', x = .inl iv' ∧ cs_I w iv' c ρ ∧ cs_S iv' fd sn N' st' par' (kM c br) ∧ bf (ks c ρ sl br) (cy_n c) s0 N' st' par' lab' (q * 16 + cy_n c) ∧ ∀ j, j < N' → g (st' j) = false) ∨ (∃ iv' p, x = .inr (nI (N' - 1), iv') ∧ cs_I w iv' c ρ ∧ cs_S iv' fd sn N' st' par' (kM c br) ∧ bf (ks c ρ sl br) (cy_n c) s0 N' st' par' lab' p ∧ g (st' (N' - 1)) = true ∧ ∀ j, j < N' - 1 → g (st' j) = false))) := by
          intro y iv3 hky hy hI3 hS3
          unfold J_X6_seek_223
          have hN' := hS3.2.1
          rcases K_note hS3 hl hy (show q < 32768 by omega) a5.2.2.2.1 with ⟨hold, e⟩ | ⟨hno, iv4, e, hS4⟩
          · left
            rw [e, am_o2_s, if_pos rfl]
            exact ⟨_, rfl, nI_1 d, hI3, N', st', par', lab', a3, hS3, a5.no hn hd (fun z hz => by rw [hky] at hz; cases hz; exact hold), a6, a7⟩
          · have f4 := X_X6_note e
            have hI4 : cs_I w iv4 c ρ := by
              refine ⟨?_, by rw [f4 50 3 (by simp; omega) (by simp)]; exact hI3.2⟩
              have f5 : ∀ k, k < 17 → iv4 (w + k) = iv3 (w + k) := fun k hk => funext fun j => f4 _ j (by simp; omega) (by simp; omega)
              refine ⟨hI3.1.1.fr f5, hI3.1.2.1.fr f5, hI3.1.2.2.1.fr f5, fun s hs => ?_⟩
              rw [f4 (w + 19) s (by simp; omega) (by simp; omega)]
              exact hI3.1.2.2.2 s hs
            rw [e, am_o2_s, if_neg (by decide)]
            have hbn := a5.new hn hd (show q < N' by omega) hky hno
            have hgy := hg y hy
            by_cases hgo : nI y &&& i4 = i5
            · right
              rw [if_pos hgo, hS4.1, nI_pred]
              refine ⟨_, rfl, N' + 1, _, _, _, by omega, Or.inr ⟨iv4, _, rfl, hI4, hS4, hbn, ?_, fun j hj => ?_⟩⟩
              · show g (upn st' N' y N') = true
                rw [upn_s]; exact hgy.mp hgo
              · rw [upn_o _ _ (by omega)]; exact a7 j (by omega)
            · left
              rw [if_neg hgo]
              refine ⟨_, rfl, nI_1 d, hI4, N' + 1, _, _, _, by omega, hS4, hbn, by rw [upn_o _ _ (by omega)]; exact a6, fun j hj => ?_⟩
              by_cases ej : j = N'
              · rw [ej, upn_s]
                cases hgy9 : g y with
                | false => rfl
                | true => exact absurd (hgy.mpr hgy9) hgo
              · rw [upn_o _ _ ej]; exact a7 j (by omega)
        cases br with
        | false =>
          rw [if_pos (show am_bi false = 0 from rfl)]
          exact FIN _ iv2 (by rw [hks2]; rfl) hyl hI2 hS2
        | true =>
          rw [if_neg (show ¬ am_bi true = 0 by decide)]
          obtain ⟨iv3, e3, w3⟩ := K_fedBy w2 hc ho (show st q % 2 ^ cy_n c ^^^ 2 ^ d < 1024 by omega)
          have f3 := X_X0_fedBy e3
          have hS3 : cs_S iv3 fd sn N' st' par' (kM c true) := hS2.fr f3 (by simp; omega) (by simp; omega) (by simp; omega) (by simp) (by simp)
          have hI3 : cs_I w iv3 c ρ := ⟨w3, by rw [f3 50 3 (by simp; omega) (by simp)]; exact hI2.2⟩
          rw [e3, am_o2_s, hI2.2, nI_andn (st q) (2 ^ cy_n c - 1), an_mask, am_31 _ (by omega), nI_shl (by omega), fa_or, fa_or]
          have hsum : (st q % 2 ^ cy_n c ^^^ 2 ^ d) ||| (st q / 2 ^ cy_n c * 2 ^ cy_n c ||| cy_fed c (st q % 2 ^ cy_n c ^^^ 2 ^ d) * 2 ^ cy_n c) = (st q % 2 ^ cy_n c ^^^ 2 ^ d) + (st q / 2 ^ cy_n c ||| cy_fed c (st q % 2 ^ cy_n c ^^^ 2 ^ d)) * 2 ^ cy_n c := by
            have hor : st q / 2 ^ cy_n c * 2 ^ cy_n c ||| cy_fed c (st q % 2 ^ cy_n c ^^^ 2 ^ d) * 2 ^ cy_n c = (st q / 2 ^ cy_n c ||| cy_fed c (st q % 2 ^ cy_n c ^^^ 2 ^ d)) * 2 ^ cy_n c := by
              refine Nat.eq_of_testBit_eq (fun i => ?_)
              rw [Nat.testBit_or, Nat.testBit_mul_two_pow, Nat.testBit_mul_two_pow, Nat.testBit_mul_two_pow, Nat.testBit_or]
              cases decide (i ≥ cy_n c) <;> simp
            rw [hor, or_add _ hy2]
          rw [hsum]
          exact FIN _ iv3 (by rw [hks2]; rfl) hyl hI3 hS3
  · rintro ⟨k0, iv1⟩ ⟨a1, a2, N', st', par', lab', a3, a4, a5, a6, a7⟩
    dsimp only at a1 a2 a4
    subst a1
    refine ⟨.inl iv1, ?_, N', st', par', lab', a3, Or.inl ⟨iv1, rfl, a2, a4, a5, a7⟩⟩
    show B_X6_seek_156 _ _ _ _ _ _ _ _ _ _ _ _ _ _ _ iv1 = _
    unfold B_X6_seek_156
    rw [if_pos (Int32.le_refl _)]
/-- what a search of the class ends with -/
def cs_E (w fd sn : Nat) (c : Nat → Nat → Nat) (ρ : ru_T) (sl : Nat) (br : Bool) (s0 : Nat) (g : Nat → Bool) (v : Int32) (iv' : am_I) : Prop :=
  cs_I w iv' c ρ ∧ ∃ N st par lab p, cs_S iv' fd sn N st par (kM c br) ∧ bf (ks c ρ sl br) (cy_n c) s0 N st par lab p ∧ ((v = -1 ∧ N * 16 ≤ p ∧ ∀ j, j < N → g (st j) = false) ∨ ∃ j, j < N ∧ v = nI j ∧ g (st j) = true ∧ ∀ i, i < j → g (st i) = false)
theorem K_seek75 {br : Bool} {sl s0 : Nat} {i4 i5 : Int32} {g : Nat → Bool} (hw : w = 2 ∨ w = 22) (hI : cs_I w iv c ρ) (hc : cy_ok c) (ho : ru_ok ρ (cy_r c)) (hl : cs_L fd nf sn ns (kM c br)) (hsl : sl < 1024) (hg : ∀ s, s < kM c br → ((nI s &&& i4 = i5) ↔ g s = true)) (hs0 : s0 < kM c br) (h0 : iv 50 2 = 0) (hsee : ∀ s, s < kM c br → sb iv sn s = false) :
    ∃ v iv', J_X6_seek_75 fd nf sn ns w (nI sl) i4 i5 (nI (cy_n c)) (am_bi br) (nI s0) iv = some (v, iv') ∧ cs_E w fd sn c ρ sl br s0 g v iv' := by
  have hn := hc.1
  have hM := kM_le hc br
  have hfd := hl.2.1
  have hsn := hl.2.2.1
  have hS0 : cs_S iv fd sn 0 (fun _ => s0) (fun _ => 0) (kM c br) := ⟨h0, Nat.zero_le _, fun j hj => absurd hj (Nat.not_lt_zero _), fun s hs => by rw [hsee s hs]; simp⟩
  rcases K_note hS0 hl hs0 (show 0 < 32768 by decide) (fun i j h1 h2 => absurd h2 (Nat.not_lt_zero _)) with ⟨⟨j, hj, -⟩, -⟩ | ⟨-, iv1, e1, hS1⟩
  · exact absurd hj (Nat.not_lt_zero _)
  · have f1 := X_X6_note e1
    have hI1 : cs_I w iv1 c ρ := by
      refine ⟨?_, by rw [f1 50 3 (by simp; omega) (by simp)]; exact hI.2⟩
      have f5 : ∀ k, k < 17 → iv1 (w + k) = iv (w + k) := fun k hk => funext fun j => f1 _ j (by simp; omega) (by simp; omega)
      refine ⟨hI.1.1.fr f5, hI.1.2.1.fr f5, hI.1.2.2.1.fr f5, fun s hs => ?_⟩
      rw [f1 (w + 19) s (by simp; omega) (by simp; omega)]
      exact hI.1.2.2.2 s hs
    unfold J_X6_seek_75
    rw [show (0 : Int32) = nI 0 from rfl, e1, am_o2_s]
    have hst1 : upn (fun _ => s0) 0 s0 0 = s0 := upn_s _ _ _
    have hb1 : bf (ks c ρ sl br) (cy_n c) s0 1 (upn (fun _ => s0) 0 s0) (upn (fun _ => 0) 0 0) (fun _ => 0) 0 := bf_0 hst1
    by_cases hgo : nI s0 &&& i4 = i5
    · rw [if_pos hgo]
      exact ⟨_, _, rfl, hI1, 1, _, _, _, _, hS1, hb1, Or.inr ⟨0, by omega, rfl, by rw [hst1]; exact (hg s0 hs0).mp hgo, fun i hi => absurd hi (Nat.not_lt_zero _)⟩⟩
    · rw [if_neg hgo]
      have hng : ∀ j, j < 1 → g (upn (fun _ => s0) 0 s0 j) = false := fun j hj => by
        have : j = 0 := by omega
        subst this
        rw [hst1]
        cases h9 : g s0 with
        | false => rfl
        | true => exact absurd ((hg s0 hs0).mpr h9) hgo
      obtain ⟨x, hx, hX⟩ := am_loop_inv (f := fun s : (Int32 × am_I) => B_X6_seek_100 fd nf sn ns w (nI sl) i4 i5 (nI (cy_n c)) (am_bi br) s.1 s.2) (fun s => ∃ i N st par lab, s.1 = nI i ∧ i ≤ N ∧ cs_I w s.2 c ρ ∧ cs_S s.2 fd sn N st par (kM c br) ∧ bf (ks c ρ sl br) (cy_n c) s0 N st par lab (i * 16) ∧ ∀ j, j < N → g (st j) = false) (fun s => 40000 - s.1.toNatClampNeg)
        (X := fun x => (∃ iv', x = .inl iv' ∧ cs_E w fd sn c ρ sl br s0 g (-1) iv') ∨ ∃ v iv', x = .inr (v, iv') ∧ cs_E w fd sn c ρ sl br s0 g v iv') (by
          rintro ⟨k0, iv2⟩ ⟨i, N, st, par, lab, a1, a2, a3, a4, a5, a6⟩
          dsimp only at a1 a3 a4
          subst a1
          have hN := a4.2.1
          have hnf : kM c br ≤ nf := hl.2.2.2.1
          show (∃ s', B_X6_seek_100 _ _ _ _ _ _ _ _ _ _ (nI i) iv2 = _ ∧ _) ∨ (∃ s', B_X6_seek_100 _ _ _ _ _ _ _ _ _ _ (nI i) iv2 = _ ∧ _)
          unfold B_X6_seek_100
          rw [a4.1, nle (by omega) (by omega)]
          by_cases e : N ≤ i
          · right
            rw [if_pos e]
            have e2 : i = N := by omega
            subst e2
            exact ⟨_, rfl, Or.inl ⟨iv2, rfl, a3, i, st, par, lab, _, a4, a5, Or.inl ⟨rfl, Nat.le_refl _, a6⟩⟩⟩
          · have hnf6 := hl.2.2.2.2.2.1
            obtain ⟨q1, q2⟩ := cs_st a4 hM (show i < N by omega)
            rw [if_neg e, show Int32.ofNat nf = nI nf from rfl, nle (by omega) (by omega), if_neg (by omega), if_pos (vb (by omega) (by omega)), am_cl (by omega), q1, a3.2, fa_and, and_mask]
            have h10 := cy_p10 hn
            have hmod : st i % 2 ^ cy_n c < 2 ^ cy_n c := Nat.mod_lt _ (Nat.two_pow_pos _)
            obtain ⟨iv3, e3, w3⟩ := K_reachedBy a3.1 hc ho (show st i % 2 ^ cy_n c < 1024 by omega)
            have f3 := X_X0_reachedBy e3
            have hS3 : cs_S iv3 fd sn N st par (kM c br) := a4.fr f3 (by simp; omega) (by simp; omega) (by simp; omega) (by simp) (by simp)
            have hI3 : cs_I w iv3 c ρ := ⟨w3, by rw [f3 50 3 (by simp; omega) (by simp)]; exact a3.2⟩
            rw [e3, am_o2_s]
            obtain ⟨y, hy, N', st', par', lab', b1, b2⟩ := K_seekIn hw hI3 hc ho hl hsl hg a5 hS3 (show i < N by omega) a6
            rw [hy]
            rcases b2 with ⟨iv4, rfl, c1, c2, c3, c4⟩ | ⟨iv4, p, rfl, c1, c2, c3, c4, c5⟩
            · left
              rw [am_lp_l]
              refine ⟨_, rfl, ⟨i + 1, N', st', par', lab', nI_1 i, by omega, c1, c2, c3.skip hn, c4⟩, ?_⟩
              show 40000 - (nI i + 1).toNatClampNeg < 40000 - i
              rw [nI_1, am_cl (by omega)]; omega
            · right
              rw [am_lp_r]
              exact ⟨_, rfl, Or.inr ⟨_, iv4, rfl, c1, N', st', par', lab', p, c2, c3, Or.inr ⟨N' - 1, by omega, rfl, c4, c5⟩⟩⟩) (nI 0, iv1) ⟨0, 1, _, _, _, rfl, by omega, hI1, hS1, hb1, hng⟩ (by show 40000 - _ < 1000000; omega)
      rw [hx]
      rcases hX with ⟨iv', rfl, h⟩ | ⟨v, iv', rfl, h⟩
      · exact ⟨_, _, am_lp_l, h⟩
      · exact ⟨_, _, am_lp_r, h⟩
end B43
