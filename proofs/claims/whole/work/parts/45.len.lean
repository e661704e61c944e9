/-! how long a row can be -/
def an (par : Nat → Nat) : Nat → Nat → Nat
  | 0, j => j
  | i + 1, j => par (an par i j)
section B45
variable {c : Nat → Nat → Nat} {ρ : ru_T} {n s0 N p j : Nat} {st par lab : Nat → Nat} {δ : Nat → Nat → Option Nat}
theorem bf_an (hb : bf δ n s0 N st par lab p) (hj : j < N) : ∀ i, i ≤ (bo par lab j).length → an par i j < N ∧ (bo par lab (an par i j)).length = (bo par lab j).length - i
  | 0, _ => ⟨hj, rfl⟩
  | i + 1, hi => by
    obtain ⟨h1, h2⟩ := bf_an hb hj i (by omega)
    have h0 : 1 ≤ an par i j := by
      by_cases e : an par i j = 0
      · rw [e, bo_0] at h2; simp at h2; omega
      · omega
    have h3 := hb.pr _ h0 h1
    rw [bo_s (lab := lab) hb.pr h0 h1] at h2
    simp only [List.length_cons] at h2
    refine ⟨?_, ?_⟩
    · show par _ < N; omega
    · show (bo par lab (par _)).length = _; omega
theorem bf_an1 (hb : bf δ n s0 N st par lab p) (hj : j < N) {i : Nat} (hi : i < (bo par lab j).length) : 1 ≤ an par i j ∧ par (an par i j) < an par i j := by
  obtain ⟨h1, h2⟩ := bf_an hb hj i (by omega)
  have h0 : 1 ≤ an par i j := by
    by_cases e : an par i j = 0
    · rw [e, bo_0] at h2; simp at h2; omega
    · omega
  exact ⟨h0, hb.pr _ h0 h1⟩
theorem bf_anlt (hb : bf δ n s0 N st par lab p) (hj : j < N) {i : Nat} : ∀ q, i + q + 1 ≤ (bo par lab j).length → an par (i + q + 1) j < an par i j
  | 0, h => (bf_an1 hb hj (by omega)).2
  | q + 1, h => by
    have h1 := bf_anlt hb hj (i := i) q (by omega)
    have h2 := (bf_an1 hb hj (i := i + q + 1) (by omega)).2
    show par (an par (i + q + 1) j) < _
    omega
/-- bread stays -/
theorem ks_up {sl : Nat} (hb : bf (ks c ρ sl true) (cy_n c) s0 N st par lab p) (hj : j < N) {i : Nat} : ∀ q, i + q ≤ (bo par lab j).length → ∀ b, (st (an par (i + q) j) / 2 ^ cy_n c).testBit b = true → (st (an par i j) / 2 ^ cy_n c).testBit b = true
  | 0, _, b, h => h
  | q + 1, hq, b, h => by
    refine ks_up hb hj q (by omega) b ?_
    obtain ⟨h1, h2⟩ := bf_an1 hb hj (i := i + q) (by omega)
    obtain ⟨h3, -⟩ := bf_an hb hj (i + q) (by omega)
    obtain ⟨-, h5, h6, -⟩ := hb.2.1 _ h1 h3
    rw [(ks_mod h5 h6).2 rfl, Nat.testBit_or]
    have h7 : (st (par (an par (i + q) j)) / 2 ^ cy_n c).testBit b = true := h
    rw [h7]; rfl
theorem K_len (hc : cy_ok c) {sl : Nat} {br : Bool} {iv : am_I} {fd sn : Nat} (hS : cs_S iv fd sn N st par (kM c br)) (hb : bf (ks c ρ sl br) (cy_n c) s0 N st par lab p) (hj : j < N) : (bo par lab j).length ≤ 6143 := by
  have hN := hS.2.1
  have h10 := cy_p10 hc.1
  cases br with
  | false =>
    have := bo_ln (par := par) (lab := lab) j
    have h1 : kM c false = 2 ^ cy_n c := by simp [kM]
    omega
  | true =>
    have h5 := hc.2.2.1
    have key := pg_le 6144 ((bo par lab j).length + 1) (fun i => cy_cnt (fun k => (st (an par i j) / 2 ^ cy_n c).testBit k) 5 * 1024 + st (an par i j) % 2 ^ cy_n c) (fun i hi => by
      have h1 := cy_cnt_le (fun k => (st (an par i j) / 2 ^ cy_n c).testBit k) 5
      have h2 : st (an par i j) % 2 ^ cy_n c < 2 ^ cy_n c := Nat.mod_lt _ (Nat.two_pow_pos _)
      show cy_cnt (fun k => (st (an par i j) / 2 ^ cy_n c).testBit k) 5 * 1024 + st (an par i j) % 2 ^ cy_n c < 6144
      omega) (fun i i2 hi hi2 he => by
      have he : cy_cnt (fun k => (st (an par i j) / 2 ^ cy_n c).testBit k) 5 * 1024 + st (an par i j) % 2 ^ cy_n c = cy_cnt (fun k => (st (an par i2 j) / 2 ^ cy_n c).testBit k) 5 * 1024 + st (an par i2 j) % 2 ^ cy_n c := he
      have m1 : st (an par i j) % 2 ^ cy_n c < 2 ^ cy_n c := Nat.mod_lt _ (Nat.two_pow_pos _)
      have m2 : st (an par i2 j) % 2 ^ cy_n c < 2 ^ cy_n c := Nat.mod_lt _ (Nat.two_pow_pos _)
      have e1 : st (an par i j) % 2 ^ cy_n c = st (an par i2 j) % 2 ^ cy_n c := by omega
      have e2 : cy_cnt (fun k => (st (an par i j) / 2 ^ cy_n c).testBit k) 5 = cy_cnt (fun k => (st (an par i2 j) / 2 ^ cy_n c).testBit k) 5 := by omega
      obtain ⟨q1, -⟩ := bf_an hb hj i (by omega)
      obtain ⟨q2, -⟩ := bf_an hb hj i2 (by omega)
      have hup := ks_up hb hj (i := i) (i2 - i) (by omega)
      rw [show i + (i2 - i) = i2 by omega] at hup
      have heq := cy_cnt_eq (n := 5) (f := fun k => (st (an par i2 j) / 2 ^ cy_n c).testBit k) (g := fun k => (st (an par i j) / 2 ^ cy_n c).testBit k) (fun b _ => hup b) (by rw [e2]; exact Nat.le_refl _)
      have l : ∀ x, x < N → st x / 2 ^ cy_n c < 2 ^ 5 := fun x hx => by
        have h9 := (hS.2.2.1 x hx).1
        have h8 : kM c true = 2 ^ cy_n c * 2 ^ cy_p c := by simp [kM]
        rw [h8] at h9
        exact Nat.lt_of_lt_of_le (Nat.div_lt_of_lt_mul h9) (Nat.pow_le_pow_right (by decide) h5)
      have e3 : st (an par i2 j) / 2 ^ cy_n c = st (an par i j) / 2 ^ cy_n c := cy_eqb (l _ q2) (l _ q1) heq
      have hlt := bf_anlt hb hj (i := i) (i2 - i - 1) (by omega)
      rw [show i + (i2 - i - 1) + 1 = i2 by omega] at hlt
      refine hb.2.2.2.1 _ _ hlt q1 ?_
      rw [← Nat.div_add_mod (st (an par i2 j)) (2 ^ cy_n c), ← Nat.div_add_mod (st (an par i j)) (2 ^ cy_n c), e1, e3])
    omega
end B45
