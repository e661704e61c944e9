/-! the tokens of a text on both sides -/
theorem am_loop_fs {σ ρ : Type} {f : σ → Option (σ ⊕ ρ)} (st : Nat → σ) (xr : Nat → ρ) {p : Nat → Bool} {m : Nat} (hm : m < 900000) (hs : ∀ i, i < m → f (st i) = some (if p i then .inr (xr i) else .inl (st (i + 1)))) (hx : f (st m) = some (.inr (xr m))) {s : σ} (h0 : s = st 0) : am_loop f s = some (xr (cy_fst p m)) := by
  obtain ⟨g1, g2, g3⟩ := cy_fst_s p m
  refine am_loop_seq st (cy_fst p m) (by omega) h0 (fun k hk => ?_) ?_
  · rw [hs k (by omega), g2 k hk]; rfl
  · by_cases e : cy_fst p m < m
    · rw [hs _ e, g3 e]; rfl
    · rw [show cy_fst p m = m by omega]; exact hx
/-- a byte's type -/
def tyb (b : Nat) : Nat := if 97 ≤ b ∧ b ≤ 122 then 1 else if 48 ≤ b ∧ b ≤ 57 then 2 else if b = 59 ∨ b = 40 ∨ b = 41 ∨ b = 43 ∨ b = 45 ∨ b = 42 ∨ b = 47 ∨ b = 60 ∨ b = 61 then 3 else 4
/-- a byte as the class has it -/
def sgn (b : Nat) : Int32 := (nI b).toInt8.toInt32
theorem sgn_typ : ∀ b, b < 256 → (sgn b).toInt8.toInt32 = sgn b ∧ am_typ (sgn b) = nI (tyb b) := by decide +kernel
theorem sgn_lo : ∀ b, b < 128 → sgn b = nI b := by decide +kernel
theorem sgn_hi : ∀ b, b < 256 → 128 ≤ b → sgn b < 0 := by decide +kernel
theorem tyb_let : ∀ b, b < 256 → (if nI b < (97 : Int32) then some (0 : Int32) else (if (122 : Int32) < nI b then some (0 : Int32) else some (1 : Int32))) = some (am_bi (decide (tyb b = 1))) := by decide +kernel
theorem tyb_dig : ∀ b, b < 256 → (if nI b < (48 : Int32) then some (0 : Int32) else (if (57 : Int32) < nI b then some (0 : Int32) else some (1 : Int32))) = some (am_bi (decide (tyb b = 2))) := by decide +kernel
theorem tyb_mar : ∀ b, b < 256 → tyb b ≠ 1 → tyb b ≠ 2 → (if nI b = (59 : Int32) then some (1 : Int32) else (if nI b = (40 : Int32) then some (1 : Int32) else (if nI b = (41 : Int32) then some (1 : Int32) else (if nI b = (43 : Int32) then some (1 : Int32) else (if nI b = (45 : Int32) then some (1 : Int32) else (if nI b = (42 : Int32) then some (1 : Int32) else (if nI b = (47 : Int32) then some (1 : Int32) else (if nI b = (60 : Int32) then some (1 : Int32) else (if nI b = (61 : Int32) then some (1 : Int32) else some (0 : Int32)))))))))) = some (am_bi (decide (tyb b = 3))) := by decide +kernel
theorem tyb_le (b : Nat) : 1 ≤ tyb b ∧ tyb b ≤ 4 := by unfold tyb; split <;> (try split) <;> (try split) <;> omega
def blk (b : Nat) : Bool := decide (b = 32) || decide (b = 10)
/-- behind the blanks, behind a row of one type -/
def skp (τ : Nat → Nat) (n q : Nat) : Nat := q + cy_fst (fun i => !blk (τ (q + i))) (n - q)
def run (τ : Nat → Nat) (n q ty : Nat) : Nat := q + cy_fst (fun i => !decide (tyb (τ (q + i)) = ty)) (n - q)
theorem skp_le {τ : Nat → Nat} {n q : Nat} (h : q ≤ n) : q ≤ skp τ n q ∧ skp τ n q ≤ n := by
  have := (cy_fst_s (fun i => !blk (τ (q + i))) (n - q)).1
  unfold skp; omega
theorem run_le {τ : Nat → Nat} {n q ty : Nat} (h : q ≤ n) : q ≤ run τ n q ty ∧ run τ n q ty ≤ n := by
  have := (cy_fst_s (fun i => !decide (tyb (τ (q + i)) = ty)) (n - q)).1
  unfold run; omega
theorem run_all {τ : Nat → Nat} {n q ty i : Nat} (h1 : q ≤ i) (h2 : i < run τ n q ty) : tyb (τ i) = ty := by
  have := (cy_fst_s (fun i => !decide (tyb (τ (q + i)) = ty)) (n - q)).2.1 (i - q) (by unfold run at h2; omega)
  simp at this
  rwa [show q + (i - q) = i by omega] at this
/-- the token from q on: its type, its first byte, the byte behind it -/
def tkt (τ : Nat → Nat) (n q : Nat) : Nat := if skp τ n q < n then tyb (τ (skp τ n q)) else 0
def tkb (τ : Nat → Nat) (n q : Nat) : Nat := if skp τ n q < n then (if tkt τ n q = 1 ∨ tkt τ n q = 2 then run τ n (skp τ n q + 1) (tkt τ n q) else skp τ n q + 1) else n
def TK (τ : Nat → Nat) (n ty fi be : Nat) : Prop := fi ≤ be ∧ be ≤ n ∧ ty ≤ 4 ∧ (ty = 0 ↔ fi = n) ∧ (ty ≠ 0 → fi < be ∧ tyb (τ fi) = ty) ∧ (ty = 2 → ∀ i, fi ≤ i → i < be → tyb (τ i) = 2)
theorem TK.of {τ : Nat → Nat} {n q : Nat} (h : q ≤ n) : TK τ n (tkt τ n q) (skp τ n q) (tkb τ n q) := by
  obtain ⟨h1, h2⟩ := skp_le (τ := τ) h
  have h4 := tyb_le (τ (skp τ n q))
  unfold tkb
  by_cases e : skp τ n q < n
  · have ht : tkt τ n q = tyb (τ (skp τ n q)) := by unfold tkt; rw [if_pos e]
    rw [if_pos e]
    obtain ⟨h5, h6⟩ := run_le (τ := τ) (ty := tkt τ n q) (show skp τ n q + 1 ≤ n by omega)
    by_cases e2 : tkt τ n q = 1 ∨ tkt τ n q = 2
    · rw [if_pos e2]
      refine ⟨by omega, h6, by omega, by omega, fun _ => ⟨by omega, ht.symm⟩, fun e3 i i1 i2 => ?_⟩
      by_cases ei : i = skp τ n q
      · rw [ei, ← ht]; exact e3
      · rw [← e3]; exact run_all (by omega) i2
    · rw [if_neg e2]
      refine ⟨by omega, by omega, by omega, by omega, fun _ => ⟨by omega, ht.symm⟩, fun e3 => absurd e3 (by omega)⟩
  · have ht : tkt τ n q = 0 := by unfold tkt; rw [if_neg e]
    rw [if_neg e]
    exact ⟨by omega, Nat.le_refl _, by omega, by omega, fun q => absurd ht q, fun q => absurd ht (by omega)⟩
/-- a number's value -/
def nv (τ : Nat → Nat) (a : Nat) : Nat → Nat
  | 0 => 0
  | k + 1 => 10 * nv τ a k + (τ (a + k) - 48)
theorem nv_lt {τ : Nat → Nat} {a : Nat} : ∀ k, (∀ i, i < k → tyb (τ (a + i)) = 2) → nv τ a k < 10 ^ k
  | 0, _ => Nat.one_pos
  | k + 1, h => by
    have h1 := nv_lt k (fun i hi => h i (by omega))
    have h2 : τ (a + k) ≤ 57 ∧ 48 ≤ τ (a + k) := by
      have := h k (by omega)
      unfold tyb at this
      split at this
      · cases this
      · split at this
        · omega
        · split at this <;> cases this
    unfold nv
    rw [Nat.pow_succ]
    omega
theorem tyb2 {b : Nat} (h : tyb b = 2) : 48 ≤ b ∧ b ≤ 57 := by
  unfold tyb at h
  split at h
  · cases h
  · split at h
    · omega
    · split at h <;> cases h
def cT (t : Nat) (iv : am_I) (τ : Nat → Nat) (n ty fi be : Nat) : Prop := (∀ i, i < n → iv 1 i = sgn (τ i)) ∧ iv t 1 = nI n ∧ iv t 2 = nI ty ∧ iv t 3 = nI fi ∧ iv t 4 = nI be
def mT (iv : am_I) (τ : Nat → Nat) (n ty fi be : Nat) : Prop := (∀ i, i < n → iv 71 i = nI (τ i)) ∧ iv 54 20 = nI n ∧ iv 54 21 = nI ty ∧ iv 54 23 = nI fi ∧ iv 54 24 = nI be ∧ iv 54 19 = nI be ∧ (ty = 2 → be - fi ≤ 4 → iv 54 22 = nI (nv τ fi (be - fi)))
/-- a text of at most 700 bytes -/
def TX (τ : Nat → Nat) (n : Nat) : Prop := n ≤ 700 ∧ ∀ i, τ i < 256
theorem am_ww (iv : am_I) (a k : Nat) (x y : Int32) : am_w (am_w iv a k x) a k y = am_w iv a k y := by
  funext b j
  rw [am_w_r, am_w_r, am_w_r]
  by_cases h : b = a
  · subst h
    by_cases h2 : j = k
    · subst h2; simp
    · simp [h2]
  · simp [h]
section B70
variable {iv : am_I} {τ : Nat → Nat} {n t q : Nat}
theorem K_typeOf {b : Nat} (hb : b < 256) : F_X8_typeOf (sgn b) iv = some (nI (tyb b)) := by
  unfold F_X8_typeOf
  obtain ⟨h1, h2⟩ := sgn_typ b hb
  rw [if_pos h1, h2]
theorem sgn_i {b k : Nat} (hb : b < 256) (hk : k < 128) : (sgn b = nI k) ↔ b = k := by
  by_cases lt : b < 128
  · rw [sgn_lo b lt]; exact am_eq (by omega) (by omega)
  · constructor
    · intro h
      have h2 := sgn_hi b hb (by omega)
      rw [h] at h2
      exact absurd h2 (nI_pos (by omega))
    · intro h; omega
theorem K_advance (hx : TX τ n) (htx : ∀ i, i < n → iv 1 i = sgn (τ i)) (h1 : iv t 1 = nI n) (h4 : iv t 4 = nI q) (hq : q ≤ n) (ht : t ≠ 1) : ∃ iv', F_X8_advance t iv = some iv' ∧ cT t iv' τ n (tkt τ n q) (skp τ n q) (tkb τ n q) ∧ iv' t 5 = iv t 5 := by
  have hn := hx.1
  obtain ⟨k1, k2⟩ := skp_le (τ := τ) hq
  have l1 : am_loop (fun s : (Int32) => B_X8_advance_5 t iv s) (nI q) = some (nI (skp τ n q)) := by
    refine am_loop_fs (fun i => nI (q + i)) (fun i => nI (q + i)) (p := fun i => !blk (τ (q + i))) (m := n - q) (by omega) (fun i hi => ?_) ?_ rfl
    · have hb := hx.2 (q + i)
      show B_X8_advance_5 t iv (nI (q + i)) = _
      unfold B_X8_advance_5
      rw [h1, nle (by omega) (by omega), if_neg (by omega), if_pos (vb (show q + i < 700 by omega) (by decide)), am_cl (by omega), htx _ (by omega), nI_1, if_pos (vb (show q + i < 700 by omega) (by decide))]
      have e32 : (sgn (τ (q + i)) = (32 : Int32)) ↔ τ (q + i) = 32 := sgn_i hb (by decide)
      have e10 : (sgn (τ (q + i)) = (10 : Int32)) ↔ τ (q + i) = 10 := sgn_i hb (by decide)
      unfold blk
      by_cases a1 : τ (q + i) = 32
      · rw [if_pos (e32.mpr a1)]; simp [a1, Nat.add_assoc]
      · rw [if_neg (fun z => a1 (e32.mp z))]
        by_cases a2 : τ (q + i) = 10
        · rw [if_pos (e10.mpr a2)]; simp [a2, Nat.add_assoc]
        · rw [if_neg (fun z => a2 (e10.mp z))]; simp [a1, a2]
    · show B_X8_advance_5 t iv (nI (q + (n - q))) = _
      unfold B_X8_advance_5
      rw [show q + (n - q) = n by omega, h1, if_pos (Int32.le_refl _)]
  unfold F_X8_advance
  rw [h4, l1, am_o1_s]
  unfold J_X8_advance_41
  generalize hf : skp τ n q = fi at k1 k2 ⊢
  have w1 : am_w iv t 3 (nI fi) t 1 = nI n := by rw [am_w_r, if_pos rfl, if_neg (by decide)]; exact h1
  have FIN : ∀ (ty k : Nat), am_w (am_w iv t 3 (nI fi)) t 2 (nI ty) t 2 = nI ty → k ≤ n → (ty = tkt τ n q) → (k = if fi < n then fi + 1 else n) → ∃ iv', J_X8_advance_89 t (nI k) (am_w (am_w iv t 3 (nI fi)) t 2 (nI ty)) = some iv' ∧ cT t iv' τ n (tkt τ n q) fi (tkb τ n q) ∧ iv' t 5 = iv t 5 := by
    intro ty k hty hk e1 e2
    generalize hv : am_w (am_w iv t 3 (nI fi)) t 2 (nI ty) = iv2 at hty ⊢
    have g1 : iv2 t 1 = nI n := by rw [← hv, am_w_r, if_pos rfl, if_neg (by decide)]; exact w1
    have gx : ∀ i, i < n → iv2 1 i = sgn (τ i) := fun i hi => by rw [← hv, am_w_other _ _ _ (Ne.symm ht), am_w_other _ _ _ (Ne.symm ht)]; exact htx i hi
    have g3 : iv2 t 3 = nI fi := by rw [← hv, am_w_r, if_pos rfl, if_neg (by decide), am_w_r, if_pos rfl, if_pos rfl]
    have g5 : iv2 t 5 = iv t 5 := by rw [← hv, am_w_r, if_pos rfl, if_neg (by decide), am_w_r, if_pos rfl, if_neg (by decide)]
    have ty4 : ty ≤ 4 := by have := (TK.of (τ := τ) hq).2.2.1; omega
    have l2 : am_loop (fun s : (Int32) => B_X8_advance_90 t iv2 s) (nI k) = some (nI (if ty = 1 ∨ ty = 2 then run τ n k ty else k)) := by
      by_cases e12 : ty = 1 ∨ ty = 2
      · rw [if_pos e12]
        refine am_loop_fs (fun i => nI (k + i)) (fun i => nI (k + i)) (p := fun i => !decide (tyb (τ (k + i)) = ty)) (m := n - k) (by omega) (fun i hi => ?_) ?_ rfl
        · have hb := hx.2 (k + i)
          have hj : J_X8_advance_114 t (nI (k + i)) iv2 = some (if (!decide (tyb (τ (k + i)) = ty)) = true then .inr (nI (k + i)) else .inl (nI (k + i + 1))) := by
            unfold J_X8_advance_114
            have h4 := tyb_le (τ (k + i))
            rw [if_pos (vb (show k + i < 700 by omega) (by decide)), am_cl (by omega), gx _ (by omega), K_typeOf hb, am_o1_s, hty, neq (by omega) (by omega), nI_1]
            by_cases z : tyb (τ (k + i)) = ty <;> simp [z]
          show B_X8_advance_90 t iv2 (nI (k + i)) = _
          unfold B_X8_advance_90
          rw [g1, nle (by omega) (by omega), if_neg (by omega), hty, hj]
          rcases e12 with e | e
          · rw [if_pos (show nI ty = 1 by rw [e]; rfl)]; rfl
          · rw [if_neg (show ¬ nI ty = 1 by rw [e]; decide), if_pos (show nI ty = 2 by rw [e]; rfl)]; rfl
        · show B_X8_advance_90 t iv2 (nI (k + (n - k))) = _
          unfold B_X8_advance_90
          rw [show k + (n - k) = n by omega, g1, if_pos (Int32.le_refl _)]
      · rw [if_neg e12]
        refine am_loop_seq (fun _ => nI k) 0 (by omega) rfl (fun z hz => absurd hz (Nat.not_lt_zero _)) ?_
        show B_X8_advance_90 t iv2 (nI k) = _
        unfold B_X8_advance_90
        rw [hty, if_neg (show ¬ nI ty = 1 from fun z => e12 (Or.inl ((am_eq (by omega) (by decide)).mp z))), if_neg (show ¬ nI ty = 2 from fun z => e12 (Or.inr ((am_eq (by omega) (by decide)).mp z)))]
        split <;> rfl
    unfold J_X8_advance_89 J_X8_advance_136
    rw [l2, am_o1_s]
    have hbe : (if ty = 1 ∨ ty = 2 then run τ n k ty else k) = tkb τ n q := by
      unfold tkb
      rw [hf, ← e1, e2]
      by_cases lt : fi < n
      · rw [if_pos lt, if_pos lt]
      · rw [if_neg lt, if_neg lt]
        have : ty = 0 := by rw [e1]; unfold tkt; rw [hf, if_neg lt]
        rw [if_neg (by omega)]
    rw [hbe]
    refine ⟨_, rfl, ⟨fun i hi => ?_, ?_, ?_, ?_, ?_⟩, ?_⟩
    · rw [am_w_other _ _ _ (Ne.symm ht)]; exact gx i hi
    · rw [am_w_r, if_pos rfl, if_neg (by decide)]; exact g1
    · rw [am_w_r, if_pos rfl, if_neg (by decide), ← e1]; exact hty
    · rw [am_w_r, if_pos rfl, if_neg (by decide)]; exact g3
    · rw [am_w_r, if_pos rfl, if_pos rfl]
    · rw [am_w_r, if_pos rfl, if_neg (by decide)]; exact g5
  have J68 : ∀ ty, (ty = tkt τ n q) → ∃ iv', J_X8_advance_68 t (nI fi) (nI ty) (am_w iv t 3 (nI fi)) = some iv' ∧ cT t iv' τ n (tkt τ n q) fi (tkb τ n q) ∧ iv' t 5 = iv t 5 := by
    intro ty hty
    unfold J_X8_advance_68
    have w2 : am_w (am_w iv t 3 (nI fi)) t 2 (nI ty) t 1 = nI n := by rw [am_w_r, if_pos rfl, if_neg (by decide)]; exact w1
    have w3 : am_w (am_w iv t 3 (nI fi)) t 2 (nI ty) t 2 = nI ty := by rw [am_w_r, if_pos rfl, if_pos rfl]
    rw [w2, nle (by omega) (by omega)]
    by_cases lt : fi < n
    · rw [if_neg (by omega), show nI fi + (1 : Int32) = nI (fi + 1) from nI_1 fi]
      exact FIN ty (fi + 1) w3 (by omega) hty (by rw [if_pos lt])
    · rw [if_pos (by omega)]
      exact FIN ty n w3 (Nat.le_refl _) hty (by rw [if_neg lt])
  rw [w1, nle (by omega) (by omega)]
  by_cases lt : fi < n
  · have hty : tkt τ n q = tyb (τ fi) := by unfold tkt; rw [hf, if_pos lt]
    have hb := hx.2 fi
    rw [if_neg (by omega), if_pos (vb (show fi < 700 by omega) (by decide)), am_cl (by omega), am_w_other _ _ _ (Ne.symm ht), htx fi lt, K_typeOf hb, am_o1_s]
    exact J68 _ hty.symm
  · rw [if_pos (by omega)]
    exact J68 0 (by unfold tkt; rw [hf, if_neg lt])
end B70
