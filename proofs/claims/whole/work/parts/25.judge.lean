/-! the model's judging of sets -/
theorem am_loop_n {σ ρ : Type} {f : σ → Option (σ ⊕ ρ)} (I : Nat → σ → Prop) {X : ρ → Prop} (N : Nat) (hN : N < 900000) (hs : ∀ i s, i < N → I i s → (∃ s', f s = some (.inl s') ∧ I (i + 1) s') ∨ (∃ x, f s = some (.inr x) ∧ X x)) (hx : ∀ s, I N s → ∃ x, f s = some (.inr x) ∧ X x) (s : σ) (h0 : I 0 s) : ∃ x, am_loop f s = some x ∧ X x := by
  have key : ∀ (r i : Nat) (s : σ) (m : Nat), i + r = N → I i s → r < m → ∃ x, am_wh f m s = some x ∧ X x := by
    intro r
    induction r with
    | zero =>
      intro i s m hi hI hm
      cases m with
      | zero => omega
      | succ m =>
        have e : i = N := by omega
        subst e
        obtain ⟨x, h1, h2⟩ := hx s hI
        exact ⟨x, by show am_lp (f s) _ _ = _; rw [h1]; rfl, h2⟩
    | succ r ih =>
      intro i s m hi hI hm
      cases m with
      | zero => omega
      | succ m =>
        rcases hs i s (by omega) hI with ⟨s', h1, h2⟩ | ⟨x, h1, h2⟩
        · obtain ⟨x, h3, h4⟩ := ih (i + 1) s' m (by omega) h2 (by omega)
          exact ⟨x, by show am_lp (f s) _ _ = _; rw [h1]; exact h3, h4⟩
        · exact ⟨x, by show am_lp (f s) _ _ = _; rw [h1]; rfl, h2⟩
  exact key N 0 s am_fu (by omega) h0 (by rw [am_fu_eq]; omega)
theorem am_w_r (iv : am_I) (a k : Nat) (x : Int32) (b i : Nat) : am_w iv a k x b i = if b = a then (if i = k then x else iv b i) else iv b i := by
  unfold am_w upd
  by_cases h : b = a
  · subst h; simp
  · simp [h]
/-- how many below n -/
def cy_cnt (f : Nat → Bool) : Nat → Nat
  | 0 => 0
  | n + 1 => cy_cnt f n + if f n then 1 else 0
theorem cy_cnt_le (f : Nat → Bool) : ∀ n, cy_cnt f n ≤ n
  | 0 => Nat.le_refl _
  | n + 1 => by have := cy_cnt_le f n; unfold cy_cnt; split <;> omega
theorem cy_cnt_cong {f g : Nat → Bool} : ∀ {n : Nat}, (∀ k, k < n → f k = g k) → cy_cnt f n = cy_cnt g n
  | 0, _ => rfl
  | n + 1, h => by unfold cy_cnt; rw [cy_cnt_cong (fun k hk => h k (by omega)), h n (by omega)]
theorem cy_pc_cnt : ∀ s, s < 1024 → cy_pc s = cy_cnt (fun k => s.testBit k) 10 := by decide +kernel
theorem cy_pc_step : ∀ s, s < 1024 → s ≠ 0 → nI s &&& (nI s - 1) = nI (s &&& (s - 1)) ∧ cy_pc (s &&& (s - 1)) + 1 = cy_pc s ∧ s &&& (s - 1) < s := by decide +kernel
theorem cy_pc_le : ∀ s, s < 1024 → cy_pc s ≤ 10 := by decide +kernel
/-- what a sign makes of two -/
def rk (g x y : Int32) : Int32 := if g = -20 then x + y else if g = -21 then x - y else if g = -22 then x * y else if g = -23 then (if y = 0 then 0 else x / y) else if g = -24 then (if x < y then 1 else 0) else if g = -25 then (if x = y then 1 else 0) else if g = -26 then (if x = 0 then 0 else if y = 0 then 0 else 1) else (if x = 0 then (if y = 0 then 0 else 1) else 1)
/-- the signs: a number, a value, what joins two, NOT -/
def sg_num (g : Int32) : Prop := 0 ≤ g
def sg_val (g : Int32) : Prop := g = -1 ∨ g = -2 ∨ g = -3 ∨ g = -4 ∨ g = -5 ∨ g = -6 ∨ g = -7
def sg_bin (g : Int32) : Prop := g = -20 ∨ g = -21 ∨ g = -22 ∨ g = -23 ∨ g = -24 ∨ g = -25 ∨ g = -26 ∨ g = -27
theorem sg_bin_le {g : Int32} (h : sg_bin g) : g ≤ -20 ∧ ¬ g = -28 := by
  rcases h with e | e | e | e | e | e | e | e <;> subst e <;> decide
theorem sg_val_gt {g : Int32} (h : sg_val g) : ¬ g ≤ -20 ∧ g < 0 ∧ vp_b (-1 - g) 7 = true := by
  rcases h with e | e | e | e | e | e | e <;> subst e <;> decide
theorem sg_num_gt {g : Int32} (h : sg_num g) : ¬ g ≤ -20 ∧ ¬ g < 0 := by
  have h1 : 0 ≤ g := h
  rw [Int32.le_iff_toInt_le] at h1
  constructor
  · intro h2
    rw [Int32.le_iff_toInt_le] at h2
    have e0 : (0 : Int32).toInt = 0 := by decide
    have e1 : (-20 : Int32).toInt = -20 := by decide
    omega
  · intro h2
    rw [Int32.lt_iff_toInt_lt] at h2
    omega
/-- depth behind a sign -/
def sg_dep (g : Int32) (n : Nat) : Nat := if g ≤ -20 then (if g = -28 then n else n - 1) else n + 1
def sg_ok (g : Int32) (n : Nat) : Prop := ((sg_num g ∨ sg_val g) ∧ n < 60) ∨ (sg_bin g ∧ 2 ≤ n) ∨ (g = -28 ∧ 1 ≤ n)
/-- the state behind a sign: how many wait, and what -/
def sg_st (vals : Nat → Int32) (g : Int32) (s : Nat × (Nat → Int32)) : Nat × (Nat → Int32) :=
  if g ≤ -20 then (if g = -28 then (s.1, upd s.2 (s.1 - 1) (if s.2 (s.1 - 1) = 0 then 1 else 0)) else (s.1 - 1, upd s.2 (s.1 - 2) (rk g (s.2 (s.1 - 2)) (s.2 (s.1 - 1)))))
  else (s.1 + 1, upd s.2 s.1 (if g < 0 then vals ((-1 : Int32) - g).toNatClampNeg else g))
def sg_run (vals : Nat → Int32) (sg : Nat → Int32) (k : Nat) : Nat → Nat × (Nat → Int32)
  | 0 => (0, fun _ => 0)
  | m + 1 => sg_st vals (sg (k + m)) (sg_run vals sg k m)
def sg_dp (sg : Nat → Int32) (k : Nat) : Nat → Nat
  | 0 => 0
  | m + 1 => sg_dep (sg (k + m)) (sg_dp sg k m)
/-- a rule's signs from k on, len of them -/
def sg_wf (sg : Nat → Int32) (k len : Nat) : Prop := (∀ m, m < len → sg_ok (sg (k + m)) (sg_dp sg k m)) ∧ sg_dp sg k len = 1
theorem sg_run_dp (vals : Nat → Int32) (sg : Nat → Int32) (k : Nat) : ∀ m, (sg_run vals sg k m).1 = sg_dp sg k m
  | 0 => rfl
  | m + 1 => by
    unfold sg_run sg_dp sg_st sg_dep
    rw [← sg_run_dp vals sg k m]
    split
    · split <;> rfl
    · rfl
theorem sg_dp_le {sg : Nat → Int32} {k len : Nat} (h : sg_wf sg k len) : ∀ m, m ≤ len → sg_dp sg k m ≤ 60
  | 0, _ => by simp [sg_dp]
  | m + 1, hm => by
    have ih := sg_dp_le h m (by omega)
    have ok := h.1 m (by omega)
    unfold sg_dp sg_dep
    split
    · split <;> omega
    · rename_i hg
      rcases ok with ⟨-, ok⟩ | ⟨ok, -⟩ | ⟨ok, -⟩
      · omega
      · exact absurd (sg_bin_le ok).1 hg
      · exact absurd (by rw [ok]; decide) hg
section B25
variable {iv : am_I} {c : Nat → Nat → Nat}
theorem P_bitsOf {s : Nat} (hs : s < 1024) : F_X10_bitsOf (nI s) iv = some (nI (cy_pc s)) := by
  unfold F_X10_bitsOf
  obtain ⟨x, h1, h2⟩ := am_loop_inv (f := fun s : (Int32 × Int32) => B_X10_bitsOf_4 iv s.1 s.2) (fun q => ∃ k t, q = (nI k, nI t) ∧ t < 1024 ∧ k + cy_pc t = cy_pc s) (fun q => q.2.toNatClampNeg) (X := fun x => x = nI (cy_pc s)) (fun q hq => by
      obtain ⟨k, t, rfl, ht, hk⟩ := hq
      by_cases h0 : t = 0
      · subst h0
        exact Or.inr ⟨nI k, by show B_X10_bitsOf_4 iv (nI k) (nI 0) = _; unfold B_X10_bitsOf_4; rw [if_pos (show nI 0 = 0 from rfl)], by rw [← hk]; rfl⟩
      · obtain ⟨g1, g2, g3⟩ := cy_pc_step t ht h0
        refine Or.inl ⟨(nI (k + 1), nI (t &&& (t - 1))), ?_, ⟨k + 1, _, rfl, by omega, by omega⟩, ?_⟩
        · show B_X10_bitsOf_4 iv (nI k) (nI t) = _
          unfold B_X10_bitsOf_4
          rw [if_neg (by rw [show (0 : Int32) = nI 0 from rfl, am_eq (by omega) (by omega)]; exact h0), g1, nI_1]
        · show (nI (t &&& (t - 1))).toNatClampNeg < (nI t).toNatClampNeg
          rw [am_cl (by omega), am_cl (by omega)]; exact g3) ((0 : Int32), nI s) ⟨0, s, rfl, hs, by omega⟩ (by show (nI s).toNatClampNeg < _; rw [am_cl (by omega)]; omega)
  rw [h1, h2]
  rfl
theorem P_reckon {g x y : Int32} (hg : sg_bin g) : F_X10_reckon g x y iv = some (rk g x y) := by
  have d1 : (-20 : Int32).toInt = -20 := by decide
  have d2 : (-21 : Int32).toInt = -21 := by decide
  have d3 : (-22 : Int32).toInt = -22 := by decide
  have d4 : (-23 : Int32).toInt = -23 := by decide
  have d5 : (-24 : Int32).toInt = -24 := by decide
  have d6 : (-25 : Int32).toInt = -25 := by decide
  have d7 : (-26 : Int32).toInt = -26 := by decide
  have d8 : (-27 : Int32).toInt = -27 := by decide
  rcases hg with e | e | e | e | e | e | e | e <;> subst e <;> unfold F_X10_reckon rk
  · rw [d1]; rfl
  · rw [d2]; rfl
  · rw [d3]; rfl
  · rw [d4]
    by_cases h : y = 0
    · simp [h]
    · simp [h]
  · rw [d5]
    by_cases h : x < y
    · have h2 : ¬ y ≤ x := Int32.not_le.mpr h
      simp [h, h2]
    · have h2 : y ≤ x := Int32.not_lt.mp h
      simp [h, h2]
  · rw [d6]
    by_cases h : x = y <;> simp [h]
  · rw [d7]
    by_cases h : x = 0 <;> by_cases h2 : y = 0 <;> simp [h, h2]
  · rw [d8]
    by_cases h : x = 0 <;> by_cases h2 : y = 0 <;> simp [h, h2]
end B25
