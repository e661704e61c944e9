/-! tools for the functions -/
theorem vb {i n : Nat} (h : i < n) (hn : n < 65536) : vp_b (nI i) n = true := vp_in_b (am_vin h hn)
theorem ifbi {p : Prop} [Decidable p] : (if p then some (1 : Int32) else some (0 : Int32)) = some (am_bi (decide p)) := by
  by_cases h : p <;> simp [am_bi, h]
theorem ifib {p : Prop} [Decidable p] : (if p then some (0 : Int32) else some (1 : Int32)) = some (am_bi (!decide p)) := by
  by_cases h : p <;> simp [am_bi, h]
theorem ifb {α : Type} {b : Bool} {x y : α} : (if am_bi b = 0 then x else y) = if b then y else x := by
  cases b <;> simp [am_bi]
theorem if01 {α : Type} {b : Bool} {x y : α} : (if am_bi b = 0 ∨ am_bi b = 1 then x else y) = x := by
  cases b <;> simp [am_bi]
theorem nlt {α : Type} {a b : Nat} {x y : α} (ha : a < 65536) (hb : b < 65536) : (if nI a < nI b then x else y) = if a < b then x else y := by simp only [am_lt ha hb]
theorem nle {α : Type} {a b : Nat} {x y : α} (ha : a < 65536) (hb : b < 65536) : (if nI a ≤ nI b then x else y) = if a ≤ b then x else y := by simp only [am_le ha hb]
theorem neq {α : Type} {a b : Nat} {x y : α} (ha : a < 65536) (hb : b < 65536) : (if nI a = nI b then x else y) = if a = b then x else y := by simp only [am_eq ha hb]
theorem cl0 : (0 : Int32).toNatClampNeg = 0 := by decide
theorem cl1 : (1 : Int32).toNatClampNeg = 1 := by decide
theorem cl2 : (2 : Int32).toNatClampNeg = 2 := by decide
theorem cl3 : (3 : Int32).toNatClampNeg = 3 := by decide
theorem cl4 : (4 : Int32).toNatClampNeg = 4 := by decide
theorem cl5 : (5 : Int32).toNatClampNeg = 5 := by decide
theorem cl6 : (6 : Int32).toNatClampNeg = 6 := by decide
theorem cl7 : (7 : Int32).toNatClampNeg = 7 := by decide
theorem cl8 : (8 : Int32).toNatClampNeg = 8 := by decide
theorem cl9 : (9 : Int32).toNatClampNeg = 9 := by decide
/-- the model's city, as its rows have it -/
def mo_C (iv : am_I) (c : Nat → Nat → Nat) : Prop :=
  (iv 58 0 = nI (c 0 4) ∧ iv 58 1 = nI (c 0 5) ∧ iv 58 2 = nI (cy_n c) ∧ iv 58 3 = nI (cy_p c) ∧ iv 58 4 = nI (cy_re c) ∧ iv 58 5 = nI (cy_r c) ∧ iv 58 6 = nI (c 0 6) ∧ iv 58 7 = nI (c 0 7) ∧ iv 58 8 = nI (c 0 8) ∧ iv 58 9 = nI (c 0 9)) ∧
  (∀ j, j < cy_n c → iv 59 j = nI (cy_kd c j) ∧ iv 60 j = nI (cy_co c j) ∧ iv 61 j = nI (cy_st c j) ∧ iv 62 j = nI (cy_le c j) ∧ iv 63 j = nI (cy_wi c j)) ∧
  (∀ p, p < cy_p c → iv 64 p = nI (cy_ho c p) ∧ iv 65 p = cy_shI c p ∧ iv 66 p = nI (cy_we c p))
/-- two drawers share a column -/
def cy_sha (c : Nat → Nat → Nat) (a b : Nat) : Bool := decide (cy_co c a ≤ cy_co c b + cy_wi c b) && decide (cy_co c b ≤ cy_co c a + cy_wi c a)
/-- a carrier k of d -/
def cy_car (c : Nat → Nat → Nat) (d k : Nat) : Bool := cy_sha c k d && (decide (cy_st c k < cy_st c d) && decide (cy_st c d ≤ cy_st c k + cy_re c))
def cy_any (f : Nat → Bool) : Nat → Bool
  | 0 => false
  | n + 1 => cy_any f n || f n
theorem cy_any_iff {f : Nat → Bool} : ∀ {n : Nat}, cy_any f n = true ↔ ∃ k, k < n ∧ f k = true
  | 0 => by simp [cy_any]
  | n + 1 => by
    simp only [cy_any, Bool.or_eq_true, cy_any_iff (n := n)]
    constructor
    · rintro (⟨k, h1, h2⟩ | h)
      · exact ⟨k, by omega, h2⟩
      · exact ⟨n, by omega, h⟩
    · rintro ⟨k, h1, h2⟩
      by_cases e : k = n
      · subst e; exact Or.inr h2
      · exact Or.inl ⟨k, by omega, h2⟩
theorem cy_any_false {f : Nat → Bool} {n : Nat} : cy_any f n = false ↔ ∀ k, k < n → f k = false := by
  rw [← Bool.not_eq_true, cy_any_iff]
  constructor
  · intro h k hk
    cases e : f k with
    | false => rfl
    | true => exact absurd ⟨k, hk, e⟩ h
  · rintro h ⟨k, h1, h2⟩
    rw [h k h1] at h2
    cases h2
/-- d is reached, if car are out and reached -/
def cy_isR (c : Nat → Nat → Nat) (d car : Nat) : Bool := decide (cy_st c d < cy_re c) || cy_any (fun k => car.testBit k && cy_car c d k) (cy_n c)
/-- a loop that looks for one: the body at i below n goes on or ends, at n it ends -/
theorem am_loop_any {ρ : Type} {f : Int32 → Option (Int32 ⊕ ρ)} {p : Nat → Bool} {n : Nat} {x y : ρ} (hn : n < 60000) (hs : ∀ i, i < n → f (nI i) = some (if p i then .inr y else .inl (nI (i + 1)))) (hx : f (nI n) = some (.inr x)) : am_loop f 0 = some (if cy_any p n then y else x) := by
  by_cases h : cy_any p n = true
  · have h' := h
    rw [cy_any_iff] at h
    obtain ⟨k, hk, hp⟩ := h
    -- the least one
    have : ∃ m, m < n ∧ p m = true ∧ ∀ q, q < m → p q = false := by
      clear h'
      induction k using Nat.strongRecOn with
      | _ k ih =>
        by_cases e : ∃ q, q < k ∧ p q = true
        · obtain ⟨q, h1, h2⟩ := e
          exact ih q h1 (by omega) h2
        · exact ⟨k, hk, hp, fun q hq => by
            cases e2 : p q with
            | false => rfl
            | true => exact absurd ⟨q, hq, e2⟩ e⟩
    obtain ⟨m, hm, hpm, hno⟩ := this
    rw [if_pos h']
    refine am_loop_seq (fun i => nI i) m (by omega) rfl (fun i hi => ?_) ?_
    · rw [hs i (by omega), hno i hi]; rfl
    · rw [hs m hm, hpm]; rfl
  · have h' : cy_any p n = false := by simpa using h
    rw [h']
    rw [cy_any_false] at h'
    refine am_loop_seq (fun i => nI i) n (by omega) rfl (fun i hi => ?_) ?_
    · rw [hs i hi, h' i hi]; rfl
    · rw [hx]; rfl
section B24
variable {iv : am_I} {c : Nat → Nat → Nat}
theorem P_has {s d : Nat} (hs : s < 1024) (hd : d < 10) : F_X10_has (nI s) (nI d) iv = some (am_bi (s.testBit d)) := by
  unfold F_X10_has
  rw [ifbi, am_has s hs d hd]
theorem P_shares (hC : mo_C iv c) (hc : cy_ok c) {a b : Nat} (ha : a < cy_n c) (hb : b < cy_n c) : F_X10_shares (nI a) (nI b) iv = some (am_bi (cy_sha c a b)) := by
  have hn := hc.1
  have ga := hc.2.2.2.2.2.2.2.1 a ha
  have gb := hc.2.2.2.2.2.2.2.1 b hb
  have h4 := hc.2.2.2.2.1.2
  obtain ⟨-, a2, -, -, a5⟩ := hC.2.1 a ha
  obtain ⟨-, b2, -, -, b5⟩ := hC.2.1 b hb
  unfold F_X10_shares
  simp (disch := omega) only [vb, am_cl, a2, a5, b2, b5, nI_add, nlt, if_true]
  simp only [cy_sha]
  by_cases h1 : cy_co c b + cy_wi c b < cy_co c a <;> by_cases h2 : cy_co c a + cy_wi c a < cy_co c b <;> simp [h1, h2, am_bi] <;> omega
theorem P_isIn {a b r : Nat} (ha : a < 16) (hb : b < 16) (hr : r < 16) : F_X10_isIn (nI a - nI b) 1 (nI r) iv = some (am_bi (decide (b < a) && decide (a ≤ b + r))) := by
  rw [← am_subin a ha b hb r hr]
  unfold F_X10_isIn
  by_cases h1 : nI a - nI b < 1 <;> by_cases h2 : nI r < nI a - nI b <;> simp [h1, h2, am_bi]
theorem P_isReachedBy (hC : mo_C iv c) (hc : cy_ok c) {a s : Nat} (ha : a < cy_n c) (hs : s < 1024) : F_X10_isReachedBy (nI a) (nI s) iv = some (am_bi (cy_isR c a s)) := by
  have hn := hc.1
  have ga := hc.2.2.2.2.2.2.2.1 a ha
  have h5 := hc.2.2.2.2.2.1.2
  have hre := hc.2.1
  have a3 := (hC.2.1 a ha).2.2.1
  have r4 := hC.1.2.2.2.2.1
  have r2 := hC.1.2.2.1
  unfold F_X10_isReachedBy
  simp (disch := omega) only [vb, am_cl, a3, cl4, r4, nle, if_true]
  by_cases h1 : cy_re c ≤ cy_st c a
  · rw [if_pos h1]
    have hl : am_loop (fun s9 : Int32 => B_X10_isReachedBy_19 (nI a) (nI s) iv s9) 0 = some (if cy_any (fun k => s.testBit k && cy_car c a k) (cy_n c) then .inr 1 else .inl ()) := by
      refine am_loop_any (by omega) (fun i hi => ?_) ?_
      · have gi := hc.2.2.2.2.2.2.2.1 i hi
        have i3 := (hC.2.1 i hi).2.2.1
        unfold B_X10_isReachedBy_19
        simp (disch := omega) only [cl2, r2, nle, P_has hs, P_shares hC hc hi ha, am_o1_s, ifb, vb, am_cl, a3, i3, cl4, r4, P_isIn, if_true, nI_1]
        rw [if_neg (by omega)]
        cases h2 : s.testBit i <;> cases h3 : cy_sha c i a <;> simp [cy_car, h3]
        split <;> rfl
      · unfold B_X10_isReachedBy_19
        simp (disch := omega) only [cl2, r2, nle]
        rw [if_pos (by omega)]
    rw [hl]
    have h9 : decide (cy_st c a < cy_re c) = false := by simp; omega
    cases h2 : cy_any (fun k => s.testBit k && cy_car c a k) (cy_n c) <;> simp [cy_isR, h2, h9, am_lp, am_bi]
  · rw [if_neg h1]
    have h9 : decide (cy_st c a < cy_re c) = true := by simp; omega
    simp [cy_isR, h9, am_bi]
end B24
