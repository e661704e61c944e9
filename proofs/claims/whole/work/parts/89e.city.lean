/-! reading a city on both sides, whole -/
section B89e
variable {w t rr xr : Nat} {ivc ivm ivc' ivm' iv : am_I} {τ : Nat → Nat} {n T : Nat}
/-- the model as it begins to read -/
def mbg (iv : am_I) (i1 : Int32) : am_I := am_w (am_w (am_w (am_w (am_w (am_w (am_w iv 54 3 (0 : Int32)) 54 18 (0 : Int32)) 54 20 i1) 54 19 (0 : Int32)) 54 25 (0 : Int32)) 54 27 (-1 : Int32)) 54 28 (0 : Int32)
theorem mbg_r (iv : am_I) (i1 : Int32) (a j : Nat) : mbg iv i1 a j = if a = 54 then (if j = 28 then 0 else if j = 27 then -1 else if j = 25 then 0 else if j = 19 then 0 else if j = 20 then i1 else if j = 18 then 0 else if j = 3 then 0 else iv 54 j) else iv a j := by
  unfold mbg
  simp only [am_w_r]
  by_cases e : a = 54
  · subst e; simp
  · simp [e]
theorem S_city (hx : TX τ n) (hw : w = 2 ∨ w = 22) (ht : 89 ≤ t) (hrr : 89 ≤ rr) (hr : rr ≠ t) (hc1 : ∀ i, i < n → ivc 1 i = sgn (τ i)) (hc2 : ivc t 1 = nI n) (hc3 : ivc t 4 = nI 0) (hF : FG rr ivc (fun _ => false)) (h15 : ivc (w + 15) 0 = 0) (hm1 : ∀ i, i < n → ivm 71 i = nI (τ i)) (hT : ivm 54 18 = nI T) (hnT : n ≤ T) (hT7 : T ≤ 700) :
    ∃ M : am_I, (∀ a k, ¬ hs a k → ¬ (a = 54 ∧ (k = 3 ∨ k = 18 ∨ k = 20 ∨ k = 27)) → M a k = ivm a k) ∧ M 54 3 = 0 ∧ M 54 18 = 0 ∧ M 54 27 = -1 ∧
      ((∃ ivc' c ρ, F_X1_readCity w t rr xr ivc = some (1, ivc') ∧ F_X10_city (nI n) ivm = some (0, tk M) ∧ cy_ok c ∧ ru_ok ρ (cy_r c) ∧ cl_W w ivc' c ρ ∧ cl_B w ivc' c ∧ mo_C (tk M) c ∧ mo_R (tk M) ρ (cy_r c)) ∨
       (∃ ivc', F_X1_readCity w t rr xr ivc = some (0, ivc') ∧ F_X10_city (nI n) ivm = some (M 54 25, am_w (am_w M 54 27 (M 54 26)) 70 0 (M 70 0 + 1)) ∧ EE t ivc' M)) := by
  have hn := hx.1
  -- the model's beginning
  have D := dfl_r (mbg ivm (nI n))
  obtain ⟨M1, e2, m1⟩ := P_stepOn (iv := dfl (mbg ivm (nI n)) 10) (q := 0) hx (fun i hi => by rw [D, if_neg (by omega), mbg_r, if_neg (by decide)]; exact hm1 i hi) (by rw [D, if_neg (by omega), mbg_r]; simp) (by rw [D, if_neg (by omega), mbg_r]; simp; rfl) (Nat.zero_le _)
  have fM1 : fM (dfl (mbg ivm (nI n)) 10) M1 := fun a k ha => X_X10_stepOn e2 a k (by simp) (by simp; omega)
  -- the class's beginning
  have kcl := K_clear (w := w) (iv := ivc)
  have cp0 : CP w _ (dfl (mbg ivm (nI n)) 10) cy0 ru0 := CP0 (iv := ivc) hw h15 (fun k hk => by rw [D, if_pos ⟨rfl, by omega, by omega⟩, show 10 + k - 10 = k by omega]) (by rw [D, if_neg (by omega), mbg_r]; simp)
  have hC1 : ∀ a k, a < w ∨ w + 20 ≤ a → am_w (am_w (am_w (am_w (am_w (am_w (am_w (am_w (am_w (am_w (am_w ivc w 0 (3 : Int32)) w 1 (4 : Int32)) w 2 (2 : Int32)) w 3 (0 : Int32)) w 4 (0 : Int32)) w 5 (0 : Int32)) w 6 (0 : Int32)) (w + 1) 0 (0 : Int32)) (w + 10) 0 (0 : Int32)) (w + 14) 0 (0 : Int32)) (w + 14) 1 (0 : Int32) a k = ivc a k := fun a k ha => by
    rw [am_w_other _ _ _ (by omega), am_w_other _ _ _ (by omega), am_w_other _ _ _ (by omega), am_w_other _ _ _ (by omega), am_w_other _ _ _ (by omega), am_w_other _ _ _ (by omega), am_w_other _ _ _ (by omega), am_w_other _ _ _ (by omega), am_w_other _ _ _ (by omega), am_w_other _ _ _ (by omega), am_w_other _ _ _ (by omega)]
  generalize am_w (am_w (am_w (am_w (am_w (am_w (am_w (am_w (am_w (am_w (am_w ivc w 0 (3 : Int32)) w 1 (4 : Int32)) w 2 (2 : Int32)) w 3 (0 : Int32)) w 4 (0 : Int32)) w 5 (0 : Int32)) w 6 (0 : Int32)) (w + 1) 0 (0 : Int32)) (w + 10) 0 (0 : Int32)) (w + 14) 0 (0 : Int32)) (w + 14) 1 (0 : Int32) = C1 at kcl cp0 hC1
  obtain ⟨C2, e1, c1, c2⟩ := K_advance (iv := C1) (t := t) (q := 0) hx (fun i hi => by rw [hC1 1 i (by omega)]; exact hc1 i hi) (by rw [hC1 t 1 (by omega)]; exact hc2) (by rw [hC1 t 4 (by omega)]; exact hc3) (Nat.zero_le _) (by omega)
  have fC1 : fC t rr C1 C2 := fun a k ha _ => X_X8_advance e1 a k (by simp) (by simp; omega)
  have hF1 : FG rr C2 (fun _ => false) := by
    refine FG.fcm (t := t) (ivc := C1) ?_ hr fC1
    unfold FG at hF ⊢
    rw [hC1 _ _ (by omega), hC1 _ _ (by omega), hC1 _ _ (by omega)]
    exact hF
  have hTR : TR t C2 M1 τ n (tkt τ n 0) (skp τ n 0) (tkb τ n 0) := ⟨c1, m1, TK.of (Nat.zero_le _), by rw [X_X10_stepOn e2 54 25 (by simp) (by simp), D, if_neg (by omega), mbg_r]; simp⟩
  obtain ⟨M, l1, l2, l3⟩ := S_lines (w := w) (rr := rr) (xr := xr) hx hw ht hrr hr (n + 1) am_fu am_fu 0 0 C2 M1 _ _ _ cy0 ru0 (fun _ => false) (by omega) (by rw [am_fu_eq]; omega) (by rw [am_fu_eq]; omega) hTR (cp0.fcm hw ht hrr fC1 fM1) hF1 (Nat.zero_le _) (by decide) (fun i hi => Nat.zero_testBit i) (by simp) (fun _ => rfl) (Nat.zero_le _)
  have l1' : am_loop (fun s : (Int32 × am_I) => B_X10_city_111 s.1 s.2) ((0 : Int32), M1) = some M := l1
  have hk2 : Hk (dfl (mbg ivm (nI n)) 10) M := fM1.hk.tr l2
  have mod : F_X10_city (nI n) ivm = J_X10_city_134 M := by
    unfold F_X10_city
    rw [if_neg (show ¬ nI n < 0 from nI_pos (by omega)), show am_w ivm 54 3 (0 : Int32) 54 18 = nI T by rw [am_w_r, if_pos rfl, if_neg (show ¬ (18 : Nat) = 3 by decide)]; exact hT, nle (by omega) (by omega), if_pos hnT]
    have pd := P_dfl (mbg ivm (nI n))
    unfold mbg at pd e2
    rw [pd, am_o1_s, e2, am_o1_s, l1', am_o1_s]
  refine ⟨M, fun a k h1 h2 => ?_, ?_, ?_, ?_, ?_⟩
  · rw [hk2 a k h1, D, if_neg (fun q => h1 (Or.inl (by omega))), mbg_r]
    by_cases e : a = 54
    · subst e
      have h3 : ¬ (k = 19) ∧ ¬ (k = 25) ∧ ¬ (k = 28) := by unfold hs at h1; omega
      rw [if_pos rfl, if_neg h3.2.2, if_neg (by omega), if_neg h3.2.1, if_neg h3.1, if_neg (by omega), if_neg (by omega), if_neg (by omega)]
    · rw [if_neg e]
  · rw [hk2 54 3 (by unfold hs; omega), D, if_neg (by omega), mbg_r]; simp
  · rw [hk2 54 18 (by unfold hs; omega), D, if_neg (by omega), mbg_r]; simp
  · rw [hk2 54 27 (by unfold hs; omega), D, if_neg (by omega), mbg_r]; simp
  · rw [mod]
    unfold F_X1_readCity J_X10_city_134
    rw [kcl, am_o1_s, e1, am_o1_s]
    rcases l3 with ⟨C3, c, ρ, q1, q2, q3⟩ | ⟨C3, q1, q2⟩
    · have q1' : am_loop (fun s : (Int32 × am_I) => B_X1_readCity_16 w t rr xr s.1 s.2) ((0 : Int32), C2) = some (.inl C3) := q1
      obtain ⟨C4, s1, s2⟩ := K_settle q3.1 q3.2.2.2.1 q3.2.2.2.2.1
      have fs := X_X0_settle s1
      unfold J_X1_readCity_66
      rw [q1', am_lp_l, s1, am_o1_s, if_pos q2, P_take, am_o1_s]
      refine Or.inl ⟨C4, c, ρ, rfl, rfl, q3.2.2.2.1, q3.2.2.2.2.2.2, s2, ?_, tk_C q3.2.2.1 q3.2.2.2.1, tk_R q3.2.2.2.2.2.1 q3.2.2.2.1.2.2.2.1 q3.2.2.2.2.2.2.2.1⟩
      have hB := q3.2.1
      unfold cl_B at hB ⊢
      rw [fs w 3 (by simp) (by simp), fs w 4 (by simp) (by simp), fs w 5 (by simp) (by simp), fs w 6 (by simp) (by simp)]
      exact hB
    · have q1' : am_loop (fun s : (Int32 × am_I) => B_X1_readCity_16 w t rr xr s.1 s.2) ((0 : Int32), C2) = some (.inr ((0 : Int32), C3)) := q1
      rw [q1', am_lp_r, if_neg q2.1]
      refine Or.inr ⟨C3, rfl, ?_, q2⟩
      rw [show (0 : Int32).toNatClampNeg = 0 from by decide]
      simp only [am_w_r]
      simp
end B89e
