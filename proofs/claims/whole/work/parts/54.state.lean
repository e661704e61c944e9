/-! calls that change what is out, sleeps, has bread: sleeps, move, undo -/
section B54
variable {w pp np : Nat} {iv iv' iv2 : am_I} {c : Nat → Nat → Nat} {ρ : ru_T}
/-- the same but for the state of now and what no answer looks at -/
def sn (w pp : Nat) (iv iv' : am_I) : Prop := (∀ k, k < 17 → iv' (w + k) = iv (w + k)) ∧ (∀ a, (a < 2 ∨ (46 ≤ a ∧ a < 50) ∨ (55 ≤ a ∧ a < 70) ∨ a = 71 ∨ a = 81 ∨ (84 ≤ a ∧ a < 88) ∨ a = pp) → iv' a = iv a) ∧ ∀ k, (k = 18 ∨ k = 27 ∨ k = 45 ∨ (48 ≤ k ∧ k ≤ 52)) → iv' 54 k = iv 54 k
theorem sn.rf : sn w pp iv iv := ⟨fun _ _ => rfl, fun _ _ => rfl, fun _ _ => rfl⟩
theorem sn.tr (h1 : sn w pp iv iv') (h2 : sn w pp iv' iv2) : sn w pp iv iv2 := ⟨fun k hk => (h2.1 k hk).trans (h1.1 k hk), fun a ha => (h2.2.1 a ha).trans (h1.2.1 a ha), fun k hk => (h2.2.2 k hk).trans (h1.2.2 k hk)⟩
def sna (w pp a : Nat) : Bool := !decide (a < 2) && !(decide (w ≤ a) && decide (a < w + 17)) && !(decide (46 ≤ a) && decide (a < 50)) && !(decide (54 ≤ a) && decide (a < 70)) && !decide (a = 71) && !decide (a = 81) && !(decide (84 ≤ a) && decide (a < 88)) && !decide (a = pp)
def snf (w pp a j : Nat) : Bool := sna w pp a || (decide (a = 54) && !decide (j = 18 ∨ j = 27 ∨ j = 45 ∨ (48 ≤ j ∧ j ≤ 52)))
theorem sn.of {A : List Nat} {L : List (Nat × Nat)} (f : am_fr A L iv iv') (hw : w = 2 ∨ w = 22) (hp : 51 ≤ pp ∧ (pp < 54 ∨ 89 ≤ pp)) (hA : ∀ a ∈ A, sna w pp a = true) (hL : ∀ q ∈ L, snf w pp q.1 q.2 = true) : sn w pp iv iv' := by
  refine ⟨fun k hk => funext fun j => f _ j (fun q => ?_) (fun q => ?_), fun a ha => funext fun j => f _ j (fun q => ?_) (fun q => ?_), fun k hk => f _ _ (fun q => ?_) (fun q => ?_)⟩
  · have := hA _ q; simp [sna] at this; omega
  · have := hL _ q; simp [snf, sna] at this; omega
  · have := hA _ q; simp [sna] at this; omega
  · have := hL _ q; simp [snf, sna] at this; omega
  · have := hA _ q; simp [sna] at this
  · have := hL _ q; simp [snf, sna] at this; omega
theorem Rel.sn (h : Rel w pp np iv c ρ) (e : sn w pp iv iv') (hW : cl_W w iv' c ρ) (hS : St 42 29 72 73 74 70 iv' c) : Rel w pp np iv' c ρ := by
  obtain ⟨h1, h2, h3, h4, h5, h6, h7⟩ := h
  obtain ⟨e1, e2, e3⟩ := e
  refine ⟨h1.fr (fun a a1 a2 => e2 a (by omega)), h2.fw (e1 0 (by decide)) hW, hS, ?_, ?_, ?_, ?_⟩
  · obtain ⟨k, a1, a2, a3⟩ := h4
    exact ⟨k, by rw [e2 0 (by omega)]; exact a1, by rw [e3 48 (by omega)]; exact a2, fun hk => (a3 hk).fr (fun a ha => e2 a (by omega)) (fun k hk => e3 _ (by omega))⟩
  · unfold Tp at h5 ⊢
    rw [e2 0 (by omega), e2 1 (by omega), e2 71 (by omega), e3 18 (by omega)]
    exact h5
  · rw [e2 0 (by omega), e3 27 (by omega)]; exact h6
  · unfold Rw at h7 ⊢
    rw [e2 0 (by omega), e2 81 (by omega), e2 pp (by omega), e3 45 (by omega)]
    exact h7
theorem cl_W.fa (h : cl_W w iv c ρ) {A : List Nat} {L : List (Nat × Nat)} (f : am_fr A L iv iv') (hA : ∀ a ∈ A, a < w ∨ w + 20 ≤ a) (hL : ∀ q ∈ L, q.1 < w ∨ w + 20 ≤ q.1) : cl_W w iv' c ρ := by
  have e : ∀ k, k < 20 → iv' (w + k) = iv (w + k) := fun k hk => funext fun j => f _ j (fun q => by have := hA _ q; omega) (fun q => by have := hL _ q; simp only at this; omega)
  exact ⟨h.1.fr (fun k hk => e k (by omega)), h.2.1.fr (fun k hk => e k (by omega)), h.2.2.1.fr (fun k hk => e k (by omega)), fun s hs => by rw [e 19 (by omega)]; exact h.2.2.2 s hs⟩
theorem C_sleeps (h : Rel w pp np iv c ρ) (hw : w = 2 ∨ w = 22) (hp : 51 ≤ pp ∧ (pp < 54 ∨ 89 ≤ pp)) (x y : Int32) : (F_X9_sleeps w x y iv = some none ∧ ∃ iv2, F_X10_sleeps x y iv = some iv2 ∧ iv2 54 3 = 1 ∧ Rel w pp np iv2 c ρ) ∨ (∃ iv1 iv2, F_X9_sleeps w x y iv = some (some iv1) ∧ F_X10_sleeps x y iv1 = some iv2 ∧ iv2 54 3 = 0 ∧ Rel w pp np iv2 c ρ) := by
  have hc := h.1.1
  have hn := hc.1
  have kC := h.2.1.1.1
  cases hx : xin x (cy_n c) with
  | false =>
    left
    have hr := h.code hw hp 0
    refine ⟨?_, am_w iv 54 3 1, ?_, am_code0 _, h.code hw hp 1⟩
    · unfold F_X9_sleeps; rw [K_demandDrawer kC, hx]; rfl
    · unfold F_X10_sleeps; rw [P_isDrawer hr.1.2.2.1 hc, hx, am_o1_s, if_pos (show am_bi false = 0 from rfl), am_codes]
  | true =>
    right
    obtain ⟨d, hd, rfl⟩ := xin_t (by omega) hx
    obtain ⟨o, a, f, m, ⟨b1, b2, b3, b4⟩, ⟨s0, s1, s2, s3⟩, ⟨m0, m1, m2, m3⟩, r1, r2, r3, r4, r5⟩ := h.2.2.1
    have hdp : 2 ^ d < 2 ^ cy_n c := am_p2 hd
    have key : ∀ (a' : Nat), a' < 2 ^ cy_n c → Rel w pp np (am_w (am_w (am_w iv 42 1 (nI a')) 54 3 0) 54 30 (nI a')) c ρ := by
      intro a' ha
      have f1 : am_fr [] [(42, 1), (54, 3), (54, 30)] iv (am_w (am_w (am_w iv 42 1 (nI a')) 54 3 0) 54 30 (nI a')) := (((am_fr.rf _ _ _).f (by simp)).f (by simp)).f (by simp)
      refine h.sn (sn.of f1 hw hp (fun a ha => by cases ha) (fun q hq => by simp at hq; rcases hq with rfl | rfl | rfl <;> simp [snf, sna] <;> omega)) (h.2.1.1.fa f1 (fun a ha => by cases ha) (fun q hq => by simp at hq; rcases hq with rfl | rfl | rfl <;> simp <;> omega)) ?_
      refine ⟨o, a', f, m, ⟨b1, ha, b3, b4⟩, ?_, ?_, ?_, ?_, ?_, ?_, ?_⟩ <;> simp [am_w_r, s0, s2, s3, m0, m2, m3, r1, r4, r5] <;> assumption
    have hCx : ∀ v, mo_C (am_w (am_w iv 42 1 v) 54 3 0) c := fun v => h.1.2.2.1.fr (fun a a1 a2 => by rw [am_w_other _ _ _ (by omega), am_w_other _ _ _ (by omega)])
    have e30 : ∀ v, am_w (am_w iv 42 1 v) 54 3 0 54 30 = nI a := fun v => by rw [am_code1 _ (by decide), am_w_other _ _ _ (by decide), m1]
    by_cases hy : y = 0
    · have hlt : a ^^^ (a &&& 2 ^ d) < 2 ^ cy_n c := Nat.xor_lt_two_pow b2 (am_andlt b2)
      refine ⟨am_w iv 42 1 (nI (a ^^^ (a &&& 2 ^ d))), am_w (am_w (am_w iv 42 1 (nI (a ^^^ (a &&& 2 ^ d)))) 54 3 0) 54 30 (nI (a ^^^ (a &&& 2 ^ d))), ?_, ?_, ?_, key _ hlt⟩
      · unfold F_X9_sleeps J_X9_sleeps_40
        rw [K_demandDrawer kC, hx]
        show (if y = 0 then _ else _) = _
        rw [if_pos hy, s1, am_shl1 d (by omega), nI_andn]
      · unfold F_X10_sleeps J_X10_sleeps_45
        rw [P_isDrawer (hCx _) hc, hx, am_o1_s, if_neg (by decide), if_pos hy, e30, am_shl1 d (by omega), nI_andn]
      · rw [am_w_r, if_pos rfl, if_neg (by decide)]; exact am_code0 _
    · have hlt : a ||| 2 ^ d < 2 ^ cy_n c := am_orlt b2 hdp
      refine ⟨am_w iv 42 1 (nI (a ||| 2 ^ d)), am_w (am_w (am_w iv 42 1 (nI (a ||| 2 ^ d))) 54 3 0) 54 30 (nI (a ||| 2 ^ d)), ?_, ?_, ?_, key _ hlt⟩
      · unfold F_X9_sleeps J_X9_sleeps_40
        rw [K_demandDrawer kC, hx]
        show (if y = 0 then _ else _) = _
        rw [if_neg hy, s1, am_shl1 d (by omega), fa_or]
      · unfold F_X10_sleeps J_X10_sleeps_45
        rw [P_isDrawer (hCx _) hc, hx, am_o1_s, if_neg (by decide), if_neg hy, e30, am_shl1 d (by omega), fa_or]
      · rw [am_w_r, if_pos rfl, if_neg (by decide)]; exact am_code0 _
theorem C_undo (h : Rel w pp np iv c ρ) (hw : w = 2 ∨ w = 22) (hp : 51 ≤ pp ∧ (pp < 54 ∨ 89 ≤ pp)) : ∃ v iv1 iv2, F_X9_undo w iv = some (v, iv1) ∧ F_X10_undo iv1 = some (v, iv2) ∧ Rel w pp np iv2 c ρ := by
  have hc := h.1.1
  have hn := hc.1
  obtain ⟨o, a, f, m, ⟨b1, b2, b3, b4⟩, ⟨s0, s1, s2, s3⟩, ⟨m0, m1, m2, m3⟩, r1, r2, r3, r4, r5⟩ := h.2.2.1
  by_cases hm : m = 0
  · subst hm
    refine ⟨-1, iv, am_w iv 54 3 0, ?_, ?_, h.code hw hp 0⟩
    · unfold F_X9_undo F_X7_undoMove
      rw [s3, if_pos (show nI 0 ≤ 0 by decide), am_o2_s]
    · unfold F_X10_undo
      rw [am_code1 _ (by decide), m3, if_pos (show nI 0 = 0 from rfl)]
  · obtain ⟨x, x1, x2, x3⟩ := r2 (m - 1) (by omega)
    obtain ⟨y, y1, y2, y3⟩ := r3 (m - 1) (by omega)
    have hm1 : m - 1 < 100 := by omega
    have e1 : F_X9_undo w iv = some (nI (m - 1), am_w (am_w (am_w iv 42 3 (nI (m - 1))) 42 0 (nI (o ^^^ 2 ^ x))) 42 2 (nI y)) := by
      have t1 : am_w (am_w iv 42 3 (nI (m - 1))) 42 0 (nI (o ^^^ 2 ^ x)) 45 (m - 1) = nI y := by rw [am_w_other _ _ _ (by decide), am_w_other _ _ _ (by decide)]; exact y2
      have t2 : am_w iv 42 3 (nI (m - 1)) 44 (m - 1) = nI x := by rw [am_w_other _ _ _ (by decide)]; exact x2
      unfold F_X9_undo F_X7_undoMove
      rw [s3, if_neg (nI_nle (by omega) (by omega)), if_pos (show nI m ≤ 100 from nI_le (by omega) (by decide)), nI_s1 (by omega)]
      have t3 : am_w iv 42 3 (nI (m - 1)) 42 3 = nI (m - 1) := by simp [am_w_r]
      have t4 : am_w iv 42 3 (nI (m - 1)) 42 0 = nI o := by simp [am_w_r, s0]
      rw [t3, am_cl (by omega), t4]
      simp only [show 42 + 2 = 44 from rfl, show 42 + 3 = 45 from rfl]
      rw [t2, am_shl1 x (by omega), fb_xorI]
      have t5 : am_w (am_w iv 42 3 (nI (m - 1))) 42 0 (nI (o ^^^ 2 ^ x)) 42 3 = nI (m - 1) := by simp [am_w_r]
      rw [t5, am_cl (by omega), t1, if_pos (vb hm1 (by decide)), if_pos (vb hm1 (by decide)), am_o2_s]
      simp [am_w_r]
    refine ⟨nI (m - 1), _, am_w (am_w (am_w (am_w (am_w (am_w (am_w iv 42 3 (nI (m - 1))) 42 0 (nI (o ^^^ 2 ^ x))) 42 2 (nI y)) 54 3 0) 54 32 (nI (m - 1))) 54 29 (nI (o ^^^ 2 ^ x))) 54 31 (nI y), e1, ?_, ?_⟩
    · generalize hv : am_w (am_w (am_w iv 42 3 (nI (m - 1))) 42 0 (nI (o ^^^ 2 ^ x))) 42 2 (nI y) = iv1
      have u : ∀ a, a ≠ 42 → iv1 a = iv a := fun a ha => by rw [← hv, am_w_other _ _ _ ha, am_w_other _ _ _ ha, am_w_other _ _ _ ha]
      have u32 : iv1 54 32 = nI m := by rw [u 54 (by decide)]; exact m3
      have u29 : iv1 54 29 = nI o := by rw [u 54 (by decide)]; exact m0
      have u73 : iv1 73 (m - 1) = nI x := by rw [u 73 (by decide)]; exact x3
      have u74 : iv1 74 (m - 1) = nI y := by rw [u 74 (by decide)]; exact y3
      unfold F_X10_undo
      rw [am_code1 _ (show 32 ≠ 3 by decide), u32, if_neg (nI_ne0 (by omega) (by omega)), nI_s1 (by omega)]
      have t3 : am_w (am_w iv1 54 3 0) 54 32 (nI (m - 1)) 54 32 = nI (m - 1) := by simp [am_w_r]
      have t4 : am_w (am_w iv1 54 3 0) 54 32 (nI (m - 1)) 54 29 = nI o := by simp [am_w_r, u29]
      have t2 : am_w (am_w iv1 54 3 0) 54 32 (nI (m - 1)) 73 (m - 1) = nI x := by rw [am_w_other _ _ _ (by decide), am_w_other _ _ _ (by decide)]; exact u73
      rw [t3, am_cl (by omega), t4, t2, am_shl1 x (by omega), fb_xorI]
      have t5 : am_w (am_w (am_w iv1 54 3 0) 54 32 (nI (m - 1))) 54 29 (nI (o ^^^ 2 ^ x)) 54 32 = nI (m - 1) := by simp [am_w_r]
      have t1 : am_w (am_w (am_w iv1 54 3 0) 54 32 (nI (m - 1))) 54 29 (nI (o ^^^ 2 ^ x)) 74 (m - 1) = nI y := by rw [am_w_other _ _ _ (by decide), am_w_other _ _ _ (by decide), am_w_other _ _ _ (by decide)]; exact u74
      rw [t5, am_cl (by omega), t1, if_pos (vb hm1 (by decide)), if_pos (vb hm1 (by decide))]
      simp [am_w_r]
    · have f1 : am_fr [] [(42, 3), (42, 0), (42, 2), (54, 3), (54, 32), (54, 29), (54, 31)] iv (am_w (am_w (am_w (am_w (am_w (am_w (am_w iv 42 3 (nI (m - 1))) 42 0 (nI (o ^^^ 2 ^ x))) 42 2 (nI y)) 54 3 0) 54 32 (nI (m - 1))) 54 29 (nI (o ^^^ 2 ^ x))) 54 31 (nI y)) := (((((((am_fr.rf _ _ _).f (by simp)).f (by simp)).f (by simp)).f (by simp)).f (by simp)).f (by simp)).f (by simp)
      refine h.sn (sn.of f1 hw hp (fun a ha => by cases ha) (fun q hq => by simp at hq; rcases hq with rfl | rfl | rfl | rfl | rfl | rfl | rfl <;> simp [snf, sna] <;> omega)) (h.2.1.1.fa f1 (fun a ha => by cases ha) (fun q hq => by simp at hq; rcases hq with rfl | rfl | rfl | rfl | rfl | rfl | rfl <;> simp <;> omega)) ?_
      refine ⟨o ^^^ 2 ^ x, a, y, m - 1, ⟨cy_x2 b1 x1, b2, y1, by omega⟩, ⟨?_, ?_, ?_, ?_⟩, ⟨?_, ?_, ?_, ?_⟩, ?_, fun i hi => ?_, fun i hi => ?_, ?_, ?_⟩
      · simp [am_w_r]
      · simp [am_w_r, s1]
      · simp [am_w_r]
      · simp [am_w_r]
      · simp [am_w_r]
      · simp [am_w_r, m1]
      · simp [am_w_r]
      · simp [am_w_r]
      · intro i hi; simp [am_w_r]; exact r1 i hi
      · obtain ⟨z, z1, z2, z3⟩ := r2 i (by omega)
        exact ⟨z, z1, by simp [am_w_r]; exact z2, by simp [am_w_r]; exact z3⟩
      · obtain ⟨z, z1, z2, z3⟩ := r3 i (by omega)
        exact ⟨z, z1, by simp [am_w_r]; exact z2, by simp [am_w_r]; exact z3⟩
      · simp [am_w_r, r4]
      · simp [am_w_r, r5]
end B54
