/-! what the two objects have in common, between calls -/
/-- rent and wind of the wall -/
def cl_B (w : Nat) (iv : am_I) (c : Nat → Nat → Nat) : Prop := iv w 3 = nI (c 0 6) ∧ iv w 4 = nI (c 0 7) ∧ iv w 5 = nI (c 0 8) ∧ iv w 6 = nI (c 0 9)
/-- a state at u, the model's at the fields b on and the rows h mv fa ss -/
def St (u b h mv fa ss : Nat) (iv : am_I) (c : Nat → Nat → Nat) : Prop := ∃ o a f m : Nat, (o < 2 ^ cy_n c ∧ a < 2 ^ cy_n c ∧ f < 2 ^ cy_p c ∧ m ≤ 100) ∧ (iv u 0 = nI o ∧ iv u 1 = nI a ∧ iv u 2 = nI f ∧ iv u 3 = nI m) ∧ (iv 54 b = nI o ∧ iv 54 (b + 1) = nI a ∧ iv 54 (b + 2) = nI f ∧ iv 54 (b + 3) = nI m) ∧ (∀ i, i < 5 → iv (u + 1) i = iv h i) ∧ (∀ i, i < m → ∃ x, x < cy_n c ∧ iv (u + 2) i = nI x ∧ iv mv i = nI x) ∧ (∀ i, i < m → ∃ x, x < 2 ^ cy_p c ∧ iv (u + 3) i = nI x ∧ iv fa i = nI x) ∧ iv u 4 = iv ss 0 ∧ iv u 5 = iv ss 1
def Im (iv : am_I) (c : Nat → Nat → Nat) : Prop := ∃ k : Bool, iv 0 7 = am_bi k ∧ iv 54 48 = am_bi k ∧ (k = true → St 46 49 84 85 86 87 iv c)
def Tp (iv : am_I) : Prop := ∃ t : Nat, t ≤ 700 ∧ iv 0 1 = nI t ∧ iv 54 18 = nI t ∧ ∀ i, i < t → ∃ b, b < 256 ∧ iv 71 i = nI b ∧ iv 1 i = (nI b).toInt8.toInt32
def Rw (pp np : Nat) (iv : am_I) : Prop := (iv 0 10 = -1 ∧ iv 54 45 = -1) ∨ ∃ L : Nat, L ≤ np ∧ L ≤ 6143 ∧ iv 0 10 = nI L ∧ iv 54 45 = nI L ∧ ∀ i, i < L → iv pp i = iv 81 i
def RM (iv : am_I) (c : Nat → Nat → Nat) (ρ : ru_T) : Prop := cy_ok c ∧ ru_ok ρ (cy_r c) ∧ mo_C iv c ∧ mo_R iv ρ (cy_r c)
def RK (w : Nat) (iv : am_I) (c : Nat → Nat → Nat) (ρ : ru_T) : Prop := cl_W w iv c ρ ∧ cl_B w iv c
def Rel (w pp np : Nat) (iv : am_I) (c : Nat → Nat → Nat) (ρ : ru_T) : Prop := RM iv c ρ ∧ RK w iv c ρ ∧ St 42 29 72 73 74 70 iv c ∧ Im iv c ∧ Tp iv ∧ iv 0 2 = iv 54 27 ∧ Rw pp np iv
section B50
variable {w pp np : Nat} {iv iv' : am_I} {c : Nat → Nat → Nat} {ρ : ru_T}
theorem St.fr {u b h mv fa ss : Nat} (hS : St u b h mv fa ss iv c) (e : ∀ a, a = u ∨ a = u + 1 ∨ a = u + 2 ∨ a = u + 3 ∨ a = h ∨ a = mv ∨ a = fa ∨ a = ss → iv' a = iv a) (e2 : ∀ k, k < 4 → iv' 54 (b + k) = iv 54 (b + k)) : St u b h mv fa ss iv' c := by
  have e0 : iv' 54 b = iv 54 b := e2 0 (by decide)
  unfold St at hS ⊢
  rw [e u (by simp), e (u + 1) (by simp), e (u + 2) (by simp), e (u + 3) (by simp), e h (by simp), e mv (by simp), e fa (by simp), e ss (by simp), e0, e2 1 (by decide), e2 2 (by decide), e2 3 (by decide)]
  exact hS
theorem RM.fr (h : RM iv c ρ) (e : ∀ a, 58 ≤ a → a < 70 → iv' a = iv a) : RM iv' c ρ := ⟨h.1, h.2.1, h.2.2.1.fr e, h.2.2.2.fr e⟩
theorem RK.fr (h : RK w iv c ρ) (e : ∀ k, k < 17 → iv' (w + k) = iv (w + k)) (e9 : iv' (w + 19) = iv (w + 19)) : RK w iv' c ρ := by
  refine ⟨⟨h.1.1.fr e, h.1.2.1.fr e, h.1.2.2.1.fr e, fun s hs => by rw [e9]; exact h.1.2.2.2 s hs⟩, ?_⟩
  have e0 : iv' w = iv w := e 0 (by decide)
  unfold cl_B
  rw [e0]
  exact h.2
theorem RK.fw (h : RK w iv c ρ) (e : iv' w = iv w) (h2 : cl_W w iv' c ρ) : RK w iv' c ρ := by
  refine ⟨h2, ?_⟩
  unfold cl_B
  rw [e]
  exact h.2
/-- the same but for what no answer looks at -/
def sm (w pp : Nat) (iv iv' : am_I) : Prop := (∀ k, k < 17 → iv' (w + k) = iv (w + k)) ∧ (∀ a, (a < 2 ∨ (42 ≤ a ∧ a < 50) ∨ (55 ≤ a ∧ a < 75) ∨ a = 81 ∨ (84 ≤ a ∧ a < 88) ∨ a = pp) → iv' a = iv a) ∧ ∀ k, (k = 18 ∨ k = 27 ∨ (29 ≤ k ∧ k ≤ 32) ∨ k = 45 ∨ (48 ≤ k ∧ k ≤ 52)) → iv' 54 k = iv 54 k
theorem sm.rf : sm w pp iv iv := ⟨fun _ _ => rfl, fun _ _ => rfl, fun _ _ => rfl⟩
theorem sm.tr {iv2 : am_I} (h1 : sm w pp iv iv') (h2 : sm w pp iv' iv2) : sm w pp iv iv2 := ⟨fun k hk => (h2.1 k hk).trans (h1.1 k hk), fun a ha => (h2.2.1 a ha).trans (h1.2.1 a ha), fun k hk => (h2.2.2 k hk).trans (h1.2.2 k hk)⟩
/-- what may change -/
def ska (w pp a : Nat) : Bool := !decide (a < 2) && !(decide (w ≤ a) && decide (a < w + 17)) && !(decide (42 ≤ a) && decide (a < 50)) && !(decide (54 ≤ a) && decide (a < 75)) && !decide (a = 81) && !(decide (84 ≤ a) && decide (a < 88)) && !decide (a = pp)
def skf (w pp a j : Nat) : Bool := ska w pp a || (decide (a = 54) && !decide (j = 18 ∨ j = 27 ∨ (29 ≤ j ∧ j ≤ 32) ∨ j = 45 ∨ (48 ≤ j ∧ j ≤ 52)))
theorem sm.of {A : List Nat} {L : List (Nat × Nat)} (f : am_fr A L iv iv') (hw : w = 2 ∨ w = 22) (hp : 51 ≤ pp ∧ (pp < 54 ∨ 89 ≤ pp)) (hA : ∀ a ∈ A, ska w pp a = true) (hL : ∀ q ∈ L, skf w pp q.1 q.2 = true) : sm w pp iv iv' := by
  refine ⟨fun k hk => funext fun j => f _ j (fun q => ?_) (fun q => ?_), fun a ha => funext fun j => f _ j (fun q => ?_) (fun q => ?_), fun k hk => f _ _ (fun q => ?_) (fun q => ?_)⟩
  · have := hA _ q; simp [ska] at this; omega
  · have := hL _ q; simp [skf, ska] at this; omega
  · have := hA _ q; simp [ska] at this; omega
  · have := hL _ q; simp [skf, ska] at this; omega
  · have := hA _ q; simp [ska] at this
  · have := hL _ q; simp [skf, ska] at this; omega
theorem Rel.fr (h : Rel w pp np iv c ρ) (e : sm w pp iv iv') (hW : cl_W w iv' c ρ) : Rel w pp np iv' c ρ := by
  obtain ⟨h1, h2, h3, h4, h5, h6, h7⟩ := h
  obtain ⟨e1, e2, e3⟩ := e
  refine ⟨h1.fr (fun a a1 a2 => e2 a (by omega)), h2.fw (e1 0 (by decide)) hW, h3.fr (fun a ha => e2 a (by omega)) (fun k hk => e3 _ (by omega)), ?_, ?_, ?_, ?_⟩
  · obtain ⟨k, a1, a2, a3⟩ := h4
    exact ⟨k, by rw [e2 0 (by omega)]; exact a1, by rw [e3 48 (by omega)]; exact a2, fun hk => (a3 hk).fr (fun a ha => e2 a (by omega)) (fun k hk => e3 _ (by omega))⟩
  · unfold Tp at h5 ⊢
    rw [e2 0 (by omega), e2 1 (by omega), e2 71 (by omega), e3 18 (by omega)]
    exact h5
  · rw [e2 0 (by omega), e3 27 (by omega)]; exact h6
  · unfold Rw at h7 ⊢
    rw [e2 0 (by omega), e2 81 (by omega), e2 pp (by omega), e3 45 (by omega)]
    exact h7
theorem Rel.fr' (h : Rel w pp np iv c ρ) (e : sm w pp iv iv') (e9 : iv' (w + 19) = iv (w + 19)) : Rel w pp np iv' c ρ := h.fr e (h.2.1.fr e.1 e9).1
/-- how the two agree in a call: thrown (the model's code is 1), or both answer the same -/
def agr (Rl : am_I → Prop) (fc : Option (Option (Int32 × am_I))) (iv : am_I) (fm : am_I → Option (Int32 × am_I)) : Prop := (fc = some none ∧ ∃ v iv2, fm iv = some (v, iv2) ∧ iv2 54 3 = 1 ∧ Rl iv2) ∨ (∃ v iv1 iv2, fc = some (some (v, iv1)) ∧ fm iv1 = some (v, iv2) ∧ iv2 54 3 = 0 ∧ Rl iv2)
def wv (iv : am_I) (o : Option (Option Int32)) : Option (Option (Int32 × am_I)) := o.map fun q => q.map fun v => (v, iv)
theorem sm_code (hw : w = 2 ∨ w = 22) (hp : 51 ≤ pp ∧ (pp < 54 ∨ 89 ≤ pp)) (x : Int32) : sm w pp iv (am_w iv 54 3 x) := sm.of ((am_fr.rf [] [(54, 3)] iv).f (by simp)) hw hp (fun a ha => by cases ha) (fun q hq => by
  simp at hq; subst hq; simp [skf])
theorem Rel.code (h : Rel w pp np iv c ρ) (hw : w = 2 ∨ w = 22) (hp : 51 ≤ pp ∧ (pp < 54 ∨ 89 ≤ pp)) (x : Int32) : Rel w pp np (am_w iv 54 3 x) c ρ := h.fr' (sm_code hw hp x) (am_w_other _ _ _ (by omega))
theorem am_code0 (x : Int32) : am_w iv 54 3 x 54 3 = x := by rw [am_w_r, if_pos rfl, if_pos rfl]
theorem am_code1 {k : Nat} (x : Int32) (hk : k ≠ 3) : am_w iv 54 3 x 54 k = iv 54 k := by rw [am_w_r, if_pos rfl, if_neg hk]
end B50
