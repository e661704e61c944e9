/-! reading a line on both sides: what is read so far; wall, reach, rent, wind -/
/-- the city being read, as the model's second halves have it -/
def mo_H (iv : am_I) (c : Nat → Nat → Nat) : Prop :=
  (iv 58 10 = nI (c 0 4) ∧ iv 58 11 = nI (c 0 5) ∧ iv 58 12 = nI (cy_n c) ∧ iv 58 13 = nI (cy_p c) ∧ iv 58 14 = nI (cy_re c) ∧ iv 58 15 = nI (cy_r c) ∧ iv 58 16 = nI (c 0 6) ∧ iv 58 17 = nI (c 0 7) ∧ iv 58 18 = nI (c 0 8) ∧ iv 58 19 = nI (c 0 9)) ∧
  (∀ j, j < cy_n c → iv 59 (10 + j) = nI (cy_kd c j) ∧ iv 60 (10 + j) = nI (cy_co c j) ∧ iv 61 (10 + j) = nI (cy_st c j) ∧ iv 62 (10 + j) = nI (cy_le c j) ∧ iv 63 (10 + j) = nI (cy_wi c j)) ∧
  (∀ p, p < cy_p c → iv 64 (5 + p) = nI (cy_ho c p) ∧ iv 65 (5 + p) = cy_shI c p ∧ iv 66 (5 + p) = nI (cy_we c p))
def mo_Z (iv : am_I) (ρ : ru_T) (nr : Nat) : Prop := (∀ r, r < nr → iv 67 (4 + r) = nI (ρ.1 r) ∧ iv 68 (4 + r) = nI (ρ.1 (r + 1))) ∧ iv 54 28 = nI (ρ.1 nr) ∧ ∀ k, k < ρ.1 nr → iv 69 (700 + k) = ρ.2 k
def CP (w : Nat) (ivc ivm : am_I) (c : Nat → Nat → Nat) (ρ : ru_T) : Prop := cl_C w ivc c ∧ cl_B w ivc c ∧ mo_H ivm c ∧ cy_ok c ∧ cl_R w ivc ρ (cy_r c) ∧ mo_Z ivm ρ (cy_r c) ∧ ru_ok ρ (cy_r c)
def FG (rr : Nat) (iv : am_I) (f : Nat → Bool) : Prop := iv rr 3 = am_bi (f 0) ∧ iv rr 4 = am_bi (f 1) ∧ iv rr 5 = am_bi (f 2)
def upd0 (c : Nat → Nat → Nat) (k v : Nat) : Nat → Nat → Nat := fun a b => if a = 0 ∧ b = k then v else c a b
section B80
variable {w t rr xr : Nat} {ivc ivm ivc' ivm' : am_I} {τ : Nat → Nat} {n ty fi be : Nat} {c : Nat → Nat → Nat} {ρ : ru_T} {f : Nat → Bool}
theorem CP.fr (h : CP w ivc ivm c ρ) (e : ∀ k, k < 17 → ivc' (w + k) = ivc (w + k)) (e2 : ∀ a, 58 ≤ a → a < 70 → ivm' a = ivm a) (e3 : ivm' 54 28 = ivm 54 28) : CP w ivc' ivm' c ρ := by
  obtain ⟨h1, h2, h3, h4, h5, h6, h7⟩ := h
  have e0 : ivc' w = ivc w := e 0 (by decide)
  refine ⟨h1.fr e, ?_, ?_, h4, h5.fr e, ?_, h7⟩
  · unfold cl_B; rw [e0]; exact h2
  · unfold mo_H at h3 ⊢
    rw [e2 58 (by decide) (by decide), e2 59 (by decide) (by decide), e2 60 (by decide) (by decide), e2 61 (by decide) (by decide), e2 62 (by decide) (by decide), e2 63 (by decide) (by decide), e2 64 (by decide) (by decide), e2 65 (by decide) (by decide), e2 66 (by decide) (by decide)]
    exact h3
  · unfold mo_Z at h6 ⊢
    rw [e2 67 (by decide) (by decide), e2 68 (by decide) (by decide), e2 69 (by decide) (by decide), e3]
    exact h6
theorem CP.fcm (h : CP w ivc ivm c ρ) (hw : w = 2 ∨ w = 22) (ht : 89 ≤ t) (hrr : 89 ≤ rr) (h1 : fC t rr ivc ivc') (h2 : fM ivm ivm') : CP w ivc' ivm' c ρ :=
  h.fr (fun k hk => h1.r (by omega) (by omega)) (fun a _ _ => h2.r (by omega)) (h2 54 28 (by omega))
theorem FG.fcm (h : FG rr ivc f) (hr : rr ≠ t) (h1 : fC t rr ivc ivc') : FG rr ivc' f := by
  unfold FG at h ⊢
  rw [h1 rr 3 hr (Or.inr (by decide)), h1 rr 4 hr (Or.inr (by decide)), h1 rr 5 hr (Or.inr (by decide))]
  exact h
theorem FG.wr (h : FG rr ivc f) {a k : Nat} {x : Int32} (ha : a ≠ rr) : FG rr (am_w ivc a k x) f := by
  unfold FG at h ⊢
  rw [am_w_other _ _ _ (fun q => ha q.symm)]; exact h
theorem TR.wc (h : TR t ivc ivm τ n ty fi be) {a k : Nat} {x : Int32} (h1 : a ≠ 1) (h2 : a ≠ t) : TR t (am_w ivc a k x) ivm τ n ty fi be := ⟨h.1.fr (fun _ => by rw [am_w_other _ _ _ (fun q => h1 q.symm)]) (fun _ _ => by rw [am_w_other _ _ _ (fun q => h2 q.symm)]), h.2⟩
theorem TR.wm (h : TR t ivc ivm τ n ty fi be) {a k : Nat} {x : Int32} (h1 : a ≠ 71) (h2 : a ≠ 54) : TR t ivc (am_w ivm a k x) τ n ty fi be := ⟨h.1, h.2.1.fr (fun _ => by rw [am_w_other _ _ _ (fun q => h1 q.symm)]) (fun _ _ _ => by rw [am_w_other _ _ _ (fun q => h2 q.symm)]), h.2.2.1, by rw [am_w_other _ _ _ (fun q => h2 q.symm)]; exact h.2.2.2⟩
/-- which number of the class is which of the model -/
def nums : List (Nat × Nat × Nat) := [(4, 0, 10), (5, 1, 11), (1, 2, 14), (6, 3, 16), (7, 4, 17), (8, 5, 18), (9, 6, 19)]
theorem CP.set {k cc mm v : Nat} (hw : w = 2 ∨ w = 22) (hk : (k, cc, mm) ∈ nums) (h : CP w ivc ivm c ρ) (hok : cy_ok (upd0 c k v)) : CP w (am_w ivc w cc (nI v)) (am_w ivm 58 mm (nI v)) (upd0 c k v) ρ := by
  obtain ⟨⟨h1, h1b, h1c⟩, h2, ⟨h3, h3b, h3c⟩, h4, h5, h6, h7⟩ := h
  have hu : ∀ a b, a ≠ 0 → upd0 c k v a b = c a b := fun a b ha => by unfold upd0; rw [if_neg (by omega)]
  have h0 : upd0 c k v 0 0 = c 0 0 ∧ upd0 c k v 0 2 = c 0 2 ∧ upd0 c k v 0 3 = c 0 3 := by
    simp only [nums, List.mem_cons, Prod.mk.injEq, List.not_mem_nil, or_false] at hk
    unfold upd0
    refine ⟨if_neg (by omega), if_neg (by omega), if_neg (by omega)⟩
  have hsh : ∀ p, cy_shI (upd0 c k v) p = cy_shI c p := fun p => by unfold cy_shI; rw [show cy_sh (upd0 c k v) p = cy_sh c p from hu 7 p (by decide)]
  refine ⟨⟨?_, ?_, ?_⟩, ?_, ⟨?_, ?_, ?_⟩, hok, ?_, ?_, ?_⟩
  · simp only [nums, List.mem_cons, Prod.mk.injEq, List.not_mem_nil, or_false] at hk
    rcases hk with ⟨rfl, rfl, rfl⟩ | ⟨rfl, rfl, rfl⟩ | ⟨rfl, rfl, rfl⟩ | ⟨rfl, rfl, rfl⟩ | ⟨rfl, rfl, rfl⟩ | ⟨rfl, rfl, rfl⟩ | ⟨rfl, rfl, rfl⟩ <;> simp [am_w_r, upd0, h1.1, h1.2.1, h1.2.2.1, h1.2.2.2.1, h1.2.2.2.2.1, h1.2.2.2.2.2]
  · intro j hj
    show am_w ivc w cc (nI v) (w + 2) j = nI (upd0 c k v 1 j) ∧ am_w ivc w cc (nI v) (w + 3) j = nI (upd0 c k v 2 j) ∧ am_w ivc w cc (nI v) (w + 4) j = nI (upd0 c k v 2 j + upd0 c k v 5 j) ∧ am_w ivc w cc (nI v) (w + 5) j = nI (upd0 c k v 3 j) ∧ am_w ivc w cc (nI v) (w + 6) j = nI (upd0 c k v 4 j)
    rw [am_w_other _ _ _ (by omega), am_w_other _ _ _ (by omega), am_w_other _ _ _ (by omega), am_w_other _ _ _ (by omega), am_w_other _ _ _ (by omega), hu 1 j (by decide), hu 2 j (by decide), hu 3 j (by decide), hu 4 j (by decide), hu 5 j (by decide)]
    exact h1b j (by show j < c 0 0; rw [← h0.1]; exact hj)
  · intro p hp
    show am_w ivc w cc (nI v) (w + 11) p = nI (upd0 c k v 6 p) ∧ am_w ivc w cc (nI v) (w + 12) p = cy_shI (upd0 c k v) p ∧ am_w ivc w cc (nI v) (w + 13) p = nI (upd0 c k v 8 p)
    rw [am_w_other _ _ _ (by omega), am_w_other _ _ _ (by omega), am_w_other _ _ _ (by omega), hu 6 p (by decide), hu 8 p (by decide), hsh]
    exact h1c p (by show p < c 0 2; rw [← h0.2.1]; exact hp)
  · simp only [nums, List.mem_cons, Prod.mk.injEq, List.not_mem_nil, or_false] at hk
    unfold cl_B at h2 ⊢
    rcases hk with ⟨rfl, rfl, rfl⟩ | ⟨rfl, rfl, rfl⟩ | ⟨rfl, rfl, rfl⟩ | ⟨rfl, rfl, rfl⟩ | ⟨rfl, rfl, rfl⟩ | ⟨rfl, rfl, rfl⟩ | ⟨rfl, rfl, rfl⟩ <;> simp [am_w_r, upd0, h2.1, h2.2.1, h2.2.2.1, h2.2.2.2]
  · simp only [nums, List.mem_cons, Prod.mk.injEq, List.not_mem_nil, or_false] at hk
    rcases hk with ⟨rfl, rfl, rfl⟩ | ⟨rfl, rfl, rfl⟩ | ⟨rfl, rfl, rfl⟩ | ⟨rfl, rfl, rfl⟩ | ⟨rfl, rfl, rfl⟩ | ⟨rfl, rfl, rfl⟩ | ⟨rfl, rfl, rfl⟩ <;> simp [am_w_r, upd0, h3.1, h3.2.1, h3.2.2.1, h3.2.2.2.1, h3.2.2.2.2.1, h3.2.2.2.2.2.1, h3.2.2.2.2.2.2.1, h3.2.2.2.2.2.2.2.1, h3.2.2.2.2.2.2.2.2.1, h3.2.2.2.2.2.2.2.2.2]
  · intro j hj
    show am_w ivm 58 mm (nI v) 59 (10 + j) = nI (upd0 c k v 1 j) ∧ am_w ivm 58 mm (nI v) 60 (10 + j) = nI (upd0 c k v 2 j) ∧ am_w ivm 58 mm (nI v) 61 (10 + j) = nI (upd0 c k v 3 j) ∧ am_w ivm 58 mm (nI v) 62 (10 + j) = nI (upd0 c k v 4 j) ∧ am_w ivm 58 mm (nI v) 63 (10 + j) = nI (upd0 c k v 5 j)
    rw [am_w_other _ _ _ (by decide), am_w_other _ _ _ (by decide), am_w_other _ _ _ (by decide), am_w_other _ _ _ (by decide), am_w_other _ _ _ (by decide), hu 1 j (by decide), hu 2 j (by decide), hu 3 j (by decide), hu 4 j (by decide), hu 5 j (by decide)]
    exact h3b j (by show j < c 0 0; rw [← h0.1]; exact hj)
  · intro p hp
    show am_w ivm 58 mm (nI v) 64 (5 + p) = nI (upd0 c k v 6 p) ∧ am_w ivm 58 mm (nI v) 65 (5 + p) = cy_shI (upd0 c k v) p ∧ am_w ivm 58 mm (nI v) 66 (5 + p) = nI (upd0 c k v 8 p)
    rw [am_w_other _ _ _ (by decide), am_w_other _ _ _ (by decide), am_w_other _ _ _ (by decide), hu 6 p (by decide), hu 8 p (by decide), hsh]
    exact h3c p (by show p < c 0 2; rw [← h0.2.1]; exact hp)
  · rw [show cy_r (upd0 c k v) = cy_r c from h0.2.2]
    unfold cl_R at h5 ⊢
    rw [am_w_other _ _ _ (by omega), am_w_other _ _ _ (by omega), am_w_other _ _ _ (by omega)]
    exact h5
  · rw [show cy_r (upd0 c k v) = cy_r c from h0.2.2]
    unfold mo_Z at h6 ⊢
    rw [am_w_other _ _ _ (by decide), am_w_other _ _ _ (by decide), am_w_other _ _ _ (by decide), am_w_other _ _ _ (by decide)]
    exact h6
  · rw [show cy_r (upd0 c k v) = cy_r c from h0.2.2]; exact h7
end B80
