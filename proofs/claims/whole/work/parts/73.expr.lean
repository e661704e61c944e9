/-! reading an EXPR on both sides: the relation, its steps -/
theorem sg_dp_cong {f g : Nat → Int32} {k : Nat} : ∀ m, (∀ i, i < m → f (k + i) = g (k + i)) → sg_dp f k m = sg_dp g k m
  | 0, _ => rfl
  | m + 1, h => by
    show sg_dep (f (k + m)) (sg_dp f k m) = sg_dep (g (k + m)) (sg_dp g k m)
    rw [h m (by omega), sg_dp_cong m (fun i hi => h i (by omega))]
/-- what is laid so far: L signs, those from k0 on leave D waiting -/
def CD (w : Nat) (ivc ivm : am_I) (k0 L D : Nat) : Prop := (ivc (w + 14) 1 = nI L ∧ ivm 54 28 = nI L) ∧ (∀ k, k < L → ivc (w + 16) k = cv (ivm 69 (700 + k))) ∧ k0 ≤ L ∧ (∀ m, m < L - k0 → sg_ok (ivm 69 (700 + (k0 + m))) (sg_dp (fun i => ivm 69 (700 + i)) k0 m)) ∧ sg_dp (fun i => ivm 69 (700 + i)) k0 (L - k0) = D
def ER (w t : Nat) (ivc ivm : am_I) (τ : Nat → Nat) (n ty fi be k0 L D : Nat) : Prop := cT t ivc τ n ty fi be ∧ mT ivm τ n ty fi be ∧ TK τ n ty fi be ∧ ivm 54 25 = 0 ∧ CD w ivc ivm k0 L D
/-- both refuse: the fault's number and place -/
def EE (t : Nat) (ivc ivm : am_I) : Prop := ¬ ivm 54 25 = 0 ∧ ivm 54 25 = ivc t 5 ∧ ivm 54 26 = ivc t 3
def kept (ivm ivm' : am_I) (L : Nat) : Prop := ∀ k, k < L → ivm' 69 (700 + k) = ivm 69 (700 + k)
theorem kept.tr {a b c : am_I} {L L' : Nat} (h1 : kept a b L) (h2 : kept b c L') (h : L ≤ L') : kept a c L := fun k hk => (h2 k (by omega)).trans (h1 k hk)
theorem kept.rf (a : am_I) (L : Nat) : kept a a L := fun _ _ => rfl
section B73
variable {w t : Nat} {ivc ivm ivc' ivm' : am_I} {τ : Nat → Nat} {n ty fi be k0 L D : Nat}
theorem CD.fr (h : CD w ivc ivm k0 L D) (e1 : ivc' (w + 14) 1 = ivc (w + 14) 1) (e2 : ∀ k, ivc' (w + 16) k = ivc (w + 16) k) (e3 : ivm' 54 28 = ivm 54 28) (e4 : ∀ k, ivm' 69 k = ivm 69 k) : CD w ivc' ivm' k0 L D := by
  have e5 : ivm' 69 = ivm 69 := funext e4
  unfold CD at h ⊢
  rw [e1, e3, e5]
  refine ⟨h.1, fun k hk => ?_, h.2.2⟩
  rw [e2]; exact h.2.1 k hk
theorem CD.lay {g : Int32} (h : CD w ivc ivm k0 L D) (hg : sg_ok g D) (e1 : ivc' (w + 14) 1 = nI (L + 1)) (e2 : ∀ k, ivc' (w + 16) k = if k = L then cv g else ivc (w + 16) k) (e3 : ivm' 54 28 = nI (L + 1)) (e4 : ∀ k, ivm' 69 k = if k = 700 + L then g else ivm 69 k) : CD w ivc' ivm' k0 (L + 1) (sg_dep g D) ∧ kept ivm ivm' L := by
  obtain ⟨-, a2, a3, a4, a5⟩ := h
  have hk : ∀ k, k < L → ivm' 69 (700 + k) = ivm 69 (700 + k) := fun k hk => by rw [e4, if_neg (by omega)]
  have hd : ∀ m, m ≤ L - k0 → sg_dp (fun i => ivm' 69 (700 + i)) k0 m = sg_dp (fun i => ivm 69 (700 + i)) k0 m := fun m hm => sg_dp_cong m (fun i hi => hk (k0 + i) (by omega))
  refine ⟨⟨⟨e1, e3⟩, fun k hk2 => ?_, by omega, fun m hm => ?_, ?_⟩, hk⟩
  · rw [e2]
    by_cases e : k = L
    · rw [if_pos e, e, e4, if_pos rfl]
    · rw [if_neg e, hk k (by omega)]; exact a2 k (by omega)
  · rw [hd m (by omega)]
    by_cases e : m = L - k0
    · have : k0 + m = L := by omega
      rw [this, e4, if_pos rfl, e, a5]; exact hg
    · rw [hk (k0 + m) (by omega)]; exact a4 m (by omega)
  · rw [show L + 1 - k0 = (L - k0) + 1 by omega]
    show sg_dep (ivm' 69 (700 + (k0 + (L - k0)))) (sg_dp (fun i => ivm' 69 (700 + i)) k0 (L - k0)) = _
    rw [hd _ (Nat.le_refl _), a5, show k0 + (L - k0) = L by omega, e4, if_pos rfl]
theorem cT.fr (h : cT t ivc τ n ty fi be) (e1 : ∀ k, ivc' 1 k = ivc 1 k) (e2 : ∀ k, k < 5 → ivc' t k = ivc t k) : cT t ivc' τ n ty fi be := by
  unfold cT at h ⊢
  rw [e2 1 (by decide), e2 2 (by decide), e2 3 (by decide), e2 4 (by decide)]
  exact ⟨fun i hi => by rw [e1]; exact h.1 i hi, h.2⟩
theorem mT.fr (h : mT ivm τ n ty fi be) (e1 : ∀ k, ivm' 71 k = ivm 71 k) (e2 : ∀ k, 19 ≤ k → k < 25 → ivm' 54 k = ivm 54 k) : mT ivm' τ n ty fi be := by
  unfold mT at h ⊢
  rw [e2 20 (by decide) (by decide), e2 21 (by decide) (by decide), e2 23 (by decide) (by decide), e2 24 (by decide) (by decide), e2 19 (by decide) (by decide), e2 22 (by decide) (by decide)]
  exact ⟨fun i hi => by rw [e1]; exact h.1 i hi, h.2⟩
/-- a step to the next token on both sides -/
theorem ER.adv (h : ER w t ivc ivm τ n ty fi be k0 L D) (hx : TX τ n) (hw : w = 2 ∨ w = 22) (ht : 89 ≤ t) : ∃ ivc' ivm', F_X8_advance t ivc = some ivc' ∧ F_X10_stepOn ivm = some ivm' ∧ ER w t ivc' ivm' τ n (tkt τ n be) (skp τ n be) (tkb τ n be) k0 L D ∧ be ≤ skp τ n be ∧ (∀ k, ivm' 69 k = ivm 69 k) := by
  obtain ⟨h1, h2, h3, h4, h5⟩ := h
  obtain ⟨ivc', e1, c1, c2⟩ := K_advance hx h1.1 h1.2.1 h1.2.2.2.2 h3.2.1 (by omega)
  obtain ⟨ivm', e2, m1⟩ := P_stepOn hx h2.1 h2.2.1 h2.2.2.2.2.2.1 h3.2.1
  have f1 := X_X8_advance e1
  have f2 := X_X10_stepOn e2
  refine ⟨ivc', ivm', e1, e2, ⟨c1, m1, TK.of h3.2.1, ?_, h5.fr ?_ ?_ ?_ ?_⟩, (skp_le h3.2.1).1, fun k => ?_⟩
  · rw [f2 54 25 (by simp) (by simp)]; exact h4
  · exact f1 _ _ (by simp) (by simp)
  · exact fun k => f1 _ _ (by simp) (by simp; omega)
  · exact f2 _ _ (by simp) (by simp)
  · exact fun k => f2 _ _ (by simp) (by simp)
  · exact f2 _ _ (by simp) (by simp)
theorem K_add {x : Int32} (hw : w = 2 ∨ w = 22) (h1 : ivc (w + 14) 1 = nI L) (hL : L < 700) : F_X5_add w x ivc = some (am_w (am_w ivc (w + 16) L x) (w + 14) 1 (nI (L + 1))) := by
  unfold F_X5_add
  rw [h1, if_neg (show ¬ Int32.ofNat 700 ≤ nI L from nI_ge hL (by decide)), if_pos (vb hL (by decide)), am_cl (by omega), am_w_other _ _ _ (show w + 14 ≠ w + 16 by omega), h1, show nI L + (1 : Int32) = nI (L + 1) from nI_1 L]
theorem P_lay {g : Int32} (h1 : ivm 54 28 = nI L) (hL : L < 700) (hb : ivm 54 25 = 0) : F_X10_lay g ivm = some (am_w (am_w ivm 69 (700 + L) g) 54 28 (nI (L + 1))) := by
  unfold F_X10_lay
  rw [hb, if_pos rfl, h1, show (700 : Int32) = nI 700 from rfl, nI_add, if_pos (vb (show 700 + L < 1400 by omega) (by decide)), am_cl (by omega), am_w_other _ _ _ (show (54 : Nat) ≠ 69 by decide), h1, show nI L + (1 : Int32) = nI (L + 1) from nI_1 L]
theorem P_layBad {g : Int32} (hb : ¬ ivm 54 25 = 0) : F_X10_lay g ivm = some ivm := by
  unfold F_X10_lay; rw [if_neg hb]
/-- a sign laid on both sides -/
theorem ER.lay {g : Int32} (h : ER w t ivc ivm τ n ty fi be k0 L D) (hw : w = 2 ∨ w = 22) (ht : 89 ≤ t) (hL : L < 700) (hg : sg_ok g D) : ∃ ivc' ivm', F_X5_add w (cv g) ivc = some ivc' ∧ F_X10_lay g ivm = some ivm' ∧ ER w t ivc' ivm' τ n ty fi be k0 (L + 1) (sg_dep g D) ∧ kept ivm ivm' L := by
  obtain ⟨h1, h2, h3, h4, h5⟩ := h
  refine ⟨_, _, K_add hw h5.1.1 hL, P_lay h5.1.2 hL h4, ?_⟩
  have hcd := h5.lay (ivc' := am_w (am_w ivc (w + 16) L (cv g)) (w + 14) 1 (nI (L + 1))) (ivm' := am_w (am_w ivm 69 (700 + L) g) 54 28 (nI (L + 1))) hg (by rw [am_w_r, if_pos rfl, if_pos rfl]) (fun k => by rw [am_w_other _ _ _ (show w + 16 ≠ w + 14 by omega), am_w_r, if_pos rfl]) (by rw [am_w_r, if_pos rfl, if_pos rfl]) (fun k => by rw [am_w_other _ _ _ (by decide), am_w_r, if_pos rfl])
  refine ⟨⟨h1.fr ?_ ?_, h2.fr ?_ ?_, h3, ?_, hcd.1⟩, hcd.2⟩
  · exact fun k => by rw [am_w_other _ _ _ (by omega), am_w_other _ _ _ (by omega)]
  · exact fun k _ => by rw [am_w_other _ _ _ (by omega), am_w_other _ _ _ (by omega)]
  · exact fun k => by rw [am_w_other _ _ _ (by decide), am_w_other _ _ _ (by decide)]
  · exact fun k k1 k2 => by rw [am_w_r, if_pos rfl, if_neg (by omega), am_w_other _ _ _ (by decide)]
  · rw [am_w_r, if_pos rfl, if_neg (by decide), am_w_other _ _ _ (by decide)]; exact h4
/-- a fault on both sides -/
theorem P_wrong {k : Int32} (hb : ivm 54 25 = 0) : F_X10_wrong k ivm = some (am_w (am_w ivm 54 25 k) 54 26 (ivm 54 23)) := by
  unfold F_X10_wrong
  rw [hb, if_pos rfl, am_w_r, if_pos rfl, if_neg (by decide)]
theorem P_wrongBad {k : Int32} (hb : ¬ ivm 54 25 = 0) : F_X10_wrong k ivm = some ivm := by
  unfold F_X10_wrong; rw [if_neg hb]
theorem EE.of {k : Int32} (h1 : cT t ivc τ n ty fi be) (h2 : mT ivm τ n ty fi be) (hk : ¬ k = 0) : EE t (am_w ivc t 5 k) (am_w (am_w ivm 54 25 k) 54 26 (ivm 54 23)) := by
  refine ⟨?_, ?_, ?_⟩
  · simp [am_w_r]; exact hk
  · simp [am_w_r]
  · simp [am_w_r]; rw [h2.2.2.2.1, h1.2.2.2.1]
/-- the two go together, if at most DM wait ahead -/
def SIM (w t : Nat) (τ : Nat → Nat) (n k0 DM : Nat) (Fc : am_I → Option (Int32 × am_I)) (Fm : am_I → Option am_I) : Prop := ∀ ivc ivm ty fi be L D P, ER w t ivc ivm τ n ty fi be k0 L D → L + P ≤ fi → D ≤ DM →
  ∃ (b : Bool) (ivc' ivm' : am_I), Fc ivc = some (am_bi b, ivc') ∧ Fm ivm = some ivm' ∧ (b = true → ∃ ty' fi' be' L', ER w t ivc' ivm' τ n ty' fi' be' k0 L' (D + 1) ∧ be ≤ fi' ∧ ty ≠ 0 ∧ L' + P ≤ fi' ∧ L ≤ L' ∧ kept ivm ivm' L) ∧ (b = false → EE t ivc' ivm')
end B73
