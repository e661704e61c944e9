/-! what stands behind the constructors -/
theorem vlk_na {V : List (Nat × Nat × Int32)} {a : Nat} (h : (V.all fun q => !decide (q.1 = a)) = true) (j : Nat) : vlk V a j = 0 := by
  induction V with
  | nil => rfl
  | cons q V ih =>
    rw [List.all_cons, Bool.and_eq_true] at h
    have h1 : ¬ q.1 = a := by simpa using h.1
    show (if a = q.1 ∧ j = q.2.1 then q.2.2 else vlk V a j) = _
    rw [if_neg (fun z => h1 z.1.symm)]
    exact ih h.2
section B97d
variable {S : am_S} {iv : am_I}
theorem IP.lay (h : IP S iv 89 R89 V89) : am_Lay S := by
  refine ⟨fun a t ht => h.k (am_lay_lt ht) ht, fun a j b hb => ?_, by rw [h.1]; exact Nat.le_refl _⟩
  rw [h.2.2.1]
  unfold am_lref at hb
  split at hb <;> first | (cases hb; done) | (cases hb; decide +kernel)
theorem IP.SR (h : IP S iv 89 R89 V89) : SR S 2 22 51 0 52 0 53 10 := by
  have hr : ∀ a j, S.2.1 a j = rlk R89 a j := h.2.2.1
  refine ⟨h.lay, ⟨by rw [hr]; decide +kernel, by rw [hr]; decide +kernel⟩, ⟨by rw [hr]; decide +kernel, h.k (by decide) rfl, by rw [hr]; decide +kernel, h.k (by decide) rfl⟩, ⟨by rw [hr]; decide +kernel, h.k (by decide) rfl⟩, Or.inl ⟨rfl, rfl⟩, ⟨⟨by decide, Or.inl (by decide)⟩, ⟨by decide, Or.inl (by decide)⟩, ⟨by decide, Or.inl (by decide)⟩⟩, ⟨by decide, by decide, by decide⟩, ⟨by rw [h.1]; decide, by rw [h.1]; decide, by rw [h.1]; decide⟩, ⟨by decide, by decide, by decide, by decide, Or.inl rfl⟩⟩
theorem IP.Rel (h : IP S iv 89 R89 V89) : Rel 2 53 10 iv cy0 ru0 := by
  have hv : ∀ a j, iv a j = vlk V89 a j := h.2.2.2.1
  have z : ∀ a, (V89.all fun q => !decide (q.1 = a)) = true → ∀ j, iv a j = 0 := fun a ha j => by rw [hv]; exact vlk_na ha j
  refine ⟨⟨cy0_ok, ⟨rfl, by decide, fun r hr => absurd hr (Nat.not_lt_zero _)⟩, ⟨⟨?_, ?_, ?_, ?_, ?_, ?_, ?_, ?_, ?_, ?_⟩, fun j hj => absurd hj (Nat.not_lt_zero _), fun p hp => absurd hp (Nat.not_lt_zero _)⟩, ⟨fun r hr => absurd hr (Nat.not_lt_zero _), fun k hk => absurd hk (Nat.not_lt_zero _)⟩⟩, ⟨⟨⟨⟨?_, ?_, ?_, ?_, ?_, ?_⟩, fun j hj => absurd hj (Nat.not_lt_zero _), fun p hp => absurd hp (Nat.not_lt_zero _)⟩, ⟨fun r hr => ?_, ?_, fun k hk => absurd hk (Nat.not_lt_zero _)⟩, ⟨?_, ?_, fun d hd => absurd hd (Nat.not_lt_zero _)⟩, fun s hs => Or.inl (z 21 (by decide +kernel) s)⟩, ⟨?_, ?_, ?_, ?_⟩⟩, ⟨0, 0, 0, 0, ⟨by decide, by decide, by decide, by decide⟩, ⟨?_, ?_, ?_, ?_⟩, ⟨?_, ?_, ?_, ?_⟩, fun i hi => (z 43 (by decide +kernel) i).trans (z 72 (by decide +kernel) i).symm, fun i hi => absurd hi (Nat.not_lt_zero _), fun i hi => absurd hi (Nat.not_lt_zero _), ?_, ?_⟩, ⟨false, ?_, ?_, fun q => by cases q⟩, ⟨0, by decide, ?_, ?_, fun i hi => absurd hi (Nat.not_lt_zero _)⟩, ?_, Or.inl ⟨?_, ?_⟩⟩
  all_goals first | (rw [hv]; decide +kernel) | (rw [hv, hv]; decide +kernel) | skip
  have : r = 0 := Nat.le_zero.mp hr
  subst this
  rw [hv]; decide +kernel
theorem IP.IV (h : IP S iv 89 R89 V89) : IV S iv 0 := ⟨2, 22, 51, 52, 0, 53, 10, cy0, ru0, h.SR, h.Rel, by rw [h.2.2.2.1]; decide +kernel, by rw [h.2.2.2.1]; decide +kernel⟩
end B97d
