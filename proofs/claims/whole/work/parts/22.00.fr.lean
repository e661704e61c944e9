/-! what the functions leave as it is -/
def am_fr (A : List Nat) (L : List (Nat × Nat)) (iv iv' : am_I) : Prop := ∀ a j, a ∉ A → (a, j) ∉ L → iv' a j = iv a j
theorem am_fr.rf (A : List Nat) (L : List (Nat × Nat)) (iv : am_I) : am_fr A L iv iv := fun _ _ _ _ => rfl
theorem am_fr.tr {A : List Nat} {L : List (Nat × Nat)} {x y z : am_I} (h1 : am_fr A L x y) (h2 : am_fr A L y z) : am_fr A L x z := fun a j ha hj => (h2 a j ha hj).trans (h1 a j ha hj)
theorem am_fr.up {A A' : List Nat} {L L' : List (Nat × Nat)} {x y : am_I} (h : am_fr A L x y) (hA : ∀ a ∈ A, a ∈ A') (hL : ∀ p ∈ L, p ∈ L') : am_fr A' L' x y := fun a j ha hj => h a j (fun q => ha (hA a q)) (fun q => hj (hL _ q))
theorem am_fr.f {A : List Nat} {L : List (Nat × Nat)} {x y : am_I} (h : am_fr A L x y) {a j : Nat} {v : Int32} (hm : (a, j) ∈ L) : am_fr A L x (am_w y a j v) := by
  intro b i hb hi
  refine Eq.trans ?_ (h b i hb hi)
  unfold am_w upd
  by_cases e : b = a
  · subst e
    rw [if_pos rfl]
    by_cases e2 : i = j
    · subst e2; exact absurd hm hi
    · rw [if_neg e2]
  · rw [if_neg e]
theorem am_fr.a {A : List Nat} {L : List (Nat × Nat)} {x y : am_I} (h : am_fr A L x y) {a j : Nat} {v : Int32} (hm : a ∈ A) : am_fr A L x (am_w y a j v) := by
  intro b i hb hi
  refine Eq.trans ?_ (h b i hb hi)
  unfold am_w
  by_cases e : b = a
  · subst e; exact absurd hm hb
  · rw [if_neg e]
theorem am_fr.c {A : List Nat} {L : List (Nat × Nat)} {x y : am_I} (h : am_fr A L x y) {a0 a sp dp m : Nat} (hm : a ∈ A) : am_fr A L x (am_cp y a0 a sp dp m) := by
  intro b i hb hi
  refine Eq.trans ?_ (h b i hb hi)
  unfold am_cp
  by_cases e : b = a
  · subst e; exact absurd hm hb
  · rw [if_neg e]
theorem am_fr.l {A : List Nat} {L : List (Nat × Nat)} {x y : am_I} (h : am_fr A L x y) {a m : Nat} {v : Int32} (hm : a ∈ A) : am_fr A L x (am_fl y a m v) := by
  intro b i hb hi
  refine Eq.trans ?_ (h b i hb hi)
  unfold am_fl
  by_cases e : b = a
  · subst e; exact absurd hm hb
  · rw [if_neg e]
theorem am_if {c : Prop} [Decidable c] {α : Type} {a b y : α} (e : (if c then a else b) = y) : (c ∧ a = y) ∨ (¬ c ∧ b = y) := by
  by_cases h : c
  · rw [if_pos h] at e; exact Or.inl ⟨h, e⟩
  · rw [if_neg h] at e; exact Or.inr ⟨h, e⟩
theorem am_elim {σ ρ : Type} {p : Prop} (h : p) {K : ρ → Prop} {y : σ ⊕ ρ} (e : Sum.elim (fun _ => True) K y) : Sum.elim (fun _ => p) K y := by
  cases y with
  | inl _ => exact h
  | inr _ => exact e
theorem am_wh_fr {σ ρ : Type} {f : σ → Option (σ ⊕ ρ)} {P : σ → Prop} {K : ρ → Prop} (hb : ∀ s y, P s → f s = some y → Sum.elim P K y) : ∀ (m : Nat) (s : σ) (x : ρ), P s → am_wh f m s = some x → K x
  | 0, _, _, _, e => by cases e
  | m + 1, s, x, hP, e => by
    rcases am_lp_i e with ⟨s', e1, e2⟩ | ⟨b, e1, e2⟩
    · exact am_wh_fr hb m s' x (hb s _ hP e1) e2
    · obtain rfl := Option.some.inj e2
      exact hb s _ hP e1
