/-! what the functions of the methods are made of -/
def am_o1 {α β : Type} (o : Option α) (f : α → Option β) : Option β := match o with
  | some a => f a
  | none => none
def am_o2 {α β γ : Type} (o : Option (α × β)) (f : α → β → Option γ) : Option γ := match o with
  | some (a, b) => f a b
  | none => none
def am_lp {α β γ : Type} (o : Option (α ⊕ β)) (f : α → Option γ) (g : β → Option γ) : Option γ := match o with
  | some (.inl a) => f a
  | some (.inr b) => g b
  | none => none
theorem am_o1_i {α β : Type} {o : Option α} {f : α → Option β} {y : β} (e : am_o1 o f = some y) : ∃ a, o = some a ∧ f a = some y := by
  cases o with
  | none => cases e
  | some a => exact ⟨a, rfl, e⟩
theorem am_o2_i {α β γ : Type} {o : Option (α × β)} {f : α → β → Option γ} {y : γ} (e : am_o2 o f = some y) : ∃ a b, o = some (a, b) ∧ f a b = some y := by
  cases o with
  | none => cases e
  | some a => exact ⟨a.1, a.2, rfl, e⟩
theorem am_lp_i {α β γ : Type} {o : Option (α ⊕ β)} {f : α → Option γ} {g : β → Option γ} {y : γ} (e : am_lp o f g = some y) : (∃ a, o = some (.inl a) ∧ f a = some y) ∨ (∃ b, o = some (.inr b) ∧ g b = some y) := by
  cases o with
  | none => cases e
  | some a =>
    cases a with
    | inl a => exact Or.inl ⟨a, rfl, e⟩
    | inr b => exact Or.inr ⟨b, rfl, e⟩
theorem am_o1_s {α β : Type} {a : α} {f : α → Option β} : am_o1 (some a) f = f a := rfl
theorem am_o2_s {α β γ : Type} {a : α} {b : β} {f : α → β → Option γ} : am_o2 (some (a, b)) f = f a b := rfl
theorem am_lp_l {α β γ : Type} {a : α} {f : α → Option γ} {g : β → Option γ} : am_lp (some (.inl a)) f g = f a := rfl
theorem am_lp_r {α β γ : Type} {b : β} {f : α → Option γ} {g : β → Option γ} : am_lp (some (.inr b)) f g = g b := rfl
def am_wh {σ ρ : Type} (f : σ → Option (σ ⊕ ρ)) : Nat → σ → Option ρ
  | 0, _ => none
  | m + 1, s => am_lp (f s) (am_wh f m) some
/-- how often a loop may turn -/
def am_fu : Nat := 1000000
theorem am_fu_eq : am_fu = 1000000 := rfl
def am_loop {σ ρ : Type} (f : σ → Option (σ ⊕ ρ)) (s : σ) : Option ρ := am_wh f am_fu s
theorem am_wh_sound {σ ρ : Type} {f : σ → Option (σ ⊕ ρ)} {P : σ → Prop} {K : ρ → Prop} (hb : ∀ s y, f s = some y → (∀ s', y = .inl s' → P s') → (∀ x, y = .inr x → K x) → P s) : ∀ (m : Nat) (s : σ) (x : ρ), am_wh f m s = some x → K x → P s
  | 0, _, _, e, _ => by cases e
  | m + 1, s, x, e, hK => by
    rcases am_lp_i e with ⟨s', e1, e2⟩ | ⟨b, e1, e2⟩
    · exact hb s _ e1 (fun s'' h => by cases h; exact am_wh_sound hb m s' x e2 hK) (fun x' h => by cases h)
    · refine hb s _ e1 (fun s'' h => by cases h) (fun x' h => ?_)
      cases h
      cases e2
      exact hK
/-- a loop whose states are known -/
theorem am_wh_seq {σ ρ : Type} {f : σ → Option (σ ⊕ ρ)} (st : Nat → σ) {x : ρ} : ∀ (n i m : Nat), n < m → (∀ k, k < n → f (st (i + k)) = some (.inl (st (i + k + 1)))) → f (st (i + n)) = some (.inr x) → am_wh f m (st i) = some x
  | 0, i, m, hm, _, hx => by
    cases m with
    | zero => omega
    | succ m => show am_lp (f (st i)) _ _ = _; rw [show st i = st (i + 0) from rfl, hx]; rfl
  | n + 1, i, m, hm, hs, hx => by
    cases m with
    | zero => omega
    | succ m =>
      show am_lp (f (st i)) _ _ = _
      rw [show f (st i) = _ from hs 0 (by omega)]
      refine am_wh_seq st n (i + 1) m (by omega) (fun k hk => ?_) ?_
      · have := hs (k + 1) (by omega)
        rwa [show i + (k + 1) = i + 1 + k by omega] at this
      · rwa [show i + (n + 1) = i + 1 + n by omega] at hx
theorem am_loop_seq {σ ρ : Type} {f : σ → Option (σ ⊕ ρ)} (st : Nat → σ) {x : ρ} (n : Nat) (hn : n < 1000000) {s : σ} (h0 : s = st 0) (hs : ∀ k, k < n → f (st k) = some (.inl (st (k + 1)))) (hx : f (st n) = some (.inr x)) : am_loop f s = some x := by
  rw [h0]
  exact am_wh_seq st n 0 am_fu (by rw [am_fu_eq]; exact hn) (fun k hk => by rw [Nat.zero_add]; exact hs k hk) (by rw [Nat.zero_add]; exact hx)
/-- a loop by an invariant and a bound -/
theorem am_loop_inv {σ ρ : Type} {f : σ → Option (σ ⊕ ρ)} (I : σ → Prop) (μ : σ → Nat) {X : ρ → Prop} (hs : ∀ s, I s → (∃ s', f s = some (.inl s') ∧ I s' ∧ μ s' < μ s) ∨ (∃ x, f s = some (.inr x) ∧ X x)) : ∀ (s : σ), I s → μ s < 1000000 → ∃ x, am_loop f s = some x ∧ X x := by
  have key : ∀ (n : Nat) (s : σ) (m : Nat), I s → μ s ≤ n → n < m → ∃ x, am_wh f m s = some x ∧ X x := by
    intro n
    induction n with
    | zero =>
      intro s m hI hμ hm
      cases m with
      | zero => omega
      | succ m =>
        rcases hs s hI with ⟨s', h1, h2, h3⟩ | ⟨x, h1, h2⟩
        · omega
        · exact ⟨x, by show am_lp (f s) _ _ = _; rw [h1]; rfl, h2⟩
    | succ n ih =>
      intro s m hI hμ hm
      cases m with
      | zero => omega
      | succ m =>
        rcases hs s hI with ⟨s', h1, h2, h3⟩ | ⟨x, h1, h2⟩
        · obtain ⟨x, h4, h5⟩ := ih s' m h2 (by omega) (by omega)
          exact ⟨x, by show am_lp (f s) _ _ = _; rw [h1]; exact h4, h5⟩
        · exact ⟨x, by show am_lp (f s) _ _ = _; rw [h1]; rfl, h2⟩
  intro s hI hμ
  exact key (μ s) s am_fu hI (Nat.le_refl _) (by rw [am_fu_eq]; exact hμ)
theorem am_pos {c : Prop} [Decidable c] (h : c) {α : Type} {a b y : α} (e : (if c then a else b) = y) : a = y := by rw [if_pos h] at e; exact e
theorem am_neg {c : Prop} [Decidable c] (h : ¬ c) {α : Type} {a b y : α} (e : (if c then a else b) = y) : b = y := by rw [if_neg h] at e; exact e
theorem am_ck {c : Prop} [Decidable c] {α : Type} {a : Option α} {y : α} (e : (if c then a else none) = some y) : c ∧ a = some y := by
  by_cases h : c
  · rw [if_pos h] at e; exact ⟨h, e⟩
  · rw [if_neg h] at e; cases e
theorem am_ckn {c : Prop} [Decidable c] {α : Type} {a : Option α} {y : α} (e : (if c then none else a) = some y) : ¬ c ∧ a = some y := by
  by_cases h : c
  · rw [if_pos h] at e; cases e
  · rw [if_neg h] at e; exact ⟨h, e⟩
theorem am_nar {x : Int32} (h : x = 0 ∨ x = 1) : narrow .boolean (.int x) = .int x := by
  rcases h with h | h <;> subst h <;> rfl
def vp_b (i : Int32) (n : Nat) : Bool := decide (¬ (i < 0 ∨ n ≤ i.toNatClampNeg))
theorem vp_b_in {i : Int32} {n : Nat} (h : vp_b i n = true) : vp_in i n := show ¬ (i < 0 ∨ n ≤ i.toNatClampNeg) from of_decide_eq_true h
theorem vp_in_b {i : Int32} {n : Nat} (h : vp_in i n) : vp_b i n = true := decide_eq_true (show ¬ (i < 0 ∨ n ≤ i.toNatClampNeg) from h)
theorem am_ckv {i : Int32} {n : Nat} {α : Type} {a : Option α} {y : α} (e : (if vp_b i n then a else none) = some y) : vp_in i n ∧ a = some y := (am_ck e).imp_left vp_b_in
def am_fl (iv : am_I) (a m : Nat) (x : Int32) : am_I := fun b => if b = a then (fun i => if i < m then x else iv a i) else iv b
def am_cp (iv : am_I) (a0 a sp dp x : Nat) : am_I := fun b => if b = a then va_cpy (iv a0) (iv a) sp dp x else iv b
/-- a number that is an index is that of its place -/
theorem vp_nIof {x : Int32} {n : Nat} (h : vp_in x n) : x = nI x.toNatClampNeg ∧ x.toNatClampNeg < n := by
  have h0 : ¬ x < 0 := fun q => h (Or.inl q)
  have h1 : ¬ n ≤ x.toNatClampNeg := fun q => h (Or.inr q)
  refine ⟨?_, by omega⟩
  apply Int32.toInt_inj.mp
  have h2 : 0 ≤ x.toInt := by
    have := mt Int32.lt_iff_toInt_lt.mpr h0
    have e0 : (0 : Int32).toInt = 0 := by decide
    rw [e0] at this
    omega
  have h3 : (x.toNatClampNeg : Int) = x.toInt := by
    show ((x.toInt.toNat : Nat) : Int) = x.toInt
    omega
  have h4 : x.toInt < 2 ^ 31 := Int32.toInt_lt x
  rw [nI_toInt (by omega), h3]
/-- of an answer, or of something thrown -/
def am_qt {α : Type} (f : α → Prop) (g : Prop) : Option α → Prop
  | some a => f a
  | none => g
def am_ot {α β : Type} (o : Option (Option α)) (f : α → Option (Option β)) : Option (Option β) := match o with
  | some (some a) => f a
  | some none => some none
  | none => none
theorem am_ot_i {α β : Type} {o : Option (Option α)} {f : α → Option (Option β)} {y : Option β} (e : am_ot o f = some y) : (∃ a, o = some (some a) ∧ f a = some y) ∨ (o = some none ∧ some none = some y) := by
  cases o with
  | none => cases e
  | some a =>
    cases a with
    | none => exact Or.inr ⟨rfl, e⟩
    | some a => exact Or.inl ⟨a, rfl, e⟩
section B19
variable {E : am_E} {d k n : Nat} {S : am_S} {iv : am_I} {Q : am_O → am_S → am_I → Prop}
theorem am_R.deep {M : am_Me} {pc d' : Nat} {ls st : List Value} (h : am_R E d M k n pc ls st S iv Q) (hd : d ≤ d') : am_R E d' M k n pc ls st S iv Q := by
  intro p e R s m args below meth c mc ms C hR
  exact h p e R s m args below meth c mc ms C ⟨Nat.le_trans hd hR.1, Nat.le_trans (by omega) hR.2⟩
theorem J_fl {a m : Nat} {x : Int32} (ha : S.1 a = some (.inr (.int, m))) (hm : m < 65536) (h : Q (.inl none) S (am_fl iv a m x)) : am_M E d mJ7_fill_53178 0 0 [.ref a, .int x] S iv Q := J_fill ha hm h
theorem S_chrI {j : Nat} {x : Int32} (hj : j < am_by.length) (hk : vp_in x (am_by.getD j []).length) (h : Q (.inl (some (.int ((am_by.getD j []).getD x.toNatClampNeg 0)))) S iv) : am_M E (d + 3) mJ0_charAt_5068e 0 0 [.retAddr j, .int x] S iv Q := by
  obtain ⟨h1, h2⟩ := vp_nIof hk
  have h3 := S_chr (E := E) (d := d) (S := S) (iv := iv) (Q := Q) hj h2 h
  rwa [← h1] at h3
end B19
theorem am_lrw {a : Nat} (ha : a = 55 ∨ a = 56 ∨ a = 57) {i j : Nat} (h : am_lref a i = some j) : j < am_by.length := by
  rw [am_byl]
  rcases ha with ha | ha | ha <;> subst ha <;> unfold am_lref at h <;> split at h <;> first | (cases h; done) | (cases h; omega)
/-- a token reader, the readers of a city, the search's rows, the row kept -/
def am_Tk (S : am_S) (t : Nat) : Prop := S.1 t = some (.inl 8) ∧ S.2.1 t 0 = some 1
def am_Rd (S : am_S) (w t r x : Nat) : Prop := am_Tk S t ∧ S.1 r = some (.inl 1) ∧ S.2.1 r 0 = some t ∧ S.2.1 r 1 = some w ∧ S.2.1 r 2 = some x ∧ S.1 x = some (.inl 3) ∧ S.2.1 x 0 = some t ∧ S.2.1 x 1 = some (w + 14)
def am_Fd (S : am_S) (f nf s ns : Nat) : Prop := S.2.1 50 0 = some f ∧ S.1 f = some (.inr (.int, nf)) ∧ S.2.1 50 1 = some s ∧ S.1 s = some (.inr (.int, ns))
def am_Pd (S : am_S) (p np : Nat) : Prop := S.2.1 0 9 = some p ∧ S.1 p = some (.inr (.int, np))
theorem kW_0 {S : am_S} {w : Nat} (hL : am_Lay S) (h : w = 2 ∨ w = 22) : S.1 w = some (.inl 0) := by rcases h with h | h <;> subst h <;> exact hL.1 _ _ rfl
theorem rW_0_7 {S : am_S} {w : Nat} (hL : am_Lay S) (h : w = 2 ∨ w = 22) : S.2.1 w 7 = some (w + 1) := by rcases h with h | h <;> subst h <;> exact hL.2.1 _ _ _ rfl
theorem rW_0_8 {S : am_S} {w : Nat} (hL : am_Lay S) (h : w = 2 ∨ w = 22) : S.2.1 w 8 = some (w + 10) := by rcases h with h | h <;> subst h <;> exact hL.2.1 _ _ _ rfl
theorem rW_0_9 {S : am_S} {w : Nat} (hL : am_Lay S) (h : w = 2 ∨ w = 22) : S.2.1 w 9 = some (w + 14) := by rcases h with h | h <;> subst h <;> exact hL.2.1 _ _ _ rfl
theorem rW_0_10 {S : am_S} {w : Nat} (hL : am_Lay S) (h : w = 2 ∨ w = 22) : S.2.1 w 10 = some (w + 18) := by rcases h with h | h <;> subst h <;> exact hL.2.1 _ _ _ rfl
theorem rW_0_11 {S : am_S} {w : Nat} (hL : am_Lay S) (h : w = 2 ∨ w = 22) : S.2.1 w 11 = some (w + 19) := by rcases h with h | h <;> subst h <;> exact hL.2.1 _ _ _ rfl
theorem kW_1 {S : am_S} {w : Nat} (hL : am_Lay S) (h : w = 2 ∨ w = 22) : S.1 (w + 1) = some (.inl 2) := by rcases h with h | h <;> subst h <;> exact hL.1 _ _ rfl
theorem rW_1_1 {S : am_S} {w : Nat} (hL : am_Lay S) (h : w = 2 ∨ w = 22) : S.2.1 (w + 1) 1 = some (w + 2) := by rcases h with h | h <;> subst h <;> exact hL.2.1 _ _ _ rfl
theorem rW_1_2 {S : am_S} {w : Nat} (hL : am_Lay S) (h : w = 2 ∨ w = 22) : S.2.1 (w + 1) 2 = some (w + 3) := by rcases h with h | h <;> subst h <;> exact hL.2.1 _ _ _ rfl
theorem rW_1_3 {S : am_S} {w : Nat} (hL : am_Lay S) (h : w = 2 ∨ w = 22) : S.2.1 (w + 1) 3 = some (w + 4) := by rcases h with h | h <;> subst h <;> exact hL.2.1 _ _ _ rfl
theorem rW_1_4 {S : am_S} {w : Nat} (hL : am_Lay S) (h : w = 2 ∨ w = 22) : S.2.1 (w + 1) 4 = some (w + 5) := by rcases h with h | h <;> subst h <;> exact hL.2.1 _ _ _ rfl
theorem rW_1_5 {S : am_S} {w : Nat} (hL : am_Lay S) (h : w = 2 ∨ w = 22) : S.2.1 (w + 1) 5 = some (w + 6) := by rcases h with h | h <;> subst h <;> exact hL.2.1 _ _ _ rfl
theorem rW_1_6 {S : am_S} {w : Nat} (hL : am_Lay S) (h : w = 2 ∨ w = 22) : S.2.1 (w + 1) 6 = some (w + 7) := by rcases h with h | h <;> subst h <;> exact hL.2.1 _ _ _ rfl
theorem rW_1_7 {S : am_S} {w : Nat} (hL : am_Lay S) (h : w = 2 ∨ w = 22) : S.2.1 (w + 1) 7 = some (w + 8) := by rcases h with h | h <;> subst h <;> exact hL.2.1 _ _ _ rfl
theorem rW_1_8 {S : am_S} {w : Nat} (hL : am_Lay S) (h : w = 2 ∨ w = 22) : S.2.1 (w + 1) 8 = some (w + 9) := by rcases h with h | h <;> subst h <;> exact hL.2.1 _ _ _ rfl
theorem kW_2 {S : am_S} {w : Nat} (hL : am_Lay S) (h : w = 2 ∨ w = 22) : S.1 (w + 2) = some (.inr (.int, 10)) := by rcases h with h | h <;> subst h <;> exact hL.1 _ _ rfl
theorem kW_3 {S : am_S} {w : Nat} (hL : am_Lay S) (h : w = 2 ∨ w = 22) : S.1 (w + 3) = some (.inr (.int, 10)) := by rcases h with h | h <;> subst h <;> exact hL.1 _ _ rfl
theorem kW_4 {S : am_S} {w : Nat} (hL : am_Lay S) (h : w = 2 ∨ w = 22) : S.1 (w + 4) = some (.inr (.int, 10)) := by rcases h with h | h <;> subst h <;> exact hL.1 _ _ rfl
theorem kW_5 {S : am_S} {w : Nat} (hL : am_Lay S) (h : w = 2 ∨ w = 22) : S.1 (w + 5) = some (.inr (.int, 10)) := by rcases h with h | h <;> subst h <;> exact hL.1 _ _ rfl
theorem kW_6 {S : am_S} {w : Nat} (hL : am_Lay S) (h : w = 2 ∨ w = 22) : S.1 (w + 6) = some (.inr (.int, 10)) := by rcases h with h | h <;> subst h <;> exact hL.1 _ _ rfl
theorem kW_7 {S : am_S} {w : Nat} (hL : am_Lay S) (h : w = 2 ∨ w = 22) : S.1 (w + 7) = some (.inr (.int, 10)) := by rcases h with h | h <;> subst h <;> exact hL.1 _ _ rfl
theorem kW_8 {S : am_S} {w : Nat} (hL : am_Lay S) (h : w = 2 ∨ w = 22) : S.1 (w + 8) = some (.inr (.int, 10)) := by rcases h with h | h <;> subst h <;> exact hL.1 _ _ rfl
theorem kW_9 {S : am_S} {w : Nat} (hL : am_Lay S) (h : w = 2 ∨ w = 22) : S.1 (w + 9) = some (.inr (.int, 10)) := by rcases h with h | h <;> subst h <;> exact hL.1 _ _ rfl
theorem kW_10 {S : am_S} {w : Nat} (hL : am_Lay S) (h : w = 2 ∨ w = 22) : S.1 (w + 10) = some (.inl 4) := by rcases h with h | h <;> subst h <;> exact hL.1 _ _ rfl
theorem rW_10_1 {S : am_S} {w : Nat} (hL : am_Lay S) (h : w = 2 ∨ w = 22) : S.2.1 (w + 10) 1 = some (w + 11) := by rcases h with h | h <;> subst h <;> exact hL.2.1 _ _ _ rfl
theorem rW_10_2 {S : am_S} {w : Nat} (hL : am_Lay S) (h : w = 2 ∨ w = 22) : S.2.1 (w + 10) 2 = some (w + 12) := by rcases h with h | h <;> subst h <;> exact hL.2.1 _ _ _ rfl
theorem rW_10_3 {S : am_S} {w : Nat} (hL : am_Lay S) (h : w = 2 ∨ w = 22) : S.2.1 (w + 10) 3 = some (w + 13) := by rcases h with h | h <;> subst h <;> exact hL.2.1 _ _ _ rfl
theorem kW_11 {S : am_S} {w : Nat} (hL : am_Lay S) (h : w = 2 ∨ w = 22) : S.1 (w + 11) = some (.inr (.int, 5)) := by rcases h with h | h <;> subst h <;> exact hL.1 _ _ rfl
theorem kW_12 {S : am_S} {w : Nat} (hL : am_Lay S) (h : w = 2 ∨ w = 22) : S.1 (w + 12) = some (.inr (.int, 5)) := by rcases h with h | h <;> subst h <;> exact hL.1 _ _ rfl
theorem kW_13 {S : am_S} {w : Nat} (hL : am_Lay S) (h : w = 2 ∨ w = 22) : S.1 (w + 13) = some (.inr (.int, 5)) := by rcases h with h | h <;> subst h <;> exact hL.1 _ _ rfl
theorem kW_14 {S : am_S} {w : Nat} (hL : am_Lay S) (h : w = 2 ∨ w = 22) : S.1 (w + 14) = some (.inl 5) := by rcases h with h | h <;> subst h <;> exact hL.1 _ _ rfl
theorem rW_14_2 {S : am_S} {w : Nat} (hL : am_Lay S) (h : w = 2 ∨ w = 22) : S.2.1 (w + 14) 2 = some (w + 15) := by rcases h with h | h <;> subst h <;> exact hL.2.1 _ _ _ rfl
theorem rW_14_3 {S : am_S} {w : Nat} (hL : am_Lay S) (h : w = 2 ∨ w = 22) : S.2.1 (w + 14) 3 = some (w + 16) := by rcases h with h | h <;> subst h <;> exact hL.2.1 _ _ _ rfl
theorem rW_14_4 {S : am_S} {w : Nat} (hL : am_Lay S) (h : w = 2 ∨ w = 22) : S.2.1 (w + 14) 4 = some (w + 17) := by rcases h with h | h <;> subst h <;> exact hL.2.1 _ _ _ rfl
theorem kW_15 {S : am_S} {w : Nat} (hL : am_Lay S) (h : w = 2 ∨ w = 22) : S.1 (w + 15) = some (.inr (.int, 5)) := by rcases h with h | h <;> subst h <;> exact hL.1 _ _ rfl
theorem kW_16 {S : am_S} {w : Nat} (hL : am_Lay S) (h : w = 2 ∨ w = 22) : S.1 (w + 16) = some (.inr (.int, 700)) := by rcases h with h | h <;> subst h <;> exact hL.1 _ _ rfl
theorem kW_17 {S : am_S} {w : Nat} (hL : am_Lay S) (h : w = 2 ∨ w = 22) : S.1 (w + 17) = some (.inr (.int, 64)) := by rcases h with h | h <;> subst h <;> exact hL.1 _ _ rfl
theorem kW_18 {S : am_S} {w : Nat} (hL : am_Lay S) (h : w = 2 ∨ w = 22) : S.1 (w + 18) = some (.inr (.int, 7)) := by rcases h with h | h <;> subst h <;> exact hL.1 _ _ rfl
theorem kW_19 {S : am_S} {w : Nat} (hL : am_Lay S) (h : w = 2 ∨ w = 22) : S.1 (w + 19) = some (.inr (.int, 1024)) := by rcases h with h | h <;> subst h <;> exact hL.1 _ _ rfl
theorem kU_0 {S : am_S} {u : Nat} (hL : am_Lay S) (h : u = 42 ∨ u = 46) : S.1 u = some (.inl 7) := by rcases h with h | h <;> subst h <;> exact hL.1 _ _ rfl
theorem rU_0_6 {S : am_S} {u : Nat} (hL : am_Lay S) (h : u = 42 ∨ u = 46) : S.2.1 u 6 = some (u + 1) := by rcases h with h | h <;> subst h <;> exact hL.2.1 _ _ _ rfl
theorem rU_0_7 {S : am_S} {u : Nat} (hL : am_Lay S) (h : u = 42 ∨ u = 46) : S.2.1 u 7 = some (u + 2) := by rcases h with h | h <;> subst h <;> exact hL.2.1 _ _ _ rfl
theorem rU_0_8 {S : am_S} {u : Nat} (hL : am_Lay S) (h : u = 42 ∨ u = 46) : S.2.1 u 8 = some (u + 3) := by rcases h with h | h <;> subst h <;> exact hL.2.1 _ _ _ rfl
theorem kU_1 {S : am_S} {u : Nat} (hL : am_Lay S) (h : u = 42 ∨ u = 46) : S.1 (u + 1) = some (.inr (.int, 5)) := by rcases h with h | h <;> subst h <;> exact hL.1 _ _ rfl
theorem kU_2 {S : am_S} {u : Nat} (hL : am_Lay S) (h : u = 42 ∨ u = 46) : S.1 (u + 2) = some (.inr (.int, 100)) := by rcases h with h | h <;> subst h <;> exact hL.1 _ _ rfl
theorem kU_3 {S : am_S} {u : Nat} (hL : am_Lay S) (h : u = 42 ∨ u = 46) : S.1 (u + 3) = some (.inr (.int, 100)) := by rcases h with h | h <;> subst h <;> exact hL.1 _ _ rfl
