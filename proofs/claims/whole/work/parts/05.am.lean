/-! The plain machine (am_): a heap of kinds, references and ints at small addresses; a judgement am_R of a method's frame over it; a row an instruction. -/
abbrev am_K : Type := Nat ⊕ (FieldType × Nat)
/-- kinds, references, longs, the next address -/
abbrev am_S : Type := (Nat → Option am_K) × (Nat → Nat → Option Nat) × (Nat → Nat → Int64) × Nat
abbrev am_I : Type := Nat → Nat → Int32
/-- launch, first address, the script's address, length and ints, class numbers and slots, array classes, addresses of the constant texts and of their bytes -/
abbrev am_E : Type := Launch × Nat × Nat × Nat × (Nat → Int32) × va_G × (FieldType → ClassId) × (Nat → Nat) × (Nat → Nat)
/-- a method: its class, its name, its code, how many locals, what it returns, its handlers -/
abbrev am_Me : Type := String × MethodName × ByteArray × Nat × Option FieldType × List (Nat × Nat × Nat × Nat)
abbrev am_l (E : am_E) : Launch := E.1
abbrev am_z (E : am_E) : Nat := E.2.1
abbrev am_b (E : am_E) : Nat := E.2.2.1
abbrev am_L (E : am_E) : Nat := E.2.2.2.1
abbrev am_xs (E : am_E) : Nat → Int32 := E.2.2.2.2.1
abbrev am_D (E : am_E) : va_G := E.2.2.2.2.2.1
abbrev am_cT (E : am_E) : FieldType → ClassId := E.2.2.2.2.2.2.1
abbrev am_aK (E : am_E) : Nat → Nat := E.2.2.2.2.2.2.2.1
abbrev am_aV (E : am_E) : Nat → Nat := E.2.2.2.2.2.2.2.2
def am_tr (E : am_E) : Value → Value
  | .ref a => .ref (am_z E + a)
  | .retAddr j => .ref (am_aK E j)
  | .float j => .ref (am_aV E j.toNat)
  | .null => .ref (am_b E)
  | v => v
/-- a value that stands in a local and is known -/
def am_kn : Value → Bool
  | .double _ => false
  | .long _ => false
  | _ => true
theorem am_tr_cat (E : am_E) (v : Value) : (am_tr E v).category = v.category := by cases v <;> rfl
theorem am_kn_cat (E : am_E) {v : Value} (h : am_kn v = true) : (am_tr E v).category = 1 := by cases v <;> first | rfl | cases h
def am_ty (ci : Nat) : Nat → FieldType := match ci with
  | 0 => tyX0
  | 1 => tyX1
  | 2 => tyX2
  | 3 => tyX3
  | 4 => tyX4
  | 5 => tyX5
  | 6 => tyX6
  | 7 => tyX7
  | 8 => tyX8
  | 9 => tyX9
  | _ => tyX10
def am_N (ci : Nat) : Nat := match ci with
  | 0 => 12
  | 1 => 7
  | 2 => 11
  | 3 => 2
  | 4 => 4
  | 5 => 5
  | 6 => 4
  | 7 => 9
  | 8 => 6
  | 9 => 11
  | _ => 57
/-- what field k of the object a of class ci holds -/
def am_fv (E : am_E) (S : am_S) (iv : am_I) (a ci k : Nat) : Value :=
  if (am_ty ci k).isReference then (match S.2.1 a k with | some b => .ref (am_z E + b) | none => .null) else .int (iv a k)
def am_arr (E : am_E) (S : am_S) (iv : am_I) (a n : Nat) (ty : FieldType) : vp_A :=
  (n, if ty.isReference then .inr (.inr (.inr (.inr (fun j => (S.2.1 a j).map (am_aK E))))) else if ty = .long then .inr (.inl (S.2.2.1 a)) else .inl (iv a))
def am_cell (E : am_E) (S : am_S) (iv : am_I) (a : Nat) : Option va_E := match S.1 a with
  | none => none
  | some (.inl ci) => some (.inr (ci, (List.range (am_N ci)).map (am_fv E S iv a ci)))
  | some (.inr (ty, n)) => some (.inl (am_cT E ty, am_arr E S iv a n ty))
def am_HP (E : am_E) (S : am_S) (iv : am_I) (H : Heap) : Prop :=
  H.size = am_z E + S.2.2.2 ∧ (∀ a, S.2.2.2 ≤ a → S.1 a = none) ∧ ∀ (a : Nat) (e : va_E), am_cell E S iv a = some e → va_at (am_D E) vwCl (am_z E + a, e) H
/-- the cells that may be written -/
def am_A (E : am_E) : Nat → Prop := fun q => am_z E ≤ q
def am_pr (E : am_E) : Nat → List Value → List (Nat × Value)
  | _, [] => []
  | i, v :: r => if am_kn v then (i, am_tr E v) :: am_pr E (i + 1) r else am_pr E (i + 1) r
theorem am_pr_mem (E : am_E) {q : Nat × Value} : ∀ {ls : List Value} {i : Nat}, q ∈ am_pr E i ls ↔ ∃ (k : Nat) (v : Value), ls[k]? = some v ∧ am_kn v = true ∧ q = (i + k, am_tr E v) := by
  intro ls
  induction ls with
  | nil => intro i; simp [am_pr]
  | cons v r ih =>
    intro i
    have h2 : q ∈ am_pr E (i + 1) r ↔ ∃ (k : Nat) (w : Value), r[k]? = some w ∧ am_kn w = true ∧ q = (i + 1 + k, am_tr E w) := ih
    constructor
    · intro h
      unfold am_pr at h
      split at h
      · rename_i hk
        rcases List.mem_cons.mp h with h | h
        · exact ⟨0, v, rfl, hk, h⟩
        · obtain ⟨k, w, a1, a2, a3⟩ := h2.mp h
          exact ⟨k + 1, w, a1, a2, by rw [a3]; congr 1; omega⟩
      · obtain ⟨k, w, a1, a2, a3⟩ := h2.mp h
        exact ⟨k + 1, w, a1, a2, by rw [a3]; congr 1; omega⟩
    · rintro ⟨k, w, a1, a2, a3⟩
      unfold am_pr
      cases k with
      | zero =>
        have e : v = w := Option.some.inj a1
        subst e
        rw [if_pos a2]
        exact List.mem_cons.mpr (Or.inl a3)
      | succ k =>
        have hm : q ∈ am_pr E (i + 1) r := h2.mpr ⟨k, w, a1, a2, by rw [a3]; congr 1; omega⟩
        split
        · exact List.mem_cons_of_mem _ hm
        · exact hm
/-- the frame's locals, by their places -/
def am_LS (E : am_E) (nL : Nat) (ls : List Value) (rls : Array Slot) : Prop := lv_has rls nL (am_pr E 0 ls)
theorem am_LS.get {E : am_E} {nL : Nat} {ls : List Value} {rls : Array Slot} (h : am_LS E nL ls rls) {i : Nat} {v : Value} (hi : ls[i]? = some v) (hk : am_kn v = true) : rls[i]? = some (.val (am_tr E v)) := by
  have hm : (0 + i, am_tr E v) ∈ am_pr E 0 ls := (am_pr_mem E).mpr ⟨i, v, hi, hk, rfl⟩
  have := h.2.2 _ hm
  rwa [Nat.zero_add] at this
theorem am_LS.put {E : am_E} {nL : Nat} {ls : List Value} {rls : Array Slot} {i : Nat} {v w : Value} (hw : am_tr E v = w) (h : lv_has rls nL ((i, w) :: (am_pr E 0 ls).filter (fun q => !(q.1 == i) && !(q.1 + 1 == i && q.2.category == 2)))) : am_LS E nL (ls.set i v) rls := by
  refine ⟨h.1, h.2.1, fun q hq => h.2.2 q ?_⟩
  obtain ⟨k, u, h1, h2, h3⟩ := (am_pr_mem E).mp hq
  rw [Nat.zero_add] at h3
  by_cases hk : k = i
  · subst hk
    have hl : k < ls.length := by
      have h4 := (List.getElem?_eq_some_iff.mp h1).1
      rwa [List.length_set] at h4
    rw [List.getElem?_set_self hl] at h1
    have e : v = u := Option.some.inj h1
    subst e
    rw [h3, hw]
    exact List.mem_cons_self
  · rw [List.getElem?_set_ne (fun e => hk e.symm)] at h1
    refine List.mem_cons_of_mem _ (List.mem_filter.mpr ⟨(am_pr_mem E).mpr ⟨k, u, h1, h2, by rw [Nat.zero_add]; exact h3⟩, ?_⟩)
    rw [h3]
    have hc : (am_tr E u).category = 1 := am_kn_cat E h2
    simp [hk, hc]
/-- a local that is of no more use -/
theorem am_LS.lose {E : am_E} {nL : Nat} {ls : List Value} {rls : Array Slot} {i : Nat} {w : Value} (h : lv_has rls nL ((i, w) :: (am_pr E 0 ls).filter (fun q => !(q.1 == i) && !(q.1 + 1 == i && q.2.category == 2)))) : am_LS E nL (ls.set i (.double 0)) rls := by
  refine ⟨h.1, h.2.1, fun q hq => h.2.2 q ?_⟩
  obtain ⟨k, u, h1, h2, h3⟩ := (am_pr_mem E).mp hq
  rw [Nat.zero_add] at h3
  by_cases hk : k = i
  · subst hk
    have hl : k < ls.length := by
      have h4 := (List.getElem?_eq_some_iff.mp h1).1
      rwa [List.length_set] at h4
    rw [List.getElem?_set_self hl] at h1
    have e : Value.double 0 = u := Option.some.inj h1
    subst e
    cases h2
  · rw [List.getElem?_set_ne (fun e => hk e.symm)] at h1
    refine List.mem_cons_of_mem _ (List.mem_filter.mpr ⟨(am_pr_mem E).mpr ⟨k, u, h1, h2, by rw [Nat.zero_add]; exact h3⟩, ?_⟩)
    rw [h3]
    have hc : (am_tr E u).category = 1 := am_kn_cat E h2
    simp [hk, hc]
