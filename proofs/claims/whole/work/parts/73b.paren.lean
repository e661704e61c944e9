/-! an EXPR within so many others: what the class does behind '(' and at a RULE's beginning -/
section B73b
variable {w t rr xr : Nat} {iv iv1 iv2 : am_I} {rc : Int32 → Int32 → am_I → Option (Int32 × am_I)} {i : Int32} {b : Bool}
/-- an EXPR within i others -/
def F_X3_readExpr (w t rr xr : Nat) (rc : Int32 → Int32 → am_I → Option (Int32 × am_I)) (i1 : Int32) (iv : am_I) : Option (Int32 × am_I) :=
  (if i1 < (6 : Int32) then (am_o2 (rc (0 : Int32) i1 iv) fun v1 w1 => (if v1 = 0 ∨ v1 = 1 then some (v1, w1) else none)) else (am_o1 (F_X8_isNumber t iv) fun v3 => (if v3 = 0 then (am_o1 (F_X8_isAnyWord t iv) fun v6 => (if v6 = 0 then (am_o1 (F_X8_isSign t (40 : Int32) iv) fun v7 => (if v7 = 0 then J_X3_readParenthesis_52 w t rr xr rc (0 : Int32) iv else J_X3_readParenthesis_47 w t rr xr rc iv)) else J_X3_readParenthesis_47 w t rr xr rc iv)) else J_X3_readParenthesis_47 w t rr xr rc iv)))
theorem N_expr0 {x : Int32 × am_I} (e : F_X3_readExpr w t rr xr rc (0 : Int32) iv = some x) : rc (0 : Int32) (0 : Int32) iv = some x := by
  unfold F_X3_readExpr at e
  rw [if_pos (show (0 : Int32) < 6 by decide)] at e
  obtain ⟨v, w', e1, e2⟩ := am_o2_i e
  obtain ⟨-, e3⟩ := am_ck e2
  rw [e1]; exact e3
theorem N_p52 {k : Int32} {x : Int32 × am_I} (e : J_X3_readParenthesis_52 w t rr xr rc k iv = some x) : x.1 = 0 := by
  unfold J_X3_readParenthesis_52 J_X3_readParenthesis_66 F_X8_refuse at e
  by_cases h : k = 0
  · rw [if_pos h, am_o2_s, if_pos (Or.inl rfl)] at e
    obtain rfl := Option.some.inj e
    rfl
  · rw [if_neg h, am_o2_s, if_pos (Or.inl rfl)] at e
    obtain rfl := Option.some.inj e
    rfl
theorem N_paren (a : F_X8_advance t iv = some iv1) (e : F_X3_readExpr w t rr xr rc (i + (1 : Int32)) iv1 = some (am_bi b, iv2)) :
    F_X3_readParenthesis w t rr xr rc i iv = (if am_bi b = 0 then some ((0 : Int32), iv2) else (am_o1 (F_X8_isSign t (41 : Int32) iv2) fun v3 => (if v3 = 0 then (am_o2 (F_X8_refuse t (1 : Int32) iv2) fun v5 w5 => (if v5 = 0 ∨ v5 = 1 then some (v5, w5) else none)) else (am_o1 (F_X8_advance t iv2) fun w4 => some ((1 : Int32), w4))))) := by
  unfold F_X3_readParenthesis
  rw [a, am_o1_s]
  unfold F_X3_readExpr at e
  by_cases h : i + (1 : Int32) < 6
  · rw [if_pos h] at e ⊢
    obtain ⟨v, w', e1, e2⟩ := am_o2_i e
    obtain ⟨-, e3⟩ := am_ck e2
    rw [e1, Option.some.inj e3, am_o2_s]
  · rw [if_neg h] at e ⊢
    have hb : am_bi b = 0 := by
      obtain ⟨v3, -, e⟩ := am_o1_i e
      rcases am_if e with ⟨-, e⟩ | ⟨-, e⟩
      · obtain ⟨v6, -, e⟩ := am_o1_i e
        rcases am_if e with ⟨-, e⟩ | ⟨-, e⟩
        · obtain ⟨v7, -, e⟩ := am_o1_i e
          rcases am_if e with ⟨-, e⟩ | ⟨-, e⟩
          · exact N_p52 e
          · exact N_p52 (k := 1) e
        · exact N_p52 (k := 1) e
      · exact N_p52 (k := 1) e
    rw [if_pos hb]
    refine Eq.trans e ?_
    rw [hb]
end B73b
