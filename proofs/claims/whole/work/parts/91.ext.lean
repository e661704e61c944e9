/-! cells that come behind: Tokens, CityReader, ExprReader -/
/-- the old cells stand -/
def ext (S S' : am_S) : Prop := S.2.2.2 ≤ S'.2.2.2 ∧ ∀ a, a < S.2.2.2 → S'.1 a = S.1 a ∧ S'.2.1 a = S.2.1 a
theorem am_lref_no {a : Nat} (h : 89 ≤ a) (j : Nat) : am_lref a j = none := by
  cases e : am_lref a j with
  | none => rfl
  | some b => have := am_lref_lt e; omega
section B91
variable {E : am_E} {S S' : am_S} {iv : am_I} {Q : am_O → am_S → am_I → Prop} {w v fd nf sn ns pp np d : Nat}
theorem ext.rf : ext S S := ⟨Nat.le_refl _, fun _ _ => ⟨rfl, rfl⟩⟩
theorem ext.tr {S2 : am_S} (h : ext S S') (h2 : ext S' S2) : ext S S2 := ⟨Nat.le_trans h.1 h2.1, fun a ha => ⟨(h2.2 a (Nat.lt_of_lt_of_le ha h.1)).1.trans (h.2 a ha).1, (h2.2 a (Nat.lt_of_lt_of_le ha h.1)).2.trans (h.2 a ha).2⟩⟩
theorem ext.nx {x : Nat} (h : S.2.2.2 ≤ x) : ext S (S.1, S.2.1, S.2.2.1, x) := ⟨h, fun _ _ => ⟨rfl, rfl⟩⟩
theorem ext.wl {a k : Nat} {x : Int64} : ext S (am_wl S a k x) := ⟨Nat.le_refl _, fun _ _ => ⟨rfl, rfl⟩⟩
theorem ext.new (t : am_K) : ext S (am_new S t) := by
  refine ⟨by show S.2.2.2 ≤ S.2.2.2 + 1; omega, fun a ha => ⟨?_, ?_⟩⟩
  · show (if a = S.2.2.2 then some t else S.1 a) = _
    rw [if_neg (by omega)]
  · show (if a = S.2.2.2 then (fun _ => none) else S.2.1 a) = _
    rw [if_neg (by omega)]
theorem ext.wr {S0 : am_S} (h : ext S0 S) {a k b : Nat} (ha : S0.2.2.2 ≤ a) : ext S0 (am_wr S a k b) := by
  refine ⟨h.1, fun a' ha' => ⟨(h.2 a' ha').1, ?_⟩⟩
  show (if a' = a then (fun j => if j = k then some b else S.2.1 a j) else S.2.1 a') = _
  rw [if_neg (by omega)]
  exact (h.2 a' ha').2
theorem am_Lay.ext (h : am_Lay S) (e : ext S S') : am_Lay S' := by
  obtain ⟨h1, h2, h3⟩ := h
  refine ⟨fun a t ht => ?_, fun a j b hb => ?_, Nat.le_trans h3 e.1⟩
  · have := am_lay_lt ht
    rw [(e.2 a (by omega)).1]; exact h1 a t ht
  · have := am_lref_lt hb
    rw [(e.2 a (by omega)).2]; exact h2 a j b hb
theorem SR.ext (h : SR S w v fd nf sn ns pp np) (e : ext S S') : SR S' w v fd nf sn ns pp np := by
  obtain ⟨hL, ⟨h3, h4⟩, ⟨f1, f2, f3, f4⟩, ⟨p1, p2⟩, hw, ha, hn, ⟨l1, l2, l3⟩, hm⟩ := h
  have hz := hL.2.2
  refine ⟨hL.ext e, ⟨by rw [(e.2 0 (by omega)).2]; exact h3, by rw [(e.2 0 (by omega)).2]; exact h4⟩, ⟨by rw [(e.2 50 (by omega)).2]; exact f1, by rw [(e.2 fd l1).1]; exact f2, by rw [(e.2 50 (by omega)).2]; exact f3, by rw [(e.2 sn l2).1]; exact f4⟩, ⟨by rw [(e.2 0 (by omega)).2]; exact p1, by rw [(e.2 pp l3).1]; exact p2⟩, hw, ha, hn, ⟨Nat.lt_of_lt_of_le l1 e.1, Nat.lt_of_lt_of_le l2 e.1, Nat.lt_of_lt_of_le l3 e.1⟩, hm⟩
/-- wall and spare change their places -/
theorem SR.swap (h : SR S w v fd nf sn ns pp np) : SR (am_wr (am_wr S 0 3 v) 0 4 w) v w fd nf sn ns pp np := by
  obtain ⟨hL, ⟨h3, h4⟩, ⟨f1, f2, f3, f4⟩, ⟨p1, p2⟩, hw, ha, hn, hl, hm⟩ := h
  refine ⟨(hL.wr _ rfl).wr _ rfl, ⟨by rw [wr_o _ _ (Or.inr (by decide)), wr_s], wr_s _ _ _ _⟩, ⟨?_, f2, ?_, f4⟩, ⟨?_, p2⟩, by omega, ha, hn, hl, hm⟩
  · rw [wr_o _ _ (Or.inl (by decide)), wr_o _ _ (Or.inl (by decide))]; exact f1
  · rw [wr_o _ _ (Or.inl (by decide)), wr_o _ _ (Or.inl (by decide))]; exact f3
  · rw [wr_o _ _ (Or.inr (by decide)), wr_o _ _ (Or.inr (by decide))]; exact p1
theorem M_Tokens {t m : Nat} (ht : S.1 t = some (.inl 8)) (h1 : S.1 1 = some (.inr (.byte, 700))) (hm : m ≤ 700) (h : Q (.inl none) (am_wr S t 0 1) (am_w iv t 1 (nI m))) : am_M E (d + 1) mX8_init 0 0 [.ref t, .ref 1, .int (nI m)] S iv Q := by
  have e9 : (if Int32.ofNat 700 < nI m then Int32.ofNat 700 else nI m) = nI m := by
    rw [if_neg (show ¬ Int32.ofNat 700 < nI m from nI_nlt hm (by decide))]
  refine am_enter (js := []) rfl pn_X8 rfl rfl rfl (Nat.le_of_ble_eq_true rfl) ?_
  refine sX8_init_0 rfl (sX8_init_1 (Nat.le_of_ble_eq_true rfl) (sX8_init_4 rfl (sX8_init_5 rfl (sX8_init_6 ht (sX8_init_9 rfl (sX8_init_10 (sX8_init_11 rfl (sX8_init_12 h1 rfl (sX8_init_13 (Nat.le_of_ble_eq_true rfl) (J_min ?_))))))))))
  rw [e9]
  exact sX8_init_16 ht (sX8_init_19 h)
theorem M_ExprReader {xr t r : Nat} (ht : S.1 xr = some (.inl 3)) (h : Q (.inl none) (am_wr (am_wr S xr 0 t) xr 1 r) iv) : am_M E (d + 1) mX3_init 0 0 [.ref xr, .ref t, .ref r] S iv Q := by
  refine am_enter (js := []) rfl pn_X3 rfl rfl rfl (Nat.le_of_ble_eq_true rfl) ?_
  exact sX3_init_0 rfl (sX3_init_1 (Nat.le_of_ble_eq_true rfl) (sX3_init_4 rfl (sX3_init_5 rfl (sX3_init_6 ht (sX3_init_9 rfl (sX3_init_10 rfl (sX3_init_11 ht (sX3_init_14 h))))))))
theorem M_CityReader {rr t : Nat} (hL : am_Lay S) (hv : v = 2 ∨ v = 22) (h1 : S.1 rr = some (.inl 1)) (hr : 89 ≤ rr) (hr2 : rr < S.2.2.2) (h : Q (.inl none) (am_wr (am_wr (am_wr (am_new (am_wr (am_wr S rr 0 t) rr 1 v) (.inl 3)) S.2.2.2 0 t) S.2.2.2 1 (v + 14)) rr 2 S.2.2.2) (am_0 S iv)) : am_M E (d + 2) mX1_init 1 2 [.ref rr, .ref t, .ref v] S iv Q := by
  have hz := hL.2.2
  have hS1 : am_Lay (am_wr (am_wr S rr 0 t) rr 1 v) := (hL.wr _ (am_lref_no hr 0)).wr _ (am_lref_no hr 1)
  have hS2 : am_Lay (am_new (am_wr (am_wr S rr 0 t) rr 1 v) (.inl 3)) := hS1.new _
  refine am_enter (js := []) rfl pn_X1 rfl rfl rfl (Nat.le_of_ble_eq_true rfl) ?_
  refine sX1_init_0 rfl (sX1_init_1 (Nat.le_of_ble_eq_true rfl) (sX1_init_4 rfl (sX1_init_5 rfl (sX1_init_6 h1 (sX1_init_9 rfl (sX1_init_10 rfl (sX1_init_11 h1 (sX1_init_14 rfl (sX1_init_15 (k := 0) (n := 0) (sX1_init_18 rfl (sX1_init_19 rfl (sX1_init_20 rfl (sX1_init_21 (kW_0 hS2 hv) (rW_0_9 hS2 hv) ?_)))))))))))))
  refine sX1_init_24 (k' := 0) (k := 0) (n' := 0) (n := 0) (Nat.le_of_ble_eq_true rfl) (M_ExprReader (new_s _ _) ⟨rfl, ?_⟩)
  refine sX1_init_27 ?_ (sX1_init_30 h)
  show (am_new (am_wr (am_wr S rr 0 t) rr 1 v) (.inl 3)).1 rr = _
  rw [new_o _ _ (show rr < (am_wr (am_wr S rr 0 t) rr 1 v).2.2.2 from hr2)]; exact h1
end B91
