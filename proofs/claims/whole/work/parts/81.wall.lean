/-! reading a line on both sides: wall, reach, rent, wind -/
/-- what reading a line does on both sides -/
def LO (w t rr : Nat) (τ : Nat → Nat) (n fi : Nat) (f' : Nat → Bool) (ivm : am_I) (Fc : Option (Int32 × am_I)) (Fm : Option am_I) : Prop := ∃ (b : Bool) (ivc' ivm' : am_I), Fc = some (am_bi b, ivc') ∧ Fm = some ivm' ∧ Hk ivm ivm' ∧ (b = true → ∃ ty' fi' be' c' ρ', TR t ivc' ivm' τ n ty' fi' be' ∧ fi < fi' ∧ CP w ivc' ivm' c' ρ' ∧ ρ'.1 (cy_r c') ≤ fi' ∧ FG rr ivc' f') ∧ (b = false → EE t ivc' ivm')
section B81
variable {w t rr xr : Nat} {ivc ivm ivc' ivm' : am_I} {τ : Nat → Nat} {n ty fi be : Nat} {c : Nat → Nat → Nat} {ρ : ru_T} {f : Nat → Bool}
theorem LO.no {f' : Nat → Bool} {Fc : Option (Int32 × am_I)} {Fm : Option am_I} (e1 : Fc = some (0, ivc')) (e2 : Fm = some ivm') (h1 : Hk ivm ivm') (h2 : EE t ivc' ivm') : LO w t rr τ n fi f' ivm Fc Fm := ⟨false, ivc', ivm', e1, e2, h1, fun q => (by cases q), fun _ => h2⟩
theorem LO.yes {f' : Nat → Bool} {Fc : Option (Int32 × am_I)} {Fm : Option am_I} {ty' fi' be' : Nat} {c' : Nat → Nat → Nat} {ρ' : ru_T} (e1 : Fc = some (1, ivc')) (e2 : Fm = some ivm') (h1 : Hk ivm ivm') (h2 : TR t ivc' ivm' τ n ty' fi' be') (h3 : fi < fi') (h4 : CP w ivc' ivm' c' ρ') (h5 : ρ'.1 (cy_r c') ≤ fi') (h6 : FG rr ivc' f') : LO w t rr τ n fi f' ivm Fc Fm := ⟨true, ivc', ivm', e1, e2, h1, fun _ => ⟨ty', fi', be', c', ρ', h2, h3, h4, h5, h6⟩, fun q => (by cases q)⟩
theorem EE.wm {a k : Nat} {x : Int32} (h : EE t ivc ivm) (ha : a ≠ 54) : EE t ivc (am_w ivm a k x) := by
  unfold EE at h ⊢
  rw [am_w_other _ _ _ (fun q => ha q.symm)]; exact h
theorem S_numI {lo hi : Int32} {a b : Nat} (el : lo = nI a) (eh : hi = nI b) (hx : TX τ n) (h : TR t ivc ivm τ n ty fi be) (ht : 89 ≤ t) (hrr : 89 ≤ rr) (hr : rr ≠ t) (hlo : a < 10000) (hhi : b < 10000) :
    (∃ v ivc' ivm' ty' fi' be', a ≤ v ∧ v ≤ b ∧ F_X1_readNumber w t rr xr lo hi ivc = some (1, ivc') ∧ F_X10_readNumber lo hi ivm = some (nI v, ivm') ∧ ivc' rr 6 = nI v ∧ TR t ivc' ivm' τ n ty' fi' be' ∧ fi < fi' ∧ fC t rr ivc ivc' ∧ fM ivm ivm') ∨
    (∃ ivc' ivm', F_X1_readNumber w t rr xr lo hi ivc = some (0, ivc') ∧ F_X10_readNumber lo hi ivm = some (0, ivm') ∧ EE t ivc' ivm' ∧ fM ivm ivm') := by
  subst el; subst eh
  exact S_num hx h ht hrr hr hlo hhi
theorem upd0_ok {k v : Nat} (h : cy_ok c) (hk : k = 1 ∧ 1 ≤ v ∧ v ≤ 9 ∨ 6 ≤ k ∧ k ≤ 8 ∧ v ≤ 99 ∨ k = 9 ∧ v ≤ 1000 ∨ cy_n c = 0 ∧ (k = 4 ∧ 1 ≤ v ∧ v ≤ 6 ∨ k = 5 ∧ 1 ≤ v ∧ v ≤ 9)) : cy_ok (upd0 c k v) := by
  have hu : ∀ a b, ¬ (a = 0 ∧ b = k) → upd0 c k v a b = c a b := fun a b hn => by unfold upd0; rw [if_neg hn]
  have hs' : ∀ b, b = k → upd0 c k v 0 b = v := fun b hb => by unfold upd0; rw [if_pos ⟨rfl, hb⟩]
  obtain ⟨a1, a2, a3, a4, a5, a6, a7, a8, a9⟩ := h
  have gen : ∀ b lo hi, (lo ≤ c 0 b ∧ c 0 b ≤ hi) → (b = k → lo ≤ v ∧ v ≤ hi) → lo ≤ upd0 c k v 0 b ∧ upd0 c k v 0 b ≤ hi := by
    intro b lo hi h1 h2
    by_cases e : b = k
    · rw [hs' b e]; exact h2 e
    · rw [hu 0 b (by omega)]; exact h1
  have e0 : upd0 c k v 0 0 = c 0 0 := hu 0 0 (by omega)
  refine ⟨by show upd0 c k v 0 0 ≤ 10; rw [e0]; exact a1, gen 1 1 9 a2 (by omega), (gen 2 0 5 ⟨Nat.zero_le _, a3⟩ (by omega)).2, (gen 3 0 4 ⟨Nat.zero_le _, a4⟩ (by omega)).2, gen 4 1 6 a5 (by omega), gen 5 1 9 a6 (by omega), ⟨(gen 6 0 99 ⟨Nat.zero_le _, a7.1⟩ (by omega)).2, (gen 7 0 99 ⟨Nat.zero_le _, a7.2.1⟩ (by omega)).2, (gen 8 0 99 ⟨Nat.zero_le _, a7.2.2.1⟩ (by omega)).2, (gen 9 0 1000 ⟨Nat.zero_le _, a7.2.2.2⟩ (by omega)).2⟩, ?_, ?_⟩
  · intro j hj
    have hj' : j < c 0 0 := by rw [← e0]; exact hj
    have h4 : upd0 c k v 0 4 = c 0 4 := hu 0 4 (by intro q; have : cy_n c = c 0 0 := rfl; omega)
    have h5 : upd0 c k v 0 5 = c 0 5 := hu 0 5 (by intro q; have : cy_n c = c 0 0 := rfl; omega)
    have := a8 j hj'
    show upd0 c k v 1 j ≤ 3 ∧ upd0 c k v 2 j + upd0 c k v 5 j < upd0 c k v 0 4 ∧ upd0 c k v 3 j < upd0 c k v 0 5 ∧ 1 ≤ upd0 c k v 4 j ∧ upd0 c k v 4 j ≤ 9 ∧ upd0 c k v 5 j ≤ 1
    rw [h4, h5, hu 1 j (by omega), hu 2 j (by omega), hu 3 j (by omega), hu 4 j (by omega), hu 5 j (by omega)]
    exact this
  · intro p hp
    have e2 : upd0 c k v 0 2 = c 0 2 := hu 0 2 (by omega)
    have hp' : p < c 0 2 := by rw [← e2]; exact hp
    have := a9 p hp'
    show upd0 c k v 6 p < upd0 c k v 0 0 ∧ upd0 c k v 1 (upd0 c k v 6 p) = 0 ∧ upd0 c k v 7 p ≤ upd0 c k v 0 0 ∧ (upd0 c k v 7 p ≠ 0 → upd0 c k v 1 (upd0 c k v 7 p - 1) = 1) ∧ upd0 c k v 8 p ≤ 99
    rw [e0, hu 6 p (by omega), hu 7 p (by omega), hu 8 p (by omega), hu 1 _ (by omega), hu 1 _ (by omega)]
    exact this
/-- one number read and kept on both sides -/
theorem S_one {lo hi : Int32} {a b k cc mm : Nat} (el : lo = nI a) (eh : hi = nI b) (hlo : a < 10000) (hhi : b < 10000) (hx : TX τ n) (hw : w = 2 ∨ w = 22) (ht : 89 ≤ t) (hrr : 89 ≤ rr) (hr : rr ≠ t) (h : TR t ivc ivm τ n ty fi be) (hc : CP w ivc ivm c ρ) (hF : FG rr ivc f) (hk : (k, cc, mm) ∈ nums) (hok : ∀ v, a ≤ v → v ≤ b → cy_ok (upd0 c k v)) :
    (∃ v ivc' ivm' ty' fi' be', F_X1_readNumber w t rr xr lo hi ivc = some (1, ivc') ∧ F_X10_readNumber lo hi ivm = some (nI v, ivm') ∧ ivc' rr 6 = nI v ∧ TR t (am_w ivc' w cc (nI v)) (am_w ivm' 58 mm (nI v)) τ n ty' fi' be' ∧ fi < fi' ∧ CP w (am_w ivc' w cc (nI v)) (am_w ivm' 58 mm (nI v)) (upd0 c k v) ρ ∧ FG rr (am_w ivc' w cc (nI v)) f ∧ Hk ivm (am_w ivm' 58 mm (nI v))) ∨
    (∃ ivc' ivm', F_X1_readNumber w t rr xr lo hi ivc = some (0, ivc') ∧ F_X10_readNumber lo hi ivm = some (0, ivm') ∧ EE t ivc' (am_w ivm' 58 mm 0) ∧ Hk ivm (am_w ivm' 58 mm 0)) := by
  have hs0 : hs 58 mm := by
    simp only [nums, List.mem_cons, Prod.mk.injEq, List.not_mem_nil, or_false] at hk
    exact Or.inl (by omega)
  rcases S_numI (w := w) (xr := xr) el eh hx h ht hrr hr hlo hhi with ⟨v, ivc1, ivm1, ty1, fi1, be1, v1, v2, e1, e2, e3, e4, e5, e6, e7⟩ | ⟨ivc1, ivm1, e1, e2, e3, e4⟩
  · exact Or.inl ⟨v, ivc1, ivm1, ty1, fi1, be1, e1, e2, e3, (e4.wc (by omega) (by omega)).wm (by decide) (by decide), e5, (hc.fcm hw ht hrr e6 e7).set hw hk (hok v v1 v2), (hF.fcm hr e6).wr (by omega), e7.hk.w hs0⟩
  · exact Or.inr ⟨ivc1, ivm1, e1, e2, e3.wm (by decide), e4.hk.w hs0⟩
theorem upd0_n {k v b : Nat} (h : b ≠ k) : upd0 c k v 0 b = c 0 b := if_neg (by omega)
/-- the model's reading of a wall's two numbers -/
def m_wall (iv : am_I) : Option am_I := am_o2 (F_X10_readNumber (1 : Int32) (6 : Int32) iv) fun v6 w6 => am_o2 (F_X10_readNumber (1 : Int32) (9 : Int32) (am_w w6 58 (10 : Int32).toNatClampNeg v6)) fun v7 w7 => some (am_w w7 58 (11 : Int32).toNatClampNeg v7)
theorem m_wall_eq (i1 i4 : Int32) (iv : am_I) : J_X10_readLine_168 i1 i4 iv = am_o1 (m_wall iv) fun w => J_X10_readLine_196 i1 i4 w := by
  unfold J_X10_readLine_168 m_wall
  cases h1 : F_X10_readNumber (1 : Int32) (6 : Int32) iv with
  | none => rfl
  | some y =>
    obtain ⟨v6, w6⟩ := y
    rw [am_o2_s, am_o2_s]
    cases h2 : F_X10_readNumber (1 : Int32) (9 : Int32) (am_w w6 58 (10 : Int32).toNatClampNeg v6) with
    | none => rfl
    | some y => rfl
theorem S_wall (hx : TX τ n) (hw : w = 2 ∨ w = 22) (ht : 89 ≤ t) (hrr : 89 ≤ rr) (hr : rr ≠ t) (h : TR t ivc ivm τ n ty fi be) (hc : CP w ivc ivm c ρ) (hF : FG rr ivc f) (hb : ρ.1 (cy_r c) ≤ fi) (h0 : cy_n c = 0) : LO w t rr τ n fi f ivm (F_X1_readWall w t rr xr ivc) (am_o1 (F_X10_stepOn ivm) m_wall) := by
  obtain ⟨ivc1, ivm1, a1, a2, a3, a4, a5, a6⟩ := h.adv hx ht rr
  have hfb := h.2.2.1.1
  have hc1 := hc.fcm hw ht hrr a5 a6
  have ok1 : ∀ v, 1 ≤ v → v ≤ 6 → cy_ok (upd0 c 4 v) := fun v q1 q2 => upd0_ok hc.2.2.2.1 (Or.inr (Or.inr (Or.inr ⟨h0, Or.inl ⟨rfl, q1, q2⟩⟩)))
  unfold F_X1_readWall m_wall
  rw [a1, am_o1_s, a2, am_o1_s]
  rcases S_one (w := w) (xr := xr) (k := 4) (cc := 0) (mm := 10) (lo := 1) (hi := 6) rfl rfl (by decide) (by decide) hx hw ht hrr hr a3 hc1 (hF.fcm hr a5) (by simp [nums]) ok1 with ⟨v, ivc2, ivm2, ty2, fi2, be2, e1, e2, e3, e4, e5, e6, e7, e8⟩ | ⟨ivc2, ivm2, e1, e2, e3, e4⟩
  · have ok2 : ∀ v', 1 ≤ v' → v' ≤ 9 → cy_ok (upd0 (upd0 c 4 v) 5 v') := fun v' q1 q2 => upd0_ok e6.2.2.2.1 (Or.inr (Or.inr (Or.inr ⟨(upd0_n (by decide)).trans h0, Or.inr ⟨rfl, q1, q2⟩⟩)))
    rw [e1, am_o2_s, if_neg (by decide), e2, am_o2_s, e3, show (10 : Int32).toNatClampNeg = 10 from by decide, show (11 : Int32).toNatClampNeg = 11 from by decide]
    rcases S_one (w := w) (xr := xr) (k := 5) (cc := 1) (mm := 11) (lo := 1) (hi := 9) rfl rfl (by decide) (by decide) hx hw ht hrr hr e4 e6 e7 (by simp [nums]) ok2 with ⟨v', ivc3, ivm3, ty3, fi3, be3, g1, g2, g3, g4, g5, g6, g7, g8⟩ | ⟨ivc3, ivm3, g1, g2, g3, g4⟩
    · rw [g1, am_o2_s, if_neg (by decide), g2, am_o2_s, g3]
      refine LO.yes rfl rfl ((a6.hk.tr e8).tr g8) g4 (by omega) g6 ?_ g7
      rw [show cy_r (upd0 (upd0 c 4 v) 5 v') = cy_r c from (upd0_n (by decide)).trans (upd0_n (by decide))]; omega
    · rw [g1, am_o2_s, if_pos rfl, g2, am_o2_s]
      exact LO.no rfl rfl ((a6.hk.tr e8).tr g4) g3
  · rw [e1, am_o2_s, if_pos rfl, e2, am_o2_s, show (10 : Int32).toNatClampNeg = 10 from by decide, show (11 : Int32).toNatClampNeg = 11 from by decide, NB_num e3.1, am_o2_s]
    exact LO.no rfl rfl ((a6.hk.tr e4).w (Or.inl (by decide))) (e3.wm (by decide))
end B81
