/-! reading a line on both sides: tokens, numbers, marks -/
/-- what the reading of a text may change of the model -/
def hs (a k : Nat) : Prop := (58 ≤ a ∧ a ≤ 63 ∧ 10 ≤ k) ∨ (64 ≤ a ∧ a ≤ 66 ∧ 5 ≤ k) ∨ (67 ≤ a ∧ a ≤ 68 ∧ 4 ≤ k) ∨ (a = 69 ∧ 700 ≤ k) ∨ (a = 54 ∧ 19 ≤ k ∧ k ≤ 28 ∧ k ≠ 20 ∧ k ≠ 27)
def Hk (x y : am_I) : Prop := ∀ a k, ¬ hs a k → y a k = x a k
theorem Hk.rf (x : am_I) : Hk x x := fun _ _ _ => rfl
theorem Hk.tr {x y z : am_I} (h1 : Hk x y) (h2 : Hk y z) : Hk x z := fun a k h => (h2 a k h).trans (h1 a k h)
theorem Hk.w {x y : am_I} {a k : Nat} {v : Int32} (h : Hk x y) (hh : hs a k) : Hk x (am_w y a k v) := fun b i hb => by
  rw [am_w_r]
  by_cases e : b = a
  · rw [if_pos e]
    by_cases e2 : i = k
    · subst e; subst e2; exact absurd hh hb
    · rw [if_neg e2]; exact h b i hb
  · rw [if_neg e]; exact h b i hb
/-- the model's tokens only -/
def fM (x y : am_I) : Prop := ∀ a k, (a ≠ 54 ∨ k < 19 ∨ k = 20 ∨ 27 ≤ k) → y a k = x a k
theorem fM.rf (x : am_I) : fM x x := fun _ _ _ => rfl
theorem fM.tr {x y z : am_I} (h1 : fM x y) (h2 : fM y z) : fM x z := fun a k h => (h2 a k h).trans (h1 a k h)
theorem fM.hk {x y : am_I} (h : fM x y) : Hk x y := fun a k q => h a k (by unfold hs at q; omega)
theorem fM.r {x y : am_I} (h : fM x y) {a : Nat} (ha : a ≠ 54) : y a = x a := funext fun k => h a k (Or.inl ha)
/-- the class's tokens, its number -/
def fC (t rr : Nat) (x y : am_I) : Prop := ∀ a k, a ≠ t → (a ≠ rr ∨ k ≠ 6) → y a k = x a k
theorem fC.rf (t rr : Nat) (x : am_I) : fC t rr x x := fun _ _ _ _ => rfl
theorem fC.tr {t rr : Nat} {x y z : am_I} (h1 : fC t rr x y) (h2 : fC t rr y z) : fC t rr x z := fun a k h h' => (h2 a k h h').trans (h1 a k h h')
theorem fC.r {t rr : Nat} {x y : am_I} (h : fC t rr x y) {a : Nat} (h1 : a ≠ t) (h2 : a ≠ rr) : y a = x a := funext fun k => h a k h1 (Or.inl h2)
section B79
variable {w t rr xr : Nat} {ivc ivm ivc' ivm' : am_I} {τ : Nat → Nat} {n ty fi be : Nat}
def TR (t : Nat) (ivc ivm : am_I) (τ : Nat → Nat) (n ty fi be : Nat) : Prop := cT t ivc τ n ty fi be ∧ mT ivm τ n ty fi be ∧ TK τ n ty fi be ∧ ivm 54 25 = 0
theorem TR.adv (h : TR t ivc ivm τ n ty fi be) (hx : TX τ n) (ht : 89 ≤ t) (rr : Nat) : ∃ ivc' ivm', F_X8_advance t ivc = some ivc' ∧ F_X10_stepOn ivm = some ivm' ∧ TR t ivc' ivm' τ n (tkt τ n be) (skp τ n be) (tkb τ n be) ∧ be ≤ skp τ n be ∧ fC t rr ivc ivc' ∧ fM ivm ivm' := by
  obtain ⟨h1, h2, h3, h4⟩ := h
  obtain ⟨ivc', e1, c1, c2⟩ := K_advance hx h1.1 h1.2.1 h1.2.2.2.2 h3.2.1 (by omega)
  obtain ⟨ivm', e2, m1⟩ := P_stepOn hx h2.1 h2.2.1 h2.2.2.2.2.2.1 h3.2.1
  have f1 := X_X8_advance e1
  have f2 := X_X10_stepOn e2
  refine ⟨ivc', ivm', e1, e2, ⟨c1, m1, TK.of h3.2.1, ?_⟩, (skp_le h3.2.1).1, fun a k ha _ => f1 a k (by simp) (by simp; omega), fun a k ha => f2 a k (by simp) (by simp; omega)⟩
  rw [f2 54 25 (by simp) (by simp)]; exact h4
theorem cT.fc (h : cT t ivc τ n ty fi be) (hr : rr ≠ t) (ht : 89 ≤ t) (hrr : 89 ≤ rr) {v : Int32} : cT t (am_w ivc rr 6 v) τ n ty fi be := h.fr (fun k => by rw [am_w_other _ _ _ (by omega)]) (fun k _ => by rw [am_w_other _ _ _ (fun q => hr q.symm)])
theorem fM.wr {k : Int32} : fM ivm (am_w (am_w ivm 54 25 k) 54 26 (ivm 54 23)) := fun a j h => by
  rw [am_w_r, am_w_r]
  by_cases e : a = 54
  · rw [if_pos e, if_pos e, if_neg (by omega), if_neg (by omega)]
  · rw [if_neg e, if_neg e]
theorem nbw {k : Int32} (hk : ¬ k = 0) : ¬ am_w (am_w ivm 54 25 k) 54 26 (ivm 54 23) 54 25 = 0 := by simp [am_w_r]; exact hk
/-- a number seen on both sides -/
theorem S_see {lo hi : Nat} (hx : TX τ n) (h : TR t ivc ivm τ n ty fi be) (ht : 89 ≤ t) (hrr : 89 ≤ rr) (hr : rr ≠ t) (hlo : lo < 10000) (hhi : hi < 10000) :
    (∃ v, lo ≤ v ∧ v ≤ hi ∧ ty = 2 ∧ F_X1_seeNumber w t rr xr (nI lo) (nI hi) ivc = some (1, am_w ivc rr 6 (nI v)) ∧ F_X10_numberNow (nI lo) (nI hi) ivm = some (nI v, ivm)) ∨
    (∃ ivc' ivm', F_X1_seeNumber w t rr xr (nI lo) (nI hi) ivc = some (0, ivc') ∧ F_X10_numberNow (nI lo) (nI hi) ivm = some (0, ivm') ∧ EE t ivc' ivm' ∧ fM ivm ivm') := by
  obtain ⟨h1, h2, h3, h4⟩ := h
  have hn := hx.1
  obtain ⟨n1, -, -⟩ := K_isNumber h1 h3
  have ety : (nI ty = 2) ↔ ty = 2 := am_eq (show ty < 65536 by have := h3.2.2.1; omega) (show 2 < 65536 by decide)
  unfold F_X1_seeNumber F_X10_numberNow
  rw [n1, am_o1_s, ifb, if_pos h4, h2.2.2.1]
  by_cases t2 : ty = 2
  · rw [if_pos (decide_eq_true t2), if_pos (ety.mpr t2), K_isTooLong hx h1 h3, am_o1_s, ifb, h2.2.2.2.1, h2.2.2.2.2.1, nI_sub h3.1, show (4 : Int32) = nI 4 from rfl, nlt (by omega) (by have := h3.1; have := h3.2.1; omega)]
    by_cases l4 : 4 < be - fi
    · rw [if_pos (decide_eq_true l4), if_pos l4]
      unfold J_X10_numberNow_54 J_X10_numberNow_59 F_X8_refuse
      rw [P_wrong h4, am_o1_s, if_neg (nbw (by decide)), am_o2_s, if_pos (Or.inl rfl)]
      exact Or.inr ⟨_, _, rfl, rfl, EE.of h1 h2 (by decide), fM.wr⟩
    · have e22 := h2.2.2.2.2.2.2 t2 (by omega)
      have hv := nv4 h3 t2 (show be - fi ≤ 4 by omega)
      rw [if_neg (by simp; omega), if_neg l4, e22, K_number hx h1 h3 t2 (by omega), am_o1_s, am_w_r, if_pos rfl, if_pos rfl]
      generalize hvv : nv τ fi (be - fi) = v at hv e22
      rw [nlt (by omega) (by omega), nlt (by omega) (by omega), nle (by omega) (by omega), nle (by omega) (by omega)]
      have fail : ∃ ivc' ivm', J_X1_seeNumber_65 w t rr xr (am_w ivc rr 6 (nI v)) = some (0, ivc') ∧ J_X10_numberNow_54 ivm = some (0, ivm') ∧ EE t ivc' ivm' ∧ fM ivm ivm' := by
        unfold J_X1_seeNumber_65 J_X10_numberNow_54 J_X10_numberNow_59 F_X8_refuse
        rw [P_wrong h4, am_o1_s, if_neg (nbw (by decide)), am_o2_s, if_pos rfl]
        exact ⟨_, _, rfl, rfl, EE.of (h1.fc hr ht hrr) h2 (by decide), fM.wr⟩
      by_cases c1 : v < lo
      · rw [if_pos c1, if_pos c1]; exact Or.inr fail
      · rw [if_neg c1, if_neg c1]
        by_cases c2 : v ≤ hi
        · rw [if_pos c2, if_pos c2]
          unfold J_X10_numberNow_59
          rw [if_pos h4, e22]
          exact Or.inl ⟨v, by omega, c2, t2, rfl, rfl⟩
        · rw [if_neg c2, if_neg c2]; exact Or.inr fail
  · rw [if_neg (by simp [t2]), if_neg (fun q => t2 (ety.mp q))]
    unfold J_X10_numberNow_59 F_X8_refuse
    rw [P_wrong h4, am_o1_s, if_neg (nbw (by decide)), am_o2_s, if_pos (Or.inl rfl)]
    exact Or.inr ⟨_, _, rfl, rfl, EE.of h1 h2 (by decide), fM.wr⟩
/-- a number read on both sides -/
theorem S_num {lo hi : Nat} (hx : TX τ n) (h : TR t ivc ivm τ n ty fi be) (ht : 89 ≤ t) (hrr : 89 ≤ rr) (hr : rr ≠ t) (hlo : lo < 10000) (hhi : hi < 10000) :
    (∃ v ivc' ivm' ty' fi' be', lo ≤ v ∧ v ≤ hi ∧ F_X1_readNumber w t rr xr (nI lo) (nI hi) ivc = some (1, ivc') ∧ F_X10_readNumber (nI lo) (nI hi) ivm = some (nI v, ivm') ∧ ivc' rr 6 = nI v ∧ TR t ivc' ivm' τ n ty' fi' be' ∧ fi < fi' ∧ fC t rr ivc ivc' ∧ fM ivm ivm') ∨
    (∃ ivc' ivm', F_X1_readNumber w t rr xr (nI lo) (nI hi) ivc = some (0, ivc') ∧ F_X10_readNumber (nI lo) (nI hi) ivm = some (0, ivm') ∧ EE t ivc' ivm' ∧ fM ivm ivm') := by
  have hr' : t ≠ rr := fun q => hr q.symm
  unfold F_X1_readNumber F_X10_readNumber
  rcases S_see (w := w) (xr := xr) hx h ht hrr hr hlo hhi with ⟨v, v1, v2, t2, e1, e2⟩ | ⟨ivc', ivm', e1, e2, e3, e4⟩
  · have h' : TR t (am_w ivc rr 6 (nI v)) ivm τ n ty fi be := ⟨h.1.fc hr ht hrr, h.2⟩
    obtain ⟨ivc1, ivm1, a1, a2, a3, a4, a5, a6⟩ := h'.adv hx ht t
    have hfb := (h.2.2.1.2.2.2.2.1 (by omega)).1
    rw [e1, e2, am_o2_s, am_o2_s, if_neg (by decide), if_pos h.2.2.2, a1, a2, am_o1_s, am_o1_s]
    refine Or.inl ⟨v, ivc1, ivm1, _, _, _, v1, v2, rfl, rfl, ?_, a3, by omega, fun a k ha hk => ?_, a6⟩
    · rw [a5 rr 6 hr (Or.inl hr), am_w_r, if_pos rfl, if_pos rfl]
    · rw [a5 a k ha (Or.inl ha), am_w_r]
      by_cases e : a = rr
      · rw [if_pos e, if_neg (by omega)]
      · rw [if_neg e]
  · rw [e1, e2, am_o2_s, am_o2_s, if_pos rfl, if_neg e3.1]
    exact Or.inr ⟨_, _, rfl, rfl, e3, e4⟩
theorem NB_now {lo hi : Int32} (hb : ¬ ivm 54 25 = 0) : F_X10_numberNow lo hi ivm = some (0, ivm) := by
  unfold F_X10_numberNow; rw [if_neg hb]
theorem NB_num {lo hi : Int32} (hb : ¬ ivm 54 25 = 0) : F_X10_readNumber lo hi ivm = some (0, ivm) := by
  unfold F_X10_readNumber; rw [NB_now hb, am_o2_s, if_neg hb]
theorem NB_pass {j : Nat} (hb : ¬ ivm 54 25 = 0) : F_X10_passes j ivm = some (0, ivm) := by
  unfold F_X10_passes; rw [P_isBad hb, am_o1_s, if_pos rfl, if_pos (Or.inl rfl)]
/-- a mark on both sides -/
theorem S_mark {k : Nat} (hx : TX τ n) (h : TR t ivc ivm τ n ty fi be) (ht : 89 ≤ t) (hk : k < 128) :
    (∃ ivc' ivm' ty' fi' be', F_X1_readSign w t rr xr (nI k) ivc = some (1, ivc') ∧ F_X10_mark (nI k) ivm = some ivm' ∧ TR t ivc' ivm' τ n ty' fi' be' ∧ fi < fi' ∧ fC t rr ivc ivc' ∧ fM ivm ivm') ∨
    (∃ ivc' ivm', F_X1_readSign w t rr xr (nI k) ivc = some (0, ivc') ∧ F_X10_mark (nI k) ivm = some ivm' ∧ EE t ivc' ivm' ∧ fM ivm ivm') := by
  unfold F_X1_readSign F_X10_mark J_X10_mark_20
  rw [K_isSign hx h.1 h.2.2.1 hk, am_o1_s, ifb, if_pos h.2.2.2, P_isMarked hx h.2.1 h.2.2.1 hk h.2.2.2, am_o1_s, ifb]
  cases z : iss τ ty fi k with
  | true =>
    obtain ⟨ivc1, ivm1, a1, a2, a3, a4, a5, a6⟩ := h.adv hx ht rr
    have hfb := (h.2.2.1.2.2.2.2.1 (by rw [iss_ty z]; decide)).1
    rw [if_pos rfl, if_pos rfl, a1, am_o1_s, if_pos h.2.2.2, a2, am_o1_s]
    exact Or.inl ⟨ivc1, ivm1, _, _, _, rfl, rfl, a3, by omega, a5, a6⟩
  | false =>
    unfold F_X8_refuse
    rw [if_neg (by decide), if_neg (by decide), am_o2_s, if_pos (Or.inl rfl), P_wrong h.2.2.2, am_o1_s, if_neg (nbw (by decide))]
    exact Or.inr ⟨_, _, rfl, rfl, EE.of h.1 h.2.1 (by decide), fM.wr⟩
end B79
