/-! words, signs, numbers on both sides -/
def wb (j : Nat) : List Nat := (am_by.getD j []).map (fun x => x.toNatClampNeg)
theorem wb_len (j : Nat) : (wb j).length = (am_by.getD j []).length := by unfold wb; simp
theorem wb_by : ∀ j, j < 58 → ∀ i, i < (am_by.getD j []).length → (am_by.getD j []).getD i 0 = nI ((wb j).getD i 0) ∧ (wb j).getD i 0 < 128 := by decide +kernel
def mism (τ : Nat → Nat) (fi : Nat) (l : List Nat) (i : Nat) : Bool := !decide (τ (fi + i) = l.getD i 0)
def isw (τ : Nat → Nat) (ty fi be : Nat) (l : List Nat) : Bool := decide (ty = 1) && (decide (be - fi = l.length) && !cy_any (mism τ fi l) l.length)
def iss (τ : Nat → Nat) (ty fi k : Nat) : Bool := decide (ty = 3) && decide (τ fi = k)
section B72
variable {iv : am_I} {τ : Nat → Nat} {n t ty fi be : Nat}
theorem K_isWord {j : Nat} (hx : TX τ n) (h : cT t iv τ n ty fi be) (hk : TK τ n ty fi be) (hj : j < 58) : F_X8_isWord t j iv = some (am_bi (isw τ ty fi be (wb j))) := by
  obtain ⟨h0, h1, h2, h3, h4⟩ := h
  have hn := hx.1
  obtain ⟨k1, k2, k3, -⟩ := hk
  have hl := am_bysm j hj
  unfold F_X8_isWord isw
  rw [h2, h3, h4, nI_sub k1, ← wb_len]
  rw [← wb_len] at hl
  by_cases e1 : ty = 1
  · rw [if_pos (show nI ty = 1 by rw [e1]; rfl), neq (by omega) (by omega)]
    by_cases e2 : be - fi = (wb j).length
    · rw [if_pos e2]
      have l : am_loop (fun s : (Int32) => B_X8_isWord_28 t j iv s) 0 = some (if cy_any (mism τ fi (wb j)) (wb j).length then .inr 0 else .inl ()) := by
        refine am_loop_any (by omega) (fun i hi => ?_) ?_
        · obtain ⟨w1, w2⟩ := wb_by j hj i (by rw [← wb_len]; exact hi)
          unfold B_X8_isWord_28
          rw [← wb_len, nle (by omega) (by omega), if_neg (by omega), h3, nI_add, if_pos (vb (show fi + i < 700 by omega) (by decide)), if_pos (vb hi (by omega)), am_cl (by omega), am_cl (by omega), w1, h0 _ (by omega), nI_1]
          have hs := sgn_i (hx.2 (fi + i)) w2
          unfold mism
          by_cases z : τ (fi + i) = (wb j).getD i 0
          · rw [if_pos (hs.mpr z), show (!decide (τ (fi + i) = (wb j).getD i 0)) = false by rw [decide_eq_true z]; rfl, if_neg (by decide)]
          · rw [if_neg (fun q => z (hs.mp q)), show (!decide (τ (fi + i) = (wb j).getD i 0)) = true by rw [decide_eq_false z]; rfl, if_pos rfl]
        · unfold B_X8_isWord_28
          rw [← wb_len, if_pos (Int32.le_refl _)]
      rw [l]
      cases cy_any (mism τ fi (wb j)) (wb j).length <;> simp [e1, e2, am_lp, am_bi]
    · rw [if_neg e2]; simp [e2, am_bi]
  · rw [if_neg (show ¬ nI ty = 1 from fun q => e1 ((am_eq (by omega) (by decide)).mp q))]; simp [e1, am_bi]
theorem P_is0 {j : Nat} : J_X10_is_36 j 0 iv = some 0 := by
  unfold J_X10_is_36
  have l : am_loop (fun s : (Int32 × Int32) => B_X10_is_39 j iv s.1 s.2) ((0 : Int32), (0 : Int32)) = some 0 := by
    refine am_loop_seq (fun _ => ((0 : Int32), (0 : Int32))) 0 (by omega) rfl (fun z hz => absurd hz (Nat.not_lt_zero _)) ?_
    show B_X10_is_39 j iv 0 0 = _
    unfold B_X10_is_39
    rw [if_pos rfl]
  rw [l, am_o1_s, if_pos (Or.inl rfl)]
theorem P_isBad {j : Nat} (hb : ¬ iv 54 25 = 0) : F_X10_is j iv = some 0 := by
  unfold F_X10_is J_X10_is_35
  rw [if_neg hb, P_is0]
theorem P_is {j : Nat} (hx : TX τ n) (h : mT iv τ n ty fi be) (hk : TK τ n ty fi be) (hj : j < 58) (hb : iv 54 25 = 0) : F_X10_is j iv = some (am_bi (isw τ ty fi be (wb j))) := by
  obtain ⟨h0, h1, h2, h3, h4, -⟩ := h
  have hn := hx.1
  obtain ⟨k1, k2, k3, -⟩ := hk
  have hl := am_bysm j hj
  unfold F_X10_is isw J_X10_is_35
  rw [hb, if_pos rfl, h2, h3, h4, nI_sub k1, ← wb_len, P_is0]
  rw [← wb_len] at hl
  by_cases e1 : ty = 1
  · rw [if_pos (show nI ty = 1 by rw [e1]; rfl), neq (by omega) (by omega)]
    by_cases e2 : be - fi = (wb j).length
    · rw [if_pos e2.symm]
      have l : ∃ x, am_loop (fun s : (Int32 × Int32) => B_X10_is_39 j iv s.1 s.2) ((1 : Int32), (0 : Int32)) = some x ∧ x = am_bi (!cy_any (mism τ fi (wb j)) (wb j).length) := by
        refine am_loop_n (fun m s => s.2 = nI m ∧ ((s.1 = 1 ∧ ∀ i, i < m → mism τ fi (wb j) i = false) ∨ (s.1 = 0 ∧ ∃ i, i < m ∧ i < (wb j).length ∧ mism τ fi (wb j) i = true))) ((wb j).length) (by omega) ?_ ?_ _ ⟨rfl, Or.inl ⟨rfl, fun i hi => absurd hi (Nat.not_lt_zero _)⟩⟩
        · rintro m ⟨s1, s2⟩ hm ⟨a1, a2⟩
          dsimp only at a1 a2
          subst a1
          show (∃ s', B_X10_is_39 j iv s1 (nI m) = _ ∧ _) ∨ (∃ s', B_X10_is_39 j iv s1 (nI m) = _ ∧ _)
          unfold B_X10_is_39 J_X10_is_75
          rcases a2 with ⟨rfl, a3⟩ | ⟨rfl, i, i1, i2, i3⟩
          · left
            obtain ⟨w1, w2⟩ := wb_by j hj m (by rw [← wb_len]; exact hm)
            rw [if_neg (by decide), ← wb_len, nle (by omega) (by omega), if_neg (by omega), if_pos (vb hm (by omega)), h3, nI_add, if_pos (vb (show fi + m < 700 by omega) (by decide)), am_cl (by omega), am_cl (by omega), w1, h0 _ (by omega)]
            have hb := hx.2 (fi + m)
            rw [neq (by omega) (by omega)]
            by_cases z : τ (fi + m) = (wb j).getD m 0
            · rw [if_pos z.symm]
              refine ⟨_, rfl, nI_1 m, Or.inl ⟨rfl, fun i hi => ?_⟩⟩
              by_cases e : i = m
              · rw [e]; unfold mism; rw [decide_eq_true z]; rfl
              · exact a3 i (by omega)
            · rw [if_neg (fun q => z q.symm)]
              exact ⟨_, rfl, nI_1 m, Or.inr ⟨rfl, m, by omega, hm, by unfold mism; rw [decide_eq_false z]; rfl⟩⟩
          · right
            rw [if_pos rfl]
            refine ⟨_, rfl, ?_⟩
            have : cy_any (mism τ fi (wb j)) (wb j).length = true := cy_any_iff.mpr ⟨i, i2, i3⟩
            rw [this]; rfl
        · rintro ⟨s1, s2⟩ ⟨a1, a2⟩
          dsimp only at a1 a2
          subst a1
          rcases a2 with ⟨rfl, a3⟩ | ⟨rfl, i, i1, i2, i3⟩
          · refine ⟨1, ?_, ?_⟩
            · show B_X10_is_39 j iv 1 (nI (wb j).length) = _
              unfold B_X10_is_39
              rw [if_neg (by decide), ← wb_len, if_pos (Int32.le_refl _)]
            · rw [cy_any_false.mpr a3]; rfl
          · refine ⟨0, ?_, ?_⟩
            · show B_X10_is_39 j iv 0 (nI (wb j).length) = _
              unfold B_X10_is_39
              rw [if_pos rfl]
            · rw [cy_any_iff.mpr ⟨i, i2, i3⟩]; rfl
      obtain ⟨x, l1, l2⟩ := l
      unfold J_X10_is_36
      rw [l1, am_o1_s, l2, if01]
      simp [e1, e2]
    · rw [if_neg (fun q => e2 q.symm)]; simp [e2, am_bi]
  · rw [if_neg (show ¬ nI ty = 1 from fun q => e1 ((am_eq (by omega) (by decide)).mp q))]; simp [e1, am_bi]
theorem K_isSign {k : Nat} (hx : TX τ n) (h : cT t iv τ n ty fi be) (hk : TK τ n ty fi be) (hk2 : k < 128) : F_X8_isSign t (nI k) iv = some (am_bi (iss τ ty fi k)) := by
  obtain ⟨h0, h1, h2, h3, h4⟩ := h
  have hn := hx.1
  obtain ⟨k1, k2, k3, k4, k5, -⟩ := hk
  unfold F_X8_isSign iss
  rw [h1, h2, h3]
  by_cases e1 : ty = 3
  · have := (k5 (by omega)).1
    have hs := sgn_i (hx.2 fi) hk2
    rw [if_pos (show nI ty = 3 by rw [e1]; rfl), nle (by omega) (by omega), if_neg (by omega), if_pos (vb (show fi < 700 by omega) (by decide)), am_cl (by omega), h0 _ (by omega)]
    by_cases z : τ fi = k
    · rw [if_pos (hs.mpr z)]; simp [e1, z, am_bi]
    · rw [if_neg (fun q => z (hs.mp q))]; simp [z, am_bi]
  · rw [if_neg (show ¬ nI ty = 3 from fun q => e1 ((am_eq (by omega) (by decide)).mp q))]; simp [e1, am_bi]
theorem P_isMarked {k : Nat} (hx : TX τ n) (h : mT iv τ n ty fi be) (hk : TK τ n ty fi be) (hk2 : k < 128) (hb : iv 54 25 = 0) : F_X10_isMarked (nI k) iv = some (am_bi (iss τ ty fi k)) := by
  obtain ⟨h0, h1, h2, h3, h4, -⟩ := h
  have hn := hx.1
  obtain ⟨k1, k2, k3, k4, k5, -⟩ := hk
  unfold F_X10_isMarked iss
  rw [hb, if_pos rfl, h2, h3]
  by_cases e1 : ty = 3
  · have := (k5 (by omega)).1
    have hb2 := hx.2 fi
    rw [if_pos (show nI ty = 3 by rw [e1]; rfl), if_pos (vb (show fi < 700 by omega) (by decide)), am_cl (by omega), h0 _ (by omega), neq (by omega) (by omega)]
    by_cases z : τ fi = k
    · rw [if_pos z]; simp [e1, z, am_bi]
    · rw [if_neg z]; simp [z, am_bi]
  · rw [if_neg (show ¬ nI ty = 3 from fun q => e1 ((am_eq (by omega) (by decide)).mp q))]; simp [e1, am_bi]
theorem P_isMarkedBad {k : Int32} (hb : ¬ iv 54 25 = 0) : F_X10_isMarked k iv = some 0 := by
  unfold F_X10_isMarked; rw [if_neg hb]
theorem K_isNumber (h : cT t iv τ n ty fi be) (hk : TK τ n ty fi be) : F_X8_isNumber t iv = some (am_bi (decide (ty = 2))) ∧ F_X8_isAnyWord t iv = some (am_bi (decide (ty = 1))) ∧ F_X8_isEnd t iv = some (am_bi (decide (ty = 0))) := by
  have k3 := hk.2.2.1
  unfold F_X8_isNumber F_X8_isAnyWord F_X8_isEnd
  rw [h.2.2.1, ifbi, ifbi, ifbi]
  have e : ∀ k, k < 10 → decide (nI ty = nI k) = decide (ty = k) := fun k hk => by rw [decide_eq_decide]; exact am_eq (by omega) (by omega)
  exact ⟨by rw [show (2 : Int32) = nI 2 from rfl, e 2 (by decide)], by rw [show (1 : Int32) = nI 1 from rfl, e 1 (by decide)], by rw [show (0 : Int32) = nI 0 from rfl, e 0 (by decide)]⟩
theorem K_isTooLong (hx : TX τ n) (h : cT t iv τ n ty fi be) (hk : TK τ n ty fi be) : F_X8_isTooLong t iv = some (am_bi (decide (4 < be - fi))) := by
  have hn := hx.1
  obtain ⟨k1, k2, -⟩ := hk
  unfold F_X8_isTooLong
  rw [h.2.2.2.1, h.2.2.2.2, nI_sub k1, show (4 : Int32) = nI 4 from rfl, nle (by omega) (by omega)]
  by_cases z : be - fi ≤ 4
  · rw [if_pos z]; simp [show ¬ 4 < be - fi by omega, am_bi]
  · rw [if_neg z]; simp [show 4 < be - fi by omega, am_bi]
theorem K_number (hx : TX τ n) (h : cT t iv τ n ty fi be) (hk : TK τ n ty fi be) (h2 : ty = 2) (h4 : be - fi ≤ 4) : F_X8_number t iv = some (nI (nv τ fi (be - fi))) := by
  have hn := hx.1
  obtain ⟨k1, k2, k3, k4, k5, k6⟩ := hk
  have l : am_loop (fun s : (Int32 × Int32) => B_X8_number_7 t iv s.1 s.2) ((0 : Int32), nI fi) = some (nI (nv τ fi (be - fi))) := by
    refine am_loop_seq (fun i => (nI (nv τ fi i), nI (fi + i))) (be - fi) (by omega) rfl (fun i hi => ?_) ?_
    · obtain ⟨z1, z2⟩ := tyb2 (k6 h2 (fi + i) (by omega) (by omega))
      show B_X8_number_7 _ _ (nI (nv τ fi i)) (nI (fi + i)) = some (Sum.inl (nI (10 * nv τ fi i + (τ (fi + i) - 48)), nI (fi + (i + 1))))
      unfold B_X8_number_7
      rw [h.2.2.2.2, nle (by omega) (by omega), if_neg (by omega), if_pos (vb (show fi + i < 700 by omega) (by decide)), am_cl (by omega), h.1 _ (by omega), sgn_lo _ (by omega), show (10 : Int32) = nI 10 from rfl, nI_mul, nI_add, show (48 : Int32) = nI 48 from rfl, nI_sub (by omega), nI_1, Nat.add_assoc]
      congr 4
      omega
    · show B_X8_number_7 _ _ _ (nI (fi + (be - fi))) = _
      unfold B_X8_number_7
      rw [h.2.2.2.2, show fi + (be - fi) = be by omega, if_pos (Int32.le_refl _)]
  unfold F_X8_number
  rw [h.2.2.2.1, l, am_o1_s]
theorem nv4 (hk : TK τ n ty fi be) (h2 : ty = 2) (h4 : be - fi ≤ 4) : nv τ fi (be - fi) < 10000 := by
  have h := nv_lt (τ := τ) (a := fi) (be - fi) (fun i hi => hk.2.2.2.2.2 h2 (fi + i) (by omega) (by omega))
  have h3 : 10 ^ (be - fi) ≤ 10 ^ 4 := Nat.pow_le_pow_right (by decide) h4
  omega
/-- the first of some words, or none -/
theorem P_which {aa m : Nat} {f : Nat → Nat} (hx : TX τ n) (h : mT iv τ n ty fi be) (hk : TK τ n ty fi be) (hb : iv 54 25 = 0) (hm : m < 10) (hf : ∀ i, i < m → am_lref aa i = some (f i) ∧ f i < 58) : F_X10_which aa m iv = some (cy_enc m (cy_fst (fun i => isw τ ty fi be (wb (f i))) m)) := by
  have l : ∃ x, am_loop (fun s : (Int32) => B_X10_which_2 aa m iv s) 0 = some x ∧ ((x = .inl () ∧ cy_fst (fun i => isw τ ty fi be (wb (f i))) m = m) ∨ ∃ k, k < m ∧ x = .inr (nI k) ∧ cy_fst (fun i => isw τ ty fi be (wb (f i))) m = k) := by
    refine am_loop_n (fun k s => s = nI k ∧ ∀ i, i < k → isw τ ty fi be (wb (f i)) = false) m (by omega) ?_ ?_ _ ⟨rfl, fun i hi => absurd hi (Nat.not_lt_zero _)⟩
    · rintro k s hk' ⟨rfl, a2⟩
      obtain ⟨f1, f2⟩ := hf k hk'
      unfold B_X10_which_2
      rw [show Int32.ofNat m = nI m from rfl, nle (by omega) (by omega), if_neg (by omega), if_pos (vb hk' (by omega)), am_cl (by omega), f1, am_o1_s, P_is hx h hk f2 hb, am_o1_s, ifb]
      cases z : isw τ ty fi be (wb (f k)) with
      | true =>
        right
        rw [if_pos rfl]
        exact ⟨_, rfl, Or.inr ⟨k, hk', rfl, (cy_fst_u (by omega) a2 (fun _ => z)).symm⟩⟩
      | false =>
        left
        rw [if_neg (by decide)]
        refine ⟨_, rfl, nI_1 k, fun i hi => ?_⟩
        by_cases e : i = k
        · rw [e]; exact z
        · exact a2 i (by omega)
    · rintro s ⟨rfl, a2⟩
      unfold B_X10_which_2
      rw [show Int32.ofNat m = nI m from rfl, if_pos (Int32.le_refl _)]
      exact ⟨_, rfl, Or.inl ⟨rfl, (cy_fst_u (Nat.le_refl _) a2 (fun q => absurd q (Nat.lt_irrefl _))).symm⟩⟩
  obtain ⟨x, l1, l2⟩ := l
  unfold F_X10_which cy_enc
  rw [l1]
  rcases l2 with ⟨rfl, l3⟩ | ⟨k, k1, rfl, l3⟩
  · rw [l3, if_neg (Nat.lt_irrefl _)]; rfl
  · rw [l3, if_pos k1]; rfl
theorem P_whichBad {aa m : Nat} {f : Nat → Nat} (hb : ¬ iv 54 25 = 0) (hm : m < 10) (hf : ∀ i, i < m → am_lref aa i = some (f i)) : F_X10_which aa m iv = some (-1) := by
  have l : am_loop (fun s : (Int32) => B_X10_which_2 aa m iv s) 0 = some (.inl ()) := by
    refine am_loop_seq (fun i => nI i) m (by omega) rfl (fun k hk => ?_) ?_
    · show B_X10_which_2 _ _ _ (nI k) = _
      unfold B_X10_which_2
      rw [show Int32.ofNat m = nI m from rfl, nle (by omega) (by omega), if_neg (by omega), if_pos (vb hk (by omega)), am_cl (by omega), hf k hk, am_o1_s, P_isBad hb, am_o1_s, if_pos rfl, nI_1]
    · show B_X10_which_2 _ _ _ (nI m) = _
      unfold B_X10_which_2
      rw [show Int32.ofNat m = nI m from rfl, if_pos (Int32.le_refl _)]
  unfold F_X10_which
  rw [l]; rfl
end B72
