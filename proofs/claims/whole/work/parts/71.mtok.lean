/-! the tokens, by the model -/
theorem am_wid (iv : am_I) {a k : Nat} {x : Int32} (h : iv a k = x) : am_w iv a k x = iv := by
  funext b j
  rw [am_w_r]
  by_cases e : b = a
  · subst e
    by_cases e2 : j = k
    · subst e2; simp [h]
    · simp [e2]
  · simp [e]
section B71
variable {iv : am_I} {τ : Nat → Nat} {n q : Nat}
theorem P_byteAt {i : Nat} (hx : TX τ n) (htx : ∀ i, i < n → iv 71 i = nI (τ i)) (h20 : iv 54 20 = nI n) (hi : i ≤ n) : F_X10_byteAt (nI i) iv = some (if i < n then nI (τ i) else -1) := by
  have hn := hx.1
  unfold F_X10_byteAt
  rw [h20, nle (by omega) (by omega)]
  by_cases e : i < n
  · rw [if_neg (by omega), if_pos (vb (show i < 700 by omega) (by decide)), am_cl (by omega), htx i e, if_pos e]
  · rw [if_pos (by omega), if_neg e]
theorem run_s {ty : Nat} (h : q < n) (h1 : tyb (τ q) = ty) : run τ n q ty = run τ n (q + 1) ty := by
  obtain ⟨g1, g2, g3⟩ := cy_fst_s (fun i => !decide (tyb (τ (q + 1 + i)) = ty)) (n - (q + 1))
  unfold run
  have : cy_fst (fun i => !decide (tyb (τ (q + 1 + i)) = ty)) (n - (q + 1)) + 1 = cy_fst (fun i => !decide (tyb (τ (q + i)) = ty)) (n - q) := by
    refine cy_fst_u (by omega) (fun j hj => ?_) (fun hj => ?_)
    · by_cases e : j = 0
      · subst e; simp [h1]
      · have := g2 (j - 1) (by omega)
        rw [show q + 1 + (j - 1) = q + j by omega] at this
        exact this
    · have := g3 (by omega)
      rw [show q + 1 + cy_fst (fun i => !decide (tyb (τ (q + 1 + i)) = ty)) (n - (q + 1)) = q + (cy_fst (fun i => !decide (tyb (τ (q + 1 + i)) = ty)) (n - (q + 1)) + 1) by omega] at this
      exact this
  omega
/-- a number's value, at most 100000 -/
def nc (τ : Nat → Nat) (a : Nat) : Nat → Nat
  | 0 => 0
  | k + 1 => min 100000 (10 * nc τ a k + (τ (a + k) - 48))
theorem nc_le (a : Nat) : ∀ k, nc τ a k ≤ 100000
  | 0 => by show 0 ≤ _; omega
  | k + 1 => Nat.min_le_left _ _
theorem nc_nv {a : Nat} : ∀ k, k ≤ 4 → (∀ i, i < k → tyb (τ (a + i)) = 2) → nc τ a k = nv τ a k
  | 0, _, _ => rfl
  | k + 1, hk, h => by
    have h1 := nc_nv k (by omega) (fun i hi => h i (by omega))
    have h2 := nv_lt (k + 1) h
    have h3 : 10 ^ (k + 1) ≤ 10 ^ 4 := Nat.pow_le_pow_right (by decide) hk
    have h2' : 10 * nv τ a k + (τ (a + k) - 48) < 10 ^ (k + 1) := h2
    show min 100000 (10 * nc τ a k + (τ (a + k) - 48)) = 10 * nv τ a k + (τ (a + k) - 48)
    rw [h1]
    omega
theorem P_stepOn (hx : TX τ n) (htx : ∀ i, i < n → iv 71 i = nI (τ i)) (h20 : iv 54 20 = nI n) (h19 : iv 54 19 = nI q) (hq : q ≤ n) : ∃ iv', F_X10_stepOn iv = some iv' ∧ mT iv' τ n (tkt τ n q) (skp τ n q) (tkb τ n q) := by
  have hn := hx.1
  obtain ⟨k1, k2⟩ := skp_le (τ := τ) hq
  have l1 : am_loop (fun s : (am_I) => B_X10_stepOn_0 s) iv = some (am_w iv 54 19 (nI (skp τ n q))) := by
    refine am_loop_fs (fun i => am_w iv 54 19 (nI (q + i))) (fun i => am_w iv 54 19 (nI (q + i))) (p := fun i => !blk (τ (q + i))) (m := n - q) (by omega) (fun i hi => ?_) ?_ (am_wid _ h19).symm
    · have hb := hx.2 (q + i)
      have w71 : ∀ z, am_w iv 54 19 (nI (q + i)) 71 z = iv 71 z := fun z => by rw [am_w_other _ _ _ (by decide)]
      have w20 : am_w iv 54 19 (nI (q + i)) 54 20 = nI n := by rw [am_w_r, if_pos rfl, if_neg (by decide)]; exact h20
      have w19 : am_w iv 54 19 (nI (q + i)) 54 19 = nI (q + i) := by rw [am_w_r, if_pos rfl, if_pos rfl]
      show B_X10_stepOn_0 (am_w iv 54 19 (nI (q + i))) = _
      unfold B_X10_stepOn_0 J_X10_stepOn_26
      rw [w19, P_byteAt hx (fun z hz => by rw [w71]; exact htx z hz) w20 (by omega), am_o1_s, if_pos (show q + i < n by omega), am_o1_s, nI_1, am_ww]
      unfold blk
      by_cases a1 : τ (q + i) = 32
      · rw [if_pos (show nI (τ (q + i)) = 32 by rw [a1]; rfl)]; simp [a1, Nat.add_assoc]
      · rw [if_neg (show ¬ nI (τ (q + i)) = 32 from fun z => a1 ((am_eq (by omega) (by decide)).mp z))]
        by_cases a2 : τ (q + i) = 10
        · rw [if_pos (show nI (τ (q + i)) = 10 by rw [a2]; rfl)]; simp [a2, Nat.add_assoc]
        · rw [if_neg (show ¬ nI (τ (q + i)) = 10 from fun z => a2 ((am_eq (by omega) (by decide)).mp z))]; simp [a1, a2]
    · show B_X10_stepOn_0 (am_w iv 54 19 (nI (q + (n - q)))) = _
      have w71 : ∀ z, am_w iv 54 19 (nI (q + (n - q))) 71 z = iv 71 z := fun z => by rw [am_w_other _ _ _ (by decide)]
      have w20 : am_w iv 54 19 (nI (q + (n - q))) 54 20 = nI n := by rw [am_w_r, if_pos rfl, if_neg (by decide)]; exact h20
      have w19 : am_w iv 54 19 (nI (q + (n - q))) 54 19 = nI (q + (n - q)) := by rw [am_w_r, if_pos rfl, if_pos rfl]
      unfold B_X10_stepOn_0
      rw [w19, P_byteAt hx (fun z hz => by rw [w71]; exact htx z hz) w20 (by omega), am_o1_s, if_neg (show ¬ q + (n - q) < n by omega), if_neg (by decide), am_o1_s, if_neg (by decide)]
  unfold F_X10_stepOn
  rw [l1, am_o1_s]
  generalize hf : skp τ n q = fi at k1 k2 ⊢
  have e19 : am_w iv 54 19 (nI fi) 54 19 = nI fi := by rw [am_w_r, if_pos rfl, if_pos rfl]
  rw [e19]
  generalize hv : am_w (am_w iv 54 19 (nI fi)) 54 23 (nI fi) = iv2
  have v : ∀ a j, iv2 a j = if a = 54 then (if j = 23 then nI fi else if j = 19 then nI fi else iv 54 j) else iv a j := by
    intro a j
    rw [← hv, am_w_r, am_w_r]
    by_cases ha : a = 54
    · subst ha; simp
    · simp [ha]
  have v19 : iv2 54 19 = nI fi := by rw [v]; simp
  have v20 : iv2 54 20 = nI n := by rw [v]; simp; exact h20
  have v71 : ∀ i, i < n → iv2 71 i = nI (τ i) := fun i hi => by rw [v]; simp; exact htx i hi
  rw [v19, P_byteAt hx v71 v20 k2, am_o1_s]
  by_cases lt : fi < n
  · have hb := hx.2 fi
    have hty : tkt τ n q = tyb (τ fi) := by unfold tkt; rw [hf, if_pos lt]
    have h4 := tyb_le (τ fi)
    rw [if_pos lt, if_neg (show ¬ nI (τ fi) = -1 from cy_m1 (by omega))]
    unfold F_X10_isLetter F_X10_isDigit F_X10_isMark
    rw [tyb_let _ hb, am_o1_s, ifb, tyb_dig _ hb, am_o1_s, ifb]
    have hbe : tkb τ n q = if tyb (τ fi) = 1 ∨ tyb (τ fi) = 2 then run τ n (fi + 1) (tyb (τ fi)) else fi + 1 := by unfold tkb; rw [hf, if_pos lt, hty]
    by_cases t1 : tyb (τ fi) = 1
    · rw [if_pos (by simp [t1])]
      have l2 : am_loop (fun s : (am_I) => B_X10_stepOn_76 s) iv2 = some (am_w iv2 54 19 (nI (run τ n fi 1))) := by
        refine am_loop_fs (fun i => am_w iv2 54 19 (nI (fi + i))) (fun i => am_w iv2 54 19 (nI (fi + i))) (p := fun i => !decide (tyb (τ (fi + i)) = 1)) (m := n - fi) (by omega) (fun i hi => ?_) ?_ (am_wid _ v19).symm
        · have hb := hx.2 (fi + i)
          have w71 : ∀ z, am_w iv2 54 19 (nI (fi + i)) 71 z = iv2 71 z := fun z => by rw [am_w_other _ _ _ (by decide)]
          have w20 : am_w iv2 54 19 (nI (fi + i)) 54 20 = nI n := by rw [am_w_r, if_pos rfl, if_neg (by decide)]; exact v20
          have w19 : am_w iv2 54 19 (nI (fi + i)) 54 19 = nI (fi + i) := by rw [am_w_r, if_pos rfl, if_pos rfl]
          show B_X10_stepOn_76 (am_w iv2 54 19 (nI (fi + i))) = _
          unfold B_X10_stepOn_76 F_X10_isLetter
          rw [w19, P_byteAt hx (fun z hz => by rw [w71]; exact v71 z hz) w20 (by omega), am_o1_s, if_pos (show fi + i < n by omega), tyb_let _ hb, am_o1_s, ifb, nI_1, am_ww]
          by_cases z : tyb (τ (fi + i)) = 1 <;> simp [z, Nat.add_assoc]
        · have w71 : ∀ z, am_w iv2 54 19 (nI (fi + (n - fi))) 71 z = iv2 71 z := fun z => by rw [am_w_other _ _ _ (by decide)]
          have w20 : am_w iv2 54 19 (nI (fi + (n - fi))) 54 20 = nI n := by rw [am_w_r, if_pos rfl, if_neg (by decide)]; exact v20
          have w19 : am_w iv2 54 19 (nI (fi + (n - fi))) 54 19 = nI (fi + (n - fi)) := by rw [am_w_r, if_pos rfl, if_pos rfl]
          show B_X10_stepOn_76 (am_w iv2 54 19 (nI (fi + (n - fi)))) = _
          unfold B_X10_stepOn_76 F_X10_isLetter
          rw [w19, P_byteAt hx (fun z hz => by rw [w71]; exact v71 z hz) w20 (by omega), am_o1_s, if_neg (show ¬ fi + (n - fi) < n by omega), if_pos (show (-1 : Int32) < 97 by decide), am_o1_s, if_pos rfl]
      rw [l2, am_o1_s]
      unfold J_X10_stepOn_212
      rw [hbe, if_pos (Or.inl t1), t1, ← run_s lt t1, hty, t1]
      refine ⟨_, rfl, fun i hi => ?_, ?_, ?_, ?_, ?_, ?_, fun q => absurd q (by decide)⟩
      · simp [am_w_r]; exact v71 i hi
      · simp [am_w_r]; exact v20
      · simp [am_w_r]; rfl
      · simp [am_w_r]; rw [v]; simp
      · simp [am_w_r]
      · simp [am_w_r]
    · rw [if_neg (by simp [t1])]
      by_cases t2 : tyb (τ fi) = 2
      · rw [if_pos (by simp [t2])]
        have l2 : am_loop (fun s : (am_I) => B_X10_stepOn_123 s) (am_w iv2 54 22 0) = some (am_w (am_w iv2 54 22 (nI (nc τ fi (run τ n fi 2 - fi)))) 54 19 (nI (run τ n fi 2))) := by
          have hxr : (fun i => am_w (am_w iv2 54 22 (nI (nc τ fi i))) 54 19 (nI (fi + i))) (cy_fst (fun i => !decide (tyb (τ (fi + i)) = 2)) (n - fi)) = am_w (am_w iv2 54 22 (nI (nc τ fi (run τ n fi 2 - fi)))) 54 19 (nI (run τ n fi 2)) := by
            unfold run
            rw [Nat.add_sub_cancel_left]
          rw [← hxr]
          refine am_loop_fs (fun i => am_w (am_w iv2 54 22 (nI (nc τ fi i))) 54 19 (nI (fi + i))) (fun i => am_w (am_w iv2 54 22 (nI (nc τ fi i))) 54 19 (nI (fi + i))) (p := fun i => !decide (tyb (τ (fi + i)) = 2)) (m := n - fi) (by omega) (fun i hi => ?_) ?_ ?_
          · have hb := hx.2 (fi + i)
            generalize hw : am_w (am_w iv2 54 22 (nI (nc τ fi i))) 54 19 (nI (fi + i)) = iw
            have w71 : ∀ z, iw 71 z = iv2 71 z := fun z => by rw [← hw, am_w_other _ _ _ (by decide), am_w_other _ _ _ (by decide)]
            have w20 : iw 54 20 = nI n := by rw [← hw]; simp [am_w_r]; exact v20
            have w19 : iw 54 19 = nI (fi + i) := by rw [← hw]; simp [am_w_r]
            have w22 : iw 54 22 = nI (nc τ fi i) := by rw [← hw]; simp [am_w_r]
            show B_X10_stepOn_123 iw = _
            unfold B_X10_stepOn_123 F_X10_isDigit
            rw [w19, P_byteAt hx (fun z hz => by rw [w71]; exact v71 z hz) w20 (by omega), am_o1_s, if_pos (show fi + i < n by omega), tyb_dig _ hb, am_o1_s, ifb, am_o1_s, w22]
            by_cases z : tyb (τ (fi + i)) = 2
            · rw [if_pos (by simp [z])]
              obtain ⟨z1, z2⟩ := tyb2 z
              have hncl := nc_le (τ := τ) fi i
              have ec : (10 : Int32) * nI (nc τ fi i) + nI (τ (fi + i)) - 48 = nI (10 * nc τ fi i + (τ (fi + i) - 48)) := by
                rw [show (10 : Int32) = nI 10 from rfl, nI_mul, nI_add, show (48 : Int32) = nI 48 from rfl, nI_sub (by omega)]
                congr 1; omega
              have em : (if nI (10 * nc τ fi i + (τ (fi + i) - 48)) < (100000 : Int32) then nI (10 * nc τ fi i + (τ (fi + i) - 48)) else (100000 : Int32)) = nI (nc τ fi (i + 1)) := by
                rw [show (100000 : Int32) = nI 100000 from rfl]
                show _ = nI (min 100000 (10 * nc τ fi i + (τ (fi + i) - 48)))
                by_cases l : 10 * nc τ fi i + (τ (fi + i) - 48) < 100000
                · rw [if_pos (nI_lt l (by decide))]; congr 1; omega
                · rw [if_neg (nI_nlt (by omega) (by omega))]; congr 1; omega
              rw [ec, em, show (!decide (tyb (τ (fi + i)) = 2)) = false by simp [z], if_neg (by decide)]
              congr 2
              rw [← hw]
              funext a j
              simp only [am_w_r]
              by_cases ha : a = 54
              · subst ha
                by_cases j19 : j = 19
                · subst j19
                  simp
                  rw [nI_1, Nat.add_assoc]
                · by_cases j22 : j = 22
                  · subst j22; simp
                  · simp [j19, j22]
              · simp [ha]
            · rw [if_neg (by simp [z])]; simp [z]
          · generalize hw : am_w (am_w iv2 54 22 (nI (nc τ fi (n - fi)))) 54 19 (nI (fi + (n - fi))) = iw
            have w71 : ∀ z, iw 71 z = iv2 71 z := fun z => by rw [← hw, am_w_other _ _ _ (by decide), am_w_other _ _ _ (by decide)]
            have w20 : iw 54 20 = nI n := by rw [← hw]; simp [am_w_r]; exact v20
            have w19 : iw 54 19 = nI (fi + (n - fi)) := by rw [← hw]; simp [am_w_r]
            show B_X10_stepOn_123 iw = _
            unfold B_X10_stepOn_123 F_X10_isDigit
            rw [w19, P_byteAt hx (fun z hz => by rw [w71]; exact v71 z hz) w20 (by omega), am_o1_s, if_neg (show ¬ fi + (n - fi) < n by omega), if_pos (show (-1 : Int32) < 48 by decide), am_o1_s, if_pos rfl]
          · show am_w iv2 54 22 0 = am_w (am_w iv2 54 22 (nI 0)) 54 19 (nI (fi + 0))
            refine (am_wid _ ?_).symm
            simp [am_w_r]; exact v19
        rw [l2, am_o1_s]
        unfold J_X10_stepOn_212
        rw [hbe, if_pos (Or.inr t2), t2, ← run_s lt t2, hty, t2]
        obtain ⟨r1, r2⟩ := run_le (τ := τ) (ty := 2) (show fi ≤ n by omega)
        refine ⟨_, rfl, fun i hi => ?_, ?_, ?_, ?_, ?_, ?_, fun _ h4 => ?_⟩
        · simp [am_w_r]; exact v71 i hi
        · simp [am_w_r]; exact v20
        · simp [am_w_r]; rfl
        · simp [am_w_r]; rw [v]; simp
        · simp [am_w_r]
        · simp [am_w_r]
        · simp [am_w_r]
          rw [nc_nv _ h4 (fun i hi => run_all (q := fi) (by omega) (show fi + i < run τ n fi 2 by omega))]
      · rw [if_neg (by simp [t2]), tyb_mar _ hb t1 t2, am_o1_s, ifb]
        unfold J_X10_stepOn_209 J_X10_stepOn_212
        have hty34 : tyb (τ fi) = 3 ∨ tyb (τ fi) = 4 := by omega
        rw [hbe, if_neg (show ¬ (tyb (τ fi) = 1 ∨ tyb (τ fi) = 2) by omega), hty, show nI fi + (1 : Int32) = nI (fi + 1) from nI_1 fi]
        have Z : ∀ ty, (ty = 3 ∨ ty = 4) → mT (am_w (am_w (am_w iv2 54 19 (nI (fi + 1))) 54 21 (nI ty)) 54 24 (am_w (am_w iv2 54 19 (nI (fi + 1))) 54 21 (nI ty) 54 19)) τ n ty fi (fi + 1) := by
          intro ty hty2
          refine ⟨fun i hi => ?_, ?_, ?_, ?_, ?_, ?_, fun q => absurd q (by omega)⟩
          · simp [am_w_r]; exact v71 i hi
          · simp [am_w_r]; exact v20
          · simp [am_w_r]
          · simp [am_w_r]; rw [v]; simp
          · simp [am_w_r]
          · simp [am_w_r]
        rcases hty34 with e | e
        · rw [if_pos (by simp [e]), e]
          exact ⟨_, rfl, Z 3 (Or.inl rfl)⟩
        · rw [if_neg (by simp [e]), e]
          exact ⟨_, rfl, Z 4 (Or.inr rfl)⟩
  · have hty : tkt τ n q = 0 := by unfold tkt; rw [hf, if_neg lt]
    have hbe : tkb τ n q = n := by unfold tkb; rw [hf, if_neg lt]
    have hfn : fi = n := by omega
    rw [if_neg lt, if_pos rfl, hty, hbe]
    unfold J_X10_stepOn_212
    refine ⟨_, rfl, fun i hi => ?_, ?_, ?_, ?_, ?_, ?_, fun q => absurd q (by decide)⟩
    · simp [am_w_r]; exact v71 i hi
    · simp [am_w_r]; exact v20
    · simp [am_w_r]; rfl
    · simp [am_w_r]; rw [v]; simp
    · simp [am_w_r]; rw [v19, hfn]
    · simp [am_w_r]; rw [v19, hfn]
end B71
