/-! reading a line on both sides: a drawer -/
section B84
variable {w t rr xr : Nat} {ivc ivm ivc' ivm' iv : am_I} {τ : Nat → Nat} {n ty fi be : Nat} {c : Nat → Nat → Nat} {ρ : ru_T} {f : Nat → Bool} {kd co st le wi : Nat}
theorem K_addD {m : Nat} {i1 i2 i3 i4 : Int32} (h : iv (w + 1) 0 = nI m) (hm : m < 10) : F_X2_add w i1 i2 i3 i4 iv = some (am_w (am_w (am_w (am_w (am_w (am_w iv (w + 2) m i1) (w + 3) m i2) (w + 4) m i2) (w + 5) m i3) (w + 6) m i4) (w + 1) 0 (nI (m + 1))) := by
  unfold F_X2_add
  have o2 : ∀ (x : am_I) (k : Nat) (v : Int32), am_w x (w + 2) k v (w + 1) 0 = x (w + 1) 0 := fun x k v => by rw [am_w_other _ _ _ (by omega)]
  have o3 : ∀ (x : am_I) (k : Nat) (v : Int32), am_w x (w + 3) k v (w + 1) 0 = x (w + 1) 0 := fun x k v => by rw [am_w_other _ _ _ (by omega)]
  have o4 : ∀ (x : am_I) (k : Nat) (v : Int32), am_w x (w + 4) k v (w + 1) 0 = x (w + 1) 0 := fun x k v => by rw [am_w_other _ _ _ (by omega)]
  have o5 : ∀ (x : am_I) (k : Nat) (v : Int32), am_w x (w + 5) k v (w + 1) 0 = x (w + 1) 0 := fun x k v => by rw [am_w_other _ _ _ (by omega)]
  have o6 : ∀ (x : am_I) (k : Nat) (v : Int32), am_w x (w + 6) k v (w + 1) 0 = x (w + 1) 0 := fun x k v => by rw [am_w_other _ _ _ (by omega)]
  simp only [o2, o3, o4, o5, o6, h, am_cl (show m < 65536 by omega), vb hm (by decide), if_true, show nI m + (1 : Int32) = nI (m + 1) from nI_1 m]
  rw [if_neg (show ¬ (10 : Int32) ≤ nI m from nI_ge hm (by decide))]
/-- the model goes on after a fault -/
theorem NB_d250 {i : Nat} (hi : i < 20) (hb : ¬ iv 54 25 = 0) : J_X10_readDrawer_125 (nI i) iv = some (am_w (am_w (am_w iv 62 i 0) 63 i 0) 58 12 (iv 58 12 + 1)) := by
  have hb2 : ¬ am_w iv 62 i 0 54 25 = 0 := by rw [am_w_other _ _ _ (by decide)]; exact hb
  unfold J_X10_readDrawer_125 J_X10_readDrawer_136
  rw [if_neg hb, NB_num hb, am_o2_s, if_pos (vb hi (by decide)), am_cl (by omega), P_isBad hb2, am_o1_s, if_pos rfl]
  unfold J_X10_readDrawer_169 J_X10_readDrawer_250
  rw [if_pos (vb hi (by decide)), if_pos (vb hi (by decide)), am_cl (by omega), if_neg (by simp [am_w_r])]
  rw [show (12 : Int32).toNatClampNeg = 12 from by decide, am_w_other _ _ _ (show (58 : Nat) ≠ 63 by decide), am_w_other _ _ _ (show (58 : Nat) ≠ 62 by decide)]
theorem NB_d250h {i : Nat} {x : Int32} (h : Hk ivm iv) (hi : 10 ≤ i) : Hk ivm (am_w (am_w (am_w iv 62 i 0) 63 i 0) 58 12 x) := ((h.w (Or.inl (by omega))).w (Or.inl (by omega))).w (Or.inl (by omega))
theorem FG.w6 {x : Int32} (h : FG rr ivc f) : FG rr (am_w ivc rr 6 x) f := by
  unfold FG at h ⊢; simp [am_w_r, h.1, h.2.1, h.2.2]
theorem wbD : wb 6 = wb 50 := by decide +kernel
theorem cy_tk_add {x y : Nat} (hx : co < x) : cy_tk (addD c kd co st le 0) x y = cy_tk c x y := by
  show (cy_any (cy_at (addD c kd co st le 0) x y) (c 0 0) || cy_at (addD c kd co st le 0) x y (c 0 0)) = cy_any (cy_at c x y) (c 0 0)
  obtain ⟨b1, b2, b3, b4, b5⟩ := addD_1 (c := c) (kd := kd) (co := co) (st := st) (le := le) (wi := 0)
  have e1 : cy_at (addD c kd co st le 0) x y (c 0 0) = false := by
    unfold cy_at
    show (decide (addD c kd co st le 0 3 (c 0 0) = y) && (decide (addD c kd co st le 0 2 (c 0 0) ≤ x) && decide (x ≤ addD c kd co st le 0 2 (c 0 0) + addD c kd co st le 0 5 (c 0 0)))) = false
    rw [b2, b3, b5, decide_eq_false (show ¬ x ≤ co + 0 by omega)]; simp
  rw [e1, Bool.or_false]
  refine cy_any_cong fun j hj => ?_
  have e : j ≠ c 0 0 := by omega
  unfold cy_at
  show (decide (addD c kd co st le 0 3 j = y) && (decide (addD c kd co st le 0 2 j ≤ x) && decide (x ≤ addD c kd co st le 0 2 j + addD c kd co st le 0 5 j))) = _
  rw [addD_o (by decide) e, addD_o (by decide) e, addD_o (by decide) e]
theorem NB_d239 {i : Nat} (hb : ¬ iv 54 25 = 0) : J_X10_readDrawer_239 iv = some (am_w iv 58 12 (iv 58 12 + 1)) := by
  unfold J_X10_readDrawer_239 J_X10_readDrawer_250
  rw [if_neg hb, show (12 : Int32).toNatClampNeg = 12 from by decide]
theorem S_dtail {ivm0 ivm1 : am_I} {v y fi0 : Nat} (hx : TX τ n) (hw : w = 2 ∨ w = 22) (ht : 89 ≤ t) (hrr : 89 ≤ rr) (hr : rr ≠ t) (h : TR t ivc ivm τ n ty fi be) (hc : CP w ivc ivm1 c ρ) (hF : FG rr ivc f) (hb : ρ.1 (cy_r c) ≤ fi) (hfi : fi0 < fi) (hkd : kd ≤ 3) (n9 : cy_n c < 10) (hv : v < c 0 4) (hy : y < c 0 5) (hle : 1 ≤ le ∧ le ≤ 9) (hH : Hk ivm0 ivm)
    (r5 : ∀ a k, (a ≠ 54 ∨ k = 28) → ivm a k = am_w (am_w (am_w ivm1 59 (10 + cy_n c) (nI kd)) 60 (10 + cy_n c) (nI v)) 61 (10 + cy_n c) (nI y) a k) :
    LO w t rr τ n fi0 f ivm0 (am_o1 (F_X2_add w (nI kd) (nI v) (nI y) (nI le) ivc) fun w7 => (am_o1 (F_X8_isWord t 6 w7) fun v8 => (if v8 = 0 then some ((1 : Int32), w7) else (am_o2 (F_X1_readWide w t rr xr (nI (cy_n c)) w7) fun v9 w9 => (if v9 = 0 then some ((0 : Int32), w9) else some ((1 : Int32), w9))))))
      (am_o1 (F_X10_is 50 (am_w ivm 62 (10 + cy_n c) (nI le))) fun v9 => (if v9 = 0 then J_X10_readDrawer_169 (nI (10 + cy_n c)) (nI (10 + cy_n c)) (0 : Int32) (am_w ivm 62 (10 + cy_n c) (nI le)) else J_X10_readDrawer_169 (nI (10 + cy_n c)) (nI (10 + cy_n c)) (1 : Int32) (am_w ivm 62 (10 + cy_n c) (nI le)))) := by
  have hi20 : 10 + cy_n c < 20 := by omega
  have cn : ivc (w + 1) 0 = nI (cy_n c) := hc.1.1.2.2.2.1
  obtain ⟨k1, k2, k3, k4, k5, k6, k7, k8, k9⟩ := hc.2.2.2.1
  rw [K_addD cn n9, am_o1_s]
  have T7 : TR t (am_w (am_w (am_w (am_w (am_w (am_w ivc (w + 2) (cy_n c) (nI kd)) (w + 3) (cy_n c) (nI v)) (w + 4) (cy_n c) (nI v)) (w + 5) (cy_n c) (nI y)) (w + 6) (cy_n c) (nI le)) (w + 1) 0 (nI (cy_n c + 1))) (am_w ivm 62 (10 + cy_n c) (nI le)) τ n ty fi be :=
    ((((((h.wc (by omega) (by omega)).wc (by omega) (by omega)).wc (by omega) (by omega)).wc (by omega) (by omega)).wc (by omega) (by omega)).wc (by omega) (by omega)).wm (by decide) (by decide)
  have F7 : FG rr (am_w (am_w (am_w (am_w (am_w (am_w ivc (w + 2) (cy_n c) (nI kd)) (w + 3) (cy_n c) (nI v)) (w + 4) (cy_n c) (nI v)) (w + 5) (cy_n c) (nI y)) (w + 6) (cy_n c) (nI le)) (w + 1) 0 (nI (cy_n c + 1))) f :=
    (((((hF.wr (by omega)).wr (by omega)).wr (by omega)).wr (by omega)).wr (by omega)).wr (by omega)
  have R7 : ∀ a k, am_w (am_w (am_w (am_w (am_w (am_w ivc (w + 2) (cy_n c) (nI kd)) (w + 3) (cy_n c) (nI v)) (w + 4) (cy_n c) (nI v)) (w + 5) (cy_n c) (nI y)) (w + 6) (cy_n c) (nI le)) (w + 1) 0 (nI (cy_n c + 1)) a k = if a = w + 1 then (if k = 0 then nI (cy_n c + 1) else ivc a k) else if a = w + 6 then (if k = cy_n c then nI le else ivc a k) else if a = w + 5 then (if k = cy_n c then nI y else ivc a k) else if a = w + 4 then (if k = cy_n c then nI v else ivc a k) else if a = w + 3 then (if k = cy_n c then nI v else ivc a k) else if a = w + 2 then (if k = cy_n c then nI kd else ivc a k) else ivc a k := by
    intro a k
    simp only [am_w_r]
    by_cases q1 : a = w + 1
    · subst q1; simp
    · by_cases q6 : a = w + 6
      · subst q6; simp
      · by_cases q5 : a = w + 5
        · subst q5; simp
        · by_cases q4 : a = w + 4
          · subst q4; simp
          · by_cases q3 : a = w + 3
            · subst q3; simp
            · simp [q1, q3, q4, q5, q6]
  generalize am_w (am_w (am_w (am_w (am_w (am_w ivc (w + 2) (cy_n c) (nI kd)) (w + 3) (cy_n c) (nI v)) (w + 4) (cy_n c) (nI v)) (w + 5) (cy_n c) (nI y)) (w + 6) (cy_n c) (nI le)) (w + 1) 0 (nI (cy_n c + 1)) = C7 at T7 F7 R7
  have hH62 : Hk ivm0 (am_w ivm 62 (10 + cy_n c) (nI le)) := hH.w (Or.inl (by omega))
  have r6 : ∀ a k, (a ≠ 54 ∨ k = 28) → am_w ivm 62 (10 + cy_n c) (nI le) a k = am_w (am_w (am_w (am_w ivm1 59 (10 + cy_n c) (nI kd)) 60 (10 + cy_n c) (nI v)) 61 (10 + cy_n c) (nI y)) 62 (10 + cy_n c) (nI le) a k := fun a k ha => by
    rw [am_w_r, am_w_r (am_w (am_w (am_w ivm1 59 (10 + cy_n c) (nI kd)) 60 (10 + cy_n c) (nI v)) 61 (10 + cy_n c) (nI y)), r5 a k ha]
  generalize am_w ivm 62 (10 + cy_n c) (nI le) = M6 at T7 hH62 r6
  -- the city with the drawer, of either width
  have fin : ∀ (wi : Nat) (C M : am_I), wi ≤ 1 → v + wi < c 0 4 → (∀ a k, a ≠ t → a ≠ rr → C a k = am_w C7 (w + 4) (cy_n c) (nI (v + wi)) a k) → (∀ a k, (a ≠ 54 ∨ k = 28) → M a k = am_w (am_w M6 63 (10 + cy_n c) (nI wi)) 58 12 (nI (cy_n c + 1)) a k) → CP w C M (addD c kd v y le wi) ρ := by
    intro wi C M q1 q2 qc qm
    refine hc.add hw ht hrr (addD_ok hc.2.2.2.1 n9 hkd q2 hy hle q1) ?_ ⟨?_, ?_, ?_, ?_, ?_⟩ (fun a k u1 u2 u3 u4 => ?_) ?_ ⟨?_, ?_, ?_, ?_, ?_⟩ (fun a k u1 u3 u4 => ?_)
    · rw [qc _ _ (by omega) (by omega), am_w_other _ _ _ (by omega), R7]; simp
    · rw [qc _ _ (by omega) (by omega), am_w_other _ _ _ (by omega), R7]; simp
    · rw [qc _ _ (by omega) (by omega), am_w_other _ _ _ (by omega), R7]; simp
    · rw [qc _ _ (by omega) (by omega), am_w_r]; simp
    · rw [qc _ _ (by omega) (by omega), am_w_other _ _ _ (by omega), R7]; simp
    · rw [qc _ _ (by omega) (by omega), am_w_other _ _ _ (by omega), R7]; simp
    · rw [qc _ _ u1 u2, am_w_r, R7]
      by_cases z : k = cy_n c
      · rw [if_neg (by omega)]
        by_cases z1 : a = w + 1
        · rw [if_pos z1, if_neg (by omega)]
        · rw [if_neg z1, if_neg (by omega), if_neg (by omega), if_neg (by omega), if_neg (by omega), if_neg (by omega)]
      · simp only [if_neg z]
        by_cases z1 : a = w + 1
        · rw [if_pos z1, if_neg (by omega)]; simp; exact fun hk => absurd ⟨z1, hk⟩ u3
        · rw [if_neg z1]; simp
    · rw [qm _ _ (by omega)]; simp [am_w_r]
    · rw [qm _ _ (by omega)]; simp [am_w_r, r6]
    · rw [qm _ _ (by omega)]; simp [am_w_r, r6]
    · rw [qm _ _ (by omega)]; simp [am_w_r, r6]
    · rw [qm _ _ (by omega)]; simp [am_w_r, r6]
    · rw [qm _ _ (by omega)]; simp [am_w_r]
    · rw [qm _ _ u1, am_w_r, am_w_r, r6 a k u1, am_w_r, am_w_r, am_w_r, am_w_r]
      by_cases z : k = 10 + cy_n c
      · have z2 : ¬ a = 59 ∧ ¬ a = 60 ∧ ¬ a = 61 ∧ ¬ a = 62 ∧ ¬ a = 63 := by omega
        rw [if_neg z2.1, if_neg z2.2.1, if_neg z2.2.2.1, if_neg z2.2.2.2.1, if_neg z2.2.2.2.2]
        by_cases z1 : a = 58
        · rw [if_pos z1, if_neg (by omega)]
        · rw [if_neg z1]
      · simp only [if_neg z]
        by_cases z1 : a = 58
        · rw [if_pos z1, if_neg (by omega)]; simp
        · rw [if_neg z1]; simp
  have er : ∀ wi, (addD c kd v y le wi) 0 3 = c 0 3 := fun wi => addD_0 (by decide)
  have m12 : M6 58 12 = nI (cy_n c) := by rw [r6 _ _ (by omega)]; simp [am_w_r]; exact hc.2.2.1.1.2.2.1
  rw [K_isWord hx T7.1 T7.2.2.1 (by decide), am_o1_s, ifb, P_is hx T7.2.1 T7.2.2.1 (by decide) T7.2.2.2, am_o1_s, ifb, wbD]
  cases z : isw τ ty fi be (wb 50) with
  | false =>
    unfold J_X10_readDrawer_169 J_X10_readDrawer_250
    rw [if_neg (by decide), if_neg (by decide), if_pos (vb hi20 (by decide)), if_pos (vb hi20 (by decide)), am_cl (by omega), if_neg (by simp [am_w_r]), show (12 : Int32).toNatClampNeg = 12 from by decide, am_w_other _ _ _ (show (58 : Nat) ≠ 63 by decide), m12, show nI (cy_n c) + (1 : Int32) = nI (cy_n c + 1) from nI_1 _]
    refine LO.yes rfl rfl ((hH62.w (Or.inl (by omega))).w (Or.inl (by omega))) ((T7.wm (by decide) (by decide)).wm (by decide) (by decide)) hfi (fin 0 _ _ (by omega) (by omega) (fun a k u1 u2 => ?_) (fun a k u => rfl)) ?_ F7
    · rw [am_w_r]
      by_cases z1 : a = w + 4
      · subst z1
        rw [if_pos rfl]
        by_cases z2 : k = cy_n c
        · rw [if_pos z2, R7, z2]; simp
        · rw [if_neg z2]
      · rw [if_neg z1]
    · show ρ.1 (addD c kd v y le 0 0 3) ≤ fi
      rw [er]; exact hb
  | true =>
    have hcl7 : cl_C w C7 (addD c kd v y le 0) := (fin 0 C7 (am_w (am_w M6 63 (10 + cy_n c) (nI 0)) 58 12 (nI (cy_n c + 1))) (by omega) (by omega) (fun a k u1 u2 => by
      rw [am_w_r]
      by_cases z1 : a = w + 4
      · subst z1
        rw [if_pos rfl]
        by_cases z2 : k = cy_n c
        · rw [if_pos z2, R7, z2]; simp
        · rw [if_neg z2]
      · rw [if_neg z1]) (fun a k u => rfl)).1
    have hok7 : cy_ok (addD c kd v y le 0) := addD_ok hc.2.2.2.1 n9 hkd (by omega) hy hle (by omega)
    have g3 : C7 (w + 3) (cy_n c) = nI v := by rw [R7]; simp
    have g5 : C7 (w + 5) (cy_n c) = nI y := by rw [R7]; simp
    have g0 : C7 w 0 = nI (c 0 4) := by rw [R7]; simp; exact hc.1.1.1
    have m60 : am_w M6 63 (10 + cy_n c) 1 60 (10 + cy_n c) = nI v := by rw [am_w_other _ _ _ (by decide), r6 _ _ (by omega)]; simp [am_w_r]
    have m61 : am_w M6 63 (10 + cy_n c) 1 61 (10 + cy_n c) = nI y := by rw [am_w_other _ _ _ (by decide), r6 _ _ (by omega)]; simp [am_w_r]
    have m10 : am_w M6 63 (10 + cy_n c) 1 58 10 = nI (c 0 4) := by rw [am_w_other _ _ _ (by decide), r6 _ _ (by omega)]; simp [am_w_r]; exact hc.2.2.1.1.1
    have m12' : am_w M6 63 (10 + cy_n c) 1 58 12 = nI (cy_n c) := by rw [am_w_other _ _ _ (by decide)]; exact m12
    have T8 : TR t C7 (am_w M6 63 (10 + cy_n c) 1) τ n ty fi be := T7.wm (by decide) (by decide)
    have H8 : Hk ivm0 (am_w M6 63 (10 + cy_n c) 1) := hH62.w (Or.inl (by omega))
    have mrow : ∀ j, j < cy_n c → am_w M6 63 (10 + cy_n c) 1 60 (10 + j) = nI (cy_co c j) ∧ am_w M6 63 (10 + cy_n c) 1 61 (10 + j) = nI (cy_st c j) ∧ am_w M6 63 (10 + cy_n c) 1 63 (10 + j) = nI (cy_wi c j) := fun j hj => by
      have hj' : ¬ j = cy_n c := by omega
      have := hc.2.2.1.2.1 j hj
      refine ⟨?_, ?_, ?_⟩
      · rw [am_w_other _ _ _ (by decide), r6 _ _ (by omega)]; simp [am_w_r, hj']; exact this.2.1
      · rw [am_w_other _ _ _ (by decide), r6 _ _ (by omega)]; simp [am_w_r, hj']; exact this.2.2.1
      · rw [am_w_r, if_pos rfl, if_neg (by omega), r6 _ _ (by omega)]; simp [am_w_r]; exact this.2.2.2.2
    have m63 : am_w M6 63 (10 + cy_n c) 1 63 (10 + cy_n c) = 1 := by simp [am_w_r]
    unfold F_X1_readWide J_X10_readDrawer_169
    rw [if_pos rfl, if_pos rfl, if_pos (vb n9 (by decide)), am_cl (show cy_n c < 65536 by omega), g3, g0, show nI v + (1 : Int32) = nI (v + 1) from nI_1 v, nlt (by omega) (by omega)]
    rw [if_pos (vb hi20 (by decide)), if_pos (vb hi20 (by decide)), am_cl (show 10 + cy_n c < 65536 by omega), m63, if_pos rfl, if_pos (vb hi20 (by decide)), m60, show (10 : Int32).toNatClampNeg = 10 from by decide, m10, show nI (c 0 4) - (1 : Int32) = nI (c 0 4 - 1) from nI_sub (b := 1) k5.1, neq (by omega) (by omega)]
    by_cases q : v + 1 < c 0 4
    · rw [if_pos q, if_pos (vb n9 (by decide)), g5, K_taken hcl7 hok7 (by omega) (by omega), am_o1_s, ifb, cy_tk_add (by omega)]
      rw [if_neg (show ¬ v = c 0 4 - 1 by omega), if_pos (vb hi20 (by decide)), if_pos (vb hi20 (by decide)), m61, show (12 : Int32).toNatClampNeg = 12 from by decide, m12', show nI v + (1 : Int32) = nI (v + 1) from nI_1 v, P_taken mrow hc.2.2.2.1 (by omega) (by omega), am_o1_s, ifb]
      cases tk : cy_tk c (v + 1) y with
      | true =>
        unfold F_X8_refuse
        rw [if_pos rfl, if_pos rfl, am_o2_s, if_pos (Or.inl rfl), am_o2_s, if_pos rfl, P_wrong T8.2.2.2, am_o1_s, NB_d239 (i := 0) (nbw (by decide))]
        exact LO.no rfl rfl ((H8.tr fM.wr.hk).w (Or.inl (by omega))) ((EE.of T8.1 T8.2.1 (by decide)).wm (by decide))
      | false =>
        have T9 : TR t (am_w C7 (w + 4) (cy_n c) (nI (v + 1))) (am_w M6 63 (10 + cy_n c) 1) τ n ty fi be := T8.wc (by omega) (by omega)
        obtain ⟨ivc4, ivm4, q1, q2, q3, q4, q5, q6⟩ := T9.adv hx ht rr
        have hfb := T9.2.2.1.1
        unfold J_X10_readDrawer_239 J_X10_readDrawer_250
        rw [if_neg (show ¬ false = true by decide), if_neg (show ¬ false = true by decide), if_pos (vb n9 (by decide)), q1, am_o1_s, am_o2_s, if_neg (by decide), if_pos T8.2.2.2, q2, am_o1_s, show (12 : Int32).toNatClampNeg = 12 from by decide, q6.r (show (58 : Nat) ≠ 54 by decide), m12', show nI (cy_n c) + (1 : Int32) = nI (cy_n c + 1) from nI_1 _]
        refine LO.yes rfl rfl ((H8.tr q6.hk).w (Or.inl (by omega))) (q3.wm (by decide) (by decide)) (by omega) (fin 1 _ _ (by omega) (by omega) (fun a k u1 u2 => q5 a k u1 (Or.inl u2)) (fun a k u => ?_)) ?_ ((F7.wr (by omega)).fcm hr q5)
        · rw [am_w_r, am_w_r, q6 a k (by omega)]; rfl
        · show ρ.1 (addD c kd v y le 1 0 3) ≤ _
          have hb' : ρ.1 (c 0 3) ≤ fi := hb
          rw [er]; omega
    · unfold F_X8_refuse
      rw [if_neg q, am_o2_s, if_pos (Or.inl rfl), am_o2_s, if_pos rfl, if_pos (show v = c 0 4 - 1 by omega), P_wrong T8.2.2.2, am_o1_s, NB_d239 (i := 0) (nbw (by decide))]
      exact LO.no rfl rfl ((H8.tr fM.wr.hk).w (Or.inl (by omega))) ((EE.of T8.1 T8.2.1 (by decide)).wm (by decide))
theorem S_drawer (hx : TX τ n) (hw : w = 2 ∨ w = 22) (ht : 89 ≤ t) (hrr : 89 ≤ rr) (hr : rr ≠ t) (h : TR t ivc ivm τ n ty fi be) (hc : CP w ivc ivm c ρ) (hF : FG rr ivc f) (hb : ρ.1 (cy_r c) ≤ fi) (hkd : kd ≤ 3) : LO w t rr τ n fi f ivm (F_X1_readDrawer w t rr xr (nI kd) ivc) (F_X10_readDrawer (nI kd) ivm) := by
  have hn := hx.1
  have hok := hc.2.2.2.1
  obtain ⟨k1, k2, k3, k4, k5, k6, k7, k8, k9⟩ := hok
  have cn : ivc (w + 1) 0 = nI (cy_n c) := hc.1.1.2.2.2.1
  have mn : ivm 58 12 = nI (cy_n c) := hc.2.2.1.1.2.2.1
  unfold F_X1_readDrawer F_X10_readDrawer
  rw [cn, show (12 : Int32).toNatClampNeg = 12 from by decide, mn, show (10 : Int32) = nI 10 from rfl, nlt (by omega) (by omega), neq (by omega) (by omega)]
  by_cases n10 : cy_n c = 10
  · unfold J_X10_readDrawer_17 F_X8_refuse
    rw [if_neg (by omega), if_pos n10, P_wrong h.2.2.2, am_o1_s, if_neg (nbw (by decide)), am_o2_s, if_pos (Or.inl rfl)]
    exact LO.no rfl rfl fM.wr.hk (EE.of h.1 h.2.1 (by decide))
  · have n9 : cy_n c < 10 := by omega
    obtain ⟨ivc1, ivm1, a1, a2, a3, a4, a5, a6⟩ := h.adv hx ht rr
    have hfb := h.2.2.1.1
    have hc1 := hc.fcm hw ht hrr a5 a6
    have mn1 : ivm1 58 12 = nI (cy_n c) := hc1.2.2.1.1.2.2.1
    have hi20 : 10 + cy_n c < 20 := by omega
    have c4 : ivc1 w 0 = nI (c 0 4) := hc1.1.1.1
    unfold J_X10_readDrawer_17
    rw [if_pos n9, a1, am_o1_s, if_neg n10, if_pos h.2.2.2, a2, am_o1_s]
    simp only [show (12 : Int32).toNatClampNeg = 12 from by decide, show (10 : Int32).toNatClampNeg = 10 from by decide, show (11 : Int32).toNatClampNeg = 11 from by decide, mn1, show (10 : Int32) + nI (cy_n c) = nI (10 + cy_n c) from nI_add 10 (cy_n c), am_cl (show 10 + cy_n c < 65536 by omega), vb hi20 (by decide), if_true]
    -- the column
    have W1 : TR t ivc1 (am_w ivm1 59 (10 + cy_n c) (nI kd)) τ n _ _ _ := a3.wm (by decide) (by decide)
    have e10 : am_w ivm1 59 (10 + cy_n c) (nI kd) 58 10 = nI (c 0 4) := by rw [am_w_other _ _ _ (by decide)]; exact hc1.2.2.1.1.1
    have h59 : Hk ivm (am_w ivm1 59 (10 + cy_n c) (nI kd)) := a6.hk.w (Or.inl (by omega))
    have el4 : nI (c 0 4) - (1 : Int32) = nI (c 0 4 - 1) := nI_sub (b := 1) k5.1
    rw [c4, e10, el4]
    rcases S_numI (w := w) (xr := xr) (lo := 0) (a := 0) (b := c 0 4 - 1) rfl rfl hx W1 ht hrr hr (by decide) (by omega) with ⟨v, ivc2, ivm2, ty2, fi2, be2, v1, v2, e1, e2, e3, e4, e5, e6, e7⟩ | ⟨ivc2, ivm2, e1, e2, e3, e4⟩
    · rw [e1, am_o2_s, if_neg (by decide), e2, am_o2_s]
      have hc2 : ivc2 w 1 = nI (c 0 5) := by rw [e6 w 1 (by omega) (Or.inl (by omega))]; exact hc1.1.1.2.1
      have e11 : am_w ivm2 60 (10 + cy_n c) (nI v) 58 11 = nI (c 0 5) := by rw [am_w_other _ _ _ (by decide), e7.r (by decide), am_w_other _ _ _ (by decide)]; exact hc1.2.2.1.1.2.1
      have el5 : nI (c 0 5) - (1 : Int32) = nI (c 0 5 - 1) := nI_sub (b := 1) k6.1
      have W3 : TR t ivc2 (am_w ivm2 60 (10 + cy_n c) (nI v)) τ n _ _ _ := e4.wm (by decide) (by decide)
      have h60 : Hk ivm (am_w ivm2 60 (10 + cy_n c) (nI v)) := (h59.tr e7.hk).w (Or.inl (by omega))
      rw [hc2, e11, el5]
      have sn := S_see (w := w) (xr := xr) (lo := 0) (hi := c 0 5 - 1) hx W3 ht hrr hr (by decide) (by omega)
      rw [show nI 0 = (0 : Int32) from rfl] at sn
      rcases sn with ⟨y, y1, y2, y3, g1, g2⟩ | ⟨ivc3, ivm3, g1, g2, g3, g4⟩
      · rw [g1, am_o2_s, if_neg (by decide), g2, am_o2_s, e3]
        -- taken?
        have hcC : CP w (am_w ivc2 rr 6 (nI y)) ivm1 c ρ := (hc1.fcm hw ht hrr e6 (fM.rf _)).atR hw hrr
        have W5 : TR t (am_w ivc2 rr 6 (nI y)) (am_w (am_w ivm2 60 (10 + cy_n c) (nI v)) 61 (10 + cy_n c) (nI y)) τ n _ _ _ := (W3.wc (by omega) hr).wm (by decide) (by decide)
        have h61 : Hk ivm (am_w (am_w ivm2 60 (10 + cy_n c) (nI v)) 61 (10 + cy_n c) (nI y)) := h60.w (Or.inl (by omega))
        have r5 : ∀ a k, a ≠ 54 → am_w (am_w ivm2 60 (10 + cy_n c) (nI v)) 61 (10 + cy_n c) (nI y) a k = am_w (am_w (am_w ivm1 59 (10 + cy_n c) (nI kd)) 60 (10 + cy_n c) (nI v)) 61 (10 + cy_n c) (nI y) a k := fun a k ha => by
          rw [am_w_r, am_w_r, am_w_r, am_w_r, e7.r ha]
        generalize hW5 : am_w (am_w ivm2 60 (10 + cy_n c) (nI v)) 61 (10 + cy_n c) (nI y) = W at W5 h61 r5
        have w60 : W 60 (10 + cy_n c) = nI v := by rw [r5 _ _ (by decide)]; simp [am_w_r]
        have w61 : W 61 (10 + cy_n c) = nI y := by rw [r5 _ _ (by decide)]; simp [am_w_r]
        have w59 : W 59 (10 + cy_n c) = nI kd := by rw [r5 _ _ (by decide)]; simp [am_w_r]
        have w58 : ∀ k, W 58 k = ivm1 58 k := fun k => by rw [r5 _ _ (by decide)]; simp [am_w_r]
        have wrow : ∀ a j, a ≠ 54 → j < cy_n c → W a (10 + j) = ivm1 a (10 + j) := fun a j ha hj => by
          rw [r5 _ _ ha, am_w_r, am_w_r, am_w_r]
          simp [show ¬ (j = cy_n c) by omega]
        have wrows : ∀ j, j < cy_n c → W 60 (10 + j) = nI (cy_co c j) ∧ W 61 (10 + j) = nI (cy_st c j) ∧ W 63 (10 + j) = nI (cy_wi c j) := fun j hj => by
          rw [wrow 60 j (by decide) hj, wrow 61 j (by decide) hj, wrow 63 j (by decide) hj]
          have := hc1.2.2.1.2.1 j hj
          exact ⟨this.2.1, this.2.2.1, this.2.2.2.2⟩
        have wb25 : W 54 25 = 0 := W5.2.2.2
        rw [show am_w ivc2 rr 6 (nI y) rr 6 = nI y by rw [am_w_r, if_pos rfl, if_pos rfl], K_taken hcC.1 hc.2.2.2.1 (by omega) (by omega), am_o1_s, ifb, if_pos wb25, w60, w61, w58, mn1, P_taken wrows hc.2.2.2.1 (by omega) (by omega), am_o1_s, ifb]
        cases tk : cy_tk c v y with
        | true =>
          rw [if_pos rfl, if_pos rfl, P_wrong wb25, am_o1_s, NB_d250 hi20 (nbw (by decide))]
          unfold F_X8_refuse
          rw [am_o2_s, if_pos (Or.inl rfl)]
          exact LO.no rfl rfl (NB_d250h (h61.tr fM.wr.hk) (by omega)) (((EE.of W5.1 W5.2.1 (by decide)).wm (by decide)).wm (by decide) |>.wm (by decide))
        | false =>
          rw [if_neg (by decide), if_neg (by decide)]
          obtain ⟨ivc4, ivm4, q1, q2, q3, q4, q5, q6⟩ := W5.adv hx ht rr
          unfold J_X10_readDrawer_125 J_X10_readDrawer_136
          rw [q1, am_o1_s, if_pos wb25, q2, am_o1_s]
          have hf2 := e4.2.2.1.1
          rcases S_numI (w := w) (xr := xr) (lo := 1) (hi := 9) (a := 1) (b := 9) rfl rfl hx q3 ht hrr hr (by decide) (by decide) with ⟨le, ivc5, ivm5, ty5, fi5, be5, l1, l2, p1, p2, p3, p4, p5, p6, p7⟩ | ⟨ivc5, ivm5, p1, p2, p3, p4⟩
          · rw [p1, am_o2_s, if_neg (show ¬ (1 : Int32) = 0 by decide), p2, am_o2_s, if_pos (vb hi20 (by decide)), am_cl (show 10 + cy_n c < 65536 by omega), p3]
            have hc5 : CP w ivc5 ivm1 c ρ := (hcC.fcm hw ht hrr q5 (fM.rf _)).fcm hw ht hrr p6 (fM.rf _)
            have hF5 : FG rr ivc5 f := ((((hF.fcm hr a5).fcm hr e6).w6).fcm hr q5).fcm hr p6
            refine S_dtail (ivm1 := ivm1) (v := v) (y := y) hx hw ht hrr hr p4 hc5 hF5 (by omega) (by omega) hkd n9 (by omega) (by omega) ⟨l1, l2⟩ ((h61.tr q6.hk).tr p7.hk) (fun a k ha => ?_)
            by_cases e54 : a = 54
            · subst e54
              rw [p7 _ _ (by omega), q6 _ _ (by omega), ← hW5, am_w_other _ _ _ (by decide), am_w_other _ _ _ (by decide), e7 _ _ (by omega), am_w_other _ _ _ (by decide), am_w_other _ _ _ (by decide), am_w_other _ _ _ (by decide), am_w_other _ _ _ (by decide)]
            · rw [p7.r e54, q6.r e54]; exact r5 a k e54
          · have hb2 : ¬ am_w ivm5 62 (10 + cy_n c) 0 54 25 = 0 := by rw [am_w_other _ _ _ (by decide)]; exact p3.1
            rw [p1, am_o2_s, if_pos (show (0 : Int32) = 0 from rfl), p2, am_o2_s, if_pos (vb hi20 (by decide)), am_cl (show 10 + cy_n c < 65536 by omega), P_isBad hb2, am_o1_s, if_pos (show (0 : Int32) = 0 from rfl)]
            unfold J_X10_readDrawer_169 J_X10_readDrawer_250
            rw [if_pos (vb hi20 (by decide)), if_pos (vb hi20 (by decide)), am_cl (show 10 + cy_n c < 65536 by omega), if_neg (by simp [am_w_r]), show (12 : Int32).toNatClampNeg = 12 from by decide]
            exact LO.no rfl rfl (NB_d250h ((h61.tr q6.hk).tr p4.hk) (by omega)) (((p3.wm (by decide)).wm (by decide)).wm (by decide))
      · have hnb : ¬ am_w ivm3 61 (10 + cy_n c) 0 54 25 = 0 := by rw [am_w_other _ _ _ (by decide)]; exact g3.1
        rw [g1, am_o2_s, if_pos (show (0 : Int32) = 0 from rfl), g2, am_o2_s, if_neg hnb, NB_d250 hi20 hnb]
        exact LO.no rfl rfl (NB_d250h ((h60.tr g4.hk).w (Or.inl (by omega))) (by omega)) ((((g3.wm (by decide)).wm (by decide)).wm (by decide)).wm (by decide))
    · have hnb : ¬ am_w ivm2 60 (10 + cy_n c) 0 54 25 = 0 := by rw [am_w_other _ _ _ (by decide)]; exact e3.1
      have hnb2 : ¬ am_w (am_w ivm2 60 (10 + cy_n c) 0) 61 (10 + cy_n c) 0 54 25 = 0 := by rw [am_w_other _ _ _ (by decide)]; exact hnb
      rw [e1, am_o2_s, if_pos (show (0 : Int32) = 0 from rfl), e2, am_o2_s, NB_now hnb, am_o2_s, if_neg hnb2, NB_d250 hi20 hnb2]
      exact LO.no rfl rfl (NB_d250h (((h59.tr e4.hk).w (Or.inl (by omega))).w (Or.inl (by omega))) (by omega)) (((((e3.wm (by decide)).wm (by decide)).wm (by decide)).wm (by decide)).wm (by decide))
end B84
