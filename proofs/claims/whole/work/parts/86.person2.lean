/-! reading a line on both sides: a person, whole -/
section B86
variable {w t rr xr : Nat} {ivc ivm ivc' ivm' iv : am_I} {τ : Nat → Nat} {n ty fi be : Nat} {c : Nat → Nat → Nat} {ρ : ru_T} {f : Nat → Bool} {ho sh we : Nat}
theorem wbP : wb 9 = wb 53 ∧ wb 8 = wb 52 := by decide +kernel
theorem P_pass {j : Nat} (hx : TX τ n) (h : TR t ivc ivm τ n ty fi be) (ht : 89 ≤ t) (hj : j < 58) : (isw τ ty fi be (wb j) = false ∧ F_X10_passes j ivm = some (0, ivm)) ∨ (isw τ ty fi be (wb j) = true ∧ ∃ ivc' ivm', F_X8_advance t ivc = some ivc' ∧ F_X10_passes j ivm = some (1, ivm') ∧ TR t ivc' ivm' τ n (tkt τ n be) (skp τ n be) (tkb τ n be) ∧ fi < skp τ n be ∧ fC t rr ivc ivc' ∧ fM ivm ivm') := by
  unfold F_X10_passes
  rw [P_is hx h.2.1 h.2.2.1 hj h.2.2.2, am_o1_s]
  cases z : isw τ ty fi be (wb j) with
  | false => exact Or.inl ⟨rfl, rfl⟩
  | true =>
    obtain ⟨ivc1, ivm1, a1, a2, a3, a4, a5, a6⟩ := h.adv hx ht rr
    have hfb := (h.2.2.1.2.2.2.2.1 (by rw [isw_ty z]; decide)).1
    rw [if_neg (show ¬ am_bi true = 0 by decide), a2, am_o1_s]
    exact Or.inr ⟨rfl, ivc1, ivm1, a1, rfl, a3, by omega, a5, a6⟩
/-- from the weight on -/
theorem S_weight {ivm0 ivm1 ivc0 : am_I} {fi0 : Nat} {x : Int32} (hx : TX τ n) (hw : w = 2 ∨ w = 22) (ht : 89 ≤ t) (hrr : 89 ≤ rr) (hr : rr ≠ t) (h : TR t ivc ivm τ n ty fi be) (hc : CP w ivc0 ivm1 c ρ) (hF : FG rr ivc f) (hb : ρ.1 (cy_r c) ≤ fi) (hfi : fi0 < fi) (n4 : cy_p c < 5) (hho : ho < cy_n c) (hk0 : cy_kd c ho = 0) (hsh : sh ≤ cy_n c) (hk1 : sh ≠ 0 → cy_kd c (sh - 1) = 1) (ex : x = if sh = 0 then -1 else nI (sh - 1)) (hH : Hk ivm0 ivm)
    (rc : ∀ a k, a ≠ t → a ≠ rr → ivc a k = am_w (am_w (am_w (am_w ivc0 (w + 11) (cy_p c) (nI ho)) (w + 12) (cy_p c) x) (w + 13) (cy_p c) 1) (w + 10) 0 (nI (cy_p c + 1)) a k)
    (rm : ∀ a k, (a ≠ 54 ∨ k = 28) → ivm a k = am_w ivm1 64 (5 + cy_p c) (nI ho) a k) :
    LO w t rr τ n fi0 f ivm0 (J_X1_readPerson_101 w t rr xr (nI (cy_p c)) ivc) (J_X10_readPerson_73 (nI (5 + cy_p c)) (nI (5 + cy_p c)) x ivm) := by
  have hi10 : 5 + cy_p c < 10 := by omega
  have T1 : TR t ivc (am_w ivm 65 (5 + cy_p c) x) τ n ty fi be := h.wm (by decide) (by decide)
  have H1 : Hk ivm0 (am_w ivm 65 (5 + cy_p c) x) := hH.w (Or.inr (Or.inl (by omega)))
  -- the city with the person, of any weight
  have fin : ∀ (we : Nat) (C M : am_I), we ≤ 99 → (∀ a k, a ≠ t → a ≠ rr → C a k = am_w ivc (w + 13) (cy_p c) (nI we) a k) → (∀ a k, (a ≠ 54 ∨ k = 28) → M a k = am_w (am_w (am_w ivm 65 (5 + cy_p c) x) 66 (5 + cy_p c) (nI we)) 58 13 (nI (cy_p c + 1)) a k) → CP w C M (addP c ho sh we) ρ := by
    intro we C M q1 qc qm
    refine hc.person hw ht hrr (addP_ok hc.2.2.2.1 n4 hho hk0 hsh hk1 q1) ?_ ⟨?_, ?_, ?_⟩ (fun a k u1 u2 u3 u4 => ?_) ?_ ⟨?_, ?_, ?_⟩ (fun a k u1 u3 u4 => ?_)
    · rw [qc _ _ (by omega) (by omega), am_w_other _ _ _ (by omega), rc _ _ (by omega) (by omega)]; simp [am_w_r]
    · rw [qc _ _ (by omega) (by omega), am_w_other _ _ _ (by omega), rc _ _ (by omega) (by omega)]; simp [am_w_r]
    · rw [qc _ _ (by omega) (by omega), am_w_other _ _ _ (by omega), rc _ _ (by omega) (by omega), ← ex]; simp [am_w_r]
    · rw [qc _ _ (by omega) (by omega)]; simp [am_w_r]
    · rw [qc _ _ u1 u2, am_w_r, rc _ _ u1 u2, am_w_r, am_w_r, am_w_r, am_w_r]
      by_cases z : k = cy_p c
      · rw [if_neg (show ¬ a = w + 13 by omega), if_neg (show ¬ a = w + 13 by omega), if_neg (show ¬ a = w + 12 by omega), if_neg (show ¬ a = w + 11 by omega)]
        by_cases z1 : a = w + 10
        · rw [if_pos z1, if_neg (by omega)]
        · rw [if_neg z1]
      · simp only [if_neg z]
        by_cases z1 : a = w + 10
        · rw [if_pos z1, if_neg (by omega)]; simp; exact fun hk => absurd ⟨z1, hk⟩ u3
        · rw [if_neg z1]; simp
    · rw [qm _ _ (by omega)]; simp [am_w_r]
    · rw [qm _ _ (by omega)]; simp [am_w_r, rm]
    · rw [qm _ _ (by omega), ← ex]; simp [am_w_r]
    · rw [qm _ _ (by omega)]; simp [am_w_r]
    · rw [qm _ _ u1, am_w_r, am_w_r, am_w_r, rm a k u1, am_w_r]
      by_cases z : k = 5 + cy_p c
      · have z2 : ¬ a = 64 ∧ ¬ a = 65 ∧ ¬ a = 66 := by omega
        rw [if_neg z2.1, if_neg z2.2.1, if_neg z2.2.2]
        by_cases z1 : a = 58
        · rw [if_pos z1, if_neg (by omega)]
        · rw [if_neg z1]
      · simp only [if_neg z]
        by_cases z1 : a = 58
        · rw [if_pos z1, if_neg (by omega)]; simp
        · rw [if_neg z1]; simp
  have er : ∀ we, (addP c ho sh we) 0 3 = c 0 3 := fun we => addP_0 (by decide)
  have hb' : ρ.1 (c 0 3) ≤ fi := hb
  have m13 : ivm 58 13 = nI (cy_p c) := by rw [rm _ _ (by omega)]; simp [am_w_r]; exact hc.2.2.1.1.2.2.2.1
  unfold J_X1_readPerson_101 J_X10_readPerson_73 J_X10_readPerson_100
  rw [K_isWord hx h.1 h.2.2.1 (by decide), am_o1_s, ifb, wbP.1, if_pos (vb hi10 (by decide)), am_cl (show 5 + cy_p c < 65536 by omega)]
  rcases P_pass (rr := rr) (j := 53) hx T1 ht (by decide) with ⟨z, e⟩ | ⟨z, ivc2, ivm2, e1, e2, e3, e4, e5, e6⟩
  · rw [z, e, if_neg (show ¬ false = true by decide), am_o2_s, if_pos (show (0 : Int32) = 0 from rfl), if_pos (vb hi10 (by decide)), show (13 : Int32).toNatClampNeg = 13 from by decide, am_w_other _ _ _ (show (58 : Nat) ≠ 66 by decide), am_w_other _ _ _ (show (58 : Nat) ≠ 65 by decide), m13, show nI (cy_p c) + (1 : Int32) = nI (cy_p c + 1) from nI_1 _]
    refine LO.yes rfl rfl ((H1.w (Or.inr (Or.inl (by omega)))).w (Or.inl (by omega))) ((T1.wm (by decide) (by decide)).wm (by decide) (by decide)) hfi (fin 1 _ _ (by omega) (fun a k u1 u2 => ?_) (fun a k u => rfl)) ?_ hF
    · rw [am_w_r]
      by_cases z1 : a = w + 13
      · rw [if_pos z1]
        by_cases z2 : k = cy_p c
        · rw [if_pos z2, rc _ _ u1 u2, z1, z2]; simp [am_w_r]; rfl
        · rw [if_neg z2]
      · rw [if_neg z1]
    · show ρ.1 (addP c ho sh 1 0 3) ≤ _
      rw [er]; omega
  · rw [z, if_pos rfl, e1, am_o1_s, e2, am_o2_s, if_neg (show ¬ (1 : Int32) = 0 by decide)]
    rcases S_numI (w := w) (xr := xr) (lo := 0) (hi := 99) (a := 0) (b := 99) rfl rfl hx e3 ht hrr hr (by decide) (by decide) with ⟨we, ivc5, ivm5, ty5, fi5, be5, l1, l2, p1, p2, p3, p4, p5, p6, p7⟩ | ⟨ivc5, ivm5, p1, p2, p3, p4⟩
    · have m5 : ivm5 58 13 = nI (cy_p c) := by rw [p7.r (by decide), e6.r (by decide), am_w_other _ _ _ (by decide)]; exact m13
      rw [p1, am_o2_s, if_neg (show ¬ (1 : Int32) = 0 by decide), if_pos (vb n4 (by decide)), am_cl (show cy_p c < 65536 by omega), p3, p2, am_o2_s, if_pos (vb hi10 (by decide)), show (13 : Int32).toNatClampNeg = 13 from by decide, am_w_other _ _ _ (show (58 : Nat) ≠ 66 by decide), m5, show nI (cy_p c) + (1 : Int32) = nI (cy_p c + 1) from nI_1 _]
      refine LO.yes rfl rfl ((((H1.tr e6.hk).tr p7.hk).w (Or.inr (Or.inl (by omega)))).w (Or.inl (by omega))) (((p4.wc (by omega) (by omega)).wm (by decide) (by decide)).wm (by decide) (by decide)) (by omega) (fin we _ _ (by omega) (fun a k u1 u2 => ?_) (fun a k u => ?_)) ?_ (((hF.fcm hr e5).fcm hr p6).wr (by omega))
      · rw [am_w_r, am_w_r, p6 a k u1 (Or.inl u2), e5 a k u1 (Or.inl u2)]
      · rw [am_w_r, am_w_r, p7 a k (by omega), e6 a k (by omega), am_w_r (am_w (am_w ivm 65 (5 + cy_p c) x) 66 (5 + cy_p c) (nI we)), am_w_r (am_w ivm 65 (5 + cy_p c) x) 66]
      · show ρ.1 (addP c ho sh we 0 3) ≤ _
        rw [er]; omega
    · rw [p1, am_o2_s, if_pos (show (0 : Int32) = 0 from rfl), p2, am_o2_s, if_pos (vb hi10 (by decide)), show (13 : Int32).toNatClampNeg = 13 from by decide]
      exact LO.no rfl rfl ((((H1.tr e6.hk).tr p4.hk).w (Or.inr (Or.inl (by omega)))).w (Or.inl (by omega))) ((p3.wm (by decide)).wm (by decide))
/-- the model goes on after a fault -/
theorem NB_p73 {i : Nat} {x : Int32} (hi : i < 10) (hb : ¬ iv 54 25 = 0) : J_X10_readPerson_73 (nI i) (nI i) x iv = some (am_w (am_w (am_w iv 65 i x) 66 i 1) 58 13 (iv 58 13 + 1)) := by
  have hb2 : ¬ am_w iv 65 i x 54 25 = 0 := by rw [am_w_other _ _ _ (by decide)]; exact hb
  unfold J_X10_readPerson_73 J_X10_readPerson_100
  rw [if_pos (vb hi (by decide)), am_cl (by omega), NB_pass hb2, am_o2_s, if_pos (show (0 : Int32) = 0 from rfl), if_pos (vb hi (by decide)), show (13 : Int32).toNatClampNeg = 13 from by decide, am_w_other _ _ _ (show (58 : Nat) ≠ 66 by decide), am_w_other _ _ _ (show (58 : Nat) ≠ 65 by decide)]
theorem S_person (hx : TX τ n) (hw : w = 2 ∨ w = 22) (ht : 89 ≤ t) (hrr : 89 ≤ rr) (hr : rr ≠ t) (h : TR t ivc ivm τ n ty fi be) (hc : CP w ivc ivm c ρ) (hF : FG rr ivc f) (hb : ρ.1 (cy_r c) ≤ fi) : LO w t rr τ n fi f ivm (F_X1_readPerson w t rr xr ivc) (F_X10_readPerson ivm) := by
  have hok := hc.2.2.2.1
  obtain ⟨k1, k2, k3, k4, k5, k6, k7, k8, k9⟩ := hok
  have cn : ivc (w + 10) 0 = nI (cy_p c) := hc.1.1.2.2.2.2.1
  have mn : ivm 58 13 = nI (cy_p c) := hc.2.2.1.1.2.2.2.1
  unfold F_X1_readPerson F_X10_readPerson
  rw [cn, show (13 : Int32).toNatClampNeg = 13 from by decide, mn, show (5 : Int32) = nI 5 from rfl, nlt (by omega) (by omega), neq (by omega) (by omega)]
  by_cases n5 : cy_p c = 5
  · unfold J_X10_readPerson_16 F_X8_refuse
    rw [if_neg (by omega), if_pos n5, P_wrong h.2.2.2, am_o1_s, if_neg (nbw (by decide)), am_o2_s, if_pos (Or.inl rfl)]
    exact LO.no rfl rfl fM.wr.hk (EE.of h.1 h.2.1 (by decide))
  · have n4 : cy_p c < 5 := by omega
    obtain ⟨ivc1, ivm1, a1, a2, a3, a4, a5, a6⟩ := h.adv hx ht rr
    have hfb := h.2.2.1.1
    have hc1 := hc.fcm hw ht hrr a5 a6
    have mn1 : ivm1 58 13 = nI (cy_p c) := hc1.2.2.1.1.2.2.2.1
    have hi10 : 5 + cy_p c < 10 := by omega
    unfold J_X10_readPerson_16
    rw [if_pos n4, a1, am_o1_s, if_neg n5, if_pos h.2.2.2, a2, am_o1_s, show (13 : Int32).toNatClampNeg = 13 from by decide, mn1, show (5 : Int32) + nI (cy_p c) = nI (5 + cy_p c) from nI_add 5 (cy_p c)]
    have so := S_of (w := w) (xr := xr) (c := c) (i := 0) hx hw ht hrr hr a3 hc.2.2.2.1 (by decide) hc1.1.1.2.2.2.1 (fun j hj => (hc1.1.2.1 j hj).1) hc1.2.2.1.1.2.2.1 (fun j hj => (hc1.2.2.1.2.1 j hj).1)
    rw [show nI 0 = (0 : Int32) from rfl] at so
    rcases so with ⟨ho, ivc2, ivm2, ty2, fi2, be2, o1, o2, e1, e2, e3, e4, e5, e6, e7⟩ | ⟨ivc2, ivm2, x2, e1, e2, e3, e4⟩
    · have hc2 := hc1.fcm hw ht hrr e6 e7
      have cn2 : ivc2 (w + 10) 0 = nI (cy_p c) := hc2.1.1.2.2.2.2.1
      have hF2 := (hF.fcm hr a5).fcm hr e6
      rw [e1, am_o2_s, if_neg (show ¬ (1 : Int32) = 0 by decide), e3, K_addP cn2 n4, am_o1_s, e2, am_o2_s, if_pos (vb hi10 (by decide)), am_cl (show 5 + cy_p c < 65536 by omega)]
      have T3 : TR t (am_w (am_w (am_w (am_w ivc2 (w + 11) (cy_p c) (nI ho)) (w + 12) (cy_p c) (-1)) (w + 13) (cy_p c) 1) (w + 10) 0 (nI (cy_p c + 1))) (am_w ivm2 64 (5 + cy_p c) (nI ho)) τ n ty2 fi2 be2 := ((((e4.wc (by omega) (by omega)).wc (by omega) (by omega)).wc (by omega) (by omega)).wc (by omega) (by omega)).wm (by decide) (by decide)
      have F3 : FG rr (am_w (am_w (am_w (am_w ivc2 (w + 11) (cy_p c) (nI ho)) (w + 12) (cy_p c) (-1)) (w + 13) (cy_p c) 1) (w + 10) 0 (nI (cy_p c + 1))) f := (((hF2.wr (by omega)).wr (by omega)).wr (by omega)).wr (by omega)
      have H3 : Hk ivm (am_w ivm2 64 (5 + cy_p c) (nI ho)) := (a6.hk.tr e7.hk).w (Or.inr (Or.inl (by omega)))
      rw [K_isWord hx T3.1 T3.2.2.1 (by decide), am_o1_s, ifb, wbP.2]
      rcases P_pass (rr := rr) (j := 52) hx T3 ht (by decide) with ⟨z, e⟩ | ⟨z, ivc4, ivm4, g1, g2, g3, g4, g5, g6⟩
      · rw [z, e, if_neg (show ¬ false = true by decide), am_o2_s, if_pos (show (0 : Int32) = 0 from rfl)]
        exact S_weight (ivc0 := ivc2) (ivm1 := ivm2) (sh := 0) (ho := ho) hx hw ht hrr hr T3 hc2 F3 (by omega) (by omega) n4 o1 o2 (by omega) (fun q => absurd rfl q) rfl H3 (fun a k _ _ => rfl) (fun a k _ => rfl)
      · rw [z, if_pos rfl, g1, am_o1_s, g2, am_o2_s, if_neg (show ¬ (1 : Int32) = 0 by decide)]
        have cc : ∀ j, ivc4 (w + 2) j = ivc2 (w + 2) j := fun j => by rw [g5.r (by omega) (by omega)]; simp [am_w_r]
        have so := S_of (w := w) (xr := xr) (c := c) (i := 1) hx hw ht hrr hr g3 hc.2.2.2.1 (by decide) (by rw [g5.r (by omega) (by omega)]; simp [am_w_r]; exact hc2.1.1.2.2.2.1) (fun j hj => by rw [cc]; exact (hc2.1.2.1 j hj).1) (by rw [g6.r (by decide), am_w_other _ _ _ (by decide)]; exact hc2.2.2.1.1.2.2.1) (fun j hj => by rw [g6.r (by decide), am_w_other _ _ _ (by decide)]; exact (hc2.2.2.1.2.1 j hj).1)
        rw [show nI 1 = (1 : Int32) from rfl] at so
        rcases so with ⟨s1, ivc5, ivm5, ty5, fi5, be5, s2, s3, p1, p2, p3, p4, p5, p6, p7⟩ | ⟨ivc5, ivm5, x5, p1, p2, p3, p4⟩
        · rw [p1, am_o2_s, if_neg (show ¬ (1 : Int32) = 0 by decide), if_pos (vb n4 (by decide)), am_cl (show cy_p c < 65536 by omega), p3, p2, am_o2_s]
          refine S_weight (ivc0 := ivc2) (ivm1 := ivm2) (sh := s1 + 1) (ho := ho) hx hw ht hrr hr (p4.wc (by omega) (by omega)) hc2 (((F3.fcm hr g5).fcm hr p6).wr (by omega)) (by omega) (by omega) n4 o1 o2 (by omega) (fun _ => s3) rfl ((H3.tr g6.hk).tr p7.hk) (fun a k u1 u2 => ?_) (fun a k u => ?_)
          · rw [am_w_r, p6 a k u1 (Or.inl u2), g5 a k u1 (Or.inl u2)]
            simp only [am_w_r]
            by_cases z1 : a = w + 12
            · rw [if_pos z1, if_neg (show ¬ a = w + 10 by omega), if_neg (show ¬ a = w + 10 by omega), if_neg (show ¬ a = w + 13 by omega), if_neg (show ¬ a = w + 13 by omega), if_pos z1, if_pos z1]
              by_cases z2 : k = cy_p c
              · rw [if_pos z2, if_pos z2]
              · simp only [if_neg z2]
            · rw [if_neg z1, if_neg z1, if_neg z1]
          · rw [p7 a k (by omega), g6 a k (by omega)]
        · rw [p1, am_o2_s, if_pos (show (0 : Int32) = 0 from rfl), p2, am_o2_s, NB_p73 hi10 p3.1]
          exact LO.no rfl rfl (((((H3.tr g6.hk).tr p4.hk).w (Or.inr (Or.inl (by omega)))).w (Or.inr (Or.inl (by omega)))).w (Or.inl (by omega))) (((p3.wm (by decide)).wm (by decide)).wm (by decide))
    · have hnb : ¬ am_w ivm2 64 (5 + cy_p c) x2 54 25 = 0 := by rw [am_w_other _ _ _ (by decide)]; exact e3.1
      rw [e1, am_o2_s, if_pos (show (0 : Int32) = 0 from rfl), e2, am_o2_s, if_pos (vb hi10 (by decide)), am_cl (show 5 + cy_p c < 65536 by omega), NB_pass hnb, am_o2_s, if_pos (show (0 : Int32) = 0 from rfl), NB_p73 hi10 hnb]
      exact LO.no rfl rfl (((((a6.hk.tr e4.hk).w (Or.inr (Or.inl (by omega)))).w (Or.inr (Or.inl (by omega)))).w (Or.inr (Or.inl (by omega)))).w (Or.inl (by omega))) ((((e3.wm (by decide)).wm (by decide)).wm (by decide)).wm (by decide))
end B86
