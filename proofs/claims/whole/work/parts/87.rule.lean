/-! reading a line on both sides: a rule -/
section B87
variable {w t rr xr : Nat} {ivc ivm ivc' ivm' iv : am_I} {τ : Nat → Nat} {n ty fi be : Nat} {c : Nat → Nat → Nat} {ρ : ru_T} {f : Nat → Bool}
theorem sg_wf_cong {f g : Nat → Int32} {k len : Nat} (h : ∀ i, i < len → f (k + i) = g (k + i)) (hw : sg_wf f k len) : sg_wf g k len := by
  refine ⟨fun m hm => ?_, ?_⟩
  · rw [← h m hm, ← sg_dp_cong m (fun i hi => h i (by omega))]; exact hw.1 m hm
  · rw [← sg_dp_cong len h]; exact hw.2
theorem K_endRule {m L : Nat} (h : iv (w + 14) 0 = nI m) (h1 : iv (w + 14) 1 = nI L) (hm : m < 4) : F_X5_endRule w iv = some (am_w (am_w iv (w + 14) 0 (nI (m + 1))) (w + 15) (m + 1) (nI L)) := by
  unfold F_X5_endRule
  rw [h, if_neg (show ¬ (4 : Int32) ≤ nI m from nI_ge hm (by decide)), show nI m + (1 : Int32) = nI (m + 1) from nI_1 m, show am_w iv (w + 14) 0 (nI (m + 1)) (w + 14) 0 = nI (m + 1) by rw [am_w_r, if_pos rfl, if_pos rfl], show am_w iv (w + 14) 0 (nI (m + 1)) (w + 14) 1 = nI L by rw [am_w_r, if_pos rfl, if_neg (by decide)]; exact h1, if_pos (vb (show m + 1 < 5 by omega) (by decide)), am_cl (by omega)]
theorem upd3_ok {v : Nat} (h : cy_ok c) (hv : v ≤ 4) : cy_ok (upd0 c 3 v) := by
  have hu : ∀ a b, ¬ (a = 0 ∧ b = 3) → upd0 c 3 v a b = c a b := fun a b hn => by unfold upd0; rw [if_neg hn]
  obtain ⟨a1, a2, a3, a4, a5, a6, a7, a8, a9⟩ := h
  refine ⟨?_, ?_, ?_, hv, ?_, ?_, ?_, fun j hj => ?_, fun p hp => ?_⟩
  · exact a1
  · exact a2
  · exact a3
  · exact a5
  · exact a6
  · exact a7
  · have := a8 j hj
    show upd0 c 3 v 1 j ≤ 3 ∧ upd0 c 3 v 2 j + upd0 c 3 v 5 j < upd0 c 3 v 0 4 ∧ upd0 c 3 v 3 j < upd0 c 3 v 0 5 ∧ 1 ≤ upd0 c 3 v 4 j ∧ upd0 c 3 v 4 j ≤ 9 ∧ upd0 c 3 v 5 j ≤ 1
    rw [hu 0 4 (by omega), hu 0 5 (by omega), hu 1 j (by omega), hu 2 j (by omega), hu 3 j (by omega), hu 4 j (by omega), hu 5 j (by omega)]
    exact this
  · have := a9 p hp
    show upd0 c 3 v 6 p < upd0 c 3 v 0 0 ∧ upd0 c 3 v 1 (upd0 c 3 v 6 p) = 0 ∧ upd0 c 3 v 7 p ≤ upd0 c 3 v 0 0 ∧ (upd0 c 3 v 7 p ≠ 0 → upd0 c 3 v 1 (upd0 c 3 v 7 p - 1) = 1) ∧ upd0 c 3 v 8 p ≤ 99
    rw [hu 0 0 (by omega), hu 6 p (by omega), hu 7 p (by omega), hu 8 p (by omega), hu 1 _ (by omega), hu 1 _ (by omega)]
    exact this
/-- the rules with one more -/
def ru_add (ρ : ru_T) (nr L : Nat) (g : Nat → Int32) : ru_T := (fun r => if r ≤ nr then ρ.1 r else L, g)
theorem CP.rule {L : Nat} {g : Nat → Int32} (hw : w = 2 ∨ w = 22) (ht : 89 ≤ t) (hrr : 89 ≤ rr) (h : CP w ivc ivm c ρ) (n4 : cy_r c < 4) (hL : ρ.1 (cy_r c) ≤ L ∧ L ≤ 700) (hg : ∀ k, k < ρ.1 (cy_r c) → g k = ρ.2 k) (hwf : sg_wf g (ρ.1 (cy_r c)) (L - ρ.1 (cy_r c)))
    (c0 : ivc' (w + 14) 0 = nI (cy_r c + 1) ∧ ivc' (w + 14) 1 = nI L ∧ ivc' (w + 15) (cy_r c + 1) = nI L ∧ ∀ k, k < L → ivc' (w + 16) k = cv (g k))
    (hc : ∀ a k, a ≠ t → a ≠ rr → ¬ (a = w + 14) → ¬ (a = w + 15 ∧ k = cy_r c + 1) → a ≠ w + 16 → ivc' a k = ivc a k)
    (m0 : ivm' 58 15 = nI (cy_r c + 1) ∧ ivm' 54 28 = nI L ∧ ivm' 67 (4 + cy_r c) = nI (ρ.1 (cy_r c)) ∧ ivm' 68 (4 + cy_r c) = nI L ∧ ∀ k, k < L → ivm' 69 (700 + k) = g k)
    (hm : ∀ a k, a ≠ 54 → ¬ (a = 58 ∧ k = 15) → ¬ (67 ≤ a ∧ a ≤ 68 ∧ k = 4 + cy_r c) → a ≠ 69 → ivm' a k = ivm a k) : CP w ivc' ivm' (upd0 c 3 (cy_r c + 1)) (ru_add ρ (cy_r c) L g) := by
  obtain ⟨⟨h1, h1b, h1c⟩, h2, ⟨h3, h3b, h3c⟩, h4, h5, h6, h7⟩ := h
  have hu : ∀ a b, ¬ (a = 0 ∧ b = 3) → upd0 c 3 (cy_r c + 1) a b = c a b := fun a b hn => by unfold upd0; rw [if_neg hn]
  have hc' : ∀ a k, w ≤ a → a < w + 14 → ivc' a k = ivc a k := fun a k q1 q2 => hc a k (by omega) (by omega) (by omega) (by omega) (by omega)
  have hm' : ∀ a k, 58 ≤ a → a < 67 → ¬ (a = 58 ∧ k = 15) → ivm' a k = ivm a k := fun a k q1 q2 q3 => hm a k (by omega) q3 (by omega) (by omega)
  have hsh : ∀ p, cy_shI (upd0 c 3 (cy_r c + 1)) p = cy_shI c p := fun p => by unfold cy_shI; rw [show cy_sh (upd0 c 3 (cy_r c + 1)) p = cy_sh c p from hu 7 p (by omega)]
  have er : cy_r (upd0 c 3 (cy_r c + 1)) = cy_r c + 1 := if_pos ⟨rfl, rfl⟩
  have en : cy_n (upd0 c 3 (cy_r c + 1)) = cy_n c := hu 0 0 (by omega)
  have ep : cy_p (upd0 c 3 (cy_r c + 1)) = cy_p c := hu 0 2 (by omega)
  have ee : cy_re (upd0 c 3 (cy_r c + 1)) = cy_re c := hu 0 1 (by omega)
  have ra : ∀ r, r ≤ cy_r c → (ru_add ρ (cy_r c) L g).1 r = ρ.1 r := fun r hr => if_pos hr
  have rb : (ru_add ρ (cy_r c) L g).1 (cy_r c + 1) = L := if_neg (by omega)
  refine ⟨⟨?_, fun j hj => ?_, fun p hp => ?_⟩, ?_, ⟨?_, fun j hj => ?_, fun p hp => ?_⟩, upd3_ok h4 (by omega), ?_, ?_, ?_⟩
  · rw [c0.1, hc' _ _ (by omega) (by omega), hc' _ _ (by omega) (by omega), hc' _ _ (by omega) (by omega), hc' _ _ (by omega) (by omega), hc' _ _ (by omega) (by omega), er, en, ep, ee, hu 0 4 (by omega), hu 0 5 (by omega)]
    exact ⟨h1.1, h1.2.1, h1.2.2.1, h1.2.2.2.1, h1.2.2.2.2.1, rfl⟩
  · rw [en] at hj
    rw [hc' _ _ (by omega) (by omega), hc' _ _ (by omega) (by omega), hc' _ _ (by omega) (by omega), hc' _ _ (by omega) (by omega), hc' _ _ (by omega) (by omega), show cy_kd (upd0 c 3 (cy_r c + 1)) j = cy_kd c j from hu 1 j (by omega), show cy_co (upd0 c 3 (cy_r c + 1)) j = cy_co c j from hu 2 j (by omega), show cy_st (upd0 c 3 (cy_r c + 1)) j = cy_st c j from hu 3 j (by omega), show cy_le (upd0 c 3 (cy_r c + 1)) j = cy_le c j from hu 4 j (by omega), show cy_wi (upd0 c 3 (cy_r c + 1)) j = cy_wi c j from hu 5 j (by omega)]
    exact h1b j hj
  · rw [ep] at hp
    rw [hsh, hc' _ _ (by omega) (by omega), hc' _ _ (by omega) (by omega), hc' _ _ (by omega) (by omega), show cy_ho (upd0 c 3 (cy_r c + 1)) p = cy_ho c p from hu 6 p (by omega), show cy_we (upd0 c 3 (cy_r c + 1)) p = cy_we c p from hu 8 p (by omega)]
    exact h1c p hp
  · unfold cl_B
    rw [hc' _ _ (by omega) (by omega), hc' _ _ (by omega) (by omega), hc' _ _ (by omega) (by omega), hc' _ _ (by omega) (by omega), hu 0 6 (by omega), hu 0 7 (by omega), hu 0 8 (by omega), hu 0 9 (by omega)]
    exact h2
  · rw [m0.1, hm' _ _ (by omega) (by omega) (by omega), hm' _ _ (by omega) (by omega) (by omega), hm' _ _ (by omega) (by omega) (by omega), hm' _ _ (by omega) (by omega) (by omega), hm' _ _ (by omega) (by omega) (by omega), hm' _ _ (by omega) (by omega) (by omega), hm' _ _ (by omega) (by omega) (by omega), hm' _ _ (by omega) (by omega) (by omega), hm' _ _ (by omega) (by omega) (by omega), er, en, ep, ee, hu 0 4 (by omega), hu 0 5 (by omega), hu 0 6 (by omega), hu 0 7 (by omega), hu 0 8 (by omega), hu 0 9 (by omega)]
    exact ⟨h3.1, h3.2.1, h3.2.2.1, h3.2.2.2.1, h3.2.2.2.2.1, rfl, h3.2.2.2.2.2.2⟩
  · rw [en] at hj
    rw [hm' _ _ (by omega) (by omega) (by omega), hm' _ _ (by omega) (by omega) (by omega), hm' _ _ (by omega) (by omega) (by omega), hm' _ _ (by omega) (by omega) (by omega), hm' _ _ (by omega) (by omega) (by omega), show cy_kd (upd0 c 3 (cy_r c + 1)) j = cy_kd c j from hu 1 j (by omega), show cy_co (upd0 c 3 (cy_r c + 1)) j = cy_co c j from hu 2 j (by omega), show cy_st (upd0 c 3 (cy_r c + 1)) j = cy_st c j from hu 3 j (by omega), show cy_le (upd0 c 3 (cy_r c + 1)) j = cy_le c j from hu 4 j (by omega), show cy_wi (upd0 c 3 (cy_r c + 1)) j = cy_wi c j from hu 5 j (by omega)]
    exact h3b j hj
  · rw [ep] at hp
    rw [hsh, hm' _ _ (by omega) (by omega) (by omega), hm' _ _ (by omega) (by omega) (by omega), hm' _ _ (by omega) (by omega) (by omega), show cy_ho (upd0 c 3 (cy_r c + 1)) p = cy_ho c p from hu 6 p (by omega), show cy_we (upd0 c 3 (cy_r c + 1)) p = cy_we c p from hu 8 p (by omega)]
    exact h3c p hp
  · rw [er]
    refine ⟨fun r hr => ?_, by rw [rb]; exact c0.2.1, fun k hk => by rw [rb] at hk; exact c0.2.2.2 k hk⟩
    by_cases e : r = cy_r c + 1
    · rw [e, rb]; exact c0.2.2.1
    · rw [ra r (by omega), hc _ _ (by omega) (by omega) (by omega) (by omega) (by omega)]
      exact h5.1 r (by omega)
  · rw [er]
    refine ⟨fun r hr => ?_, by rw [rb]; exact m0.2.1, fun k hk => by rw [rb] at hk; exact m0.2.2.2.2 k hk⟩
    by_cases e : r = cy_r c
    · rw [e, rb, ra _ (Nat.le_refl _)]; exact ⟨m0.2.2.1, m0.2.2.2.1⟩
    · rw [ra r (by omega), ra (r + 1) (by omega), hm _ _ (by omega) (by omega) (by omega) (by omega), hm _ _ (by omega) (by omega) (by omega) (by omega)]
      exact h6.1 r (by omega)
  · rw [er]
    refine ⟨by rw [ra 0 (by omega)]; exact h7.1, by rw [rb]; exact hL.2, fun r hr => ?_⟩
    by_cases e : r = cy_r c
    · rw [e, rb, ra _ (Nat.le_refl _)]; exact ⟨hL.1, hwf⟩
    · obtain ⟨q1, q2⟩ := h7.2.2 r (by omega)
      have hmo := ru_mono h7 (cy_r c - (r + 1)) (r + 1) (by omega)
      rw [ra r (by omega), ra (r + 1) (by omega)]
      exact ⟨q1, sg_wf_cong (fun i hi => (hg _ (by omega)).symm) q2⟩
theorem S_rule (hx : TX τ n) (hw : w = 2 ∨ w = 22) (ht : 89 ≤ t) (hrr : 89 ≤ rr) (hr : rr ≠ t) (h : TR t ivc ivm τ n ty fi be) (hc : CP w ivc ivm c ρ) (hF : FG rr ivc f) (hb : ρ.1 (cy_r c) ≤ fi) : LO w t rr τ n fi f ivm (F_X3_readRule w t rr xr ivc) (F_X10_readRule ivm) := by
  have hn := hx.1
  have hok := hc.2.2.2.1
  obtain ⟨k1, k2, k3, k4, k5, k6, k7, k8, k9⟩ := hok
  have cn : ivc (w + 14) 0 = nI (cy_r c) := hc.1.1.2.2.2.2.2
  have mn : ivm 58 15 = nI (cy_r c) := hc.2.2.1.1.2.2.2.2.2.1
  unfold F_X3_readRule F_X10_readRule
  rw [cn, show (15 : Int32).toNatClampNeg = 15 from by decide, mn, show (4 : Int32) = nI 4 from rfl, nlt (by omega) (by omega), neq (by omega) (by omega)]
  by_cases n4' : cy_r c = 4
  · unfold J_X10_readRule_16 F_X8_refuse
    rw [if_neg (by omega), if_pos n4', P_wrong h.2.2.2, am_o1_s, if_neg (nbw (by decide)), am_o2_s, if_pos (Or.inl rfl)]
    exact LO.no rfl rfl fM.wr.hk (EE.of h.1 h.2.1 (by decide))
  · have n4 : cy_r c < 4 := by omega
    obtain ⟨ivc1, ivm1, a1, a2, a3, a4, a5, a6⟩ := h.adv hx ht rr
    have hfb := h.2.2.1.1
    have hc1 := hc.fcm hw ht hrr a5 a6
    have mn1 : ivm1 58 15 = nI (cy_r c) := hc1.2.2.1.1.2.2.2.2.2.1
    have m28 : ivm1 54 28 = nI (ρ.1 (cy_r c)) := hc1.2.2.2.2.2.1.2.1
    have hi8 : 4 + cy_r c < 8 := by omega
    unfold J_X10_readRule_16
    rw [if_pos n4, a1, am_o1_s, if_neg n4', if_pos h.2.2.2, a2, am_o1_s, show (15 : Int32).toNatClampNeg = 15 from by decide, mn1, show (4 : Int32) + nI (cy_r c) = nI (4 + cy_r c) from nI_add 4 (cy_r c), if_pos (vb hi8 (by decide)), am_cl (show 4 + cy_r c < 65536 by omega), m28]
    have T1 : TR t ivc1 (am_w ivm1 67 (4 + cy_r c) (nI (ρ.1 (cy_r c)))) τ n _ _ _ := a3.wm (by decide) (by decide)
    have H1 : Hk ivm (am_w ivm1 67 (4 + cy_r c) (nI (ρ.1 (cy_r c)))) := a6.hk.w (Or.inr (Or.inr (Or.inl (by omega))))
    have hCD : CD w ivc1 (am_w ivm1 67 (4 + cy_r c) (nI (ρ.1 (cy_r c)))) (ρ.1 (cy_r c)) (ρ.1 (cy_r c)) 0 := by
      refine ⟨⟨hc1.2.2.2.2.1.2.1, by rw [am_w_other _ _ _ (by decide)]; exact m28⟩, fun k hk => ?_, Nat.le_refl _, fun m hm => by omega, by rw [Nat.sub_self]; rfl⟩
      rw [am_w_other _ _ _ (by decide), hc1.2.2.2.2.2.1.2.2 k hk]
      exact hc1.2.2.2.2.1.2.2 k hk
    obtain ⟨b, ivc2, ivm2, e1, e2, e3, e4⟩ := S_expr (w := w) (rr := rr) (xr := xr) (k0 := ρ.1 (cy_r c)) hx hw ht 6 0 18 3 rfl ivc1 _ _ _ _ (ρ.1 (cy_r c)) 0 0 ⟨T1.1, T1.2.1, T1.2.2.1, T1.2.2.2, hCD⟩ (by omega) (by omega)
    have e1' : F_X3_readLevel w t rr xr 60 (0 : Int32) (0 : Int32) ivc1 = some (am_bi b, ivc2) := N_expr0 e1
    have e2' : F_X10_readExpression 10 (0 : Int32) (am_w ivm1 67 (4 + cy_r c) (nI (ρ.1 (cy_r c)))) = some ivm2 := e2
    have fc := X_X3_readLevel e1'
    have fm := X_X10_readExpression e2'
    obtain ⟨⟨L28, hl28, el28⟩, f69⟩ := HF_X10_readExpression 10 e2' ⟨ρ.1 (cy_r c), hc.2.2.2.2.2.2.2.1, by rw [am_w_other _ _ _ (by decide)]; exact m28⟩
    have H2 : Hk ivm ivm2 := H1.tr fun a k q => by
      by_cases q69 : a = 69
      · subst q69
        exact f69 k (by unfold hs at q; omega)
      · exact fm a k (by simp [q69]) (by simp; unfold hs at q; omega)
    have m15 : ivm2 58 15 = nI (cy_r c) := by rw [fm _ _ (by simp) (by simp), am_w_other _ _ _ (by decide)]; exact mn1
    rw [e1', am_o2_s, ifb, e2', am_o1_s, if_pos (vb hi8 (by decide)), am_w_other _ _ _ (show (58 : Nat) ≠ 68 by decide), m15, show nI (cy_r c) + (1 : Int32) = nI (cy_r c + 1) from nI_1 _]
    have H3 : Hk ivm (am_w (am_w ivm2 68 (4 + cy_r c) (ivm2 54 28)) 58 15 (nI (cy_r c + 1))) := (H2.w (Or.inr (Or.inr (Or.inl (by omega))))).w (Or.inl (by omega))
    cases b with
    | false =>
      rw [if_neg (show ¬ false = true by decide)]
      exact LO.no rfl rfl H3 (((e4 rfl).wm (by decide)).wm (by decide))
    | true =>
      obtain ⟨ty', fi', be', L', g1, g2, g3, g4, g5, g6⟩ := e3 rfl
      have hcd := g1.2.2.2.2
      have cn2 : ivc2 (w + 14) 0 = nI (cy_r c) := by rw [fc _ _ (by simp) (by simp <;> omega)]; exact hc1.1.1.2.2.2.2.2
      have hfn := g1.2.2.1.1
      have hbn := g1.2.2.1.2.1
      have hTK := a3.2.2.1
      have hfb1 := (hTK.2.2.2.2.1 g3).1
      rw [if_pos rfl, K_endRule cn2 hcd.1.1 n4, am_o1_s]
      refine LO.yes rfl rfl H3 (((TR.wc ⟨g1.1, g1.2.1, g1.2.2.1, g1.2.2.2.1⟩ (by omega) (by omega)).wc (by omega) (by omega)).wm (by decide) (by decide) |>.wm (by decide) (by decide)) (by omega) (CP.rule (L := L') (g := fun k => ivm2 69 (700 + k)) (t := t) (rr := rr) hw ht hrr hc1 n4 ⟨g5, by omega⟩ (fun k hk => ?_) ⟨hcd.2.2.2.1, hcd.2.2.2.2⟩ ⟨?_, ?_, ?_, fun k hk => ?_⟩ (fun a k u1 u2 u3 u4 u5 => ?_) ⟨?_, ?_, ?_, ?_, fun k hk => ?_⟩ (fun a k u1 u2 u3 u4 => ?_)) ?_ (FG.wr (FG.wr ?_ (by omega)) (by omega))
      · show ivm2 69 (700 + k) = _
        rw [g6 k hk, am_w_other _ _ _ (by decide)]; exact hc1.2.2.2.2.2.1.2.2 k hk
      · simp [am_w_r]
      · simp [am_w_r]; exact hcd.1.1
      · simp [am_w_r]
      · simp [am_w_r]; exact hcd.2.1 k hk
      · rw [am_w_r, am_w_r, if_neg u3]
        have v0 : ivc2 a k = ivc1 a k := fc a k (by simp; omega) (by simp; omega)
        by_cases z : a = w + 15
        · rw [if_pos z, if_neg (by omega)]; exact v0
        · rw [if_neg z]; exact v0
      · simp [am_w_r]
      · simp [am_w_r]; exact hcd.1.2
      · rw [am_w_other _ _ _ (by decide), am_w_other _ _ _ (by decide), fm _ _ (by simp) (by simp)]; simp [am_w_r]
      · simp [am_w_r]; exact hcd.1.2
      · simp [am_w_r]
      · have v0 : ivm2 a k = am_w ivm1 67 (4 + cy_r c) (nI (ρ.1 (cy_r c))) a k := fm a k (by simp [u4]) (by simp; omega)
        rw [am_w_r, am_w_r, v0, am_w_r]
        by_cases z : k = 4 + cy_r c
        · rw [if_neg (show ¬ a = 68 by omega), if_neg (show ¬ a = 67 by omega)]
          by_cases z1 : a = 58
          · rw [if_pos z1, if_neg (by omega)]
          · rw [if_neg z1]
        · simp only [if_neg z]
          by_cases z1 : a = 58
          · rw [if_pos z1, if_neg (by omega)]; simp
          · rw [if_neg z1]; simp
      · show (ru_add ρ (cy_r c) L' _).1 (upd0 c 3 (cy_r c + 1) 0 3) ≤ fi'
        rw [show upd0 c 3 (cy_r c + 1) 0 3 = cy_r c + 1 from if_pos ⟨rfl, rfl⟩, show (ru_add ρ (cy_r c) L' (fun k => ivm2 69 (700 + k))).1 (cy_r c + 1) = L' from if_neg (by omega)]
        omega
      · have hF1 := hF.fcm hr a5
        unfold FG at hF1 ⊢
        rw [fc _ _ (by simp; omega) (by simp; omega), fc _ _ (by simp; omega) (by simp; omega), fc _ _ (by simp; omega) (by simp; omega)]
        exact hF1
end B87
