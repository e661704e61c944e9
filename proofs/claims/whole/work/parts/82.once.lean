/-! reading a line on both sides: reach, rent, wind -/
theorem loop3 {σ ρ : Type} {f : σ → Option (σ ⊕ ρ)} {s0 s1 s2 s3 : σ} {x : ρ} (h0 : f s0 = some (.inl s1)) (h1 : f s1 = some (.inl s2)) (h2 : f s2 = some (.inl s3)) (h3 : f s3 = some (.inr x)) : am_loop f s0 = some x :=
  am_loop_seq (fun i => if i = 0 then s0 else if i = 1 then s1 else if i = 2 then s2 else s3) 3 (by omega) rfl (fun k hk => by
    have : k = 0 ∨ k = 1 ∨ k = 2 := by omega
    rcases this with rfl | rfl | rfl
    · exact h0
    · exact h1
    · exact h2) h3
section B82
variable {w t rr xr : Nat} {ivc ivm ivc' ivm' : am_I} {τ : Nat → Nat} {n ty fi be : Nat} {c : Nat → Nat → Nat} {ρ : ru_T} {f : Nat → Bool}
def tick (f : Nat → Bool) (k : Nat) : Nat → Bool := fun i => if i = k then true else f i
theorem CP.atR {k : Nat} {x : Int32} (hw : w = 2 ∨ w = 22) (hrr : 89 ≤ rr) (h : CP w ivc ivm c ρ) : CP w (am_w ivc rr k x) ivm c ρ := h.fr (fun k hk => by rw [am_w_other _ _ _ (by omega)]) (fun _ _ _ => rfl) rfl
theorem FG.t0 (h : FG rr ivc f) : FG rr (am_w ivc rr 3 1) (tick f 0) := by
  unfold FG at h ⊢; simp [am_w_r, tick, h.2.1, h.2.2]; rfl
theorem FG.t1 (h : FG rr ivc f) : FG rr (am_w ivc rr 4 1) (tick f 1) := by
  unfold FG at h ⊢; simp [am_w_r, tick, h.1, h.2.2]; rfl
theorem FG.t2 (h : FG rr ivc f) : FG rr (am_w ivc rr 5 1) (tick f 2) := by
  unfold FG at h ⊢; simp [am_w_r, tick, h.1, h.2.1]; rfl
theorem S_reach (hx : TX τ n) (hw : w = 2 ∨ w = 22) (ht : 89 ≤ t) (hrr : 89 ≤ rr) (hr : rr ≠ t) (h : TR t ivc ivm τ n ty fi be) (hc : CP w ivc ivm c ρ) (hF : FG rr ivc f) (hb : ρ.1 (cy_r c) ≤ fi) : LO w t rr τ n fi (tick f 0) ivm (F_X1_readReach w t rr xr ivc) (F_X10_readOnce 0 ivm) := by
  obtain ⟨ivc1, ivm1, a1, a2, a3, a4, a5, a6⟩ := h.adv hx ht rr
  have hfb := h.2.2.1.1
  unfold F_X1_readReach F_X10_readOnce
  rw [a1, am_o1_s, a2, am_o1_s, if_pos rfl]
  rcases S_one (w := w) (xr := xr) (k := 1) (cc := 2) (mm := 14) (lo := 1) (hi := 9) rfl rfl (by decide) (by decide) hx hw ht hrr hr a3 (hc.fcm hw ht hrr a5 a6) (hF.fcm hr a5) (by simp [nums]) (fun v q1 q2 => upd0_ok hc.2.2.2.1 (Or.inl ⟨rfl, q1, q2⟩)) with ⟨v, ivc2, ivm2, ty2, fi2, be2, e1, e2, e3, e4, e5, e6, e7, e8⟩ | ⟨ivc2, ivm2, e1, e2, e3, e4⟩
  · rw [e1, am_o2_s, if_neg (by decide), e2, am_o2_s, e3, show (14 : Int32).toNatClampNeg = 14 from by decide]
    refine LO.yes rfl rfl (a6.hk.tr e8) (e4.wc (by omega) hr) (by omega) (e6.atR hw hrr) ?_ e7.t0
    rw [show cy_r (upd0 c 1 v) = cy_r c from upd0_n (by decide)]; omega
  · rw [e1, am_o2_s, if_pos rfl, e2, am_o2_s, show (14 : Int32).toNatClampNeg = 14 from by decide]
    exact LO.no rfl rfl (a6.hk.tr e4) e3
theorem S_windL (hx : TX τ n) (hw : w = 2 ∨ w = 22) (ht : 89 ≤ t) (hrr : 89 ≤ rr) (hr : rr ≠ t) (h : TR t ivc ivm τ n ty fi be) (hc : CP w ivc ivm c ρ) (hF : FG rr ivc f) (hb : ρ.1 (cy_r c) ≤ fi) : LO w t rr τ n fi (tick f 2) ivm (F_X1_readWind w t rr xr ivc) (F_X10_readOnce 2 ivm) := by
  obtain ⟨ivc1, ivm1, a1, a2, a3, a4, a5, a6⟩ := h.adv hx ht rr
  have hfb := h.2.2.1.1
  unfold F_X1_readWind F_X10_readOnce
  rw [a1, am_o1_s, a2, am_o1_s, if_neg (show ¬ (2 : Int32) = 0 by decide), if_pos rfl]
  rcases S_one (w := w) (xr := xr) (k := 9) (cc := 6) (mm := 19) (lo := 0) (hi := 1000) (a := 0) (b := 1000) rfl rfl (by decide) (by decide) hx hw ht hrr hr a3 (hc.fcm hw ht hrr a5 a6) (hF.fcm hr a5) (by simp [nums]) (fun v q1 q2 => upd0_ok hc.2.2.2.1 (Or.inr (Or.inr (Or.inl ⟨rfl, q2⟩)))) with ⟨v, ivc2, ivm2, ty2, fi2, be2, e1, e2, e3, e4, e5, e6, e7, e8⟩ | ⟨ivc2, ivm2, e1, e2, e3, e4⟩
  · rw [e1, am_o2_s, if_neg (by decide), e2, am_o2_s, e3, show (19 : Int32).toNatClampNeg = 19 from by decide]
    refine LO.yes rfl rfl (a6.hk.tr e8) (e4.wc (by omega) hr) (by omega) (e6.atR hw hrr) ?_ e7.t2
    rw [show cy_r (upd0 c 9 v) = cy_r c from upd0_n (by decide)]; omega
  · rw [e1, am_o2_s, if_pos rfl, e2, am_o2_s, show (19 : Int32).toNatClampNeg = 19 from by decide]
    exact LO.no rfl rfl (a6.hk.tr e4) e3
theorem B51 {i : Nat} {v : Int32} (h1 : 16 ≤ i) (h2 : i < 19) (e : F_X10_readNumber (0 : Int32) (99 : Int32) ivm = some (v, ivm')) : B_X10_readOnce_51 (nI i) ivm = some (.inl (nI (i + 1), am_w ivm' 58 i v)) := by
  unfold B_X10_readOnce_51
  rw [if_neg (show ¬ (19 : Int32) ≤ nI i from nI_ge (show i < 19 from h2) (by decide)), e, am_o2_s, if_pos (vb (show i < 20 by omega) (by decide)), am_cl (by omega), nI_1]
theorem B51e : B_X10_readOnce_51 (nI 19) ivm = some (.inr ivm) := by
  unfold B_X10_readOnce_51
  rw [if_pos (show (19 : Int32) ≤ nI 19 by decide)]
theorem S_rent (hx : TX τ n) (hw : w = 2 ∨ w = 22) (ht : 89 ≤ t) (hrr : 89 ≤ rr) (hr : rr ≠ t) (h : TR t ivc ivm τ n ty fi be) (hc : CP w ivc ivm c ρ) (hF : FG rr ivc f) (hb : ρ.1 (cy_r c) ≤ fi) : LO w t rr τ n fi (tick f 1) ivm (F_X1_readRent w t rr xr ivc) (F_X10_readOnce 1 ivm) := by
  obtain ⟨ivc1, ivm1, a1, a2, a3, a4, a5, a6⟩ := h.adv hx ht rr
  have hfb := h.2.2.1.1
  have hm : ∀ {s1 s2 s3 : am_I}, B_X10_readOnce_51 (nI 16) ivm1 = some (.inl (nI 17, s1)) → B_X10_readOnce_51 (nI 17) s1 = some (.inl (nI 18, s2)) → B_X10_readOnce_51 (nI 18) s2 = some (.inl (nI 19, s3)) → F_X10_readOnce 1 ivm = some s3 := by
    intro s1 s2 s3 q1 q2 q3
    unfold F_X10_readOnce
    rw [a2, am_o1_s, if_neg (show ¬ (1 : Int32) = 0 by decide), if_neg (show ¬ (1 : Int32) = 2 by decide), loop3 (f := fun s : Int32 × am_I => B_X10_readOnce_51 s.1 s.2) (s0 := ((16 : Int32), ivm1)) (s1 := (nI 17, s1)) (s2 := (nI 18, s2)) (s3 := (nI 19, s3)) (x := s3) q1 q2 q3 B51e, am_o1_s]
  unfold F_X1_readRent
  rw [a1, am_o1_s]
  have ok0 : ∀ (c' : Nat → Nat → Nat) k, cy_ok c' → 6 ≤ k → k ≤ 8 → ∀ v, 0 ≤ v → v ≤ 99 → cy_ok (upd0 c' k v) := fun c' k q1 q2 q3 v _ q4 => upd0_ok q1 (Or.inr (Or.inl ⟨q2, q3, q4⟩))
  have h16 : ∀ {i : Nat}, 16 ≤ i → hs 58 i := fun q => Or.inl (by omega)
  rcases S_one (w := w) (xr := xr) (k := 6) (cc := 3) (mm := 16) (lo := 0) (hi := 99) (a := 0) (b := 99) rfl rfl (by decide) (by decide) hx hw ht hrr hr a3 (hc.fcm hw ht hrr a5 a6) (hF.fcm hr a5) (by simp [nums]) (ok0 c 6 hc.2.2.2.1 (by decide) (by decide)) with ⟨v, ivc2, ivm2, ty2, fi2, be2, e1, e2, e3, e4, e5, e6, e7, e8⟩ | ⟨ivc2, ivm2, e1, e2, e3, e4⟩
  · rw [e1, am_o2_s, if_neg (by decide), e3]
    have s1 := B51 (i := 16) (by decide) (by decide) e2
    rcases S_one (w := w) (xr := xr) (k := 7) (cc := 4) (mm := 17) (lo := 0) (hi := 99) (a := 0) (b := 99) rfl rfl (by decide) (by decide) hx hw ht hrr hr e4 e6 e7 (by simp [nums]) (ok0 _ 7 e6.2.2.2.1 (by decide) (by decide)) with ⟨v', ivc3, ivm3, ty3, fi3, be3, g1, g2, g3, g4, g5, g6, g7, g8⟩ | ⟨ivc3, ivm3, g1, g2, g3, g4⟩
    · rw [g1, am_o2_s, if_neg (by decide), g3]
      have s2 := B51 (i := 17) (by decide) (by decide) g2
      rcases S_one (w := w) (xr := xr) (k := 8) (cc := 5) (mm := 18) (lo := 0) (hi := 99) (a := 0) (b := 99) rfl rfl (by decide) (by decide) hx hw ht hrr hr g4 g6 g7 (by simp [nums]) (ok0 _ 8 g6.2.2.2.1 (by decide) (by decide)) with ⟨v3, ivc4, ivm4, ty4, fi4, be4, k1, k2, k3, k4, k5, k6, k7, k8⟩ | ⟨ivc4, ivm4, k1, k2, k3, k4⟩
      · have s3 := B51 (i := 18) (by decide) (by decide) k2
        rw [k1, am_o2_s, if_neg (by decide), k3, hm s1 s2 s3]
        refine LO.yes rfl rfl (((a6.hk.tr e8).tr g8).tr k8) (k4.wc (by omega) hr) (by omega) (k6.atR hw hrr) ?_ k7.t1
        rw [show cy_r (upd0 (upd0 (upd0 c 6 v) 7 v') 8 v3) = cy_r c from ((upd0_n (by decide)).trans (upd0_n (by decide))).trans (upd0_n (by decide))]; omega
      · have s3 := B51 (i := 18) (by decide) (by decide) k2
        rw [k1, am_o2_s, if_pos rfl, hm s1 s2 s3]
        exact LO.no rfl rfl (((a6.hk.tr e8).tr g8).tr k4) k3
    · have s2 := B51 (i := 17) (by decide) (by decide) g2
      have s3 := B51 (i := 18) (by decide) (by decide) (NB_num g3.1)
      rw [g1, am_o2_s, if_pos rfl, hm s1 s2 s3]
      exact LO.no rfl rfl (((a6.hk.tr e8).tr g4).w (h16 (by decide))) (g3.wm (by decide))
  · have s1 := B51 (i := 16) (by decide) (by decide) e2
    have s2 := B51 (i := 17) (by decide) (by decide) (NB_num e3.1)
    have s3 := B51 (i := 18) (by decide) (by decide) (NB_num (e3.wm (k := 17) (x := 0) (show (58 : Nat) ≠ 54 by decide)).1)
    rw [e1, am_o2_s, if_pos rfl, hm s1 s2 s3]
    exact LO.no rfl rfl (((a6.hk.tr e4).w (h16 (by decide))).w (h16 (by decide))) ((e3.wm (by decide)).wm (by decide))
end B82
