/-! HOW SOON on both sides: opens, shuts, bread -/
theorem sct_pay {nf M b : Nat} (h : pw2 nf) (hM : M = 2 ^ b) (hb : b ≤ 15) : sct nf M + 4 * (32768 - (if nf < M then M else nf)) ≤ 4 * (32768 - nf) := by
  have hp2 : 2 ^ b ≤ 32768 := Nat.le_trans (Nat.pow_le_pow_right (by decide) hb) (by decide)
  have h1 : 1 ≤ 2 ^ b := Nat.one_le_two_pow
  unfold sct
  by_cases hlt : nf < M
  · rw [if_pos hlt, if_pos hlt]
    rcases h with h | ⟨b', h2, h3⟩
    · omega
    · have hbb : b' < b := by
        by_cases q : b' < b
        · exact q
        · have := Nat.pow_le_pow_right (show 0 < 2 by decide) (show b ≤ b' by omega)
          omega
      have h4 : 2 ^ (b' + 1) ≤ 2 ^ b := Nat.pow_le_pow_right (by decide) hbb
      have h5 : 2 ^ (b' + 1) = 2 * 2 ^ b' := by rw [Nat.pow_succ, Nat.mul_comm]
      omega
  · rw [if_neg hlt, if_neg hlt]; omega
section B63
variable {E : am_E} {S : am_S} {iv : am_I} {Q : am_O → am_S → am_I → Prop} {w v fd nf sn ns pp np d : Nat} {c : Nat → Nat → Nat} {ρ : ru_T}
/-- the first starts of the rules stay -/
def uz (iv iv' : am_I) : Prop := iv' 17 0 = iv 17 0 ∧ iv' 37 0 = iv 37 0
theorem uz.rf : uz iv iv := ⟨rfl, rfl⟩
theorem uz.tr {iv1 iv2 : am_I} (h : uz iv iv1) (h2 : uz iv1 iv2) : uz iv iv2 := ⟨h2.1.trans h.1, h2.2.trans h.2⟩
theorem uz.of {iv1 : am_I} {x : Nat} (hx : x = 2 ∨ x = 22) (h : sfr x pp iv iv1) : uz iv iv1 := ⟨h 17 0 (by omega), h 37 0 (by omega)⟩
/-- the model answers the same behind it -/
def agm (fm : am_I → Option (Int32 × am_I)) (w pp np : Nat) (c : Nat → Nat → Nat) (ρ : ru_T) (r : Int32) (iv1 : am_I) : Prop := ∃ iv2, fm iv1 = some (r, iv2) ∧ iv2 54 3 = 0 ∧ Rel w pp np iv2 c ρ
/-- the two searches find the same -/
theorem A_soon {o f a what x : Nat} {br : Bool} {g : Nat → Bool} {r : Int32} {N p : Nat} {st par lab : Nat → Nat} (hM : RM iv c ρ) (h29 : iv 54 29 = nI o) (h31 : iv 54 31 = nI f) (h30 : iv 54 30 = nI a) (hol : o < 2 ^ cy_n c) (hf : f < 2 ^ cy_p c) (ha : a < 2 ^ cy_n c) (hw : what ≤ 2) (hx : x < 10)
    (hg : ∀ k, kV c k → mg c what x k = g (kh c br k)) (hb : bf (ks c ρ a br) (cy_n c) (kh c br (32 * o + f)) N st par lab p) (hr : (r = -1 ∧ N * 16 ≤ p ∧ ∀ j, j < N → g (st j) = false) ∨ ∃ j, j < N ∧ r = nI j ∧ g (st j) = true ∧ ∀ i, i < j → g (st i) = false) :
    (r = -1 ∧ ∃ iv', F_X10_howSoon (nI what) (nI x) iv = some (-1, iv') ∧ (∀ i, iv' 81 i = iv 81 i) ∧ iv' 54 45 = iv 54 45) ∨ ∃ j, j < N ∧ r = nI j ∧ ∃ iv', F_X10_howSoon (nI what) (nI x) iv = some (nI (bo par lab j).length, iv') ∧ iv' 54 45 = nI (bo par lab j).length ∧ rw_of iv' 81 (bo par lab j) := by
  obtain ⟨hc, hro, hC, hR⟩ := hM
  have hn := hc.1
  have h10 := cy_p10 hn
  have h5 := cy_p5 hc.2.2.1
  obtain ⟨iv', N1, st1, par1, lab1, b1, hN1, v1, hh⟩ := P_howSoon (what := what) (d := x) hC hc hR hro h29 h31 h30 hol (by omega) (by omega) hw hx
  have hV : kV c (32 * o + f) := ⟨by omega, by omega⟩
  rcases hr with ⟨r1, r2, r3⟩ | ⟨j, j1, j2, j3, j4⟩
  · left
    refine ⟨r1, iv', ?_⟩
    rcases hh with ⟨e, -, e2, e3⟩ | ⟨j, q1, q2, -⟩
    · exact ⟨e, e2, e3⟩
    · obtain ⟨k1, j2, k2, k3⟩ := bf_none (V := kV c) hn (md_V hc) (ks_hom hc) hV b1 hb r2 q1
      rw [hg _ k1, ← k3, r3 j2 k2] at q2
      cases q2
  · right
    obtain ⟨m1, k1, k2, k3, k4⟩ := bf_same (V := kV c) hn (md_V hc) (ks_hom hc) hV b1 (Nat.le_refl _) hb hg j1 j3 j4
    refine ⟨j, j1, j2, iv', ?_⟩
    rcases hh with ⟨-, e, -, -⟩ | ⟨q, q1, q2, q3, q4, q5, q6⟩
    · rw [e m1 k1] at k2; cases k2
    · have hq : q = m1 := by
        by_cases lt : q < m1
        · rw [k3 q lt] at q2; cases q2
        · by_cases lt2 : m1 < q
          · rw [q3 m1 lt2] at k2; cases k2
          · omega
      subst hq
      rw [k4] at q4 q5 q6
      exact ⟨q4, q5, q6⟩
/-- a search on the wall leaves the relation -/
theorem Rel.srch {iv1 : am_I} (h : Rel w pp np iv c ρ) (hw : w = 2 ∨ w = 22) (hp : adr pp) (hW : cl_W w iv1 c ρ) (hf : sfr w pp iv iv1) : Rel w pp np iv1 c ρ := by
  have hp1 := hp.1
  have hp2 := hp.2
  refine h.fr ⟨fun k hk => funext fun j => hf _ j (by omega), fun a ha => funext fun j => hf _ j (by omega), fun k hk => hf _ _ (by omega)⟩ hW
/-- the row is kept on both sides -/
theorem Rel.row {pp' np' : Nat} {iv1 iv2 : am_I} {wd : List Nat} (h : Rel w pp np iv c ρ) (hw : w = 2 ∨ w = 22) (hp : adr pp') (hlen : wd.length ≤ np' ∧ wd.length ≤ 6143) (f1 : ∀ a k, a ≠ pp' → a < 89 → (a ≠ 0 ∨ k ≠ 10) → iv1 a k = iv a k) (hr1 : rw_of iv1 pp' wd) (h10 : iv1 0 10 = nI wd.length) (f2 : am_fr [75, 76, 77, 78, 79, 80, 81, 82] [(54, 3), (54, 44), (54, 45)] iv1 iv2) (hr2 : rw_of iv2 81 wd) (h45 : iv2 54 45 = nI wd.length) : Rel w pp' np' iv2 c ρ := by
  have hp1 := hp.1
  have hp2 := hp.2
  have G : ∀ a k, a < 75 ∨ (83 ≤ a ∧ a < 89) → a ≠ pp' → (a ≠ 0 ∨ k ≠ 10) → (a = 54 → k ≠ 3 ∧ k ≠ 44 ∧ k ≠ 45) → iv2 a k = iv a k := fun a k h1 h2 h3 h4 => by
    rw [f2 a k (by simp; omega) (by simp; omega)]; exact f1 a k h2 (by omega) h3
  obtain ⟨h1, h2, h3, h4, h5, h6, h7⟩ := h
  refine ⟨h1.fr (fun a a1 a2 => funext fun j => G a j (by omega) (by omega) (by omega) (by omega)), h2.fr (fun k hk => funext fun j => G _ j (by omega) (by omega) (by omega) (by omega)) (funext fun j => G _ j (by omega) (by omega) (by omega) (by omega)), h3.fr (fun a ha => funext fun j => G a j (by omega) (by omega) (by omega) (by omega)) (fun k hk => G _ _ (by omega) (by omega) (by omega) (by omega)), ?_, ?_, ?_, ?_⟩
  · obtain ⟨k, k1, k2, k3⟩ := h4
    exact ⟨k, by rw [G 0 7 (by omega) (by omega) (by omega) (by omega)]; exact k1, by rw [G 54 48 (by omega) (by omega) (by omega) (by omega)]; exact k2, fun hk => (k3 hk).fr (fun a ha => funext fun j => G a j (by omega) (by omega) (by omega) (by omega)) (fun k hk => G _ _ (by omega) (by omega) (by omega) (by omega))⟩
  · obtain ⟨t, t1, t2, t3, t4⟩ := h5
    refine ⟨t, t1, by rw [G 0 1 (by omega) (by omega) (by omega) (by omega)]; exact t2, by rw [G 54 18 (by omega) (by omega) (by omega) (by omega)]; exact t3, fun i hi => ?_⟩
    rw [G 71 i (by omega) (by omega) (by omega) (by omega), G 1 i (by omega) (by omega) (by omega) (by omega)]
    exact t4 i hi
  · rw [G 0 2 (by omega) (by omega) (by omega) (by omega), G 54 27 (by omega) (by omega) (by omega) (by omega)]; exact h6
  · refine Or.inr ⟨wd.length, hlen.1, hlen.2, by rw [f2 0 10 (by simp) (by simp)]; exact h10, h45, fun i hi => ?_⟩
    have e1 := hr1 (wd.length - 1 - i) (by omega)
    have e2 := hr2 (wd.length - 1 - i) (by omega)
    rw [show wd.length - 1 - (wd.length - 1 - i) = i by omega] at e1 e2
    rw [f2 pp' i (by simp; omega) (by simp; omega), e1, e2]
/-- behind a search of the class: keepSteps, and the model's call -/
theorem M_keepA {o f a what x : Nat} {br : Bool} {g : Nat → Bool} {r : Int32} {fm : am_I → Option (Int32 × am_I)} (h : SR S w v fd nf sn ns pp np) (hR : Rel w pp np iv c ρ) (hcl : cs_L fd nf sn ns (kM c br)) (hE : cs_E w fd sn c ρ a br (kh c br (32 * o + f)) g r iv) (h29 : iv 54 29 = nI o) (h31 : iv 54 31 = nI f) (h30 : iv 54 30 = nI a) (hol : o < 2 ^ cy_n c) (hf : f < 2 ^ cy_p c) (ha : a < 2 ^ cy_n c) (hw : what ≤ 2) (hx : x < 10)
    (hg : ∀ k, kV c k → mg c what x k = g (kh c br k)) (hfm : ∀ iv1 y iv2, mo_C iv1 c → F_X10_howSoon (nI what) (nI x) (am_w iv1 54 3 0) = some (y, iv2) → fm iv1 = some (y, iv2))
    (hQ : ∀ S' iv1 r' pp' np', SR S' w v fd nf sn ns pp' np' → S.2.2.2 ≤ S'.2.2.2 → uz iv iv1 → agm fm w pp' np' c ρ r' iv1 → Q (.inl (some (.int r'))) S' iv1) :
    am_M E (d + 3) mX9_keepSteps 1 6143 [.ref 0, .int r] S iv Q := by
  have hww : w = 2 ∨ w = 22 := by have := h.2.2.2.2.1; omega
  have hpp : adr pp := h.2.2.2.2.2.1.2.2
  have hz := h.1.2.2
  have hc := hR.1.1
  obtain ⟨hI, N, st, par, lab, p, hS, hb, hr⟩ := hE
  rcases hr with ⟨r1, r2, r3⟩ | ⟨j, j1, j2, j3, j4⟩
  · subst r1
    refine M_keepNone rfl ?_
    have hR0 := hR.code hww hpp 0
    rcases A_soon (r := -1) (iv := am_w iv 54 3 0) hR0.1 (by rw [am_code1 _ (by decide)]; exact h29) (by rw [am_code1 _ (by decide)]; exact h31) (by rw [am_code1 _ (by decide)]; exact h30) hol hf ha hw hx hg hb (Or.inl ⟨rfl, r2, r3⟩) with ⟨-, iv2, e2, g1, g2⟩ | ⟨j, j1, j2, -⟩
    · have f2 := X_X10_howSoon e2
      refine hQ S iv (-1) pp np h (Nat.le_refl _) uz.rf ⟨iv2, hfm iv _ iv2 hR.1.2.2.1 e2, ?_, ?_⟩
      · rw [f2 54 3 (by simp) (by simp)]; exact am_code0 _
      · have sm2 : sm w pp (am_w iv 54 3 0) iv2 := by
          have hp1 := hpp.1
          have hp2 := hpp.2
          refine ⟨fun k hk => funext fun j => f2 _ j (by simp; omega) (by simp; omega), fun b hb => ?_, fun k hk => ?_⟩
          · by_cases e81 : b = 81
            · subst e81; exact funext g1
            · exact funext fun j => f2 _ j (by simp; omega) (by simp; omega)
          · by_cases e45 : k = 45
            · subst e45; exact g2
            · exact f2 _ _ (by simp) (by simp; omega)
        exact hR0.fr' sm2 (funext fun j => f2 _ j (by simp; omega) (by simp; omega))
    · exact absurd j2.symm (cy_m1 (by have := hS.2.1; have := kM_le hc br; omega))
  · subst j2
    refine M_keepSteps h hc hcl hS hb hI.2 j1 (fun S' iv1 pp' np' hS' g1 g2 g3 g4 g5 => ?_)
    have hpp' : adr pp' := hS'.2.2.2.2.2.1.2.2
    have hp1 := hpp'.1
    have hp2 := hpp'.2
    have q : ∀ k, k ≠ 3 → am_w iv1 54 3 0 54 k = iv 54 k := fun k hk => by rw [am_code1 _ hk]; exact g5 54 k (by omega) (by omega) (by omega)
    have hM0 : RM (am_w iv1 54 3 0) c ρ := hR.1.fr (fun b b1 b2 => funext fun k => by rw [am_w_other _ _ _ (by omega)]; exact g5 b k (by omega) (by omega) (by omega))
    have hM1 : mo_C iv1 c := hR.1.2.2.1.fr (fun b b1 b2 => funext fun k => g5 b k (by omega) (by omega) (by omega))
    have hlen := K_len hc hS hb j1
    have hNl : j < 65536 := by have := hS.2.1; have := kM_le hc br; omega
    rcases A_soon (r := nI j) (iv := am_w iv1 54 3 0) hM0 (by rw [q 29 (by decide)]; exact h29) (by rw [q 31 (by decide)]; exact h31) (by rw [q 30 (by decide)]; exact h30) hol hf ha hw hx hg hb (Or.inr ⟨j, j1, rfl, j3, j4⟩) with ⟨e, -⟩ | ⟨j', k1, k2, iv2, e2, k3, k4⟩
    · exact absurd e (cy_m1 hNl)
    · have hjj : j' = j := by
        have := (am_eq (show j < 65536 by omega) (show j' < 65536 by have := hS.2.1; have := kM_le hc br; omega)).mp k2
        exact this.symm
      subst hjj
      have f2 := X_X10_howSoon e2
      refine hQ S' iv1 _ pp' np' hS' g1 ⟨g5 17 0 (by omega) (by omega) (by omega), g5 37 0 (by omega) (by omega) (by omega)⟩ ⟨iv2, hfm iv1 _ iv2 hM1 e2, ?_, ?_⟩
      · rw [f2 54 3 (by simp) (by simp)]; exact am_code0 _
      · refine hR.row hww hpp' ⟨g2, hlen⟩ (fun b k b1 b2 b3 => g5 b k b1 (by omega) b3) g3 g4 ?_ k4 k3
        exact ((am_fr.rf _ _ _).f (by simp)).tr (f2.up (by simp) (by simp))
end B63
