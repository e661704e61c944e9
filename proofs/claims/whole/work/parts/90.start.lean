/-! the start: what the Statement gives at the law's entry; the claim out of the law's contract -/
def am_flw : List Cond := flatC (Jvm.Cond.and given_1 narrow_1)
theorem am_fl_at {args : Array Value} {s : State} (h : (Jvm.Cond.and given_1 narrow_1).before args s = true) {i : Nat} {w : Cond} (hw : am_flw[i]? = some w) : w.before args s = true := flat_of_before _ h w (List.mem_of_getElem? hw)
/-- where a text's words stand in am_flw -/
def am_sp : List (Nat × Nat × Nat × Nat × Nat) := [(35, 36, 37, 38, 39), (69, 70, 71, 72, 73), (82, 83, 84, 85, 86), (90, 91, 92, 93, 94), (98, 99, 100, 101, 102), (107, 108, 109, 110, 111), (116, 117, 118, 119, 120), (124, 125, 126, 127, 128), (134, 135, 136, 137, 138), (143, 144, 145, 146, 147), (153, 154, 155, 156, 157), (161, 162, 163, 164, 165), (168, 169, 170, 171, 172), (178, 179, 180, 181, 182), (187, 188, 189, 190, 191), (197, 198, 199, 200, 201), (205, 206, 207, 208, 209), (212, 213, 214, 215, 216), (221, 222, 223, 224, 225), (230, 231, 232, 233, 234), (236, 237, 238, 239, 240), (243, 244, 245, 246, 247), (251, 252, 253, 254, 255), (260, 261, 262, 263, 264), (268, 269, 270, 271, 272), (276, 277, 278, 279, 280), (293, 294, 295, 296, 297), (311, 312, 313, 314, 315), (341, 342, 343, 344, 345), (359, 360, 361, 362, 363), (389, 390, 391, 392, 393), (426, 427, 428, 429, 430), (444, 445, 446, 447, 448), (473, 474, 475, 476, 477), (502, 503, 504, 505, 506), (546, 547, 548, 549, 550), (555, 556, 557, 558, 559), (564, 565, 566, 567, 568), (574, 575, 576, 577, 578), (584, 585, 586, 587, 588), (594, 595, 596, 597, 598), (603, 604, 605, 606, 607), (612, 613, 614, 615, 616), (623, 624, 625, 626, 627), (633, 634, 635, 636, 637), (644, 645, 646, 647, 648), (653, 654, 655, 656, 657), (661, 662, 663, 664, 665), (671, 672, 673, 674, 675), (681, 682, 683, 684, 685), (690, 691, 692, 693, 694), (699, 700, 701, 702, 703), (710, 711, 712, 713, 714), (720, 721, 722, 723, 724), (731, 732, 733, 734, 735), (740, 741, 742, 743, 744), (748, 749, 750, 751, 752), (756, 757, 758, 759, 760)]
theorem am_sp_ok : ∀ j, j < 58 → (let q := am_st.getD j (0, "", 0, ""); let p := am_sp.getD j (0, 0, 0, 0, 0); let tm := Term.string q.2.1 q.2.2.1
    q.1 = j ∧ am_flw[p.1]? = some (Cond.exactly tm "java/lang/String") ∧ am_flw[p.2.1]? = some (Cond.eq (.field tm "java/lang/String" "coder" "B") (.int 0)) ∧ am_flw[p.2.2.1]? = some (Cond.arrayOf (.field tm "java/lang/String" "value" "[B") .byte) ∧
    am_flw[p.2.2.2.1]? = some (Cond.eq (.length (.field tm "java/lang/String" "value" "[B")) (.int (Int32.ofNat (am_by.getD j []).length))) ∧
    ∀ i, i < (am_by.getD j []).length → am_flw[p.2.2.2.2 + i]? = some (Cond.eq (.elem (.field tm "java/lang/String" "value" "[B") (.int (Int32.ofNat i))) (.int ((am_by.getD j []).getD i 0)))) := by decide +kernel
def am_sr : List Nat := [518, 630, 725, 751, 752, 753, 790, 795, 808, 809, 810, 825, 854, 855, 856, 857, 858, 859, 860, 868, 869, 874, 879, 884, 889, 949, 967, 969, 981, 982, 995, 1032, 1033, 1092, 1120, 1136, 1137, 1138, 1139, 1140, 1141, 1142, 1143, 1144, 1145, 1146, 1147, 1148, 1149, 1373, 1394, 1395, 1404, 1409, 1410, 1431, 1452, 1453]
theorem am_sr_ok : ∀ j, j < 58 → (let q := am_st.getD j (0, "", 0, ""); tables_1[am_sr.getD j 0]? = some (Cond.stringRef q.2.1 q.2.2.1 q.2.2.2)) := by decide +kernel
def am_nr : List Nat := [36, 42, 106, 135, 216, 257]
theorem am_nr_ok : ∀ j, j < 6 → (let q := am_nl.getD j ("", 0, ⟨"", "", ""⟩, ""); tables_1[am_nr.getD j 0]? = some (Cond.methodLinkNest q.1 q.2.1 q.2.2.1 q.2.2.2)) := by decide +kernel
theorem am_arrT {args : Array Value} {s : State} {ty : FieldType} (h : (Cond.arrayClass ty).before args s = true) : ∃ cA : ClassId, ArrOfT s cA ty ∧ s.vm.findClass ("[" ++ ty.toString) = some cA := by
  obtain ⟨c, k, comp, h1, h2, h3⟩ := Cond.arrayClass_spec h
  exact ⟨c, fun n z => ⟨fun k h => (by cases h), k, h2, comp, h3⟩, h1⟩
/-- a constant text, by its words -/
theorem am_text {args : Array Value} {s : State} (hgv : (Jvm.Cond.and given_1 narrow_1).before args s = true) (z : Nat) (hz : s.heap.size ≤ z) : ∀ j, ∃ q : Nat × Nat, j < 58 → (let w := am_st.getD j (0, "", 0, ""); (Term.string w.2.1 w.2.2.1).eval args s none [] s = some (.ref q.1) ∧
    va_O "java/lang/String" q.1 (fun a => z ≤ a) s s.heap ∧ va_OF "java/lang/String" "coder" "B" (.int 0) q.1 (fun a => z ≤ a) s s.heap ∧ va_OF "java/lang/String" "value" "[B" (.ref q.2) q.1 (fun a => z ≤ a) s s.heap ∧ va_T .byte q.2 (am_by.getD j []).length (fun k => .int ((am_by.getD j []).getD k 0)) (fun a => z ≤ a) s s.heap) := by
  intro j
  by_cases hj : j < 58
  · obtain ⟨-, h1, h2, h3, h4, h5⟩ := am_sp_ok j hj
    have hlen : (am_by.getD j []).length < 2 ^ 31 := by
      have : ∀ j, j < 58 → (am_by.getD j []).length < 100 := by decide +kernel
      have := this j hj
      omega
    obtain ⟨adK, adV, hS, hev⟩ := vk_Sof (args := args) (s := s) (N := 1) (tm := fun _ => Term.string (am_st.getD j (0, "", 0, "")).2.1 (am_st.getD j (0, "", 0, "")).2.2.1) (len := [(am_by.getD j []).length]) (byt := [am_by.getD j []]) (A := fun a => z ≤ a)
      (fun i hi => by rw [show i = 0 by omega]; exact hlen) (fun i hi => am_fl_at hgv h1) (fun i hi => am_fl_at hgv h2) (fun i hi => am_fl_at hgv h3)
      (fun i hi => by rw [show i = 0 by omega]; exact am_fl_at hgv h4) (fun i hi k hk => by rw [show i = 0 by omega] at hk ⊢; exact am_fl_at hgv (h5 k hk)) (fun i k hi hk hne => absurd (by omega : i = k) hne) (fun a ha => by omega)
    have h9 := hS.1 0 (by omega)
    exact ⟨(adK 0, adV 0), fun _ => ⟨hev 0 (by omega), h9.1, h9.2.1, h9.2.2.1, h9.2.2.2⟩⟩
  · exact ⟨(0, 0), fun h => absurd h hj⟩
/-- the facts of am_G at the entry -/
theorem am_start {args : Array Value} {s : State} {b L : Nat} {xs : Nat → Int32} (l : Launch) (hl : l.stackTraces = false) (hts : ∀ w ∈ lw_tbl, w.before args s = true) (hX : va_X b L xs s s.heap) (hbl : b < s.heap.size) (hgv : (Jvm.Cond.and given_1 narrow_1).before args s = true) :
    ∃ E : am_E, am_l E = l ∧ am_z E = s.heap.size ∧ am_b E = b ∧ am_L E = L ∧ am_xs E = xs ∧ am_G E s := by
  have hgw : ∀ w ∈ am_gw, w.before args s = true := fun w hw => hts w (List.mem_filter.mp hw).1
  have htt : ∀ {i : Nat} {w : Cond}, tables_1[i]? = some w → w.before args s = true := fun h => hts _ (List.mem_append_right _ (List.mem_of_getElem? h))
  obtain ⟨c0, i0, k0⟩ := u_known (C := RX0) (T := TX0) (N := 12) hgw uq_0 (hgw _ (am_i1 35 rfl rfl))
  obtain ⟨c1, i1, k1⟩ := u_known (C := RX1) (T := TX1) (N := 7) hgw uq_1 (hgw _ (am_i3 91 rfl rfl))
  obtain ⟨c2, i2, k2⟩ := u_known (C := RX2) (T := TX2) (N := 11) hgw uq_2 (hgw _ (am_i1 41 rfl rfl))
  obtain ⟨c3, i3, k3⟩ := u_known (C := RX3) (T := TX3) (N := 2) hgw uq_3 (hgw _ (am_i3 97 rfl rfl))
  obtain ⟨c4, i4, k4⟩ := u_known (C := RX4) (T := TX4) (N := 4) hgw uq_4 (hgw _ (am_i1 105 rfl rfl))
  obtain ⟨c5, i5, k5⟩ := u_known (C := RX5) (T := TX5) (N := 5) hgw uq_5 (hgw _ (am_i1 134 rfl rfl))
  obtain ⟨c6, i6, k6⟩ := u_known (C := RX6) (T := TX6) (N := 4) hgw uq_6 (hgw _ (am_i2 16 rfl rfl))
  obtain ⟨c7, i7, k7⟩ := u_known (C := RX7) (T := TX7) (N := 9) hgw uq_7 (hgw _ (am_i1 215 rfl rfl))
  obtain ⟨c8, i8, k8⟩ := u_known (C := RX8) (T := TX8) (N := 6) hgw uq_8 (hgw _ (am_i3 65 rfl rfl))
  obtain ⟨c9, i9, k9⟩ := u_known (C := RX9) (T := TX9) (N := 11) hgw uq_9 (hgw _ (am_i1 27 rfl rfl))
  obtain ⟨c10, i10, k10⟩ := u_known (C := RX10) (T := TX10) (N := 57) hgw uq_10 (hgw _ (am_i5 169 rfl rfl))
  obtain ⟨tI, aI, nI'⟩ := am_arrT (ty := .int) (hgw _ (am_i1 103 rfl rfl))
  obtain ⟨tB, aB, nB⟩ := am_arrT (ty := .byte) (hgw _ (am_i1 102 rfl rfl))
  obtain ⟨tL, aL, nL⟩ := am_arrT (ty := .long) (hgw _ (am_i7 230 rfl rfl))
  obtain ⟨tZ, aZ, nZ⟩ := am_arrT (ty := .boolean) (hgw _ (am_i6 123 rfl rfl))
  have hao : (Cond.arrayOver (.object "java/lang/String")).before args s = true := htt (i := 1135) (by decide +kernel)
  obtain ⟨comp, tS, kS, g1, g2, g3, g4, g5⟩ := Cond.arrayOver_spec hao
  obtain ⟨ad, had⟩ := Classical.axiomOfChoice (am_text hgv s.heap.size (Nat.le_refl _))
  let E : am_E := (l, s.heap.size, b, L, xs, ((fun c => match c with | 0 => c0 | 1 => c1 | 2 => c2 | 3 => c3 | 4 => c4 | 5 => c5 | 6 => c6 | 7 => c7 | 8 => c8 | 9 => c9 | _ => c10), (fun c => match c with | 0 => i0 | 1 => i1 | 2 => i2 | 3 => i3 | 4 => i4 | 5 => i5 | 6 => i6 | 7 => i7 | 8 => i8 | 9 => i9 | _ => i10)), (fun t => match t with | .int => tI | .byte => tB | .long => tL | .boolean => tZ | _ => tS), (fun j => (ad j).1), (fun j => (ad j).2))
  refine ⟨E, rfl, rfl, rfl, rfl, rfl, ⟨?_, ?_⟩, Nat.le_refl _, hbl, hX, ?_, ?_, ?_, ?_, ?_, ?_, hl, hao, ?_⟩
  · intro c q hq
    have hlt : c < 11 := (List.getElem?_eq_some_iff.mp hq).1
    match c, hlt, hq with
    | 0, _, hq => cases hq; exact k0
    | 1, _, hq => cases hq; exact k1
    | 2, _, hq => cases hq; exact k2
    | 3, _, hq => cases hq; exact k3
    | 4, _, hq => cases hq; exact k4
    | 5, _, hq => cases hq; exact k5
    | 6, _, hq => cases hq; exact k6
    | 7, _, hq => cases hq; exact k7
    | 8, _, hq => cases hq; exact k8
    | 9, _, hq => cases hq; exact k9
    | 10, _, hq => cases hq; exact k10
  · intro k q hq
    have hlt : k < 5 := (List.getElem?_eq_some_iff.mp hq).1
    match k, hlt, hq with
    | 0, _, hq => cases hq; exact ⟨aI, nI'⟩
    | 1, _, hq => cases hq; exact ⟨aB, nB⟩
    | 2, _, hq => cases hq; exact ⟨aL, nL⟩
    | 3, _, hq => cases hq; exact ⟨aZ, nZ⟩
    | 4, _, hq => cases hq; exact ⟨fun n z => ⟨fun k h => (by cases h), kS, g3, comp, g4⟩, kS, comp, g3, g4, g1, g5⟩
  · intro q hq
    obtain ⟨j, hj⟩ := List.getElem?_of_mem hq
    have hlt : j < 6 := (List.getElem?_eq_some_iff.mp hj).1
    have e : am_nl.getD j ("", 0, ⟨"", "", ""⟩, "") = q := by rw [List.getD_eq_getElem?_getD, hj]; rfl
    have h9 := am_nr_ok j hlt
    simp only [e] at h9
    exact va_Nw.of rfl (htt h9)
  · intro q hq
    obtain ⟨j, hj⟩ := List.getElem?_of_mem hq
    have hlt : j < 58 := (List.getElem?_eq_some_iff.mp hj).1
    have e : am_st.getD j (0, "", 0, "") = q := by rw [List.getD_eq_getElem?_getD, hj]; rfl
    have h9 := am_sr_ok j hlt
    have h8 := (am_sp_ok j hlt).1
    have h7 := had j hlt
    simp only [e] at h9 h8 h7
    rw [h8]
    exact vk_R.of (htt h9) h7.1
  · intro j hj
    exact (had j hj).2
  · exact vx_Zqof (htt (i := 505) (by decide +kernel)) (htt (i := 9) (by decide +kernel)) (am_fl_at hgv (i := 4) (by decide +kernel)) (fun a ha h => absurd ha (Nat.not_lt.mpr h))
  · exact vx_Zqof (htt (i := 507) (by decide +kernel)) (htt (i := 9) (by decide +kernel)) (am_fl_at hgv (i := 5) (by decide +kernel)) (fun a ha h => absurd ha (Nat.not_lt.mpr h))
  · exact va_Zof (htt (i := 644) (by decide +kernel)) (htt (i := 17) (by decide +kernel)) (va_eqt (am_fl_at hgv (i := 6) (by decide +kernel))) (fun a ha h => absurd ha (Nat.not_lt.mpr h))
  · exact va_Zqof (htt (i := 683) (by decide +kernel)) (htt (i := 20) (by decide +kernel)) (am_fl_at hgv (i := 7) (by decide +kernel)) (fun a ha h => absurd ha (Nat.not_lt.mpr h))
def am_S00 : am_S := (fun _ => none, fun _ _ => none, fun _ _ => 0, 0)
def am_I00 : am_I := fun _ _ => 0
/-- the law's contract -/
def am_Law : Prop := ∀ E : am_E, am_L E ≤ 3072 → am_R E 1300 mL_law 601024 7293034 0 [.null, .double 0, .double 0, .double 0, .double 0, .double 0, .double 0] [] am_S00 am_I00 (fun o _ _ => o = .inl (some (.int 1)))
def lw_P (b : Addr) (xs : List Int32) (args : Array Value) (s : State) : Prop := args = #[.ref b] ∧ s.IntsAt b xs ∧ xs.length ≤ 3072 ∧ (Jvm.Cond.and given_1 narrow_1).before args s = true
def lw_Q (_ : Array Value) (s : State) (o : Outcome) (t : State) : Prop := o = .returned (some (.int 1)) ∧ Framed s o t [] 601024 7293034
set_option maxHeartbeats 4000000 in
theorem lw_walk_open (H : am_Law) (l : Launch) (hl : l.stackTraces = false) (b : Addr) (xs : List Int32) : MetFree l x (headSpec (Jvm.Cond.code x code maxLocals ret :: tables_1) room_1) (lw_P b xs) (fun _ _ _ _ _ => True) lw_Q := by
  refine MetFree.of_bodyS (code := code) (maxLocals := maxLocals) (ret := ret) (by decide) ?_ ?_
  · intro args s m h hn
    obtain ⟨meth, c, h1, h2, h3, h4, h5, h6, -, -⟩ := Cond.code_spec hn (atoms_spec (ws := Jvm.Cond.code x code maxLocals ret :: tables_1) h _ List.mem_cons_self)
    exact ⟨meth, c, h1, h2, h3, h4, h5, h6⟩
  · intro p e s m args below meth c s₁ B hml0 hP _
    obtain ⟨rfl, hx, hbd, hgv⟩ := hP
    obtain ⟨scr, harrAt, hlist, hof, hsmall⟩ := hx
    obtain ⟨hcb, hkn, -, -⟩ := State.arrayAt?_spec harrAt
    have hown : s.vm.findClass RL = some m.cls := findClass_of_methodNamed B.named
    have hts0 : ∀ c ∈ (Jvm.Cond.code x code maxLocals ret :: tables_1), c.before #[Value.ref b] s = true := atoms_spec (ws := Jvm.Cond.code x code maxLocals ret :: tables_1) B.pre
    have hts : ∀ w ∈ lw_tbl, w.before #[Value.ref b] s = true := k2_hts_sels lw_privs (fun w hw => hts0 w (List.mem_cons_of_mem _ hw)) lw_privs_ok
    have hml : c.maxLocals = 7 := B.maxLocals_eq (hts0 _ List.mem_cons_self)
    have hh0 : s₁.heap = s.heap := by rw [B.state]; rfl
    have hsz : scr.slots.size = xs.length := by rw [← Array.length_toList, hlist, List.length_map]
    have hval : ∀ j : Nat, j < xs.length → scr.slots[j]? = some (.int (xs.getD j 0)) := fun j hj => by
      rw [← Array.getElem?_toList, hlist]
      simp [hj]
    have hbl : b < s.heap.size := (Array.getElem?_eq_some_iff.mp hcb).1
    have hX : va_X b xs.length (fun j => xs.getD j 0) s s.heap := ⟨scr, hcb, hof, hkn, hsz, hval⟩
    obtain ⟨E, eL, ez, eb, eLn, exs, hG⟩ := am_start l hl hts hX hbl hgv
    have htb : c.exceptionTable.toList = [] := by
      obtain ⟨meth9, c9, h1, h2, -, -, -, -, h7, -⟩ := Cond.code_spec B.named (hts0 _ List.mem_cons_self)
      cases Option.some.inj (h1.symm.trans B.method)
      cases Option.some.inj (h2.symm.trans (Stand.of_body B).code)
      rw [Array.isEmpty_iff.mp h7]
    have hHP : am_HP E am_S00 am_I00 s.heap := ⟨by rw [ez]; rfl, fun a _ => rfl, fun a x hx => by cases hx⟩
    have hLS : am_LS E 7 [.null, .double 0, .double 0, .double 0, .double 0, .double 0, .double 0] ((lg_sl ([Value.null].map (am_tr E)) ++ List.replicate (7 - (lg_sl ([Value.null].map (am_tr E))).length) Slot.unset).toArray) :=
      am_LS.entry E (as := [.null]) (js := [.double 0, .double 0, .double 0, .double 0, .double 0, .double 0]) (by decide) (by decide) (by decide)
    have hav : ([Value.null].map (am_tr E)) = [Value.ref b] := by
      show [Value.ref (am_b E)] = _
      rw [eb]
    rw [hav] at hLS
    have K := H E (by rw [eLn]; exact hbd) p e room_1 s m #[Value.ref b] below meth c 601024 7293034 ⟨B.exec, B.bytes, hml, B.returns, hown, fun w hw => hts w (List.mem_filter.mp hw).1, B.notSynchronized, (name_of_methodNamed B.named B.method).1, htb, hG⟩ ⟨by show 1300 ≤ 2048; decide, by show 64 * 1300 ≤ 84000; decide⟩
      s.heap _ [] 0 0 hHP hLS va_S.rf (by show 0 + 601024 ≤ 601024; decide) (by show 0 + 7293034 ≤ 7293034; decide) (by decide) (by decide)
    rw [eL, ← hh0] at K
    obtain ⟨t, a1, o, b1, b2, b3⟩ := K s₁ rfl (Stand.of_body B)
    refine ⟨t, o, ?_, b1, b2, ?_⟩
    · show Steps p.tables e below (s₁.setTop (entryFrame m ([Value.ref b] : List Value).toArray 7)) t
      rw [lg_entry_eq]
      exact a1
    · rcases b3 with ⟨⟨⟨v, S', iv', hv, -, hq⟩, -⟩, L9, hF, hL9⟩ | ⟨q, -, Xn, ce, L9, ⟨⟨S', iv', -, hq⟩, -⟩, -⟩
      · have hv1 : v = some (.int 1) := Sum.inl.inj hq
        subst hv1
        refine ⟨hv, ⟨_, hv⟩, hF.2.1, ?_⟩
        refine State.sameButNew.weaken hF.2.2 (fun y hy hlt => ?_) (Nat.le_refl _) (Nat.le_refl _)
        have h9 : am_z E ≤ y.base := hL9 y hy
        rw [ez] at h9
        exact absurd hlt (Nat.not_lt.mpr h9)
      · cases hq
theorem lw_pre_spec {args : Array Value} {s : State} (h : (Jvm.Cond.and given_1 narrow_1).before args s = true) (hr : rest_1_c.before args s = true) : ∃ (b : Addr) (xs : List Int32), lw_P b xs args s := by
  have hs := flat_of_before _ h
  have hq := flat_of_before _ hr
  have hc : (Cond.count 1).before args s = true := hs _ (by decide +kernel)
  have harr : (Cond.arrayOf (.arg 0) .int).before args s = true := hs _ (by decide +kernel)
  have hle : (Cond.le (.length (.arg 0)) (.int 3072)).before args s = true := hs _ (by decide +kernel)
  have hlen : (Cond.isInt (.length (.arg 0))).before args s = true := hq _ (by decide +kernel)
  have hall : (Cond.all (.arg 0) (.isInt (.elem (.arg 0) (.index 0)))).before args s = true := hq _ (by decide +kernel)
  obtain ⟨b, xs, hb, hx⟩ := State.ints_of_pre rfl harr hlen hall
  have hsm : xs.length < 2 ^ 31 := hx.choose_spec.2.2.2
  have hev : (Term.length (.arg 0)).eval args s none [] s = some (.int xs.length.toInt32) := hx.length_eval hb
  have hv := Cond.le_ints hev (show (Term.int 3072).eval args s none [] s = some (.int 3072) from rfl)
  have hd : xs.length.toInt32 ≤ 3072 := by
    simpa [Cond.before, Cond.holds, hv] using hle
  have hN : xs.length ≤ 3072 := (Int32.ofNat_le_ofNat hsm (by decide)).mp (show Int32.ofNat xs.length ≤ Int32.ofNat 3072 from hd)
  exact ⟨b, xs, Cond.one_arg hc (show args[0]? = some (.ref b) from hb), hx, hN, h⟩
theorem lw_limb_open (H : am_Law) (L : Cond) (hL : ∀ (args : Array Value) (s t : State), L.after args s (.returned (some (.int 1))) t = true) :
    ArmFor flags0 classFile x code maxLocals ret World_1 tables_1 room_1 Calls_1 rest_1 Pre_1
      (fun tb e a s o t => postC L tb e a s o t ∧ Framed s o t (fieldLocs frame_1_writes a s ++ arrayLocs frame_1_arrays a s ++ staticLocs frame_1_statics s) 601024 7293034) := by
  intro l hfl _ _ p e ha hc hk s m args below hf hfit hheap happ hpre
  have hl : l.stackTraces = false := by unfold Launch.stackTraces; rw [hfl]; decide +kernel
  obtain ⟨b, xs, hP⟩ := lw_pre_spec hpre.2.2 hpre.2.1
  obtain ⟨k, o, h1, h2, h3, rfl, hF⟩ := lw_walk_open H l hl b xs p e ha hc hk s m args below hf ((Spec.applies_iff_loose hf).mp happ).1 hP trivial
  exact ⟨k, _, h1, h2, h3, hL args s _, hF⟩
theorem i_vc_open (H : am_Law) : Claimed_1_1 ∧ Claimed_1_2 := ⟨lw_limb_open H limb_1_1 (fun args s t => by simp [limb_1_1, Cond.after, Cond.holds, Cond.value]), lw_limb_open H limb_1_2 (fun args s t => Cond.after_iff.mpr (by
  first | (rw [show limb_1_2 = Cond.eq .result (.int 1) from rfl, Cond.eq_ints (x := 1) (y := 1) rfl rfl]; simp; done) | (simp [limb_1_2, Cond.value, Term.eval]; done)))⟩
