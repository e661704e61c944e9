/-! The constant texts (by their places), the links to private constructors of nest mates, the context of a frame, the judgement, and its rows. -/
def am_st : List (Nat × String × Nat × String) := [(0, "DrawerWall", 60, "the tape has not so many bytes"), (1, "DrawerWall$Tokens", 36, ";()+-*/<="), (2, "DrawerWall$CityReader", 111, "home"), (3, "DrawerWall$CityReader", 113, "shop"), (4, "DrawerWall$CityReader", 115, "grave"), (5, "DrawerWall$CityReader", 117, "stove"), (6, "DrawerWall$CityReader", 177, "wide"), (7, "DrawerWall$CityReader", 64, "person"), (8, "DrawerWall$CityReader", 208, "wants"), (9, "DrawerWall$CityReader", 212, "weight"), (10, "DrawerWall$CityReader", 73, "rule"), (11, "DrawerWall$RuleReader", 69, "not"), (12, "DrawerWall$RuleReader", 94, "column"), (13, "DrawerWall$RuleReader", 96, "story"), (14, "DrawerWall$RuleReader", 98, "length"), (15, "DrawerWall$RuleReader", 100, "kind"), (16, "DrawerWall$RuleReader", 102, "out"), (17, "DrawerWall$RuleReader", 104, "shops"), (18, "DrawerWall$RuleReader", 106, "above"), (19, "DrawerWall$RuleReader", 57, "or"), (20, "DrawerWall$RuleReader", 63, "and"), (21, "DrawerWall$CityReader", 78, "wall"), (22, "DrawerWall$CityReader", 86, "reach"), (23, "DrawerWall$CityReader", 95, "rent"), (24, "DrawerWall$CityReader", 103, "wind"), (25, "DrawerWall", 145, "no such count"), (26, "DrawerWall", 179, "no such drawer"), (27, "DrawerWall", 174, "a drawer has no such thing"), (28, "DrawerWall", 198, "no such person"), (29, "DrawerWall", 196, "a person has no such thing"), (30, "DrawerWall", 212, "bits of drawers that there aren't"), (31, "DrawerWall", 248, "no row is kept"), (32, "DrawerWall", 250, "the row has no such place"), (33, "DrawerWall", 272, "hours of wind are 0 to 60"), (34, "DrawerWall", 285, "a fraction has an upper and a lower part"), (35, "DrawerWallModel", 9, "home"), (36, "DrawerWallModel", 11, "shop"), (37, "DrawerWallModel", 13, "grave"), (38, "DrawerWallModel", 15, "stove"), (39, "DrawerWallModel", 23, "reach"), (40, "DrawerWallModel", 25, "rent"), (41, "DrawerWallModel", 27, "wind"), (42, "DrawerWallModel", 32, "column"), (43, "DrawerWallModel", 34, "story"), (44, "DrawerWallModel", 36, "length"), (45, "DrawerWallModel", 38, "kind"), (46, "DrawerWallModel", 40, "out"), (47, "DrawerWallModel", 42, "shops"), (48, "DrawerWallModel", 44, "above"), (49, "DrawerWallModel", 275, "wall"), (50, "DrawerWallModel", 265, "wide"), (51, "DrawerWallModel", 280, "person"), (52, "DrawerWallModel", 269, "wants"), (53, "DrawerWallModel", 274, "weight"), (54, "DrawerWallModel", 285, "rule"), (55, "DrawerWallModel", 247, "not"), (56, "DrawerWallModel", 255, "and"), (57, "DrawerWallModel", 260, "or")]
/-- the bytes of each text -/
def am_by : List (List Int32) := [[116, 104, 101, 32, 116, 97, 112, 101, 32, 104, 97, 115, 32, 110, 111, 116, 32, 115, 111, 32, 109, 97, 110, 121, 32, 98, 121, 116, 101, 115], [59, 40, 41, 43, 45, 42, 47, 60, 61], [104, 111, 109, 101], [115, 104, 111, 112], [103, 114, 97, 118, 101], [115, 116, 111, 118, 101], [119, 105, 100, 101], [112, 101, 114, 115, 111, 110], [119, 97, 110, 116, 115], [119, 101, 105, 103, 104, 116], [114, 117, 108, 101], [110, 111, 116], [99, 111, 108, 117, 109, 110], [115, 116, 111, 114, 121], [108, 101, 110, 103, 116, 104], [107, 105, 110, 100], [111, 117, 116], [115, 104, 111, 112, 115], [97, 98, 111, 118, 101], [111, 114], [97, 110, 100], [119, 97, 108, 108], [114, 101, 97, 99, 104], [114, 101, 110, 116], [119, 105, 110, 100], [110, 111, 32, 115, 117, 99, 104, 32, 99, 111, 117, 110, 116], [110, 111, 32, 115, 117, 99, 104, 32, 100, 114, 97, 119, 101, 114], [97, 32, 100, 114, 97, 119, 101, 114, 32, 104, 97, 115, 32, 110, 111, 32, 115, 117, 99, 104, 32, 116, 104, 105, 110, 103], [110, 111, 32, 115, 117, 99, 104, 32, 112, 101, 114, 115, 111, 110], [97, 32, 112, 101, 114, 115, 111, 110, 32, 104, 97, 115, 32, 110, 111, 32, 115, 117, 99, 104, 32, 116, 104, 105, 110, 103], [98, 105, 116, 115, 32, 111, 102, 32, 100, 114, 97, 119, 101, 114, 115, 32, 116, 104, 97, 116, 32, 116, 104, 101, 114, 101, 32, 97, 114, 101, 110, 39, 116], [110, 111, 32, 114, 111, 119, 32, 105, 115, 32, 107, 101, 112, 116], [116, 104, 101, 32, 114, 111, 119, 32, 104, 97, 115, 32, 110, 111, 32, 115, 117, 99, 104, 32, 112, 108, 97, 99, 101], [104, 111, 117, 114, 115, 32, 111, 102, 32, 119, 105, 110, 100, 32, 97, 114, 101, 32, 48, 32, 116, 111, 32, 54, 48], [97, 32, 102, 114, 97, 99, 116, 105, 111, 110, 32, 104, 97, 115, 32, 97, 110, 32, 117, 112, 112, 101, 114, 32, 97, 110, 100, 32, 97, 32, 108, 111, 119, 101, 114, 32, 112, 97, 114, 116], [104, 111, 109, 101], [115, 104, 111, 112], [103, 114, 97, 118, 101], [115, 116, 111, 118, 101], [114, 101, 97, 99, 104], [114, 101, 110, 116], [119, 105, 110, 100], [99, 111, 108, 117, 109, 110], [115, 116, 111, 114, 121], [108, 101, 110, 103, 116, 104], [107, 105, 110, 100], [111, 117, 116], [115, 104, 111, 112, 115], [97, 98, 111, 118, 101], [119, 97, 108, 108], [119, 105, 100, 101], [112, 101, 114, 115, 111, 110], [119, 97, 110, 116, 115], [119, 101, 105, 103, 104, 116], [114, 117, 108, 101], [110, 111, 116], [97, 110, 100], [111, 114]]
def am_nl : List (String × Nat × MethodName × String) := [("DrawerWall", 19, ⟨"DrawerWall$City", "<init>", "()V"⟩, "DrawerWall"), ("DrawerWall$City", 23, ⟨"DrawerWall$Drawers", "<init>", "()V"⟩, "DrawerWall"), ("DrawerWall$City", 30, ⟨"DrawerWall$People", "<init>", "()V"⟩, "DrawerWall"), ("DrawerWall$City", 37, ⟨"DrawerWall$Rules", "<init>", "()V"⟩, "DrawerWall"), ("DrawerWall", 29, ⟨"DrawerWall$State", "<init>", "()V"⟩, "DrawerWall"), ("DrawerWall", 39, ⟨"DrawerWall$Search", "<init>", "()V"⟩, "DrawerWall")]
abbrev am_S0 : FieldType := .object "java/lang/String"
def am_tys (E : am_E) : List (ClassId × FieldType) := [(am_cT E .int, .int), (am_cT E .byte, .byte), (am_cT E .long, .long), (am_cT E .boolean, .boolean), (am_cT E am_S0, am_S0)]
/-- the constant text j -/
def am_So (E : am_E) (j : Nat) (U : State) (H : Heap) : Prop :=
  va_O "java/lang/String" (am_aK E j) (am_A E) U H ∧ va_OF "java/lang/String" "coder" "B" (.int 0) (am_aK E j) (am_A E) U H ∧ va_OF "java/lang/String" "value" "[B" (.ref (am_aV E j)) (am_aK E j) (am_A E) U H ∧
  va_T .byte (am_aV E j) ((am_by.getD j []).length) (fun k => .int ((am_by.getD j []).getD k 0)) (am_A E) U H
/-- what holds of a state in which a method begins -/
def am_G (E : am_E) (U : State) : Prop :=
  va_K (am_D E) vwCl (am_tys E) U ∧ am_z E ≤ U.heap.size ∧ am_b E < am_z E ∧ va_X (am_b E) (am_L E) (am_xs E) U U.heap ∧
  (∀ q ∈ am_nl, va_Nw (.methodLinkNest q.1 q.2.1 q.2.2.1 q.2.2.2) U) ∧ (∀ q ∈ am_st, vk_R q.2.1 q.2.2.1 q.2.2.2 (am_aK E q.1) U) ∧ (∀ j, j < am_by.length → am_So E j U U.heap) ∧
  vx_Zq Bundle.tN "UNASSIGNED_STACK" Bundle.steD (am_A E) U U.heap ∧ vx_Zq Bundle.tN "SUPPRESSED_SENTINEL" Bundle.listD (am_A E) U U.heap ∧ va_Z "java/lang/String" "COMPACT_STRINGS" "Z" (.int 1) (am_A E) U U.heap ∧ (am_l E).stackTraces = false ∧ va_AO "java/lang/String" U ∧ va_Zq "jdk/internal/util/Preconditions" "SIOOBE_FORMATTER" "Ljava/util/function/BiFunction;" (am_A E) U U.heap
theorem am_G.go {E : am_E} {s U : State} {H : Heap} {locs : List Loc} (h : am_G E s) (hS : va_S (am_A E) s.heap H locs) (hU : U.heap = H) (hW : s.WarmedH U.vm) : am_G E U := by
  obtain ⟨h1, h2, h3, h4, h5, h6, h7, h8, h9, h10, h11, h12, h13⟩ := h
  have hv := hW.alike
  subst hU
  refine ⟨va_K.moved hv h1, Nat.le_trans h2 hS.1, h3, va_X.moved hv (h4.kept (hS.2.1 _ (Nat.lt_of_lt_of_le h3 h2) (Nat.not_le.mpr h3))), fun q hq => (h5 q hq).warmM hW, fun q hq => (h6 q hq).warm hW, fun j hj => ?_, vx_Zq.moved hv (h8.kept hS.2.1), vx_Zq.moved hv (h9.kept hS.2.1), va_Z.moved hv (h10.kept hS.2.1), h11, h12.moved hv, va_Zq.moved hv (va_Zq.kept h13 hS.2.1)⟩
  obtain ⟨a1, a2, a3, a4⟩ := h7 j hj
  exact ⟨va_O.moved hv (a1.kept hS.2.1), va_OF.moved hv (a2.kept hS.2.1), va_OF.moved hv (a3.kept hS.2.1), va_T.moved hv (a4.kept hS.2.1)⟩
/-- a word that a state keeps while classes warm up -/
def am_good (w : Cond) : Bool := goodWord w || (w.onTables && w.keepsFace)
theorem am_at {args a' : Array Value} {s U : State} (hW : s.WarmedH U.vm) {w : Cond} (hg : am_good w = true) (h : w.before args s = true) : w.before a' U = true := by
  unfold am_good at hg
  rcases Bool.or_eq_true_iff.mp hg with hg | hg
  · exact word_at hW (good_of_word hg) h
  · have hg2 := Bool.and_eq_true_iff.mp hg
    have h1 := Cond.before_shiftedFace (State.Shifted.of_warmed hW) w hg2.2 h
    rw [Cond.onTables_vm (A' := a') (U' := U) U.vm w hg2.1, State.setVm_self] at h1
    exact h1
/-- the words that every method is given -/
def am_gw : List Cond := lw_tbl.filter am_good
def am_code (M : am_Me) : Cond := match M.2.2.2.2.2 with
  | [] => .code M.2.1 M.2.2.1 M.2.2.2.1 M.2.2.2.2.1
  | hh => .codeWith M.2.1 M.2.2.1 M.2.2.2.1 M.2.2.2.2.1 hh
def am_ws (M : am_Me) : List Cond := am_code M :: am_gw
/-- the fixed facts of a frame of the method M -/
def am_Ctx (E : am_E) (M : am_Me) (p : Program) (s : State) (m : MethodId) (args : Array Value) (meth : Method) (c : Code) : Prop :=
  p.tables.exec = Jvm.exec ∧ c.code = M.2.2.1 ∧ c.maxLocals = M.2.2.2.1 ∧ meth.sig.returnType = M.2.2.2.2.1 ∧ s.vm.findClass M.1 = some m.cls ∧ (∀ w ∈ am_gw, w.before args s = true) ∧ meth.locks = false ∧ meth.name = M.2.1.name ∧ c.exceptionTable.toList = tableOf M.2.2.2.2.2 ∧ am_G E s
/-- what a method answers: a value or none, or the class of what it throws -/
abbrev am_O : Type := Option Value ⊕ String
def am_Qc (E : am_E) (Q : am_O → am_S → am_I → Prop) : Array Value → State → Outcome → State → Prop := fun _ st o t =>
  (∃ (v : Option Value) (S : am_S) (iv : am_I), o = .returned (v.map (am_tr E)) ∧ am_HP E S iv t.heap ∧ Q (.inl v) S iv) ∧ va_F (am_A E) st t
def am_XC (E : am_E) (Q : am_O → am_S → am_I → Prop) : String → State → State → Prop := fun X st t =>
  (∃ (S : am_S) (iv : am_I), am_HP E S iv t.heap ∧ Q (.inr X) S iv) ∧ va_F (am_A E) st t
/-- enough room: d calls deep -/
def am_Rm (d : Nat) (R : Room) : Prop := d ≤ R.frames ∧ 64 * d ≤ R.locals
/-- from here on the method M, with d calls' room, at most k new cells of n slots, comes to an end with Q -/
def am_R (E : am_E) (d : Nat) (M : am_Me) (k n pc : Nat) (ls st : List Value) (S : am_S) (iv : am_I) (Q : am_O → am_S → am_I → Prop) : Prop :=
  ∀ (p : Program) (e : Env) (R : Room) (s : State) (m : MethodId) (args : Array Value) (below : List Frame) (meth : Method) (c : Code) (mc ms : Nat), am_Ctx E M p s m args meth c → am_Rm d R →
  ∀ (H : Heap) (rls : Array Slot) (locs : List Loc) (cells slots : Nat), am_HP E S iv H → am_LS E M.2.2.2.1 ls rls → va_S (am_A E) s.heap H locs → cells + k ≤ R.cells → slots + n ≤ R.slots → cells + k ≤ mc → slots + n ≤ ms →
    W p (am_l E) e R s m args below meth c H locs cells slots (vx_MQ below (am_Qc E Q) (am_XC E Q) args s mc ms (am_A E)) (F0 m pc rls (st.map (am_tr E)))
/-- the same, with an exception of class X thrown over the frame -/
def am_T (E : am_E) (d : Nat) (M : am_Me) (k n pc : Nat) (ls : List Value) (X : String) (S : am_S) (iv : am_I) (Q : am_O → am_S → am_I → Prop) : Prop :=
  ∀ (p : Program) (e : Env) (R : Room) (s : State) (m : MethodId) (args : Array Value) (below : List Frame) (meth : Method) (c : Code) (mc ms : Nat), am_Ctx E M p s m args meth c → am_Rm d R →
  ∀ (H : Heap) (rls : Array Slot) (rst : List Value) (locs : List Loc) (cells slots : Nat) (q : Addr) (ce : Cell), am_HP E S iv H → am_LS E M.2.2.2.1 ls rls → va_S (am_A E) s.heap H locs → cells + k ≤ R.cells → slots + n ≤ R.slots → cells + k ≤ mc → slots + n ≤ ms →
    H[q]? = some ce → ce.vm = .none → s.vm.findClass X = some ce.cls →
    vx_W p (am_l E) e R s m args below meth c H locs cells slots (vx_MQ below (am_Qc E Q) (am_XC E Q) args s mc ms (am_A E)) (F0 m pc rls rst) q
/-- the contract of M -/
def am_M (E : am_E) (d : Nat) (M : am_Me) (k n : Nat) (as : List Value) (S : am_S) (iv : am_I) (Q : am_O → am_S → am_I → Prop) : Prop :=
  vx_Met (am_l E) M.2.1 (am_ws M) { frames := d, cells := k, slots := n, locals := 64 * d } (fun av U => av = (as.map (am_tr E)).toArray ∧ am_HP E S iv U.heap ∧ am_G E U) (am_Qc E Q) (am_XC E Q) k n (am_A E)
theorem am_R.less {E : am_E} {d : Nat} {M : am_Me} {k n k' n' pc : Nat} {ls st : List Value} {S : am_S} {iv : am_I} {Q : am_O → am_S → am_I → Prop} (h : am_R E d M k n pc ls st S iv Q) (hk : k ≤ k') (hn : n ≤ n') : am_R E d M k' n' pc ls st S iv Q := by
  intro p e R s m args below meth c mc ms C hR H rls locs cells slots hP hL hS h1 h2 h3 h4
  exact h p e R s m args below meth c mc ms C hR H rls locs cells slots hP hL hS (by omega) (by omega) (by omega) (by omega)
section AMR
variable {E : am_E} {d : Nat} {M : am_Me} {k n pc : Nat} {ls st : List Value} {S : am_S} {iv : am_I} {Q : am_O → am_S → am_I → Prop}
theorem am_iconst {i : Int} {v : Int32} (hd : decode M.2.2.1 pc = .ok (.iconst i, 1)) (hv : Int32.ofInt i = v) (h : am_R E d M k n (pc + 1) ls (.int v :: st) S iv Q) : am_R E d M k n pc ls st S iv Q := by
  intro p e R s m args below meth c mc ms C hR H rls locs cells slots hP hL hS h1 h2 h3 h4
  exact lv_iconst C.1 C.2.1 hd hv (h p e R s m args below meth c mc ms C hR H rls locs cells slots hP hL hS h1 h2 h3 h4)
theorem am_bipush {i : Int} {v : Int32} (hd : decode M.2.2.1 pc = .ok (.bipush i, 2)) (hv : (Int8.ofInt i).toInt32 = v) (h : am_R E d M k n (pc + 2) ls (.int v :: st) S iv Q) : am_R E d M k n pc ls st S iv Q := by
  intro p e R s m args below meth c mc ms C hR H rls locs cells slots hP hL hS h1 h2 h3 h4
  exact lv_bipush C.1 C.2.1 hd hv (h p e R s m args below meth c mc ms C hR H rls locs cells slots hP hL hS h1 h2 h3 h4)
theorem am_sipush {i : Int} {v : Int32} (hd : decode M.2.2.1 pc = .ok (.sipush i, 3)) (hv : (Int16.ofInt i).toInt32 = v) (h : am_R E d M k n (pc + 3) ls (.int v :: st) S iv Q) : am_R E d M k n pc ls st S iv Q := by
  intro p e R s m args below meth c mc ms C hR H rls locs cells slots hP hL hS h1 h2 h3 h4
  exact lv_sipush C.1 C.2.1 hd hv (h p e R s m args below meth c mc ms C hR H rls locs cells slots hP hL hS h1 h2 h3 h4)
theorem am_lconst {i : Fin 2} {v : Int64} (hd : decode M.2.2.1 pc = .ok (.lconst i, 1)) (hv : Int64.ofNat (i : Nat) = v) (h : am_R E d M k n (pc + 1) ls (.long v :: st) S iv Q) : am_R E d M k n pc ls st S iv Q := by
  intro p e R s m args below meth c mc ms C hR H rls locs cells slots hP hL hS h1 h2 h3 h4
  exact lv_lconst C.1 C.2.1 hd hv (h p e R s m args below meth c mc ms C hR H rls locs cells slots hP hL hS h1 h2 h3 h4)
theorem am_ldc {i : Nat} {v : Int32} (hd : decode M.2.2.1 pc = .ok (.ldc i, 2)) (hw : Cond.constant M.1 i v ∈ am_gw) (h : am_R E d M k n (pc + 2) ls (.int v :: st) S iv Q) : am_R E d M k n pc ls st S iv Q := by
  intro p e R s m args below meth c mc ms C hR H rls locs cells slots hP hL hS h1 h2 h3 h4
  exact lv_ldc C.1 C.2.1 C.2.2.2.2.1 (C.2.2.2.2.2.1 _ hw) hd (h p e R s m args below meth c mc ms C hR H rls locs cells slots hP hL hS h1 h2 h3 h4)
theorem am_ldcw {i : Nat} {v : Int32} (hd : decode M.2.2.1 pc = .ok (.ldc_w i, 3)) (hw : Cond.constant M.1 i v ∈ am_gw) (h : am_R E d M k n (pc + 3) ls (.int v :: st) S iv Q) : am_R E d M k n pc ls st S iv Q := by
  intro p e R s m args below meth c mc ms C hR H rls locs cells slots hP hL hS h1 h2 h3 h4
  exact lv_ldcw C.1 C.2.1 C.2.2.2.2.1 (C.2.2.2.2.2.1 _ hw) hd (h p e R s m args below meth c mc ms C hR H rls locs cells slots hP hL hS h1 h2 h3 h4)
theorem am_iload_n {j : Fin 4} {i : Nat} {x : Int32} (hd : decode M.2.2.1 pc = .ok (.iload_n j, 1)) (hj : (j : Nat) = i) (hi : ls[i]? = some (.int x)) (h : am_R E d M k n (pc + 1) ls (.int x :: st) S iv Q) : am_R E d M k n pc ls st S iv Q := by
  intro p e R s m args below meth c mc ms C hR H rls locs cells slots hP hL hS h1 h2 h3 h4
  exact lv_iload_n C.1 C.2.1 hd hj (hL.get hi rfl) (h p e R s m args below meth c mc ms C hR H rls locs cells slots hP hL hS h1 h2 h3 h4)
theorem am_iload {i : Nat} {x : Int32} (hd : decode M.2.2.1 pc = .ok (.iload i, 2)) (hi : ls[i]? = some (.int x)) (h : am_R E d M k n (pc + 2) ls (.int x :: st) S iv Q) : am_R E d M k n pc ls st S iv Q := by
  intro p e R s m args below meth c mc ms C hR H rls locs cells slots hP hL hS h1 h2 h3 h4
  exact lv_iload C.1 C.2.1 hd (hL.get hi rfl) (h p e R s m args below meth c mc ms C hR H rls locs cells slots hP hL hS h1 h2 h3 h4)
/-- a value that is a reference -/
def am_rf : Value → Bool
  | .ref _ => true
  | .retAddr _ => true
  | .float _ => true
  | .null => true
  | _ => false
theorem am_rf_tr {v : Value} (E : am_E) (h : am_rf v = true) : am_kn v = true ∧ ∃ q : Nat, am_tr E v = .ref q := by
  cases v <;> first | exact ⟨rfl, _, rfl⟩ | cases h
theorem am_aload_n {j : Fin 4} {i : Nat} {v : Value} (hd : decode M.2.2.1 pc = .ok (.aload_n j, 1)) (hj : (j : Nat) = i) (hi : ls[i]? = some v) (hv : am_rf v = true) (h : am_R E d M k n (pc + 1) ls (v :: st) S iv Q) : am_R E d M k n pc ls st S iv Q := by
  intro p e R s m args below meth c mc ms C hR H rls locs cells slots hP hL hS h1 h2 h3 h4
  obtain ⟨h5, q, h6⟩ := am_rf_tr E hv
  have h7 := h p e R s m args below meth c mc ms C hR H rls locs cells slots hP hL hS h1 h2 h3 h4
  rw [List.map_cons, h6] at h7
  exact lv_aload_n C.1 C.2.1 hd hj (h6 ▸ hL.get hi h5) h7
theorem am_aload {i : Nat} {v : Value} (hd : decode M.2.2.1 pc = .ok (.aload i, 2)) (hi : ls[i]? = some v) (hv : am_rf v = true) (h : am_R E d M k n (pc + 2) ls (v :: st) S iv Q) : am_R E d M k n pc ls st S iv Q := by
  intro p e R s m args below meth c mc ms C hR H rls locs cells slots hP hL hS h1 h2 h3 h4
  obtain ⟨h5, q, h6⟩ := am_rf_tr E hv
  have h7 := h p e R s m args below meth c mc ms C hR H rls locs cells slots hP hL hS h1 h2 h3 h4
  rw [List.map_cons, h6] at h7
  exact lv_aload C.1 C.2.1 hd (h6 ▸ hL.get hi h5) h7
theorem am_istore_n {j : Fin 4} {i : Nat} {x : Int32} (hd : decode M.2.2.1 pc = .ok (.istore_n j, 1)) (hj : (j : Nat) = i) (hi : i < M.2.2.2.1) (h : am_R E d M k n (pc + 1) (ls.set i (.int x)) st S iv Q) : am_R E d M k n pc ls (.int x :: st) S iv Q := by
  intro p e R s m args below meth c mc ms C hR H rls locs cells slots hP hL hS h1 h2 h3 h4
  exact lv_istore_n C.1 C.2.1 hd hj hL hi rfl (fun ls' h' => h p e R s m args below meth c mc ms C hR H ls' locs cells slots hP (am_LS.put rfl h') hS h1 h2 h3 h4)
theorem am_istore {i : Nat} {x : Int32} (hd : decode M.2.2.1 pc = .ok (.istore i, 2)) (hi : i < M.2.2.2.1) (h : am_R E d M k n (pc + 2) (ls.set i (.int x)) st S iv Q) : am_R E d M k n pc ls (.int x :: st) S iv Q := by
  intro p e R s m args below meth c mc ms C hR H rls locs cells slots hP hL hS h1 h2 h3 h4
  exact lv_istore C.1 C.2.1 hd hL hi rfl (fun ls' h' => h p e R s m args below meth c mc ms C hR H ls' locs cells slots hP (am_LS.put rfl h') hS h1 h2 h3 h4)
theorem am_astore_n {j : Fin 4} {i : Nat} {v : Value} (hd : decode M.2.2.1 pc = .ok (.astore_n j, 1)) (hj : (j : Nat) = i) (hi : i < M.2.2.2.1) (hv : am_rf v = true) (h : am_R E d M k n (pc + 1) (ls.set i v) st S iv Q) : am_R E d M k n pc ls (v :: st) S iv Q := by
  intro p e R s m args below meth c mc ms C hR H rls locs cells slots hP hL hS h1 h2 h3 h4
  obtain ⟨h5, q, h6⟩ := am_rf_tr E hv
  rw [List.map_cons, h6]
  exact lv_astore_n C.1 C.2.1 hd hj hL hi rfl (fun ls' h' => h p e R s m args below meth c mc ms C hR H ls' locs cells slots hP (am_LS.put h6 h') hS h1 h2 h3 h4)
theorem am_astore {i : Nat} {v : Value} (hd : decode M.2.2.1 pc = .ok (.astore i, 2)) (hi : i < M.2.2.2.1) (hv : am_rf v = true) (h : am_R E d M k n (pc + 2) (ls.set i v) st S iv Q) : am_R E d M k n pc ls (v :: st) S iv Q := by
  intro p e R s m args below meth c mc ms C hR H rls locs cells slots hP hL hS h1 h2 h3 h4
  obtain ⟨h5, q, h6⟩ := am_rf_tr E hv
  rw [List.map_cons, h6]
  exact lv_astore C.1 C.2.1 hd hL hi rfl (fun ls' h' => h p e R s m args below meth c mc ms C hR H ls' locs cells slots hP (am_LS.put h6 h') hS h1 h2 h3 h4)
theorem am_iinc {i : Nat} {j : Int} {x v : Int32} (hd : decode M.2.2.1 pc = .ok (.iinc i j, 3)) (hx : ls[i]? = some (.int x)) (hv : x + Int32.ofInt j = v) (hi : i < M.2.2.2.1) (h : am_R E d M k n (pc + 3) (ls.set i (.int v)) st S iv Q) : am_R E d M k n pc ls st S iv Q := by
  intro p e R s m args below meth c mc ms C hR H rls locs cells slots hP hL hS h1 h2 h3 h4
  have hm : (0 + i, am_tr E (.int x)) ∈ am_pr E 0 ls := (am_pr_mem E).mpr ⟨i, _, hx, rfl, rfl⟩
  rw [Nat.zero_add] at hm
  obtain ⟨q, hq⟩ := List.getElem?_of_mem hm
  exact lv_iinc C.1 C.2.1 hd hL hq hv hi rfl (fun ls' h' => h p e R s m args below meth c mc ms C hR H ls' locs cells slots hP (am_LS.put rfl h') hS h1 h2 h3 h4)
theorem am_iadd {x y : Int32} (hd : decode M.2.2.1 pc = .ok (.iadd, 1)) (h : am_R E d M k n (pc + 1) ls (.int (x + y) :: st) S iv Q) : am_R E d M k n pc ls (.int y :: .int x :: st) S iv Q := by
  intro p e R s m args below meth c mc ms C hR H rls locs cells slots hP hL hS h1 h2 h3 h4
  exact lv_iadd C.1 C.2.1 hd (h p e R s m args below meth c mc ms C hR H rls locs cells slots hP hL hS h1 h2 h3 h4)
theorem am_isub {x y : Int32} (hd : decode M.2.2.1 pc = .ok (.isub, 1)) (h : am_R E d M k n (pc + 1) ls (.int (x - y) :: st) S iv Q) : am_R E d M k n pc ls (.int y :: .int x :: st) S iv Q := by
  intro p e R s m args below meth c mc ms C hR H rls locs cells slots hP hL hS h1 h2 h3 h4
  exact lv_isub C.1 C.2.1 hd (h p e R s m args below meth c mc ms C hR H rls locs cells slots hP hL hS h1 h2 h3 h4)
theorem am_imul {x y : Int32} (hd : decode M.2.2.1 pc = .ok (.imul, 1)) (h : am_R E d M k n (pc + 1) ls (.int (x * y) :: st) S iv Q) : am_R E d M k n pc ls (.int y :: .int x :: st) S iv Q := by
  intro p e R s m args below meth c mc ms C hR H rls locs cells slots hP hL hS h1 h2 h3 h4
  exact lv_imul C.1 C.2.1 hd (h p e R s m args below meth c mc ms C hR H rls locs cells slots hP hL hS h1 h2 h3 h4)
theorem am_iand {x y : Int32} (hd : decode M.2.2.1 pc = .ok (.iand, 1)) (h : am_R E d M k n (pc + 1) ls (.int (x &&& y) :: st) S iv Q) : am_R E d M k n pc ls (.int y :: .int x :: st) S iv Q := by
  intro p e R s m args below meth c mc ms C hR H rls locs cells slots hP hL hS h1 h2 h3 h4
  exact lv_iand C.1 C.2.1 hd (h p e R s m args below meth c mc ms C hR H rls locs cells slots hP hL hS h1 h2 h3 h4)
theorem am_ior {x y : Int32} (hd : decode M.2.2.1 pc = .ok (.ior, 1)) (h : am_R E d M k n (pc + 1) ls (.int (x ||| y) :: st) S iv Q) : am_R E d M k n pc ls (.int y :: .int x :: st) S iv Q := by
  intro p e R s m args below meth c mc ms C hR H rls locs cells slots hP hL hS h1 h2 h3 h4
  exact lv_ior C.1 C.2.1 hd (h p e R s m args below meth c mc ms C hR H rls locs cells slots hP hL hS h1 h2 h3 h4)
theorem am_ixor {x y : Int32} (hd : decode M.2.2.1 pc = .ok (.ixor, 1)) (h : am_R E d M k n (pc + 1) ls (.int (x ^^^ y) :: st) S iv Q) : am_R E d M k n pc ls (.int y :: .int x :: st) S iv Q := by
  intro p e R s m args below meth c mc ms C hR H rls locs cells slots hP hL hS h1 h2 h3 h4
  exact lv_ixor C.1 C.2.1 hd (h p e R s m args below meth c mc ms C hR H rls locs cells slots hP hL hS h1 h2 h3 h4)
theorem am_ishl {x y : Int32} (hd : decode M.2.2.1 pc = .ok (.ishl, 1)) (h : am_R E d M k n (pc + 1) ls (.int (x <<< (y &&& 31)) :: st) S iv Q) : am_R E d M k n pc ls (.int y :: .int x :: st) S iv Q := by
  intro p e R s m args below meth c mc ms C hR H rls locs cells slots hP hL hS h1 h2 h3 h4
  exact lv_ishl C.1 C.2.1 hd (h p e R s m args below meth c mc ms C hR H rls locs cells slots hP hL hS h1 h2 h3 h4)
theorem am_ishr {x y : Int32} (hd : decode M.2.2.1 pc = .ok (.ishr, 1)) (h : am_R E d M k n (pc + 1) ls (.int (x >>> (y &&& 31)) :: st) S iv Q) : am_R E d M k n pc ls (.int y :: .int x :: st) S iv Q := by
  intro p e R s m args below meth c mc ms C hR H rls locs cells slots hP hL hS h1 h2 h3 h4
  exact lv_ishr C.1 C.2.1 hd (h p e R s m args below meth c mc ms C hR H rls locs cells slots hP hL hS h1 h2 h3 h4)
theorem am_idiv {x y : Int32} (hd : decode M.2.2.1 pc = .ok (.idiv, 1)) (hy : ¬ y = 0) (h : am_R E d M k n (pc + 1) ls (.int (x / y) :: st) S iv Q) : am_R E d M k n pc ls (.int y :: .int x :: st) S iv Q := by
  intro p e R s m args below meth c mc ms C hR H rls locs cells slots hP hL hS h1 h2 h3 h4
  exact lv_idiv C.1 C.2.1 hd hy (h p e R s m args below meth c mc ms C hR H rls locs cells slots hP hL hS h1 h2 h3 h4)
theorem am_irem {x y : Int32} (hd : decode M.2.2.1 pc = .ok (.irem, 1)) (hy : ¬ y = 0) (h : am_R E d M k n (pc + 1) ls (.int (x - x / y * y) :: st) S iv Q) : am_R E d M k n pc ls (.int y :: .int x :: st) S iv Q := by
  intro p e R s m args below meth c mc ms C hR H rls locs cells slots hP hL hS h1 h2 h3 h4
  exact lv_irem C.1 C.2.1 hd hy (h p e R s m args below meth c mc ms C hR H rls locs cells slots hP hL hS h1 h2 h3 h4)
theorem am_iushr {x y : Int32} (hd : decode M.2.2.1 pc = .ok (.iushr, 1)) (h : am_R E d M k n (pc + 1) ls (.int (x.toUInt32 >>> (y.toUInt32 &&& Int32.toUInt32 31)).toInt32 :: st) S iv Q) : am_R E d M k n pc ls (.int y :: .int x :: st) S iv Q := by
  intro p e R s m args below meth c mc ms C hR H rls locs cells slots hP hL hS h1 h2 h3 h4
  exact lv_iushr C.1 C.2.1 hd rfl (h p e R s m args below meth c mc ms C hR H rls locs cells slots hP hL hS h1 h2 h3 h4)
theorem am_ineg {x : Int32} (hd : decode M.2.2.1 pc = .ok (.ineg, 1)) (h : am_R E d M k n (pc + 1) ls (.int (-x) :: st) S iv Q) : am_R E d M k n pc ls (.int x :: st) S iv Q := by
  intro p e R s m args below meth c mc ms C hR H rls locs cells slots hP hL hS h1 h2 h3 h4
  exact lv_ineg C.1 C.2.1 hd (h p e R s m args below meth c mc ms C hR H rls locs cells slots hP hL hS h1 h2 h3 h4)
theorem am_i2l {x : Int32} (hd : decode M.2.2.1 pc = .ok (.i2l, 1)) (h : am_R E d M k n (pc + 1) ls (.long x.toInt64 :: st) S iv Q) : am_R E d M k n pc ls (.int x :: st) S iv Q := by
  intro p e R s m args below meth c mc ms C hR H rls locs cells slots hP hL hS h1 h2 h3 h4
  exact lv_i2l C.1 C.2.1 hd rfl (h p e R s m args below meth c mc ms C hR H rls locs cells slots hP hL hS h1 h2 h3 h4)
theorem am_i2b {x : Int32} (hd : decode M.2.2.1 pc = .ok (.i2b, 1)) (h : am_R E d M k n (pc + 1) ls (.int x.toInt8.toInt32 :: st) S iv Q) : am_R E d M k n pc ls (.int x :: st) S iv Q := by
  intro p e R s m args below meth c mc ms C hR H rls locs cells slots hP hL hS h1 h2 h3 h4
  exact lv_i2b C.1 C.2.1 hd rfl (h p e R s m args below meth c mc ms C hR H rls locs cells slots hP hL hS h1 h2 h3 h4)
theorem am_i2c {x : Int32} (hd : decode M.2.2.1 pc = .ok (.i2c, 1)) (h : am_R E d M k n (pc + 1) ls (.int (x.toUInt32 % 65536).toInt32 :: st) S iv Q) : am_R E d M k n pc ls (.int x :: st) S iv Q := by
  intro p e R s m args below meth c mc ms C hR H rls locs cells slots hP hL hS h1 h2 h3 h4
  exact lv_i2c C.1 C.2.1 hd rfl (h p e R s m args below meth c mc ms C hR H rls locs cells slots hP hL hS h1 h2 h3 h4)
theorem am_dup {v : Value} (hd : decode M.2.2.1 pc = .ok (.dup, 1)) (hv : v.category = 1) (h : am_R E d M k n (pc + 1) ls (v :: v :: st) S iv Q) : am_R E d M k n pc ls (v :: st) S iv Q := by
  intro p e R s m args below meth c mc ms C hR H rls locs cells slots hP hL hS h1 h2 h3 h4
  exact lv_dup C.1 C.2.1 hd ((am_tr_cat E v).trans hv) (h p e R s m args below meth c mc ms C hR H rls locs cells slots hP hL hS h1 h2 h3 h4)
theorem am_pop {v : Value} (hd : decode M.2.2.1 pc = .ok (.pop, 1)) (hv : v.category = 1) (h : am_R E d M k n (pc + 1) ls st S iv Q) : am_R E d M k n pc ls (v :: st) S iv Q := by
  intro p e R s m args below meth c mc ms C hR H rls locs cells slots hP hL hS h1 h2 h3 h4
  exact lv_pop C.1 C.2.1 hd ((am_tr_cat E v).trans hv) (h p e R s m args below meth c mc ms C hR H rls locs cells slots hP hL hS h1 h2 h3 h4)
theorem am_dup2 {v u : Value} (hd : decode M.2.2.1 pc = .ok (.dup2, 1)) (hv : v.category = 1) (hu : u.category = 1) (h : am_R E d M k n (pc + 1) ls (v :: u :: v :: u :: st) S iv Q) : am_R E d M k n pc ls (v :: u :: st) S iv Q := by
  intro p e R s m args below meth c mc ms C hR H rls locs cells slots hP hL hS h1 h2 h3 h4
  exact lv_dup2_11 C.1 C.2.1 hd ((am_tr_cat E v).trans hv) ((am_tr_cat E u).trans hu) (h p e R s m args below meth c mc ms C hR H rls locs cells slots hP hL hS h1 h2 h3 h4)

theorem am_if_eq {x : Int32} {off : Int} {tgt : Nat} (hd : decode M.2.2.1 pc = .ok (.ifCond .eq off, 3)) (ht : (pc : Int) + off = (tgt : Int)) (kt : x = 0 → am_R E d M k n tgt ls st S iv Q) (kf : ¬ x = 0 → am_R E d M k n (pc + 3) ls st S iv Q) : am_R E d M k n pc ls (.int x :: st) S iv Q := by
  intro p e R s m args below meth c mc ms C hR H rls locs cells slots hP hL hS h1 h2 h3 h4
  exact lv_if_eq C.1 C.2.1 hd ht (fun z => kt z p e R s m args below meth c mc ms C hR H rls locs cells slots hP hL hS h1 h2 h3 h4) (fun z => kf z p e R s m args below meth c mc ms C hR H rls locs cells slots hP hL hS h1 h2 h3 h4)
theorem am_icmp_eq {x y : Int32} {off : Int} {tgt : Nat} (hd : decode M.2.2.1 pc = .ok (.if_icmp .eq off, 3)) (ht : (pc : Int) + off = (tgt : Int)) (kt : x = y → am_R E d M k n tgt ls st S iv Q) (kf : ¬ x = y → am_R E d M k n (pc + 3) ls st S iv Q) : am_R E d M k n pc ls (.int y :: .int x :: st) S iv Q := by
  intro p e R s m args below meth c mc ms C hR H rls locs cells slots hP hL hS h1 h2 h3 h4
  exact lv_icmp_eq C.1 C.2.1 hd ht (fun z => kt z p e R s m args below meth c mc ms C hR H rls locs cells slots hP hL hS h1 h2 h3 h4) (fun z => kf z p e R s m args below meth c mc ms C hR H rls locs cells slots hP hL hS h1 h2 h3 h4)
theorem am_if_ne {x : Int32} {off : Int} {tgt : Nat} (hd : decode M.2.2.1 pc = .ok (.ifCond .ne off, 3)) (ht : (pc : Int) + off = (tgt : Int)) (kt : ¬ x = 0 → am_R E d M k n tgt ls st S iv Q) (kf : x = 0 → am_R E d M k n (pc + 3) ls st S iv Q) : am_R E d M k n pc ls (.int x :: st) S iv Q := by
  intro p e R s m args below meth c mc ms C hR H rls locs cells slots hP hL hS h1 h2 h3 h4
  exact lv_if_ne C.1 C.2.1 hd ht (fun z => kt z p e R s m args below meth c mc ms C hR H rls locs cells slots hP hL hS h1 h2 h3 h4) (fun z => kf z p e R s m args below meth c mc ms C hR H rls locs cells slots hP hL hS h1 h2 h3 h4)
theorem am_icmp_ne {x y : Int32} {off : Int} {tgt : Nat} (hd : decode M.2.2.1 pc = .ok (.if_icmp .ne off, 3)) (ht : (pc : Int) + off = (tgt : Int)) (kt : ¬ x = y → am_R E d M k n tgt ls st S iv Q) (kf : x = y → am_R E d M k n (pc + 3) ls st S iv Q) : am_R E d M k n pc ls (.int y :: .int x :: st) S iv Q := by
  intro p e R s m args below meth c mc ms C hR H rls locs cells slots hP hL hS h1 h2 h3 h4
  exact lv_icmp_ne C.1 C.2.1 hd ht (fun z => kt z p e R s m args below meth c mc ms C hR H rls locs cells slots hP hL hS h1 h2 h3 h4) (fun z => kf z p e R s m args below meth c mc ms C hR H rls locs cells slots hP hL hS h1 h2 h3 h4)
theorem am_if_lt {x : Int32} {off : Int} {tgt : Nat} (hd : decode M.2.2.1 pc = .ok (.ifCond .lt off, 3)) (ht : (pc : Int) + off = (tgt : Int)) (kt : x < 0 → am_R E d M k n tgt ls st S iv Q) (kf : ¬ x < 0 → am_R E d M k n (pc + 3) ls st S iv Q) : am_R E d M k n pc ls (.int x :: st) S iv Q := by
  intro p e R s m args below meth c mc ms C hR H rls locs cells slots hP hL hS h1 h2 h3 h4
  exact lv_if_lt C.1 C.2.1 hd ht (fun z => kt z p e R s m args below meth c mc ms C hR H rls locs cells slots hP hL hS h1 h2 h3 h4) (fun z => kf z p e R s m args below meth c mc ms C hR H rls locs cells slots hP hL hS h1 h2 h3 h4)
theorem am_icmp_lt {x y : Int32} {off : Int} {tgt : Nat} (hd : decode M.2.2.1 pc = .ok (.if_icmp .lt off, 3)) (ht : (pc : Int) + off = (tgt : Int)) (kt : x < y → am_R E d M k n tgt ls st S iv Q) (kf : ¬ x < y → am_R E d M k n (pc + 3) ls st S iv Q) : am_R E d M k n pc ls (.int y :: .int x :: st) S iv Q := by
  intro p e R s m args below meth c mc ms C hR H rls locs cells slots hP hL hS h1 h2 h3 h4
  exact lv_icmp_lt C.1 C.2.1 hd ht (fun z => kt z p e R s m args below meth c mc ms C hR H rls locs cells slots hP hL hS h1 h2 h3 h4) (fun z => kf z p e R s m args below meth c mc ms C hR H rls locs cells slots hP hL hS h1 h2 h3 h4)
theorem am_if_ge {x : Int32} {off : Int} {tgt : Nat} (hd : decode M.2.2.1 pc = .ok (.ifCond .ge off, 3)) (ht : (pc : Int) + off = (tgt : Int)) (kt : 0 ≤ x → am_R E d M k n tgt ls st S iv Q) (kf : ¬ 0 ≤ x → am_R E d M k n (pc + 3) ls st S iv Q) : am_R E d M k n pc ls (.int x :: st) S iv Q := by
  intro p e R s m args below meth c mc ms C hR H rls locs cells slots hP hL hS h1 h2 h3 h4
  exact lv_if_ge C.1 C.2.1 hd ht (fun z => kt z p e R s m args below meth c mc ms C hR H rls locs cells slots hP hL hS h1 h2 h3 h4) (fun z => kf z p e R s m args below meth c mc ms C hR H rls locs cells slots hP hL hS h1 h2 h3 h4)
theorem am_icmp_ge {x y : Int32} {off : Int} {tgt : Nat} (hd : decode M.2.2.1 pc = .ok (.if_icmp .ge off, 3)) (ht : (pc : Int) + off = (tgt : Int)) (kt : y ≤ x → am_R E d M k n tgt ls st S iv Q) (kf : ¬ y ≤ x → am_R E d M k n (pc + 3) ls st S iv Q) : am_R E d M k n pc ls (.int y :: .int x :: st) S iv Q := by
  intro p e R s m args below meth c mc ms C hR H rls locs cells slots hP hL hS h1 h2 h3 h4
  exact lv_icmp_ge C.1 C.2.1 hd ht (fun z => kt z p e R s m args below meth c mc ms C hR H rls locs cells slots hP hL hS h1 h2 h3 h4) (fun z => kf z p e R s m args below meth c mc ms C hR H rls locs cells slots hP hL hS h1 h2 h3 h4)
theorem am_if_gt {x : Int32} {off : Int} {tgt : Nat} (hd : decode M.2.2.1 pc = .ok (.ifCond .gt off, 3)) (ht : (pc : Int) + off = (tgt : Int)) (kt : 0 < x → am_R E d M k n tgt ls st S iv Q) (kf : ¬ 0 < x → am_R E d M k n (pc + 3) ls st S iv Q) : am_R E d M k n pc ls (.int x :: st) S iv Q := by
  intro p e R s m args below meth c mc ms C hR H rls locs cells slots hP hL hS h1 h2 h3 h4
  exact lv_if_gt C.1 C.2.1 hd ht (fun z => kt z p e R s m args below meth c mc ms C hR H rls locs cells slots hP hL hS h1 h2 h3 h4) (fun z => kf z p e R s m args below meth c mc ms C hR H rls locs cells slots hP hL hS h1 h2 h3 h4)
theorem am_icmp_gt {x y : Int32} {off : Int} {tgt : Nat} (hd : decode M.2.2.1 pc = .ok (.if_icmp .gt off, 3)) (ht : (pc : Int) + off = (tgt : Int)) (kt : y < x → am_R E d M k n tgt ls st S iv Q) (kf : ¬ y < x → am_R E d M k n (pc + 3) ls st S iv Q) : am_R E d M k n pc ls (.int y :: .int x :: st) S iv Q := by
  intro p e R s m args below meth c mc ms C hR H rls locs cells slots hP hL hS h1 h2 h3 h4
  exact lv_icmp_gt C.1 C.2.1 hd ht (fun z => kt z p e R s m args below meth c mc ms C hR H rls locs cells slots hP hL hS h1 h2 h3 h4) (fun z => kf z p e R s m args below meth c mc ms C hR H rls locs cells slots hP hL hS h1 h2 h3 h4)
theorem am_if_le {x : Int32} {off : Int} {tgt : Nat} (hd : decode M.2.2.1 pc = .ok (.ifCond .le off, 3)) (ht : (pc : Int) + off = (tgt : Int)) (kt : x ≤ 0 → am_R E d M k n tgt ls st S iv Q) (kf : ¬ x ≤ 0 → am_R E d M k n (pc + 3) ls st S iv Q) : am_R E d M k n pc ls (.int x :: st) S iv Q := by
  intro p e R s m args below meth c mc ms C hR H rls locs cells slots hP hL hS h1 h2 h3 h4
  exact lv_if_le C.1 C.2.1 hd ht (fun z => kt z p e R s m args below meth c mc ms C hR H rls locs cells slots hP hL hS h1 h2 h3 h4) (fun z => kf z p e R s m args below meth c mc ms C hR H rls locs cells slots hP hL hS h1 h2 h3 h4)
theorem am_icmp_le {x y : Int32} {off : Int} {tgt : Nat} (hd : decode M.2.2.1 pc = .ok (.if_icmp .le off, 3)) (ht : (pc : Int) + off = (tgt : Int)) (kt : x ≤ y → am_R E d M k n tgt ls st S iv Q) (kf : ¬ x ≤ y → am_R E d M k n (pc + 3) ls st S iv Q) : am_R E d M k n pc ls (.int y :: .int x :: st) S iv Q := by
  intro p e R s m args below meth c mc ms C hR H rls locs cells slots hP hL hS h1 h2 h3 h4
  exact lv_icmp_le C.1 C.2.1 hd ht (fun z => kt z p e R s m args below meth c mc ms C hR H rls locs cells slots hP hL hS h1 h2 h3 h4) (fun z => kf z p e R s m args below meth c mc ms C hR H rls locs cells slots hP hL hS h1 h2 h3 h4)
theorem am_goto {off : Int} {tgt : Nat} (hd : decode M.2.2.1 pc = .ok (.goto off, 3)) (ht : (pc : Int) + off = (tgt : Int)) (h : am_R E d M k n tgt ls st S iv Q) : am_R E d M k n pc ls st S iv Q := by
  intro p e R s m args below meth c mc ms C hR H rls locs cells slots hP hL hS h1 h2 h3 h4
  exact lv_goto C.1 C.2.1 hd ht (h p e R s m args below meth c mc ms C hR H rls locs cells slots hP hL hS h1 h2 h3 h4)
theorem am_tableIn {dflt lo hi : Int} {offs : Array Int} {len : Nat} {x : Int32} {off : Int} {tgt : Nat} (hd : decode M.2.2.1 pc = .ok (.tableswitch dflt lo hi offs, len)) (hl : ¬ x.toInt < lo) (hh : ¬ hi < x.toInt) (ho : offs[(x.toInt - lo).toNat]? = some off) (ht : (pc : Int) + off = (tgt : Int)) (h : am_R E d M k n tgt ls st S iv Q) : am_R E d M k n pc ls (.int x :: st) S iv Q := by
  intro p e R s m args below meth c mc ms C hR H rls locs cells slots hP hL hS h1 h2 h3 h4
  exact lv_tableIn C.1 C.2.1 hd hl hh ho ht (h p e R s m args below meth c mc ms C hR H rls locs cells slots hP hL hS h1 h2 h3 h4)
theorem am_tableOut {dflt lo hi : Int} {offs : Array Int} {len : Nat} {x : Int32} {tgt : Nat} (hd : decode M.2.2.1 pc = .ok (.tableswitch dflt lo hi offs, len)) (ho : x.toInt < lo ∨ hi < x.toInt) (ht : (pc : Int) + dflt = (tgt : Int)) (h : am_R E d M k n tgt ls st S iv Q) : am_R E d M k n pc ls (.int x :: st) S iv Q := by
  intro p e R s m args below meth c mc ms C hR H rls locs cells slots hP hL hS h1 h2 h3 h4
  exact lv_tableOut C.1 C.2.1 hd ho ht (h p e R s m args below meth c mc ms C hR H rls locs cells slots hP hL hS h1 h2 h3 h4)
theorem am_lcmp {x y : Int64} (hd : decode M.2.2.1 pc = .ok (.lcmp, 1)) (h : am_R E d M k n (pc + 1) ls (.int (lg_cmp x y) :: st) S iv Q) : am_R E d M k n pc ls (.long y :: .long x :: st) S iv Q := by
  intro p e R s m args below meth c mc ms C hR H rls locs cells slots hP hL hS h1 h2 h3 h4
  exact W.lcmp C.1 C.2.1 hd (h p e R s m args below meth c mc ms C hR H rls locs cells slots hP hL hS h1 h2 h3 h4)
theorem am_ireturn {x : Int32} (hd : decode M.2.2.1 pc = .ok (.ireturn, 1)) (hr : M.2.2.2.2.1 = some .int) (h : Q (.inl (some (.int x))) S iv) : am_R E d M k n pc ls [.int x] S iv Q := by
  intro p e R s m args below meth c mc ms C hR H rls locs cells slots hP hL hS h1 h2 h3 h4
  refine vx_ret (W.widen (k := mc) (n := ms) (by omega) (by omega) ?_)
  exact W.iret (v := x) C.1 C.2.1 (C.2.2.2.1.trans hr) (fun t ht hW => ⟨⟨some (.int x), S, iv, rfl, ht ▸ hP, h⟩, hS.F ht⟩) hS.2.2 hd (hlocks := C.2.2.2.2.2.2.1)
theorem am_zreturn {x : Int32} {ty : FieldType} (hd : decode M.2.2.1 pc = .ok (.ireturn, 1)) (hr : M.2.2.2.2.1 = some ty) (hn : narrow ty (.int x) = .int x) (h : Q (.inl (some (.int x))) S iv) : am_R E d M k n pc ls [.int x] S iv Q := by
  intro p e R s m args below meth c mc ms C hR H rls locs cells slots hP hL hS h1 h2 h3 h4
  refine vx_ret (W.widen (k := mc) (n := ms) (by omega) (by omega) ?_)
  exact W.zret (v := x) C.1 C.2.1 (C.2.2.2.1.trans hr) hn (fun t ht hW => ⟨⟨some (.int x), S, iv, rfl, ht ▸ hP, h⟩, hS.F ht⟩) hS.2.2 hd (hlocks := C.2.2.2.2.2.2.1)
theorem am_return (hd : decode M.2.2.1 pc = .ok (.return_, 1)) (hr : M.2.2.2.2.1 = none) (h : Q (.inl none) S iv) : am_R E d M k n pc ls [] S iv Q := by
  intro p e R s m args below meth c mc ms C hR H rls locs cells slots hP hL hS h1 h2 h3 h4
  refine vx_ret (W.widen (k := mc) (n := ms) (by omega) (by omega) ?_)
  exact W.vret C.1 C.2.1 (C.2.2.2.1.trans hr) (fun t ht hW => ⟨⟨none, S, iv, rfl, ht ▸ hP, h⟩, hS.F ht⟩) hS.2.2 hd (hlocks := C.2.2.2.2.2.2.1)
end AMR
