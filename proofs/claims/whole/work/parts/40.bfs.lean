/-! looking by breadth: abstract -/
/-- a word of moves, the last one first, has a number: shortlex is the order of these -/
def wk : List Nat → Nat
  | [] => 0
  | d :: u => 16 * wk u + (d + 1)
theorem wk_inj : ∀ {u v : List Nat}, (∀ d ∈ u, d < 15) → (∀ d ∈ v, d < 15) → wk u = wk v → u = v
  | [], [], _, _, _ => rfl
  | [], d :: v, _, _, h => by simp only [wk] at h; omega
  | d :: u, [], _, _, h => by simp only [wk] at h; omega
  | d :: u, e :: v, hu, hv, h => by
    have h1 := hu d List.mem_cons_self
    have h2 := hv e List.mem_cons_self
    simp only [wk] at h
    have h3 : wk u = wk v := by omega
    have h4 : d = e := by omega
    rw [h4, wk_inj (fun x hx => hu x (List.mem_cons_of_mem _ hx)) (fun x hx => hv x (List.mem_cons_of_mem _ hx)) h3]
/-- where a word leads -/
def wrd {σ : Type} (δ : σ → Nat → Option σ) (s : σ) : List Nat → Option σ
  | [] => some s
  | d :: u => match wrd δ s u with
    | some x => δ x d
    | none => none
/-- the state of a search: N found, the place p of the next look (16 times the place in the line and the drawer) -/
def bf {σ : Type} (δ : σ → Nat → Option σ) (n : Nat) (s0 : σ) (N : Nat) (st : Nat → σ) (par lab : Nat → Nat) (p : Nat) : Prop :=
  (st 0 = s0 ∧ 1 ≤ N) ∧
  (∀ j, 1 ≤ j → j < N → par j < j ∧ lab j < n ∧ δ (st (par j)) (lab j) = some (st j) ∧ par j * 16 + lab j < p) ∧
  (∀ i j, 1 ≤ i → i < j → j < N → par i * 16 + lab i < par j * 16 + lab j) ∧
  (∀ i j, i < j → j < N → st i ≠ st j) ∧
  (∀ i d, i < N → d < n → i * 16 + d < p → ∀ y, δ (st i) d = some y → ∃ j, j < N ∧ st j = y ∧ (j = 0 ∨ par j * 16 + lab j ≤ i * 16 + d))
/-- the word of a place -/
def bw (par lab : Nat → Nat) : Nat → Nat → List Nat
  | 0, _ => []
  | f + 1, j => if j = 0 then [] else lab j :: bw par lab f (par j)
def bo (par lab : Nat → Nat) (j : Nat) : List Nat := bw par lab j j
section B40
variable {σ : Type} {δ : σ → Nat → Option σ} {n : Nat} {s0 : σ} {N : Nat} {st : Nat → σ} {par lab : Nat → Nat} {p : Nat}
theorem bw_f {M : Nat} (hp : ∀ j, 1 ≤ j → j < M → par j < j) : ∀ f g j, j < M → j ≤ f → j ≤ g → bw par lab f j = bw par lab g j
  | 0, 0, j, _, _, _ => rfl
  | 0, g + 1, j, _, h, _ => by have : j = 0 := by omega
                               subst this; simp [bw]
  | f + 1, 0, j, _, _, h => by have : j = 0 := by omega
                               subst this; simp [bw]
  | f + 1, g + 1, j, hM, h1, h2 => by
    by_cases e : j = 0
    · subst e; simp [bw]
    · have := hp j (by omega) hM
      simp only [bw, if_neg e]
      rw [bw_f hp f g (par j) (by omega) (by omega) (by omega)]
theorem bo_s {M : Nat} (hp : ∀ j, 1 ≤ j → j < M → par j < j) {j : Nat} (h1 : 1 ≤ j) (hM : j < M) : bo par lab j = lab j :: bo par lab (par j) := by
  have h2 := hp j h1 hM
  unfold bo
  obtain ⟨f, rfl⟩ : ∃ f, j = f + 1 := ⟨j - 1, by omega⟩
  have : bw par lab (f + 1) (f + 1) = lab (f + 1) :: bw par lab f (par (f + 1)) := by simp [bw]
  rw [this, bw_f hp f (par (f + 1)) (par (f + 1)) (by omega) (by omega) (Nat.le_refl _)]
theorem bo_0 : bo par lab 0 = [] := rfl
theorem bf.pr (h : bf δ n s0 N st par lab p) : ∀ j, 1 ≤ j → j < N → par j < j := fun j h1 h2 => (h.2.1 j h1 h2).1
/-- a place's word leads there -/
theorem bf.wr (h : bf δ n s0 N st par lab p) : ∀ j, j < N → wrd δ s0 (bo par lab j) = some (st j) := by
  intro j
  induction j using Nat.strongRecOn with
  | _ j ih =>
    intro hj
    by_cases e : j = 0
    · subst e; rw [bo_0]; show some s0 = _; rw [h.1.1]
    · obtain ⟨a1, a2, a3, -⟩ := h.2.1 j (by omega) hj
      rw [bo_s h.pr (by omega) hj]
      show (match wrd δ s0 (bo par lab (par j)) with | some x => δ x (lab j) | none => none) = _
      rw [ih (par j) a1 (by omega)]
      exact a3
theorem bf.dig (h : bf δ n s0 N st par lab p) : ∀ j, j < N → ∀ d ∈ bo par lab j, d < n := by
  intro j
  induction j using Nat.strongRecOn with
  | _ j ih =>
    intro hj d hd
    by_cases e : j = 0
    · subst e; rw [bo_0] at hd; cases hd
    · obtain ⟨a1, a2, -, -⟩ := h.2.1 j (by omega) hj
      rw [bo_s h.pr (by omega) hj] at hd
      rcases List.mem_cons.mp hd with rfl | hd
      · exact a2
      · exact ih (par j) a1 (by omega) d hd
/-- words grow along the line -/
theorem bf.mono (h : bf δ n s0 N st par lab p) (hn : n ≤ 10) : ∀ j, j < N → ∀ i, i < j → wk (bo par lab i) < wk (bo par lab j) := by
  intro j
  induction j using Nat.strongRecOn with
  | _ j ih =>
    intro hj i hi
    obtain ⟨a1, a2, -, -⟩ := h.2.1 j (by omega) hj
    rw [bo_s h.pr (show 1 ≤ j by omega) hj]
    by_cases e : i = 0
    · subst e; rw [bo_0]; simp only [wk]; omega
    · obtain ⟨b1, b2, -, -⟩ := h.2.1 i (by omega) (by omega)
      have k := h.2.2.1 i j (by omega) hi hj
      rw [bo_s h.pr (show 1 ≤ i by omega) (by omega)]
      simp only [wk]
      by_cases e2 : par i = par j
      · rw [e2] at k ⊢; omega
      · have := ih (par j) a1 (by omega) (par i) (by omega)
        omega
theorem bf.mono' (h : bf δ n s0 N st par lab p) (hn : n ≤ 10) {i j : Nat} (hj : j < N) (hi : i ≤ j) : wk (bo par lab i) ≤ wk (bo par lab j) := by
  by_cases e : i = j
  · rw [e]; exact Nat.le_refl _
  · exact Nat.le_of_lt (h.mono hn j hj i (by omega))
/-- every word either leads to a place found by a word no later, or is no earlier than all found -/
theorem bf.least (h : bf δ n s0 N st par lab p) (hn : n ≤ 10) : ∀ (w : List Nat), (∀ d ∈ w, d < n) → ∀ y, wrd δ s0 w = some y → (∃ j, j < N ∧ st j = y ∧ wk (bo par lab j) ≤ wk w) ∨ (∀ j, j < N → wk (bo par lab j) ≤ wk w)
  | [], _, y, hy => by
    left
    refine ⟨0, by have := h.1.2; omega, ?_, Nat.le_refl _⟩
    rw [h.1.1]; exact Option.some.inj hy
  | d :: u, hd, y, hy => by
    have hdn := hd d List.mem_cons_self
    have hy' : (match wrd δ s0 u with | some x => δ x d | none => none) = some y := hy
    cases hx : wrd δ s0 u with
    | none => rw [hx] at hy'; cases hy'
    | some x =>
      rw [hx] at hy'
      rcases bf.least h hn u (fun e he => hd e (List.mem_cons_of_mem _ he)) x hx with ⟨i, h1, h2, h3⟩ | h1
      · have hy2 : δ (st i) d = some y := by rw [h2]; exact hy'
        by_cases hp : i * 16 + d < p
        · left
          obtain ⟨j, g1, g2, g3⟩ := h.2.2.2.2 i d h1 hdn hp y hy2
          refine ⟨j, g1, g2, ?_⟩
          by_cases e : j = 0
          · subst e; rw [bo_0]; exact Nat.zero_le _
          · obtain ⟨b1, b2, -, -⟩ := h.2.1 j (by omega) g1
            rw [bo_s h.pr (show 1 ≤ j by omega) g1]
            have g4 : par j * 16 + lab j ≤ i * 16 + d := by omega
            simp only [wk]
            have g5 : par j ≤ i := by omega
            have := h.mono' hn h1 g5
            by_cases e2 : par j = i
            · rw [e2] at g4 this ⊢; omega
            · have := h.mono hn i h1 (par j) (by omega)
              omega
        · right
          intro j hj
          by_cases e : j = 0
          · subst e; rw [bo_0]; exact Nat.zero_le _
          · obtain ⟨b1, b2, -, b4⟩ := h.2.1 j (by omega) hj
            rw [bo_s h.pr (show 1 ≤ j by omega) hj]
            simp only [wk]
            have g5 : par j ≤ i := by omega
            have := h.mono' hn h1 g5
            by_cases e2 : par j = i
            · rw [e2] at b4 this ⊢; omega
            · have := h.mono hn i h1 (par j) (by omega)
              omega
      · right
        intro j hj
        have := h1 j hj
        simp only [wk]
        omega
/-- once all are looked at, every word leads to one found -/
theorem bf.all (h : bf δ n s0 N st par lab p) (hn : n ≤ 10) (hp : N * 16 ≤ p) : ∀ (w : List Nat), (∀ d ∈ w, d < n) → ∀ y, wrd δ s0 w = some y → ∃ j, j < N ∧ st j = y ∧ wk (bo par lab j) ≤ wk w
  | [], _, y, hy => by
    refine ⟨0, by have := h.1.2; omega, ?_, Nat.le_refl _⟩
    rw [h.1.1]; exact Option.some.inj hy
  | d :: u, hd, y, hy => by
    have hdn := hd d List.mem_cons_self
    have hy' : (match wrd δ s0 u with | some x => δ x d | none => none) = some y := hy
    cases hx : wrd δ s0 u with
    | none => rw [hx] at hy'; cases hy'
    | some x =>
      rw [hx] at hy'
      obtain ⟨i, h1, h2, h3⟩ := bf.all h hn hp u (fun e he => hd e (List.mem_cons_of_mem _ he)) x hx
      have hy2 : δ (st i) d = some y := by rw [h2]; exact hy'
      obtain ⟨j, g1, g2, g3⟩ := h.2.2.2.2 i d h1 hdn (by omega) y hy2
      refine ⟨j, g1, g2, ?_⟩
      by_cases e : j = 0
      · subst e; rw [bo_0]; exact Nat.zero_le _
      · obtain ⟨b1, b2, -, -⟩ := h.2.1 j (by omega) g1
        rw [bo_s h.pr (show 1 ≤ j by omega) g1]
        have g4 : par j * 16 + lab j ≤ i * 16 + d := by omega
        simp only [wk]
        have g5 : par j ≤ i := by omega
        have := h.mono' hn h1 g5
        by_cases e2 : par j = i
        · rw [e2] at g4 this ⊢; omega
        · have := h.mono hn i h1 (par j) (by omega)
          omega
/-- the beginning -/
theorem bf_0 (hs : st 0 = s0) : bf δ n s0 1 st par lab 0 :=
  ⟨⟨hs, Nat.le_refl _⟩, fun j h1 h2 => absurd h2 (by omega), fun i j h1 h2 h3 => absurd h3 (by omega), fun i j h1 h2 => absurd h2 (by omega), fun i d _ _ h => absurd h (Nat.not_lt_zero _)⟩
/-- a look that finds nothing -/
theorem bf.no {q d : Nat} (h : bf δ n s0 N st par lab (q * 16 + d)) (hn : n ≤ 10) (hd : d < n) (hy : ∀ y, δ (st q) d = some y → ∃ j, j < N ∧ st j = y) : bf δ n s0 N st par lab (q * 16 + (d + 1)) := by
  obtain ⟨h1, h2, h3, h4, h5⟩ := h
  refine ⟨h1, fun j a b => ?_, h3, h4, fun i e hi he hp y hy2 => ?_⟩
  · obtain ⟨c1, c2, c3, c4⟩ := h2 j a b
    exact ⟨c1, c2, c3, by omega⟩
  · by_cases e9 : i * 16 + e < q * 16 + d
    · exact h5 i e hi he e9 y hy2
    · have e1 : i = q := by omega
      have e2 : e = d := by omega
      subst e1; subst e2
      obtain ⟨j, g1, g2⟩ := hy y hy2
      refine ⟨j, g1, g2, ?_⟩
      by_cases ej : j = 0
      · exact Or.inl ej
      · obtain ⟨-, -, -, c4⟩ := h2 j (by omega) g1
        exact Or.inr (by omega)
theorem bf.skip {q : Nat} (h : bf δ n s0 N st par lab (q * 16 + n)) (hn : n ≤ 10) : bf δ n s0 N st par lab ((q + 1) * 16) := by
  obtain ⟨h1, h2, h3, h4, h5⟩ := h
  refine ⟨h1, fun j a b => ?_, h3, h4, fun i e hi he hp y hy2 => h5 i e hi he (by omega) y hy2⟩
  obtain ⟨c1, c2, c3, c4⟩ := h2 j a b
  exact ⟨c1, c2, c3, by omega⟩
def upn {α : Type} (f : Nat → α) (N : Nat) (x : α) : Nat → α := fun j => if j = N then x else f j
theorem upn_s {α : Type} (f : Nat → α) (N : Nat) (x : α) : upn f N x N = x := by simp [upn]
theorem upn_o {α : Type} (f : Nat → α) {N j : Nat} (x : α) (h : j ≠ N) : upn f N x j = f j := by simp [upn, h]
/-- a look that finds a new one -/
theorem bf.new {q d : Nat} {y : σ} (h : bf δ n s0 N st par lab (q * 16 + d)) (hn : n ≤ 10) (hd : d < n) (hq : q < N) (hy : δ (st q) d = some y) (hno : ∀ j, j < N → st j ≠ y) : bf δ n s0 (N + 1) (upn st N y) (upn par N q) (upn lab N d) (q * 16 + (d + 1)) := by
  obtain ⟨h1, h2, h3, h4, h5⟩ := h
  refine ⟨⟨?_, by omega⟩, fun j a b => ?_, fun i j a b c => ?_, fun i j a b => ?_, fun i e hi he hp z hz => ?_⟩
  · rw [upn_o _ _ (by omega)]; exact h1.1
  · by_cases e : j = N
    · subst e
      rw [upn_s, upn_s, upn_s, upn_o _ _ (by omega)]
      exact ⟨hq, hd, hy, by omega⟩
    · obtain ⟨c1, c2, c3, c4⟩ := h2 j a (by omega)
      rw [upn_o _ _ e, upn_o _ _ e, upn_o _ _ e, upn_o _ _ (by omega)]
      exact ⟨c1, c2, c3, by omega⟩
  · by_cases e : j = N
    · subst e
      obtain ⟨c1, c2, c3, c4⟩ := h2 i a (by omega)
      rw [upn_s, upn_s, upn_o _ _ (by omega), upn_o _ _ (by omega)]
      omega
    · rw [upn_o _ _ e, upn_o _ _ e, upn_o _ _ (by omega), upn_o _ _ (by omega)]
      exact h3 i j a b (by omega)
  · by_cases e : j = N
    · subst e
      rw [upn_s, upn_o _ _ (by omega)]
      exact hno i (by omega)
    · rw [upn_o _ _ e, upn_o _ _ (by omega)]
      exact h4 i j a (by omega)
  · by_cases ei : i = N
    · omega
    · rw [upn_o _ _ ei] at hz
      by_cases e9 : i * 16 + e < q * 16 + d
      · obtain ⟨j, g1, g2, g3⟩ := h5 i e (by omega) he e9 z hz
        refine ⟨j, by omega, ?_, ?_⟩
        · rw [upn_o _ _ (by omega)]; exact g2
        · rw [upn_o _ _ (by omega), upn_o _ _ (by omega)]; exact g3
      · have e1 : i = q := by omega
        have e2 : e = d := by omega
        subst e1; subst e2
        refine ⟨N, by omega, ?_, Or.inr ?_⟩
        · rw [upn_s]; rw [hy] at hz; exact Option.some.inj hz
        · rw [upn_s, upn_s]; exact Nat.le_refl _
theorem bo_up {y y' : Nat} (h : ∀ j, 1 ≤ j → j < N → par j < j) : ∀ j, j < N → bo (upn par N y) (upn lab N y') j = bo par lab j := by
  intro j
  induction j using Nat.strongRecOn with
  | _ j ih =>
    intro hj
    by_cases e : j = 0
    · subst e; rfl
    · have h2 := h j (by omega) hj
      have h' : ∀ i, 1 ≤ i → i < N → upn par N y i < i := fun i a b => by rw [upn_o _ _ (by omega)]; exact h i a b
      rw [bo_s h (by omega) hj, bo_s h' (by omega) hj, upn_o _ _ (by omega), upn_o _ _ (by omega), ih (par j) h2 (by omega)]
end B40
section B40b
variable {σ τ : Type} {δ1 : σ → Nat → Option σ} {δ2 : τ → Nat → Option τ} {n : Nat} {s : σ} {h : σ → τ} {V : σ → Prop}
theorem wr_hom (hV : ∀ x d y, V x → d < n → δ1 x d = some y → V y) (hh : ∀ x d, V x → d < n → δ2 (h x) d = (δ1 x d).map h) (hs : V s) : ∀ (w : List Nat), (∀ d ∈ w, d < n) → wrd δ2 (h s) w = (wrd δ1 s w).map h ∧ ∀ y, wrd δ1 s w = some y → V y
  | [], _ => ⟨rfl, fun y hy => by cases hy; exact hs⟩
  | d :: u, hd => by
    obtain ⟨h1, h2⟩ := wr_hom hV hh hs u (fun e he => hd e (List.mem_cons_of_mem _ he))
    have hdn := hd d List.mem_cons_self
    show (match wrd δ2 (h s) u with | some x => δ2 x d | none => none) = Option.map h (match wrd δ1 s u with | some x => δ1 x d | none => none) ∧ ∀ y, (match wrd δ1 s u with | some x => δ1 x d | none => none) = some y → V y
    rw [h1]
    cases hx : wrd δ1 s u with
    | none => exact ⟨rfl, fun y hy => by cases hy⟩
    | some x => exact ⟨hh x d (h2 x hx) hdn, fun y hy => hV x d y (h2 x hx) hdn hy⟩
variable {N1 N2 p1 p2 : Nat} {st1 : Nat → σ} {st2 : Nat → τ} {par1 lab1 par2 lab2 : Nat → Nat}
/-- the first that fits in one search is the first in the other, by the same word -/
theorem bf_same (hn : n ≤ 10) (hV : ∀ x d y, V x → d < n → δ1 x d = some y → V y) (hh : ∀ x d, V x → d < n → δ2 (h x) d = (δ1 x d).map h) (hs : V s) (b1 : bf δ1 n s N1 st1 par1 lab1 p1) (hp1 : N1 * 16 ≤ p1) (b2 : bf δ2 n (h s) N2 st2 par2 lab2 p2) {g1 : σ → Bool} {g2 : τ → Bool} (hg : ∀ x, V x → g1 x = g2 (h x)) {j2 : Nat} (hj2 : j2 < N2) (hgj : g2 (st2 j2) = true) (hno : ∀ j, j < j2 → g2 (st2 j) = false) :
    ∃ j1, j1 < N1 ∧ g1 (st1 j1) = true ∧ (∀ j, j < j1 → g1 (st1 j) = false) ∧ bo par1 lab1 j1 = bo par2 lab2 j2 := by
  have hd2 := b2.dig j2 hj2
  obtain ⟨a1, a2⟩ := wr_hom hV hh hs _ hd2
  have a3 := b2.wr j2 hj2
  rw [a1] at a3
  cases hy : wrd δ1 s (bo par2 lab2 j2) with
  | none => rw [hy] at a3; cases a3
  | some y =>
    rw [hy] at a3
    have a4 : h y = st2 j2 := Option.some.inj a3
    have a5 := a2 y hy
    obtain ⟨j, c1, c2, c3⟩ := b1.all hn hp1 _ hd2 y hy
    have c4 : g1 (st1 j) = true := by rw [c2, hg y a5, a4]; exact hgj
    have hex : ∃ m, m ≤ j ∧ g1 (st1 m) = true ∧ ∀ q, q < m → g1 (st1 q) = false := by
      clear c1 c2 c3
      induction j using Nat.strongRecOn with
      | _ j ih =>
        by_cases e : ∃ q, q < j ∧ g1 (st1 q) = true
        · obtain ⟨q, h1, h2⟩ := e
          obtain ⟨m, k1, k2, k3⟩ := ih q h1 h2
          exact ⟨m, by omega, k2, k3⟩
        · exact ⟨j, Nat.le_refl _, c4, fun q hq => by
            cases e2 : g1 (st1 q) with
            | false => rfl
            | true => exact absurd ⟨q, hq, e2⟩ e⟩
    obtain ⟨j1, k1, k2, k3⟩ := hex
    have k4 : j1 < N1 := by omega
    refine ⟨j1, k4, k2, k3, ?_⟩
    have l1 : wk (bo par1 lab1 j1) ≤ wk (bo par2 lab2 j2) := Nat.le_trans (b1.mono' hn c1 k1) c3
    have hd1 := b1.dig j1 k4
    obtain ⟨m1, m2⟩ := wr_hom hV hh hs _ hd1
    have m3 := b1.wr j1 k4
    rw [m3] at m1
    have m4 : g2 (h (st1 j1)) = true := by rw [← hg _ (m2 _ m3)]; exact k2
    have l2 : wk (bo par2 lab2 j2) ≤ wk (bo par1 lab1 j1) := by
      rcases b2.least hn _ hd1 _ m1 with ⟨q, q1, q2, q3⟩ | q
      · have : j2 ≤ q := by
          by_cases lt : q < j2
          · have := hno q lt
            rw [q2, m4] at this
            cases this
          · omega
        exact Nat.le_trans (b2.mono' hn q1 this) q3
      · exact q j2 hj2
    exact wk_inj (fun d hd => by have := hd1 d hd; omega) (fun d hd => by have := hd2 d hd; omega) (by omega)
theorem bf_none (hn : n ≤ 10) (hV : ∀ x d y, V x → d < n → δ1 x d = some y → V y) (hh : ∀ x d, V x → d < n → δ2 (h x) d = (δ1 x d).map h) (hs : V s) (b1 : bf δ1 n s N1 st1 par1 lab1 p1) (b2 : bf δ2 n (h s) N2 st2 par2 lab2 p2) (hp2 : N2 * 16 ≤ p2) {j : Nat} (hj : j < N1) : V (st1 j) ∧ ∃ j2, j2 < N2 ∧ st2 j2 = h (st1 j) := by
  have hd := b1.dig j hj
  obtain ⟨a1, a2⟩ := wr_hom hV hh hs _ hd
  have a3 := b1.wr j hj
  rw [a3] at a1
  obtain ⟨q, q1, q2, -⟩ := b2.all hn hp2 _ hd _ a1
  exact ⟨a2 _ a3, q, q1, q2⟩
theorem bf_back (hn : n ≤ 10) (hV : ∀ x d y, V x → d < n → δ1 x d = some y → V y) (hh : ∀ x d, V x → d < n → δ2 (h x) d = (δ1 x d).map h) (hs : V s) (b1 : bf δ1 n s N1 st1 par1 lab1 p1) (hp1 : N1 * 16 ≤ p1) (b2 : bf δ2 n (h s) N2 st2 par2 lab2 p2) {j : Nat} (hj : j < N2) : ∃ j1, j1 < N1 ∧ st2 j = h (st1 j1) := by
  have hd := b2.dig j hj
  obtain ⟨a1, a2⟩ := wr_hom hV hh hs _ hd
  have a3 := b2.wr j hj
  rw [a1] at a3
  cases hy : wrd δ1 s (bo par2 lab2 j) with
  | none => rw [hy] at a3; cases a3
  | some y =>
    rw [hy] at a3
    obtain ⟨q, q1, q2, -⟩ := b1.all hn hp1 _ hd _ hy
    exact ⟨q, q1, by rw [q2]; exact (Option.some.inj a3).symm⟩
end B40b
