/-! rings: rows of parties, and what cancelling one leaves -/
abbrev Row := List Nat
def at_ (w : Row) (k : Nat) : Nat := w.getD k 0
def lkw (w : Row) (k : Nat) : Nat := 10 * at_ w k + (if k + 1 < w.length then at_ w (k + 1) else at_ w 0)
def good (w : Row) : Prop := 2 ≤ w.length ∧ w.length ≤ 4 ∧ (∀ k, at_ w k < 10) ∧ ∀ i j, i < w.length → j < w.length → at_ w i = at_ w j → i = j
def nn (ow : Nat → Int32) : Prop := ir ow 0 99999
def mnw (ow : Nat → Int32) (w : Row) : Int32 := itr (fun k a => miI a (ow (lkw w k))) (w.length - 1) 0 (ow (lkw w (w.length - 1)))
def cst (w : Row) (m : Int32) (k : Nat) (f : Nat → Int32) : Nat → Int32 := upd f (lkw w k) (f (lkw w k) - m)
def canc (ow : Nat → Int32) (w : Row) : Nat → Int32 := itr (cst w (mnw ow w)) w.length 0 ow
def gn (ow : Nat → Int32) (w : Row) : Int32 := mnw ow w * nI w.length
def isMin (ow : Nat → Int32) (w : Row) (m : Int32) : Prop := (∀ k, k < w.length → m.toInt ≤ (ow (lkw w k)).toInt) ∧ ∃ k, k < w.length ∧ m = ow (lkw w k)
theorem isMin_u {ow : Nat → Int32} {w : Row} {m m' : Int32} (h : isMin ow w m) (h' : isMin ow w m') : m = m' := by
  obtain ⟨h1, k, hk, e⟩ := h
  obtain ⟨h1', k', hk', e'⟩ := h'
  have a := h1 k' hk'
  have b := h1' k hk
  rw [← e'] at a
  rw [← e] at b
  rw [n_eq]; omega
theorem mn_loop (ow : Nat → Int32) (w : Row) : ∀ k i a, (itr (fun k a => miI a (ow (lkw w k))) k i a).toInt ≤ Int32.toInt a ∧ (∀ j, i ≤ j → j < i + k → (itr (fun k a => miI a (ow (lkw w k))) k i a).toInt ≤ (ow (lkw w j)).toInt) ∧ (itr (fun k a => miI a (ow (lkw w k))) k i a = a ∨ ∃ j, i ≤ j ∧ j < i + k ∧ itr (fun k a => miI a (ow (lkw w k))) k i a = ow (lkw w j)) := by
  intro k
  induction k with
  | zero => intro i a; simp only [itr]; exact ⟨Int.le_refl _, fun j h1 h2 => by omega, Or.inl trivial⟩
  | succ k ih =>
    intro i a
    obtain ⟨h1, h2, h3⟩ := ih (i + 1) (miI a (ow (lkw w i)))
    have t := miI_t a (ow (lkw w i))
    simp only [itr]
    refine ⟨?_, fun j j1 j2 => ?_, ?_⟩
    · split at t <;> omega
    · by_cases e : j = i
      · subst e; split at t <;> omega
      · exact h2 j (by omega) (by omega)
    · rcases h3 with h3 | ⟨j, j1, j2, j3⟩
      · rw [h3]
        unfold miI
        by_cases q : ow (lkw w i) < a
        · rw [if_pos q]; exact Or.inr ⟨i, by omega, by omega, rfl⟩
        · rw [if_neg q]; exact Or.inl rfl
      · exact Or.inr ⟨j, by omega, by omega, j3⟩
theorem mnw_min {ow : Nat → Int32} {w : Row} (h : 2 ≤ w.length) : isMin ow w (mnw ow w) := by
  obtain ⟨h1, h2, h3⟩ := mn_loop ow w (w.length - 1) 0 (ow (lkw w (w.length - 1)))
  refine ⟨fun k hk => ?_, ?_⟩
  · by_cases e : k = w.length - 1
    · subst e; exact h1
    · exact h2 k (by omega) (by omega)
  · rcases h3 with h3 | ⟨j, j1, j2, j3⟩
    · exact ⟨w.length - 1, by omega, h3⟩
    · exact ⟨j, by omega, j3⟩
theorem lkw_inj {w : Row} (g : good w) {i j : Nat} (hi : i < w.length) (hj : j < w.length) (e : lkw w i = lkw w j) : i = j := by
  obtain ⟨g1, g2, g3, g4⟩ := g
  unfold lkw at e
  have a1 := g3 i
  have a2 := g3 j
  have a3 := g3 (i + 1)
  have a4 := g3 (j + 1)
  have a5 := g3 0
  apply g4 i j hi hj
  have b1 : (if i + 1 < w.length then at_ w (i + 1) else at_ w 0) < 10 := by split <;> omega
  have b2 : (if j + 1 < w.length then at_ w (j + 1) else at_ w 0) < 10 := by split <;> omega
  omega
theorem lkw_b {w : Row} (g : good w) (k : Nat) : lkw w k < 100 := by
  obtain ⟨g1, g2, g3, g4⟩ := g
  unfold lkw
  have := g3 k
  have := g3 (k + 1)
  have := g3 0
  split <;> omega
theorem cst_loop {w : Row} (g : good w) (m : Int32) : ∀ k i (f : Nat → Int32), i + k ≤ w.length → (∀ j, i ≤ j → j < i + k → itr (cst w m) k i f (lkw w j) = f (lkw w j) - m) ∧ (∀ x, (∀ j, i ≤ j → j < i + k → x ≠ lkw w j) → itr (cst w m) k i f x = f x) := by
  intro k
  induction k with
  | zero => intro i f _; simp only [itr]; exact ⟨fun j h1 h2 => by omega, fun _ _ => by first | rfl | trivial⟩
  | succ k ih =>
    intro i f hk
    obtain ⟨h1, h2⟩ := ih (i + 1) (cst w m i f) (by omega)
    simp only [itr]
    refine ⟨fun j j1 j2 => ?_, fun x hx => ?_⟩
    · by_cases e : j = i
      · subst e
        rw [h2 (lkw w j) (fun t t1 t2 z => by have := lkw_inj g (by omega) (by omega) z; omega)]
        unfold cst
        rw [upd_at, if_pos rfl]
      · rw [h1 j (by omega) (by omega)]
        unfold cst
        rw [upd_at, if_neg (fun z => e (lkw_inj g (by omega) (by omega) z))]
    · rw [h2 x (fun t t1 t2 => hx t (by omega) (by omega))]
      unfold cst
      rw [upd_at, if_neg (hx i (by omega) (by omega))]
theorem canc_at {ow : Nat → Int32} {w : Row} (g : good w) : (∀ j, j < w.length → canc ow w (lkw w j) = ow (lkw w j) - mnw ow w) ∧ (∀ x, (∀ j, j < w.length → x ≠ lkw w j) → canc ow w x = ow x) := by
  obtain ⟨h1, h2⟩ := cst_loop g (mnw ow w) w.length 0 ow (by omega)
  exact ⟨fun j hj => h1 j (by omega) (by omega), fun x hx => h2 x (fun j _ j2 => hx j (by omega))⟩
theorem mnw_b {ow : Nat → Int32} {w : Row} (g : good w) (h : nn ow) : 0 ≤ (mnw ow w).toInt ∧ (mnw ow w).toInt ≤ 99999 := by
  obtain ⟨_, k, hk, e⟩ := mnw_min (ow := ow) g.1
  rw [e]; exact h _
theorem canc_t {ow : Nat → Int32} {w : Row} (g : good w) (h : nn ow) (x : Nat) : 0 ≤ (canc ow w x).toInt ∧ (canc ow w x).toInt ≤ (ow x).toInt := by
  obtain ⟨h1, h2⟩ := canc_at (ow := ow) g
  have b := mnw_b g h
  have mi := (mnw_min (ow := ow) g.1).1
  by_cases q : ∃ j, j < w.length ∧ x = lkw w j
  · obtain ⟨j, hj, rfl⟩ := q
    have := mi j hj
    have := h (lkw w j)
    rw [h1 j hj, n_sub (by omega) (by omega)]
    omega
  · rw [h2 x (fun j hj z => q ⟨j, hj, z⟩)]
    have := h x
    omega
theorem canc_nn {ow : Nat → Int32} {w : Row} (g : good w) (h : nn ow) : nn (canc ow w) := fun x => by
  have := canc_t g h x
  have := h x
  omega
def dead (ow : Nat → Int32) (w : Row) : Prop := ∃ k, k < w.length ∧ (ow (lkw w k)).toInt ≤ 0
theorem dead_mono {ow : Nat → Int32} {w v : Row} (g : good v) (h : nn ow) (d : dead ow w) : dead (canc ow v) w := by
  obtain ⟨k, hk, e⟩ := d
  have := canc_t g h (lkw w k)
  exact ⟨k, hk, by omega⟩
theorem dead_self {ow : Nat → Int32} {w : Row} (g : good w) (h : nn ow) : dead (canc ow w) w := by
  obtain ⟨_, k, hk, e⟩ := mnw_min (ow := ow) g.1
  refine ⟨k, hk, ?_⟩
  rw [(canc_at (ow := ow) g).1 k hk, e, Int32.sub_self, n_0]
  omega
theorem dead_noop {ow : Nat → Int32} {w : Row} (g : good w) (h : nn ow) (d : dead ow w) : canc ow w = ow ∧ gn ow w = 0 := by
  have b := mnw_b g h
  have m0 : mnw ow w = 0 := by
    obtain ⟨k, hk, e⟩ := d
    have := (mnw_min (ow := ow) g.1).1 k hk
    rw [n_eq, n_0]; omega
  refine ⟨?_, ?_⟩
  · funext x
    obtain ⟨h1, h2⟩ := canc_at (ow := ow) g
    by_cases q : ∃ j, j < w.length ∧ x = lkw w j
    · obtain ⟨j, hj, rfl⟩ := q
      rw [h1 j hj, m0, Int32.sub_zero]
    · exact h2 x (fun j hj z => q ⟨j, hj, z⟩)
  · unfold gn
    rw [m0, Int32.zero_mul]
abbrev OS := (Nat → Int32) × Int32
def fst_ (s : OS) (w : Row) : OS := (canc s.1 w, s.2 + gn s.1 w)
def fo (l : List Row) (s : OS) : OS := l.foldl fst_ s
theorem fo_nil (s : OS) : fo [] s = s := rfl
theorem fo_cons (w : Row) (l : List Row) (s : OS) : fo (w :: l) s = fo l (fst_ s w) := rfl
theorem fo_app (l1 l2 : List Row) (s : OS) : fo (l1 ++ l2) s = fo l2 (fo l1 s) := List.foldl_append
theorem fo_sum : ∀ (l : List Row) (ow : Nat → Int32) (s : Int32), fo l (ow, s) = ((fo l (ow, 0)).1, s + (fo l (ow, 0)).2) := by
  intro l
  induction l with
  | nil => intro ow s; rw [fo_nil, fo_nil]; simp
  | cons w l ih =>
    intro ow s
    rw [fo_cons, fo_cons]
    unfold fst_
    simp only
    rw [ih (canc ow w) (s + gn ow w), ih (canc ow w) (0 + gn ow w)]
    simp only [Int32.zero_add]
    rw [Int32.add_assoc]
theorem fo_nn : ∀ (l : List Row) (s : OS), (∀ w, w ∈ l → good w) → nn s.1 → nn (fo l s).1 := by
  intro l
  induction l with
  | nil => intro s _ h; exact h
  | cons w l ih =>
    intro s g h
    rw [fo_cons]
    exact ih _ (fun v hv => g v (List.mem_cons_of_mem _ hv)) (canc_nn (g w List.mem_cons_self) h)
theorem fo_dead : ∀ (l : List Row) (ow : Nat → Int32) (s : Int32), (∀ w, w ∈ l → good w) → nn ow → (∀ w, w ∈ l → dead ow w) → fo l (ow, s) = (ow, s) := by
  intro l
  induction l with
  | nil => intro ow s _ _ _; rfl
  | cons w l ih =>
    intro ow s g h d
    rw [fo_cons]
    obtain ⟨e1, e2⟩ := dead_noop (g w List.mem_cons_self) h (d w List.mem_cons_self)
    unfold fst_
    simp only
    rw [e1, e2, Int32.add_zero]
    exact ih ow s (fun v hv => g v (List.mem_cons_of_mem _ hv)) h (fun v hv => d v (List.mem_cons_of_mem _ hv))
/-! all rows, in their order -/
def R3 (a b c : Nat) : Nat → Nat → List Row
  | 0, _ => []
  | k + 1, d => (if a < d ∧ d ≠ b ∧ d ≠ c then [[a, b, c, d]] else []) ++ R3 a b c k (d + 1)
def R2 (a b : Nat) : Nat → Nat → List Row
  | 0, _ => []
  | k + 1, c => (if a < c ∧ c ≠ b then [a, b, c] :: R3 a b c 10 0 else []) ++ R2 a b k (c + 1)
def R1 (a : Nat) : Nat → Nat → List Row
  | 0, _ => []
  | k + 1, b => (if a < b then [a, b] :: R2 a b 10 0 else []) ++ R1 a k (b + 1)
def R0 : Nat → Nat → List Row
  | 0, _ => []
  | k + 1, a => R1 a 10 0 ++ R0 k (a + 1)
theorem R3_mem {a b c : Nat} : ∀ k d w, w ∈ R3 a b c k d → ∃ e, d ≤ e ∧ e < d + k ∧ a < e ∧ e ≠ b ∧ e ≠ c ∧ w = [a, b, c, e] := by
  intro k
  induction k with
  | zero => intro d w h; simp [R3] at h
  | succ k ih =>
    intro d w h
    simp only [R3, List.mem_append] at h
    rcases h with h | h
    · split at h
      · rename_i q
        simp at h
        exact ⟨d, by omega, by omega, q.1, q.2.1, q.2.2, h⟩
      · simp at h
    · obtain ⟨e, e1, e2, e3⟩ := ih (d + 1) w h
      exact ⟨e, by omega, by omega, e3⟩
theorem R2_mem {a b : Nat} : ∀ k c w, w ∈ R2 a b k c → ∃ e, c ≤ e ∧ e < c + k ∧ a < e ∧ e ≠ b ∧ (w = [a, b, e] ∨ w ∈ R3 a b e 10 0) := by
  intro k
  induction k with
  | zero => intro c w h; simp [R2] at h
  | succ k ih =>
    intro c w h
    simp only [R2, List.mem_append] at h
    rcases h with h | h
    · split at h
      · rename_i q
        simp only [List.mem_cons] at h
        exact ⟨c, by omega, by omega, q.1, q.2, h⟩
      · simp at h
    · obtain ⟨e, e1, e2, e3⟩ := ih (c + 1) w h
      exact ⟨e, by omega, by omega, e3⟩
theorem R1_mem {a : Nat} : ∀ k b w, w ∈ R1 a k b → ∃ e, b ≤ e ∧ e < b + k ∧ a < e ∧ (w = [a, e] ∨ w ∈ R2 a e 10 0) := by
  intro k
  induction k with
  | zero => intro b w h; simp [R1] at h
  | succ k ih =>
    intro b w h
    simp only [R1, List.mem_append] at h
    rcases h with h | h
    · split at h
      · rename_i q
        simp only [List.mem_cons] at h
        exact ⟨b, by omega, by omega, q, h⟩
      · simp at h
    · obtain ⟨e, e1, e2, e3⟩ := ih (b + 1) w h
      exact ⟨e, by omega, by omega, e3⟩
theorem R0_mem : ∀ k a w, w ∈ R0 k a → ∃ e, a ≤ e ∧ e < a + k ∧ w ∈ R1 e 10 0 := by
  intro k
  induction k with
  | zero => intro a w h; simp [R0] at h
  | succ k ih =>
    intro a w h
    simp only [R0, List.mem_append] at h
    rcases h with h | h
    · exact ⟨a, by omega, by omega, h⟩
    · obtain ⟨e, e1, e2, e3⟩ := ih (a + 1) w h
      exact ⟨e, by omega, by omega, e3⟩
theorem at2 {a b : Nat} : at_ [a, b] 0 = a ∧ at_ [a, b] 1 = b ∧ ∀ k, 2 ≤ k → at_ [a, b] k = 0 := by
  refine ⟨rfl, rfl, fun k hk => ?_⟩
  obtain ⟨j, rfl⟩ : ∃ j, k = j + 2 := ⟨k - 2, by omega⟩
  simp [at_]
theorem at3 {a b c : Nat} : at_ [a, b, c] 0 = a ∧ at_ [a, b, c] 1 = b ∧ at_ [a, b, c] 2 = c ∧ ∀ k, 3 ≤ k → at_ [a, b, c] k = 0 := by
  refine ⟨rfl, rfl, rfl, fun k hk => ?_⟩
  obtain ⟨j, rfl⟩ : ∃ j, k = j + 3 := ⟨k - 3, by omega⟩
  simp [at_]
theorem at4 {a b c d : Nat} : at_ [a, b, c, d] 0 = a ∧ at_ [a, b, c, d] 1 = b ∧ at_ [a, b, c, d] 2 = c ∧ at_ [a, b, c, d] 3 = d ∧ ∀ k, 4 ≤ k → at_ [a, b, c, d] k = 0 := by
  refine ⟨rfl, rfl, rfl, rfl, fun k hk => ?_⟩
  obtain ⟨j, rfl⟩ : ∃ j, k = j + 4 := ⟨k - 4, by omega⟩
  simp [at_]
theorem good2 {a b : Nat} (ha : a < 10) (hb : b < 10) (h : a ≠ b) : good [a, b] := by
  obtain ⟨e0, e1, e2⟩ := at2 (a := a) (b := b)
  refine ⟨by simp, by simp, fun k => ?_, fun i j hi hj e => ?_⟩
  · rcases (show k = 0 ∨ k = 1 ∨ 2 ≤ k by omega) with z | z | z
    · subst z; omega
    · subst z; omega
    · rw [e2 k z]; omega
  · simp at hi hj
    rcases (show i = 0 ∨ i = 1 by omega) with z | z <;> rcases (show j = 0 ∨ j = 1 by omega) with y | y <;> subst z <;> subst y <;> omega
theorem good3 {a b c : Nat} (ha : a < 10) (hb : b < 10) (hc : c < 10) (h : a ≠ b) (h1 : c ≠ a) (h2 : c ≠ b) : good [a, b, c] := by
  obtain ⟨e0, e1, e2, e3⟩ := at3 (a := a) (b := b) (c := c)
  refine ⟨by simp, by simp, fun k => ?_, fun i j hi hj e => ?_⟩
  · rcases (show k = 0 ∨ k = 1 ∨ k = 2 ∨ 3 ≤ k by omega) with z | z | z | z
    · subst z; omega
    · subst z; omega
    · subst z; omega
    · rw [e3 k z]; omega
  · simp at hi hj
    rcases (show i = 0 ∨ i = 1 ∨ i = 2 by omega) with z | z | z <;> rcases (show j = 0 ∨ j = 1 ∨ j = 2 by omega) with y | y | y <;> subst z <;> subst y <;> omega
theorem good4 {a b c d : Nat} (ha : a < 10) (hb : b < 10) (hc : c < 10) (hd : d < 10) (h : a ≠ b) (h1 : c ≠ a) (h2 : c ≠ b) (h3 : d ≠ a) (h4 : d ≠ b) (h5 : d ≠ c) : good [a, b, c, d] := by
  obtain ⟨e0, e1, e2, e3, e4⟩ := at4 (a := a) (b := b) (c := c) (d := d)
  refine ⟨by simp, by simp, fun k => ?_, fun i j hi hj e => ?_⟩
  · rcases (show k = 0 ∨ k = 1 ∨ k = 2 ∨ k = 3 ∨ 4 ≤ k by omega) with z | z | z | z | z
    · subst z; omega
    · subst z; omega
    · subst z; omega
    · subst z; omega
    · rw [e4 k z]; omega
  · simp at hi hj
    rcases (show i = 0 ∨ i = 1 ∨ i = 2 ∨ i = 3 by omega) with z | z | z | z <;> rcases (show j = 0 ∨ j = 1 ∨ j = 2 ∨ j = 3 by omega) with y | y | y | y <;> subst z <;> subst y <;> omega
theorem R3_good {a b c k d : Nat} (ha : a < 10) (hb : b < 10) (hc : c < 10) (h : a ≠ b) (h1 : c ≠ a) (h2 : c ≠ b) (hk : d + k ≤ 10) : ∀ w, w ∈ R3 a b c k d → good w := by
  intro w hw
  obtain ⟨e, e1, e2, e3, e4, e5, rfl⟩ := R3_mem k d w hw
  exact good4 ha hb hc (by omega) h h1 h2 (by omega) e4 e5
theorem R2_good {a b k c : Nat} (ha : a < 10) (hb : b < 10) (h : a ≠ b) (hk : c + k ≤ 10) : ∀ w, w ∈ R2 a b k c → good w := by
  intro w hw
  obtain ⟨e, e1, e2, e3, e4, e5⟩ := R2_mem k c w hw
  rcases e5 with rfl | e5
  · exact good3 ha hb (by omega) h (by omega) e4
  · exact R3_good ha hb (by omega) h (by omega) e4 (by omega) w e5
theorem R1_good {a k b : Nat} (ha : a < 10) (hk : b + k ≤ 10) : ∀ w, w ∈ R1 a k b → good w := by
  intro w hw
  obtain ⟨e, e1, e2, e3, e4⟩ := R1_mem k b w hw
  rcases e4 with rfl | e4
  · exact good2 ha (by omega) (by omega)
  · exact R2_good ha (by omega) (by omega) (by omega) w e4
theorem R0_good {k a : Nat} (hk : a + k ≤ 10) : ∀ w, w ∈ R0 k a → good w := by
  intro w hw
  obtain ⟨e, e1, e2, e3⟩ := R0_mem k a w hw
  exact R1_good (by omega) (by omega) w e3
/-! rows with a link that is no more are dead -/
theorem R3_dead {ow : Nat → Int32} {a b c k d : Nat} (h : (ow (10 * b + c)).toInt ≤ 0) : ∀ w, w ∈ R3 a b c k d → dead ow w := by
  intro w hw
  obtain ⟨e, e1, e2, e3, e4, e5, rfl⟩ := R3_mem k d w hw
  exact ⟨1, by simp, h⟩
theorem R3_deadA {ow : Nat → Int32} {a b c k d : Nat} (h : (ow (10 * a + b)).toInt ≤ 0) : ∀ w, w ∈ R3 a b c k d → dead ow w := by
  intro w hw
  obtain ⟨e, e1, e2, e3, e4, e5, rfl⟩ := R3_mem k d w hw
  exact ⟨0, by simp, h⟩
theorem R2_dead {ow : Nat → Int32} {a b k c : Nat} (h : (ow (10 * a + b)).toInt ≤ 0) : ∀ w, w ∈ R2 a b k c → dead ow w := by
  intro w hw
  obtain ⟨e, e1, e2, e3, e4, e5⟩ := R2_mem k c w hw
  rcases e5 with rfl | e5
  · exact ⟨0, by simp, h⟩
  · exact R3_deadA h w e5
theorem R3_skip {a b c : Nat} : ∀ j k, j ≤ a + 1 → R3 a b c (k + j) 0 = R3 a b c k j := by
  intro j
  induction j with
  | zero => intro k _; rfl
  | succ j ih =>
    intro k hj
    rw [show k + (j + 1) = (k + 1) + j by omega, ih (k + 1) (by omega)]
    simp only [R3]
    rw [if_neg (by omega)]
    rfl
theorem R2_skip {a b : Nat} : ∀ j k, j ≤ a + 1 → R2 a b (k + j) 0 = R2 a b k j := by
  intro j
  induction j with
  | zero => intro k _; rfl
  | succ j ih =>
    intro k hj
    rw [show k + (j + 1) = (k + 1) + j by omega, ih (k + 1) (by omega)]
    simp only [R2]
    rw [if_neg (by omega)]
    rfl
theorem R1_skip {a : Nat} : ∀ j k, j ≤ a + 1 → R1 a (k + j) 0 = R1 a k j := by
  intro j
  induction j with
  | zero => intro k _; rfl
  | succ j ih =>
    intro k hj
    rw [show k + (j + 1) = (k + 1) + j by omega, ih (k + 1) (by omega)]
    simp only [R1]
    rw [if_neg (by omega)]
    rfl
theorem R3_10 {a b c : Nat} (ha : a < 10) : R3 a b c 10 0 = R3 a b c (10 - (a + 1)) (a + 1) := by
  have := R3_skip (a := a) (b := b) (c := c) (a + 1) (10 - (a + 1)) (by omega)
  rw [show 10 - (a + 1) + (a + 1) = 10 by omega] at this
  exact this
theorem R2_10 {a b : Nat} (ha : a < 10) : R2 a b 10 0 = R2 a b (10 - (a + 1)) (a + 1) := by
  have := R2_skip (a := a) (b := b) (a + 1) (10 - (a + 1)) (by omega)
  rw [show 10 - (a + 1) + (a + 1) = 10 by omega] at this
  exact this
theorem R1_10 {a : Nat} (ha : a < 10) : R1 a 10 0 = R1 a (10 - (a + 1)) (a + 1) := by
  have := R1_skip (a := a) (a + 1) (10 - (a + 1)) (by omega)
  rw [show 10 - (a + 1) + (a + 1) = 10 by omega] at this
  exact this
