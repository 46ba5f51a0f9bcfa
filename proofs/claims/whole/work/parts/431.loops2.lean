/-! the ledger's loops, what was sent, the clauses -/
theorem a0 (x : Int32) : x + 0 = x := Int32.add_zero x
def heS (c : Nat) (pa ki go ma da : Nat → Int32) (p g d : Int32) : Int32 := itr (fun e a => if (decide (pa e = p) && (decide (go e = g) && decide (da e ≤ d))) = true then a + (if 2 ≤ ki e then -(ma e) else ma e) else a) c 0 0
theorem s_change {i : Nat} (hi : i < 60) (p g d : Int32) (σ : St) : Ledger_change (nI i) p g d σ = some (if (decide (σ.1 29 i = p) && (decide (σ.1 31 i = g) && decide (σ.1 34 i ≤ d))) = true then (if 2 ≤ σ.1 30 i then -(σ.1 32 i) else σ.1 32 i) else 0) := by
  have h2 : inb (nI i) 60 := n_inb (by omega) (by decide)
  have h3 := n_tn (k := i) (by omega)
  simp only [Ledger_change, if_pos h2, h3]
  by_cases a : σ.1 29 i = p <;> by_cases b : σ.1 31 i = g <;> by_cases e : σ.1 34 i ≤ d <;> by_cases f : 2 ≤ σ.1 30 i <;> simp [a, b, e, f]
theorem s_heldOn {σ : St} {c : Nat} (hc : σ.1 28 6 = nI c) (h : c ≤ 60) (p g d : Int32) : Ledger_heldOn p g d σ = some (heS c (σ.1 29) (σ.1 30) (σ.1 31) (σ.1 32) (σ.1 34) p g d) := by
  unfold Ledger_heldOn heS
  refine lp_u0 (F := fun n i a => Ledger_heldOn_L6 p g d σ n a i) (K := some) ?_ ?_ FU 0 (fu_gt (by omega))
  · intro n a; simp only [Ledger_heldOn_L6, hc, n_cmpE, if_true]
  · intro n i a hi
    have h1 := n_cmp hi (by omega)
    simp only [Ledger_heldOn_L6, s_change (show i < 60 by omega), hc, h1, nI_1, if_false, Option.bind_some]
    split <;> simp [a0]
theorem m_heldOf {τ : St} {c : Nat} (hc : τ.1 0 17 = nI c) (h : c ≤ 60) (p g d : Int32) : M_heldOf p g d τ = some (heS c (τ.1 12) (τ.1 13) (τ.1 14) (τ.1 15) (τ.1 17) p g d) := by
  unfold M_heldOf heS
  refine lp_u0 (F := fun n i a => M_heldOf_L6 p g d τ n a i) (K := some) ?_ ?_ FU 0 (fu_gt (by omega))
  · intro n a; simp only [M_heldOf_L6, hc, n_cmpE, if_true]
  · intro n i a hi
    have h1 := n_cmp hi (by omega)
    have h2 : inb (nI i) 60 := n_inb (by omega) (by decide)
    have h3 := n_tn (k := i) (by omega)
    simp only [M_heldOf_L6, hc, h1, if_pos h2, h3, nI_1, if_false]
    have hd : (d < τ.1 17 i) ↔ ¬ (τ.1 17 i ≤ d) := by rw [n_lt, n_le]; omega
    by_cases x : τ.1 12 i = p <;> by_cases y : τ.1 14 i = g <;> by_cases z : τ.1 17 i ≤ d <;> by_cases w : 2 ≤ τ.1 13 i <;> simp [x, y, z, w, hd]
theorem itr_congr {A : Type} {f g : Nat → A → A} (h : ∀ i a, f i a = g i a) : ∀ k i a, itr f k i a = itr g k i a := by
  intro k
  induction k with
  | zero => intro i a; rfl
  | succ k ih => intro i a; simp only [itr, h, ih]
theorem itr_congrI {A : Type} {f g : Nat → A → A} {c : Nat} (h : ∀ i a, i < c → f i a = g i a) : ∀ k i a, i + k ≤ c → itr f k i a = itr g k i a := by
  intro k
  induction k with
  | zero => intro i a _; rfl
  | succ k ih => intro i a hk; simp only [itr, h i a (by omega)]; exact ih _ _ (by omega)
theorem heS_top {c : Nat} {pa ki go ma da : Nat → Int32} (h : ir da 0 9999) (p g : Int32) : heS c pa ki go ma da p g 10000 = heS c pa ki go ma da p g 9999 := by
  unfold heS
  apply itr_congr
  intro i a
  have h1 : da i ≤ 10000 := by rw [n_le, n_10000]; have := h i; omega
  have h2 : da i ≤ 9999 := by rw [n_le, k_9999]; have := h i; omega
  simp [h1, h2]
def coS (c : Nat) (pa : Nat → Int32) (p : Int32) : Int32 := itr (fun e a => if pa e = p then a + 1 else a) c 0 0
theorem s_countOf {σ : St} {c : Nat} (hc : σ.1 28 6 = nI c) (h : c ≤ 60) (p : Int32) : Ledger_countOf p σ = some (coS c (σ.1 29) p) := by
  unfold Ledger_countOf coS
  refine lp_u0 (F := fun n i a => Ledger_countOf_L4 p σ n a i) (K := some) ?_ ?_ FU 0 (fu_gt (by omega))
  · intro n a; simp only [Ledger_countOf_L4, hc, n_cmpE, if_true]
  · intro n i a hi
    have h1 := n_cmp hi (by omega)
    have h2 : inb (nI i) 60 := n_inb (by omega) (by decide)
    have h3 := n_tn (k := i) (by omega)
    simp only [Ledger_countOf_L4, hc, h1, if_pos h2, h3, nI_1, if_false]
    split <;> rfl
theorem m_entriesOf {τ : St} {c : Nat} (hc : τ.1 0 17 = nI c) (h : c ≤ 60) (p : Int32) : M_entriesOf p τ = some (coS c (τ.1 12) p) := by
  unfold M_entriesOf coS
  refine lp_u0 (F := fun n i a => M_entriesOf_L4 p τ n a i) (K := some) ?_ ?_ FU 0 (fu_gt (by omega))
  · intro n a; simp only [M_entriesOf_L4, hc, n_cmpE, if_true]
  · intro n i a hi
    have h1 := n_cmp hi (by omega)
    have h2 : inb (nI i) 60 := n_inb (by omega) (by decide)
    have h3 := n_tn (k := i) (by omega)
    simp only [M_entriesOf_L4, hc, h1, if_pos h2, h3, nI_1, if_false, a0]
    split <;> rfl
def ldS (c : Nat) (pa da : Nat → Int32) (p : Int32) : Int32 := fdn (fun e => decide (pa e = p)) da (-9) c
theorem s_latestDay {σ : St} {c : Nat} (hc : σ.1 28 6 = nI c) (h : c ≤ 60) (p : Int32) : Ledger_latestDay p σ = some (ldS c (σ.1 29) (σ.1 34) p) := by
  unfold Ledger_latestDay ldS
  rw [← fdn_some, hc]
  refine lp_d0 (F := fun n i => Ledger_latestDay_L7 p σ n i) ?_ ?_ FU (fu_gt (by omega))
  · intro n; simp only [Ledger_latestDay_L7, show (-1 : Int32) < 0 by decide, if_true]
  · intro n i hi
    have h0 : ¬ nI i < 0 := by rw [n_lt, n_0, n_ti (by omega)]; omega
    have h2 : inb (nI i) 60 := n_inb (by omega) (by decide)
    have h3 := n_tn (k := i) (by omega)
    simp only [Ledger_latestDay_L7, h0, if_pos h2, h3, if_false]
    by_cases q : σ.1 29 i = p <;> simp [q]
theorem fdn_at {R : Type} (P : Nat → Bool) (v : Nat → R) (z : R) : ∀ k, (∃ j, j < k ∧ P j = true ∧ (∀ t, j < t → t < k → P t = false) ∧ fdn P v z k = v j) ∨ ((∀ j, j < k → P j = false) ∧ fdn P v z k = z) := by
  intro k
  induction k with
  | zero => exact Or.inr ⟨fun j _ => by omega, rfl⟩
  | succ k ih =>
    simp only [fdn]
    cases hp : P k
    · simp only [Bool.false_eq_true, if_false]
      rcases ih with ⟨j, h1, h2, h3, h4⟩ | ⟨h1, h2⟩
      · refine Or.inl ⟨j, by omega, h2, fun t ht1 ht2 => ?_, h4⟩
        by_cases e : t = k
        · rw [e]; exact hp
        · exact h3 t ht1 (by omega)
      · refine Or.inr ⟨fun j hj => ?_, h2⟩
        by_cases e : j = k
        · rw [e]; exact hp
        · exact h1 j (by omega)
    · simp only [if_true]
      exact Or.inl ⟨k, by omega, hp, fun t _ _ => by omega, rfl⟩
/-- whether an ENTRY of the PACK is of a later DAY -/
def ltS (c : Nat) (pa da : Nat → Int32) (p d : Int32) : Bool := fnd (fun e => decide (pa e = p) && !decide (da e ≤ d)) (fun _ => true) false c 0
theorem ld_lt {c : Nat} {pa da : Nat → Int32} (hm : ∀ i j : Nat, i ≤ j → j < c → pa i = pa j → (da i).toInt ≤ (da j).toInt) (p d : Int32) (hd : 0 ≤ d.toInt) : (ldS c pa da p ≤ d) ↔ ltS c pa da p d = false := by
  unfold ldS ltS
  rcases fdn_at (fun e => decide (pa e = p)) da (-9) c with ⟨j, h1, h2, h3, h4⟩ | ⟨h1, h2⟩
  · simp only [h4]
    rcases fnd_at (fun e => decide (pa e = p) && !decide (da e ≤ d)) (fun _ => true) false c 0 with ⟨k, g1, g2, g3, g4, g5⟩ | ⟨g1, g2⟩
    · simp only [g5]
      simp only [Bool.and_eq_true, decide_eq_true_eq, Bool.not_eq_true', decide_eq_false_iff_not] at g3 h2
      constructor
      · intro q
        exfalso
        have hkj : k ≤ j := by
          rcases Nat.lt_or_ge j k with w | w
          · have := h3 k w (by omega)
            simp only [decide_eq_false_iff_not] at this
            exact absurd g3.1 this
          · exact w
        have := hm k j hkj h1 (by rw [g3.1, h2])
        apply g3.2
        rw [n_le] at q ⊢
        omega
      · intro q; cases q
    · simp only [g2]
      constructor
      · intro _; trivial
      · intro _
        have := g1 j (Nat.zero_le _) (by omega)
        simp only [decide_eq_true_eq] at h2
        simp only [h2, decide_true, Bool.true_and, Bool.not_eq_false', decide_eq_true_eq] at this
        exact this
  · simp only [h2]
    rcases fnd_at (fun e => decide (pa e = p) && !decide (da e ≤ d)) (fun _ => true) false c 0 with ⟨k, g1, g2, g3, g4, g5⟩ | ⟨g1, g2⟩
    · exfalso
      have := h1 k (by omega)
      simp only [Bool.and_eq_true, decide_eq_true_eq, decide_eq_false_iff_not] at g3 this
      exact this g3.1
    · simp only [g2]
      constructor
      · intro _; trivial
      · intro _; rw [n_le, k_m9]; omega
def seS (c : Nat) (fo co da : Nat → Int32) (p d : Int32) : Int32 := itr (fun e a => if (decide (fo e = p) && !decide (d < da e)) = true then a + co e else a) c 0 0
theorem s_sentBy {σ : St} {c : Nat} (hc : σ.1 21 7 = nI c) (h : c ≤ 512) (p d : Int32) : Packs_sentBy p d σ = some (seS c (σ.1 25) (σ.1 26) (σ.1 27) p d) := by
  unfold Packs_sentBy seS
  refine lp_u0 (F := fun n i a => Packs_sentBy_L5 p d σ n a i) (K := some) ?_ ?_ FU 0 (fu_gt (by omega))
  · intro n a; simp only [Packs_sentBy_L5, hc, n_cmpE, if_true]
  · intro n i a hi
    have h1 := n_cmp hi (by omega)
    have h2 : inb (nI i) 512 := n_inb (by omega) (by decide)
    have h3 := n_tn (k := i) (by omega)
    simp only [Packs_sentBy_L5, hc, h1, if_pos h2, h3, nI_1, if_false]
    by_cases x : σ.1 25 i = p <;> by_cases y : d < σ.1 27 i <;> simp [x, y]
theorem m_sentFor {τ : St} {c : Nat} (hc : τ.1 0 49 = nI c) (h : c ≤ 1200) (p d : Int32) : M_sentFor p d τ = some (seS c (τ.1 39) (τ.1 40) (τ.1 41) p d) := by
  unfold M_sentFor seS
  refine lp_u0 (F := fun n i a => M_sentFor_L5 p d τ n a i) (K := some) ?_ ?_ FU 0 (fu_gt (by omega))
  · intro n a; simp only [M_sentFor_L5, hc, n_cmpE, if_true]
  · intro n i a hi
    have h1 := n_cmp hi (by omega)
    have h2 : inb (nI i) 1200 := n_inb (by omega) (by decide)
    have h3 := n_tn (k := i) (by omega)
    simp only [M_sentFor_L5, hc, h1, if_pos h2, h3, nI_1, if_false, a0]
    by_cases x : τ.1 39 i = p <;> by_cases y : d < τ.1 41 i <;> simp [x, y]
theorem seS_top {c : Nat} {fo co da : Nat → Int32} (h : ir da 0 9999) (p : Int32) : seS c fo co da p 10000 = seS c fo co da p 9999 := by
  unfold seS
  apply itr_congr
  intro i a
  have h1 : ¬ (10000 : Int32) < da i := by rw [n_lt, n_10000]; have := h i; omega
  have h2 : ¬ (9999 : Int32) < da i := by rw [n_lt, k_9999]; have := h i; omega
  simp [h1, h2]
/-! clauses -/
def clS (la fr to ln : Nat → Int32) (Q : Nat → Bool) (land day : Int32) : Nat → Int32
  | 0 => -9
  | t + 1 => if (decide (la t = land) && bl day (fr t) (to t)) = true then fdn (fun j => Q (6 * t + j)) (fun j => nI (6 * t + j)) (clS la fr to ln Q land day t) (ln t).toNatClampNeg else clS la fr to ln Q land day t
theorem idx6 (a b : Nat) : nI a * (6 : Int32) + nI b = nI (6 * a + b) := by
  rw [← l6, nI_mul, nI_add, Nat.mul_comm]
theorem idx6' (a : Nat) : (6 : Int32) * nI a = nI (6 * a) := by
  rw [← l6, nI_mul]
theorem ln_of {f : Nat → Int32} {m : Nat} (h : ir f 0 m) (hm : m ≤ 2000000) (t : Nat) : ∃ l : Nat, l ≤ m ∧ f t = nI l ∧ (f t).toNatClampNeg = l := by
  have := h t
  obtain ⟨j, hj, e⟩ := nI_of (x := f t) (by rw [n_lt, n_0]; omega)
  rw [e, n_ti hj] at this
  exact ⟨j, by omega, e, by rw [e]; exact n_tn hj⟩
theorem bl_class2 {α : Type} (x l u : Int32) (A B : α) : (if x < l then B else if x ≤ u then A else B) = if bl x l u = true then A else B := bl_split A B
theorem s_clauseBy {σ : St} {c : Nat} (hc : σ.1 40 6 = nI c) (h : c ≤ 10) (hl : ir (σ.1 44) 0 6) (su land day : Int32) : Texts_clauseBy su land day σ = some (clS (σ.1 41) (σ.1 42) (σ.1 43) (σ.1 44) (fun i => decide (σ.1 45 i = su)) land day c) := by
  unfold Texts_clauseBy
  rw [hc, Int32.sub_eq_add_neg]
  have key : ∀ n t, t ≤ c → t < n → Texts_clauseBy_L8 su land day σ n (nI t + (-1)) = some (clS (σ.1 41) (σ.1 42) (σ.1 43) (σ.1 44) (fun i => decide (σ.1 45 i = su)) land day t) := by
    intro n
    induction n with
    | zero => intro t _ h; omega
    | succ n ih =>
      intro t ht hn
      cases t with
      | zero => rw [n_m0]; simp only [Texts_clauseBy_L8, show (-1 : Int32) < 0 by decide, if_true, clS]
      | succ t =>
        rw [n_m1]
        have e1 := ih t (by omega) (by omega)
        have h0 : ¬ nI t < 0 := by rw [n_lt, n_0, n_ti (by omega)]; omega
        have h2 : inb (nI t) 10 := n_inb (by omega) (by decide)
        have h3 := n_tn (k := t) (by omega)
        obtain ⟨l, hl1, hl2, hl3⟩ := ln_of (m := 6) hl (by decide) t
        simp only [Texts_clauseBy_L8, h0, if_pos h2, h3, if_false, e1, bl_class2]
        have inner : Texts_clauseBy_L60 su land day (nI t) σ (fun y4 => Texts_clauseBy_L8 su land day σ n y4) FU (σ.1 44 t - 1) = some (fdn (fun j => decide (σ.1 45 (6 * t + j) = su)) (fun j => nI (6 * t + j)) (clS (σ.1 41) (σ.1 42) (σ.1 43) (σ.1 44) (fun i => decide (σ.1 45 i = su)) land day t) (σ.1 44 t).toNatClampNeg) := by
          rw [← fdn_some, hl3, hl2]
          refine lp_d0 (F := fun n' i => Texts_clauseBy_L60 su land day (nI t) σ (fun y4 => Texts_clauseBy_L8 su land day σ n y4) n' i) ?_ ?_ FU (fu_gt (by omega))
          · intro n'; simp only [Texts_clauseBy_L60, show (-1 : Int32) < 0 by decide, if_true, e1]
          · intro n' i hi
            have g0 : ¬ nI i < 0 := by rw [n_lt, n_0, n_ti (by omega)]; omega
            have g2 : inb (nI (6 * t + i)) 60 := n_inb (by omega) (by decide)
            have g3 := n_tn (k := 6 * t + i) (by omega)
            simp only [Texts_clauseBy_L60, g0, if_false, idx6, if_pos g2, g3]
            by_cases q : σ.1 45 (6 * t + i) = su <;> simp [q]
        simp only [inner, clS]
        by_cases q : σ.1 41 t = land <;> cases w : bl day (σ.1 42 t) (σ.1 43 t) <;> simp [q]
  exact key FU c (Nat.le_refl _) (fu_gt (by omega))
/-- which clause of the model tells of a letter and a GOOD -/
def mQ (le nu : Nat → Int32) (l g : Int32) (i : Nat) : Bool := if 4 ≤ l then !decide (le i ≤ 3) && decide (nu i = g) else decide (le i = l)
theorem m_clauseOf {τ : St} {c : Nat} (hc : τ.1 0 26 = nI c) (h : c ≤ 10) (hl : ir (τ.1 23) 0 6) (l g land day : Int32) : M_clauseOf l g land day τ = some (clS (τ.1 20) (τ.1 21) (τ.1 22) (τ.1 23) (mQ (τ.1 24) (τ.1 25) l g) land day c) := by
  unfold M_clauseOf
  rw [hc, Int32.sub_eq_add_neg]
  have key : ∀ n t, t ≤ c → t < n → M_clauseOf_L8 l g land day τ n (nI t + (-1)) = some (clS (τ.1 20) (τ.1 21) (τ.1 22) (τ.1 23) (mQ (τ.1 24) (τ.1 25) l g) land day t) := by
    intro n
    induction n with
    | zero => intro t _ h; omega
    | succ n ih =>
      intro t ht hn
      cases t with
      | zero => rw [n_m0]; simp only [M_clauseOf_L8, show (-1 : Int32) < 0 by decide, if_true, clS]
      | succ t =>
        rw [n_m1]
        have e1 := ih t (by omega) (by omega)
        have h0 : ¬ nI t < 0 := by rw [n_lt, n_0, n_ti (by omega)]; omega
        have h2 : inb (nI t) 10 := n_inb (by omega) (by decide)
        have h3 := n_tn (k := t) (by omega)
        obtain ⟨q, hl1, hl2, hl3⟩ := ln_of (m := 6) hl (by decide) t
        simp only [M_clauseOf_L8, h0, if_pos h2, h3, if_false, e1, g_inI, Option.bind_some]
        have inner : ∀ n' i, i ≤ 6 → i < n' → M_clauseOf_L66 l g land day (nI t) τ (fun y5 => M_clauseOf_L8 l g land day τ n y5) n' (nI (6 * t + i) + (-1)) = some (fdn (fun j => mQ (τ.1 24) (τ.1 25) l g (6 * t + j)) (fun j => nI (6 * t + j)) (clS (τ.1 20) (τ.1 21) (τ.1 22) (τ.1 23) (mQ (τ.1 24) (τ.1 25) l g) land day t) i) := by
          intro n'
          induction n' with
          | zero => intro i _ h; omega
          | succ n' ih2 =>
            intro i hi hn'
            cases i with
            | zero =>
              have lt : nI (6 * t + 0) + (-1) < 6 * nI t := by
                rw [idx6', n_lt]
                cases t with
                | zero => decide
                | succ t => rw [show 6 * (t + 1) + 0 = (6 * t + 5) + 1 by omega, n_m1, n_ti (by omega), n_ti (by omega)]; omega
              simp only [M_clauseOf_L66, lt, if_true, e1, fdn]
            | succ i =>
              rw [show 6 * t + (i + 1) = (6 * t + i) + 1 by omega, n_m1]
              have g0 : ¬ nI (6 * t + i) < 6 * nI t := by rw [idx6', n_lt, n_ti (by omega), n_ti (by omega)]; omega
              have g2 : inb (nI (6 * t + i)) 60 := n_inb (by omega) (by decide)
              have g3 := n_tn (k := 6 * t + i) (by omega)
              have e2 := ih2 i (by omega) (by omega)
              simp only [M_clauseOf_L66, g0, if_false, if_pos g2, g3, e2, fdn]
              unfold mQ
              by_cases a : (4 : Int32) ≤ l
              · by_cases b : τ.1 24 (6 * t + i) ≤ 3 <;> by_cases d : τ.1 25 (6 * t + i) = g <;> simp [a, b, d]
              · by_cases b : τ.1 24 (6 * t + i) = l <;> simp [a, b]
        have e3 : (6 : Int32) * nI t + τ.1 23 t - 1 = nI (6 * t + q) + (-1) := by rw [hl2, idx6', nI_add, Int32.sub_eq_add_neg]
        rw [e3, inner FU q (by omega) (fu_gt (by omega))]
        simp only [clS, hl3]
        by_cases a : τ.1 20 t = land <;> cases w : bl day (τ.1 21 t) (τ.1 22 t) <;> simp [a]
  exact key FU c (Nat.le_refl _) (fu_gt (by omega))
