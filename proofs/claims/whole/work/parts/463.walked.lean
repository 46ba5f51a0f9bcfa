/-! walked -/
theorem lp_ex {A R : Type} {F : Nat → Int32 → A → Option R} {c : Nat} {K : A → Option R} (I : Nat → A → Prop)
    (h0 : ∀ n a, I c a → F (n + 1) (nI c) a = K a) (h1 : ∀ n i a, i < c → I i a → ∃ a', F (n + 1) (nI i) a = F n (nI (i + 1)) a' ∧ I (i + 1) a') :
    ∀ n i a, i ≤ c → c - i < n → I i a → ∃ a', F n (nI i) a = K a' ∧ I c a' := by
  intro n
  induction n with
  | zero => intro i a _ h _; omega
  | succ n ih =>
    intro i a hi hn hI
    rcases Nat.lt_or_ge i c with h | h
    · obtain ⟨b, e, hI'⟩ := h1 n i a h hI
      obtain ⟨b2, e2, hI2⟩ := ih (i + 1) b (by omega) (by omega) hI'
      exact ⟨b2, by rw [e, e2], hI2⟩
    · have e : i = c := by omega
      subst e
      exact ⟨a, h0 n a hI, hI⟩
def cnd (wo wa fr to : Nat → Int32) (x2 p : Int32) (lb u : Int) (s : Nat) : Prop := wo s = x2 ∧ wa s = p ∧ lb ≤ (fr s).toInt ∧ (to s).toInt ≤ u
theorem s_first {σ : St} {c : Nat} (hc : c ≤ 40) (ec : σ.1 6 4 = nI c) (hf : ir (σ.1 9) 0 9999) (x2 p lb x4 : Int32) : ∃ r : Int32, Spans_firstWithin_stays x2 p lb x4 σ = some r ∧
    ((r = -9 ∧ ∀ t, t < c → ¬ cnd (σ.1 7) (σ.1 8) (σ.1 9) (σ.1 10) x2 p lb.toInt x4.toInt t) ∨ ∃ s, s < c ∧ cnd (σ.1 7) (σ.1 8) (σ.1 9) (σ.1 10) x2 p lb.toInt x4.toInt s ∧ r = σ.1 9 s ∧ ∀ t, t < c → cnd (σ.1 7) (σ.1 8) (σ.1 9) (σ.1 10) x2 p lb.toInt x4.toInt t → (σ.1 9 s).toInt ≤ (σ.1 9 t).toInt) := by
  obtain ⟨r, e, hr⟩ := lp_ex (F := fun n i a => Spans_firstWithin_stays_L7 x2 p lb x4 σ n a i) (c := c) (K := fun a => some a) (fun i a => (a = -9 ∧ ∀ t, t < i → ¬ cnd (σ.1 7) (σ.1 8) (σ.1 9) (σ.1 10) x2 p lb.toInt x4.toInt t) ∨ ∃ s, s < i ∧ cnd (σ.1 7) (σ.1 8) (σ.1 9) (σ.1 10) x2 p lb.toInt x4.toInt s ∧ a = σ.1 9 s ∧ ∀ t, t < i → cnd (σ.1 7) (σ.1 8) (σ.1 9) (σ.1 10) x2 p lb.toInt x4.toInt t → (σ.1 9 s).toInt ≤ (σ.1 9 t).toInt)
    (fun n a _ => by simp only [Spans_firstWithin_stays_L7, ec, n_cmpE, if_true])
    (fun n i a hi hI => by
      have q1 : ¬ nI c ≤ nI i := n_cmp hi (by omega)
      have i1 : inb (nI i) 40 := n_inb (by omega) (by decide)
      have i2 := n_tn (k := i) (by omega)
      have skip : ¬ cnd (σ.1 7) (σ.1 8) (σ.1 9) (σ.1 10) x2 p lb.toInt x4.toInt i → ((a = -9 ∧ ∀ t, t < i + 1 → ¬ cnd (σ.1 7) (σ.1 8) (σ.1 9) (σ.1 10) x2 p lb.toInt x4.toInt t) ∨ ∃ s, s < i + 1 ∧ cnd (σ.1 7) (σ.1 8) (σ.1 9) (σ.1 10) x2 p lb.toInt x4.toInt s ∧ a = σ.1 9 s ∧ ∀ t, t < i + 1 → cnd (σ.1 7) (σ.1 8) (σ.1 9) (σ.1 10) x2 p lb.toInt x4.toInt t → (σ.1 9 s).toInt ≤ (σ.1 9 t).toInt) := by
        intro hn
        rcases hI with ⟨a1, a2⟩ | ⟨s, s1, s2, s3, s4⟩
        · left
          refine ⟨a1, fun t ht => ?_⟩
          by_cases e : t = i
          · subst e; exact hn
          · exact a2 t (by omega)
        · right
          refine ⟨s, by omega, s2, s3, fun t ht ct => ?_⟩
          by_cases e : t = i
          · subst e; exact absurd ct hn
          · exact s4 t (by omega) ct
      simp only [Spans_firstWithin_stays_L7, ec, q1, if_false, if_pos i1, i2, nI_1]
      by_cases c1 : σ.1 7 i = x2
      · rw [if_pos c1]
        by_cases c2 : σ.1 8 i = p
        · rw [if_pos c2]
          by_cases c3 : σ.1 9 i < lb
          · rw [if_pos c3]
            exact ⟨a, rfl, skip (fun z => by have := z.2.2.1; rw [n_lt] at c3; omega)⟩
          · rw [if_neg c3]
            by_cases c4 : σ.1 10 i ≤ x4
            · rw [if_pos c4]
              have ci : cnd (σ.1 7) (σ.1 8) (σ.1 9) (σ.1 10) x2 p lb.toInt x4.toInt i := ⟨c1, c2, by rw [n_lt] at c3; omega, by rw [n_le] at c4; omega⟩
              rcases hI with ⟨a1, a2⟩ | ⟨s, s1, s2, s3, s4⟩
              · rw [if_pos a1]
                refine ⟨_, rfl, Or.inr ⟨i, by omega, ci, rfl, fun t ht ct => ?_⟩⟩
                by_cases e : t = i
                · subst e; exact Int.le_refl _
                · exact absurd ct (a2 t (by omega))
              · have na : ¬ a = -9 := by
                  intro z
                  have := hf s
                  rw [← s3, z] at this
                  exact absurd this.1 (by decide)
                rw [if_neg na]
                by_cases c5 : a ≤ σ.1 9 i
                · rw [if_pos c5]
                  refine ⟨_, rfl, Or.inr ⟨s, by omega, s2, s3, fun t ht ct => ?_⟩⟩
                  by_cases e : t = i
                  · subst e; rw [s3, n_le] at c5; exact c5
                  · exact s4 t (by omega) ct
                · rw [if_neg c5]
                  refine ⟨_, rfl, Or.inr ⟨i, by omega, ci, rfl, fun t ht ct => ?_⟩⟩
                  by_cases e : t = i
                  · subst e; exact Int.le_refl _
                  · have := s4 t (by omega) ct
                    rw [s3, n_le] at c5
                    omega
            · rw [if_neg c4]
              exact ⟨a, rfl, skip (fun z => by have := z.2.2.2; rw [n_le] at c4; omega)⟩
        · rw [if_neg c2]
          exact ⟨a, rfl, skip (fun z => c2 z.2.1)⟩
      · rw [if_neg c1]
        exact ⟨a, rfl, skip (fun z => c1 z.1)⟩)
    FU 0 (-9) (Nat.zero_le _) (fu_gt (by omega)) (Or.inl ⟨rfl, fun t ht => by omega⟩)
  exact ⟨r, e, hr⟩
def cnm (wo fr to : Nat → Int32) (x2 : Int32) (lb u : Int) (s : Nat) : Prop := wo s = x2 ∧ lb ≤ (fr s).toInt ∧ (to s).toInt ≤ u
theorem m_first {τ : St} {c : Nat} (hc : c ≤ 40) (ec : τ.1 0 8 = nI c) (x1 x2 x4 x5 x6 : Int32) (k : Int32 → Int32 → Option Int32) : ∃ a : Int32, M_walked_L61 x1 x2 x4 x5 x6 τ k FU (-9) 0 = M_walked_L61 x1 x2 x4 x5 x6 τ k 1 a (nI c) ∧
    ((a = -9 ∧ ∀ t, t < c → ¬ cnm (τ.1 5) (τ.1 7) (τ.1 8) x2 x6.toInt x4.toInt t) ∨ ∃ s, s < c ∧ cnm (τ.1 5) (τ.1 7) (τ.1 8) x2 x6.toInt x4.toInt s ∧ a = nI s ∧ ∀ t, t < c → cnm (τ.1 5) (τ.1 7) (τ.1 8) x2 x6.toInt x4.toInt t → (τ.1 7 s).toInt ≤ (τ.1 7 t).toInt) := by
  obtain ⟨r, e, hr⟩ := lp_ex (F := fun n i a => M_walked_L61 x1 x2 x4 x5 x6 τ k n a i) (c := c) (K := fun a => M_walked_L61 x1 x2 x4 x5 x6 τ k 1 a (nI c)) (fun i a => (a = -9 ∧ ∀ t, t < i → ¬ cnm (τ.1 5) (τ.1 7) (τ.1 8) x2 x6.toInt x4.toInt t) ∨ ∃ s, s < i ∧ cnm (τ.1 5) (τ.1 7) (τ.1 8) x2 x6.toInt x4.toInt s ∧ a = nI s ∧ ∀ t, t < i → cnm (τ.1 5) (τ.1 7) (τ.1 8) x2 x6.toInt x4.toInt t → (τ.1 7 s).toInt ≤ (τ.1 7 t).toInt)
    (fun n a _ => by simp only [M_walked_L61, ec, n_cmpE, if_true])
    (fun n i a hi hI => by
      have q1 : ¬ nI c ≤ nI i := n_cmp hi (by omega)
      have i1 : inb (nI i) 40 := n_inb (by omega) (by decide)
      have i2 := n_tn (k := i) (by omega)
      have skip : ¬ cnm (τ.1 5) (τ.1 7) (τ.1 8) x2 x6.toInt x4.toInt i → ((a = -9 ∧ ∀ t, t < i + 1 → ¬ cnm (τ.1 5) (τ.1 7) (τ.1 8) x2 x6.toInt x4.toInt t) ∨ ∃ s, s < i + 1 ∧ cnm (τ.1 5) (τ.1 7) (τ.1 8) x2 x6.toInt x4.toInt s ∧ a = nI s ∧ ∀ t, t < i + 1 → cnm (τ.1 5) (τ.1 7) (τ.1 8) x2 x6.toInt x4.toInt t → (τ.1 7 s).toInt ≤ (τ.1 7 t).toInt) := by
        intro hn
        rcases hI with ⟨a1, a2⟩ | ⟨s, s1, s2, s3, s4⟩
        · left
          refine ⟨a1, fun t ht => ?_⟩
          by_cases e : t = i
          · subst e; exact hn
          · exact a2 t (by omega)
        · right
          refine ⟨s, by omega, s2, s3, fun t ht ct => ?_⟩
          by_cases e : t = i
          · subst e; exact absurd ct hn
          · exact s4 t (by omega) ct
      have i0 : ∀ (z : Int32), z = nI i → True := fun _ _ => trivial
      rw [M_walked_L61, ec, if_neg q1]
      simp only [if_pos i1, i2, nI_1]
      by_cases c1 : τ.1 5 i = x2
      · rw [if_pos c1]
        by_cases c3 : τ.1 7 i < x6
        · rw [if_pos c3]
          exact ⟨a, rfl, skip (fun z => by have := z.2.1; rw [n_lt] at c3; omega)⟩
        · rw [if_neg c3]
          by_cases c4 : x4 < τ.1 8 i
          · rw [if_pos c4]
            exact ⟨a, rfl, skip (fun z => by have := z.2.2; rw [n_lt] at c4; omega)⟩
          · rw [if_neg c4]
            have ci : cnm (τ.1 5) (τ.1 7) (τ.1 8) x2 x6.toInt x4.toInt i := ⟨c1, by rw [n_lt] at c3; omega, by rw [n_lt] at c4; omega⟩
            rcases hI with ⟨a1, a2⟩ | ⟨s, s1, s2, s3, s4⟩
            · rw [if_pos (by rw [a1]; decide)]
              refine ⟨nI i, rfl, Or.inr ⟨i, by omega, ci, rfl, fun t ht ct => ?_⟩⟩
              by_cases e : t = i
              · subst e; exact Int.le_refl _
              · exact absurd ct (a2 t (by omega))
            · subst s3
              have j1 : inb (nI s) 40 := n_inb (by omega) (by decide)
              have j2 := n_tn (k := s) (by omega)
              rw [if_neg (by rw [n_lt, n_0, n_ti (by omega)]; omega), if_pos j1, j2]
              by_cases c5 : τ.1 7 s ≤ τ.1 7 i
              · rw [if_pos c5]
                refine ⟨nI s, rfl, Or.inr ⟨s, by omega, s2, rfl, fun t ht ct => ?_⟩⟩
                by_cases e : t = i
                · subst e; rw [n_le] at c5; exact c5
                · exact s4 t (by omega) ct
              · rw [if_neg c5]
                refine ⟨nI i, rfl, Or.inr ⟨i, by omega, ci, rfl, fun t ht ct => ?_⟩⟩
                by_cases e : t = i
                · subst e; exact Int.le_refl _
                · have := s4 t (by omega) ct
                  rw [n_le] at c5
                  omega
      · rw [if_neg c1]
        exact ⟨a, rfl, skip (fun z => c1 z.1)⟩)
    FU 0 (-9) (Nat.zero_le _) (fu_gt (by omega)) (Or.inl ⟨rfl, fun t ht => by omega⟩)
  exact ⟨r, e, hr⟩
theorem n_suc {x : Int32} (h : x.toInt < 2147483647) : (x + 1).toInt = x.toInt + 1 := by
  have e : (1 : Int32).toInt = 1 := by decide
  have := n_rng x
  rw [n_add (by omega) (by omega), e]
theorem n_idx8 {a b : Nat} (ha : a < 10) (hb : b ≤ 8) : nI a * 8 + nI b = nI (8 * a + b) := by
  have e8 : (8 : Int32).toInt = 8 := by decide
  have m : (nI a * 8).toInt = 8 * a := by
    rw [n_mul, n_ti (by omega), e8]
    · omega
    · rw [n_ti (by omega), e8]; omega
    · rw [n_ti (by omega), e8]; omega
  rw [n_eq, n_ti (by omega), n_add, m, n_ti (by omega)]
  · omega
  · rw [m, n_ti (by omega)]; omega
  · rw [m, n_ti (by omega)]; omega
theorem w_loop {n : Nat} {σ τ : St} (h : Rel0 n σ τ) {x1 : Nat} (hx1 : x1 < 10) {x2 x3 x4 : Int32} (h3 : 0 ≤ x3.toInt) (h4 : x4.toInt ≤ 9999) : ∀ (m k : Nat) (x6 : Int32) (latest : Int32), (k : Int) ≤ (σ.1 65 x1).toInt → x4.toInt + 3 - x6.toInt < m → 0 ≤ x6.toInt → x6.toInt ≤ x4.toInt + 1 → -1 ≤ latest.toInt → latest.toInt ≤ 9999 →
    (∀ t : Nat, (t : Int) < (σ.1 6 4).toInt → σ.1 7 t = x2 → (σ.1 10 t).toInt ≤ x4.toInt → σ.1 8 t = σ.1 66 (8 * x1 + k) → ((maI x3 (latest + 1)).toInt ≤ (σ.1 9 t).toInt ↔ x6.toInt ≤ (σ.1 9 t).toInt)) →
    ∃ r, M_walked_L36 (nI x1) x2 x4 τ m (nI k) x6 = some r ∧ ∀ m' : Nat, (σ.1 65 x1).toInt - k < m' → P_walked_L42 (nI x1) x2 x3 x4 σ m' latest (nI k) = some r := by
  obtain ⟨hA, hB, hC, hD, hE, hS, hF, hG, hH, hI, hJ, hK, hL, hM⟩ := id h
  obtain ⟨⟨eB1, eB2, eB3, eB4, eB5⟩, cB, iB1, iB2, iB3, iB4, dB0, dB1, dB2, dB3⟩ := id hB
  obtain ⟨⟨eJ1, eJ2, eJ3⟩, cJ, iJ⟩ := id hJ
  obtain ⟨c, hc, ec⟩ := cB
  have ec' : τ.1 0 8 = nI c := by rw [← eB1]; exact ec
  have i1 : inb (nI x1) 10 := n_inb hx1 (by decide)
  have i2 := n_tn (k := x1) (by omega)
  have hlen := iJ x1
  intro m
  induction m with
  | zero => intro k x6 latest _ _ _ _; omega
  | succ m ih =>
    intro k x6 latest hk hm h60 h6 hl1 hl2 hH
    have ct : (σ.1 6 4).toInt = c := by rw [ec, n_ti (by omega)]
    have k8 : k ≤ 8 := by omega
    have kt := n_ti (k := k) (by omega)
    have lc : (latest + 1).toInt = latest.toInt + 1 := n_suc (by omega)
    have mx := maI_t x3 (latest + 1)
    by_cases q1 : σ.1 65 x1 ≤ nI k
    · have ek : (σ.1 65 x1).toInt = k := by rw [n_le, kt] at q1; omega
      have ek2 : nI k = σ.1 65 x1 := by rw [n_eq, kt, ek]
      refine ⟨1, ?_, ?_⟩
      · rw [M_walked_L36]
        simp only [if_pos i1, i2, ← eJ2, if_pos q1, if_pos ek2]
      · intro m' hm'
        obtain ⟨m', rfl⟩ : ∃ z, m' = z + 1 := ⟨m' - 1, by omega⟩
        rw [P_walked_L42, if_pos i1, i2, if_pos q1]
    · have ek : (k : Int) < (σ.1 65 x1).toInt := by rw [n_le, kt] at q1; omega
      have ek2 : ¬ nI k = σ.1 65 x1 := by rw [n_eq, kt]; omega
      have s1 : inb (nI (8 * x1 + k)) 80 := n_inb (by omega) (by decide)
      have s2 := n_tn (k := 8 * x1 + k) (by omega)
      have s3 : nI x1 * 8 + nI k = nI (8 * x1 + k) := n_idx8 hx1 k8
      have s4 : 8 * nI x1 + nI k = nI (8 * x1 + k) := by rw [Int32.mul_comm]; exact s3
      obtain ⟨r, f1, f2⟩ := s_first hc ec iB3 x2 (σ.1 66 (8 * x1 + k)) (maI x3 (latest + 1)) x4
      have cstep : ∀ m', P_walked_L42 (nI x1) x2 x3 x4 σ (m' + 1) latest (nI k) = if r = -9 then some 0 else P_walked_L42 (nI x1) x2 x3 x4 σ m' r (nI (k + 1)) := by
        intro m'
        have st : Rounds_stopAt (nI x1) (nI k) σ = some (σ.1 66 (8 * x1 + k)) := by
          unfold Rounds_stopAt
          rw [s3, if_pos s1, s2]
        rw [P_walked_L42, if_pos i1, i2, if_neg q1, st, Option.bind_some, f1, Option.bind_some, nI_1]
      -- the class finds nothing
      have cnone : (∀ t, t < c → ¬ cnd (σ.1 7) (σ.1 8) (σ.1 9) (σ.1 10) x2 (σ.1 66 (8 * x1 + k)) (maI x3 (latest + 1)).toInt x4.toInt t) → ∀ m' : Nat, (σ.1 65 x1).toInt - k < m' → P_walked_L42 (nI x1) x2 x3 x4 σ m' latest (nI k) = some 0 := by
        intro hn m' hm'
        obtain ⟨m', rfl⟩ : ∃ z, m' = z + 1 := ⟨m' - 1, by omega⟩
        rw [cstep]
        rcases f2 with ⟨f2, _⟩ | ⟨s, w1, w2, _⟩
        · rw [if_pos f2]
        · exact absurd w2 (hn s w1)
      by_cases q2 : x4 < x6
      · refine ⟨0, ?_, ?_⟩
        · rw [M_walked_L36]
          simp only [if_pos i1, i2, ← eJ2, if_neg q1, if_pos q2, if_neg ek2]
        · apply cnone
          intro t ht z
          have := (hH t (by omega) z.1 z.2.2.2 z.2.1).mp z.2.2.1
          have := dB0 t
          have := z.2.2.2
          rw [n_lt] at q2
          omega
      · have q2' : x6.toInt ≤ x4.toInt := by rw [n_lt] at q2; omega
        obtain ⟨a, a1, a2⟩ := m_first hc ec' (nI x1) x2 x4 (nI k) x6 (fun y5 y6 => M_walked_L36 (nI x1) x2 x4 τ m y5 y6)
        rw [← eB2, ← eB4, ← eB5] at a2
        have mstep : M_walked_L36 (nI x1) x2 x4 τ (m + 1) (nI k) x6 = M_walked_L61 (nI x1) x2 x4 (nI k) x6 τ (fun y5 y6 => M_walked_L36 (nI x1) x2 x4 τ m y5 y6) 1 a (nI c) := by
          rw [M_walked_L36]
          simp only [if_pos i1, i2, ← eJ2, if_neg q1, if_neg q2]
          exact a1
        rcases a2 with ⟨b1, b2⟩ | ⟨s, b1, b2, b3, b4⟩
        · have x41 : (x4 + 1).toInt = x4.toInt + 1 := n_suc (by omega)
          have st : M_walked_L36 (nI x1) x2 x4 τ (m + 1) (nI k) x6 = M_walked_L36 (nI x1) x2 x4 τ m (nI k) (x4 + 1) := by
            rw [mstep, b1, M_walked_L61, ec', if_pos (n_cmpE c), if_pos (by decide), if_neg (by decide)]
          rw [st]
          have m0 : 0 < m := by omega
          obtain ⟨m, rfl⟩ : ∃ z, m = z + 1 := ⟨m - 1, by omega⟩
          refine ⟨0, ?_, ?_⟩
          · have q5 : x4 < x4 + 1 := by rw [n_lt, x41]; omega
            rw [M_walked_L36]
            simp only [if_pos i1, i2, ← eJ2, if_neg q1, if_pos q5, if_neg ek2]
          · apply cnone
            intro t ht z
            exact b2 t ht ⟨z.1, (hH t (by omega) z.1 z.2.2.2 z.2.1).mp z.2.2.1, z.2.2.2⟩
        · subst b3
          have t1 : inb (nI s) 40 := n_inb (by omega) (by decide)
          have t2 := n_tn (k := s) (by omega)
          have ts0 : ¬ nI s < 0 := by rw [n_lt, n_0, n_ti (by omega)]; omega
          have ts1 : (0 : Int32) ≤ nI s := by rw [n_le, n_0, n_ti (by omega)]; omega
          have toS : (σ.1 10 s + 1).toInt = (σ.1 10 s).toInt + 1 := by
            have := iB4 s
            exact n_suc (by omega)
          have frS := iB3 s
          have toB := iB4 s
          have frto := dB0 s
          have disj : ∀ t, t < c → σ.1 7 t = x2 → t ≠ s → (σ.1 10 s).toInt < (σ.1 9 t).toInt ∨ (σ.1 10 t).toInt < (σ.1 9 s).toInt := by
            intro t ht w ne
            exact dB2 s t (by omega) (by omega) (fun z => ne z.symm) (by rw [b2.1, w])
          by_cases q3 : σ.1 8 s = σ.1 66 (8 * x1 + k)
          · -- the stop that was looked for
            have st : M_walked_L36 (nI x1) x2 x4 τ (m + 1) (nI k) x6 = M_walked_L36 (nI x1) x2 x4 τ m (nI (k + 1)) (σ.1 10 s + 1) := by
              rw [mstep, M_walked_L61]
              simp only [ec', if_pos (n_cmpE c), if_neg ts0, if_pos t1, s4, if_pos s1, s2, t2, ← eB3, ← eJ3, if_pos q3, if_pos ts1, ← eB5, nI_1]
            have lbs : (maI x3 (latest + 1)).toInt ≤ (σ.1 9 s).toInt := (hH s (by omega) b2.1 b2.2.2 q3).mpr b2.2.1
            have cs : cnd (σ.1 7) (σ.1 8) (σ.1 9) (σ.1 10) x2 (σ.1 66 (8 * x1 + k)) (maI x3 (latest + 1)).toInt x4.toInt s := ⟨b2.1, q3, lbs, b2.2.2⟩
            have rr : r = σ.1 9 s := by
              rcases f2 with ⟨_, f2⟩ | ⟨s', w1, w2, w3, w4⟩
              · exact absurd cs (f2 s b1)
              · have u1 := w4 s b1 cs
                have u2 := b4 s' w1 ⟨w2.1, (hH s' (by omega) w2.1 w2.2.2.2 w2.2.1).mp w2.2.2.1, w2.2.2.2⟩
                rw [w3, n_eq]; omega
            have r9 : ¬ r = -9 := by
              intro z
              rw [rr] at z
              rw [z] at frS
              exact absurd frS.1 (by decide)
            rw [st]
            have frS1 : (σ.1 9 s + 1).toInt = (σ.1 9 s).toInt + 1 := n_suc (by omega)
            have mx2 : (maI x3 (r + 1)).toInt = (σ.1 9 s).toInt + 1 := by
              rw [maI_t, rr, frS1]
              have : x3.toInt ≤ (maI x3 (latest + 1)).toInt := by rw [mx]; split <;> omega
              rw [if_pos (by omega)]
            obtain ⟨v, v1, v2⟩ := ih (k + 1) (σ.1 10 s + 1) r (by omega) (by have := b2.2.1; rw [toS]; omega) (by omega) (by rw [toS]; have := b2.2.2; omega) (by rw [rr]; omega) (by rw [rr]; omega) (fun t ht w1 w2 _ => by
              rw [mx2, toS]
              by_cases e : t = s
              · subst e; omega
              · have := disj t (by omega) w1 e
                have := dB0 t
                omega)
            refine ⟨v, v1, fun m' hm' => ?_⟩
            obtain ⟨m', rfl⟩ : ∃ z, m' = z + 1 := ⟨m' - 1, by omega⟩
            rw [cstep, if_neg r9]
            exact v2 m' (by omega)
          · have st : M_walked_L36 (nI x1) x2 x4 τ (m + 1) (nI k) x6 = M_walked_L36 (nI x1) x2 x4 τ m (nI k) (σ.1 10 s + 1) := by
              rw [mstep, M_walked_L61]
              simp only [ec', if_pos (n_cmpE c), if_neg ts0, if_pos t1, s4, if_pos s1, s2, t2, ← eB3, ← eJ3, if_neg q3, if_pos ts1, ← eB5, Int32.add_zero]
            rw [st]
            exact ih k (σ.1 10 s + 1) latest hk (by have := b2.2.1; rw [toS]; omega) (by omega) (by rw [toS]; have := b2.2.2; omega) hl1 hl2 (fun t ht w1 w2 w3 => by
              rw [hH t ht w1 w2 w3, toS]
              by_cases e : t = s
              · subst e; exact absurd w3 q3
              · have d1 := disj t (by omega) w1 e
                have d2 := dB0 t
                constructor
                · intro w
                  have := b4 t (by omega) ⟨w1, w, w2⟩
                  omega
                · intro w
                  have := b2.2.1
                  omega)
theorem op_walked {n : Nat} {σ τ : St} (h : Rel0 n σ τ) (x1 x2 x3 x4 : Int32) : ∃ r, P_walked x1 x2 x3 x4 σ = some r ∧ M_walked x1 x2 x3 x4 τ = some r := by
  obtain ⟨hA, hB, hC, hD, hE, hS, hF, hG, hH, hI, hJ, hK, hL, hM⟩ := id h
  obtain ⟨⟨eA1, eA2, eA3, eA4, eA5, eA6, eA7⟩, ⟨cA1, cA2, cA3⟩, iA1, iA2, iA3, iA4⟩ := id hA
  obtain ⟨⟨eJ1, eJ2, eJ3⟩, cJ, iJ⟩ := id hJ
  unfold P_walked M_walked
  simp only [g_hasBand, g_noBand, g_roundsHas, g_noRound, g_pdays, g_mdays, ← eA2, ← eJ1, Option.bind_some]
  cases hx : bw x2 (σ.1 1 5)
  · exact ⟨_, rfl, rfl⟩
  · cases hy : bw x1 (σ.1 64 2)
    · exact ⟨_, rfl, rfl⟩
    · cases hz : bd x3 x4
      · exact ⟨_, rfl, rfl⟩
      · simp only [if_true, Bool.not_true, Bool.false_eq_true, if_false]
        obtain ⟨j, rfl, hj, _⟩ := bw_of hy
        have := cn_toInt cJ (by decide)
        have z : 0 ≤ x3.toInt ∧ x3.toInt ≤ x4.toInt ∧ x4.toInt < 10000 := by
          unfold bd at hz
          simp only [decide_eq_true_eq, n_le, n_lt, n_0, n_10000] at hz
          exact hz
        have hlen := iJ j
        have m1 : (-1 : Int32) + 1 = 0 := by decide
        obtain ⟨r, r1, r2⟩ := w_loop h (x1 := j) (by omega) (x2 := x2) (x3 := x3) (x4 := x4) z.1 (by omega) FU 0 x3 (-1) (by omega) (by unfold FU; omega) z.1 (by omega) (by decide) (by decide) (fun t _ _ _ _ => by
          rw [maI_t, m1, n_0, if_neg (by omega)])
        exact ⟨r, r2 FU (by unfold FU; omega), r1⟩
