/-! texts: clauses of class and model -/
theorem clS_at (la fr to ln : Nat → Int32) (Q : Nat → Bool) (land day : Int32) (hl : ir ln 0 6) : ∀ c, c ≤ 10 → clS la fr to ln Q land day c = -9 ∨ ∃ k : Nat, k < 60 ∧ clS la fr to ln Q land day c = nI k ∧ Q k = true := by
  intro c
  induction c with
  | zero => intro _; exact Or.inl rfl
  | succ t ih =>
    intro ht
    simp only [clS]
    split
    · rcases fdn_at (fun j => Q (6 * t + j)) (fun j => nI (6 * t + j)) (clS la fr to ln Q land day t) (ln t).toNatClampNeg with ⟨j, h1, h2, h3, h4⟩ | ⟨h1, h2⟩
      · obtain ⟨l, hl1, hl2, hl3⟩ := ln_of (m := 6) hl (by decide) t
        exact Or.inr ⟨6 * t + j, by omega, h4, h2⟩
      · rw [h2]; exact ih (by omega)
    · exact ih (by omega)
theorem encS_lt {l v : Int32} (h : l.toInt < 4) : encS l v = l := by unfold encS; rw [if_pos (by rw [n_lt, k_4]; exact h)]
theorem encS_ge {l v : Int32} (h : 4 ≤ l.toInt) : encS l v = 4 + v := by unfold encS; rw [if_neg (by rw [n_lt, k_4]; omega)]
/-- the subject that the class has for a letter and a GOOD of the model -/
def sbj (l g su : Int32) : Prop := (0 ≤ l.toInt ∧ l.toInt < 4 ∧ su = l) ∨ (l = 4 ∧ 0 ≤ g.toInt ∧ g.toInt < 8 ∧ su = 4 + g)
theorem q_enc {su va le nu : Nat → Int32} (h : rT su va le nu) {l g s : Int32} (hs : sbj l g s) : (fun i => decide (su i = s)) = mQ le nu l g := by
  funext i
  obtain ⟨h1, h2, h3, h4, h5, h6, h7⟩ := h i
  unfold mQ
  rcases hs with ⟨a, b, c⟩ | ⟨a, b, c, d⟩
  · subst c
    rw [if_neg (by rw [n_le, k_4]; omega), h1, decide_eq_decide]
    by_cases q : (le i).toInt < 4
    · rw [encS_lt q]
    · rw [encS_ge (by omega)]
      constructor
      · intro e
        exfalso
        rw [n_eq, n_add (by rw [k_4]; omega) (by rw [k_4]; omega), k_4] at e
        omega
      · intro e
        exfalso
        rw [n_eq] at e
        omega
  · subst a; subst d
    rw [if_pos (Int32.le_refl _), h1]
    by_cases q : (le i).toInt < 4
    · rw [encS_lt q]
      have e1 : ¬ le i = 4 + g := by
        rw [n_eq, n_add (by rw [k_4]; omega) (by rw [k_4]; omega), k_4]; omega
      have e2 : le i ≤ 3 := by rw [n_le, k_3]; omega
      simp [e1, e2]
    · rw [encS_ge (by omega)]
      have e2 : ¬ le i ≤ 3 := by rw [n_le, k_3]; omega
      simp only [e2, decide_false, Bool.not_false, Bool.true_and, decide_eq_decide]
      constructor
      · intro e; exact Int32.add_right_inj (4 : Int32) |>.mp e
      · intro e; rw [e]
theorem x_clause {c : Int32} {la fr to ln su va : Nat → Int32} {rl : Int32} {rs rv : Nat → Int32} {rl' : Int32} {re rn : Nat → Int32} {σ τ : St} (e1 : σ.1 40 6 = c) (e2 : τ.1 0 26 = c)
    (hG : rG (σ.1 40 6) (σ.1 41) (σ.1 42) (σ.1 43) (σ.1 44) (σ.1 45) (σ.1 46) (σ.1 40 9) (σ.1 47) (σ.1 48) (τ.1 0 26) (τ.1 20) (τ.1 21) (τ.1 22) (τ.1 23) (τ.1 24) (τ.1 25) (τ.1 0 33) (τ.1 26) (τ.1 27)) {l g s : Int32} (hs : sbj l g s) (land day : Int32) :
    ∃ X : Int32, Texts_clauseBy s land day σ = some X ∧ M_clauseOf l g land day τ = some X ∧ (X = -9 ∨ ∃ k : Nat, k < 60 ∧ X = nI k ∧ M_valueOf l X τ = some (σ.1 46 k) ∧ 0 ≤ (σ.1 46 k).toInt ∧ (σ.1 46 k).toInt ≤ 9999) := by
  obtain ⟨⟨eG1, eG2, eG3, eG4, eG5⟩, cG, iG1, iG2, iG3, iG4, tG, ⟨eG6, cG2⟩, tG2⟩ := id hG
  obtain ⟨k, hk, ek⟩ := cG
  have a1 := s_clauseBy ek hk iG4 s land day
  have a2 := m_clauseOf (τ := τ) (c := k) (by rw [← eG1]; exact ek) hk (by rw [← eG5]; exact iG4) l g land day
  rw [q_enc tG hs] at a1
  rw [← eG2, ← eG3, ← eG4, ← eG5] at a2
  refine ⟨_, a1, a2, ?_⟩
  rcases clS_at (σ.1 41) (σ.1 42) (σ.1 43) (σ.1 44) (mQ (τ.1 24) (τ.1 25) l g) land day iG4 k hk with q | ⟨j, hj, q, hq⟩
  · exact Or.inl q
  · refine Or.inr ⟨j, hj, q, ?_, ?_⟩
    · rw [q]
      obtain ⟨h1, h2, h3, h4, h5, h6, h7⟩ := tG j
      have g0 : (0 : Int32) ≤ nI j := by rw [n_le, n_0, n_ti (by omega)]; omega
      have g2 : inb (nI j) 60 := n_inb (by omega) (by decide)
      have g3 := n_tn (k := j) (by omega)
      simp only [M_valueOf, g0, if_true, if_pos g2, g3]
      rw [h2]
      unfold mQ at hq
      unfold encV
      rcases hs with ⟨a, b, d⟩ | ⟨a, b, d, e⟩
      · have f1 : ¬ (4 : Int32) ≤ l := by rw [n_le, k_4]; omega
        rw [if_neg f1] at hq
        simp only [decide_eq_true_eq] at hq
        rw [if_neg f1, if_pos (by rw [hq, n_lt, k_4]; exact b)]
      · subst a
        rw [if_pos (Int32.le_refl _)] at hq
        simp only [Bool.and_eq_true, Bool.not_eq_true', decide_eq_false_iff_not, decide_eq_true_eq] at hq
        have f1 : ¬ τ.1 24 j < 4 := by
          have := hq.1
          rw [n_le, k_3] at this
          rw [n_lt, k_4]; omega
        rw [if_pos (Int32.le_refl _), if_neg f1]
        split
        · rfl
        · split <;> rfl
    · obtain ⟨h1, h2, h3, h4, h5, h6, h7⟩ := tG j
      rw [h2]
      unfold encV
      split
      · exact ⟨h5, h6⟩
      · split
        · decide
        · split
          · decide
          · decide
theorem nI_neg {k : Nat} (h : k < 60) : ¬ nI k < 0 ∧ (0 : Int32) ≤ nI k ∧ ¬ nI k = -9 := by
  refine ⟨?_, ?_, ?_⟩
  · rw [n_lt, n_0, n_ti (by omega)]; omega
  · rw [n_le, n_0, n_ti (by omega)]; omega
  · rw [n_eq, k_m9, n_ti (by omega)]; omega
theorem m9 : (-9 : Int32) < 0 ∧ ¬ (0 : Int32) ≤ -9 := by decide
def GG (σ τ : St) : Prop := rG (σ.1 40 6) (σ.1 41) (σ.1 42) (σ.1 43) (σ.1 44) (σ.1 45) (σ.1 46) (σ.1 40 9) (σ.1 47) (σ.1 48) (τ.1 0 26) (τ.1 20) (τ.1 21) (τ.1 22) (τ.1 23) (τ.1 24) (τ.1 25) (τ.1 0 33) (τ.1 26) (τ.1 27)
theorem x_cl {σ τ : St} (hG : GG σ τ) {l g s : Int32} (hs : sbj l g s) (land day : Int32) :
    ∃ X : Int32, Texts_clauseBy s land day σ = some X ∧ M_clauseOf l g land day τ = some X ∧ (X = -9 ∨ ∃ k : Nat, k < 60 ∧ X = nI k ∧ M_valueOf l X τ = some (σ.1 46 k) ∧ 0 ≤ (σ.1 46 k).toInt ∧ (σ.1 46 k).toInt ≤ 9999) :=
  x_clause (c := σ.1 40 6) (la := fun _ => 0) (fr := fun _ => 0) (to := fun _ => 0) (ln := fun _ => 0) (su := fun _ => 0) (va := fun _ => 0) (rl := 0) (rs := fun _ => 0) (rv := fun _ => 0) (rl' := 0) (re := fun _ => 0) (rn := fun _ => 0) rfl hG.1.1.symm hG hs land day
/-- what tells: the LAND's, else CUSTOM -/
theorem x_tell {σ τ : St} (hG : GG σ τ) {l g s : Int32} (hs : sbj l g s) (land day : Int32) :
    ∃ X : Int32, Texts_clauseIn s land day σ = some X ∧ M_tellingOf l g land day τ = some X ∧ (X = -9 ∨ ∃ k : Nat, k < 60 ∧ X = nI k ∧ M_valueOf l X τ = some (σ.1 46 k) ∧ 0 ≤ (σ.1 46 k).toInt ∧ (σ.1 46 k).toInt ≤ 9999) := by
  obtain ⟨X, h1, h2, h3⟩ := x_cl hG hs land day
  obtain ⟨Y, g1, g2, g3⟩ := x_cl hG hs (-1) day
  simp only [Texts_clauseIn, M_tellingOf, h1, h2, g1, g2, Option.bind_some]
  rcases h3 with q | ⟨k, hk, q, q2⟩
  · subst q
    simp only [m9.1, if_true, eq_self]
    exact ⟨Y, rfl, rfl, g3⟩
  · subst q
    simp only [(nI_neg hk).1, (nI_neg hk).2.2, if_false]
    exact ⟨_, rfl, rfl, Or.inr ⟨k, hk, rfl, q2⟩⟩
theorem x_val {σ τ : St} (hG : GG σ τ) {l g s : Int32} (hs : sbj l g s) (land day : Int32) :
    ∃ V X : Int32, Texts_valueIn s land day σ = some V ∧ M_tellingOf l g land day τ = some X ∧ M_valueOf l X τ = some V ∧ 0 ≤ V.toInt ∧ V.toInt ≤ 9999 := by
  obtain ⟨X, h1, h2, h3⟩ := x_tell hG hs land day
  simp only [Texts_valueIn, h1, Option.bind_some]
  rcases h3 with q | ⟨k, hk, q, q2, q3⟩
  · subst q
    have hs0 : (s = 0) ↔ (l = 0) := by
      rcases hs with ⟨a, b, c⟩ | ⟨a, b, c, d⟩
      · rw [c]
      · subst a; subst d
        constructor
        · intro e
          rw [n_eq, n_add (by rw [k_4]; omega) (by rw [k_4]; omega), k_4, n_0] at e
          omega
        · intro e; exact absurd e (by decide)
    by_cases h0 : l = 0
    · refine ⟨4, -9, ?_, h2, ?_, by decide, by decide⟩
      · simp only [hs0, h0, if_true, eq_self]
      · simp only [M_valueOf, m9.2, if_false, h0, if_true, eq_self]
    · refine ⟨0, -9, ?_, h2, ?_, by decide, by decide⟩
      · simp only [hs0, h0, if_true, eq_self, if_false]
      · simp only [M_valueOf, m9.2, if_false, h0]
  · subst q
    have g2 : inb (nI k) 60 := n_inb (by omega) (by decide)
    refine ⟨_, _, ?_, h2, q2, q3⟩
    simp only [(nI_neg hk).2.2, if_false, if_pos g2, n_tn (k := k) (by omega)]
theorem x_force {σ τ : St} (hG : GG σ τ) {l : Int32} (hl : 0 ≤ l.toInt ∧ l.toInt < 4) (land day : Int32) : ∃ V : Int32, Texts_valueIn l land day σ = some V ∧ M_forceOf l land day τ = some V ∧ 0 ≤ V.toInt ∧ V.toInt ≤ 9999 := by
  obtain ⟨V, X, h1, h2, h3, h4⟩ := x_val hG (l := l) (g := 0) (s := l) (Or.inl ⟨hl.1, hl.2, rfl⟩) land day
  exact ⟨V, h1, by simp only [M_forceOf, h2, h3, Option.bind_some], h4⟩
theorem x_bar {σ τ : St} (hG : GG σ τ) {g : Int32} (hg : 0 ≤ g.toInt ∧ g.toInt < 8) (land day : Int32) : ∃ V : Int32, Texts_valueIn (4 + g) land day σ = some V ∧ M_barOf g land day τ = some V ∧ 0 ≤ V.toInt ∧ V.toInt ≤ 9999 := by
  obtain ⟨V, X, h1, h2, h3, h4⟩ := x_val hG (l := 4) (g := g) (s := 4 + g) (Or.inr ⟨rfl, hg.1, hg.2, rfl⟩) land day
  exact ⟨V, h1, by simp only [M_barOf, h2, h3, Option.bind_some], h4⟩
/-- of CUSTOM alone -/
theorem x_cust {σ τ : St} (hG : GG σ τ) {l : Int32} (hl : 0 ≤ l.toInt ∧ l.toInt < 4) (day : Int32) : ∃ V X : Int32, Texts_valueIn l (-1) day σ = some V ∧ M_clauseOf l 0 (-1) day τ = some X ∧ M_valueOf l X τ = some V ∧ 0 ≤ V.toInt ∧ V.toInt ≤ 9999 := by
  obtain ⟨V, X, h1, h2, h3, h4⟩ := x_val hG (l := l) (g := 0) (s := l) (Or.inl ⟨hl.1, hl.2, rfl⟩) (-1) day
  obtain ⟨Y, g1, g2, g3⟩ := x_cl hG (l := l) (g := 0) (s := l) (Or.inl ⟨hl.1, hl.2, rfl⟩) (-1) day
  refine ⟨V, Y, h1, g2, ?_, h4⟩
  simp only [M_tellingOf, g2, Option.bind_some] at h2
  split at h2
  · cases h2; exact h3
  · cases h2; exact h3
set_option maxHeartbeats 2000000 in
theorem op_force {n : Nat} {σ τ : St} (h : Rel0 n σ τ) (x1 x2 x3 : Int32) : ∃ r : Int32, P_force x1 x2 x3 σ = some r ∧ M_force x1 x2 x3 τ = some r := by
  obtain ⟨hA, hB, hC, hD, hE, hS, hF, hG, hH, hI, hJ, hK, hL, hM⟩ := id h
  simp only [P_force, M_force, g_below, g_in3, g_isLand, g_isDay, Option.bind_some, Bool.not_true, Bool.not_false, Bool.false_eq_true, if_true, if_false, eq_self, not_true, not_false_iff, sub_add]
  cases hx : bw x1 4
  · simp only [Option.bind_some, Bool.not_true, Bool.not_false, Bool.false_eq_true, if_true, if_false, eq_self, not_true, not_false_iff, sub_add]; exact ⟨_, rfl, rfl⟩
  · cases hy : bw x2 6
    · simp only [Option.bind_some, Bool.not_true, Bool.not_false, Bool.false_eq_true, if_true, if_false, eq_self, not_true, not_false_iff, sub_add]; exact ⟨_, rfl, rfl⟩
    · cases hz : bw x3 10000
      · simp only [Option.bind_some, Bool.not_true, Bool.not_false, Bool.false_eq_true, if_true, if_false, eq_self, not_true, not_false_iff, sub_add]; exact ⟨_, rfl, rfl⟩
      · have h1 := bw_toInt hx
        rw [k_4] at h1
        obtain ⟨V, e1, e2, e3⟩ := x_force hG h1 x2 x3
        simp only [e1, e2, Option.bind_some, Bool.not_true, Bool.not_false, Bool.false_eq_true, if_true, if_false, eq_self, not_true, not_false_iff, sub_add]
        exact ⟨_, rfl, rfl⟩
set_option maxHeartbeats 2000000 in
theorem op_bar {n : Nat} {σ τ : St} (h : Rel0 n σ τ) (x1 x2 x3 : Int32) : ∃ r : Int32, P_bar x1 x2 x3 σ = some r ∧ M_bar x1 x2 x3 τ = some r := by
  obtain ⟨hA, hB, hC, hD, hE, hS, hF, hG, hH, hI, hJ, hK, hL, hM⟩ := id h
  simp only [P_bar, M_bar, g_below, g_isGood, g_isLand, g_isDay, Option.bind_some, Bool.not_true, Bool.not_false, Bool.false_eq_true, if_true, if_false, eq_self, not_true, not_false_iff, sub_add]
  cases hx : bw x1 8
  · simp only [Option.bind_some, Bool.not_true, Bool.not_false, Bool.false_eq_true, if_true, if_false, eq_self, not_true, not_false_iff, sub_add]; exact ⟨_, rfl, rfl⟩
  · cases hy : bw x2 6
    · simp only [Option.bind_some, Bool.not_true, Bool.not_false, Bool.false_eq_true, if_true, if_false, eq_self, not_true, not_false_iff, sub_add]; exact ⟨_, rfl, rfl⟩
    · cases hz : bw x3 10000
      · simp only [Option.bind_some, Bool.not_true, Bool.not_false, Bool.false_eq_true, if_true, if_false, eq_self, not_true, not_false_iff, sub_add]; exact ⟨_, rfl, rfl⟩
      · have h1 := bw_toInt hx
        rw [k_8] at h1
        obtain ⟨V, e1, e2, e3⟩ := x_bar hG h1 x2 x3
        simp only [e1, e2, Option.bind_some, Bool.not_true, Bool.not_false, Bool.false_eq_true, if_true, if_false, eq_self, not_true, not_false_iff, sub_add]
        exact ⟨_, rfl, rfl⟩
/-- what is asked for: the class's subject and the model's look agree -/
theorem x_ask (l g land day : Int32) (σ τ : St) : (∃ s : Int32, P_subjectOf l g σ = some s ∧ ¬ s = -9 ∧ sbj l g s ∧ M_isAsked l g land day τ = some (bw land 6 && bw day 10000)) ∨ (P_subjectOf l g σ = some (-9) ∧ M_isAsked l g land day τ = some false) := by
  simp only [P_subjectOf, M_isAsked, g_below, g_in4, g_isGood, g_isLand, g_isDay, Option.bind_some]
  cases hx : bw l 4
  · by_cases h4 : l = 4
    · subst h4
      have e5 : bw 4 5 = true := by decide
      have e6 : ¬ (4 : Int32) < 4 := by decide
      cases hy : bw g 8
      · right
        simp only [e5, e6, if_true, if_false, eq_self, Bool.false_eq_true, Option.bind_some, and_self]
      · left
        have h1 := bw_toInt hy
        rw [k_8] at h1
        refine ⟨4 + g, ?_, ?_, Or.inr ⟨rfl, h1.1, h1.2, rfl⟩, ?_⟩
        · simp only [if_true, if_false, eq_self, Bool.false_eq_true, Option.bind_some]
        · rw [n_eq, n_add (by rw [k_4]; omega) (by rw [k_4]; omega), k_4, k_m9]; omega
        · simp only [e5, e6, if_true, if_false, eq_self, Option.bind_some]
          cases bw land 6 <;> cases bw day 10000 <;> simp
    · right
      have e5 : bw l 5 = false := by
        cases hq : bw l 5
        · rfl
        · exfalso
          have a := bw_toInt hq
          rw [k_5] at a
          have b : ¬ (bw l 4 = true) := by rw [hx]; decide
          rw [bw_iff, k_4] at b
          rw [n_eq, k_4] at h4
          omega
      simp only [e5, h4, if_false, Bool.false_eq_true, and_self]
  · left
    have h1 := bw_toInt hx
    rw [k_4] at h1
    have e5 : bw l 5 = true := by rw [bw_iff, k_5]; omega
    have e6 : l < 4 := by rw [n_lt, k_4]; omega
    refine ⟨l, ?_, ?_, Or.inl ⟨h1.1, h1.2, rfl⟩, ?_⟩
    · simp only [if_true, eq_self]
    · rw [n_eq, k_m9]; omega
    · simp only [e5, e6, if_true, eq_self, Option.bind_some]
      cases bw land 6 <;> cases bw day 10000 <;> simp
set_option maxHeartbeats 2000000 in
theorem op_why {n : Nat} {σ τ : St} (h : Rel0 n σ τ) (x1 x2 x3 x4 : Int32) : ∃ r : Int32, P_why x1 x2 x3 x4 σ = some r ∧ M_why x1 x2 x3 x4 τ = some r := by
  obtain ⟨hA, hB, hC, hD, hE, hS, hF, hG, hH, hI, hJ, hK, hL, hM⟩ := id h
  simp only [P_why, M_why, g_below, Option.bind_some, Bool.not_true, Bool.not_false, Bool.false_eq_true, if_true, if_false, eq_self, not_true, not_false_iff, sub_add]
  rcases x_ask x1 x2 x3 x4 σ τ with ⟨s, a1, a2, a3, a4⟩ | ⟨a1, a2⟩
  · obtain ⟨X, b1, b2, b3⟩ := x_tell hG a3 x3 x4
    simp only [a1, a2, a4, b1, b2, Option.bind_some, Bool.not_true, Bool.not_false, Bool.false_eq_true, if_true, if_false, eq_self, not_true, not_false_iff, sub_add]
    cases hy : bw x3 6
    · simp only [Bool.false_and, Option.bind_some, Bool.not_true, Bool.not_false, Bool.false_eq_true, if_true, if_false, eq_self, not_true, not_false_iff, sub_add]; exact ⟨_, rfl, rfl⟩
    · cases hz : bw x4 10000
      · simp only [Bool.and_false, Option.bind_some, Bool.not_true, Bool.not_false, Bool.false_eq_true, if_true, if_false, eq_self, not_true, not_false_iff, sub_add]; exact ⟨_, rfl, rfl⟩
      · simp only [Bool.and_self, Option.bind_some, Bool.not_true, Bool.not_false, Bool.false_eq_true, if_true, if_false, eq_self, not_true, not_false_iff, sub_add]
        rcases b3 with q | ⟨k, hk, q, _⟩
        · subst q
          simp only [Texts_textOf, m9.2, Option.bind_some, Bool.not_true, Bool.not_false, Bool.false_eq_true, if_true, if_false, eq_self, not_true, not_false_iff, sub_add]; exact ⟨_, rfl, rfl⟩
        · subst q
          simp only [Texts_textOf, (nI_neg hk).2.1, (nI_neg hk).2.2, Option.bind_some, Bool.not_true, Bool.not_false, Bool.false_eq_true, if_true, if_false, eq_self, not_true, not_false_iff, sub_add]; exact ⟨_, rfl, rfl⟩
  · simp only [a1, a2, Option.bind_some, Bool.not_true, Bool.not_false, Bool.false_eq_true, if_true, if_false, eq_self, not_true, not_false_iff, sub_add]; exact ⟨_, rfl, rfl⟩
set_option maxHeartbeats 2000000 in
theorem op_quarrel {n : Nat} {σ τ : St} (h : Rel0 n σ τ) (x1 x2 x3 x4 : Int32) : ∃ r : Int32, P_quarrel x1 x2 x3 x4 σ = some r ∧ M_quarrel x1 x2 x3 x4 τ = some r := by
  obtain ⟨hA, hB, hC, hD, hE, hS, hF, hG, hH, hI, hJ, hK, hL, hM⟩ := id h
  simp only [P_quarrel, M_quarrel, Texts_doQuarrel, g_below, Option.bind_some, Bool.not_true, Bool.not_false, Bool.false_eq_true, if_true, if_false, eq_self, not_true, not_false_iff, sub_add]
  rcases x_ask x1 x2 x3 x4 σ τ with ⟨s, a1, a2, a3, a4⟩ | ⟨a1, a2⟩
  · obtain ⟨X, b1, b2, b3⟩ := x_cl hG a3 x3 x4
    obtain ⟨Y, c1, c2, c3⟩ := x_cl hG a3 (-1) x4
    simp only [a1, a2, a4, b1, b2, c1, c2, Option.bind_some, Bool.not_true, Bool.not_false, Bool.false_eq_true, if_true, if_false, eq_self, not_true, not_false_iff, sub_add]
    cases hy : bw x3 6
    · simp only [Bool.false_and, Option.bind_some, Bool.not_true, Bool.not_false, Bool.false_eq_true, if_true, if_false, eq_self, not_true, not_false_iff, sub_add]; exact ⟨_, rfl, rfl⟩
    · cases hz : bw x4 10000
      · simp only [Bool.and_false, Option.bind_some, Bool.not_true, Bool.not_false, Bool.false_eq_true, if_true, if_false, eq_self, not_true, not_false_iff, sub_add]; exact ⟨_, rfl, rfl⟩
      · simp only [Bool.and_self, Option.bind_some, Bool.not_true, Bool.not_false, Bool.false_eq_true, if_true, if_false, eq_self, not_true, not_false_iff, sub_add]
        rcases b3 with q | ⟨k, hk, q, q2, _⟩
        · subst q
          simp only [m9.1, Option.bind_some, Bool.not_true, Bool.not_false, Bool.false_eq_true, if_true, if_false, eq_self, not_true, not_false_iff, sub_add]; exact ⟨_, rfl, rfl⟩
        · subst q
          simp only [(nI_neg hk).1, (nI_neg hk).2.2, Option.bind_some, Bool.not_true, Bool.not_false, Bool.false_eq_true, if_true, if_false, eq_self, not_true, not_false_iff, sub_add]
          rcases c3 with w | ⟨j, hj, w, w2, _⟩
          · subst w
            simp only [m9.1, Option.bind_some, Bool.not_true, Bool.not_false, Bool.false_eq_true, if_true, if_false, eq_self, not_true, not_false_iff, sub_add]; exact ⟨_, rfl, rfl⟩
          · subst w
            have g2 : inb (nI k) 60 := n_inb (by omega) (by decide)
            have g3 : inb (nI j) 60 := n_inb (by omega) (by decide)
            simp only [(nI_neg hj).1, (nI_neg hj).2.2, if_pos g2, if_pos g3, q2, w2, n_tn (k := k) (by omega), n_tn (k := j) (by omega), Option.bind_some, Bool.not_true, Bool.not_false, Bool.false_eq_true, if_true, if_false, eq_self, not_true, not_false_iff, sub_add]
            by_cases e : σ.1 46 k = σ.1 46 j
            · simp only [e, Option.bind_some, Bool.not_true, Bool.not_false, Bool.false_eq_true, if_true, if_false, eq_self, not_true, not_false_iff, sub_add]; exact ⟨_, rfl, rfl⟩
            · simp only [e, Option.bind_some, Bool.not_true, Bool.not_false, Bool.false_eq_true, if_true, if_false, eq_self, not_true, not_false_iff, sub_add]; exact ⟨_, rfl, rfl⟩
  · simp only [a1, a2, Option.bind_some, Bool.not_true, Bool.not_false, Bool.false_eq_true, if_true, if_false, eq_self, not_true, not_false_iff, sub_add]; exact ⟨_, rfl, rfl⟩
