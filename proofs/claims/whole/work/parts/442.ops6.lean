/-! DEBTS -/
theorem y_land {n : Nat} {σ τ : St} (h : Rel0 n σ τ) {i : Nat} (hi : i < 20) (hc : (i : Int) < (σ.1 49 7).toInt) : P_landOfDebt (nI i) σ = some (σ.1 2 (σ.1 51 i).toNatClampNeg) ∧ inb (σ.1 51 i) 16 := by
  obtain ⟨hA, hB, hC, hD, hE, hS, hF, hG, hH, hI, hJ, hK, hL, hM⟩ := id h
  obtain ⟨⟨eA1, eA2, eA3, eA4, eA5, eA6, eA7⟩, ⟨cA1, cA2, cA3⟩, iA1, iA2, iA3, iA4⟩ := id hA
  obtain ⟨⟨eH1, eH2, eH3, eH4, eH5, eH6, eH7, eH8⟩, cH, iH1, iH2, iH3, iH4, iH5, iH6, dH⟩ := id hH
  have h2 : inb (nI i) 20 := n_inb hi (by decide)
  have h3 := n_tn (k := i) (by omega)
  have hd := (dH i hc).1
  have hr := iH2 i
  have g := cn_toInt cA1 (by decide)
  have hb : bw (σ.1 51 i) (σ.1 1 4) = true := by rw [bw_iff]; exact ⟨hr.1, hd⟩
  have hin : inb (σ.1 51 i) 16 := bw_in hb g.2
  refine ⟨?_, hin⟩
  simp only [P_landOfDebt, if_pos h2, h3, g_hasPlace, hb, if_pos hin, Option.bind_some, Bool.not_true, Bool.not_false, Bool.false_eq_true, if_true, if_false, eq_self, not_true, not_false_iff, sub_add]
theorem y_barred {n : Nat} {σ τ : St} (h : Rel0 n σ τ) {i : Nat} (hi : i < 20) (hc : (i : Int) < (σ.1 49 7).toInt) : ∃ B : Int32, P_barredFrom (nI i) σ = some B ∧ M_barredFrom (nI i) τ = some B ∧ (B = -9 ∨ 0 ≤ B.toInt) := by
  obtain ⟨hl, hin⟩ := y_land h hi hc
  obtain ⟨hA, hB, hC, hD, hE, hS, hF, hG, hH, hI, hJ, hK, hL, hM⟩ := id h
  obtain ⟨⟨eA1, eA2, eA3, eA4, eA5, eA6, eA7⟩, ⟨cA1, cA2, cA3⟩, iA1, iA2, iA3, iA4⟩ := id hA
  obtain ⟨⟨eH1, eH2, eH3, eH4, eH5, eH6, eH7, eH8⟩, cH, iH1, iH2, iH3, iH4, iH5, iH6, dH⟩ := id hH
  have h2 : inb (nI i) 20 := n_inb hi (by decide)
  have h3 := n_tn (k := i) (by omega)
  obtain ⟨V, e1, e2, e3, e4⟩ := x_force hG (l := 2) (by decide) (σ.1 2 (σ.1 51 i).toNatClampNeg) (σ.1 54 i)
  simp only [P_barredFrom, M_barredFrom, hl, ← eH3, ← eA4, ← eH6, if_pos h2, h3, if_pos hin, e1, e2, Option.bind_some, Bool.not_true, Bool.not_false, Bool.false_eq_true, if_true, if_false, eq_self, not_true, not_false_iff, sub_add]
  by_cases q : V = 0
  · simp only [q, Option.bind_some, Bool.not_true, Bool.not_false, Bool.false_eq_true, if_true, if_false, eq_self, not_true, not_false_iff, sub_add]; exact ⟨_, rfl, rfl, Or.inl rfl⟩
  · simp only [q, Option.bind_some, Bool.not_true, Bool.not_false, Bool.false_eq_true, if_true, if_false, eq_self, not_true, not_false_iff, sub_add]
    refine ⟨_, rfl, rfl, Or.inr ?_⟩
    have := iH5 i
    rw [n_add (by omega) (by omega)]; omega
theorem y_isBarred {n : Nat} {σ τ : St} (h : Rel0 n σ τ) {i : Nat} (hi : i < 20) (hc : (i : Int) < (σ.1 49 7).toInt) (d : Int32) : ∃ B : Bool, P_isBarred (nI i) d σ = some B ∧ M_isBarred (nI i) d τ = some B := by
  obtain ⟨B, e1, e2, e3⟩ := y_barred h hi hc
  simp only [P_isBarred, M_isBarred, e1, e2, Option.bind_some, Bool.not_true, Bool.not_false, Bool.false_eq_true, if_true, if_false, eq_self, not_true, not_false_iff, sub_add]
  rcases e3 with q | q
  · subst q
    simp only [m9.1, Option.bind_some, Bool.not_true, Bool.not_false, Bool.false_eq_true, if_true, if_false, eq_self, not_true, not_false_iff, sub_add]; exact ⟨_, rfl, rfl⟩
  · have a1 : ¬ B = -9 := by rw [n_eq, k_m9]; omega
    have a2 : ¬ B < 0 := by rw [n_lt, n_0]; omega
    simp only [a1, a2, Option.bind_some, Bool.not_true, Bool.not_false, Bool.false_eq_true, if_true, if_false, eq_self, not_true, not_false_iff, sub_add]
    by_cases w : d < B
    · simp only [w, Option.bind_some, Bool.not_true, Bool.not_false, Bool.false_eq_true, if_true, if_false, eq_self, not_true, not_false_iff, sub_add]; exact ⟨_, rfl, rfl⟩
    · simp only [w, Option.bind_some, Bool.not_true, Bool.not_false, Bool.false_eq_true, if_true, if_false, eq_self, not_true, not_false_iff, sub_add]; exact ⟨_, rfl, rfl⟩
set_option maxHeartbeats 2000000 in
theorem op_due {n : Nat} {σ τ : St} (h : Rel0 n σ τ) (x1 x2 : Int32) : ∃ r : Int32, P_due x1 x2 σ = some r ∧ M_due x1 x2 τ = some r := by
  obtain ⟨hA, hB, hC, hD, hE, hS, hF, hG, hH, hI, hJ, hK, hL, hM⟩ := id h
  obtain ⟨⟨eH1, eH2, eH3, eH4, eH5, eH6, eH7, eH8⟩, cH, iH1, iH2, iH3, iH4, iH5, iH6, dH⟩ := id hH
  obtain ⟨kH, hkH, ekH⟩ := id cH
  cases hx : bw x1 (σ.1 49 7)
  · simp only [P_due, M_due, g_below, g_noDebt, ← eH1, hx, Option.bind_some, Bool.not_true, Bool.not_false, Bool.false_eq_true, if_true, if_false, eq_self, not_true, not_false_iff, sub_add]; exact ⟨_, rfl, rfl⟩
  · obtain ⟨i, rfl, hi, hi2⟩ := bw_of hx
    have g := cn_toInt cH (by decide)
    have hin : inb (nI i) 20 := bw_in hx g.2
    obtain ⟨B, e1, e2, _⟩ := y_barred h (i := i) (by omega) hi
    simp only [P_due, M_due, g_below, g_noDebt, ← eH1, ← eH2, ← eH3, ← eH4, ← eH5, ← eH6, ← eH7, ← eH8, hx, if_pos hin, e1, e2, Option.bind_some, Bool.not_true, Bool.not_false, Bool.false_eq_true, if_true, if_false, eq_self, not_true, not_false_iff, sub_add]
    (repeat' split) <;> exact ⟨_, rfl, rfl⟩
set_option maxHeartbeats 2000000 in
theorem op_paid {n : Nat} {σ τ : St} (h : Rel0 n σ τ) (x1 x2 x3 : Int32) : ∃ r σ' τ', P_paid x1 x2 x3 σ = some (r, σ') ∧ M_paid x1 x2 x3 τ = some (r, τ') ∧ Rel0 n σ' τ' ∧ Sx σ σ' := by
  obtain ⟨hA, hB, hC, hD, hE, hS, hF, hG, hH, hI, hJ, hK, hL, hM⟩ := id h
  obtain ⟨⟨eH1, eH2, eH3, eH4, eH5, eH6, eH7, eH8⟩, cH, iH1, iH2, iH3, iH4, iH5, iH6, dH⟩ := id hH
  obtain ⟨kH, hkH, ekH⟩ := id cH
  cases hx : bw x1 (σ.1 49 7)
  · simp only [P_paid, M_paid, g_below, g_noDebt, ← eH1, hx, Option.bind_some, Bool.not_true, Bool.not_false, Bool.false_eq_true, if_true, if_false, eq_self, not_true, not_false_iff, sub_add]
    exact ⟨_, _, _, rfl, rfl, h, sx_refl σ⟩
  · obtain ⟨i, rfl, hi, hi2⟩ := bw_of hx
    have g := cn_toInt cH (by decide)
    have hin : inb (nI i) 20 := bw_in hx g.2
    have h3 := n_tn (k := i) (by omega)
    obtain ⟨B, e1, e2⟩ := y_isBarred h (i := i) (by omega) hi x3
    simp only [P_paid, M_paid, Debts_left, g_below, g_noDebt, g_isDay, ← eH1, ← eH5, ← eH6, ← eH7, hx, if_pos hin, h3, e1, e2, Option.bind_some, Bool.not_true, Bool.not_false, Bool.false_eq_true, if_true, if_false, eq_self, not_true, not_false_iff, sub_add]
    by_cases hc : x2 < 1
    · simp only [hc, Option.bind_some, Bool.not_true, Bool.not_false, Bool.false_eq_true, if_true, if_false, eq_self, not_true, not_false_iff, sub_add]
      exact ⟨_, _, _, rfl, rfl, h, sx_refl σ⟩
    · cases hd : bw x3 10000
      · simp only [hc, Option.bind_some, Bool.not_true, Bool.not_false, Bool.false_eq_true, if_true, if_false, eq_self, not_true, not_false_iff, sub_add]
        exact ⟨_, _, _, rfl, rfl, h, sx_refl σ⟩
      · cases B
        · simp only [hc, Option.bind_some, Bool.not_true, Bool.not_false, Bool.false_eq_true, if_true, if_false, eq_self, not_true, not_false_iff, sub_add]
          by_cases hl : σ.1 53 i - σ.1 55 i < x2
          · simp only [hl, Option.bind_some, Bool.not_true, Bool.not_false, Bool.false_eq_true, if_true, if_false, eq_self, not_true, not_false_iff, sub_add]
            exact ⟨_, _, _, rfl, rfl, h, sx_refl σ⟩
          · by_cases hw : σ.1 54 i ≤ x3
            · simp only [hl, hw, Option.bind_some, Bool.not_true, Bool.not_false, Bool.false_eq_true, if_true, if_false, eq_self, not_true, not_false_iff, sub_add]
              have w1 : (wI τ 37 i (σ.1 55 i + x2)).1 37 i = σ.1 55 i + x2 := by simp [wI, upd]
              have w2 : (wI σ 55 i (σ.1 55 i + x2)).1 55 i = σ.1 55 i + x2 := by simp [wI, upd]
              have w3 : (wI σ 55 i (σ.1 55 i + x2)).1 53 i = σ.1 53 i := rfl
              simp only [w1, w2, w3]
              have r1 := iH4 i
              have r2 := iH6 i
              rw [n_lt, k_1] at hc
              rw [n_lt, n_sub (by omega) (by omega)] at hl
              have hs : (σ.1 55 i + x2).toInt = (σ.1 55 i).toInt + x2.toInt := n_add (by omega) (by omega)
              refine ⟨_, _, _, rfl, rfl, ⟨hA, hB, hC, hD, hE, hS, hF, hG, ⟨⟨eH1, eH2, eH3, eH4, eH5, eH6, upd_eq eH7 _ _, eH8⟩, cH, iH1, iH2, iH3, iH4, iH5, fun j => ?_, dH⟩, hI, hJ, hK, hL, hM⟩, ⟨Or.inr ⟨rfl, rfl, rfl, rfl, rfl, rfl, rfl, rfl, rfl, rfl, fun _ _ => rfl⟩, Or.inr ⟨rfl, rfl, rfl, rfl, rfl⟩, Or.inr ⟨rfl, rfl, rfl, rfl, rfl, rfl, rfl, rfl, rfl, fun _ _ => rfl⟩⟩⟩
              show 0 ≤ (upd (σ.1 55) i (σ.1 55 i + x2) j).toInt ∧ (upd (σ.1 55) i (σ.1 55 i + x2) j).toInt ≤ (σ.1 53 j).toInt
              rw [upd_at]
              split
              · rename_i e; rw [e, hs]; omega
              · exact iH6 j
            · simp only [hl, hw, Option.bind_some, Bool.not_true, Bool.not_false, Bool.false_eq_true, if_true, if_false, eq_self, not_true, not_false_iff, sub_add]
              exact ⟨_, _, _, rfl, rfl, h, sx_refl σ⟩
        · simp only [hc, Option.bind_some, Bool.not_true, Bool.not_false, Bool.false_eq_true, if_true, if_false, eq_self, not_true, not_false_iff, sub_add]
          exact ⟨_, _, _, rfl, rfl, h, sx_refl σ⟩
theorem upd_self {f : Nat → Int32} {k : Nat} {x : Int32} (h : f k = x) : upd f k x = f := by
  funext j
  rw [upd_at]
  split
  · rename_i e; rw [e, h]
  · rfl
theorem wI_self {σ : St} {k i : Nat} {x : Int32} (h : σ.1 k i = x) : wI σ k i x = σ := by
  unfold wI
  rw [upd_self h]
  refine Prod.ext ?_ rfl
  funext a
  show (if a = k then σ.1 k else σ.1 a) = σ.1 a
  split
  · rename_i e; rw [e]
  · rfl
/-- a DEBT's owner changes -/
theorem rel_owner {n : Nat} {σ τ : St} (h : Rel0 n σ τ) (i : Nat) (v : Int32) : Rel0 n (wI σ 56 i v) (wI τ 38 i v) ∧ Sx σ (wI σ 56 i v) := by
  obtain ⟨hA, hB, hC, hD, hE, hS, hF, hG, hH, hI, hJ, hK, hL, hM⟩ := id h
  obtain ⟨⟨eH1, eH2, eH3, eH4, eH5, eH6, eH7, eH8⟩, cH, iH1, iH2, iH3, iH4, iH5, iH6, dH⟩ := id hH
  exact ⟨⟨hA, hB, hC, hD, hE, hS, hF, hG, ⟨⟨eH1, eH2, eH3, eH4, eH5, eH6, eH7, upd_eq eH8 _ _⟩, cH, iH1, iH2, iH3, iH4, iH5, iH6, dH⟩, hI, hJ, hK, hL, hM⟩, ⟨Or.inr ⟨rfl, rfl, rfl, rfl, rfl, rfl, rfl, rfl, rfl, rfl, fun _ _ => rfl⟩, Or.inr ⟨rfl, rfl, rfl, rfl, rfl⟩, Or.inr ⟨rfl, rfl, rfl, rfl, rfl, rfl, rfl, rfl, rfl, fun _ _ => rfl⟩⟩⟩
theorem sx_trans {a b c : St} (h1 : Sx a b) (h2 : Sx b c) (hp : (b.1 21 3) = (a.1 21 3)) (hh : b.1 1 6 = a.1 1 6) : Sx a c := by
  obtain ⟨n1, w1, o1⟩ := h1
  obtain ⟨n2, w2, o2⟩ := h2
  refine ⟨?_, ?_, ?_⟩
  · rcases n2 with q | ⟨q1, q2, q3, q4, q5, q6, q7, q8, q9, q10, q11⟩
    · exact Or.inl q
    · rcases n1 with p | ⟨p1, p2, p3, p4, p5, p6, p7, p8, p9, p10, p11⟩
      · exact Or.inl (q1.trans p)
      · exact Or.inr ⟨q1.trans p1, q2.trans p2, q3.trans p3, q4.trans p4, q5.trans p5, q6.trans p6, q7.trans p7, q8.trans p8, q9.trans p9, q10.trans p10, fun i hi => (q11 i (by rw [hp]; exact hi)).trans (p11 i hi)⟩
  · rcases w2 with q | ⟨q1, q2, q3, q4, q5⟩
    · exact Or.inl q
    · rcases w1 with p | ⟨p1, p2, p3, p4, p5⟩
      · exact Or.inl (q1.trans p)
      · exact Or.inr ⟨q1.trans p1, q2.trans p2, q3.trans p3, q4.trans p4, q5.trans p5⟩
  · rcases o2 with q | ⟨q1, q2, q3, q4, q5, q6, q7, q8, q9, q10⟩
    · exact Or.inl q
    · rcases o1 with p | ⟨p1, p2, p3, p4, p5, p6, p7, p8, p9, p10⟩
      · exact Or.inl (q1.trans p)
      · exact Or.inr ⟨q1.trans p1, q2.trans p2, q3.trans p3, q4.trans p4, q5.trans p5, q6.trans p6, q7.trans p7, q8.trans p8, q9.trans p9, fun i hi => (q10 i (by rw [hh]; exact hi)).trans (p10 i hi)⟩
set_option maxHeartbeats 4000000 in
theorem y_dead (x1 x2 : Int32) {k : Nat} (hk : k ≤ 20) : ∀ (m i : Nat) (a : Int32) (n : Nat) (σ τ : St), Rel0 n σ τ → σ.1 49 7 = nI k → i ≤ k → k - i < m → ∃ r σ' τ', P_dead_L31 x1 x2 m a (nI i) σ = some (r, σ') ∧ M_dead_L25 x1 x2 m a (nI i) τ = some (r, τ') ∧ Rel0 n σ' τ' ∧ Sx σ σ' := by
  intro m
  induction m with
  | zero => intro i a n σ τ _ _ _ hm; omega
  | succ m ih =>
    intro i a n σ τ h hc hi hm
    obtain ⟨hA, hB, hC, hD, hE, hS, hF, hG, hH, hI, hJ, hK, hL, hM⟩ := id h
    obtain ⟨⟨eA1, eA2, eA3, eA4, eA5, eA6, eA7⟩, ⟨cA1, cA2, cA3⟩, iA1, iA2, iA3, iA4⟩ := id hA
    obtain ⟨⟨eE1, eE2, eE3, eE4⟩, cE, iE1, iE2, iE3, iE4⟩ := id hE
    obtain ⟨⟨eH1, eH2, eH3, eH4, eH5, eH6, eH7, eH8⟩, cH, iH1, iH2, iH3, iH4, iH5, iH6, dH⟩ := id hH
    have hc' : τ.1 0 41 = nI k := by rw [← eH1]; exact hc
    rcases Nat.lt_or_ge i k with hlt | hge
    · have h1 := n_cmp hlt (by omega)
      have h2 : inb (nI i) 20 := n_inb (by omega) (by decide)
      have h3 := n_tn (k := i) (by omega)
      have hci : (i : Int) < (σ.1 49 7).toInt := by rw [hc, n_ti (by omega)]; omega
      obtain ⟨B, b1, b2⟩ := y_isBarred h (i := i) (by omega) hci x2
      obtain ⟨l1, l2⟩ := y_land h (i := i) (by omega) hci
      obtain ⟨V, v1, v2, v3, v4⟩ := x_force hG (l := 3) (by decide) (σ.1 2 (σ.1 51 i).toNatClampNeg) x2
      have r1 := iH6 i
      have r2 := iH4 i
      have hleft : (σ.1 53 i - σ.1 55 i ≤ 0) ↔ (σ.1 53 i ≤ σ.1 55 i) := by rw [n_le, n_le, n_sub (by omega) (by omega), n_0]; omega
      have hpk : bw (σ.1 52 i) (σ.1 21 3) = true := by rw [bw_iff]; exact ⟨(iH3 i).1, (dH i hci).2⟩
      have hpi : inb (σ.1 52 i) 12 := bw_in hpk (cn_toInt cE (by decide)).2
      simp only [P_dead_L31, M_dead_L25, Debts_isLeftBy, Debts_left, P_passesOn, g_packsHas, hc, hc', h1, if_pos h2, h3, ← eH3, ← eH4, ← eH5, ← eH6, ← eH7, ← eH8, ← eA4, ← eE4, b1, b2, l1, v1, v2, if_pos l2, if_pos hpi, hpk, hleft, nI_1, a0, Option.bind_some, Bool.not_true, Bool.not_false, Bool.false_eq_true, if_true, if_false, eq_self, not_true, not_false_iff, sub_add]
      by_cases q1 : σ.1 56 i = x1
      · by_cases q2 : x2 < σ.1 54 i
        · simp only [q1, q2, Option.bind_some, Bool.not_true, Bool.not_false, Bool.false_eq_true, if_true, if_false, eq_self, not_true, not_false_iff, sub_add]
          exact ih (i + 1) a n σ τ h hc (by omega) (by omega)
        · by_cases q3 : σ.1 53 i ≤ σ.1 55 i
          · cases B
            · simp only [q1, q2, q3, Option.bind_some, Bool.not_true, Bool.not_false, Bool.false_eq_true, if_true, if_false, eq_self, not_true, not_false_iff, sub_add]
              exact ih (i + 1) a n σ τ h hc (by omega) (by omega)
            · simp only [q1, q2, q3, Option.bind_some, Bool.not_true, Bool.not_false, Bool.false_eq_true, if_true, if_false, eq_self, not_true, not_false_iff, sub_add]
              exact ih (i + 1) a n σ τ h hc (by omega) (by omega)
          · cases B
            · by_cases q4 : V = 0
              · have e0 : wI τ 38 i x1 = τ := wI_self (by rw [← eH8]; exact q1)
                simp only [q1, q2, q3, q4, e0, Option.bind_some, Bool.not_true, Bool.not_false, Bool.false_eq_true, if_true, if_false, eq_self, not_true, not_false_iff, sub_add]
                exact ih (i + 1) a n σ τ h hc (by omega) (by omega)
              · by_cases q5 : V = 1
                · simp only [q1, q2, q3, q5, ne10, Option.bind_some, Bool.not_true, Bool.not_false, Bool.false_eq_true, if_true, if_false, eq_self, not_true, not_false_iff, sub_add]
                  obtain ⟨g1, g2⟩ := rel_owner h i (6 + σ.1 24 (σ.1 52 i).toNatClampNeg)
                  obtain ⟨r, σ', τ', t1, t2, t3, t4⟩ := ih (i + 1) (a + 1) n _ _ g1 hc (by omega) (by omega)
                  exact ⟨r, σ', τ', t1, t2, t3, sx_trans g2 t4 rfl rfl⟩
                · simp only [q1, q2, q3, q4, q5, Option.bind_some, Bool.not_true, Bool.not_false, Bool.false_eq_true, if_true, if_false, eq_self, not_true, not_false_iff, sub_add]
                  obtain ⟨g1, g2⟩ := rel_owner h i (10 + σ.1 2 (σ.1 51 i).toNatClampNeg)
                  obtain ⟨r, σ', τ', t1, t2, t3, t4⟩ := ih (i + 1) (a + 1) n _ _ g1 hc (by omega) (by omega)
                  exact ⟨r, σ', τ', t1, t2, t3, sx_trans g2 t4 rfl rfl⟩
            · simp only [q1, q2, q3, Option.bind_some, Bool.not_true, Bool.not_false, Bool.false_eq_true, if_true, if_false, eq_self, not_true, not_false_iff, sub_add]
              exact ih (i + 1) a n σ τ h hc (by omega) (by omega)
      · simp only [q1, Option.bind_some, Bool.not_true, Bool.not_false, Bool.false_eq_true, if_true, if_false, eq_self, not_true, not_false_iff, sub_add]
        exact ih (i + 1) a n σ τ h hc (by omega) (by omega)
    · have e : i = k := by omega
      subst e
      simp only [P_dead_L31, M_dead_L25, hc, hc', n_cmpE, if_true]
      exact ⟨_, _, _, rfl, rfl, h, sx_refl σ⟩
set_option maxHeartbeats 2000000 in
theorem op_dead {n : Nat} {σ τ : St} (h : Rel0 n σ τ) (x1 x2 : Int32) : ∃ r σ' τ', P_dead x1 x2 σ = some (r, σ') ∧ M_dead x1 x2 τ = some (r, τ') ∧ Rel0 n σ' τ' ∧ Sx σ σ' := by
  obtain ⟨hA, hB, hC, hD, hE, hS, hF, hG, hH, hI, hJ, hK, hL, hM⟩ := id h
  obtain ⟨⟨eA1, eA2, eA3, eA4, eA5, eA6, eA7⟩, ⟨cA1, cA2, cA3⟩, iA1, iA2, iA3, iA4⟩ := id hA
  obtain ⟨⟨eH1, eH2, eH3, eH4, eH5, eH6, eH7, eH8⟩, cH, iH1, iH2, iH3, iH4, iH5, iH6, dH⟩ := id hH
  obtain ⟨kH, hkH, ekH⟩ := id cH
  simp only [P_dead, M_dead, g_below, g_hasBand, g_noBand, g_isDay, ← eA2, Option.bind_some, Bool.not_true, Bool.not_false, Bool.false_eq_true, if_true, if_false, eq_self, not_true, not_false_iff, sub_add]
  cases hx : bw x1 (σ.1 1 5)
  · simp only [Option.bind_some, Bool.not_true, Bool.not_false, Bool.false_eq_true, if_true, if_false, eq_self, not_true, not_false_iff, sub_add]
    exact ⟨_, _, _, rfl, rfl, h, sx_refl σ⟩
  · cases hy : bw x2 10000
    · simp only [Option.bind_some, Bool.not_true, Bool.not_false, Bool.false_eq_true, if_true, if_false, eq_self, not_true, not_false_iff, sub_add]
      exact ⟨_, _, _, rfl, rfl, h, sx_refl σ⟩
    · simp only [Option.bind_some, Bool.not_true, Bool.not_false, Bool.false_eq_true, if_true, if_false, eq_self, not_true, not_false_iff, sub_add]
      exact y_dead x1 x2 hkH FU 0 0 n σ τ h ekH (Nat.zero_le _) (fu_gt (by omega))
theorem bar3 {g land day V : Int32} {τ : St} (h : M_barOf g land day τ = some V) : V = 0 ∨ V = 1 ∨ V = 2 := by
  unfold M_barOf at h
  obtain ⟨X, _, h⟩ := q_bind h
  obtain ⟨W, hW, h⟩ := q_bind h
  cases h
  simp only [M_valueOf, show (4 : Int32) ≤ 4 by decide, show ¬ (4 : Int32) = 0 by decide, if_true, if_false] at hW
  split at hW
  · split at hW
    · split at hW
      · cases hW; exact Or.inr (Or.inl rfl)
      · split at hW
        · cases hW; exact Or.inr (Or.inr rfl)
        · cases hW; exact Or.inl rfl
    · cases hW
  · cases hW; exact Or.inl rfl
set_option maxHeartbeats 2000000 in
theorem y_allowed {n : Nat} {σ τ : St} (h : Rel0 n σ τ) {i : Nat} (hi : (i : Int) < (σ.1 28 6).toInt) (h2k : σ.1 30 i = 2) : ∃ B : Bool, P_isAllowed (nI i) (σ.1 23 (σ.1 29 i).toNatClampNeg) σ = some B ∧ M_isUnallowed (nI i) τ = some (!B) := by
  obtain ⟨hA, hB, hC, hD, hE, hS, hF, hG, hH, hI, hJ, hK, hL, hM⟩ := id h
  obtain ⟨⟨eA1, eA2, eA3, eA4, eA5, eA6, eA7⟩, ⟨cA1, cA2, cA3⟩, iA1, iA2, iA3, iA4⟩ := id hA
  obtain ⟨⟨eB1, eB2, eB3, eB4, eB5⟩, cB, iB1, iB2, iB3, iB4, iB5, dB1, dB2, dB3⟩ := id hB
  obtain ⟨⟨eC1, eC2, eC3, eC4, eC5⟩, cC⟩ := id hC
  obtain ⟨⟨eE1, eE2, eE3, eE4⟩, cE, iE1, iE2, iE3, iE4⟩ := id hE
  obtain ⟨⟨eF1, eF2, eF3, eF4, eF5, eF6, eF7⟩, cF, iF1, iF2, iF3, iF4, iF5, iF6, dF1, dF2⟩ := id hF
  obtain ⟨kF, hkF, ekF⟩ := id cF
  obtain ⟨kB, hkB, ekB⟩ := id cB
  obtain ⟨kC, hkC, ekC⟩ := id cC
  have g := cn_toInt cF (by decide)
  have h2 : inb (nI i) 60 := n_inb (by omega) (by decide)
  have h3 := n_tn (k := i) (by omega)
  have hp : bw (σ.1 29 i) (σ.1 21 3) = true := by rw [bw_iff]; exact ⟨(iF1 i).1, dF1 i hi⟩
  have hpi : inb (σ.1 29 i) 12 := bw_in hp (cn_toInt cE (by decide)).2
  have a1 := s_whatOn ekB hkB (σ.1 23 (σ.1 29 i).toNatClampNeg) (σ.1 34 i)
  have a2 := m_placeAt (τ := τ) (eB1 ▸ ekB) hkB (σ.1 23 (σ.1 29 i).toNatClampNeg) (σ.1 34 i)
  rw [← eB2, ← eB3, ← eB4, ← eB5] at a2
  simp only [P_isAllowed, M_isUnallowed, ← eF2, ← eF3, ← eF4, ← eF7, ← eE3, ← eA4, if_pos h2, h3, if_pos hpi, a1, a2, g_hasPlace, h2k, Option.bind_some, Bool.not_true, Bool.not_false, Bool.false_eq_true, if_true, if_false, eq_self, not_true, not_false_iff, sub_add]
  have hgd := iF3 i
  rcases fnd_at (fun s => decide (σ.1 7 s = σ.1 23 (σ.1 29 i).toNatClampNeg) && bl (σ.1 34 i) (σ.1 9 s) (σ.1 10 s)) (σ.1 8) (-9) kB 0 with ⟨j, j1, j2, j3, j4, j5⟩ | ⟨j1, j2⟩
  · have e : whS kB (σ.1 7) (σ.1 8) (σ.1 9) (σ.1 10) (σ.1 23 (σ.1 29 i).toNatClampNeg) (σ.1 34 i) = σ.1 8 j := j5
    rw [e]
    have hj : (j : Int) < (σ.1 6 4).toInt := by rw [ekB, n_ti (by omega)]; omega
    have hb : bw (σ.1 8 j) (σ.1 1 4) = true := by rw [bw_iff]; exact ⟨(iB2 j).1, dB1 j hj⟩
    have hbi : inb (σ.1 8 j) 16 := bw_in hb (cn_toInt cA1 (by decide)).2
    have h0 : (0 : Int32) ≤ σ.1 8 j := by rw [n_le, n_0]; exact (iB2 j).1
    obtain ⟨V, v1, v2, v3⟩ := x_bar hG (g := σ.1 31 i) ⟨hgd.1, by omega⟩ (σ.1 2 (σ.1 8 j).toNatClampNeg) (σ.1 34 i)
    have c1 := s_hasOn ekC hkC (σ.1 23 (σ.1 29 i).toNatClampNeg) (σ.1 2 (σ.1 8 j).toNatClampNeg) (σ.1 34 i)
    have c2 := m_isLic (τ := τ) (eC1 ▸ ekC) hkC (σ.1 23 (σ.1 29 i).toNatClampNeg) (σ.1 2 (σ.1 8 j).toNatClampNeg) (σ.1 34 i)
    rw [← eC2, ← eC3, ← eC4, ← eC5] at c2
    simp only [hb, if_pos hbi, h0, v1, v2, c1, c2, Option.bind_some, Bool.not_true, Bool.not_false, Bool.false_eq_true, if_true, if_false, eq_self, not_true, not_false_iff, sub_add]
    by_cases q2 : V = 2
    · subst q2
      simp only [c01.2.2.2.2.2.1, Option.bind_some, Bool.not_true, Bool.not_false, Bool.false_eq_true, if_true, if_false, eq_self, not_true, not_false_iff, sub_add]
      cases hoS kC (σ.1 12) (σ.1 13) (σ.1 14) (σ.1 15) (σ.1 23 (σ.1 29 i).toNatClampNeg) (σ.1 2 (σ.1 8 j).toNatClampNeg) (σ.1 34 i) <;> simp
    · by_cases q1 : V = 1
      · subst q1
        simp only [q2, ne10, Option.bind_some, Bool.not_true, Bool.not_false, Bool.false_eq_true, if_true, if_false, eq_self, not_true, not_false_iff, sub_add]
        exact ⟨_, rfl, rfl⟩
      · by_cases q0 : V = 0
        · simp only [q0, q1, q2, c01.2.1, c01.2.2.1, Option.bind_some, Bool.not_true, Bool.not_false, Bool.false_eq_true, if_true, if_false, eq_self, not_true, not_false_iff, sub_add]
          exact ⟨_, rfl, rfl⟩
        · exfalso
          rcases bar3 v2 with w | w | w
          · exact q0 w
          · exact q1 w
          · exact q2 w
  · have e : whS kB (σ.1 7) (σ.1 8) (σ.1 9) (σ.1 10) (σ.1 23 (σ.1 29 i).toNatClampNeg) (σ.1 34 i) = -9 := j2
    rw [e]
    have hb : bw (-9) (σ.1 1 4) = false := by
      cases hq : bw (-9) (σ.1 1 4)
      · rfl
      · have := bw_toInt hq
        rw [k_m9] at this
        omega
    simp only [hb, m9.2, Option.bind_some, Bool.not_true, Bool.not_false, Bool.false_eq_true, if_true, if_false, eq_self, not_true, not_false_iff, sub_add]
    exact ⟨_, rfl, rfl⟩
set_option maxHeartbeats 2000000 in
theorem op_unallowed {n : Nat} {σ τ : St} (h : Rel0 n σ τ) (x1 : Int32) : ∃ r : Int32, P_unallowed x1 σ = some r ∧ M_unallowed x1 τ = some r := by
  obtain ⟨hA, hB, hC, hD, hE, hS, hF, hG, hH, hI, hJ, hK, hL, hM⟩ := id h
  obtain ⟨⟨eE1, eE2, eE3, eE4⟩, cE, iE1, iE2, iE3, iE4⟩ := id hE
  obtain ⟨⟨eF1, eF2, eF3, eF4, eF5, eF6, eF7⟩, cF, iF1, iF2, iF3, iF4, iF5, iF6, dF1, dF2⟩ := id hF
  obtain ⟨kF, hkF, ekF⟩ := id cF
  simp only [P_unallowed, M_unallowed, g_packsHas, g_noPack, ← eE1, Option.bind_some, Bool.not_true, Bool.not_false, Bool.false_eq_true, if_true, if_false, eq_self, not_true, not_false_iff, sub_add]
  cases hx : bw x1 (σ.1 21 3)
  · simp only [Option.bind_some, Bool.not_true, Bool.not_false, Bool.false_eq_true, if_true, if_false, eq_self, not_true, not_false_iff, sub_add]; exact ⟨_, rfl, rfl⟩
  · have hin : inb x1 12 := bw_in hx (cn_toInt cE (by decide)).2
    simp only [Option.bind_some, Bool.not_true, Bool.not_false, Bool.false_eq_true, if_true, if_false, eq_self, not_true, not_false_iff, sub_add]
    have hk := n_ti (k := kF) (by omega)
    have key : ∀ m i (a : Int32), i ≤ kF → kF - i < m → ∃ r : Int32, P_unallowed_L17 x1 σ m a (nI i) = some r ∧ M_unallowed_L14 x1 τ m a (nI i) = some r := by
      intro m
      induction m with
      | zero => intro i a _ hm; omega
      | succ m ih =>
        intro i a hi hm
        rcases Nat.lt_or_ge i kF with hlt | hge
        · have h1 := n_cmp hlt (by omega)
          have h2 : inb (nI i) 60 := n_inb (by omega) (by decide)
          have h3 := n_tn (k := i) (by omega)
          by_cases q1 : σ.1 29 i = x1
          · by_cases q2 : σ.1 30 i = 2
            · obtain ⟨B, b1, b2⟩ := y_allowed h (i := i) (by rw [ekF, hk]; omega) q2
              rw [q1] at b1
              simp only [P_unallowed_L17, M_unallowed_L14, ekF, ← eF1, ← eF2, h1, if_pos h2, h3, if_pos hin, q1, q2, b1, b2, nI_1, a0, Option.bind_some, Bool.not_true, Bool.not_false, Bool.false_eq_true, if_true, if_false, eq_self, not_true, not_false_iff, sub_add]
              cases B
              · simp only [Option.bind_some, Bool.not_true, Bool.not_false, Bool.false_eq_true, if_true, if_false, eq_self, not_true, not_false_iff, sub_add]; exact ih (i + 1) (a + 1) (by omega) (by omega)
              · simp only [Option.bind_some, Bool.not_true, Bool.not_false, Bool.false_eq_true, if_true, if_false, eq_self, not_true, not_false_iff, sub_add]; exact ih (i + 1) a (by omega) (by omega)
            · have hm2 : M_isUnallowed (nI i) τ = some false := by
                have hp : bw (σ.1 29 i) (σ.1 21 3) = true := by rw [q1]; exact hx
                have hpi : inb (σ.1 29 i) 12 := by rw [q1]; exact hin
                obtain ⟨hA, hB, _⟩ := id h
                obtain ⟨⟨eB1, eB2, eB3, eB4, eB5⟩, cB, _⟩ := id hB
                obtain ⟨kB, hkB, ekB⟩ := id cB
                have a2 := m_placeAt (τ := τ) (eB1 ▸ ekB) hkB (σ.1 23 (σ.1 29 i).toNatClampNeg) (σ.1 34 i)
                simp only [M_isUnallowed, ← eF2, ← eF3, ← eF7, ← eE3, if_pos h2, h3, if_pos hpi, a2, q2, Option.bind_some, Bool.not_true, Bool.not_false, Bool.false_eq_true, if_true, if_false, eq_self, not_true, not_false_iff, sub_add]
              simp only [P_unallowed_L17, M_unallowed_L14, ekF, ← eF1, ← eF2, h1, if_pos h2, h3, q1, q2, hm2, nI_1, a0, Option.bind_some, Bool.not_true, Bool.not_false, Bool.false_eq_true, if_true, if_false, eq_self, not_true, not_false_iff, sub_add]
              exact ih (i + 1) a (by omega) (by omega)
          · simp only [P_unallowed_L17, M_unallowed_L14, ekF, ← eF1, ← eF2, h1, if_pos h2, h3, q1, nI_1, a0, Option.bind_some, Bool.not_true, Bool.not_false, Bool.false_eq_true, if_true, if_false, eq_self, not_true, not_false_iff, sub_add]
            exact ih (i + 1) a (by omega) (by omega)
        · have e : i = kF := by omega
          subst e
          simp only [P_unallowed_L17, M_unallowed_L14, ekF, ← eF1, n_cmpE, if_true]
          exact ⟨_, rfl, rfl⟩
    exact key FU 0 0 (Nat.zero_le _) (fu_gt (by omega))
theorem wide_mul {a b : Int32} (h1 : 0 ≤ a.toInt ∧ a.toInt ≤ 99) (h2 : 0 ≤ b.toInt ∧ b.toInt ≤ 999) : Int32.toInt64 (a * b) = Int32.toInt64 a * Int32.toInt64 b := by
  have h3 : 0 ≤ a.toInt * b.toInt := Int.mul_nonneg h1.1 h2.1
  have h4 : a.toInt * b.toInt ≤ 99 * 999 := Int.mul_le_mul h1.2 h2.2 h2.1 (by decide)
  apply Int64.toInt_inj.mp
  rw [Int32.toInt_toInt64, n_mul (by omega) (by omega), Int64.toInt_mul, Int32.toInt_toInt64, Int32.toInt_toInt64]
  exact (n_bm6 (by omega) (by omega)).symm
theorem mxL0 (x : Int64) : (if x < 0 then some (0 : Int64) else some x) = some (mxL 0 x) := by
  unfold mxL
  by_cases q : x < 0
  · rw [if_pos q]
    by_cases w : x < 0
    · rw [if_pos w]
    · exact absurd q w
  · rw [if_neg q]
    by_cases w : x < 0
    · exact absurd w q
    · rw [if_neg w]
set_option maxHeartbeats 2000000 in
theorem op_credit {n : Nat} {σ τ : St} (h : Rel0 n σ τ) (x1 x2 : Int32) : ∃ r : Int64, P_credit x1 x2 σ = some r ∧ M_credit x1 x2 τ = some r := by
  obtain ⟨hA, hB, hC, hD, hE, hS, hF, hG, hH, hI, hJ, hK, hL, hM⟩ := id h
  obtain ⟨⟨eE1, eE2, eE3, eE4⟩, cE, iE1, iE2, iE3, iE4⟩ := id hE
  obtain ⟨⟨eS1, eS2, eS3, eS4⟩, ⟨kS, hkS, cS⟩, nS, iS⟩ := id hS
  obtain ⟨⟨eF1, eF2, eF3, eF4, eF5, eF6, eF7⟩, cF, iF1, iF2, iF3, iF4, iF5, iF6, dF1, dF2⟩ := id hF
  obtain ⟨kF, hkF, ekF⟩ := id cF
  have s1 := s_sentBy cS (by omega) x1 x2
  have s2 := m_sentFor (τ := τ) (eS1 ▸ cS) (by omega) x1 x2
  rw [← eS2, ← eS3, ← eS4] at s2
  simp only [P_credit, M_credit, M_lost, g_below, g_packsHas, g_noPack, g_isDay, ← eE1, Option.bind_some, Bool.not_true, Bool.not_false, Bool.false_eq_true, if_true, if_false, eq_self, not_true, not_false_iff, sub_add]
  cases hx : bw x1 (σ.1 21 3)
  · simp only [Option.bind_some, Bool.not_true, Bool.not_false, Bool.false_eq_true, if_true, if_false, eq_self, not_true, not_false_iff, sub_add]; exact ⟨_, rfl, rfl⟩
  · cases hy : bw x2 10000
    · simp only [Option.bind_some, Bool.not_true, Bool.not_false, Bool.false_eq_true, if_true, if_false, eq_self, not_true, not_false_iff, sub_add]; exact ⟨_, rfl, rfl⟩
    · simp only [Option.bind_some, Bool.not_true, Bool.not_false, Bool.false_eq_true, if_true, if_false, eq_self, not_true, not_false_iff, sub_add]
      have key : ∀ m i (a : Int64), i ≤ kF → kF - i < m → ∃ r : Int64, P_credit_L30 x1 x2 σ m a (nI i) = some r ∧ M_credit_L24 x1 x2 τ m a (nI i) = some r := by
        intro m
        induction m with
        | zero => intro i a _ hm; omega
        | succ m ih =>
          intro i a hi hm
          rcases Nat.lt_or_ge i kF with hlt | hge
          · have h1 := n_cmp hlt (by omega)
            have h2 : inb (nI i) 60 := n_inb (by omega) (by decide)
            have h3 := n_tn (k := i) (by omega)
            obtain ⟨V, X, v1, v2, v3, v4⟩ := x_cust hG (l := 1) (by decide) (σ.1 34 i)
            have hd : (x2 < σ.1 34 i) ↔ ¬ (σ.1 34 i ≤ x2) := by rw [n_lt, n_le]; omega
            simp only [P_credit_L30, M_credit_L24, Ledger_worth, ekF, ← eF1, ← eF2, ← eF3, ← eF5, ← eF6, ← eF7, h1, if_pos h2, h3, v1, v2, v3, hd, wide_mul (iF4 i) (iF5 i), nI_1, Option.bind_some, Bool.not_true, Bool.not_false, Bool.false_eq_true, if_true, if_false, eq_self, not_true, not_false_iff, sub_add]
            by_cases q1 : σ.1 29 i = x1
            · by_cases q2 : σ.1 30 i = 0
              · by_cases q3 : σ.1 34 i ≤ x2
                · simp only [q1, q2, q3, Option.bind_some, Bool.not_true, Bool.not_false, Bool.false_eq_true, if_true, if_false, eq_self, not_true, not_false_iff, sub_add]; exact ih (i + 1) _ (by omega) (by omega)
                · simp only [q1, q2, q3, Option.bind_some, Bool.not_true, Bool.not_false, Bool.false_eq_true, if_true, if_false, eq_self, not_true, not_false_iff, sub_add]; exact ih (i + 1) _ (by omega) (by omega)
              · simp only [q1, q2, Option.bind_some, Bool.not_true, Bool.not_false, Bool.false_eq_true, if_true, if_false, eq_self, not_true, not_false_iff, sub_add]; exact ih (i + 1) _ (by omega) (by omega)
            · simp only [q1, Option.bind_some, Bool.not_true, Bool.not_false, Bool.false_eq_true, if_true, if_false, eq_self, not_true, not_false_iff, sub_add]; exact ih (i + 1) _ (by omega) (by omega)
          · have e : i = kF := by omega
            subst e
            simp only [P_credit_L30, M_credit_L24, ekF, ← eF1, n_cmpE, if_true, s1, s2, Option.bind_some, mxL0]
            exact ⟨_, rfl, rfl⟩
      exact key FU 0 0 (Nat.zero_le _) (fu_gt (by omega))
