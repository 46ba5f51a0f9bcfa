theorem bw_in {x b : Int32} {m : Nat} (h : bw x b = true) (hb : b.toInt ≤ m) : inb x m := by
  rw [n_in]
  have := bw_toInt h
  omega
theorem bl_iff {x l u : Int32} : bl x l u = true ↔ l.toInt ≤ x.toInt ∧ x.toInt ≤ u.toInt := by simp only [bl, decide_eq_true_eq, n_le]
theorem bl_split {x l u : Int32} {α : Type} (A B : α) : (if x < l then B else if x ≤ u then A else B) = if bl x l u = true then A else B := by
  simp only [bl_iff, n_lt, n_le]
  split
  · rw [if_neg (by omega)]
  · split
    · rw [if_pos (by omega)]
    · rw [if_neg (by omega)]
theorem bl_split2 {x l u : Int32} {α : Type} (A B : α) : (if x < l then B else if u < x then B else A) = if bl x l u = true then A else B := by
  simp only [bl_iff, n_lt, n_le]
  split
  · rw [if_neg (by omega)]
  · split
    · rw [if_neg (by omega)]
    · rw [if_pos (by omega)]
theorem g_inGain (x : Int32) (σ : St) : M_in (Int32.toInt64 x) (-99999) 99999 σ = some (bl x (-99999) 99999) := g_inL σ (by decide) (by decide)
theorem g_in1u (x : Int32) (σ : St) : M_in (Int32.toInt64 x) 1 9999 σ = some (bl x 1 9999) := g_inL σ (by decide) (by decide)
theorem g_in199 (x : Int32) (σ : St) : M_in (Int32.toInt64 x) 1 99 σ = some (bl x 1 99) := g_inL σ (by decide) (by decide)
theorem g_in1v (x : Int32) (σ : St) : M_in (Int32.toInt64 x) 1 99999 σ = some (bl x 1 99999) := g_inL σ (by decide) (by decide)
theorem g_in18 (x : Int32) (σ : St) : M_in (Int32.toInt64 x) 1 8 σ = some (bl x 1 8) := g_inL σ (by decide) (by decide)
set_option maxHeartbeats 2000000 in
theorem op_offer {n : Nat} {σ τ : St} (h : Rel0 n σ τ) (x1 x2 x3 x4 x5 : Int32) : ∃ r σ' τ', P_offer x1 x2 x3 x4 x5 σ = some (r, σ') ∧ M_offer x1 x2 x3 x4 x5 τ = some (r, τ') ∧ Rel0 n σ' τ' ∧ Sx σ σ' := by
  obtain ⟨hA, hB, hC, hD, hE, hS, hF, hG, hH, hI, hJ, hK, hL, hM⟩ := id h
  obtain ⟨⟨eA1, eA2, eA3, eA4, eA5, eA6, eA7⟩, ⟨cA1, cA2, cA3⟩, iA1, iA2, iA3, iA4⟩ := id hA
  obtain ⟨⟨eJ1, eJ2, eJ3⟩, cJ, iJ⟩ := id hJ
  obtain ⟨⟨eK1, eK2, eK3, eK4, eK5, eK6⟩, cK, iK1, iK2, iK3, iK4, iK5, dK⟩ := id hK
  simp only [P_offer, M_offer, Offers_add, bl_split, g_below, g_hasBand, g_noBand, g_hasHouse, g_noHouse, g_roundsHas, g_noRound, g_inC, g_inGain, ← eK1, ← eA2, ← eA3, ← eJ1, Option.bind_some, Bool.not_true, Bool.not_false, Bool.false_eq_true, if_true, if_false, eq_self, not_true, not_false_iff, sub_add]
  cases hx : bw x1 (σ.1 1 5)
  · simp only [Option.bind_some, Bool.not_true, Bool.not_false, Bool.false_eq_true, if_true, if_false, eq_self, not_true, not_false_iff, sub_add]
    exact ⟨_, _, _, rfl, rfl, h, sx_refl σ⟩
  · cases hy : bw x2 (σ.1 1 6)
    · simp only [Option.bind_some, Bool.not_true, Bool.not_false, Bool.false_eq_true, if_true, if_false, eq_self, not_true, not_false_iff, sub_add]
      exact ⟨_, _, _, rfl, rfl, h, sx_refl σ⟩
    · cases hw : bw x3 (σ.1 64 2)
      · simp only [Option.bind_some, Bool.not_true, Bool.not_false, Bool.false_eq_true, if_true, if_false, eq_self, not_true, not_false_iff, sub_add]
        exact ⟨_, _, _, rfl, rfl, h, sx_refl σ⟩
      · cases hz : bw x4 1000000
        · simp only [Option.bind_some, Bool.not_true, Bool.not_false, Bool.false_eq_true, if_true, if_false, eq_self, not_true, not_false_iff, sub_add]
          exact ⟨_, _, _, rfl, rfl, h, sx_refl σ⟩
        · cases hg : bl x5 (-99999) 99999
          · simp only [Option.bind_some, Bool.not_true, Bool.not_false, Bool.false_eq_true, if_true, if_false, eq_self, not_true, not_false_iff, sub_add]
            exact ⟨_, _, _, rfl, rfl, h, sx_refl σ⟩
          · have hf := cn_full cK (by decide)
            rw [l9] at hf
            by_cases hq : σ.1 67 6 = 9
            · simp only [hf, hq, Option.bind_some, Bool.not_true, Bool.not_false, Bool.false_eq_true, if_true, if_false, eq_self, not_true, not_false_iff, sub_add]
              exact ⟨_, _, _, rfl, rfl, h, sx_refl σ⟩
            · have hin := cn_in cK (by decide) (by rw [l9]; exact hq)
              have hup := cn_up cK (by decide) (by rw [l9]; exact hq)
              have hT := cn_upT cK (by decide)
              have h1 := bw_toInt hx
              have h2 := bw_toInt hy
              have h3 := bw_toInt hw
              have h4 := bw_toInt hz
              have h5 := bl_iff.mp hg
              have g1 := cn_toInt cA2 (by decide)
              have g2 := cn_toInt cA3 (by decide)
              have g3 := cn_toInt cJ (by decide)
              rw [k_1000000] at h4
              rw [k_m99999, k_99999] at h5
              simp only [hf, hq, if_pos hin, Option.bind_some, Bool.not_true, Bool.not_false, Bool.false_eq_true, if_true, if_false, eq_self, not_true, not_false_iff, sub_add]
              exact ⟨_, _, _, rfl, rfl, ⟨hA, hB, hC, hD, hE, hS, hF, hG, hH, hI, hJ, ⟨⟨rfl, upd_eq eK2 _ _, upd_eq eK3 _ _, upd_eq eK4 _ _, upd_eq eK5 _ _, upd_eq eK6 _ _⟩, hup, ir_upd iK1 h1.1 (by omega), ir_upd iK2 h2.1 (by omega), ir_upd iK3 h3.1 (by omega), ir_upd iK4 h4.1 (by omega), ir_upd iK5 (by omega) (by omega), d_upd cK dK hT h2.2⟩, hL, hM⟩, ⟨Or.inr ⟨rfl, rfl, rfl, rfl, rfl, rfl, rfl, rfl, rfl, rfl, fun _ _ => rfl⟩, Or.inr ⟨rfl, rfl, rfl, rfl, rfl⟩, Or.inl rfl⟩⟩
set_option maxHeartbeats 2000000 in
theorem op_door {n : Nat} {σ τ : St} (h : Rel0 n σ τ) (x1 x2 x3 x4 x5 : Int32) : ∃ r σ' τ', P_door x1 x2 x3 x4 x5 σ = some (r, σ') ∧ M_door x1 x2 x3 x4 x5 τ = some (r, τ') ∧ Rel0 n σ' τ' ∧ Sx σ σ' := by
  obtain ⟨hA, hB, hC, hD, hE, hS, hF, hG, hH, hI, hJ, hK, hL, hM⟩ := id h
  obtain ⟨⟨eA1, eA2, eA3, eA4, eA5, eA6, eA7⟩, ⟨cA1, cA2, cA3⟩, iA1, iA2, iA3, iA4⟩ := id hA
  obtain ⟨⟨eE1, eE2, eE3, eE4⟩, cE, iE1, iE2, iE3, iE4⟩ := id hE
  obtain ⟨⟨eH1, eH2, eH3, eH4, eH5, eH6, eH7, eH8⟩, cH, iH1, iH2, iH3, iH4, iH5, iH6, dH⟩ := id hH
  simp only [P_door, M_door, Debts_add, bl_split2, g_below, g_hasPlace, g_noPlace, g_packsHas, g_noPack, g_in2, g_in1u, g_isDay, ← eH1, ← eA1, ← eE1, ← eE3, Option.bind_some, Bool.not_true, Bool.not_false, Bool.false_eq_true, if_true, if_false, eq_self, not_true, not_false_iff, sub_add]
  cases hx : bw x2 (σ.1 1 4)
  · simp only [Option.bind_some, Bool.not_true, Bool.not_false, Bool.false_eq_true, if_true, if_false, eq_self, not_true, not_false_iff, sub_add]
    exact ⟨_, _, _, rfl, rfl, h, sx_refl σ⟩
  · cases hy : bw x3 (σ.1 21 3)
    · simp only [Option.bind_some, Bool.not_true, Bool.not_false, Bool.false_eq_true, if_true, if_false, eq_self, not_true, not_false_iff, sub_add]
      exact ⟨_, _, _, rfl, rfl, h, sx_refl σ⟩
    · cases hw : bw x1 3
      · simp only [Option.bind_some, Bool.not_true, Bool.not_false, Bool.false_eq_true, if_true, if_false, eq_self, not_true, not_false_iff, sub_add]
        exact ⟨_, _, _, rfl, rfl, h, sx_refl σ⟩
      · cases hg : bl x4 1 9999
        · simp only [Option.bind_some, Bool.not_true, Bool.not_false, Bool.false_eq_true, if_true, if_false, eq_self, not_true, not_false_iff, sub_add]
          exact ⟨_, _, _, rfl, rfl, h, sx_refl σ⟩
        · cases hz : bw x5 10000
          · simp only [Option.bind_some, Bool.not_true, Bool.not_false, Bool.false_eq_true, if_true, if_false, eq_self, not_true, not_false_iff, sub_add]
            exact ⟨_, _, _, rfl, rfl, h, sx_refl σ⟩
          · have g2 := cn_toInt cE (by decide)
            have hi3 : inb x3 12 := bw_in hy g2.2
            have hf := cn_full cH (by decide)
            rw [l20] at hf
            by_cases hq : σ.1 49 7 = 20
            · simp only [hf, hq, if_pos hi3, Option.bind_some, Bool.not_true, Bool.not_false, Bool.false_eq_true, if_true, if_false, eq_self, not_true, not_false_iff, sub_add]
              exact ⟨_, _, _, rfl, rfl, h, sx_refl σ⟩
            · have hin := cn_in cH (by decide) (by rw [l20]; exact hq)
              have hup := cn_up cH (by decide) (by rw [l20]; exact hq)
              have hT := cn_upT cH (by decide)
              have h1 := bw_toInt hx
              have h2 := bw_toInt hy
              have h3 := bw_toInt hw
              have h4 := bl_iff.mp hg
              have h5 := bw_toInt hz
              have g1 := cn_toInt cA1 (by decide)
              rw [k_3] at h3
              rw [k_1, k_9999] at h4
              rw [n_10000] at h5
              simp only [hf, hq, if_pos hin, if_pos hi3, Option.bind_some, Bool.not_true, Bool.not_false, Bool.false_eq_true, if_true, if_false, eq_self, not_true, not_false_iff, sub_add]
              refine ⟨_, _, _, rfl, rfl, ⟨hA, hB, hC, hD, hE, hS, hF, hG, ⟨⟨rfl, upd_eq eH2 _ _, upd_eq eH3 _ _, upd_eq eH4 _ _, upd_eq eH5 _ _, upd_eq eH6 _ _, upd_eq eH7 _ _, upd_eq eH8 _ _⟩, hup, ir_upd iH1 h3.1 (by omega), ir_upd iH2 h1.1 (by omega), ir_upd iH3 h2.1 (by omega), ir_upd iH4 (by omega) (by omega), ir_upd iH5 h5.1 (by omega), fun i => ?_, fun i hi => ⟨d_upd cH (fun j hj => (dH j hj).1) hT h1.2 i hi, d_upd cH (fun j hj => (dH j hj).2) hT h2.2 i hi⟩⟩, hI, hJ, hK, hL, hM⟩, ⟨Or.inr ⟨rfl, rfl, rfl, rfl, rfl, rfl, rfl, rfl, rfl, rfl, fun _ _ => rfl⟩, Or.inr ⟨rfl, rfl, rfl, rfl, rfl⟩, Or.inr ⟨rfl, rfl, rfl, rfl, rfl, rfl, rfl, rfl, rfl, fun _ _ => rfl⟩⟩⟩
              show 0 ≤ (upd (σ.1 55) _ 0 i).toInt ∧ (upd (σ.1 55) _ 0 i).toInt ≤ (upd (σ.1 53) _ x4 i).toInt
              rw [upd_at, upd_at]
              split
              · rw [n_0]; omega
              · exact iH6 i
theorem in100 {a b : Nat} (ha : a < 10) (hb : b < 10) : inb (nI (10 * a + b)) 100 := n_inb (by omega) (by decide)
set_option maxHeartbeats 2000000 in
theorem op_owe {n : Nat} {σ τ : St} (h : Rel0 n σ τ) (x1 x2 x3 : Int32) : ∃ r σ' τ', P_owe x1 x2 x3 σ = some (r, σ') ∧ M_owe x1 x2 x3 τ = some (r, τ') ∧ Rel0 n σ' τ' ∧ Sx σ σ' := by
  obtain ⟨hA, hB, hC, hD, hE, hS, hF, hG, hH, hI, hJ, hK, hL, hM⟩ := id h
  obtain ⟨⟨eI1, eI2, eI3⟩, iI1, iI2, iI3⟩ := id hI
  simp only [P_owe, M_owe, P_areParties, Owed_change, g_below, g_isParty, g_inV, Option.bind_some, Bool.not_true, Bool.not_false, Bool.false_eq_true, if_true, if_false, eq_self, not_true, not_false_iff, sub_add]
  cases hx : bw x1 10
  · simp only [Option.bind_some, Bool.not_true, Bool.not_false, Bool.false_eq_true, if_true, if_false, eq_self, not_true, not_false_iff, sub_add]
    exact ⟨_, _, _, rfl, rfl, h, sx_refl σ⟩
  · cases hy : bw x2 10
    · simp only [Option.bind_some, Bool.not_true, Bool.not_false, Bool.false_eq_true, if_true, if_false, eq_self, not_true, not_false_iff, sub_add]
      exact ⟨_, _, _, rfl, rfl, h, sx_refl σ⟩
    · by_cases he : x1 = x2
      · simp only [he, Option.bind_some, Bool.not_true, Bool.not_false, Bool.false_eq_true, if_true, if_false, eq_self, not_true, not_false_iff, sub_add]
        exact ⟨_, _, _, rfl, rfl, h, sx_refl σ⟩
      · cases hz : bw x3 100000
        · simp only [he, Option.bind_some, Bool.not_true, Bool.not_false, Bool.false_eq_true, if_true, if_false, eq_self, not_true, not_false_iff, sub_add]
          exact ⟨_, _, _, rfl, rfl, h, sx_refl σ⟩
        · obtain ⟨a, b, ha, hb, rfl, rfl⟩ := idx2 hx hy
          have h3 := bw_toInt hz
          rw [k_100000] at h3
          simp only [he, idx10, idx10', if_pos (in100 ha hb), ← eI1, Option.bind_some, Bool.not_true, Bool.not_false, Bool.false_eq_true, if_true, if_false, eq_self, not_true, not_false_iff, sub_add]
          exact ⟨_, _, _, rfl, rfl, ⟨hA, hB, hC, hD, hE, hS, hF, hG, hH, ⟨⟨upd_eq eI1 _ _, eI2, eI3⟩, ir_upd iI1 h3.1 (by omega), iI2, iI3⟩, hJ, hK, hL, hM⟩, ⟨Or.inr ⟨rfl, rfl, rfl, rfl, rfl, rfl, rfl, rfl, rfl, rfl, fun _ _ => rfl⟩, Or.inl rfl, Or.inr ⟨rfl, rfl, rfl, rfl, rfl, rfl, rfl, rfl, rfl, fun _ _ => rfl⟩⟩⟩
set_option maxHeartbeats 2000000 in
theorem op_owes {n : Nat} {σ τ : St} (h : Rel0 n σ τ) (x1 x2 : Int32) : ∃ r : Int32, P_owes x1 x2 σ = some r ∧ M_owes x1 x2 τ = some r := by
  obtain ⟨hA, hB, hC, hD, hE, hS, hF, hG, hH, hI, hJ, hK, hL, hM⟩ := id h
  obtain ⟨⟨eI1, eI2, eI3⟩, iI1, iI2, iI3⟩ := id hI
  simp only [P_owes, M_owes, P_areParties, g_below, g_isParty, ← eI1, Option.bind_some, Bool.not_true, Bool.not_false, Bool.false_eq_true, if_true, if_false, eq_self, not_true, not_false_iff, sub_add]
  cases hx : bw x1 10
  · simp only [Option.bind_some, Bool.not_true, Bool.not_false, Bool.false_eq_true, if_true, if_false, eq_self, not_true, not_false_iff, sub_add]
    exact ⟨_, rfl, rfl⟩
  · cases hy : bw x2 10
    · simp only [Option.bind_some, Bool.not_true, Bool.not_false, Bool.false_eq_true, if_true, if_false, eq_self, not_true, not_false_iff, sub_add]
      exact ⟨_, rfl, rfl⟩
    · obtain ⟨a, b, ha, hb, rfl, rfl⟩ := idx2 hx hy
      simp only [idx10, idx10', if_pos (in100 ha hb), Option.bind_some, Bool.not_true, Bool.not_false, Bool.false_eq_true, if_true, if_false, eq_self, not_true, not_false_iff, sub_add]
      exact ⟨_, rfl, rfl⟩
theorem ne10 : ¬ (1 : Int32) = 0 := by decide
theorem bw2_0 : bw 0 2 = true := by decide
theorem bw2_1 : bw 1 2 = true := by decide
theorem bw2_of {x : Int32} (h0 : ¬ x = 0) (h1 : ¬ x = 1) : bw x 2 = false := by
  cases hq : bw x 2
  · rfl
  · have := bw_toInt hq
    rw [k_2] at this
    rw [n_eq, n_0] at h0
    rw [n_eq, k_1] at h1
    omega
set_option maxHeartbeats 2000000 in
theorem op_party {n : Nat} {σ τ : St} (h : Rel0 n σ τ) (x1 x2 x3 : Int32) : ∃ r σ' τ', P_party x1 x2 x3 σ = some (r, σ') ∧ M_party x1 x2 x3 τ = some (r, τ') ∧ Rel0 n σ' τ' ∧ Sx σ σ' := by
  obtain ⟨hA, hB, hC, hD, hE, hS, hF, hG, hH, hI, hJ, hK, hL, hM⟩ := id h
  obtain ⟨⟨eI1, eI2, eI3⟩, iI1, iI2, iI3⟩ := id hI
  simp only [P_party, M_party, Owed_changeCoin, Owed_changeRank, g_below, g_isParty, g_in1, g_inV, g_in2, Option.bind_some, Bool.not_true, Bool.not_false, Bool.false_eq_true, if_true, if_false, eq_self, not_true, not_false_iff, sub_add]
  cases hx : bw x1 10
  · simp only [Option.bind_some, Bool.not_true, Bool.not_false, Bool.false_eq_true, if_true, if_false, eq_self, not_true, not_false_iff, sub_add]
    exact ⟨_, _, _, rfl, rfl, h, sx_refl σ⟩
  · have hin : inb x1 10 := bw_in hx (by decide)
    by_cases h0 : x2 = 0
    · subst h0
      cases hz : bw x3 100000
      · simp only [bw2_0, show ¬ (0 : Int32) = 1 by decide, Option.bind_some, Bool.not_true, Bool.not_false, Bool.false_eq_true, if_true, if_false, eq_self, not_true, not_false_iff, sub_add]
        exact ⟨_, _, _, rfl, rfl, h, sx_refl σ⟩
      · have h3 := bw_toInt hz
        rw [k_100000] at h3
        simp only [bw2_0, if_pos hin, ← eI2, Option.bind_some, Bool.not_true, Bool.not_false, Bool.false_eq_true, if_true, if_false, eq_self, not_true, not_false_iff, sub_add]
        exact ⟨_, _, _, rfl, rfl, ⟨hA, hB, hC, hD, hE, hS, hF, hG, hH, ⟨⟨eI1, upd_eq eI2 _ _, eI3⟩, iI1, ir_upd iI2 h3.1 (by omega), iI3⟩, hJ, hK, hL, hM⟩, ⟨Or.inr ⟨rfl, rfl, rfl, rfl, rfl, rfl, rfl, rfl, rfl, rfl, fun _ _ => rfl⟩, Or.inl rfl, Or.inr ⟨rfl, rfl, rfl, rfl, rfl, rfl, rfl, rfl, rfl, fun _ _ => rfl⟩⟩⟩
    · by_cases h1 : x2 = 1
      · subst h1
        cases hz : bw x3 3
        · simp only [bw2_1, ne10, Option.bind_some, Bool.not_true, Bool.not_false, Bool.false_eq_true, if_true, if_false, eq_self, not_true, not_false_iff, sub_add]
          exact ⟨_, _, _, rfl, rfl, h, sx_refl σ⟩
        · have h3 := bw_toInt hz
          rw [k_3] at h3
          simp only [bw2_1, ne10, if_pos hin, ← eI3, Option.bind_some, Bool.not_true, Bool.not_false, Bool.false_eq_true, if_true, if_false, eq_self, not_true, not_false_iff, sub_add]
          exact ⟨_, _, _, rfl, rfl, ⟨hA, hB, hC, hD, hE, hS, hF, hG, hH, ⟨⟨eI1, eI2, upd_eq eI3 _ _⟩, iI1, iI2, ir_upd iI3 h3.1 (by omega)⟩, hJ, hK, hL, hM⟩, ⟨Or.inr ⟨rfl, rfl, rfl, rfl, rfl, rfl, rfl, rfl, rfl, rfl, fun _ _ => rfl⟩, Or.inl rfl, Or.inr ⟨rfl, rfl, rfl, rfl, rfl, rfl, rfl, rfl, rfl, fun _ _ => rfl⟩⟩⟩
      · simp only [bw2_of h0 h1, h0, h1, Option.bind_some, Bool.not_true, Bool.not_false, Bool.false_eq_true, if_true, if_false, eq_self, not_true, not_false_iff, sub_add]
        exact ⟨_, _, _, rfl, rfl, h, sx_refl σ⟩
set_option maxHeartbeats 2000000 in
theorem op_told {n : Nat} {σ τ : St} (h : Rel0 n σ τ) (x1 x2 : Int32) : ∃ r : Int32, P_told x1 x2 σ = some r ∧ M_told x1 x2 τ = some r := by
  obtain ⟨hA, hB, hC, hD, hE, hS, hF, hG, hH, hI, hJ, hK, hL, hM⟩ := id h
  obtain ⟨⟨eF1, eF2, eF3, eF4, eF5, eF6, eF7⟩, cF, iF1, iF2, iF3, iF4, iF5, iF6, dF1, dF2⟩ := id hF
  simp only [P_told, M_told, g_below, g_inP, ← eF1, ← eF2, ← eF3, ← eF4, ← eF5, ← eF6, ← eF7, Option.bind_some, Bool.not_true, Bool.not_false, Bool.false_eq_true, if_true, if_false, eq_self, not_true, not_false_iff, sub_add]
  cases hx : bw x1 (σ.1 28 6)
  · simp only [Option.bind_some, Bool.not_true, Bool.not_false, Bool.false_eq_true, if_true, if_false, eq_self, not_true, not_false_iff, sub_add]
    exact ⟨_, rfl, rfl⟩
  · have hin : inb x1 60 := bw_in hx (cn_toInt cF (by decide)).2
    simp only [if_pos hin, Option.bind_some, Bool.not_true, Bool.not_false, Bool.false_eq_true, if_true, if_false, eq_self, not_true, not_false_iff, sub_add]
    (repeat' split) <;> exact ⟨_, rfl, rfl⟩
set_option maxHeartbeats 2000000 in
theorem op_many {n : Nat} {σ τ : St} (h : Rel0 n σ τ) (x1 : Int32) : ∃ r : Int32, P_many x1 σ = some r ∧ M_many x1 τ = some r := by
  obtain ⟨hA, hB, hC, hD, hE, hS, hF, hG, hH, hI, hJ, hK, hL, hM⟩ := id h
  obtain ⟨⟨eA1, eA2, eA3, eA4, eA5, eA6, eA7⟩, ⟨cA1, cA2, cA3⟩, iA1, iA2, iA3, iA4⟩ := id hA
  obtain ⟨⟨eB1, eB2, eB3, eB4, eB5⟩, cB, iB1, iB2, iB3, iB4, iB5, dB1, dB2, dB3⟩ := id hB
  obtain ⟨⟨eE1, eE2, eE3, eE4⟩, cE, iE1, iE2, iE3, iE4⟩ := id hE
  obtain ⟨⟨eF1, eF2, eF3, eF4, eF5, eF6, eF7⟩, cF, iF1, iF2, iF3, iF4, iF5, iF6, dF1, dF2⟩ := id hF
  obtain ⟨⟨eG1, eG2, eG3, eG4, eG5⟩, cG, iG1, iG2, iG3, iG4, tG, ⟨eG6, cG2⟩, tG2⟩ := id hG
  obtain ⟨⟨eH1, eH2, eH3, eH4, eH5, eH6, eH7, eH8⟩, cH, iH1, iH2, iH3, iH4, iH5, iH6, dH⟩ := id hH
  obtain ⟨⟨eJ1, eJ2, eJ3⟩, cJ, iJ⟩ := id hJ
  obtain ⟨⟨eK1, eK2, eK3, eK4, eK5, eK6⟩, cK, iK1, iK2, iK3, iK4, iK5, dK⟩ := id hK
  simp only [P_many, M_many, ← eA1, ← eA2, ← eA3, ← eB1, ← eE1, ← eF1, ← eG1, ← eH1, ← eJ1, ← eK1, Option.bind_some, Bool.not_true, Bool.not_false, Bool.false_eq_true, if_true, if_false, eq_self, not_true, not_false_iff, sub_add]
  (repeat' split) <;> exact ⟨_, rfl, rfl⟩
set_option maxHeartbeats 2000000 in
theorem op_trace {n : Nat} {σ τ : St} (h : Rel0 n σ τ) : ∃ r : Int32, P_trace  σ = some r ∧ M_trace  τ = some r := by
  obtain ⟨hA, hB, hC, hD, hE, hS, hF, hG, hH, hI, hJ, hK, hL, hM⟩ := id h
  obtain ⟨eM1, eM2⟩ := id hM
  exact ⟨_, rfl, by simp only [M_trace, eM2]⟩
set_option maxHeartbeats 2000000 in
theorem op_fault {n : Nat} {σ τ : St} (h : Rel0 n σ τ) : ∃ r : Int32, P_fault  σ = some r ∧ M_fault  τ = some r := by
  obtain ⟨hA, hB, hC, hD, hE, hS, hF, hG, hH, hI, hJ, hK, hL, hM⟩ := id h
  obtain ⟨eM1, eM2⟩ := id hM
  exact ⟨_, rfl, by simp only [M_fault, eM1]⟩
set_option maxHeartbeats 2000000 in
theorem op_show {n : Nat} {σ τ : St} (h : Rel0 n σ τ) (x1 : Int32) : ∃ r σ' τ', P_show x1 σ = some (r, σ') ∧ M_show x1 τ = some (r, τ') ∧ Rel0 n σ' τ' ∧ Sx σ σ' := by
  obtain ⟨hA, hB, hC, hD, hE, hS, hF, hG, hH, hI, hJ, hK, hL, hM⟩ := id h
  obtain ⟨⟨eE1, eE2, eE3, eE4⟩, cE, iE1, iE2, iE3, iE4⟩ := id hE
  obtain ⟨eM1, eM2⟩ := id hM
  simp only [P_show, M_show, P_leave, M_traced, g_packsHas, g_noPack, ← eE1, ← eE2, ← eM2, Option.bind_some, Bool.not_true, Bool.not_false, Bool.false_eq_true, if_true, if_false, eq_self, not_true, not_false_iff, sub_add]
  cases hx : bw x1 (σ.1 21 3)
  · simp only [Option.bind_some, Bool.not_true, Bool.not_false, Bool.false_eq_true, if_true, if_false, eq_self, not_true, not_false_iff, sub_add]
    exact ⟨_, _, _, rfl, rfl, h, sx_refl σ⟩
  · have hin : inb x1 12 := bw_in hx (cn_toInt cE (by decide)).2
    have e9 : ∀ v i, (wI τ 0 78 v).1 9 i = σ.1 22 i := fun v i => by rw [eE2]; rfl
    simp only [if_pos hin, e9, Option.bind_some, Bool.not_true, Bool.not_false, Bool.false_eq_true, if_true, if_false, eq_self, not_true, not_false_iff, sub_add]
    by_cases hq : σ.1 22 (Int32.toNatClampNeg x1) = 2
    · simp only [hq, Option.bind_some, Bool.not_true, Bool.not_false, Bool.false_eq_true, if_true, if_false, eq_self, not_true, not_false_iff, sub_add]
      exact ⟨_, _, _, rfl, rfl, ⟨hA, hB, hC, hD, hE, hS, hF, hG, hH, hI, hJ, hK, hL, ⟨eM1, rfl⟩⟩, ⟨Or.inr ⟨rfl, rfl, rfl, rfl, rfl, rfl, rfl, rfl, rfl, rfl, fun _ _ => rfl⟩, Or.inr ⟨rfl, rfl, rfl, rfl, rfl⟩, Or.inr ⟨rfl, rfl, rfl, rfl, rfl, rfl, rfl, rfl, rfl, fun _ _ => rfl⟩⟩⟩
    · simp only [hq, Option.bind_some, Bool.not_true, Bool.not_false, Bool.false_eq_true, if_true, if_false, eq_self, not_true, not_false_iff, sub_add]
      exact ⟨_, _, _, rfl, rfl, ⟨hA, hB, hC, hD, hE, hS, hF, hG, hH, hI, hJ, hK, hL, ⟨eM1, rfl⟩⟩, ⟨Or.inr ⟨rfl, rfl, rfl, rfl, rfl, rfl, rfl, rfl, rfl, rfl, fun _ _ => rfl⟩, Or.inr ⟨rfl, rfl, rfl, rfl, rfl⟩, Or.inr ⟨rfl, rfl, rfl, rfl, rfl, rfl, rfl, rfl, rfl, fun _ _ => rfl⟩⟩⟩
set_option maxHeartbeats 2000000 in
theorem op_taken {n : Nat} {σ τ : St} (h : Rel0 n σ τ) (x1 x2 x3 : Int32) : ∃ r σ' τ', P_taken x1 x2 x3 σ = some (r, σ') ∧ M_taken x1 x2 x3 τ = some (r, τ') ∧ Rel0 n σ' τ' ∧ Sx σ σ' := by
  obtain ⟨hA, hB, hC, hD, hE, hS, hF, hG, hH, hI, hJ, hK, hL, hM⟩ := id h
  obtain ⟨⟨eE1, eE2, eE3, eE4⟩, cE, iE1, iE2, iE3, iE4⟩ := id hE
  obtain ⟨⟨eH1, eH2, eH3, eH4, eH5, eH6, eH7, eH8⟩, cH, iH1, iH2, iH3, iH4, iH5, iH6, dH⟩ := id hH
  obtain ⟨eM1, eM2⟩ := id hM
  have eh : (wI σ 0 13 0).1 49 7 = σ.1 49 7 := rfl
  have ek : (wI σ 0 13 0).1 21 3 = σ.1 21 3 := rfl
  simp only [P_taken, M_taken, P_isThere, P_faulted, M_refused, M_failed, g_below, g_packsHas, g_noPack, g_noDebt, g_in1, g_in2, eh, ek, ← eE1, ← eE2, ← eH1, ← eH2, Option.bind_some, Bool.not_true, Bool.not_false, Bool.false_eq_true, if_true, if_false, eq_self, not_true, not_false_iff, sub_add]
  cases hx : bw x1 2
  · simp only [Option.bind_some, Bool.not_true, Bool.not_false, Bool.false_eq_true, if_true, if_false, eq_self, not_true, not_false_iff, sub_add]
    exact ⟨_, _, _, rfl, rfl, ⟨hA, hB, hC, hD, hE, hS, hF, hG, hH, hI, hJ, hK, hL, ⟨rfl, eM2⟩⟩, ⟨Or.inr ⟨rfl, rfl, rfl, rfl, rfl, rfl, rfl, rfl, rfl, rfl, fun _ _ => rfl⟩, Or.inr ⟨rfl, rfl, rfl, rfl, rfl⟩, Or.inr ⟨rfl, rfl, rfl, rfl, rfl, rfl, rfl, rfl, rfl, fun _ _ => rfl⟩⟩⟩
  · cases hz : bw x3 3
    · simp only [Option.bind_some, Bool.not_true, Bool.not_false, Bool.false_eq_true, if_true, if_false, eq_self, not_true, not_false_iff, sub_add]
      exact ⟨_, _, _, rfl, rfl, ⟨hA, hB, hC, hD, hE, hS, hF, hG, hH, hI, hJ, hK, hL, ⟨rfl, eM2⟩⟩, ⟨Or.inr ⟨rfl, rfl, rfl, rfl, rfl, rfl, rfl, rfl, rfl, rfl, fun _ _ => rfl⟩, Or.inr ⟨rfl, rfl, rfl, rfl, rfl⟩, Or.inr ⟨rfl, rfl, rfl, rfl, rfl, rfl, rfl, rfl, rfl, fun _ _ => rfl⟩⟩⟩
    · by_cases h0 : x1 = 0
      · simp only [h0, Option.bind_some, Bool.not_true, Bool.not_false, Bool.false_eq_true, if_true, if_false, eq_self, not_true, not_false_iff, sub_add]
        cases hy : bw x2 (σ.1 21 3)
        · simp only [Option.bind_some, Bool.not_true, Bool.not_false, Bool.false_eq_true, if_true, if_false, eq_self, not_true, not_false_iff, sub_add]
          exact ⟨_, _, _, rfl, rfl, ⟨hA, hB, hC, hD, hE, hS, hF, hG, hH, hI, hJ, hK, hL, ⟨rfl, eM2⟩⟩, ⟨Or.inr ⟨rfl, rfl, rfl, rfl, rfl, rfl, rfl, rfl, rfl, rfl, fun _ _ => rfl⟩, Or.inr ⟨rfl, rfl, rfl, rfl, rfl⟩, Or.inr ⟨rfl, rfl, rfl, rfl, rfl, rfl, rfl, rfl, rfl, fun _ _ => rfl⟩⟩⟩
        · have hin : inb x2 12 := bw_in hy (cn_toInt cE (by decide)).2
          simp only [if_pos hin, Option.bind_some, Bool.not_true, Bool.not_false, Bool.false_eq_true, if_true, if_false, eq_self, not_true, not_false_iff, sub_add]
          by_cases hq : σ.1 22 (Int32.toNatClampNeg x2) < x3
          · simp only [hq, Option.bind_some, Bool.not_true, Bool.not_false, Bool.false_eq_true, if_true, if_false, eq_self, not_true, not_false_iff, sub_add]
            exact ⟨_, _, _, rfl, rfl, ⟨hA, hB, hC, hD, hE, hS, hF, hG, hH, hI, hJ, hK, hL, ⟨rfl, eM2⟩⟩, ⟨Or.inr ⟨rfl, rfl, rfl, rfl, rfl, rfl, rfl, rfl, rfl, rfl, fun _ _ => rfl⟩, Or.inr ⟨rfl, rfl, rfl, rfl, rfl⟩, Or.inr ⟨rfl, rfl, rfl, rfl, rfl, rfl, rfl, rfl, rfl, fun _ _ => rfl⟩⟩⟩
          · simp only [hq, Option.bind_some, Bool.not_true, Bool.not_false, Bool.false_eq_true, if_true, if_false, eq_self, not_true, not_false_iff, sub_add]
            exact ⟨_, _, _, rfl, rfl, ⟨hA, hB, hC, hD, hE, hS, hF, hG, hH, hI, hJ, hK, hL, ⟨rfl, eM2⟩⟩, ⟨Or.inr ⟨rfl, rfl, rfl, rfl, rfl, rfl, rfl, rfl, rfl, rfl, fun _ _ => rfl⟩, Or.inr ⟨rfl, rfl, rfl, rfl, rfl⟩, Or.inr ⟨rfl, rfl, rfl, rfl, rfl, rfl, rfl, rfl, rfl, fun _ _ => rfl⟩⟩⟩
      · simp only [h0, Option.bind_some, Bool.not_true, Bool.not_false, Bool.false_eq_true, if_true, if_false, eq_self, not_true, not_false_iff, sub_add]
        cases hy : bw x2 (σ.1 49 7)
        · simp only [Option.bind_some, Bool.not_true, Bool.not_false, Bool.false_eq_true, if_true, if_false, eq_self, not_true, not_false_iff, sub_add]
          exact ⟨_, _, _, rfl, rfl, ⟨hA, hB, hC, hD, hE, hS, hF, hG, hH, hI, hJ, hK, hL, ⟨rfl, eM2⟩⟩, ⟨Or.inr ⟨rfl, rfl, rfl, rfl, rfl, rfl, rfl, rfl, rfl, rfl, fun _ _ => rfl⟩, Or.inr ⟨rfl, rfl, rfl, rfl, rfl⟩, Or.inr ⟨rfl, rfl, rfl, rfl, rfl, rfl, rfl, rfl, rfl, fun _ _ => rfl⟩⟩⟩
        · have hin : inb x2 20 := bw_in hy (cn_toInt cH (by decide)).2
          simp only [if_pos hin, Option.bind_some, Bool.not_true, Bool.not_false, Bool.false_eq_true, if_true, if_false, eq_self, not_true, not_false_iff, sub_add]
          by_cases hq : σ.1 50 (Int32.toNatClampNeg x2) < x3
          · simp only [hq, Option.bind_some, Bool.not_true, Bool.not_false, Bool.false_eq_true, if_true, if_false, eq_self, not_true, not_false_iff, sub_add]
            exact ⟨_, _, _, rfl, rfl, ⟨hA, hB, hC, hD, hE, hS, hF, hG, hH, hI, hJ, hK, hL, ⟨rfl, eM2⟩⟩, ⟨Or.inr ⟨rfl, rfl, rfl, rfl, rfl, rfl, rfl, rfl, rfl, rfl, fun _ _ => rfl⟩, Or.inr ⟨rfl, rfl, rfl, rfl, rfl⟩, Or.inr ⟨rfl, rfl, rfl, rfl, rfl, rfl, rfl, rfl, rfl, fun _ _ => rfl⟩⟩⟩
          · simp only [hq, Option.bind_some, Bool.not_true, Bool.not_false, Bool.false_eq_true, if_true, if_false, eq_self, not_true, not_false_iff, sub_add]
            exact ⟨_, _, _, rfl, rfl, ⟨hA, hB, hC, hD, hE, hS, hF, hG, hH, hI, hJ, hK, hL, ⟨rfl, eM2⟩⟩, ⟨Or.inr ⟨rfl, rfl, rfl, rfl, rfl, rfl, rfl, rfl, rfl, rfl, fun _ _ => rfl⟩, Or.inr ⟨rfl, rfl, rfl, rfl, rfl⟩, Or.inr ⟨rfl, rfl, rfl, rfl, rfl, rfl, rfl, rfl, rfl, fun _ _ => rfl⟩⟩⟩
set_option maxHeartbeats 2000000 in
theorem op_lose {n : Nat} {σ τ : St} (h : Rel0 n σ τ) (x1 : Int32) : ∃ r σ' τ', P_lose x1 σ = some (r, σ') ∧ M_lose x1 τ = some (r, τ') ∧ Rel0 n σ' τ' ∧ Sx σ σ' := by
  obtain ⟨hA, hB, hC, hD, hE, hS, hF, hG, hH, hI, hJ, hK, hL, hM⟩ := id h
  obtain ⟨eL1, eL2, dL⟩ := id hL
  simp only [P_lose, M_lose, Sheets_isNothing, g_sheetsHas, g_noSheet, Option.bind_some, Bool.not_true, Bool.not_false, Bool.false_eq_true, if_true, if_false, eq_self, not_true, not_false_iff, sub_add]
  cases hx : bw x1 4
  · simp only [Option.bind_some, Bool.not_true, Bool.not_false, Bool.false_eq_true, if_true, if_false, eq_self, not_true, not_false_iff, sub_add]
    exact ⟨_, _, _, rfl, rfl, h, sx_refl σ⟩
  · have hin : inb x1 4 := bw_in hx (by decide)
    obtain ⟨k, rfl, hk, hk2⟩ := bw_of hx
    rw [k_4] at hk
    have hk4 : k < 4 := by omega
    have key : ∀ r : Int32, (∃ σ' τ', some (r, wI σ 77 (nI k).toNatClampNeg (-9)) = some (r, σ') ∧ some (r, wI τ 59 (nI k).toNatClampNeg (-1)) = some (r, τ') ∧ Rel0 n σ' τ' ∧ Sx σ σ') := by
      intro r
      refine ⟨_, _, rfl, rfl, ⟨hA, hB, hC, hD, hE, hS, hF, hG, hH, hI, hJ, hK, ⟨eL1, eL2, fun j hj => ⟨(dL j hj).1, ?_⟩⟩, hM⟩, ⟨Or.inr ⟨rfl, rfl, rfl, rfl, rfl, rfl, rfl, rfl, rfl, rfl, fun _ _ => rfl⟩, Or.inr ⟨rfl, rfl, rfl, rfl, rfl⟩, Or.inr ⟨rfl, rfl, rfl, rfl, rfl, rfl, rfl, rfl, rfl, fun _ _ => rfl⟩⟩⟩
      show (upd (σ.1 77) _ (-9) j = -9 ∧ upd (τ.1 59) _ (-1) j = -1) ∨ (upd (σ.1 77) _ (-9) j = upd (τ.1 59) _ (-1) j ∧ _)
      rw [upd_at, upd_at]
      by_cases hj2 : j = (nI k).toNatClampNeg
      · rw [if_pos hj2, if_pos hj2]; exact Or.inl ⟨rfl, rfl⟩
      · rw [if_neg hj2, if_neg hj2]
        have := (dL j hj).2
        rcases this with q | q
        · exact Or.inl q
        · refine Or.inr ⟨q.1, ?_⟩
          have e : ((wI σ 77 (nI k).toNatClampNeg (-9)).1 77 j) = σ.1 77 j := if_neg hj2
          rw [e]
          exact q.2
    have e0 : (nI k).toNatClampNeg = k := n_tn hk2
    rcases (dL k hk4).2 with ⟨q1, q2⟩ | ⟨q1, q2, q3⟩
    · have c1 : ¬ (0 : Int32) ≤ τ.1 59 (nI k).toNatClampNeg := by rw [e0, q2]; decide
      have c2 : σ.1 77 (nI k).toNatClampNeg = -9 := by rw [e0]; exact q1
      simp only [if_pos hin, c1, c2, Option.bind_some, Bool.not_true, Bool.not_false, Bool.false_eq_true, if_true, if_false, eq_self, not_true, not_false_iff, sub_add]
      obtain ⟨a, b, c⟩ := key 0
      exact ⟨_, a, b, c⟩
    · have c1 : (0 : Int32) ≤ τ.1 59 (nI k).toNatClampNeg := by rw [e0, ← q1, n_le, n_0]; exact q2
      have c2 : ¬ σ.1 77 (nI k).toNatClampNeg = -9 := by rw [e0, n_eq, k_m9]; omega
      simp only [if_pos hin, c1, c2, Option.bind_some, Bool.not_true, Bool.not_false, Bool.false_eq_true, if_true, if_false, eq_self, not_true, not_false_iff, sub_add]
      obtain ⟨a, b, c⟩ := key 1
      exact ⟨_, a, b, c⟩
