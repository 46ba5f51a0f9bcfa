theorem z_entP {σ : St} {k : Nat} {x1 x3 x4 x5 f : Int32} (hp : bw x1 (σ.1 21 3) = true) (hx : bw (nI k) 4 = true) (hz : bw x3 3 = true) (a1 : Sheets_takingFault (nI k) x3 x4 ((4 : Int64) * Int32.toInt64 x5) (wI σ 0 13 0) = some f) (hf : ¬ f = 0) : P_entries x1 (nI k) x3 x4 x5 σ = some (-10 - f, wI (wI σ 0 13 0) 0 13 f) := by
  have e21 : (wI σ 0 13 0).1 21 3 = σ.1 21 3 := rfl
  unfold P_entries
  rw [g_packsHas, e21, hp, Option.bind_some, if_pos rfl, g_sheetsHas, hx, Option.bind_some, if_pos rfl, g_below, hz, Option.bind_some, if_pos rfl, a1, Option.bind_some, if_neg hf]
  rfl
theorem z_entM {τ : St} {k : Nat} {x1 x3 x4 x5 f : Int32} (hp : bw x1 (τ.1 0 13) = true) (hx : bw (nI k) 4 = true) (a2 : M_barred (nI k) x3 x4 ((4 : Int64) * Int32.toInt64 x5) τ = some (-10 - f, wI τ 0 0 f)) (a3 : ¬ (0 : Int32) ≤ -10 - f) : M_entries x1 (nI k) x3 x4 x5 τ = some (-10 - f, wI τ 0 0 f) := by
  unfold M_entries
  rw [g_noPack, hp, Option.bind_some, if_neg (by decide), g_noSheet, hx, Option.bind_some, if_neg (by decide), a2, Option.bind_some, if_neg a3]
theorem z_entP0 {σ : St} {k : Nat} {x1 x3 x4 x5 : Int32} (hp : bw x1 (σ.1 21 3) = true) (hx : bw (nI k) 4 = true) (hz : bw x3 3 = true) (a1 : Sheets_takingFault (nI k) x3 x4 ((4 : Int64) * Int32.toInt64 x5) (wI σ 0 13 0) = some 0) {r : Int32} {σ' : St} (t : P_enterRows_L20 x1 (nI k) x4 x5 (σ.1 28 6) FU 0 (wI (wI σ 0 13 0) 35 4 0) = some (r, σ')) : P_entries x1 (nI k) x3 x4 x5 σ = some (r, σ') := by
  have e21 : (wI σ 0 13 0).1 21 3 = σ.1 21 3 := rfl
  have e28 : (wI σ 0 13 0).1 28 6 = σ.1 28 6 := rfl
  unfold P_entries
  rw [g_packsHas, e21, hp, Option.bind_some, if_pos rfl, g_sheetsHas, hx, Option.bind_some, if_pos rfl, g_below, hz, Option.bind_some, if_pos rfl, a1, Option.bind_some, if_pos rfl]
  unfold P_enterRows
  rw [e28, t, Option.bind_some]
theorem z_entM0 {τ : St} {k : Nat} {x1 x3 x4 x5 : Int32} (hp : bw x1 (τ.1 0 13) = true) (hx : bw (nI k) 4 = true) (a2 : M_barred (nI k) x3 x4 ((4 : Int64) * Int32.toInt64 x5) τ = some (0, τ)) {r : Int32} {τ' : St} (t : M_entries_L55 x1 (nI k) x4 x5 (τ.1 0 17) FU 0 τ = some (r, τ')) : M_entries x1 (nI k) x3 x4 x5 τ = some (r, τ') := by
  unfold M_entries
  rw [g_noPack, hp, Option.bind_some, if_neg (by decide), g_noSheet, hx, Option.bind_some, if_neg (by decide), a2, Option.bind_some, if_pos (Int32.le_refl _)]
  exact t
theorem z_barL {τ : St} {x1 x2 x3 : Int32} {c : Int64} (hz : bw x2 3 = false) : M_barred x1 x2 x3 c τ = some (-2, wI τ 0 0 0) := by
  unfold M_barred
  rw [g_in2, hz, Option.bind_some, if_neg (by decide)]
  rfl
theorem z_nn2 : ¬ (0 : Int32) ≤ -2 := by decide
set_option maxHeartbeats 2000000 in
theorem op_entries {n : Nat} {σ τ : St} (h : Rel0 n σ τ) (x1 x2 x3 x4 x5 : Int32) : ∃ r σ' τ', P_entries x1 x2 x3 x4 x5 σ = some (r, σ') ∧ M_entries x1 x2 x3 x4 x5 τ = some (r, τ') ∧ Rel0 n σ' τ' ∧ Sx σ σ' := by
  obtain ⟨hA, hB, hC, hD, hE, hS, hF, hG, hH, hI, hJ, hK, hL, hM⟩ := id h
  obtain ⟨⟨eE1, eE2, eE3, eE4⟩, cE, iE1, iE2, iE3, iE4⟩ := id hE
  obtain ⟨⟨eF1, eF2, eF3, eF4, eF5, eF6, eF7⟩, cF, iF1, iF2, iF3, iF4, iF5, iF6, dF1, dF2⟩ := id hF
  obtain ⟨eL1, eL2, dL⟩ := id hL
  obtain ⟨eM1, eM2⟩ := id hM
  have e21 : (wI σ 0 13 0).1 21 3 = σ.1 21 3 := rfl
  cases hx : bw x1 (σ.1 21 3)
  · have eP : P_entries x1 x2 x3 x4 x5 σ = some (-1, wI σ 0 13 0) := by
      unfold P_entries
      rw [g_packsHas, e21, hx, Option.bind_some, if_neg (by decide)]
    have eM : M_entries x1 x2 x3 x4 x5 τ = some (-1, wI τ 0 0 0) := by
      unfold M_entries
      rw [g_noPack, ← eE1, hx, Option.bind_some, if_pos (by decide)]
      rfl
    exact ⟨_, _, _, eP, eM, ⟨hA, hB, hC, hD, hE, hS, hF, hG, hH, hI, hJ, hK, hL, ⟨rfl, eM2⟩⟩, ⟨Or.inr ⟨rfl, rfl, rfl, rfl, rfl, rfl, rfl, rfl, rfl, rfl, fun _ _ => rfl⟩, Or.inr ⟨rfl, rfl, rfl, rfl, rfl⟩, Or.inr ⟨rfl, rfl, rfl, rfl, rfl, rfl, rfl, rfl, rfl, fun _ _ => rfl⟩⟩⟩
  · cases hy : bw x2 4
    · have eP : P_entries x1 x2 x3 x4 x5 σ = some (-1, wI σ 0 13 0) := by
        unfold P_entries
        rw [g_packsHas, e21, hx, Option.bind_some, if_pos rfl, g_sheetsHas, hy, Option.bind_some, if_neg (by decide)]
      have eM : M_entries x1 x2 x3 x4 x5 τ = some (-1, wI τ 0 0 0) := by
        unfold M_entries
        rw [g_noPack, ← eE1, hx, Option.bind_some, if_neg (by decide), g_noSheet, hy, Option.bind_some, if_pos (by decide)]
        rfl
      exact ⟨_, _, _, eP, eM, ⟨hA, hB, hC, hD, hE, hS, hF, hG, hH, hI, hJ, hK, hL, ⟨rfl, eM2⟩⟩, ⟨Or.inr ⟨rfl, rfl, rfl, rfl, rfl, rfl, rfl, rfl, rfl, rfl, fun _ _ => rfl⟩, Or.inr ⟨rfl, rfl, rfl, rfl, rfl⟩, Or.inr ⟨rfl, rfl, rfl, rfl, rfl, rfl, rfl, rfl, rfl, fun _ _ => rfl⟩⟩⟩
    · cases hz : bw x3 3
      · have eP : P_entries x1 x2 x3 x4 x5 σ = some (-2, wI σ 0 13 0) := by
          unfold P_entries
          rw [g_packsHas, e21, hx, Option.bind_some, if_pos rfl, g_sheetsHas, hy, Option.bind_some, if_pos rfl, g_below, hz, Option.bind_some, if_neg (by decide)]
        have eM : M_entries x1 x2 x3 x4 x5 τ = some (-2, wI τ 0 0 0) := by
          unfold M_entries
          rw [g_noPack, ← eE1, hx, Option.bind_some, if_neg (by decide), g_noSheet, hy, Option.bind_some, if_neg (by decide), z_barL hz, Option.bind_some, if_neg z_nn2]
        exact ⟨_, _, _, eP, eM, ⟨hA, hB, hC, hD, hE, hS, hF, hG, hH, hI, hJ, hK, hL, ⟨rfl, eM2⟩⟩, ⟨Or.inr ⟨rfl, rfl, rfl, rfl, rfl, rfl, rfl, rfl, rfl, rfl, fun _ _ => rfl⟩, Or.inr ⟨rfl, rfl, rfl, rfl, rfl⟩, Or.inr ⟨rfl, rfl, rfl, rfl, rfl, rfl, rfl, rfl, rfl, fun _ _ => rfl⟩⟩⟩
      · obtain ⟨k, rfl, hk, hk2⟩ := bw_of hy
        rw [k_4] at hk
        have hr5 := n_rng x5
        have m4 : ((4 : Int64) * Int32.toInt64 x5).toInt = 4 * x5.toInt := by
          rw [Int64.toInt_mul, Int32.toInt_toInt64]
          have : (4 : Int64).toInt = 4 := by decide
          rw [this]
          exact n_bm6 (by omega) (by omega)
        rcases y_take hL (k := k) (by omega) hz x4 (4 * Int32.toInt64 x5) (by rw [m4]; omega) 0 with ⟨a1, a2, s, hs, a3, a4, a5, a6⟩ | ⟨f, hf, a1, a2, a3⟩
        · rw [m4] at a5 a6
          obtain ⟨i, hi, rfl⟩ := nI_of (x := x4) (by rw [n_lt, n_0]; omega)
          obtain ⟨N, hN, rfl⟩ := nI_of (x := x5) (by rw [n_lt, n_0]; omega)
          rw [n_ti hi, n_ti hN] at a6
          obtain ⟨r, σ', τ', t1, t2, t3, t4, t5⟩ := y_rows (k := k) (i := i) (N := N) (by omega) (by omega) (b := σ.1 28 6) cF x1 FU 0 n (wI (wI σ 0 13 0) 35 4 0) τ ⟨hA, hB, hC, hD, hE, hS, hF, hG, hH, hI, hJ, hK, hL, trivial⟩ hx (Int.le_refl _) (Nat.zero_le _) (fu_gt (by omega))
          have eP := z_entP0 hx hy hz a1 t1
          have eM := z_entM0 (by rw [← eE1]; exact hx) hy a2 (by rw [← eF1]; exact t2)
          refine ⟨_, _, _, eP, eM, rel_swap (rel_flt t3 0) ⟨?_, ?_⟩, sx_trans (b := wI (wI σ 0 13 0) 35 4 0) ⟨Or.inl rfl, Or.inr ⟨rfl, rfl, rfl, rfl, rfl⟩, Or.inr ⟨rfl, rfl, rfl, rfl, rfl, rfl, rfl, rfl, rfl, fun _ _ => rfl⟩⟩ (sx_frL t4 rfl) rfl rfl⟩
          · rw [t4 0 (by omega)]; rfl
          · rw [t4 0 (by omega)]
            show σ.1 0 14 = τ'.1 0 78
            rw [t5 78 (by decide)]; exact eM2
        · exact ⟨_, _, _, z_entP hx hy hz a1 hf, z_entM (by rw [← eE1]; exact hx) hy a2 a3, ⟨hA, hB, hC, hD, hE, hS, hF, hG, hH, hI, hJ, hK, hL, ⟨rfl, eM2⟩⟩, ⟨Or.inr ⟨rfl, rfl, rfl, rfl, rfl, rfl, rfl, rfl, rfl, rfl, fun _ _ => rfl⟩, Or.inr ⟨rfl, rfl, rfl, rfl, rfl⟩, Or.inr ⟨rfl, rfl, rfl, rfl, rfl, rfl, rfl, rfl, rfl, fun _ _ => rfl⟩⟩⟩
theorem z_roundP {σ : St} {k : Nat} {x2 x3 x4 f : Int32} (hx : bw (nI k) 4 = true) (hz : bw x2 3 = true) (a1 : Sheets_takingFault (nI k) x2 x3 (Int32.toInt64 x4) (wI σ 0 13 0) = some f) (hf : ¬ f = 0) : P_round (nI k) x2 x3 x4 σ = some (-10 - f, wI (wI σ 0 13 0) 0 13 f) := by
  unfold P_round
  rw [g_sheetsHas, hx, Option.bind_some, if_pos rfl, g_below, hz, Option.bind_some, if_pos rfl, a1, Option.bind_some, if_neg hf]
  rfl
theorem z_roundM {τ : St} {k : Nat} {x2 x3 x4 f : Int32} (hx : bw (nI k) 4 = true) (a2 : M_barred (nI k) x2 x3 (Int32.toInt64 x4) τ = some (-10 - f, wI τ 0 0 f)) (a3 : ¬ (0 : Int32) ≤ -10 - f) : M_round (nI k) x2 x3 x4 τ = some (-10 - f, wI τ 0 0 f) := by
  unfold M_round
  rw [g_noSheet, hx, Option.bind_some, if_neg (by decide), a2, Option.bind_some, if_neg a3]
theorem z_roundP0 {σ : St} {k : Nat} {x2 x3 x4 : Int32} (hx : bw (nI k) 4 = true) (hz : bw x2 3 = true) (a1 : Sheets_takingFault (nI k) x2 x3 (Int32.toInt64 x4) (wI σ 0 13 0) = some 0) : P_round (nI k) x2 x3 x4 σ = if bl x4 1 8 = true then P_round_L75 (nI k) x3 x4 (wI σ 0 13 0) FU 0 else some (-2, wI σ 0 13 0) := by
  unfold P_round
  rw [g_sheetsHas, hx, Option.bind_some, if_pos rfl, g_below, hz, Option.bind_some, if_pos rfl, a1, Option.bind_some, if_pos rfl, bl_split]
theorem z_roundM0 {τ : St} {k : Nat} {x2 x3 x4 : Int32} (hx : bw (nI k) 4 = true) (a2 : M_barred (nI k) x2 x3 (Int32.toInt64 x4) τ = some (0, τ)) : M_round (nI k) x2 x3 x4 τ = if bl x4 1 8 = true then M_round_L56 (nI k) x3 x4 τ FU 0 else some (-2, wI τ 0 0 0) := by
  unfold M_round
  rw [g_noSheet, hx, Option.bind_some, if_neg (by decide), a2, Option.bind_some, if_pos (Int32.le_refl _), g_in18, Option.bind_some]
  cases bl x4 1 8
  · rw [if_neg (by decide), if_neg (by decide)]; rfl
  · rw [if_pos rfl, if_pos rfl]
theorem z_rP1 {σ : St} {x1 x3 : Int32} {N : Nat} (h8 : nI N ≤ 8) : P_round_L75 x1 x3 (nI N) σ 1 (nI N) = if (10 : Int32) ≤ σ.1 64 2 then some (-4, σ) else if inb (σ.1 64 2) 10 then Rounds_add_L36 x1 x3 (nI N) FU 0 (wI σ 65 (Int32.toNatClampNeg (σ.1 64 2)) (nI N)) else none := by
  rw [P_round_L75, if_pos (n_cmpE N)]
  unfold Rounds_add
  by_cases q : (10 : Int32) ≤ σ.1 64 2
  · rw [if_pos q, if_pos q]; rfl
  · rw [if_neg q, if_neg q, if_pos h8]
    by_cases w : inb (σ.1 64 2) 10
    · simp only [if_pos w]
      cases Rounds_add_L36 x1 x3 (nI N) FU 0 (wI σ 65 (Int32.toNatClampNeg (σ.1 64 2)) (nI N)) with
      | none => rfl
      | some v => rfl
    · simp only [if_neg w]; rfl
theorem z_rM1 {τ : St} {x1 x3 : Int32} {N : Nat} : M_round_L56 x1 x3 (nI N) τ 1 (nI N) = if τ.1 0 60 = 10 then some (-4, wI τ 0 0 0) else if inb (τ.1 0 60) 10 then M_round_L126 x1 x3 (nI N) FU 0 (wI τ 48 (Int32.toNatClampNeg (τ.1 0 60)) (nI N)) else none := by
  rw [M_round_L56, if_pos (n_cmpE N)]
  rfl
set_option maxHeartbeats 2000000 in
theorem op_round {n : Nat} {σ τ : St} (h : Rel0 n σ τ) (x1 x2 x3 x4 : Int32) : ∃ r σ' τ', P_round x1 x2 x3 x4 σ = some (r, σ') ∧ M_round x1 x2 x3 x4 τ = some (r, τ') ∧ Rel0 n σ' τ' ∧ Sx σ σ' := by
  obtain ⟨hA, hB, hC, hD, hE, hS, hF, hG, hH, hI, hJ, hK, hL, hM⟩ := id h
  obtain ⟨⟨eJ1, eJ2, eJ3⟩, cJ, iJ⟩ := id hJ
  obtain ⟨eL1, eL2, dL⟩ := id hL
  obtain ⟨eM1, eM2⟩ := id hM
  cases hx : bw x1 4
  · have eP : P_round x1 x2 x3 x4 σ = some (-1, wI σ 0 13 0) := by
      unfold P_round
      rw [g_sheetsHas, hx, Option.bind_some, if_neg (by decide)]
    have eM : M_round x1 x2 x3 x4 τ = some (-1, wI τ 0 0 0) := by
      unfold M_round
      rw [g_noSheet, hx, Option.bind_some, if_pos (by decide)]
      rfl
    exact ⟨_, _, _, eP, eM, ⟨hA, hB, hC, hD, hE, hS, hF, hG, hH, hI, hJ, hK, hL, ⟨rfl, eM2⟩⟩, ⟨Or.inr ⟨rfl, rfl, rfl, rfl, rfl, rfl, rfl, rfl, rfl, rfl, fun _ _ => rfl⟩, Or.inr ⟨rfl, rfl, rfl, rfl, rfl⟩, Or.inr ⟨rfl, rfl, rfl, rfl, rfl, rfl, rfl, rfl, rfl, fun _ _ => rfl⟩⟩⟩
  · cases hz : bw x2 3
    · have eP : P_round x1 x2 x3 x4 σ = some (-2, wI σ 0 13 0) := by
        unfold P_round
        rw [g_sheetsHas, hx, Option.bind_some, if_pos rfl, g_below, hz, Option.bind_some, if_neg (by decide)]
      have eM : M_round x1 x2 x3 x4 τ = some (-2, wI τ 0 0 0) := by
        unfold M_round
        rw [g_noSheet, hx, Option.bind_some, if_neg (by decide), z_barL hz, Option.bind_some, if_neg z_nn2]
      exact ⟨_, _, _, eP, eM, ⟨hA, hB, hC, hD, hE, hS, hF, hG, hH, hI, hJ, hK, hL, ⟨rfl, eM2⟩⟩, ⟨Or.inr ⟨rfl, rfl, rfl, rfl, rfl, rfl, rfl, rfl, rfl, rfl, fun _ _ => rfl⟩, Or.inr ⟨rfl, rfl, rfl, rfl, rfl⟩, Or.inr ⟨rfl, rfl, rfl, rfl, rfl, rfl, rfl, rfl, rfl, fun _ _ => rfl⟩⟩⟩
    · obtain ⟨k, rfl, hk, hk2⟩ := bw_of hx
      rw [k_4] at hk
      have hr5 := n_rng x4
      rcases y_take hL (k := k) (by omega) hz x3 (Int32.toInt64 x4) (by rw [Int32.toInt_toInt64]; omega) 0 with ⟨a1, a2, s, hs, a3, a4, a5, a6⟩ | ⟨f, hf, a1, a2, a3⟩
      · rw [Int32.toInt_toInt64] at a5 a6
        rw [z_roundP0 hx hz a1, z_roundM0 hx a2]
        cases hy : bl x4 1 8
        · rw [if_neg (by decide), if_neg (by decide)]
          exact ⟨_, _, _, rfl, rfl, ⟨hA, hB, hC, hD, hE, hS, hF, hG, hH, hI, hJ, hK, hL, ⟨rfl, eM2⟩⟩, ⟨Or.inr ⟨rfl, rfl, rfl, rfl, rfl, rfl, rfl, rfl, rfl, rfl, fun _ _ => rfl⟩, Or.inr ⟨rfl, rfl, rfl, rfl, rfl⟩, Or.inr ⟨rfl, rfl, rfl, rfl, rfl, rfl, rfl, rfl, rfl, fun _ _ => rfl⟩⟩⟩
        · rw [if_pos rfl, if_pos rfl]
          have h8 := bl_iff.mp hy
          rw [k_1, k_8] at h8
          obtain ⟨a, ha, rfl⟩ := nI_of (x := x3) (by rw [n_lt, n_0]; omega)
          obtain ⟨N, hN, rfl⟩ := nI_of (x := x4) (by rw [n_lt, n_0]; omega)
          rw [n_ti ha, n_ti hN] at a6
          rw [n_ti hN] at h8
          have hX : RelX True n (wI σ 0 13 0) τ := ⟨hA, hB, hC, hD, hE, hS, hF, hG, hH, hI, hJ, hK, hL, trivial⟩
          rcases y_round1 (k := k) (a := a) (N := N) (by omega) (by omega) hX FU 0 (Nat.zero_le _) (fu_gt (by omega)) with ⟨b1, b2⟩ | ⟨b1, b2⟩
          · exact ⟨_, _, _, b1, b2, ⟨hA, hB, hC, hD, hE, hS, hF, hG, hH, hI, hJ, hK, hL, ⟨rfl, eM2⟩⟩, ⟨Or.inr ⟨rfl, rfl, rfl, rfl, rfl, rfl, rfl, rfl, rfl, rfl, fun _ _ => rfl⟩, Or.inr ⟨rfl, rfl, rfl, rfl, rfl⟩, Or.inr ⟨rfl, rfl, rfl, rfl, rfl, rfl, rfl, rfl, rfl, fun _ _ => rfl⟩⟩⟩
          · have hN8 : nI N ≤ 8 := by rw [n_le, k_8, n_ti hN]; omega
            rw [z_rP1 hN8] at b1
            rw [z_rM1, ← eJ1] at b2
            have e64 : (wI σ 0 13 0).1 64 2 = σ.1 64 2 := rfl
            rw [e64] at b1
            obtain ⟨r, hr, er⟩ := id cJ
            by_cases hq : σ.1 64 2 = 10
            · rw [if_pos (by rw [hq]; decide)] at b1
              rw [if_pos hq] at b2
              exact ⟨_, _, _, b1, b2, ⟨hA, hB, hC, hD, hE, hS, hF, hG, hH, hI, hJ, hK, hL, ⟨rfl, eM2⟩⟩, ⟨Or.inr ⟨rfl, rfl, rfl, rfl, rfl, rfl, rfl, rfl, rfl, rfl, fun _ _ => rfl⟩, Or.inr ⟨rfl, rfl, rfl, rfl, rfl⟩, Or.inr ⟨rfl, rfl, rfl, rfl, rfl, rfl, rfl, rfl, rfl, fun _ _ => rfl⟩⟩⟩
            · have hq2 : ¬ (10 : Int32) ≤ σ.1 64 2 := by
                rw [er, n_le, k_10, n_ti (by omega)]
                rw [er, n_eq, k_10, n_ti (by omega)] at hq
                omega
              have hr10 : r < 10 := by rw [er, n_eq, k_10, n_ti (by omega)] at hq; omega
              have hin := cn_in cJ (by decide) (by rw [l10]; exact hq)
              rw [if_neg hq2, if_pos hin] at b1
              rw [if_neg hq, if_pos hin] at b2
              have hX2 : RelX True n (wI (wI σ 0 13 0) 65 (Int32.toNatClampNeg (σ.1 64 2)) (nI N)) (wI τ 48 (Int32.toNatClampNeg (σ.1 64 2)) (nI N)) := ⟨hA, hB, hC, hD, hE, hS, hF, hG, hH, hI, ⟨⟨eJ1, upd_eq eJ2 _ _, eJ3⟩, cJ, ir_upd iJ (by rw [n_ti hN]; omega) (by rw [n_ti hN]; omega)⟩, hK, hL, trivial⟩
              obtain ⟨σ', τ', t1, t2, t3, t4, t5, t6⟩ := y_round2 (k := k) (a := a) (N := N) (r := r) (by omega) (by omega) (by omega) hr10 FU 0 n _ _ hX2 er (Nat.zero_le _) (fu_gt (by omega))
              refine ⟨_, _, _, b1.trans t1, b2.trans t2, rel_swap (rel_flt t3 0) ⟨?_, ?_⟩, sx_trans (b := wI (wI σ 0 13 0) 65 (Int32.toNatClampNeg (σ.1 64 2)) (nI N)) ⟨Or.inr ⟨rfl, rfl, rfl, rfl, rfl, rfl, rfl, rfl, rfl, rfl, fun _ _ => rfl⟩, Or.inr ⟨rfl, rfl, rfl, rfl, rfl⟩, Or.inr ⟨rfl, rfl, rfl, rfl, rfl, rfl, rfl, rfl, rfl, fun _ _ => rfl⟩⟩ t4 rfl rfl⟩
              · rw [t5]; rfl
              · rw [t5]
                show σ.1 0 14 = τ'.1 0 78
                rw [t6 78 (by decide)]; exact eM2
      · exact ⟨_, _, _, z_roundP hx hz a1 hf, z_roundM hx a2 a3, ⟨hA, hB, hC, hD, hE, hS, hF, hG, hH, hI, hJ, hK, hL, ⟨rfl, eM2⟩⟩, ⟨Or.inr ⟨rfl, rfl, rfl, rfl, rfl, rfl, rfl, rfl, rfl, rfl, fun _ _ => rfl⟩, Or.inr ⟨rfl, rfl, rfl, rfl, rfl⟩, Or.inr ⟨rfl, rfl, rfl, rfl, rfl, rfl, rfl, rfl, rfl, fun _ _ => rfl⟩⟩⟩
