set_option maxHeartbeats 2000000 in
theorem op_day {n : Nat} {σ τ : St} (h : Rel0 n σ τ) (x1 x2 : Int32) : ∃ r : Int32, P_day x1 x2 σ = some r ∧ M_day x1 x2 τ = some r := by
  obtain ⟨hA, hB, hC, hD, hE, hS, hF, hG, hH, hI, hJ, hK, hL, hM⟩ := id h
  obtain ⟨⟨eA1, eA2, eA3, eA4, eA5, eA6, eA7⟩, ⟨cA1, cA2, cA3⟩, iA1, iA2, iA3, iA4⟩ := id hA
  obtain ⟨⟨eB1, eB2, eB3, eB4, eB5⟩, cB, iB1, iB2, iB3, iB4, iB5, dB1, dB2, dB3⟩ := id hB
  obtain ⟨kB, hkB, ekB⟩ := id cB
  have a1 := s_whatOn ekB hkB x1 x2
  have a2 := m_placeAt (τ := τ) (eB1 ▸ ekB) hkB x1 x2
  rw [← eB2, ← eB3, ← eB4, ← eB5] at a2
  simp only [P_day, M_day, g_below, g_hasBand, g_noBand, g_isDay, ← eA2, a1, a2, Option.bind_some, Bool.not_true, Bool.not_false, Bool.false_eq_true, if_true, if_false, eq_self, not_true, not_false_iff, sub_add]
  cases hx : bw x1 (σ.1 1 5)
  · simp only [Option.bind_some, Bool.not_true, Bool.not_false, Bool.false_eq_true, if_true, if_false, eq_self, not_true, not_false_iff, sub_add]; exact ⟨_, rfl, rfl⟩
  · cases hy : bw x2 10000
    · simp only [Option.bind_some, Bool.not_true, Bool.not_false, Bool.false_eq_true, if_true, if_false, eq_self, not_true, not_false_iff, sub_add]; exact ⟨_, rfl, rfl⟩
    · simp only [Option.bind_some, Bool.not_true, Bool.not_false, Bool.false_eq_true, if_true, if_false, eq_self, not_true, not_false_iff, sub_add]; exact ⟨_, rfl, rfl⟩
set_option maxHeartbeats 2000000 in
theorem op_holder {n : Nat} {σ τ : St} (h : Rel0 n σ τ) (x1 x2 : Int32) : ∃ r : Int32, P_holder x1 x2 σ = some r ∧ M_holder x1 x2 τ = some r := by
  obtain ⟨hA, hB, hC, hD, hE, hS, hF, hG, hH, hI, hJ, hK, hL, hM⟩ := id h
  obtain ⟨⟨eD1, eD2, eD3, eD4, eD5⟩, cD, iD1, iD2, iD3, iD4⟩ := id hD
  obtain ⟨⟨eJ1, eJ2, eJ3⟩, cJ, iJ⟩ := id hJ
  obtain ⟨kD, hkD, ekD⟩ := id cD
  have a1 := s_latestWho ekD hkD x1 x2
  have a2 := m_holderL (τ := τ) (eD1 ▸ ekD) hkD x1 x2
  rw [← eD2, ← eD3, ← eD4, ← eD5] at a2
  simp only [P_holder, M_holder, g_below, g_roundsHas, g_noRound, g_isDay, ← eJ1, a1, a2, Option.bind_some, Bool.not_true, Bool.not_false, Bool.false_eq_true, if_true, if_false, eq_self, not_true, not_false_iff, sub_add]
  cases hx : bw x1 (σ.1 64 2)
  · simp only [Option.bind_some, Bool.not_true, Bool.not_false, Bool.false_eq_true, if_true, if_false, eq_self, not_true, not_false_iff, sub_add]; exact ⟨_, rfl, rfl⟩
  · cases hy : bw x2 10000
    · simp only [Option.bind_some, Bool.not_true, Bool.not_false, Bool.false_eq_true, if_true, if_false, eq_self, not_true, not_false_iff, sub_add]; exact ⟨_, rfl, rfl⟩
    · simp only [Option.bind_some, Bool.not_true, Bool.not_false, Bool.false_eq_true, if_true, if_false, eq_self, not_true, not_false_iff, sub_add]; exact ⟨_, rfl, rfl⟩
set_option maxHeartbeats 2000000 in
theorem op_held {n : Nat} {σ τ : St} (h : Rel0 n σ τ) (x1 x2 x3 : Int32) : ∃ r : Int32, P_held x1 x2 x3 σ = some r ∧ M_held x1 x2 x3 τ = some r := by
  obtain ⟨hA, hB, hC, hD, hE, hS, hF, hG, hH, hI, hJ, hK, hL, hM⟩ := id h
  obtain ⟨⟨eE1, eE2, eE3, eE4⟩, cE, iE1, iE2, iE3, iE4⟩ := id hE
  obtain ⟨⟨eF1, eF2, eF3, eF4, eF5, eF6, eF7⟩, cF, iF1, iF2, iF3, iF4, iF5, iF6, dF1, dF2⟩ := id hF
  obtain ⟨kF, hkF, ekF⟩ := id cF
  have a1 := s_heldOn ekF hkF x1 x2 x3
  have a2 := m_heldOf (τ := τ) (eF1 ▸ ekF) hkF x1 x2 x3
  rw [← eF2, ← eF3, ← eF4, ← eF5, ← eF7] at a2
  simp only [P_held, M_held, g_below, g_packsHas, g_noPack, g_isGood, g_isDay, ← eE1, a1, a2, Option.bind_some, Bool.not_true, Bool.not_false, Bool.false_eq_true, if_true, if_false, eq_self, not_true, not_false_iff, sub_add]
  cases hx : bw x1 (σ.1 21 3)
  · simp only [Option.bind_some, Bool.not_true, Bool.not_false, Bool.false_eq_true, if_true, if_false, eq_self, not_true, not_false_iff, sub_add]; exact ⟨_, rfl, rfl⟩
  · cases hy : bw x2 8
    · simp only [Option.bind_some, Bool.not_true, Bool.not_false, Bool.false_eq_true, if_true, if_false, eq_self, not_true, not_false_iff, sub_add]; exact ⟨_, rfl, rfl⟩
    · cases hz : bw x3 10000
      · simp only [Option.bind_some, Bool.not_true, Bool.not_false, Bool.false_eq_true, if_true, if_false, eq_self, not_true, not_false_iff, sub_add]; exact ⟨_, rfl, rfl⟩
      · simp only [Option.bind_some, Bool.not_true, Bool.not_false, Bool.false_eq_true, if_true, if_false, eq_self, not_true, not_false_iff, sub_add]; exact ⟨_, rfl, rfl⟩
theorem shS_false {c : Nat} {wo fr to : Nat → Int32} {who f t : Int32} (h : shS c wo fr to who f t = false) : ∀ i, i < c → wo i = who → t.toInt < (fr i).toInt ∨ (to i).toInt < f.toInt := by
  intro i hi e
  unfold shS at h
  rcases fnd_at (fun s => decide (wo s = who) && (!decide (t < fr s) && !decide (to s < f))) (fun _ => true) false c 0 with ⟨j, h1, h2, h3, h4, h5⟩ | ⟨h1, h2⟩
  · rw [h5] at h; cases h
  · have := h1 i (Nat.zero_le _) (by omega)
    simp only [e, decide_true, Bool.true_and, Bool.and_eq_false_iff, Bool.not_eq_false', decide_eq_true_eq, n_lt] at this
    exact this
theorem rB_push {cp cb c : Int32} {wo wa fr to : Nat → Int32} {c' : Int32} {wo' wa' fr' to' : Nat → Int32} (h : rB cp cb c wo wa fr to c' wo' wa' fr' to') (hq : ¬ c = 40) {x1 x2 x3 x4 : Int32} (h1 : 0 ≤ x1.toInt ∧ x1.toInt ≤ 5) (h1b : x1.toInt < cb.toInt) (h2 : 0 ≤ x2.toInt ∧ x2.toInt < cp.toInt ∧ x2.toInt ≤ 15) (h3 : 0 ≤ x3.toInt ∧ x3.toInt ≤ x4.toInt ∧ x4.toInt ≤ 9999)
    (hs : ∀ i : Nat, (i : Int) < c.toInt → wo i = x1 → x4.toInt < (fr i).toInt ∨ (to i).toInt < x3.toInt) : rB cp cb (c + 1) (upd wo c.toNatClampNeg x1) (upd wa c.toNatClampNeg x2) (upd fr c.toNatClampNeg x3) (upd to c.toNatClampNeg x4) (c + 1) (upd wo' c.toNatClampNeg x1) (upd wa' c.toNatClampNeg x2) (upd fr' c.toNatClampNeg x3) (upd to' c.toNatClampNeg x4) := by
  obtain ⟨⟨e1, e2, e3, e4, e5⟩, c1, i1, i2, i3, i4, i5, d1, d2, d3⟩ := h
  subst e1; subst e2; subst e3; subst e4; subst e5
  have hup := cn_up c1 (by decide) (by rw [l40]; exact hq)
  have hT := cn_upT c1 (by decide)
  have hN : c.toNatClampNeg = c.toInt.toNat := rfl
  have g := cn_toInt c1 (by decide)
  refine ⟨⟨rfl, rfl, rfl, rfl, rfl⟩, hup, ir_upd i1 h1.1 h1.2, ir_upd i2 h2.1 h2.2.2, ir_upd i3 h3.1 (by omega), ir_upd i4 (by omega) (by omega), le_upd i5 h3.2.1, d_upd c1 d1 hT h2.2.1, ?_, d_upd c1 d3 hT h1b⟩
  intro i j hi hj hne he
  rw [upd_at, upd_at] at he
  rw [upd_at, upd_at, upd_at, upd_at]
  by_cases a : i = c.toNatClampNeg
  · by_cases b : j = c.toNatClampNeg
    · exact absurd (a.trans b.symm) hne
    · rw [if_pos a, if_neg b] at he
      rw [if_pos a, if_neg b, if_neg b, if_pos a]
      have := hs j (by omega) he.symm
      omega
  · by_cases b : j = c.toNatClampNeg
    · rw [if_neg a, if_pos b] at he
      rw [if_neg a, if_pos b, if_pos b, if_neg a]
      have := hs i (by omega) he
      omega
    · rw [if_neg a, if_neg b] at he
      rw [if_neg a, if_neg b, if_neg b, if_neg a]
      exact d2 i j (by omega) (by omega) hne he
set_option maxHeartbeats 2000000 in
theorem op_walk {n : Nat} {σ τ : St} (h : Rel0 n σ τ) (x1 x2 x3 x4 : Int32) : ∃ r σ' τ', P_walk x1 x2 x3 x4 σ = some (r, σ') ∧ M_walk x1 x2 x3 x4 τ = some (r, τ') ∧ Rel0 n σ' τ' ∧ Sx σ σ' := by
  obtain ⟨hA, hB, hC, hD, hE, hS, hF, hG, hH, hI, hJ, hK, hL, hM⟩ := id h
  obtain ⟨⟨eA1, eA2, eA3, eA4, eA5, eA6, eA7⟩, ⟨cA1, cA2, cA3⟩, iA1, iA2, iA3, iA4⟩ := id hA
  obtain ⟨⟨eB1, eB2, eB3, eB4, eB5⟩, cB, iB1, iB2, iB3, iB4, iB5, dB1, dB2, dB3⟩ := id hB
  obtain ⟨kB, hkB, ekB⟩ := id cB
  have a1 := s_sharesDay ekB hkB x1 x3 x4
  have a2 := m_walkL (τ := τ) (eB1 ▸ ekB) hkB x1 x2 x3 x4
  rw [← eB2, ← eB4, ← eB5] at a2
  have e64 : (wI σ 35 4 0).1 6 4 = σ.1 6 4 := rfl
  simp only [P_walk, M_walk, Spans_add_stays, g_below, g_hasBand, g_noBand, g_hasPlace, g_noPlace, g_pdays, g_mdays, ← eA2, ← eA1, a1, a2, e64, Option.bind_some, Bool.not_true, Bool.not_false, Bool.false_eq_true, if_true, if_false, eq_self, not_true, not_false_iff, sub_add]
  cases hx : bw x1 (σ.1 1 5)
  · simp only [Option.bind_some, Bool.not_true, Bool.not_false, Bool.false_eq_true, if_true, if_false, eq_self, not_true, not_false_iff, sub_add]
    exact ⟨_, _, _, rfl, rfl, h, sx_refl σ⟩
  · cases hy : bw x2 (σ.1 1 4)
    · simp only [Option.bind_some, Bool.not_true, Bool.not_false, Bool.false_eq_true, if_true, if_false, eq_self, not_true, not_false_iff, sub_add]
      exact ⟨_, _, _, rfl, rfl, h, sx_refl σ⟩
    · cases hz : bd x3 x4
      · simp only [Option.bind_some, Bool.not_true, Bool.not_false, Bool.false_eq_true, if_true, if_false, eq_self, not_true, not_false_iff, sub_add]
        exact ⟨_, _, _, rfl, rfl, h, sx_refl σ⟩
      · cases hw : shS kB (σ.1 7) (σ.1 9) (σ.1 10) x1 x3 x4
        · have hcl : τ.1 0 8 ≤ nI kB := by rw [← eB1, ekB]; exact n_cmpE kB
          have hf := cn_full cB (by decide)
          rw [l40] at hf
          by_cases hq : σ.1 6 4 = 40
          · have hq' : τ.1 0 8 = 40 := by rw [← eB1]; exact hq
            simp only [M_walk_L33, hf, hq, hq', hcl, Option.bind_some, Bool.not_true, Bool.not_false, Bool.false_eq_true, if_true, if_false, eq_self, not_true, not_false_iff, sub_add]
            simp only [hq'] at hcl
            simp only [hcl, Option.bind_some, Bool.not_true, Bool.not_false, Bool.false_eq_true, if_true, if_false, eq_self, not_true, not_false_iff, sub_add]
            exact ⟨_, _, _, rfl, rfl, ⟨hA, hB, hC, hD, hE, hS, hF, hG, hH, hI, hJ, hK, hL, hM⟩, ⟨Or.inl rfl, Or.inr ⟨rfl, rfl, rfl, rfl, rfl⟩, Or.inr ⟨rfl, rfl, rfl, rfl, rfl, rfl, rfl, rfl, rfl, fun _ _ => rfl⟩⟩⟩
          · have hq' : ¬ τ.1 0 8 = 40 := by rw [← eB1]; exact hq
            have hin := cn_in cB (by decide) (by rw [l40]; exact hq)
            have hin' : inb (τ.1 0 8) 40 := by rw [← eB1]; exact hin
            simp only [M_walk_L33, hf, hq, hq', hcl, if_pos hin, if_pos hin', Option.bind_some, Bool.not_true, Bool.not_false, Bool.false_eq_true, if_true, if_false, eq_self, not_true, not_false_iff, sub_add]
            have h1 := bw_toInt hx
            have h2 := bw_toInt hy
            have h3 := bd_of hz
            have g1 := cn_toInt cA2 (by decide)
            have g2 := cn_toInt cA1 (by decide)
            have hk := n_ti (k := kB) (by omega)
            have hr := rB_push hB hq (x1 := x1) (x2 := x2) (x3 := x3) (x4 := x4) ⟨h1.1, by omega⟩ h1.2 ⟨h2.1, h2.2, by omega⟩ h3 (fun i hi e => shS_false hw i (by rw [ekB, hk] at hi; omega) e)
            rw [eB1] at hr
            rw [eB1]
            exact ⟨_, _, _, rfl, rfl, ⟨hA, hr, hC, hD, hE, hS, hF, hG, hH, hI, hJ, hK, hL, hM⟩, ⟨Or.inl rfl, Or.inr ⟨rfl, rfl, rfl, rfl, rfl⟩, Or.inr ⟨rfl, rfl, rfl, rfl, rfl, rfl, rfl, rfl, rfl, fun _ _ => rfl⟩⟩⟩
        · simp only [Option.bind_some, Bool.not_true, Bool.not_false, Bool.false_eq_true, if_true, if_false, eq_self, not_true, not_false_iff, sub_add]
          exact ⟨_, _, _, rfl, rfl, h, sx_refl σ⟩
theorem upd_of {f : Nat → Int32} {k : Nat} {x : Int32} {σ : St} (c i : Nat) (v : Int32) : True := trivial
set_option maxHeartbeats 2000000 in
theorem op_send {n : Nat} {σ τ : St} (h : Rel0 n σ τ) (hn : n < 512) (x1 x2 x3 : Int32) : ∃ r σ' τ', P_send x1 x2 x3 σ = some (r, σ') ∧ M_send x1 x2 x3 τ = some (r, τ') ∧ Rel0 (n + 1) σ' τ' ∧ Sx σ σ' := by
  obtain ⟨hA, hB, hC, hD, hE, hS, hF, hG, hH, hI, hJ, hK, hL, hM⟩ := id h
  obtain ⟨⟨eE1, eE2, eE3, eE4⟩, cE, iE1, iE2, iE3, iE4⟩ := id hE
  obtain ⟨⟨eS1, eS2, eS3, eS4⟩, ⟨kS, hkS, cS⟩, nS, iS⟩ := id hS
  have hS1 : rS (n + 1) (σ.1 21 7) (σ.1 25) (σ.1 26) (σ.1 27) (τ.1 0 49) (τ.1 39) (τ.1 40) (τ.1 41) := ⟨⟨eS1, eS2, eS3, eS4⟩, ⟨kS, by omega, cS⟩, by omega, iS⟩
  have h1 : Rel0 (n + 1) σ τ := ⟨hA, hB, hC, hD, hE, hS1, hF, hG, hH, hI, hJ, hK, hL, hM⟩
  simp only [P_send, M_send, Packs_addSending, bl_split2, g_below, g_packsHas, g_noPack, g_in1v, g_isDay, ← eE1, Option.bind_some, Bool.not_true, Bool.not_false, Bool.false_eq_true, if_true, if_false, eq_self, not_true, not_false_iff, sub_add]
  cases hx : bw x1 (σ.1 21 3)
  · simp only [Option.bind_some, Bool.not_true, Bool.not_false, Bool.false_eq_true, if_true, if_false, eq_self, not_true, not_false_iff, sub_add]
    exact ⟨_, _, _, rfl, rfl, h1, sx_refl σ⟩
  · cases hy : bl x2 1 99999
    · simp only [Option.bind_some, Bool.not_true, Bool.not_false, Bool.false_eq_true, if_true, if_false, eq_self, not_true, not_false_iff, sub_add]
      exact ⟨_, _, _, rfl, rfl, h1, sx_refl σ⟩
    · cases hz : bw x3 10000
      · simp only [Option.bind_some, Bool.not_true, Bool.not_false, Bool.false_eq_true, if_true, if_false, eq_self, not_true, not_false_iff, sub_add]
        exact ⟨_, _, _, rfl, rfl, h1, sx_refl σ⟩
      · have hlt : σ.1 21 7 < 512 := by rw [cS, n_lt, n_ti (by omega), k_512]; omega
        have hin : inb (σ.1 21 7) 512 := by rw [cS]; exact n_inb (by omega) (by decide)
        have hin' : inb (τ.1 0 49) 1200 := by rw [← eS1, cS]; exact n_inb (by omega) (by decide)
        have h3 := bw_toInt hz
        rw [n_10000] at h3
        simp only [hlt, if_pos hin, if_pos hin', Option.bind_some, Bool.not_true, Bool.not_false, Bool.false_eq_true, if_true, if_false, eq_self, not_true, not_false_iff, sub_add]
        have eS1' := eS1
        rw [← eS1']
        have b1 := s_sentBy (σ := wI (wI (wI (wI σ 25 (Int32.toNatClampNeg (σ.1 21 7)) x1) 26 (Int32.toNatClampNeg (σ.1 21 7)) x2) 27 (Int32.toNatClampNeg (σ.1 21 7)) x3) 21 7 (σ.1 21 7 + 1)) (c := kS + 1) (show σ.1 21 7 + 1 = nI (kS + 1) by rw [cS]; exact nI_1 kS) (by omega) x1 10000
        have b2 := m_sentFor (τ := wI (wI (wI (wI τ 39 (Int32.toNatClampNeg (σ.1 21 7)) x1) 40 (Int32.toNatClampNeg (σ.1 21 7)) x2) 41 (Int32.toNatClampNeg (σ.1 21 7)) x3) 0 49 (σ.1 21 7 + 1)) (c := kS + 1) (show σ.1 21 7 + 1 = nI (kS + 1) by rw [cS]; exact nI_1 kS) (by omega) x1 9999
        have b3 : ir (upd (σ.1 27) (Int32.toNatClampNeg (σ.1 21 7)) x3) 0 9999 := ir_upd iS h3.1 (by omega)
        have b4 := seS_top (c := kS + 1) (fo := upd (σ.1 25) (Int32.toNatClampNeg (σ.1 21 7)) x1) (co := upd (σ.1 26) (Int32.toNatClampNeg (σ.1 21 7)) x2) b3 x1
        have b5 : seS (kS + 1) (upd (τ.1 39) (Int32.toNatClampNeg (σ.1 21 7)) x1) (upd (τ.1 40) (Int32.toNatClampNeg (σ.1 21 7)) x2) (upd (τ.1 41) (Int32.toNatClampNeg (σ.1 21 7)) x3) x1 9999 = seS (kS + 1) (upd (σ.1 25) (Int32.toNatClampNeg (σ.1 21 7)) x1) (upd (σ.1 26) (Int32.toNatClampNeg (σ.1 21 7)) x2) (upd (σ.1 27) (Int32.toNatClampNeg (σ.1 21 7)) x3) x1 10000 := by rw [b4, eS2, eS3, eS4]
        have b6 : M_sentFor x1 9999 (wI (wI (wI (wI τ 39 (Int32.toNatClampNeg (σ.1 21 7)) x1) 40 (Int32.toNatClampNeg (σ.1 21 7)) x2) 41 (Int32.toNatClampNeg (σ.1 21 7)) x3) 0 49 (σ.1 21 7 + 1)) = some (seS (kS + 1) (upd (σ.1 25) (Int32.toNatClampNeg (σ.1 21 7)) x1) (upd (σ.1 26) (Int32.toNatClampNeg (σ.1 21 7)) x2) (upd (σ.1 27) (Int32.toNatClampNeg (σ.1 21 7)) x3) x1 10000) := b2.trans (congrArg some b5)
        simp only [b1, b6, Option.bind_some]
        refine ⟨_, _, _, rfl, rfl, ⟨hA, hB, hC, hD, hE, ⟨⟨rfl, upd_eq eS2 _ _, upd_eq eS3 _ _, upd_eq eS4 _ _⟩, ⟨kS + 1, by omega, ?_⟩, by omega, b3⟩, hF, hG, hH, hI, hJ, hK, hL, hM⟩, ⟨Or.inr ⟨rfl, rfl, rfl, rfl, rfl, rfl, rfl, rfl, rfl, rfl, fun _ _ => rfl⟩, Or.inr ⟨rfl, rfl, rfl, rfl, rfl⟩, Or.inr ⟨rfl, rfl, rfl, rfl, rfl, rfl, rfl, rfl, rfl, fun _ _ => rfl⟩⟩⟩
        show σ.1 21 7 + 1 = nI (kS + 1)
        rw [cS]; exact nI_1 kS
theorem ir3 {f : Nat → Int32} (h : ir f 0 2) (i : Nat) : f i = 0 ∨ f i = 1 ∨ f i = 2 := by
  have := h i
  rw [n_eq, n_eq, n_eq, n_0, k_1, k_2]
  omega
theorem c01 : ¬ (1 : Int32) = 2 ∧ ¬ (0 : Int32) = 2 ∧ ¬ (0 : Int32) = 1 ∧ ¬ (1 : Int32) = 0 ∧ ¬ (2 : Int32) = 0 ∧ ¬ (2 : Int32) = 1 ∧ (0 : Int32) ≤ 0 ∧ ¬ (1 : Int32) ≤ 0 ∧ ¬ (2 : Int32) ≤ 0 := by decide
theorem dbl (x : Int32) : x + 10 + x = 2 * x + 10 := by
  have : (2 : Int32) * x = x + x := by rw [show (2 : Int32) = 1 + 1 by decide, Int32.add_mul, Int32.one_mul]
  rw [this]
  ac_rfl
theorem dbl1 (x : Int32) : x + 1 + x = 2 * x + 1 := by
  have : (2 : Int32) * x = x + x := by rw [show (2 : Int32) = 1 + 1 by decide, Int32.add_mul, Int32.one_mul]
  rw [this]
  ac_rfl
set_option maxHeartbeats 2000000 in
theorem op_tell {n : Nat} {σ τ : St} (h : Rel0 n σ τ) (x1 x2 : Int32) : ∃ r σ' τ', P_tell x1 x2 σ = some (r, σ') ∧ M_tell x1 x2 τ = some (r, τ') ∧ Rel0 n σ' τ' ∧ Sx σ σ' := by
  obtain ⟨hA, hB, hC, hD, hE, hS, hF, hG, hH, hI, hJ, hK, hL, hM⟩ := id h
  obtain ⟨⟨eE1, eE2, eE3, eE4⟩, cE, iE1, iE2, iE3, iE4⟩ := id hE
  obtain ⟨⟨eF1, eF2, eF3, eF4, eF5, eF6, eF7⟩, cF, iF1, iF2, iF3, iF4, iF5, iF6, dF1, dF2⟩ := id hF
  obtain ⟨⟨eH1, eH2, eH3, eH4, eH5, eH6, eH7, eH8⟩, cH, iH1, iH2, iH3, iH4, iH5, iH6, dH⟩ := id hH
  obtain ⟨eM1, eM2⟩ := id hM
  obtain ⟨kF, hkF, ekF⟩ := id cF
  have a1 : ∀ (v : Int32), Ledger_countOf x2 (wI σ 0 14 v) = some (coS kF (σ.1 29) x2) := fun v => s_countOf (σ := wI σ 0 14 v) ekF hkF x2
  have a2 : ∀ (v w : Int32), Ledger_countOf x2 (wI (wI σ 0 14 v) 0 14 w) = some (coS kF (σ.1 29) x2) := fun v w => s_countOf (σ := wI (wI σ 0 14 v) 0 14 w) ekF hkF x2
  have a3 : ∀ (v w u : Int32), Ledger_countOf x2 (wI (wI (wI σ 0 14 v) 0 14 w) 0 14 u) = some (coS kF (σ.1 29) x2) := fun v w u => s_countOf (σ := wI (wI (wI σ 0 14 v) 0 14 w) 0 14 u) ekF hkF x2
  have a4 : ∀ (v w u t : Int32), Ledger_countOf x2 (wI (wI (wI (wI σ 0 14 v) 0 14 w) 0 14 u) 0 14 t) = some (coS kF (σ.1 29) x2) := fun v w u t => s_countOf (σ := wI (wI (wI (wI σ 0 14 v) 0 14 w) 0 14 u) 0 14 t) ekF hkF x2
  have m1 := m_entriesOf (τ := τ) (eF1 ▸ ekF) hkF x2
  rw [← eF2] at m1
  have w1 : ∀ (s : St) (k j : Nat) (v : Int32), (wI s k j v).1 k j = v := fun s k j v => by simp [wI, upd]
  simp only [P_tell, M_tell, P_isThere, P_tellingOfPack, P_tellingOfDebt, P_bodyOfPack, P_bodyOfRound, P_bodyOfBought, P_bodyOfDoor, P_bodyOfLeft, P_bodyOfRags, P_leave, M_bodies, M_traced, g_below, g_packsHas, g_noPack, g_noDebt, g_in1, m1, ← eE1, ← eE2, ← eH1, ← eH2, ← eH5, ← eM2, Option.bind_some, Bool.not_true, Bool.not_false, Bool.false_eq_true, if_true, if_false, eq_self, not_true, not_false_iff, sub_add]
  cases hx : bw x1 2
  · simp only [Option.bind_some, Bool.not_true, Bool.not_false, Bool.false_eq_true, if_true, if_false, eq_self, not_true, not_false_iff, sub_add]
    exact ⟨_, _, _, rfl, rfl, h, sx_refl σ⟩
  · by_cases h0 : x1 = 0
    · simp only [h0, Option.bind_some, Bool.not_true, Bool.not_false, Bool.false_eq_true, if_true, if_false, eq_self, not_true, not_false_iff, sub_add]
      cases hy : bw x2 (σ.1 21 3)
      · simp only [Option.bind_some, Bool.not_true, Bool.not_false, Bool.false_eq_true, if_true, if_false, eq_self, not_true, not_false_iff, sub_add]
        exact ⟨_, _, _, rfl, rfl, h, sx_refl σ⟩
      · have hin : inb x2 12 := bw_in hy (cn_toInt cE (by decide)).2
        simp only [if_pos hin, Option.bind_some, Bool.not_true, Bool.not_false, Bool.false_eq_true, if_true, if_false, eq_self, not_true, not_false_iff, sub_add]
        rcases ir3 iE1 (Int32.toNatClampNeg x2) with q | q | q
        · simp only [q, a1, a0, c01.1, c01.2.1, c01.2.2.1, c01.2.2.2.1, c01.2.2.2.2.1, c01.2.2.2.2.2.1, c01.2.2.2.2.2.2.1, c01.2.2.2.2.2.2.2.1, c01.2.2.2.2.2.2.2.2, Option.bind_some, Bool.not_true, Bool.not_false, Bool.false_eq_true, if_true, if_false, eq_self, not_true, not_false_iff, sub_add]
          exact ⟨_, _, _, rfl, rfl, ⟨hA, hB, hC, hD, hE, hS, hF, hG, hH, hI, hJ, hK, hL, ⟨eM1, rfl⟩⟩, ⟨Or.inr ⟨rfl, rfl, rfl, rfl, rfl, rfl, rfl, rfl, rfl, rfl, fun _ _ => rfl⟩, Or.inr ⟨rfl, rfl, rfl, rfl, rfl⟩, Or.inr ⟨rfl, rfl, rfl, rfl, rfl, rfl, rfl, rfl, rfl, fun _ _ => rfl⟩⟩⟩
        · simp only [q, a1, a2, w1, c01.1, c01.2.1, c01.2.2.1, c01.2.2.2.1, c01.2.2.2.2.1, c01.2.2.2.2.2.1, c01.2.2.2.2.2.2.1, c01.2.2.2.2.2.2.2.1, c01.2.2.2.2.2.2.2.2, show (1 : Int32) + 1 = 2 by decide, Option.bind_some, Bool.not_true, Bool.not_false, Bool.false_eq_true, if_true, if_false, eq_self, not_true, not_false_iff, sub_add]
          exact ⟨_, _, _, rfl, rfl, ⟨hA, hB, hC, hD, hE, hS, hF, hG, hH, hI, hJ, hK, hL, ⟨eM1, rfl⟩⟩, ⟨Or.inr ⟨rfl, rfl, rfl, rfl, rfl, rfl, rfl, rfl, rfl, rfl, fun _ _ => rfl⟩, Or.inr ⟨rfl, rfl, rfl, rfl, rfl⟩, Or.inr ⟨rfl, rfl, rfl, rfl, rfl, rfl, rfl, rfl, rfl, fun _ _ => rfl⟩⟩⟩
        · simp only [q, a1, a2, a3, a4, w1, dbl, c01.1, c01.2.1, c01.2.2.1, c01.2.2.2.1, c01.2.2.2.2.1, c01.2.2.2.2.2.1, c01.2.2.2.2.2.2.1, c01.2.2.2.2.2.2.2.1, c01.2.2.2.2.2.2.2.2, show (1 : Int32) + 1 = 2 by decide, show (1 : Int32) + 2 = 3 by decide, Option.bind_some, Bool.not_true, Bool.not_false, Bool.false_eq_true, if_true, if_false, eq_self, not_true, not_false_iff, sub_add]
          exact ⟨_, _, _, rfl, rfl, ⟨hA, hB, hC, hD, hE, hS, hF, hG, hH, hI, hJ, hK, hL, ⟨eM1, rfl⟩⟩, ⟨Or.inr ⟨rfl, rfl, rfl, rfl, rfl, rfl, rfl, rfl, rfl, rfl, fun _ _ => rfl⟩, Or.inr ⟨rfl, rfl, rfl, rfl, rfl⟩, Or.inr ⟨rfl, rfl, rfl, rfl, rfl, rfl, rfl, rfl, rfl, fun _ _ => rfl⟩⟩⟩
    · simp only [h0, Option.bind_some, Bool.not_true, Bool.not_false, Bool.false_eq_true, if_true, if_false, eq_self, not_true, not_false_iff, sub_add]
      cases hy : bw x2 (σ.1 49 7)
      · simp only [Option.bind_some, Bool.not_true, Bool.not_false, Bool.false_eq_true, if_true, if_false, eq_self, not_true, not_false_iff, sub_add]
        exact ⟨_, _, _, rfl, rfl, h, sx_refl σ⟩
      · have hin : inb x2 20 := bw_in hy (cn_toInt cH (by decide)).2
        have d1 : ∀ (v : Int32) i, (wI σ 0 14 v).1 53 i = σ.1 53 i := fun v i => rfl
        have d2 : ∀ (v w : Int32) i, (wI (wI σ 0 14 v) 0 14 w).1 53 i = σ.1 53 i := fun v w i => rfl
        have d3 : ∀ (v w u : Int32) i, (wI (wI (wI σ 0 14 v) 0 14 w) 0 14 u).1 53 i = σ.1 53 i := fun v w u i => rfl
        have d4 : ∀ (v w u t : Int32) i, (wI (wI (wI (wI σ 0 14 v) 0 14 w) 0 14 u) 0 14 t).1 53 i = σ.1 53 i := fun v w u t i => rfl
        simp only [if_pos hin, Option.bind_some, Bool.not_true, Bool.not_false, Bool.false_eq_true, if_true, if_false, eq_self, not_true, not_false_iff, sub_add]
        rcases ir3 iH1 (Int32.toNatClampNeg x2) with q | q | q
        · simp only [q, a0, d1, c01.1, c01.2.1, c01.2.2.1, c01.2.2.2.1, c01.2.2.2.2.1, c01.2.2.2.2.2.1, c01.2.2.2.2.2.2.1, c01.2.2.2.2.2.2.2.1, c01.2.2.2.2.2.2.2.2, Option.bind_some, Bool.not_true, Bool.not_false, Bool.false_eq_true, if_true, if_false, eq_self, not_true, not_false_iff, sub_add]
          exact ⟨_, _, _, rfl, rfl, ⟨hA, hB, hC, hD, hE, hS, hF, hG, hH, hI, hJ, hK, hL, ⟨eM1, rfl⟩⟩, ⟨Or.inr ⟨rfl, rfl, rfl, rfl, rfl, rfl, rfl, rfl, rfl, rfl, fun _ _ => rfl⟩, Or.inr ⟨rfl, rfl, rfl, rfl, rfl⟩, Or.inr ⟨rfl, rfl, rfl, rfl, rfl, rfl, rfl, rfl, rfl, fun _ _ => rfl⟩⟩⟩
        · simp only [q, w1, d1, d2, c01.1, c01.2.1, c01.2.2.1, c01.2.2.2.1, c01.2.2.2.2.1, c01.2.2.2.2.2.1, c01.2.2.2.2.2.2.1, c01.2.2.2.2.2.2.2.1, c01.2.2.2.2.2.2.2.2, show (6 : Int32) + 1 = 7 by decide, Option.bind_some, Bool.not_true, Bool.not_false, Bool.false_eq_true, if_true, if_false, eq_self, not_true, not_false_iff, sub_add]
          exact ⟨_, _, _, rfl, rfl, ⟨hA, hB, hC, hD, hE, hS, hF, hG, hH, hI, hJ, hK, hL, ⟨eM1, rfl⟩⟩, ⟨Or.inr ⟨rfl, rfl, rfl, rfl, rfl, rfl, rfl, rfl, rfl, rfl, fun _ _ => rfl⟩, Or.inr ⟨rfl, rfl, rfl, rfl, rfl⟩, Or.inr ⟨rfl, rfl, rfl, rfl, rfl, rfl, rfl, rfl, rfl, fun _ _ => rfl⟩⟩⟩
        · simp only [q, w1, d1, d2, d3, d4, dbl1, c01.1, c01.2.1, c01.2.2.1, c01.2.2.2.1, c01.2.2.2.2.1, c01.2.2.2.2.2.1, c01.2.2.2.2.2.2.1, c01.2.2.2.2.2.2.2.1, c01.2.2.2.2.2.2.2.2, show (6 : Int32) + 1 = 7 by decide, show (6 : Int32) + 2 = 8 by decide, Option.bind_some, Bool.not_true, Bool.not_false, Bool.false_eq_true, if_true, if_false, eq_self, not_true, not_false_iff, sub_add]
          exact ⟨_, _, _, rfl, rfl, ⟨hA, hB, hC, hD, hE, hS, hF, hG, hH, hI, hJ, hK, hL, ⟨eM1, rfl⟩⟩, ⟨Or.inr ⟨rfl, rfl, rfl, rfl, rfl, rfl, rfl, rfl, rfl, rfl, fun _ _ => rfl⟩, Or.inr ⟨rfl, rfl, rfl, rfl, rfl⟩, Or.inr ⟨rfl, rfl, rfl, rfl, rfl, rfl, rfl, rfl, rfl, fun _ _ => rfl⟩⟩⟩
