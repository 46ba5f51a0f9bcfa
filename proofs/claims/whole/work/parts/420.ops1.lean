theorem k_3 : (3 : Int32).toInt = 3 := by decide
theorem k_4 : (4 : Int32).toInt = 4 := by decide
theorem k_5 : (5 : Int32).toInt = 5 := by decide
theorem k_6 : (6 : Int32).toInt = 6 := by decide
theorem k_8 : (8 : Int32).toInt = 8 := by decide
theorem k_9 : (9 : Int32).toInt = 9 := by decide
theorem k_10 : (10 : Int32).toInt = 10 := by decide
theorem k_12 : (12 : Int32).toInt = 12 := by decide
theorem k_16 : (16 : Int32).toInt = 16 := by decide
theorem k_20 : (20 : Int32).toInt = 20 := by decide
theorem k_40 : (40 : Int32).toInt = 40 := by decide
theorem k_60 : (60 : Int32).toInt = 60 := by decide
theorem k_100 : (100 : Int32).toInt = 100 := by decide
theorem k_1000 : (1000 : Int32).toInt = 1000 := by decide
theorem k_1000001 : (1000001 : Int32).toInt = 1000001 := by decide
theorem k_1000000 : (1000000 : Int32).toInt = 1000000 := by decide
theorem k_100000 : (100000 : Int32).toInt = 100000 := by decide
theorem k_99 : (99 : Int32).toInt = 99 := by decide
theorem k_999 : (999 : Int32).toInt = 999 := by decide
theorem k_9999 : (9999 : Int32).toInt = 9999 := by decide
theorem k_99999 : (99999 : Int32).toInt = 99999 := by decide
theorem k_7 : (7 : Int32).toInt = 7 := by decide
theorem k_2 : (2 : Int32).toInt = 2 := by decide
theorem k_1 : (1 : Int32).toInt = 1 := by decide
theorem k_512 : (512 : Int32).toInt = 512 := by decide
theorem k_m99999 : (-99999 : Int32).toInt = -99999 := by decide
theorem k_m1 : (-1 : Int32).toInt = -1 := by decide
theorem k_m9 : (-9 : Int32).toInt = -9 := by decide
theorem rB_mono {cp cq cb cd c : Int32} {wo wa fr to : Nat → Int32} {c' : Int32} {wo' wa' fr' to' : Nat → Int32} (h : rB cp cb c wo wa fr to c' wo' wa' fr' to') (hc : cp.toInt ≤ cq.toInt) (hd : cb.toInt ≤ cd.toInt) : rB cq cd c wo wa fr to c' wo' wa' fr' to' := by
  obtain ⟨b1, b2, b3, b4, b5, b6, b7, b8, b9, b10⟩ := h
  exact ⟨b1, b2, b3, b4, b5, b6, b7, fun i hi => Int.lt_of_lt_of_le (b8 i hi) hc, b9, fun i hi => Int.lt_of_lt_of_le (b10 i hi) hd⟩
theorem rE_mono {cb cd c : Int32} {ki ba ho : Nat → Int32} {c' : Int32} {ki' ba' ho' : Nat → Int32} (h : rE cb c ki ba ho c' ki' ba' ho') (hd : cb.toInt ≤ cd.toInt) : rE cd c ki ba ho c' ki' ba' ho' := by
  obtain ⟨b1, b2, b3, b4, b5, b6⟩ := h
  exact ⟨b1, b2, b3, b4, b5, fun i hi => Int.lt_of_lt_of_le (b6 i hi) hd⟩
theorem rF_mono {cp cq c : Int32} {pa ki go ma co da : Nat → Int32} {c' : Int32} {pa' ki' go' ma' co' da' : Nat → Int32} (h : rF cp c pa ki go ma co da c' pa' ki' go' ma' co' da') (hc : cp.toInt ≤ cq.toInt) : rF cq c pa ki go ma co da c' pa' ki' go' ma' co' da' := by
  obtain ⟨b1, b2, b3, b4, b5, b6, b7, b8, b9, b10⟩ := h
  exact ⟨b1, b2, b3, b4, b5, b6, b7, b8, fun i hi => Int.lt_of_lt_of_le (b9 i hi) hc, b10⟩
theorem rH_mono {cp cq ck cl c : Int32} {ki pl pa co da pd ow : Nat → Int32} {c' : Int32} {ki' pl' pa' co' da' pd' ow' : Nat → Int32} (h : rH cp ck c ki pl pa co da pd ow c' ki' pl' pa' co' da' pd' ow') (hc : cp.toInt ≤ cq.toInt) (hk : ck.toInt ≤ cl.toInt) : rH cq cl c ki pl pa co da pd ow c' ki' pl' pa' co' da' pd' ow' := by
  obtain ⟨b1, b2, b3, b4, b5, b6, b7, b8, b9⟩ := h
  exact ⟨b1, b2, b3, b4, b5, b6, b7, b8, fun i hi => ⟨Int.lt_of_lt_of_le (b9 i hi).1 hc, Int.lt_of_lt_of_le (b9 i hi).2 hk⟩⟩
theorem rK_mono {cp cq c : Int32} {ba ho ro cr ga : Nat → Int32} {c' : Int32} {ba' ho' ro' cr' ga' : Nat → Int32} (h : rK cp c ba ho ro cr ga c' ba' ho' ro' cr' ga') (hc : cp.toInt ≤ cq.toInt) : rK cq c ba ho ro cr ga c' ba' ho' ro' cr' ga' := by
  obtain ⟨b1, b2, b3, b4, b5, b6, b7, b8⟩ := h
  exact ⟨b1, b2, b3, b4, b5, b6, b7, fun i hi => Int.lt_of_lt_of_le (b8 i hi) hc⟩
theorem upd_eq {f g : Nat → Int32} (h : f = g) (i : Nat) (x : Int32) : upd f i x = upd g i x := by rw [h]
theorem upd_at (f : Nat → Int32) (k : Nat) (x : Int32) (i : Nat) : upd f k x i = if i = k then x else f i := rfl
set_option maxHeartbeats 2000000 in
theorem op_place {n : Nat} {σ τ : St} (h : Rel0 n σ τ) (x1 : Int32) : ∃ r σ' τ', P_place x1 σ = some (r, σ') ∧ M_place x1 τ = some (r, τ') ∧ Rel0 n σ' τ' ∧ Sx σ σ' := by
  obtain ⟨hA, hB, hC, hD, hE, hS, hF, hG, hH, hI, hJ, hK, hL, hM⟩ := id h
  obtain ⟨⟨eA1, eA2, eA3, eA4, eA5, eA6, eA7⟩, ⟨cA1, cA2, cA3⟩, iA1, iA2, iA3, iA4⟩ := id hA
  simp only [P_place, M_place, Roll_addPlace, g_below, g_isLand, ← eA1, Option.bind_some, Bool.not_true, Bool.not_false, Bool.false_eq_true, if_true, if_false, eq_self, not_true, not_false_iff, sub_add]
  cases hx : bw x1 6
  · simp only [Option.bind_some, Bool.not_true, Bool.not_false, Bool.false_eq_true, if_true, if_false, eq_self, not_true, not_false_iff, sub_add]
    exact ⟨_, _, _, rfl, rfl, h, sx_refl σ⟩
  · have hf := cn_full cA1 (by decide)
    rw [l16] at hf
    by_cases hq : σ.1 1 4 = 16
    · simp only [hf, hq, Option.bind_some, Bool.not_true, Bool.not_false, Bool.false_eq_true, if_true, if_false, eq_self, not_true, not_false_iff, sub_add]
      exact ⟨_, _, _, rfl, rfl, h, sx_refl σ⟩
    · have hin := cn_in cA1 (by decide) (by rw [l16]; exact hq)
      have hup := cn_up cA1 (by decide) (by rw [l16]; exact hq)
      have hT := cn_upT cA1 (by decide)
      have hle : (σ.1 1 4).toInt ≤ (σ.1 1 4 + 1).toInt := by omega
      have hr := bw_toInt hx
      rw [k_6] at hr
      simp only [hf, hq, if_pos hin, Option.bind_some, Bool.not_true, Bool.not_false, Bool.false_eq_true, if_true, if_false, eq_self, not_true, not_false_iff, sub_add]
      exact ⟨_, _, _, rfl, rfl, ⟨⟨⟨rfl, eA2, eA3, upd_eq eA4 _ _, eA5, eA6, eA7⟩, ⟨hup, cA2, cA3⟩, ir_upd iA1 hr.1 (by omega), iA2, iA3, iA4⟩, rB_mono hB hle (Int.le_refl _), hC, hD, hE, hS, hF, hG, rH_mono hH hle (Int.le_refl _), hI, hJ, hK, hL, hM⟩, ⟨Or.inr ⟨rfl, rfl, rfl, rfl, rfl, rfl, rfl, rfl, rfl, rfl, fun _ _ => rfl⟩, Or.inr ⟨rfl, rfl, rfl, rfl, rfl⟩, Or.inr ⟨rfl, rfl, rfl, rfl, rfl, rfl, rfl, rfl, rfl, fun _ _ => rfl⟩⟩⟩
set_option maxHeartbeats 2000000 in
theorem op_house {n : Nat} {σ τ : St} (h : Rel0 n σ τ) (x1 : Int32) : ∃ r σ' τ', P_house x1 σ = some (r, σ') ∧ M_house x1 τ = some (r, τ') ∧ Rel0 n σ' τ' ∧ Sx σ σ' := by
  obtain ⟨hA, hB, hC, hD, hE, hS, hF, hG, hH, hI, hJ, hK, hL, hM⟩ := id h
  obtain ⟨⟨eA1, eA2, eA3, eA4, eA5, eA6, eA7⟩, ⟨cA1, cA2, cA3⟩, iA1, iA2, iA3, iA4⟩ := id hA
  simp only [P_house, M_house, Roll_addHouse, g_below, g_inM, ← eA3, Option.bind_some, Bool.not_true, Bool.not_false, Bool.false_eq_true, if_true, if_false, eq_self, not_true, not_false_iff, sub_add]
  cases hx : bw x1 1000001
  · simp only [Option.bind_some, Bool.not_true, Bool.not_false, Bool.false_eq_true, if_true, if_false, eq_self, not_true, not_false_iff, sub_add]
    exact ⟨_, _, _, rfl, rfl, h, sx_refl σ⟩
  · have hf := cn_full cA3 (by decide)
    rw [l4] at hf
    by_cases hq : σ.1 1 6 = 4
    · simp only [hf, hq, Option.bind_some, Bool.not_true, Bool.not_false, Bool.false_eq_true, if_true, if_false, eq_self, not_true, not_false_iff, sub_add]
      exact ⟨_, _, _, rfl, rfl, h, sx_refl σ⟩
    · have hin := cn_in cA3 (by decide) (by rw [l4]; exact hq)
      have hup := cn_up cA3 (by decide) (by rw [l4]; exact hq)
      have hT := cn_upT cA3 (by decide)
      have hle : (σ.1 1 6).toInt ≤ (σ.1 1 6 + 1).toInt := by omega
      have hr := bw_toInt hx
      rw [k_1000001] at hr
      simp only [hf, hq, if_pos hin, Option.bind_some, Bool.not_true, Bool.not_false, Bool.false_eq_true, if_true, if_false, eq_self, not_true, not_false_iff, sub_add]
      exact ⟨_, _, _, rfl, rfl, ⟨⟨⟨eA1, eA2, rfl, eA4, eA5, eA6, upd_eq eA7 _ _⟩, ⟨cA1, cA2, hup⟩, iA1, iA2, iA3, ir_upd iA4 hr.1 (by omega)⟩, hB, hC, hD, hE, hS, hF, hG, hH, hI, hJ, rK_mono hK hle, hL, hM⟩, ⟨Or.inr ⟨rfl, rfl, rfl, rfl, rfl, rfl, rfl, rfl, rfl, rfl, fun _ _ => rfl⟩, Or.inr ⟨rfl, rfl, rfl, rfl, rfl⟩, Or.inr ⟨rfl, rfl, rfl, rfl, rfl, rfl, rfl, rfl, rfl, fun i hi => if_neg (cn_ne cA3 hi)⟩⟩⟩
set_option maxHeartbeats 2000000 in
theorem op_band {n : Nat} {σ τ : St} (h : Rel0 n σ τ) (x1 x2 : Int32) : ∃ r σ' τ', P_band x1 x2 σ = some (r, σ') ∧ M_band x1 x2 τ = some (r, τ') ∧ Rel0 n σ' τ' ∧ Sx σ σ' := by
  obtain ⟨hA, hB, hC, hD, hE, hS, hF, hG, hH, hI, hJ, hK, hL, hM⟩ := id h
  obtain ⟨⟨eA1, eA2, eA3, eA4, eA5, eA6, eA7⟩, ⟨cA1, cA2, cA3⟩, iA1, iA2, iA3, iA4⟩ := id hA
  simp only [P_band, M_band, Roll_addBand, g_below, g_in9, ← eA2, Option.bind_some, Bool.not_true, Bool.not_false, Bool.false_eq_true, if_true, if_false, eq_self, not_true, not_false_iff, sub_add]
  cases hx : bw x1 10
  · simp only [Option.bind_some, Bool.not_true, Bool.not_false, Bool.false_eq_true, if_true, if_false, eq_self, not_true, not_false_iff, sub_add]
    exact ⟨_, _, _, rfl, rfl, h, sx_refl σ⟩
  · cases hy : bw x2 10
    · simp only [Option.bind_some, Bool.not_true, Bool.not_false, Bool.false_eq_true, if_true, if_false, eq_self, not_true, not_false_iff, sub_add]
      exact ⟨_, _, _, rfl, rfl, h, sx_refl σ⟩
    · have hf := cn_full cA2 (by decide)
      rw [l6] at hf
      by_cases hq : σ.1 1 5 = 6
      · simp only [hf, hq, Option.bind_some, Bool.not_true, Bool.not_false, Bool.false_eq_true, if_true, if_false, eq_self, not_true, not_false_iff, sub_add]
        exact ⟨_, _, _, rfl, rfl, h, sx_refl σ⟩
      · have hin := cn_in cA2 (by decide) (by rw [l6]; exact hq)
        have hup := cn_up cA2 (by decide) (by rw [l6]; exact hq)
        have hT := cn_upT cA2 (by decide)
        have hle : (σ.1 1 5).toInt ≤ (σ.1 1 5 + 1).toInt := by omega
        have hr := bw_toInt hx
        have hs := bw_toInt hy
        rw [k_10] at hr hs
        simp only [hf, hq, if_pos hin, Option.bind_some, Bool.not_true, Bool.not_false, Bool.false_eq_true, if_true, if_false, eq_self, not_true, not_false_iff, sub_add]
        exact ⟨_, _, _, rfl, rfl, ⟨⟨⟨eA1, rfl, eA3, eA4, upd_eq eA5 _ _, upd_eq eA6 _ _, eA7⟩, ⟨cA1, hup, cA3⟩, iA1, ir_upd iA2 hr.1 (by omega), ir_upd iA3 hs.1 (by omega), iA4⟩, rB_mono hB (Int.le_refl _) hle, hC, hD, rE_mono hE hle, hS, hF, hG, hH, hI, hJ, hK, hL, hM⟩, ⟨Or.inr ⟨rfl, rfl, rfl, rfl, rfl, rfl, rfl, rfl, rfl, rfl, fun _ _ => rfl⟩, Or.inr ⟨rfl, rfl, rfl, rfl, rfl⟩, Or.inr ⟨rfl, rfl, rfl, rfl, rfl, rfl, rfl, rfl, rfl, fun _ _ => rfl⟩⟩⟩
theorem d_upd {f : Nat → Int32} {c : Int32} {m : Nat} {b : Int} (hc : cn c m) (h : ∀ i : Nat, (i : Int) < c.toInt → (f i).toInt < b) (hT : (c + 1).toInt = c.toInt + 1) {x : Int32} (hx : x.toInt < b) : ∀ i : Nat, (i : Int) < (c + 1).toInt → (upd f c.toNatClampNeg x i).toInt < b := by
  intro i hi
  rw [upd_at]
  split
  · exact hx
  · rename_i q
    have h2 : c.toNatClampNeg = c.toInt.toNat := rfl
    exact h i (by omega)
set_option maxHeartbeats 2000000 in
theorem op_pack {n : Nat} {σ τ : St} (h : Rel0 n σ τ) (x1 x2 x3 : Int32) : ∃ r σ' τ', P_pack x1 x2 x3 σ = some (r, σ') ∧ M_pack x1 x2 x3 τ = some (r, τ') ∧ Rel0 n σ' τ' ∧ Sx σ σ' := by
  obtain ⟨hA, hB, hC, hD, hE, hS, hF, hG, hH, hI, hJ, hK, hL, hM⟩ := id h
  obtain ⟨⟨eA1, eA2, eA3, eA4, eA5, eA6, eA7⟩, ⟨cA1, cA2, cA3⟩, iA1, iA2, iA3, iA4⟩ := id hA
  obtain ⟨⟨eE1, eE2, eE3, eE4⟩, cE, iE1, iE2, iE3, iE4⟩ := id hE
  simp only [P_pack, M_pack, Packs_add, g_below, g_hasBand, g_hasHouse, g_noBand, g_noHouse, g_in2, ← eE1, ← eA2, ← eA3, Option.bind_some, Bool.not_true, Bool.not_false, Bool.false_eq_true, if_true, if_false, eq_self, not_true, not_false_iff, sub_add]
  cases hx : bw x2 (σ.1 1 5)
  · simp only [Option.bind_some, Bool.not_true, Bool.not_false, Bool.false_eq_true, if_true, if_false, eq_self, not_true, not_false_iff, sub_add]
    exact ⟨_, _, _, rfl, rfl, h, sx_refl σ⟩
  · cases hy : bw x3 (σ.1 1 6)
    · simp only [Option.bind_some, Bool.not_true, Bool.not_false, Bool.false_eq_true, if_true, if_false, eq_self, not_true, not_false_iff, sub_add]
      exact ⟨_, _, _, rfl, rfl, h, sx_refl σ⟩
    · cases hz : bw x1 3
      · simp only [Option.bind_some, Bool.not_true, Bool.not_false, Bool.false_eq_true, if_true, if_false, eq_self, not_true, not_false_iff, sub_add]
        exact ⟨_, _, _, rfl, rfl, h, sx_refl σ⟩
      · have hf := cn_full cE (by decide)
        rw [l12] at hf
        by_cases hq : σ.1 21 3 = 12
        · simp only [hf, hq, Option.bind_some, Bool.not_true, Bool.not_false, Bool.false_eq_true, if_true, if_false, eq_self, not_true, not_false_iff, sub_add]
          exact ⟨_, _, _, rfl, rfl, h, sx_refl σ⟩
        · have hin := cn_in cE (by decide) (by rw [l12]; exact hq)
          have hup := cn_up cE (by decide) (by rw [l12]; exact hq)
          have hT := cn_upT cE (by decide)
          have hle : (σ.1 21 3).toInt ≤ (σ.1 21 3 + 1).toInt := by omega
          have h1 := bw_toInt hx
          have h2 := bw_toInt hy
          have h3 := bw_toInt hz
          have h4 := cn_toInt cA2 (by decide)
          have h5 := cn_toInt cA3 (by decide)
          rw [k_3] at h3
          simp only [hf, hq, if_pos hin, Option.bind_some, Bool.not_true, Bool.not_false, Bool.false_eq_true, if_true, if_false, eq_self, not_true, not_false_iff, sub_add]
          exact ⟨_, _, _, rfl, rfl, ⟨hA, hB, hC, hD, ⟨⟨rfl, upd_eq eE2 _ _, upd_eq eE3 _ _, upd_eq eE4 _ _⟩, hup, ir_upd iE1 h3.1 (by omega), ir_upd iE2 h1.1 (by omega), ir_upd iE3 h2.1 (by omega), d_upd cE iE4 hT h1.2⟩, hS, rF_mono hF hle, hG, rH_mono hH (Int.le_refl _) hle, hI, hJ, hK, hL, hM⟩, ⟨Or.inr ⟨rfl, rfl, rfl, rfl, rfl, rfl, rfl, rfl, rfl, rfl, fun i hi => if_neg (cn_ne cE hi)⟩, Or.inr ⟨rfl, rfl, rfl, rfl, rfl⟩, Or.inr ⟨rfl, rfl, rfl, rfl, rfl, rfl, rfl, rfl, rfl, fun _ _ => rfl⟩⟩⟩
set_option maxHeartbeats 2000000 in
theorem op_licence {n : Nat} {σ τ : St} (h : Rel0 n σ τ) (x1 x2 x3 x4 : Int32) : ∃ r σ' τ', P_licence x1 x2 x3 x4 σ = some (r, σ') ∧ M_licence x1 x2 x3 x4 τ = some (r, τ') ∧ Rel0 n σ' τ' ∧ Sx σ σ' := by
  obtain ⟨hA, hB, hC, hD, hE, hS, hF, hG, hH, hI, hJ, hK, hL, hM⟩ := id h
  obtain ⟨⟨eA1, eA2, eA3, eA4, eA5, eA6, eA7⟩, ⟨cA1, cA2, cA3⟩, iA1, iA2, iA3, iA4⟩ := id hA
  obtain ⟨⟨eC1, eC2, eC3, eC4, eC5⟩, cC⟩ := id hC
  simp only [P_licence, M_licence, Spans_add_licences, g_below, g_hasBand, g_noBand, g_isLand, g_pdays, g_mdays, ← eC1, ← eA2, Option.bind_some, Bool.not_true, Bool.not_false, Bool.false_eq_true, if_true, if_false, eq_self, not_true, not_false_iff, sub_add]
  cases hx : bw x1 (σ.1 1 5)
  · simp only [Option.bind_some, Bool.not_true, Bool.not_false, Bool.false_eq_true, if_true, if_false, eq_self, not_true, not_false_iff, sub_add]
    exact ⟨_, _, _, rfl, rfl, h, sx_refl σ⟩
  · cases hy : bw x2 6
    · simp only [Option.bind_some, Bool.not_true, Bool.not_false, Bool.false_eq_true, if_true, if_false, eq_self, not_true, not_false_iff, sub_add]
      exact ⟨_, _, _, rfl, rfl, h, sx_refl σ⟩
    · cases hz : bd x3 x4
      · simp only [Option.bind_some, Bool.not_true, Bool.not_false, Bool.false_eq_true, if_true, if_false, eq_self, not_true, not_false_iff, sub_add]
        exact ⟨_, _, _, rfl, rfl, h, sx_refl σ⟩
      · have hf := cn_full cC (by decide)
        rw [l12] at hf
        by_cases hq : σ.1 11 4 = 12
        · simp only [hf, hq, Option.bind_some, Bool.not_true, Bool.not_false, Bool.false_eq_true, if_true, if_false, eq_self, not_true, not_false_iff, sub_add]
          exact ⟨_, _, _, rfl, rfl, h, sx_refl σ⟩
        · have hin := cn_in cC (by decide) (by rw [l12]; exact hq)
          have hup := cn_up cC (by decide) (by rw [l12]; exact hq)
          simp only [hf, hq, if_pos hin, Option.bind_some, Bool.not_true, Bool.not_false, Bool.false_eq_true, if_true, if_false, eq_self, not_true, not_false_iff, sub_add]
          exact ⟨_, _, _, rfl, rfl, ⟨hA, hB, ⟨⟨rfl, upd_eq eC2 _ _, upd_eq eC3 _ _, upd_eq eC4 _ _, upd_eq eC5 _ _⟩, hup⟩, hD, hE, hS, hF, hG, hH, hI, hJ, hK, hL, hM⟩, ⟨Or.inr ⟨rfl, rfl, rfl, rfl, rfl, rfl, rfl, rfl, rfl, rfl, fun _ _ => rfl⟩, Or.inr ⟨rfl, rfl, rfl, rfl, rfl⟩, Or.inr ⟨rfl, rfl, rfl, rfl, rfl, rfl, rfl, rfl, rfl, fun _ _ => rfl⟩⟩⟩
theorem bd_of {x y : Int32} (h : bd x y = true) : 0 ≤ x.toInt ∧ x.toInt ≤ y.toInt ∧ y.toInt ≤ 9999 := by
  simp only [bd, decide_eq_true_eq, n_le, n_lt, n_0, n_10000] at h
  omega
theorem le_upd {f g : Nat → Int32} (h : ∀ i, (f i).toInt ≤ (g i).toInt) {k : Nat} {x y : Int32} (hxy : x.toInt ≤ y.toInt) : ∀ i, (upd f k x i).toInt ≤ (upd g k y i).toInt := by
  intro i
  unfold upd
  split
  · exact hxy
  · exact h i
set_option maxHeartbeats 2000000 in
theorem op_right {n : Nat} {σ τ : St} (h : Rel0 n σ τ) (x1 x2 x3 x4 x5 : Int32) : ∃ r σ' τ', P_right x1 x2 x3 x4 x5 σ = some (r, σ') ∧ M_right x1 x2 x3 x4 x5 τ = some (r, τ') ∧ Rel0 n σ' τ' ∧ Sx σ σ' := by
  obtain ⟨hA, hB, hC, hD, hE, hS, hF, hG, hH, hI, hJ, hK, hL, hM⟩ := id h
  obtain ⟨⟨eA1, eA2, eA3, eA4, eA5, eA6, eA7⟩, ⟨cA1, cA2, cA3⟩, iA1, iA2, iA3, iA4⟩ := id hA
  obtain ⟨⟨eD1, eD2, eD3, eD4, eD5⟩, cD, iD1, iD2, iD3, iD4⟩ := id hD
  obtain ⟨⟨eJ1, eJ2, eJ3⟩, cJ, iJ⟩ := id hJ
  simp only [P_right, M_right, Spans_add_rights, g_below, g_hasBand, g_noBand, g_roundsHas, g_noRound, g_in2, g_pdays, g_mdays, ← eD1, ← eA2, ← eJ1, Option.bind_some, Bool.not_true, Bool.not_false, Bool.false_eq_true, if_true, if_false, eq_self, not_true, not_false_iff, sub_add]
  cases hx : bw x1 (σ.1 1 5)
  · simp only [Option.bind_some, Bool.not_true, Bool.not_false, Bool.false_eq_true, if_true, if_false, eq_self, not_true, not_false_iff, sub_add]
    exact ⟨_, _, _, rfl, rfl, h, sx_refl σ⟩
  · cases hw : bw x2 (σ.1 64 2)
    · simp only [Option.bind_some, Bool.not_true, Bool.not_false, Bool.false_eq_true, if_true, if_false, eq_self, not_true, not_false_iff, sub_add]
      exact ⟨_, _, _, rfl, rfl, h, sx_refl σ⟩
    · cases hy : bw x3 3
      · simp only [Option.bind_some, Bool.not_true, Bool.not_false, Bool.false_eq_true, if_true, if_false, eq_self, not_true, not_false_iff, sub_add]
        exact ⟨_, _, _, rfl, rfl, h, sx_refl σ⟩
      · cases hz : bd x4 x5
        · simp only [Option.bind_some, Bool.not_true, Bool.not_false, Bool.false_eq_true, if_true, if_false, eq_self, not_true, not_false_iff, sub_add]
          exact ⟨_, _, _, rfl, rfl, h, sx_refl σ⟩
        · have hf := cn_full cD (by decide)
          rw [l20] at hf
          by_cases hq : σ.1 16 4 = 20
          · simp only [hf, hq, Option.bind_some, Bool.not_true, Bool.not_false, Bool.false_eq_true, if_true, if_false, eq_self, not_true, not_false_iff, sub_add]
            exact ⟨_, _, _, rfl, rfl, h, sx_refl σ⟩
          · have hin := cn_in cD (by decide) (by rw [l20]; exact hq)
            have hup := cn_up cD (by decide) (by rw [l20]; exact hq)
            have h1 := bw_toInt hx
            have h4 := cn_toInt cA2 (by decide)
            have h5 := bd_of hz
            simp only [hf, hq, if_pos hin, Option.bind_some, Bool.not_true, Bool.not_false, Bool.false_eq_true, if_true, if_false, eq_self, not_true, not_false_iff, sub_add]
            exact ⟨_, _, _, rfl, rfl, ⟨hA, hB, hC, ⟨⟨rfl, upd_eq eD2 _ _, upd_eq eD3 _ _, upd_eq eD4 _ _, upd_eq eD5 _ _⟩, hup, ir_upd iD1 h1.1 (by omega), ir_upd iD2 h5.1 (by omega), ir_upd iD3 (by omega) (by omega), le_upd iD4 h5.2.1⟩, hE, hS, hF, hG, hH, hI, hJ, hK, hL, hM⟩, ⟨Or.inr ⟨rfl, rfl, rfl, rfl, rfl, rfl, rfl, rfl, rfl, rfl, fun _ _ => rfl⟩, Or.inr ⟨rfl, rfl, rfl, rfl, rfl⟩, Or.inr ⟨rfl, rfl, rfl, rfl, rfl, rfl, rfl, rfl, rfl, fun _ _ => rfl⟩⟩⟩
theorem idx2 {x y : Int32} (hx : bw x 10 = true) (hy : bw y 10 = true) : ∃ a b : Nat, a < 10 ∧ b < 10 ∧ x = nI a ∧ y = nI b := by
  obtain ⟨a, e1, h1, g1⟩ := bw_of hx
  obtain ⟨b, e2, h2, g2⟩ := bw_of hy
  rw [k_10] at h1 h2
  exact ⟨a, b, by omega, by omega, e1, e2⟩
theorem nI_mul (a b : Nat) : nI a * nI b = nI (a * b) := by
  apply Int32.toBitVec_inj.mp
  simp [nI, Int32.toBitVec_mul]
theorem idx10 (a b : Nat) : nI a * (10 : Int32) + nI b = nI (10 * a + b) := by
  rw [← l10, nI_mul, nI_add, Nat.mul_comm]
theorem idx10' (a b : Nat) : (10 : Int32) * nI a + nI b = nI (10 * a + b) := by
  rw [← l10, nI_mul, nI_add]
