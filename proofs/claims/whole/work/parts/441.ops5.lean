/-! ENTRIES -/
theorem m_addL {τ : St} {c : Nat} (hc : τ.1 0 17 = nI c) (h : c ≤ 60) (p k g m co d x7 : Int32) : M_addEntry_L75 p k g m co d x7 τ FU 0 = if ltS c (τ.1 12) (τ.1 17) p d = true then some (-3, τ) else M_addEntry_L75 p k g m co d x7 τ 1 (nI c) := by
  unfold ltS
  rw [← fnd_const]
  refine lp_f0 (F := fun n i => M_addEntry_L75 p k g m co d x7 τ n i) ?_ ?_ FU (fu_gt (by omega))
  · intro n; simp only [M_addEntry_L75, hc, n_cmpE, if_true]
  · intro n i hi
    have h1 := n_cmp hi (by omega)
    have h2 : inb (nI i) 60 := n_inb (by omega) (by decide)
    have h3 := n_tn (k := i) (by omega)
    simp only [M_addEntry_L75, hc, h1, if_pos h2, h3, nI_1, if_false]
    by_cases q : τ.1 12 i = p <;> by_cases w : τ.1 17 i ≤ d <;> simp [q, w]
theorem rF_push {cp c : Int32} {pa ki go ma co da : Nat → Int32} {c' : Int32} {pa' ki' go' ma' co' da' : Nat → Int32} (h : rF cp c pa ki go ma co da c' pa' ki' go' ma' co' da') (hq : ¬ c = 60) {x1 x2 x3 x4 x5 x6 : Int32} (h1 : 0 ≤ x1.toInt ∧ x1.toInt < cp.toInt ∧ x1.toInt ≤ 11) (h2 : 0 ≤ x2.toInt ∧ x2.toInt ≤ 4) (h3 : 0 ≤ x3.toInt ∧ x3.toInt ≤ 7) (h4 : 0 ≤ x4.toInt ∧ x4.toInt ≤ 99) (h5 : 0 ≤ x5.toInt ∧ x5.toInt ≤ 999) (h6 : 0 ≤ x6.toInt ∧ x6.toInt ≤ 9999)
    (hs : ∀ i : Nat, (i : Int) < c.toInt → pa i = x1 → (da i).toInt ≤ x6.toInt) : rF cp (c + 1) (upd pa c.toNatClampNeg x1) (upd ki c.toNatClampNeg x2) (upd go c.toNatClampNeg x3) (upd ma c.toNatClampNeg x4) (upd co c.toNatClampNeg x5) (upd da c.toNatClampNeg x6) (c + 1) (upd pa' c.toNatClampNeg x1) (upd ki' c.toNatClampNeg x2) (upd go' c.toNatClampNeg x3) (upd ma' c.toNatClampNeg x4) (upd co' c.toNatClampNeg x5) (upd da' c.toNatClampNeg x6) := by
  obtain ⟨⟨e1, e2, e3, e4, e5, e6, e7⟩, c1, i1, i2, i3, i4, i5, i6, d1, d2⟩ := h
  subst e1; subst e2; subst e3; subst e4; subst e5; subst e6; subst e7
  have hup := cn_up c1 (by decide) (by rw [l60]; exact hq)
  have hT := cn_upT c1 (by decide)
  have hN : c.toNatClampNeg = c.toInt.toNat := rfl
  have g := cn_toInt c1 (by decide)
  refine ⟨⟨rfl, rfl, rfl, rfl, rfl, rfl, rfl⟩, hup, ir_upd i1 h1.1 h1.2.2, ir_upd i2 h2.1 h2.2, ir_upd i3 h3.1 h3.2, ir_upd i4 h4.1 h4.2, ir_upd i5 h5.1 h5.2, ir_upd i6 h6.1 h6.2, d_upd c1 d1 hT h1.2.1, ?_⟩
  intro i j hij hj he
  rw [upd_at, upd_at] at he
  rw [upd_at, upd_at]
  by_cases a : i = c.toNatClampNeg
  · have b : j = c.toNatClampNeg := by omega
    rw [if_pos a, if_pos b]; omega
  · by_cases b : j = c.toNatClampNeg
    · rw [if_neg a, if_pos b] at he
      rw [if_neg a, if_pos b]
      exact hs i (by omega) he
    · rw [if_neg a, if_neg b] at he
      rw [if_neg a, if_neg b]
      exact d2 i j hij (by omega) he
theorem ltS_false {c : Nat} {pa da : Nat → Int32} {p d : Int32} (h : ltS c pa da p d = false) : ∀ i, i < c → pa i = p → (da i).toInt ≤ d.toInt := by
  intro i hi e
  unfold ltS at h
  rcases fnd_at (fun e => decide (pa e = p) && !decide (da e ≤ d)) (fun _ => true) false c 0 with ⟨j, h1, h2, h3, h4, h5⟩ | ⟨h1, h2⟩
  · rw [h5] at h; cases h
  · have := h1 i (Nat.zero_le _) (by omega)
    simp only [e, decide_true, Bool.true_and, Bool.not_eq_false', decide_eq_true_eq, n_le] at this
    exact this
/-- what adding an ENTRY leaves as it was -/
def FrE (σ σ' τ τ' : St) (r : Int32) : Prop := (∀ k, (k < 28 ∨ 34 < k) → σ'.1 k = σ.1 k) ∧ (σ.1 28 6).toInt ≤ (σ'.1 28 6).toInt ∧ (∀ k, k ≠ 17 → τ'.1 0 k = τ.1 0 k) ∧ (∀ k, k ≠ 0 → (k < 12 ∨ 17 < k) → τ'.1 k = τ.1 k) ∧ (r.toInt < 0 → σ' = σ ∧ τ' = τ)
theorem frE_refl (σ τ : St) (r : Int32) : FrE σ σ τ τ r := ⟨fun _ _ => rfl, Int.le_refl _, fun _ _ => rfl, fun _ _ _ => rfl, fun _ => ⟨rfl, rfl⟩⟩
theorem bi_t : bi true = 1 := rfl
theorem bi_f : bi false = 0 := rfl
theorem bi0' : True := trivial
set_option maxHeartbeats 4000000 in
theorem addE {n : Nat} {Z : Prop} {σ τ : St} (h : RelX Z n σ τ) (x1 x2 x3 x4 x5 x6 : Int32) (hp : bw x1 (σ.1 21 3) = true) : ∃ r σ' τ', Ledger_add x1 x2 x3 x4 x5 x6 σ = some (r, σ') ∧ M_addEntry x1 x2 x3 x4 x5 x6 τ = some (r, τ') ∧ RelX Z n σ' τ' ∧ FrE σ σ' τ τ' r := by
  obtain ⟨hA, hB, hC, hD, hE, hS, hF, hG, hH, hI, hJ, hK, hL, hM⟩ := id h
  obtain ⟨⟨eE1, eE2, eE3, eE4⟩, cE, iE1, iE2, iE3, iE4⟩ := id hE
  obtain ⟨⟨eF1, eF2, eF3, eF4, eF5, eF6, eF7⟩, cF, iF1, iF2, iF3, iF4, iF5, iF6, dF1, dF2⟩ := id hF
  obtain ⟨kF, hkF, ekF⟩ := id cF
  have a1 := s_latestDay ekF hkF x1
  have a2 := fun c7 => m_addL (τ := τ) (eF1 ▸ ekF) hkF x1 x2 x3 x4 x5 x6 c7
  rw [← eF2, ← eF7] at a2
  have b1 := s_heldOn ekF hkF x1 x3 10000
  have b2 := m_heldOf (τ := τ) (eF1 ▸ ekF) hkF x1 x3 9999
  rw [heS_top iF6] at b1
  rw [← eF2, ← eF3, ← eF4, ← eF5, ← eF7] at b2
  have hcl : τ.1 0 17 ≤ nI kF := by rw [← eF1, ekF]; exact n_cmpE kF
  have hf := cn_full cF (by decide)
  rw [l60] at hf
  have hk := n_ti (k := kF) (by omega)
  have hT := cn_upT cF (by decide)
  have h1 := bw_toInt hp
  have g1 := cn_toInt cE (by decide)
  simp only [Ledger_add, M_addEntry, bl_split, g_below, g_in2, g_in4, g_isGood, g_in199, g_inN, g_isDay, a1, a2, Option.bind_some, Bool.not_true, Bool.not_false, Bool.false_eq_true, if_true, if_false, eq_self, not_true, not_false_iff, sub_add]
  cases hx : bw x2 5
  · simp only [Option.bind_some, Bool.not_true, Bool.not_false, Bool.false_eq_true, if_true, if_false, eq_self, not_true, not_false_iff, sub_add]
    exact ⟨_, _, _, rfl, rfl, h, frE_refl σ τ _⟩
  · cases hy : bw x3 8
    · simp only [Option.bind_some, Bool.not_true, Bool.not_false, Bool.false_eq_true, if_true, if_false, eq_self, not_true, not_false_iff, sub_add]
      exact ⟨_, _, _, rfl, rfl, h, frE_refl σ τ _⟩
    · cases hz : bl x4 1 99
      · simp only [Option.bind_some, Bool.not_true, Bool.not_false, Bool.false_eq_true, if_true, if_false, eq_self, not_true, not_false_iff, sub_add]
        exact ⟨_, _, _, rfl, rfl, h, frE_refl σ τ _⟩
      · have h2 := bw_toInt hx
        have h3 := bw_toInt hy
        have h4 := bl_iff.mp hz
        rw [k_5] at h2
        rw [k_8] at h3
        rw [k_1, k_99] at h4
        by_cases hpr : 2 < x2
        · have hp3 : bw x2 3 = false := by
            cases hc : bw x2 3
            · rfl
            · have := bw_toInt hc
              rw [k_3] at this
              rw [n_lt, k_2] at hpr
              omega
          cases hd : bw x6 10000
          · simp only [hpr, hp3, Option.bind_some, Bool.not_true, Bool.not_false, Bool.false_eq_true, if_true, if_false, eq_self, not_true, not_false_iff, sub_add]
            exact ⟨_, _, _, rfl, rfl, h, frE_refl σ τ _⟩
          · have h6 := bw_toInt hd
            rw [n_10000] at h6
            have hld := ld_lt (c := kF) (fun i j a b e => dF2 i j a (by rw [ekF, hk]; omega) e) x1 x6 h6.1
            simp only [hpr, hp3, bi_f, Option.bind_some, Bool.not_true, Bool.not_false, Bool.false_eq_true, if_true, if_false, eq_self, not_true, not_false_iff, sub_add]
            cases hw : ltS kF (σ.1 29) (σ.1 34) x1 x6
            · have hld2 := hld.mpr hw
              simp only [hld2, hw, M_addEntry_L75, hcl, Option.bind_some, Bool.not_true, Bool.not_false, Bool.false_eq_true, if_true, if_false, eq_self, not_true, not_false_iff, sub_add]
              by_cases hk2 : x2 < 2
              · have hk3 : x2 ≤ 1 := by rw [n_lt, k_2] at hk2; rw [n_le, k_1]; omega
                simp only [hk2, hk3, Option.bind_some, Bool.not_true, Bool.not_false, Bool.false_eq_true, if_true, if_false, eq_self, not_true, not_false_iff, sub_add]
                by_cases hq : σ.1 28 6 = 60
                · have hq' : τ.1 0 17 = 60 := by rw [← eF1]; exact hq
                  simp only [hf, hq, hq', bi0', Option.bind_some, Bool.not_true, Bool.not_false, Bool.false_eq_true, if_true, if_false, eq_self, not_true, not_false_iff, sub_add]
                  exact ⟨_, _, _, rfl, rfl, h, frE_refl σ τ _⟩
                · have hq' : ¬ τ.1 0 17 = 60 := by rw [← eF1]; exact hq
                  have hin := cn_in cF (by decide) (by rw [l60]; exact hq)
                  have hin' : inb (τ.1 0 17) 60 := by rw [← eF1]; exact hin
                  have hr := rF_push hF hq (x1 := x1) (x2 := x2) (x3 := x3) (x4 := x4) (x5 := 0) (x6 := x6) ⟨h1.1, h1.2, by omega⟩ ⟨h2.1, by omega⟩ ⟨h3.1, by omega⟩ ⟨by omega, by omega⟩ ⟨by decide, by decide⟩ ⟨h6.1, by omega⟩ (fun i hi e => ltS_false hw i (by rw [ekF, hk] at hi; omega) e)
                  simp only [hf, hq, hq', if_pos hin, if_pos hin', bi0', Option.bind_some, Bool.not_true, Bool.not_false, Bool.false_eq_true, if_true, if_false, eq_self, not_true, not_false_iff, sub_add]
                  rw [eF1] at hr
                  rw [eF1]
                  refine ⟨_, _, _, rfl, rfl, ⟨hA, hB, hC, hD, hE, hS, hr, hG, hH, hI, hJ, hK, hL, hM⟩, fun k hk => ?_, ?_, fun k hk => ?_, fun k hk0 hk => ?_, fun hneg => ?_⟩
                  · rcases hk with hk | hk
                    · simp [wI, show k ≠ 28 by omega, show k ≠ 29 by omega, show k ≠ 30 by omega, show k ≠ 31 by omega, show k ≠ 32 by omega, show k ≠ 33 by omega, show k ≠ 34 by omega]
                    · simp [wI, show k ≠ 28 by omega, show k ≠ 29 by omega, show k ≠ 30 by omega, show k ≠ 31 by omega, show k ≠ 32 by omega, show k ≠ 33 by omega, show k ≠ 34 by omega]
                  · show (σ.1 28 6).toInt ≤ (τ.1 0 17 + 1).toInt
                    rw [← eF1]; omega
                  · simp [wI, upd, hk]
                  · rcases hk with hk | hk
                    · simp [wI, hk0, show k ≠ 12 by omega, show k ≠ 13 by omega, show k ≠ 14 by omega, show k ≠ 15 by omega, show k ≠ 16 by omega, show k ≠ 17 by omega]
                    · simp [wI, hk0, show k ≠ 12 by omega, show k ≠ 13 by omega, show k ≠ 14 by omega, show k ≠ 15 by omega, show k ≠ 16 by omega, show k ≠ 17 by omega]
                  · exfalso
                    rw [← eF1] at hneg
                    have := cn_toInt cF (by decide)
                    omega
              · have hk3 : ¬ x2 ≤ 1 := by rw [n_lt, k_2] at hk2; rw [n_le, k_1]; omega
                simp only [hk2, hk3, b1, b2, Option.bind_some, Bool.not_true, Bool.not_false, Bool.false_eq_true, if_true, if_false, eq_self, not_true, not_false_iff, sub_add]
                by_cases hh : x4 ≤ heS kF (σ.1 29) (σ.1 30) (σ.1 31) (σ.1 32) (σ.1 34) x1 x3 9999
                · simp only [hh, Option.bind_some, Bool.not_true, Bool.not_false, Bool.false_eq_true, if_true, if_false, eq_self, not_true, not_false_iff, sub_add]
                  by_cases hq : σ.1 28 6 = 60
                  · have hq' : τ.1 0 17 = 60 := by rw [← eF1]; exact hq
                    simp only [hf, hq, hq', bi0', Option.bind_some, Bool.not_true, Bool.not_false, Bool.false_eq_true, if_true, if_false, eq_self, not_true, not_false_iff, sub_add]
                    exact ⟨_, _, _, rfl, rfl, h, frE_refl σ τ _⟩
                  · have hq' : ¬ τ.1 0 17 = 60 := by rw [← eF1]; exact hq
                    have hin := cn_in cF (by decide) (by rw [l60]; exact hq)
                    have hin' : inb (τ.1 0 17) 60 := by rw [← eF1]; exact hin
                    have hr := rF_push hF hq (x1 := x1) (x2 := x2) (x3 := x3) (x4 := x4) (x5 := 0) (x6 := x6) ⟨h1.1, h1.2, by omega⟩ ⟨h2.1, by omega⟩ ⟨h3.1, by omega⟩ ⟨by omega, by omega⟩ ⟨by decide, by decide⟩ ⟨h6.1, by omega⟩ (fun i hi e => ltS_false hw i (by rw [ekF, hk] at hi; omega) e)
                    simp only [hf, hq, hq', if_pos hin, if_pos hin', bi0', Option.bind_some, Bool.not_true, Bool.not_false, Bool.false_eq_true, if_true, if_false, eq_self, not_true, not_false_iff, sub_add]
                    rw [eF1] at hr
                    rw [eF1]
                    refine ⟨_, _, _, rfl, rfl, ⟨hA, hB, hC, hD, hE, hS, hr, hG, hH, hI, hJ, hK, hL, hM⟩, fun k hk => ?_, ?_, fun k hk => ?_, fun k hk0 hk => ?_, fun hneg => ?_⟩
                    · rcases hk with hk | hk
                      · simp [wI, show k ≠ 28 by omega, show k ≠ 29 by omega, show k ≠ 30 by omega, show k ≠ 31 by omega, show k ≠ 32 by omega, show k ≠ 33 by omega, show k ≠ 34 by omega]
                      · simp [wI, show k ≠ 28 by omega, show k ≠ 29 by omega, show k ≠ 30 by omega, show k ≠ 31 by omega, show k ≠ 32 by omega, show k ≠ 33 by omega, show k ≠ 34 by omega]
                    · show (σ.1 28 6).toInt ≤ (τ.1 0 17 + 1).toInt
                      rw [← eF1]; omega
                    · simp [wI, upd, hk]
                    · rcases hk with hk | hk
                      · simp [wI, hk0, show k ≠ 12 by omega, show k ≠ 13 by omega, show k ≠ 14 by omega, show k ≠ 15 by omega, show k ≠ 16 by omega, show k ≠ 17 by omega]
                      · simp [wI, hk0, show k ≠ 12 by omega, show k ≠ 13 by omega, show k ≠ 14 by omega, show k ≠ 15 by omega, show k ≠ 16 by omega, show k ≠ 17 by omega]
                    · exfalso
                      rw [← eF1] at hneg
                      have := cn_toInt cF (by decide)
                      omega
                · simp only [hh, Option.bind_some, Bool.not_true, Bool.not_false, Bool.false_eq_true, if_true, if_false, eq_self, not_true, not_false_iff, sub_add]
                  exact ⟨_, _, _, rfl, rfl, h, frE_refl σ τ _⟩
            · have hld2 : ¬ ldS kF (σ.1 29) (σ.1 34) x1 ≤ x6 := fun q => by rw [hld.mp q] at hw; cases hw
              simp only [hld2, hw, Option.bind_some, Bool.not_true, Bool.not_false, Bool.false_eq_true, if_true, if_false, eq_self, not_true, not_false_iff, sub_add]
              exact ⟨_, _, _, rfl, rfl, h, frE_refl σ τ _⟩
        · have hp3 : bw x2 3 = true := by
            rw [bw_iff, k_3]
            rw [n_lt, k_2] at hpr
            omega
          cases hc5 : bw x5 1000
          · simp only [hpr, hp3, Option.bind_some, Bool.not_true, Bool.not_false, Bool.false_eq_true, if_true, if_false, eq_self, not_true, not_false_iff, sub_add]
            exact ⟨_, _, _, rfl, rfl, h, frE_refl σ τ _⟩
          · have h5 := bw_toInt hc5
            rw [k_1000] at h5
            cases hd : bw x6 10000
            · simp only [hpr, hp3, Option.bind_some, Bool.not_true, Bool.not_false, Bool.false_eq_true, if_true, if_false, eq_self, not_true, not_false_iff, sub_add]
              exact ⟨_, _, _, rfl, rfl, h, frE_refl σ τ _⟩
            · have h6 := bw_toInt hd
              rw [n_10000] at h6
              have hld := ld_lt (c := kF) (fun i j a b e => dF2 i j a (by rw [ekF, hk]; omega) e) x1 x6 h6.1
              simp only [hpr, hp3, bi_t, ne10, Option.bind_some, Bool.not_true, Bool.not_false, Bool.false_eq_true, if_true, if_false, eq_self, not_true, not_false_iff, sub_add]
              cases hw : ltS kF (σ.1 29) (σ.1 34) x1 x6
              · have hld2 := hld.mpr hw
                simp only [hld2, hw, M_addEntry_L75, hcl, Option.bind_some, Bool.not_true, Bool.not_false, Bool.false_eq_true, if_true, if_false, eq_self, not_true, not_false_iff, sub_add]
                by_cases hk2 : x2 < 2
                · have hk3 : x2 ≤ 1 := by rw [n_lt, k_2] at hk2; rw [n_le, k_1]; omega
                  simp only [hk2, hk3, Option.bind_some, Bool.not_true, Bool.not_false, Bool.false_eq_true, if_true, if_false, eq_self, not_true, not_false_iff, sub_add]
                  by_cases hq : σ.1 28 6 = 60
                  · have hq' : τ.1 0 17 = 60 := by rw [← eF1]; exact hq
                    simp only [hf, hq, hq', bi0', Option.bind_some, Bool.not_true, Bool.not_false, Bool.false_eq_true, if_true, if_false, eq_self, not_true, not_false_iff, sub_add]
                    exact ⟨_, _, _, rfl, rfl, h, frE_refl σ τ _⟩
                  · have hq' : ¬ τ.1 0 17 = 60 := by rw [← eF1]; exact hq
                    have hin := cn_in cF (by decide) (by rw [l60]; exact hq)
                    have hin' : inb (τ.1 0 17) 60 := by rw [← eF1]; exact hin
                    have hr := rF_push hF hq (x1 := x1) (x2 := x2) (x3 := x3) (x4 := x4) (x5 := x5) (x6 := x6) ⟨h1.1, h1.2, by omega⟩ ⟨h2.1, by omega⟩ ⟨h3.1, by omega⟩ ⟨by omega, by omega⟩ ⟨h5.1, by omega⟩ ⟨h6.1, by omega⟩ (fun i hi e => ltS_false hw i (by rw [ekF, hk] at hi; omega) e)
                    simp only [hf, hq, hq', if_pos hin, if_pos hin', bi0', Option.bind_some, Bool.not_true, Bool.not_false, Bool.false_eq_true, if_true, if_false, eq_self, not_true, not_false_iff, sub_add]
                    rw [eF1] at hr
                    rw [eF1]
                    refine ⟨_, _, _, rfl, rfl, ⟨hA, hB, hC, hD, hE, hS, hr, hG, hH, hI, hJ, hK, hL, hM⟩, fun k hk => ?_, ?_, fun k hk => ?_, fun k hk0 hk => ?_, fun hneg => ?_⟩
                    · rcases hk with hk | hk
                      · simp [wI, show k ≠ 28 by omega, show k ≠ 29 by omega, show k ≠ 30 by omega, show k ≠ 31 by omega, show k ≠ 32 by omega, show k ≠ 33 by omega, show k ≠ 34 by omega]
                      · simp [wI, show k ≠ 28 by omega, show k ≠ 29 by omega, show k ≠ 30 by omega, show k ≠ 31 by omega, show k ≠ 32 by omega, show k ≠ 33 by omega, show k ≠ 34 by omega]
                    · show (σ.1 28 6).toInt ≤ (τ.1 0 17 + 1).toInt
                      rw [← eF1]; omega
                    · simp [wI, upd, hk]
                    · rcases hk with hk | hk
                      · simp [wI, hk0, show k ≠ 12 by omega, show k ≠ 13 by omega, show k ≠ 14 by omega, show k ≠ 15 by omega, show k ≠ 16 by omega, show k ≠ 17 by omega]
                      · simp [wI, hk0, show k ≠ 12 by omega, show k ≠ 13 by omega, show k ≠ 14 by omega, show k ≠ 15 by omega, show k ≠ 16 by omega, show k ≠ 17 by omega]
                    · exfalso
                      rw [← eF1] at hneg
                      have := cn_toInt cF (by decide)
                      omega
                · have hk3 : ¬ x2 ≤ 1 := by rw [n_lt, k_2] at hk2; rw [n_le, k_1]; omega
                  simp only [hk2, hk3, b1, b2, Option.bind_some, Bool.not_true, Bool.not_false, Bool.false_eq_true, if_true, if_false, eq_self, not_true, not_false_iff, sub_add]
                  by_cases hh : x4 ≤ heS kF (σ.1 29) (σ.1 30) (σ.1 31) (σ.1 32) (σ.1 34) x1 x3 9999
                  · simp only [hh, Option.bind_some, Bool.not_true, Bool.not_false, Bool.false_eq_true, if_true, if_false, eq_self, not_true, not_false_iff, sub_add]
                    by_cases hq : σ.1 28 6 = 60
                    · have hq' : τ.1 0 17 = 60 := by rw [← eF1]; exact hq
                      simp only [hf, hq, hq', bi0', Option.bind_some, Bool.not_true, Bool.not_false, Bool.false_eq_true, if_true, if_false, eq_self, not_true, not_false_iff, sub_add]
                      exact ⟨_, _, _, rfl, rfl, h, frE_refl σ τ _⟩
                    · have hq' : ¬ τ.1 0 17 = 60 := by rw [← eF1]; exact hq
                      have hin := cn_in cF (by decide) (by rw [l60]; exact hq)
                      have hin' : inb (τ.1 0 17) 60 := by rw [← eF1]; exact hin
                      have hr := rF_push hF hq (x1 := x1) (x2 := x2) (x3 := x3) (x4 := x4) (x5 := x5) (x6 := x6) ⟨h1.1, h1.2, by omega⟩ ⟨h2.1, by omega⟩ ⟨h3.1, by omega⟩ ⟨by omega, by omega⟩ ⟨h5.1, by omega⟩ ⟨h6.1, by omega⟩ (fun i hi e => ltS_false hw i (by rw [ekF, hk] at hi; omega) e)
                      simp only [hf, hq, hq', if_pos hin, if_pos hin', bi0', Option.bind_some, Bool.not_true, Bool.not_false, Bool.false_eq_true, if_true, if_false, eq_self, not_true, not_false_iff, sub_add]
                      rw [eF1] at hr
                      rw [eF1]
                      refine ⟨_, _, _, rfl, rfl, ⟨hA, hB, hC, hD, hE, hS, hr, hG, hH, hI, hJ, hK, hL, hM⟩, fun k hk => ?_, ?_, fun k hk => ?_, fun k hk0 hk => ?_, fun hneg => ?_⟩
                      · rcases hk with hk | hk
                        · simp [wI, show k ≠ 28 by omega, show k ≠ 29 by omega, show k ≠ 30 by omega, show k ≠ 31 by omega, show k ≠ 32 by omega, show k ≠ 33 by omega, show k ≠ 34 by omega]
                        · simp [wI, show k ≠ 28 by omega, show k ≠ 29 by omega, show k ≠ 30 by omega, show k ≠ 31 by omega, show k ≠ 32 by omega, show k ≠ 33 by omega, show k ≠ 34 by omega]
                      · show (σ.1 28 6).toInt ≤ (τ.1 0 17 + 1).toInt
                        rw [← eF1]; omega
                      · simp [wI, upd, hk]
                      · rcases hk with hk | hk
                        · simp [wI, hk0, show k ≠ 12 by omega, show k ≠ 13 by omega, show k ≠ 14 by omega, show k ≠ 15 by omega, show k ≠ 16 by omega, show k ≠ 17 by omega]
                        · simp [wI, hk0, show k ≠ 12 by omega, show k ≠ 13 by omega, show k ≠ 14 by omega, show k ≠ 15 by omega, show k ≠ 16 by omega, show k ≠ 17 by omega]
                      · exfalso
                        rw [← eF1] at hneg
                        have := cn_toInt cF (by decide)
                        omega
                  · simp only [hh, Option.bind_some, Bool.not_true, Bool.not_false, Bool.false_eq_true, if_true, if_false, eq_self, not_true, not_false_iff, sub_add]
                    exact ⟨_, _, _, rfl, rfl, h, frE_refl σ τ _⟩
              · have hld2 : ¬ ldS kF (σ.1 29) (σ.1 34) x1 ≤ x6 := fun q => by rw [hld.mp q] at hw; cases hw
                simp only [hld2, hw, Option.bind_some, Bool.not_true, Bool.not_false, Bool.false_eq_true, if_true, if_false, eq_self, not_true, not_false_iff, sub_add]
                exact ⟨_, _, _, rfl, rfl, h, frE_refl σ τ _⟩

theorem rel_fresh {n : Nat} {σ τ : St} (h : Rel0 n σ τ) : Rel0 n (wI σ 35 4 0) τ := h
set_option maxHeartbeats 2000000 in
theorem op_entry {n : Nat} {σ τ : St} (h : Rel0 n σ τ) (x1 x2 x3 x4 x5 x6 : Int32) : ∃ r σ' τ', P_entry x1 x2 x3 x4 x5 x6 σ = some (r, σ') ∧ M_entry x1 x2 x3 x4 x5 x6 τ = some (r, τ') ∧ Rel0 n σ' τ' ∧ Sx σ σ' := by
  obtain ⟨hA, hB, hC, hD, hE, hS, hF, hG, hH, hI, hJ, hK, hL, hM⟩ := id h
  obtain ⟨⟨eE1, eE2, eE3, eE4⟩, cE, iE1, iE2, iE3, iE4⟩ := id hE
  simp only [P_entry, M_entry, g_packsHas, g_noPack, ← eE1, Option.bind_some, Bool.not_true, Bool.not_false, Bool.false_eq_true, if_true, if_false, eq_self, not_true, not_false_iff, sub_add]
  cases hx : bw x1 (σ.1 21 3)
  · simp only [Option.bind_some, Bool.not_true, Bool.not_false, Bool.false_eq_true, if_true, if_false, eq_self, not_true, not_false_iff, sub_add]
    exact ⟨_, _, _, rfl, rfl, h, sx_refl σ⟩
  · obtain ⟨r, σ', τ', q1, q2, q3, q4⟩ := addE (rel_fresh h) x1 x2 x3 x4 x5 x6 hx
    simp only [q1, q2, Option.bind_some, Bool.not_true, Bool.not_false, Bool.false_eq_true, if_true, if_false, eq_self, not_true, not_false_iff, sub_add]
    have e := q4.1
    exact ⟨_, _, _, rfl, rfl, rel_swap q3 ⟨by rw [e 0 (by omega), q4.2.2.1 0 (by decide)]; exact hM.1, by rw [e 0 (by omega), q4.2.2.1 78 (by decide)]; exact hM.2⟩, Or.inl (by rw [e 35 (by omega)]; rfl), Or.inr ⟨by rw [e 57 (by omega)]; rfl, by rw [e 58 (by omega)]; rfl, by rw [e 59 (by omega)]; rfl, by rw [e 61 (by omega)]; rfl, by rw [e 62 (by omega)]; rfl⟩, Or.inr ⟨by rw [e 67 (by omega)]; rfl, by rw [e 67 (by omega)]; rfl, by rw [e 67 (by omega)]; rfl, by rw [e 67 (by omega)]; rfl, by rw [e 68 (by omega)]; rfl, by rw [e 69 (by omega)]; rfl, by rw [e 70 (by omega)]; rfl, by rw [e 71 (by omega)]; rfl, by rw [e 72 (by omega)]; rfl, fun i _ => by rw [e 5 (by omega)]; rfl⟩⟩
