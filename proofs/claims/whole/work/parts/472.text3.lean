def coreP (x1 x2 x3 x4 x5 x6 x7 : Int32) (s : St) : Option (Int32 × St) :=
  Option.bind (P_areDays x2 x3 s) fun r38 =>
  if r38 = true then
    Option.bind (P_isBelow x5 (3 : Int32) s) fun r47 =>
    if r47 = true then
      Option.bind (Sheets_takingFault x4 x5 x6 (Int32.toInt64 x7) s) fun r69 =>
      if r69 = 0 then
        Option.bind (Texts_read x4 x6 x7 s) fun q100 =>
        if q100.1 = (-9 : Int32) then
          Option.bind (Texts_keep x1 x2 x3 q100.2) fun q125 =>
          some (q125.1, q125.2)
        else
          some (((-100 : Int32) - q100.1), q100.2)
      else
        Option.bind (P_faulted r69 s) fun q82 =>
        some (q82.1, q82.2)
    else
      some ((-2 : Int32), s)
  else
    some ((-2 : Int32), s)
def coreM (x1 x2 x3 x4 x5 x6 x7 : Int32) (σ : St) : Option (Int32 × St) :=
  Option.bind (M_areDays x2 x3 σ) fun r28 =>
  if r28 = true then
    Option.bind (M_barred x4 x5 x6 (Int32.toInt64 x7) σ) fun q51 =>
    if 0 ≤ q51.1 then
      Option.bind (M_read (((60 : Int32) * x4) + x6) x7 q51.2) fun q75 =>
      if q75.1 < 0 then
        if (q75.2.1 0 26) = (10 : Int32) then
          Option.bind (M_refused (-4 : Int32) q75.2) fun q107 =>
          some (q107.1, q107.2)
        else
          if inb (q75.2.1 0 26) 10 then
            if inb (q75.2.1 0 26) 10 then
              if inb (q75.2.1 0 26) 10 then
                if inb (q75.2.1 0 26) 10 then
                  M_text_L157 FU (0 : Int32) (wI (wI (wI (wI q75.2 20 (Int32.toNatClampNeg (q75.2.1 0 26)) x1) 21 (Int32.toNatClampNeg (q75.2.1 0 26)) x2) 22 (Int32.toNatClampNeg (q75.2.1 0 26)) x3) 23 (Int32.toNatClampNeg (q75.2.1 0 26)) (q75.2.1 0 33))
                else none
              else none
            else none
          else none
      else
        Option.bind (M_refused ((-100 : Int32) - q75.1) q75.2) fun q91 =>
        some (q91.1, q91.2)
    else
      some (q51.1, q51.2)
  else
    Option.bind (M_refused (-2 : Int32) σ) fun q37 =>
    some (q37.1, q37.2)
def ldk (x1 : Int32) : Bool := decide (x1 = -1) || bw x1 6
theorem z_tP (x1 x2 x3 x4 x5 x6 x7 : Int32) (σ : St) : P_text x1 x2 x3 x4 x5 x6 x7 σ = if bw x4 4 = true then if ldk x1 = true then coreP x1 x2 x3 x4 x5 x6 x7 (wI σ 0 13 0) else some (-2, wI σ 0 13 0) else some (-1, wI σ 0 13 0) := by
  unfold P_text ldk
  rw [g_sheetsHas, Option.bind_some]
  cases bw x4 4
  · rw [if_neg (by decide), if_neg (by decide)]
  · rw [if_pos rfl, if_pos rfl]
    by_cases e : x1 = -1
    · rw [if_pos e, if_pos (by simp [e])]; rfl
    · rw [if_neg e, g_below, Option.bind_some]
      cases q : bw x1 6
      · rw [if_neg (by decide), if_neg (by simp [e])]
      · rw [if_pos rfl, if_pos (by simp)]; rfl
theorem z_tM (x1 x2 x3 x4 x5 x6 x7 : Int32) (τ : St) : M_text x1 x2 x3 x4 x5 x6 x7 τ = if bw x4 4 = true then if ldk x1 = true then coreM x1 x2 x3 x4 x5 x6 x7 τ else some (-2, wI τ 0 0 0) else some (-1, wI τ 0 0 0) := by
  unfold M_text ldk
  rw [g_noSheet, Option.bind_some]
  cases bw x4 4
  · rw [if_pos (by decide), if_neg (by decide)]; rfl
  · rw [if_neg (by decide), if_pos rfl]
    by_cases e : x1 = -1
    · rw [if_pos e, if_pos (by simp [e])]; rfl
    · rw [if_neg e, g_isLand, Option.bind_some]
      cases q : bw x1 6
      · rw [if_neg (by decide), if_neg (by simp [e])]; rfl
      · rw [if_pos rfl, if_pos (by simp)]; rfl
theorem ldk_b {x1 : Int32} (h : ldk x1 = true) : -1 ≤ x1.toInt ∧ x1.toInt ≤ 5 := by
  unfold ldk at h
  simp only [Bool.or_eq_true, decide_eq_true_eq] at h
  rcases h with e | e
  · subst e; decide
  · rw [bw_iff, show (6 : Int32).toInt = 6 by decide] at e; omega
theorem sx_frK {σ σ' : St} (e : ∀ c, 0 < c → (c < 40 ∨ 48 < c) → σ'.1 c = σ.1 c) : Sx σ σ' := ⟨Or.inr ⟨by rw [e 35 (by omega) (by omega)], e 36 (by omega) (by omega), by rw [e 6 (by omega) (by omega)], e 7 (by omega) (by omega), e 8 (by omega) (by omega), e 9 (by omega) (by omega), e 10 (by omega) (by omega), by rw [e 28 (by omega) (by omega)], e 29 (by omega) (by omega), e 34 (by omega) (by omega), fun i _ => by rw [e 23 (by omega) (by omega)]⟩, Or.inr ⟨by rw [e 57 (by omega) (by omega)], by rw [e 58 (by omega) (by omega)], by rw [e 59 (by omega) (by omega)], by rw [e 61 (by omega) (by omega)], by rw [e 62 (by omega) (by omega)]⟩, Or.inr ⟨by rw [e 67 (by omega) (by omega)], by rw [e 67 (by omega) (by omega)], by rw [e 67 (by omega) (by omega)], by rw [e 67 (by omega) (by omega)], by rw [e 68 (by omega) (by omega)], by rw [e 69 (by omega) (by omega)], by rw [e 70 (by omega) (by omega)], by rw [e 71 (by omega) (by omega)], by rw [e 72 (by omega) (by omega)], fun i _ => by rw [e 5 (by omega) (by omega)]⟩⟩
set_option maxHeartbeats 2000000 in
theorem op_text {n : Nat} {σ τ : St} (h : Rel0 n σ τ) (x1 x2 x3 x4 x5 x6 x7 : Int32) : ∃ r σ' τ', P_text x1 x2 x3 x4 x5 x6 x7 σ = some (r, σ') ∧ M_text x1 x2 x3 x4 x5 x6 x7 τ = some (r, τ') ∧ Rel0 n σ' τ' ∧ Sx σ σ' := by
  obtain ⟨hA, hB, hC, hD, hE, hS, hF, hG, hH, hI, hJ, hK, hL, hM⟩ := id h
  obtain ⟨eM1, eM2⟩ := id hM
  have hs0 : Rel0 n (wI σ 0 13 0) (wI τ 0 0 0) := ⟨hA, hB, hC, hD, hE, hS, hF, hG, hH, hI, hJ, hK, hL, ⟨rfl, eM2⟩⟩
  have hx0 : Sx σ (wI σ 0 13 0) := ⟨Or.inr ⟨rfl, rfl, rfl, rfl, rfl, rfl, rfl, rfl, rfl, rfl, fun _ _ => rfl⟩, Or.inr ⟨rfl, rfl, rfl, rfl, rfl⟩, Or.inr ⟨rfl, rfl, rfl, rfl, rfl, rfl, rfl, rfl, rfl, fun _ _ => rfl⟩⟩
  rw [z_tP, z_tM]
  cases hx : bw x4 4
  · rw [if_neg (by decide), if_neg (by decide)]
    exact ⟨_, _, _, rfl, rfl, hs0, hx0⟩
  · rw [if_pos rfl, if_pos rfl]
    cases hl : ldk x1
    · rw [if_neg (by decide), if_neg (by decide)]
      exact ⟨_, _, _, rfl, rfl, hs0, hx0⟩
    · rw [if_pos rfl, if_pos rfl]
      unfold coreP coreM
      rw [g_pdays, g_mdays, Option.bind_some, Option.bind_some]
      cases hd : bd x2 x3
      · rw [if_neg (by decide), if_neg (by decide)]
        exact ⟨_, _, _, rfl, rfl, hs0, hx0⟩
      · rw [if_pos rfl, if_pos rfl, g_below, Option.bind_some]
        cases hz : bw x5 3
        · rw [if_neg (by decide), z_barL hz, Option.bind_some, if_neg z_nn2]
          exact ⟨_, _, _, rfl, rfl, hs0, hx0⟩
        · rw [if_pos rfl]
          obtain ⟨k, rfl, hk, hk2⟩ := bw_of hx
          rw [k_4] at hk
          have hr5 := n_rng x7
          rcases y_take hL (k := k) (by omega) hz x6 (Int32.toInt64 x7) (by rw [Int32.toInt_toInt64]; omega) 0 with ⟨a1, a2, s, hs, a3, a4, a5, a6⟩ | ⟨f, hf, a1, a2, a3⟩
          · rw [Int32.toInt_toInt64] at a5 a6
            rw [a1, a2, Option.bind_some, Option.bind_some, if_pos rfl, if_pos (Int32.le_refl _)]
            obtain ⟨a, ha, rfl⟩ := nI_of (x := x6) (by rw [n_lt, n_0]; omega)
            obtain ⟨N, hN, rfl⟩ := nI_of (x := x7) (by rw [n_lt, n_0]; omega)
            rw [n_ti ha, n_ti hN] at a6
            obtain ⟨⟨eG1, eG2, eG3, eG4, eG5⟩, cG, iG1, iG2, iG3, iG4, rtG, ⟨eG6, cG2⟩, rtR⟩ := id hG
            have hX : RelX True n (wI (wI σ 0 13 0) 40 9 0) (wI τ 0 33 0) := ⟨hA, hB, hC, hD, hE, hS, hF, ⟨⟨eG1, eG2, eG3, eG4, eG5⟩, cG, iG1, iG2, iG3, iG4, rtG, ⟨rfl, ⟨0, by omega, rfl⟩⟩, rtR⟩, hH, hI, hJ, hK, hL, trivial⟩
            obtain ⟨σ1, τ1, t1, t2, t3, t4⟩ := y_read (k := k) (a := a) (N := N) (by omega) (by omega) FU 0 0 n _ _ hX rfl (by omega) (by omega) (fu_gt (by omega))
            have z0 := t3 0 (by omega) (by omega) (by omega)
            have f13 : σ1.1 0 13 = 0 := by rw [z0]; rfl
            have f14 : σ1.1 0 14 = τ1.1 0 78 := by rw [z0, t4 78 (by omega)]; exact eM2
            have fr : ∀ c, 0 < c → (c < 40 ∨ 48 < c) → σ1.1 c = σ.1 c := by
              intro c c0 hc
              rw [t3 c (by omega) (by omega) (by omega)]
              have d1 : c ≠ 0 := by omega
              have d2 : c ≠ 40 := by omega
              simp [wI, d1, d2]
            have rd1 : Texts_read (nI k) (nI a) (nI N) (wI σ 0 13 0) = Texts_read_L11 (nI k) (nI a) (nI N) FU (nI 0) (nI (0 + 1)) (wI (wI σ 0 13 0) 40 9 0) := rfl
            have rd2 : M_read (60 * nI k + nI a) (nI N) τ = M_read_L10 (nI (60 * k + a)) (nI N) FU (nI 0) 1 (wI τ 0 33 0) := by rw [idx60']; rfl
            rcases t1 with ⟨q, hq, c1, m1⟩ | ⟨c1, m1⟩
            · rw [rd1, c1, Option.bind_some, if_neg (show ¬ nI q = -9 by rw [n_eq, n_ti (by omega), show (-9 : Int32).toInt = -9 by decide]; omega)]
              rw [rd2, m1, Option.bind_some, if_neg (show ¬ nI q < 0 by rw [n_lt, n_0, n_ti (by omega)]; omega)]
              exact ⟨_, _, _, rfl, rfl, rel_swap (rel_flt t2 0) ⟨f13, f14⟩, sx_frK fr⟩
            · rw [rd1, c1, Option.bind_some, if_pos rfl, rd2, m1, Option.bind_some, if_pos (show (-1 : Int32) < 0 by decide)]
              obtain ⟨hA, hB, hC, hD, hE, hS, hF, hG, hH, hI, hJ, hK, hL, hM⟩ := id t2
              obtain ⟨⟨eG1, eG2, eG3, eG4, eG5⟩, cG, iG1, iG2, iG3, iG4, rtG, ⟨eG6, cG2⟩, rtR⟩ := id hG
              obtain ⟨ct, hct, ect⟩ := id cG
              obtain ⟨rl, hrl, erl⟩ := id cG2
              unfold Texts_keep
              simp only [← eG1, ← eG6]
              by_cases hq : σ1.1 40 6 = 10
              · rw [if_neg (by rw [hq]; decide), if_pos hq]
                exact ⟨_, _, _, rfl, rfl, rel_swap (rel_flt t2 0) ⟨f13, f14⟩, sx_frK fr⟩
              · have ct10 : ct < 10 := by
                  rcases (show ct < 10 ∨ ct = 10 by omega) with z | z
                  · exact z
                  · subst z; exact absurd (by rw [ect]; decide) hq
                have lt10 : σ1.1 40 6 < 10 := by rw [ect, n_lt, n_ti (by omega), k_10]; omega
                have hin := cn_in cG (by decide) (by rw [l10]; exact hq)
                rw [if_pos lt10, if_neg hq]
                simp only [if_pos hin]
                have lb := ldk_b hl
                have db : 0 ≤ x2.toInt ∧ x2.toInt ≤ x3.toInt ∧ x3.toInt < 10000 := by
                  unfold bd at hd
                  simp only [decide_eq_true_eq, n_le, n_lt, n_0, n_10000] at hd
                  exact hd
                have hX2 : RelX True n (wI (wI (wI (wI σ1 41 (Int32.toNatClampNeg (σ1.1 40 6)) x1) 42 (Int32.toNatClampNeg (σ1.1 40 6)) x2) 43 (Int32.toNatClampNeg (σ1.1 40 6)) x3) 44 (Int32.toNatClampNeg (σ1.1 40 6)) (σ1.1 40 9)) (wI (wI (wI (wI τ1 20 (Int32.toNatClampNeg (σ1.1 40 6)) x1) 21 (Int32.toNatClampNeg (σ1.1 40 6)) x2) 22 (Int32.toNatClampNeg (σ1.1 40 6)) x3) 23 (Int32.toNatClampNeg (σ1.1 40 6)) (σ1.1 40 9)) :=
                  ⟨hA, hB, hC, hD, hE, hS, hF, ⟨⟨eG1, upd_eq eG2 _ _, upd_eq eG3 _ _, upd_eq eG4 _ _, upd_eq eG5 _ _⟩, cG, ir_upd iG1 lb.1 lb.2, ir_upd iG2 (by omega) (by omega), ir_upd iG3 (by omega) (by omega), ir_upd iG4 (by rw [erl, n_ti (by omega)]; omega) (by rw [erl, n_ti (by omega)]; omega), rtG, ⟨eG6, cG2⟩, rtR⟩, hH, hI, hJ, hK, hL, trivial⟩
                obtain ⟨σ2, τ2, u1, u2, u3, u4, u5⟩ := y_keep ct10 hrl FU 0 n _ _ hX2 ect erl (Nat.zero_le _) (fu_gt (by omega))
                have u1' : Texts_keep_L61 FU 0 (wI (wI (wI (wI σ1 41 (Int32.toNatClampNeg (σ1.1 40 6)) x1) 42 (Int32.toNatClampNeg (σ1.1 40 6)) x2) 43 (Int32.toNatClampNeg (σ1.1 40 6)) x3) 44 (Int32.toNatClampNeg (σ1.1 40 6)) (σ1.1 40 9)) = some (nI ct, σ2) := u1
                rw [u1', Option.bind_some]
                refine ⟨_, _, _, rfl, u2, rel_swap (rel_flt u3 0) ⟨?_, ?_⟩, sx_frK (fun c c0 hc => ?_)⟩
                · rw [u4 0 (by omega)]; exact f13
                · rw [u4 0 (by omega)]
                  show σ1.1 0 14 = τ2.1 0 78
                  rw [u5 78 (by omega)]; exact f14
                · rw [u4 c hc, ← fr c c0 hc]
                  have d1 : c ≠ 41 := by omega
                  have d2 : c ≠ 42 := by omega
                  have d3 : c ≠ 43 := by omega
                  have d4 : c ≠ 44 := by omega
                  simp [wI, d1, d2, d3, d4]
          · rw [a1, a2, Option.bind_some, Option.bind_some, if_neg hf, if_neg a3]
            exact ⟨_, _, _, rfl, rfl, ⟨hA, hB, hC, hD, hE, hS, hF, hG, hH, hI, hJ, hK, hL, ⟨rfl, eM2⟩⟩, ⟨Or.inr ⟨rfl, rfl, rfl, rfl, rfl, rfl, rfl, rfl, rfl, rfl, fun _ _ => rfl⟩, Or.inr ⟨rfl, rfl, rfl, rfl, rfl⟩, Or.inr ⟨rfl, rfl, rfl, rfl, rfl, rfl, rfl, rfl, rfl, fun _ _ => rfl⟩⟩⟩
