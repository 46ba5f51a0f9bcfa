def sOf (j : Nat) (v : Int32) : Int32 := if nI j < 4 then nI j else 4 + v
def wOf (j : Nat) (v : Int32) : Int32 := if nI j < 4 then v else nI j - 4
theorem enc_s {j : Nat} (hj : j < 7) (v : Int32) : sOf j v = encS (lm j) v ∧ wOf j v = encV (lm j) v := by
  rcases (show j = 0 ∨ j = 1 ∨ j = 2 ∨ j = 3 ∨ j = 4 ∨ j = 5 ∨ j = 6 by omega) with e | e | e | e | e | e | e <;> subst e <;> exact ⟨rfl, rfl⟩
theorem lm_b {j : Nat} (hj : j < 7) : (0 ≤ (lm j).toInt ∧ (lm j).toInt ≤ 6) ∧ (4 ≤ (lm j).toInt → stf_2 j = 7) := by
  rcases (show j = 0 ∨ j = 1 ∨ j = 2 ∨ j = 3 ∨ j = 4 ∨ j = 5 ∨ j = 6 by omega) with e | e | e | e | e | e | e <;> subst e <;> decide
theorem c_add {σ : St} {rl : Nat} (hr : rl < 6) (e : σ.1 40 9 = nI rl) (j : Nat) (v : Int32) : Texts_addRead (nI j) v σ = some (wI (wI (wI σ 47 rl (sOf j v)) 48 rl (wOf j v)) 40 9 (nI (rl + 1))) := by
  have h1 : nI rl < 6 := by rw [n_lt, n_ti (by omega), show (6 : Int32).toInt = 6 by decide]; omega
  have h2 : inb (nI rl) 6 := n_inb hr (by decide)
  have h3 := n_tn (k := rl) (by omega)
  unfold Texts_addRead sOf wOf
  simp only [e, if_pos h1, if_pos h2, h3, nI_1]
  split <;> rfl
theorem miI_t (x y : Int32) : (miI x y).toInt = if y.toInt < x.toInt then y.toInt else x.toInt := by
  unfold miI
  by_cases h : y < x
  · rw [if_pos h, if_pos (by rw [n_lt] at h; exact h)]
  · rw [if_neg h, if_neg (by rw [n_lt] at h; exact h)]
theorem c_dig {σ : St} {k a N p : Nat} (hk : k < 4) (ha : a + N ≤ 60) (hp : p ≤ N) : Texts_digitsFrom (nI k) (nI (a + p)) (nI N - nI p) σ = some (nI (dgs (fun j => σ.1 75 (60 * k + a + j)) (min 4 (N - p)) p)) := by
  unfold Texts_digitsFrom
  have e1 : nI N - nI p = nI (N - p) := by
    rw [n_eq, n_sub, n_ti (by omega), n_ti (by omega), n_ti (by omega)]
    · omega
    · rw [n_ti (by omega), n_ti (by omega)]; omega
    · rw [n_ti (by omega), n_ti (by omega)]; omega
  have e2 : miI 4 (nI (N - p)) = nI (min 4 (N - p)) := by
    rw [n_eq, miI_t, n_ti (by omega), n_ti (by omega), show (4 : Int32).toInt = 4 by decide]
    split <;> omega
  rw [e1, e2]
  have := c_digits (σ := σ) (k := k) (a := a) (N := N) (p := p) (R := min 4 (N - p)) hk ha (by omega) FU 0 (by omega) (fu_gt (by omega))
  rw [Nat.zero_add, Nat.sub_zero, Nat.add_zero] at this
  exact this
theorem c_num {σ : St} {k a N p D : Nat} (hk : k < 4) (ha : a + N ≤ 60) (hp : p + D ≤ N) : Texts_numberOf (nI k) (nI (a + p)) (nI D) σ = some (nmb (fun j => σ.1 75 (60 * k + a + j)) D p 0) := by
  unfold Texts_numberOf
  exact c_number (σ := σ) (k := k) (a := a) (N := N) (p := p) (D := D) hk ha hp FU 0 0 (by omega) (fu_gt (by omega))
def FrT (σ σ' : St) : Prop := ∀ c, c ≠ 40 → c ≠ 47 → c ≠ 48 → σ'.1 c = σ.1 c
set_option maxHeartbeats 4000000 in
theorem y_read {k a N : Nat} (hk : k < 4) (ha : a + N ≤ 60) : ∀ (m at' rl n : Nat) (σ τ : St), RelX True n σ τ → σ.1 40 9 = nI rl → rl < 6 → at' ≤ N → 7 - rl < m → ∃ σ' τ', ((∃ q, q ≤ N ∧ Texts_read_L11 (nI k) (nI a) (nI N) m (nI at') (nI (rl + 1)) σ = some (nI q, σ') ∧ M_read_L10 (nI (60 * k + a)) (nI N) m (nI at') 1 τ = some (nI q, τ')) ∨ (Texts_read_L11 (nI k) (nI a) (nI N) m (nI at') (nI (rl + 1)) σ = some (-9, σ') ∧ M_read_L10 (nI (60 * k + a)) (nI N) m (nI at') 1 τ = some (-1, τ'))) ∧ RelX True n σ' τ' ∧ FrT σ σ' ∧ (∀ q, q ≠ 33 → τ'.1 0 q = τ.1 0 q) := by
  intro m
  induction m with
  | zero => intro at' rl n σ τ _ _ _ _ h; omega
  | succ m ih =>
    intro at' rl n σ τ h hrl hr6 hat hm
    obtain ⟨hA, hB, hC, hD, hE, hS, hF, hG, hH, hI, hJ, hK, hL, hM⟩ := id h
    have eL1 := hL.1
    obtain ⟨⟨eG1, eG2, eG3, eG4, eG5⟩, cG, iG1, iG2, iG3, iG4, rtG, ⟨eG6, cG2⟩, rtR⟩ := id hG
    have erl : τ.1 0 33 = nI rl := by rw [← eG6]; exact hrl
    have c6 : ¬ (6 : Int32) < nI (rl + 1) := by rw [n_lt, n_ti (by omega), show (6 : Int32).toInt = 6 by decide]; omega
    rcases Nat.lt_or_ge at' N with hlt | hge
    · have cN : ¬ nI N ≤ nI at' := n_cmp hlt (by omega)
      have mN : ¬ nI at' = nI N := by rw [nI_inj (by omega) (by omega)]; omega
      have v := y_at (σ := σ) hk (show a + at' < 60 by omega)
      have w1 : inb (nI (60 * k + a + at')) 240 := n_inb (by omega) (by decide)
      have w2 := n_tn (k := 60 * k + a + at') (by omega)
      rw [show 60 * k + (a + at') = 60 * k + a + at' by omega] at v
      have one0 : ¬ (1 : Int32) = 0 := by decide
      rcases letters (σ.1 75 (60 * k + a + at')) σ τ with ⟨l1, l2⟩ | ⟨j, hj, l1, l2⟩
      · refine ⟨σ, τ, Or.inl ⟨at', hat, ?_, ?_⟩, h, fun _ _ _ _ => rfl, fun _ _ => rfl⟩
        · rw [Texts_read_L11, if_neg c6, if_neg cN, nI_add, v, Option.bind_some, l1, Option.bind_some, if_pos rfl]
        · rw [M_read_L10, if_neg one0, if_neg mN, nI_add, if_pos w1, w2, ← eL1, l2, Option.bind_some, if_neg (by decide)]
      · have jn : ¬ nI j = -9 := by rw [n_eq, n_ti (by omega), show (-9 : Int32).toInt = -9 by decide]; omega
        have lb := lm_b hj
        have ln0 : (0 : Int32) ≤ lm j := by rw [n_le, n_0]; exact lb.1.1
        have hdig := c_dig (σ := σ) (k := k) (a := a) (N := N) (p := at' + 1) hk ha (by omega)
        have dle := dgs_le (fun j => σ.1 75 (60 * k + a + j)) (min 4 (N - (at' + 1))) (at' + 1)
        have ddg := dgs_dg (fun j => σ.1 75 (60 * k + a + j)) (min 4 (N - (at' + 1))) (at' + 1)
        have mdig := m_digits (τ := τ) (k := k) (a := a) (N := N) (p := at' + 1) (R := min 4 (N - (at' + 1))) hk ha (by omega) (by omega) (by omega) (by omega) (lm j) (fun y3 y4 τ => M_read_L10 (nI (60 * k + a)) (nI N) m y3 y4 τ) FU 0 0 (by omega) (fu_gt (by omega))
        rw [← eL1, Nat.add_zero, Nat.sub_zero] at mdig
        generalize dgs (fun j => σ.1 75 (60 * k + a + j)) (min 4 (N - (at' + 1))) (at' + 1) = D at hdig dle ddg mdig
        have hnum := c_num (σ := σ) (k := k) (a := a) (N := N) (p := at' + 1) (D := D) hk ha (by omega)
        have nb := nmb_b (fun j => σ.1 75 (60 * k + a + j)) D 0 (at' + 1) 0 (by omega) ddg (by decide) (by decide)
        generalize nmb (fun j => σ.1 75 (60 * k + a + j)) D (at' + 1) 0 = V at hnum mdig nb
        have v9 : V.toInt ≤ 9999 := by
          have : (10 : Int) ^ (0 + D) ≤ 10000 := by
            rcases (show D = 0 ∨ D = 1 ∨ D = 2 ∨ D = 3 ∨ D = 4 by omega) with z | z | z | z | z <;> subst z <;> decide
          omega
        have mst : M_read_L10 (nI (60 * k + a)) (nI N) (m + 1) (nI at') 1 τ = mtail (nI (60 * k + a)) (nI N) (lm j) (nI (at' + 1)) τ (fun y3 y4 τ => M_read_L10 (nI (60 * k + a)) (nI N) m y3 y4 τ) (nI (at' + 1 + D)) V := by
          rw [M_read_L10, if_neg one0, if_neg mN, nI_add, if_pos w1, w2, ← eL1, l2, Option.bind_some, if_pos ln0, nI_1]
          exact mdig
        have cst : Texts_read_L11 (nI k) (nI a) (nI N) (m + 1) (nI at') (nI (rl + 1)) σ = (if nI D = 0 then some (nI (at' + 1), σ) else if inb (nI j) 7 then if V < stf_1 (Int32.toNatClampNeg (nI j)) then some (nI (at' + 1), σ) else if inb (nI j) 7 then if V ≤ stf_2 (Int32.toNatClampNeg (nI j)) then
              Option.bind (Texts_addRead (nI j) V σ) fun q121 => if (nI (at' + 1) + nI D) < nI N then Option.bind (Sheets_valueAt (nI k) (nI a + (nI (at' + 1) + nI D)) q121) fun r147 => if r147 = (59 : Int32) then if nI (rl + 1) = (6 : Int32) then some ((nI (at' + 1) + nI D), q121) else Texts_read_L11 (nI k) (nI a) (nI N) m ((nI (at' + 1) + nI D) + (1 : Int32)) (nI (rl + 1) + (1 : Int32)) q121 else some ((nI (at' + 1) + nI D), q121) else some ((-9 : Int32), q121)
            else some (nI (at' + 1), σ) else none else none) := by
          rw [Texts_read_L11, if_neg c6, if_neg cN, nI_add, v, Option.bind_some, l1, Option.bind_some, if_neg jn, nI_1, nI_add, hdig, Option.bind_some, hnum, Option.bind_some]
        have j1 : inb (nI j) 7 := n_inb hj (by decide)
        have j2 := n_tn (k := j) (by omega)
        rw [if_pos j1, if_pos j1, j2] at cst
        have isn := isNum hj nb.1 v9 τ
        by_cases d0 : D = 0
        · subst d0
          refine ⟨σ, τ, Or.inl ⟨at' + 1, by omega, ?_, ?_⟩, h, fun _ _ _ _ => rfl, fun _ _ => rfl⟩
          · rw [cst, if_pos (by decide)]
          · rw [mst]
            unfold mtail
            rw [if_pos rfl]
        · have dn : ¬ nI D = 0 := by rw [n_eq, n_0, n_ti (by omega)]; omega
          have dn2 : ¬ nI (at' + 1 + D) = nI (at' + 1) := by rw [nI_inj (by omega) (by omega)]; omega
          by_cases ok : ¬ V < stf_1 j ∧ V ≤ stf_2 j
          · rw [decide_eq_true ok] at isn
            rw [if_neg dn, if_neg ok.1, if_pos ok.2, c_add hr6 hrl j V, Option.bind_some, nI_add] at cst
            have r1 : inb (nI rl) 6 := n_inb hr6 (by decide)
            have r2 := n_tn (k := rl) (by omega)
            have mst2 : M_read_L10 (nI (60 * k + a)) (nI N) (m + 1) (nI at') 1 τ = (if nI N ≤ nI (at' + 1 + D) then M_read_L10 (nI (60 * k + a)) (nI N) m (nI (at' + 1 + D)) 0 (wI (wI (wI τ 26 rl (lm j)) 27 rl V) 0 33 (nI (rl + 1))) else if inb (nI (60 * k + a + (at' + 1 + D))) 240 then if σ.1 75 (Int32.toNatClampNeg (nI (60 * k + a + (at' + 1 + D)))) = (59 : Int32) then if nI (rl + 1) = (6 : Int32) then some (nI (at' + 1 + D), wI (wI (wI τ 26 rl (lm j)) 27 rl V) 0 33 (nI (rl + 1))) else M_read_L10 (nI (60 * k + a)) (nI N) m (nI (at' + 1 + D + 1)) 1 (wI (wI (wI τ 26 rl (lm j)) 27 rl V) 0 33 (nI (rl + 1))) else some (nI (at' + 1 + D), wI (wI (wI τ 26 rl (lm j)) 27 rl V) 0 33 (nI (rl + 1))) else none) := by
              rw [mst]
              unfold mtail
              rw [if_neg dn2, isn, Option.bind_some, if_pos rfl]
              simp only [erl, if_pos r1, r2, nI_1, nI_add, ← eL1]
            have es := enc_s hj V
            have hX : RelX True n (wI (wI (wI σ 47 rl (sOf j V)) 48 rl (wOf j V)) 40 9 (nI (rl + 1))) (wI (wI (wI τ 26 rl (lm j)) 27 rl V) 0 33 (nI (rl + 1))) := by
              refine ⟨hA, hB, hC, hD, hE, hS, hF, ⟨⟨eG1, eG2, eG3, eG4, eG5⟩, cG, iG1, iG2, iG3, iG4, rtG, ⟨rfl, ⟨rl + 1, by omega, rfl⟩⟩, rT_upd rtR rl es.1 es.2 lb.1 ⟨nb.1, v9⟩ (fun z => ?_)⟩, hH, hI, hJ, hK, hL, trivial⟩
              have := ok.2
              rw [lb.2 z, n_le, show (7 : Int32).toInt = 7 by decide] at this
              exact this
            have hfr : FrT σ (wI (wI (wI σ 47 rl (sOf j V)) 48 rl (wOf j V)) 40 9 (nI (rl + 1))) := by
              intro c c1 c2 c3
              simp [wI, c1, c2, c3]
            have hq : ∀ q, q ≠ 33 → (wI (wI (wI τ 26 rl (lm j)) 27 rl V) 0 33 (nI (rl + 1))).1 0 q = τ.1 0 q := by
              intro q hq
              simp [wI, upd, hq]
            have e40 : (wI (wI (wI σ 47 rl (sOf j V)) 48 rl (wOf j V)) 40 9 (nI (rl + 1))).1 40 9 = nI (rl + 1) := rfl
            have e75 : (wI (wI (wI σ 47 rl (sOf j V)) 48 rl (wOf j V)) 40 9 (nI (rl + 1))).1 75 = σ.1 75 := rfl
            generalize wI (wI (wI σ 47 rl (sOf j V)) 48 rl (wOf j V)) 40 9 (nI (rl + 1)) = σ1 at cst hX hfr e40 e75
            generalize wI (wI (wI τ 26 rl (lm j)) 27 rl V) 0 33 (nI (rl + 1)) = τ1 at mst2 hX hq
            rcases Nat.lt_or_ge (at' + 1 + D) N with hl | hg
            · have q1 : nI (at' + 1 + D) < nI N := by rw [n_lt, n_ti (by omega), n_ti (by omega)]; omega
              have q2 : ¬ nI N ≤ nI (at' + 1 + D) := n_cmp hl (by omega)
              have v2 := y_at (σ := σ1) hk (show a + (at' + 1 + D) < 60 by omega)
              rw [show 60 * k + (a + (at' + 1 + D)) = 60 * k + a + (at' + 1 + D) by omega, e75] at v2
              have u1 : inb (nI (60 * k + a + (at' + 1 + D))) 240 := n_inb (by omega) (by decide)
              have u2 := n_tn (k := 60 * k + a + (at' + 1 + D)) (by omega)
              rw [if_pos q1, nI_add, v2, Option.bind_some] at cst
              rw [if_neg q2, if_pos u1, u2] at mst2
              by_cases s59 : σ.1 75 (60 * k + a + (at' + 1 + D)) = 59
              · rw [if_pos s59] at cst mst2
                by_cases l6 : nI (rl + 1) = 6
                · rw [if_pos l6] at cst mst2
                  exact ⟨σ1, τ1, Or.inl ⟨_, by omega, cst, mst2⟩, hX, hfr, hq⟩
                · rw [if_neg l6] at cst mst2
                  rw [nI_1, nI_1] at cst
                  have rl5 : rl + 1 < 6 := by
                    rcases (show rl + 1 < 6 ∨ rl = 5 by omega) with z | z
                    · exact z
                    · subst z; exact absurd (by decide) l6
                  obtain ⟨σ', τ', t1, t2, t3, t4⟩ := ih (at' + 1 + D + 1) (rl + 1) n σ1 τ1 hX e40 rl5 (by omega) (by omega)
                  refine ⟨σ', τ', ?_, t2, fun c c1 c2 c3 => (t3 c c1 c2 c3).trans (hfr c c1 c2 c3), fun q z => (t4 q z).trans (hq q z)⟩
                  rw [cst, mst2]; exact t1
              · rw [if_neg s59] at cst mst2
                exact ⟨σ1, τ1, Or.inl ⟨_, by omega, cst, mst2⟩, hX, hfr, hq⟩
            · have q1 : ¬ nI (at' + 1 + D) < nI N := by rw [n_lt, n_ti (by omega), n_ti (by omega)]; omega
              have q2 : nI N ≤ nI (at' + 1 + D) := by rw [n_le, n_ti (by omega), n_ti (by omega)]; omega
              rw [if_neg q1] at cst
              rw [if_pos q2] at mst2
              obtain ⟨m', rfl⟩ : ∃ z, m = z + 1 := ⟨m - 1, by omega⟩
              refine ⟨σ1, τ1, Or.inr ⟨cst, ?_⟩, hX, hfr, hq⟩
              rw [mst2, M_read_L10, if_pos rfl]
          · rw [decide_eq_false ok] at isn
            refine ⟨σ, τ, Or.inl ⟨at' + 1, by omega, ?_, ?_⟩, h, fun _ _ _ _ => rfl, fun _ _ => rfl⟩
            · rw [cst, if_neg dn]
              by_cases z : V < stf_1 j
              · rw [if_pos z]
              · rw [if_neg z, if_neg (fun y => ok ⟨z, y⟩)]
            · rw [mst]
              unfold mtail
              rw [if_neg dn2, isn, Option.bind_some, if_neg (by decide)]
    · have e : at' = N := by omega
      subst e
      refine ⟨σ, τ, Or.inl ⟨at', Nat.le_refl _, ?_, ?_⟩, h, fun _ _ _ _ => rfl, fun _ _ => rfl⟩
      · rw [Texts_read_L11, if_neg c6, if_pos (n_cmpE at'), if_pos rfl]
      · rw [M_read_L10, if_neg (by decide), if_pos rfl]
def FrK (σ σ' : St) : Prop := ∀ c, c < 40 ∨ 48 < c → σ'.1 c = σ.1 c
theorem y_keep {ct : Nat} (hct : ct < 10) {rl : Nat} (hrl : rl ≤ 6) : ∀ (m c n : Nat) (σ τ : St), RelX True n σ τ → σ.1 40 6 = nI ct → σ.1 40 9 = nI rl → c ≤ rl → rl - c < m → ∃ σ' τ', Texts_keep_L61 m (nI c) σ = some (nI ct, σ') ∧ M_text_L157 m (nI c) τ = some (nI ct, wI τ' 0 0 0) ∧ RelX True n σ' τ' ∧ FrK σ σ' ∧ (∀ q, q ≠ 26 → τ'.1 0 q = τ.1 0 q) := by
  intro m
  induction m with
  | zero => intro c n σ τ _ _ _ _ h; omega
  | succ m ih =>
    intro c n σ τ h hc hr hcl hm
    obtain ⟨hA, hB, hC, hD, hE, hS, hF, hG, hH, hI, hJ, hK, hL, hM⟩ := id h
    obtain ⟨⟨eG1, eG2, eG3, eG4, eG5⟩, cG, iG1, iG2, iG3, iG4, rtG, ⟨eG6, cG2⟩, rtR⟩ := id hG
    have hc' : τ.1 0 26 = nI ct := by rw [← eG1]; exact hc
    have hr' : τ.1 0 33 = nI rl := by rw [← eG6]; exact hr
    rcases Nat.lt_or_ge c rl with hlt | hge
    · have q1 : ¬ nI rl ≤ nI c := n_cmp hlt (by omega)
      have i1 : inb (nI c) 6 := n_inb (by omega) (by decide)
      have i2 := n_tn (k := c) (by omega)
      have j1 : inb (nI (6 * ct + c)) 60 := n_inb (by omega) (by decide)
      have j2 := n_tn (k := 6 * ct + c) (by omega)
      have ec : Texts_keep_L61 (m + 1) (nI c) σ = Texts_keep_L61 m (nI (c + 1)) (wI (wI σ 45 (6 * ct + c) (σ.1 47 c)) 46 (6 * ct + c) (σ.1 48 c)) := by
        rw [Texts_keep_L61]
        simp only [hr, hc, if_neg q1, if_pos i1, i2, idx6, if_pos j1, j2, nI_1]
      have em : M_text_L157 (m + 1) (nI c) τ = M_text_L157 m (nI (c + 1)) (wI (wI τ 24 (6 * ct + c) (τ.1 26 c)) 25 (6 * ct + c) (τ.1 27 c)) := by
        rw [M_text_L157]
        simp only [hr', hc', if_neg q1, if_pos i1, i2, idx6', nI_add, if_pos j1, j2, nI_1]
      obtain ⟨z1, z2, z3, z4, z5, z6, z7⟩ := rtR c
      have hX : RelX True n (wI (wI σ 45 (6 * ct + c) (σ.1 47 c)) 46 (6 * ct + c) (σ.1 48 c)) (wI (wI τ 24 (6 * ct + c) (τ.1 26 c)) 25 (6 * ct + c) (τ.1 27 c)) :=
        ⟨hA, hB, hC, hD, hE, hS, hF, ⟨⟨eG1, eG2, eG3, eG4, eG5⟩, cG, iG1, iG2, iG3, iG4, rT_upd rtG (6 * ct + c) z1 z2 ⟨z3, z4⟩ ⟨z5, z6⟩ z7, ⟨eG6, cG2⟩, rtR⟩, hH, hI, hJ, hK, hL, trivial⟩
      obtain ⟨σ', τ', t1, t2, t3, t4, t5⟩ := ih (c + 1) n _ _ hX hc hr (by omega) (by omega)
      refine ⟨σ', τ', by rw [ec, t1], by rw [em, t2], t3, fun d hd => (t4 d hd).trans ?_, t5⟩
      have d1 : d ≠ 45 := by omega
      have d2 : d ≠ 46 := by omega
      simp [wI, d1, d2]
    · have e : c = rl := by omega
      subst e
      refine ⟨wI σ 40 6 (nI (ct + 1)), wI τ 0 26 (nI (ct + 1)), ?_, ?_, ⟨hA, hB, hC, hD, hE, hS, hF, ⟨⟨rfl, eG2, eG3, eG4, eG5⟩, ⟨ct + 1, by omega, rfl⟩, iG1, iG2, iG3, iG4, rtG, ⟨eG6, cG2⟩, rtR⟩, hH, hI, hJ, hK, hL, trivial⟩, fun d hd => ?_, fun q hq => ?_⟩
      · rw [Texts_keep_L61]
        simp only [hr, hc, if_pos (n_cmpE c), nI_1]
      · rw [M_text_L157]
        simp only [hr', hc', if_pos (n_cmpE c), nI_1, M_refused, Option.bind_some]
        have : nI (ct + 1) - 1 = nI ct := by rw [← nI_1, sub_add]
        rw [this]
      · have d1 : d ≠ 40 := by omega
        simp [wI, d1]
      · simp [wI, upd, hq]
