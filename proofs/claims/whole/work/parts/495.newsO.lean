/-! news: the calls -/
def nd (σ : St) : ND := ((σ.1 6 4).toNatClampNeg, σ.1 7, σ.1 8, σ.1 9, σ.1 10, (σ.1 28 6).toNatClampNeg, σ.1 34, fun e => if e < (σ.1 28 6).toNatClampNeg then σ.1 23 (σ.1 29 e).toNatClampNeg else 0)
theorem nd_ok {Z : Prop} {n : Nat} {σ τ : St} (h : RelX Z n σ τ) : dOk (nd σ) ∧ CL (nd σ) σ ∧ ∃ cb cp, ML (nd σ) cb cp τ ∧ σ.1 1 5 = nI cb := by
  obtain ⟨hA, hB, hC, hD, hE, hS, hF, hG, hH, hI, hJ, hK, hL, hM⟩ := id h
  obtain ⟨⟨eA1, eA2, eA3, eA4, eA5, eA6, eA7⟩, ⟨cA1, cA2, cA3⟩, iA1, iA2, iA3, iA4⟩ := id hA
  obtain ⟨⟨eB1, eB2, eB3, eB4, eB5⟩, cB, iB1, iB2, iB3, iB4, iB5, dB1, dB2, dB3⟩ := id hB
  obtain ⟨⟨eE1, eE2, eE3, eE4⟩, cE, iE1, iE2, iE3, iE4⟩ := id hE
  obtain ⟨⟨eF1, eF2, eF3, eF4, eF5, eF6, eF7⟩, cF, iF1, iF2, iF3, iF4, iF5, iF6, dF1, dF2⟩ := id hF
  obtain ⟨kB, hkB, ekB⟩ := id cB
  obtain ⟨kF, hkF, ekF⟩ := id cF
  obtain ⟨cb, hcb, ecb⟩ := id cA2
  obtain ⟨cp, hcp, ecp⟩ := id cA1
  have tB : (σ.1 6 4).toNatClampNeg = kB := by rw [ekB, n_tn (by omega)]
  have tF : (σ.1 28 6).toNatClampNeg = kF := by rw [ekF, n_tn (by omega)]
  have jB : (σ.1 6 4).toInt = kB := by rw [ekB, n_ti (by omega)]
  have jF : (σ.1 28 6).toInt = kF := by rw [ekF, n_ti (by omega)]
  have xS : dS (nd σ) = kB := tB
  have xC : dC (nd σ) = kF := tF
  have bq : ∀ e, e < kF → dBq (nd σ) e = σ.1 23 (σ.1 29 e).toNatClampNeg := fun e he => by
    show (if e < (σ.1 28 6).toNatClampNeg then σ.1 23 (σ.1 29 e).toNatClampNeg else 0) = _
    rw [if_pos (by omega)]
  have pin : ∀ e, inb (σ.1 29 e) 12 := fun e => by rw [n_in]; have := iF1 e; omega
  refine ⟨⟨by omega, by omega, iB3, iF6, iB1, iB2, fun i j hi hj => dB2 i j (by omega) (by omega), fun e he => ?_⟩, ⟨by rw [xS]; exact ekB, rfl, rfl, rfl, rfl, by rw [xC]; exact ekF, rfl, fun e he => ⟨(bq e (by omega)).symm, ?_, pin e⟩⟩, cb, cp, ⟨by rw [xS, ← eB1]; exact ekB, eB2.symm, eB3.symm, eB4.symm, eB5.symm, by rw [xC, ← eF1]; exact ekF, eF7.symm, fun e he => ⟨?_, ?_⟩, ⟨hcb, by rw [← eA2]; exact ecb, fun i hi => ?_⟩, hcp, by rw [← eA1]; exact ecp, fun i hi => ?_⟩, ecb⟩
  · rw [bq e (by omega)]; exact iE2 _
  · rw [bw_iff]
    have := iF1 e
    have := dF1 e (by omega)
    omega
  · rw [bq e (by omega), ← eE3, ← eF2]
  · rw [← eF2]; exact pin e
  · have := dB3 i (by omega)
    rw [ecb, n_ti (by omega)] at this
    exact this
  · have := dB1 i (by omega)
    rw [ecp, n_ti (by omega)] at this
    exact this
def cN (σ : St) : Prop := σ.1 35 4 = 0 ∨ ∀ w, w < 7 → Tb (σ.1 36) (nTab (nd σ)) w
theorem cN_s {n : Nat} {σ τ σ' : St} (h : Rel0 n σ τ) (hN : cN σ) (s : sN σ σ') : cN σ' := by
  rcases s with s | ⟨s0, s1, s2, s3, s4, s5, s6, s7, s8, s9, s10⟩
  · exact Or.inl s
  · rcases hN with hN | hN
    · exact Or.inl (s0.trans hN)
    · right
      obtain ⟨hA, hB, hC, hD, hE, hS, hF, hG, hH, hI, hJ, hK, hL, hM⟩ := id h
      obtain ⟨⟨eF1, eF2, eF3, eF4, eF5, eF6, eF7⟩, cF, iF1, iF2, iF3, iF4, iF5, iF6, dF1, dF2⟩ := id hF
      obtain ⟨kF, hkF, ekF⟩ := id cF
      have tF : (σ.1 28 6).toNatClampNeg = kF := by rw [ekF, n_tn (by omega)]
      have jF : (σ.1 28 6).toInt = kF := by rw [ekF, n_ti (by omega)]
      have e : nd σ' = nd σ := by
        unfold nd
        rw [s2, s3, s4, s5, s6, s7, s9, s8]
        have : (fun e => if e < (σ.1 28 6).toNatClampNeg then σ'.1 23 (σ.1 29 e).toNatClampNeg else 0) = (fun e => if e < (σ.1 28 6).toNatClampNeg then σ.1 23 (σ.1 29 e).toNatClampNeg else 0) := by
          funext e
          by_cases q : e < (σ.1 28 6).toNatClampNeg
          · rw [if_pos q, if_pos q]
            apply s10
            have a1 := iF1 e
            have a2 := dF1 e (by omega)
            have a3 : (σ.1 29 e).toNatClampNeg = (σ.1 29 e).toInt.toNat := rfl
            omega
          · rw [if_neg q, if_neg q]
        rw [this]
      rw [e, s1]
      exact hN
theorem c_lrn {n : Nat} {σ τ : St} (h : Rel0 n σ τ) (hN : cN σ) : ∃ σ', News_learn σ = some σ' ∧ Rel0 n σ' τ ∧ cN σ' ∧ (∀ w, w < 7 → Tb (σ'.1 36) (nTab (nd σ)) w) ∧ sW σ σ' ∧ sO σ σ' ∧ ∀ c, c ≠ 35 → c ≠ 36 → c ≠ 39 → σ'.1 c = σ.1 c := by
  obtain ⟨ok, hc, _⟩ := nd_ok h
  by_cases q : σ.1 35 4 = 0
  · obtain ⟨F, P, H, N, e, f⟩ := c_learn ok hc q
    refine ⟨_, e, h, Or.inr f, f, Or.inr ⟨rfl, rfl, rfl, rfl, rfl⟩, Or.inr ⟨rfl, rfl, rfl, rfl, rfl, rfl, rfl, rfl, rfl, fun _ _ => rfl⟩, fun c c1 c2 c3 => ?_⟩
    simp [wI, nS, c1, c2, c3]
  · refine ⟨σ, by unfold News_learn; rw [if_neg q], h, hN, ?_, Or.inr ⟨rfl, rfl, rfl, rfl, rfl⟩, Or.inr ⟨rfl, rfl, rfl, rfl, rfl, rfl, rfl, rfl, rfl, fun _ _ => rfl⟩, fun _ _ _ _ => rfl⟩
    rcases hN with z | z
    · exact absurd z q
    · exact z
theorem m_lrn {n : Nat} {σ τ : St} (h : Rel0 n σ τ) : ∃ G H, M_layKnown τ = some (mS τ G H) ∧ (∀ w, w < 7 → Tm G (nTab (nd σ)) w) ∧ (∀ σ', Rel0 n σ' τ → Rel0 n σ' (mS τ G H)) := by
  obtain ⟨ok, _, cb, cp, hm, _⟩ := nd_ok h
  obtain ⟨G, H, e, f⟩ := m_learn ok hm
  exact ⟨G, H, e, f, fun σ' h' => h'⟩
def kn (x c : Int32) : Bool := decide (x = -1) || bw x c
theorem g_knP (x : Int32) (σ : St) : P_isKnower x σ = some (kn x (σ.1 1 5)) := by
  unfold P_isKnower kn
  by_cases q : x = -1
  · rw [if_pos q, decide_eq_true q]; rfl
  · rw [if_neg q, decide_eq_false q, g_hasBand, Option.bind_some]
    cases bw x (σ.1 1 5) <;> rfl
theorem g_knM (x : Int32) (σ : St) : M_noKnower x σ = some (!kn x (σ.1 0 2)) := by
  unfold M_noKnower kn
  by_cases q : x = -1
  · rw [if_pos q, decide_eq_true q]; rfl
  · rw [if_neg q, decide_eq_false q, g_noBand, Option.bind_some]
    cases bw x (σ.1 0 2) <;> rfl
theorem kn_of {x c : Int32} (hc : cn c 6) (h : kn x c = true) : (x = -1 ∧ ∀ σ, P_knower x σ = some (nI 6)) ∨ ∃ b, b < 6 ∧ x = nI b ∧ ∀ σ, P_knower x σ = some (nI b) := by
  by_cases q : x = -1
  · left
    refine ⟨q, fun σ => ?_⟩
    unfold P_knower
    rw [if_pos q]; rfl
  · right
    unfold kn at h
    rw [decide_eq_false q, Bool.false_or] at h
    have b := bw_toInt h
    have t := cn_toInt hc (by decide)
    obtain ⟨k, hk, e⟩ := nI_of' (u := 5) b.1 (by omega) (by decide)
    refine ⟨k, by omega, e, fun σ => ?_⟩
    unfold P_knower
    rw [if_neg q, e]
theorem c_first {σ : St} {T : KT} {w e : Nat} (hw : w < 7) (he : e < 60) (h : Tb (σ.1 36) T w) : News_firstDay (nI e) (nI w) σ = some (T w e) := by
  unfold News_firstDay
  rw [idx7, if_pos (n_inb (by omega) (by decide)), n_tn (by omega), h e he]
theorem op_known {n : Nat} {σ τ : St} (h : Rel0 n σ τ) (hN : cN σ) (x1 x2 : Int32) : ∃ r σ' τ', P_known x1 x2 σ = some (r, σ') ∧ M_known x1 x2 τ = some (r, τ') ∧ Rel0 n σ' τ' ∧ cN σ' ∧ sW σ σ' ∧ sO σ σ' := by
  obtain ⟨hA, hB, hC, hD, hE, hS, hF, hG, hH, hI, hJ, hK, hL, hM⟩ := id h
  have eA2 := hA.1.2.1
  have cA2 := hA.2.1.2.1
  have eF1 := hF.1.1
  have cF := hF.2.1
  unfold P_known M_known
  rw [g_below, g_inP, ← eF1, Option.bind_some, Option.bind_some]
  cases hx : bw x1 (σ.1 28 6)
  · exact ⟨_, _, _, rfl, rfl, h, hN, (sx_refl σ).2⟩
  · rw [if_pos rfl, if_pos rfl, g_knP, g_knM, ← eA2, Option.bind_some, Option.bind_some]
    cases hy : kn x2 (σ.1 1 5)
    · exact ⟨_, _, _, rfl, rfl, h, hN, (sx_refl σ).2⟩
    · rw [if_pos rfl, if_neg (by exact fun z => nomatch z)]
      obtain ⟨σ', l1, l2, l3, l4, l5, l6, l7⟩ := c_lrn h hN
      obtain ⟨G, H, m1, m2, m3⟩ := m_lrn h
      rw [l1, m1, Option.bind_some, Option.bind_some]
      have b := bw_toInt hx
      have t := cn_toInt cF (by decide)
      obtain ⟨a, ha, rfl⟩ := nI_of' (u := 59) b.1 (by omega) (by decide)
      rcases kn_of cA2 hy with ⟨q, k⟩ | ⟨w, hw, q, k⟩
      · rw [k, Option.bind_some, c_first (by omega) (by omega) (l4 6 (by omega)), Option.bind_some, q, if_neg (by decide), show (6 : Int32) = nI 6 from rfl, idx60w, if_pos (n_inb (by omega) (by decide)), n_tn (by omega)]
        refine ⟨_, _, _, rfl, ?_, m3 _ l2, l3, l5, l6⟩
        rw [show (mS τ G H).1 19 = G from rfl, m2 6 (by omega) a (by omega)]
      · rw [k, Option.bind_some, c_first (by omega) (by omega) (l4 w (by omega)), Option.bind_some, q, if_pos (by rw [n_le, n_0, n_ti (by omega)]; omega), idx60w, if_pos (n_inb (by omega) (by decide)), n_tn (by omega)]
        refine ⟨_, _, _, rfl, ?_, m3 _ l2, l3, l5, l6⟩
        rw [show (mS τ G H).1 19 = G from rfl, m2 w (by omega) a (by omega)]
def kon (t x : Int32) : Bool := decide (0 ≤ t.toInt ∧ t.toInt ≤ x.toInt)
theorem c_on {σ : St} {D : ND} (ok : dOk D) {w e : Nat} (hw : w < 7) (he : e < 60) (h : Tb (σ.1 36) (nTab D) w) (x : Int32) : News_isKnownOn (nI e) (nI w) x σ = some (kon (nTab D w e) x) := by
  unfold News_isKnownOn kon
  rw [c_first hw he h, Option.bind_some]
  rcases nTab_b ok w e with z | z
  · rw [if_pos z, z, decide_eq_false (fun y => absurd y.1 (by decide))]
  · rw [if_neg (fun y => by rw [y] at z; exact absurd z.1 (by decide))]
    by_cases q : x < nTab D w e
    · rw [if_pos q]
      rw [n_lt] at q
      rw [decide_eq_false (fun y => by omega)]
    · rw [if_neg q]
      rw [n_lt] at q
      rw [decide_eq_true (by omega)]
theorem m_on (t x : Int32) (σ : St) : M_in (Int32.toInt64 t) 0 (Int32.toInt64 x) σ = some (kon t x) := by
  rw [g_in]
  unfold kon
  simp only [n_le6, Int32.toInt_toInt64, show (0 : Int64).toInt = 0 by decide]
def asG (T : KT) (pa ki go ma da : Nat → Int32) (x1 x2 x3 x4 : Int32) (e : Nat) (a : Int32) : Int32 := if kon (T 6 e) x4 = true ∧ pa e = x1 ∧ go e = x2 ∧ da e ≤ x3 then a + (if 2 ≤ ki e then -(ma e) else ma e) else a
theorem op_as {n : Nat} {σ τ : St} (h : Rel0 n σ τ) (hN : cN σ) (x1 x2 x3 x4 : Int32) : ∃ r σ' τ', P_as x1 x2 x3 x4 σ = some (r, σ') ∧ M_as x1 x2 x3 x4 τ = some (r, τ') ∧ Rel0 n σ' τ' ∧ cN σ' ∧ sW σ σ' ∧ sO σ σ' := by
  obtain ⟨hA, hB, hC, hD, hE, hS, hF, hG, hH, hI, hJ, hK, hL, hM⟩ := id h
  have eE1 := hE.1.1
  obtain ⟨⟨eF1, eF2, eF3, eF4, eF5, eF6, eF7⟩, cF, iF1, iF2, iF3, iF4, iF5, iF6, dF1, dF2⟩ := id hF
  unfold P_as M_as
  rw [g_packsHas, g_noPack, ← eE1, Option.bind_some, Option.bind_some]
  cases hx : bw x1 (σ.1 21 3)
  · exact ⟨_, _, _, rfl, rfl, h, hN, (sx_refl σ).2⟩
  · rw [if_pos rfl, if_neg (by exact fun z => nomatch z), g_below, g_isGood, Option.bind_some, Option.bind_some]
    cases hy : bw x2 8
    · exact ⟨_, _, _, rfl, rfl, h, hN, (sx_refl σ).2⟩
    · rw [if_pos rfl, if_pos rfl, g_below, g_isDay, Option.bind_some, Option.bind_some]
      cases hz : bw x3 10000
      · exact ⟨_, _, _, rfl, rfl, h, hN, (sx_refl σ).2⟩
      · rw [if_pos rfl, if_pos rfl, g_below, g_isDay, Option.bind_some, Option.bind_some]
        cases hv : bw x4 10000
        · exact ⟨_, _, _, rfl, rfl, h, hN, (sx_refl σ).2⟩
        · rw [if_pos rfl, if_pos rfl]
          obtain ⟨ok, _⟩ := nd_ok h
          obtain ⟨σ', l1, l2, l3, l4, l5, l6, l7⟩ := c_lrn h hN
          obtain ⟨G, H, m1, m2, m3⟩ := m_lrn h
          rw [l1, m1, Option.bind_some, Option.bind_some]
          obtain ⟨k, hk, ek⟩ := id cF
          have ek' : σ'.1 28 6 = nI k := by rw [l7 28 (by decide) (by decide) (by decide)]; exact ek
          have ekm : (mS τ G H).1 0 17 = nI k := by rw [← ek, eF1]; rfl
          have c1 := lp_u0 (F := fun n i a => P_as_L71 x1 x2 x3 x4 σ' n a i) (c := k) (K := fun a => some (a, σ')) (g := asG (nTab (nd σ)) (σ.1 29) (σ.1 30) (σ.1 31) (σ.1 32) (σ.1 34) x1 x2 x3 x4)
            (fun n a => by
              show P_as_L71 _ _ _ _ _ _ _ _ = _
              rw [P_as_L71, ek', if_pos (n_cmpE _)])
            (fun n i a hi => by
              show P_as_L71 _ _ _ _ _ _ _ _ = P_as_L71 _ _ _ _ _ _ _ _
              rw [P_as_L71, ek', if_neg (n_cmp hi (by omega)), show (6 : Int32) = nI 6 from rfl, c_on ok (by omega) (by omega) (l4 6 (by omega)), Option.bind_some, s_change (by omega), Option.bind_some, nI_1, l7 29 (by decide) (by decide) (by decide), l7 30 (by decide) (by decide) (by decide), l7 31 (by decide) (by decide) (by decide), l7 32 (by decide) (by decide) (by decide), l7 34 (by decide) (by decide) (by decide)]
              unfold asG
              by_cases q : kon (nTab (nd σ) 6 i) x4 = true
              · rw [if_pos q]
                by_cases p : σ.1 29 i = x1 ∧ σ.1 31 i = x2 ∧ σ.1 34 i ≤ x3
                · have y1 : (decide (σ.1 29 i = x1) && (decide (σ.1 31 i = x2) && decide (σ.1 34 i ≤ x3))) = true := by rw [decide_eq_true p.1, decide_eq_true p.2.1, decide_eq_true p.2.2]; rfl
                  have y2 : kon (nTab (nd σ) 6 i) x4 = true ∧ σ.1 29 i = x1 ∧ σ.1 31 i = x2 ∧ σ.1 34 i ≤ x3 := ⟨q, p⟩
                  rw [if_pos y1, if_pos y2]
                · rw [if_neg (fun z => p (by simpa using z)), if_neg (fun z => p z.2), a0]
              · rw [if_neg q, if_neg (fun z => q z.1)])
            FU 0 (fu_gt (by omega))
          have c2 := lp_u0 (F := fun n i a => M_as_L45 x1 x2 x3 x4 (mS τ G H) n a i) (c := k) (K := fun a => some (a, mS τ G H)) (g := asG (nTab (nd σ)) (σ.1 29) (σ.1 30) (σ.1 31) (σ.1 32) (σ.1 34) x1 x2 x3 x4)
            (fun n a => by
              show M_as_L45 _ _ _ _ _ _ _ _ = _
              rw [M_as_L45, ekm, if_pos (n_cmpE _)])
            (fun n i a hi => by
              show M_as_L45 _ _ _ _ _ _ _ _ = M_as_L45 _ _ _ _ _ _ _ _
              have hin : inb (nI i) 60 := n_inb (by omega) (by decide)
              have g12 : (mS τ G H).1 12 = σ.1 29 := eF2.symm
              have g13 : (mS τ G H).1 13 = σ.1 30 := eF3.symm
              have g14 : (mS τ G H).1 14 = σ.1 31 := eF4.symm
              have g15 : (mS τ G H).1 15 = σ.1 32 := eF5.symm
              have g17 : (mS τ G H).1 17 = σ.1 34 := eF7.symm
              have g19 : (mS τ G H).1 19 (Int32.toNatClampNeg ((360 : Int32) + nI i)) = nTab (nd σ) 6 i := by
                have : (360 : Int32) + nI i = nI (60 * 6 + i) := by rw [show (360 : Int32) = nI 360 by decide, nI_add]
                rw [this, n_tn (by omega)]
                exact m2 6 (by omega) i (by omega)
              have jin : inb ((360 : Int32) + nI i) 420 := by
                have : (360 : Int32) + nI i = nI (60 * 6 + i) := by rw [show (360 : Int32) = nI 360 by decide, nI_add]
                rw [this]; exact n_inb (by omega) (by decide)
              rw [M_as_L45, ekm, if_neg (n_cmp hi (by omega))]
              simp only [if_pos hin, if_pos jin, g19, m_on, Option.bind_some, g12, g13, g14, g15, g17, n_tn (show i < 2 ^ 31 by omega), nI_1]
              unfold asG
              by_cases p1 : σ.1 29 i = x1
              · rw [if_pos p1]
                by_cases p2 : σ.1 31 i = x2
                · rw [if_pos p2]
                  by_cases p3 : x3 < σ.1 34 i
                  · rw [if_pos p3, if_neg (fun z => by rw [n_lt] at p3; have := z.2.2.2; rw [n_le] at this; omega)]
                  · rw [if_neg p3]
                    rw [n_lt] at p3
                    by_cases p4 : kon (nTab (nd σ) 6 i) x4 = true
                    · have y2 : kon (nTab (nd σ) 6 i) x4 = true ∧ σ.1 29 i = x1 ∧ σ.1 31 i = x2 ∧ σ.1 34 i ≤ x3 := ⟨p4, p1, p2, by rw [n_le]; omega⟩
                      rw [if_pos p4, if_pos y2]
                      by_cases y3 : 2 ≤ σ.1 30 i
                      · rw [if_pos y3, if_pos y3]
                      · rw [if_neg y3, if_neg y3]
                    · rw [if_neg p4, if_neg (fun z => p4 z.1)]
                · rw [if_neg p2, if_neg (fun z => p2 z.2.2.1)]
              · rw [if_neg p1, if_neg (fun z => p1 z.2.1)])
            FU 0 (fu_gt (by omega))
          exact ⟨_, _, _, c1, c2, m3 _ l2, l3, l5, l6⟩
def knG (T : KT) (w : Nat) (x : Int32) (e : Nat) (a : Int32) : Int32 := if kon (T w e) x = true then a + 1 else a
theorem op_knows {n : Nat} {σ τ : St} (h : Rel0 n σ τ) (hN : cN σ) (x1 x2 : Int32) : ∃ r σ' τ', P_knows x1 x2 σ = some (r, σ') ∧ M_knows x1 x2 τ = some (r, τ') ∧ Rel0 n σ' τ' ∧ cN σ' ∧ sW σ σ' ∧ sO σ σ' := by
  obtain ⟨hA, hB, hC, hD, hE, hS, hF, hG, hH, hI, hJ, hK, hL, hM⟩ := id h
  have eA2 := hA.1.2.1
  have cA2 := hA.2.1.2.1
  obtain ⟨⟨eF1, eF2, eF3, eF4, eF5, eF6, eF7⟩, cF, iF1, iF2, iF3, iF4, iF5, iF6, dF1, dF2⟩ := id hF
  unfold P_knows M_knows
  rw [g_knP, g_knM, ← eA2, Option.bind_some, Option.bind_some]
  cases hx : kn x1 (σ.1 1 5)
  · exact ⟨_, _, _, rfl, rfl, h, hN, (sx_refl σ).2⟩
  · rw [if_pos rfl, if_neg (by exact fun z => nomatch z), g_below, g_isDay, Option.bind_some, Option.bind_some]
    cases hy : bw x2 10000
    · exact ⟨_, _, _, rfl, rfl, h, hN, (sx_refl σ).2⟩
    · rw [if_pos rfl, if_pos rfl]
      obtain ⟨ok, _⟩ := nd_ok h
      obtain ⟨σ', l1, l2, l3, l4, l5, l6, l7⟩ := c_lrn h hN
      obtain ⟨G, H, m1, m2, m3⟩ := m_lrn h
      rw [l1, m1, Option.bind_some, Option.bind_some]
      obtain ⟨k, hk, ek⟩ := id cF
      have ek' : σ'.1 28 6 = nI k := by rw [l7 28 (by decide) (by decide) (by decide)]; exact ek
      have ekm : (mS τ G H).1 0 17 = nI k := by rw [← ek, eF1]; rfl
      have key : ∀ w, w < 7 → (∀ s, P_knower x1 s = some (nI w)) → (∀ i, i < 60 → M_in (Int32.toInt64 ((mS τ G H).1 19 (Int32.toNatClampNeg (if 0 ≤ x1 then (60 : Int32) * x1 + nI i else (60 : Int32) * 6 + nI i)))) 0 (Int32.toInt64 x2) (mS τ G H) = some (kon (nTab (nd σ) w i) x2)) → (∀ i, i < 60 → (0 ≤ x1 → inb ((60 : Int32) * x1 + nI i) 420) ∧ (¬ 0 ≤ x1 → inb ((60 : Int32) * 6 + nI i) 420)) →
          ∃ r, P_knows_L47 x1 x2 σ' FU 0 0 = some (r, σ') ∧ M_knows_L29 x1 x2 (mS τ G H) FU 0 0 = some (r, mS τ G H) := by
        intro w hw kp hmi hib
        have c1 := lp_u0 (F := fun n i a => P_knows_L47 x1 x2 σ' n a i) (c := k) (K := fun a => some (a, σ')) (g := knG (nTab (nd σ)) w x2)
          (fun n a => by
            show P_knows_L47 _ _ _ _ _ _ = _
            rw [P_knows_L47, ek', if_pos (n_cmpE _)])
          (fun n i a hi => by
            show P_knows_L47 _ _ _ _ _ _ = P_knows_L47 _ _ _ _ _ _
            rw [P_knows_L47, ek', if_neg (n_cmp hi (by omega)), kp, Option.bind_some, c_on ok hw (by omega) (l4 w hw), Option.bind_some, nI_1]
            unfold knG
            split <;> rfl)
          FU 0 (fu_gt (by omega))
        have c2 := lp_u0 (F := fun n i a => M_knows_L29 x1 x2 (mS τ G H) n a i) (c := k) (K := fun a => some (a, mS τ G H)) (g := knG (nTab (nd σ)) w x2)
          (fun n a => by
            show M_knows_L29 _ _ _ _ _ _ = _
            rw [M_knows_L29, ekm, if_pos (n_cmpE _)])
          (fun n i a hi => by
            show M_knows_L29 _ _ _ _ _ _ = M_knows_L29 _ _ _ _ _ _
            have e1 := hmi i (by omega)
            have e2 := hib i (by omega)
            rw [M_knows_L29, ekm, if_neg (n_cmp hi (by omega))]
            by_cases q : 0 ≤ x1
            · rw [if_pos q] at e1
              rw [if_pos q, if_pos (e2.1 q), e1, Option.bind_some, nI_1, a0]
              unfold knG
              split <;> rfl
            · rw [if_neg q] at e1
              rw [if_neg q, if_pos (e2.2 q), e1, Option.bind_some, nI_1, a0]
              unfold knG
              split <;> rfl)
          FU 0 (fu_gt (by omega))
        exact ⟨_, c1, c2⟩
      have fin : (∃ r, P_knows_L47 x1 x2 σ' FU 0 0 = some (r, σ') ∧ M_knows_L29 x1 x2 (mS τ G H) FU 0 0 = some (r, mS τ G H)) := by
        rcases kn_of cA2 hx with ⟨q, kk⟩ | ⟨w, hw, q, kk⟩
        · have ng : ¬ 0 ≤ x1 := by rw [q]; decide
          refine key 6 (by omega) kk (fun i hi => ?_) (fun i hi => ⟨fun z => absurd z ng, fun _ => ?_⟩)
          · rw [if_neg ng, show (6 : Int32) = nI 6 from rfl, idx60w, n_tn (by omega), m_on, show (mS τ G H).1 19 = G from rfl, m2 6 (by omega) i hi]
          · rw [show (6 : Int32) = nI 6 from rfl, idx60w]; exact n_inb (by omega) (by decide)
        · have ng : 0 ≤ x1 := by rw [q, n_le, n_0, n_ti (by omega)]; omega
          refine key w (by omega) kk (fun i hi => ?_) (fun i hi => ⟨fun _ => ?_, fun z => absurd ng z⟩)
          · rw [if_pos ng, q, idx60w, n_tn (by omega), m_on, show (mS τ G H).1 19 = G from rfl, m2 w (by omega) i hi]
          · rw [q, idx60w]; exact n_inb (by omega) (by decide)
      obtain ⟨r, r1, r2⟩ := fin
      exact ⟨_, _, _, r1, r2, m3 _ l2, l3, l5, l6⟩
