theorem maI_nn {x : Int32} (h : 0 ≤ x) : maI 0 x = x := by
  unfold maI
  split
  · rfl
  · rename_i q
    rw [n_eq]
    rw [n_lt] at q
    rw [n_le] at h
    omega
theorem maI_neg {x : Int32} (h : ¬ 0 ≤ x) : maI 0 x = 0 := by
  unfold maI
  split
  · rename_i q
    exfalso
    rw [n_lt] at q
    rw [n_le] at h
    omega
  · rfl
theorem add_neg_sub (x y : Int32) : x + -y = x - y := (Int32.sub_eq_add_neg x y).symm
set_option maxHeartbeats 2000000 in
theorem y_gain {n : Nat} {σ τ : St} (h : Rel0 n σ τ) (x1 x2 x3 x4 : Int32) : ∃ G : Int32, P_gainOf x1 x2 x3 σ = some (maI 0 G) ∧ ∃ c : Nat, τ.1 0 17 = nI c ∧ M_share_L40 x1 x2 x3 x4 τ FU 0 0 = M_share_L40 x1 x2 x3 x4 τ 1 G (nI c) := by
  obtain ⟨hA, hB, hC, hD, hE, hS, hF, hG, hH, hI, hJ, hK, hL, hM⟩ := id h
  obtain ⟨⟨eE1, eE2, eE3, eE4⟩, cE, iE1, iE2, iE3, iE4⟩ := id hE
  obtain ⟨⟨eF1, eF2, eF3, eF4, eF5, eF6, eF7⟩, cF, iF1, iF2, iF3, iF4, iF5, iF6, dF1, dF2⟩ := id hF
  obtain ⟨kF, hkF, ekF⟩ := id cF
  have hk := n_ti (k := kF) (by omega)
  have key : ∀ m i (a : Int32), i ≤ kF → kF - i < m → ∃ G : Int32, P_gainOf_L6 x1 x2 x3 σ m a (nI i) = some (maI 0 G) ∧ M_share_L40 x1 x2 x3 x4 τ m a (nI i) = M_share_L40 x1 x2 x3 x4 τ 1 G (nI kF) := by
    intro m
    induction m with
    | zero => intro i a _ hm; omega
    | succ m ih =>
      intro i a hi hm
      rcases Nat.lt_or_ge i kF with hlt | hge
      · have h1 := n_cmp hlt (by omega)
        have h2 : inb (nI i) 60 := n_inb (by omega) (by decide)
        have h3 := n_tn (k := i) (by omega)
        have hp : bw (σ.1 29 i) (σ.1 21 3) = true := by rw [bw_iff]; exact ⟨(iF1 i).1, dF1 i (by rw [ekF, hk]; omega)⟩
        have hpi : inb (σ.1 29 i) 12 := bw_in hp (cn_toInt cE (by decide)).2
        have e1 : M_share_L40 x1 x2 x3 x4 τ (m + 1) a (nI i) = if σ.1 23 (σ.1 29 i).toNatClampNeg = x1 then (if bl (σ.1 34 i) x2 x3 = true then (if σ.1 30 i = 2 then M_share_L40 x1 x2 x3 x4 τ m (a + σ.1 32 i * σ.1 33 i) (nI (i + 1)) else if σ.1 30 i = 1 then M_share_L40 x1 x2 x3 x4 τ m (a - σ.1 32 i * σ.1 33 i) (nI (i + 1)) else M_share_L40 x1 x2 x3 x4 τ m a (nI (i + 1))) else M_share_L40 x1 x2 x3 x4 τ m a (nI (i + 1))) else M_share_L40 x1 x2 x3 x4 τ m a (nI (i + 1)) := by
          rw [M_share_L40]
          simp only [ekF, ← eF1, ← eF2, ← eF3, ← eF5, ← eF6, ← eF7, ← eE3, h1, if_pos h2, h3, if_pos hpi, g_inI, nI_1, a0, add_neg_sub, Option.bind_some, Bool.not_true, Bool.not_false, Bool.false_eq_true, if_true, if_false, eq_self, not_true, not_false_iff, sub_add]
        rw [e1]
        simp only [P_gainOf_L6, Ledger_worth, g_packsHas, ekF, h1, if_pos h2, h3, hp, if_pos hpi, nI_1, bl_split, Option.bind_some, Bool.not_true, Bool.not_false, Bool.false_eq_true, if_true, if_false, eq_self, not_true, not_false_iff, sub_add]
        by_cases q1 : σ.1 23 (σ.1 29 i).toNatClampNeg = x1
        · cases q2 : bl (σ.1 34 i) x2 x3
          · simp only [q1, Option.bind_some, Bool.not_true, Bool.not_false, Bool.false_eq_true, if_true, if_false, eq_self, not_true, not_false_iff, sub_add]; exact ih (i + 1) a (by omega) (by omega)
          · by_cases q3 : σ.1 30 i = 2
            · simp only [q1, q3, c01.2.2.2.2.2.1, Option.bind_some, Bool.not_true, Bool.not_false, Bool.false_eq_true, if_true, if_false, eq_self, not_true, not_false_iff, sub_add]; exact ih (i + 1) _ (by omega) (by omega)
            · by_cases q4 : σ.1 30 i = 1
              · simp only [q1, q4, c01.1, Option.bind_some, Bool.not_true, Bool.not_false, Bool.false_eq_true, if_true, if_false, eq_self, not_true, not_false_iff, sub_add]; exact ih (i + 1) _ (by omega) (by omega)
              · simp only [q1, q3, q4, Option.bind_some, Bool.not_true, Bool.not_false, Bool.false_eq_true, if_true, if_false, eq_self, not_true, not_false_iff, sub_add]; exact ih (i + 1) a (by omega) (by omega)
        · simp only [q1, Option.bind_some, Bool.not_true, Bool.not_false, Bool.false_eq_true, if_true, if_false, eq_self, not_true, not_false_iff, sub_add]; exact ih (i + 1) a (by omega) (by omega)
      · have e : i = kF := by omega
        subst e
        refine ⟨a, ?_, ?_⟩
        · simp only [P_gainOf_L6, ekF, n_cmpE, if_true]
        · rw [M_share_L40, M_share_L40]; simp only [ekF, ← eF1, n_cmpE, if_true]
  obtain ⟨G, g1, g2⟩ := key FU 0 0 (Nat.zero_le _) (fu_gt (by omega))
  exact ⟨G, g1, kF, eF1 ▸ ekF, g2⟩
set_option maxHeartbeats 2000000 in
theorem op_share {n : Nat} {σ τ : St} (h : Rel0 n σ τ) (x1 x2 x3 x4 : Int32) : ∃ r : Int32, P_share x1 x2 x3 x4 σ = some r ∧ M_share x1 x2 x3 x4 τ = some r := by
  obtain ⟨hA, hB, hC, hD, hE, hS, hF, hG, hH, hI, hJ, hK, hL, hM⟩ := id h
  obtain ⟨⟨eA1, eA2, eA3, eA4, eA5, eA6, eA7⟩, ⟨cA1, cA2, cA3⟩, iA1, iA2, iA3, iA4⟩ := id hA
  simp only [P_share, M_share, g_below, g_hasBand, g_noBand, g_pdays, g_mdays, g_in3, ← eA2, Option.bind_some, Bool.not_true, Bool.not_false, Bool.false_eq_true, if_true, if_false, eq_self, not_true, not_false_iff, sub_add]
  cases hx : bw x1 (σ.1 1 5)
  · simp only [Option.bind_some, Bool.not_true, Bool.not_false, Bool.false_eq_true, if_true, if_false, eq_self, not_true, not_false_iff, sub_add]; exact ⟨_, rfl, rfl⟩
  · cases hz : bd x2 x3
    · cases hy : bw x4 4
      · simp only [Option.bind_some, Bool.not_true, Bool.not_false, Bool.false_eq_true, if_true, if_false, eq_self, not_true, not_false_iff, sub_add]; exact ⟨_, rfl, rfl⟩
      · simp only [Option.bind_some, Bool.not_true, Bool.not_false, Bool.false_eq_true, if_true, if_false, eq_self, not_true, not_false_iff, sub_add]; exact ⟨_, rfl, rfl⟩
    · cases hy : bw x4 4
      · simp only [Option.bind_some, Bool.not_true, Bool.not_false, Bool.false_eq_true, if_true, if_false, eq_self, not_true, not_false_iff, sub_add]; exact ⟨_, rfl, rfl⟩
      · obtain ⟨G, g1, c, g2, g3⟩ := y_gain h x1 x2 x3 x4
        obtain ⟨V, X, v1, v2, v3, _⟩ := x_cust hG (l := 0) (by decide) x3
        have hin : inb x1 6 := bw_in hx (cn_toInt cA2 (by decide)).2
        have h4 : x4 = 0 ∨ x4 = 1 ∨ x4 = 2 ∨ x4 = 3 := by
          have := bw_toInt hy
          rw [k_4] at this
          rw [n_eq, n_eq, n_eq, n_eq, n_0, k_1, k_2, k_3]
          omega
        have e3 : ¬ (3 : Int32) = 0 ∧ ¬ (3 : Int32) = 1 ∧ ¬ (3 : Int32) = 2 ∧ ¬ (1 : Int32) = 3 ∧ ¬ (2 : Int32) = 3 := by decide
        simp only [g1, g3, Option.bind_some, Bool.not_true, Bool.not_false, Bool.false_eq_true, if_true, if_false, eq_self, not_true, not_false_iff, sub_add]
        rw [M_share_L40]
        simp only [g2, n_cmpE, v1, v2, v3, if_pos hin, ← eA5, ← eA6, Option.bind_some, Bool.not_true, Bool.not_false, Bool.false_eq_true, if_true, if_false, eq_self, not_true, not_false_iff, sub_add]
        by_cases hG0 : 0 ≤ G
        · simp only [hG0, maI_nn hG0, Option.bind_some, Bool.not_true, Bool.not_false, Bool.false_eq_true, if_true, if_false, eq_self, not_true, not_false_iff, sub_add]
          by_cases hp : 2 * σ.1 3 (Int32.toNatClampNeg x1) + σ.1 4 (Int32.toNatClampNeg x1) = 0
          · rcases h4 with q | q | q | q <;> subst q <;> simp only [hp, e3.1, e3.2.1, e3.2.2.1, e3.2.2.2.1, e3.2.2.2.2, c01.1, c01.2.1, c01.2.2.1, c01.2.2.2.1, c01.2.2.2.2.1, c01.2.2.2.2.2.1, Option.bind_some, Bool.not_true, Bool.not_false, Bool.false_eq_true, if_true, if_false, eq_self, not_true, not_false_iff, sub_add] <;> exact ⟨_, rfl, rfl⟩
          · rcases h4 with q | q | q | q <;> subst q <;> simp only [hp, e3.1, e3.2.1, e3.2.2.1, e3.2.2.2.1, e3.2.2.2.2, c01.1, c01.2.1, c01.2.2.1, c01.2.2.2.1, c01.2.2.2.2.1, c01.2.2.2.2.2.1, Option.bind_some, Bool.not_true, Bool.not_false, Bool.false_eq_true, if_true, if_false, eq_self, not_true, not_false_iff, sub_add] <;> exact ⟨_, rfl, rfl⟩
        · simp only [hG0, maI_neg hG0, Option.bind_some, Bool.not_true, Bool.not_false, Bool.false_eq_true, if_true, if_false, eq_self, not_true, not_false_iff, sub_add]
          by_cases hp : 2 * σ.1 3 (Int32.toNatClampNeg x1) + σ.1 4 (Int32.toNatClampNeg x1) = 0
          · rcases h4 with q | q | q | q <;> subst q <;> simp only [hp, e3.1, e3.2.1, e3.2.2.1, e3.2.2.2.1, e3.2.2.2.2, c01.1, c01.2.1, c01.2.2.1, c01.2.2.2.1, c01.2.2.2.2.1, c01.2.2.2.2.2.1, Option.bind_some, Bool.not_true, Bool.not_false, Bool.false_eq_true, if_true, if_false, eq_self, not_true, not_false_iff, sub_add] <;> exact ⟨_, rfl, rfl⟩
          · rcases h4 with q | q | q | q <;> subst q <;> simp only [hp, e3.1, e3.2.1, e3.2.2.1, e3.2.2.2.1, e3.2.2.2.2, c01.1, c01.2.1, c01.2.2.1, c01.2.2.2.1, c01.2.2.2.2.1, c01.2.2.2.2.2.1, Option.bind_some, Bool.not_true, Bool.not_false, Bool.false_eq_true, if_true, if_false, eq_self, not_true, not_false_iff, sub_add] <;> exact ⟨_, rfl, rfl⟩
/-! SHEETS -/
theorem idx60 (a b : Nat) : nI a * (60 : Int32) + nI b = nI (60 * a + b) := by
  rw [← l60, nI_mul, nI_add, Nat.mul_comm]
theorem idx60' (a b : Nat) : (60 : Int32) * nI a + nI b = nI (60 * a + b) := by
  rw [← l60, nI_mul, nI_add]
theorem in240 {a b : Nat} (ha : a < 4) (hb : b < 60) : inb (nI (60 * a + b)) 240 := n_inb (by omega) (by decide)
theorem sz_of {ce la si si' la' ce' : Nat → Int32} (h : rL ce la si si' la' ce') {k : Nat} (hk : k < 4) : (si k = -9 ∧ si' k = -1) ∨ ∃ s : Nat, s ≤ 60 ∧ si k = nI s ∧ si' k = nI s := by
  rcases (h.2.2 k hk).2 with q | ⟨q1, q2, q3⟩
  · exact Or.inl q
  · obtain ⟨j, hj, e⟩ := nI_of (x := si k) (by rw [n_lt, n_0]; omega)
    rw [e, n_ti hj] at q3
    exact Or.inr ⟨j, by omega, e, by rw [← q1]; exact e⟩
theorem n_add6 {a b : Int64} (h1 : -9223372036854775808 ≤ a.toInt + b.toInt) (h2 : a.toInt + b.toInt < 9223372036854775808) : (a + b).toInt = a.toInt + b.toInt := by rw [Int64.toInt_add]; exact n_bm6 h1 h2
theorem n_06 : (0 : Int64).toInt = 0 := by decide
/-- whether i and n cells lie within s -/
def hc6 (i : Int32) (c : Int64) (s : Int) : Bool := decide (0 ≤ i.toInt ∧ 0 ≤ c.toInt ∧ i.toInt + c.toInt ≤ s)
theorem y_has {σ : St} {k s : Nat} (hk : k < 4) (hs : s ≤ 60) (e : σ.1 77 k = nI s) (i : Int32) (c : Int64) (hc : -1000000000000 ≤ c.toInt ∧ c.toInt ≤ 1000000000000) : Sheets_hasCells (nI k) i c σ = some (hc6 i c s) := by
  have h2 : inb (nI k) 4 := n_inb hk (by decide)
  have hr := n_rng i
  simp only [Sheets_hasCells, if_pos h2, n_tn (k := k) (by omega), e, n_lt, n_lt6, n_0, n_06, Int32.toInt_toInt64]
  rw [n_add6 (by rw [Int32.toInt_toInt64]; omega) (by rw [Int32.toInt_toInt64]; omega), Int32.toInt_toInt64, n_ti (by omega)]
  unfold hc6
  split
  · simp; omega
  · split
    · simp; omega
    · split
      · simp; omega
      · simp; omega
theorem y_bey {τ : St} {s : Nat} (hs : s ≤ 60) (i : Int32) (c : Int64) (hc : -1000000000000 ≤ c.toInt ∧ c.toInt ≤ 1000000000000) : M_isBeyond i c (nI s) τ = some (!hc6 i c s) := by
  have hr := n_rng i
  simp only [M_isBeyond, n_lt, n_lt6, n_0, n_06, Int32.toInt_toInt64]
  rw [n_add6 (by rw [Int32.toInt_toInt64]; omega) (by rw [Int32.toInt_toInt64]; omega), Int32.toInt_toInt64, n_ti (by omega)]
  unfold hc6
  split
  · simp; omega
  · split
    · simp; omega
    · split
      · simp; omega
      · simp; omega
theorem f_neg : ¬ (0 : Int32) ≤ -10 - 1 ∧ ¬ (0 : Int32) ≤ -10 - 2 ∧ ¬ (0 : Int32) ≤ -10 - 3 ∧ ¬ (0 : Int32) ≤ -10 - 4 := by decide
theorem y_take {σ τ : St} (hL : rL (σ.1 75) (σ.1 76) (σ.1 77) (τ.1 59) (τ.1 60) (τ.1 61)) {k : Nat} (hk : k < 4) {lane : Int32} (hl : bw lane 3 = true) (i : Int32) (c : Int64) (hc : -1000000000000 ≤ c.toInt ∧ c.toInt ≤ 1000000000000) (v : Int32) :
    (Sheets_takingFault (nI k) lane i c (wI σ 0 13 v) = some 0 ∧ M_barred (nI k) lane i c τ = some (0, τ) ∧ ∃ s : Nat, s ≤ 60 ∧ σ.1 77 k = nI s ∧ 0 ≤ i.toInt ∧ 0 ≤ c.toInt ∧ i.toInt + c.toInt ≤ s) ∨
    (∃ f : Int32, ¬ f = 0 ∧ Sheets_takingFault (nI k) lane i c (wI σ 0 13 v) = some f ∧ M_barred (nI k) lane i c τ = some (-10 - f, wI τ 0 0 f) ∧ ¬ (0 : Int32) ≤ -10 - f) := by
  have h2 : inb (nI k) 4 := n_inb hk (by decide)
  have h3 := n_tn (k := k) (by omega)
  have e77 : (wI σ 0 13 v).1 77 k = σ.1 77 k := rfl
  have e76 : (wI σ 0 13 v).1 76 k = σ.1 76 k := rfl
  have eL2 := hL.2.1
  simp only [Sheets_takingFault, Sheets_isNothing, M_barred, M_failed, if_pos h2, h3, g_in2, hl, e77, e76, ← eL2, Option.bind_some, Bool.not_true, Bool.not_false, Bool.false_eq_true, if_true, if_false, eq_self, not_true, not_false_iff, sub_add]
  rcases sz_of hL hk with ⟨q1, q2⟩ | ⟨s, hs, q1, q2⟩
  · right
    have a1 : τ.1 59 k < 0 := by rw [q2]; decide
    have a2 : ¬ (0 : Int32) ≤ τ.1 59 k := by rw [q2]; decide
    simp only [q1, a1, a2, Option.bind_some, Bool.not_true, Bool.not_false, Bool.false_eq_true, if_true, if_false, eq_self, not_true, not_false_iff, sub_add]
    exact ⟨1, by decide, rfl, rfl, f_neg.1⟩
  · have a0' : ¬ σ.1 77 k = -9 := by rw [q1]; exact (fun e => by rw [n_eq, k_m9, n_ti (by omega)] at e; omega)
    have a1 : ¬ τ.1 59 k < 0 := by rw [q2, n_lt, n_0, n_ti (by omega)]; omega
    have a2 : (0 : Int32) ≤ τ.1 59 k := by rw [q2, n_le, n_0, n_ti (by omega)]; omega
    have b1 := y_has (σ := wI σ 0 13 v) hk hs q1 i c hc
    have b2 := y_bey (τ := τ) hs i c hc
    rw [← q2] at b2
    simp only [a0', a1, a2, b1, b2, Option.bind_some, Bool.not_true, Bool.not_false, Bool.false_eq_true, if_true, if_false, eq_self, not_true, not_false_iff, sub_add]
    by_cases w1 : σ.1 76 k = lane
    · by_cases w2 : c < 0
      · right
        simp only [w1, w2, Option.bind_some, Bool.not_true, Bool.not_false, Bool.false_eq_true, if_true, if_false, eq_self, not_true, not_false_iff, sub_add]
        exact ⟨4, by decide, rfl, rfl, f_neg.2.2.2⟩
      · cases w3 : hc6 i c s
        · right
          simp only [w1, w2, Option.bind_some, Bool.not_true, Bool.not_false, Bool.false_eq_true, if_true, if_false, eq_self, not_true, not_false_iff, sub_add]
          exact ⟨3, by decide, rfl, rfl, f_neg.2.2.1⟩
        · left
          simp only [w1, w2, Option.bind_some, Bool.not_true, Bool.not_false, Bool.false_eq_true, if_true, if_false, eq_self, not_true, not_false_iff, sub_add]
          unfold hc6 at w3
          simp only [decide_eq_true_eq] at w3
          exact ⟨trivial, trivial, s, hs, q1, w3⟩
    · right
      simp only [w1, Option.bind_some, Bool.not_true, Bool.not_false, Bool.false_eq_true, if_true, if_false, eq_self, not_true, not_false_iff, sub_add]
      exact ⟨2, by decide, rfl, rfl, f_neg.2.1⟩
theorem rL_cell {ce la si si' la' ce' : Nat → Int32} (h : rL ce la si si' la' ce') (k : Nat) (v : Int32) : rL (upd ce k v) la si si' la' (upd ce' k v) := ⟨upd_eq h.1 _ _, h.2⟩
theorem y_renew {k : Nat} (hk : k < 4) {s : Nat} (hs : s ≤ 60) : ∀ (m i : Nat) (n : Nat) (σ τ : St), Rel0 n σ (wI τ 0 0 (σ.1 0 13)) → i ≤ s → s - i < m → ∃ σ' τ', Sheets_renew_L17 (nI k) (nI s) m (nI i) σ = some σ' ∧ M_sheet_L65 (nI k) (nI s) m (nI i) τ = some (1, wI τ' 0 0 0) ∧ Rel0 n σ' (wI τ' 0 0 (σ.1 0 13)) ∧ Sx σ σ' ∧ σ'.1 0 = σ.1 0 ∧ σ'.1 1 = σ.1 1 ∧ σ'.1 21 = σ.1 21 := by
  intro m
  induction m with
  | zero => intro i n σ τ _ _ hm; omega
  | succ m ih =>
    intro i n σ τ h hi hm
    rcases Nat.lt_or_ge i s with hlt | hge
    · have h1 := n_cmp hlt (by omega)
      have h2 := in240 hk (show i < 60 by omega)
      have h3 := n_tn (k := 60 * k + i) (by omega)
      obtain ⟨hA, hB, hC, hD, hE, hS, hF, hG, hH, hI, hJ, hK, hL, hM⟩ := id h
      have hr : Rel0 n (wI σ 75 (60 * k + i) 0) (wI (wI τ 61 (60 * k + i) 0) 0 0 (σ.1 0 13)) := ⟨hA, hB, hC, hD, hE, hS, hF, hG, hH, hI, hJ, hK, rL_cell hL _ _, hM⟩
      simp only [Sheets_renew_L17, M_sheet_L65, h1, idx60, idx60', if_pos h2, h3, nI_1, if_false]
      obtain ⟨σ', τ', t1, t2, t3, t4, t5, t6, t7⟩ := ih (i + 1) n _ _ hr (by omega) (by omega)
      exact ⟨σ', τ', t1, t2, t3, sx_trans ⟨Or.inr ⟨rfl, rfl, rfl, rfl, rfl, rfl, rfl, rfl, rfl, rfl, fun _ _ => rfl⟩, Or.inr ⟨rfl, rfl, rfl, rfl, rfl⟩, Or.inr ⟨rfl, rfl, rfl, rfl, rfl, rfl, rfl, rfl, rfl, fun _ _ => rfl⟩⟩ t4 rfl rfl, t5, t6, t7⟩
    · have e : i = s := by omega
      subst e
      simp only [Sheets_renew_L17, M_sheet_L65, M_refused, n_cmpE, if_true, Option.bind_some]
      exact ⟨_, τ, rfl, rfl, h, sx_refl σ, rfl, rfl, rfl⟩
set_option maxHeartbeats 2000000 in
theorem op_sheet {n : Nat} {σ τ : St} (h : Rel0 n σ τ) (x1 x2 x3 : Int32) : ∃ r σ' τ', P_sheet x1 x2 x3 σ = some (r, σ') ∧ M_sheet x1 x2 x3 τ = some (r, τ') ∧ Rel0 n σ' τ' ∧ Sx σ σ' := by
  obtain ⟨hA, hB, hC, hD, hE, hS, hF, hG, hH, hI, hJ, hK, hL, hM⟩ := id h
  obtain ⟨eL1, eL2, dL⟩ := id hL
  obtain ⟨eM1, eM2⟩ := id hM
  simp only [P_sheet, M_sheet, Sheets_renew, P_faulted, M_refused, M_failed, g_below, g_sheetsHas, g_noSheet, g_in2, Option.bind_some, Bool.not_true, Bool.not_false, Bool.false_eq_true, if_true, if_false, eq_self, not_true, not_false_iff, sub_add]
  cases hx : bw x1 4
  · simp only [Option.bind_some, Bool.not_true, Bool.not_false, Bool.false_eq_true, if_true, if_false, eq_self, not_true, not_false_iff, sub_add]
    exact ⟨_, _, _, rfl, rfl, ⟨hA, hB, hC, hD, hE, hS, hF, hG, hH, hI, hJ, hK, hL, ⟨rfl, eM2⟩⟩, ⟨Or.inr ⟨rfl, rfl, rfl, rfl, rfl, rfl, rfl, rfl, rfl, rfl, fun _ _ => rfl⟩, Or.inr ⟨rfl, rfl, rfl, rfl, rfl⟩, Or.inr ⟨rfl, rfl, rfl, rfl, rfl, rfl, rfl, rfl, rfl, fun _ _ => rfl⟩⟩⟩
  · cases hy : bw x2 3
    · simp only [Option.bind_some, Bool.not_true, Bool.not_false, Bool.false_eq_true, if_true, if_false, eq_self, not_true, not_false_iff, sub_add]
      exact ⟨_, _, _, rfl, rfl, ⟨hA, hB, hC, hD, hE, hS, hF, hG, hH, hI, hJ, hK, hL, ⟨rfl, eM2⟩⟩, ⟨Or.inr ⟨rfl, rfl, rfl, rfl, rfl, rfl, rfl, rfl, rfl, rfl, fun _ _ => rfl⟩, Or.inr ⟨rfl, rfl, rfl, rfl, rfl⟩, Or.inr ⟨rfl, rfl, rfl, rfl, rfl, rfl, rfl, rfl, rfl, fun _ _ => rfl⟩⟩⟩
    · by_cases h60 : x3 ≤ 60
      · by_cases h0 : 0 ≤ x3
        · obtain ⟨k, rfl, hk, hk2⟩ := bw_of hx
          rw [k_4] at hk
          have hin : inb (nI k) 4 := bw_in hx (by decide)
          have h3 := n_tn (k := k) hk2
          obtain ⟨s, hs, rfl⟩ := nI_of (x := x3) (by rw [n_lt, n_0]; rw [n_le, n_0] at h0; omega)
          have hs60 : s ≤ 60 := by rw [n_le, k_60, n_ti hs] at h60; omega
          have hl := bw_toInt hy
          rw [k_3] at hl
          simp only [h60, h0, if_pos hin, h3, Option.bind_some, Bool.not_true, Bool.not_false, Bool.false_eq_true, if_true, if_false, eq_self, not_true, not_false_iff, sub_add]
          have hr : Rel0 n (wI (wI (wI σ 0 13 0) 76 k x2) 77 k (nI s)) (wI (wI (wI τ 59 k (nI s)) 60 k x2) 0 0 0) := by
            refine ⟨hA, hB, hC, hD, hE, hS, hF, hG, hH, hI, hJ, hK, ⟨eL1, upd_eq eL2 _ _, fun j hj => ?_⟩, ⟨rfl, eM2⟩⟩
            show (0 ≤ (upd (σ.1 76) k x2 j).toInt ∧ (upd (σ.1 76) k x2 j).toInt ≤ 2) ∧ ((upd (σ.1 77) k (nI s) j = -9 ∧ upd (τ.1 59) k (nI s) j = -1) ∨ (upd (σ.1 77) k (nI s) j = upd (τ.1 59) k (nI s) j ∧ 0 ≤ (upd (σ.1 77) k (nI s) j).toInt ∧ (upd (σ.1 77) k (nI s) j).toInt ≤ 60))
            rw [upd_at, upd_at, upd_at]
            by_cases e : j = k
            · rw [if_pos e, if_pos e, if_pos e, n_ti hs]
              exact ⟨by omega, Or.inr ⟨rfl, by omega, by omega⟩⟩
            · rw [if_neg e, if_neg e, if_neg e]
              exact dL j hj
          obtain ⟨σ', τ', t1, t2, t3, t4, t5, t6, t7⟩ := y_renew (k := k) (by omega) hs60 FU 0 n (wI (wI (wI σ 0 13 0) 76 k x2) 77 k (nI s)) (wI (wI τ 59 k (nI s)) 60 k x2) hr (Nat.zero_le _) (fu_gt (by omega))
          have t1' : Sheets_renew_L17 (nI k) (nI s) FU 0 (wI (wI (wI σ 0 13 0) 76 k x2) 77 k (nI s)) = some σ' := t1
          have t2' : M_sheet_L65 (nI k) (nI s) FU 0 (wI (wI τ 59 k (nI s)) 60 k x2) = some (1, wI τ' 0 0 0) := t2
          simp only [t1', t2', Option.bind_some, Bool.not_true, Bool.not_false, Bool.false_eq_true, if_true, if_false, eq_self, not_true, not_false_iff, sub_add]
          exact ⟨_, _, _, rfl, rfl, t3, sx_trans ⟨Or.inr ⟨rfl, rfl, rfl, rfl, rfl, rfl, rfl, rfl, rfl, rfl, fun _ _ => rfl⟩, Or.inr ⟨rfl, rfl, rfl, rfl, rfl⟩, Or.inr ⟨rfl, rfl, rfl, rfl, rfl, rfl, rfl, rfl, rfl, fun _ _ => rfl⟩⟩ t4 rfl rfl⟩
        · simp only [h60, h0, Option.bind_some, Bool.not_true, Bool.not_false, Bool.false_eq_true, if_true, if_false, eq_self, not_true, not_false_iff, sub_add]
          exact ⟨_, _, _, rfl, rfl, ⟨hA, hB, hC, hD, hE, hS, hF, hG, hH, hI, hJ, hK, hL, ⟨rfl, eM2⟩⟩, ⟨Or.inr ⟨rfl, rfl, rfl, rfl, rfl, rfl, rfl, rfl, rfl, rfl, fun _ _ => rfl⟩, Or.inr ⟨rfl, rfl, rfl, rfl, rfl⟩, Or.inr ⟨rfl, rfl, rfl, rfl, rfl, rfl, rfl, rfl, rfl, fun _ _ => rfl⟩⟩⟩
      · simp only [h60, Option.bind_some, Bool.not_true, Bool.not_false, Bool.false_eq_true, if_true, if_false, eq_self, not_true, not_false_iff, sub_add]
        exact ⟨_, _, _, rfl, rfl, ⟨hA, hB, hC, hD, hE, hS, hF, hG, hH, hI, hJ, hK, hL, ⟨rfl, eM2⟩⟩, ⟨Or.inr ⟨rfl, rfl, rfl, rfl, rfl, rfl, rfl, rfl, rfl, rfl, fun _ _ => rfl⟩, Or.inr ⟨rfl, rfl, rfl, rfl, rfl⟩, Or.inr ⟨rfl, rfl, rfl, rfl, rfl, rfl, rfl, rfl, rfl, fun _ _ => rfl⟩⟩⟩
theorem y_noCell {σ τ : St} (hL : rL (σ.1 75) (σ.1 76) (σ.1 77) (τ.1 59) (τ.1 60) (τ.1 61)) {k : Nat} (hk : k < 4) (i : Int32) (v : Int32) : (M_noCell (nI k) i (wI τ 0 0 v) = some 1 ∧ M_noCell (nI k) i τ = some 1 ∧ σ.1 77 k = -9 ∧ τ.1 59 k = -1) ∨ (∃ s : Nat, s ≤ 60 ∧ σ.1 77 k = nI s ∧ τ.1 59 k = nI s ∧ M_noCell (nI k) i (wI τ 0 0 v) = some (if bw i (nI s) = true then 0 else 3) ∧ M_noCell (nI k) i τ = some (if bw i (nI s) = true then 0 else 3)) := by
  have h2 : inb (nI k) 4 := n_inb hk (by decide)
  have h3 := n_tn (k := k) (by omega)
  have e59 : (wI τ 0 0 v).1 59 k = τ.1 59 k := rfl
  simp only [M_noCell, if_pos h2, h3, g_inP, e59, Option.bind_some, Bool.not_true, Bool.not_false, Bool.false_eq_true, if_true, if_false, eq_self, not_true, not_false_iff, sub_add]
  rcases sz_of hL hk with ⟨q1, q2⟩ | ⟨s, hs, q1, q2⟩
  · left
    have a2 : ¬ (0 : Int32) ≤ τ.1 59 k := by rw [q2]; decide
    simp only [a2, Option.bind_some, Bool.not_true, Bool.not_false, Bool.false_eq_true, if_true, if_false, eq_self, not_true, not_false_iff, sub_add]
    exact ⟨trivial, trivial, q1, q2⟩
  · right
    have a2 : (0 : Int32) ≤ nI s := by rw [n_le, n_0, n_ti (by omega)]; omega
    refine ⟨s, hs, q1, q2, ?_, ?_⟩
    · simp only [a2, q2, Option.bind_some, Bool.not_true, Bool.not_false, Bool.false_eq_true, if_true, if_false, eq_self, not_true, not_false_iff, sub_add]; cases bw i (nI s) <;> simp
    · simp only [a2, q2, Option.bind_some, Bool.not_true, Bool.not_false, Bool.false_eq_true, if_true, if_false, eq_self, not_true, not_false_iff, sub_add]; cases bw i (nI s) <;> simp
set_option maxHeartbeats 2000000 in
theorem op_put {n : Nat} {σ τ : St} (h : Rel0 n σ τ) (x1 x2 x3 : Int32) : ∃ r σ' τ', P_put x1 x2 x3 σ = some (r, σ') ∧ M_put x1 x2 x3 τ = some (r, τ') ∧ Rel0 n σ' τ' ∧ Sx σ σ' := by
  obtain ⟨hA, hB, hC, hD, hE, hS, hF, hG, hH, hI, hJ, hK, hL, hM⟩ := id h
  obtain ⟨eL1, eL2, dL⟩ := id hL
  obtain ⟨eM1, eM2⟩ := id hM
  simp only [P_put, M_put, Sheets_write, Sheets_cutTo, Sheets_isNothing, P_faulted, M_refused, M_failed, g_below, g_sheetsHas, g_noSheet, Option.bind_some, Bool.not_true, Bool.not_false, Bool.false_eq_true, if_true, if_false, eq_self, not_true, not_false_iff, sub_add]
  cases hx : bw x1 4
  · simp only [Option.bind_some, Bool.not_true, Bool.not_false, Bool.false_eq_true, if_true, if_false, eq_self, not_true, not_false_iff, sub_add]
    exact ⟨_, _, _, rfl, rfl, ⟨hA, hB, hC, hD, hE, hS, hF, hG, hH, hI, hJ, hK, hL, ⟨rfl, eM2⟩⟩, ⟨Or.inr ⟨rfl, rfl, rfl, rfl, rfl, rfl, rfl, rfl, rfl, rfl, fun _ _ => rfl⟩, Or.inr ⟨rfl, rfl, rfl, rfl, rfl⟩, Or.inr ⟨rfl, rfl, rfl, rfl, rfl, rfl, rfl, rfl, rfl, fun _ _ => rfl⟩⟩⟩
  · obtain ⟨k, rfl, hk, hk2⟩ := bw_of hx
    rw [k_4] at hk
    have hin : inb (nI k) 4 := bw_in hx (by decide)
    have h3 := n_tn (k := k) hk2
    have e77 : (wI σ 0 13 0).1 77 k = σ.1 77 k := rfl
    have e76 : (wI σ 0 13 0).1 76 k = σ.1 76 k := rfl
    rcases y_noCell hL (k := k) (by omega) x2 0 with ⟨a1, a2, a3, a4⟩ | ⟨s, hs, a1, a2, a3, a4⟩
    · simp only [if_pos hin, h3, e77, a3, a2, show ¬ (1 : Int32) ≤ 0 by decide, Option.bind_some, Bool.not_true, Bool.not_false, Bool.false_eq_true, if_true, if_false, eq_self, not_true, not_false_iff, sub_add]
      exact ⟨_, _, _, rfl, rfl, ⟨hA, hB, hC, hD, hE, hS, hF, hG, hH, hI, hJ, hK, hL, ⟨rfl, eM2⟩⟩, ⟨Or.inr ⟨rfl, rfl, rfl, rfl, rfl, rfl, rfl, rfl, rfl, rfl, fun _ _ => rfl⟩, Or.inr ⟨rfl, rfl, rfl, rfl, rfl⟩, Or.inr ⟨rfl, rfl, rfl, rfl, rfl, rfl, rfl, rfl, rfl, fun _ _ => rfl⟩⟩⟩
    · have b0 : ¬ nI s = -9 := fun e => by rw [n_eq, k_m9, n_ti (by omega)] at e; omega
      simp only [if_pos hin, h3, e77, e76, a4, b0, a1, ← eL2, Option.bind_some, Bool.not_true, Bool.not_false, Bool.false_eq_true, if_true, if_false, eq_self, not_true, not_false_iff, sub_add]
      cases hw : bw x2 (nI s)
      · simp only [show ¬ (3 : Int32) ≤ 0 by decide, Option.bind_some, Bool.not_true, Bool.not_false, Bool.false_eq_true, if_true, if_false, eq_self, not_true, not_false_iff, sub_add]
        exact ⟨_, _, _, rfl, rfl, ⟨hA, hB, hC, hD, hE, hS, hF, hG, hH, hI, hJ, hK, hL, ⟨rfl, eM2⟩⟩, ⟨Or.inr ⟨rfl, rfl, rfl, rfl, rfl, rfl, rfl, rfl, rfl, rfl, fun _ _ => rfl⟩, Or.inr ⟨rfl, rfl, rfl, rfl, rfl⟩, Or.inr ⟨rfl, rfl, rfl, rfl, rfl, rfl, rfl, rfl, rfl, fun _ _ => rfl⟩⟩⟩
      · obtain ⟨i, rfl, hi, hi2⟩ := bw_of hw
        rw [n_ti (by omega)] at hi
        have h240 := in240 (show k < 4 by omega) (show i < 60 by omega)
        simp only [show (0 : Int32) ≤ 0 by decide, idx60, idx60', if_pos h240, Option.bind_some, Bool.not_true, Bool.not_false, Bool.false_eq_true, if_true, if_false, eq_self, not_true, not_false_iff, sub_add]
        by_cases w0 : σ.1 76 k = 0
        · simp only [w0, Option.bind_some, Bool.not_true, Bool.not_false, Bool.false_eq_true, if_true, if_false, eq_self, not_true, not_false_iff, sub_add]
          exact ⟨_, _, _, rfl, rfl, ⟨hA, hB, hC, hD, hE, hS, hF, hG, hH, hI, hJ, hK, rL_cell hL _ _, ⟨rfl, eM2⟩⟩, ⟨Or.inr ⟨rfl, rfl, rfl, rfl, rfl, rfl, rfl, rfl, rfl, rfl, fun _ _ => rfl⟩, Or.inr ⟨rfl, rfl, rfl, rfl, rfl⟩, Or.inr ⟨rfl, rfl, rfl, rfl, rfl, rfl, rfl, rfl, rfl, fun _ _ => rfl⟩⟩⟩
        · by_cases w1 : σ.1 76 k = 1
          · simp only [w0, w1, ne10, Option.bind_some, Bool.not_true, Bool.not_false, Bool.false_eq_true, if_true, if_false, eq_self, not_true, not_false_iff, sub_add]
            exact ⟨_, _, _, rfl, rfl, ⟨hA, hB, hC, hD, hE, hS, hF, hG, hH, hI, hJ, hK, rL_cell hL _ _, ⟨rfl, eM2⟩⟩, ⟨Or.inr ⟨rfl, rfl, rfl, rfl, rfl, rfl, rfl, rfl, rfl, rfl, fun _ _ => rfl⟩, Or.inr ⟨rfl, rfl, rfl, rfl, rfl⟩, Or.inr ⟨rfl, rfl, rfl, rfl, rfl, rfl, rfl, rfl, rfl, fun _ _ => rfl⟩⟩⟩
          · simp only [w0, w1, Option.bind_some, Bool.not_true, Bool.not_false, Bool.false_eq_true, if_true, if_false, eq_self, not_true, not_false_iff, sub_add]
            exact ⟨_, _, _, rfl, rfl, ⟨hA, hB, hC, hD, hE, hS, hF, hG, hH, hI, hJ, hK, rL_cell hL _ _, ⟨rfl, eM2⟩⟩, ⟨Or.inr ⟨rfl, rfl, rfl, rfl, rfl, rfl, rfl, rfl, rfl, rfl, fun _ _ => rfl⟩, Or.inr ⟨rfl, rfl, rfl, rfl, rfl⟩, Or.inr ⟨rfl, rfl, rfl, rfl, rfl, rfl, rfl, rfl, rfl, fun _ _ => rfl⟩⟩⟩
set_option maxHeartbeats 2000000 in
theorem op_cell {n : Nat} {σ τ : St} (h : Rel0 n σ τ) (x1 x2 x3 : Int32) : ∃ r σ' τ', P_cell x1 x2 x3 σ = some (r, σ') ∧ M_cell x1 x2 x3 τ = some (r, τ') ∧ Rel0 n σ' τ' ∧ Sx σ σ' := by
  obtain ⟨hA, hB, hC, hD, hE, hS, hF, hG, hH, hI, hJ, hK, hL, hM⟩ := id h
  obtain ⟨eL1, eL2, dL⟩ := id hL
  obtain ⟨eM1, eM2⟩ := id hM
  have z0 : (wI σ 0 13 0) = (wI σ 0 13 0) := rfl
  simp only [P_cell, M_cell, M_lost, M_failedLong, g_below, g_sheetsHas, g_noSheet, g_in2, Option.bind_some, Bool.not_true, Bool.not_false, Bool.false_eq_true, if_true, if_false, eq_self, not_true, not_false_iff, sub_add]
  cases hx : bw x1 4
  · simp only [Option.bind_some, Bool.not_true, Bool.not_false, Bool.false_eq_true, if_true, if_false, eq_self, not_true, not_false_iff, sub_add]
    exact ⟨_, _, _, rfl, rfl, ⟨hA, hB, hC, hD, hE, hS, hF, hG, hH, hI, hJ, hK, hL, ⟨rfl, eM2⟩⟩, ⟨Or.inr ⟨rfl, rfl, rfl, rfl, rfl, rfl, rfl, rfl, rfl, rfl, fun _ _ => rfl⟩, Or.inr ⟨rfl, rfl, rfl, rfl, rfl⟩, Or.inr ⟨rfl, rfl, rfl, rfl, rfl, rfl, rfl, rfl, rfl, fun _ _ => rfl⟩⟩⟩
  · cases hy : bw x3 3
    · simp only [Option.bind_some, Bool.not_true, Bool.not_false, Bool.false_eq_true, if_true, if_false, eq_self, not_true, not_false_iff, sub_add]
      exact ⟨_, _, _, rfl, rfl, ⟨hA, hB, hC, hD, hE, hS, hF, hG, hH, hI, hJ, hK, hL, ⟨rfl, eM2⟩⟩, ⟨Or.inr ⟨rfl, rfl, rfl, rfl, rfl, rfl, rfl, rfl, rfl, rfl, fun _ _ => rfl⟩, Or.inr ⟨rfl, rfl, rfl, rfl, rfl⟩, Or.inr ⟨rfl, rfl, rfl, rfl, rfl, rfl, rfl, rfl, rfl, fun _ _ => rfl⟩⟩⟩
    · obtain ⟨k, rfl, hk, hk2⟩ := bw_of hx
      rw [k_4] at hk
      have hin : inb (nI k) 4 := bw_in hx (by decide)
      have h3 := n_tn (k := k) hk2
      have e77 : (wI σ 0 13 0).1 77 k = σ.1 77 k := rfl
      have e76 : (wI σ 0 13 0).1 76 k = σ.1 76 k := rfl
      have l1 : ¬ (1 : Int64) < 0 := by decide
      simp only [Sheets_takingFault, Sheets_isNothing, if_pos hin, h3, e77, e76, l1, ← eL2, Option.bind_some, Bool.not_true, Bool.not_false, Bool.false_eq_true, if_true, if_false, eq_self, not_true, not_false_iff, sub_add]
      rcases y_noCell hL (k := k) (by omega) x2 0 with ⟨a1, a2, a3, a4⟩ | ⟨s, hs, a1, a2, a3, a4⟩
      · have b1 : τ.1 59 k < 0 := by rw [a4]; decide
        simp only [a3, b1, a1, show ¬ (1 : Int32) ≤ 0 by decide, ne10, Option.bind_some, Bool.not_true, Bool.not_false, Bool.false_eq_true, if_true, if_false, eq_self, not_true, not_false_iff, sub_add]
        exact ⟨_, _, _, rfl, rfl, ⟨hA, hB, hC, hD, hE, hS, hF, hG, hH, hI, hJ, hK, hL, ⟨rfl, eM2⟩⟩, ⟨Or.inr ⟨rfl, rfl, rfl, rfl, rfl, rfl, rfl, rfl, rfl, rfl, fun _ _ => rfl⟩, Or.inr ⟨rfl, rfl, rfl, rfl, rfl⟩, Or.inr ⟨rfl, rfl, rfl, rfl, rfl, rfl, rfl, rfl, rfl, fun _ _ => rfl⟩⟩⟩
      · have b0 : ¬ σ.1 77 k = -9 := by rw [a1]; exact (fun e => by rw [n_eq, k_m9, n_ti (by omega)] at e; omega)
        have b1 : ¬ τ.1 59 k < 0 := by rw [a2, n_lt, n_0, n_ti (by omega)]; omega
        have b2 := y_has (σ := wI σ 0 13 0) (k := k) (by omega) hs a1 x2 1 (by decide)
        have b3 : hc6 x2 1 s = bw x2 (nI s) := by
          unfold hc6 bw
          rw [decide_eq_decide, n_le, n_lt, n_0, n_ti (by omega)]
          have : (1 : Int64).toInt = 1 := by decide
          omega
        simp only [b0, b1, b2, b3, a3, Option.bind_some, Bool.not_true, Bool.not_false, Bool.false_eq_true, if_true, if_false, eq_self, not_true, not_false_iff, sub_add]
        by_cases w : σ.1 76 k = x3
        · cases hw : bw x2 (nI s)
          · simp only [w, show ¬ (3 : Int32) ≤ 0 by decide, show ¬ (3 : Int32) = 0 by decide, Option.bind_some, Bool.not_true, Bool.not_false, Bool.false_eq_true, if_true, if_false, eq_self, not_true, not_false_iff, sub_add]
            exact ⟨_, _, _, rfl, rfl, ⟨hA, hB, hC, hD, hE, hS, hF, hG, hH, hI, hJ, hK, hL, ⟨rfl, eM2⟩⟩, ⟨Or.inr ⟨rfl, rfl, rfl, rfl, rfl, rfl, rfl, rfl, rfl, rfl, fun _ _ => rfl⟩, Or.inr ⟨rfl, rfl, rfl, rfl, rfl⟩, Or.inr ⟨rfl, rfl, rfl, rfl, rfl, rfl, rfl, rfl, rfl, fun _ _ => rfl⟩⟩⟩
          · obtain ⟨i, rfl, hi, hi2⟩ := bw_of hw
            rw [n_ti (by omega)] at hi
            have h240 := in240 (show k < 4 by omega) (show i < 60 by omega)
            have e75 : ∀ j, (wI (wI σ 0 13 0) 0 13 0).1 75 j = τ.1 61 j := fun j => by rw [← eL1]; rfl
            simp only [w, Sheets_valueAt, idx60, idx60', if_pos h240, e75, show (0 : Int32) ≤ 0 by decide, Option.bind_some, Bool.not_true, Bool.not_false, Bool.false_eq_true, if_true, if_false, eq_self, not_true, not_false_iff, sub_add]
            exact ⟨_, _, _, rfl, rfl, ⟨hA, hB, hC, hD, hE, hS, hF, hG, hH, hI, hJ, hK, hL, ⟨rfl, eM2⟩⟩, ⟨Or.inr ⟨rfl, rfl, rfl, rfl, rfl, rfl, rfl, rfl, rfl, rfl, fun _ _ => rfl⟩, Or.inr ⟨rfl, rfl, rfl, rfl, rfl⟩, Or.inr ⟨rfl, rfl, rfl, rfl, rfl, rfl, rfl, rfl, rfl, fun _ _ => rfl⟩⟩⟩
        · simp only [w, show ¬ (2 : Int32) = 0 by decide, Option.bind_some, Bool.not_true, Bool.not_false, Bool.false_eq_true, if_true, if_false, eq_self, not_true, not_false_iff, sub_add]
          exact ⟨_, _, _, rfl, rfl, ⟨hA, hB, hC, hD, hE, hS, hF, hG, hH, hI, hJ, hK, hL, ⟨rfl, eM2⟩⟩, ⟨Or.inr ⟨rfl, rfl, rfl, rfl, rfl, rfl, rfl, rfl, rfl, rfl, fun _ _ => rfl⟩, Or.inr ⟨rfl, rfl, rfl, rfl, rfl⟩, Or.inr ⟨rfl, rfl, rfl, rfl, rfl, rfl, rfl, rfl, rfl, fun _ _ => rfl⟩⟩⟩
