theorem rel_flt {Z : Prop} {n : Nat} {σ τ : St} (h : RelX Z n σ τ) (v : Int32) : RelX Z n σ (wI τ 0 0 v) := by
  obtain ⟨hA, hB, hC, hD, hE, hS, hF, hG, hH, hI, hJ, hK, hL, hM⟩ := h
  exact ⟨hA, hB, hC, hD, hE, hS, hF, hG, hH, hI, hJ, hK, hL, hM⟩
theorem wI_wA (τ : St) (k i : Nat) (f : Nat → Int32) (v : Int32) : wI (wA τ k f) k i v = wA τ k (upd f i v) := by
  unfold wI wA
  refine Prod.ext ?_ rfl
  funext a
  show (if a = k then upd (if k = k then f else τ.1 k) i v else (if a = k then f else τ.1 a)) = (if a = k then upd f i v else τ.1 a)
  split
  · rw [if_pos rfl]
  · rfl
theorem y_copy1 {k a nn : Nat} (hk : k < 4) (ha : a + nn ≤ 60) (x3 x4 : Int32) : ∀ (m j : Nat) (τ : St) (f : Nat → Int32), j ≤ nn → nn - j < m → (∀ t, t < j → f t = τ.1 61 (60 * k + a + t)) → ∃ f' : Nat → Int32, (∀ t, t < nn → f' t = τ.1 61 (60 * k + a + t)) ∧ M_copy_L107 (nI k) (nI a) x3 x4 (nI nn) m (nI j) (wA τ 62 f) = M_copy_L144 x3 x4 (nI nn) FU 0 (wA τ 62 f') := by
  intro m
  induction m with
  | zero => intro j τ f _ hm; omega
  | succ m ih =>
    intro j τ f hj hm hf
    rcases Nat.lt_or_ge j nn with hlt | hge
    · have h1 := n_cmp hlt (by omega)
      have h2 : inb (nI (60 * k + a + j)) 240 := n_inb (by omega) (by decide)
      have h3 := n_tn (k := 60 * k + a + j) (by omega)
      have h4 : inb (nI j) 60 := n_inb (by omega) (by decide)
      have h5 := n_tn (k := j) (by omega)
      have e61 : (wA τ 62 f).1 61 (60 * k + a + j) = τ.1 61 (60 * k + a + j) := rfl
      simp only [M_copy_L107, h1, idx60', nI_add, if_pos h2, h3, if_pos h4, h5, e61, wI_wA, nI_1, if_false]
      refine ih (j + 1) τ _ (by omega) (by omega) (fun t ht => ?_)
      rw [upd_at]
      split
      · rename_i e; rw [e]
      · exact hf t (by omega)
    · have e : j = nn := by omega
      subst e
      refine ⟨f, hf, ?_⟩
      simp only [M_copy_L107, n_cmpE, if_true]
theorem y_copy2 {q b nn : Nat} (hq : q < 4) (hb : b + nn ≤ 60) : ∀ (m j : Nat) (s : St) (g : Nat → Int32), j ≤ nn → nn - j < m → ∃ g' : Nat → Int32, (∀ x, g' x = if 60 * q + b + j ≤ x ∧ x < 60 * q + b + nn then s.1 62 (x - (60 * q + b)) else g x) ∧ M_copy_L144 (nI q) (nI b) (nI nn) m (nI j) (wA s 61 g) = some (nI nn, wI (wA s 61 g') 0 0 0) := by
  intro m
  induction m with
  | zero => intro j s g _ hm; omega
  | succ m ih =>
    intro j s g hj hm
    rcases Nat.lt_or_ge j nn with hlt | hge
    · have h1 := n_cmp hlt (by omega)
      have h2 : inb (nI (60 * q + b + j)) 240 := n_inb (by omega) (by decide)
      have h3 := n_tn (k := 60 * q + b + j) (by omega)
      have h4 : inb (nI j) 60 := n_inb (by omega) (by decide)
      have h5 := n_tn (k := j) (by omega)
      have e62 : (wA s 61 g).1 62 j = s.1 62 j := rfl
      simp only [M_copy_L144, h1, idx60', nI_add, if_pos h2, h3, if_pos h4, h5, e62, wI_wA, nI_1, if_false]
      obtain ⟨g', t1, t2⟩ := ih (j + 1) s (upd g (60 * q + b + j) (s.1 62 j)) (by omega) (by omega)
      refine ⟨g', fun x => ?_, t2⟩
      rw [t1 x, upd_at]
      by_cases e1 : 60 * q + b + (j + 1) ≤ x ∧ x < 60 * q + b + nn
      · rw [if_pos e1, if_pos (by omega)]
      · rw [if_neg e1]
        by_cases e2 : x = 60 * q + b + j
        · rw [if_pos e2, if_pos (by omega)]
          have e3 : x - (60 * q + b) = j := by omega
          rw [e3]
        · rw [if_neg e2, if_neg (by omega)]
    · have e : j = nn := by omega
      subst e
      refine ⟨g, fun x => ?_, ?_⟩
      · rw [if_neg (by omega)]
      · simp only [M_copy_L144, M_refused, n_cmpE, if_true, Option.bind_some]
theorem wA_self (τ : St) (k : Nat) : wA τ k (τ.1 k) = τ := by
  unfold wA
  refine Prod.ext ?_ rfl
  funext a
  show (if a = k then τ.1 k else τ.1 a) = τ.1 a
  split
  · rename_i e; rw [e]
  · rfl
set_option maxHeartbeats 2000000 in
theorem op_copy {n : Nat} {σ τ : St} (h : Rel0 n σ τ) (x1 x2 x3 x4 x5 : Int32) : ∃ r σ' τ', P_copy x1 x2 x3 x4 x5 σ = some (r, σ') ∧ M_copy x1 x2 x3 x4 x5 τ = some (r, τ') ∧ Rel0 n σ' τ' ∧ Sx σ σ' := by
  obtain ⟨hA, hB, hC, hD, hE, hS, hF, hG, hH, hI, hJ, hK, hL, hM⟩ := id h
  obtain ⟨eL1, eL2, dL⟩ := id hL
  obtain ⟨eM1, eM2⟩ := id hM
  simp only [P_copy, M_copy, Sheets_isNothing, Sheets_carry, P_faulted, M_refused, M_failed, g_below, g_sheetsHas, g_noSheet, Option.bind_some, Bool.not_true, Bool.not_false, Bool.false_eq_true, if_true, if_false, eq_self, not_true, not_false_iff, sub_add]
  cases hx : bw x1 4
  · simp only [Option.bind_some, Bool.not_true, Bool.not_false, Bool.false_eq_true, if_true, if_false, eq_self, not_true, not_false_iff, sub_add]
    exact ⟨_, _, _, rfl, rfl, ⟨hA, hB, hC, hD, hE, hS, hF, hG, hH, hI, hJ, hK, hL, ⟨rfl, eM2⟩⟩, ⟨Or.inr ⟨rfl, rfl, rfl, rfl, rfl, rfl, rfl, rfl, rfl, rfl, fun _ _ => rfl⟩, Or.inr ⟨rfl, rfl, rfl, rfl, rfl⟩, Or.inr ⟨rfl, rfl, rfl, rfl, rfl, rfl, rfl, rfl, rfl, fun _ _ => rfl⟩⟩⟩
  · cases hy : bw x3 4
    · simp only [Option.bind_some, Bool.not_true, Bool.not_false, Bool.false_eq_true, if_true, if_false, eq_self, not_true, not_false_iff, sub_add]
      exact ⟨_, _, _, rfl, rfl, ⟨hA, hB, hC, hD, hE, hS, hF, hG, hH, hI, hJ, hK, hL, ⟨rfl, eM2⟩⟩, ⟨Or.inr ⟨rfl, rfl, rfl, rfl, rfl, rfl, rfl, rfl, rfl, rfl, fun _ _ => rfl⟩, Or.inr ⟨rfl, rfl, rfl, rfl, rfl⟩, Or.inr ⟨rfl, rfl, rfl, rfl, rfl, rfl, rfl, rfl, rfl, fun _ _ => rfl⟩⟩⟩
    · obtain ⟨k, rfl, hk, hk2⟩ := bw_of hx
      obtain ⟨q, rfl, hq, hq2⟩ := bw_of hy
      rw [k_4] at hk hq
      have hin : inb (nI k) 4 := bw_in hx (by decide)
      have hin2 : inb (nI q) 4 := bw_in hy (by decide)
      have h3 := n_tn (k := k) hk2
      have h4 := n_tn (k := q) hq2
      have e77 : ∀ j, (wI σ 0 13 0).1 77 j = σ.1 77 j := fun _ => rfl
      have e75 : (wI σ 0 13 0).1 75 = σ.1 75 := rfl
      simp only [if_pos hin, if_pos hin2, h3, h4, e77, e75, ← eL2, Option.bind_some, Bool.not_true, Bool.not_false, Bool.false_eq_true, if_true, if_false, eq_self, not_true, not_false_iff, sub_add]
      have hr5 := n_rng x5
      rcases sz_of hL (show k < 4 by omega) with ⟨a1, a2⟩ | ⟨s, hs, a1, a2⟩
      · have b1 : τ.1 59 k < 0 := by rw [a2]; decide
        simp only [a1, b1, Option.bind_some, Bool.not_true, Bool.not_false, Bool.false_eq_true, if_true, if_false, eq_self, not_true, not_false_iff, sub_add]
        exact ⟨_, _, _, rfl, rfl, ⟨hA, hB, hC, hD, hE, hS, hF, hG, hH, hI, hJ, hK, hL, ⟨rfl, eM2⟩⟩, ⟨Or.inr ⟨rfl, rfl, rfl, rfl, rfl, rfl, rfl, rfl, rfl, rfl, fun _ _ => rfl⟩, Or.inr ⟨rfl, rfl, rfl, rfl, rfl⟩, Or.inr ⟨rfl, rfl, rfl, rfl, rfl, rfl, rfl, rfl, rfl, fun _ _ => rfl⟩⟩⟩
      · have b0 : ¬ σ.1 77 k = -9 := by rw [a1]; exact (fun e => by rw [n_eq, k_m9, n_ti (by omega)] at e; omega)
        have b1 : ¬ τ.1 59 k < 0 := by rw [a2, n_lt, n_0, n_ti (by omega)]; omega
        rcases sz_of hL (show q < 4 by omega) with ⟨c1, c2⟩ | ⟨t, ht, c1, c2⟩
        · have d1 : ¬ (0 : Int32) ≤ τ.1 59 q := by rw [c2]; decide
          simp only [b0, b1, c1, d1, Option.bind_some, Bool.not_true, Bool.not_false, Bool.false_eq_true, if_true, if_false, eq_self, not_true, not_false_iff, sub_add]
          exact ⟨_, _, _, rfl, rfl, ⟨hA, hB, hC, hD, hE, hS, hF, hG, hH, hI, hJ, hK, hL, ⟨rfl, eM2⟩⟩, ⟨Or.inr ⟨rfl, rfl, rfl, rfl, rfl, rfl, rfl, rfl, rfl, rfl, fun _ _ => rfl⟩, Or.inr ⟨rfl, rfl, rfl, rfl, rfl⟩, Or.inr ⟨rfl, rfl, rfl, rfl, rfl, rfl, rfl, rfl, rfl, fun _ _ => rfl⟩⟩⟩
        · have d0 : ¬ σ.1 77 q = -9 := by rw [c1]; exact (fun e => by rw [n_eq, k_m9, n_ti (by omega)] at e; omega)
          have d1 : (0 : Int32) ≤ τ.1 59 q := by rw [c2, n_le, n_0, n_ti (by omega)]; omega
          have f1 := y_has (σ := wI σ 0 13 0) (k := k) (by omega) hs a1 x2 (Int32.toInt64 x5) (by rw [Int32.toInt_toInt64]; omega)
          have f2 := y_has (σ := wI σ 0 13 0) (k := q) (by omega) ht c1 x4 (Int32.toInt64 x5) (by rw [Int32.toInt_toInt64]; omega)
          have m1 := y_bey (τ := τ) hs x2 (Int32.toInt64 x5) (by rw [Int32.toInt_toInt64]; omega)
          have m2 := y_bey (τ := τ) ht x4 (Int32.toInt64 x5) (by rw [Int32.toInt_toInt64]; omega)
          rw [← a2] at m1
          rw [← c2] at m2
          simp only [b0, b1, d0, d1, f1, f2, m1, m2, Option.bind_some, Bool.not_true, Bool.not_false, Bool.false_eq_true, if_true, if_false, eq_self, not_true, not_false_iff, sub_add]
          by_cases w : σ.1 76 k = σ.1 76 q
          · cases w1 : hc6 x2 (Int32.toInt64 x5) s
            · simp only [w, Option.bind_some, Bool.not_true, Bool.not_false, Bool.false_eq_true, if_true, if_false, eq_self, not_true, not_false_iff, sub_add]
              exact ⟨_, _, _, rfl, rfl, ⟨hA, hB, hC, hD, hE, hS, hF, hG, hH, hI, hJ, hK, hL, ⟨rfl, eM2⟩⟩, ⟨Or.inr ⟨rfl, rfl, rfl, rfl, rfl, rfl, rfl, rfl, rfl, rfl, fun _ _ => rfl⟩, Or.inr ⟨rfl, rfl, rfl, rfl, rfl⟩, Or.inr ⟨rfl, rfl, rfl, rfl, rfl, rfl, rfl, rfl, rfl, fun _ _ => rfl⟩⟩⟩
            · cases w2 : hc6 x4 (Int32.toInt64 x5) t
              · simp only [w, Option.bind_some, Bool.not_true, Bool.not_false, Bool.false_eq_true, if_true, if_false, eq_self, not_true, not_false_iff, sub_add]
                exact ⟨_, _, _, rfl, rfl, ⟨hA, hB, hC, hD, hE, hS, hF, hG, hH, hI, hJ, hK, hL, ⟨rfl, eM2⟩⟩, ⟨Or.inr ⟨rfl, rfl, rfl, rfl, rfl, rfl, rfl, rfl, rfl, rfl, fun _ _ => rfl⟩, Or.inr ⟨rfl, rfl, rfl, rfl, rfl⟩, Or.inr ⟨rfl, rfl, rfl, rfl, rfl, rfl, rfl, rfl, rfl, fun _ _ => rfl⟩⟩⟩
              · unfold hc6 at w1 w2
                simp only [decide_eq_true_eq, Int32.toInt_toInt64] at w1 w2
                obtain ⟨a, ha, rfl⟩ := nI_of (x := x2) (by rw [n_lt, n_0]; omega)
                obtain ⟨b, hb, rfl⟩ := nI_of (x := x4) (by rw [n_lt, n_0]; omega)
                obtain ⟨nn, hnn, rfl⟩ := nI_of (x := x5) (by rw [n_lt, n_0]; omega)
                rw [n_ti ha, n_ti hnn] at w1
                rw [n_ti hb, n_ti hnn] at w2
                have ck : cpok (nI (60 * k + a)) (nI (60 * q + b)) (nI nn) 240 240 := by
                  refine ⟨⟨?_, ?_, ?_⟩, ?_, ?_⟩
                  · rw [n_lt, n_0, n_ti (by omega)]; omega
                  · rw [n_lt, n_0, n_ti (by omega)]; omega
                  · rw [n_lt, n_0, n_ti (by omega)]; omega
                  · rw [n_tn (by omega), n_tn (by omega)]; omega
                  · rw [n_tn (by omega), n_tn (by omega)]; omega
                simp only [w, idx60, if_pos ck, n_tn (show 60 * k + a < 2 ^ 31 by omega), n_tn (show 60 * q + b < 2 ^ 31 by omega), n_tn (show nn < 2 ^ 31 by omega), Option.bind_some, Bool.not_true, Bool.not_false, Bool.false_eq_true, if_true, if_false, eq_self, not_true, not_false_iff, sub_add]
                obtain ⟨f', p1, p2⟩ := y_copy1 (k := k) (a := a) (nn := nn) (by omega) (by omega) (nI q) (nI b) FU 0 τ (τ.1 62) (Nat.zero_le _) (fu_gt (by omega)) (fun t ht => by omega)
                rw [wA_self] at p2
                obtain ⟨g', r1, r2⟩ := y_copy2 (q := q) (b := b) (nn := nn) (by omega) (by omega) FU 0 (wA τ 62 f') (τ.1 61) (Nat.zero_le _) (fu_gt (by omega))
                have e61 : wA (wA τ 62 f') 61 (τ.1 61) = wA τ 62 f' := wA_self (wA τ 62 f') 61
                rw [e61] at r2
                have p2' : M_copy_L107 (nI k) (nI a) (nI q) (nI b) (nI nn) FU 0 τ = M_copy_L144 (nI q) (nI b) (nI nn) FU 0 (wA τ 62 f') := p2
                have r2' : M_copy_L144 (nI q) (nI b) (nI nn) FU 0 (wA τ 62 f') = some (nI nn, wI (wA (wA τ 62 f') 61 g') 0 0 0) := r2
                simp only [p2', r2', Option.bind_some, Bool.not_true, Bool.not_false, Bool.false_eq_true, if_true, if_false, eq_self, not_true, not_false_iff, sub_add]
                refine ⟨_, _, _, rfl, rfl, ⟨hA, hB, hC, hD, hE, hS, hF, hG, hH, hI, hJ, hK, ⟨?_, eL2, dL⟩, ⟨rfl, eM2⟩⟩, ⟨Or.inr ⟨rfl, rfl, rfl, rfl, rfl, rfl, rfl, rfl, rfl, rfl, fun _ _ => rfl⟩, Or.inr ⟨rfl, rfl, rfl, rfl, rfl⟩, Or.inr ⟨rfl, rfl, rfl, rfl, rfl, rfl, rfl, rfl, rfl, fun _ _ => rfl⟩⟩⟩
                show va_cpy (σ.1 75) (σ.1 75) (60 * k + a) (60 * q + b) nn = g'
                funext x
                rw [r1 x, eL1]
                unfold va_cpy
                by_cases e : 60 * q + b ≤ x ∧ x < 60 * q + b + nn
                · rw [if_pos e, if_pos (by omega)]
                  exact (p1 (x - (60 * q + b)) (by omega)).symm
                · rw [if_neg e, if_neg (by omega)]
          · simp only [w, Option.bind_some, Bool.not_true, Bool.not_false, Bool.false_eq_true, if_true, if_false, eq_self, not_true, not_false_iff, sub_add]
            exact ⟨_, _, _, rfl, rfl, ⟨hA, hB, hC, hD, hE, hS, hF, hG, hH, hI, hJ, hK, hL, ⟨rfl, eM2⟩⟩, ⟨Or.inr ⟨rfl, rfl, rfl, rfl, rfl, rfl, rfl, rfl, rfl, rfl, fun _ _ => rfl⟩, Or.inr ⟨rfl, rfl, rfl, rfl, rfl⟩, Or.inr ⟨rfl, rfl, rfl, rfl, rfl, rfl, rfl, rfl, rfl, fun _ _ => rfl⟩⟩⟩
theorem nI_mul4 (j : Nat) : (4 : Int32) * nI j = nI (4 * j) := by rw [← l4, nI_mul]
theorem nI_p (a b : Nat) : nI a + (2 : Int32) = nI (a + 2) ∧ nI a + (3 : Int32) = nI (a + 3) := by
  constructor
  · rw [show (2 : Int32) = nI 2 by decide, nI_add]
  · rw [show (3 : Int32) = nI 3 by decide, nI_add]
theorem rF_cut {cp c c0 : Int32} {pa ki go ma co da : Nat → Int32} {c' : Int32} {pa' ki' go' ma' co' da' : Nat → Int32} (h : rF cp c pa ki go ma co da c' pa' ki' go' ma' co' da') (h0 : cn c0 60) (hle : c0.toInt ≤ c.toInt) : rF cp c0 pa ki go ma co da c0 pa' ki' go' ma' co' da' := by
  obtain ⟨⟨e1, e2, e3, e4, e5, e6, e7⟩, c1, i1, i2, i3, i4, i5, i6, d1, d2⟩ := h
  exact ⟨⟨rfl, e2, e3, e4, e5, e6, e7⟩, h0, i1, i2, i3, i4, i5, i6, fun i hi => d1 i (by omega), fun i j hij hj e => d2 i j hij (by omega) e⟩
theorem y_at {σ : St} {k i : Nat} (hk : k < 4) (hi : i < 60) : Sheets_valueAt (nI k) (nI i) σ = some (σ.1 75 (60 * k + i)) := by
  simp only [Sheets_valueAt, idx60, if_pos (in240 hk hi), n_tn (show 60 * k + i < 2 ^ 31 by omega)]
/-- all but the ledger stays -/
def FrL (σ σ' : St) : Prop := ∀ k, (k < 28 ∨ 34 < k) → σ'.1 k = σ.1 k
theorem sx_frL {σ σ' : St} (e : FrL σ σ') (h0 : σ.1 35 4 = 0) : Sx σ σ' := ⟨Or.inl (by rw [e 35 (by omega)]; exact h0), Or.inr ⟨by rw [e 57 (by omega)], by rw [e 58 (by omega)], by rw [e 59 (by omega)], by rw [e 61 (by omega)], by rw [e 62 (by omega)]⟩, Or.inr ⟨by rw [e 67 (by omega)], by rw [e 67 (by omega)], by rw [e 67 (by omega)], by rw [e 67 (by omega)], by rw [e 68 (by omega)], by rw [e 69 (by omega)], by rw [e 70 (by omega)], by rw [e 71 (by omega)], by rw [e 72 (by omega)], fun i _ => by rw [e 5 (by omega)]⟩⟩
set_option maxHeartbeats 4000000 in
theorem y_rows {k i N : Nat} (hk : k < 4) (hN : i + 4 * N ≤ 60) {b : Int32} (hb : cn b 60) (p : Int32) : ∀ (m j : Nat) (n : Nat) (σ τ : St), RelX True n σ τ → bw p (σ.1 21 3) = true → b.toInt ≤ (σ.1 28 6).toInt → j ≤ N → N - j < m → ∃ r σ' τ', P_enterRows_L20 p (nI k) (nI i) (nI N) b m (nI j) σ = some (r, σ') ∧ M_entries_L55 p (nI k) (nI i) (nI N) b m (nI j) τ = some (r, wI τ' 0 0 0) ∧ RelX True n σ' τ' ∧ FrL σ σ' ∧ (∀ q, q ≠ 17 → τ'.1 0 q = τ.1 0 q) := by
  intro m
  induction m with
  | zero => intro j n σ τ _ _ _ _ hm; omega
  | succ m ih =>
    intro j n σ τ h hp hbl hj hm
    rcases Nat.lt_or_ge j N with hlt | hge
    · have h1 := n_cmp hlt (by omega)
      obtain ⟨hA, hB, hC, hD, hE, hS, hF, hG, hH, hI, hJ, hK, hL, hM⟩ := id h
      have eL1 := hL.1
      have v0 := y_at (σ := σ) hk (show i + 4 * j < 60 by omega)
      have v1 := y_at (σ := σ) hk (show i + 4 * j + 1 < 60 by omega)
      have v2 := y_at (σ := σ) hk (show i + 4 * j + 2 < 60 by omega)
      have v3 := y_at (σ := σ) hk (show i + 4 * j + 3 < 60 by omega)
      have w0 : inb (nI (60 * k + i + 4 * j)) 240 := n_inb (by omega) (by decide)
      have w1 : inb (nI (60 * k + i + 4 * j + 1)) 240 := n_inb (by omega) (by decide)
      have w2 : inb (nI (60 * k + i + 4 * j + 2)) 240 := n_inb (by omega) (by decide)
      have w3 : inb (nI (60 * k + i + 4 * j + 3)) 240 := n_inb (by omega) (by decide)
      have z0 : 60 * k + (i + 4 * j) = 60 * k + i + 4 * j := by omega
      have z1 : 60 * k + (i + 4 * j + 1) = 60 * k + i + 4 * j + 1 := by omega
      have z2 : 60 * k + (i + 4 * j + 2) = 60 * k + i + 4 * j + 2 := by omega
      have z3 : 60 * k + (i + 4 * j + 3) = 60 * k + i + 4 * j + 3 := by omega
      rw [z0] at v0
      rw [z1] at v1
      rw [z2] at v2
      rw [z3] at v3
      simp only [P_enterRows_L20, M_entries_L55, h1, nI_mul4, idx60', nI_add, nI_1, (nI_p _ 0).1, (nI_p _ 0).2, v0, v1, v2, v3, if_pos w0, if_pos w1, if_pos w2, if_pos w3, n_tn (show 60 * k + i + 4 * j < 2 ^ 31 by omega), n_tn (show 60 * k + i + 4 * j + 1 < 2 ^ 31 by omega), n_tn (show 60 * k + i + 4 * j + 2 < 2 ^ 31 by omega), n_tn (show 60 * k + i + 4 * j + 3 < 2 ^ 31 by omega), ← eL1, Option.bind_some, Bool.not_true, Bool.not_false, Bool.false_eq_true, if_true, if_false, eq_self, not_true, not_false_iff, sub_add]
      obtain ⟨r, σ1, τ1, q1, q2, q3, q4, q5, q6, q7, q8⟩ := addE h p (σ.1 75 (60 * k + i + 4 * j)) (σ.1 75 (60 * k + i + 4 * j + 1)) (σ.1 75 (60 * k + i + 4 * j + 2)) 1 (σ.1 75 (60 * k + i + 4 * j + 3)) hp
      simp only [q1, q2, Option.bind_some, Bool.not_true, Bool.not_false, Bool.false_eq_true, if_true, if_false, eq_self, not_true, not_false_iff, sub_add]
      by_cases hr : 0 ≤ r
      · simp only [hr, Option.bind_some, Bool.not_true, Bool.not_false, Bool.false_eq_true, if_true, if_false, eq_self, not_true, not_false_iff, sub_add]
        obtain ⟨r', σ', τ', t1, t2, t3, t4, t5⟩ := ih (j + 1) n σ1 τ1 q3 (by rw [q4 21 (by omega)]; exact hp) (by omega) (by omega) (by omega)
        exact ⟨r', σ', τ', t1, t2, t3, fun a ha => (t4 a ha).trans (q4 a ha), fun a ha => (t5 a ha).trans (q6 a ha)⟩
      · simp only [hr, M_refused, Option.bind_some, Bool.not_true, Bool.not_false, Bool.false_eq_true, if_true, if_false, eq_self, not_true, not_false_iff, sub_add]
        have hneg : r.toInt < 0 := by rw [n_le, n_0] at hr; omega
        obtain ⟨e1, e2⟩ := q8 hneg
        subst e1; subst e2
        refine ⟨r, _, wI τ1 0 17 b, rfl, rfl, ⟨hA, hB, hC, hD, hE, hS, rF_cut hF hb hbl, hG, hH, hI, hJ, hK, hL, trivial⟩, fun a ha => ?_, fun a ha => ?_⟩
        · have : a ≠ 28 := by omega
          simp [wI, this]
        · simp [wI, upd, ha]
    · have e : j = N := by omega
      subst e
      obtain ⟨hA, hB, hC, hD, hE, hS, hF, hG, hH, hI, hJ, hK, hL, hM⟩ := id h
      obtain ⟨⟨eF1, eF2, eF3, eF4, eF5, eF6, eF7⟩, cF, iF1, iF2, iF3, iF4, iF5, iF6, dF1, dF2⟩ := id hF
      obtain ⟨kF, hkF, ekF⟩ := id cF
      have a1 := s_countOf ekF hkF p
      have a2 := m_entriesOf (τ := τ) (eF1 ▸ ekF) hkF p
      rw [← eF2] at a2
      simp only [P_enterRows_L20, M_entries_L55, M_refused, n_cmpE, a1, a2, Option.bind_some, Bool.not_true, Bool.not_false, Bool.false_eq_true, if_true, if_false, eq_self, not_true, not_false_iff, sub_add]
      exact ⟨_, _, τ, rfl, rfl, h, fun _ _ => rfl, fun _ _ => rfl⟩
theorem idx8 (a b : Nat) : nI a * (8 : Int32) + nI b = nI (8 * a + b) := by
  rw [show (8 : Int32) = nI 8 by decide, nI_mul, nI_add, Nat.mul_comm]
theorem idx8' (a b : Nat) : (8 : Int32) * nI a + nI b = nI (8 * a + b) := by
  rw [show (8 : Int32) = nI 8 by decide, nI_mul, nI_add]
theorem y_round2 {k a N r : Nat} (hk : k < 4) (ha : a + N ≤ 60) (hN : N ≤ 8) (hr : r < 10) : ∀ (m j : Nat) (n : Nat) (σ τ : St), RelX True n σ τ → σ.1 64 2 = nI r → j ≤ N → N - j < m → ∃ σ' τ', Rounds_add_L36 (nI k) (nI a) (nI N) m (nI j) σ = some (nI r, σ') ∧ M_round_L126 (nI k) (nI a) (nI N) m (nI j) τ = some (nI r, wI τ' 0 0 0) ∧ RelX True n σ' τ' ∧ Sx σ σ' ∧ σ'.1 0 = σ.1 0 ∧ (∀ q, q ≠ 60 → τ'.1 0 q = τ.1 0 q) := by
  intro m
  induction m with
  | zero => intro j n σ τ _ _ _ hm; omega
  | succ m ih =>
    intro j n σ τ h hc hj hm
    obtain ⟨hA, hB, hC, hD, hE, hS, hF, hG, hH, hI, hJ, hK, hL, hM⟩ := id h
    have eL1 := hL.1
    obtain ⟨⟨eJ1, eJ2, eJ3⟩, cJ, iJ⟩ := id hJ
    have hc' : τ.1 0 60 = nI r := by rw [← eJ1]; exact hc
    rcases Nat.lt_or_ge j N with hlt | hge
    · have h1 := n_cmp hlt (by omega)
      have v0 := y_at (σ := σ) hk (show a + j < 60 by omega)
      have z0 : 60 * k + (a + j) = 60 * k + a + j := by omega
      rw [z0] at v0
      have w0 : inb (nI (60 * k + a + j)) 240 := n_inb (by omega) (by decide)
      have w1 : inb (nI (8 * r + j)) 80 := n_inb (by omega) (by decide)
      simp only [Rounds_add_L36, M_round_L126, h1, nI_add, v0, hc, hc', idx8, idx8', idx60', if_pos w0, if_pos w1, n_tn (show 60 * k + a + j < 2 ^ 31 by omega), n_tn (show 8 * r + j < 2 ^ 31 by omega), ← eL1, nI_1, Option.bind_some, Bool.not_true, Bool.not_false, Bool.false_eq_true, if_true, if_false, eq_self, not_true, not_false_iff, sub_add]
      have hr2 : RelX True n (wI σ 66 (8 * r + j) (σ.1 75 (60 * k + a + j))) (wI τ 49 (8 * r + j) (σ.1 75 (60 * k + a + j))) := ⟨hA, hB, hC, hD, hE, hS, hF, hG, hH, hI, ⟨⟨eJ1, eJ2, upd_eq eJ3 _ _⟩, cJ, iJ⟩, hK, hL, trivial⟩
      obtain ⟨σ', τ', t1, t2, t3, t4, t5, t6⟩ := ih (j + 1) n _ _ hr2 hc (by omega) (by omega)
      exact ⟨σ', τ', t1, t2, t3, sx_trans ⟨Or.inr ⟨rfl, rfl, rfl, rfl, rfl, rfl, rfl, rfl, rfl, rfl, fun _ _ => rfl⟩, Or.inr ⟨rfl, rfl, rfl, rfl, rfl⟩, Or.inr ⟨rfl, rfl, rfl, rfl, rfl, rfl, rfl, rfl, rfl, fun _ _ => rfl⟩⟩ t4 rfl rfl, t5, t6⟩
    · have e : j = N := by omega
      subst e
      simp only [Rounds_add_L36, M_round_L126, M_refused, n_cmpE, hc, hc', Option.bind_some, Bool.not_true, Bool.not_false, Bool.false_eq_true, if_true, if_false, eq_self, not_true, not_false_iff, sub_add]
      refine ⟨_, wI τ 0 60 (nI r + 1), rfl, rfl, ⟨hA, hB, hC, hD, hE, hS, hF, hG, hH, hI, ⟨⟨rfl, eJ2, eJ3⟩, ⟨r + 1, by omega, nI_1 r⟩, iJ⟩, hK, hL, trivial⟩, ⟨Or.inr ⟨rfl, rfl, rfl, rfl, rfl, rfl, rfl, rfl, rfl, rfl, fun _ _ => rfl⟩, Or.inr ⟨rfl, rfl, rfl, rfl, rfl⟩, Or.inr ⟨rfl, rfl, rfl, rfl, rfl, rfl, rfl, rfl, rfl, fun _ _ => rfl⟩⟩, ?_, fun q hq => ?_⟩
      · simp [wI]
      · simp [wI, upd, hq]
theorem y_round1 {k a N : Nat} (hk : k < 4) (ha : a + N ≤ 60) {n : Nat} {σ τ : St} (h : RelX True n σ τ) : ∀ (m j : Nat), j ≤ N → N - j < m → (P_round_L75 (nI k) (nI a) (nI N) σ m (nI j) = some (-1, σ) ∧ M_round_L56 (nI k) (nI a) (nI N) τ m (nI j) = some (-1, wI τ 0 0 0)) ∨ (P_round_L75 (nI k) (nI a) (nI N) σ m (nI j) = P_round_L75 (nI k) (nI a) (nI N) σ 1 (nI N) ∧ M_round_L56 (nI k) (nI a) (nI N) τ m (nI j) = M_round_L56 (nI k) (nI a) (nI N) τ 1 (nI N)) := by
  intro m
  induction m with
  | zero => intro j _ hm; omega
  | succ m ih =>
    intro j hj hm
    obtain ⟨hA, hB, hC, hD, hE, hS, hF, hG, hH, hI, hJ, hK, hL, hM⟩ := id h
    have eL1 := hL.1
    have eA1 := hA.1.1
    rcases Nat.lt_or_ge j N with hlt | hge
    · have h1 := n_cmp hlt (by omega)
      have v0 := y_at (σ := σ) hk (show a + j < 60 by omega)
      have z0 : 60 * k + (a + j) = 60 * k + a + j := by omega
      rw [z0] at v0
      have w0 : inb (nI (60 * k + a + j)) 240 := n_inb (by omega) (by decide)
      rw [P_round_L75, M_round_L56]
      simp only [h1, nI_add, v0, idx60', if_pos w0, n_tn (show 60 * k + a + j < 2 ^ 31 by omega), g_hasPlace, g_noPlace, M_refused, ← eL1, ← eA1, nI_1, Option.bind_some, Bool.not_true, Bool.not_false, Bool.false_eq_true, if_true, if_false, eq_self, not_true, not_false_iff, sub_add]
      cases hb : bw (σ.1 75 (60 * k + a + j)) (σ.1 1 4)
      · left
        simp only [Option.bind_some, Bool.not_true, Bool.not_false, Bool.false_eq_true, if_true, if_false, eq_self, not_true, not_false_iff, sub_add]
        exact ⟨trivial, trivial⟩
      · simp only [Option.bind_some, Bool.not_true, Bool.not_false, Bool.false_eq_true, if_true, if_false, eq_self, not_true, not_false_iff, sub_add]
        exact ih (j + 1) (by omega) (by omega)
    · have e : j = N := by omega
      subst e
      right
      constructor
      · rw [P_round_L75, P_round_L75]; simp only [n_cmpE, if_true]
      · rw [M_round_L56, M_round_L56]; simp only [n_cmpE, if_true]
