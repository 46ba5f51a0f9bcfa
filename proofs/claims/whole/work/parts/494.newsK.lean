/-! news, the model: what it lays down -/
theorem idx60w (w e : Nat) : (60 : Int32) * nI w + nI e = nI (60 * w + e) := by
  have h : (60 : Int32) = nI 60 := by decide
  rw [h, nI_mul, nI_add]
def Tm (G : Nat → Int32) (T : KT) (w : Nat) : Prop := ∀ e, e < 60 → G (60 * w + e) = T w e
theorem m_lay1 {D : ND} (ok : dOk D) {cb cp : Nat} {τ : St} (hm : ML D cb cp τ) (d : Int32) {K2 : KB} {T : KT} (hc2 : ∀ w e, dC D ≤ e → K2 w e = false) {G : Nat → Int32} {H : Nat → Int64} {w : Nat} (hw : w < 7) (hH : ∀ i, i < 64 → hl (H w) i = K2 w i) (hG : Tm G T w) (k50 k61 : Int32 → St → Option St) :
    ∃ G', M_layKnown_L69 d (nI w) k50 k61 FU 0 (mS τ G H) = k61 (nI (w + 1)) (mS τ G' H) ∧ Tm G' (nNote d K2 T) w ∧ ∀ v, v < 7 → v ≠ w → ∀ e, e < 60 → G' (60 * v + e) = G (60 * v + e) := by
  have o2 := ok.2.1
  have c6 := hm.2.2.2.2.2.1
  have hin : inb (nI w) 7 := n_inb hw (by decide)
  obtain ⟨G', e1, h1, h2⟩ := lp_ex (F := fun n i G => M_layKnown_L69 d (nI w) k50 k61 n i (mS τ G H)) (c := dC D) (K := fun G => k61 (nI (w + 1)) (mS τ G H)) (fun i G' => (∀ e, e < 60 → G' (60 * w + e) = if e < i then nNote d K2 T w e else T w e) ∧ (∀ v, v < 7 → v ≠ w → ∀ e, e < 60 → G' (60 * v + e) = G (60 * v + e)))
    (fun n a _ => by
      show M_layKnown_L69 _ _ _ _ _ _ _ = _
      rw [M_layKnown_L69, show (mS τ a H).1 0 17 = nI (dC D) from c6, if_pos (n_cmpE _), nI_1])
    (fun n i a hi hI => by
      obtain ⟨I1, I2⟩ := hI
      have hx : 60 * w + i < 420 := by omega
      have xin : inb (nI (60 * w + i)) 420 := n_inb hx (by decide)
      have xt := n_tn (k := 60 * w + i) (by omega)
      have e2 : M_layKnown_L69 d (nI w) k50 k61 (n + 1) (nI i) (mS τ a H) = if K2 w i = true then (if 0 ≤ a (60 * w + i) then M_layKnown_L69 d (nI w) k50 k61 n (nI (i + 1)) (mS τ (upd a (60 * w + i) (a (60 * w + i))) H) else M_layKnown_L69 d (nI w) k50 k61 n (nI (i + 1)) (mS τ (upd a (60 * w + i) d) H)) else M_layKnown_L69 d (nI w) k50 k61 n (nI (i + 1)) (mS τ (upd a (60 * w + i) (a (60 * w + i))) H) := by
        rw [M_layKnown_L69, show (mS τ a H).1 0 17 = nI (dC D) from c6, if_neg (n_cmp hi (by omega)), if_pos hin, n_tn (k := w) (by omega), show (mS τ a H).2 18 w = H w from rfl, g_hasL _ (by omega), Option.bind_some, hH i (by omega)]
        simp only [idx60w, if_pos xin, xt, mS_19, nI_1]
        rfl
      have own : a (60 * w + i) = T w i := by rw [I1 i (by omega), if_neg (by omega)]
      have fin : ∀ z : Int32, z = nNote d K2 T w i → (∀ e, e < 60 → upd a (60 * w + i) z (60 * w + e) = if e < i + 1 then nNote d K2 T w e else T w e) ∧ (∀ v, v < 7 → v ≠ w → ∀ e, e < 60 → upd a (60 * w + i) z (60 * v + e) = G (60 * v + e)) := by
        intro z hz
        refine ⟨fun e he => ?_, fun v hv hne e he => ?_⟩
        · rw [upd_at]
          by_cases x : e = i
          · subst x; rw [if_pos rfl, if_pos (by omega)]; exact hz
          · rw [if_neg (by omega), I1 e he]
            by_cases t : e < i
            · rw [if_pos t, if_pos (by omega)]
            · rw [if_neg t, if_neg (by omega)]
        · rw [upd_at, if_neg (by omega)]
          exact I2 v hv hne e he
      by_cases y : K2 w i = true
      · rw [if_pos y] at e2
        by_cases x : 0 ≤ a (60 * w + i)
        · rw [if_pos x] at e2
          refine ⟨_, e2, fin _ ?_⟩
          rw [own] at x ⊢
          rw [n_le, n_0] at x
          unfold nNote
          rw [if_neg (fun t => by omega)]
        · rw [if_neg x] at e2
          refine ⟨_, e2, fin _ ?_⟩
          rw [own] at x
          rw [n_le, n_0] at x
          unfold nNote
          rw [if_pos ⟨y, by omega⟩]
      · rw [if_neg y] at e2
        refine ⟨_, e2, fin _ ?_⟩
        rw [own]
        unfold nNote
        rw [if_neg (fun t => y t.1)])
    FU 0 G (Nat.zero_le _) (fu_gt (by omega)) ⟨fun e he => by rw [if_neg (by omega)]; exact hG e he, fun _ _ _ _ _ => rfl⟩
  refine ⟨G', e1, fun e he => ?_, h2⟩
  rw [h1 e he]
  by_cases t : e < dC D
  · rw [if_pos t]
  · rw [if_neg t]
    unfold nNote
    rw [if_neg (fun y => by rw [hc2 w e (by omega)] at y; exact nomatch y.1)]
theorem m_lay2 {D : ND} (ok : dOk D) {cb cp : Nat} {τ : St} (hm : ML D cb cp τ) (d : Int32) (k50 : Int32 → St → Option St) {K2 : KB} {T : KT} (hc2 : ∀ w e, dC D ≤ e → K2 w e = false) {H : Nat → Int64} (hH : Bt H K2) : ∀ k w m (G : Nat → Int32), w + k = 7 → k < m → (∀ v, v < w → v < 7 → Tm G (nNote d K2 T) v) → (∀ v, w ≤ v → v < 7 → Tm G T v) →
    ∃ G', M_layKnown_L61 d k50 m (nI w) (mS τ G H) = k50 (if 10000 ≤ nNext D d then -9 else nNext D d) (mS τ G' H) ∧ ∀ v, v < 7 → Tm G' (nNote d K2 T) v := by
  intro k
  induction k with
  | zero =>
    intro w m G hw hk h1 h2
    obtain ⟨m, rfl⟩ : ∃ x, m = x + 1 := ⟨m - 1, by omega⟩
    have : w = 7 := by omega
    subst this
    have hm' : ML D cb cp (mS τ G H) := hm
    rw [M_layKnown_L61, if_pos (show (7 : Int32) ≤ nI 7 by decide), m_nextD ok hm', Option.bind_some]
    exact ⟨G, rfl, fun v hv => h1 v hv hv⟩
  | succ k ih =>
    intro w m G hw hk h1 h2
    obtain ⟨m, rfl⟩ : ∃ x, m = x + 1 := ⟨m - 1, by omega⟩
    rw [M_layKnown_L61, if_neg (n_cm7 (by omega))]
    obtain ⟨G1, e1, f1, f2⟩ := m_lay1 ok hm d hc2 (G := G) (H := H) (w := w) (by omega) (hH w (by omega)) (h2 w (Nat.le_refl _) (by omega)) k50 (fun y2 τ => M_layKnown_L61 d k50 m y2 τ)
    rw [e1]
    refine ih (w + 1) m G1 (by omega) (by omega) (fun v hv hv7 => ?_) (fun v hv hv7 => ?_)
    · by_cases z : v = w
      · subst z; exact f1
      · exact fun e he => (f2 v hv7 z e he).trans (h1 v (by omega) hv7 e he)
    · exact fun e he => (f2 v hv7 (by omega) e he).trans (h2 v (by omega) hv7 e he)
theorem m_turnsN {D : ND} (ok : dOk D) {cb cp : Nat} {τ : St} (hm : ML D cb cp τ) : ∀ k m (d : Int32) K T (G : Nat → Int32) (H : Nat → Int64), 0 ≤ d.toInt → (¬ 10000 ≤ d → nSt D d.toInt) → dcg D d.toInt ≤ k → k < m → nPI D K T → Bt H K → (∀ w, w < 7 → Tm G T w) →
    ∃ G' H', M_layKnown_L50 m (if 10000 ≤ d then -9 else d) (mS τ G H) = some (mS τ G' H') ∧ ∀ w, w < 7 → Tm G' (nLay D k d K T) w := by
  intro k
  induction k with
  | zero =>
    intro m d K T G H hd hs hk hm0 hP hH hG
    obtain ⟨m, rfl⟩ : ∃ x, m = x + 1 := ⟨m - 1, by omega⟩
    have q : 10000 ≤ d := by
      apply Classical.byContradiction
      intro z
      have := dcg_lt (D := D) (d := d.toInt) (d' := d.toInt + 1) (by omega) (hs z)
      omega
    rw [if_pos q, M_layKnown_L50, if_pos (by decide)]
    exact ⟨G, H, rfl, hG⟩
  | succ k ih =>
    intro m d K T G H hd hs hk hm0 hP hH hG
    obtain ⟨m, rfl⟩ : ∃ x, m = x + 1 := ⟨m - 1, by omega⟩
    simp only [nLay]
    by_cases q : 10000 ≤ d
    · rw [if_pos q, M_layKnown_L50, if_pos (by decide), if_pos q]
      exact ⟨G, H, rfl, hG⟩
    · have st := hs q
      rw [if_neg q, if_neg q, M_layKnown_L50, if_neg (by rw [n_lt, n_0]; omega)]
      rw [n_le, n_10000] at q
      obtain ⟨H1, a1, a2⟩ := m_shareOn ok hm d (G := G) hH
      rw [a1, Option.bind_some]
      have hP2 := nPI_s hP (d := d) ⟨hd, by omega⟩
      obtain ⟨G1, b1, b2⟩ := m_lay2 ok hm d (fun y1 τ => M_layKnown_L50 m y1 τ) (T := T) hP2.2.2 a2 7 0 FU G (by omega) (fu_gt (by omega)) (fun v hv _ => by omega) (fun v _ hv => hG v hv)
      have b1' : M_layKnown_L61 d (fun y1 τ => M_layKnown_L50 m y1 τ) FU 0 (mS τ G H1) = M_layKnown_L50 m (if 10000 ≤ nNext D d then -9 else nNext D d) (mS τ G1 H1) := b1
      rw [b1']
      have nx := nNext_is ok d
      refine ih m (nNext D d) _ _ G1 H1 (nNext0 ok (by omega)) (fun z => ?_) ?_ (by omega) hP2 a2 b2
      · rw [n_le, n_10000] at z
        rcases nx with ⟨y, _⟩ | ⟨y, _⟩
        · omega
        · exact y
      · have lt : d.toInt < (nNext D d).toInt := by
          rcases nx with ⟨y, _⟩ | ⟨_, y, _⟩
          · omega
          · exact y
        have := dcg_lt lt st
        omega
theorem m_learn {D : ND} (ok : dOk D) {cb cp : Nat} {τ : St} (hm : ML D cb cp τ) : ∃ G' H', M_layKnown τ = some (mS τ G' H') ∧ ∀ w, w < 7 → Tm G' (nTab D) w := by
  have o1 := ok.1
  have o2 := ok.2.1
  obtain ⟨H1, e1, h1⟩ := lp_ex (F := fun n i H => M_layKnown_L2 n i (mS τ (τ.1 19) H)) (c := 7) (K := fun H => M_layKnown_L23 FU 0 (mS τ (τ.1 19) H)) (fun i H => ∀ x, x < i → H x = 0)
    (fun n a _ => by
      show M_layKnown_L2 _ _ _ = _
      rw [M_layKnown_L2, if_pos (show (7 : Int32) ≤ nI 7 by decide)])
    (fun n i a hi hI => by
      refine ⟨vp_updL a i 0, ?_, fun x hx => ?_⟩
      · show M_layKnown_L2 _ _ _ = M_layKnown_L2 _ _ _
        rw [M_layKnown_L2, if_neg (n_cm7 hi), if_pos (n_inb hi (by decide)), n_tn (by omega), mS_18, nI_1]
      · rw [uL_at]
        split
        · rfl
        · exact hI x (by omega))
    FU 0 (τ.2 18) (Nat.zero_le _) (fu_gt (by omega)) (fun x hx => by omega)
  obtain ⟨G1, e2, h2⟩ := lp_ex (F := fun n i G => M_layKnown_L23 n i (mS τ G H1)) (c := 420) (K := fun G => M_layKnown_L50 FU (if 10000 ≤ nNext D (-1) then -9 else nNext D (-1)) (mS τ G H1)) (fun i G => ∀ x, x < i → G x = -9)
    (fun n a _ => by
      show M_layKnown_L23 _ _ _ = _
      have hm' : ML D cb cp (mS τ a H1) := hm
      rw [M_layKnown_L23, if_pos (show (420 : Int32) ≤ nI 420 by decide), m_nextD ok hm', Option.bind_some])
    (fun n i a hi hI => by
      refine ⟨upd a i (-9), ?_, fun x hx => ?_⟩
      · show M_layKnown_L23 _ _ _ = M_layKnown_L23 _ _ _
        rw [M_layKnown_L23, if_neg (n_cm420 hi), if_pos (n_inb hi (by decide)), n_tn (by omega), mS_19, nI_1]
      · rw [upd_at]
        split
        · rfl
        · exact hI x (by omega))
    FU 0 (τ.1 19) (Nat.zero_le _) (fu_gt (by omega)) (fun x hx => by omega)
  have nx := nNext_is ok (-1)
  have k1 := cg_le (dFr D) (nNext D (-1)).toInt (dS D)
  have k2 := cg_le (dDa D) (nNext D (-1)).toInt (dC D)
  obtain ⟨G', H', f1, f2⟩ := m_turnsN ok hm (dS D + dC D) FU (nNext D (-1)) (fun _ _ => false) (fun _ _ => -9) G1 H1 (nNext0 ok (by decide)) (fun z => by
      rw [n_le, n_10000] at z
      rcases nx with ⟨y, _⟩ | ⟨y, _⟩
      · omega
      · exact y) (by unfold dcg; omega) (fu_gt (by omega)) (nPI_0 D) (fun w hw i _ => by rw [h1 w hw, hl_0]) (fun w hw e he => h2 _ (by omega))
  refine ⟨G', H', ?_, f2⟩
  rw [mS_id] at e1
  exact (e1.trans e2).trans f1
