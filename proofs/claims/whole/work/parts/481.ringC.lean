/-! rings, the class -/
def rS_ (σ : St) (ow ρ : Nat → Int32) : St := wA (wA σ 58 ow) 63 ρ
theorem rS_58 (σ : St) (ow ρ : Nat → Int32) : (rS_ σ ow ρ).1 58 = ow := rfl
theorem rS_63 (σ : St) (ow ρ : Nat → Int32) : (rS_ σ ow ρ).1 63 = ρ := rfl
theorem rS_w63 (σ : St) (ow ρ : Nat → Int32) (i : Nat) (v : Int32) : wI (rS_ σ ow ρ) 63 i v = rS_ σ ow (upd ρ i v) := wI_wA _ _ _ _ _
theorem rS_w58 (σ : St) (ow ρ : Nat → Int32) (i : Nat) (v : Int32) : wI (rS_ σ ow ρ) 58 i v = rS_ σ (upd ow i v) ρ := by
  unfold rS_ wI wA
  simp only [Prod.mk.injEq, and_true]
  funext a
  by_cases h : a = 58
  · subst h; simp
  · by_cases h2 : a = 63
    · subst h2; simp
    · simp [h, h2]
theorem nI_m1 {k : Nat} (h : 0 < k) : nI k - 1 = nI (k - 1) := by
  obtain ⟨j, rfl⟩ : ∃ j, k = j + 1 := ⟨k - 1, by omega⟩
  rw [← nI_1, sub_add]; rfl
theorem c_link {σ : St} {w : Row} (hl : w.length ≤ 4) (hr : ∀ j, j < w.length → σ.1 63 j = nI (at_ w j)) {k : Nat} (hk : k < w.length) : Owed_link (nI k) (nI w.length) σ = some (nI (lkw w k)) := by
  unfold Owed_link lkw
  have i0 : inb (0 : Int32) 4 := by decide
  have ik : inb (nI k) 4 := n_inb (by omega) (by decide)
  have t0 : (0 : Int32).toNatClampNeg = 0 := by decide
  have tk := n_tn (k := k) (by omega)
  rw [nI_1]
  by_cases q : k + 1 < w.length
  · have ik1 : inb (nI (k + 1)) 4 := n_inb (by omega) (by decide)
    rw [if_neg (n_cmp q (by omega)), if_pos ik1, if_pos ik, if_pos q, tk, n_tn (k := k + 1) (by omega), hr k hk, hr (k + 1) q, idx10]
  · rw [if_pos (by rw [nI_leI (by omega) (by omega)]; omega), if_pos i0, if_pos ik, if_neg q, tk, t0, hr k hk, hr 0 (by omega), idx10]
theorem c_less1 {σ : St} {w : Row} (g : good w) (hr : ∀ j, j < w.length → σ.1 63 j = nI (at_ w j)) (x : Int32) : Owed_lessen_L16 (nI w.length) σ FU x 0 = Owed_lessen_L47 (nI w.length) (itr (fun k a => miI a (σ.1 58 (lkw w k))) (w.length - 1) 0 x) FU 0 σ := by
  have g1 := g.1
  have g2 := g.2.1
  exact lp_u0 (F := fun n i a => Owed_lessen_L16 (nI w.length) σ n a i) (c := w.length - 1) (K := fun a => Owed_lessen_L47 (nI w.length) a FU 0 σ) (g := fun k a => miI a (σ.1 58 (lkw w k)))
    (fun n a => by
      show Owed_lessen_L16 _ _ _ _ _ = _
      rw [Owed_lessen_L16, nI_m1 (by omega), if_pos (n_cmpE _)])
    (fun n i a hi => by
      show Owed_lessen_L16 _ _ _ _ _ = Owed_lessen_L16 _ _ _ _ _
      rw [Owed_lessen_L16, nI_m1 (by omega), if_neg (n_cmp hi (by omega)), c_link g2 hr (by omega), Option.bind_some, if_pos (n_inb (lkw_b g i) (by decide)), n_tn (by have := lkw_b g i; omega), nI_1])
    FU x (fu_gt (by omega))
theorem c_less2 {σ : St} {ow ρ : Nat → Int32} {w : Row} (g : good w) (hr : ∀ j, j < w.length → ρ j = nI (at_ w j)) (m : Int32) : Owed_lessen_L47 (nI w.length) m FU 0 (rS_ σ ow ρ) = some (m * nI w.length, rS_ σ (itr (cst w m) w.length 0 ow) ρ) := by
  have g1 := g.1
  have g2 := g.2.1
  exact lp_u0 (F := fun n i f => Owed_lessen_L47 (nI w.length) m n i (rS_ σ f ρ)) (c := w.length) (K := fun f => some (m * nI w.length, rS_ σ f ρ)) (g := cst w m)
    (fun n f => by
      show Owed_lessen_L47 _ _ _ _ _ = _
      rw [Owed_lessen_L47, if_pos (n_cmpE _)])
    (fun n i f hi => by
      show Owed_lessen_L47 _ _ _ _ _ = Owed_lessen_L47 _ _ _ _ _
      rw [Owed_lessen_L47, if_neg (n_cmp hi (by omega)), c_link g2 hr (by omega), Option.bind_some, if_pos (n_inb (lkw_b g i) (by decide)), if_pos (n_inb (lkw_b g i) (by decide)), n_tn (by have := lkw_b g i; omega), nI_1, rS_w58, rS_58]
      rfl)
    FU ow (fu_gt (by omega))
theorem c_lessen {σ : St} {ow ρ : Nat → Int32} {w : Row} (g : good w) (hr : ∀ j, j < w.length → ρ j = nI (at_ w j)) : Owed_lessen (nI w.length) (rS_ σ ow ρ) = some (gn ow w, rS_ σ (canc ow w) ρ) := by
  have g1 := g.1
  have g2 := g.2.1
  unfold Owed_lessen
  rw [nI_m1 (by omega), c_link g2 hr (by omega), Option.bind_some, if_pos (n_inb (lkw_b g _) (by decide)), n_tn (by have := lkw_b g (w.length - 1); omega), c_less1 (σ := rS_ σ ow ρ) g hr, c_less2 g hr]
  rfl
theorem c_inRow {σ : St} {w : Row} (hl : w.length ≤ 4) (h10 : ∀ j, at_ w j < 10) (hr : ∀ j, j < w.length → σ.1 63 j = nI (at_ w j)) {d : Nat} (hd : d < 10) : ∃ b : Bool, Owed_isInRow (nI d) (nI w.length) σ = some b ∧ (b = true ↔ ∃ j, j < w.length ∧ at_ w j = d) := by
  have key : ∀ m i, i ≤ w.length → w.length - i < m → ∃ b : Bool, Owed_isInRow_L2 (nI d) (nI w.length) σ m (nI i) = some b ∧ (b = true ↔ ∃ j, i ≤ j ∧ j < w.length ∧ at_ w j = d) := by
    intro m
    induction m with
    | zero => intro i _ h; omega
    | succ m ih =>
      intro i hi hm
      rw [Owed_isInRow_L2]
      rcases Nat.lt_or_ge i w.length with q | q
      · rw [if_neg (n_cmp q (by omega)), if_pos (n_inb (by omega) (by decide)), n_tn (by omega), hr i q]
        have := h10 i
        by_cases e : at_ w i = d
        · rw [if_pos (by rw [e])]
          exact ⟨true, rfl, ⟨fun _ => ⟨i, by omega, q, e⟩, fun _ => rfl⟩⟩
        · rw [if_neg (by rw [nI_inj (by omega) (by omega)]; exact e), nI_1]
          obtain ⟨b, e1, e2⟩ := ih (i + 1) (by omega) (by omega)
          refine ⟨b, e1, e2.trans ⟨fun ⟨j, a1, a2, a3⟩ => ⟨j, by omega, a2, a3⟩, fun ⟨j, a1, a2, a3⟩ => ⟨j, ?_, a2, a3⟩⟩⟩
          have : j ≠ i := fun z => e (z ▸ a3)
          omega
      · rw [if_pos (by rw [nI_leI (by omega) (by omega)]; omega)]
        exact ⟨false, rfl, ⟨fun z => (nomatch z), fun ⟨j, a1, a2, a3⟩ => by omega⟩⟩
  obtain ⟨b, e1, e2⟩ := key FU 0 (by omega) (fu_gt (by omega))
  exact ⟨b, e1, e2.trans ⟨fun ⟨j, a1, a2, a3⟩ => ⟨j, a2, a3⟩, fun ⟨j, a2, a3⟩ => ⟨j, by omega, a2, a3⟩⟩⟩
theorem c_owesLast {σ : St} {w : Row} (hl : w.length ≤ 4) (h1 : 0 < w.length) (h10 : ∀ j, at_ w j < 10) (hr : ∀ j, j < w.length → σ.1 63 j = nI (at_ w j)) {d : Nat} (hd : d < 10) : Owed_owesLast (nI d) (nI w.length) σ = some (decide (¬ (σ.1 58 (10 * at_ w (w.length - 1) + d)).toInt ≤ 0)) := by
  have := h10 (w.length - 1)
  unfold Owed_owesLast
  rw [nI_m1 h1, if_pos (n_inb (by omega) (by decide)), n_tn (by omega), hr _ (by omega), idx10, if_pos (n_inb (by omega) (by decide)), n_tn (by omega)]
  simp only [n_le, n_0]
  by_cases q : (σ.1 58 (10 * at_ w (w.length - 1) + d)).toInt ≤ 0
  · rw [if_pos q, decide_eq_false (fun z => z q)]
  · rw [if_neg q, decide_eq_true q]
theorem c_from {σ : St} {w : Row} {a L : Nat} (hL : w.length = L) (hl : L ≤ 3) (h1 : 0 < L) (h10 : ∀ j, at_ w j < 10)
    {rec : Int32 → St → Option (Int32 × St)} {sub : Nat → List Row} {RR : Nat → Nat → List Row}
    (hrec : ∀ d (ow ρ : Nat → Int32), a < d → d < 10 → (∀ j, j < L → at_ w j ≠ d) → nn ow → (∀ j, j < L → ρ j = nI (at_ w j)) → ρ L = nI d → ∃ ρ', rec (nI (L + 1)) (rS_ σ ow ρ) = some ((fo (sub d) (ow, 0)).2, rS_ σ (fo (sub d) (ow, 0)).1 ρ') ∧ ∀ j, j < L → ρ' j = ρ j)
    (hg : ∀ d, a < d → d < 10 → (∀ j, j < L → at_ w j ≠ d) → ∀ v, v ∈ sub d → good v)
    (hdead : ∀ (ow : Nat → Int32) d, a < d → d < 10 → (∀ j, j < L → at_ w j ≠ d) → (ow (10 * at_ w (L - 1) + d)).toInt ≤ 0 → ∀ v, v ∈ sub d → dead ow v)
    (h0 : ∀ d, RR 0 d = []) (hy : ∀ k d, a < d → (∀ j, j < L → at_ w j ≠ d) → RR (k + 1) d = sub d ++ RR k (d + 1)) (hn : ∀ k d j, j < L → at_ w j = d → RR (k + 1) d = RR k (d + 1)) :
    ∀ k d m x2 (ow ρ : Nat → Int32), d + k = 10 → k < m → a < d → nn ow → (∀ j, j < L → ρ j = nI (at_ w j)) → ∃ ρ', Owed_cancelFrom_L36 rec (nI L) m x2 (nI d) (rS_ σ ow ρ) = some (x2 + (fo (RR k d) (ow, 0)).2, rS_ σ (fo (RR k d) (ow, 0)).1 ρ') ∧ ∀ j, j < L → ρ' j = ρ j := by
  intro k
  induction k with
  | zero =>
    intro d m x2 ow ρ hd hm ha hnn hr
    obtain ⟨m, rfl⟩ : ∃ t, m = t + 1 := ⟨m - 1, by omega⟩
    have : d = 10 := by omega
    subst this
    rw [Owed_cancelFrom_L36, if_pos (by decide), h0, fo_nil]
    refine ⟨ρ, ?_, fun _ _ => rfl⟩
    simp only [Int32.add_zero]
  | succ k ih =>
    intro d m x2 ow ρ hd hm ha hnn hr
    obtain ⟨m, rfl⟩ : ∃ t, m = t + 1 := ⟨m - 1, by omega⟩
    rw [Owed_cancelFrom_L36, if_neg (by rw [n_le, n_ti (by omega), k_10]; omega)]
    subst hL
    obtain ⟨b, e1, e2⟩ := c_inRow (σ := rS_ σ ow ρ) (w := w) (by omega) h10 hr (d := d) (by omega)
    rw [e1, Option.bind_some, nI_1]
    by_cases hb : b = true
    · obtain ⟨j, j1, j2⟩ := e2.mp hb
      rw [if_pos hb, hn k d j j1 j2]
      exact ih (d + 1) m x2 ow ρ (by omega) (by omega) (by omega) hnn hr
    · rw [if_neg hb]
      have nin : ∀ j, j < w.length → at_ w j ≠ d := fun j j1 j2 => hb (e2.mpr ⟨j, j1, j2⟩)
      rw [c_owesLast (by omega) h1 h10 (σ := rS_ σ ow ρ) hr (by omega), Option.bind_some, hy k d ha nin]
      by_cases q : (ow (10 * at_ w (w.length - 1) + d)).toInt ≤ 0
      · rw [if_neg (by rw [rS_58, decide_eq_false (fun z => z q)]; exact fun z => nomatch z), fo_app, fo_dead _ _ _ (hg d ha (by omega) nin) hnn (hdead ow d ha (by omega) nin q)]
        exact ih (d + 1) m x2 ow ρ (by omega) (by omega) (by omega) hnn hr
      · rw [if_pos (by rw [rS_58, decide_eq_true q]), if_pos (n_inb (by omega) (by decide)), n_tn (by omega), rS_w63, nI_1]
        have hr' : ∀ j, j < w.length → upd ρ w.length (nI d) j = nI (at_ w j) := fun j hj => by rw [upd_at, if_neg (by omega), hr j hj]
        obtain ⟨ρ1, c1, c2⟩ := hrec d ow (upd ρ w.length (nI d)) ha (by omega) nin hnn hr' (by rw [upd_at, if_pos rfl])
        rw [c1, Option.bind_some]
        have nn1 : nn (fo (sub d) (ow, 0)).1 := fo_nn (sub d) (ow, 0) (hg d ha (by omega) nin) hnn
        obtain ⟨ρ2, c3, c4⟩ := ih (d + 1) m (x2 + (fo (sub d) (ow, 0)).2) (fo (sub d) (ow, 0)).1 ρ1 (by omega) (by omega) (by omega) nn1 (fun j hj => by rw [c2 j hj, hr' j hj])
        refine ⟨ρ2, ?_, fun j hj => by rw [c4 j hj, c2 j hj, hr' j hj, hr j hj]⟩
        rw [c3, fo_app]
        have e3 : fo (sub d) (ow, 0) = ((fo (sub d) (ow, 0)).1, (fo (sub d) (ow, 0)).2) := rfl
        rw [e3, fo_sum (RR k (d + 1)) (fo (sub d) (ow, 0)).1 (fo (sub d) (ow, 0)).2]
        simp only [Int32.add_assoc]
theorem c_lvl {σ : St} {w : Row} {a L : Nat} (g : good w) (hL : w.length = L) (hl : L ≤ 3) (ha : at_ w 0 = a)
    {gg : Nat} {sub : Nat → List Row} {RR : Nat → Nat → List Row}
    (hrec : ∀ d (ow ρ : Nat → Int32), a < d → d < 10 → (∀ j, j < L → at_ w j ≠ d) → nn ow → (∀ j, j < L → ρ j = nI (at_ w j)) → ρ L = nI d → ∃ ρ', Owed_cancelFrom gg (nI (L + 1)) (rS_ σ ow ρ) = some ((fo (sub d) (ow, 0)).2, rS_ σ (fo (sub d) (ow, 0)).1 ρ') ∧ ∀ j, j < L → ρ' j = ρ j)
    (hg : ∀ d, a < d → d < 10 → (∀ j, j < L → at_ w j ≠ d) → ∀ v, v ∈ sub d → good v)
    (hdead : ∀ (ow : Nat → Int32) d, a < d → d < 10 → (∀ j, j < L → at_ w j ≠ d) → (ow (10 * at_ w (L - 1) + d)).toInt ≤ 0 → ∀ v, v ∈ sub d → dead ow v)
    (h0 : ∀ d, RR 0 d = []) (hy : ∀ k d, a < d → (∀ j, j < L → at_ w j ≠ d) → RR (k + 1) d = sub d ++ RR k (d + 1)) (hn : ∀ k d j, j < L → at_ w j = d → RR (k + 1) d = RR k (d + 1))
    (ow ρ : Nat → Int32) (hnn : nn ow) (hr : ∀ j, j < L → ρ j = nI (at_ w j)) : ∃ ρ', Owed_cancelFrom (gg + 1) (nI L) (rS_ σ ow ρ) = some ((fo (w :: RR (10 - (a + 1)) (a + 1)) (ow, 0)).2, rS_ σ (fo (w :: RR (10 - (a + 1)) (a + 1)) (ow, 0)).1 ρ') ∧ ∀ j, j < L → ρ' j = ρ j := by
  have g1 := g.1
  have g3 := g.2.2.1
  have g30 := g3 0
  subst hL
  rw [Owed_cancelFrom, if_pos (by rw [n_le, n_ti (by omega), show (2 : Int32).toInt = 2 by decide]; omega), c_lessen g hr, Option.bind_some, if_neg (by rw [n_lt, n_ti (by omega), show (1 : Int32).toInt = 1 by decide]; omega), if_pos (by rw [n_lt, n_ti (by omega), show (4 : Int32).toInt = 4 by decide]; omega), if_pos (by decide), rS_63, show (0 : Int32).toNatClampNeg = 0 by decide, hr 0 (by omega), ha, nI_1]
  obtain ⟨ρ', e1, e2⟩ := c_from (σ := σ) (w := w) (a := a) rfl hl (by omega) g3 hrec hg hdead h0 hy hn (10 - (a + 1)) (a + 1) FU (gn ow w) (canc ow w) ρ (by omega) (fu_gt (by omega)) (by omega) (canc_nn g hnn) hr
  refine ⟨ρ', ?_, e2⟩
  rw [e1, fo_cons]
  unfold fst_
  simp only [Int32.zero_add]
  rw [fo_sum _ _ (gn ow w)]
theorem c_4 {σ : St} {a b c d gg : Nat} (g : good [a, b, c, d]) {ow ρ : Nat → Int32} (hnn : nn ow) (hr : ∀ j, j < 4 → ρ j = nI (at_ [a, b, c, d] j)) : Owed_cancelFrom (gg + 1) (nI 4) (rS_ σ ow ρ) = some ((fo [[a, b, c, d]] (ow, 0)).2, rS_ σ (fo [[a, b, c, d]] (ow, 0)).1 ρ) := by
  have e := c_lessen (σ := σ) (ow := ow) (ρ := ρ) (w := [a, b, c, d]) g hr
  have hl4 : ([a, b, c, d] : Row).length = 4 := rfl
  rw [hl4] at e
  rw [Owed_cancelFrom, if_pos (by decide), e, Option.bind_some, if_neg (by decide), if_neg (by decide), fo_cons, fo_nil]
  unfold fst_
  simp only [Int32.zero_add]
theorem c_3 {σ : St} {a b c gg : Nat} (ha : a < 10) (hb : b < 10) (hc : c < 10) (h1 : a < b) (h2 : a < c) (h3 : c ≠ b) {ow ρ : Nat → Int32} (hnn : nn ow) (hr : ∀ j, j < 3 → ρ j = nI (at_ [a, b, c] j)) : ∃ ρ', Owed_cancelFrom (gg + 2) (nI 3) (rS_ σ ow ρ) = some ((fo ([a, b, c] :: R3 a b c 10 0) (ow, 0)).2, rS_ σ (fo ([a, b, c] :: R3 a b c 10 0) (ow, 0)).1 ρ') ∧ ∀ j, j < 3 → ρ' j = ρ j := by
  rw [R3_10 ha]
  have nin : ∀ d, (∀ j, j < 3 → at_ [a, b, c] j ≠ d) → d ≠ b ∧ d ≠ c := fun d h => ⟨fun z => h 1 (by omega) z.symm, fun z => h 2 (by omega) z.symm⟩
  refine c_lvl (w := [a, b, c]) (a := a) (L := 3) (good3 ha hb hc (by omega) (by omega) h3) rfl (by omega) rfl (gg := gg + 1) (sub := fun d => [[a, b, c, d]]) (RR := R3 a b c) ?_ ?_ ?_ (fun _ => rfl) ?_ ?_ ow ρ hnn hr
  · intro d ow ρ d1 d2 d3 d4 d5 d6
    obtain ⟨n1, n2⟩ := nin d d3
    refine ⟨ρ, c_4 (good4 ha hb hc d2 (by omega) (by omega) h3 (by omega) n1 n2) d4 (fun j hj => ?_), fun _ _ => rfl⟩
    rcases (show j = 0 ∨ j = 1 ∨ j = 2 ∨ j = 3 by omega) with z | z | z | z
    · subst z; exact d5 0 (by omega)
    · subst z; exact d5 1 (by omega)
    · subst z; exact d5 2 (by omega)
    · subst z; exact d6
  · intro d d1 d2 d3 v hv
    obtain ⟨n1, n2⟩ := nin d d3
    simp at hv
    subst hv
    exact good4 ha hb hc d2 (by omega) (by omega) h3 (by omega) n1 n2
  · intro ow d d1 d2 d3 d4 v hv
    simp at hv
    subst hv
    exact ⟨2, by simp, d4⟩
  · intro k d d1 d2
    obtain ⟨n1, n2⟩ := nin d d2
    simp only [R3]
    rw [if_pos ⟨d1, n1, n2⟩]
  · intro k d j hj e
    simp only [R3]
    rw [if_neg]
    · rfl
    · rintro ⟨q1, q2, q3⟩
      rcases (show j = 0 ∨ j = 1 ∨ j = 2 by omega) with z | z | z
      · subst z; have e' : a = d := e; omega
      · subst z; have e' : b = d := e; omega
      · subst z; have e' : c = d := e; omega
theorem c_2 {σ : St} {a b gg : Nat} (ha : a < 10) (hb : b < 10) (h1 : a < b) {ow ρ : Nat → Int32} (hnn : nn ow) (hr : ∀ j, j < 2 → ρ j = nI (at_ [a, b] j)) : ∃ ρ', Owed_cancelFrom (gg + 3) (nI 2) (rS_ σ ow ρ) = some ((fo ([a, b] :: R2 a b 10 0) (ow, 0)).2, rS_ σ (fo ([a, b] :: R2 a b 10 0) (ow, 0)).1 ρ') ∧ ∀ j, j < 2 → ρ' j = ρ j := by
  rw [R2_10 ha]
  have nin : ∀ d, (∀ j, j < 2 → at_ [a, b] j ≠ d) → d ≠ b := fun d h => fun z => h 1 (by omega) z.symm
  refine c_lvl (w := [a, b]) (a := a) (L := 2) (good2 ha hb (by omega)) rfl (by omega) rfl (gg := gg + 2) (sub := fun d => [a, b, d] :: R3 a b d 10 0) (RR := R2 a b) ?_ ?_ ?_ (fun _ => rfl) ?_ ?_ ow ρ hnn hr
  · intro d ow ρ d1 d2 d3 d4 d5 d6
    have n1 := nin d d3
    obtain ⟨ρ', e1, e2⟩ := c_3 (σ := σ) (gg := gg) ha hb d2 h1 d1 n1 (ow := ow) (ρ := ρ) d4 (fun j hj => by
      rcases (show j = 0 ∨ j = 1 ∨ j = 2 by omega) with z | z | z
      · subst z; exact d5 0 (by omega)
      · subst z; exact d5 1 (by omega)
      · subst z; exact d6)
    exact ⟨ρ', e1, fun j hj => e2 j (by omega)⟩
  · intro d d1 d2 d3 v hv
    have n1 := nin d d3
    simp only [List.mem_cons] at hv
    rcases hv with rfl | hv
    · exact good3 ha hb d2 (by omega) (by omega) n1
    · exact R3_good ha hb d2 (by omega) (by omega) n1 (by omega) v hv
  · intro ow d d1 d2 d3 d4 v hv
    simp only [List.mem_cons] at hv
    rcases hv with rfl | hv
    · exact ⟨1, by simp, d4⟩
    · exact R3_dead d4 v hv
  · intro k d d1 d2
    have n1 := nin d d2
    simp only [R2]
    rw [if_pos ⟨d1, n1⟩]
  · intro k d j hj e
    simp only [R2]
    rw [if_neg]
    · rfl
    · rintro ⟨q1, q2⟩
      rcases (show j = 0 ∨ j = 1 by omega) with z | z
      · subst z; have e' : a = d := e; omega
      · subst z; have e' : b = d := e; omega
theorem c_1 {σ : St} {a gg : Nat} (ha : a < 10) {ow ρ : Nat → Int32} (hnn : nn ow) (hr : ρ 0 = nI a) : ∃ ρ', Owed_cancelFrom (gg + 4) 1 (rS_ σ ow ρ) = some ((fo (R1 a 10 0) (ow, 0)).2, rS_ σ (fo (R1 a 10 0) (ow, 0)).1 ρ') := by
  rw [R1_10 ha]
  have at1 : ∀ j, at_ [a] j < 10 := by
    intro j
    cases j with
    | zero => exact ha
    | succ j => simp [at_]
  rw [Owed_cancelFrom, if_neg (by decide), if_neg (by decide), if_pos (by decide), if_pos (by decide), rS_63, show (0 : Int32).toNatClampNeg = 0 by decide, hr, nI_1]
  have key := c_from (σ := σ) (w := [a]) (a := a) (L := 1) rfl (by omega) (by omega) at1 (rec := Owed_cancelFrom (gg + 3)) (sub := fun d => [a, d] :: R2 a d 10 0) (RR := R1 a) (by
      intro d ow ρ d1 d2 d3 d4 d5 d6
      obtain ⟨ρ', e1, e2⟩ := c_2 (σ := σ) (gg := gg) ha d2 d1 (ow := ow) (ρ := ρ) d4 (fun j hj => by
        rcases (show j = 0 ∨ j = 1 by omega) with z | z
        · subst z; exact d5 0 (by omega)
        · subst z; exact d6)
      exact ⟨ρ', e1, fun j hj => e2 j (by omega)⟩)
    (by
      intro d d1 d2 d3 v hv
      simp only [List.mem_cons] at hv
      rcases hv with rfl | hv
      · exact good2 ha d2 (by omega)
      · exact R2_good ha d2 (by omega) (by omega) v hv)
    (by
      intro ow d d1 d2 d3 d4 v hv
      simp only [List.mem_cons] at hv
      rcases hv with rfl | hv
      · exact ⟨0, by simp, d4⟩
      · exact R2_dead d4 v hv)
    (fun _ => rfl)
    (by
      intro k d d1 d2
      simp only [R1]
      rw [if_pos d1])
    (by
      intro k d j hj e
      simp only [R1]
      rw [if_neg]
      · rfl
      · intro q1
        have z : j = 0 := by omega
        subst z
        have e' : a = d := e
        omega)
    (10 - (a + 1)) (a + 1) FU 0 ow ρ (by omega) (fu_gt (by omega)) (by omega) hnn (fun j hj => by
      have z : j = 0 := by omega
      subst z
      exact hr)
  obtain ⟨ρ', e1, e2⟩ := key
  refine ⟨ρ', ?_⟩
  rw [show (1 : Int32) = nI 1 by decide, e1, Int32.zero_add]
theorem c_rings {σ : St} : ∀ k a m x1 (ow ρ : Nat → Int32), a + k = 10 → k < m → nn ow → ∃ ρ', Owed_cancelRings_L9 m x1 (nI a) (rS_ σ ow ρ) = some (x1 + (fo (R0 k a) (ow, 0)).2, rS_ σ (fo (R0 k a) (ow, 0)).1 ρ') := by
  intro k
  induction k with
  | zero =>
    intro a m x1 ow ρ ha hm hnn
    obtain ⟨m, rfl⟩ : ∃ t, m = t + 1 := ⟨m - 1, by omega⟩
    have : a = 10 := by omega
    subst this
    rw [Owed_cancelRings_L9, if_pos (by decide)]
    refine ⟨ρ, ?_⟩
    simp only [R0, fo_nil, Int32.add_zero]
  | succ k ih =>
    intro a m x1 ow ρ ha hm hnn
    obtain ⟨m, rfl⟩ : ∃ t, m = t + 1 := ⟨m - 1, by omega⟩
    rw [Owed_cancelRings_L9, if_neg (by rw [n_le, n_ti (by omega), k_10]; omega), if_pos (by decide), show (0 : Int32).toNatClampNeg = 0 by decide, rS_w63, nI_1]
    obtain ⟨ρ1, e1⟩ := c_1 (σ := σ) (a := a) (gg := 1) (by omega) (ow := ow) (ρ := upd ρ 0 (nI a)) hnn (by rw [upd_at, if_pos rfl])
    rw [e1, Option.bind_some]
    have nn1 : nn (fo (R1 a 10 0) (ow, 0)).1 := fo_nn _ _ (R1_good (by omega) (by omega)) hnn
    obtain ⟨ρ2, e2⟩ := ih (a + 1) m (x1 + (fo (R1 a 10 0) (ow, 0)).2) (fo (R1 a 10 0) (ow, 0)).1 ρ1 (by omega) (by omega) nn1
    refine ⟨ρ2, ?_⟩
    simp only [R0]
    rw [e2, fo_app]
    have e3 : fo (R1 a 10 0) (ow, 0) = ((fo (R1 a 10 0) (ow, 0)).1, (fo (R1 a 10 0) (ow, 0)).2) := rfl
    rw [e3, fo_sum (R0 k (a + 1)) (fo (R1 a 10 0) (ow, 0)).1 (fo (R1 a 10 0) (ow, 0)).2]
    simp only [Int32.add_assoc]
theorem c_ring {σ : St} (h : nn (σ.1 58)) : ∃ ρ', P_ring σ = some ((fo (R0 10 0) (σ.1 58, 0)).2, rS_ (wI σ 57 6 0) (fo (R0 10 0) (σ.1 58, 0)).1 ρ') := by
  obtain ⟨ρ', e⟩ := c_rings (σ := wI σ 57 6 0) 10 0 FU 0 (σ.1 58) (σ.1 63) (by omega) (fu_gt (by omega)) h
  refine ⟨ρ', ?_⟩
  unfold P_ring Owed_cancelRings
  have e0 : rS_ (wI σ 57 6 0) (σ.1 58) (σ.1 63) = wI σ 57 6 0 := by
    unfold rS_
    rw [show wA (wI σ 57 6 0) 58 (σ.1 58) = wI σ 57 6 0 from wA_id (wI σ 57 6 0) 58]
    exact wA_id (wI σ 57 6 0) 63
  rw [e0] at e
  rw [show (0 : Int32) = nI 0 from rfl] at e ⊢
  rw [e, Option.bind_some]
  rw [show nI 0 = (0 : Int32) from rfl]
  simp only [Int32.zero_add]
