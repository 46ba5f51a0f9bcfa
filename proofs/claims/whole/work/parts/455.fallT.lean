/-! the model's fall; pays and ruin -/
theorem m_take {σ : St} (x2 : Int32) (k : Int32 → Int32 → St → Option St) : ∀ (m i : Nat) (b : Bool) (h : Nat → Int32), i ≤ 100 → 100 - i < m → ∃ (h' : Nat → Int32) (b' : Bool), (∀ x, h' x = if i ≤ x ∧ x < 100 then σ.1 47 x else h x) ∧ (b' = true ↔ b = true ∨ ∃ x, i ≤ x ∧ x < 100 ∧ h x ≠ σ.1 47 x) ∧ M_fall_L63 x2 k m (bi b) (nI i) (wA σ 46 h) = k (bi b') (x2 + 1) (wA σ 46 h') := by
  intro m
  induction m with
  | zero => intro i b h _ hm; omega
  | succ m ih =>
    intro i b h hi hm
    rcases Nat.lt_or_ge i 100 with hlt | hge
    · have h1 : ¬ (100 : Int32) ≤ nI i := by rw [n_le, show (100 : Int32).toInt = 100 by decide, n_ti (by omega)]; omega
      have h2 : inb (nI i) 100 := n_inb hlt (by decide)
      have h3 := n_tn (k := i) (by omega)
      have e59 : (wA σ 46 h).1 46 i = h i := rfl
      have e60 : (wA σ 46 h).1 47 i = σ.1 47 i := rfl
      have step : M_fall_L63 x2 k (m + 1) (bi b) (nI i) (wA σ 46 h) = M_fall_L63 x2 k m (bi (b || decide (h i ≠ σ.1 47 i))) (nI (i + 1)) (wA σ 46 (upd h i (σ.1 47 i))) := by
        cases b
        · by_cases e : h i = σ.1 47 i
          · have w : (false || decide (h i ≠ σ.1 47 i)) = false := by simp [e]
            rw [w]
            simp only [M_fall_L63, h1, if_pos h2, h3, e59, e60, if_pos e, wI_wA, nI_1, if_false, bi_f, if_true]
          · have w : (false || decide (h i ≠ σ.1 47 i)) = true := by simp [e]
            rw [w]
            simp only [M_fall_L63, h1, if_pos h2, h3, e59, e60, if_neg e, wI_wA, nI_1, if_false, bi_t, bi_f, if_true]
        · have w : (true || decide (h i ≠ σ.1 47 i)) = true := by simp
          rw [w]
          simp only [M_fall_L63, h1, if_pos h2, h3, e60, wI_wA, nI_1, if_false, bi_t, show ¬ (1 : Int32) = 0 by decide]
      rw [step]
      obtain ⟨h', b', t1, t2, t3⟩ := ih (i + 1) (b || decide (h i ≠ σ.1 47 i)) (upd h i (σ.1 47 i)) (by omega) (by omega)
      refine ⟨h', b', fun x => ?_, ?_, t3⟩
      · rw [t1 x, upd_at]
        by_cases c1 : i + 1 ≤ x ∧ x < 100
        · rw [if_pos c1, if_pos ⟨by omega, c1.2⟩]
        · rw [if_neg c1]
          by_cases c2 : x = i
          · subst c2; rw [if_pos rfl, if_pos ⟨Nat.le_refl _, hlt⟩]
          · rw [if_neg c2, if_neg (by omega)]
      · rw [t2]
        constructor
        · rintro (q | ⟨x, x1, x2, x3⟩)
          · simp at q
            rcases q with q | q
            · exact Or.inl q
            · exact Or.inr ⟨i, Nat.le_refl _, hlt, q⟩
          · rw [upd_at, if_neg (by omega)] at x3
            exact Or.inr ⟨x, by omega, x2, x3⟩
        · rintro (q | ⟨x, x1, x2, x3⟩)
          · left; simp [q]
          · by_cases c2 : x = i
            · subst c2; left; simp [x3]
            · right; refine ⟨x, by omega, x2, ?_⟩
              rw [upd_at, if_neg c2]; exact x3
    · have e : i = 100 := by omega
      subst e
      refine ⟨h, b, fun x => by rw [if_neg (by omega)], ?_, ?_⟩
      · constructor
        · exact Or.inl
        · rintro (q | ⟨x, x1, x2, _⟩)
          · exact q
          · omega
      · simp only [M_fall_L63, show (100 : Int32) ≤ nI 100 by decide, if_true]
theorem m_outs {σ : St} (ho : ir (σ.1 42) 0 99999) (hc : ir (σ.1 43) 0 99999) (hr : ir (σ.1 44) 0 2) {f : Nat → Int32} (hpy : ir f 0 99999) (hf : ∀ x, x < 100 → σ.1 46 x = f x) (x2 : Int32) (k : Int32 → Int32 → St → Option St) : ∀ (m i : Nat) (g : Nat → Int32), i ≤ 10 → 10 - i < m → ∃ g' : Nat → Int32, (∀ x, g' x = if 10 * i ≤ x ∧ x < 100 then nx (σ.1 42) (σ.1 43) (σ.1 44) f x else g x) ∧ M_fall_L42 x2 k m (nI i) (wA σ 47 g) = M_fall_L63 x2 k FU 0 0 (wA σ 47 g') := by
  intro m
  induction m with
  | zero => intro i g _ hm; omega
  | succ m ih =>
    intro i g hi hm
    rcases Nat.lt_or_ge i 10 with hlt | hge
    · have h1 : ¬ (10 : Int32) ≤ nI i := by rw [n_le, k_10, n_ti (by omega)]; omega
      obtain ⟨g1, a1, a2⟩ := m_payFrom ho hc hr hpy hf hlt g
      have step : M_fall_L42 x2 k (m + 1) (nI i) (wA σ 47 g) = M_fall_L42 x2 k m (nI (i + 1)) (wA σ 47 g1) := by
        rw [M_fall_L42, if_neg h1, a2, Option.bind_some, nI_1]
      rw [step]
      obtain ⟨g', t1, t2⟩ := ih (i + 1) g1 (by omega) (by omega)
      refine ⟨g', fun x => ?_, t2⟩
      rw [t1 x, a1 x]
      by_cases c1 : 10 * (i + 1) ≤ x ∧ x < 100
      · rw [if_pos c1, if_pos (by omega)]
      · rw [if_neg c1]
        by_cases c2 : 10 * i ≤ x ∧ x < 10 * i + 10
        · rw [if_pos c2, if_pos (by omega)]
        · rw [if_neg c2, if_neg (by omega)]
    · have e : i = 10 := by omega
      subst e
      refine ⟨g, fun x => by rw [if_neg (by omega)], ?_⟩
      rw [M_fall_L42, if_pos (by decide)]
theorem wA_cm2 (σ : St) (f g : Nat → Int32) : wA (wA σ 46 f) 47 g = wA (wA σ 47 g) 46 f := by
  unfold wA
  refine Prod.ext ?_ rfl
  funext x
  simp only
  by_cases a : x = 46
  · subst a; rfl
  · by_cases b : x = 47
    · subst b; rfl
    · rw [if_neg b, if_neg a, if_neg a, if_neg b]
theorem m_turns {σ : St} (ho : ir (σ.1 42) 0 99999) (hc : ir (σ.1 43) 0 99999) (hr : ir (σ.1 44) 0 2) : ∀ (k m : Nat) (f h g : Nat → Int32), k ≤ 60 → 60 - (60 - k) < m → ir f 0 99999 → (∀ x, x < 100 → h x = f x) → ∃ h' g' : Nat → Int32, (∀ x, x < 100 → h' x = fl (σ.1 42) (σ.1 43) (σ.1 44) k f x) ∧ M_fall_L30 m 1 (nI (60 - k)) (wA (wA σ 46 h) 47 g) = some (wA (wA σ 46 h') 47 g') := by
  intro k
  induction k with
  | zero =>
    intro m f h g _ hm hf hh
    obtain ⟨m, rfl⟩ : ∃ m', m = m' + 1 := ⟨m - 1, by omega⟩
    refine ⟨h, g, hh, ?_⟩
    rw [M_fall_L30, if_pos (by decide)]
  | succ k ih =>
    intro m f h g hk hm hf hh
    obtain ⟨m, rfl⟩ : ∃ m', m = m' + 1 := ⟨m - 1, by omega⟩
    have h1 : ¬ (60 : Int32) ≤ nI (60 - (k + 1)) := by rw [n_le, show (60 : Int32).toInt = 60 by decide, n_ti (by omega)]; omega
    rw [M_fall_L30, if_neg h1, if_neg (by decide)]
    obtain ⟨g1, a1, a2⟩ := m_outs (σ := wA σ 46 h) ho hc hr hf hh (nI (60 - (k + 1))) (fun y1 y2 τ => M_fall_L30 m y1 y2 τ) FU 0 g (Nat.zero_le _) (fu_gt (by decide))
    have a2' : M_fall_L42 (nI (60 - (k + 1))) (fun y1 y2 τ => M_fall_L30 m y1 y2 τ) FU 0 (wA (wA σ 46 h) 47 g) = M_fall_L63 (nI (60 - (k + 1))) (fun y1 y2 τ => M_fall_L30 m y1 y2 τ) FU 0 0 (wA (wA σ 47 g1) 46 h) := by
      rw [← wA_cm2]; exact a2
    rw [a2']
    obtain ⟨h1', b', t1, t2, t3⟩ := m_take (σ := wA σ 47 g1) (nI (60 - (k + 1))) (fun y1 y2 τ => M_fall_L30 m y1 y2 τ) FU 0 false h (Nat.zero_le _) (fu_gt (by decide))
    have t3' : M_fall_L63 (nI (60 - (k + 1))) (fun y1 y2 τ => M_fall_L30 m y1 y2 τ) FU 0 0 (wA (wA σ 47 g1) 46 h) = M_fall_L30 m (bi b') (nI (60 - (k + 1)) + 1) (wA (wA σ 47 g1) 46 h1') := t3
    rw [t3']
    have e60 : ∀ x, (wA σ 47 g1).1 47 x = g1 x := fun _ => rfl
    have g1x : ∀ x, x < 100 → g1 x = nx (σ.1 42) (σ.1 43) (σ.1 44) f x := fun x hx => by rw [a1 x, if_pos ⟨by omega, hx⟩]; rfl
    have hx : ∀ x, x < 100 → h1' x = nx (σ.1 42) (σ.1 43) (σ.1 44) f x := fun x hx => by rw [t1 x, if_pos ⟨by omega, hx⟩, e60, g1x x hx]
    have hb : b' = !(same f (nx (σ.1 42) (σ.1 43) (σ.1 44) f)) := by
      cases b'
      · symm
        rw [Bool.not_eq_false', same_iff]
        intro x hx
        apply Classical.byContradiction
        intro z
        have := t2.mpr (Or.inr ⟨x, by omega, hx, by rw [e60, g1x x hx, hh x hx]; exact z⟩)
        cases this
      · symm
        rw [Bool.not_eq_true']
        rcases t2.mp rfl with q | ⟨x, _, hx, q⟩
        · cases q
        · apply Classical.byContradiction
          intro z
          have z2 : same f (nx (σ.1 42) (σ.1 43) (σ.1 44) f) = true := by cases hq : same f (nx (σ.1 42) (σ.1 43) (σ.1 44) f) <;> simp_all
          rw [same_iff] at z2
          apply q
          rw [hh x hx, z2 x hx, e60, g1x x hx]
    rw [nI_1, show 60 - (k + 1) + 1 = 60 - k by omega]
    simp only [fl]
    cases hq : same f (nx (σ.1 42) (σ.1 43) (σ.1 44) f) with
    | true =>
      rw [hq] at hb
      subst hb
      refine ⟨h1', g1, fun x hx' => ?_, ?_⟩
      · rw [if_pos rfl]; exact hx x hx'
      · obtain ⟨m, rfl⟩ : ∃ m', m = m' + 1 := ⟨m - 1, by omega⟩
        show M_fall_L30 (m + 1) 0 (nI (60 - k)) _ = _
        rw [M_fall_L30]
        rw [wA_cm2]
        by_cases q : (60 : Int32) ≤ nI (60 - k)
        · rw [if_pos q]
        · rw [if_neg q, if_pos rfl]
    | false =>
      rw [hq] at hb
      subst hb
      obtain ⟨h', g', s1, s2⟩ := ih m (nx (σ.1 42) (σ.1 43) (σ.1 44) f) h1' g1 (by omega) (by omega) (nx_b ho hc hf) hx
      refine ⟨h', g', fun x hx' => ?_, ?_⟩
      · rw [if_neg (by decide)]; exact s1 x hx'
      · rw [wA_cm2] at s2; exact s2
theorem m_start {τ : St} : ∀ (m i : Nat) (h : Nat → Int32), i ≤ 100 → 100 - i < m → ∃ h' : Nat → Int32, (∀ x, h' x = if i ≤ x ∧ x < 100 then τ.1 42 x else h x) ∧ M_fall_L2 m (nI i) (wA τ 46 h) = M_fall_L30 FU 1 0 (wA τ 46 h') := by
  intro m
  induction m with
  | zero => intro i h _ hm; omega
  | succ m ih =>
    intro i h hi hm
    rcases Nat.lt_or_ge i 100 with hlt | hge
    · have h1 : ¬ (100 : Int32) ≤ nI i := by rw [n_le, show (100 : Int32).toInt = 100 by decide, n_ti (by omega)]; omega
      have h2 : inb (nI i) 100 := n_inb hlt (by decide)
      have h3 := n_tn (k := i) (by omega)
      have e60 : (wA τ 46 h).1 42 i = τ.1 42 i := rfl
      have step : M_fall_L2 (m + 1) (nI i) (wA τ 46 h) = M_fall_L2 m (nI (i + 1)) (wA τ 46 (upd h i (τ.1 42 i))) := by
        simp only [M_fall_L2, h1, if_pos h2, h3, e60, wI_wA, nI_1, if_false]
      rw [step]
      obtain ⟨h', t1, t3⟩ := ih (i + 1) (upd h i (τ.1 42 i)) (by omega) (by omega)
      refine ⟨h', fun x => ?_, t3⟩
      rw [t1 x, upd_at]
      by_cases c1 : i + 1 ≤ x ∧ x < 100
      · rw [if_pos c1, if_pos ⟨by omega, c1.2⟩]
      · rw [if_neg c1]
        by_cases c2 : x = i
        · subst c2; rw [if_pos rfl, if_pos ⟨Nat.le_refl _, hlt⟩]
        · rw [if_neg c2, if_neg (by omega)]
    · have e : i = 100 := by omega
      subst e
      refine ⟨h, fun x => by rw [if_neg (by omega)], ?_⟩
      rw [M_fall_L2, if_pos (by decide)]
theorem m_fall {τ : St} (ho : ir (τ.1 42) 0 99999) (hc : ir (τ.1 43) 0 99999) (hr : ir (τ.1 44) 0 2) : ∃ h g : Nat → Int32, (∀ x, x < 100 → h x = fall (τ.1 42) (τ.1 43) (τ.1 44) x) ∧ M_fall τ = some (wA (wA τ 46 h) 47 g) := by
  unfold M_fall
  obtain ⟨h0, a1, a2⟩ := m_start (τ := τ) FU 0 (τ.1 46) (Nat.zero_le _) (fu_gt (by decide))
  rw [wA_id] at a2
  have a2' : M_fall_L2 FU 0 τ = M_fall_L30 FU 1 0 (wA τ 46 h0) := a2
  rw [a2']
  obtain ⟨h', g', s1, s2⟩ := m_turns ho hc hr 60 FU (τ.1 42) h0 (τ.1 47) (by omega) (fu_gt (by decide)) ho (fun x hx => by rw [a1 x, if_pos ⟨by omega, hx⟩])
  refine ⟨h', g', s1, ?_⟩
  rw [← s2]
  have : wA (wA τ 46 h0) 47 (τ.1 47) = wA τ 46 h0 := wA_id (wA τ 46 h0) 47
  rw [this]
  rfl
theorem g_parties (x1 x2 : Int32) (σ : St) : P_areParties x1 x2 σ = some (bw x1 10 && bw x2 10) := by
  simp only [P_areParties, g_below, Option.bind_some]
  cases bw x1 10 <;> cases bw x2 10 <;> rfl
theorem op_pays {n : Nat} {σ τ : St} (h : Rel0 n σ τ) (hw : cW σ) (x1 x2 : Int32) : ∃ r σ' τ', P_pays x1 x2 σ = some (r, σ') ∧ M_pays x1 x2 τ = some (r, τ') ∧ Rel0 n σ' τ' ∧ sN σ σ' ∧ cW σ' ∧ sO σ σ' := by
  have hI := h.2.2.2.2.2.2.2.2.2.1
  obtain ⟨⟨e1, e2, e3⟩, ho, hc, hr⟩ := hI
  unfold P_pays M_pays
  rw [g_parties, g_isParty, g_isParty]
  simp only [Option.bind_some]
  by_cases q1 : bw x1 10 = true
  · by_cases q2 : bw x2 10 = true
    · obtain ⟨a, rfl, ha, _⟩ := bw_of q1
      obtain ⟨b, rfl, hb, _⟩ := bw_of q2
      rw [k_10] at ha hb
      obtain ⟨f, g, v, c1, c2⟩ := c_settle ho hc hr hw
      obtain ⟨f', g', d1, d2⟩ := m_fall (τ := τ) (by rw [← e1]; exact ho) (by rw [← e2]; exact hc) (by rw [← e3]; exact hr)
      rw [← e1, ← e2, ← e3] at d1
      have i1 : inb (nI (10 * a + b)) 100 := in100 (by omega) (by omega)
      have i2 := n_tn (k := 10 * a + b) (by omega)
      rw [q1, q2, c2, d2]
      simp only [Bool.and_self, if_true, Option.bind_some, idx10, idx10', if_pos i1, i2]
      refine ⟨_, _, wA (wA τ 46 f') 47 g', rfl, ?_, h, (sx_refl σ).1, Or.inr c1, (sx_refl σ).2.2⟩
      · show some (f' (10 * a + b), _) = some (f (10 * a + b), _)
        rw [d1 _ (by omega), c1 _ (by omega)]
    · have q2' : bw x2 10 = false := by simpa using q2
      rw [q1, q2']
      exact ⟨_, _, _, rfl, rfl, h, (sx_refl σ).1, hw, (sx_refl σ).2.2⟩
  · have q1' : bw x1 10 = false := by simpa using q1
    rw [q1']
    exact ⟨_, _, _, rfl, rfl, h, (sx_refl σ).1, hw, (sx_refl σ).2.2⟩
theorem or0 (x : Int32) : x ||| 0 = x := by apply Int32.toBitVec_inj.mp; simp
def fng (ow pay : Nat → Int32) (i : Nat) (a : Int32) : Int32 := if ow i ≤ pay i then a else a ||| ((1 : Int32) <<< ((nI i / (10 : Int32)) &&& 31))
theorem fng_c {ow pay pay' : Nat → Int32} (e2 : ∀ x, x < 100 → pay x = pay' x) : ∀ k i a, i + k ≤ 100 → itr (fng ow pay) k i a = itr (fng ow pay') k i a := by
  intro k
  induction k with
  | zero => intro i a _; simp only [itr]
  | succ k ih =>
    intro i a hk
    have a1 : fng ow pay i a = fng ow pay' i a := by unfold fng; rw [e2 i (by omega)]
    show itr (fng ow pay) k (i + 1) (fng ow pay i a) = itr (fng ow pay') k (i + 1) (fng ow pay' i a)
    rw [a1]
    exact ih (i + 1) _ (by omega)
theorem r_fallen1 (σ : St) : Owed_fallen σ = some (itr (fng (σ.1 58) (σ.1 59)) 100 0 0) := by
  unfold Owed_fallen
  exact lp_u0 (F := fun n i a => Owed_fallen_L4 σ n a i) (c := 100) (K := fun a => some a) (g := fng (σ.1 58) (σ.1 59))
    (fun n a => by simp only [Owed_fallen_L4, show (100 : Int32) ≤ nI 100 by decide, if_true])
    (fun n i a hi => by
      have h1 : ¬ (100 : Int32) ≤ nI i := by rw [n_le, show (100 : Int32).toInt = 100 by decide, n_ti (by omega)]; omega
      have h2 : inb (nI i) 100 := n_inb hi (by decide)
      have h3 := n_tn (k := i) (by omega)
      simp only [Owed_fallen_L4, h1, if_pos h2, h3, nI_1, if_false, fng]
      split <;> rfl) FU 0 (fu_gt (by decide))
theorem r_fallen2 (τ : St) : M_ruin_L8 τ FU 0 0 = some (itr (fng (τ.1 42) (τ.1 46)) 100 0 0, τ) := by
  exact lp_u0 (F := fun n i a => M_ruin_L8 τ n a i) (c := 100) (K := fun a => some (a, τ)) (g := fng (τ.1 42) (τ.1 46))
    (fun n a => by simp only [M_ruin_L8, show (100 : Int32) ≤ nI 100 by decide, if_true])
    (fun n i a hi => by
      have h1 : ¬ (100 : Int32) ≤ nI i := by rw [n_le, show (100 : Int32).toInt = 100 by decide, n_ti (by omega)]; omega
      have h2 : inb (nI i) 100 := n_inb hi (by decide)
      have h3 := n_tn (k := i) (by omega)
      simp only [M_ruin_L8, h1, if_pos h2, h3, nI_1, if_false, or0, fng]
      split <;> rfl) FU 0 (fu_gt (by decide))
theorem r_fallen {σ τ : St} (e1 : σ.1 58 = τ.1 42) (e2 : ∀ x, x < 100 → σ.1 59 x = τ.1 46 x) : ∃ r, Owed_fallen σ = some r ∧ M_ruin_L8 τ FU 0 0 = some (r, τ) := by
  have k1 := r_fallen1 σ
  rw [e1, fng_c e2 100 0 0 (by omega)] at k1
  exact ⟨_, k1, r_fallen2 τ⟩
theorem op_ruin {n : Nat} {σ τ : St} (h : Rel0 n σ τ) (hw : cW σ) : ∃ r σ' τ', P_ruin σ = some (r, σ') ∧ M_ruin τ = some (r, τ') ∧ Rel0 n σ' τ' ∧ sN σ σ' ∧ cW σ' ∧ sO σ σ' := by
  have hI := h.2.2.2.2.2.2.2.2.2.1
  obtain ⟨⟨e1, e2, e3⟩, ho, hc, hr⟩ := hI
  unfold P_ruin M_ruin
  obtain ⟨f, g, v, c1, c2⟩ := c_settle ho hc hr hw
  obtain ⟨f', g', d1, d2⟩ := m_fall (τ := τ) (by rw [← e1]; exact ho) (by rw [← e2]; exact hc) (by rw [← e3]; exact hr)
  rw [← e1, ← e2, ← e3] at d1
  rw [c2, d2]
  simp only [Option.bind_some]
  obtain ⟨r, r1, r2⟩ := r_fallen (σ := wI (wA (wA σ 59 f) 60 g) 57 6 v) (τ := wA (wA τ 46 f') 47 g') e1 (fun x hx => by
    show f x = f' x
    rw [d1 x hx, c1 x hx])
  rw [r1, r2]
  refine ⟨r, _, _, rfl, rfl, h, (sx_refl σ).1, Or.inr c1, (sx_refl σ).2.2⟩
