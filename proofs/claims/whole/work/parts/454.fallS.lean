/-! settle and fall -/
def same (f g : Nat → Int32) : Bool := (List.range 100).all fun x => decide (f x = g x)
theorem same_iff {f g : Nat → Int32} : same f g = true ↔ ∀ x, x < 100 → f x = g x := by unfold same; simp [List.all_eq_true, List.mem_range]
def fl (ow co ra : Nat → Int32) : Nat → (Nat → Int32) → (Nat → Int32)
  | 0, f => f
  | k + 1, f => if same f (nx ow co ra f) = true then nx ow co ra f else fl ow co ra k (nx ow co ra f)
def fall (ow co ra : Nat → Int32) : Nat → Int32 := fl ow co ra 60 ow
theorem c_take {σ : St} : ∀ (m i : Nat) (b : Bool) (h : Nat → Int32), i ≤ 100 → 100 - i < m → ∃ (h' : Nat → Int32) (b' : Bool), (∀ x, h' x = if i ≤ x ∧ x < 100 then σ.1 60 x else h x) ∧ (b' = true ↔ b = true ∨ ∃ x, i ≤ x ∧ x < 100 ∧ h x ≠ σ.1 60 x) ∧ Owed_takeNext_L4 m (bi b) (nI i) (wA σ 59 h) = some (b', wA σ 59 h') := by
  intro m
  induction m with
  | zero => intro i b h _ hm; omega
  | succ m ih =>
    intro i b h hi hm
    rcases Nat.lt_or_ge i 100 with hlt | hge
    · have h1 : ¬ (100 : Int32) ≤ nI i := by rw [n_le, show (100 : Int32).toInt = 100 by decide, n_ti (by omega)]; omega
      have h2 : inb (nI i) 100 := n_inb hlt (by decide)
      have h3 := n_tn (k := i) (by omega)
      have e59 : (wA σ 59 h).1 59 i = h i := rfl
      have e60 : (wA σ 59 h).1 60 i = σ.1 60 i := rfl
      have step : Owed_takeNext_L4 (m + 1) (bi b) (nI i) (wA σ 59 h) = Owed_takeNext_L4 m (bi (b || decide (h i ≠ σ.1 60 i))) (nI (i + 1)) (wA σ 59 (upd h i (σ.1 60 i))) := by
        by_cases e : h i = σ.1 60 i
        · have w : (b || decide (h i ≠ σ.1 60 i)) = b := by simp [e]
          rw [w]
          simp only [Owed_takeNext_L4, h1, if_pos h2, h3, e59, e60, if_pos e, wI_wA, nI_1, if_false]
        · have w : (b || decide (h i ≠ σ.1 60 i)) = true := by simp [e]
          rw [w]
          simp only [Owed_takeNext_L4, h1, if_pos h2, h3, e59, e60, if_neg e, wI_wA, nI_1, if_false, bi_t]
      rw [step]
      obtain ⟨h', b', t1, t2, t3⟩ := ih (i + 1) (b || decide (h i ≠ σ.1 60 i)) (upd h i (σ.1 60 i)) (by omega) (by omega)
      refine ⟨h', b', fun x => ?_, ?_, t3⟩
      · rw [t1 x, upd_at]
        by_cases c1 : i + 1 ≤ x ∧ x < 100
        · rw [if_pos c1, if_pos ⟨by omega, c1.2⟩]
        · rw [if_neg c1]
          by_cases c2 : x = i
          · subst c2; rw [if_pos rfl, if_pos ⟨Nat.le_refl _, hlt⟩]
          · rw [if_neg c2, if_neg (by omega)]
      · rw [t2]
        constructor
        · rintro (q | ⟨x, x1, x2, x3⟩)
          · simp at q
            rcases q with q | q
            · exact Or.inl q
            · exact Or.inr ⟨i, Nat.le_refl _, hlt, q⟩
          · rw [upd_at, if_neg (by omega)] at x3
            exact Or.inr ⟨x, by omega, x2, x3⟩
        · rintro (q | ⟨x, x1, x2, x3⟩)
          · left; simp [q]
          · by_cases c2 : x = i
            · subst c2; left; simp [x3]
            · right; refine ⟨x, by omega, x2, ?_⟩
              rw [upd_at, if_neg c2]; exact x3
    · have e : i = 100 := by omega
      subst e
      refine ⟨h, b, fun x => by rw [if_neg (by omega)], ?_, ?_⟩
      · constructor
        · exact Or.inl
        · rintro (q | ⟨x, x1, x2, _⟩)
          · exact q
          · omega
      · cases b
        · simp only [Owed_takeNext_L4, show (100 : Int32) ≤ nI 100 by decide, if_true, bi_f]
        · simp only [Owed_takeNext_L4, show (100 : Int32) ≤ nI 100 by decide, if_true, bi_t, show ¬ (1 : Int32) = 0 by decide, if_false]
theorem c_outs {σ : St} (ho : ir (σ.1 58) 0 99999) (hc : ir (σ.1 61) 0 99999) (hr : ir (σ.1 62) 0 2) {f : Nat → Int32} (hpy : ir f 0 99999) (hf : ∀ x, x < 100 → σ.1 59 x = f x) (x2 : Int32) (k : Int32 → Int32 → St → Option St) : ∀ (m i : Nat) (g : Nat → Int32), i ≤ 10 → 10 - i < m → ∃ g' : Nat → Int32, (∀ x, g' x = if 10 * i ≤ x ∧ x < 100 then nx (σ.1 58) (σ.1 61) (σ.1 62) f x else g x) ∧ Owed_settle_L42 x2 k m (nI i) (wA σ 60 g) = Option.bind (Owed_takeNext (wA σ 60 g')) fun q60 => k (bi q60.1) (x2 + (1 : Int32)) q60.2 := by
  intro m
  induction m with
  | zero => intro i g _ hm; omega
  | succ m ih =>
    intro i g hi hm
    rcases Nat.lt_or_ge i 10 with hlt | hge
    · have h1 : ¬ (10 : Int32) ≤ nI i := by rw [n_le, k_10, n_ti (by omega)]; omega
      obtain ⟨g1, a1, a2⟩ := c_payOut ho hc hr hpy hf hlt g
      have step : Owed_settle_L42 x2 k (m + 1) (nI i) (wA σ 60 g) = Owed_settle_L42 x2 k m (nI (i + 1)) (wA σ 60 g1) := by
        rw [Owed_settle_L42, if_neg h1, a2, Option.bind_some, nI_1]
      rw [step]
      obtain ⟨g', t1, t2⟩ := ih (i + 1) g1 (by omega) (by omega)
      refine ⟨g', fun x => ?_, t2⟩
      rw [t1 x, a1 x]
      by_cases c1 : 10 * (i + 1) ≤ x ∧ x < 100
      · rw [if_pos c1, if_pos (by omega)]
      · rw [if_neg c1]
        by_cases c2 : 10 * i ≤ x ∧ x < 10 * i + 10
        · rw [if_pos c2, if_pos (by omega)]
        · rw [if_neg c2, if_neg (by omega)]
    · have e : i = 10 := by omega
      subst e
      refine ⟨g, fun x => by rw [if_neg (by omega)], ?_⟩
      rw [Owed_settle_L42, if_pos (by decide)]
theorem wA_id (σ : St) (k : Nat) : wA σ k (σ.1 k) = σ := by
  unfold wA
  refine Prod.ext ?_ rfl
  funext x
  simp only
  split
  · rename_i e; rw [e]
  · rfl
theorem wA_cm (σ : St) (f g : Nat → Int32) : wA (wA σ 59 f) 60 g = wA (wA σ 60 g) 59 f := by
  unfold wA
  refine Prod.ext ?_ rfl
  funext x
  simp only
  by_cases a : x = 59
  · subst a; rfl
  · by_cases b : x = 60
    · subst b; rfl
    · rw [if_neg b, if_neg a, if_neg a, if_neg b]
theorem c_turns {σ : St} (ho : ir (σ.1 58) 0 99999) (hc : ir (σ.1 61) 0 99999) (hr : ir (σ.1 62) 0 2) : ∀ (k m : Nat) (f h g : Nat → Int32), k ≤ 60 → 60 - (60 - k) < m → ir f 0 99999 → (∀ x, x < 100 → h x = f x) → ∃ h' g' : Nat → Int32, (∀ x, x < 100 → h' x = fl (σ.1 58) (σ.1 61) (σ.1 62) k f x) ∧ Owed_settle_L30 m 1 (nI (60 - k)) (wA (wA σ 59 h) 60 g) = some (wI (wA (wA σ 59 h') 60 g') 57 6 1) := by
  intro k
  induction k with
  | zero =>
    intro m f h g _ hm hf hh
    obtain ⟨m, rfl⟩ : ∃ m', m = m' + 1 := ⟨m - 1, by omega⟩
    refine ⟨h, g, hh, ?_⟩
    rw [Owed_settle_L30, if_pos (by decide)]
  | succ k ih =>
    intro m f h g hk hm hf hh
    obtain ⟨m, rfl⟩ : ∃ m', m = m' + 1 := ⟨m - 1, by omega⟩
    have h1 : ¬ (60 : Int32) ≤ nI (60 - (k + 1)) := by rw [n_le, show (60 : Int32).toInt = 60 by decide, n_ti (by omega)]; omega
    rw [Owed_settle_L30, if_neg h1, if_neg (by decide)]
    obtain ⟨g1, a1, a2⟩ := c_outs (σ := wA σ 59 h) ho hc hr hf hh (nI (60 - (k + 1))) (fun y1 y2 τ => Owed_settle_L30 m y1 y2 τ) FU 0 g (Nat.zero_le _) (fu_gt (by decide))
    have a2' : Owed_settle_L42 (nI (60 - (k + 1))) (fun y1 y2 τ => Owed_settle_L30 m y1 y2 τ) FU 0 (wA (wA σ 59 h) 60 g) = Option.bind (Owed_takeNext (wA (wA σ 60 g1) 59 h)) fun q60 => Owed_settle_L30 m (bi q60.1) (nI (60 - (k + 1)) + (1 : Int32)) q60.2 := by
      rw [← wA_cm]; exact a2
    rw [a2']
    obtain ⟨h1', b', t1, t2, t3⟩ := c_take (σ := wA σ 60 g1) FU 0 false h (Nat.zero_le _) (fu_gt (by decide))
    have t3' : Owed_takeNext (wA (wA σ 60 g1) 59 h) = some (b', wA (wA σ 60 g1) 59 h1') := t3
    rw [t3', Option.bind_some]
    have e60 : ∀ x, (wA σ 60 g1).1 60 x = g1 x := fun _ => rfl
    have g1x : ∀ x, x < 100 → g1 x = nx (σ.1 58) (σ.1 61) (σ.1 62) f x := fun x hx => by rw [a1 x, if_pos ⟨by omega, hx⟩]; rfl
    have hx : ∀ x, x < 100 → h1' x = nx (σ.1 58) (σ.1 61) (σ.1 62) f x := fun x hx => by rw [t1 x, if_pos ⟨by omega, hx⟩, e60, g1x x hx]
    have hb : b' = !(same f (nx (σ.1 58) (σ.1 61) (σ.1 62) f)) := by
      cases b'
      · symm
        rw [Bool.not_eq_false', same_iff]
        intro x hx
        apply Classical.byContradiction
        intro z
        have := t2.mpr (Or.inr ⟨x, by omega, hx, by rw [e60, g1x x hx, hh x hx]; exact z⟩)
        cases this
      · symm
        rw [Bool.not_eq_true']
        rcases t2.mp rfl with q | ⟨x, _, hx, q⟩
        · cases q
        · apply Classical.byContradiction
          intro z
          have z2 : same f (nx (σ.1 58) (σ.1 61) (σ.1 62) f) = true := by cases hq : same f (nx (σ.1 58) (σ.1 61) (σ.1 62) f) <;> simp_all
          rw [same_iff] at z2
          apply q
          rw [hh x hx, z2 x hx, e60, g1x x hx]
    rw [nI_1, show 60 - (k + 1) + 1 = 60 - k by omega]
    simp only [fl]
    cases hq : same f (nx (σ.1 58) (σ.1 61) (σ.1 62) f) with
    | true =>
      rw [hq] at hb
      subst hb
      refine ⟨h1', g1, fun x hx' => ?_, ?_⟩
      · rw [if_pos rfl]; exact hx x hx'
      · obtain ⟨m, rfl⟩ : ∃ m', m = m' + 1 := ⟨m - 1, by omega⟩
        show Owed_settle_L30 (m + 1) 0 (nI (60 - k)) _ = _
        rw [Owed_settle_L30]
        rw [wA_cm]
        by_cases q : (60 : Int32) ≤ nI (60 - k)
        · rw [if_pos q]
        · rw [if_neg q, if_pos rfl]
    | false =>
      rw [hq] at hb
      subst hb
      obtain ⟨h', g', s1, s2⟩ := ih m (nx (σ.1 58) (σ.1 61) (σ.1 62) f) h1' g1 (by omega) (by omega) (nx_b ho hc hf) hx
      refine ⟨h', g', fun x hx' => ?_, ?_⟩
      · rw [if_neg (by decide)]; exact s1 x hx'
      · rw [wA_cm] at s2; exact s2
def cW (σ : St) : Prop := σ.1 57 6 = 0 ∨ ∀ x, x < 100 → σ.1 59 x = fall (σ.1 58) (σ.1 61) (σ.1 62) x
theorem cW_s {σ σ' : St} (h : cW σ) (s : sW σ σ') : cW σ' := by
  rcases s with s | ⟨s1, s2, s3, s4, s5⟩
  · exact Or.inl s
  · rcases h with h | h
    · exact Or.inl (by rw [s1, h])
    · right; rw [s2, s3, s4, s5]; exact h
theorem c_settle {σ : St} (ho : ir (σ.1 58) 0 99999) (hc : ir (σ.1 61) 0 99999) (hr : ir (σ.1 62) 0 2) (hw : cW σ) : ∃ (h g : Nat → Int32) (v : Int32), (∀ x, x < 100 → h x = fall (σ.1 58) (σ.1 61) (σ.1 62) x) ∧ Owed_settle σ = some (wI (wA (wA σ 59 h) 60 g) 57 6 v) := by
  unfold Owed_settle
  by_cases q : σ.1 57 6 = 0
  · rw [if_pos q, if_pos (by decide)]
    obtain ⟨h', g', s1, s2⟩ := c_turns ho hc hr 60 FU (σ.1 58) (va_cpy (σ.1 58) (σ.1 59) 0 0 100) (σ.1 60) (by omega) (fu_gt (by decide)) ho (fun x hx => by simp [va_cpy, hx])
    refine ⟨h', g', 1, s1, ?_⟩
    rw [← s2]
    have : wA (wA σ 59 (va_cpy (σ.1 58) (σ.1 59) 0 0 100)) 60 (σ.1 60) = wA σ 59 (va_cpy (σ.1 58) (σ.1 59) 0 0 100) := wA_id (wA σ 59 (va_cpy (σ.1 58) (σ.1 59) 0 0 100)) 60
    rw [this]
    rfl
  · rw [if_neg q]
    refine ⟨σ.1 59, σ.1 60, σ.1 57 6, ?_, ?_⟩
    · rcases hw with hw | hw
      · exact absurd hw q
      · exact hw
    · rw [wA_id]
      rw [show wA σ 60 (σ.1 60) = σ from wA_id σ 60]
      congr 1
      unfold wI
      refine Prod.ext ?_ rfl
      funext a
      simp only
      split
      · rename_i e; subst e
        funext i
        unfold upd
        split
        · rename_i e; rw [e]
        · rfl
      · rfl
