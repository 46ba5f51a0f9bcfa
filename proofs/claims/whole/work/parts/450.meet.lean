/-! meet -/
theorem itr_skip {A : Type} {f : Nat → A → A} (h : ∀ i a, f i a = a) : ∀ k i a, itr f k i a = a := by
  intro k
  induction k with
  | zero => intro i a; rfl
  | succ k ih => intro i a; rw [itr, h]; exact ih _ _
theorem maI_t (x y : Int32) : (maI x y).toInt = if x.toInt < y.toInt then y.toInt else x.toInt := by
  unfold maI
  by_cases h : x < y
  · rw [if_pos h, if_pos (by rw [n_lt] at h; exact h)]
  · rw [if_neg h, if_neg (by rw [n_lt] at h; exact h)]
theorem greater_eq (x y : Int32) (σ : St) : M_greater x y σ = some (maI x y) := by
  unfold M_greater maI
  by_cases h : x < y
  · rw [if_pos h, if_pos (by rw [n_le]; rw [n_lt] at h; omega)]
  · by_cases e : x ≤ y
    · have : x = y := by rw [n_eq]; rw [n_lt] at h; rw [n_le] at e; omega
      subst this
      rw [if_pos (Int32.le_refl _), if_neg h]
    · rw [if_neg e, if_neg h]
def liI (x y : Int32) : Int32 := if y ≤ x then y else x
theorem lesser_eq (x y : Int32) (σ : St) : M_lesser x y σ = some (liI x y) := by
  unfold M_lesser liI
  split <;> rfl
theorem liI_t (x y : Int32) : (liI x y).toInt = if y.toInt ≤ x.toInt then y.toInt else x.toInt := by
  unfold liI
  by_cases h : y ≤ x
  · rw [if_pos h, if_pos (by rw [n_le] at h; exact h)]
  · rw [if_neg h, if_neg (by rw [n_le] at h; exact h)]
/-- the lesser of what was found and what is found now; -9: nothing -/
def mn (a x : Int32) : Int32 := if a = -9 then x else if a ≤ x then a else x
def cmb (a r : Int32) : Int32 := if r = -9 then a else mn a r
def okm (a : Int32) : Prop := a = -9 ∨ 0 ≤ a.toInt
theorem ne9 {x : Int32} (h : 0 ≤ x.toInt) : ¬ x = -9 := by rw [n_eq, k_m9]; omega
theorem mn_ok {a x : Int32} (ha : okm a) (hx : 0 ≤ x.toInt) : 0 ≤ (mn a x).toInt := by
  unfold mn
  rcases ha with e | e
  · rw [if_pos e]; exact hx
  · rw [if_neg (ne9 e)]
    split
    · exact e
    · exact hx
theorem mn_assoc {a x y : Int32} (ha : okm a) (hx : 0 ≤ x.toInt) (hy : 0 ≤ y.toInt) : mn (mn a x) y = mn a (mn x y) := by
  have e1 : mn x y = if x ≤ y then x else y := by unfold mn; rw [if_neg (ne9 hx)]
  rcases ha with e | e
  · subst e
    have e2 : mn (-9) x = x := by unfold mn; rw [if_pos rfl]
    have e3 : ∀ z, mn (-9) z = z := fun z => by unfold mn; rw [if_pos rfl]
    rw [e2, e3]
  · have e2 : ∀ z, mn a z = if a ≤ z then a else z := fun z => by unfold mn; rw [if_neg (ne9 e)]
    rw [e1, e2, e2]
    by_cases h1 : a ≤ x
    · rw [if_pos h1, e2]
      by_cases h2 : x ≤ y
      · rw [if_pos h2, if_pos h1, if_pos (by rw [n_le] at *; omega)]
      · rw [if_neg h2]
    · rw [if_neg h1]
      have e4 : ∀ z, mn x z = if x ≤ z then x else z := fun z => by unfold mn; rw [if_neg (ne9 hx)]
      rw [e4]
      by_cases h2 : x ≤ y
      · rw [if_pos h2, if_neg h1]
      · rw [if_neg h2, if_neg (by rw [n_le] at *; omega)]
theorem itr_mn {V : Nat → Bool} {X : Nat → Int32} (hX : ∀ t, V t = true → 0 ≤ (X t).toInt) : ∀ k i a, okm a → okm (itr (fun t a => if V t = true then mn a (X t) else a) k i a) ∧ itr (fun t a => if V t = true then mn a (X t) else a) k i a = cmb a (itr (fun t a => if V t = true then mn a (X t) else a) k i (-9)) := by
  intro k
  induction k with
  | zero => intro i a ha; exact ⟨ha, by simp [itr, cmb]⟩
  | succ k ih =>
    intro i a ha
    simp only [itr]
    cases hv : V i
    · simp only [Bool.false_eq_true, if_false]
      exact ih (i + 1) a ha
    · simp only [if_true]
      have h1 := hX i hv
      have h2 := mn_ok ha h1
      have e9 : mn (-9) (X i) = X i := by unfold mn; rw [if_pos rfl]
      obtain ⟨g1, g2⟩ := ih (i + 1) (mn a (X i)) (Or.inr h2)
      obtain ⟨g3, g4⟩ := ih (i + 1) (X i) (Or.inr h1)
      obtain ⟨g5, _⟩ := ih (i + 1) (-9) (Or.inl rfl)
      refine ⟨g1, ?_⟩
      rw [g2, e9, g4]
      generalize itr (fun t a => if V t = true then mn a (X t) else a) k (i + 1) (-9) = r at g5
      unfold cmb
      by_cases hr : r = -9
      · rw [if_pos hr, if_pos hr, if_neg (ne9 h1)]
      · have hr2 : 0 ≤ r.toInt := by
          rcases g5 with q | q
          · exact absurd q hr
          · exact q
        rw [if_neg hr, if_neg hr, if_neg (ne9 (mn_ok (Or.inr h1) hr2))]
        exact mn_assoc ha h1 hr2
def meV (wo wa fr to : Nat → Int32) (b d : Int32) (s t : Nat) : Bool := decide (wo t = b) && (decide (wa t = wa s) && (!decide (to s < maI (maI d (fr s)) (fr t)) && !decide (to t < maI (maI d (fr s)) (fr t))))
def meX (fr : Nat → Int32) (d : Int32) (s t : Nat) : Int32 := maI (maI d (fr s)) (fr t)
def meI (c : Nat) (wo wa fr to : Nat → Int32) (b d : Int32) (s : Nat) (a : Int32) : Int32 := itr (fun t a => if meV wo wa fr to b d s t = true then mn a (meX fr d s t) else a) c 0 a
def meO (c : Nat) (wo wa fr to : Nat → Int32) (x b d : Int32) : Int32 := itr (fun s a => if wo s = x then meI c wo wa fr to b d s a else a) c 0 (-9)
theorem s_beside {σ : St} {c : Nat} (hc : σ.1 6 4 = nI c) (h : c ≤ 40) {s : Nat} (hs : s < 40) (b d : Int32) : Spans_firstBeside_stays (nI s) b (maI d (σ.1 9 s)) σ = some (meI c (σ.1 7) (σ.1 8) (σ.1 9) (σ.1 10) b d s (-9)) := by
  unfold Spans_firstBeside_stays meI
  refine lp_u0 (F := fun n i a => Spans_firstBeside_stays_L7 (nI s) b (maI d (σ.1 9 s)) σ n a i) (K := some) ?_ ?_ FU (-9) (fu_gt (by omega))
  · intro n a; simp only [Spans_firstBeside_stays_L7, hc, n_cmpE, if_true]
  · intro n i a hi
    have h1 := n_cmp hi (by omega)
    have h2 : inb (nI i) 40 := n_inb (by omega) (by decide)
    have h3 := n_tn (k := i) (by omega)
    have g2 : inb (nI s) 40 := n_inb (by omega) (by decide)
    have g3 := n_tn (k := s) (by omega)
    simp only [Spans_firstBeside_stays_L7, hc, h1, if_pos h2, if_pos g2, h3, g3, nI_1, if_false, meV, meX, mn]
    by_cases x : σ.1 7 i = b
    · by_cases y : σ.1 8 i = σ.1 8 s
      · by_cases z : σ.1 10 s < maI (maI d (σ.1 9 s)) (σ.1 9 i)
        · simp [x, y, z]
        · by_cases w : σ.1 10 i < maI (maI d (σ.1 9 s)) (σ.1 9 i)
          · simp [x, y, z, w]
          · by_cases v : a = -9
            · simp [x, y, z, w, v]
            · by_cases u : a ≤ maI (maI d (σ.1 9 s)) (σ.1 9 i) <;> simp [x, y, z, w, v, u]
      · simp [x, y]
    · simp [x]
theorem m_meetI {τ : St} {c : Nat} (hc : τ.1 0 8 = nI c) (h : c ≤ 40) {s : Nat} (hs : s < 40) (x b d : Int32) (K : Int32 → Int32 → Option Int32) (a : Int32) (ha : okm a) (hX : ∀ t, 0 ≤ (meX (τ.1 7) d s t).toInt) :
    M_meet_L52 x b d (nI s) τ K FU a 0 = K (if τ.1 5 s = x then meI c (τ.1 5) (τ.1 6) (τ.1 7) (τ.1 8) b d s a else a) (nI (s + 1)) := by
  have g2 : inb (nI s) 40 := n_inb (by omega) (by decide)
  have g3 := n_tn (k := s) (by omega)
  have key := lp_up (F := fun n i a => M_meet_L52 x b d (nI s) τ K n a i) (c := c) (K := fun a => K a (nI (s + 1))) (g := fun t a => if τ.1 5 s = x then (if meV (τ.1 5) (τ.1 6) (τ.1 7) (τ.1 8) b d s t = true then mn a (meX (τ.1 7) d s t) else a) else a) (fun _ a => okm a)
    (fun n a _ => by simp only [M_meet_L52, hc, n_cmpE, if_true, nI_1])
    (fun n i a hi hI => by
      have h1 := n_cmp hi (by omega)
      have h2 : inb (nI i) 40 := n_inb (by omega) (by decide)
      have h3 := n_tn (k := i) (by omega)
      by_cases q : τ.1 5 s = x
      · have eX : maI d (maI (τ.1 7 s) (τ.1 7 i)) = meX (τ.1 7) d s i := by
          unfold meX
          rw [n_eq, maI_t, maI_t, maI_t, maI_t]
          split <;> split <;> (try split) <;> (try split) <;> omega
        have eV : ((liI (τ.1 8 s) (τ.1 8 i)) < meX (τ.1 7) d s i) ↔ (τ.1 8 s < meX (τ.1 7) d s i ∨ τ.1 8 i < meX (τ.1 7) d s i) := by
          rw [n_lt, n_lt, n_lt, liI_t]
          split <;> omega
        have hX0 := hX i
        have hneg : (a < 0) ↔ a = -9 := by
          rcases hI with e | e
          · subst e; exact ⟨fun _ => rfl, fun _ => by decide⟩
          · exact ⟨fun w => by rw [n_lt, n_0] at w; omega, fun w => absurd w (ne9 e)⟩
        refine ⟨?_, ?_⟩
        · simp only [M_meet_L52, greater_eq, lesser_eq, hc, h1, if_pos h2, if_pos g2, h3, g3, nI_1, if_false, q, if_true, Option.bind_some, eX, eV, hneg]
          have eV2 : meV (τ.1 5) (τ.1 6) (τ.1 7) (τ.1 8) b d s i = (decide (τ.1 5 i = b) && (decide (τ.1 6 i = τ.1 6 s) && (!decide (τ.1 8 s < meX (τ.1 7) d s i) && !decide (τ.1 8 i < meX (τ.1 7) d s i)))) := rfl
          rw [eV2]
          unfold mn
          by_cases x1 : τ.1 5 i = b
          · by_cases y1 : τ.1 6 s = τ.1 6 i
            · by_cases z1 : τ.1 8 s < meX (τ.1 7) d s i
              · simp [x1, y1, z1]
              · by_cases w1 : τ.1 8 i < meX (τ.1 7) d s i
                · simp [x1, y1, z1, w1]
                · by_cases v1 : a = -9
                  · simp [x1, y1, z1, w1, v1]
                  · by_cases u1 : a ≤ meX (τ.1 7) d s i <;> simp [x1, y1, z1, w1, v1, u1]
            · have y2 : ¬ τ.1 6 i = τ.1 6 s := fun e => y1 e.symm
              simp [x1, y1, y2]
          · simp [x1]
        · simp only [q, if_true]
          split
          · exact Or.inr (mn_ok hI hX0)
          · exact hI
      · refine ⟨?_, ?_⟩
        · simp only [M_meet_L52, hc, h1, if_pos h2, if_pos g2, h3, g3, nI_1, if_false, q]
        · simp only [q, if_false]; exact hI)
    FU 0 a (Nat.zero_le _) (fu_gt (by omega)) ha
  have k1 := key.1
  have k1' : M_meet_L52 x b d (nI s) τ K FU a 0 = K (itr (fun t a => if τ.1 5 s = x then (if meV (τ.1 5) (τ.1 6) (τ.1 7) (τ.1 8) b d s t = true then mn a (meX (τ.1 7) d s t) else a) else a) (c - 0) 0 a) (nI (s + 1)) := k1
  rw [k1', Nat.sub_zero]
  by_cases q : τ.1 5 s = x
  · rw [if_pos q]
    unfold meI
    congr 1
    apply itr_congr
    intro i a
    rw [if_pos q]
  · rw [if_neg q]
    congr 1
    exact itr_skip (fun i a => by rw [if_neg q]) _ _ _
theorem me_pos {fr : Nat → Int32} (hfr : ir fr 0 9999) (d : Int32) (s t : Nat) : 0 ≤ (meX fr d s t).toInt := by
  unfold meX
  rw [maI_t, maI_t]
  have h1 := hfr s
  have h2 := hfr t
  split <;> split <;> omega
theorem me_skip {c : Nat} {wo wa fr to : Nat → Int32} {b d : Int32} {s : Nat} (h : (to s).toInt < d.toInt) (a : Int32) : meI c wo wa fr to b d s a = a := by
  unfold meI
  have hv : ∀ t, meV wo wa fr to b d s t = false := by
    intro t
    unfold meV
    have : to s < maI (maI d (fr s)) (fr t) := by
      rw [n_lt, maI_t, maI_t]
      split <;> split <;> omega
    simp [this]
  exact itr_skip (fun i a => by rw [hv]; rfl) _ _ _
theorem me_ok {c : Nat} {wo wa fr to : Nat → Int32} (hfr : ir fr 0 9999) {b d : Int32} {s : Nat} {a : Int32} (ha : okm a) : okm (meI c wo wa fr to b d s a) ∧ meI c wo wa fr to b d s a = cmb a (meI c wo wa fr to b d s (-9)) := itr_mn (V := meV wo wa fr to b d s) (X := meX fr d s) (fun t _ => me_pos hfr d s t) c 0 a ha
theorem s_together {σ : St} {c : Nat} (hc : σ.1 6 4 = nI c) (h : c ≤ 40) (hfr : ir (σ.1 9) 0 9999) (x b d : Int32) : Spans_firstTogether_stays x b d σ = some (meO c (σ.1 7) (σ.1 8) (σ.1 9) (σ.1 10) x b d) := by
  have key := lp_up (F := fun n i a => Spans_firstTogether_stays_L7 x b d σ n a i) (c := c) (K := some) (g := fun s a => if σ.1 7 s = x then meI c (σ.1 7) (σ.1 8) (σ.1 9) (σ.1 10) b d s a else a) (fun _ a => okm a)
    (fun n a _ => by simp only [Spans_firstTogether_stays_L7, hc, n_cmpE, if_true])
    (fun n i a hi hI => by
      have h1 := n_cmp hi (by omega)
      have h2 : inb (nI i) 40 := n_inb (by omega) (by decide)
      have h3 := n_tn (k := i) (by omega)
      have b1 := s_beside hc h (s := i) (by omega) b d
      obtain ⟨k1, k2⟩ := me_ok (c := c) (wo := σ.1 7) (wa := σ.1 8) (to := σ.1 10) hfr (b := b) (d := d) (s := i) hI
      refine ⟨?_, ?_⟩
      · simp only [Spans_firstTogether_stays_L7, hc, h1, if_pos h2, h3, nI_1, if_false, b1, Option.bind_some]
        by_cases q : σ.1 7 i = x
        · by_cases w : d ≤ σ.1 10 i
          · simp only [q, w, if_true]
            rw [k2]
            unfold cmb mn
            by_cases r : meI c (σ.1 7) (σ.1 8) (σ.1 9) (σ.1 10) b d i (-9) = -9
            · simp only [r, if_true]
            · by_cases v : a = -9
              · simp only [r, v, if_true, if_false]
              · simp only [r, v, if_false]
                split <;> rfl
          · have w2 : (σ.1 10 i).toInt < d.toInt := by rw [n_le] at w; omega
            simp only [q, w, if_true, if_false]
            rw [me_skip w2]
        · simp only [q, if_false]
      · by_cases q : σ.1 7 i = x
        · simp only [q, if_true]; exact k1
        · simp only [q, if_false]; exact hI)
    FU 0 (-9) (Nat.zero_le _) (fu_gt (by omega)) (Or.inl rfl)
  exact key.1
theorem m_meetO {τ : St} {c : Nat} (hc : τ.1 0 8 = nI c) (h : c ≤ 40) (hfr : ir (τ.1 7) 0 9999) (x b d : Int32) : M_meet_L40 x b d τ FU (-9) 0 = some (meO c (τ.1 5) (τ.1 6) (τ.1 7) (τ.1 8) x b d) := by
  have key := lp_up (F := fun n i a => M_meet_L40 x b d τ n a i) (c := c) (K := some) (g := fun s a => if τ.1 5 s = x then meI c (τ.1 5) (τ.1 6) (τ.1 7) (τ.1 8) b d s a else a) (fun _ a => okm a)
    (fun n a _ => by simp only [M_meet_L40, hc, n_cmpE, if_true])
    (fun n i a hi hI => by
      have h1 := n_cmp hi (by omega)
      refine ⟨?_, ?_⟩
      · rw [M_meet_L40, hc, if_neg h1]
        exact m_meetI hc h (by omega) x b d (fun y4 y5 => M_meet_L40 x b d τ n y4 y5) a hI (fun t => me_pos hfr d i t)
      · by_cases q : τ.1 5 i = x
        · simp only [q, if_true]; exact (me_ok hfr hI).1
        · simp only [q, if_false]; exact hI)
    FU 0 (-9) (Nat.zero_le _) (fu_gt (by omega)) (Or.inl rfl)
  exact key.1
set_option maxHeartbeats 2000000 in
theorem op_meet {n : Nat} {σ τ : St} (h : Rel0 n σ τ) (x1 x2 x3 : Int32) : ∃ r : Int32, P_meet x1 x2 x3 σ = some r ∧ M_meet x1 x2 x3 τ = some r := by
  obtain ⟨hA, hB, hC, hD, hE, hS, hF, hG, hH, hI, hJ, hK, hL, hM⟩ := id h
  obtain ⟨⟨eA1, eA2, eA3, eA4, eA5, eA6, eA7⟩, ⟨cA1, cA2, cA3⟩, iA1, iA2, iA3, iA4⟩ := id hA
  obtain ⟨⟨eB1, eB2, eB3, eB4, eB5⟩, cB, iB1, iB2, iB3, iB4, iB5, dB1, dB2, dB3⟩ := id hB
  obtain ⟨kB, hkB, ekB⟩ := id cB
  have a1 := s_together ekB hkB iB3 x1 x2 x3
  have a2 := m_meetO (τ := τ) (eB1 ▸ ekB) hkB (by rw [← eB4]; exact iB3) x1 x2 x3
  rw [← eB2, ← eB3, ← eB4, ← eB5] at a2
  simp only [P_meet, M_meet, g_below, g_hasBand, g_noBand, g_isDay, ← eA2, a1, a2, Option.bind_some, Bool.not_true, Bool.not_false, Bool.false_eq_true, if_true, if_false, eq_self, not_true, not_false_iff, sub_add]
  cases hx : bw x1 (σ.1 1 5)
  · simp only [Option.bind_some, Bool.not_true, Bool.not_false, Bool.false_eq_true, if_true, if_false, eq_self, not_true, not_false_iff, sub_add]; exact ⟨_, rfl, rfl⟩
  · cases hy : bw x2 (σ.1 1 5)
    · simp only [Option.bind_some, Bool.not_true, Bool.not_false, Bool.false_eq_true, if_true, if_false, eq_self, not_true, not_false_iff, sub_add]; exact ⟨_, rfl, rfl⟩
    · cases hz : bw x3 10000
      · simp only [Option.bind_some, Bool.not_true, Bool.not_false, Bool.false_eq_true, if_true, if_false, eq_self, not_true, not_false_iff, sub_add]; exact ⟨_, rfl, rfl⟩
      · by_cases q : x1 = x2
        · simp only [q, Option.bind_some, Bool.not_true, Bool.not_false, Bool.false_eq_true, if_true, if_false, eq_self, not_true, not_false_iff, sub_add]; exact ⟨_, rfl, rfl⟩
        · simp only [q, Option.bind_some, Bool.not_true, Bool.not_false, Bool.false_eq_true, if_true, if_false, eq_self, not_true, not_false_iff, sub_add]; exact ⟨_, rfl, rfl⟩
