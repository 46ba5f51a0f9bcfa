/-! rings, the model -/
theorem m_may {σ : St} {w : Row} (h1 : 0 < w.length) (hl : w.length ≤ 3) (h10 : ∀ j, at_ w j < 10) (hr : ∀ j, j < w.length → σ.1 45 j = nI (at_ w j)) {d : Nat} (hd : d < 10) : ∃ b : Bool, M_mayFollow (nI d) (nI w.length) σ = some b ∧ (b = true ↔ at_ w 0 < d ∧ ¬ (σ.1 42 (10 * at_ w (w.length - 1) + d)).toInt ≤ 0 ∧ ∀ j, j < w.length → at_ w j ≠ d) := by
  have key : ∀ m i (x : Int32), (x = 0 ∨ x = 1) → i ≤ w.length → w.length - i < m → ∃ b : Bool, M_mayFollow_L40 (nI d) (nI w.length) σ m x (nI i) = some b ∧ (b = true ↔ x = 1 ∧ ∀ j, i ≤ j → j < w.length → at_ w j ≠ d) := by
    intro m
    induction m with
    | zero => intro i x _ _ h; omega
    | succ m ih =>
      intro i x hx hi hm
      rw [M_mayFollow_L40]
      rcases Nat.lt_or_ge i w.length with q | q
      · rw [if_neg (n_cmp q (by omega)), nI_1]
        rcases hx with rfl | rfl
        · rw [if_pos rfl]
          obtain ⟨b, e1, e2⟩ := ih (i + 1) 0 (Or.inl rfl) (by omega) (by omega)
          exact ⟨b, e1, e2.trans ⟨fun z => absurd z.1 (by decide), fun z => absurd z.1 (by decide)⟩⟩
        · rw [if_neg (by decide), if_pos (n_inb (by omega) (by decide)), n_tn (by omega), hr i q]
          have := h10 i
          by_cases e : at_ w i = d
          · rw [if_pos (by rw [e])]
            obtain ⟨b, e1, e2⟩ := ih (i + 1) 0 (Or.inl rfl) (by omega) (by omega)
            exact ⟨b, e1, e2.trans ⟨fun z => absurd z.1 (by decide), fun z => absurd e (z.2 i (by omega) q)⟩⟩
          · rw [if_neg (by rw [nI_inj (by omega) (by omega)]; exact e)]
            obtain ⟨b, e1, e2⟩ := ih (i + 1) 1 (Or.inr rfl) (by omega) (by omega)
            refine ⟨b, e1, e2.trans ⟨fun z => ⟨z.1, fun j j1 j2 => ?_⟩, fun z => ⟨z.1, fun j j1 j2 => z.2 j (by omega) j2⟩⟩⟩
            by_cases ej : j = i
            · subst ej; exact e
            · exact z.2 j (by omega) j2
      · rw [if_pos (by rw [nI_leI (by omega) (by omega)]; omega)]
        rcases hx with rfl | rfl
        · rw [if_pos rfl]
          exact ⟨false, rfl, ⟨fun z => (nomatch z), fun z => absurd z.1 (by decide)⟩⟩
        · rw [if_neg (by decide), if_pos rfl]
          exact ⟨true, rfl, ⟨fun _ => ⟨rfl, fun j j1 j2 => by omega⟩, fun _ => rfl⟩⟩
  have a0 := h10 0
  have al := h10 (w.length - 1)
  unfold M_mayFollow
  rw [if_pos (by decide), show (0 : Int32).toNatClampNeg = 0 by decide, hr 0 h1]
  by_cases q : d ≤ at_ w 0
  · rw [if_pos (by rw [nI_leI (by omega) (by omega)]; exact q)]
    obtain ⟨b, e1, e2⟩ := key FU 0 0 (Or.inl rfl) (by omega) (fu_gt (by omega))
    exact ⟨b, e1, e2.trans ⟨fun z => absurd z.1 (by decide), fun z => by omega⟩⟩
  · rw [if_neg (by rw [nI_leI (by omega) (by omega)]; exact q), nI_m1 h1, if_pos (n_inb (by omega) (by decide)), n_tn (by omega), hr _ (by omega), idx10', if_pos (n_inb (by omega) (by decide)), n_tn (by omega)]
    by_cases p : (σ.1 42 (10 * at_ w (w.length - 1) + d)).toInt ≤ 0
    · rw [if_pos (by rw [n_le, n_0]; exact p)]
      obtain ⟨b, e1, e2⟩ := key FU 0 0 (Or.inl rfl) (by omega) (fu_gt (by omega))
      exact ⟨b, e1, e2.trans ⟨fun z => absurd z.1 (by decide), fun z => absurd p z.2.1⟩⟩
    · rw [if_neg (by rw [n_le, n_0]; exact p)]
      obtain ⟨b, e1, e2⟩ := key FU 0 1 (Or.inr rfl) (by omega) (fu_gt (by omega))
      exact ⟨b, e1, e2.trans ⟨fun z => ⟨by omega, p, fun j hj => z.2 j (by omega) hj⟩, fun z => ⟨rfl, fun j _ hj => z.2.2 j hj⟩⟩⟩
theorem m_closes {σ : St} {w : Row} (h1 : 0 < w.length) (hl : w.length ≤ 4) (h10 : ∀ j, at_ w j < 10) (hr : ∀ j, j < w.length → σ.1 45 j = nI (at_ w j)) : M_closes (nI w.length) σ = some (decide (¬ (σ.1 42 (10 * at_ w (w.length - 1) + at_ w 0)).toInt ≤ 0)) := by
  have := h10 0
  have := h10 (w.length - 1)
  unfold M_closes
  rw [nI_m1 h1, if_pos (n_inb (by omega) (by decide)), if_pos (by decide), n_tn (by omega), show (0 : Int32).toNatClampNeg = 0 by decide, hr _ (by omega), hr 0 h1, idx10', if_pos (n_inb (by omega) (by decide)), n_tn (by omega)]
  simp only [n_le, n_0]
  by_cases q : (σ.1 42 (10 * at_ w (w.length - 1) + at_ w 0)).toInt ≤ 0
  · rw [if_pos q, decide_eq_false (fun z => z q)]
  · rw [if_neg q, decide_eq_true q]
def Fdr (τ : St) (l : List Row) (r : Option (Bool × St)) : Prop := ∃ (pre : List Row) (w : Row) (rest : List Row) (ρ : Nat → Int32), l = pre ++ w :: rest ∧ (∀ v, v ∈ pre → dead (τ.1 42) v) ∧ ¬ dead (τ.1 42) w ∧ (∀ j, j < w.length → ρ j = nI (at_ w j)) ∧ r = some (true, wI (wA τ 45 ρ) 0 56 (nI w.length))
theorem Fdr_l {τ : St} {l l2 : List Row} {r : Option (Bool × St)} (h : Fdr τ l r) : Fdr τ (l ++ l2) r := by
  obtain ⟨pre, w, rest, ρ, e, h1, h2, h3, h4⟩ := h
  refine ⟨pre, w, rest ++ l2, ρ, ?_, h1, h2, h3, h4⟩
  rw [e]; simp
theorem Fdr_r {τ : St} {l l2 : List Row} {r : Option (Bool × St)} (hd : ∀ v, v ∈ l → dead (τ.1 42) v) (h : Fdr τ l2 r) : Fdr τ (l ++ l2) r := by
  obtain ⟨pre, w, rest, ρ, e, h1, h2, h3, h4⟩ := h
  refine ⟨l ++ pre, w, rest, ρ, ?_, fun v hv => ?_, h2, h3, h4⟩
  · rw [e]; simp
  · rcases List.mem_append.mp hv with z | z
    · exact hd v z
    · exact h1 v z
theorem Fdr_c {τ : St} {w : Row} {l : List Row} {r : Option (Bool × St)} (hd : dead (τ.1 42) w) (h : Fdr τ l r) : Fdr τ (w :: l) r :=
  Fdr_r (l := [w]) (fun v hv => by simp at hv; subst hv; exact hd) h
theorem dd_c {ow : Nat → Int32} {w : Row} {l : List Row} (hd : dead ow w) (h : ∀ v, v ∈ l → dead ow v) : ∀ v, v ∈ w :: l → dead ow v := by
  intro v hv
  rcases List.mem_cons.mp hv with rfl | z
  · exact hd
  · exact h v z
theorem dd_a {ow : Nat → Int32} {l l2 : List Row} (hd : ∀ v, v ∈ l → dead ow v) (h : ∀ v, v ∈ l2 → dead ow v) : ∀ v, v ∈ l ++ l2 → dead ow v := by
  intro v hv
  rcases List.mem_append.mp hv with z | z
  · exact hd v z
  · exact h v z
theorem liv2 {ow : Nat → Int32} {a b : Nat} (h1 : ¬ (ow (10 * a + b)).toInt ≤ 0) (h2 : ¬ (ow (10 * b + a)).toInt ≤ 0) : ¬ dead ow [a, b] := by
  rintro ⟨k, hk, e⟩
  simp at hk
  rcases (show k = 0 ∨ k = 1 by omega) with z | z
  · subst z; exact h1 e
  · subst z; exact h2 e
theorem liv3 {ow : Nat → Int32} {a b c : Nat} (h1 : ¬ (ow (10 * a + b)).toInt ≤ 0) (h2 : ¬ (ow (10 * b + c)).toInt ≤ 0) (h3 : ¬ (ow (10 * c + a)).toInt ≤ 0) : ¬ dead ow [a, b, c] := by
  rintro ⟨k, hk, e⟩
  simp at hk
  rcases (show k = 0 ∨ k = 1 ∨ k = 2 by omega) with z | z | z
  · subst z; exact h1 e
  · subst z; exact h2 e
  · subst z; exact h3 e
theorem liv4 {ow : Nat → Int32} {a b c d : Nat} (h1 : ¬ (ow (10 * a + b)).toInt ≤ 0) (h2 : ¬ (ow (10 * b + c)).toInt ≤ 0) (h3 : ¬ (ow (10 * c + d)).toInt ≤ 0) (h4 : ¬ (ow (10 * d + a)).toInt ≤ 0) : ¬ dead ow [a, b, c, d] := by
  rintro ⟨k, hk, e⟩
  simp at hk
  rcases (show k = 0 ∨ k = 1 ∨ k = 2 ∨ k = 3 by omega) with z | z | z | z
  · subst z; exact h1 e
  · subst z; exact h2 e
  · subst z; exact h3 e
  · subst z; exact h4 e
theorem at_lt (w : Row) (h : ∀ x, x ∈ w → x < 10) (j : Nat) : at_ w j < 10 := by
  unfold at_
  rw [List.getD_eq_getElem?_getD]
  by_cases q : j < w.length
  · rw [List.getElem?_eq_getElem q]; exact h _ (List.getElem_mem q)
  · rw [List.getElem?_eq_none (by omega)]; decide
theorem w45 (τ : St) (ρ : Nat → Int32) (i : Nat) (v : Int32) : wI (wA τ 45 ρ) 45 i v = wA τ 45 (upd ρ i v) := wI_wA _ _ _ _ _
theorem a45 (τ : St) (ρ : Nat → Int32) : (wA τ 45 ρ).1 45 = ρ ∧ (wA τ 45 ρ).1 42 = τ.1 42 := ⟨rfl, rfl⟩
theorem m_3 {τ : St} {a b c : Nat} (ha : a < 10) (hb : b < 10) (hc : c < 10) (l1 : ¬ (τ.1 42 (10 * a + b)).toInt ≤ 0) (l2 : ¬ (τ.1 42 (10 * b + c)).toInt ≤ 0) (x1 : Int32) (k2 : Int32 → St → Option (Bool × St)) :
    ∀ k d m (ρ : Nat → Int32), d + k = 10 → k < m → ρ 0 = nI a → ρ 1 = nI b → ρ 2 = nI c → Fdr τ (R3 a b c k d) (M_findFrom_L41 x1 k2 m (nI d) (wA τ 45 ρ)) ∨ ((∀ v, v ∈ R3 a b c k d → dead (τ.1 42) v) ∧ ∃ ρ' : Nat → Int32, ρ' 0 = nI a ∧ ρ' 1 = nI b ∧ ρ' 2 = nI c ∧ M_findFrom_L41 x1 k2 m (nI d) (wA τ 45 ρ) = k2 (x1 + 1) (wA τ 45 ρ')) := by
  intro k
  induction k with
  | zero =>
    intro d m ρ hd hm r0 r1 r2
    obtain ⟨m, rfl⟩ : ∃ t, m = t + 1 := ⟨m - 1, by omega⟩
    have : d = 10 := by omega
    subst this
    rw [M_findFrom_L41, if_pos (by decide)]
    exact Or.inr ⟨fun v hv => by simp [R3] at hv, ρ, r0, r1, r2, rfl⟩
  | succ k ih =>
    intro d m ρ hd hm r0 r1 r2
    obtain ⟨m, rfl⟩ : ∃ t, m = t + 1 := ⟨m - 1, by omega⟩
    rw [M_findFrom_L41, if_neg (by rw [n_le, n_ti (by omega), k_10]; omega), nI_1]
    have h10 : ∀ j, at_ [a, b, c] j < 10 := at_lt _ (by simp; omega)
    have hr : ∀ j, j < [a, b, c].length → (wA τ 45 ρ).1 45 j = nI (at_ [a, b, c] j) := by
      intro j hj
      simp at hj
      rcases (show j = 0 ∨ j = 1 ∨ j = 2 by omega) with z | z | z
      · subst z; exact r0
      · subst z; exact r1
      · subst z; exact r2
    obtain ⟨bb, e1, e2⟩ := m_may (σ := wA τ 45 ρ) (w := [a, b, c]) (by simp) (by simp) h10 hr (d := d) (by omega)
    have e1' : M_mayFollow (nI d) 3 (wA τ 45 ρ) = some bb := e1
    have e2' : bb = true ↔ a < d ∧ ¬ (τ.1 42 (10 * c + d)).toInt ≤ 0 ∧ ∀ j, j < 3 → at_ [a, b, c] j ≠ d := e2
    rw [e1', Option.bind_some]
    simp only [R3]
    by_cases hbb : bb = true
    · obtain ⟨q1, q2, q3⟩ := e2'.mp hbb
      have n1 : d ≠ b := fun z => q3 1 (by omega) z.symm
      have n2 : d ≠ c := fun z => q3 2 (by omega) z.symm
      rw [if_pos hbb, if_pos (show inb (3 : Int32) 4 by decide), show (3 : Int32).toNatClampNeg = 3 by decide, w45, if_pos (show a < d ∧ d ≠ b ∧ d ≠ c from ⟨q1, n1, n2⟩)]
      have h10' : ∀ j, at_ [a, b, c, d] j < 10 := at_lt _ (by simp; omega)
      have hr' : ∀ j, j < [a, b, c, d].length → upd ρ 3 (nI d) j = nI (at_ [a, b, c, d] j) := by
        intro j hj
        simp at hj
        rcases (show j = 0 ∨ j = 1 ∨ j = 2 ∨ j = 3 by omega) with z | z | z | z
        · subst z; exact r0
        · subst z; exact r1
        · subst z; exact r2
        · subst z; rfl
      have e3 : M_closes 4 (wA τ 45 (upd ρ 3 (nI d))) = some (decide (¬ (τ.1 42 (10 * d + a)).toInt ≤ 0)) := m_closes (σ := wA τ 45 (upd ρ 3 (nI d))) (w := [a, b, c, d]) (by simp) (by simp) h10' hr'
      rw [e3, Option.bind_some]
      by_cases p : (τ.1 42 (10 * d + a)).toInt ≤ 0
      · rw [if_neg (by rw [decide_eq_false (fun z => z p)]; exact fun z => nomatch z)]
        have dd : dead (τ.1 42) [a, b, c, d] := ⟨3, by simp, p⟩
        rcases ih (d + 1) m (upd ρ 3 (nI d)) (by omega) (by omega) r0 r1 r2 with z | ⟨z1, z2⟩
        · exact Or.inl (Fdr_c dd z)
        · exact Or.inr ⟨dd_c dd z1, z2⟩
      · rw [if_pos (decide_eq_true p)]
        exact Or.inl ⟨[], [a, b, c, d], R3 a b c k (d + 1), upd ρ 3 (nI d), rfl, fun v hv => (nomatch hv), liv4 l1 l2 q2 p, hr', rfl⟩
    · rw [if_neg hbb]
      have dd : ∀ v, v ∈ (if a < d ∧ d ≠ b ∧ d ≠ c then [[a, b, c, d]] else []) → dead (τ.1 42) v := by
        intro v hv
        split at hv
        · rename_i q
          simp at hv
          subst hv
          refine ⟨2, by simp, ?_⟩
          apply Classical.byContradiction
          intro z
          apply hbb
          refine e2'.mpr ⟨q.1, z, fun j hj => ?_⟩
          rcases (show j = 0 ∨ j = 1 ∨ j = 2 by omega) with y | y | y
          · subst y; show a ≠ d; omega
          · subst y; exact fun y => q.2.1 y.symm
          · subst y; exact fun y => q.2.2 y.symm
        · simp at hv
      rcases ih (d + 1) m ρ (by omega) (by omega) r0 r1 r2 with z | ⟨z1, z2⟩
      · exact Or.inl (Fdr_r dd z)
      · exact Or.inr ⟨dd_a dd z1, z2⟩
theorem m_2 {τ : St} {a b : Nat} (ha : a < 10) (hb : b < 10) (l1 : ¬ (τ.1 42 (10 * a + b)).toInt ≤ 0) :
    ∀ k c m (ρ : Nat → Int32), c + k = 10 → k < m → ρ 0 = nI a → ρ 1 = nI b → Fdr τ (R2 a b k c) (M_findFrom_L2 m (nI c) (wA τ 45 ρ)) ∨ ((∀ v, v ∈ R2 a b k c → dead (τ.1 42) v) ∧ ∃ ρ' : Nat → Int32, ρ' 0 = nI a ∧ ρ' 1 = nI b ∧ M_findFrom_L2 m (nI c) (wA τ 45 ρ) = some (false, wA τ 45 ρ')) := by
  intro k
  induction k with
  | zero =>
    intro c m ρ hd hm r0 r1
    obtain ⟨m, rfl⟩ : ∃ t, m = t + 1 := ⟨m - 1, by omega⟩
    have : c = 10 := by omega
    subst this
    rw [M_findFrom_L2, if_pos (by decide)]
    exact Or.inr ⟨fun v hv => by simp [R2] at hv, ρ, r0, r1, rfl⟩
  | succ k ih =>
    intro c m ρ hd hm r0 r1
    obtain ⟨m, rfl⟩ : ∃ t, m = t + 1 := ⟨m - 1, by omega⟩
    rw [M_findFrom_L2, if_neg (by rw [n_le, n_ti (by omega), k_10]; omega), nI_1]
    have h10 : ∀ j, at_ [a, b] j < 10 := at_lt _ (by simp; omega)
    have hr : ∀ j, j < [a, b].length → (wA τ 45 ρ).1 45 j = nI (at_ [a, b] j) := by
      intro j hj
      simp at hj
      rcases (show j = 0 ∨ j = 1 by omega) with z | z
      · subst z; exact r0
      · subst z; exact r1
    obtain ⟨bb, e1, e2⟩ := m_may (σ := wA τ 45 ρ) (w := [a, b]) (by simp) (by simp) h10 hr (d := c) (by omega)
    have e1' : M_mayFollow (nI c) 2 (wA τ 45 ρ) = some bb := e1
    have e2' : bb = true ↔ a < c ∧ ¬ (τ.1 42 (10 * b + c)).toInt ≤ 0 ∧ ∀ j, j < 2 → at_ [a, b] j ≠ c := e2
    rw [e1', Option.bind_some]
    simp only [R2]
    by_cases hbb : bb = true
    · obtain ⟨q1, q2, q3⟩ := e2'.mp hbb
      have n1 : c ≠ b := fun z => q3 1 (by omega) z.symm
      rw [if_pos hbb, if_pos (show inb (2 : Int32) 4 by decide), show (2 : Int32).toNatClampNeg = 2 by decide, w45, if_pos (show a < c ∧ c ≠ b from ⟨q1, n1⟩)]
      have h10' : ∀ j, at_ [a, b, c] j < 10 := at_lt _ (by simp; omega)
      have hr' : ∀ j, j < [a, b, c].length → upd ρ 2 (nI c) j = nI (at_ [a, b, c] j) := by
        intro j hj
        simp at hj
        rcases (show j = 0 ∨ j = 1 ∨ j = 2 by omega) with z | z | z
        · subst z; exact r0
        · subst z; exact r1
        · subst z; rfl
      have e3 : M_closes 3 (wA τ 45 (upd ρ 2 (nI c))) = some (decide (¬ (τ.1 42 (10 * c + a)).toInt ≤ 0)) := m_closes (σ := wA τ 45 (upd ρ 2 (nI c))) (w := [a, b, c]) (by simp) (by simp) h10' hr'
      rw [e3, Option.bind_some]
      by_cases p : (τ.1 42 (10 * c + a)).toInt ≤ 0
      · rw [if_neg (by rw [decide_eq_false (fun z => z p)]; exact fun z => nomatch z)]
        have dd : dead (τ.1 42) [a, b, c] := ⟨2, by simp, p⟩
        rcases m_3 (τ := τ) ha hb (show c < 10 by omega) l1 q2 (nI c) (fun y1 τ => M_findFrom_L2 m y1 τ) 10 0 FU (upd ρ 2 (nI c)) (by omega) (fu_gt (by omega)) r0 r1 rfl with z | ⟨z1, ρ', y0, y1, y2, y3⟩
        · exact Or.inl (Fdr_l (Fdr_c dd z))
        · have y3' : M_findFrom_L41 (nI c) (fun y1 τ => M_findFrom_L2 m y1 τ) FU 0 (wA τ 45 (upd ρ 2 (nI c))) = M_findFrom_L2 m (nI (c + 1)) (wA τ 45 ρ') := by rw [← nI_1]; exact y3
          rw [y3']
          rcases ih (c + 1) m ρ' (by omega) (by omega) y0 y1 with z | ⟨z2, z3⟩
          · exact Or.inl (Fdr_r (dd_c dd z1) z)
          · exact Or.inr ⟨dd_a (dd_c dd z1) z2, z3⟩
      · rw [if_pos (decide_eq_true p)]
        exact Or.inl (Fdr_l ⟨[], [a, b, c], _, upd ρ 2 (nI c), rfl, fun v hv => (nomatch hv), liv3 l1 q2 p, hr', rfl⟩)
    · rw [if_neg hbb]
      have dd : ∀ v, v ∈ (if a < c ∧ c ≠ b then [a, b, c] :: R3 a b c 10 0 else []) → dead (τ.1 42) v := by
        intro v hv
        split at hv
        · rename_i q
          have lk : (τ.1 42 (10 * b + c)).toInt ≤ 0 := by
            apply Classical.byContradiction
            intro z
            apply hbb
            refine e2'.mpr ⟨q.1, z, fun j hj => ?_⟩
            rcases (show j = 0 ∨ j = 1 by omega) with y | y
            · subst y; show a ≠ c; omega
            · subst y; exact fun y => q.2 y.symm
          exact dd_c (ow := τ.1 42) (w := [a, b, c]) (l := R3 a b c 10 0) ⟨1, by simp, lk⟩ (R3_dead (a := a) (b := b) (c := c) (k := 10) (d := 0) lk) v hv
        · simp at hv
      rcases ih (c + 1) m ρ (by omega) (by omega) r0 r1 with z | ⟨z1, z2⟩
      · exact Or.inl (Fdr_r dd z)
      · exact Or.inr ⟨dd_a dd z1, z2⟩
theorem m_1 {τ : St} {a : Nat} (ha : a < 10) (x1 : Int32) (k2 : Int32 → St → Option (Bool × St)) :
    ∀ k b m (ρ : Nat → Int32), b + k = 10 → k < m → ρ 0 = nI a → Fdr τ (R1 a k b) (M_findRing_L19 x1 k2 m (nI b) (wA τ 45 ρ)) ∨ ((∀ v, v ∈ R1 a k b → dead (τ.1 42) v) ∧ ∃ ρ' : Nat → Int32, M_findRing_L19 x1 k2 m (nI b) (wA τ 45 ρ) = k2 (x1 + 1) (wA τ 45 ρ')) := by
  intro k
  induction k with
  | zero =>
    intro b m ρ hd hm r0
    obtain ⟨m, rfl⟩ : ∃ t, m = t + 1 := ⟨m - 1, by omega⟩
    have : b = 10 := by omega
    subst this
    rw [M_findRing_L19, if_pos (by decide)]
    exact Or.inr ⟨fun v hv => by simp [R1] at hv, ρ, rfl⟩
  | succ k ih =>
    intro b m ρ hd hm r0
    obtain ⟨m, rfl⟩ : ∃ t, m = t + 1 := ⟨m - 1, by omega⟩
    rw [M_findRing_L19, if_neg (by rw [n_le, n_ti (by omega), k_10]; omega), nI_1]
    have h10 : ∀ j, at_ [a] j < 10 := at_lt _ (by simp; omega)
    have hr : ∀ j, j < [a].length → (wA τ 45 ρ).1 45 j = nI (at_ [a] j) := by
      intro j hj
      simp at hj
      subst hj; exact r0
    obtain ⟨bb, e1, e2⟩ := m_may (σ := wA τ 45 ρ) (w := [a]) (by simp) (by simp) h10 hr (d := b) (by omega)
    have e1' : M_mayFollow (nI b) 1 (wA τ 45 ρ) = some bb := e1
    have e2' : bb = true ↔ a < b ∧ ¬ (τ.1 42 (10 * a + b)).toInt ≤ 0 ∧ ∀ j, j < 1 → at_ [a] j ≠ b := e2
    rw [e1', Option.bind_some]
    simp only [R1]
    by_cases hbb : bb = true
    · obtain ⟨q1, q2, q3⟩ := e2'.mp hbb
      rw [if_pos hbb, if_pos (show inb (1 : Int32) 4 by decide), show (1 : Int32).toNatClampNeg = 1 by decide, w45, if_pos q1]
      have h10' : ∀ j, at_ [a, b] j < 10 := at_lt _ (by simp; omega)
      have hr' : ∀ j, j < [a, b].length → upd ρ 1 (nI b) j = nI (at_ [a, b] j) := by
        intro j hj
        simp at hj
        rcases (show j = 0 ∨ j = 1 by omega) with z | z
        · subst z; exact r0
        · subst z; rfl
      have e3 : M_closes 2 (wA τ 45 (upd ρ 1 (nI b))) = some (decide (¬ (τ.1 42 (10 * b + a)).toInt ≤ 0)) := m_closes (σ := wA τ 45 (upd ρ 1 (nI b))) (w := [a, b]) (by simp) (by simp) h10' hr'
      rw [e3, Option.bind_some]
      by_cases p : (τ.1 42 (10 * b + a)).toInt ≤ 0
      · rw [if_neg (by rw [decide_eq_false (fun z => z p)]; exact fun z => nomatch z)]
        have dd : dead (τ.1 42) [a, b] := ⟨1, by simp, p⟩
        have key := m_2 (τ := τ) ha (show b < 10 by omega) q2 10 0 FU (upd ρ 1 (nI b)) (by omega) (fu_gt (by omega)) r0 rfl
        have ef : M_findFrom (wA τ 45 (upd ρ 1 (nI b))) = M_findFrom_L2 FU (nI 0) (wA τ 45 (upd ρ 1 (nI b))) := rfl
        rw [ef]
        rcases key with ⟨pre, w, rest, ρ', y1, y2, y3, y4, y5⟩ | ⟨z1, ρ', y0, y1, y2⟩
        · rw [y5, Option.bind_some, if_pos rfl]
          exact Or.inl (Fdr_l (Fdr_c dd ⟨pre, w, rest, ρ', y1, y2, y3, y4, rfl⟩))
        · rw [y2, Option.bind_some, if_neg (by exact fun z => nomatch z)]
          rcases ih (b + 1) m ρ' (by omega) (by omega) y0 with z | ⟨z2, z3⟩
          · exact Or.inl (Fdr_r (dd_c dd z1) z)
          · exact Or.inr ⟨dd_a (dd_c dd z1) z2, z3⟩
      · rw [if_pos (decide_eq_true p)]
        exact Or.inl (Fdr_l ⟨[], [a, b], _, upd ρ 1 (nI b), rfl, fun v hv => (nomatch hv), liv2 q2 p, hr', rfl⟩)
    · rw [if_neg hbb]
      have dd : ∀ v, v ∈ (if a < b then [a, b] :: R2 a b 10 0 else []) → dead (τ.1 42) v := by
        intro v hv
        split at hv
        · rename_i q
          have lk : (τ.1 42 (10 * a + b)).toInt ≤ 0 := by
            apply Classical.byContradiction
            intro z
            apply hbb
            refine e2'.mpr ⟨q, z, fun j hj => ?_⟩
            have y : j = 0 := by omega
            subst y; show a ≠ b; omega
          exact dd_c (ow := τ.1 42) (w := [a, b]) (l := R2 a b 10 0) ⟨0, by simp, lk⟩ (R2_dead (a := a) (b := b) (k := 10) (c := 0) lk) v hv
        · simp at hv
      rcases ih (b + 1) m ρ (by omega) (by omega) r0 with z | ⟨z1, z2⟩
      · exact Or.inl (Fdr_r dd z)
      · exact Or.inr ⟨dd_a dd z1, z2⟩
theorem m_0 {τ : St} : ∀ k a m (ρ : Nat → Int32), a + k = 10 → k < m → Fdr τ (R0 k a) (M_findRing_L2 m (nI a) (wA τ 45 ρ)) ∨ ((∀ v, v ∈ R0 k a → dead (τ.1 42) v) ∧ ∃ ρ' : Nat → Int32, M_findRing_L2 m (nI a) (wA τ 45 ρ) = some (false, wA τ 45 ρ')) := by
  intro k
  induction k with
  | zero =>
    intro a m ρ hd hm
    obtain ⟨m, rfl⟩ : ∃ t, m = t + 1 := ⟨m - 1, by omega⟩
    have : a = 10 := by omega
    subst this
    rw [M_findRing_L2, if_pos (by decide)]
    exact Or.inr ⟨fun v hv => by simp [R0] at hv, ρ, rfl⟩
  | succ k ih =>
    intro a m ρ hd hm
    obtain ⟨m, rfl⟩ : ∃ t, m = t + 1 := ⟨m - 1, by omega⟩
    rw [M_findRing_L2, if_neg (by rw [n_le, n_ti (by omega), k_10]; omega), if_pos (by decide), show (0 : Int32).toNatClampNeg = 0 by decide, w45, nI_1]
    simp only [R0]
    rw [R1_10 (show a < 10 by omega)]
    rcases m_1 (τ := τ) (show a < 10 by omega) (nI a) (fun y1 τ => M_findRing_L2 m y1 τ) (10 - (a + 1)) (a + 1) FU (upd ρ 0 (nI a)) (by omega) (fu_gt (by omega)) rfl with z | ⟨z1, ρ', y⟩
    · exact Or.inl (Fdr_l z)
    · have y' : M_findRing_L19 (nI a) (fun y1 τ => M_findRing_L2 m y1 τ) FU (nI (a + 1)) (wA τ 45 (upd ρ 0 (nI a))) = M_findRing_L2 m (nI (a + 1)) (wA τ 45 ρ') := by
        rw [y, nI_1]
      rw [y']
      rcases ih (a + 1) m ρ' (by omega) (by omega) with z | ⟨z2, z3⟩
      · exact Or.inl (Fdr_r z1 z)
      · exact Or.inr ⟨dd_a z1 z2, z3⟩
theorem m_find (τ : St) : Fdr τ (R0 10 0) (M_findRing τ) ∨ ((∀ v, v ∈ R0 10 0 → dead (τ.1 42) v) ∧ ∃ ρ' : Nat → Int32, M_findRing τ = some (false, wA τ 45 ρ')) := by
  have h := m_0 (τ := τ) 10 0 FU (τ.1 45) (by omega) (fu_gt (by omega))
  rw [wA_id] at h
  exact h
theorem mdl : ∀ l : Fin 5, ∀ i : Fin 4, 2 ≤ l.val → i.val < l.val → nI (i.val + 1) - nI (i.val + 1) / nI l.val * nI l.val = nI (if i.val + 1 < l.val then i.val + 1 else 0) ∧ ¬ nI l.val = 0 := by decide
theorem m_lk {σ : St} {w : Row} (g : good w) (hr : ∀ j, j < w.length → σ.1 45 j = nI (at_ w j)) {i : Nat} (hi : i < w.length) : inb (nI (if i + 1 < w.length then i + 1 else 0)) 4 ∧ (10 : Int32) * σ.1 45 i + σ.1 45 (Int32.toNatClampNeg (nI (if i + 1 < w.length then i + 1 else 0))) = nI (lkw w i) := by
  have g2 := g.2.1
  have hb : (if i + 1 < w.length then i + 1 else 0) < w.length := by split <;> omega
  refine ⟨n_inb (by omega) (by decide), ?_⟩
  rw [n_tn (by omega), hr i hi, hr _ hb, idx10']
  unfold lkw
  split <;> rfl
theorem m_mn {ow : Nat → Int32} {w : Row} (g : good w) (h : nn ow) : itr (fun k a => liI a (ow (lkw w k))) w.length 0 100000 = mnw ow w := by
  have key : ∀ k i a, (itr (fun k a => liI a (ow (lkw w k))) k i a).toInt ≤ Int32.toInt a ∧ (∀ j, i ≤ j → j < i + k → (itr (fun k a => liI a (ow (lkw w k))) k i a).toInt ≤ (ow (lkw w j)).toInt) ∧ (itr (fun k a => liI a (ow (lkw w k))) k i a = a ∨ ∃ j, i ≤ j ∧ j < i + k ∧ itr (fun k a => liI a (ow (lkw w k))) k i a = ow (lkw w j)) := by
    intro k
    induction k with
    | zero => intro i a; simp only [itr]; exact ⟨Int.le_refl _, fun j h1 h2 => by omega, Or.inl trivial⟩
    | succ k ih =>
      intro i a
      obtain ⟨h1, h2, h3⟩ := ih (i + 1) (liI a (ow (lkw w i)))
      have t := liI_t a (ow (lkw w i))
      simp only [itr]
      refine ⟨?_, fun j j1 j2 => ?_, ?_⟩
      · split at t <;> omega
      · by_cases e : j = i
        · subst e; split at t <;> omega
        · exact h2 j (by omega) (by omega)
      · rcases h3 with h3 | ⟨j, j1, j2, j3⟩
        · rw [h3]
          unfold liI
          by_cases q : ow (lkw w i) ≤ a
          · rw [if_pos q]; exact Or.inr ⟨i, by omega, by omega, rfl⟩
          · rw [if_neg q]; exact Or.inl rfl
        · exact Or.inr ⟨j, by omega, by omega, j3⟩
  obtain ⟨k1, k2, k3⟩ := key w.length 0 100000
  have g1 := g.1
  refine isMin_u (ow := ow) (w := w) ⟨fun k hk => k2 k (by omega) (by omega), ?_⟩ (mnw_min g1)
  rcases k3 with z | ⟨j, j1, j2, j3⟩
  · have a := k2 0 (by omega) (by omega)
    rw [z] at a
    have b := (h (lkw w 0)).2
    have e : (100000 : Int32).toInt = 100000 := by decide
    omega
  · exact ⟨j, by omega, j3⟩
theorem m_r1 {σ : St} {w : Row} (g : good w) (hr : ∀ j, j < w.length → σ.1 45 j = nI (at_ w j)) (hs : σ.1 0 56 = nI w.length) (x1 : Int32) (k2 : Int32 → St → Option (Int32 × St)) (x : Int32) : M_ring_L15 x1 σ k2 FU x 0 = M_ring_L64 x1 (itr (fun k a => liI a (σ.1 42 (lkw w k))) w.length 0 x) k2 FU 0 σ := by
  have g1 := g.1
  have g2 := g.2.1
  exact lp_u0 (F := fun n i a => M_ring_L15 x1 σ k2 n a i) (c := w.length) (K := fun a => M_ring_L64 x1 a k2 FU 0 σ) (g := fun k a => liI a (σ.1 42 (lkw w k)))
    (fun n a => by
      show M_ring_L15 _ _ _ _ _ _ = _
      rw [M_ring_L15, hs, if_pos (n_cmpE _)])
    (fun n i a hi => by
      show M_ring_L15 _ _ _ _ _ _ = M_ring_L15 _ _ _ _ _ _
      obtain ⟨d1, d2⟩ := mdl ⟨w.length, by omega⟩ ⟨i, by omega⟩ g1 hi
      obtain ⟨l1, l2⟩ := m_lk g hr hi
      have lb := lkw_b g i
      rw [M_ring_L15, hs, if_neg (n_cmp hi (by omega)), if_pos (n_inb (by omega) (by decide)), if_neg d2, nI_1]
      simp only [d1]
      rw [if_pos l1, n_tn (k := i) (by omega), l2, if_pos (n_inb lb (by decide)), n_tn (by omega), lesser_eq, Option.bind_some])
    FU x (fu_gt (by omega))
theorem w42 (τ : St) (ρ : Nat → Int32) (i : Nat) (v : Int32) : wI (wA τ 42 ρ) 42 i v = wA τ 42 (upd ρ i v) := wI_wA _ _ _ _ _
theorem m_r2 {σ : St} {w : Row} (g : good w) (hr : ∀ j, j < w.length → σ.1 45 j = nI (at_ w j)) (hs : σ.1 0 56 = nI w.length) (x1 x2 : Int32) (k2 : Int32 → St → Option (Int32 × St)) (ow : Nat → Int32) : M_ring_L64 x1 x2 k2 FU 0 (wA σ 42 ow) = k2 (x1 + x2 * nI w.length) (wA σ 42 (itr (cst w x2) w.length 0 ow)) := by
  have g1 := g.1
  have g2 := g.2.1
  have hs' : ∀ f, (wA σ 42 f).1 0 56 = nI w.length := fun _ => hs
  exact lp_u0 (F := fun n i f => M_ring_L64 x1 x2 k2 n i (wA σ 42 f)) (c := w.length) (K := fun f => k2 (x1 + x2 * nI w.length) (wA σ 42 f)) (g := cst w x2)
    (fun n f => by
      show M_ring_L64 _ _ _ _ _ _ = _
      rw [M_ring_L64, hs', if_pos (n_cmpE _)])
    (fun n i f hi => by
      show M_ring_L64 _ _ _ _ _ _ = M_ring_L64 _ _ _ _ _ _
      obtain ⟨d1, d2⟩ := mdl ⟨w.length, by omega⟩ ⟨i, by omega⟩ g1 hi
      obtain ⟨l1, l2⟩ := m_lk (σ := wA σ 42 f) g hr hi
      have lb := lkw_b g i
      rw [M_ring_L64, hs', if_neg (n_cmp hi (by omega)), if_pos (n_inb (by omega) (by decide)), if_neg d2, nI_1]
      simp only [d1]
      rw [if_pos l1, n_tn (k := i) (by omega), l2, if_pos (n_inb lb (by decide)), if_pos (n_inb lb (by decide)), n_tn (by omega), w42]
      rfl)
    FU ow (fu_gt (by omega))
theorem m_cancel {σ : St} {w : Row} (g : good w) (h : nn (σ.1 42)) (hr : ∀ j, j < w.length → σ.1 45 j = nI (at_ w j)) (hs : σ.1 0 56 = nI w.length) (x1 : Int32) (k2 : Int32 → St → Option (Int32 × St)) : M_ring_L15 x1 σ k2 FU 100000 0 = k2 (x1 + gn (σ.1 42) w) (wA σ 42 (canc (σ.1 42) w)) := by
  rw [m_r1 g hr hs, m_mn g h]
  have e := m_r2 (σ := σ) g hr hs x1 (mnw (σ.1 42) w) k2 (σ.1 42)
  rw [wA_id] at e
  rw [e]
  rfl
theorem m_rings : ∀ (k : Nat) (pre rest : List Row) (m : Nat) (x1 : Int32) (τ : St), R0 10 0 = pre ++ rest → rest.length ≤ k → k < m → (∀ v, v ∈ pre → dead (τ.1 42) v) → nn (τ.1 42) → ∃ τ' : St, M_ring_L2 m x1 τ = some (x1 + (fo rest (τ.1 42, 0)).2, τ') ∧ τ'.1 42 = (fo rest (τ.1 42, 0)).1 ∧ (∀ c, c ≠ 42 → c ≠ 45 → c ≠ 0 → τ'.1 c = τ.1 c) ∧ (∀ i, i ≠ 56 → τ'.1 0 i = τ.1 0 i) ∧ τ'.2 = τ.2 := by
  intro k
  induction k with
  | zero =>
    intro pre rest m x1 τ hp hk hm hd hnn
    obtain ⟨m, rfl⟩ : ∃ t, m = t + 1 := ⟨m - 1, by omega⟩
    have : rest = [] := List.length_eq_zero_iff.mp (by omega)
    subst this
    rw [List.append_nil] at hp
    rcases m_find τ with ⟨pre', w, rest', ρ, y1, y2, y3, y4, y5⟩ | ⟨z, ρ, y⟩
    · exact absurd (hd w (by rw [← hp, y1]; simp)) y3
    · rw [M_ring_L2, y, Option.bind_some, if_neg (by exact fun z => nomatch z), fo_nil]
      refine ⟨wA τ 45 ρ, by simp only [Int32.add_zero], rfl, fun c c1 c2 c3 => ?_, fun i hi => rfl, rfl⟩
      simp [wA, c2]
  | succ k ih =>
    intro pre rest m x1 τ hp hk hm hd hnn
    obtain ⟨m, rfl⟩ : ∃ t, m = t + 1 := ⟨m - 1, by omega⟩
    have gd : ∀ v, v ∈ R0 10 0 → good v := R0_good (by omega)
    rcases m_find τ with ⟨pre', w, rest', ρ, y1, y2, y3, y4, y5⟩ | ⟨z, ρ, y⟩
    · have gw : good w := gd w (by rw [y1]; simp)
      obtain ⟨a', ea1, ea2⟩ : ∃ a', pre' = pre ++ a' ∧ rest = a' ++ w :: rest' := by
        rcases List.append_eq_append_iff.mp (hp.symm.trans y1) with ⟨a', e1, e2⟩ | ⟨c', e1, e2⟩
        · exact ⟨a', e1, e2⟩
        · cases c' with
          | nil => exact ⟨[], by simpa using e1.symm, by simpa using e2.symm⟩
          | cons x c' =>
            injection e2 with e3 e4
            exact absurd (hd w (by rw [e1, e3]; simp)) y3
      have da : ∀ v, v ∈ a' → dead (τ.1 42) v := fun v hv => y2 v (by rw [ea1]; simp [hv])
      have ga : ∀ v, v ∈ a' → good v := fun v hv => gd v (by rw [y1, ea1]; simp [hv])
      rw [M_ring_L2, y5, Option.bind_some, if_pos rfl]
      have ec := m_cancel (σ := wI (wA τ 45 ρ) 0 56 (nI w.length)) gw hnn y4 rfl x1 (fun y1 τ => M_ring_L2 m y1 τ)
      have e42 : (wI (wA τ 45 ρ) 0 56 (nI w.length)).1 42 = τ.1 42 := rfl
      rw [e42] at ec
      rw [ec]
      obtain ⟨τ', t1, t2, t3, t4, t5⟩ := ih (pre' ++ [w]) rest' m (x1 + gn (τ.1 42) w) (wA (wI (wA τ 45 ρ) 0 56 (nI w.length)) 42 (canc (τ.1 42) w)) (by rw [y1]; simp) (by rw [ea2] at hk; simp at hk; omega) (by omega)
        (fun v hv => by
          show dead (canc (τ.1 42) w) v
          rcases List.mem_append.mp hv with z | z
          · exact dead_mono gw hnn (y2 v z)
          · simp at z; subst z; exact dead_self gw hnn)
        (canc_nn gw hnn)
      have e42' : (wA (wI (wA τ 45 ρ) 0 56 (nI w.length)) 42 (canc (τ.1 42) w)).1 42 = canc (τ.1 42) w := rfl
      rw [e42'] at t1 t2
      have ef : fo rest (τ.1 42, 0) = ((fo rest' (canc (τ.1 42) w, 0)).1, gn (τ.1 42) w + (fo rest' (canc (τ.1 42) w, 0)).2) := by
        rw [ea2, fo_app, fo_dead a' _ _ ga hnn da, fo_cons]
        unfold fst_
        simp only [Int32.zero_add]
        rw [fo_sum]
      refine ⟨τ', ?_, ?_, fun c c1 c2 c3 => ?_, fun i hi => ?_, t5⟩
      · show M_ring_L2 m _ _ = _
        rw [t1, ef]
        simp only [Int32.add_assoc]
      · rw [t2, ef]
      · rw [t3 c c1 c2 c3]
        simp [wA, wI, c1, c2, c3]
      · rw [t4 i hi]
        show upd (τ.1 0) 56 (nI w.length) i = _
        rw [upd_at, if_neg hi]
    · rw [M_ring_L2, y, Option.bind_some, if_neg (by exact fun z => nomatch z), fo_dead rest _ _ (fun v hv => gd v (by rw [hp]; simp [hv])) hnn (fun v hv => z v (by rw [hp]; simp [hv]))]
      refine ⟨wA τ 45 ρ, by simp only [Int32.add_zero], rfl, fun c c1 c2 c3 => ?_, fun i hi => rfl, rfl⟩
      simp [wA, c2]
theorem op_ring {n : Nat} {σ τ : St} (h : Rel0 n σ τ) : ∃ r σ' τ', P_ring σ = some (r, σ') ∧ M_ring τ = some (r, τ') ∧ Rel0 n σ' τ' ∧ Sx σ σ' := by
  obtain ⟨hA, hB, hC, hD, hE, hS, hF, hG, hH, hI, hJ, hK, hL, hM⟩ := h
  obtain ⟨⟨e1, e2, e3⟩, i1, i2, i3⟩ := id hI
  obtain ⟨ρ', c1⟩ := c_ring (σ := σ) i1
  obtain ⟨τ', t1, t2, t3, t4, t5⟩ := m_rings (R0 10 0).length [] (R0 10 0) FU 0 τ rfl (Nat.le_refl _) (by decide +kernel) (fun v hv => (nomatch hv)) (by rw [← e1]; exact i1)
  rw [← e1] at t1 t2
  have hn : nn (fo (R0 10 0) (σ.1 58, 0)).1 := fo_nn _ _ (R0_good (by omega)) i1
  generalize fo (R0 10 0) (σ.1 58, 0) = Q at c1 t1 t2 hn
  refine ⟨_, _, τ', c1, ?_, ?_, ?_⟩
  · unfold M_ring
    rw [t1, Int32.zero_add]
  · unfold Rel0 RelX
    simp only [t3 1 (by decide) (by decide) (by decide), t3 2 (by decide) (by decide) (by decide), t3 3 (by decide) (by decide) (by decide), t3 4 (by decide) (by decide) (by decide), t3 5 (by decide) (by decide) (by decide), t3 6 (by decide) (by decide) (by decide), t3 7 (by decide) (by decide) (by decide), t3 8 (by decide) (by decide) (by decide), t3 9 (by decide) (by decide) (by decide), t3 10 (by decide) (by decide) (by decide), t3 11 (by decide) (by decide) (by decide), t3 12 (by decide) (by decide) (by decide), t3 13 (by decide) (by decide) (by decide), t3 14 (by decide) (by decide) (by decide), t3 15 (by decide) (by decide) (by decide), t3 16 (by decide) (by decide) (by decide), t3 17 (by decide) (by decide) (by decide), t3 20 (by decide) (by decide) (by decide), t3 21 (by decide) (by decide) (by decide), t3 22 (by decide) (by decide) (by decide), t3 23 (by decide) (by decide) (by decide), t3 24 (by decide) (by decide) (by decide), t3 25 (by decide) (by decide) (by decide), t3 26 (by decide) (by decide) (by decide), t3 27 (by decide) (by decide) (by decide), t3 28 (by decide) (by decide) (by decide), t3 29 (by decide) (by decide) (by decide), t3 30 (by decide) (by decide) (by decide), t3 31 (by decide) (by decide) (by decide), t3 32 (by decide) (by decide) (by decide), t3 33 (by decide) (by decide) (by decide), t3 34 (by decide) (by decide) (by decide), t3 35 (by decide) (by decide) (by decide), t3 36 (by decide) (by decide) (by decide), t3 37 (by decide) (by decide) (by decide), t3 38 (by decide) (by decide) (by decide), t3 39 (by decide) (by decide) (by decide), t3 40 (by decide) (by decide) (by decide), t3 41 (by decide) (by decide) (by decide), t3 43 (by decide) (by decide) (by decide), t3 44 (by decide) (by decide) (by decide), t3 48 (by decide) (by decide) (by decide), t3 49 (by decide) (by decide) (by decide), t3 50 (by decide) (by decide) (by decide), t3 51 (by decide) (by decide) (by decide), t3 52 (by decide) (by decide) (by decide), t3 53 (by decide) (by decide) (by decide), t3 54 (by decide) (by decide) (by decide), t3 55 (by decide) (by decide) (by decide), t3 56 (by decide) (by decide) (by decide), t3 57 (by decide) (by decide) (by decide), t3 58 (by decide) (by decide) (by decide), t3 59 (by decide) (by decide) (by decide), t3 60 (by decide) (by decide) (by decide), t3 61 (by decide) (by decide) (by decide), t4 0 (by decide), t4 1 (by decide), t4 2 (by decide), t4 3 (by decide), t4 8 (by decide), t4 13 (by decide), t4 17 (by decide), t4 26 (by decide), t4 33 (by decide), t4 36 (by decide), t4 41 (by decide), t4 49 (by decide), t4 60 (by decide), t4 63 (by decide), t4 68 (by decide), t4 78 (by decide)]
    exact ⟨hA, hB, hC, hD, hE, hS, hF, hG, hH, ⟨⟨t2.symm, e2, e3⟩, hn, i2, i3⟩, hJ, hK, hL, hM⟩
  · exact ⟨Or.inr ⟨rfl, rfl, rfl, rfl, rfl, rfl, rfl, rfl, rfl, rfl, fun _ _ => rfl⟩, Or.inl rfl, Or.inr ⟨rfl, rfl, rfl, rfl, rfl, rfl, rfl, rfl, rfl, fun _ _ => rfl⟩⟩
