/-! loops that class and model have alike -/
theorem n_m1 (i : Nat) : nI (i + 1) + (-1) = nI i := by
  rw [← nI_1]
  have : nI i + 1 + (-1 : Int32) = nI i + 1 - 1 := by rw [Int32.sub_eq_add_neg]
  rw [this, sub_add]
theorem n_m0 : nI 0 + (-1) = -1 := by decide
def fdn {R : Type} (P : Nat → Bool) (v : Nat → R) (z : R) : Nat → R
  | 0 => z
  | i + 1 => if P i = true then v i else fdn P v z i
theorem lp_dn {R : Type} {F : Nat → Int32 → Option R} {c : Nat} {P : Nat → Bool} {v : Nat → Option R} {z : Option R}
    (h0 : ∀ n, F (n + 1) (-1) = z) (h1 : ∀ n i, i < c → F (n + 1) (nI i) = if P i = true then v i else F n (nI i + (-1))) : ∀ n i, i ≤ c → i < n → F n (nI i + (-1)) = fdn P v z i := by
  intro n
  induction n with
  | zero => intro i _ h; omega
  | succ n ih =>
    intro i hi hn
    cases i with
    | zero => rw [n_m0, h0]; rfl
    | succ i =>
      rw [n_m1, h1 n i (by omega), ih i (by omega) (by omega)]
      rfl
theorem lp_d0 {R : Type} {F : Nat → Int32 → Option R} {c : Nat} {P : Nat → Bool} {v : Nat → Option R} {z : Option R}
    (h0 : ∀ n, F (n + 1) (-1) = z) (h1 : ∀ n i, i < c → F (n + 1) (nI i) = if P i = true then v i else F n (nI i + (-1))) (n : Nat) (hn : c < n) : F n (nI c - 1) = fdn P v z c := by
  have : nI c - 1 = nI c + (-1) := Int32.sub_eq_add_neg _ _
  rw [this]
  exact lp_dn h0 h1 n c (Nat.le_refl _) hn
theorem fdn_some {R : Type} (P : Nat → Bool) (v : Nat → R) (z : R) : ∀ i, fdn P (fun j => some (v j)) (some z) i = some (fdn P v z i) := by
  intro i
  induction i with
  | zero => rfl
  | succ i ih => simp only [fdn]; split <;> simp [ih]
theorem fnd_const {R : Type} (P : Nat → Bool) (A B : R) : ∀ k i, fnd P (fun _ => A) B k i = if fnd P (fun _ => true) false k i = true then A else B := by
  intro k
  induction k with
  | zero => intro i; rfl
  | succ k ih => intro i; simp only [fnd]; split <;> simp [ih]
theorem fnd_at {R : Type} (P : Nat → Bool) (v : Nat → R) (z : R) : ∀ k i, (∃ j, i ≤ j ∧ j < i + k ∧ P j = true ∧ (∀ t, i ≤ t → t < j → P t = false) ∧ fnd P v z k i = v j) ∨ ((∀ j, i ≤ j → j < i + k → P j = false) ∧ fnd P v z k i = z) := by
  intro k
  induction k with
  | zero => intro i; exact Or.inr ⟨fun j _ _ => by omega, rfl⟩
  | succ k ih =>
    intro i
    simp only [fnd]
    cases hp : P i
    · simp only [Bool.false_eq_true, if_false]
      rcases ih (i + 1) with ⟨j, h1, h2, h3, h4, h5⟩ | ⟨h1, h2⟩
      · refine Or.inl ⟨j, by omega, by omega, h3, fun t ht1 ht2 => ?_, h5⟩
        by_cases e : t = i
        · rw [e]; exact hp
        · exact h4 t (by omega) ht2
      · refine Or.inr ⟨fun j hj1 hj2 => ?_, h2⟩
        by_cases e : j = i
        · rw [e]; exact hp
        · exact h1 j (by omega) (by omega)
    · simp only [if_true]
      exact Or.inl ⟨i, by omega, by omega, hp, fun t _ _ => by omega, rfl⟩
theorem fu_gt {c : Nat} (h : c ≤ 10001) : c < FU := by unfold FU; omega
def whS (c : Nat) (wo wa fr to : Nat → Int32) (who day : Int32) : Int32 := fnd (fun s => decide (wo s = who) && bl day (fr s) (to s)) wa (-9) c 0
theorem bl_class (x l u : Int32) : (if x < l then some false else if u < x then some false else some true) = some (bl x l u) := by
  rw [bl_split2]
  cases bl x l u <;> rfl
theorem s_cov_stays {i : Nat} (hi : i < 40) (d : Int32) (σ : St) : Spans_covers_stays (nI i) d σ = some (bl d (σ.1 9 i) (σ.1 10 i)) := by
  have h2 : inb (nI i) 40 := n_inb (by omega) (by decide)
  simp only [Spans_covers_stays, if_pos h2, n_tn (show i < 2 ^ 31 by omega), bl_class]
theorem s_cov_lic {i : Nat} (hi : i < 12) (d : Int32) (σ : St) : Spans_covers_licences (nI i) d σ = some (bl d (σ.1 14 i) (σ.1 15 i)) := by
  have h2 : inb (nI i) 12 := n_inb (by omega) (by decide)
  simp only [Spans_covers_licences, if_pos h2, n_tn (show i < 2 ^ 31 by omega), bl_class]
theorem s_cov_rights {i : Nat} (hi : i < 20) (d : Int32) (σ : St) : Spans_covers_rights (nI i) d σ = some (bl d (σ.1 19 i) (σ.1 20 i)) := by
  have h2 : inb (nI i) 20 := n_inb (by omega) (by decide)
  simp only [Spans_covers_rights, if_pos h2, n_tn (show i < 2 ^ 31 by omega), bl_class]
theorem s_whatOn {σ : St} {c : Nat} (hc : σ.1 6 4 = nI c) (h : c ≤ 40) (who day : Int32) : Spans_whatOn_stays who day σ = some (whS c (σ.1 7) (σ.1 8) (σ.1 9) (σ.1 10) who day) := by
  unfold Spans_whatOn_stays whS
  rw [← fnd_some]
  refine lp_f0 (F := fun n i => Spans_whatOn_stays_L2 who day σ n i) ?_ ?_ FU (fu_gt (by omega))
  · intro n; simp only [Spans_whatOn_stays_L2, hc, n_cmpE, if_true]
  · intro n i hi
    have h1 := n_cmp hi (by omega)
    have h2 : inb (nI i) 40 := n_inb (by omega) (by decide)
    have h3 := n_tn (k := i) (by omega)
    simp only [Spans_whatOn_stays_L2, s_cov_stays (show i < 40 by omega), hc, h1, if_pos h2, h3, nI_1, if_false, Option.bind_some]
    by_cases q : σ.1 7 i = who <;> cases w : bl day (σ.1 9 i) (σ.1 10 i) <;> simp [q]
theorem m_placeAt {τ : St} {c : Nat} (hc : τ.1 0 8 = nI c) (h : c ≤ 40) (who day : Int32) : M_placeAt who day τ = some (whS c (τ.1 5) (τ.1 6) (τ.1 7) (τ.1 8) who day) := by
  unfold M_placeAt whS
  rw [← fnd_some]
  refine lp_f0 (F := fun n i => M_placeAt_L2 who day τ n i) ?_ ?_ FU (fu_gt (by omega))
  · intro n; simp only [M_placeAt_L2, hc, n_cmpE, if_true]
  · intro n i hi
    have h1 := n_cmp hi (by omega)
    have h2 : inb (nI i) 40 := n_inb (by omega) (by decide)
    have h3 := n_tn (k := i) (by omega)
    simp only [M_placeAt_L2, g_inI, hc, h1, if_pos h2, h3, nI_1, if_false, Option.bind_some]
    by_cases q : τ.1 5 i = who <;> cases w : bl day (τ.1 7 i) (τ.1 8 i) <;> simp [q]
def shS (c : Nat) (wo fr to : Nat → Int32) (who f t : Int32) : Bool := fnd (fun s => decide (wo s = who) && (!decide (t < fr s) && !decide (to s < f))) (fun _ => true) false c 0
theorem s_sharesDay {σ : St} {c : Nat} (hc : σ.1 6 4 = nI c) (h : c ≤ 40) (who f t : Int32) : Spans_sharesDay_stays who f t σ = some (shS c (σ.1 7) (σ.1 9) (σ.1 10) who f t) := by
  unfold Spans_sharesDay_stays shS
  rw [← fnd_some]
  refine lp_f0 (F := fun n i => Spans_sharesDay_stays_L3 who f t σ n i) ?_ ?_ FU (fu_gt (by omega))
  · intro n; simp only [Spans_sharesDay_stays_L3, hc, n_cmpE, if_true]
  · intro n i hi
    have h1 := n_cmp hi (by omega)
    have h2 : inb (nI i) 40 := n_inb (by omega) (by decide)
    have h3 := n_tn (k := i) (by omega)
    simp only [Spans_sharesDay_stays_L3, hc, h1, if_pos h2, h3, nI_1, if_false, Option.bind_some]
    by_cases q : σ.1 7 i = who <;> by_cases w : t < σ.1 9 i <;> by_cases v : σ.1 10 i < f <;> simp [q, w, v]
theorem m_walkL {τ : St} {c : Nat} (hc : τ.1 0 8 = nI c) (h : c ≤ 40) (who pl f t : Int32) : M_walk_L33 who pl f t τ FU 0 = if shS c (τ.1 5) (τ.1 7) (τ.1 8) who f t = true then some (-3, τ) else M_walk_L33 who pl f t τ 1 (nI c) := by
  unfold shS
  rw [← fnd_const]
  refine lp_f0 (F := fun n i => M_walk_L33 who pl f t τ n i) ?_ ?_ FU (fu_gt (by omega))
  · intro n; simp only [M_walk_L33, hc, n_cmpE, if_true]
  · intro n i hi
    have h1 := n_cmp hi (by omega)
    have h2 : inb (nI i) 40 := n_inb (by omega) (by decide)
    have h3 := n_tn (k := i) (by omega)
    simp only [M_walk_L33, hc, h1, if_pos h2, h3, nI_1, if_false, Option.bind_some]
    by_cases q : τ.1 5 i = who <;> by_cases w : t < τ.1 7 i <;> by_cases v : τ.1 8 i < f <;> simp [q, w, v]
def hoS (c : Nat) (wo wa fr to : Nat → Int32) (who what day : Int32) : Bool := fnd (fun s => decide (wo s = who) && (decide (wa s = what) && bl day (fr s) (to s))) (fun _ => true) false c 0
theorem s_hasOn {σ : St} {c : Nat} (hc : σ.1 11 4 = nI c) (h : c ≤ 12) (who what day : Int32) : Spans_hasOn_licences who what day σ = some (hoS c (σ.1 12) (σ.1 13) (σ.1 14) (σ.1 15) who what day) := by
  unfold Spans_hasOn_licences hoS
  rw [← fnd_some]
  refine lp_f0 (F := fun n i => Spans_hasOn_licences_L3 who what day σ n i) ?_ ?_ FU (fu_gt (by omega))
  · intro n; simp only [Spans_hasOn_licences_L3, hc, n_cmpE, if_true]
  · intro n i hi
    have h1 := n_cmp hi (by omega)
    have h2 : inb (nI i) 12 := n_inb (by omega) (by decide)
    have h3 := n_tn (k := i) (by omega)
    simp only [Spans_hasOn_licences_L3, s_cov_lic (show i < 12 by omega), hc, h1, if_pos h2, h3, nI_1, if_false, Option.bind_some]
    by_cases q : σ.1 12 i = who <;> by_cases w : σ.1 13 i = what <;> cases v : bl day (σ.1 14 i) (σ.1 15 i) <;> simp [q, w]
theorem m_isLicL {τ : St} {c : Nat} (hc : τ.1 0 36 = nI c) (h : c ≤ 12) (who what day : Int32) : ∀ n i, i ≤ c → c - i < n → M_isLicensed_L6 who what day τ n 1 (nI i) = some true := by
  intro n
  induction n with
  | zero => intro i _ h; omega
  | succ n ih =>
    intro i hi hn
    rcases Nat.lt_or_ge i c with q | q
    · have h1 := n_cmp q (by omega)
      simp only [M_isLicensed_L6, hc, h1, if_false, ne10, nI_1]
      exact ih (i + 1) (by omega) (by omega)
    · have e : i = c := by omega
      subst e
      simp only [M_isLicensed_L6, hc, n_cmpE, if_true, ne10, if_false]
theorem m_isLic {τ : St} {c : Nat} (hc : τ.1 0 36 = nI c) (h : c ≤ 12) (who what day : Int32) : M_isLicensed who what day τ = some (hoS c (τ.1 28) (τ.1 29) (τ.1 30) (τ.1 31) who what day) := by
  unfold M_isLicensed hoS
  rw [← fnd_some]
  have key : ∀ n i, i ≤ c → c - i < n → M_isLicensed_L6 who what day τ n 0 (nI i) = fnd (fun s => decide (τ.1 28 s = who) && (decide (τ.1 29 s = what) && bl day (τ.1 30 s) (τ.1 31 s))) (fun _ => some true) (some false) (c - i) i := by
    intro n
    induction n with
    | zero => intro i _ h; omega
    | succ n ih =>
      intro i hi hn
      rcases Nat.lt_or_ge i c with q | q
      · have h1 := n_cmp q (by omega)
        have h2 : inb (nI i) 12 := n_inb (by omega) (by decide)
        have h3 := n_tn (k := i) (by omega)
        have hk : c - i = (c - (i + 1)) + 1 := by omega
        have e1 := ih (i + 1) (by omega) (by omega)
        have e2 := m_isLicL hc h who what day n (i + 1) (by omega)
        simp only [M_isLicensed_L6, hc, h1, if_false, if_true, eq_self, if_pos h2, h3, nI_1, g_inI, Option.bind_some]
        rw [hk]
        simp only [fnd]
        by_cases a : τ.1 28 i = who <;> by_cases b : τ.1 29 i = what <;> cases v : bl day (τ.1 30 i) (τ.1 31 i) <;> simp [a, b, e1] <;> exact e2 (by omega)
      · have e : i = c := by omega
        subst e
        simp only [M_isLicensed_L6, hc, n_cmpE, if_true, Nat.sub_self, fnd, eq_self]
  exact key FU 0 (Nat.zero_le _) (fu_gt (by omega))
def laS (c : Nat) (wo wa fr to : Nat → Int32) (what day : Int32) : Int32 := fdn (fun s => decide (wa s = what) && bl day (fr s) (to s)) wo (-9) c
theorem s_latestWho {σ : St} {c : Nat} (hc : σ.1 16 4 = nI c) (h : c ≤ 20) (what day : Int32) : Spans_latestWho_rights what day σ = some (laS c (σ.1 17) (σ.1 18) (σ.1 19) (σ.1 20) what day) := by
  unfold Spans_latestWho_rights laS
  rw [← fdn_some, hc]
  refine lp_d0 (F := fun n i => Spans_latestWho_rights_L7 what day σ n i) ?_ ?_ FU (fu_gt (by omega))
  · intro n; simp only [Spans_latestWho_rights_L7, show (-1 : Int32) < 0 by decide, if_true]
  · intro n i hi
    have h0 : ¬ nI i < 0 := by rw [n_lt, n_0, n_ti (by omega)]; omega
    have h2 : inb (nI i) 20 := n_inb (by omega) (by decide)
    have h3 := n_tn (k := i) (by omega)
    simp only [Spans_latestWho_rights_L7, s_cov_rights (show i < 20 by omega), h0, if_pos h2, h3, if_false, Option.bind_some]
    by_cases q : σ.1 18 i = what <;> cases w : bl day (σ.1 19 i) (σ.1 20 i) <;> simp [q]
theorem m_holderL {τ : St} {c : Nat} (hc : τ.1 0 63 = nI c) (h : c ≤ 20) (what day : Int32) : M_holder_L27 what day τ FU (τ.1 0 63 - 1) = some (laS c (τ.1 50) (τ.1 51) (τ.1 52) (τ.1 53) what day) := by
  unfold laS
  rw [← fdn_some, hc]
  refine lp_d0 (F := fun n i => M_holder_L27 what day τ n i) ?_ ?_ FU (fu_gt (by omega))
  · intro n; simp only [M_holder_L27, show (-1 : Int32) < 0 by decide, if_true]
  · intro n i hi
    have h0 : ¬ nI i < 0 := by rw [n_lt, n_0, n_ti (by omega)]; omega
    have h2 : inb (nI i) 20 := n_inb (by omega) (by decide)
    have h3 := n_tn (k := i) (by omega)
    simp only [M_holder_L27, g_inI, h0, if_pos h2, h3, if_false, Option.bind_some]
    by_cases q : τ.1 51 i = what <;> cases w : bl day (τ.1 52 i) (τ.1 53 i) <;> simp [q]
