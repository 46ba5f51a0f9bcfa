/-! text: reading -/
def dg (ce : Nat → Int32) (j : Nat) : Bool := bl (ce j) 48 57
def dgs (ce : Nat → Int32) : Nat → Nat → Nat
  | 0, _ => 0
  | r + 1, p => if dg ce p = true then dgs ce r (p + 1) + 1 else 0
def nmb (ce : Nat → Int32) : Nat → Nat → Int32 → Int32
  | 0, _, a => a
  | d + 1, p, a => nmb ce d (p + 1) ((((10 : Int32) * a) + ce p) - (48 : Int32))
theorem dgs_le (ce : Nat → Int32) : ∀ r p, dgs ce r p ≤ r := by
  intro r
  induction r with
  | zero => intro p; simp [dgs]
  | succ r ih =>
    intro p
    simp only [dgs]
    have := ih (p + 1)
    split <;> omega
theorem dgs_dg (ce : Nat → Int32) : ∀ r p j, j < dgs ce r p → dg ce (p + j) = true := by
  intro r
  induction r with
  | zero => intro p j h; simp [dgs] at h
  | succ r ih =>
    intro p j h
    simp only [dgs] at h
    split at h
    · rename_i q
      cases j with
      | zero => exact q
      | succ j =>
        have := ih (p + 1) j (by omega)
        rw [show p + 1 + j = p + (j + 1) by omega] at this
        exact this
    · omega
theorem nmb_b (ce : Nat → Int32) : ∀ d e p a, e + d ≤ 4 → (∀ j, j < d → dg ce (p + j) = true) → 0 ≤ Int32.toInt a → Int32.toInt a + 1 ≤ (10 : Int) ^ e → 0 ≤ (nmb ce d p a).toInt ∧ (nmb ce d p a).toInt + 1 ≤ (10 : Int) ^ (e + d) := by
  intro d
  induction d with
  | zero => intro e p a _ _ h1 h2; exact ⟨h1, h2⟩
  | succ d ih =>
    intro e p a he hd h1 h2
    have d0 := hd 0 (by omega)
    unfold dg at d0
    rw [bl_iff, show (48 : Int32).toInt = 48 by decide, show (57 : Int32).toInt = 57 by decide, Nat.add_zero] at d0
    have pe : (10 : Int) ^ e ≤ 10000 := by
      rcases (show e = 0 ∨ e = 1 ∨ e = 2 ∨ e = 3 ∨ e = 4 by omega) with z | z | z | z | z <;> subst z <;> decide
    have ps : (10 : Int) ^ (e + 1) = 10 ^ e * 10 := Int.pow_succ 10 e
    have t10 : (10 : Int32).toInt = 10 := by decide
    have m1 : ((10 : Int32) * a).toInt = 10 * a.toInt := by rw [n_mul, t10] <;> rw [t10] <;> omega
    have m2 : ((10 : Int32) * a + ce p).toInt = 10 * a.toInt + (ce p).toInt := by rw [n_add, m1] <;> rw [m1] <;> omega
    have m3 : ((((10 : Int32) * a) + ce p) - (48 : Int32)).toInt = 10 * a.toInt + (ce p).toInt - 48 := by
      rw [n_sub, m2, show (48 : Int32).toInt = 48 by decide] <;> rw [m2, show (48 : Int32).toInt = 48 by decide] <;> omega
    have := ih (e + 1) (p + 1) ((((10 : Int32) * a) + ce p) - (48 : Int32)) (by omega) (fun j hj => by
      have := hd (j + 1) (by omega)
      rw [show p + 1 + j = p + (j + 1) by omega]; exact this) (by rw [m3]; omega) (by rw [m3, ps]; omega)
    rw [show e + 1 + d = e + (d + 1) by omega] at this
    exact this
theorem c_digits {σ : St} {k a N p R : Nat} (hk : k < 4) (ha : a + N ≤ 60) (hp : p + R ≤ N) : ∀ m d, d ≤ R → R - d < m → Texts_digitsFrom_L10 (nI k) (nI (a + p)) (nI R) σ m (nI d) = some (nI (d + dgs (fun j => σ.1 75 (60 * k + a + j)) (R - d) (p + d))) := by
  intro m
  induction m with
  | zero => intro d _ h; omega
  | succ m ih =>
    intro d hd hm
    rcases Nat.lt_or_ge d R with hlt | hge
    · have q1 : ¬ nI R ≤ nI d := n_cmp hlt (by omega)
      have v := y_at (σ := σ) hk (show a + p + d < 60 by omega)
      obtain ⟨r, hr⟩ : ∃ r, R - d = r + 1 := ⟨R - d - 1, by omega⟩
      rw [Texts_digitsFrom_L10, if_neg q1, nI_add, v, Option.bind_some, hr]
      simp only [dgs]
      have e1 : dg (fun j => σ.1 75 (60 * k + a + j)) (p + d) = bl (σ.1 75 (60 * k + (a + p + d))) 48 57 := by
        unfold dg
        simp only
        rw [show 60 * k + a + (p + d) = 60 * k + (a + p + d) by omega]
      rw [e1]
      by_cases c1 : σ.1 75 (60 * k + (a + p + d)) < 48
      · have z : bl (σ.1 75 (60 * k + (a + p + d))) 48 57 = false := by
          cases q : bl (σ.1 75 (60 * k + (a + p + d))) 48 57
          · rfl
          · rw [bl_iff] at q; rw [n_lt] at c1; omega
        rw [if_pos c1, z, if_neg (by decide), Nat.add_zero]
      · rw [if_neg c1]
        by_cases c2 : σ.1 75 (60 * k + (a + p + d)) ≤ 57
        · have z : bl (σ.1 75 (60 * k + (a + p + d))) 48 57 = true := by
            rw [bl_iff]; rw [n_lt] at c1; rw [n_le] at c2; omega
          rw [if_pos c2, z, if_pos rfl, nI_1, ih (d + 1) (by omega) (by omega), show R - (d + 1) = r by omega, show d + 1 + dgs (fun j => σ.1 75 (60 * k + a + j)) r (p + (d + 1)) = d + (dgs (fun j => σ.1 75 (60 * k + a + j)) r (p + d + 1) + 1) by rw [show p + (d + 1) = p + d + 1 by omega]; omega]
        · have z : bl (σ.1 75 (60 * k + (a + p + d))) 48 57 = false := by
            cases q : bl (σ.1 75 (60 * k + (a + p + d))) 48 57
            · rfl
            · rw [bl_iff] at q; rw [n_le] at c2; omega
          rw [if_neg c2, z, if_neg (by decide), Nat.add_zero]
    · have e : d = R := by omega
      subst e
      rw [Texts_digitsFrom_L10, if_pos (n_cmpE d), Nat.sub_self]
      simp only [dgs, Nat.add_zero]
theorem c_number {σ : St} {k a N p D : Nat} (hk : k < 4) (ha : a + N ≤ 60) (hp : p + D ≤ N) : ∀ m d acc, d ≤ D → D - d < m → Texts_numberOf_L6 (nI k) (nI (a + p)) (nI D) σ m acc (nI d) = some (nmb (fun j => σ.1 75 (60 * k + a + j)) (D - d) (p + d) acc) := by
  intro m
  induction m with
  | zero => intro d _ _ h; omega
  | succ m ih =>
    intro d acc hd hm
    rcases Nat.lt_or_ge d D with hlt | hge
    · have q1 : ¬ nI D ≤ nI d := n_cmp hlt (by omega)
      have v := y_at (σ := σ) hk (show a + p + d < 60 by omega)
      obtain ⟨r, hr⟩ : ∃ r, D - d = r + 1 := ⟨D - d - 1, by omega⟩
      rw [Texts_numberOf_L6, if_neg q1, nI_add, v, Option.bind_some, hr, nI_1, ih (d + 1) _ (by omega) (by omega), show D - (d + 1) = r by omega]
      simp only [nmb]
      rw [show 60 * k + a + (p + d) = 60 * k + (a + p + d) by omega, show p + (d + 1) = p + d + 1 by omega]
    · have e : d = D := by omega
      subst e
      rw [Texts_numberOf_L6, if_pos (n_cmpE d), Nat.sub_self]
      simp only [nmb]
def mtail (x1 x2 x5 x6 : Int32) (σ : St) (k10 : Int32 → Int32 → St → Option (Int32 × St)) (x3 x7 : Int32) : Option (Int32 × St) :=
  if x3 = x6 then some (x3, σ)
  else
    Option.bind (M_isNumber x5 x7 σ) fun r122 =>
    if r122 = true then
      if inb (σ.1 0 33) 6 then
        if inb (σ.1 0 33) 6 then
          if x2 ≤ x3 then
            k10 x3 (0 : Int32) (wI (wI (wI σ 26 (Int32.toNatClampNeg (σ.1 0 33)) x5) 27 (Int32.toNatClampNeg (σ.1 0 33)) x7) 0 33 ((σ.1 0 33) + (1 : Int32)))
          else
            if inb (x1 + x3) 240 then
              if (σ.1 61 (Int32.toNatClampNeg (x1 + x3))) = (59 : Int32) then
                if ((σ.1 0 33) + (1 : Int32)) = (6 : Int32) then
                  some (x3, (wI (wI (wI σ 26 (Int32.toNatClampNeg (σ.1 0 33)) x5) 27 (Int32.toNatClampNeg (σ.1 0 33)) x7) 0 33 ((σ.1 0 33) + (1 : Int32))))
                else
                  k10 (x3 + (1 : Int32)) (1 : Int32) (wI (wI (wI σ 26 (Int32.toNatClampNeg (σ.1 0 33)) x5) 27 (Int32.toNatClampNeg (σ.1 0 33)) x7) 0 33 ((σ.1 0 33) + (1 : Int32)))
              else
                some (x3, (wI (wI (wI σ 26 (Int32.toNatClampNeg (σ.1 0 33)) x5) 27 (Int32.toNatClampNeg (σ.1 0 33)) x7) 0 33 ((σ.1 0 33) + (1 : Int32))))
            else none
        else none
      else none
    else some (x6, σ)
theorem m_digits {τ : St} {k a N p R : Nat} (hk : k < 4) (ha : a + N ≤ 60) (hp : p ≤ N) (hR1 : R ≤ 4) (hR2 : p + R ≤ N) (hR3 : R = 4 ∨ p + R = N) (l : Int32) (k10 : Int32 → Int32 → St → Option (Int32 × St)) : ∀ m d acc, d ≤ R → R - d < m → M_read_L51 (nI (60 * k + a)) (nI N) l (nI p) τ k10 m (nI (p + d)) acc = mtail (nI (60 * k + a)) (nI N) l (nI p) τ k10 (nI (p + d + dgs (fun j => τ.1 61 (60 * k + a + j)) (R - d) (p + d))) (nmb (fun j => τ.1 61 (60 * k + a + j)) (dgs (fun j => τ.1 61 (60 * k + a + j)) (R - d) (p + d)) (p + d) acc) := by
  intro m
  induction m with
  | zero => intro d _ _ h; omega
  | succ m ih =>
    intro d acc hd hm
    rcases Nat.lt_or_ge d R with hlt | hge
    · have q1 : ¬ nI N ≤ nI (p + d) := n_cmp (by omega) (by omega)
      have p4 : nI p + (4 : Int32) = nI (p + 4) := by rw [show (4 : Int32) = nI 4 by decide, nI_add]
      have q2 : ¬ nI p + 4 ≤ nI (p + d) := by rw [p4]; exact n_cmp (by omega) (by omega)
      have i1 : inb (nI (60 * k + a + (p + d))) 240 := n_inb (by omega) (by decide)
      have i2 := n_tn (k := 60 * k + a + (p + d)) (by omega)
      obtain ⟨r, hr⟩ : ∃ r, R - d = r + 1 := ⟨R - d - 1, by omega⟩
      have g1 : M_in (Int32.toInt64 (τ.1 61 (60 * k + a + (p + d)))) 48 57 τ = some (bl (τ.1 61 (60 * k + a + (p + d))) 48 57) := g_inL τ (by decide) (by decide)
      have e1 : dg (fun j => τ.1 61 (60 * k + a + j)) (p + d) = bl (τ.1 61 (60 * k + a + (p + d))) 48 57 := rfl
      rw [M_read_L51, if_neg q1, if_neg q2, nI_add]
      simp only [if_pos i1, i2, g1, Option.bind_some, hr, dgs, e1]
      cases z : bl (τ.1 61 (60 * k + a + (p + d))) 48 57
      · simp only [Bool.false_eq_true, if_false, nmb, Nat.add_zero]
        unfold mtail
        simp only [nI_add, if_pos i1, i2]
      · rw [if_pos rfl, if_pos rfl, nI_1, show p + d + 1 = p + (d + 1) by omega, ih (d + 1) _ (by omega) (by omega), show R - (d + 1) = r by omega]
        simp only [nmb]
        rw [show p + (d + 1) + dgs (fun j => τ.1 61 (60 * k + a + j)) r (p + (d + 1)) = p + d + (dgs (fun j => τ.1 61 (60 * k + a + j)) r (p + (d + 1)) + 1) by omega, show p + d + 1 = p + (d + 1) by omega]
    · have e : d = R := by omega
      subst e
      rw [M_read_L51, Nat.sub_self]
      simp only [dgs, nmb, Nat.add_zero]
      by_cases q1 : nI N ≤ nI (p + d)
      · rw [if_pos q1]; rfl
      · have q2 : nI p + 4 ≤ nI (p + d) := by
          have d4 : d = 4 := by
            rcases hR3 with z | z
            · exact z
            · exfalso; apply q1; rw [z]; exact n_cmpE N
          subst d4
          rw [show nI p + (4 : Int32) = nI (p + 4) by rw [show (4 : Int32) = nI 4 by decide, nI_add]]
          exact n_cmpE _
        rw [if_neg q1, if_pos q2]; rfl
def lm (j : Nat) : Int32 := match j with
  | 0 => 0
  | 1 => 1
  | 2 => 2
  | 3 => 3
  | 4 => 6
  | 5 => 4
  | _ => 5
theorem c_letter (x : Int32) (σ : St) : Texts_letterOf x σ = fnd (fun j => decide (stf_0 j = x)) (fun j => some (nI j)) (some (-9)) 7 0 := by
  unfold Texts_letterOf
  exact lp_f0 (F := fun n i => Texts_letterOf_L2 x σ n i) (c := 7)
    (fun n => by simp only [Texts_letterOf_L2, show (7 : Int32) ≤ nI 7 by decide, if_true])
    (fun n i hi => by
      have h1 : ¬ (7 : Int32) ≤ nI i := by rw [n_le, show (7 : Int32).toInt = 7 by decide, n_ti (by omega)]; omega
      have h2 : inb (nI i) 7 := n_inb hi (by decide)
      have h3 := n_tn (k := i) (by omega)
      simp only [Texts_letterOf_L2, h1, if_pos h2, h3, nI_1, if_false, decide_eq_true_eq]) FU (fu_gt (by decide))
theorem letters (x : Int32) (σ τ : St) : (Texts_letterOf x σ = some (-9) ∧ M_letterOf x τ = some (-1)) ∨ ∃ j, j < 7 ∧ Texts_letterOf x σ = some (nI j) ∧ M_letterOf x τ = some (lm j) := by
  rw [c_letter]
  by_cases e0 : x = 115
  · subst e0; exact Or.inr ⟨0, by decide, rfl, rfl⟩
  · by_cases e1 : x = 112
    · subst e1; exact Or.inr ⟨1, by decide, rfl, rfl⟩
    · by_cases e2 : x = 121
      · subst e2; exact Or.inr ⟨2, by decide, rfl, rfl⟩
      · by_cases e3 : x = 104
        · subst e3; exact Or.inr ⟨3, by decide, rfl, rfl⟩
        · by_cases e4 : x = 102
          · subst e4; exact Or.inr ⟨4, by decide, rfl, rfl⟩
          · by_cases e5 : x = 98
            · subst e5; exact Or.inr ⟨5, by decide, rfl, rfl⟩
            · by_cases e6 : x = 117
              · subst e6; exact Or.inr ⟨6, by decide, rfl, rfl⟩
              · left
                have s : ∀ c : Int32, ¬ x = c → decide (c = x) = false := fun c h => decide_eq_false (fun z => h z.symm)
                have t0 : stf_0 0 = 115 := rfl
                have t1 : stf_0 1 = 112 := rfl
                have t2 : stf_0 2 = 121 := rfl
                have t3 : stf_0 3 = 104 := rfl
                have t4 : stf_0 4 = 102 := rfl
                have t5 : stf_0 5 = 98 := rfl
                have t6 : stf_0 6 = 117 := rfl
                refine ⟨?_, ?_⟩
                · simp only [fnd, t0, t1, t2, t3, t4, t5, t6, Nat.zero_add, Nat.reduceAdd, s 115 e0, s 112 e1, s 121 e2, s 104 e3, s 102 e4, s 98 e5, s 117 e6, Bool.false_eq_true, if_false]
                · simp only [M_letterOf, e0, e1, e2, e3, e4, e5, e6, if_false]
theorem isNum {j : Nat} (hj : j < 7) {v : Int32} (h0 : 0 ≤ v.toInt) (h1 : v.toInt ≤ 9999) (τ : St) : M_isNumber (lm j) v τ = some (decide (¬ v < stf_1 j ∧ v ≤ stf_2 j)) := by
  have a0 : ¬ v < 0 := by rw [n_lt, n_0]; omega
  have a9 : v ≤ 9999 := by rw [n_le, show (9999 : Int32).toInt = 9999 by decide]; exact h1
  have fl : ∀ c : Int32, (c < v) ↔ ¬ v ≤ c := fun c => by rw [n_lt, n_le]; omega
  rcases (show j = 0 ∨ j = 1 ∨ j = 2 ∨ j = 3 ∨ j = 4 ∨ j = 5 ∨ j = 6 by omega) with e | e | e | e | e | e | e <;> subst e
  · show (if (10 : Int32) < v then some false else some true) = some (decide (¬ v < 0 ∧ v ≤ 10))
    by_cases q : v ≤ 10
    · rw [if_neg (by rw [fl]; simp [q])]; simp [a0, q]
    · rw [if_pos (by rw [fl]; exact q)]; simp [q]
  · show (if (99 : Int32) < v then some false else some true) = some (decide (¬ v < 0 ∧ v ≤ 99))
    by_cases q : v ≤ 99
    · rw [if_neg (by rw [fl]; simp [q])]; simp [a0, q]
    · rw [if_pos (by rw [fl]; exact q)]; simp [q]
  · show (if v < (1 : Int32) then some false else some true) = some (decide (¬ v < 1 ∧ v ≤ 9999))
    by_cases q : v < 1
    · rw [if_pos q]; simp [q]
    · rw [if_neg q]; simp [a9, q]
  · show (if (2 : Int32) < v then some false else some true) = some (decide (¬ v < 0 ∧ v ≤ 2))
    by_cases q : v ≤ 2
    · rw [if_neg (by rw [fl]; simp [q])]; simp [a0, q]
    · rw [if_pos (by rw [fl]; exact q)]; simp [q]
  · show (if (7 : Int32) < v then some false else some true) = some (decide (¬ v < 0 ∧ v ≤ 7))
    by_cases q : v ≤ 7
    · rw [if_neg (by rw [fl]; simp [q])]; simp [a0, q]
    · rw [if_pos (by rw [fl]; exact q)]; simp [q]
  · show (if (7 : Int32) < v then some false else some true) = some (decide (¬ v < 0 ∧ v ≤ 7))
    by_cases q : v ≤ 7
    · rw [if_neg (by rw [fl]; simp [q])]; simp [a0, q]
    · rw [if_pos (by rw [fl]; exact q)]; simp [q]
  · show (if (7 : Int32) < v then some false else some true) = some (decide (¬ v < 0 ∧ v ≤ 7))
    by_cases q : v ≤ 7
    · rw [if_neg (by rw [fl]; simp [q])]; simp [a0, q]
    · rw [if_pos (by rw [fl]; exact q)]; simp [q]
theorem rT_upd {su va le nu : Nat → Int32} (h : rT su va le nu) (i : Nat) {l v s w : Int32} (h1 : s = encS l v) (h2 : w = encV l v) (h3 : 0 ≤ l.toInt ∧ l.toInt ≤ 6) (h4 : 0 ≤ v.toInt ∧ v.toInt ≤ 9999) (h5 : 4 ≤ l.toInt → v.toInt ≤ 7) : rT (upd su i s) (upd va i w) (upd le i l) (upd nu i v) := by
  intro x
  simp only [upd_at]
  by_cases e : x = i
  · simp only [if_pos e]
    exact ⟨h1, h2, h3.1, h3.2, h4.1, h4.2, h5⟩
  · simp only [if_neg e]
    exact h x
