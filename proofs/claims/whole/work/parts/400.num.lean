/-! numbers and loops, plain Lean -/
theorem n_in {x : Int32} {n : Nat} : inb x n ↔ 0 ≤ x.toInt ∧ x.toInt < n := vp_in_iff
theorem n_ti {k : Nat} (h : k < 2 ^ 31) : (nI k).toInt = k := Int32.toInt_ofNat_of_lt h
theorem n_tn {k : Nat} (h : k < 2 ^ 31) : (nI k).toNatClampNeg = k := Int32.toNatClampNeg_ofNat_of_lt h
theorem n_inb {k n : Nat} (h : k < n) (hn : n ≤ 2000000) : inb (nI k) n := vp_in_nI h (by omega)
theorem n_lt (a b : Int32) : a < b ↔ a.toInt < b.toInt := Int32.lt_iff_toInt_lt
theorem n_le (a b : Int32) : a ≤ b ↔ a.toInt ≤ b.toInt := Int32.le_iff_toInt_le
theorem n_eq (a b : Int32) : a = b ↔ a.toInt = b.toInt := Int32.toInt_inj.symm
theorem n_lt6 (a b : Int64) : a < b ↔ a.toInt < b.toInt := Int64.lt_iff_toInt_lt
theorem n_le6 (a b : Int64) : a ≤ b ↔ a.toInt ≤ b.toInt := Int64.le_iff_toInt_le
theorem n_rng (x : Int32) : -2147483648 ≤ x.toInt ∧ x.toInt < 2147483648 := ⟨Int32.le_toInt x, Int32.toInt_lt x⟩
theorem n_bm {x : Int} (h1 : -2147483648 ≤ x) (h2 : x < 2147483648) : x.bmod (2 ^ 32) = x := Int.bmod_eq_of_le (by omega) (by omega)
theorem n_bm6 {x : Int} (h1 : -9223372036854775808 ≤ x) (h2 : x < 9223372036854775808) : x.bmod (2 ^ 64) = x := Int.bmod_eq_of_le (by omega) (by omega)
theorem n_add {a b : Int32} (h1 : -2147483648 ≤ a.toInt + b.toInt) (h2 : a.toInt + b.toInt < 2147483648) : (a + b).toInt = a.toInt + b.toInt := by rw [Int32.toInt_add]; exact n_bm h1 h2
theorem n_sub {a b : Int32} (h1 : -2147483648 ≤ a.toInt - b.toInt) (h2 : a.toInt - b.toInt < 2147483648) : (a - b).toInt = a.toInt - b.toInt := by rw [Int32.toInt_sub]; exact n_bm h1 h2
theorem n_mul {a b : Int32} (h1 : -2147483648 ≤ a.toInt * b.toInt) (h2 : a.toInt * b.toInt < 2147483648) : (a * b).toInt = a.toInt * b.toInt := by rw [Int32.toInt_mul]; exact n_bm h1 h2
theorem n_neg {a : Int32} (h1 : -2147483647 ≤ a.toInt) : (-a).toInt = -a.toInt := by rw [Int32.toInt_neg]; exact n_bm (by have := n_rng a; omega) (by have := n_rng a; omega)
theorem n_pred (x : Int32) : (Int32.toInt64 x - 1).toInt = x.toInt - 1 := by
  rw [Int64.toInt_sub, Int32.toInt_toInt64]
  have := n_rng x
  exact n_bm6 (by simp; omega) (by simp; omega)
/-- a loop that goes up to c, with what it gathers -/
def itr {A : Type} (g : Nat → A → A) : Nat → Nat → A → A
  | 0, _, a => a
  | k + 1, i, a => itr g k (i + 1) (g i a)
theorem lp_up {A R : Type} {F : Nat → Int32 → A → Option R} {c : Nat} {K : A → Option R} {g : Nat → A → A} (I : Nat → A → Prop)
    (h0 : ∀ n a, I c a → F (n + 1) (nI c) a = K a) (h1 : ∀ n i a, i < c → I i a → F (n + 1) (nI i) a = F n (nI (i + 1)) (g i a) ∧ I (i + 1) (g i a)) :
    ∀ n i a, i ≤ c → c - i < n → I i a → F n (nI i) a = K (itr g (c - i) i a) ∧ I c (itr g (c - i) i a) := by
  intro n
  induction n with
  | zero => intro i a _ h _; omega
  | succ n ih =>
    intro i a hi hn hI
    rcases Nat.lt_or_ge i c with h | h
    · obtain ⟨e, hI'⟩ := h1 n i a h hI
      obtain ⟨e2, hI2⟩ := ih (i + 1) (g i a) (by omega) (by omega) hI'
      have hk : c - i = (c - (i + 1)) + 1 := by omega
      rw [e, e2, hk]
      exact ⟨rfl, hI2⟩
    · have e : i = c := by omega
      subst e
      rw [h0 n a hI]
      simp [itr, hI]
theorem lp_u0 {A R : Type} {F : Nat → Int32 → A → Option R} {c : Nat} {K : A → Option R} {g : Nat → A → A}
    (h0 : ∀ n a, F (n + 1) (nI c) a = K a) (h1 : ∀ n i a, i < c → F (n + 1) (nI i) a = F n (nI (i + 1)) (g i a)) (n : Nat) (a : A) (hn : c < n) : F n 0 a = K (itr g c 0 a) :=
  (lp_up (F := F) (c := c) (K := K) (g := g) (fun _ _ => True) (fun n a _ => h0 n a) (fun n i a h _ => ⟨h1 n i a h, trivial⟩) n 0 a (Nat.zero_le _) (by omega) trivial).1
/-- a loop that looks for the first -/
def fnd {R : Type} (P : Nat → Bool) (v : Nat → R) (z : R) : Nat → Nat → R
  | 0, _ => z
  | k + 1, i => if P i = true then v i else fnd P v z k (i + 1)
theorem lp_fnd {R : Type} {F : Nat → Int32 → Option R} {c : Nat} {P : Nat → Bool} {v : Nat → Option R} {z : Option R}
    (h0 : ∀ n, F (n + 1) (nI c) = z) (h1 : ∀ n i, i < c → F (n + 1) (nI i) = if P i = true then v i else F n (nI (i + 1))) : ∀ n i, i ≤ c → c - i < n → F n (nI i) = fnd P v z (c - i) i := by
  intro n
  induction n with
  | zero => intro i _ h; omega
  | succ n ih =>
    intro i hi hn
    rcases Nat.lt_or_ge i c with h | h
    · have hk : c - i = (c - (i + 1)) + 1 := by omega
      rw [h1 n i h, hk, ih (i + 1) (by omega) (by omega)]
      rfl
    · have e : i = c := by omega
      subst e
      rw [h0 n]
      simp [fnd]
theorem lp_f0 {R : Type} {F : Nat → Int32 → Option R} {c : Nat} {P : Nat → Bool} {v : Nat → Option R} {z : Option R}
    (h0 : ∀ n, F (n + 1) (nI c) = z) (h1 : ∀ n i, i < c → F (n + 1) (nI i) = if P i = true then v i else F n (nI (i + 1))) (n : Nat) (hn : c < n) : F n 0 = fnd P v z c 0 := lp_fnd h0 h1 n 0 (Nat.zero_le _) (by omega)
theorem fnd_some {R : Type} (P : Nat → Bool) (v : Nat → R) (z : R) : ∀ k i, fnd P (fun j => some (v j)) (some z) k i = some (fnd P v z k i) := by
  intro k
  induction k with
  | zero => intro i; rfl
  | succ k ih => intro i; simp only [fnd]; split <;> simp [ih]
theorem n_cmp {c i : Nat} (h : i < c) (hc : c ≤ 2000000) : ¬ nI c ≤ nI i := by rw [nI_leI (by omega) (by omega)]; omega
theorem n_cmpE (c : Nat) : nI c ≤ nI c := Int32.le_refl _
/-! the guards -/
theorem n_0 : (0 : Int32).toInt = 0 := by decide
theorem n_10000 : (10000 : Int32).toInt = 10000 := by decide
def bw (x b : Int32) : Bool := decide (0 ≤ x ∧ x < b)
def bd (x y : Int32) : Bool := decide (0 ≤ x ∧ x ≤ y ∧ y < 10000)
def bl (x l u : Int32) : Bool := decide (l ≤ x ∧ x ≤ u)
theorem bw_iff {x b : Int32} : bw x b = true ↔ 0 ≤ x.toInt ∧ x.toInt < b.toInt := by simp only [bw, decide_eq_true_eq, n_le, n_lt, n_0]
theorem bw_of {x b : Int32} (h : bw x b = true) : ∃ k : Nat, x = nI k ∧ (k : Int) < b.toInt ∧ k < 2147483648 := by
  rw [bw_iff] at h
  obtain ⟨j, hj, e⟩ := nI_of (x := x) (by rw [n_lt, n_0]; omega)
  subst e
  rw [n_ti hj] at h
  exact ⟨j, rfl, h.2, hj⟩
theorem bw_nI {k b : Nat} (hb : b < 2147483648) (h : k < b) : bw (nI k) (nI b) = true := by
  rw [bw_iff, n_ti (by omega), n_ti (by omega)]; omega
theorem g_below (x b : Int32) (σ : St) : P_isBelow x b σ = some (bw x b) := by
  simp only [P_isBelow, n_lt, n_le, bw, n_0]
  split
  · simp; omega
  · split
    · simp; omega
    · simp; omega
theorem g_pdays (x y : Int32) (σ : St) : P_areDays x y σ = some (bd x y) := by
  simp only [P_areDays, n_lt, n_le, bd, n_0, n_10000]
  split
  · simp; omega
  · split
    · simp; omega
    · split
      · simp; omega
      · simp; omega
theorem g_in (x l u : Int64) (σ : St) : M_in x l u σ = some (decide (l ≤ x ∧ x ≤ u)) := by
  simp only [M_in, n_lt6, n_le6]
  split
  · simp; omega
  · split
    · simp; omega
    · simp; omega
theorem t_below {x b : Int32} {y : Int64} (h : y.toInt = b.toInt - 1) : decide (0 ≤ Int32.toInt64 x ∧ Int32.toInt64 x ≤ y) = bw x b := by
  simp only [bw, n_le6, n_lt, n_le, Int32.toInt_toInt64, h, n_0, decide_eq_decide]
  simp
  omega
theorem t_lit {x l u : Int32} {a b : Int64} (h1 : a.toInt = l.toInt) (h2 : b.toInt = u.toInt) : decide (a ≤ Int32.toInt64 x ∧ Int32.toInt64 x ≤ b) = bl x l u := by
  simp only [bl, n_le6, n_le, Int32.toInt_toInt64, h1, h2]
theorem g_inB {x b : Int32} {y : Int64} (σ : St) (h : y.toInt = b.toInt - 1) : M_in (Int32.toInt64 x) 0 y σ = some (bw x b) := by rw [g_in, t_below h]
theorem g_inP (x b : Int32) (σ : St) : M_in (Int32.toInt64 x) 0 (Int32.toInt64 b - 1) σ = some (bw x b) := g_inB σ (n_pred b)
theorem g_inL {x l u : Int32} {a b : Int64} (σ : St) (h1 : a.toInt = l.toInt) (h2 : b.toInt = u.toInt) : M_in (Int32.toInt64 x) a b σ = some (bl x l u) := by rw [g_in, t_lit h1 h2]
theorem g_inI (x l u : Int32) (σ : St) : M_in (Int32.toInt64 x) (Int32.toInt64 l) (Int32.toInt64 u) σ = some (bl x l u) := g_inL σ (Int32.toInt_toInt64 l) (Int32.toInt_toInt64 u)
theorem g_in9 (x : Int32) (σ : St) : M_in (Int32.toInt64 x) 0 9 σ = some (bw x 10) := g_inB σ (by decide)
theorem g_in2 (x : Int32) (σ : St) : M_in (Int32.toInt64 x) 0 2 σ = some (bw x 3) := g_inB σ (by decide)
theorem g_in1 (x : Int32) (σ : St) : M_in (Int32.toInt64 x) 0 1 σ = some (bw x 2) := g_inB σ (by decide)
theorem g_in3 (x : Int32) (σ : St) : M_in (Int32.toInt64 x) 0 3 σ = some (bw x 4) := g_inB σ (by decide)
theorem g_in4 (x : Int32) (σ : St) : M_in (Int32.toInt64 x) 0 4 σ = some (bw x 5) := g_inB σ (by decide)
theorem g_in5 (x : Int32) (σ : St) : M_in (Int32.toInt64 x) 0 5 σ = some (bw x 6) := g_inB σ (by decide)
theorem g_in7 (x : Int32) (σ : St) : M_in (Int32.toInt64 x) 0 7 σ = some (bw x 8) := g_inB σ (by decide)
theorem g_inM (x : Int32) (σ : St) : M_in (Int32.toInt64 x) 0 1000000 σ = some (bw x 1000001) := g_inB σ (by decide)
theorem g_inN (x : Int32) (σ : St) : M_in (Int32.toInt64 x) 0 999 σ = some (bw x 1000) := g_inB σ (by decide)
theorem g_inC (x : Int32) (σ : St) : M_in (Int32.toInt64 x) 0 999999 σ = some (bw x 1000000) := g_inB σ (by decide)
theorem g_inV (x : Int32) (σ : St) : M_in (Int32.toInt64 x) 0 99999 σ = some (bw x 100000) := g_inB σ (by decide)
theorem g_inD (x : Int32) (σ : St) : M_in (Int32.toInt64 x) 0 9999 σ = some (bw x 10000) := g_inB σ (by decide)
theorem g_isLand (x : Int32) (σ : St) : M_isLand x σ = some (bw x 6) := by simp [M_isLand, g_in5]
theorem g_isGood (x : Int32) (σ : St) : M_isGood x σ = some (bw x 8) := by simp [M_isGood, g_in7]
theorem g_isDay (x : Int32) (σ : St) : M_isDay x σ = some (bw x 10000) := by simp [M_isDay, g_inD]
theorem g_isParty (x : Int32) (σ : St) : M_isParty x σ = some (bw x 10) := by simp [M_isParty, g_in9]
theorem ite_not (b : Bool) : (if b = true then some false else some true) = some (!b) := by cases b <;> rfl
theorem g_noSheet (x : Int32) (σ : St) : M_noSheet x σ = some (!bw x 4) := by simp [M_noSheet, g_in3, ite_not]
theorem g_noBand (x : Int32) (σ : St) : M_noBand x σ = some (!bw x (σ.1 0 2)) := by simp [M_noBand, g_inP, ite_not]
theorem g_noPlace (x : Int32) (σ : St) : M_noPlace x σ = some (!bw x (σ.1 0 1)) := by simp [M_noPlace, g_inP, ite_not]
theorem g_noHouse (x : Int32) (σ : St) : M_noHouse x σ = some (!bw x (σ.1 0 3)) := by simp [M_noHouse, g_inP, ite_not]
theorem g_noPack (x : Int32) (σ : St) : M_noPack x σ = some (!bw x (σ.1 0 13)) := by simp [M_noPack, g_inP, ite_not]
theorem g_noDebt (x : Int32) (σ : St) : M_noDebt x σ = some (!bw x (σ.1 0 41)) := by simp [M_noDebt, g_inP, ite_not]
theorem g_noRound (x : Int32) (σ : St) : M_noRound x σ = some (!bw x (σ.1 0 60)) := by simp [M_noRound, g_inP, ite_not]
theorem g_hasBand (x : Int32) (σ : St) : Roll_hasBand x σ = some (bw x (σ.1 1 5)) := by simp [Roll_hasBand, g_below]
theorem g_hasPlace (x : Int32) (σ : St) : Roll_hasPlace x σ = some (bw x (σ.1 1 4)) := by simp [Roll_hasPlace, g_below]
theorem g_hasHouse (x : Int32) (σ : St) : Roll_hasHouse x σ = some (bw x (σ.1 1 6)) := by simp [Roll_hasHouse, g_below]
theorem g_packsHas (x : Int32) (σ : St) : Packs_has x σ = some (bw x (σ.1 21 3)) := by simp [Packs_has, g_below]
theorem g_roundsHas (x : Int32) (σ : St) : Rounds_has x σ = some (bw x (σ.1 64 2)) := by simp [Rounds_has, g_below]
theorem g_sheetsHas (x : Int32) (σ : St) : Sheets_has x σ = some (bw x 4) := by simp [Sheets_has, g_below]
theorem g_mdays (x y : Int32) (σ : St) : M_areDays x y σ = some (bd x y) := by
  have e : M_in (Int32.toInt64 y) (Int32.toInt64 x) 9999 σ = some (bl y x 9999) := g_inL σ (Int32.toInt_toInt64 x) (by decide)
  simp only [M_areDays, g_isDay, e, Option.bind_some, bw, bl, bd, n_le, n_lt, n_0]
  have h1 : (10000 : Int32).toInt = 10000 := by decide
  have h2 : (9999 : Int32).toInt = 9999 := by decide
  rw [h1, h2]
  split
  · split
    · rename_i a b; simp at a b ⊢; omega
    · rename_i a b; simp at a b ⊢; omega
  · rename_i a; simp at a ⊢; omega
