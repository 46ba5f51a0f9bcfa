/-! what each pays as all FALL: numbers -/
def sI (f : Nat → Int) : Nat → Int
  | 0 => 0
  | k + 1 => sI f k + f k
theorem sI_congr {f g : Nat → Int} {m : Nat} (h : ∀ q, q < m → f q = g q) : ∀ k, k ≤ m → sI f k = sI g k := by
  intro k
  induction k with
  | zero => intro _; rfl
  | succ k ih => intro hk; simp only [sI]; rw [ih (by omega), h k (by omega)]
theorem sI_add (f g : Nat → Int) : ∀ k, sI (fun q => f q + g q) k = sI f k + sI g k := by
  intro k
  induction k with
  | zero => rfl
  | succ k ih => simp only [sI]; rw [ih]; omega
theorem sI_nn {f : Nat → Int} {u : Int} (h : ∀ q, 0 ≤ f q ∧ f q ≤ u) : ∀ k : Nat, 0 ≤ sI f k ∧ sI f k ≤ u * k := by
  intro k
  induction k with
  | zero => simp [sI]
  | succ k ih =>
    simp only [sI]
    have := h k
    have e : u * ((k + 1 : Nat) : Int) = u * (k : Int) + u := by push_cast; rw [Int.mul_add, Int.mul_one]
    omega
def hs (co pay : Nat → Int32) (p : Nat) : Int := (co p).toInt + sI (fun q => (pay (10 * q + p)).toInt) 10
def itf (ow ra : Nat → Int32) (p r q : Nat) : Int := if (ra q).toInt = r then (ow (10 * p + q)).toInt else 0
def its (ow ra : Nat → Int32) (p r : Nat) : Int := sI (itf ow ra p r) 10
def hrk (ow co ra pay : Nat → Int32) (p : Nat) : Nat → Int
  | 0 => hs co pay p
  | r + 1 => if its ow ra p r ≤ hrk ow co ra pay p r then hrk ow co ra pay p r - its ow ra p r else 0
def pv (o : Int32) (h t : Int) : Int32 := if t ≤ h then o else Int64.toInt32 (Int32.toInt64 o * Int64.ofInt h / Int64.ofInt t)
def nx (ow co ra pay : Nat → Int32) (x : Nat) : Int32 := pv (ow x) (hrk ow co ra pay (x / 10) (ra (x % 10)).toInt.toNat) (its ow ra (x / 10) (ra (x % 10)).toInt.toNat)
theorem e64 {x : Int32} {n : Int} (h : x.toInt = n) : Int32.toInt64 x = Int64.ofInt n := by
  apply Int64.toInt_inj.mp
  rw [Int32.toInt_toInt64, h]
  have := n_rng x
  rw [Int64.toInt_ofInt_of_le (by omega) (by omega)]
theorem e64' {x : Int64} {n : Int} (h : x.toInt = n) : x = Int64.ofInt n := by
  rw [← h]; exact (Int64.ofInt_toInt x).symm
theorem l64 (x : Int32) : Int64.toInt32 (Int32.toInt64 x) = x := by
  apply Int32.toInt_inj.mp
  rw [Int64.toInt_toInt32, Int32.toInt_toInt64]
  exact n_bm (n_rng x).1 (n_rng x).2
theorem its_nn {ow ra : Nat → Int32} (h : ir ow 0 99999) (p r : Nat) : ∀ k : Nat, 0 ≤ sI (itf ow ra p r) k ∧ sI (itf ow ra p r) k ≤ 99999 * k := by
  apply sI_nn
  intro q
  unfold itf
  have := h (10 * p + q)
  split <;> omega
theorem pv_b {o : Int32} {h t : Int} (ho : 0 ≤ o.toInt ∧ o.toInt ≤ 99999) (hh : 0 ≤ h ∧ h ≤ 2000000) (ht : 0 ≤ t ∧ t ≤ 2000000) : 0 ≤ (pv o h t).toInt ∧ (pv o h t).toInt ≤ 99999 := by
  unfold pv
  split
  · exact ho
  · rename_i q
    have q : h < t := by omega
    have m1 : 0 ≤ o.toInt * h := Int.mul_nonneg ho.1 hh.1
    have m2 : o.toInt * h ≤ 99999 * 2000000 := Int.mul_le_mul ho.2 hh.2 hh.1 (by decide)
    have e1 : (Int32.toInt64 o * Int64.ofInt h).toInt = o.toInt * h := by
      rw [Int64.toInt_mul, Int32.toInt_toInt64, Int64.toInt_ofInt_of_le (by omega) (by omega)]
      exact n_bm6 (by omega) (by omega)
    have e2 : (Int64.ofInt t).toInt = t := Int64.toInt_ofInt_of_le (by omega) (by omega)
    have e3 : (Int32.toInt64 o * Int64.ofInt h / Int64.ofInt t).toInt = o.toInt * h / t := by
      rw [Int64.toInt_div, e1, e2, Int.tdiv_eq_ediv_of_nonneg m1]
      have d1 : 0 ≤ o.toInt * h / t := Int.ediv_nonneg m1 ht.1
      have d2 : o.toInt * h / t ≤ o.toInt * h := Int.ediv_le_self _ m1
      exact n_bm6 (by omega) (by omega)
    have d1 : 0 ≤ o.toInt * h / t := Int.ediv_nonneg m1 ht.1
    have d3 : o.toInt * h / t ≤ o.toInt := by
      have m3 : o.toInt * h ≤ o.toInt * t := Int.mul_le_mul_of_nonneg_left (by omega) ho.1
      have m4 : o.toInt * h / t ≤ o.toInt * t / t := Int.ediv_le_ediv (by omega) m3
      rwa [Int.mul_ediv_cancel _ (by omega)] at m4
    have e4 : (Int64.toInt32 (Int32.toInt64 o * Int64.ofInt h / Int64.ofInt t)).toInt = o.toInt * h / t := by
      rw [Int64.toInt_toInt32, e3]
      exact n_bm (by omega) (by omega)
    rw [e4]; omega
theorem hs_b {co pay : Nat → Int32} (hc : ir co 0 99999) (hp : ir pay 0 99999) (p : Nat) : 0 ≤ hs co pay p ∧ hs co pay p ≤ 1099989 := by
  unfold hs
  have a := sI_nn (f := fun q => (pay (10 * q + p)).toInt) (u := 99999) (fun q => hp (10 * q + p)) 10
  have b := hc p
  simp at a
  omega
theorem hr_b {ow co ra pay : Nat → Int32} (ho : ir ow 0 99999) (hc : ir co 0 99999) (hp : ir pay 0 99999) (p : Nat) : ∀ r, 0 ≤ hrk ow co ra pay p r ∧ hrk ow co ra pay p r ≤ 1099989 := by
  intro r
  induction r with
  | zero => exact hs_b hc hp p
  | succ r ih =>
    simp only [hrk]
    have := its_nn (ra := ra) ho p r 10
    unfold its
    split <;> omega
theorem its_b {ow ra : Nat → Int32} (ho : ir ow 0 99999) (p r : Nat) : 0 ≤ its ow ra p r ∧ its ow ra p r ≤ 999990 := by
  have := its_nn (ra := ra) ho p r 10
  unfold its
  simp at this
  omega
theorem nx_b {ow co ra pay : Nat → Int32} (ho : ir ow 0 99999) (hc : ir co 0 99999) (hp : ir pay 0 99999) : ir (nx ow co ra pay) 0 99999 := by
  intro x
  unfold nx
  have a := hr_b (ra := ra) ho hc hp (x / 10) (ra (x % 10)).toInt.toNat
  have b := its_b (ra := ra) ho (x / 10) (ra (x % 10)).toInt.toNat
  exact pv_b (ho x) (by omega) (by omega)
/-- all ranks together are the row -/
theorem its_sum {ow ra : Nat → Int32} (hr : ir ra 0 2) (p : Nat) : its ow ra p 0 + its ow ra p 1 + its ow ra p 2 = sI (fun q => (ow (10 * p + q)).toInt) 10 := by
  unfold its
  rw [← sI_add, ← sI_add]
  apply sI_congr (m := 10) _ 10 (by decide)
  intro q _
  unfold itf
  have := hr q
  rcases (show (ra q).toInt = 0 ∨ (ra q).toInt = 1 ∨ (ra q).toInt = 2 by omega) with e | e | e <;> simp [e]
