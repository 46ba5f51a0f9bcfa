/-! news: bits of a long -/
def hl (x : Int64) (k : Nat) : Bool := x.toBitVec.getLsbD k
theorem sh_amt7 : ∀ b : Fin 60, ((Int32.toInt64 (nI b.val) &&& 63).toBitVec.smod 64) = BitVec.ofNat 64 b.val := by decide
theorem sh_r07 (x : Int64) {b : Nat} (h : b < 60) : (x >>> (Int32.toInt64 (nI b) &&& 63)).toBitVec.getLsbD 0 = hl x b := by
  rw [Int64.toBitVec_shiftRight, sh_amt7 ⟨b, h⟩]
  simp only [BitVec.sshiftRight', BitVec.toNat_ofNat]
  rw [Nat.mod_eq_of_lt (by omega), BitVec.getLsbD_sshiftRight]
  unfold hl
  simp
  omega
theorem and06 (y : Int64) : (y &&& 1 = 0) ↔ y.toBitVec.getLsbD 0 = false := by
  rw [← Int64.toBitVec_inj, Int64.toBitVec_and]
  have e1 : (1 : Int64).toBitVec = 1#64 := rfl
  rw [e1]
  constructor
  · intro h
    have := congrArg (fun z : BitVec 64 => z.getLsbD 0) h
    simpa using this
  · intro h
    apply BitVec.eq_of_getLsbD_eq
    intro i hi
    rw [BitVec.getLsbD_and, BitVec.getLsbD_one]
    by_cases e : i = 0
    · subst e; rw [h]; simp
    · simp [e]
theorem hl_one {b : Nat} (h : b < 60) (i : Nat) : hl ((1 : Int64) <<< (Int32.toInt64 (nI b) &&& 63)) i = decide (i = b) := by
  unfold hl
  rw [Int64.toBitVec_shiftLeft, sh_amt7 ⟨b, h⟩]
  have e1 : (1 : Int64).toBitVec = 1#64 := rfl
  rw [e1]
  have e2 : (1#64 <<< BitVec.ofNat 64 b) = 1#64 <<< b := by
    rw [BitVec.shiftLeft_eq']
    rw [BitVec.toNat_ofNat, Nat.mod_eq_of_lt (by omega)]
  simp only
  rw [e2, BitVec.getLsbD_shiftLeft, BitVec.getLsbD_one]
  by_cases c1 : i < 64
  · by_cases c2 : i < b
    · simp [c1, c2]; omega
    · by_cases c3 : i = b
      · subst c3; simp [c1]
      · simp [c1, c2, c3]; omega
  · have : ¬ i = b := by omega
    simp [c1, this]
theorem hl_or (x y : Int64) (i : Nat) : hl (x ||| y) i = (hl x i || hl y i) := by
  unfold hl
  rw [Int64.toBitVec_or, BitVec.getLsbD_or]
theorem hl_an (x y : Int64) (i : Nat) : hl (x &&& y) i = (hl x i && hl y i) := by
  unfold hl
  rw [Int64.toBitVec_and, BitVec.getLsbD_and]
theorem hl_nt (x : Int64) {i : Nat} (h : i < 64) : hl (x ^^^ (-1 : Int64)) i = !hl x i := by
  unfold hl
  rw [Int64.toBitVec_xor, BitVec.getLsbD_xor]
  have e : (-1 : Int64).toBitVec = BitVec.allOnes 64 := by decide
  rw [e, BitVec.getLsbD_allOnes]
  simp [h]
theorem hl_0 (k : Nat) : hl 0 k = false := by
  unfold hl
  have e1 : (0 : Int64).toBitVec = 0#64 := rfl
  rw [e1]; simp
theorem hl_ext {x y : Int64} (h : ∀ i, i < 64 → hl x i = hl y i) : x = y := by
  rw [← Int64.toBitVec_inj]
  exact BitVec.eq_of_getLsbD_eq h
theorem hl_z {x : Int64} (h : ¬ x = 0) : ∃ i, i < 64 ∧ hl x i = true := by
  apply Classical.byContradiction
  intro q
  apply h
  apply hl_ext
  intro i hi
  rw [hl_0]
  cases e : hl x i
  · rfl
  · exact absurd ⟨i, hi, e⟩ q
theorem g_hasL (x : Int64) {b : Nat} (h : b < 60) (σ : St) : M_hasBit x (nI b) σ = some (hl x b) := by
  unfold M_hasBit
  have e := and16 (x >>> (Int32.toInt64 (nI b) &&& 63))
  rw [sh_r07 _ h] at e
  cases q : hl x b
  · rw [if_neg (fun z => by rw [e.mp z] at q; cases q)]
  · rw [if_pos (e.mpr q)]
/-! news: what it is made of, and what comes of it -/
abbrev ND := Nat × (Nat → Int32) × (Nat → Int32) × (Nat → Int32) × (Nat → Int32) × Nat × (Nat → Int32) × (Nat → Int32)
abbrev dS (D : ND) : Nat := D.1
abbrev dWo (D : ND) : Nat → Int32 := D.2.1
abbrev dWa (D : ND) : Nat → Int32 := D.2.2.1
abbrev dFr (D : ND) : Nat → Int32 := D.2.2.2.1
abbrev dTo (D : ND) : Nat → Int32 := D.2.2.2.2.1
abbrev dC (D : ND) : Nat := D.2.2.2.2.2.1
abbrev dDa (D : ND) : Nat → Int32 := D.2.2.2.2.2.2.1
abbrev dBq (D : ND) : Nat → Int32 := D.2.2.2.2.2.2.2
def dOk (D : ND) : Prop := dS D ≤ 40 ∧ dC D ≤ 60 ∧ ir (dFr D) 0 9999 ∧ ir (dDa D) 0 9999 ∧ ir (dWo D) 0 5 ∧ ir (dWa D) 0 15 ∧ (∀ i j : Nat, i < dS D → j < dS D → i ≠ j → dWo D i = dWo D j → (dTo D i).toInt < (dFr D j).toInt ∨ (dTo D j).toInt < (dFr D i).toInt) ∧ (∀ e, e < dC D → 0 ≤ (dBq D e).toInt ∧ (dBq D e).toInt ≤ 5)
abbrev KB := Nat → Nat → Bool
abbrev KT := Nat → Nat → Int32
def nHear (D : ND) (d : Int32) (K : KB) : KB := fun w e => K w e || (decide (e < dC D) && (decide (dDa D e = d) && decide (dBq D e = nI w)))
def nSpot (D : ND) (d : Int32) (w : Nat) : Int32 := if w = 6 then 0 else whS (dS D) (dWo D) (dWa D) (dFr D) (dTo D) (nI w) d
def nAny (D : ND) (d : Int32) (K : KB) (w e : Nat) : Bool := (List.range 7).any (fun v => decide (nSpot D d v = nSpot D d w) && K v e)
def nSpk (D : ND) (d : Int32) (K : KB) : KB := fun w e => K w e || (!decide (nSpot D d w = -9) && nAny D d K w e)
def nNote (d : Int32) (K : KB) (T : KT) : KT := fun w e => if K w e = true ∧ (T w e).toInt < 0 then d else T w e
def nMin (x v a : Int32) : Int32 := if v ≤ x then a else if a ≤ v then a else v
def nNext (D : ND) (x : Int32) : Int32 := itr (fun e a => nMin x (dDa D e) a) (dC D) 0 (itr (fun i a => nMin x (dFr D i) a) (dS D) 0 10000)
def nLay (D : ND) : Nat → Int32 → KB → KT → KT
  | 0, _, _, T => T
  | k + 1, d, K, T => if 10000 ≤ d then T else nLay D k (nNext D d) (nSpk D d (nHear D d K)) (nNote d (nSpk D d (nHear D d K)) T)
def nTab (D : ND) : KT := nLay D (dS D + dC D) (nNext D (-1)) (fun _ _ => false) (fun _ _ => -9)
theorem nAny_iff {D : ND} {d : Int32} {K : KB} {w e : Nat} : nAny D d K w e = true ↔ ∃ v, v < 7 ∧ nSpot D d v = nSpot D d w ∧ K v e = true := by
  unfold nAny
  rw [List.any_eq_true]
  constructor
  · rintro ⟨v, h1, h2⟩
    rw [Bool.and_eq_true] at h2
    exact ⟨v, List.mem_range.mp h1, of_decide_eq_true h2.1, h2.2⟩
  · rintro ⟨v, h1, h2, h3⟩
    exact ⟨v, List.mem_range.mpr h1, by rw [Bool.and_eq_true]; exact ⟨decide_eq_true h2, h3⟩⟩
theorem nSpk_iff {D : ND} {d : Int32} {K : KB} {w e : Nat} : nSpk D d K w e = true ↔ K w e = true ∨ (¬ nSpot D d w = -9 ∧ ∃ v, v < 7 ∧ nSpot D d v = nSpot D d w ∧ K v e = true) := by
  unfold nSpk
  rw [Bool.or_eq_true, Bool.and_eq_true, nAny_iff]
  simp
/-! the next day -/
def nSt (D : ND) (d : Int) : Prop := (∃ i, i < dS D ∧ (dFr D i).toInt = d) ∨ ∃ e, e < dC D ∧ (dDa D e).toInt = d
def nIs (S : Int → Prop) (x a : Int32) : Prop := (a.toInt = 10000 ∧ ∀ d, S d → d ≤ x.toInt) ∨ (S a.toInt ∧ x.toInt < a.toInt ∧ ∀ d, S d → x.toInt < d → a.toInt ≤ d)
theorem nMin_is {S : Int → Prop} {x v a : Int32} (hv : v.toInt ≤ 9999) (h : nIs S x a) : nIs (fun d => S d ∨ v.toInt = d) x (nMin x v a) := by
  unfold nMin
  by_cases q : v ≤ x
  · rw [if_pos q]
    rw [n_le] at q
    rcases h with ⟨h1, h2⟩ | ⟨h1, h2, h3⟩
    · exact Or.inl ⟨h1, fun d hd => by
        rcases hd with hd | hd
        · exact h2 d hd
        · omega⟩
    · exact Or.inr ⟨Or.inl h1, h2, fun d hd hx => by
        rcases hd with hd | hd
        · exact h3 d hd hx
        · omega⟩
  · rw [if_neg q]
    rw [n_le] at q
    by_cases p : a ≤ v
    · rw [if_pos p]
      rw [n_le] at p
      rcases h with ⟨h1, h2⟩ | ⟨h1, h2, h3⟩
      · omega
      · exact Or.inr ⟨Or.inl h1, h2, fun d hd hx => by
          rcases hd with hd | hd
          · exact h3 d hd hx
          · omega⟩
    · rw [if_neg p]
      rw [n_le] at p
      refine Or.inr ⟨Or.inr rfl, by omega, fun d hd hx => ?_⟩
      rcases hd with hd | hd
      · rcases h with ⟨h1, h2⟩ | ⟨h1, h2, h3⟩
        · have := h2 d hd; omega
        · have := h3 d hd hx; omega
      · omega
theorem nIs_c {S S' : Int → Prop} {x a : Int32} (hs : ∀ d, S d ↔ S' d) (h : nIs S x a) : nIs S' x a := by
  have e : S = S' := funext fun d => propext (hs d)
  subst e; exact h
theorem nMin_loop {f : Nat → Int32} (hf : ∀ i, (f i).toInt ≤ 9999) {x : Int32} (S : Int → Prop) : ∀ k i a, nIs (fun d => S d ∨ ∃ j, j < i ∧ (f j).toInt = d) x a → nIs (fun d => S d ∨ ∃ j, j < i + k ∧ (f j).toInt = d) x (itr (fun e a => nMin x (f e) a) k i a) := by
  intro k
  induction k with
  | zero => intro i a h; exact h
  | succ k ih =>
    intro i a h
    simp only [itr]
    have := ih (i + 1) (nMin x (f i) a) (nIs_c (fun d => by
      constructor
      · rintro ((z | ⟨j, j1, j2⟩) | z)
        · exact Or.inl z
        · exact Or.inr ⟨j, by omega, j2⟩
        · exact Or.inr ⟨i, by omega, z⟩
      · rintro (z | ⟨j, j1, j2⟩)
        · exact Or.inl (Or.inl z)
        · by_cases e : j = i
          · subst e; exact Or.inr j2
          · exact Or.inl (Or.inr ⟨j, by omega, j2⟩)) (nMin_is (hf i) h))
    rw [show i + (k + 1) = i + 1 + k by omega]
    exact this
theorem nNext_is {D : ND} (ok : dOk D) (x : Int32) : nIs (nSt D) x (nNext D x) := by
  obtain ⟨o1, o2, o3, o4, o5, o6, o7, o8⟩ := ok
  unfold nNext
  have a1 := nMin_loop (f := dFr D) (fun i => (o3 i).2) (x := x) (fun _ => False) (dS D) 0 10000 (Or.inl ⟨by decide, fun d hd => by
    rcases hd with hd | ⟨j, j1, j2⟩
    · exact hd.elim
    · omega⟩)
  have a2 := nMin_loop (f := dDa D) (fun i => (o4 i).2) (x := x) (fun d => ∃ i, i < dS D ∧ (dFr D i).toInt = d) (dC D) 0 _ (nIs_c (fun d => by
    constructor
    · rintro (z | ⟨j, j1, j2⟩)
      · exact z.elim
      · exact Or.inl ⟨j, by omega, j2⟩
    · rintro (⟨j, j1, j2⟩ | ⟨j, j1, j2⟩)
      · exact Or.inr ⟨j, by omega, j2⟩
      · omega) a1)
  exact nIs_c (fun d => by
    unfold nSt
    constructor
    · rintro (z | ⟨j, j1, j2⟩)
      · exact Or.inl z
      · exact Or.inr ⟨j, by omega, j2⟩
    · rintro (z | ⟨j, j1, j2⟩)
      · exact Or.inl z
      · exact Or.inr ⟨j, by omega, j2⟩) a2
theorem nSt_b {D : ND} (ok : dOk D) {d : Int} (h : nSt D d) : 0 ≤ d ∧ d ≤ 9999 := by
  obtain ⟨o1, o2, o3, o4, o5, o6, o7, o8⟩ := ok
  rcases h with ⟨i, _, e⟩ | ⟨i, _, e⟩
  · have := o3 i; omega
  · have := o4 i; omega
/-- how many of the days are not before d -/
def cg (f : Nat → Int32) (d : Int) : Nat → Nat
  | 0 => 0
  | n + 1 => cg f d n + (if d ≤ (f n).toInt then 1 else 0)
theorem cg_le (f : Nat → Int32) (d : Int) : ∀ n, cg f d n ≤ n := by
  intro n
  induction n with
  | zero => exact Nat.le_refl _
  | succ n ih => simp only [cg]; split <;> omega
theorem cg_mono (f : Nat → Int32) {d d' : Int} (h : d ≤ d') : ∀ n, cg f d' n ≤ cg f d n := by
  intro n
  induction n with
  | zero => exact Nat.le_refl _
  | succ n ih => simp only [cg]; split <;> split <;> omega
theorem cg_lt (f : Nat → Int32) {d d' : Int} (h : d < d') : ∀ n i, i < n → (f i).toInt = d → cg f d' n < cg f d n := by
  intro n
  induction n with
  | zero => intro i hi; omega
  | succ n ih =>
    intro i hi e
    simp only [cg]
    have m := cg_mono f (Int.le_of_lt h) n
    by_cases q : i = n
    · subst q
      rw [if_neg (by omega), if_pos (by omega)]
      omega
    · have := ih i (by omega) e
      split <;> split <;> omega
def dcg (D : ND) (d : Int) : Nat := cg (dFr D) d (dS D) + cg (dDa D) d (dC D)
theorem dcg_lt {D : ND} {d d' : Int} (h : d < d') (hs : nSt D d) : dcg D d' < dcg D d := by
  unfold dcg
  have m1 := cg_mono (dFr D) (Int.le_of_lt h) (dS D)
  have m2 := cg_mono (dDa D) (Int.le_of_lt h) (dC D)
  rcases hs with ⟨i, hi, e⟩ | ⟨i, hi, e⟩
  · have := cg_lt (dFr D) h (dS D) i hi e; omega
  · have := cg_lt (dDa D) h (dC D) i hi e; omega
/-! what holds from day to day -/
def nPI (D : ND) (K : KB) (T : KT) : Prop := (∀ w e, K w e = true ↔ 0 ≤ (T w e).toInt) ∧ (∀ w e, T w e = -9 ∨ (0 ≤ (T w e).toInt ∧ (T w e).toInt ≤ 9999)) ∧ (∀ w e, dC D ≤ e → K w e = false)
theorem nPI_0 (D : ND) : nPI D (fun _ _ => false) (fun _ _ => -9) := by
  refine ⟨fun w e => ⟨fun z => (nomatch z), fun z => absurd z (show ¬ (0 : Int) ≤ (-9 : Int32).toInt by decide)⟩, fun _ _ => Or.inl rfl, fun _ _ _ => rfl⟩
theorem nPI_s {D : ND} {K : KB} {T : KT} (h : nPI D K T) {d : Int32} (hd : 0 ≤ d.toInt ∧ d.toInt ≤ 9999) : nPI D (nSpk D d (nHear D d K)) (nNote d (nSpk D d (nHear D d K)) T) := by
  obtain ⟨h1, h2, h3⟩ := h
  have up : ∀ w e, K w e = true → nSpk D d (nHear D d K) w e = true := fun w e z => nSpk_iff.mpr (Or.inl (by unfold nHear; rw [z]; rfl))
  have hh : ∀ w e, dC D ≤ e → nHear D d K w e = false := by
    intro w e he
    unfold nHear
    rw [h3 w e he, decide_eq_false (show ¬ e < dC D by omega)]
    rfl
  refine ⟨fun w e => ?_, fun w e => ?_, fun w e he => ?_⟩
  · unfold nNote
    by_cases q : nSpk D d (nHear D d K) w e = true
    · by_cases p : (T w e).toInt < 0
      · rw [if_pos ⟨q, p⟩]
        exact ⟨fun _ => hd.1, fun _ => q⟩
      · rw [if_neg (fun z => p z.2)]
        exact ⟨fun _ => by omega, fun _ => q⟩
    · rw [if_neg (fun z => q z.1)]
      exact ⟨fun z => absurd z q, fun z => up w e ((h1 w e).mpr z)⟩
  · unfold nNote
    split
    · exact Or.inr hd
    · exact h2 w e
  · cases q : nSpk D d (nHear D d K) w e
    · rfl
    · rcases nSpk_iff.mp q with z | ⟨_, v, _, _, z⟩
      · rw [hh w e he] at z; exact nomatch z
      · rw [hh v e he] at z; exact nomatch z
theorem nLay_b {D : ND} (ok : dOk D) : ∀ k (d : Int32) K T, 0 ≤ d.toInt → nPI D K T → ∀ w e, nLay D k d K T w e = -9 ∨ (0 ≤ (nLay D k d K T w e).toInt ∧ (nLay D k d K T w e).toInt ≤ 9999) := by
  intro k
  induction k with
  | zero => intro d K T _ h w e; exact h.2.1 w e
  | succ k ih =>
    intro d K T hd h w e
    simp only [nLay]
    by_cases q : 10000 ≤ d
    · rw [if_pos q]; exact h.2.1 w e
    · rw [if_neg q]
      rw [n_le, n_10000] at q
      refine ih _ _ _ ?_ (nPI_s h ⟨hd, by omega⟩) w e
      rcases nNext_is ok d with ⟨z, _⟩ | ⟨_, z, _⟩ <;> omega
theorem nNext0 {D : ND} (ok : dOk D) {d : Int32} (hd : -1 ≤ d.toInt) : 0 ≤ (nNext D d).toInt := by
  rcases nNext_is ok d with ⟨z, _⟩ | ⟨_, z, _⟩ <;> omega
theorem nTab_b {D : ND} (ok : dOk D) (w e : Nat) : nTab D w e = -9 ∨ (0 ≤ (nTab D w e).toInt ∧ (nTab D w e).toInt ≤ 9999) :=
  nLay_b ok _ _ _ _ (nNext0 ok (by decide)) (nPI_0 D) w e
