/-! the model's payFrom -/
theorem m_rank1 {τ : St} (ho : ir (τ.1 42) 0 99999) (hr : ir (τ.1 44) 0 2) {p r : Nat} (hp : p < 10) (hr3 : r < 3) (left : Int64) (k : Int64 → Int32 → St → Option St) : ∃ A : Int64, A.toInt = its (τ.1 42) (τ.1 44) p r ∧ M_payFrom_L76 (nI p) left (nI r) τ k FU 0 0 = if left < A then M_payFrom_L140 (nI p) left (nI r) A 0 k FU 0 τ else M_payFrom_L140 (nI p) left (nI r) A 1 k FU 0 τ := by
  have key := lp_up (F := fun n i a => M_payFrom_L76 (nI p) left (nI r) τ k n a i) (c := 10) (K := fun A => if left < A then M_payFrom_L140 (nI p) left (nI r) A 0 k FU 0 τ else M_payFrom_L140 (nI p) left (nI r) A 1 k FU 0 τ) (g := fun i a => if τ.1 44 i = nI r then a + Int32.toInt64 (τ.1 42 (10 * p + i)) else a + 0) (fun i a => a.toInt = sI (itf (τ.1 42) (τ.1 44) p r) i)
    (fun n a _ => by simp only [M_payFrom_L76, show (10 : Int32) ≤ nI 10 by decide, if_true])
    (fun n i a hi hI => by
      have h1 : ¬ (10 : Int32) ≤ nI i := by rw [n_le, k_10, n_ti (by omega)]; omega
      have h2 : inb (nI i) 10 := n_inb hi (by decide)
      have h3 := n_tn (k := i) (by omega)
      have h4 := in100 hp hi
      have h5 := n_tn (k := 10 * p + i) (by omega)
      have b1 := its_nn (ra := τ.1 44) ho p r i
      have b2 := ho (10 * p + i)
      refine ⟨?_, ?_⟩
      · simp only [M_payFrom_L76, h1, if_pos h2, h3, idx10', if_pos h4, h5, nI_1, if_false]
        split <;> rfl
      · simp only [sI, itf]
        by_cases e : τ.1 44 i = nI r
        · rw [if_pos e, if_pos ((ra_eq hr hr3).mp e), Int64.toInt_add, Int32.toInt_toInt64, hI]
          exact n_bm6 (by omega) (by omega)
        · rw [if_neg e, if_neg (fun w => e ((ra_eq hr hr3).mpr w)), Int64.add_zero, hI]; omega)
    FU 0 0 (Nat.zero_le _) (fu_gt (by decide)) (by simp [sI])
  exact ⟨_, key.2, key.1⟩
theorem m_rank2 {τ : St} {p r : Nat} (hp : p < 10) {left A : Int64} {w : Int32} (k : Int64 → Int32 → St → Option St) (hw : (w = 0 ∧ left.toInt < A.toInt ∧ 0 ≤ left.toInt) ∨ (w = 1 ∧ A.toInt ≤ left.toInt)) : ∀ (m i : Nat) (g : Nat → Int32), i ≤ 10 → 10 - i < m → ∃ g' : Nat → Int32, (∀ x, g' x = if 10 * p + i ≤ x ∧ x < 10 * p + 10 ∧ τ.1 44 (x - 10 * p) = nI r then pv (τ.1 42 x) left.toInt A.toInt else g x) ∧ M_payFrom_L140 (nI p) left (nI r) A w k m (nI i) (wA τ 47 g) = k (if w = 0 then 0 else left - A) (nI r + 1) (wA τ 47 g') := by
  intro m
  induction m with
  | zero => intro i g _ hm; omega
  | succ m ih =>
    intro i g hi hm
    rcases Nat.lt_or_ge i 10 with hlt | hge
    · have h1 : ¬ (10 : Int32) ≤ nI i := by rw [n_le, k_10, n_ti (by omega)]; omega
      have h2 : inb (nI i) 10 := n_inb hlt (by decide)
      have h3 := n_tn (k := i) (by omega)
      have h4 := in100 hp hlt
      have h5 := n_tn (k := 10 * p + i) (by omega)
      have e62 : (wA τ 47 g).1 44 i = τ.1 44 i := rfl
      have e58 : ∀ x, (wA τ 47 g).1 42 x = τ.1 42 x := fun _ => rfl
      have hv : τ.1 44 i = nI r → M_payFrom_L140 (nI p) left (nI r) A w k (m + 1) (nI i) (wA τ 47 g) = M_payFrom_L140 (nI p) left (nI r) A w k m (nI (i + 1)) (wA τ 47 (upd g (10 * p + i) (pv (τ.1 42 (10 * p + i)) left.toInt A.toInt))) := by
        intro e
        rcases hw with ⟨w0, w1, w2⟩ | ⟨w0, w1⟩
        · subst w0
          have a2 : ¬ A = 0 := by
            intro z
            have : A.toInt = 0 := by rw [z]; decide
            omega
          have a3 : pv (τ.1 42 (10 * p + i)) left.toInt A.toInt = Int64.toInt32 (Int32.toInt64 (τ.1 42 (10 * p + i)) * left / A) := by
            unfold pv
            rw [if_neg (by omega), ← e64' (x := left) rfl, ← e64' (x := A) rfl]
          rw [a3]
          simp only [M_payFrom_L140, h1, if_pos h2, h3, e62, e, idx10', if_pos h4, h5, e58, a2, wI_wA, nI_1, if_true, if_false, eq_self]
        · subst w0
          have a3 : pv (τ.1 42 (10 * p + i)) left.toInt A.toInt = τ.1 42 (10 * p + i) := by
            unfold pv
            rw [if_pos w1]
          rw [a3]
          simp only [M_payFrom_L140, h1, if_pos h2, h3, e62, e, idx10', if_pos h4, h5, e58, ne10, wI_wA, nI_1, if_true, if_false, eq_self]
      by_cases e : τ.1 44 i = nI r
      · rw [hv e]
        obtain ⟨g', t1, t2⟩ := ih (i + 1) (upd g (10 * p + i) (pv (τ.1 42 (10 * p + i)) left.toInt A.toInt)) (by omega) (by omega)
        refine ⟨g', fun x => ?_, t2⟩
        rw [t1 x, upd_at]
        by_cases c1 : 10 * p + (i + 1) ≤ x ∧ x < 10 * p + 10 ∧ τ.1 44 (x - 10 * p) = nI r
        · rw [if_pos c1, if_pos ⟨by omega, c1.2.1, c1.2.2⟩]
        · rw [if_neg c1]
          by_cases c2 : x = 10 * p + i
          · subst c2
            rw [if_pos rfl, if_pos ⟨by omega, by omega, by rw [show 10 * p + i - 10 * p = i by omega]; exact e⟩]
          · rw [if_neg c2, if_neg (fun z => c1 ⟨by omega, z.2.1, z.2.2⟩)]
      · have hs : M_payFrom_L140 (nI p) left (nI r) A w k (m + 1) (nI i) (wA τ 47 g) = M_payFrom_L140 (nI p) left (nI r) A w k m (nI (i + 1)) (wA τ 47 g) := by
          simp only [M_payFrom_L140, h1, if_pos h2, h3, e62, e, nI_1, if_false]
        rw [hs]
        obtain ⟨g', t1, t2⟩ := ih (i + 1) g (by omega) (by omega)
        refine ⟨g', fun x => ?_, t2⟩
        rw [t1 x]
        by_cases c1 : 10 * p + (i + 1) ≤ x ∧ x < 10 * p + 10 ∧ τ.1 44 (x - 10 * p) = nI r
        · rw [if_pos c1, if_pos ⟨by omega, c1.2.1, c1.2.2⟩]
        · rw [if_neg c1, if_neg]
          intro z
          by_cases c2 : x = 10 * p + i
          · subst c2
            rw [show 10 * p + i - 10 * p = i by omega] at z
            exact e z.2.2
          · exact c1 ⟨by omega, z.2.1, z.2.2⟩
    · have e : i = 10 := by omega
      subst e
      refine ⟨g, fun x => ?_, ?_⟩
      · rw [if_neg (by omega)]
      · simp only [M_payFrom_L140, show (10 : Int32) ≤ nI 10 by decide, if_true]
        split <;> rfl
theorem m_rank {τ : St} (ho : ir (τ.1 42) 0 99999) (hr : ir (τ.1 44) 0 2) {p r : Nat} (hp : p < 10) (hr3 : r < 3) {left : Int64} {h : Int} (k : Int64 → Int32 → St → Option St) (hl : left.toInt = h) (hh : 0 ≤ h) (hh2 : h ≤ 2000000) (g : Nat → Int32) : ∃ (left' : Int64) (g' : Nat → Int32), left'.toInt = (if its (τ.1 42) (τ.1 44) p r ≤ h then h - its (τ.1 42) (τ.1 44) p r else 0) ∧ (∀ x, g' x = if 10 * p ≤ x ∧ x < 10 * p + 10 ∧ τ.1 44 (x - 10 * p) = nI r then pv (τ.1 42 x) h (its (τ.1 42) (τ.1 44) p r) else g x) ∧ M_payFrom_L76 (nI p) left (nI r) (wA τ 47 g) k FU 0 0 = k left' (nI r + 1) (wA τ 47 g') := by
  subst hl
  obtain ⟨A, a1, a2⟩ := m_rank1 (τ := wA τ 47 g) ho hr hp hr3 left k
  have a1' : A.toInt = its (τ.1 42) (τ.1 44) p r := a1
  have hi := its_b (ra := τ.1 44) ho p r
  rw [a2]
  by_cases q : left < A
  · have q2 : left.toInt < A.toInt := by rw [n_lt6] at q; exact q
    rw [if_pos q]
    obtain ⟨g', t1, t2⟩ := m_rank2 (τ := τ) (p := p) (r := r) hp (left := left) (A := A) (w := 0) k (Or.inl ⟨rfl, q2, hh⟩) FU 0 g (Nat.zero_le _) (fu_gt (by decide))
    refine ⟨0, g', ?_, fun x => ?_, ?_⟩
    · rw [if_neg (by omega)]; decide
    · rw [t1 x, a1']; rfl
    · exact t2
  · have q2 : A.toInt ≤ left.toInt := by rw [n_lt6] at q; omega
    rw [if_neg q]
    obtain ⟨g', t1, t2⟩ := m_rank2 (τ := τ) (p := p) (r := r) hp (left := left) (A := A) (w := 1) k (Or.inr ⟨rfl, q2⟩) FU 0 g (Nat.zero_le _) (fu_gt (by decide))
    refine ⟨left - A, g', ?_, fun x => ?_, ?_⟩
    · rw [if_pos (by omega), Int64.toInt_sub, a1']
      exact n_bm6 (by omega) (by omega)
    · rw [t1 x, a1']; rfl
    · exact t2
theorem m_payFrom {τ : St} (ho : ir (τ.1 42) 0 99999) (hc : ir (τ.1 43) 0 99999) (hr : ir (τ.1 44) 0 2) {f : Nat → Int32} (hpy : ir f 0 99999) (hf : ∀ x, x < 100 → τ.1 46 x = f x) {p : Nat} (hp : p < 10) (g : Nat → Int32) : ∃ g' : Nat → Int32, (∀ x, g' x = if 10 * p ≤ x ∧ x < 10 * p + 10 then nx (τ.1 42) (τ.1 43) (τ.1 44) f x else g x) ∧ M_payFrom (nI p) (wA τ 47 g) = some (wA τ 47 g') := by
  have h2 : inb (nI p) 10 := n_inb hp (by decide)
  have h3 := n_tn (k := p) (by omega)
  have hcp := hc p
  have key := lp_up (F := fun n i (a : Int64 × Int64) => M_payFrom_L14 (nI p) (wA τ 47 g) n a.1 a.2 i) (c := 10) (K := fun a => M_payFrom_L14 (nI p) (wA τ 47 g) 1 a.1 a.2 (nI 10)) (g := fun i a => (a.1 + Int32.toInt64 (f (10 * i + p)), a.2 + Int32.toInt64 (τ.1 42 (10 * p + i)))) (fun i a => a.1.toInt = (τ.1 43 p).toInt + sI (fun q => (f (10 * q + p)).toInt) i)
    (fun n a _ => by simp only [M_payFrom_L14, show (10 : Int32) ≤ nI 10 by decide, if_true])
    (fun n i a hi hI => by
      have h1 : ¬ (10 : Int32) ≤ nI i := by rw [n_le, k_10, n_ti (by omega)]; omega
      have h4 := in100 hp hi
      have h5 := n_tn (k := 10 * p + i) (by omega)
      have h6 := in100 hi hp
      have h7 := n_tn (k := 10 * i + p) (by omega)
      have e59 : (wA τ 47 g).1 46 (10 * i + p) = f (10 * i + p) := hf _ (by omega)
      have e58 : (wA τ 47 g).1 42 (10 * p + i) = τ.1 42 (10 * p + i) := rfl
      have b1 := sI_nn (f := fun q => (f (10 * q + p)).toInt) (u := 99999) (fun q => hpy (10 * q + p)) i
      have b3 := hpy (10 * i + p)
      refine ⟨?_, ?_⟩
      · simp only [M_payFrom_L14, h1, idx10', if_pos h4, if_pos h6, h5, h7, e59, e58, nI_1, if_false]
      · simp only [sI]
        rw [Int64.toInt_add, Int32.toInt_toInt64, hI]
        rw [n_bm6 (by omega) (by omega)]
        omega)
    FU 0 (Int32.toInt64 (τ.1 43 p), 0) (Nat.zero_le _) (fu_gt (by decide)) (by simp [sI, Int32.toInt_toInt64])
  generalize itr (fun i (a : Int64 × Int64) => (a.1 + Int32.toInt64 (f (10 * i + p)), a.2 + Int32.toInt64 (τ.1 42 (10 * p + i)))) (10 - 0) 0 (Int32.toInt64 (τ.1 43 p), 0) = LA at key
  obtain ⟨k1, k2⟩ := key
  have e61 : (wA τ 47 g).1 43 p = τ.1 43 p := rfl
  have k1' : M_payFrom (nI p) (wA τ 47 g) = M_payFrom_L14 (nI p) (wA τ 47 g) 1 LA.1 LA.2 (nI 10) := by
    unfold M_payFrom
    rw [if_pos h2, h3, e61]
    exact k1
  rw [k1', M_payFrom_L14, if_pos (by decide)]
  have hh : LA.1.toInt = hs (τ.1 43) f p := k2
  have hb := hs_b hc hpy p
  have hrb := hr_b (ra := τ.1 44) ho hc hpy p
  have hdiv : ∀ x, 10 * p ≤ x → x < 10 * p + 10 → x / 10 = p ∧ x % 10 = x - 10 * p := fun x a b => by omega
  obtain ⟨l1, g1, a1, a2, a3⟩ := m_rank ho hr hp (show 0 < 3 by decide) (fun y2 y6 τ => M_payFrom_L64 (nI p) 19999 y2 y6 τ) hh hb.1 (by omega) g
  obtain ⟨l2, g2, b1, b2, b3⟩ := m_rank ho hr hp (show 1 < 3 by decide) (h := hrk (τ.1 42) (τ.1 43) (τ.1 44) f p 1) (fun y2 y6 τ => M_payFrom_L64 (nI p) 19998 y2 y6 τ) a1 (hrb 1).1 (by have := (hrb 1).2; omega) g1
  obtain ⟨l3, g3, c1, c2, c3⟩ := m_rank ho hr hp (show 2 < 3 by decide) (h := hrk (τ.1 42) (τ.1 43) (τ.1 44) f p 2) (fun y2 y6 τ => M_payFrom_L64 (nI p) 19997 y2 y6 τ) b1 (hrb 2).1 (by have := (hrb 2).2; omega) g2
  refine ⟨g3, fun x => ?_, ?_⟩
  · rw [c2 x, b2 x, a2 x]
    by_cases c : 10 * p ≤ x ∧ x < 10 * p + 10
    · rw [if_pos c]
      obtain ⟨d1, d2⟩ := hdiv x c.1 c.2
      unfold nx
      rw [d1, d2]
      have hq := hr (x - 10 * p)
      have z0 : (τ.1 44 (x - 10 * p) = nI 0) ↔ (τ.1 44 (x - 10 * p)).toInt = (0 : Nat) := ra_eq hr (by decide)
      have z1 : (τ.1 44 (x - 10 * p) = nI 1) ↔ (τ.1 44 (x - 10 * p)).toInt = (1 : Nat) := ra_eq hr (by decide)
      have z2 : (τ.1 44 (x - 10 * p) = nI 2) ↔ (τ.1 44 (x - 10 * p)).toInt = (2 : Nat) := ra_eq hr (by decide)
      rcases (show (τ.1 44 (x - 10 * p)).toInt = 0 ∨ (τ.1 44 (x - 10 * p)).toInt = 1 ∨ (τ.1 44 (x - 10 * p)).toInt = 2 by omega) with e | e | e
      · rw [if_neg (fun z => by have := z2.mp z.2.2; omega), if_neg (fun z => by have := z1.mp z.2.2; omega), if_pos ⟨c.1, c.2, z0.mpr e⟩, e]
        rfl
      · rw [if_neg (fun z => by have := z2.mp z.2.2; omega), if_pos ⟨c.1, c.2, z1.mpr e⟩, e]
        rfl
      · rw [if_pos ⟨c.1, c.2, z2.mpr e⟩, e]
        rfl
    · rw [if_neg c, if_neg (fun z => c ⟨z.1, z.2.1⟩), if_neg (fun z => c ⟨z.1, z.2.1⟩), if_neg (fun z => c ⟨z.1, z.2.1⟩)]
  · have s0 : M_payFrom_L64 (nI p) 20000 LA.1 0 (wA τ 47 g) = some (wA τ 47 g3) := by
      have a3' : M_payFrom_L64 (nI p) 20000 LA.1 0 (wA τ 47 g) = M_payFrom_L64 (nI p) 19999 l1 (nI 0 + 1) (wA τ 47 g1) := by
        rw [show (20000 : Nat) = 19999 + 1 from rfl, M_payFrom_L64, if_neg (by decide)]
        exact a3
      have b3' : M_payFrom_L64 (nI p) 19999 l1 (nI 0 + 1) (wA τ 47 g1) = M_payFrom_L64 (nI p) 19998 l2 (nI 1 + 1) (wA τ 47 g2) := by
        rw [show (19999 : Nat) = 19998 + 1 from rfl, M_payFrom_L64, if_neg (by decide)]
        exact b3
      have c3' : M_payFrom_L64 (nI p) 19998 l2 (nI 1 + 1) (wA τ 47 g2) = M_payFrom_L64 (nI p) 19997 l3 (nI 2 + 1) (wA τ 47 g3) := by
        rw [show (19998 : Nat) = 19997 + 1 from rfl, M_payFrom_L64, if_neg (by decide)]
        exact c3
      rw [a3', b3', c3', show (19997 : Nat) = 19996 + 1 from rfl, M_payFrom_L64, if_pos (by decide)]
    exact s0
