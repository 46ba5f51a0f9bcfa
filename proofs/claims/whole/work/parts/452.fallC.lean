/-! the class's payOut -/
theorem wA_wA (σ : St) (k : Nat) (f g : Nat → Int32) : wA (wA σ k f) k g = wA σ k g := by
  unfold wA
  refine Prod.ext ?_ rfl
  funext x
  simp only
  split <;> rfl
theorem ra_eq {ra : Nat → Int32} (hr : ir ra 0 2) {q r : Nat} (hr3 : r < 3) : (ra q = nI r) ↔ (ra q).toInt = r := by
  rw [n_eq, n_ti (by omega)]
theorem c_rank1 {σ : St} (ho : ir (σ.1 58) 0 99999) (hr : ir (σ.1 62) 0 2) {p r : Nat} (hp : p < 10) (hr3 : r < 3) (left : Int32) : ∃ A : Int32, A.toInt = its (σ.1 58) (σ.1 62) p r ∧ Owed_payRank (nI p) (nI r) left σ = if left < A then Owed_payRank_L63 (nI p) (nI r) left A 0 FU 0 σ else Owed_payRank_L63 (nI p) (nI r) left A 1 FU 0 σ := by
  unfold Owed_payRank
  have key := lp_up (F := fun n i a => Owed_payRank_L6 (nI p) (nI r) left σ n a i) (c := 10) (K := fun A => if left < A then Owed_payRank_L63 (nI p) (nI r) left A 0 FU 0 σ else Owed_payRank_L63 (nI p) (nI r) left A 1 FU 0 σ) (g := fun i a => if σ.1 62 i = nI r then a + σ.1 58 (10 * p + i) else a) (fun i a => a.toInt = sI (itf (σ.1 58) (σ.1 62) p r) i)
    (fun n a _ => by simp only [Owed_payRank_L6, show (10 : Int32) ≤ nI 10 by decide, if_true])
    (fun n i a hi hI => by
      have h1 : ¬ (10 : Int32) ≤ nI i := by rw [n_le, k_10, n_ti (by omega)]; omega
      have h2 : inb (nI i) 10 := n_inb hi (by decide)
      have h3 := n_tn (k := i) (by omega)
      have h4 := in100 hp hi
      have h5 := n_tn (k := 10 * p + i) (by omega)
      have b1 := its_nn (ra := σ.1 62) ho p r i
      have b2 := ho (10 * p + i)
      refine ⟨?_, ?_⟩
      · simp only [Owed_payRank_L6, h1, if_pos h2, h3, idx10, if_pos h4, h5, nI_1, if_false]
        split <;> rfl
      · simp only [sI, itf]
        by_cases e : σ.1 62 i = nI r
        · rw [if_pos e, if_pos ((ra_eq hr hr3).mp e), n_add (by omega) (by omega), hI]
        · rw [if_neg e, if_neg (fun w => e ((ra_eq hr hr3).mpr w)), hI]; omega)
    FU 0 0 (Nat.zero_le _) (fu_gt (by decide)) (by rw [n_0]; rfl)
  exact ⟨_, key.2, key.1⟩
theorem c_rank2 {σ : St} {p r : Nat} (hp : p < 10) {left A w : Int32} (hw : (w = 0 ∧ left.toInt < A.toInt ∧ 0 ≤ left.toInt) ∨ (w = 1 ∧ A.toInt ≤ left.toInt)) : ∀ (m i : Nat) (g : Nat → Int32), i ≤ 10 → 10 - i < m → ∃ g' : Nat → Int32, (∀ x, g' x = if 10 * p + i ≤ x ∧ x < 10 * p + 10 ∧ σ.1 62 (x - 10 * p) = nI r then pv (σ.1 58 x) left.toInt A.toInt else g x) ∧ Owed_payRank_L63 (nI p) (nI r) left A w m (nI i) (wA σ 60 g) = some (if w = 0 then 0 else left - A, wA σ 60 g') := by
  intro m
  induction m with
  | zero => intro i g _ hm; omega
  | succ m ih =>
    intro i g hi hm
    rcases Nat.lt_or_ge i 10 with hlt | hge
    · have h1 : ¬ (10 : Int32) ≤ nI i := by rw [n_le, k_10, n_ti (by omega)]; omega
      have h2 : inb (nI i) 10 := n_inb hlt (by decide)
      have h3 := n_tn (k := i) (by omega)
      have h4 := in100 hp hlt
      have h5 := n_tn (k := 10 * p + i) (by omega)
      have e62 : (wA σ 60 g).1 62 i = σ.1 62 i := rfl
      have e58 : ∀ x, (wA σ 60 g).1 58 x = σ.1 58 x := fun _ => rfl
      have hv : σ.1 62 i = nI r → Owed_payRank_L63 (nI p) (nI r) left A w (m + 1) (nI i) (wA σ 60 g) = Owed_payRank_L63 (nI p) (nI r) left A w m (nI (i + 1)) (wA σ 60 (upd g (10 * p + i) (pv (σ.1 58 (10 * p + i)) left.toInt A.toInt))) := by
        intro e
        rcases hw with ⟨w0, w1, w2⟩ | ⟨w0, w1⟩
        · subst w0
          have a1 : ¬ A = 0 := by rw [n_eq, n_0]; omega
          have a2 : ¬ Int32.toInt64 A = 0 := by
            intro z
            have : (Int32.toInt64 A).toInt = 0 := by rw [z]; decide
            rw [Int32.toInt_toInt64] at this
            omega
          have a3 : pv (σ.1 58 (10 * p + i)) left.toInt A.toInt = Int64.toInt32 (Int32.toInt64 (σ.1 58 (10 * p + i)) * Int32.toInt64 left / Int32.toInt64 A) := by
            unfold pv
            rw [if_neg (by omega), e64 (x := left) rfl, e64 (x := A) rfl]
          rw [a3]
          simp only [Owed_payRank_L63, h1, if_pos h2, h3, e62, e, idx10, if_pos h4, h5, e58, a1, a2, wI_wA, nI_1, if_true, if_false, eq_self]
        · subst w0
          have a3 : pv (σ.1 58 (10 * p + i)) left.toInt A.toInt = σ.1 58 (10 * p + i) := by
            unfold pv
            rw [if_pos w1]
          rw [a3]
          simp only [Owed_payRank_L63, h1, if_pos h2, h3, e62, e, idx10, if_pos h4, h5, e58, ne10, l64, wI_wA, nI_1, if_true, if_false, eq_self]
      by_cases e : σ.1 62 i = nI r
      · rw [hv e]
        obtain ⟨g', t1, t2⟩ := ih (i + 1) (upd g (10 * p + i) (pv (σ.1 58 (10 * p + i)) left.toInt A.toInt)) (by omega) (by omega)
        refine ⟨g', fun x => ?_, t2⟩
        rw [t1 x, upd_at]
        by_cases c1 : 10 * p + (i + 1) ≤ x ∧ x < 10 * p + 10 ∧ σ.1 62 (x - 10 * p) = nI r
        · rw [if_pos c1, if_pos ⟨by omega, c1.2.1, c1.2.2⟩]
        · rw [if_neg c1]
          by_cases c2 : x = 10 * p + i
          · subst c2
            rw [if_pos rfl, if_pos ⟨by omega, by omega, by rw [show 10 * p + i - 10 * p = i by omega]; exact e⟩]
          · rw [if_neg c2, if_neg (fun z => c1 ⟨by omega, z.2.1, z.2.2⟩)]
      · have hs : Owed_payRank_L63 (nI p) (nI r) left A w (m + 1) (nI i) (wA σ 60 g) = Owed_payRank_L63 (nI p) (nI r) left A w m (nI (i + 1)) (wA σ 60 g) := by
          simp only [Owed_payRank_L63, h1, if_pos h2, h3, e62, e, nI_1, if_false]
        rw [hs]
        obtain ⟨g', t1, t2⟩ := ih (i + 1) g (by omega) (by omega)
        refine ⟨g', fun x => ?_, t2⟩
        rw [t1 x]
        by_cases c1 : 10 * p + (i + 1) ≤ x ∧ x < 10 * p + 10 ∧ σ.1 62 (x - 10 * p) = nI r
        · rw [if_pos c1, if_pos ⟨by omega, c1.2.1, c1.2.2⟩]
        · rw [if_neg c1, if_neg]
          intro z
          by_cases c2 : x = 10 * p + i
          · subst c2
            rw [show 10 * p + i - 10 * p = i by omega] at z
            exact e z.2.2
          · exact c1 ⟨by omega, z.2.1, z.2.2⟩
    · have e : i = 10 := by omega
      subst e
      refine ⟨g, fun x => ?_, ?_⟩
      · rw [if_neg (by omega)]
      · simp only [Owed_payRank_L63, show (10 : Int32) ≤ nI 10 by decide, if_true]
        split <;> rfl
theorem c_rank {σ : St} (ho : ir (σ.1 58) 0 99999) (hr : ir (σ.1 62) 0 2) {p r : Nat} (hp : p < 10) (hr3 : r < 3) {left : Int32} {h : Int} (hl : left.toInt = h) (hh : 0 ≤ h) (g : Nat → Int32) : ∃ (left' : Int32) (g' : Nat → Int32), left'.toInt = (if its (σ.1 58) (σ.1 62) p r ≤ h then h - its (σ.1 58) (σ.1 62) p r else 0) ∧ (∀ x, g' x = if 10 * p ≤ x ∧ x < 10 * p + 10 ∧ σ.1 62 (x - 10 * p) = nI r then pv (σ.1 58 x) h (its (σ.1 58) (σ.1 62) p r) else g x) ∧ Owed_payRank (nI p) (nI r) left (wA σ 60 g) = some (left', wA σ 60 g') := by
  subst hl
  obtain ⟨A, a1, a2⟩ := c_rank1 (σ := wA σ 60 g) ho hr hp hr3 left
  have a1' : A.toInt = its (σ.1 58) (σ.1 62) p r := a1
  have hrl := n_rng left
  have hi := its_b (ra := σ.1 62) ho p r
  rw [a2]
  by_cases q : left < A
  · have q2 : left.toInt < A.toInt := by rw [n_lt] at q; exact q
    rw [if_pos q]
    obtain ⟨g', t1, t2⟩ := c_rank2 (σ := σ) (p := p) (r := r) hp (left := left) (A := A) (w := 0) (Or.inl ⟨rfl, q2, hh⟩) FU 0 g (Nat.zero_le _) (fu_gt (by decide))
    refine ⟨0, g', ?_, fun x => ?_, ?_⟩
    · rw [if_neg (by omega), n_0]
    · rw [t1 x, a1']; rfl
    · exact t2
  · have q2 : A.toInt ≤ left.toInt := by rw [n_lt] at q; omega
    rw [if_neg q]
    obtain ⟨g', t1, t2⟩ := c_rank2 (σ := σ) (p := p) (r := r) hp (left := left) (A := A) (w := 1) (Or.inr ⟨rfl, q2⟩) FU 0 g (Nat.zero_le _) (fu_gt (by decide))
    refine ⟨left - A, g', ?_, fun x => ?_, ?_⟩
    · rw [if_pos (by omega), n_sub (by omega) (by omega), a1']
    · rw [t1 x, a1']; rfl
    · exact t2
theorem c_payOut {σ : St} (ho : ir (σ.1 58) 0 99999) (hc : ir (σ.1 61) 0 99999) (hr : ir (σ.1 62) 0 2) {f : Nat → Int32} (hpy : ir f 0 99999) (hf : ∀ x, x < 100 → σ.1 59 x = f x) {p : Nat} (hp : p < 10) (g : Nat → Int32) : ∃ g' : Nat → Int32, (∀ x, g' x = if 10 * p ≤ x ∧ x < 10 * p + 10 then nx (σ.1 58) (σ.1 61) (σ.1 62) f x else g x) ∧ Owed_payOut (nI p) (wA σ 60 g) = some (wA σ 60 g') := by
  have h2 : inb (nI p) 10 := n_inb hp (by decide)
  have h3 := n_tn (k := p) (by omega)
  have hcp := hc p
  have key := lp_up (F := fun n i (a : Int32 × Int32) => Owed_payOut_L12 (nI p) (wA σ 60 g) n a.1 a.2 i) (c := 10) (K := fun a => Owed_payOut_L12 (nI p) (wA σ 60 g) 1 a.1 a.2 (nI 10)) (g := fun i a => (a.1 + f (10 * i + p), a.2 + σ.1 58 (10 * p + i))) (fun i a => a.1.toInt = (σ.1 61 p).toInt + sI (fun q => (f (10 * q + p)).toInt) i ∧ a.2.toInt = sI (fun q => (σ.1 58 (10 * p + q)).toInt) i)
    (fun n a _ => by simp only [Owed_payOut_L12, show (10 : Int32) ≤ nI 10 by decide, if_true])
    (fun n i a hi hI => by
      have h1 : ¬ (10 : Int32) ≤ nI i := by rw [n_le, k_10, n_ti (by omega)]; omega
      have h4 := in100 hp hi
      have h5 := n_tn (k := 10 * p + i) (by omega)
      have h6 := in100 hi hp
      have h7 := n_tn (k := 10 * i + p) (by omega)
      have e59 : (wA σ 60 g).1 59 (10 * i + p) = f (10 * i + p) := hf _ (by omega)
      have e58 : (wA σ 60 g).1 58 (10 * p + i) = σ.1 58 (10 * p + i) := rfl
      have b1 := sI_nn (f := fun q => (f (10 * q + p)).toInt) (u := 99999) (fun q => hpy (10 * q + p)) i
      have b2 := sI_nn (f := fun q => (σ.1 58 (10 * p + q)).toInt) (u := 99999) (fun q => ho (10 * p + q)) i
      have b3 := hpy (10 * i + p)
      have b4 := ho (10 * p + i)
      refine ⟨?_, ?_, ?_⟩
      · simp only [Owed_payOut_L12, h1, idx10, if_pos h4, if_pos h6, h5, h7, e59, e58, nI_1, if_false]
      · simp only [sI]
        rw [n_add (by omega) (by omega), hI.1]; omega
      · simp only [sI]
        rw [n_add (by omega) (by omega), hI.2])
    FU 0 (σ.1 61 p, 0) (Nat.zero_le _) (fu_gt (by decide)) ⟨by simp [sI], by simp [sI]⟩
  generalize itr (fun i (a : Int32 × Int32) => (a.1 + f (10 * i + p), a.2 + σ.1 58 (10 * p + i))) (10 - 0) 0 (σ.1 61 p, 0) = LA at key
  obtain ⟨k1, k2, k3⟩ := key
  have e61 : (wA σ 60 g).1 61 p = σ.1 61 p := rfl
  have k1' : Owed_payOut (nI p) (wA σ 60 g) = Owed_payOut_L12 (nI p) (wA σ 60 g) 1 LA.1 LA.2 (nI 10) := by
    unfold Owed_payOut
    rw [if_pos h2, h3, e61]
    exact k1
  rw [k1', Owed_payOut_L12, if_pos (by decide)]
  have hh : LA.1.toInt = hs (σ.1 61) f p := k2
  have hb := hs_b hc hpy p
  have hrb := hr_b (ra := σ.1 62) ho hc hpy p
  have hsum := its_sum (ow := σ.1 58) hr p
  have i0 := its_b (ra := σ.1 62) ho p 0
  have i1 := its_b (ra := σ.1 62) ho p 1
  have i2 := its_b (ra := σ.1 62) ho p 2
  have hdiv : ∀ x, 10 * p ≤ x → x < 10 * p + 10 → x / 10 = p ∧ x % 10 = x - 10 * p := fun x a b => by omega
  have ha : LA.2.toInt = its (σ.1 58) (σ.1 62) p 0 + its (σ.1 58) (σ.1 62) p 1 + its (σ.1 58) (σ.1 62) p 2 := by rw [k3, hsum]
  by_cases q : LA.1 < LA.2
  · rw [if_pos q]
    obtain ⟨l1, g1, a1, a2, a3⟩ := c_rank ho hr hp (show 0 < 3 by decide) hh hb.1 g
    obtain ⟨l2, g2, b1, b2, b3⟩ := c_rank ho hr hp (show 1 < 3 by decide) (h := hrk (σ.1 58) (σ.1 61) (σ.1 62) f p 1) a1 (hrb 1).1 g1
    obtain ⟨l3, g3, c1, c2, c3⟩ := c_rank ho hr hp (show 2 < 3 by decide) (h := hrk (σ.1 58) (σ.1 61) (σ.1 62) f p 2) b1 (hrb 2).1 g2
    refine ⟨g3, fun x => ?_, ?_⟩
    · rw [c2 x, b2 x, a2 x]
      by_cases c : 10 * p ≤ x ∧ x < 10 * p + 10
      · rw [if_pos c]
        obtain ⟨d1, d2⟩ := hdiv x c.1 c.2
        unfold nx
        rw [d1, d2]
        have hq := hr (x - 10 * p)
        have z0 : (σ.1 62 (x - 10 * p) = nI 0) ↔ (σ.1 62 (x - 10 * p)).toInt = (0 : Nat) := ra_eq hr (by decide)
        have z1 : (σ.1 62 (x - 10 * p) = nI 1) ↔ (σ.1 62 (x - 10 * p)).toInt = (1 : Nat) := ra_eq hr (by decide)
        have z2 : (σ.1 62 (x - 10 * p) = nI 2) ↔ (σ.1 62 (x - 10 * p)).toInt = (2 : Nat) := ra_eq hr (by decide)
        rcases (show (σ.1 62 (x - 10 * p)).toInt = 0 ∨ (σ.1 62 (x - 10 * p)).toInt = 1 ∨ (σ.1 62 (x - 10 * p)).toInt = 2 by omega) with e | e | e
        · rw [if_neg (fun z => by have := z2.mp z.2.2; omega), if_neg (fun z => by have := z1.mp z.2.2; omega), if_pos ⟨c.1, c.2, z0.mpr e⟩, e]
          rfl
        · rw [if_neg (fun z => by have := z2.mp z.2.2; omega), if_pos ⟨c.1, c.2, z1.mpr e⟩, e]
          rfl
        · rw [if_pos ⟨c.1, c.2, z2.mpr e⟩, e]
          rfl
      · rw [if_neg c, if_neg (fun z => c ⟨z.1, z.2.1⟩), if_neg (fun z => c ⟨z.1, z.2.1⟩), if_neg (fun z => c ⟨z.1, z.2.1⟩)]
    · have s0 : Owed_payOut_L85 (nI p) 20000 LA.1 0 (wA σ 60 g) = some (wA σ 60 g3) := by
        rw [show (20000 : Nat) = 19996 + 1 + 1 + 1 + 1 from rfl]
        rw [Owed_payOut_L85, if_neg (by decide)]
        have a3' : Owed_payRank (nI p) 0 LA.1 (wA σ 60 g) = some (l1, wA σ 60 g1) := a3
        rw [a3', Option.bind_some, Owed_payOut_L85, if_neg (by decide)]
        have b3' : Owed_payRank (nI p) (0 + 1) l1 (wA σ 60 g1) = some (l2, wA σ 60 g2) := b3
        rw [b3', Option.bind_some, Owed_payOut_L85, if_neg (by decide)]
        have c3' : Owed_payRank (nI p) (0 + 1 + 1) l2 (wA σ 60 g2) = some (l3, wA σ 60 g3) := c3
        rw [c3', Option.bind_some, Owed_payOut_L85, if_pos (by decide)]
      unfold FU
      exact s0
  · rw [if_neg q]
    have q2 : LA.2.toInt ≤ LA.1.toInt := by rw [n_lt] at q; omega
    have ck : cpok (nI p * 10) (nI p * 10) 10 100 100 := by
      have e0 : nI p * (10 : Int32) = nI (10 * p) := by have := idx10 p 0; rw [show nI 0 = 0 by decide, a0] at this; exact this
      rw [e0]
      have t10 : (10 : Int32).toNatClampNeg = 10 := by decide
      refine ⟨⟨?_, ?_, by decide⟩, ?_, ?_⟩
      · rw [n_lt, n_0, n_ti (by omega)]; omega
      · rw [n_lt, n_0, n_ti (by omega)]; omega
      · rw [n_tn (by omega), t10]; omega
      · rw [n_tn (by omega), t10]; omega
    rw [if_pos ck]
    have e0 : nI p * (10 : Int32) = nI (10 * p) := by have := idx10 p 0; rw [show nI 0 = 0 by decide, a0] at this; exact this
    have t10 : (10 : Int32).toNatClampNeg = 10 := by decide
    rw [e0, n_tn (show 10 * p < 2 ^ 31 by omega), t10]
    refine ⟨va_cpy (σ.1 58) g (10 * p) (10 * p) 10, fun x => ?_, by rw [wA_wA]; rfl⟩
    unfold va_cpy
    by_cases c : 10 * p ≤ x ∧ x < 10 * p + 10
    · rw [if_pos c, if_pos c, show 10 * p + (x - 10 * p) = x by omega]
      obtain ⟨d1, d2⟩ := hdiv x c.1 c.2
      unfold nx
      rw [d1, d2]
      have hq := hr (x - 10 * p)
      have r0 : hrk (σ.1 58) (σ.1 61) (σ.1 62) f p 0 = hs (σ.1 61) f p := rfl
      have r1 : hrk (σ.1 58) (σ.1 61) (σ.1 62) f p 1 = hs (σ.1 61) f p - its (σ.1 58) (σ.1 62) p 0 := by
        have w : hrk (σ.1 58) (σ.1 61) (σ.1 62) f p 1 = if its (σ.1 58) (σ.1 62) p 0 ≤ hrk (σ.1 58) (σ.1 61) (σ.1 62) f p 0 then hrk (σ.1 58) (σ.1 61) (σ.1 62) f p 0 - its (σ.1 58) (σ.1 62) p 0 else 0 := rfl
        rw [w, r0, if_pos (by omega)]
      have r2 : hrk (σ.1 58) (σ.1 61) (σ.1 62) f p 2 = hs (σ.1 61) f p - its (σ.1 58) (σ.1 62) p 0 - its (σ.1 58) (σ.1 62) p 1 := by
        have w : hrk (σ.1 58) (σ.1 61) (σ.1 62) f p 2 = if its (σ.1 58) (σ.1 62) p 1 ≤ hrk (σ.1 58) (σ.1 61) (σ.1 62) f p 1 then hrk (σ.1 58) (σ.1 61) (σ.1 62) f p 1 - its (σ.1 58) (σ.1 62) p 1 else 0 := rfl
        rw [w, r1, if_pos (by omega)]
      unfold pv
      rcases (show (σ.1 62 (x - 10 * p)).toInt = 0 ∨ (σ.1 62 (x - 10 * p)).toInt = 1 ∨ (σ.1 62 (x - 10 * p)).toInt = 2 by omega) with e | e | e
      · rw [e, show (0 : Int).toNat = 0 from rfl, r0, if_pos (by omega)]
      · rw [e, show (1 : Int).toNat = 1 from rfl, r1, if_pos (by omega)]
      · rw [e, show (2 : Int).toNat = 2 from rfl, r2, if_pos (by omega)]
    · rw [if_neg c, if_neg c]
