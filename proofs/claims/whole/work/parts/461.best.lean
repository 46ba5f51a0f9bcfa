/-! best and judge -/
theorem sI_le {f : Nat → Int} (h : ∀ q, 0 ≤ f q) : ∀ {a b : Nat}, a ≤ b → sI f a ≤ sI f b := by
  intro a b hab
  induction b with
  | zero => have : a = 0 := by omega
            subst this; exact Int.le_refl _
  | succ b ih =>
    by_cases e : a = b + 1
    · subst e; exact Int.le_refl _
    · have := ih (by omega)
      simp only [sI]
      have := h b
      omega
def smf (ho cr : Nat → Int32) (x h : Int32) (j : Nat) : Int := if hb x j = true ∧ ho j = h then (cr j).toInt else 0
def sm (ho cr : Nat → Int32) (x h : Int32) (m : Nat) : Int := sI (smf ho cr x h) m
theorem smf_nn {ho cr : Nat → Int32} (hc : ir cr 0 999999) (x h : Int32) (q : Nat) : 0 ≤ smf ho cr x h q ∧ smf ho cr x h q ≤ 999999 := by
  unfold smf
  have := hc q
  split <;> omega
theorem sm_b {ho cr : Nat → Int32} (hc : ir cr 0 999999) (x h : Int32) (m : Nat) : 0 ≤ sm ho cr x h m ∧ sm ho cr x h m ≤ 999999 * m := sI_nn (smf_nn hc x h) m
theorem sm_le {ho cr : Nat → Int32} (hc : ir cr 0 999999) (x h : Int32) {a b : Nat} (hab : a ≤ b) : sm ho cr x h a ≤ sm ho cr x h b := sI_le (fun q => (smf_nn hc x h q).1) hab
theorem sm_s {ho cr : Nat → Int32} (x h : Int32) (m : Nat) : sm ho cr x h (m + 1) = sm ho cr x h m + smf ho cr x h m := rfl
/-- no two of one band or of one round -/
def NC (ba ro : Nat → Int32) (x : Int32) (m : Nat) : Prop := ∀ i j : Nat, j < i → i < m → hb x i = true → hb x j = true → ba i ≠ ba j ∧ ro i ≠ ro j
/-- no house beyond its trust -/
def OK (ho cr tr : Nat → Int32) (x : Int32) (m : Nat) : Prop := ∀ k : Nat, k < m → hb x k = true → sm ho cr x (ho k) m ≤ (tr (ho k).toNatClampNeg).toInt
def mbP (c : Nat) (ba ho ro cr tr : Nat → Int32) (x : Int32) : Prop := NC ba ro x c ∧ OK ho cr tr x c
theorem nI_of' {x : Int32} {u : Nat} (h : 0 ≤ x.toInt) (h2 : x.toInt ≤ u) (hu : u < 2147483648) : ∃ k : Nat, k ≤ u ∧ x = nI k := by
  obtain ⟨j, hj, e⟩ := nI_of (x := x) (by rw [n_lt, n_0]; omega)
  subst e
  rw [n_ti hj] at h2
  exact ⟨j, by omega, rfl⟩
theorem nI_inj {a b : Nat} (ha : a < 2147483648) (hb : b < 2147483648) : nI a = nI b ↔ a = b := by
  rw [n_eq, n_ti ha, n_ti hb]; omega
theorem c_may {σ : St} {c : Nat} (hc9 : c ≤ 9) (ec : σ.1 67 6 = nI c) (ib : ir (σ.1 68) 0 5) (ih' : ir (σ.1 69) 0 3) (ir' : ir (σ.1 70) 0 9) (ic : ir (σ.1 71) 0 999999) (x : Int32) : ∀ (m k : Nat) (x3 x4 : Int32) (g : Nat → Int32), k ≤ c → c - k < m →
    (∀ b, b < 32 → (hb x3 b = true ↔ ∃ j, j < k ∧ hb x j = true ∧ σ.1 68 j = nI b)) → (∀ b, b < 32 → (hb x4 b = true ↔ ∃ j, j < k ∧ hb x j = true ∧ σ.1 70 j = nI b)) → (∀ h, h < 4 → (g h).toInt = sm (σ.1 69) (σ.1 71) x (nI h) k) → NC (σ.1 68) (σ.1 70) x k → OK (σ.1 69) (σ.1 71) (σ.1 5) x k →
    ∃ (b : Bool) (g' : Nat → Int32), Offers_mayBe_L35 x m x3 x4 (nI k) (wA σ 73 g) = some (b, wA σ 73 g') ∧ (b = true ↔ mbP c (σ.1 68) (σ.1 69) (σ.1 70) (σ.1 71) (σ.1 5) x) := by
  intro m
  induction m with
  | zero => intro k x3 x4 g _ hm; omega
  | succ m ih =>
    intro k x3 x4 g hk hm h3 h4 hg hN hO
    have e67 : (wA σ 73 g).1 67 6 = nI c := ec
    rcases Nat.lt_or_ge k c with hlt | hge
    · have q1 : ¬ nI c ≤ nI k := n_cmp hlt (by omega)
      have tk := tb_iff x (b := k) (by omega)
      cases hbk : hb x k
      · -- not in the set
        have st : Offers_mayBe_L35 x (m + 1) x3 x4 (nI k) (wA σ 73 g) = Offers_mayBe_L35 x m x3 x4 (nI (k + 1)) (wA σ 73 g) := by
          rw [Offers_mayBe_L35, e67, if_neg q1, if_pos (tk.mpr hbk), nI_1]
        rw [st]
        have ex : ∀ (f : Nat → Int32) (v : Int32), (∃ j, j < k + 1 ∧ hb x j = true ∧ f j = v) ↔ ∃ j, j < k ∧ hb x j = true ∧ f j = v := by
          intro f v
          constructor
          · rintro ⟨j, j1, j2, j3⟩
            refine ⟨j, ?_, j2, j3⟩
            rcases Nat.lt_or_ge j k with z | z
            · exact z
            · have : j = k := by omega
              subst this; rw [hbk] at j2; cases j2
          · rintro ⟨j, j1, j2, j3⟩; exact ⟨j, by omega, j2, j3⟩
        have es : ∀ h, sm (σ.1 69) (σ.1 71) x h (k + 1) = sm (σ.1 69) (σ.1 71) x h k := by
          intro h; rw [sm_s]; unfold smf; rw [if_neg (by rw [hbk]; simp)]; omega
        apply ih (k + 1) x3 x4 g (by omega) (by omega)
        · intro b hb'; rw [ex]; exact h3 b hb'
        · intro b hb'; rw [ex]; exact h4 b hb'
        · intro h hh; rw [es]; exact hg h hh
        · intro i j ji ik bi bj
          by_cases e : i = k
          · subst e; rw [hbk] at bi; cases bi
          · exact hN i j ji (by omega) bi bj
        · intro k' hk' b'
          rw [es]
          by_cases e : k' = k
          · subst e; rw [hbk] at b'; cases b'
          · exact hO k' (by omega) b'
      · have i1 : inb (nI k) 9 := n_inb (by omega) (by decide)
        have i2 := n_tn (k := k) (by omega)
        have q2 : ¬ ((x >>> (nI k &&& 31)) &&& 1 = 0) := by rw [tk, hbk]; simp
        obtain ⟨b, hb5, eb⟩ := nI_of' (u := 5) (ib k).1 (ib k).2 (by decide)
        obtain ⟨r, hr9, er⟩ := nI_of' (u := 9) (ir' k).1 (ir' k).2 (by decide)
        obtain ⟨h, hh3, eh⟩ := nI_of' (u := 3) (ih' k).1 (ih' k).2 (by decide)
        have e68 : (wA σ 73 g).1 68 k = nI b := eb
        have e70 : (wA σ 73 g).1 70 k = nI r := er
        have e69 : (wA σ 73 g).1 69 k = nI h := eh
        have e71 : (wA σ 73 g).1 71 k = σ.1 71 k := rfl
        have e5 : ∀ z, (wA σ 73 g).1 5 z = σ.1 5 z := fun _ => rfl
        have e73 : ∀ z, (wA σ 73 g).1 73 z = g z := fun _ => rfl
        have t3 := tb_iff x3 (b := b) (by omega)
        have t4 := tb_iff x4 (b := r) (by omega)
        cases hb3 : hb x3 b
        · cases hb4 : hb x4 r
          · have i3 : inb (nI h) 4 := n_inb (by omega) (by decide)
            have i4 := n_tn (k := h) (by omega)
            have st : Offers_mayBe_L35 x (m + 1) x3 x4 (nI k) (wA σ 73 g) = if g h + σ.1 71 k ≤ σ.1 5 h then Offers_mayBe_L35 x m (x3 ||| ((1 : Int32) <<< (nI b &&& 31))) (x4 ||| ((1 : Int32) <<< (nI r &&& 31))) (nI (k + 1)) (wA σ 73 (upd g h (g h + σ.1 71 k))) else some (false, wA σ 73 (upd g h (g h + σ.1 71 k))) := by
              have u1 : (wA σ 73 (upd g h (g h + σ.1 71 k))).1 73 h = g h + σ.1 71 k := by show upd g h _ h = _; rw [upd_at, if_pos rfl]
              simp only [Offers_mayBe_L35, e67, q1, q2, if_false, if_pos i1, i2, e68, e70, e69, e71, if_pos i3, i4, e73, e5, if_pos (t3.mpr hb3), if_pos (t4.mpr hb4), wI_wA, u1, nI_1]
            rw [st]
            have hgh := hg h (by omega)
            have b1 := sm_b (ho := σ.1 69) ic x (nI h) k
            have b2 := ic k
            have sum : (g h + σ.1 71 k).toInt = sm (σ.1 69) (σ.1 71) x (nI h) (k + 1) := by
              rw [n_add (by omega) (by omega), hgh, sm_s]
              unfold smf
              rw [if_pos ⟨hbk, eh⟩]
            have nb : ∀ j, j < k → hb x j = true → σ.1 68 k ≠ σ.1 68 j ∧ σ.1 70 k ≠ σ.1 70 j := by
              intro j jk bj
              constructor
              · intro e
                have := (h3 b (by omega)).mpr ⟨j, jk, bj, by rw [← e, eb]⟩
                rw [hb3] at this; cases this
              · intro e
                have := (h4 r (by omega)).mpr ⟨j, jk, bj, by rw [← e, er]⟩
                rw [hb4] at this; cases this
            by_cases qt : g h + σ.1 71 k ≤ σ.1 5 h
            · rw [if_pos qt]
              have qt' : sm (σ.1 69) (σ.1 71) x (nI h) (k + 1) ≤ (σ.1 5 h).toInt := by rw [← sum]; rw [n_le] at qt; exact qt
              apply ih (k + 1) _ _ _ (by omega) (by omega)
              · intro b' hb'
                rw [tb_or x3 (by omega) hb']
                simp only [Bool.or_eq_true, decide_eq_true_eq]
                rw [h3 b' hb']
                constructor
                · rintro (⟨j, j1, j2, j3⟩ | e)
                  · exact ⟨j, by omega, j2, j3⟩
                  · subst e; exact ⟨k, by omega, hbk, eb⟩
                · rintro ⟨j, j1, j2, j3⟩
                  by_cases e : j = k
                  · subst e; right
                    rw [eb, nI_inj (by omega) (by omega)] at j3; exact j3.symm
                  · exact Or.inl ⟨j, by omega, j2, j3⟩
              · intro b' hb'
                rw [tb_or x4 (by omega) hb']
                simp only [Bool.or_eq_true, decide_eq_true_eq]
                rw [h4 b' hb']
                constructor
                · rintro (⟨j, j1, j2, j3⟩ | e)
                  · exact ⟨j, by omega, j2, j3⟩
                  · subst e; exact ⟨k, by omega, hbk, er⟩
                · rintro ⟨j, j1, j2, j3⟩
                  by_cases e : j = k
                  · subst e; right
                    rw [er, nI_inj (by omega) (by omega)] at j3; exact j3.symm
                  · exact Or.inl ⟨j, by omega, j2, j3⟩
              · intro h' hh'
                rw [upd_at]
                by_cases e : h' = h
                · subst e; rw [if_pos rfl]; exact sum
                · rw [if_neg e, sm_s, hg h' hh']
                  unfold smf
                  rw [if_neg (fun z => e (by have := z.2; rw [eh, nI_inj (by omega) (by omega)] at this; exact this.symm))]
                  omega
              · intro i j ji ik bi bj
                by_cases e : i = k
                · subst e; exact nb j ji bj
                · exact hN i j ji (by omega) bi bj
              · intro k' hk' b'
                by_cases e : σ.1 69 k' = nI h
                · rw [e, i4]; exact qt'
                · have e2 : k' ≠ k := fun z => e (by rw [z]; exact eh)
                  rw [sm_s]
                  unfold smf
                  rw [if_neg (fun z => e (by rw [← z.2]; exact eh))]
                  have := hO k' (by omega) b'
                  omega
            · rw [if_neg qt]
              refine ⟨false, _, rfl, ?_⟩
              constructor
              · intro z; cases z
              · intro z
                exfalso
                apply qt
                rw [n_le, sum]
                have := z.2 k hlt hbk
                rw [eh, i4] at this
                have := sm_le (ho := σ.1 69) ic x (nI h) (show k + 1 ≤ c by omega)
                omega
          · have st : Offers_mayBe_L35 x (m + 1) x3 x4 (nI k) (wA σ 73 g) = some (false, wA σ 73 g) := by
              have q4 : ¬ ((x4 >>> (nI r &&& 31)) &&& 1 = 0) := by rw [t4, hb4]; simp
              simp only [Offers_mayBe_L35, e67, q1, q2, if_false, if_pos i1, i2, e68, e70, if_pos (t3.mpr hb3), if_neg q4]
            rw [st]
            refine ⟨false, _, rfl, ?_⟩
            constructor
            · intro z; cases z
            · intro z
              exfalso
              obtain ⟨j, j1, j2, j3⟩ := (h4 r (by omega)).mp hb4
              exact (z.1 k j j1 hlt hbk j2).2 (by rw [er, j3])
        · have st : Offers_mayBe_L35 x (m + 1) x3 x4 (nI k) (wA σ 73 g) = some (false, wA σ 73 g) := by
            have q3 : ¬ ((x3 >>> (nI b &&& 31)) &&& 1 = 0) := by rw [t3, hb3]; simp
            simp only [Offers_mayBe_L35, e67, q1, q2, if_false, if_pos i1, i2, e68, if_neg q3]
          rw [st]
          refine ⟨false, _, rfl, ?_⟩
          constructor
          · intro z; cases z
          · intro z
            exfalso
            obtain ⟨j, j1, j2, j3⟩ := (h3 b (by omega)).mp hb3
            exact (z.1 k j j1 hlt hbk j2).1 (by rw [eb, j3])
    · have e : k = c := by omega
      subst e
      refine ⟨true, g, ?_, ?_⟩
      · rw [Offers_mayBe_L35, e67, if_pos (n_cmpE k)]
      · exact ⟨fun _ => ⟨hN, hO⟩, fun _ => rfl⟩
theorem c_lent {σ : St} (x x3 x4 : Int32) : ∀ (m i : Nat) (g : Nat → Int32), i ≤ 4 → 4 - i < m → ∃ g' : Nat → Int32, (∀ z, g' z = if i ≤ z ∧ z < 4 then 0 else g z) ∧ Offers_mayBe_L8 x x3 x4 m (nI i) (wA σ 73 g) = Offers_mayBe_L35 x FU x3 x4 0 (wA σ 73 g') := by
  intro m
  induction m with
  | zero => intro i g _ hm; omega
  | succ m ih =>
    intro i g hi hm
    rcases Nat.lt_or_ge i 4 with hlt | hge
    · have h1 : ¬ (4 : Int32) ≤ nI i := by rw [n_le, show (4 : Int32).toInt = 4 by decide, n_ti (by omega)]; omega
      have h2 : inb (nI i) 4 := n_inb hlt (by decide)
      have h3 := n_tn (k := i) (by omega)
      have step : Offers_mayBe_L8 x x3 x4 (m + 1) (nI i) (wA σ 73 g) = Offers_mayBe_L8 x x3 x4 m (nI (i + 1)) (wA σ 73 (upd g i 0)) := by
        simp only [Offers_mayBe_L8, h1, if_pos h2, h3, wI_wA, nI_1, if_false]
      rw [step]
      obtain ⟨g', t1, t3⟩ := ih (i + 1) (upd g i 0) (by omega) (by omega)
      refine ⟨g', fun z => ?_, t3⟩
      rw [t1 z, upd_at]
      by_cases c1 : i + 1 ≤ z ∧ z < 4
      · rw [if_pos c1, if_pos ⟨by omega, c1.2⟩]
      · rw [if_neg c1]
        by_cases c2 : z = i
        · subst c2; rw [if_pos rfl, if_pos ⟨Nat.le_refl _, hlt⟩]
        · rw [if_neg c2, if_neg (by omega)]
    · have e : i = 4 := by omega
      subst e
      refine ⟨g, fun x => by rw [if_neg (by omega)], ?_⟩
      rw [Offers_mayBe_L8, if_pos (by decide)]
theorem c_mayBe {σ : St} {c : Nat} (hc9 : c ≤ 9) (ec : σ.1 67 6 = nI c) (ib : ir (σ.1 68) 0 5) (ih' : ir (σ.1 69) 0 3) (ir' : ir (σ.1 70) 0 9) (ic : ir (σ.1 71) 0 999999) (x : Int32) (g : Nat → Int32) : ∃ (b : Bool) (g' : Nat → Int32), Offers_mayBe x (wA σ 73 g) = some (b, wA σ 73 g') ∧ (b = true ↔ mbP c (σ.1 68) (σ.1 69) (σ.1 70) (σ.1 71) (σ.1 5) x) := by
  unfold Offers_mayBe
  obtain ⟨g1, a1, a2⟩ := c_lent (σ := σ) x 0 0 FU 0 g (by omega) (fu_gt (by decide))
  have a2' : Offers_mayBe_L8 x 0 0 FU 0 (wA σ 73 g) = Offers_mayBe_L35 x FU 0 0 0 (wA σ 73 g1) := a2
  rw [a2']
  refine c_may hc9 ec ib ih' ir' ic x FU 0 0 0 g1 (by omega) (fu_gt (by omega)) ?_ ?_ ?_ ?_ ?_
  · intro b _; rw [hb_0]; simp
  · intro b _; rw [hb_0]; simp
  · intro h hh; rw [a1 h, if_pos ⟨by omega, hh⟩]; rfl
  · intro i j _ hi; omega
  · intro k hk; omega
/-! the model's -/
theorem m_pairs {τ : St} {c i : Nat} (hc9 : c ≤ 9) (hi : i < c) (x : Int32) (k4 : Int32 → Int32 → Option Bool) : ∀ (m j : Nat) (b : Bool), j ≤ i → i - j < m → ∃ b' : Bool, (b' = true ↔ b = true ∧ ∀ j', j ≤ j' → j' < i → hb x i = true → hb x j' = true → τ.1 54 i ≠ τ.1 54 j' ∧ τ.1 56 i ≠ τ.1 56 j') ∧ M_mayBe_L15 x (nI i) τ k4 m (bi b) (nI j) = k4 (bi b') (nI i + 1) := by
  intro m
  induction m with
  | zero => intro j b _ hm; omega
  | succ m ih =>
    intro j b hj hm
    rcases Nat.lt_or_ge j i with hlt | hge
    · have q1 : ¬ nI i ≤ nI j := n_cmp hlt (by omega)
      have i1 : inb (nI i) 9 := n_inb (by omega) (by decide)
      have i2 := n_tn (k := i) (by omega)
      have j1 : inb (nI j) 9 := n_inb (by omega) (by decide)
      have j2 := n_tn (k := j) (by omega)
      have st : ∃ d : Bool, (d = true ↔ b = true ∧ (hb x i = true → hb x j = true → τ.1 54 i ≠ τ.1 54 j ∧ τ.1 56 i ≠ τ.1 56 j)) ∧ M_mayBe_L15 x (nI i) τ k4 (m + 1) (bi b) (nI j) = M_mayBe_L15 x (nI i) τ k4 m (bi d) (nI (j + 1)) := by
        rw [M_mayBe_L15, if_neg q1, g_hasBit x (by omega), g_hasBit x (by omega)]
        simp only [Option.bind_some, if_pos i1, if_pos j1, i2, j2, nI_1]
        cases b
        · refine ⟨false, by simp, ?_⟩
          simp only [bi_f, if_true]
          split
          · split <;> rfl
          · rfl
        · simp only [bi_t, show ¬ (1 : Int32) = 0 by decide, if_false]
          cases hb x i
          · exact ⟨true, by simp, rfl⟩
          · cases hb x j
            · exact ⟨true, by simp, rfl⟩
            · by_cases e1 : τ.1 54 i = τ.1 54 j
              · exact ⟨false, by simp [e1], by simp [e1, bi_f]⟩
              · by_cases e2 : τ.1 56 i = τ.1 56 j
                · exact ⟨false, by simp [e2], by simp [e1, e2, bi_f]⟩
                · exact ⟨true, by simp [e1, e2], by simp [e1, e2, bi_t]⟩
      obtain ⟨d, d1, d2⟩ := st
      obtain ⟨b', t1, t2⟩ := ih (j + 1) d (by omega) (by omega)
      refine ⟨b', ?_, by rw [d2, t2]⟩
      rw [t1, d1]
      constructor
      · rintro ⟨⟨a1, a2⟩, a3⟩
        refine ⟨a1, fun j' z1 z2 z3 z4 => ?_⟩
        by_cases e : j' = j
        · subst e; exact a2 z3 z4
        · exact a3 j' (by omega) z2 z3 z4
      · rintro ⟨a1, a2⟩
        exact ⟨⟨a1, a2 j (Nat.le_refl _) hlt⟩, fun j' z1 => a2 j' (by omega)⟩
    · have e : j = i := by omega
      subst e
      refine ⟨b, ?_, ?_⟩
      · constructor
        · intro z; exact ⟨z, fun j' z1 z2 => by omega⟩
        · exact fun z => z.1
      · rw [M_mayBe_L15, if_pos (n_cmpE j)]
theorem m_all {τ : St} {c : Nat} (hc9 : c ≤ 9) (ec : τ.1 0 68 = nI c) (x : Int32) : ∀ (m i : Nat) (b : Bool), i ≤ c → c - i < m → ∃ b' : Bool, (b' = true ↔ b = true ∧ ∀ i' j', i ≤ i' → i' < c → j' < i' → hb x i' = true → hb x j' = true → τ.1 54 i' ≠ τ.1 54 j' ∧ τ.1 56 i' ≠ τ.1 56 j') ∧ M_mayBe_L4 x τ m (bi b) (nI i) = M_mayBe_L108 x τ FU (bi b') 0 := by
  intro m
  induction m with
  | zero => intro i b _ hm; omega
  | succ m ih =>
    intro i b hi hm
    rcases Nat.lt_or_ge i c with hlt | hge
    · have q1 : ¬ nI c ≤ nI i := n_cmp hlt (by omega)
      obtain ⟨d, d1, d2⟩ := m_pairs (τ := τ) hc9 hlt x (fun y2 y3 => M_mayBe_L4 x τ m y2 y3) FU 0 b (by omega) (fu_gt (by omega))
      have d2' : M_mayBe_L15 x (nI i) τ (fun y2 y3 => M_mayBe_L4 x τ m y2 y3) FU (bi b) 0 = M_mayBe_L4 x τ m (bi d) (nI i + 1) := d2
      obtain ⟨b', t1, t2⟩ := ih (i + 1) d (by omega) (by omega)
      refine ⟨b', ?_, by rw [M_mayBe_L4, ec, if_neg q1, d2', nI_1, t2]⟩
      rw [t1, d1]
      constructor
      · rintro ⟨⟨a1, a2⟩, a3⟩
        refine ⟨a1, fun i' j' z1 z2 z3 z4 z5 => ?_⟩
        by_cases e : i' = i
        · subst e; exact a2 j' (by omega) z3 z4 z5
        · exact a3 i' j' (by omega) z2 z3 z4 z5
      · rintro ⟨a1, a2⟩
        exact ⟨⟨a1, fun j' z1 z2 => a2 i j' (Nat.le_refl _) hlt z2⟩, fun i' j' z1 => a2 i' j' (by omega)⟩
    · have e : i = c := by omega
      subst e
      refine ⟨b, ?_, ?_⟩
      · constructor
        · intro z; exact ⟨z, fun i' j' z1 z2 => by omega⟩
        · exact fun z => z.1
      · rw [M_mayBe_L4, ec, if_pos (n_cmpE i)]
theorem m_sum {τ : St} {c h : Nat} (hc9 : c ≤ 9) (hh : h < 4) (ec : τ.1 0 68 = nI c) (ic : ir (τ.1 57) 0 999999) (x : Int32) (b : Bool) (k : Int32 → Int32 → Option Bool) : ∃ b' : Bool, (b' = true ↔ b = true ∧ sm (τ.1 55) (τ.1 57) x (nI h) c ≤ (τ.1 4 h).toInt) ∧ M_mayBe_L122 x (bi b) (nI h) τ k FU 0 0 = k (bi b') (nI h + 1) := by
  have key := lp_up (F := fun n i a => M_mayBe_L122 x (bi b) (nI h) τ k n a i) (c := c) (K := fun a => M_mayBe_L122 x (bi b) (nI h) τ k 1 a (nI c)) (g := fun i a => if hb x i = true ∧ τ.1 55 i = nI h then a + τ.1 57 i else a) (fun i a => a.toInt = sm (τ.1 55) (τ.1 57) x (nI h) i)
    (fun n a _ => by simp only [M_mayBe_L122, ec, n_cmpE, if_true])
    (fun n i a hi hI => by
      have q1 : ¬ nI c ≤ nI i := n_cmp hi (by omega)
      have i1 : inb (nI i) 9 := n_inb (by omega) (by decide)
      have i2 := n_tn (k := i) (by omega)
      have b1 := sm_b (ho := τ.1 55) ic x (nI h) i
      have b2 := ic i
      refine ⟨?_, ?_⟩
      · rw [M_mayBe_L122, ec, if_neg q1, g_hasBit x (by omega)]
        simp only [Option.bind_some, if_pos i1, i2, nI_1, Int32.add_zero]
        cases hb x i
        · simp
        · by_cases e : τ.1 55 i = nI h
          · simp [e]
          · simp [e]
      · rw [sm_s]
        unfold smf
        split
        · rw [n_add (by omega) (by omega), hI]
        · rw [hI]; omega)
    FU 0 0 (Nat.zero_le _) (fu_gt (by omega)) (by rw [n_0]; rfl)
  generalize itr (fun i (a : Int32) => if hb x i = true ∧ τ.1 55 i = nI h then a + τ.1 57 i else a) (c - 0) 0 0 = A at key
  obtain ⟨k1, k2⟩ := key
  have k1' : M_mayBe_L122 x (bi b) (nI h) τ k FU 0 0 = M_mayBe_L122 x (bi b) (nI h) τ k 1 A (nI c) := k1
  have i3 : inb (nI h) 4 := n_inb (by omega) (by decide)
  have i4 := n_tn (k := h) (by omega)
  rw [k1', M_mayBe_L122, ec, if_pos (n_cmpE c), if_pos i3, i4]
  cases b
  · exact ⟨false, by simp, rfl⟩
  · rw [bi_t, if_neg (by decide)]
    by_cases q : τ.1 4 h < A
    · rw [if_pos q]
      refine ⟨false, ?_, rfl⟩
      rw [n_lt] at q
      constructor
      · intro z; cases z
      · intro z; omega
    · rw [if_neg q]
      refine ⟨true, ?_, rfl⟩
      rw [n_lt] at q
      constructor
      · intro z; exact ⟨rfl, by omega⟩
      · intro _; rfl
theorem m_houses {τ : St} {c ch : Nat} (hc9 : c ≤ 9) (hh4 : ch ≤ 4) (ec : τ.1 0 68 = nI c) (eh : τ.1 0 3 = nI ch) (ic : ir (τ.1 57) 0 999999) (x : Int32) : ∀ (m h : Nat) (b : Bool), h ≤ ch → ch - h < m → ∃ b' : Bool, (b' = true ↔ b = true ∧ ∀ h', h ≤ h' → h' < ch → sm (τ.1 55) (τ.1 57) x (nI h') c ≤ (τ.1 4 h').toInt) ∧ M_mayBe_L108 x τ m (bi b) (nI h) = some b' := by
  intro m
  induction m with
  | zero => intro h b _ hm; omega
  | succ m ih =>
    intro h b hi hm
    rcases Nat.lt_or_ge h ch with hlt | hge
    · have q1 : ¬ nI ch ≤ nI h := n_cmp hlt (by omega)
      obtain ⟨d, d1, d2⟩ := m_sum (τ := τ) hc9 (show h < 4 by omega) ec ic x b (fun y2 y3 => M_mayBe_L108 x τ m y2 y3)
      obtain ⟨b', t1, t2⟩ := ih (h + 1) d (by omega) (by omega)
      refine ⟨b', ?_, by rw [M_mayBe_L108, eh, if_neg q1, d2, nI_1, t2]⟩
      rw [t1, d1]
      constructor
      · rintro ⟨⟨a1, a2⟩, a3⟩
        refine ⟨a1, fun h' z1 z2 => ?_⟩
        by_cases e : h' = h
        · subst e; exact a2
        · exact a3 h' (by omega) z2
      · rintro ⟨a1, a2⟩
        exact ⟨⟨a1, a2 h (Nat.le_refl _) hlt⟩, fun h' z1 => a2 h' (by omega)⟩
    · have e : h = ch := by omega
      subst e
      refine ⟨b, ?_, ?_⟩
      · constructor
        · intro z; exact ⟨z, fun i' z1 z2 => by omega⟩
        · exact fun z => z.1
      · rw [M_mayBe_L108, eh, if_pos (n_cmpE h)]
        cases b
        · rfl
        · rfl
theorem m_mayBe {τ : St} {c ch : Nat} (hc9 : c ≤ 9) (hh4 : ch ≤ 4) (ec : τ.1 0 68 = nI c) (eh : τ.1 0 3 = nI ch) (it : ir (τ.1 4) 0 1000000) (iho : ir (τ.1 55) 0 3) (ic : ir (τ.1 57) 0 999999) (dK : ∀ i : Nat, i < c → (τ.1 55 i).toInt < ch) (x : Int32) : ∃ b : Bool, M_mayBe x τ = some b ∧ (b = true ↔ mbP c (τ.1 54) (τ.1 55) (τ.1 56) (τ.1 57) (τ.1 4) x) := by
  unfold M_mayBe
  obtain ⟨d, d1, d2⟩ := m_all (τ := τ) hc9 ec x FU 0 true (by omega) (fu_gt (by omega))
  obtain ⟨b, t1, t2⟩ := m_houses (τ := τ) hc9 hh4 ec eh ic x FU 0 d (by omega) (fu_gt (by omega))
  refine ⟨b, ?_, ?_⟩
  · have d2' : M_mayBe_L4 x τ FU 1 0 = M_mayBe_L108 x τ FU (bi d) 0 := d2
    rw [d2']; exact t2
  · rw [t1, d1]
    constructor
    · rintro ⟨⟨_, a1⟩, a2⟩
      refine ⟨fun i j ji ic bi bj => a1 i j (by omega) ic ji bi bj, fun k hk bk => ?_⟩
      obtain ⟨h, hh3, e⟩ := nI_of' (u := 3) (iho k).1 (iho k).2 (by decide)
      have := dK k hk
      rw [e, n_ti (by omega)] at this
      rw [e, n_tn (by omega)]
      exact a2 h (by omega) (by omega)
    · rintro ⟨a1, a2⟩
      refine ⟨⟨rfl, fun i j _ ic ji bi bj => a1 i j ji ic bi bj⟩, fun h _ hh => ?_⟩
      by_cases q : ∃ k, k < c ∧ hb x k = true ∧ τ.1 55 k = nI h
      · obtain ⟨k, k1, k2, k3⟩ := q
        have := a2 k k1 k2
        rw [k3, n_tn (by omega)] at this
        exact this
      · have z : sm (τ.1 55) (τ.1 57) x (nI h) c = 0 := by
          unfold sm
          have : ∀ m, m ≤ c → sI (smf (τ.1 55) (τ.1 57) x (nI h)) m = 0 := by
            intro m
            induction m with
            | zero => intro _; rfl
            | succ m ih =>
              intro hm
              simp only [sI]
              rw [ih (by omega)]
              unfold smf
              rw [if_neg (fun z => q ⟨m, by omega, z.1, z.2⟩)]
              omega
          exact this c (Nat.le_refl _)
        rw [z]; exact (it h).1
