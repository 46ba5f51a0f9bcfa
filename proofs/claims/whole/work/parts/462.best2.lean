/-! gains, best and judge -/
def gnf (ga : Nat → Int32) (x : Int32) (k : Nat) (a : Int32) : Int32 := if hb x k = true then a + ga k else a
def gain (c : Nat) (ga : Nat → Int32) (x : Int32) : Int32 := itr (gnf ga x) c 0 0
theorem gain_0 (c : Nat) (ga : Nat → Int32) : gain c ga 0 = 0 := by
  unfold gain
  have : ∀ k i, itr (gnf ga 0) k i 0 = 0 := by
    intro k
    induction k with
    | zero => intro i; simp only [itr]
    | succ k ih =>
      intro i
      have e : gnf ga 0 i 0 = 0 := by unfold gnf; rw [hb_0]; simp
      show itr (gnf ga 0) k (i + 1) (gnf ga 0 i 0) = 0
      rw [e]; exact ih (i + 1)
  exact this c 0
theorem c_gain {σ : St} {c : Nat} (hc9 : c ≤ 9) (ec : σ.1 67 6 = nI c) (x : Int32) : Offers_gainOfSet x σ = some (gain c (σ.1 72) x) := by
  unfold Offers_gainOfSet gain
  exact lp_u0 (F := fun n i a => Offers_gainOfSet_L4 x σ n a i) (c := c) (K := fun a => some a) (g := gnf (σ.1 72) x)
    (fun n a => by simp only [Offers_gainOfSet_L4, ec, n_cmpE, if_true])
    (fun n i a hi => by
      have q1 : ¬ nI c ≤ nI i := n_cmp hi (by omega)
      have i1 : inb (nI i) 9 := n_inb (by omega) (by decide)
      have i2 := n_tn (k := i) (by omega)
      have tk := tb_iff x (b := i) (by omega)
      simp only [Offers_gainOfSet_L4, ec, q1, if_false, if_pos i1, i2, nI_1, gnf]
      cases q : hb x i
      · rw [if_pos (tk.mpr q), if_neg (by simp)]
      · rw [if_neg (by rw [tk, q]; simp), if_pos rfl]) FU 0 (fu_gt (by omega))
theorem m_gain {τ : St} {c : Nat} (hc9 : c ≤ 9) (ec : τ.1 0 68 = nI c) (x : Int32) : M_gainOf x τ = some (gain c (τ.1 58) x) := by
  unfold M_gainOf gain
  exact lp_u0 (F := fun n i a => M_gainOf_L4 x τ n a i) (c := c) (K := fun a => some a) (g := gnf (τ.1 58) x)
    (fun n a => by simp only [M_gainOf_L4, ec, n_cmpE, if_true])
    (fun n i a hi => by
      have q1 : ¬ nI c ≤ nI i := n_cmp hi (by omega)
      have i1 : inb (nI i) 9 := n_inb (by omega) (by decide)
      have i2 := n_tn (k := i) (by omega)
      rw [M_gainOf_L4, ec, if_neg q1, g_hasBit x (by omega)]
      simp only [Option.bind_some, if_pos i1, i2, nI_1, gnf, Int32.add_zero]
      cases hb x i <;> simp) FU 0 (fu_gt (by omega))
noncomputable def bsf (c : Nat) (ba ho ro cr ga tr : Nat → Int32) (i : Nat) (cur : Int32) : Int32 := @ite Int32 (mbP c ba ho ro cr tr (nI i) ∧ ¬ gain c ga (nI i) ≤ gain c ga cur) (Classical.propDecidable _) (nI i) cur
noncomputable def best (c : Nat) (ba ho ro cr ga tr : Nat → Int32) : Int32 := itr (bsf c ba ho ro cr ga tr) (2 ^ c - 1) 1 0
theorem bsf_y {c : Nat} {ba ho ro cr ga tr : Nat → Int32} {i : Nat} {cur : Int32} (h : mbP c ba ho ro cr tr (nI i)) (h2 : ¬ gain c ga (nI i) ≤ gain c ga cur) : bsf c ba ho ro cr ga tr i cur = nI i := by unfold bsf; rw [if_pos ⟨h, h2⟩]
theorem bsf_n {c : Nat} {ba ho ro cr ga tr : Nat → Int32} {i : Nat} {cur : Int32} (h : ¬ mbP c ba ho ro cr tr (nI i)) : bsf c ba ho ro cr ga tr i cur = cur := by unfold bsf; rw [if_neg (fun z => h z.1)]
theorem bsf_m {c : Nat} {ba ho ro cr ga tr : Nat → Int32} {i : Nat} {cur : Int32} (h2 : gain c ga (nI i) ≤ gain c ga cur) : bsf c ba ho ro cr ga tr i cur = cur := by unfold bsf; rw [if_neg (fun z => z.2 h2)]
theorem pw : ∀ c : Fin 10, (1 : Int32) <<< (nI c.val &&& 31) = nI (2 ^ c.val) := by decide
theorem pw6 : ∀ c : Fin 10, ((1 : Int64) <<< (Int32.toInt64 (nI c.val) &&& 63) - 1).toInt = (nI (2 ^ c.val)).toInt - 1 := by decide
theorem pwb : ∀ c : Fin 10, 1 ≤ 2 ^ c.val ∧ 2 ^ c.val ≤ 512 := by decide
theorem wI67 (σ : St) (o g : Nat → Int32) (i : Nat) (v : Int32) : wI (wA (wA σ 67 o) 73 g) 67 i v = wA (wA σ 67 (upd o i v)) 73 g := by
  unfold wI wA
  refine Prod.ext ?_ rfl
  funext x
  simp only
  by_cases a : x = 67
  · subst a; rfl
  · by_cases b : x = 73
    · subst b; rfl
    · rw [if_neg a, if_neg b, if_neg a, if_neg b, if_neg a]
theorem c_plan {σ : St} {c : Nat} (hc9 : c ≤ 9) (ib : ir (σ.1 68) 0 5) (ih' : ir (σ.1 69) 0 3) (ir' : ir (σ.1 70) 0 9) (ic : ir (σ.1 71) 0 999999) : ∀ (k m i : Nat) (cur : Int32) (o g : Nat → Int32), i + k = 2 ^ c → k < m → o 6 = nI c → o 7 = cur → o 8 = gain c (σ.1 72) cur → ∃ o' g' : Nat → Int32, o' 6 = nI c ∧ o' 7 = itr (bsf c (σ.1 68) (σ.1 69) (σ.1 70) (σ.1 71) (σ.1 72) (σ.1 5)) k i cur ∧ o' 8 = gain c (σ.1 72) (itr (bsf c (σ.1 68) (σ.1 69) (σ.1 70) (σ.1 71) (σ.1 72) (σ.1 5)) k i cur) ∧ Offers_plan_L20 m (nI i) (wA (wA σ 67 o) 73 g) = some (wA (wA σ 67 o') 73 g') := by
  have p2 := pwb ⟨c, by omega⟩
  simp only at p2
  have p1 := pw ⟨c, by omega⟩
  simp only at p1
  intro k
  induction k with
  | zero =>
    intro m i cur o g hi hm h6 h7 h8
    obtain ⟨m, rfl⟩ : ∃ m', m = m' + 1 := ⟨m - 1, by omega⟩
    have e : i = 2 ^ c := by omega
    subst e
    refine ⟨upd o 9 1, g, ?_, ?_, ?_, ?_⟩
    · rw [upd_at, if_neg (by decide)]; exact h6
    · rw [upd_at, if_neg (by decide)]; simp only [itr]; exact h7
    · rw [upd_at, if_neg (by decide)]; simp only [itr]; exact h8
    · have e6 : (wA (wA σ 67 o) 73 g).1 67 6 = nI c := h6
      rw [Offers_plan_L20, e6, p1, if_pos (n_cmpE _), wI67]
  | succ k ih =>
    intro m i cur o g hi hm h6 h7 h8
    obtain ⟨m, rfl⟩ : ∃ m', m = m' + 1 := ⟨m - 1, by omega⟩
    have q1 : ¬ nI (2 ^ c) ≤ nI i := n_cmp (by omega) (by omega)
    have e6 : (wA (wA σ 67 o) 73 g).1 67 6 = nI c := h6
    have e8 : (wA (wA σ 67 o) 73 g).1 67 8 = gain c (σ.1 72) cur := h8
    have eg : Offers_gainOfSet (nI i) (wA (wA σ 67 o) 73 g) = some (gain c (σ.1 72) (nI i)) := c_gain hc9 e6 (nI i)
    show ∃ o' g' : Nat → Int32, o' 6 = nI c ∧ o' 7 = itr (bsf c (σ.1 68) (σ.1 69) (σ.1 70) (σ.1 71) (σ.1 72) (σ.1 5)) k (i + 1) (bsf c (σ.1 68) (σ.1 69) (σ.1 70) (σ.1 71) (σ.1 72) (σ.1 5) i cur) ∧ o' 8 = gain c (σ.1 72) (itr (bsf c (σ.1 68) (σ.1 69) (σ.1 70) (σ.1 71) (σ.1 72) (σ.1 5)) k (i + 1) (bsf c (σ.1 68) (σ.1 69) (σ.1 70) (σ.1 71) (σ.1 72) (σ.1 5) i cur)) ∧ _
    rw [Offers_plan_L20, e6, p1, if_neg q1, eg, Option.bind_some, e8]
    by_cases qg : gain c (σ.1 72) (nI i) ≤ gain c (σ.1 72) cur
    · rw [if_pos qg, bsf_m qg, nI_1]
      exact ih m (i + 1) cur o g (by omega) (by omega) h6 h7 h8
    · rw [if_neg qg]
      obtain ⟨b, g1, b1, b2⟩ := c_mayBe (σ := wA σ 67 o) hc9 h6 ib ih' ir' ic (nI i) g
      rw [b1, Option.bind_some]
      have b2 : b = true ↔ mbP c (σ.1 68) (σ.1 69) (σ.1 70) (σ.1 71) (σ.1 5) (nI i) := b2
      cases b
      · rw [if_neg (by simp), nI_1, bsf_n (fun z => by have := b2.mpr z; cases this)]
        exact ih m (i + 1) cur o g1 (by omega) (by omega) h6 h7 h8
      · rw [if_pos rfl, nI_1, bsf_y (b2.mp rfl) qg, wI67, wI67]
        refine ih m (i + 1) (nI i) _ g1 (by omega) (by omega) ?_ ?_ ?_
        · rw [upd_at, if_neg (by decide), upd_at, if_neg (by decide)]; exact h6
        · rw [upd_at, if_neg (by decide), upd_at, if_pos rfl]
        · rw [upd_at, if_pos rfl]
theorem m_bestL {τ : St} {c ch : Nat} (hc9 : c ≤ 9) (hh4 : ch ≤ 4) (ec : τ.1 0 68 = nI c) (eh : τ.1 0 3 = nI ch) (it : ir (τ.1 4) 0 1000000) (iho : ir (τ.1 55) 0 3) (ic : ir (τ.1 57) 0 999999) (dK : ∀ i : Nat, i < c → (τ.1 55 i).toInt < ch) (x1 : Int32) : ∀ (k m i : Nat) (cur : Int32), i + k = 2 ^ c → k < m → M_best_L17 x1 τ m cur (nI i) = if x1 = 0 then some (itr (bsf c (τ.1 54) (τ.1 55) (τ.1 56) (τ.1 57) (τ.1 58) (τ.1 4)) k i cur) else some (gain c (τ.1 58) (itr (bsf c (τ.1 54) (τ.1 55) (τ.1 56) (τ.1 57) (τ.1 58) (τ.1 4)) k i cur)) := by
  have p2 := pwb ⟨c, by omega⟩
  simp only at p2
  have p1 := pw ⟨c, by omega⟩
  simp only at p1
  intro k
  induction k with
  | zero =>
    intro m i cur hi hm
    obtain ⟨m, rfl⟩ : ∃ m', m = m' + 1 := ⟨m - 1, by omega⟩
    have e : i = 2 ^ c := by omega
    subst e
    rw [M_best_L17, ec, p1, if_pos (n_cmpE _), m_gain hc9 ec]
    simp only [itr, Option.bind_some]
  | succ k ih =>
    intro m i cur hi hm
    obtain ⟨m, rfl⟩ : ∃ m', m = m' + 1 := ⟨m - 1, by omega⟩
    have q1 : ¬ nI (2 ^ c) ≤ nI i := n_cmp (by omega) (by omega)
    show _ = if x1 = 0 then some (itr (bsf c (τ.1 54) (τ.1 55) (τ.1 56) (τ.1 57) (τ.1 58) (τ.1 4)) k (i + 1) (bsf c (τ.1 54) (τ.1 55) (τ.1 56) (τ.1 57) (τ.1 58) (τ.1 4) i cur)) else some (gain c (τ.1 58) (itr (bsf c (τ.1 54) (τ.1 55) (τ.1 56) (τ.1 57) (τ.1 58) (τ.1 4)) k (i + 1) (bsf c (τ.1 54) (τ.1 55) (τ.1 56) (τ.1 57) (τ.1 58) (τ.1 4) i cur)))
    obtain ⟨b, b1, b2⟩ := m_mayBe hc9 hh4 ec eh it iho ic dK (nI i)
    rw [M_best_L17, ec, p1, if_neg q1, b1, Option.bind_some]
    cases b
    · rw [if_neg (by simp), nI_1, bsf_n (fun z => by have := b2.mpr z; cases this)]
      exact ih m (i + 1) cur (by omega) (by omega)
    · rw [if_pos rfl, m_gain hc9 ec, m_gain hc9 ec, Option.bind_some, Option.bind_some]
      by_cases qg : gain c (τ.1 58) (nI i) ≤ gain c (τ.1 58) cur
      · rw [if_pos qg, bsf_m qg, nI_1]
        exact ih m (i + 1) cur (by omega) (by omega)
      · rw [if_neg qg, bsf_y (b2.mp rfl) qg, nI_1]
        exact ih m (i + 1) (nI i) (by omega) (by omega)
def cO (σ : St) : Prop := σ.1 67 9 = 0 ∨ ∀ c : Nat, c ≤ 9 → σ.1 67 6 = nI c → σ.1 67 7 = best c (σ.1 68) (σ.1 69) (σ.1 70) (σ.1 71) (σ.1 72) (σ.1 5) ∧ σ.1 67 8 = gain c (σ.1 72) (best c (σ.1 68) (σ.1 69) (σ.1 70) (σ.1 71) (σ.1 72) (σ.1 5))
theorem mb_c {c : Nat} {ba ho ro cr tr tr' : Nat → Int32} (h : ∀ k, k < c → tr' (ho k).toNatClampNeg = tr (ho k).toNatClampNeg) (x : Int32) : mbP c ba ho ro cr tr' x ↔ mbP c ba ho ro cr tr x := by
  unfold mbP OK
  constructor
  · rintro ⟨a, b⟩
    exact ⟨a, fun k k1 k2 => by rw [← h k k1]; exact b k k1 k2⟩
  · rintro ⟨a, b⟩
    exact ⟨a, fun k k1 k2 => by rw [h k k1]; exact b k k1 k2⟩
theorem best_c {c : Nat} {ba ho ro cr ga tr tr' : Nat → Int32} (h : ∀ k, k < c → tr' (ho k).toNatClampNeg = tr (ho k).toNatClampNeg) : best c ba ho ro cr ga tr' = best c ba ho ro cr ga tr := by
  unfold best
  have : bsf c ba ho ro cr ga tr' = bsf c ba ho ro cr ga tr := by
    funext i cur
    by_cases q : mbP c ba ho ro cr tr (nI i)
    · by_cases g : gain c ga (nI i) ≤ gain c ga cur
      · rw [bsf_m g, bsf_m g]
      · rw [bsf_y q g, bsf_y ((mb_c h _).mpr q) g]
    · rw [bsf_n q, bsf_n (fun z => q ((mb_c h _).mp z))]
  rw [this]
theorem cO_s {n : Nat} {σ σ' τ : St} (h : Rel0 n σ τ) (c : cO σ) (s : sO σ σ') : cO σ' := by
  obtain ⟨hA, hB, hC, hD, hE, hS, hF, hG, hH, hI, hJ, hK, hL, hM⟩ := id h
  obtain ⟨_, cK, iK1, iK2, iK3, iK4, iK5, dK⟩ := id hK
  rcases s with s | ⟨s1, s2, s3, s4, s5, s6, s7, s8, s9, s10⟩
  · exact Or.inl s
  · rcases c with c | c
    · exact Or.inl (by rw [s1, c])
    · right
      intro m hm em
      rw [s2] at em
      have := c m hm em
      rw [s3, s4, s5, s6, s7, s8, s9]
      rw [best_c (tr := σ.1 5) (tr' := σ'.1 5) (fun k hk => s10 _ (by
        have d := dK k (by rw [em, n_ti (by omega)]; omega)
        have i2 := iK2 k
        obtain ⟨j, hj, e⟩ := nI_of' (u := 3) i2.1 i2.2 (by decide)
        rw [e] at d ⊢
        rw [n_ti (by omega)] at d
        rw [n_tn (by omega)]
        exact d))]
      exact this
theorem op_best {n : Nat} {σ τ : St} (h : Rel0 n σ τ) (hO : cO σ) (x1 : Int32) : ∃ r σ', P_best x1 σ = some (r, σ') ∧ M_best x1 τ = some r ∧ Rel0 n σ' τ ∧ sN σ σ' ∧ sW σ σ' ∧ cO σ' := by
  obtain ⟨hA, hB, hC, hD, hE, hS, hF, hG, hH, hI, hJ, hK, hL, hM⟩ := id h
  obtain ⟨⟨eA1, eA2, eA3, eA4, eA5, eA6, eA7⟩, ⟨cA1, cA2, cA3⟩, iA1, iA2, iA3, iA4⟩ := id hA
  obtain ⟨⟨eK1, eK2, eK3, eK4, eK5, eK6⟩, cK, iK1, iK2, iK3, iK4, iK5, dK⟩ := id hK
  obtain ⟨c, hc9, ec⟩ := cK
  obtain ⟨ch, hch, ech⟩ := cA3
  have p2 := pwb ⟨c, by omega⟩
  simp only at p2
  unfold P_best M_best
  rw [g_below, g_in1]
  simp only [Option.bind_some]
  cases hx : bw x1 2
  · exact ⟨_, _, rfl, rfl, h, (sx_refl σ).1, (sx_refl σ).2.1, hO⟩
  · simp only [if_true]
    have mm := m_bestL (τ := τ) hc9 hch (by rw [← eK1]; exact ec) (by rw [← eA3]; exact ech) (by rw [← eA7]; exact iA4) (by rw [← eK3]; exact iK2) (by rw [← eK5]; exact iK4) (fun i hi => by
      have := dK i (by rw [ec, n_ti (by omega)]; omega)
      rw [ech, n_ti (by omega), eK3] at this
      exact this) x1 (2 ^ c - 1) FU 1 0 (by omega) (fu_gt (by omega))
    have mm' : M_best_L17 x1 τ FU 0 1 = if x1 = 0 then some (best c (σ.1 68) (σ.1 69) (σ.1 70) (σ.1 71) (σ.1 72) (σ.1 5)) else some (gain c (σ.1 72) (best c (σ.1 68) (σ.1 69) (σ.1 70) (σ.1 71) (σ.1 72) (σ.1 5))) := by
      rw [eK2, eK3, eK4, eK5, eK6, eA7]
      exact mm
    rw [mm']
    have pl : ∃ σ', Offers_plan σ = some σ' ∧ σ'.1 67 7 = best c (σ.1 68) (σ.1 69) (σ.1 70) (σ.1 71) (σ.1 72) (σ.1 5) ∧ σ'.1 67 8 = gain c (σ.1 72) (best c (σ.1 68) (σ.1 69) (σ.1 70) (σ.1 71) (σ.1 72) (σ.1 5)) ∧ Rel0 n σ' τ ∧ sN σ σ' ∧ sW σ σ' ∧ cO σ' := by
      unfold Offers_plan
      by_cases q : σ.1 67 9 = 0
      · rw [if_pos q]
        obtain ⟨o', g', a6, a7, a8, a9⟩ := c_plan (σ := σ) hc9 iK1 iK2 iK3 iK4 (2 ^ c - 1) FU 1 0 (upd (upd (σ.1 67) 7 0) 8 0) (σ.1 73) (by omega) (fu_gt (by omega)) (by rw [upd_at, if_neg (by decide), upd_at, if_neg (by decide)]; exact ec) (by rw [upd_at, if_neg (by decide), upd_at, if_pos rfl]) (by rw [upd_at, if_pos rfl, gain_0])
        have st : wI (wI σ 67 7 0) 67 8 0 = wA (wA σ 67 (upd (upd (σ.1 67) 7 0) 8 0)) 73 (σ.1 73) := by
          rw [show wA (wA σ 67 (upd (upd (σ.1 67) 7 0) 8 0)) 73 (σ.1 73) = wA σ 67 (upd (upd (σ.1 67) 7 0) 8 0) from wA_id (wA σ 67 (upd (upd (σ.1 67) 7 0) 8 0)) 73]
          unfold wI wA
          refine Prod.ext ?_ rfl
          funext x
          simp only
          by_cases a : x = 67
          · subst a; rfl
          · rw [if_neg a, if_neg a, if_neg a]
        refine ⟨wA (wA σ 67 o') 73 g', ?_, a7, a8, ?_, (sx_refl σ).1, (sx_refl σ).2.1, ?_⟩
        · rw [st]; exact a9
        · have k2 : rK (σ.1 1 6) (o' 6) (σ.1 68) (σ.1 69) (σ.1 70) (σ.1 71) (σ.1 72) (τ.1 0 68) (τ.1 54) (τ.1 55) (τ.1 56) (τ.1 57) (τ.1 58) := by
            rw [a6, ← ec]; exact hK
          exact ⟨hA, hB, hC, hD, hE, hS, hF, hG, hH, hI, hJ, k2, hL, hM⟩
        · right
          intro d hd ed
          have : nI d = nI c := by rw [← ed]; exact a6
          rw [nI_inj (by omega) (by omega)] at this
          subst this
          exact ⟨a7, a8⟩
      · rw [if_neg q]
        rcases hO with w | w
        · exact absurd w q
        · obtain ⟨w1, w2⟩ := w c hc9 ec
          exact ⟨σ, rfl, w1, w2, h, (sx_refl σ).1, (sx_refl σ).2.1, Or.inr w⟩
    obtain ⟨σ', p1, p3, p4, p5, p6, p7, p8⟩ := pl
    rw [p1]
    simp only [Option.bind_some]
    by_cases z : x1 = 0
    · rw [if_pos z, if_pos z]
      exact ⟨_, _, rfl, by rw [p3], p5, p6, p7, p8⟩
    · rw [if_neg z, if_neg z]
      exact ⟨_, _, rfl, by rw [p4], p5, p6, p7, p8⟩
theorem op_judge {n : Nat} {σ τ : St} (h : Rel0 n σ τ) (x1 : Int32) : ∃ r σ', P_judge x1 σ = some (r, σ') ∧ M_judge x1 τ = some r ∧ Rel0 n σ' τ ∧ Sx σ σ' := by
  obtain ⟨hA, hB, hC, hD, hE, hS, hF, hG, hH, hI, hJ, hK, hL, hM⟩ := id h
  obtain ⟨⟨eA1, eA2, eA3, eA4, eA5, eA6, eA7⟩, ⟨cA1, cA2, cA3⟩, iA1, iA2, iA3, iA4⟩ := id hA
  obtain ⟨⟨eK1, eK2, eK3, eK4, eK5, eK6⟩, cK, iK1, iK2, iK3, iK4, iK5, dK⟩ := id hK
  obtain ⟨c, hc9, ec⟩ := cK
  obtain ⟨ch, hch, ech⟩ := cA3
  have p1 := pw ⟨c, by omega⟩
  have p6 := pw6 ⟨c, by omega⟩
  simp only at p1 p6
  unfold P_judge M_judge
  have gg : M_in (Int32.toInt64 x1) 0 ((1 : Int64) <<< (Int32.toInt64 (τ.1 0 68) &&& 63) - 1) τ = some (bw x1 (nI (2 ^ c))) := g_inB τ (by rw [← eK1, ec]; exact p6)
  rw [g_below, gg, ec, p1]
  simp only [Option.bind_some]
  cases hx : bw x1 (nI (2 ^ c))
  · exact ⟨_, _, rfl, rfl, h, sx_refl σ⟩
  · simp only [if_true]
    obtain ⟨b, b1, b2⟩ := m_mayBe (τ := τ) hc9 hch (by rw [← eK1]; exact ec) (by rw [← eA3]; exact ech) (by rw [← eA7]; exact iA4) (by rw [← eK3]; exact iK2) (by rw [← eK5]; exact iK4) (fun i hi => by
      have := dK i (by rw [ec, n_ti (by omega)]; omega)
      rw [ech, n_ti (by omega), eK3] at this
      exact this) x1
    obtain ⟨d, g, d1, d2⟩ := c_mayBe hc9 ec iK1 iK2 iK3 iK4 x1 (σ.1 73)
    rw [wA_id] at d1
    have bd : b = d := by
      rw [eK2, eK3, eK4, eK5, eA7, ← b2] at d2
      cases b <;> cases d <;> simp_all
    subst bd
    rw [b1, d1]
    simp only [Option.bind_some]
    cases b
    · exact ⟨_, _, rfl, rfl, h, sx_refl σ⟩
    · exact ⟨_, _, rfl, rfl, h, sx_refl σ⟩
