/-! news, the model -/
def mS (τ : St) (G : Nat → Int32) (K : Nat → Int64) : St := (fun a => if a = 19 then G else τ.1 a, fun a => if a = 18 then K else τ.2 a)
theorem mS_id (τ : St) : mS τ (τ.1 19) (τ.2 18) = τ := by
  unfold mS
  have e1 : (fun a => if a = 19 then τ.1 19 else τ.1 a) = τ.1 := by
    funext a
    split
    · rename_i h; rw [h]
    · rfl
  have e2 : (fun a => if a = 18 then τ.2 18 else τ.2 a) = τ.2 := by
    funext a
    split
    · rename_i h; rw [h]
    · rfl
  rw [e1, e2]
theorem mS_19 (τ : St) (G : Nat → Int32) (K : Nat → Int64) (i : Nat) (v : Int32) : wI (mS τ G K) 19 i v = mS τ (upd G i v) K := by
  unfold mS wI
  simp only [Prod.mk.injEq, and_true]
  funext a
  by_cases h : a = 19
  · subst h; simp
  · simp [h]
theorem mS_18 (τ : St) (G : Nat → Int32) (K : Nat → Int64) (i : Nat) (v : Int64) : wL (mS τ G K) 18 i v = mS τ G (vp_updL K i v) := by
  unfold mS wL
  simp only [Prod.mk.injEq, true_and]
  funext a
  by_cases h : a = 18
  · subst h; simp
  · simp [h]
def ML (D : ND) (cb cp : Nat) (τ : St) : Prop := τ.1 0 8 = nI (dS D) ∧ τ.1 5 = dWo D ∧ τ.1 6 = dWa D ∧ τ.1 7 = dFr D ∧ τ.1 8 = dTo D ∧ τ.1 0 17 = nI (dC D) ∧ τ.1 17 = dDa D ∧ (∀ e, e < dC D → τ.1 10 (τ.1 12 e).toNatClampNeg = dBq D e ∧ inb (τ.1 12 e) 12) ∧
  (cb ≤ 6 ∧ τ.1 0 2 = nI cb ∧ ∀ i, i < dS D → (dWo D i).toInt < cb) ∧ (cp ≤ 16 ∧ τ.1 0 1 = nI cp ∧ ∀ i, i < dS D → (dWa D i).toInt < cp)
def nIm (S : Int → Prop) (x a : Int32) : Prop := (a = -9 ∧ ∀ d, S d → d ≤ x.toInt) ∨ (S a.toInt ∧ 0 ≤ a.toInt ∧ x.toInt < a.toInt ∧ ∀ d, S d → x.toInt < d → a.toInt ≤ d)
def nMm (x v a : Int32) : Int32 := if v ≤ x then a else if a < 0 then v else if a ≤ v then a else v
theorem nMm_is {S : Int → Prop} {x v a : Int32} (hv : 0 ≤ v.toInt) (h : nIm S x a) : nIm (fun d => S d ∨ v.toInt = d) x (nMm x v a) := by
  unfold nMm
  by_cases q : v ≤ x
  · rw [if_pos q]
    rw [n_le] at q
    rcases h with ⟨h1, h2⟩ | ⟨h1, h0, h2, h3⟩
    · exact Or.inl ⟨h1, fun d hd => by
        rcases hd with hd | hd
        · exact h2 d hd
        · omega⟩
    · exact Or.inr ⟨Or.inl h1, h0, h2, fun d hd hx => by
        rcases hd with hd | hd
        · exact h3 d hd hx
        · omega⟩
  · rw [if_neg q]
    rw [n_le] at q
    by_cases y : a < 0
    · rw [if_pos y]
      rw [n_lt, n_0] at y
      refine Or.inr ⟨Or.inr rfl, hv, by omega, fun d hd hx => ?_⟩
      rcases hd with hd | hd
      · rcases h with ⟨h1, h2⟩ | ⟨h1, h0, h2, h3⟩
        · have := h2 d hd; omega
        · omega
      · omega
    · rw [if_neg y]
      rw [n_lt, n_0] at y
      rcases h with ⟨h1, h2⟩ | ⟨h1, h0, h2, h3⟩
      · exact absurd (by rw [h1]; decide) y
      · by_cases p : a ≤ v
        · rw [if_pos p]
          rw [n_le] at p
          exact Or.inr ⟨Or.inl h1, h0, h2, fun d hd hx => by
            rcases hd with hd | hd
            · exact h3 d hd hx
            · omega⟩
        · rw [if_neg p]
          rw [n_le] at p
          refine Or.inr ⟨Or.inr rfl, hv, by omega, fun d hd hx => ?_⟩
          rcases hd with hd | hd
          · have := h3 d hd hx; omega
          · omega
theorem nIm_c {S S' : Int → Prop} {x a : Int32} (hs : ∀ d, S d ↔ S' d) (h : nIm S x a) : nIm S' x a := by
  have e : S = S' := funext fun d => propext (hs d)
  subst e; exact h
theorem m_nextD {D : ND} (ok : dOk D) {cb cp : Nat} {τ : St} (hm : ML D cb cp τ) (x : Int32) : M_nextDay x τ = some (if 10000 ≤ nNext D x then -9 else nNext D x) := by
  obtain ⟨c1, c2, c3, c4, c5, c6, c7, c8, c9, c10⟩ := hm
  have o1 := ok.1
  have o2 := ok.2.1
  have o3 := ok.2.2.1
  have o4 := ok.2.2.2.1
  obtain ⟨a1, e1, h1⟩ := lp_ex (F := fun n i a => M_nextDay_L5 x τ n a i) (c := dC D) (K := fun a => M_nextDay_L56 x τ FU a 0) (fun i a => nIm (fun d => ∃ j, j < i ∧ (dDa D j).toInt = d) x a)
    (fun n a _ => by
      show M_nextDay_L5 _ _ _ _ _ = _
      rw [M_nextDay_L5, c6, if_pos (n_cmpE _)])
    (fun n i a hi hI => by
      refine ⟨nMm x (dDa D i) a, ?_, nIm_c (fun d => ?_) (nMm_is (o4 i).1 hI)⟩
      · show M_nextDay_L5 _ _ _ _ _ = M_nextDay_L5 _ _ _ _ _
        rw [M_nextDay_L5, c6, if_neg (n_cmp hi (by omega))]
        simp only [if_pos (show inb (nI i) 60 from n_inb (by omega) (by decide)), n_tn (show i < 2 ^ 31 by omega), c7, nI_1]
        unfold nMm
        split
        · rfl
        · split
          · rfl
          · split <;> rfl
      · constructor
        · rintro (⟨j, j1, j2⟩ | z)
          · exact ⟨j, by omega, j2⟩
          · exact ⟨i, by omega, z⟩
        · rintro ⟨j, j1, j2⟩
          by_cases e : j = i
          · subst e; exact Or.inr j2
          · exact Or.inl ⟨j, by omega, j2⟩)
    FU 0 (-9) (Nat.zero_le _) (fu_gt (by omega)) (Or.inl ⟨rfl, fun d hd => by obtain ⟨j, j1, _⟩ := hd; omega⟩)
  obtain ⟨a2, e2, h2⟩ := lp_ex (F := fun n i a => M_nextDay_L56 x τ n a i) (c := dS D) (K := fun a => some a) (fun i a => nIm (fun d => (∃ j, j < dC D ∧ (dDa D j).toInt = d) ∨ ∃ j, j < i ∧ (dFr D j).toInt = d) x a)
    (fun n a _ => by
      show M_nextDay_L56 _ _ _ _ _ = _
      rw [M_nextDay_L56, c1, if_pos (n_cmpE _)])
    (fun n i a hi hI => by
      refine ⟨nMm x (dFr D i) a, ?_, nIm_c (fun d => ?_) (nMm_is (o3 i).1 hI)⟩
      · show M_nextDay_L56 _ _ _ _ _ = M_nextDay_L56 _ _ _ _ _
        rw [M_nextDay_L56, c1, if_neg (n_cmp hi (by omega))]
        simp only [if_pos (show inb (nI i) 40 from n_inb (by omega) (by decide)), n_tn (show i < 2 ^ 31 by omega), c4, nI_1]
        unfold nMm
        split
        · rfl
        · split
          · rfl
          · split <;> rfl
      · constructor
        · rintro ((z | ⟨j, j1, j2⟩) | z)
          · exact Or.inl z
          · exact Or.inr ⟨j, by omega, j2⟩
          · exact Or.inr ⟨i, by omega, z⟩
        · rintro (z | ⟨j, j1, j2⟩)
          · exact Or.inl (Or.inl z)
          · by_cases e : j = i
            · subst e; exact Or.inr j2
            · exact Or.inl (Or.inr ⟨j, by omega, j2⟩))
    FU 0 a1 (Nat.zero_le _) (fu_gt (by omega)) (nIm_c (fun d => by
      constructor
      · intro z; exact Or.inl z
      · rintro (z | ⟨j, j1, _⟩)
        · exact z
        · omega) h1)
  have h3 : nIm (nSt D) x a2 := nIm_c (fun d => by unfold nSt; exact or_comm) h2
  unfold M_nextDay
  refine (e1.trans e2).trans ?_
  have h4 := nNext_is ok x
  congr 1
  by_cases q : 10000 ≤ nNext D x
  · rw [if_pos q]
    rw [n_le, n_10000] at q
    rcases h3 with ⟨z, _⟩ | ⟨z1, z2, z3, z4⟩
    · exact z
    · exfalso
      rcases h4 with ⟨y1, y2⟩ | ⟨y1, y2, y3⟩
      · have := y2 _ z1; omega
      · have := nSt_b ok y1; omega
  · rw [if_neg q]
    rw [n_le, n_10000] at q
    rcases h4 with ⟨y1, y2⟩ | ⟨y1, y2, y3⟩
    · omega
    · rcases h3 with ⟨z, z1⟩ | ⟨z1, z2, z3, z4⟩
      · have := z1 _ y1; omega
      · have t1 := y3 _ z1 z3
        have t2 := z4 _ y1 y2
        rw [n_eq]; omega
theorem m_hearD {D : ND} (ok : dOk D) {cb cp : Nat} {τ : St} (hm : ML D cb cp τ) (d : Int32) {K : KB} {G : Nat → Int32} {H : Nat → Int64} (h : Bt H K) : ∃ H', M_shareOn d (mS τ G H) = M_shareOn_L50 d FU 0 (mS τ G H') ∧ Bt H' (nHear D d K) := by
  obtain ⟨c1, c2, c3, c4, c5, c6, c7, c8, c9, c10⟩ := hm
  have o2 := ok.2.1
  have o8 := ok.2.2.2.2.2.2.2
  obtain ⟨H', e, hh⟩ := lp_ex (F := fun n i H => M_shareOn_L2 d n i (mS τ G H)) (c := dC D) (K := fun H => M_shareOn_L50 d FU 0 (mS τ G H)) (fun i H => Bt H (nHr D d K i))
    (fun n a _ => by
      show M_shareOn_L2 _ _ _ _ = _
      rw [M_shareOn_L2, show (mS τ G a).1 0 17 = nI (dC D) from c6, if_pos (n_cmpE _)])
    (fun n i a hi hI => by
      obtain ⟨b, hb, eb⟩ := nI_of5 (o8 i hi)
      obtain ⟨f1, f3⟩ := c8 i hi
      have s1 := nHr_s D d K i (by omega) hb eb hI
      have hin : inb (nI i) 60 := n_inb (by omega) (by decide)
      have q34 : (mS τ G a).1 17 i = dDa D i := by rw [← c7]; rfl
      have q29 : (mS τ G a).1 12 i = τ.1 12 i := rfl
      have q23 : (mS τ G a).1 10 (τ.1 12 i).toNatClampNeg = nI b := by rw [← eb, ← f1]; rfl
      have q37 : (mS τ G a).2 18 = a := rfl
      by_cases q : dDa D i = d
      · refine ⟨_, ?_, s1.1 q⟩
        show M_shareOn_L2 _ _ _ _ = M_shareOn_L2 _ _ _ _
        rw [M_shareOn_L2, show (mS τ G a).1 0 17 = nI (dC D) from c6, if_neg (n_cmp hi (by omega)), if_pos hin, if_pos hin, n_tn (by omega), q34, if_pos q, q29, if_pos f3, q23, if_pos (n_inb (by omega) (by decide)), if_pos (n_inb (by omega) (by decide)), n_tn (by omega), mS_18, nI_1, q37]
      · refine ⟨a, ?_, s1.2 q⟩
        show M_shareOn_L2 _ _ _ _ = M_shareOn_L2 _ _ _ _
        rw [M_shareOn_L2, show (mS τ G a).1 0 17 = nI (dC D) from c6, if_neg (n_cmp hi (by omega)), if_pos hin, show (mS τ G a).1 17 (nI i).toNatClampNeg = dDa D i from (by rw [n_tn (by omega)]; exact q34), if_neg q, nI_1])
    FU 0 H (Nat.zero_le _) (fu_gt (by omega)) (nHr_0 h)
  exact ⟨H', e, hh⟩
theorem m_place {D : ND} (ok : dOk D) {cb cp : Nat} {τ : St} (hm : ML D cb cp τ) (d : Int32) {G : Nat → Int32} {H : Nat → Int64} {b : Nat} (hb : b < 6) : M_placeAt (nI b) d (mS τ G H) = some (nSpot D d b) := by
  obtain ⟨c1, c2, c3, c4, c5, c6, c7, c8, c9, c10⟩ := hm
  rw [m_placeAt (τ := mS τ G H) (c := dS D) c1 ok.1, show (mS τ G H).1 5 = dWo D from c2, show (mS τ G H).1 6 = dWa D from c3, show (mS τ G H).1 7 = dFr D from c4, show (mS τ G H).1 8 = dTo D from c5]
  unfold nSpot
  rw [if_neg (by omega)]
theorem n_spot {D : ND} (ok : dOk D) {cb cp : Nat} {τ : St} (hm : ML D cb cp τ) (d : Int32) {b : Nat} (hb : b < 6) : nSpot D d b = -9 ∨ (b < cb ∧ ∃ q, q < cp ∧ nSpot D d b = nI q) := by
  obtain ⟨c1, c2, c3, c4, c5, c6, c7, c8, ⟨c9, c9', c9''⟩, c10, c10', c10''⟩ := hm
  rcases nSpot_at (D := D) (d := d) (w := b) hb with ⟨j, j1, j2, j3, j4⟩ | ⟨j1, _⟩
  · right
    have o6 := ok.2.2.2.2.2.1 j
    have a := c9'' j j1
    have e := c10'' j j1
    rw [j2, n_ti (by omega)] at a
    obtain ⟨q, hq, eq⟩ := nI_of' (u := 15) o6.1 o6.2 (by decide)
    rw [eq, n_ti (by omega)] at e
    exact ⟨by omega, q, by omega, by rw [j4, eq]⟩
  · exact Or.inl j1
theorem n_spot6 (D : ND) (d : Int32) : nSpot D d 6 = nI 0 := by unfold nSpot; rw [if_pos rfl]; rfl
/-- where place q is reached: bands that stand before it have shared -/
def mSp (D : ND) (d : Int32) (K : KB) (q : Nat) (w e : Nat) : Prop := if 0 ≤ (nSpot D d w).toInt ∧ (nSpot D d w).toInt < q then nSpk D d K w e = true else K w e = true
theorem m_gather {D : ND} (ok : dOk D) {cb cp : Nat} {τ : St} (hm : ML D cb cp τ) (d : Int32) {G : Nat → Int32} {H : Nat → Int64} (q : Nat) (k50 : Int32 → St → Option St) (y0 : Int64) : ∃ y : Int64, M_shareOn_L77 d (nI q) (mS τ G H) k50 FU y0 0 = M_shareOn_L120 d (nI q) y k50 FU 0 (mS τ G H) ∧ ∀ e, hl y e = true ↔ hl y0 e = true ∨ ∃ b, b < cb ∧ nSpot D d b = nI q ∧ hl (H b) e = true := by
  have c9 := hm.2.2.2.2.2.2.2.2.1
  obtain ⟨y, e1, h1⟩ := lp_ex (F := fun n i y => M_shareOn_L77 d (nI q) (mS τ G H) k50 n y i) (c := cb) (K := fun y => M_shareOn_L120 d (nI q) y k50 FU 0 (mS τ G H)) (fun i y => ∀ e, hl y e = true ↔ hl y0 e = true ∨ ∃ b, b < i ∧ nSpot D d b = nI q ∧ hl (H b) e = true)
    (fun n a _ => by
      show M_shareOn_L77 _ _ _ _ _ _ _ = _
      rw [M_shareOn_L77, show (mS τ G H).1 0 2 = nI cb from c9.2.1, if_pos (n_cmpE _)])
    (fun n i a hi hI => by
      have e0 : M_shareOn_L77 d (nI q) (mS τ G H) k50 (n + 1) a (nI i) = if nSpot D d i = nI q then M_shareOn_L77 d (nI q) (mS τ G H) k50 n (a ||| H i) (nI (i + 1)) else M_shareOn_L77 d (nI q) (mS τ G H) k50 n (a ||| 0) (nI (i + 1)) := by
        rw [M_shareOn_L77, show (mS τ G H).1 0 2 = nI cb from c9.2.1, if_neg (n_cmp hi (by omega)), m_place ok hm d (by omega), Option.bind_some, if_pos (n_inb (by omega) (by decide)), n_tn (by omega), nI_1]
        rfl
      by_cases z : nSpot D d i = nI q
      · rw [if_pos z] at e0
        refine ⟨_, e0, fun e => ?_⟩
        rw [hl_or, Bool.or_eq_true, hI e]
        constructor
        · rintro ((x | ⟨b, b1, b2⟩) | x)
          · exact Or.inl x
          · exact Or.inr ⟨b, by omega, b2⟩
          · exact Or.inr ⟨i, by omega, z, x⟩
        · rintro (x | ⟨b, b1, b2, b3⟩)
          · exact Or.inl (Or.inl x)
          · by_cases t : b = i
            · subst t; exact Or.inr b3
            · exact Or.inl (Or.inr ⟨b, by omega, b2, b3⟩)
      · rw [if_neg z] at e0
        refine ⟨_, e0, fun e => ?_⟩
        rw [hl_or, hl_0, Bool.or_false, hI e]
        constructor
        · rintro (x | ⟨b, b1, b2⟩)
          · exact Or.inl x
          · exact Or.inr ⟨b, by omega, b2⟩
        · rintro (x | ⟨b, b1, b2, b3⟩)
          · exact Or.inl x
          · have : b ≠ i := fun t => z (t ▸ b2)
            exact Or.inr ⟨b, by omega, b2, b3⟩)
    FU 0 y0 (Nat.zero_le _) (fu_gt (by omega)) (fun e => ⟨fun z => Or.inl z, fun z => by
      rcases z with z | ⟨b, b1, _⟩
      · exact z
      · omega⟩)
  exact ⟨y, e1, h1⟩
theorem m_give {D : ND} (ok : dOk D) {cb cp : Nat} {τ : St} (hm : ML D cb cp τ) (d : Int32) {G : Nat → Int32} {H : Nat → Int64} {q : Nat} (hq : q < 2000) (k50 : Int32 → St → Option St) (y : Int64) : ∃ H' : Nat → Int64, M_shareOn_L120 d (nI q) y k50 FU 0 (mS τ G H) = k50 (nI (q + 1)) (mS τ G H') ∧ ∀ w, w < 7 → H' w = if nSpot D d w = nI q then y else H w := by
  have c9 := hm.2.2.2.2.2.2.2.2.1
  obtain ⟨H1, e1, h1, h2⟩ := lp_ex (F := fun n i H => M_shareOn_L120 d (nI q) y k50 n i (mS τ G H)) (c := cb) (K := fun H => k50 (nI (q + 1)) (mS τ G (vp_updL H 6 (if nI q = 0 then y else H 6)))) (fun i H' => (∀ w, w < i → H' w = if nSpot D d w = nI q then y else H w) ∧ ∀ w, i ≤ w → H' w = H w)
    (fun n a _ => by
      show M_shareOn_L120 _ _ _ _ _ _ _ = _
      rw [M_shareOn_L120, show (mS τ G a).1 0 2 = nI cb from c9.2.1, if_pos (n_cmpE _)]
      have t6 : (6 : Int32).toNatClampNeg = 6 := by decide
      simp only [if_pos (show inb (6 : Int32) 7 by decide), t6, mS_18, nI_1]
      by_cases z : nI q = 0
      · rw [if_pos z, if_pos z]
      · rw [if_neg z, if_neg z]
        rfl)
    (fun n i a hi hI => by
      obtain ⟨I1, I2⟩ := hI
      have hin : inb (nI i) 7 := n_inb (by omega) (by decide)
      have e0 : M_shareOn_L120 d (nI q) y k50 (n + 1) (nI i) (mS τ G a) = if nSpot D d i = nI q then M_shareOn_L120 d (nI q) y k50 n (nI (i + 1)) (mS τ G (vp_updL a i y)) else M_shareOn_L120 d (nI q) y k50 n (nI (i + 1)) (mS τ G (vp_updL a i (a i))) := by
        rw [M_shareOn_L120, show (mS τ G a).1 0 2 = nI cb from c9.2.1, if_neg (n_cmp hi (by omega)), m_place ok hm d (by omega), Option.bind_some]
        simp only [if_pos hin, n_tn (show i < 2 ^ 31 by omega), nI_1, mS_18]
        rfl
      by_cases z : nSpot D d i = nI q
      · rw [if_pos z] at e0
        refine ⟨_, e0, fun w hw => ?_, fun w hw => ?_⟩
        · rw [uL_at]
          by_cases t : w = i
          · subst t; rw [if_pos rfl, if_pos z]
          · rw [if_neg t]; exact I1 w (by omega)
        · rw [uL_at, if_neg (by omega)]; exact I2 w (by omega)
      · rw [if_neg z] at e0
        refine ⟨_, e0, fun w hw => ?_, fun w hw => ?_⟩
        · rw [uL_at]
          by_cases t : w = i
          · subst t; rw [if_pos rfl, if_neg z]; exact I2 w (by omega)
          · rw [if_neg t]; exact I1 w (by omega)
        · rw [uL_at, if_neg (by omega)]; exact I2 w (by omega))
    FU 0 H (Nat.zero_le _) (fu_gt (by omega)) ⟨fun w hw => by omega, fun _ _ => rfl⟩
  refine ⟨_, e1, fun w hw => ?_⟩
  rw [uL_at]
  by_cases t : w = 6
  · subst t
    rw [if_pos rfl, n_spot6, h2 6 (by omega)]
    by_cases z : q = 0
    · subst z; rw [if_pos rfl, if_pos (by rfl)]
    · rw [if_neg (by rw [show (0 : Int32) = nI 0 from rfl, nI_inj (by omega) (by omega)]; exact z), if_neg (by rw [nI_inj (by omega) (by omega)]; omega)]
  · rw [if_neg t]
    by_cases z : w < cb
    · exact h1 w z
    · rw [h2 w (by omega)]
      rcases n_spot ok hm d (b := w) (by omega) with x | ⟨x, _⟩
      · rw [x, if_neg (by rw [n_eq, n_ti (by omega), show (-9 : Int32).toInt = -9 by decide]; omega)]
      · omega
theorem m_share {D : ND} (ok : dOk D) {cb cp : Nat} {τ : St} (hm : ML D cb cp τ) (d : Int32) {K : KB} {G : Nat → Int32} : ∀ k q m (H : Nat → Int64), q + k = cp → k < m → (∀ w, w < 7 → ∀ e, e < 64 → (hl (H w) e = true ↔ mSp D d K q w e)) → ∃ H', M_shareOn_L50 d m (nI q) (mS τ G H) = some (mS τ G H') ∧ ∀ w, w < 7 → ∀ e, e < 64 → (hl (H' w) e = true ↔ mSp D d K cp w e) := by
  have c9 := hm.2.2.2.2.2.2.2.2.1
  have c10 := hm.2.2.2.2.2.2.2.2.2
  intro k
  induction k with
  | zero =>
    intro q m H hq hk hI
    obtain ⟨m, rfl⟩ : ∃ x, m = x + 1 := ⟨m - 1, by omega⟩
    have : q = cp := by omega
    subst this
    rw [M_shareOn_L50, show (mS τ G H).1 0 1 = nI q from c10.2.1, if_pos (n_cmpE _)]
    exact ⟨H, rfl, hI⟩
  | succ k ih =>
    intro q m H hq hk hI
    obtain ⟨m, rfl⟩ : ∃ x, m = x + 1 := ⟨m - 1, by omega⟩
    have hcp := c10.1
    have e0 : M_shareOn_L50 d (m + 1) (nI q) (mS τ G H) = M_shareOn_L77 d (nI q) (mS τ G H) (fun y2 τ => M_shareOn_L50 d m y2 τ) FU (if nI q = 0 then H 6 else 0) 0 := by
      rw [M_shareOn_L50, show (mS τ G H).1 0 1 = nI cp from c10.2.1, if_neg (n_cmp (by omega) (by omega)), if_pos (show inb (6 : Int32) 7 by decide), show (6 : Int32).toNatClampNeg = 6 by decide]
      split <;> rfl
    obtain ⟨y, f1, f2⟩ := m_gather ok hm d (G := G) (H := H) q (fun y2 τ => M_shareOn_L50 d m y2 τ) (if nI q = 0 then H 6 else 0)
    obtain ⟨H', g1, g2⟩ := m_give ok hm d (G := G) (H := H) (q := q) (by omega) (fun y2 τ => M_shareOn_L50 d m y2 τ) y
    rw [e0, f1, g1]
    have tq : (nI q).toInt = q := n_ti (by omega)
    have own : ∀ v, v < 7 → nSpot D d v = nI q → ∀ e, e < 64 → (hl (H v) e = true ↔ K v e = true) := by
      intro v hv z e he
      rw [hI v hv e he]
      unfold mSp
      rw [z, tq, if_neg (by omega)]
    have yb : ∀ e, e < 64 → (hl y e = true ↔ ∃ v, v < 7 ∧ nSpot D d v = nI q ∧ K v e = true) := by
      intro e he
      rw [f2 e]
      constructor
      · rintro (z | ⟨b, b1, b2, b3⟩)
        · by_cases t : nI q = 0
          · rw [if_pos t] at z
            have s6 : nSpot D d 6 = nI q := by rw [n_spot6]; exact t.symm
            exact ⟨6, by omega, s6, (own 6 (by omega) s6 e he).mp z⟩
          · rw [if_neg t, hl_0] at z
            exact nomatch z
        · exact ⟨b, by omega, b2, (own b (by omega) b2 e he).mp b3⟩
      · rintro ⟨v, v1, v2, v3⟩
        by_cases t : v = 6
        · subst t
          left
          have z : nI q = 0 := by rw [← v2, n_spot6]; rfl
          rw [if_pos z]
          exact (own 6 (by omega) v2 e he).mpr v3
        · right
          rcases n_spot ok hm d (b := v) (by omega) with x | ⟨x, _⟩
          · rw [x, n_eq, tq, show (-9 : Int32).toInt = -9 by decide] at v2
            omega
          · exact ⟨v, x, v2, (own v v1 v2 e he).mpr v3⟩
    refine ih (q + 1) m H' (by omega) (by omega) (fun w hw e he => ?_)
    rw [g2 w hw]
    by_cases z : nSpot D d w = nI q
    · rw [if_pos z, yb e he]
      unfold mSp
      rw [z, tq, if_pos (by omega), nSpk_iff, z]
      have n9 : ¬ nI q = -9 := by rw [n_eq, tq, show (-9 : Int32).toInt = -9 by decide]; omega
      constructor
      · intro t; exact Or.inr ⟨n9, t⟩
      · rintro (t | ⟨_, t⟩)
        · exact ⟨w, hw, z, t⟩
        · exact t
    · rw [if_neg z, hI w hw e he]
      unfold mSp
      have nz : ¬ (nSpot D d w).toInt = q := fun t => z (by rw [n_eq, tq]; exact t)
      by_cases t : 0 ≤ (nSpot D d w).toInt ∧ (nSpot D d w).toInt < q
      · rw [if_pos t, if_pos (by omega)]
      · rw [if_neg t, if_neg (by omega)]
theorem m_shareOn {D : ND} (ok : dOk D) {cb cp : Nat} {τ : St} (hm : ML D cb cp τ) (d : Int32) {K : KB} {G : Nat → Int32} {H : Nat → Int64} (h : Bt H K) : ∃ H', M_shareOn d (mS τ G H) = some (mS τ G H') ∧ Bt H' (nSpk D d (nHear D d K)) := by
  obtain ⟨H1, e1, h1⟩ := m_hearD ok hm d (G := G) h
  have c10 := hm.2.2.2.2.2.2.2.2.2
  obtain ⟨H2, e2, h2⟩ := m_share ok hm d (K := nHear D d K) (G := G) cp 0 FU H1 (by omega) (fu_gt (by omega)) (fun w hw e he => by
    unfold mSp
    rw [if_neg (fun z => by omega), h1 w hw e he])
  refine ⟨H2, e1.trans e2, fun w hw e he => ?_⟩
  rw [Bool.eq_iff_iff, h2 w hw e he]
  unfold mSp
  by_cases t : 0 ≤ (nSpot D d w).toInt ∧ (nSpot D d w).toInt < cp
  · rw [if_pos t]
  · rw [if_neg t, nSpk_iff]
    refine ⟨fun z => Or.inl z, fun z => ?_⟩
    rcases z with z | ⟨z1, v, z2, z3, z4⟩
    · exact z
    · by_cases x : w = 6
      · subst x
        rw [n_spot6, n_ti (by omega)] at t
        have cz : cp = 0 := by omega
        by_cases y : v = 6
        · subst y; exact z4
        · rcases n_spot ok hm d (b := v) (by omega) with u | ⟨_, u, u1, _⟩
          · exact absurd (by rw [← z3]; exact u) z1
          · omega
      · rcases n_spot ok hm d (b := w) (by omega) with u | ⟨_, u, u1, u2⟩
        · exact absurd u z1
        · rw [u2, n_ti (by omega)] at t
          omega
