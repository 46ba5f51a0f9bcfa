/-! news, the class -/
def nS (σ : St) (F P : Nat → Int32) (H N : Nat → Int64) : St := (fun a => if a = 36 then F else if a = 39 then P else σ.1 a, fun a => if a = 37 then H else if a = 38 then N else σ.2 a)
theorem nS_id (σ : St) : nS σ (σ.1 36) (σ.1 39) (σ.2 37) (σ.2 38) = σ := by
  unfold nS
  have e1 : (fun a => if a = 36 then σ.1 36 else if a = 39 then σ.1 39 else σ.1 a) = σ.1 := by
    funext a
    split
    · rename_i h; rw [h]
    · split
      · rename_i h; rw [h]
      · rfl
  have e2 : (fun a => if a = 37 then σ.2 37 else if a = 38 then σ.2 38 else σ.2 a) = σ.2 := by
    funext a
    split
    · rename_i h; rw [h]
    · split
      · rename_i h; rw [h]
      · rfl
  rw [e1, e2]
theorem nS_36 (σ : St) (F P : Nat → Int32) (H N : Nat → Int64) (i : Nat) (v : Int32) : wI (nS σ F P H N) 36 i v = nS σ (upd F i v) P H N := by
  unfold nS wI
  simp only [Prod.mk.injEq, and_true]
  funext a
  by_cases h : a = 36
  · subst h; simp
  · simp [h]
theorem nS_39 (σ : St) (F P : Nat → Int32) (H N : Nat → Int64) (i : Nat) (v : Int32) : wI (nS σ F P H N) 39 i v = nS σ F (upd P i v) H N := by
  unfold nS wI
  simp only [Prod.mk.injEq, and_true]
  funext a
  by_cases h : a = 39
  · subst h; simp
  · simp [h]
theorem nS_37 (σ : St) (F P : Nat → Int32) (H N : Nat → Int64) (i : Nat) (v : Int64) : wL (nS σ F P H N) 37 i v = nS σ F P (vp_updL H i v) N := by
  unfold nS wL
  simp only [Prod.mk.injEq, true_and]
  funext a
  by_cases h : a = 37
  · subst h; simp
  · simp [h]
theorem nS_38 (σ : St) (F P : Nat → Int32) (H N : Nat → Int64) (i : Nat) (v : Int64) : wL (nS σ F P H N) 38 i v = nS σ F P H (vp_updL N i v) := by
  unfold nS wL
  simp only [Prod.mk.injEq, true_and]
  funext a
  by_cases h : a = 38
  · subst h; simp
  · simp [h]
theorem n_cm7 {i : Nat} (h : i < 7) : ¬ (7 : Int32) ≤ nI i := n_cmp (c := 7) h (by omega)
theorem n_cm6 {i : Nat} (h : i < 6) : ¬ (6 : Int32) ≤ nI i := n_cmp (c := 6) h (by omega)
theorem n_cm420 {i : Nat} (h : i < 420) : ¬ (420 : Int32) ≤ nI i := n_cmp (c := 420) h (by omega)
theorem uL_at (f : Nat → Int64) (k : Nat) (x : Int64) (i : Nat) : vp_updL f k x i = if i = k then x else f i := rfl
def CL (D : ND) (σ : St) : Prop := σ.1 6 4 = nI (dS D) ∧ σ.1 7 = dWo D ∧ σ.1 8 = dWa D ∧ σ.1 9 = dFr D ∧ σ.1 10 = dTo D ∧ σ.1 28 6 = nI (dC D) ∧ σ.1 34 = dDa D ∧ (∀ e, e < dC D → σ.1 23 (σ.1 29 e).toNatClampNeg = dBq D e ∧ bw (σ.1 29 e) (σ.1 21 3) = true ∧ inb (σ.1 29 e) 12)
theorem c_forget (σ : St) (F P : Nat → Int32) (H N : Nat → Int64) : ∃ (F' : Nat → Int32) (H' N' : Nat → Int64), News_forget (nS σ F P H N) = some (nS σ F' P H' N') ∧ (∀ x, x < 420 → F' x = -9) ∧ (∀ w, w < 7 → H' w = 0 ∧ N' w = 0) := by
  obtain ⟨F', e1, h1⟩ := lp_ex (F := fun n i F => News_forget_L2 n i (nS σ F P H N)) (c := 420) (K := fun F => News_forget_L27 FU 0 (nS σ F P H N)) (fun i F => ∀ x, x < i → F x = -9)
    (fun n a _ => by
      show News_forget_L2 _ _ _ = _
      rw [News_forget_L2, if_pos (show (420 : Int32) ≤ nI 420 by decide)])
    (fun n i a hi hI => by
      refine ⟨upd a i (-9), ?_, fun x hx => ?_⟩
      · show News_forget_L2 _ _ _ = News_forget_L2 _ _ _
        rw [News_forget_L2, if_neg (n_cm420 hi), if_pos (n_inb hi (by decide)), n_tn (by omega), nS_36, nI_1]
      · rw [upd_at]
        split
        · rfl
        · exact hI x (by omega))
    FU 0 F (Nat.zero_le _) (fu_gt (by omega)) (fun x hx => by omega)
  obtain ⟨⟨H', N'⟩, e2, h2⟩ := lp_ex (F := fun n i (a : (Nat → Int64) × (Nat → Int64)) => News_forget_L27 n i (nS σ F' P a.1 a.2)) (c := 7) (K := fun a => some (nS σ F' P a.1 a.2)) (fun i a => ∀ x, x < i → a.1 x = 0 ∧ a.2 x = 0)
    (fun n a _ => by
      show News_forget_L27 _ _ _ = _
      rw [News_forget_L27, if_pos (show (7 : Int32) ≤ nI 7 by decide)])
    (fun n i a hi hI => by
      refine ⟨(vp_updL a.1 i 0, vp_updL a.2 i 0), ?_, fun x hx => ?_⟩
      · show News_forget_L27 _ _ _ = News_forget_L27 _ _ _
        rw [News_forget_L27, if_neg (n_cm7 hi), if_pos (n_inb hi (by decide)), if_pos (n_inb hi (by decide)), n_tn (by omega), nS_37, nS_38, nI_1]
      · simp only [uL_at]
        split
        · exact ⟨rfl, rfl⟩
        · exact hI x (by omega))
    FU 0 (H, N) (Nat.zero_le _) (fu_gt (by omega)) (fun x hx => by omega)
  exact ⟨F', H', N', e1.trans e2, h1, h2⟩
theorem c_nextD {D : ND} (ok : dOk D) {σ : St} (hc : CL D σ) (x : Int32) : News_nextDay x σ = some (nNext D x) := by
  obtain ⟨c1, c2, c3, c4, c5, c6, c7, c8⟩ := hc
  have o1 := ok.1
  have o2 := ok.2.1
  unfold News_nextDay nNext
  have a1 := lp_u0 (F := fun n i a => News_nextDay_L7 x σ n a i) (c := dS D) (K := fun a => News_nextDay_L55 x σ FU a 0) (g := fun i a => nMin x (dFr D i) a)
    (fun n a => by
      show News_nextDay_L7 _ _ _ _ _ = _
      rw [News_nextDay_L7, c1, if_pos (n_cmpE _)])
    (fun n i a hi => by
      show News_nextDay_L7 _ _ _ _ _ = News_nextDay_L7 _ _ _ _ _
      rw [News_nextDay_L7, c1, if_neg (n_cmp hi (by omega))]
      simp only [if_pos (show inb (nI i) 40 from n_inb (by omega) (by decide)), n_tn (show i < 2 ^ 31 by omega), c4, nI_1]
      unfold nMin
      split
      · rfl
      · split <;> rfl)
    FU 10000 (fu_gt (by omega))
  have a2 := fun y => lp_u0 (F := fun n i a => News_nextDay_L55 x σ n a i) (c := dC D) (K := fun a => some a) (g := fun i a => nMin x (dDa D i) a)
    (fun n a => by
      show News_nextDay_L55 _ _ _ _ _ = _
      rw [News_nextDay_L55, c6, if_pos (n_cmpE _)])
    (fun n i a hi => by
      show News_nextDay_L55 _ _ _ _ _ = News_nextDay_L55 _ _ _ _ _
      rw [News_nextDay_L55, c6, if_neg (n_cmp hi (by omega))]
      simp only [if_pos (show inb (nI i) 60 from n_inb (by omega) (by decide)), n_tn (show i < 2 ^ 31 by omega), c7, nI_1]
      unfold nMin
      split
      · rfl
      · split <;> rfl)
    FU y (fu_gt (by omega))
  rw [a1, a2]
/-- the bits of a row of longs are what is known -/
def Bt (H : Nat → Int64) (K : KB) : Prop := ∀ w, w < 7 → ∀ i, i < 64 → hl (H w) i = K w i
theorem nI_of5 {x : Int32} (h : 0 ≤ x.toInt ∧ x.toInt ≤ 5) : ∃ k, k ≤ 5 ∧ x = nI k := nI_of' (u := 5) h.1 h.2 (by decide)
def nHr (D : ND) (d : Int32) (K : KB) (i : Nat) : KB := fun w e => K w e || (decide (e < i) && (decide (dDa D e = d) && decide (dBq D e = nI w)))
theorem nHr_s (D : ND) (d : Int32) (K : KB) (i : Nat) {H : Nat → Int64} (hi : i < 60) {b : Nat} (hb : b ≤ 5) (eb : dBq D i = nI b) (h : Bt H (nHr D d K i)) : (dDa D i = d → Bt (vp_updL H b (H b ||| ((1 : Int64) <<< (Int32.toInt64 (nI i) &&& 63)))) (nHr D d K (i + 1))) ∧ (¬ dDa D i = d → Bt H (nHr D d K (i + 1))) := by
  refine ⟨fun q w hw e he => ?_, fun q w hw e he => ?_⟩
  · rw [uL_at]
    by_cases z : w = b
    · subst z
      rw [if_pos rfl, hl_or, hl_one hi, h w hw e he]
      unfold nHr
      by_cases y : e = i
      · subst y
        rw [decide_eq_true (rfl : e = e), decide_eq_true (show e < e + 1 by omega), decide_eq_true q, decide_eq_true eb]
        simp
      · rw [decide_eq_false y, Bool.or_false]
        have : decide (e < i) = decide (e < i + 1) := by
          by_cases x : e < i
          · rw [decide_eq_true x, decide_eq_true (by omega)]
          · rw [decide_eq_false x, decide_eq_false (by omega)]
        rw [this]
    · rw [if_neg z, h w hw e he]
      unfold nHr
      by_cases y : e = i
      · subst y
        have : ¬ dBq D e = nI w := by rw [eb, nI_inj (by omega) (by omega)]; omega
        rw [decide_eq_false this]
        simp
      · have : decide (e < i) = decide (e < i + 1) := by
          by_cases x : e < i
          · rw [decide_eq_true x, decide_eq_true (by omega)]
          · rw [decide_eq_false x, decide_eq_false (by omega)]
        rw [this]
  · rw [h w hw e he]
    unfold nHr
    by_cases y : e = i
    · subst y
      rw [decide_eq_false q]
      simp
    · have : decide (e < i) = decide (e < i + 1) := by
        by_cases x : e < i
        · rw [decide_eq_true x, decide_eq_true (by omega)]
        · rw [decide_eq_false x, decide_eq_false (by omega)]
      rw [this]
theorem nHr_0 {D : ND} {d : Int32} {K : KB} {H : Nat → Int64} (h : Bt H K) : Bt H (nHr D d K 0) := by
  intro w hw e he
  rw [h w hw e he]
  unfold nHr
  simp
theorem c_hear {D : ND} (ok : dOk D) {σ : St} (hc : CL D σ) (d : Int32) {K : KB} {F P : Nat → Int32} {H N : Nat → Int64} (h : Bt H K) : ∃ H', News_hearOwn d (nS σ F P H N) = some (nS σ F P H' N) ∧ Bt H' (nHear D d K) := by
  obtain ⟨c1, c2, c3, c4, c5, c6, c7, c8⟩ := hc
  have o2 := ok.2.1
  have o8 := ok.2.2.2.2.2.2.2
  obtain ⟨H', e, hh⟩ := lp_ex (F := fun n i H => News_hearOwn_L3 d n i (nS σ F P H N)) (c := dC D) (K := fun H => some (nS σ F P H N)) (fun i H => Bt H (nHr D d K i))
    (fun n a _ => by
      show News_hearOwn_L3 _ _ _ _ = _
      rw [News_hearOwn_L3, show (nS σ F P a N).1 28 6 = nI (dC D) from c6, if_pos (n_cmpE _)])
    (fun n i a hi hI => by
      obtain ⟨b, hb, eb⟩ := nI_of5 (o8 i hi)
      obtain ⟨f1, f2, f3⟩ := c8 i hi
      have s1 := nHr_s D d K i (by omega) hb eb hI
      have hin : inb (nI i) 60 := n_inb (by omega) (by decide)
      have q34 : (nS σ F P a N).1 34 i = dDa D i := by rw [← c7]; rfl
      have q29 : (nS σ F P a N).1 29 i = σ.1 29 i := rfl
      have q23 : (nS σ F P a N).1 23 (σ.1 29 i).toNatClampNeg = nI b := by rw [← eb, ← f1]; rfl
      have q37 : (nS σ F P a N).2 37 = a := rfl
      by_cases q : dDa D i = d
      · refine ⟨_, ?_, s1.1 q⟩
        show News_hearOwn_L3 _ _ _ _ = News_hearOwn_L3 _ _ _ _
        rw [News_hearOwn_L3, show (nS σ F P a N).1 28 6 = nI (dC D) from c6, if_neg (n_cmp hi (by omega)), if_pos hin, if_pos hin, n_tn (by omega), q34, if_pos q, q29, g_packsHas, show (nS σ F P a N).1 21 3 = σ.1 21 3 from rfl, f2, Option.bind_some, if_pos rfl, if_pos f3, q23, if_pos (n_inb (by omega) (by decide)), if_pos (n_inb (by omega) (by decide)), n_tn (by omega), nS_37, nI_1, q37]
      · refine ⟨a, ?_, s1.2 q⟩
        show News_hearOwn_L3 _ _ _ _ = News_hearOwn_L3 _ _ _ _
        rw [News_hearOwn_L3, show (nS σ F P a N).1 28 6 = nI (dC D) from c6, if_neg (n_cmp hi (by omega)), if_pos hin, if_pos hin, n_tn (by omega), q34, if_neg q, nI_1])
    FU 0 H (Nat.zero_le _) (fu_gt (by omega)) (nHr_0 h)
  exact ⟨H', e, hh⟩
theorem nSpot_at {D : ND} {d : Int32} {w : Nat} (hw : w < 6) : (∃ j, j < dS D ∧ dWo D j = nI w ∧ bl d (dFr D j) (dTo D j) = true ∧ nSpot D d w = dWa D j) ∨ (nSpot D d w = -9 ∧ ∀ j, j < dS D → ¬ (dWo D j = nI w ∧ bl d (dFr D j) (dTo D j) = true)) := by
  unfold nSpot whS
  rw [if_neg (by omega)]
  rcases fnd_at (fun s => decide (dWo D s = nI w) && bl d (dFr D s) (dTo D s)) (dWa D) (-9) (dS D) 0 with ⟨j, h1, h2, h3, h4, h5⟩ | ⟨h1, h2⟩
  · rw [Bool.and_eq_true] at h3
    exact Or.inl ⟨j, by omega, of_decide_eq_true h3.1, h3.2, h5⟩
  · refine Or.inr ⟨h2, fun j hj z => ?_⟩
    have := h1 j (by omega) (by omega)
    rw [decide_eq_true z.1, z.2] at this
    exact nomatch this
theorem c_stand {D : ND} (ok : dOk D) {σ : St} (hc : CL D σ) (d : Int32) {F P : Nat → Int32} {H N : Nat → Int64} : ∃ P', News_stand d (nS σ F P H N) = some (nS σ F P' H N) ∧ ∀ w, w < 7 → P' w = nSpot D d w := by
  obtain ⟨c1, c2, c3, c4, c5, c6, c7, c8⟩ := hc
  obtain ⟨o1, o2, o3, o4, o5, o6, o7, o8⟩ := ok
  obtain ⟨P1, e1, h1⟩ := lp_ex (F := fun n i P => News_stand_L2 d n i (nS σ F P H N)) (c := 6) (K := fun P => News_stand_L32 d FU 0 (nS σ F (upd P 6 0) H N)) (fun i P => ∀ x, x < i → P x = -9)
    (fun n a _ => by
      show News_stand_L2 _ _ _ _ = _
      rw [News_stand_L2, if_pos (show (6 : Int32) ≤ nI 6 by decide), if_pos (show inb (6 : Int32) 7 by decide), show (6 : Int32).toNatClampNeg = 6 by decide, nS_39])
    (fun n i a hi hI => by
      refine ⟨upd a i (-9), ?_, fun x hx => ?_⟩
      · show News_stand_L2 _ _ _ _ = News_stand_L2 _ _ _ _
        rw [News_stand_L2, if_neg (n_cm6 hi), if_pos (n_inb (by omega) (by decide)), n_tn (by omega), nS_39, nI_1]
      · rw [upd_at]
        split
        · rfl
        · exact hI x (by omega))
    FU 0 P (Nat.zero_le _) (fu_gt (by omega)) (fun x hx => by omega)
  obtain ⟨P2, e2, h2, h3⟩ := lp_ex (F := fun n i P => News_stand_L32 d n i (nS σ F P H N)) (c := dS D) (K := fun P => some (nS σ F P H N)) (fun i P => P 6 = 0 ∧ ∀ w, w < 6 → (∃ j, j < i ∧ dWo D j = nI w ∧ bl d (dFr D j) (dTo D j) = true ∧ P w = dWa D j) ∨ (P w = -9 ∧ ∀ j, j < i → ¬ (dWo D j = nI w ∧ bl d (dFr D j) (dTo D j) = true)))
    (fun n a _ => by
      show News_stand_L32 _ _ _ _ = _
      rw [News_stand_L32, show (nS σ F a H N).1 6 4 = nI (dS D) from c1, if_pos (n_cmpE _)])
    (fun n i a hi hI => by
      obtain ⟨I1, I2⟩ := hI
      have hin : inb (nI i) 40 := n_inb (by omega) (by decide)
      have q9 : (nS σ F a H N).1 9 = dFr D := c4
      have q10 : (nS σ F a H N).1 10 = dTo D := c5
      have q7 : (nS σ F a H N).1 7 = dWo D := c2
      have q8 : (nS σ F a H N).1 8 = dWa D := c3
      have e0 : News_stand_L32 d (n + 1) (nI i) (nS σ F a H N) = if bl d (dFr D i) (dTo D i) = true then (if inb (dWo D i) 7 then News_stand_L32 d n (nI (i + 1)) (nS σ F (upd a (Int32.toNatClampNeg (dWo D i)) (dWa D i)) H N) else none) else News_stand_L32 d n (nI (i + 1)) (nS σ F a H N) := by
        rw [News_stand_L32, show (nS σ F a H N).1 6 4 = nI (dS D) from c1, if_neg (n_cmp hi (by omega)), s_cov_stays (by omega), Option.bind_some, if_pos hin, if_pos hin, n_tn (by omega), q7, q8, q9, q10, nS_39, nI_1]
      obtain ⟨b, hb, eb⟩ := nI_of5 (o5 i)
      by_cases q : bl d (dFr D i) (dTo D i) = true
      · rw [if_pos q, eb, if_pos (n_inb (by omega) (by decide)), n_tn (by omega)] at e0
        refine ⟨_, e0, ?_, fun w hw => ?_⟩
        · rw [upd_at, if_neg (by omega)]; exact I1
        · rw [upd_at]
          by_cases z : w = b
          · subst z
            rw [if_pos rfl]
            exact Or.inl ⟨i, by omega, eb, q, rfl⟩
          · rw [if_neg z]
            rcases I2 w hw with ⟨j, j1, j2⟩ | ⟨j1, j2⟩
            · exact Or.inl ⟨j, by omega, j2⟩
            · refine Or.inr ⟨j1, fun j hj => ?_⟩
              by_cases y : j = i
              · subst y
                intro x
                rw [eb, nI_inj (by omega) (by omega)] at x
                omega
              · exact j2 j (by omega)
      · rw [if_neg q] at e0
        refine ⟨_, e0, I1, fun w hw => ?_⟩
        rcases I2 w hw with ⟨j, j1, j2⟩ | ⟨j1, j2⟩
        · exact Or.inl ⟨j, by omega, j2⟩
        · refine Or.inr ⟨j1, fun j hj => ?_⟩
          by_cases y : j = i
          · subst y
            exact fun x => q x.2
          · exact j2 j (by omega))
    FU 0 (upd P1 6 0) (Nat.zero_le _) (fu_gt (by omega)) ⟨by rw [upd_at, if_pos rfl], fun w hw => Or.inr ⟨by rw [upd_at, if_neg (by omega)]; exact h1 w hw, fun j hj => by omega⟩⟩
  refine ⟨P2, e1.trans e2, fun w hw => ?_⟩
  by_cases z : w = 6
  · subst z
    rw [h2]
    unfold nSpot
    rw [if_pos rfl]
  · rcases h3 w (by omega) with ⟨j, j1, j2, j3, j4⟩ | ⟨j1, j2⟩
    · rcases nSpot_at (D := D) (d := d) (w := w) (by omega) with ⟨t, t1, t2, t3, t4⟩ | ⟨t1, t2⟩
      · rw [j4, t4]
        by_cases y : j = t
        · rw [y]
        · exfalso
          have := o7 j t j1 t1 y (by rw [j2, t2])
          unfold bl at j3 t3
          simp only [decide_eq_true_eq, n_le] at j3 t3
          omega
      · exact absurd ⟨j2, j3⟩ (t2 j j1)
    · rcases nSpot_at (D := D) (d := d) (w := w) (by omega) with ⟨t, t1, t2, t3, t4⟩ | ⟨t1, t2⟩
      · exact absurd ⟨t2, t3⟩ (j2 t t1)
      · rw [j1, t1]
def nSp (D : ND) (d : Int32) (K : KB) (i : Nat) (w e : Nat) : Prop := K w e = true ∨ (¬ nSpot D d w = -9 ∧ ∃ v, v < i ∧ nSpot D d v = nSpot D d w ∧ K v e = true)
theorem c_speak {D : ND} {σ : St} (d : Int32) {K : KB} {F P : Nat → Int32} {H N : Nat → Int64} (hp : ∀ w, w < 7 → P w = nSpot D d w) (h : Bt H K) : ∃ H', News_speak (nS σ F P H N) = some (nS σ F P H' N) ∧ Bt H' (nSpk D d K) := by
  have key : ∀ k i m (H1 : Nat → Int64), i + k = 7 → k < m → (∀ w, w < 7 → ∀ e, e < 64 → (hl (H1 w) e = true ↔ nSp D d K i w e)) → ∃ H', News_speak_L2 m (nI i) (nS σ F P H1 N) = some (nS σ F P H' N) ∧ (∀ w, w < 7 → ∀ e, e < 64 → (hl (H' w) e = true ↔ nSp D d K 7 w e)) := by
    intro k
    induction k with
    | zero =>
      intro i m H1 hi hm hI
      obtain ⟨m, rfl⟩ : ∃ t, m = t + 1 := ⟨m - 1, by omega⟩
      have : i = 7 := by omega
      subst this
      exact ⟨H1, by rw [News_speak_L2, if_pos (by decide)], hI⟩
    | succ k ih =>
      intro i m H1 hi hm hI
      obtain ⟨m, rfl⟩ : ∃ t, m = t + 1 := ⟨m - 1, by omega⟩
      have hin : inb (nI i) 7 := n_inb (by omega) (by decide)
      have e0 : News_speak_L2 (m + 1) (nI i) (nS σ F P H1 N) = if P i = -9 then News_speak_L2 m (nI (i + 1)) (nS σ F P H1 N) else if H1 i = 0 then News_speak_L2 m (nI (i + 1)) (nS σ F P H1 N) else News_speak_L35 (nI i) (fun y1 τ => News_speak_L2 m y1 τ) FU 0 (nS σ F P H1 N) := by
        rw [News_speak_L2, if_neg (n_cm7 (by omega)), if_pos hin, if_pos hin, n_tn (by omega), nI_1]
        rfl
      rw [e0]
      have skip : (∀ w, w < 7 → ∀ e, e < 64 → (nSp D d K (i + 1) w e ↔ nSp D d K i w e)) → ∃ H', News_speak_L2 m (nI (i + 1)) (nS σ F P H1 N) = some (nS σ F P H' N) ∧ (∀ w, w < 7 → ∀ e, e < 64 → (hl (H' w) e = true ↔ nSp D d K 7 w e)) :=
        fun z => ih (i + 1) m H1 (by omega) (by omega) (fun w hw e he => (hI w hw e he).trans (z w hw e he).symm)
      have dn : ∀ w e, nSp D d K i w e → nSp D d K (i + 1) w e := by
        intro w e z
        rcases z with z | ⟨z1, v, z2, z3⟩
        · exact Or.inl z
        · exact Or.inr ⟨z1, v, by omega, z3⟩
      by_cases q : P i = -9
      · rw [if_pos q]
        apply skip
        intro w hw e he
        refine ⟨fun z => ?_, dn w e⟩
        rcases z with z | ⟨z1, v, z2, z3, z4⟩
        · exact Or.inl z
        · by_cases y : v = i
          · subst y
            exact absurd (by rw [← z3, ← hp v (by omega)]; exact q) z1
          · exact Or.inr ⟨z1, v, by omega, z3, z4⟩
      · rw [if_neg q]
        by_cases p : H1 i = 0
        · rw [if_pos p]
          apply skip
          intro w hw e he
          refine ⟨fun z => ?_, dn w e⟩
          rcases z with z | ⟨z1, v, z2, z3, z4⟩
          · exact Or.inl z
          · by_cases y : v = i
            · subst y
              have := (hI v (by omega) e he).mpr (Or.inl z4)
              rw [p, hl_0] at this
              exact nomatch this
            · exact Or.inr ⟨z1, v, by omega, z3, z4⟩
        · rw [if_neg p]
          obtain ⟨H2, f1, f2⟩ := lp_ex (F := fun n j H => News_speak_L35 (nI i) (fun y1 τ => News_speak_L2 m y1 τ) n j (nS σ F P H N)) (c := 7) (K := fun H => News_speak_L2 m (nI (i + 1)) (nS σ F P H N)) (fun j H => H i = H1 i ∧ ∀ w, w < 7 → H w = if w < j ∧ P w = P i then H1 w ||| H1 i else H1 w)
            (fun n a _ => by
              show News_speak_L35 _ _ _ _ _ = _
              rw [News_speak_L35, if_pos (show (7 : Int32) ≤ nI 7 by decide), nI_1])
            (fun n j a hj hJ => by
              obtain ⟨J1, J2⟩ := hJ
              have jin : inb (nI j) 7 := n_inb (by omega) (by decide)
              have e1 : News_speak_L35 (nI i) (fun y1 τ => News_speak_L2 m y1 τ) (n + 1) (nI j) (nS σ F P a N) = if P j = P i then News_speak_L35 (nI i) (fun y1 τ => News_speak_L2 m y1 τ) n (nI (j + 1)) (nS σ F P (vp_updL a j (a j ||| a i)) N) else News_speak_L35 (nI i) (fun y1 τ => News_speak_L2 m y1 τ) n (nI (j + 1)) (nS σ F P a N) := by
                rw [News_speak_L35, if_neg (n_cm7 (by omega)), if_pos jin, if_pos hin, if_pos jin, if_pos hin, if_pos jin, n_tn (k := j) (by omega), n_tn (k := i) (by omega), nI_1, nS_37]
                rfl
              by_cases y : P j = P i
              · rw [if_pos y] at e1
                refine ⟨_, e1, ?_, fun w hw => ?_⟩
                · rw [uL_at]
                  split
                  · rename_i x
                    subst x
                    rw [J1]
                    apply hl_ext
                    intro t _
                    rw [hl_or, Bool.or_self]
                  · exact J1
                · rw [uL_at]
                  by_cases x : w = j
                  · subst x
                    rw [if_pos rfl, if_pos ⟨by omega, y⟩, J1, J2 w hw, if_neg (fun z => by omega)]
                  · rw [if_neg x, J2 w hw]
                    by_cases t : w < j ∧ P w = P i
                    · rw [if_pos t, if_pos ⟨by omega, t.2⟩]
                    · rw [if_neg t, if_neg (fun z => t ⟨by omega, z.2⟩)]
              · rw [if_neg y] at e1
                refine ⟨_, e1, J1, fun w hw => ?_⟩
                rw [J2 w hw]
                by_cases t : w < j ∧ P w = P i
                · rw [if_pos t, if_pos ⟨by omega, t.2⟩]
                · rw [if_neg t, if_neg (fun z => t ⟨by
                    have : w ≠ j := fun x => y (x ▸ z.2)
                    omega, z.2⟩)])
            FU 0 H1 (Nat.zero_le _) (fu_gt (by omega)) ⟨rfl, fun w hw => by rw [if_neg (fun z => by omega)]⟩
          have f1' : News_speak_L35 (nI i) (fun y1 τ => News_speak_L2 m y1 τ) FU 0 (nS σ F P H1 N) = News_speak_L2 m (nI (i + 1)) (nS σ F P H2 N) := f1
          rw [f1']
          refine ih (i + 1) m H2 (by omega) (by omega) (fun w hw e he => ?_)
          rw [f2.2 w hw]
          by_cases t : P w = P i
          · rw [if_pos ⟨hw, t⟩, hl_or, Bool.or_eq_true, hI w hw e he, hI i (by omega) e he]
            have nw : ¬ nSpot D d w = -9 := by rw [← hp w hw, t]; exact q
            have ei : nSpot D d i = nSpot D d w := by rw [← hp w hw, ← hp i (by omega)]; exact t.symm
            constructor
            · rintro (z | z)
              · exact dn w e z
              · rcases z with z | ⟨z1, v, z2, z3, z4⟩
                · exact Or.inr ⟨nw, i, by omega, ei, z⟩
                · exact Or.inr ⟨nw, v, by omega, z3.trans ei, z4⟩
            · rintro (z | ⟨z1, v, z2, z3, z4⟩)
              · exact Or.inl (Or.inl z)
              · by_cases y : v = i
                · subst y; exact Or.inr (Or.inl z4)
                · exact Or.inl (Or.inr ⟨z1, v, by omega, z3, z4⟩)
          · rw [if_neg (fun z => t z.2), hI w hw e he]
            refine ⟨dn w e, fun z => ?_⟩
            rcases z with z | ⟨z1, v, z2, z3, z4⟩
            · exact Or.inl z
            · by_cases y : v = i
              · subst y
                exact absurd (by rw [hp w hw, hp v (by omega), z3]) t
              · exact Or.inr ⟨z1, v, by omega, z3, z4⟩
  obtain ⟨H', e, hh⟩ := key 7 0 FU H (by omega) (fu_gt (by omega)) (fun w hw e he => by
    rw [h w hw e he]
    refine ⟨fun z => Or.inl z, fun z => ?_⟩
    rcases z with z | ⟨_, v, z2, _⟩
    · exact z
    · omega)
  refine ⟨H', e, fun w hw i hi => ?_⟩
  have a := hh w hw i hi
  have b : nSpk D d K w i = true ↔ nSp D d K 7 w i := nSpk_iff
  rw [Bool.eq_iff_iff, a, b]
