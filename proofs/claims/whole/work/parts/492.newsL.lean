/-! news, the class: what it notes, and all it learns -/
theorem idx7 (e w : Nat) : nI e * (7 : Int32) + nI w = nI (e * 7 + w) := by
  have h7 : (7 : Int32) = nI 7 := by decide
  rw [h7, nI_mul, nI_add]
def Tb (F : Nat → Int32) (T : KT) (w : Nat) : Prop := ∀ e, e < 60 → F (e * 7 + w) = T w e
theorem c_note {D : ND} (ok : dOk D) {σ : St} (d : Int32) {K K2 : KB} {T : KT} (hP : nPI D K T) (hup : ∀ w e, K w e = true → K2 w e = true) (hc2 : ∀ w e, dC D ≤ e → K2 w e = false) {F P : Nat → Int32} {H N : Nat → Int64} {w : Nat} (hw : w < 7) (hH : ∀ i, i < 64 → hl (H w) i = K2 w i) (hN : ∀ i, i < 64 → hl (N w) i = K w i) (hF : Tb F T w) :
    ∃ F' N', News_note (nI w) d (nI (dC D)) (nS σ F P H N) = some (nS σ F' P H N') ∧ (∀ i, i < 64 → hl (N' w) i = K2 w i) ∧ (∀ v, v ≠ w → N' v = N v) ∧ Tb F' (nNote d K2 T) w ∧ (∀ v, v < 7 → v ≠ w → ∀ e, e < 60 → F' (e * 7 + v) = F (e * 7 + v)) := by
  obtain ⟨p1, p2, p3⟩ := hP
  have o2 := ok.2.1
  have hin : inb (nI w) 7 := n_inb hw (by decide)
  have bt : ∀ i, i < 64 → hl (H w &&& (N w ^^^ (-1 : Int64))) i = (K2 w i && !K w i) := by
    intro i hi
    rw [hl_an, hl_nt _ hi, hH i hi, hN i hi]
  have e0 : News_note (nI w) d (nI (dC D)) (nS σ F P H N) = if H w &&& (N w ^^^ (-1 : Int64)) = 0 then some (nS σ F P H N) else News_note_L30 (nI w) d (nI (dC D)) (H w &&& (N w ^^^ (-1 : Int64))) FU 0 (nS σ F P H N) := by
    unfold News_note
    rw [if_pos hin, if_pos hin, n_tn (by omega)]
    rfl
  have tn : ∀ e, nNote d K2 T w e = if K2 w e = true ∧ K w e = false then d else T w e := by
    intro e
    unfold nNote
    have := p1 w e
    by_cases q : K2 w e = true
    · cases z : K w e
      · have y' : (T w e).toInt < 0 := by
          apply Classical.byContradiction
          intro y
          rw [this.mpr (by omega)] at z
          exact nomatch z
        rw [if_pos ⟨q, y'⟩, if_pos ⟨q, rfl⟩]
      · have := this.mp z
        rw [if_neg (fun y => by omega), if_neg (fun y => nomatch y.2)]
    · rw [if_neg (fun y => q y.1), if_neg (fun y => q y.1)]
  rw [e0]
  by_cases q : H w &&& (N w ^^^ (-1 : Int64)) = 0
  · rw [if_pos q]
    rw [q] at bt
    have same : ∀ e, e < 64 → K2 w e = K w e := by
      intro e he
      have := bt e he
      rw [hl_0] at this
      cases z : K w e
      · rw [z] at this
        simpa using this.symm
      · exact hup w e z
    refine ⟨F, N, rfl, fun i hi => by rw [hN i hi, same i hi], fun _ _ => rfl, fun e he => ?_, fun _ _ _ _ _ => rfl⟩
    rw [hF e he, tn e, same e (by omega)]
    rw [if_neg (fun y => by rw [y.1] at y; exact nomatch y.2)]
  · rw [if_neg q]
    obtain ⟨F', e1, h1, h2⟩ := lp_ex (F := fun n i F => News_note_L30 (nI w) d (nI (dC D)) (H w &&& (N w ^^^ (-1 : Int64))) n i (nS σ F P H N)) (c := dC D) (K := fun F => some (nS σ F P H (vp_updL N w (H w)))) (fun i F' => (∀ e, e < 60 → F' (e * 7 + w) = if e < i then nNote d K2 T w e else T w e) ∧ (∀ v, v < 7 → v ≠ w → ∀ e, e < 60 → F' (e * 7 + v) = F (e * 7 + v)))
      (fun n a _ => by
        show News_note_L30 _ _ _ _ _ _ _ = _
        rw [News_note_L30, if_pos (n_cmpE _), if_pos hin, if_pos hin, n_tn (by omega), nS_38]
        rfl)
      (fun n i a hi hI => by
        obtain ⟨I1, I2⟩ := hI
        have hx : i * 7 + w < 420 := by omega
        have bi := bt i (by omega)
        have e2 : News_note_L30 (nI w) d (nI (dC D)) (H w &&& (N w ^^^ (-1 : Int64))) (n + 1) (nI i) (nS σ a P H N) = if (K2 w i && !K w i) = false then News_note_L30 (nI w) d (nI (dC D)) (H w &&& (N w ^^^ (-1 : Int64))) n (nI (i + 1)) (nS σ a P H N) else News_note_L30 (nI w) d (nI (dC D)) (H w &&& (N w ^^^ (-1 : Int64))) n (nI (i + 1)) (nS σ (upd a (i * 7 + w) d) P H N) := by
          rw [News_note_L30, if_neg (n_cmp hi (by omega)), idx7, if_pos (n_inb hx (by decide)), n_tn (k := i * 7 + w) (by omega), nS_36, nI_1, ← bi]
          have z := and06 ((H w &&& (N w ^^^ (-1 : Int64))) >>> (Int32.toInt64 (nI i) &&& 63))
          rw [sh_r07 _ (by omega)] at z
          by_cases y : hl (H w &&& (N w ^^^ (-1 : Int64))) i = false
          · rw [if_pos y, if_pos (z.mpr y)]
          · rw [if_neg y, if_neg (fun x => y (z.mp x))]
        by_cases y : (K2 w i && !K w i) = false
        · rw [if_pos y] at e2
          refine ⟨_, e2, fun e he => ?_, I2⟩
          rw [I1 e he]
          by_cases x : e = i
          · subst x
            rw [if_neg (by omega), if_pos (by omega), tn e, if_neg (fun t => by rw [t.1, t.2] at y; exact nomatch y)]
          · by_cases t : e < i
            · rw [if_pos t, if_pos (by omega)]
            · rw [if_neg t, if_neg (by omega)]
        · rw [if_neg y] at e2
          refine ⟨_, e2, fun e he => ?_, fun v hv hne e he => ?_⟩
          · rw [upd_at]
            by_cases x : e = i
            · subst x
              have y' : K2 w e = true ∧ K w e = false := by
                cases z1 : K2 w e <;> cases z2 : K w e <;> simp [z1, z2] at y ⊢
              rw [if_pos rfl, if_pos (by omega), tn e, if_pos y']
            · rw [if_neg (by omega), I1 e he]
              by_cases t : e < i
              · rw [if_pos t, if_pos (by omega)]
              · rw [if_neg t, if_neg (by omega)]
          · rw [upd_at, if_neg (by omega)]
            exact I2 v hv hne e he)
      FU 0 F (Nat.zero_le _) (fu_gt (by omega)) ⟨fun e he => by rw [if_neg (by omega)]; exact hF e he, fun _ _ _ _ _ => rfl⟩
    refine ⟨F', vp_updL N w (H w), e1, fun i hi => by rw [uL_at, if_pos rfl, hH i hi], fun v hv => by rw [uL_at, if_neg hv], fun e he => ?_, h2⟩
    rw [h1 e he]
    by_cases t : e < dC D
    · rw [if_pos t]
    · rw [if_neg t, tn e, if_neg (fun y => by rw [hc2 w e (by omega)] at y; exact nomatch y.1)]
theorem c_notes {D : ND} (ok : dOk D) {σ : St} (hc : CL D σ) (d x4 x6 : Int32) (k34 : Int32 → Int32 → St → Option St) {K K2 : KB} {T : KT} (hP : nPI D K T) (hup : ∀ w e, K w e = true → K2 w e = true) (hc2 : ∀ w e, dC D ≤ e → K2 w e = false) {F P : Nat → Int32} {H N : Nat → Int64} (hH : Bt H K2) (hN : Bt N K) (hF : ∀ w, w < 7 → Tb F T w) :
    ∃ F' N', News_learn_L71 x4 d x6 k34 FU 0 (nS σ F P H N) = k34 (nNext D d) (x6 + 1) (nS σ F' P H N') ∧ Bt N' K2 ∧ ∀ w, w < 7 → Tb F' (nNote d K2 T) w := by
  obtain ⟨⟨F', N'⟩, e1, h1, h2⟩ := lp_ex (F := fun n i (a : (Nat → Int32) × (Nat → Int64)) => News_learn_L71 x4 d x6 k34 n i (nS σ a.1 P H a.2)) (c := 7) (K := fun a => k34 (nNext D d) (x6 + 1) (nS σ a.1 P H a.2))
    (fun i a => (∀ w, w < i → w < 7 → (∀ j, j < 64 → hl (a.2 w) j = K2 w j) ∧ Tb a.1 (nNote d K2 T) w) ∧ (∀ w, i ≤ w → w < 7 → (∀ j, j < 64 → hl (a.2 w) j = K w j) ∧ Tb a.1 T w))
    (fun n a _ => by
      show News_learn_L71 _ _ _ _ _ _ _ = _
      have hc' : CL D (nS σ a.1 P H a.2) := hc
      rw [News_learn_L71, if_pos (show (7 : Int32) ≤ nI 7 by decide), c_nextD ok hc', Option.bind_some])
    (fun n i a hi hI => by
      obtain ⟨I1, I2⟩ := hI
      obtain ⟨J1, J2⟩ := I2 i (Nat.le_refl _) hi
      obtain ⟨F1, N1, e, f1, f2, f3, f4⟩ := c_note (σ := σ) ok d hP hup hc2 (F := a.1) (P := P) (H := H) (N := a.2) hi (hH i hi) J1 J2
      refine ⟨(F1, N1), ?_, fun w hw hw7 => ?_, fun w hw hw7 => ?_⟩
      · show News_learn_L71 _ _ _ _ _ _ _ = News_learn_L71 _ _ _ _ _ _ _
        rw [News_learn_L71, if_neg (n_cm7 hi), show (nS σ a.1 P H a.2).1 28 6 = nI (dC D) from hc.2.2.2.2.2.1, e, Option.bind_some, nI_1]
      · by_cases z : w = i
        · subst z; exact ⟨f1, f3⟩
        · obtain ⟨g1, g2⟩ := I1 w (by omega) hw7
          exact ⟨fun j hj => (congrArg (fun t => hl t j) (f2 w z)).trans (g1 j hj), fun e he => (f4 w hw7 z e he).trans (g2 e he)⟩
      · obtain ⟨g1, g2⟩ := I2 w (by omega) hw7
        have z : w ≠ i := by omega
        exact ⟨fun j hj => (congrArg (fun t => hl t j) (f2 w z)).trans (g1 j hj), fun e he => (f4 w hw7 z e he).trans (g2 e he)⟩)
    FU 0 (F, N) (Nat.zero_le _) (fu_gt (by omega)) ⟨fun w hw _ => by omega, fun w _ hw => ⟨hN w hw, hF w hw⟩⟩
  exact ⟨F', N', e1, fun w hw => (h1 w hw hw).1, fun w hw => (h1 w hw hw).2⟩
theorem n_up {D : ND} {d : Int32} {K : KB} (w e : Nat) (z : K w e = true) : nSpk D d (nHear D d K) w e = true := nSpk_iff.mpr (Or.inl (by unfold nHear; rw [z]; rfl))
theorem c_turnsN {D : ND} (ok : dOk D) {σ : St} (hc : CL D σ) {M : Nat} (hM : M ≤ 100) : ∀ k t m (d : Int32) K T (F P : Nat → Int32) (H N : Nat → Int64), t + k = M → k < m → 0 ≤ d.toInt → nPI D K T → Bt H K → Bt N K → (∀ w, w < 7 → Tb F T w) →
    ∃ F' P' H' N', News_learn_L34 (nI M) m d (nI t) (nS σ F P H N) = some (wI (nS σ F' P' H' N') 35 4 1) ∧ ∀ w, w < 7 → Tb F' (nLay D k d K T) w := by
  intro k
  induction k with
  | zero =>
    intro t m d K T F P H N ht hm hd hP hH hN hF
    obtain ⟨m, rfl⟩ : ∃ x, m = x + 1 := ⟨m - 1, by omega⟩
    have : t = M := by omega
    subst this
    rw [News_learn_L34, if_pos (n_cmpE _)]
    exact ⟨F, P, H, N, rfl, hF⟩
  | succ k ih =>
    intro t m d K T F P H N ht hm hd hP hH hN hF
    obtain ⟨m, rfl⟩ : ∃ x, m = x + 1 := ⟨m - 1, by omega⟩
    rw [News_learn_L34, if_neg (n_cmp (by omega) (by omega))]
    simp only [nLay]
    by_cases q : 10000 ≤ d
    · rw [if_pos q, if_pos q]
      exact ⟨F, P, H, N, rfl, hF⟩
    · rw [if_neg q, if_neg q]
      rw [n_le, n_10000] at q
      obtain ⟨H1, a1, a2⟩ := c_hear ok hc d (F := F) (P := P) (N := N) hH
      obtain ⟨P1, b1, b2⟩ := c_stand ok hc d (F := F) (P := P) (H := H1) (N := N)
      obtain ⟨H2, c1, c2⟩ := c_speak (σ := σ) d (F := F) (N := N) b2 a2
      rw [a1, Option.bind_some, b1, Option.bind_some, c1, Option.bind_some]
      have hP2 := nPI_s hP (d := d) ⟨hd, by omega⟩
      obtain ⟨F2, N2, d1, d2, d3⟩ := c_notes ok hc d (nI M) (nI t) (fun y5 y6 τ => News_learn_L34 (nI M) m y5 y6 τ) hP n_up hP2.2.2 (F := F) (P := P1) c2 hN hF
      rw [d1, nI_1]
      exact ih (t + 1) m (nNext D d) _ _ F2 P1 H2 N2 (by omega) (by omega) (nNext0 ok (by omega)) hP2 c2 d2 d3
theorem nI_add2 (a b : Nat) : nI a + nI b = nI (a + b) := nI_add a b
theorem c_learn {D : ND} (ok : dOk D) {σ : St} (hc : CL D σ) (h0 : σ.1 35 4 = 0) : ∃ F' P' H' N', News_learn σ = some (wI (nS σ F' P' H' N') 35 4 1) ∧ ∀ w, w < 7 → Tb F' (nTab D) w := by
  have o1 := ok.1
  have o2 := ok.2.1
  obtain ⟨F1, H1, N1, e1, f1, f2⟩ := c_forget σ (σ.1 36) (σ.1 39) (σ.2 37) (σ.2 38)
  rw [nS_id] at e1
  unfold News_learn
  have hc' : CL D (nS σ F1 (σ.1 39) H1 N1) := hc
  rw [if_pos h0, e1, Option.bind_some, c_nextD ok hc', Option.bind_some, hc'.1, hc'.2.2.2.2.2.1, nI_add2]
  obtain ⟨F', P', H', N', g1, g2⟩ := c_turnsN ok hc (M := dS D + dC D) (by omega) (dS D + dC D) 0 FU (nNext D (-1)) (fun _ _ => false) (fun _ _ => -9) F1 (σ.1 39) H1 N1 (by omega) (fu_gt (by omega)) (nNext0 ok (by decide)) (nPI_0 D)
    (fun w hw i _ => by rw [(f2 w hw).1, hl_0]) (fun w hw i _ => by rw [(f2 w hw).2, hl_0]) (fun w hw e he => f1 _ (by omega))
  exact ⟨F', P', H', N', g1, g2⟩
