theorem kz_P : ∀ j, j < 15 → defaultValue (ty_P j) = vp_V (kZ fl_P) j := by decide +kernel
theorem kz_M : ∀ j, j < 79 → defaultValue (ty_M j) = vp_V (kZ fl_M) j := by decide +kernel
theorem fc_1 {q0 sz sz1 : Nat} {e0 : va_E} (h0 : sz ≤ q0) (h1 : sz ≤ sz1) : ∀ z, va_A [(q0, e0)] sz1 z → sz ≤ z := by
  rintro z (⟨t, e, ht⟩ | z1)
  · have t0 : t = 0 := by
      have := (List.getElem?_eq_some_iff.mp ht).1
      simp at this
      exact this
    subst t0
    simp at ht
    rw [← ht.1]
    exact h0
  · omega
theorem ad_1 {Y : Sd} {Z : Sy} {σ : St} {A : Nat → Prop} (h : va_D A (q_ws Y Z σ)) {k : Nat} (hk : k < Y.2.1.length) : A (ya Z k) := by
  have := h.2 k _ (q_at (Z := Z) (σ := σ) (List.getElem?_eq_some_iff.mpr ⟨hk, rfl⟩))
  rw [q_e1] at this
  exact this
theorem ad_2 {Y : Sd} {Z : Sy} {σ : St} {H : Heap} (h : va_P (yD Z) Y.1 (q_ws Y Z σ) H) {k : Nat} (hk : k < Y.2.1.length) : ya Z k < H.size := by
  have := (h k _ (q_at (Z := Z) (σ := σ) (List.getElem?_eq_some_iff.mpr ⟨hk, rfl⟩))).lt
  rw [q_e1] at this
  exact this
set_option maxHeartbeats 4000000 in
set_option maxRecDepth 20000 in
/-- YOUR PART: from the entry, for every script of at most 4096 ints, the law comes to its end with true -/
theorem whole_start {p : Program} {e : Env} {s : State} {m : MethodId} {below : List Frame} {meth : Method} {c : Code} (l : Launch) {b L : Nat} {xs : Nat → Int32} (hL : L ≤ 4096) (C0 : lw_At p s m meth c b L xs) : W p l e room_1 s m #[Value.ref b] below meth c s.heap [] 0 0 (lw_Z below #[Value.ref b] s) (entryFrame m ([Value.ref b] : List Value).toArray 4) := by
  obtain ⟨hx, hb, hr, hml, hown, htsL, hX, hbl, hlocks, hgv⟩ := id C0
  have hts : ∀ w ∈ tb, w.before #[Value.ref b] s = true := fun w hw => htsL w (List.mem_filter.mp hw).1
  have hown : s.vm.findClass R_L = some m.cls := hown
  obtain ⟨c0, i0, k0⟩ := u_known (C := R_P) (T := T_P) (N := 15) (n := 15) hts cf_P.1 (hts _ ts_is_P)
  obtain ⟨c1, i1, k1⟩ := u_known (C := R_Roll) (T := T_Roll) (N := 7) (n := 7) hts cf_Roll.1 (hts _ ts_is_Roll)
  obtain ⟨c2, i2, k2⟩ := u_known (C := R_Spans) (T := T_Spans) (N := 5) (n := 5) hts cf_Spans.1 (hts _ ts_is_Spans)
  obtain ⟨c3, i3, k3⟩ := u_known (C := R_Packs) (T := T_Packs) (N := 8) (n := 8) hts cf_Packs.1 (hts _ ts_is_Packs)
  obtain ⟨c4, i4, k4⟩ := u_known (C := R_Ledger) (T := T_Ledger) (N := 7) (n := 7) hts cf_Ledger.1 (hts _ ts_is_Ledger)
  obtain ⟨c5, i5, k5⟩ := u_known (C := R_News) (T := T_News) (N := 5) (n := 5) hts cf_News.1 (hts _ ts_is_News)
  obtain ⟨c6, i6, k6⟩ := u_known (C := R_Texts) (T := T_Texts) (N := 10) (n := 10) hts cf_Texts.1 (hts _ ts_is_Texts)
  obtain ⟨c7, i7, k7⟩ := u_known (C := R_Debts) (T := T_Debts) (N := 8) (n := 8) hts cf_Debts.1 (hts _ ts_is_Debts)
  obtain ⟨c8, i8, k8⟩ := u_known (C := R_Owed) (T := T_Owed) (N := 7) (n := 7) hts cf_Owed.1 (hts _ ts_is_Owed)
  obtain ⟨c9, i9, k9⟩ := u_known (C := R_Rounds) (T := T_Rounds) (N := 3) (n := 3) hts cf_Rounds.1 (hts _ ts_is_Rounds)
  obtain ⟨c10, i10, k10⟩ := u_known (C := R_Offers) (T := T_Offers) (N := 10) (n := 10) hts cf_Offers.1 (hts _ ts_is_Offers)
  obtain ⟨c11, i11, k11⟩ := u_known (C := R_Sheets) (T := T_Sheets) (N := 3) (n := 3) hts cf_Sheets.1 (hts _ ts_is_Sheets)
  obtain ⟨cM, iM, kM⟩ := u_known (C := R_M) (T := T_M) (N := 79) (n := 79) hts cf_M.1 (hts _ ts_is_M)
  obtain ⟨cI, aI, rI⟩ := arr_0 (ty := .int) (Or.inl rfl) (hts _ ts_aI)
  obtain ⟨cJ, aJ, rJ⟩ := arr_0 (ty := .long) (Or.inr rfl) (hts _ ts_aJ)
  have htys : ∀ (k : Nat) (q : ClassId × FieldType), (kTy cI cJ)[k]? = some q → ArrOfT s q.1 q.2 ∧ va_RA s q.1 q.2 := by
    intro k q hq
    match k, hq with
    | 0, hq => cases hq; exact ⟨aI, rI⟩
    | 1, hq => cases hq; exact ⟨aJ, rJ⟩
    | k + 2, hq => simp at hq
  obtain ⟨Dc, hKc⟩ : ∃ D : va_G, va_K D cl_YC (kTy cI cJ) s := by
    refine ⟨(fun k => [c0, c1, c2, c3, c4, c5, c6, c7, c8, c9, c10, c11].getD k c0, fun k => [i0, i1, i2, i3, i4, i5, i6, i7, i8, i9, i10, i11].getD k i0), ?_, htys⟩
    intro k q hq
    match k, hq with
    | 0, hq => cases hq; exact k0
    | 1, hq => cases hq; exact k1
    | 2, hq => cases hq; exact k2
    | 3, hq => cases hq; exact k3
    | 4, hq => cases hq; exact k4
    | 5, hq => cases hq; exact k5
    | 6, hq => cases hq; exact k6
    | 7, hq => cases hq; exact k7
    | 8, hq => cases hq; exact k8
    | 9, hq => cases hq; exact k9
    | 10, hq => cases hq; exact k10
    | 11, hq => cases hq; exact k11
    | k + 12, hq => simp [cl_YC] at hq
  obtain ⟨Dm, hKm⟩ : ∃ D : va_G, va_K D cl_YM (kTy cI cJ) s := by
    refine ⟨(fun _ => cM, fun _ => iM), ?_, htys⟩
    intro k q hq
    match k, hq with
    | 0, hq => cases hq; exact kM
    | k + 1, hq => simp [cl_YM] at hq
  obtain ⟨Tm, hqS⟩ := qS_0 htsL hgv
  have hl := lv_entry ([.ref b]) (n := 4) (Nat.le_of_ble_eq_true rfl)
  rw [lg_entry_eq]
  generalize (lg_sl ([.ref b]) ++ List.replicate (4 - (lg_sl ([.ref b])).length) Slot.unset).toArray = ls at hl ⊢
  have hl : lv_has ls 4 [(0, .ref b)] := hl
  have hP0 : va_P Dc cl_YC [] s.heap := fun k q h => by simp at h
  have hD0 : va_D (fun q : Nat => s.heap.size ≤ q) [] := ⟨fun i j p q h => by simp at h, fun k q h => by simp at h⟩
  refine va_new (D := Dc) (cl := cl_YC) (tys := kTy cI cJ) (ws := []) (A := fun q => s.heap.size ≤ q) (H0 := s.heap) (ci := 0) (fs := kZ fl_P) (C := R_P) (T := T_P) (N := 15) hx hb hts cf_P.1 ty_P cf_P.2.1 hown (hts _ ts_clP) (hts _ ts_is_P) (hts _ ts_inP) hKc hP0 hD0 va_S.rf (fun _ h => h) rfl kz_P (by decide) (by decide) dl_0 (fun q0 H1 hP1 hD1 hS1 => ?_)
  have hP1 : va_P Dc cl_YC [(q0, .inr (0, kZ fl_P))] H1 := hP1
  have hD1 : va_D (fun q : Nat => s.heap.size ≤ q) [(q0, .inr (0, kZ fl_P))] := hD1
  have h01 : s.heap.size ≤ q0 := hD1.2 0 (q0, .inr (0, kZ fl_P)) rfl
  have hF1 := fc_1 (e0 := .inr (0, kZ fl_P)) h01 hS1.1
  refine lv_dup hx hb dl_3 rfl ?_
  refine va_callv (va_runI (As := []) (rest := [.ref q0]) (cc := code) (nL := 4) (Ts := tb) (own := R_L) ⟨hx, hb, hml, hown, hts⟩ (mk_P (l := l) (D := Dc) (cI := cI) (cJ := cJ) (h0 := q0) H1.size) (bytes := c_P_init) (maxL := 1) (n := 0) (index := 9) ⟨callB_of 0 hts (q_callGood ts_cdP) rfl rfl rfl (hts _ ts_inP) (hts _ ts_mlP) ⟨by decide +kernel, by decide +kernel, by decide +kernel⟩ ⟨by decide, by decide⟩, rfl, hts _ ts_imP⟩ ⟨k_blind _ _ _ _, fun U hU hW => ⟨rfl, by rw [hU], by rw [hU]; exact hP1, va_K.moved hW.alike hKc, ⟨hD1.1, fun _ _ _ => trivial⟩⟩⟩ rfl rfl hl.1 rfl (lv_room (Nat.le_of_ble_eq_true rfl)) dl_4 ⟨by decide, by decide⟩) hS1 (fun z _ hz => hF1 z hz) hF1 (fun a t H2 locs2 ht hvm ha hB hz2 hk2 hS2 => ?_)
  obtain ⟨hP2, hK2, hD2⟩ := hB
  rw [ht] at hP2
  refine va_forget (fun q hq => hS2.2.2 q hq) ?_
  refine lv_astore_n (lv' := [(1, .ref q0), (0, .ref b)]) hx hb dl_7 rfl hl (by decide) rfl (fun ls hl => ?_)
  have hPm0 : va_P Dm cl_YM [] H2 := fun k q h => by simp at h
  have hDm0 : va_D (fun q : Nat => H2.size ≤ q) [] := ⟨fun i j p q h => by simp at h, fun k q h => by simp at h⟩
  refine va_new (D := Dm) (cl := cl_YM) (tys := kTy cI cJ) (ws := []) (A := fun q => H2.size ≤ q) (H0 := H2) (ci := 0) (fs := kZ fl_M) (C := R_M) (T := T_M) (N := 79) hx hb hts cf_M.1 ty_M cf_M.2.1 hown (hts _ ts_clM) (hts _ ts_is_M) (hts _ ts_inM) hKm hPm0 hDm0 va_S.rf (fun _ h => h) rfl kz_M (by decide) (by decide) dl_8 (fun q1 H3 hP3 hD3 hS3 => ?_)
  have hP3 : va_P Dm cl_YM [(q1, .inr (0, kZ fl_M))] H3 := hP3
  have hD3 : va_D (fun q : Nat => H2.size ≤ q) [(q1, .inr (0, kZ fl_M))] := hD3
  have h03 : H2.size ≤ q1 := hD3.2 0 (q1, .inr (0, kZ fl_M)) rfl
  have hF3 := fc_1 (e0 := .inr (0, kZ fl_M)) h03 hS3.1
  refine lv_dup hx hb dl_11 rfl ?_
  refine va_callv (va_runI (As := []) (rest := [.ref q1]) (cc := code) (nL := 4) (Ts := tb) (own := R_L) ⟨hx, hb, hml, hown, hts⟩ (mk_M (l := l) (D := Dm) (cI := cI) (cJ := cJ) (h0 := q1) H3.size) (bytes := c_M_init) (maxL := 2) (n := 0) (index := 12) ⟨callB_of 0 hts (q_callGood ts_cdM) rfl rfl rfl (hts _ ts_inM) (hts _ ts_mlM) ⟨by decide +kernel, by decide +kernel, by decide +kernel⟩ ⟨by decide, by decide⟩, rfl, hts _ ts_imM⟩ ⟨k_blind _ _ _ _, fun U hU hW => ⟨rfl, by rw [hU], by rw [hU]; exact hP3, va_K.moved hW.alike hKm, ⟨hD3.1, fun _ _ _ => trivial⟩⟩⟩ rfl rfl hl.1 rfl (lv_room (Nat.le_of_ble_eq_true rfl)) dl_12 ⟨by decide, by decide⟩) hS3 (fun z _ hz => hF3 z hz) hF3 (fun a2 t4 H4 locs4 ht4 hvm4 ha4 hB4 hz4 hk4 hS4 => ?_)
  obtain ⟨hP4, hK4, hD4⟩ := hB4
  rw [ht4] at hP4
  refine va_forget (fun q hq => Nat.le_trans hS2.1 (hS4.2.2 q hq)) ?_
  refine lv_astore_n (lv' := [(2, .ref q1), (1, .ref q0), (0, .ref b)]) hx hb dl_15 rfl hl (by decide) rfl (fun ls hl => ?_)
  refine lv_iconst (v := 0) hx hb dl_16 (by decide) ?_
  refine lv_istore_n (lv' := [(3, .int 0), (2, .ref q1), (1, .ref q0), (0, .ref b)]) hx hb dl_17 rfl hl (by decide) rfl (fun ls hl => ?_)
  have hPm : va_P Dm YM.1 (q_ws YM (l, Dm, a2, cI, cJ, fun _ => 0) st0M) H4 := by rw [← qw_M]; exact hP4
  have hDm' : va_D (fun q : Nat => H2.size ≤ q) (q_ws YM (l, Dm, a2, cI, cJ, fun _ => 0) st0M) := by
    rw [← qw_M]
    exact ⟨hD4.1, fun k q hq => hF3 q.1 (hD4.2 k q hq)⟩
  have hDc : va_D (fun q : Nat => s.heap.size ≤ q) (q_ws YC (l, Dc, a, cI, cJ, Tm) st0C) := ⟨hD2.1, fun k q hq => hF1 q.1 (hD2.2 k q hq)⟩
  have hPc2 : va_P (yD (l, Dc, a, cI, cJ, Tm)) YC.1 (q_ws YC (l, Dc, a, cI, cJ, Tm) st0C) H2 := hP2
  have hPc : va_P (yD (l, Dc, a, cI, cJ, Tm)) YC.1 (q_ws YC (l, Dc, a, cI, cJ, Tm) st0C) H4 := by
    refine hPc2.kept (fun k q hq => ?_)
    have hlt := (hPc2 k q hq).lt
    exact hS4.2.1 q.1 hlt (Nat.not_le.mpr hlt)
  have hS : va_S (fun q : Nat => s.heap.size ≤ q) s.heap H4 [] := ⟨Nat.le_trans hS2.1 hS4.1, fun q h1 h2 => by
    have hlt : q < H2.size := Nat.lt_of_lt_of_le h1 hS2.1
    rw [hS4.2.1 q hlt (Nat.not_le.mpr hlt)]
    exact hS2.2.1 q h1 h2, fun _ hq => by cases hq⟩
  have hl' : lv_has ls 4 (lsL b (l, Dc, a, cI, cJ, Tm) (l, Dm, a2, cI, cJ, fun _ => 0) (nI (8 * 0))) := by
    show lv_has ls 4 [(3, .int 0), (2, .ref (a2 0)), (1, .ref (a 0)), (0, .ref b)]
    rw [ha, ha4]
    exact hl
  have FX : lFx p s m meth c b L xs (l, Dc, a, cI, cJ, Tm) (l, Dm, a2, cI, cJ, fun _ => 0) := by
    refine ⟨⟨hx, hb, hr, hml, hown, hlocks⟩, hts, ⟨hX, hbl⟩, ⟨hKc, hKm⟩, hqS l Dc a cI cJ, qN_0 htsL, rfl, ⟨hDc, ⟨hDm'.1, fun k q hq => Nat.le_trans hS2.1 (hDm'.2 k q hq)⟩⟩, ⟨fun k hk => ad_1 hDc hk, fun k hk => Nat.le_trans hS2.1 (ad_1 hDm' hk)⟩, fun i j hi hj z => ?_⟩
    have h1 := ad_2 hPc2 hi
    have h2 : H2.size ≤ ya (l, Dm, a2, cI, cJ, fun _ => 0) j := ad_1 hDm' hj
    rw [z] at h1
    omega
  exact l_loop ⟨p, e, s, m, below, meth, c, FX, rfl⟩ ⟨by decide, by decide⟩ hL 512 0 st0C st0M (by omega) (by omega) rel_init H4 ls hPc hPm hS hl'
