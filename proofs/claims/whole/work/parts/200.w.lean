theorem d_P_isBelow_0 : decode c_P_isBelow 0 = .ok (.iload_n 0, 1) ∧ 0 + 1 = 1 := by decide +kernel
theorem d_P_isBelow_1 : decode c_P_isBelow 1 = .ok (.ifCond .lt 12, 3) ∧ 1 + 3 = 4 ∧ ((1 : Nat) : Int) + 12 = ((13 : Nat) : Int) := by decide +kernel
theorem d_P_isBelow_4 : decode c_P_isBelow 4 = .ok (.iload_n 0, 1) ∧ 4 + 1 = 5 := by decide +kernel
theorem d_P_isBelow_5 : decode c_P_isBelow 5 = .ok (.iload_n 1, 1) ∧ 5 + 1 = 6 := by decide +kernel
theorem d_P_isBelow_6 : decode c_P_isBelow 6 = .ok (.if_icmp .ge 7, 3) ∧ 6 + 3 = 9 ∧ ((6 : Nat) : Int) + 7 = ((13 : Nat) : Int) := by decide +kernel
theorem d_P_isBelow_9 : decode c_P_isBelow 9 = .ok (.iconst 1, 1) ∧ 9 + 1 = 10 := by decide +kernel
theorem d_P_isBelow_10 : decode c_P_isBelow 10 = .ok (.goto 4, 3) ∧ (10 : Int) + 4 = (14 : Int) := by decide +kernel
theorem d_P_isBelow_13 : decode c_P_isBelow 13 = .ok (.iconst 0, 1) ∧ 13 + 1 = 14 := by decide +kernel
theorem d_P_isBelow_14 : decode c_P_isBelow 14 = .ok (.ireturn, 1) ∧ 14 + 1 = 15 := by decide +kernel
set_option maxHeartbeats 4000000 in
theorem m_P_isBelow {Z : Sy} {σ : St} {res : Bool} {x0 : Int32} {x1 : Int32} (hf : P_isBelow x0 x1 σ = some res) : Ct YC Z y_P_isBelow c_P_isBelow 2 (some .boolean) 1 [.int x0, .int x1] σ (some (.int (bi res))) σ := by
  refine Ct.of pn_P (Nat.le_of_ble_eq_true rfl) rfl (fun Γ h => ?_)
  have h : IsG YC Z R_P c_P_isBelow 2 1 (some .boolean) (some (.int (bi res))) σ Γ := h
  unfold P_isBelow at hf
  refine r_iload_n h d_P_isBelow_0 0 rfl rfl ?_
  refine r_if_lt h d_P_isBelow_1 hf (fun hf => ?_) (fun hf => ?_)
  · refine r_iconst h d_P_isBelow_13 ki_0 ?_
    exact r_zreturn h d_P_isBelow_14.1 ((show (0 : Int32) = bi false from rfl).trans (congrArg bi (Option.some.inj hf))) rfl
  · refine r_iload_n h d_P_isBelow_4 0 rfl rfl ?_
    refine r_iload_n h d_P_isBelow_5 1 rfl rfl ?_
    refine r_icmp_ge h d_P_isBelow_6 hf (fun hf => ?_) (fun hf => ?_)
    · refine r_iconst h d_P_isBelow_13 ki_0 ?_
      exact r_zreturn h d_P_isBelow_14.1 ((show (0 : Int32) = bi false from rfl).trans (congrArg bi (Option.some.inj hf))) rfl
    · refine r_iconst h d_P_isBelow_9 ki_1 ?_
      refine r_goto h d_P_isBelow_10 ?_
      exact r_zreturn h d_P_isBelow_14.1 ((show (1 : Int32) = bi true from rfl).trans (congrArg bi (Option.some.inj hf))) rfl

theorem d_Roll_addPlace_0 : decode c_Roll_addPlace 0 = .ok (.aload_n 0, 1) ∧ 0 + 1 = 1 := by decide +kernel
theorem d_Roll_addPlace_1 : decode c_Roll_addPlace 1 = .ok (.getfield 24, 3) ∧ 1 + 3 = 4 := by decide +kernel
theorem d_Roll_addPlace_4 : decode c_Roll_addPlace 4 = .ok (.aload_n 0, 1) ∧ 4 + 1 = 5 := by decide +kernel
theorem d_Roll_addPlace_5 : decode c_Roll_addPlace 5 = .ok (.getfield 9, 3) ∧ 5 + 3 = 8 := by decide +kernel
theorem d_Roll_addPlace_8 : decode c_Roll_addPlace 8 = .ok (.arraylength, 1) ∧ 8 + 1 = 9 := by decide +kernel
theorem d_Roll_addPlace_9 : decode c_Roll_addPlace 9 = .ok (.if_icmp .lt 6, 3) ∧ 9 + 3 = 12 ∧ ((9 : Nat) : Int) + 6 = ((15 : Nat) : Int) := by decide +kernel
theorem d_Roll_addPlace_12 : decode c_Roll_addPlace 12 = .ok (.bipush (-4), 2) ∧ 12 + 2 = 14 := by decide +kernel
theorem d_Roll_addPlace_14 : decode c_Roll_addPlace 14 = .ok (.ireturn, 1) ∧ 14 + 1 = 15 := by decide +kernel
theorem d_Roll_addPlace_15 : decode c_Roll_addPlace 15 = .ok (.aload_n 0, 1) ∧ 15 + 1 = 16 := by decide +kernel
theorem d_Roll_addPlace_16 : decode c_Roll_addPlace 16 = .ok (.getfield 9, 3) ∧ 16 + 3 = 19 := by decide +kernel
theorem d_Roll_addPlace_19 : decode c_Roll_addPlace 19 = .ok (.aload_n 0, 1) ∧ 19 + 1 = 20 := by decide +kernel
theorem d_Roll_addPlace_20 : decode c_Roll_addPlace 20 = .ok (.getfield 24, 3) ∧ 20 + 3 = 23 := by decide +kernel
theorem d_Roll_addPlace_23 : decode c_Roll_addPlace 23 = .ok (.iload_n 1, 1) ∧ 23 + 1 = 24 := by decide +kernel
theorem d_Roll_addPlace_24 : decode c_Roll_addPlace 24 = .ok (.iastore, 1) ∧ 24 + 1 = 25 := by decide +kernel
theorem d_Roll_addPlace_25 : decode c_Roll_addPlace 25 = .ok (.aload_n 0, 1) ∧ 25 + 1 = 26 := by decide +kernel
theorem d_Roll_addPlace_26 : decode c_Roll_addPlace 26 = .ok (.dup, 1) ∧ 26 + 1 = 27 := by decide +kernel
theorem d_Roll_addPlace_27 : decode c_Roll_addPlace 27 = .ok (.getfield 24, 3) ∧ 27 + 3 = 30 := by decide +kernel
theorem d_Roll_addPlace_30 : decode c_Roll_addPlace 30 = .ok (.dup_x1, 1) ∧ 30 + 1 = 31 := by decide +kernel
theorem d_Roll_addPlace_31 : decode c_Roll_addPlace 31 = .ok (.iconst 1, 1) ∧ 31 + 1 = 32 := by decide +kernel
theorem d_Roll_addPlace_32 : decode c_Roll_addPlace 32 = .ok (.iadd, 1) ∧ 32 + 1 = 33 := by decide +kernel
theorem d_Roll_addPlace_33 : decode c_Roll_addPlace 33 = .ok (.putfield 24, 3) ∧ 33 + 3 = 36 := by decide +kernel
theorem d_Roll_addPlace_36 : decode c_Roll_addPlace 36 = .ok (.ireturn, 1) ∧ 36 + 1 = 37 := by decide +kernel
set_option maxHeartbeats 4000000 in
theorem m_Roll_addPlace {Z : Sy} {σ : St} {res : (Int32 × St)} {x1 : Int32} (hf : Roll_addPlace x1 σ = some res) : Ct YC Z y_Roll_addPlace c_Roll_addPlace 2 (some .int) 1 [.ref (ya Z 1), .int x1] σ (some (.int res.1)) res.2 := by
  refine Ct.of pn_Roll (Nat.le_of_ble_eq_true rfl) rfl (fun Γ h => ?_)
  have h : IsG YC Z R_Roll c_Roll_addPlace 2 1 (some .int) (some (.int res.1)) res.2 Γ := h
  unfold Roll_addPlace at hf
  refine r_aload_n h d_Roll_addPlace_0 0 rfl rfl ?_
  refine r_getI h fd_YC_1_4 cf_Roll fl_Roll_24 d_Roll_addPlace_1 ?_
  refine r_aload_n h d_Roll_addPlace_4 0 rfl rfl ?_
  refine r_getR h fd_YC_1_0 cf_Roll fl_Roll_9 d_Roll_addPlace_5 ?_
  refine r_alen h sh_YC_2 kn_16 d_Roll_addPlace_8 ?_
  refine r_icmp_lt h d_Roll_addPlace_9 hf (fun hf => ?_) (fun hf => ?_)
  · refine r_aload_n h d_Roll_addPlace_15 0 rfl rfl ?_
    refine r_getR h fd_YC_1_0 cf_Roll fl_Roll_9 d_Roll_addPlace_16 ?_
    refine r_aload_n h d_Roll_addPlace_19 0 rfl rfl ?_
    refine r_getI h fd_YC_1_4 cf_Roll fl_Roll_24 d_Roll_addPlace_20 ?_
    refine r_iload_n h d_Roll_addPlace_23 1 rfl rfl ?_
    refine r_iast h sh_YC_2 d_Roll_addPlace_24 hf (fun hf => ?_)
    refine r_aload_n h d_Roll_addPlace_25 0 rfl rfl ?_
    refine r_dup h d_Roll_addPlace_26 rfl ?_
    refine r_getIv (v := (σ.1 1 4)) h fd_YC_1_4 cf_Roll fl_Roll_24 d_Roll_addPlace_27 rfl ?_
    refine r_dup_x1 h d_Roll_addPlace_30 rfl rfl ?_
    refine r_iconst h d_Roll_addPlace_31 ki_1 ?_
    refine r_iadd h d_Roll_addPlace_32 ?_
    refine r_putI h fd_YC_1_4 cf_Roll fl_Roll_24 ⟨rfl, rfl⟩ d_Roll_addPlace_33 ?_
    exact r_ireturn h d_Roll_addPlace_36.1 (q_p1 hf) (q_p2 hf)
  · refine r_bipush h d_Roll_addPlace_12 kb_m4 ?_
    exact r_ireturn h d_Roll_addPlace_14.1 (q_p1 hf) (q_p2 hf)

theorem d_P_place_0 : decode c_P_place 0 = .ok (.iload_n 1, 1) ∧ 0 + 1 = 1 := by decide +kernel
theorem d_P_place_1 : decode c_P_place 1 = .ok (.bipush 6, 2) ∧ 1 + 2 = 3 := by decide +kernel
theorem d_P_place_3 : decode c_P_place 3 = .ok (.invokestatic 96, 3) ∧ 3 + 3 = 6 := by decide +kernel
theorem d_P_place_6 : decode c_P_place 6 = .ok (.ifCond .ne 6, 3) ∧ 6 + 3 = 9 ∧ ((6 : Nat) : Int) + 6 = ((12 : Nat) : Int) := by decide +kernel
theorem d_P_place_9 : decode c_P_place 9 = .ok (.bipush (-2), 2) ∧ 9 + 2 = 11 := by decide +kernel
theorem d_P_place_11 : decode c_P_place 11 = .ok (.ireturn, 1) ∧ 11 + 1 = 12 := by decide +kernel
theorem d_P_place_12 : decode c_P_place 12 = .ok (.aload_n 0, 1) ∧ 12 + 1 = 13 := by decide +kernel
theorem d_P_place_13 : decode c_P_place 13 = .ok (.getfield 12, 3) ∧ 13 + 3 = 16 := by decide +kernel
theorem d_P_place_16 : decode c_P_place 16 = .ok (.iload_n 1, 1) ∧ 16 + 1 = 17 := by decide +kernel
theorem d_P_place_17 : decode c_P_place 17 = .ok (.invokevirtual 100, 3) ∧ 17 + 3 = 20 := by decide +kernel
theorem d_P_place_20 : decode c_P_place 20 = .ok (.ireturn, 1) ∧ 20 + 1 = 21 := by decide +kernel
set_option maxHeartbeats 4000000 in
theorem m_P_place {Z : Sy} {σ : St} {res : (Int32 × St)} {x1 : Int32} (hf : P_place x1 σ = some res) : Ct YC Z y_P_place c_P_place 2 (some .int) 2 [.ref (ya Z 0), .int x1] σ (some (.int res.1)) res.2 := by
  refine Ct.of pn_P (Nat.le_of_ble_eq_true rfl) rfl (fun Γ h => ?_)
  have h : IsG YC Z R_P c_P_place 2 2 (some .int) (some (.int res.1)) res.2 Γ := h
  unfold P_place at hf
  refine r_iload_n h d_P_place_0 1 rfl rfl ?_
  refine r_bipush h d_P_place_1 kb_6 ?_
  obtain ⟨r3, e3, hf⟩ := q_bind hf
  refine r_callS (As := [.int x1, .int (6 : Int32)]) (rest := []) h lk_P_96 sk_P_96 d_P_place_3 (by decide) rfl rfl (Nat.le_of_ble_eq_true rfl) (m_P_isBelow e3) ?_
  refine r_bif_ne h d_P_place_6 hf (fun hf => ?_) (fun hf => ?_)
  · refine r_aload_n h d_P_place_12 0 rfl rfl ?_
    refine r_getR h fd_YC_0_0 cf_P fl_P_12 d_P_place_13 ?_
    refine r_iload_n h d_P_place_16 1 rfl rfl ?_
    obtain ⟨q17, e17, hf⟩ := q_bind hf
    refine r_callV (As := [.int x1]) (rest := []) h sh_YC_1 lk_P_100 vk_P_100 d_P_place_17 (by decide) rfl rfl (Nat.le_of_ble_eq_true rfl) (m_Roll_addPlace e17) ?_
    exact r_ireturn h d_P_place_20.1 (q_p1 hf) (q_p2 hf)
  · refine r_bipush h d_P_place_9 kb_m2 ?_
    exact r_ireturn h d_P_place_11.1 (q_p1 hf) (q_p2 hf)

theorem d_Roll_addBand_0 : decode c_Roll_addBand 0 = .ok (.aload_n 0, 1) ∧ 0 + 1 = 1 := by decide +kernel
theorem d_Roll_addBand_1 : decode c_Roll_addBand 1 = .ok (.getfield 28, 3) ∧ 1 + 3 = 4 := by decide +kernel
theorem d_Roll_addBand_4 : decode c_Roll_addBand 4 = .ok (.aload_n 0, 1) ∧ 4 + 1 = 5 := by decide +kernel
theorem d_Roll_addBand_5 : decode c_Roll_addBand 5 = .ok (.getfield 15, 3) ∧ 5 + 3 = 8 := by decide +kernel
theorem d_Roll_addBand_8 : decode c_Roll_addBand 8 = .ok (.arraylength, 1) ∧ 8 + 1 = 9 := by decide +kernel
theorem d_Roll_addBand_9 : decode c_Roll_addBand 9 = .ok (.if_icmp .lt 6, 3) ∧ 9 + 3 = 12 ∧ ((9 : Nat) : Int) + 6 = ((15 : Nat) : Int) := by decide +kernel
theorem d_Roll_addBand_12 : decode c_Roll_addBand 12 = .ok (.bipush (-4), 2) ∧ 12 + 2 = 14 := by decide +kernel
theorem d_Roll_addBand_14 : decode c_Roll_addBand 14 = .ok (.ireturn, 1) ∧ 14 + 1 = 15 := by decide +kernel
theorem d_Roll_addBand_15 : decode c_Roll_addBand 15 = .ok (.aload_n 0, 1) ∧ 15 + 1 = 16 := by decide +kernel
theorem d_Roll_addBand_16 : decode c_Roll_addBand 16 = .ok (.getfield 15, 3) ∧ 16 + 3 = 19 := by decide +kernel
theorem d_Roll_addBand_19 : decode c_Roll_addBand 19 = .ok (.aload_n 0, 1) ∧ 19 + 1 = 20 := by decide +kernel
theorem d_Roll_addBand_20 : decode c_Roll_addBand 20 = .ok (.getfield 28, 3) ∧ 20 + 3 = 23 := by decide +kernel
theorem d_Roll_addBand_23 : decode c_Roll_addBand 23 = .ok (.iload_n 1, 1) ∧ 23 + 1 = 24 := by decide +kernel
theorem d_Roll_addBand_24 : decode c_Roll_addBand 24 = .ok (.iastore, 1) ∧ 24 + 1 = 25 := by decide +kernel
theorem d_Roll_addBand_25 : decode c_Roll_addBand 25 = .ok (.aload_n 0, 1) ∧ 25 + 1 = 26 := by decide +kernel
theorem d_Roll_addBand_26 : decode c_Roll_addBand 26 = .ok (.getfield 18, 3) ∧ 26 + 3 = 29 := by decide +kernel
theorem d_Roll_addBand_29 : decode c_Roll_addBand 29 = .ok (.aload_n 0, 1) ∧ 29 + 1 = 30 := by decide +kernel
theorem d_Roll_addBand_30 : decode c_Roll_addBand 30 = .ok (.getfield 28, 3) ∧ 30 + 3 = 33 := by decide +kernel
theorem d_Roll_addBand_33 : decode c_Roll_addBand 33 = .ok (.iload_n 2, 1) ∧ 33 + 1 = 34 := by decide +kernel
theorem d_Roll_addBand_34 : decode c_Roll_addBand 34 = .ok (.iastore, 1) ∧ 34 + 1 = 35 := by decide +kernel
theorem d_Roll_addBand_35 : decode c_Roll_addBand 35 = .ok (.aload_n 0, 1) ∧ 35 + 1 = 36 := by decide +kernel
theorem d_Roll_addBand_36 : decode c_Roll_addBand 36 = .ok (.dup, 1) ∧ 36 + 1 = 37 := by decide +kernel
theorem d_Roll_addBand_37 : decode c_Roll_addBand 37 = .ok (.getfield 28, 3) ∧ 37 + 3 = 40 := by decide +kernel
theorem d_Roll_addBand_40 : decode c_Roll_addBand 40 = .ok (.dup_x1, 1) ∧ 40 + 1 = 41 := by decide +kernel
theorem d_Roll_addBand_41 : decode c_Roll_addBand 41 = .ok (.iconst 1, 1) ∧ 41 + 1 = 42 := by decide +kernel
theorem d_Roll_addBand_42 : decode c_Roll_addBand 42 = .ok (.iadd, 1) ∧ 42 + 1 = 43 := by decide +kernel
theorem d_Roll_addBand_43 : decode c_Roll_addBand 43 = .ok (.putfield 28, 3) ∧ 43 + 3 = 46 := by decide +kernel
theorem d_Roll_addBand_46 : decode c_Roll_addBand 46 = .ok (.ireturn, 1) ∧ 46 + 1 = 47 := by decide +kernel
set_option maxHeartbeats 4000000 in
theorem m_Roll_addBand {Z : Sy} {σ : St} {res : (Int32 × St)} {x1 : Int32} {x2 : Int32} (hf : Roll_addBand x1 x2 σ = some res) : Ct YC Z y_Roll_addBand c_Roll_addBand 3 (some .int) 1 [.ref (ya Z 1), .int x1, .int x2] σ (some (.int res.1)) res.2 := by
  refine Ct.of pn_Roll (Nat.le_of_ble_eq_true rfl) rfl (fun Γ h => ?_)
  have h : IsG YC Z R_Roll c_Roll_addBand 3 1 (some .int) (some (.int res.1)) res.2 Γ := h
  unfold Roll_addBand at hf
  refine r_aload_n h d_Roll_addBand_0 0 rfl rfl ?_
  refine r_getI h fd_YC_1_5 cf_Roll fl_Roll_28 d_Roll_addBand_1 ?_
  refine r_aload_n h d_Roll_addBand_4 0 rfl rfl ?_
  refine r_getR h fd_YC_1_1 cf_Roll fl_Roll_15 d_Roll_addBand_5 ?_
  refine r_alen h sh_YC_3 kn_6 d_Roll_addBand_8 ?_
  refine r_icmp_lt h d_Roll_addBand_9 hf (fun hf => ?_) (fun hf => ?_)
  · refine r_aload_n h d_Roll_addBand_15 0 rfl rfl ?_
    refine r_getR h fd_YC_1_1 cf_Roll fl_Roll_15 d_Roll_addBand_16 ?_
    refine r_aload_n h d_Roll_addBand_19 0 rfl rfl ?_
    refine r_getI h fd_YC_1_5 cf_Roll fl_Roll_28 d_Roll_addBand_20 ?_
    refine r_iload_n h d_Roll_addBand_23 1 rfl rfl ?_
    refine r_iast h sh_YC_3 d_Roll_addBand_24 hf (fun hf => ?_)
    refine r_aload_n h d_Roll_addBand_25 0 rfl rfl ?_
    refine r_getR h fd_YC_1_2 cf_Roll fl_Roll_18 d_Roll_addBand_26 ?_
    refine r_aload_n h d_Roll_addBand_29 0 rfl rfl ?_
    refine r_getIv (v := (σ.1 1 5)) h fd_YC_1_5 cf_Roll fl_Roll_28 d_Roll_addBand_30 rfl ?_
    refine r_iload_n h d_Roll_addBand_33 2 rfl rfl ?_
    refine r_iast h sh_YC_4 d_Roll_addBand_34 hf (fun hf => ?_)
    refine r_aload_n h d_Roll_addBand_35 0 rfl rfl ?_
    refine r_dup h d_Roll_addBand_36 rfl ?_
    refine r_getIv (v := (σ.1 1 5)) h fd_YC_1_5 cf_Roll fl_Roll_28 d_Roll_addBand_37 rfl ?_
    refine r_dup_x1 h d_Roll_addBand_40 rfl rfl ?_
    refine r_iconst h d_Roll_addBand_41 ki_1 ?_
    refine r_iadd h d_Roll_addBand_42 ?_
    refine r_putI h fd_YC_1_5 cf_Roll fl_Roll_28 ⟨rfl, rfl⟩ d_Roll_addBand_43 ?_
    exact r_ireturn h d_Roll_addBand_46.1 (q_p1 hf) (q_p2 hf)
  · refine r_bipush h d_Roll_addBand_12 kb_m4 ?_
    exact r_ireturn h d_Roll_addBand_14.1 (q_p1 hf) (q_p2 hf)

theorem d_P_band_0 : decode c_P_band 0 = .ok (.iload_n 1, 1) ∧ 0 + 1 = 1 := by decide +kernel
theorem d_P_band_1 : decode c_P_band 1 = .ok (.bipush 10, 2) ∧ 1 + 2 = 3 := by decide +kernel
theorem d_P_band_3 : decode c_P_band 3 = .ok (.invokestatic 96, 3) ∧ 3 + 3 = 6 := by decide +kernel
theorem d_P_band_6 : decode c_P_band 6 = .ok (.ifCond .eq 12, 3) ∧ 6 + 3 = 9 ∧ ((6 : Nat) : Int) + 12 = ((18 : Nat) : Int) := by decide +kernel
theorem d_P_band_9 : decode c_P_band 9 = .ok (.iload_n 2, 1) ∧ 9 + 1 = 10 := by decide +kernel
theorem d_P_band_10 : decode c_P_band 10 = .ok (.bipush 10, 2) ∧ 10 + 2 = 12 := by decide +kernel
theorem d_P_band_12 : decode c_P_band 12 = .ok (.invokestatic 96, 3) ∧ 12 + 3 = 15 := by decide +kernel
theorem d_P_band_15 : decode c_P_band 15 = .ok (.ifCond .ne 6, 3) ∧ 15 + 3 = 18 ∧ ((15 : Nat) : Int) + 6 = ((21 : Nat) : Int) := by decide +kernel
theorem d_P_band_18 : decode c_P_band 18 = .ok (.bipush (-2), 2) ∧ 18 + 2 = 20 := by decide +kernel
theorem d_P_band_20 : decode c_P_band 20 = .ok (.ireturn, 1) ∧ 20 + 1 = 21 := by decide +kernel
theorem d_P_band_21 : decode c_P_band 21 = .ok (.aload_n 0, 1) ∧ 21 + 1 = 22 := by decide +kernel
theorem d_P_band_22 : decode c_P_band 22 = .ok (.getfield 12, 3) ∧ 22 + 3 = 25 := by decide +kernel
theorem d_P_band_25 : decode c_P_band 25 = .ok (.iload_n 1, 1) ∧ 25 + 1 = 26 := by decide +kernel
theorem d_P_band_26 : decode c_P_band 26 = .ok (.iload_n 2, 1) ∧ 26 + 1 = 27 := by decide +kernel
theorem d_P_band_27 : decode c_P_band 27 = .ok (.invokevirtual 104, 3) ∧ 27 + 3 = 30 := by decide +kernel
theorem d_P_band_30 : decode c_P_band 30 = .ok (.ireturn, 1) ∧ 30 + 1 = 31 := by decide +kernel
set_option maxHeartbeats 4000000 in
theorem m_P_band {Z : Sy} {σ : St} {res : (Int32 × St)} {x1 : Int32} {x2 : Int32} (hf : P_band x1 x2 σ = some res) : Ct YC Z y_P_band c_P_band 3 (some .int) 2 [.ref (ya Z 0), .int x1, .int x2] σ (some (.int res.1)) res.2 := by
  refine Ct.of pn_P (Nat.le_of_ble_eq_true rfl) rfl (fun Γ h => ?_)
  have h : IsG YC Z R_P c_P_band 3 2 (some .int) (some (.int res.1)) res.2 Γ := h
  unfold P_band at hf
  refine r_iload_n h d_P_band_0 1 rfl rfl ?_
  refine r_bipush h d_P_band_1 kb_10 ?_
  obtain ⟨r3, e3, hf⟩ := q_bind hf
  refine r_callS (As := [.int x1, .int (10 : Int32)]) (rest := []) h lk_P_96 sk_P_96 d_P_band_3 (by decide) rfl rfl (Nat.le_of_ble_eq_true rfl) (m_P_isBelow e3) ?_
  refine r_bif_eq h d_P_band_6 hf (fun hf => ?_) (fun hf => ?_)
  · refine r_bipush h d_P_band_18 kb_m2 ?_
    exact r_ireturn h d_P_band_20.1 (q_p1 hf) (q_p2 hf)
  · refine r_iload_n h d_P_band_9 2 rfl rfl ?_
    refine r_bipush h d_P_band_10 kb_10 ?_
    obtain ⟨r12, e12, hf⟩ := q_bind hf
    refine r_callS (As := [.int x2, .int (10 : Int32)]) (rest := []) h lk_P_96 sk_P_96 d_P_band_12 (by decide) rfl rfl (Nat.le_of_ble_eq_true rfl) (m_P_isBelow e12) ?_
    refine r_bif_ne h d_P_band_15 hf (fun hf => ?_) (fun hf => ?_)
    · refine r_aload_n h d_P_band_21 0 rfl rfl ?_
      refine r_getR h fd_YC_0_0 cf_P fl_P_12 d_P_band_22 ?_
      refine r_iload_n h d_P_band_25 1 rfl rfl ?_
      refine r_iload_n h d_P_band_26 2 rfl rfl ?_
      obtain ⟨q27, e27, hf⟩ := q_bind hf
      refine r_callV (As := [.int x1, .int x2]) (rest := []) h sh_YC_1 lk_P_104 vk_P_104 d_P_band_27 (by decide) rfl rfl (Nat.le_of_ble_eq_true rfl) (m_Roll_addBand e27) ?_
      exact r_ireturn h d_P_band_30.1 (q_p1 hf) (q_p2 hf)
    · refine r_bipush h d_P_band_18 kb_m2 ?_
      exact r_ireturn h d_P_band_20.1 (q_p1 hf) (q_p2 hf)

theorem d_Roll_addHouse_0 : decode c_Roll_addHouse 0 = .ok (.aload_n 0, 1) ∧ 0 + 1 = 1 := by decide +kernel
theorem d_Roll_addHouse_1 : decode c_Roll_addHouse 1 = .ok (.getfield 31, 3) ∧ 1 + 3 = 4 := by decide +kernel
theorem d_Roll_addHouse_4 : decode c_Roll_addHouse 4 = .ok (.aload_n 0, 1) ∧ 4 + 1 = 5 := by decide +kernel
theorem d_Roll_addHouse_5 : decode c_Roll_addHouse 5 = .ok (.getfield 21, 3) ∧ 5 + 3 = 8 := by decide +kernel
theorem d_Roll_addHouse_8 : decode c_Roll_addHouse 8 = .ok (.arraylength, 1) ∧ 8 + 1 = 9 := by decide +kernel
theorem d_Roll_addHouse_9 : decode c_Roll_addHouse 9 = .ok (.if_icmp .lt 6, 3) ∧ 9 + 3 = 12 ∧ ((9 : Nat) : Int) + 6 = ((15 : Nat) : Int) := by decide +kernel
theorem d_Roll_addHouse_12 : decode c_Roll_addHouse 12 = .ok (.bipush (-4), 2) ∧ 12 + 2 = 14 := by decide +kernel
theorem d_Roll_addHouse_14 : decode c_Roll_addHouse 14 = .ok (.ireturn, 1) ∧ 14 + 1 = 15 := by decide +kernel
theorem d_Roll_addHouse_15 : decode c_Roll_addHouse 15 = .ok (.aload_n 0, 1) ∧ 15 + 1 = 16 := by decide +kernel
theorem d_Roll_addHouse_16 : decode c_Roll_addHouse 16 = .ok (.getfield 21, 3) ∧ 16 + 3 = 19 := by decide +kernel
theorem d_Roll_addHouse_19 : decode c_Roll_addHouse 19 = .ok (.aload_n 0, 1) ∧ 19 + 1 = 20 := by decide +kernel
theorem d_Roll_addHouse_20 : decode c_Roll_addHouse 20 = .ok (.getfield 31, 3) ∧ 20 + 3 = 23 := by decide +kernel
theorem d_Roll_addHouse_23 : decode c_Roll_addHouse 23 = .ok (.iload_n 1, 1) ∧ 23 + 1 = 24 := by decide +kernel
theorem d_Roll_addHouse_24 : decode c_Roll_addHouse 24 = .ok (.iastore, 1) ∧ 24 + 1 = 25 := by decide +kernel
theorem d_Roll_addHouse_25 : decode c_Roll_addHouse 25 = .ok (.aload_n 0, 1) ∧ 25 + 1 = 26 := by decide +kernel
theorem d_Roll_addHouse_26 : decode c_Roll_addHouse 26 = .ok (.dup, 1) ∧ 26 + 1 = 27 := by decide +kernel
theorem d_Roll_addHouse_27 : decode c_Roll_addHouse 27 = .ok (.getfield 31, 3) ∧ 27 + 3 = 30 := by decide +kernel
theorem d_Roll_addHouse_30 : decode c_Roll_addHouse 30 = .ok (.dup_x1, 1) ∧ 30 + 1 = 31 := by decide +kernel
theorem d_Roll_addHouse_31 : decode c_Roll_addHouse 31 = .ok (.iconst 1, 1) ∧ 31 + 1 = 32 := by decide +kernel
theorem d_Roll_addHouse_32 : decode c_Roll_addHouse 32 = .ok (.iadd, 1) ∧ 32 + 1 = 33 := by decide +kernel
theorem d_Roll_addHouse_33 : decode c_Roll_addHouse 33 = .ok (.putfield 31, 3) ∧ 33 + 3 = 36 := by decide +kernel
theorem d_Roll_addHouse_36 : decode c_Roll_addHouse 36 = .ok (.ireturn, 1) ∧ 36 + 1 = 37 := by decide +kernel
set_option maxHeartbeats 4000000 in
theorem m_Roll_addHouse {Z : Sy} {σ : St} {res : (Int32 × St)} {x1 : Int32} (hf : Roll_addHouse x1 σ = some res) : Ct YC Z y_Roll_addHouse c_Roll_addHouse 2 (some .int) 1 [.ref (ya Z 1), .int x1] σ (some (.int res.1)) res.2 := by
  refine Ct.of pn_Roll (Nat.le_of_ble_eq_true rfl) rfl (fun Γ h => ?_)
  have h : IsG YC Z R_Roll c_Roll_addHouse 2 1 (some .int) (some (.int res.1)) res.2 Γ := h
  unfold Roll_addHouse at hf
  refine r_aload_n h d_Roll_addHouse_0 0 rfl rfl ?_
  refine r_getI h fd_YC_1_6 cf_Roll fl_Roll_31 d_Roll_addHouse_1 ?_
  refine r_aload_n h d_Roll_addHouse_4 0 rfl rfl ?_
  refine r_getR h fd_YC_1_3 cf_Roll fl_Roll_21 d_Roll_addHouse_5 ?_
  refine r_alen h sh_YC_5 kn_4 d_Roll_addHouse_8 ?_
  refine r_icmp_lt h d_Roll_addHouse_9 hf (fun hf => ?_) (fun hf => ?_)
  · refine r_aload_n h d_Roll_addHouse_15 0 rfl rfl ?_
    refine r_getR h fd_YC_1_3 cf_Roll fl_Roll_21 d_Roll_addHouse_16 ?_
    refine r_aload_n h d_Roll_addHouse_19 0 rfl rfl ?_
    refine r_getI h fd_YC_1_6 cf_Roll fl_Roll_31 d_Roll_addHouse_20 ?_
    refine r_iload_n h d_Roll_addHouse_23 1 rfl rfl ?_
    refine r_iast h sh_YC_5 d_Roll_addHouse_24 hf (fun hf => ?_)
    refine r_aload_n h d_Roll_addHouse_25 0 rfl rfl ?_
    refine r_dup h d_Roll_addHouse_26 rfl ?_
    refine r_getIv (v := (σ.1 1 6)) h fd_YC_1_6 cf_Roll fl_Roll_31 d_Roll_addHouse_27 rfl ?_
    refine r_dup_x1 h d_Roll_addHouse_30 rfl rfl ?_
    refine r_iconst h d_Roll_addHouse_31 ki_1 ?_
    refine r_iadd h d_Roll_addHouse_32 ?_
    refine r_putI h fd_YC_1_6 cf_Roll fl_Roll_31 ⟨rfl, rfl⟩ d_Roll_addHouse_33 ?_
    exact r_ireturn h d_Roll_addHouse_36.1 (q_p1 hf) (q_p2 hf)
  · refine r_bipush h d_Roll_addHouse_12 kb_m4 ?_
    exact r_ireturn h d_Roll_addHouse_14.1 (q_p1 hf) (q_p2 hf)

theorem d_P_house_0 : decode c_P_house 0 = .ok (.iload_n 1, 1) ∧ 0 + 1 = 1 := by decide +kernel
theorem d_P_house_1 : decode c_P_house 1 = .ok (.ldc 108, 2) ∧ 1 + 2 = 3 := by decide +kernel
theorem d_P_house_3 : decode c_P_house 3 = .ok (.invokestatic 96, 3) ∧ 3 + 3 = 6 := by decide +kernel
theorem d_P_house_6 : decode c_P_house 6 = .ok (.ifCond .ne 6, 3) ∧ 6 + 3 = 9 ∧ ((6 : Nat) : Int) + 6 = ((12 : Nat) : Int) := by decide +kernel
theorem d_P_house_9 : decode c_P_house 9 = .ok (.bipush (-2), 2) ∧ 9 + 2 = 11 := by decide +kernel
theorem d_P_house_11 : decode c_P_house 11 = .ok (.ireturn, 1) ∧ 11 + 1 = 12 := by decide +kernel
theorem d_P_house_12 : decode c_P_house 12 = .ok (.aload_n 0, 1) ∧ 12 + 1 = 13 := by decide +kernel
theorem d_P_house_13 : decode c_P_house 13 = .ok (.getfield 12, 3) ∧ 13 + 3 = 16 := by decide +kernel
theorem d_P_house_16 : decode c_P_house 16 = .ok (.iload_n 1, 1) ∧ 16 + 1 = 17 := by decide +kernel
theorem d_P_house_17 : decode c_P_house 17 = .ok (.invokevirtual 109, 3) ∧ 17 + 3 = 20 := by decide +kernel
theorem d_P_house_20 : decode c_P_house 20 = .ok (.ireturn, 1) ∧ 20 + 1 = 21 := by decide +kernel
set_option maxHeartbeats 4000000 in
theorem m_P_house {Z : Sy} {σ : St} {res : (Int32 × St)} {x1 : Int32} (hf : P_house x1 σ = some res) : Ct YC Z y_P_house c_P_house 2 (some .int) 2 [.ref (ya Z 0), .int x1] σ (some (.int res.1)) res.2 := by
  refine Ct.of pn_P (Nat.le_of_ble_eq_true rfl) rfl (fun Γ h => ?_)
  have h : IsG YC Z R_P c_P_house 2 2 (some .int) (some (.int res.1)) res.2 Γ := h
  unfold P_house at hf
  refine r_iload_n h d_P_house_0 1 rfl rfl ?_
  refine r_ldc h d_P_house_1 tm_519 ?_
  obtain ⟨r3, e3, hf⟩ := q_bind hf
  refine r_callS (As := [.int x1, .int (1000001 : Int32)]) (rest := []) h lk_P_96 sk_P_96 d_P_house_3 (by decide) rfl rfl (Nat.le_of_ble_eq_true rfl) (m_P_isBelow e3) ?_
  refine r_bif_ne h d_P_house_6 hf (fun hf => ?_) (fun hf => ?_)
  · refine r_aload_n h d_P_house_12 0 rfl rfl ?_
    refine r_getR h fd_YC_0_0 cf_P fl_P_12 d_P_house_13 ?_
    refine r_iload_n h d_P_house_16 1 rfl rfl ?_
    obtain ⟨q17, e17, hf⟩ := q_bind hf
    refine r_callV (As := [.int x1]) (rest := []) h sh_YC_1 lk_P_109 vk_P_109 d_P_house_17 (by decide) rfl rfl (Nat.le_of_ble_eq_true rfl) (m_Roll_addHouse e17) ?_
    exact r_ireturn h d_P_house_20.1 (q_p1 hf) (q_p2 hf)
  · refine r_bipush h d_P_house_9 kb_m2 ?_
    exact r_ireturn h d_P_house_11.1 (q_p1 hf) (q_p2 hf)

theorem d_Roll_hasBand_0 : decode c_Roll_hasBand 0 = .ok (.iload_n 1, 1) ∧ 0 + 1 = 1 := by decide +kernel
theorem d_Roll_hasBand_1 : decode c_Roll_hasBand 1 = .ok (.aload_n 0, 1) ∧ 1 + 1 = 2 := by decide +kernel
theorem d_Roll_hasBand_2 : decode c_Roll_hasBand 2 = .ok (.getfield 28, 3) ∧ 2 + 3 = 5 := by decide +kernel
theorem d_Roll_hasBand_5 : decode c_Roll_hasBand 5 = .ok (.invokestatic 34, 3) ∧ 5 + 3 = 8 := by decide +kernel
theorem d_Roll_hasBand_8 : decode c_Roll_hasBand 8 = .ok (.ireturn, 1) ∧ 8 + 1 = 9 := by decide +kernel
set_option maxHeartbeats 4000000 in
theorem m_Roll_hasBand {Z : Sy} {σ : St} {res : Bool} {x1 : Int32} (hf : Roll_hasBand x1 σ = some res) : Ct YC Z y_Roll_hasBand c_Roll_hasBand 2 (some .boolean) 2 [.ref (ya Z 1), .int x1] σ (some (.int (bi res))) σ := by
  refine Ct.of pn_Roll (Nat.le_of_ble_eq_true rfl) rfl (fun Γ h => ?_)
  have h : IsG YC Z R_Roll c_Roll_hasBand 2 2 (some .boolean) (some (.int (bi res))) σ Γ := h
  unfold Roll_hasBand at hf
  refine r_iload_n h d_Roll_hasBand_0 1 rfl rfl ?_
  refine r_aload_n h d_Roll_hasBand_1 0 rfl rfl ?_
  refine r_getI h fd_YC_1_5 cf_Roll fl_Roll_28 d_Roll_hasBand_2 ?_
  obtain ⟨r5, e5, hf⟩ := q_bind hf
  refine r_callN (As := [.int x1, .int (σ.1 1 5)]) (rest := []) h lk_Roll_34 nk_Roll_34 d_Roll_hasBand_5 (by decide) rfl rfl (Nat.le_of_ble_eq_true rfl) (m_P_isBelow e5) ?_
  exact r_zreturn h d_Roll_hasBand_8.1 (congrArg bi (Option.some.inj hf)) rfl

theorem d_Roll_hasPlace_0 : decode c_Roll_hasPlace 0 = .ok (.iload_n 1, 1) ∧ 0 + 1 = 1 := by decide +kernel
theorem d_Roll_hasPlace_1 : decode c_Roll_hasPlace 1 = .ok (.aload_n 0, 1) ∧ 1 + 1 = 2 := by decide +kernel
theorem d_Roll_hasPlace_2 : decode c_Roll_hasPlace 2 = .ok (.getfield 24, 3) ∧ 2 + 3 = 5 := by decide +kernel
theorem d_Roll_hasPlace_5 : decode c_Roll_hasPlace 5 = .ok (.invokestatic 34, 3) ∧ 5 + 3 = 8 := by decide +kernel
theorem d_Roll_hasPlace_8 : decode c_Roll_hasPlace 8 = .ok (.ireturn, 1) ∧ 8 + 1 = 9 := by decide +kernel
set_option maxHeartbeats 4000000 in
theorem m_Roll_hasPlace {Z : Sy} {σ : St} {res : Bool} {x1 : Int32} (hf : Roll_hasPlace x1 σ = some res) : Ct YC Z y_Roll_hasPlace c_Roll_hasPlace 2 (some .boolean) 2 [.ref (ya Z 1), .int x1] σ (some (.int (bi res))) σ := by
  refine Ct.of pn_Roll (Nat.le_of_ble_eq_true rfl) rfl (fun Γ h => ?_)
  have h : IsG YC Z R_Roll c_Roll_hasPlace 2 2 (some .boolean) (some (.int (bi res))) σ Γ := h
  unfold Roll_hasPlace at hf
  refine r_iload_n h d_Roll_hasPlace_0 1 rfl rfl ?_
  refine r_aload_n h d_Roll_hasPlace_1 0 rfl rfl ?_
  refine r_getI h fd_YC_1_4 cf_Roll fl_Roll_24 d_Roll_hasPlace_2 ?_
  obtain ⟨r5, e5, hf⟩ := q_bind hf
  refine r_callN (As := [.int x1, .int (σ.1 1 4)]) (rest := []) h lk_Roll_34 nk_Roll_34 d_Roll_hasPlace_5 (by decide) rfl rfl (Nat.le_of_ble_eq_true rfl) (m_P_isBelow e5) ?_
  exact r_zreturn h d_Roll_hasPlace_8.1 (congrArg bi (Option.some.inj hf)) rfl

theorem d_P_areDays_0 : decode c_P_areDays 0 = .ok (.iload_n 0, 1) ∧ 0 + 1 = 1 := by decide +kernel
theorem d_P_areDays_1 : decode c_P_areDays 1 = .ok (.ifCond .lt 19, 3) ∧ 1 + 3 = 4 ∧ ((1 : Nat) : Int) + 19 = ((20 : Nat) : Int) := by decide +kernel
theorem d_P_areDays_4 : decode c_P_areDays 4 = .ok (.iload_n 0, 1) ∧ 4 + 1 = 5 := by decide +kernel
theorem d_P_areDays_5 : decode c_P_areDays 5 = .ok (.iload_n 1, 1) ∧ 5 + 1 = 6 := by decide +kernel
theorem d_P_areDays_6 : decode c_P_areDays 6 = .ok (.if_icmp .gt 14, 3) ∧ 6 + 3 = 9 ∧ ((6 : Nat) : Int) + 14 = ((20 : Nat) : Int) := by decide +kernel
theorem d_P_areDays_9 : decode c_P_areDays 9 = .ok (.iload_n 1, 1) ∧ 9 + 1 = 10 := by decide +kernel
theorem d_P_areDays_10 : decode c_P_areDays 10 = .ok (.sipush 10000, 3) ∧ 10 + 3 = 13 := by decide +kernel
theorem d_P_areDays_13 : decode c_P_areDays 13 = .ok (.if_icmp .ge 7, 3) ∧ 13 + 3 = 16 ∧ ((13 : Nat) : Int) + 7 = ((20 : Nat) : Int) := by decide +kernel
theorem d_P_areDays_16 : decode c_P_areDays 16 = .ok (.iconst 1, 1) ∧ 16 + 1 = 17 := by decide +kernel
theorem d_P_areDays_17 : decode c_P_areDays 17 = .ok (.goto 4, 3) ∧ (17 : Int) + 4 = (21 : Int) := by decide +kernel
theorem d_P_areDays_20 : decode c_P_areDays 20 = .ok (.iconst 0, 1) ∧ 20 + 1 = 21 := by decide +kernel
theorem d_P_areDays_21 : decode c_P_areDays 21 = .ok (.ireturn, 1) ∧ 21 + 1 = 22 := by decide +kernel
set_option maxHeartbeats 4000000 in
theorem m_P_areDays {Z : Sy} {σ : St} {res : Bool} {x0 : Int32} {x1 : Int32} (hf : P_areDays x0 x1 σ = some res) : Ct YC Z y_P_areDays c_P_areDays 2 (some .boolean) 1 [.int x0, .int x1] σ (some (.int (bi res))) σ := by
  refine Ct.of pn_P (Nat.le_of_ble_eq_true rfl) rfl (fun Γ h => ?_)
  have h : IsG YC Z R_P c_P_areDays 2 1 (some .boolean) (some (.int (bi res))) σ Γ := h
  unfold P_areDays at hf
  refine r_iload_n h d_P_areDays_0 0 rfl rfl ?_
  refine r_if_lt h d_P_areDays_1 hf (fun hf => ?_) (fun hf => ?_)
  · refine r_iconst h d_P_areDays_20 ki_0 ?_
    exact r_zreturn h d_P_areDays_21.1 ((show (0 : Int32) = bi false from rfl).trans (congrArg bi (Option.some.inj hf))) rfl
  · refine r_iload_n h d_P_areDays_4 0 rfl rfl ?_
    refine r_iload_n h d_P_areDays_5 1 rfl rfl ?_
    refine r_icmp_gt h d_P_areDays_6 hf (fun hf => ?_) (fun hf => ?_)
    · refine r_iconst h d_P_areDays_20 ki_0 ?_
      exact r_zreturn h d_P_areDays_21.1 ((show (0 : Int32) = bi false from rfl).trans (congrArg bi (Option.some.inj hf))) rfl
    · refine r_iload_n h d_P_areDays_9 1 rfl rfl ?_
      refine r_sipush h d_P_areDays_10 ks_10000 ?_
      refine r_icmp_ge h d_P_areDays_13 hf (fun hf => ?_) (fun hf => ?_)
      · refine r_iconst h d_P_areDays_20 ki_0 ?_
        exact r_zreturn h d_P_areDays_21.1 ((show (0 : Int32) = bi false from rfl).trans (congrArg bi (Option.some.inj hf))) rfl
      · refine r_iconst h d_P_areDays_16 ki_1 ?_
        refine r_goto h d_P_areDays_17 ?_
        exact r_zreturn h d_P_areDays_21.1 ((show (1 : Int32) = bi true from rfl).trans (congrArg bi (Option.some.inj hf))) rfl

theorem d_Spans_sharesDay_0 : decode c_Spans_sharesDay 0 = .ok (.iconst 0, 1) ∧ 0 + 1 = 1 := by decide +kernel
theorem d_Spans_sharesDay_1 : decode c_Spans_sharesDay 1 = .ok (.istore 4, 2) ∧ 1 + 2 = 3 := by decide +kernel
theorem d_Spans_sharesDay_3 : decode c_Spans_sharesDay 3 = .ok (.iload 4, 2) ∧ 3 + 2 = 5 := by decide +kernel
theorem d_Spans_sharesDay_5 : decode c_Spans_sharesDay 5 = .ok (.aload_n 0, 1) ∧ 5 + 1 = 6 := by decide +kernel
theorem d_Spans_sharesDay_6 : decode c_Spans_sharesDay 6 = .ok (.getfield 30, 3) ∧ 6 + 3 = 9 := by decide +kernel
theorem d_Spans_sharesDay_9 : decode c_Spans_sharesDay 9 = .ok (.if_icmp .ge 44, 3) ∧ 9 + 3 = 12 ∧ ((9 : Nat) : Int) + 44 = ((53 : Nat) : Int) := by decide +kernel
theorem d_Spans_sharesDay_12 : decode c_Spans_sharesDay 12 = .ok (.aload_n 0, 1) ∧ 12 + 1 = 13 := by decide +kernel
theorem d_Spans_sharesDay_13 : decode c_Spans_sharesDay 13 = .ok (.getfield 15, 3) ∧ 13 + 3 = 16 := by decide +kernel
theorem d_Spans_sharesDay_16 : decode c_Spans_sharesDay 16 = .ok (.iload 4, 2) ∧ 16 + 2 = 18 := by decide +kernel
theorem d_Spans_sharesDay_18 : decode c_Spans_sharesDay 18 = .ok (.iaload, 1) ∧ 18 + 1 = 19 := by decide +kernel
theorem d_Spans_sharesDay_19 : decode c_Spans_sharesDay 19 = .ok (.iload_n 1, 1) ∧ 19 + 1 = 20 := by decide +kernel
theorem d_Spans_sharesDay_20 : decode c_Spans_sharesDay 20 = .ok (.if_icmp .ne 27, 3) ∧ 20 + 3 = 23 ∧ ((20 : Nat) : Int) + 27 = ((47 : Nat) : Int) := by decide +kernel
theorem d_Spans_sharesDay_23 : decode c_Spans_sharesDay 23 = .ok (.aload_n 0, 1) ∧ 23 + 1 = 24 := by decide +kernel
theorem d_Spans_sharesDay_24 : decode c_Spans_sharesDay 24 = .ok (.getfield 24, 3) ∧ 24 + 3 = 27 := by decide +kernel
theorem d_Spans_sharesDay_27 : decode c_Spans_sharesDay 27 = .ok (.iload 4, 2) ∧ 27 + 2 = 29 := by decide +kernel
theorem d_Spans_sharesDay_29 : decode c_Spans_sharesDay 29 = .ok (.iaload, 1) ∧ 29 + 1 = 30 := by decide +kernel
theorem d_Spans_sharesDay_30 : decode c_Spans_sharesDay 30 = .ok (.iload_n 3, 1) ∧ 30 + 1 = 31 := by decide +kernel
theorem d_Spans_sharesDay_31 : decode c_Spans_sharesDay 31 = .ok (.if_icmp .gt 16, 3) ∧ 31 + 3 = 34 ∧ ((31 : Nat) : Int) + 16 = ((47 : Nat) : Int) := by decide +kernel
theorem d_Spans_sharesDay_34 : decode c_Spans_sharesDay 34 = .ok (.iload_n 2, 1) ∧ 34 + 1 = 35 := by decide +kernel
theorem d_Spans_sharesDay_35 : decode c_Spans_sharesDay 35 = .ok (.aload_n 0, 1) ∧ 35 + 1 = 36 := by decide +kernel
theorem d_Spans_sharesDay_36 : decode c_Spans_sharesDay 36 = .ok (.getfield 27, 3) ∧ 36 + 3 = 39 := by decide +kernel
theorem d_Spans_sharesDay_39 : decode c_Spans_sharesDay 39 = .ok (.iload 4, 2) ∧ 39 + 2 = 41 := by decide +kernel
theorem d_Spans_sharesDay_41 : decode c_Spans_sharesDay 41 = .ok (.iaload, 1) ∧ 41 + 1 = 42 := by decide +kernel
theorem d_Spans_sharesDay_42 : decode c_Spans_sharesDay 42 = .ok (.if_icmp .gt 5, 3) ∧ 42 + 3 = 45 ∧ ((42 : Nat) : Int) + 5 = ((47 : Nat) : Int) := by decide +kernel
theorem d_Spans_sharesDay_45 : decode c_Spans_sharesDay 45 = .ok (.iconst 1, 1) ∧ 45 + 1 = 46 := by decide +kernel
theorem d_Spans_sharesDay_46 : decode c_Spans_sharesDay 46 = .ok (.ireturn, 1) ∧ 46 + 1 = 47 := by decide +kernel
theorem d_Spans_sharesDay_47 : decode c_Spans_sharesDay 47 = .ok (.iinc 4 1, 3) ∧ 47 + 3 = 50 := by decide +kernel
theorem d_Spans_sharesDay_50 : decode c_Spans_sharesDay 50 = .ok (.goto (-47), 3) ∧ (50 : Int) + (-47) = (3 : Int) := by decide +kernel
theorem d_Spans_sharesDay_53 : decode c_Spans_sharesDay 53 = .ok (.iconst 0, 1) ∧ 53 + 1 = 54 := by decide +kernel
theorem d_Spans_sharesDay_54 : decode c_Spans_sharesDay 54 = .ok (.ireturn, 1) ∧ 54 + 1 = 55 := by decide +kernel
set_option maxHeartbeats 4000000 in
theorem w_Spans_sharesDay_stays_L3 {Z : Sy} {Γ : Nat → List (Nat × Value) → List Value → St → Prop} {res : Bool} {x1 : Int32} {x2 : Int32} {x3 : Int32} {σ : St} (h : IsG YC Z R_Spans c_Spans_sharesDay 5 1 (some .boolean) (some (.int (bi res))) σ Γ) : ∀ (n : Nat) (x4 : Int32), Spans_sharesDay_stays_L3 x1 x2 x3 σ n x4 = some res → Γ 3 [(0, .ref (ya Z 6)), (1, .int x1), (2, .int x2), (3, .int x3), (4, .int x4)] [] σ := by
  intro n
  induction n with
  | zero => intro x4 hf; exact absurd hf (by simp [Spans_sharesDay_stays_L3])
  | succ n ih =>
    intro x4 hf
    rw [Spans_sharesDay_stays_L3] at hf
    refine r_iload h d_Spans_sharesDay_3 4 rfl ?_
    refine r_aload_n h d_Spans_sharesDay_5 0 rfl rfl ?_
    refine r_getI h fd_YC_6_4 cf_Spans fl_Spans_30 d_Spans_sharesDay_6 ?_
    refine r_icmp_ge h d_Spans_sharesDay_9 hf (fun hf => ?_) (fun hf => ?_)
    · refine r_iconst h d_Spans_sharesDay_53 ki_0 ?_
      exact r_zreturn h d_Spans_sharesDay_54.1 ((show (0 : Int32) = bi false from rfl).trans (congrArg bi (Option.some.inj hf))) rfl
    · refine r_aload_n h d_Spans_sharesDay_12 0 rfl rfl ?_
      refine r_getR h fd_YC_6_0 cf_Spans fl_Spans_15 d_Spans_sharesDay_13 ?_
      refine r_iload h d_Spans_sharesDay_16 4 rfl ?_
      refine r_iald h sh_YC_7 d_Spans_sharesDay_18 hf (fun hf => ?_)
      refine r_iload_n h d_Spans_sharesDay_19 1 rfl rfl ?_
      refine r_icmp_ne h d_Spans_sharesDay_20 hf (fun hf => ?_) (fun hf => ?_)
      · refine r_iinc (ls' := [(4, .int (x4 + (1 : Int32))), (0, .ref (ya Z 6)), (1, .int x1), (2, .int x2), (3, .int x3)]) h d_Spans_sharesDay_47 4 rfl ki_1 (by decide) rfl ?_
        refine r_goto h d_Spans_sharesDay_50 ?_
        refine r_sub h [1, 2, 3, 4, 0] rfl ?_
        exact ih _ hf
      · refine r_aload_n h d_Spans_sharesDay_23 0 rfl rfl ?_
        refine r_getR h fd_YC_6_2 cf_Spans fl_Spans_24 d_Spans_sharesDay_24 ?_
        refine r_iload h d_Spans_sharesDay_27 4 rfl ?_
        refine r_iald h sh_YC_9 d_Spans_sharesDay_29 hf (fun hf => ?_)
        refine r_iload_n h d_Spans_sharesDay_30 3 rfl rfl ?_
        refine r_icmp_gt h d_Spans_sharesDay_31 hf (fun hf => ?_) (fun hf => ?_)
        · refine r_iinc (ls' := [(4, .int (x4 + (1 : Int32))), (0, .ref (ya Z 6)), (1, .int x1), (2, .int x2), (3, .int x3)]) h d_Spans_sharesDay_47 4 rfl ki_1 (by decide) rfl ?_
          refine r_goto h d_Spans_sharesDay_50 ?_
          refine r_sub h [1, 2, 3, 4, 0] rfl ?_
          exact ih _ hf
        · refine r_iload_n h d_Spans_sharesDay_34 2 rfl rfl ?_
          refine r_aload_n h d_Spans_sharesDay_35 0 rfl rfl ?_
          refine r_getR h fd_YC_6_3 cf_Spans fl_Spans_27 d_Spans_sharesDay_36 ?_
          refine r_iload h d_Spans_sharesDay_39 4 rfl ?_
          refine r_iald h sh_YC_10 d_Spans_sharesDay_41 hf (fun hf => ?_)
          refine r_icmp_gt h d_Spans_sharesDay_42 hf (fun hf => ?_) (fun hf => ?_)
          · refine r_iinc (ls' := [(4, .int (x4 + (1 : Int32))), (0, .ref (ya Z 6)), (1, .int x1), (2, .int x2), (3, .int x3)]) h d_Spans_sharesDay_47 4 rfl ki_1 (by decide) rfl ?_
            refine r_goto h d_Spans_sharesDay_50 ?_
            refine r_sub h [1, 2, 3, 4, 0] rfl ?_
            exact ih _ hf
          · refine r_iconst h d_Spans_sharesDay_45 ki_1 ?_
            exact r_zreturn h d_Spans_sharesDay_46.1 ((show (1 : Int32) = bi true from rfl).trans (congrArg bi (Option.some.inj hf))) rfl

set_option maxHeartbeats 4000000 in
theorem m_Spans_sharesDay_stays {Z : Sy} {σ : St} {res : Bool} {x1 : Int32} {x2 : Int32} {x3 : Int32} (hf : Spans_sharesDay_stays x1 x2 x3 σ = some res) : Ct YC Z y_Spans_sharesDay c_Spans_sharesDay 5 (some .boolean) 1 [.ref (ya Z 6), .int x1, .int x2, .int x3] σ (some (.int (bi res))) σ := by
  refine Ct.of pn_Spans (Nat.le_of_ble_eq_true rfl) rfl (fun Γ h => ?_)
  have h : IsG YC Z R_Spans c_Spans_sharesDay 5 1 (some .boolean) (some (.int (bi res))) σ Γ := h
  unfold Spans_sharesDay_stays at hf
  refine r_iconst h d_Spans_sharesDay_0 ki_0 ?_
  refine r_istore (ls' := [(4, .int (0 : Int32)), (0, .ref (ya Z 6)), (1, .int x1), (2, .int x2), (3, .int x3)]) h d_Spans_sharesDay_1 (by decide) rfl ?_
  refine r_sub h [1, 2, 3, 4, 0] rfl ?_
  exact w_Spans_sharesDay_stays_L3 h _ _ hf

theorem d_Spans_add_0 : decode c_Spans_add 0 = .ok (.aload_n 0, 1) ∧ 0 + 1 = 1 := by decide +kernel
theorem d_Spans_add_1 : decode c_Spans_add 1 = .ok (.getfield 30, 3) ∧ 1 + 3 = 4 := by decide +kernel
theorem d_Spans_add_4 : decode c_Spans_add 4 = .ok (.aload_n 0, 1) ∧ 4 + 1 = 5 := by decide +kernel
theorem d_Spans_add_5 : decode c_Spans_add 5 = .ok (.getfield 15, 3) ∧ 5 + 3 = 8 := by decide +kernel
theorem d_Spans_add_8 : decode c_Spans_add 8 = .ok (.arraylength, 1) ∧ 8 + 1 = 9 := by decide +kernel
theorem d_Spans_add_9 : decode c_Spans_add 9 = .ok (.if_icmp .lt 6, 3) ∧ 9 + 3 = 12 ∧ ((9 : Nat) : Int) + 6 = ((15 : Nat) : Int) := by decide +kernel
theorem d_Spans_add_12 : decode c_Spans_add 12 = .ok (.bipush (-4), 2) ∧ 12 + 2 = 14 := by decide +kernel
theorem d_Spans_add_14 : decode c_Spans_add 14 = .ok (.ireturn, 1) ∧ 14 + 1 = 15 := by decide +kernel
theorem d_Spans_add_15 : decode c_Spans_add 15 = .ok (.aload_n 0, 1) ∧ 15 + 1 = 16 := by decide +kernel
theorem d_Spans_add_16 : decode c_Spans_add 16 = .ok (.getfield 15, 3) ∧ 16 + 3 = 19 := by decide +kernel
theorem d_Spans_add_19 : decode c_Spans_add 19 = .ok (.aload_n 0, 1) ∧ 19 + 1 = 20 := by decide +kernel
theorem d_Spans_add_20 : decode c_Spans_add 20 = .ok (.getfield 30, 3) ∧ 20 + 3 = 23 := by decide +kernel
theorem d_Spans_add_23 : decode c_Spans_add 23 = .ok (.iload_n 1, 1) ∧ 23 + 1 = 24 := by decide +kernel
theorem d_Spans_add_24 : decode c_Spans_add 24 = .ok (.iastore, 1) ∧ 24 + 1 = 25 := by decide +kernel
theorem d_Spans_add_25 : decode c_Spans_add 25 = .ok (.aload_n 0, 1) ∧ 25 + 1 = 26 := by decide +kernel
theorem d_Spans_add_26 : decode c_Spans_add 26 = .ok (.getfield 21, 3) ∧ 26 + 3 = 29 := by decide +kernel
theorem d_Spans_add_29 : decode c_Spans_add 29 = .ok (.aload_n 0, 1) ∧ 29 + 1 = 30 := by decide +kernel
theorem d_Spans_add_30 : decode c_Spans_add 30 = .ok (.getfield 30, 3) ∧ 30 + 3 = 33 := by decide +kernel
theorem d_Spans_add_33 : decode c_Spans_add 33 = .ok (.iload_n 2, 1) ∧ 33 + 1 = 34 := by decide +kernel
theorem d_Spans_add_34 : decode c_Spans_add 34 = .ok (.iastore, 1) ∧ 34 + 1 = 35 := by decide +kernel
theorem d_Spans_add_35 : decode c_Spans_add 35 = .ok (.aload_n 0, 1) ∧ 35 + 1 = 36 := by decide +kernel
theorem d_Spans_add_36 : decode c_Spans_add 36 = .ok (.getfield 24, 3) ∧ 36 + 3 = 39 := by decide +kernel
theorem d_Spans_add_39 : decode c_Spans_add 39 = .ok (.aload_n 0, 1) ∧ 39 + 1 = 40 := by decide +kernel
theorem d_Spans_add_40 : decode c_Spans_add 40 = .ok (.getfield 30, 3) ∧ 40 + 3 = 43 := by decide +kernel
theorem d_Spans_add_43 : decode c_Spans_add 43 = .ok (.iload_n 3, 1) ∧ 43 + 1 = 44 := by decide +kernel
theorem d_Spans_add_44 : decode c_Spans_add 44 = .ok (.iastore, 1) ∧ 44 + 1 = 45 := by decide +kernel
theorem d_Spans_add_45 : decode c_Spans_add 45 = .ok (.aload_n 0, 1) ∧ 45 + 1 = 46 := by decide +kernel
theorem d_Spans_add_46 : decode c_Spans_add 46 = .ok (.getfield 27, 3) ∧ 46 + 3 = 49 := by decide +kernel
theorem d_Spans_add_49 : decode c_Spans_add 49 = .ok (.aload_n 0, 1) ∧ 49 + 1 = 50 := by decide +kernel
theorem d_Spans_add_50 : decode c_Spans_add 50 = .ok (.getfield 30, 3) ∧ 50 + 3 = 53 := by decide +kernel
theorem d_Spans_add_53 : decode c_Spans_add 53 = .ok (.iload 4, 2) ∧ 53 + 2 = 55 := by decide +kernel
theorem d_Spans_add_55 : decode c_Spans_add 55 = .ok (.iastore, 1) ∧ 55 + 1 = 56 := by decide +kernel
theorem d_Spans_add_56 : decode c_Spans_add 56 = .ok (.aload_n 0, 1) ∧ 56 + 1 = 57 := by decide +kernel
theorem d_Spans_add_57 : decode c_Spans_add 57 = .ok (.dup, 1) ∧ 57 + 1 = 58 := by decide +kernel
theorem d_Spans_add_58 : decode c_Spans_add 58 = .ok (.getfield 30, 3) ∧ 58 + 3 = 61 := by decide +kernel
theorem d_Spans_add_61 : decode c_Spans_add 61 = .ok (.iconst 1, 1) ∧ 61 + 1 = 62 := by decide +kernel
theorem d_Spans_add_62 : decode c_Spans_add 62 = .ok (.iadd, 1) ∧ 62 + 1 = 63 := by decide +kernel
theorem d_Spans_add_63 : decode c_Spans_add 63 = .ok (.putfield 30, 3) ∧ 63 + 3 = 66 := by decide +kernel
theorem d_Spans_add_66 : decode c_Spans_add 66 = .ok (.aload_n 0, 1) ∧ 66 + 1 = 67 := by decide +kernel
theorem d_Spans_add_67 : decode c_Spans_add 67 = .ok (.getfield 30, 3) ∧ 67 + 3 = 70 := by decide +kernel
theorem d_Spans_add_70 : decode c_Spans_add 70 = .ok (.ireturn, 1) ∧ 70 + 1 = 71 := by decide +kernel
set_option maxHeartbeats 4000000 in
theorem m_Spans_add_stays {Z : Sy} {σ : St} {res : (Int32 × St)} {x1 : Int32} {x2 : Int32} {x3 : Int32} {x4 : Int32} (hf : Spans_add_stays x1 x2 x3 x4 σ = some res) : Ct YC Z y_Spans_add c_Spans_add 5 (some .int) 1 [.ref (ya Z 6), .int x1, .int x2, .int x3, .int x4] σ (some (.int res.1)) res.2 := by
  refine Ct.of pn_Spans (Nat.le_of_ble_eq_true rfl) rfl (fun Γ h => ?_)
  have h : IsG YC Z R_Spans c_Spans_add 5 1 (some .int) (some (.int res.1)) res.2 Γ := h
  unfold Spans_add_stays at hf
  refine r_aload_n h d_Spans_add_0 0 rfl rfl ?_
  refine r_getI h fd_YC_6_4 cf_Spans fl_Spans_30 d_Spans_add_1 ?_
  refine r_aload_n h d_Spans_add_4 0 rfl rfl ?_
  refine r_getR h fd_YC_6_0 cf_Spans fl_Spans_15 d_Spans_add_5 ?_
  refine r_alen h sh_YC_7 kn_40 d_Spans_add_8 ?_
  refine r_icmp_lt h d_Spans_add_9 hf (fun hf => ?_) (fun hf => ?_)
  · refine r_aload_n h d_Spans_add_15 0 rfl rfl ?_
    refine r_getR h fd_YC_6_0 cf_Spans fl_Spans_15 d_Spans_add_16 ?_
    refine r_aload_n h d_Spans_add_19 0 rfl rfl ?_
    refine r_getI h fd_YC_6_4 cf_Spans fl_Spans_30 d_Spans_add_20 ?_
    refine r_iload_n h d_Spans_add_23 1 rfl rfl ?_
    refine r_iast h sh_YC_7 d_Spans_add_24 hf (fun hf => ?_)
    refine r_aload_n h d_Spans_add_25 0 rfl rfl ?_
    refine r_getR h fd_YC_6_1 cf_Spans fl_Spans_21 d_Spans_add_26 ?_
    refine r_aload_n h d_Spans_add_29 0 rfl rfl ?_
    refine r_getIv (v := (σ.1 6 4)) h fd_YC_6_4 cf_Spans fl_Spans_30 d_Spans_add_30 rfl ?_
    refine r_iload_n h d_Spans_add_33 2 rfl rfl ?_
    refine r_iast h sh_YC_8 d_Spans_add_34 hf (fun hf => ?_)
    refine r_aload_n h d_Spans_add_35 0 rfl rfl ?_
    refine r_getR h fd_YC_6_2 cf_Spans fl_Spans_24 d_Spans_add_36 ?_
    refine r_aload_n h d_Spans_add_39 0 rfl rfl ?_
    refine r_getIv (v := (σ.1 6 4)) h fd_YC_6_4 cf_Spans fl_Spans_30 d_Spans_add_40 rfl ?_
    refine r_iload_n h d_Spans_add_43 3 rfl rfl ?_
    refine r_iast h sh_YC_9 d_Spans_add_44 hf (fun hf => ?_)
    refine r_aload_n h d_Spans_add_45 0 rfl rfl ?_
    refine r_getR h fd_YC_6_3 cf_Spans fl_Spans_27 d_Spans_add_46 ?_
    refine r_aload_n h d_Spans_add_49 0 rfl rfl ?_
    refine r_getIv (v := (σ.1 6 4)) h fd_YC_6_4 cf_Spans fl_Spans_30 d_Spans_add_50 rfl ?_
    refine r_iload h d_Spans_add_53 4 rfl ?_
    refine r_iast h sh_YC_10 d_Spans_add_55 hf (fun hf => ?_)
    refine r_aload_n h d_Spans_add_56 0 rfl rfl ?_
    refine r_dup h d_Spans_add_57 rfl ?_
    refine r_getIv (v := (σ.1 6 4)) h fd_YC_6_4 cf_Spans fl_Spans_30 d_Spans_add_58 rfl ?_
    refine r_iconst h d_Spans_add_61 ki_1 ?_
    refine r_iadd h d_Spans_add_62 ?_
    refine r_putI h fd_YC_6_4 cf_Spans fl_Spans_30 ⟨rfl, rfl⟩ d_Spans_add_63 ?_
    refine r_aload_n h d_Spans_add_66 0 rfl rfl ?_
    refine r_getIv (v := ((σ.1 6 4) + (1 : Int32))) h fd_YC_6_4 cf_Spans fl_Spans_30 d_Spans_add_67 rfl ?_
    exact r_ireturn h d_Spans_add_70.1 (q_p1 hf) (q_p2 hf)
  · refine r_bipush h d_Spans_add_12 kb_m4 ?_
    exact r_ireturn h d_Spans_add_14.1 (q_p1 hf) (q_p2 hf)

theorem d_P_walk_0 : decode c_P_walk 0 = .ok (.aload_n 0, 1) ∧ 0 + 1 = 1 := by decide +kernel
theorem d_P_walk_1 : decode c_P_walk 1 = .ok (.getfield 12, 3) ∧ 1 + 3 = 4 := by decide +kernel
theorem d_P_walk_4 : decode c_P_walk 4 = .ok (.iload_n 1, 1) ∧ 4 + 1 = 5 := by decide +kernel
theorem d_P_walk_5 : decode c_P_walk 5 = .ok (.invokevirtual 112, 3) ∧ 5 + 3 = 8 := by decide +kernel
theorem d_P_walk_8 : decode c_P_walk 8 = .ok (.ifCond .eq 14, 3) ∧ 8 + 3 = 11 ∧ ((8 : Nat) : Int) + 14 = ((22 : Nat) : Int) := by decide +kernel
theorem d_P_walk_11 : decode c_P_walk 11 = .ok (.aload_n 0, 1) ∧ 11 + 1 = 12 := by decide +kernel
theorem d_P_walk_12 : decode c_P_walk 12 = .ok (.getfield 12, 3) ∧ 12 + 3 = 15 := by decide +kernel
theorem d_P_walk_15 : decode c_P_walk 15 = .ok (.iload_n 2, 1) ∧ 15 + 1 = 16 := by decide +kernel
theorem d_P_walk_16 : decode c_P_walk 16 = .ok (.invokevirtual 116, 3) ∧ 16 + 3 = 19 := by decide +kernel
theorem d_P_walk_19 : decode c_P_walk 19 = .ok (.ifCond .ne 5, 3) ∧ 19 + 3 = 22 ∧ ((19 : Nat) : Int) + 5 = ((24 : Nat) : Int) := by decide +kernel
theorem d_P_walk_22 : decode c_P_walk 22 = .ok (.iconst (-1), 1) ∧ 22 + 1 = 23 := by decide +kernel
theorem d_P_walk_23 : decode c_P_walk 23 = .ok (.ireturn, 1) ∧ 23 + 1 = 24 := by decide +kernel
theorem d_P_walk_24 : decode c_P_walk 24 = .ok (.iload_n 3, 1) ∧ 24 + 1 = 25 := by decide +kernel
theorem d_P_walk_25 : decode c_P_walk 25 = .ok (.iload 4, 2) ∧ 25 + 2 = 27 := by decide +kernel
theorem d_P_walk_27 : decode c_P_walk 27 = .ok (.invokestatic 119, 3) ∧ 27 + 3 = 30 := by decide +kernel
theorem d_P_walk_30 : decode c_P_walk 30 = .ok (.ifCond .ne 6, 3) ∧ 30 + 3 = 33 ∧ ((30 : Nat) : Int) + 6 = ((36 : Nat) : Int) := by decide +kernel
theorem d_P_walk_33 : decode c_P_walk 33 = .ok (.bipush (-2), 2) ∧ 33 + 2 = 35 := by decide +kernel
theorem d_P_walk_35 : decode c_P_walk 35 = .ok (.ireturn, 1) ∧ 35 + 1 = 36 := by decide +kernel
theorem d_P_walk_36 : decode c_P_walk 36 = .ok (.aload_n 0, 1) ∧ 36 + 1 = 37 := by decide +kernel
theorem d_P_walk_37 : decode c_P_walk 37 = .ok (.getfield 23, 3) ∧ 37 + 3 = 40 := by decide +kernel
theorem d_P_walk_40 : decode c_P_walk 40 = .ok (.iload_n 1, 1) ∧ 40 + 1 = 41 := by decide +kernel
theorem d_P_walk_41 : decode c_P_walk 41 = .ok (.iload_n 3, 1) ∧ 41 + 1 = 42 := by decide +kernel
theorem d_P_walk_42 : decode c_P_walk 42 = .ok (.iload 4, 2) ∧ 42 + 2 = 44 := by decide +kernel
theorem d_P_walk_44 : decode c_P_walk 44 = .ok (.invokevirtual 122, 3) ∧ 44 + 3 = 47 := by decide +kernel
theorem d_P_walk_47 : decode c_P_walk 47 = .ok (.ifCond .eq 6, 3) ∧ 47 + 3 = 50 ∧ ((47 : Nat) : Int) + 6 = ((53 : Nat) : Int) := by decide +kernel
theorem d_P_walk_50 : decode c_P_walk 50 = .ok (.bipush (-3), 2) ∧ 50 + 2 = 52 := by decide +kernel
theorem d_P_walk_52 : decode c_P_walk 52 = .ok (.ireturn, 1) ∧ 52 + 1 = 53 := by decide +kernel
theorem d_P_walk_53 : decode c_P_walk 53 = .ok (.aload_n 0, 1) ∧ 53 + 1 = 54 := by decide +kernel
theorem d_P_walk_54 : decode c_P_walk 54 = .ok (.getfield 50, 3) ∧ 54 + 3 = 57 := by decide +kernel
theorem d_P_walk_57 : decode c_P_walk 57 = .ok (.iconst 0, 1) ∧ 57 + 1 = 58 := by decide +kernel
theorem d_P_walk_58 : decode c_P_walk 58 = .ok (.putfield 126, 3) ∧ 58 + 3 = 61 := by decide +kernel
theorem d_P_walk_61 : decode c_P_walk 61 = .ok (.aload_n 0, 1) ∧ 61 + 1 = 62 := by decide +kernel
theorem d_P_walk_62 : decode c_P_walk 62 = .ok (.getfield 23, 3) ∧ 62 + 3 = 65 := by decide +kernel
theorem d_P_walk_65 : decode c_P_walk 65 = .ok (.iload_n 1, 1) ∧ 65 + 1 = 66 := by decide +kernel
theorem d_P_walk_66 : decode c_P_walk 66 = .ok (.iload_n 2, 1) ∧ 66 + 1 = 67 := by decide +kernel
theorem d_P_walk_67 : decode c_P_walk 67 = .ok (.iload_n 3, 1) ∧ 67 + 1 = 68 := by decide +kernel
theorem d_P_walk_68 : decode c_P_walk 68 = .ok (.iload 4, 2) ∧ 68 + 2 = 70 := by decide +kernel
theorem d_P_walk_70 : decode c_P_walk 70 = .ok (.invokevirtual 130, 3) ∧ 70 + 3 = 73 := by decide +kernel
theorem d_P_walk_73 : decode c_P_walk 73 = .ok (.ireturn, 1) ∧ 73 + 1 = 74 := by decide +kernel
set_option maxHeartbeats 4000000 in
theorem m_P_walk {Z : Sy} {σ : St} {res : (Int32 × St)} {x1 : Int32} {x2 : Int32} {x3 : Int32} {x4 : Int32} (hf : P_walk x1 x2 x3 x4 σ = some res) : Ct YC Z y_P_walk c_P_walk 5 (some .int) 3 [.ref (ya Z 0), .int x1, .int x2, .int x3, .int x4] σ (some (.int res.1)) res.2 := by
  refine Ct.of pn_P (Nat.le_of_ble_eq_true rfl) rfl (fun Γ h => ?_)
  have h : IsG YC Z R_P c_P_walk 5 3 (some .int) (some (.int res.1)) res.2 Γ := h
  unfold P_walk at hf
  refine r_aload_n h d_P_walk_0 0 rfl rfl ?_
  refine r_getR h fd_YC_0_0 cf_P fl_P_12 d_P_walk_1 ?_
  refine r_iload_n h d_P_walk_4 1 rfl rfl ?_
  obtain ⟨r5, e5, hf⟩ := q_bind hf
  refine r_callV (As := [.int x1]) (rest := []) h sh_YC_1 lk_P_112 vk_P_112 d_P_walk_5 (by decide) rfl rfl (Nat.le_of_ble_eq_true rfl) (m_Roll_hasBand e5) ?_
  refine r_bif_eq h d_P_walk_8 hf (fun hf => ?_) (fun hf => ?_)
  · refine r_iconst h d_P_walk_22 ki_m1 ?_
    exact r_ireturn h d_P_walk_23.1 (q_p1 hf) (q_p2 hf)
  · refine r_aload_n h d_P_walk_11 0 rfl rfl ?_
    refine r_getR h fd_YC_0_0 cf_P fl_P_12 d_P_walk_12 ?_
    refine r_iload_n h d_P_walk_15 2 rfl rfl ?_
    obtain ⟨r16, e16, hf⟩ := q_bind hf
    refine r_callV (As := [.int x2]) (rest := []) h sh_YC_1 lk_P_116 vk_P_116 d_P_walk_16 (by decide) rfl rfl (Nat.le_of_ble_eq_true rfl) (m_Roll_hasPlace e16) ?_
    refine r_bif_ne h d_P_walk_19 hf (fun hf => ?_) (fun hf => ?_)
    · refine r_iload_n h d_P_walk_24 3 rfl rfl ?_
      refine r_iload h d_P_walk_25 4 rfl ?_
      obtain ⟨r27, e27, hf⟩ := q_bind hf
      refine r_callS (As := [.int x3, .int x4]) (rest := []) h lk_P_119 sk_P_119 d_P_walk_27 (by decide) rfl rfl (Nat.le_of_ble_eq_true rfl) (m_P_areDays e27) ?_
      refine r_bif_ne h d_P_walk_30 hf (fun hf => ?_) (fun hf => ?_)
      · refine r_aload_n h d_P_walk_36 0 rfl rfl ?_
        refine r_getR h fd_YC_0_1 cf_P fl_P_23 d_P_walk_37 ?_
        refine r_iload_n h d_P_walk_40 1 rfl rfl ?_
        refine r_iload_n h d_P_walk_41 3 rfl rfl ?_
        refine r_iload h d_P_walk_42 4 rfl ?_
        obtain ⟨r44, e44, hf⟩ := q_bind hf
        refine r_callV (As := [.int x1, .int x3, .int x4]) (rest := []) h sh_YC_6 lk_P_122 vk_P_122 d_P_walk_44 (by decide) rfl rfl (Nat.le_of_ble_eq_true rfl) (m_Spans_sharesDay_stays e44) ?_
        refine r_bif_eq h d_P_walk_47 hf (fun hf => ?_) (fun hf => ?_)
        · refine r_aload_n h d_P_walk_53 0 rfl rfl ?_
          refine r_getR h fd_YC_0_6 cf_P fl_P_50 d_P_walk_54 ?_
          refine r_iconst h d_P_walk_57 ki_0 ?_
          refine r_putX h fd_YC_35_4 cf_News fl_P_126 ⟨rfl, rfl⟩ (ty := .boolean) (by decide) (by decide) d_P_walk_58 ?_
          refine r_aload_n h d_P_walk_61 0 rfl rfl ?_
          refine r_getR h fd_YC_0_1 cf_P fl_P_23 d_P_walk_62 ?_
          refine r_iload_n h d_P_walk_65 1 rfl rfl ?_
          refine r_iload_n h d_P_walk_66 2 rfl rfl ?_
          refine r_iload_n h d_P_walk_67 3 rfl rfl ?_
          refine r_iload h d_P_walk_68 4 rfl ?_
          obtain ⟨q70, e70, hf⟩ := q_bind hf
          refine r_callV (As := [.int x1, .int x2, .int x3, .int x4]) (rest := []) h sh_YC_6 lk_P_130 vk_P_130 d_P_walk_70 (by decide) rfl rfl (Nat.le_of_ble_eq_true rfl) (m_Spans_add_stays e70) ?_
          exact r_ireturn h d_P_walk_73.1 (q_p1 hf) (q_p2 hf)
        · refine r_bipush h d_P_walk_50 kb_m3 ?_
          exact r_ireturn h d_P_walk_52.1 (q_p1 hf) (q_p2 hf)
      · refine r_bipush h d_P_walk_33 kb_m2 ?_
        exact r_ireturn h d_P_walk_35.1 (q_p1 hf) (q_p2 hf)
    · refine r_iconst h d_P_walk_22 ki_m1 ?_
      exact r_ireturn h d_P_walk_23.1 (q_p1 hf) (q_p2 hf)

theorem d_Spans_covers_0 : decode c_Spans_covers 0 = .ok (.aload_n 0, 1) ∧ 0 + 1 = 1 := by decide +kernel
theorem d_Spans_covers_1 : decode c_Spans_covers 1 = .ok (.getfield 24, 3) ∧ 1 + 3 = 4 := by decide +kernel
theorem d_Spans_covers_4 : decode c_Spans_covers 4 = .ok (.iload_n 1, 1) ∧ 4 + 1 = 5 := by decide +kernel
theorem d_Spans_covers_5 : decode c_Spans_covers 5 = .ok (.iaload, 1) ∧ 5 + 1 = 6 := by decide +kernel
theorem d_Spans_covers_6 : decode c_Spans_covers 6 = .ok (.iload_n 2, 1) ∧ 6 + 1 = 7 := by decide +kernel
theorem d_Spans_covers_7 : decode c_Spans_covers 7 = .ok (.if_icmp .gt 17, 3) ∧ 7 + 3 = 10 ∧ ((7 : Nat) : Int) + 17 = ((24 : Nat) : Int) := by decide +kernel
theorem d_Spans_covers_10 : decode c_Spans_covers 10 = .ok (.iload_n 2, 1) ∧ 10 + 1 = 11 := by decide +kernel
theorem d_Spans_covers_11 : decode c_Spans_covers 11 = .ok (.aload_n 0, 1) ∧ 11 + 1 = 12 := by decide +kernel
theorem d_Spans_covers_12 : decode c_Spans_covers 12 = .ok (.getfield 27, 3) ∧ 12 + 3 = 15 := by decide +kernel
theorem d_Spans_covers_15 : decode c_Spans_covers 15 = .ok (.iload_n 1, 1) ∧ 15 + 1 = 16 := by decide +kernel
theorem d_Spans_covers_16 : decode c_Spans_covers 16 = .ok (.iaload, 1) ∧ 16 + 1 = 17 := by decide +kernel
theorem d_Spans_covers_17 : decode c_Spans_covers 17 = .ok (.if_icmp .gt 7, 3) ∧ 17 + 3 = 20 ∧ ((17 : Nat) : Int) + 7 = ((24 : Nat) : Int) := by decide +kernel
theorem d_Spans_covers_20 : decode c_Spans_covers 20 = .ok (.iconst 1, 1) ∧ 20 + 1 = 21 := by decide +kernel
theorem d_Spans_covers_21 : decode c_Spans_covers 21 = .ok (.goto 4, 3) ∧ (21 : Int) + 4 = (25 : Int) := by decide +kernel
theorem d_Spans_covers_24 : decode c_Spans_covers 24 = .ok (.iconst 0, 1) ∧ 24 + 1 = 25 := by decide +kernel
theorem d_Spans_covers_25 : decode c_Spans_covers 25 = .ok (.ireturn, 1) ∧ 25 + 1 = 26 := by decide +kernel
set_option maxHeartbeats 4000000 in
theorem m_Spans_covers_stays {Z : Sy} {σ : St} {res : Bool} {x1 : Int32} {x2 : Int32} (hf : Spans_covers_stays x1 x2 σ = some res) : Ct YC Z y_Spans_covers c_Spans_covers 3 (some .boolean) 1 [.ref (ya Z 6), .int x1, .int x2] σ (some (.int (bi res))) σ := by
  refine Ct.of pn_Spans (Nat.le_of_ble_eq_true rfl) rfl (fun Γ h => ?_)
  have h : IsG YC Z R_Spans c_Spans_covers 3 1 (some .boolean) (some (.int (bi res))) σ Γ := h
  unfold Spans_covers_stays at hf
  refine r_aload_n h d_Spans_covers_0 0 rfl rfl ?_
  refine r_getR h fd_YC_6_2 cf_Spans fl_Spans_24 d_Spans_covers_1 ?_
  refine r_iload_n h d_Spans_covers_4 1 rfl rfl ?_
  refine r_iald h sh_YC_9 d_Spans_covers_5 hf (fun hf => ?_)
  refine r_iload_n h d_Spans_covers_6 2 rfl rfl ?_
  refine r_icmp_gt h d_Spans_covers_7 hf (fun hf => ?_) (fun hf => ?_)
  · refine r_iconst h d_Spans_covers_24 ki_0 ?_
    exact r_zreturn h d_Spans_covers_25.1 ((show (0 : Int32) = bi false from rfl).trans (congrArg bi (Option.some.inj hf))) rfl
  · refine r_iload_n h d_Spans_covers_10 2 rfl rfl ?_
    refine r_aload_n h d_Spans_covers_11 0 rfl rfl ?_
    refine r_getR h fd_YC_6_3 cf_Spans fl_Spans_27 d_Spans_covers_12 ?_
    refine r_iload_n h d_Spans_covers_15 1 rfl rfl ?_
    refine r_iald h sh_YC_10 d_Spans_covers_16 hf (fun hf => ?_)
    refine r_icmp_gt h d_Spans_covers_17 hf (fun hf => ?_) (fun hf => ?_)
    · refine r_iconst h d_Spans_covers_24 ki_0 ?_
      exact r_zreturn h d_Spans_covers_25.1 ((show (0 : Int32) = bi false from rfl).trans (congrArg bi (Option.some.inj hf))) rfl
    · refine r_iconst h d_Spans_covers_20 ki_1 ?_
      refine r_goto h d_Spans_covers_21 ?_
      exact r_zreturn h d_Spans_covers_25.1 ((show (1 : Int32) = bi true from rfl).trans (congrArg bi (Option.some.inj hf))) rfl

theorem d_Spans_whatOn_0 : decode c_Spans_whatOn 0 = .ok (.iconst 0, 1) ∧ 0 + 1 = 1 := by decide +kernel
theorem d_Spans_whatOn_1 : decode c_Spans_whatOn 1 = .ok (.istore_n 3, 1) ∧ 1 + 1 = 2 := by decide +kernel
theorem d_Spans_whatOn_2 : decode c_Spans_whatOn 2 = .ok (.iload_n 3, 1) ∧ 2 + 1 = 3 := by decide +kernel
theorem d_Spans_whatOn_3 : decode c_Spans_whatOn 3 = .ok (.aload_n 0, 1) ∧ 3 + 1 = 4 := by decide +kernel
theorem d_Spans_whatOn_4 : decode c_Spans_whatOn 4 = .ok (.getfield 30, 3) ∧ 4 + 3 = 7 := by decide +kernel
theorem d_Spans_whatOn_7 : decode c_Spans_whatOn 7 = .ok (.if_icmp .ge 35, 3) ∧ 7 + 3 = 10 ∧ ((7 : Nat) : Int) + 35 = ((42 : Nat) : Int) := by decide +kernel
theorem d_Spans_whatOn_10 : decode c_Spans_whatOn 10 = .ok (.aload_n 0, 1) ∧ 10 + 1 = 11 := by decide +kernel
theorem d_Spans_whatOn_11 : decode c_Spans_whatOn 11 = .ok (.getfield 15, 3) ∧ 11 + 3 = 14 := by decide +kernel
theorem d_Spans_whatOn_14 : decode c_Spans_whatOn 14 = .ok (.iload_n 3, 1) ∧ 14 + 1 = 15 := by decide +kernel
theorem d_Spans_whatOn_15 : decode c_Spans_whatOn 15 = .ok (.iaload, 1) ∧ 15 + 1 = 16 := by decide +kernel
theorem d_Spans_whatOn_16 : decode c_Spans_whatOn 16 = .ok (.iload_n 1, 1) ∧ 16 + 1 = 17 := by decide +kernel
theorem d_Spans_whatOn_17 : decode c_Spans_whatOn 17 = .ok (.if_icmp .ne 19, 3) ∧ 17 + 3 = 20 ∧ ((17 : Nat) : Int) + 19 = ((36 : Nat) : Int) := by decide +kernel
theorem d_Spans_whatOn_20 : decode c_Spans_whatOn 20 = .ok (.aload_n 0, 1) ∧ 20 + 1 = 21 := by decide +kernel
theorem d_Spans_whatOn_21 : decode c_Spans_whatOn 21 = .ok (.iload_n 3, 1) ∧ 21 + 1 = 22 := by decide +kernel
theorem d_Spans_whatOn_22 : decode c_Spans_whatOn 22 = .ok (.iload_n 2, 1) ∧ 22 + 1 = 23 := by decide +kernel
theorem d_Spans_whatOn_23 : decode c_Spans_whatOn 23 = .ok (.invokevirtual 34, 3) ∧ 23 + 3 = 26 := by decide +kernel
theorem d_Spans_whatOn_26 : decode c_Spans_whatOn 26 = .ok (.ifCond .eq 10, 3) ∧ 26 + 3 = 29 ∧ ((26 : Nat) : Int) + 10 = ((36 : Nat) : Int) := by decide +kernel
theorem d_Spans_whatOn_29 : decode c_Spans_whatOn 29 = .ok (.aload_n 0, 1) ∧ 29 + 1 = 30 := by decide +kernel
theorem d_Spans_whatOn_30 : decode c_Spans_whatOn 30 = .ok (.getfield 21, 3) ∧ 30 + 3 = 33 := by decide +kernel
theorem d_Spans_whatOn_33 : decode c_Spans_whatOn 33 = .ok (.iload_n 3, 1) ∧ 33 + 1 = 34 := by decide +kernel
theorem d_Spans_whatOn_34 : decode c_Spans_whatOn 34 = .ok (.iaload, 1) ∧ 34 + 1 = 35 := by decide +kernel
theorem d_Spans_whatOn_35 : decode c_Spans_whatOn 35 = .ok (.ireturn, 1) ∧ 35 + 1 = 36 := by decide +kernel
theorem d_Spans_whatOn_36 : decode c_Spans_whatOn 36 = .ok (.iinc 3 1, 3) ∧ 36 + 3 = 39 := by decide +kernel
theorem d_Spans_whatOn_39 : decode c_Spans_whatOn 39 = .ok (.goto (-37), 3) ∧ (39 : Int) + (-37) = (2 : Int) := by decide +kernel
theorem d_Spans_whatOn_42 : decode c_Spans_whatOn 42 = .ok (.bipush (-9), 2) ∧ 42 + 2 = 44 := by decide +kernel
theorem d_Spans_whatOn_44 : decode c_Spans_whatOn 44 = .ok (.ireturn, 1) ∧ 44 + 1 = 45 := by decide +kernel
set_option maxHeartbeats 4000000 in
theorem w_Spans_whatOn_stays_L2 {Z : Sy} {Γ : Nat → List (Nat × Value) → List Value → St → Prop} {res : Int32} {x1 : Int32} {x2 : Int32} {σ : St} (h : IsG YC Z R_Spans c_Spans_whatOn 4 2 (some .int) (some (.int res)) σ Γ) : ∀ (n : Nat) (x3 : Int32), Spans_whatOn_stays_L2 x1 x2 σ n x3 = some res → Γ 2 [(0, .ref (ya Z 6)), (1, .int x1), (2, .int x2), (3, .int x3)] [] σ := by
  intro n
  induction n with
  | zero => intro x3 hf; exact absurd hf (by simp [Spans_whatOn_stays_L2])
  | succ n ih =>
    intro x3 hf
    rw [Spans_whatOn_stays_L2] at hf
    refine r_iload_n h d_Spans_whatOn_2 3 rfl rfl ?_
    refine r_aload_n h d_Spans_whatOn_3 0 rfl rfl ?_
    refine r_getI h fd_YC_6_4 cf_Spans fl_Spans_30 d_Spans_whatOn_4 ?_
    refine r_icmp_ge h d_Spans_whatOn_7 hf (fun hf => ?_) (fun hf => ?_)
    · refine r_bipush h d_Spans_whatOn_42 kb_m9 ?_
      exact r_ireturn h d_Spans_whatOn_44.1 (Option.some.inj hf) rfl
    · refine r_aload_n h d_Spans_whatOn_10 0 rfl rfl ?_
      refine r_getR h fd_YC_6_0 cf_Spans fl_Spans_15 d_Spans_whatOn_11 ?_
      refine r_iload_n h d_Spans_whatOn_14 3 rfl rfl ?_
      refine r_iald h sh_YC_7 d_Spans_whatOn_15 hf (fun hf => ?_)
      refine r_iload_n h d_Spans_whatOn_16 1 rfl rfl ?_
      refine r_icmp_ne h d_Spans_whatOn_17 hf (fun hf => ?_) (fun hf => ?_)
      · refine r_iinc (ls' := [(3, .int (x3 + (1 : Int32))), (0, .ref (ya Z 6)), (1, .int x1), (2, .int x2)]) h d_Spans_whatOn_36 3 rfl ki_1 (by decide) rfl ?_
        refine r_goto h d_Spans_whatOn_39 ?_
        refine r_sub h [1, 2, 3, 0] rfl ?_
        exact ih _ hf
      · refine r_aload_n h d_Spans_whatOn_20 0 rfl rfl ?_
        refine r_iload_n h d_Spans_whatOn_21 3 rfl rfl ?_
        refine r_iload_n h d_Spans_whatOn_22 2 rfl rfl ?_
        obtain ⟨r23, e23, hf⟩ := q_bind hf
        refine r_callV (As := [.int x3, .int x2]) (rest := []) h sh_YC_6 lk_Spans_34 vk_Spans_34 d_Spans_whatOn_23 (by decide) rfl rfl (Nat.le_of_ble_eq_true rfl) (m_Spans_covers_stays e23) ?_
        refine r_bif_eq h d_Spans_whatOn_26 hf (fun hf => ?_) (fun hf => ?_)
        · refine r_iinc (ls' := [(3, .int (x3 + (1 : Int32))), (0, .ref (ya Z 6)), (1, .int x1), (2, .int x2)]) h d_Spans_whatOn_36 3 rfl ki_1 (by decide) rfl ?_
          refine r_goto h d_Spans_whatOn_39 ?_
          refine r_sub h [1, 2, 3, 0] rfl ?_
          exact ih _ hf
        · refine r_aload_n h d_Spans_whatOn_29 0 rfl rfl ?_
          refine r_getR h fd_YC_6_1 cf_Spans fl_Spans_21 d_Spans_whatOn_30 ?_
          refine r_iload_n h d_Spans_whatOn_33 3 rfl rfl ?_
          refine r_iald h sh_YC_8 d_Spans_whatOn_34 hf (fun hf => ?_)
          exact r_ireturn h d_Spans_whatOn_35.1 (Option.some.inj hf) rfl

set_option maxHeartbeats 4000000 in
theorem m_Spans_whatOn_stays {Z : Sy} {σ : St} {res : Int32} {x1 : Int32} {x2 : Int32} (hf : Spans_whatOn_stays x1 x2 σ = some res) : Ct YC Z y_Spans_whatOn c_Spans_whatOn 4 (some .int) 2 [.ref (ya Z 6), .int x1, .int x2] σ (some (.int res)) σ := by
  refine Ct.of pn_Spans (Nat.le_of_ble_eq_true rfl) rfl (fun Γ h => ?_)
  have h : IsG YC Z R_Spans c_Spans_whatOn 4 2 (some .int) (some (.int res)) σ Γ := h
  unfold Spans_whatOn_stays at hf
  refine r_iconst h d_Spans_whatOn_0 ki_0 ?_
  refine r_istore_n (ls' := [(3, .int (0 : Int32)), (0, .ref (ya Z 6)), (1, .int x1), (2, .int x2)]) h d_Spans_whatOn_1 rfl (by decide) rfl ?_
  refine r_sub h [1, 2, 3, 0] rfl ?_
  exact w_Spans_whatOn_stays_L2 h _ _ hf

theorem d_P_day_0 : decode c_P_day 0 = .ok (.aload_n 0, 1) ∧ 0 + 1 = 1 := by decide +kernel
theorem d_P_day_1 : decode c_P_day 1 = .ok (.getfield 12, 3) ∧ 1 + 3 = 4 := by decide +kernel
theorem d_P_day_4 : decode c_P_day 4 = .ok (.iload_n 1, 1) ∧ 4 + 1 = 5 := by decide +kernel
theorem d_P_day_5 : decode c_P_day 5 = .ok (.invokevirtual 112, 3) ∧ 5 + 3 = 8 := by decide +kernel
theorem d_P_day_8 : decode c_P_day 8 = .ok (.ifCond .ne 5, 3) ∧ 8 + 3 = 11 ∧ ((8 : Nat) : Int) + 5 = ((13 : Nat) : Int) := by decide +kernel
theorem d_P_day_11 : decode c_P_day 11 = .ok (.iconst (-1), 1) ∧ 11 + 1 = 12 := by decide +kernel
theorem d_P_day_12 : decode c_P_day 12 = .ok (.ireturn, 1) ∧ 12 + 1 = 13 := by decide +kernel
theorem d_P_day_13 : decode c_P_day 13 = .ok (.iload_n 2, 1) ∧ 13 + 1 = 14 := by decide +kernel
theorem d_P_day_14 : decode c_P_day 14 = .ok (.sipush 10000, 3) ∧ 14 + 3 = 17 := by decide +kernel
theorem d_P_day_17 : decode c_P_day 17 = .ok (.invokestatic 96, 3) ∧ 17 + 3 = 20 := by decide +kernel
theorem d_P_day_20 : decode c_P_day 20 = .ok (.ifCond .ne 6, 3) ∧ 20 + 3 = 23 ∧ ((20 : Nat) : Int) + 6 = ((26 : Nat) : Int) := by decide +kernel
theorem d_P_day_23 : decode c_P_day 23 = .ok (.bipush (-2), 2) ∧ 23 + 2 = 25 := by decide +kernel
theorem d_P_day_25 : decode c_P_day 25 = .ok (.ireturn, 1) ∧ 25 + 1 = 26 := by decide +kernel
theorem d_P_day_26 : decode c_P_day 26 = .ok (.aload_n 0, 1) ∧ 26 + 1 = 27 := by decide +kernel
theorem d_P_day_27 : decode c_P_day 27 = .ok (.getfield 23, 3) ∧ 27 + 3 = 30 := by decide +kernel
theorem d_P_day_30 : decode c_P_day 30 = .ok (.iload_n 1, 1) ∧ 30 + 1 = 31 := by decide +kernel
theorem d_P_day_31 : decode c_P_day 31 = .ok (.iload_n 2, 1) ∧ 31 + 1 = 32 := by decide +kernel
theorem d_P_day_32 : decode c_P_day 32 = .ok (.invokevirtual 134, 3) ∧ 32 + 3 = 35 := by decide +kernel
theorem d_P_day_35 : decode c_P_day 35 = .ok (.ireturn, 1) ∧ 35 + 1 = 36 := by decide +kernel
set_option maxHeartbeats 4000000 in
theorem m_P_day {Z : Sy} {σ : St} {res : Int32} {x1 : Int32} {x2 : Int32} (hf : P_day x1 x2 σ = some res) : Ct YC Z y_P_day c_P_day 3 (some .int) 3 [.ref (ya Z 0), .int x1, .int x2] σ (some (.int res)) σ := by
  refine Ct.of pn_P (Nat.le_of_ble_eq_true rfl) rfl (fun Γ h => ?_)
  have h : IsG YC Z R_P c_P_day 3 3 (some .int) (some (.int res)) σ Γ := h
  unfold P_day at hf
  refine r_aload_n h d_P_day_0 0 rfl rfl ?_
  refine r_getR h fd_YC_0_0 cf_P fl_P_12 d_P_day_1 ?_
  refine r_iload_n h d_P_day_4 1 rfl rfl ?_
  obtain ⟨r5, e5, hf⟩ := q_bind hf
  refine r_callV (As := [.int x1]) (rest := []) h sh_YC_1 lk_P_112 vk_P_112 d_P_day_5 (by decide) rfl rfl (Nat.le_of_ble_eq_true rfl) (m_Roll_hasBand e5) ?_
  refine r_bif_ne h d_P_day_8 hf (fun hf => ?_) (fun hf => ?_)
  · refine r_iload_n h d_P_day_13 2 rfl rfl ?_
    refine r_sipush h d_P_day_14 ks_10000 ?_
    obtain ⟨r17, e17, hf⟩ := q_bind hf
    refine r_callS (As := [.int x2, .int (10000 : Int32)]) (rest := []) h lk_P_96 sk_P_96 d_P_day_17 (by decide) rfl rfl (Nat.le_of_ble_eq_true rfl) (m_P_isBelow e17) ?_
    refine r_bif_ne h d_P_day_20 hf (fun hf => ?_) (fun hf => ?_)
    · refine r_aload_n h d_P_day_26 0 rfl rfl ?_
      refine r_getR h fd_YC_0_1 cf_P fl_P_23 d_P_day_27 ?_
      refine r_iload_n h d_P_day_30 1 rfl rfl ?_
      refine r_iload_n h d_P_day_31 2 rfl rfl ?_
      obtain ⟨r32, e32, hf⟩ := q_bind hf
      refine r_callV (As := [.int x1, .int x2]) (rest := []) h sh_YC_6 lk_P_134 vk_P_134 d_P_day_32 (by decide) rfl rfl (Nat.le_of_ble_eq_true rfl) (m_Spans_whatOn_stays e32) ?_
      exact r_ireturn h d_P_day_35.1 (Option.some.inj hf) rfl
    · refine r_bipush h d_P_day_23 kb_m2 ?_
      exact r_ireturn h d_P_day_25.1 (Option.some.inj hf) rfl
  · refine r_iconst h d_P_day_11 ki_m1 ?_
    exact r_ireturn h d_P_day_12.1 (Option.some.inj hf) rfl

theorem d_Spans_firstBeside_0 : decode c_Spans_firstBeside 0 = .ok (.bipush (-9), 2) ∧ 0 + 2 = 2 := by decide +kernel
theorem d_Spans_firstBeside_2 : decode c_Spans_firstBeside 2 = .ok (.istore 4, 2) ∧ 2 + 2 = 4 := by decide +kernel
theorem d_Spans_firstBeside_4 : decode c_Spans_firstBeside 4 = .ok (.iconst 0, 1) ∧ 4 + 1 = 5 := by decide +kernel
theorem d_Spans_firstBeside_5 : decode c_Spans_firstBeside 5 = .ok (.istore 5, 2) ∧ 5 + 2 = 7 := by decide +kernel
theorem d_Spans_firstBeside_7 : decode c_Spans_firstBeside 7 = .ok (.iload 5, 2) ∧ 7 + 2 = 9 := by decide +kernel
theorem d_Spans_firstBeside_9 : decode c_Spans_firstBeside 9 = .ok (.aload_n 0, 1) ∧ 9 + 1 = 10 := by decide +kernel
theorem d_Spans_firstBeside_10 : decode c_Spans_firstBeside 10 = .ok (.getfield 30, 3) ∧ 10 + 3 = 13 := by decide +kernel
theorem d_Spans_firstBeside_13 : decode c_Spans_firstBeside 13 = .ok (.if_icmp .ge 105, 3) ∧ 13 + 3 = 16 ∧ ((13 : Nat) : Int) + 105 = ((118 : Nat) : Int) := by decide +kernel
theorem d_Spans_firstBeside_16 : decode c_Spans_firstBeside 16 = .ok (.aload_n 0, 1) ∧ 16 + 1 = 17 := by decide +kernel
theorem d_Spans_firstBeside_17 : decode c_Spans_firstBeside 17 = .ok (.getfield 15, 3) ∧ 17 + 3 = 20 := by decide +kernel
theorem d_Spans_firstBeside_20 : decode c_Spans_firstBeside 20 = .ok (.iload 5, 2) ∧ 20 + 2 = 22 := by decide +kernel
theorem d_Spans_firstBeside_22 : decode c_Spans_firstBeside 22 = .ok (.iaload, 1) ∧ 22 + 1 = 23 := by decide +kernel
theorem d_Spans_firstBeside_23 : decode c_Spans_firstBeside 23 = .ok (.iload_n 2, 1) ∧ 23 + 1 = 24 := by decide +kernel
theorem d_Spans_firstBeside_24 : decode c_Spans_firstBeside 24 = .ok (.if_icmp .ne 88, 3) ∧ 24 + 3 = 27 ∧ ((24 : Nat) : Int) + 88 = ((112 : Nat) : Int) := by decide +kernel
theorem d_Spans_firstBeside_27 : decode c_Spans_firstBeside 27 = .ok (.aload_n 0, 1) ∧ 27 + 1 = 28 := by decide +kernel
theorem d_Spans_firstBeside_28 : decode c_Spans_firstBeside 28 = .ok (.getfield 21, 3) ∧ 28 + 3 = 31 := by decide +kernel
theorem d_Spans_firstBeside_31 : decode c_Spans_firstBeside 31 = .ok (.iload 5, 2) ∧ 31 + 2 = 33 := by decide +kernel
theorem d_Spans_firstBeside_33 : decode c_Spans_firstBeside 33 = .ok (.iaload, 1) ∧ 33 + 1 = 34 := by decide +kernel
theorem d_Spans_firstBeside_34 : decode c_Spans_firstBeside 34 = .ok (.aload_n 0, 1) ∧ 34 + 1 = 35 := by decide +kernel
theorem d_Spans_firstBeside_35 : decode c_Spans_firstBeside 35 = .ok (.getfield 21, 3) ∧ 35 + 3 = 38 := by decide +kernel
theorem d_Spans_firstBeside_38 : decode c_Spans_firstBeside 38 = .ok (.iload_n 1, 1) ∧ 38 + 1 = 39 := by decide +kernel
theorem d_Spans_firstBeside_39 : decode c_Spans_firstBeside 39 = .ok (.iaload, 1) ∧ 39 + 1 = 40 := by decide +kernel
theorem d_Spans_firstBeside_40 : decode c_Spans_firstBeside 40 = .ok (.if_icmp .eq 6, 3) ∧ 40 + 3 = 43 ∧ ((40 : Nat) : Int) + 6 = ((46 : Nat) : Int) := by decide +kernel
theorem d_Spans_firstBeside_43 : decode c_Spans_firstBeside 43 = .ok (.goto 69, 3) ∧ (43 : Int) + 69 = (112 : Int) := by decide +kernel
theorem d_Spans_firstBeside_46 : decode c_Spans_firstBeside 46 = .ok (.iload_n 3, 1) ∧ 46 + 1 = 47 := by decide +kernel
theorem d_Spans_firstBeside_47 : decode c_Spans_firstBeside 47 = .ok (.aload_n 0, 1) ∧ 47 + 1 = 48 := by decide +kernel
theorem d_Spans_firstBeside_48 : decode c_Spans_firstBeside 48 = .ok (.getfield 24, 3) ∧ 48 + 3 = 51 := by decide +kernel
theorem d_Spans_firstBeside_51 : decode c_Spans_firstBeside 51 = .ok (.iload 5, 2) ∧ 51 + 2 = 53 := by decide +kernel
theorem d_Spans_firstBeside_53 : decode c_Spans_firstBeside 53 = .ok (.iaload, 1) ∧ 53 + 1 = 54 := by decide +kernel
theorem d_Spans_firstBeside_54 : decode c_Spans_firstBeside 54 = .ok (.invokestatic 9, 3) ∧ 54 + 3 = 57 := by decide +kernel
theorem d_Spans_firstBeside_57 : decode c_Spans_firstBeside 57 = .ok (.istore 6, 2) ∧ 57 + 2 = 59 := by decide +kernel
theorem d_Spans_firstBeside_59 : decode c_Spans_firstBeside 59 = .ok (.iload 6, 2) ∧ 59 + 2 = 61 := by decide +kernel
theorem d_Spans_firstBeside_61 : decode c_Spans_firstBeside 61 = .ok (.aload_n 0, 1) ∧ 61 + 1 = 62 := by decide +kernel
theorem d_Spans_firstBeside_62 : decode c_Spans_firstBeside 62 = .ok (.getfield 27, 3) ∧ 62 + 3 = 65 := by decide +kernel
theorem d_Spans_firstBeside_65 : decode c_Spans_firstBeside 65 = .ok (.iload_n 1, 1) ∧ 65 + 1 = 66 := by decide +kernel
theorem d_Spans_firstBeside_66 : decode c_Spans_firstBeside 66 = .ok (.iaload, 1) ∧ 66 + 1 = 67 := by decide +kernel
theorem d_Spans_firstBeside_67 : decode c_Spans_firstBeside 67 = .ok (.if_icmp .gt 19, 3) ∧ 67 + 3 = 70 ∧ ((67 : Nat) : Int) + 19 = ((86 : Nat) : Int) := by decide +kernel
theorem d_Spans_firstBeside_70 : decode c_Spans_firstBeside 70 = .ok (.iload 6, 2) ∧ 70 + 2 = 72 := by decide +kernel
theorem d_Spans_firstBeside_72 : decode c_Spans_firstBeside 72 = .ok (.aload_n 0, 1) ∧ 72 + 1 = 73 := by decide +kernel
theorem d_Spans_firstBeside_73 : decode c_Spans_firstBeside 73 = .ok (.getfield 27, 3) ∧ 73 + 3 = 76 := by decide +kernel
theorem d_Spans_firstBeside_76 : decode c_Spans_firstBeside 76 = .ok (.iload 5, 2) ∧ 76 + 2 = 78 := by decide +kernel
theorem d_Spans_firstBeside_78 : decode c_Spans_firstBeside 78 = .ok (.iaload, 1) ∧ 78 + 1 = 79 := by decide +kernel
theorem d_Spans_firstBeside_79 : decode c_Spans_firstBeside 79 = .ok (.if_icmp .gt 7, 3) ∧ 79 + 3 = 82 ∧ ((79 : Nat) : Int) + 7 = ((86 : Nat) : Int) := by decide +kernel
theorem d_Spans_firstBeside_82 : decode c_Spans_firstBeside 82 = .ok (.iconst 1, 1) ∧ 82 + 1 = 83 := by decide +kernel
theorem d_Spans_firstBeside_83 : decode c_Spans_firstBeside 83 = .ok (.goto 4, 3) ∧ (83 : Int) + 4 = (87 : Int) := by decide +kernel
theorem d_Spans_firstBeside_86 : decode c_Spans_firstBeside 86 = .ok (.iconst 0, 1) ∧ 86 + 1 = 87 := by decide +kernel
theorem d_Spans_firstBeside_87 : decode c_Spans_firstBeside 87 = .ok (.istore 7, 2) ∧ 87 + 2 = 89 := by decide +kernel
theorem d_Spans_firstBeside_89 : decode c_Spans_firstBeside 89 = .ok (.iload 7, 2) ∧ 89 + 2 = 91 := by decide +kernel
theorem d_Spans_firstBeside_91 : decode c_Spans_firstBeside 91 = .ok (.ifCond .eq 21, 3) ∧ 91 + 3 = 94 ∧ ((91 : Nat) : Int) + 21 = ((112 : Nat) : Int) := by decide +kernel
theorem d_Spans_firstBeside_94 : decode c_Spans_firstBeside 94 = .ok (.iload 4, 2) ∧ 94 + 2 = 96 := by decide +kernel
theorem d_Spans_firstBeside_96 : decode c_Spans_firstBeside 96 = .ok (.bipush (-9), 2) ∧ 96 + 2 = 98 := by decide +kernel
theorem d_Spans_firstBeside_98 : decode c_Spans_firstBeside 98 = .ok (.if_icmp .eq 10, 3) ∧ 98 + 3 = 101 ∧ ((98 : Nat) : Int) + 10 = ((108 : Nat) : Int) := by decide +kernel
theorem d_Spans_firstBeside_101 : decode c_Spans_firstBeside 101 = .ok (.iload 6, 2) ∧ 101 + 2 = 103 := by decide +kernel
theorem d_Spans_firstBeside_103 : decode c_Spans_firstBeside 103 = .ok (.iload 4, 2) ∧ 103 + 2 = 105 := by decide +kernel
theorem d_Spans_firstBeside_105 : decode c_Spans_firstBeside 105 = .ok (.if_icmp .ge 7, 3) ∧ 105 + 3 = 108 ∧ ((105 : Nat) : Int) + 7 = ((112 : Nat) : Int) := by decide +kernel
theorem d_Spans_firstBeside_108 : decode c_Spans_firstBeside 108 = .ok (.iload 6, 2) ∧ 108 + 2 = 110 := by decide +kernel
theorem d_Spans_firstBeside_110 : decode c_Spans_firstBeside 110 = .ok (.istore 4, 2) ∧ 110 + 2 = 112 := by decide +kernel
theorem d_Spans_firstBeside_112 : decode c_Spans_firstBeside 112 = .ok (.iinc 5 1, 3) ∧ 112 + 3 = 115 := by decide +kernel
theorem d_Spans_firstBeside_115 : decode c_Spans_firstBeside 115 = .ok (.goto (-108), 3) ∧ (115 : Int) + (-108) = (7 : Int) := by decide +kernel
theorem d_Spans_firstBeside_118 : decode c_Spans_firstBeside 118 = .ok (.iload 4, 2) ∧ 118 + 2 = 120 := by decide +kernel
theorem d_Spans_firstBeside_120 : decode c_Spans_firstBeside 120 = .ok (.ireturn, 1) ∧ 120 + 1 = 121 := by decide +kernel
set_option maxHeartbeats 4000000 in
theorem w_Spans_firstBeside_stays_L7 {Z : Sy} {Γ : Nat → List (Nat × Value) → List Value → St → Prop} {res : Int32} {x1 : Int32} {x2 : Int32} {x3 : Int32} {σ : St} (h : IsG YC Z R_Spans c_Spans_firstBeside 8 1 (some .int) (some (.int res)) σ Γ) : ∀ (n : Nat) (x4 : Int32) (x5 : Int32), Spans_firstBeside_stays_L7 x1 x2 x3 σ n x4 x5 = some res → Γ 7 [(0, .ref (ya Z 6)), (1, .int x1), (2, .int x2), (3, .int x3), (4, .int x4), (5, .int x5)] [] σ := by
  intro n
  induction n with
  | zero => intro x4 x5 hf; exact absurd hf (by simp [Spans_firstBeside_stays_L7])
  | succ n ih =>
    intro x4 x5 hf
    rw [Spans_firstBeside_stays_L7] at hf
    refine r_iload h d_Spans_firstBeside_7 5 rfl ?_
    refine r_aload_n h d_Spans_firstBeside_9 0 rfl rfl ?_
    refine r_getI h fd_YC_6_4 cf_Spans fl_Spans_30 d_Spans_firstBeside_10 ?_
    refine r_icmp_ge h d_Spans_firstBeside_13 hf (fun hf => ?_) (fun hf => ?_)
    · refine r_iload h d_Spans_firstBeside_118 4 rfl ?_
      exact r_ireturn h d_Spans_firstBeside_120.1 (Option.some.inj hf) rfl
    · refine r_aload_n h d_Spans_firstBeside_16 0 rfl rfl ?_
      refine r_getR h fd_YC_6_0 cf_Spans fl_Spans_15 d_Spans_firstBeside_17 ?_
      refine r_iload h d_Spans_firstBeside_20 5 rfl ?_
      refine r_iald h sh_YC_7 d_Spans_firstBeside_22 hf (fun hf => ?_)
      refine r_iload_n h d_Spans_firstBeside_23 2 rfl rfl ?_
      refine r_icmp_ne h d_Spans_firstBeside_24 hf (fun hf => ?_) (fun hf => ?_)
      · refine r_iinc (ls' := [(5, .int (x5 + (1 : Int32))), (0, .ref (ya Z 6)), (1, .int x1), (2, .int x2), (3, .int x3), (4, .int x4)]) h d_Spans_firstBeside_112 5 rfl ki_1 (by decide) rfl ?_
        refine r_goto h d_Spans_firstBeside_115 ?_
        refine r_sub h [1, 2, 3, 4, 5, 0] rfl ?_
        exact ih _ _ hf
      · refine r_aload_n h d_Spans_firstBeside_27 0 rfl rfl ?_
        refine r_getR h fd_YC_6_1 cf_Spans fl_Spans_21 d_Spans_firstBeside_28 ?_
        refine r_iload h d_Spans_firstBeside_31 5 rfl ?_
        refine r_iald h sh_YC_8 d_Spans_firstBeside_33 hf (fun hf => ?_)
        refine r_aload_n h d_Spans_firstBeside_34 0 rfl rfl ?_
        refine r_getR h fd_YC_6_1 cf_Spans fl_Spans_21 d_Spans_firstBeside_35 ?_
        refine r_iload_n h d_Spans_firstBeside_38 1 rfl rfl ?_
        refine r_iald h sh_YC_8 d_Spans_firstBeside_39 hf (fun hf => ?_)
        refine r_icmp_eq h d_Spans_firstBeside_40 hf (fun hf => ?_) (fun hf => ?_)
        · refine r_iload_n h d_Spans_firstBeside_46 3 rfl rfl ?_
          refine r_aload_n h d_Spans_firstBeside_47 0 rfl rfl ?_
          refine r_getR h fd_YC_6_2 cf_Spans fl_Spans_24 d_Spans_firstBeside_48 ?_
          refine r_iload h d_Spans_firstBeside_51 5 rfl ?_
          refine r_iald h sh_YC_9 d_Spans_firstBeside_53 hf (fun hf => ?_)
          refine r_mmax h ⟨tm_145, tm_146, tm_82, tm_147⟩ (by decide) (Nat.le_of_ble_eq_true rfl) d_Spans_firstBeside_54 ?_
          refine r_istore (ls' := [(6, .int (maI x3 (σ.1 9 (Int32.toNatClampNeg x5)))), (0, .ref (ya Z 6)), (1, .int x1), (2, .int x2), (3, .int x3), (4, .int x4), (5, .int x5)]) h d_Spans_firstBeside_57 (by decide) rfl ?_
          refine r_iload h d_Spans_firstBeside_59 0 rfl ?_
          refine r_aload_n h d_Spans_firstBeside_61 1 rfl rfl ?_
          refine r_getR h fd_YC_6_3 cf_Spans fl_Spans_27 d_Spans_firstBeside_62 ?_
          refine r_iload_n h d_Spans_firstBeside_65 2 rfl rfl ?_
          refine r_iald h sh_YC_10 d_Spans_firstBeside_66 hf (fun hf => ?_)
          refine r_icmp_gt h d_Spans_firstBeside_67 hf (fun hf => ?_) (fun hf => ?_)
          · refine r_iconst h d_Spans_firstBeside_86 ki_0 ?_
            refine r_istore (ls' := [(7, .int (0 : Int32)), (6, .int (maI x3 (σ.1 9 (Int32.toNatClampNeg x5)))), (0, .ref (ya Z 6)), (1, .int x1), (2, .int x2), (3, .int x3), (4, .int x4), (5, .int x5)]) h d_Spans_firstBeside_87 (by decide) rfl ?_
            refine r_iload h d_Spans_firstBeside_89 0 rfl ?_
            refine r_if_eq_T h d_Spans_firstBeside_91 (by decide) ?_
            refine r_iinc (ls' := [(5, .int (x5 + (1 : Int32))), (7, .int (0 : Int32)), (6, .int (maI x3 (σ.1 9 (Int32.toNatClampNeg x5)))), (0, .ref (ya Z 6)), (1, .int x1), (2, .int x2), (3, .int x3), (4, .int x4)]) h d_Spans_firstBeside_112 7 rfl ki_1 (by decide) rfl ?_
            refine r_goto h d_Spans_firstBeside_115 ?_
            refine r_sub h [3, 4, 5, 6, 7, 0] rfl ?_
            exact ih _ _ hf
          · refine r_iload h d_Spans_firstBeside_70 0 rfl ?_
            refine r_aload_n h d_Spans_firstBeside_72 1 rfl rfl ?_
            refine r_getR h fd_YC_6_3 cf_Spans fl_Spans_27 d_Spans_firstBeside_73 ?_
            refine r_iload h d_Spans_firstBeside_76 6 rfl ?_
            refine r_iald h sh_YC_10 d_Spans_firstBeside_78 hf (fun hf => ?_)
            refine r_icmp_gt h d_Spans_firstBeside_79 hf (fun hf => ?_) (fun hf => ?_)
            · refine r_iconst h d_Spans_firstBeside_86 ki_0 ?_
              refine r_istore (ls' := [(7, .int (0 : Int32)), (6, .int (maI x3 (σ.1 9 (Int32.toNatClampNeg x5)))), (0, .ref (ya Z 6)), (1, .int x1), (2, .int x2), (3, .int x3), (4, .int x4), (5, .int x5)]) h d_Spans_firstBeside_87 (by decide) rfl ?_
              refine r_iload h d_Spans_firstBeside_89 0 rfl ?_
              refine r_if_eq_T h d_Spans_firstBeside_91 (by decide) ?_
              refine r_iinc (ls' := [(5, .int (x5 + (1 : Int32))), (7, .int (0 : Int32)), (6, .int (maI x3 (σ.1 9 (Int32.toNatClampNeg x5)))), (0, .ref (ya Z 6)), (1, .int x1), (2, .int x2), (3, .int x3), (4, .int x4)]) h d_Spans_firstBeside_112 7 rfl ki_1 (by decide) rfl ?_
              refine r_goto h d_Spans_firstBeside_115 ?_
              refine r_sub h [3, 4, 5, 6, 7, 0] rfl ?_
              exact ih _ _ hf
            · refine r_iconst h d_Spans_firstBeside_82 ki_1 ?_
              refine r_goto h d_Spans_firstBeside_83 ?_
              refine r_istore (ls' := [(7, .int (1 : Int32)), (6, .int (maI x3 (σ.1 9 (Int32.toNatClampNeg x5)))), (0, .ref (ya Z 6)), (1, .int x1), (2, .int x2), (3, .int x3), (4, .int x4), (5, .int x5)]) h d_Spans_firstBeside_87 (by decide) rfl ?_
              refine r_iload h d_Spans_firstBeside_89 0 rfl ?_
              refine r_if_eq_F h d_Spans_firstBeside_91 (by decide) ?_
              refine r_iload h d_Spans_firstBeside_94 6 rfl ?_
              refine r_bipush h d_Spans_firstBeside_96 kb_m9 ?_
              refine r_icmp_eq h d_Spans_firstBeside_98 hf (fun hf => ?_) (fun hf => ?_)
              · refine r_iload h d_Spans_firstBeside_108 1 rfl ?_
                refine r_istore (ls' := [(4, .int (maI x3 (σ.1 9 (Int32.toNatClampNeg x5)))), (7, .int (1 : Int32)), (6, .int (maI x3 (σ.1 9 (Int32.toNatClampNeg x5)))), (0, .ref (ya Z 6)), (1, .int x1), (2, .int x2), (3, .int x3), (5, .int x5)]) h d_Spans_firstBeside_110 (by decide) rfl ?_
                refine r_iinc (ls' := [(5, .int (x5 + (1 : Int32))), (4, .int (maI x3 (σ.1 9 (Int32.toNatClampNeg x5)))), (7, .int (1 : Int32)), (6, .int (maI x3 (σ.1 9 (Int32.toNatClampNeg x5)))), (0, .ref (ya Z 6)), (1, .int x1), (2, .int x2), (3, .int x3)]) h d_Spans_firstBeside_112 7 rfl ki_1 (by decide) rfl ?_
                refine r_goto h d_Spans_firstBeside_115 ?_
                refine r_sub h [4, 5, 6, 7, 1, 0] rfl ?_
                exact ih _ _ hf
              · refine r_iload h d_Spans_firstBeside_101 1 rfl ?_
                refine r_iload h d_Spans_firstBeside_103 6 rfl ?_
                refine r_icmp_ge h d_Spans_firstBeside_105 hf (fun hf => ?_) (fun hf => ?_)
                · refine r_iinc (ls' := [(5, .int (x5 + (1 : Int32))), (7, .int (1 : Int32)), (6, .int (maI x3 (σ.1 9 (Int32.toNatClampNeg x5)))), (0, .ref (ya Z 6)), (1, .int x1), (2, .int x2), (3, .int x3), (4, .int x4)]) h d_Spans_firstBeside_112 7 rfl ki_1 (by decide) rfl ?_
                  refine r_goto h d_Spans_firstBeside_115 ?_
                  refine r_sub h [3, 4, 5, 6, 7, 0] rfl ?_
                  exact ih _ _ hf
                · refine r_iload h d_Spans_firstBeside_108 1 rfl ?_
                  refine r_istore (ls' := [(4, .int (maI x3 (σ.1 9 (Int32.toNatClampNeg x5)))), (7, .int (1 : Int32)), (6, .int (maI x3 (σ.1 9 (Int32.toNatClampNeg x5)))), (0, .ref (ya Z 6)), (1, .int x1), (2, .int x2), (3, .int x3), (5, .int x5)]) h d_Spans_firstBeside_110 (by decide) rfl ?_
                  refine r_iinc (ls' := [(5, .int (x5 + (1 : Int32))), (4, .int (maI x3 (σ.1 9 (Int32.toNatClampNeg x5)))), (7, .int (1 : Int32)), (6, .int (maI x3 (σ.1 9 (Int32.toNatClampNeg x5)))), (0, .ref (ya Z 6)), (1, .int x1), (2, .int x2), (3, .int x3)]) h d_Spans_firstBeside_112 7 rfl ki_1 (by decide) rfl ?_
                  refine r_goto h d_Spans_firstBeside_115 ?_
                  refine r_sub h [4, 5, 6, 7, 1, 0] rfl ?_
                  exact ih _ _ hf
        · refine r_goto h d_Spans_firstBeside_43 ?_
          refine r_iinc (ls' := [(5, .int (x5 + (1 : Int32))), (0, .ref (ya Z 6)), (1, .int x1), (2, .int x2), (3, .int x3), (4, .int x4)]) h d_Spans_firstBeside_112 5 rfl ki_1 (by decide) rfl ?_
          refine r_goto h d_Spans_firstBeside_115 ?_
          refine r_sub h [1, 2, 3, 4, 5, 0] rfl ?_
          exact ih _ _ hf

set_option maxHeartbeats 4000000 in
theorem m_Spans_firstBeside_stays {Z : Sy} {σ : St} {res : Int32} {x1 : Int32} {x2 : Int32} {x3 : Int32} (hf : Spans_firstBeside_stays x1 x2 x3 σ = some res) : Ct YC Z y_Spans_firstBeside c_Spans_firstBeside 8 (some .int) 1 [.ref (ya Z 6), .int x1, .int x2, .int x3] σ (some (.int res)) σ := by
  refine Ct.of pn_Spans (Nat.le_of_ble_eq_true rfl) rfl (fun Γ h => ?_)
  have h : IsG YC Z R_Spans c_Spans_firstBeside 8 1 (some .int) (some (.int res)) σ Γ := h
  unfold Spans_firstBeside_stays at hf
  refine r_bipush h d_Spans_firstBeside_0 kb_m9 ?_
  refine r_istore (ls' := [(4, .int (-9 : Int32)), (0, .ref (ya Z 6)), (1, .int x1), (2, .int x2), (3, .int x3)]) h d_Spans_firstBeside_2 (by decide) rfl ?_
  refine r_iconst h d_Spans_firstBeside_4 ki_0 ?_
  refine r_istore (ls' := [(5, .int (0 : Int32)), (4, .int (-9 : Int32)), (0, .ref (ya Z 6)), (1, .int x1), (2, .int x2), (3, .int x3)]) h d_Spans_firstBeside_5 (by decide) rfl ?_
  refine r_sub h [2, 3, 4, 5, 1, 0] rfl ?_
  exact w_Spans_firstBeside_stays_L7 h _ _ _ hf

theorem d_Spans_firstTogether_0 : decode c_Spans_firstTogether 0 = .ok (.bipush (-9), 2) ∧ 0 + 2 = 2 := by decide +kernel
theorem d_Spans_firstTogether_2 : decode c_Spans_firstTogether 2 = .ok (.istore 4, 2) ∧ 2 + 2 = 4 := by decide +kernel
theorem d_Spans_firstTogether_4 : decode c_Spans_firstTogether 4 = .ok (.iconst 0, 1) ∧ 4 + 1 = 5 := by decide +kernel
theorem d_Spans_firstTogether_5 : decode c_Spans_firstTogether 5 = .ok (.istore 5, 2) ∧ 5 + 2 = 7 := by decide +kernel
theorem d_Spans_firstTogether_7 : decode c_Spans_firstTogether 7 = .ok (.iload 5, 2) ∧ 7 + 2 = 9 := by decide +kernel
theorem d_Spans_firstTogether_9 : decode c_Spans_firstTogether 9 = .ok (.aload_n 0, 1) ∧ 9 + 1 = 10 := by decide +kernel
theorem d_Spans_firstTogether_10 : decode c_Spans_firstTogether 10 = .ok (.getfield 30, 3) ∧ 10 + 3 = 13 := by decide +kernel
theorem d_Spans_firstTogether_13 : decode c_Spans_firstTogether 13 = .ok (.if_icmp .ge 79, 3) ∧ 13 + 3 = 16 ∧ ((13 : Nat) : Int) + 79 = ((92 : Nat) : Int) := by decide +kernel
theorem d_Spans_firstTogether_16 : decode c_Spans_firstTogether 16 = .ok (.aload_n 0, 1) ∧ 16 + 1 = 17 := by decide +kernel
theorem d_Spans_firstTogether_17 : decode c_Spans_firstTogether 17 = .ok (.getfield 15, 3) ∧ 17 + 3 = 20 := by decide +kernel
theorem d_Spans_firstTogether_20 : decode c_Spans_firstTogether 20 = .ok (.iload 5, 2) ∧ 20 + 2 = 22 := by decide +kernel
theorem d_Spans_firstTogether_22 : decode c_Spans_firstTogether 22 = .ok (.iaload, 1) ∧ 22 + 1 = 23 := by decide +kernel
theorem d_Spans_firstTogether_23 : decode c_Spans_firstTogether 23 = .ok (.iload_n 1, 1) ∧ 23 + 1 = 24 := by decide +kernel
theorem d_Spans_firstTogether_24 : decode c_Spans_firstTogether 24 = .ok (.if_icmp .ne 62, 3) ∧ 24 + 3 = 27 ∧ ((24 : Nat) : Int) + 62 = ((86 : Nat) : Int) := by decide +kernel
theorem d_Spans_firstTogether_27 : decode c_Spans_firstTogether 27 = .ok (.aload_n 0, 1) ∧ 27 + 1 = 28 := by decide +kernel
theorem d_Spans_firstTogether_28 : decode c_Spans_firstTogether 28 = .ok (.getfield 27, 3) ∧ 28 + 3 = 31 := by decide +kernel
theorem d_Spans_firstTogether_31 : decode c_Spans_firstTogether 31 = .ok (.iload 5, 2) ∧ 31 + 2 = 33 := by decide +kernel
theorem d_Spans_firstTogether_33 : decode c_Spans_firstTogether 33 = .ok (.iaload, 1) ∧ 33 + 1 = 34 := by decide +kernel
theorem d_Spans_firstTogether_34 : decode c_Spans_firstTogether 34 = .ok (.iload_n 3, 1) ∧ 34 + 1 = 35 := by decide +kernel
theorem d_Spans_firstTogether_35 : decode c_Spans_firstTogether 35 = .ok (.if_icmp .ge 6, 3) ∧ 35 + 3 = 38 ∧ ((35 : Nat) : Int) + 6 = ((41 : Nat) : Int) := by decide +kernel
theorem d_Spans_firstTogether_38 : decode c_Spans_firstTogether 38 = .ok (.goto 48, 3) ∧ (38 : Int) + 48 = (86 : Int) := by decide +kernel
theorem d_Spans_firstTogether_41 : decode c_Spans_firstTogether 41 = .ok (.aload_n 0, 1) ∧ 41 + 1 = 42 := by decide +kernel
theorem d_Spans_firstTogether_42 : decode c_Spans_firstTogether 42 = .ok (.iload 5, 2) ∧ 42 + 2 = 44 := by decide +kernel
theorem d_Spans_firstTogether_44 : decode c_Spans_firstTogether 44 = .ok (.iload_n 2, 1) ∧ 44 + 1 = 45 := by decide +kernel
theorem d_Spans_firstTogether_45 : decode c_Spans_firstTogether 45 = .ok (.iload_n 3, 1) ∧ 45 + 1 = 46 := by decide +kernel
theorem d_Spans_firstTogether_46 : decode c_Spans_firstTogether 46 = .ok (.aload_n 0, 1) ∧ 46 + 1 = 47 := by decide +kernel
theorem d_Spans_firstTogether_47 : decode c_Spans_firstTogether 47 = .ok (.getfield 24, 3) ∧ 47 + 3 = 50 := by decide +kernel
theorem d_Spans_firstTogether_50 : decode c_Spans_firstTogether 50 = .ok (.iload 5, 2) ∧ 50 + 2 = 52 := by decide +kernel
theorem d_Spans_firstTogether_52 : decode c_Spans_firstTogether 52 = .ok (.iaload, 1) ∧ 52 + 1 = 53 := by decide +kernel
theorem d_Spans_firstTogether_53 : decode c_Spans_firstTogether 53 = .ok (.invokestatic 9, 3) ∧ 53 + 3 = 56 := by decide +kernel
theorem d_Spans_firstTogether_56 : decode c_Spans_firstTogether 56 = .ok (.invokevirtual 38, 3) ∧ 56 + 3 = 59 := by decide +kernel
theorem d_Spans_firstTogether_59 : decode c_Spans_firstTogether 59 = .ok (.istore 6, 2) ∧ 59 + 2 = 61 := by decide +kernel
theorem d_Spans_firstTogether_61 : decode c_Spans_firstTogether 61 = .ok (.iload 6, 2) ∧ 61 + 2 = 63 := by decide +kernel
theorem d_Spans_firstTogether_63 : decode c_Spans_firstTogether 63 = .ok (.bipush (-9), 2) ∧ 63 + 2 = 65 := by decide +kernel
theorem d_Spans_firstTogether_65 : decode c_Spans_firstTogether 65 = .ok (.if_icmp .eq 21, 3) ∧ 65 + 3 = 68 ∧ ((65 : Nat) : Int) + 21 = ((86 : Nat) : Int) := by decide +kernel
theorem d_Spans_firstTogether_68 : decode c_Spans_firstTogether 68 = .ok (.iload 4, 2) ∧ 68 + 2 = 70 := by decide +kernel
theorem d_Spans_firstTogether_70 : decode c_Spans_firstTogether 70 = .ok (.bipush (-9), 2) ∧ 70 + 2 = 72 := by decide +kernel
theorem d_Spans_firstTogether_72 : decode c_Spans_firstTogether 72 = .ok (.if_icmp .eq 10, 3) ∧ 72 + 3 = 75 ∧ ((72 : Nat) : Int) + 10 = ((82 : Nat) : Int) := by decide +kernel
theorem d_Spans_firstTogether_75 : decode c_Spans_firstTogether 75 = .ok (.iload 6, 2) ∧ 75 + 2 = 77 := by decide +kernel
theorem d_Spans_firstTogether_77 : decode c_Spans_firstTogether 77 = .ok (.iload 4, 2) ∧ 77 + 2 = 79 := by decide +kernel
theorem d_Spans_firstTogether_79 : decode c_Spans_firstTogether 79 = .ok (.if_icmp .ge 7, 3) ∧ 79 + 3 = 82 ∧ ((79 : Nat) : Int) + 7 = ((86 : Nat) : Int) := by decide +kernel
theorem d_Spans_firstTogether_82 : decode c_Spans_firstTogether 82 = .ok (.iload 6, 2) ∧ 82 + 2 = 84 := by decide +kernel
theorem d_Spans_firstTogether_84 : decode c_Spans_firstTogether 84 = .ok (.istore 4, 2) ∧ 84 + 2 = 86 := by decide +kernel
theorem d_Spans_firstTogether_86 : decode c_Spans_firstTogether 86 = .ok (.iinc 5 1, 3) ∧ 86 + 3 = 89 := by decide +kernel
theorem d_Spans_firstTogether_89 : decode c_Spans_firstTogether 89 = .ok (.goto (-82), 3) ∧ (89 : Int) + (-82) = (7 : Int) := by decide +kernel
theorem d_Spans_firstTogether_92 : decode c_Spans_firstTogether 92 = .ok (.iload 4, 2) ∧ 92 + 2 = 94 := by decide +kernel
theorem d_Spans_firstTogether_94 : decode c_Spans_firstTogether 94 = .ok (.ireturn, 1) ∧ 94 + 1 = 95 := by decide +kernel
set_option maxHeartbeats 4000000 in
theorem w_Spans_firstTogether_stays_L7 {Z : Sy} {Γ : Nat → List (Nat × Value) → List Value → St → Prop} {res : Int32} {x1 : Int32} {x2 : Int32} {x3 : Int32} {σ : St} (h : IsG YC Z R_Spans c_Spans_firstTogether 7 2 (some .int) (some (.int res)) σ Γ) : ∀ (n : Nat) (x4 : Int32) (x5 : Int32), Spans_firstTogether_stays_L7 x1 x2 x3 σ n x4 x5 = some res → Γ 7 [(0, .ref (ya Z 6)), (1, .int x1), (2, .int x2), (3, .int x3), (4, .int x4), (5, .int x5)] [] σ := by
  intro n
  induction n with
  | zero => intro x4 x5 hf; exact absurd hf (by simp [Spans_firstTogether_stays_L7])
  | succ n ih =>
    intro x4 x5 hf
    rw [Spans_firstTogether_stays_L7] at hf
    refine r_iload h d_Spans_firstTogether_7 5 rfl ?_
    refine r_aload_n h d_Spans_firstTogether_9 0 rfl rfl ?_
    refine r_getI h fd_YC_6_4 cf_Spans fl_Spans_30 d_Spans_firstTogether_10 ?_
    refine r_icmp_ge h d_Spans_firstTogether_13 hf (fun hf => ?_) (fun hf => ?_)
    · refine r_iload h d_Spans_firstTogether_92 4 rfl ?_
      exact r_ireturn h d_Spans_firstTogether_94.1 (Option.some.inj hf) rfl
    · refine r_aload_n h d_Spans_firstTogether_16 0 rfl rfl ?_
      refine r_getR h fd_YC_6_0 cf_Spans fl_Spans_15 d_Spans_firstTogether_17 ?_
      refine r_iload h d_Spans_firstTogether_20 5 rfl ?_
      refine r_iald h sh_YC_7 d_Spans_firstTogether_22 hf (fun hf => ?_)
      refine r_iload_n h d_Spans_firstTogether_23 1 rfl rfl ?_
      refine r_icmp_ne h d_Spans_firstTogether_24 hf (fun hf => ?_) (fun hf => ?_)
      · refine r_iinc (ls' := [(5, .int (x5 + (1 : Int32))), (0, .ref (ya Z 6)), (1, .int x1), (2, .int x2), (3, .int x3), (4, .int x4)]) h d_Spans_firstTogether_86 5 rfl ki_1 (by decide) rfl ?_
        refine r_goto h d_Spans_firstTogether_89 ?_
        refine r_sub h [1, 2, 3, 4, 5, 0] rfl ?_
        exact ih _ _ hf
      · refine r_aload_n h d_Spans_firstTogether_27 0 rfl rfl ?_
        refine r_getR h fd_YC_6_3 cf_Spans fl_Spans_27 d_Spans_firstTogether_28 ?_
        refine r_iload h d_Spans_firstTogether_31 5 rfl ?_
        refine r_iald h sh_YC_10 d_Spans_firstTogether_33 hf (fun hf => ?_)
        refine r_iload_n h d_Spans_firstTogether_34 3 rfl rfl ?_
        refine r_icmp_ge h d_Spans_firstTogether_35 hf (fun hf => ?_) (fun hf => ?_)
        · refine r_aload_n h d_Spans_firstTogether_41 0 rfl rfl ?_
          refine r_iload h d_Spans_firstTogether_42 5 rfl ?_
          refine r_iload_n h d_Spans_firstTogether_44 2 rfl rfl ?_
          refine r_iload_n h d_Spans_firstTogether_45 3 rfl rfl ?_
          refine r_aload_n h d_Spans_firstTogether_46 0 rfl rfl ?_
          refine r_getR h fd_YC_6_2 cf_Spans fl_Spans_24 d_Spans_firstTogether_47 ?_
          refine r_iload h d_Spans_firstTogether_50 5 rfl ?_
          refine r_iald h sh_YC_9 d_Spans_firstTogether_52 hf (fun hf => ?_)
          refine r_mmax h ⟨tm_145, tm_146, tm_82, tm_147⟩ (by decide) (Nat.le_of_ble_eq_true rfl) d_Spans_firstTogether_53 ?_
          obtain ⟨r56, e56, hf⟩ := q_bind hf
          refine r_callV (As := [.int x5, .int x2, .int (maI x3 (σ.1 9 (Int32.toNatClampNeg x5)))]) (rest := []) h sh_YC_6 lk_Spans_38 vk_Spans_38 d_Spans_firstTogether_56 (by decide) rfl rfl (Nat.le_of_ble_eq_true rfl) (m_Spans_firstBeside_stays e56) ?_
          refine r_istore (ls' := [(6, .int r56), (0, .ref (ya Z 6)), (1, .int x1), (2, .int x2), (3, .int x3), (4, .int x4), (5, .int x5)]) h d_Spans_firstTogether_59 (by decide) rfl ?_
          refine r_iload h d_Spans_firstTogether_61 0 rfl ?_
          refine r_bipush h d_Spans_firstTogether_63 kb_m9 ?_
          refine r_icmp_eq h d_Spans_firstTogether_65 hf (fun hf => ?_) (fun hf => ?_)
          · refine r_iinc (ls' := [(5, .int (x5 + (1 : Int32))), (6, .int r56), (0, .ref (ya Z 6)), (1, .int x1), (2, .int x2), (3, .int x3), (4, .int x4)]) h d_Spans_firstTogether_86 6 rfl ki_1 (by decide) rfl ?_
            refine r_goto h d_Spans_firstTogether_89 ?_
            refine r_sub h [2, 3, 4, 5, 6, 0] rfl ?_
            exact ih _ _ hf
          · refine r_iload h d_Spans_firstTogether_68 5 rfl ?_
            refine r_bipush h d_Spans_firstTogether_70 kb_m9 ?_
            refine r_icmp_eq h d_Spans_firstTogether_72 hf (fun hf => ?_) (fun hf => ?_)
            · refine r_iload h d_Spans_firstTogether_82 0 rfl ?_
              refine r_istore (ls' := [(4, .int r56), (6, .int r56), (0, .ref (ya Z 6)), (1, .int x1), (2, .int x2), (3, .int x3), (5, .int x5)]) h d_Spans_firstTogether_84 (by decide) rfl ?_
              refine r_iinc (ls' := [(5, .int (x5 + (1 : Int32))), (4, .int r56), (6, .int r56), (0, .ref (ya Z 6)), (1, .int x1), (2, .int x2), (3, .int x3)]) h d_Spans_firstTogether_86 6 rfl ki_1 (by decide) rfl ?_
              refine r_goto h d_Spans_firstTogether_89 ?_
              refine r_sub h [3, 4, 5, 6, 1, 0] rfl ?_
              exact ih _ _ hf
            · refine r_iload h d_Spans_firstTogether_75 0 rfl ?_
              refine r_iload h d_Spans_firstTogether_77 5 rfl ?_
              refine r_icmp_ge h d_Spans_firstTogether_79 hf (fun hf => ?_) (fun hf => ?_)
              · refine r_iinc (ls' := [(5, .int (x5 + (1 : Int32))), (6, .int r56), (0, .ref (ya Z 6)), (1, .int x1), (2, .int x2), (3, .int x3), (4, .int x4)]) h d_Spans_firstTogether_86 6 rfl ki_1 (by decide) rfl ?_
                refine r_goto h d_Spans_firstTogether_89 ?_
                refine r_sub h [2, 3, 4, 5, 6, 0] rfl ?_
                exact ih _ _ hf
              · refine r_iload h d_Spans_firstTogether_82 0 rfl ?_
                refine r_istore (ls' := [(4, .int r56), (6, .int r56), (0, .ref (ya Z 6)), (1, .int x1), (2, .int x2), (3, .int x3), (5, .int x5)]) h d_Spans_firstTogether_84 (by decide) rfl ?_
                refine r_iinc (ls' := [(5, .int (x5 + (1 : Int32))), (4, .int r56), (6, .int r56), (0, .ref (ya Z 6)), (1, .int x1), (2, .int x2), (3, .int x3)]) h d_Spans_firstTogether_86 6 rfl ki_1 (by decide) rfl ?_
                refine r_goto h d_Spans_firstTogether_89 ?_
                refine r_sub h [3, 4, 5, 6, 1, 0] rfl ?_
                exact ih _ _ hf
        · refine r_goto h d_Spans_firstTogether_38 ?_
          refine r_iinc (ls' := [(5, .int (x5 + (1 : Int32))), (0, .ref (ya Z 6)), (1, .int x1), (2, .int x2), (3, .int x3), (4, .int x4)]) h d_Spans_firstTogether_86 5 rfl ki_1 (by decide) rfl ?_
          refine r_goto h d_Spans_firstTogether_89 ?_
          refine r_sub h [1, 2, 3, 4, 5, 0] rfl ?_
          exact ih _ _ hf

set_option maxHeartbeats 4000000 in
theorem m_Spans_firstTogether_stays {Z : Sy} {σ : St} {res : Int32} {x1 : Int32} {x2 : Int32} {x3 : Int32} (hf : Spans_firstTogether_stays x1 x2 x3 σ = some res) : Ct YC Z y_Spans_firstTogether c_Spans_firstTogether 7 (some .int) 2 [.ref (ya Z 6), .int x1, .int x2, .int x3] σ (some (.int res)) σ := by
  refine Ct.of pn_Spans (Nat.le_of_ble_eq_true rfl) rfl (fun Γ h => ?_)
  have h : IsG YC Z R_Spans c_Spans_firstTogether 7 2 (some .int) (some (.int res)) σ Γ := h
  unfold Spans_firstTogether_stays at hf
  refine r_bipush h d_Spans_firstTogether_0 kb_m9 ?_
  refine r_istore (ls' := [(4, .int (-9 : Int32)), (0, .ref (ya Z 6)), (1, .int x1), (2, .int x2), (3, .int x3)]) h d_Spans_firstTogether_2 (by decide) rfl ?_
  refine r_iconst h d_Spans_firstTogether_4 ki_0 ?_
  refine r_istore (ls' := [(5, .int (0 : Int32)), (4, .int (-9 : Int32)), (0, .ref (ya Z 6)), (1, .int x1), (2, .int x2), (3, .int x3)]) h d_Spans_firstTogether_5 (by decide) rfl ?_
  refine r_sub h [2, 3, 4, 5, 1, 0] rfl ?_
  exact w_Spans_firstTogether_stays_L7 h _ _ _ hf

