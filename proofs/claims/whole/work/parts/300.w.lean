theorem d_M_in_0 : decode c_M_in 0 = .ok (.lload_n 0, 1) ∧ 0 + 1 = 1 := by decide +kernel
theorem d_M_in_1 : decode c_M_in 1 = .ok (.lload_n 2, 1) ∧ 1 + 1 = 2 := by decide +kernel
theorem d_M_in_2 : decode c_M_in 2 = .ok (.lcmp, 1) ∧ 2 + 1 = 3 := by decide +kernel
theorem d_M_in_3 : decode c_M_in 3 = .ok (.ifCond .lt 14, 3) ∧ 3 + 3 = 6 ∧ ((3 : Nat) : Int) + 14 = ((17 : Nat) : Int) := by decide +kernel
theorem d_M_in_6 : decode c_M_in 6 = .ok (.lload_n 0, 1) ∧ 6 + 1 = 7 := by decide +kernel
theorem d_M_in_7 : decode c_M_in 7 = .ok (.lload 4, 2) ∧ 7 + 2 = 9 := by decide +kernel
theorem d_M_in_9 : decode c_M_in 9 = .ok (.lcmp, 1) ∧ 9 + 1 = 10 := by decide +kernel
theorem d_M_in_10 : decode c_M_in 10 = .ok (.ifCond .gt 7, 3) ∧ 10 + 3 = 13 ∧ ((10 : Nat) : Int) + 7 = ((17 : Nat) : Int) := by decide +kernel
theorem d_M_in_13 : decode c_M_in 13 = .ok (.iconst 1, 1) ∧ 13 + 1 = 14 := by decide +kernel
theorem d_M_in_14 : decode c_M_in 14 = .ok (.goto 4, 3) ∧ (14 : Int) + 4 = (18 : Int) := by decide +kernel
theorem d_M_in_17 : decode c_M_in 17 = .ok (.iconst 0, 1) ∧ 17 + 1 = 18 := by decide +kernel
theorem d_M_in_18 : decode c_M_in 18 = .ok (.ireturn, 1) ∧ 18 + 1 = 19 := by decide +kernel
set_option maxHeartbeats 4000000 in
theorem m_M_in {Z : Sy} {σ : St} {res : Bool} {x0 : Int64} {x2 : Int64} {x4 : Int64} (hf : M_in x0 x2 x4 σ = some res) : Ct YM Z y_M_in c_M_in 6 (some .boolean) 1 [.long x0, .long x2, .long x4] σ (some (.int (bi res))) σ := by
  refine Ct.of pn_M (Nat.le_of_ble_eq_true rfl) rfl (fun Γ h => ?_)
  have h : IsG YM Z R_M c_M_in 6 1 (some .boolean) (some (.int (bi res))) σ Γ := h
  unfold M_in at hf
  refine r_lload_n h d_M_in_0 0 rfl rfl ?_
  refine r_lload_n h d_M_in_1 1 rfl rfl ?_
  refine r_lif_lt h d_M_in_2 d_M_in_3 hf (fun hf => ?_) (fun hf => ?_)
  · refine r_iconst h d_M_in_17 ki_0 ?_
    exact r_zreturn h d_M_in_18.1 ((show (0 : Int32) = bi false from rfl).trans (congrArg bi (Option.some.inj hf))) rfl
  · refine r_lload_n h d_M_in_6 0 rfl rfl ?_
    refine r_lload h d_M_in_7 2 rfl ?_
    refine r_lif_gt h d_M_in_9 d_M_in_10 hf (fun hf => ?_) (fun hf => ?_)
    · refine r_iconst h d_M_in_17 ki_0 ?_
      exact r_zreturn h d_M_in_18.1 ((show (0 : Int32) = bi false from rfl).trans (congrArg bi (Option.some.inj hf))) rfl
    · refine r_iconst h d_M_in_13 ki_1 ?_
      refine r_goto h d_M_in_14 ?_
      exact r_zreturn h d_M_in_18.1 ((show (1 : Int32) = bi true from rfl).trans (congrArg bi (Option.some.inj hf))) rfl

theorem d_M_isLand_0 : decode c_M_isLand 0 = .ok (.iload_n 0, 1) ∧ 0 + 1 = 1 := by decide +kernel
theorem d_M_isLand_1 : decode c_M_isLand 1 = .ok (.i2l, 1) ∧ 1 + 1 = 2 := by decide +kernel
theorem d_M_isLand_2 : decode c_M_isLand 2 = .ok (.lconst 0, 1) ∧ 2 + 1 = 3 := by decide +kernel
theorem d_M_isLand_3 : decode c_M_isLand 3 = .ok (.ldc2_w 226, 3) ∧ 3 + 3 = 6 := by decide +kernel
theorem d_M_isLand_6 : decode c_M_isLand 6 = .ok (.invokestatic 201, 3) ∧ 6 + 3 = 9 := by decide +kernel
theorem d_M_isLand_9 : decode c_M_isLand 9 = .ok (.ireturn, 1) ∧ 9 + 1 = 10 := by decide +kernel
set_option maxHeartbeats 4000000 in
theorem m_M_isLand {Z : Sy} {σ : St} {res : Bool} {x0 : Int32} (hf : M_isLand x0 σ = some res) : Ct YM Z y_M_isLand c_M_isLand 1 (some .boolean) 2 [.int x0] σ (some (.int (bi res))) σ := by
  refine Ct.of pn_M (Nat.le_of_ble_eq_true rfl) rfl (fun Γ h => ?_)
  have h : IsG YM Z R_M c_M_isLand 1 2 (some .boolean) (some (.int (bi res))) σ Γ := h
  unfold M_isLand at hf
  refine r_iload_n h d_M_isLand_0 0 rfl rfl ?_
  refine r_i2l h d_M_isLand_1 ?_
  refine r_lconst h d_M_isLand_2 kl_0 ?_
  refine r_ldc2 h d_M_isLand_3 tm_1419 ?_
  obtain ⟨r6, e6, hf⟩ := q_bind hf
  refine r_callS (As := [.long (Int32.toInt64 x0), .long (0 : Int64), .long (5 : Int64)]) (rest := []) h lk_M_201 sk_M_201 d_M_isLand_6 (by decide) rfl rfl (Nat.le_of_ble_eq_true rfl) (m_M_in e6) ?_
  exact r_zreturn h d_M_isLand_9.1 (congrArg bi (Option.some.inj hf)) rfl

theorem d_M_place_0 : decode c_M_place 0 = .ok (.iload_n 1, 1) ∧ 0 + 1 = 1 := by decide +kernel
theorem d_M_place_1 : decode c_M_place 1 = .ok (.invokestatic 230, 3) ∧ 1 + 3 = 4 := by decide +kernel
theorem d_M_place_4 : decode c_M_place 4 = .ok (.ifCond .ne 6, 3) ∧ 4 + 3 = 7 ∧ ((4 : Nat) : Int) + 6 = ((10 : Nat) : Int) := by decide +kernel
theorem d_M_place_7 : decode c_M_place 7 = .ok (.bipush (-2), 2) ∧ 7 + 2 = 9 := by decide +kernel
theorem d_M_place_9 : decode c_M_place 9 = .ok (.ireturn, 1) ∧ 9 + 1 = 10 := by decide +kernel
theorem d_M_place_10 : decode c_M_place 10 = .ok (.aload_n 0, 1) ∧ 10 + 1 = 11 := by decide +kernel
theorem d_M_place_11 : decode c_M_place 11 = .ok (.getfield 217, 3) ∧ 11 + 3 = 14 := by decide +kernel
theorem d_M_place_14 : decode c_M_place 14 = .ok (.bipush 16, 2) ∧ 14 + 2 = 16 := by decide +kernel
theorem d_M_place_16 : decode c_M_place 16 = .ok (.if_icmp .ne 6, 3) ∧ 16 + 3 = 19 ∧ ((16 : Nat) : Int) + 6 = ((22 : Nat) : Int) := by decide +kernel
theorem d_M_place_19 : decode c_M_place 19 = .ok (.bipush (-4), 2) ∧ 19 + 2 = 21 := by decide +kernel
theorem d_M_place_21 : decode c_M_place 21 = .ok (.ireturn, 1) ∧ 21 + 1 = 22 := by decide +kernel
theorem d_M_place_22 : decode c_M_place 22 = .ok (.aload_n 0, 1) ∧ 22 + 1 = 23 := by decide +kernel
theorem d_M_place_23 : decode c_M_place 23 = .ok (.getfield 7, 3) ∧ 23 + 3 = 26 := by decide +kernel
theorem d_M_place_26 : decode c_M_place 26 = .ok (.aload_n 0, 1) ∧ 26 + 1 = 27 := by decide +kernel
theorem d_M_place_27 : decode c_M_place 27 = .ok (.getfield 217, 3) ∧ 27 + 3 = 30 := by decide +kernel
theorem d_M_place_30 : decode c_M_place 30 = .ok (.iload_n 1, 1) ∧ 30 + 1 = 31 := by decide +kernel
theorem d_M_place_31 : decode c_M_place 31 = .ok (.iastore, 1) ∧ 31 + 1 = 32 := by decide +kernel
theorem d_M_place_32 : decode c_M_place 32 = .ok (.aload_n 0, 1) ∧ 32 + 1 = 33 := by decide +kernel
theorem d_M_place_33 : decode c_M_place 33 = .ok (.dup, 1) ∧ 33 + 1 = 34 := by decide +kernel
theorem d_M_place_34 : decode c_M_place 34 = .ok (.getfield 217, 3) ∧ 34 + 3 = 37 := by decide +kernel
theorem d_M_place_37 : decode c_M_place 37 = .ok (.iconst 1, 1) ∧ 37 + 1 = 38 := by decide +kernel
theorem d_M_place_38 : decode c_M_place 38 = .ok (.iadd, 1) ∧ 38 + 1 = 39 := by decide +kernel
theorem d_M_place_39 : decode c_M_place 39 = .ok (.putfield 217, 3) ∧ 39 + 3 = 42 := by decide +kernel
theorem d_M_place_42 : decode c_M_place 42 = .ok (.aload_n 0, 1) ∧ 42 + 1 = 43 := by decide +kernel
theorem d_M_place_43 : decode c_M_place 43 = .ok (.getfield 217, 3) ∧ 43 + 3 = 46 := by decide +kernel
theorem d_M_place_46 : decode c_M_place 46 = .ok (.iconst 1, 1) ∧ 46 + 1 = 47 := by decide +kernel
theorem d_M_place_47 : decode c_M_place 47 = .ok (.isub, 1) ∧ 47 + 1 = 48 := by decide +kernel
theorem d_M_place_48 : decode c_M_place 48 = .ok (.ireturn, 1) ∧ 48 + 1 = 49 := by decide +kernel
set_option maxHeartbeats 4000000 in
theorem m_M_place {Z : Sy} {σ : St} {res : (Int32 × St)} {x1 : Int32} (hf : M_place x1 σ = some res) : Ct YM Z y_M_place c_M_place 2 (some .int) 3 [.ref (ya Z 0), .int x1] σ (some (.int res.1)) res.2 := by
  refine Ct.of pn_M (Nat.le_of_ble_eq_true rfl) rfl (fun Γ h => ?_)
  have h : IsG YM Z R_M c_M_place 2 3 (some .int) (some (.int res.1)) res.2 Γ := h
  unfold M_place at hf
  refine r_iload_n h d_M_place_0 1 rfl rfl ?_
  obtain ⟨r1, e1, hf⟩ := q_bind hf
  refine r_callS (As := [.int x1]) (rest := []) h lk_M_230 sk_M_230 d_M_place_1 (by decide) rfl rfl (Nat.le_of_ble_eq_true rfl) (m_M_isLand e1) ?_
  refine r_bif_ne h d_M_place_4 hf (fun hf => ?_) (fun hf => ?_)
  · refine r_aload_n h d_M_place_10 0 rfl rfl ?_
    refine r_getI h fd_YM_0_1 cf_M fl_M_217 d_M_place_11 ?_
    refine r_bipush h d_M_place_14 kb_16 ?_
    refine r_icmp_ne h d_M_place_16 hf (fun hf => ?_) (fun hf => ?_)
    · refine r_aload_n h d_M_place_22 0 rfl rfl ?_
      refine r_getR h fd_YM_0_4 cf_M fl_M_7 d_M_place_23 ?_
      refine r_aload_n h d_M_place_26 0 rfl rfl ?_
      refine r_getI h fd_YM_0_1 cf_M fl_M_217 d_M_place_27 ?_
      refine r_iload_n h d_M_place_30 1 rfl rfl ?_
      refine r_iast h sh_YM_1 d_M_place_31 hf (fun hf => ?_)
      refine r_aload_n h d_M_place_32 0 rfl rfl ?_
      refine r_dup h d_M_place_33 rfl ?_
      refine r_getIv (v := (σ.1 0 1)) h fd_YM_0_1 cf_M fl_M_217 d_M_place_34 rfl ?_
      refine r_iconst h d_M_place_37 ki_1 ?_
      refine r_iadd h d_M_place_38 ?_
      refine r_putI h fd_YM_0_1 cf_M fl_M_217 ⟨rfl, rfl⟩ d_M_place_39 ?_
      refine r_aload_n h d_M_place_42 0 rfl rfl ?_
      refine r_getIv (v := ((σ.1 0 1) + (1 : Int32))) h fd_YM_0_1 cf_M fl_M_217 d_M_place_43 rfl ?_
      refine r_iconst h d_M_place_46 ki_1 ?_
      refine r_isub h d_M_place_47 ?_
      exact r_ireturn h d_M_place_48.1 (q_p1 hf) (q_p2 hf)
    · refine r_bipush h d_M_place_19 kb_m4 ?_
      exact r_ireturn h d_M_place_21.1 (q_p1 hf) (q_p2 hf)
  · refine r_bipush h d_M_place_7 kb_m2 ?_
    exact r_ireturn h d_M_place_9.1 (q_p1 hf) (q_p2 hf)

theorem d_M_band_0 : decode c_M_band 0 = .ok (.iload_n 1, 1) ∧ 0 + 1 = 1 := by decide +kernel
theorem d_M_band_1 : decode c_M_band 1 = .ok (.i2l, 1) ∧ 1 + 1 = 2 := by decide +kernel
theorem d_M_band_2 : decode c_M_band 2 = .ok (.lconst 0, 1) ∧ 2 + 1 = 3 := by decide +kernel
theorem d_M_band_3 : decode c_M_band 3 = .ok (.ldc2_w 233, 3) ∧ 3 + 3 = 6 := by decide +kernel
theorem d_M_band_6 : decode c_M_band 6 = .ok (.invokestatic 201, 3) ∧ 6 + 3 = 9 := by decide +kernel
theorem d_M_band_9 : decode c_M_band 9 = .ok (.ifCond .eq 15, 3) ∧ 9 + 3 = 12 ∧ ((9 : Nat) : Int) + 15 = ((24 : Nat) : Int) := by decide +kernel
theorem d_M_band_12 : decode c_M_band 12 = .ok (.iload_n 2, 1) ∧ 12 + 1 = 13 := by decide +kernel
theorem d_M_band_13 : decode c_M_band 13 = .ok (.i2l, 1) ∧ 13 + 1 = 14 := by decide +kernel
theorem d_M_band_14 : decode c_M_band 14 = .ok (.lconst 0, 1) ∧ 14 + 1 = 15 := by decide +kernel
theorem d_M_band_15 : decode c_M_band 15 = .ok (.ldc2_w 233, 3) ∧ 15 + 3 = 18 := by decide +kernel
theorem d_M_band_18 : decode c_M_band 18 = .ok (.invokestatic 201, 3) ∧ 18 + 3 = 21 := by decide +kernel
theorem d_M_band_21 : decode c_M_band 21 = .ok (.ifCond .ne 6, 3) ∧ 21 + 3 = 24 ∧ ((21 : Nat) : Int) + 6 = ((27 : Nat) : Int) := by decide +kernel
theorem d_M_band_24 : decode c_M_band 24 = .ok (.bipush (-2), 2) ∧ 24 + 2 = 26 := by decide +kernel
theorem d_M_band_26 : decode c_M_band 26 = .ok (.ireturn, 1) ∧ 26 + 1 = 27 := by decide +kernel
theorem d_M_band_27 : decode c_M_band 27 = .ok (.aload_n 0, 1) ∧ 27 + 1 = 28 := by decide +kernel
theorem d_M_band_28 : decode c_M_band 28 = .ok (.getfield 220, 3) ∧ 28 + 3 = 31 := by decide +kernel
theorem d_M_band_31 : decode c_M_band 31 = .ok (.bipush 6, 2) ∧ 31 + 2 = 33 := by decide +kernel
theorem d_M_band_33 : decode c_M_band 33 = .ok (.if_icmp .ne 6, 3) ∧ 33 + 3 = 36 ∧ ((33 : Nat) : Int) + 6 = ((39 : Nat) : Int) := by decide +kernel
theorem d_M_band_36 : decode c_M_band 36 = .ok (.bipush (-4), 2) ∧ 36 + 2 = 38 := by decide +kernel
theorem d_M_band_38 : decode c_M_band 38 = .ok (.ireturn, 1) ∧ 38 + 1 = 39 := by decide +kernel
theorem d_M_band_39 : decode c_M_band 39 = .ok (.aload_n 0, 1) ∧ 39 + 1 = 40 := by decide +kernel
theorem d_M_band_40 : decode c_M_band 40 = .ok (.getfield 13, 3) ∧ 40 + 3 = 43 := by decide +kernel
theorem d_M_band_43 : decode c_M_band 43 = .ok (.aload_n 0, 1) ∧ 43 + 1 = 44 := by decide +kernel
theorem d_M_band_44 : decode c_M_band 44 = .ok (.getfield 220, 3) ∧ 44 + 3 = 47 := by decide +kernel
theorem d_M_band_47 : decode c_M_band 47 = .ok (.iload_n 1, 1) ∧ 47 + 1 = 48 := by decide +kernel
theorem d_M_band_48 : decode c_M_band 48 = .ok (.iastore, 1) ∧ 48 + 1 = 49 := by decide +kernel
theorem d_M_band_49 : decode c_M_band 49 = .ok (.aload_n 0, 1) ∧ 49 + 1 = 50 := by decide +kernel
theorem d_M_band_50 : decode c_M_band 50 = .ok (.getfield 16, 3) ∧ 50 + 3 = 53 := by decide +kernel
theorem d_M_band_53 : decode c_M_band 53 = .ok (.aload_n 0, 1) ∧ 53 + 1 = 54 := by decide +kernel
theorem d_M_band_54 : decode c_M_band 54 = .ok (.getfield 220, 3) ∧ 54 + 3 = 57 := by decide +kernel
theorem d_M_band_57 : decode c_M_band 57 = .ok (.iload_n 2, 1) ∧ 57 + 1 = 58 := by decide +kernel
theorem d_M_band_58 : decode c_M_band 58 = .ok (.iastore, 1) ∧ 58 + 1 = 59 := by decide +kernel
theorem d_M_band_59 : decode c_M_band 59 = .ok (.aload_n 0, 1) ∧ 59 + 1 = 60 := by decide +kernel
theorem d_M_band_60 : decode c_M_band 60 = .ok (.dup, 1) ∧ 60 + 1 = 61 := by decide +kernel
theorem d_M_band_61 : decode c_M_band 61 = .ok (.getfield 220, 3) ∧ 61 + 3 = 64 := by decide +kernel
theorem d_M_band_64 : decode c_M_band 64 = .ok (.iconst 1, 1) ∧ 64 + 1 = 65 := by decide +kernel
theorem d_M_band_65 : decode c_M_band 65 = .ok (.iadd, 1) ∧ 65 + 1 = 66 := by decide +kernel
theorem d_M_band_66 : decode c_M_band 66 = .ok (.putfield 220, 3) ∧ 66 + 3 = 69 := by decide +kernel
theorem d_M_band_69 : decode c_M_band 69 = .ok (.aload_n 0, 1) ∧ 69 + 1 = 70 := by decide +kernel
theorem d_M_band_70 : decode c_M_band 70 = .ok (.getfield 220, 3) ∧ 70 + 3 = 73 := by decide +kernel
theorem d_M_band_73 : decode c_M_band 73 = .ok (.iconst 1, 1) ∧ 73 + 1 = 74 := by decide +kernel
theorem d_M_band_74 : decode c_M_band 74 = .ok (.isub, 1) ∧ 74 + 1 = 75 := by decide +kernel
theorem d_M_band_75 : decode c_M_band 75 = .ok (.ireturn, 1) ∧ 75 + 1 = 76 := by decide +kernel
set_option maxHeartbeats 4000000 in
theorem m_M_band {Z : Sy} {σ : St} {res : (Int32 × St)} {x1 : Int32} {x2 : Int32} (hf : M_band x1 x2 σ = some res) : Ct YM Z y_M_band c_M_band 3 (some .int) 2 [.ref (ya Z 0), .int x1, .int x2] σ (some (.int res.1)) res.2 := by
  refine Ct.of pn_M (Nat.le_of_ble_eq_true rfl) rfl (fun Γ h => ?_)
  have h : IsG YM Z R_M c_M_band 3 2 (some .int) (some (.int res.1)) res.2 Γ := h
  unfold M_band at hf
  refine r_iload_n h d_M_band_0 1 rfl rfl ?_
  refine r_i2l h d_M_band_1 ?_
  refine r_lconst h d_M_band_2 kl_0 ?_
  refine r_ldc2 h d_M_band_3 tm_1427 ?_
  obtain ⟨r6, e6, hf⟩ := q_bind hf
  refine r_callS (As := [.long (Int32.toInt64 x1), .long (0 : Int64), .long (9 : Int64)]) (rest := []) h lk_M_201 sk_M_201 d_M_band_6 (by decide) rfl rfl (Nat.le_of_ble_eq_true rfl) (m_M_in e6) ?_
  refine r_bif_eq h d_M_band_9 hf (fun hf => ?_) (fun hf => ?_)
  · refine r_bipush h d_M_band_24 kb_m2 ?_
    exact r_ireturn h d_M_band_26.1 (q_p1 hf) (q_p2 hf)
  · refine r_iload_n h d_M_band_12 2 rfl rfl ?_
    refine r_i2l h d_M_band_13 ?_
    refine r_lconst h d_M_band_14 kl_0 ?_
    refine r_ldc2 h d_M_band_15 tm_1427 ?_
    obtain ⟨r18, e18, hf⟩ := q_bind hf
    refine r_callS (As := [.long (Int32.toInt64 x2), .long (0 : Int64), .long (9 : Int64)]) (rest := []) h lk_M_201 sk_M_201 d_M_band_18 (by decide) rfl rfl (Nat.le_of_ble_eq_true rfl) (m_M_in e18) ?_
    refine r_bif_ne h d_M_band_21 hf (fun hf => ?_) (fun hf => ?_)
    · refine r_aload_n h d_M_band_27 0 rfl rfl ?_
      refine r_getI h fd_YM_0_2 cf_M fl_M_220 d_M_band_28 ?_
      refine r_bipush h d_M_band_31 kb_6 ?_
      refine r_icmp_ne h d_M_band_33 hf (fun hf => ?_) (fun hf => ?_)
      · refine r_aload_n h d_M_band_39 0 rfl rfl ?_
        refine r_getR h fd_YM_0_5 cf_M fl_M_13 d_M_band_40 ?_
        refine r_aload_n h d_M_band_43 0 rfl rfl ?_
        refine r_getI h fd_YM_0_2 cf_M fl_M_220 d_M_band_44 ?_
        refine r_iload_n h d_M_band_47 1 rfl rfl ?_
        refine r_iast h sh_YM_2 d_M_band_48 hf (fun hf => ?_)
        refine r_aload_n h d_M_band_49 0 rfl rfl ?_
        refine r_getR h fd_YM_0_6 cf_M fl_M_16 d_M_band_50 ?_
        refine r_aload_n h d_M_band_53 0 rfl rfl ?_
        refine r_getIv (v := (σ.1 0 2)) h fd_YM_0_2 cf_M fl_M_220 d_M_band_54 rfl ?_
        refine r_iload_n h d_M_band_57 2 rfl rfl ?_
        refine r_iast h sh_YM_3 d_M_band_58 hf (fun hf => ?_)
        refine r_aload_n h d_M_band_59 0 rfl rfl ?_
        refine r_dup h d_M_band_60 rfl ?_
        refine r_getIv (v := (σ.1 0 2)) h fd_YM_0_2 cf_M fl_M_220 d_M_band_61 rfl ?_
        refine r_iconst h d_M_band_64 ki_1 ?_
        refine r_iadd h d_M_band_65 ?_
        refine r_putI h fd_YM_0_2 cf_M fl_M_220 ⟨rfl, rfl⟩ d_M_band_66 ?_
        refine r_aload_n h d_M_band_69 0 rfl rfl ?_
        refine r_getIv (v := ((σ.1 0 2) + (1 : Int32))) h fd_YM_0_2 cf_M fl_M_220 d_M_band_70 rfl ?_
        refine r_iconst h d_M_band_73 ki_1 ?_
        refine r_isub h d_M_band_74 ?_
        exact r_ireturn h d_M_band_75.1 (q_p1 hf) (q_p2 hf)
      · refine r_bipush h d_M_band_36 kb_m4 ?_
        exact r_ireturn h d_M_band_38.1 (q_p1 hf) (q_p2 hf)
    · refine r_bipush h d_M_band_24 kb_m2 ?_
      exact r_ireturn h d_M_band_26.1 (q_p1 hf) (q_p2 hf)

theorem d_M_house_0 : decode c_M_house 0 = .ok (.iload_n 1, 1) ∧ 0 + 1 = 1 := by decide +kernel
theorem d_M_house_1 : decode c_M_house 1 = .ok (.i2l, 1) ∧ 1 + 1 = 2 := by decide +kernel
theorem d_M_house_2 : decode c_M_house 2 = .ok (.lconst 0, 1) ∧ 2 + 1 = 3 := by decide +kernel
theorem d_M_house_3 : decode c_M_house 3 = .ok (.ldc2_w 235, 3) ∧ 3 + 3 = 6 := by decide +kernel
theorem d_M_house_6 : decode c_M_house 6 = .ok (.invokestatic 201, 3) ∧ 6 + 3 = 9 := by decide +kernel
theorem d_M_house_9 : decode c_M_house 9 = .ok (.ifCond .ne 6, 3) ∧ 9 + 3 = 12 ∧ ((9 : Nat) : Int) + 6 = ((15 : Nat) : Int) := by decide +kernel
theorem d_M_house_12 : decode c_M_house 12 = .ok (.bipush (-2), 2) ∧ 12 + 2 = 14 := by decide +kernel
theorem d_M_house_14 : decode c_M_house 14 = .ok (.ireturn, 1) ∧ 14 + 1 = 15 := by decide +kernel
theorem d_M_house_15 : decode c_M_house 15 = .ok (.aload_n 0, 1) ∧ 15 + 1 = 16 := by decide +kernel
theorem d_M_house_16 : decode c_M_house 16 = .ok (.getfield 223, 3) ∧ 16 + 3 = 19 := by decide +kernel
theorem d_M_house_19 : decode c_M_house 19 = .ok (.iconst 4, 1) ∧ 19 + 1 = 20 := by decide +kernel
theorem d_M_house_20 : decode c_M_house 20 = .ok (.if_icmp .ne 6, 3) ∧ 20 + 3 = 23 ∧ ((20 : Nat) : Int) + 6 = ((26 : Nat) : Int) := by decide +kernel
theorem d_M_house_23 : decode c_M_house 23 = .ok (.bipush (-4), 2) ∧ 23 + 2 = 25 := by decide +kernel
theorem d_M_house_25 : decode c_M_house 25 = .ok (.ireturn, 1) ∧ 25 + 1 = 26 := by decide +kernel
theorem d_M_house_26 : decode c_M_house 26 = .ok (.aload_n 0, 1) ∧ 26 + 1 = 27 := by decide +kernel
theorem d_M_house_27 : decode c_M_house 27 = .ok (.getfield 19, 3) ∧ 27 + 3 = 30 := by decide +kernel
theorem d_M_house_30 : decode c_M_house 30 = .ok (.aload_n 0, 1) ∧ 30 + 1 = 31 := by decide +kernel
theorem d_M_house_31 : decode c_M_house 31 = .ok (.getfield 223, 3) ∧ 31 + 3 = 34 := by decide +kernel
theorem d_M_house_34 : decode c_M_house 34 = .ok (.iload_n 1, 1) ∧ 34 + 1 = 35 := by decide +kernel
theorem d_M_house_35 : decode c_M_house 35 = .ok (.iastore, 1) ∧ 35 + 1 = 36 := by decide +kernel
theorem d_M_house_36 : decode c_M_house 36 = .ok (.aload_n 0, 1) ∧ 36 + 1 = 37 := by decide +kernel
theorem d_M_house_37 : decode c_M_house 37 = .ok (.dup, 1) ∧ 37 + 1 = 38 := by decide +kernel
theorem d_M_house_38 : decode c_M_house 38 = .ok (.getfield 223, 3) ∧ 38 + 3 = 41 := by decide +kernel
theorem d_M_house_41 : decode c_M_house 41 = .ok (.iconst 1, 1) ∧ 41 + 1 = 42 := by decide +kernel
theorem d_M_house_42 : decode c_M_house 42 = .ok (.iadd, 1) ∧ 42 + 1 = 43 := by decide +kernel
theorem d_M_house_43 : decode c_M_house 43 = .ok (.putfield 223, 3) ∧ 43 + 3 = 46 := by decide +kernel
theorem d_M_house_46 : decode c_M_house 46 = .ok (.aload_n 0, 1) ∧ 46 + 1 = 47 := by decide +kernel
theorem d_M_house_47 : decode c_M_house 47 = .ok (.getfield 223, 3) ∧ 47 + 3 = 50 := by decide +kernel
theorem d_M_house_50 : decode c_M_house 50 = .ok (.iconst 1, 1) ∧ 50 + 1 = 51 := by decide +kernel
theorem d_M_house_51 : decode c_M_house 51 = .ok (.isub, 1) ∧ 51 + 1 = 52 := by decide +kernel
theorem d_M_house_52 : decode c_M_house 52 = .ok (.ireturn, 1) ∧ 52 + 1 = 53 := by decide +kernel
set_option maxHeartbeats 4000000 in
theorem m_M_house {Z : Sy} {σ : St} {res : (Int32 × St)} {x1 : Int32} (hf : M_house x1 σ = some res) : Ct YM Z y_M_house c_M_house 2 (some .int) 2 [.ref (ya Z 0), .int x1] σ (some (.int res.1)) res.2 := by
  refine Ct.of pn_M (Nat.le_of_ble_eq_true rfl) rfl (fun Γ h => ?_)
  have h : IsG YM Z R_M c_M_house 2 2 (some .int) (some (.int res.1)) res.2 Γ := h
  unfold M_house at hf
  refine r_iload_n h d_M_house_0 1 rfl rfl ?_
  refine r_i2l h d_M_house_1 ?_
  refine r_lconst h d_M_house_2 kl_0 ?_
  refine r_ldc2 h d_M_house_3 tm_1432 ?_
  obtain ⟨r6, e6, hf⟩ := q_bind hf
  refine r_callS (As := [.long (Int32.toInt64 x1), .long (0 : Int64), .long (1000000 : Int64)]) (rest := []) h lk_M_201 sk_M_201 d_M_house_6 (by decide) rfl rfl (Nat.le_of_ble_eq_true rfl) (m_M_in e6) ?_
  refine r_bif_ne h d_M_house_9 hf (fun hf => ?_) (fun hf => ?_)
  · refine r_aload_n h d_M_house_15 0 rfl rfl ?_
    refine r_getI h fd_YM_0_3 cf_M fl_M_223 d_M_house_16 ?_
    refine r_iconst h d_M_house_19 ki_4 ?_
    refine r_icmp_ne h d_M_house_20 hf (fun hf => ?_) (fun hf => ?_)
    · refine r_aload_n h d_M_house_26 0 rfl rfl ?_
      refine r_getR h fd_YM_0_7 cf_M fl_M_19 d_M_house_27 ?_
      refine r_aload_n h d_M_house_30 0 rfl rfl ?_
      refine r_getI h fd_YM_0_3 cf_M fl_M_223 d_M_house_31 ?_
      refine r_iload_n h d_M_house_34 1 rfl rfl ?_
      refine r_iast h sh_YM_4 d_M_house_35 hf (fun hf => ?_)
      refine r_aload_n h d_M_house_36 0 rfl rfl ?_
      refine r_dup h d_M_house_37 rfl ?_
      refine r_getIv (v := (σ.1 0 3)) h fd_YM_0_3 cf_M fl_M_223 d_M_house_38 rfl ?_
      refine r_iconst h d_M_house_41 ki_1 ?_
      refine r_iadd h d_M_house_42 ?_
      refine r_putI h fd_YM_0_3 cf_M fl_M_223 ⟨rfl, rfl⟩ d_M_house_43 ?_
      refine r_aload_n h d_M_house_46 0 rfl rfl ?_
      refine r_getIv (v := ((σ.1 0 3) + (1 : Int32))) h fd_YM_0_3 cf_M fl_M_223 d_M_house_47 rfl ?_
      refine r_iconst h d_M_house_50 ki_1 ?_
      refine r_isub h d_M_house_51 ?_
      exact r_ireturn h d_M_house_52.1 (q_p1 hf) (q_p2 hf)
    · refine r_bipush h d_M_house_23 kb_m4 ?_
      exact r_ireturn h d_M_house_25.1 (q_p1 hf) (q_p2 hf)
  · refine r_bipush h d_M_house_12 kb_m2 ?_
    exact r_ireturn h d_M_house_14.1 (q_p1 hf) (q_p2 hf)

theorem d_M_noBand_0 : decode c_M_noBand 0 = .ok (.iload_n 1, 1) ∧ 0 + 1 = 1 := by decide +kernel
theorem d_M_noBand_1 : decode c_M_noBand 1 = .ok (.i2l, 1) ∧ 1 + 1 = 2 := by decide +kernel
theorem d_M_noBand_2 : decode c_M_noBand 2 = .ok (.lconst 0, 1) ∧ 2 + 1 = 3 := by decide +kernel
theorem d_M_noBand_3 : decode c_M_noBand 3 = .ok (.aload_n 0, 1) ∧ 3 + 1 = 4 := by decide +kernel
theorem d_M_noBand_4 : decode c_M_noBand 4 = .ok (.getfield 220, 3) ∧ 4 + 3 = 7 := by decide +kernel
theorem d_M_noBand_7 : decode c_M_noBand 7 = .ok (.i2l, 1) ∧ 7 + 1 = 8 := by decide +kernel
theorem d_M_noBand_8 : decode c_M_noBand 8 = .ok (.lconst 1, 1) ∧ 8 + 1 = 9 := by decide +kernel
theorem d_M_noBand_9 : decode c_M_noBand 9 = .ok (.lsub, 1) ∧ 9 + 1 = 10 := by decide +kernel
theorem d_M_noBand_10 : decode c_M_noBand 10 = .ok (.invokestatic 201, 3) ∧ 10 + 3 = 13 := by decide +kernel
theorem d_M_noBand_13 : decode c_M_noBand 13 = .ok (.ifCond .ne 7, 3) ∧ 13 + 3 = 16 ∧ ((13 : Nat) : Int) + 7 = ((20 : Nat) : Int) := by decide +kernel
theorem d_M_noBand_16 : decode c_M_noBand 16 = .ok (.iconst 1, 1) ∧ 16 + 1 = 17 := by decide +kernel
theorem d_M_noBand_17 : decode c_M_noBand 17 = .ok (.goto 4, 3) ∧ (17 : Int) + 4 = (21 : Int) := by decide +kernel
theorem d_M_noBand_20 : decode c_M_noBand 20 = .ok (.iconst 0, 1) ∧ 20 + 1 = 21 := by decide +kernel
theorem d_M_noBand_21 : decode c_M_noBand 21 = .ok (.ireturn, 1) ∧ 21 + 1 = 22 := by decide +kernel
set_option maxHeartbeats 4000000 in
theorem m_M_noBand {Z : Sy} {σ : St} {res : Bool} {x1 : Int32} (hf : M_noBand x1 σ = some res) : Ct YM Z y_M_noBand c_M_noBand 2 (some .boolean) 2 [.ref (ya Z 0), .int x1] σ (some (.int (bi res))) σ := by
  refine Ct.of pn_M (Nat.le_of_ble_eq_true rfl) rfl (fun Γ h => ?_)
  have h : IsG YM Z R_M c_M_noBand 2 2 (some .boolean) (some (.int (bi res))) σ Γ := h
  unfold M_noBand at hf
  refine r_iload_n h d_M_noBand_0 1 rfl rfl ?_
  refine r_i2l h d_M_noBand_1 ?_
  refine r_lconst h d_M_noBand_2 kl_0 ?_
  refine r_aload_n h d_M_noBand_3 0 rfl rfl ?_
  refine r_getI h fd_YM_0_2 cf_M fl_M_220 d_M_noBand_4 ?_
  refine r_i2l h d_M_noBand_7 ?_
  refine r_lconst h d_M_noBand_8 kl_1 ?_
  refine r_lsub h d_M_noBand_9 ?_
  obtain ⟨r10, e10, hf⟩ := q_bind hf
  refine r_callS (As := [.long (Int32.toInt64 x1), .long (0 : Int64), .long ((Int32.toInt64 (σ.1 0 2)) - (1 : Int64))]) (rest := []) h lk_M_201 sk_M_201 d_M_noBand_10 (by decide) rfl rfl (Nat.le_of_ble_eq_true rfl) (m_M_in e10) ?_
  refine r_bif_ne h d_M_noBand_13 hf (fun hf => ?_) (fun hf => ?_)
  · refine r_iconst h d_M_noBand_20 ki_0 ?_
    exact r_zreturn h d_M_noBand_21.1 ((show (0 : Int32) = bi false from rfl).trans (congrArg bi (Option.some.inj hf))) rfl
  · refine r_iconst h d_M_noBand_16 ki_1 ?_
    refine r_goto h d_M_noBand_17 ?_
    exact r_zreturn h d_M_noBand_21.1 ((show (1 : Int32) = bi true from rfl).trans (congrArg bi (Option.some.inj hf))) rfl

theorem d_M_noPlace_0 : decode c_M_noPlace 0 = .ok (.iload_n 1, 1) ∧ 0 + 1 = 1 := by decide +kernel
theorem d_M_noPlace_1 : decode c_M_noPlace 1 = .ok (.i2l, 1) ∧ 1 + 1 = 2 := by decide +kernel
theorem d_M_noPlace_2 : decode c_M_noPlace 2 = .ok (.lconst 0, 1) ∧ 2 + 1 = 3 := by decide +kernel
theorem d_M_noPlace_3 : decode c_M_noPlace 3 = .ok (.aload_n 0, 1) ∧ 3 + 1 = 4 := by decide +kernel
theorem d_M_noPlace_4 : decode c_M_noPlace 4 = .ok (.getfield 217, 3) ∧ 4 + 3 = 7 := by decide +kernel
theorem d_M_noPlace_7 : decode c_M_noPlace 7 = .ok (.i2l, 1) ∧ 7 + 1 = 8 := by decide +kernel
theorem d_M_noPlace_8 : decode c_M_noPlace 8 = .ok (.lconst 1, 1) ∧ 8 + 1 = 9 := by decide +kernel
theorem d_M_noPlace_9 : decode c_M_noPlace 9 = .ok (.lsub, 1) ∧ 9 + 1 = 10 := by decide +kernel
theorem d_M_noPlace_10 : decode c_M_noPlace 10 = .ok (.invokestatic 201, 3) ∧ 10 + 3 = 13 := by decide +kernel
theorem d_M_noPlace_13 : decode c_M_noPlace 13 = .ok (.ifCond .ne 7, 3) ∧ 13 + 3 = 16 ∧ ((13 : Nat) : Int) + 7 = ((20 : Nat) : Int) := by decide +kernel
theorem d_M_noPlace_16 : decode c_M_noPlace 16 = .ok (.iconst 1, 1) ∧ 16 + 1 = 17 := by decide +kernel
theorem d_M_noPlace_17 : decode c_M_noPlace 17 = .ok (.goto 4, 3) ∧ (17 : Int) + 4 = (21 : Int) := by decide +kernel
theorem d_M_noPlace_20 : decode c_M_noPlace 20 = .ok (.iconst 0, 1) ∧ 20 + 1 = 21 := by decide +kernel
theorem d_M_noPlace_21 : decode c_M_noPlace 21 = .ok (.ireturn, 1) ∧ 21 + 1 = 22 := by decide +kernel
set_option maxHeartbeats 4000000 in
theorem m_M_noPlace {Z : Sy} {σ : St} {res : Bool} {x1 : Int32} (hf : M_noPlace x1 σ = some res) : Ct YM Z y_M_noPlace c_M_noPlace 2 (some .boolean) 2 [.ref (ya Z 0), .int x1] σ (some (.int (bi res))) σ := by
  refine Ct.of pn_M (Nat.le_of_ble_eq_true rfl) rfl (fun Γ h => ?_)
  have h : IsG YM Z R_M c_M_noPlace 2 2 (some .boolean) (some (.int (bi res))) σ Γ := h
  unfold M_noPlace at hf
  refine r_iload_n h d_M_noPlace_0 1 rfl rfl ?_
  refine r_i2l h d_M_noPlace_1 ?_
  refine r_lconst h d_M_noPlace_2 kl_0 ?_
  refine r_aload_n h d_M_noPlace_3 0 rfl rfl ?_
  refine r_getI h fd_YM_0_1 cf_M fl_M_217 d_M_noPlace_4 ?_
  refine r_i2l h d_M_noPlace_7 ?_
  refine r_lconst h d_M_noPlace_8 kl_1 ?_
  refine r_lsub h d_M_noPlace_9 ?_
  obtain ⟨r10, e10, hf⟩ := q_bind hf
  refine r_callS (As := [.long (Int32.toInt64 x1), .long (0 : Int64), .long ((Int32.toInt64 (σ.1 0 1)) - (1 : Int64))]) (rest := []) h lk_M_201 sk_M_201 d_M_noPlace_10 (by decide) rfl rfl (Nat.le_of_ble_eq_true rfl) (m_M_in e10) ?_
  refine r_bif_ne h d_M_noPlace_13 hf (fun hf => ?_) (fun hf => ?_)
  · refine r_iconst h d_M_noPlace_20 ki_0 ?_
    exact r_zreturn h d_M_noPlace_21.1 ((show (0 : Int32) = bi false from rfl).trans (congrArg bi (Option.some.inj hf))) rfl
  · refine r_iconst h d_M_noPlace_16 ki_1 ?_
    refine r_goto h d_M_noPlace_17 ?_
    exact r_zreturn h d_M_noPlace_21.1 ((show (1 : Int32) = bi true from rfl).trans (congrArg bi (Option.some.inj hf))) rfl

theorem d_M_isDay_0 : decode c_M_isDay 0 = .ok (.iload_n 0, 1) ∧ 0 + 1 = 1 := by decide +kernel
theorem d_M_isDay_1 : decode c_M_isDay 1 = .ok (.i2l, 1) ∧ 1 + 1 = 2 := by decide +kernel
theorem d_M_isDay_2 : decode c_M_isDay 2 = .ok (.lconst 0, 1) ∧ 2 + 1 = 3 := by decide +kernel
theorem d_M_isDay_3 : decode c_M_isDay 3 = .ok (.ldc2_w 199, 3) ∧ 3 + 3 = 6 := by decide +kernel
theorem d_M_isDay_6 : decode c_M_isDay 6 = .ok (.invokestatic 201, 3) ∧ 6 + 3 = 9 := by decide +kernel
theorem d_M_isDay_9 : decode c_M_isDay 9 = .ok (.ireturn, 1) ∧ 9 + 1 = 10 := by decide +kernel
set_option maxHeartbeats 4000000 in
theorem m_M_isDay {Z : Sy} {σ : St} {res : Bool} {x0 : Int32} (hf : M_isDay x0 σ = some res) : Ct YM Z y_M_isDay c_M_isDay 1 (some .boolean) 2 [.int x0] σ (some (.int (bi res))) σ := by
  refine Ct.of pn_M (Nat.le_of_ble_eq_true rfl) rfl (fun Γ h => ?_)
  have h : IsG YM Z R_M c_M_isDay 1 2 (some .boolean) (some (.int (bi res))) σ Γ := h
  unfold M_isDay at hf
  refine r_iload_n h d_M_isDay_0 0 rfl rfl ?_
  refine r_i2l h d_M_isDay_1 ?_
  refine r_lconst h d_M_isDay_2 kl_0 ?_
  refine r_ldc2 h d_M_isDay_3 tm_1451 ?_
  obtain ⟨r6, e6, hf⟩ := q_bind hf
  refine r_callS (As := [.long (Int32.toInt64 x0), .long (0 : Int64), .long (9999 : Int64)]) (rest := []) h lk_M_201 sk_M_201 d_M_isDay_6 (by decide) rfl rfl (Nat.le_of_ble_eq_true rfl) (m_M_in e6) ?_
  exact r_zreturn h d_M_isDay_9.1 (congrArg bi (Option.some.inj hf)) rfl

theorem d_M_areDays_0 : decode c_M_areDays 0 = .ok (.iload_n 0, 1) ∧ 0 + 1 = 1 := by decide +kernel
theorem d_M_areDays_1 : decode c_M_areDays 1 = .ok (.invokestatic 205, 3) ∧ 1 + 3 = 4 := by decide +kernel
theorem d_M_areDays_4 : decode c_M_areDays 4 = .ok (.ifCond .eq 20, 3) ∧ 4 + 3 = 7 ∧ ((4 : Nat) : Int) + 20 = ((24 : Nat) : Int) := by decide +kernel
theorem d_M_areDays_7 : decode c_M_areDays 7 = .ok (.iload_n 1, 1) ∧ 7 + 1 = 8 := by decide +kernel
theorem d_M_areDays_8 : decode c_M_areDays 8 = .ok (.i2l, 1) ∧ 8 + 1 = 9 := by decide +kernel
theorem d_M_areDays_9 : decode c_M_areDays 9 = .ok (.iload_n 0, 1) ∧ 9 + 1 = 10 := by decide +kernel
theorem d_M_areDays_10 : decode c_M_areDays 10 = .ok (.i2l, 1) ∧ 10 + 1 = 11 := by decide +kernel
theorem d_M_areDays_11 : decode c_M_areDays 11 = .ok (.ldc2_w 199, 3) ∧ 11 + 3 = 14 := by decide +kernel
theorem d_M_areDays_14 : decode c_M_areDays 14 = .ok (.invokestatic 201, 3) ∧ 14 + 3 = 17 := by decide +kernel
theorem d_M_areDays_17 : decode c_M_areDays 17 = .ok (.ifCond .eq 7, 3) ∧ 17 + 3 = 20 ∧ ((17 : Nat) : Int) + 7 = ((24 : Nat) : Int) := by decide +kernel
theorem d_M_areDays_20 : decode c_M_areDays 20 = .ok (.iconst 1, 1) ∧ 20 + 1 = 21 := by decide +kernel
theorem d_M_areDays_21 : decode c_M_areDays 21 = .ok (.goto 4, 3) ∧ (21 : Int) + 4 = (25 : Int) := by decide +kernel
theorem d_M_areDays_24 : decode c_M_areDays 24 = .ok (.iconst 0, 1) ∧ 24 + 1 = 25 := by decide +kernel
theorem d_M_areDays_25 : decode c_M_areDays 25 = .ok (.ireturn, 1) ∧ 25 + 1 = 26 := by decide +kernel
set_option maxHeartbeats 4000000 in
theorem m_M_areDays {Z : Sy} {σ : St} {res : Bool} {x0 : Int32} {x1 : Int32} (hf : M_areDays x0 x1 σ = some res) : Ct YM Z y_M_areDays c_M_areDays 2 (some .boolean) 3 [.int x0, .int x1] σ (some (.int (bi res))) σ := by
  refine Ct.of pn_M (Nat.le_of_ble_eq_true rfl) rfl (fun Γ h => ?_)
  have h : IsG YM Z R_M c_M_areDays 2 3 (some .boolean) (some (.int (bi res))) σ Γ := h
  unfold M_areDays at hf
  refine r_iload_n h d_M_areDays_0 0 rfl rfl ?_
  obtain ⟨r1, e1, hf⟩ := q_bind hf
  refine r_callS (As := [.int x0]) (rest := []) h lk_M_205 sk_M_205 d_M_areDays_1 (by decide) rfl rfl (Nat.le_of_ble_eq_true rfl) (m_M_isDay e1) ?_
  refine r_bif_eq h d_M_areDays_4 hf (fun hf => ?_) (fun hf => ?_)
  · refine r_iconst h d_M_areDays_24 ki_0 ?_
    exact r_zreturn h d_M_areDays_25.1 ((show (0 : Int32) = bi false from rfl).trans (congrArg bi (Option.some.inj hf))) rfl
  · refine r_iload_n h d_M_areDays_7 1 rfl rfl ?_
    refine r_i2l h d_M_areDays_8 ?_
    refine r_iload_n h d_M_areDays_9 0 rfl rfl ?_
    refine r_i2l h d_M_areDays_10 ?_
    refine r_ldc2 h d_M_areDays_11 tm_1451 ?_
    obtain ⟨r14, e14, hf⟩ := q_bind hf
    refine r_callS (As := [.long (Int32.toInt64 x1), .long (Int32.toInt64 x0), .long (9999 : Int64)]) (rest := []) h lk_M_201 sk_M_201 d_M_areDays_14 (by decide) rfl rfl (Nat.le_of_ble_eq_true rfl) (m_M_in e14) ?_
    refine r_bif_eq h d_M_areDays_17 hf (fun hf => ?_) (fun hf => ?_)
    · refine r_iconst h d_M_areDays_24 ki_0 ?_
      exact r_zreturn h d_M_areDays_25.1 ((show (0 : Int32) = bi false from rfl).trans (congrArg bi (Option.some.inj hf))) rfl
    · refine r_iconst h d_M_areDays_20 ki_1 ?_
      refine r_goto h d_M_areDays_21 ?_
      exact r_zreturn h d_M_areDays_25.1 ((show (1 : Int32) = bi true from rfl).trans (congrArg bi (Option.some.inj hf))) rfl

theorem d_M_walk_0 : decode c_M_walk 0 = .ok (.aload_n 0, 1) ∧ 0 + 1 = 1 := by decide +kernel
theorem d_M_walk_1 : decode c_M_walk 1 = .ok (.iload_n 1, 1) ∧ 1 + 1 = 2 := by decide +kernel
theorem d_M_walk_2 : decode c_M_walk 2 = .ok (.invokevirtual 237, 3) ∧ 2 + 3 = 5 := by decide +kernel
theorem d_M_walk_5 : decode c_M_walk 5 = .ok (.ifCond .ne 11, 3) ∧ 5 + 3 = 8 ∧ ((5 : Nat) : Int) + 11 = ((16 : Nat) : Int) := by decide +kernel
theorem d_M_walk_8 : decode c_M_walk 8 = .ok (.aload_n 0, 1) ∧ 8 + 1 = 9 := by decide +kernel
theorem d_M_walk_9 : decode c_M_walk 9 = .ok (.iload_n 2, 1) ∧ 9 + 1 = 10 := by decide +kernel
theorem d_M_walk_10 : decode c_M_walk 10 = .ok (.invokevirtual 240, 3) ∧ 10 + 3 = 13 := by decide +kernel
theorem d_M_walk_13 : decode c_M_walk 13 = .ok (.ifCond .eq 5, 3) ∧ 13 + 3 = 16 ∧ ((13 : Nat) : Int) + 5 = ((18 : Nat) : Int) := by decide +kernel
theorem d_M_walk_16 : decode c_M_walk 16 = .ok (.iconst (-1), 1) ∧ 16 + 1 = 17 := by decide +kernel
theorem d_M_walk_17 : decode c_M_walk 17 = .ok (.ireturn, 1) ∧ 17 + 1 = 18 := by decide +kernel
theorem d_M_walk_18 : decode c_M_walk 18 = .ok (.iload_n 3, 1) ∧ 18 + 1 = 19 := by decide +kernel
theorem d_M_walk_19 : decode c_M_walk 19 = .ok (.iload 4, 2) ∧ 19 + 2 = 21 := by decide +kernel
theorem d_M_walk_21 : decode c_M_walk 21 = .ok (.invokestatic 243, 3) ∧ 21 + 3 = 24 := by decide +kernel
theorem d_M_walk_24 : decode c_M_walk 24 = .ok (.ifCond .ne 6, 3) ∧ 24 + 3 = 27 ∧ ((24 : Nat) : Int) + 6 = ((30 : Nat) : Int) := by decide +kernel
theorem d_M_walk_27 : decode c_M_walk 27 = .ok (.bipush (-2), 2) ∧ 27 + 2 = 29 := by decide +kernel
theorem d_M_walk_29 : decode c_M_walk 29 = .ok (.ireturn, 1) ∧ 29 + 1 = 30 := by decide +kernel
theorem d_M_walk_30 : decode c_M_walk 30 = .ok (.iconst 0, 1) ∧ 30 + 1 = 31 := by decide +kernel
theorem d_M_walk_31 : decode c_M_walk 31 = .ok (.istore 5, 2) ∧ 31 + 2 = 33 := by decide +kernel
theorem d_M_walk_33 : decode c_M_walk 33 = .ok (.iload 5, 2) ∧ 33 + 2 = 35 := by decide +kernel
theorem d_M_walk_35 : decode c_M_walk 35 = .ok (.aload_n 0, 1) ∧ 35 + 1 = 36 := by decide +kernel
theorem d_M_walk_36 : decode c_M_walk 36 = .ok (.getfield 247, 3) ∧ 36 + 3 = 39 := by decide +kernel
theorem d_M_walk_39 : decode c_M_walk 39 = .ok (.if_icmp .ge 46, 3) ∧ 39 + 3 = 42 ∧ ((39 : Nat) : Int) + 46 = ((85 : Nat) : Int) := by decide +kernel
theorem d_M_walk_42 : decode c_M_walk 42 = .ok (.aload_n 0, 1) ∧ 42 + 1 = 43 := by decide +kernel
theorem d_M_walk_43 : decode c_M_walk 43 = .ok (.getfield 22, 3) ∧ 43 + 3 = 46 := by decide +kernel
theorem d_M_walk_46 : decode c_M_walk 46 = .ok (.iload 5, 2) ∧ 46 + 2 = 48 := by decide +kernel
theorem d_M_walk_48 : decode c_M_walk 48 = .ok (.iaload, 1) ∧ 48 + 1 = 49 := by decide +kernel
theorem d_M_walk_49 : decode c_M_walk 49 = .ok (.iload_n 1, 1) ∧ 49 + 1 = 50 := by decide +kernel
theorem d_M_walk_50 : decode c_M_walk 50 = .ok (.if_icmp .ne 29, 3) ∧ 50 + 3 = 53 ∧ ((50 : Nat) : Int) + 29 = ((79 : Nat) : Int) := by decide +kernel
theorem d_M_walk_53 : decode c_M_walk 53 = .ok (.iload_n 3, 1) ∧ 53 + 1 = 54 := by decide +kernel
theorem d_M_walk_54 : decode c_M_walk 54 = .ok (.aload_n 0, 1) ∧ 54 + 1 = 55 := by decide +kernel
theorem d_M_walk_55 : decode c_M_walk 55 = .ok (.getfield 31, 3) ∧ 55 + 3 = 58 := by decide +kernel
theorem d_M_walk_58 : decode c_M_walk 58 = .ok (.iload 5, 2) ∧ 58 + 2 = 60 := by decide +kernel
theorem d_M_walk_60 : decode c_M_walk 60 = .ok (.iaload, 1) ∧ 60 + 1 = 61 := by decide +kernel
theorem d_M_walk_61 : decode c_M_walk 61 = .ok (.if_icmp .gt 18, 3) ∧ 61 + 3 = 64 ∧ ((61 : Nat) : Int) + 18 = ((79 : Nat) : Int) := by decide +kernel
theorem d_M_walk_64 : decode c_M_walk 64 = .ok (.iload 4, 2) ∧ 64 + 2 = 66 := by decide +kernel
theorem d_M_walk_66 : decode c_M_walk 66 = .ok (.aload_n 0, 1) ∧ 66 + 1 = 67 := by decide +kernel
theorem d_M_walk_67 : decode c_M_walk 67 = .ok (.getfield 28, 3) ∧ 67 + 3 = 70 := by decide +kernel
theorem d_M_walk_70 : decode c_M_walk 70 = .ok (.iload 5, 2) ∧ 70 + 2 = 72 := by decide +kernel
theorem d_M_walk_72 : decode c_M_walk 72 = .ok (.iaload, 1) ∧ 72 + 1 = 73 := by decide +kernel
theorem d_M_walk_73 : decode c_M_walk 73 = .ok (.if_icmp .lt 6, 3) ∧ 73 + 3 = 76 ∧ ((73 : Nat) : Int) + 6 = ((79 : Nat) : Int) := by decide +kernel
theorem d_M_walk_76 : decode c_M_walk 76 = .ok (.bipush (-3), 2) ∧ 76 + 2 = 78 := by decide +kernel
theorem d_M_walk_78 : decode c_M_walk 78 = .ok (.ireturn, 1) ∧ 78 + 1 = 79 := by decide +kernel
theorem d_M_walk_79 : decode c_M_walk 79 = .ok (.iinc 5 1, 3) ∧ 79 + 3 = 82 := by decide +kernel
theorem d_M_walk_82 : decode c_M_walk 82 = .ok (.goto (-49), 3) ∧ (82 : Int) + (-49) = (33 : Int) := by decide +kernel
theorem d_M_walk_85 : decode c_M_walk 85 = .ok (.aload_n 0, 1) ∧ 85 + 1 = 86 := by decide +kernel
theorem d_M_walk_86 : decode c_M_walk 86 = .ok (.getfield 247, 3) ∧ 86 + 3 = 89 := by decide +kernel
theorem d_M_walk_89 : decode c_M_walk 89 = .ok (.bipush 40, 2) ∧ 89 + 2 = 91 := by decide +kernel
theorem d_M_walk_91 : decode c_M_walk 91 = .ok (.if_icmp .ne 6, 3) ∧ 91 + 3 = 94 ∧ ((91 : Nat) : Int) + 6 = ((97 : Nat) : Int) := by decide +kernel
theorem d_M_walk_94 : decode c_M_walk 94 = .ok (.bipush (-4), 2) ∧ 94 + 2 = 96 := by decide +kernel
theorem d_M_walk_96 : decode c_M_walk 96 = .ok (.ireturn, 1) ∧ 96 + 1 = 97 := by decide +kernel
theorem d_M_walk_97 : decode c_M_walk 97 = .ok (.aload_n 0, 1) ∧ 97 + 1 = 98 := by decide +kernel
theorem d_M_walk_98 : decode c_M_walk 98 = .ok (.getfield 22, 3) ∧ 98 + 3 = 101 := by decide +kernel
theorem d_M_walk_101 : decode c_M_walk 101 = .ok (.aload_n 0, 1) ∧ 101 + 1 = 102 := by decide +kernel
theorem d_M_walk_102 : decode c_M_walk 102 = .ok (.getfield 247, 3) ∧ 102 + 3 = 105 := by decide +kernel
theorem d_M_walk_105 : decode c_M_walk 105 = .ok (.iload_n 1, 1) ∧ 105 + 1 = 106 := by decide +kernel
theorem d_M_walk_106 : decode c_M_walk 106 = .ok (.iastore, 1) ∧ 106 + 1 = 107 := by decide +kernel
theorem d_M_walk_107 : decode c_M_walk 107 = .ok (.aload_n 0, 1) ∧ 107 + 1 = 108 := by decide +kernel
theorem d_M_walk_108 : decode c_M_walk 108 = .ok (.getfield 25, 3) ∧ 108 + 3 = 111 := by decide +kernel
theorem d_M_walk_111 : decode c_M_walk 111 = .ok (.aload_n 0, 1) ∧ 111 + 1 = 112 := by decide +kernel
theorem d_M_walk_112 : decode c_M_walk 112 = .ok (.getfield 247, 3) ∧ 112 + 3 = 115 := by decide +kernel
theorem d_M_walk_115 : decode c_M_walk 115 = .ok (.iload_n 2, 1) ∧ 115 + 1 = 116 := by decide +kernel
theorem d_M_walk_116 : decode c_M_walk 116 = .ok (.iastore, 1) ∧ 116 + 1 = 117 := by decide +kernel
theorem d_M_walk_117 : decode c_M_walk 117 = .ok (.aload_n 0, 1) ∧ 117 + 1 = 118 := by decide +kernel
theorem d_M_walk_118 : decode c_M_walk 118 = .ok (.getfield 28, 3) ∧ 118 + 3 = 121 := by decide +kernel
theorem d_M_walk_121 : decode c_M_walk 121 = .ok (.aload_n 0, 1) ∧ 121 + 1 = 122 := by decide +kernel
theorem d_M_walk_122 : decode c_M_walk 122 = .ok (.getfield 247, 3) ∧ 122 + 3 = 125 := by decide +kernel
theorem d_M_walk_125 : decode c_M_walk 125 = .ok (.iload_n 3, 1) ∧ 125 + 1 = 126 := by decide +kernel
theorem d_M_walk_126 : decode c_M_walk 126 = .ok (.iastore, 1) ∧ 126 + 1 = 127 := by decide +kernel
theorem d_M_walk_127 : decode c_M_walk 127 = .ok (.aload_n 0, 1) ∧ 127 + 1 = 128 := by decide +kernel
theorem d_M_walk_128 : decode c_M_walk 128 = .ok (.getfield 31, 3) ∧ 128 + 3 = 131 := by decide +kernel
theorem d_M_walk_131 : decode c_M_walk 131 = .ok (.aload_n 0, 1) ∧ 131 + 1 = 132 := by decide +kernel
theorem d_M_walk_132 : decode c_M_walk 132 = .ok (.getfield 247, 3) ∧ 132 + 3 = 135 := by decide +kernel
theorem d_M_walk_135 : decode c_M_walk 135 = .ok (.iload 4, 2) ∧ 135 + 2 = 137 := by decide +kernel
theorem d_M_walk_137 : decode c_M_walk 137 = .ok (.iastore, 1) ∧ 137 + 1 = 138 := by decide +kernel
theorem d_M_walk_138 : decode c_M_walk 138 = .ok (.aload_n 0, 1) ∧ 138 + 1 = 139 := by decide +kernel
theorem d_M_walk_139 : decode c_M_walk 139 = .ok (.dup, 1) ∧ 139 + 1 = 140 := by decide +kernel
theorem d_M_walk_140 : decode c_M_walk 140 = .ok (.getfield 247, 3) ∧ 140 + 3 = 143 := by decide +kernel
theorem d_M_walk_143 : decode c_M_walk 143 = .ok (.iconst 1, 1) ∧ 143 + 1 = 144 := by decide +kernel
theorem d_M_walk_144 : decode c_M_walk 144 = .ok (.iadd, 1) ∧ 144 + 1 = 145 := by decide +kernel
theorem d_M_walk_145 : decode c_M_walk 145 = .ok (.putfield 247, 3) ∧ 145 + 3 = 148 := by decide +kernel
theorem d_M_walk_148 : decode c_M_walk 148 = .ok (.aload_n 0, 1) ∧ 148 + 1 = 149 := by decide +kernel
theorem d_M_walk_149 : decode c_M_walk 149 = .ok (.getfield 247, 3) ∧ 149 + 3 = 152 := by decide +kernel
theorem d_M_walk_152 : decode c_M_walk 152 = .ok (.ireturn, 1) ∧ 152 + 1 = 153 := by decide +kernel
set_option maxHeartbeats 4000000 in
theorem w_M_walk_L33 {Z : Sy} {Γ : Nat → List (Nat × Value) → List Value → St → Prop} {res : (Int32 × St)} {x1 : Int32} {x2 : Int32} {x3 : Int32} {x4 : Int32} {σ : St} (h : IsG YM Z R_M c_M_walk 6 4 (some .int) (some (.int res.1)) res.2 Γ) : ∀ (n : Nat) (x5 : Int32), M_walk_L33 x1 x2 x3 x4 σ n x5 = some res → Γ 33 [(0, .ref (ya Z 0)), (1, .int x1), (2, .int x2), (3, .int x3), (4, .int x4), (5, .int x5)] [] σ := by
  intro n
  induction n with
  | zero => intro x5 hf; exact absurd hf (by simp [M_walk_L33])
  | succ n ih =>
    intro x5 hf
    rw [M_walk_L33] at hf
    refine r_iload h d_M_walk_33 5 rfl ?_
    refine r_aload_n h d_M_walk_35 0 rfl rfl ?_
    refine r_getI h fd_YM_0_8 cf_M fl_M_247 d_M_walk_36 ?_
    refine r_icmp_ge h d_M_walk_39 hf (fun hf => ?_) (fun hf => ?_)
    · refine r_aload_n h d_M_walk_85 0 rfl rfl ?_
      refine r_getI h fd_YM_0_8 cf_M fl_M_247 d_M_walk_86 ?_
      refine r_bipush h d_M_walk_89 kb_40 ?_
      refine r_icmp_ne h d_M_walk_91 hf (fun hf => ?_) (fun hf => ?_)
      · refine r_aload_n h d_M_walk_97 0 rfl rfl ?_
        refine r_getR h fd_YM_0_9 cf_M fl_M_22 d_M_walk_98 ?_
        refine r_aload_n h d_M_walk_101 0 rfl rfl ?_
        refine r_getI h fd_YM_0_8 cf_M fl_M_247 d_M_walk_102 ?_
        refine r_iload_n h d_M_walk_105 1 rfl rfl ?_
        refine r_iast h sh_YM_5 d_M_walk_106 hf (fun hf => ?_)
        refine r_aload_n h d_M_walk_107 0 rfl rfl ?_
        refine r_getR h fd_YM_0_10 cf_M fl_M_25 d_M_walk_108 ?_
        refine r_aload_n h d_M_walk_111 0 rfl rfl ?_
        refine r_getIv (v := (σ.1 0 8)) h fd_YM_0_8 cf_M fl_M_247 d_M_walk_112 rfl ?_
        refine r_iload_n h d_M_walk_115 2 rfl rfl ?_
        refine r_iast h sh_YM_6 d_M_walk_116 hf (fun hf => ?_)
        refine r_aload_n h d_M_walk_117 0 rfl rfl ?_
        refine r_getR h fd_YM_0_11 cf_M fl_M_28 d_M_walk_118 ?_
        refine r_aload_n h d_M_walk_121 0 rfl rfl ?_
        refine r_getIv (v := (σ.1 0 8)) h fd_YM_0_8 cf_M fl_M_247 d_M_walk_122 rfl ?_
        refine r_iload_n h d_M_walk_125 3 rfl rfl ?_
        refine r_iast h sh_YM_7 d_M_walk_126 hf (fun hf => ?_)
        refine r_aload_n h d_M_walk_127 0 rfl rfl ?_
        refine r_getR h fd_YM_0_12 cf_M fl_M_31 d_M_walk_128 ?_
        refine r_aload_n h d_M_walk_131 0 rfl rfl ?_
        refine r_getIv (v := (σ.1 0 8)) h fd_YM_0_8 cf_M fl_M_247 d_M_walk_132 rfl ?_
        refine r_iload h d_M_walk_135 4 rfl ?_
        refine r_iast h sh_YM_8 d_M_walk_137 hf (fun hf => ?_)
        refine r_aload_n h d_M_walk_138 0 rfl rfl ?_
        refine r_dup h d_M_walk_139 rfl ?_
        refine r_getIv (v := (σ.1 0 8)) h fd_YM_0_8 cf_M fl_M_247 d_M_walk_140 rfl ?_
        refine r_iconst h d_M_walk_143 ki_1 ?_
        refine r_iadd h d_M_walk_144 ?_
        refine r_putI h fd_YM_0_8 cf_M fl_M_247 ⟨rfl, rfl⟩ d_M_walk_145 ?_
        refine r_aload_n h d_M_walk_148 0 rfl rfl ?_
        refine r_getIv (v := ((σ.1 0 8) + (1 : Int32))) h fd_YM_0_8 cf_M fl_M_247 d_M_walk_149 rfl ?_
        exact r_ireturn h d_M_walk_152.1 (q_p1 hf) (q_p2 hf)
      · refine r_bipush h d_M_walk_94 kb_m4 ?_
        exact r_ireturn h d_M_walk_96.1 (q_p1 hf) (q_p2 hf)
    · refine r_aload_n h d_M_walk_42 0 rfl rfl ?_
      refine r_getR h fd_YM_0_9 cf_M fl_M_22 d_M_walk_43 ?_
      refine r_iload h d_M_walk_46 5 rfl ?_
      refine r_iald h sh_YM_5 d_M_walk_48 hf (fun hf => ?_)
      refine r_iload_n h d_M_walk_49 1 rfl rfl ?_
      refine r_icmp_ne h d_M_walk_50 hf (fun hf => ?_) (fun hf => ?_)
      · refine r_iinc (ls' := [(5, .int (x5 + (1 : Int32))), (0, .ref (ya Z 0)), (1, .int x1), (2, .int x2), (3, .int x3), (4, .int x4)]) h d_M_walk_79 5 rfl ki_1 (by decide) rfl ?_
        refine r_goto h d_M_walk_82 ?_
        refine r_sub h [1, 2, 3, 4, 5, 0] rfl ?_
        exact ih _ hf
      · refine r_iload_n h d_M_walk_53 3 rfl rfl ?_
        refine r_aload_n h d_M_walk_54 0 rfl rfl ?_
        refine r_getR h fd_YM_0_12 cf_M fl_M_31 d_M_walk_55 ?_
        refine r_iload h d_M_walk_58 5 rfl ?_
        refine r_iald h sh_YM_8 d_M_walk_60 hf (fun hf => ?_)
        refine r_icmp_gt h d_M_walk_61 hf (fun hf => ?_) (fun hf => ?_)
        · refine r_iinc (ls' := [(5, .int (x5 + (1 : Int32))), (0, .ref (ya Z 0)), (1, .int x1), (2, .int x2), (3, .int x3), (4, .int x4)]) h d_M_walk_79 5 rfl ki_1 (by decide) rfl ?_
          refine r_goto h d_M_walk_82 ?_
          refine r_sub h [1, 2, 3, 4, 5, 0] rfl ?_
          exact ih _ hf
        · refine r_iload h d_M_walk_64 4 rfl ?_
          refine r_aload_n h d_M_walk_66 0 rfl rfl ?_
          refine r_getR h fd_YM_0_11 cf_M fl_M_28 d_M_walk_67 ?_
          refine r_iload h d_M_walk_70 5 rfl ?_
          refine r_iald h sh_YM_7 d_M_walk_72 hf (fun hf => ?_)
          refine r_icmp_lt h d_M_walk_73 hf (fun hf => ?_) (fun hf => ?_)
          · refine r_iinc (ls' := [(5, .int (x5 + (1 : Int32))), (0, .ref (ya Z 0)), (1, .int x1), (2, .int x2), (3, .int x3), (4, .int x4)]) h d_M_walk_79 5 rfl ki_1 (by decide) rfl ?_
            refine r_goto h d_M_walk_82 ?_
            refine r_sub h [1, 2, 3, 4, 5, 0] rfl ?_
            exact ih _ hf
          · refine r_bipush h d_M_walk_76 kb_m3 ?_
            exact r_ireturn h d_M_walk_78.1 (q_p1 hf) (q_p2 hf)

set_option maxHeartbeats 4000000 in
theorem m_M_walk {Z : Sy} {σ : St} {res : (Int32 × St)} {x1 : Int32} {x2 : Int32} {x3 : Int32} {x4 : Int32} (hf : M_walk x1 x2 x3 x4 σ = some res) : Ct YM Z y_M_walk c_M_walk 6 (some .int) 4 [.ref (ya Z 0), .int x1, .int x2, .int x3, .int x4] σ (some (.int res.1)) res.2 := by
  refine Ct.of pn_M (Nat.le_of_ble_eq_true rfl) rfl (fun Γ h => ?_)
  have h : IsG YM Z R_M c_M_walk 6 4 (some .int) (some (.int res.1)) res.2 Γ := h
  unfold M_walk at hf
  refine r_aload_n h d_M_walk_0 0 rfl rfl ?_
  refine r_iload_n h d_M_walk_1 1 rfl rfl ?_
  obtain ⟨r2, e2, hf⟩ := q_bind hf
  refine r_callV (As := [.int x1]) (rest := []) h sh_YM_0 lk_M_237 vk_M_237 d_M_walk_2 (by decide) rfl rfl (Nat.le_of_ble_eq_true rfl) (m_M_noBand e2) ?_
  refine r_bif_ne h d_M_walk_5 hf (fun hf => ?_) (fun hf => ?_)
  · refine r_iconst h d_M_walk_16 ki_m1 ?_
    exact r_ireturn h d_M_walk_17.1 (q_p1 hf) (q_p2 hf)
  · refine r_aload_n h d_M_walk_8 0 rfl rfl ?_
    refine r_iload_n h d_M_walk_9 2 rfl rfl ?_
    obtain ⟨r10, e10, hf⟩ := q_bind hf
    refine r_callV (As := [.int x2]) (rest := []) h sh_YM_0 lk_M_240 vk_M_240 d_M_walk_10 (by decide) rfl rfl (Nat.le_of_ble_eq_true rfl) (m_M_noPlace e10) ?_
    refine r_bif_eq h d_M_walk_13 hf (fun hf => ?_) (fun hf => ?_)
    · refine r_iload_n h d_M_walk_18 3 rfl rfl ?_
      refine r_iload h d_M_walk_19 4 rfl ?_
      obtain ⟨r21, e21, hf⟩ := q_bind hf
      refine r_callS (As := [.int x3, .int x4]) (rest := []) h lk_M_243 sk_M_243 d_M_walk_21 (by decide) rfl rfl (Nat.le_of_ble_eq_true rfl) (m_M_areDays e21) ?_
      refine r_bif_ne h d_M_walk_24 hf (fun hf => ?_) (fun hf => ?_)
      · refine r_iconst h d_M_walk_30 ki_0 ?_
        refine r_istore (ls' := [(5, .int (0 : Int32)), (0, .ref (ya Z 0)), (1, .int x1), (2, .int x2), (3, .int x3), (4, .int x4)]) h d_M_walk_31 (by decide) rfl ?_
        refine r_sub h [1, 2, 3, 4, 5, 0] rfl ?_
        exact w_M_walk_L33 h _ _ hf
      · refine r_bipush h d_M_walk_27 kb_m2 ?_
        exact r_ireturn h d_M_walk_29.1 (q_p1 hf) (q_p2 hf)
    · refine r_iconst h d_M_walk_16 ki_m1 ?_
      exact r_ireturn h d_M_walk_17.1 (q_p1 hf) (q_p2 hf)

theorem d_M_placeAt_0 : decode c_M_placeAt 0 = .ok (.iconst 0, 1) ∧ 0 + 1 = 1 := by decide +kernel
theorem d_M_placeAt_1 : decode c_M_placeAt 1 = .ok (.istore_n 3, 1) ∧ 1 + 1 = 2 := by decide +kernel
theorem d_M_placeAt_2 : decode c_M_placeAt 2 = .ok (.iload_n 3, 1) ∧ 2 + 1 = 3 := by decide +kernel
theorem d_M_placeAt_3 : decode c_M_placeAt 3 = .ok (.aload_n 0, 1) ∧ 3 + 1 = 4 := by decide +kernel
theorem d_M_placeAt_4 : decode c_M_placeAt 4 = .ok (.getfield 247, 3) ∧ 4 + 3 = 7 := by decide +kernel
theorem d_M_placeAt_7 : decode c_M_placeAt 7 = .ok (.if_icmp .ge 48, 3) ∧ 7 + 3 = 10 ∧ ((7 : Nat) : Int) + 48 = ((55 : Nat) : Int) := by decide +kernel
theorem d_M_placeAt_10 : decode c_M_placeAt 10 = .ok (.aload_n 0, 1) ∧ 10 + 1 = 11 := by decide +kernel
theorem d_M_placeAt_11 : decode c_M_placeAt 11 = .ok (.getfield 22, 3) ∧ 11 + 3 = 14 := by decide +kernel
theorem d_M_placeAt_14 : decode c_M_placeAt 14 = .ok (.iload_n 3, 1) ∧ 14 + 1 = 15 := by decide +kernel
theorem d_M_placeAt_15 : decode c_M_placeAt 15 = .ok (.iaload, 1) ∧ 15 + 1 = 16 := by decide +kernel
theorem d_M_placeAt_16 : decode c_M_placeAt 16 = .ok (.iload_n 1, 1) ∧ 16 + 1 = 17 := by decide +kernel
theorem d_M_placeAt_17 : decode c_M_placeAt 17 = .ok (.if_icmp .ne 32, 3) ∧ 17 + 3 = 20 ∧ ((17 : Nat) : Int) + 32 = ((49 : Nat) : Int) := by decide +kernel
theorem d_M_placeAt_20 : decode c_M_placeAt 20 = .ok (.iload_n 2, 1) ∧ 20 + 1 = 21 := by decide +kernel
theorem d_M_placeAt_21 : decode c_M_placeAt 21 = .ok (.i2l, 1) ∧ 21 + 1 = 22 := by decide +kernel
theorem d_M_placeAt_22 : decode c_M_placeAt 22 = .ok (.aload_n 0, 1) ∧ 22 + 1 = 23 := by decide +kernel
theorem d_M_placeAt_23 : decode c_M_placeAt 23 = .ok (.getfield 28, 3) ∧ 23 + 3 = 26 := by decide +kernel
theorem d_M_placeAt_26 : decode c_M_placeAt 26 = .ok (.iload_n 3, 1) ∧ 26 + 1 = 27 := by decide +kernel
theorem d_M_placeAt_27 : decode c_M_placeAt 27 = .ok (.iaload, 1) ∧ 27 + 1 = 28 := by decide +kernel
theorem d_M_placeAt_28 : decode c_M_placeAt 28 = .ok (.i2l, 1) ∧ 28 + 1 = 29 := by decide +kernel
theorem d_M_placeAt_29 : decode c_M_placeAt 29 = .ok (.aload_n 0, 1) ∧ 29 + 1 = 30 := by decide +kernel
theorem d_M_placeAt_30 : decode c_M_placeAt 30 = .ok (.getfield 31, 3) ∧ 30 + 3 = 33 := by decide +kernel
theorem d_M_placeAt_33 : decode c_M_placeAt 33 = .ok (.iload_n 3, 1) ∧ 33 + 1 = 34 := by decide +kernel
theorem d_M_placeAt_34 : decode c_M_placeAt 34 = .ok (.iaload, 1) ∧ 34 + 1 = 35 := by decide +kernel
theorem d_M_placeAt_35 : decode c_M_placeAt 35 = .ok (.i2l, 1) ∧ 35 + 1 = 36 := by decide +kernel
theorem d_M_placeAt_36 : decode c_M_placeAt 36 = .ok (.invokestatic 201, 3) ∧ 36 + 3 = 39 := by decide +kernel
theorem d_M_placeAt_39 : decode c_M_placeAt 39 = .ok (.ifCond .eq 10, 3) ∧ 39 + 3 = 42 ∧ ((39 : Nat) : Int) + 10 = ((49 : Nat) : Int) := by decide +kernel
theorem d_M_placeAt_42 : decode c_M_placeAt 42 = .ok (.aload_n 0, 1) ∧ 42 + 1 = 43 := by decide +kernel
theorem d_M_placeAt_43 : decode c_M_placeAt 43 = .ok (.getfield 25, 3) ∧ 43 + 3 = 46 := by decide +kernel
theorem d_M_placeAt_46 : decode c_M_placeAt 46 = .ok (.iload_n 3, 1) ∧ 46 + 1 = 47 := by decide +kernel
theorem d_M_placeAt_47 : decode c_M_placeAt 47 = .ok (.iaload, 1) ∧ 47 + 1 = 48 := by decide +kernel
theorem d_M_placeAt_48 : decode c_M_placeAt 48 = .ok (.ireturn, 1) ∧ 48 + 1 = 49 := by decide +kernel
theorem d_M_placeAt_49 : decode c_M_placeAt 49 = .ok (.iinc 3 1, 3) ∧ 49 + 3 = 52 := by decide +kernel
theorem d_M_placeAt_52 : decode c_M_placeAt 52 = .ok (.goto (-50), 3) ∧ (52 : Int) + (-50) = (2 : Int) := by decide +kernel
theorem d_M_placeAt_55 : decode c_M_placeAt 55 = .ok (.bipush (-9), 2) ∧ 55 + 2 = 57 := by decide +kernel
theorem d_M_placeAt_57 : decode c_M_placeAt 57 = .ok (.ireturn, 1) ∧ 57 + 1 = 58 := by decide +kernel
set_option maxHeartbeats 4000000 in
theorem w_M_placeAt_L2 {Z : Sy} {Γ : Nat → List (Nat × Value) → List Value → St → Prop} {res : Int32} {x1 : Int32} {x2 : Int32} {σ : St} (h : IsG YM Z R_M c_M_placeAt 4 2 (some .int) (some (.int res)) σ Γ) : ∀ (n : Nat) (x3 : Int32), M_placeAt_L2 x1 x2 σ n x3 = some res → Γ 2 [(0, .ref (ya Z 0)), (1, .int x1), (2, .int x2), (3, .int x3)] [] σ := by
  intro n
  induction n with
  | zero => intro x3 hf; exact absurd hf (by simp [M_placeAt_L2])
  | succ n ih =>
    intro x3 hf
    rw [M_placeAt_L2] at hf
    refine r_iload_n h d_M_placeAt_2 3 rfl rfl ?_
    refine r_aload_n h d_M_placeAt_3 0 rfl rfl ?_
    refine r_getI h fd_YM_0_8 cf_M fl_M_247 d_M_placeAt_4 ?_
    refine r_icmp_ge h d_M_placeAt_7 hf (fun hf => ?_) (fun hf => ?_)
    · refine r_bipush h d_M_placeAt_55 kb_m9 ?_
      exact r_ireturn h d_M_placeAt_57.1 (Option.some.inj hf) rfl
    · refine r_aload_n h d_M_placeAt_10 0 rfl rfl ?_
      refine r_getR h fd_YM_0_9 cf_M fl_M_22 d_M_placeAt_11 ?_
      refine r_iload_n h d_M_placeAt_14 3 rfl rfl ?_
      refine r_iald h sh_YM_5 d_M_placeAt_15 hf (fun hf => ?_)
      refine r_iload_n h d_M_placeAt_16 1 rfl rfl ?_
      refine r_icmp_ne h d_M_placeAt_17 hf (fun hf => ?_) (fun hf => ?_)
      · refine r_iinc (ls' := [(3, .int (x3 + (1 : Int32))), (0, .ref (ya Z 0)), (1, .int x1), (2, .int x2)]) h d_M_placeAt_49 3 rfl ki_1 (by decide) rfl ?_
        refine r_goto h d_M_placeAt_52 ?_
        refine r_sub h [1, 2, 3, 0] rfl ?_
        exact ih _ hf
      · refine r_iload_n h d_M_placeAt_20 2 rfl rfl ?_
        refine r_i2l h d_M_placeAt_21 ?_
        refine r_aload_n h d_M_placeAt_22 0 rfl rfl ?_
        refine r_getR h fd_YM_0_11 cf_M fl_M_28 d_M_placeAt_23 ?_
        refine r_iload_n h d_M_placeAt_26 3 rfl rfl ?_
        refine r_iald h sh_YM_7 d_M_placeAt_27 hf (fun hf => ?_)
        refine r_i2l h d_M_placeAt_28 ?_
        refine r_aload_n h d_M_placeAt_29 0 rfl rfl ?_
        refine r_getR h fd_YM_0_12 cf_M fl_M_31 d_M_placeAt_30 ?_
        refine r_iload_n h d_M_placeAt_33 3 rfl rfl ?_
        refine r_iald h sh_YM_8 d_M_placeAt_34 hf (fun hf => ?_)
        refine r_i2l h d_M_placeAt_35 ?_
        obtain ⟨r36, e36, hf⟩ := q_bind hf
        refine r_callS (As := [.long (Int32.toInt64 x2), .long (Int32.toInt64 (σ.1 7 (Int32.toNatClampNeg x3))), .long (Int32.toInt64 (σ.1 8 (Int32.toNatClampNeg x3)))]) (rest := []) h lk_M_201 sk_M_201 d_M_placeAt_36 (by decide) rfl rfl (Nat.le_of_ble_eq_true rfl) (m_M_in e36) ?_
        refine r_bif_eq h d_M_placeAt_39 hf (fun hf => ?_) (fun hf => ?_)
        · refine r_iinc (ls' := [(3, .int (x3 + (1 : Int32))), (0, .ref (ya Z 0)), (1, .int x1), (2, .int x2)]) h d_M_placeAt_49 3 rfl ki_1 (by decide) rfl ?_
          refine r_goto h d_M_placeAt_52 ?_
          refine r_sub h [1, 2, 3, 0] rfl ?_
          exact ih _ hf
        · refine r_aload_n h d_M_placeAt_42 0 rfl rfl ?_
          refine r_getR h fd_YM_0_10 cf_M fl_M_25 d_M_placeAt_43 ?_
          refine r_iload_n h d_M_placeAt_46 3 rfl rfl ?_
          refine r_iald h sh_YM_6 d_M_placeAt_47 hf (fun hf => ?_)
          exact r_ireturn h d_M_placeAt_48.1 (Option.some.inj hf) rfl

set_option maxHeartbeats 4000000 in
theorem m_M_placeAt {Z : Sy} {σ : St} {res : Int32} {x1 : Int32} {x2 : Int32} (hf : M_placeAt x1 x2 σ = some res) : Ct YM Z y_M_placeAt c_M_placeAt 4 (some .int) 2 [.ref (ya Z 0), .int x1, .int x2] σ (some (.int res)) σ := by
  refine Ct.of pn_M (Nat.le_of_ble_eq_true rfl) rfl (fun Γ h => ?_)
  have h : IsG YM Z R_M c_M_placeAt 4 2 (some .int) (some (.int res)) σ Γ := h
  unfold M_placeAt at hf
  refine r_iconst h d_M_placeAt_0 ki_0 ?_
  refine r_istore_n (ls' := [(3, .int (0 : Int32)), (0, .ref (ya Z 0)), (1, .int x1), (2, .int x2)]) h d_M_placeAt_1 rfl (by decide) rfl ?_
  refine r_sub h [1, 2, 3, 0] rfl ?_
  exact w_M_placeAt_L2 h _ _ hf

theorem d_M_day_0 : decode c_M_day 0 = .ok (.aload_n 0, 1) ∧ 0 + 1 = 1 := by decide +kernel
theorem d_M_day_1 : decode c_M_day 1 = .ok (.iload_n 1, 1) ∧ 1 + 1 = 2 := by decide +kernel
theorem d_M_day_2 : decode c_M_day 2 = .ok (.invokevirtual 237, 3) ∧ 2 + 3 = 5 := by decide +kernel
theorem d_M_day_5 : decode c_M_day 5 = .ok (.ifCond .eq 5, 3) ∧ 5 + 3 = 8 ∧ ((5 : Nat) : Int) + 5 = ((10 : Nat) : Int) := by decide +kernel
theorem d_M_day_8 : decode c_M_day 8 = .ok (.iconst (-1), 1) ∧ 8 + 1 = 9 := by decide +kernel
theorem d_M_day_9 : decode c_M_day 9 = .ok (.ireturn, 1) ∧ 9 + 1 = 10 := by decide +kernel
theorem d_M_day_10 : decode c_M_day 10 = .ok (.iload_n 2, 1) ∧ 10 + 1 = 11 := by decide +kernel
theorem d_M_day_11 : decode c_M_day 11 = .ok (.invokestatic 205, 3) ∧ 11 + 3 = 14 := by decide +kernel
theorem d_M_day_14 : decode c_M_day 14 = .ok (.ifCond .eq 12, 3) ∧ 14 + 3 = 17 ∧ ((14 : Nat) : Int) + 12 = ((26 : Nat) : Int) := by decide +kernel
theorem d_M_day_17 : decode c_M_day 17 = .ok (.aload_n 0, 1) ∧ 17 + 1 = 18 := by decide +kernel
theorem d_M_day_18 : decode c_M_day 18 = .ok (.iload_n 1, 1) ∧ 18 + 1 = 19 := by decide +kernel
theorem d_M_day_19 : decode c_M_day 19 = .ok (.iload_n 2, 1) ∧ 19 + 1 = 20 := by decide +kernel
theorem d_M_day_20 : decode c_M_day 20 = .ok (.invokevirtual 250, 3) ∧ 20 + 3 = 23 := by decide +kernel
theorem d_M_day_23 : decode c_M_day 23 = .ok (.goto 5, 3) ∧ (23 : Int) + 5 = (28 : Int) := by decide +kernel
theorem d_M_day_26 : decode c_M_day 26 = .ok (.bipush (-2), 2) ∧ 26 + 2 = 28 := by decide +kernel
theorem d_M_day_28 : decode c_M_day 28 = .ok (.ireturn, 1) ∧ 28 + 1 = 29 := by decide +kernel
set_option maxHeartbeats 4000000 in
theorem m_M_day {Z : Sy} {σ : St} {res : Int32} {x1 : Int32} {x2 : Int32} (hf : M_day x1 x2 σ = some res) : Ct YM Z y_M_day c_M_day 3 (some .int) 3 [.ref (ya Z 0), .int x1, .int x2] σ (some (.int res)) σ := by
  refine Ct.of pn_M (Nat.le_of_ble_eq_true rfl) rfl (fun Γ h => ?_)
  have h : IsG YM Z R_M c_M_day 3 3 (some .int) (some (.int res)) σ Γ := h
  unfold M_day at hf
  refine r_aload_n h d_M_day_0 0 rfl rfl ?_
  refine r_iload_n h d_M_day_1 1 rfl rfl ?_
  obtain ⟨r2, e2, hf⟩ := q_bind hf
  refine r_callV (As := [.int x1]) (rest := []) h sh_YM_0 lk_M_237 vk_M_237 d_M_day_2 (by decide) rfl rfl (Nat.le_of_ble_eq_true rfl) (m_M_noBand e2) ?_
  refine r_bif_eq h d_M_day_5 hf (fun hf => ?_) (fun hf => ?_)
  · refine r_iload_n h d_M_day_10 2 rfl rfl ?_
    obtain ⟨r11, e11, hf⟩ := q_bind hf
    refine r_callS (As := [.int x2]) (rest := []) h lk_M_205 sk_M_205 d_M_day_11 (by decide) rfl rfl (Nat.le_of_ble_eq_true rfl) (m_M_isDay e11) ?_
    refine r_bif_eq h d_M_day_14 hf (fun hf => ?_) (fun hf => ?_)
    · refine r_bipush h d_M_day_26 kb_m2 ?_
      exact r_ireturn h d_M_day_28.1 (Option.some.inj hf) rfl
    · refine r_aload_n h d_M_day_17 0 rfl rfl ?_
      refine r_iload_n h d_M_day_18 1 rfl rfl ?_
      refine r_iload_n h d_M_day_19 2 rfl rfl ?_
      obtain ⟨r20, e20, hf⟩ := q_bind hf
      refine r_callV (As := [.int x1, .int x2]) (rest := []) h sh_YM_0 lk_M_250 vk_M_250 d_M_day_20 (by decide) rfl rfl (Nat.le_of_ble_eq_true rfl) (m_M_placeAt e20) ?_
      refine r_goto h d_M_day_23 ?_
      exact r_ireturn h d_M_day_28.1 (Option.some.inj hf) rfl
  · refine r_iconst h d_M_day_8 ki_m1 ?_
    exact r_ireturn h d_M_day_9.1 (Option.some.inj hf) rfl

theorem d_M_greater_0 : decode c_M_greater 0 = .ok (.iload_n 0, 1) ∧ 0 + 1 = 1 := by decide +kernel
theorem d_M_greater_1 : decode c_M_greater 1 = .ok (.iload_n 1, 1) ∧ 1 + 1 = 2 := by decide +kernel
theorem d_M_greater_2 : decode c_M_greater 2 = .ok (.if_icmp .le 7, 3) ∧ 2 + 3 = 5 ∧ ((2 : Nat) : Int) + 7 = ((9 : Nat) : Int) := by decide +kernel
theorem d_M_greater_5 : decode c_M_greater 5 = .ok (.iload_n 0, 1) ∧ 5 + 1 = 6 := by decide +kernel
theorem d_M_greater_6 : decode c_M_greater 6 = .ok (.goto 4, 3) ∧ (6 : Int) + 4 = (10 : Int) := by decide +kernel
theorem d_M_greater_9 : decode c_M_greater 9 = .ok (.iload_n 1, 1) ∧ 9 + 1 = 10 := by decide +kernel
theorem d_M_greater_10 : decode c_M_greater 10 = .ok (.ireturn, 1) ∧ 10 + 1 = 11 := by decide +kernel
set_option maxHeartbeats 4000000 in
theorem m_M_greater {Z : Sy} {σ : St} {res : Int32} {x0 : Int32} {x1 : Int32} (hf : M_greater x0 x1 σ = some res) : Ct YM Z y_M_greater c_M_greater 2 (some .int) 1 [.int x0, .int x1] σ (some (.int res)) σ := by
  refine Ct.of pn_M (Nat.le_of_ble_eq_true rfl) rfl (fun Γ h => ?_)
  have h : IsG YM Z R_M c_M_greater 2 1 (some .int) (some (.int res)) σ Γ := h
  unfold M_greater at hf
  refine r_iload_n h d_M_greater_0 0 rfl rfl ?_
  refine r_iload_n h d_M_greater_1 1 rfl rfl ?_
  refine r_icmp_le h d_M_greater_2 hf (fun hf => ?_) (fun hf => ?_)
  · refine r_iload_n h d_M_greater_9 1 rfl rfl ?_
    exact r_ireturn h d_M_greater_10.1 (Option.some.inj hf) rfl
  · refine r_iload_n h d_M_greater_5 0 rfl rfl ?_
    refine r_goto h d_M_greater_6 ?_
    exact r_ireturn h d_M_greater_10.1 (Option.some.inj hf) rfl

theorem d_M_lesser_0 : decode c_M_lesser 0 = .ok (.iload_n 0, 1) ∧ 0 + 1 = 1 := by decide +kernel
theorem d_M_lesser_1 : decode c_M_lesser 1 = .ok (.iload_n 1, 1) ∧ 1 + 1 = 2 := by decide +kernel
theorem d_M_lesser_2 : decode c_M_lesser 2 = .ok (.if_icmp .ge 7, 3) ∧ 2 + 3 = 5 ∧ ((2 : Nat) : Int) + 7 = ((9 : Nat) : Int) := by decide +kernel
theorem d_M_lesser_5 : decode c_M_lesser 5 = .ok (.iload_n 0, 1) ∧ 5 + 1 = 6 := by decide +kernel
theorem d_M_lesser_6 : decode c_M_lesser 6 = .ok (.goto 4, 3) ∧ (6 : Int) + 4 = (10 : Int) := by decide +kernel
theorem d_M_lesser_9 : decode c_M_lesser 9 = .ok (.iload_n 1, 1) ∧ 9 + 1 = 10 := by decide +kernel
theorem d_M_lesser_10 : decode c_M_lesser 10 = .ok (.ireturn, 1) ∧ 10 + 1 = 11 := by decide +kernel
set_option maxHeartbeats 4000000 in
theorem m_M_lesser {Z : Sy} {σ : St} {res : Int32} {x0 : Int32} {x1 : Int32} (hf : M_lesser x0 x1 σ = some res) : Ct YM Z y_M_lesser c_M_lesser 2 (some .int) 1 [.int x0, .int x1] σ (some (.int res)) σ := by
  refine Ct.of pn_M (Nat.le_of_ble_eq_true rfl) rfl (fun Γ h => ?_)
  have h : IsG YM Z R_M c_M_lesser 2 1 (some .int) (some (.int res)) σ Γ := h
  unfold M_lesser at hf
  refine r_iload_n h d_M_lesser_0 0 rfl rfl ?_
  refine r_iload_n h d_M_lesser_1 1 rfl rfl ?_
  refine r_icmp_ge h d_M_lesser_2 hf (fun hf => ?_) (fun hf => ?_)
  · refine r_iload_n h d_M_lesser_9 1 rfl rfl ?_
    exact r_ireturn h d_M_lesser_10.1 (Option.some.inj hf) rfl
  · refine r_iload_n h d_M_lesser_5 0 rfl rfl ?_
    refine r_goto h d_M_lesser_6 ?_
    exact r_ireturn h d_M_lesser_10.1 (Option.some.inj hf) rfl

theorem d_M_meet_0 : decode c_M_meet 0 = .ok (.aload_n 0, 1) ∧ 0 + 1 = 1 := by decide +kernel
theorem d_M_meet_1 : decode c_M_meet 1 = .ok (.iload_n 1, 1) ∧ 1 + 1 = 2 := by decide +kernel
theorem d_M_meet_2 : decode c_M_meet 2 = .ok (.invokevirtual 237, 3) ∧ 2 + 3 = 5 := by decide +kernel
theorem d_M_meet_5 : decode c_M_meet 5 = .ok (.ifCond .ne 11, 3) ∧ 5 + 3 = 8 ∧ ((5 : Nat) : Int) + 11 = ((16 : Nat) : Int) := by decide +kernel
theorem d_M_meet_8 : decode c_M_meet 8 = .ok (.aload_n 0, 1) ∧ 8 + 1 = 9 := by decide +kernel
theorem d_M_meet_9 : decode c_M_meet 9 = .ok (.iload_n 2, 1) ∧ 9 + 1 = 10 := by decide +kernel
theorem d_M_meet_10 : decode c_M_meet 10 = .ok (.invokevirtual 237, 3) ∧ 10 + 3 = 13 := by decide +kernel
theorem d_M_meet_13 : decode c_M_meet 13 = .ok (.ifCond .eq 5, 3) ∧ 13 + 3 = 16 ∧ ((13 : Nat) : Int) + 5 = ((18 : Nat) : Int) := by decide +kernel
theorem d_M_meet_16 : decode c_M_meet 16 = .ok (.iconst (-1), 1) ∧ 16 + 1 = 17 := by decide +kernel
theorem d_M_meet_17 : decode c_M_meet 17 = .ok (.ireturn, 1) ∧ 17 + 1 = 18 := by decide +kernel
theorem d_M_meet_18 : decode c_M_meet 18 = .ok (.iload_n 3, 1) ∧ 18 + 1 = 19 := by decide +kernel
theorem d_M_meet_19 : decode c_M_meet 19 = .ok (.invokestatic 205, 3) ∧ 19 + 3 = 22 := by decide +kernel
theorem d_M_meet_22 : decode c_M_meet 22 = .ok (.ifCond .eq 8, 3) ∧ 22 + 3 = 25 ∧ ((22 : Nat) : Int) + 8 = ((30 : Nat) : Int) := by decide +kernel
theorem d_M_meet_25 : decode c_M_meet 25 = .ok (.iload_n 1, 1) ∧ 25 + 1 = 26 := by decide +kernel
theorem d_M_meet_26 : decode c_M_meet 26 = .ok (.iload_n 2, 1) ∧ 26 + 1 = 27 := by decide +kernel
theorem d_M_meet_27 : decode c_M_meet 27 = .ok (.if_icmp .ne 6, 3) ∧ 27 + 3 = 30 ∧ ((27 : Nat) : Int) + 6 = ((33 : Nat) : Int) := by decide +kernel
theorem d_M_meet_30 : decode c_M_meet 30 = .ok (.bipush (-2), 2) ∧ 30 + 2 = 32 := by decide +kernel
theorem d_M_meet_32 : decode c_M_meet 32 = .ok (.ireturn, 1) ∧ 32 + 1 = 33 := by decide +kernel
theorem d_M_meet_33 : decode c_M_meet 33 = .ok (.bipush (-9), 2) ∧ 33 + 2 = 35 := by decide +kernel
theorem d_M_meet_35 : decode c_M_meet 35 = .ok (.istore 4, 2) ∧ 35 + 2 = 37 := by decide +kernel
theorem d_M_meet_37 : decode c_M_meet 37 = .ok (.iconst 0, 1) ∧ 37 + 1 = 38 := by decide +kernel
theorem d_M_meet_38 : decode c_M_meet 38 = .ok (.istore 5, 2) ∧ 38 + 2 = 40 := by decide +kernel
theorem d_M_meet_40 : decode c_M_meet 40 = .ok (.iload 5, 2) ∧ 40 + 2 = 42 := by decide +kernel
theorem d_M_meet_42 : decode c_M_meet 42 = .ok (.aload_n 0, 1) ∧ 42 + 1 = 43 := by decide +kernel
theorem d_M_meet_43 : decode c_M_meet 43 = .ok (.getfield 247, 3) ∧ 43 + 3 = 46 := by decide +kernel
theorem d_M_meet_46 : decode c_M_meet 46 = .ok (.if_icmp .ge 144, 3) ∧ 46 + 3 = 49 ∧ ((46 : Nat) : Int) + 144 = ((190 : Nat) : Int) := by decide +kernel
theorem d_M_meet_49 : decode c_M_meet 49 = .ok (.iconst 0, 1) ∧ 49 + 1 = 50 := by decide +kernel
theorem d_M_meet_50 : decode c_M_meet 50 = .ok (.istore 6, 2) ∧ 50 + 2 = 52 := by decide +kernel
theorem d_M_meet_52 : decode c_M_meet 52 = .ok (.iload 6, 2) ∧ 52 + 2 = 54 := by decide +kernel
theorem d_M_meet_54 : decode c_M_meet 54 = .ok (.aload_n 0, 1) ∧ 54 + 1 = 55 := by decide +kernel
theorem d_M_meet_55 : decode c_M_meet 55 = .ok (.getfield 247, 3) ∧ 55 + 3 = 58 := by decide +kernel
theorem d_M_meet_58 : decode c_M_meet 58 = .ok (.if_icmp .ge 126, 3) ∧ 58 + 3 = 61 ∧ ((58 : Nat) : Int) + 126 = ((184 : Nat) : Int) := by decide +kernel
theorem d_M_meet_61 : decode c_M_meet 61 = .ok (.aload_n 0, 1) ∧ 61 + 1 = 62 := by decide +kernel
theorem d_M_meet_62 : decode c_M_meet 62 = .ok (.getfield 22, 3) ∧ 62 + 3 = 65 := by decide +kernel
theorem d_M_meet_65 : decode c_M_meet 65 = .ok (.iload 5, 2) ∧ 65 + 2 = 67 := by decide +kernel
theorem d_M_meet_67 : decode c_M_meet 67 = .ok (.iaload, 1) ∧ 67 + 1 = 68 := by decide +kernel
theorem d_M_meet_68 : decode c_M_meet 68 = .ok (.iload_n 1, 1) ∧ 68 + 1 = 69 := by decide +kernel
theorem d_M_meet_69 : decode c_M_meet 69 = .ok (.if_icmp .ne 109, 3) ∧ 69 + 3 = 72 ∧ ((69 : Nat) : Int) + 109 = ((178 : Nat) : Int) := by decide +kernel
theorem d_M_meet_72 : decode c_M_meet 72 = .ok (.aload_n 0, 1) ∧ 72 + 1 = 73 := by decide +kernel
theorem d_M_meet_73 : decode c_M_meet 73 = .ok (.getfield 22, 3) ∧ 73 + 3 = 76 := by decide +kernel
theorem d_M_meet_76 : decode c_M_meet 76 = .ok (.iload 6, 2) ∧ 76 + 2 = 78 := by decide +kernel
theorem d_M_meet_78 : decode c_M_meet 78 = .ok (.iaload, 1) ∧ 78 + 1 = 79 := by decide +kernel
theorem d_M_meet_79 : decode c_M_meet 79 = .ok (.iload_n 2, 1) ∧ 79 + 1 = 80 := by decide +kernel
theorem d_M_meet_80 : decode c_M_meet 80 = .ok (.if_icmp .ne 98, 3) ∧ 80 + 3 = 83 ∧ ((80 : Nat) : Int) + 98 = ((178 : Nat) : Int) := by decide +kernel
theorem d_M_meet_83 : decode c_M_meet 83 = .ok (.aload_n 0, 1) ∧ 83 + 1 = 84 := by decide +kernel
theorem d_M_meet_84 : decode c_M_meet 84 = .ok (.getfield 25, 3) ∧ 84 + 3 = 87 := by decide +kernel
theorem d_M_meet_87 : decode c_M_meet 87 = .ok (.iload 5, 2) ∧ 87 + 2 = 89 := by decide +kernel
theorem d_M_meet_89 : decode c_M_meet 89 = .ok (.iaload, 1) ∧ 89 + 1 = 90 := by decide +kernel
theorem d_M_meet_90 : decode c_M_meet 90 = .ok (.aload_n 0, 1) ∧ 90 + 1 = 91 := by decide +kernel
theorem d_M_meet_91 : decode c_M_meet 91 = .ok (.getfield 25, 3) ∧ 91 + 3 = 94 := by decide +kernel
theorem d_M_meet_94 : decode c_M_meet 94 = .ok (.iload 6, 2) ∧ 94 + 2 = 96 := by decide +kernel
theorem d_M_meet_96 : decode c_M_meet 96 = .ok (.iaload, 1) ∧ 96 + 1 = 97 := by decide +kernel
theorem d_M_meet_97 : decode c_M_meet 97 = .ok (.if_icmp .ne 81, 3) ∧ 97 + 3 = 100 ∧ ((97 : Nat) : Int) + 81 = ((178 : Nat) : Int) := by decide +kernel
theorem d_M_meet_100 : decode c_M_meet 100 = .ok (.iload_n 3, 1) ∧ 100 + 1 = 101 := by decide +kernel
theorem d_M_meet_101 : decode c_M_meet 101 = .ok (.aload_n 0, 1) ∧ 101 + 1 = 102 := by decide +kernel
theorem d_M_meet_102 : decode c_M_meet 102 = .ok (.getfield 28, 3) ∧ 102 + 3 = 105 := by decide +kernel
theorem d_M_meet_105 : decode c_M_meet 105 = .ok (.iload 5, 2) ∧ 105 + 2 = 107 := by decide +kernel
theorem d_M_meet_107 : decode c_M_meet 107 = .ok (.iaload, 1) ∧ 107 + 1 = 108 := by decide +kernel
theorem d_M_meet_108 : decode c_M_meet 108 = .ok (.aload_n 0, 1) ∧ 108 + 1 = 109 := by decide +kernel
theorem d_M_meet_109 : decode c_M_meet 109 = .ok (.getfield 28, 3) ∧ 109 + 3 = 112 := by decide +kernel
theorem d_M_meet_112 : decode c_M_meet 112 = .ok (.iload 6, 2) ∧ 112 + 2 = 114 := by decide +kernel
theorem d_M_meet_114 : decode c_M_meet 114 = .ok (.iaload, 1) ∧ 114 + 1 = 115 := by decide +kernel
theorem d_M_meet_115 : decode c_M_meet 115 = .ok (.invokestatic 254, 3) ∧ 115 + 3 = 118 := by decide +kernel
theorem d_M_meet_118 : decode c_M_meet 118 = .ok (.invokestatic 254, 3) ∧ 118 + 3 = 121 := by decide +kernel
theorem d_M_meet_121 : decode c_M_meet 121 = .ok (.istore 7, 2) ∧ 121 + 2 = 123 := by decide +kernel
theorem d_M_meet_123 : decode c_M_meet 123 = .ok (.iload 7, 2) ∧ 123 + 2 = 125 := by decide +kernel
theorem d_M_meet_125 : decode c_M_meet 125 = .ok (.aload_n 0, 1) ∧ 125 + 1 = 126 := by decide +kernel
theorem d_M_meet_126 : decode c_M_meet 126 = .ok (.getfield 31, 3) ∧ 126 + 3 = 129 := by decide +kernel
theorem d_M_meet_129 : decode c_M_meet 129 = .ok (.iload 5, 2) ∧ 129 + 2 = 131 := by decide +kernel
theorem d_M_meet_131 : decode c_M_meet 131 = .ok (.iaload, 1) ∧ 131 + 1 = 132 := by decide +kernel
theorem d_M_meet_132 : decode c_M_meet 132 = .ok (.aload_n 0, 1) ∧ 132 + 1 = 133 := by decide +kernel
theorem d_M_meet_133 : decode c_M_meet 133 = .ok (.getfield 31, 3) ∧ 133 + 3 = 136 := by decide +kernel
theorem d_M_meet_136 : decode c_M_meet 136 = .ok (.iload 6, 2) ∧ 136 + 2 = 138 := by decide +kernel
theorem d_M_meet_138 : decode c_M_meet 138 = .ok (.iaload, 1) ∧ 138 + 1 = 139 := by decide +kernel
theorem d_M_meet_139 : decode c_M_meet 139 = .ok (.invokestatic 257, 3) ∧ 139 + 3 = 142 := by decide +kernel
theorem d_M_meet_142 : decode c_M_meet 142 = .ok (.if_icmp .gt 7, 3) ∧ 142 + 3 = 145 ∧ ((142 : Nat) : Int) + 7 = ((149 : Nat) : Int) := by decide +kernel
theorem d_M_meet_145 : decode c_M_meet 145 = .ok (.iconst 1, 1) ∧ 145 + 1 = 146 := by decide +kernel
theorem d_M_meet_146 : decode c_M_meet 146 = .ok (.goto 4, 3) ∧ (146 : Int) + 4 = (150 : Int) := by decide +kernel
theorem d_M_meet_149 : decode c_M_meet 149 = .ok (.iconst 0, 1) ∧ 149 + 1 = 150 := by decide +kernel
theorem d_M_meet_150 : decode c_M_meet 150 = .ok (.istore 8, 2) ∧ 150 + 2 = 152 := by decide +kernel
theorem d_M_meet_152 : decode c_M_meet 152 = .ok (.iload 8, 2) ∧ 152 + 2 = 154 := by decide +kernel
theorem d_M_meet_154 : decode c_M_meet 154 = .ok (.ifCond .eq 20, 3) ∧ 154 + 3 = 157 ∧ ((154 : Nat) : Int) + 20 = ((174 : Nat) : Int) := by decide +kernel
theorem d_M_meet_157 : decode c_M_meet 157 = .ok (.iload 4, 2) ∧ 157 + 2 = 159 := by decide +kernel
theorem d_M_meet_159 : decode c_M_meet 159 = .ok (.ifCond .lt 10, 3) ∧ 159 + 3 = 162 ∧ ((159 : Nat) : Int) + 10 = ((169 : Nat) : Int) := by decide +kernel
theorem d_M_meet_162 : decode c_M_meet 162 = .ok (.iload 7, 2) ∧ 162 + 2 = 164 := by decide +kernel
theorem d_M_meet_164 : decode c_M_meet 164 = .ok (.iload 4, 2) ∧ 164 + 2 = 166 := by decide +kernel
theorem d_M_meet_166 : decode c_M_meet 166 = .ok (.if_icmp .ge 8, 3) ∧ 166 + 3 = 169 ∧ ((166 : Nat) : Int) + 8 = ((174 : Nat) : Int) := by decide +kernel
theorem d_M_meet_169 : decode c_M_meet 169 = .ok (.iload 7, 2) ∧ 169 + 2 = 171 := by decide +kernel
theorem d_M_meet_171 : decode c_M_meet 171 = .ok (.goto 5, 3) ∧ (171 : Int) + 5 = (176 : Int) := by decide +kernel
theorem d_M_meet_174 : decode c_M_meet 174 = .ok (.iload 4, 2) ∧ 174 + 2 = 176 := by decide +kernel
theorem d_M_meet_176 : decode c_M_meet 176 = .ok (.istore 4, 2) ∧ 176 + 2 = 178 := by decide +kernel
theorem d_M_meet_178 : decode c_M_meet 178 = .ok (.iinc 6 1, 3) ∧ 178 + 3 = 181 := by decide +kernel
theorem d_M_meet_181 : decode c_M_meet 181 = .ok (.goto (-129), 3) ∧ (181 : Int) + (-129) = (52 : Int) := by decide +kernel
theorem d_M_meet_184 : decode c_M_meet 184 = .ok (.iinc 5 1, 3) ∧ 184 + 3 = 187 := by decide +kernel
theorem d_M_meet_187 : decode c_M_meet 187 = .ok (.goto (-147), 3) ∧ (187 : Int) + (-147) = (40 : Int) := by decide +kernel
theorem d_M_meet_190 : decode c_M_meet 190 = .ok (.iload 4, 2) ∧ 190 + 2 = 192 := by decide +kernel
theorem d_M_meet_192 : decode c_M_meet 192 = .ok (.ireturn, 1) ∧ 192 + 1 = 193 := by decide +kernel
set_option maxHeartbeats 4000000 in
theorem w_M_meet_L52 {Z : Sy} {Γ : Nat → List (Nat × Value) → List Value → St → Prop} {res : Int32} {x1 : Int32} {x2 : Int32} {x3 : Int32} {x5 : Int32} {σ : St} {k40 : Int32 → Int32 → Option Int32} (h : IsG YM Z R_M c_M_meet 9 3 (some .int) (some (.int res)) σ Γ) (hk40 : ∀ (x4 : Int32) (x5 : Int32), k40 x4 x5 = some res → Γ 40 [(0, .ref (ya Z 0)), (1, .int x1), (2, .int x2), (3, .int x3), (4, .int x4), (5, .int x5)] [] σ) : ∀ (n : Nat) (x4 : Int32) (x6 : Int32), M_meet_L52 x1 x2 x3 x5 σ k40 n x4 x6 = some res → Γ 52 [(0, .ref (ya Z 0)), (1, .int x1), (2, .int x2), (3, .int x3), (4, .int x4), (5, .int x5), (6, .int x6)] [] σ := by
  intro n
  induction n with
  | zero => intro x4 x6 hf; exact absurd hf (by simp [M_meet_L52])
  | succ n ih =>
    intro x4 x6 hf
    rw [M_meet_L52] at hf
    refine r_iload h d_M_meet_52 6 rfl ?_
    refine r_aload_n h d_M_meet_54 0 rfl rfl ?_
    refine r_getI h fd_YM_0_8 cf_M fl_M_247 d_M_meet_55 ?_
    refine r_icmp_ge h d_M_meet_58 hf (fun hf => ?_) (fun hf => ?_)
    · refine r_iinc (ls' := [(5, .int (x5 + (1 : Int32))), (0, .ref (ya Z 0)), (1, .int x1), (2, .int x2), (3, .int x3), (4, .int x4), (6, .int x6)]) h d_M_meet_184 5 rfl ki_1 (by decide) rfl ?_
      refine r_goto h d_M_meet_187 ?_
      refine r_sub h [1, 2, 3, 4, 5, 0] rfl ?_
      exact hk40 _ _ hf
    · refine r_aload_n h d_M_meet_61 0 rfl rfl ?_
      refine r_getR h fd_YM_0_9 cf_M fl_M_22 d_M_meet_62 ?_
      refine r_iload h d_M_meet_65 5 rfl ?_
      refine r_iald h sh_YM_5 d_M_meet_67 hf (fun hf => ?_)
      refine r_iload_n h d_M_meet_68 1 rfl rfl ?_
      refine r_icmp_ne h d_M_meet_69 hf (fun hf => ?_) (fun hf => ?_)
      · refine r_iinc (ls' := [(6, .int (x6 + (1 : Int32))), (0, .ref (ya Z 0)), (1, .int x1), (2, .int x2), (3, .int x3), (4, .int x4), (5, .int x5)]) h d_M_meet_178 6 rfl ki_1 (by decide) rfl ?_
        refine r_goto h d_M_meet_181 ?_
        refine r_sub h [1, 2, 3, 4, 5, 6, 0] rfl ?_
        exact ih _ _ hf
      · refine r_aload_n h d_M_meet_72 0 rfl rfl ?_
        refine r_getR h fd_YM_0_9 cf_M fl_M_22 d_M_meet_73 ?_
        refine r_iload h d_M_meet_76 6 rfl ?_
        refine r_iald h sh_YM_5 d_M_meet_78 hf (fun hf => ?_)
        refine r_iload_n h d_M_meet_79 2 rfl rfl ?_
        refine r_icmp_ne h d_M_meet_80 hf (fun hf => ?_) (fun hf => ?_)
        · refine r_iinc (ls' := [(6, .int (x6 + (1 : Int32))), (0, .ref (ya Z 0)), (1, .int x1), (2, .int x2), (3, .int x3), (4, .int x4), (5, .int x5)]) h d_M_meet_178 6 rfl ki_1 (by decide) rfl ?_
          refine r_goto h d_M_meet_181 ?_
          refine r_sub h [1, 2, 3, 4, 5, 6, 0] rfl ?_
          exact ih _ _ hf
        · refine r_aload_n h d_M_meet_83 0 rfl rfl ?_
          refine r_getR h fd_YM_0_10 cf_M fl_M_25 d_M_meet_84 ?_
          refine r_iload h d_M_meet_87 5 rfl ?_
          refine r_iald h sh_YM_6 d_M_meet_89 hf (fun hf => ?_)
          refine r_aload_n h d_M_meet_90 0 rfl rfl ?_
          refine r_getR h fd_YM_0_10 cf_M fl_M_25 d_M_meet_91 ?_
          refine r_iload h d_M_meet_94 6 rfl ?_
          refine r_iald h sh_YM_6 d_M_meet_96 hf (fun hf => ?_)
          refine r_icmp_ne h d_M_meet_97 hf (fun hf => ?_) (fun hf => ?_)
          · refine r_iinc (ls' := [(6, .int (x6 + (1 : Int32))), (0, .ref (ya Z 0)), (1, .int x1), (2, .int x2), (3, .int x3), (4, .int x4), (5, .int x5)]) h d_M_meet_178 6 rfl ki_1 (by decide) rfl ?_
            refine r_goto h d_M_meet_181 ?_
            refine r_sub h [1, 2, 3, 4, 5, 6, 0] rfl ?_
            exact ih _ _ hf
          · refine r_iload_n h d_M_meet_100 3 rfl rfl ?_
            refine r_aload_n h d_M_meet_101 0 rfl rfl ?_
            refine r_getR h fd_YM_0_11 cf_M fl_M_28 d_M_meet_102 ?_
            refine r_iload h d_M_meet_105 5 rfl ?_
            refine r_iald h sh_YM_7 d_M_meet_107 hf (fun hf => ?_)
            refine r_aload_n h d_M_meet_108 0 rfl rfl ?_
            refine r_getR h fd_YM_0_11 cf_M fl_M_28 d_M_meet_109 ?_
            refine r_iload h d_M_meet_112 6 rfl ?_
            refine r_iald h sh_YM_7 d_M_meet_114 hf (fun hf => ?_)
            obtain ⟨r115, e115, hf⟩ := q_bind hf
            refine r_callS (As := [.int (σ.1 7 (Int32.toNatClampNeg x5)), .int (σ.1 7 (Int32.toNatClampNeg x6))]) (rest := [.int x3]) h lk_M_254 sk_M_254 d_M_meet_115 (by decide) rfl rfl (Nat.le_of_ble_eq_true rfl) (m_M_greater e115) ?_
            obtain ⟨r118, e118, hf⟩ := q_bind hf
            refine r_callS (As := [.int x3, .int r115]) (rest := []) h lk_M_254 sk_M_254 d_M_meet_118 (by decide) rfl rfl (Nat.le_of_ble_eq_true rfl) (m_M_greater e118) ?_
            refine r_istore (ls' := [(7, .int r118), (0, .ref (ya Z 0)), (1, .int x1), (2, .int x2), (3, .int x3), (4, .int x4), (5, .int x5), (6, .int x6)]) h d_M_meet_121 (by decide) rfl ?_
            refine r_iload h d_M_meet_123 0 rfl ?_
            refine r_aload_n h d_M_meet_125 1 rfl rfl ?_
            refine r_getR h fd_YM_0_12 cf_M fl_M_31 d_M_meet_126 ?_
            refine r_iload h d_M_meet_129 6 rfl ?_
            refine r_iald h sh_YM_8 d_M_meet_131 hf (fun hf => ?_)
            refine r_aload_n h d_M_meet_132 1 rfl rfl ?_
            refine r_getR h fd_YM_0_12 cf_M fl_M_31 d_M_meet_133 ?_
            refine r_iload h d_M_meet_136 7 rfl ?_
            refine r_iald h sh_YM_8 d_M_meet_138 hf (fun hf => ?_)
            obtain ⟨r139, e139, hf⟩ := q_bind hf
            refine r_callS (As := [.int (σ.1 8 (Int32.toNatClampNeg x5)), .int (σ.1 8 (Int32.toNatClampNeg x6))]) (rest := [.int r118]) h lk_M_257 sk_M_257 d_M_meet_139 (by decide) rfl rfl (Nat.le_of_ble_eq_true rfl) (m_M_lesser e139) ?_
            refine r_icmp_gt h d_M_meet_142 hf (fun hf => ?_) (fun hf => ?_)
            · refine r_iconst h d_M_meet_149 ki_0 ?_
              refine r_istore (ls' := [(8, .int (0 : Int32)), (7, .int r118), (0, .ref (ya Z 0)), (1, .int x1), (2, .int x2), (3, .int x3), (4, .int x4), (5, .int x5), (6, .int x6)]) h d_M_meet_150 (by decide) rfl ?_
              refine r_iload h d_M_meet_152 0 rfl ?_
              refine r_if_eq_T h d_M_meet_154 (by decide) ?_
              refine r_iload h d_M_meet_174 6 rfl ?_
              refine r_istore (ls' := [(4, .int x4), (8, .int (0 : Int32)), (7, .int r118), (0, .ref (ya Z 0)), (1, .int x1), (2, .int x2), (3, .int x3), (5, .int x5), (6, .int x6)]) h d_M_meet_176 (by decide) rfl ?_
              refine r_iinc (ls' := [(6, .int (x6 + (1 : Int32))), (4, .int x4), (8, .int (0 : Int32)), (7, .int r118), (0, .ref (ya Z 0)), (1, .int x1), (2, .int x2), (3, .int x3), (5, .int x5)]) h d_M_meet_178 8 rfl ki_1 (by decide) rfl ?_
              refine r_goto h d_M_meet_181 ?_
              refine r_sub h [4, 5, 6, 7, 1, 8, 0] rfl ?_
              exact ih _ _ hf
            · refine r_iconst h d_M_meet_145 ki_1 ?_
              refine r_goto h d_M_meet_146 ?_
              refine r_istore (ls' := [(8, .int (1 : Int32)), (7, .int r118), (0, .ref (ya Z 0)), (1, .int x1), (2, .int x2), (3, .int x3), (4, .int x4), (5, .int x5), (6, .int x6)]) h d_M_meet_150 (by decide) rfl ?_
              refine r_iload h d_M_meet_152 0 rfl ?_
              refine r_if_eq_F h d_M_meet_154 (by decide) ?_
              refine r_iload h d_M_meet_157 6 rfl ?_
              refine r_if_lt h d_M_meet_159 hf (fun hf => ?_) (fun hf => ?_)
              · refine r_iload h d_M_meet_169 1 rfl ?_
                refine r_goto h d_M_meet_171 ?_
                refine r_istore (ls' := [(4, .int r118), (8, .int (1 : Int32)), (7, .int r118), (0, .ref (ya Z 0)), (1, .int x1), (2, .int x2), (3, .int x3), (5, .int x5), (6, .int x6)]) h d_M_meet_176 (by decide) rfl ?_
                refine r_iinc (ls' := [(6, .int (x6 + (1 : Int32))), (4, .int r118), (8, .int (1 : Int32)), (7, .int r118), (0, .ref (ya Z 0)), (1, .int x1), (2, .int x2), (3, .int x3), (5, .int x5)]) h d_M_meet_178 8 rfl ki_1 (by decide) rfl ?_
                refine r_goto h d_M_meet_181 ?_
                refine r_sub h [4, 5, 6, 7, 1, 8, 0] rfl ?_
                exact ih _ _ hf
              · refine r_iload h d_M_meet_162 1 rfl ?_
                refine r_iload h d_M_meet_164 6 rfl ?_
                refine r_icmp_ge h d_M_meet_166 hf (fun hf => ?_) (fun hf => ?_)
                · refine r_iload h d_M_meet_174 6 rfl ?_
                  refine r_istore (ls' := [(4, .int x4), (8, .int (1 : Int32)), (7, .int r118), (0, .ref (ya Z 0)), (1, .int x1), (2, .int x2), (3, .int x3), (5, .int x5), (6, .int x6)]) h d_M_meet_176 (by decide) rfl ?_
                  refine r_iinc (ls' := [(6, .int (x6 + (1 : Int32))), (4, .int x4), (8, .int (1 : Int32)), (7, .int r118), (0, .ref (ya Z 0)), (1, .int x1), (2, .int x2), (3, .int x3), (5, .int x5)]) h d_M_meet_178 8 rfl ki_1 (by decide) rfl ?_
                  refine r_goto h d_M_meet_181 ?_
                  refine r_sub h [4, 5, 6, 7, 1, 8, 0] rfl ?_
                  exact ih _ _ hf
                · refine r_iload h d_M_meet_169 1 rfl ?_
                  refine r_goto h d_M_meet_171 ?_
                  refine r_istore (ls' := [(4, .int r118), (8, .int (1 : Int32)), (7, .int r118), (0, .ref (ya Z 0)), (1, .int x1), (2, .int x2), (3, .int x3), (5, .int x5), (6, .int x6)]) h d_M_meet_176 (by decide) rfl ?_
                  refine r_iinc (ls' := [(6, .int (x6 + (1 : Int32))), (4, .int r118), (8, .int (1 : Int32)), (7, .int r118), (0, .ref (ya Z 0)), (1, .int x1), (2, .int x2), (3, .int x3), (5, .int x5)]) h d_M_meet_178 8 rfl ki_1 (by decide) rfl ?_
                  refine r_goto h d_M_meet_181 ?_
                  refine r_sub h [4, 5, 6, 7, 1, 8, 0] rfl ?_
                  exact ih _ _ hf

set_option maxHeartbeats 4000000 in
theorem w_M_meet_L40 {Z : Sy} {Γ : Nat → List (Nat × Value) → List Value → St → Prop} {res : Int32} {x1 : Int32} {x2 : Int32} {x3 : Int32} {σ : St} (h : IsG YM Z R_M c_M_meet 9 3 (some .int) (some (.int res)) σ Γ) : ∀ (n : Nat) (x4 : Int32) (x5 : Int32), M_meet_L40 x1 x2 x3 σ n x4 x5 = some res → Γ 40 [(0, .ref (ya Z 0)), (1, .int x1), (2, .int x2), (3, .int x3), (4, .int x4), (5, .int x5)] [] σ := by
  intro n
  induction n with
  | zero => intro x4 x5 hf; exact absurd hf (by simp [M_meet_L40])
  | succ n ih =>
    intro x4 x5 hf
    rw [M_meet_L40] at hf
    refine r_iload h d_M_meet_40 5 rfl ?_
    refine r_aload_n h d_M_meet_42 0 rfl rfl ?_
    refine r_getI h fd_YM_0_8 cf_M fl_M_247 d_M_meet_43 ?_
    refine r_icmp_ge h d_M_meet_46 hf (fun hf => ?_) (fun hf => ?_)
    · refine r_iload h d_M_meet_190 4 rfl ?_
      exact r_ireturn h d_M_meet_192.1 (Option.some.inj hf) rfl
    · refine r_iconst h d_M_meet_49 ki_0 ?_
      refine r_istore (ls' := [(6, .int (0 : Int32)), (0, .ref (ya Z 0)), (1, .int x1), (2, .int x2), (3, .int x3), (4, .int x4), (5, .int x5)]) h d_M_meet_50 (by decide) rfl ?_
      refine r_sub h [1, 2, 3, 4, 5, 6, 0] rfl ?_
      exact w_M_meet_L52 h (fun y4 y5 hf => ih y4 y5 hf) _ _ _ hf

set_option maxHeartbeats 4000000 in
theorem m_M_meet {Z : Sy} {σ : St} {res : Int32} {x1 : Int32} {x2 : Int32} {x3 : Int32} (hf : M_meet x1 x2 x3 σ = some res) : Ct YM Z y_M_meet c_M_meet 9 (some .int) 3 [.ref (ya Z 0), .int x1, .int x2, .int x3] σ (some (.int res)) σ := by
  refine Ct.of pn_M (Nat.le_of_ble_eq_true rfl) rfl (fun Γ h => ?_)
  have h : IsG YM Z R_M c_M_meet 9 3 (some .int) (some (.int res)) σ Γ := h
  unfold M_meet at hf
  refine r_aload_n h d_M_meet_0 0 rfl rfl ?_
  refine r_iload_n h d_M_meet_1 1 rfl rfl ?_
  obtain ⟨r2, e2, hf⟩ := q_bind hf
  refine r_callV (As := [.int x1]) (rest := []) h sh_YM_0 lk_M_237 vk_M_237 d_M_meet_2 (by decide) rfl rfl (Nat.le_of_ble_eq_true rfl) (m_M_noBand e2) ?_
  refine r_bif_ne h d_M_meet_5 hf (fun hf => ?_) (fun hf => ?_)
  · refine r_iconst h d_M_meet_16 ki_m1 ?_
    exact r_ireturn h d_M_meet_17.1 (Option.some.inj hf) rfl
  · refine r_aload_n h d_M_meet_8 0 rfl rfl ?_
    refine r_iload_n h d_M_meet_9 2 rfl rfl ?_
    obtain ⟨r10, e10, hf⟩ := q_bind hf
    refine r_callV (As := [.int x2]) (rest := []) h sh_YM_0 lk_M_237 vk_M_237 d_M_meet_10 (by decide) rfl rfl (Nat.le_of_ble_eq_true rfl) (m_M_noBand e10) ?_
    refine r_bif_eq h d_M_meet_13 hf (fun hf => ?_) (fun hf => ?_)
    · refine r_iload_n h d_M_meet_18 3 rfl rfl ?_
      obtain ⟨r19, e19, hf⟩ := q_bind hf
      refine r_callS (As := [.int x3]) (rest := []) h lk_M_205 sk_M_205 d_M_meet_19 (by decide) rfl rfl (Nat.le_of_ble_eq_true rfl) (m_M_isDay e19) ?_
      refine r_bif_eq h d_M_meet_22 hf (fun hf => ?_) (fun hf => ?_)
      · refine r_bipush h d_M_meet_30 kb_m2 ?_
        exact r_ireturn h d_M_meet_32.1 (Option.some.inj hf) rfl
      · refine r_iload_n h d_M_meet_25 1 rfl rfl ?_
        refine r_iload_n h d_M_meet_26 2 rfl rfl ?_
        refine r_icmp_ne h d_M_meet_27 hf (fun hf => ?_) (fun hf => ?_)
        · refine r_bipush h d_M_meet_33 kb_m9 ?_
          refine r_istore (ls' := [(4, .int (-9 : Int32)), (0, .ref (ya Z 0)), (1, .int x1), (2, .int x2), (3, .int x3)]) h d_M_meet_35 (by decide) rfl ?_
          refine r_iconst h d_M_meet_37 ki_0 ?_
          refine r_istore (ls' := [(5, .int (0 : Int32)), (4, .int (-9 : Int32)), (0, .ref (ya Z 0)), (1, .int x1), (2, .int x2), (3, .int x3)]) h d_M_meet_38 (by decide) rfl ?_
          refine r_sub h [2, 3, 4, 5, 1, 0] rfl ?_
          exact w_M_meet_L40 h _ _ _ hf
        · refine r_bipush h d_M_meet_30 kb_m2 ?_
          exact r_ireturn h d_M_meet_32.1 (Option.some.inj hf) rfl
    · refine r_iconst h d_M_meet_16 ki_m1 ?_
      exact r_ireturn h d_M_meet_17.1 (Option.some.inj hf) rfl

theorem d_M_noHouse_0 : decode c_M_noHouse 0 = .ok (.iload_n 1, 1) ∧ 0 + 1 = 1 := by decide +kernel
theorem d_M_noHouse_1 : decode c_M_noHouse 1 = .ok (.i2l, 1) ∧ 1 + 1 = 2 := by decide +kernel
theorem d_M_noHouse_2 : decode c_M_noHouse 2 = .ok (.lconst 0, 1) ∧ 2 + 1 = 3 := by decide +kernel
theorem d_M_noHouse_3 : decode c_M_noHouse 3 = .ok (.aload_n 0, 1) ∧ 3 + 1 = 4 := by decide +kernel
theorem d_M_noHouse_4 : decode c_M_noHouse 4 = .ok (.getfield 223, 3) ∧ 4 + 3 = 7 := by decide +kernel
theorem d_M_noHouse_7 : decode c_M_noHouse 7 = .ok (.i2l, 1) ∧ 7 + 1 = 8 := by decide +kernel
theorem d_M_noHouse_8 : decode c_M_noHouse 8 = .ok (.lconst 1, 1) ∧ 8 + 1 = 9 := by decide +kernel
theorem d_M_noHouse_9 : decode c_M_noHouse 9 = .ok (.lsub, 1) ∧ 9 + 1 = 10 := by decide +kernel
theorem d_M_noHouse_10 : decode c_M_noHouse 10 = .ok (.invokestatic 201, 3) ∧ 10 + 3 = 13 := by decide +kernel
theorem d_M_noHouse_13 : decode c_M_noHouse 13 = .ok (.ifCond .ne 7, 3) ∧ 13 + 3 = 16 ∧ ((13 : Nat) : Int) + 7 = ((20 : Nat) : Int) := by decide +kernel
theorem d_M_noHouse_16 : decode c_M_noHouse 16 = .ok (.iconst 1, 1) ∧ 16 + 1 = 17 := by decide +kernel
theorem d_M_noHouse_17 : decode c_M_noHouse 17 = .ok (.goto 4, 3) ∧ (17 : Int) + 4 = (21 : Int) := by decide +kernel
theorem d_M_noHouse_20 : decode c_M_noHouse 20 = .ok (.iconst 0, 1) ∧ 20 + 1 = 21 := by decide +kernel
theorem d_M_noHouse_21 : decode c_M_noHouse 21 = .ok (.ireturn, 1) ∧ 21 + 1 = 22 := by decide +kernel
set_option maxHeartbeats 4000000 in
theorem m_M_noHouse {Z : Sy} {σ : St} {res : Bool} {x1 : Int32} (hf : M_noHouse x1 σ = some res) : Ct YM Z y_M_noHouse c_M_noHouse 2 (some .boolean) 2 [.ref (ya Z 0), .int x1] σ (some (.int (bi res))) σ := by
  refine Ct.of pn_M (Nat.le_of_ble_eq_true rfl) rfl (fun Γ h => ?_)
  have h : IsG YM Z R_M c_M_noHouse 2 2 (some .boolean) (some (.int (bi res))) σ Γ := h
  unfold M_noHouse at hf
  refine r_iload_n h d_M_noHouse_0 1 rfl rfl ?_
  refine r_i2l h d_M_noHouse_1 ?_
  refine r_lconst h d_M_noHouse_2 kl_0 ?_
  refine r_aload_n h d_M_noHouse_3 0 rfl rfl ?_
  refine r_getI h fd_YM_0_3 cf_M fl_M_223 d_M_noHouse_4 ?_
  refine r_i2l h d_M_noHouse_7 ?_
  refine r_lconst h d_M_noHouse_8 kl_1 ?_
  refine r_lsub h d_M_noHouse_9 ?_
  obtain ⟨r10, e10, hf⟩ := q_bind hf
  refine r_callS (As := [.long (Int32.toInt64 x1), .long (0 : Int64), .long ((Int32.toInt64 (σ.1 0 3)) - (1 : Int64))]) (rest := []) h lk_M_201 sk_M_201 d_M_noHouse_10 (by decide) rfl rfl (Nat.le_of_ble_eq_true rfl) (m_M_in e10) ?_
  refine r_bif_ne h d_M_noHouse_13 hf (fun hf => ?_) (fun hf => ?_)
  · refine r_iconst h d_M_noHouse_20 ki_0 ?_
    exact r_zreturn h d_M_noHouse_21.1 ((show (0 : Int32) = bi false from rfl).trans (congrArg bi (Option.some.inj hf))) rfl
  · refine r_iconst h d_M_noHouse_16 ki_1 ?_
    refine r_goto h d_M_noHouse_17 ?_
    exact r_zreturn h d_M_noHouse_21.1 ((show (1 : Int32) = bi true from rfl).trans (congrArg bi (Option.some.inj hf))) rfl

theorem d_M_pack_0 : decode c_M_pack 0 = .ok (.aload_n 0, 1) ∧ 0 + 1 = 1 := by decide +kernel
theorem d_M_pack_1 : decode c_M_pack 1 = .ok (.iload_n 2, 1) ∧ 1 + 1 = 2 := by decide +kernel
theorem d_M_pack_2 : decode c_M_pack 2 = .ok (.invokevirtual 237, 3) ∧ 2 + 3 = 5 := by decide +kernel
theorem d_M_pack_5 : decode c_M_pack 5 = .ok (.ifCond .ne 11, 3) ∧ 5 + 3 = 8 ∧ ((5 : Nat) : Int) + 11 = ((16 : Nat) : Int) := by decide +kernel
theorem d_M_pack_8 : decode c_M_pack 8 = .ok (.aload_n 0, 1) ∧ 8 + 1 = 9 := by decide +kernel
theorem d_M_pack_9 : decode c_M_pack 9 = .ok (.iload_n 3, 1) ∧ 9 + 1 = 10 := by decide +kernel
theorem d_M_pack_10 : decode c_M_pack 10 = .ok (.invokevirtual 263, 3) ∧ 10 + 3 = 13 := by decide +kernel
theorem d_M_pack_13 : decode c_M_pack 13 = .ok (.ifCond .eq 5, 3) ∧ 13 + 3 = 16 ∧ ((13 : Nat) : Int) + 5 = ((18 : Nat) : Int) := by decide +kernel
theorem d_M_pack_16 : decode c_M_pack 16 = .ok (.iconst (-1), 1) ∧ 16 + 1 = 17 := by decide +kernel
theorem d_M_pack_17 : decode c_M_pack 17 = .ok (.ireturn, 1) ∧ 17 + 1 = 18 := by decide +kernel
theorem d_M_pack_18 : decode c_M_pack 18 = .ok (.iload_n 1, 1) ∧ 18 + 1 = 19 := by decide +kernel
theorem d_M_pack_19 : decode c_M_pack 19 = .ok (.i2l, 1) ∧ 19 + 1 = 20 := by decide +kernel
theorem d_M_pack_20 : decode c_M_pack 20 = .ok (.lconst 0, 1) ∧ 20 + 1 = 21 := by decide +kernel
theorem d_M_pack_21 : decode c_M_pack 21 = .ok (.ldc2_w 266, 3) ∧ 21 + 3 = 24 := by decide +kernel
theorem d_M_pack_24 : decode c_M_pack 24 = .ok (.invokestatic 201, 3) ∧ 24 + 3 = 27 := by decide +kernel
theorem d_M_pack_27 : decode c_M_pack 27 = .ok (.ifCond .ne 6, 3) ∧ 27 + 3 = 30 ∧ ((27 : Nat) : Int) + 6 = ((33 : Nat) : Int) := by decide +kernel
theorem d_M_pack_30 : decode c_M_pack 30 = .ok (.bipush (-2), 2) ∧ 30 + 2 = 32 := by decide +kernel
theorem d_M_pack_32 : decode c_M_pack 32 = .ok (.ireturn, 1) ∧ 32 + 1 = 33 := by decide +kernel
theorem d_M_pack_33 : decode c_M_pack 33 = .ok (.aload_n 0, 1) ∧ 33 + 1 = 34 := by decide +kernel
theorem d_M_pack_34 : decode c_M_pack 34 = .ok (.getfield 260, 3) ∧ 34 + 3 = 37 := by decide +kernel
theorem d_M_pack_37 : decode c_M_pack 37 = .ok (.bipush 12, 2) ∧ 37 + 2 = 39 := by decide +kernel
theorem d_M_pack_39 : decode c_M_pack 39 = .ok (.if_icmp .ne 6, 3) ∧ 39 + 3 = 42 ∧ ((39 : Nat) : Int) + 6 = ((45 : Nat) : Int) := by decide +kernel
theorem d_M_pack_42 : decode c_M_pack 42 = .ok (.bipush (-4), 2) ∧ 42 + 2 = 44 := by decide +kernel
theorem d_M_pack_44 : decode c_M_pack 44 = .ok (.ireturn, 1) ∧ 44 + 1 = 45 := by decide +kernel
theorem d_M_pack_45 : decode c_M_pack 45 = .ok (.aload_n 0, 1) ∧ 45 + 1 = 46 := by decide +kernel
theorem d_M_pack_46 : decode c_M_pack 46 = .ok (.getfield 34, 3) ∧ 46 + 3 = 49 := by decide +kernel
theorem d_M_pack_49 : decode c_M_pack 49 = .ok (.aload_n 0, 1) ∧ 49 + 1 = 50 := by decide +kernel
theorem d_M_pack_50 : decode c_M_pack 50 = .ok (.getfield 260, 3) ∧ 50 + 3 = 53 := by decide +kernel
theorem d_M_pack_53 : decode c_M_pack 53 = .ok (.iload_n 1, 1) ∧ 53 + 1 = 54 := by decide +kernel
theorem d_M_pack_54 : decode c_M_pack 54 = .ok (.iastore, 1) ∧ 54 + 1 = 55 := by decide +kernel
theorem d_M_pack_55 : decode c_M_pack 55 = .ok (.aload_n 0, 1) ∧ 55 + 1 = 56 := by decide +kernel
theorem d_M_pack_56 : decode c_M_pack 56 = .ok (.getfield 37, 3) ∧ 56 + 3 = 59 := by decide +kernel
theorem d_M_pack_59 : decode c_M_pack 59 = .ok (.aload_n 0, 1) ∧ 59 + 1 = 60 := by decide +kernel
theorem d_M_pack_60 : decode c_M_pack 60 = .ok (.getfield 260, 3) ∧ 60 + 3 = 63 := by decide +kernel
theorem d_M_pack_63 : decode c_M_pack 63 = .ok (.iload_n 2, 1) ∧ 63 + 1 = 64 := by decide +kernel
theorem d_M_pack_64 : decode c_M_pack 64 = .ok (.iastore, 1) ∧ 64 + 1 = 65 := by decide +kernel
theorem d_M_pack_65 : decode c_M_pack 65 = .ok (.aload_n 0, 1) ∧ 65 + 1 = 66 := by decide +kernel
theorem d_M_pack_66 : decode c_M_pack 66 = .ok (.getfield 40, 3) ∧ 66 + 3 = 69 := by decide +kernel
theorem d_M_pack_69 : decode c_M_pack 69 = .ok (.aload_n 0, 1) ∧ 69 + 1 = 70 := by decide +kernel
theorem d_M_pack_70 : decode c_M_pack 70 = .ok (.getfield 260, 3) ∧ 70 + 3 = 73 := by decide +kernel
theorem d_M_pack_73 : decode c_M_pack 73 = .ok (.iload_n 3, 1) ∧ 73 + 1 = 74 := by decide +kernel
theorem d_M_pack_74 : decode c_M_pack 74 = .ok (.iastore, 1) ∧ 74 + 1 = 75 := by decide +kernel
theorem d_M_pack_75 : decode c_M_pack 75 = .ok (.aload_n 0, 1) ∧ 75 + 1 = 76 := by decide +kernel
theorem d_M_pack_76 : decode c_M_pack 76 = .ok (.dup, 1) ∧ 76 + 1 = 77 := by decide +kernel
theorem d_M_pack_77 : decode c_M_pack 77 = .ok (.getfield 260, 3) ∧ 77 + 3 = 80 := by decide +kernel
theorem d_M_pack_80 : decode c_M_pack 80 = .ok (.iconst 1, 1) ∧ 80 + 1 = 81 := by decide +kernel
theorem d_M_pack_81 : decode c_M_pack 81 = .ok (.iadd, 1) ∧ 81 + 1 = 82 := by decide +kernel
theorem d_M_pack_82 : decode c_M_pack 82 = .ok (.putfield 260, 3) ∧ 82 + 3 = 85 := by decide +kernel
theorem d_M_pack_85 : decode c_M_pack 85 = .ok (.aload_n 0, 1) ∧ 85 + 1 = 86 := by decide +kernel
theorem d_M_pack_86 : decode c_M_pack 86 = .ok (.getfield 260, 3) ∧ 86 + 3 = 89 := by decide +kernel
theorem d_M_pack_89 : decode c_M_pack 89 = .ok (.iconst 1, 1) ∧ 89 + 1 = 90 := by decide +kernel
theorem d_M_pack_90 : decode c_M_pack 90 = .ok (.isub, 1) ∧ 90 + 1 = 91 := by decide +kernel
theorem d_M_pack_91 : decode c_M_pack 91 = .ok (.ireturn, 1) ∧ 91 + 1 = 92 := by decide +kernel
set_option maxHeartbeats 4000000 in
theorem m_M_pack {Z : Sy} {σ : St} {res : (Int32 × St)} {x1 : Int32} {x2 : Int32} {x3 : Int32} (hf : M_pack x1 x2 x3 σ = some res) : Ct YM Z y_M_pack c_M_pack 4 (some .int) 3 [.ref (ya Z 0), .int x1, .int x2, .int x3] σ (some (.int res.1)) res.2 := by
  refine Ct.of pn_M (Nat.le_of_ble_eq_true rfl) rfl (fun Γ h => ?_)
  have h : IsG YM Z R_M c_M_pack 4 3 (some .int) (some (.int res.1)) res.2 Γ := h
  unfold M_pack at hf
  refine r_aload_n h d_M_pack_0 0 rfl rfl ?_
  refine r_iload_n h d_M_pack_1 2 rfl rfl ?_
  obtain ⟨r2, e2, hf⟩ := q_bind hf
  refine r_callV (As := [.int x2]) (rest := []) h sh_YM_0 lk_M_237 vk_M_237 d_M_pack_2 (by decide) rfl rfl (Nat.le_of_ble_eq_true rfl) (m_M_noBand e2) ?_
  refine r_bif_ne h d_M_pack_5 hf (fun hf => ?_) (fun hf => ?_)
  · refine r_iconst h d_M_pack_16 ki_m1 ?_
    exact r_ireturn h d_M_pack_17.1 (q_p1 hf) (q_p2 hf)
  · refine r_aload_n h d_M_pack_8 0 rfl rfl ?_
    refine r_iload_n h d_M_pack_9 3 rfl rfl ?_
    obtain ⟨r10, e10, hf⟩ := q_bind hf
    refine r_callV (As := [.int x3]) (rest := []) h sh_YM_0 lk_M_263 vk_M_263 d_M_pack_10 (by decide) rfl rfl (Nat.le_of_ble_eq_true rfl) (m_M_noHouse e10) ?_
    refine r_bif_eq h d_M_pack_13 hf (fun hf => ?_) (fun hf => ?_)
    · refine r_iload_n h d_M_pack_18 1 rfl rfl ?_
      refine r_i2l h d_M_pack_19 ?_
      refine r_lconst h d_M_pack_20 kl_0 ?_
      refine r_ldc2 h d_M_pack_21 tm_1478 ?_
      obtain ⟨r24, e24, hf⟩ := q_bind hf
      refine r_callS (As := [.long (Int32.toInt64 x1), .long (0 : Int64), .long (2 : Int64)]) (rest := []) h lk_M_201 sk_M_201 d_M_pack_24 (by decide) rfl rfl (Nat.le_of_ble_eq_true rfl) (m_M_in e24) ?_
      refine r_bif_ne h d_M_pack_27 hf (fun hf => ?_) (fun hf => ?_)
      · refine r_aload_n h d_M_pack_33 0 rfl rfl ?_
        refine r_getI h fd_YM_0_13 cf_M fl_M_260 d_M_pack_34 ?_
        refine r_bipush h d_M_pack_37 kb_12 ?_
        refine r_icmp_ne h d_M_pack_39 hf (fun hf => ?_) (fun hf => ?_)
        · refine r_aload_n h d_M_pack_45 0 rfl rfl ?_
          refine r_getR h fd_YM_0_14 cf_M fl_M_34 d_M_pack_46 ?_
          refine r_aload_n h d_M_pack_49 0 rfl rfl ?_
          refine r_getI h fd_YM_0_13 cf_M fl_M_260 d_M_pack_50 ?_
          refine r_iload_n h d_M_pack_53 1 rfl rfl ?_
          refine r_iast h sh_YM_9 d_M_pack_54 hf (fun hf => ?_)
          refine r_aload_n h d_M_pack_55 0 rfl rfl ?_
          refine r_getR h fd_YM_0_15 cf_M fl_M_37 d_M_pack_56 ?_
          refine r_aload_n h d_M_pack_59 0 rfl rfl ?_
          refine r_getIv (v := (σ.1 0 13)) h fd_YM_0_13 cf_M fl_M_260 d_M_pack_60 rfl ?_
          refine r_iload_n h d_M_pack_63 2 rfl rfl ?_
          refine r_iast h sh_YM_10 d_M_pack_64 hf (fun hf => ?_)
          refine r_aload_n h d_M_pack_65 0 rfl rfl ?_
          refine r_getR h fd_YM_0_16 cf_M fl_M_40 d_M_pack_66 ?_
          refine r_aload_n h d_M_pack_69 0 rfl rfl ?_
          refine r_getIv (v := (σ.1 0 13)) h fd_YM_0_13 cf_M fl_M_260 d_M_pack_70 rfl ?_
          refine r_iload_n h d_M_pack_73 3 rfl rfl ?_
          refine r_iast h sh_YM_11 d_M_pack_74 hf (fun hf => ?_)
          refine r_aload_n h d_M_pack_75 0 rfl rfl ?_
          refine r_dup h d_M_pack_76 rfl ?_
          refine r_getIv (v := (σ.1 0 13)) h fd_YM_0_13 cf_M fl_M_260 d_M_pack_77 rfl ?_
          refine r_iconst h d_M_pack_80 ki_1 ?_
          refine r_iadd h d_M_pack_81 ?_
          refine r_putI h fd_YM_0_13 cf_M fl_M_260 ⟨rfl, rfl⟩ d_M_pack_82 ?_
          refine r_aload_n h d_M_pack_85 0 rfl rfl ?_
          refine r_getIv (v := ((σ.1 0 13) + (1 : Int32))) h fd_YM_0_13 cf_M fl_M_260 d_M_pack_86 rfl ?_
          refine r_iconst h d_M_pack_89 ki_1 ?_
          refine r_isub h d_M_pack_90 ?_
          exact r_ireturn h d_M_pack_91.1 (q_p1 hf) (q_p2 hf)
        · refine r_bipush h d_M_pack_42 kb_m4 ?_
          exact r_ireturn h d_M_pack_44.1 (q_p1 hf) (q_p2 hf)
      · refine r_bipush h d_M_pack_30 kb_m2 ?_
        exact r_ireturn h d_M_pack_32.1 (q_p1 hf) (q_p2 hf)
    · refine r_iconst h d_M_pack_16 ki_m1 ?_
      exact r_ireturn h d_M_pack_17.1 (q_p1 hf) (q_p2 hf)

