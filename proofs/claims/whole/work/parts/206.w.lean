theorem d_Debts_isLeftBy_0 : decode c_Debts_isLeftBy 0 = .ok (.aload_n 0, 1) ∧ 0 + 1 = 1 := by decide +kernel
theorem d_Debts_isLeftBy_1 : decode c_Debts_isLeftBy 1 = .ok (.getfield 30, 3) ∧ 1 + 3 = 4 := by decide +kernel
theorem d_Debts_isLeftBy_4 : decode c_Debts_isLeftBy 4 = .ok (.iload_n 2, 1) ∧ 4 + 1 = 5 := by decide +kernel
theorem d_Debts_isLeftBy_5 : decode c_Debts_isLeftBy 5 = .ok (.iaload, 1) ∧ 5 + 1 = 6 := by decide +kernel
theorem d_Debts_isLeftBy_6 : decode c_Debts_isLeftBy 6 = .ok (.iload_n 1, 1) ∧ 6 + 1 = 7 := by decide +kernel
theorem d_Debts_isLeftBy_7 : decode c_Debts_isLeftBy 7 = .ok (.if_icmp .ne 25, 3) ∧ 7 + 3 = 10 ∧ ((7 : Nat) : Int) + 25 = ((32 : Nat) : Int) := by decide +kernel
theorem d_Debts_isLeftBy_10 : decode c_Debts_isLeftBy 10 = .ok (.aload_n 0, 1) ∧ 10 + 1 = 11 := by decide +kernel
theorem d_Debts_isLeftBy_11 : decode c_Debts_isLeftBy 11 = .ok (.getfield 24, 3) ∧ 11 + 3 = 14 := by decide +kernel
theorem d_Debts_isLeftBy_14 : decode c_Debts_isLeftBy 14 = .ok (.iload_n 2, 1) ∧ 14 + 1 = 15 := by decide +kernel
theorem d_Debts_isLeftBy_15 : decode c_Debts_isLeftBy 15 = .ok (.iaload, 1) ∧ 15 + 1 = 16 := by decide +kernel
theorem d_Debts_isLeftBy_16 : decode c_Debts_isLeftBy 16 = .ok (.iload_n 3, 1) ∧ 16 + 1 = 17 := by decide +kernel
theorem d_Debts_isLeftBy_17 : decode c_Debts_isLeftBy 17 = .ok (.if_icmp .gt 15, 3) ∧ 17 + 3 = 20 ∧ ((17 : Nat) : Int) + 15 = ((32 : Nat) : Int) := by decide +kernel
theorem d_Debts_isLeftBy_20 : decode c_Debts_isLeftBy 20 = .ok (.aload_n 0, 1) ∧ 20 + 1 = 21 := by decide +kernel
theorem d_Debts_isLeftBy_21 : decode c_Debts_isLeftBy 21 = .ok (.iload_n 2, 1) ∧ 21 + 1 = 22 := by decide +kernel
theorem d_Debts_isLeftBy_22 : decode c_Debts_isLeftBy 22 = .ok (.invokevirtual 37, 3) ∧ 22 + 3 = 25 := by decide +kernel
theorem d_Debts_isLeftBy_25 : decode c_Debts_isLeftBy 25 = .ok (.ifCond .le 7, 3) ∧ 25 + 3 = 28 ∧ ((25 : Nat) : Int) + 7 = ((32 : Nat) : Int) := by decide +kernel
theorem d_Debts_isLeftBy_28 : decode c_Debts_isLeftBy 28 = .ok (.iconst 1, 1) ∧ 28 + 1 = 29 := by decide +kernel
theorem d_Debts_isLeftBy_29 : decode c_Debts_isLeftBy 29 = .ok (.goto 4, 3) ∧ (29 : Int) + 4 = (33 : Int) := by decide +kernel
theorem d_Debts_isLeftBy_32 : decode c_Debts_isLeftBy 32 = .ok (.iconst 0, 1) ∧ 32 + 1 = 33 := by decide +kernel
theorem d_Debts_isLeftBy_33 : decode c_Debts_isLeftBy 33 = .ok (.ireturn, 1) ∧ 33 + 1 = 34 := by decide +kernel
set_option maxHeartbeats 4000000 in
theorem m_Debts_isLeftBy {Z : Sy} {σ : St} {res : Bool} {x1 : Int32} {x2 : Int32} {x3 : Int32} (hf : Debts_isLeftBy x1 x2 x3 σ = some res) : Ct YC Z y_Debts_isLeftBy c_Debts_isLeftBy 4 (some .boolean) 2 [.ref (ya Z 49), .int x1, .int x2, .int x3] σ (some (.int (bi res))) σ := by
  refine Ct.of pn_Debts (Nat.le_of_ble_eq_true rfl) rfl (fun Γ h => ?_)
  have h : IsG YC Z R_Debts c_Debts_isLeftBy 4 2 (some .boolean) (some (.int (bi res))) σ Γ := h
  unfold Debts_isLeftBy at hf
  refine r_aload_n h d_Debts_isLeftBy_0 0 rfl rfl ?_
  refine r_getR h fd_YC_49_6 cf_Debts fl_Debts_30 d_Debts_isLeftBy_1 ?_
  refine r_iload_n h d_Debts_isLeftBy_4 2 rfl rfl ?_
  refine r_iald h sh_YC_56 d_Debts_isLeftBy_5 hf (fun hf => ?_)
  refine r_iload_n h d_Debts_isLeftBy_6 1 rfl rfl ?_
  refine r_icmp_ne h d_Debts_isLeftBy_7 hf (fun hf => ?_) (fun hf => ?_)
  · refine r_iconst h d_Debts_isLeftBy_32 ki_0 ?_
    exact r_zreturn h d_Debts_isLeftBy_33.1 ((show (0 : Int32) = bi false from rfl).trans (congrArg bi (Option.some.inj hf))) rfl
  · refine r_aload_n h d_Debts_isLeftBy_10 0 rfl rfl ?_
    refine r_getR h fd_YC_49_4 cf_Debts fl_Debts_24 d_Debts_isLeftBy_11 ?_
    refine r_iload_n h d_Debts_isLeftBy_14 2 rfl rfl ?_
    refine r_iald h sh_YC_54 d_Debts_isLeftBy_15 hf (fun hf => ?_)
    refine r_iload_n h d_Debts_isLeftBy_16 3 rfl rfl ?_
    refine r_icmp_gt h d_Debts_isLeftBy_17 hf (fun hf => ?_) (fun hf => ?_)
    · refine r_iconst h d_Debts_isLeftBy_32 ki_0 ?_
      exact r_zreturn h d_Debts_isLeftBy_33.1 ((show (0 : Int32) = bi false from rfl).trans (congrArg bi (Option.some.inj hf))) rfl
    · refine r_aload_n h d_Debts_isLeftBy_20 0 rfl rfl ?_
      refine r_iload_n h d_Debts_isLeftBy_21 2 rfl rfl ?_
      obtain ⟨r22, e22, hf⟩ := q_bind hf
      refine r_callV (As := [.int x2]) (rest := []) h sh_YC_49 lk_Debts_37 vk_Debts_37 d_Debts_isLeftBy_22 (by decide) rfl rfl (Nat.le_of_ble_eq_true rfl) (m_Debts_left e22) ?_
      refine r_if_le h d_Debts_isLeftBy_25 hf (fun hf => ?_) (fun hf => ?_)
      · refine r_iconst h d_Debts_isLeftBy_32 ki_0 ?_
        exact r_zreturn h d_Debts_isLeftBy_33.1 ((show (0 : Int32) = bi false from rfl).trans (congrArg bi (Option.some.inj hf))) rfl
      · refine r_iconst h d_Debts_isLeftBy_28 ki_1 ?_
        refine r_goto h d_Debts_isLeftBy_29 ?_
        exact r_zreturn h d_Debts_isLeftBy_33.1 ((show (1 : Int32) = bi true from rfl).trans (congrArg bi (Option.some.inj hf))) rfl

theorem d_P_passesOn_0 : decode c_P_passesOn 0 = .ok (.aload_n 0, 1) ∧ 0 + 1 = 1 := by decide +kernel
theorem d_P_passesOn_1 : decode c_P_passesOn 1 = .ok (.iload_n 1, 1) ∧ 1 + 1 = 2 := by decide +kernel
theorem d_P_passesOn_2 : decode c_P_passesOn 2 = .ok (.invokevirtual 270, 3) ∧ 2 + 3 = 5 := by decide +kernel
theorem d_P_passesOn_5 : decode c_P_passesOn 5 = .ok (.istore_n 3, 1) ∧ 5 + 1 = 6 := by decide +kernel
theorem d_P_passesOn_6 : decode c_P_passesOn 6 = .ok (.aload_n 0, 1) ∧ 6 + 1 = 7 := by decide +kernel
theorem d_P_passesOn_7 : decode c_P_passesOn 7 = .ok (.getfield 57, 3) ∧ 7 + 3 = 10 := by decide +kernel
theorem d_P_passesOn_10 : decode c_P_passesOn 10 = .ok (.iconst 3, 1) ∧ 10 + 1 = 11 := by decide +kernel
theorem d_P_passesOn_11 : decode c_P_passesOn 11 = .ok (.iload_n 3, 1) ∧ 11 + 1 = 12 := by decide +kernel
theorem d_P_passesOn_12 : decode c_P_passesOn 12 = .ok (.iload_n 2, 1) ∧ 12 + 1 = 13 := by decide +kernel
theorem d_P_passesOn_13 : decode c_P_passesOn 13 = .ok (.invokevirtual 225, 3) ∧ 13 + 3 = 16 := by decide +kernel
theorem d_P_passesOn_16 : decode c_P_passesOn 16 = .ok (.istore 4, 2) ∧ 16 + 2 = 18 := by decide +kernel
theorem d_P_passesOn_18 : decode c_P_passesOn 18 = .ok (.aload_n 0, 1) ∧ 18 + 1 = 19 := by decide +kernel
theorem d_P_passesOn_19 : decode c_P_passesOn 19 = .ok (.getfield 64, 3) ∧ 19 + 3 = 22 := by decide +kernel
theorem d_P_passesOn_22 : decode c_P_passesOn 22 = .ok (.getfield 258, 3) ∧ 22 + 3 = 25 := by decide +kernel
theorem d_P_passesOn_25 : decode c_P_passesOn 25 = .ok (.iload_n 1, 1) ∧ 25 + 1 = 26 := by decide +kernel
theorem d_P_passesOn_26 : decode c_P_passesOn 26 = .ok (.iaload, 1) ∧ 26 + 1 = 27 := by decide +kernel
theorem d_P_passesOn_27 : decode c_P_passesOn 27 = .ok (.istore 5, 2) ∧ 27 + 2 = 29 := by decide +kernel
theorem d_P_passesOn_29 : decode c_P_passesOn 29 = .ok (.iload 4, 2) ∧ 29 + 2 = 31 := by decide +kernel
theorem d_P_passesOn_31 : decode c_P_passesOn 31 = .ok (.ifCond .eq 15, 3) ∧ 31 + 3 = 34 ∧ ((31 : Nat) : Int) + 15 = ((46 : Nat) : Int) := by decide +kernel
theorem d_P_passesOn_34 : decode c_P_passesOn 34 = .ok (.aload_n 0, 1) ∧ 34 + 1 = 35 := by decide +kernel
theorem d_P_passesOn_35 : decode c_P_passesOn 35 = .ok (.getfield 36, 3) ∧ 35 + 3 = 38 := by decide +kernel
theorem d_P_passesOn_38 : decode c_P_passesOn 38 = .ok (.iload 5, 2) ∧ 38 + 2 = 40 := by decide +kernel
theorem d_P_passesOn_40 : decode c_P_passesOn 40 = .ok (.invokevirtual 146, 3) ∧ 40 + 3 = 43 := by decide +kernel
theorem d_P_passesOn_43 : decode c_P_passesOn 43 = .ok (.ifCond .ne 5, 3) ∧ 43 + 3 = 46 ∧ ((43 : Nat) : Int) + 5 = ((48 : Nat) : Int) := by decide +kernel
theorem d_P_passesOn_46 : decode c_P_passesOn 46 = .ok (.iconst 0, 1) ∧ 46 + 1 = 47 := by decide +kernel
theorem d_P_passesOn_47 : decode c_P_passesOn 47 = .ok (.ireturn, 1) ∧ 47 + 1 = 48 := by decide +kernel
theorem d_P_passesOn_48 : decode c_P_passesOn 48 = .ok (.aload_n 0, 1) ∧ 48 + 1 = 49 := by decide +kernel
theorem d_P_passesOn_49 : decode c_P_passesOn 49 = .ok (.getfield 64, 3) ∧ 49 + 3 = 52 := by decide +kernel
theorem d_P_passesOn_52 : decode c_P_passesOn 52 = .ok (.getfield 267, 3) ∧ 52 + 3 = 55 := by decide +kernel
theorem d_P_passesOn_55 : decode c_P_passesOn 55 = .ok (.iload_n 1, 1) ∧ 55 + 1 = 56 := by decide +kernel
theorem d_P_passesOn_56 : decode c_P_passesOn 56 = .ok (.iload 4, 2) ∧ 56 + 2 = 58 := by decide +kernel
theorem d_P_passesOn_58 : decode c_P_passesOn 58 = .ok (.iconst 1, 1) ∧ 58 + 1 = 59 := by decide +kernel
theorem d_P_passesOn_59 : decode c_P_passesOn 59 = .ok (.if_icmp .ne 19, 3) ∧ 59 + 3 = 62 ∧ ((59 : Nat) : Int) + 19 = ((78 : Nat) : Int) := by decide +kernel
theorem d_P_passesOn_62 : decode c_P_passesOn 62 = .ok (.bipush 6, 2) ∧ 62 + 2 = 64 := by decide +kernel
theorem d_P_passesOn_64 : decode c_P_passesOn 64 = .ok (.aload_n 0, 1) ∧ 64 + 1 = 65 := by decide +kernel
theorem d_P_passesOn_65 : decode c_P_passesOn 65 = .ok (.getfield 36, 3) ∧ 65 + 3 = 68 := by decide +kernel
theorem d_P_passesOn_68 : decode c_P_passesOn 68 = .ok (.getfield 285, 3) ∧ 68 + 3 = 71 := by decide +kernel
theorem d_P_passesOn_71 : decode c_P_passesOn 71 = .ok (.iload 5, 2) ∧ 71 + 2 = 73 := by decide +kernel
theorem d_P_passesOn_73 : decode c_P_passesOn 73 = .ok (.iaload, 1) ∧ 73 + 1 = 74 := by decide +kernel
theorem d_P_passesOn_74 : decode c_P_passesOn 74 = .ok (.iadd, 1) ∧ 74 + 1 = 75 := by decide +kernel
theorem d_P_passesOn_75 : decode c_P_passesOn 75 = .ok (.goto 7, 3) ∧ (75 : Int) + 7 = (82 : Int) := by decide +kernel
theorem d_P_passesOn_78 : decode c_P_passesOn 78 = .ok (.bipush 10, 2) ∧ 78 + 2 = 80 := by decide +kernel
theorem d_P_passesOn_80 : decode c_P_passesOn 80 = .ok (.iload_n 3, 1) ∧ 80 + 1 = 81 := by decide +kernel
theorem d_P_passesOn_81 : decode c_P_passesOn 81 = .ok (.iadd, 1) ∧ 81 + 1 = 82 := by decide +kernel
theorem d_P_passesOn_82 : decode c_P_passesOn 82 = .ok (.iastore, 1) ∧ 82 + 1 = 83 := by decide +kernel
theorem d_P_passesOn_83 : decode c_P_passesOn 83 = .ok (.iconst 1, 1) ∧ 83 + 1 = 84 := by decide +kernel
theorem d_P_passesOn_84 : decode c_P_passesOn 84 = .ok (.ireturn, 1) ∧ 84 + 1 = 85 := by decide +kernel
set_option maxHeartbeats 4000000 in
theorem m_P_passesOn {Z : Sy} {σ : St} {res : (Bool × St)} {x1 : Int32} {x2 : Int32} (hf : P_passesOn x1 x2 σ = some res) : Ct YC Z y_P_passesOn c_P_passesOn 6 (some .boolean) 4 [.ref (ya Z 0), .int x1, .int x2] σ (some (.int (bi res.1))) res.2 := by
  refine Ct.of pn_P (Nat.le_of_ble_eq_true rfl) rfl (fun Γ h => ?_)
  have h : IsG YC Z R_P c_P_passesOn 6 4 (some .boolean) (some (.int (bi res.1))) res.2 Γ := h
  unfold P_passesOn at hf
  refine r_aload_n h d_P_passesOn_0 0 rfl rfl ?_
  refine r_iload_n h d_P_passesOn_1 1 rfl rfl ?_
  obtain ⟨r2, e2, hf⟩ := q_bind hf
  refine r_callV (As := [.int x1]) (rest := []) h sh_YC_0 lk_P_270 vk_P_270 d_P_passesOn_2 (by decide) rfl rfl (Nat.le_of_ble_eq_true rfl) (m_P_landOfDebt e2) ?_
  refine r_istore_n (ls' := [(3, .int r2), (0, .ref (ya Z 0)), (1, .int x1), (2, .int x2)]) h d_P_passesOn_5 rfl (by decide) rfl ?_
  refine r_aload_n h d_P_passesOn_6 1 rfl rfl ?_
  refine r_getR h fd_YC_0_7 cf_P fl_P_57 d_P_passesOn_7 ?_
  refine r_iconst h d_P_passesOn_10 ki_3 ?_
  refine r_iload_n h d_P_passesOn_11 0 rfl rfl ?_
  refine r_iload_n h d_P_passesOn_12 3 rfl rfl ?_
  obtain ⟨r13, e13, hf⟩ := q_bind hf
  refine r_callV (As := [.int (3 : Int32), .int r2, .int x2]) (rest := []) h sh_YC_40 lk_P_225 vk_P_225 d_P_passesOn_13 (by decide) rfl rfl (Nat.le_of_ble_eq_true rfl) (m_Texts_valueIn e13) ?_
  refine r_istore (ls' := [(4, .int r13), (3, .int r2), (0, .ref (ya Z 0)), (1, .int x1), (2, .int x2)]) h d_P_passesOn_16 (by decide) rfl ?_
  refine r_aload_n h d_P_passesOn_18 2 rfl rfl ?_
  refine r_getR h fd_YC_0_8 cf_P fl_P_64 d_P_passesOn_19 ?_
  refine r_getR h fd_YC_49_2 cf_Debts fl_P_258 d_P_passesOn_22 ?_
  refine r_iload_n h d_P_passesOn_25 3 rfl rfl ?_
  refine r_iald h sh_YC_52 d_P_passesOn_26 hf (fun hf => ?_)
  refine r_istore (ls' := [(5, .int (σ.1 52 (Int32.toNatClampNeg x1))), (4, .int r13), (3, .int r2), (0, .ref (ya Z 0)), (1, .int x1), (2, .int x2)]) h d_P_passesOn_27 (by decide) rfl ?_
  refine r_iload h d_P_passesOn_29 1 rfl ?_
  refine r_if_eq h d_P_passesOn_31 hf (fun hf => ?_) (fun hf => ?_)
  · refine r_iconst h d_P_passesOn_46 ki_0 ?_
    exact r_zreturn h d_P_passesOn_47.1 ((show (0 : Int32) = bi false from rfl).trans (congrArg bi (q_p1 hf))) (q_p2 hf)
  · refine r_aload_n h d_P_passesOn_34 3 rfl rfl ?_
    refine r_getR h fd_YC_0_4 cf_P fl_P_36 d_P_passesOn_35 ?_
    refine r_iload h d_P_passesOn_38 0 rfl ?_
    obtain ⟨r40, e40, hf⟩ := q_bind hf
    refine r_callV (As := [.int (σ.1 52 (Int32.toNatClampNeg x1))]) (rest := []) h sh_YC_21 lk_P_146 vk_P_146 d_P_passesOn_40 (by decide) rfl rfl (Nat.le_of_ble_eq_true rfl) (m_Packs_has e40) ?_
    refine r_bif_ne h d_P_passesOn_43 hf (fun hf => ?_) (fun hf => ?_)
    · refine r_aload_n h d_P_passesOn_48 3 rfl rfl ?_
      refine r_getR h fd_YC_0_8 cf_P fl_P_64 d_P_passesOn_49 ?_
      refine r_getR h fd_YC_49_6 cf_Debts fl_P_267 d_P_passesOn_52 ?_
      refine r_iload_n h d_P_passesOn_55 4 rfl rfl ?_
      refine r_iload h d_P_passesOn_56 1 rfl ?_
      refine r_iconst h d_P_passesOn_58 ki_1 ?_
      refine r_icmp_ne h d_P_passesOn_59 hf (fun hf => ?_) (fun hf => ?_)
      · refine r_bipush h d_P_passesOn_78 kb_10 ?_
        refine r_iload_n h d_P_passesOn_80 2 rfl rfl ?_
        refine r_iadd h d_P_passesOn_81 ?_
        refine r_iast h sh_YC_56 d_P_passesOn_82 hf (fun hf => ?_)
        refine r_iconst h d_P_passesOn_83 ki_1 ?_
        exact r_zreturn h d_P_passesOn_84.1 ((show (1 : Int32) = bi true from rfl).trans (congrArg bi (q_p1 hf))) (q_p2 hf)
      · refine r_bipush h d_P_passesOn_62 kb_6 ?_
        refine r_aload_n h d_P_passesOn_64 3 rfl rfl ?_
        refine r_getR h fd_YC_0_4 cf_P fl_P_36 d_P_passesOn_65 ?_
        refine r_getR h fd_YC_21_2 cf_Packs fl_P_285 d_P_passesOn_68 ?_
        refine r_iload h d_P_passesOn_71 0 rfl ?_
        refine r_iald h sh_YC_24 d_P_passesOn_73 hf (fun hf => ?_)
        refine r_iadd h d_P_passesOn_74 ?_
        refine r_goto h d_P_passesOn_75 ?_
        refine r_iast h sh_YC_56 d_P_passesOn_82 hf (fun hf => ?_)
        refine r_iconst h d_P_passesOn_83 ki_1 ?_
        exact r_zreturn h d_P_passesOn_84.1 ((show (1 : Int32) = bi true from rfl).trans (congrArg bi (q_p1 hf))) (q_p2 hf)
    · refine r_iconst h d_P_passesOn_46 ki_0 ?_
      exact r_zreturn h d_P_passesOn_47.1 ((show (0 : Int32) = bi false from rfl).trans (congrArg bi (q_p1 hf))) (q_p2 hf)

theorem d_P_dead_0 : decode c_P_dead 0 = .ok (.aload_n 0, 1) ∧ 0 + 1 = 1 := by decide +kernel
theorem d_P_dead_1 : decode c_P_dead 1 = .ok (.getfield 12, 3) ∧ 1 + 3 = 4 := by decide +kernel
theorem d_P_dead_4 : decode c_P_dead 4 = .ok (.iload_n 1, 1) ∧ 4 + 1 = 5 := by decide +kernel
theorem d_P_dead_5 : decode c_P_dead 5 = .ok (.invokevirtual 112, 3) ∧ 5 + 3 = 8 := by decide +kernel
theorem d_P_dead_8 : decode c_P_dead 8 = .ok (.ifCond .ne 5, 3) ∧ 8 + 3 = 11 ∧ ((8 : Nat) : Int) + 5 = ((13 : Nat) : Int) := by decide +kernel
theorem d_P_dead_11 : decode c_P_dead 11 = .ok (.iconst (-1), 1) ∧ 11 + 1 = 12 := by decide +kernel
theorem d_P_dead_12 : decode c_P_dead 12 = .ok (.ireturn, 1) ∧ 12 + 1 = 13 := by decide +kernel
theorem d_P_dead_13 : decode c_P_dead 13 = .ok (.iload_n 2, 1) ∧ 13 + 1 = 14 := by decide +kernel
theorem d_P_dead_14 : decode c_P_dead 14 = .ok (.sipush 10000, 3) ∧ 14 + 3 = 17 := by decide +kernel
theorem d_P_dead_17 : decode c_P_dead 17 = .ok (.invokestatic 96, 3) ∧ 17 + 3 = 20 := by decide +kernel
theorem d_P_dead_20 : decode c_P_dead 20 = .ok (.ifCond .ne 6, 3) ∧ 20 + 3 = 23 ∧ ((20 : Nat) : Int) + 6 = ((26 : Nat) : Int) := by decide +kernel
theorem d_P_dead_23 : decode c_P_dead 23 = .ok (.bipush (-2), 2) ∧ 23 + 2 = 25 := by decide +kernel
theorem d_P_dead_25 : decode c_P_dead 25 = .ok (.ireturn, 1) ∧ 25 + 1 = 26 := by decide +kernel
theorem d_P_dead_26 : decode c_P_dead 26 = .ok (.iconst 0, 1) ∧ 26 + 1 = 27 := by decide +kernel
theorem d_P_dead_27 : decode c_P_dead 27 = .ok (.istore_n 3, 1) ∧ 27 + 1 = 28 := by decide +kernel
theorem d_P_dead_28 : decode c_P_dead 28 = .ok (.iconst 0, 1) ∧ 28 + 1 = 29 := by decide +kernel
theorem d_P_dead_29 : decode c_P_dead 29 = .ok (.istore 4, 2) ∧ 29 + 2 = 31 := by decide +kernel
theorem d_P_dead_31 : decode c_P_dead 31 = .ok (.iload 4, 2) ∧ 31 + 2 = 33 := by decide +kernel
theorem d_P_dead_33 : decode c_P_dead 33 = .ok (.aload_n 0, 1) ∧ 33 + 1 = 34 := by decide +kernel
theorem d_P_dead_34 : decode c_P_dead 34 = .ok (.getfield 64, 3) ∧ 34 + 3 = 37 := by decide +kernel
theorem d_P_dead_37 : decode c_P_dead 37 = .ok (.getfield 253, 3) ∧ 37 + 3 = 40 := by decide +kernel
theorem d_P_dead_40 : decode c_P_dead 40 = .ok (.if_icmp .ge 46, 3) ∧ 40 + 3 = 43 ∧ ((40 : Nat) : Int) + 46 = ((86 : Nat) : Int) := by decide +kernel
theorem d_P_dead_43 : decode c_P_dead 43 = .ok (.aload_n 0, 1) ∧ 43 + 1 = 44 := by decide +kernel
theorem d_P_dead_44 : decode c_P_dead 44 = .ok (.getfield 64, 3) ∧ 44 + 3 = 47 := by decide +kernel
theorem d_P_dead_47 : decode c_P_dead 47 = .ok (.iload_n 1, 1) ∧ 47 + 1 = 48 := by decide +kernel
theorem d_P_dead_48 : decode c_P_dead 48 = .ok (.iload 4, 2) ∧ 48 + 2 = 50 := by decide +kernel
theorem d_P_dead_50 : decode c_P_dead 50 = .ok (.iload_n 2, 1) ∧ 50 + 1 = 51 := by decide +kernel
theorem d_P_dead_51 : decode c_P_dead 51 = .ok (.invokevirtual 279, 3) ∧ 51 + 3 = 54 := by decide +kernel
theorem d_P_dead_54 : decode c_P_dead 54 = .ok (.ifCond .eq 26, 3) ∧ 54 + 3 = 57 ∧ ((54 : Nat) : Int) + 26 = ((80 : Nat) : Int) := by decide +kernel
theorem d_P_dead_57 : decode c_P_dead 57 = .ok (.aload_n 0, 1) ∧ 57 + 1 = 58 := by decide +kernel
theorem d_P_dead_58 : decode c_P_dead 58 = .ok (.iload 4, 2) ∧ 58 + 2 = 60 := by decide +kernel
theorem d_P_dead_60 : decode c_P_dead 60 = .ok (.iload_n 2, 1) ∧ 60 + 1 = 61 := by decide +kernel
theorem d_P_dead_61 : decode c_P_dead 61 = .ok (.invokevirtual 273, 3) ∧ 61 + 3 = 64 := by decide +kernel
theorem d_P_dead_64 : decode c_P_dead 64 = .ok (.ifCond .ne 16, 3) ∧ 64 + 3 = 67 ∧ ((64 : Nat) : Int) + 16 = ((80 : Nat) : Int) := by decide +kernel
theorem d_P_dead_67 : decode c_P_dead 67 = .ok (.aload_n 0, 1) ∧ 67 + 1 = 68 := by decide +kernel
theorem d_P_dead_68 : decode c_P_dead 68 = .ok (.iload 4, 2) ∧ 68 + 2 = 70 := by decide +kernel
theorem d_P_dead_70 : decode c_P_dead 70 = .ok (.iload_n 2, 1) ∧ 70 + 1 = 71 := by decide +kernel
theorem d_P_dead_71 : decode c_P_dead 71 = .ok (.invokevirtual 282, 3) ∧ 71 + 3 = 74 := by decide +kernel
theorem d_P_dead_74 : decode c_P_dead 74 = .ok (.ifCond .eq 6, 3) ∧ 74 + 3 = 77 ∧ ((74 : Nat) : Int) + 6 = ((80 : Nat) : Int) := by decide +kernel
theorem d_P_dead_77 : decode c_P_dead 77 = .ok (.iinc 3 1, 3) ∧ 77 + 3 = 80 := by decide +kernel
theorem d_P_dead_80 : decode c_P_dead 80 = .ok (.iinc 4 1, 3) ∧ 80 + 3 = 83 := by decide +kernel
theorem d_P_dead_83 : decode c_P_dead 83 = .ok (.goto (-52), 3) ∧ (83 : Int) + (-52) = (31 : Int) := by decide +kernel
theorem d_P_dead_86 : decode c_P_dead 86 = .ok (.iload_n 3, 1) ∧ 86 + 1 = 87 := by decide +kernel
theorem d_P_dead_87 : decode c_P_dead 87 = .ok (.ireturn, 1) ∧ 87 + 1 = 88 := by decide +kernel
set_option maxHeartbeats 4000000 in
theorem w_P_dead_L31 {Z : Sy} {Γ : Nat → List (Nat × Value) → List Value → St → Prop} {res : (Int32 × St)} {x1 : Int32} {x2 : Int32} (h : IsG YC Z R_P c_P_dead 5 6 (some .int) (some (.int res.1)) res.2 Γ) : ∀ (n : Nat) (x3 : Int32) (x4 : Int32) (σ : St), P_dead_L31 x1 x2 n x3 x4 σ = some res → Γ 31 [(0, .ref (ya Z 0)), (1, .int x1), (2, .int x2), (3, .int x3), (4, .int x4)] [] σ := by
  intro n
  induction n with
  | zero => intro x3 x4 σ hf; exact absurd hf (by simp [P_dead_L31])
  | succ n ih =>
    intro x3 x4 σ hf
    rw [P_dead_L31] at hf
    refine r_iload h d_P_dead_31 4 rfl ?_
    refine r_aload_n h d_P_dead_33 0 rfl rfl ?_
    refine r_getR h fd_YC_0_8 cf_P fl_P_64 d_P_dead_34 ?_
    refine r_getI h fd_YC_49_7 cf_Debts fl_P_253 d_P_dead_37 ?_
    refine r_icmp_ge h d_P_dead_40 hf (fun hf => ?_) (fun hf => ?_)
    · refine r_iload_n h d_P_dead_86 3 rfl rfl ?_
      exact r_ireturn h d_P_dead_87.1 (q_p1 hf) (q_p2 hf)
    · refine r_aload_n h d_P_dead_43 0 rfl rfl ?_
      refine r_getR h fd_YC_0_8 cf_P fl_P_64 d_P_dead_44 ?_
      refine r_iload_n h d_P_dead_47 1 rfl rfl ?_
      refine r_iload h d_P_dead_48 4 rfl ?_
      refine r_iload_n h d_P_dead_50 2 rfl rfl ?_
      obtain ⟨r51, e51, hf⟩ := q_bind hf
      refine r_callV (As := [.int x1, .int x4, .int x2]) (rest := []) h sh_YC_49 lk_P_279 vk_P_279 d_P_dead_51 (by decide) rfl rfl (Nat.le_of_ble_eq_true rfl) (m_Debts_isLeftBy e51) ?_
      refine r_bif_eq h d_P_dead_54 hf (fun hf => ?_) (fun hf => ?_)
      · refine r_iinc (ls' := [(4, .int (x4 + (1 : Int32))), (0, .ref (ya Z 0)), (1, .int x1), (2, .int x2), (3, .int x3)]) h d_P_dead_80 4 rfl ki_1 (by decide) rfl ?_
        refine r_goto h d_P_dead_83 ?_
        refine r_sub h [1, 2, 3, 4, 0] rfl ?_
        exact ih _ _ _ hf
      · refine r_aload_n h d_P_dead_57 0 rfl rfl ?_
        refine r_iload h d_P_dead_58 4 rfl ?_
        refine r_iload_n h d_P_dead_60 2 rfl rfl ?_
        obtain ⟨r61, e61, hf⟩ := q_bind hf
        refine r_callV (As := [.int x4, .int x2]) (rest := []) h sh_YC_0 lk_P_273 vk_P_273 d_P_dead_61 (by decide) rfl rfl (Nat.le_of_ble_eq_true rfl) (m_P_isBarred e61) ?_
        refine r_bif_ne h d_P_dead_64 hf (fun hf => ?_) (fun hf => ?_)
        · refine r_iinc (ls' := [(4, .int (x4 + (1 : Int32))), (0, .ref (ya Z 0)), (1, .int x1), (2, .int x2), (3, .int x3)]) h d_P_dead_80 4 rfl ki_1 (by decide) rfl ?_
          refine r_goto h d_P_dead_83 ?_
          refine r_sub h [1, 2, 3, 4, 0] rfl ?_
          exact ih _ _ _ hf
        · refine r_aload_n h d_P_dead_67 0 rfl rfl ?_
          refine r_iload h d_P_dead_68 4 rfl ?_
          refine r_iload_n h d_P_dead_70 2 rfl rfl ?_
          obtain ⟨q71, e71, hf⟩ := q_bind hf
          refine r_callV (As := [.int x4, .int x2]) (rest := []) h sh_YC_0 lk_P_282 vk_P_282 d_P_dead_71 (by decide) rfl rfl (Nat.le_of_ble_eq_true rfl) (m_P_passesOn e71) ?_
          refine r_bif_eq h d_P_dead_74 hf (fun hf => ?_) (fun hf => ?_)
          · refine r_iinc (ls' := [(4, .int (x4 + (1 : Int32))), (0, .ref (ya Z 0)), (1, .int x1), (2, .int x2), (3, .int x3)]) h d_P_dead_80 4 rfl ki_1 (by decide) rfl ?_
            refine r_goto h d_P_dead_83 ?_
            refine r_sub h [1, 2, 3, 4, 0] rfl ?_
            exact ih _ _ _ hf
          · refine r_iinc (ls' := [(3, .int (x3 + (1 : Int32))), (0, .ref (ya Z 0)), (1, .int x1), (2, .int x2), (4, .int x4)]) h d_P_dead_77 3 rfl ki_1 (by decide) rfl ?_
            refine r_iinc (ls' := [(4, .int (x4 + (1 : Int32))), (3, .int (x3 + (1 : Int32))), (0, .ref (ya Z 0)), (1, .int x1), (2, .int x2)]) h d_P_dead_80 4 rfl ki_1 (by decide) rfl ?_
            refine r_goto h d_P_dead_83 ?_
            refine r_sub h [2, 3, 4, 1, 0] rfl ?_
            exact ih _ _ _ hf

set_option maxHeartbeats 4000000 in
theorem m_P_dead {Z : Sy} {σ : St} {res : (Int32 × St)} {x1 : Int32} {x2 : Int32} (hf : P_dead x1 x2 σ = some res) : Ct YC Z y_P_dead c_P_dead 5 (some .int) 6 [.ref (ya Z 0), .int x1, .int x2] σ (some (.int res.1)) res.2 := by
  refine Ct.of pn_P (Nat.le_of_ble_eq_true rfl) rfl (fun Γ h => ?_)
  have h : IsG YC Z R_P c_P_dead 5 6 (some .int) (some (.int res.1)) res.2 Γ := h
  unfold P_dead at hf
  refine r_aload_n h d_P_dead_0 0 rfl rfl ?_
  refine r_getR h fd_YC_0_0 cf_P fl_P_12 d_P_dead_1 ?_
  refine r_iload_n h d_P_dead_4 1 rfl rfl ?_
  obtain ⟨r5, e5, hf⟩ := q_bind hf
  refine r_callV (As := [.int x1]) (rest := []) h sh_YC_1 lk_P_112 vk_P_112 d_P_dead_5 (by decide) rfl rfl (Nat.le_of_ble_eq_true rfl) (m_Roll_hasBand e5) ?_
  refine r_bif_ne h d_P_dead_8 hf (fun hf => ?_) (fun hf => ?_)
  · refine r_iload_n h d_P_dead_13 2 rfl rfl ?_
    refine r_sipush h d_P_dead_14 ks_10000 ?_
    obtain ⟨r17, e17, hf⟩ := q_bind hf
    refine r_callS (As := [.int x2, .int (10000 : Int32)]) (rest := []) h lk_P_96 sk_P_96 d_P_dead_17 (by decide) rfl rfl (Nat.le_of_ble_eq_true rfl) (m_P_isBelow e17) ?_
    refine r_bif_ne h d_P_dead_20 hf (fun hf => ?_) (fun hf => ?_)
    · refine r_iconst h d_P_dead_26 ki_0 ?_
      refine r_istore_n (ls' := [(3, .int (0 : Int32)), (0, .ref (ya Z 0)), (1, .int x1), (2, .int x2)]) h d_P_dead_27 rfl (by decide) rfl ?_
      refine r_iconst h d_P_dead_28 ki_0 ?_
      refine r_istore (ls' := [(4, .int (0 : Int32)), (3, .int (0 : Int32)), (0, .ref (ya Z 0)), (1, .int x1), (2, .int x2)]) h d_P_dead_29 (by decide) rfl ?_
      refine r_sub h [2, 3, 4, 1, 0] rfl ?_
      exact w_P_dead_L31 h _ _ _ _ hf
    · refine r_bipush h d_P_dead_23 kb_m2 ?_
      exact r_ireturn h d_P_dead_25.1 (q_p1 hf) (q_p2 hf)
  · refine r_iconst h d_P_dead_11 ki_m1 ?_
    exact r_ireturn h d_P_dead_12.1 (q_p1 hf) (q_p2 hf)

theorem d_Packs_sentBy_0 : decode c_Packs_sentBy 0 = .ok (.iconst 0, 1) ∧ 0 + 1 = 1 := by decide +kernel
theorem d_Packs_sentBy_1 : decode c_Packs_sentBy 1 = .ok (.istore_n 3, 1) ∧ 1 + 1 = 2 := by decide +kernel
theorem d_Packs_sentBy_2 : decode c_Packs_sentBy 2 = .ok (.iconst 0, 1) ∧ 2 + 1 = 3 := by decide +kernel
theorem d_Packs_sentBy_3 : decode c_Packs_sentBy 3 = .ok (.istore 4, 2) ∧ 3 + 2 = 5 := by decide +kernel
theorem d_Packs_sentBy_5 : decode c_Packs_sentBy 5 = .ok (.iload 4, 2) ∧ 5 + 2 = 7 := by decide +kernel
theorem d_Packs_sentBy_7 : decode c_Packs_sentBy 7 = .ok (.aload_n 0, 1) ∧ 7 + 1 = 8 := by decide +kernel
theorem d_Packs_sentBy_8 : decode c_Packs_sentBy 8 = .ok (.getfield 38, 3) ∧ 8 + 3 = 11 := by decide +kernel
theorem d_Packs_sentBy_11 : decode c_Packs_sentBy 11 = .ok (.if_icmp .ge 41, 3) ∧ 11 + 3 = 14 ∧ ((11 : Nat) : Int) + 41 = ((52 : Nat) : Int) := by decide +kernel
theorem d_Packs_sentBy_14 : decode c_Packs_sentBy 14 = .ok (.aload_n 0, 1) ∧ 14 + 1 = 15 := by decide +kernel
theorem d_Packs_sentBy_15 : decode c_Packs_sentBy 15 = .ok (.getfield 21, 3) ∧ 15 + 3 = 18 := by decide +kernel
theorem d_Packs_sentBy_18 : decode c_Packs_sentBy 18 = .ok (.iload 4, 2) ∧ 18 + 2 = 20 := by decide +kernel
theorem d_Packs_sentBy_20 : decode c_Packs_sentBy 20 = .ok (.iaload, 1) ∧ 20 + 1 = 21 := by decide +kernel
theorem d_Packs_sentBy_21 : decode c_Packs_sentBy 21 = .ok (.iload_n 1, 1) ∧ 21 + 1 = 22 := by decide +kernel
theorem d_Packs_sentBy_22 : decode c_Packs_sentBy 22 = .ok (.if_icmp .ne 24, 3) ∧ 22 + 3 = 25 ∧ ((22 : Nat) : Int) + 24 = ((46 : Nat) : Int) := by decide +kernel
theorem d_Packs_sentBy_25 : decode c_Packs_sentBy 25 = .ok (.aload_n 0, 1) ∧ 25 + 1 = 26 := by decide +kernel
theorem d_Packs_sentBy_26 : decode c_Packs_sentBy 26 = .ok (.getfield 27, 3) ∧ 26 + 3 = 29 := by decide +kernel
theorem d_Packs_sentBy_29 : decode c_Packs_sentBy 29 = .ok (.iload 4, 2) ∧ 29 + 2 = 31 := by decide +kernel
theorem d_Packs_sentBy_31 : decode c_Packs_sentBy 31 = .ok (.iaload, 1) ∧ 31 + 1 = 32 := by decide +kernel
theorem d_Packs_sentBy_32 : decode c_Packs_sentBy 32 = .ok (.iload_n 2, 1) ∧ 32 + 1 = 33 := by decide +kernel
theorem d_Packs_sentBy_33 : decode c_Packs_sentBy 33 = .ok (.if_icmp .gt 13, 3) ∧ 33 + 3 = 36 ∧ ((33 : Nat) : Int) + 13 = ((46 : Nat) : Int) := by decide +kernel
theorem d_Packs_sentBy_36 : decode c_Packs_sentBy 36 = .ok (.iload_n 3, 1) ∧ 36 + 1 = 37 := by decide +kernel
theorem d_Packs_sentBy_37 : decode c_Packs_sentBy 37 = .ok (.aload_n 0, 1) ∧ 37 + 1 = 38 := by decide +kernel
theorem d_Packs_sentBy_38 : decode c_Packs_sentBy 38 = .ok (.getfield 24, 3) ∧ 38 + 3 = 41 := by decide +kernel
theorem d_Packs_sentBy_41 : decode c_Packs_sentBy 41 = .ok (.iload 4, 2) ∧ 41 + 2 = 43 := by decide +kernel
theorem d_Packs_sentBy_43 : decode c_Packs_sentBy 43 = .ok (.iaload, 1) ∧ 43 + 1 = 44 := by decide +kernel
theorem d_Packs_sentBy_44 : decode c_Packs_sentBy 44 = .ok (.iadd, 1) ∧ 44 + 1 = 45 := by decide +kernel
theorem d_Packs_sentBy_45 : decode c_Packs_sentBy 45 = .ok (.istore_n 3, 1) ∧ 45 + 1 = 46 := by decide +kernel
theorem d_Packs_sentBy_46 : decode c_Packs_sentBy 46 = .ok (.iinc 4 1, 3) ∧ 46 + 3 = 49 := by decide +kernel
theorem d_Packs_sentBy_49 : decode c_Packs_sentBy 49 = .ok (.goto (-44), 3) ∧ (49 : Int) + (-44) = (5 : Int) := by decide +kernel
theorem d_Packs_sentBy_52 : decode c_Packs_sentBy 52 = .ok (.iload_n 3, 1) ∧ 52 + 1 = 53 := by decide +kernel
theorem d_Packs_sentBy_53 : decode c_Packs_sentBy 53 = .ok (.ireturn, 1) ∧ 53 + 1 = 54 := by decide +kernel
set_option maxHeartbeats 4000000 in
theorem w_Packs_sentBy_L5 {Z : Sy} {Γ : Nat → List (Nat × Value) → List Value → St → Prop} {res : Int32} {x1 : Int32} {x2 : Int32} {σ : St} (h : IsG YC Z R_Packs c_Packs_sentBy 5 1 (some .int) (some (.int res)) σ Γ) : ∀ (n : Nat) (x3 : Int32) (x4 : Int32), Packs_sentBy_L5 x1 x2 σ n x3 x4 = some res → Γ 5 [(0, .ref (ya Z 21)), (1, .int x1), (2, .int x2), (3, .int x3), (4, .int x4)] [] σ := by
  intro n
  induction n with
  | zero => intro x3 x4 hf; exact absurd hf (by simp [Packs_sentBy_L5])
  | succ n ih =>
    intro x3 x4 hf
    rw [Packs_sentBy_L5] at hf
    refine r_iload h d_Packs_sentBy_5 4 rfl ?_
    refine r_aload_n h d_Packs_sentBy_7 0 rfl rfl ?_
    refine r_getI h fd_YC_21_7 cf_Packs fl_Packs_38 d_Packs_sentBy_8 ?_
    refine r_icmp_ge h d_Packs_sentBy_11 hf (fun hf => ?_) (fun hf => ?_)
    · refine r_iload_n h d_Packs_sentBy_52 3 rfl rfl ?_
      exact r_ireturn h d_Packs_sentBy_53.1 (Option.some.inj hf) rfl
    · refine r_aload_n h d_Packs_sentBy_14 0 rfl rfl ?_
      refine r_getR h fd_YC_21_4 cf_Packs fl_Packs_21 d_Packs_sentBy_15 ?_
      refine r_iload h d_Packs_sentBy_18 4 rfl ?_
      refine r_iald h sh_YC_25 d_Packs_sentBy_20 hf (fun hf => ?_)
      refine r_iload_n h d_Packs_sentBy_21 1 rfl rfl ?_
      refine r_icmp_ne h d_Packs_sentBy_22 hf (fun hf => ?_) (fun hf => ?_)
      · refine r_iinc (ls' := [(4, .int (x4 + (1 : Int32))), (0, .ref (ya Z 21)), (1, .int x1), (2, .int x2), (3, .int x3)]) h d_Packs_sentBy_46 4 rfl ki_1 (by decide) rfl ?_
        refine r_goto h d_Packs_sentBy_49 ?_
        refine r_sub h [1, 2, 3, 4, 0] rfl ?_
        exact ih _ _ hf
      · refine r_aload_n h d_Packs_sentBy_25 0 rfl rfl ?_
        refine r_getR h fd_YC_21_6 cf_Packs fl_Packs_27 d_Packs_sentBy_26 ?_
        refine r_iload h d_Packs_sentBy_29 4 rfl ?_
        refine r_iald h sh_YC_27 d_Packs_sentBy_31 hf (fun hf => ?_)
        refine r_iload_n h d_Packs_sentBy_32 2 rfl rfl ?_
        refine r_icmp_gt h d_Packs_sentBy_33 hf (fun hf => ?_) (fun hf => ?_)
        · refine r_iinc (ls' := [(4, .int (x4 + (1 : Int32))), (0, .ref (ya Z 21)), (1, .int x1), (2, .int x2), (3, .int x3)]) h d_Packs_sentBy_46 4 rfl ki_1 (by decide) rfl ?_
          refine r_goto h d_Packs_sentBy_49 ?_
          refine r_sub h [1, 2, 3, 4, 0] rfl ?_
          exact ih _ _ hf
        · refine r_iload_n h d_Packs_sentBy_36 3 rfl rfl ?_
          refine r_aload_n h d_Packs_sentBy_37 0 rfl rfl ?_
          refine r_getR h fd_YC_21_5 cf_Packs fl_Packs_24 d_Packs_sentBy_38 ?_
          refine r_iload h d_Packs_sentBy_41 4 rfl ?_
          refine r_iald h sh_YC_26 d_Packs_sentBy_43 hf (fun hf => ?_)
          refine r_iadd h d_Packs_sentBy_44 ?_
          refine r_istore_n (ls' := [(3, .int (x3 + (σ.1 26 (Int32.toNatClampNeg x4)))), (0, .ref (ya Z 21)), (1, .int x1), (2, .int x2), (4, .int x4)]) h d_Packs_sentBy_45 rfl (by decide) rfl ?_
          refine r_iinc (ls' := [(4, .int (x4 + (1 : Int32))), (3, .int (x3 + (σ.1 26 (Int32.toNatClampNeg x4)))), (0, .ref (ya Z 21)), (1, .int x1), (2, .int x2)]) h d_Packs_sentBy_46 4 rfl ki_1 (by decide) rfl ?_
          refine r_goto h d_Packs_sentBy_49 ?_
          refine r_sub h [2, 3, 4, 1, 0] rfl ?_
          exact ih _ _ hf

set_option maxHeartbeats 4000000 in
theorem m_Packs_sentBy {Z : Sy} {σ : St} {res : Int32} {x1 : Int32} {x2 : Int32} (hf : Packs_sentBy x1 x2 σ = some res) : Ct YC Z y_Packs_sentBy c_Packs_sentBy 5 (some .int) 1 [.ref (ya Z 21), .int x1, .int x2] σ (some (.int res)) σ := by
  refine Ct.of pn_Packs (Nat.le_of_ble_eq_true rfl) rfl (fun Γ h => ?_)
  have h : IsG YC Z R_Packs c_Packs_sentBy 5 1 (some .int) (some (.int res)) σ Γ := h
  unfold Packs_sentBy at hf
  refine r_iconst h d_Packs_sentBy_0 ki_0 ?_
  refine r_istore_n (ls' := [(3, .int (0 : Int32)), (0, .ref (ya Z 21)), (1, .int x1), (2, .int x2)]) h d_Packs_sentBy_1 rfl (by decide) rfl ?_
  refine r_iconst h d_Packs_sentBy_2 ki_0 ?_
  refine r_istore (ls' := [(4, .int (0 : Int32)), (3, .int (0 : Int32)), (0, .ref (ya Z 21)), (1, .int x1), (2, .int x2)]) h d_Packs_sentBy_3 (by decide) rfl ?_
  refine r_sub h [2, 3, 4, 1, 0] rfl ?_
  exact w_Packs_sentBy_L5 h _ _ _ hf

theorem d_Packs_addSending_0 : decode c_Packs_addSending 0 = .ok (.aload_n 0, 1) ∧ 0 + 1 = 1 := by decide +kernel
theorem d_Packs_addSending_1 : decode c_Packs_addSending 1 = .ok (.getfield 38, 3) ∧ 1 + 3 = 4 := by decide +kernel
theorem d_Packs_addSending_4 : decode c_Packs_addSending 4 = .ok (.aload_n 0, 1) ∧ 4 + 1 = 5 := by decide +kernel
theorem d_Packs_addSending_5 : decode c_Packs_addSending 5 = .ok (.getfield 21, 3) ∧ 5 + 3 = 8 := by decide +kernel
theorem d_Packs_addSending_8 : decode c_Packs_addSending 8 = .ok (.arraylength, 1) ∧ 8 + 1 = 9 := by decide +kernel
theorem d_Packs_addSending_9 : decode c_Packs_addSending 9 = .ok (.if_icmp .lt 6, 3) ∧ 9 + 3 = 12 ∧ ((9 : Nat) : Int) + 6 = ((15 : Nat) : Int) := by decide +kernel
theorem d_Packs_addSending_12 : decode c_Packs_addSending 12 = .ok (.bipush (-4), 2) ∧ 12 + 2 = 14 := by decide +kernel
theorem d_Packs_addSending_14 : decode c_Packs_addSending 14 = .ok (.ireturn, 1) ∧ 14 + 1 = 15 := by decide +kernel
theorem d_Packs_addSending_15 : decode c_Packs_addSending 15 = .ok (.aload_n 0, 1) ∧ 15 + 1 = 16 := by decide +kernel
theorem d_Packs_addSending_16 : decode c_Packs_addSending 16 = .ok (.getfield 21, 3) ∧ 16 + 3 = 19 := by decide +kernel
theorem d_Packs_addSending_19 : decode c_Packs_addSending 19 = .ok (.aload_n 0, 1) ∧ 19 + 1 = 20 := by decide +kernel
theorem d_Packs_addSending_20 : decode c_Packs_addSending 20 = .ok (.getfield 38, 3) ∧ 20 + 3 = 23 := by decide +kernel
theorem d_Packs_addSending_23 : decode c_Packs_addSending 23 = .ok (.iload_n 1, 1) ∧ 23 + 1 = 24 := by decide +kernel
theorem d_Packs_addSending_24 : decode c_Packs_addSending 24 = .ok (.iastore, 1) ∧ 24 + 1 = 25 := by decide +kernel
theorem d_Packs_addSending_25 : decode c_Packs_addSending 25 = .ok (.aload_n 0, 1) ∧ 25 + 1 = 26 := by decide +kernel
theorem d_Packs_addSending_26 : decode c_Packs_addSending 26 = .ok (.getfield 24, 3) ∧ 26 + 3 = 29 := by decide +kernel
theorem d_Packs_addSending_29 : decode c_Packs_addSending 29 = .ok (.aload_n 0, 1) ∧ 29 + 1 = 30 := by decide +kernel
theorem d_Packs_addSending_30 : decode c_Packs_addSending 30 = .ok (.getfield 38, 3) ∧ 30 + 3 = 33 := by decide +kernel
theorem d_Packs_addSending_33 : decode c_Packs_addSending 33 = .ok (.iload_n 2, 1) ∧ 33 + 1 = 34 := by decide +kernel
theorem d_Packs_addSending_34 : decode c_Packs_addSending 34 = .ok (.iastore, 1) ∧ 34 + 1 = 35 := by decide +kernel
theorem d_Packs_addSending_35 : decode c_Packs_addSending 35 = .ok (.aload_n 0, 1) ∧ 35 + 1 = 36 := by decide +kernel
theorem d_Packs_addSending_36 : decode c_Packs_addSending 36 = .ok (.getfield 27, 3) ∧ 36 + 3 = 39 := by decide +kernel
theorem d_Packs_addSending_39 : decode c_Packs_addSending 39 = .ok (.aload_n 0, 1) ∧ 39 + 1 = 40 := by decide +kernel
theorem d_Packs_addSending_40 : decode c_Packs_addSending 40 = .ok (.getfield 38, 3) ∧ 40 + 3 = 43 := by decide +kernel
theorem d_Packs_addSending_43 : decode c_Packs_addSending 43 = .ok (.iload_n 3, 1) ∧ 43 + 1 = 44 := by decide +kernel
theorem d_Packs_addSending_44 : decode c_Packs_addSending 44 = .ok (.iastore, 1) ∧ 44 + 1 = 45 := by decide +kernel
theorem d_Packs_addSending_45 : decode c_Packs_addSending 45 = .ok (.aload_n 0, 1) ∧ 45 + 1 = 46 := by decide +kernel
theorem d_Packs_addSending_46 : decode c_Packs_addSending 46 = .ok (.dup, 1) ∧ 46 + 1 = 47 := by decide +kernel
theorem d_Packs_addSending_47 : decode c_Packs_addSending 47 = .ok (.getfield 38, 3) ∧ 47 + 3 = 50 := by decide +kernel
theorem d_Packs_addSending_50 : decode c_Packs_addSending 50 = .ok (.iconst 1, 1) ∧ 50 + 1 = 51 := by decide +kernel
theorem d_Packs_addSending_51 : decode c_Packs_addSending 51 = .ok (.iadd, 1) ∧ 51 + 1 = 52 := by decide +kernel
theorem d_Packs_addSending_52 : decode c_Packs_addSending 52 = .ok (.putfield 38, 3) ∧ 52 + 3 = 55 := by decide +kernel
theorem d_Packs_addSending_55 : decode c_Packs_addSending 55 = .ok (.aload_n 0, 1) ∧ 55 + 1 = 56 := by decide +kernel
theorem d_Packs_addSending_56 : decode c_Packs_addSending 56 = .ok (.iload_n 1, 1) ∧ 56 + 1 = 57 := by decide +kernel
theorem d_Packs_addSending_57 : decode c_Packs_addSending 57 = .ok (.sipush 10000, 3) ∧ 57 + 3 = 60 := by decide +kernel
theorem d_Packs_addSending_60 : decode c_Packs_addSending 60 = .ok (.invokevirtual 41, 3) ∧ 60 + 3 = 63 := by decide +kernel
theorem d_Packs_addSending_63 : decode c_Packs_addSending 63 = .ok (.ireturn, 1) ∧ 63 + 1 = 64 := by decide +kernel
set_option maxHeartbeats 4000000 in
theorem m_Packs_addSending {Z : Sy} {σ : St} {res : (Int32 × St)} {x1 : Int32} {x2 : Int32} {x3 : Int32} (hf : Packs_addSending x1 x2 x3 σ = some res) : Ct YC Z y_Packs_addSending c_Packs_addSending 4 (some .int) 2 [.ref (ya Z 21), .int x1, .int x2, .int x3] σ (some (.int res.1)) res.2 := by
  refine Ct.of pn_Packs (Nat.le_of_ble_eq_true rfl) rfl (fun Γ h => ?_)
  have h : IsG YC Z R_Packs c_Packs_addSending 4 2 (some .int) (some (.int res.1)) res.2 Γ := h
  unfold Packs_addSending at hf
  refine r_aload_n h d_Packs_addSending_0 0 rfl rfl ?_
  refine r_getI h fd_YC_21_7 cf_Packs fl_Packs_38 d_Packs_addSending_1 ?_
  refine r_aload_n h d_Packs_addSending_4 0 rfl rfl ?_
  refine r_getR h fd_YC_21_4 cf_Packs fl_Packs_21 d_Packs_addSending_5 ?_
  refine r_alen h sh_YC_25 kn_512 d_Packs_addSending_8 ?_
  refine r_icmp_lt h d_Packs_addSending_9 hf (fun hf => ?_) (fun hf => ?_)
  · refine r_aload_n h d_Packs_addSending_15 0 rfl rfl ?_
    refine r_getR h fd_YC_21_4 cf_Packs fl_Packs_21 d_Packs_addSending_16 ?_
    refine r_aload_n h d_Packs_addSending_19 0 rfl rfl ?_
    refine r_getI h fd_YC_21_7 cf_Packs fl_Packs_38 d_Packs_addSending_20 ?_
    refine r_iload_n h d_Packs_addSending_23 1 rfl rfl ?_
    refine r_iast h sh_YC_25 d_Packs_addSending_24 hf (fun hf => ?_)
    refine r_aload_n h d_Packs_addSending_25 0 rfl rfl ?_
    refine r_getR h fd_YC_21_5 cf_Packs fl_Packs_24 d_Packs_addSending_26 ?_
    refine r_aload_n h d_Packs_addSending_29 0 rfl rfl ?_
    refine r_getIv (v := (σ.1 21 7)) h fd_YC_21_7 cf_Packs fl_Packs_38 d_Packs_addSending_30 rfl ?_
    refine r_iload_n h d_Packs_addSending_33 2 rfl rfl ?_
    refine r_iast h sh_YC_26 d_Packs_addSending_34 hf (fun hf => ?_)
    refine r_aload_n h d_Packs_addSending_35 0 rfl rfl ?_
    refine r_getR h fd_YC_21_6 cf_Packs fl_Packs_27 d_Packs_addSending_36 ?_
    refine r_aload_n h d_Packs_addSending_39 0 rfl rfl ?_
    refine r_getIv (v := (σ.1 21 7)) h fd_YC_21_7 cf_Packs fl_Packs_38 d_Packs_addSending_40 rfl ?_
    refine r_iload_n h d_Packs_addSending_43 3 rfl rfl ?_
    refine r_iast h sh_YC_27 d_Packs_addSending_44 hf (fun hf => ?_)
    refine r_aload_n h d_Packs_addSending_45 0 rfl rfl ?_
    refine r_dup h d_Packs_addSending_46 rfl ?_
    refine r_getIv (v := (σ.1 21 7)) h fd_YC_21_7 cf_Packs fl_Packs_38 d_Packs_addSending_47 rfl ?_
    refine r_iconst h d_Packs_addSending_50 ki_1 ?_
    refine r_iadd h d_Packs_addSending_51 ?_
    refine r_putI h fd_YC_21_7 cf_Packs fl_Packs_38 ⟨rfl, rfl⟩ d_Packs_addSending_52 ?_
    refine r_aload_n h d_Packs_addSending_55 0 rfl rfl ?_
    refine r_iload_n h d_Packs_addSending_56 1 rfl rfl ?_
    refine r_sipush h d_Packs_addSending_57 ks_10000 ?_
    obtain ⟨r60, e60, hf⟩ := q_bind hf
    refine r_callV (As := [.int x1, .int (10000 : Int32)]) (rest := []) h sh_YC_21 lk_Packs_41 vk_Packs_41 d_Packs_addSending_60 (by decide) rfl rfl (Nat.le_of_ble_eq_true rfl) (m_Packs_sentBy e60) ?_
    exact r_ireturn h d_Packs_addSending_63.1 (q_p1 hf) (q_p2 hf)
  · refine r_bipush h d_Packs_addSending_12 kb_m4 ?_
    exact r_ireturn h d_Packs_addSending_14.1 (q_p1 hf) (q_p2 hf)

theorem d_P_send_0 : decode c_P_send 0 = .ok (.aload_n 0, 1) ∧ 0 + 1 = 1 := by decide +kernel
theorem d_P_send_1 : decode c_P_send 1 = .ok (.getfield 36, 3) ∧ 1 + 3 = 4 := by decide +kernel
theorem d_P_send_4 : decode c_P_send 4 = .ok (.iload_n 1, 1) ∧ 4 + 1 = 5 := by decide +kernel
theorem d_P_send_5 : decode c_P_send 5 = .ok (.invokevirtual 146, 3) ∧ 5 + 3 = 8 := by decide +kernel
theorem d_P_send_8 : decode c_P_send 8 = .ok (.ifCond .ne 5, 3) ∧ 8 + 3 = 11 ∧ ((8 : Nat) : Int) + 5 = ((13 : Nat) : Int) := by decide +kernel
theorem d_P_send_11 : decode c_P_send 11 = .ok (.iconst (-1), 1) ∧ 11 + 1 = 12 := by decide +kernel
theorem d_P_send_12 : decode c_P_send 12 = .ok (.ireturn, 1) ∧ 12 + 1 = 13 := by decide +kernel
theorem d_P_send_13 : decode c_P_send 13 = .ok (.iload_n 2, 1) ∧ 13 + 1 = 14 := by decide +kernel
theorem d_P_send_14 : decode c_P_send 14 = .ok (.iconst 1, 1) ∧ 14 + 1 = 15 := by decide +kernel
theorem d_P_send_15 : decode c_P_send 15 = .ok (.if_icmp .lt 20, 3) ∧ 15 + 3 = 18 ∧ ((15 : Nat) : Int) + 20 = ((35 : Nat) : Int) := by decide +kernel
theorem d_P_send_18 : decode c_P_send 18 = .ok (.iload_n 2, 1) ∧ 18 + 1 = 19 := by decide +kernel
theorem d_P_send_19 : decode c_P_send 19 = .ok (.ldc_w 288, 3) ∧ 19 + 3 = 22 := by decide +kernel
theorem d_P_send_22 : decode c_P_send 22 = .ok (.if_icmp .gt 13, 3) ∧ 22 + 3 = 25 ∧ ((22 : Nat) : Int) + 13 = ((35 : Nat) : Int) := by decide +kernel
theorem d_P_send_25 : decode c_P_send 25 = .ok (.iload_n 3, 1) ∧ 25 + 1 = 26 := by decide +kernel
theorem d_P_send_26 : decode c_P_send 26 = .ok (.sipush 10000, 3) ∧ 26 + 3 = 29 := by decide +kernel
theorem d_P_send_29 : decode c_P_send 29 = .ok (.invokestatic 96, 3) ∧ 29 + 3 = 32 := by decide +kernel
theorem d_P_send_32 : decode c_P_send 32 = .ok (.ifCond .ne 6, 3) ∧ 32 + 3 = 35 ∧ ((32 : Nat) : Int) + 6 = ((38 : Nat) : Int) := by decide +kernel
theorem d_P_send_35 : decode c_P_send 35 = .ok (.bipush (-2), 2) ∧ 35 + 2 = 37 := by decide +kernel
theorem d_P_send_37 : decode c_P_send 37 = .ok (.ireturn, 1) ∧ 37 + 1 = 38 := by decide +kernel
theorem d_P_send_38 : decode c_P_send 38 = .ok (.aload_n 0, 1) ∧ 38 + 1 = 39 := by decide +kernel
theorem d_P_send_39 : decode c_P_send 39 = .ok (.getfield 36, 3) ∧ 39 + 3 = 42 := by decide +kernel
theorem d_P_send_42 : decode c_P_send 42 = .ok (.iload_n 1, 1) ∧ 42 + 1 = 43 := by decide +kernel
theorem d_P_send_43 : decode c_P_send 43 = .ok (.iload_n 2, 1) ∧ 43 + 1 = 44 := by decide +kernel
theorem d_P_send_44 : decode c_P_send 44 = .ok (.iload_n 3, 1) ∧ 44 + 1 = 45 := by decide +kernel
theorem d_P_send_45 : decode c_P_send 45 = .ok (.invokevirtual 289, 3) ∧ 45 + 3 = 48 := by decide +kernel
theorem d_P_send_48 : decode c_P_send 48 = .ok (.ireturn, 1) ∧ 48 + 1 = 49 := by decide +kernel
set_option maxHeartbeats 4000000 in
theorem m_P_send {Z : Sy} {σ : St} {res : (Int32 × St)} {x1 : Int32} {x2 : Int32} {x3 : Int32} (hf : P_send x1 x2 x3 σ = some res) : Ct YC Z y_P_send c_P_send 4 (some .int) 3 [.ref (ya Z 0), .int x1, .int x2, .int x3] σ (some (.int res.1)) res.2 := by
  refine Ct.of pn_P (Nat.le_of_ble_eq_true rfl) rfl (fun Γ h => ?_)
  have h : IsG YC Z R_P c_P_send 4 3 (some .int) (some (.int res.1)) res.2 Γ := h
  unfold P_send at hf
  refine r_aload_n h d_P_send_0 0 rfl rfl ?_
  refine r_getR h fd_YC_0_4 cf_P fl_P_36 d_P_send_1 ?_
  refine r_iload_n h d_P_send_4 1 rfl rfl ?_
  obtain ⟨r5, e5, hf⟩ := q_bind hf
  refine r_callV (As := [.int x1]) (rest := []) h sh_YC_21 lk_P_146 vk_P_146 d_P_send_5 (by decide) rfl rfl (Nat.le_of_ble_eq_true rfl) (m_Packs_has e5) ?_
  refine r_bif_ne h d_P_send_8 hf (fun hf => ?_) (fun hf => ?_)
  · refine r_iload_n h d_P_send_13 2 rfl rfl ?_
    refine r_iconst h d_P_send_14 ki_1 ?_
    refine r_icmp_lt h d_P_send_15 hf (fun hf => ?_) (fun hf => ?_)
    · refine r_bipush h d_P_send_35 kb_m2 ?_
      exact r_ireturn h d_P_send_37.1 (q_p1 hf) (q_p2 hf)
    · refine r_iload_n h d_P_send_18 2 rfl rfl ?_
      refine r_ldcw h d_P_send_19 tm_856 ?_
      refine r_icmp_gt h d_P_send_22 hf (fun hf => ?_) (fun hf => ?_)
      · refine r_bipush h d_P_send_35 kb_m2 ?_
        exact r_ireturn h d_P_send_37.1 (q_p1 hf) (q_p2 hf)
      · refine r_iload_n h d_P_send_25 3 rfl rfl ?_
        refine r_sipush h d_P_send_26 ks_10000 ?_
        obtain ⟨r29, e29, hf⟩ := q_bind hf
        refine r_callS (As := [.int x3, .int (10000 : Int32)]) (rest := []) h lk_P_96 sk_P_96 d_P_send_29 (by decide) rfl rfl (Nat.le_of_ble_eq_true rfl) (m_P_isBelow e29) ?_
        refine r_bif_ne h d_P_send_32 hf (fun hf => ?_) (fun hf => ?_)
        · refine r_aload_n h d_P_send_38 0 rfl rfl ?_
          refine r_getR h fd_YC_0_4 cf_P fl_P_36 d_P_send_39 ?_
          refine r_iload_n h d_P_send_42 1 rfl rfl ?_
          refine r_iload_n h d_P_send_43 2 rfl rfl ?_
          refine r_iload_n h d_P_send_44 3 rfl rfl ?_
          obtain ⟨q45, e45, hf⟩ := q_bind hf
          refine r_callV (As := [.int x1, .int x2, .int x3]) (rest := []) h sh_YC_21 lk_P_289 vk_P_289 d_P_send_45 (by decide) rfl rfl (Nat.le_of_ble_eq_true rfl) (m_Packs_addSending e45) ?_
          exact r_ireturn h d_P_send_48.1 (q_p1 hf) (q_p2 hf)
        · refine r_bipush h d_P_send_35 kb_m2 ?_
          exact r_ireturn h d_P_send_37.1 (q_p1 hf) (q_p2 hf)
  · refine r_iconst h d_P_send_11 ki_m1 ?_
    exact r_ireturn h d_P_send_12.1 (q_p1 hf) (q_p2 hf)

theorem d_Ledger_worth_0 : decode c_Ledger_worth 0 = .ok (.aload_n 0, 1) ∧ 0 + 1 = 1 := by decide +kernel
theorem d_Ledger_worth_1 : decode c_Ledger_worth 1 = .ok (.getfield 21, 3) ∧ 1 + 3 = 4 := by decide +kernel
theorem d_Ledger_worth_4 : decode c_Ledger_worth 4 = .ok (.iload_n 1, 1) ∧ 4 + 1 = 5 := by decide +kernel
theorem d_Ledger_worth_5 : decode c_Ledger_worth 5 = .ok (.iaload, 1) ∧ 5 + 1 = 6 := by decide +kernel
theorem d_Ledger_worth_6 : decode c_Ledger_worth 6 = .ok (.aload_n 0, 1) ∧ 6 + 1 = 7 := by decide +kernel
theorem d_Ledger_worth_7 : decode c_Ledger_worth 7 = .ok (.getfield 24, 3) ∧ 7 + 3 = 10 := by decide +kernel
theorem d_Ledger_worth_10 : decode c_Ledger_worth 10 = .ok (.iload_n 1, 1) ∧ 10 + 1 = 11 := by decide +kernel
theorem d_Ledger_worth_11 : decode c_Ledger_worth 11 = .ok (.iaload, 1) ∧ 11 + 1 = 12 := by decide +kernel
theorem d_Ledger_worth_12 : decode c_Ledger_worth 12 = .ok (.imul, 1) ∧ 12 + 1 = 13 := by decide +kernel
theorem d_Ledger_worth_13 : decode c_Ledger_worth 13 = .ok (.ireturn, 1) ∧ 13 + 1 = 14 := by decide +kernel
set_option maxHeartbeats 4000000 in
theorem m_Ledger_worth {Z : Sy} {σ : St} {res : Int32} {x1 : Int32} (hf : Ledger_worth x1 σ = some res) : Ct YC Z y_Ledger_worth c_Ledger_worth 2 (some .int) 1 [.ref (ya Z 28), .int x1] σ (some (.int res)) σ := by
  refine Ct.of pn_Ledger (Nat.le_of_ble_eq_true rfl) rfl (fun Γ h => ?_)
  have h : IsG YC Z R_Ledger c_Ledger_worth 2 1 (some .int) (some (.int res)) σ Γ := h
  unfold Ledger_worth at hf
  refine r_aload_n h d_Ledger_worth_0 0 rfl rfl ?_
  refine r_getR h fd_YC_28_3 cf_Ledger fl_Ledger_21 d_Ledger_worth_1 ?_
  refine r_iload_n h d_Ledger_worth_4 1 rfl rfl ?_
  refine r_iald h sh_YC_32 d_Ledger_worth_5 hf (fun hf => ?_)
  refine r_aload_n h d_Ledger_worth_6 0 rfl rfl ?_
  refine r_getR h fd_YC_28_4 cf_Ledger fl_Ledger_24 d_Ledger_worth_7 ?_
  refine r_iload_n h d_Ledger_worth_10 1 rfl rfl ?_
  refine r_iald h sh_YC_33 d_Ledger_worth_11 hf (fun hf => ?_)
  refine r_imul h d_Ledger_worth_12 ?_
  exact r_ireturn h d_Ledger_worth_13.1 (Option.some.inj hf) rfl

theorem d_P_credit_0 : decode c_P_credit 0 = .ok (.aload_n 0, 1) ∧ 0 + 1 = 1 := by decide +kernel
theorem d_P_credit_1 : decode c_P_credit 1 = .ok (.getfield 36, 3) ∧ 1 + 3 = 4 := by decide +kernel
theorem d_P_credit_4 : decode c_P_credit 4 = .ok (.iload_n 1, 1) ∧ 4 + 1 = 5 := by decide +kernel
theorem d_P_credit_5 : decode c_P_credit 5 = .ok (.invokevirtual 146, 3) ∧ 5 + 3 = 8 := by decide +kernel
theorem d_P_credit_8 : decode c_P_credit 8 = .ok (.ifCond .eq 13, 3) ∧ 8 + 3 = 11 ∧ ((8 : Nat) : Int) + 13 = ((21 : Nat) : Int) := by decide +kernel
theorem d_P_credit_11 : decode c_P_credit 11 = .ok (.iload_n 2, 1) ∧ 11 + 1 = 12 := by decide +kernel
theorem d_P_credit_12 : decode c_P_credit 12 = .ok (.sipush 10000, 3) ∧ 12 + 3 = 15 := by decide +kernel
theorem d_P_credit_15 : decode c_P_credit 15 = .ok (.invokestatic 96, 3) ∧ 15 + 3 = 18 := by decide +kernel
theorem d_P_credit_18 : decode c_P_credit 18 = .ok (.ifCond .ne 7, 3) ∧ 18 + 3 = 21 ∧ ((18 : Nat) : Int) + 7 = ((25 : Nat) : Int) := by decide +kernel
theorem d_P_credit_21 : decode c_P_credit 21 = .ok (.ldc2_w 292, 3) ∧ 21 + 3 = 24 := by decide +kernel
theorem d_P_credit_24 : decode c_P_credit 24 = .ok (.lreturn, 1) ∧ 24 + 1 = 25 := by decide +kernel
theorem d_P_credit_25 : decode c_P_credit 25 = .ok (.lconst 0, 1) ∧ 25 + 1 = 26 := by decide +kernel
theorem d_P_credit_26 : decode c_P_credit 26 = .ok (.lstore_n 3, 1) ∧ 26 + 1 = 27 := by decide +kernel
theorem d_P_credit_27 : decode c_P_credit 27 = .ok (.iconst 0, 1) ∧ 27 + 1 = 28 := by decide +kernel
theorem d_P_credit_28 : decode c_P_credit 28 = .ok (.istore 5, 2) ∧ 28 + 2 = 30 := by decide +kernel
theorem d_P_credit_30 : decode c_P_credit 30 = .ok (.iload 5, 2) ∧ 30 + 2 = 32 := by decide +kernel
theorem d_P_credit_32 : decode c_P_credit 32 = .ok (.aload_n 0, 1) ∧ 32 + 1 = 33 := by decide +kernel
theorem d_P_credit_33 : decode c_P_credit 33 = .ok (.getfield 43, 3) ∧ 33 + 3 = 36 := by decide +kernel
theorem d_P_credit_36 : decode c_P_credit 36 = .ok (.getfield 169, 3) ∧ 36 + 3 = 39 := by decide +kernel
theorem d_P_credit_39 : decode c_P_credit 39 = .ok (.if_icmp .ge 116, 3) ∧ 39 + 3 = 42 ∧ ((39 : Nat) : Int) + 116 = ((155 : Nat) : Int) := by decide +kernel
theorem d_P_credit_42 : decode c_P_credit 42 = .ok (.aload_n 0, 1) ∧ 42 + 1 = 43 := by decide +kernel
theorem d_P_credit_43 : decode c_P_credit 43 = .ok (.getfield 43, 3) ∧ 43 + 3 = 46 := by decide +kernel
theorem d_P_credit_46 : decode c_P_credit 46 = .ok (.getfield 178, 3) ∧ 46 + 3 = 49 := by decide +kernel
theorem d_P_credit_49 : decode c_P_credit 49 = .ok (.iload 5, 2) ∧ 49 + 2 = 51 := by decide +kernel
theorem d_P_credit_51 : decode c_P_credit 51 = .ok (.iaload, 1) ∧ 51 + 1 = 52 := by decide +kernel
theorem d_P_credit_52 : decode c_P_credit 52 = .ok (.iload_n 1, 1) ∧ 52 + 1 = 53 := by decide +kernel
theorem d_P_credit_53 : decode c_P_credit 53 = .ok (.if_icmp .ne 96, 3) ∧ 53 + 3 = 56 ∧ ((53 : Nat) : Int) + 96 = ((149 : Nat) : Int) := by decide +kernel
theorem d_P_credit_56 : decode c_P_credit 56 = .ok (.aload_n 0, 1) ∧ 56 + 1 = 57 := by decide +kernel
theorem d_P_credit_57 : decode c_P_credit 57 = .ok (.getfield 43, 3) ∧ 57 + 3 = 60 := by decide +kernel
theorem d_P_credit_60 : decode c_P_credit 60 = .ok (.getfield 181, 3) ∧ 60 + 3 = 63 := by decide +kernel
theorem d_P_credit_63 : decode c_P_credit 63 = .ok (.iload 5, 2) ∧ 63 + 2 = 65 := by decide +kernel
theorem d_P_credit_65 : decode c_P_credit 65 = .ok (.iaload, 1) ∧ 65 + 1 = 66 := by decide +kernel
theorem d_P_credit_66 : decode c_P_credit 66 = .ok (.ifCond .ne 83, 3) ∧ 66 + 3 = 69 ∧ ((66 : Nat) : Int) + 83 = ((149 : Nat) : Int) := by decide +kernel
theorem d_P_credit_69 : decode c_P_credit 69 = .ok (.aload_n 0, 1) ∧ 69 + 1 = 70 := by decide +kernel
theorem d_P_credit_70 : decode c_P_credit 70 = .ok (.getfield 43, 3) ∧ 70 + 3 = 73 := by decide +kernel
theorem d_P_credit_73 : decode c_P_credit 73 = .ok (.getfield 193, 3) ∧ 73 + 3 = 76 := by decide +kernel
theorem d_P_credit_76 : decode c_P_credit 76 = .ok (.iload 5, 2) ∧ 76 + 2 = 78 := by decide +kernel
theorem d_P_credit_78 : decode c_P_credit 78 = .ok (.iaload, 1) ∧ 78 + 1 = 79 := by decide +kernel
theorem d_P_credit_79 : decode c_P_credit 79 = .ok (.iload_n 2, 1) ∧ 79 + 1 = 80 := by decide +kernel
theorem d_P_credit_80 : decode c_P_credit 80 = .ok (.if_icmp .le 6, 3) ∧ 80 + 3 = 83 ∧ ((80 : Nat) : Int) + 6 = ((86 : Nat) : Int) := by decide +kernel
theorem d_P_credit_83 : decode c_P_credit 83 = .ok (.goto 66, 3) ∧ (83 : Int) + 66 = (149 : Int) := by decide +kernel
theorem d_P_credit_86 : decode c_P_credit 86 = .ok (.aload_n 0, 1) ∧ 86 + 1 = 87 := by decide +kernel
theorem d_P_credit_87 : decode c_P_credit 87 = .ok (.getfield 43, 3) ∧ 87 + 3 = 90 := by decide +kernel
theorem d_P_credit_90 : decode c_P_credit 90 = .ok (.iload 5, 2) ∧ 90 + 2 = 92 := by decide +kernel
theorem d_P_credit_92 : decode c_P_credit 92 = .ok (.invokevirtual 294, 3) ∧ 92 + 3 = 95 := by decide +kernel
theorem d_P_credit_95 : decode c_P_credit 95 = .ok (.i2l, 1) ∧ 95 + 1 = 96 := by decide +kernel
theorem d_P_credit_96 : decode c_P_credit 96 = .ok (.lstore 6, 2) ∧ 96 + 2 = 98 := by decide +kernel
theorem d_P_credit_98 : decode c_P_credit 98 = .ok (.aload_n 0, 1) ∧ 98 + 1 = 99 := by decide +kernel
theorem d_P_credit_99 : decode c_P_credit 99 = .ok (.getfield 57, 3) ∧ 99 + 3 = 102 := by decide +kernel
theorem d_P_credit_102 : decode c_P_credit 102 = .ok (.iconst 1, 1) ∧ 102 + 1 = 103 := by decide +kernel
theorem d_P_credit_103 : decode c_P_credit 103 = .ok (.iconst (-1), 1) ∧ 103 + 1 = 104 := by decide +kernel
theorem d_P_credit_104 : decode c_P_credit 104 = .ok (.aload_n 0, 1) ∧ 104 + 1 = 105 := by decide +kernel
theorem d_P_credit_105 : decode c_P_credit 105 = .ok (.getfield 43, 3) ∧ 105 + 3 = 108 := by decide +kernel
theorem d_P_credit_108 : decode c_P_credit 108 = .ok (.getfield 193, 3) ∧ 108 + 3 = 111 := by decide +kernel
theorem d_P_credit_111 : decode c_P_credit 111 = .ok (.iload 5, 2) ∧ 111 + 2 = 113 := by decide +kernel
theorem d_P_credit_113 : decode c_P_credit 113 = .ok (.iaload, 1) ∧ 113 + 1 = 114 := by decide +kernel
theorem d_P_credit_114 : decode c_P_credit 114 = .ok (.invokevirtual 225, 3) ∧ 114 + 3 = 117 := by decide +kernel
theorem d_P_credit_117 : decode c_P_credit 117 = .ok (.i2l, 1) ∧ 117 + 1 = 118 := by decide +kernel
theorem d_P_credit_118 : decode c_P_credit 118 = .ok (.lstore 8, 2) ∧ 118 + 2 = 120 := by decide +kernel
theorem d_P_credit_120 : decode c_P_credit 120 = .ok (.lload_n 3, 1) ∧ 120 + 1 = 121 := by decide +kernel
theorem d_P_credit_121 : decode c_P_credit 121 = .ok (.lload 6, 2) ∧ 121 + 2 = 123 := by decide +kernel
theorem d_P_credit_123 : decode c_P_credit 123 = .ok (.lload 6, 2) ∧ 123 + 2 = 125 := by decide +kernel
theorem d_P_credit_125 : decode c_P_credit 125 = .ok (.lload 8, 2) ∧ 125 + 2 = 127 := by decide +kernel
theorem d_P_credit_127 : decode c_P_credit 127 = .ok (.lmul, 1) ∧ 127 + 1 = 128 := by decide +kernel
theorem d_P_credit_128 : decode c_P_credit 128 = .ok (.iload_n 2, 1) ∧ 128 + 1 = 129 := by decide +kernel
theorem d_P_credit_129 : decode c_P_credit 129 = .ok (.aload_n 0, 1) ∧ 129 + 1 = 130 := by decide +kernel
theorem d_P_credit_130 : decode c_P_credit 130 = .ok (.getfield 43, 3) ∧ 130 + 3 = 133 := by decide +kernel
theorem d_P_credit_133 : decode c_P_credit 133 = .ok (.getfield 193, 3) ∧ 133 + 3 = 136 := by decide +kernel
theorem d_P_credit_136 : decode c_P_credit 136 = .ok (.iload 5, 2) ∧ 136 + 2 = 138 := by decide +kernel
theorem d_P_credit_138 : decode c_P_credit 138 = .ok (.iaload, 1) ∧ 138 + 1 = 139 := by decide +kernel
theorem d_P_credit_139 : decode c_P_credit 139 = .ok (.isub, 1) ∧ 139 + 1 = 140 := by decide +kernel
theorem d_P_credit_140 : decode c_P_credit 140 = .ok (.i2l, 1) ∧ 140 + 1 = 141 := by decide +kernel
theorem d_P_credit_141 : decode c_P_credit 141 = .ok (.lmul, 1) ∧ 141 + 1 = 142 := by decide +kernel
theorem d_P_credit_142 : decode c_P_credit 142 = .ok (.ldc2_w 297, 3) ∧ 142 + 3 = 145 := by decide +kernel
theorem d_P_credit_145 : decode c_P_credit 145 = .ok (.ldiv, 1) ∧ 145 + 1 = 146 := by decide +kernel
theorem d_P_credit_146 : decode c_P_credit 146 = .ok (.ladd, 1) ∧ 146 + 1 = 147 := by decide +kernel
theorem d_P_credit_147 : decode c_P_credit 147 = .ok (.ladd, 1) ∧ 147 + 1 = 148 := by decide +kernel
theorem d_P_credit_148 : decode c_P_credit 148 = .ok (.lstore_n 3, 1) ∧ 148 + 1 = 149 := by decide +kernel
theorem d_P_credit_149 : decode c_P_credit 149 = .ok (.iinc 5 1, 3) ∧ 149 + 3 = 152 := by decide +kernel
theorem d_P_credit_152 : decode c_P_credit 152 = .ok (.goto (-122), 3) ∧ (152 : Int) + (-122) = (30 : Int) := by decide +kernel
theorem d_P_credit_155 : decode c_P_credit 155 = .ok (.lconst 0, 1) ∧ 155 + 1 = 156 := by decide +kernel
theorem d_P_credit_156 : decode c_P_credit 156 = .ok (.lload_n 3, 1) ∧ 156 + 1 = 157 := by decide +kernel
theorem d_P_credit_157 : decode c_P_credit 157 = .ok (.aload_n 0, 1) ∧ 157 + 1 = 158 := by decide +kernel
theorem d_P_credit_158 : decode c_P_credit 158 = .ok (.getfield 36, 3) ∧ 158 + 3 = 161 := by decide +kernel
theorem d_P_credit_161 : decode c_P_credit 161 = .ok (.iload_n 1, 1) ∧ 161 + 1 = 162 := by decide +kernel
theorem d_P_credit_162 : decode c_P_credit 162 = .ok (.iload_n 2, 1) ∧ 162 + 1 = 163 := by decide +kernel
theorem d_P_credit_163 : decode c_P_credit 163 = .ok (.invokevirtual 299, 3) ∧ 163 + 3 = 166 := by decide +kernel
theorem d_P_credit_166 : decode c_P_credit 166 = .ok (.i2l, 1) ∧ 166 + 1 = 167 := by decide +kernel
theorem d_P_credit_167 : decode c_P_credit 167 = .ok (.lsub, 1) ∧ 167 + 1 = 168 := by decide +kernel
theorem d_P_credit_168 : decode c_P_credit 168 = .ok (.invokestatic 302, 3) ∧ 168 + 3 = 171 := by decide +kernel
theorem d_P_credit_171 : decode c_P_credit 171 = .ok (.lreturn, 1) ∧ 171 + 1 = 172 := by decide +kernel
set_option maxHeartbeats 4000000 in
theorem w_P_credit_L30 {Z : Sy} {Γ : Nat → List (Nat × Value) → List Value → St → Prop} {res : Int64} {x1 : Int32} {x2 : Int32} {σ : St} (h : IsG YC Z R_P c_P_credit 10 4 (some .long) (some (.long res)) σ Γ) : ∀ (n : Nat) (x3 : Int64) (x5 : Int32), P_credit_L30 x1 x2 σ n x3 x5 = some res → Γ 30 [(0, .ref (ya Z 0)), (1, .int x1), (2, .int x2), (3, .long x3), (5, .int x5)] [] σ := by
  intro n
  induction n with
  | zero => intro x3 x5 hf; exact absurd hf (by simp [P_credit_L30])
  | succ n ih =>
    intro x3 x5 hf
    rw [P_credit_L30] at hf
    refine r_iload h d_P_credit_30 4 rfl ?_
    refine r_aload_n h d_P_credit_32 0 rfl rfl ?_
    refine r_getR h fd_YC_0_5 cf_P fl_P_43 d_P_credit_33 ?_
    refine r_getI h fd_YC_28_6 cf_Ledger fl_P_169 d_P_credit_36 ?_
    refine r_icmp_ge h d_P_credit_39 hf (fun hf => ?_) (fun hf => ?_)
    · refine r_lconst h d_P_credit_155 kl_0 ?_
      refine r_lload_n h d_P_credit_156 3 rfl rfl ?_
      refine r_aload_n h d_P_credit_157 0 rfl rfl ?_
      refine r_getR h fd_YC_0_4 cf_P fl_P_36 d_P_credit_158 ?_
      refine r_iload_n h d_P_credit_161 1 rfl rfl ?_
      refine r_iload_n h d_P_credit_162 2 rfl rfl ?_
      obtain ⟨r163, e163, hf⟩ := q_bind hf
      refine r_callV (As := [.int x1, .int x2]) (rest := [.long x3, .long (0 : Int64)]) h sh_YC_21 lk_P_299 vk_P_299 d_P_credit_163 (by decide) rfl rfl (Nat.le_of_ble_eq_true rfl) (m_Packs_sentBy e163) ?_
      refine r_i2l h d_P_credit_166 ?_
      refine r_lsub h d_P_credit_167 ?_
      refine r_mmaxl h ⟨tm_876, tm_877, tm_82, tm_878⟩ (by decide) (Nat.le_of_ble_eq_true rfl) d_P_credit_168 ?_
      exact r_lreturn h d_P_credit_171.1 (Option.some.inj hf) rfl
    · refine r_aload_n h d_P_credit_42 0 rfl rfl ?_
      refine r_getR h fd_YC_0_5 cf_P fl_P_43 d_P_credit_43 ?_
      refine r_getR h fd_YC_28_0 cf_Ledger fl_P_178 d_P_credit_46 ?_
      refine r_iload h d_P_credit_49 4 rfl ?_
      refine r_iald h sh_YC_29 d_P_credit_51 hf (fun hf => ?_)
      refine r_iload_n h d_P_credit_52 1 rfl rfl ?_
      refine r_icmp_ne h d_P_credit_53 hf (fun hf => ?_) (fun hf => ?_)
      · refine r_iinc (ls' := [(5, .int (x5 + (1 : Int32))), (0, .ref (ya Z 0)), (1, .int x1), (2, .int x2), (3, .long x3)]) h d_P_credit_149 4 rfl ki_1 (by decide) rfl ?_
        refine r_goto h d_P_credit_152 ?_
        refine r_sub h [1, 2, 3, 4, 0] rfl ?_
        exact ih _ _ hf
      · refine r_aload_n h d_P_credit_56 0 rfl rfl ?_
        refine r_getR h fd_YC_0_5 cf_P fl_P_43 d_P_credit_57 ?_
        refine r_getR h fd_YC_28_1 cf_Ledger fl_P_181 d_P_credit_60 ?_
        refine r_iload h d_P_credit_63 4 rfl ?_
        refine r_iald h sh_YC_30 d_P_credit_65 hf (fun hf => ?_)
        refine r_if_ne h d_P_credit_66 hf (fun hf => ?_) (fun hf => ?_)
        · refine r_iinc (ls' := [(5, .int (x5 + (1 : Int32))), (0, .ref (ya Z 0)), (1, .int x1), (2, .int x2), (3, .long x3)]) h d_P_credit_149 4 rfl ki_1 (by decide) rfl ?_
          refine r_goto h d_P_credit_152 ?_
          refine r_sub h [1, 2, 3, 4, 0] rfl ?_
          exact ih _ _ hf
        · refine r_aload_n h d_P_credit_69 0 rfl rfl ?_
          refine r_getR h fd_YC_0_5 cf_P fl_P_43 d_P_credit_70 ?_
          refine r_getR h fd_YC_28_5 cf_Ledger fl_P_193 d_P_credit_73 ?_
          refine r_iload h d_P_credit_76 4 rfl ?_
          refine r_iald h sh_YC_34 d_P_credit_78 hf (fun hf => ?_)
          refine r_iload_n h d_P_credit_79 2 rfl rfl ?_
          refine r_icmp_le h d_P_credit_80 hf (fun hf => ?_) (fun hf => ?_)
          · refine r_aload_n h d_P_credit_86 0 rfl rfl ?_
            refine r_getR h fd_YC_0_5 cf_P fl_P_43 d_P_credit_87 ?_
            refine r_iload h d_P_credit_90 4 rfl ?_
            obtain ⟨r92, e92, hf⟩ := q_bind hf
            refine r_callV (As := [.int x5]) (rest := []) h sh_YC_28 lk_P_294 vk_P_294 d_P_credit_92 (by decide) rfl rfl (Nat.le_of_ble_eq_true rfl) (m_Ledger_worth e92) ?_
            refine r_i2l h d_P_credit_95 ?_
            refine r_lstore (ls' := [(6, .long (Int32.toInt64 r92)), (0, .ref (ya Z 0)), (1, .int x1), (2, .int x2), (3, .long x3), (5, .int x5)]) h d_P_credit_96 (by decide) rfl ?_
            refine r_aload_n h d_P_credit_98 1 rfl rfl ?_
            refine r_getR h fd_YC_0_7 cf_P fl_P_57 d_P_credit_99 ?_
            refine r_iconst h d_P_credit_102 ki_1 ?_
            refine r_iconst h d_P_credit_103 ki_m1 ?_
            refine r_aload_n h d_P_credit_104 1 rfl rfl ?_
            refine r_getR h fd_YC_0_5 cf_P fl_P_43 d_P_credit_105 ?_
            refine r_getR h fd_YC_28_5 cf_Ledger fl_P_193 d_P_credit_108 ?_
            refine r_iload h d_P_credit_111 5 rfl ?_
            refine r_iald h sh_YC_34 d_P_credit_113 hf (fun hf => ?_)
            obtain ⟨r114, e114, hf⟩ := q_bind hf
            refine r_callV (As := [.int (1 : Int32), .int (-1 : Int32), .int (σ.1 34 (Int32.toNatClampNeg x5))]) (rest := []) h sh_YC_40 lk_P_225 vk_P_225 d_P_credit_114 (by decide) rfl rfl (Nat.le_of_ble_eq_true rfl) (m_Texts_valueIn e114) ?_
            refine r_i2l h d_P_credit_117 ?_
            refine r_lstore (ls' := [(8, .long (Int32.toInt64 r114)), (6, .long (Int32.toInt64 r92)), (0, .ref (ya Z 0)), (1, .int x1), (2, .int x2), (3, .long x3), (5, .int x5)]) h d_P_credit_118 (by decide) rfl ?_
            refine r_lload_n h d_P_credit_120 5 rfl rfl ?_
            refine r_lload h d_P_credit_121 1 rfl ?_
            refine r_lload h d_P_credit_123 1 rfl ?_
            refine r_lload h d_P_credit_125 0 rfl ?_
            refine r_lmul h d_P_credit_127 ?_
            refine r_iload_n h d_P_credit_128 4 rfl rfl ?_
            refine r_aload_n h d_P_credit_129 2 rfl rfl ?_
            refine r_getR h fd_YC_0_5 cf_P fl_P_43 d_P_credit_130 ?_
            refine r_getR h fd_YC_28_5 cf_Ledger fl_P_193 d_P_credit_133 ?_
            refine r_iload h d_P_credit_136 6 rfl ?_
            refine r_iald h sh_YC_34 d_P_credit_138 hf (fun hf => ?_)
            refine r_isub h d_P_credit_139 ?_
            refine r_i2l h d_P_credit_140 ?_
            refine r_lmul h d_P_credit_141 ?_
            refine r_ldc2 h d_P_credit_142 tm_874 ?_
            refine r_ldiv h d_P_credit_145 (by decide) ?_
            refine r_ladd h d_P_credit_146 ?_
            refine r_ladd h d_P_credit_147 ?_
            refine r_lstore_n (ls' := [(3, .long (x3 + ((Int32.toInt64 r92) + ((((Int32.toInt64 r92) * (Int32.toInt64 r114)) * (Int32.toInt64 (x2 - (σ.1 34 (Int32.toNatClampNeg x5))))) / (10000 : Int64))))), (8, .long (Int32.toInt64 r114)), (6, .long (Int32.toInt64 r92)), (0, .ref (ya Z 0)), (1, .int x1), (2, .int x2), (5, .int x5)]) h d_P_credit_148 rfl (by decide) rfl ?_
            refine r_iinc (ls' := [(5, .int (x5 + (1 : Int32))), (3, .long (x3 + ((Int32.toInt64 r92) + ((((Int32.toInt64 r92) * (Int32.toInt64 r114)) * (Int32.toInt64 (x2 - (σ.1 34 (Int32.toNatClampNeg x5))))) / (10000 : Int64))))), (8, .long (Int32.toInt64 r114)), (6, .long (Int32.toInt64 r92)), (0, .ref (ya Z 0)), (1, .int x1), (2, .int x2)]) h d_P_credit_149 6 rfl ki_1 (by decide) rfl ?_
            refine r_goto h d_P_credit_152 ?_
            refine r_sub h [4, 5, 6, 1, 0] rfl ?_
            exact ih _ _ hf
          · refine r_goto h d_P_credit_83 ?_
            refine r_iinc (ls' := [(5, .int (x5 + (1 : Int32))), (0, .ref (ya Z 0)), (1, .int x1), (2, .int x2), (3, .long x3)]) h d_P_credit_149 4 rfl ki_1 (by decide) rfl ?_
            refine r_goto h d_P_credit_152 ?_
            refine r_sub h [1, 2, 3, 4, 0] rfl ?_
            exact ih _ _ hf

set_option maxHeartbeats 4000000 in
theorem m_P_credit {Z : Sy} {σ : St} {res : Int64} {x1 : Int32} {x2 : Int32} (hf : P_credit x1 x2 σ = some res) : Ct YC Z y_P_credit c_P_credit 10 (some .long) 4 [.ref (ya Z 0), .int x1, .int x2] σ (some (.long res)) σ := by
  refine Ct.of pn_P (Nat.le_of_ble_eq_true rfl) rfl (fun Γ h => ?_)
  have h : IsG YC Z R_P c_P_credit 10 4 (some .long) (some (.long res)) σ Γ := h
  unfold P_credit at hf
  refine r_aload_n h d_P_credit_0 0 rfl rfl ?_
  refine r_getR h fd_YC_0_4 cf_P fl_P_36 d_P_credit_1 ?_
  refine r_iload_n h d_P_credit_4 1 rfl rfl ?_
  obtain ⟨r5, e5, hf⟩ := q_bind hf
  refine r_callV (As := [.int x1]) (rest := []) h sh_YC_21 lk_P_146 vk_P_146 d_P_credit_5 (by decide) rfl rfl (Nat.le_of_ble_eq_true rfl) (m_Packs_has e5) ?_
  refine r_bif_eq h d_P_credit_8 hf (fun hf => ?_) (fun hf => ?_)
  · refine r_ldc2 h d_P_credit_21 tm_869 ?_
    exact r_lreturn h d_P_credit_24.1 (Option.some.inj hf) rfl
  · refine r_iload_n h d_P_credit_11 2 rfl rfl ?_
    refine r_sipush h d_P_credit_12 ks_10000 ?_
    obtain ⟨r15, e15, hf⟩ := q_bind hf
    refine r_callS (As := [.int x2, .int (10000 : Int32)]) (rest := []) h lk_P_96 sk_P_96 d_P_credit_15 (by decide) rfl rfl (Nat.le_of_ble_eq_true rfl) (m_P_isBelow e15) ?_
    refine r_bif_ne h d_P_credit_18 hf (fun hf => ?_) (fun hf => ?_)
    · refine r_lconst h d_P_credit_25 kl_0 ?_
      refine r_lstore_n (ls' := [(3, .long (0 : Int64)), (0, .ref (ya Z 0)), (1, .int x1), (2, .int x2)]) h d_P_credit_26 rfl (by decide) rfl ?_
      refine r_iconst h d_P_credit_27 ki_0 ?_
      refine r_istore (ls' := [(5, .int (0 : Int32)), (3, .long (0 : Int64)), (0, .ref (ya Z 0)), (1, .int x1), (2, .int x2)]) h d_P_credit_28 (by decide) rfl ?_
      refine r_sub h [2, 3, 4, 1, 0] rfl ?_
      exact w_P_credit_L30 h _ _ _ hf
    · refine r_ldc2 h d_P_credit_21 tm_869 ?_
      exact r_lreturn h d_P_credit_24.1 (Option.some.inj hf) rfl

theorem d_P_gainOf_0 : decode c_P_gainOf 0 = .ok (.iconst 0, 1) ∧ 0 + 1 = 1 := by decide +kernel
theorem d_P_gainOf_1 : decode c_P_gainOf 1 = .ok (.istore 4, 2) ∧ 1 + 2 = 3 := by decide +kernel
theorem d_P_gainOf_3 : decode c_P_gainOf 3 = .ok (.iconst 0, 1) ∧ 3 + 1 = 4 := by decide +kernel
theorem d_P_gainOf_4 : decode c_P_gainOf 4 = .ok (.istore 5, 2) ∧ 4 + 2 = 6 := by decide +kernel
theorem d_P_gainOf_6 : decode c_P_gainOf 6 = .ok (.iload 5, 2) ∧ 6 + 2 = 8 := by decide +kernel
theorem d_P_gainOf_8 : decode c_P_gainOf 8 = .ok (.aload_n 0, 1) ∧ 8 + 1 = 9 := by decide +kernel
theorem d_P_gainOf_9 : decode c_P_gainOf 9 = .ok (.getfield 43, 3) ∧ 9 + 3 = 12 := by decide +kernel
theorem d_P_gainOf_12 : decode c_P_gainOf 12 = .ok (.getfield 169, 3) ∧ 12 + 3 = 15 := by decide +kernel
theorem d_P_gainOf_15 : decode c_P_gainOf 15 = .ok (.if_icmp .ge 137, 3) ∧ 15 + 3 = 18 ∧ ((15 : Nat) : Int) + 137 = ((152 : Nat) : Int) := by decide +kernel
theorem d_P_gainOf_18 : decode c_P_gainOf 18 = .ok (.aload_n 0, 1) ∧ 18 + 1 = 19 := by decide +kernel
theorem d_P_gainOf_19 : decode c_P_gainOf 19 = .ok (.getfield 43, 3) ∧ 19 + 3 = 22 := by decide +kernel
theorem d_P_gainOf_22 : decode c_P_gainOf 22 = .ok (.getfield 178, 3) ∧ 22 + 3 = 25 := by decide +kernel
theorem d_P_gainOf_25 : decode c_P_gainOf 25 = .ok (.iload 5, 2) ∧ 25 + 2 = 27 := by decide +kernel
theorem d_P_gainOf_27 : decode c_P_gainOf 27 = .ok (.iaload, 1) ∧ 27 + 1 = 28 := by decide +kernel
theorem d_P_gainOf_28 : decode c_P_gainOf 28 = .ok (.istore 6, 2) ∧ 28 + 2 = 30 := by decide +kernel
theorem d_P_gainOf_30 : decode c_P_gainOf 30 = .ok (.aload_n 0, 1) ∧ 30 + 1 = 31 := by decide +kernel
theorem d_P_gainOf_31 : decode c_P_gainOf 31 = .ok (.getfield 36, 3) ∧ 31 + 3 = 34 := by decide +kernel
theorem d_P_gainOf_34 : decode c_P_gainOf 34 = .ok (.iload 6, 2) ∧ 34 + 2 = 36 := by decide +kernel
theorem d_P_gainOf_36 : decode c_P_gainOf 36 = .ok (.invokevirtual 146, 3) ∧ 36 + 3 = 39 := by decide +kernel
theorem d_P_gainOf_39 : decode c_P_gainOf 39 = .ok (.ifCond .eq 107, 3) ∧ 39 + 3 = 42 ∧ ((39 : Nat) : Int) + 107 = ((146 : Nat) : Int) := by decide +kernel
theorem d_P_gainOf_42 : decode c_P_gainOf 42 = .ok (.aload_n 0, 1) ∧ 42 + 1 = 43 := by decide +kernel
theorem d_P_gainOf_43 : decode c_P_gainOf 43 = .ok (.getfield 36, 3) ∧ 43 + 3 = 46 := by decide +kernel
theorem d_P_gainOf_46 : decode c_P_gainOf 46 = .ok (.getfield 240, 3) ∧ 46 + 3 = 49 := by decide +kernel
theorem d_P_gainOf_49 : decode c_P_gainOf 49 = .ok (.iload 6, 2) ∧ 49 + 2 = 51 := by decide +kernel
theorem d_P_gainOf_51 : decode c_P_gainOf 51 = .ok (.iaload, 1) ∧ 51 + 1 = 52 := by decide +kernel
theorem d_P_gainOf_52 : decode c_P_gainOf 52 = .ok (.iload_n 1, 1) ∧ 52 + 1 = 53 := by decide +kernel
theorem d_P_gainOf_53 : decode c_P_gainOf 53 = .ok (.if_icmp .eq 6, 3) ∧ 53 + 3 = 56 ∧ ((53 : Nat) : Int) + 6 = ((59 : Nat) : Int) := by decide +kernel
theorem d_P_gainOf_56 : decode c_P_gainOf 56 = .ok (.goto 90, 3) ∧ (56 : Int) + 90 = (146 : Int) := by decide +kernel
theorem d_P_gainOf_59 : decode c_P_gainOf 59 = .ok (.aload_n 0, 1) ∧ 59 + 1 = 60 := by decide +kernel
theorem d_P_gainOf_60 : decode c_P_gainOf 60 = .ok (.getfield 43, 3) ∧ 60 + 3 = 63 := by decide +kernel
theorem d_P_gainOf_63 : decode c_P_gainOf 63 = .ok (.getfield 193, 3) ∧ 63 + 3 = 66 := by decide +kernel
theorem d_P_gainOf_66 : decode c_P_gainOf 66 = .ok (.iload 5, 2) ∧ 66 + 2 = 68 := by decide +kernel
theorem d_P_gainOf_68 : decode c_P_gainOf 68 = .ok (.iaload, 1) ∧ 68 + 1 = 69 := by decide +kernel
theorem d_P_gainOf_69 : decode c_P_gainOf 69 = .ok (.iload_n 2, 1) ∧ 69 + 1 = 70 := by decide +kernel
theorem d_P_gainOf_70 : decode c_P_gainOf 70 = .ok (.if_icmp .lt 76, 3) ∧ 70 + 3 = 73 ∧ ((70 : Nat) : Int) + 76 = ((146 : Nat) : Int) := by decide +kernel
theorem d_P_gainOf_73 : decode c_P_gainOf 73 = .ok (.aload_n 0, 1) ∧ 73 + 1 = 74 := by decide +kernel
theorem d_P_gainOf_74 : decode c_P_gainOf 74 = .ok (.getfield 43, 3) ∧ 74 + 3 = 77 := by decide +kernel
theorem d_P_gainOf_77 : decode c_P_gainOf 77 = .ok (.getfield 193, 3) ∧ 77 + 3 = 80 := by decide +kernel
theorem d_P_gainOf_80 : decode c_P_gainOf 80 = .ok (.iload 5, 2) ∧ 80 + 2 = 82 := by decide +kernel
theorem d_P_gainOf_82 : decode c_P_gainOf 82 = .ok (.iaload, 1) ∧ 82 + 1 = 83 := by decide +kernel
theorem d_P_gainOf_83 : decode c_P_gainOf 83 = .ok (.iload_n 3, 1) ∧ 83 + 1 = 84 := by decide +kernel
theorem d_P_gainOf_84 : decode c_P_gainOf 84 = .ok (.if_icmp .le 6, 3) ∧ 84 + 3 = 87 ∧ ((84 : Nat) : Int) + 6 = ((90 : Nat) : Int) := by decide +kernel
theorem d_P_gainOf_87 : decode c_P_gainOf 87 = .ok (.goto 59, 3) ∧ (87 : Int) + 59 = (146 : Int) := by decide +kernel
theorem d_P_gainOf_90 : decode c_P_gainOf 90 = .ok (.aload_n 0, 1) ∧ 90 + 1 = 91 := by decide +kernel
theorem d_P_gainOf_91 : decode c_P_gainOf 91 = .ok (.getfield 43, 3) ∧ 91 + 3 = 94 := by decide +kernel
theorem d_P_gainOf_94 : decode c_P_gainOf 94 = .ok (.getfield 181, 3) ∧ 94 + 3 = 97 := by decide +kernel
theorem d_P_gainOf_97 : decode c_P_gainOf 97 = .ok (.iload 5, 2) ∧ 97 + 2 = 99 := by decide +kernel
theorem d_P_gainOf_99 : decode c_P_gainOf 99 = .ok (.iaload, 1) ∧ 99 + 1 = 100 := by decide +kernel
theorem d_P_gainOf_100 : decode c_P_gainOf 100 = .ok (.iconst 2, 1) ∧ 100 + 1 = 101 := by decide +kernel
theorem d_P_gainOf_101 : decode c_P_gainOf 101 = .ok (.if_icmp .ne 17, 3) ∧ 101 + 3 = 104 ∧ ((101 : Nat) : Int) + 17 = ((118 : Nat) : Int) := by decide +kernel
theorem d_P_gainOf_104 : decode c_P_gainOf 104 = .ok (.iload 4, 2) ∧ 104 + 2 = 106 := by decide +kernel
theorem d_P_gainOf_106 : decode c_P_gainOf 106 = .ok (.aload_n 0, 1) ∧ 106 + 1 = 107 := by decide +kernel
theorem d_P_gainOf_107 : decode c_P_gainOf 107 = .ok (.getfield 43, 3) ∧ 107 + 3 = 110 := by decide +kernel
theorem d_P_gainOf_110 : decode c_P_gainOf 110 = .ok (.iload 5, 2) ∧ 110 + 2 = 112 := by decide +kernel
theorem d_P_gainOf_112 : decode c_P_gainOf 112 = .ok (.invokevirtual 294, 3) ∧ 112 + 3 = 115 := by decide +kernel
theorem d_P_gainOf_115 : decode c_P_gainOf 115 = .ok (.iadd, 1) ∧ 115 + 1 = 116 := by decide +kernel
theorem d_P_gainOf_116 : decode c_P_gainOf 116 = .ok (.istore 4, 2) ∧ 116 + 2 = 118 := by decide +kernel
theorem d_P_gainOf_118 : decode c_P_gainOf 118 = .ok (.aload_n 0, 1) ∧ 118 + 1 = 119 := by decide +kernel
theorem d_P_gainOf_119 : decode c_P_gainOf 119 = .ok (.getfield 43, 3) ∧ 119 + 3 = 122 := by decide +kernel
theorem d_P_gainOf_122 : decode c_P_gainOf 122 = .ok (.getfield 181, 3) ∧ 122 + 3 = 125 := by decide +kernel
theorem d_P_gainOf_125 : decode c_P_gainOf 125 = .ok (.iload 5, 2) ∧ 125 + 2 = 127 := by decide +kernel
theorem d_P_gainOf_127 : decode c_P_gainOf 127 = .ok (.iaload, 1) ∧ 127 + 1 = 128 := by decide +kernel
theorem d_P_gainOf_128 : decode c_P_gainOf 128 = .ok (.iconst 1, 1) ∧ 128 + 1 = 129 := by decide +kernel
theorem d_P_gainOf_129 : decode c_P_gainOf 129 = .ok (.if_icmp .ne 17, 3) ∧ 129 + 3 = 132 ∧ ((129 : Nat) : Int) + 17 = ((146 : Nat) : Int) := by decide +kernel
theorem d_P_gainOf_132 : decode c_P_gainOf 132 = .ok (.iload 4, 2) ∧ 132 + 2 = 134 := by decide +kernel
theorem d_P_gainOf_134 : decode c_P_gainOf 134 = .ok (.aload_n 0, 1) ∧ 134 + 1 = 135 := by decide +kernel
theorem d_P_gainOf_135 : decode c_P_gainOf 135 = .ok (.getfield 43, 3) ∧ 135 + 3 = 138 := by decide +kernel
theorem d_P_gainOf_138 : decode c_P_gainOf 138 = .ok (.iload 5, 2) ∧ 138 + 2 = 140 := by decide +kernel
theorem d_P_gainOf_140 : decode c_P_gainOf 140 = .ok (.invokevirtual 294, 3) ∧ 140 + 3 = 143 := by decide +kernel
theorem d_P_gainOf_143 : decode c_P_gainOf 143 = .ok (.isub, 1) ∧ 143 + 1 = 144 := by decide +kernel
theorem d_P_gainOf_144 : decode c_P_gainOf 144 = .ok (.istore 4, 2) ∧ 144 + 2 = 146 := by decide +kernel
theorem d_P_gainOf_146 : decode c_P_gainOf 146 = .ok (.iinc 5 1, 3) ∧ 146 + 3 = 149 := by decide +kernel
theorem d_P_gainOf_149 : decode c_P_gainOf 149 = .ok (.goto (-143), 3) ∧ (149 : Int) + (-143) = (6 : Int) := by decide +kernel
theorem d_P_gainOf_152 : decode c_P_gainOf 152 = .ok (.iconst 0, 1) ∧ 152 + 1 = 153 := by decide +kernel
theorem d_P_gainOf_153 : decode c_P_gainOf 153 = .ok (.iload 4, 2) ∧ 153 + 2 = 155 := by decide +kernel
theorem d_P_gainOf_155 : decode c_P_gainOf 155 = .ok (.invokestatic 317, 3) ∧ 155 + 3 = 158 := by decide +kernel
theorem d_P_gainOf_158 : decode c_P_gainOf 158 = .ok (.ireturn, 1) ∧ 158 + 1 = 159 := by decide +kernel
set_option maxHeartbeats 4000000 in
theorem w_P_gainOf_L6 {Z : Sy} {Γ : Nat → List (Nat × Value) → List Value → St → Prop} {res : Int32} {x1 : Int32} {x2 : Int32} {x3 : Int32} {σ : St} (h : IsG YC Z R_P c_P_gainOf 7 3 (some .int) (some (.int res)) σ Γ) : ∀ (n : Nat) (x4 : Int32) (x5 : Int32), P_gainOf_L6 x1 x2 x3 σ n x4 x5 = some res → Γ 6 [(0, .ref (ya Z 0)), (1, .int x1), (2, .int x2), (3, .int x3), (4, .int x4), (5, .int x5)] [] σ := by
  intro n
  induction n with
  | zero => intro x4 x5 hf; exact absurd hf (by simp [P_gainOf_L6])
  | succ n ih =>
    intro x4 x5 hf
    rw [P_gainOf_L6] at hf
    refine r_iload h d_P_gainOf_6 5 rfl ?_
    refine r_aload_n h d_P_gainOf_8 0 rfl rfl ?_
    refine r_getR h fd_YC_0_5 cf_P fl_P_43 d_P_gainOf_9 ?_
    refine r_getI h fd_YC_28_6 cf_Ledger fl_P_169 d_P_gainOf_12 ?_
    refine r_icmp_ge h d_P_gainOf_15 hf (fun hf => ?_) (fun hf => ?_)
    · refine r_iconst h d_P_gainOf_152 ki_0 ?_
      refine r_iload h d_P_gainOf_153 4 rfl ?_
      refine r_mmax h ⟨tm_887, tm_146, tm_82, tm_147⟩ (by decide) (Nat.le_of_ble_eq_true rfl) d_P_gainOf_155 ?_
      exact r_ireturn h d_P_gainOf_158.1 (Option.some.inj hf) rfl
    · refine r_aload_n h d_P_gainOf_18 0 rfl rfl ?_
      refine r_getR h fd_YC_0_5 cf_P fl_P_43 d_P_gainOf_19 ?_
      refine r_getR h fd_YC_28_0 cf_Ledger fl_P_178 d_P_gainOf_22 ?_
      refine r_iload h d_P_gainOf_25 5 rfl ?_
      refine r_iald h sh_YC_29 d_P_gainOf_27 hf (fun hf => ?_)
      refine r_istore (ls' := [(6, .int (σ.1 29 (Int32.toNatClampNeg x5))), (0, .ref (ya Z 0)), (1, .int x1), (2, .int x2), (3, .int x3), (4, .int x4), (5, .int x5)]) h d_P_gainOf_28 (by decide) rfl ?_
      refine r_aload_n h d_P_gainOf_30 1 rfl rfl ?_
      refine r_getR h fd_YC_0_4 cf_P fl_P_36 d_P_gainOf_31 ?_
      refine r_iload h d_P_gainOf_34 0 rfl ?_
      obtain ⟨r36, e36, hf⟩ := q_bind hf
      refine r_callV (As := [.int (σ.1 29 (Int32.toNatClampNeg x5))]) (rest := []) h sh_YC_21 lk_P_146 vk_P_146 d_P_gainOf_36 (by decide) rfl rfl (Nat.le_of_ble_eq_true rfl) (m_Packs_has e36) ?_
      refine r_bif_eq h d_P_gainOf_39 hf (fun hf => ?_) (fun hf => ?_)
      · refine r_iinc (ls' := [(5, .int (x5 + (1 : Int32))), (6, .int (σ.1 29 (Int32.toNatClampNeg x5))), (0, .ref (ya Z 0)), (1, .int x1), (2, .int x2), (3, .int x3), (4, .int x4)]) h d_P_gainOf_146 6 rfl ki_1 (by decide) rfl ?_
        refine r_goto h d_P_gainOf_149 ?_
        refine r_sub h [2, 3, 4, 5, 6, 0] rfl ?_
        exact ih _ _ hf
      · refine r_aload_n h d_P_gainOf_42 1 rfl rfl ?_
        refine r_getR h fd_YC_0_4 cf_P fl_P_36 d_P_gainOf_43 ?_
        refine r_getR h fd_YC_21_1 cf_Packs fl_P_240 d_P_gainOf_46 ?_
        refine r_iload h d_P_gainOf_49 0 rfl ?_
        refine r_iald h sh_YC_23 d_P_gainOf_51 hf (fun hf => ?_)
        refine r_iload_n h d_P_gainOf_52 2 rfl rfl ?_
        refine r_icmp_eq h d_P_gainOf_53 hf (fun hf => ?_) (fun hf => ?_)
        · refine r_aload_n h d_P_gainOf_59 1 rfl rfl ?_
          refine r_getR h fd_YC_0_5 cf_P fl_P_43 d_P_gainOf_60 ?_
          refine r_getR h fd_YC_28_5 cf_Ledger fl_P_193 d_P_gainOf_63 ?_
          refine r_iload h d_P_gainOf_66 6 rfl ?_
          refine r_iald h sh_YC_34 d_P_gainOf_68 hf (fun hf => ?_)
          refine r_iload_n h d_P_gainOf_69 3 rfl rfl ?_
          refine r_icmp_lt h d_P_gainOf_70 hf (fun hf => ?_) (fun hf => ?_)
          · refine r_iinc (ls' := [(5, .int (x5 + (1 : Int32))), (6, .int (σ.1 29 (Int32.toNatClampNeg x5))), (0, .ref (ya Z 0)), (1, .int x1), (2, .int x2), (3, .int x3), (4, .int x4)]) h d_P_gainOf_146 6 rfl ki_1 (by decide) rfl ?_
            refine r_goto h d_P_gainOf_149 ?_
            refine r_sub h [2, 3, 4, 5, 6, 0] rfl ?_
            exact ih _ _ hf
          · refine r_aload_n h d_P_gainOf_73 1 rfl rfl ?_
            refine r_getR h fd_YC_0_5 cf_P fl_P_43 d_P_gainOf_74 ?_
            refine r_getR h fd_YC_28_5 cf_Ledger fl_P_193 d_P_gainOf_77 ?_
            refine r_iload h d_P_gainOf_80 6 rfl ?_
            refine r_iald h sh_YC_34 d_P_gainOf_82 hf (fun hf => ?_)
            refine r_iload_n h d_P_gainOf_83 4 rfl rfl ?_
            refine r_icmp_le h d_P_gainOf_84 hf (fun hf => ?_) (fun hf => ?_)
            · refine r_aload_n h d_P_gainOf_90 1 rfl rfl ?_
              refine r_getR h fd_YC_0_5 cf_P fl_P_43 d_P_gainOf_91 ?_
              refine r_getR h fd_YC_28_1 cf_Ledger fl_P_181 d_P_gainOf_94 ?_
              refine r_iload h d_P_gainOf_97 6 rfl ?_
              refine r_iald h sh_YC_30 d_P_gainOf_99 hf (fun hf => ?_)
              refine r_iconst h d_P_gainOf_100 ki_2 ?_
              refine r_icmp_ne h d_P_gainOf_101 hf (fun hf => ?_) (fun hf => ?_)
              · refine r_aload_n h d_P_gainOf_118 1 rfl rfl ?_
                refine r_getR h fd_YC_0_5 cf_P fl_P_43 d_P_gainOf_119 ?_
                refine r_getR h fd_YC_28_1 cf_Ledger fl_P_181 d_P_gainOf_122 ?_
                refine r_iload h d_P_gainOf_125 6 rfl ?_
                refine r_iald h sh_YC_30 d_P_gainOf_127 hf (fun hf => ?_)
                refine r_iconst h d_P_gainOf_128 ki_1 ?_
                refine r_icmp_ne h d_P_gainOf_129 hf (fun hf => ?_) (fun hf => ?_)
                · refine r_iinc (ls' := [(5, .int (x5 + (1 : Int32))), (6, .int (σ.1 29 (Int32.toNatClampNeg x5))), (0, .ref (ya Z 0)), (1, .int x1), (2, .int x2), (3, .int x3), (4, .int x4)]) h d_P_gainOf_146 6 rfl ki_1 (by decide) rfl ?_
                  refine r_goto h d_P_gainOf_149 ?_
                  refine r_sub h [2, 3, 4, 5, 6, 0] rfl ?_
                  exact ih _ _ hf
                · refine r_iload h d_P_gainOf_132 5 rfl ?_
                  refine r_aload_n h d_P_gainOf_134 1 rfl rfl ?_
                  refine r_getR h fd_YC_0_5 cf_P fl_P_43 d_P_gainOf_135 ?_
                  refine r_iload h d_P_gainOf_138 6 rfl ?_
                  obtain ⟨r140, e140, hf⟩ := q_bind hf
                  refine r_callV (As := [.int x5]) (rest := [.int x4]) h sh_YC_28 lk_P_294 vk_P_294 d_P_gainOf_140 (by decide) rfl rfl (Nat.le_of_ble_eq_true rfl) (m_Ledger_worth e140) ?_
                  refine r_isub h d_P_gainOf_143 ?_
                  refine r_istore (ls' := [(4, .int (x4 - r140)), (6, .int (σ.1 29 (Int32.toNatClampNeg x5))), (0, .ref (ya Z 0)), (1, .int x1), (2, .int x2), (3, .int x3), (5, .int x5)]) h d_P_gainOf_144 (by decide) rfl ?_
                  refine r_iinc (ls' := [(5, .int (x5 + (1 : Int32))), (4, .int (x4 - r140)), (6, .int (σ.1 29 (Int32.toNatClampNeg x5))), (0, .ref (ya Z 0)), (1, .int x1), (2, .int x2), (3, .int x3)]) h d_P_gainOf_146 6 rfl ki_1 (by decide) rfl ?_
                  refine r_goto h d_P_gainOf_149 ?_
                  refine r_sub h [3, 4, 5, 6, 1, 0] rfl ?_
                  exact ih _ _ hf
              · refine r_iload h d_P_gainOf_104 5 rfl ?_
                refine r_aload_n h d_P_gainOf_106 1 rfl rfl ?_
                refine r_getR h fd_YC_0_5 cf_P fl_P_43 d_P_gainOf_107 ?_
                refine r_iload h d_P_gainOf_110 6 rfl ?_
                obtain ⟨r112, e112, hf⟩ := q_bind hf
                refine r_callV (As := [.int x5]) (rest := [.int x4]) h sh_YC_28 lk_P_294 vk_P_294 d_P_gainOf_112 (by decide) rfl rfl (Nat.le_of_ble_eq_true rfl) (m_Ledger_worth e112) ?_
                refine r_iadd h d_P_gainOf_115 ?_
                refine r_istore (ls' := [(4, .int (x4 + r112)), (6, .int (σ.1 29 (Int32.toNatClampNeg x5))), (0, .ref (ya Z 0)), (1, .int x1), (2, .int x2), (3, .int x3), (5, .int x5)]) h d_P_gainOf_116 (by decide) rfl ?_
                refine r_aload_n h d_P_gainOf_118 2 rfl rfl ?_
                refine r_getR h fd_YC_0_5 cf_P fl_P_43 d_P_gainOf_119 ?_
                refine r_getR h fd_YC_28_1 cf_Ledger fl_P_181 d_P_gainOf_122 ?_
                refine r_iload h d_P_gainOf_125 6 rfl ?_
                refine r_iald h sh_YC_30 d_P_gainOf_127 hf (fun hf => ?_)
                refine r_iconst h d_P_gainOf_128 ki_1 ?_
                refine r_icmp_ne h d_P_gainOf_129 hf (fun hf => ?_) (fun hf => ?_)
                · refine r_iinc (ls' := [(5, .int (x5 + (1 : Int32))), (4, .int (x4 + r112)), (6, .int (σ.1 29 (Int32.toNatClampNeg x5))), (0, .ref (ya Z 0)), (1, .int x1), (2, .int x2), (3, .int x3)]) h d_P_gainOf_146 6 rfl ki_1 (by decide) rfl ?_
                  refine r_goto h d_P_gainOf_149 ?_
                  refine r_sub h [3, 4, 5, 6, 1, 0] rfl ?_
                  exact ih _ _ hf
                · refine r_iload h d_P_gainOf_132 0 rfl ?_
                  refine r_aload_n h d_P_gainOf_134 2 rfl rfl ?_
                  refine r_getR h fd_YC_0_5 cf_P fl_P_43 d_P_gainOf_135 ?_
                  refine r_iload h d_P_gainOf_138 6 rfl ?_
                  obtain ⟨r140, e140, hf⟩ := q_bind hf
                  refine r_callV (As := [.int x5]) (rest := [.int (x4 + r112)]) h sh_YC_28 lk_P_294 vk_P_294 d_P_gainOf_140 (by decide) rfl rfl (Nat.le_of_ble_eq_true rfl) (m_Ledger_worth e140) ?_
                  refine r_isub h d_P_gainOf_143 ?_
                  refine r_istore (ls' := [(4, .int ((x4 + r112) - r140)), (6, .int (σ.1 29 (Int32.toNatClampNeg x5))), (0, .ref (ya Z 0)), (1, .int x1), (2, .int x2), (3, .int x3), (5, .int x5)]) h d_P_gainOf_144 (by decide) rfl ?_
                  refine r_iinc (ls' := [(5, .int (x5 + (1 : Int32))), (4, .int ((x4 + r112) - r140)), (6, .int (σ.1 29 (Int32.toNatClampNeg x5))), (0, .ref (ya Z 0)), (1, .int x1), (2, .int x2), (3, .int x3)]) h d_P_gainOf_146 6 rfl ki_1 (by decide) rfl ?_
                  refine r_goto h d_P_gainOf_149 ?_
                  refine r_sub h [3, 4, 5, 6, 1, 0] rfl ?_
                  exact ih _ _ hf
            · refine r_goto h d_P_gainOf_87 ?_
              refine r_iinc (ls' := [(5, .int (x5 + (1 : Int32))), (6, .int (σ.1 29 (Int32.toNatClampNeg x5))), (0, .ref (ya Z 0)), (1, .int x1), (2, .int x2), (3, .int x3), (4, .int x4)]) h d_P_gainOf_146 6 rfl ki_1 (by decide) rfl ?_
              refine r_goto h d_P_gainOf_149 ?_
              refine r_sub h [2, 3, 4, 5, 6, 0] rfl ?_
              exact ih _ _ hf
        · refine r_goto h d_P_gainOf_56 ?_
          refine r_iinc (ls' := [(5, .int (x5 + (1 : Int32))), (6, .int (σ.1 29 (Int32.toNatClampNeg x5))), (0, .ref (ya Z 0)), (1, .int x1), (2, .int x2), (3, .int x3), (4, .int x4)]) h d_P_gainOf_146 6 rfl ki_1 (by decide) rfl ?_
          refine r_goto h d_P_gainOf_149 ?_
          refine r_sub h [2, 3, 4, 5, 6, 0] rfl ?_
          exact ih _ _ hf

set_option maxHeartbeats 4000000 in
theorem m_P_gainOf {Z : Sy} {σ : St} {res : Int32} {x1 : Int32} {x2 : Int32} {x3 : Int32} (hf : P_gainOf x1 x2 x3 σ = some res) : Ct YC Z y_P_gainOf c_P_gainOf 7 (some .int) 3 [.ref (ya Z 0), .int x1, .int x2, .int x3] σ (some (.int res)) σ := by
  refine Ct.of pn_P (Nat.le_of_ble_eq_true rfl) rfl (fun Γ h => ?_)
  have h : IsG YC Z R_P c_P_gainOf 7 3 (some .int) (some (.int res)) σ Γ := h
  unfold P_gainOf at hf
  refine r_iconst h d_P_gainOf_0 ki_0 ?_
  refine r_istore (ls' := [(4, .int (0 : Int32)), (0, .ref (ya Z 0)), (1, .int x1), (2, .int x2), (3, .int x3)]) h d_P_gainOf_1 (by decide) rfl ?_
  refine r_iconst h d_P_gainOf_3 ki_0 ?_
  refine r_istore (ls' := [(5, .int (0 : Int32)), (4, .int (0 : Int32)), (0, .ref (ya Z 0)), (1, .int x1), (2, .int x2), (3, .int x3)]) h d_P_gainOf_4 (by decide) rfl ?_
  refine r_sub h [2, 3, 4, 5, 1, 0] rfl ?_
  exact w_P_gainOf_L6 h _ _ _ hf

theorem d_P_share_0 : decode c_P_share 0 = .ok (.aload_n 0, 1) ∧ 0 + 1 = 1 := by decide +kernel
theorem d_P_share_1 : decode c_P_share 1 = .ok (.getfield 12, 3) ∧ 1 + 3 = 4 := by decide +kernel
theorem d_P_share_4 : decode c_P_share 4 = .ok (.iload_n 1, 1) ∧ 4 + 1 = 5 := by decide +kernel
theorem d_P_share_5 : decode c_P_share 5 = .ok (.invokevirtual 112, 3) ∧ 5 + 3 = 8 := by decide +kernel
theorem d_P_share_8 : decode c_P_share 8 = .ok (.ifCond .ne 5, 3) ∧ 8 + 3 = 11 ∧ ((8 : Nat) : Int) + 5 = ((13 : Nat) : Int) := by decide +kernel
theorem d_P_share_11 : decode c_P_share 11 = .ok (.iconst (-1), 1) ∧ 11 + 1 = 12 := by decide +kernel
theorem d_P_share_12 : decode c_P_share 12 = .ok (.ireturn, 1) ∧ 12 + 1 = 13 := by decide +kernel
theorem d_P_share_13 : decode c_P_share 13 = .ok (.iload 4, 2) ∧ 13 + 2 = 15 := by decide +kernel
theorem d_P_share_15 : decode c_P_share 15 = .ok (.iconst 4, 1) ∧ 15 + 1 = 16 := by decide +kernel
theorem d_P_share_16 : decode c_P_share 16 = .ok (.invokestatic 96, 3) ∧ 16 + 3 = 19 := by decide +kernel
theorem d_P_share_19 : decode c_P_share 19 = .ok (.ifCond .eq 11, 3) ∧ 19 + 3 = 22 ∧ ((19 : Nat) : Int) + 11 = ((30 : Nat) : Int) := by decide +kernel
theorem d_P_share_22 : decode c_P_share 22 = .ok (.iload_n 2, 1) ∧ 22 + 1 = 23 := by decide +kernel
theorem d_P_share_23 : decode c_P_share 23 = .ok (.iload_n 3, 1) ∧ 23 + 1 = 24 := by decide +kernel
theorem d_P_share_24 : decode c_P_share 24 = .ok (.invokestatic 119, 3) ∧ 24 + 3 = 27 := by decide +kernel
theorem d_P_share_27 : decode c_P_share 27 = .ok (.ifCond .ne 6, 3) ∧ 27 + 3 = 30 ∧ ((27 : Nat) : Int) + 6 = ((33 : Nat) : Int) := by decide +kernel
theorem d_P_share_30 : decode c_P_share 30 = .ok (.bipush (-2), 2) ∧ 30 + 2 = 32 := by decide +kernel
theorem d_P_share_32 : decode c_P_share 32 = .ok (.ireturn, 1) ∧ 32 + 1 = 33 := by decide +kernel
theorem d_P_share_33 : decode c_P_share 33 = .ok (.aload_n 0, 1) ∧ 33 + 1 = 34 := by decide +kernel
theorem d_P_share_34 : decode c_P_share 34 = .ok (.iload_n 1, 1) ∧ 34 + 1 = 35 := by decide +kernel
theorem d_P_share_35 : decode c_P_share 35 = .ok (.iload_n 2, 1) ∧ 35 + 1 = 36 := by decide +kernel
theorem d_P_share_36 : decode c_P_share 36 = .ok (.iload_n 3, 1) ∧ 36 + 1 = 37 := by decide +kernel
theorem d_P_share_37 : decode c_P_share 37 = .ok (.invokevirtual 308, 3) ∧ 37 + 3 = 40 := by decide +kernel
theorem d_P_share_40 : decode c_P_share 40 = .ok (.istore 5, 2) ∧ 40 + 2 = 42 := by decide +kernel
theorem d_P_share_42 : decode c_P_share 42 = .ok (.iload 4, 2) ∧ 42 + 2 = 44 := by decide +kernel
theorem d_P_share_44 : decode c_P_share 44 = .ok (.ifCond .ne 6, 3) ∧ 44 + 3 = 47 ∧ ((44 : Nat) : Int) + 6 = ((50 : Nat) : Int) := by decide +kernel
theorem d_P_share_47 : decode c_P_share 47 = .ok (.iload 5, 2) ∧ 47 + 2 = 49 := by decide +kernel
theorem d_P_share_49 : decode c_P_share 49 = .ok (.ireturn, 1) ∧ 49 + 1 = 50 := by decide +kernel
theorem d_P_share_50 : decode c_P_share 50 = .ok (.iload 5, 2) ∧ 50 + 2 = 52 := by decide +kernel
theorem d_P_share_52 : decode c_P_share 52 = .ok (.iload 5, 2) ∧ 52 + 2 = 54 := by decide +kernel
theorem d_P_share_54 : decode c_P_share 54 = .ok (.aload_n 0, 1) ∧ 54 + 1 = 55 := by decide +kernel
theorem d_P_share_55 : decode c_P_share 55 = .ok (.getfield 57, 3) ∧ 55 + 3 = 58 := by decide +kernel
theorem d_P_share_58 : decode c_P_share 58 = .ok (.iconst 0, 1) ∧ 58 + 1 = 59 := by decide +kernel
theorem d_P_share_59 : decode c_P_share 59 = .ok (.iconst (-1), 1) ∧ 59 + 1 = 60 := by decide +kernel
theorem d_P_share_60 : decode c_P_share 60 = .ok (.iload_n 3, 1) ∧ 60 + 1 = 61 := by decide +kernel
theorem d_P_share_61 : decode c_P_share 61 = .ok (.invokevirtual 225, 3) ∧ 61 + 3 = 64 := by decide +kernel
theorem d_P_share_64 : decode c_P_share 64 = .ok (.imul, 1) ∧ 64 + 1 = 65 := by decide +kernel
theorem d_P_share_65 : decode c_P_share 65 = .ok (.bipush 10, 2) ∧ 65 + 2 = 67 := by decide +kernel
theorem d_P_share_67 : decode c_P_share 67 = .ok (.idiv, 1) ∧ 67 + 1 = 68 := by decide +kernel
theorem d_P_share_68 : decode c_P_share 68 = .ok (.isub, 1) ∧ 68 + 1 = 69 := by decide +kernel
theorem d_P_share_69 : decode c_P_share 69 = .ok (.istore 6, 2) ∧ 69 + 2 = 71 := by decide +kernel
theorem d_P_share_71 : decode c_P_share 71 = .ok (.aload_n 0, 1) ∧ 71 + 1 = 72 := by decide +kernel
theorem d_P_share_72 : decode c_P_share 72 = .ok (.getfield 12, 3) ∧ 72 + 3 = 75 := by decide +kernel
theorem d_P_share_75 : decode c_P_share 75 = .ok (.getfield 311, 3) ∧ 75 + 3 = 78 := by decide +kernel
theorem d_P_share_78 : decode c_P_share 78 = .ok (.iload_n 1, 1) ∧ 78 + 1 = 79 := by decide +kernel
theorem d_P_share_79 : decode c_P_share 79 = .ok (.iaload, 1) ∧ 79 + 1 = 80 := by decide +kernel
theorem d_P_share_80 : decode c_P_share 80 = .ok (.istore 7, 2) ∧ 80 + 2 = 82 := by decide +kernel
theorem d_P_share_82 : decode c_P_share 82 = .ok (.aload_n 0, 1) ∧ 82 + 1 = 83 := by decide +kernel
theorem d_P_share_83 : decode c_P_share 83 = .ok (.getfield 12, 3) ∧ 83 + 3 = 86 := by decide +kernel
theorem d_P_share_86 : decode c_P_share 86 = .ok (.getfield 314, 3) ∧ 86 + 3 = 89 := by decide +kernel
theorem d_P_share_89 : decode c_P_share 89 = .ok (.iload_n 1, 1) ∧ 89 + 1 = 90 := by decide +kernel
theorem d_P_share_90 : decode c_P_share 90 = .ok (.iaload, 1) ∧ 90 + 1 = 91 := by decide +kernel
theorem d_P_share_91 : decode c_P_share 91 = .ok (.istore 8, 2) ∧ 91 + 2 = 93 := by decide +kernel
theorem d_P_share_93 : decode c_P_share 93 = .ok (.iconst 2, 1) ∧ 93 + 1 = 94 := by decide +kernel
theorem d_P_share_94 : decode c_P_share 94 = .ok (.iload 7, 2) ∧ 94 + 2 = 96 := by decide +kernel
theorem d_P_share_96 : decode c_P_share 96 = .ok (.imul, 1) ∧ 96 + 1 = 97 := by decide +kernel
theorem d_P_share_97 : decode c_P_share 97 = .ok (.iload 8, 2) ∧ 97 + 2 = 99 := by decide +kernel
theorem d_P_share_99 : decode c_P_share 99 = .ok (.iadd, 1) ∧ 99 + 1 = 100 := by decide +kernel
theorem d_P_share_100 : decode c_P_share 100 = .ok (.istore 9, 2) ∧ 100 + 2 = 102 := by decide +kernel
theorem d_P_share_102 : decode c_P_share 102 = .ok (.iload 9, 2) ∧ 102 + 2 = 104 := by decide +kernel
theorem d_P_share_104 : decode c_P_share 104 = .ok (.ifCond .ne 7, 3) ∧ 104 + 3 = 107 ∧ ((104 : Nat) : Int) + 7 = ((111 : Nat) : Int) := by decide +kernel
theorem d_P_share_107 : decode c_P_share 107 = .ok (.iconst 0, 1) ∧ 107 + 1 = 108 := by decide +kernel
theorem d_P_share_108 : decode c_P_share 108 = .ok (.goto 10, 3) ∧ (108 : Int) + 10 = (118 : Int) := by decide +kernel
theorem d_P_share_111 : decode c_P_share 111 = .ok (.iconst 2, 1) ∧ 111 + 1 = 112 := by decide +kernel
theorem d_P_share_112 : decode c_P_share 112 = .ok (.iload 6, 2) ∧ 112 + 2 = 114 := by decide +kernel
theorem d_P_share_114 : decode c_P_share 114 = .ok (.imul, 1) ∧ 114 + 1 = 115 := by decide +kernel
theorem d_P_share_115 : decode c_P_share 115 = .ok (.iload 9, 2) ∧ 115 + 2 = 117 := by decide +kernel
theorem d_P_share_117 : decode c_P_share 117 = .ok (.idiv, 1) ∧ 117 + 1 = 118 := by decide +kernel
theorem d_P_share_118 : decode c_P_share 118 = .ok (.istore 10, 2) ∧ 118 + 2 = 120 := by decide +kernel
theorem d_P_share_120 : decode c_P_share 120 = .ok (.iload 9, 2) ∧ 120 + 2 = 122 := by decide +kernel
theorem d_P_share_122 : decode c_P_share 122 = .ok (.ifCond .ne 7, 3) ∧ 122 + 3 = 125 ∧ ((122 : Nat) : Int) + 7 = ((129 : Nat) : Int) := by decide +kernel
theorem d_P_share_125 : decode c_P_share 125 = .ok (.iconst 0, 1) ∧ 125 + 1 = 126 := by decide +kernel
theorem d_P_share_126 : decode c_P_share 126 = .ok (.goto 8, 3) ∧ (126 : Int) + 8 = (134 : Int) := by decide +kernel
theorem d_P_share_129 : decode c_P_share 129 = .ok (.iload 6, 2) ∧ 129 + 2 = 131 := by decide +kernel
theorem d_P_share_131 : decode c_P_share 131 = .ok (.iload 9, 2) ∧ 131 + 2 = 133 := by decide +kernel
theorem d_P_share_133 : decode c_P_share 133 = .ok (.idiv, 1) ∧ 133 + 1 = 134 := by decide +kernel
theorem d_P_share_134 : decode c_P_share 134 = .ok (.istore 11, 2) ∧ 134 + 2 = 136 := by decide +kernel
theorem d_P_share_136 : decode c_P_share 136 = .ok (.iload 4, 2) ∧ 136 + 2 = 138 := by decide +kernel
theorem d_P_share_138 : decode c_P_share 138 = .ok (.iconst 2, 1) ∧ 138 + 1 = 139 := by decide +kernel
theorem d_P_share_139 : decode c_P_share 139 = .ok (.if_icmp .ne 6, 3) ∧ 139 + 3 = 142 ∧ ((139 : Nat) : Int) + 6 = ((145 : Nat) : Int) := by decide +kernel
theorem d_P_share_142 : decode c_P_share 142 = .ok (.iload 10, 2) ∧ 142 + 2 = 144 := by decide +kernel
theorem d_P_share_144 : decode c_P_share 144 = .ok (.ireturn, 1) ∧ 144 + 1 = 145 := by decide +kernel
theorem d_P_share_145 : decode c_P_share 145 = .ok (.iload 4, 2) ∧ 145 + 2 = 147 := by decide +kernel
theorem d_P_share_147 : decode c_P_share 147 = .ok (.iconst 3, 1) ∧ 147 + 1 = 148 := by decide +kernel
theorem d_P_share_148 : decode c_P_share 148 = .ok (.if_icmp .ne 6, 3) ∧ 148 + 3 = 151 ∧ ((148 : Nat) : Int) + 6 = ((154 : Nat) : Int) := by decide +kernel
theorem d_P_share_151 : decode c_P_share 151 = .ok (.iload 11, 2) ∧ 151 + 2 = 153 := by decide +kernel
theorem d_P_share_153 : decode c_P_share 153 = .ok (.ireturn, 1) ∧ 153 + 1 = 154 := by decide +kernel
theorem d_P_share_154 : decode c_P_share 154 = .ok (.iload 5, 2) ∧ 154 + 2 = 156 := by decide +kernel
theorem d_P_share_156 : decode c_P_share 156 = .ok (.iload 7, 2) ∧ 156 + 2 = 158 := by decide +kernel
theorem d_P_share_158 : decode c_P_share 158 = .ok (.iload 10, 2) ∧ 158 + 2 = 160 := by decide +kernel
theorem d_P_share_160 : decode c_P_share 160 = .ok (.imul, 1) ∧ 160 + 1 = 161 := by decide +kernel
theorem d_P_share_161 : decode c_P_share 161 = .ok (.isub, 1) ∧ 161 + 1 = 162 := by decide +kernel
theorem d_P_share_162 : decode c_P_share 162 = .ok (.iload 8, 2) ∧ 162 + 2 = 164 := by decide +kernel
theorem d_P_share_164 : decode c_P_share 164 = .ok (.iload 11, 2) ∧ 164 + 2 = 166 := by decide +kernel
theorem d_P_share_166 : decode c_P_share 166 = .ok (.imul, 1) ∧ 166 + 1 = 167 := by decide +kernel
theorem d_P_share_167 : decode c_P_share 167 = .ok (.isub, 1) ∧ 167 + 1 = 168 := by decide +kernel
theorem d_P_share_168 : decode c_P_share 168 = .ok (.ireturn, 1) ∧ 168 + 1 = 169 := by decide +kernel
set_option maxHeartbeats 4000000 in
theorem m_P_share {Z : Sy} {σ : St} {res : Int32} {x1 : Int32} {x2 : Int32} {x3 : Int32} {x4 : Int32} (hf : P_share x1 x2 x3 x4 σ = some res) : Ct YC Z y_P_share c_P_share 12 (some .int) 4 [.ref (ya Z 0), .int x1, .int x2, .int x3, .int x4] σ (some (.int res)) σ := by
  refine Ct.of pn_P (Nat.le_of_ble_eq_true rfl) rfl (fun Γ h => ?_)
  have h : IsG YC Z R_P c_P_share 12 4 (some .int) (some (.int res)) σ Γ := h
  unfold P_share at hf
  refine r_aload_n h d_P_share_0 0 rfl rfl ?_
  refine r_getR h fd_YC_0_0 cf_P fl_P_12 d_P_share_1 ?_
  refine r_iload_n h d_P_share_4 1 rfl rfl ?_
  obtain ⟨r5, e5, hf⟩ := q_bind hf
  refine r_callV (As := [.int x1]) (rest := []) h sh_YC_1 lk_P_112 vk_P_112 d_P_share_5 (by decide) rfl rfl (Nat.le_of_ble_eq_true rfl) (m_Roll_hasBand e5) ?_
  refine r_bif_ne h d_P_share_8 hf (fun hf => ?_) (fun hf => ?_)
  · refine r_iload h d_P_share_13 4 rfl ?_
    refine r_iconst h d_P_share_15 ki_4 ?_
    obtain ⟨r16, e16, hf⟩ := q_bind hf
    refine r_callS (As := [.int x4, .int (4 : Int32)]) (rest := []) h lk_P_96 sk_P_96 d_P_share_16 (by decide) rfl rfl (Nat.le_of_ble_eq_true rfl) (m_P_isBelow e16) ?_
    refine r_bif_eq h d_P_share_19 hf (fun hf => ?_) (fun hf => ?_)
    · refine r_bipush h d_P_share_30 kb_m2 ?_
      exact r_ireturn h d_P_share_32.1 (Option.some.inj hf) rfl
    · refine r_iload_n h d_P_share_22 2 rfl rfl ?_
      refine r_iload_n h d_P_share_23 3 rfl rfl ?_
      obtain ⟨r24, e24, hf⟩ := q_bind hf
      refine r_callS (As := [.int x2, .int x3]) (rest := []) h lk_P_119 sk_P_119 d_P_share_24 (by decide) rfl rfl (Nat.le_of_ble_eq_true rfl) (m_P_areDays e24) ?_
      refine r_bif_ne h d_P_share_27 hf (fun hf => ?_) (fun hf => ?_)
      · refine r_aload_n h d_P_share_33 0 rfl rfl ?_
        refine r_iload_n h d_P_share_34 1 rfl rfl ?_
        refine r_iload_n h d_P_share_35 2 rfl rfl ?_
        refine r_iload_n h d_P_share_36 3 rfl rfl ?_
        obtain ⟨r37, e37, hf⟩ := q_bind hf
        refine r_callV (As := [.int x1, .int x2, .int x3]) (rest := []) h sh_YC_0 lk_P_308 vk_P_308 d_P_share_37 (by decide) rfl rfl (Nat.le_of_ble_eq_true rfl) (m_P_gainOf e37) ?_
        refine r_istore (ls' := [(5, .int r37), (0, .ref (ya Z 0)), (1, .int x1), (2, .int x2), (3, .int x3), (4, .int x4)]) h d_P_share_40 (by decide) rfl ?_
        refine r_iload h d_P_share_42 5 rfl ?_
        refine r_if_ne h d_P_share_44 hf (fun hf => ?_) (fun hf => ?_)
        · refine r_iload h d_P_share_50 0 rfl ?_
          refine r_iload h d_P_share_52 0 rfl ?_
          refine r_aload_n h d_P_share_54 1 rfl rfl ?_
          refine r_getR h fd_YC_0_7 cf_P fl_P_57 d_P_share_55 ?_
          refine r_iconst h d_P_share_58 ki_0 ?_
          refine r_iconst h d_P_share_59 ki_m1 ?_
          refine r_iload_n h d_P_share_60 4 rfl rfl ?_
          obtain ⟨r61, e61, hf⟩ := q_bind hf
          refine r_callV (As := [.int (0 : Int32), .int (-1 : Int32), .int x3]) (rest := [.int r37, .int r37]) h sh_YC_40 lk_P_225 vk_P_225 d_P_share_61 (by decide) rfl rfl (Nat.le_of_ble_eq_true rfl) (m_Texts_valueIn e61) ?_
          refine r_imul h d_P_share_64 ?_
          refine r_bipush h d_P_share_65 kb_10 ?_
          refine r_idiv h d_P_share_67 (by decide) ?_
          refine r_isub h d_P_share_68 ?_
          refine r_istore (ls' := [(6, .int (r37 - ((r37 * r61) / (10 : Int32)))), (5, .int r37), (0, .ref (ya Z 0)), (1, .int x1), (2, .int x2), (3, .int x3), (4, .int x4)]) h d_P_share_69 (by decide) rfl ?_
          refine r_aload_n h d_P_share_71 2 rfl rfl ?_
          refine r_getR h fd_YC_0_0 cf_P fl_P_12 d_P_share_72 ?_
          refine r_getR h fd_YC_1_1 cf_Roll fl_P_311 d_P_share_75 ?_
          refine r_iload_n h d_P_share_78 3 rfl rfl ?_
          refine r_iald h sh_YC_3 d_P_share_79 hf (fun hf => ?_)
          refine r_istore (ls' := [(7, .int (σ.1 3 (Int32.toNatClampNeg x1))), (6, .int (r37 - ((r37 * r61) / (10 : Int32)))), (5, .int r37), (0, .ref (ya Z 0)), (1, .int x1), (2, .int x2), (3, .int x3), (4, .int x4)]) h d_P_share_80 (by decide) rfl ?_
          refine r_aload_n h d_P_share_82 3 rfl rfl ?_
          refine r_getR h fd_YC_0_0 cf_P fl_P_12 d_P_share_83 ?_
          refine r_getR h fd_YC_1_2 cf_Roll fl_P_314 d_P_share_86 ?_
          refine r_iload_n h d_P_share_89 4 rfl rfl ?_
          refine r_iald h sh_YC_4 d_P_share_90 hf (fun hf => ?_)
          refine r_istore (ls' := [(8, .int (σ.1 4 (Int32.toNatClampNeg x1))), (7, .int (σ.1 3 (Int32.toNatClampNeg x1))), (6, .int (r37 - ((r37 * r61) / (10 : Int32)))), (5, .int r37), (0, .ref (ya Z 0)), (1, .int x1), (2, .int x2), (3, .int x3), (4, .int x4)]) h d_P_share_91 (by decide) rfl ?_
          refine r_iconst h d_P_share_93 ki_2 ?_
          refine r_iload h d_P_share_94 1 rfl ?_
          refine r_imul h d_P_share_96 ?_
          refine r_iload h d_P_share_97 0 rfl ?_
          refine r_iadd h d_P_share_99 ?_
          refine r_istore (ls' := [(9, .int (((2 : Int32) * (σ.1 3 (Int32.toNatClampNeg x1))) + (σ.1 4 (Int32.toNatClampNeg x1)))), (8, .int (σ.1 4 (Int32.toNatClampNeg x1))), (7, .int (σ.1 3 (Int32.toNatClampNeg x1))), (6, .int (r37 - ((r37 * r61) / (10 : Int32)))), (5, .int r37), (0, .ref (ya Z 0)), (1, .int x1), (2, .int x2), (3, .int x3), (4, .int x4)]) h d_P_share_100 (by decide) rfl ?_
          refine r_iload h d_P_share_102 0 rfl ?_
          refine r_if_ne h d_P_share_104 hf (fun hf => ?_) (fun hf => ?_)
          · refine r_iconst h d_P_share_111 ki_2 ?_
            refine r_iload h d_P_share_112 3 rfl ?_
            refine r_imul h d_P_share_114 ?_
            refine r_iload h d_P_share_115 0 rfl ?_
            refine q_div hf (fun hne hf => ?_)
            refine r_idiv h d_P_share_117 hne ?_
            refine r_istore (ls' := [(10, .int (((2 : Int32) * (r37 - ((r37 * r61) / (10 : Int32)))) / (((2 : Int32) * (σ.1 3 (Int32.toNatClampNeg x1))) + (σ.1 4 (Int32.toNatClampNeg x1))))), (9, .int (((2 : Int32) * (σ.1 3 (Int32.toNatClampNeg x1))) + (σ.1 4 (Int32.toNatClampNeg x1)))), (8, .int (σ.1 4 (Int32.toNatClampNeg x1))), (7, .int (σ.1 3 (Int32.toNatClampNeg x1))), (6, .int (r37 - ((r37 * r61) / (10 : Int32)))), (5, .int r37), (0, .ref (ya Z 0)), (1, .int x1), (2, .int x2), (3, .int x3), (4, .int x4)]) h d_P_share_118 (by decide) rfl ?_
            refine r_iload h d_P_share_120 1 rfl ?_
            refine r_if_ne h d_P_share_122 hf (fun hf => ?_) (fun hf => ?_)
            · refine r_iload h d_P_share_129 4 rfl ?_
              refine r_iload h d_P_share_131 1 rfl ?_
              refine q_div hf (fun hne hf => ?_)
              refine r_idiv h d_P_share_133 hne ?_
              refine r_istore (ls' := [(11, .int ((r37 - ((r37 * r61) / (10 : Int32))) / (((2 : Int32) * (σ.1 3 (Int32.toNatClampNeg x1))) + (σ.1 4 (Int32.toNatClampNeg x1))))), (10, .int (((2 : Int32) * (r37 - ((r37 * r61) / (10 : Int32)))) / (((2 : Int32) * (σ.1 3 (Int32.toNatClampNeg x1))) + (σ.1 4 (Int32.toNatClampNeg x1))))), (9, .int (((2 : Int32) * (σ.1 3 (Int32.toNatClampNeg x1))) + (σ.1 4 (Int32.toNatClampNeg x1)))), (8, .int (σ.1 4 (Int32.toNatClampNeg x1))), (7, .int (σ.1 3 (Int32.toNatClampNeg x1))), (6, .int (r37 - ((r37 * r61) / (10 : Int32)))), (5, .int r37), (0, .ref (ya Z 0)), (1, .int x1), (2, .int x2), (3, .int x3), (4, .int x4)]) h d_P_share_134 (by decide) rfl ?_
              refine r_iload h d_P_share_136 11 rfl ?_
              refine r_iconst h d_P_share_138 ki_2 ?_
              refine r_icmp_ne h d_P_share_139 hf (fun hf => ?_) (fun hf => ?_)
              · refine r_iload h d_P_share_145 11 rfl ?_
                refine r_iconst h d_P_share_147 ki_3 ?_
                refine r_icmp_ne h d_P_share_148 hf (fun hf => ?_) (fun hf => ?_)
                · refine r_iload h d_P_share_154 6 rfl ?_
                  refine r_iload h d_P_share_156 4 rfl ?_
                  refine r_iload h d_P_share_158 1 rfl ?_
                  refine r_imul h d_P_share_160 ?_
                  refine r_isub h d_P_share_161 ?_
                  refine r_iload h d_P_share_162 3 rfl ?_
                  refine r_iload h d_P_share_164 0 rfl ?_
                  refine r_imul h d_P_share_166 ?_
                  refine r_isub h d_P_share_167 ?_
                  exact r_ireturn h d_P_share_168.1 (Option.some.inj hf) rfl
                · refine r_iload h d_P_share_151 0 rfl ?_
                  exact r_ireturn h d_P_share_153.1 (Option.some.inj hf) rfl
              · refine r_iload h d_P_share_142 1 rfl ?_
                exact r_ireturn h d_P_share_144.1 (Option.some.inj hf) rfl
            · refine r_iconst h d_P_share_125 ki_0 ?_
              refine r_goto h d_P_share_126 ?_
              refine r_istore (ls' := [(11, .int (0 : Int32)), (10, .int (((2 : Int32) * (r37 - ((r37 * r61) / (10 : Int32)))) / (((2 : Int32) * (σ.1 3 (Int32.toNatClampNeg x1))) + (σ.1 4 (Int32.toNatClampNeg x1))))), (9, .int (((2 : Int32) * (σ.1 3 (Int32.toNatClampNeg x1))) + (σ.1 4 (Int32.toNatClampNeg x1)))), (8, .int (σ.1 4 (Int32.toNatClampNeg x1))), (7, .int (σ.1 3 (Int32.toNatClampNeg x1))), (6, .int (r37 - ((r37 * r61) / (10 : Int32)))), (5, .int r37), (0, .ref (ya Z 0)), (1, .int x1), (2, .int x2), (3, .int x3), (4, .int x4)]) h d_P_share_134 (by decide) rfl ?_
              refine r_iload h d_P_share_136 11 rfl ?_
              refine r_iconst h d_P_share_138 ki_2 ?_
              refine r_icmp_ne h d_P_share_139 hf (fun hf => ?_) (fun hf => ?_)
              · refine r_iload h d_P_share_145 11 rfl ?_
                refine r_iconst h d_P_share_147 ki_3 ?_
                refine r_icmp_ne h d_P_share_148 hf (fun hf => ?_) (fun hf => ?_)
                · refine r_iload h d_P_share_154 6 rfl ?_
                  refine r_iload h d_P_share_156 4 rfl ?_
                  refine r_iload h d_P_share_158 1 rfl ?_
                  refine r_imul h d_P_share_160 ?_
                  refine r_isub h d_P_share_161 ?_
                  refine r_iload h d_P_share_162 3 rfl ?_
                  refine r_iload h d_P_share_164 0 rfl ?_
                  refine r_imul h d_P_share_166 ?_
                  refine r_isub h d_P_share_167 ?_
                  exact r_ireturn h d_P_share_168.1 (Option.some.inj hf) rfl
                · refine r_iload h d_P_share_151 0 rfl ?_
                  exact r_ireturn h d_P_share_153.1 (Option.some.inj hf) rfl
              · refine r_iload h d_P_share_142 1 rfl ?_
                exact r_ireturn h d_P_share_144.1 (Option.some.inj hf) rfl
          · refine r_iconst h d_P_share_107 ki_0 ?_
            refine r_goto h d_P_share_108 ?_
            refine r_istore (ls' := [(10, .int (0 : Int32)), (9, .int (((2 : Int32) * (σ.1 3 (Int32.toNatClampNeg x1))) + (σ.1 4 (Int32.toNatClampNeg x1)))), (8, .int (σ.1 4 (Int32.toNatClampNeg x1))), (7, .int (σ.1 3 (Int32.toNatClampNeg x1))), (6, .int (r37 - ((r37 * r61) / (10 : Int32)))), (5, .int r37), (0, .ref (ya Z 0)), (1, .int x1), (2, .int x2), (3, .int x3), (4, .int x4)]) h d_P_share_118 (by decide) rfl ?_
            refine r_iload h d_P_share_120 1 rfl ?_
            refine r_if_ne h d_P_share_122 hf (fun hf => ?_) (fun hf => ?_)
            · refine r_iload h d_P_share_129 4 rfl ?_
              refine r_iload h d_P_share_131 1 rfl ?_
              refine q_div hf (fun hne hf => ?_)
              refine r_idiv h d_P_share_133 hne ?_
              refine r_istore (ls' := [(11, .int ((r37 - ((r37 * r61) / (10 : Int32))) / (((2 : Int32) * (σ.1 3 (Int32.toNatClampNeg x1))) + (σ.1 4 (Int32.toNatClampNeg x1))))), (10, .int (0 : Int32)), (9, .int (((2 : Int32) * (σ.1 3 (Int32.toNatClampNeg x1))) + (σ.1 4 (Int32.toNatClampNeg x1)))), (8, .int (σ.1 4 (Int32.toNatClampNeg x1))), (7, .int (σ.1 3 (Int32.toNatClampNeg x1))), (6, .int (r37 - ((r37 * r61) / (10 : Int32)))), (5, .int r37), (0, .ref (ya Z 0)), (1, .int x1), (2, .int x2), (3, .int x3), (4, .int x4)]) h d_P_share_134 (by decide) rfl ?_
              refine r_iload h d_P_share_136 11 rfl ?_
              refine r_iconst h d_P_share_138 ki_2 ?_
              refine r_icmp_ne h d_P_share_139 hf (fun hf => ?_) (fun hf => ?_)
              · refine r_iload h d_P_share_145 11 rfl ?_
                refine r_iconst h d_P_share_147 ki_3 ?_
                refine r_icmp_ne h d_P_share_148 hf (fun hf => ?_) (fun hf => ?_)
                · refine r_iload h d_P_share_154 6 rfl ?_
                  refine r_iload h d_P_share_156 4 rfl ?_
                  refine r_iload h d_P_share_158 1 rfl ?_
                  refine r_imul h d_P_share_160 ?_
                  refine r_isub h d_P_share_161 ?_
                  refine r_iload h d_P_share_162 3 rfl ?_
                  refine r_iload h d_P_share_164 0 rfl ?_
                  refine r_imul h d_P_share_166 ?_
                  refine r_isub h d_P_share_167 ?_
                  exact r_ireturn h d_P_share_168.1 (Option.some.inj hf) rfl
                · refine r_iload h d_P_share_151 0 rfl ?_
                  exact r_ireturn h d_P_share_153.1 (Option.some.inj hf) rfl
              · refine r_iload h d_P_share_142 1 rfl ?_
                exact r_ireturn h d_P_share_144.1 (Option.some.inj hf) rfl
            · refine r_iconst h d_P_share_125 ki_0 ?_
              refine r_goto h d_P_share_126 ?_
              refine r_istore (ls' := [(11, .int (0 : Int32)), (10, .int (0 : Int32)), (9, .int (((2 : Int32) * (σ.1 3 (Int32.toNatClampNeg x1))) + (σ.1 4 (Int32.toNatClampNeg x1)))), (8, .int (σ.1 4 (Int32.toNatClampNeg x1))), (7, .int (σ.1 3 (Int32.toNatClampNeg x1))), (6, .int (r37 - ((r37 * r61) / (10 : Int32)))), (5, .int r37), (0, .ref (ya Z 0)), (1, .int x1), (2, .int x2), (3, .int x3), (4, .int x4)]) h d_P_share_134 (by decide) rfl ?_
              refine r_iload h d_P_share_136 11 rfl ?_
              refine r_iconst h d_P_share_138 ki_2 ?_
              refine r_icmp_ne h d_P_share_139 hf (fun hf => ?_) (fun hf => ?_)
              · refine r_iload h d_P_share_145 11 rfl ?_
                refine r_iconst h d_P_share_147 ki_3 ?_
                refine r_icmp_ne h d_P_share_148 hf (fun hf => ?_) (fun hf => ?_)
                · refine r_iload h d_P_share_154 6 rfl ?_
                  refine r_iload h d_P_share_156 4 rfl ?_
                  refine r_iload h d_P_share_158 1 rfl ?_
                  refine r_imul h d_P_share_160 ?_
                  refine r_isub h d_P_share_161 ?_
                  refine r_iload h d_P_share_162 3 rfl ?_
                  refine r_iload h d_P_share_164 0 rfl ?_
                  refine r_imul h d_P_share_166 ?_
                  refine r_isub h d_P_share_167 ?_
                  exact r_ireturn h d_P_share_168.1 (Option.some.inj hf) rfl
                · refine r_iload h d_P_share_151 0 rfl ?_
                  exact r_ireturn h d_P_share_153.1 (Option.some.inj hf) rfl
              · refine r_iload h d_P_share_142 1 rfl ?_
                exact r_ireturn h d_P_share_144.1 (Option.some.inj hf) rfl
        · refine r_iload h d_P_share_47 0 rfl ?_
          exact r_ireturn h d_P_share_49.1 (Option.some.inj hf) rfl
      · refine r_bipush h d_P_share_30 kb_m2 ?_
        exact r_ireturn h d_P_share_32.1 (Option.some.inj hf) rfl
  · refine r_iconst h d_P_share_11 ki_m1 ?_
    exact r_ireturn h d_P_share_12.1 (Option.some.inj hf) rfl

