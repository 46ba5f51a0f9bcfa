theorem d_P_areParties_0 : decode c_P_areParties 0 = .ok (.iload_n 0, 1) ∧ 0 + 1 = 1 := by decide +kernel
theorem d_P_areParties_1 : decode c_P_areParties 1 = .ok (.bipush 10, 2) ∧ 1 + 2 = 3 := by decide +kernel
theorem d_P_areParties_3 : decode c_P_areParties 3 = .ok (.invokestatic 96, 3) ∧ 3 + 3 = 6 := by decide +kernel
theorem d_P_areParties_6 : decode c_P_areParties 6 = .ok (.ifCond .eq 16, 3) ∧ 6 + 3 = 9 ∧ ((6 : Nat) : Int) + 16 = ((22 : Nat) : Int) := by decide +kernel
theorem d_P_areParties_9 : decode c_P_areParties 9 = .ok (.iload_n 1, 1) ∧ 9 + 1 = 10 := by decide +kernel
theorem d_P_areParties_10 : decode c_P_areParties 10 = .ok (.bipush 10, 2) ∧ 10 + 2 = 12 := by decide +kernel
theorem d_P_areParties_12 : decode c_P_areParties 12 = .ok (.invokestatic 96, 3) ∧ 12 + 3 = 15 := by decide +kernel
theorem d_P_areParties_15 : decode c_P_areParties 15 = .ok (.ifCond .eq 7, 3) ∧ 15 + 3 = 18 ∧ ((15 : Nat) : Int) + 7 = ((22 : Nat) : Int) := by decide +kernel
theorem d_P_areParties_18 : decode c_P_areParties 18 = .ok (.iconst 1, 1) ∧ 18 + 1 = 19 := by decide +kernel
theorem d_P_areParties_19 : decode c_P_areParties 19 = .ok (.goto 4, 3) ∧ (19 : Int) + 4 = (23 : Int) := by decide +kernel
theorem d_P_areParties_22 : decode c_P_areParties 22 = .ok (.iconst 0, 1) ∧ 22 + 1 = 23 := by decide +kernel
theorem d_P_areParties_23 : decode c_P_areParties 23 = .ok (.ireturn, 1) ∧ 23 + 1 = 24 := by decide +kernel
set_option maxHeartbeats 4000000 in
theorem m_P_areParties {Z : Sy} {σ : St} {res : Bool} {x0 : Int32} {x1 : Int32} (hf : P_areParties x0 x1 σ = some res) : Ct YC Z y_P_areParties c_P_areParties 2 (some .boolean) 2 [.int x0, .int x1] σ (some (.int (bi res))) σ := by
  refine Ct.of pn_P (Nat.le_of_ble_eq_true rfl) rfl (fun Γ h => ?_)
  have h : IsG YC Z R_P c_P_areParties 2 2 (some .boolean) (some (.int (bi res))) σ Γ := h
  unfold P_areParties at hf
  refine r_iload_n h d_P_areParties_0 0 rfl rfl ?_
  refine r_bipush h d_P_areParties_1 kb_10 ?_
  obtain ⟨r3, e3, hf⟩ := q_bind hf
  refine r_callS (As := [.int x0, .int (10 : Int32)]) (rest := []) h lk_P_96 sk_P_96 d_P_areParties_3 (by decide) rfl rfl (Nat.le_of_ble_eq_true rfl) (m_P_isBelow e3) ?_
  refine r_bif_eq h d_P_areParties_6 hf (fun hf => ?_) (fun hf => ?_)
  · refine r_iconst h d_P_areParties_22 ki_0 ?_
    exact r_zreturn h d_P_areParties_23.1 ((show (0 : Int32) = bi false from rfl).trans (congrArg bi (Option.some.inj hf))) rfl
  · refine r_iload_n h d_P_areParties_9 1 rfl rfl ?_
    refine r_bipush h d_P_areParties_10 kb_10 ?_
    obtain ⟨r12, e12, hf⟩ := q_bind hf
    refine r_callS (As := [.int x1, .int (10 : Int32)]) (rest := []) h lk_P_96 sk_P_96 d_P_areParties_12 (by decide) rfl rfl (Nat.le_of_ble_eq_true rfl) (m_P_isBelow e12) ?_
    refine r_bif_eq h d_P_areParties_15 hf (fun hf => ?_) (fun hf => ?_)
    · refine r_iconst h d_P_areParties_22 ki_0 ?_
      exact r_zreturn h d_P_areParties_23.1 ((show (0 : Int32) = bi false from rfl).trans (congrArg bi (Option.some.inj hf))) rfl
    · refine r_iconst h d_P_areParties_18 ki_1 ?_
      refine r_goto h d_P_areParties_19 ?_
      exact r_zreturn h d_P_areParties_23.1 ((show (1 : Int32) = bi true from rfl).trans (congrArg bi (Option.some.inj hf))) rfl

theorem d_Owed_change_0 : decode c_Owed_change 0 = .ok (.aload_n 0, 1) ∧ 0 + 1 = 1 := by decide +kernel
theorem d_Owed_change_1 : decode c_Owed_change 1 = .ok (.getfield 9, 3) ∧ 1 + 3 = 4 := by decide +kernel
theorem d_Owed_change_4 : decode c_Owed_change 4 = .ok (.iload_n 1, 1) ∧ 4 + 1 = 5 := by decide +kernel
theorem d_Owed_change_5 : decode c_Owed_change 5 = .ok (.bipush 10, 2) ∧ 5 + 2 = 7 := by decide +kernel
theorem d_Owed_change_7 : decode c_Owed_change 7 = .ok (.imul, 1) ∧ 7 + 1 = 8 := by decide +kernel
theorem d_Owed_change_8 : decode c_Owed_change 8 = .ok (.iload_n 2, 1) ∧ 8 + 1 = 9 := by decide +kernel
theorem d_Owed_change_9 : decode c_Owed_change 9 = .ok (.iadd, 1) ∧ 9 + 1 = 10 := by decide +kernel
theorem d_Owed_change_10 : decode c_Owed_change 10 = .ok (.iaload, 1) ∧ 10 + 1 = 11 := by decide +kernel
theorem d_Owed_change_11 : decode c_Owed_change 11 = .ok (.istore 4, 2) ∧ 11 + 2 = 13 := by decide +kernel
theorem d_Owed_change_13 : decode c_Owed_change 13 = .ok (.aload_n 0, 1) ∧ 13 + 1 = 14 := by decide +kernel
theorem d_Owed_change_14 : decode c_Owed_change 14 = .ok (.getfield 9, 3) ∧ 14 + 3 = 17 := by decide +kernel
theorem d_Owed_change_17 : decode c_Owed_change 17 = .ok (.iload_n 1, 1) ∧ 17 + 1 = 18 := by decide +kernel
theorem d_Owed_change_18 : decode c_Owed_change 18 = .ok (.bipush 10, 2) ∧ 18 + 2 = 20 := by decide +kernel
theorem d_Owed_change_20 : decode c_Owed_change 20 = .ok (.imul, 1) ∧ 20 + 1 = 21 := by decide +kernel
theorem d_Owed_change_21 : decode c_Owed_change 21 = .ok (.iload_n 2, 1) ∧ 21 + 1 = 22 := by decide +kernel
theorem d_Owed_change_22 : decode c_Owed_change 22 = .ok (.iadd, 1) ∧ 22 + 1 = 23 := by decide +kernel
theorem d_Owed_change_23 : decode c_Owed_change 23 = .ok (.iload_n 3, 1) ∧ 23 + 1 = 24 := by decide +kernel
theorem d_Owed_change_24 : decode c_Owed_change 24 = .ok (.iastore, 1) ∧ 24 + 1 = 25 := by decide +kernel
theorem d_Owed_change_25 : decode c_Owed_change 25 = .ok (.aload_n 0, 1) ∧ 25 + 1 = 26 := by decide +kernel
theorem d_Owed_change_26 : decode c_Owed_change 26 = .ok (.iconst 0, 1) ∧ 26 + 1 = 27 := by decide +kernel
theorem d_Owed_change_27 : decode c_Owed_change 27 = .ok (.putfield 28, 3) ∧ 27 + 3 = 30 := by decide +kernel
theorem d_Owed_change_30 : decode c_Owed_change 30 = .ok (.iload 4, 2) ∧ 30 + 2 = 32 := by decide +kernel
theorem d_Owed_change_32 : decode c_Owed_change 32 = .ok (.ireturn, 1) ∧ 32 + 1 = 33 := by decide +kernel
set_option maxHeartbeats 4000000 in
theorem m_Owed_change {Z : Sy} {σ : St} {res : (Int32 × St)} {x1 : Int32} {x2 : Int32} {x3 : Int32} (hf : Owed_change x1 x2 x3 σ = some res) : Ct YC Z y_Owed_change c_Owed_change 5 (some .int) 1 [.ref (ya Z 57), .int x1, .int x2, .int x3] σ (some (.int res.1)) res.2 := by
  refine Ct.of pn_Owed (Nat.le_of_ble_eq_true rfl) rfl (fun Γ h => ?_)
  have h : IsG YC Z R_Owed c_Owed_change 5 1 (some .int) (some (.int res.1)) res.2 Γ := h
  unfold Owed_change at hf
  refine r_aload_n h d_Owed_change_0 0 rfl rfl ?_
  refine r_getR h fd_YC_57_0 cf_Owed fl_Owed_9 d_Owed_change_1 ?_
  refine r_iload_n h d_Owed_change_4 1 rfl rfl ?_
  refine r_bipush h d_Owed_change_5 kb_10 ?_
  refine r_imul h d_Owed_change_7 ?_
  refine r_iload_n h d_Owed_change_8 2 rfl rfl ?_
  refine r_iadd h d_Owed_change_9 ?_
  refine r_iald h sh_YC_58 d_Owed_change_10 hf (fun hf => ?_)
  refine r_istore (ls' := [(4, .int (σ.1 58 (Int32.toNatClampNeg ((x1 * (10 : Int32)) + x2)))), (0, .ref (ya Z 57)), (1, .int x1), (2, .int x2), (3, .int x3)]) h d_Owed_change_11 (by decide) rfl ?_
  refine r_aload_n h d_Owed_change_13 1 rfl rfl ?_
  refine r_getR h fd_YC_57_0 cf_Owed fl_Owed_9 d_Owed_change_14 ?_
  refine r_iload_n h d_Owed_change_17 2 rfl rfl ?_
  refine r_bipush h d_Owed_change_18 kb_10 ?_
  refine r_imul h d_Owed_change_20 ?_
  refine r_iload_n h d_Owed_change_21 3 rfl rfl ?_
  refine r_iadd h d_Owed_change_22 ?_
  refine r_iload_n h d_Owed_change_23 4 rfl rfl ?_
  refine r_iast h sh_YC_58 d_Owed_change_24 hf (fun hf => ?_)
  refine r_aload_n h d_Owed_change_25 1 rfl rfl ?_
  refine r_iconst h d_Owed_change_26 ki_0 ?_
  refine r_putX h fd_YC_57_6 cf_Owed fl_Owed_28 ⟨rfl, rfl⟩ (ty := .boolean) (by decide) (by decide) d_Owed_change_27 ?_
  refine r_iload h d_Owed_change_30 0 rfl ?_
  exact r_ireturn h d_Owed_change_32.1 (q_p1 hf) (q_p2 hf)

theorem d_P_owe_0 : decode c_P_owe 0 = .ok (.iload_n 1, 1) ∧ 0 + 1 = 1 := by decide +kernel
theorem d_P_owe_1 : decode c_P_owe 1 = .ok (.iload_n 2, 1) ∧ 1 + 1 = 2 := by decide +kernel
theorem d_P_owe_2 : decode c_P_owe 2 = .ok (.invokestatic 319, 3) ∧ 2 + 3 = 5 := by decide +kernel
theorem d_P_owe_5 : decode c_P_owe 5 = .ok (.ifCond .eq 18, 3) ∧ 5 + 3 = 8 ∧ ((5 : Nat) : Int) + 18 = ((23 : Nat) : Int) := by decide +kernel
theorem d_P_owe_8 : decode c_P_owe 8 = .ok (.iload_n 1, 1) ∧ 8 + 1 = 9 := by decide +kernel
theorem d_P_owe_9 : decode c_P_owe 9 = .ok (.iload_n 2, 1) ∧ 9 + 1 = 10 := by decide +kernel
theorem d_P_owe_10 : decode c_P_owe 10 = .ok (.if_icmp .eq 13, 3) ∧ 10 + 3 = 13 ∧ ((10 : Nat) : Int) + 13 = ((23 : Nat) : Int) := by decide +kernel
theorem d_P_owe_13 : decode c_P_owe 13 = .ok (.iload_n 3, 1) ∧ 13 + 1 = 14 := by decide +kernel
theorem d_P_owe_14 : decode c_P_owe 14 = .ok (.ldc_w 322, 3) ∧ 14 + 3 = 17 := by decide +kernel
theorem d_P_owe_17 : decode c_P_owe 17 = .ok (.invokestatic 96, 3) ∧ 17 + 3 = 20 := by decide +kernel
theorem d_P_owe_20 : decode c_P_owe 20 = .ok (.ifCond .ne 6, 3) ∧ 20 + 3 = 23 ∧ ((20 : Nat) : Int) + 6 = ((26 : Nat) : Int) := by decide +kernel
theorem d_P_owe_23 : decode c_P_owe 23 = .ok (.bipush (-2), 2) ∧ 23 + 2 = 25 := by decide +kernel
theorem d_P_owe_25 : decode c_P_owe 25 = .ok (.ireturn, 1) ∧ 25 + 1 = 26 := by decide +kernel
theorem d_P_owe_26 : decode c_P_owe 26 = .ok (.aload_n 0, 1) ∧ 26 + 1 = 27 := by decide +kernel
theorem d_P_owe_27 : decode c_P_owe 27 = .ok (.getfield 71, 3) ∧ 27 + 3 = 30 := by decide +kernel
theorem d_P_owe_30 : decode c_P_owe 30 = .ok (.iload_n 1, 1) ∧ 30 + 1 = 31 := by decide +kernel
theorem d_P_owe_31 : decode c_P_owe 31 = .ok (.iload_n 2, 1) ∧ 31 + 1 = 32 := by decide +kernel
theorem d_P_owe_32 : decode c_P_owe 32 = .ok (.iload_n 3, 1) ∧ 32 + 1 = 33 := by decide +kernel
theorem d_P_owe_33 : decode c_P_owe 33 = .ok (.invokevirtual 323, 3) ∧ 33 + 3 = 36 := by decide +kernel
theorem d_P_owe_36 : decode c_P_owe 36 = .ok (.ireturn, 1) ∧ 36 + 1 = 37 := by decide +kernel
set_option maxHeartbeats 4000000 in
theorem m_P_owe {Z : Sy} {σ : St} {res : (Int32 × St)} {x1 : Int32} {x2 : Int32} {x3 : Int32} (hf : P_owe x1 x2 x3 σ = some res) : Ct YC Z y_P_owe c_P_owe 4 (some .int) 3 [.ref (ya Z 0), .int x1, .int x2, .int x3] σ (some (.int res.1)) res.2 := by
  refine Ct.of pn_P (Nat.le_of_ble_eq_true rfl) rfl (fun Γ h => ?_)
  have h : IsG YC Z R_P c_P_owe 4 3 (some .int) (some (.int res.1)) res.2 Γ := h
  unfold P_owe at hf
  refine r_iload_n h d_P_owe_0 1 rfl rfl ?_
  refine r_iload_n h d_P_owe_1 2 rfl rfl ?_
  obtain ⟨r2, e2, hf⟩ := q_bind hf
  refine r_callS (As := [.int x1, .int x2]) (rest := []) h lk_P_319 sk_P_319 d_P_owe_2 (by decide) rfl rfl (Nat.le_of_ble_eq_true rfl) (m_P_areParties e2) ?_
  refine r_bif_eq h d_P_owe_5 hf (fun hf => ?_) (fun hf => ?_)
  · refine r_bipush h d_P_owe_23 kb_m2 ?_
    exact r_ireturn h d_P_owe_25.1 (q_p1 hf) (q_p2 hf)
  · refine r_iload_n h d_P_owe_8 1 rfl rfl ?_
    refine r_iload_n h d_P_owe_9 2 rfl rfl ?_
    refine r_icmp_eq h d_P_owe_10 hf (fun hf => ?_) (fun hf => ?_)
    · refine r_bipush h d_P_owe_23 kb_m2 ?_
      exact r_ireturn h d_P_owe_25.1 (q_p1 hf) (q_p2 hf)
    · refine r_iload_n h d_P_owe_13 3 rfl rfl ?_
      refine r_ldcw h d_P_owe_14 tm_895 ?_
      obtain ⟨r17, e17, hf⟩ := q_bind hf
      refine r_callS (As := [.int x3, .int (100000 : Int32)]) (rest := []) h lk_P_96 sk_P_96 d_P_owe_17 (by decide) rfl rfl (Nat.le_of_ble_eq_true rfl) (m_P_isBelow e17) ?_
      refine r_bif_ne h d_P_owe_20 hf (fun hf => ?_) (fun hf => ?_)
      · refine r_aload_n h d_P_owe_26 0 rfl rfl ?_
        refine r_getR h fd_YC_0_9 cf_P fl_P_71 d_P_owe_27 ?_
        refine r_iload_n h d_P_owe_30 1 rfl rfl ?_
        refine r_iload_n h d_P_owe_31 2 rfl rfl ?_
        refine r_iload_n h d_P_owe_32 3 rfl rfl ?_
        obtain ⟨q33, e33, hf⟩ := q_bind hf
        refine r_callV (As := [.int x1, .int x2, .int x3]) (rest := []) h sh_YC_57 lk_P_323 vk_P_323 d_P_owe_33 (by decide) rfl rfl (Nat.le_of_ble_eq_true rfl) (m_Owed_change e33) ?_
        exact r_ireturn h d_P_owe_36.1 (q_p1 hf) (q_p2 hf)
      · refine r_bipush h d_P_owe_23 kb_m2 ?_
        exact r_ireturn h d_P_owe_25.1 (q_p1 hf) (q_p2 hf)

theorem d_P_owes_0 : decode c_P_owes 0 = .ok (.iload_n 1, 1) ∧ 0 + 1 = 1 := by decide +kernel
theorem d_P_owes_1 : decode c_P_owes 1 = .ok (.iload_n 2, 1) ∧ 1 + 1 = 2 := by decide +kernel
theorem d_P_owes_2 : decode c_P_owes 2 = .ok (.invokestatic 319, 3) ∧ 2 + 3 = 5 := by decide +kernel
theorem d_P_owes_5 : decode c_P_owes 5 = .ok (.ifCond .ne 6, 3) ∧ 5 + 3 = 8 ∧ ((5 : Nat) : Int) + 6 = ((11 : Nat) : Int) := by decide +kernel
theorem d_P_owes_8 : decode c_P_owes 8 = .ok (.bipush (-2), 2) ∧ 8 + 2 = 10 := by decide +kernel
theorem d_P_owes_10 : decode c_P_owes 10 = .ok (.ireturn, 1) ∧ 10 + 1 = 11 := by decide +kernel
theorem d_P_owes_11 : decode c_P_owes 11 = .ok (.aload_n 0, 1) ∧ 11 + 1 = 12 := by decide +kernel
theorem d_P_owes_12 : decode c_P_owes 12 = .ok (.getfield 71, 3) ∧ 12 + 3 = 15 := by decide +kernel
theorem d_P_owes_15 : decode c_P_owes 15 = .ok (.getfield 325, 3) ∧ 15 + 3 = 18 := by decide +kernel
theorem d_P_owes_18 : decode c_P_owes 18 = .ok (.iload_n 1, 1) ∧ 18 + 1 = 19 := by decide +kernel
theorem d_P_owes_19 : decode c_P_owes 19 = .ok (.bipush 10, 2) ∧ 19 + 2 = 21 := by decide +kernel
theorem d_P_owes_21 : decode c_P_owes 21 = .ok (.imul, 1) ∧ 21 + 1 = 22 := by decide +kernel
theorem d_P_owes_22 : decode c_P_owes 22 = .ok (.iload_n 2, 1) ∧ 22 + 1 = 23 := by decide +kernel
theorem d_P_owes_23 : decode c_P_owes 23 = .ok (.iadd, 1) ∧ 23 + 1 = 24 := by decide +kernel
theorem d_P_owes_24 : decode c_P_owes 24 = .ok (.iaload, 1) ∧ 24 + 1 = 25 := by decide +kernel
theorem d_P_owes_25 : decode c_P_owes 25 = .ok (.ireturn, 1) ∧ 25 + 1 = 26 := by decide +kernel
set_option maxHeartbeats 4000000 in
theorem m_P_owes {Z : Sy} {σ : St} {res : Int32} {x1 : Int32} {x2 : Int32} (hf : P_owes x1 x2 σ = some res) : Ct YC Z y_P_owes c_P_owes 3 (some .int) 3 [.ref (ya Z 0), .int x1, .int x2] σ (some (.int res)) σ := by
  refine Ct.of pn_P (Nat.le_of_ble_eq_true rfl) rfl (fun Γ h => ?_)
  have h : IsG YC Z R_P c_P_owes 3 3 (some .int) (some (.int res)) σ Γ := h
  unfold P_owes at hf
  refine r_iload_n h d_P_owes_0 1 rfl rfl ?_
  refine r_iload_n h d_P_owes_1 2 rfl rfl ?_
  obtain ⟨r2, e2, hf⟩ := q_bind hf
  refine r_callS (As := [.int x1, .int x2]) (rest := []) h lk_P_319 sk_P_319 d_P_owes_2 (by decide) rfl rfl (Nat.le_of_ble_eq_true rfl) (m_P_areParties e2) ?_
  refine r_bif_ne h d_P_owes_5 hf (fun hf => ?_) (fun hf => ?_)
  · refine r_aload_n h d_P_owes_11 0 rfl rfl ?_
    refine r_getR h fd_YC_0_9 cf_P fl_P_71 d_P_owes_12 ?_
    refine r_getR h fd_YC_57_0 cf_Owed fl_P_325 d_P_owes_15 ?_
    refine r_iload_n h d_P_owes_18 1 rfl rfl ?_
    refine r_bipush h d_P_owes_19 kb_10 ?_
    refine r_imul h d_P_owes_21 ?_
    refine r_iload_n h d_P_owes_22 2 rfl rfl ?_
    refine r_iadd h d_P_owes_23 ?_
    refine r_iald h sh_YC_58 d_P_owes_24 hf (fun hf => ?_)
    exact r_ireturn h d_P_owes_25.1 (Option.some.inj hf) rfl
  · refine r_bipush h d_P_owes_8 kb_m2 ?_
    exact r_ireturn h d_P_owes_10.1 (Option.some.inj hf) rfl

theorem d_Owed_link_0 : decode c_Owed_link 0 = .ok (.iload_n 1, 1) ∧ 0 + 1 = 1 := by decide +kernel
theorem d_Owed_link_1 : decode c_Owed_link 1 = .ok (.iconst 1, 1) ∧ 1 + 1 = 2 := by decide +kernel
theorem d_Owed_link_2 : decode c_Owed_link 2 = .ok (.iadd, 1) ∧ 2 + 1 = 3 := by decide +kernel
theorem d_Owed_link_3 : decode c_Owed_link 3 = .ok (.iload_n 2, 1) ∧ 3 + 1 = 4 := by decide +kernel
theorem d_Owed_link_4 : decode c_Owed_link 4 = .ok (.if_icmp .ge 14, 3) ∧ 4 + 3 = 7 ∧ ((4 : Nat) : Int) + 14 = ((18 : Nat) : Int) := by decide +kernel
theorem d_Owed_link_7 : decode c_Owed_link 7 = .ok (.aload_n 0, 1) ∧ 7 + 1 = 8 := by decide +kernel
theorem d_Owed_link_8 : decode c_Owed_link 8 = .ok (.getfield 25, 3) ∧ 8 + 3 = 11 := by decide +kernel
theorem d_Owed_link_11 : decode c_Owed_link 11 = .ok (.iload_n 1, 1) ∧ 11 + 1 = 12 := by decide +kernel
theorem d_Owed_link_12 : decode c_Owed_link 12 = .ok (.iconst 1, 1) ∧ 12 + 1 = 13 := by decide +kernel
theorem d_Owed_link_13 : decode c_Owed_link 13 = .ok (.iadd, 1) ∧ 13 + 1 = 14 := by decide +kernel
theorem d_Owed_link_14 : decode c_Owed_link 14 = .ok (.iaload, 1) ∧ 14 + 1 = 15 := by decide +kernel
theorem d_Owed_link_15 : decode c_Owed_link 15 = .ok (.goto 9, 3) ∧ (15 : Int) + 9 = (24 : Int) := by decide +kernel
theorem d_Owed_link_18 : decode c_Owed_link 18 = .ok (.aload_n 0, 1) ∧ 18 + 1 = 19 := by decide +kernel
theorem d_Owed_link_19 : decode c_Owed_link 19 = .ok (.getfield 25, 3) ∧ 19 + 3 = 22 := by decide +kernel
theorem d_Owed_link_22 : decode c_Owed_link 22 = .ok (.iconst 0, 1) ∧ 22 + 1 = 23 := by decide +kernel
theorem d_Owed_link_23 : decode c_Owed_link 23 = .ok (.iaload, 1) ∧ 23 + 1 = 24 := by decide +kernel
theorem d_Owed_link_24 : decode c_Owed_link 24 = .ok (.istore_n 3, 1) ∧ 24 + 1 = 25 := by decide +kernel
theorem d_Owed_link_25 : decode c_Owed_link 25 = .ok (.aload_n 0, 1) ∧ 25 + 1 = 26 := by decide +kernel
theorem d_Owed_link_26 : decode c_Owed_link 26 = .ok (.getfield 25, 3) ∧ 26 + 3 = 29 := by decide +kernel
theorem d_Owed_link_29 : decode c_Owed_link 29 = .ok (.iload_n 1, 1) ∧ 29 + 1 = 30 := by decide +kernel
theorem d_Owed_link_30 : decode c_Owed_link 30 = .ok (.iaload, 1) ∧ 30 + 1 = 31 := by decide +kernel
theorem d_Owed_link_31 : decode c_Owed_link 31 = .ok (.bipush 10, 2) ∧ 31 + 2 = 33 := by decide +kernel
theorem d_Owed_link_33 : decode c_Owed_link 33 = .ok (.imul, 1) ∧ 33 + 1 = 34 := by decide +kernel
theorem d_Owed_link_34 : decode c_Owed_link 34 = .ok (.iload_n 3, 1) ∧ 34 + 1 = 35 := by decide +kernel
theorem d_Owed_link_35 : decode c_Owed_link 35 = .ok (.iadd, 1) ∧ 35 + 1 = 36 := by decide +kernel
theorem d_Owed_link_36 : decode c_Owed_link 36 = .ok (.ireturn, 1) ∧ 36 + 1 = 37 := by decide +kernel
set_option maxHeartbeats 4000000 in
theorem m_Owed_link {Z : Sy} {σ : St} {res : Int32} {x1 : Int32} {x2 : Int32} (hf : Owed_link x1 x2 σ = some res) : Ct YC Z y_Owed_link c_Owed_link 4 (some .int) 1 [.ref (ya Z 57), .int x1, .int x2] σ (some (.int res)) σ := by
  refine Ct.of pn_Owed (Nat.le_of_ble_eq_true rfl) rfl (fun Γ h => ?_)
  have h : IsG YC Z R_Owed c_Owed_link 4 1 (some .int) (some (.int res)) σ Γ := h
  unfold Owed_link at hf
  refine r_iload_n h d_Owed_link_0 1 rfl rfl ?_
  refine r_iconst h d_Owed_link_1 ki_1 ?_
  refine r_iadd h d_Owed_link_2 ?_
  refine r_iload_n h d_Owed_link_3 2 rfl rfl ?_
  refine r_icmp_ge h d_Owed_link_4 hf (fun hf => ?_) (fun hf => ?_)
  · refine r_aload_n h d_Owed_link_18 0 rfl rfl ?_
    refine r_getR h fd_YC_57_5 cf_Owed fl_Owed_25 d_Owed_link_19 ?_
    refine r_iconst h d_Owed_link_22 ki_0 ?_
    refine r_iald h sh_YC_63 d_Owed_link_23 hf (fun hf => ?_)
    refine r_istore_n (ls' := [(3, .int (σ.1 63 (Int32.toNatClampNeg (0 : Int32)))), (0, .ref (ya Z 57)), (1, .int x1), (2, .int x2)]) h d_Owed_link_24 rfl (by decide) rfl ?_
    refine r_aload_n h d_Owed_link_25 1 rfl rfl ?_
    refine r_getR h fd_YC_57_5 cf_Owed fl_Owed_25 d_Owed_link_26 ?_
    refine r_iload_n h d_Owed_link_29 2 rfl rfl ?_
    refine r_iald h sh_YC_63 d_Owed_link_30 hf (fun hf => ?_)
    refine r_bipush h d_Owed_link_31 kb_10 ?_
    refine r_imul h d_Owed_link_33 ?_
    refine r_iload_n h d_Owed_link_34 0 rfl rfl ?_
    refine r_iadd h d_Owed_link_35 ?_
    exact r_ireturn h d_Owed_link_36.1 (Option.some.inj hf) rfl
  · refine r_aload_n h d_Owed_link_7 0 rfl rfl ?_
    refine r_getR h fd_YC_57_5 cf_Owed fl_Owed_25 d_Owed_link_8 ?_
    refine r_iload_n h d_Owed_link_11 1 rfl rfl ?_
    refine r_iconst h d_Owed_link_12 ki_1 ?_
    refine r_iadd h d_Owed_link_13 ?_
    refine r_iald h sh_YC_63 d_Owed_link_14 hf (fun hf => ?_)
    refine r_goto h d_Owed_link_15 ?_
    refine r_istore_n (ls' := [(3, .int (σ.1 63 (Int32.toNatClampNeg (x1 + (1 : Int32))))), (0, .ref (ya Z 57)), (1, .int x1), (2, .int x2)]) h d_Owed_link_24 rfl (by decide) rfl ?_
    refine r_aload_n h d_Owed_link_25 1 rfl rfl ?_
    refine r_getR h fd_YC_57_5 cf_Owed fl_Owed_25 d_Owed_link_26 ?_
    refine r_iload_n h d_Owed_link_29 2 rfl rfl ?_
    refine r_iald h sh_YC_63 d_Owed_link_30 hf (fun hf => ?_)
    refine r_bipush h d_Owed_link_31 kb_10 ?_
    refine r_imul h d_Owed_link_33 ?_
    refine r_iload_n h d_Owed_link_34 0 rfl rfl ?_
    refine r_iadd h d_Owed_link_35 ?_
    exact r_ireturn h d_Owed_link_36.1 (Option.some.inj hf) rfl

theorem d_Owed_lessen_0 : decode c_Owed_lessen 0 = .ok (.aload_n 0, 1) ∧ 0 + 1 = 1 := by decide +kernel
theorem d_Owed_lessen_1 : decode c_Owed_lessen 1 = .ok (.getfield 9, 3) ∧ 1 + 3 = 4 := by decide +kernel
theorem d_Owed_lessen_4 : decode c_Owed_lessen 4 = .ok (.aload_n 0, 1) ∧ 4 + 1 = 5 := by decide +kernel
theorem d_Owed_lessen_5 : decode c_Owed_lessen 5 = .ok (.iload_n 1, 1) ∧ 5 + 1 = 6 := by decide +kernel
theorem d_Owed_lessen_6 : decode c_Owed_lessen 6 = .ok (.iconst 1, 1) ∧ 6 + 1 = 7 := by decide +kernel
theorem d_Owed_lessen_7 : decode c_Owed_lessen 7 = .ok (.isub, 1) ∧ 7 + 1 = 8 := by decide +kernel
theorem d_Owed_lessen_8 : decode c_Owed_lessen 8 = .ok (.iload_n 1, 1) ∧ 8 + 1 = 9 := by decide +kernel
theorem d_Owed_lessen_9 : decode c_Owed_lessen 9 = .ok (.invokevirtual 47, 3) ∧ 9 + 3 = 12 := by decide +kernel
theorem d_Owed_lessen_12 : decode c_Owed_lessen 12 = .ok (.iaload, 1) ∧ 12 + 1 = 13 := by decide +kernel
theorem d_Owed_lessen_13 : decode c_Owed_lessen 13 = .ok (.istore_n 2, 1) ∧ 13 + 1 = 14 := by decide +kernel
theorem d_Owed_lessen_14 : decode c_Owed_lessen 14 = .ok (.iconst 0, 1) ∧ 14 + 1 = 15 := by decide +kernel
theorem d_Owed_lessen_15 : decode c_Owed_lessen 15 = .ok (.istore_n 3, 1) ∧ 15 + 1 = 16 := by decide +kernel
theorem d_Owed_lessen_16 : decode c_Owed_lessen 16 = .ok (.iload_n 3, 1) ∧ 16 + 1 = 17 := by decide +kernel
theorem d_Owed_lessen_17 : decode c_Owed_lessen 17 = .ok (.iload_n 1, 1) ∧ 17 + 1 = 18 := by decide +kernel
theorem d_Owed_lessen_18 : decode c_Owed_lessen 18 = .ok (.iconst 1, 1) ∧ 18 + 1 = 19 := by decide +kernel
theorem d_Owed_lessen_19 : decode c_Owed_lessen 19 = .ok (.isub, 1) ∧ 19 + 1 = 20 := by decide +kernel
theorem d_Owed_lessen_20 : decode c_Owed_lessen 20 = .ok (.if_icmp .ge 25, 3) ∧ 20 + 3 = 23 ∧ ((20 : Nat) : Int) + 25 = ((45 : Nat) : Int) := by decide +kernel
theorem d_Owed_lessen_23 : decode c_Owed_lessen 23 = .ok (.iload_n 2, 1) ∧ 23 + 1 = 24 := by decide +kernel
theorem d_Owed_lessen_24 : decode c_Owed_lessen 24 = .ok (.aload_n 0, 1) ∧ 24 + 1 = 25 := by decide +kernel
theorem d_Owed_lessen_25 : decode c_Owed_lessen 25 = .ok (.getfield 9, 3) ∧ 25 + 3 = 28 := by decide +kernel
theorem d_Owed_lessen_28 : decode c_Owed_lessen 28 = .ok (.aload_n 0, 1) ∧ 28 + 1 = 29 := by decide +kernel
theorem d_Owed_lessen_29 : decode c_Owed_lessen 29 = .ok (.iload_n 3, 1) ∧ 29 + 1 = 30 := by decide +kernel
theorem d_Owed_lessen_30 : decode c_Owed_lessen 30 = .ok (.iload_n 1, 1) ∧ 30 + 1 = 31 := by decide +kernel
theorem d_Owed_lessen_31 : decode c_Owed_lessen 31 = .ok (.invokevirtual 47, 3) ∧ 31 + 3 = 34 := by decide +kernel
theorem d_Owed_lessen_34 : decode c_Owed_lessen 34 = .ok (.iaload, 1) ∧ 34 + 1 = 35 := by decide +kernel
theorem d_Owed_lessen_35 : decode c_Owed_lessen 35 = .ok (.invokestatic 51, 3) ∧ 35 + 3 = 38 := by decide +kernel
theorem d_Owed_lessen_38 : decode c_Owed_lessen 38 = .ok (.istore_n 2, 1) ∧ 38 + 1 = 39 := by decide +kernel
theorem d_Owed_lessen_39 : decode c_Owed_lessen 39 = .ok (.iinc 3 1, 3) ∧ 39 + 3 = 42 := by decide +kernel
theorem d_Owed_lessen_42 : decode c_Owed_lessen 42 = .ok (.goto (-26), 3) ∧ (42 : Int) + (-26) = (16 : Int) := by decide +kernel
theorem d_Owed_lessen_45 : decode c_Owed_lessen 45 = .ok (.iconst 0, 1) ∧ 45 + 1 = 46 := by decide +kernel
theorem d_Owed_lessen_46 : decode c_Owed_lessen 46 = .ok (.istore_n 3, 1) ∧ 46 + 1 = 47 := by decide +kernel
theorem d_Owed_lessen_47 : decode c_Owed_lessen 47 = .ok (.iload_n 3, 1) ∧ 47 + 1 = 48 := by decide +kernel
theorem d_Owed_lessen_48 : decode c_Owed_lessen 48 = .ok (.iload_n 1, 1) ∧ 48 + 1 = 49 := by decide +kernel
theorem d_Owed_lessen_49 : decode c_Owed_lessen 49 = .ok (.if_icmp .ge 24, 3) ∧ 49 + 3 = 52 ∧ ((49 : Nat) : Int) + 24 = ((73 : Nat) : Int) := by decide +kernel
theorem d_Owed_lessen_52 : decode c_Owed_lessen 52 = .ok (.aload_n 0, 1) ∧ 52 + 1 = 53 := by decide +kernel
theorem d_Owed_lessen_53 : decode c_Owed_lessen 53 = .ok (.getfield 9, 3) ∧ 53 + 3 = 56 := by decide +kernel
theorem d_Owed_lessen_56 : decode c_Owed_lessen 56 = .ok (.aload_n 0, 1) ∧ 56 + 1 = 57 := by decide +kernel
theorem d_Owed_lessen_57 : decode c_Owed_lessen 57 = .ok (.iload_n 3, 1) ∧ 57 + 1 = 58 := by decide +kernel
theorem d_Owed_lessen_58 : decode c_Owed_lessen 58 = .ok (.iload_n 1, 1) ∧ 58 + 1 = 59 := by decide +kernel
theorem d_Owed_lessen_59 : decode c_Owed_lessen 59 = .ok (.invokevirtual 47, 3) ∧ 59 + 3 = 62 := by decide +kernel
theorem d_Owed_lessen_62 : decode c_Owed_lessen 62 = .ok (.dup2, 1) ∧ 62 + 1 = 63 := by decide +kernel
theorem d_Owed_lessen_63 : decode c_Owed_lessen 63 = .ok (.iaload, 1) ∧ 63 + 1 = 64 := by decide +kernel
theorem d_Owed_lessen_64 : decode c_Owed_lessen 64 = .ok (.iload_n 2, 1) ∧ 64 + 1 = 65 := by decide +kernel
theorem d_Owed_lessen_65 : decode c_Owed_lessen 65 = .ok (.isub, 1) ∧ 65 + 1 = 66 := by decide +kernel
theorem d_Owed_lessen_66 : decode c_Owed_lessen 66 = .ok (.iastore, 1) ∧ 66 + 1 = 67 := by decide +kernel
theorem d_Owed_lessen_67 : decode c_Owed_lessen 67 = .ok (.iinc 3 1, 3) ∧ 67 + 3 = 70 := by decide +kernel
theorem d_Owed_lessen_70 : decode c_Owed_lessen 70 = .ok (.goto (-23), 3) ∧ (70 : Int) + (-23) = (47 : Int) := by decide +kernel
theorem d_Owed_lessen_73 : decode c_Owed_lessen 73 = .ok (.iload_n 2, 1) ∧ 73 + 1 = 74 := by decide +kernel
theorem d_Owed_lessen_74 : decode c_Owed_lessen 74 = .ok (.iload_n 1, 1) ∧ 74 + 1 = 75 := by decide +kernel
theorem d_Owed_lessen_75 : decode c_Owed_lessen 75 = .ok (.imul, 1) ∧ 75 + 1 = 76 := by decide +kernel
theorem d_Owed_lessen_76 : decode c_Owed_lessen 76 = .ok (.ireturn, 1) ∧ 76 + 1 = 77 := by decide +kernel
set_option maxHeartbeats 4000000 in
theorem w_Owed_lessen_L47 {Z : Sy} {Γ : Nat → List (Nat × Value) → List Value → St → Prop} {res : (Int32 × St)} {x1 : Int32} {x2 : Int32} (h : IsG YC Z R_Owed c_Owed_lessen 4 2 (some .int) (some (.int res.1)) res.2 Γ) : ∀ (n : Nat) (x3 : Int32) (σ : St), Owed_lessen_L47 x1 x2 n x3 σ = some res → Γ 47 [(0, .ref (ya Z 57)), (1, .int x1), (2, .int x2), (3, .int x3)] [] σ := by
  intro n
  induction n with
  | zero => intro x3 σ hf; exact absurd hf (by simp [Owed_lessen_L47])
  | succ n ih =>
    intro x3 σ hf
    rw [Owed_lessen_L47] at hf
    refine r_iload_n h d_Owed_lessen_47 3 rfl rfl ?_
    refine r_iload_n h d_Owed_lessen_48 1 rfl rfl ?_
    refine r_icmp_ge h d_Owed_lessen_49 hf (fun hf => ?_) (fun hf => ?_)
    · refine r_iload_n h d_Owed_lessen_73 2 rfl rfl ?_
      refine r_iload_n h d_Owed_lessen_74 1 rfl rfl ?_
      refine r_imul h d_Owed_lessen_75 ?_
      exact r_ireturn h d_Owed_lessen_76.1 (q_p1 hf) (q_p2 hf)
    · refine r_aload_n h d_Owed_lessen_52 0 rfl rfl ?_
      refine r_getR h fd_YC_57_0 cf_Owed fl_Owed_9 d_Owed_lessen_53 ?_
      refine r_aload_n h d_Owed_lessen_56 0 rfl rfl ?_
      refine r_iload_n h d_Owed_lessen_57 3 rfl rfl ?_
      refine r_iload_n h d_Owed_lessen_58 1 rfl rfl ?_
      obtain ⟨r59, e59, hf⟩ := q_bind hf
      refine r_callV (As := [.int x3, .int x1]) (rest := [.ref (ya Z 58)]) h sh_YC_57 lk_Owed_47 vk_Owed_47 d_Owed_lessen_59 (by decide) rfl rfl (Nat.le_of_ble_eq_true rfl) (m_Owed_link e59) ?_
      refine r_dup2 h d_Owed_lessen_62 rfl rfl ?_
      refine r_iald h sh_YC_58 d_Owed_lessen_63 hf (fun hf => ?_)
      refine r_iload_n h d_Owed_lessen_64 2 rfl rfl ?_
      refine r_isub h d_Owed_lessen_65 ?_
      refine r_iast h sh_YC_58 d_Owed_lessen_66 hf (fun hf => ?_)
      refine r_iinc (ls' := [(3, .int (x3 + (1 : Int32))), (0, .ref (ya Z 57)), (1, .int x1), (2, .int x2)]) h d_Owed_lessen_67 3 rfl ki_1 (by decide) rfl ?_
      refine r_goto h d_Owed_lessen_70 ?_
      refine r_sub h [1, 2, 3, 0] rfl ?_
      exact ih _ _ hf

set_option maxHeartbeats 4000000 in
theorem w_Owed_lessen_L16 {Z : Sy} {Γ : Nat → List (Nat × Value) → List Value → St → Prop} {res : (Int32 × St)} {x1 : Int32} {σ : St} (h : IsG YC Z R_Owed c_Owed_lessen 4 2 (some .int) (some (.int res.1)) res.2 Γ) : ∀ (n : Nat) (x2 : Int32) (x3 : Int32), Owed_lessen_L16 x1 σ n x2 x3 = some res → Γ 16 [(0, .ref (ya Z 57)), (1, .int x1), (2, .int x2), (3, .int x3)] [] σ := by
  intro n
  induction n with
  | zero => intro x2 x3 hf; exact absurd hf (by simp [Owed_lessen_L16])
  | succ n ih =>
    intro x2 x3 hf
    rw [Owed_lessen_L16] at hf
    refine r_iload_n h d_Owed_lessen_16 3 rfl rfl ?_
    refine r_iload_n h d_Owed_lessen_17 1 rfl rfl ?_
    refine r_iconst h d_Owed_lessen_18 ki_1 ?_
    refine r_isub h d_Owed_lessen_19 ?_
    refine r_icmp_ge h d_Owed_lessen_20 hf (fun hf => ?_) (fun hf => ?_)
    · refine r_iconst h d_Owed_lessen_45 ki_0 ?_
      refine r_istore_n (ls' := [(3, .int (0 : Int32)), (0, .ref (ya Z 57)), (1, .int x1), (2, .int x2)]) h d_Owed_lessen_46 rfl (by decide) rfl ?_
      refine r_sub h [1, 2, 3, 0] rfl ?_
      exact w_Owed_lessen_L47 h _ _ _ hf
    · refine r_iload_n h d_Owed_lessen_23 2 rfl rfl ?_
      refine r_aload_n h d_Owed_lessen_24 0 rfl rfl ?_
      refine r_getR h fd_YC_57_0 cf_Owed fl_Owed_9 d_Owed_lessen_25 ?_
      refine r_aload_n h d_Owed_lessen_28 0 rfl rfl ?_
      refine r_iload_n h d_Owed_lessen_29 3 rfl rfl ?_
      refine r_iload_n h d_Owed_lessen_30 1 rfl rfl ?_
      obtain ⟨r31, e31, hf⟩ := q_bind hf
      refine r_callV (As := [.int x3, .int x1]) (rest := [.ref (ya Z 58), .int x2]) h sh_YC_57 lk_Owed_47 vk_Owed_47 d_Owed_lessen_31 (by decide) rfl rfl (Nat.le_of_ble_eq_true rfl) (m_Owed_link e31) ?_
      refine r_iald h sh_YC_58 d_Owed_lessen_34 hf (fun hf => ?_)
      refine r_mmin h ⟨tm_923, tm_734, tm_82, tm_735⟩ (by decide) (Nat.le_of_ble_eq_true rfl) d_Owed_lessen_35 ?_
      refine r_istore_n (ls' := [(2, .int (miI x2 (σ.1 58 (Int32.toNatClampNeg r31)))), (0, .ref (ya Z 57)), (1, .int x1), (3, .int x3)]) h d_Owed_lessen_38 rfl (by decide) rfl ?_
      refine r_iinc (ls' := [(3, .int (x3 + (1 : Int32))), (2, .int (miI x2 (σ.1 58 (Int32.toNatClampNeg r31)))), (0, .ref (ya Z 57)), (1, .int x1)]) h d_Owed_lessen_39 3 rfl ki_1 (by decide) rfl ?_
      refine r_goto h d_Owed_lessen_42 ?_
      refine r_sub h [2, 3, 1, 0] rfl ?_
      exact ih _ _ hf

set_option maxHeartbeats 4000000 in
theorem m_Owed_lessen {Z : Sy} {σ : St} {res : (Int32 × St)} {x1 : Int32} (hf : Owed_lessen x1 σ = some res) : Ct YC Z y_Owed_lessen c_Owed_lessen 4 (some .int) 2 [.ref (ya Z 57), .int x1] σ (some (.int res.1)) res.2 := by
  refine Ct.of pn_Owed (Nat.le_of_ble_eq_true rfl) rfl (fun Γ h => ?_)
  have h : IsG YC Z R_Owed c_Owed_lessen 4 2 (some .int) (some (.int res.1)) res.2 Γ := h
  unfold Owed_lessen at hf
  refine r_aload_n h d_Owed_lessen_0 0 rfl rfl ?_
  refine r_getR h fd_YC_57_0 cf_Owed fl_Owed_9 d_Owed_lessen_1 ?_
  refine r_aload_n h d_Owed_lessen_4 0 rfl rfl ?_
  refine r_iload_n h d_Owed_lessen_5 1 rfl rfl ?_
  refine r_iconst h d_Owed_lessen_6 ki_1 ?_
  refine r_isub h d_Owed_lessen_7 ?_
  refine r_iload_n h d_Owed_lessen_8 1 rfl rfl ?_
  obtain ⟨r9, e9, hf⟩ := q_bind hf
  refine r_callV (As := [.int (x1 - (1 : Int32)), .int x1]) (rest := [.ref (ya Z 58)]) h sh_YC_57 lk_Owed_47 vk_Owed_47 d_Owed_lessen_9 (by decide) rfl rfl (Nat.le_of_ble_eq_true rfl) (m_Owed_link e9) ?_
  refine r_iald h sh_YC_58 d_Owed_lessen_12 hf (fun hf => ?_)
  refine r_istore_n (ls' := [(2, .int (σ.1 58 (Int32.toNatClampNeg r9))), (0, .ref (ya Z 57)), (1, .int x1)]) h d_Owed_lessen_13 rfl (by decide) rfl ?_
  refine r_iconst h d_Owed_lessen_14 ki_0 ?_
  refine r_istore_n (ls' := [(3, .int (0 : Int32)), (2, .int (σ.1 58 (Int32.toNatClampNeg r9))), (0, .ref (ya Z 57)), (1, .int x1)]) h d_Owed_lessen_15 rfl (by decide) rfl ?_
  refine r_sub h [2, 3, 1, 0] rfl ?_
  exact w_Owed_lessen_L16 h _ _ _ hf

theorem d_Owed_isInRow_0 : decode c_Owed_isInRow 0 = .ok (.iconst 0, 1) ∧ 0 + 1 = 1 := by decide +kernel
theorem d_Owed_isInRow_1 : decode c_Owed_isInRow 1 = .ok (.istore_n 3, 1) ∧ 1 + 1 = 2 := by decide +kernel
theorem d_Owed_isInRow_2 : decode c_Owed_isInRow 2 = .ok (.iload_n 3, 1) ∧ 2 + 1 = 3 := by decide +kernel
theorem d_Owed_isInRow_3 : decode c_Owed_isInRow 3 = .ok (.iload_n 2, 1) ∧ 3 + 1 = 4 := by decide +kernel
theorem d_Owed_isInRow_4 : decode c_Owed_isInRow 4 = .ok (.if_icmp .ge 21, 3) ∧ 4 + 3 = 7 ∧ ((4 : Nat) : Int) + 21 = ((25 : Nat) : Int) := by decide +kernel
theorem d_Owed_isInRow_7 : decode c_Owed_isInRow 7 = .ok (.aload_n 0, 1) ∧ 7 + 1 = 8 := by decide +kernel
theorem d_Owed_isInRow_8 : decode c_Owed_isInRow 8 = .ok (.getfield 25, 3) ∧ 8 + 3 = 11 := by decide +kernel
theorem d_Owed_isInRow_11 : decode c_Owed_isInRow 11 = .ok (.iload_n 3, 1) ∧ 11 + 1 = 12 := by decide +kernel
theorem d_Owed_isInRow_12 : decode c_Owed_isInRow 12 = .ok (.iaload, 1) ∧ 12 + 1 = 13 := by decide +kernel
theorem d_Owed_isInRow_13 : decode c_Owed_isInRow 13 = .ok (.iload_n 1, 1) ∧ 13 + 1 = 14 := by decide +kernel
theorem d_Owed_isInRow_14 : decode c_Owed_isInRow 14 = .ok (.if_icmp .ne 5, 3) ∧ 14 + 3 = 17 ∧ ((14 : Nat) : Int) + 5 = ((19 : Nat) : Int) := by decide +kernel
theorem d_Owed_isInRow_17 : decode c_Owed_isInRow 17 = .ok (.iconst 1, 1) ∧ 17 + 1 = 18 := by decide +kernel
theorem d_Owed_isInRow_18 : decode c_Owed_isInRow 18 = .ok (.ireturn, 1) ∧ 18 + 1 = 19 := by decide +kernel
theorem d_Owed_isInRow_19 : decode c_Owed_isInRow 19 = .ok (.iinc 3 1, 3) ∧ 19 + 3 = 22 := by decide +kernel
theorem d_Owed_isInRow_22 : decode c_Owed_isInRow 22 = .ok (.goto (-20), 3) ∧ (22 : Int) + (-20) = (2 : Int) := by decide +kernel
theorem d_Owed_isInRow_25 : decode c_Owed_isInRow 25 = .ok (.iconst 0, 1) ∧ 25 + 1 = 26 := by decide +kernel
theorem d_Owed_isInRow_26 : decode c_Owed_isInRow 26 = .ok (.ireturn, 1) ∧ 26 + 1 = 27 := by decide +kernel
set_option maxHeartbeats 4000000 in
theorem w_Owed_isInRow_L2 {Z : Sy} {Γ : Nat → List (Nat × Value) → List Value → St → Prop} {res : Bool} {x1 : Int32} {x2 : Int32} {σ : St} (h : IsG YC Z R_Owed c_Owed_isInRow 4 1 (some .boolean) (some (.int (bi res))) σ Γ) : ∀ (n : Nat) (x3 : Int32), Owed_isInRow_L2 x1 x2 σ n x3 = some res → Γ 2 [(0, .ref (ya Z 57)), (1, .int x1), (2, .int x2), (3, .int x3)] [] σ := by
  intro n
  induction n with
  | zero => intro x3 hf; exact absurd hf (by simp [Owed_isInRow_L2])
  | succ n ih =>
    intro x3 hf
    rw [Owed_isInRow_L2] at hf
    refine r_iload_n h d_Owed_isInRow_2 3 rfl rfl ?_
    refine r_iload_n h d_Owed_isInRow_3 2 rfl rfl ?_
    refine r_icmp_ge h d_Owed_isInRow_4 hf (fun hf => ?_) (fun hf => ?_)
    · refine r_iconst h d_Owed_isInRow_25 ki_0 ?_
      exact r_zreturn h d_Owed_isInRow_26.1 ((show (0 : Int32) = bi false from rfl).trans (congrArg bi (Option.some.inj hf))) rfl
    · refine r_aload_n h d_Owed_isInRow_7 0 rfl rfl ?_
      refine r_getR h fd_YC_57_5 cf_Owed fl_Owed_25 d_Owed_isInRow_8 ?_
      refine r_iload_n h d_Owed_isInRow_11 3 rfl rfl ?_
      refine r_iald h sh_YC_63 d_Owed_isInRow_12 hf (fun hf => ?_)
      refine r_iload_n h d_Owed_isInRow_13 1 rfl rfl ?_
      refine r_icmp_ne h d_Owed_isInRow_14 hf (fun hf => ?_) (fun hf => ?_)
      · refine r_iinc (ls' := [(3, .int (x3 + (1 : Int32))), (0, .ref (ya Z 57)), (1, .int x1), (2, .int x2)]) h d_Owed_isInRow_19 3 rfl ki_1 (by decide) rfl ?_
        refine r_goto h d_Owed_isInRow_22 ?_
        refine r_sub h [1, 2, 3, 0] rfl ?_
        exact ih _ hf
      · refine r_iconst h d_Owed_isInRow_17 ki_1 ?_
        exact r_zreturn h d_Owed_isInRow_18.1 ((show (1 : Int32) = bi true from rfl).trans (congrArg bi (Option.some.inj hf))) rfl

set_option maxHeartbeats 4000000 in
theorem m_Owed_isInRow {Z : Sy} {σ : St} {res : Bool} {x1 : Int32} {x2 : Int32} (hf : Owed_isInRow x1 x2 σ = some res) : Ct YC Z y_Owed_isInRow c_Owed_isInRow 4 (some .boolean) 1 [.ref (ya Z 57), .int x1, .int x2] σ (some (.int (bi res))) σ := by
  refine Ct.of pn_Owed (Nat.le_of_ble_eq_true rfl) rfl (fun Γ h => ?_)
  have h : IsG YC Z R_Owed c_Owed_isInRow 4 1 (some .boolean) (some (.int (bi res))) σ Γ := h
  unfold Owed_isInRow at hf
  refine r_iconst h d_Owed_isInRow_0 ki_0 ?_
  refine r_istore_n (ls' := [(3, .int (0 : Int32)), (0, .ref (ya Z 57)), (1, .int x1), (2, .int x2)]) h d_Owed_isInRow_1 rfl (by decide) rfl ?_
  refine r_sub h [1, 2, 3, 0] rfl ?_
  exact w_Owed_isInRow_L2 h _ _ hf

theorem d_Owed_owesLast_0 : decode c_Owed_owesLast 0 = .ok (.aload_n 0, 1) ∧ 0 + 1 = 1 := by decide +kernel
theorem d_Owed_owesLast_1 : decode c_Owed_owesLast 1 = .ok (.getfield 9, 3) ∧ 1 + 3 = 4 := by decide +kernel
theorem d_Owed_owesLast_4 : decode c_Owed_owesLast 4 = .ok (.aload_n 0, 1) ∧ 4 + 1 = 5 := by decide +kernel
theorem d_Owed_owesLast_5 : decode c_Owed_owesLast 5 = .ok (.getfield 25, 3) ∧ 5 + 3 = 8 := by decide +kernel
theorem d_Owed_owesLast_8 : decode c_Owed_owesLast 8 = .ok (.iload_n 2, 1) ∧ 8 + 1 = 9 := by decide +kernel
theorem d_Owed_owesLast_9 : decode c_Owed_owesLast 9 = .ok (.iconst 1, 1) ∧ 9 + 1 = 10 := by decide +kernel
theorem d_Owed_owesLast_10 : decode c_Owed_owesLast 10 = .ok (.isub, 1) ∧ 10 + 1 = 11 := by decide +kernel
theorem d_Owed_owesLast_11 : decode c_Owed_owesLast 11 = .ok (.iaload, 1) ∧ 11 + 1 = 12 := by decide +kernel
theorem d_Owed_owesLast_12 : decode c_Owed_owesLast 12 = .ok (.bipush 10, 2) ∧ 12 + 2 = 14 := by decide +kernel
theorem d_Owed_owesLast_14 : decode c_Owed_owesLast 14 = .ok (.imul, 1) ∧ 14 + 1 = 15 := by decide +kernel
theorem d_Owed_owesLast_15 : decode c_Owed_owesLast 15 = .ok (.iload_n 1, 1) ∧ 15 + 1 = 16 := by decide +kernel
theorem d_Owed_owesLast_16 : decode c_Owed_owesLast 16 = .ok (.iadd, 1) ∧ 16 + 1 = 17 := by decide +kernel
theorem d_Owed_owesLast_17 : decode c_Owed_owesLast 17 = .ok (.iaload, 1) ∧ 17 + 1 = 18 := by decide +kernel
theorem d_Owed_owesLast_18 : decode c_Owed_owesLast 18 = .ok (.ifCond .le 7, 3) ∧ 18 + 3 = 21 ∧ ((18 : Nat) : Int) + 7 = ((25 : Nat) : Int) := by decide +kernel
theorem d_Owed_owesLast_21 : decode c_Owed_owesLast 21 = .ok (.iconst 1, 1) ∧ 21 + 1 = 22 := by decide +kernel
theorem d_Owed_owesLast_22 : decode c_Owed_owesLast 22 = .ok (.goto 4, 3) ∧ (22 : Int) + 4 = (26 : Int) := by decide +kernel
theorem d_Owed_owesLast_25 : decode c_Owed_owesLast 25 = .ok (.iconst 0, 1) ∧ 25 + 1 = 26 := by decide +kernel
theorem d_Owed_owesLast_26 : decode c_Owed_owesLast 26 = .ok (.ireturn, 1) ∧ 26 + 1 = 27 := by decide +kernel
set_option maxHeartbeats 4000000 in
theorem m_Owed_owesLast {Z : Sy} {σ : St} {res : Bool} {x1 : Int32} {x2 : Int32} (hf : Owed_owesLast x1 x2 σ = some res) : Ct YC Z y_Owed_owesLast c_Owed_owesLast 3 (some .boolean) 1 [.ref (ya Z 57), .int x1, .int x2] σ (some (.int (bi res))) σ := by
  refine Ct.of pn_Owed (Nat.le_of_ble_eq_true rfl) rfl (fun Γ h => ?_)
  have h : IsG YC Z R_Owed c_Owed_owesLast 3 1 (some .boolean) (some (.int (bi res))) σ Γ := h
  unfold Owed_owesLast at hf
  refine r_aload_n h d_Owed_owesLast_0 0 rfl rfl ?_
  refine r_getR h fd_YC_57_0 cf_Owed fl_Owed_9 d_Owed_owesLast_1 ?_
  refine r_aload_n h d_Owed_owesLast_4 0 rfl rfl ?_
  refine r_getR h fd_YC_57_5 cf_Owed fl_Owed_25 d_Owed_owesLast_5 ?_
  refine r_iload_n h d_Owed_owesLast_8 2 rfl rfl ?_
  refine r_iconst h d_Owed_owesLast_9 ki_1 ?_
  refine r_isub h d_Owed_owesLast_10 ?_
  refine r_iald h sh_YC_63 d_Owed_owesLast_11 hf (fun hf => ?_)
  refine r_bipush h d_Owed_owesLast_12 kb_10 ?_
  refine r_imul h d_Owed_owesLast_14 ?_
  refine r_iload_n h d_Owed_owesLast_15 1 rfl rfl ?_
  refine r_iadd h d_Owed_owesLast_16 ?_
  refine r_iald h sh_YC_58 d_Owed_owesLast_17 hf (fun hf => ?_)
  refine r_if_le h d_Owed_owesLast_18 hf (fun hf => ?_) (fun hf => ?_)
  · refine r_iconst h d_Owed_owesLast_25 ki_0 ?_
    exact r_zreturn h d_Owed_owesLast_26.1 ((show (0 : Int32) = bi false from rfl).trans (congrArg bi (Option.some.inj hf))) rfl
  · refine r_iconst h d_Owed_owesLast_21 ki_1 ?_
    refine r_goto h d_Owed_owesLast_22 ?_
    exact r_zreturn h d_Owed_owesLast_26.1 ((show (1 : Int32) = bi true from rfl).trans (congrArg bi (Option.some.inj hf))) rfl

theorem d_Owed_cancelFrom_0 : decode c_Owed_cancelFrom 0 = .ok (.iload_n 1, 1) ∧ 0 + 1 = 1 := by decide +kernel
theorem d_Owed_cancelFrom_1 : decode c_Owed_cancelFrom 1 = .ok (.iconst 2, 1) ∧ 1 + 1 = 2 := by decide +kernel
theorem d_Owed_cancelFrom_2 : decode c_Owed_cancelFrom 2 = .ok (.if_icmp .ge 7, 3) ∧ 2 + 3 = 5 ∧ ((2 : Nat) : Int) + 7 = ((9 : Nat) : Int) := by decide +kernel
theorem d_Owed_cancelFrom_5 : decode c_Owed_cancelFrom 5 = .ok (.iconst 0, 1) ∧ 5 + 1 = 6 := by decide +kernel
theorem d_Owed_cancelFrom_6 : decode c_Owed_cancelFrom 6 = .ok (.goto 8, 3) ∧ (6 : Int) + 8 = (14 : Int) := by decide +kernel
theorem d_Owed_cancelFrom_9 : decode c_Owed_cancelFrom 9 = .ok (.aload_n 0, 1) ∧ 9 + 1 = 10 := by decide +kernel
theorem d_Owed_cancelFrom_10 : decode c_Owed_cancelFrom 10 = .ok (.iload_n 1, 1) ∧ 10 + 1 = 11 := by decide +kernel
theorem d_Owed_cancelFrom_11 : decode c_Owed_cancelFrom 11 = .ok (.invokevirtual 36, 3) ∧ 11 + 3 = 14 := by decide +kernel
theorem d_Owed_cancelFrom_14 : decode c_Owed_cancelFrom 14 = .ok (.istore_n 2, 1) ∧ 14 + 1 = 15 := by decide +kernel
theorem d_Owed_cancelFrom_15 : decode c_Owed_cancelFrom 15 = .ok (.iload_n 1, 1) ∧ 15 + 1 = 16 := by decide +kernel
theorem d_Owed_cancelFrom_16 : decode c_Owed_cancelFrom 16 = .ok (.iconst 1, 1) ∧ 16 + 1 = 17 := by decide +kernel
theorem d_Owed_cancelFrom_17 : decode c_Owed_cancelFrom 17 = .ok (.if_icmp .lt 8, 3) ∧ 17 + 3 = 20 ∧ ((17 : Nat) : Int) + 8 = ((25 : Nat) : Int) := by decide +kernel
theorem d_Owed_cancelFrom_20 : decode c_Owed_cancelFrom 20 = .ok (.iload_n 1, 1) ∧ 20 + 1 = 21 := by decide +kernel
theorem d_Owed_cancelFrom_21 : decode c_Owed_cancelFrom 21 = .ok (.iconst 4, 1) ∧ 21 + 1 = 22 := by decide +kernel
theorem d_Owed_cancelFrom_22 : decode c_Owed_cancelFrom 22 = .ok (.if_icmp .lt 5, 3) ∧ 22 + 3 = 25 ∧ ((22 : Nat) : Int) + 5 = ((27 : Nat) : Int) := by decide +kernel
theorem d_Owed_cancelFrom_25 : decode c_Owed_cancelFrom 25 = .ok (.iload_n 2, 1) ∧ 25 + 1 = 26 := by decide +kernel
theorem d_Owed_cancelFrom_26 : decode c_Owed_cancelFrom 26 = .ok (.ireturn, 1) ∧ 26 + 1 = 27 := by decide +kernel
theorem d_Owed_cancelFrom_27 : decode c_Owed_cancelFrom 27 = .ok (.aload_n 0, 1) ∧ 27 + 1 = 28 := by decide +kernel
theorem d_Owed_cancelFrom_28 : decode c_Owed_cancelFrom 28 = .ok (.getfield 25, 3) ∧ 28 + 3 = 31 := by decide +kernel
theorem d_Owed_cancelFrom_31 : decode c_Owed_cancelFrom 31 = .ok (.iconst 0, 1) ∧ 31 + 1 = 32 := by decide +kernel
theorem d_Owed_cancelFrom_32 : decode c_Owed_cancelFrom 32 = .ok (.iaload, 1) ∧ 32 + 1 = 33 := by decide +kernel
theorem d_Owed_cancelFrom_33 : decode c_Owed_cancelFrom 33 = .ok (.iconst 1, 1) ∧ 33 + 1 = 34 := by decide +kernel
theorem d_Owed_cancelFrom_34 : decode c_Owed_cancelFrom 34 = .ok (.iadd, 1) ∧ 34 + 1 = 35 := by decide +kernel
theorem d_Owed_cancelFrom_35 : decode c_Owed_cancelFrom 35 = .ok (.istore_n 3, 1) ∧ 35 + 1 = 36 := by decide +kernel
theorem d_Owed_cancelFrom_36 : decode c_Owed_cancelFrom 36 = .ok (.iload_n 3, 1) ∧ 36 + 1 = 37 := by decide +kernel
theorem d_Owed_cancelFrom_37 : decode c_Owed_cancelFrom 37 = .ok (.bipush 10, 2) ∧ 37 + 2 = 39 := by decide +kernel
theorem d_Owed_cancelFrom_39 : decode c_Owed_cancelFrom 39 = .ok (.if_icmp .ge 47, 3) ∧ 39 + 3 = 42 ∧ ((39 : Nat) : Int) + 47 = ((86 : Nat) : Int) := by decide +kernel
theorem d_Owed_cancelFrom_42 : decode c_Owed_cancelFrom 42 = .ok (.aload_n 0, 1) ∧ 42 + 1 = 43 := by decide +kernel
theorem d_Owed_cancelFrom_43 : decode c_Owed_cancelFrom 43 = .ok (.iload_n 3, 1) ∧ 43 + 1 = 44 := by decide +kernel
theorem d_Owed_cancelFrom_44 : decode c_Owed_cancelFrom 44 = .ok (.iload_n 1, 1) ∧ 44 + 1 = 45 := by decide +kernel
theorem d_Owed_cancelFrom_45 : decode c_Owed_cancelFrom 45 = .ok (.invokevirtual 40, 3) ∧ 45 + 3 = 48 := by decide +kernel
theorem d_Owed_cancelFrom_48 : decode c_Owed_cancelFrom 48 = .ok (.ifCond .ne 32, 3) ∧ 48 + 3 = 51 ∧ ((48 : Nat) : Int) + 32 = ((80 : Nat) : Int) := by decide +kernel
theorem d_Owed_cancelFrom_51 : decode c_Owed_cancelFrom 51 = .ok (.aload_n 0, 1) ∧ 51 + 1 = 52 := by decide +kernel
theorem d_Owed_cancelFrom_52 : decode c_Owed_cancelFrom 52 = .ok (.iload_n 3, 1) ∧ 52 + 1 = 53 := by decide +kernel
theorem d_Owed_cancelFrom_53 : decode c_Owed_cancelFrom 53 = .ok (.iload_n 1, 1) ∧ 53 + 1 = 54 := by decide +kernel
theorem d_Owed_cancelFrom_54 : decode c_Owed_cancelFrom 54 = .ok (.invokevirtual 44, 3) ∧ 54 + 3 = 57 := by decide +kernel
theorem d_Owed_cancelFrom_57 : decode c_Owed_cancelFrom 57 = .ok (.ifCond .ne 6, 3) ∧ 57 + 3 = 60 ∧ ((57 : Nat) : Int) + 6 = ((63 : Nat) : Int) := by decide +kernel
theorem d_Owed_cancelFrom_60 : decode c_Owed_cancelFrom 60 = .ok (.goto 20, 3) ∧ (60 : Int) + 20 = (80 : Int) := by decide +kernel
theorem d_Owed_cancelFrom_63 : decode c_Owed_cancelFrom 63 = .ok (.aload_n 0, 1) ∧ 63 + 1 = 64 := by decide +kernel
theorem d_Owed_cancelFrom_64 : decode c_Owed_cancelFrom 64 = .ok (.getfield 25, 3) ∧ 64 + 3 = 67 := by decide +kernel
theorem d_Owed_cancelFrom_67 : decode c_Owed_cancelFrom 67 = .ok (.iload_n 1, 1) ∧ 67 + 1 = 68 := by decide +kernel
theorem d_Owed_cancelFrom_68 : decode c_Owed_cancelFrom 68 = .ok (.iload_n 3, 1) ∧ 68 + 1 = 69 := by decide +kernel
theorem d_Owed_cancelFrom_69 : decode c_Owed_cancelFrom 69 = .ok (.iastore, 1) ∧ 69 + 1 = 70 := by decide +kernel
theorem d_Owed_cancelFrom_70 : decode c_Owed_cancelFrom 70 = .ok (.iload_n 2, 1) ∧ 70 + 1 = 71 := by decide +kernel
theorem d_Owed_cancelFrom_71 : decode c_Owed_cancelFrom 71 = .ok (.aload_n 0, 1) ∧ 71 + 1 = 72 := by decide +kernel
theorem d_Owed_cancelFrom_72 : decode c_Owed_cancelFrom 72 = .ok (.iload_n 1, 1) ∧ 72 + 1 = 73 := by decide +kernel
theorem d_Owed_cancelFrom_73 : decode c_Owed_cancelFrom 73 = .ok (.iconst 1, 1) ∧ 73 + 1 = 74 := by decide +kernel
theorem d_Owed_cancelFrom_74 : decode c_Owed_cancelFrom 74 = .ok (.iadd, 1) ∧ 74 + 1 = 75 := by decide +kernel
theorem d_Owed_cancelFrom_75 : decode c_Owed_cancelFrom 75 = .ok (.invokestatic 32, 3) ∧ 75 + 3 = 78 := by decide +kernel
theorem d_Owed_cancelFrom_78 : decode c_Owed_cancelFrom 78 = .ok (.iadd, 1) ∧ 78 + 1 = 79 := by decide +kernel
theorem d_Owed_cancelFrom_79 : decode c_Owed_cancelFrom 79 = .ok (.istore_n 2, 1) ∧ 79 + 1 = 80 := by decide +kernel
theorem d_Owed_cancelFrom_80 : decode c_Owed_cancelFrom 80 = .ok (.iinc 3 1, 3) ∧ 80 + 3 = 83 := by decide +kernel
theorem d_Owed_cancelFrom_83 : decode c_Owed_cancelFrom 83 = .ok (.goto (-47), 3) ∧ (83 : Int) + (-47) = (36 : Int) := by decide +kernel
theorem d_Owed_cancelFrom_86 : decode c_Owed_cancelFrom 86 = .ok (.iload_n 2, 1) ∧ 86 + 1 = 87 := by decide +kernel
theorem d_Owed_cancelFrom_87 : decode c_Owed_cancelFrom 87 = .ok (.ireturn, 1) ∧ 87 + 1 = 88 := by decide +kernel
set_option maxHeartbeats 4000000 in
theorem w_Owed_cancelFrom_L36 {Z : Sy} {Γ : Nat → List (Nat × Value) → List Value → St → Prop} {res : (Int32 × St)} {g : Nat} {rec : Int32 → St → Option (Int32 × St)} {x1 : Int32} (h : IsG YC Z R_Owed c_Owed_cancelFrom 4 (3 + (g + 1)) (some .int) (some (.int res.1)) res.2 Γ) (hrec : ∀ (x1 : Int32) (σ : St) (q : (Int32 × St)), rec x1 σ = some q → Ct YC Z y_Owed_cancelFrom c_Owed_cancelFrom 4 (some .int) (3 + g) [.ref (ya Z 57), .int x1] σ (some (.int q.1)) q.2) : ∀ (n : Nat) (x2 : Int32) (x3 : Int32) (σ : St), Owed_cancelFrom_L36 rec x1 n x2 x3 σ = some res → Γ 36 [(0, .ref (ya Z 57)), (1, .int x1), (2, .int x2), (3, .int x3)] [] σ := by
  intro n
  induction n with
  | zero => intro x2 x3 σ hf; exact absurd hf (by simp [Owed_cancelFrom_L36])
  | succ n ih =>
    intro x2 x3 σ hf
    rw [Owed_cancelFrom_L36] at hf
    refine r_iload_n h d_Owed_cancelFrom_36 3 rfl rfl ?_
    refine r_bipush h d_Owed_cancelFrom_37 kb_10 ?_
    refine r_icmp_ge h d_Owed_cancelFrom_39 hf (fun hf => ?_) (fun hf => ?_)
    · refine r_iload_n h d_Owed_cancelFrom_86 2 rfl rfl ?_
      exact r_ireturn h d_Owed_cancelFrom_87.1 (q_p1 hf) (q_p2 hf)
    · refine r_aload_n h d_Owed_cancelFrom_42 0 rfl rfl ?_
      refine r_iload_n h d_Owed_cancelFrom_43 3 rfl rfl ?_
      refine r_iload_n h d_Owed_cancelFrom_44 1 rfl rfl ?_
      obtain ⟨r45, e45, hf⟩ := q_bind hf
      refine r_callV (As := [.int x3, .int x1]) (rest := []) h sh_YC_57 lk_Owed_40 vk_Owed_40 d_Owed_cancelFrom_45 (by omega) rfl rfl (Nat.le_of_ble_eq_true rfl) (m_Owed_isInRow e45) ?_
      refine r_bif_ne h d_Owed_cancelFrom_48 hf (fun hf => ?_) (fun hf => ?_)
      · refine r_iinc (ls' := [(3, .int (x3 + (1 : Int32))), (0, .ref (ya Z 57)), (1, .int x1), (2, .int x2)]) h d_Owed_cancelFrom_80 3 rfl ki_1 (by decide) rfl ?_
        refine r_goto h d_Owed_cancelFrom_83 ?_
        refine r_sub h [1, 2, 3, 0] rfl ?_
        exact ih _ _ _ hf
      · refine r_aload_n h d_Owed_cancelFrom_51 0 rfl rfl ?_
        refine r_iload_n h d_Owed_cancelFrom_52 3 rfl rfl ?_
        refine r_iload_n h d_Owed_cancelFrom_53 1 rfl rfl ?_
        obtain ⟨r54, e54, hf⟩ := q_bind hf
        refine r_callV (As := [.int x3, .int x1]) (rest := []) h sh_YC_57 lk_Owed_44 vk_Owed_44 d_Owed_cancelFrom_54 (by omega) rfl rfl (Nat.le_of_ble_eq_true rfl) (m_Owed_owesLast e54) ?_
        refine r_bif_ne h d_Owed_cancelFrom_57 hf (fun hf => ?_) (fun hf => ?_)
        · refine r_aload_n h d_Owed_cancelFrom_63 0 rfl rfl ?_
          refine r_getR h fd_YC_57_5 cf_Owed fl_Owed_25 d_Owed_cancelFrom_64 ?_
          refine r_iload_n h d_Owed_cancelFrom_67 1 rfl rfl ?_
          refine r_iload_n h d_Owed_cancelFrom_68 3 rfl rfl ?_
          refine r_iast h sh_YC_63 d_Owed_cancelFrom_69 hf (fun hf => ?_)
          refine r_iload_n h d_Owed_cancelFrom_70 2 rfl rfl ?_
          refine r_aload_n h d_Owed_cancelFrom_71 0 rfl rfl ?_
          refine r_iload_n h d_Owed_cancelFrom_72 1 rfl rfl ?_
          refine r_iconst h d_Owed_cancelFrom_73 ki_1 ?_
          refine r_iadd h d_Owed_cancelFrom_74 ?_
          obtain ⟨q75, e75, hf⟩ := q_bind hf
          refine r_callS (As := [.ref (ya Z 57), .int (x1 + (1 : Int32))]) (rest := [.int x2]) h lk_Owed_32 sk_Owed_32 d_Owed_cancelFrom_75 (by omega) rfl rfl (Nat.le_of_ble_eq_true rfl) (hrec _ _ _ e75) ?_
          refine r_iadd h d_Owed_cancelFrom_78 ?_
          refine r_istore_n (ls' := [(2, .int (x2 + q75.1)), (0, .ref (ya Z 57)), (1, .int x1), (3, .int x3)]) h d_Owed_cancelFrom_79 rfl (by decide) rfl ?_
          refine r_iinc (ls' := [(3, .int (x3 + (1 : Int32))), (2, .int (x2 + q75.1)), (0, .ref (ya Z 57)), (1, .int x1)]) h d_Owed_cancelFrom_80 3 rfl ki_1 (by decide) rfl ?_
          refine r_goto h d_Owed_cancelFrom_83 ?_
          refine r_sub h [2, 3, 1, 0] rfl ?_
          exact ih _ _ _ hf
        · refine r_goto h d_Owed_cancelFrom_60 ?_
          refine r_iinc (ls' := [(3, .int (x3 + (1 : Int32))), (0, .ref (ya Z 57)), (1, .int x1), (2, .int x2)]) h d_Owed_cancelFrom_80 3 rfl ki_1 (by decide) rfl ?_
          refine r_goto h d_Owed_cancelFrom_83 ?_
          refine r_sub h [1, 2, 3, 0] rfl ?_
          exact ih _ _ _ hf

set_option maxHeartbeats 4000000 in
theorem mr_Owed_cancelFrom {Z : Sy} : ∀ (g : Nat) (x1 : Int32) (σ : St) (res : (Int32 × St)), Owed_cancelFrom g x1 σ = some res → Ct YC Z y_Owed_cancelFrom c_Owed_cancelFrom 4 (some .int) (3 + g) [.ref (ya Z 57), .int x1] σ (some (.int res.1)) res.2 := by
  intro g
  induction g with
  | zero => intro x1 σ res hf; exact absurd hf (by simp [Owed_cancelFrom])
  | succ g ihg =>
    intro x1 σ res hf
    have hrec := ihg
    rw [Owed_cancelFrom] at hf
    generalize Owed_cancelFrom g = rec at hf hrec
    refine Ct.of pn_Owed (Nat.le_of_ble_eq_true rfl) rfl (fun Γ h => ?_)
    have h : IsG YC Z R_Owed c_Owed_cancelFrom 4 (3 + (g + 1)) (some .int) (some (.int res.1)) res.2 Γ := h
    refine r_iload_n h d_Owed_cancelFrom_0 1 rfl rfl ?_
    refine r_iconst h d_Owed_cancelFrom_1 ki_2 ?_
    refine r_icmp_ge h d_Owed_cancelFrom_2 hf (fun hf => ?_) (fun hf => ?_)
    · refine r_aload_n h d_Owed_cancelFrom_9 0 rfl rfl ?_
      refine r_iload_n h d_Owed_cancelFrom_10 1 rfl rfl ?_
      obtain ⟨q11, e11, hf⟩ := q_bind hf
      refine r_callV (As := [.int x1]) (rest := []) h sh_YC_57 lk_Owed_36 vk_Owed_36 d_Owed_cancelFrom_11 (by omega) rfl rfl (Nat.le_of_ble_eq_true rfl) (m_Owed_lessen e11) ?_
      refine r_istore_n (ls' := [(2, .int q11.1), (0, .ref (ya Z 57)), (1, .int x1)]) h d_Owed_cancelFrom_14 rfl (by decide) rfl ?_
      refine r_iload_n h d_Owed_cancelFrom_15 2 rfl rfl ?_
      refine r_iconst h d_Owed_cancelFrom_16 ki_1 ?_
      refine r_icmp_lt h d_Owed_cancelFrom_17 hf (fun hf => ?_) (fun hf => ?_)
      · refine r_iload_n h d_Owed_cancelFrom_25 0 rfl rfl ?_
        exact r_ireturn h d_Owed_cancelFrom_26.1 (q_p1 hf) (q_p2 hf)
      · refine r_iload_n h d_Owed_cancelFrom_20 2 rfl rfl ?_
        refine r_iconst h d_Owed_cancelFrom_21 ki_4 ?_
        refine r_icmp_lt h d_Owed_cancelFrom_22 hf (fun hf => ?_) (fun hf => ?_)
        · refine r_aload_n h d_Owed_cancelFrom_27 1 rfl rfl ?_
          refine r_getR h fd_YC_57_5 cf_Owed fl_Owed_25 d_Owed_cancelFrom_28 ?_
          refine r_iconst h d_Owed_cancelFrom_31 ki_0 ?_
          refine r_iald h sh_YC_63 d_Owed_cancelFrom_32 hf (fun hf => ?_)
          refine r_iconst h d_Owed_cancelFrom_33 ki_1 ?_
          refine r_iadd h d_Owed_cancelFrom_34 ?_
          refine r_istore_n (ls' := [(3, .int ((q11.2.1 63 (Int32.toNatClampNeg (0 : Int32))) + (1 : Int32))), (2, .int q11.1), (0, .ref (ya Z 57)), (1, .int x1)]) h d_Owed_cancelFrom_35 rfl (by decide) rfl ?_
          refine r_sub h [2, 3, 1, 0] rfl ?_
          exact w_Owed_cancelFrom_L36 h hrec _ _ _ _ hf
        · refine r_iload_n h d_Owed_cancelFrom_25 0 rfl rfl ?_
          exact r_ireturn h d_Owed_cancelFrom_26.1 (q_p1 hf) (q_p2 hf)
    · refine r_iconst h d_Owed_cancelFrom_5 ki_0 ?_
      refine r_goto h d_Owed_cancelFrom_6 ?_
      refine r_istore_n (ls' := [(2, .int (0 : Int32)), (0, .ref (ya Z 57)), (1, .int x1)]) h d_Owed_cancelFrom_14 rfl (by decide) rfl ?_
      refine r_iload_n h d_Owed_cancelFrom_15 2 rfl rfl ?_
      refine r_iconst h d_Owed_cancelFrom_16 ki_1 ?_
      refine r_icmp_lt h d_Owed_cancelFrom_17 hf (fun hf => ?_) (fun hf => ?_)
      · refine r_iload_n h d_Owed_cancelFrom_25 0 rfl rfl ?_
        exact r_ireturn h d_Owed_cancelFrom_26.1 (q_p1 hf) (q_p2 hf)
      · refine r_iload_n h d_Owed_cancelFrom_20 2 rfl rfl ?_
        refine r_iconst h d_Owed_cancelFrom_21 ki_4 ?_
        refine r_icmp_lt h d_Owed_cancelFrom_22 hf (fun hf => ?_) (fun hf => ?_)
        · refine r_aload_n h d_Owed_cancelFrom_27 1 rfl rfl ?_
          refine r_getR h fd_YC_57_5 cf_Owed fl_Owed_25 d_Owed_cancelFrom_28 ?_
          refine r_iconst h d_Owed_cancelFrom_31 ki_0 ?_
          refine r_iald h sh_YC_63 d_Owed_cancelFrom_32 hf (fun hf => ?_)
          refine r_iconst h d_Owed_cancelFrom_33 ki_1 ?_
          refine r_iadd h d_Owed_cancelFrom_34 ?_
          refine r_istore_n (ls' := [(3, .int ((σ.1 63 (Int32.toNatClampNeg (0 : Int32))) + (1 : Int32))), (2, .int (0 : Int32)), (0, .ref (ya Z 57)), (1, .int x1)]) h d_Owed_cancelFrom_35 rfl (by decide) rfl ?_
          refine r_sub h [2, 3, 1, 0] rfl ?_
          exact w_Owed_cancelFrom_L36 h hrec _ _ _ _ hf
        · refine r_iload_n h d_Owed_cancelFrom_25 0 rfl rfl ?_
          exact r_ireturn h d_Owed_cancelFrom_26.1 (q_p1 hf) (q_p2 hf)
theorem m_Owed_cancelFrom {Z : Sy} {σ : St} {res : (Int32 × St)} {x1 : Int32} (hf : Owed_cancelFrom 5 x1 σ = some res) : Ct YC Z y_Owed_cancelFrom c_Owed_cancelFrom 4 (some .int) 8 [.ref (ya Z 57), .int x1] σ (some (.int res.1)) res.2 := mr_Owed_cancelFrom 5 x1 σ res hf

theorem d_Owed_cancelRings_0 : decode c_Owed_cancelRings 0 = .ok (.aload_n 0, 1) ∧ 0 + 1 = 1 := by decide +kernel
theorem d_Owed_cancelRings_1 : decode c_Owed_cancelRings 1 = .ok (.iconst 0, 1) ∧ 1 + 1 = 2 := by decide +kernel
theorem d_Owed_cancelRings_2 : decode c_Owed_cancelRings 2 = .ok (.putfield 28, 3) ∧ 2 + 3 = 5 := by decide +kernel
theorem d_Owed_cancelRings_5 : decode c_Owed_cancelRings 5 = .ok (.iconst 0, 1) ∧ 5 + 1 = 6 := by decide +kernel
theorem d_Owed_cancelRings_6 : decode c_Owed_cancelRings 6 = .ok (.istore_n 1, 1) ∧ 6 + 1 = 7 := by decide +kernel
theorem d_Owed_cancelRings_7 : decode c_Owed_cancelRings 7 = .ok (.iconst 0, 1) ∧ 7 + 1 = 8 := by decide +kernel
theorem d_Owed_cancelRings_8 : decode c_Owed_cancelRings 8 = .ok (.istore_n 2, 1) ∧ 8 + 1 = 9 := by decide +kernel
theorem d_Owed_cancelRings_9 : decode c_Owed_cancelRings 9 = .ok (.iload_n 2, 1) ∧ 9 + 1 = 10 := by decide +kernel
theorem d_Owed_cancelRings_10 : decode c_Owed_cancelRings 10 = .ok (.bipush 10, 2) ∧ 10 + 2 = 12 := by decide +kernel
theorem d_Owed_cancelRings_12 : decode c_Owed_cancelRings 12 = .ok (.if_icmp .ge 24, 3) ∧ 12 + 3 = 15 ∧ ((12 : Nat) : Int) + 24 = ((36 : Nat) : Int) := by decide +kernel
theorem d_Owed_cancelRings_15 : decode c_Owed_cancelRings 15 = .ok (.aload_n 0, 1) ∧ 15 + 1 = 16 := by decide +kernel
theorem d_Owed_cancelRings_16 : decode c_Owed_cancelRings 16 = .ok (.getfield 25, 3) ∧ 16 + 3 = 19 := by decide +kernel
theorem d_Owed_cancelRings_19 : decode c_Owed_cancelRings 19 = .ok (.iconst 0, 1) ∧ 19 + 1 = 20 := by decide +kernel
theorem d_Owed_cancelRings_20 : decode c_Owed_cancelRings 20 = .ok (.iload_n 2, 1) ∧ 20 + 1 = 21 := by decide +kernel
theorem d_Owed_cancelRings_21 : decode c_Owed_cancelRings 21 = .ok (.iastore, 1) ∧ 21 + 1 = 22 := by decide +kernel
theorem d_Owed_cancelRings_22 : decode c_Owed_cancelRings 22 = .ok (.iload_n 1, 1) ∧ 22 + 1 = 23 := by decide +kernel
theorem d_Owed_cancelRings_23 : decode c_Owed_cancelRings 23 = .ok (.aload_n 0, 1) ∧ 23 + 1 = 24 := by decide +kernel
theorem d_Owed_cancelRings_24 : decode c_Owed_cancelRings 24 = .ok (.iconst 1, 1) ∧ 24 + 1 = 25 := by decide +kernel
theorem d_Owed_cancelRings_25 : decode c_Owed_cancelRings 25 = .ok (.invokestatic 32, 3) ∧ 25 + 3 = 28 := by decide +kernel
theorem d_Owed_cancelRings_28 : decode c_Owed_cancelRings 28 = .ok (.iadd, 1) ∧ 28 + 1 = 29 := by decide +kernel
theorem d_Owed_cancelRings_29 : decode c_Owed_cancelRings 29 = .ok (.istore_n 1, 1) ∧ 29 + 1 = 30 := by decide +kernel
theorem d_Owed_cancelRings_30 : decode c_Owed_cancelRings 30 = .ok (.iinc 2 1, 3) ∧ 30 + 3 = 33 := by decide +kernel
theorem d_Owed_cancelRings_33 : decode c_Owed_cancelRings 33 = .ok (.goto (-24), 3) ∧ (33 : Int) + (-24) = (9 : Int) := by decide +kernel
theorem d_Owed_cancelRings_36 : decode c_Owed_cancelRings 36 = .ok (.iload_n 1, 1) ∧ 36 + 1 = 37 := by decide +kernel
theorem d_Owed_cancelRings_37 : decode c_Owed_cancelRings 37 = .ok (.ireturn, 1) ∧ 37 + 1 = 38 := by decide +kernel
set_option maxHeartbeats 4000000 in
theorem w_Owed_cancelRings_L9 {Z : Sy} {Γ : Nat → List (Nat × Value) → List Value → St → Prop} {res : (Int32 × St)} (h : IsG YC Z R_Owed c_Owed_cancelRings 3 9 (some .int) (some (.int res.1)) res.2 Γ) : ∀ (n : Nat) (x1 : Int32) (x2 : Int32) (σ : St), Owed_cancelRings_L9 n x1 x2 σ = some res → Γ 9 [(0, .ref (ya Z 57)), (1, .int x1), (2, .int x2)] [] σ := by
  intro n
  induction n with
  | zero => intro x1 x2 σ hf; exact absurd hf (by simp [Owed_cancelRings_L9])
  | succ n ih =>
    intro x1 x2 σ hf
    rw [Owed_cancelRings_L9] at hf
    refine r_iload_n h d_Owed_cancelRings_9 2 rfl rfl ?_
    refine r_bipush h d_Owed_cancelRings_10 kb_10 ?_
    refine r_icmp_ge h d_Owed_cancelRings_12 hf (fun hf => ?_) (fun hf => ?_)
    · refine r_iload_n h d_Owed_cancelRings_36 1 rfl rfl ?_
      exact r_ireturn h d_Owed_cancelRings_37.1 (q_p1 hf) (q_p2 hf)
    · refine r_aload_n h d_Owed_cancelRings_15 0 rfl rfl ?_
      refine r_getR h fd_YC_57_5 cf_Owed fl_Owed_25 d_Owed_cancelRings_16 ?_
      refine r_iconst h d_Owed_cancelRings_19 ki_0 ?_
      refine r_iload_n h d_Owed_cancelRings_20 2 rfl rfl ?_
      refine r_iast h sh_YC_63 d_Owed_cancelRings_21 hf (fun hf => ?_)
      refine r_iload_n h d_Owed_cancelRings_22 1 rfl rfl ?_
      refine r_aload_n h d_Owed_cancelRings_23 0 rfl rfl ?_
      refine r_iconst h d_Owed_cancelRings_24 ki_1 ?_
      obtain ⟨q25, e25, hf⟩ := q_bind hf
      refine r_callS (As := [.ref (ya Z 57), .int (1 : Int32)]) (rest := [.int x1]) h lk_Owed_32 sk_Owed_32 d_Owed_cancelRings_25 (by decide) rfl rfl (Nat.le_of_ble_eq_true rfl) (m_Owed_cancelFrom e25) ?_
      refine r_iadd h d_Owed_cancelRings_28 ?_
      refine r_istore_n (ls' := [(1, .int (x1 + q25.1)), (0, .ref (ya Z 57)), (2, .int x2)]) h d_Owed_cancelRings_29 rfl (by decide) rfl ?_
      refine r_iinc (ls' := [(2, .int (x2 + (1 : Int32))), (1, .int (x1 + q25.1)), (0, .ref (ya Z 57))]) h d_Owed_cancelRings_30 2 rfl ki_1 (by decide) rfl ?_
      refine r_goto h d_Owed_cancelRings_33 ?_
      refine r_sub h [2, 1, 0] rfl ?_
      exact ih _ _ _ hf

set_option maxHeartbeats 4000000 in
theorem m_Owed_cancelRings {Z : Sy} {σ : St} {res : (Int32 × St)} (hf : Owed_cancelRings  σ = some res) : Ct YC Z y_Owed_cancelRings c_Owed_cancelRings 3 (some .int) 9 [.ref (ya Z 57)] σ (some (.int res.1)) res.2 := by
  refine Ct.of pn_Owed (Nat.le_of_ble_eq_true rfl) rfl (fun Γ h => ?_)
  have h : IsG YC Z R_Owed c_Owed_cancelRings 3 9 (some .int) (some (.int res.1)) res.2 Γ := h
  unfold Owed_cancelRings at hf
  refine r_aload_n h d_Owed_cancelRings_0 0 rfl rfl ?_
  refine r_iconst h d_Owed_cancelRings_1 ki_0 ?_
  refine r_putX h fd_YC_57_6 cf_Owed fl_Owed_28 ⟨rfl, rfl⟩ (ty := .boolean) (by decide) (by decide) d_Owed_cancelRings_2 ?_
  refine r_iconst h d_Owed_cancelRings_5 ki_0 ?_
  refine r_istore_n (ls' := [(1, .int (0 : Int32)), (0, .ref (ya Z 57))]) h d_Owed_cancelRings_6 rfl (by decide) rfl ?_
  refine r_iconst h d_Owed_cancelRings_7 ki_0 ?_
  refine r_istore_n (ls' := [(2, .int (0 : Int32)), (1, .int (0 : Int32)), (0, .ref (ya Z 57))]) h d_Owed_cancelRings_8 rfl (by decide) rfl ?_
  refine r_sub h [2, 1, 0] rfl ?_
  exact w_Owed_cancelRings_L9 h _ _ _ _ hf

theorem d_P_ring_0 : decode c_P_ring 0 = .ok (.aload_n 0, 1) ∧ 0 + 1 = 1 := by decide +kernel
theorem d_P_ring_1 : decode c_P_ring 1 = .ok (.getfield 71, 3) ∧ 1 + 3 = 4 := by decide +kernel
theorem d_P_ring_4 : decode c_P_ring 4 = .ok (.invokevirtual 328, 3) ∧ 4 + 3 = 7 := by decide +kernel
theorem d_P_ring_7 : decode c_P_ring 7 = .ok (.ireturn, 1) ∧ 7 + 1 = 8 := by decide +kernel
set_option maxHeartbeats 4000000 in
theorem m_P_ring {Z : Sy} {σ : St} {res : (Int32 × St)} (hf : P_ring  σ = some res) : Ct YC Z y_P_ring c_P_ring 1 (some .int) 10 [.ref (ya Z 0)] σ (some (.int res.1)) res.2 := by
  refine Ct.of pn_P (Nat.le_of_ble_eq_true rfl) rfl (fun Γ h => ?_)
  have h : IsG YC Z R_P c_P_ring 1 10 (some .int) (some (.int res.1)) res.2 Γ := h
  unfold P_ring at hf
  refine r_aload_n h d_P_ring_0 0 rfl rfl ?_
  refine r_getR h fd_YC_0_9 cf_P fl_P_71 d_P_ring_1 ?_
  obtain ⟨q4, e4, hf⟩ := q_bind hf
  refine r_callV (As := []) (rest := []) h sh_YC_57 lk_P_328 vk_P_328 d_P_ring_4 (by decide) rfl rfl (Nat.le_of_ble_eq_true rfl) (m_Owed_cancelRings e4) ?_
  exact r_ireturn h d_P_ring_7.1 (q_p1 hf) (q_p2 hf)

theorem d_Owed_changeRank_0 : decode c_Owed_changeRank 0 = .ok (.aload_n 0, 1) ∧ 0 + 1 = 1 := by decide +kernel
theorem d_Owed_changeRank_1 : decode c_Owed_changeRank 1 = .ok (.getfield 22, 3) ∧ 1 + 3 = 4 := by decide +kernel
theorem d_Owed_changeRank_4 : decode c_Owed_changeRank 4 = .ok (.iload_n 1, 1) ∧ 4 + 1 = 5 := by decide +kernel
theorem d_Owed_changeRank_5 : decode c_Owed_changeRank 5 = .ok (.iaload, 1) ∧ 5 + 1 = 6 := by decide +kernel
theorem d_Owed_changeRank_6 : decode c_Owed_changeRank 6 = .ok (.istore_n 3, 1) ∧ 6 + 1 = 7 := by decide +kernel
theorem d_Owed_changeRank_7 : decode c_Owed_changeRank 7 = .ok (.aload_n 0, 1) ∧ 7 + 1 = 8 := by decide +kernel
theorem d_Owed_changeRank_8 : decode c_Owed_changeRank 8 = .ok (.getfield 22, 3) ∧ 8 + 3 = 11 := by decide +kernel
theorem d_Owed_changeRank_11 : decode c_Owed_changeRank 11 = .ok (.iload_n 1, 1) ∧ 11 + 1 = 12 := by decide +kernel
theorem d_Owed_changeRank_12 : decode c_Owed_changeRank 12 = .ok (.iload_n 2, 1) ∧ 12 + 1 = 13 := by decide +kernel
theorem d_Owed_changeRank_13 : decode c_Owed_changeRank 13 = .ok (.iastore, 1) ∧ 13 + 1 = 14 := by decide +kernel
theorem d_Owed_changeRank_14 : decode c_Owed_changeRank 14 = .ok (.aload_n 0, 1) ∧ 14 + 1 = 15 := by decide +kernel
theorem d_Owed_changeRank_15 : decode c_Owed_changeRank 15 = .ok (.iconst 0, 1) ∧ 15 + 1 = 16 := by decide +kernel
theorem d_Owed_changeRank_16 : decode c_Owed_changeRank 16 = .ok (.putfield 28, 3) ∧ 16 + 3 = 19 := by decide +kernel
theorem d_Owed_changeRank_19 : decode c_Owed_changeRank 19 = .ok (.iload_n 3, 1) ∧ 19 + 1 = 20 := by decide +kernel
theorem d_Owed_changeRank_20 : decode c_Owed_changeRank 20 = .ok (.ireturn, 1) ∧ 20 + 1 = 21 := by decide +kernel
set_option maxHeartbeats 4000000 in
theorem m_Owed_changeRank {Z : Sy} {σ : St} {res : (Int32 × St)} {x1 : Int32} {x2 : Int32} (hf : Owed_changeRank x1 x2 σ = some res) : Ct YC Z y_Owed_changeRank c_Owed_changeRank 4 (some .int) 1 [.ref (ya Z 57), .int x1, .int x2] σ (some (.int res.1)) res.2 := by
  refine Ct.of pn_Owed (Nat.le_of_ble_eq_true rfl) rfl (fun Γ h => ?_)
  have h : IsG YC Z R_Owed c_Owed_changeRank 4 1 (some .int) (some (.int res.1)) res.2 Γ := h
  unfold Owed_changeRank at hf
  refine r_aload_n h d_Owed_changeRank_0 0 rfl rfl ?_
  refine r_getR h fd_YC_57_4 cf_Owed fl_Owed_22 d_Owed_changeRank_1 ?_
  refine r_iload_n h d_Owed_changeRank_4 1 rfl rfl ?_
  refine r_iald h sh_YC_62 d_Owed_changeRank_5 hf (fun hf => ?_)
  refine r_istore_n (ls' := [(3, .int (σ.1 62 (Int32.toNatClampNeg x1))), (0, .ref (ya Z 57)), (1, .int x1), (2, .int x2)]) h d_Owed_changeRank_6 rfl (by decide) rfl ?_
  refine r_aload_n h d_Owed_changeRank_7 1 rfl rfl ?_
  refine r_getR h fd_YC_57_4 cf_Owed fl_Owed_22 d_Owed_changeRank_8 ?_
  refine r_iload_n h d_Owed_changeRank_11 2 rfl rfl ?_
  refine r_iload_n h d_Owed_changeRank_12 3 rfl rfl ?_
  refine r_iast h sh_YC_62 d_Owed_changeRank_13 hf (fun hf => ?_)
  refine r_aload_n h d_Owed_changeRank_14 1 rfl rfl ?_
  refine r_iconst h d_Owed_changeRank_15 ki_0 ?_
  refine r_putX h fd_YC_57_6 cf_Owed fl_Owed_28 ⟨rfl, rfl⟩ (ty := .boolean) (by decide) (by decide) d_Owed_changeRank_16 ?_
  refine r_iload_n h d_Owed_changeRank_19 0 rfl rfl ?_
  exact r_ireturn h d_Owed_changeRank_20.1 (q_p1 hf) (q_p2 hf)

theorem d_Owed_changeCoin_0 : decode c_Owed_changeCoin 0 = .ok (.aload_n 0, 1) ∧ 0 + 1 = 1 := by decide +kernel
theorem d_Owed_changeCoin_1 : decode c_Owed_changeCoin 1 = .ok (.getfield 19, 3) ∧ 1 + 3 = 4 := by decide +kernel
theorem d_Owed_changeCoin_4 : decode c_Owed_changeCoin 4 = .ok (.iload_n 1, 1) ∧ 4 + 1 = 5 := by decide +kernel
theorem d_Owed_changeCoin_5 : decode c_Owed_changeCoin 5 = .ok (.iaload, 1) ∧ 5 + 1 = 6 := by decide +kernel
theorem d_Owed_changeCoin_6 : decode c_Owed_changeCoin 6 = .ok (.istore_n 3, 1) ∧ 6 + 1 = 7 := by decide +kernel
theorem d_Owed_changeCoin_7 : decode c_Owed_changeCoin 7 = .ok (.aload_n 0, 1) ∧ 7 + 1 = 8 := by decide +kernel
theorem d_Owed_changeCoin_8 : decode c_Owed_changeCoin 8 = .ok (.getfield 19, 3) ∧ 8 + 3 = 11 := by decide +kernel
theorem d_Owed_changeCoin_11 : decode c_Owed_changeCoin 11 = .ok (.iload_n 1, 1) ∧ 11 + 1 = 12 := by decide +kernel
theorem d_Owed_changeCoin_12 : decode c_Owed_changeCoin 12 = .ok (.iload_n 2, 1) ∧ 12 + 1 = 13 := by decide +kernel
theorem d_Owed_changeCoin_13 : decode c_Owed_changeCoin 13 = .ok (.iastore, 1) ∧ 13 + 1 = 14 := by decide +kernel
theorem d_Owed_changeCoin_14 : decode c_Owed_changeCoin 14 = .ok (.aload_n 0, 1) ∧ 14 + 1 = 15 := by decide +kernel
theorem d_Owed_changeCoin_15 : decode c_Owed_changeCoin 15 = .ok (.iconst 0, 1) ∧ 15 + 1 = 16 := by decide +kernel
theorem d_Owed_changeCoin_16 : decode c_Owed_changeCoin 16 = .ok (.putfield 28, 3) ∧ 16 + 3 = 19 := by decide +kernel
theorem d_Owed_changeCoin_19 : decode c_Owed_changeCoin 19 = .ok (.iload_n 3, 1) ∧ 19 + 1 = 20 := by decide +kernel
theorem d_Owed_changeCoin_20 : decode c_Owed_changeCoin 20 = .ok (.ireturn, 1) ∧ 20 + 1 = 21 := by decide +kernel
set_option maxHeartbeats 4000000 in
theorem m_Owed_changeCoin {Z : Sy} {σ : St} {res : (Int32 × St)} {x1 : Int32} {x2 : Int32} (hf : Owed_changeCoin x1 x2 σ = some res) : Ct YC Z y_Owed_changeCoin c_Owed_changeCoin 4 (some .int) 1 [.ref (ya Z 57), .int x1, .int x2] σ (some (.int res.1)) res.2 := by
  refine Ct.of pn_Owed (Nat.le_of_ble_eq_true rfl) rfl (fun Γ h => ?_)
  have h : IsG YC Z R_Owed c_Owed_changeCoin 4 1 (some .int) (some (.int res.1)) res.2 Γ := h
  unfold Owed_changeCoin at hf
  refine r_aload_n h d_Owed_changeCoin_0 0 rfl rfl ?_
  refine r_getR h fd_YC_57_3 cf_Owed fl_Owed_19 d_Owed_changeCoin_1 ?_
  refine r_iload_n h d_Owed_changeCoin_4 1 rfl rfl ?_
  refine r_iald h sh_YC_61 d_Owed_changeCoin_5 hf (fun hf => ?_)
  refine r_istore_n (ls' := [(3, .int (σ.1 61 (Int32.toNatClampNeg x1))), (0, .ref (ya Z 57)), (1, .int x1), (2, .int x2)]) h d_Owed_changeCoin_6 rfl (by decide) rfl ?_
  refine r_aload_n h d_Owed_changeCoin_7 1 rfl rfl ?_
  refine r_getR h fd_YC_57_3 cf_Owed fl_Owed_19 d_Owed_changeCoin_8 ?_
  refine r_iload_n h d_Owed_changeCoin_11 2 rfl rfl ?_
  refine r_iload_n h d_Owed_changeCoin_12 3 rfl rfl ?_
  refine r_iast h sh_YC_61 d_Owed_changeCoin_13 hf (fun hf => ?_)
  refine r_aload_n h d_Owed_changeCoin_14 1 rfl rfl ?_
  refine r_iconst h d_Owed_changeCoin_15 ki_0 ?_
  refine r_putX h fd_YC_57_6 cf_Owed fl_Owed_28 ⟨rfl, rfl⟩ (ty := .boolean) (by decide) (by decide) d_Owed_changeCoin_16 ?_
  refine r_iload_n h d_Owed_changeCoin_19 0 rfl rfl ?_
  exact r_ireturn h d_Owed_changeCoin_20.1 (q_p1 hf) (q_p2 hf)

theorem d_P_party_0 : decode c_P_party 0 = .ok (.iload_n 1, 1) ∧ 0 + 1 = 1 := by decide +kernel
theorem d_P_party_1 : decode c_P_party 1 = .ok (.bipush 10, 2) ∧ 1 + 2 = 3 := by decide +kernel
theorem d_P_party_3 : decode c_P_party 3 = .ok (.invokestatic 96, 3) ∧ 3 + 3 = 6 := by decide +kernel
theorem d_P_party_6 : decode c_P_party 6 = .ok (.ifCond .ne 6, 3) ∧ 6 + 3 = 9 ∧ ((6 : Nat) : Int) + 6 = ((12 : Nat) : Int) := by decide +kernel
theorem d_P_party_9 : decode c_P_party 9 = .ok (.bipush (-2), 2) ∧ 9 + 2 = 11 := by decide +kernel
theorem d_P_party_11 : decode c_P_party 11 = .ok (.ireturn, 1) ∧ 11 + 1 = 12 := by decide +kernel
theorem d_P_party_12 : decode c_P_party 12 = .ok (.iload_n 2, 1) ∧ 12 + 1 = 13 := by decide +kernel
theorem d_P_party_13 : decode c_P_party 13 = .ok (.ifCond .ne 23, 3) ∧ 13 + 3 = 16 ∧ ((13 : Nat) : Int) + 23 = ((36 : Nat) : Int) := by decide +kernel
theorem d_P_party_16 : decode c_P_party 16 = .ok (.iload_n 3, 1) ∧ 16 + 1 = 17 := by decide +kernel
theorem d_P_party_17 : decode c_P_party 17 = .ok (.ldc_w 322, 3) ∧ 17 + 3 = 20 := by decide +kernel
theorem d_P_party_20 : decode c_P_party 20 = .ok (.invokestatic 96, 3) ∧ 20 + 3 = 23 := by decide +kernel
theorem d_P_party_23 : decode c_P_party 23 = .ok (.ifCond .eq 13, 3) ∧ 23 + 3 = 26 ∧ ((23 : Nat) : Int) + 13 = ((36 : Nat) : Int) := by decide +kernel
theorem d_P_party_26 : decode c_P_party 26 = .ok (.aload_n 0, 1) ∧ 26 + 1 = 27 := by decide +kernel
theorem d_P_party_27 : decode c_P_party 27 = .ok (.getfield 71, 3) ∧ 27 + 3 = 30 := by decide +kernel
theorem d_P_party_30 : decode c_P_party 30 = .ok (.iload_n 1, 1) ∧ 30 + 1 = 31 := by decide +kernel
theorem d_P_party_31 : decode c_P_party 31 = .ok (.iload_n 3, 1) ∧ 31 + 1 = 32 := by decide +kernel
theorem d_P_party_32 : decode c_P_party 32 = .ok (.invokevirtual 332, 3) ∧ 32 + 3 = 35 := by decide +kernel
theorem d_P_party_35 : decode c_P_party 35 = .ok (.ireturn, 1) ∧ 35 + 1 = 36 := by decide +kernel
theorem d_P_party_36 : decode c_P_party 36 = .ok (.iload_n 2, 1) ∧ 36 + 1 = 37 := by decide +kernel
theorem d_P_party_37 : decode c_P_party 37 = .ok (.iconst 1, 1) ∧ 37 + 1 = 38 := by decide +kernel
theorem d_P_party_38 : decode c_P_party 38 = .ok (.if_icmp .ne 21, 3) ∧ 38 + 3 = 41 ∧ ((38 : Nat) : Int) + 21 = ((59 : Nat) : Int) := by decide +kernel
theorem d_P_party_41 : decode c_P_party 41 = .ok (.iload_n 3, 1) ∧ 41 + 1 = 42 := by decide +kernel
theorem d_P_party_42 : decode c_P_party 42 = .ok (.iconst 3, 1) ∧ 42 + 1 = 43 := by decide +kernel
theorem d_P_party_43 : decode c_P_party 43 = .ok (.invokestatic 96, 3) ∧ 43 + 3 = 46 := by decide +kernel
theorem d_P_party_46 : decode c_P_party 46 = .ok (.ifCond .eq 13, 3) ∧ 46 + 3 = 49 ∧ ((46 : Nat) : Int) + 13 = ((59 : Nat) : Int) := by decide +kernel
theorem d_P_party_49 : decode c_P_party 49 = .ok (.aload_n 0, 1) ∧ 49 + 1 = 50 := by decide +kernel
theorem d_P_party_50 : decode c_P_party 50 = .ok (.getfield 71, 3) ∧ 50 + 3 = 53 := by decide +kernel
theorem d_P_party_53 : decode c_P_party 53 = .ok (.iload_n 1, 1) ∧ 53 + 1 = 54 := by decide +kernel
theorem d_P_party_54 : decode c_P_party 54 = .ok (.iload_n 3, 1) ∧ 54 + 1 = 55 := by decide +kernel
theorem d_P_party_55 : decode c_P_party 55 = .ok (.invokevirtual 335, 3) ∧ 55 + 3 = 58 := by decide +kernel
theorem d_P_party_58 : decode c_P_party 58 = .ok (.ireturn, 1) ∧ 58 + 1 = 59 := by decide +kernel
theorem d_P_party_59 : decode c_P_party 59 = .ok (.bipush (-2), 2) ∧ 59 + 2 = 61 := by decide +kernel
theorem d_P_party_61 : decode c_P_party 61 = .ok (.ireturn, 1) ∧ 61 + 1 = 62 := by decide +kernel
set_option maxHeartbeats 4000000 in
theorem m_P_party {Z : Sy} {σ : St} {res : (Int32 × St)} {x1 : Int32} {x2 : Int32} {x3 : Int32} (hf : P_party x1 x2 x3 σ = some res) : Ct YC Z y_P_party c_P_party 4 (some .int) 2 [.ref (ya Z 0), .int x1, .int x2, .int x3] σ (some (.int res.1)) res.2 := by
  refine Ct.of pn_P (Nat.le_of_ble_eq_true rfl) rfl (fun Γ h => ?_)
  have h : IsG YC Z R_P c_P_party 4 2 (some .int) (some (.int res.1)) res.2 Γ := h
  unfold P_party at hf
  refine r_iload_n h d_P_party_0 1 rfl rfl ?_
  refine r_bipush h d_P_party_1 kb_10 ?_
  obtain ⟨r3, e3, hf⟩ := q_bind hf
  refine r_callS (As := [.int x1, .int (10 : Int32)]) (rest := []) h lk_P_96 sk_P_96 d_P_party_3 (by decide) rfl rfl (Nat.le_of_ble_eq_true rfl) (m_P_isBelow e3) ?_
  refine r_bif_ne h d_P_party_6 hf (fun hf => ?_) (fun hf => ?_)
  · refine r_iload_n h d_P_party_12 2 rfl rfl ?_
    refine r_if_ne h d_P_party_13 hf (fun hf => ?_) (fun hf => ?_)
    · refine r_iload_n h d_P_party_36 2 rfl rfl ?_
      refine r_iconst h d_P_party_37 ki_1 ?_
      refine r_icmp_ne h d_P_party_38 hf (fun hf => ?_) (fun hf => ?_)
      · refine r_bipush h d_P_party_59 kb_m2 ?_
        exact r_ireturn h d_P_party_61.1 (q_p1 hf) (q_p2 hf)
      · refine r_iload_n h d_P_party_41 3 rfl rfl ?_
        refine r_iconst h d_P_party_42 ki_3 ?_
        obtain ⟨r43, e43, hf⟩ := q_bind hf
        refine r_callS (As := [.int x3, .int (3 : Int32)]) (rest := []) h lk_P_96 sk_P_96 d_P_party_43 (by decide) rfl rfl (Nat.le_of_ble_eq_true rfl) (m_P_isBelow e43) ?_
        refine r_bif_eq h d_P_party_46 hf (fun hf => ?_) (fun hf => ?_)
        · refine r_bipush h d_P_party_59 kb_m2 ?_
          exact r_ireturn h d_P_party_61.1 (q_p1 hf) (q_p2 hf)
        · refine r_aload_n h d_P_party_49 0 rfl rfl ?_
          refine r_getR h fd_YC_0_9 cf_P fl_P_71 d_P_party_50 ?_
          refine r_iload_n h d_P_party_53 1 rfl rfl ?_
          refine r_iload_n h d_P_party_54 3 rfl rfl ?_
          obtain ⟨q55, e55, hf⟩ := q_bind hf
          refine r_callV (As := [.int x1, .int x3]) (rest := []) h sh_YC_57 lk_P_335 vk_P_335 d_P_party_55 (by decide) rfl rfl (Nat.le_of_ble_eq_true rfl) (m_Owed_changeRank e55) ?_
          exact r_ireturn h d_P_party_58.1 (q_p1 hf) (q_p2 hf)
    · refine r_iload_n h d_P_party_16 3 rfl rfl ?_
      refine r_ldcw h d_P_party_17 tm_895 ?_
      obtain ⟨r20, e20, hf⟩ := q_bind hf
      refine r_callS (As := [.int x3, .int (100000 : Int32)]) (rest := []) h lk_P_96 sk_P_96 d_P_party_20 (by decide) rfl rfl (Nat.le_of_ble_eq_true rfl) (m_P_isBelow e20) ?_
      refine r_bif_eq h d_P_party_23 hf (fun hf => ?_) (fun hf => ?_)
      · refine r_iload_n h d_P_party_36 2 rfl rfl ?_
        refine r_iconst h d_P_party_37 ki_1 ?_
        refine r_icmp_ne h d_P_party_38 hf (fun hf => ?_) (fun hf => ?_)
        · refine r_bipush h d_P_party_59 kb_m2 ?_
          exact r_ireturn h d_P_party_61.1 (q_p1 hf) (q_p2 hf)
        · refine r_iload_n h d_P_party_41 3 rfl rfl ?_
          refine r_iconst h d_P_party_42 ki_3 ?_
          obtain ⟨r43, e43, hf⟩ := q_bind hf
          refine r_callS (As := [.int x3, .int (3 : Int32)]) (rest := []) h lk_P_96 sk_P_96 d_P_party_43 (by decide) rfl rfl (Nat.le_of_ble_eq_true rfl) (m_P_isBelow e43) ?_
          refine r_bif_eq h d_P_party_46 hf (fun hf => ?_) (fun hf => ?_)
          · refine r_bipush h d_P_party_59 kb_m2 ?_
            exact r_ireturn h d_P_party_61.1 (q_p1 hf) (q_p2 hf)
          · refine r_aload_n h d_P_party_49 0 rfl rfl ?_
            refine r_getR h fd_YC_0_9 cf_P fl_P_71 d_P_party_50 ?_
            refine r_iload_n h d_P_party_53 1 rfl rfl ?_
            refine r_iload_n h d_P_party_54 3 rfl rfl ?_
            obtain ⟨q55, e55, hf⟩ := q_bind hf
            refine r_callV (As := [.int x1, .int x3]) (rest := []) h sh_YC_57 lk_P_335 vk_P_335 d_P_party_55 (by decide) rfl rfl (Nat.le_of_ble_eq_true rfl) (m_Owed_changeRank e55) ?_
            exact r_ireturn h d_P_party_58.1 (q_p1 hf) (q_p2 hf)
      · refine r_aload_n h d_P_party_26 0 rfl rfl ?_
        refine r_getR h fd_YC_0_9 cf_P fl_P_71 d_P_party_27 ?_
        refine r_iload_n h d_P_party_30 1 rfl rfl ?_
        refine r_iload_n h d_P_party_31 3 rfl rfl ?_
        obtain ⟨q32, e32, hf⟩ := q_bind hf
        refine r_callV (As := [.int x1, .int x3]) (rest := []) h sh_YC_57 lk_P_332 vk_P_332 d_P_party_32 (by decide) rfl rfl (Nat.le_of_ble_eq_true rfl) (m_Owed_changeCoin e32) ?_
        exact r_ireturn h d_P_party_35.1 (q_p1 hf) (q_p2 hf)
  · refine r_bipush h d_P_party_9 kb_m2 ?_
    exact r_ireturn h d_P_party_11.1 (q_p1 hf) (q_p2 hf)

theorem d_Owed_takeNext_0 : decode c_Owed_takeNext 0 = .ok (.iconst 0, 1) ∧ 0 + 1 = 1 := by decide +kernel
theorem d_Owed_takeNext_1 : decode c_Owed_takeNext 1 = .ok (.istore_n 1, 1) ∧ 1 + 1 = 2 := by decide +kernel
theorem d_Owed_takeNext_2 : decode c_Owed_takeNext 2 = .ok (.iconst 0, 1) ∧ 2 + 1 = 3 := by decide +kernel
theorem d_Owed_takeNext_3 : decode c_Owed_takeNext 3 = .ok (.istore_n 2, 1) ∧ 3 + 1 = 4 := by decide +kernel
theorem d_Owed_takeNext_4 : decode c_Owed_takeNext 4 = .ok (.iload_n 2, 1) ∧ 4 + 1 = 5 := by decide +kernel
theorem d_Owed_takeNext_5 : decode c_Owed_takeNext 5 = .ok (.aload_n 0, 1) ∧ 5 + 1 = 6 := by decide +kernel
theorem d_Owed_takeNext_6 : decode c_Owed_takeNext 6 = .ok (.getfield 13, 3) ∧ 6 + 3 = 9 := by decide +kernel
theorem d_Owed_takeNext_9 : decode c_Owed_takeNext 9 = .ok (.arraylength, 1) ∧ 9 + 1 = 10 := by decide +kernel
theorem d_Owed_takeNext_10 : decode c_Owed_takeNext 10 = .ok (.if_icmp .ge 38, 3) ∧ 10 + 3 = 13 ∧ ((10 : Nat) : Int) + 38 = ((48 : Nat) : Int) := by decide +kernel
theorem d_Owed_takeNext_13 : decode c_Owed_takeNext 13 = .ok (.aload_n 0, 1) ∧ 13 + 1 = 14 := by decide +kernel
theorem d_Owed_takeNext_14 : decode c_Owed_takeNext 14 = .ok (.getfield 13, 3) ∧ 14 + 3 = 17 := by decide +kernel
theorem d_Owed_takeNext_17 : decode c_Owed_takeNext 17 = .ok (.iload_n 2, 1) ∧ 17 + 1 = 18 := by decide +kernel
theorem d_Owed_takeNext_18 : decode c_Owed_takeNext 18 = .ok (.iaload, 1) ∧ 18 + 1 = 19 := by decide +kernel
theorem d_Owed_takeNext_19 : decode c_Owed_takeNext 19 = .ok (.aload_n 0, 1) ∧ 19 + 1 = 20 := by decide +kernel
theorem d_Owed_takeNext_20 : decode c_Owed_takeNext 20 = .ok (.getfield 16, 3) ∧ 20 + 3 = 23 := by decide +kernel
theorem d_Owed_takeNext_23 : decode c_Owed_takeNext 23 = .ok (.iload_n 2, 1) ∧ 23 + 1 = 24 := by decide +kernel
theorem d_Owed_takeNext_24 : decode c_Owed_takeNext 24 = .ok (.iaload, 1) ∧ 24 + 1 = 25 := by decide +kernel
theorem d_Owed_takeNext_25 : decode c_Owed_takeNext 25 = .ok (.if_icmp .eq 5, 3) ∧ 25 + 3 = 28 ∧ ((25 : Nat) : Int) + 5 = ((30 : Nat) : Int) := by decide +kernel
theorem d_Owed_takeNext_28 : decode c_Owed_takeNext 28 = .ok (.iconst 1, 1) ∧ 28 + 1 = 29 := by decide +kernel
theorem d_Owed_takeNext_29 : decode c_Owed_takeNext 29 = .ok (.istore_n 1, 1) ∧ 29 + 1 = 30 := by decide +kernel
theorem d_Owed_takeNext_30 : decode c_Owed_takeNext 30 = .ok (.aload_n 0, 1) ∧ 30 + 1 = 31 := by decide +kernel
theorem d_Owed_takeNext_31 : decode c_Owed_takeNext 31 = .ok (.getfield 13, 3) ∧ 31 + 3 = 34 := by decide +kernel
theorem d_Owed_takeNext_34 : decode c_Owed_takeNext 34 = .ok (.iload_n 2, 1) ∧ 34 + 1 = 35 := by decide +kernel
theorem d_Owed_takeNext_35 : decode c_Owed_takeNext 35 = .ok (.aload_n 0, 1) ∧ 35 + 1 = 36 := by decide +kernel
theorem d_Owed_takeNext_36 : decode c_Owed_takeNext 36 = .ok (.getfield 16, 3) ∧ 36 + 3 = 39 := by decide +kernel
theorem d_Owed_takeNext_39 : decode c_Owed_takeNext 39 = .ok (.iload_n 2, 1) ∧ 39 + 1 = 40 := by decide +kernel
theorem d_Owed_takeNext_40 : decode c_Owed_takeNext 40 = .ok (.iaload, 1) ∧ 40 + 1 = 41 := by decide +kernel
theorem d_Owed_takeNext_41 : decode c_Owed_takeNext 41 = .ok (.iastore, 1) ∧ 41 + 1 = 42 := by decide +kernel
theorem d_Owed_takeNext_42 : decode c_Owed_takeNext 42 = .ok (.iinc 2 1, 3) ∧ 42 + 3 = 45 := by decide +kernel
theorem d_Owed_takeNext_45 : decode c_Owed_takeNext 45 = .ok (.goto (-41), 3) ∧ (45 : Int) + (-41) = (4 : Int) := by decide +kernel
theorem d_Owed_takeNext_48 : decode c_Owed_takeNext 48 = .ok (.iload_n 1, 1) ∧ 48 + 1 = 49 := by decide +kernel
theorem d_Owed_takeNext_49 : decode c_Owed_takeNext 49 = .ok (.ireturn, 1) ∧ 49 + 1 = 50 := by decide +kernel
set_option maxHeartbeats 4000000 in
theorem w_Owed_takeNext_L4 {Z : Sy} {Γ : Nat → List (Nat × Value) → List Value → St → Prop} {res : (Bool × St)} (h : IsG YC Z R_Owed c_Owed_takeNext 3 1 (some .boolean) (some (.int (bi res.1))) res.2 Γ) : ∀ (n : Nat) (x1 : Int32) (x2 : Int32) (σ : St), Owed_takeNext_L4 n x1 x2 σ = some res → Γ 4 [(0, .ref (ya Z 57)), (1, .int x1), (2, .int x2)] [] σ := by
  intro n
  induction n with
  | zero => intro x1 x2 σ hf; exact absurd hf (by simp [Owed_takeNext_L4])
  | succ n ih =>
    intro x1 x2 σ hf
    rw [Owed_takeNext_L4] at hf
    refine r_iload_n h d_Owed_takeNext_4 2 rfl rfl ?_
    refine r_aload_n h d_Owed_takeNext_5 0 rfl rfl ?_
    refine r_getR h fd_YC_57_1 cf_Owed fl_Owed_13 d_Owed_takeNext_6 ?_
    refine r_alen h sh_YC_59 kn_100 d_Owed_takeNext_9 ?_
    refine r_icmp_ge h d_Owed_takeNext_10 hf (fun hf => ?_) (fun hf => ?_)
    · refine r_iload_n h d_Owed_takeNext_48 1 rfl rfl ?_
      refine q_case hf (fun hq hf => ?_) (fun hq hf => ?_)
      · exact r_zreturn h d_Owed_takeNext_49.1 (hq.trans ((show (0 : Int32) = bi false from rfl).trans (congrArg bi (q_p1 hf)))) (q_p2 hf)
      · refine q_case hf (fun hq hf => ?_) (fun hq hf => ?_)
        · exact r_zreturn h d_Owed_takeNext_49.1 (hq.trans ((show (1 : Int32) = bi true from rfl).trans (congrArg bi (q_p1 hf)))) (q_p2 hf)
        · cases hf
    · refine r_aload_n h d_Owed_takeNext_13 0 rfl rfl ?_
      refine r_getR h fd_YC_57_1 cf_Owed fl_Owed_13 d_Owed_takeNext_14 ?_
      refine r_iload_n h d_Owed_takeNext_17 2 rfl rfl ?_
      refine r_iald h sh_YC_59 d_Owed_takeNext_18 hf (fun hf => ?_)
      refine r_aload_n h d_Owed_takeNext_19 0 rfl rfl ?_
      refine r_getR h fd_YC_57_2 cf_Owed fl_Owed_16 d_Owed_takeNext_20 ?_
      refine r_iload_n h d_Owed_takeNext_23 2 rfl rfl ?_
      refine r_iald h sh_YC_60 d_Owed_takeNext_24 hf (fun hf => ?_)
      refine r_icmp_eq h d_Owed_takeNext_25 hf (fun hf => ?_) (fun hf => ?_)
      · refine r_aload_n h d_Owed_takeNext_30 0 rfl rfl ?_
        refine r_getR h fd_YC_57_1 cf_Owed fl_Owed_13 d_Owed_takeNext_31 ?_
        refine r_iload_n h d_Owed_takeNext_34 2 rfl rfl ?_
        refine r_aload_n h d_Owed_takeNext_35 0 rfl rfl ?_
        refine r_getR h fd_YC_57_2 cf_Owed fl_Owed_16 d_Owed_takeNext_36 ?_
        refine r_iload_n h d_Owed_takeNext_39 2 rfl rfl ?_
        refine r_iald h sh_YC_60 d_Owed_takeNext_40 hf (fun hf => ?_)
        refine r_iast h sh_YC_59 d_Owed_takeNext_41 hf (fun hf => ?_)
        refine r_iinc (ls' := [(2, .int (x2 + (1 : Int32))), (0, .ref (ya Z 57)), (1, .int x1)]) h d_Owed_takeNext_42 2 rfl ki_1 (by decide) rfl ?_
        refine r_goto h d_Owed_takeNext_45 ?_
        refine r_sub h [1, 2, 0] rfl ?_
        exact ih _ _ _ hf
      · refine r_iconst h d_Owed_takeNext_28 ki_1 ?_
        refine r_istore_n (ls' := [(1, .int (1 : Int32)), (0, .ref (ya Z 57)), (2, .int x2)]) h d_Owed_takeNext_29 rfl (by decide) rfl ?_
        refine r_aload_n h d_Owed_takeNext_30 1 rfl rfl ?_
        refine r_getR h fd_YC_57_1 cf_Owed fl_Owed_13 d_Owed_takeNext_31 ?_
        refine r_iload_n h d_Owed_takeNext_34 2 rfl rfl ?_
        refine r_aload_n h d_Owed_takeNext_35 1 rfl rfl ?_
        refine r_getR h fd_YC_57_2 cf_Owed fl_Owed_16 d_Owed_takeNext_36 ?_
        refine r_iload_n h d_Owed_takeNext_39 2 rfl rfl ?_
        refine r_iald h sh_YC_60 d_Owed_takeNext_40 hf (fun hf => ?_)
        refine r_iast h sh_YC_59 d_Owed_takeNext_41 hf (fun hf => ?_)
        refine r_iinc (ls' := [(2, .int (x2 + (1 : Int32))), (1, .int (1 : Int32)), (0, .ref (ya Z 57))]) h d_Owed_takeNext_42 2 rfl ki_1 (by decide) rfl ?_
        refine r_goto h d_Owed_takeNext_45 ?_
        refine r_sub h [2, 1, 0] rfl ?_
        exact ih _ _ _ hf

set_option maxHeartbeats 4000000 in
theorem m_Owed_takeNext {Z : Sy} {σ : St} {res : (Bool × St)} (hf : Owed_takeNext  σ = some res) : Ct YC Z y_Owed_takeNext c_Owed_takeNext 3 (some .boolean) 1 [.ref (ya Z 57)] σ (some (.int (bi res.1))) res.2 := by
  refine Ct.of pn_Owed (Nat.le_of_ble_eq_true rfl) rfl (fun Γ h => ?_)
  have h : IsG YC Z R_Owed c_Owed_takeNext 3 1 (some .boolean) (some (.int (bi res.1))) res.2 Γ := h
  unfold Owed_takeNext at hf
  refine r_iconst h d_Owed_takeNext_0 ki_0 ?_
  refine r_istore_n (ls' := [(1, .int (0 : Int32)), (0, .ref (ya Z 57))]) h d_Owed_takeNext_1 rfl (by decide) rfl ?_
  refine r_iconst h d_Owed_takeNext_2 ki_0 ?_
  refine r_istore_n (ls' := [(2, .int (0 : Int32)), (1, .int (0 : Int32)), (0, .ref (ya Z 57))]) h d_Owed_takeNext_3 rfl (by decide) rfl ?_
  refine r_sub h [2, 1, 0] rfl ?_
  exact w_Owed_takeNext_L4 h _ _ _ _ hf

theorem d_Owed_payRank_0 : decode c_Owed_payRank 0 = .ok (.iconst 0, 1) ∧ 0 + 1 = 1 := by decide +kernel
theorem d_Owed_payRank_1 : decode c_Owed_payRank 1 = .ok (.istore 4, 2) ∧ 1 + 2 = 3 := by decide +kernel
theorem d_Owed_payRank_3 : decode c_Owed_payRank 3 = .ok (.iconst 0, 1) ∧ 3 + 1 = 4 := by decide +kernel
theorem d_Owed_payRank_4 : decode c_Owed_payRank 4 = .ok (.istore 5, 2) ∧ 4 + 2 = 6 := by decide +kernel
theorem d_Owed_payRank_6 : decode c_Owed_payRank 6 = .ok (.iload 5, 2) ∧ 6 + 2 = 8 := by decide +kernel
theorem d_Owed_payRank_8 : decode c_Owed_payRank 8 = .ok (.bipush 10, 2) ∧ 8 + 2 = 10 := by decide +kernel
theorem d_Owed_payRank_10 : decode c_Owed_payRank 10 = .ok (.if_icmp .ge 37, 3) ∧ 10 + 3 = 13 ∧ ((10 : Nat) : Int) + 37 = ((47 : Nat) : Int) := by decide +kernel
theorem d_Owed_payRank_13 : decode c_Owed_payRank 13 = .ok (.aload_n 0, 1) ∧ 13 + 1 = 14 := by decide +kernel
theorem d_Owed_payRank_14 : decode c_Owed_payRank 14 = .ok (.getfield 22, 3) ∧ 14 + 3 = 17 := by decide +kernel
theorem d_Owed_payRank_17 : decode c_Owed_payRank 17 = .ok (.iload 5, 2) ∧ 17 + 2 = 19 := by decide +kernel
theorem d_Owed_payRank_19 : decode c_Owed_payRank 19 = .ok (.iaload, 1) ∧ 19 + 1 = 20 := by decide +kernel
theorem d_Owed_payRank_20 : decode c_Owed_payRank 20 = .ok (.iload_n 2, 1) ∧ 20 + 1 = 21 := by decide +kernel
theorem d_Owed_payRank_21 : decode c_Owed_payRank 21 = .ok (.if_icmp .ne 20, 3) ∧ 21 + 3 = 24 ∧ ((21 : Nat) : Int) + 20 = ((41 : Nat) : Int) := by decide +kernel
theorem d_Owed_payRank_24 : decode c_Owed_payRank 24 = .ok (.iload 4, 2) ∧ 24 + 2 = 26 := by decide +kernel
theorem d_Owed_payRank_26 : decode c_Owed_payRank 26 = .ok (.aload_n 0, 1) ∧ 26 + 1 = 27 := by decide +kernel
theorem d_Owed_payRank_27 : decode c_Owed_payRank 27 = .ok (.getfield 9, 3) ∧ 27 + 3 = 30 := by decide +kernel
theorem d_Owed_payRank_30 : decode c_Owed_payRank 30 = .ok (.iload_n 1, 1) ∧ 30 + 1 = 31 := by decide +kernel
theorem d_Owed_payRank_31 : decode c_Owed_payRank 31 = .ok (.bipush 10, 2) ∧ 31 + 2 = 33 := by decide +kernel
theorem d_Owed_payRank_33 : decode c_Owed_payRank 33 = .ok (.imul, 1) ∧ 33 + 1 = 34 := by decide +kernel
theorem d_Owed_payRank_34 : decode c_Owed_payRank 34 = .ok (.iload 5, 2) ∧ 34 + 2 = 36 := by decide +kernel
theorem d_Owed_payRank_36 : decode c_Owed_payRank 36 = .ok (.iadd, 1) ∧ 36 + 1 = 37 := by decide +kernel
theorem d_Owed_payRank_37 : decode c_Owed_payRank 37 = .ok (.iaload, 1) ∧ 37 + 1 = 38 := by decide +kernel
theorem d_Owed_payRank_38 : decode c_Owed_payRank 38 = .ok (.iadd, 1) ∧ 38 + 1 = 39 := by decide +kernel
theorem d_Owed_payRank_39 : decode c_Owed_payRank 39 = .ok (.istore 4, 2) ∧ 39 + 2 = 41 := by decide +kernel
theorem d_Owed_payRank_41 : decode c_Owed_payRank 41 = .ok (.iinc 5 1, 3) ∧ 41 + 3 = 44 := by decide +kernel
theorem d_Owed_payRank_44 : decode c_Owed_payRank 44 = .ok (.goto (-38), 3) ∧ (44 : Int) + (-38) = (6 : Int) := by decide +kernel
theorem d_Owed_payRank_47 : decode c_Owed_payRank 47 = .ok (.iload 4, 2) ∧ 47 + 2 = 49 := by decide +kernel
theorem d_Owed_payRank_49 : decode c_Owed_payRank 49 = .ok (.iload_n 3, 1) ∧ 49 + 1 = 50 := by decide +kernel
theorem d_Owed_payRank_50 : decode c_Owed_payRank 50 = .ok (.if_icmp .gt 7, 3) ∧ 50 + 3 = 53 ∧ ((50 : Nat) : Int) + 7 = ((57 : Nat) : Int) := by decide +kernel
theorem d_Owed_payRank_53 : decode c_Owed_payRank 53 = .ok (.iconst 1, 1) ∧ 53 + 1 = 54 := by decide +kernel
theorem d_Owed_payRank_54 : decode c_Owed_payRank 54 = .ok (.goto 4, 3) ∧ (54 : Int) + 4 = (58 : Int) := by decide +kernel
theorem d_Owed_payRank_57 : decode c_Owed_payRank 57 = .ok (.iconst 0, 1) ∧ 57 + 1 = 58 := by decide +kernel
theorem d_Owed_payRank_58 : decode c_Owed_payRank 58 = .ok (.istore 5, 2) ∧ 58 + 2 = 60 := by decide +kernel
theorem d_Owed_payRank_60 : decode c_Owed_payRank 60 = .ok (.iconst 0, 1) ∧ 60 + 1 = 61 := by decide +kernel
theorem d_Owed_payRank_61 : decode c_Owed_payRank 61 = .ok (.istore 6, 2) ∧ 61 + 2 = 63 := by decide +kernel
theorem d_Owed_payRank_63 : decode c_Owed_payRank 63 = .ok (.iload 6, 2) ∧ 63 + 2 = 65 := by decide +kernel
theorem d_Owed_payRank_65 : decode c_Owed_payRank 65 = .ok (.bipush 10, 2) ∧ 65 + 2 = 67 := by decide +kernel
theorem d_Owed_payRank_67 : decode c_Owed_payRank 67 = .ok (.if_icmp .ge 75, 3) ∧ 67 + 3 = 70 ∧ ((67 : Nat) : Int) + 75 = ((142 : Nat) : Int) := by decide +kernel
theorem d_Owed_payRank_70 : decode c_Owed_payRank 70 = .ok (.aload_n 0, 1) ∧ 70 + 1 = 71 := by decide +kernel
theorem d_Owed_payRank_71 : decode c_Owed_payRank 71 = .ok (.getfield 22, 3) ∧ 71 + 3 = 74 := by decide +kernel
theorem d_Owed_payRank_74 : decode c_Owed_payRank 74 = .ok (.iload 6, 2) ∧ 74 + 2 = 76 := by decide +kernel
theorem d_Owed_payRank_76 : decode c_Owed_payRank 76 = .ok (.iaload, 1) ∧ 76 + 1 = 77 := by decide +kernel
theorem d_Owed_payRank_77 : decode c_Owed_payRank 77 = .ok (.iload_n 2, 1) ∧ 77 + 1 = 78 := by decide +kernel
theorem d_Owed_payRank_78 : decode c_Owed_payRank 78 = .ok (.if_icmp .eq 6, 3) ∧ 78 + 3 = 81 ∧ ((78 : Nat) : Int) + 6 = ((84 : Nat) : Int) := by decide +kernel
theorem d_Owed_payRank_81 : decode c_Owed_payRank 81 = .ok (.goto 55, 3) ∧ (81 : Int) + 55 = (136 : Int) := by decide +kernel
theorem d_Owed_payRank_84 : decode c_Owed_payRank 84 = .ok (.aload_n 0, 1) ∧ 84 + 1 = 85 := by decide +kernel
theorem d_Owed_payRank_85 : decode c_Owed_payRank 85 = .ok (.getfield 9, 3) ∧ 85 + 3 = 88 := by decide +kernel
theorem d_Owed_payRank_88 : decode c_Owed_payRank 88 = .ok (.iload_n 1, 1) ∧ 88 + 1 = 89 := by decide +kernel
theorem d_Owed_payRank_89 : decode c_Owed_payRank 89 = .ok (.bipush 10, 2) ∧ 89 + 2 = 91 := by decide +kernel
theorem d_Owed_payRank_91 : decode c_Owed_payRank 91 = .ok (.imul, 1) ∧ 91 + 1 = 92 := by decide +kernel
theorem d_Owed_payRank_92 : decode c_Owed_payRank 92 = .ok (.iload 6, 2) ∧ 92 + 2 = 94 := by decide +kernel
theorem d_Owed_payRank_94 : decode c_Owed_payRank 94 = .ok (.iadd, 1) ∧ 94 + 1 = 95 := by decide +kernel
theorem d_Owed_payRank_95 : decode c_Owed_payRank 95 = .ok (.iaload, 1) ∧ 95 + 1 = 96 := by decide +kernel
theorem d_Owed_payRank_96 : decode c_Owed_payRank 96 = .ok (.i2l, 1) ∧ 96 + 1 = 97 := by decide +kernel
theorem d_Owed_payRank_97 : decode c_Owed_payRank 97 = .ok (.lstore 7, 2) ∧ 97 + 2 = 99 := by decide +kernel
theorem d_Owed_payRank_99 : decode c_Owed_payRank 99 = .ok (.aload_n 0, 1) ∧ 99 + 1 = 100 := by decide +kernel
theorem d_Owed_payRank_100 : decode c_Owed_payRank 100 = .ok (.getfield 16, 3) ∧ 100 + 3 = 103 := by decide +kernel
theorem d_Owed_payRank_103 : decode c_Owed_payRank 103 = .ok (.iload_n 1, 1) ∧ 103 + 1 = 104 := by decide +kernel
theorem d_Owed_payRank_104 : decode c_Owed_payRank 104 = .ok (.bipush 10, 2) ∧ 104 + 2 = 106 := by decide +kernel
theorem d_Owed_payRank_106 : decode c_Owed_payRank 106 = .ok (.imul, 1) ∧ 106 + 1 = 107 := by decide +kernel
theorem d_Owed_payRank_107 : decode c_Owed_payRank 107 = .ok (.iload 6, 2) ∧ 107 + 2 = 109 := by decide +kernel
theorem d_Owed_payRank_109 : decode c_Owed_payRank 109 = .ok (.iadd, 1) ∧ 109 + 1 = 110 := by decide +kernel
theorem d_Owed_payRank_110 : decode c_Owed_payRank 110 = .ok (.iload 5, 2) ∧ 110 + 2 = 112 := by decide +kernel
theorem d_Owed_payRank_112 : decode c_Owed_payRank 112 = .ok (.ifCond .ne 8, 3) ∧ 112 + 3 = 115 ∧ ((112 : Nat) : Int) + 8 = ((120 : Nat) : Int) := by decide +kernel
theorem d_Owed_payRank_115 : decode c_Owed_payRank 115 = .ok (.iload 4, 2) ∧ 115 + 2 = 117 := by decide +kernel
theorem d_Owed_payRank_117 : decode c_Owed_payRank 117 = .ok (.ifCond .ne 8, 3) ∧ 117 + 3 = 120 ∧ ((117 : Nat) : Int) + 8 = ((125 : Nat) : Int) := by decide +kernel
theorem d_Owed_payRank_120 : decode c_Owed_payRank 120 = .ok (.lload 7, 2) ∧ 120 + 2 = 122 := by decide +kernel
theorem d_Owed_payRank_122 : decode c_Owed_payRank 122 = .ok (.goto 12, 3) ∧ (122 : Int) + 12 = (134 : Int) := by decide +kernel
theorem d_Owed_payRank_125 : decode c_Owed_payRank 125 = .ok (.lload 7, 2) ∧ 125 + 2 = 127 := by decide +kernel
theorem d_Owed_payRank_127 : decode c_Owed_payRank 127 = .ok (.iload_n 3, 1) ∧ 127 + 1 = 128 := by decide +kernel
theorem d_Owed_payRank_128 : decode c_Owed_payRank 128 = .ok (.i2l, 1) ∧ 128 + 1 = 129 := by decide +kernel
theorem d_Owed_payRank_129 : decode c_Owed_payRank 129 = .ok (.lmul, 1) ∧ 129 + 1 = 130 := by decide +kernel
theorem d_Owed_payRank_130 : decode c_Owed_payRank 130 = .ok (.iload 4, 2) ∧ 130 + 2 = 132 := by decide +kernel
theorem d_Owed_payRank_132 : decode c_Owed_payRank 132 = .ok (.i2l, 1) ∧ 132 + 1 = 133 := by decide +kernel
theorem d_Owed_payRank_133 : decode c_Owed_payRank 133 = .ok (.ldiv, 1) ∧ 133 + 1 = 134 := by decide +kernel
theorem d_Owed_payRank_134 : decode c_Owed_payRank 134 = .ok (.l2i, 1) ∧ 134 + 1 = 135 := by decide +kernel
theorem d_Owed_payRank_135 : decode c_Owed_payRank 135 = .ok (.iastore, 1) ∧ 135 + 1 = 136 := by decide +kernel
theorem d_Owed_payRank_136 : decode c_Owed_payRank 136 = .ok (.iinc 6 1, 3) ∧ 136 + 3 = 139 := by decide +kernel
theorem d_Owed_payRank_139 : decode c_Owed_payRank 139 = .ok (.goto (-76), 3) ∧ (139 : Int) + (-76) = (63 : Int) := by decide +kernel
theorem d_Owed_payRank_142 : decode c_Owed_payRank 142 = .ok (.iload 5, 2) ∧ 142 + 2 = 144 := by decide +kernel
theorem d_Owed_payRank_144 : decode c_Owed_payRank 144 = .ok (.ifCond .eq 10, 3) ∧ 144 + 3 = 147 ∧ ((144 : Nat) : Int) + 10 = ((154 : Nat) : Int) := by decide +kernel
theorem d_Owed_payRank_147 : decode c_Owed_payRank 147 = .ok (.iload_n 3, 1) ∧ 147 + 1 = 148 := by decide +kernel
theorem d_Owed_payRank_148 : decode c_Owed_payRank 148 = .ok (.iload 4, 2) ∧ 148 + 2 = 150 := by decide +kernel
theorem d_Owed_payRank_150 : decode c_Owed_payRank 150 = .ok (.isub, 1) ∧ 150 + 1 = 151 := by decide +kernel
theorem d_Owed_payRank_151 : decode c_Owed_payRank 151 = .ok (.goto 4, 3) ∧ (151 : Int) + 4 = (155 : Int) := by decide +kernel
theorem d_Owed_payRank_154 : decode c_Owed_payRank 154 = .ok (.iconst 0, 1) ∧ 154 + 1 = 155 := by decide +kernel
theorem d_Owed_payRank_155 : decode c_Owed_payRank 155 = .ok (.ireturn, 1) ∧ 155 + 1 = 156 := by decide +kernel
set_option maxHeartbeats 4000000 in
theorem w_Owed_payRank_L63 {Z : Sy} {Γ : Nat → List (Nat × Value) → List Value → St → Prop} {res : (Int32 × St)} {x1 : Int32} {x2 : Int32} {x3 : Int32} {x4 : Int32} {x5 : Int32} (h : IsG YC Z R_Owed c_Owed_payRank 9 1 (some .int) (some (.int res.1)) res.2 Γ) : ∀ (n : Nat) (x6 : Int32) (σ : St), Owed_payRank_L63 x1 x2 x3 x4 x5 n x6 σ = some res → Γ 63 [(0, .ref (ya Z 57)), (1, .int x1), (2, .int x2), (3, .int x3), (4, .int x4), (5, .int x5), (6, .int x6)] [] σ := by
  intro n
  induction n with
  | zero => intro x6 σ hf; exact absurd hf (by simp [Owed_payRank_L63])
  | succ n ih =>
    intro x6 σ hf
    rw [Owed_payRank_L63] at hf
    refine r_iload h d_Owed_payRank_63 6 rfl ?_
    refine r_bipush h d_Owed_payRank_65 kb_10 ?_
    refine r_icmp_ge h d_Owed_payRank_67 hf (fun hf => ?_) (fun hf => ?_)
    · refine r_iload h d_Owed_payRank_142 5 rfl ?_
      refine r_if_eq h d_Owed_payRank_144 hf (fun hf => ?_) (fun hf => ?_)
      · refine r_iconst h d_Owed_payRank_154 ki_0 ?_
        exact r_ireturn h d_Owed_payRank_155.1 (q_p1 hf) (q_p2 hf)
      · refine r_iload_n h d_Owed_payRank_147 3 rfl rfl ?_
        refine r_iload h d_Owed_payRank_148 4 rfl ?_
        refine r_isub h d_Owed_payRank_150 ?_
        refine r_goto h d_Owed_payRank_151 ?_
        exact r_ireturn h d_Owed_payRank_155.1 (q_p1 hf) (q_p2 hf)
    · refine r_aload_n h d_Owed_payRank_70 0 rfl rfl ?_
      refine r_getR h fd_YC_57_4 cf_Owed fl_Owed_22 d_Owed_payRank_71 ?_
      refine r_iload h d_Owed_payRank_74 6 rfl ?_
      refine r_iald h sh_YC_62 d_Owed_payRank_76 hf (fun hf => ?_)
      refine r_iload_n h d_Owed_payRank_77 2 rfl rfl ?_
      refine r_icmp_eq h d_Owed_payRank_78 hf (fun hf => ?_) (fun hf => ?_)
      · refine r_aload_n h d_Owed_payRank_84 0 rfl rfl ?_
        refine r_getR h fd_YC_57_0 cf_Owed fl_Owed_9 d_Owed_payRank_85 ?_
        refine r_iload_n h d_Owed_payRank_88 1 rfl rfl ?_
        refine r_bipush h d_Owed_payRank_89 kb_10 ?_
        refine r_imul h d_Owed_payRank_91 ?_
        refine r_iload h d_Owed_payRank_92 6 rfl ?_
        refine r_iadd h d_Owed_payRank_94 ?_
        refine r_iald h sh_YC_58 d_Owed_payRank_95 hf (fun hf => ?_)
        refine r_i2l h d_Owed_payRank_96 ?_
        refine r_lstore (ls' := [(7, .long (Int32.toInt64 (σ.1 58 (Int32.toNatClampNeg ((x1 * (10 : Int32)) + x6))))), (0, .ref (ya Z 57)), (1, .int x1), (2, .int x2), (3, .int x3), (4, .int x4), (5, .int x5), (6, .int x6)]) h d_Owed_payRank_97 (by decide) rfl ?_
        refine r_aload_n h d_Owed_payRank_99 1 rfl rfl ?_
        refine r_getR h fd_YC_57_2 cf_Owed fl_Owed_16 d_Owed_payRank_100 ?_
        refine r_iload_n h d_Owed_payRank_103 2 rfl rfl ?_
        refine r_bipush h d_Owed_payRank_104 kb_10 ?_
        refine r_imul h d_Owed_payRank_106 ?_
        refine r_iload h d_Owed_payRank_107 7 rfl ?_
        refine r_iadd h d_Owed_payRank_109 ?_
        refine r_iload h d_Owed_payRank_110 6 rfl ?_
        refine r_if_ne h d_Owed_payRank_112 hf (fun hf => ?_) (fun hf => ?_)
        · refine r_lload h d_Owed_payRank_120 0 rfl ?_
          refine r_goto h d_Owed_payRank_122 ?_
          refine r_l2i h d_Owed_payRank_134 ?_
          refine r_iast h sh_YC_60 d_Owed_payRank_135 hf (fun hf => ?_)
          refine r_iinc (ls' := [(6, .int (x6 + (1 : Int32))), (7, .long (Int32.toInt64 (σ.1 58 (Int32.toNatClampNeg ((x1 * (10 : Int32)) + x6))))), (0, .ref (ya Z 57)), (1, .int x1), (2, .int x2), (3, .int x3), (4, .int x4), (5, .int x5)]) h d_Owed_payRank_136 7 rfl ki_1 (by decide) rfl ?_
          refine r_goto h d_Owed_payRank_139 ?_
          refine r_sub h [2, 3, 4, 5, 6, 7, 0] rfl ?_
          exact ih _ _ hf
        · refine r_iload h d_Owed_payRank_115 5 rfl ?_
          refine r_if_ne h d_Owed_payRank_117 hf (fun hf => ?_) (fun hf => ?_)
          · refine r_lload h d_Owed_payRank_125 0 rfl ?_
            refine r_iload_n h d_Owed_payRank_127 4 rfl rfl ?_
            refine r_i2l h d_Owed_payRank_128 ?_
            refine r_lmul h d_Owed_payRank_129 ?_
            refine r_iload h d_Owed_payRank_130 5 rfl ?_
            refine r_i2l h d_Owed_payRank_132 ?_
            refine q_div hf (fun hne hf => ?_)
            refine r_ldiv h d_Owed_payRank_133 hne ?_
            refine r_l2i h d_Owed_payRank_134 ?_
            refine r_iast h sh_YC_60 d_Owed_payRank_135 hf (fun hf => ?_)
            refine r_iinc (ls' := [(6, .int (x6 + (1 : Int32))), (7, .long (Int32.toInt64 (σ.1 58 (Int32.toNatClampNeg ((x1 * (10 : Int32)) + x6))))), (0, .ref (ya Z 57)), (1, .int x1), (2, .int x2), (3, .int x3), (4, .int x4), (5, .int x5)]) h d_Owed_payRank_136 7 rfl ki_1 (by decide) rfl ?_
            refine r_goto h d_Owed_payRank_139 ?_
            refine r_sub h [2, 3, 4, 5, 6, 7, 0] rfl ?_
            exact ih _ _ hf
          · refine r_lload h d_Owed_payRank_120 0 rfl ?_
            refine r_goto h d_Owed_payRank_122 ?_
            refine r_l2i h d_Owed_payRank_134 ?_
            refine r_iast h sh_YC_60 d_Owed_payRank_135 hf (fun hf => ?_)
            refine r_iinc (ls' := [(6, .int (x6 + (1 : Int32))), (7, .long (Int32.toInt64 (σ.1 58 (Int32.toNatClampNeg ((x1 * (10 : Int32)) + x6))))), (0, .ref (ya Z 57)), (1, .int x1), (2, .int x2), (3, .int x3), (4, .int x4), (5, .int x5)]) h d_Owed_payRank_136 7 rfl ki_1 (by decide) rfl ?_
            refine r_goto h d_Owed_payRank_139 ?_
            refine r_sub h [2, 3, 4, 5, 6, 7, 0] rfl ?_
            exact ih _ _ hf
      · refine r_goto h d_Owed_payRank_81 ?_
        refine r_iinc (ls' := [(6, .int (x6 + (1 : Int32))), (0, .ref (ya Z 57)), (1, .int x1), (2, .int x2), (3, .int x3), (4, .int x4), (5, .int x5)]) h d_Owed_payRank_136 6 rfl ki_1 (by decide) rfl ?_
        refine r_goto h d_Owed_payRank_139 ?_
        refine r_sub h [1, 2, 3, 4, 5, 6, 0] rfl ?_
        exact ih _ _ hf

set_option maxHeartbeats 4000000 in
theorem w_Owed_payRank_L6 {Z : Sy} {Γ : Nat → List (Nat × Value) → List Value → St → Prop} {res : (Int32 × St)} {x1 : Int32} {x2 : Int32} {x3 : Int32} {σ : St} (h : IsG YC Z R_Owed c_Owed_payRank 9 1 (some .int) (some (.int res.1)) res.2 Γ) : ∀ (n : Nat) (x4 : Int32) (x5 : Int32), Owed_payRank_L6 x1 x2 x3 σ n x4 x5 = some res → Γ 6 [(0, .ref (ya Z 57)), (1, .int x1), (2, .int x2), (3, .int x3), (4, .int x4), (5, .int x5)] [] σ := by
  intro n
  induction n with
  | zero => intro x4 x5 hf; exact absurd hf (by simp [Owed_payRank_L6])
  | succ n ih =>
    intro x4 x5 hf
    rw [Owed_payRank_L6] at hf
    refine r_iload h d_Owed_payRank_6 5 rfl ?_
    refine r_bipush h d_Owed_payRank_8 kb_10 ?_
    refine r_icmp_ge h d_Owed_payRank_10 hf (fun hf => ?_) (fun hf => ?_)
    · refine r_iload h d_Owed_payRank_47 4 rfl ?_
      refine r_iload_n h d_Owed_payRank_49 3 rfl rfl ?_
      refine r_icmp_gt h d_Owed_payRank_50 hf (fun hf => ?_) (fun hf => ?_)
      · refine r_iconst h d_Owed_payRank_57 ki_0 ?_
        refine r_istore (ls' := [(5, .int (0 : Int32)), (0, .ref (ya Z 57)), (1, .int x1), (2, .int x2), (3, .int x3), (4, .int x4)]) h d_Owed_payRank_58 (by decide) rfl ?_
        refine r_iconst h d_Owed_payRank_60 ki_0 ?_
        refine r_istore (ls' := [(6, .int (0 : Int32)), (5, .int (0 : Int32)), (0, .ref (ya Z 57)), (1, .int x1), (2, .int x2), (3, .int x3), (4, .int x4)]) h d_Owed_payRank_61 (by decide) rfl ?_
        refine r_sub h [2, 3, 4, 5, 6, 1, 0] rfl ?_
        exact w_Owed_payRank_L63 h _ _ _ hf
      · refine r_iconst h d_Owed_payRank_53 ki_1 ?_
        refine r_goto h d_Owed_payRank_54 ?_
        refine r_istore (ls' := [(5, .int (1 : Int32)), (0, .ref (ya Z 57)), (1, .int x1), (2, .int x2), (3, .int x3), (4, .int x4)]) h d_Owed_payRank_58 (by decide) rfl ?_
        refine r_iconst h d_Owed_payRank_60 ki_0 ?_
        refine r_istore (ls' := [(6, .int (0 : Int32)), (5, .int (1 : Int32)), (0, .ref (ya Z 57)), (1, .int x1), (2, .int x2), (3, .int x3), (4, .int x4)]) h d_Owed_payRank_61 (by decide) rfl ?_
        refine r_sub h [2, 3, 4, 5, 6, 1, 0] rfl ?_
        exact w_Owed_payRank_L63 h _ _ _ hf
    · refine r_aload_n h d_Owed_payRank_13 0 rfl rfl ?_
      refine r_getR h fd_YC_57_4 cf_Owed fl_Owed_22 d_Owed_payRank_14 ?_
      refine r_iload h d_Owed_payRank_17 5 rfl ?_
      refine r_iald h sh_YC_62 d_Owed_payRank_19 hf (fun hf => ?_)
      refine r_iload_n h d_Owed_payRank_20 2 rfl rfl ?_
      refine r_icmp_ne h d_Owed_payRank_21 hf (fun hf => ?_) (fun hf => ?_)
      · refine r_iinc (ls' := [(5, .int (x5 + (1 : Int32))), (0, .ref (ya Z 57)), (1, .int x1), (2, .int x2), (3, .int x3), (4, .int x4)]) h d_Owed_payRank_41 5 rfl ki_1 (by decide) rfl ?_
        refine r_goto h d_Owed_payRank_44 ?_
        refine r_sub h [1, 2, 3, 4, 5, 0] rfl ?_
        exact ih _ _ hf
      · refine r_iload h d_Owed_payRank_24 4 rfl ?_
        refine r_aload_n h d_Owed_payRank_26 0 rfl rfl ?_
        refine r_getR h fd_YC_57_0 cf_Owed fl_Owed_9 d_Owed_payRank_27 ?_
        refine r_iload_n h d_Owed_payRank_30 1 rfl rfl ?_
        refine r_bipush h d_Owed_payRank_31 kb_10 ?_
        refine r_imul h d_Owed_payRank_33 ?_
        refine r_iload h d_Owed_payRank_34 5 rfl ?_
        refine r_iadd h d_Owed_payRank_36 ?_
        refine r_iald h sh_YC_58 d_Owed_payRank_37 hf (fun hf => ?_)
        refine r_iadd h d_Owed_payRank_38 ?_
        refine r_istore (ls' := [(4, .int (x4 + (σ.1 58 (Int32.toNatClampNeg ((x1 * (10 : Int32)) + x5))))), (0, .ref (ya Z 57)), (1, .int x1), (2, .int x2), (3, .int x3), (5, .int x5)]) h d_Owed_payRank_39 (by decide) rfl ?_
        refine r_iinc (ls' := [(5, .int (x5 + (1 : Int32))), (4, .int (x4 + (σ.1 58 (Int32.toNatClampNeg ((x1 * (10 : Int32)) + x5))))), (0, .ref (ya Z 57)), (1, .int x1), (2, .int x2), (3, .int x3)]) h d_Owed_payRank_41 5 rfl ki_1 (by decide) rfl ?_
        refine r_goto h d_Owed_payRank_44 ?_
        refine r_sub h [2, 3, 4, 5, 1, 0] rfl ?_
        exact ih _ _ hf

set_option maxHeartbeats 4000000 in
theorem m_Owed_payRank {Z : Sy} {σ : St} {res : (Int32 × St)} {x1 : Int32} {x2 : Int32} {x3 : Int32} (hf : Owed_payRank x1 x2 x3 σ = some res) : Ct YC Z y_Owed_payRank c_Owed_payRank 9 (some .int) 1 [.ref (ya Z 57), .int x1, .int x2, .int x3] σ (some (.int res.1)) res.2 := by
  refine Ct.of pn_Owed (Nat.le_of_ble_eq_true rfl) rfl (fun Γ h => ?_)
  have h : IsG YC Z R_Owed c_Owed_payRank 9 1 (some .int) (some (.int res.1)) res.2 Γ := h
  unfold Owed_payRank at hf
  refine r_iconst h d_Owed_payRank_0 ki_0 ?_
  refine r_istore (ls' := [(4, .int (0 : Int32)), (0, .ref (ya Z 57)), (1, .int x1), (2, .int x2), (3, .int x3)]) h d_Owed_payRank_1 (by decide) rfl ?_
  refine r_iconst h d_Owed_payRank_3 ki_0 ?_
  refine r_istore (ls' := [(5, .int (0 : Int32)), (4, .int (0 : Int32)), (0, .ref (ya Z 57)), (1, .int x1), (2, .int x2), (3, .int x3)]) h d_Owed_payRank_4 (by decide) rfl ?_
  refine r_sub h [2, 3, 4, 5, 1, 0] rfl ?_
  exact w_Owed_payRank_L6 h _ _ _ hf

