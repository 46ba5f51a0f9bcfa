theorem d_M_show_0 : decode c_M_show 0 = .ok (.aload_n 0, 1) ∧ 0 + 1 = 1 := by decide +kernel
theorem d_M_show_1 : decode c_M_show 1 = .ok (.iload_n 1, 1) ∧ 1 + 1 = 2 := by decide +kernel
theorem d_M_show_2 : decode c_M_show 2 = .ok (.invokevirtual 284, 3) ∧ 2 + 3 = 5 := by decide +kernel
theorem d_M_show_5 : decode c_M_show 5 = .ok (.ifCond .eq 5, 3) ∧ 5 + 3 = 8 ∧ ((5 : Nat) : Int) + 5 = ((10 : Nat) : Int) := by decide +kernel
theorem d_M_show_8 : decode c_M_show 8 = .ok (.iconst (-1), 1) ∧ 8 + 1 = 9 := by decide +kernel
theorem d_M_show_9 : decode c_M_show 9 = .ok (.ireturn, 1) ∧ 9 + 1 = 10 := by decide +kernel
theorem d_M_show_10 : decode c_M_show 10 = .ok (.aload_n 0, 1) ∧ 10 + 1 = 11 := by decide +kernel
theorem d_M_show_11 : decode c_M_show 11 = .ok (.aload_n 0, 1) ∧ 11 + 1 = 12 := by decide +kernel
theorem d_M_show_12 : decode c_M_show 12 = .ok (.getfield 34, 3) ∧ 12 + 3 = 15 := by decide +kernel
theorem d_M_show_15 : decode c_M_show 15 = .ok (.iload_n 1, 1) ∧ 15 + 1 = 16 := by decide +kernel
theorem d_M_show_16 : decode c_M_show 16 = .ok (.iaload, 1) ∧ 16 + 1 = 17 := by decide +kernel
theorem d_M_show_17 : decode c_M_show 17 = .ok (.iconst 2, 1) ∧ 17 + 1 = 18 := by decide +kernel
theorem d_M_show_18 : decode c_M_show 18 = .ok (.if_icmp .ne 7, 3) ∧ 18 + 3 = 21 ∧ ((18 : Nat) : Int) + 7 = ((25 : Nat) : Int) := by decide +kernel
theorem d_M_show_21 : decode c_M_show 21 = .ok (.iconst 5, 1) ∧ 21 + 1 = 22 := by decide +kernel
theorem d_M_show_22 : decode c_M_show 22 = .ok (.goto 4, 3) ∧ (22 : Int) + 4 = (26 : Int) := by decide +kernel
theorem d_M_show_25 : decode c_M_show 25 = .ok (.iconst 4, 1) ∧ 25 + 1 = 26 := by decide +kernel
theorem d_M_show_26 : decode c_M_show 26 = .ok (.invokevirtual 462, 3) ∧ 26 + 3 = 29 := by decide +kernel
theorem d_M_show_29 : decode c_M_show 29 = .ok (.aload_n 0, 1) ∧ 29 + 1 = 30 := by decide +kernel
theorem d_M_show_30 : decode c_M_show 30 = .ok (.getfield 34, 3) ∧ 30 + 3 = 33 := by decide +kernel
theorem d_M_show_33 : decode c_M_show 33 = .ok (.iload_n 1, 1) ∧ 33 + 1 = 34 := by decide +kernel
theorem d_M_show_34 : decode c_M_show 34 = .ok (.iaload, 1) ∧ 34 + 1 = 35 := by decide +kernel
theorem d_M_show_35 : decode c_M_show 35 = .ok (.iconst 2, 1) ∧ 35 + 1 = 36 := by decide +kernel
theorem d_M_show_36 : decode c_M_show 36 = .ok (.if_icmp .ne 8, 3) ∧ 36 + 3 = 39 ∧ ((36 : Nat) : Int) + 8 = ((44 : Nat) : Int) := by decide +kernel
theorem d_M_show_39 : decode c_M_show 39 = .ok (.bipush 60, 2) ∧ 39 + 2 = 41 := by decide +kernel
theorem d_M_show_41 : decode c_M_show 41 = .ok (.goto 4, 3) ∧ (41 : Int) + 4 = (45 : Int) := by decide +kernel
theorem d_M_show_44 : decode c_M_show 44 = .ok (.iload_n 1, 1) ∧ 44 + 1 = 45 := by decide +kernel
theorem d_M_show_45 : decode c_M_show 45 = .ok (.ireturn, 1) ∧ 45 + 1 = 46 := by decide +kernel
set_option maxHeartbeats 4000000 in
theorem m_M_show {Z : Sy} {σ : St} {res : (Int32 × St)} {x1 : Int32} (hf : M_show x1 σ = some res) : Ct YM Z y_M_show c_M_show 2 (some .int) 3 [.ref (ya Z 0), .int x1] σ (some (.int res.1)) res.2 := by
  refine Ct.of pn_M (Nat.le_of_ble_eq_true rfl) rfl (fun Γ h => ?_)
  have h : IsG YM Z R_M c_M_show 2 3 (some .int) (some (.int res.1)) res.2 Γ := h
  unfold M_show at hf
  refine r_aload_n h d_M_show_0 0 rfl rfl ?_
  refine r_iload_n h d_M_show_1 1 rfl rfl ?_
  obtain ⟨r2, e2, hf⟩ := q_bind hf
  refine r_callV (As := [.int x1]) (rest := []) h sh_YM_0 lk_M_284 vk_M_284 d_M_show_2 (by decide) rfl rfl (Nat.le_of_ble_eq_true rfl) (m_M_noPack e2) ?_
  refine r_bif_eq h d_M_show_5 hf (fun hf => ?_) (fun hf => ?_)
  · refine r_aload_n h d_M_show_10 0 rfl rfl ?_
    refine r_aload_n h d_M_show_11 0 rfl rfl ?_
    refine r_getR h fd_YM_0_14 cf_M fl_M_34 d_M_show_12 ?_
    refine r_iload_n h d_M_show_15 1 rfl rfl ?_
    refine r_iald h sh_YM_9 d_M_show_16 hf (fun hf => ?_)
    refine r_iconst h d_M_show_17 ki_2 ?_
    refine r_icmp_ne h d_M_show_18 hf (fun hf => ?_) (fun hf => ?_)
    · refine r_iconst h d_M_show_25 ki_4 ?_
      obtain ⟨q26, e26, hf⟩ := q_bind hf
      refine r_callV (As := [.int (4 : Int32)]) (rest := []) h sh_YM_0 lk_M_462 vk_M_462 d_M_show_26 (by decide) rfl rfl (Nat.le_of_ble_eq_true rfl) (m_M_traced e26) ?_
      refine r_aload_n h d_M_show_29 0 rfl rfl ?_
      refine r_getR h fd_YM_0_14 cf_M fl_M_34 d_M_show_30 ?_
      refine r_iload_n h d_M_show_33 1 rfl rfl ?_
      refine r_iald h sh_YM_9 d_M_show_34 hf (fun hf => ?_)
      refine r_iconst h d_M_show_35 ki_2 ?_
      refine r_icmp_ne h d_M_show_36 hf (fun hf => ?_) (fun hf => ?_)
      · refine r_iload_n h d_M_show_44 1 rfl rfl ?_
        exact r_ireturn h d_M_show_45.1 (q_p1 hf) (q_p2 hf)
      · refine r_bipush h d_M_show_39 kb_60 ?_
        refine r_goto h d_M_show_41 ?_
        exact r_ireturn h d_M_show_45.1 (q_p1 hf) (q_p2 hf)
    · refine r_iconst h d_M_show_21 ki_5 ?_
      refine r_goto h d_M_show_22 ?_
      obtain ⟨q26, e26, hf⟩ := q_bind hf
      refine r_callV (As := [.int (5 : Int32)]) (rest := []) h sh_YM_0 lk_M_462 vk_M_462 d_M_show_26 (by decide) rfl rfl (Nat.le_of_ble_eq_true rfl) (m_M_traced e26) ?_
      refine r_aload_n h d_M_show_29 0 rfl rfl ?_
      refine r_getR h fd_YM_0_14 cf_M fl_M_34 d_M_show_30 ?_
      refine r_iload_n h d_M_show_33 1 rfl rfl ?_
      refine r_iald h sh_YM_9 d_M_show_34 hf (fun hf => ?_)
      refine r_iconst h d_M_show_35 ki_2 ?_
      refine r_icmp_ne h d_M_show_36 hf (fun hf => ?_) (fun hf => ?_)
      · refine r_iload_n h d_M_show_44 1 rfl rfl ?_
        exact r_ireturn h d_M_show_45.1 (q_p1 hf) (q_p2 hf)
      · refine r_bipush h d_M_show_39 kb_60 ?_
        refine r_goto h d_M_show_41 ?_
        exact r_ireturn h d_M_show_45.1 (q_p1 hf) (q_p2 hf)
  · refine r_iconst h d_M_show_8 ki_m1 ?_
    exact r_ireturn h d_M_show_9.1 (q_p1 hf) (q_p2 hf)

theorem d_M_taken_0 : decode c_M_taken 0 = .ok (.iload_n 1, 1) ∧ 0 + 1 = 1 := by decide +kernel
theorem d_M_taken_1 : decode c_M_taken 1 = .ok (.i2l, 1) ∧ 1 + 1 = 2 := by decide +kernel
theorem d_M_taken_2 : decode c_M_taken 2 = .ok (.lconst 0, 1) ∧ 2 + 1 = 3 := by decide +kernel
theorem d_M_taken_3 : decode c_M_taken 3 = .ok (.lconst 1, 1) ∧ 3 + 1 = 4 := by decide +kernel
theorem d_M_taken_4 : decode c_M_taken 4 = .ok (.invokestatic 201, 3) ∧ 4 + 3 = 7 := by decide +kernel
theorem d_M_taken_7 : decode c_M_taken 7 = .ok (.ifCond .eq 15, 3) ∧ 7 + 3 = 10 ∧ ((7 : Nat) : Int) + 15 = ((22 : Nat) : Int) := by decide +kernel
theorem d_M_taken_10 : decode c_M_taken 10 = .ok (.iload_n 3, 1) ∧ 10 + 1 = 11 := by decide +kernel
theorem d_M_taken_11 : decode c_M_taken 11 = .ok (.i2l, 1) ∧ 11 + 1 = 12 := by decide +kernel
theorem d_M_taken_12 : decode c_M_taken 12 = .ok (.lconst 0, 1) ∧ 12 + 1 = 13 := by decide +kernel
theorem d_M_taken_13 : decode c_M_taken 13 = .ok (.ldc2_w 266, 3) ∧ 13 + 3 = 16 := by decide +kernel
theorem d_M_taken_16 : decode c_M_taken 16 = .ok (.invokestatic 201, 3) ∧ 16 + 3 = 19 := by decide +kernel
theorem d_M_taken_19 : decode c_M_taken 19 = .ok (.ifCond .ne 10, 3) ∧ 19 + 3 = 22 ∧ ((19 : Nat) : Int) + 10 = ((29 : Nat) : Int) := by decide +kernel
theorem d_M_taken_22 : decode c_M_taken 22 = .ok (.aload_n 0, 1) ∧ 22 + 1 = 23 := by decide +kernel
theorem d_M_taken_23 : decode c_M_taken 23 = .ok (.bipush (-2), 2) ∧ 23 + 2 = 25 := by decide +kernel
theorem d_M_taken_25 : decode c_M_taken 25 = .ok (.invokevirtual 294, 3) ∧ 25 + 3 = 28 := by decide +kernel
theorem d_M_taken_28 : decode c_M_taken 28 = .ok (.ireturn, 1) ∧ 28 + 1 = 29 := by decide +kernel
theorem d_M_taken_29 : decode c_M_taken 29 = .ok (.iload_n 1, 1) ∧ 29 + 1 = 30 := by decide +kernel
theorem d_M_taken_30 : decode c_M_taken 30 = .ok (.ifCond .ne 14, 3) ∧ 30 + 3 = 33 ∧ ((30 : Nat) : Int) + 14 = ((44 : Nat) : Int) := by decide +kernel
theorem d_M_taken_33 : decode c_M_taken 33 = .ok (.aload_n 0, 1) ∧ 33 + 1 = 34 := by decide +kernel
theorem d_M_taken_34 : decode c_M_taken 34 = .ok (.iload_n 2, 1) ∧ 34 + 1 = 35 := by decide +kernel
theorem d_M_taken_35 : decode c_M_taken 35 = .ok (.invokevirtual 284, 3) ∧ 35 + 3 = 38 := by decide +kernel
theorem d_M_taken_38 : decode c_M_taken 38 = .ok (.ifCond .eq 20, 3) ∧ 38 + 3 = 41 ∧ ((38 : Nat) : Int) + 20 = ((58 : Nat) : Int) := by decide +kernel
theorem d_M_taken_41 : decode c_M_taken 41 = .ok (.goto 11, 3) ∧ (41 : Int) + 11 = (52 : Int) := by decide +kernel
theorem d_M_taken_44 : decode c_M_taken 44 = .ok (.aload_n 0, 1) ∧ 44 + 1 = 45 := by decide +kernel
theorem d_M_taken_45 : decode c_M_taken 45 = .ok (.iload_n 2, 1) ∧ 45 + 1 = 46 := by decide +kernel
theorem d_M_taken_46 : decode c_M_taken 46 = .ok (.invokevirtual 386, 3) ∧ 46 + 3 = 49 := by decide +kernel
theorem d_M_taken_49 : decode c_M_taken 49 = .ok (.ifCond .eq 9, 3) ∧ 49 + 3 = 52 ∧ ((49 : Nat) : Int) + 9 = ((58 : Nat) : Int) := by decide +kernel
theorem d_M_taken_52 : decode c_M_taken 52 = .ok (.aload_n 0, 1) ∧ 52 + 1 = 53 := by decide +kernel
theorem d_M_taken_53 : decode c_M_taken 53 = .ok (.iconst (-1), 1) ∧ 53 + 1 = 54 := by decide +kernel
theorem d_M_taken_54 : decode c_M_taken 54 = .ok (.invokevirtual 294, 3) ∧ 54 + 3 = 57 := by decide +kernel
theorem d_M_taken_57 : decode c_M_taken 57 = .ok (.ireturn, 1) ∧ 57 + 1 = 58 := by decide +kernel
theorem d_M_taken_58 : decode c_M_taken 58 = .ok (.iload_n 1, 1) ∧ 58 + 1 = 59 := by decide +kernel
theorem d_M_taken_59 : decode c_M_taken 59 = .ok (.ifCond .ne 12, 3) ∧ 59 + 3 = 62 ∧ ((59 : Nat) : Int) + 12 = ((71 : Nat) : Int) := by decide +kernel
theorem d_M_taken_62 : decode c_M_taken 62 = .ok (.aload_n 0, 1) ∧ 62 + 1 = 63 := by decide +kernel
theorem d_M_taken_63 : decode c_M_taken 63 = .ok (.getfield 34, 3) ∧ 63 + 3 = 66 := by decide +kernel
theorem d_M_taken_66 : decode c_M_taken 66 = .ok (.iload_n 2, 1) ∧ 66 + 1 = 67 := by decide +kernel
theorem d_M_taken_67 : decode c_M_taken 67 = .ok (.iaload, 1) ∧ 67 + 1 = 68 := by decide +kernel
theorem d_M_taken_68 : decode c_M_taken 68 = .ok (.goto 9, 3) ∧ (68 : Int) + 9 = (77 : Int) := by decide +kernel
theorem d_M_taken_71 : decode c_M_taken 71 = .ok (.aload_n 0, 1) ∧ 71 + 1 = 72 := by decide +kernel
theorem d_M_taken_72 : decode c_M_taken 72 = .ok (.getfield 104, 3) ∧ 72 + 3 = 75 := by decide +kernel
theorem d_M_taken_75 : decode c_M_taken 75 = .ok (.iload_n 2, 1) ∧ 75 + 1 = 76 := by decide +kernel
theorem d_M_taken_76 : decode c_M_taken 76 = .ok (.iaload, 1) ∧ 76 + 1 = 77 := by decide +kernel
theorem d_M_taken_77 : decode c_M_taken 77 = .ok (.iload_n 3, 1) ∧ 77 + 1 = 78 := by decide +kernel
theorem d_M_taken_78 : decode c_M_taken 78 = .ok (.if_icmp .lt 11, 3) ∧ 78 + 3 = 81 ∧ ((78 : Nat) : Int) + 11 = ((89 : Nat) : Int) := by decide +kernel
theorem d_M_taken_81 : decode c_M_taken 81 = .ok (.aload_n 0, 1) ∧ 81 + 1 = 82 := by decide +kernel
theorem d_M_taken_82 : decode c_M_taken 82 = .ok (.iconst 1, 1) ∧ 82 + 1 = 83 := by decide +kernel
theorem d_M_taken_83 : decode c_M_taken 83 = .ok (.invokevirtual 294, 3) ∧ 83 + 3 = 86 := by decide +kernel
theorem d_M_taken_86 : decode c_M_taken 86 = .ok (.goto 8, 3) ∧ (86 : Int) + 8 = (94 : Int) := by decide +kernel
theorem d_M_taken_89 : decode c_M_taken 89 = .ok (.aload_n 0, 1) ∧ 89 + 1 = 90 := by decide +kernel
theorem d_M_taken_90 : decode c_M_taken 90 = .ok (.iconst 2, 1) ∧ 90 + 1 = 91 := by decide +kernel
theorem d_M_taken_91 : decode c_M_taken 91 = .ok (.invokevirtual 305, 3) ∧ 91 + 3 = 94 := by decide +kernel
theorem d_M_taken_94 : decode c_M_taken 94 = .ok (.ireturn, 1) ∧ 94 + 1 = 95 := by decide +kernel
set_option maxHeartbeats 4000000 in
theorem m_M_taken {Z : Sy} {σ : St} {res : (Int32 × St)} {x1 : Int32} {x2 : Int32} {x3 : Int32} (hf : M_taken x1 x2 x3 σ = some res) : Ct YM Z y_M_taken c_M_taken 4 (some .int) 3 [.ref (ya Z 0), .int x1, .int x2, .int x3] σ (some (.int res.1)) res.2 := by
  refine Ct.of pn_M (Nat.le_of_ble_eq_true rfl) rfl (fun Γ h => ?_)
  have h : IsG YM Z R_M c_M_taken 4 3 (some .int) (some (.int res.1)) res.2 Γ := h
  unfold M_taken at hf
  refine r_iload_n h d_M_taken_0 1 rfl rfl ?_
  refine r_i2l h d_M_taken_1 ?_
  refine r_lconst h d_M_taken_2 kl_0 ?_
  refine r_lconst h d_M_taken_3 kl_1 ?_
  obtain ⟨r4, e4, hf⟩ := q_bind hf
  refine r_callS (As := [.long (Int32.toInt64 x1), .long (0 : Int64), .long (1 : Int64)]) (rest := []) h lk_M_201 sk_M_201 d_M_taken_4 (by decide) rfl rfl (Nat.le_of_ble_eq_true rfl) (m_M_in e4) ?_
  refine r_bif_eq h d_M_taken_7 hf (fun hf => ?_) (fun hf => ?_)
  · refine r_aload_n h d_M_taken_22 0 rfl rfl ?_
    refine r_bipush h d_M_taken_23 kb_m2 ?_
    obtain ⟨q25, e25, hf⟩ := q_bind hf
    refine r_callV (As := [.int (-2 : Int32)]) (rest := []) h sh_YM_0 lk_M_294 vk_M_294 d_M_taken_25 (by decide) rfl rfl (Nat.le_of_ble_eq_true rfl) (m_M_refused e25) ?_
    exact r_ireturn h d_M_taken_28.1 (q_p1 hf) (q_p2 hf)
  · refine r_iload_n h d_M_taken_10 3 rfl rfl ?_
    refine r_i2l h d_M_taken_11 ?_
    refine r_lconst h d_M_taken_12 kl_0 ?_
    refine r_ldc2 h d_M_taken_13 tm_1478 ?_
    obtain ⟨r16, e16, hf⟩ := q_bind hf
    refine r_callS (As := [.long (Int32.toInt64 x3), .long (0 : Int64), .long (2 : Int64)]) (rest := []) h lk_M_201 sk_M_201 d_M_taken_16 (by decide) rfl rfl (Nat.le_of_ble_eq_true rfl) (m_M_in e16) ?_
    refine r_bif_ne h d_M_taken_19 hf (fun hf => ?_) (fun hf => ?_)
    · refine r_iload_n h d_M_taken_29 1 rfl rfl ?_
      refine r_if_ne h d_M_taken_30 hf (fun hf => ?_) (fun hf => ?_)
      · refine r_aload_n h d_M_taken_44 0 rfl rfl ?_
        refine r_iload_n h d_M_taken_45 2 rfl rfl ?_
        obtain ⟨r46, e46, hf⟩ := q_bind hf
        refine r_callV (As := [.int x2]) (rest := []) h sh_YM_0 lk_M_386 vk_M_386 d_M_taken_46 (by decide) rfl rfl (Nat.le_of_ble_eq_true rfl) (m_M_noDebt e46) ?_
        refine r_bif_eq h d_M_taken_49 hf (fun hf => ?_) (fun hf => ?_)
        · refine r_iload_n h d_M_taken_58 1 rfl rfl ?_
          refine r_if_ne h d_M_taken_59 hf (fun hf => ?_) (fun hf => ?_)
          · refine r_aload_n h d_M_taken_71 0 rfl rfl ?_
            refine r_getR h fd_YM_0_42 cf_M fl_M_104 d_M_taken_72 ?_
            refine r_iload_n h d_M_taken_75 2 rfl rfl ?_
            refine r_iald h sh_YM_32 d_M_taken_76 hf (fun hf => ?_)
            refine r_iload_n h d_M_taken_77 3 rfl rfl ?_
            refine r_icmp_lt h d_M_taken_78 hf (fun hf => ?_) (fun hf => ?_)
            · refine r_aload_n h d_M_taken_89 0 rfl rfl ?_
              refine r_iconst h d_M_taken_90 ki_2 ?_
              obtain ⟨q91, e91, hf⟩ := q_bind hf
              refine r_callV (As := [.int (2 : Int32)]) (rest := []) h sh_YM_0 lk_M_305 vk_M_305 d_M_taken_91 (by decide) rfl rfl (Nat.le_of_ble_eq_true rfl) (m_M_failed e91) ?_
              exact r_ireturn h d_M_taken_94.1 (q_p1 hf) (q_p2 hf)
            · refine r_aload_n h d_M_taken_81 0 rfl rfl ?_
              refine r_iconst h d_M_taken_82 ki_1 ?_
              obtain ⟨q83, e83, hf⟩ := q_bind hf
              refine r_callV (As := [.int (1 : Int32)]) (rest := []) h sh_YM_0 lk_M_294 vk_M_294 d_M_taken_83 (by decide) rfl rfl (Nat.le_of_ble_eq_true rfl) (m_M_refused e83) ?_
              refine r_goto h d_M_taken_86 ?_
              exact r_ireturn h d_M_taken_94.1 (q_p1 hf) (q_p2 hf)
          · refine r_aload_n h d_M_taken_62 0 rfl rfl ?_
            refine r_getR h fd_YM_0_14 cf_M fl_M_34 d_M_taken_63 ?_
            refine r_iload_n h d_M_taken_66 2 rfl rfl ?_
            refine r_iald h sh_YM_9 d_M_taken_67 hf (fun hf => ?_)
            refine r_goto h d_M_taken_68 ?_
            refine r_iload_n h d_M_taken_77 3 rfl rfl ?_
            refine r_icmp_lt h d_M_taken_78 hf (fun hf => ?_) (fun hf => ?_)
            · refine r_aload_n h d_M_taken_89 0 rfl rfl ?_
              refine r_iconst h d_M_taken_90 ki_2 ?_
              obtain ⟨q91, e91, hf⟩ := q_bind hf
              refine r_callV (As := [.int (2 : Int32)]) (rest := []) h sh_YM_0 lk_M_305 vk_M_305 d_M_taken_91 (by decide) rfl rfl (Nat.le_of_ble_eq_true rfl) (m_M_failed e91) ?_
              exact r_ireturn h d_M_taken_94.1 (q_p1 hf) (q_p2 hf)
            · refine r_aload_n h d_M_taken_81 0 rfl rfl ?_
              refine r_iconst h d_M_taken_82 ki_1 ?_
              obtain ⟨q83, e83, hf⟩ := q_bind hf
              refine r_callV (As := [.int (1 : Int32)]) (rest := []) h sh_YM_0 lk_M_294 vk_M_294 d_M_taken_83 (by decide) rfl rfl (Nat.le_of_ble_eq_true rfl) (m_M_refused e83) ?_
              refine r_goto h d_M_taken_86 ?_
              exact r_ireturn h d_M_taken_94.1 (q_p1 hf) (q_p2 hf)
        · refine r_aload_n h d_M_taken_52 0 rfl rfl ?_
          refine r_iconst h d_M_taken_53 ki_m1 ?_
          obtain ⟨q54, e54, hf⟩ := q_bind hf
          refine r_callV (As := [.int (-1 : Int32)]) (rest := []) h sh_YM_0 lk_M_294 vk_M_294 d_M_taken_54 (by decide) rfl rfl (Nat.le_of_ble_eq_true rfl) (m_M_refused e54) ?_
          exact r_ireturn h d_M_taken_57.1 (q_p1 hf) (q_p2 hf)
      · refine r_aload_n h d_M_taken_33 0 rfl rfl ?_
        refine r_iload_n h d_M_taken_34 2 rfl rfl ?_
        obtain ⟨r35, e35, hf⟩ := q_bind hf
        refine r_callV (As := [.int x2]) (rest := []) h sh_YM_0 lk_M_284 vk_M_284 d_M_taken_35 (by decide) rfl rfl (Nat.le_of_ble_eq_true rfl) (m_M_noPack e35) ?_
        refine r_bif_eq h d_M_taken_38 hf (fun hf => ?_) (fun hf => ?_)
        · refine r_iload_n h d_M_taken_58 1 rfl rfl ?_
          refine r_if_ne h d_M_taken_59 hf (fun hf => ?_) (fun hf => ?_)
          · refine r_aload_n h d_M_taken_71 0 rfl rfl ?_
            refine r_getR h fd_YM_0_42 cf_M fl_M_104 d_M_taken_72 ?_
            refine r_iload_n h d_M_taken_75 2 rfl rfl ?_
            refine r_iald h sh_YM_32 d_M_taken_76 hf (fun hf => ?_)
            refine r_iload_n h d_M_taken_77 3 rfl rfl ?_
            refine r_icmp_lt h d_M_taken_78 hf (fun hf => ?_) (fun hf => ?_)
            · refine r_aload_n h d_M_taken_89 0 rfl rfl ?_
              refine r_iconst h d_M_taken_90 ki_2 ?_
              obtain ⟨q91, e91, hf⟩ := q_bind hf
              refine r_callV (As := [.int (2 : Int32)]) (rest := []) h sh_YM_0 lk_M_305 vk_M_305 d_M_taken_91 (by decide) rfl rfl (Nat.le_of_ble_eq_true rfl) (m_M_failed e91) ?_
              exact r_ireturn h d_M_taken_94.1 (q_p1 hf) (q_p2 hf)
            · refine r_aload_n h d_M_taken_81 0 rfl rfl ?_
              refine r_iconst h d_M_taken_82 ki_1 ?_
              obtain ⟨q83, e83, hf⟩ := q_bind hf
              refine r_callV (As := [.int (1 : Int32)]) (rest := []) h sh_YM_0 lk_M_294 vk_M_294 d_M_taken_83 (by decide) rfl rfl (Nat.le_of_ble_eq_true rfl) (m_M_refused e83) ?_
              refine r_goto h d_M_taken_86 ?_
              exact r_ireturn h d_M_taken_94.1 (q_p1 hf) (q_p2 hf)
          · refine r_aload_n h d_M_taken_62 0 rfl rfl ?_
            refine r_getR h fd_YM_0_14 cf_M fl_M_34 d_M_taken_63 ?_
            refine r_iload_n h d_M_taken_66 2 rfl rfl ?_
            refine r_iald h sh_YM_9 d_M_taken_67 hf (fun hf => ?_)
            refine r_goto h d_M_taken_68 ?_
            refine r_iload_n h d_M_taken_77 3 rfl rfl ?_
            refine r_icmp_lt h d_M_taken_78 hf (fun hf => ?_) (fun hf => ?_)
            · refine r_aload_n h d_M_taken_89 0 rfl rfl ?_
              refine r_iconst h d_M_taken_90 ki_2 ?_
              obtain ⟨q91, e91, hf⟩ := q_bind hf
              refine r_callV (As := [.int (2 : Int32)]) (rest := []) h sh_YM_0 lk_M_305 vk_M_305 d_M_taken_91 (by decide) rfl rfl (Nat.le_of_ble_eq_true rfl) (m_M_failed e91) ?_
              exact r_ireturn h d_M_taken_94.1 (q_p1 hf) (q_p2 hf)
            · refine r_aload_n h d_M_taken_81 0 rfl rfl ?_
              refine r_iconst h d_M_taken_82 ki_1 ?_
              obtain ⟨q83, e83, hf⟩ := q_bind hf
              refine r_callV (As := [.int (1 : Int32)]) (rest := []) h sh_YM_0 lk_M_294 vk_M_294 d_M_taken_83 (by decide) rfl rfl (Nat.le_of_ble_eq_true rfl) (m_M_refused e83) ?_
              refine r_goto h d_M_taken_86 ?_
              exact r_ireturn h d_M_taken_94.1 (q_p1 hf) (q_p2 hf)
        · refine r_goto h d_M_taken_41 ?_
          refine r_aload_n h d_M_taken_52 0 rfl rfl ?_
          refine r_iconst h d_M_taken_53 ki_m1 ?_
          obtain ⟨q54, e54, hf⟩ := q_bind hf
          refine r_callV (As := [.int (-1 : Int32)]) (rest := []) h sh_YM_0 lk_M_294 vk_M_294 d_M_taken_54 (by decide) rfl rfl (Nat.le_of_ble_eq_true rfl) (m_M_refused e54) ?_
          exact r_ireturn h d_M_taken_57.1 (q_p1 hf) (q_p2 hf)
    · refine r_aload_n h d_M_taken_22 0 rfl rfl ?_
      refine r_bipush h d_M_taken_23 kb_m2 ?_
      obtain ⟨q25, e25, hf⟩ := q_bind hf
      refine r_callV (As := [.int (-2 : Int32)]) (rest := []) h sh_YM_0 lk_M_294 vk_M_294 d_M_taken_25 (by decide) rfl rfl (Nat.le_of_ble_eq_true rfl) (m_M_refused e25) ?_
      exact r_ireturn h d_M_taken_28.1 (q_p1 hf) (q_p2 hf)

theorem d_M_trace_0 : decode c_M_trace 0 = .ok (.aload_n 0, 1) ∧ 0 + 1 = 1 := by decide +kernel
theorem d_M_trace_1 : decode c_M_trace 1 = .ok (.getfield 459, 3) ∧ 1 + 3 = 4 := by decide +kernel
theorem d_M_trace_4 : decode c_M_trace 4 = .ok (.ireturn, 1) ∧ 4 + 1 = 5 := by decide +kernel
set_option maxHeartbeats 4000000 in
theorem m_M_trace {Z : Sy} {σ : St} {res : Int32} (hf : M_trace  σ = some res) : Ct YM Z y_M_trace c_M_trace 1 (some .int) 1 [.ref (ya Z 0)] σ (some (.int res)) σ := by
  refine Ct.of pn_M (Nat.le_of_ble_eq_true rfl) rfl (fun Γ h => ?_)
  have h : IsG YM Z R_M c_M_trace 1 1 (some .int) (some (.int res)) σ Γ := h
  unfold M_trace at hf
  refine r_aload_n h d_M_trace_0 0 rfl rfl ?_
  refine r_getI h fd_YM_0_78 cf_M fl_M_459 d_M_trace_1 ?_
  exact r_ireturn h d_M_trace_4.1 (Option.some.inj hf) rfl

theorem d_M_fault_0 : decode c_M_fault 0 = .ok (.aload_n 0, 1) ∧ 0 + 1 = 1 := by decide +kernel
theorem d_M_fault_1 : decode c_M_fault 1 = .ok (.getfield 209, 3) ∧ 1 + 3 = 4 := by decide +kernel
theorem d_M_fault_4 : decode c_M_fault 4 = .ok (.ireturn, 1) ∧ 4 + 1 = 5 := by decide +kernel
set_option maxHeartbeats 4000000 in
theorem m_M_fault {Z : Sy} {σ : St} {res : Int32} (hf : M_fault  σ = some res) : Ct YM Z y_M_fault c_M_fault 1 (some .int) 1 [.ref (ya Z 0)] σ (some (.int res)) σ := by
  refine Ct.of pn_M (Nat.le_of_ble_eq_true rfl) rfl (fun Γ h => ?_)
  have h : IsG YM Z R_M c_M_fault 1 1 (some .int) (some (.int res)) σ Γ := h
  unfold M_fault at hf
  refine r_aload_n h d_M_fault_0 0 rfl rfl ?_
  refine r_getI h fd_YM_0_0 cf_M fl_M_209 d_M_fault_1 ?_
  exact r_ireturn h d_M_fault_4.1 (Option.some.inj hf) rfl

theorem d_M_many_0 : decode c_M_many 0 = .ok (.iload_n 1, 1) ∧ 0 + 1 = 1 := by decide +kernel
theorem d_M_many_1 : decode c_M_many 1 = .ok (.tableswitch 105 0 9 #[55, 60, 65, 70, 75, 80, 85, 90, 95, 100], 55) ∧ 1 + 55 = 56 := by decide +kernel
theorem d_M_many_56 : decode c_M_many 56 = .ok (.aload_n 0, 1) ∧ 56 + 1 = 57 := by decide +kernel
theorem d_M_many_57 : decode c_M_many 57 = .ok (.getfield 217, 3) ∧ 57 + 3 = 60 := by decide +kernel
theorem d_M_many_60 : decode c_M_many 60 = .ok (.ireturn, 1) ∧ 60 + 1 = 61 := by decide +kernel
theorem d_M_many_61 : decode c_M_many 61 = .ok (.aload_n 0, 1) ∧ 61 + 1 = 62 := by decide +kernel
theorem d_M_many_62 : decode c_M_many 62 = .ok (.getfield 220, 3) ∧ 62 + 3 = 65 := by decide +kernel
theorem d_M_many_65 : decode c_M_many 65 = .ok (.ireturn, 1) ∧ 65 + 1 = 66 := by decide +kernel
theorem d_M_many_66 : decode c_M_many 66 = .ok (.aload_n 0, 1) ∧ 66 + 1 = 67 := by decide +kernel
theorem d_M_many_67 : decode c_M_many 67 = .ok (.getfield 223, 3) ∧ 67 + 3 = 70 := by decide +kernel
theorem d_M_many_70 : decode c_M_many 70 = .ok (.ireturn, 1) ∧ 70 + 1 = 71 := by decide +kernel
theorem d_M_many_71 : decode c_M_many 71 = .ok (.aload_n 0, 1) ∧ 71 + 1 = 72 := by decide +kernel
theorem d_M_many_72 : decode c_M_many 72 = .ok (.getfield 247, 3) ∧ 72 + 3 = 75 := by decide +kernel
theorem d_M_many_75 : decode c_M_many 75 = .ok (.ireturn, 1) ∧ 75 + 1 = 76 := by decide +kernel
theorem d_M_many_76 : decode c_M_many 76 = .ok (.aload_n 0, 1) ∧ 76 + 1 = 77 := by decide +kernel
theorem d_M_many_77 : decode c_M_many 77 = .ok (.getfield 260, 3) ∧ 77 + 3 = 80 := by decide +kernel
theorem d_M_many_80 : decode c_M_many 80 = .ok (.ireturn, 1) ∧ 80 + 1 = 81 := by decide +kernel
theorem d_M_many_81 : decode c_M_many 81 = .ok (.aload_n 0, 1) ∧ 81 + 1 = 82 := by decide +kernel
theorem d_M_many_82 : decode c_M_many 82 = .ok (.getfield 268, 3) ∧ 82 + 3 = 85 := by decide +kernel
theorem d_M_many_85 : decode c_M_many 85 = .ok (.ireturn, 1) ∧ 85 + 1 = 86 := by decide +kernel
theorem d_M_many_86 : decode c_M_many 86 = .ok (.aload_n 0, 1) ∧ 86 + 1 = 87 := by decide +kernel
theorem d_M_many_87 : decode c_M_many 87 = .ok (.getfield 345, 3) ∧ 87 + 3 = 90 := by decide +kernel
theorem d_M_many_90 : decode c_M_many 90 = .ok (.ireturn, 1) ∧ 90 + 1 = 91 := by decide +kernel
theorem d_M_many_91 : decode c_M_many 91 = .ok (.aload_n 0, 1) ∧ 91 + 1 = 92 := by decide +kernel
theorem d_M_many_92 : decode c_M_many 92 = .ok (.getfield 380, 3) ∧ 92 + 3 = 95 := by decide +kernel
theorem d_M_many_95 : decode c_M_many 95 = .ok (.ireturn, 1) ∧ 95 + 1 = 96 := by decide +kernel
theorem d_M_many_96 : decode c_M_many 96 = .ok (.aload_n 0, 1) ∧ 96 + 1 = 97 := by decide +kernel
theorem d_M_many_97 : decode c_M_many 97 = .ok (.getfield 428, 3) ∧ 97 + 3 = 100 := by decide +kernel
theorem d_M_many_100 : decode c_M_many 100 = .ok (.ireturn, 1) ∧ 100 + 1 = 101 := by decide +kernel
theorem d_M_many_101 : decode c_M_many 101 = .ok (.aload_n 0, 1) ∧ 101 + 1 = 102 := by decide +kernel
theorem d_M_many_102 : decode c_M_many 102 = .ok (.getfield 443, 3) ∧ 102 + 3 = 105 := by decide +kernel
theorem d_M_many_105 : decode c_M_many 105 = .ok (.ireturn, 1) ∧ 105 + 1 = 106 := by decide +kernel
theorem d_M_many_106 : decode c_M_many 106 = .ok (.bipush (-2), 2) ∧ 106 + 2 = 108 := by decide +kernel
theorem d_M_many_108 : decode c_M_many 108 = .ok (.ireturn, 1) ∧ 108 + 1 = 109 := by decide +kernel
set_option maxHeartbeats 4000000 in
theorem m_M_many {Z : Sy} {σ : St} {res : Int32} {x1 : Int32} (hf : M_many x1 σ = some res) : Ct YM Z y_M_many c_M_many 2 (some .int) 1 [.ref (ya Z 0), .int x1] σ (some (.int res)) σ := by
  refine Ct.of pn_M (Nat.le_of_ble_eq_true rfl) rfl (fun Γ h => ?_)
  have h : IsG YM Z R_M c_M_many 2 1 (some .int) (some (.int res)) σ Γ := h
  unfold M_many at hf
  refine r_iload_n h d_M_many_0 1 rfl rfl ?_
  refine q_case hf (fun hq hf => ?_) (fun hn0 hf => ?_)
  · refine r_tab (tgt := 56) (off := 55) h (0 : Int32) hq d_M_many_1.1 (by decide) ?_
    refine r_aload_n h d_M_many_56 0 rfl rfl ?_
    refine r_getI h fd_YM_0_1 cf_M fl_M_217 d_M_many_57 ?_
    exact r_ireturn h d_M_many_60.1 (Option.some.inj hf) rfl
  ·
    refine q_case hf (fun hq hf => ?_) (fun hn1 hf => ?_)
    · refine r_tab (tgt := 61) (off := 60) h (1 : Int32) hq d_M_many_1.1 (by decide) ?_
      refine r_aload_n h d_M_many_61 0 rfl rfl ?_
      refine r_getI h fd_YM_0_2 cf_M fl_M_220 d_M_many_62 ?_
      exact r_ireturn h d_M_many_65.1 (Option.some.inj hf) rfl
    ·
      refine q_case hf (fun hq hf => ?_) (fun hn2 hf => ?_)
      · refine r_tab (tgt := 66) (off := 65) h (2 : Int32) hq d_M_many_1.1 (by decide) ?_
        refine r_aload_n h d_M_many_66 0 rfl rfl ?_
        refine r_getI h fd_YM_0_3 cf_M fl_M_223 d_M_many_67 ?_
        exact r_ireturn h d_M_many_70.1 (Option.some.inj hf) rfl
      ·
        refine q_case hf (fun hq hf => ?_) (fun hn3 hf => ?_)
        · refine r_tab (tgt := 71) (off := 70) h (3 : Int32) hq d_M_many_1.1 (by decide) ?_
          refine r_aload_n h d_M_many_71 0 rfl rfl ?_
          refine r_getI h fd_YM_0_8 cf_M fl_M_247 d_M_many_72 ?_
          exact r_ireturn h d_M_many_75.1 (Option.some.inj hf) rfl
        ·
          refine q_case hf (fun hq hf => ?_) (fun hn4 hf => ?_)
          · refine r_tab (tgt := 76) (off := 75) h (4 : Int32) hq d_M_many_1.1 (by decide) ?_
            refine r_aload_n h d_M_many_76 0 rfl rfl ?_
            refine r_getI h fd_YM_0_13 cf_M fl_M_260 d_M_many_77 ?_
            exact r_ireturn h d_M_many_80.1 (Option.some.inj hf) rfl
          ·
            refine q_case hf (fun hq hf => ?_) (fun hn5 hf => ?_)
            · refine r_tab (tgt := 81) (off := 80) h (5 : Int32) hq d_M_many_1.1 (by decide) ?_
              refine r_aload_n h d_M_many_81 0 rfl rfl ?_
              refine r_getI h fd_YM_0_17 cf_M fl_M_268 d_M_many_82 ?_
              exact r_ireturn h d_M_many_85.1 (Option.some.inj hf) rfl
            ·
              refine q_case hf (fun hq hf => ?_) (fun hn6 hf => ?_)
              · refine r_tab (tgt := 86) (off := 85) h (6 : Int32) hq d_M_many_1.1 (by decide) ?_
                refine r_aload_n h d_M_many_86 0 rfl rfl ?_
                refine r_getI h fd_YM_0_26 cf_M fl_M_345 d_M_many_87 ?_
                exact r_ireturn h d_M_many_90.1 (Option.some.inj hf) rfl
              ·
                refine q_case hf (fun hq hf => ?_) (fun hn7 hf => ?_)
                · refine r_tab (tgt := 91) (off := 90) h (7 : Int32) hq d_M_many_1.1 (by decide) ?_
                  refine r_aload_n h d_M_many_91 0 rfl rfl ?_
                  refine r_getI h fd_YM_0_41 cf_M fl_M_380 d_M_many_92 ?_
                  exact r_ireturn h d_M_many_95.1 (Option.some.inj hf) rfl
                ·
                  refine q_case hf (fun hq hf => ?_) (fun hn8 hf => ?_)
                  · refine r_tab (tgt := 96) (off := 95) h (8 : Int32) hq d_M_many_1.1 (by decide) ?_
                    refine r_aload_n h d_M_many_96 0 rfl rfl ?_
                    refine r_getI h fd_YM_0_60 cf_M fl_M_428 d_M_many_97 ?_
                    exact r_ireturn h d_M_many_100.1 (Option.some.inj hf) rfl
                  ·
                    refine q_case hf (fun hq hf => ?_) (fun hn9 hf => ?_)
                    · refine r_tab (tgt := 101) (off := 100) h (9 : Int32) hq d_M_many_1.1 (by decide) ?_
                      refine r_aload_n h d_M_many_101 0 rfl rfl ?_
                      refine r_getI h fd_YM_0_68 cf_M fl_M_443 d_M_many_102 ?_
                      exact r_ireturn h d_M_many_105.1 (Option.some.inj hf) rfl
                    ·
                      have g0 := q_neI hn0
                      have g1 := q_neI hn1
                      have g2 := q_neI hn2
                      have g3 := q_neI hn3
                      have g4 := q_neI hn4
                      have g5 := q_neI hn5
                      have g6 := q_neI hn6
                      have g7 := q_neI hn7
                      have g8 := q_neI hn8
                      have g9 := q_neI hn9
                      refine r_tabD (tgt := 106) h d_M_many_1.1 (by simp at g0 g1 g2 g3 g4 g5 g6 g7 g8 g9; omega) (by decide) ?_
                      refine r_bipush h d_M_many_106 kb_m2 ?_
                      exact r_ireturn h d_M_many_108.1 (Option.some.inj hf) rfl

