theorem d_M_told_0 : decode c_M_told 0 = .ok (.iload_n 1, 1) ∧ 0 + 1 = 1 := by decide +kernel
theorem d_M_told_1 : decode c_M_told 1 = .ok (.i2l, 1) ∧ 1 + 1 = 2 := by decide +kernel
theorem d_M_told_2 : decode c_M_told 2 = .ok (.lconst 0, 1) ∧ 2 + 1 = 3 := by decide +kernel
theorem d_M_told_3 : decode c_M_told 3 = .ok (.aload_n 0, 1) ∧ 3 + 1 = 4 := by decide +kernel
theorem d_M_told_4 : decode c_M_told 4 = .ok (.getfield 268, 3) ∧ 4 + 3 = 7 := by decide +kernel
theorem d_M_told_7 : decode c_M_told 7 = .ok (.i2l, 1) ∧ 7 + 1 = 8 := by decide +kernel
theorem d_M_told_8 : decode c_M_told 8 = .ok (.lconst 1, 1) ∧ 8 + 1 = 9 := by decide +kernel
theorem d_M_told_9 : decode c_M_told 9 = .ok (.lsub, 1) ∧ 9 + 1 = 10 := by decide +kernel
theorem d_M_told_10 : decode c_M_told 10 = .ok (.invokestatic 201, 3) ∧ 10 + 3 = 13 := by decide +kernel
theorem d_M_told_13 : decode c_M_told 13 = .ok (.ifCond .ne 5, 3) ∧ 13 + 3 = 16 ∧ ((13 : Nat) : Int) + 5 = ((18 : Nat) : Int) := by decide +kernel
theorem d_M_told_16 : decode c_M_told 16 = .ok (.iconst (-1), 1) ∧ 16 + 1 = 17 := by decide +kernel
theorem d_M_told_17 : decode c_M_told 17 = .ok (.ireturn, 1) ∧ 17 + 1 = 18 := by decide +kernel
theorem d_M_told_18 : decode c_M_told 18 = .ok (.iload_n 2, 1) ∧ 18 + 1 = 19 := by decide +kernel
theorem d_M_told_19 : decode c_M_told 19 = .ok (.tableswitch 79 0 5 #[37, 44, 51, 58, 65, 72], 37) ∧ 19 + 37 = 56 := by decide +kernel
theorem d_M_told_56 : decode c_M_told 56 = .ok (.aload_n 0, 1) ∧ 56 + 1 = 57 := by decide +kernel
theorem d_M_told_57 : decode c_M_told 57 = .ok (.getfield 43, 3) ∧ 57 + 3 = 60 := by decide +kernel
theorem d_M_told_60 : decode c_M_told 60 = .ok (.iload_n 1, 1) ∧ 60 + 1 = 61 := by decide +kernel
theorem d_M_told_61 : decode c_M_told 61 = .ok (.iaload, 1) ∧ 61 + 1 = 62 := by decide +kernel
theorem d_M_told_62 : decode c_M_told 62 = .ok (.ireturn, 1) ∧ 62 + 1 = 63 := by decide +kernel
theorem d_M_told_63 : decode c_M_told 63 = .ok (.aload_n 0, 1) ∧ 63 + 1 = 64 := by decide +kernel
theorem d_M_told_64 : decode c_M_told 64 = .ok (.getfield 46, 3) ∧ 64 + 3 = 67 := by decide +kernel
theorem d_M_told_67 : decode c_M_told 67 = .ok (.iload_n 1, 1) ∧ 67 + 1 = 68 := by decide +kernel
theorem d_M_told_68 : decode c_M_told 68 = .ok (.iaload, 1) ∧ 68 + 1 = 69 := by decide +kernel
theorem d_M_told_69 : decode c_M_told 69 = .ok (.ireturn, 1) ∧ 69 + 1 = 70 := by decide +kernel
theorem d_M_told_70 : decode c_M_told 70 = .ok (.aload_n 0, 1) ∧ 70 + 1 = 71 := by decide +kernel
theorem d_M_told_71 : decode c_M_told 71 = .ok (.getfield 49, 3) ∧ 71 + 3 = 74 := by decide +kernel
theorem d_M_told_74 : decode c_M_told 74 = .ok (.iload_n 1, 1) ∧ 74 + 1 = 75 := by decide +kernel
theorem d_M_told_75 : decode c_M_told 75 = .ok (.iaload, 1) ∧ 75 + 1 = 76 := by decide +kernel
theorem d_M_told_76 : decode c_M_told 76 = .ok (.ireturn, 1) ∧ 76 + 1 = 77 := by decide +kernel
theorem d_M_told_77 : decode c_M_told 77 = .ok (.aload_n 0, 1) ∧ 77 + 1 = 78 := by decide +kernel
theorem d_M_told_78 : decode c_M_told 78 = .ok (.getfield 52, 3) ∧ 78 + 3 = 81 := by decide +kernel
theorem d_M_told_81 : decode c_M_told 81 = .ok (.iload_n 1, 1) ∧ 81 + 1 = 82 := by decide +kernel
theorem d_M_told_82 : decode c_M_told 82 = .ok (.iaload, 1) ∧ 82 + 1 = 83 := by decide +kernel
theorem d_M_told_83 : decode c_M_told 83 = .ok (.ireturn, 1) ∧ 83 + 1 = 84 := by decide +kernel
theorem d_M_told_84 : decode c_M_told 84 = .ok (.aload_n 0, 1) ∧ 84 + 1 = 85 := by decide +kernel
theorem d_M_told_85 : decode c_M_told 85 = .ok (.getfield 55, 3) ∧ 85 + 3 = 88 := by decide +kernel
theorem d_M_told_88 : decode c_M_told 88 = .ok (.iload_n 1, 1) ∧ 88 + 1 = 89 := by decide +kernel
theorem d_M_told_89 : decode c_M_told 89 = .ok (.iaload, 1) ∧ 89 + 1 = 90 := by decide +kernel
theorem d_M_told_90 : decode c_M_told 90 = .ok (.ireturn, 1) ∧ 90 + 1 = 91 := by decide +kernel
theorem d_M_told_91 : decode c_M_told 91 = .ok (.aload_n 0, 1) ∧ 91 + 1 = 92 := by decide +kernel
theorem d_M_told_92 : decode c_M_told 92 = .ok (.getfield 58, 3) ∧ 92 + 3 = 95 := by decide +kernel
theorem d_M_told_95 : decode c_M_told 95 = .ok (.iload_n 1, 1) ∧ 95 + 1 = 96 := by decide +kernel
theorem d_M_told_96 : decode c_M_told 96 = .ok (.iaload, 1) ∧ 96 + 1 = 97 := by decide +kernel
theorem d_M_told_97 : decode c_M_told 97 = .ok (.ireturn, 1) ∧ 97 + 1 = 98 := by decide +kernel
theorem d_M_told_98 : decode c_M_told 98 = .ok (.bipush (-2), 2) ∧ 98 + 2 = 100 := by decide +kernel
theorem d_M_told_100 : decode c_M_told 100 = .ok (.ireturn, 1) ∧ 100 + 1 = 101 := by decide +kernel
set_option maxHeartbeats 4000000 in
theorem m_M_told {Z : Sy} {σ : St} {res : Int32} {x1 : Int32} {x2 : Int32} (hf : M_told x1 x2 σ = some res) : Ct YM Z y_M_told c_M_told 3 (some .int) 2 [.ref (ya Z 0), .int x1, .int x2] σ (some (.int res)) σ := by
  refine Ct.of pn_M (Nat.le_of_ble_eq_true rfl) rfl (fun Γ h => ?_)
  have h : IsG YM Z R_M c_M_told 3 2 (some .int) (some (.int res)) σ Γ := h
  unfold M_told at hf
  refine r_iload_n h d_M_told_0 1 rfl rfl ?_
  refine r_i2l h d_M_told_1 ?_
  refine r_lconst h d_M_told_2 kl_0 ?_
  refine r_aload_n h d_M_told_3 0 rfl rfl ?_
  refine r_getI h fd_YM_0_17 cf_M fl_M_268 d_M_told_4 ?_
  refine r_i2l h d_M_told_7 ?_
  refine r_lconst h d_M_told_8 kl_1 ?_
  refine r_lsub h d_M_told_9 ?_
  obtain ⟨r10, e10, hf⟩ := q_bind hf
  refine r_callS (As := [.long (Int32.toInt64 x1), .long (0 : Int64), .long ((Int32.toInt64 (σ.1 0 17)) - (1 : Int64))]) (rest := []) h lk_M_201 sk_M_201 d_M_told_10 (by decide) rfl rfl (Nat.le_of_ble_eq_true rfl) (m_M_in e10) ?_
  refine r_bif_ne h d_M_told_13 hf (fun hf => ?_) (fun hf => ?_)
  · refine r_iload_n h d_M_told_18 2 rfl rfl ?_
    refine q_case hf (fun hq hf => ?_) (fun hn0 hf => ?_)
    · refine r_tab (tgt := 56) (off := 37) h (0 : Int32) hq d_M_told_19.1 (by decide) ?_
      refine r_aload_n h d_M_told_56 0 rfl rfl ?_
      refine r_getR h fd_YM_0_18 cf_M fl_M_43 d_M_told_57 ?_
      refine r_iload_n h d_M_told_60 1 rfl rfl ?_
      refine r_iald h sh_YM_12 d_M_told_61 hf (fun hf => ?_)
      exact r_ireturn h d_M_told_62.1 (Option.some.inj hf) rfl
    ·
      refine q_case hf (fun hq hf => ?_) (fun hn1 hf => ?_)
      · refine r_tab (tgt := 63) (off := 44) h (1 : Int32) hq d_M_told_19.1 (by decide) ?_
        refine r_aload_n h d_M_told_63 0 rfl rfl ?_
        refine r_getR h fd_YM_0_19 cf_M fl_M_46 d_M_told_64 ?_
        refine r_iload_n h d_M_told_67 1 rfl rfl ?_
        refine r_iald h sh_YM_13 d_M_told_68 hf (fun hf => ?_)
        exact r_ireturn h d_M_told_69.1 (Option.some.inj hf) rfl
      ·
        refine q_case hf (fun hq hf => ?_) (fun hn2 hf => ?_)
        · refine r_tab (tgt := 70) (off := 51) h (2 : Int32) hq d_M_told_19.1 (by decide) ?_
          refine r_aload_n h d_M_told_70 0 rfl rfl ?_
          refine r_getR h fd_YM_0_20 cf_M fl_M_49 d_M_told_71 ?_
          refine r_iload_n h d_M_told_74 1 rfl rfl ?_
          refine r_iald h sh_YM_14 d_M_told_75 hf (fun hf => ?_)
          exact r_ireturn h d_M_told_76.1 (Option.some.inj hf) rfl
        ·
          refine q_case hf (fun hq hf => ?_) (fun hn3 hf => ?_)
          · refine r_tab (tgt := 77) (off := 58) h (3 : Int32) hq d_M_told_19.1 (by decide) ?_
            refine r_aload_n h d_M_told_77 0 rfl rfl ?_
            refine r_getR h fd_YM_0_21 cf_M fl_M_52 d_M_told_78 ?_
            refine r_iload_n h d_M_told_81 1 rfl rfl ?_
            refine r_iald h sh_YM_15 d_M_told_82 hf (fun hf => ?_)
            exact r_ireturn h d_M_told_83.1 (Option.some.inj hf) rfl
          ·
            refine q_case hf (fun hq hf => ?_) (fun hn4 hf => ?_)
            · refine r_tab (tgt := 84) (off := 65) h (4 : Int32) hq d_M_told_19.1 (by decide) ?_
              refine r_aload_n h d_M_told_84 0 rfl rfl ?_
              refine r_getR h fd_YM_0_22 cf_M fl_M_55 d_M_told_85 ?_
              refine r_iload_n h d_M_told_88 1 rfl rfl ?_
              refine r_iald h sh_YM_16 d_M_told_89 hf (fun hf => ?_)
              exact r_ireturn h d_M_told_90.1 (Option.some.inj hf) rfl
            ·
              refine q_case hf (fun hq hf => ?_) (fun hn5 hf => ?_)
              · refine r_tab (tgt := 91) (off := 72) h (5 : Int32) hq d_M_told_19.1 (by decide) ?_
                refine r_aload_n h d_M_told_91 0 rfl rfl ?_
                refine r_getR h fd_YM_0_23 cf_M fl_M_58 d_M_told_92 ?_
                refine r_iload_n h d_M_told_95 1 rfl rfl ?_
                refine r_iald h sh_YM_17 d_M_told_96 hf (fun hf => ?_)
                exact r_ireturn h d_M_told_97.1 (Option.some.inj hf) rfl
              ·
                have g0 := q_neI hn0
                have g1 := q_neI hn1
                have g2 := q_neI hn2
                have g3 := q_neI hn3
                have g4 := q_neI hn4
                have g5 := q_neI hn5
                refine r_tabD (tgt := 98) h d_M_told_19.1 (by simp at g0 g1 g2 g3 g4 g5; omega) (by decide) ?_
                refine r_bipush h d_M_told_98 kb_m2 ?_
                exact r_ireturn h d_M_told_100.1 (Option.some.inj hf) rfl
  · refine r_iconst h d_M_told_16 ki_m1 ?_
    exact r_ireturn h d_M_told_17.1 (Option.some.inj hf) rfl

theorem d_M_held_0 : decode c_M_held 0 = .ok (.aload_n 0, 1) ∧ 0 + 1 = 1 := by decide +kernel
theorem d_M_held_1 : decode c_M_held 1 = .ok (.iload_n 1, 1) ∧ 1 + 1 = 2 := by decide +kernel
theorem d_M_held_2 : decode c_M_held 2 = .ok (.invokevirtual 284, 3) ∧ 2 + 3 = 5 := by decide +kernel
theorem d_M_held_5 : decode c_M_held 5 = .ok (.ifCond .eq 5, 3) ∧ 5 + 3 = 8 ∧ ((5 : Nat) : Int) + 5 = ((10 : Nat) : Int) := by decide +kernel
theorem d_M_held_8 : decode c_M_held 8 = .ok (.iconst (-1), 1) ∧ 8 + 1 = 9 := by decide +kernel
theorem d_M_held_9 : decode c_M_held 9 = .ok (.ireturn, 1) ∧ 9 + 1 = 10 := by decide +kernel
theorem d_M_held_10 : decode c_M_held 10 = .ok (.iload_n 2, 1) ∧ 10 + 1 = 11 := by decide +kernel
theorem d_M_held_11 : decode c_M_held 11 = .ok (.invokestatic 273, 3) ∧ 11 + 3 = 14 := by decide +kernel
theorem d_M_held_14 : decode c_M_held 14 = .ok (.ifCond .eq 20, 3) ∧ 14 + 3 = 17 ∧ ((14 : Nat) : Int) + 20 = ((34 : Nat) : Int) := by decide +kernel
theorem d_M_held_17 : decode c_M_held 17 = .ok (.iload_n 3, 1) ∧ 17 + 1 = 18 := by decide +kernel
theorem d_M_held_18 : decode c_M_held 18 = .ok (.invokestatic 205, 3) ∧ 18 + 3 = 21 := by decide +kernel
theorem d_M_held_21 : decode c_M_held 21 = .ok (.ifCond .eq 13, 3) ∧ 21 + 3 = 24 ∧ ((21 : Nat) : Int) + 13 = ((34 : Nat) : Int) := by decide +kernel
theorem d_M_held_24 : decode c_M_held 24 = .ok (.aload_n 0, 1) ∧ 24 + 1 = 25 := by decide +kernel
theorem d_M_held_25 : decode c_M_held 25 = .ok (.iload_n 1, 1) ∧ 25 + 1 = 26 := by decide +kernel
theorem d_M_held_26 : decode c_M_held 26 = .ok (.iload_n 2, 1) ∧ 26 + 1 = 27 := by decide +kernel
theorem d_M_held_27 : decode c_M_held 27 = .ok (.iload_n 3, 1) ∧ 27 + 1 = 28 := by decide +kernel
theorem d_M_held_28 : decode c_M_held 28 = .ok (.invokevirtual 280, 3) ∧ 28 + 3 = 31 := by decide +kernel
theorem d_M_held_31 : decode c_M_held 31 = .ok (.goto 5, 3) ∧ (31 : Int) + 5 = (36 : Int) := by decide +kernel
theorem d_M_held_34 : decode c_M_held 34 = .ok (.bipush (-2), 2) ∧ 34 + 2 = 36 := by decide +kernel
theorem d_M_held_36 : decode c_M_held 36 = .ok (.ireturn, 1) ∧ 36 + 1 = 37 := by decide +kernel
set_option maxHeartbeats 4000000 in
theorem m_M_held {Z : Sy} {σ : St} {res : Int32} {x1 : Int32} {x2 : Int32} {x3 : Int32} (hf : M_held x1 x2 x3 σ = some res) : Ct YM Z y_M_held c_M_held 4 (some .int) 3 [.ref (ya Z 0), .int x1, .int x2, .int x3] σ (some (.int res)) σ := by
  refine Ct.of pn_M (Nat.le_of_ble_eq_true rfl) rfl (fun Γ h => ?_)
  have h : IsG YM Z R_M c_M_held 4 3 (some .int) (some (.int res)) σ Γ := h
  unfold M_held at hf
  refine r_aload_n h d_M_held_0 0 rfl rfl ?_
  refine r_iload_n h d_M_held_1 1 rfl rfl ?_
  obtain ⟨r2, e2, hf⟩ := q_bind hf
  refine r_callV (As := [.int x1]) (rest := []) h sh_YM_0 lk_M_284 vk_M_284 d_M_held_2 (by decide) rfl rfl (Nat.le_of_ble_eq_true rfl) (m_M_noPack e2) ?_
  refine r_bif_eq h d_M_held_5 hf (fun hf => ?_) (fun hf => ?_)
  · refine r_iload_n h d_M_held_10 2 rfl rfl ?_
    obtain ⟨r11, e11, hf⟩ := q_bind hf
    refine r_callS (As := [.int x2]) (rest := []) h lk_M_273 sk_M_273 d_M_held_11 (by decide) rfl rfl (Nat.le_of_ble_eq_true rfl) (m_M_isGood e11) ?_
    refine r_bif_eq h d_M_held_14 hf (fun hf => ?_) (fun hf => ?_)
    · refine r_bipush h d_M_held_34 kb_m2 ?_
      exact r_ireturn h d_M_held_36.1 (Option.some.inj hf) rfl
    · refine r_iload_n h d_M_held_17 3 rfl rfl ?_
      obtain ⟨r18, e18, hf⟩ := q_bind hf
      refine r_callS (As := [.int x3]) (rest := []) h lk_M_205 sk_M_205 d_M_held_18 (by decide) rfl rfl (Nat.le_of_ble_eq_true rfl) (m_M_isDay e18) ?_
      refine r_bif_eq h d_M_held_21 hf (fun hf => ?_) (fun hf => ?_)
      · refine r_bipush h d_M_held_34 kb_m2 ?_
        exact r_ireturn h d_M_held_36.1 (Option.some.inj hf) rfl
      · refine r_aload_n h d_M_held_24 0 rfl rfl ?_
        refine r_iload_n h d_M_held_25 1 rfl rfl ?_
        refine r_iload_n h d_M_held_26 2 rfl rfl ?_
        refine r_iload_n h d_M_held_27 3 rfl rfl ?_
        obtain ⟨r28, e28, hf⟩ := q_bind hf
        refine r_callV (As := [.int x1, .int x2, .int x3]) (rest := []) h sh_YM_0 lk_M_280 vk_M_280 d_M_held_28 (by decide) rfl rfl (Nat.le_of_ble_eq_true rfl) (m_M_heldOf e28) ?_
        refine r_goto h d_M_held_31 ?_
        exact r_ireturn h d_M_held_36.1 (Option.some.inj hf) rfl
  · refine r_iconst h d_M_held_8 ki_m1 ?_
    exact r_ireturn h d_M_held_9.1 (Option.some.inj hf) rfl

theorem d_M_noKnower_0 : decode c_M_noKnower 0 = .ok (.iload_n 1, 1) ∧ 0 + 1 = 1 := by decide +kernel
theorem d_M_noKnower_1 : decode c_M_noKnower 1 = .ok (.iconst (-1), 1) ∧ 1 + 1 = 2 := by decide +kernel
theorem d_M_noKnower_2 : decode c_M_noKnower 2 = .ok (.if_icmp .eq 15, 3) ∧ 2 + 3 = 5 ∧ ((2 : Nat) : Int) + 15 = ((17 : Nat) : Int) := by decide +kernel
theorem d_M_noKnower_5 : decode c_M_noKnower 5 = .ok (.aload_n 0, 1) ∧ 5 + 1 = 6 := by decide +kernel
theorem d_M_noKnower_6 : decode c_M_noKnower 6 = .ok (.iload_n 1, 1) ∧ 6 + 1 = 7 := by decide +kernel
theorem d_M_noKnower_7 : decode c_M_noKnower 7 = .ok (.invokevirtual 237, 3) ∧ 7 + 3 = 10 := by decide +kernel
theorem d_M_noKnower_10 : decode c_M_noKnower 10 = .ok (.ifCond .eq 7, 3) ∧ 10 + 3 = 13 ∧ ((10 : Nat) : Int) + 7 = ((17 : Nat) : Int) := by decide +kernel
theorem d_M_noKnower_13 : decode c_M_noKnower 13 = .ok (.iconst 1, 1) ∧ 13 + 1 = 14 := by decide +kernel
theorem d_M_noKnower_14 : decode c_M_noKnower 14 = .ok (.goto 4, 3) ∧ (14 : Int) + 4 = (18 : Int) := by decide +kernel
theorem d_M_noKnower_17 : decode c_M_noKnower 17 = .ok (.iconst 0, 1) ∧ 17 + 1 = 18 := by decide +kernel
theorem d_M_noKnower_18 : decode c_M_noKnower 18 = .ok (.ireturn, 1) ∧ 18 + 1 = 19 := by decide +kernel
set_option maxHeartbeats 4000000 in
theorem m_M_noKnower {Z : Sy} {σ : St} {res : Bool} {x1 : Int32} (hf : M_noKnower x1 σ = some res) : Ct YM Z y_M_noKnower c_M_noKnower 2 (some .boolean) 3 [.ref (ya Z 0), .int x1] σ (some (.int (bi res))) σ := by
  refine Ct.of pn_M (Nat.le_of_ble_eq_true rfl) rfl (fun Γ h => ?_)
  have h : IsG YM Z R_M c_M_noKnower 2 3 (some .boolean) (some (.int (bi res))) σ Γ := h
  unfold M_noKnower at hf
  refine r_iload_n h d_M_noKnower_0 1 rfl rfl ?_
  refine r_iconst h d_M_noKnower_1 ki_m1 ?_
  refine r_icmp_eq h d_M_noKnower_2 hf (fun hf => ?_) (fun hf => ?_)
  · refine r_iconst h d_M_noKnower_17 ki_0 ?_
    exact r_zreturn h d_M_noKnower_18.1 ((show (0 : Int32) = bi false from rfl).trans (congrArg bi (Option.some.inj hf))) rfl
  · refine r_aload_n h d_M_noKnower_5 0 rfl rfl ?_
    refine r_iload_n h d_M_noKnower_6 1 rfl rfl ?_
    obtain ⟨r7, e7, hf⟩ := q_bind hf
    refine r_callV (As := [.int x1]) (rest := []) h sh_YM_0 lk_M_237 vk_M_237 d_M_noKnower_7 (by decide) rfl rfl (Nat.le_of_ble_eq_true rfl) (m_M_noBand e7) ?_
    refine r_bif_eq h d_M_noKnower_10 hf (fun hf => ?_) (fun hf => ?_)
    · refine r_iconst h d_M_noKnower_17 ki_0 ?_
      exact r_zreturn h d_M_noKnower_18.1 ((show (0 : Int32) = bi false from rfl).trans (congrArg bi (Option.some.inj hf))) rfl
    · refine r_iconst h d_M_noKnower_13 ki_1 ?_
      refine r_goto h d_M_noKnower_14 ?_
      exact r_zreturn h d_M_noKnower_18.1 ((show (1 : Int32) = bi true from rfl).trans (congrArg bi (Option.some.inj hf))) rfl

theorem d_M_nextDay_0 : decode c_M_nextDay 0 = .ok (.bipush (-9), 2) ∧ 0 + 2 = 2 := by decide +kernel
theorem d_M_nextDay_2 : decode c_M_nextDay 2 = .ok (.istore_n 2, 1) ∧ 2 + 1 = 3 := by decide +kernel
theorem d_M_nextDay_3 : decode c_M_nextDay 3 = .ok (.iconst 0, 1) ∧ 3 + 1 = 4 := by decide +kernel
theorem d_M_nextDay_4 : decode c_M_nextDay 4 = .ok (.istore_n 3, 1) ∧ 4 + 1 = 5 := by decide +kernel
theorem d_M_nextDay_5 : decode c_M_nextDay 5 = .ok (.iload_n 3, 1) ∧ 5 + 1 = 6 := by decide +kernel
theorem d_M_nextDay_6 : decode c_M_nextDay 6 = .ok (.aload_n 0, 1) ∧ 6 + 1 = 7 := by decide +kernel
theorem d_M_nextDay_7 : decode c_M_nextDay 7 = .ok (.getfield 268, 3) ∧ 7 + 3 = 10 := by decide +kernel
theorem d_M_nextDay_10 : decode c_M_nextDay 10 = .ok (.if_icmp .ge 44, 3) ∧ 10 + 3 = 13 ∧ ((10 : Nat) : Int) + 44 = ((54 : Nat) : Int) := by decide +kernel
theorem d_M_nextDay_13 : decode c_M_nextDay 13 = .ok (.aload_n 0, 1) ∧ 13 + 1 = 14 := by decide +kernel
theorem d_M_nextDay_14 : decode c_M_nextDay 14 = .ok (.getfield 58, 3) ∧ 14 + 3 = 17 := by decide +kernel
theorem d_M_nextDay_17 : decode c_M_nextDay 17 = .ok (.iload_n 3, 1) ∧ 17 + 1 = 18 := by decide +kernel
theorem d_M_nextDay_18 : decode c_M_nextDay 18 = .ok (.iaload, 1) ∧ 18 + 1 = 19 := by decide +kernel
theorem d_M_nextDay_19 : decode c_M_nextDay 19 = .ok (.iload_n 1, 1) ∧ 19 + 1 = 20 := by decide +kernel
theorem d_M_nextDay_20 : decode c_M_nextDay 20 = .ok (.if_icmp .le 26, 3) ∧ 20 + 3 = 23 ∧ ((20 : Nat) : Int) + 26 = ((46 : Nat) : Int) := by decide +kernel
theorem d_M_nextDay_23 : decode c_M_nextDay 23 = .ok (.iload_n 2, 1) ∧ 23 + 1 = 24 := by decide +kernel
theorem d_M_nextDay_24 : decode c_M_nextDay 24 = .ok (.ifCond .lt 13, 3) ∧ 24 + 3 = 27 ∧ ((24 : Nat) : Int) + 13 = ((37 : Nat) : Int) := by decide +kernel
theorem d_M_nextDay_27 : decode c_M_nextDay 27 = .ok (.aload_n 0, 1) ∧ 27 + 1 = 28 := by decide +kernel
theorem d_M_nextDay_28 : decode c_M_nextDay 28 = .ok (.getfield 58, 3) ∧ 28 + 3 = 31 := by decide +kernel
theorem d_M_nextDay_31 : decode c_M_nextDay 31 = .ok (.iload_n 3, 1) ∧ 31 + 1 = 32 := by decide +kernel
theorem d_M_nextDay_32 : decode c_M_nextDay 32 = .ok (.iaload, 1) ∧ 32 + 1 = 33 := by decide +kernel
theorem d_M_nextDay_33 : decode c_M_nextDay 33 = .ok (.iload_n 2, 1) ∧ 33 + 1 = 34 := by decide +kernel
theorem d_M_nextDay_34 : decode c_M_nextDay 34 = .ok (.if_icmp .ge 12, 3) ∧ 34 + 3 = 37 ∧ ((34 : Nat) : Int) + 12 = ((46 : Nat) : Int) := by decide +kernel
theorem d_M_nextDay_37 : decode c_M_nextDay 37 = .ok (.aload_n 0, 1) ∧ 37 + 1 = 38 := by decide +kernel
theorem d_M_nextDay_38 : decode c_M_nextDay 38 = .ok (.getfield 58, 3) ∧ 38 + 3 = 41 := by decide +kernel
theorem d_M_nextDay_41 : decode c_M_nextDay 41 = .ok (.iload_n 3, 1) ∧ 41 + 1 = 42 := by decide +kernel
theorem d_M_nextDay_42 : decode c_M_nextDay 42 = .ok (.iaload, 1) ∧ 42 + 1 = 43 := by decide +kernel
theorem d_M_nextDay_43 : decode c_M_nextDay 43 = .ok (.goto 4, 3) ∧ (43 : Int) + 4 = (47 : Int) := by decide +kernel
theorem d_M_nextDay_46 : decode c_M_nextDay 46 = .ok (.iload_n 2, 1) ∧ 46 + 1 = 47 := by decide +kernel
theorem d_M_nextDay_47 : decode c_M_nextDay 47 = .ok (.istore_n 2, 1) ∧ 47 + 1 = 48 := by decide +kernel
theorem d_M_nextDay_48 : decode c_M_nextDay 48 = .ok (.iinc 3 1, 3) ∧ 48 + 3 = 51 := by decide +kernel
theorem d_M_nextDay_51 : decode c_M_nextDay 51 = .ok (.goto (-46), 3) ∧ (51 : Int) + (-46) = (5 : Int) := by decide +kernel
theorem d_M_nextDay_54 : decode c_M_nextDay 54 = .ok (.iconst 0, 1) ∧ 54 + 1 = 55 := by decide +kernel
theorem d_M_nextDay_55 : decode c_M_nextDay 55 = .ok (.istore_n 3, 1) ∧ 55 + 1 = 56 := by decide +kernel
theorem d_M_nextDay_56 : decode c_M_nextDay 56 = .ok (.iload_n 3, 1) ∧ 56 + 1 = 57 := by decide +kernel
theorem d_M_nextDay_57 : decode c_M_nextDay 57 = .ok (.aload_n 0, 1) ∧ 57 + 1 = 58 := by decide +kernel
theorem d_M_nextDay_58 : decode c_M_nextDay 58 = .ok (.getfield 247, 3) ∧ 58 + 3 = 61 := by decide +kernel
theorem d_M_nextDay_61 : decode c_M_nextDay 61 = .ok (.if_icmp .ge 44, 3) ∧ 61 + 3 = 64 ∧ ((61 : Nat) : Int) + 44 = ((105 : Nat) : Int) := by decide +kernel
theorem d_M_nextDay_64 : decode c_M_nextDay 64 = .ok (.aload_n 0, 1) ∧ 64 + 1 = 65 := by decide +kernel
theorem d_M_nextDay_65 : decode c_M_nextDay 65 = .ok (.getfield 28, 3) ∧ 65 + 3 = 68 := by decide +kernel
theorem d_M_nextDay_68 : decode c_M_nextDay 68 = .ok (.iload_n 3, 1) ∧ 68 + 1 = 69 := by decide +kernel
theorem d_M_nextDay_69 : decode c_M_nextDay 69 = .ok (.iaload, 1) ∧ 69 + 1 = 70 := by decide +kernel
theorem d_M_nextDay_70 : decode c_M_nextDay 70 = .ok (.iload_n 1, 1) ∧ 70 + 1 = 71 := by decide +kernel
theorem d_M_nextDay_71 : decode c_M_nextDay 71 = .ok (.if_icmp .le 26, 3) ∧ 71 + 3 = 74 ∧ ((71 : Nat) : Int) + 26 = ((97 : Nat) : Int) := by decide +kernel
theorem d_M_nextDay_74 : decode c_M_nextDay 74 = .ok (.iload_n 2, 1) ∧ 74 + 1 = 75 := by decide +kernel
theorem d_M_nextDay_75 : decode c_M_nextDay 75 = .ok (.ifCond .lt 13, 3) ∧ 75 + 3 = 78 ∧ ((75 : Nat) : Int) + 13 = ((88 : Nat) : Int) := by decide +kernel
theorem d_M_nextDay_78 : decode c_M_nextDay 78 = .ok (.aload_n 0, 1) ∧ 78 + 1 = 79 := by decide +kernel
theorem d_M_nextDay_79 : decode c_M_nextDay 79 = .ok (.getfield 28, 3) ∧ 79 + 3 = 82 := by decide +kernel
theorem d_M_nextDay_82 : decode c_M_nextDay 82 = .ok (.iload_n 3, 1) ∧ 82 + 1 = 83 := by decide +kernel
theorem d_M_nextDay_83 : decode c_M_nextDay 83 = .ok (.iaload, 1) ∧ 83 + 1 = 84 := by decide +kernel
theorem d_M_nextDay_84 : decode c_M_nextDay 84 = .ok (.iload_n 2, 1) ∧ 84 + 1 = 85 := by decide +kernel
theorem d_M_nextDay_85 : decode c_M_nextDay 85 = .ok (.if_icmp .ge 12, 3) ∧ 85 + 3 = 88 ∧ ((85 : Nat) : Int) + 12 = ((97 : Nat) : Int) := by decide +kernel
theorem d_M_nextDay_88 : decode c_M_nextDay 88 = .ok (.aload_n 0, 1) ∧ 88 + 1 = 89 := by decide +kernel
theorem d_M_nextDay_89 : decode c_M_nextDay 89 = .ok (.getfield 28, 3) ∧ 89 + 3 = 92 := by decide +kernel
theorem d_M_nextDay_92 : decode c_M_nextDay 92 = .ok (.iload_n 3, 1) ∧ 92 + 1 = 93 := by decide +kernel
theorem d_M_nextDay_93 : decode c_M_nextDay 93 = .ok (.iaload, 1) ∧ 93 + 1 = 94 := by decide +kernel
theorem d_M_nextDay_94 : decode c_M_nextDay 94 = .ok (.goto 4, 3) ∧ (94 : Int) + 4 = (98 : Int) := by decide +kernel
theorem d_M_nextDay_97 : decode c_M_nextDay 97 = .ok (.iload_n 2, 1) ∧ 97 + 1 = 98 := by decide +kernel
theorem d_M_nextDay_98 : decode c_M_nextDay 98 = .ok (.istore_n 2, 1) ∧ 98 + 1 = 99 := by decide +kernel
theorem d_M_nextDay_99 : decode c_M_nextDay 99 = .ok (.iinc 3 1, 3) ∧ 99 + 3 = 102 := by decide +kernel
theorem d_M_nextDay_102 : decode c_M_nextDay 102 = .ok (.goto (-46), 3) ∧ (102 : Int) + (-46) = (56 : Int) := by decide +kernel
theorem d_M_nextDay_105 : decode c_M_nextDay 105 = .ok (.iload_n 2, 1) ∧ 105 + 1 = 106 := by decide +kernel
theorem d_M_nextDay_106 : decode c_M_nextDay 106 = .ok (.ireturn, 1) ∧ 106 + 1 = 107 := by decide +kernel
set_option maxHeartbeats 4000000 in
theorem w_M_nextDay_L56 {Z : Sy} {Γ : Nat → List (Nat × Value) → List Value → St → Prop} {res : Int32} {x1 : Int32} {σ : St} (h : IsG YM Z R_M c_M_nextDay 4 1 (some .int) (some (.int res)) σ Γ) : ∀ (n : Nat) (x2 : Int32) (x3 : Int32), M_nextDay_L56 x1 σ n x2 x3 = some res → Γ 56 [(0, .ref (ya Z 0)), (1, .int x1), (2, .int x2), (3, .int x3)] [] σ := by
  intro n
  induction n with
  | zero => intro x2 x3 hf; exact absurd hf (by simp [M_nextDay_L56])
  | succ n ih =>
    intro x2 x3 hf
    rw [M_nextDay_L56] at hf
    refine r_iload_n h d_M_nextDay_56 3 rfl rfl ?_
    refine r_aload_n h d_M_nextDay_57 0 rfl rfl ?_
    refine r_getI h fd_YM_0_8 cf_M fl_M_247 d_M_nextDay_58 ?_
    refine r_icmp_ge h d_M_nextDay_61 hf (fun hf => ?_) (fun hf => ?_)
    · refine r_iload_n h d_M_nextDay_105 2 rfl rfl ?_
      exact r_ireturn h d_M_nextDay_106.1 (Option.some.inj hf) rfl
    · refine r_aload_n h d_M_nextDay_64 0 rfl rfl ?_
      refine r_getR h fd_YM_0_11 cf_M fl_M_28 d_M_nextDay_65 ?_
      refine r_iload_n h d_M_nextDay_68 3 rfl rfl ?_
      refine r_iald h sh_YM_7 d_M_nextDay_69 hf (fun hf => ?_)
      refine r_iload_n h d_M_nextDay_70 1 rfl rfl ?_
      refine r_icmp_le h d_M_nextDay_71 hf (fun hf => ?_) (fun hf => ?_)
      · refine r_iload_n h d_M_nextDay_97 2 rfl rfl ?_
        refine r_istore_n (ls' := [(2, .int x2), (0, .ref (ya Z 0)), (1, .int x1), (3, .int x3)]) h d_M_nextDay_98 rfl (by decide) rfl ?_
        refine r_iinc (ls' := [(3, .int (x3 + (1 : Int32))), (2, .int x2), (0, .ref (ya Z 0)), (1, .int x1)]) h d_M_nextDay_99 3 rfl ki_1 (by decide) rfl ?_
        refine r_goto h d_M_nextDay_102 ?_
        refine r_sub h [2, 3, 1, 0] rfl ?_
        exact ih _ _ hf
      · refine r_iload_n h d_M_nextDay_74 2 rfl rfl ?_
        refine r_if_lt h d_M_nextDay_75 hf (fun hf => ?_) (fun hf => ?_)
        · refine r_aload_n h d_M_nextDay_88 0 rfl rfl ?_
          refine r_getR h fd_YM_0_11 cf_M fl_M_28 d_M_nextDay_89 ?_
          refine r_iload_n h d_M_nextDay_92 3 rfl rfl ?_
          refine r_iald h sh_YM_7 d_M_nextDay_93 hf (fun hf => ?_)
          refine r_goto h d_M_nextDay_94 ?_
          refine r_istore_n (ls' := [(2, .int (σ.1 7 (Int32.toNatClampNeg x3))), (0, .ref (ya Z 0)), (1, .int x1), (3, .int x3)]) h d_M_nextDay_98 rfl (by decide) rfl ?_
          refine r_iinc (ls' := [(3, .int (x3 + (1 : Int32))), (2, .int (σ.1 7 (Int32.toNatClampNeg x3))), (0, .ref (ya Z 0)), (1, .int x1)]) h d_M_nextDay_99 3 rfl ki_1 (by decide) rfl ?_
          refine r_goto h d_M_nextDay_102 ?_
          refine r_sub h [2, 3, 1, 0] rfl ?_
          exact ih _ _ hf
        · refine r_aload_n h d_M_nextDay_78 0 rfl rfl ?_
          refine r_getR h fd_YM_0_11 cf_M fl_M_28 d_M_nextDay_79 ?_
          refine r_iload_n h d_M_nextDay_82 3 rfl rfl ?_
          refine r_iald h sh_YM_7 d_M_nextDay_83 hf (fun hf => ?_)
          refine r_iload_n h d_M_nextDay_84 2 rfl rfl ?_
          refine r_icmp_ge h d_M_nextDay_85 hf (fun hf => ?_) (fun hf => ?_)
          · refine r_iload_n h d_M_nextDay_97 2 rfl rfl ?_
            refine r_istore_n (ls' := [(2, .int x2), (0, .ref (ya Z 0)), (1, .int x1), (3, .int x3)]) h d_M_nextDay_98 rfl (by decide) rfl ?_
            refine r_iinc (ls' := [(3, .int (x3 + (1 : Int32))), (2, .int x2), (0, .ref (ya Z 0)), (1, .int x1)]) h d_M_nextDay_99 3 rfl ki_1 (by decide) rfl ?_
            refine r_goto h d_M_nextDay_102 ?_
            refine r_sub h [2, 3, 1, 0] rfl ?_
            exact ih _ _ hf
          · refine r_aload_n h d_M_nextDay_88 0 rfl rfl ?_
            refine r_getR h fd_YM_0_11 cf_M fl_M_28 d_M_nextDay_89 ?_
            refine r_iload_n h d_M_nextDay_92 3 rfl rfl ?_
            refine r_iald h sh_YM_7 d_M_nextDay_93 hf (fun hf => ?_)
            refine r_goto h d_M_nextDay_94 ?_
            refine r_istore_n (ls' := [(2, .int (σ.1 7 (Int32.toNatClampNeg x3))), (0, .ref (ya Z 0)), (1, .int x1), (3, .int x3)]) h d_M_nextDay_98 rfl (by decide) rfl ?_
            refine r_iinc (ls' := [(3, .int (x3 + (1 : Int32))), (2, .int (σ.1 7 (Int32.toNatClampNeg x3))), (0, .ref (ya Z 0)), (1, .int x1)]) h d_M_nextDay_99 3 rfl ki_1 (by decide) rfl ?_
            refine r_goto h d_M_nextDay_102 ?_
            refine r_sub h [2, 3, 1, 0] rfl ?_
            exact ih _ _ hf

set_option maxHeartbeats 4000000 in
theorem w_M_nextDay_L5 {Z : Sy} {Γ : Nat → List (Nat × Value) → List Value → St → Prop} {res : Int32} {x1 : Int32} {σ : St} (h : IsG YM Z R_M c_M_nextDay 4 1 (some .int) (some (.int res)) σ Γ) : ∀ (n : Nat) (x2 : Int32) (x3 : Int32), M_nextDay_L5 x1 σ n x2 x3 = some res → Γ 5 [(0, .ref (ya Z 0)), (1, .int x1), (2, .int x2), (3, .int x3)] [] σ := by
  intro n
  induction n with
  | zero => intro x2 x3 hf; exact absurd hf (by simp [M_nextDay_L5])
  | succ n ih =>
    intro x2 x3 hf
    rw [M_nextDay_L5] at hf
    refine r_iload_n h d_M_nextDay_5 3 rfl rfl ?_
    refine r_aload_n h d_M_nextDay_6 0 rfl rfl ?_
    refine r_getI h fd_YM_0_17 cf_M fl_M_268 d_M_nextDay_7 ?_
    refine r_icmp_ge h d_M_nextDay_10 hf (fun hf => ?_) (fun hf => ?_)
    · refine r_iconst h d_M_nextDay_54 ki_0 ?_
      refine r_istore_n (ls' := [(3, .int (0 : Int32)), (0, .ref (ya Z 0)), (1, .int x1), (2, .int x2)]) h d_M_nextDay_55 rfl (by decide) rfl ?_
      refine r_sub h [1, 2, 3, 0] rfl ?_
      exact w_M_nextDay_L56 h _ _ _ hf
    · refine r_aload_n h d_M_nextDay_13 0 rfl rfl ?_
      refine r_getR h fd_YM_0_23 cf_M fl_M_58 d_M_nextDay_14 ?_
      refine r_iload_n h d_M_nextDay_17 3 rfl rfl ?_
      refine r_iald h sh_YM_17 d_M_nextDay_18 hf (fun hf => ?_)
      refine r_iload_n h d_M_nextDay_19 1 rfl rfl ?_
      refine r_icmp_le h d_M_nextDay_20 hf (fun hf => ?_) (fun hf => ?_)
      · refine r_iload_n h d_M_nextDay_46 2 rfl rfl ?_
        refine r_istore_n (ls' := [(2, .int x2), (0, .ref (ya Z 0)), (1, .int x1), (3, .int x3)]) h d_M_nextDay_47 rfl (by decide) rfl ?_
        refine r_iinc (ls' := [(3, .int (x3 + (1 : Int32))), (2, .int x2), (0, .ref (ya Z 0)), (1, .int x1)]) h d_M_nextDay_48 3 rfl ki_1 (by decide) rfl ?_
        refine r_goto h d_M_nextDay_51 ?_
        refine r_sub h [2, 3, 1, 0] rfl ?_
        exact ih _ _ hf
      · refine r_iload_n h d_M_nextDay_23 2 rfl rfl ?_
        refine r_if_lt h d_M_nextDay_24 hf (fun hf => ?_) (fun hf => ?_)
        · refine r_aload_n h d_M_nextDay_37 0 rfl rfl ?_
          refine r_getR h fd_YM_0_23 cf_M fl_M_58 d_M_nextDay_38 ?_
          refine r_iload_n h d_M_nextDay_41 3 rfl rfl ?_
          refine r_iald h sh_YM_17 d_M_nextDay_42 hf (fun hf => ?_)
          refine r_goto h d_M_nextDay_43 ?_
          refine r_istore_n (ls' := [(2, .int (σ.1 17 (Int32.toNatClampNeg x3))), (0, .ref (ya Z 0)), (1, .int x1), (3, .int x3)]) h d_M_nextDay_47 rfl (by decide) rfl ?_
          refine r_iinc (ls' := [(3, .int (x3 + (1 : Int32))), (2, .int (σ.1 17 (Int32.toNatClampNeg x3))), (0, .ref (ya Z 0)), (1, .int x1)]) h d_M_nextDay_48 3 rfl ki_1 (by decide) rfl ?_
          refine r_goto h d_M_nextDay_51 ?_
          refine r_sub h [2, 3, 1, 0] rfl ?_
          exact ih _ _ hf
        · refine r_aload_n h d_M_nextDay_27 0 rfl rfl ?_
          refine r_getR h fd_YM_0_23 cf_M fl_M_58 d_M_nextDay_28 ?_
          refine r_iload_n h d_M_nextDay_31 3 rfl rfl ?_
          refine r_iald h sh_YM_17 d_M_nextDay_32 hf (fun hf => ?_)
          refine r_iload_n h d_M_nextDay_33 2 rfl rfl ?_
          refine r_icmp_ge h d_M_nextDay_34 hf (fun hf => ?_) (fun hf => ?_)
          · refine r_iload_n h d_M_nextDay_46 2 rfl rfl ?_
            refine r_istore_n (ls' := [(2, .int x2), (0, .ref (ya Z 0)), (1, .int x1), (3, .int x3)]) h d_M_nextDay_47 rfl (by decide) rfl ?_
            refine r_iinc (ls' := [(3, .int (x3 + (1 : Int32))), (2, .int x2), (0, .ref (ya Z 0)), (1, .int x1)]) h d_M_nextDay_48 3 rfl ki_1 (by decide) rfl ?_
            refine r_goto h d_M_nextDay_51 ?_
            refine r_sub h [2, 3, 1, 0] rfl ?_
            exact ih _ _ hf
          · refine r_aload_n h d_M_nextDay_37 0 rfl rfl ?_
            refine r_getR h fd_YM_0_23 cf_M fl_M_58 d_M_nextDay_38 ?_
            refine r_iload_n h d_M_nextDay_41 3 rfl rfl ?_
            refine r_iald h sh_YM_17 d_M_nextDay_42 hf (fun hf => ?_)
            refine r_goto h d_M_nextDay_43 ?_
            refine r_istore_n (ls' := [(2, .int (σ.1 17 (Int32.toNatClampNeg x3))), (0, .ref (ya Z 0)), (1, .int x1), (3, .int x3)]) h d_M_nextDay_47 rfl (by decide) rfl ?_
            refine r_iinc (ls' := [(3, .int (x3 + (1 : Int32))), (2, .int (σ.1 17 (Int32.toNatClampNeg x3))), (0, .ref (ya Z 0)), (1, .int x1)]) h d_M_nextDay_48 3 rfl ki_1 (by decide) rfl ?_
            refine r_goto h d_M_nextDay_51 ?_
            refine r_sub h [2, 3, 1, 0] rfl ?_
            exact ih _ _ hf

set_option maxHeartbeats 4000000 in
theorem m_M_nextDay {Z : Sy} {σ : St} {res : Int32} {x1 : Int32} (hf : M_nextDay x1 σ = some res) : Ct YM Z y_M_nextDay c_M_nextDay 4 (some .int) 1 [.ref (ya Z 0), .int x1] σ (some (.int res)) σ := by
  refine Ct.of pn_M (Nat.le_of_ble_eq_true rfl) rfl (fun Γ h => ?_)
  have h : IsG YM Z R_M c_M_nextDay 4 1 (some .int) (some (.int res)) σ Γ := h
  unfold M_nextDay at hf
  refine r_bipush h d_M_nextDay_0 kb_m9 ?_
  refine r_istore_n (ls' := [(2, .int (-9 : Int32)), (0, .ref (ya Z 0)), (1, .int x1)]) h d_M_nextDay_2 rfl (by decide) rfl ?_
  refine r_iconst h d_M_nextDay_3 ki_0 ?_
  refine r_istore_n (ls' := [(3, .int (0 : Int32)), (2, .int (-9 : Int32)), (0, .ref (ya Z 0)), (1, .int x1)]) h d_M_nextDay_4 rfl (by decide) rfl ?_
  refine r_sub h [2, 3, 1, 0] rfl ?_
  exact w_M_nextDay_L5 h _ _ _ hf

theorem d_M_shareOn_0 : decode c_M_shareOn 0 = .ok (.iconst 0, 1) ∧ 0 + 1 = 1 := by decide +kernel
theorem d_M_shareOn_1 : decode c_M_shareOn 1 = .ok (.istore_n 2, 1) ∧ 1 + 1 = 2 := by decide +kernel
theorem d_M_shareOn_2 : decode c_M_shareOn 2 = .ok (.iload_n 2, 1) ∧ 2 + 1 = 3 := by decide +kernel
theorem d_M_shareOn_3 : decode c_M_shareOn 3 = .ok (.aload_n 0, 1) ∧ 3 + 1 = 4 := by decide +kernel
theorem d_M_shareOn_4 : decode c_M_shareOn 4 = .ok (.getfield 268, 3) ∧ 4 + 3 = 7 := by decide +kernel
theorem d_M_shareOn_7 : decode c_M_shareOn 7 = .ok (.if_icmp .ge 41, 3) ∧ 7 + 3 = 10 ∧ ((7 : Nat) : Int) + 41 = ((48 : Nat) : Int) := by decide +kernel
theorem d_M_shareOn_10 : decode c_M_shareOn 10 = .ok (.aload_n 0, 1) ∧ 10 + 1 = 11 := by decide +kernel
theorem d_M_shareOn_11 : decode c_M_shareOn 11 = .ok (.getfield 58, 3) ∧ 11 + 3 = 14 := by decide +kernel
theorem d_M_shareOn_14 : decode c_M_shareOn 14 = .ok (.iload_n 2, 1) ∧ 14 + 1 = 15 := by decide +kernel
theorem d_M_shareOn_15 : decode c_M_shareOn 15 = .ok (.iaload, 1) ∧ 15 + 1 = 16 := by decide +kernel
theorem d_M_shareOn_16 : decode c_M_shareOn 16 = .ok (.iload_n 1, 1) ∧ 16 + 1 = 17 := by decide +kernel
theorem d_M_shareOn_17 : decode c_M_shareOn 17 = .ok (.if_icmp .ne 25, 3) ∧ 17 + 3 = 20 ∧ ((17 : Nat) : Int) + 25 = ((42 : Nat) : Int) := by decide +kernel
theorem d_M_shareOn_20 : decode c_M_shareOn 20 = .ok (.aload_n 0, 1) ∧ 20 + 1 = 21 := by decide +kernel
theorem d_M_shareOn_21 : decode c_M_shareOn 21 = .ok (.getfield 61, 3) ∧ 21 + 3 = 24 := by decide +kernel
theorem d_M_shareOn_24 : decode c_M_shareOn 24 = .ok (.aload_n 0, 1) ∧ 24 + 1 = 25 := by decide +kernel
theorem d_M_shareOn_25 : decode c_M_shareOn 25 = .ok (.getfield 37, 3) ∧ 25 + 3 = 28 := by decide +kernel
theorem d_M_shareOn_28 : decode c_M_shareOn 28 = .ok (.aload_n 0, 1) ∧ 28 + 1 = 29 := by decide +kernel
theorem d_M_shareOn_29 : decode c_M_shareOn 29 = .ok (.getfield 43, 3) ∧ 29 + 3 = 32 := by decide +kernel
theorem d_M_shareOn_32 : decode c_M_shareOn 32 = .ok (.iload_n 2, 1) ∧ 32 + 1 = 33 := by decide +kernel
theorem d_M_shareOn_33 : decode c_M_shareOn 33 = .ok (.iaload, 1) ∧ 33 + 1 = 34 := by decide +kernel
theorem d_M_shareOn_34 : decode c_M_shareOn 34 = .ok (.iaload, 1) ∧ 34 + 1 = 35 := by decide +kernel
theorem d_M_shareOn_35 : decode c_M_shareOn 35 = .ok (.dup2, 1) ∧ 35 + 1 = 36 := by decide +kernel
theorem d_M_shareOn_36 : decode c_M_shareOn 36 = .ok (.laload, 1) ∧ 36 + 1 = 37 := by decide +kernel
theorem d_M_shareOn_37 : decode c_M_shareOn 37 = .ok (.lconst 1, 1) ∧ 37 + 1 = 38 := by decide +kernel
theorem d_M_shareOn_38 : decode c_M_shareOn 38 = .ok (.iload_n 2, 1) ∧ 38 + 1 = 39 := by decide +kernel
theorem d_M_shareOn_39 : decode c_M_shareOn 39 = .ok (.lshl, 1) ∧ 39 + 1 = 40 := by decide +kernel
theorem d_M_shareOn_40 : decode c_M_shareOn 40 = .ok (.lor, 1) ∧ 40 + 1 = 41 := by decide +kernel
theorem d_M_shareOn_41 : decode c_M_shareOn 41 = .ok (.lastore, 1) ∧ 41 + 1 = 42 := by decide +kernel
theorem d_M_shareOn_42 : decode c_M_shareOn 42 = .ok (.iinc 2 1, 3) ∧ 42 + 3 = 45 := by decide +kernel
theorem d_M_shareOn_45 : decode c_M_shareOn 45 = .ok (.goto (-43), 3) ∧ (45 : Int) + (-43) = (2 : Int) := by decide +kernel
theorem d_M_shareOn_48 : decode c_M_shareOn 48 = .ok (.iconst 0, 1) ∧ 48 + 1 = 49 := by decide +kernel
theorem d_M_shareOn_49 : decode c_M_shareOn 49 = .ok (.istore_n 2, 1) ∧ 49 + 1 = 50 := by decide +kernel
theorem d_M_shareOn_50 : decode c_M_shareOn 50 = .ok (.iload_n 2, 1) ∧ 50 + 1 = 51 := by decide +kernel
theorem d_M_shareOn_51 : decode c_M_shareOn 51 = .ok (.aload_n 0, 1) ∧ 51 + 1 = 52 := by decide +kernel
theorem d_M_shareOn_52 : decode c_M_shareOn 52 = .ok (.getfield 217, 3) ∧ 52 + 3 = 55 := by decide +kernel
theorem d_M_shareOn_55 : decode c_M_shareOn 55 = .ok (.if_icmp .ge 137, 3) ∧ 55 + 3 = 58 ∧ ((55 : Nat) : Int) + 137 = ((192 : Nat) : Int) := by decide +kernel
theorem d_M_shareOn_58 : decode c_M_shareOn 58 = .ok (.iload_n 2, 1) ∧ 58 + 1 = 59 := by decide +kernel
theorem d_M_shareOn_59 : decode c_M_shareOn 59 = .ok (.ifCond .ne 13, 3) ∧ 59 + 3 = 62 ∧ ((59 : Nat) : Int) + 13 = ((72 : Nat) : Int) := by decide +kernel
theorem d_M_shareOn_62 : decode c_M_shareOn 62 = .ok (.aload_n 0, 1) ∧ 62 + 1 = 63 := by decide +kernel
theorem d_M_shareOn_63 : decode c_M_shareOn 63 = .ok (.getfield 61, 3) ∧ 63 + 3 = 66 := by decide +kernel
theorem d_M_shareOn_66 : decode c_M_shareOn 66 = .ok (.bipush 6, 2) ∧ 66 + 2 = 68 := by decide +kernel
theorem d_M_shareOn_68 : decode c_M_shareOn 68 = .ok (.laload, 1) ∧ 68 + 1 = 69 := by decide +kernel
theorem d_M_shareOn_69 : decode c_M_shareOn 69 = .ok (.goto 4, 3) ∧ (69 : Int) + 4 = (73 : Int) := by decide +kernel
theorem d_M_shareOn_72 : decode c_M_shareOn 72 = .ok (.lconst 0, 1) ∧ 72 + 1 = 73 := by decide +kernel
theorem d_M_shareOn_73 : decode c_M_shareOn 73 = .ok (.lstore_n 3, 1) ∧ 73 + 1 = 74 := by decide +kernel
theorem d_M_shareOn_74 : decode c_M_shareOn 74 = .ok (.iconst 0, 1) ∧ 74 + 1 = 75 := by decide +kernel
theorem d_M_shareOn_75 : decode c_M_shareOn 75 = .ok (.istore 5, 2) ∧ 75 + 2 = 77 := by decide +kernel
theorem d_M_shareOn_77 : decode c_M_shareOn 77 = .ok (.iload 5, 2) ∧ 77 + 2 = 79 := by decide +kernel
theorem d_M_shareOn_79 : decode c_M_shareOn 79 = .ok (.aload_n 0, 1) ∧ 79 + 1 = 80 := by decide +kernel
theorem d_M_shareOn_80 : decode c_M_shareOn 80 = .ok (.getfield 220, 3) ∧ 80 + 3 = 83 := by decide +kernel
theorem d_M_shareOn_83 : decode c_M_shareOn 83 = .ok (.if_icmp .ge 34, 3) ∧ 83 + 3 = 86 ∧ ((83 : Nat) : Int) + 34 = ((117 : Nat) : Int) := by decide +kernel
theorem d_M_shareOn_86 : decode c_M_shareOn 86 = .ok (.lload_n 3, 1) ∧ 86 + 1 = 87 := by decide +kernel
theorem d_M_shareOn_87 : decode c_M_shareOn 87 = .ok (.aload_n 0, 1) ∧ 87 + 1 = 88 := by decide +kernel
theorem d_M_shareOn_88 : decode c_M_shareOn 88 = .ok (.iload 5, 2) ∧ 88 + 2 = 90 := by decide +kernel
theorem d_M_shareOn_90 : decode c_M_shareOn 90 = .ok (.iload_n 1, 1) ∧ 90 + 1 = 91 := by decide +kernel
theorem d_M_shareOn_91 : decode c_M_shareOn 91 = .ok (.invokevirtual 250, 3) ∧ 91 + 3 = 94 := by decide +kernel
theorem d_M_shareOn_94 : decode c_M_shareOn 94 = .ok (.iload_n 2, 1) ∧ 94 + 1 = 95 := by decide +kernel
theorem d_M_shareOn_95 : decode c_M_shareOn 95 = .ok (.if_icmp .ne 13, 3) ∧ 95 + 3 = 98 ∧ ((95 : Nat) : Int) + 13 = ((108 : Nat) : Int) := by decide +kernel
theorem d_M_shareOn_98 : decode c_M_shareOn 98 = .ok (.aload_n 0, 1) ∧ 98 + 1 = 99 := by decide +kernel
theorem d_M_shareOn_99 : decode c_M_shareOn 99 = .ok (.getfield 61, 3) ∧ 99 + 3 = 102 := by decide +kernel
theorem d_M_shareOn_102 : decode c_M_shareOn 102 = .ok (.iload 5, 2) ∧ 102 + 2 = 104 := by decide +kernel
theorem d_M_shareOn_104 : decode c_M_shareOn 104 = .ok (.laload, 1) ∧ 104 + 1 = 105 := by decide +kernel
theorem d_M_shareOn_105 : decode c_M_shareOn 105 = .ok (.goto 4, 3) ∧ (105 : Int) + 4 = (109 : Int) := by decide +kernel
theorem d_M_shareOn_108 : decode c_M_shareOn 108 = .ok (.lconst 0, 1) ∧ 108 + 1 = 109 := by decide +kernel
theorem d_M_shareOn_109 : decode c_M_shareOn 109 = .ok (.lor, 1) ∧ 109 + 1 = 110 := by decide +kernel
theorem d_M_shareOn_110 : decode c_M_shareOn 110 = .ok (.lstore_n 3, 1) ∧ 110 + 1 = 111 := by decide +kernel
theorem d_M_shareOn_111 : decode c_M_shareOn 111 = .ok (.iinc 5 1, 3) ∧ 111 + 3 = 114 := by decide +kernel
theorem d_M_shareOn_114 : decode c_M_shareOn 114 = .ok (.goto (-37), 3) ∧ (114 : Int) + (-37) = (77 : Int) := by decide +kernel
theorem d_M_shareOn_117 : decode c_M_shareOn 117 = .ok (.iconst 0, 1) ∧ 117 + 1 = 118 := by decide +kernel
theorem d_M_shareOn_118 : decode c_M_shareOn 118 = .ok (.istore 5, 2) ∧ 118 + 2 = 120 := by decide +kernel
theorem d_M_shareOn_120 : decode c_M_shareOn 120 = .ok (.iload 5, 2) ∧ 120 + 2 = 122 := by decide +kernel
theorem d_M_shareOn_122 : decode c_M_shareOn 122 = .ok (.aload_n 0, 1) ∧ 122 + 1 = 123 := by decide +kernel
theorem d_M_shareOn_123 : decode c_M_shareOn 123 = .ok (.getfield 220, 3) ∧ 123 + 3 = 126 := by decide +kernel
theorem d_M_shareOn_126 : decode c_M_shareOn 126 = .ok (.if_icmp .ge 38, 3) ∧ 126 + 3 = 129 ∧ ((126 : Nat) : Int) + 38 = ((164 : Nat) : Int) := by decide +kernel
theorem d_M_shareOn_129 : decode c_M_shareOn 129 = .ok (.aload_n 0, 1) ∧ 129 + 1 = 130 := by decide +kernel
theorem d_M_shareOn_130 : decode c_M_shareOn 130 = .ok (.getfield 61, 3) ∧ 130 + 3 = 133 := by decide +kernel
theorem d_M_shareOn_133 : decode c_M_shareOn 133 = .ok (.iload 5, 2) ∧ 133 + 2 = 135 := by decide +kernel
theorem d_M_shareOn_135 : decode c_M_shareOn 135 = .ok (.aload_n 0, 1) ∧ 135 + 1 = 136 := by decide +kernel
theorem d_M_shareOn_136 : decode c_M_shareOn 136 = .ok (.iload 5, 2) ∧ 136 + 2 = 138 := by decide +kernel
theorem d_M_shareOn_138 : decode c_M_shareOn 138 = .ok (.iload_n 1, 1) ∧ 138 + 1 = 139 := by decide +kernel
theorem d_M_shareOn_139 : decode c_M_shareOn 139 = .ok (.invokevirtual 250, 3) ∧ 139 + 3 = 142 := by decide +kernel
theorem d_M_shareOn_142 : decode c_M_shareOn 142 = .ok (.iload_n 2, 1) ∧ 142 + 1 = 143 := by decide +kernel
theorem d_M_shareOn_143 : decode c_M_shareOn 143 = .ok (.if_icmp .ne 7, 3) ∧ 143 + 3 = 146 ∧ ((143 : Nat) : Int) + 7 = ((150 : Nat) : Int) := by decide +kernel
theorem d_M_shareOn_146 : decode c_M_shareOn 146 = .ok (.lload_n 3, 1) ∧ 146 + 1 = 147 := by decide +kernel
theorem d_M_shareOn_147 : decode c_M_shareOn 147 = .ok (.goto 10, 3) ∧ (147 : Int) + 10 = (157 : Int) := by decide +kernel
theorem d_M_shareOn_150 : decode c_M_shareOn 150 = .ok (.aload_n 0, 1) ∧ 150 + 1 = 151 := by decide +kernel
theorem d_M_shareOn_151 : decode c_M_shareOn 151 = .ok (.getfield 61, 3) ∧ 151 + 3 = 154 := by decide +kernel
theorem d_M_shareOn_154 : decode c_M_shareOn 154 = .ok (.iload 5, 2) ∧ 154 + 2 = 156 := by decide +kernel
theorem d_M_shareOn_156 : decode c_M_shareOn 156 = .ok (.laload, 1) ∧ 156 + 1 = 157 := by decide +kernel
theorem d_M_shareOn_157 : decode c_M_shareOn 157 = .ok (.lastore, 1) ∧ 157 + 1 = 158 := by decide +kernel
theorem d_M_shareOn_158 : decode c_M_shareOn 158 = .ok (.iinc 5 1, 3) ∧ 158 + 3 = 161 := by decide +kernel
theorem d_M_shareOn_161 : decode c_M_shareOn 161 = .ok (.goto (-41), 3) ∧ (161 : Int) + (-41) = (120 : Int) := by decide +kernel
theorem d_M_shareOn_164 : decode c_M_shareOn 164 = .ok (.aload_n 0, 1) ∧ 164 + 1 = 165 := by decide +kernel
theorem d_M_shareOn_165 : decode c_M_shareOn 165 = .ok (.getfield 61, 3) ∧ 165 + 3 = 168 := by decide +kernel
theorem d_M_shareOn_168 : decode c_M_shareOn 168 = .ok (.bipush 6, 2) ∧ 168 + 2 = 170 := by decide +kernel
theorem d_M_shareOn_170 : decode c_M_shareOn 170 = .ok (.iload_n 2, 1) ∧ 170 + 1 = 171 := by decide +kernel
theorem d_M_shareOn_171 : decode c_M_shareOn 171 = .ok (.ifCond .ne 7, 3) ∧ 171 + 3 = 174 ∧ ((171 : Nat) : Int) + 7 = ((178 : Nat) : Int) := by decide +kernel
theorem d_M_shareOn_174 : decode c_M_shareOn 174 = .ok (.lload_n 3, 1) ∧ 174 + 1 = 175 := by decide +kernel
theorem d_M_shareOn_175 : decode c_M_shareOn 175 = .ok (.goto 10, 3) ∧ (175 : Int) + 10 = (185 : Int) := by decide +kernel
theorem d_M_shareOn_178 : decode c_M_shareOn 178 = .ok (.aload_n 0, 1) ∧ 178 + 1 = 179 := by decide +kernel
theorem d_M_shareOn_179 : decode c_M_shareOn 179 = .ok (.getfield 61, 3) ∧ 179 + 3 = 182 := by decide +kernel
theorem d_M_shareOn_182 : decode c_M_shareOn 182 = .ok (.bipush 6, 2) ∧ 182 + 2 = 184 := by decide +kernel
theorem d_M_shareOn_184 : decode c_M_shareOn 184 = .ok (.laload, 1) ∧ 184 + 1 = 185 := by decide +kernel
theorem d_M_shareOn_185 : decode c_M_shareOn 185 = .ok (.lastore, 1) ∧ 185 + 1 = 186 := by decide +kernel
theorem d_M_shareOn_186 : decode c_M_shareOn 186 = .ok (.iinc 2 1, 3) ∧ 186 + 3 = 189 := by decide +kernel
theorem d_M_shareOn_189 : decode c_M_shareOn 189 = .ok (.goto (-139), 3) ∧ (189 : Int) + (-139) = (50 : Int) := by decide +kernel
theorem d_M_shareOn_192 : decode c_M_shareOn 192 = .ok (.return_, 1) ∧ 192 + 1 = 193 := by decide +kernel
set_option maxHeartbeats 4000000 in
theorem w_M_shareOn_L120 {Z : Sy} {Γ : Nat → List (Nat × Value) → List Value → St → Prop} {res : St} {x1 : Int32} {x2 : Int32} {x3 : Int64} {k50 : Int32 → St → Option St} (h : IsG YM Z R_M c_M_shareOn 6 3 none none res Γ) (hk50 : ∀ (x2 : Int32) (σ : St), k50 x2 σ = some res → Γ 50 [(0, .ref (ya Z 0)), (1, .int x1), (2, .int x2)] [] σ) : ∀ (n : Nat) (x5 : Int32) (σ : St), M_shareOn_L120 x1 x2 x3 k50 n x5 σ = some res → Γ 120 [(0, .ref (ya Z 0)), (1, .int x1), (2, .int x2), (3, .long x3), (5, .int x5)] [] σ := by
  intro n
  induction n with
  | zero => intro x5 σ hf; exact absurd hf (by simp [M_shareOn_L120])
  | succ n ih =>
    intro x5 σ hf
    rw [M_shareOn_L120] at hf
    refine r_iload h d_M_shareOn_120 4 rfl ?_
    refine r_aload_n h d_M_shareOn_122 0 rfl rfl ?_
    refine r_getI h fd_YM_0_2 cf_M fl_M_220 d_M_shareOn_123 ?_
    refine r_icmp_ge h d_M_shareOn_126 hf (fun hf => ?_) (fun hf => ?_)
    · refine r_aload_n h d_M_shareOn_164 0 rfl rfl ?_
      refine r_getR h fd_YM_0_24 cf_M fl_M_61 d_M_shareOn_165 ?_
      refine r_bipush h d_M_shareOn_168 kb_6 ?_
      refine r_iload_n h d_M_shareOn_170 2 rfl rfl ?_
      refine r_if_ne h d_M_shareOn_171 hf (fun hf => ?_) (fun hf => ?_)
      · refine r_aload_n h d_M_shareOn_178 0 rfl rfl ?_
        refine r_getR h fd_YM_0_24 cf_M fl_M_61 d_M_shareOn_179 ?_
        refine r_bipush h d_M_shareOn_182 kb_6 ?_
        refine r_lald h sh_YM_18 d_M_shareOn_184 hf (fun hf => ?_)
        refine r_last h sh_YM_18 d_M_shareOn_185 hf (fun hf => ?_)
        refine r_iinc (ls' := [(2, .int (x2 + (1 : Int32))), (0, .ref (ya Z 0)), (1, .int x1), (3, .long x3), (5, .int x5)]) h d_M_shareOn_186 2 rfl ki_1 (by decide) rfl ?_
        refine r_goto h d_M_shareOn_189 ?_
        refine r_sub h [1, 2, 0] rfl ?_
        exact hk50 _ _ hf
      · refine r_lload_n h d_M_shareOn_174 3 rfl rfl ?_
        refine r_goto h d_M_shareOn_175 ?_
        refine r_last h sh_YM_18 d_M_shareOn_185 hf (fun hf => ?_)
        refine r_iinc (ls' := [(2, .int (x2 + (1 : Int32))), (0, .ref (ya Z 0)), (1, .int x1), (3, .long x3), (5, .int x5)]) h d_M_shareOn_186 2 rfl ki_1 (by decide) rfl ?_
        refine r_goto h d_M_shareOn_189 ?_
        refine r_sub h [1, 2, 0] rfl ?_
        exact hk50 _ _ hf
    · refine r_aload_n h d_M_shareOn_129 0 rfl rfl ?_
      refine r_getR h fd_YM_0_24 cf_M fl_M_61 d_M_shareOn_130 ?_
      refine r_iload h d_M_shareOn_133 4 rfl ?_
      refine r_aload_n h d_M_shareOn_135 0 rfl rfl ?_
      refine r_iload h d_M_shareOn_136 4 rfl ?_
      refine r_iload_n h d_M_shareOn_138 1 rfl rfl ?_
      obtain ⟨r139, e139, hf⟩ := q_bind hf
      refine r_callV (As := [.int x5, .int x1]) (rest := [.int x5, .ref (ya Z 18)]) h sh_YM_0 lk_M_250 vk_M_250 d_M_shareOn_139 (by decide) rfl rfl (Nat.le_of_ble_eq_true rfl) (m_M_placeAt e139) ?_
      refine r_iload_n h d_M_shareOn_142 2 rfl rfl ?_
      refine r_icmp_ne h d_M_shareOn_143 hf (fun hf => ?_) (fun hf => ?_)
      · refine r_aload_n h d_M_shareOn_150 0 rfl rfl ?_
        refine r_getR h fd_YM_0_24 cf_M fl_M_61 d_M_shareOn_151 ?_
        refine r_iload h d_M_shareOn_154 4 rfl ?_
        refine r_lald h sh_YM_18 d_M_shareOn_156 hf (fun hf => ?_)
        refine r_last h sh_YM_18 d_M_shareOn_157 hf (fun hf => ?_)
        refine r_iinc (ls' := [(5, .int (x5 + (1 : Int32))), (0, .ref (ya Z 0)), (1, .int x1), (2, .int x2), (3, .long x3)]) h d_M_shareOn_158 4 rfl ki_1 (by decide) rfl ?_
        refine r_goto h d_M_shareOn_161 ?_
        refine r_sub h [1, 2, 3, 4, 0] rfl ?_
        exact ih _ _ hf
      · refine r_lload_n h d_M_shareOn_146 3 rfl rfl ?_
        refine r_goto h d_M_shareOn_147 ?_
        refine r_last h sh_YM_18 d_M_shareOn_157 hf (fun hf => ?_)
        refine r_iinc (ls' := [(5, .int (x5 + (1 : Int32))), (0, .ref (ya Z 0)), (1, .int x1), (2, .int x2), (3, .long x3)]) h d_M_shareOn_158 4 rfl ki_1 (by decide) rfl ?_
        refine r_goto h d_M_shareOn_161 ?_
        refine r_sub h [1, 2, 3, 4, 0] rfl ?_
        exact ih _ _ hf

set_option maxHeartbeats 4000000 in
theorem w_M_shareOn_L77 {Z : Sy} {Γ : Nat → List (Nat × Value) → List Value → St → Prop} {res : St} {x1 : Int32} {x2 : Int32} {σ : St} {k50 : Int32 → St → Option St} (h : IsG YM Z R_M c_M_shareOn 6 3 none none res Γ) (hk50 : ∀ (x2 : Int32) (σ : St), k50 x2 σ = some res → Γ 50 [(0, .ref (ya Z 0)), (1, .int x1), (2, .int x2)] [] σ) : ∀ (n : Nat) (x3 : Int64) (x5 : Int32), M_shareOn_L77 x1 x2 σ k50 n x3 x5 = some res → Γ 77 [(0, .ref (ya Z 0)), (1, .int x1), (2, .int x2), (3, .long x3), (5, .int x5)] [] σ := by
  intro n
  induction n with
  | zero => intro x3 x5 hf; exact absurd hf (by simp [M_shareOn_L77])
  | succ n ih =>
    intro x3 x5 hf
    rw [M_shareOn_L77] at hf
    refine r_iload h d_M_shareOn_77 4 rfl ?_
    refine r_aload_n h d_M_shareOn_79 0 rfl rfl ?_
    refine r_getI h fd_YM_0_2 cf_M fl_M_220 d_M_shareOn_80 ?_
    refine r_icmp_ge h d_M_shareOn_83 hf (fun hf => ?_) (fun hf => ?_)
    · refine r_iconst h d_M_shareOn_117 ki_0 ?_
      refine r_istore (ls' := [(5, .int (0 : Int32)), (0, .ref (ya Z 0)), (1, .int x1), (2, .int x2), (3, .long x3)]) h d_M_shareOn_118 (by decide) rfl ?_
      refine r_sub h [1, 2, 3, 4, 0] rfl ?_
      exact w_M_shareOn_L120 h hk50 _ _ _ hf
    · refine r_lload_n h d_M_shareOn_86 3 rfl rfl ?_
      refine r_aload_n h d_M_shareOn_87 0 rfl rfl ?_
      refine r_iload h d_M_shareOn_88 4 rfl ?_
      refine r_iload_n h d_M_shareOn_90 1 rfl rfl ?_
      obtain ⟨r91, e91, hf⟩ := q_bind hf
      refine r_callV (As := [.int x5, .int x1]) (rest := [.long x3]) h sh_YM_0 lk_M_250 vk_M_250 d_M_shareOn_91 (by decide) rfl rfl (Nat.le_of_ble_eq_true rfl) (m_M_placeAt e91) ?_
      refine r_iload_n h d_M_shareOn_94 2 rfl rfl ?_
      refine r_icmp_ne h d_M_shareOn_95 hf (fun hf => ?_) (fun hf => ?_)
      · refine r_lconst h d_M_shareOn_108 kl_0 ?_
        refine r_lor h d_M_shareOn_109 ?_
        refine r_lstore_n (ls' := [(3, .long (x3 ||| (0 : Int64))), (0, .ref (ya Z 0)), (1, .int x1), (2, .int x2), (5, .int x5)]) h d_M_shareOn_110 rfl (by decide) rfl ?_
        refine r_iinc (ls' := [(5, .int (x5 + (1 : Int32))), (3, .long (x3 ||| (0 : Int64))), (0, .ref (ya Z 0)), (1, .int x1), (2, .int x2)]) h d_M_shareOn_111 4 rfl ki_1 (by decide) rfl ?_
        refine r_goto h d_M_shareOn_114 ?_
        refine r_sub h [2, 3, 4, 1, 0] rfl ?_
        exact ih _ _ hf
      · refine r_aload_n h d_M_shareOn_98 0 rfl rfl ?_
        refine r_getR h fd_YM_0_24 cf_M fl_M_61 d_M_shareOn_99 ?_
        refine r_iload h d_M_shareOn_102 4 rfl ?_
        refine r_lald h sh_YM_18 d_M_shareOn_104 hf (fun hf => ?_)
        refine r_goto h d_M_shareOn_105 ?_
        refine r_lor h d_M_shareOn_109 ?_
        refine r_lstore_n (ls' := [(3, .long (x3 ||| (σ.2 18 (Int32.toNatClampNeg x5)))), (0, .ref (ya Z 0)), (1, .int x1), (2, .int x2), (5, .int x5)]) h d_M_shareOn_110 rfl (by decide) rfl ?_
        refine r_iinc (ls' := [(5, .int (x5 + (1 : Int32))), (3, .long (x3 ||| (σ.2 18 (Int32.toNatClampNeg x5)))), (0, .ref (ya Z 0)), (1, .int x1), (2, .int x2)]) h d_M_shareOn_111 4 rfl ki_1 (by decide) rfl ?_
        refine r_goto h d_M_shareOn_114 ?_
        refine r_sub h [2, 3, 4, 1, 0] rfl ?_
        exact ih _ _ hf

set_option maxHeartbeats 4000000 in
theorem w_M_shareOn_L50 {Z : Sy} {Γ : Nat → List (Nat × Value) → List Value → St → Prop} {res : St} {x1 : Int32} (h : IsG YM Z R_M c_M_shareOn 6 3 none none res Γ) : ∀ (n : Nat) (x2 : Int32) (σ : St), M_shareOn_L50 x1 n x2 σ = some res → Γ 50 [(0, .ref (ya Z 0)), (1, .int x1), (2, .int x2)] [] σ := by
  intro n
  induction n with
  | zero => intro x2 σ hf; exact absurd hf (by simp [M_shareOn_L50])
  | succ n ih =>
    intro x2 σ hf
    rw [M_shareOn_L50] at hf
    refine r_iload_n h d_M_shareOn_50 2 rfl rfl ?_
    refine r_aload_n h d_M_shareOn_51 0 rfl rfl ?_
    refine r_getI h fd_YM_0_1 cf_M fl_M_217 d_M_shareOn_52 ?_
    refine r_icmp_ge h d_M_shareOn_55 hf (fun hf => ?_) (fun hf => ?_)
    · exact r_vreturn h d_M_shareOn_192.1 (Option.some.inj hf)
    · refine r_iload_n h d_M_shareOn_58 2 rfl rfl ?_
      refine r_if_ne h d_M_shareOn_59 hf (fun hf => ?_) (fun hf => ?_)
      · refine r_lconst h d_M_shareOn_72 kl_0 ?_
        refine r_lstore_n (ls' := [(3, .long (0 : Int64)), (0, .ref (ya Z 0)), (1, .int x1), (2, .int x2)]) h d_M_shareOn_73 rfl (by decide) rfl ?_
        refine r_iconst h d_M_shareOn_74 ki_0 ?_
        refine r_istore (ls' := [(5, .int (0 : Int32)), (3, .long (0 : Int64)), (0, .ref (ya Z 0)), (1, .int x1), (2, .int x2)]) h d_M_shareOn_75 (by decide) rfl ?_
        refine r_sub h [2, 3, 4, 1, 0] rfl ?_
        exact w_M_shareOn_L77 h (fun y2 τ hf => ih y2 τ hf) _ _ _ hf
      · refine r_aload_n h d_M_shareOn_62 0 rfl rfl ?_
        refine r_getR h fd_YM_0_24 cf_M fl_M_61 d_M_shareOn_63 ?_
        refine r_bipush h d_M_shareOn_66 kb_6 ?_
        refine r_lald h sh_YM_18 d_M_shareOn_68 hf (fun hf => ?_)
        refine r_goto h d_M_shareOn_69 ?_
        refine r_lstore_n (ls' := [(3, .long (σ.2 18 (Int32.toNatClampNeg (6 : Int32)))), (0, .ref (ya Z 0)), (1, .int x1), (2, .int x2)]) h d_M_shareOn_73 rfl (by decide) rfl ?_
        refine r_iconst h d_M_shareOn_74 ki_0 ?_
        refine r_istore (ls' := [(5, .int (0 : Int32)), (3, .long (σ.2 18 (Int32.toNatClampNeg (6 : Int32)))), (0, .ref (ya Z 0)), (1, .int x1), (2, .int x2)]) h d_M_shareOn_75 (by decide) rfl ?_
        refine r_sub h [2, 3, 4, 1, 0] rfl ?_
        exact w_M_shareOn_L77 h (fun y2 τ hf => ih y2 τ hf) _ _ _ hf

set_option maxHeartbeats 4000000 in
theorem w_M_shareOn_L2 {Z : Sy} {Γ : Nat → List (Nat × Value) → List Value → St → Prop} {res : St} {x1 : Int32} (h : IsG YM Z R_M c_M_shareOn 6 3 none none res Γ) : ∀ (n : Nat) (x2 : Int32) (σ : St), M_shareOn_L2 x1 n x2 σ = some res → Γ 2 [(0, .ref (ya Z 0)), (1, .int x1), (2, .int x2)] [] σ := by
  intro n
  induction n with
  | zero => intro x2 σ hf; exact absurd hf (by simp [M_shareOn_L2])
  | succ n ih =>
    intro x2 σ hf
    rw [M_shareOn_L2] at hf
    refine r_iload_n h d_M_shareOn_2 2 rfl rfl ?_
    refine r_aload_n h d_M_shareOn_3 0 rfl rfl ?_
    refine r_getI h fd_YM_0_17 cf_M fl_M_268 d_M_shareOn_4 ?_
    refine r_icmp_ge h d_M_shareOn_7 hf (fun hf => ?_) (fun hf => ?_)
    · refine r_iconst h d_M_shareOn_48 ki_0 ?_
      refine r_istore_n (ls' := [(2, .int (0 : Int32)), (0, .ref (ya Z 0)), (1, .int x1)]) h d_M_shareOn_49 rfl (by decide) rfl ?_
      refine r_sub h [1, 2, 0] rfl ?_
      exact w_M_shareOn_L50 h _ _ _ hf
    · refine r_aload_n h d_M_shareOn_10 0 rfl rfl ?_
      refine r_getR h fd_YM_0_23 cf_M fl_M_58 d_M_shareOn_11 ?_
      refine r_iload_n h d_M_shareOn_14 2 rfl rfl ?_
      refine r_iald h sh_YM_17 d_M_shareOn_15 hf (fun hf => ?_)
      refine r_iload_n h d_M_shareOn_16 1 rfl rfl ?_
      refine r_icmp_ne h d_M_shareOn_17 hf (fun hf => ?_) (fun hf => ?_)
      · refine r_iinc (ls' := [(2, .int (x2 + (1 : Int32))), (0, .ref (ya Z 0)), (1, .int x1)]) h d_M_shareOn_42 2 rfl ki_1 (by decide) rfl ?_
        refine r_goto h d_M_shareOn_45 ?_
        refine r_sub h [1, 2, 0] rfl ?_
        exact ih _ _ hf
      · refine r_aload_n h d_M_shareOn_20 0 rfl rfl ?_
        refine r_getR h fd_YM_0_24 cf_M fl_M_61 d_M_shareOn_21 ?_
        refine r_aload_n h d_M_shareOn_24 0 rfl rfl ?_
        refine r_getR h fd_YM_0_15 cf_M fl_M_37 d_M_shareOn_25 ?_
        refine r_aload_n h d_M_shareOn_28 0 rfl rfl ?_
        refine r_getR h fd_YM_0_18 cf_M fl_M_43 d_M_shareOn_29 ?_
        refine r_iload_n h d_M_shareOn_32 2 rfl rfl ?_
        refine r_iald h sh_YM_12 d_M_shareOn_33 hf (fun hf => ?_)
        refine r_iald h sh_YM_10 d_M_shareOn_34 hf (fun hf => ?_)
        refine r_dup2 h d_M_shareOn_35 rfl rfl ?_
        refine r_lald h sh_YM_18 d_M_shareOn_36 hf (fun hf => ?_)
        refine r_lconst h d_M_shareOn_37 kl_1 ?_
        refine r_iload_n h d_M_shareOn_38 2 rfl rfl ?_
        refine r_lshl h d_M_shareOn_39 ?_
        refine r_lor h d_M_shareOn_40 ?_
        refine r_last h sh_YM_18 d_M_shareOn_41 hf (fun hf => ?_)
        refine r_iinc (ls' := [(2, .int (x2 + (1 : Int32))), (0, .ref (ya Z 0)), (1, .int x1)]) h d_M_shareOn_42 2 rfl ki_1 (by decide) rfl ?_
        refine r_goto h d_M_shareOn_45 ?_
        refine r_sub h [1, 2, 0] rfl ?_
        exact ih _ _ hf

set_option maxHeartbeats 4000000 in
theorem m_M_shareOn {Z : Sy} {σ : St} {res : St} {x1 : Int32} (hf : M_shareOn x1 σ = some res) : Ct YM Z y_M_shareOn c_M_shareOn 6 none 3 [.ref (ya Z 0), .int x1] σ none res := by
  refine Ct.of pn_M (Nat.le_of_ble_eq_true rfl) rfl (fun Γ h => ?_)
  have h : IsG YM Z R_M c_M_shareOn 6 3 none none res Γ := h
  unfold M_shareOn at hf
  refine r_iconst h d_M_shareOn_0 ki_0 ?_
  refine r_istore_n (ls' := [(2, .int (0 : Int32)), (0, .ref (ya Z 0)), (1, .int x1)]) h d_M_shareOn_1 rfl (by decide) rfl ?_
  refine r_sub h [1, 2, 0] rfl ?_
  exact w_M_shareOn_L2 h _ _ _ hf

theorem d_M_hasBit_0 : decode c_M_hasBit 0 = .ok (.lload_n 0, 1) ∧ 0 + 1 = 1 := by decide +kernel
theorem d_M_hasBit_1 : decode c_M_hasBit 1 = .ok (.iload_n 2, 1) ∧ 1 + 1 = 2 := by decide +kernel
theorem d_M_hasBit_2 : decode c_M_hasBit 2 = .ok (.lshr, 1) ∧ 2 + 1 = 3 := by decide +kernel
theorem d_M_hasBit_3 : decode c_M_hasBit 3 = .ok (.lconst 1, 1) ∧ 3 + 1 = 4 := by decide +kernel
theorem d_M_hasBit_4 : decode c_M_hasBit 4 = .ok (.land, 1) ∧ 4 + 1 = 5 := by decide +kernel
theorem d_M_hasBit_5 : decode c_M_hasBit 5 = .ok (.lconst 1, 1) ∧ 5 + 1 = 6 := by decide +kernel
theorem d_M_hasBit_6 : decode c_M_hasBit 6 = .ok (.lcmp, 1) ∧ 6 + 1 = 7 := by decide +kernel
theorem d_M_hasBit_7 : decode c_M_hasBit 7 = .ok (.ifCond .ne 7, 3) ∧ 7 + 3 = 10 ∧ ((7 : Nat) : Int) + 7 = ((14 : Nat) : Int) := by decide +kernel
theorem d_M_hasBit_10 : decode c_M_hasBit 10 = .ok (.iconst 1, 1) ∧ 10 + 1 = 11 := by decide +kernel
theorem d_M_hasBit_11 : decode c_M_hasBit 11 = .ok (.goto 4, 3) ∧ (11 : Int) + 4 = (15 : Int) := by decide +kernel
theorem d_M_hasBit_14 : decode c_M_hasBit 14 = .ok (.iconst 0, 1) ∧ 14 + 1 = 15 := by decide +kernel
theorem d_M_hasBit_15 : decode c_M_hasBit 15 = .ok (.ireturn, 1) ∧ 15 + 1 = 16 := by decide +kernel
set_option maxHeartbeats 4000000 in
theorem m_M_hasBit {Z : Sy} {σ : St} {res : Bool} {x0 : Int64} {x2 : Int32} (hf : M_hasBit x0 x2 σ = some res) : Ct YM Z y_M_hasBit c_M_hasBit 3 (some .boolean) 1 [.long x0, .int x2] σ (some (.int (bi res))) σ := by
  refine Ct.of pn_M (Nat.le_of_ble_eq_true rfl) rfl (fun Γ h => ?_)
  have h : IsG YM Z R_M c_M_hasBit 3 1 (some .boolean) (some (.int (bi res))) σ Γ := h
  unfold M_hasBit at hf
  refine r_lload_n h d_M_hasBit_0 0 rfl rfl ?_
  refine r_iload_n h d_M_hasBit_1 1 rfl rfl ?_
  refine r_lshr h d_M_hasBit_2 ?_
  refine r_lconst h d_M_hasBit_3 kl_1 ?_
  refine r_land h d_M_hasBit_4 ?_
  refine r_lconst h d_M_hasBit_5 kl_1 ?_
  refine r_lif_ne h d_M_hasBit_6 d_M_hasBit_7 hf (fun hf => ?_) (fun hf => ?_)
  · refine r_iconst h d_M_hasBit_14 ki_0 ?_
    exact r_zreturn h d_M_hasBit_15.1 ((show (0 : Int32) = bi false from rfl).trans (congrArg bi (Option.some.inj hf))) rfl
  · refine r_iconst h d_M_hasBit_10 ki_1 ?_
    refine r_goto h d_M_hasBit_11 ?_
    exact r_zreturn h d_M_hasBit_15.1 ((show (1 : Int32) = bi true from rfl).trans (congrArg bi (Option.some.inj hf))) rfl

theorem d_M_layKnown_0 : decode c_M_layKnown 0 = .ok (.iconst 0, 1) ∧ 0 + 1 = 1 := by decide +kernel
theorem d_M_layKnown_1 : decode c_M_layKnown 1 = .ok (.istore_n 1, 1) ∧ 1 + 1 = 2 := by decide +kernel
theorem d_M_layKnown_2 : decode c_M_layKnown 2 = .ok (.iload_n 1, 1) ∧ 2 + 1 = 3 := by decide +kernel
theorem d_M_layKnown_3 : decode c_M_layKnown 3 = .ok (.bipush 7, 2) ∧ 3 + 2 = 5 := by decide +kernel
theorem d_M_layKnown_5 : decode c_M_layKnown 5 = .ok (.if_icmp .ge 16, 3) ∧ 5 + 3 = 8 ∧ ((5 : Nat) : Int) + 16 = ((21 : Nat) : Int) := by decide +kernel
theorem d_M_layKnown_8 : decode c_M_layKnown 8 = .ok (.aload_n 0, 1) ∧ 8 + 1 = 9 := by decide +kernel
theorem d_M_layKnown_9 : decode c_M_layKnown 9 = .ok (.getfield 61, 3) ∧ 9 + 3 = 12 := by decide +kernel
theorem d_M_layKnown_12 : decode c_M_layKnown 12 = .ok (.iload_n 1, 1) ∧ 12 + 1 = 13 := by decide +kernel
theorem d_M_layKnown_13 : decode c_M_layKnown 13 = .ok (.lconst 0, 1) ∧ 13 + 1 = 14 := by decide +kernel
theorem d_M_layKnown_14 : decode c_M_layKnown 14 = .ok (.lastore, 1) ∧ 14 + 1 = 15 := by decide +kernel
theorem d_M_layKnown_15 : decode c_M_layKnown 15 = .ok (.iinc 1 1, 3) ∧ 15 + 3 = 18 := by decide +kernel
theorem d_M_layKnown_18 : decode c_M_layKnown 18 = .ok (.goto (-16), 3) ∧ (18 : Int) + (-16) = (2 : Int) := by decide +kernel
theorem d_M_layKnown_21 : decode c_M_layKnown 21 = .ok (.iconst 0, 1) ∧ 21 + 1 = 22 := by decide +kernel
theorem d_M_layKnown_22 : decode c_M_layKnown 22 = .ok (.istore_n 1, 1) ∧ 22 + 1 = 23 := by decide +kernel
theorem d_M_layKnown_23 : decode c_M_layKnown 23 = .ok (.iload_n 1, 1) ∧ 23 + 1 = 24 := by decide +kernel
theorem d_M_layKnown_24 : decode c_M_layKnown 24 = .ok (.sipush 420, 3) ∧ 24 + 3 = 27 := by decide +kernel
theorem d_M_layKnown_27 : decode c_M_layKnown 27 = .ok (.if_icmp .ge 17, 3) ∧ 27 + 3 = 30 ∧ ((27 : Nat) : Int) + 17 = ((44 : Nat) : Int) := by decide +kernel
theorem d_M_layKnown_30 : decode c_M_layKnown 30 = .ok (.aload_n 0, 1) ∧ 30 + 1 = 31 := by decide +kernel
theorem d_M_layKnown_31 : decode c_M_layKnown 31 = .ok (.getfield 65, 3) ∧ 31 + 3 = 34 := by decide +kernel
theorem d_M_layKnown_34 : decode c_M_layKnown 34 = .ok (.iload_n 1, 1) ∧ 34 + 1 = 35 := by decide +kernel
theorem d_M_layKnown_35 : decode c_M_layKnown 35 = .ok (.bipush (-9), 2) ∧ 35 + 2 = 37 := by decide +kernel
theorem d_M_layKnown_37 : decode c_M_layKnown 37 = .ok (.iastore, 1) ∧ 37 + 1 = 38 := by decide +kernel
theorem d_M_layKnown_38 : decode c_M_layKnown 38 = .ok (.iinc 1 1, 3) ∧ 38 + 3 = 41 := by decide +kernel
theorem d_M_layKnown_41 : decode c_M_layKnown 41 = .ok (.goto (-18), 3) ∧ (41 : Int) + (-18) = (23 : Int) := by decide +kernel
theorem d_M_layKnown_44 : decode c_M_layKnown 44 = .ok (.aload_n 0, 1) ∧ 44 + 1 = 45 := by decide +kernel
theorem d_M_layKnown_45 : decode c_M_layKnown 45 = .ok (.iconst (-1), 1) ∧ 45 + 1 = 46 := by decide +kernel
theorem d_M_layKnown_46 : decode c_M_layKnown 46 = .ok (.invokevirtual 312, 3) ∧ 46 + 3 = 49 := by decide +kernel
theorem d_M_layKnown_49 : decode c_M_layKnown 49 = .ok (.istore_n 1, 1) ∧ 49 + 1 = 50 := by decide +kernel
theorem d_M_layKnown_50 : decode c_M_layKnown 50 = .ok (.iload_n 1, 1) ∧ 50 + 1 = 51 := by decide +kernel
theorem d_M_layKnown_51 : decode c_M_layKnown 51 = .ok (.ifCond .lt 112, 3) ∧ 51 + 3 = 54 ∧ ((51 : Nat) : Int) + 112 = ((163 : Nat) : Int) := by decide +kernel
theorem d_M_layKnown_54 : decode c_M_layKnown 54 = .ok (.aload_n 0, 1) ∧ 54 + 1 = 55 := by decide +kernel
theorem d_M_layKnown_55 : decode c_M_layKnown 55 = .ok (.iload_n 1, 1) ∧ 55 + 1 = 56 := by decide +kernel
theorem d_M_layKnown_56 : decode c_M_layKnown 56 = .ok (.invokevirtual 315, 3) ∧ 56 + 3 = 59 := by decide +kernel
theorem d_M_layKnown_59 : decode c_M_layKnown 59 = .ok (.iconst 0, 1) ∧ 59 + 1 = 60 := by decide +kernel
theorem d_M_layKnown_60 : decode c_M_layKnown 60 = .ok (.istore_n 2, 1) ∧ 60 + 1 = 61 := by decide +kernel
theorem d_M_layKnown_61 : decode c_M_layKnown 61 = .ok (.iload_n 2, 1) ∧ 61 + 1 = 62 := by decide +kernel
theorem d_M_layKnown_62 : decode c_M_layKnown 62 = .ok (.bipush 7, 2) ∧ 62 + 2 = 64 := by decide +kernel
theorem d_M_layKnown_64 : decode c_M_layKnown 64 = .ok (.if_icmp .ge 90, 3) ∧ 64 + 3 = 67 ∧ ((64 : Nat) : Int) + 90 = ((154 : Nat) : Int) := by decide +kernel
theorem d_M_layKnown_67 : decode c_M_layKnown 67 = .ok (.iconst 0, 1) ∧ 67 + 1 = 68 := by decide +kernel
theorem d_M_layKnown_68 : decode c_M_layKnown 68 = .ok (.istore_n 3, 1) ∧ 68 + 1 = 69 := by decide +kernel
theorem d_M_layKnown_69 : decode c_M_layKnown 69 = .ok (.iload_n 3, 1) ∧ 69 + 1 = 70 := by decide +kernel
theorem d_M_layKnown_70 : decode c_M_layKnown 70 = .ok (.aload_n 0, 1) ∧ 70 + 1 = 71 := by decide +kernel
theorem d_M_layKnown_71 : decode c_M_layKnown 71 = .ok (.getfield 268, 3) ∧ 71 + 3 = 74 := by decide +kernel
theorem d_M_layKnown_74 : decode c_M_layKnown 74 = .ok (.if_icmp .ge 74, 3) ∧ 74 + 3 = 77 ∧ ((74 : Nat) : Int) + 74 = ((148 : Nat) : Int) := by decide +kernel
theorem d_M_layKnown_77 : decode c_M_layKnown 77 = .ok (.aload_n 0, 1) ∧ 77 + 1 = 78 := by decide +kernel
theorem d_M_layKnown_78 : decode c_M_layKnown 78 = .ok (.getfield 61, 3) ∧ 78 + 3 = 81 := by decide +kernel
theorem d_M_layKnown_81 : decode c_M_layKnown 81 = .ok (.iload_n 2, 1) ∧ 81 + 1 = 82 := by decide +kernel
theorem d_M_layKnown_82 : decode c_M_layKnown 82 = .ok (.laload, 1) ∧ 82 + 1 = 83 := by decide +kernel
theorem d_M_layKnown_83 : decode c_M_layKnown 83 = .ok (.iload_n 3, 1) ∧ 83 + 1 = 84 := by decide +kernel
theorem d_M_layKnown_84 : decode c_M_layKnown 84 = .ok (.invokestatic 319, 3) ∧ 84 + 3 = 87 := by decide +kernel
theorem d_M_layKnown_87 : decode c_M_layKnown 87 = .ok (.ifCond .eq 21, 3) ∧ 87 + 3 = 90 ∧ ((87 : Nat) : Int) + 21 = ((108 : Nat) : Int) := by decide +kernel
theorem d_M_layKnown_90 : decode c_M_layKnown 90 = .ok (.aload_n 0, 1) ∧ 90 + 1 = 91 := by decide +kernel
theorem d_M_layKnown_91 : decode c_M_layKnown 91 = .ok (.getfield 65, 3) ∧ 91 + 3 = 94 := by decide +kernel
theorem d_M_layKnown_94 : decode c_M_layKnown 94 = .ok (.bipush 60, 2) ∧ 94 + 2 = 96 := by decide +kernel
theorem d_M_layKnown_96 : decode c_M_layKnown 96 = .ok (.iload_n 2, 1) ∧ 96 + 1 = 97 := by decide +kernel
theorem d_M_layKnown_97 : decode c_M_layKnown 97 = .ok (.imul, 1) ∧ 97 + 1 = 98 := by decide +kernel
theorem d_M_layKnown_98 : decode c_M_layKnown 98 = .ok (.iload_n 3, 1) ∧ 98 + 1 = 99 := by decide +kernel
theorem d_M_layKnown_99 : decode c_M_layKnown 99 = .ok (.iadd, 1) ∧ 99 + 1 = 100 := by decide +kernel
theorem d_M_layKnown_100 : decode c_M_layKnown 100 = .ok (.iaload, 1) ∧ 100 + 1 = 101 := by decide +kernel
theorem d_M_layKnown_101 : decode c_M_layKnown 101 = .ok (.ifCond .ge 7, 3) ∧ 101 + 3 = 104 ∧ ((101 : Nat) : Int) + 7 = ((108 : Nat) : Int) := by decide +kernel
theorem d_M_layKnown_104 : decode c_M_layKnown 104 = .ok (.iconst 1, 1) ∧ 104 + 1 = 105 := by decide +kernel
theorem d_M_layKnown_105 : decode c_M_layKnown 105 = .ok (.goto 4, 3) ∧ (105 : Int) + 4 = (109 : Int) := by decide +kernel
theorem d_M_layKnown_108 : decode c_M_layKnown 108 = .ok (.iconst 0, 1) ∧ 108 + 1 = 109 := by decide +kernel
theorem d_M_layKnown_109 : decode c_M_layKnown 109 = .ok (.istore 4, 2) ∧ 109 + 2 = 111 := by decide +kernel
theorem d_M_layKnown_111 : decode c_M_layKnown 111 = .ok (.aload_n 0, 1) ∧ 111 + 1 = 112 := by decide +kernel
theorem d_M_layKnown_112 : decode c_M_layKnown 112 = .ok (.getfield 65, 3) ∧ 112 + 3 = 115 := by decide +kernel
theorem d_M_layKnown_115 : decode c_M_layKnown 115 = .ok (.bipush 60, 2) ∧ 115 + 2 = 117 := by decide +kernel
theorem d_M_layKnown_117 : decode c_M_layKnown 117 = .ok (.iload_n 2, 1) ∧ 117 + 1 = 118 := by decide +kernel
theorem d_M_layKnown_118 : decode c_M_layKnown 118 = .ok (.imul, 1) ∧ 118 + 1 = 119 := by decide +kernel
theorem d_M_layKnown_119 : decode c_M_layKnown 119 = .ok (.iload_n 3, 1) ∧ 119 + 1 = 120 := by decide +kernel
theorem d_M_layKnown_120 : decode c_M_layKnown 120 = .ok (.iadd, 1) ∧ 120 + 1 = 121 := by decide +kernel
theorem d_M_layKnown_121 : decode c_M_layKnown 121 = .ok (.iload 4, 2) ∧ 121 + 2 = 123 := by decide +kernel
theorem d_M_layKnown_123 : decode c_M_layKnown 123 = .ok (.ifCond .eq 7, 3) ∧ 123 + 3 = 126 ∧ ((123 : Nat) : Int) + 7 = ((130 : Nat) : Int) := by decide +kernel
theorem d_M_layKnown_126 : decode c_M_layKnown 126 = .ok (.iload_n 1, 1) ∧ 126 + 1 = 127 := by decide +kernel
theorem d_M_layKnown_127 : decode c_M_layKnown 127 = .ok (.goto 14, 3) ∧ (127 : Int) + 14 = (141 : Int) := by decide +kernel
theorem d_M_layKnown_130 : decode c_M_layKnown 130 = .ok (.aload_n 0, 1) ∧ 130 + 1 = 131 := by decide +kernel
theorem d_M_layKnown_131 : decode c_M_layKnown 131 = .ok (.getfield 65, 3) ∧ 131 + 3 = 134 := by decide +kernel
theorem d_M_layKnown_134 : decode c_M_layKnown 134 = .ok (.bipush 60, 2) ∧ 134 + 2 = 136 := by decide +kernel
theorem d_M_layKnown_136 : decode c_M_layKnown 136 = .ok (.iload_n 2, 1) ∧ 136 + 1 = 137 := by decide +kernel
theorem d_M_layKnown_137 : decode c_M_layKnown 137 = .ok (.imul, 1) ∧ 137 + 1 = 138 := by decide +kernel
theorem d_M_layKnown_138 : decode c_M_layKnown 138 = .ok (.iload_n 3, 1) ∧ 138 + 1 = 139 := by decide +kernel
theorem d_M_layKnown_139 : decode c_M_layKnown 139 = .ok (.iadd, 1) ∧ 139 + 1 = 140 := by decide +kernel
theorem d_M_layKnown_140 : decode c_M_layKnown 140 = .ok (.iaload, 1) ∧ 140 + 1 = 141 := by decide +kernel
theorem d_M_layKnown_141 : decode c_M_layKnown 141 = .ok (.iastore, 1) ∧ 141 + 1 = 142 := by decide +kernel
theorem d_M_layKnown_142 : decode c_M_layKnown 142 = .ok (.iinc 3 1, 3) ∧ 142 + 3 = 145 := by decide +kernel
theorem d_M_layKnown_145 : decode c_M_layKnown 145 = .ok (.goto (-76), 3) ∧ (145 : Int) + (-76) = (69 : Int) := by decide +kernel
theorem d_M_layKnown_148 : decode c_M_layKnown 148 = .ok (.iinc 2 1, 3) ∧ 148 + 3 = 151 := by decide +kernel
theorem d_M_layKnown_151 : decode c_M_layKnown 151 = .ok (.goto (-90), 3) ∧ (151 : Int) + (-90) = (61 : Int) := by decide +kernel
theorem d_M_layKnown_154 : decode c_M_layKnown 154 = .ok (.aload_n 0, 1) ∧ 154 + 1 = 155 := by decide +kernel
theorem d_M_layKnown_155 : decode c_M_layKnown 155 = .ok (.iload_n 1, 1) ∧ 155 + 1 = 156 := by decide +kernel
theorem d_M_layKnown_156 : decode c_M_layKnown 156 = .ok (.invokevirtual 312, 3) ∧ 156 + 3 = 159 := by decide +kernel
theorem d_M_layKnown_159 : decode c_M_layKnown 159 = .ok (.istore_n 1, 1) ∧ 159 + 1 = 160 := by decide +kernel
theorem d_M_layKnown_160 : decode c_M_layKnown 160 = .ok (.goto (-110), 3) ∧ (160 : Int) + (-110) = (50 : Int) := by decide +kernel
theorem d_M_layKnown_163 : decode c_M_layKnown 163 = .ok (.return_, 1) ∧ 163 + 1 = 164 := by decide +kernel
set_option maxHeartbeats 4000000 in
theorem w_M_layKnown_L69 {Z : Sy} {Γ : Nat → List (Nat × Value) → List Value → St → Prop} {res : St} {x1 : Int32} {x2 : Int32} {k50 : Int32 → St → Option St} {k61 : Int32 → St → Option St} (h : IsG YM Z R_M c_M_layKnown 5 4 none none res Γ) (hk50 : ∀ (x1 : Int32) (σ : St), k50 x1 σ = some res → Γ 50 [(0, .ref (ya Z 0)), (1, .int x1)] [] σ) (hk61 : ∀ (x2 : Int32) (σ : St), k61 x2 σ = some res → Γ 61 [(0, .ref (ya Z 0)), (1, .int x1), (2, .int x2)] [] σ) : ∀ (n : Nat) (x3 : Int32) (σ : St), M_layKnown_L69 x1 x2 k50 k61 n x3 σ = some res → Γ 69 [(0, .ref (ya Z 0)), (1, .int x1), (2, .int x2), (3, .int x3)] [] σ := by
  intro n
  induction n with
  | zero => intro x3 σ hf; exact absurd hf (by simp [M_layKnown_L69])
  | succ n ih =>
    intro x3 σ hf
    rw [M_layKnown_L69] at hf
    refine r_iload_n h d_M_layKnown_69 3 rfl rfl ?_
    refine r_aload_n h d_M_layKnown_70 0 rfl rfl ?_
    refine r_getI h fd_YM_0_17 cf_M fl_M_268 d_M_layKnown_71 ?_
    refine r_icmp_ge h d_M_layKnown_74 hf (fun hf => ?_) (fun hf => ?_)
    · refine r_iinc (ls' := [(2, .int (x2 + (1 : Int32))), (0, .ref (ya Z 0)), (1, .int x1), (3, .int x3)]) h d_M_layKnown_148 2 rfl ki_1 (by decide) rfl ?_
      refine r_goto h d_M_layKnown_151 ?_
      refine r_sub h [1, 2, 0] rfl ?_
      exact hk61 _ _ hf
    · refine r_aload_n h d_M_layKnown_77 0 rfl rfl ?_
      refine r_getR h fd_YM_0_24 cf_M fl_M_61 d_M_layKnown_78 ?_
      refine r_iload_n h d_M_layKnown_81 2 rfl rfl ?_
      refine r_lald h sh_YM_18 d_M_layKnown_82 hf (fun hf => ?_)
      refine r_iload_n h d_M_layKnown_83 3 rfl rfl ?_
      obtain ⟨r84, e84, hf⟩ := q_bind hf
      refine r_callS (As := [.long (σ.2 18 (Int32.toNatClampNeg x2)), .int x3]) (rest := []) h lk_M_319 sk_M_319 d_M_layKnown_84 (by decide) rfl rfl (Nat.le_of_ble_eq_true rfl) (m_M_hasBit e84) ?_
      refine r_bif_eq h d_M_layKnown_87 hf (fun hf => ?_) (fun hf => ?_)
      · refine r_iconst h d_M_layKnown_108 ki_0 ?_
        refine r_istore (ls' := [(4, .int (0 : Int32)), (0, .ref (ya Z 0)), (1, .int x1), (2, .int x2), (3, .int x3)]) h d_M_layKnown_109 (by decide) rfl ?_
        refine r_aload_n h d_M_layKnown_111 1 rfl rfl ?_
        refine r_getR h fd_YM_0_25 cf_M fl_M_65 d_M_layKnown_112 ?_
        refine r_bipush h d_M_layKnown_115 kb_60 ?_
        refine r_iload_n h d_M_layKnown_117 3 rfl rfl ?_
        refine r_imul h d_M_layKnown_118 ?_
        refine r_iload_n h d_M_layKnown_119 4 rfl rfl ?_
        refine r_iadd h d_M_layKnown_120 ?_
        refine r_iload h d_M_layKnown_121 0 rfl ?_
        refine r_if_eq_T h d_M_layKnown_123 (by decide) ?_
        refine r_aload_n h d_M_layKnown_130 1 rfl rfl ?_
        refine r_getR h fd_YM_0_25 cf_M fl_M_65 d_M_layKnown_131 ?_
        refine r_bipush h d_M_layKnown_134 kb_60 ?_
        refine r_iload_n h d_M_layKnown_136 3 rfl rfl ?_
        refine r_imul h d_M_layKnown_137 ?_
        refine r_iload_n h d_M_layKnown_138 4 rfl rfl ?_
        refine r_iadd h d_M_layKnown_139 ?_
        refine r_iald h sh_YM_19 d_M_layKnown_140 hf (fun hf => ?_)
        refine r_iast h sh_YM_19 d_M_layKnown_141 hf (fun hf => ?_)
        refine r_iinc (ls' := [(3, .int (x3 + (1 : Int32))), (4, .int (0 : Int32)), (0, .ref (ya Z 0)), (1, .int x1), (2, .int x2)]) h d_M_layKnown_142 4 rfl ki_1 (by decide) rfl ?_
        refine r_goto h d_M_layKnown_145 ?_
        refine r_sub h [2, 3, 4, 0] rfl ?_
        exact ih _ _ hf
      · refine r_aload_n h d_M_layKnown_90 0 rfl rfl ?_
        refine r_getR h fd_YM_0_25 cf_M fl_M_65 d_M_layKnown_91 ?_
        refine r_bipush h d_M_layKnown_94 kb_60 ?_
        refine r_iload_n h d_M_layKnown_96 2 rfl rfl ?_
        refine r_imul h d_M_layKnown_97 ?_
        refine r_iload_n h d_M_layKnown_98 3 rfl rfl ?_
        refine r_iadd h d_M_layKnown_99 ?_
        refine r_iald h sh_YM_19 d_M_layKnown_100 hf (fun hf => ?_)
        refine r_if_ge h d_M_layKnown_101 hf (fun hf => ?_) (fun hf => ?_)
        · refine r_iconst h d_M_layKnown_108 ki_0 ?_
          refine r_istore (ls' := [(4, .int (0 : Int32)), (0, .ref (ya Z 0)), (1, .int x1), (2, .int x2), (3, .int x3)]) h d_M_layKnown_109 (by decide) rfl ?_
          refine r_aload_n h d_M_layKnown_111 1 rfl rfl ?_
          refine r_getR h fd_YM_0_25 cf_M fl_M_65 d_M_layKnown_112 ?_
          refine r_bipush h d_M_layKnown_115 kb_60 ?_
          refine r_iload_n h d_M_layKnown_117 3 rfl rfl ?_
          refine r_imul h d_M_layKnown_118 ?_
          refine r_iload_n h d_M_layKnown_119 4 rfl rfl ?_
          refine r_iadd h d_M_layKnown_120 ?_
          refine r_iload h d_M_layKnown_121 0 rfl ?_
          refine r_if_eq_T h d_M_layKnown_123 (by decide) ?_
          refine r_aload_n h d_M_layKnown_130 1 rfl rfl ?_
          refine r_getR h fd_YM_0_25 cf_M fl_M_65 d_M_layKnown_131 ?_
          refine r_bipush h d_M_layKnown_134 kb_60 ?_
          refine r_iload_n h d_M_layKnown_136 3 rfl rfl ?_
          refine r_imul h d_M_layKnown_137 ?_
          refine r_iload_n h d_M_layKnown_138 4 rfl rfl ?_
          refine r_iadd h d_M_layKnown_139 ?_
          refine r_iald h sh_YM_19 d_M_layKnown_140 hf (fun hf => ?_)
          refine r_iast h sh_YM_19 d_M_layKnown_141 hf (fun hf => ?_)
          refine r_iinc (ls' := [(3, .int (x3 + (1 : Int32))), (4, .int (0 : Int32)), (0, .ref (ya Z 0)), (1, .int x1), (2, .int x2)]) h d_M_layKnown_142 4 rfl ki_1 (by decide) rfl ?_
          refine r_goto h d_M_layKnown_145 ?_
          refine r_sub h [2, 3, 4, 0] rfl ?_
          exact ih _ _ hf
        · refine r_iconst h d_M_layKnown_104 ki_1 ?_
          refine r_goto h d_M_layKnown_105 ?_
          refine r_istore (ls' := [(4, .int (1 : Int32)), (0, .ref (ya Z 0)), (1, .int x1), (2, .int x2), (3, .int x3)]) h d_M_layKnown_109 (by decide) rfl ?_
          refine r_aload_n h d_M_layKnown_111 1 rfl rfl ?_
          refine r_getR h fd_YM_0_25 cf_M fl_M_65 d_M_layKnown_112 ?_
          refine r_bipush h d_M_layKnown_115 kb_60 ?_
          refine r_iload_n h d_M_layKnown_117 3 rfl rfl ?_
          refine r_imul h d_M_layKnown_118 ?_
          refine r_iload_n h d_M_layKnown_119 4 rfl rfl ?_
          refine r_iadd h d_M_layKnown_120 ?_
          refine r_iload h d_M_layKnown_121 0 rfl ?_
          refine r_if_eq_F h d_M_layKnown_123 (by decide) ?_
          refine r_iload_n h d_M_layKnown_126 2 rfl rfl ?_
          refine r_goto h d_M_layKnown_127 ?_
          refine r_iast h sh_YM_19 d_M_layKnown_141 hf (fun hf => ?_)
          refine r_iinc (ls' := [(3, .int (x3 + (1 : Int32))), (4, .int (1 : Int32)), (0, .ref (ya Z 0)), (1, .int x1), (2, .int x2)]) h d_M_layKnown_142 4 rfl ki_1 (by decide) rfl ?_
          refine r_goto h d_M_layKnown_145 ?_
          refine r_sub h [2, 3, 4, 0] rfl ?_
          exact ih _ _ hf

set_option maxHeartbeats 4000000 in
theorem w_M_layKnown_L61 {Z : Sy} {Γ : Nat → List (Nat × Value) → List Value → St → Prop} {res : St} {x1 : Int32} {k50 : Int32 → St → Option St} (h : IsG YM Z R_M c_M_layKnown 5 4 none none res Γ) (hk50 : ∀ (x1 : Int32) (σ : St), k50 x1 σ = some res → Γ 50 [(0, .ref (ya Z 0)), (1, .int x1)] [] σ) : ∀ (n : Nat) (x2 : Int32) (σ : St), M_layKnown_L61 x1 k50 n x2 σ = some res → Γ 61 [(0, .ref (ya Z 0)), (1, .int x1), (2, .int x2)] [] σ := by
  intro n
  induction n with
  | zero => intro x2 σ hf; exact absurd hf (by simp [M_layKnown_L61])
  | succ n ih =>
    intro x2 σ hf
    rw [M_layKnown_L61] at hf
    refine r_iload_n h d_M_layKnown_61 2 rfl rfl ?_
    refine r_bipush h d_M_layKnown_62 kb_7 ?_
    refine r_icmp_ge h d_M_layKnown_64 hf (fun hf => ?_) (fun hf => ?_)
    · refine r_aload_n h d_M_layKnown_154 0 rfl rfl ?_
      refine r_iload_n h d_M_layKnown_155 1 rfl rfl ?_
      obtain ⟨r156, e156, hf⟩ := q_bind hf
      refine r_callV (As := [.int x1]) (rest := []) h sh_YM_0 lk_M_312 vk_M_312 d_M_layKnown_156 (by decide) rfl rfl (Nat.le_of_ble_eq_true rfl) (m_M_nextDay e156) ?_
      refine r_istore_n (ls' := [(1, .int r156), (0, .ref (ya Z 0)), (2, .int x2)]) h d_M_layKnown_159 rfl (by decide) rfl ?_
      refine r_goto h d_M_layKnown_160 ?_
      refine r_sub h [1, 0] rfl ?_
      exact hk50 _ _ hf
    · refine r_iconst h d_M_layKnown_67 ki_0 ?_
      refine r_istore_n (ls' := [(3, .int (0 : Int32)), (0, .ref (ya Z 0)), (1, .int x1), (2, .int x2)]) h d_M_layKnown_68 rfl (by decide) rfl ?_
      refine r_sub h [1, 2, 3, 0] rfl ?_
      exact w_M_layKnown_L69 h hk50 (fun y2 τ hf => ih y2 τ hf) _ _ _ hf

set_option maxHeartbeats 4000000 in
theorem w_M_layKnown_L50 {Z : Sy} {Γ : Nat → List (Nat × Value) → List Value → St → Prop} {res : St} (h : IsG YM Z R_M c_M_layKnown 5 4 none none res Γ) : ∀ (n : Nat) (x1 : Int32) (σ : St), M_layKnown_L50 n x1 σ = some res → Γ 50 [(0, .ref (ya Z 0)), (1, .int x1)] [] σ := by
  intro n
  induction n with
  | zero => intro x1 σ hf; exact absurd hf (by simp [M_layKnown_L50])
  | succ n ih =>
    intro x1 σ hf
    rw [M_layKnown_L50] at hf
    refine r_iload_n h d_M_layKnown_50 1 rfl rfl ?_
    refine r_if_lt h d_M_layKnown_51 hf (fun hf => ?_) (fun hf => ?_)
    · exact r_vreturn h d_M_layKnown_163.1 (Option.some.inj hf)
    · refine r_aload_n h d_M_layKnown_54 0 rfl rfl ?_
      refine r_iload_n h d_M_layKnown_55 1 rfl rfl ?_
      obtain ⟨q56, e56, hf⟩ := q_bind hf
      refine r_callV (As := [.int x1]) (rest := []) h sh_YM_0 lk_M_315 vk_M_315 d_M_layKnown_56 (by decide) rfl rfl (Nat.le_of_ble_eq_true rfl) (m_M_shareOn e56) ?_
      refine r_iconst h d_M_layKnown_59 ki_0 ?_
      refine r_istore_n (ls' := [(2, .int (0 : Int32)), (0, .ref (ya Z 0)), (1, .int x1)]) h d_M_layKnown_60 rfl (by decide) rfl ?_
      refine r_sub h [1, 2, 0] rfl ?_
      exact w_M_layKnown_L61 h (fun y1 τ hf => ih y1 τ hf) _ _ _ hf

set_option maxHeartbeats 4000000 in
theorem w_M_layKnown_L23 {Z : Sy} {Γ : Nat → List (Nat × Value) → List Value → St → Prop} {res : St} (h : IsG YM Z R_M c_M_layKnown 5 4 none none res Γ) : ∀ (n : Nat) (x1 : Int32) (σ : St), M_layKnown_L23 n x1 σ = some res → Γ 23 [(0, .ref (ya Z 0)), (1, .int x1)] [] σ := by
  intro n
  induction n with
  | zero => intro x1 σ hf; exact absurd hf (by simp [M_layKnown_L23])
  | succ n ih =>
    intro x1 σ hf
    rw [M_layKnown_L23] at hf
    refine r_iload_n h d_M_layKnown_23 1 rfl rfl ?_
    refine r_sipush h d_M_layKnown_24 ks_420 ?_
    refine r_icmp_ge h d_M_layKnown_27 hf (fun hf => ?_) (fun hf => ?_)
    · refine r_aload_n h d_M_layKnown_44 0 rfl rfl ?_
      refine r_iconst h d_M_layKnown_45 ki_m1 ?_
      obtain ⟨r46, e46, hf⟩ := q_bind hf
      refine r_callV (As := [.int (-1 : Int32)]) (rest := []) h sh_YM_0 lk_M_312 vk_M_312 d_M_layKnown_46 (by decide) rfl rfl (Nat.le_of_ble_eq_true rfl) (m_M_nextDay e46) ?_
      refine r_istore_n (ls' := [(1, .int r46), (0, .ref (ya Z 0))]) h d_M_layKnown_49 rfl (by decide) rfl ?_
      refine r_sub h [1, 0] rfl ?_
      exact w_M_layKnown_L50 h _ _ _ hf
    · refine r_aload_n h d_M_layKnown_30 0 rfl rfl ?_
      refine r_getR h fd_YM_0_25 cf_M fl_M_65 d_M_layKnown_31 ?_
      refine r_iload_n h d_M_layKnown_34 1 rfl rfl ?_
      refine r_bipush h d_M_layKnown_35 kb_m9 ?_
      refine r_iast h sh_YM_19 d_M_layKnown_37 hf (fun hf => ?_)
      refine r_iinc (ls' := [(1, .int (x1 + (1 : Int32))), (0, .ref (ya Z 0))]) h d_M_layKnown_38 1 rfl ki_1 (by decide) rfl ?_
      refine r_goto h d_M_layKnown_41 ?_
      refine r_sub h [1, 0] rfl ?_
      exact ih _ _ hf

set_option maxHeartbeats 4000000 in
theorem w_M_layKnown_L2 {Z : Sy} {Γ : Nat → List (Nat × Value) → List Value → St → Prop} {res : St} (h : IsG YM Z R_M c_M_layKnown 5 4 none none res Γ) : ∀ (n : Nat) (x1 : Int32) (σ : St), M_layKnown_L2 n x1 σ = some res → Γ 2 [(0, .ref (ya Z 0)), (1, .int x1)] [] σ := by
  intro n
  induction n with
  | zero => intro x1 σ hf; exact absurd hf (by simp [M_layKnown_L2])
  | succ n ih =>
    intro x1 σ hf
    rw [M_layKnown_L2] at hf
    refine r_iload_n h d_M_layKnown_2 1 rfl rfl ?_
    refine r_bipush h d_M_layKnown_3 kb_7 ?_
    refine r_icmp_ge h d_M_layKnown_5 hf (fun hf => ?_) (fun hf => ?_)
    · refine r_iconst h d_M_layKnown_21 ki_0 ?_
      refine r_istore_n (ls' := [(1, .int (0 : Int32)), (0, .ref (ya Z 0))]) h d_M_layKnown_22 rfl (by decide) rfl ?_
      refine r_sub h [1, 0] rfl ?_
      exact w_M_layKnown_L23 h _ _ _ hf
    · refine r_aload_n h d_M_layKnown_8 0 rfl rfl ?_
      refine r_getR h fd_YM_0_24 cf_M fl_M_61 d_M_layKnown_9 ?_
      refine r_iload_n h d_M_layKnown_12 1 rfl rfl ?_
      refine r_lconst h d_M_layKnown_13 kl_0 ?_
      refine r_last h sh_YM_18 d_M_layKnown_14 hf (fun hf => ?_)
      refine r_iinc (ls' := [(1, .int (x1 + (1 : Int32))), (0, .ref (ya Z 0))]) h d_M_layKnown_15 1 rfl ki_1 (by decide) rfl ?_
      refine r_goto h d_M_layKnown_18 ?_
      refine r_sub h [1, 0] rfl ?_
      exact ih _ _ hf

set_option maxHeartbeats 4000000 in
theorem m_M_layKnown {Z : Sy} {σ : St} {res : St} (hf : M_layKnown  σ = some res) : Ct YM Z y_M_layKnown c_M_layKnown 5 none 4 [.ref (ya Z 0)] σ none res := by
  refine Ct.of pn_M (Nat.le_of_ble_eq_true rfl) rfl (fun Γ h => ?_)
  have h : IsG YM Z R_M c_M_layKnown 5 4 none none res Γ := h
  unfold M_layKnown at hf
  refine r_iconst h d_M_layKnown_0 ki_0 ?_
  refine r_istore_n (ls' := [(1, .int (0 : Int32)), (0, .ref (ya Z 0))]) h d_M_layKnown_1 rfl (by decide) rfl ?_
  refine r_sub h [1, 0] rfl ?_
  exact w_M_layKnown_L2 h _ _ _ hf

theorem d_M_known_0 : decode c_M_known 0 = .ok (.iload_n 1, 1) ∧ 0 + 1 = 1 := by decide +kernel
theorem d_M_known_1 : decode c_M_known 1 = .ok (.i2l, 1) ∧ 1 + 1 = 2 := by decide +kernel
theorem d_M_known_2 : decode c_M_known 2 = .ok (.lconst 0, 1) ∧ 2 + 1 = 3 := by decide +kernel
theorem d_M_known_3 : decode c_M_known 3 = .ok (.aload_n 0, 1) ∧ 3 + 1 = 4 := by decide +kernel
theorem d_M_known_4 : decode c_M_known 4 = .ok (.getfield 268, 3) ∧ 4 + 3 = 7 := by decide +kernel
theorem d_M_known_7 : decode c_M_known 7 = .ok (.i2l, 1) ∧ 7 + 1 = 8 := by decide +kernel
theorem d_M_known_8 : decode c_M_known 8 = .ok (.lconst 1, 1) ∧ 8 + 1 = 9 := by decide +kernel
theorem d_M_known_9 : decode c_M_known 9 = .ok (.lsub, 1) ∧ 9 + 1 = 10 := by decide +kernel
theorem d_M_known_10 : decode c_M_known 10 = .ok (.invokestatic 201, 3) ∧ 10 + 3 = 13 := by decide +kernel
theorem d_M_known_13 : decode c_M_known 13 = .ok (.ifCond .eq 11, 3) ∧ 13 + 3 = 16 ∧ ((13 : Nat) : Int) + 11 = ((24 : Nat) : Int) := by decide +kernel
theorem d_M_known_16 : decode c_M_known 16 = .ok (.aload_n 0, 1) ∧ 16 + 1 = 17 := by decide +kernel
theorem d_M_known_17 : decode c_M_known 17 = .ok (.iload_n 2, 1) ∧ 17 + 1 = 18 := by decide +kernel
theorem d_M_known_18 : decode c_M_known 18 = .ok (.invokevirtual 323, 3) ∧ 18 + 3 = 21 := by decide +kernel
theorem d_M_known_21 : decode c_M_known 21 = .ok (.ifCond .eq 5, 3) ∧ 21 + 3 = 24 ∧ ((21 : Nat) : Int) + 5 = ((26 : Nat) : Int) := by decide +kernel
theorem d_M_known_24 : decode c_M_known 24 = .ok (.iconst (-1), 1) ∧ 24 + 1 = 25 := by decide +kernel
theorem d_M_known_25 : decode c_M_known 25 = .ok (.ireturn, 1) ∧ 25 + 1 = 26 := by decide +kernel
theorem d_M_known_26 : decode c_M_known 26 = .ok (.aload_n 0, 1) ∧ 26 + 1 = 27 := by decide +kernel
theorem d_M_known_27 : decode c_M_known 27 = .ok (.invokevirtual 326, 3) ∧ 27 + 3 = 30 := by decide +kernel
theorem d_M_known_30 : decode c_M_known 30 = .ok (.aload_n 0, 1) ∧ 30 + 1 = 31 := by decide +kernel
theorem d_M_known_31 : decode c_M_known 31 = .ok (.getfield 65, 3) ∧ 31 + 3 = 34 := by decide +kernel
theorem d_M_known_34 : decode c_M_known 34 = .ok (.bipush 60, 2) ∧ 34 + 2 = 36 := by decide +kernel
theorem d_M_known_36 : decode c_M_known 36 = .ok (.iload_n 2, 1) ∧ 36 + 1 = 37 := by decide +kernel
theorem d_M_known_37 : decode c_M_known 37 = .ok (.ifCond .ge 8, 3) ∧ 37 + 3 = 40 ∧ ((37 : Nat) : Int) + 8 = ((45 : Nat) : Int) := by decide +kernel
theorem d_M_known_40 : decode c_M_known 40 = .ok (.bipush 6, 2) ∧ 40 + 2 = 42 := by decide +kernel
theorem d_M_known_42 : decode c_M_known 42 = .ok (.goto 4, 3) ∧ (42 : Int) + 4 = (46 : Int) := by decide +kernel
theorem d_M_known_45 : decode c_M_known 45 = .ok (.iload_n 2, 1) ∧ 45 + 1 = 46 := by decide +kernel
theorem d_M_known_46 : decode c_M_known 46 = .ok (.imul, 1) ∧ 46 + 1 = 47 := by decide +kernel
theorem d_M_known_47 : decode c_M_known 47 = .ok (.iload_n 1, 1) ∧ 47 + 1 = 48 := by decide +kernel
theorem d_M_known_48 : decode c_M_known 48 = .ok (.iadd, 1) ∧ 48 + 1 = 49 := by decide +kernel
theorem d_M_known_49 : decode c_M_known 49 = .ok (.iaload, 1) ∧ 49 + 1 = 50 := by decide +kernel
theorem d_M_known_50 : decode c_M_known 50 = .ok (.ireturn, 1) ∧ 50 + 1 = 51 := by decide +kernel
set_option maxHeartbeats 4000000 in
theorem m_M_known {Z : Sy} {σ : St} {res : (Int32 × St)} {x1 : Int32} {x2 : Int32} (hf : M_known x1 x2 σ = some res) : Ct YM Z y_M_known c_M_known 3 (some .int) 5 [.ref (ya Z 0), .int x1, .int x2] σ (some (.int res.1)) res.2 := by
  refine Ct.of pn_M (Nat.le_of_ble_eq_true rfl) rfl (fun Γ h => ?_)
  have h : IsG YM Z R_M c_M_known 3 5 (some .int) (some (.int res.1)) res.2 Γ := h
  unfold M_known at hf
  refine r_iload_n h d_M_known_0 1 rfl rfl ?_
  refine r_i2l h d_M_known_1 ?_
  refine r_lconst h d_M_known_2 kl_0 ?_
  refine r_aload_n h d_M_known_3 0 rfl rfl ?_
  refine r_getI h fd_YM_0_17 cf_M fl_M_268 d_M_known_4 ?_
  refine r_i2l h d_M_known_7 ?_
  refine r_lconst h d_M_known_8 kl_1 ?_
  refine r_lsub h d_M_known_9 ?_
  obtain ⟨r10, e10, hf⟩ := q_bind hf
  refine r_callS (As := [.long (Int32.toInt64 x1), .long (0 : Int64), .long ((Int32.toInt64 (σ.1 0 17)) - (1 : Int64))]) (rest := []) h lk_M_201 sk_M_201 d_M_known_10 (by decide) rfl rfl (Nat.le_of_ble_eq_true rfl) (m_M_in e10) ?_
  refine r_bif_eq h d_M_known_13 hf (fun hf => ?_) (fun hf => ?_)
  · refine r_iconst h d_M_known_24 ki_m1 ?_
    exact r_ireturn h d_M_known_25.1 (q_p1 hf) (q_p2 hf)
  · refine r_aload_n h d_M_known_16 0 rfl rfl ?_
    refine r_iload_n h d_M_known_17 2 rfl rfl ?_
    obtain ⟨r18, e18, hf⟩ := q_bind hf
    refine r_callV (As := [.int x2]) (rest := []) h sh_YM_0 lk_M_323 vk_M_323 d_M_known_18 (by decide) rfl rfl (Nat.le_of_ble_eq_true rfl) (m_M_noKnower e18) ?_
    refine r_bif_eq h d_M_known_21 hf (fun hf => ?_) (fun hf => ?_)
    · refine r_aload_n h d_M_known_26 0 rfl rfl ?_
      obtain ⟨q27, e27, hf⟩ := q_bind hf
      refine r_callV (As := []) (rest := []) h sh_YM_0 lk_M_326 vk_M_326 d_M_known_27 (by decide) rfl rfl (Nat.le_of_ble_eq_true rfl) (m_M_layKnown e27) ?_
      refine r_aload_n h d_M_known_30 0 rfl rfl ?_
      refine r_getR h fd_YM_0_25 cf_M fl_M_65 d_M_known_31 ?_
      refine r_bipush h d_M_known_34 kb_60 ?_
      refine r_iload_n h d_M_known_36 2 rfl rfl ?_
      refine r_if_ge h d_M_known_37 hf (fun hf => ?_) (fun hf => ?_)
      · refine r_iload_n h d_M_known_45 2 rfl rfl ?_
        refine r_imul h d_M_known_46 ?_
        refine r_iload_n h d_M_known_47 1 rfl rfl ?_
        refine r_iadd h d_M_known_48 ?_
        refine r_iald h sh_YM_19 d_M_known_49 hf (fun hf => ?_)
        exact r_ireturn h d_M_known_50.1 (q_p1 hf) (q_p2 hf)
      · refine r_bipush h d_M_known_40 kb_6 ?_
        refine r_goto h d_M_known_42 ?_
        refine r_imul h d_M_known_46 ?_
        refine r_iload_n h d_M_known_47 1 rfl rfl ?_
        refine r_iadd h d_M_known_48 ?_
        refine r_iald h sh_YM_19 d_M_known_49 hf (fun hf => ?_)
        exact r_ireturn h d_M_known_50.1 (q_p1 hf) (q_p2 hf)
    · refine r_iconst h d_M_known_24 ki_m1 ?_
      exact r_ireturn h d_M_known_25.1 (q_p1 hf) (q_p2 hf)

theorem d_M_as_0 : decode c_M_as 0 = .ok (.aload_n 0, 1) ∧ 0 + 1 = 1 := by decide +kernel
theorem d_M_as_1 : decode c_M_as 1 = .ok (.iload_n 1, 1) ∧ 1 + 1 = 2 := by decide +kernel
theorem d_M_as_2 : decode c_M_as 2 = .ok (.invokevirtual 284, 3) ∧ 2 + 3 = 5 := by decide +kernel
theorem d_M_as_5 : decode c_M_as 5 = .ok (.ifCond .eq 5, 3) ∧ 5 + 3 = 8 ∧ ((5 : Nat) : Int) + 5 = ((10 : Nat) : Int) := by decide +kernel
theorem d_M_as_8 : decode c_M_as 8 = .ok (.iconst (-1), 1) ∧ 8 + 1 = 9 := by decide +kernel
theorem d_M_as_9 : decode c_M_as 9 = .ok (.ireturn, 1) ∧ 9 + 1 = 10 := by decide +kernel
theorem d_M_as_10 : decode c_M_as 10 = .ok (.iload_n 2, 1) ∧ 10 + 1 = 11 := by decide +kernel
theorem d_M_as_11 : decode c_M_as 11 = .ok (.invokestatic 273, 3) ∧ 11 + 3 = 14 := by decide +kernel
theorem d_M_as_14 : decode c_M_as 14 = .ok (.ifCond .eq 18, 3) ∧ 14 + 3 = 17 ∧ ((14 : Nat) : Int) + 18 = ((32 : Nat) : Int) := by decide +kernel
theorem d_M_as_17 : decode c_M_as 17 = .ok (.iload_n 3, 1) ∧ 17 + 1 = 18 := by decide +kernel
theorem d_M_as_18 : decode c_M_as 18 = .ok (.invokestatic 205, 3) ∧ 18 + 3 = 21 := by decide +kernel
theorem d_M_as_21 : decode c_M_as 21 = .ok (.ifCond .eq 11, 3) ∧ 21 + 3 = 24 ∧ ((21 : Nat) : Int) + 11 = ((32 : Nat) : Int) := by decide +kernel
theorem d_M_as_24 : decode c_M_as 24 = .ok (.iload 4, 2) ∧ 24 + 2 = 26 := by decide +kernel
theorem d_M_as_26 : decode c_M_as 26 = .ok (.invokestatic 205, 3) ∧ 26 + 3 = 29 := by decide +kernel
theorem d_M_as_29 : decode c_M_as 29 = .ok (.ifCond .ne 6, 3) ∧ 29 + 3 = 32 ∧ ((29 : Nat) : Int) + 6 = ((35 : Nat) : Int) := by decide +kernel
theorem d_M_as_32 : decode c_M_as 32 = .ok (.bipush (-2), 2) ∧ 32 + 2 = 34 := by decide +kernel
theorem d_M_as_34 : decode c_M_as 34 = .ok (.ireturn, 1) ∧ 34 + 1 = 35 := by decide +kernel
theorem d_M_as_35 : decode c_M_as 35 = .ok (.aload_n 0, 1) ∧ 35 + 1 = 36 := by decide +kernel
theorem d_M_as_36 : decode c_M_as 36 = .ok (.invokevirtual 326, 3) ∧ 36 + 3 = 39 := by decide +kernel
theorem d_M_as_39 : decode c_M_as 39 = .ok (.iconst 0, 1) ∧ 39 + 1 = 40 := by decide +kernel
theorem d_M_as_40 : decode c_M_as 40 = .ok (.istore 5, 2) ∧ 40 + 2 = 42 := by decide +kernel
theorem d_M_as_42 : decode c_M_as 42 = .ok (.iconst 0, 1) ∧ 42 + 1 = 43 := by decide +kernel
theorem d_M_as_43 : decode c_M_as 43 = .ok (.istore 6, 2) ∧ 43 + 2 = 45 := by decide +kernel
theorem d_M_as_45 : decode c_M_as 45 = .ok (.iload 6, 2) ∧ 45 + 2 = 47 := by decide +kernel
theorem d_M_as_47 : decode c_M_as 47 = .ok (.aload_n 0, 1) ∧ 47 + 1 = 48 := by decide +kernel
theorem d_M_as_48 : decode c_M_as 48 = .ok (.getfield 268, 3) ∧ 48 + 3 = 51 := by decide +kernel
theorem d_M_as_51 : decode c_M_as 51 = .ok (.if_icmp .ge 98, 3) ∧ 51 + 3 = 54 ∧ ((51 : Nat) : Int) + 98 = ((149 : Nat) : Int) := by decide +kernel
theorem d_M_as_54 : decode c_M_as 54 = .ok (.aload_n 0, 1) ∧ 54 + 1 = 55 := by decide +kernel
theorem d_M_as_55 : decode c_M_as 55 = .ok (.getfield 43, 3) ∧ 55 + 3 = 58 := by decide +kernel
theorem d_M_as_58 : decode c_M_as 58 = .ok (.iload 6, 2) ∧ 58 + 2 = 60 := by decide +kernel
theorem d_M_as_60 : decode c_M_as 60 = .ok (.iaload, 1) ∧ 60 + 1 = 61 := by decide +kernel
theorem d_M_as_61 : decode c_M_as 61 = .ok (.iload_n 1, 1) ∧ 61 + 1 = 62 := by decide +kernel
theorem d_M_as_62 : decode c_M_as 62 = .ok (.if_icmp .ne 81, 3) ∧ 62 + 3 = 65 ∧ ((62 : Nat) : Int) + 81 = ((143 : Nat) : Int) := by decide +kernel
theorem d_M_as_65 : decode c_M_as 65 = .ok (.aload_n 0, 1) ∧ 65 + 1 = 66 := by decide +kernel
theorem d_M_as_66 : decode c_M_as 66 = .ok (.getfield 49, 3) ∧ 66 + 3 = 69 := by decide +kernel
theorem d_M_as_69 : decode c_M_as 69 = .ok (.iload 6, 2) ∧ 69 + 2 = 71 := by decide +kernel
theorem d_M_as_71 : decode c_M_as 71 = .ok (.iaload, 1) ∧ 71 + 1 = 72 := by decide +kernel
theorem d_M_as_72 : decode c_M_as 72 = .ok (.iload_n 2, 1) ∧ 72 + 1 = 73 := by decide +kernel
theorem d_M_as_73 : decode c_M_as 73 = .ok (.if_icmp .ne 70, 3) ∧ 73 + 3 = 76 ∧ ((73 : Nat) : Int) + 70 = ((143 : Nat) : Int) := by decide +kernel
theorem d_M_as_76 : decode c_M_as 76 = .ok (.aload_n 0, 1) ∧ 76 + 1 = 77 := by decide +kernel
theorem d_M_as_77 : decode c_M_as 77 = .ok (.getfield 58, 3) ∧ 77 + 3 = 80 := by decide +kernel
theorem d_M_as_80 : decode c_M_as 80 = .ok (.iload 6, 2) ∧ 80 + 2 = 82 := by decide +kernel
theorem d_M_as_82 : decode c_M_as 82 = .ok (.iaload, 1) ∧ 82 + 1 = 83 := by decide +kernel
theorem d_M_as_83 : decode c_M_as 83 = .ok (.iload_n 3, 1) ∧ 83 + 1 = 84 := by decide +kernel
theorem d_M_as_84 : decode c_M_as 84 = .ok (.if_icmp .gt 59, 3) ∧ 84 + 3 = 87 ∧ ((84 : Nat) : Int) + 59 = ((143 : Nat) : Int) := by decide +kernel
theorem d_M_as_87 : decode c_M_as 87 = .ok (.aload_n 0, 1) ∧ 87 + 1 = 88 := by decide +kernel
theorem d_M_as_88 : decode c_M_as 88 = .ok (.getfield 65, 3) ∧ 88 + 3 = 91 := by decide +kernel
theorem d_M_as_91 : decode c_M_as 91 = .ok (.sipush 360, 3) ∧ 91 + 3 = 94 := by decide +kernel
theorem d_M_as_94 : decode c_M_as 94 = .ok (.iload 6, 2) ∧ 94 + 2 = 96 := by decide +kernel
theorem d_M_as_96 : decode c_M_as 96 = .ok (.iadd, 1) ∧ 96 + 1 = 97 := by decide +kernel
theorem d_M_as_97 : decode c_M_as 97 = .ok (.iaload, 1) ∧ 97 + 1 = 98 := by decide +kernel
theorem d_M_as_98 : decode c_M_as 98 = .ok (.i2l, 1) ∧ 98 + 1 = 99 := by decide +kernel
theorem d_M_as_99 : decode c_M_as 99 = .ok (.lconst 0, 1) ∧ 99 + 1 = 100 := by decide +kernel
theorem d_M_as_100 : decode c_M_as 100 = .ok (.iload 4, 2) ∧ 100 + 2 = 102 := by decide +kernel
theorem d_M_as_102 : decode c_M_as 102 = .ok (.i2l, 1) ∧ 102 + 1 = 103 := by decide +kernel
theorem d_M_as_103 : decode c_M_as 103 = .ok (.invokestatic 201, 3) ∧ 103 + 3 = 106 := by decide +kernel
theorem d_M_as_106 : decode c_M_as 106 = .ok (.ifCond .eq 37, 3) ∧ 106 + 3 = 109 ∧ ((106 : Nat) : Int) + 37 = ((143 : Nat) : Int) := by decide +kernel
theorem d_M_as_109 : decode c_M_as 109 = .ok (.iload 5, 2) ∧ 109 + 2 = 111 := by decide +kernel
theorem d_M_as_111 : decode c_M_as 111 = .ok (.aload_n 0, 1) ∧ 111 + 1 = 112 := by decide +kernel
theorem d_M_as_112 : decode c_M_as 112 = .ok (.getfield 46, 3) ∧ 112 + 3 = 115 := by decide +kernel
theorem d_M_as_115 : decode c_M_as 115 = .ok (.iload 6, 2) ∧ 115 + 2 = 117 := by decide +kernel
theorem d_M_as_117 : decode c_M_as 117 = .ok (.iaload, 1) ∧ 117 + 1 = 118 := by decide +kernel
theorem d_M_as_118 : decode c_M_as 118 = .ok (.iconst 2, 1) ∧ 118 + 1 = 119 := by decide +kernel
theorem d_M_as_119 : decode c_M_as 119 = .ok (.if_icmp .ge 13, 3) ∧ 119 + 3 = 122 ∧ ((119 : Nat) : Int) + 13 = ((132 : Nat) : Int) := by decide +kernel
theorem d_M_as_122 : decode c_M_as 122 = .ok (.aload_n 0, 1) ∧ 122 + 1 = 123 := by decide +kernel
theorem d_M_as_123 : decode c_M_as 123 = .ok (.getfield 52, 3) ∧ 123 + 3 = 126 := by decide +kernel
theorem d_M_as_126 : decode c_M_as 126 = .ok (.iload 6, 2) ∧ 126 + 2 = 128 := by decide +kernel
theorem d_M_as_128 : decode c_M_as 128 = .ok (.iaload, 1) ∧ 128 + 1 = 129 := by decide +kernel
theorem d_M_as_129 : decode c_M_as 129 = .ok (.goto 11, 3) ∧ (129 : Int) + 11 = (140 : Int) := by decide +kernel
theorem d_M_as_132 : decode c_M_as 132 = .ok (.aload_n 0, 1) ∧ 132 + 1 = 133 := by decide +kernel
theorem d_M_as_133 : decode c_M_as 133 = .ok (.getfield 52, 3) ∧ 133 + 3 = 136 := by decide +kernel
theorem d_M_as_136 : decode c_M_as 136 = .ok (.iload 6, 2) ∧ 136 + 2 = 138 := by decide +kernel
theorem d_M_as_138 : decode c_M_as 138 = .ok (.iaload, 1) ∧ 138 + 1 = 139 := by decide +kernel
theorem d_M_as_139 : decode c_M_as 139 = .ok (.ineg, 1) ∧ 139 + 1 = 140 := by decide +kernel
theorem d_M_as_140 : decode c_M_as 140 = .ok (.iadd, 1) ∧ 140 + 1 = 141 := by decide +kernel
theorem d_M_as_141 : decode c_M_as 141 = .ok (.istore 5, 2) ∧ 141 + 2 = 143 := by decide +kernel
theorem d_M_as_143 : decode c_M_as 143 = .ok (.iinc 6 1, 3) ∧ 143 + 3 = 146 := by decide +kernel
theorem d_M_as_146 : decode c_M_as 146 = .ok (.goto (-101), 3) ∧ (146 : Int) + (-101) = (45 : Int) := by decide +kernel
theorem d_M_as_149 : decode c_M_as 149 = .ok (.iload 5, 2) ∧ 149 + 2 = 151 := by decide +kernel
theorem d_M_as_151 : decode c_M_as 151 = .ok (.ireturn, 1) ∧ 151 + 1 = 152 := by decide +kernel
set_option maxHeartbeats 4000000 in
theorem w_M_as_L45 {Z : Sy} {Γ : Nat → List (Nat × Value) → List Value → St → Prop} {res : (Int32 × St)} {x1 : Int32} {x2 : Int32} {x3 : Int32} {x4 : Int32} {σ : St} (h : IsG YM Z R_M c_M_as 7 5 (some .int) (some (.int res.1)) res.2 Γ) : ∀ (n : Nat) (x5 : Int32) (x6 : Int32), M_as_L45 x1 x2 x3 x4 σ n x5 x6 = some res → Γ 45 [(0, .ref (ya Z 0)), (1, .int x1), (2, .int x2), (3, .int x3), (4, .int x4), (5, .int x5), (6, .int x6)] [] σ := by
  intro n
  induction n with
  | zero => intro x5 x6 hf; exact absurd hf (by simp [M_as_L45])
  | succ n ih =>
    intro x5 x6 hf
    rw [M_as_L45] at hf
    refine r_iload h d_M_as_45 6 rfl ?_
    refine r_aload_n h d_M_as_47 0 rfl rfl ?_
    refine r_getI h fd_YM_0_17 cf_M fl_M_268 d_M_as_48 ?_
    refine r_icmp_ge h d_M_as_51 hf (fun hf => ?_) (fun hf => ?_)
    · refine r_iload h d_M_as_149 5 rfl ?_
      exact r_ireturn h d_M_as_151.1 (q_p1 hf) (q_p2 hf)
    · refine r_aload_n h d_M_as_54 0 rfl rfl ?_
      refine r_getR h fd_YM_0_18 cf_M fl_M_43 d_M_as_55 ?_
      refine r_iload h d_M_as_58 6 rfl ?_
      refine r_iald h sh_YM_12 d_M_as_60 hf (fun hf => ?_)
      refine r_iload_n h d_M_as_61 1 rfl rfl ?_
      refine r_icmp_ne h d_M_as_62 hf (fun hf => ?_) (fun hf => ?_)
      · refine r_iinc (ls' := [(6, .int (x6 + (1 : Int32))), (0, .ref (ya Z 0)), (1, .int x1), (2, .int x2), (3, .int x3), (4, .int x4), (5, .int x5)]) h d_M_as_143 6 rfl ki_1 (by decide) rfl ?_
        refine r_goto h d_M_as_146 ?_
        refine r_sub h [1, 2, 3, 4, 5, 6, 0] rfl ?_
        exact ih _ _ hf
      · refine r_aload_n h d_M_as_65 0 rfl rfl ?_
        refine r_getR h fd_YM_0_20 cf_M fl_M_49 d_M_as_66 ?_
        refine r_iload h d_M_as_69 6 rfl ?_
        refine r_iald h sh_YM_14 d_M_as_71 hf (fun hf => ?_)
        refine r_iload_n h d_M_as_72 2 rfl rfl ?_
        refine r_icmp_ne h d_M_as_73 hf (fun hf => ?_) (fun hf => ?_)
        · refine r_iinc (ls' := [(6, .int (x6 + (1 : Int32))), (0, .ref (ya Z 0)), (1, .int x1), (2, .int x2), (3, .int x3), (4, .int x4), (5, .int x5)]) h d_M_as_143 6 rfl ki_1 (by decide) rfl ?_
          refine r_goto h d_M_as_146 ?_
          refine r_sub h [1, 2, 3, 4, 5, 6, 0] rfl ?_
          exact ih _ _ hf
        · refine r_aload_n h d_M_as_76 0 rfl rfl ?_
          refine r_getR h fd_YM_0_23 cf_M fl_M_58 d_M_as_77 ?_
          refine r_iload h d_M_as_80 6 rfl ?_
          refine r_iald h sh_YM_17 d_M_as_82 hf (fun hf => ?_)
          refine r_iload_n h d_M_as_83 3 rfl rfl ?_
          refine r_icmp_gt h d_M_as_84 hf (fun hf => ?_) (fun hf => ?_)
          · refine r_iinc (ls' := [(6, .int (x6 + (1 : Int32))), (0, .ref (ya Z 0)), (1, .int x1), (2, .int x2), (3, .int x3), (4, .int x4), (5, .int x5)]) h d_M_as_143 6 rfl ki_1 (by decide) rfl ?_
            refine r_goto h d_M_as_146 ?_
            refine r_sub h [1, 2, 3, 4, 5, 6, 0] rfl ?_
            exact ih _ _ hf
          · refine r_aload_n h d_M_as_87 0 rfl rfl ?_
            refine r_getR h fd_YM_0_25 cf_M fl_M_65 d_M_as_88 ?_
            refine r_sipush h d_M_as_91 ks_360 ?_
            refine r_iload h d_M_as_94 6 rfl ?_
            refine r_iadd h d_M_as_96 ?_
            refine r_iald h sh_YM_19 d_M_as_97 hf (fun hf => ?_)
            refine r_i2l h d_M_as_98 ?_
            refine r_lconst h d_M_as_99 kl_0 ?_
            refine r_iload h d_M_as_100 4 rfl ?_
            refine r_i2l h d_M_as_102 ?_
            obtain ⟨r103, e103, hf⟩ := q_bind hf
            refine r_callS (As := [.long (Int32.toInt64 (σ.1 19 (Int32.toNatClampNeg ((360 : Int32) + x6)))), .long (0 : Int64), .long (Int32.toInt64 x4)]) (rest := []) h lk_M_201 sk_M_201 d_M_as_103 (by decide) rfl rfl (Nat.le_of_ble_eq_true rfl) (m_M_in e103) ?_
            refine r_bif_eq h d_M_as_106 hf (fun hf => ?_) (fun hf => ?_)
            · refine r_iinc (ls' := [(6, .int (x6 + (1 : Int32))), (0, .ref (ya Z 0)), (1, .int x1), (2, .int x2), (3, .int x3), (4, .int x4), (5, .int x5)]) h d_M_as_143 6 rfl ki_1 (by decide) rfl ?_
              refine r_goto h d_M_as_146 ?_
              refine r_sub h [1, 2, 3, 4, 5, 6, 0] rfl ?_
              exact ih _ _ hf
            · refine r_iload h d_M_as_109 5 rfl ?_
              refine r_aload_n h d_M_as_111 0 rfl rfl ?_
              refine r_getR h fd_YM_0_19 cf_M fl_M_46 d_M_as_112 ?_
              refine r_iload h d_M_as_115 6 rfl ?_
              refine r_iald h sh_YM_13 d_M_as_117 hf (fun hf => ?_)
              refine r_iconst h d_M_as_118 ki_2 ?_
              refine r_icmp_ge h d_M_as_119 hf (fun hf => ?_) (fun hf => ?_)
              · refine r_aload_n h d_M_as_132 0 rfl rfl ?_
                refine r_getR h fd_YM_0_21 cf_M fl_M_52 d_M_as_133 ?_
                refine r_iload h d_M_as_136 6 rfl ?_
                refine r_iald h sh_YM_15 d_M_as_138 hf (fun hf => ?_)
                refine r_ineg h d_M_as_139 ?_
                refine r_iadd h d_M_as_140 ?_
                refine r_istore (ls' := [(5, .int (x5 + (-(σ.1 15 (Int32.toNatClampNeg x6))))), (0, .ref (ya Z 0)), (1, .int x1), (2, .int x2), (3, .int x3), (4, .int x4), (6, .int x6)]) h d_M_as_141 (by decide) rfl ?_
                refine r_iinc (ls' := [(6, .int (x6 + (1 : Int32))), (5, .int (x5 + (-(σ.1 15 (Int32.toNatClampNeg x6))))), (0, .ref (ya Z 0)), (1, .int x1), (2, .int x2), (3, .int x3), (4, .int x4)]) h d_M_as_143 6 rfl ki_1 (by decide) rfl ?_
                refine r_goto h d_M_as_146 ?_
                refine r_sub h [2, 3, 4, 5, 6, 1, 0] rfl ?_
                exact ih _ _ hf
              · refine r_aload_n h d_M_as_122 0 rfl rfl ?_
                refine r_getR h fd_YM_0_21 cf_M fl_M_52 d_M_as_123 ?_
                refine r_iload h d_M_as_126 6 rfl ?_
                refine r_iald h sh_YM_15 d_M_as_128 hf (fun hf => ?_)
                refine r_goto h d_M_as_129 ?_
                refine r_iadd h d_M_as_140 ?_
                refine r_istore (ls' := [(5, .int (x5 + (σ.1 15 (Int32.toNatClampNeg x6)))), (0, .ref (ya Z 0)), (1, .int x1), (2, .int x2), (3, .int x3), (4, .int x4), (6, .int x6)]) h d_M_as_141 (by decide) rfl ?_
                refine r_iinc (ls' := [(6, .int (x6 + (1 : Int32))), (5, .int (x5 + (σ.1 15 (Int32.toNatClampNeg x6)))), (0, .ref (ya Z 0)), (1, .int x1), (2, .int x2), (3, .int x3), (4, .int x4)]) h d_M_as_143 6 rfl ki_1 (by decide) rfl ?_
                refine r_goto h d_M_as_146 ?_
                refine r_sub h [2, 3, 4, 5, 6, 1, 0] rfl ?_
                exact ih _ _ hf

set_option maxHeartbeats 4000000 in
theorem m_M_as {Z : Sy} {σ : St} {res : (Int32 × St)} {x1 : Int32} {x2 : Int32} {x3 : Int32} {x4 : Int32} (hf : M_as x1 x2 x3 x4 σ = some res) : Ct YM Z y_M_as c_M_as 7 (some .int) 5 [.ref (ya Z 0), .int x1, .int x2, .int x3, .int x4] σ (some (.int res.1)) res.2 := by
  refine Ct.of pn_M (Nat.le_of_ble_eq_true rfl) rfl (fun Γ h => ?_)
  have h : IsG YM Z R_M c_M_as 7 5 (some .int) (some (.int res.1)) res.2 Γ := h
  unfold M_as at hf
  refine r_aload_n h d_M_as_0 0 rfl rfl ?_
  refine r_iload_n h d_M_as_1 1 rfl rfl ?_
  obtain ⟨r2, e2, hf⟩ := q_bind hf
  refine r_callV (As := [.int x1]) (rest := []) h sh_YM_0 lk_M_284 vk_M_284 d_M_as_2 (by decide) rfl rfl (Nat.le_of_ble_eq_true rfl) (m_M_noPack e2) ?_
  refine r_bif_eq h d_M_as_5 hf (fun hf => ?_) (fun hf => ?_)
  · refine r_iload_n h d_M_as_10 2 rfl rfl ?_
    obtain ⟨r11, e11, hf⟩ := q_bind hf
    refine r_callS (As := [.int x2]) (rest := []) h lk_M_273 sk_M_273 d_M_as_11 (by decide) rfl rfl (Nat.le_of_ble_eq_true rfl) (m_M_isGood e11) ?_
    refine r_bif_eq h d_M_as_14 hf (fun hf => ?_) (fun hf => ?_)
    · refine r_bipush h d_M_as_32 kb_m2 ?_
      exact r_ireturn h d_M_as_34.1 (q_p1 hf) (q_p2 hf)
    · refine r_iload_n h d_M_as_17 3 rfl rfl ?_
      obtain ⟨r18, e18, hf⟩ := q_bind hf
      refine r_callS (As := [.int x3]) (rest := []) h lk_M_205 sk_M_205 d_M_as_18 (by decide) rfl rfl (Nat.le_of_ble_eq_true rfl) (m_M_isDay e18) ?_
      refine r_bif_eq h d_M_as_21 hf (fun hf => ?_) (fun hf => ?_)
      · refine r_bipush h d_M_as_32 kb_m2 ?_
        exact r_ireturn h d_M_as_34.1 (q_p1 hf) (q_p2 hf)
      · refine r_iload h d_M_as_24 4 rfl ?_
        obtain ⟨r26, e26, hf⟩ := q_bind hf
        refine r_callS (As := [.int x4]) (rest := []) h lk_M_205 sk_M_205 d_M_as_26 (by decide) rfl rfl (Nat.le_of_ble_eq_true rfl) (m_M_isDay e26) ?_
        refine r_bif_ne h d_M_as_29 hf (fun hf => ?_) (fun hf => ?_)
        · refine r_aload_n h d_M_as_35 0 rfl rfl ?_
          obtain ⟨q36, e36, hf⟩ := q_bind hf
          refine r_callV (As := []) (rest := []) h sh_YM_0 lk_M_326 vk_M_326 d_M_as_36 (by decide) rfl rfl (Nat.le_of_ble_eq_true rfl) (m_M_layKnown e36) ?_
          refine r_iconst h d_M_as_39 ki_0 ?_
          refine r_istore (ls' := [(5, .int (0 : Int32)), (0, .ref (ya Z 0)), (1, .int x1), (2, .int x2), (3, .int x3), (4, .int x4)]) h d_M_as_40 (by decide) rfl ?_
          refine r_iconst h d_M_as_42 ki_0 ?_
          refine r_istore (ls' := [(6, .int (0 : Int32)), (5, .int (0 : Int32)), (0, .ref (ya Z 0)), (1, .int x1), (2, .int x2), (3, .int x3), (4, .int x4)]) h d_M_as_43 (by decide) rfl ?_
          refine r_sub h [2, 3, 4, 5, 6, 1, 0] rfl ?_
          exact w_M_as_L45 h _ _ _ hf
        · refine r_bipush h d_M_as_32 kb_m2 ?_
          exact r_ireturn h d_M_as_34.1 (q_p1 hf) (q_p2 hf)
  · refine r_iconst h d_M_as_8 ki_m1 ?_
    exact r_ireturn h d_M_as_9.1 (q_p1 hf) (q_p2 hf)

