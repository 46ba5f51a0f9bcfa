theorem d_P_bodyOfRound_0 : decode c_P_bodyOfRound 0 = .ok (.aload_n 0, 1) ∧ 0 + 1 = 1 := by decide +kernel
theorem d_P_bodyOfRound_1 : decode c_P_bodyOfRound 1 = .ok (.iconst 2, 1) ∧ 1 + 1 = 2 := by decide +kernel
theorem d_P_bodyOfRound_2 : decode c_P_bodyOfRound 2 = .ok (.invokevirtual 428, 3) ∧ 2 + 3 = 5 := by decide +kernel
theorem d_P_bodyOfRound_5 : decode c_P_bodyOfRound 5 = .ok (.aload_n 0, 1) ∧ 5 + 1 = 6 := by decide +kernel
theorem d_P_bodyOfRound_6 : decode c_P_bodyOfRound 6 = .ok (.iload_n 1, 1) ∧ 6 + 1 = 7 := by decide +kernel
theorem d_P_bodyOfRound_7 : decode c_P_bodyOfRound 7 = .ok (.invokevirtual 419, 3) ∧ 7 + 3 = 10 := by decide +kernel
theorem d_P_bodyOfRound_10 : decode c_P_bodyOfRound 10 = .ok (.bipush 10, 2) ∧ 10 + 2 = 12 := by decide +kernel
theorem d_P_bodyOfRound_12 : decode c_P_bodyOfRound 12 = .ok (.iadd, 1) ∧ 12 + 1 = 13 := by decide +kernel
theorem d_P_bodyOfRound_13 : decode c_P_bodyOfRound 13 = .ok (.ireturn, 1) ∧ 13 + 1 = 14 := by decide +kernel
set_option maxHeartbeats 4000000 in
theorem m_P_bodyOfRound {Z : Sy} {σ : St} {res : (Int32 × St)} {x1 : Int32} (hf : P_bodyOfRound x1 σ = some res) : Ct YC Z y_P_bodyOfRound c_P_bodyOfRound 2 (some .int) 3 [.ref (ya Z 0), .int x1] σ (some (.int res.1)) res.2 := by
  refine Ct.of pn_P (Nat.le_of_ble_eq_true rfl) rfl (fun Γ h => ?_)
  have h : IsG YC Z R_P c_P_bodyOfRound 2 3 (some .int) (some (.int res.1)) res.2 Γ := h
  unfold P_bodyOfRound at hf
  refine r_aload_n h d_P_bodyOfRound_0 0 rfl rfl ?_
  refine r_iconst h d_P_bodyOfRound_1 ki_2 ?_
  obtain ⟨q2, e2, hf⟩ := q_bind hf
  refine r_callV (As := [.int (2 : Int32)]) (rest := []) h sh_YC_0 lk_P_428 vk_P_428 d_P_bodyOfRound_2 (by decide) rfl rfl (Nat.le_of_ble_eq_true rfl) (m_P_leave e2) ?_
  refine r_aload_n h d_P_bodyOfRound_5 0 rfl rfl ?_
  refine r_iload_n h d_P_bodyOfRound_6 1 rfl rfl ?_
  obtain ⟨q7, e7, hf⟩ := q_bind hf
  refine r_callV (As := [.int x1]) (rest := []) h sh_YC_0 lk_P_419 vk_P_419 d_P_bodyOfRound_7 (by decide) rfl rfl (Nat.le_of_ble_eq_true rfl) (m_P_bodyOfPack e7) ?_
  refine r_bipush h d_P_bodyOfRound_10 kb_10 ?_
  refine r_iadd h d_P_bodyOfRound_12 ?_
  exact r_ireturn h d_P_bodyOfRound_13.1 (q_p1 hf) (q_p2 hf)

theorem d_P_bodyOfBought_0 : decode c_P_bodyOfBought 0 = .ok (.aload_n 0, 1) ∧ 0 + 1 = 1 := by decide +kernel
theorem d_P_bodyOfBought_1 : decode c_P_bodyOfBought 1 = .ok (.iconst 3, 1) ∧ 1 + 1 = 2 := by decide +kernel
theorem d_P_bodyOfBought_2 : decode c_P_bodyOfBought 2 = .ok (.invokevirtual 428, 3) ∧ 2 + 3 = 5 := by decide +kernel
theorem d_P_bodyOfBought_5 : decode c_P_bodyOfBought 5 = .ok (.aload_n 0, 1) ∧ 5 + 1 = 6 := by decide +kernel
theorem d_P_bodyOfBought_6 : decode c_P_bodyOfBought 6 = .ok (.iload_n 1, 1) ∧ 6 + 1 = 7 := by decide +kernel
theorem d_P_bodyOfBought_7 : decode c_P_bodyOfBought 7 = .ok (.invokevirtual 422, 3) ∧ 7 + 3 = 10 := by decide +kernel
theorem d_P_bodyOfBought_10 : decode c_P_bodyOfBought 10 = .ok (.istore_n 2, 1) ∧ 10 + 1 = 11 := by decide +kernel
theorem d_P_bodyOfBought_11 : decode c_P_bodyOfBought 11 = .ok (.iload_n 2, 1) ∧ 11 + 1 = 12 := by decide +kernel
theorem d_P_bodyOfBought_12 : decode c_P_bodyOfBought 12 = .ok (.aload_n 0, 1) ∧ 12 + 1 = 13 := by decide +kernel
theorem d_P_bodyOfBought_13 : decode c_P_bodyOfBought 13 = .ok (.iload_n 1, 1) ∧ 13 + 1 = 14 := by decide +kernel
theorem d_P_bodyOfBought_14 : decode c_P_bodyOfBought 14 = .ok (.invokevirtual 419, 3) ∧ 14 + 3 = 17 := by decide +kernel
theorem d_P_bodyOfBought_17 : decode c_P_bodyOfBought 17 = .ok (.iadd, 1) ∧ 17 + 1 = 18 := by decide +kernel
theorem d_P_bodyOfBought_18 : decode c_P_bodyOfBought 18 = .ok (.ireturn, 1) ∧ 18 + 1 = 19 := by decide +kernel
set_option maxHeartbeats 4000000 in
theorem m_P_bodyOfBought {Z : Sy} {σ : St} {res : (Int32 × St)} {x1 : Int32} (hf : P_bodyOfBought x1 σ = some res) : Ct YC Z y_P_bodyOfBought c_P_bodyOfBought 3 (some .int) 4 [.ref (ya Z 0), .int x1] σ (some (.int res.1)) res.2 := by
  refine Ct.of pn_P (Nat.le_of_ble_eq_true rfl) rfl (fun Γ h => ?_)
  have h : IsG YC Z R_P c_P_bodyOfBought 3 4 (some .int) (some (.int res.1)) res.2 Γ := h
  unfold P_bodyOfBought at hf
  refine r_aload_n h d_P_bodyOfBought_0 0 rfl rfl ?_
  refine r_iconst h d_P_bodyOfBought_1 ki_3 ?_
  obtain ⟨q2, e2, hf⟩ := q_bind hf
  refine r_callV (As := [.int (3 : Int32)]) (rest := []) h sh_YC_0 lk_P_428 vk_P_428 d_P_bodyOfBought_2 (by decide) rfl rfl (Nat.le_of_ble_eq_true rfl) (m_P_leave e2) ?_
  refine r_aload_n h d_P_bodyOfBought_5 0 rfl rfl ?_
  refine r_iload_n h d_P_bodyOfBought_6 1 rfl rfl ?_
  obtain ⟨q7, e7, hf⟩ := q_bind hf
  refine r_callV (As := [.int x1]) (rest := []) h sh_YC_0 lk_P_422 vk_P_422 d_P_bodyOfBought_7 (by decide) rfl rfl (Nat.le_of_ble_eq_true rfl) (m_P_bodyOfRound e7) ?_
  refine r_istore_n (ls' := [(2, .int q7.1), (0, .ref (ya Z 0)), (1, .int x1)]) h d_P_bodyOfBought_10 rfl (by decide) rfl ?_
  refine r_iload_n h d_P_bodyOfBought_11 0 rfl rfl ?_
  refine r_aload_n h d_P_bodyOfBought_12 1 rfl rfl ?_
  refine r_iload_n h d_P_bodyOfBought_13 2 rfl rfl ?_
  obtain ⟨q14, e14, hf⟩ := q_bind hf
  refine r_callV (As := [.int x1]) (rest := [.int q7.1]) h sh_YC_0 lk_P_419 vk_P_419 d_P_bodyOfBought_14 (by decide) rfl rfl (Nat.le_of_ble_eq_true rfl) (m_P_bodyOfPack e14) ?_
  refine r_iadd h d_P_bodyOfBought_17 ?_
  exact r_ireturn h d_P_bodyOfBought_18.1 (q_p1 hf) (q_p2 hf)

theorem d_P_tellingOfPack_0 : decode c_P_tellingOfPack 0 = .ok (.aload_n 0, 1) ∧ 0 + 1 = 1 := by decide +kernel
theorem d_P_tellingOfPack_1 : decode c_P_tellingOfPack 1 = .ok (.getfield 36, 3) ∧ 1 + 3 = 4 := by decide +kernel
theorem d_P_tellingOfPack_4 : decode c_P_tellingOfPack 4 = .ok (.getfield 418, 3) ∧ 4 + 3 = 7 := by decide +kernel
theorem d_P_tellingOfPack_7 : decode c_P_tellingOfPack 7 = .ok (.iload_n 1, 1) ∧ 7 + 1 = 8 := by decide +kernel
theorem d_P_tellingOfPack_8 : decode c_P_tellingOfPack 8 = .ok (.iaload, 1) ∧ 8 + 1 = 9 := by decide +kernel
theorem d_P_tellingOfPack_9 : decode c_P_tellingOfPack 9 = .ok (.lookupswitch 39 #[(0, 27), (1, 33)], 27) ∧ 9 + 27 = 36 := by decide +kernel
theorem d_P_tellingOfPack_36 : decode c_P_tellingOfPack 36 = .ok (.aload_n 0, 1) ∧ 36 + 1 = 37 := by decide +kernel
theorem d_P_tellingOfPack_37 : decode c_P_tellingOfPack 37 = .ok (.iload_n 1, 1) ∧ 37 + 1 = 38 := by decide +kernel
theorem d_P_tellingOfPack_38 : decode c_P_tellingOfPack 38 = .ok (.invokevirtual 419, 3) ∧ 38 + 3 = 41 := by decide +kernel
theorem d_P_tellingOfPack_41 : decode c_P_tellingOfPack 41 = .ok (.ireturn, 1) ∧ 41 + 1 = 42 := by decide +kernel
theorem d_P_tellingOfPack_42 : decode c_P_tellingOfPack 42 = .ok (.aload_n 0, 1) ∧ 42 + 1 = 43 := by decide +kernel
theorem d_P_tellingOfPack_43 : decode c_P_tellingOfPack 43 = .ok (.iload_n 1, 1) ∧ 43 + 1 = 44 := by decide +kernel
theorem d_P_tellingOfPack_44 : decode c_P_tellingOfPack 44 = .ok (.invokevirtual 422, 3) ∧ 44 + 3 = 47 := by decide +kernel
theorem d_P_tellingOfPack_47 : decode c_P_tellingOfPack 47 = .ok (.ireturn, 1) ∧ 47 + 1 = 48 := by decide +kernel
theorem d_P_tellingOfPack_48 : decode c_P_tellingOfPack 48 = .ok (.aload_n 0, 1) ∧ 48 + 1 = 49 := by decide +kernel
theorem d_P_tellingOfPack_49 : decode c_P_tellingOfPack 49 = .ok (.iload_n 1, 1) ∧ 49 + 1 = 50 := by decide +kernel
theorem d_P_tellingOfPack_50 : decode c_P_tellingOfPack 50 = .ok (.invokevirtual 425, 3) ∧ 50 + 3 = 53 := by decide +kernel
theorem d_P_tellingOfPack_53 : decode c_P_tellingOfPack 53 = .ok (.ireturn, 1) ∧ 53 + 1 = 54 := by decide +kernel
set_option maxHeartbeats 4000000 in
theorem m_P_tellingOfPack {Z : Sy} {σ : St} {res : (Int32 × St)} {x1 : Int32} (hf : P_tellingOfPack x1 σ = some res) : Ct YC Z y_P_tellingOfPack c_P_tellingOfPack 2 (some .int) 5 [.ref (ya Z 0), .int x1] σ (some (.int res.1)) res.2 := by
  refine Ct.of pn_P (Nat.le_of_ble_eq_true rfl) rfl (fun Γ h => ?_)
  have h : IsG YC Z R_P c_P_tellingOfPack 2 5 (some .int) (some (.int res.1)) res.2 Γ := h
  unfold P_tellingOfPack at hf
  refine r_aload_n h d_P_tellingOfPack_0 0 rfl rfl ?_
  refine r_getR h fd_YC_0_4 cf_P fl_P_36 d_P_tellingOfPack_1 ?_
  refine r_getR h fd_YC_21_0 cf_Packs fl_P_418 d_P_tellingOfPack_4 ?_
  refine r_iload_n h d_P_tellingOfPack_7 1 rfl rfl ?_
  refine r_iald h sh_YC_22 d_P_tellingOfPack_8 hf (fun hf => ?_)
  refine q_case hf (fun hq hf => ?_) (fun hn0 hf => ?_)
  · refine r_look (tgt := 36) (off := 27) h d_P_tellingOfPack_9.1 (by decide) (by rw [hq]; decide) (by decide) ?_
    refine r_aload_n h d_P_tellingOfPack_36 0 rfl rfl ?_
    refine r_iload_n h d_P_tellingOfPack_37 1 rfl rfl ?_
    obtain ⟨q38, e38, hf⟩ := q_bind hf
    refine r_callV (As := [.int x1]) (rest := []) h sh_YC_0 lk_P_419 vk_P_419 d_P_tellingOfPack_38 (by decide) rfl rfl (Nat.le_of_ble_eq_true rfl) (m_P_bodyOfPack e38) ?_
    exact r_ireturn h d_P_tellingOfPack_41.1 (q_p1 hf) (q_p2 hf)
  ·
    refine q_case hf (fun hq hf => ?_) (fun hn1 hf => ?_)
    · refine r_look (tgt := 42) (off := 33) h d_P_tellingOfPack_9.1 (by decide) (by rw [hq]; decide) (by decide) ?_
      refine r_aload_n h d_P_tellingOfPack_42 0 rfl rfl ?_
      refine r_iload_n h d_P_tellingOfPack_43 1 rfl rfl ?_
      obtain ⟨q44, e44, hf⟩ := q_bind hf
      refine r_callV (As := [.int x1]) (rest := []) h sh_YC_0 lk_P_422 vk_P_422 d_P_tellingOfPack_44 (by decide) rfl rfl (Nat.le_of_ble_eq_true rfl) (m_P_bodyOfRound e44) ?_
      exact r_ireturn h d_P_tellingOfPack_47.1 (q_p1 hf) (q_p2 hf)
    ·
      have g0 := (q_neI hn0).symm
      have g1 := (q_neI hn1).symm
      refine r_look (tgt := 48) (off := 39) h d_P_tellingOfPack_9.1 (by decide) (by simp at g0 g1; simp [Op.lookupswitch.offset, *]) (by decide) ?_
      refine r_aload_n h d_P_tellingOfPack_48 0 rfl rfl ?_
      refine r_iload_n h d_P_tellingOfPack_49 1 rfl rfl ?_
      obtain ⟨q50, e50, hf⟩ := q_bind hf
      refine r_callV (As := [.int x1]) (rest := []) h sh_YC_0 lk_P_425 vk_P_425 d_P_tellingOfPack_50 (by decide) rfl rfl (Nat.le_of_ble_eq_true rfl) (m_P_bodyOfBought e50) ?_
      exact r_ireturn h d_P_tellingOfPack_53.1 (q_p1 hf) (q_p2 hf)

theorem d_P_tell_0 : decode c_P_tell 0 = .ok (.iload_n 1, 1) ∧ 0 + 1 = 1 := by decide +kernel
theorem d_P_tell_1 : decode c_P_tell 1 = .ok (.iconst 2, 1) ∧ 1 + 1 = 2 := by decide +kernel
theorem d_P_tell_2 : decode c_P_tell 2 = .ok (.invokestatic 96, 3) ∧ 2 + 3 = 5 := by decide +kernel
theorem d_P_tell_5 : decode c_P_tell 5 = .ok (.ifCond .ne 6, 3) ∧ 5 + 3 = 8 ∧ ((5 : Nat) : Int) + 6 = ((11 : Nat) : Int) := by decide +kernel
theorem d_P_tell_8 : decode c_P_tell 8 = .ok (.bipush (-2), 2) ∧ 8 + 2 = 10 := by decide +kernel
theorem d_P_tell_10 : decode c_P_tell 10 = .ok (.ireturn, 1) ∧ 10 + 1 = 11 := by decide +kernel
theorem d_P_tell_11 : decode c_P_tell 11 = .ok (.aload_n 0, 1) ∧ 11 + 1 = 12 := by decide +kernel
theorem d_P_tell_12 : decode c_P_tell 12 = .ok (.iload_n 1, 1) ∧ 12 + 1 = 13 := by decide +kernel
theorem d_P_tell_13 : decode c_P_tell 13 = .ok (.iload_n 2, 1) ∧ 13 + 1 = 14 := by decide +kernel
theorem d_P_tell_14 : decode c_P_tell 14 = .ok (.invokevirtual 409, 3) ∧ 14 + 3 = 17 := by decide +kernel
theorem d_P_tell_17 : decode c_P_tell 17 = .ok (.ifCond .ne 5, 3) ∧ 17 + 3 = 20 ∧ ((17 : Nat) : Int) + 5 = ((22 : Nat) : Int) := by decide +kernel
theorem d_P_tell_20 : decode c_P_tell 20 = .ok (.iconst (-1), 1) ∧ 20 + 1 = 21 := by decide +kernel
theorem d_P_tell_21 : decode c_P_tell 21 = .ok (.ireturn, 1) ∧ 21 + 1 = 22 := by decide +kernel
theorem d_P_tell_22 : decode c_P_tell 22 = .ok (.iload_n 1, 1) ∧ 22 + 1 = 23 := by decide +kernel
theorem d_P_tell_23 : decode c_P_tell 23 = .ok (.ifCond .ne 11, 3) ∧ 23 + 3 = 26 ∧ ((23 : Nat) : Int) + 11 = ((34 : Nat) : Int) := by decide +kernel
theorem d_P_tell_26 : decode c_P_tell 26 = .ok (.aload_n 0, 1) ∧ 26 + 1 = 27 := by decide +kernel
theorem d_P_tell_27 : decode c_P_tell 27 = .ok (.iload_n 2, 1) ∧ 27 + 1 = 28 := by decide +kernel
theorem d_P_tell_28 : decode c_P_tell 28 = .ok (.invokevirtual 412, 3) ∧ 28 + 3 = 31 := by decide +kernel
theorem d_P_tell_31 : decode c_P_tell 31 = .ok (.goto 8, 3) ∧ (31 : Int) + 8 = (39 : Int) := by decide +kernel
theorem d_P_tell_34 : decode c_P_tell 34 = .ok (.aload_n 0, 1) ∧ 34 + 1 = 35 := by decide +kernel
theorem d_P_tell_35 : decode c_P_tell 35 = .ok (.iload_n 2, 1) ∧ 35 + 1 = 36 := by decide +kernel
theorem d_P_tell_36 : decode c_P_tell 36 = .ok (.invokevirtual 415, 3) ∧ 36 + 3 = 39 := by decide +kernel
theorem d_P_tell_39 : decode c_P_tell 39 = .ok (.ireturn, 1) ∧ 39 + 1 = 40 := by decide +kernel
set_option maxHeartbeats 4000000 in
theorem m_P_tell {Z : Sy} {σ : St} {res : (Int32 × St)} {x1 : Int32} {x2 : Int32} (hf : P_tell x1 x2 σ = some res) : Ct YC Z y_P_tell c_P_tell 3 (some .int) 6 [.ref (ya Z 0), .int x1, .int x2] σ (some (.int res.1)) res.2 := by
  refine Ct.of pn_P (Nat.le_of_ble_eq_true rfl) rfl (fun Γ h => ?_)
  have h : IsG YC Z R_P c_P_tell 3 6 (some .int) (some (.int res.1)) res.2 Γ := h
  unfold P_tell at hf
  refine r_iload_n h d_P_tell_0 1 rfl rfl ?_
  refine r_iconst h d_P_tell_1 ki_2 ?_
  obtain ⟨r2, e2, hf⟩ := q_bind hf
  refine r_callS (As := [.int x1, .int (2 : Int32)]) (rest := []) h lk_P_96 sk_P_96 d_P_tell_2 (by decide) rfl rfl (Nat.le_of_ble_eq_true rfl) (m_P_isBelow e2) ?_
  refine r_bif_ne h d_P_tell_5 hf (fun hf => ?_) (fun hf => ?_)
  · refine r_aload_n h d_P_tell_11 0 rfl rfl ?_
    refine r_iload_n h d_P_tell_12 1 rfl rfl ?_
    refine r_iload_n h d_P_tell_13 2 rfl rfl ?_
    obtain ⟨r14, e14, hf⟩ := q_bind hf
    refine r_callV (As := [.int x1, .int x2]) (rest := []) h sh_YC_0 lk_P_409 vk_P_409 d_P_tell_14 (by decide) rfl rfl (Nat.le_of_ble_eq_true rfl) (m_P_isThere e14) ?_
    refine r_bif_ne h d_P_tell_17 hf (fun hf => ?_) (fun hf => ?_)
    · refine r_iload_n h d_P_tell_22 1 rfl rfl ?_
      refine r_if_ne h d_P_tell_23 hf (fun hf => ?_) (fun hf => ?_)
      · refine r_aload_n h d_P_tell_34 0 rfl rfl ?_
        refine r_iload_n h d_P_tell_35 2 rfl rfl ?_
        obtain ⟨q36, e36, hf⟩ := q_bind hf
        refine r_callV (As := [.int x2]) (rest := []) h sh_YC_0 lk_P_415 vk_P_415 d_P_tell_36 (by decide) rfl rfl (Nat.le_of_ble_eq_true rfl) (m_P_tellingOfDebt e36) ?_
        exact r_ireturn h d_P_tell_39.1 (q_p1 hf) (q_p2 hf)
      · refine r_aload_n h d_P_tell_26 0 rfl rfl ?_
        refine r_iload_n h d_P_tell_27 2 rfl rfl ?_
        obtain ⟨q28, e28, hf⟩ := q_bind hf
        refine r_callV (As := [.int x2]) (rest := []) h sh_YC_0 lk_P_412 vk_P_412 d_P_tell_28 (by decide) rfl rfl (Nat.le_of_ble_eq_true rfl) (m_P_tellingOfPack e28) ?_
        refine r_goto h d_P_tell_31 ?_
        exact r_ireturn h d_P_tell_39.1 (q_p1 hf) (q_p2 hf)
    · refine r_iconst h d_P_tell_20 ki_m1 ?_
      exact r_ireturn h d_P_tell_21.1 (q_p1 hf) (q_p2 hf)
  · refine r_bipush h d_P_tell_8 kb_m2 ?_
    exact r_ireturn h d_P_tell_10.1 (q_p1 hf) (q_p2 hf)

theorem d_P_show_0 : decode c_P_show 0 = .ok (.aload_n 0, 1) ∧ 0 + 1 = 1 := by decide +kernel
theorem d_P_show_1 : decode c_P_show 1 = .ok (.getfield 36, 3) ∧ 1 + 3 = 4 := by decide +kernel
theorem d_P_show_4 : decode c_P_show 4 = .ok (.iload_n 1, 1) ∧ 4 + 1 = 5 := by decide +kernel
theorem d_P_show_5 : decode c_P_show 5 = .ok (.invokevirtual 146, 3) ∧ 5 + 3 = 8 := by decide +kernel
theorem d_P_show_8 : decode c_P_show 8 = .ok (.ifCond .ne 5, 3) ∧ 8 + 3 = 11 ∧ ((8 : Nat) : Int) + 5 = ((13 : Nat) : Int) := by decide +kernel
theorem d_P_show_11 : decode c_P_show 11 = .ok (.iconst (-1), 1) ∧ 11 + 1 = 12 := by decide +kernel
theorem d_P_show_12 : decode c_P_show 12 = .ok (.ireturn, 1) ∧ 12 + 1 = 13 := by decide +kernel
theorem d_P_show_13 : decode c_P_show 13 = .ok (.aload_n 0, 1) ∧ 13 + 1 = 14 := by decide +kernel
theorem d_P_show_14 : decode c_P_show 14 = .ok (.getfield 36, 3) ∧ 14 + 3 = 17 := by decide +kernel
theorem d_P_show_17 : decode c_P_show 17 = .ok (.getfield 418, 3) ∧ 17 + 3 = 20 := by decide +kernel
theorem d_P_show_20 : decode c_P_show 20 = .ok (.iload_n 1, 1) ∧ 20 + 1 = 21 := by decide +kernel
theorem d_P_show_21 : decode c_P_show 21 = .ok (.iaload, 1) ∧ 21 + 1 = 22 := by decide +kernel
theorem d_P_show_22 : decode c_P_show 22 = .ok (.iconst 2, 1) ∧ 22 + 1 = 23 := by decide +kernel
theorem d_P_show_23 : decode c_P_show 23 = .ok (.if_icmp .ne 7, 3) ∧ 23 + 3 = 26 ∧ ((23 : Nat) : Int) + 7 = ((30 : Nat) : Int) := by decide +kernel
theorem d_P_show_26 : decode c_P_show 26 = .ok (.iconst 1, 1) ∧ 26 + 1 = 27 := by decide +kernel
theorem d_P_show_27 : decode c_P_show 27 = .ok (.goto 4, 3) ∧ (27 : Int) + 4 = (31 : Int) := by decide +kernel
theorem d_P_show_30 : decode c_P_show 30 = .ok (.iconst 0, 1) ∧ 30 + 1 = 31 := by decide +kernel
theorem d_P_show_31 : decode c_P_show 31 = .ok (.istore_n 2, 1) ∧ 31 + 1 = 32 := by decide +kernel
theorem d_P_show_32 : decode c_P_show 32 = .ok (.aload_n 0, 1) ∧ 32 + 1 = 33 := by decide +kernel
theorem d_P_show_33 : decode c_P_show 33 = .ok (.iload_n 2, 1) ∧ 33 + 1 = 34 := by decide +kernel
theorem d_P_show_34 : decode c_P_show 34 = .ok (.ifCond .eq 7, 3) ∧ 34 + 3 = 37 ∧ ((34 : Nat) : Int) + 7 = ((41 : Nat) : Int) := by decide +kernel
theorem d_P_show_37 : decode c_P_show 37 = .ok (.iconst 5, 1) ∧ 37 + 1 = 38 := by decide +kernel
theorem d_P_show_38 : decode c_P_show 38 = .ok (.goto 4, 3) ∧ (38 : Int) + 4 = (42 : Int) := by decide +kernel
theorem d_P_show_41 : decode c_P_show 41 = .ok (.iconst 4, 1) ∧ 41 + 1 = 42 := by decide +kernel
theorem d_P_show_42 : decode c_P_show 42 = .ok (.invokevirtual 428, 3) ∧ 42 + 3 = 45 := by decide +kernel
theorem d_P_show_45 : decode c_P_show 45 = .ok (.iload_n 2, 1) ∧ 45 + 1 = 46 := by decide +kernel
theorem d_P_show_46 : decode c_P_show 46 = .ok (.ifCond .eq 8, 3) ∧ 46 + 3 = 49 ∧ ((46 : Nat) : Int) + 8 = ((54 : Nat) : Int) := by decide +kernel
theorem d_P_show_49 : decode c_P_show 49 = .ok (.bipush 60, 2) ∧ 49 + 2 = 51 := by decide +kernel
theorem d_P_show_51 : decode c_P_show 51 = .ok (.goto 4, 3) ∧ (51 : Int) + 4 = (55 : Int) := by decide +kernel
theorem d_P_show_54 : decode c_P_show 54 = .ok (.iload_n 1, 1) ∧ 54 + 1 = 55 := by decide +kernel
theorem d_P_show_55 : decode c_P_show 55 = .ok (.ireturn, 1) ∧ 55 + 1 = 56 := by decide +kernel
set_option maxHeartbeats 4000000 in
theorem m_P_show {Z : Sy} {σ : St} {res : (Int32 × St)} {x1 : Int32} (hf : P_show x1 σ = some res) : Ct YC Z y_P_show c_P_show 3 (some .int) 3 [.ref (ya Z 0), .int x1] σ (some (.int res.1)) res.2 := by
  refine Ct.of pn_P (Nat.le_of_ble_eq_true rfl) rfl (fun Γ h => ?_)
  have h : IsG YC Z R_P c_P_show 3 3 (some .int) (some (.int res.1)) res.2 Γ := h
  unfold P_show at hf
  refine r_aload_n h d_P_show_0 0 rfl rfl ?_
  refine r_getR h fd_YC_0_4 cf_P fl_P_36 d_P_show_1 ?_
  refine r_iload_n h d_P_show_4 1 rfl rfl ?_
  obtain ⟨r5, e5, hf⟩ := q_bind hf
  refine r_callV (As := [.int x1]) (rest := []) h sh_YC_21 lk_P_146 vk_P_146 d_P_show_5 (by decide) rfl rfl (Nat.le_of_ble_eq_true rfl) (m_Packs_has e5) ?_
  refine r_bif_ne h d_P_show_8 hf (fun hf => ?_) (fun hf => ?_)
  · refine r_aload_n h d_P_show_13 0 rfl rfl ?_
    refine r_getR h fd_YC_0_4 cf_P fl_P_36 d_P_show_14 ?_
    refine r_getR h fd_YC_21_0 cf_Packs fl_P_418 d_P_show_17 ?_
    refine r_iload_n h d_P_show_20 1 rfl rfl ?_
    refine r_iald h sh_YC_22 d_P_show_21 hf (fun hf => ?_)
    refine r_iconst h d_P_show_22 ki_2 ?_
    refine r_icmp_ne h d_P_show_23 hf (fun hf => ?_) (fun hf => ?_)
    · refine r_iconst h d_P_show_30 ki_0 ?_
      refine r_istore_n (ls' := [(2, .int (0 : Int32)), (0, .ref (ya Z 0)), (1, .int x1)]) h d_P_show_31 rfl (by decide) rfl ?_
      refine r_aload_n h d_P_show_32 1 rfl rfl ?_
      refine r_iload_n h d_P_show_33 0 rfl rfl ?_
      refine r_if_eq_T h d_P_show_34 (by decide) ?_
      refine r_iconst h d_P_show_41 ki_4 ?_
      obtain ⟨q42, e42, hf⟩ := q_bind hf
      refine r_callV (As := [.int (4 : Int32)]) (rest := []) h sh_YC_0 lk_P_428 vk_P_428 d_P_show_42 (by decide) rfl rfl (Nat.le_of_ble_eq_true rfl) (m_P_leave e42) ?_
      refine r_iload_n h d_P_show_45 0 rfl rfl ?_
      refine r_if_eq_T h d_P_show_46 (by decide) ?_
      refine r_iload_n h d_P_show_54 2 rfl rfl ?_
      exact r_ireturn h d_P_show_55.1 (q_p1 hf) (q_p2 hf)
    · refine r_iconst h d_P_show_26 ki_1 ?_
      refine r_goto h d_P_show_27 ?_
      refine r_istore_n (ls' := [(2, .int (1 : Int32)), (0, .ref (ya Z 0)), (1, .int x1)]) h d_P_show_31 rfl (by decide) rfl ?_
      refine r_aload_n h d_P_show_32 1 rfl rfl ?_
      refine r_iload_n h d_P_show_33 0 rfl rfl ?_
      refine r_if_eq_F h d_P_show_34 (by decide) ?_
      refine r_iconst h d_P_show_37 ki_5 ?_
      refine r_goto h d_P_show_38 ?_
      obtain ⟨q42, e42, hf⟩ := q_bind hf
      refine r_callV (As := [.int (5 : Int32)]) (rest := []) h sh_YC_0 lk_P_428 vk_P_428 d_P_show_42 (by decide) rfl rfl (Nat.le_of_ble_eq_true rfl) (m_P_leave e42) ?_
      refine r_iload_n h d_P_show_45 0 rfl rfl ?_
      refine r_if_eq_F h d_P_show_46 (by decide) ?_
      refine r_bipush h d_P_show_49 kb_60 ?_
      refine r_goto h d_P_show_51 ?_
      exact r_ireturn h d_P_show_55.1 (q_p1 hf) (q_p2 hf)
  · refine r_iconst h d_P_show_11 ki_m1 ?_
    exact r_ireturn h d_P_show_12.1 (q_p1 hf) (q_p2 hf)

theorem d_P_taken_0 : decode c_P_taken 0 = .ok (.aload_n 0, 1) ∧ 0 + 1 = 1 := by decide +kernel
theorem d_P_taken_1 : decode c_P_taken 1 = .ok (.iconst 0, 1) ∧ 1 + 1 = 2 := by decide +kernel
theorem d_P_taken_2 : decode c_P_taken 2 = .ok (.putfield 152, 3) ∧ 2 + 3 = 5 := by decide +kernel
theorem d_P_taken_5 : decode c_P_taken 5 = .ok (.iload_n 1, 1) ∧ 5 + 1 = 6 := by decide +kernel
theorem d_P_taken_6 : decode c_P_taken 6 = .ok (.iconst 2, 1) ∧ 6 + 1 = 7 := by decide +kernel
theorem d_P_taken_7 : decode c_P_taken 7 = .ok (.invokestatic 96, 3) ∧ 7 + 3 = 10 := by decide +kernel
theorem d_P_taken_10 : decode c_P_taken 10 = .ok (.ifCond .eq 11, 3) ∧ 10 + 3 = 13 ∧ ((10 : Nat) : Int) + 11 = ((21 : Nat) : Int) := by decide +kernel
theorem d_P_taken_13 : decode c_P_taken 13 = .ok (.iload_n 3, 1) ∧ 13 + 1 = 14 := by decide +kernel
theorem d_P_taken_14 : decode c_P_taken 14 = .ok (.iconst 3, 1) ∧ 14 + 1 = 15 := by decide +kernel
theorem d_P_taken_15 : decode c_P_taken 15 = .ok (.invokestatic 96, 3) ∧ 15 + 3 = 18 := by decide +kernel
theorem d_P_taken_18 : decode c_P_taken 18 = .ok (.ifCond .ne 6, 3) ∧ 18 + 3 = 21 ∧ ((18 : Nat) : Int) + 6 = ((24 : Nat) : Int) := by decide +kernel
theorem d_P_taken_21 : decode c_P_taken 21 = .ok (.bipush (-2), 2) ∧ 21 + 2 = 23 := by decide +kernel
theorem d_P_taken_23 : decode c_P_taken 23 = .ok (.ireturn, 1) ∧ 23 + 1 = 24 := by decide +kernel
theorem d_P_taken_24 : decode c_P_taken 24 = .ok (.aload_n 0, 1) ∧ 24 + 1 = 25 := by decide +kernel
theorem d_P_taken_25 : decode c_P_taken 25 = .ok (.iload_n 1, 1) ∧ 25 + 1 = 26 := by decide +kernel
theorem d_P_taken_26 : decode c_P_taken 26 = .ok (.iload_n 2, 1) ∧ 26 + 1 = 27 := by decide +kernel
theorem d_P_taken_27 : decode c_P_taken 27 = .ok (.invokevirtual 409, 3) ∧ 27 + 3 = 30 := by decide +kernel
theorem d_P_taken_30 : decode c_P_taken 30 = .ok (.ifCond .ne 5, 3) ∧ 30 + 3 = 33 ∧ ((30 : Nat) : Int) + 5 = ((35 : Nat) : Int) := by decide +kernel
theorem d_P_taken_33 : decode c_P_taken 33 = .ok (.iconst (-1), 1) ∧ 33 + 1 = 34 := by decide +kernel
theorem d_P_taken_34 : decode c_P_taken 34 = .ok (.ireturn, 1) ∧ 34 + 1 = 35 := by decide +kernel
theorem d_P_taken_35 : decode c_P_taken 35 = .ok (.iload_n 1, 1) ∧ 35 + 1 = 36 := by decide +kernel
theorem d_P_taken_36 : decode c_P_taken 36 = .ok (.ifCond .ne 15, 3) ∧ 36 + 3 = 39 ∧ ((36 : Nat) : Int) + 15 = ((51 : Nat) : Int) := by decide +kernel
theorem d_P_taken_39 : decode c_P_taken 39 = .ok (.aload_n 0, 1) ∧ 39 + 1 = 40 := by decide +kernel
theorem d_P_taken_40 : decode c_P_taken 40 = .ok (.getfield 36, 3) ∧ 40 + 3 = 43 := by decide +kernel
theorem d_P_taken_43 : decode c_P_taken 43 = .ok (.getfield 418, 3) ∧ 43 + 3 = 46 := by decide +kernel
theorem d_P_taken_46 : decode c_P_taken 46 = .ok (.iload_n 2, 1) ∧ 46 + 1 = 47 := by decide +kernel
theorem d_P_taken_47 : decode c_P_taken 47 = .ok (.iaload, 1) ∧ 47 + 1 = 48 := by decide +kernel
theorem d_P_taken_48 : decode c_P_taken 48 = .ok (.goto 12, 3) ∧ (48 : Int) + 12 = (60 : Int) := by decide +kernel
theorem d_P_taken_51 : decode c_P_taken 51 = .ok (.aload_n 0, 1) ∧ 51 + 1 = 52 := by decide +kernel
theorem d_P_taken_52 : decode c_P_taken 52 = .ok (.getfield 64, 3) ∧ 52 + 3 = 55 := by decide +kernel
theorem d_P_taken_55 : decode c_P_taken 55 = .ok (.getfield 254, 3) ∧ 55 + 3 = 58 := by decide +kernel
theorem d_P_taken_58 : decode c_P_taken 58 = .ok (.iload_n 2, 1) ∧ 58 + 1 = 59 := by decide +kernel
theorem d_P_taken_59 : decode c_P_taken 59 = .ok (.iaload, 1) ∧ 59 + 1 = 60 := by decide +kernel
theorem d_P_taken_60 : decode c_P_taken 60 = .ok (.istore 4, 2) ∧ 60 + 2 = 62 := by decide +kernel
theorem d_P_taken_62 : decode c_P_taken 62 = .ok (.iload 4, 2) ∧ 62 + 2 = 64 := by decide +kernel
theorem d_P_taken_64 : decode c_P_taken 64 = .ok (.iload_n 3, 1) ∧ 64 + 1 = 65 := by decide +kernel
theorem d_P_taken_65 : decode c_P_taken 65 = .ok (.if_icmp .lt 7, 3) ∧ 65 + 3 = 68 ∧ ((65 : Nat) : Int) + 7 = ((72 : Nat) : Int) := by decide +kernel
theorem d_P_taken_68 : decode c_P_taken 68 = .ok (.iconst 1, 1) ∧ 68 + 1 = 69 := by decide +kernel
theorem d_P_taken_69 : decode c_P_taken 69 = .ok (.goto 8, 3) ∧ (69 : Int) + 8 = (77 : Int) := by decide +kernel
theorem d_P_taken_72 : decode c_P_taken 72 = .ok (.aload_n 0, 1) ∧ 72 + 1 = 73 := by decide +kernel
theorem d_P_taken_73 : decode c_P_taken 73 = .ok (.iconst 2, 1) ∧ 73 + 1 = 74 := by decide +kernel
theorem d_P_taken_74 : decode c_P_taken 74 = .ok (.invokevirtual 163, 3) ∧ 74 + 3 = 77 := by decide +kernel
theorem d_P_taken_77 : decode c_P_taken 77 = .ok (.ireturn, 1) ∧ 77 + 1 = 78 := by decide +kernel
set_option maxHeartbeats 4000000 in
theorem m_P_taken {Z : Sy} {σ : St} {res : (Int32 × St)} {x1 : Int32} {x2 : Int32} {x3 : Int32} (hf : P_taken x1 x2 x3 σ = some res) : Ct YC Z y_P_taken c_P_taken 5 (some .int) 4 [.ref (ya Z 0), .int x1, .int x2, .int x3] σ (some (.int res.1)) res.2 := by
  refine Ct.of pn_P (Nat.le_of_ble_eq_true rfl) rfl (fun Γ h => ?_)
  have h : IsG YC Z R_P c_P_taken 5 4 (some .int) (some (.int res.1)) res.2 Γ := h
  unfold P_taken at hf
  refine r_aload_n h d_P_taken_0 0 rfl rfl ?_
  refine r_iconst h d_P_taken_1 ki_0 ?_
  refine r_putI h fd_YC_0_13 cf_P fl_P_152 ⟨rfl, rfl⟩ d_P_taken_2 ?_
  refine r_iload_n h d_P_taken_5 1 rfl rfl ?_
  refine r_iconst h d_P_taken_6 ki_2 ?_
  obtain ⟨r7, e7, hf⟩ := q_bind hf
  refine r_callS (As := [.int x1, .int (2 : Int32)]) (rest := []) h lk_P_96 sk_P_96 d_P_taken_7 (by decide) rfl rfl (Nat.le_of_ble_eq_true rfl) (m_P_isBelow e7) ?_
  refine r_bif_eq h d_P_taken_10 hf (fun hf => ?_) (fun hf => ?_)
  · refine r_bipush h d_P_taken_21 kb_m2 ?_
    exact r_ireturn h d_P_taken_23.1 (q_p1 hf) (q_p2 hf)
  · refine r_iload_n h d_P_taken_13 3 rfl rfl ?_
    refine r_iconst h d_P_taken_14 ki_3 ?_
    obtain ⟨r15, e15, hf⟩ := q_bind hf
    refine r_callS (As := [.int x3, .int (3 : Int32)]) (rest := []) h lk_P_96 sk_P_96 d_P_taken_15 (by decide) rfl rfl (Nat.le_of_ble_eq_true rfl) (m_P_isBelow e15) ?_
    refine r_bif_ne h d_P_taken_18 hf (fun hf => ?_) (fun hf => ?_)
    · refine r_aload_n h d_P_taken_24 0 rfl rfl ?_
      refine r_iload_n h d_P_taken_25 1 rfl rfl ?_
      refine r_iload_n h d_P_taken_26 2 rfl rfl ?_
      obtain ⟨r27, e27, hf⟩ := q_bind hf
      refine r_callV (As := [.int x1, .int x2]) (rest := []) h sh_YC_0 lk_P_409 vk_P_409 d_P_taken_27 (by decide) rfl rfl (Nat.le_of_ble_eq_true rfl) (m_P_isThere e27) ?_
      refine r_bif_ne h d_P_taken_30 hf (fun hf => ?_) (fun hf => ?_)
      · refine r_iload_n h d_P_taken_35 1 rfl rfl ?_
        refine r_if_ne h d_P_taken_36 hf (fun hf => ?_) (fun hf => ?_)
        · refine r_aload_n h d_P_taken_51 0 rfl rfl ?_
          refine r_getR h fd_YC_0_8 cf_P fl_P_64 d_P_taken_52 ?_
          refine r_getR h fd_YC_49_0 cf_Debts fl_P_254 d_P_taken_55 ?_
          refine r_iload_n h d_P_taken_58 2 rfl rfl ?_
          refine r_ialdv (v := (σ.1 50 (Int32.toNatClampNeg x2))) h sh_YC_50 d_P_taken_59 hf rfl (fun hf => ?_)
          refine r_istore (ls' := [(4, .int (σ.1 50 (Int32.toNatClampNeg x2))), (0, .ref (ya Z 0)), (1, .int x1), (2, .int x2), (3, .int x3)]) h d_P_taken_60 (by decide) rfl ?_
          refine r_iload h d_P_taken_62 0 rfl ?_
          refine r_iload_n h d_P_taken_64 4 rfl rfl ?_
          refine r_icmp_lt h d_P_taken_65 hf (fun hf => ?_) (fun hf => ?_)
          · refine r_aload_n h d_P_taken_72 1 rfl rfl ?_
            refine r_iconst h d_P_taken_73 ki_2 ?_
            obtain ⟨q74, e74, hf⟩ := q_bind hf
            refine r_callV (As := [.int (2 : Int32)]) (rest := []) h sh_YC_0 lk_P_163 vk_P_163 d_P_taken_74 (by decide) rfl rfl (Nat.le_of_ble_eq_true rfl) (m_P_faulted e74) ?_
            exact r_ireturn h d_P_taken_77.1 (q_p1 hf) (q_p2 hf)
          · refine r_iconst h d_P_taken_68 ki_1 ?_
            refine r_goto h d_P_taken_69 ?_
            exact r_ireturn h d_P_taken_77.1 (q_p1 hf) (q_p2 hf)
        · refine r_aload_n h d_P_taken_39 0 rfl rfl ?_
          refine r_getR h fd_YC_0_4 cf_P fl_P_36 d_P_taken_40 ?_
          refine r_getR h fd_YC_21_0 cf_Packs fl_P_418 d_P_taken_43 ?_
          refine r_iload_n h d_P_taken_46 2 rfl rfl ?_
          refine r_ialdv (v := (σ.1 22 (Int32.toNatClampNeg x2))) h sh_YC_22 d_P_taken_47 hf rfl (fun hf => ?_)
          refine r_goto h d_P_taken_48 ?_
          refine r_istore (ls' := [(4, .int (σ.1 22 (Int32.toNatClampNeg x2))), (0, .ref (ya Z 0)), (1, .int x1), (2, .int x2), (3, .int x3)]) h d_P_taken_60 (by decide) rfl ?_
          refine r_iload h d_P_taken_62 0 rfl ?_
          refine r_iload_n h d_P_taken_64 4 rfl rfl ?_
          refine r_icmp_lt h d_P_taken_65 hf (fun hf => ?_) (fun hf => ?_)
          · refine r_aload_n h d_P_taken_72 1 rfl rfl ?_
            refine r_iconst h d_P_taken_73 ki_2 ?_
            obtain ⟨q74, e74, hf⟩ := q_bind hf
            refine r_callV (As := [.int (2 : Int32)]) (rest := []) h sh_YC_0 lk_P_163 vk_P_163 d_P_taken_74 (by decide) rfl rfl (Nat.le_of_ble_eq_true rfl) (m_P_faulted e74) ?_
            exact r_ireturn h d_P_taken_77.1 (q_p1 hf) (q_p2 hf)
          · refine r_iconst h d_P_taken_68 ki_1 ?_
            refine r_goto h d_P_taken_69 ?_
            exact r_ireturn h d_P_taken_77.1 (q_p1 hf) (q_p2 hf)
      · refine r_iconst h d_P_taken_33 ki_m1 ?_
        exact r_ireturn h d_P_taken_34.1 (q_p1 hf) (q_p2 hf)
    · refine r_bipush h d_P_taken_21 kb_m2 ?_
      exact r_ireturn h d_P_taken_23.1 (q_p1 hf) (q_p2 hf)

theorem d_P_trace_0 : decode c_P_trace 0 = .ok (.aload_n 0, 1) ∧ 0 + 1 = 1 := by decide +kernel
theorem d_P_trace_1 : decode c_P_trace 1 = .ok (.getfield 440, 3) ∧ 1 + 3 = 4 := by decide +kernel
theorem d_P_trace_4 : decode c_P_trace 4 = .ok (.ireturn, 1) ∧ 4 + 1 = 5 := by decide +kernel
set_option maxHeartbeats 4000000 in
theorem m_P_trace {Z : Sy} {σ : St} {res : Int32} (hf : P_trace  σ = some res) : Ct YC Z y_P_trace c_P_trace 1 (some .int) 1 [.ref (ya Z 0)] σ (some (.int res)) σ := by
  refine Ct.of pn_P (Nat.le_of_ble_eq_true rfl) rfl (fun Γ h => ?_)
  have h : IsG YC Z R_P c_P_trace 1 1 (some .int) (some (.int res)) σ Γ := h
  unfold P_trace at hf
  refine r_aload_n h d_P_trace_0 0 rfl rfl ?_
  refine r_getI h fd_YC_0_14 cf_P fl_P_440 d_P_trace_1 ?_
  exact r_ireturn h d_P_trace_4.1 (Option.some.inj hf) rfl

theorem d_P_fault_0 : decode c_P_fault 0 = .ok (.aload_n 0, 1) ∧ 0 + 1 = 1 := by decide +kernel
theorem d_P_fault_1 : decode c_P_fault 1 = .ok (.getfield 152, 3) ∧ 1 + 3 = 4 := by decide +kernel
theorem d_P_fault_4 : decode c_P_fault 4 = .ok (.ireturn, 1) ∧ 4 + 1 = 5 := by decide +kernel
set_option maxHeartbeats 4000000 in
theorem m_P_fault {Z : Sy} {σ : St} {res : Int32} (hf : P_fault  σ = some res) : Ct YC Z y_P_fault c_P_fault 1 (some .int) 1 [.ref (ya Z 0)] σ (some (.int res)) σ := by
  refine Ct.of pn_P (Nat.le_of_ble_eq_true rfl) rfl (fun Γ h => ?_)
  have h : IsG YC Z R_P c_P_fault 1 1 (some .int) (some (.int res)) σ Γ := h
  unfold P_fault at hf
  refine r_aload_n h d_P_fault_0 0 rfl rfl ?_
  refine r_getI h fd_YC_0_13 cf_P fl_P_152 d_P_fault_1 ?_
  exact r_ireturn h d_P_fault_4.1 (Option.some.inj hf) rfl

theorem d_P_many_0 : decode c_P_many 0 = .ok (.iload_n 1, 1) ∧ 0 + 1 = 1 := by decide +kernel
theorem d_P_many_1 : decode c_P_many 1 = .ok (.tableswitch 135 0 9 #[55, 63, 71, 79, 87, 95, 103, 111, 119, 127], 55) ∧ 1 + 55 = 56 := by decide +kernel
theorem d_P_many_56 : decode c_P_many 56 = .ok (.aload_n 0, 1) ∧ 56 + 1 = 57 := by decide +kernel
theorem d_P_many_57 : decode c_P_many 57 = .ok (.getfield 12, 3) ∧ 57 + 3 = 60 := by decide +kernel
theorem d_P_many_60 : decode c_P_many 60 = .ok (.getfield 443, 3) ∧ 60 + 3 = 63 := by decide +kernel
theorem d_P_many_63 : decode c_P_many 63 = .ok (.ireturn, 1) ∧ 63 + 1 = 64 := by decide +kernel
theorem d_P_many_64 : decode c_P_many 64 = .ok (.aload_n 0, 1) ∧ 64 + 1 = 65 := by decide +kernel
theorem d_P_many_65 : decode c_P_many 65 = .ok (.getfield 12, 3) ∧ 65 + 3 = 68 := by decide +kernel
theorem d_P_many_68 : decode c_P_many 68 = .ok (.getfield 445, 3) ∧ 68 + 3 = 71 := by decide +kernel
theorem d_P_many_71 : decode c_P_many 71 = .ok (.ireturn, 1) ∧ 71 + 1 = 72 := by decide +kernel
theorem d_P_many_72 : decode c_P_many 72 = .ok (.aload_n 0, 1) ∧ 72 + 1 = 73 := by decide +kernel
theorem d_P_many_73 : decode c_P_many 73 = .ok (.getfield 12, 3) ∧ 73 + 3 = 76 := by decide +kernel
theorem d_P_many_76 : decode c_P_many 76 = .ok (.getfield 447, 3) ∧ 76 + 3 = 79 := by decide +kernel
theorem d_P_many_79 : decode c_P_many 79 = .ok (.ireturn, 1) ∧ 79 + 1 = 80 := by decide +kernel
theorem d_P_many_80 : decode c_P_many 80 = .ok (.aload_n 0, 1) ∧ 80 + 1 = 81 := by decide +kernel
theorem d_P_many_81 : decode c_P_many 81 = .ok (.getfield 23, 3) ∧ 81 + 3 = 84 := by decide +kernel
theorem d_P_many_84 : decode c_P_many 84 = .ok (.getfield 449, 3) ∧ 84 + 3 = 87 := by decide +kernel
theorem d_P_many_87 : decode c_P_many 87 = .ok (.ireturn, 1) ∧ 87 + 1 = 88 := by decide +kernel
theorem d_P_many_88 : decode c_P_many 88 = .ok (.aload_n 0, 1) ∧ 88 + 1 = 89 := by decide +kernel
theorem d_P_many_89 : decode c_P_many 89 = .ok (.getfield 36, 3) ∧ 89 + 3 = 92 := by decide +kernel
theorem d_P_many_92 : decode c_P_many 92 = .ok (.getfield 450, 3) ∧ 92 + 3 = 95 := by decide +kernel
theorem d_P_many_95 : decode c_P_many 95 = .ok (.ireturn, 1) ∧ 95 + 1 = 96 := by decide +kernel
theorem d_P_many_96 : decode c_P_many 96 = .ok (.aload_n 0, 1) ∧ 96 + 1 = 97 := by decide +kernel
theorem d_P_many_97 : decode c_P_many 97 = .ok (.getfield 43, 3) ∧ 97 + 3 = 100 := by decide +kernel
theorem d_P_many_100 : decode c_P_many 100 = .ok (.getfield 169, 3) ∧ 100 + 3 = 103 := by decide +kernel
theorem d_P_many_103 : decode c_P_many 103 = .ok (.ireturn, 1) ∧ 103 + 1 = 104 := by decide +kernel
theorem d_P_many_104 : decode c_P_many 104 = .ok (.aload_n 0, 1) ∧ 104 + 1 = 105 := by decide +kernel
theorem d_P_many_105 : decode c_P_many 105 = .ok (.getfield 57, 3) ∧ 105 + 3 = 108 := by decide +kernel
theorem d_P_many_108 : decode c_P_many 108 = .ok (.getfield 451, 3) ∧ 108 + 3 = 111 := by decide +kernel
theorem d_P_many_111 : decode c_P_many 111 = .ok (.ireturn, 1) ∧ 111 + 1 = 112 := by decide +kernel
theorem d_P_many_112 : decode c_P_many 112 = .ok (.aload_n 0, 1) ∧ 112 + 1 = 113 := by decide +kernel
theorem d_P_many_113 : decode c_P_many 113 = .ok (.getfield 64, 3) ∧ 113 + 3 = 116 := by decide +kernel
theorem d_P_many_116 : decode c_P_many 116 = .ok (.getfield 253, 3) ∧ 116 + 3 = 119 := by decide +kernel
theorem d_P_many_119 : decode c_P_many 119 = .ok (.ireturn, 1) ∧ 119 + 1 = 120 := by decide +kernel
theorem d_P_many_120 : decode c_P_many 120 = .ok (.aload_n 0, 1) ∧ 120 + 1 = 121 := by decide +kernel
theorem d_P_many_121 : decode c_P_many 121 = .ok (.getfield 78, 3) ∧ 121 + 3 = 124 := by decide +kernel
theorem d_P_many_124 : decode c_P_many 124 = .ok (.getfield 452, 3) ∧ 124 + 3 = 127 := by decide +kernel
theorem d_P_many_127 : decode c_P_many 127 = .ok (.ireturn, 1) ∧ 127 + 1 = 128 := by decide +kernel
theorem d_P_many_128 : decode c_P_many 128 = .ok (.aload_n 0, 1) ∧ 128 + 1 = 129 := by decide +kernel
theorem d_P_many_129 : decode c_P_many 129 = .ok (.getfield 85, 3) ∧ 129 + 3 = 132 := by decide +kernel
theorem d_P_many_132 : decode c_P_many 132 = .ok (.getfield 380, 3) ∧ 132 + 3 = 135 := by decide +kernel
theorem d_P_many_135 : decode c_P_many 135 = .ok (.ireturn, 1) ∧ 135 + 1 = 136 := by decide +kernel
theorem d_P_many_136 : decode c_P_many 136 = .ok (.bipush (-2), 2) ∧ 136 + 2 = 138 := by decide +kernel
theorem d_P_many_138 : decode c_P_many 138 = .ok (.ireturn, 1) ∧ 138 + 1 = 139 := by decide +kernel
set_option maxHeartbeats 4000000 in
theorem m_P_many {Z : Sy} {σ : St} {res : Int32} {x1 : Int32} (hf : P_many x1 σ = some res) : Ct YC Z y_P_many c_P_many 2 (some .int) 1 [.ref (ya Z 0), .int x1] σ (some (.int res)) σ := by
  refine Ct.of pn_P (Nat.le_of_ble_eq_true rfl) rfl (fun Γ h => ?_)
  have h : IsG YC Z R_P c_P_many 2 1 (some .int) (some (.int res)) σ Γ := h
  unfold P_many at hf
  refine r_iload_n h d_P_many_0 1 rfl rfl ?_
  refine q_case hf (fun hq hf => ?_) (fun hn0 hf => ?_)
  · refine r_tab (tgt := 56) (off := 55) h (0 : Int32) hq d_P_many_1.1 (by decide) ?_
    refine r_aload_n h d_P_many_56 0 rfl rfl ?_
    refine r_getR h fd_YC_0_0 cf_P fl_P_12 d_P_many_57 ?_
    refine r_getI h fd_YC_1_4 cf_Roll fl_P_443 d_P_many_60 ?_
    exact r_ireturn h d_P_many_63.1 (Option.some.inj hf) rfl
  ·
    refine q_case hf (fun hq hf => ?_) (fun hn1 hf => ?_)
    · refine r_tab (tgt := 64) (off := 63) h (1 : Int32) hq d_P_many_1.1 (by decide) ?_
      refine r_aload_n h d_P_many_64 0 rfl rfl ?_
      refine r_getR h fd_YC_0_0 cf_P fl_P_12 d_P_many_65 ?_
      refine r_getI h fd_YC_1_5 cf_Roll fl_P_445 d_P_many_68 ?_
      exact r_ireturn h d_P_many_71.1 (Option.some.inj hf) rfl
    ·
      refine q_case hf (fun hq hf => ?_) (fun hn2 hf => ?_)
      · refine r_tab (tgt := 72) (off := 71) h (2 : Int32) hq d_P_many_1.1 (by decide) ?_
        refine r_aload_n h d_P_many_72 0 rfl rfl ?_
        refine r_getR h fd_YC_0_0 cf_P fl_P_12 d_P_many_73 ?_
        refine r_getI h fd_YC_1_6 cf_Roll fl_P_447 d_P_many_76 ?_
        exact r_ireturn h d_P_many_79.1 (Option.some.inj hf) rfl
      ·
        refine q_case hf (fun hq hf => ?_) (fun hn3 hf => ?_)
        · refine r_tab (tgt := 80) (off := 79) h (3 : Int32) hq d_P_many_1.1 (by decide) ?_
          refine r_aload_n h d_P_many_80 0 rfl rfl ?_
          refine r_getR h fd_YC_0_1 cf_P fl_P_23 d_P_many_81 ?_
          refine r_getI h fd_YC_6_4 cf_Spans fl_P_449 d_P_many_84 ?_
          exact r_ireturn h d_P_many_87.1 (Option.some.inj hf) rfl
        ·
          refine q_case hf (fun hq hf => ?_) (fun hn4 hf => ?_)
          · refine r_tab (tgt := 88) (off := 87) h (4 : Int32) hq d_P_many_1.1 (by decide) ?_
            refine r_aload_n h d_P_many_88 0 rfl rfl ?_
            refine r_getR h fd_YC_0_4 cf_P fl_P_36 d_P_many_89 ?_
            refine r_getI h fd_YC_21_3 cf_Packs fl_P_450 d_P_many_92 ?_
            exact r_ireturn h d_P_many_95.1 (Option.some.inj hf) rfl
          ·
            refine q_case hf (fun hq hf => ?_) (fun hn5 hf => ?_)
            · refine r_tab (tgt := 96) (off := 95) h (5 : Int32) hq d_P_many_1.1 (by decide) ?_
              refine r_aload_n h d_P_many_96 0 rfl rfl ?_
              refine r_getR h fd_YC_0_5 cf_P fl_P_43 d_P_many_97 ?_
              refine r_getI h fd_YC_28_6 cf_Ledger fl_P_169 d_P_many_100 ?_
              exact r_ireturn h d_P_many_103.1 (Option.some.inj hf) rfl
            ·
              refine q_case hf (fun hq hf => ?_) (fun hn6 hf => ?_)
              · refine r_tab (tgt := 104) (off := 103) h (6 : Int32) hq d_P_many_1.1 (by decide) ?_
                refine r_aload_n h d_P_many_104 0 rfl rfl ?_
                refine r_getR h fd_YC_0_7 cf_P fl_P_57 d_P_many_105 ?_
                refine r_getI h fd_YC_40_6 cf_Texts fl_P_451 d_P_many_108 ?_
                exact r_ireturn h d_P_many_111.1 (Option.some.inj hf) rfl
              ·
                refine q_case hf (fun hq hf => ?_) (fun hn7 hf => ?_)
                · refine r_tab (tgt := 112) (off := 111) h (7 : Int32) hq d_P_many_1.1 (by decide) ?_
                  refine r_aload_n h d_P_many_112 0 rfl rfl ?_
                  refine r_getR h fd_YC_0_8 cf_P fl_P_64 d_P_many_113 ?_
                  refine r_getI h fd_YC_49_7 cf_Debts fl_P_253 d_P_many_116 ?_
                  exact r_ireturn h d_P_many_119.1 (Option.some.inj hf) rfl
                ·
                  refine q_case hf (fun hq hf => ?_) (fun hn8 hf => ?_)
                  · refine r_tab (tgt := 120) (off := 119) h (8 : Int32) hq d_P_many_1.1 (by decide) ?_
                    refine r_aload_n h d_P_many_120 0 rfl rfl ?_
                    refine r_getR h fd_YC_0_10 cf_P fl_P_78 d_P_many_121 ?_
                    refine r_getI h fd_YC_64_2 cf_Rounds fl_P_452 d_P_many_124 ?_
                    exact r_ireturn h d_P_many_127.1 (Option.some.inj hf) rfl
                  ·
                    refine q_case hf (fun hq hf => ?_) (fun hn9 hf => ?_)
                    · refine r_tab (tgt := 128) (off := 127) h (9 : Int32) hq d_P_many_1.1 (by decide) ?_
                      refine r_aload_n h d_P_many_128 0 rfl rfl ?_
                      refine r_getR h fd_YC_0_11 cf_P fl_P_85 d_P_many_129 ?_
                      refine r_getI h fd_YC_67_6 cf_Offers fl_P_380 d_P_many_132 ?_
                      exact r_ireturn h d_P_many_135.1 (Option.some.inj hf) rfl
                    ·
                      have g0 := q_neI hn0
                      have g1 := q_neI hn1
                      have g2 := q_neI hn2
                      have g3 := q_neI hn3
                      have g4 := q_neI hn4
                      have g5 := q_neI hn5
                      have g6 := q_neI hn6
                      have g7 := q_neI hn7
                      have g8 := q_neI hn8
                      have g9 := q_neI hn9
                      refine r_tabD (tgt := 136) h d_P_many_1.1 (by simp at g0 g1 g2 g3 g4 g5 g6 g7 g8 g9; omega) (by decide) ?_
                      refine r_bipush h d_P_many_136 kb_m2 ?_
                      exact r_ireturn h d_P_many_138.1 (Option.some.inj hf) rfl

