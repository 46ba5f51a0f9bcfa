theorem d_P_meet_0 : decode c_P_meet 0 = .ok (.aload_n 0, 1) ∧ 0 + 1 = 1 := by decide +kernel
theorem d_P_meet_1 : decode c_P_meet 1 = .ok (.getfield 12, 3) ∧ 1 + 3 = 4 := by decide +kernel
theorem d_P_meet_4 : decode c_P_meet 4 = .ok (.iload_n 1, 1) ∧ 4 + 1 = 5 := by decide +kernel
theorem d_P_meet_5 : decode c_P_meet 5 = .ok (.invokevirtual 112, 3) ∧ 5 + 3 = 8 := by decide +kernel
theorem d_P_meet_8 : decode c_P_meet 8 = .ok (.ifCond .eq 14, 3) ∧ 8 + 3 = 11 ∧ ((8 : Nat) : Int) + 14 = ((22 : Nat) : Int) := by decide +kernel
theorem d_P_meet_11 : decode c_P_meet 11 = .ok (.aload_n 0, 1) ∧ 11 + 1 = 12 := by decide +kernel
theorem d_P_meet_12 : decode c_P_meet 12 = .ok (.getfield 12, 3) ∧ 12 + 3 = 15 := by decide +kernel
theorem d_P_meet_15 : decode c_P_meet 15 = .ok (.iload_n 2, 1) ∧ 15 + 1 = 16 := by decide +kernel
theorem d_P_meet_16 : decode c_P_meet 16 = .ok (.invokevirtual 112, 3) ∧ 16 + 3 = 19 := by decide +kernel
theorem d_P_meet_19 : decode c_P_meet 19 = .ok (.ifCond .ne 5, 3) ∧ 19 + 3 = 22 ∧ ((19 : Nat) : Int) + 5 = ((24 : Nat) : Int) := by decide +kernel
theorem d_P_meet_22 : decode c_P_meet 22 = .ok (.iconst (-1), 1) ∧ 22 + 1 = 23 := by decide +kernel
theorem d_P_meet_23 : decode c_P_meet 23 = .ok (.ireturn, 1) ∧ 23 + 1 = 24 := by decide +kernel
theorem d_P_meet_24 : decode c_P_meet 24 = .ok (.iload_n 3, 1) ∧ 24 + 1 = 25 := by decide +kernel
theorem d_P_meet_25 : decode c_P_meet 25 = .ok (.sipush 10000, 3) ∧ 25 + 3 = 28 := by decide +kernel
theorem d_P_meet_28 : decode c_P_meet 28 = .ok (.invokestatic 96, 3) ∧ 28 + 3 = 31 := by decide +kernel
theorem d_P_meet_31 : decode c_P_meet 31 = .ok (.ifCond .eq 8, 3) ∧ 31 + 3 = 34 ∧ ((31 : Nat) : Int) + 8 = ((39 : Nat) : Int) := by decide +kernel
theorem d_P_meet_34 : decode c_P_meet 34 = .ok (.iload_n 1, 1) ∧ 34 + 1 = 35 := by decide +kernel
theorem d_P_meet_35 : decode c_P_meet 35 = .ok (.iload_n 2, 1) ∧ 35 + 1 = 36 := by decide +kernel
theorem d_P_meet_36 : decode c_P_meet 36 = .ok (.if_icmp .ne 6, 3) ∧ 36 + 3 = 39 ∧ ((36 : Nat) : Int) + 6 = ((42 : Nat) : Int) := by decide +kernel
theorem d_P_meet_39 : decode c_P_meet 39 = .ok (.bipush (-2), 2) ∧ 39 + 2 = 41 := by decide +kernel
theorem d_P_meet_41 : decode c_P_meet 41 = .ok (.ireturn, 1) ∧ 41 + 1 = 42 := by decide +kernel
theorem d_P_meet_42 : decode c_P_meet 42 = .ok (.aload_n 0, 1) ∧ 42 + 1 = 43 := by decide +kernel
theorem d_P_meet_43 : decode c_P_meet 43 = .ok (.getfield 23, 3) ∧ 43 + 3 = 46 := by decide +kernel
theorem d_P_meet_46 : decode c_P_meet 46 = .ok (.iload_n 1, 1) ∧ 46 + 1 = 47 := by decide +kernel
theorem d_P_meet_47 : decode c_P_meet 47 = .ok (.iload_n 2, 1) ∧ 47 + 1 = 48 := by decide +kernel
theorem d_P_meet_48 : decode c_P_meet 48 = .ok (.iload_n 3, 1) ∧ 48 + 1 = 49 := by decide +kernel
theorem d_P_meet_49 : decode c_P_meet 49 = .ok (.invokevirtual 137, 3) ∧ 49 + 3 = 52 := by decide +kernel
theorem d_P_meet_52 : decode c_P_meet 52 = .ok (.ireturn, 1) ∧ 52 + 1 = 53 := by decide +kernel
set_option maxHeartbeats 4000000 in
theorem m_P_meet {Z : Sy} {σ : St} {res : Int32} {x1 : Int32} {x2 : Int32} {x3 : Int32} (hf : P_meet x1 x2 x3 σ = some res) : Ct YC Z y_P_meet c_P_meet 4 (some .int) 3 [.ref (ya Z 0), .int x1, .int x2, .int x3] σ (some (.int res)) σ := by
  refine Ct.of pn_P (Nat.le_of_ble_eq_true rfl) rfl (fun Γ h => ?_)
  have h : IsG YC Z R_P c_P_meet 4 3 (some .int) (some (.int res)) σ Γ := h
  unfold P_meet at hf
  refine r_aload_n h d_P_meet_0 0 rfl rfl ?_
  refine r_getR h fd_YC_0_0 cf_P fl_P_12 d_P_meet_1 ?_
  refine r_iload_n h d_P_meet_4 1 rfl rfl ?_
  obtain ⟨r5, e5, hf⟩ := q_bind hf
  refine r_callV (As := [.int x1]) (rest := []) h sh_YC_1 lk_P_112 vk_P_112 d_P_meet_5 (by decide) rfl rfl (Nat.le_of_ble_eq_true rfl) (m_Roll_hasBand e5) ?_
  refine r_bif_eq h d_P_meet_8 hf (fun hf => ?_) (fun hf => ?_)
  · refine r_iconst h d_P_meet_22 ki_m1 ?_
    exact r_ireturn h d_P_meet_23.1 (Option.some.inj hf) rfl
  · refine r_aload_n h d_P_meet_11 0 rfl rfl ?_
    refine r_getR h fd_YC_0_0 cf_P fl_P_12 d_P_meet_12 ?_
    refine r_iload_n h d_P_meet_15 2 rfl rfl ?_
    obtain ⟨r16, e16, hf⟩ := q_bind hf
    refine r_callV (As := [.int x2]) (rest := []) h sh_YC_1 lk_P_112 vk_P_112 d_P_meet_16 (by decide) rfl rfl (Nat.le_of_ble_eq_true rfl) (m_Roll_hasBand e16) ?_
    refine r_bif_ne h d_P_meet_19 hf (fun hf => ?_) (fun hf => ?_)
    · refine r_iload_n h d_P_meet_24 3 rfl rfl ?_
      refine r_sipush h d_P_meet_25 ks_10000 ?_
      obtain ⟨r28, e28, hf⟩ := q_bind hf
      refine r_callS (As := [.int x3, .int (10000 : Int32)]) (rest := []) h lk_P_96 sk_P_96 d_P_meet_28 (by decide) rfl rfl (Nat.le_of_ble_eq_true rfl) (m_P_isBelow e28) ?_
      refine r_bif_eq h d_P_meet_31 hf (fun hf => ?_) (fun hf => ?_)
      · refine r_bipush h d_P_meet_39 kb_m2 ?_
        exact r_ireturn h d_P_meet_41.1 (Option.some.inj hf) rfl
      · refine r_iload_n h d_P_meet_34 1 rfl rfl ?_
        refine r_iload_n h d_P_meet_35 2 rfl rfl ?_
        refine r_icmp_ne h d_P_meet_36 hf (fun hf => ?_) (fun hf => ?_)
        · refine r_aload_n h d_P_meet_42 0 rfl rfl ?_
          refine r_getR h fd_YC_0_1 cf_P fl_P_23 d_P_meet_43 ?_
          refine r_iload_n h d_P_meet_46 1 rfl rfl ?_
          refine r_iload_n h d_P_meet_47 2 rfl rfl ?_
          refine r_iload_n h d_P_meet_48 3 rfl rfl ?_
          obtain ⟨r49, e49, hf⟩ := q_bind hf
          refine r_callV (As := [.int x1, .int x2, .int x3]) (rest := []) h sh_YC_6 lk_P_137 vk_P_137 d_P_meet_49 (by decide) rfl rfl (Nat.le_of_ble_eq_true rfl) (m_Spans_firstTogether_stays e49) ?_
          exact r_ireturn h d_P_meet_52.1 (Option.some.inj hf) rfl
        · refine r_bipush h d_P_meet_39 kb_m2 ?_
          exact r_ireturn h d_P_meet_41.1 (Option.some.inj hf) rfl
    · refine r_iconst h d_P_meet_22 ki_m1 ?_
      exact r_ireturn h d_P_meet_23.1 (Option.some.inj hf) rfl

theorem d_Roll_hasHouse_0 : decode c_Roll_hasHouse 0 = .ok (.iload_n 1, 1) ∧ 0 + 1 = 1 := by decide +kernel
theorem d_Roll_hasHouse_1 : decode c_Roll_hasHouse 1 = .ok (.aload_n 0, 1) ∧ 1 + 1 = 2 := by decide +kernel
theorem d_Roll_hasHouse_2 : decode c_Roll_hasHouse 2 = .ok (.getfield 31, 3) ∧ 2 + 3 = 5 := by decide +kernel
theorem d_Roll_hasHouse_5 : decode c_Roll_hasHouse 5 = .ok (.invokestatic 34, 3) ∧ 5 + 3 = 8 := by decide +kernel
theorem d_Roll_hasHouse_8 : decode c_Roll_hasHouse 8 = .ok (.ireturn, 1) ∧ 8 + 1 = 9 := by decide +kernel
set_option maxHeartbeats 4000000 in
theorem m_Roll_hasHouse {Z : Sy} {σ : St} {res : Bool} {x1 : Int32} (hf : Roll_hasHouse x1 σ = some res) : Ct YC Z y_Roll_hasHouse c_Roll_hasHouse 2 (some .boolean) 2 [.ref (ya Z 1), .int x1] σ (some (.int (bi res))) σ := by
  refine Ct.of pn_Roll (Nat.le_of_ble_eq_true rfl) rfl (fun Γ h => ?_)
  have h : IsG YC Z R_Roll c_Roll_hasHouse 2 2 (some .boolean) (some (.int (bi res))) σ Γ := h
  unfold Roll_hasHouse at hf
  refine r_iload_n h d_Roll_hasHouse_0 1 rfl rfl ?_
  refine r_aload_n h d_Roll_hasHouse_1 0 rfl rfl ?_
  refine r_getI h fd_YC_1_6 cf_Roll fl_Roll_31 d_Roll_hasHouse_2 ?_
  obtain ⟨r5, e5, hf⟩ := q_bind hf
  refine r_callN (As := [.int x1, .int (σ.1 1 6)]) (rest := []) h lk_Roll_34 nk_Roll_34 d_Roll_hasHouse_5 (by decide) rfl rfl (Nat.le_of_ble_eq_true rfl) (m_P_isBelow e5) ?_
  exact r_zreturn h d_Roll_hasHouse_8.1 (congrArg bi (Option.some.inj hf)) rfl

theorem d_Packs_add_0 : decode c_Packs_add 0 = .ok (.aload_n 0, 1) ∧ 0 + 1 = 1 := by decide +kernel
theorem d_Packs_add_1 : decode c_Packs_add 1 = .ok (.getfield 30, 3) ∧ 1 + 3 = 4 := by decide +kernel
theorem d_Packs_add_4 : decode c_Packs_add 4 = .ok (.aload_n 0, 1) ∧ 4 + 1 = 5 := by decide +kernel
theorem d_Packs_add_5 : decode c_Packs_add 5 = .ok (.getfield 9, 3) ∧ 5 + 3 = 8 := by decide +kernel
theorem d_Packs_add_8 : decode c_Packs_add 8 = .ok (.arraylength, 1) ∧ 8 + 1 = 9 := by decide +kernel
theorem d_Packs_add_9 : decode c_Packs_add 9 = .ok (.if_icmp .lt 6, 3) ∧ 9 + 3 = 12 ∧ ((9 : Nat) : Int) + 6 = ((15 : Nat) : Int) := by decide +kernel
theorem d_Packs_add_12 : decode c_Packs_add 12 = .ok (.bipush (-4), 2) ∧ 12 + 2 = 14 := by decide +kernel
theorem d_Packs_add_14 : decode c_Packs_add 14 = .ok (.ireturn, 1) ∧ 14 + 1 = 15 := by decide +kernel
theorem d_Packs_add_15 : decode c_Packs_add 15 = .ok (.aload_n 0, 1) ∧ 15 + 1 = 16 := by decide +kernel
theorem d_Packs_add_16 : decode c_Packs_add 16 = .ok (.getfield 9, 3) ∧ 16 + 3 = 19 := by decide +kernel
theorem d_Packs_add_19 : decode c_Packs_add 19 = .ok (.aload_n 0, 1) ∧ 19 + 1 = 20 := by decide +kernel
theorem d_Packs_add_20 : decode c_Packs_add 20 = .ok (.getfield 30, 3) ∧ 20 + 3 = 23 := by decide +kernel
theorem d_Packs_add_23 : decode c_Packs_add 23 = .ok (.iload_n 1, 1) ∧ 23 + 1 = 24 := by decide +kernel
theorem d_Packs_add_24 : decode c_Packs_add 24 = .ok (.iastore, 1) ∧ 24 + 1 = 25 := by decide +kernel
theorem d_Packs_add_25 : decode c_Packs_add 25 = .ok (.aload_n 0, 1) ∧ 25 + 1 = 26 := by decide +kernel
theorem d_Packs_add_26 : decode c_Packs_add 26 = .ok (.getfield 15, 3) ∧ 26 + 3 = 29 := by decide +kernel
theorem d_Packs_add_29 : decode c_Packs_add 29 = .ok (.aload_n 0, 1) ∧ 29 + 1 = 30 := by decide +kernel
theorem d_Packs_add_30 : decode c_Packs_add 30 = .ok (.getfield 30, 3) ∧ 30 + 3 = 33 := by decide +kernel
theorem d_Packs_add_33 : decode c_Packs_add 33 = .ok (.iload_n 2, 1) ∧ 33 + 1 = 34 := by decide +kernel
theorem d_Packs_add_34 : decode c_Packs_add 34 = .ok (.iastore, 1) ∧ 34 + 1 = 35 := by decide +kernel
theorem d_Packs_add_35 : decode c_Packs_add 35 = .ok (.aload_n 0, 1) ∧ 35 + 1 = 36 := by decide +kernel
theorem d_Packs_add_36 : decode c_Packs_add 36 = .ok (.getfield 18, 3) ∧ 36 + 3 = 39 := by decide +kernel
theorem d_Packs_add_39 : decode c_Packs_add 39 = .ok (.aload_n 0, 1) ∧ 39 + 1 = 40 := by decide +kernel
theorem d_Packs_add_40 : decode c_Packs_add 40 = .ok (.getfield 30, 3) ∧ 40 + 3 = 43 := by decide +kernel
theorem d_Packs_add_43 : decode c_Packs_add 43 = .ok (.iload_n 3, 1) ∧ 43 + 1 = 44 := by decide +kernel
theorem d_Packs_add_44 : decode c_Packs_add 44 = .ok (.iastore, 1) ∧ 44 + 1 = 45 := by decide +kernel
theorem d_Packs_add_45 : decode c_Packs_add 45 = .ok (.aload_n 0, 1) ∧ 45 + 1 = 46 := by decide +kernel
theorem d_Packs_add_46 : decode c_Packs_add 46 = .ok (.dup, 1) ∧ 46 + 1 = 47 := by decide +kernel
theorem d_Packs_add_47 : decode c_Packs_add 47 = .ok (.getfield 30, 3) ∧ 47 + 3 = 50 := by decide +kernel
theorem d_Packs_add_50 : decode c_Packs_add 50 = .ok (.dup_x1, 1) ∧ 50 + 1 = 51 := by decide +kernel
theorem d_Packs_add_51 : decode c_Packs_add 51 = .ok (.iconst 1, 1) ∧ 51 + 1 = 52 := by decide +kernel
theorem d_Packs_add_52 : decode c_Packs_add 52 = .ok (.iadd, 1) ∧ 52 + 1 = 53 := by decide +kernel
theorem d_Packs_add_53 : decode c_Packs_add 53 = .ok (.putfield 30, 3) ∧ 53 + 3 = 56 := by decide +kernel
theorem d_Packs_add_56 : decode c_Packs_add 56 = .ok (.ireturn, 1) ∧ 56 + 1 = 57 := by decide +kernel
set_option maxHeartbeats 4000000 in
theorem m_Packs_add {Z : Sy} {σ : St} {res : (Int32 × St)} {x1 : Int32} {x2 : Int32} {x3 : Int32} (hf : Packs_add x1 x2 x3 σ = some res) : Ct YC Z y_Packs_add c_Packs_add 4 (some .int) 1 [.ref (ya Z 21), .int x1, .int x2, .int x3] σ (some (.int res.1)) res.2 := by
  refine Ct.of pn_Packs (Nat.le_of_ble_eq_true rfl) rfl (fun Γ h => ?_)
  have h : IsG YC Z R_Packs c_Packs_add 4 1 (some .int) (some (.int res.1)) res.2 Γ := h
  unfold Packs_add at hf
  refine r_aload_n h d_Packs_add_0 0 rfl rfl ?_
  refine r_getI h fd_YC_21_3 cf_Packs fl_Packs_30 d_Packs_add_1 ?_
  refine r_aload_n h d_Packs_add_4 0 rfl rfl ?_
  refine r_getR h fd_YC_21_0 cf_Packs fl_Packs_9 d_Packs_add_5 ?_
  refine r_alen h sh_YC_22 kn_12 d_Packs_add_8 ?_
  refine r_icmp_lt h d_Packs_add_9 hf (fun hf => ?_) (fun hf => ?_)
  · refine r_aload_n h d_Packs_add_15 0 rfl rfl ?_
    refine r_getR h fd_YC_21_0 cf_Packs fl_Packs_9 d_Packs_add_16 ?_
    refine r_aload_n h d_Packs_add_19 0 rfl rfl ?_
    refine r_getI h fd_YC_21_3 cf_Packs fl_Packs_30 d_Packs_add_20 ?_
    refine r_iload_n h d_Packs_add_23 1 rfl rfl ?_
    refine r_iast h sh_YC_22 d_Packs_add_24 hf (fun hf => ?_)
    refine r_aload_n h d_Packs_add_25 0 rfl rfl ?_
    refine r_getR h fd_YC_21_1 cf_Packs fl_Packs_15 d_Packs_add_26 ?_
    refine r_aload_n h d_Packs_add_29 0 rfl rfl ?_
    refine r_getIv (v := (σ.1 21 3)) h fd_YC_21_3 cf_Packs fl_Packs_30 d_Packs_add_30 rfl ?_
    refine r_iload_n h d_Packs_add_33 2 rfl rfl ?_
    refine r_iast h sh_YC_23 d_Packs_add_34 hf (fun hf => ?_)
    refine r_aload_n h d_Packs_add_35 0 rfl rfl ?_
    refine r_getR h fd_YC_21_2 cf_Packs fl_Packs_18 d_Packs_add_36 ?_
    refine r_aload_n h d_Packs_add_39 0 rfl rfl ?_
    refine r_getIv (v := (σ.1 21 3)) h fd_YC_21_3 cf_Packs fl_Packs_30 d_Packs_add_40 rfl ?_
    refine r_iload_n h d_Packs_add_43 3 rfl rfl ?_
    refine r_iast h sh_YC_24 d_Packs_add_44 hf (fun hf => ?_)
    refine r_aload_n h d_Packs_add_45 0 rfl rfl ?_
    refine r_dup h d_Packs_add_46 rfl ?_
    refine r_getIv (v := (σ.1 21 3)) h fd_YC_21_3 cf_Packs fl_Packs_30 d_Packs_add_47 rfl ?_
    refine r_dup_x1 h d_Packs_add_50 rfl rfl ?_
    refine r_iconst h d_Packs_add_51 ki_1 ?_
    refine r_iadd h d_Packs_add_52 ?_
    refine r_putI h fd_YC_21_3 cf_Packs fl_Packs_30 ⟨rfl, rfl⟩ d_Packs_add_53 ?_
    exact r_ireturn h d_Packs_add_56.1 (q_p1 hf) (q_p2 hf)
  · refine r_bipush h d_Packs_add_12 kb_m4 ?_
    exact r_ireturn h d_Packs_add_14.1 (q_p1 hf) (q_p2 hf)

theorem d_P_pack_0 : decode c_P_pack 0 = .ok (.aload_n 0, 1) ∧ 0 + 1 = 1 := by decide +kernel
theorem d_P_pack_1 : decode c_P_pack 1 = .ok (.getfield 12, 3) ∧ 1 + 3 = 4 := by decide +kernel
theorem d_P_pack_4 : decode c_P_pack 4 = .ok (.iload_n 2, 1) ∧ 4 + 1 = 5 := by decide +kernel
theorem d_P_pack_5 : decode c_P_pack 5 = .ok (.invokevirtual 112, 3) ∧ 5 + 3 = 8 := by decide +kernel
theorem d_P_pack_8 : decode c_P_pack 8 = .ok (.ifCond .eq 14, 3) ∧ 8 + 3 = 11 ∧ ((8 : Nat) : Int) + 14 = ((22 : Nat) : Int) := by decide +kernel
theorem d_P_pack_11 : decode c_P_pack 11 = .ok (.aload_n 0, 1) ∧ 11 + 1 = 12 := by decide +kernel
theorem d_P_pack_12 : decode c_P_pack 12 = .ok (.getfield 12, 3) ∧ 12 + 3 = 15 := by decide +kernel
theorem d_P_pack_15 : decode c_P_pack 15 = .ok (.iload_n 3, 1) ∧ 15 + 1 = 16 := by decide +kernel
theorem d_P_pack_16 : decode c_P_pack 16 = .ok (.invokevirtual 141, 3) ∧ 16 + 3 = 19 := by decide +kernel
theorem d_P_pack_19 : decode c_P_pack 19 = .ok (.ifCond .ne 5, 3) ∧ 19 + 3 = 22 ∧ ((19 : Nat) : Int) + 5 = ((24 : Nat) : Int) := by decide +kernel
theorem d_P_pack_22 : decode c_P_pack 22 = .ok (.iconst (-1), 1) ∧ 22 + 1 = 23 := by decide +kernel
theorem d_P_pack_23 : decode c_P_pack 23 = .ok (.ireturn, 1) ∧ 23 + 1 = 24 := by decide +kernel
theorem d_P_pack_24 : decode c_P_pack 24 = .ok (.iload_n 1, 1) ∧ 24 + 1 = 25 := by decide +kernel
theorem d_P_pack_25 : decode c_P_pack 25 = .ok (.iconst 3, 1) ∧ 25 + 1 = 26 := by decide +kernel
theorem d_P_pack_26 : decode c_P_pack 26 = .ok (.invokestatic 96, 3) ∧ 26 + 3 = 29 := by decide +kernel
theorem d_P_pack_29 : decode c_P_pack 29 = .ok (.ifCond .ne 6, 3) ∧ 29 + 3 = 32 ∧ ((29 : Nat) : Int) + 6 = ((35 : Nat) : Int) := by decide +kernel
theorem d_P_pack_32 : decode c_P_pack 32 = .ok (.bipush (-2), 2) ∧ 32 + 2 = 34 := by decide +kernel
theorem d_P_pack_34 : decode c_P_pack 34 = .ok (.ireturn, 1) ∧ 34 + 1 = 35 := by decide +kernel
theorem d_P_pack_35 : decode c_P_pack 35 = .ok (.aload_n 0, 1) ∧ 35 + 1 = 36 := by decide +kernel
theorem d_P_pack_36 : decode c_P_pack 36 = .ok (.getfield 36, 3) ∧ 36 + 3 = 39 := by decide +kernel
theorem d_P_pack_39 : decode c_P_pack 39 = .ok (.iload_n 1, 1) ∧ 39 + 1 = 40 := by decide +kernel
theorem d_P_pack_40 : decode c_P_pack 40 = .ok (.iload_n 2, 1) ∧ 40 + 1 = 41 := by decide +kernel
theorem d_P_pack_41 : decode c_P_pack 41 = .ok (.iload_n 3, 1) ∧ 41 + 1 = 42 := by decide +kernel
theorem d_P_pack_42 : decode c_P_pack 42 = .ok (.invokevirtual 144, 3) ∧ 42 + 3 = 45 := by decide +kernel
theorem d_P_pack_45 : decode c_P_pack 45 = .ok (.ireturn, 1) ∧ 45 + 1 = 46 := by decide +kernel
set_option maxHeartbeats 4000000 in
theorem m_P_pack {Z : Sy} {σ : St} {res : (Int32 × St)} {x1 : Int32} {x2 : Int32} {x3 : Int32} (hf : P_pack x1 x2 x3 σ = some res) : Ct YC Z y_P_pack c_P_pack 4 (some .int) 3 [.ref (ya Z 0), .int x1, .int x2, .int x3] σ (some (.int res.1)) res.2 := by
  refine Ct.of pn_P (Nat.le_of_ble_eq_true rfl) rfl (fun Γ h => ?_)
  have h : IsG YC Z R_P c_P_pack 4 3 (some .int) (some (.int res.1)) res.2 Γ := h
  unfold P_pack at hf
  refine r_aload_n h d_P_pack_0 0 rfl rfl ?_
  refine r_getR h fd_YC_0_0 cf_P fl_P_12 d_P_pack_1 ?_
  refine r_iload_n h d_P_pack_4 2 rfl rfl ?_
  obtain ⟨r5, e5, hf⟩ := q_bind hf
  refine r_callV (As := [.int x2]) (rest := []) h sh_YC_1 lk_P_112 vk_P_112 d_P_pack_5 (by decide) rfl rfl (Nat.le_of_ble_eq_true rfl) (m_Roll_hasBand e5) ?_
  refine r_bif_eq h d_P_pack_8 hf (fun hf => ?_) (fun hf => ?_)
  · refine r_iconst h d_P_pack_22 ki_m1 ?_
    exact r_ireturn h d_P_pack_23.1 (q_p1 hf) (q_p2 hf)
  · refine r_aload_n h d_P_pack_11 0 rfl rfl ?_
    refine r_getR h fd_YC_0_0 cf_P fl_P_12 d_P_pack_12 ?_
    refine r_iload_n h d_P_pack_15 3 rfl rfl ?_
    obtain ⟨r16, e16, hf⟩ := q_bind hf
    refine r_callV (As := [.int x3]) (rest := []) h sh_YC_1 lk_P_141 vk_P_141 d_P_pack_16 (by decide) rfl rfl (Nat.le_of_ble_eq_true rfl) (m_Roll_hasHouse e16) ?_
    refine r_bif_ne h d_P_pack_19 hf (fun hf => ?_) (fun hf => ?_)
    · refine r_iload_n h d_P_pack_24 1 rfl rfl ?_
      refine r_iconst h d_P_pack_25 ki_3 ?_
      obtain ⟨r26, e26, hf⟩ := q_bind hf
      refine r_callS (As := [.int x1, .int (3 : Int32)]) (rest := []) h lk_P_96 sk_P_96 d_P_pack_26 (by decide) rfl rfl (Nat.le_of_ble_eq_true rfl) (m_P_isBelow e26) ?_
      refine r_bif_ne h d_P_pack_29 hf (fun hf => ?_) (fun hf => ?_)
      · refine r_aload_n h d_P_pack_35 0 rfl rfl ?_
        refine r_getR h fd_YC_0_4 cf_P fl_P_36 d_P_pack_36 ?_
        refine r_iload_n h d_P_pack_39 1 rfl rfl ?_
        refine r_iload_n h d_P_pack_40 2 rfl rfl ?_
        refine r_iload_n h d_P_pack_41 3 rfl rfl ?_
        obtain ⟨q42, e42, hf⟩ := q_bind hf
        refine r_callV (As := [.int x1, .int x2, .int x3]) (rest := []) h sh_YC_21 lk_P_144 vk_P_144 d_P_pack_42 (by decide) rfl rfl (Nat.le_of_ble_eq_true rfl) (m_Packs_add e42) ?_
        exact r_ireturn h d_P_pack_45.1 (q_p1 hf) (q_p2 hf)
      · refine r_bipush h d_P_pack_32 kb_m2 ?_
        exact r_ireturn h d_P_pack_34.1 (q_p1 hf) (q_p2 hf)
    · refine r_iconst h d_P_pack_22 ki_m1 ?_
      exact r_ireturn h d_P_pack_23.1 (q_p1 hf) (q_p2 hf)

theorem d_Packs_has_0 : decode c_Packs_has 0 = .ok (.iload_n 1, 1) ∧ 0 + 1 = 1 := by decide +kernel
theorem d_Packs_has_1 : decode c_Packs_has 1 = .ok (.aload_n 0, 1) ∧ 1 + 1 = 2 := by decide +kernel
theorem d_Packs_has_2 : decode c_Packs_has 2 = .ok (.getfield 30, 3) ∧ 2 + 3 = 5 := by decide +kernel
theorem d_Packs_has_5 : decode c_Packs_has 5 = .ok (.invokestatic 34, 3) ∧ 5 + 3 = 8 := by decide +kernel
theorem d_Packs_has_8 : decode c_Packs_has 8 = .ok (.ireturn, 1) ∧ 8 + 1 = 9 := by decide +kernel
set_option maxHeartbeats 4000000 in
theorem m_Packs_has {Z : Sy} {σ : St} {res : Bool} {x1 : Int32} (hf : Packs_has x1 σ = some res) : Ct YC Z y_Packs_has c_Packs_has 2 (some .boolean) 2 [.ref (ya Z 21), .int x1] σ (some (.int (bi res))) σ := by
  refine Ct.of pn_Packs (Nat.le_of_ble_eq_true rfl) rfl (fun Γ h => ?_)
  have h : IsG YC Z R_Packs c_Packs_has 2 2 (some .boolean) (some (.int (bi res))) σ Γ := h
  unfold Packs_has at hf
  refine r_iload_n h d_Packs_has_0 1 rfl rfl ?_
  refine r_aload_n h d_Packs_has_1 0 rfl rfl ?_
  refine r_getI h fd_YC_21_3 cf_Packs fl_Packs_30 d_Packs_has_2 ?_
  obtain ⟨r5, e5, hf⟩ := q_bind hf
  refine r_callN (As := [.int x1, .int (σ.1 21 3)]) (rest := []) h lk_Packs_34 nk_Packs_34 d_Packs_has_5 (by decide) rfl rfl (Nat.le_of_ble_eq_true rfl) (m_P_isBelow e5) ?_
  exact r_zreturn h d_Packs_has_8.1 (congrArg bi (Option.some.inj hf)) rfl

theorem d_Ledger_latestDay_0 : decode c_Ledger_latestDay 0 = .ok (.aload_n 0, 1) ∧ 0 + 1 = 1 := by decide +kernel
theorem d_Ledger_latestDay_1 : decode c_Ledger_latestDay 1 = .ok (.getfield 42, 3) ∧ 1 + 3 = 4 := by decide +kernel
theorem d_Ledger_latestDay_4 : decode c_Ledger_latestDay 4 = .ok (.iconst 1, 1) ∧ 4 + 1 = 5 := by decide +kernel
theorem d_Ledger_latestDay_5 : decode c_Ledger_latestDay 5 = .ok (.isub, 1) ∧ 5 + 1 = 6 := by decide +kernel
theorem d_Ledger_latestDay_6 : decode c_Ledger_latestDay 6 = .ok (.istore_n 2, 1) ∧ 6 + 1 = 7 := by decide +kernel
theorem d_Ledger_latestDay_7 : decode c_Ledger_latestDay 7 = .ok (.iload_n 2, 1) ∧ 7 + 1 = 8 := by decide +kernel
theorem d_Ledger_latestDay_8 : decode c_Ledger_latestDay 8 = .ok (.ifCond .lt 26, 3) ∧ 8 + 3 = 11 ∧ ((8 : Nat) : Int) + 26 = ((34 : Nat) : Int) := by decide +kernel
theorem d_Ledger_latestDay_11 : decode c_Ledger_latestDay 11 = .ok (.aload_n 0, 1) ∧ 11 + 1 = 12 := by decide +kernel
theorem d_Ledger_latestDay_12 : decode c_Ledger_latestDay 12 = .ok (.getfield 11, 3) ∧ 12 + 3 = 15 := by decide +kernel
theorem d_Ledger_latestDay_15 : decode c_Ledger_latestDay 15 = .ok (.iload_n 2, 1) ∧ 15 + 1 = 16 := by decide +kernel
theorem d_Ledger_latestDay_16 : decode c_Ledger_latestDay 16 = .ok (.iaload, 1) ∧ 16 + 1 = 17 := by decide +kernel
theorem d_Ledger_latestDay_17 : decode c_Ledger_latestDay 17 = .ok (.iload_n 1, 1) ∧ 17 + 1 = 18 := by decide +kernel
theorem d_Ledger_latestDay_18 : decode c_Ledger_latestDay 18 = .ok (.if_icmp .ne 10, 3) ∧ 18 + 3 = 21 ∧ ((18 : Nat) : Int) + 10 = ((28 : Nat) : Int) := by decide +kernel
theorem d_Ledger_latestDay_21 : decode c_Ledger_latestDay 21 = .ok (.aload_n 0, 1) ∧ 21 + 1 = 22 := by decide +kernel
theorem d_Ledger_latestDay_22 : decode c_Ledger_latestDay 22 = .ok (.getfield 27, 3) ∧ 22 + 3 = 25 := by decide +kernel
theorem d_Ledger_latestDay_25 : decode c_Ledger_latestDay 25 = .ok (.iload_n 2, 1) ∧ 25 + 1 = 26 := by decide +kernel
theorem d_Ledger_latestDay_26 : decode c_Ledger_latestDay 26 = .ok (.iaload, 1) ∧ 26 + 1 = 27 := by decide +kernel
theorem d_Ledger_latestDay_27 : decode c_Ledger_latestDay 27 = .ok (.ireturn, 1) ∧ 27 + 1 = 28 := by decide +kernel
theorem d_Ledger_latestDay_28 : decode c_Ledger_latestDay 28 = .ok (.iinc 2 (-1), 3) ∧ 28 + 3 = 31 := by decide +kernel
theorem d_Ledger_latestDay_31 : decode c_Ledger_latestDay 31 = .ok (.goto (-24), 3) ∧ (31 : Int) + (-24) = (7 : Int) := by decide +kernel
theorem d_Ledger_latestDay_34 : decode c_Ledger_latestDay 34 = .ok (.bipush (-9), 2) ∧ 34 + 2 = 36 := by decide +kernel
theorem d_Ledger_latestDay_36 : decode c_Ledger_latestDay 36 = .ok (.ireturn, 1) ∧ 36 + 1 = 37 := by decide +kernel
set_option maxHeartbeats 4000000 in
theorem w_Ledger_latestDay_L7 {Z : Sy} {Γ : Nat → List (Nat × Value) → List Value → St → Prop} {res : Int32} {x1 : Int32} {σ : St} (h : IsG YC Z R_Ledger c_Ledger_latestDay 3 1 (some .int) (some (.int res)) σ Γ) : ∀ (n : Nat) (x2 : Int32), Ledger_latestDay_L7 x1 σ n x2 = some res → Γ 7 [(0, .ref (ya Z 28)), (1, .int x1), (2, .int x2)] [] σ := by
  intro n
  induction n with
  | zero => intro x2 hf; exact absurd hf (by simp [Ledger_latestDay_L7])
  | succ n ih =>
    intro x2 hf
    rw [Ledger_latestDay_L7] at hf
    refine r_iload_n h d_Ledger_latestDay_7 2 rfl rfl ?_
    refine r_if_lt h d_Ledger_latestDay_8 hf (fun hf => ?_) (fun hf => ?_)
    · refine r_bipush h d_Ledger_latestDay_34 kb_m9 ?_
      exact r_ireturn h d_Ledger_latestDay_36.1 (Option.some.inj hf) rfl
    · refine r_aload_n h d_Ledger_latestDay_11 0 rfl rfl ?_
      refine r_getR h fd_YC_28_0 cf_Ledger fl_Ledger_11 d_Ledger_latestDay_12 ?_
      refine r_iload_n h d_Ledger_latestDay_15 2 rfl rfl ?_
      refine r_iald h sh_YC_29 d_Ledger_latestDay_16 hf (fun hf => ?_)
      refine r_iload_n h d_Ledger_latestDay_17 1 rfl rfl ?_
      refine r_icmp_ne h d_Ledger_latestDay_18 hf (fun hf => ?_) (fun hf => ?_)
      · refine r_iinc (ls' := [(2, .int (x2 + (-1 : Int32))), (0, .ref (ya Z 28)), (1, .int x1)]) h d_Ledger_latestDay_28 2 rfl ki_m1 (by decide) rfl ?_
        refine r_goto h d_Ledger_latestDay_31 ?_
        refine r_sub h [1, 2, 0] rfl ?_
        exact ih _ hf
      · refine r_aload_n h d_Ledger_latestDay_21 0 rfl rfl ?_
        refine r_getR h fd_YC_28_5 cf_Ledger fl_Ledger_27 d_Ledger_latestDay_22 ?_
        refine r_iload_n h d_Ledger_latestDay_25 2 rfl rfl ?_
        refine r_iald h sh_YC_34 d_Ledger_latestDay_26 hf (fun hf => ?_)
        exact r_ireturn h d_Ledger_latestDay_27.1 (Option.some.inj hf) rfl

set_option maxHeartbeats 4000000 in
theorem m_Ledger_latestDay {Z : Sy} {σ : St} {res : Int32} {x1 : Int32} (hf : Ledger_latestDay x1 σ = some res) : Ct YC Z y_Ledger_latestDay c_Ledger_latestDay 3 (some .int) 1 [.ref (ya Z 28), .int x1] σ (some (.int res)) σ := by
  refine Ct.of pn_Ledger (Nat.le_of_ble_eq_true rfl) rfl (fun Γ h => ?_)
  have h : IsG YC Z R_Ledger c_Ledger_latestDay 3 1 (some .int) (some (.int res)) σ Γ := h
  unfold Ledger_latestDay at hf
  refine r_aload_n h d_Ledger_latestDay_0 0 rfl rfl ?_
  refine r_getI h fd_YC_28_6 cf_Ledger fl_Ledger_42 d_Ledger_latestDay_1 ?_
  refine r_iconst h d_Ledger_latestDay_4 ki_1 ?_
  refine r_isub h d_Ledger_latestDay_5 ?_
  refine r_istore_n (ls' := [(2, .int ((σ.1 28 6) - (1 : Int32))), (0, .ref (ya Z 28)), (1, .int x1)]) h d_Ledger_latestDay_6 rfl (by decide) rfl ?_
  refine r_sub h [1, 2, 0] rfl ?_
  exact w_Ledger_latestDay_L7 h _ _ hf

theorem d_Ledger_change_0 : decode c_Ledger_change 0 = .ok (.aload_n 0, 1) ∧ 0 + 1 = 1 := by decide +kernel
theorem d_Ledger_change_1 : decode c_Ledger_change 1 = .ok (.getfield 11, 3) ∧ 1 + 3 = 4 := by decide +kernel
theorem d_Ledger_change_4 : decode c_Ledger_change 4 = .ok (.iload_n 1, 1) ∧ 4 + 1 = 5 := by decide +kernel
theorem d_Ledger_change_5 : decode c_Ledger_change 5 = .ok (.iaload, 1) ∧ 5 + 1 = 6 := by decide +kernel
theorem d_Ledger_change_6 : decode c_Ledger_change 6 = .ok (.iload_n 2, 1) ∧ 6 + 1 = 7 := by decide +kernel
theorem d_Ledger_change_7 : decode c_Ledger_change 7 = .ok (.if_icmp .ne 24, 3) ∧ 7 + 3 = 10 ∧ ((7 : Nat) : Int) + 24 = ((31 : Nat) : Int) := by decide +kernel
theorem d_Ledger_change_10 : decode c_Ledger_change 10 = .ok (.aload_n 0, 1) ∧ 10 + 1 = 11 := by decide +kernel
theorem d_Ledger_change_11 : decode c_Ledger_change 11 = .ok (.getfield 18, 3) ∧ 11 + 3 = 14 := by decide +kernel
theorem d_Ledger_change_14 : decode c_Ledger_change 14 = .ok (.iload_n 1, 1) ∧ 14 + 1 = 15 := by decide +kernel
theorem d_Ledger_change_15 : decode c_Ledger_change 15 = .ok (.iaload, 1) ∧ 15 + 1 = 16 := by decide +kernel
theorem d_Ledger_change_16 : decode c_Ledger_change 16 = .ok (.iload_n 3, 1) ∧ 16 + 1 = 17 := by decide +kernel
theorem d_Ledger_change_17 : decode c_Ledger_change 17 = .ok (.if_icmp .ne 14, 3) ∧ 17 + 3 = 20 ∧ ((17 : Nat) : Int) + 14 = ((31 : Nat) : Int) := by decide +kernel
theorem d_Ledger_change_20 : decode c_Ledger_change 20 = .ok (.aload_n 0, 1) ∧ 20 + 1 = 21 := by decide +kernel
theorem d_Ledger_change_21 : decode c_Ledger_change 21 = .ok (.getfield 27, 3) ∧ 21 + 3 = 24 := by decide +kernel
theorem d_Ledger_change_24 : decode c_Ledger_change 24 = .ok (.iload_n 1, 1) ∧ 24 + 1 = 25 := by decide +kernel
theorem d_Ledger_change_25 : decode c_Ledger_change 25 = .ok (.iaload, 1) ∧ 25 + 1 = 26 := by decide +kernel
theorem d_Ledger_change_26 : decode c_Ledger_change 26 = .ok (.iload 4, 2) ∧ 26 + 2 = 28 := by decide +kernel
theorem d_Ledger_change_28 : decode c_Ledger_change 28 = .ok (.if_icmp .le 5, 3) ∧ 28 + 3 = 31 ∧ ((28 : Nat) : Int) + 5 = ((33 : Nat) : Int) := by decide +kernel
theorem d_Ledger_change_31 : decode c_Ledger_change 31 = .ok (.iconst 0, 1) ∧ 31 + 1 = 32 := by decide +kernel
theorem d_Ledger_change_32 : decode c_Ledger_change 32 = .ok (.ireturn, 1) ∧ 32 + 1 = 33 := by decide +kernel
theorem d_Ledger_change_33 : decode c_Ledger_change 33 = .ok (.aload_n 0, 1) ∧ 33 + 1 = 34 := by decide +kernel
theorem d_Ledger_change_34 : decode c_Ledger_change 34 = .ok (.getfield 15, 3) ∧ 34 + 3 = 37 := by decide +kernel
theorem d_Ledger_change_37 : decode c_Ledger_change 37 = .ok (.iload_n 1, 1) ∧ 37 + 1 = 38 := by decide +kernel
theorem d_Ledger_change_38 : decode c_Ledger_change 38 = .ok (.iaload, 1) ∧ 38 + 1 = 39 := by decide +kernel
theorem d_Ledger_change_39 : decode c_Ledger_change 39 = .ok (.iconst 2, 1) ∧ 39 + 1 = 40 := by decide +kernel
theorem d_Ledger_change_40 : decode c_Ledger_change 40 = .ok (.if_icmp .ge 12, 3) ∧ 40 + 3 = 43 ∧ ((40 : Nat) : Int) + 12 = ((52 : Nat) : Int) := by decide +kernel
theorem d_Ledger_change_43 : decode c_Ledger_change 43 = .ok (.aload_n 0, 1) ∧ 43 + 1 = 44 := by decide +kernel
theorem d_Ledger_change_44 : decode c_Ledger_change 44 = .ok (.getfield 21, 3) ∧ 44 + 3 = 47 := by decide +kernel
theorem d_Ledger_change_47 : decode c_Ledger_change 47 = .ok (.iload_n 1, 1) ∧ 47 + 1 = 48 := by decide +kernel
theorem d_Ledger_change_48 : decode c_Ledger_change 48 = .ok (.iaload, 1) ∧ 48 + 1 = 49 := by decide +kernel
theorem d_Ledger_change_49 : decode c_Ledger_change 49 = .ok (.goto 10, 3) ∧ (49 : Int) + 10 = (59 : Int) := by decide +kernel
theorem d_Ledger_change_52 : decode c_Ledger_change 52 = .ok (.aload_n 0, 1) ∧ 52 + 1 = 53 := by decide +kernel
theorem d_Ledger_change_53 : decode c_Ledger_change 53 = .ok (.getfield 21, 3) ∧ 53 + 3 = 56 := by decide +kernel
theorem d_Ledger_change_56 : decode c_Ledger_change 56 = .ok (.iload_n 1, 1) ∧ 56 + 1 = 57 := by decide +kernel
theorem d_Ledger_change_57 : decode c_Ledger_change 57 = .ok (.iaload, 1) ∧ 57 + 1 = 58 := by decide +kernel
theorem d_Ledger_change_58 : decode c_Ledger_change 58 = .ok (.ineg, 1) ∧ 58 + 1 = 59 := by decide +kernel
theorem d_Ledger_change_59 : decode c_Ledger_change 59 = .ok (.ireturn, 1) ∧ 59 + 1 = 60 := by decide +kernel
set_option maxHeartbeats 4000000 in
theorem m_Ledger_change {Z : Sy} {σ : St} {res : Int32} {x1 : Int32} {x2 : Int32} {x3 : Int32} {x4 : Int32} (hf : Ledger_change x1 x2 x3 x4 σ = some res) : Ct YC Z y_Ledger_change c_Ledger_change 5 (some .int) 1 [.ref (ya Z 28), .int x1, .int x2, .int x3, .int x4] σ (some (.int res)) σ := by
  refine Ct.of pn_Ledger (Nat.le_of_ble_eq_true rfl) rfl (fun Γ h => ?_)
  have h : IsG YC Z R_Ledger c_Ledger_change 5 1 (some .int) (some (.int res)) σ Γ := h
  unfold Ledger_change at hf
  refine r_aload_n h d_Ledger_change_0 0 rfl rfl ?_
  refine r_getR h fd_YC_28_0 cf_Ledger fl_Ledger_11 d_Ledger_change_1 ?_
  refine r_iload_n h d_Ledger_change_4 1 rfl rfl ?_
  refine r_iald h sh_YC_29 d_Ledger_change_5 hf (fun hf => ?_)
  refine r_iload_n h d_Ledger_change_6 2 rfl rfl ?_
  refine r_icmp_ne h d_Ledger_change_7 hf (fun hf => ?_) (fun hf => ?_)
  · refine r_iconst h d_Ledger_change_31 ki_0 ?_
    exact r_ireturn h d_Ledger_change_32.1 (Option.some.inj hf) rfl
  · refine r_aload_n h d_Ledger_change_10 0 rfl rfl ?_
    refine r_getR h fd_YC_28_2 cf_Ledger fl_Ledger_18 d_Ledger_change_11 ?_
    refine r_iload_n h d_Ledger_change_14 1 rfl rfl ?_
    refine r_iald h sh_YC_31 d_Ledger_change_15 hf (fun hf => ?_)
    refine r_iload_n h d_Ledger_change_16 3 rfl rfl ?_
    refine r_icmp_ne h d_Ledger_change_17 hf (fun hf => ?_) (fun hf => ?_)
    · refine r_iconst h d_Ledger_change_31 ki_0 ?_
      exact r_ireturn h d_Ledger_change_32.1 (Option.some.inj hf) rfl
    · refine r_aload_n h d_Ledger_change_20 0 rfl rfl ?_
      refine r_getR h fd_YC_28_5 cf_Ledger fl_Ledger_27 d_Ledger_change_21 ?_
      refine r_iload_n h d_Ledger_change_24 1 rfl rfl ?_
      refine r_iald h sh_YC_34 d_Ledger_change_25 hf (fun hf => ?_)
      refine r_iload h d_Ledger_change_26 4 rfl ?_
      refine r_icmp_le h d_Ledger_change_28 hf (fun hf => ?_) (fun hf => ?_)
      · refine r_aload_n h d_Ledger_change_33 0 rfl rfl ?_
        refine r_getR h fd_YC_28_1 cf_Ledger fl_Ledger_15 d_Ledger_change_34 ?_
        refine r_iload_n h d_Ledger_change_37 1 rfl rfl ?_
        refine r_iald h sh_YC_30 d_Ledger_change_38 hf (fun hf => ?_)
        refine r_iconst h d_Ledger_change_39 ki_2 ?_
        refine r_icmp_ge h d_Ledger_change_40 hf (fun hf => ?_) (fun hf => ?_)
        · refine r_aload_n h d_Ledger_change_52 0 rfl rfl ?_
          refine r_getR h fd_YC_28_3 cf_Ledger fl_Ledger_21 d_Ledger_change_53 ?_
          refine r_iload_n h d_Ledger_change_56 1 rfl rfl ?_
          refine r_iald h sh_YC_32 d_Ledger_change_57 hf (fun hf => ?_)
          refine r_ineg h d_Ledger_change_58 ?_
          exact r_ireturn h d_Ledger_change_59.1 (Option.some.inj hf) rfl
        · refine r_aload_n h d_Ledger_change_43 0 rfl rfl ?_
          refine r_getR h fd_YC_28_3 cf_Ledger fl_Ledger_21 d_Ledger_change_44 ?_
          refine r_iload_n h d_Ledger_change_47 1 rfl rfl ?_
          refine r_iald h sh_YC_32 d_Ledger_change_48 hf (fun hf => ?_)
          refine r_goto h d_Ledger_change_49 ?_
          exact r_ireturn h d_Ledger_change_59.1 (Option.some.inj hf) rfl
      · refine r_iconst h d_Ledger_change_31 ki_0 ?_
        exact r_ireturn h d_Ledger_change_32.1 (Option.some.inj hf) rfl

theorem d_Ledger_heldOn_0 : decode c_Ledger_heldOn 0 = .ok (.iconst 0, 1) ∧ 0 + 1 = 1 := by decide +kernel
theorem d_Ledger_heldOn_1 : decode c_Ledger_heldOn 1 = .ok (.istore 4, 2) ∧ 1 + 2 = 3 := by decide +kernel
theorem d_Ledger_heldOn_3 : decode c_Ledger_heldOn 3 = .ok (.iconst 0, 1) ∧ 3 + 1 = 4 := by decide +kernel
theorem d_Ledger_heldOn_4 : decode c_Ledger_heldOn 4 = .ok (.istore 5, 2) ∧ 4 + 2 = 6 := by decide +kernel
theorem d_Ledger_heldOn_6 : decode c_Ledger_heldOn 6 = .ok (.iload 5, 2) ∧ 6 + 2 = 8 := by decide +kernel
theorem d_Ledger_heldOn_8 : decode c_Ledger_heldOn 8 = .ok (.aload_n 0, 1) ∧ 8 + 1 = 9 := by decide +kernel
theorem d_Ledger_heldOn_9 : decode c_Ledger_heldOn 9 = .ok (.getfield 42, 3) ∧ 9 + 3 = 12 := by decide +kernel
theorem d_Ledger_heldOn_12 : decode c_Ledger_heldOn 12 = .ok (.if_icmp .ge 23, 3) ∧ 12 + 3 = 15 ∧ ((12 : Nat) : Int) + 23 = ((35 : Nat) : Int) := by decide +kernel
theorem d_Ledger_heldOn_15 : decode c_Ledger_heldOn 15 = .ok (.iload 4, 2) ∧ 15 + 2 = 17 := by decide +kernel
theorem d_Ledger_heldOn_17 : decode c_Ledger_heldOn 17 = .ok (.aload_n 0, 1) ∧ 17 + 1 = 18 := by decide +kernel
theorem d_Ledger_heldOn_18 : decode c_Ledger_heldOn 18 = .ok (.iload 5, 2) ∧ 18 + 2 = 20 := by decide +kernel
theorem d_Ledger_heldOn_20 : decode c_Ledger_heldOn 20 = .ok (.iload_n 1, 1) ∧ 20 + 1 = 21 := by decide +kernel
theorem d_Ledger_heldOn_21 : decode c_Ledger_heldOn 21 = .ok (.iload_n 2, 1) ∧ 21 + 1 = 22 := by decide +kernel
theorem d_Ledger_heldOn_22 : decode c_Ledger_heldOn 22 = .ok (.iload_n 3, 1) ∧ 22 + 1 = 23 := by decide +kernel
theorem d_Ledger_heldOn_23 : decode c_Ledger_heldOn 23 = .ok (.invokevirtual 46, 3) ∧ 23 + 3 = 26 := by decide +kernel
theorem d_Ledger_heldOn_26 : decode c_Ledger_heldOn 26 = .ok (.iadd, 1) ∧ 26 + 1 = 27 := by decide +kernel
theorem d_Ledger_heldOn_27 : decode c_Ledger_heldOn 27 = .ok (.istore 4, 2) ∧ 27 + 2 = 29 := by decide +kernel
theorem d_Ledger_heldOn_29 : decode c_Ledger_heldOn 29 = .ok (.iinc 5 1, 3) ∧ 29 + 3 = 32 := by decide +kernel
theorem d_Ledger_heldOn_32 : decode c_Ledger_heldOn 32 = .ok (.goto (-26), 3) ∧ (32 : Int) + (-26) = (6 : Int) := by decide +kernel
theorem d_Ledger_heldOn_35 : decode c_Ledger_heldOn 35 = .ok (.iload 4, 2) ∧ 35 + 2 = 37 := by decide +kernel
theorem d_Ledger_heldOn_37 : decode c_Ledger_heldOn 37 = .ok (.ireturn, 1) ∧ 37 + 1 = 38 := by decide +kernel
set_option maxHeartbeats 4000000 in
theorem w_Ledger_heldOn_L6 {Z : Sy} {Γ : Nat → List (Nat × Value) → List Value → St → Prop} {res : Int32} {x1 : Int32} {x2 : Int32} {x3 : Int32} {σ : St} (h : IsG YC Z R_Ledger c_Ledger_heldOn 6 2 (some .int) (some (.int res)) σ Γ) : ∀ (n : Nat) (x4 : Int32) (x5 : Int32), Ledger_heldOn_L6 x1 x2 x3 σ n x4 x5 = some res → Γ 6 [(0, .ref (ya Z 28)), (1, .int x1), (2, .int x2), (3, .int x3), (4, .int x4), (5, .int x5)] [] σ := by
  intro n
  induction n with
  | zero => intro x4 x5 hf; exact absurd hf (by simp [Ledger_heldOn_L6])
  | succ n ih =>
    intro x4 x5 hf
    rw [Ledger_heldOn_L6] at hf
    refine r_iload h d_Ledger_heldOn_6 5 rfl ?_
    refine r_aload_n h d_Ledger_heldOn_8 0 rfl rfl ?_
    refine r_getI h fd_YC_28_6 cf_Ledger fl_Ledger_42 d_Ledger_heldOn_9 ?_
    refine r_icmp_ge h d_Ledger_heldOn_12 hf (fun hf => ?_) (fun hf => ?_)
    · refine r_iload h d_Ledger_heldOn_35 4 rfl ?_
      exact r_ireturn h d_Ledger_heldOn_37.1 (Option.some.inj hf) rfl
    · refine r_iload h d_Ledger_heldOn_15 4 rfl ?_
      refine r_aload_n h d_Ledger_heldOn_17 0 rfl rfl ?_
      refine r_iload h d_Ledger_heldOn_18 5 rfl ?_
      refine r_iload_n h d_Ledger_heldOn_20 1 rfl rfl ?_
      refine r_iload_n h d_Ledger_heldOn_21 2 rfl rfl ?_
      refine r_iload_n h d_Ledger_heldOn_22 3 rfl rfl ?_
      obtain ⟨r23, e23, hf⟩ := q_bind hf
      refine r_callV (As := [.int x5, .int x1, .int x2, .int x3]) (rest := [.int x4]) h sh_YC_28 lk_Ledger_46 vk_Ledger_46 d_Ledger_heldOn_23 (by decide) rfl rfl (Nat.le_of_ble_eq_true rfl) (m_Ledger_change e23) ?_
      refine r_iadd h d_Ledger_heldOn_26 ?_
      refine r_istore (ls' := [(4, .int (x4 + r23)), (0, .ref (ya Z 28)), (1, .int x1), (2, .int x2), (3, .int x3), (5, .int x5)]) h d_Ledger_heldOn_27 (by decide) rfl ?_
      refine r_iinc (ls' := [(5, .int (x5 + (1 : Int32))), (4, .int (x4 + r23)), (0, .ref (ya Z 28)), (1, .int x1), (2, .int x2), (3, .int x3)]) h d_Ledger_heldOn_29 5 rfl ki_1 (by decide) rfl ?_
      refine r_goto h d_Ledger_heldOn_32 ?_
      refine r_sub h [2, 3, 4, 5, 1, 0] rfl ?_
      exact ih _ _ hf

set_option maxHeartbeats 4000000 in
theorem m_Ledger_heldOn {Z : Sy} {σ : St} {res : Int32} {x1 : Int32} {x2 : Int32} {x3 : Int32} (hf : Ledger_heldOn x1 x2 x3 σ = some res) : Ct YC Z y_Ledger_heldOn c_Ledger_heldOn 6 (some .int) 2 [.ref (ya Z 28), .int x1, .int x2, .int x3] σ (some (.int res)) σ := by
  refine Ct.of pn_Ledger (Nat.le_of_ble_eq_true rfl) rfl (fun Γ h => ?_)
  have h : IsG YC Z R_Ledger c_Ledger_heldOn 6 2 (some .int) (some (.int res)) σ Γ := h
  unfold Ledger_heldOn at hf
  refine r_iconst h d_Ledger_heldOn_0 ki_0 ?_
  refine r_istore (ls' := [(4, .int (0 : Int32)), (0, .ref (ya Z 28)), (1, .int x1), (2, .int x2), (3, .int x3)]) h d_Ledger_heldOn_1 (by decide) rfl ?_
  refine r_iconst h d_Ledger_heldOn_3 ki_0 ?_
  refine r_istore (ls' := [(5, .int (0 : Int32)), (4, .int (0 : Int32)), (0, .ref (ya Z 28)), (1, .int x1), (2, .int x2), (3, .int x3)]) h d_Ledger_heldOn_4 (by decide) rfl ?_
  refine r_sub h [2, 3, 4, 5, 1, 0] rfl ?_
  exact w_Ledger_heldOn_L6 h _ _ _ hf

theorem d_Ledger_add_0 : decode c_Ledger_add 0 = .ok (.iload_n 2, 1) ∧ 0 + 1 = 1 := by decide +kernel
theorem d_Ledger_add_1 : decode c_Ledger_add 1 = .ok (.iconst 5, 1) ∧ 1 + 1 = 2 := by decide +kernel
theorem d_Ledger_add_2 : decode c_Ledger_add 2 = .ok (.invokestatic 30, 3) ∧ 2 + 3 = 5 := by decide +kernel
theorem d_Ledger_add_5 : decode c_Ledger_add 5 = .ok (.ifCond .eq 25, 3) ∧ 5 + 3 = 8 ∧ ((5 : Nat) : Int) + 25 = ((30 : Nat) : Int) := by decide +kernel
theorem d_Ledger_add_8 : decode c_Ledger_add 8 = .ok (.iload_n 3, 1) ∧ 8 + 1 = 9 := by decide +kernel
theorem d_Ledger_add_9 : decode c_Ledger_add 9 = .ok (.bipush 8, 2) ∧ 9 + 2 = 11 := by decide +kernel
theorem d_Ledger_add_11 : decode c_Ledger_add 11 = .ok (.invokestatic 30, 3) ∧ 11 + 3 = 14 := by decide +kernel
theorem d_Ledger_add_14 : decode c_Ledger_add 14 = .ok (.ifCond .eq 16, 3) ∧ 14 + 3 = 17 ∧ ((14 : Nat) : Int) + 16 = ((30 : Nat) : Int) := by decide +kernel
theorem d_Ledger_add_17 : decode c_Ledger_add 17 = .ok (.iload 4, 2) ∧ 17 + 2 = 19 := by decide +kernel
theorem d_Ledger_add_19 : decode c_Ledger_add 19 = .ok (.iconst 1, 1) ∧ 19 + 1 = 20 := by decide +kernel
theorem d_Ledger_add_20 : decode c_Ledger_add 20 = .ok (.if_icmp .lt 10, 3) ∧ 20 + 3 = 23 ∧ ((20 : Nat) : Int) + 10 = ((30 : Nat) : Int) := by decide +kernel
theorem d_Ledger_add_23 : decode c_Ledger_add 23 = .ok (.iload 4, 2) ∧ 23 + 2 = 25 := by decide +kernel
theorem d_Ledger_add_25 : decode c_Ledger_add 25 = .ok (.bipush 99, 2) ∧ 25 + 2 = 27 := by decide +kernel
theorem d_Ledger_add_27 : decode c_Ledger_add 27 = .ok (.if_icmp .le 6, 3) ∧ 27 + 3 = 30 ∧ ((27 : Nat) : Int) + 6 = ((33 : Nat) : Int) := by decide +kernel
theorem d_Ledger_add_30 : decode c_Ledger_add 30 = .ok (.bipush (-2), 2) ∧ 30 + 2 = 32 := by decide +kernel
theorem d_Ledger_add_32 : decode c_Ledger_add 32 = .ok (.ireturn, 1) ∧ 32 + 1 = 33 := by decide +kernel
theorem d_Ledger_add_33 : decode c_Ledger_add 33 = .ok (.iload_n 2, 1) ∧ 33 + 1 = 34 := by decide +kernel
theorem d_Ledger_add_34 : decode c_Ledger_add 34 = .ok (.iconst 2, 1) ∧ 34 + 1 = 35 := by decide +kernel
theorem d_Ledger_add_35 : decode c_Ledger_add 35 = .ok (.if_icmp .gt 7, 3) ∧ 35 + 3 = 38 ∧ ((35 : Nat) : Int) + 7 = ((42 : Nat) : Int) := by decide +kernel
theorem d_Ledger_add_38 : decode c_Ledger_add 38 = .ok (.iconst 1, 1) ∧ 38 + 1 = 39 := by decide +kernel
theorem d_Ledger_add_39 : decode c_Ledger_add 39 = .ok (.goto 4, 3) ∧ (39 : Int) + 4 = (43 : Int) := by decide +kernel
theorem d_Ledger_add_42 : decode c_Ledger_add 42 = .ok (.iconst 0, 1) ∧ 42 + 1 = 43 := by decide +kernel
theorem d_Ledger_add_43 : decode c_Ledger_add 43 = .ok (.istore 7, 2) ∧ 43 + 2 = 45 := by decide +kernel
theorem d_Ledger_add_45 : decode c_Ledger_add 45 = .ok (.iload 7, 2) ∧ 45 + 2 = 47 := by decide +kernel
theorem d_Ledger_add_47 : decode c_Ledger_add 47 = .ok (.ifCond .eq 14, 3) ∧ 47 + 3 = 50 ∧ ((47 : Nat) : Int) + 14 = ((61 : Nat) : Int) := by decide +kernel
theorem d_Ledger_add_50 : decode c_Ledger_add 50 = .ok (.iload 5, 2) ∧ 50 + 2 = 52 := by decide +kernel
theorem d_Ledger_add_52 : decode c_Ledger_add 52 = .ok (.sipush 1000, 3) ∧ 52 + 3 = 55 := by decide +kernel
theorem d_Ledger_add_55 : decode c_Ledger_add 55 = .ok (.invokestatic 30, 3) ∧ 55 + 3 = 58 := by decide +kernel
theorem d_Ledger_add_58 : decode c_Ledger_add 58 = .ok (.ifCond .eq 14, 3) ∧ 58 + 3 = 61 ∧ ((58 : Nat) : Int) + 14 = ((72 : Nat) : Int) := by decide +kernel
theorem d_Ledger_add_61 : decode c_Ledger_add 61 = .ok (.iload 6, 2) ∧ 61 + 2 = 63 := by decide +kernel
theorem d_Ledger_add_63 : decode c_Ledger_add 63 = .ok (.sipush 10000, 3) ∧ 63 + 3 = 66 := by decide +kernel
theorem d_Ledger_add_66 : decode c_Ledger_add 66 = .ok (.invokestatic 30, 3) ∧ 66 + 3 = 69 := by decide +kernel
theorem d_Ledger_add_69 : decode c_Ledger_add 69 = .ok (.ifCond .ne 6, 3) ∧ 69 + 3 = 72 ∧ ((69 : Nat) : Int) + 6 = ((75 : Nat) : Int) := by decide +kernel
theorem d_Ledger_add_72 : decode c_Ledger_add 72 = .ok (.bipush (-2), 2) ∧ 72 + 2 = 74 := by decide +kernel
theorem d_Ledger_add_74 : decode c_Ledger_add 74 = .ok (.ireturn, 1) ∧ 74 + 1 = 75 := by decide +kernel
theorem d_Ledger_add_75 : decode c_Ledger_add 75 = .ok (.iload 6, 2) ∧ 75 + 2 = 77 := by decide +kernel
theorem d_Ledger_add_77 : decode c_Ledger_add 77 = .ok (.aload_n 0, 1) ∧ 77 + 1 = 78 := by decide +kernel
theorem d_Ledger_add_78 : decode c_Ledger_add 78 = .ok (.iload_n 1, 1) ∧ 78 + 1 = 79 := by decide +kernel
theorem d_Ledger_add_79 : decode c_Ledger_add 79 = .ok (.invokevirtual 34, 3) ∧ 79 + 3 = 82 := by decide +kernel
theorem d_Ledger_add_82 : decode c_Ledger_add 82 = .ok (.if_icmp .ge 6, 3) ∧ 82 + 3 = 85 ∧ ((82 : Nat) : Int) + 6 = ((88 : Nat) : Int) := by decide +kernel
theorem d_Ledger_add_85 : decode c_Ledger_add 85 = .ok (.bipush (-3), 2) ∧ 85 + 2 = 87 := by decide +kernel
theorem d_Ledger_add_87 : decode c_Ledger_add 87 = .ok (.ireturn, 1) ∧ 87 + 1 = 88 := by decide +kernel
theorem d_Ledger_add_88 : decode c_Ledger_add 88 = .ok (.iload_n 2, 1) ∧ 88 + 1 = 89 := by decide +kernel
theorem d_Ledger_add_89 : decode c_Ledger_add 89 = .ok (.iconst 2, 1) ∧ 89 + 1 = 90 := by decide +kernel
theorem d_Ledger_add_90 : decode c_Ledger_add 90 = .ok (.if_icmp .lt 20, 3) ∧ 90 + 3 = 93 ∧ ((90 : Nat) : Int) + 20 = ((110 : Nat) : Int) := by decide +kernel
theorem d_Ledger_add_93 : decode c_Ledger_add 93 = .ok (.aload_n 0, 1) ∧ 93 + 1 = 94 := by decide +kernel
theorem d_Ledger_add_94 : decode c_Ledger_add 94 = .ok (.iload_n 1, 1) ∧ 94 + 1 = 95 := by decide +kernel
theorem d_Ledger_add_95 : decode c_Ledger_add 95 = .ok (.iload_n 3, 1) ∧ 95 + 1 = 96 := by decide +kernel
theorem d_Ledger_add_96 : decode c_Ledger_add 96 = .ok (.sipush 10000, 3) ∧ 96 + 3 = 99 := by decide +kernel
theorem d_Ledger_add_99 : decode c_Ledger_add 99 = .ok (.invokevirtual 38, 3) ∧ 99 + 3 = 102 := by decide +kernel
theorem d_Ledger_add_102 : decode c_Ledger_add 102 = .ok (.iload 4, 2) ∧ 102 + 2 = 104 := by decide +kernel
theorem d_Ledger_add_104 : decode c_Ledger_add 104 = .ok (.if_icmp .ge 6, 3) ∧ 104 + 3 = 107 ∧ ((104 : Nat) : Int) + 6 = ((110 : Nat) : Int) := by decide +kernel
theorem d_Ledger_add_107 : decode c_Ledger_add 107 = .ok (.bipush (-3), 2) ∧ 107 + 2 = 109 := by decide +kernel
theorem d_Ledger_add_109 : decode c_Ledger_add 109 = .ok (.ireturn, 1) ∧ 109 + 1 = 110 := by decide +kernel
theorem d_Ledger_add_110 : decode c_Ledger_add 110 = .ok (.aload_n 0, 1) ∧ 110 + 1 = 111 := by decide +kernel
theorem d_Ledger_add_111 : decode c_Ledger_add 111 = .ok (.getfield 42, 3) ∧ 111 + 3 = 114 := by decide +kernel
theorem d_Ledger_add_114 : decode c_Ledger_add 114 = .ok (.bipush 60, 2) ∧ 114 + 2 = 116 := by decide +kernel
theorem d_Ledger_add_116 : decode c_Ledger_add 116 = .ok (.if_icmp .lt 6, 3) ∧ 116 + 3 = 119 ∧ ((116 : Nat) : Int) + 6 = ((122 : Nat) : Int) := by decide +kernel
theorem d_Ledger_add_119 : decode c_Ledger_add 119 = .ok (.bipush (-4), 2) ∧ 119 + 2 = 121 := by decide +kernel
theorem d_Ledger_add_121 : decode c_Ledger_add 121 = .ok (.ireturn, 1) ∧ 121 + 1 = 122 := by decide +kernel
theorem d_Ledger_add_122 : decode c_Ledger_add 122 = .ok (.aload_n 0, 1) ∧ 122 + 1 = 123 := by decide +kernel
theorem d_Ledger_add_123 : decode c_Ledger_add 123 = .ok (.getfield 11, 3) ∧ 123 + 3 = 126 := by decide +kernel
theorem d_Ledger_add_126 : decode c_Ledger_add 126 = .ok (.aload_n 0, 1) ∧ 126 + 1 = 127 := by decide +kernel
theorem d_Ledger_add_127 : decode c_Ledger_add 127 = .ok (.getfield 42, 3) ∧ 127 + 3 = 130 := by decide +kernel
theorem d_Ledger_add_130 : decode c_Ledger_add 130 = .ok (.iload_n 1, 1) ∧ 130 + 1 = 131 := by decide +kernel
theorem d_Ledger_add_131 : decode c_Ledger_add 131 = .ok (.iastore, 1) ∧ 131 + 1 = 132 := by decide +kernel
theorem d_Ledger_add_132 : decode c_Ledger_add 132 = .ok (.aload_n 0, 1) ∧ 132 + 1 = 133 := by decide +kernel
theorem d_Ledger_add_133 : decode c_Ledger_add 133 = .ok (.getfield 15, 3) ∧ 133 + 3 = 136 := by decide +kernel
theorem d_Ledger_add_136 : decode c_Ledger_add 136 = .ok (.aload_n 0, 1) ∧ 136 + 1 = 137 := by decide +kernel
theorem d_Ledger_add_137 : decode c_Ledger_add 137 = .ok (.getfield 42, 3) ∧ 137 + 3 = 140 := by decide +kernel
theorem d_Ledger_add_140 : decode c_Ledger_add 140 = .ok (.iload_n 2, 1) ∧ 140 + 1 = 141 := by decide +kernel
theorem d_Ledger_add_141 : decode c_Ledger_add 141 = .ok (.iastore, 1) ∧ 141 + 1 = 142 := by decide +kernel
theorem d_Ledger_add_142 : decode c_Ledger_add 142 = .ok (.aload_n 0, 1) ∧ 142 + 1 = 143 := by decide +kernel
theorem d_Ledger_add_143 : decode c_Ledger_add 143 = .ok (.getfield 18, 3) ∧ 143 + 3 = 146 := by decide +kernel
theorem d_Ledger_add_146 : decode c_Ledger_add 146 = .ok (.aload_n 0, 1) ∧ 146 + 1 = 147 := by decide +kernel
theorem d_Ledger_add_147 : decode c_Ledger_add 147 = .ok (.getfield 42, 3) ∧ 147 + 3 = 150 := by decide +kernel
theorem d_Ledger_add_150 : decode c_Ledger_add 150 = .ok (.iload_n 3, 1) ∧ 150 + 1 = 151 := by decide +kernel
theorem d_Ledger_add_151 : decode c_Ledger_add 151 = .ok (.iastore, 1) ∧ 151 + 1 = 152 := by decide +kernel
theorem d_Ledger_add_152 : decode c_Ledger_add 152 = .ok (.aload_n 0, 1) ∧ 152 + 1 = 153 := by decide +kernel
theorem d_Ledger_add_153 : decode c_Ledger_add 153 = .ok (.getfield 21, 3) ∧ 153 + 3 = 156 := by decide +kernel
theorem d_Ledger_add_156 : decode c_Ledger_add 156 = .ok (.aload_n 0, 1) ∧ 156 + 1 = 157 := by decide +kernel
theorem d_Ledger_add_157 : decode c_Ledger_add 157 = .ok (.getfield 42, 3) ∧ 157 + 3 = 160 := by decide +kernel
theorem d_Ledger_add_160 : decode c_Ledger_add 160 = .ok (.iload 4, 2) ∧ 160 + 2 = 162 := by decide +kernel
theorem d_Ledger_add_162 : decode c_Ledger_add 162 = .ok (.iastore, 1) ∧ 162 + 1 = 163 := by decide +kernel
theorem d_Ledger_add_163 : decode c_Ledger_add 163 = .ok (.aload_n 0, 1) ∧ 163 + 1 = 164 := by decide +kernel
theorem d_Ledger_add_164 : decode c_Ledger_add 164 = .ok (.getfield 24, 3) ∧ 164 + 3 = 167 := by decide +kernel
theorem d_Ledger_add_167 : decode c_Ledger_add 167 = .ok (.aload_n 0, 1) ∧ 167 + 1 = 168 := by decide +kernel
theorem d_Ledger_add_168 : decode c_Ledger_add 168 = .ok (.getfield 42, 3) ∧ 168 + 3 = 171 := by decide +kernel
theorem d_Ledger_add_171 : decode c_Ledger_add 171 = .ok (.iload 7, 2) ∧ 171 + 2 = 173 := by decide +kernel
theorem d_Ledger_add_173 : decode c_Ledger_add 173 = .ok (.ifCond .eq 8, 3) ∧ 173 + 3 = 176 ∧ ((173 : Nat) : Int) + 8 = ((181 : Nat) : Int) := by decide +kernel
theorem d_Ledger_add_176 : decode c_Ledger_add 176 = .ok (.iload 5, 2) ∧ 176 + 2 = 178 := by decide +kernel
theorem d_Ledger_add_178 : decode c_Ledger_add 178 = .ok (.goto 4, 3) ∧ (178 : Int) + 4 = (182 : Int) := by decide +kernel
theorem d_Ledger_add_181 : decode c_Ledger_add 181 = .ok (.iconst 0, 1) ∧ 181 + 1 = 182 := by decide +kernel
theorem d_Ledger_add_182 : decode c_Ledger_add 182 = .ok (.iastore, 1) ∧ 182 + 1 = 183 := by decide +kernel
theorem d_Ledger_add_183 : decode c_Ledger_add 183 = .ok (.aload_n 0, 1) ∧ 183 + 1 = 184 := by decide +kernel
theorem d_Ledger_add_184 : decode c_Ledger_add 184 = .ok (.getfield 27, 3) ∧ 184 + 3 = 187 := by decide +kernel
theorem d_Ledger_add_187 : decode c_Ledger_add 187 = .ok (.aload_n 0, 1) ∧ 187 + 1 = 188 := by decide +kernel
theorem d_Ledger_add_188 : decode c_Ledger_add 188 = .ok (.getfield 42, 3) ∧ 188 + 3 = 191 := by decide +kernel
theorem d_Ledger_add_191 : decode c_Ledger_add 191 = .ok (.iload 6, 2) ∧ 191 + 2 = 193 := by decide +kernel
theorem d_Ledger_add_193 : decode c_Ledger_add 193 = .ok (.iastore, 1) ∧ 193 + 1 = 194 := by decide +kernel
theorem d_Ledger_add_194 : decode c_Ledger_add 194 = .ok (.aload_n 0, 1) ∧ 194 + 1 = 195 := by decide +kernel
theorem d_Ledger_add_195 : decode c_Ledger_add 195 = .ok (.dup, 1) ∧ 195 + 1 = 196 := by decide +kernel
theorem d_Ledger_add_196 : decode c_Ledger_add 196 = .ok (.getfield 42, 3) ∧ 196 + 3 = 199 := by decide +kernel
theorem d_Ledger_add_199 : decode c_Ledger_add 199 = .ok (.dup_x1, 1) ∧ 199 + 1 = 200 := by decide +kernel
theorem d_Ledger_add_200 : decode c_Ledger_add 200 = .ok (.iconst 1, 1) ∧ 200 + 1 = 201 := by decide +kernel
theorem d_Ledger_add_201 : decode c_Ledger_add 201 = .ok (.iadd, 1) ∧ 201 + 1 = 202 := by decide +kernel
theorem d_Ledger_add_202 : decode c_Ledger_add 202 = .ok (.putfield 42, 3) ∧ 202 + 3 = 205 := by decide +kernel
theorem d_Ledger_add_205 : decode c_Ledger_add 205 = .ok (.ireturn, 1) ∧ 205 + 1 = 206 := by decide +kernel
set_option maxHeartbeats 4000000 in
theorem m_Ledger_add {Z : Sy} {σ : St} {res : (Int32 × St)} {x1 : Int32} {x2 : Int32} {x3 : Int32} {x4 : Int32} {x5 : Int32} {x6 : Int32} (hf : Ledger_add x1 x2 x3 x4 x5 x6 σ = some res) : Ct YC Z y_Ledger_add c_Ledger_add 8 (some .int) 3 [.ref (ya Z 28), .int x1, .int x2, .int x3, .int x4, .int x5, .int x6] σ (some (.int res.1)) res.2 := by
  refine Ct.of pn_Ledger (Nat.le_of_ble_eq_true rfl) rfl (fun Γ h => ?_)
  have h : IsG YC Z R_Ledger c_Ledger_add 8 3 (some .int) (some (.int res.1)) res.2 Γ := h
  unfold Ledger_add at hf
  refine r_iload_n h d_Ledger_add_0 2 rfl rfl ?_
  refine r_iconst h d_Ledger_add_1 ki_5 ?_
  obtain ⟨r2, e2, hf⟩ := q_bind hf
  refine r_callN (As := [.int x2, .int (5 : Int32)]) (rest := []) h lk_Ledger_30 nk_Ledger_30 d_Ledger_add_2 (by decide) rfl rfl (Nat.le_of_ble_eq_true rfl) (m_P_isBelow e2) ?_
  refine r_bif_eq h d_Ledger_add_5 hf (fun hf => ?_) (fun hf => ?_)
  · refine r_bipush h d_Ledger_add_30 kb_m2 ?_
    exact r_ireturn h d_Ledger_add_32.1 (q_p1 hf) (q_p2 hf)
  · refine r_iload_n h d_Ledger_add_8 3 rfl rfl ?_
    refine r_bipush h d_Ledger_add_9 kb_8 ?_
    obtain ⟨r11, e11, hf⟩ := q_bind hf
    refine r_callN (As := [.int x3, .int (8 : Int32)]) (rest := []) h lk_Ledger_30 nk_Ledger_30 d_Ledger_add_11 (by decide) rfl rfl (Nat.le_of_ble_eq_true rfl) (m_P_isBelow e11) ?_
    refine r_bif_eq h d_Ledger_add_14 hf (fun hf => ?_) (fun hf => ?_)
    · refine r_bipush h d_Ledger_add_30 kb_m2 ?_
      exact r_ireturn h d_Ledger_add_32.1 (q_p1 hf) (q_p2 hf)
    · refine r_iload h d_Ledger_add_17 4 rfl ?_
      refine r_iconst h d_Ledger_add_19 ki_1 ?_
      refine r_icmp_lt h d_Ledger_add_20 hf (fun hf => ?_) (fun hf => ?_)
      · refine r_bipush h d_Ledger_add_30 kb_m2 ?_
        exact r_ireturn h d_Ledger_add_32.1 (q_p1 hf) (q_p2 hf)
      · refine r_iload h d_Ledger_add_23 4 rfl ?_
        refine r_bipush h d_Ledger_add_25 kb_99 ?_
        refine r_icmp_le h d_Ledger_add_27 hf (fun hf => ?_) (fun hf => ?_)
        · refine r_iload_n h d_Ledger_add_33 2 rfl rfl ?_
          refine r_iconst h d_Ledger_add_34 ki_2 ?_
          refine r_icmp_gt h d_Ledger_add_35 hf (fun hf => ?_) (fun hf => ?_)
          · refine r_iconst h d_Ledger_add_42 ki_0 ?_
            refine r_istore (ls' := [(7, .int (0 : Int32)), (0, .ref (ya Z 28)), (1, .int x1), (2, .int x2), (3, .int x3), (4, .int x4), (5, .int x5), (6, .int x6)]) h d_Ledger_add_43 (by decide) rfl ?_
            refine r_iload h d_Ledger_add_45 0 rfl ?_
            refine r_if_eq_T h d_Ledger_add_47 (by decide) ?_
            refine r_iload h d_Ledger_add_61 7 rfl ?_
            refine r_sipush h d_Ledger_add_63 ks_10000 ?_
            obtain ⟨r66, e66, hf⟩ := q_bind hf
            refine r_callN (As := [.int x6, .int (10000 : Int32)]) (rest := []) h lk_Ledger_30 nk_Ledger_30 d_Ledger_add_66 (by decide) rfl rfl (Nat.le_of_ble_eq_true rfl) (m_P_isBelow e66) ?_
            refine r_bif_ne h d_Ledger_add_69 hf (fun hf => ?_) (fun hf => ?_)
            · refine r_iload h d_Ledger_add_75 7 rfl ?_
              refine r_aload_n h d_Ledger_add_77 1 rfl rfl ?_
              refine r_iload_n h d_Ledger_add_78 2 rfl rfl ?_
              obtain ⟨r79, e79, hf⟩ := q_bind hf
              refine r_callV (As := [.int x1]) (rest := [.int x6]) h sh_YC_28 lk_Ledger_34 vk_Ledger_34 d_Ledger_add_79 (by decide) rfl rfl (Nat.le_of_ble_eq_true rfl) (m_Ledger_latestDay e79) ?_
              refine r_icmp_ge h d_Ledger_add_82 hf (fun hf => ?_) (fun hf => ?_)
              · refine r_iload_n h d_Ledger_add_88 3 rfl rfl ?_
                refine r_iconst h d_Ledger_add_89 ki_2 ?_
                refine r_icmp_lt h d_Ledger_add_90 hf (fun hf => ?_) (fun hf => ?_)
                · refine r_aload_n h d_Ledger_add_110 1 rfl rfl ?_
                  refine r_getI h fd_YC_28_6 cf_Ledger fl_Ledger_42 d_Ledger_add_111 ?_
                  refine r_bipush h d_Ledger_add_114 kb_60 ?_
                  refine r_icmp_lt h d_Ledger_add_116 hf (fun hf => ?_) (fun hf => ?_)
                  · refine r_aload_n h d_Ledger_add_122 1 rfl rfl ?_
                    refine r_getR h fd_YC_28_0 cf_Ledger fl_Ledger_11 d_Ledger_add_123 ?_
                    refine r_aload_n h d_Ledger_add_126 1 rfl rfl ?_
                    refine r_getI h fd_YC_28_6 cf_Ledger fl_Ledger_42 d_Ledger_add_127 ?_
                    refine r_iload_n h d_Ledger_add_130 2 rfl rfl ?_
                    refine r_iast h sh_YC_29 d_Ledger_add_131 hf (fun hf => ?_)
                    refine r_aload_n h d_Ledger_add_132 1 rfl rfl ?_
                    refine r_getR h fd_YC_28_1 cf_Ledger fl_Ledger_15 d_Ledger_add_133 ?_
                    refine r_aload_n h d_Ledger_add_136 1 rfl rfl ?_
                    refine r_getIv (v := (σ.1 28 6)) h fd_YC_28_6 cf_Ledger fl_Ledger_42 d_Ledger_add_137 rfl ?_
                    refine r_iload_n h d_Ledger_add_140 3 rfl rfl ?_
                    refine r_iast h sh_YC_30 d_Ledger_add_141 hf (fun hf => ?_)
                    refine r_aload_n h d_Ledger_add_142 1 rfl rfl ?_
                    refine r_getR h fd_YC_28_2 cf_Ledger fl_Ledger_18 d_Ledger_add_143 ?_
                    refine r_aload_n h d_Ledger_add_146 1 rfl rfl ?_
                    refine r_getIv (v := (σ.1 28 6)) h fd_YC_28_6 cf_Ledger fl_Ledger_42 d_Ledger_add_147 rfl ?_
                    refine r_iload_n h d_Ledger_add_150 4 rfl rfl ?_
                    refine r_iast h sh_YC_31 d_Ledger_add_151 hf (fun hf => ?_)
                    refine r_aload_n h d_Ledger_add_152 1 rfl rfl ?_
                    refine r_getR h fd_YC_28_3 cf_Ledger fl_Ledger_21 d_Ledger_add_153 ?_
                    refine r_aload_n h d_Ledger_add_156 1 rfl rfl ?_
                    refine r_getIv (v := (σ.1 28 6)) h fd_YC_28_6 cf_Ledger fl_Ledger_42 d_Ledger_add_157 rfl ?_
                    refine r_iload h d_Ledger_add_160 5 rfl ?_
                    refine r_iast h sh_YC_32 d_Ledger_add_162 hf (fun hf => ?_)
                    refine r_aload_n h d_Ledger_add_163 1 rfl rfl ?_
                    refine r_getR h fd_YC_28_4 cf_Ledger fl_Ledger_24 d_Ledger_add_164 ?_
                    refine r_aload_n h d_Ledger_add_167 1 rfl rfl ?_
                    refine r_getIv (v := (σ.1 28 6)) h fd_YC_28_6 cf_Ledger fl_Ledger_42 d_Ledger_add_168 rfl ?_
                    refine r_iload h d_Ledger_add_171 0 rfl ?_
                    refine r_if_eq_T h d_Ledger_add_173 (by decide) ?_
                    refine r_iconst h d_Ledger_add_181 ki_0 ?_
                    refine r_iast h sh_YC_33 d_Ledger_add_182 hf (fun hf => ?_)
                    refine r_aload_n h d_Ledger_add_183 1 rfl rfl ?_
                    refine r_getR h fd_YC_28_5 cf_Ledger fl_Ledger_27 d_Ledger_add_184 ?_
                    refine r_aload_n h d_Ledger_add_187 1 rfl rfl ?_
                    refine r_getIv (v := (σ.1 28 6)) h fd_YC_28_6 cf_Ledger fl_Ledger_42 d_Ledger_add_188 rfl ?_
                    refine r_iload h d_Ledger_add_191 7 rfl ?_
                    refine r_iast h sh_YC_34 d_Ledger_add_193 hf (fun hf => ?_)
                    refine r_aload_n h d_Ledger_add_194 1 rfl rfl ?_
                    refine r_dup h d_Ledger_add_195 rfl ?_
                    refine r_getIv (v := (σ.1 28 6)) h fd_YC_28_6 cf_Ledger fl_Ledger_42 d_Ledger_add_196 rfl ?_
                    refine r_dup_x1 h d_Ledger_add_199 rfl rfl ?_
                    refine r_iconst h d_Ledger_add_200 ki_1 ?_
                    refine r_iadd h d_Ledger_add_201 ?_
                    refine r_putI h fd_YC_28_6 cf_Ledger fl_Ledger_42 ⟨rfl, rfl⟩ d_Ledger_add_202 ?_
                    exact r_ireturn h d_Ledger_add_205.1 (q_p1 hf) (q_p2 hf)
                  · refine r_bipush h d_Ledger_add_119 kb_m4 ?_
                    exact r_ireturn h d_Ledger_add_121.1 (q_p1 hf) (q_p2 hf)
                · refine r_aload_n h d_Ledger_add_93 1 rfl rfl ?_
                  refine r_iload_n h d_Ledger_add_94 2 rfl rfl ?_
                  refine r_iload_n h d_Ledger_add_95 4 rfl rfl ?_
                  refine r_sipush h d_Ledger_add_96 ks_10000 ?_
                  obtain ⟨r99, e99, hf⟩ := q_bind hf
                  refine r_callV (As := [.int x1, .int x3, .int (10000 : Int32)]) (rest := []) h sh_YC_28 lk_Ledger_38 vk_Ledger_38 d_Ledger_add_99 (by decide) rfl rfl (Nat.le_of_ble_eq_true rfl) (m_Ledger_heldOn e99) ?_
                  refine r_iload h d_Ledger_add_102 5 rfl ?_
                  refine r_icmp_ge h d_Ledger_add_104 hf (fun hf => ?_) (fun hf => ?_)
                  · refine r_aload_n h d_Ledger_add_110 1 rfl rfl ?_
                    refine r_getI h fd_YC_28_6 cf_Ledger fl_Ledger_42 d_Ledger_add_111 ?_
                    refine r_bipush h d_Ledger_add_114 kb_60 ?_
                    refine r_icmp_lt h d_Ledger_add_116 hf (fun hf => ?_) (fun hf => ?_)
                    · refine r_aload_n h d_Ledger_add_122 1 rfl rfl ?_
                      refine r_getR h fd_YC_28_0 cf_Ledger fl_Ledger_11 d_Ledger_add_123 ?_
                      refine r_aload_n h d_Ledger_add_126 1 rfl rfl ?_
                      refine r_getI h fd_YC_28_6 cf_Ledger fl_Ledger_42 d_Ledger_add_127 ?_
                      refine r_iload_n h d_Ledger_add_130 2 rfl rfl ?_
                      refine r_iast h sh_YC_29 d_Ledger_add_131 hf (fun hf => ?_)
                      refine r_aload_n h d_Ledger_add_132 1 rfl rfl ?_
                      refine r_getR h fd_YC_28_1 cf_Ledger fl_Ledger_15 d_Ledger_add_133 ?_
                      refine r_aload_n h d_Ledger_add_136 1 rfl rfl ?_
                      refine r_getIv (v := (σ.1 28 6)) h fd_YC_28_6 cf_Ledger fl_Ledger_42 d_Ledger_add_137 rfl ?_
                      refine r_iload_n h d_Ledger_add_140 3 rfl rfl ?_
                      refine r_iast h sh_YC_30 d_Ledger_add_141 hf (fun hf => ?_)
                      refine r_aload_n h d_Ledger_add_142 1 rfl rfl ?_
                      refine r_getR h fd_YC_28_2 cf_Ledger fl_Ledger_18 d_Ledger_add_143 ?_
                      refine r_aload_n h d_Ledger_add_146 1 rfl rfl ?_
                      refine r_getIv (v := (σ.1 28 6)) h fd_YC_28_6 cf_Ledger fl_Ledger_42 d_Ledger_add_147 rfl ?_
                      refine r_iload_n h d_Ledger_add_150 4 rfl rfl ?_
                      refine r_iast h sh_YC_31 d_Ledger_add_151 hf (fun hf => ?_)
                      refine r_aload_n h d_Ledger_add_152 1 rfl rfl ?_
                      refine r_getR h fd_YC_28_3 cf_Ledger fl_Ledger_21 d_Ledger_add_153 ?_
                      refine r_aload_n h d_Ledger_add_156 1 rfl rfl ?_
                      refine r_getIv (v := (σ.1 28 6)) h fd_YC_28_6 cf_Ledger fl_Ledger_42 d_Ledger_add_157 rfl ?_
                      refine r_iload h d_Ledger_add_160 5 rfl ?_
                      refine r_iast h sh_YC_32 d_Ledger_add_162 hf (fun hf => ?_)
                      refine r_aload_n h d_Ledger_add_163 1 rfl rfl ?_
                      refine r_getR h fd_YC_28_4 cf_Ledger fl_Ledger_24 d_Ledger_add_164 ?_
                      refine r_aload_n h d_Ledger_add_167 1 rfl rfl ?_
                      refine r_getIv (v := (σ.1 28 6)) h fd_YC_28_6 cf_Ledger fl_Ledger_42 d_Ledger_add_168 rfl ?_
                      refine r_iload h d_Ledger_add_171 0 rfl ?_
                      refine r_if_eq_T h d_Ledger_add_173 (by decide) ?_
                      refine r_iconst h d_Ledger_add_181 ki_0 ?_
                      refine r_iast h sh_YC_33 d_Ledger_add_182 hf (fun hf => ?_)
                      refine r_aload_n h d_Ledger_add_183 1 rfl rfl ?_
                      refine r_getR h fd_YC_28_5 cf_Ledger fl_Ledger_27 d_Ledger_add_184 ?_
                      refine r_aload_n h d_Ledger_add_187 1 rfl rfl ?_
                      refine r_getIv (v := (σ.1 28 6)) h fd_YC_28_6 cf_Ledger fl_Ledger_42 d_Ledger_add_188 rfl ?_
                      refine r_iload h d_Ledger_add_191 7 rfl ?_
                      refine r_iast h sh_YC_34 d_Ledger_add_193 hf (fun hf => ?_)
                      refine r_aload_n h d_Ledger_add_194 1 rfl rfl ?_
                      refine r_dup h d_Ledger_add_195 rfl ?_
                      refine r_getIv (v := (σ.1 28 6)) h fd_YC_28_6 cf_Ledger fl_Ledger_42 d_Ledger_add_196 rfl ?_
                      refine r_dup_x1 h d_Ledger_add_199 rfl rfl ?_
                      refine r_iconst h d_Ledger_add_200 ki_1 ?_
                      refine r_iadd h d_Ledger_add_201 ?_
                      refine r_putI h fd_YC_28_6 cf_Ledger fl_Ledger_42 ⟨rfl, rfl⟩ d_Ledger_add_202 ?_
                      exact r_ireturn h d_Ledger_add_205.1 (q_p1 hf) (q_p2 hf)
                    · refine r_bipush h d_Ledger_add_119 kb_m4 ?_
                      exact r_ireturn h d_Ledger_add_121.1 (q_p1 hf) (q_p2 hf)
                  · refine r_bipush h d_Ledger_add_107 kb_m3 ?_
                    exact r_ireturn h d_Ledger_add_109.1 (q_p1 hf) (q_p2 hf)
              · refine r_bipush h d_Ledger_add_85 kb_m3 ?_
                exact r_ireturn h d_Ledger_add_87.1 (q_p1 hf) (q_p2 hf)
            · refine r_bipush h d_Ledger_add_72 kb_m2 ?_
              exact r_ireturn h d_Ledger_add_74.1 (q_p1 hf) (q_p2 hf)
          · refine r_iconst h d_Ledger_add_38 ki_1 ?_
            refine r_goto h d_Ledger_add_39 ?_
            refine r_istore (ls' := [(7, .int (1 : Int32)), (0, .ref (ya Z 28)), (1, .int x1), (2, .int x2), (3, .int x3), (4, .int x4), (5, .int x5), (6, .int x6)]) h d_Ledger_add_43 (by decide) rfl ?_
            refine r_iload h d_Ledger_add_45 0 rfl ?_
            refine r_if_eq_F h d_Ledger_add_47 (by decide) ?_
            refine r_iload h d_Ledger_add_50 6 rfl ?_
            refine r_sipush h d_Ledger_add_52 ks_1000 ?_
            obtain ⟨r55, e55, hf⟩ := q_bind hf
            refine r_callN (As := [.int x5, .int (1000 : Int32)]) (rest := []) h lk_Ledger_30 nk_Ledger_30 d_Ledger_add_55 (by decide) rfl rfl (Nat.le_of_ble_eq_true rfl) (m_P_isBelow e55) ?_
            refine r_bif_eq h d_Ledger_add_58 hf (fun hf => ?_) (fun hf => ?_)
            · refine r_bipush h d_Ledger_add_72 kb_m2 ?_
              exact r_ireturn h d_Ledger_add_74.1 (q_p1 hf) (q_p2 hf)
            · refine r_iload h d_Ledger_add_61 7 rfl ?_
              refine r_sipush h d_Ledger_add_63 ks_10000 ?_
              obtain ⟨r66, e66, hf⟩ := q_bind hf
              refine r_callN (As := [.int x6, .int (10000 : Int32)]) (rest := []) h lk_Ledger_30 nk_Ledger_30 d_Ledger_add_66 (by decide) rfl rfl (Nat.le_of_ble_eq_true rfl) (m_P_isBelow e66) ?_
              refine r_bif_ne h d_Ledger_add_69 hf (fun hf => ?_) (fun hf => ?_)
              · refine r_iload h d_Ledger_add_75 7 rfl ?_
                refine r_aload_n h d_Ledger_add_77 1 rfl rfl ?_
                refine r_iload_n h d_Ledger_add_78 2 rfl rfl ?_
                obtain ⟨r79, e79, hf⟩ := q_bind hf
                refine r_callV (As := [.int x1]) (rest := [.int x6]) h sh_YC_28 lk_Ledger_34 vk_Ledger_34 d_Ledger_add_79 (by decide) rfl rfl (Nat.le_of_ble_eq_true rfl) (m_Ledger_latestDay e79) ?_
                refine r_icmp_ge h d_Ledger_add_82 hf (fun hf => ?_) (fun hf => ?_)
                · refine r_iload_n h d_Ledger_add_88 3 rfl rfl ?_
                  refine r_iconst h d_Ledger_add_89 ki_2 ?_
                  refine r_icmp_lt h d_Ledger_add_90 hf (fun hf => ?_) (fun hf => ?_)
                  · refine r_aload_n h d_Ledger_add_110 1 rfl rfl ?_
                    refine r_getI h fd_YC_28_6 cf_Ledger fl_Ledger_42 d_Ledger_add_111 ?_
                    refine r_bipush h d_Ledger_add_114 kb_60 ?_
                    refine r_icmp_lt h d_Ledger_add_116 hf (fun hf => ?_) (fun hf => ?_)
                    · refine r_aload_n h d_Ledger_add_122 1 rfl rfl ?_
                      refine r_getR h fd_YC_28_0 cf_Ledger fl_Ledger_11 d_Ledger_add_123 ?_
                      refine r_aload_n h d_Ledger_add_126 1 rfl rfl ?_
                      refine r_getI h fd_YC_28_6 cf_Ledger fl_Ledger_42 d_Ledger_add_127 ?_
                      refine r_iload_n h d_Ledger_add_130 2 rfl rfl ?_
                      refine r_iast h sh_YC_29 d_Ledger_add_131 hf (fun hf => ?_)
                      refine r_aload_n h d_Ledger_add_132 1 rfl rfl ?_
                      refine r_getR h fd_YC_28_1 cf_Ledger fl_Ledger_15 d_Ledger_add_133 ?_
                      refine r_aload_n h d_Ledger_add_136 1 rfl rfl ?_
                      refine r_getIv (v := (σ.1 28 6)) h fd_YC_28_6 cf_Ledger fl_Ledger_42 d_Ledger_add_137 rfl ?_
                      refine r_iload_n h d_Ledger_add_140 3 rfl rfl ?_
                      refine r_iast h sh_YC_30 d_Ledger_add_141 hf (fun hf => ?_)
                      refine r_aload_n h d_Ledger_add_142 1 rfl rfl ?_
                      refine r_getR h fd_YC_28_2 cf_Ledger fl_Ledger_18 d_Ledger_add_143 ?_
                      refine r_aload_n h d_Ledger_add_146 1 rfl rfl ?_
                      refine r_getIv (v := (σ.1 28 6)) h fd_YC_28_6 cf_Ledger fl_Ledger_42 d_Ledger_add_147 rfl ?_
                      refine r_iload_n h d_Ledger_add_150 4 rfl rfl ?_
                      refine r_iast h sh_YC_31 d_Ledger_add_151 hf (fun hf => ?_)
                      refine r_aload_n h d_Ledger_add_152 1 rfl rfl ?_
                      refine r_getR h fd_YC_28_3 cf_Ledger fl_Ledger_21 d_Ledger_add_153 ?_
                      refine r_aload_n h d_Ledger_add_156 1 rfl rfl ?_
                      refine r_getIv (v := (σ.1 28 6)) h fd_YC_28_6 cf_Ledger fl_Ledger_42 d_Ledger_add_157 rfl ?_
                      refine r_iload h d_Ledger_add_160 5 rfl ?_
                      refine r_iast h sh_YC_32 d_Ledger_add_162 hf (fun hf => ?_)
                      refine r_aload_n h d_Ledger_add_163 1 rfl rfl ?_
                      refine r_getR h fd_YC_28_4 cf_Ledger fl_Ledger_24 d_Ledger_add_164 ?_
                      refine r_aload_n h d_Ledger_add_167 1 rfl rfl ?_
                      refine r_getIv (v := (σ.1 28 6)) h fd_YC_28_6 cf_Ledger fl_Ledger_42 d_Ledger_add_168 rfl ?_
                      refine r_iload h d_Ledger_add_171 0 rfl ?_
                      refine r_if_eq_F h d_Ledger_add_173 (by decide) ?_
                      refine r_iload h d_Ledger_add_176 6 rfl ?_
                      refine r_goto h d_Ledger_add_178 ?_
                      refine r_iast h sh_YC_33 d_Ledger_add_182 hf (fun hf => ?_)
                      refine r_aload_n h d_Ledger_add_183 1 rfl rfl ?_
                      refine r_getR h fd_YC_28_5 cf_Ledger fl_Ledger_27 d_Ledger_add_184 ?_
                      refine r_aload_n h d_Ledger_add_187 1 rfl rfl ?_
                      refine r_getIv (v := (σ.1 28 6)) h fd_YC_28_6 cf_Ledger fl_Ledger_42 d_Ledger_add_188 rfl ?_
                      refine r_iload h d_Ledger_add_191 7 rfl ?_
                      refine r_iast h sh_YC_34 d_Ledger_add_193 hf (fun hf => ?_)
                      refine r_aload_n h d_Ledger_add_194 1 rfl rfl ?_
                      refine r_dup h d_Ledger_add_195 rfl ?_
                      refine r_getIv (v := (σ.1 28 6)) h fd_YC_28_6 cf_Ledger fl_Ledger_42 d_Ledger_add_196 rfl ?_
                      refine r_dup_x1 h d_Ledger_add_199 rfl rfl ?_
                      refine r_iconst h d_Ledger_add_200 ki_1 ?_
                      refine r_iadd h d_Ledger_add_201 ?_
                      refine r_putI h fd_YC_28_6 cf_Ledger fl_Ledger_42 ⟨rfl, rfl⟩ d_Ledger_add_202 ?_
                      exact r_ireturn h d_Ledger_add_205.1 (q_p1 hf) (q_p2 hf)
                    · refine r_bipush h d_Ledger_add_119 kb_m4 ?_
                      exact r_ireturn h d_Ledger_add_121.1 (q_p1 hf) (q_p2 hf)
                  · refine r_aload_n h d_Ledger_add_93 1 rfl rfl ?_
                    refine r_iload_n h d_Ledger_add_94 2 rfl rfl ?_
                    refine r_iload_n h d_Ledger_add_95 4 rfl rfl ?_
                    refine r_sipush h d_Ledger_add_96 ks_10000 ?_
                    obtain ⟨r99, e99, hf⟩ := q_bind hf
                    refine r_callV (As := [.int x1, .int x3, .int (10000 : Int32)]) (rest := []) h sh_YC_28 lk_Ledger_38 vk_Ledger_38 d_Ledger_add_99 (by decide) rfl rfl (Nat.le_of_ble_eq_true rfl) (m_Ledger_heldOn e99) ?_
                    refine r_iload h d_Ledger_add_102 5 rfl ?_
                    refine r_icmp_ge h d_Ledger_add_104 hf (fun hf => ?_) (fun hf => ?_)
                    · refine r_aload_n h d_Ledger_add_110 1 rfl rfl ?_
                      refine r_getI h fd_YC_28_6 cf_Ledger fl_Ledger_42 d_Ledger_add_111 ?_
                      refine r_bipush h d_Ledger_add_114 kb_60 ?_
                      refine r_icmp_lt h d_Ledger_add_116 hf (fun hf => ?_) (fun hf => ?_)
                      · refine r_aload_n h d_Ledger_add_122 1 rfl rfl ?_
                        refine r_getR h fd_YC_28_0 cf_Ledger fl_Ledger_11 d_Ledger_add_123 ?_
                        refine r_aload_n h d_Ledger_add_126 1 rfl rfl ?_
                        refine r_getI h fd_YC_28_6 cf_Ledger fl_Ledger_42 d_Ledger_add_127 ?_
                        refine r_iload_n h d_Ledger_add_130 2 rfl rfl ?_
                        refine r_iast h sh_YC_29 d_Ledger_add_131 hf (fun hf => ?_)
                        refine r_aload_n h d_Ledger_add_132 1 rfl rfl ?_
                        refine r_getR h fd_YC_28_1 cf_Ledger fl_Ledger_15 d_Ledger_add_133 ?_
                        refine r_aload_n h d_Ledger_add_136 1 rfl rfl ?_
                        refine r_getIv (v := (σ.1 28 6)) h fd_YC_28_6 cf_Ledger fl_Ledger_42 d_Ledger_add_137 rfl ?_
                        refine r_iload_n h d_Ledger_add_140 3 rfl rfl ?_
                        refine r_iast h sh_YC_30 d_Ledger_add_141 hf (fun hf => ?_)
                        refine r_aload_n h d_Ledger_add_142 1 rfl rfl ?_
                        refine r_getR h fd_YC_28_2 cf_Ledger fl_Ledger_18 d_Ledger_add_143 ?_
                        refine r_aload_n h d_Ledger_add_146 1 rfl rfl ?_
                        refine r_getIv (v := (σ.1 28 6)) h fd_YC_28_6 cf_Ledger fl_Ledger_42 d_Ledger_add_147 rfl ?_
                        refine r_iload_n h d_Ledger_add_150 4 rfl rfl ?_
                        refine r_iast h sh_YC_31 d_Ledger_add_151 hf (fun hf => ?_)
                        refine r_aload_n h d_Ledger_add_152 1 rfl rfl ?_
                        refine r_getR h fd_YC_28_3 cf_Ledger fl_Ledger_21 d_Ledger_add_153 ?_
                        refine r_aload_n h d_Ledger_add_156 1 rfl rfl ?_
                        refine r_getIv (v := (σ.1 28 6)) h fd_YC_28_6 cf_Ledger fl_Ledger_42 d_Ledger_add_157 rfl ?_
                        refine r_iload h d_Ledger_add_160 5 rfl ?_
                        refine r_iast h sh_YC_32 d_Ledger_add_162 hf (fun hf => ?_)
                        refine r_aload_n h d_Ledger_add_163 1 rfl rfl ?_
                        refine r_getR h fd_YC_28_4 cf_Ledger fl_Ledger_24 d_Ledger_add_164 ?_
                        refine r_aload_n h d_Ledger_add_167 1 rfl rfl ?_
                        refine r_getIv (v := (σ.1 28 6)) h fd_YC_28_6 cf_Ledger fl_Ledger_42 d_Ledger_add_168 rfl ?_
                        refine r_iload h d_Ledger_add_171 0 rfl ?_
                        refine r_if_eq_F h d_Ledger_add_173 (by decide) ?_
                        refine r_iload h d_Ledger_add_176 6 rfl ?_
                        refine r_goto h d_Ledger_add_178 ?_
                        refine r_iast h sh_YC_33 d_Ledger_add_182 hf (fun hf => ?_)
                        refine r_aload_n h d_Ledger_add_183 1 rfl rfl ?_
                        refine r_getR h fd_YC_28_5 cf_Ledger fl_Ledger_27 d_Ledger_add_184 ?_
                        refine r_aload_n h d_Ledger_add_187 1 rfl rfl ?_
                        refine r_getIv (v := (σ.1 28 6)) h fd_YC_28_6 cf_Ledger fl_Ledger_42 d_Ledger_add_188 rfl ?_
                        refine r_iload h d_Ledger_add_191 7 rfl ?_
                        refine r_iast h sh_YC_34 d_Ledger_add_193 hf (fun hf => ?_)
                        refine r_aload_n h d_Ledger_add_194 1 rfl rfl ?_
                        refine r_dup h d_Ledger_add_195 rfl ?_
                        refine r_getIv (v := (σ.1 28 6)) h fd_YC_28_6 cf_Ledger fl_Ledger_42 d_Ledger_add_196 rfl ?_
                        refine r_dup_x1 h d_Ledger_add_199 rfl rfl ?_
                        refine r_iconst h d_Ledger_add_200 ki_1 ?_
                        refine r_iadd h d_Ledger_add_201 ?_
                        refine r_putI h fd_YC_28_6 cf_Ledger fl_Ledger_42 ⟨rfl, rfl⟩ d_Ledger_add_202 ?_
                        exact r_ireturn h d_Ledger_add_205.1 (q_p1 hf) (q_p2 hf)
                      · refine r_bipush h d_Ledger_add_119 kb_m4 ?_
                        exact r_ireturn h d_Ledger_add_121.1 (q_p1 hf) (q_p2 hf)
                    · refine r_bipush h d_Ledger_add_107 kb_m3 ?_
                      exact r_ireturn h d_Ledger_add_109.1 (q_p1 hf) (q_p2 hf)
                · refine r_bipush h d_Ledger_add_85 kb_m3 ?_
                  exact r_ireturn h d_Ledger_add_87.1 (q_p1 hf) (q_p2 hf)
              · refine r_bipush h d_Ledger_add_72 kb_m2 ?_
                exact r_ireturn h d_Ledger_add_74.1 (q_p1 hf) (q_p2 hf)
        · refine r_bipush h d_Ledger_add_30 kb_m2 ?_
          exact r_ireturn h d_Ledger_add_32.1 (q_p1 hf) (q_p2 hf)

theorem d_P_entry_0 : decode c_P_entry 0 = .ok (.aload_n 0, 1) ∧ 0 + 1 = 1 := by decide +kernel
theorem d_P_entry_1 : decode c_P_entry 1 = .ok (.getfield 36, 3) ∧ 1 + 3 = 4 := by decide +kernel
theorem d_P_entry_4 : decode c_P_entry 4 = .ok (.iload_n 1, 1) ∧ 4 + 1 = 5 := by decide +kernel
theorem d_P_entry_5 : decode c_P_entry 5 = .ok (.invokevirtual 146, 3) ∧ 5 + 3 = 8 := by decide +kernel
theorem d_P_entry_8 : decode c_P_entry 8 = .ok (.ifCond .ne 5, 3) ∧ 8 + 3 = 11 ∧ ((8 : Nat) : Int) + 5 = ((13 : Nat) : Int) := by decide +kernel
theorem d_P_entry_11 : decode c_P_entry 11 = .ok (.iconst (-1), 1) ∧ 11 + 1 = 12 := by decide +kernel
theorem d_P_entry_12 : decode c_P_entry 12 = .ok (.ireturn, 1) ∧ 12 + 1 = 13 := by decide +kernel
theorem d_P_entry_13 : decode c_P_entry 13 = .ok (.aload_n 0, 1) ∧ 13 + 1 = 14 := by decide +kernel
theorem d_P_entry_14 : decode c_P_entry 14 = .ok (.getfield 50, 3) ∧ 14 + 3 = 17 := by decide +kernel
theorem d_P_entry_17 : decode c_P_entry 17 = .ok (.iconst 0, 1) ∧ 17 + 1 = 18 := by decide +kernel
theorem d_P_entry_18 : decode c_P_entry 18 = .ok (.putfield 126, 3) ∧ 18 + 3 = 21 := by decide +kernel
theorem d_P_entry_21 : decode c_P_entry 21 = .ok (.aload_n 0, 1) ∧ 21 + 1 = 22 := by decide +kernel
theorem d_P_entry_22 : decode c_P_entry 22 = .ok (.getfield 43, 3) ∧ 22 + 3 = 25 := by decide +kernel
theorem d_P_entry_25 : decode c_P_entry 25 = .ok (.iload_n 1, 1) ∧ 25 + 1 = 26 := by decide +kernel
theorem d_P_entry_26 : decode c_P_entry 26 = .ok (.iload_n 2, 1) ∧ 26 + 1 = 27 := by decide +kernel
theorem d_P_entry_27 : decode c_P_entry 27 = .ok (.iload_n 3, 1) ∧ 27 + 1 = 28 := by decide +kernel
theorem d_P_entry_28 : decode c_P_entry 28 = .ok (.iload 4, 2) ∧ 28 + 2 = 30 := by decide +kernel
theorem d_P_entry_30 : decode c_P_entry 30 = .ok (.iload 5, 2) ∧ 30 + 2 = 32 := by decide +kernel
theorem d_P_entry_32 : decode c_P_entry 32 = .ok (.iload 6, 2) ∧ 32 + 2 = 34 := by decide +kernel
theorem d_P_entry_34 : decode c_P_entry 34 = .ok (.invokevirtual 149, 3) ∧ 34 + 3 = 37 := by decide +kernel
theorem d_P_entry_37 : decode c_P_entry 37 = .ok (.ireturn, 1) ∧ 37 + 1 = 38 := by decide +kernel
set_option maxHeartbeats 4000000 in
theorem m_P_entry {Z : Sy} {σ : St} {res : (Int32 × St)} {x1 : Int32} {x2 : Int32} {x3 : Int32} {x4 : Int32} {x5 : Int32} {x6 : Int32} (hf : P_entry x1 x2 x3 x4 x5 x6 σ = some res) : Ct YC Z y_P_entry c_P_entry 7 (some .int) 4 [.ref (ya Z 0), .int x1, .int x2, .int x3, .int x4, .int x5, .int x6] σ (some (.int res.1)) res.2 := by
  refine Ct.of pn_P (Nat.le_of_ble_eq_true rfl) rfl (fun Γ h => ?_)
  have h : IsG YC Z R_P c_P_entry 7 4 (some .int) (some (.int res.1)) res.2 Γ := h
  unfold P_entry at hf
  refine r_aload_n h d_P_entry_0 0 rfl rfl ?_
  refine r_getR h fd_YC_0_4 cf_P fl_P_36 d_P_entry_1 ?_
  refine r_iload_n h d_P_entry_4 1 rfl rfl ?_
  obtain ⟨r5, e5, hf⟩ := q_bind hf
  refine r_callV (As := [.int x1]) (rest := []) h sh_YC_21 lk_P_146 vk_P_146 d_P_entry_5 (by decide) rfl rfl (Nat.le_of_ble_eq_true rfl) (m_Packs_has e5) ?_
  refine r_bif_ne h d_P_entry_8 hf (fun hf => ?_) (fun hf => ?_)
  · refine r_aload_n h d_P_entry_13 0 rfl rfl ?_
    refine r_getR h fd_YC_0_6 cf_P fl_P_50 d_P_entry_14 ?_
    refine r_iconst h d_P_entry_17 ki_0 ?_
    refine r_putX h fd_YC_35_4 cf_News fl_P_126 ⟨rfl, rfl⟩ (ty := .boolean) (by decide) (by decide) d_P_entry_18 ?_
    refine r_aload_n h d_P_entry_21 0 rfl rfl ?_
    refine r_getR h fd_YC_0_5 cf_P fl_P_43 d_P_entry_22 ?_
    refine r_iload_n h d_P_entry_25 1 rfl rfl ?_
    refine r_iload_n h d_P_entry_26 2 rfl rfl ?_
    refine r_iload_n h d_P_entry_27 3 rfl rfl ?_
    refine r_iload h d_P_entry_28 4 rfl ?_
    refine r_iload h d_P_entry_30 5 rfl ?_
    refine r_iload h d_P_entry_32 6 rfl ?_
    obtain ⟨q34, e34, hf⟩ := q_bind hf
    refine r_callV (As := [.int x1, .int x2, .int x3, .int x4, .int x5, .int x6]) (rest := []) h sh_YC_28 lk_P_149 vk_P_149 d_P_entry_34 (by decide) rfl rfl (Nat.le_of_ble_eq_true rfl) (m_Ledger_add e34) ?_
    exact r_ireturn h d_P_entry_37.1 (q_p1 hf) (q_p2 hf)
  · refine r_iconst h d_P_entry_11 ki_m1 ?_
    exact r_ireturn h d_P_entry_12.1 (q_p1 hf) (q_p2 hf)

theorem d_Sheets_has_0 : decode c_Sheets_has 0 = .ok (.iload_n 1, 1) ∧ 0 + 1 = 1 := by decide +kernel
theorem d_Sheets_has_1 : decode c_Sheets_has 1 = .ok (.iconst 4, 1) ∧ 1 + 1 = 2 := by decide +kernel
theorem d_Sheets_has_2 : decode c_Sheets_has 2 = .ok (.invokestatic 21, 3) ∧ 2 + 3 = 5 := by decide +kernel
theorem d_Sheets_has_5 : decode c_Sheets_has 5 = .ok (.ireturn, 1) ∧ 5 + 1 = 6 := by decide +kernel
set_option maxHeartbeats 4000000 in
theorem m_Sheets_has {Z : Sy} {σ : St} {res : Bool} {x1 : Int32} (hf : Sheets_has x1 σ = some res) : Ct YC Z y_Sheets_has c_Sheets_has 2 (some .boolean) 2 [.ref (ya Z 74), .int x1] σ (some (.int (bi res))) σ := by
  refine Ct.of pn_Sheets (Nat.le_of_ble_eq_true rfl) rfl (fun Γ h => ?_)
  have h : IsG YC Z R_Sheets c_Sheets_has 2 2 (some .boolean) (some (.int (bi res))) σ Γ := h
  unfold Sheets_has at hf
  refine r_iload_n h d_Sheets_has_0 1 rfl rfl ?_
  refine r_iconst h d_Sheets_has_1 ki_4 ?_
  obtain ⟨r2, e2, hf⟩ := q_bind hf
  refine r_callN (As := [.int x1, .int (4 : Int32)]) (rest := []) h lk_Sheets_21 nk_Sheets_21 d_Sheets_has_2 (by decide) rfl rfl (Nat.le_of_ble_eq_true rfl) (m_P_isBelow e2) ?_
  exact r_zreturn h d_Sheets_has_5.1 (congrArg bi (Option.some.inj hf)) rfl

theorem d_Sheets_isNothing_0 : decode c_Sheets_isNothing 0 = .ok (.aload_n 0, 1) ∧ 0 + 1 = 1 := by decide +kernel
theorem d_Sheets_isNothing_1 : decode c_Sheets_isNothing 1 = .ok (.getfield 18, 3) ∧ 1 + 3 = 4 := by decide +kernel
theorem d_Sheets_isNothing_4 : decode c_Sheets_isNothing 4 = .ok (.iload_n 1, 1) ∧ 4 + 1 = 5 := by decide +kernel
theorem d_Sheets_isNothing_5 : decode c_Sheets_isNothing 5 = .ok (.iaload, 1) ∧ 5 + 1 = 6 := by decide +kernel
theorem d_Sheets_isNothing_6 : decode c_Sheets_isNothing 6 = .ok (.bipush (-9), 2) ∧ 6 + 2 = 8 := by decide +kernel
theorem d_Sheets_isNothing_8 : decode c_Sheets_isNothing 8 = .ok (.if_icmp .ne 7, 3) ∧ 8 + 3 = 11 ∧ ((8 : Nat) : Int) + 7 = ((15 : Nat) : Int) := by decide +kernel
theorem d_Sheets_isNothing_11 : decode c_Sheets_isNothing 11 = .ok (.iconst 1, 1) ∧ 11 + 1 = 12 := by decide +kernel
theorem d_Sheets_isNothing_12 : decode c_Sheets_isNothing 12 = .ok (.goto 4, 3) ∧ (12 : Int) + 4 = (16 : Int) := by decide +kernel
theorem d_Sheets_isNothing_15 : decode c_Sheets_isNothing 15 = .ok (.iconst 0, 1) ∧ 15 + 1 = 16 := by decide +kernel
theorem d_Sheets_isNothing_16 : decode c_Sheets_isNothing 16 = .ok (.ireturn, 1) ∧ 16 + 1 = 17 := by decide +kernel
set_option maxHeartbeats 4000000 in
theorem m_Sheets_isNothing {Z : Sy} {σ : St} {res : Bool} {x1 : Int32} (hf : Sheets_isNothing x1 σ = some res) : Ct YC Z y_Sheets_isNothing c_Sheets_isNothing 2 (some .boolean) 1 [.ref (ya Z 74), .int x1] σ (some (.int (bi res))) σ := by
  refine Ct.of pn_Sheets (Nat.le_of_ble_eq_true rfl) rfl (fun Γ h => ?_)
  have h : IsG YC Z R_Sheets c_Sheets_isNothing 2 1 (some .boolean) (some (.int (bi res))) σ Γ := h
  unfold Sheets_isNothing at hf
  refine r_aload_n h d_Sheets_isNothing_0 0 rfl rfl ?_
  refine r_getR h fd_YC_74_2 cf_Sheets fl_Sheets_18 d_Sheets_isNothing_1 ?_
  refine r_iload_n h d_Sheets_isNothing_4 1 rfl rfl ?_
  refine r_iald h sh_YC_77 d_Sheets_isNothing_5 hf (fun hf => ?_)
  refine r_bipush h d_Sheets_isNothing_6 kb_m9 ?_
  refine r_icmp_ne h d_Sheets_isNothing_8 hf (fun hf => ?_) (fun hf => ?_)
  · refine r_iconst h d_Sheets_isNothing_15 ki_0 ?_
    exact r_zreturn h d_Sheets_isNothing_16.1 ((show (0 : Int32) = bi false from rfl).trans (congrArg bi (Option.some.inj hf))) rfl
  · refine r_iconst h d_Sheets_isNothing_11 ki_1 ?_
    refine r_goto h d_Sheets_isNothing_12 ?_
    exact r_zreturn h d_Sheets_isNothing_16.1 ((show (1 : Int32) = bi true from rfl).trans (congrArg bi (Option.some.inj hf))) rfl

theorem d_Sheets_hasCells_0 : decode c_Sheets_hasCells 0 = .ok (.iload_n 2, 1) ∧ 0 + 1 = 1 := by decide +kernel
theorem d_Sheets_hasCells_1 : decode c_Sheets_hasCells 1 = .ok (.ifCond .lt 28, 3) ∧ 1 + 3 = 4 ∧ ((1 : Nat) : Int) + 28 = ((29 : Nat) : Int) := by decide +kernel
theorem d_Sheets_hasCells_4 : decode c_Sheets_hasCells 4 = .ok (.lload_n 3, 1) ∧ 4 + 1 = 5 := by decide +kernel
theorem d_Sheets_hasCells_5 : decode c_Sheets_hasCells 5 = .ok (.lconst 0, 1) ∧ 5 + 1 = 6 := by decide +kernel
theorem d_Sheets_hasCells_6 : decode c_Sheets_hasCells 6 = .ok (.lcmp, 1) ∧ 6 + 1 = 7 := by decide +kernel
theorem d_Sheets_hasCells_7 : decode c_Sheets_hasCells 7 = .ok (.ifCond .lt 22, 3) ∧ 7 + 3 = 10 ∧ ((7 : Nat) : Int) + 22 = ((29 : Nat) : Int) := by decide +kernel
theorem d_Sheets_hasCells_10 : decode c_Sheets_hasCells 10 = .ok (.iload_n 2, 1) ∧ 10 + 1 = 11 := by decide +kernel
theorem d_Sheets_hasCells_11 : decode c_Sheets_hasCells 11 = .ok (.i2l, 1) ∧ 11 + 1 = 12 := by decide +kernel
theorem d_Sheets_hasCells_12 : decode c_Sheets_hasCells 12 = .ok (.lload_n 3, 1) ∧ 12 + 1 = 13 := by decide +kernel
theorem d_Sheets_hasCells_13 : decode c_Sheets_hasCells 13 = .ok (.ladd, 1) ∧ 13 + 1 = 14 := by decide +kernel
theorem d_Sheets_hasCells_14 : decode c_Sheets_hasCells 14 = .ok (.aload_n 0, 1) ∧ 14 + 1 = 15 := by decide +kernel
theorem d_Sheets_hasCells_15 : decode c_Sheets_hasCells 15 = .ok (.getfield 18, 3) ∧ 15 + 3 = 18 := by decide +kernel
theorem d_Sheets_hasCells_18 : decode c_Sheets_hasCells 18 = .ok (.iload_n 1, 1) ∧ 18 + 1 = 19 := by decide +kernel
theorem d_Sheets_hasCells_19 : decode c_Sheets_hasCells 19 = .ok (.iaload, 1) ∧ 19 + 1 = 20 := by decide +kernel
theorem d_Sheets_hasCells_20 : decode c_Sheets_hasCells 20 = .ok (.i2l, 1) ∧ 20 + 1 = 21 := by decide +kernel
theorem d_Sheets_hasCells_21 : decode c_Sheets_hasCells 21 = .ok (.lcmp, 1) ∧ 21 + 1 = 22 := by decide +kernel
theorem d_Sheets_hasCells_22 : decode c_Sheets_hasCells 22 = .ok (.ifCond .gt 7, 3) ∧ 22 + 3 = 25 ∧ ((22 : Nat) : Int) + 7 = ((29 : Nat) : Int) := by decide +kernel
theorem d_Sheets_hasCells_25 : decode c_Sheets_hasCells 25 = .ok (.iconst 1, 1) ∧ 25 + 1 = 26 := by decide +kernel
theorem d_Sheets_hasCells_26 : decode c_Sheets_hasCells 26 = .ok (.goto 4, 3) ∧ (26 : Int) + 4 = (30 : Int) := by decide +kernel
theorem d_Sheets_hasCells_29 : decode c_Sheets_hasCells 29 = .ok (.iconst 0, 1) ∧ 29 + 1 = 30 := by decide +kernel
theorem d_Sheets_hasCells_30 : decode c_Sheets_hasCells 30 = .ok (.ireturn, 1) ∧ 30 + 1 = 31 := by decide +kernel
set_option maxHeartbeats 4000000 in
theorem m_Sheets_hasCells {Z : Sy} {σ : St} {res : Bool} {x1 : Int32} {x2 : Int32} {x3 : Int64} (hf : Sheets_hasCells x1 x2 x3 σ = some res) : Ct YC Z y_Sheets_hasCells c_Sheets_hasCells 5 (some .boolean) 1 [.ref (ya Z 74), .int x1, .int x2, .long x3] σ (some (.int (bi res))) σ := by
  refine Ct.of pn_Sheets (Nat.le_of_ble_eq_true rfl) rfl (fun Γ h => ?_)
  have h : IsG YC Z R_Sheets c_Sheets_hasCells 5 1 (some .boolean) (some (.int (bi res))) σ Γ := h
  unfold Sheets_hasCells at hf
  refine r_iload_n h d_Sheets_hasCells_0 2 rfl rfl ?_
  refine r_if_lt h d_Sheets_hasCells_1 hf (fun hf => ?_) (fun hf => ?_)
  · refine r_iconst h d_Sheets_hasCells_29 ki_0 ?_
    exact r_zreturn h d_Sheets_hasCells_30.1 ((show (0 : Int32) = bi false from rfl).trans (congrArg bi (Option.some.inj hf))) rfl
  · refine r_lload_n h d_Sheets_hasCells_4 3 rfl rfl ?_
    refine r_lconst h d_Sheets_hasCells_5 kl_0 ?_
    refine r_lif_lt h d_Sheets_hasCells_6 d_Sheets_hasCells_7 hf (fun hf => ?_) (fun hf => ?_)
    · refine r_iconst h d_Sheets_hasCells_29 ki_0 ?_
      exact r_zreturn h d_Sheets_hasCells_30.1 ((show (0 : Int32) = bi false from rfl).trans (congrArg bi (Option.some.inj hf))) rfl
    · refine r_iload_n h d_Sheets_hasCells_10 2 rfl rfl ?_
      refine r_i2l h d_Sheets_hasCells_11 ?_
      refine r_lload_n h d_Sheets_hasCells_12 3 rfl rfl ?_
      refine r_ladd h d_Sheets_hasCells_13 ?_
      refine r_aload_n h d_Sheets_hasCells_14 0 rfl rfl ?_
      refine r_getR h fd_YC_74_2 cf_Sheets fl_Sheets_18 d_Sheets_hasCells_15 ?_
      refine r_iload_n h d_Sheets_hasCells_18 1 rfl rfl ?_
      refine r_iald h sh_YC_77 d_Sheets_hasCells_19 hf (fun hf => ?_)
      refine r_i2l h d_Sheets_hasCells_20 ?_
      refine r_lif_gt h d_Sheets_hasCells_21 d_Sheets_hasCells_22 hf (fun hf => ?_) (fun hf => ?_)
      · refine r_iconst h d_Sheets_hasCells_29 ki_0 ?_
        exact r_zreturn h d_Sheets_hasCells_30.1 ((show (0 : Int32) = bi false from rfl).trans (congrArg bi (Option.some.inj hf))) rfl
      · refine r_iconst h d_Sheets_hasCells_25 ki_1 ?_
        refine r_goto h d_Sheets_hasCells_26 ?_
        exact r_zreturn h d_Sheets_hasCells_30.1 ((show (1 : Int32) = bi true from rfl).trans (congrArg bi (Option.some.inj hf))) rfl

theorem d_Sheets_takingFault_0 : decode c_Sheets_takingFault 0 = .ok (.aload_n 0, 1) ∧ 0 + 1 = 1 := by decide +kernel
theorem d_Sheets_takingFault_1 : decode c_Sheets_takingFault 1 = .ok (.iload_n 1, 1) ∧ 1 + 1 = 2 := by decide +kernel
theorem d_Sheets_takingFault_2 : decode c_Sheets_takingFault 2 = .ok (.invokevirtual 25, 3) ∧ 2 + 3 = 5 := by decide +kernel
theorem d_Sheets_takingFault_5 : decode c_Sheets_takingFault 5 = .ok (.ifCond .eq 5, 3) ∧ 5 + 3 = 8 ∧ ((5 : Nat) : Int) + 5 = ((10 : Nat) : Int) := by decide +kernel
theorem d_Sheets_takingFault_8 : decode c_Sheets_takingFault 8 = .ok (.iconst 1, 1) ∧ 8 + 1 = 9 := by decide +kernel
theorem d_Sheets_takingFault_9 : decode c_Sheets_takingFault 9 = .ok (.ireturn, 1) ∧ 9 + 1 = 10 := by decide +kernel
theorem d_Sheets_takingFault_10 : decode c_Sheets_takingFault 10 = .ok (.aload_n 0, 1) ∧ 10 + 1 = 11 := by decide +kernel
theorem d_Sheets_takingFault_11 : decode c_Sheets_takingFault 11 = .ok (.getfield 15, 3) ∧ 11 + 3 = 14 := by decide +kernel
theorem d_Sheets_takingFault_14 : decode c_Sheets_takingFault 14 = .ok (.iload_n 1, 1) ∧ 14 + 1 = 15 := by decide +kernel
theorem d_Sheets_takingFault_15 : decode c_Sheets_takingFault 15 = .ok (.iaload, 1) ∧ 15 + 1 = 16 := by decide +kernel
theorem d_Sheets_takingFault_16 : decode c_Sheets_takingFault 16 = .ok (.iload_n 2, 1) ∧ 16 + 1 = 17 := by decide +kernel
theorem d_Sheets_takingFault_17 : decode c_Sheets_takingFault 17 = .ok (.if_icmp .eq 5, 3) ∧ 17 + 3 = 20 ∧ ((17 : Nat) : Int) + 5 = ((22 : Nat) : Int) := by decide +kernel
theorem d_Sheets_takingFault_20 : decode c_Sheets_takingFault 20 = .ok (.iconst 2, 1) ∧ 20 + 1 = 21 := by decide +kernel
theorem d_Sheets_takingFault_21 : decode c_Sheets_takingFault 21 = .ok (.ireturn, 1) ∧ 21 + 1 = 22 := by decide +kernel
theorem d_Sheets_takingFault_22 : decode c_Sheets_takingFault 22 = .ok (.lload 4, 2) ∧ 22 + 2 = 24 := by decide +kernel
theorem d_Sheets_takingFault_24 : decode c_Sheets_takingFault 24 = .ok (.lconst 0, 1) ∧ 24 + 1 = 25 := by decide +kernel
theorem d_Sheets_takingFault_25 : decode c_Sheets_takingFault 25 = .ok (.lcmp, 1) ∧ 25 + 1 = 26 := by decide +kernel
theorem d_Sheets_takingFault_26 : decode c_Sheets_takingFault 26 = .ok (.ifCond .ge 5, 3) ∧ 26 + 3 = 29 ∧ ((26 : Nat) : Int) + 5 = ((31 : Nat) : Int) := by decide +kernel
theorem d_Sheets_takingFault_29 : decode c_Sheets_takingFault 29 = .ok (.iconst 4, 1) ∧ 29 + 1 = 30 := by decide +kernel
theorem d_Sheets_takingFault_30 : decode c_Sheets_takingFault 30 = .ok (.ireturn, 1) ∧ 30 + 1 = 31 := by decide +kernel
theorem d_Sheets_takingFault_31 : decode c_Sheets_takingFault 31 = .ok (.aload_n 0, 1) ∧ 31 + 1 = 32 := by decide +kernel
theorem d_Sheets_takingFault_32 : decode c_Sheets_takingFault 32 = .ok (.iload_n 1, 1) ∧ 32 + 1 = 33 := by decide +kernel
theorem d_Sheets_takingFault_33 : decode c_Sheets_takingFault 33 = .ok (.iload_n 3, 1) ∧ 33 + 1 = 34 := by decide +kernel
theorem d_Sheets_takingFault_34 : decode c_Sheets_takingFault 34 = .ok (.lload 4, 2) ∧ 34 + 2 = 36 := by decide +kernel
theorem d_Sheets_takingFault_36 : decode c_Sheets_takingFault 36 = .ok (.invokevirtual 29, 3) ∧ 36 + 3 = 39 := by decide +kernel
theorem d_Sheets_takingFault_39 : decode c_Sheets_takingFault 39 = .ok (.ifCond .eq 7, 3) ∧ 39 + 3 = 42 ∧ ((39 : Nat) : Int) + 7 = ((46 : Nat) : Int) := by decide +kernel
theorem d_Sheets_takingFault_42 : decode c_Sheets_takingFault 42 = .ok (.iconst 0, 1) ∧ 42 + 1 = 43 := by decide +kernel
theorem d_Sheets_takingFault_43 : decode c_Sheets_takingFault 43 = .ok (.goto 4, 3) ∧ (43 : Int) + 4 = (47 : Int) := by decide +kernel
theorem d_Sheets_takingFault_46 : decode c_Sheets_takingFault 46 = .ok (.iconst 3, 1) ∧ 46 + 1 = 47 := by decide +kernel
theorem d_Sheets_takingFault_47 : decode c_Sheets_takingFault 47 = .ok (.ireturn, 1) ∧ 47 + 1 = 48 := by decide +kernel
set_option maxHeartbeats 4000000 in
theorem m_Sheets_takingFault {Z : Sy} {σ : St} {res : Int32} {x1 : Int32} {x2 : Int32} {x3 : Int32} {x4 : Int64} (hf : Sheets_takingFault x1 x2 x3 x4 σ = some res) : Ct YC Z y_Sheets_takingFault c_Sheets_takingFault 6 (some .int) 2 [.ref (ya Z 74), .int x1, .int x2, .int x3, .long x4] σ (some (.int res)) σ := by
  refine Ct.of pn_Sheets (Nat.le_of_ble_eq_true rfl) rfl (fun Γ h => ?_)
  have h : IsG YC Z R_Sheets c_Sheets_takingFault 6 2 (some .int) (some (.int res)) σ Γ := h
  unfold Sheets_takingFault at hf
  refine r_aload_n h d_Sheets_takingFault_0 0 rfl rfl ?_
  refine r_iload_n h d_Sheets_takingFault_1 1 rfl rfl ?_
  obtain ⟨r2, e2, hf⟩ := q_bind hf
  refine r_callV (As := [.int x1]) (rest := []) h sh_YC_74 lk_Sheets_25 vk_Sheets_25 d_Sheets_takingFault_2 (by decide) rfl rfl (Nat.le_of_ble_eq_true rfl) (m_Sheets_isNothing e2) ?_
  refine r_bif_eq h d_Sheets_takingFault_5 hf (fun hf => ?_) (fun hf => ?_)
  · refine r_aload_n h d_Sheets_takingFault_10 0 rfl rfl ?_
    refine r_getR h fd_YC_74_1 cf_Sheets fl_Sheets_15 d_Sheets_takingFault_11 ?_
    refine r_iload_n h d_Sheets_takingFault_14 1 rfl rfl ?_
    refine r_iald h sh_YC_76 d_Sheets_takingFault_15 hf (fun hf => ?_)
    refine r_iload_n h d_Sheets_takingFault_16 2 rfl rfl ?_
    refine r_icmp_eq h d_Sheets_takingFault_17 hf (fun hf => ?_) (fun hf => ?_)
    · refine r_lload h d_Sheets_takingFault_22 4 rfl ?_
      refine r_lconst h d_Sheets_takingFault_24 kl_0 ?_
      refine r_lif_ge h d_Sheets_takingFault_25 d_Sheets_takingFault_26 hf (fun hf => ?_) (fun hf => ?_)
      · refine r_aload_n h d_Sheets_takingFault_31 0 rfl rfl ?_
        refine r_iload_n h d_Sheets_takingFault_32 1 rfl rfl ?_
        refine r_iload_n h d_Sheets_takingFault_33 3 rfl rfl ?_
        refine r_lload h d_Sheets_takingFault_34 4 rfl ?_
        obtain ⟨r36, e36, hf⟩ := q_bind hf
        refine r_callV (As := [.int x1, .int x3, .long x4]) (rest := []) h sh_YC_74 lk_Sheets_29 vk_Sheets_29 d_Sheets_takingFault_36 (by decide) rfl rfl (Nat.le_of_ble_eq_true rfl) (m_Sheets_hasCells e36) ?_
        refine r_bif_eq h d_Sheets_takingFault_39 hf (fun hf => ?_) (fun hf => ?_)
        · refine r_iconst h d_Sheets_takingFault_46 ki_3 ?_
          exact r_ireturn h d_Sheets_takingFault_47.1 (Option.some.inj hf) rfl
        · refine r_iconst h d_Sheets_takingFault_42 ki_0 ?_
          refine r_goto h d_Sheets_takingFault_43 ?_
          exact r_ireturn h d_Sheets_takingFault_47.1 (Option.some.inj hf) rfl
      · refine r_iconst h d_Sheets_takingFault_29 ki_4 ?_
        exact r_ireturn h d_Sheets_takingFault_30.1 (Option.some.inj hf) rfl
    · refine r_iconst h d_Sheets_takingFault_20 ki_2 ?_
      exact r_ireturn h d_Sheets_takingFault_21.1 (Option.some.inj hf) rfl
  · refine r_iconst h d_Sheets_takingFault_8 ki_1 ?_
    exact r_ireturn h d_Sheets_takingFault_9.1 (Option.some.inj hf) rfl

