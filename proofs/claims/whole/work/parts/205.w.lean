theorem d_P_licence_0 : decode c_P_licence 0 = .ok (.aload_n 0, 1) ∧ 0 + 1 = 1 := by decide +kernel
theorem d_P_licence_1 : decode c_P_licence 1 = .ok (.getfield 12, 3) ∧ 1 + 3 = 4 := by decide +kernel
theorem d_P_licence_4 : decode c_P_licence 4 = .ok (.iload_n 1, 1) ∧ 4 + 1 = 5 := by decide +kernel
theorem d_P_licence_5 : decode c_P_licence 5 = .ok (.invokevirtual 112, 3) ∧ 5 + 3 = 8 := by decide +kernel
theorem d_P_licence_8 : decode c_P_licence 8 = .ok (.ifCond .ne 5, 3) ∧ 8 + 3 = 11 ∧ ((8 : Nat) : Int) + 5 = ((13 : Nat) : Int) := by decide +kernel
theorem d_P_licence_11 : decode c_P_licence 11 = .ok (.iconst (-1), 1) ∧ 11 + 1 = 12 := by decide +kernel
theorem d_P_licence_12 : decode c_P_licence 12 = .ok (.ireturn, 1) ∧ 12 + 1 = 13 := by decide +kernel
theorem d_P_licence_13 : decode c_P_licence 13 = .ok (.iload_n 2, 1) ∧ 13 + 1 = 14 := by decide +kernel
theorem d_P_licence_14 : decode c_P_licence 14 = .ok (.bipush 6, 2) ∧ 14 + 2 = 16 := by decide +kernel
theorem d_P_licence_16 : decode c_P_licence 16 = .ok (.invokestatic 96, 3) ∧ 16 + 3 = 19 := by decide +kernel
theorem d_P_licence_19 : decode c_P_licence 19 = .ok (.ifCond .eq 12, 3) ∧ 19 + 3 = 22 ∧ ((19 : Nat) : Int) + 12 = ((31 : Nat) : Int) := by decide +kernel
theorem d_P_licence_22 : decode c_P_licence 22 = .ok (.iload_n 3, 1) ∧ 22 + 1 = 23 := by decide +kernel
theorem d_P_licence_23 : decode c_P_licence 23 = .ok (.iload 4, 2) ∧ 23 + 2 = 25 := by decide +kernel
theorem d_P_licence_25 : decode c_P_licence 25 = .ok (.invokestatic 119, 3) ∧ 25 + 3 = 28 := by decide +kernel
theorem d_P_licence_28 : decode c_P_licence 28 = .ok (.ifCond .ne 6, 3) ∧ 28 + 3 = 31 ∧ ((28 : Nat) : Int) + 6 = ((34 : Nat) : Int) := by decide +kernel
theorem d_P_licence_31 : decode c_P_licence 31 = .ok (.bipush (-2), 2) ∧ 31 + 2 = 33 := by decide +kernel
theorem d_P_licence_33 : decode c_P_licence 33 = .ok (.ireturn, 1) ∧ 33 + 1 = 34 := by decide +kernel
theorem d_P_licence_34 : decode c_P_licence 34 = .ok (.aload_n 0, 1) ∧ 34 + 1 = 35 := by decide +kernel
theorem d_P_licence_35 : decode c_P_licence 35 = .ok (.getfield 27, 3) ∧ 35 + 3 = 38 := by decide +kernel
theorem d_P_licence_38 : decode c_P_licence 38 = .ok (.iload_n 1, 1) ∧ 38 + 1 = 39 := by decide +kernel
theorem d_P_licence_39 : decode c_P_licence 39 = .ok (.iload_n 2, 1) ∧ 39 + 1 = 40 := by decide +kernel
theorem d_P_licence_40 : decode c_P_licence 40 = .ok (.iload_n 3, 1) ∧ 40 + 1 = 41 := by decide +kernel
theorem d_P_licence_41 : decode c_P_licence 41 = .ok (.iload 4, 2) ∧ 41 + 2 = 43 := by decide +kernel
theorem d_P_licence_43 : decode c_P_licence 43 = .ok (.invokevirtual 130, 3) ∧ 43 + 3 = 46 := by decide +kernel
theorem d_P_licence_46 : decode c_P_licence 46 = .ok (.ireturn, 1) ∧ 46 + 1 = 47 := by decide +kernel
set_option maxHeartbeats 4000000 in
theorem m_P_licence {Z : Sy} {σ : St} {res : (Int32 × St)} {x1 : Int32} {x2 : Int32} {x3 : Int32} {x4 : Int32} (hf : P_licence x1 x2 x3 x4 σ = some res) : Ct YC Z y_P_licence c_P_licence 5 (some .int) 3 [.ref (ya Z 0), .int x1, .int x2, .int x3, .int x4] σ (some (.int res.1)) res.2 := by
  refine Ct.of pn_P (Nat.le_of_ble_eq_true rfl) rfl (fun Γ h => ?_)
  have h : IsG YC Z R_P c_P_licence 5 3 (some .int) (some (.int res.1)) res.2 Γ := h
  unfold P_licence at hf
  refine r_aload_n h d_P_licence_0 0 rfl rfl ?_
  refine r_getR h fd_YC_0_0 cf_P fl_P_12 d_P_licence_1 ?_
  refine r_iload_n h d_P_licence_4 1 rfl rfl ?_
  obtain ⟨r5, e5, hf⟩ := q_bind hf
  refine r_callV (As := [.int x1]) (rest := []) h sh_YC_1 lk_P_112 vk_P_112 d_P_licence_5 (by decide) rfl rfl (Nat.le_of_ble_eq_true rfl) (m_Roll_hasBand e5) ?_
  refine r_bif_ne h d_P_licence_8 hf (fun hf => ?_) (fun hf => ?_)
  · refine r_iload_n h d_P_licence_13 2 rfl rfl ?_
    refine r_bipush h d_P_licence_14 kb_6 ?_
    obtain ⟨r16, e16, hf⟩ := q_bind hf
    refine r_callS (As := [.int x2, .int (6 : Int32)]) (rest := []) h lk_P_96 sk_P_96 d_P_licence_16 (by decide) rfl rfl (Nat.le_of_ble_eq_true rfl) (m_P_isBelow e16) ?_
    refine r_bif_eq h d_P_licence_19 hf (fun hf => ?_) (fun hf => ?_)
    · refine r_bipush h d_P_licence_31 kb_m2 ?_
      exact r_ireturn h d_P_licence_33.1 (q_p1 hf) (q_p2 hf)
    · refine r_iload_n h d_P_licence_22 3 rfl rfl ?_
      refine r_iload h d_P_licence_23 4 rfl ?_
      obtain ⟨r25, e25, hf⟩ := q_bind hf
      refine r_callS (As := [.int x3, .int x4]) (rest := []) h lk_P_119 sk_P_119 d_P_licence_25 (by decide) rfl rfl (Nat.le_of_ble_eq_true rfl) (m_P_areDays e25) ?_
      refine r_bif_ne h d_P_licence_28 hf (fun hf => ?_) (fun hf => ?_)
      · refine r_aload_n h d_P_licence_34 0 rfl rfl ?_
        refine r_getR h fd_YC_0_2 cf_P fl_P_27 d_P_licence_35 ?_
        refine r_iload_n h d_P_licence_38 1 rfl rfl ?_
        refine r_iload_n h d_P_licence_39 2 rfl rfl ?_
        refine r_iload_n h d_P_licence_40 3 rfl rfl ?_
        refine r_iload h d_P_licence_41 4 rfl ?_
        obtain ⟨q43, e43, hf⟩ := q_bind hf
        refine r_callV (As := [.int x1, .int x2, .int x3, .int x4]) (rest := []) h sh_YC_11 lk_P_130 vk_P_130 d_P_licence_43 (by decide) rfl rfl (Nat.le_of_ble_eq_true rfl) (m_Spans_add_licences e43) ?_
        exact r_ireturn h d_P_licence_46.1 (q_p1 hf) (q_p2 hf)
      · refine r_bipush h d_P_licence_31 kb_m2 ?_
        exact r_ireturn h d_P_licence_33.1 (q_p1 hf) (q_p2 hf)
  · refine r_iconst h d_P_licence_11 ki_m1 ?_
    exact r_ireturn h d_P_licence_12.1 (q_p1 hf) (q_p2 hf)

set_option maxHeartbeats 4000000 in
theorem m_Spans_covers_licences {Z : Sy} {σ : St} {res : Bool} {x1 : Int32} {x2 : Int32} (hf : Spans_covers_licences x1 x2 σ = some res) : Ct YC Z y_Spans_covers c_Spans_covers 3 (some .boolean) 1 [.ref (ya Z 11), .int x1, .int x2] σ (some (.int (bi res))) σ := by
  refine Ct.of pn_Spans (Nat.le_of_ble_eq_true rfl) rfl (fun Γ h => ?_)
  have h : IsG YC Z R_Spans c_Spans_covers 3 1 (some .boolean) (some (.int (bi res))) σ Γ := h
  unfold Spans_covers_licences at hf
  refine r_aload_n h d_Spans_covers_0 0 rfl rfl ?_
  refine r_getR h fd_YC_11_2 cf_Spans fl_Spans_24 d_Spans_covers_1 ?_
  refine r_iload_n h d_Spans_covers_4 1 rfl rfl ?_
  refine r_iald h sh_YC_14 d_Spans_covers_5 hf (fun hf => ?_)
  refine r_iload_n h d_Spans_covers_6 2 rfl rfl ?_
  refine r_icmp_gt h d_Spans_covers_7 hf (fun hf => ?_) (fun hf => ?_)
  · refine r_iconst h d_Spans_covers_24 ki_0 ?_
    exact r_zreturn h d_Spans_covers_25.1 ((show (0 : Int32) = bi false from rfl).trans (congrArg bi (Option.some.inj hf))) rfl
  · refine r_iload_n h d_Spans_covers_10 2 rfl rfl ?_
    refine r_aload_n h d_Spans_covers_11 0 rfl rfl ?_
    refine r_getR h fd_YC_11_3 cf_Spans fl_Spans_27 d_Spans_covers_12 ?_
    refine r_iload_n h d_Spans_covers_15 1 rfl rfl ?_
    refine r_iald h sh_YC_15 d_Spans_covers_16 hf (fun hf => ?_)
    refine r_icmp_gt h d_Spans_covers_17 hf (fun hf => ?_) (fun hf => ?_)
    · refine r_iconst h d_Spans_covers_24 ki_0 ?_
      exact r_zreturn h d_Spans_covers_25.1 ((show (0 : Int32) = bi false from rfl).trans (congrArg bi (Option.some.inj hf))) rfl
    · refine r_iconst h d_Spans_covers_20 ki_1 ?_
      refine r_goto h d_Spans_covers_21 ?_
      exact r_zreturn h d_Spans_covers_25.1 ((show (1 : Int32) = bi true from rfl).trans (congrArg bi (Option.some.inj hf))) rfl

theorem d_Spans_hasOn_0 : decode c_Spans_hasOn 0 = .ok (.iconst 0, 1) ∧ 0 + 1 = 1 := by decide +kernel
theorem d_Spans_hasOn_1 : decode c_Spans_hasOn 1 = .ok (.istore 4, 2) ∧ 1 + 2 = 3 := by decide +kernel
theorem d_Spans_hasOn_3 : decode c_Spans_hasOn 3 = .ok (.iload 4, 2) ∧ 3 + 2 = 5 := by decide +kernel
theorem d_Spans_hasOn_5 : decode c_Spans_hasOn 5 = .ok (.aload_n 0, 1) ∧ 5 + 1 = 6 := by decide +kernel
theorem d_Spans_hasOn_6 : decode c_Spans_hasOn 6 = .ok (.getfield 30, 3) ∧ 6 + 3 = 9 := by decide +kernel
theorem d_Spans_hasOn_9 : decode c_Spans_hasOn 9 = .ok (.if_icmp .ge 43, 3) ∧ 9 + 3 = 12 ∧ ((9 : Nat) : Int) + 43 = ((52 : Nat) : Int) := by decide +kernel
theorem d_Spans_hasOn_12 : decode c_Spans_hasOn 12 = .ok (.aload_n 0, 1) ∧ 12 + 1 = 13 := by decide +kernel
theorem d_Spans_hasOn_13 : decode c_Spans_hasOn 13 = .ok (.getfield 15, 3) ∧ 13 + 3 = 16 := by decide +kernel
theorem d_Spans_hasOn_16 : decode c_Spans_hasOn 16 = .ok (.iload 4, 2) ∧ 16 + 2 = 18 := by decide +kernel
theorem d_Spans_hasOn_18 : decode c_Spans_hasOn 18 = .ok (.iaload, 1) ∧ 18 + 1 = 19 := by decide +kernel
theorem d_Spans_hasOn_19 : decode c_Spans_hasOn 19 = .ok (.iload_n 1, 1) ∧ 19 + 1 = 20 := by decide +kernel
theorem d_Spans_hasOn_20 : decode c_Spans_hasOn 20 = .ok (.if_icmp .ne 26, 3) ∧ 20 + 3 = 23 ∧ ((20 : Nat) : Int) + 26 = ((46 : Nat) : Int) := by decide +kernel
theorem d_Spans_hasOn_23 : decode c_Spans_hasOn 23 = .ok (.aload_n 0, 1) ∧ 23 + 1 = 24 := by decide +kernel
theorem d_Spans_hasOn_24 : decode c_Spans_hasOn 24 = .ok (.getfield 21, 3) ∧ 24 + 3 = 27 := by decide +kernel
theorem d_Spans_hasOn_27 : decode c_Spans_hasOn 27 = .ok (.iload 4, 2) ∧ 27 + 2 = 29 := by decide +kernel
theorem d_Spans_hasOn_29 : decode c_Spans_hasOn 29 = .ok (.iaload, 1) ∧ 29 + 1 = 30 := by decide +kernel
theorem d_Spans_hasOn_30 : decode c_Spans_hasOn 30 = .ok (.iload_n 2, 1) ∧ 30 + 1 = 31 := by decide +kernel
theorem d_Spans_hasOn_31 : decode c_Spans_hasOn 31 = .ok (.if_icmp .ne 15, 3) ∧ 31 + 3 = 34 ∧ ((31 : Nat) : Int) + 15 = ((46 : Nat) : Int) := by decide +kernel
theorem d_Spans_hasOn_34 : decode c_Spans_hasOn 34 = .ok (.aload_n 0, 1) ∧ 34 + 1 = 35 := by decide +kernel
theorem d_Spans_hasOn_35 : decode c_Spans_hasOn 35 = .ok (.iload 4, 2) ∧ 35 + 2 = 37 := by decide +kernel
theorem d_Spans_hasOn_37 : decode c_Spans_hasOn 37 = .ok (.iload_n 3, 1) ∧ 37 + 1 = 38 := by decide +kernel
theorem d_Spans_hasOn_38 : decode c_Spans_hasOn 38 = .ok (.invokevirtual 34, 3) ∧ 38 + 3 = 41 := by decide +kernel
theorem d_Spans_hasOn_41 : decode c_Spans_hasOn 41 = .ok (.ifCond .eq 5, 3) ∧ 41 + 3 = 44 ∧ ((41 : Nat) : Int) + 5 = ((46 : Nat) : Int) := by decide +kernel
theorem d_Spans_hasOn_44 : decode c_Spans_hasOn 44 = .ok (.iconst 1, 1) ∧ 44 + 1 = 45 := by decide +kernel
theorem d_Spans_hasOn_45 : decode c_Spans_hasOn 45 = .ok (.ireturn, 1) ∧ 45 + 1 = 46 := by decide +kernel
theorem d_Spans_hasOn_46 : decode c_Spans_hasOn 46 = .ok (.iinc 4 1, 3) ∧ 46 + 3 = 49 := by decide +kernel
theorem d_Spans_hasOn_49 : decode c_Spans_hasOn 49 = .ok (.goto (-46), 3) ∧ (49 : Int) + (-46) = (3 : Int) := by decide +kernel
theorem d_Spans_hasOn_52 : decode c_Spans_hasOn 52 = .ok (.iconst 0, 1) ∧ 52 + 1 = 53 := by decide +kernel
theorem d_Spans_hasOn_53 : decode c_Spans_hasOn 53 = .ok (.ireturn, 1) ∧ 53 + 1 = 54 := by decide +kernel
set_option maxHeartbeats 4000000 in
theorem w_Spans_hasOn_licences_L3 {Z : Sy} {Γ : Nat → List (Nat × Value) → List Value → St → Prop} {res : Bool} {x1 : Int32} {x2 : Int32} {x3 : Int32} {σ : St} (h : IsG YC Z R_Spans c_Spans_hasOn 5 2 (some .boolean) (some (.int (bi res))) σ Γ) : ∀ (n : Nat) (x4 : Int32), Spans_hasOn_licences_L3 x1 x2 x3 σ n x4 = some res → Γ 3 [(0, .ref (ya Z 11)), (1, .int x1), (2, .int x2), (3, .int x3), (4, .int x4)] [] σ := by
  intro n
  induction n with
  | zero => intro x4 hf; exact absurd hf (by simp [Spans_hasOn_licences_L3])
  | succ n ih =>
    intro x4 hf
    rw [Spans_hasOn_licences_L3] at hf
    refine r_iload h d_Spans_hasOn_3 4 rfl ?_
    refine r_aload_n h d_Spans_hasOn_5 0 rfl rfl ?_
    refine r_getI h fd_YC_11_4 cf_Spans fl_Spans_30 d_Spans_hasOn_6 ?_
    refine r_icmp_ge h d_Spans_hasOn_9 hf (fun hf => ?_) (fun hf => ?_)
    · refine r_iconst h d_Spans_hasOn_52 ki_0 ?_
      exact r_zreturn h d_Spans_hasOn_53.1 ((show (0 : Int32) = bi false from rfl).trans (congrArg bi (Option.some.inj hf))) rfl
    · refine r_aload_n h d_Spans_hasOn_12 0 rfl rfl ?_
      refine r_getR h fd_YC_11_0 cf_Spans fl_Spans_15 d_Spans_hasOn_13 ?_
      refine r_iload h d_Spans_hasOn_16 4 rfl ?_
      refine r_iald h sh_YC_12 d_Spans_hasOn_18 hf (fun hf => ?_)
      refine r_iload_n h d_Spans_hasOn_19 1 rfl rfl ?_
      refine r_icmp_ne h d_Spans_hasOn_20 hf (fun hf => ?_) (fun hf => ?_)
      · refine r_iinc (ls' := [(4, .int (x4 + (1 : Int32))), (0, .ref (ya Z 11)), (1, .int x1), (2, .int x2), (3, .int x3)]) h d_Spans_hasOn_46 4 rfl ki_1 (by decide) rfl ?_
        refine r_goto h d_Spans_hasOn_49 ?_
        refine r_sub h [1, 2, 3, 4, 0] rfl ?_
        exact ih _ hf
      · refine r_aload_n h d_Spans_hasOn_23 0 rfl rfl ?_
        refine r_getR h fd_YC_11_1 cf_Spans fl_Spans_21 d_Spans_hasOn_24 ?_
        refine r_iload h d_Spans_hasOn_27 4 rfl ?_
        refine r_iald h sh_YC_13 d_Spans_hasOn_29 hf (fun hf => ?_)
        refine r_iload_n h d_Spans_hasOn_30 2 rfl rfl ?_
        refine r_icmp_ne h d_Spans_hasOn_31 hf (fun hf => ?_) (fun hf => ?_)
        · refine r_iinc (ls' := [(4, .int (x4 + (1 : Int32))), (0, .ref (ya Z 11)), (1, .int x1), (2, .int x2), (3, .int x3)]) h d_Spans_hasOn_46 4 rfl ki_1 (by decide) rfl ?_
          refine r_goto h d_Spans_hasOn_49 ?_
          refine r_sub h [1, 2, 3, 4, 0] rfl ?_
          exact ih _ hf
        · refine r_aload_n h d_Spans_hasOn_34 0 rfl rfl ?_
          refine r_iload h d_Spans_hasOn_35 4 rfl ?_
          refine r_iload_n h d_Spans_hasOn_37 3 rfl rfl ?_
          obtain ⟨r38, e38, hf⟩ := q_bind hf
          refine r_callV (As := [.int x4, .int x3]) (rest := []) h sh_YC_11 lk_Spans_34 vk_Spans_34 d_Spans_hasOn_38 (by decide) rfl rfl (Nat.le_of_ble_eq_true rfl) (m_Spans_covers_licences e38) ?_
          refine r_bif_eq h d_Spans_hasOn_41 hf (fun hf => ?_) (fun hf => ?_)
          · refine r_iinc (ls' := [(4, .int (x4 + (1 : Int32))), (0, .ref (ya Z 11)), (1, .int x1), (2, .int x2), (3, .int x3)]) h d_Spans_hasOn_46 4 rfl ki_1 (by decide) rfl ?_
            refine r_goto h d_Spans_hasOn_49 ?_
            refine r_sub h [1, 2, 3, 4, 0] rfl ?_
            exact ih _ hf
          · refine r_iconst h d_Spans_hasOn_44 ki_1 ?_
            exact r_zreturn h d_Spans_hasOn_45.1 ((show (1 : Int32) = bi true from rfl).trans (congrArg bi (Option.some.inj hf))) rfl

set_option maxHeartbeats 4000000 in
theorem m_Spans_hasOn_licences {Z : Sy} {σ : St} {res : Bool} {x1 : Int32} {x2 : Int32} {x3 : Int32} (hf : Spans_hasOn_licences x1 x2 x3 σ = some res) : Ct YC Z y_Spans_hasOn c_Spans_hasOn 5 (some .boolean) 2 [.ref (ya Z 11), .int x1, .int x2, .int x3] σ (some (.int (bi res))) σ := by
  refine Ct.of pn_Spans (Nat.le_of_ble_eq_true rfl) rfl (fun Γ h => ?_)
  have h : IsG YC Z R_Spans c_Spans_hasOn 5 2 (some .boolean) (some (.int (bi res))) σ Γ := h
  unfold Spans_hasOn_licences at hf
  refine r_iconst h d_Spans_hasOn_0 ki_0 ?_
  refine r_istore (ls' := [(4, .int (0 : Int32)), (0, .ref (ya Z 11)), (1, .int x1), (2, .int x2), (3, .int x3)]) h d_Spans_hasOn_1 (by decide) rfl ?_
  refine r_sub h [1, 2, 3, 4, 0] rfl ?_
  exact w_Spans_hasOn_licences_L3 h _ _ hf

theorem d_P_isAllowed_0 : decode c_P_isAllowed 0 = .ok (.aload_n 0, 1) ∧ 0 + 1 = 1 := by decide +kernel
theorem d_P_isAllowed_1 : decode c_P_isAllowed 1 = .ok (.getfield 43, 3) ∧ 1 + 3 = 4 := by decide +kernel
theorem d_P_isAllowed_4 : decode c_P_isAllowed 4 = .ok (.getfield 193, 3) ∧ 4 + 3 = 7 := by decide +kernel
theorem d_P_isAllowed_7 : decode c_P_isAllowed 7 = .ok (.iload_n 1, 1) ∧ 7 + 1 = 8 := by decide +kernel
theorem d_P_isAllowed_8 : decode c_P_isAllowed 8 = .ok (.iaload, 1) ∧ 8 + 1 = 9 := by decide +kernel
theorem d_P_isAllowed_9 : decode c_P_isAllowed 9 = .ok (.istore_n 3, 1) ∧ 9 + 1 = 10 := by decide +kernel
theorem d_P_isAllowed_10 : decode c_P_isAllowed 10 = .ok (.aload_n 0, 1) ∧ 10 + 1 = 11 := by decide +kernel
theorem d_P_isAllowed_11 : decode c_P_isAllowed 11 = .ok (.getfield 23, 3) ∧ 11 + 3 = 14 := by decide +kernel
theorem d_P_isAllowed_14 : decode c_P_isAllowed 14 = .ok (.iload_n 2, 1) ∧ 14 + 1 = 15 := by decide +kernel
theorem d_P_isAllowed_15 : decode c_P_isAllowed 15 = .ok (.iload_n 3, 1) ∧ 15 + 1 = 16 := by decide +kernel
theorem d_P_isAllowed_16 : decode c_P_isAllowed 16 = .ok (.invokevirtual 134, 3) ∧ 16 + 3 = 19 := by decide +kernel
theorem d_P_isAllowed_19 : decode c_P_isAllowed 19 = .ok (.istore 4, 2) ∧ 19 + 2 = 21 := by decide +kernel
theorem d_P_isAllowed_21 : decode c_P_isAllowed 21 = .ok (.aload_n 0, 1) ∧ 21 + 1 = 22 := by decide +kernel
theorem d_P_isAllowed_22 : decode c_P_isAllowed 22 = .ok (.getfield 12, 3) ∧ 22 + 3 = 25 := by decide +kernel
theorem d_P_isAllowed_25 : decode c_P_isAllowed 25 = .ok (.iload 4, 2) ∧ 25 + 2 = 27 := by decide +kernel
theorem d_P_isAllowed_27 : decode c_P_isAllowed 27 = .ok (.invokevirtual 116, 3) ∧ 27 + 3 = 30 := by decide +kernel
theorem d_P_isAllowed_30 : decode c_P_isAllowed 30 = .ok (.ifCond .ne 5, 3) ∧ 30 + 3 = 33 ∧ ((30 : Nat) : Int) + 5 = ((35 : Nat) : Int) := by decide +kernel
theorem d_P_isAllowed_33 : decode c_P_isAllowed 33 = .ok (.iconst 1, 1) ∧ 33 + 1 = 34 := by decide +kernel
theorem d_P_isAllowed_34 : decode c_P_isAllowed 34 = .ok (.ireturn, 1) ∧ 34 + 1 = 35 := by decide +kernel
theorem d_P_isAllowed_35 : decode c_P_isAllowed 35 = .ok (.aload_n 0, 1) ∧ 35 + 1 = 36 := by decide +kernel
theorem d_P_isAllowed_36 : decode c_P_isAllowed 36 = .ok (.getfield 12, 3) ∧ 36 + 3 = 39 := by decide +kernel
theorem d_P_isAllowed_39 : decode c_P_isAllowed 39 = .ok (.getfield 246, 3) ∧ 39 + 3 = 42 := by decide +kernel
theorem d_P_isAllowed_42 : decode c_P_isAllowed 42 = .ok (.iload 4, 2) ∧ 42 + 2 = 44 := by decide +kernel
theorem d_P_isAllowed_44 : decode c_P_isAllowed 44 = .ok (.iaload, 1) ∧ 44 + 1 = 45 := by decide +kernel
theorem d_P_isAllowed_45 : decode c_P_isAllowed 45 = .ok (.istore 5, 2) ∧ 45 + 2 = 47 := by decide +kernel
theorem d_P_isAllowed_47 : decode c_P_isAllowed 47 = .ok (.aload_n 0, 1) ∧ 47 + 1 = 48 := by decide +kernel
theorem d_P_isAllowed_48 : decode c_P_isAllowed 48 = .ok (.getfield 57, 3) ∧ 48 + 3 = 51 := by decide +kernel
theorem d_P_isAllowed_51 : decode c_P_isAllowed 51 = .ok (.iconst 4, 1) ∧ 51 + 1 = 52 := by decide +kernel
theorem d_P_isAllowed_52 : decode c_P_isAllowed 52 = .ok (.aload_n 0, 1) ∧ 52 + 1 = 53 := by decide +kernel
theorem d_P_isAllowed_53 : decode c_P_isAllowed 53 = .ok (.getfield 43, 3) ∧ 53 + 3 = 56 := by decide +kernel
theorem d_P_isAllowed_56 : decode c_P_isAllowed 56 = .ok (.getfield 184, 3) ∧ 56 + 3 = 59 := by decide +kernel
theorem d_P_isAllowed_59 : decode c_P_isAllowed 59 = .ok (.iload_n 1, 1) ∧ 59 + 1 = 60 := by decide +kernel
theorem d_P_isAllowed_60 : decode c_P_isAllowed 60 = .ok (.iaload, 1) ∧ 60 + 1 = 61 := by decide +kernel
theorem d_P_isAllowed_61 : decode c_P_isAllowed 61 = .ok (.iadd, 1) ∧ 61 + 1 = 62 := by decide +kernel
theorem d_P_isAllowed_62 : decode c_P_isAllowed 62 = .ok (.iload 5, 2) ∧ 62 + 2 = 64 := by decide +kernel
theorem d_P_isAllowed_64 : decode c_P_isAllowed 64 = .ok (.iload_n 3, 1) ∧ 64 + 1 = 65 := by decide +kernel
theorem d_P_isAllowed_65 : decode c_P_isAllowed 65 = .ok (.invokevirtual 225, 3) ∧ 65 + 3 = 68 := by decide +kernel
theorem d_P_isAllowed_68 : decode c_P_isAllowed 68 = .ok (.istore 6, 2) ∧ 68 + 2 = 70 := by decide +kernel
theorem d_P_isAllowed_70 : decode c_P_isAllowed 70 = .ok (.iload 6, 2) ∧ 70 + 2 = 72 := by decide +kernel
theorem d_P_isAllowed_72 : decode c_P_isAllowed 72 = .ok (.iconst 2, 1) ∧ 72 + 1 = 73 := by decide +kernel
theorem d_P_isAllowed_73 : decode c_P_isAllowed 73 = .ok (.if_icmp .ne 15, 3) ∧ 73 + 3 = 76 ∧ ((73 : Nat) : Int) + 15 = ((88 : Nat) : Int) := by decide +kernel
theorem d_P_isAllowed_76 : decode c_P_isAllowed 76 = .ok (.aload_n 0, 1) ∧ 76 + 1 = 77 := by decide +kernel
theorem d_P_isAllowed_77 : decode c_P_isAllowed 77 = .ok (.getfield 27, 3) ∧ 77 + 3 = 80 := by decide +kernel
theorem d_P_isAllowed_80 : decode c_P_isAllowed 80 = .ok (.iload_n 2, 1) ∧ 80 + 1 = 81 := by decide +kernel
theorem d_P_isAllowed_81 : decode c_P_isAllowed 81 = .ok (.iload 5, 2) ∧ 81 + 2 = 83 := by decide +kernel
theorem d_P_isAllowed_83 : decode c_P_isAllowed 83 = .ok (.iload_n 3, 1) ∧ 83 + 1 = 84 := by decide +kernel
theorem d_P_isAllowed_84 : decode c_P_isAllowed 84 = .ok (.invokevirtual 249, 3) ∧ 84 + 3 = 87 := by decide +kernel
theorem d_P_isAllowed_87 : decode c_P_isAllowed 87 = .ok (.ireturn, 1) ∧ 87 + 1 = 88 := by decide +kernel
theorem d_P_isAllowed_88 : decode c_P_isAllowed 88 = .ok (.iload 6, 2) ∧ 88 + 2 = 90 := by decide +kernel
theorem d_P_isAllowed_90 : decode c_P_isAllowed 90 = .ok (.ifCond .ne 7, 3) ∧ 90 + 3 = 93 ∧ ((90 : Nat) : Int) + 7 = ((97 : Nat) : Int) := by decide +kernel
theorem d_P_isAllowed_93 : decode c_P_isAllowed 93 = .ok (.iconst 1, 1) ∧ 93 + 1 = 94 := by decide +kernel
theorem d_P_isAllowed_94 : decode c_P_isAllowed 94 = .ok (.goto 4, 3) ∧ (94 : Int) + 4 = (98 : Int) := by decide +kernel
theorem d_P_isAllowed_97 : decode c_P_isAllowed 97 = .ok (.iconst 0, 1) ∧ 97 + 1 = 98 := by decide +kernel
theorem d_P_isAllowed_98 : decode c_P_isAllowed 98 = .ok (.ireturn, 1) ∧ 98 + 1 = 99 := by decide +kernel
set_option maxHeartbeats 4000000 in
theorem m_P_isAllowed {Z : Sy} {σ : St} {res : Bool} {x1 : Int32} {x2 : Int32} (hf : P_isAllowed x1 x2 σ = some res) : Ct YC Z y_P_isAllowed c_P_isAllowed 7 (some .boolean) 4 [.ref (ya Z 0), .int x1, .int x2] σ (some (.int (bi res))) σ := by
  refine Ct.of pn_P (Nat.le_of_ble_eq_true rfl) rfl (fun Γ h => ?_)
  have h : IsG YC Z R_P c_P_isAllowed 7 4 (some .boolean) (some (.int (bi res))) σ Γ := h
  unfold P_isAllowed at hf
  refine r_aload_n h d_P_isAllowed_0 0 rfl rfl ?_
  refine r_getR h fd_YC_0_5 cf_P fl_P_43 d_P_isAllowed_1 ?_
  refine r_getR h fd_YC_28_5 cf_Ledger fl_P_193 d_P_isAllowed_4 ?_
  refine r_iload_n h d_P_isAllowed_7 1 rfl rfl ?_
  refine r_iald h sh_YC_34 d_P_isAllowed_8 hf (fun hf => ?_)
  refine r_istore_n (ls' := [(3, .int (σ.1 34 (Int32.toNatClampNeg x1))), (0, .ref (ya Z 0)), (1, .int x1), (2, .int x2)]) h d_P_isAllowed_9 rfl (by decide) rfl ?_
  refine r_aload_n h d_P_isAllowed_10 1 rfl rfl ?_
  refine r_getR h fd_YC_0_1 cf_P fl_P_23 d_P_isAllowed_11 ?_
  refine r_iload_n h d_P_isAllowed_14 3 rfl rfl ?_
  refine r_iload_n h d_P_isAllowed_15 0 rfl rfl ?_
  obtain ⟨r16, e16, hf⟩ := q_bind hf
  refine r_callV (As := [.int x2, .int (σ.1 34 (Int32.toNatClampNeg x1))]) (rest := []) h sh_YC_6 lk_P_134 vk_P_134 d_P_isAllowed_16 (by decide) rfl rfl (Nat.le_of_ble_eq_true rfl) (m_Spans_whatOn_stays e16) ?_
  refine r_istore (ls' := [(4, .int r16), (3, .int (σ.1 34 (Int32.toNatClampNeg x1))), (0, .ref (ya Z 0)), (1, .int x1), (2, .int x2)]) h d_P_isAllowed_19 (by decide) rfl ?_
  refine r_aload_n h d_P_isAllowed_21 2 rfl rfl ?_
  refine r_getR h fd_YC_0_0 cf_P fl_P_12 d_P_isAllowed_22 ?_
  refine r_iload h d_P_isAllowed_25 0 rfl ?_
  obtain ⟨r27, e27, hf⟩ := q_bind hf
  refine r_callV (As := [.int r16]) (rest := []) h sh_YC_1 lk_P_116 vk_P_116 d_P_isAllowed_27 (by decide) rfl rfl (Nat.le_of_ble_eq_true rfl) (m_Roll_hasPlace e27) ?_
  refine r_bif_ne h d_P_isAllowed_30 hf (fun hf => ?_) (fun hf => ?_)
  · refine r_aload_n h d_P_isAllowed_35 2 rfl rfl ?_
    refine r_getR h fd_YC_0_0 cf_P fl_P_12 d_P_isAllowed_36 ?_
    refine r_getR h fd_YC_1_0 cf_Roll fl_P_246 d_P_isAllowed_39 ?_
    refine r_iload h d_P_isAllowed_42 0 rfl ?_
    refine r_iald h sh_YC_2 d_P_isAllowed_44 hf (fun hf => ?_)
    refine r_istore (ls' := [(5, .int (σ.1 2 (Int32.toNatClampNeg r16))), (4, .int r16), (3, .int (σ.1 34 (Int32.toNatClampNeg x1))), (0, .ref (ya Z 0)), (1, .int x1), (2, .int x2)]) h d_P_isAllowed_45 (by decide) rfl ?_
    refine r_aload_n h d_P_isAllowed_47 3 rfl rfl ?_
    refine r_getR h fd_YC_0_7 cf_P fl_P_57 d_P_isAllowed_48 ?_
    refine r_iconst h d_P_isAllowed_51 ki_4 ?_
    refine r_aload_n h d_P_isAllowed_52 3 rfl rfl ?_
    refine r_getR h fd_YC_0_5 cf_P fl_P_43 d_P_isAllowed_53 ?_
    refine r_getR h fd_YC_28_2 cf_Ledger fl_P_184 d_P_isAllowed_56 ?_
    refine r_iload_n h d_P_isAllowed_59 4 rfl rfl ?_
    refine r_iald h sh_YC_31 d_P_isAllowed_60 hf (fun hf => ?_)
    refine r_iadd h d_P_isAllowed_61 ?_
    refine r_iload h d_P_isAllowed_62 0 rfl ?_
    refine r_iload_n h d_P_isAllowed_64 2 rfl rfl ?_
    obtain ⟨r65, e65, hf⟩ := q_bind hf
    refine r_callV (As := [.int ((4 : Int32) + (σ.1 31 (Int32.toNatClampNeg x1))), .int (σ.1 2 (Int32.toNatClampNeg r16)), .int (σ.1 34 (Int32.toNatClampNeg x1))]) (rest := []) h sh_YC_40 lk_P_225 vk_P_225 d_P_isAllowed_65 (by decide) rfl rfl (Nat.le_of_ble_eq_true rfl) (m_Texts_valueIn e65) ?_
    refine r_istore (ls' := [(6, .int r65), (5, .int (σ.1 2 (Int32.toNatClampNeg r16))), (4, .int r16), (3, .int (σ.1 34 (Int32.toNatClampNeg x1))), (0, .ref (ya Z 0)), (1, .int x1), (2, .int x2)]) h d_P_isAllowed_68 (by decide) rfl ?_
    refine r_iload h d_P_isAllowed_70 0 rfl ?_
    refine r_iconst h d_P_isAllowed_72 ki_2 ?_
    refine r_icmp_ne h d_P_isAllowed_73 hf (fun hf => ?_) (fun hf => ?_)
    · refine r_iload h d_P_isAllowed_88 0 rfl ?_
      refine r_if_ne h d_P_isAllowed_90 hf (fun hf => ?_) (fun hf => ?_)
      · refine r_iconst h d_P_isAllowed_97 ki_0 ?_
        exact r_zreturn h d_P_isAllowed_98.1 ((show (0 : Int32) = bi false from rfl).trans (congrArg bi (Option.some.inj hf))) rfl
      · refine r_iconst h d_P_isAllowed_93 ki_1 ?_
        refine r_goto h d_P_isAllowed_94 ?_
        exact r_zreturn h d_P_isAllowed_98.1 ((show (1 : Int32) = bi true from rfl).trans (congrArg bi (Option.some.inj hf))) rfl
    · refine r_aload_n h d_P_isAllowed_76 4 rfl rfl ?_
      refine r_getR h fd_YC_0_2 cf_P fl_P_27 d_P_isAllowed_77 ?_
      refine r_iload_n h d_P_isAllowed_80 6 rfl rfl ?_
      refine r_iload h d_P_isAllowed_81 1 rfl ?_
      refine r_iload_n h d_P_isAllowed_83 3 rfl rfl ?_
      obtain ⟨r84, e84, hf⟩ := q_bind hf
      refine r_callV (As := [.int x2, .int (σ.1 2 (Int32.toNatClampNeg r16)), .int (σ.1 34 (Int32.toNatClampNeg x1))]) (rest := []) h sh_YC_11 lk_P_249 vk_P_249 d_P_isAllowed_84 (by decide) rfl rfl (Nat.le_of_ble_eq_true rfl) (m_Spans_hasOn_licences e84) ?_
      exact r_zreturn h d_P_isAllowed_87.1 (congrArg bi (Option.some.inj hf)) rfl
  · refine r_iconst h d_P_isAllowed_33 ki_1 ?_
    exact r_zreturn h d_P_isAllowed_34.1 ((show (1 : Int32) = bi true from rfl).trans (congrArg bi (Option.some.inj hf))) rfl

theorem d_P_unallowed_0 : decode c_P_unallowed 0 = .ok (.aload_n 0, 1) ∧ 0 + 1 = 1 := by decide +kernel
theorem d_P_unallowed_1 : decode c_P_unallowed 1 = .ok (.getfield 36, 3) ∧ 1 + 3 = 4 := by decide +kernel
theorem d_P_unallowed_4 : decode c_P_unallowed 4 = .ok (.iload_n 1, 1) ∧ 4 + 1 = 5 := by decide +kernel
theorem d_P_unallowed_5 : decode c_P_unallowed 5 = .ok (.invokevirtual 146, 3) ∧ 5 + 3 = 8 := by decide +kernel
theorem d_P_unallowed_8 : decode c_P_unallowed 8 = .ok (.ifCond .ne 5, 3) ∧ 8 + 3 = 11 ∧ ((8 : Nat) : Int) + 5 = ((13 : Nat) : Int) := by decide +kernel
theorem d_P_unallowed_11 : decode c_P_unallowed 11 = .ok (.iconst (-1), 1) ∧ 11 + 1 = 12 := by decide +kernel
theorem d_P_unallowed_12 : decode c_P_unallowed 12 = .ok (.ireturn, 1) ∧ 12 + 1 = 13 := by decide +kernel
theorem d_P_unallowed_13 : decode c_P_unallowed 13 = .ok (.iconst 0, 1) ∧ 13 + 1 = 14 := by decide +kernel
theorem d_P_unallowed_14 : decode c_P_unallowed 14 = .ok (.istore_n 2, 1) ∧ 14 + 1 = 15 := by decide +kernel
theorem d_P_unallowed_15 : decode c_P_unallowed 15 = .ok (.iconst 0, 1) ∧ 15 + 1 = 16 := by decide +kernel
theorem d_P_unallowed_16 : decode c_P_unallowed 16 = .ok (.istore_n 3, 1) ∧ 16 + 1 = 17 := by decide +kernel
theorem d_P_unallowed_17 : decode c_P_unallowed 17 = .ok (.iload_n 3, 1) ∧ 17 + 1 = 18 := by decide +kernel
theorem d_P_unallowed_18 : decode c_P_unallowed 18 = .ok (.aload_n 0, 1) ∧ 18 + 1 = 19 := by decide +kernel
theorem d_P_unallowed_19 : decode c_P_unallowed 19 = .ok (.getfield 43, 3) ∧ 19 + 3 = 22 := by decide +kernel
theorem d_P_unallowed_22 : decode c_P_unallowed 22 = .ok (.getfield 169, 3) ∧ 22 + 3 = 25 := by decide +kernel
theorem d_P_unallowed_25 : decode c_P_unallowed 25 = .ok (.if_icmp .ge 55, 3) ∧ 25 + 3 = 28 ∧ ((25 : Nat) : Int) + 55 = ((80 : Nat) : Int) := by decide +kernel
theorem d_P_unallowed_28 : decode c_P_unallowed 28 = .ok (.aload_n 0, 1) ∧ 28 + 1 = 29 := by decide +kernel
theorem d_P_unallowed_29 : decode c_P_unallowed 29 = .ok (.getfield 43, 3) ∧ 29 + 3 = 32 := by decide +kernel
theorem d_P_unallowed_32 : decode c_P_unallowed 32 = .ok (.getfield 178, 3) ∧ 32 + 3 = 35 := by decide +kernel
theorem d_P_unallowed_35 : decode c_P_unallowed 35 = .ok (.iload_n 3, 1) ∧ 35 + 1 = 36 := by decide +kernel
theorem d_P_unallowed_36 : decode c_P_unallowed 36 = .ok (.iaload, 1) ∧ 36 + 1 = 37 := by decide +kernel
theorem d_P_unallowed_37 : decode c_P_unallowed 37 = .ok (.iload_n 1, 1) ∧ 37 + 1 = 38 := by decide +kernel
theorem d_P_unallowed_38 : decode c_P_unallowed 38 = .ok (.if_icmp .ne 36, 3) ∧ 38 + 3 = 41 ∧ ((38 : Nat) : Int) + 36 = ((74 : Nat) : Int) := by decide +kernel
theorem d_P_unallowed_41 : decode c_P_unallowed 41 = .ok (.aload_n 0, 1) ∧ 41 + 1 = 42 := by decide +kernel
theorem d_P_unallowed_42 : decode c_P_unallowed 42 = .ok (.getfield 43, 3) ∧ 42 + 3 = 45 := by decide +kernel
theorem d_P_unallowed_45 : decode c_P_unallowed 45 = .ok (.getfield 181, 3) ∧ 45 + 3 = 48 := by decide +kernel
theorem d_P_unallowed_48 : decode c_P_unallowed 48 = .ok (.iload_n 3, 1) ∧ 48 + 1 = 49 := by decide +kernel
theorem d_P_unallowed_49 : decode c_P_unallowed 49 = .ok (.iaload, 1) ∧ 49 + 1 = 50 := by decide +kernel
theorem d_P_unallowed_50 : decode c_P_unallowed 50 = .ok (.iconst 2, 1) ∧ 50 + 1 = 51 := by decide +kernel
theorem d_P_unallowed_51 : decode c_P_unallowed 51 = .ok (.if_icmp .ne 23, 3) ∧ 51 + 3 = 54 ∧ ((51 : Nat) : Int) + 23 = ((74 : Nat) : Int) := by decide +kernel
theorem d_P_unallowed_54 : decode c_P_unallowed 54 = .ok (.aload_n 0, 1) ∧ 54 + 1 = 55 := by decide +kernel
theorem d_P_unallowed_55 : decode c_P_unallowed 55 = .ok (.iload_n 3, 1) ∧ 55 + 1 = 56 := by decide +kernel
theorem d_P_unallowed_56 : decode c_P_unallowed 56 = .ok (.aload_n 0, 1) ∧ 56 + 1 = 57 := by decide +kernel
theorem d_P_unallowed_57 : decode c_P_unallowed 57 = .ok (.getfield 36, 3) ∧ 57 + 3 = 60 := by decide +kernel
theorem d_P_unallowed_60 : decode c_P_unallowed 60 = .ok (.getfield 240, 3) ∧ 60 + 3 = 63 := by decide +kernel
theorem d_P_unallowed_63 : decode c_P_unallowed 63 = .ok (.iload_n 1, 1) ∧ 63 + 1 = 64 := by decide +kernel
theorem d_P_unallowed_64 : decode c_P_unallowed 64 = .ok (.iaload, 1) ∧ 64 + 1 = 65 := by decide +kernel
theorem d_P_unallowed_65 : decode c_P_unallowed 65 = .ok (.invokevirtual 243, 3) ∧ 65 + 3 = 68 := by decide +kernel
theorem d_P_unallowed_68 : decode c_P_unallowed 68 = .ok (.ifCond .ne 6, 3) ∧ 68 + 3 = 71 ∧ ((68 : Nat) : Int) + 6 = ((74 : Nat) : Int) := by decide +kernel
theorem d_P_unallowed_71 : decode c_P_unallowed 71 = .ok (.iinc 2 1, 3) ∧ 71 + 3 = 74 := by decide +kernel
theorem d_P_unallowed_74 : decode c_P_unallowed 74 = .ok (.iinc 3 1, 3) ∧ 74 + 3 = 77 := by decide +kernel
theorem d_P_unallowed_77 : decode c_P_unallowed 77 = .ok (.goto (-60), 3) ∧ (77 : Int) + (-60) = (17 : Int) := by decide +kernel
theorem d_P_unallowed_80 : decode c_P_unallowed 80 = .ok (.iload_n 2, 1) ∧ 80 + 1 = 81 := by decide +kernel
theorem d_P_unallowed_81 : decode c_P_unallowed 81 = .ok (.ireturn, 1) ∧ 81 + 1 = 82 := by decide +kernel
set_option maxHeartbeats 4000000 in
theorem w_P_unallowed_L17 {Z : Sy} {Γ : Nat → List (Nat × Value) → List Value → St → Prop} {res : Int32} {x1 : Int32} {σ : St} (h : IsG YC Z R_P c_P_unallowed 4 5 (some .int) (some (.int res)) σ Γ) : ∀ (n : Nat) (x2 : Int32) (x3 : Int32), P_unallowed_L17 x1 σ n x2 x3 = some res → Γ 17 [(0, .ref (ya Z 0)), (1, .int x1), (2, .int x2), (3, .int x3)] [] σ := by
  intro n
  induction n with
  | zero => intro x2 x3 hf; exact absurd hf (by simp [P_unallowed_L17])
  | succ n ih =>
    intro x2 x3 hf
    rw [P_unallowed_L17] at hf
    refine r_iload_n h d_P_unallowed_17 3 rfl rfl ?_
    refine r_aload_n h d_P_unallowed_18 0 rfl rfl ?_
    refine r_getR h fd_YC_0_5 cf_P fl_P_43 d_P_unallowed_19 ?_
    refine r_getI h fd_YC_28_6 cf_Ledger fl_P_169 d_P_unallowed_22 ?_
    refine r_icmp_ge h d_P_unallowed_25 hf (fun hf => ?_) (fun hf => ?_)
    · refine r_iload_n h d_P_unallowed_80 2 rfl rfl ?_
      exact r_ireturn h d_P_unallowed_81.1 (Option.some.inj hf) rfl
    · refine r_aload_n h d_P_unallowed_28 0 rfl rfl ?_
      refine r_getR h fd_YC_0_5 cf_P fl_P_43 d_P_unallowed_29 ?_
      refine r_getR h fd_YC_28_0 cf_Ledger fl_P_178 d_P_unallowed_32 ?_
      refine r_iload_n h d_P_unallowed_35 3 rfl rfl ?_
      refine r_iald h sh_YC_29 d_P_unallowed_36 hf (fun hf => ?_)
      refine r_iload_n h d_P_unallowed_37 1 rfl rfl ?_
      refine r_icmp_ne h d_P_unallowed_38 hf (fun hf => ?_) (fun hf => ?_)
      · refine r_iinc (ls' := [(3, .int (x3 + (1 : Int32))), (0, .ref (ya Z 0)), (1, .int x1), (2, .int x2)]) h d_P_unallowed_74 3 rfl ki_1 (by decide) rfl ?_
        refine r_goto h d_P_unallowed_77 ?_
        refine r_sub h [1, 2, 3, 0] rfl ?_
        exact ih _ _ hf
      · refine r_aload_n h d_P_unallowed_41 0 rfl rfl ?_
        refine r_getR h fd_YC_0_5 cf_P fl_P_43 d_P_unallowed_42 ?_
        refine r_getR h fd_YC_28_1 cf_Ledger fl_P_181 d_P_unallowed_45 ?_
        refine r_iload_n h d_P_unallowed_48 3 rfl rfl ?_
        refine r_iald h sh_YC_30 d_P_unallowed_49 hf (fun hf => ?_)
        refine r_iconst h d_P_unallowed_50 ki_2 ?_
        refine r_icmp_ne h d_P_unallowed_51 hf (fun hf => ?_) (fun hf => ?_)
        · refine r_iinc (ls' := [(3, .int (x3 + (1 : Int32))), (0, .ref (ya Z 0)), (1, .int x1), (2, .int x2)]) h d_P_unallowed_74 3 rfl ki_1 (by decide) rfl ?_
          refine r_goto h d_P_unallowed_77 ?_
          refine r_sub h [1, 2, 3, 0] rfl ?_
          exact ih _ _ hf
        · refine r_aload_n h d_P_unallowed_54 0 rfl rfl ?_
          refine r_iload_n h d_P_unallowed_55 3 rfl rfl ?_
          refine r_aload_n h d_P_unallowed_56 0 rfl rfl ?_
          refine r_getR h fd_YC_0_4 cf_P fl_P_36 d_P_unallowed_57 ?_
          refine r_getR h fd_YC_21_1 cf_Packs fl_P_240 d_P_unallowed_60 ?_
          refine r_iload_n h d_P_unallowed_63 1 rfl rfl ?_
          refine r_iald h sh_YC_23 d_P_unallowed_64 hf (fun hf => ?_)
          obtain ⟨r65, e65, hf⟩ := q_bind hf
          refine r_callV (As := [.int x3, .int (σ.1 23 (Int32.toNatClampNeg x1))]) (rest := []) h sh_YC_0 lk_P_243 vk_P_243 d_P_unallowed_65 (by decide) rfl rfl (Nat.le_of_ble_eq_true rfl) (m_P_isAllowed e65) ?_
          refine r_bif_ne h d_P_unallowed_68 hf (fun hf => ?_) (fun hf => ?_)
          · refine r_iinc (ls' := [(3, .int (x3 + (1 : Int32))), (0, .ref (ya Z 0)), (1, .int x1), (2, .int x2)]) h d_P_unallowed_74 3 rfl ki_1 (by decide) rfl ?_
            refine r_goto h d_P_unallowed_77 ?_
            refine r_sub h [1, 2, 3, 0] rfl ?_
            exact ih _ _ hf
          · refine r_iinc (ls' := [(2, .int (x2 + (1 : Int32))), (0, .ref (ya Z 0)), (1, .int x1), (3, .int x3)]) h d_P_unallowed_71 2 rfl ki_1 (by decide) rfl ?_
            refine r_iinc (ls' := [(3, .int (x3 + (1 : Int32))), (2, .int (x2 + (1 : Int32))), (0, .ref (ya Z 0)), (1, .int x1)]) h d_P_unallowed_74 3 rfl ki_1 (by decide) rfl ?_
            refine r_goto h d_P_unallowed_77 ?_
            refine r_sub h [2, 3, 1, 0] rfl ?_
            exact ih _ _ hf

set_option maxHeartbeats 4000000 in
theorem m_P_unallowed {Z : Sy} {σ : St} {res : Int32} {x1 : Int32} (hf : P_unallowed x1 σ = some res) : Ct YC Z y_P_unallowed c_P_unallowed 4 (some .int) 5 [.ref (ya Z 0), .int x1] σ (some (.int res)) σ := by
  refine Ct.of pn_P (Nat.le_of_ble_eq_true rfl) rfl (fun Γ h => ?_)
  have h : IsG YC Z R_P c_P_unallowed 4 5 (some .int) (some (.int res)) σ Γ := h
  unfold P_unallowed at hf
  refine r_aload_n h d_P_unallowed_0 0 rfl rfl ?_
  refine r_getR h fd_YC_0_4 cf_P fl_P_36 d_P_unallowed_1 ?_
  refine r_iload_n h d_P_unallowed_4 1 rfl rfl ?_
  obtain ⟨r5, e5, hf⟩ := q_bind hf
  refine r_callV (As := [.int x1]) (rest := []) h sh_YC_21 lk_P_146 vk_P_146 d_P_unallowed_5 (by decide) rfl rfl (Nat.le_of_ble_eq_true rfl) (m_Packs_has e5) ?_
  refine r_bif_ne h d_P_unallowed_8 hf (fun hf => ?_) (fun hf => ?_)
  · refine r_iconst h d_P_unallowed_13 ki_0 ?_
    refine r_istore_n (ls' := [(2, .int (0 : Int32)), (0, .ref (ya Z 0)), (1, .int x1)]) h d_P_unallowed_14 rfl (by decide) rfl ?_
    refine r_iconst h d_P_unallowed_15 ki_0 ?_
    refine r_istore_n (ls' := [(3, .int (0 : Int32)), (2, .int (0 : Int32)), (0, .ref (ya Z 0)), (1, .int x1)]) h d_P_unallowed_16 rfl (by decide) rfl ?_
    refine r_sub h [2, 3, 1, 0] rfl ?_
    exact w_P_unallowed_L17 h _ _ _ hf
  · refine r_iconst h d_P_unallowed_11 ki_m1 ?_
    exact r_ireturn h d_P_unallowed_12.1 (Option.some.inj hf) rfl

theorem d_Debts_add_0 : decode c_Debts_add 0 = .ok (.aload_n 0, 1) ∧ 0 + 1 = 1 := by decide +kernel
theorem d_Debts_add_1 : decode c_Debts_add 1 = .ok (.getfield 33, 3) ∧ 1 + 3 = 4 := by decide +kernel
theorem d_Debts_add_4 : decode c_Debts_add 4 = .ok (.aload_n 0, 1) ∧ 4 + 1 = 5 := by decide +kernel
theorem d_Debts_add_5 : decode c_Debts_add 5 = .ok (.getfield 9, 3) ∧ 5 + 3 = 8 := by decide +kernel
theorem d_Debts_add_8 : decode c_Debts_add 8 = .ok (.arraylength, 1) ∧ 8 + 1 = 9 := by decide +kernel
theorem d_Debts_add_9 : decode c_Debts_add 9 = .ok (.if_icmp .lt 6, 3) ∧ 9 + 3 = 12 ∧ ((9 : Nat) : Int) + 6 = ((15 : Nat) : Int) := by decide +kernel
theorem d_Debts_add_12 : decode c_Debts_add 12 = .ok (.bipush (-4), 2) ∧ 12 + 2 = 14 := by decide +kernel
theorem d_Debts_add_14 : decode c_Debts_add 14 = .ok (.ireturn, 1) ∧ 14 + 1 = 15 := by decide +kernel
theorem d_Debts_add_15 : decode c_Debts_add 15 = .ok (.aload_n 0, 1) ∧ 15 + 1 = 16 := by decide +kernel
theorem d_Debts_add_16 : decode c_Debts_add 16 = .ok (.getfield 9, 3) ∧ 16 + 3 = 19 := by decide +kernel
theorem d_Debts_add_19 : decode c_Debts_add 19 = .ok (.aload_n 0, 1) ∧ 19 + 1 = 20 := by decide +kernel
theorem d_Debts_add_20 : decode c_Debts_add 20 = .ok (.getfield 33, 3) ∧ 20 + 3 = 23 := by decide +kernel
theorem d_Debts_add_23 : decode c_Debts_add 23 = .ok (.iload_n 1, 1) ∧ 23 + 1 = 24 := by decide +kernel
theorem d_Debts_add_24 : decode c_Debts_add 24 = .ok (.iastore, 1) ∧ 24 + 1 = 25 := by decide +kernel
theorem d_Debts_add_25 : decode c_Debts_add 25 = .ok (.aload_n 0, 1) ∧ 25 + 1 = 26 := by decide +kernel
theorem d_Debts_add_26 : decode c_Debts_add 26 = .ok (.getfield 15, 3) ∧ 26 + 3 = 29 := by decide +kernel
theorem d_Debts_add_29 : decode c_Debts_add 29 = .ok (.aload_n 0, 1) ∧ 29 + 1 = 30 := by decide +kernel
theorem d_Debts_add_30 : decode c_Debts_add 30 = .ok (.getfield 33, 3) ∧ 30 + 3 = 33 := by decide +kernel
theorem d_Debts_add_33 : decode c_Debts_add 33 = .ok (.iload_n 2, 1) ∧ 33 + 1 = 34 := by decide +kernel
theorem d_Debts_add_34 : decode c_Debts_add 34 = .ok (.iastore, 1) ∧ 34 + 1 = 35 := by decide +kernel
theorem d_Debts_add_35 : decode c_Debts_add 35 = .ok (.aload_n 0, 1) ∧ 35 + 1 = 36 := by decide +kernel
theorem d_Debts_add_36 : decode c_Debts_add 36 = .ok (.getfield 18, 3) ∧ 36 + 3 = 39 := by decide +kernel
theorem d_Debts_add_39 : decode c_Debts_add 39 = .ok (.aload_n 0, 1) ∧ 39 + 1 = 40 := by decide +kernel
theorem d_Debts_add_40 : decode c_Debts_add 40 = .ok (.getfield 33, 3) ∧ 40 + 3 = 43 := by decide +kernel
theorem d_Debts_add_43 : decode c_Debts_add 43 = .ok (.iload_n 3, 1) ∧ 43 + 1 = 44 := by decide +kernel
theorem d_Debts_add_44 : decode c_Debts_add 44 = .ok (.iastore, 1) ∧ 44 + 1 = 45 := by decide +kernel
theorem d_Debts_add_45 : decode c_Debts_add 45 = .ok (.aload_n 0, 1) ∧ 45 + 1 = 46 := by decide +kernel
theorem d_Debts_add_46 : decode c_Debts_add 46 = .ok (.getfield 21, 3) ∧ 46 + 3 = 49 := by decide +kernel
theorem d_Debts_add_49 : decode c_Debts_add 49 = .ok (.aload_n 0, 1) ∧ 49 + 1 = 50 := by decide +kernel
theorem d_Debts_add_50 : decode c_Debts_add 50 = .ok (.getfield 33, 3) ∧ 50 + 3 = 53 := by decide +kernel
theorem d_Debts_add_53 : decode c_Debts_add 53 = .ok (.iload 4, 2) ∧ 53 + 2 = 55 := by decide +kernel
theorem d_Debts_add_55 : decode c_Debts_add 55 = .ok (.iastore, 1) ∧ 55 + 1 = 56 := by decide +kernel
theorem d_Debts_add_56 : decode c_Debts_add 56 = .ok (.aload_n 0, 1) ∧ 56 + 1 = 57 := by decide +kernel
theorem d_Debts_add_57 : decode c_Debts_add 57 = .ok (.getfield 24, 3) ∧ 57 + 3 = 60 := by decide +kernel
theorem d_Debts_add_60 : decode c_Debts_add 60 = .ok (.aload_n 0, 1) ∧ 60 + 1 = 61 := by decide +kernel
theorem d_Debts_add_61 : decode c_Debts_add 61 = .ok (.getfield 33, 3) ∧ 61 + 3 = 64 := by decide +kernel
theorem d_Debts_add_64 : decode c_Debts_add 64 = .ok (.iload 5, 2) ∧ 64 + 2 = 66 := by decide +kernel
theorem d_Debts_add_66 : decode c_Debts_add 66 = .ok (.iastore, 1) ∧ 66 + 1 = 67 := by decide +kernel
theorem d_Debts_add_67 : decode c_Debts_add 67 = .ok (.aload_n 0, 1) ∧ 67 + 1 = 68 := by decide +kernel
theorem d_Debts_add_68 : decode c_Debts_add 68 = .ok (.getfield 27, 3) ∧ 68 + 3 = 71 := by decide +kernel
theorem d_Debts_add_71 : decode c_Debts_add 71 = .ok (.aload_n 0, 1) ∧ 71 + 1 = 72 := by decide +kernel
theorem d_Debts_add_72 : decode c_Debts_add 72 = .ok (.getfield 33, 3) ∧ 72 + 3 = 75 := by decide +kernel
theorem d_Debts_add_75 : decode c_Debts_add 75 = .ok (.iconst 0, 1) ∧ 75 + 1 = 76 := by decide +kernel
theorem d_Debts_add_76 : decode c_Debts_add 76 = .ok (.iastore, 1) ∧ 76 + 1 = 77 := by decide +kernel
theorem d_Debts_add_77 : decode c_Debts_add 77 = .ok (.aload_n 0, 1) ∧ 77 + 1 = 78 := by decide +kernel
theorem d_Debts_add_78 : decode c_Debts_add 78 = .ok (.getfield 30, 3) ∧ 78 + 3 = 81 := by decide +kernel
theorem d_Debts_add_81 : decode c_Debts_add 81 = .ok (.aload_n 0, 1) ∧ 81 + 1 = 82 := by decide +kernel
theorem d_Debts_add_82 : decode c_Debts_add 82 = .ok (.getfield 33, 3) ∧ 82 + 3 = 85 := by decide +kernel
theorem d_Debts_add_85 : decode c_Debts_add 85 = .ok (.iload 6, 2) ∧ 85 + 2 = 87 := by decide +kernel
theorem d_Debts_add_87 : decode c_Debts_add 87 = .ok (.iastore, 1) ∧ 87 + 1 = 88 := by decide +kernel
theorem d_Debts_add_88 : decode c_Debts_add 88 = .ok (.aload_n 0, 1) ∧ 88 + 1 = 89 := by decide +kernel
theorem d_Debts_add_89 : decode c_Debts_add 89 = .ok (.dup, 1) ∧ 89 + 1 = 90 := by decide +kernel
theorem d_Debts_add_90 : decode c_Debts_add 90 = .ok (.getfield 33, 3) ∧ 90 + 3 = 93 := by decide +kernel
theorem d_Debts_add_93 : decode c_Debts_add 93 = .ok (.dup_x1, 1) ∧ 93 + 1 = 94 := by decide +kernel
theorem d_Debts_add_94 : decode c_Debts_add 94 = .ok (.iconst 1, 1) ∧ 94 + 1 = 95 := by decide +kernel
theorem d_Debts_add_95 : decode c_Debts_add 95 = .ok (.iadd, 1) ∧ 95 + 1 = 96 := by decide +kernel
theorem d_Debts_add_96 : decode c_Debts_add 96 = .ok (.putfield 33, 3) ∧ 96 + 3 = 99 := by decide +kernel
theorem d_Debts_add_99 : decode c_Debts_add 99 = .ok (.ireturn, 1) ∧ 99 + 1 = 100 := by decide +kernel
set_option maxHeartbeats 4000000 in
theorem m_Debts_add {Z : Sy} {σ : St} {res : (Int32 × St)} {x1 : Int32} {x2 : Int32} {x3 : Int32} {x4 : Int32} {x5 : Int32} {x6 : Int32} (hf : Debts_add x1 x2 x3 x4 x5 x6 σ = some res) : Ct YC Z y_Debts_add c_Debts_add 7 (some .int) 1 [.ref (ya Z 49), .int x1, .int x2, .int x3, .int x4, .int x5, .int x6] σ (some (.int res.1)) res.2 := by
  refine Ct.of pn_Debts (Nat.le_of_ble_eq_true rfl) rfl (fun Γ h => ?_)
  have h : IsG YC Z R_Debts c_Debts_add 7 1 (some .int) (some (.int res.1)) res.2 Γ := h
  unfold Debts_add at hf
  refine r_aload_n h d_Debts_add_0 0 rfl rfl ?_
  refine r_getI h fd_YC_49_7 cf_Debts fl_Debts_33 d_Debts_add_1 ?_
  refine r_aload_n h d_Debts_add_4 0 rfl rfl ?_
  refine r_getR h fd_YC_49_0 cf_Debts fl_Debts_9 d_Debts_add_5 ?_
  refine r_alen h sh_YC_50 kn_20 d_Debts_add_8 ?_
  refine r_icmp_lt h d_Debts_add_9 hf (fun hf => ?_) (fun hf => ?_)
  · refine r_aload_n h d_Debts_add_15 0 rfl rfl ?_
    refine r_getR h fd_YC_49_0 cf_Debts fl_Debts_9 d_Debts_add_16 ?_
    refine r_aload_n h d_Debts_add_19 0 rfl rfl ?_
    refine r_getI h fd_YC_49_7 cf_Debts fl_Debts_33 d_Debts_add_20 ?_
    refine r_iload_n h d_Debts_add_23 1 rfl rfl ?_
    refine r_iast h sh_YC_50 d_Debts_add_24 hf (fun hf => ?_)
    refine r_aload_n h d_Debts_add_25 0 rfl rfl ?_
    refine r_getR h fd_YC_49_1 cf_Debts fl_Debts_15 d_Debts_add_26 ?_
    refine r_aload_n h d_Debts_add_29 0 rfl rfl ?_
    refine r_getIv (v := (σ.1 49 7)) h fd_YC_49_7 cf_Debts fl_Debts_33 d_Debts_add_30 rfl ?_
    refine r_iload_n h d_Debts_add_33 2 rfl rfl ?_
    refine r_iast h sh_YC_51 d_Debts_add_34 hf (fun hf => ?_)
    refine r_aload_n h d_Debts_add_35 0 rfl rfl ?_
    refine r_getR h fd_YC_49_2 cf_Debts fl_Debts_18 d_Debts_add_36 ?_
    refine r_aload_n h d_Debts_add_39 0 rfl rfl ?_
    refine r_getIv (v := (σ.1 49 7)) h fd_YC_49_7 cf_Debts fl_Debts_33 d_Debts_add_40 rfl ?_
    refine r_iload_n h d_Debts_add_43 3 rfl rfl ?_
    refine r_iast h sh_YC_52 d_Debts_add_44 hf (fun hf => ?_)
    refine r_aload_n h d_Debts_add_45 0 rfl rfl ?_
    refine r_getR h fd_YC_49_3 cf_Debts fl_Debts_21 d_Debts_add_46 ?_
    refine r_aload_n h d_Debts_add_49 0 rfl rfl ?_
    refine r_getIv (v := (σ.1 49 7)) h fd_YC_49_7 cf_Debts fl_Debts_33 d_Debts_add_50 rfl ?_
    refine r_iload h d_Debts_add_53 4 rfl ?_
    refine r_iast h sh_YC_53 d_Debts_add_55 hf (fun hf => ?_)
    refine r_aload_n h d_Debts_add_56 0 rfl rfl ?_
    refine r_getR h fd_YC_49_4 cf_Debts fl_Debts_24 d_Debts_add_57 ?_
    refine r_aload_n h d_Debts_add_60 0 rfl rfl ?_
    refine r_getIv (v := (σ.1 49 7)) h fd_YC_49_7 cf_Debts fl_Debts_33 d_Debts_add_61 rfl ?_
    refine r_iload h d_Debts_add_64 5 rfl ?_
    refine r_iast h sh_YC_54 d_Debts_add_66 hf (fun hf => ?_)
    refine r_aload_n h d_Debts_add_67 0 rfl rfl ?_
    refine r_getR h fd_YC_49_5 cf_Debts fl_Debts_27 d_Debts_add_68 ?_
    refine r_aload_n h d_Debts_add_71 0 rfl rfl ?_
    refine r_getIv (v := (σ.1 49 7)) h fd_YC_49_7 cf_Debts fl_Debts_33 d_Debts_add_72 rfl ?_
    refine r_iconst h d_Debts_add_75 ki_0 ?_
    refine r_iast h sh_YC_55 d_Debts_add_76 hf (fun hf => ?_)
    refine r_aload_n h d_Debts_add_77 0 rfl rfl ?_
    refine r_getR h fd_YC_49_6 cf_Debts fl_Debts_30 d_Debts_add_78 ?_
    refine r_aload_n h d_Debts_add_81 0 rfl rfl ?_
    refine r_getIv (v := (σ.1 49 7)) h fd_YC_49_7 cf_Debts fl_Debts_33 d_Debts_add_82 rfl ?_
    refine r_iload h d_Debts_add_85 6 rfl ?_
    refine r_iast h sh_YC_56 d_Debts_add_87 hf (fun hf => ?_)
    refine r_aload_n h d_Debts_add_88 0 rfl rfl ?_
    refine r_dup h d_Debts_add_89 rfl ?_
    refine r_getIv (v := (σ.1 49 7)) h fd_YC_49_7 cf_Debts fl_Debts_33 d_Debts_add_90 rfl ?_
    refine r_dup_x1 h d_Debts_add_93 rfl rfl ?_
    refine r_iconst h d_Debts_add_94 ki_1 ?_
    refine r_iadd h d_Debts_add_95 ?_
    refine r_putI h fd_YC_49_7 cf_Debts fl_Debts_33 ⟨rfl, rfl⟩ d_Debts_add_96 ?_
    exact r_ireturn h d_Debts_add_99.1 (q_p1 hf) (q_p2 hf)
  · refine r_bipush h d_Debts_add_12 kb_m4 ?_
    exact r_ireturn h d_Debts_add_14.1 (q_p1 hf) (q_p2 hf)

theorem d_P_door_0 : decode c_P_door 0 = .ok (.aload_n 0, 1) ∧ 0 + 1 = 1 := by decide +kernel
theorem d_P_door_1 : decode c_P_door 1 = .ok (.getfield 12, 3) ∧ 1 + 3 = 4 := by decide +kernel
theorem d_P_door_4 : decode c_P_door 4 = .ok (.iload_n 2, 1) ∧ 4 + 1 = 5 := by decide +kernel
theorem d_P_door_5 : decode c_P_door 5 = .ok (.invokevirtual 116, 3) ∧ 5 + 3 = 8 := by decide +kernel
theorem d_P_door_8 : decode c_P_door 8 = .ok (.ifCond .eq 14, 3) ∧ 8 + 3 = 11 ∧ ((8 : Nat) : Int) + 14 = ((22 : Nat) : Int) := by decide +kernel
theorem d_P_door_11 : decode c_P_door 11 = .ok (.aload_n 0, 1) ∧ 11 + 1 = 12 := by decide +kernel
theorem d_P_door_12 : decode c_P_door 12 = .ok (.getfield 36, 3) ∧ 12 + 3 = 15 := by decide +kernel
theorem d_P_door_15 : decode c_P_door 15 = .ok (.iload_n 3, 1) ∧ 15 + 1 = 16 := by decide +kernel
theorem d_P_door_16 : decode c_P_door 16 = .ok (.invokevirtual 146, 3) ∧ 16 + 3 = 19 := by decide +kernel
theorem d_P_door_19 : decode c_P_door 19 = .ok (.ifCond .ne 5, 3) ∧ 19 + 3 = 22 ∧ ((19 : Nat) : Int) + 5 = ((24 : Nat) : Int) := by decide +kernel
theorem d_P_door_22 : decode c_P_door 22 = .ok (.iconst (-1), 1) ∧ 22 + 1 = 23 := by decide +kernel
theorem d_P_door_23 : decode c_P_door 23 = .ok (.ireturn, 1) ∧ 23 + 1 = 24 := by decide +kernel
theorem d_P_door_24 : decode c_P_door 24 = .ok (.iload_n 1, 1) ∧ 24 + 1 = 25 := by decide +kernel
theorem d_P_door_25 : decode c_P_door 25 = .ok (.iconst 3, 1) ∧ 25 + 1 = 26 := by decide +kernel
theorem d_P_door_26 : decode c_P_door 26 = .ok (.invokestatic 96, 3) ∧ 26 + 3 = 29 := by decide +kernel
theorem d_P_door_29 : decode c_P_door 29 = .ok (.ifCond .eq 28, 3) ∧ 29 + 3 = 32 ∧ ((29 : Nat) : Int) + 28 = ((57 : Nat) : Int) := by decide +kernel
theorem d_P_door_32 : decode c_P_door 32 = .ok (.iload 4, 2) ∧ 32 + 2 = 34 := by decide +kernel
theorem d_P_door_34 : decode c_P_door 34 = .ok (.iconst 1, 1) ∧ 34 + 1 = 35 := by decide +kernel
theorem d_P_door_35 : decode c_P_door 35 = .ok (.if_icmp .lt 22, 3) ∧ 35 + 3 = 38 ∧ ((35 : Nat) : Int) + 22 = ((57 : Nat) : Int) := by decide +kernel
theorem d_P_door_38 : decode c_P_door 38 = .ok (.iload 4, 2) ∧ 38 + 2 = 40 := by decide +kernel
theorem d_P_door_40 : decode c_P_door 40 = .ok (.sipush 9999, 3) ∧ 40 + 3 = 43 := by decide +kernel
theorem d_P_door_43 : decode c_P_door 43 = .ok (.if_icmp .gt 14, 3) ∧ 43 + 3 = 46 ∧ ((43 : Nat) : Int) + 14 = ((57 : Nat) : Int) := by decide +kernel
theorem d_P_door_46 : decode c_P_door 46 = .ok (.iload 5, 2) ∧ 46 + 2 = 48 := by decide +kernel
theorem d_P_door_48 : decode c_P_door 48 = .ok (.sipush 10000, 3) ∧ 48 + 3 = 51 := by decide +kernel
theorem d_P_door_51 : decode c_P_door 51 = .ok (.invokestatic 96, 3) ∧ 51 + 3 = 54 := by decide +kernel
theorem d_P_door_54 : decode c_P_door 54 = .ok (.ifCond .ne 6, 3) ∧ 54 + 3 = 57 ∧ ((54 : Nat) : Int) + 6 = ((60 : Nat) : Int) := by decide +kernel
theorem d_P_door_57 : decode c_P_door 57 = .ok (.bipush (-2), 2) ∧ 57 + 2 = 59 := by decide +kernel
theorem d_P_door_59 : decode c_P_door 59 = .ok (.ireturn, 1) ∧ 59 + 1 = 60 := by decide +kernel
theorem d_P_door_60 : decode c_P_door 60 = .ok (.aload_n 0, 1) ∧ 60 + 1 = 61 := by decide +kernel
theorem d_P_door_61 : decode c_P_door 61 = .ok (.getfield 64, 3) ∧ 61 + 3 = 64 := by decide +kernel
theorem d_P_door_64 : decode c_P_door 64 = .ok (.iload_n 1, 1) ∧ 64 + 1 = 65 := by decide +kernel
theorem d_P_door_65 : decode c_P_door 65 = .ok (.iload_n 2, 1) ∧ 65 + 1 = 66 := by decide +kernel
theorem d_P_door_66 : decode c_P_door 66 = .ok (.iload_n 3, 1) ∧ 66 + 1 = 67 := by decide +kernel
theorem d_P_door_67 : decode c_P_door 67 = .ok (.iload 4, 2) ∧ 67 + 2 = 69 := by decide +kernel
theorem d_P_door_69 : decode c_P_door 69 = .ok (.iload 5, 2) ∧ 69 + 2 = 71 := by decide +kernel
theorem d_P_door_71 : decode c_P_door 71 = .ok (.aload_n 0, 1) ∧ 71 + 1 = 72 := by decide +kernel
theorem d_P_door_72 : decode c_P_door 72 = .ok (.getfield 36, 3) ∧ 72 + 3 = 75 := by decide +kernel
theorem d_P_door_75 : decode c_P_door 75 = .ok (.getfield 240, 3) ∧ 75 + 3 = 78 := by decide +kernel
theorem d_P_door_78 : decode c_P_door 78 = .ok (.iload_n 3, 1) ∧ 78 + 1 = 79 := by decide +kernel
theorem d_P_door_79 : decode c_P_door 79 = .ok (.iaload, 1) ∧ 79 + 1 = 80 := by decide +kernel
theorem d_P_door_80 : decode c_P_door 80 = .ok (.invokevirtual 252, 3) ∧ 80 + 3 = 83 := by decide +kernel
theorem d_P_door_83 : decode c_P_door 83 = .ok (.ireturn, 1) ∧ 83 + 1 = 84 := by decide +kernel
set_option maxHeartbeats 4000000 in
theorem m_P_door {Z : Sy} {σ : St} {res : (Int32 × St)} {x1 : Int32} {x2 : Int32} {x3 : Int32} {x4 : Int32} {x5 : Int32} (hf : P_door x1 x2 x3 x4 x5 σ = some res) : Ct YC Z y_P_door c_P_door 6 (some .int) 3 [.ref (ya Z 0), .int x1, .int x2, .int x3, .int x4, .int x5] σ (some (.int res.1)) res.2 := by
  refine Ct.of pn_P (Nat.le_of_ble_eq_true rfl) rfl (fun Γ h => ?_)
  have h : IsG YC Z R_P c_P_door 6 3 (some .int) (some (.int res.1)) res.2 Γ := h
  unfold P_door at hf
  refine r_aload_n h d_P_door_0 0 rfl rfl ?_
  refine r_getR h fd_YC_0_0 cf_P fl_P_12 d_P_door_1 ?_
  refine r_iload_n h d_P_door_4 2 rfl rfl ?_
  obtain ⟨r5, e5, hf⟩ := q_bind hf
  refine r_callV (As := [.int x2]) (rest := []) h sh_YC_1 lk_P_116 vk_P_116 d_P_door_5 (by decide) rfl rfl (Nat.le_of_ble_eq_true rfl) (m_Roll_hasPlace e5) ?_
  refine r_bif_eq h d_P_door_8 hf (fun hf => ?_) (fun hf => ?_)
  · refine r_iconst h d_P_door_22 ki_m1 ?_
    exact r_ireturn h d_P_door_23.1 (q_p1 hf) (q_p2 hf)
  · refine r_aload_n h d_P_door_11 0 rfl rfl ?_
    refine r_getR h fd_YC_0_4 cf_P fl_P_36 d_P_door_12 ?_
    refine r_iload_n h d_P_door_15 3 rfl rfl ?_
    obtain ⟨r16, e16, hf⟩ := q_bind hf
    refine r_callV (As := [.int x3]) (rest := []) h sh_YC_21 lk_P_146 vk_P_146 d_P_door_16 (by decide) rfl rfl (Nat.le_of_ble_eq_true rfl) (m_Packs_has e16) ?_
    refine r_bif_ne h d_P_door_19 hf (fun hf => ?_) (fun hf => ?_)
    · refine r_iload_n h d_P_door_24 1 rfl rfl ?_
      refine r_iconst h d_P_door_25 ki_3 ?_
      obtain ⟨r26, e26, hf⟩ := q_bind hf
      refine r_callS (As := [.int x1, .int (3 : Int32)]) (rest := []) h lk_P_96 sk_P_96 d_P_door_26 (by decide) rfl rfl (Nat.le_of_ble_eq_true rfl) (m_P_isBelow e26) ?_
      refine r_bif_eq h d_P_door_29 hf (fun hf => ?_) (fun hf => ?_)
      · refine r_bipush h d_P_door_57 kb_m2 ?_
        exact r_ireturn h d_P_door_59.1 (q_p1 hf) (q_p2 hf)
      · refine r_iload h d_P_door_32 4 rfl ?_
        refine r_iconst h d_P_door_34 ki_1 ?_
        refine r_icmp_lt h d_P_door_35 hf (fun hf => ?_) (fun hf => ?_)
        · refine r_bipush h d_P_door_57 kb_m2 ?_
          exact r_ireturn h d_P_door_59.1 (q_p1 hf) (q_p2 hf)
        · refine r_iload h d_P_door_38 4 rfl ?_
          refine r_sipush h d_P_door_40 ks_9999 ?_
          refine r_icmp_gt h d_P_door_43 hf (fun hf => ?_) (fun hf => ?_)
          · refine r_bipush h d_P_door_57 kb_m2 ?_
            exact r_ireturn h d_P_door_59.1 (q_p1 hf) (q_p2 hf)
          · refine r_iload h d_P_door_46 5 rfl ?_
            refine r_sipush h d_P_door_48 ks_10000 ?_
            obtain ⟨r51, e51, hf⟩ := q_bind hf
            refine r_callS (As := [.int x5, .int (10000 : Int32)]) (rest := []) h lk_P_96 sk_P_96 d_P_door_51 (by decide) rfl rfl (Nat.le_of_ble_eq_true rfl) (m_P_isBelow e51) ?_
            refine r_bif_ne h d_P_door_54 hf (fun hf => ?_) (fun hf => ?_)
            · refine r_aload_n h d_P_door_60 0 rfl rfl ?_
              refine r_getR h fd_YC_0_8 cf_P fl_P_64 d_P_door_61 ?_
              refine r_iload_n h d_P_door_64 1 rfl rfl ?_
              refine r_iload_n h d_P_door_65 2 rfl rfl ?_
              refine r_iload_n h d_P_door_66 3 rfl rfl ?_
              refine r_iload h d_P_door_67 4 rfl ?_
              refine r_iload h d_P_door_69 5 rfl ?_
              refine r_aload_n h d_P_door_71 0 rfl rfl ?_
              refine r_getR h fd_YC_0_4 cf_P fl_P_36 d_P_door_72 ?_
              refine r_getR h fd_YC_21_1 cf_Packs fl_P_240 d_P_door_75 ?_
              refine r_iload_n h d_P_door_78 3 rfl rfl ?_
              refine r_iald h sh_YC_23 d_P_door_79 hf (fun hf => ?_)
              obtain ⟨q80, e80, hf⟩ := q_bind hf
              refine r_callV (As := [.int x1, .int x2, .int x3, .int x4, .int x5, .int (σ.1 23 (Int32.toNatClampNeg x3))]) (rest := []) h sh_YC_49 lk_P_252 vk_P_252 d_P_door_80 (by decide) rfl rfl (Nat.le_of_ble_eq_true rfl) (m_Debts_add e80) ?_
              exact r_ireturn h d_P_door_83.1 (q_p1 hf) (q_p2 hf)
            · refine r_bipush h d_P_door_57 kb_m2 ?_
              exact r_ireturn h d_P_door_59.1 (q_p1 hf) (q_p2 hf)
    · refine r_iconst h d_P_door_22 ki_m1 ?_
      exact r_ireturn h d_P_door_23.1 (q_p1 hf) (q_p2 hf)

theorem d_P_landOfDebt_0 : decode c_P_landOfDebt 0 = .ok (.aload_n 0, 1) ∧ 0 + 1 = 1 := by decide +kernel
theorem d_P_landOfDebt_1 : decode c_P_landOfDebt 1 = .ok (.getfield 64, 3) ∧ 1 + 3 = 4 := by decide +kernel
theorem d_P_landOfDebt_4 : decode c_P_landOfDebt 4 = .ok (.getfield 255, 3) ∧ 4 + 3 = 7 := by decide +kernel
theorem d_P_landOfDebt_7 : decode c_P_landOfDebt 7 = .ok (.iload_n 1, 1) ∧ 7 + 1 = 8 := by decide +kernel
theorem d_P_landOfDebt_8 : decode c_P_landOfDebt 8 = .ok (.iaload, 1) ∧ 8 + 1 = 9 := by decide +kernel
theorem d_P_landOfDebt_9 : decode c_P_landOfDebt 9 = .ok (.istore_n 2, 1) ∧ 9 + 1 = 10 := by decide +kernel
theorem d_P_landOfDebt_10 : decode c_P_landOfDebt 10 = .ok (.aload_n 0, 1) ∧ 10 + 1 = 11 := by decide +kernel
theorem d_P_landOfDebt_11 : decode c_P_landOfDebt 11 = .ok (.getfield 12, 3) ∧ 11 + 3 = 14 := by decide +kernel
theorem d_P_landOfDebt_14 : decode c_P_landOfDebt 14 = .ok (.iload_n 2, 1) ∧ 14 + 1 = 15 := by decide +kernel
theorem d_P_landOfDebt_15 : decode c_P_landOfDebt 15 = .ok (.invokevirtual 116, 3) ∧ 15 + 3 = 18 := by decide +kernel
theorem d_P_landOfDebt_18 : decode c_P_landOfDebt 18 = .ok (.ifCond .eq 15, 3) ∧ 18 + 3 = 21 ∧ ((18 : Nat) : Int) + 15 = ((33 : Nat) : Int) := by decide +kernel
theorem d_P_landOfDebt_21 : decode c_P_landOfDebt 21 = .ok (.aload_n 0, 1) ∧ 21 + 1 = 22 := by decide +kernel
theorem d_P_landOfDebt_22 : decode c_P_landOfDebt 22 = .ok (.getfield 12, 3) ∧ 22 + 3 = 25 := by decide +kernel
theorem d_P_landOfDebt_25 : decode c_P_landOfDebt 25 = .ok (.getfield 246, 3) ∧ 25 + 3 = 28 := by decide +kernel
theorem d_P_landOfDebt_28 : decode c_P_landOfDebt 28 = .ok (.iload_n 2, 1) ∧ 28 + 1 = 29 := by decide +kernel
theorem d_P_landOfDebt_29 : decode c_P_landOfDebt 29 = .ok (.iaload, 1) ∧ 29 + 1 = 30 := by decide +kernel
theorem d_P_landOfDebt_30 : decode c_P_landOfDebt 30 = .ok (.goto 5, 3) ∧ (30 : Int) + 5 = (35 : Int) := by decide +kernel
theorem d_P_landOfDebt_33 : decode c_P_landOfDebt 33 = .ok (.bipush (-9), 2) ∧ 33 + 2 = 35 := by decide +kernel
theorem d_P_landOfDebt_35 : decode c_P_landOfDebt 35 = .ok (.ireturn, 1) ∧ 35 + 1 = 36 := by decide +kernel
set_option maxHeartbeats 4000000 in
theorem m_P_landOfDebt {Z : Sy} {σ : St} {res : Int32} {x1 : Int32} (hf : P_landOfDebt x1 σ = some res) : Ct YC Z y_P_landOfDebt c_P_landOfDebt 3 (some .int) 3 [.ref (ya Z 0), .int x1] σ (some (.int res)) σ := by
  refine Ct.of pn_P (Nat.le_of_ble_eq_true rfl) rfl (fun Γ h => ?_)
  have h : IsG YC Z R_P c_P_landOfDebt 3 3 (some .int) (some (.int res)) σ Γ := h
  unfold P_landOfDebt at hf
  refine r_aload_n h d_P_landOfDebt_0 0 rfl rfl ?_
  refine r_getR h fd_YC_0_8 cf_P fl_P_64 d_P_landOfDebt_1 ?_
  refine r_getR h fd_YC_49_1 cf_Debts fl_P_255 d_P_landOfDebt_4 ?_
  refine r_iload_n h d_P_landOfDebt_7 1 rfl rfl ?_
  refine r_iald h sh_YC_51 d_P_landOfDebt_8 hf (fun hf => ?_)
  refine r_istore_n (ls' := [(2, .int (σ.1 51 (Int32.toNatClampNeg x1))), (0, .ref (ya Z 0)), (1, .int x1)]) h d_P_landOfDebt_9 rfl (by decide) rfl ?_
  refine r_aload_n h d_P_landOfDebt_10 1 rfl rfl ?_
  refine r_getR h fd_YC_0_0 cf_P fl_P_12 d_P_landOfDebt_11 ?_
  refine r_iload_n h d_P_landOfDebt_14 0 rfl rfl ?_
  obtain ⟨r15, e15, hf⟩ := q_bind hf
  refine r_callV (As := [.int (σ.1 51 (Int32.toNatClampNeg x1))]) (rest := []) h sh_YC_1 lk_P_116 vk_P_116 d_P_landOfDebt_15 (by decide) rfl rfl (Nat.le_of_ble_eq_true rfl) (m_Roll_hasPlace e15) ?_
  refine r_bif_eq h d_P_landOfDebt_18 hf (fun hf => ?_) (fun hf => ?_)
  · refine r_bipush h d_P_landOfDebt_33 kb_m9 ?_
    exact r_ireturn h d_P_landOfDebt_35.1 (Option.some.inj hf) rfl
  · refine r_aload_n h d_P_landOfDebt_21 1 rfl rfl ?_
    refine r_getR h fd_YC_0_0 cf_P fl_P_12 d_P_landOfDebt_22 ?_
    refine r_getR h fd_YC_1_0 cf_Roll fl_P_246 d_P_landOfDebt_25 ?_
    refine r_iload_n h d_P_landOfDebt_28 0 rfl rfl ?_
    refine r_iald h sh_YC_2 d_P_landOfDebt_29 hf (fun hf => ?_)
    refine r_goto h d_P_landOfDebt_30 ?_
    exact r_ireturn h d_P_landOfDebt_35.1 (Option.some.inj hf) rfl

theorem d_P_barredFrom_0 : decode c_P_barredFrom 0 = .ok (.aload_n 0, 1) ∧ 0 + 1 = 1 := by decide +kernel
theorem d_P_barredFrom_1 : decode c_P_barredFrom 1 = .ok (.getfield 57, 3) ∧ 1 + 3 = 4 := by decide +kernel
theorem d_P_barredFrom_4 : decode c_P_barredFrom 4 = .ok (.iconst 2, 1) ∧ 4 + 1 = 5 := by decide +kernel
theorem d_P_barredFrom_5 : decode c_P_barredFrom 5 = .ok (.aload_n 0, 1) ∧ 5 + 1 = 6 := by decide +kernel
theorem d_P_barredFrom_6 : decode c_P_barredFrom 6 = .ok (.iload_n 1, 1) ∧ 6 + 1 = 7 := by decide +kernel
theorem d_P_barredFrom_7 : decode c_P_barredFrom 7 = .ok (.invokevirtual 270, 3) ∧ 7 + 3 = 10 := by decide +kernel
theorem d_P_barredFrom_10 : decode c_P_barredFrom 10 = .ok (.aload_n 0, 1) ∧ 10 + 1 = 11 := by decide +kernel
theorem d_P_barredFrom_11 : decode c_P_barredFrom 11 = .ok (.getfield 64, 3) ∧ 11 + 3 = 14 := by decide +kernel
theorem d_P_barredFrom_14 : decode c_P_barredFrom 14 = .ok (.getfield 260, 3) ∧ 14 + 3 = 17 := by decide +kernel
theorem d_P_barredFrom_17 : decode c_P_barredFrom 17 = .ok (.iload_n 1, 1) ∧ 17 + 1 = 18 := by decide +kernel
theorem d_P_barredFrom_18 : decode c_P_barredFrom 18 = .ok (.iaload, 1) ∧ 18 + 1 = 19 := by decide +kernel
theorem d_P_barredFrom_19 : decode c_P_barredFrom 19 = .ok (.invokevirtual 225, 3) ∧ 19 + 3 = 22 := by decide +kernel
theorem d_P_barredFrom_22 : decode c_P_barredFrom 22 = .ok (.istore_n 2, 1) ∧ 22 + 1 = 23 := by decide +kernel
theorem d_P_barredFrom_23 : decode c_P_barredFrom 23 = .ok (.iload_n 2, 1) ∧ 23 + 1 = 24 := by decide +kernel
theorem d_P_barredFrom_24 : decode c_P_barredFrom 24 = .ok (.ifCond .ne 8, 3) ∧ 24 + 3 = 27 ∧ ((24 : Nat) : Int) + 8 = ((32 : Nat) : Int) := by decide +kernel
theorem d_P_barredFrom_27 : decode c_P_barredFrom 27 = .ok (.bipush (-9), 2) ∧ 27 + 2 = 29 := by decide +kernel
theorem d_P_barredFrom_29 : decode c_P_barredFrom 29 = .ok (.goto 14, 3) ∧ (29 : Int) + 14 = (43 : Int) := by decide +kernel
theorem d_P_barredFrom_32 : decode c_P_barredFrom 32 = .ok (.aload_n 0, 1) ∧ 32 + 1 = 33 := by decide +kernel
theorem d_P_barredFrom_33 : decode c_P_barredFrom 33 = .ok (.getfield 64, 3) ∧ 33 + 3 = 36 := by decide +kernel
theorem d_P_barredFrom_36 : decode c_P_barredFrom 36 = .ok (.getfield 260, 3) ∧ 36 + 3 = 39 := by decide +kernel
theorem d_P_barredFrom_39 : decode c_P_barredFrom 39 = .ok (.iload_n 1, 1) ∧ 39 + 1 = 40 := by decide +kernel
theorem d_P_barredFrom_40 : decode c_P_barredFrom 40 = .ok (.iaload, 1) ∧ 40 + 1 = 41 := by decide +kernel
theorem d_P_barredFrom_41 : decode c_P_barredFrom 41 = .ok (.iload_n 2, 1) ∧ 41 + 1 = 42 := by decide +kernel
theorem d_P_barredFrom_42 : decode c_P_barredFrom 42 = .ok (.iadd, 1) ∧ 42 + 1 = 43 := by decide +kernel
theorem d_P_barredFrom_43 : decode c_P_barredFrom 43 = .ok (.ireturn, 1) ∧ 43 + 1 = 44 := by decide +kernel
set_option maxHeartbeats 4000000 in
theorem m_P_barredFrom {Z : Sy} {σ : St} {res : Int32} {x1 : Int32} (hf : P_barredFrom x1 σ = some res) : Ct YC Z y_P_barredFrom c_P_barredFrom 3 (some .int) 4 [.ref (ya Z 0), .int x1] σ (some (.int res)) σ := by
  refine Ct.of pn_P (Nat.le_of_ble_eq_true rfl) rfl (fun Γ h => ?_)
  have h : IsG YC Z R_P c_P_barredFrom 3 4 (some .int) (some (.int res)) σ Γ := h
  unfold P_barredFrom at hf
  refine r_aload_n h d_P_barredFrom_0 0 rfl rfl ?_
  refine r_getR h fd_YC_0_7 cf_P fl_P_57 d_P_barredFrom_1 ?_
  refine r_iconst h d_P_barredFrom_4 ki_2 ?_
  refine r_aload_n h d_P_barredFrom_5 0 rfl rfl ?_
  refine r_iload_n h d_P_barredFrom_6 1 rfl rfl ?_
  obtain ⟨r7, e7, hf⟩ := q_bind hf
  refine r_callV (As := [.int x1]) (rest := [.int (2 : Int32), .ref (ya Z 40)]) h sh_YC_0 lk_P_270 vk_P_270 d_P_barredFrom_7 (by decide) rfl rfl (Nat.le_of_ble_eq_true rfl) (m_P_landOfDebt e7) ?_
  refine r_aload_n h d_P_barredFrom_10 0 rfl rfl ?_
  refine r_getR h fd_YC_0_8 cf_P fl_P_64 d_P_barredFrom_11 ?_
  refine r_getR h fd_YC_49_4 cf_Debts fl_P_260 d_P_barredFrom_14 ?_
  refine r_iload_n h d_P_barredFrom_17 1 rfl rfl ?_
  refine r_iald h sh_YC_54 d_P_barredFrom_18 hf (fun hf => ?_)
  obtain ⟨r19, e19, hf⟩ := q_bind hf
  refine r_callV (As := [.int (2 : Int32), .int r7, .int (σ.1 54 (Int32.toNatClampNeg x1))]) (rest := []) h sh_YC_40 lk_P_225 vk_P_225 d_P_barredFrom_19 (by decide) rfl rfl (Nat.le_of_ble_eq_true rfl) (m_Texts_valueIn e19) ?_
  refine r_istore_n (ls' := [(2, .int r19), (0, .ref (ya Z 0)), (1, .int x1)]) h d_P_barredFrom_22 rfl (by decide) rfl ?_
  refine r_iload_n h d_P_barredFrom_23 0 rfl rfl ?_
  refine r_if_ne h d_P_barredFrom_24 hf (fun hf => ?_) (fun hf => ?_)
  · refine r_aload_n h d_P_barredFrom_32 1 rfl rfl ?_
    refine r_getR h fd_YC_0_8 cf_P fl_P_64 d_P_barredFrom_33 ?_
    refine r_getR h fd_YC_49_4 cf_Debts fl_P_260 d_P_barredFrom_36 ?_
    refine r_iload_n h d_P_barredFrom_39 2 rfl rfl ?_
    refine r_iald h sh_YC_54 d_P_barredFrom_40 hf (fun hf => ?_)
    refine r_iload_n h d_P_barredFrom_41 0 rfl rfl ?_
    refine r_iadd h d_P_barredFrom_42 ?_
    exact r_ireturn h d_P_barredFrom_43.1 (Option.some.inj hf) rfl
  · refine r_bipush h d_P_barredFrom_27 kb_m9 ?_
    refine r_goto h d_P_barredFrom_29 ?_
    exact r_ireturn h d_P_barredFrom_43.1 (Option.some.inj hf) rfl

theorem d_P_due_0 : decode c_P_due 0 = .ok (.iload_n 1, 1) ∧ 0 + 1 = 1 := by decide +kernel
theorem d_P_due_1 : decode c_P_due 1 = .ok (.aload_n 0, 1) ∧ 1 + 1 = 2 := by decide +kernel
theorem d_P_due_2 : decode c_P_due 2 = .ok (.getfield 64, 3) ∧ 2 + 3 = 5 := by decide +kernel
theorem d_P_due_5 : decode c_P_due 5 = .ok (.getfield 253, 3) ∧ 5 + 3 = 8 := by decide +kernel
theorem d_P_due_8 : decode c_P_due 8 = .ok (.invokestatic 96, 3) ∧ 8 + 3 = 11 := by decide +kernel
theorem d_P_due_11 : decode c_P_due 11 = .ok (.ifCond .ne 5, 3) ∧ 11 + 3 = 14 ∧ ((11 : Nat) : Int) + 5 = ((16 : Nat) : Int) := by decide +kernel
theorem d_P_due_14 : decode c_P_due 14 = .ok (.iconst (-1), 1) ∧ 14 + 1 = 15 := by decide +kernel
theorem d_P_due_15 : decode c_P_due 15 = .ok (.ireturn, 1) ∧ 15 + 1 = 16 := by decide +kernel
theorem d_P_due_16 : decode c_P_due 16 = .ok (.iload_n 2, 1) ∧ 16 + 1 = 17 := by decide +kernel
theorem d_P_due_17 : decode c_P_due 17 = .ok (.tableswitch 123 0 7 #[47, 57, 67, 77, 87, 97, 103, 113], 47) ∧ 17 + 47 = 64 := by decide +kernel
theorem d_P_due_64 : decode c_P_due 64 = .ok (.aload_n 0, 1) ∧ 64 + 1 = 65 := by decide +kernel
theorem d_P_due_65 : decode c_P_due 65 = .ok (.getfield 64, 3) ∧ 65 + 3 = 68 := by decide +kernel
theorem d_P_due_68 : decode c_P_due 68 = .ok (.getfield 254, 3) ∧ 68 + 3 = 71 := by decide +kernel
theorem d_P_due_71 : decode c_P_due 71 = .ok (.iload_n 1, 1) ∧ 71 + 1 = 72 := by decide +kernel
theorem d_P_due_72 : decode c_P_due 72 = .ok (.iaload, 1) ∧ 72 + 1 = 73 := by decide +kernel
theorem d_P_due_73 : decode c_P_due 73 = .ok (.ireturn, 1) ∧ 73 + 1 = 74 := by decide +kernel
theorem d_P_due_74 : decode c_P_due 74 = .ok (.aload_n 0, 1) ∧ 74 + 1 = 75 := by decide +kernel
theorem d_P_due_75 : decode c_P_due 75 = .ok (.getfield 64, 3) ∧ 75 + 3 = 78 := by decide +kernel
theorem d_P_due_78 : decode c_P_due 78 = .ok (.getfield 255, 3) ∧ 78 + 3 = 81 := by decide +kernel
theorem d_P_due_81 : decode c_P_due 81 = .ok (.iload_n 1, 1) ∧ 81 + 1 = 82 := by decide +kernel
theorem d_P_due_82 : decode c_P_due 82 = .ok (.iaload, 1) ∧ 82 + 1 = 83 := by decide +kernel
theorem d_P_due_83 : decode c_P_due 83 = .ok (.ireturn, 1) ∧ 83 + 1 = 84 := by decide +kernel
theorem d_P_due_84 : decode c_P_due 84 = .ok (.aload_n 0, 1) ∧ 84 + 1 = 85 := by decide +kernel
theorem d_P_due_85 : decode c_P_due 85 = .ok (.getfield 64, 3) ∧ 85 + 3 = 88 := by decide +kernel
theorem d_P_due_88 : decode c_P_due 88 = .ok (.getfield 258, 3) ∧ 88 + 3 = 91 := by decide +kernel
theorem d_P_due_91 : decode c_P_due 91 = .ok (.iload_n 1, 1) ∧ 91 + 1 = 92 := by decide +kernel
theorem d_P_due_92 : decode c_P_due 92 = .ok (.iaload, 1) ∧ 92 + 1 = 93 := by decide +kernel
theorem d_P_due_93 : decode c_P_due 93 = .ok (.ireturn, 1) ∧ 93 + 1 = 94 := by decide +kernel
theorem d_P_due_94 : decode c_P_due 94 = .ok (.aload_n 0, 1) ∧ 94 + 1 = 95 := by decide +kernel
theorem d_P_due_95 : decode c_P_due 95 = .ok (.getfield 64, 3) ∧ 95 + 3 = 98 := by decide +kernel
theorem d_P_due_98 : decode c_P_due 98 = .ok (.getfield 259, 3) ∧ 98 + 3 = 101 := by decide +kernel
theorem d_P_due_101 : decode c_P_due 101 = .ok (.iload_n 1, 1) ∧ 101 + 1 = 102 := by decide +kernel
theorem d_P_due_102 : decode c_P_due 102 = .ok (.iaload, 1) ∧ 102 + 1 = 103 := by decide +kernel
theorem d_P_due_103 : decode c_P_due 103 = .ok (.ireturn, 1) ∧ 103 + 1 = 104 := by decide +kernel
theorem d_P_due_104 : decode c_P_due 104 = .ok (.aload_n 0, 1) ∧ 104 + 1 = 105 := by decide +kernel
theorem d_P_due_105 : decode c_P_due 105 = .ok (.getfield 64, 3) ∧ 105 + 3 = 108 := by decide +kernel
theorem d_P_due_108 : decode c_P_due 108 = .ok (.getfield 260, 3) ∧ 108 + 3 = 111 := by decide +kernel
theorem d_P_due_111 : decode c_P_due 111 = .ok (.iload_n 1, 1) ∧ 111 + 1 = 112 := by decide +kernel
theorem d_P_due_112 : decode c_P_due 112 = .ok (.iaload, 1) ∧ 112 + 1 = 113 := by decide +kernel
theorem d_P_due_113 : decode c_P_due 113 = .ok (.ireturn, 1) ∧ 113 + 1 = 114 := by decide +kernel
theorem d_P_due_114 : decode c_P_due 114 = .ok (.aload_n 0, 1) ∧ 114 + 1 = 115 := by decide +kernel
theorem d_P_due_115 : decode c_P_due 115 = .ok (.iload_n 1, 1) ∧ 115 + 1 = 116 := by decide +kernel
theorem d_P_due_116 : decode c_P_due 116 = .ok (.invokevirtual 261, 3) ∧ 116 + 3 = 119 := by decide +kernel
theorem d_P_due_119 : decode c_P_due 119 = .ok (.ireturn, 1) ∧ 119 + 1 = 120 := by decide +kernel
theorem d_P_due_120 : decode c_P_due 120 = .ok (.aload_n 0, 1) ∧ 120 + 1 = 121 := by decide +kernel
theorem d_P_due_121 : decode c_P_due 121 = .ok (.getfield 64, 3) ∧ 121 + 3 = 124 := by decide +kernel
theorem d_P_due_124 : decode c_P_due 124 = .ok (.getfield 264, 3) ∧ 124 + 3 = 127 := by decide +kernel
theorem d_P_due_127 : decode c_P_due 127 = .ok (.iload_n 1, 1) ∧ 127 + 1 = 128 := by decide +kernel
theorem d_P_due_128 : decode c_P_due 128 = .ok (.iaload, 1) ∧ 128 + 1 = 129 := by decide +kernel
theorem d_P_due_129 : decode c_P_due 129 = .ok (.ireturn, 1) ∧ 129 + 1 = 130 := by decide +kernel
theorem d_P_due_130 : decode c_P_due 130 = .ok (.aload_n 0, 1) ∧ 130 + 1 = 131 := by decide +kernel
theorem d_P_due_131 : decode c_P_due 131 = .ok (.getfield 64, 3) ∧ 131 + 3 = 134 := by decide +kernel
theorem d_P_due_134 : decode c_P_due 134 = .ok (.getfield 267, 3) ∧ 134 + 3 = 137 := by decide +kernel
theorem d_P_due_137 : decode c_P_due 137 = .ok (.iload_n 1, 1) ∧ 137 + 1 = 138 := by decide +kernel
theorem d_P_due_138 : decode c_P_due 138 = .ok (.iaload, 1) ∧ 138 + 1 = 139 := by decide +kernel
theorem d_P_due_139 : decode c_P_due 139 = .ok (.ireturn, 1) ∧ 139 + 1 = 140 := by decide +kernel
theorem d_P_due_140 : decode c_P_due 140 = .ok (.bipush (-2), 2) ∧ 140 + 2 = 142 := by decide +kernel
theorem d_P_due_142 : decode c_P_due 142 = .ok (.ireturn, 1) ∧ 142 + 1 = 143 := by decide +kernel
set_option maxHeartbeats 4000000 in
theorem m_P_due {Z : Sy} {σ : St} {res : Int32} {x1 : Int32} {x2 : Int32} (hf : P_due x1 x2 σ = some res) : Ct YC Z y_P_due c_P_due 3 (some .int) 5 [.ref (ya Z 0), .int x1, .int x2] σ (some (.int res)) σ := by
  refine Ct.of pn_P (Nat.le_of_ble_eq_true rfl) rfl (fun Γ h => ?_)
  have h : IsG YC Z R_P c_P_due 3 5 (some .int) (some (.int res)) σ Γ := h
  unfold P_due at hf
  refine r_iload_n h d_P_due_0 1 rfl rfl ?_
  refine r_aload_n h d_P_due_1 0 rfl rfl ?_
  refine r_getR h fd_YC_0_8 cf_P fl_P_64 d_P_due_2 ?_
  refine r_getI h fd_YC_49_7 cf_Debts fl_P_253 d_P_due_5 ?_
  obtain ⟨r8, e8, hf⟩ := q_bind hf
  refine r_callS (As := [.int x1, .int (σ.1 49 7)]) (rest := []) h lk_P_96 sk_P_96 d_P_due_8 (by decide) rfl rfl (Nat.le_of_ble_eq_true rfl) (m_P_isBelow e8) ?_
  refine r_bif_ne h d_P_due_11 hf (fun hf => ?_) (fun hf => ?_)
  · refine r_iload_n h d_P_due_16 2 rfl rfl ?_
    refine q_case hf (fun hq hf => ?_) (fun hn0 hf => ?_)
    · refine r_tab (tgt := 64) (off := 47) h (0 : Int32) hq d_P_due_17.1 (by decide) ?_
      refine r_aload_n h d_P_due_64 0 rfl rfl ?_
      refine r_getR h fd_YC_0_8 cf_P fl_P_64 d_P_due_65 ?_
      refine r_getR h fd_YC_49_0 cf_Debts fl_P_254 d_P_due_68 ?_
      refine r_iload_n h d_P_due_71 1 rfl rfl ?_
      refine r_iald h sh_YC_50 d_P_due_72 hf (fun hf => ?_)
      exact r_ireturn h d_P_due_73.1 (Option.some.inj hf) rfl
    ·
      refine q_case hf (fun hq hf => ?_) (fun hn1 hf => ?_)
      · refine r_tab (tgt := 74) (off := 57) h (1 : Int32) hq d_P_due_17.1 (by decide) ?_
        refine r_aload_n h d_P_due_74 0 rfl rfl ?_
        refine r_getR h fd_YC_0_8 cf_P fl_P_64 d_P_due_75 ?_
        refine r_getR h fd_YC_49_1 cf_Debts fl_P_255 d_P_due_78 ?_
        refine r_iload_n h d_P_due_81 1 rfl rfl ?_
        refine r_iald h sh_YC_51 d_P_due_82 hf (fun hf => ?_)
        exact r_ireturn h d_P_due_83.1 (Option.some.inj hf) rfl
      ·
        refine q_case hf (fun hq hf => ?_) (fun hn2 hf => ?_)
        · refine r_tab (tgt := 84) (off := 67) h (2 : Int32) hq d_P_due_17.1 (by decide) ?_
          refine r_aload_n h d_P_due_84 0 rfl rfl ?_
          refine r_getR h fd_YC_0_8 cf_P fl_P_64 d_P_due_85 ?_
          refine r_getR h fd_YC_49_2 cf_Debts fl_P_258 d_P_due_88 ?_
          refine r_iload_n h d_P_due_91 1 rfl rfl ?_
          refine r_iald h sh_YC_52 d_P_due_92 hf (fun hf => ?_)
          exact r_ireturn h d_P_due_93.1 (Option.some.inj hf) rfl
        ·
          refine q_case hf (fun hq hf => ?_) (fun hn3 hf => ?_)
          · refine r_tab (tgt := 94) (off := 77) h (3 : Int32) hq d_P_due_17.1 (by decide) ?_
            refine r_aload_n h d_P_due_94 0 rfl rfl ?_
            refine r_getR h fd_YC_0_8 cf_P fl_P_64 d_P_due_95 ?_
            refine r_getR h fd_YC_49_3 cf_Debts fl_P_259 d_P_due_98 ?_
            refine r_iload_n h d_P_due_101 1 rfl rfl ?_
            refine r_iald h sh_YC_53 d_P_due_102 hf (fun hf => ?_)
            exact r_ireturn h d_P_due_103.1 (Option.some.inj hf) rfl
          ·
            refine q_case hf (fun hq hf => ?_) (fun hn4 hf => ?_)
            · refine r_tab (tgt := 104) (off := 87) h (4 : Int32) hq d_P_due_17.1 (by decide) ?_
              refine r_aload_n h d_P_due_104 0 rfl rfl ?_
              refine r_getR h fd_YC_0_8 cf_P fl_P_64 d_P_due_105 ?_
              refine r_getR h fd_YC_49_4 cf_Debts fl_P_260 d_P_due_108 ?_
              refine r_iload_n h d_P_due_111 1 rfl rfl ?_
              refine r_iald h sh_YC_54 d_P_due_112 hf (fun hf => ?_)
              exact r_ireturn h d_P_due_113.1 (Option.some.inj hf) rfl
            ·
              refine q_case hf (fun hq hf => ?_) (fun hn5 hf => ?_)
              · refine r_tab (tgt := 114) (off := 97) h (5 : Int32) hq d_P_due_17.1 (by decide) ?_
                refine r_aload_n h d_P_due_114 0 rfl rfl ?_
                refine r_iload_n h d_P_due_115 1 rfl rfl ?_
                obtain ⟨r116, e116, hf⟩ := q_bind hf
                refine r_callV (As := [.int x1]) (rest := []) h sh_YC_0 lk_P_261 vk_P_261 d_P_due_116 (by decide) rfl rfl (Nat.le_of_ble_eq_true rfl) (m_P_barredFrom e116) ?_
                exact r_ireturn h d_P_due_119.1 (Option.some.inj hf) rfl
              ·
                refine q_case hf (fun hq hf => ?_) (fun hn6 hf => ?_)
                · refine r_tab (tgt := 120) (off := 103) h (6 : Int32) hq d_P_due_17.1 (by decide) ?_
                  refine r_aload_n h d_P_due_120 0 rfl rfl ?_
                  refine r_getR h fd_YC_0_8 cf_P fl_P_64 d_P_due_121 ?_
                  refine r_getR h fd_YC_49_5 cf_Debts fl_P_264 d_P_due_124 ?_
                  refine r_iload_n h d_P_due_127 1 rfl rfl ?_
                  refine r_iald h sh_YC_55 d_P_due_128 hf (fun hf => ?_)
                  exact r_ireturn h d_P_due_129.1 (Option.some.inj hf) rfl
                ·
                  refine q_case hf (fun hq hf => ?_) (fun hn7 hf => ?_)
                  · refine r_tab (tgt := 130) (off := 113) h (7 : Int32) hq d_P_due_17.1 (by decide) ?_
                    refine r_aload_n h d_P_due_130 0 rfl rfl ?_
                    refine r_getR h fd_YC_0_8 cf_P fl_P_64 d_P_due_131 ?_
                    refine r_getR h fd_YC_49_6 cf_Debts fl_P_267 d_P_due_134 ?_
                    refine r_iload_n h d_P_due_137 1 rfl rfl ?_
                    refine r_iald h sh_YC_56 d_P_due_138 hf (fun hf => ?_)
                    exact r_ireturn h d_P_due_139.1 (Option.some.inj hf) rfl
                  ·
                    have g0 := q_neI hn0
                    have g1 := q_neI hn1
                    have g2 := q_neI hn2
                    have g3 := q_neI hn3
                    have g4 := q_neI hn4
                    have g5 := q_neI hn5
                    have g6 := q_neI hn6
                    have g7 := q_neI hn7
                    refine r_tabD (tgt := 140) h d_P_due_17.1 (by simp at g0 g1 g2 g3 g4 g5 g6 g7; omega) (by decide) ?_
                    refine r_bipush h d_P_due_140 kb_m2 ?_
                    exact r_ireturn h d_P_due_142.1 (Option.some.inj hf) rfl
  · refine r_iconst h d_P_due_14 ki_m1 ?_
    exact r_ireturn h d_P_due_15.1 (Option.some.inj hf) rfl

theorem d_P_isBarred_0 : decode c_P_isBarred 0 = .ok (.aload_n 0, 1) ∧ 0 + 1 = 1 := by decide +kernel
theorem d_P_isBarred_1 : decode c_P_isBarred 1 = .ok (.iload_n 1, 1) ∧ 1 + 1 = 2 := by decide +kernel
theorem d_P_isBarred_2 : decode c_P_isBarred 2 = .ok (.invokevirtual 261, 3) ∧ 2 + 3 = 5 := by decide +kernel
theorem d_P_isBarred_5 : decode c_P_isBarred 5 = .ok (.istore_n 3, 1) ∧ 5 + 1 = 6 := by decide +kernel
theorem d_P_isBarred_6 : decode c_P_isBarred 6 = .ok (.iload_n 3, 1) ∧ 6 + 1 = 7 := by decide +kernel
theorem d_P_isBarred_7 : decode c_P_isBarred 7 = .ok (.bipush (-9), 2) ∧ 7 + 2 = 9 := by decide +kernel
theorem d_P_isBarred_9 : decode c_P_isBarred 9 = .ok (.if_icmp .eq 12, 3) ∧ 9 + 3 = 12 ∧ ((9 : Nat) : Int) + 12 = ((21 : Nat) : Int) := by decide +kernel
theorem d_P_isBarred_12 : decode c_P_isBarred 12 = .ok (.iload_n 2, 1) ∧ 12 + 1 = 13 := by decide +kernel
theorem d_P_isBarred_13 : decode c_P_isBarred 13 = .ok (.iload_n 3, 1) ∧ 13 + 1 = 14 := by decide +kernel
theorem d_P_isBarred_14 : decode c_P_isBarred 14 = .ok (.if_icmp .lt 7, 3) ∧ 14 + 3 = 17 ∧ ((14 : Nat) : Int) + 7 = ((21 : Nat) : Int) := by decide +kernel
theorem d_P_isBarred_17 : decode c_P_isBarred 17 = .ok (.iconst 1, 1) ∧ 17 + 1 = 18 := by decide +kernel
theorem d_P_isBarred_18 : decode c_P_isBarred 18 = .ok (.goto 4, 3) ∧ (18 : Int) + 4 = (22 : Int) := by decide +kernel
theorem d_P_isBarred_21 : decode c_P_isBarred 21 = .ok (.iconst 0, 1) ∧ 21 + 1 = 22 := by decide +kernel
theorem d_P_isBarred_22 : decode c_P_isBarred 22 = .ok (.ireturn, 1) ∧ 22 + 1 = 23 := by decide +kernel
set_option maxHeartbeats 4000000 in
theorem m_P_isBarred {Z : Sy} {σ : St} {res : Bool} {x1 : Int32} {x2 : Int32} (hf : P_isBarred x1 x2 σ = some res) : Ct YC Z y_P_isBarred c_P_isBarred 4 (some .boolean) 5 [.ref (ya Z 0), .int x1, .int x2] σ (some (.int (bi res))) σ := by
  refine Ct.of pn_P (Nat.le_of_ble_eq_true rfl) rfl (fun Γ h => ?_)
  have h : IsG YC Z R_P c_P_isBarred 4 5 (some .boolean) (some (.int (bi res))) σ Γ := h
  unfold P_isBarred at hf
  refine r_aload_n h d_P_isBarred_0 0 rfl rfl ?_
  refine r_iload_n h d_P_isBarred_1 1 rfl rfl ?_
  obtain ⟨r2, e2, hf⟩ := q_bind hf
  refine r_callV (As := [.int x1]) (rest := []) h sh_YC_0 lk_P_261 vk_P_261 d_P_isBarred_2 (by decide) rfl rfl (Nat.le_of_ble_eq_true rfl) (m_P_barredFrom e2) ?_
  refine r_istore_n (ls' := [(3, .int r2), (0, .ref (ya Z 0)), (1, .int x1), (2, .int x2)]) h d_P_isBarred_5 rfl (by decide) rfl ?_
  refine r_iload_n h d_P_isBarred_6 0 rfl rfl ?_
  refine r_bipush h d_P_isBarred_7 kb_m9 ?_
  refine r_icmp_eq h d_P_isBarred_9 hf (fun hf => ?_) (fun hf => ?_)
  · refine r_iconst h d_P_isBarred_21 ki_0 ?_
    exact r_zreturn h d_P_isBarred_22.1 ((show (0 : Int32) = bi false from rfl).trans (congrArg bi (Option.some.inj hf))) rfl
  · refine r_iload_n h d_P_isBarred_12 3 rfl rfl ?_
    refine r_iload_n h d_P_isBarred_13 0 rfl rfl ?_
    refine r_icmp_lt h d_P_isBarred_14 hf (fun hf => ?_) (fun hf => ?_)
    · refine r_iconst h d_P_isBarred_21 ki_0 ?_
      exact r_zreturn h d_P_isBarred_22.1 ((show (0 : Int32) = bi false from rfl).trans (congrArg bi (Option.some.inj hf))) rfl
    · refine r_iconst h d_P_isBarred_17 ki_1 ?_
      refine r_goto h d_P_isBarred_18 ?_
      exact r_zreturn h d_P_isBarred_22.1 ((show (1 : Int32) = bi true from rfl).trans (congrArg bi (Option.some.inj hf))) rfl

theorem d_Debts_left_0 : decode c_Debts_left 0 = .ok (.aload_n 0, 1) ∧ 0 + 1 = 1 := by decide +kernel
theorem d_Debts_left_1 : decode c_Debts_left 1 = .ok (.getfield 21, 3) ∧ 1 + 3 = 4 := by decide +kernel
theorem d_Debts_left_4 : decode c_Debts_left 4 = .ok (.iload_n 1, 1) ∧ 4 + 1 = 5 := by decide +kernel
theorem d_Debts_left_5 : decode c_Debts_left 5 = .ok (.iaload, 1) ∧ 5 + 1 = 6 := by decide +kernel
theorem d_Debts_left_6 : decode c_Debts_left 6 = .ok (.aload_n 0, 1) ∧ 6 + 1 = 7 := by decide +kernel
theorem d_Debts_left_7 : decode c_Debts_left 7 = .ok (.getfield 27, 3) ∧ 7 + 3 = 10 := by decide +kernel
theorem d_Debts_left_10 : decode c_Debts_left 10 = .ok (.iload_n 1, 1) ∧ 10 + 1 = 11 := by decide +kernel
theorem d_Debts_left_11 : decode c_Debts_left 11 = .ok (.iaload, 1) ∧ 11 + 1 = 12 := by decide +kernel
theorem d_Debts_left_12 : decode c_Debts_left 12 = .ok (.isub, 1) ∧ 12 + 1 = 13 := by decide +kernel
theorem d_Debts_left_13 : decode c_Debts_left 13 = .ok (.ireturn, 1) ∧ 13 + 1 = 14 := by decide +kernel
set_option maxHeartbeats 4000000 in
theorem m_Debts_left {Z : Sy} {σ : St} {res : Int32} {x1 : Int32} (hf : Debts_left x1 σ = some res) : Ct YC Z y_Debts_left c_Debts_left 2 (some .int) 1 [.ref (ya Z 49), .int x1] σ (some (.int res)) σ := by
  refine Ct.of pn_Debts (Nat.le_of_ble_eq_true rfl) rfl (fun Γ h => ?_)
  have h : IsG YC Z R_Debts c_Debts_left 2 1 (some .int) (some (.int res)) σ Γ := h
  unfold Debts_left at hf
  refine r_aload_n h d_Debts_left_0 0 rfl rfl ?_
  refine r_getR h fd_YC_49_3 cf_Debts fl_Debts_21 d_Debts_left_1 ?_
  refine r_iload_n h d_Debts_left_4 1 rfl rfl ?_
  refine r_iald h sh_YC_53 d_Debts_left_5 hf (fun hf => ?_)
  refine r_aload_n h d_Debts_left_6 0 rfl rfl ?_
  refine r_getR h fd_YC_49_5 cf_Debts fl_Debts_27 d_Debts_left_7 ?_
  refine r_iload_n h d_Debts_left_10 1 rfl rfl ?_
  refine r_iald h sh_YC_55 d_Debts_left_11 hf (fun hf => ?_)
  refine r_isub h d_Debts_left_12 ?_
  exact r_ireturn h d_Debts_left_13.1 (Option.some.inj hf) rfl

theorem d_P_paid_0 : decode c_P_paid 0 = .ok (.iload_n 1, 1) ∧ 0 + 1 = 1 := by decide +kernel
theorem d_P_paid_1 : decode c_P_paid 1 = .ok (.aload_n 0, 1) ∧ 1 + 1 = 2 := by decide +kernel
theorem d_P_paid_2 : decode c_P_paid 2 = .ok (.getfield 64, 3) ∧ 2 + 3 = 5 := by decide +kernel
theorem d_P_paid_5 : decode c_P_paid 5 = .ok (.getfield 253, 3) ∧ 5 + 3 = 8 := by decide +kernel
theorem d_P_paid_8 : decode c_P_paid 8 = .ok (.invokestatic 96, 3) ∧ 8 + 3 = 11 := by decide +kernel
theorem d_P_paid_11 : decode c_P_paid 11 = .ok (.ifCond .ne 5, 3) ∧ 11 + 3 = 14 ∧ ((11 : Nat) : Int) + 5 = ((16 : Nat) : Int) := by decide +kernel
theorem d_P_paid_14 : decode c_P_paid 14 = .ok (.iconst (-1), 1) ∧ 14 + 1 = 15 := by decide +kernel
theorem d_P_paid_15 : decode c_P_paid 15 = .ok (.ireturn, 1) ∧ 15 + 1 = 16 := by decide +kernel
theorem d_P_paid_16 : decode c_P_paid 16 = .ok (.iload_n 2, 1) ∧ 16 + 1 = 17 := by decide +kernel
theorem d_P_paid_17 : decode c_P_paid 17 = .ok (.iconst 1, 1) ∧ 17 + 1 = 18 := by decide +kernel
theorem d_P_paid_18 : decode c_P_paid 18 = .ok (.if_icmp .lt 13, 3) ∧ 18 + 3 = 21 ∧ ((18 : Nat) : Int) + 13 = ((31 : Nat) : Int) := by decide +kernel
theorem d_P_paid_21 : decode c_P_paid 21 = .ok (.iload_n 3, 1) ∧ 21 + 1 = 22 := by decide +kernel
theorem d_P_paid_22 : decode c_P_paid 22 = .ok (.sipush 10000, 3) ∧ 22 + 3 = 25 := by decide +kernel
theorem d_P_paid_25 : decode c_P_paid 25 = .ok (.invokestatic 96, 3) ∧ 25 + 3 = 28 := by decide +kernel
theorem d_P_paid_28 : decode c_P_paid 28 = .ok (.ifCond .ne 6, 3) ∧ 28 + 3 = 31 ∧ ((28 : Nat) : Int) + 6 = ((34 : Nat) : Int) := by decide +kernel
theorem d_P_paid_31 : decode c_P_paid 31 = .ok (.bipush (-2), 2) ∧ 31 + 2 = 33 := by decide +kernel
theorem d_P_paid_33 : decode c_P_paid 33 = .ok (.ireturn, 1) ∧ 33 + 1 = 34 := by decide +kernel
theorem d_P_paid_34 : decode c_P_paid 34 = .ok (.aload_n 0, 1) ∧ 34 + 1 = 35 := by decide +kernel
theorem d_P_paid_35 : decode c_P_paid 35 = .ok (.iload_n 1, 1) ∧ 35 + 1 = 36 := by decide +kernel
theorem d_P_paid_36 : decode c_P_paid 36 = .ok (.iload_n 3, 1) ∧ 36 + 1 = 37 := by decide +kernel
theorem d_P_paid_37 : decode c_P_paid 37 = .ok (.invokevirtual 273, 3) ∧ 37 + 3 = 40 := by decide +kernel
theorem d_P_paid_40 : decode c_P_paid 40 = .ok (.ifCond .ne 28, 3) ∧ 40 + 3 = 43 ∧ ((40 : Nat) : Int) + 28 = ((68 : Nat) : Int) := by decide +kernel
theorem d_P_paid_43 : decode c_P_paid 43 = .ok (.iload_n 2, 1) ∧ 43 + 1 = 44 := by decide +kernel
theorem d_P_paid_44 : decode c_P_paid 44 = .ok (.aload_n 0, 1) ∧ 44 + 1 = 45 := by decide +kernel
theorem d_P_paid_45 : decode c_P_paid 45 = .ok (.getfield 64, 3) ∧ 45 + 3 = 48 := by decide +kernel
theorem d_P_paid_48 : decode c_P_paid 48 = .ok (.iload_n 1, 1) ∧ 48 + 1 = 49 := by decide +kernel
theorem d_P_paid_49 : decode c_P_paid 49 = .ok (.invokevirtual 276, 3) ∧ 49 + 3 = 52 := by decide +kernel
theorem d_P_paid_52 : decode c_P_paid 52 = .ok (.if_icmp .gt 16, 3) ∧ 52 + 3 = 55 ∧ ((52 : Nat) : Int) + 16 = ((68 : Nat) : Int) := by decide +kernel
theorem d_P_paid_55 : decode c_P_paid 55 = .ok (.iload_n 3, 1) ∧ 55 + 1 = 56 := by decide +kernel
theorem d_P_paid_56 : decode c_P_paid 56 = .ok (.aload_n 0, 1) ∧ 56 + 1 = 57 := by decide +kernel
theorem d_P_paid_57 : decode c_P_paid 57 = .ok (.getfield 64, 3) ∧ 57 + 3 = 60 := by decide +kernel
theorem d_P_paid_60 : decode c_P_paid 60 = .ok (.getfield 260, 3) ∧ 60 + 3 = 63 := by decide +kernel
theorem d_P_paid_63 : decode c_P_paid 63 = .ok (.iload_n 1, 1) ∧ 63 + 1 = 64 := by decide +kernel
theorem d_P_paid_64 : decode c_P_paid 64 = .ok (.iaload, 1) ∧ 64 + 1 = 65 := by decide +kernel
theorem d_P_paid_65 : decode c_P_paid 65 = .ok (.if_icmp .ge 6, 3) ∧ 65 + 3 = 68 ∧ ((65 : Nat) : Int) + 6 = ((71 : Nat) : Int) := by decide +kernel
theorem d_P_paid_68 : decode c_P_paid 68 = .ok (.bipush (-3), 2) ∧ 68 + 2 = 70 := by decide +kernel
theorem d_P_paid_70 : decode c_P_paid 70 = .ok (.ireturn, 1) ∧ 70 + 1 = 71 := by decide +kernel
theorem d_P_paid_71 : decode c_P_paid 71 = .ok (.aload_n 0, 1) ∧ 71 + 1 = 72 := by decide +kernel
theorem d_P_paid_72 : decode c_P_paid 72 = .ok (.getfield 64, 3) ∧ 72 + 3 = 75 := by decide +kernel
theorem d_P_paid_75 : decode c_P_paid 75 = .ok (.getfield 264, 3) ∧ 75 + 3 = 78 := by decide +kernel
theorem d_P_paid_78 : decode c_P_paid 78 = .ok (.iload_n 1, 1) ∧ 78 + 1 = 79 := by decide +kernel
theorem d_P_paid_79 : decode c_P_paid 79 = .ok (.dup2, 1) ∧ 79 + 1 = 80 := by decide +kernel
theorem d_P_paid_80 : decode c_P_paid 80 = .ok (.iaload, 1) ∧ 80 + 1 = 81 := by decide +kernel
theorem d_P_paid_81 : decode c_P_paid 81 = .ok (.iload_n 2, 1) ∧ 81 + 1 = 82 := by decide +kernel
theorem d_P_paid_82 : decode c_P_paid 82 = .ok (.iadd, 1) ∧ 82 + 1 = 83 := by decide +kernel
theorem d_P_paid_83 : decode c_P_paid 83 = .ok (.iastore, 1) ∧ 83 + 1 = 84 := by decide +kernel
theorem d_P_paid_84 : decode c_P_paid 84 = .ok (.aload_n 0, 1) ∧ 84 + 1 = 85 := by decide +kernel
theorem d_P_paid_85 : decode c_P_paid 85 = .ok (.getfield 64, 3) ∧ 85 + 3 = 88 := by decide +kernel
theorem d_P_paid_88 : decode c_P_paid 88 = .ok (.iload_n 1, 1) ∧ 88 + 1 = 89 := by decide +kernel
theorem d_P_paid_89 : decode c_P_paid 89 = .ok (.invokevirtual 276, 3) ∧ 89 + 3 = 92 := by decide +kernel
theorem d_P_paid_92 : decode c_P_paid 92 = .ok (.ireturn, 1) ∧ 92 + 1 = 93 := by decide +kernel
set_option maxHeartbeats 4000000 in
theorem m_P_paid {Z : Sy} {σ : St} {res : (Int32 × St)} {x1 : Int32} {x2 : Int32} {x3 : Int32} (hf : P_paid x1 x2 x3 σ = some res) : Ct YC Z y_P_paid c_P_paid 4 (some .int) 6 [.ref (ya Z 0), .int x1, .int x2, .int x3] σ (some (.int res.1)) res.2 := by
  refine Ct.of pn_P (Nat.le_of_ble_eq_true rfl) rfl (fun Γ h => ?_)
  have h : IsG YC Z R_P c_P_paid 4 6 (some .int) (some (.int res.1)) res.2 Γ := h
  unfold P_paid at hf
  refine r_iload_n h d_P_paid_0 1 rfl rfl ?_
  refine r_aload_n h d_P_paid_1 0 rfl rfl ?_
  refine r_getR h fd_YC_0_8 cf_P fl_P_64 d_P_paid_2 ?_
  refine r_getI h fd_YC_49_7 cf_Debts fl_P_253 d_P_paid_5 ?_
  obtain ⟨r8, e8, hf⟩ := q_bind hf
  refine r_callS (As := [.int x1, .int (σ.1 49 7)]) (rest := []) h lk_P_96 sk_P_96 d_P_paid_8 (by decide) rfl rfl (Nat.le_of_ble_eq_true rfl) (m_P_isBelow e8) ?_
  refine r_bif_ne h d_P_paid_11 hf (fun hf => ?_) (fun hf => ?_)
  · refine r_iload_n h d_P_paid_16 2 rfl rfl ?_
    refine r_iconst h d_P_paid_17 ki_1 ?_
    refine r_icmp_lt h d_P_paid_18 hf (fun hf => ?_) (fun hf => ?_)
    · refine r_bipush h d_P_paid_31 kb_m2 ?_
      exact r_ireturn h d_P_paid_33.1 (q_p1 hf) (q_p2 hf)
    · refine r_iload_n h d_P_paid_21 3 rfl rfl ?_
      refine r_sipush h d_P_paid_22 ks_10000 ?_
      obtain ⟨r25, e25, hf⟩ := q_bind hf
      refine r_callS (As := [.int x3, .int (10000 : Int32)]) (rest := []) h lk_P_96 sk_P_96 d_P_paid_25 (by decide) rfl rfl (Nat.le_of_ble_eq_true rfl) (m_P_isBelow e25) ?_
      refine r_bif_ne h d_P_paid_28 hf (fun hf => ?_) (fun hf => ?_)
      · refine r_aload_n h d_P_paid_34 0 rfl rfl ?_
        refine r_iload_n h d_P_paid_35 1 rfl rfl ?_
        refine r_iload_n h d_P_paid_36 3 rfl rfl ?_
        obtain ⟨r37, e37, hf⟩ := q_bind hf
        refine r_callV (As := [.int x1, .int x3]) (rest := []) h sh_YC_0 lk_P_273 vk_P_273 d_P_paid_37 (by decide) rfl rfl (Nat.le_of_ble_eq_true rfl) (m_P_isBarred e37) ?_
        refine r_bif_ne h d_P_paid_40 hf (fun hf => ?_) (fun hf => ?_)
        · refine r_bipush h d_P_paid_68 kb_m3 ?_
          exact r_ireturn h d_P_paid_70.1 (q_p1 hf) (q_p2 hf)
        · refine r_iload_n h d_P_paid_43 2 rfl rfl ?_
          refine r_aload_n h d_P_paid_44 0 rfl rfl ?_
          refine r_getR h fd_YC_0_8 cf_P fl_P_64 d_P_paid_45 ?_
          refine r_iload_n h d_P_paid_48 1 rfl rfl ?_
          obtain ⟨r49, e49, hf⟩ := q_bind hf
          refine r_callV (As := [.int x1]) (rest := [.int x2]) h sh_YC_49 lk_P_276 vk_P_276 d_P_paid_49 (by decide) rfl rfl (Nat.le_of_ble_eq_true rfl) (m_Debts_left e49) ?_
          refine r_icmp_gt h d_P_paid_52 hf (fun hf => ?_) (fun hf => ?_)
          · refine r_bipush h d_P_paid_68 kb_m3 ?_
            exact r_ireturn h d_P_paid_70.1 (q_p1 hf) (q_p2 hf)
          · refine r_iload_n h d_P_paid_55 3 rfl rfl ?_
            refine r_aload_n h d_P_paid_56 0 rfl rfl ?_
            refine r_getR h fd_YC_0_8 cf_P fl_P_64 d_P_paid_57 ?_
            refine r_getR h fd_YC_49_4 cf_Debts fl_P_260 d_P_paid_60 ?_
            refine r_iload_n h d_P_paid_63 1 rfl rfl ?_
            refine r_iald h sh_YC_54 d_P_paid_64 hf (fun hf => ?_)
            refine r_icmp_ge h d_P_paid_65 hf (fun hf => ?_) (fun hf => ?_)
            · refine r_aload_n h d_P_paid_71 0 rfl rfl ?_
              refine r_getR h fd_YC_0_8 cf_P fl_P_64 d_P_paid_72 ?_
              refine r_getR h fd_YC_49_5 cf_Debts fl_P_264 d_P_paid_75 ?_
              refine r_iload_n h d_P_paid_78 1 rfl rfl ?_
              refine r_dup2 h d_P_paid_79 rfl rfl ?_
              refine r_iald h sh_YC_55 d_P_paid_80 hf (fun hf => ?_)
              refine r_iload_n h d_P_paid_81 2 rfl rfl ?_
              refine r_iadd h d_P_paid_82 ?_
              refine r_iast h sh_YC_55 d_P_paid_83 hf (fun hf => ?_)
              refine r_aload_n h d_P_paid_84 0 rfl rfl ?_
              refine r_getR h fd_YC_0_8 cf_P fl_P_64 d_P_paid_85 ?_
              refine r_iload_n h d_P_paid_88 1 rfl rfl ?_
              obtain ⟨r89, e89, hf⟩ := q_bind hf
              refine r_callV (As := [.int x1]) (rest := []) h sh_YC_49 lk_P_276 vk_P_276 d_P_paid_89 (by decide) rfl rfl (Nat.le_of_ble_eq_true rfl) (m_Debts_left e89) ?_
              exact r_ireturn h d_P_paid_92.1 (q_p1 hf) (q_p2 hf)
            · refine r_bipush h d_P_paid_68 kb_m3 ?_
              exact r_ireturn h d_P_paid_70.1 (q_p1 hf) (q_p2 hf)
      · refine r_bipush h d_P_paid_31 kb_m2 ?_
        exact r_ireturn h d_P_paid_33.1 (q_p1 hf) (q_p2 hf)
  · refine r_iconst h d_P_paid_14 ki_m1 ?_
    exact r_ireturn h d_P_paid_15.1 (q_p1 hf) (q_p2 hf)

