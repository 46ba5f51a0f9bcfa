theorem d_Texts_keep_0 : decode c_Texts_keep 0 = .ok (.aload_n 0, 1) ∧ 0 + 1 = 1 := by decide +kernel
theorem d_Texts_keep_1 : decode c_Texts_keep 1 = .ok (.getfield 75, 3) ∧ 1 + 3 = 4 := by decide +kernel
theorem d_Texts_keep_4 : decode c_Texts_keep 4 = .ok (.aload_n 0, 1) ∧ 4 + 1 = 5 := by decide +kernel
theorem d_Texts_keep_5 : decode c_Texts_keep 5 = .ok (.getfield 9, 3) ∧ 5 + 3 = 8 := by decide +kernel
theorem d_Texts_keep_8 : decode c_Texts_keep 8 = .ok (.arraylength, 1) ∧ 8 + 1 = 9 := by decide +kernel
theorem d_Texts_keep_9 : decode c_Texts_keep 9 = .ok (.if_icmp .lt 6, 3) ∧ 9 + 3 = 12 ∧ ((9 : Nat) : Int) + 6 = ((15 : Nat) : Int) := by decide +kernel
theorem d_Texts_keep_12 : decode c_Texts_keep 12 = .ok (.bipush (-4), 2) ∧ 12 + 2 = 14 := by decide +kernel
theorem d_Texts_keep_14 : decode c_Texts_keep 14 = .ok (.ireturn, 1) ∧ 14 + 1 = 15 := by decide +kernel
theorem d_Texts_keep_15 : decode c_Texts_keep 15 = .ok (.aload_n 0, 1) ∧ 15 + 1 = 16 := by decide +kernel
theorem d_Texts_keep_16 : decode c_Texts_keep 16 = .ok (.getfield 9, 3) ∧ 16 + 3 = 19 := by decide +kernel
theorem d_Texts_keep_19 : decode c_Texts_keep 19 = .ok (.aload_n 0, 1) ∧ 19 + 1 = 20 := by decide +kernel
theorem d_Texts_keep_20 : decode c_Texts_keep 20 = .ok (.getfield 75, 3) ∧ 20 + 3 = 23 := by decide +kernel
theorem d_Texts_keep_23 : decode c_Texts_keep 23 = .ok (.iload_n 1, 1) ∧ 23 + 1 = 24 := by decide +kernel
theorem d_Texts_keep_24 : decode c_Texts_keep 24 = .ok (.iastore, 1) ∧ 24 + 1 = 25 := by decide +kernel
theorem d_Texts_keep_25 : decode c_Texts_keep 25 = .ok (.aload_n 0, 1) ∧ 25 + 1 = 26 := by decide +kernel
theorem d_Texts_keep_26 : decode c_Texts_keep 26 = .ok (.getfield 15, 3) ∧ 26 + 3 = 29 := by decide +kernel
theorem d_Texts_keep_29 : decode c_Texts_keep 29 = .ok (.aload_n 0, 1) ∧ 29 + 1 = 30 := by decide +kernel
theorem d_Texts_keep_30 : decode c_Texts_keep 30 = .ok (.getfield 75, 3) ∧ 30 + 3 = 33 := by decide +kernel
theorem d_Texts_keep_33 : decode c_Texts_keep 33 = .ok (.iload_n 2, 1) ∧ 33 + 1 = 34 := by decide +kernel
theorem d_Texts_keep_34 : decode c_Texts_keep 34 = .ok (.iastore, 1) ∧ 34 + 1 = 35 := by decide +kernel
theorem d_Texts_keep_35 : decode c_Texts_keep 35 = .ok (.aload_n 0, 1) ∧ 35 + 1 = 36 := by decide +kernel
theorem d_Texts_keep_36 : decode c_Texts_keep 36 = .ok (.getfield 18, 3) ∧ 36 + 3 = 39 := by decide +kernel
theorem d_Texts_keep_39 : decode c_Texts_keep 39 = .ok (.aload_n 0, 1) ∧ 39 + 1 = 40 := by decide +kernel
theorem d_Texts_keep_40 : decode c_Texts_keep 40 = .ok (.getfield 75, 3) ∧ 40 + 3 = 43 := by decide +kernel
theorem d_Texts_keep_43 : decode c_Texts_keep 43 = .ok (.iload_n 3, 1) ∧ 43 + 1 = 44 := by decide +kernel
theorem d_Texts_keep_44 : decode c_Texts_keep 44 = .ok (.iastore, 1) ∧ 44 + 1 = 45 := by decide +kernel
theorem d_Texts_keep_45 : decode c_Texts_keep 45 = .ok (.aload_n 0, 1) ∧ 45 + 1 = 46 := by decide +kernel
theorem d_Texts_keep_46 : decode c_Texts_keep 46 = .ok (.getfield 21, 3) ∧ 46 + 3 = 49 := by decide +kernel
theorem d_Texts_keep_49 : decode c_Texts_keep 49 = .ok (.aload_n 0, 1) ∧ 49 + 1 = 50 := by decide +kernel
theorem d_Texts_keep_50 : decode c_Texts_keep 50 = .ok (.getfield 75, 3) ∧ 50 + 3 = 53 := by decide +kernel
theorem d_Texts_keep_53 : decode c_Texts_keep 53 = .ok (.aload_n 0, 1) ∧ 53 + 1 = 54 := by decide +kernel
theorem d_Texts_keep_54 : decode c_Texts_keep 54 = .ok (.getfield 36, 3) ∧ 54 + 3 = 57 := by decide +kernel
theorem d_Texts_keep_57 : decode c_Texts_keep 57 = .ok (.iastore, 1) ∧ 57 + 1 = 58 := by decide +kernel
theorem d_Texts_keep_58 : decode c_Texts_keep 58 = .ok (.iconst 0, 1) ∧ 58 + 1 = 59 := by decide +kernel
theorem d_Texts_keep_59 : decode c_Texts_keep 59 = .ok (.istore 4, 2) ∧ 59 + 2 = 61 := by decide +kernel
theorem d_Texts_keep_61 : decode c_Texts_keep 61 = .ok (.iload 4, 2) ∧ 61 + 2 = 63 := by decide +kernel
theorem d_Texts_keep_63 : decode c_Texts_keep 63 = .ok (.aload_n 0, 1) ∧ 63 + 1 = 64 := by decide +kernel
theorem d_Texts_keep_64 : decode c_Texts_keep 64 = .ok (.getfield 36, 3) ∧ 64 + 3 = 67 := by decide +kernel
theorem d_Texts_keep_67 : decode c_Texts_keep 67 = .ok (.if_icmp .ge 53, 3) ∧ 67 + 3 = 70 ∧ ((67 : Nat) : Int) + 53 = ((120 : Nat) : Int) := by decide +kernel
theorem d_Texts_keep_70 : decode c_Texts_keep 70 = .ok (.aload_n 0, 1) ∧ 70 + 1 = 71 := by decide +kernel
theorem d_Texts_keep_71 : decode c_Texts_keep 71 = .ok (.getfield 24, 3) ∧ 71 + 3 = 74 := by decide +kernel
theorem d_Texts_keep_74 : decode c_Texts_keep 74 = .ok (.aload_n 0, 1) ∧ 74 + 1 = 75 := by decide +kernel
theorem d_Texts_keep_75 : decode c_Texts_keep 75 = .ok (.getfield 75, 3) ∧ 75 + 3 = 78 := by decide +kernel
theorem d_Texts_keep_78 : decode c_Texts_keep 78 = .ok (.bipush 6, 2) ∧ 78 + 2 = 80 := by decide +kernel
theorem d_Texts_keep_80 : decode c_Texts_keep 80 = .ok (.imul, 1) ∧ 80 + 1 = 81 := by decide +kernel
theorem d_Texts_keep_81 : decode c_Texts_keep 81 = .ok (.iload 4, 2) ∧ 81 + 2 = 83 := by decide +kernel
theorem d_Texts_keep_83 : decode c_Texts_keep 83 = .ok (.iadd, 1) ∧ 83 + 1 = 84 := by decide +kernel
theorem d_Texts_keep_84 : decode c_Texts_keep 84 = .ok (.aload_n 0, 1) ∧ 84 + 1 = 85 := by decide +kernel
theorem d_Texts_keep_85 : decode c_Texts_keep 85 = .ok (.getfield 30, 3) ∧ 85 + 3 = 88 := by decide +kernel
theorem d_Texts_keep_88 : decode c_Texts_keep 88 = .ok (.iload 4, 2) ∧ 88 + 2 = 90 := by decide +kernel
theorem d_Texts_keep_90 : decode c_Texts_keep 90 = .ok (.iaload, 1) ∧ 90 + 1 = 91 := by decide +kernel
theorem d_Texts_keep_91 : decode c_Texts_keep 91 = .ok (.iastore, 1) ∧ 91 + 1 = 92 := by decide +kernel
theorem d_Texts_keep_92 : decode c_Texts_keep 92 = .ok (.aload_n 0, 1) ∧ 92 + 1 = 93 := by decide +kernel
theorem d_Texts_keep_93 : decode c_Texts_keep 93 = .ok (.getfield 27, 3) ∧ 93 + 3 = 96 := by decide +kernel
theorem d_Texts_keep_96 : decode c_Texts_keep 96 = .ok (.aload_n 0, 1) ∧ 96 + 1 = 97 := by decide +kernel
theorem d_Texts_keep_97 : decode c_Texts_keep 97 = .ok (.getfield 75, 3) ∧ 97 + 3 = 100 := by decide +kernel
theorem d_Texts_keep_100 : decode c_Texts_keep 100 = .ok (.bipush 6, 2) ∧ 100 + 2 = 102 := by decide +kernel
theorem d_Texts_keep_102 : decode c_Texts_keep 102 = .ok (.imul, 1) ∧ 102 + 1 = 103 := by decide +kernel
theorem d_Texts_keep_103 : decode c_Texts_keep 103 = .ok (.iload 4, 2) ∧ 103 + 2 = 105 := by decide +kernel
theorem d_Texts_keep_105 : decode c_Texts_keep 105 = .ok (.iadd, 1) ∧ 105 + 1 = 106 := by decide +kernel
theorem d_Texts_keep_106 : decode c_Texts_keep 106 = .ok (.aload_n 0, 1) ∧ 106 + 1 = 107 := by decide +kernel
theorem d_Texts_keep_107 : decode c_Texts_keep 107 = .ok (.getfield 33, 3) ∧ 107 + 3 = 110 := by decide +kernel
theorem d_Texts_keep_110 : decode c_Texts_keep 110 = .ok (.iload 4, 2) ∧ 110 + 2 = 112 := by decide +kernel
theorem d_Texts_keep_112 : decode c_Texts_keep 112 = .ok (.iaload, 1) ∧ 112 + 1 = 113 := by decide +kernel
theorem d_Texts_keep_113 : decode c_Texts_keep 113 = .ok (.iastore, 1) ∧ 113 + 1 = 114 := by decide +kernel
theorem d_Texts_keep_114 : decode c_Texts_keep 114 = .ok (.iinc 4 1, 3) ∧ 114 + 3 = 117 := by decide +kernel
theorem d_Texts_keep_117 : decode c_Texts_keep 117 = .ok (.goto (-56), 3) ∧ (117 : Int) + (-56) = (61 : Int) := by decide +kernel
theorem d_Texts_keep_120 : decode c_Texts_keep 120 = .ok (.aload_n 0, 1) ∧ 120 + 1 = 121 := by decide +kernel
theorem d_Texts_keep_121 : decode c_Texts_keep 121 = .ok (.dup, 1) ∧ 121 + 1 = 122 := by decide +kernel
theorem d_Texts_keep_122 : decode c_Texts_keep 122 = .ok (.getfield 75, 3) ∧ 122 + 3 = 125 := by decide +kernel
theorem d_Texts_keep_125 : decode c_Texts_keep 125 = .ok (.dup_x1, 1) ∧ 125 + 1 = 126 := by decide +kernel
theorem d_Texts_keep_126 : decode c_Texts_keep 126 = .ok (.iconst 1, 1) ∧ 126 + 1 = 127 := by decide +kernel
theorem d_Texts_keep_127 : decode c_Texts_keep 127 = .ok (.iadd, 1) ∧ 127 + 1 = 128 := by decide +kernel
theorem d_Texts_keep_128 : decode c_Texts_keep 128 = .ok (.putfield 75, 3) ∧ 128 + 3 = 131 := by decide +kernel
theorem d_Texts_keep_131 : decode c_Texts_keep 131 = .ok (.ireturn, 1) ∧ 131 + 1 = 132 := by decide +kernel
set_option maxHeartbeats 4000000 in
theorem w_Texts_keep_L61 {Z : Sy} {Γ : Nat → List (Nat × Value) → List Value → St → Prop} {res : (Int32 × St)} (h : IsG YC Z R_Texts c_Texts_keep 5 1 (some .int) (some (.int res.1)) res.2 Γ) : ∀ (n : Nat) (x4 : Int32) (σ : St), Texts_keep_L61 n x4 σ = some res → Γ 61 [(0, .ref (ya Z 40)), (4, .int x4)] [] σ := by
  intro n
  induction n with
  | zero => intro x4 σ hf; exact absurd hf (by simp [Texts_keep_L61])
  | succ n ih =>
    intro x4 σ hf
    rw [Texts_keep_L61] at hf
    refine r_iload h d_Texts_keep_61 1 rfl ?_
    refine r_aload_n h d_Texts_keep_63 0 rfl rfl ?_
    refine r_getI h fd_YC_40_9 cf_Texts fl_Texts_36 d_Texts_keep_64 ?_
    refine r_icmp_ge h d_Texts_keep_67 hf (fun hf => ?_) (fun hf => ?_)
    · refine r_aload_n h d_Texts_keep_120 0 rfl rfl ?_
      refine r_dup h d_Texts_keep_121 rfl ?_
      refine r_getI h fd_YC_40_6 cf_Texts fl_Texts_75 d_Texts_keep_122 ?_
      refine r_dup_x1 h d_Texts_keep_125 rfl rfl ?_
      refine r_iconst h d_Texts_keep_126 ki_1 ?_
      refine r_iadd h d_Texts_keep_127 ?_
      refine r_putI h fd_YC_40_6 cf_Texts fl_Texts_75 ⟨rfl, rfl⟩ d_Texts_keep_128 ?_
      exact r_ireturn h d_Texts_keep_131.1 (q_p1 hf) (q_p2 hf)
    · refine r_aload_n h d_Texts_keep_70 0 rfl rfl ?_
      refine r_getR h fd_YC_40_4 cf_Texts fl_Texts_24 d_Texts_keep_71 ?_
      refine r_aload_n h d_Texts_keep_74 0 rfl rfl ?_
      refine r_getI h fd_YC_40_6 cf_Texts fl_Texts_75 d_Texts_keep_75 ?_
      refine r_bipush h d_Texts_keep_78 kb_6 ?_
      refine r_imul h d_Texts_keep_80 ?_
      refine r_iload h d_Texts_keep_81 1 rfl ?_
      refine r_iadd h d_Texts_keep_83 ?_
      refine r_aload_n h d_Texts_keep_84 0 rfl rfl ?_
      refine r_getR h fd_YC_40_7 cf_Texts fl_Texts_30 d_Texts_keep_85 ?_
      refine r_iload h d_Texts_keep_88 1 rfl ?_
      refine r_iald h sh_YC_47 d_Texts_keep_90 hf (fun hf => ?_)
      refine r_iast h sh_YC_45 d_Texts_keep_91 hf (fun hf => ?_)
      refine r_aload_n h d_Texts_keep_92 0 rfl rfl ?_
      refine r_getR h fd_YC_40_5 cf_Texts fl_Texts_27 d_Texts_keep_93 ?_
      refine r_aload_n h d_Texts_keep_96 0 rfl rfl ?_
      refine r_getIv (v := (σ.1 40 6)) h fd_YC_40_6 cf_Texts fl_Texts_75 d_Texts_keep_97 rfl ?_
      refine r_bipush h d_Texts_keep_100 kb_6 ?_
      refine r_imul h d_Texts_keep_102 ?_
      refine r_iload h d_Texts_keep_103 1 rfl ?_
      refine r_iadd h d_Texts_keep_105 ?_
      refine r_aload_n h d_Texts_keep_106 0 rfl rfl ?_
      refine r_getR h fd_YC_40_8 cf_Texts fl_Texts_33 d_Texts_keep_107 ?_
      refine r_iload h d_Texts_keep_110 1 rfl ?_
      refine r_ialdv (v := (σ.1 48 (Int32.toNatClampNeg x4))) h sh_YC_48 d_Texts_keep_112 hf rfl (fun hf => ?_)
      refine r_iast h sh_YC_46 d_Texts_keep_113 hf (fun hf => ?_)
      refine r_iinc (ls' := [(4, .int (x4 + (1 : Int32))), (0, .ref (ya Z 40))]) h d_Texts_keep_114 1 rfl ki_1 (by decide) rfl ?_
      refine r_goto h d_Texts_keep_117 ?_
      refine r_sub h [1, 0] rfl ?_
      exact ih _ _ hf

set_option maxHeartbeats 4000000 in
theorem m_Texts_keep {Z : Sy} {σ : St} {res : (Int32 × St)} {x1 : Int32} {x2 : Int32} {x3 : Int32} (hf : Texts_keep x1 x2 x3 σ = some res) : Ct YC Z y_Texts_keep c_Texts_keep 5 (some .int) 1 [.ref (ya Z 40), .int x1, .int x2, .int x3] σ (some (.int res.1)) res.2 := by
  refine Ct.of pn_Texts (Nat.le_of_ble_eq_true rfl) rfl (fun Γ h => ?_)
  have h : IsG YC Z R_Texts c_Texts_keep 5 1 (some .int) (some (.int res.1)) res.2 Γ := h
  unfold Texts_keep at hf
  refine r_aload_n h d_Texts_keep_0 0 rfl rfl ?_
  refine r_getI h fd_YC_40_6 cf_Texts fl_Texts_75 d_Texts_keep_1 ?_
  refine r_aload_n h d_Texts_keep_4 0 rfl rfl ?_
  refine r_getR h fd_YC_40_0 cf_Texts fl_Texts_9 d_Texts_keep_5 ?_
  refine r_alen h sh_YC_41 kn_10 d_Texts_keep_8 ?_
  refine r_icmp_lt h d_Texts_keep_9 hf (fun hf => ?_) (fun hf => ?_)
  · refine r_aload_n h d_Texts_keep_15 0 rfl rfl ?_
    refine r_getR h fd_YC_40_0 cf_Texts fl_Texts_9 d_Texts_keep_16 ?_
    refine r_aload_n h d_Texts_keep_19 0 rfl rfl ?_
    refine r_getI h fd_YC_40_6 cf_Texts fl_Texts_75 d_Texts_keep_20 ?_
    refine r_iload_n h d_Texts_keep_23 1 rfl rfl ?_
    refine r_iast h sh_YC_41 d_Texts_keep_24 hf (fun hf => ?_)
    refine r_aload_n h d_Texts_keep_25 0 rfl rfl ?_
    refine r_getR h fd_YC_40_1 cf_Texts fl_Texts_15 d_Texts_keep_26 ?_
    refine r_aload_n h d_Texts_keep_29 0 rfl rfl ?_
    refine r_getIv (v := (σ.1 40 6)) h fd_YC_40_6 cf_Texts fl_Texts_75 d_Texts_keep_30 rfl ?_
    refine r_iload_n h d_Texts_keep_33 2 rfl rfl ?_
    refine r_iast h sh_YC_42 d_Texts_keep_34 hf (fun hf => ?_)
    refine r_aload_n h d_Texts_keep_35 0 rfl rfl ?_
    refine r_getR h fd_YC_40_2 cf_Texts fl_Texts_18 d_Texts_keep_36 ?_
    refine r_aload_n h d_Texts_keep_39 0 rfl rfl ?_
    refine r_getIv (v := (σ.1 40 6)) h fd_YC_40_6 cf_Texts fl_Texts_75 d_Texts_keep_40 rfl ?_
    refine r_iload_n h d_Texts_keep_43 3 rfl rfl ?_
    refine r_iast h sh_YC_43 d_Texts_keep_44 hf (fun hf => ?_)
    refine r_aload_n h d_Texts_keep_45 0 rfl rfl ?_
    refine r_getR h fd_YC_40_3 cf_Texts fl_Texts_21 d_Texts_keep_46 ?_
    refine r_aload_n h d_Texts_keep_49 0 rfl rfl ?_
    refine r_getIv (v := (σ.1 40 6)) h fd_YC_40_6 cf_Texts fl_Texts_75 d_Texts_keep_50 rfl ?_
    refine r_aload_n h d_Texts_keep_53 0 rfl rfl ?_
    refine r_getIv (v := (σ.1 40 9)) h fd_YC_40_9 cf_Texts fl_Texts_36 d_Texts_keep_54 rfl ?_
    refine r_iast h sh_YC_44 d_Texts_keep_57 hf (fun hf => ?_)
    refine r_iconst h d_Texts_keep_58 ki_0 ?_
    refine r_istore (ls' := [(4, .int (0 : Int32)), (0, .ref (ya Z 40)), (1, .int x1), (2, .int x2), (3, .int x3)]) h d_Texts_keep_59 (by decide) rfl ?_
    refine r_sub h [1, 0] rfl ?_
    exact w_Texts_keep_L61 h _ _ _ hf
  · refine r_bipush h d_Texts_keep_12 kb_m4 ?_
    exact r_ireturn h d_Texts_keep_14.1 (q_p1 hf) (q_p2 hf)

theorem d_P_text_0 : decode c_P_text 0 = .ok (.aload_n 0, 1) ∧ 0 + 1 = 1 := by decide +kernel
theorem d_P_text_1 : decode c_P_text 1 = .ok (.iconst 0, 1) ∧ 1 + 1 = 2 := by decide +kernel
theorem d_P_text_2 : decode c_P_text 2 = .ok (.putfield 152, 3) ∧ 2 + 3 = 5 := by decide +kernel
theorem d_P_text_5 : decode c_P_text 5 = .ok (.aload_n 0, 1) ∧ 5 + 1 = 6 := by decide +kernel
theorem d_P_text_6 : decode c_P_text 6 = .ok (.getfield 92, 3) ∧ 6 + 3 = 9 := by decide +kernel
theorem d_P_text_9 : decode c_P_text 9 = .ok (.iload 4, 2) ∧ 9 + 2 = 11 := by decide +kernel
theorem d_P_text_11 : decode c_P_text 11 = .ok (.invokevirtual 156, 3) ∧ 11 + 3 = 14 := by decide +kernel
theorem d_P_text_14 : decode c_P_text 14 = .ok (.ifCond .ne 5, 3) ∧ 14 + 3 = 17 ∧ ((14 : Nat) : Int) + 5 = ((19 : Nat) : Int) := by decide +kernel
theorem d_P_text_17 : decode c_P_text 17 = .ok (.iconst (-1), 1) ∧ 17 + 1 = 18 := by decide +kernel
theorem d_P_text_18 : decode c_P_text 18 = .ok (.ireturn, 1) ∧ 18 + 1 = 19 := by decide +kernel
theorem d_P_text_19 : decode c_P_text 19 = .ok (.iload_n 1, 1) ∧ 19 + 1 = 20 := by decide +kernel
theorem d_P_text_20 : decode c_P_text 20 = .ok (.iconst (-1), 1) ∧ 20 + 1 = 21 := by decide +kernel
theorem d_P_text_21 : decode c_P_text 21 = .ok (.if_icmp .eq 15, 3) ∧ 21 + 3 = 24 ∧ ((21 : Nat) : Int) + 15 = ((36 : Nat) : Int) := by decide +kernel
theorem d_P_text_24 : decode c_P_text 24 = .ok (.iload_n 1, 1) ∧ 24 + 1 = 25 := by decide +kernel
theorem d_P_text_25 : decode c_P_text 25 = .ok (.bipush 6, 2) ∧ 25 + 2 = 27 := by decide +kernel
theorem d_P_text_27 : decode c_P_text 27 = .ok (.invokestatic 96, 3) ∧ 27 + 3 = 30 := by decide +kernel
theorem d_P_text_30 : decode c_P_text 30 = .ok (.ifCond .ne 6, 3) ∧ 30 + 3 = 33 ∧ ((30 : Nat) : Int) + 6 = ((36 : Nat) : Int) := by decide +kernel
theorem d_P_text_33 : decode c_P_text 33 = .ok (.bipush (-2), 2) ∧ 33 + 2 = 35 := by decide +kernel
theorem d_P_text_35 : decode c_P_text 35 = .ok (.ireturn, 1) ∧ 35 + 1 = 36 := by decide +kernel
theorem d_P_text_36 : decode c_P_text 36 = .ok (.iload_n 2, 1) ∧ 36 + 1 = 37 := by decide +kernel
theorem d_P_text_37 : decode c_P_text 37 = .ok (.iload_n 3, 1) ∧ 37 + 1 = 38 := by decide +kernel
theorem d_P_text_38 : decode c_P_text 38 = .ok (.invokestatic 119, 3) ∧ 38 + 3 = 41 := by decide +kernel
theorem d_P_text_41 : decode c_P_text 41 = .ok (.ifCond .eq 12, 3) ∧ 41 + 3 = 44 ∧ ((41 : Nat) : Int) + 12 = ((53 : Nat) : Int) := by decide +kernel
theorem d_P_text_44 : decode c_P_text 44 = .ok (.iload 5, 2) ∧ 44 + 2 = 46 := by decide +kernel
theorem d_P_text_46 : decode c_P_text 46 = .ok (.iconst 3, 1) ∧ 46 + 1 = 47 := by decide +kernel
theorem d_P_text_47 : decode c_P_text 47 = .ok (.invokestatic 96, 3) ∧ 47 + 3 = 50 := by decide +kernel
theorem d_P_text_50 : decode c_P_text 50 = .ok (.ifCond .ne 6, 3) ∧ 50 + 3 = 53 ∧ ((50 : Nat) : Int) + 6 = ((56 : Nat) : Int) := by decide +kernel
theorem d_P_text_53 : decode c_P_text 53 = .ok (.bipush (-2), 2) ∧ 53 + 2 = 55 := by decide +kernel
theorem d_P_text_55 : decode c_P_text 55 = .ok (.ireturn, 1) ∧ 55 + 1 = 56 := by decide +kernel
theorem d_P_text_56 : decode c_P_text 56 = .ok (.aload_n 0, 1) ∧ 56 + 1 = 57 := by decide +kernel
theorem d_P_text_57 : decode c_P_text 57 = .ok (.getfield 92, 3) ∧ 57 + 3 = 60 := by decide +kernel
theorem d_P_text_60 : decode c_P_text 60 = .ok (.iload 4, 2) ∧ 60 + 2 = 62 := by decide +kernel
theorem d_P_text_62 : decode c_P_text 62 = .ok (.iload 5, 2) ∧ 62 + 2 = 64 := by decide +kernel
theorem d_P_text_64 : decode c_P_text 64 = .ok (.iload 6, 2) ∧ 64 + 2 = 66 := by decide +kernel
theorem d_P_text_66 : decode c_P_text 66 = .ok (.iload 7, 2) ∧ 66 + 2 = 68 := by decide +kernel
theorem d_P_text_68 : decode c_P_text 68 = .ok (.i2l, 1) ∧ 68 + 1 = 69 := by decide +kernel
theorem d_P_text_69 : decode c_P_text 69 = .ok (.invokevirtual 159, 3) ∧ 69 + 3 = 72 := by decide +kernel
theorem d_P_text_72 : decode c_P_text 72 = .ok (.istore 8, 2) ∧ 72 + 2 = 74 := by decide +kernel
theorem d_P_text_74 : decode c_P_text 74 = .ok (.iload 8, 2) ∧ 74 + 2 = 76 := by decide +kernel
theorem d_P_text_76 : decode c_P_text 76 = .ok (.ifCond .eq 10, 3) ∧ 76 + 3 = 79 ∧ ((76 : Nat) : Int) + 10 = ((86 : Nat) : Int) := by decide +kernel
theorem d_P_text_79 : decode c_P_text 79 = .ok (.aload_n 0, 1) ∧ 79 + 1 = 80 := by decide +kernel
theorem d_P_text_80 : decode c_P_text 80 = .ok (.iload 8, 2) ∧ 80 + 2 = 82 := by decide +kernel
theorem d_P_text_82 : decode c_P_text 82 = .ok (.invokevirtual 163, 3) ∧ 82 + 3 = 85 := by decide +kernel
theorem d_P_text_85 : decode c_P_text 85 = .ok (.ireturn, 1) ∧ 85 + 1 = 86 := by decide +kernel
theorem d_P_text_86 : decode c_P_text 86 = .ok (.aload_n 0, 1) ∧ 86 + 1 = 87 := by decide +kernel
theorem d_P_text_87 : decode c_P_text 87 = .ok (.getfield 57, 3) ∧ 87 + 3 = 90 := by decide +kernel
theorem d_P_text_90 : decode c_P_text 90 = .ok (.aload_n 0, 1) ∧ 90 + 1 = 91 := by decide +kernel
theorem d_P_text_91 : decode c_P_text 91 = .ok (.getfield 92, 3) ∧ 91 + 3 = 94 := by decide +kernel
theorem d_P_text_94 : decode c_P_text 94 = .ok (.iload 4, 2) ∧ 94 + 2 = 96 := by decide +kernel
theorem d_P_text_96 : decode c_P_text 96 = .ok (.iload 6, 2) ∧ 96 + 2 = 98 := by decide +kernel
theorem d_P_text_98 : decode c_P_text 98 = .ok (.iload 7, 2) ∧ 98 + 2 = 100 := by decide +kernel
theorem d_P_text_100 : decode c_P_text 100 = .ok (.invokevirtual 218, 3) ∧ 100 + 3 = 103 := by decide +kernel
theorem d_P_text_103 : decode c_P_text 103 = .ok (.istore 9, 2) ∧ 103 + 2 = 105 := by decide +kernel
theorem d_P_text_105 : decode c_P_text 105 = .ok (.iload 9, 2) ∧ 105 + 2 = 107 := by decide +kernel
theorem d_P_text_107 : decode c_P_text 107 = .ok (.bipush (-9), 2) ∧ 107 + 2 = 109 := by decide +kernel
theorem d_P_text_109 : decode c_P_text 109 = .ok (.if_icmp .eq 9, 3) ∧ 109 + 3 = 112 ∧ ((109 : Nat) : Int) + 9 = ((118 : Nat) : Int) := by decide +kernel
theorem d_P_text_112 : decode c_P_text 112 = .ok (.bipush (-100), 2) ∧ 112 + 2 = 114 := by decide +kernel
theorem d_P_text_114 : decode c_P_text 114 = .ok (.iload 9, 2) ∧ 114 + 2 = 116 := by decide +kernel
theorem d_P_text_116 : decode c_P_text 116 = .ok (.isub, 1) ∧ 116 + 1 = 117 := by decide +kernel
theorem d_P_text_117 : decode c_P_text 117 = .ok (.ireturn, 1) ∧ 117 + 1 = 118 := by decide +kernel
theorem d_P_text_118 : decode c_P_text 118 = .ok (.aload_n 0, 1) ∧ 118 + 1 = 119 := by decide +kernel
theorem d_P_text_119 : decode c_P_text 119 = .ok (.getfield 57, 3) ∧ 119 + 3 = 122 := by decide +kernel
theorem d_P_text_122 : decode c_P_text 122 = .ok (.iload_n 1, 1) ∧ 122 + 1 = 123 := by decide +kernel
theorem d_P_text_123 : decode c_P_text 123 = .ok (.iload_n 2, 1) ∧ 123 + 1 = 124 := by decide +kernel
theorem d_P_text_124 : decode c_P_text 124 = .ok (.iload_n 3, 1) ∧ 124 + 1 = 125 := by decide +kernel
theorem d_P_text_125 : decode c_P_text 125 = .ok (.invokevirtual 222, 3) ∧ 125 + 3 = 128 := by decide +kernel
theorem d_P_text_128 : decode c_P_text 128 = .ok (.ireturn, 1) ∧ 128 + 1 = 129 := by decide +kernel
set_option maxHeartbeats 4000000 in
theorem m_P_text {Z : Sy} {σ : St} {res : (Int32 × St)} {x1 : Int32} {x2 : Int32} {x3 : Int32} {x4 : Int32} {x5 : Int32} {x6 : Int32} {x7 : Int32} (hf : P_text x1 x2 x3 x4 x5 x6 x7 σ = some res) : Ct YC Z y_P_text c_P_text 10 (some .int) 4 [.ref (ya Z 0), .int x1, .int x2, .int x3, .int x4, .int x5, .int x6, .int x7] σ (some (.int res.1)) res.2 := by
  refine Ct.of pn_P (Nat.le_of_ble_eq_true rfl) rfl (fun Γ h => ?_)
  have h : IsG YC Z R_P c_P_text 10 4 (some .int) (some (.int res.1)) res.2 Γ := h
  unfold P_text at hf
  refine r_aload_n h d_P_text_0 0 rfl rfl ?_
  refine r_iconst h d_P_text_1 ki_0 ?_
  refine r_putI h fd_YC_0_13 cf_P fl_P_152 ⟨rfl, rfl⟩ d_P_text_2 ?_
  refine r_aload_n h d_P_text_5 0 rfl rfl ?_
  refine r_getR h fd_YC_0_12 cf_P fl_P_92 d_P_text_6 ?_
  refine r_iload h d_P_text_9 4 rfl ?_
  obtain ⟨r11, e11, hf⟩ := q_bind hf
  refine r_callV (As := [.int x4]) (rest := []) h sh_YC_74 lk_P_156 vk_P_156 d_P_text_11 (by decide) rfl rfl (Nat.le_of_ble_eq_true rfl) (m_Sheets_has e11) ?_
  refine r_bif_ne h d_P_text_14 hf (fun hf => ?_) (fun hf => ?_)
  · refine r_iload_n h d_P_text_19 1 rfl rfl ?_
    refine r_iconst h d_P_text_20 ki_m1 ?_
    refine r_icmp_eq h d_P_text_21 hf (fun hf => ?_) (fun hf => ?_)
    · refine r_iload_n h d_P_text_36 2 rfl rfl ?_
      refine r_iload_n h d_P_text_37 3 rfl rfl ?_
      obtain ⟨r38, e38, hf⟩ := q_bind hf
      refine r_callS (As := [.int x2, .int x3]) (rest := []) h lk_P_119 sk_P_119 d_P_text_38 (by decide) rfl rfl (Nat.le_of_ble_eq_true rfl) (m_P_areDays e38) ?_
      refine r_bif_eq h d_P_text_41 hf (fun hf => ?_) (fun hf => ?_)
      · refine r_bipush h d_P_text_53 kb_m2 ?_
        exact r_ireturn h d_P_text_55.1 (q_p1 hf) (q_p2 hf)
      · refine r_iload h d_P_text_44 5 rfl ?_
        refine r_iconst h d_P_text_46 ki_3 ?_
        obtain ⟨r47, e47, hf⟩ := q_bind hf
        refine r_callS (As := [.int x5, .int (3 : Int32)]) (rest := []) h lk_P_96 sk_P_96 d_P_text_47 (by decide) rfl rfl (Nat.le_of_ble_eq_true rfl) (m_P_isBelow e47) ?_
        refine r_bif_ne h d_P_text_50 hf (fun hf => ?_) (fun hf => ?_)
        · refine r_aload_n h d_P_text_56 0 rfl rfl ?_
          refine r_getR h fd_YC_0_12 cf_P fl_P_92 d_P_text_57 ?_
          refine r_iload h d_P_text_60 4 rfl ?_
          refine r_iload h d_P_text_62 5 rfl ?_
          refine r_iload h d_P_text_64 6 rfl ?_
          refine r_iload h d_P_text_66 7 rfl ?_
          refine r_i2l h d_P_text_68 ?_
          obtain ⟨r69, e69, hf⟩ := q_bind hf
          refine r_callV (As := [.int x4, .int x5, .int x6, .long (Int32.toInt64 x7)]) (rest := []) h sh_YC_74 lk_P_159 vk_P_159 d_P_text_69 (by decide) rfl rfl (Nat.le_of_ble_eq_true rfl) (m_Sheets_takingFault e69) ?_
          refine r_istore (ls' := [(8, .int r69), (0, .ref (ya Z 0)), (1, .int x1), (2, .int x2), (3, .int x3), (4, .int x4), (5, .int x5), (6, .int x6), (7, .int x7)]) h d_P_text_72 (by decide) rfl ?_
          refine r_iload h d_P_text_74 0 rfl ?_
          refine r_if_eq h d_P_text_76 hf (fun hf => ?_) (fun hf => ?_)
          · refine r_aload_n h d_P_text_86 1 rfl rfl ?_
            refine r_getR h fd_YC_0_7 cf_P fl_P_57 d_P_text_87 ?_
            refine r_aload_n h d_P_text_90 1 rfl rfl ?_
            refine r_getR h fd_YC_0_12 cf_P fl_P_92 d_P_text_91 ?_
            refine r_iload h d_P_text_94 5 rfl ?_
            refine r_iload h d_P_text_96 7 rfl ?_
            refine r_iload h d_P_text_98 8 rfl ?_
            obtain ⟨q100, e100, hf⟩ := q_bind hf
            refine r_callV (As := [.ref (ya Z 74), .int x4, .int x6, .int x7]) (rest := []) h sh_YC_40 lk_P_218 vk_P_218 d_P_text_100 (by decide) rfl rfl (Nat.le_of_ble_eq_true rfl) (m_Texts_read e100) ?_
            refine r_istore (ls' := [(9, .int q100.1), (8, .int r69), (0, .ref (ya Z 0)), (1, .int x1), (2, .int x2), (3, .int x3), (4, .int x4), (5, .int x5), (6, .int x6), (7, .int x7)]) h d_P_text_103 (by decide) rfl ?_
            refine r_iload h d_P_text_105 0 rfl ?_
            refine r_bipush h d_P_text_107 kb_m9 ?_
            refine r_icmp_eq h d_P_text_109 hf (fun hf => ?_) (fun hf => ?_)
            · refine r_aload_n h d_P_text_118 2 rfl rfl ?_
              refine r_getR h fd_YC_0_7 cf_P fl_P_57 d_P_text_119 ?_
              refine r_iload_n h d_P_text_122 3 rfl rfl ?_
              refine r_iload_n h d_P_text_123 4 rfl rfl ?_
              refine r_iload_n h d_P_text_124 5 rfl rfl ?_
              obtain ⟨q125, e125, hf⟩ := q_bind hf
              refine r_callV (As := [.int x1, .int x2, .int x3]) (rest := []) h sh_YC_40 lk_P_222 vk_P_222 d_P_text_125 (by decide) rfl rfl (Nat.le_of_ble_eq_true rfl) (m_Texts_keep e125) ?_
              exact r_ireturn h d_P_text_128.1 (q_p1 hf) (q_p2 hf)
            · refine r_bipush h d_P_text_112 kb_m100 ?_
              refine r_iload h d_P_text_114 0 rfl ?_
              refine r_isub h d_P_text_116 ?_
              exact r_ireturn h d_P_text_117.1 (q_p1 hf) (q_p2 hf)
          · refine r_aload_n h d_P_text_79 1 rfl rfl ?_
            refine r_iload h d_P_text_80 0 rfl ?_
            obtain ⟨q82, e82, hf⟩ := q_bind hf
            refine r_callV (As := [.int r69]) (rest := []) h sh_YC_0 lk_P_163 vk_P_163 d_P_text_82 (by decide) rfl rfl (Nat.le_of_ble_eq_true rfl) (m_P_faulted e82) ?_
            exact r_ireturn h d_P_text_85.1 (q_p1 hf) (q_p2 hf)
        · refine r_bipush h d_P_text_53 kb_m2 ?_
          exact r_ireturn h d_P_text_55.1 (q_p1 hf) (q_p2 hf)
    · refine r_iload_n h d_P_text_24 1 rfl rfl ?_
      refine r_bipush h d_P_text_25 kb_6 ?_
      obtain ⟨r27, e27, hf⟩ := q_bind hf
      refine r_callS (As := [.int x1, .int (6 : Int32)]) (rest := []) h lk_P_96 sk_P_96 d_P_text_27 (by decide) rfl rfl (Nat.le_of_ble_eq_true rfl) (m_P_isBelow e27) ?_
      refine r_bif_ne h d_P_text_30 hf (fun hf => ?_) (fun hf => ?_)
      · refine r_iload_n h d_P_text_36 2 rfl rfl ?_
        refine r_iload_n h d_P_text_37 3 rfl rfl ?_
        obtain ⟨r38, e38, hf⟩ := q_bind hf
        refine r_callS (As := [.int x2, .int x3]) (rest := []) h lk_P_119 sk_P_119 d_P_text_38 (by decide) rfl rfl (Nat.le_of_ble_eq_true rfl) (m_P_areDays e38) ?_
        refine r_bif_eq h d_P_text_41 hf (fun hf => ?_) (fun hf => ?_)
        · refine r_bipush h d_P_text_53 kb_m2 ?_
          exact r_ireturn h d_P_text_55.1 (q_p1 hf) (q_p2 hf)
        · refine r_iload h d_P_text_44 5 rfl ?_
          refine r_iconst h d_P_text_46 ki_3 ?_
          obtain ⟨r47, e47, hf⟩ := q_bind hf
          refine r_callS (As := [.int x5, .int (3 : Int32)]) (rest := []) h lk_P_96 sk_P_96 d_P_text_47 (by decide) rfl rfl (Nat.le_of_ble_eq_true rfl) (m_P_isBelow e47) ?_
          refine r_bif_ne h d_P_text_50 hf (fun hf => ?_) (fun hf => ?_)
          · refine r_aload_n h d_P_text_56 0 rfl rfl ?_
            refine r_getR h fd_YC_0_12 cf_P fl_P_92 d_P_text_57 ?_
            refine r_iload h d_P_text_60 4 rfl ?_
            refine r_iload h d_P_text_62 5 rfl ?_
            refine r_iload h d_P_text_64 6 rfl ?_
            refine r_iload h d_P_text_66 7 rfl ?_
            refine r_i2l h d_P_text_68 ?_
            obtain ⟨r69, e69, hf⟩ := q_bind hf
            refine r_callV (As := [.int x4, .int x5, .int x6, .long (Int32.toInt64 x7)]) (rest := []) h sh_YC_74 lk_P_159 vk_P_159 d_P_text_69 (by decide) rfl rfl (Nat.le_of_ble_eq_true rfl) (m_Sheets_takingFault e69) ?_
            refine r_istore (ls' := [(8, .int r69), (0, .ref (ya Z 0)), (1, .int x1), (2, .int x2), (3, .int x3), (4, .int x4), (5, .int x5), (6, .int x6), (7, .int x7)]) h d_P_text_72 (by decide) rfl ?_
            refine r_iload h d_P_text_74 0 rfl ?_
            refine r_if_eq h d_P_text_76 hf (fun hf => ?_) (fun hf => ?_)
            · refine r_aload_n h d_P_text_86 1 rfl rfl ?_
              refine r_getR h fd_YC_0_7 cf_P fl_P_57 d_P_text_87 ?_
              refine r_aload_n h d_P_text_90 1 rfl rfl ?_
              refine r_getR h fd_YC_0_12 cf_P fl_P_92 d_P_text_91 ?_
              refine r_iload h d_P_text_94 5 rfl ?_
              refine r_iload h d_P_text_96 7 rfl ?_
              refine r_iload h d_P_text_98 8 rfl ?_
              obtain ⟨q100, e100, hf⟩ := q_bind hf
              refine r_callV (As := [.ref (ya Z 74), .int x4, .int x6, .int x7]) (rest := []) h sh_YC_40 lk_P_218 vk_P_218 d_P_text_100 (by decide) rfl rfl (Nat.le_of_ble_eq_true rfl) (m_Texts_read e100) ?_
              refine r_istore (ls' := [(9, .int q100.1), (8, .int r69), (0, .ref (ya Z 0)), (1, .int x1), (2, .int x2), (3, .int x3), (4, .int x4), (5, .int x5), (6, .int x6), (7, .int x7)]) h d_P_text_103 (by decide) rfl ?_
              refine r_iload h d_P_text_105 0 rfl ?_
              refine r_bipush h d_P_text_107 kb_m9 ?_
              refine r_icmp_eq h d_P_text_109 hf (fun hf => ?_) (fun hf => ?_)
              · refine r_aload_n h d_P_text_118 2 rfl rfl ?_
                refine r_getR h fd_YC_0_7 cf_P fl_P_57 d_P_text_119 ?_
                refine r_iload_n h d_P_text_122 3 rfl rfl ?_
                refine r_iload_n h d_P_text_123 4 rfl rfl ?_
                refine r_iload_n h d_P_text_124 5 rfl rfl ?_
                obtain ⟨q125, e125, hf⟩ := q_bind hf
                refine r_callV (As := [.int x1, .int x2, .int x3]) (rest := []) h sh_YC_40 lk_P_222 vk_P_222 d_P_text_125 (by decide) rfl rfl (Nat.le_of_ble_eq_true rfl) (m_Texts_keep e125) ?_
                exact r_ireturn h d_P_text_128.1 (q_p1 hf) (q_p2 hf)
              · refine r_bipush h d_P_text_112 kb_m100 ?_
                refine r_iload h d_P_text_114 0 rfl ?_
                refine r_isub h d_P_text_116 ?_
                exact r_ireturn h d_P_text_117.1 (q_p1 hf) (q_p2 hf)
            · refine r_aload_n h d_P_text_79 1 rfl rfl ?_
              refine r_iload h d_P_text_80 0 rfl ?_
              obtain ⟨q82, e82, hf⟩ := q_bind hf
              refine r_callV (As := [.int r69]) (rest := []) h sh_YC_0 lk_P_163 vk_P_163 d_P_text_82 (by decide) rfl rfl (Nat.le_of_ble_eq_true rfl) (m_P_faulted e82) ?_
              exact r_ireturn h d_P_text_85.1 (q_p1 hf) (q_p2 hf)
          · refine r_bipush h d_P_text_53 kb_m2 ?_
            exact r_ireturn h d_P_text_55.1 (q_p1 hf) (q_p2 hf)
      · refine r_bipush h d_P_text_33 kb_m2 ?_
        exact r_ireturn h d_P_text_35.1 (q_p1 hf) (q_p2 hf)
  · refine r_iconst h d_P_text_17 ki_m1 ?_
    exact r_ireturn h d_P_text_18.1 (q_p1 hf) (q_p2 hf)

theorem d_Texts_clauseBy_0 : decode c_Texts_clauseBy 0 = .ok (.aload_n 0, 1) ∧ 0 + 1 = 1 := by decide +kernel
theorem d_Texts_clauseBy_1 : decode c_Texts_clauseBy 1 = .ok (.getfield 75, 3) ∧ 1 + 3 = 4 := by decide +kernel
theorem d_Texts_clauseBy_4 : decode c_Texts_clauseBy 4 = .ok (.iconst 1, 1) ∧ 4 + 1 = 5 := by decide +kernel
theorem d_Texts_clauseBy_5 : decode c_Texts_clauseBy 5 = .ok (.isub, 1) ∧ 5 + 1 = 6 := by decide +kernel
theorem d_Texts_clauseBy_6 : decode c_Texts_clauseBy 6 = .ok (.istore 4, 2) ∧ 6 + 2 = 8 := by decide +kernel
theorem d_Texts_clauseBy_8 : decode c_Texts_clauseBy 8 = .ok (.iload 4, 2) ∧ 8 + 2 = 10 := by decide +kernel
theorem d_Texts_clauseBy_10 : decode c_Texts_clauseBy 10 = .ok (.ifCond .lt 93, 3) ∧ 10 + 3 = 13 ∧ ((10 : Nat) : Int) + 93 = ((103 : Nat) : Int) := by decide +kernel
theorem d_Texts_clauseBy_13 : decode c_Texts_clauseBy 13 = .ok (.aload_n 0, 1) ∧ 13 + 1 = 14 := by decide +kernel
theorem d_Texts_clauseBy_14 : decode c_Texts_clauseBy 14 = .ok (.getfield 9, 3) ∧ 14 + 3 = 17 := by decide +kernel
theorem d_Texts_clauseBy_17 : decode c_Texts_clauseBy 17 = .ok (.iload 4, 2) ∧ 17 + 2 = 19 := by decide +kernel
theorem d_Texts_clauseBy_19 : decode c_Texts_clauseBy 19 = .ok (.iaload, 1) ∧ 19 + 1 = 20 := by decide +kernel
theorem d_Texts_clauseBy_20 : decode c_Texts_clauseBy 20 = .ok (.iload_n 2, 1) ∧ 20 + 1 = 21 := by decide +kernel
theorem d_Texts_clauseBy_21 : decode c_Texts_clauseBy 21 = .ok (.if_icmp .ne 76, 3) ∧ 21 + 3 = 24 ∧ ((21 : Nat) : Int) + 76 = ((97 : Nat) : Int) := by decide +kernel
theorem d_Texts_clauseBy_24 : decode c_Texts_clauseBy 24 = .ok (.aload_n 0, 1) ∧ 24 + 1 = 25 := by decide +kernel
theorem d_Texts_clauseBy_25 : decode c_Texts_clauseBy 25 = .ok (.getfield 15, 3) ∧ 25 + 3 = 28 := by decide +kernel
theorem d_Texts_clauseBy_28 : decode c_Texts_clauseBy 28 = .ok (.iload 4, 2) ∧ 28 + 2 = 30 := by decide +kernel
theorem d_Texts_clauseBy_30 : decode c_Texts_clauseBy 30 = .ok (.iaload, 1) ∧ 30 + 1 = 31 := by decide +kernel
theorem d_Texts_clauseBy_31 : decode c_Texts_clauseBy 31 = .ok (.iload_n 3, 1) ∧ 31 + 1 = 32 := by decide +kernel
theorem d_Texts_clauseBy_32 : decode c_Texts_clauseBy 32 = .ok (.if_icmp .gt 65, 3) ∧ 32 + 3 = 35 ∧ ((32 : Nat) : Int) + 65 = ((97 : Nat) : Int) := by decide +kernel
theorem d_Texts_clauseBy_35 : decode c_Texts_clauseBy 35 = .ok (.aload_n 0, 1) ∧ 35 + 1 = 36 := by decide +kernel
theorem d_Texts_clauseBy_36 : decode c_Texts_clauseBy 36 = .ok (.getfield 18, 3) ∧ 36 + 3 = 39 := by decide +kernel
theorem d_Texts_clauseBy_39 : decode c_Texts_clauseBy 39 = .ok (.iload 4, 2) ∧ 39 + 2 = 41 := by decide +kernel
theorem d_Texts_clauseBy_41 : decode c_Texts_clauseBy 41 = .ok (.iaload, 1) ∧ 41 + 1 = 42 := by decide +kernel
theorem d_Texts_clauseBy_42 : decode c_Texts_clauseBy 42 = .ok (.iload_n 3, 1) ∧ 42 + 1 = 43 := by decide +kernel
theorem d_Texts_clauseBy_43 : decode c_Texts_clauseBy 43 = .ok (.if_icmp .ge 6, 3) ∧ 43 + 3 = 46 ∧ ((43 : Nat) : Int) + 6 = ((49 : Nat) : Int) := by decide +kernel
theorem d_Texts_clauseBy_46 : decode c_Texts_clauseBy 46 = .ok (.goto 51, 3) ∧ (46 : Int) + 51 = (97 : Int) := by decide +kernel
theorem d_Texts_clauseBy_49 : decode c_Texts_clauseBy 49 = .ok (.aload_n 0, 1) ∧ 49 + 1 = 50 := by decide +kernel
theorem d_Texts_clauseBy_50 : decode c_Texts_clauseBy 50 = .ok (.getfield 21, 3) ∧ 50 + 3 = 53 := by decide +kernel
theorem d_Texts_clauseBy_53 : decode c_Texts_clauseBy 53 = .ok (.iload 4, 2) ∧ 53 + 2 = 55 := by decide +kernel
theorem d_Texts_clauseBy_55 : decode c_Texts_clauseBy 55 = .ok (.iaload, 1) ∧ 55 + 1 = 56 := by decide +kernel
theorem d_Texts_clauseBy_56 : decode c_Texts_clauseBy 56 = .ok (.iconst 1, 1) ∧ 56 + 1 = 57 := by decide +kernel
theorem d_Texts_clauseBy_57 : decode c_Texts_clauseBy 57 = .ok (.isub, 1) ∧ 57 + 1 = 58 := by decide +kernel
theorem d_Texts_clauseBy_58 : decode c_Texts_clauseBy 58 = .ok (.istore 5, 2) ∧ 58 + 2 = 60 := by decide +kernel
theorem d_Texts_clauseBy_60 : decode c_Texts_clauseBy 60 = .ok (.iload 5, 2) ∧ 60 + 2 = 62 := by decide +kernel
theorem d_Texts_clauseBy_62 : decode c_Texts_clauseBy 62 = .ok (.ifCond .lt 35, 3) ∧ 62 + 3 = 65 ∧ ((62 : Nat) : Int) + 35 = ((97 : Nat) : Int) := by decide +kernel
theorem d_Texts_clauseBy_65 : decode c_Texts_clauseBy 65 = .ok (.aload_n 0, 1) ∧ 65 + 1 = 66 := by decide +kernel
theorem d_Texts_clauseBy_66 : decode c_Texts_clauseBy 66 = .ok (.getfield 24, 3) ∧ 66 + 3 = 69 := by decide +kernel
theorem d_Texts_clauseBy_69 : decode c_Texts_clauseBy 69 = .ok (.iload 4, 2) ∧ 69 + 2 = 71 := by decide +kernel
theorem d_Texts_clauseBy_71 : decode c_Texts_clauseBy 71 = .ok (.bipush 6, 2) ∧ 71 + 2 = 73 := by decide +kernel
theorem d_Texts_clauseBy_73 : decode c_Texts_clauseBy 73 = .ok (.imul, 1) ∧ 73 + 1 = 74 := by decide +kernel
theorem d_Texts_clauseBy_74 : decode c_Texts_clauseBy 74 = .ok (.iload 5, 2) ∧ 74 + 2 = 76 := by decide +kernel
theorem d_Texts_clauseBy_76 : decode c_Texts_clauseBy 76 = .ok (.iadd, 1) ∧ 76 + 1 = 77 := by decide +kernel
theorem d_Texts_clauseBy_77 : decode c_Texts_clauseBy 77 = .ok (.iaload, 1) ∧ 77 + 1 = 78 := by decide +kernel
theorem d_Texts_clauseBy_78 : decode c_Texts_clauseBy 78 = .ok (.iload_n 1, 1) ∧ 78 + 1 = 79 := by decide +kernel
theorem d_Texts_clauseBy_79 : decode c_Texts_clauseBy 79 = .ok (.if_icmp .ne 12, 3) ∧ 79 + 3 = 82 ∧ ((79 : Nat) : Int) + 12 = ((91 : Nat) : Int) := by decide +kernel
theorem d_Texts_clauseBy_82 : decode c_Texts_clauseBy 82 = .ok (.iload 4, 2) ∧ 82 + 2 = 84 := by decide +kernel
theorem d_Texts_clauseBy_84 : decode c_Texts_clauseBy 84 = .ok (.bipush 6, 2) ∧ 84 + 2 = 86 := by decide +kernel
theorem d_Texts_clauseBy_86 : decode c_Texts_clauseBy 86 = .ok (.imul, 1) ∧ 86 + 1 = 87 := by decide +kernel
theorem d_Texts_clauseBy_87 : decode c_Texts_clauseBy 87 = .ok (.iload 5, 2) ∧ 87 + 2 = 89 := by decide +kernel
theorem d_Texts_clauseBy_89 : decode c_Texts_clauseBy 89 = .ok (.iadd, 1) ∧ 89 + 1 = 90 := by decide +kernel
theorem d_Texts_clauseBy_90 : decode c_Texts_clauseBy 90 = .ok (.ireturn, 1) ∧ 90 + 1 = 91 := by decide +kernel
theorem d_Texts_clauseBy_91 : decode c_Texts_clauseBy 91 = .ok (.iinc 5 (-1), 3) ∧ 91 + 3 = 94 := by decide +kernel
theorem d_Texts_clauseBy_94 : decode c_Texts_clauseBy 94 = .ok (.goto (-34), 3) ∧ (94 : Int) + (-34) = (60 : Int) := by decide +kernel
theorem d_Texts_clauseBy_97 : decode c_Texts_clauseBy 97 = .ok (.iinc 4 (-1), 3) ∧ 97 + 3 = 100 := by decide +kernel
theorem d_Texts_clauseBy_100 : decode c_Texts_clauseBy 100 = .ok (.goto (-92), 3) ∧ (100 : Int) + (-92) = (8 : Int) := by decide +kernel
theorem d_Texts_clauseBy_103 : decode c_Texts_clauseBy 103 = .ok (.bipush (-9), 2) ∧ 103 + 2 = 105 := by decide +kernel
theorem d_Texts_clauseBy_105 : decode c_Texts_clauseBy 105 = .ok (.ireturn, 1) ∧ 105 + 1 = 106 := by decide +kernel
set_option maxHeartbeats 4000000 in
theorem w_Texts_clauseBy_L60 {Z : Sy} {Γ : Nat → List (Nat × Value) → List Value → St → Prop} {res : Int32} {x1 : Int32} {x2 : Int32} {x3 : Int32} {x4 : Int32} {σ : St} {k8 : Int32 → Option Int32} (h : IsG YC Z R_Texts c_Texts_clauseBy 6 1 (some .int) (some (.int res)) σ Γ) (hk8 : ∀ (x4 : Int32), k8 x4 = some res → Γ 8 [(0, .ref (ya Z 40)), (1, .int x1), (2, .int x2), (3, .int x3), (4, .int x4)] [] σ) : ∀ (n : Nat) (x5 : Int32), Texts_clauseBy_L60 x1 x2 x3 x4 σ k8 n x5 = some res → Γ 60 [(0, .ref (ya Z 40)), (1, .int x1), (2, .int x2), (3, .int x3), (4, .int x4), (5, .int x5)] [] σ := by
  intro n
  induction n with
  | zero => intro x5 hf; exact absurd hf (by simp [Texts_clauseBy_L60])
  | succ n ih =>
    intro x5 hf
    rw [Texts_clauseBy_L60] at hf
    refine r_iload h d_Texts_clauseBy_60 5 rfl ?_
    refine r_if_lt h d_Texts_clauseBy_62 hf (fun hf => ?_) (fun hf => ?_)
    · refine r_iinc (ls' := [(4, .int (x4 + (-1 : Int32))), (0, .ref (ya Z 40)), (1, .int x1), (2, .int x2), (3, .int x3), (5, .int x5)]) h d_Texts_clauseBy_97 4 rfl ki_m1 (by decide) rfl ?_
      refine r_goto h d_Texts_clauseBy_100 ?_
      refine r_sub h [1, 2, 3, 4, 0] rfl ?_
      exact hk8 _ hf
    · refine r_aload_n h d_Texts_clauseBy_65 0 rfl rfl ?_
      refine r_getR h fd_YC_40_4 cf_Texts fl_Texts_24 d_Texts_clauseBy_66 ?_
      refine r_iload h d_Texts_clauseBy_69 4 rfl ?_
      refine r_bipush h d_Texts_clauseBy_71 kb_6 ?_
      refine r_imul h d_Texts_clauseBy_73 ?_
      refine r_iload h d_Texts_clauseBy_74 5 rfl ?_
      refine r_iadd h d_Texts_clauseBy_76 ?_
      refine r_iald h sh_YC_45 d_Texts_clauseBy_77 hf (fun hf => ?_)
      refine r_iload_n h d_Texts_clauseBy_78 1 rfl rfl ?_
      refine r_icmp_ne h d_Texts_clauseBy_79 hf (fun hf => ?_) (fun hf => ?_)
      · refine r_iinc (ls' := [(5, .int (x5 + (-1 : Int32))), (0, .ref (ya Z 40)), (1, .int x1), (2, .int x2), (3, .int x3), (4, .int x4)]) h d_Texts_clauseBy_91 5 rfl ki_m1 (by decide) rfl ?_
        refine r_goto h d_Texts_clauseBy_94 ?_
        refine r_sub h [1, 2, 3, 4, 5, 0] rfl ?_
        exact ih _ hf
      · refine r_iload h d_Texts_clauseBy_82 4 rfl ?_
        refine r_bipush h d_Texts_clauseBy_84 kb_6 ?_
        refine r_imul h d_Texts_clauseBy_86 ?_
        refine r_iload h d_Texts_clauseBy_87 5 rfl ?_
        refine r_iadd h d_Texts_clauseBy_89 ?_
        exact r_ireturn h d_Texts_clauseBy_90.1 (Option.some.inj hf) rfl

set_option maxHeartbeats 4000000 in
theorem w_Texts_clauseBy_L8 {Z : Sy} {Γ : Nat → List (Nat × Value) → List Value → St → Prop} {res : Int32} {x1 : Int32} {x2 : Int32} {x3 : Int32} {σ : St} (h : IsG YC Z R_Texts c_Texts_clauseBy 6 1 (some .int) (some (.int res)) σ Γ) : ∀ (n : Nat) (x4 : Int32), Texts_clauseBy_L8 x1 x2 x3 σ n x4 = some res → Γ 8 [(0, .ref (ya Z 40)), (1, .int x1), (2, .int x2), (3, .int x3), (4, .int x4)] [] σ := by
  intro n
  induction n with
  | zero => intro x4 hf; exact absurd hf (by simp [Texts_clauseBy_L8])
  | succ n ih =>
    intro x4 hf
    rw [Texts_clauseBy_L8] at hf
    refine r_iload h d_Texts_clauseBy_8 4 rfl ?_
    refine r_if_lt h d_Texts_clauseBy_10 hf (fun hf => ?_) (fun hf => ?_)
    · refine r_bipush h d_Texts_clauseBy_103 kb_m9 ?_
      exact r_ireturn h d_Texts_clauseBy_105.1 (Option.some.inj hf) rfl
    · refine r_aload_n h d_Texts_clauseBy_13 0 rfl rfl ?_
      refine r_getR h fd_YC_40_0 cf_Texts fl_Texts_9 d_Texts_clauseBy_14 ?_
      refine r_iload h d_Texts_clauseBy_17 4 rfl ?_
      refine r_iald h sh_YC_41 d_Texts_clauseBy_19 hf (fun hf => ?_)
      refine r_iload_n h d_Texts_clauseBy_20 2 rfl rfl ?_
      refine r_icmp_ne h d_Texts_clauseBy_21 hf (fun hf => ?_) (fun hf => ?_)
      · refine r_iinc (ls' := [(4, .int (x4 + (-1 : Int32))), (0, .ref (ya Z 40)), (1, .int x1), (2, .int x2), (3, .int x3)]) h d_Texts_clauseBy_97 4 rfl ki_m1 (by decide) rfl ?_
        refine r_goto h d_Texts_clauseBy_100 ?_
        refine r_sub h [1, 2, 3, 4, 0] rfl ?_
        exact ih _ hf
      · refine r_aload_n h d_Texts_clauseBy_24 0 rfl rfl ?_
        refine r_getR h fd_YC_40_1 cf_Texts fl_Texts_15 d_Texts_clauseBy_25 ?_
        refine r_iload h d_Texts_clauseBy_28 4 rfl ?_
        refine r_iald h sh_YC_42 d_Texts_clauseBy_30 hf (fun hf => ?_)
        refine r_iload_n h d_Texts_clauseBy_31 3 rfl rfl ?_
        refine r_icmp_gt h d_Texts_clauseBy_32 hf (fun hf => ?_) (fun hf => ?_)
        · refine r_iinc (ls' := [(4, .int (x4 + (-1 : Int32))), (0, .ref (ya Z 40)), (1, .int x1), (2, .int x2), (3, .int x3)]) h d_Texts_clauseBy_97 4 rfl ki_m1 (by decide) rfl ?_
          refine r_goto h d_Texts_clauseBy_100 ?_
          refine r_sub h [1, 2, 3, 4, 0] rfl ?_
          exact ih _ hf
        · refine r_aload_n h d_Texts_clauseBy_35 0 rfl rfl ?_
          refine r_getR h fd_YC_40_2 cf_Texts fl_Texts_18 d_Texts_clauseBy_36 ?_
          refine r_iload h d_Texts_clauseBy_39 4 rfl ?_
          refine r_iald h sh_YC_43 d_Texts_clauseBy_41 hf (fun hf => ?_)
          refine r_iload_n h d_Texts_clauseBy_42 3 rfl rfl ?_
          refine r_icmp_ge h d_Texts_clauseBy_43 hf (fun hf => ?_) (fun hf => ?_)
          · refine r_aload_n h d_Texts_clauseBy_49 0 rfl rfl ?_
            refine r_getR h fd_YC_40_3 cf_Texts fl_Texts_21 d_Texts_clauseBy_50 ?_
            refine r_iload h d_Texts_clauseBy_53 4 rfl ?_
            refine r_iald h sh_YC_44 d_Texts_clauseBy_55 hf (fun hf => ?_)
            refine r_iconst h d_Texts_clauseBy_56 ki_1 ?_
            refine r_isub h d_Texts_clauseBy_57 ?_
            refine r_istore (ls' := [(5, .int ((σ.1 44 (Int32.toNatClampNeg x4)) - (1 : Int32))), (0, .ref (ya Z 40)), (1, .int x1), (2, .int x2), (3, .int x3), (4, .int x4)]) h d_Texts_clauseBy_58 (by decide) rfl ?_
            refine r_sub h [1, 2, 3, 4, 5, 0] rfl ?_
            exact w_Texts_clauseBy_L60 h (fun y4 hf => ih y4 hf) _ _ hf
          · refine r_goto h d_Texts_clauseBy_46 ?_
            refine r_iinc (ls' := [(4, .int (x4 + (-1 : Int32))), (0, .ref (ya Z 40)), (1, .int x1), (2, .int x2), (3, .int x3)]) h d_Texts_clauseBy_97 4 rfl ki_m1 (by decide) rfl ?_
            refine r_goto h d_Texts_clauseBy_100 ?_
            refine r_sub h [1, 2, 3, 4, 0] rfl ?_
            exact ih _ hf

set_option maxHeartbeats 4000000 in
theorem m_Texts_clauseBy {Z : Sy} {σ : St} {res : Int32} {x1 : Int32} {x2 : Int32} {x3 : Int32} (hf : Texts_clauseBy x1 x2 x3 σ = some res) : Ct YC Z y_Texts_clauseBy c_Texts_clauseBy 6 (some .int) 1 [.ref (ya Z 40), .int x1, .int x2, .int x3] σ (some (.int res)) σ := by
  refine Ct.of pn_Texts (Nat.le_of_ble_eq_true rfl) rfl (fun Γ h => ?_)
  have h : IsG YC Z R_Texts c_Texts_clauseBy 6 1 (some .int) (some (.int res)) σ Γ := h
  unfold Texts_clauseBy at hf
  refine r_aload_n h d_Texts_clauseBy_0 0 rfl rfl ?_
  refine r_getI h fd_YC_40_6 cf_Texts fl_Texts_75 d_Texts_clauseBy_1 ?_
  refine r_iconst h d_Texts_clauseBy_4 ki_1 ?_
  refine r_isub h d_Texts_clauseBy_5 ?_
  refine r_istore (ls' := [(4, .int ((σ.1 40 6) - (1 : Int32))), (0, .ref (ya Z 40)), (1, .int x1), (2, .int x2), (3, .int x3)]) h d_Texts_clauseBy_6 (by decide) rfl ?_
  refine r_sub h [1, 2, 3, 4, 0] rfl ?_
  exact w_Texts_clauseBy_L8 h _ _ hf

theorem d_Texts_clauseIn_0 : decode c_Texts_clauseIn 0 = .ok (.aload_n 0, 1) ∧ 0 + 1 = 1 := by decide +kernel
theorem d_Texts_clauseIn_1 : decode c_Texts_clauseIn 1 = .ok (.iload_n 1, 1) ∧ 1 + 1 = 2 := by decide +kernel
theorem d_Texts_clauseIn_2 : decode c_Texts_clauseIn 2 = .ok (.iload_n 2, 1) ∧ 2 + 1 = 3 := by decide +kernel
theorem d_Texts_clauseIn_3 : decode c_Texts_clauseIn 3 = .ok (.iload_n 3, 1) ∧ 3 + 1 = 4 := by decide +kernel
theorem d_Texts_clauseIn_4 : decode c_Texts_clauseIn 4 = .ok (.invokevirtual 78, 3) ∧ 4 + 3 = 7 := by decide +kernel
theorem d_Texts_clauseIn_7 : decode c_Texts_clauseIn 7 = .ok (.istore 4, 2) ∧ 7 + 2 = 9 := by decide +kernel
theorem d_Texts_clauseIn_9 : decode c_Texts_clauseIn 9 = .ok (.iload 4, 2) ∧ 9 + 2 = 11 := by decide +kernel
theorem d_Texts_clauseIn_11 : decode c_Texts_clauseIn 11 = .ok (.bipush (-9), 2) ∧ 11 + 2 = 13 := by decide +kernel
theorem d_Texts_clauseIn_13 : decode c_Texts_clauseIn 13 = .ok (.if_icmp .eq 8, 3) ∧ 13 + 3 = 16 ∧ ((13 : Nat) : Int) + 8 = ((21 : Nat) : Int) := by decide +kernel
theorem d_Texts_clauseIn_16 : decode c_Texts_clauseIn 16 = .ok (.iload 4, 2) ∧ 16 + 2 = 18 := by decide +kernel
theorem d_Texts_clauseIn_18 : decode c_Texts_clauseIn 18 = .ok (.goto 10, 3) ∧ (18 : Int) + 10 = (28 : Int) := by decide +kernel
theorem d_Texts_clauseIn_21 : decode c_Texts_clauseIn 21 = .ok (.aload_n 0, 1) ∧ 21 + 1 = 22 := by decide +kernel
theorem d_Texts_clauseIn_22 : decode c_Texts_clauseIn 22 = .ok (.iload_n 1, 1) ∧ 22 + 1 = 23 := by decide +kernel
theorem d_Texts_clauseIn_23 : decode c_Texts_clauseIn 23 = .ok (.iconst (-1), 1) ∧ 23 + 1 = 24 := by decide +kernel
theorem d_Texts_clauseIn_24 : decode c_Texts_clauseIn 24 = .ok (.iload_n 3, 1) ∧ 24 + 1 = 25 := by decide +kernel
theorem d_Texts_clauseIn_25 : decode c_Texts_clauseIn 25 = .ok (.invokevirtual 78, 3) ∧ 25 + 3 = 28 := by decide +kernel
theorem d_Texts_clauseIn_28 : decode c_Texts_clauseIn 28 = .ok (.ireturn, 1) ∧ 28 + 1 = 29 := by decide +kernel
set_option maxHeartbeats 4000000 in
theorem m_Texts_clauseIn {Z : Sy} {σ : St} {res : Int32} {x1 : Int32} {x2 : Int32} {x3 : Int32} (hf : Texts_clauseIn x1 x2 x3 σ = some res) : Ct YC Z y_Texts_clauseIn c_Texts_clauseIn 5 (some .int) 2 [.ref (ya Z 40), .int x1, .int x2, .int x3] σ (some (.int res)) σ := by
  refine Ct.of pn_Texts (Nat.le_of_ble_eq_true rfl) rfl (fun Γ h => ?_)
  have h : IsG YC Z R_Texts c_Texts_clauseIn 5 2 (some .int) (some (.int res)) σ Γ := h
  unfold Texts_clauseIn at hf
  refine r_aload_n h d_Texts_clauseIn_0 0 rfl rfl ?_
  refine r_iload_n h d_Texts_clauseIn_1 1 rfl rfl ?_
  refine r_iload_n h d_Texts_clauseIn_2 2 rfl rfl ?_
  refine r_iload_n h d_Texts_clauseIn_3 3 rfl rfl ?_
  obtain ⟨r4, e4, hf⟩ := q_bind hf
  refine r_callV (As := [.int x1, .int x2, .int x3]) (rest := []) h sh_YC_40 lk_Texts_78 vk_Texts_78 d_Texts_clauseIn_4 (by decide) rfl rfl (Nat.le_of_ble_eq_true rfl) (m_Texts_clauseBy e4) ?_
  refine r_istore (ls' := [(4, .int r4), (0, .ref (ya Z 40)), (1, .int x1), (2, .int x2), (3, .int x3)]) h d_Texts_clauseIn_7 (by decide) rfl ?_
  refine r_iload h d_Texts_clauseIn_9 0 rfl ?_
  refine r_bipush h d_Texts_clauseIn_11 kb_m9 ?_
  refine r_icmp_eq h d_Texts_clauseIn_13 hf (fun hf => ?_) (fun hf => ?_)
  · refine r_aload_n h d_Texts_clauseIn_21 1 rfl rfl ?_
    refine r_iload_n h d_Texts_clauseIn_22 2 rfl rfl ?_
    refine r_iconst h d_Texts_clauseIn_23 ki_m1 ?_
    refine r_iload_n h d_Texts_clauseIn_24 4 rfl rfl ?_
    obtain ⟨r25, e25, hf⟩ := q_bind hf
    refine r_callV (As := [.int x1, .int (-1 : Int32), .int x3]) (rest := []) h sh_YC_40 lk_Texts_78 vk_Texts_78 d_Texts_clauseIn_25 (by decide) rfl rfl (Nat.le_of_ble_eq_true rfl) (m_Texts_clauseBy e25) ?_
    exact r_ireturn h d_Texts_clauseIn_28.1 (Option.some.inj hf) rfl
  · refine r_iload h d_Texts_clauseIn_16 0 rfl ?_
    refine r_goto h d_Texts_clauseIn_18 ?_
    exact r_ireturn h d_Texts_clauseIn_28.1 (Option.some.inj hf) rfl

theorem d_Texts_valueIn_0 : decode c_Texts_valueIn 0 = .ok (.aload_n 0, 1) ∧ 0 + 1 = 1 := by decide +kernel
theorem d_Texts_valueIn_1 : decode c_Texts_valueIn 1 = .ok (.iload_n 1, 1) ∧ 1 + 1 = 2 := by decide +kernel
theorem d_Texts_valueIn_2 : decode c_Texts_valueIn 2 = .ok (.iload_n 2, 1) ∧ 2 + 1 = 3 := by decide +kernel
theorem d_Texts_valueIn_3 : decode c_Texts_valueIn 3 = .ok (.iload_n 3, 1) ∧ 3 + 1 = 4 := by decide +kernel
theorem d_Texts_valueIn_4 : decode c_Texts_valueIn 4 = .ok (.invokevirtual 82, 3) ∧ 4 + 3 = 7 := by decide +kernel
theorem d_Texts_valueIn_7 : decode c_Texts_valueIn 7 = .ok (.istore 4, 2) ∧ 7 + 2 = 9 := by decide +kernel
theorem d_Texts_valueIn_9 : decode c_Texts_valueIn 9 = .ok (.iload 4, 2) ∧ 9 + 2 = 11 := by decide +kernel
theorem d_Texts_valueIn_11 : decode c_Texts_valueIn 11 = .ok (.bipush (-9), 2) ∧ 11 + 2 = 13 := by decide +kernel
theorem d_Texts_valueIn_13 : decode c_Texts_valueIn 13 = .ok (.if_icmp .eq 11, 3) ∧ 13 + 3 = 16 ∧ ((13 : Nat) : Int) + 11 = ((24 : Nat) : Int) := by decide +kernel
theorem d_Texts_valueIn_16 : decode c_Texts_valueIn 16 = .ok (.aload_n 0, 1) ∧ 16 + 1 = 17 := by decide +kernel
theorem d_Texts_valueIn_17 : decode c_Texts_valueIn 17 = .ok (.getfield 27, 3) ∧ 17 + 3 = 20 := by decide +kernel
theorem d_Texts_valueIn_20 : decode c_Texts_valueIn 20 = .ok (.iload 4, 2) ∧ 20 + 2 = 22 := by decide +kernel
theorem d_Texts_valueIn_22 : decode c_Texts_valueIn 22 = .ok (.iaload, 1) ∧ 22 + 1 = 23 := by decide +kernel
theorem d_Texts_valueIn_23 : decode c_Texts_valueIn 23 = .ok (.ireturn, 1) ∧ 23 + 1 = 24 := by decide +kernel
theorem d_Texts_valueIn_24 : decode c_Texts_valueIn 24 = .ok (.iload_n 1, 1) ∧ 24 + 1 = 25 := by decide +kernel
theorem d_Texts_valueIn_25 : decode c_Texts_valueIn 25 = .ok (.ifCond .ne 7, 3) ∧ 25 + 3 = 28 ∧ ((25 : Nat) : Int) + 7 = ((32 : Nat) : Int) := by decide +kernel
theorem d_Texts_valueIn_28 : decode c_Texts_valueIn 28 = .ok (.iconst 4, 1) ∧ 28 + 1 = 29 := by decide +kernel
theorem d_Texts_valueIn_29 : decode c_Texts_valueIn 29 = .ok (.goto 4, 3) ∧ (29 : Int) + 4 = (33 : Int) := by decide +kernel
theorem d_Texts_valueIn_32 : decode c_Texts_valueIn 32 = .ok (.iconst 0, 1) ∧ 32 + 1 = 33 := by decide +kernel
theorem d_Texts_valueIn_33 : decode c_Texts_valueIn 33 = .ok (.ireturn, 1) ∧ 33 + 1 = 34 := by decide +kernel
set_option maxHeartbeats 4000000 in
theorem m_Texts_valueIn {Z : Sy} {σ : St} {res : Int32} {x1 : Int32} {x2 : Int32} {x3 : Int32} (hf : Texts_valueIn x1 x2 x3 σ = some res) : Ct YC Z y_Texts_valueIn c_Texts_valueIn 5 (some .int) 3 [.ref (ya Z 40), .int x1, .int x2, .int x3] σ (some (.int res)) σ := by
  refine Ct.of pn_Texts (Nat.le_of_ble_eq_true rfl) rfl (fun Γ h => ?_)
  have h : IsG YC Z R_Texts c_Texts_valueIn 5 3 (some .int) (some (.int res)) σ Γ := h
  unfold Texts_valueIn at hf
  refine r_aload_n h d_Texts_valueIn_0 0 rfl rfl ?_
  refine r_iload_n h d_Texts_valueIn_1 1 rfl rfl ?_
  refine r_iload_n h d_Texts_valueIn_2 2 rfl rfl ?_
  refine r_iload_n h d_Texts_valueIn_3 3 rfl rfl ?_
  obtain ⟨r4, e4, hf⟩ := q_bind hf
  refine r_callV (As := [.int x1, .int x2, .int x3]) (rest := []) h sh_YC_40 lk_Texts_82 vk_Texts_82 d_Texts_valueIn_4 (by decide) rfl rfl (Nat.le_of_ble_eq_true rfl) (m_Texts_clauseIn e4) ?_
  refine r_istore (ls' := [(4, .int r4), (0, .ref (ya Z 40)), (1, .int x1), (2, .int x2), (3, .int x3)]) h d_Texts_valueIn_7 (by decide) rfl ?_
  refine r_iload h d_Texts_valueIn_9 0 rfl ?_
  refine r_bipush h d_Texts_valueIn_11 kb_m9 ?_
  refine r_icmp_eq h d_Texts_valueIn_13 hf (fun hf => ?_) (fun hf => ?_)
  · refine r_iload_n h d_Texts_valueIn_24 2 rfl rfl ?_
    refine r_if_ne h d_Texts_valueIn_25 hf (fun hf => ?_) (fun hf => ?_)
    · refine r_iconst h d_Texts_valueIn_32 ki_0 ?_
      exact r_ireturn h d_Texts_valueIn_33.1 (Option.some.inj hf) rfl
    · refine r_iconst h d_Texts_valueIn_28 ki_4 ?_
      refine r_goto h d_Texts_valueIn_29 ?_
      exact r_ireturn h d_Texts_valueIn_33.1 (Option.some.inj hf) rfl
  · refine r_aload_n h d_Texts_valueIn_16 1 rfl rfl ?_
    refine r_getR h fd_YC_40_5 cf_Texts fl_Texts_27 d_Texts_valueIn_17 ?_
    refine r_iload h d_Texts_valueIn_20 0 rfl ?_
    refine r_iald h sh_YC_46 d_Texts_valueIn_22 hf (fun hf => ?_)
    exact r_ireturn h d_Texts_valueIn_23.1 (Option.some.inj hf) rfl

theorem d_P_force_0 : decode c_P_force 0 = .ok (.iload_n 1, 1) ∧ 0 + 1 = 1 := by decide +kernel
theorem d_P_force_1 : decode c_P_force 1 = .ok (.iconst 4, 1) ∧ 1 + 1 = 2 := by decide +kernel
theorem d_P_force_2 : decode c_P_force 2 = .ok (.invokestatic 96, 3) ∧ 2 + 3 = 5 := by decide +kernel
theorem d_P_force_5 : decode c_P_force 5 = .ok (.ifCond .eq 22, 3) ∧ 5 + 3 = 8 ∧ ((5 : Nat) : Int) + 22 = ((27 : Nat) : Int) := by decide +kernel
theorem d_P_force_8 : decode c_P_force 8 = .ok (.iload_n 2, 1) ∧ 8 + 1 = 9 := by decide +kernel
theorem d_P_force_9 : decode c_P_force 9 = .ok (.bipush 6, 2) ∧ 9 + 2 = 11 := by decide +kernel
theorem d_P_force_11 : decode c_P_force 11 = .ok (.invokestatic 96, 3) ∧ 11 + 3 = 14 := by decide +kernel
theorem d_P_force_14 : decode c_P_force 14 = .ok (.ifCond .eq 13, 3) ∧ 14 + 3 = 17 ∧ ((14 : Nat) : Int) + 13 = ((27 : Nat) : Int) := by decide +kernel
theorem d_P_force_17 : decode c_P_force 17 = .ok (.iload_n 3, 1) ∧ 17 + 1 = 18 := by decide +kernel
theorem d_P_force_18 : decode c_P_force 18 = .ok (.sipush 10000, 3) ∧ 18 + 3 = 21 := by decide +kernel
theorem d_P_force_21 : decode c_P_force 21 = .ok (.invokestatic 96, 3) ∧ 21 + 3 = 24 := by decide +kernel
theorem d_P_force_24 : decode c_P_force 24 = .ok (.ifCond .ne 6, 3) ∧ 24 + 3 = 27 ∧ ((24 : Nat) : Int) + 6 = ((30 : Nat) : Int) := by decide +kernel
theorem d_P_force_27 : decode c_P_force 27 = .ok (.bipush (-2), 2) ∧ 27 + 2 = 29 := by decide +kernel
theorem d_P_force_29 : decode c_P_force 29 = .ok (.ireturn, 1) ∧ 29 + 1 = 30 := by decide +kernel
theorem d_P_force_30 : decode c_P_force 30 = .ok (.aload_n 0, 1) ∧ 30 + 1 = 31 := by decide +kernel
theorem d_P_force_31 : decode c_P_force 31 = .ok (.getfield 57, 3) ∧ 31 + 3 = 34 := by decide +kernel
theorem d_P_force_34 : decode c_P_force 34 = .ok (.iload_n 1, 1) ∧ 34 + 1 = 35 := by decide +kernel
theorem d_P_force_35 : decode c_P_force 35 = .ok (.iload_n 2, 1) ∧ 35 + 1 = 36 := by decide +kernel
theorem d_P_force_36 : decode c_P_force 36 = .ok (.iload_n 3, 1) ∧ 36 + 1 = 37 := by decide +kernel
theorem d_P_force_37 : decode c_P_force 37 = .ok (.invokevirtual 225, 3) ∧ 37 + 3 = 40 := by decide +kernel
theorem d_P_force_40 : decode c_P_force 40 = .ok (.ireturn, 1) ∧ 40 + 1 = 41 := by decide +kernel
set_option maxHeartbeats 4000000 in
theorem m_P_force {Z : Sy} {σ : St} {res : Int32} {x1 : Int32} {x2 : Int32} {x3 : Int32} (hf : P_force x1 x2 x3 σ = some res) : Ct YC Z y_P_force c_P_force 4 (some .int) 4 [.ref (ya Z 0), .int x1, .int x2, .int x3] σ (some (.int res)) σ := by
  refine Ct.of pn_P (Nat.le_of_ble_eq_true rfl) rfl (fun Γ h => ?_)
  have h : IsG YC Z R_P c_P_force 4 4 (some .int) (some (.int res)) σ Γ := h
  unfold P_force at hf
  refine r_iload_n h d_P_force_0 1 rfl rfl ?_
  refine r_iconst h d_P_force_1 ki_4 ?_
  obtain ⟨r2, e2, hf⟩ := q_bind hf
  refine r_callS (As := [.int x1, .int (4 : Int32)]) (rest := []) h lk_P_96 sk_P_96 d_P_force_2 (by decide) rfl rfl (Nat.le_of_ble_eq_true rfl) (m_P_isBelow e2) ?_
  refine r_bif_eq h d_P_force_5 hf (fun hf => ?_) (fun hf => ?_)
  · refine r_bipush h d_P_force_27 kb_m2 ?_
    exact r_ireturn h d_P_force_29.1 (Option.some.inj hf) rfl
  · refine r_iload_n h d_P_force_8 2 rfl rfl ?_
    refine r_bipush h d_P_force_9 kb_6 ?_
    obtain ⟨r11, e11, hf⟩ := q_bind hf
    refine r_callS (As := [.int x2, .int (6 : Int32)]) (rest := []) h lk_P_96 sk_P_96 d_P_force_11 (by decide) rfl rfl (Nat.le_of_ble_eq_true rfl) (m_P_isBelow e11) ?_
    refine r_bif_eq h d_P_force_14 hf (fun hf => ?_) (fun hf => ?_)
    · refine r_bipush h d_P_force_27 kb_m2 ?_
      exact r_ireturn h d_P_force_29.1 (Option.some.inj hf) rfl
    · refine r_iload_n h d_P_force_17 3 rfl rfl ?_
      refine r_sipush h d_P_force_18 ks_10000 ?_
      obtain ⟨r21, e21, hf⟩ := q_bind hf
      refine r_callS (As := [.int x3, .int (10000 : Int32)]) (rest := []) h lk_P_96 sk_P_96 d_P_force_21 (by decide) rfl rfl (Nat.le_of_ble_eq_true rfl) (m_P_isBelow e21) ?_
      refine r_bif_ne h d_P_force_24 hf (fun hf => ?_) (fun hf => ?_)
      · refine r_aload_n h d_P_force_30 0 rfl rfl ?_
        refine r_getR h fd_YC_0_7 cf_P fl_P_57 d_P_force_31 ?_
        refine r_iload_n h d_P_force_34 1 rfl rfl ?_
        refine r_iload_n h d_P_force_35 2 rfl rfl ?_
        refine r_iload_n h d_P_force_36 3 rfl rfl ?_
        obtain ⟨r37, e37, hf⟩ := q_bind hf
        refine r_callV (As := [.int x1, .int x2, .int x3]) (rest := []) h sh_YC_40 lk_P_225 vk_P_225 d_P_force_37 (by decide) rfl rfl (Nat.le_of_ble_eq_true rfl) (m_Texts_valueIn e37) ?_
        exact r_ireturn h d_P_force_40.1 (Option.some.inj hf) rfl
      · refine r_bipush h d_P_force_27 kb_m2 ?_
        exact r_ireturn h d_P_force_29.1 (Option.some.inj hf) rfl

theorem d_P_bar_0 : decode c_P_bar 0 = .ok (.iload_n 1, 1) ∧ 0 + 1 = 1 := by decide +kernel
theorem d_P_bar_1 : decode c_P_bar 1 = .ok (.bipush 8, 2) ∧ 1 + 2 = 3 := by decide +kernel
theorem d_P_bar_3 : decode c_P_bar 3 = .ok (.invokestatic 96, 3) ∧ 3 + 3 = 6 := by decide +kernel
theorem d_P_bar_6 : decode c_P_bar 6 = .ok (.ifCond .eq 22, 3) ∧ 6 + 3 = 9 ∧ ((6 : Nat) : Int) + 22 = ((28 : Nat) : Int) := by decide +kernel
theorem d_P_bar_9 : decode c_P_bar 9 = .ok (.iload_n 2, 1) ∧ 9 + 1 = 10 := by decide +kernel
theorem d_P_bar_10 : decode c_P_bar 10 = .ok (.bipush 6, 2) ∧ 10 + 2 = 12 := by decide +kernel
theorem d_P_bar_12 : decode c_P_bar 12 = .ok (.invokestatic 96, 3) ∧ 12 + 3 = 15 := by decide +kernel
theorem d_P_bar_15 : decode c_P_bar 15 = .ok (.ifCond .eq 13, 3) ∧ 15 + 3 = 18 ∧ ((15 : Nat) : Int) + 13 = ((28 : Nat) : Int) := by decide +kernel
theorem d_P_bar_18 : decode c_P_bar 18 = .ok (.iload_n 3, 1) ∧ 18 + 1 = 19 := by decide +kernel
theorem d_P_bar_19 : decode c_P_bar 19 = .ok (.sipush 10000, 3) ∧ 19 + 3 = 22 := by decide +kernel
theorem d_P_bar_22 : decode c_P_bar 22 = .ok (.invokestatic 96, 3) ∧ 22 + 3 = 25 := by decide +kernel
theorem d_P_bar_25 : decode c_P_bar 25 = .ok (.ifCond .ne 6, 3) ∧ 25 + 3 = 28 ∧ ((25 : Nat) : Int) + 6 = ((31 : Nat) : Int) := by decide +kernel
theorem d_P_bar_28 : decode c_P_bar 28 = .ok (.bipush (-2), 2) ∧ 28 + 2 = 30 := by decide +kernel
theorem d_P_bar_30 : decode c_P_bar 30 = .ok (.ireturn, 1) ∧ 30 + 1 = 31 := by decide +kernel
theorem d_P_bar_31 : decode c_P_bar 31 = .ok (.aload_n 0, 1) ∧ 31 + 1 = 32 := by decide +kernel
theorem d_P_bar_32 : decode c_P_bar 32 = .ok (.getfield 57, 3) ∧ 32 + 3 = 35 := by decide +kernel
theorem d_P_bar_35 : decode c_P_bar 35 = .ok (.iconst 4, 1) ∧ 35 + 1 = 36 := by decide +kernel
theorem d_P_bar_36 : decode c_P_bar 36 = .ok (.iload_n 1, 1) ∧ 36 + 1 = 37 := by decide +kernel
theorem d_P_bar_37 : decode c_P_bar 37 = .ok (.iadd, 1) ∧ 37 + 1 = 38 := by decide +kernel
theorem d_P_bar_38 : decode c_P_bar 38 = .ok (.iload_n 2, 1) ∧ 38 + 1 = 39 := by decide +kernel
theorem d_P_bar_39 : decode c_P_bar 39 = .ok (.iload_n 3, 1) ∧ 39 + 1 = 40 := by decide +kernel
theorem d_P_bar_40 : decode c_P_bar 40 = .ok (.invokevirtual 225, 3) ∧ 40 + 3 = 43 := by decide +kernel
theorem d_P_bar_43 : decode c_P_bar 43 = .ok (.ireturn, 1) ∧ 43 + 1 = 44 := by decide +kernel
set_option maxHeartbeats 4000000 in
theorem m_P_bar {Z : Sy} {σ : St} {res : Int32} {x1 : Int32} {x2 : Int32} {x3 : Int32} (hf : P_bar x1 x2 x3 σ = some res) : Ct YC Z y_P_bar c_P_bar 4 (some .int) 4 [.ref (ya Z 0), .int x1, .int x2, .int x3] σ (some (.int res)) σ := by
  refine Ct.of pn_P (Nat.le_of_ble_eq_true rfl) rfl (fun Γ h => ?_)
  have h : IsG YC Z R_P c_P_bar 4 4 (some .int) (some (.int res)) σ Γ := h
  unfold P_bar at hf
  refine r_iload_n h d_P_bar_0 1 rfl rfl ?_
  refine r_bipush h d_P_bar_1 kb_8 ?_
  obtain ⟨r3, e3, hf⟩ := q_bind hf
  refine r_callS (As := [.int x1, .int (8 : Int32)]) (rest := []) h lk_P_96 sk_P_96 d_P_bar_3 (by decide) rfl rfl (Nat.le_of_ble_eq_true rfl) (m_P_isBelow e3) ?_
  refine r_bif_eq h d_P_bar_6 hf (fun hf => ?_) (fun hf => ?_)
  · refine r_bipush h d_P_bar_28 kb_m2 ?_
    exact r_ireturn h d_P_bar_30.1 (Option.some.inj hf) rfl
  · refine r_iload_n h d_P_bar_9 2 rfl rfl ?_
    refine r_bipush h d_P_bar_10 kb_6 ?_
    obtain ⟨r12, e12, hf⟩ := q_bind hf
    refine r_callS (As := [.int x2, .int (6 : Int32)]) (rest := []) h lk_P_96 sk_P_96 d_P_bar_12 (by decide) rfl rfl (Nat.le_of_ble_eq_true rfl) (m_P_isBelow e12) ?_
    refine r_bif_eq h d_P_bar_15 hf (fun hf => ?_) (fun hf => ?_)
    · refine r_bipush h d_P_bar_28 kb_m2 ?_
      exact r_ireturn h d_P_bar_30.1 (Option.some.inj hf) rfl
    · refine r_iload_n h d_P_bar_18 3 rfl rfl ?_
      refine r_sipush h d_P_bar_19 ks_10000 ?_
      obtain ⟨r22, e22, hf⟩ := q_bind hf
      refine r_callS (As := [.int x3, .int (10000 : Int32)]) (rest := []) h lk_P_96 sk_P_96 d_P_bar_22 (by decide) rfl rfl (Nat.le_of_ble_eq_true rfl) (m_P_isBelow e22) ?_
      refine r_bif_ne h d_P_bar_25 hf (fun hf => ?_) (fun hf => ?_)
      · refine r_aload_n h d_P_bar_31 0 rfl rfl ?_
        refine r_getR h fd_YC_0_7 cf_P fl_P_57 d_P_bar_32 ?_
        refine r_iconst h d_P_bar_35 ki_4 ?_
        refine r_iload_n h d_P_bar_36 1 rfl rfl ?_
        refine r_iadd h d_P_bar_37 ?_
        refine r_iload_n h d_P_bar_38 2 rfl rfl ?_
        refine r_iload_n h d_P_bar_39 3 rfl rfl ?_
        obtain ⟨r40, e40, hf⟩ := q_bind hf
        refine r_callV (As := [.int ((4 : Int32) + x1), .int x2, .int x3]) (rest := []) h sh_YC_40 lk_P_225 vk_P_225 d_P_bar_40 (by decide) rfl rfl (Nat.le_of_ble_eq_true rfl) (m_Texts_valueIn e40) ?_
        exact r_ireturn h d_P_bar_43.1 (Option.some.inj hf) rfl
      · refine r_bipush h d_P_bar_28 kb_m2 ?_
        exact r_ireturn h d_P_bar_30.1 (Option.some.inj hf) rfl

theorem d_P_subjectOf_0 : decode c_P_subjectOf 0 = .ok (.iload_n 0, 1) ∧ 0 + 1 = 1 := by decide +kernel
theorem d_P_subjectOf_1 : decode c_P_subjectOf 1 = .ok (.iconst 4, 1) ∧ 1 + 1 = 2 := by decide +kernel
theorem d_P_subjectOf_2 : decode c_P_subjectOf 2 = .ok (.invokestatic 96, 3) ∧ 2 + 3 = 5 := by decide +kernel
theorem d_P_subjectOf_5 : decode c_P_subjectOf 5 = .ok (.ifCond .eq 5, 3) ∧ 5 + 3 = 8 ∧ ((5 : Nat) : Int) + 5 = ((10 : Nat) : Int) := by decide +kernel
theorem d_P_subjectOf_8 : decode c_P_subjectOf 8 = .ok (.iload_n 0, 1) ∧ 8 + 1 = 9 := by decide +kernel
theorem d_P_subjectOf_9 : decode c_P_subjectOf 9 = .ok (.ireturn, 1) ∧ 9 + 1 = 10 := by decide +kernel
theorem d_P_subjectOf_10 : decode c_P_subjectOf 10 = .ok (.iload_n 0, 1) ∧ 10 + 1 = 11 := by decide +kernel
theorem d_P_subjectOf_11 : decode c_P_subjectOf 11 = .ok (.iconst 4, 1) ∧ 11 + 1 = 12 := by decide +kernel
theorem d_P_subjectOf_12 : decode c_P_subjectOf 12 = .ok (.if_icmp .ne 16, 3) ∧ 12 + 3 = 15 ∧ ((12 : Nat) : Int) + 16 = ((28 : Nat) : Int) := by decide +kernel
theorem d_P_subjectOf_15 : decode c_P_subjectOf 15 = .ok (.iload_n 1, 1) ∧ 15 + 1 = 16 := by decide +kernel
theorem d_P_subjectOf_16 : decode c_P_subjectOf 16 = .ok (.bipush 8, 2) ∧ 16 + 2 = 18 := by decide +kernel
theorem d_P_subjectOf_18 : decode c_P_subjectOf 18 = .ok (.invokestatic 96, 3) ∧ 18 + 3 = 21 := by decide +kernel
theorem d_P_subjectOf_21 : decode c_P_subjectOf 21 = .ok (.ifCond .eq 7, 3) ∧ 21 + 3 = 24 ∧ ((21 : Nat) : Int) + 7 = ((28 : Nat) : Int) := by decide +kernel
theorem d_P_subjectOf_24 : decode c_P_subjectOf 24 = .ok (.iconst 4, 1) ∧ 24 + 1 = 25 := by decide +kernel
theorem d_P_subjectOf_25 : decode c_P_subjectOf 25 = .ok (.iload_n 1, 1) ∧ 25 + 1 = 26 := by decide +kernel
theorem d_P_subjectOf_26 : decode c_P_subjectOf 26 = .ok (.iadd, 1) ∧ 26 + 1 = 27 := by decide +kernel
theorem d_P_subjectOf_27 : decode c_P_subjectOf 27 = .ok (.ireturn, 1) ∧ 27 + 1 = 28 := by decide +kernel
theorem d_P_subjectOf_28 : decode c_P_subjectOf 28 = .ok (.bipush (-9), 2) ∧ 28 + 2 = 30 := by decide +kernel
theorem d_P_subjectOf_30 : decode c_P_subjectOf 30 = .ok (.ireturn, 1) ∧ 30 + 1 = 31 := by decide +kernel
set_option maxHeartbeats 4000000 in
theorem m_P_subjectOf {Z : Sy} {σ : St} {res : Int32} {x0 : Int32} {x1 : Int32} (hf : P_subjectOf x0 x1 σ = some res) : Ct YC Z y_P_subjectOf c_P_subjectOf 2 (some .int) 2 [.int x0, .int x1] σ (some (.int res)) σ := by
  refine Ct.of pn_P (Nat.le_of_ble_eq_true rfl) rfl (fun Γ h => ?_)
  have h : IsG YC Z R_P c_P_subjectOf 2 2 (some .int) (some (.int res)) σ Γ := h
  unfold P_subjectOf at hf
  refine r_iload_n h d_P_subjectOf_0 0 rfl rfl ?_
  refine r_iconst h d_P_subjectOf_1 ki_4 ?_
  obtain ⟨r2, e2, hf⟩ := q_bind hf
  refine r_callS (As := [.int x0, .int (4 : Int32)]) (rest := []) h lk_P_96 sk_P_96 d_P_subjectOf_2 (by decide) rfl rfl (Nat.le_of_ble_eq_true rfl) (m_P_isBelow e2) ?_
  refine r_bif_eq h d_P_subjectOf_5 hf (fun hf => ?_) (fun hf => ?_)
  · refine r_iload_n h d_P_subjectOf_10 0 rfl rfl ?_
    refine r_iconst h d_P_subjectOf_11 ki_4 ?_
    refine r_icmp_ne h d_P_subjectOf_12 hf (fun hf => ?_) (fun hf => ?_)
    · refine r_bipush h d_P_subjectOf_28 kb_m9 ?_
      exact r_ireturn h d_P_subjectOf_30.1 (Option.some.inj hf) rfl
    · refine r_iload_n h d_P_subjectOf_15 1 rfl rfl ?_
      refine r_bipush h d_P_subjectOf_16 kb_8 ?_
      obtain ⟨r18, e18, hf⟩ := q_bind hf
      refine r_callS (As := [.int x1, .int (8 : Int32)]) (rest := []) h lk_P_96 sk_P_96 d_P_subjectOf_18 (by decide) rfl rfl (Nat.le_of_ble_eq_true rfl) (m_P_isBelow e18) ?_
      refine r_bif_eq h d_P_subjectOf_21 hf (fun hf => ?_) (fun hf => ?_)
      · refine r_bipush h d_P_subjectOf_28 kb_m9 ?_
        exact r_ireturn h d_P_subjectOf_30.1 (Option.some.inj hf) rfl
      · refine r_iconst h d_P_subjectOf_24 ki_4 ?_
        refine r_iload_n h d_P_subjectOf_25 1 rfl rfl ?_
        refine r_iadd h d_P_subjectOf_26 ?_
        exact r_ireturn h d_P_subjectOf_27.1 (Option.some.inj hf) rfl
  · refine r_iload_n h d_P_subjectOf_8 0 rfl rfl ?_
    exact r_ireturn h d_P_subjectOf_9.1 (Option.some.inj hf) rfl

theorem d_Texts_textOf_0 : decode c_Texts_textOf 0 = .ok (.iload_n 1, 1) ∧ 0 + 1 = 1 := by decide +kernel
theorem d_Texts_textOf_1 : decode c_Texts_textOf 1 = .ok (.bipush (-9), 2) ∧ 1 + 2 = 3 := by decide +kernel
theorem d_Texts_textOf_3 : decode c_Texts_textOf 3 = .ok (.if_icmp .ne 8, 3) ∧ 3 + 3 = 6 ∧ ((3 : Nat) : Int) + 8 = ((11 : Nat) : Int) := by decide +kernel
theorem d_Texts_textOf_6 : decode c_Texts_textOf 6 = .ok (.bipush (-9), 2) ∧ 6 + 2 = 8 := by decide +kernel
theorem d_Texts_textOf_8 : decode c_Texts_textOf 8 = .ok (.goto 7, 3) ∧ (8 : Int) + 7 = (15 : Int) := by decide +kernel
theorem d_Texts_textOf_11 : decode c_Texts_textOf 11 = .ok (.iload_n 1, 1) ∧ 11 + 1 = 12 := by decide +kernel
theorem d_Texts_textOf_12 : decode c_Texts_textOf 12 = .ok (.bipush 6, 2) ∧ 12 + 2 = 14 := by decide +kernel
theorem d_Texts_textOf_14 : decode c_Texts_textOf 14 = .ok (.idiv, 1) ∧ 14 + 1 = 15 := by decide +kernel
theorem d_Texts_textOf_15 : decode c_Texts_textOf 15 = .ok (.ireturn, 1) ∧ 15 + 1 = 16 := by decide +kernel
set_option maxHeartbeats 4000000 in
theorem m_Texts_textOf {Z : Sy} {σ : St} {res : Int32} {x1 : Int32} (hf : Texts_textOf x1 σ = some res) : Ct YC Z y_Texts_textOf c_Texts_textOf 2 (some .int) 1 [.ref (ya Z 40), .int x1] σ (some (.int res)) σ := by
  refine Ct.of pn_Texts (Nat.le_of_ble_eq_true rfl) rfl (fun Γ h => ?_)
  have h : IsG YC Z R_Texts c_Texts_textOf 2 1 (some .int) (some (.int res)) σ Γ := h
  unfold Texts_textOf at hf
  refine r_iload_n h d_Texts_textOf_0 1 rfl rfl ?_
  refine r_bipush h d_Texts_textOf_1 kb_m9 ?_
  refine r_icmp_ne h d_Texts_textOf_3 hf (fun hf => ?_) (fun hf => ?_)
  · refine r_iload_n h d_Texts_textOf_11 1 rfl rfl ?_
    refine r_bipush h d_Texts_textOf_12 kb_6 ?_
    refine r_idiv h d_Texts_textOf_14 (by decide) ?_
    exact r_ireturn h d_Texts_textOf_15.1 (Option.some.inj hf) rfl
  · refine r_bipush h d_Texts_textOf_6 kb_m9 ?_
    refine r_goto h d_Texts_textOf_8 ?_
    exact r_ireturn h d_Texts_textOf_15.1 (Option.some.inj hf) rfl

theorem d_P_why_0 : decode c_P_why 0 = .ok (.iload_n 1, 1) ∧ 0 + 1 = 1 := by decide +kernel
theorem d_P_why_1 : decode c_P_why 1 = .ok (.iload_n 2, 1) ∧ 1 + 1 = 2 := by decide +kernel
theorem d_P_why_2 : decode c_P_why 2 = .ok (.invokestatic 228, 3) ∧ 2 + 3 = 5 := by decide +kernel
theorem d_P_why_5 : decode c_P_why 5 = .ok (.istore 5, 2) ∧ 5 + 2 = 7 := by decide +kernel
theorem d_P_why_7 : decode c_P_why 7 = .ok (.iload 5, 2) ∧ 7 + 2 = 9 := by decide +kernel
theorem d_P_why_9 : decode c_P_why 9 = .ok (.bipush (-9), 2) ∧ 9 + 2 = 11 := by decide +kernel
theorem d_P_why_11 : decode c_P_why 11 = .ok (.if_icmp .eq 23, 3) ∧ 11 + 3 = 14 ∧ ((11 : Nat) : Int) + 23 = ((34 : Nat) : Int) := by decide +kernel
theorem d_P_why_14 : decode c_P_why 14 = .ok (.iload_n 3, 1) ∧ 14 + 1 = 15 := by decide +kernel
theorem d_P_why_15 : decode c_P_why 15 = .ok (.bipush 6, 2) ∧ 15 + 2 = 17 := by decide +kernel
theorem d_P_why_17 : decode c_P_why 17 = .ok (.invokestatic 96, 3) ∧ 17 + 3 = 20 := by decide +kernel
theorem d_P_why_20 : decode c_P_why 20 = .ok (.ifCond .eq 14, 3) ∧ 20 + 3 = 23 ∧ ((20 : Nat) : Int) + 14 = ((34 : Nat) : Int) := by decide +kernel
theorem d_P_why_23 : decode c_P_why 23 = .ok (.iload 4, 2) ∧ 23 + 2 = 25 := by decide +kernel
theorem d_P_why_25 : decode c_P_why 25 = .ok (.sipush 10000, 3) ∧ 25 + 3 = 28 := by decide +kernel
theorem d_P_why_28 : decode c_P_why 28 = .ok (.invokestatic 96, 3) ∧ 28 + 3 = 31 := by decide +kernel
theorem d_P_why_31 : decode c_P_why 31 = .ok (.ifCond .ne 6, 3) ∧ 31 + 3 = 34 ∧ ((31 : Nat) : Int) + 6 = ((37 : Nat) : Int) := by decide +kernel
theorem d_P_why_34 : decode c_P_why 34 = .ok (.bipush (-2), 2) ∧ 34 + 2 = 36 := by decide +kernel
theorem d_P_why_36 : decode c_P_why 36 = .ok (.ireturn, 1) ∧ 36 + 1 = 37 := by decide +kernel
theorem d_P_why_37 : decode c_P_why 37 = .ok (.aload_n 0, 1) ∧ 37 + 1 = 38 := by decide +kernel
theorem d_P_why_38 : decode c_P_why 38 = .ok (.getfield 57, 3) ∧ 38 + 3 = 41 := by decide +kernel
theorem d_P_why_41 : decode c_P_why 41 = .ok (.aload_n 0, 1) ∧ 41 + 1 = 42 := by decide +kernel
theorem d_P_why_42 : decode c_P_why 42 = .ok (.getfield 57, 3) ∧ 42 + 3 = 45 := by decide +kernel
theorem d_P_why_45 : decode c_P_why 45 = .ok (.iload 5, 2) ∧ 45 + 2 = 47 := by decide +kernel
theorem d_P_why_47 : decode c_P_why 47 = .ok (.iload_n 3, 1) ∧ 47 + 1 = 48 := by decide +kernel
theorem d_P_why_48 : decode c_P_why 48 = .ok (.iload 4, 2) ∧ 48 + 2 = 50 := by decide +kernel
theorem d_P_why_50 : decode c_P_why 50 = .ok (.invokevirtual 231, 3) ∧ 50 + 3 = 53 := by decide +kernel
theorem d_P_why_53 : decode c_P_why 53 = .ok (.invokevirtual 234, 3) ∧ 53 + 3 = 56 := by decide +kernel
theorem d_P_why_56 : decode c_P_why 56 = .ok (.ireturn, 1) ∧ 56 + 1 = 57 := by decide +kernel
set_option maxHeartbeats 4000000 in
theorem m_P_why {Z : Sy} {σ : St} {res : Int32} {x1 : Int32} {x2 : Int32} {x3 : Int32} {x4 : Int32} (hf : P_why x1 x2 x3 x4 σ = some res) : Ct YC Z y_P_why c_P_why 6 (some .int) 3 [.ref (ya Z 0), .int x1, .int x2, .int x3, .int x4] σ (some (.int res)) σ := by
  refine Ct.of pn_P (Nat.le_of_ble_eq_true rfl) rfl (fun Γ h => ?_)
  have h : IsG YC Z R_P c_P_why 6 3 (some .int) (some (.int res)) σ Γ := h
  unfold P_why at hf
  refine r_iload_n h d_P_why_0 1 rfl rfl ?_
  refine r_iload_n h d_P_why_1 2 rfl rfl ?_
  obtain ⟨r2, e2, hf⟩ := q_bind hf
  refine r_callS (As := [.int x1, .int x2]) (rest := []) h lk_P_228 sk_P_228 d_P_why_2 (by decide) rfl rfl (Nat.le_of_ble_eq_true rfl) (m_P_subjectOf e2) ?_
  refine r_istore (ls' := [(5, .int r2), (0, .ref (ya Z 0)), (1, .int x1), (2, .int x2), (3, .int x3), (4, .int x4)]) h d_P_why_5 (by decide) rfl ?_
  refine r_iload h d_P_why_7 0 rfl ?_
  refine r_bipush h d_P_why_9 kb_m9 ?_
  refine r_icmp_eq h d_P_why_11 hf (fun hf => ?_) (fun hf => ?_)
  · refine r_bipush h d_P_why_34 kb_m2 ?_
    exact r_ireturn h d_P_why_36.1 (Option.some.inj hf) rfl
  · refine r_iload_n h d_P_why_14 4 rfl rfl ?_
    refine r_bipush h d_P_why_15 kb_6 ?_
    obtain ⟨r17, e17, hf⟩ := q_bind hf
    refine r_callS (As := [.int x3, .int (6 : Int32)]) (rest := []) h lk_P_96 sk_P_96 d_P_why_17 (by decide) rfl rfl (Nat.le_of_ble_eq_true rfl) (m_P_isBelow e17) ?_
    refine r_bif_eq h d_P_why_20 hf (fun hf => ?_) (fun hf => ?_)
    · refine r_bipush h d_P_why_34 kb_m2 ?_
      exact r_ireturn h d_P_why_36.1 (Option.some.inj hf) rfl
    · refine r_iload h d_P_why_23 5 rfl ?_
      refine r_sipush h d_P_why_25 ks_10000 ?_
      obtain ⟨r28, e28, hf⟩ := q_bind hf
      refine r_callS (As := [.int x4, .int (10000 : Int32)]) (rest := []) h lk_P_96 sk_P_96 d_P_why_28 (by decide) rfl rfl (Nat.le_of_ble_eq_true rfl) (m_P_isBelow e28) ?_
      refine r_bif_ne h d_P_why_31 hf (fun hf => ?_) (fun hf => ?_)
      · refine r_aload_n h d_P_why_37 1 rfl rfl ?_
        refine r_getR h fd_YC_0_7 cf_P fl_P_57 d_P_why_38 ?_
        refine r_aload_n h d_P_why_41 1 rfl rfl ?_
        refine r_getR h fd_YC_0_7 cf_P fl_P_57 d_P_why_42 ?_
        refine r_iload h d_P_why_45 0 rfl ?_
        refine r_iload_n h d_P_why_47 4 rfl rfl ?_
        refine r_iload h d_P_why_48 5 rfl ?_
        obtain ⟨r50, e50, hf⟩ := q_bind hf
        refine r_callV (As := [.int r2, .int x3, .int x4]) (rest := [.ref (ya Z 40)]) h sh_YC_40 lk_P_231 vk_P_231 d_P_why_50 (by decide) rfl rfl (Nat.le_of_ble_eq_true rfl) (m_Texts_clauseIn e50) ?_
        obtain ⟨r53, e53, hf⟩ := q_bind hf
        refine r_callV (As := [.int r50]) (rest := []) h sh_YC_40 lk_P_234 vk_P_234 d_P_why_53 (by decide) rfl rfl (Nat.le_of_ble_eq_true rfl) (m_Texts_textOf e53) ?_
        exact r_ireturn h d_P_why_56.1 (Option.some.inj hf) rfl
      · refine r_bipush h d_P_why_34 kb_m2 ?_
        exact r_ireturn h d_P_why_36.1 (Option.some.inj hf) rfl

theorem d_Texts_doQuarrel_0 : decode c_Texts_doQuarrel 0 = .ok (.aload_n 0, 1) ∧ 0 + 1 = 1 := by decide +kernel
theorem d_Texts_doQuarrel_1 : decode c_Texts_doQuarrel 1 = .ok (.iload_n 1, 1) ∧ 1 + 1 = 2 := by decide +kernel
theorem d_Texts_doQuarrel_2 : decode c_Texts_doQuarrel 2 = .ok (.iload_n 2, 1) ∧ 2 + 1 = 3 := by decide +kernel
theorem d_Texts_doQuarrel_3 : decode c_Texts_doQuarrel 3 = .ok (.iload_n 3, 1) ∧ 3 + 1 = 4 := by decide +kernel
theorem d_Texts_doQuarrel_4 : decode c_Texts_doQuarrel 4 = .ok (.invokevirtual 78, 3) ∧ 4 + 3 = 7 := by decide +kernel
theorem d_Texts_doQuarrel_7 : decode c_Texts_doQuarrel 7 = .ok (.istore 4, 2) ∧ 7 + 2 = 9 := by decide +kernel
theorem d_Texts_doQuarrel_9 : decode c_Texts_doQuarrel 9 = .ok (.aload_n 0, 1) ∧ 9 + 1 = 10 := by decide +kernel
theorem d_Texts_doQuarrel_10 : decode c_Texts_doQuarrel 10 = .ok (.iload_n 1, 1) ∧ 10 + 1 = 11 := by decide +kernel
theorem d_Texts_doQuarrel_11 : decode c_Texts_doQuarrel 11 = .ok (.iconst (-1), 1) ∧ 11 + 1 = 12 := by decide +kernel
theorem d_Texts_doQuarrel_12 : decode c_Texts_doQuarrel 12 = .ok (.iload_n 3, 1) ∧ 12 + 1 = 13 := by decide +kernel
theorem d_Texts_doQuarrel_13 : decode c_Texts_doQuarrel 13 = .ok (.invokevirtual 78, 3) ∧ 13 + 3 = 16 := by decide +kernel
theorem d_Texts_doQuarrel_16 : decode c_Texts_doQuarrel 16 = .ok (.istore 5, 2) ∧ 16 + 2 = 18 := by decide +kernel
theorem d_Texts_doQuarrel_18 : decode c_Texts_doQuarrel 18 = .ok (.iload 4, 2) ∧ 18 + 2 = 20 := by decide +kernel
theorem d_Texts_doQuarrel_20 : decode c_Texts_doQuarrel 20 = .ok (.bipush (-9), 2) ∧ 20 + 2 = 22 := by decide +kernel
theorem d_Texts_doQuarrel_22 : decode c_Texts_doQuarrel 22 = .ok (.if_icmp .eq 31, 3) ∧ 22 + 3 = 25 ∧ ((22 : Nat) : Int) + 31 = ((53 : Nat) : Int) := by decide +kernel
theorem d_Texts_doQuarrel_25 : decode c_Texts_doQuarrel 25 = .ok (.iload 5, 2) ∧ 25 + 2 = 27 := by decide +kernel
theorem d_Texts_doQuarrel_27 : decode c_Texts_doQuarrel 27 = .ok (.bipush (-9), 2) ∧ 27 + 2 = 29 := by decide +kernel
theorem d_Texts_doQuarrel_29 : decode c_Texts_doQuarrel 29 = .ok (.if_icmp .eq 24, 3) ∧ 29 + 3 = 32 ∧ ((29 : Nat) : Int) + 24 = ((53 : Nat) : Int) := by decide +kernel
theorem d_Texts_doQuarrel_32 : decode c_Texts_doQuarrel 32 = .ok (.aload_n 0, 1) ∧ 32 + 1 = 33 := by decide +kernel
theorem d_Texts_doQuarrel_33 : decode c_Texts_doQuarrel 33 = .ok (.getfield 27, 3) ∧ 33 + 3 = 36 := by decide +kernel
theorem d_Texts_doQuarrel_36 : decode c_Texts_doQuarrel 36 = .ok (.iload 4, 2) ∧ 36 + 2 = 38 := by decide +kernel
theorem d_Texts_doQuarrel_38 : decode c_Texts_doQuarrel 38 = .ok (.iaload, 1) ∧ 38 + 1 = 39 := by decide +kernel
theorem d_Texts_doQuarrel_39 : decode c_Texts_doQuarrel 39 = .ok (.aload_n 0, 1) ∧ 39 + 1 = 40 := by decide +kernel
theorem d_Texts_doQuarrel_40 : decode c_Texts_doQuarrel 40 = .ok (.getfield 27, 3) ∧ 40 + 3 = 43 := by decide +kernel
theorem d_Texts_doQuarrel_43 : decode c_Texts_doQuarrel 43 = .ok (.iload 5, 2) ∧ 43 + 2 = 45 := by decide +kernel
theorem d_Texts_doQuarrel_45 : decode c_Texts_doQuarrel 45 = .ok (.iaload, 1) ∧ 45 + 1 = 46 := by decide +kernel
theorem d_Texts_doQuarrel_46 : decode c_Texts_doQuarrel 46 = .ok (.if_icmp .eq 7, 3) ∧ 46 + 3 = 49 ∧ ((46 : Nat) : Int) + 7 = ((53 : Nat) : Int) := by decide +kernel
theorem d_Texts_doQuarrel_49 : decode c_Texts_doQuarrel 49 = .ok (.iconst 1, 1) ∧ 49 + 1 = 50 := by decide +kernel
theorem d_Texts_doQuarrel_50 : decode c_Texts_doQuarrel 50 = .ok (.goto 4, 3) ∧ (50 : Int) + 4 = (54 : Int) := by decide +kernel
theorem d_Texts_doQuarrel_53 : decode c_Texts_doQuarrel 53 = .ok (.iconst 0, 1) ∧ 53 + 1 = 54 := by decide +kernel
theorem d_Texts_doQuarrel_54 : decode c_Texts_doQuarrel 54 = .ok (.ireturn, 1) ∧ 54 + 1 = 55 := by decide +kernel
set_option maxHeartbeats 4000000 in
theorem m_Texts_doQuarrel {Z : Sy} {σ : St} {res : Bool} {x1 : Int32} {x2 : Int32} {x3 : Int32} (hf : Texts_doQuarrel x1 x2 x3 σ = some res) : Ct YC Z y_Texts_doQuarrel c_Texts_doQuarrel 6 (some .boolean) 2 [.ref (ya Z 40), .int x1, .int x2, .int x3] σ (some (.int (bi res))) σ := by
  refine Ct.of pn_Texts (Nat.le_of_ble_eq_true rfl) rfl (fun Γ h => ?_)
  have h : IsG YC Z R_Texts c_Texts_doQuarrel 6 2 (some .boolean) (some (.int (bi res))) σ Γ := h
  unfold Texts_doQuarrel at hf
  refine r_aload_n h d_Texts_doQuarrel_0 0 rfl rfl ?_
  refine r_iload_n h d_Texts_doQuarrel_1 1 rfl rfl ?_
  refine r_iload_n h d_Texts_doQuarrel_2 2 rfl rfl ?_
  refine r_iload_n h d_Texts_doQuarrel_3 3 rfl rfl ?_
  obtain ⟨r4, e4, hf⟩ := q_bind hf
  refine r_callV (As := [.int x1, .int x2, .int x3]) (rest := []) h sh_YC_40 lk_Texts_78 vk_Texts_78 d_Texts_doQuarrel_4 (by decide) rfl rfl (Nat.le_of_ble_eq_true rfl) (m_Texts_clauseBy e4) ?_
  refine r_istore (ls' := [(4, .int r4), (0, .ref (ya Z 40)), (1, .int x1), (2, .int x2), (3, .int x3)]) h d_Texts_doQuarrel_7 (by decide) rfl ?_
  refine r_aload_n h d_Texts_doQuarrel_9 1 rfl rfl ?_
  refine r_iload_n h d_Texts_doQuarrel_10 2 rfl rfl ?_
  refine r_iconst h d_Texts_doQuarrel_11 ki_m1 ?_
  refine r_iload_n h d_Texts_doQuarrel_12 4 rfl rfl ?_
  obtain ⟨r13, e13, hf⟩ := q_bind hf
  refine r_callV (As := [.int x1, .int (-1 : Int32), .int x3]) (rest := []) h sh_YC_40 lk_Texts_78 vk_Texts_78 d_Texts_doQuarrel_13 (by decide) rfl rfl (Nat.le_of_ble_eq_true rfl) (m_Texts_clauseBy e13) ?_
  refine r_istore (ls' := [(5, .int r13), (4, .int r4), (0, .ref (ya Z 40)), (1, .int x1), (2, .int x2), (3, .int x3)]) h d_Texts_doQuarrel_16 (by decide) rfl ?_
  refine r_iload h d_Texts_doQuarrel_18 1 rfl ?_
  refine r_bipush h d_Texts_doQuarrel_20 kb_m9 ?_
  refine r_icmp_eq h d_Texts_doQuarrel_22 hf (fun hf => ?_) (fun hf => ?_)
  · refine r_iconst h d_Texts_doQuarrel_53 ki_0 ?_
    exact r_zreturn h d_Texts_doQuarrel_54.1 ((show (0 : Int32) = bi false from rfl).trans (congrArg bi (Option.some.inj hf))) rfl
  · refine r_iload h d_Texts_doQuarrel_25 0 rfl ?_
    refine r_bipush h d_Texts_doQuarrel_27 kb_m9 ?_
    refine r_icmp_eq h d_Texts_doQuarrel_29 hf (fun hf => ?_) (fun hf => ?_)
    · refine r_iconst h d_Texts_doQuarrel_53 ki_0 ?_
      exact r_zreturn h d_Texts_doQuarrel_54.1 ((show (0 : Int32) = bi false from rfl).trans (congrArg bi (Option.some.inj hf))) rfl
    · refine r_aload_n h d_Texts_doQuarrel_32 2 rfl rfl ?_
      refine r_getR h fd_YC_40_5 cf_Texts fl_Texts_27 d_Texts_doQuarrel_33 ?_
      refine r_iload h d_Texts_doQuarrel_36 1 rfl ?_
      refine r_iald h sh_YC_46 d_Texts_doQuarrel_38 hf (fun hf => ?_)
      refine r_aload_n h d_Texts_doQuarrel_39 2 rfl rfl ?_
      refine r_getR h fd_YC_40_5 cf_Texts fl_Texts_27 d_Texts_doQuarrel_40 ?_
      refine r_iload h d_Texts_doQuarrel_43 0 rfl ?_
      refine r_iald h sh_YC_46 d_Texts_doQuarrel_45 hf (fun hf => ?_)
      refine r_icmp_eq h d_Texts_doQuarrel_46 hf (fun hf => ?_) (fun hf => ?_)
      · refine r_iconst h d_Texts_doQuarrel_53 ki_0 ?_
        exact r_zreturn h d_Texts_doQuarrel_54.1 ((show (0 : Int32) = bi false from rfl).trans (congrArg bi (Option.some.inj hf))) rfl
      · refine r_iconst h d_Texts_doQuarrel_49 ki_1 ?_
        refine r_goto h d_Texts_doQuarrel_50 ?_
        exact r_zreturn h d_Texts_doQuarrel_54.1 ((show (1 : Int32) = bi true from rfl).trans (congrArg bi (Option.some.inj hf))) rfl

theorem d_P_quarrel_0 : decode c_P_quarrel 0 = .ok (.iload_n 1, 1) ∧ 0 + 1 = 1 := by decide +kernel
theorem d_P_quarrel_1 : decode c_P_quarrel 1 = .ok (.iload_n 2, 1) ∧ 1 + 1 = 2 := by decide +kernel
theorem d_P_quarrel_2 : decode c_P_quarrel 2 = .ok (.invokestatic 228, 3) ∧ 2 + 3 = 5 := by decide +kernel
theorem d_P_quarrel_5 : decode c_P_quarrel 5 = .ok (.istore 5, 2) ∧ 5 + 2 = 7 := by decide +kernel
theorem d_P_quarrel_7 : decode c_P_quarrel 7 = .ok (.iload 5, 2) ∧ 7 + 2 = 9 := by decide +kernel
theorem d_P_quarrel_9 : decode c_P_quarrel 9 = .ok (.bipush (-9), 2) ∧ 9 + 2 = 11 := by decide +kernel
theorem d_P_quarrel_11 : decode c_P_quarrel 11 = .ok (.if_icmp .eq 23, 3) ∧ 11 + 3 = 14 ∧ ((11 : Nat) : Int) + 23 = ((34 : Nat) : Int) := by decide +kernel
theorem d_P_quarrel_14 : decode c_P_quarrel 14 = .ok (.iload_n 3, 1) ∧ 14 + 1 = 15 := by decide +kernel
theorem d_P_quarrel_15 : decode c_P_quarrel 15 = .ok (.bipush 6, 2) ∧ 15 + 2 = 17 := by decide +kernel
theorem d_P_quarrel_17 : decode c_P_quarrel 17 = .ok (.invokestatic 96, 3) ∧ 17 + 3 = 20 := by decide +kernel
theorem d_P_quarrel_20 : decode c_P_quarrel 20 = .ok (.ifCond .eq 14, 3) ∧ 20 + 3 = 23 ∧ ((20 : Nat) : Int) + 14 = ((34 : Nat) : Int) := by decide +kernel
theorem d_P_quarrel_23 : decode c_P_quarrel 23 = .ok (.iload 4, 2) ∧ 23 + 2 = 25 := by decide +kernel
theorem d_P_quarrel_25 : decode c_P_quarrel 25 = .ok (.sipush 10000, 3) ∧ 25 + 3 = 28 := by decide +kernel
theorem d_P_quarrel_28 : decode c_P_quarrel 28 = .ok (.invokestatic 96, 3) ∧ 28 + 3 = 31 := by decide +kernel
theorem d_P_quarrel_31 : decode c_P_quarrel 31 = .ok (.ifCond .ne 6, 3) ∧ 31 + 3 = 34 ∧ ((31 : Nat) : Int) + 6 = ((37 : Nat) : Int) := by decide +kernel
theorem d_P_quarrel_34 : decode c_P_quarrel 34 = .ok (.bipush (-2), 2) ∧ 34 + 2 = 36 := by decide +kernel
theorem d_P_quarrel_36 : decode c_P_quarrel 36 = .ok (.ireturn, 1) ∧ 36 + 1 = 37 := by decide +kernel
theorem d_P_quarrel_37 : decode c_P_quarrel 37 = .ok (.aload_n 0, 1) ∧ 37 + 1 = 38 := by decide +kernel
theorem d_P_quarrel_38 : decode c_P_quarrel 38 = .ok (.getfield 57, 3) ∧ 38 + 3 = 41 := by decide +kernel
theorem d_P_quarrel_41 : decode c_P_quarrel 41 = .ok (.iload 5, 2) ∧ 41 + 2 = 43 := by decide +kernel
theorem d_P_quarrel_43 : decode c_P_quarrel 43 = .ok (.iload_n 3, 1) ∧ 43 + 1 = 44 := by decide +kernel
theorem d_P_quarrel_44 : decode c_P_quarrel 44 = .ok (.iload 4, 2) ∧ 44 + 2 = 46 := by decide +kernel
theorem d_P_quarrel_46 : decode c_P_quarrel 46 = .ok (.invokevirtual 237, 3) ∧ 46 + 3 = 49 := by decide +kernel
theorem d_P_quarrel_49 : decode c_P_quarrel 49 = .ok (.ifCond .eq 7, 3) ∧ 49 + 3 = 52 ∧ ((49 : Nat) : Int) + 7 = ((56 : Nat) : Int) := by decide +kernel
theorem d_P_quarrel_52 : decode c_P_quarrel 52 = .ok (.iconst 1, 1) ∧ 52 + 1 = 53 := by decide +kernel
theorem d_P_quarrel_53 : decode c_P_quarrel 53 = .ok (.goto 4, 3) ∧ (53 : Int) + 4 = (57 : Int) := by decide +kernel
theorem d_P_quarrel_56 : decode c_P_quarrel 56 = .ok (.iconst 0, 1) ∧ 56 + 1 = 57 := by decide +kernel
theorem d_P_quarrel_57 : decode c_P_quarrel 57 = .ok (.ireturn, 1) ∧ 57 + 1 = 58 := by decide +kernel
set_option maxHeartbeats 4000000 in
theorem m_P_quarrel {Z : Sy} {σ : St} {res : Int32} {x1 : Int32} {x2 : Int32} {x3 : Int32} {x4 : Int32} (hf : P_quarrel x1 x2 x3 x4 σ = some res) : Ct YC Z y_P_quarrel c_P_quarrel 6 (some .int) 3 [.ref (ya Z 0), .int x1, .int x2, .int x3, .int x4] σ (some (.int res)) σ := by
  refine Ct.of pn_P (Nat.le_of_ble_eq_true rfl) rfl (fun Γ h => ?_)
  have h : IsG YC Z R_P c_P_quarrel 6 3 (some .int) (some (.int res)) σ Γ := h
  unfold P_quarrel at hf
  refine r_iload_n h d_P_quarrel_0 1 rfl rfl ?_
  refine r_iload_n h d_P_quarrel_1 2 rfl rfl ?_
  obtain ⟨r2, e2, hf⟩ := q_bind hf
  refine r_callS (As := [.int x1, .int x2]) (rest := []) h lk_P_228 sk_P_228 d_P_quarrel_2 (by decide) rfl rfl (Nat.le_of_ble_eq_true rfl) (m_P_subjectOf e2) ?_
  refine r_istore (ls' := [(5, .int r2), (0, .ref (ya Z 0)), (1, .int x1), (2, .int x2), (3, .int x3), (4, .int x4)]) h d_P_quarrel_5 (by decide) rfl ?_
  refine r_iload h d_P_quarrel_7 0 rfl ?_
  refine r_bipush h d_P_quarrel_9 kb_m9 ?_
  refine r_icmp_eq h d_P_quarrel_11 hf (fun hf => ?_) (fun hf => ?_)
  · refine r_bipush h d_P_quarrel_34 kb_m2 ?_
    exact r_ireturn h d_P_quarrel_36.1 (Option.some.inj hf) rfl
  · refine r_iload_n h d_P_quarrel_14 4 rfl rfl ?_
    refine r_bipush h d_P_quarrel_15 kb_6 ?_
    obtain ⟨r17, e17, hf⟩ := q_bind hf
    refine r_callS (As := [.int x3, .int (6 : Int32)]) (rest := []) h lk_P_96 sk_P_96 d_P_quarrel_17 (by decide) rfl rfl (Nat.le_of_ble_eq_true rfl) (m_P_isBelow e17) ?_
    refine r_bif_eq h d_P_quarrel_20 hf (fun hf => ?_) (fun hf => ?_)
    · refine r_bipush h d_P_quarrel_34 kb_m2 ?_
      exact r_ireturn h d_P_quarrel_36.1 (Option.some.inj hf) rfl
    · refine r_iload h d_P_quarrel_23 5 rfl ?_
      refine r_sipush h d_P_quarrel_25 ks_10000 ?_
      obtain ⟨r28, e28, hf⟩ := q_bind hf
      refine r_callS (As := [.int x4, .int (10000 : Int32)]) (rest := []) h lk_P_96 sk_P_96 d_P_quarrel_28 (by decide) rfl rfl (Nat.le_of_ble_eq_true rfl) (m_P_isBelow e28) ?_
      refine r_bif_ne h d_P_quarrel_31 hf (fun hf => ?_) (fun hf => ?_)
      · refine r_aload_n h d_P_quarrel_37 1 rfl rfl ?_
        refine r_getR h fd_YC_0_7 cf_P fl_P_57 d_P_quarrel_38 ?_
        refine r_iload h d_P_quarrel_41 0 rfl ?_
        refine r_iload_n h d_P_quarrel_43 4 rfl rfl ?_
        refine r_iload h d_P_quarrel_44 5 rfl ?_
        obtain ⟨r46, e46, hf⟩ := q_bind hf
        refine r_callV (As := [.int r2, .int x3, .int x4]) (rest := []) h sh_YC_40 lk_P_237 vk_P_237 d_P_quarrel_46 (by decide) rfl rfl (Nat.le_of_ble_eq_true rfl) (m_Texts_doQuarrel e46) ?_
        refine r_bif_eq h d_P_quarrel_49 hf (fun hf => ?_) (fun hf => ?_)
        · refine r_iconst h d_P_quarrel_56 ki_0 ?_
          exact r_ireturn h d_P_quarrel_57.1 (Option.some.inj hf) rfl
        · refine r_iconst h d_P_quarrel_52 ki_1 ?_
          refine r_goto h d_P_quarrel_53 ?_
          exact r_ireturn h d_P_quarrel_57.1 (Option.some.inj hf) rfl
      · refine r_bipush h d_P_quarrel_34 kb_m2 ?_
        exact r_ireturn h d_P_quarrel_36.1 (Option.some.inj hf) rfl

set_option maxHeartbeats 4000000 in
theorem m_Spans_add_licences {Z : Sy} {σ : St} {res : (Int32 × St)} {x1 : Int32} {x2 : Int32} {x3 : Int32} {x4 : Int32} (hf : Spans_add_licences x1 x2 x3 x4 σ = some res) : Ct YC Z y_Spans_add c_Spans_add 5 (some .int) 1 [.ref (ya Z 11), .int x1, .int x2, .int x3, .int x4] σ (some (.int res.1)) res.2 := by
  refine Ct.of pn_Spans (Nat.le_of_ble_eq_true rfl) rfl (fun Γ h => ?_)
  have h : IsG YC Z R_Spans c_Spans_add 5 1 (some .int) (some (.int res.1)) res.2 Γ := h
  unfold Spans_add_licences at hf
  refine r_aload_n h d_Spans_add_0 0 rfl rfl ?_
  refine r_getI h fd_YC_11_4 cf_Spans fl_Spans_30 d_Spans_add_1 ?_
  refine r_aload_n h d_Spans_add_4 0 rfl rfl ?_
  refine r_getR h fd_YC_11_0 cf_Spans fl_Spans_15 d_Spans_add_5 ?_
  refine r_alen h sh_YC_12 kn_12 d_Spans_add_8 ?_
  refine r_icmp_lt h d_Spans_add_9 hf (fun hf => ?_) (fun hf => ?_)
  · refine r_aload_n h d_Spans_add_15 0 rfl rfl ?_
    refine r_getR h fd_YC_11_0 cf_Spans fl_Spans_15 d_Spans_add_16 ?_
    refine r_aload_n h d_Spans_add_19 0 rfl rfl ?_
    refine r_getI h fd_YC_11_4 cf_Spans fl_Spans_30 d_Spans_add_20 ?_
    refine r_iload_n h d_Spans_add_23 1 rfl rfl ?_
    refine r_iast h sh_YC_12 d_Spans_add_24 hf (fun hf => ?_)
    refine r_aload_n h d_Spans_add_25 0 rfl rfl ?_
    refine r_getR h fd_YC_11_1 cf_Spans fl_Spans_21 d_Spans_add_26 ?_
    refine r_aload_n h d_Spans_add_29 0 rfl rfl ?_
    refine r_getIv (v := (σ.1 11 4)) h fd_YC_11_4 cf_Spans fl_Spans_30 d_Spans_add_30 rfl ?_
    refine r_iload_n h d_Spans_add_33 2 rfl rfl ?_
    refine r_iast h sh_YC_13 d_Spans_add_34 hf (fun hf => ?_)
    refine r_aload_n h d_Spans_add_35 0 rfl rfl ?_
    refine r_getR h fd_YC_11_2 cf_Spans fl_Spans_24 d_Spans_add_36 ?_
    refine r_aload_n h d_Spans_add_39 0 rfl rfl ?_
    refine r_getIv (v := (σ.1 11 4)) h fd_YC_11_4 cf_Spans fl_Spans_30 d_Spans_add_40 rfl ?_
    refine r_iload_n h d_Spans_add_43 3 rfl rfl ?_
    refine r_iast h sh_YC_14 d_Spans_add_44 hf (fun hf => ?_)
    refine r_aload_n h d_Spans_add_45 0 rfl rfl ?_
    refine r_getR h fd_YC_11_3 cf_Spans fl_Spans_27 d_Spans_add_46 ?_
    refine r_aload_n h d_Spans_add_49 0 rfl rfl ?_
    refine r_getIv (v := (σ.1 11 4)) h fd_YC_11_4 cf_Spans fl_Spans_30 d_Spans_add_50 rfl ?_
    refine r_iload h d_Spans_add_53 4 rfl ?_
    refine r_iast h sh_YC_15 d_Spans_add_55 hf (fun hf => ?_)
    refine r_aload_n h d_Spans_add_56 0 rfl rfl ?_
    refine r_dup h d_Spans_add_57 rfl ?_
    refine r_getIv (v := (σ.1 11 4)) h fd_YC_11_4 cf_Spans fl_Spans_30 d_Spans_add_58 rfl ?_
    refine r_iconst h d_Spans_add_61 ki_1 ?_
    refine r_iadd h d_Spans_add_62 ?_
    refine r_putI h fd_YC_11_4 cf_Spans fl_Spans_30 ⟨rfl, rfl⟩ d_Spans_add_63 ?_
    refine r_aload_n h d_Spans_add_66 0 rfl rfl ?_
    refine r_getIv (v := ((σ.1 11 4) + (1 : Int32))) h fd_YC_11_4 cf_Spans fl_Spans_30 d_Spans_add_67 rfl ?_
    exact r_ireturn h d_Spans_add_70.1 (q_p1 hf) (q_p2 hf)
  · refine r_bipush h d_Spans_add_12 kb_m4 ?_
    exact r_ireturn h d_Spans_add_14.1 (q_p1 hf) (q_p2 hf)

