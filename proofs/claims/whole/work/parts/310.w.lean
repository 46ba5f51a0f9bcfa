theorem d_M_judge_0 : decode c_M_judge 0 = .ok (.iload_n 1, 1) ∧ 0 + 1 = 1 := by decide +kernel
theorem d_M_judge_1 : decode c_M_judge 1 = .ok (.i2l, 1) ∧ 1 + 1 = 2 := by decide +kernel
theorem d_M_judge_2 : decode c_M_judge 2 = .ok (.lconst 0, 1) ∧ 2 + 1 = 3 := by decide +kernel
theorem d_M_judge_3 : decode c_M_judge 3 = .ok (.lconst 1, 1) ∧ 3 + 1 = 4 := by decide +kernel
theorem d_M_judge_4 : decode c_M_judge 4 = .ok (.aload_n 0, 1) ∧ 4 + 1 = 5 := by decide +kernel
theorem d_M_judge_5 : decode c_M_judge 5 = .ok (.getfield 443, 3) ∧ 5 + 3 = 8 := by decide +kernel
theorem d_M_judge_8 : decode c_M_judge 8 = .ok (.lshl, 1) ∧ 8 + 1 = 9 := by decide +kernel
theorem d_M_judge_9 : decode c_M_judge 9 = .ok (.lconst 1, 1) ∧ 9 + 1 = 10 := by decide +kernel
theorem d_M_judge_10 : decode c_M_judge 10 = .ok (.lsub, 1) ∧ 10 + 1 = 11 := by decide +kernel
theorem d_M_judge_11 : decode c_M_judge 11 = .ok (.invokestatic 201, 3) ∧ 11 + 3 = 14 := by decide +kernel
theorem d_M_judge_14 : decode c_M_judge 14 = .ok (.ifCond .eq 19, 3) ∧ 14 + 3 = 17 ∧ ((14 : Nat) : Int) + 19 = ((33 : Nat) : Int) := by decide +kernel
theorem d_M_judge_17 : decode c_M_judge 17 = .ok (.aload_n 0, 1) ∧ 17 + 1 = 18 := by decide +kernel
theorem d_M_judge_18 : decode c_M_judge 18 = .ok (.iload_n 1, 1) ∧ 18 + 1 = 19 := by decide +kernel
theorem d_M_judge_19 : decode c_M_judge 19 = .ok (.invokevirtual 446, 3) ∧ 19 + 3 = 22 := by decide +kernel
theorem d_M_judge_22 : decode c_M_judge 22 = .ok (.ifCond .eq 7, 3) ∧ 22 + 3 = 25 ∧ ((22 : Nat) : Int) + 7 = ((29 : Nat) : Int) := by decide +kernel
theorem d_M_judge_25 : decode c_M_judge 25 = .ok (.iconst 1, 1) ∧ 25 + 1 = 26 := by decide +kernel
theorem d_M_judge_26 : decode c_M_judge 26 = .ok (.goto 9, 3) ∧ (26 : Int) + 9 = (35 : Int) := by decide +kernel
theorem d_M_judge_29 : decode c_M_judge 29 = .ok (.iconst 0, 1) ∧ 29 + 1 = 30 := by decide +kernel
theorem d_M_judge_30 : decode c_M_judge 30 = .ok (.goto 5, 3) ∧ (30 : Int) + 5 = (35 : Int) := by decide +kernel
theorem d_M_judge_33 : decode c_M_judge 33 = .ok (.bipush (-2), 2) ∧ 33 + 2 = 35 := by decide +kernel
theorem d_M_judge_35 : decode c_M_judge 35 = .ok (.ireturn, 1) ∧ 35 + 1 = 36 := by decide +kernel
set_option maxHeartbeats 4000000 in
theorem m_M_judge {Z : Sy} {σ : St} {res : Int32} {x1 : Int32} (hf : M_judge x1 σ = some res) : Ct YM Z y_M_judge c_M_judge 2 (some .int) 3 [.ref (ya Z 0), .int x1] σ (some (.int res)) σ := by
  refine Ct.of pn_M (Nat.le_of_ble_eq_true rfl) rfl (fun Γ h => ?_)
  have h : IsG YM Z R_M c_M_judge 2 3 (some .int) (some (.int res)) σ Γ := h
  unfold M_judge at hf
  refine r_iload_n h d_M_judge_0 1 rfl rfl ?_
  refine r_i2l h d_M_judge_1 ?_
  refine r_lconst h d_M_judge_2 kl_0 ?_
  refine r_lconst h d_M_judge_3 kl_1 ?_
  refine r_aload_n h d_M_judge_4 0 rfl rfl ?_
  refine r_getI h fd_YM_0_68 cf_M fl_M_443 d_M_judge_5 ?_
  refine r_lshl h d_M_judge_8 ?_
  refine r_lconst h d_M_judge_9 kl_1 ?_
  refine r_lsub h d_M_judge_10 ?_
  obtain ⟨r11, e11, hf⟩ := q_bind hf
  refine r_callS (As := [.long (Int32.toInt64 x1), .long (0 : Int64), .long (((1 : Int64) <<< (Int32.toInt64 (σ.1 0 68) &&& 63)) - (1 : Int64))]) (rest := []) h lk_M_201 sk_M_201 d_M_judge_11 (by decide) rfl rfl (Nat.le_of_ble_eq_true rfl) (m_M_in e11) ?_
  refine r_bif_eq h d_M_judge_14 hf (fun hf => ?_) (fun hf => ?_)
  · refine r_bipush h d_M_judge_33 kb_m2 ?_
    exact r_ireturn h d_M_judge_35.1 (Option.some.inj hf) rfl
  · refine r_aload_n h d_M_judge_17 0 rfl rfl ?_
    refine r_iload_n h d_M_judge_18 1 rfl rfl ?_
    obtain ⟨r19, e19, hf⟩ := q_bind hf
    refine r_callV (As := [.int x1]) (rest := []) h sh_YM_0 lk_M_446 vk_M_446 d_M_judge_19 (by decide) rfl rfl (Nat.le_of_ble_eq_true rfl) (m_M_mayBe e19) ?_
    refine r_bif_eq h d_M_judge_22 hf (fun hf => ?_) (fun hf => ?_)
    · refine r_iconst h d_M_judge_29 ki_0 ?_
      refine r_goto h d_M_judge_30 ?_
      exact r_ireturn h d_M_judge_35.1 (Option.some.inj hf) rfl
    · refine r_iconst h d_M_judge_25 ki_1 ?_
      refine r_goto h d_M_judge_26 ?_
      exact r_ireturn h d_M_judge_35.1 (Option.some.inj hf) rfl

theorem d_M_sheet_0 : decode c_M_sheet 0 = .ok (.iload_n 1, 1) ∧ 0 + 1 = 1 := by decide +kernel
theorem d_M_sheet_1 : decode c_M_sheet 1 = .ok (.invokestatic 291, 3) ∧ 1 + 3 = 4 := by decide +kernel
theorem d_M_sheet_4 : decode c_M_sheet 4 = .ok (.ifCond .eq 9, 3) ∧ 4 + 3 = 7 ∧ ((4 : Nat) : Int) + 9 = ((13 : Nat) : Int) := by decide +kernel
theorem d_M_sheet_7 : decode c_M_sheet 7 = .ok (.aload_n 0, 1) ∧ 7 + 1 = 8 := by decide +kernel
theorem d_M_sheet_8 : decode c_M_sheet 8 = .ok (.iconst (-1), 1) ∧ 8 + 1 = 9 := by decide +kernel
theorem d_M_sheet_9 : decode c_M_sheet 9 = .ok (.invokevirtual 294, 3) ∧ 9 + 3 = 12 := by decide +kernel
theorem d_M_sheet_12 : decode c_M_sheet 12 = .ok (.ireturn, 1) ∧ 12 + 1 = 13 := by decide +kernel
theorem d_M_sheet_13 : decode c_M_sheet 13 = .ok (.iload_n 2, 1) ∧ 13 + 1 = 14 := by decide +kernel
theorem d_M_sheet_14 : decode c_M_sheet 14 = .ok (.i2l, 1) ∧ 14 + 1 = 15 := by decide +kernel
theorem d_M_sheet_15 : decode c_M_sheet 15 = .ok (.lconst 0, 1) ∧ 15 + 1 = 16 := by decide +kernel
theorem d_M_sheet_16 : decode c_M_sheet 16 = .ok (.ldc2_w 266, 3) ∧ 16 + 3 = 19 := by decide +kernel
theorem d_M_sheet_19 : decode c_M_sheet 19 = .ok (.invokestatic 201, 3) ∧ 19 + 3 = 22 := by decide +kernel
theorem d_M_sheet_22 : decode c_M_sheet 22 = .ok (.ifCond .eq 9, 3) ∧ 22 + 3 = 25 ∧ ((22 : Nat) : Int) + 9 = ((31 : Nat) : Int) := by decide +kernel
theorem d_M_sheet_25 : decode c_M_sheet 25 = .ok (.iload_n 3, 1) ∧ 25 + 1 = 26 := by decide +kernel
theorem d_M_sheet_26 : decode c_M_sheet 26 = .ok (.bipush 60, 2) ∧ 26 + 2 = 28 := by decide +kernel
theorem d_M_sheet_28 : decode c_M_sheet 28 = .ok (.if_icmp .le 10, 3) ∧ 28 + 3 = 31 ∧ ((28 : Nat) : Int) + 10 = ((38 : Nat) : Int) := by decide +kernel
theorem d_M_sheet_31 : decode c_M_sheet 31 = .ok (.aload_n 0, 1) ∧ 31 + 1 = 32 := by decide +kernel
theorem d_M_sheet_32 : decode c_M_sheet 32 = .ok (.bipush (-2), 2) ∧ 32 + 2 = 34 := by decide +kernel
theorem d_M_sheet_34 : decode c_M_sheet 34 = .ok (.invokevirtual 294, 3) ∧ 34 + 3 = 37 := by decide +kernel
theorem d_M_sheet_37 : decode c_M_sheet 37 = .ok (.ireturn, 1) ∧ 37 + 1 = 38 := by decide +kernel
theorem d_M_sheet_38 : decode c_M_sheet 38 = .ok (.iload_n 3, 1) ∧ 38 + 1 = 39 := by decide +kernel
theorem d_M_sheet_39 : decode c_M_sheet 39 = .ok (.ifCond .ge 9, 3) ∧ 39 + 3 = 42 ∧ ((39 : Nat) : Int) + 9 = ((48 : Nat) : Int) := by decide +kernel
theorem d_M_sheet_42 : decode c_M_sheet 42 = .ok (.aload_n 0, 1) ∧ 42 + 1 = 43 := by decide +kernel
theorem d_M_sheet_43 : decode c_M_sheet 43 = .ok (.iconst 4, 1) ∧ 43 + 1 = 44 := by decide +kernel
theorem d_M_sheet_44 : decode c_M_sheet 44 = .ok (.invokevirtual 305, 3) ∧ 44 + 3 = 47 := by decide +kernel
theorem d_M_sheet_47 : decode c_M_sheet 47 = .ok (.ireturn, 1) ∧ 47 + 1 = 48 := by decide +kernel
theorem d_M_sheet_48 : decode c_M_sheet 48 = .ok (.aload_n 0, 1) ∧ 48 + 1 = 49 := by decide +kernel
theorem d_M_sheet_49 : decode c_M_sheet 49 = .ok (.getfield 185, 3) ∧ 49 + 3 = 52 := by decide +kernel
theorem d_M_sheet_52 : decode c_M_sheet 52 = .ok (.iload_n 1, 1) ∧ 52 + 1 = 53 := by decide +kernel
theorem d_M_sheet_53 : decode c_M_sheet 53 = .ok (.iload_n 3, 1) ∧ 53 + 1 = 54 := by decide +kernel
theorem d_M_sheet_54 : decode c_M_sheet 54 = .ok (.iastore, 1) ∧ 54 + 1 = 55 := by decide +kernel
theorem d_M_sheet_55 : decode c_M_sheet 55 = .ok (.aload_n 0, 1) ∧ 55 + 1 = 56 := by decide +kernel
theorem d_M_sheet_56 : decode c_M_sheet 56 = .ok (.getfield 188, 3) ∧ 56 + 3 = 59 := by decide +kernel
theorem d_M_sheet_59 : decode c_M_sheet 59 = .ok (.iload_n 1, 1) ∧ 59 + 1 = 60 := by decide +kernel
theorem d_M_sheet_60 : decode c_M_sheet 60 = .ok (.iload_n 2, 1) ∧ 60 + 1 = 61 := by decide +kernel
theorem d_M_sheet_61 : decode c_M_sheet 61 = .ok (.iastore, 1) ∧ 61 + 1 = 62 := by decide +kernel
theorem d_M_sheet_62 : decode c_M_sheet 62 = .ok (.iconst 0, 1) ∧ 62 + 1 = 63 := by decide +kernel
theorem d_M_sheet_63 : decode c_M_sheet 63 = .ok (.istore 4, 2) ∧ 63 + 2 = 65 := by decide +kernel
theorem d_M_sheet_65 : decode c_M_sheet 65 = .ok (.iload 4, 2) ∧ 65 + 2 = 67 := by decide +kernel
theorem d_M_sheet_67 : decode c_M_sheet 67 = .ok (.iload_n 3, 1) ∧ 67 + 1 = 68 := by decide +kernel
theorem d_M_sheet_68 : decode c_M_sheet 68 = .ok (.if_icmp .ge 22, 3) ∧ 68 + 3 = 71 ∧ ((68 : Nat) : Int) + 22 = ((90 : Nat) : Int) := by decide +kernel
theorem d_M_sheet_71 : decode c_M_sheet 71 = .ok (.aload_n 0, 1) ∧ 71 + 1 = 72 := by decide +kernel
theorem d_M_sheet_72 : decode c_M_sheet 72 = .ok (.getfield 191, 3) ∧ 72 + 3 = 75 := by decide +kernel
theorem d_M_sheet_75 : decode c_M_sheet 75 = .ok (.bipush 60, 2) ∧ 75 + 2 = 77 := by decide +kernel
theorem d_M_sheet_77 : decode c_M_sheet 77 = .ok (.iload_n 1, 1) ∧ 77 + 1 = 78 := by decide +kernel
theorem d_M_sheet_78 : decode c_M_sheet 78 = .ok (.imul, 1) ∧ 78 + 1 = 79 := by decide +kernel
theorem d_M_sheet_79 : decode c_M_sheet 79 = .ok (.iload 4, 2) ∧ 79 + 2 = 81 := by decide +kernel
theorem d_M_sheet_81 : decode c_M_sheet 81 = .ok (.iadd, 1) ∧ 81 + 1 = 82 := by decide +kernel
theorem d_M_sheet_82 : decode c_M_sheet 82 = .ok (.iconst 0, 1) ∧ 82 + 1 = 83 := by decide +kernel
theorem d_M_sheet_83 : decode c_M_sheet 83 = .ok (.iastore, 1) ∧ 83 + 1 = 84 := by decide +kernel
theorem d_M_sheet_84 : decode c_M_sheet 84 = .ok (.iinc 4 1, 3) ∧ 84 + 3 = 87 := by decide +kernel
theorem d_M_sheet_87 : decode c_M_sheet 87 = .ok (.goto (-22), 3) ∧ (87 : Int) + (-22) = (65 : Int) := by decide +kernel
theorem d_M_sheet_90 : decode c_M_sheet 90 = .ok (.aload_n 0, 1) ∧ 90 + 1 = 91 := by decide +kernel
theorem d_M_sheet_91 : decode c_M_sheet 91 = .ok (.iconst 1, 1) ∧ 91 + 1 = 92 := by decide +kernel
theorem d_M_sheet_92 : decode c_M_sheet 92 = .ok (.invokevirtual 294, 3) ∧ 92 + 3 = 95 := by decide +kernel
theorem d_M_sheet_95 : decode c_M_sheet 95 = .ok (.ireturn, 1) ∧ 95 + 1 = 96 := by decide +kernel
set_option maxHeartbeats 4000000 in
theorem w_M_sheet_L65 {Z : Sy} {Γ : Nat → List (Nat × Value) → List Value → St → Prop} {res : (Int32 × St)} {x1 : Int32} {x3 : Int32} (h : IsG YM Z R_M c_M_sheet 5 3 (some .int) (some (.int res.1)) res.2 Γ) : ∀ (n : Nat) (x4 : Int32) (σ : St), M_sheet_L65 x1 x3 n x4 σ = some res → Γ 65 [(0, .ref (ya Z 0)), (1, .int x1), (3, .int x3), (4, .int x4)] [] σ := by
  intro n
  induction n with
  | zero => intro x4 σ hf; exact absurd hf (by simp [M_sheet_L65])
  | succ n ih =>
    intro x4 σ hf
    rw [M_sheet_L65] at hf
    refine r_iload h d_M_sheet_65 3 rfl ?_
    refine r_iload_n h d_M_sheet_67 2 rfl rfl ?_
    refine r_icmp_ge h d_M_sheet_68 hf (fun hf => ?_) (fun hf => ?_)
    · refine r_aload_n h d_M_sheet_90 0 rfl rfl ?_
      refine r_iconst h d_M_sheet_91 ki_1 ?_
      obtain ⟨q92, e92, hf⟩ := q_bind hf
      refine r_callV (As := [.int (1 : Int32)]) (rest := []) h sh_YM_0 lk_M_294 vk_M_294 d_M_sheet_92 (by decide) rfl rfl (Nat.le_of_ble_eq_true rfl) (m_M_refused e92) ?_
      exact r_ireturn h d_M_sheet_95.1 (q_p1 hf) (q_p2 hf)
    · refine r_aload_n h d_M_sheet_71 0 rfl rfl ?_
      refine r_getR h fd_YM_0_76 cf_M fl_M_191 d_M_sheet_72 ?_
      refine r_bipush h d_M_sheet_75 kb_60 ?_
      refine r_iload_n h d_M_sheet_77 1 rfl rfl ?_
      refine r_imul h d_M_sheet_78 ?_
      refine r_iload h d_M_sheet_79 3 rfl ?_
      refine r_iadd h d_M_sheet_81 ?_
      refine r_iconst h d_M_sheet_82 ki_0 ?_
      refine r_iast h sh_YM_61 d_M_sheet_83 hf (fun hf => ?_)
      refine r_iinc (ls' := [(4, .int (x4 + (1 : Int32))), (0, .ref (ya Z 0)), (1, .int x1), (3, .int x3)]) h d_M_sheet_84 3 rfl ki_1 (by decide) rfl ?_
      refine r_goto h d_M_sheet_87 ?_
      refine r_sub h [1, 2, 3, 0] rfl ?_
      exact ih _ _ hf

set_option maxHeartbeats 4000000 in
theorem m_M_sheet {Z : Sy} {σ : St} {res : (Int32 × St)} {x1 : Int32} {x2 : Int32} {x3 : Int32} (hf : M_sheet x1 x2 x3 σ = some res) : Ct YM Z y_M_sheet c_M_sheet 5 (some .int) 3 [.ref (ya Z 0), .int x1, .int x2, .int x3] σ (some (.int res.1)) res.2 := by
  refine Ct.of pn_M (Nat.le_of_ble_eq_true rfl) rfl (fun Γ h => ?_)
  have h : IsG YM Z R_M c_M_sheet 5 3 (some .int) (some (.int res.1)) res.2 Γ := h
  unfold M_sheet at hf
  refine r_iload_n h d_M_sheet_0 1 rfl rfl ?_
  obtain ⟨r1, e1, hf⟩ := q_bind hf
  refine r_callS (As := [.int x1]) (rest := []) h lk_M_291 sk_M_291 d_M_sheet_1 (by decide) rfl rfl (Nat.le_of_ble_eq_true rfl) (m_M_noSheet e1) ?_
  refine r_bif_eq h d_M_sheet_4 hf (fun hf => ?_) (fun hf => ?_)
  · refine r_iload_n h d_M_sheet_13 2 rfl rfl ?_
    refine r_i2l h d_M_sheet_14 ?_
    refine r_lconst h d_M_sheet_15 kl_0 ?_
    refine r_ldc2 h d_M_sheet_16 tm_1478 ?_
    obtain ⟨r19, e19, hf⟩ := q_bind hf
    refine r_callS (As := [.long (Int32.toInt64 x2), .long (0 : Int64), .long (2 : Int64)]) (rest := []) h lk_M_201 sk_M_201 d_M_sheet_19 (by decide) rfl rfl (Nat.le_of_ble_eq_true rfl) (m_M_in e19) ?_
    refine r_bif_eq h d_M_sheet_22 hf (fun hf => ?_) (fun hf => ?_)
    · refine r_aload_n h d_M_sheet_31 0 rfl rfl ?_
      refine r_bipush h d_M_sheet_32 kb_m2 ?_
      obtain ⟨q34, e34, hf⟩ := q_bind hf
      refine r_callV (As := [.int (-2 : Int32)]) (rest := []) h sh_YM_0 lk_M_294 vk_M_294 d_M_sheet_34 (by decide) rfl rfl (Nat.le_of_ble_eq_true rfl) (m_M_refused e34) ?_
      exact r_ireturn h d_M_sheet_37.1 (q_p1 hf) (q_p2 hf)
    · refine r_iload_n h d_M_sheet_25 3 rfl rfl ?_
      refine r_bipush h d_M_sheet_26 kb_60 ?_
      refine r_icmp_le h d_M_sheet_28 hf (fun hf => ?_) (fun hf => ?_)
      · refine r_iload_n h d_M_sheet_38 3 rfl rfl ?_
        refine r_if_ge h d_M_sheet_39 hf (fun hf => ?_) (fun hf => ?_)
        · refine r_aload_n h d_M_sheet_48 0 rfl rfl ?_
          refine r_getR h fd_YM_0_74 cf_M fl_M_185 d_M_sheet_49 ?_
          refine r_iload_n h d_M_sheet_52 1 rfl rfl ?_
          refine r_iload_n h d_M_sheet_53 3 rfl rfl ?_
          refine r_iast h sh_YM_59 d_M_sheet_54 hf (fun hf => ?_)
          refine r_aload_n h d_M_sheet_55 0 rfl rfl ?_
          refine r_getR h fd_YM_0_75 cf_M fl_M_188 d_M_sheet_56 ?_
          refine r_iload_n h d_M_sheet_59 1 rfl rfl ?_
          refine r_iload_n h d_M_sheet_60 2 rfl rfl ?_
          refine r_iast h sh_YM_60 d_M_sheet_61 hf (fun hf => ?_)
          refine r_iconst h d_M_sheet_62 ki_0 ?_
          refine r_istore (ls' := [(4, .int (0 : Int32)), (0, .ref (ya Z 0)), (1, .int x1), (2, .int x2), (3, .int x3)]) h d_M_sheet_63 (by decide) rfl ?_
          refine r_sub h [1, 2, 4, 0] rfl ?_
          exact w_M_sheet_L65 h _ _ _ hf
        · refine r_aload_n h d_M_sheet_42 0 rfl rfl ?_
          refine r_iconst h d_M_sheet_43 ki_4 ?_
          obtain ⟨q44, e44, hf⟩ := q_bind hf
          refine r_callV (As := [.int (4 : Int32)]) (rest := []) h sh_YM_0 lk_M_305 vk_M_305 d_M_sheet_44 (by decide) rfl rfl (Nat.le_of_ble_eq_true rfl) (m_M_failed e44) ?_
          exact r_ireturn h d_M_sheet_47.1 (q_p1 hf) (q_p2 hf)
      · refine r_aload_n h d_M_sheet_31 0 rfl rfl ?_
        refine r_bipush h d_M_sheet_32 kb_m2 ?_
        obtain ⟨q34, e34, hf⟩ := q_bind hf
        refine r_callV (As := [.int (-2 : Int32)]) (rest := []) h sh_YM_0 lk_M_294 vk_M_294 d_M_sheet_34 (by decide) rfl rfl (Nat.le_of_ble_eq_true rfl) (m_M_refused e34) ?_
        exact r_ireturn h d_M_sheet_37.1 (q_p1 hf) (q_p2 hf)
  · refine r_aload_n h d_M_sheet_7 0 rfl rfl ?_
    refine r_iconst h d_M_sheet_8 ki_m1 ?_
    obtain ⟨q9, e9, hf⟩ := q_bind hf
    refine r_callV (As := [.int (-1 : Int32)]) (rest := []) h sh_YM_0 lk_M_294 vk_M_294 d_M_sheet_9 (by decide) rfl rfl (Nat.le_of_ble_eq_true rfl) (m_M_refused e9) ?_
    exact r_ireturn h d_M_sheet_12.1 (q_p1 hf) (q_p2 hf)

theorem d_M_lose_0 : decode c_M_lose 0 = .ok (.iload_n 1, 1) ∧ 0 + 1 = 1 := by decide +kernel
theorem d_M_lose_1 : decode c_M_lose 1 = .ok (.invokestatic 291, 3) ∧ 1 + 3 = 4 := by decide +kernel
theorem d_M_lose_4 : decode c_M_lose 4 = .ok (.ifCond .eq 5, 3) ∧ 4 + 3 = 7 ∧ ((4 : Nat) : Int) + 5 = ((9 : Nat) : Int) := by decide +kernel
theorem d_M_lose_7 : decode c_M_lose 7 = .ok (.iconst (-1), 1) ∧ 7 + 1 = 8 := by decide +kernel
theorem d_M_lose_8 : decode c_M_lose 8 = .ok (.ireturn, 1) ∧ 8 + 1 = 9 := by decide +kernel
theorem d_M_lose_9 : decode c_M_lose 9 = .ok (.aload_n 0, 1) ∧ 9 + 1 = 10 := by decide +kernel
theorem d_M_lose_10 : decode c_M_lose 10 = .ok (.getfield 185, 3) ∧ 10 + 3 = 13 := by decide +kernel
theorem d_M_lose_13 : decode c_M_lose 13 = .ok (.iload_n 1, 1) ∧ 13 + 1 = 14 := by decide +kernel
theorem d_M_lose_14 : decode c_M_lose 14 = .ok (.iaload, 1) ∧ 14 + 1 = 15 := by decide +kernel
theorem d_M_lose_15 : decode c_M_lose 15 = .ok (.ifCond .ge 7, 3) ∧ 15 + 3 = 18 ∧ ((15 : Nat) : Int) + 7 = ((22 : Nat) : Int) := by decide +kernel
theorem d_M_lose_18 : decode c_M_lose 18 = .ok (.iconst 0, 1) ∧ 18 + 1 = 19 := by decide +kernel
theorem d_M_lose_19 : decode c_M_lose 19 = .ok (.goto 4, 3) ∧ (19 : Int) + 4 = (23 : Int) := by decide +kernel
theorem d_M_lose_22 : decode c_M_lose 22 = .ok (.iconst 1, 1) ∧ 22 + 1 = 23 := by decide +kernel
theorem d_M_lose_23 : decode c_M_lose 23 = .ok (.istore_n 2, 1) ∧ 23 + 1 = 24 := by decide +kernel
theorem d_M_lose_24 : decode c_M_lose 24 = .ok (.aload_n 0, 1) ∧ 24 + 1 = 25 := by decide +kernel
theorem d_M_lose_25 : decode c_M_lose 25 = .ok (.getfield 185, 3) ∧ 25 + 3 = 28 := by decide +kernel
theorem d_M_lose_28 : decode c_M_lose 28 = .ok (.iload_n 1, 1) ∧ 28 + 1 = 29 := by decide +kernel
theorem d_M_lose_29 : decode c_M_lose 29 = .ok (.iconst (-1), 1) ∧ 29 + 1 = 30 := by decide +kernel
theorem d_M_lose_30 : decode c_M_lose 30 = .ok (.iastore, 1) ∧ 30 + 1 = 31 := by decide +kernel
theorem d_M_lose_31 : decode c_M_lose 31 = .ok (.iload_n 2, 1) ∧ 31 + 1 = 32 := by decide +kernel
theorem d_M_lose_32 : decode c_M_lose 32 = .ok (.ireturn, 1) ∧ 32 + 1 = 33 := by decide +kernel
set_option maxHeartbeats 4000000 in
theorem m_M_lose {Z : Sy} {σ : St} {res : (Int32 × St)} {x1 : Int32} (hf : M_lose x1 σ = some res) : Ct YM Z y_M_lose c_M_lose 3 (some .int) 3 [.ref (ya Z 0), .int x1] σ (some (.int res.1)) res.2 := by
  refine Ct.of pn_M (Nat.le_of_ble_eq_true rfl) rfl (fun Γ h => ?_)
  have h : IsG YM Z R_M c_M_lose 3 3 (some .int) (some (.int res.1)) res.2 Γ := h
  unfold M_lose at hf
  refine r_iload_n h d_M_lose_0 1 rfl rfl ?_
  obtain ⟨r1, e1, hf⟩ := q_bind hf
  refine r_callS (As := [.int x1]) (rest := []) h lk_M_291 sk_M_291 d_M_lose_1 (by decide) rfl rfl (Nat.le_of_ble_eq_true rfl) (m_M_noSheet e1) ?_
  refine r_bif_eq h d_M_lose_4 hf (fun hf => ?_) (fun hf => ?_)
  · refine r_aload_n h d_M_lose_9 0 rfl rfl ?_
    refine r_getR h fd_YM_0_74 cf_M fl_M_185 d_M_lose_10 ?_
    refine r_iload_n h d_M_lose_13 1 rfl rfl ?_
    refine r_iald h sh_YM_59 d_M_lose_14 hf (fun hf => ?_)
    refine r_if_ge h d_M_lose_15 hf (fun hf => ?_) (fun hf => ?_)
    · refine r_iconst h d_M_lose_22 ki_1 ?_
      refine r_istore_n (ls' := [(2, .int (1 : Int32)), (0, .ref (ya Z 0)), (1, .int x1)]) h d_M_lose_23 rfl (by decide) rfl ?_
      refine r_aload_n h d_M_lose_24 1 rfl rfl ?_
      refine r_getR h fd_YM_0_74 cf_M fl_M_185 d_M_lose_25 ?_
      refine r_iload_n h d_M_lose_28 2 rfl rfl ?_
      refine r_iconst h d_M_lose_29 ki_m1 ?_
      refine r_iast h sh_YM_59 d_M_lose_30 hf (fun hf => ?_)
      refine r_iload_n h d_M_lose_31 0 rfl rfl ?_
      exact r_ireturn h d_M_lose_32.1 (q_p1 hf) (q_p2 hf)
    · refine r_iconst h d_M_lose_18 ki_0 ?_
      refine r_goto h d_M_lose_19 ?_
      refine r_istore_n (ls' := [(2, .int (0 : Int32)), (0, .ref (ya Z 0)), (1, .int x1)]) h d_M_lose_23 rfl (by decide) rfl ?_
      refine r_aload_n h d_M_lose_24 1 rfl rfl ?_
      refine r_getR h fd_YM_0_74 cf_M fl_M_185 d_M_lose_25 ?_
      refine r_iload_n h d_M_lose_28 2 rfl rfl ?_
      refine r_iconst h d_M_lose_29 ki_m1 ?_
      refine r_iast h sh_YM_59 d_M_lose_30 hf (fun hf => ?_)
      refine r_iload_n h d_M_lose_31 0 rfl rfl ?_
      exact r_ireturn h d_M_lose_32.1 (q_p1 hf) (q_p2 hf)
  · refine r_iconst h d_M_lose_7 ki_m1 ?_
    exact r_ireturn h d_M_lose_8.1 (q_p1 hf) (q_p2 hf)

theorem d_M_noCell_0 : decode c_M_noCell 0 = .ok (.aload_n 0, 1) ∧ 0 + 1 = 1 := by decide +kernel
theorem d_M_noCell_1 : decode c_M_noCell 1 = .ok (.getfield 185, 3) ∧ 1 + 3 = 4 := by decide +kernel
theorem d_M_noCell_4 : decode c_M_noCell 4 = .ok (.iload_n 1, 1) ∧ 4 + 1 = 5 := by decide +kernel
theorem d_M_noCell_5 : decode c_M_noCell 5 = .ok (.iaload, 1) ∧ 5 + 1 = 6 := by decide +kernel
theorem d_M_noCell_6 : decode c_M_noCell 6 = .ok (.ifCond .ge 7, 3) ∧ 6 + 3 = 9 ∧ ((6 : Nat) : Int) + 7 = ((13 : Nat) : Int) := by decide +kernel
theorem d_M_noCell_9 : decode c_M_noCell 9 = .ok (.iconst 1, 1) ∧ 9 + 1 = 10 := by decide +kernel
theorem d_M_noCell_10 : decode c_M_noCell 10 = .ok (.goto 26, 3) ∧ (10 : Int) + 26 = (36 : Int) := by decide +kernel
theorem d_M_noCell_13 : decode c_M_noCell 13 = .ok (.iload_n 2, 1) ∧ 13 + 1 = 14 := by decide +kernel
theorem d_M_noCell_14 : decode c_M_noCell 14 = .ok (.i2l, 1) ∧ 14 + 1 = 15 := by decide +kernel
theorem d_M_noCell_15 : decode c_M_noCell 15 = .ok (.lconst 0, 1) ∧ 15 + 1 = 16 := by decide +kernel
theorem d_M_noCell_16 : decode c_M_noCell 16 = .ok (.aload_n 0, 1) ∧ 16 + 1 = 17 := by decide +kernel
theorem d_M_noCell_17 : decode c_M_noCell 17 = .ok (.getfield 185, 3) ∧ 17 + 3 = 20 := by decide +kernel
theorem d_M_noCell_20 : decode c_M_noCell 20 = .ok (.iload_n 1, 1) ∧ 20 + 1 = 21 := by decide +kernel
theorem d_M_noCell_21 : decode c_M_noCell 21 = .ok (.iaload, 1) ∧ 21 + 1 = 22 := by decide +kernel
theorem d_M_noCell_22 : decode c_M_noCell 22 = .ok (.i2l, 1) ∧ 22 + 1 = 23 := by decide +kernel
theorem d_M_noCell_23 : decode c_M_noCell 23 = .ok (.lconst 1, 1) ∧ 23 + 1 = 24 := by decide +kernel
theorem d_M_noCell_24 : decode c_M_noCell 24 = .ok (.lsub, 1) ∧ 24 + 1 = 25 := by decide +kernel
theorem d_M_noCell_25 : decode c_M_noCell 25 = .ok (.invokestatic 201, 3) ∧ 25 + 3 = 28 := by decide +kernel
theorem d_M_noCell_28 : decode c_M_noCell 28 = .ok (.ifCond .eq 7, 3) ∧ 28 + 3 = 31 ∧ ((28 : Nat) : Int) + 7 = ((35 : Nat) : Int) := by decide +kernel
theorem d_M_noCell_31 : decode c_M_noCell 31 = .ok (.iconst 0, 1) ∧ 31 + 1 = 32 := by decide +kernel
theorem d_M_noCell_32 : decode c_M_noCell 32 = .ok (.goto 4, 3) ∧ (32 : Int) + 4 = (36 : Int) := by decide +kernel
theorem d_M_noCell_35 : decode c_M_noCell 35 = .ok (.iconst 3, 1) ∧ 35 + 1 = 36 := by decide +kernel
theorem d_M_noCell_36 : decode c_M_noCell 36 = .ok (.ireturn, 1) ∧ 36 + 1 = 37 := by decide +kernel
set_option maxHeartbeats 4000000 in
theorem m_M_noCell {Z : Sy} {σ : St} {res : Int32} {x1 : Int32} {x2 : Int32} (hf : M_noCell x1 x2 σ = some res) : Ct YM Z y_M_noCell c_M_noCell 3 (some .int) 2 [.ref (ya Z 0), .int x1, .int x2] σ (some (.int res)) σ := by
  refine Ct.of pn_M (Nat.le_of_ble_eq_true rfl) rfl (fun Γ h => ?_)
  have h : IsG YM Z R_M c_M_noCell 3 2 (some .int) (some (.int res)) σ Γ := h
  unfold M_noCell at hf
  refine r_aload_n h d_M_noCell_0 0 rfl rfl ?_
  refine r_getR h fd_YM_0_74 cf_M fl_M_185 d_M_noCell_1 ?_
  refine r_iload_n h d_M_noCell_4 1 rfl rfl ?_
  refine r_iald h sh_YM_59 d_M_noCell_5 hf (fun hf => ?_)
  refine r_if_ge h d_M_noCell_6 hf (fun hf => ?_) (fun hf => ?_)
  · refine r_iload_n h d_M_noCell_13 2 rfl rfl ?_
    refine r_i2l h d_M_noCell_14 ?_
    refine r_lconst h d_M_noCell_15 kl_0 ?_
    refine r_aload_n h d_M_noCell_16 0 rfl rfl ?_
    refine r_getR h fd_YM_0_74 cf_M fl_M_185 d_M_noCell_17 ?_
    refine r_iload_n h d_M_noCell_20 1 rfl rfl ?_
    refine r_iald h sh_YM_59 d_M_noCell_21 hf (fun hf => ?_)
    refine r_i2l h d_M_noCell_22 ?_
    refine r_lconst h d_M_noCell_23 kl_1 ?_
    refine r_lsub h d_M_noCell_24 ?_
    obtain ⟨r25, e25, hf⟩ := q_bind hf
    refine r_callS (As := [.long (Int32.toInt64 x2), .long (0 : Int64), .long ((Int32.toInt64 (σ.1 59 (Int32.toNatClampNeg x1))) - (1 : Int64))]) (rest := []) h lk_M_201 sk_M_201 d_M_noCell_25 (by decide) rfl rfl (Nat.le_of_ble_eq_true rfl) (m_M_in e25) ?_
    refine r_bif_eq h d_M_noCell_28 hf (fun hf => ?_) (fun hf => ?_)
    · refine r_iconst h d_M_noCell_35 ki_3 ?_
      exact r_ireturn h d_M_noCell_36.1 (Option.some.inj hf) rfl
    · refine r_iconst h d_M_noCell_31 ki_0 ?_
      refine r_goto h d_M_noCell_32 ?_
      exact r_ireturn h d_M_noCell_36.1 (Option.some.inj hf) rfl
  · refine r_iconst h d_M_noCell_9 ki_1 ?_
    refine r_goto h d_M_noCell_10 ?_
    exact r_ireturn h d_M_noCell_36.1 (Option.some.inj hf) rfl

theorem d_M_put_0 : decode c_M_put 0 = .ok (.iload_n 1, 1) ∧ 0 + 1 = 1 := by decide +kernel
theorem d_M_put_1 : decode c_M_put 1 = .ok (.invokestatic 291, 3) ∧ 1 + 3 = 4 := by decide +kernel
theorem d_M_put_4 : decode c_M_put 4 = .ok (.ifCond .eq 9, 3) ∧ 4 + 3 = 7 ∧ ((4 : Nat) : Int) + 9 = ((13 : Nat) : Int) := by decide +kernel
theorem d_M_put_7 : decode c_M_put 7 = .ok (.aload_n 0, 1) ∧ 7 + 1 = 8 := by decide +kernel
theorem d_M_put_8 : decode c_M_put 8 = .ok (.iconst (-1), 1) ∧ 8 + 1 = 9 := by decide +kernel
theorem d_M_put_9 : decode c_M_put 9 = .ok (.invokevirtual 294, 3) ∧ 9 + 3 = 12 := by decide +kernel
theorem d_M_put_12 : decode c_M_put 12 = .ok (.ireturn, 1) ∧ 12 + 1 = 13 := by decide +kernel
theorem d_M_put_13 : decode c_M_put 13 = .ok (.aload_n 0, 1) ∧ 13 + 1 = 14 := by decide +kernel
theorem d_M_put_14 : decode c_M_put 14 = .ok (.iload_n 1, 1) ∧ 14 + 1 = 15 := by decide +kernel
theorem d_M_put_15 : decode c_M_put 15 = .ok (.iload_n 2, 1) ∧ 15 + 1 = 16 := by decide +kernel
theorem d_M_put_16 : decode c_M_put 16 = .ok (.invokevirtual 452, 3) ∧ 16 + 3 = 19 := by decide +kernel
theorem d_M_put_19 : decode c_M_put 19 = .ok (.ifCond .le 14, 3) ∧ 19 + 3 = 22 ∧ ((19 : Nat) : Int) + 14 = ((33 : Nat) : Int) := by decide +kernel
theorem d_M_put_22 : decode c_M_put 22 = .ok (.aload_n 0, 1) ∧ 22 + 1 = 23 := by decide +kernel
theorem d_M_put_23 : decode c_M_put 23 = .ok (.aload_n 0, 1) ∧ 23 + 1 = 24 := by decide +kernel
theorem d_M_put_24 : decode c_M_put 24 = .ok (.iload_n 1, 1) ∧ 24 + 1 = 25 := by decide +kernel
theorem d_M_put_25 : decode c_M_put 25 = .ok (.iload_n 2, 1) ∧ 25 + 1 = 26 := by decide +kernel
theorem d_M_put_26 : decode c_M_put 26 = .ok (.invokevirtual 452, 3) ∧ 26 + 3 = 29 := by decide +kernel
theorem d_M_put_29 : decode c_M_put 29 = .ok (.invokevirtual 305, 3) ∧ 29 + 3 = 32 := by decide +kernel
theorem d_M_put_32 : decode c_M_put 32 = .ok (.ireturn, 1) ∧ 32 + 1 = 33 := by decide +kernel
theorem d_M_put_33 : decode c_M_put 33 = .ok (.aload_n 0, 1) ∧ 33 + 1 = 34 := by decide +kernel
theorem d_M_put_34 : decode c_M_put 34 = .ok (.getfield 191, 3) ∧ 34 + 3 = 37 := by decide +kernel
theorem d_M_put_37 : decode c_M_put 37 = .ok (.bipush 60, 2) ∧ 37 + 2 = 39 := by decide +kernel
theorem d_M_put_39 : decode c_M_put 39 = .ok (.iload_n 1, 1) ∧ 39 + 1 = 40 := by decide +kernel
theorem d_M_put_40 : decode c_M_put 40 = .ok (.imul, 1) ∧ 40 + 1 = 41 := by decide +kernel
theorem d_M_put_41 : decode c_M_put 41 = .ok (.iload_n 2, 1) ∧ 41 + 1 = 42 := by decide +kernel
theorem d_M_put_42 : decode c_M_put 42 = .ok (.iadd, 1) ∧ 42 + 1 = 43 := by decide +kernel
theorem d_M_put_43 : decode c_M_put 43 = .ok (.aload_n 0, 1) ∧ 43 + 1 = 44 := by decide +kernel
theorem d_M_put_44 : decode c_M_put 44 = .ok (.getfield 188, 3) ∧ 44 + 3 = 47 := by decide +kernel
theorem d_M_put_47 : decode c_M_put 47 = .ok (.iload_n 1, 1) ∧ 47 + 1 = 48 := by decide +kernel
theorem d_M_put_48 : decode c_M_put 48 = .ok (.iaload, 1) ∧ 48 + 1 = 49 := by decide +kernel
theorem d_M_put_49 : decode c_M_put 49 = .ok (.ifCond .ne 8, 3) ∧ 49 + 3 = 52 ∧ ((49 : Nat) : Int) + 8 = ((57 : Nat) : Int) := by decide +kernel
theorem d_M_put_52 : decode c_M_put 52 = .ok (.iload_n 3, 1) ∧ 52 + 1 = 53 := by decide +kernel
theorem d_M_put_53 : decode c_M_put 53 = .ok (.i2b, 1) ∧ 53 + 1 = 54 := by decide +kernel
theorem d_M_put_54 : decode c_M_put 54 = .ok (.goto 19, 3) ∧ (54 : Int) + 19 = (73 : Int) := by decide +kernel
theorem d_M_put_57 : decode c_M_put 57 = .ok (.aload_n 0, 1) ∧ 57 + 1 = 58 := by decide +kernel
theorem d_M_put_58 : decode c_M_put 58 = .ok (.getfield 188, 3) ∧ 58 + 3 = 61 := by decide +kernel
theorem d_M_put_61 : decode c_M_put 61 = .ok (.iload_n 1, 1) ∧ 61 + 1 = 62 := by decide +kernel
theorem d_M_put_62 : decode c_M_put 62 = .ok (.iaload, 1) ∧ 62 + 1 = 63 := by decide +kernel
theorem d_M_put_63 : decode c_M_put 63 = .ok (.iconst 1, 1) ∧ 63 + 1 = 64 := by decide +kernel
theorem d_M_put_64 : decode c_M_put 64 = .ok (.if_icmp .ne 8, 3) ∧ 64 + 3 = 67 ∧ ((64 : Nat) : Int) + 8 = ((72 : Nat) : Int) := by decide +kernel
theorem d_M_put_67 : decode c_M_put 67 = .ok (.iload_n 3, 1) ∧ 67 + 1 = 68 := by decide +kernel
theorem d_M_put_68 : decode c_M_put 68 = .ok (.i2s, 1) ∧ 68 + 1 = 69 := by decide +kernel
theorem d_M_put_69 : decode c_M_put 69 = .ok (.goto 4, 3) ∧ (69 : Int) + 4 = (73 : Int) := by decide +kernel
theorem d_M_put_72 : decode c_M_put 72 = .ok (.iload_n 3, 1) ∧ 72 + 1 = 73 := by decide +kernel
theorem d_M_put_73 : decode c_M_put 73 = .ok (.iastore, 1) ∧ 73 + 1 = 74 := by decide +kernel
theorem d_M_put_74 : decode c_M_put 74 = .ok (.aload_n 0, 1) ∧ 74 + 1 = 75 := by decide +kernel
theorem d_M_put_75 : decode c_M_put 75 = .ok (.iconst 1, 1) ∧ 75 + 1 = 76 := by decide +kernel
theorem d_M_put_76 : decode c_M_put 76 = .ok (.invokevirtual 294, 3) ∧ 76 + 3 = 79 := by decide +kernel
theorem d_M_put_79 : decode c_M_put 79 = .ok (.ireturn, 1) ∧ 79 + 1 = 80 := by decide +kernel
set_option maxHeartbeats 4000000 in
theorem m_M_put {Z : Sy} {σ : St} {res : (Int32 × St)} {x1 : Int32} {x2 : Int32} {x3 : Int32} (hf : M_put x1 x2 x3 σ = some res) : Ct YM Z y_M_put c_M_put 4 (some .int) 3 [.ref (ya Z 0), .int x1, .int x2, .int x3] σ (some (.int res.1)) res.2 := by
  refine Ct.of pn_M (Nat.le_of_ble_eq_true rfl) rfl (fun Γ h => ?_)
  have h : IsG YM Z R_M c_M_put 4 3 (some .int) (some (.int res.1)) res.2 Γ := h
  unfold M_put at hf
  refine r_iload_n h d_M_put_0 1 rfl rfl ?_
  obtain ⟨r1, e1, hf⟩ := q_bind hf
  refine r_callS (As := [.int x1]) (rest := []) h lk_M_291 sk_M_291 d_M_put_1 (by decide) rfl rfl (Nat.le_of_ble_eq_true rfl) (m_M_noSheet e1) ?_
  refine r_bif_eq h d_M_put_4 hf (fun hf => ?_) (fun hf => ?_)
  · refine r_aload_n h d_M_put_13 0 rfl rfl ?_
    refine r_iload_n h d_M_put_14 1 rfl rfl ?_
    refine r_iload_n h d_M_put_15 2 rfl rfl ?_
    obtain ⟨r16, e16, hf⟩ := q_bind hf
    refine r_callV (As := [.int x1, .int x2]) (rest := []) h sh_YM_0 lk_M_452 vk_M_452 d_M_put_16 (by decide) rfl rfl (Nat.le_of_ble_eq_true rfl) (m_M_noCell e16) ?_
    refine r_if_le h d_M_put_19 hf (fun hf => ?_) (fun hf => ?_)
    · refine r_aload_n h d_M_put_33 0 rfl rfl ?_
      refine r_getR h fd_YM_0_76 cf_M fl_M_191 d_M_put_34 ?_
      refine r_bipush h d_M_put_37 kb_60 ?_
      refine r_iload_n h d_M_put_39 1 rfl rfl ?_
      refine r_imul h d_M_put_40 ?_
      refine r_iload_n h d_M_put_41 2 rfl rfl ?_
      refine r_iadd h d_M_put_42 ?_
      refine r_aload_n h d_M_put_43 0 rfl rfl ?_
      refine r_getR h fd_YM_0_75 cf_M fl_M_188 d_M_put_44 ?_
      refine r_iload_n h d_M_put_47 1 rfl rfl ?_
      refine r_iald h sh_YM_60 d_M_put_48 hf (fun hf => ?_)
      refine r_if_ne h d_M_put_49 hf (fun hf => ?_) (fun hf => ?_)
      · refine r_aload_n h d_M_put_57 0 rfl rfl ?_
        refine r_getR h fd_YM_0_75 cf_M fl_M_188 d_M_put_58 ?_
        refine r_iload_n h d_M_put_61 1 rfl rfl ?_
        refine r_iald h sh_YM_60 d_M_put_62 hf (fun hf => ?_)
        refine r_iconst h d_M_put_63 ki_1 ?_
        refine r_icmp_ne h d_M_put_64 hf (fun hf => ?_) (fun hf => ?_)
        · refine r_iload_n h d_M_put_72 3 rfl rfl ?_
          refine r_iast h sh_YM_61 d_M_put_73 hf (fun hf => ?_)
          refine r_aload_n h d_M_put_74 0 rfl rfl ?_
          refine r_iconst h d_M_put_75 ki_1 ?_
          obtain ⟨q76, e76, hf⟩ := q_bind hf
          refine r_callV (As := [.int (1 : Int32)]) (rest := []) h sh_YM_0 lk_M_294 vk_M_294 d_M_put_76 (by decide) rfl rfl (Nat.le_of_ble_eq_true rfl) (m_M_refused e76) ?_
          exact r_ireturn h d_M_put_79.1 (q_p1 hf) (q_p2 hf)
        · refine r_iload_n h d_M_put_67 3 rfl rfl ?_
          refine r_i2s h d_M_put_68 ?_
          refine r_goto h d_M_put_69 ?_
          refine r_iast h sh_YM_61 d_M_put_73 hf (fun hf => ?_)
          refine r_aload_n h d_M_put_74 0 rfl rfl ?_
          refine r_iconst h d_M_put_75 ki_1 ?_
          obtain ⟨q76, e76, hf⟩ := q_bind hf
          refine r_callV (As := [.int (1 : Int32)]) (rest := []) h sh_YM_0 lk_M_294 vk_M_294 d_M_put_76 (by decide) rfl rfl (Nat.le_of_ble_eq_true rfl) (m_M_refused e76) ?_
          exact r_ireturn h d_M_put_79.1 (q_p1 hf) (q_p2 hf)
      · refine r_iload_n h d_M_put_52 3 rfl rfl ?_
        refine r_i2b h d_M_put_53 ?_
        refine r_goto h d_M_put_54 ?_
        refine r_iast h sh_YM_61 d_M_put_73 hf (fun hf => ?_)
        refine r_aload_n h d_M_put_74 0 rfl rfl ?_
        refine r_iconst h d_M_put_75 ki_1 ?_
        obtain ⟨q76, e76, hf⟩ := q_bind hf
        refine r_callV (As := [.int (1 : Int32)]) (rest := []) h sh_YM_0 lk_M_294 vk_M_294 d_M_put_76 (by decide) rfl rfl (Nat.le_of_ble_eq_true rfl) (m_M_refused e76) ?_
        exact r_ireturn h d_M_put_79.1 (q_p1 hf) (q_p2 hf)
    · refine r_aload_n h d_M_put_22 0 rfl rfl ?_
      refine r_aload_n h d_M_put_23 0 rfl rfl ?_
      refine r_iload_n h d_M_put_24 1 rfl rfl ?_
      refine r_iload_n h d_M_put_25 2 rfl rfl ?_
      obtain ⟨r26, e26, hf⟩ := q_bind hf
      refine r_callV (As := [.int x1, .int x2]) (rest := [.ref (ya Z 0)]) h sh_YM_0 lk_M_452 vk_M_452 d_M_put_26 (by decide) rfl rfl (Nat.le_of_ble_eq_true rfl) (m_M_noCell e26) ?_
      obtain ⟨q29, e29, hf⟩ := q_bind hf
      refine r_callV (As := [.int r26]) (rest := []) h sh_YM_0 lk_M_305 vk_M_305 d_M_put_29 (by decide) rfl rfl (Nat.le_of_ble_eq_true rfl) (m_M_failed e29) ?_
      exact r_ireturn h d_M_put_32.1 (q_p1 hf) (q_p2 hf)
  · refine r_aload_n h d_M_put_7 0 rfl rfl ?_
    refine r_iconst h d_M_put_8 ki_m1 ?_
    obtain ⟨q9, e9, hf⟩ := q_bind hf
    refine r_callV (As := [.int (-1 : Int32)]) (rest := []) h sh_YM_0 lk_M_294 vk_M_294 d_M_put_9 (by decide) rfl rfl (Nat.le_of_ble_eq_true rfl) (m_M_refused e9) ?_
    exact r_ireturn h d_M_put_12.1 (q_p1 hf) (q_p2 hf)

theorem d_M_failedLong_0 : decode c_M_failedLong 0 = .ok (.aload_n 0, 1) ∧ 0 + 1 = 1 := by decide +kernel
theorem d_M_failedLong_1 : decode c_M_failedLong 1 = .ok (.iload_n 1, 1) ∧ 1 + 1 = 2 := by decide +kernel
theorem d_M_failedLong_2 : decode c_M_failedLong 2 = .ok (.putfield 209, 3) ∧ 2 + 3 = 5 := by decide +kernel
theorem d_M_failedLong_5 : decode c_M_failedLong 5 = .ok (.invokestatic 213, 3) ∧ 5 + 3 = 8 := by decide +kernel
theorem d_M_failedLong_8 : decode c_M_failedLong 8 = .ok (.lreturn, 1) ∧ 8 + 1 = 9 := by decide +kernel
set_option maxHeartbeats 4000000 in
theorem m_M_failedLong {Z : Sy} {σ : St} {res : (Int64 × St)} {x1 : Int32} (hf : M_failedLong x1 σ = some res) : Ct YM Z y_M_failedLong c_M_failedLong 2 (some .long) 2 [.ref (ya Z 0), .int x1] σ (some (.long res.1)) res.2 := by
  refine Ct.of pn_M (Nat.le_of_ble_eq_true rfl) rfl (fun Γ h => ?_)
  have h : IsG YM Z R_M c_M_failedLong 2 2 (some .long) (some (.long res.1)) res.2 Γ := h
  unfold M_failedLong at hf
  refine r_aload_n h d_M_failedLong_0 0 rfl rfl ?_
  refine r_iload_n h d_M_failedLong_1 1 rfl rfl ?_
  refine r_putI h fd_YM_0_0 cf_M fl_M_209 ⟨rfl, rfl⟩ d_M_failedLong_2 ?_
  obtain ⟨r5, e5, hf⟩ := q_bind hf
  refine r_callS (As := []) (rest := []) h lk_M_213 sk_M_213 d_M_failedLong_5 (by decide) rfl rfl (Nat.le_of_ble_eq_true rfl) (m_M_lost e5) ?_
  exact r_lreturn h d_M_failedLong_8.1 (q_p1 hf) (q_p2 hf)

theorem d_M_cell_0 : decode c_M_cell 0 = .ok (.aload_n 0, 1) ∧ 0 + 1 = 1 := by decide +kernel
theorem d_M_cell_1 : decode c_M_cell 1 = .ok (.iconst 0, 1) ∧ 1 + 1 = 2 := by decide +kernel
theorem d_M_cell_2 : decode c_M_cell 2 = .ok (.putfield 209, 3) ∧ 2 + 3 = 5 := by decide +kernel
theorem d_M_cell_5 : decode c_M_cell 5 = .ok (.iload_n 1, 1) ∧ 5 + 1 = 6 := by decide +kernel
theorem d_M_cell_6 : decode c_M_cell 6 = .ok (.invokestatic 291, 3) ∧ 6 + 3 = 9 := by decide +kernel
theorem d_M_cell_9 : decode c_M_cell 9 = .ok (.ifCond .ne 15, 3) ∧ 9 + 3 = 12 ∧ ((9 : Nat) : Int) + 15 = ((24 : Nat) : Int) := by decide +kernel
theorem d_M_cell_12 : decode c_M_cell 12 = .ok (.iload_n 3, 1) ∧ 12 + 1 = 13 := by decide +kernel
theorem d_M_cell_13 : decode c_M_cell 13 = .ok (.i2l, 1) ∧ 13 + 1 = 14 := by decide +kernel
theorem d_M_cell_14 : decode c_M_cell 14 = .ok (.lconst 0, 1) ∧ 14 + 1 = 15 := by decide +kernel
theorem d_M_cell_15 : decode c_M_cell 15 = .ok (.ldc2_w 266, 3) ∧ 15 + 3 = 18 := by decide +kernel
theorem d_M_cell_18 : decode c_M_cell 18 = .ok (.invokestatic 201, 3) ∧ 18 + 3 = 21 := by decide +kernel
theorem d_M_cell_21 : decode c_M_cell 21 = .ok (.ifCond .ne 7, 3) ∧ 21 + 3 = 24 ∧ ((21 : Nat) : Int) + 7 = ((28 : Nat) : Int) := by decide +kernel
theorem d_M_cell_24 : decode c_M_cell 24 = .ok (.invokestatic 213, 3) ∧ 24 + 3 = 27 := by decide +kernel
theorem d_M_cell_27 : decode c_M_cell 27 = .ok (.lreturn, 1) ∧ 27 + 1 = 28 := by decide +kernel
theorem d_M_cell_28 : decode c_M_cell 28 = .ok (.aload_n 0, 1) ∧ 28 + 1 = 29 := by decide +kernel
theorem d_M_cell_29 : decode c_M_cell 29 = .ok (.getfield 185, 3) ∧ 29 + 3 = 32 := by decide +kernel
theorem d_M_cell_32 : decode c_M_cell 32 = .ok (.iload_n 1, 1) ∧ 32 + 1 = 33 := by decide +kernel
theorem d_M_cell_33 : decode c_M_cell 33 = .ok (.iaload, 1) ∧ 33 + 1 = 34 := by decide +kernel
theorem d_M_cell_34 : decode c_M_cell 34 = .ok (.ifCond .lt 19, 3) ∧ 34 + 3 = 37 ∧ ((34 : Nat) : Int) + 19 = ((53 : Nat) : Int) := by decide +kernel
theorem d_M_cell_37 : decode c_M_cell 37 = .ok (.aload_n 0, 1) ∧ 37 + 1 = 38 := by decide +kernel
theorem d_M_cell_38 : decode c_M_cell 38 = .ok (.getfield 188, 3) ∧ 38 + 3 = 41 := by decide +kernel
theorem d_M_cell_41 : decode c_M_cell 41 = .ok (.iload_n 1, 1) ∧ 41 + 1 = 42 := by decide +kernel
theorem d_M_cell_42 : decode c_M_cell 42 = .ok (.iaload, 1) ∧ 42 + 1 = 43 := by decide +kernel
theorem d_M_cell_43 : decode c_M_cell 43 = .ok (.iload_n 3, 1) ∧ 43 + 1 = 44 := by decide +kernel
theorem d_M_cell_44 : decode c_M_cell 44 = .ok (.if_icmp .eq 9, 3) ∧ 44 + 3 = 47 ∧ ((44 : Nat) : Int) + 9 = ((53 : Nat) : Int) := by decide +kernel
theorem d_M_cell_47 : decode c_M_cell 47 = .ok (.aload_n 0, 1) ∧ 47 + 1 = 48 := by decide +kernel
theorem d_M_cell_48 : decode c_M_cell 48 = .ok (.iconst 2, 1) ∧ 48 + 1 = 49 := by decide +kernel
theorem d_M_cell_49 : decode c_M_cell 49 = .ok (.invokevirtual 455, 3) ∧ 49 + 3 = 52 := by decide +kernel
theorem d_M_cell_52 : decode c_M_cell 52 = .ok (.lreturn, 1) ∧ 52 + 1 = 53 := by decide +kernel
theorem d_M_cell_53 : decode c_M_cell 53 = .ok (.aload_n 0, 1) ∧ 53 + 1 = 54 := by decide +kernel
theorem d_M_cell_54 : decode c_M_cell 54 = .ok (.iload_n 1, 1) ∧ 54 + 1 = 55 := by decide +kernel
theorem d_M_cell_55 : decode c_M_cell 55 = .ok (.iload_n 2, 1) ∧ 55 + 1 = 56 := by decide +kernel
theorem d_M_cell_56 : decode c_M_cell 56 = .ok (.invokevirtual 452, 3) ∧ 56 + 3 = 59 := by decide +kernel
theorem d_M_cell_59 : decode c_M_cell 59 = .ok (.ifCond .le 16, 3) ∧ 59 + 3 = 62 ∧ ((59 : Nat) : Int) + 16 = ((75 : Nat) : Int) := by decide +kernel
theorem d_M_cell_62 : decode c_M_cell 62 = .ok (.aload_n 0, 1) ∧ 62 + 1 = 63 := by decide +kernel
theorem d_M_cell_63 : decode c_M_cell 63 = .ok (.aload_n 0, 1) ∧ 63 + 1 = 64 := by decide +kernel
theorem d_M_cell_64 : decode c_M_cell 64 = .ok (.iload_n 1, 1) ∧ 64 + 1 = 65 := by decide +kernel
theorem d_M_cell_65 : decode c_M_cell 65 = .ok (.iload_n 2, 1) ∧ 65 + 1 = 66 := by decide +kernel
theorem d_M_cell_66 : decode c_M_cell 66 = .ok (.invokevirtual 452, 3) ∧ 66 + 3 = 69 := by decide +kernel
theorem d_M_cell_69 : decode c_M_cell 69 = .ok (.invokevirtual 455, 3) ∧ 69 + 3 = 72 := by decide +kernel
theorem d_M_cell_72 : decode c_M_cell 72 = .ok (.goto 15, 3) ∧ (72 : Int) + 15 = (87 : Int) := by decide +kernel
theorem d_M_cell_75 : decode c_M_cell 75 = .ok (.aload_n 0, 1) ∧ 75 + 1 = 76 := by decide +kernel
theorem d_M_cell_76 : decode c_M_cell 76 = .ok (.getfield 191, 3) ∧ 76 + 3 = 79 := by decide +kernel
theorem d_M_cell_79 : decode c_M_cell 79 = .ok (.bipush 60, 2) ∧ 79 + 2 = 81 := by decide +kernel
theorem d_M_cell_81 : decode c_M_cell 81 = .ok (.iload_n 1, 1) ∧ 81 + 1 = 82 := by decide +kernel
theorem d_M_cell_82 : decode c_M_cell 82 = .ok (.imul, 1) ∧ 82 + 1 = 83 := by decide +kernel
theorem d_M_cell_83 : decode c_M_cell 83 = .ok (.iload_n 2, 1) ∧ 83 + 1 = 84 := by decide +kernel
theorem d_M_cell_84 : decode c_M_cell 84 = .ok (.iadd, 1) ∧ 84 + 1 = 85 := by decide +kernel
theorem d_M_cell_85 : decode c_M_cell 85 = .ok (.iaload, 1) ∧ 85 + 1 = 86 := by decide +kernel
theorem d_M_cell_86 : decode c_M_cell 86 = .ok (.i2l, 1) ∧ 86 + 1 = 87 := by decide +kernel
theorem d_M_cell_87 : decode c_M_cell 87 = .ok (.lreturn, 1) ∧ 87 + 1 = 88 := by decide +kernel
set_option maxHeartbeats 4000000 in
theorem m_M_cell {Z : Sy} {σ : St} {res : (Int64 × St)} {x1 : Int32} {x2 : Int32} {x3 : Int32} (hf : M_cell x1 x2 x3 σ = some res) : Ct YM Z y_M_cell c_M_cell 4 (some .long) 3 [.ref (ya Z 0), .int x1, .int x2, .int x3] σ (some (.long res.1)) res.2 := by
  refine Ct.of pn_M (Nat.le_of_ble_eq_true rfl) rfl (fun Γ h => ?_)
  have h : IsG YM Z R_M c_M_cell 4 3 (some .long) (some (.long res.1)) res.2 Γ := h
  unfold M_cell at hf
  refine r_aload_n h d_M_cell_0 0 rfl rfl ?_
  refine r_iconst h d_M_cell_1 ki_0 ?_
  refine r_putI h fd_YM_0_0 cf_M fl_M_209 ⟨rfl, rfl⟩ d_M_cell_2 ?_
  refine r_iload_n h d_M_cell_5 1 rfl rfl ?_
  obtain ⟨r6, e6, hf⟩ := q_bind hf
  refine r_callS (As := [.int x1]) (rest := []) h lk_M_291 sk_M_291 d_M_cell_6 (by decide) rfl rfl (Nat.le_of_ble_eq_true rfl) (m_M_noSheet e6) ?_
  refine r_bif_ne h d_M_cell_9 hf (fun hf => ?_) (fun hf => ?_)
  · obtain ⟨r24, e24, hf⟩ := q_bind hf
    refine r_callS (As := []) (rest := []) h lk_M_213 sk_M_213 d_M_cell_24 (by decide) rfl rfl (Nat.le_of_ble_eq_true rfl) (m_M_lost e24) ?_
    exact r_lreturn h d_M_cell_27.1 (q_p1 hf) (q_p2 hf)
  · refine r_iload_n h d_M_cell_12 3 rfl rfl ?_
    refine r_i2l h d_M_cell_13 ?_
    refine r_lconst h d_M_cell_14 kl_0 ?_
    refine r_ldc2 h d_M_cell_15 tm_1478 ?_
    obtain ⟨r18, e18, hf⟩ := q_bind hf
    refine r_callS (As := [.long (Int32.toInt64 x3), .long (0 : Int64), .long (2 : Int64)]) (rest := []) h lk_M_201 sk_M_201 d_M_cell_18 (by decide) rfl rfl (Nat.le_of_ble_eq_true rfl) (m_M_in e18) ?_
    refine r_bif_ne h d_M_cell_21 hf (fun hf => ?_) (fun hf => ?_)
    · refine r_aload_n h d_M_cell_28 0 rfl rfl ?_
      refine r_getR h fd_YM_0_74 cf_M fl_M_185 d_M_cell_29 ?_
      refine r_iload_n h d_M_cell_32 1 rfl rfl ?_
      refine r_ialdv (v := (σ.1 59 (Int32.toNatClampNeg x1))) h sh_YM_59 d_M_cell_33 hf rfl (fun hf => ?_)
      refine r_if_lt h d_M_cell_34 hf (fun hf => ?_) (fun hf => ?_)
      · refine r_aload_n h d_M_cell_53 0 rfl rfl ?_
        refine r_iload_n h d_M_cell_54 1 rfl rfl ?_
        refine r_iload_n h d_M_cell_55 2 rfl rfl ?_
        obtain ⟨r56, e56, hf⟩ := q_bind hf
        refine r_callV (As := [.int x1, .int x2]) (rest := []) h sh_YM_0 lk_M_452 vk_M_452 d_M_cell_56 (by decide) rfl rfl (Nat.le_of_ble_eq_true rfl) (m_M_noCell e56) ?_
        refine r_if_le h d_M_cell_59 hf (fun hf => ?_) (fun hf => ?_)
        · refine r_aload_n h d_M_cell_75 0 rfl rfl ?_
          refine r_getR h fd_YM_0_76 cf_M fl_M_191 d_M_cell_76 ?_
          refine r_bipush h d_M_cell_79 kb_60 ?_
          refine r_iload_n h d_M_cell_81 1 rfl rfl ?_
          refine r_imul h d_M_cell_82 ?_
          refine r_iload_n h d_M_cell_83 2 rfl rfl ?_
          refine r_iadd h d_M_cell_84 ?_
          refine r_ialdv (v := (σ.1 61 (Int32.toNatClampNeg (((60 : Int32) * x1) + x2)))) h sh_YM_61 d_M_cell_85 hf rfl (fun hf => ?_)
          refine r_i2l h d_M_cell_86 ?_
          exact r_lreturn h d_M_cell_87.1 (q_p1 hf) (q_p2 hf)
        · refine r_aload_n h d_M_cell_62 0 rfl rfl ?_
          refine r_aload_n h d_M_cell_63 0 rfl rfl ?_
          refine r_iload_n h d_M_cell_64 1 rfl rfl ?_
          refine r_iload_n h d_M_cell_65 2 rfl rfl ?_
          obtain ⟨r66, e66, hf⟩ := q_bind hf
          refine r_callV (As := [.int x1, .int x2]) (rest := [.ref (ya Z 0)]) h sh_YM_0 lk_M_452 vk_M_452 d_M_cell_66 (by decide) rfl rfl (Nat.le_of_ble_eq_true rfl) (m_M_noCell e66) ?_
          obtain ⟨q69, e69, hf⟩ := q_bind hf
          refine r_callV (As := [.int r66]) (rest := []) h sh_YM_0 lk_M_455 vk_M_455 d_M_cell_69 (by decide) rfl rfl (Nat.le_of_ble_eq_true rfl) (m_M_failedLong e69) ?_
          refine r_goto h d_M_cell_72 ?_
          exact r_lreturn h d_M_cell_87.1 (q_p1 hf) (q_p2 hf)
      · refine r_aload_n h d_M_cell_37 0 rfl rfl ?_
        refine r_getR h fd_YM_0_75 cf_M fl_M_188 d_M_cell_38 ?_
        refine r_iload_n h d_M_cell_41 1 rfl rfl ?_
        refine r_ialdv (v := (σ.1 60 (Int32.toNatClampNeg x1))) h sh_YM_60 d_M_cell_42 hf rfl (fun hf => ?_)
        refine r_iload_n h d_M_cell_43 3 rfl rfl ?_
        refine r_icmp_eq h d_M_cell_44 hf (fun hf => ?_) (fun hf => ?_)
        · refine r_aload_n h d_M_cell_53 0 rfl rfl ?_
          refine r_iload_n h d_M_cell_54 1 rfl rfl ?_
          refine r_iload_n h d_M_cell_55 2 rfl rfl ?_
          obtain ⟨r56, e56, hf⟩ := q_bind hf
          refine r_callV (As := [.int x1, .int x2]) (rest := []) h sh_YM_0 lk_M_452 vk_M_452 d_M_cell_56 (by decide) rfl rfl (Nat.le_of_ble_eq_true rfl) (m_M_noCell e56) ?_
          refine r_if_le h d_M_cell_59 hf (fun hf => ?_) (fun hf => ?_)
          · refine r_aload_n h d_M_cell_75 0 rfl rfl ?_
            refine r_getR h fd_YM_0_76 cf_M fl_M_191 d_M_cell_76 ?_
            refine r_bipush h d_M_cell_79 kb_60 ?_
            refine r_iload_n h d_M_cell_81 1 rfl rfl ?_
            refine r_imul h d_M_cell_82 ?_
            refine r_iload_n h d_M_cell_83 2 rfl rfl ?_
            refine r_iadd h d_M_cell_84 ?_
            refine r_ialdv (v := (σ.1 61 (Int32.toNatClampNeg (((60 : Int32) * x1) + x2)))) h sh_YM_61 d_M_cell_85 hf rfl (fun hf => ?_)
            refine r_i2l h d_M_cell_86 ?_
            exact r_lreturn h d_M_cell_87.1 (q_p1 hf) (q_p2 hf)
          · refine r_aload_n h d_M_cell_62 0 rfl rfl ?_
            refine r_aload_n h d_M_cell_63 0 rfl rfl ?_
            refine r_iload_n h d_M_cell_64 1 rfl rfl ?_
            refine r_iload_n h d_M_cell_65 2 rfl rfl ?_
            obtain ⟨r66, e66, hf⟩ := q_bind hf
            refine r_callV (As := [.int x1, .int x2]) (rest := [.ref (ya Z 0)]) h sh_YM_0 lk_M_452 vk_M_452 d_M_cell_66 (by decide) rfl rfl (Nat.le_of_ble_eq_true rfl) (m_M_noCell e66) ?_
            obtain ⟨q69, e69, hf⟩ := q_bind hf
            refine r_callV (As := [.int r66]) (rest := []) h sh_YM_0 lk_M_455 vk_M_455 d_M_cell_69 (by decide) rfl rfl (Nat.le_of_ble_eq_true rfl) (m_M_failedLong e69) ?_
            refine r_goto h d_M_cell_72 ?_
            exact r_lreturn h d_M_cell_87.1 (q_p1 hf) (q_p2 hf)
        · refine r_aload_n h d_M_cell_47 0 rfl rfl ?_
          refine r_iconst h d_M_cell_48 ki_2 ?_
          obtain ⟨q49, e49, hf⟩ := q_bind hf
          refine r_callV (As := [.int (2 : Int32)]) (rest := []) h sh_YM_0 lk_M_455 vk_M_455 d_M_cell_49 (by decide) rfl rfl (Nat.le_of_ble_eq_true rfl) (m_M_failedLong e49) ?_
          exact r_lreturn h d_M_cell_52.1 (q_p1 hf) (q_p2 hf)
    · obtain ⟨r24, e24, hf⟩ := q_bind hf
      refine r_callS (As := []) (rest := []) h lk_M_213 sk_M_213 d_M_cell_24 (by decide) rfl rfl (Nat.le_of_ble_eq_true rfl) (m_M_lost e24) ?_
      exact r_lreturn h d_M_cell_27.1 (q_p1 hf) (q_p2 hf)

theorem d_M_copy_0 : decode c_M_copy 0 = .ok (.iload_n 1, 1) ∧ 0 + 1 = 1 := by decide +kernel
theorem d_M_copy_1 : decode c_M_copy 1 = .ok (.invokestatic 291, 3) ∧ 1 + 3 = 4 := by decide +kernel
theorem d_M_copy_4 : decode c_M_copy 4 = .ok (.ifCond .ne 10, 3) ∧ 4 + 3 = 7 ∧ ((4 : Nat) : Int) + 10 = ((14 : Nat) : Int) := by decide +kernel
theorem d_M_copy_7 : decode c_M_copy 7 = .ok (.iload_n 3, 1) ∧ 7 + 1 = 8 := by decide +kernel
theorem d_M_copy_8 : decode c_M_copy 8 = .ok (.invokestatic 291, 3) ∧ 8 + 3 = 11 := by decide +kernel
theorem d_M_copy_11 : decode c_M_copy 11 = .ok (.ifCond .eq 9, 3) ∧ 11 + 3 = 14 ∧ ((11 : Nat) : Int) + 9 = ((20 : Nat) : Int) := by decide +kernel
theorem d_M_copy_14 : decode c_M_copy 14 = .ok (.aload_n 0, 1) ∧ 14 + 1 = 15 := by decide +kernel
theorem d_M_copy_15 : decode c_M_copy 15 = .ok (.iconst (-1), 1) ∧ 15 + 1 = 16 := by decide +kernel
theorem d_M_copy_16 : decode c_M_copy 16 = .ok (.invokevirtual 294, 3) ∧ 16 + 3 = 19 := by decide +kernel
theorem d_M_copy_19 : decode c_M_copy 19 = .ok (.ireturn, 1) ∧ 19 + 1 = 20 := by decide +kernel
theorem d_M_copy_20 : decode c_M_copy 20 = .ok (.aload_n 0, 1) ∧ 20 + 1 = 21 := by decide +kernel
theorem d_M_copy_21 : decode c_M_copy 21 = .ok (.getfield 185, 3) ∧ 21 + 3 = 24 := by decide +kernel
theorem d_M_copy_24 : decode c_M_copy 24 = .ok (.iload_n 1, 1) ∧ 24 + 1 = 25 := by decide +kernel
theorem d_M_copy_25 : decode c_M_copy 25 = .ok (.iaload, 1) ∧ 25 + 1 = 26 := by decide +kernel
theorem d_M_copy_26 : decode c_M_copy 26 = .ok (.ifCond .lt 12, 3) ∧ 26 + 3 = 29 ∧ ((26 : Nat) : Int) + 12 = ((38 : Nat) : Int) := by decide +kernel
theorem d_M_copy_29 : decode c_M_copy 29 = .ok (.aload_n 0, 1) ∧ 29 + 1 = 30 := by decide +kernel
theorem d_M_copy_30 : decode c_M_copy 30 = .ok (.getfield 185, 3) ∧ 30 + 3 = 33 := by decide +kernel
theorem d_M_copy_33 : decode c_M_copy 33 = .ok (.iload_n 3, 1) ∧ 33 + 1 = 34 := by decide +kernel
theorem d_M_copy_34 : decode c_M_copy 34 = .ok (.iaload, 1) ∧ 34 + 1 = 35 := by decide +kernel
theorem d_M_copy_35 : decode c_M_copy 35 = .ok (.ifCond .ge 9, 3) ∧ 35 + 3 = 38 ∧ ((35 : Nat) : Int) + 9 = ((44 : Nat) : Int) := by decide +kernel
theorem d_M_copy_38 : decode c_M_copy 38 = .ok (.aload_n 0, 1) ∧ 38 + 1 = 39 := by decide +kernel
theorem d_M_copy_39 : decode c_M_copy 39 = .ok (.iconst 1, 1) ∧ 39 + 1 = 40 := by decide +kernel
theorem d_M_copy_40 : decode c_M_copy 40 = .ok (.invokevirtual 305, 3) ∧ 40 + 3 = 43 := by decide +kernel
theorem d_M_copy_43 : decode c_M_copy 43 = .ok (.ireturn, 1) ∧ 43 + 1 = 44 := by decide +kernel
theorem d_M_copy_44 : decode c_M_copy 44 = .ok (.aload_n 0, 1) ∧ 44 + 1 = 45 := by decide +kernel
theorem d_M_copy_45 : decode c_M_copy 45 = .ok (.getfield 188, 3) ∧ 45 + 3 = 48 := by decide +kernel
theorem d_M_copy_48 : decode c_M_copy 48 = .ok (.iload_n 1, 1) ∧ 48 + 1 = 49 := by decide +kernel
theorem d_M_copy_49 : decode c_M_copy 49 = .ok (.iaload, 1) ∧ 49 + 1 = 50 := by decide +kernel
theorem d_M_copy_50 : decode c_M_copy 50 = .ok (.aload_n 0, 1) ∧ 50 + 1 = 51 := by decide +kernel
theorem d_M_copy_51 : decode c_M_copy 51 = .ok (.getfield 188, 3) ∧ 51 + 3 = 54 := by decide +kernel
theorem d_M_copy_54 : decode c_M_copy 54 = .ok (.iload_n 3, 1) ∧ 54 + 1 = 55 := by decide +kernel
theorem d_M_copy_55 : decode c_M_copy 55 = .ok (.iaload, 1) ∧ 55 + 1 = 56 := by decide +kernel
theorem d_M_copy_56 : decode c_M_copy 56 = .ok (.if_icmp .eq 9, 3) ∧ 56 + 3 = 59 ∧ ((56 : Nat) : Int) + 9 = ((65 : Nat) : Int) := by decide +kernel
theorem d_M_copy_59 : decode c_M_copy 59 = .ok (.aload_n 0, 1) ∧ 59 + 1 = 60 := by decide +kernel
theorem d_M_copy_60 : decode c_M_copy 60 = .ok (.iconst 2, 1) ∧ 60 + 1 = 61 := by decide +kernel
theorem d_M_copy_61 : decode c_M_copy 61 = .ok (.invokevirtual 305, 3) ∧ 61 + 3 = 64 := by decide +kernel
theorem d_M_copy_64 : decode c_M_copy 64 = .ok (.ireturn, 1) ∧ 64 + 1 = 65 := by decide +kernel
theorem d_M_copy_65 : decode c_M_copy 65 = .ok (.iload_n 2, 1) ∧ 65 + 1 = 66 := by decide +kernel
theorem d_M_copy_66 : decode c_M_copy 66 = .ok (.iload 5, 2) ∧ 66 + 2 = 68 := by decide +kernel
theorem d_M_copy_68 : decode c_M_copy 68 = .ok (.i2l, 1) ∧ 68 + 1 = 69 := by decide +kernel
theorem d_M_copy_69 : decode c_M_copy 69 = .ok (.aload_n 0, 1) ∧ 69 + 1 = 70 := by decide +kernel
theorem d_M_copy_70 : decode c_M_copy 70 = .ok (.getfield 185, 3) ∧ 70 + 3 = 73 := by decide +kernel
theorem d_M_copy_73 : decode c_M_copy 73 = .ok (.iload_n 1, 1) ∧ 73 + 1 = 74 := by decide +kernel
theorem d_M_copy_74 : decode c_M_copy 74 = .ok (.iaload, 1) ∧ 74 + 1 = 75 := by decide +kernel
theorem d_M_copy_75 : decode c_M_copy 75 = .ok (.invokestatic 308, 3) ∧ 75 + 3 = 78 := by decide +kernel
theorem d_M_copy_78 : decode c_M_copy 78 = .ok (.ifCond .ne 20, 3) ∧ 78 + 3 = 81 ∧ ((78 : Nat) : Int) + 20 = ((98 : Nat) : Int) := by decide +kernel
theorem d_M_copy_81 : decode c_M_copy 81 = .ok (.iload 4, 2) ∧ 81 + 2 = 83 := by decide +kernel
theorem d_M_copy_83 : decode c_M_copy 83 = .ok (.iload 5, 2) ∧ 83 + 2 = 85 := by decide +kernel
theorem d_M_copy_85 : decode c_M_copy 85 = .ok (.i2l, 1) ∧ 85 + 1 = 86 := by decide +kernel
theorem d_M_copy_86 : decode c_M_copy 86 = .ok (.aload_n 0, 1) ∧ 86 + 1 = 87 := by decide +kernel
theorem d_M_copy_87 : decode c_M_copy 87 = .ok (.getfield 185, 3) ∧ 87 + 3 = 90 := by decide +kernel
theorem d_M_copy_90 : decode c_M_copy 90 = .ok (.iload_n 3, 1) ∧ 90 + 1 = 91 := by decide +kernel
theorem d_M_copy_91 : decode c_M_copy 91 = .ok (.iaload, 1) ∧ 91 + 1 = 92 := by decide +kernel
theorem d_M_copy_92 : decode c_M_copy 92 = .ok (.invokestatic 308, 3) ∧ 92 + 3 = 95 := by decide +kernel
theorem d_M_copy_95 : decode c_M_copy 95 = .ok (.ifCond .eq 9, 3) ∧ 95 + 3 = 98 ∧ ((95 : Nat) : Int) + 9 = ((104 : Nat) : Int) := by decide +kernel
theorem d_M_copy_98 : decode c_M_copy 98 = .ok (.aload_n 0, 1) ∧ 98 + 1 = 99 := by decide +kernel
theorem d_M_copy_99 : decode c_M_copy 99 = .ok (.iconst 3, 1) ∧ 99 + 1 = 100 := by decide +kernel
theorem d_M_copy_100 : decode c_M_copy 100 = .ok (.invokevirtual 305, 3) ∧ 100 + 3 = 103 := by decide +kernel
theorem d_M_copy_103 : decode c_M_copy 103 = .ok (.ireturn, 1) ∧ 103 + 1 = 104 := by decide +kernel
theorem d_M_copy_104 : decode c_M_copy 104 = .ok (.iconst 0, 1) ∧ 104 + 1 = 105 := by decide +kernel
theorem d_M_copy_105 : decode c_M_copy 105 = .ok (.istore 6, 2) ∧ 105 + 2 = 107 := by decide +kernel
theorem d_M_copy_107 : decode c_M_copy 107 = .ok (.iload 6, 2) ∧ 107 + 2 = 109 := by decide +kernel
theorem d_M_copy_109 : decode c_M_copy 109 = .ok (.iload 5, 2) ∧ 109 + 2 = 111 := by decide +kernel
theorem d_M_copy_111 : decode c_M_copy 111 = .ok (.if_icmp .ge 30, 3) ∧ 111 + 3 = 114 ∧ ((111 : Nat) : Int) + 30 = ((141 : Nat) : Int) := by decide +kernel
theorem d_M_copy_114 : decode c_M_copy 114 = .ok (.aload_n 0, 1) ∧ 114 + 1 = 115 := by decide +kernel
theorem d_M_copy_115 : decode c_M_copy 115 = .ok (.getfield 194, 3) ∧ 115 + 3 = 118 := by decide +kernel
theorem d_M_copy_118 : decode c_M_copy 118 = .ok (.iload 6, 2) ∧ 118 + 2 = 120 := by decide +kernel
theorem d_M_copy_120 : decode c_M_copy 120 = .ok (.aload_n 0, 1) ∧ 120 + 1 = 121 := by decide +kernel
theorem d_M_copy_121 : decode c_M_copy 121 = .ok (.getfield 191, 3) ∧ 121 + 3 = 124 := by decide +kernel
theorem d_M_copy_124 : decode c_M_copy 124 = .ok (.bipush 60, 2) ∧ 124 + 2 = 126 := by decide +kernel
theorem d_M_copy_126 : decode c_M_copy 126 = .ok (.iload_n 1, 1) ∧ 126 + 1 = 127 := by decide +kernel
theorem d_M_copy_127 : decode c_M_copy 127 = .ok (.imul, 1) ∧ 127 + 1 = 128 := by decide +kernel
theorem d_M_copy_128 : decode c_M_copy 128 = .ok (.iload_n 2, 1) ∧ 128 + 1 = 129 := by decide +kernel
theorem d_M_copy_129 : decode c_M_copy 129 = .ok (.iadd, 1) ∧ 129 + 1 = 130 := by decide +kernel
theorem d_M_copy_130 : decode c_M_copy 130 = .ok (.iload 6, 2) ∧ 130 + 2 = 132 := by decide +kernel
theorem d_M_copy_132 : decode c_M_copy 132 = .ok (.iadd, 1) ∧ 132 + 1 = 133 := by decide +kernel
theorem d_M_copy_133 : decode c_M_copy 133 = .ok (.iaload, 1) ∧ 133 + 1 = 134 := by decide +kernel
theorem d_M_copy_134 : decode c_M_copy 134 = .ok (.iastore, 1) ∧ 134 + 1 = 135 := by decide +kernel
theorem d_M_copy_135 : decode c_M_copy 135 = .ok (.iinc 6 1, 3) ∧ 135 + 3 = 138 := by decide +kernel
theorem d_M_copy_138 : decode c_M_copy 138 = .ok (.goto (-31), 3) ∧ (138 : Int) + (-31) = (107 : Int) := by decide +kernel
theorem d_M_copy_141 : decode c_M_copy 141 = .ok (.iconst 0, 1) ∧ 141 + 1 = 142 := by decide +kernel
theorem d_M_copy_142 : decode c_M_copy 142 = .ok (.istore 6, 2) ∧ 142 + 2 = 144 := by decide +kernel
theorem d_M_copy_144 : decode c_M_copy 144 = .ok (.iload 6, 2) ∧ 144 + 2 = 146 := by decide +kernel
theorem d_M_copy_146 : decode c_M_copy 146 = .ok (.iload 5, 2) ∧ 146 + 2 = 148 := by decide +kernel
theorem d_M_copy_148 : decode c_M_copy 148 = .ok (.if_icmp .ge 31, 3) ∧ 148 + 3 = 151 ∧ ((148 : Nat) : Int) + 31 = ((179 : Nat) : Int) := by decide +kernel
theorem d_M_copy_151 : decode c_M_copy 151 = .ok (.aload_n 0, 1) ∧ 151 + 1 = 152 := by decide +kernel
theorem d_M_copy_152 : decode c_M_copy 152 = .ok (.getfield 191, 3) ∧ 152 + 3 = 155 := by decide +kernel
theorem d_M_copy_155 : decode c_M_copy 155 = .ok (.bipush 60, 2) ∧ 155 + 2 = 157 := by decide +kernel
theorem d_M_copy_157 : decode c_M_copy 157 = .ok (.iload_n 3, 1) ∧ 157 + 1 = 158 := by decide +kernel
theorem d_M_copy_158 : decode c_M_copy 158 = .ok (.imul, 1) ∧ 158 + 1 = 159 := by decide +kernel
theorem d_M_copy_159 : decode c_M_copy 159 = .ok (.iload 4, 2) ∧ 159 + 2 = 161 := by decide +kernel
theorem d_M_copy_161 : decode c_M_copy 161 = .ok (.iadd, 1) ∧ 161 + 1 = 162 := by decide +kernel
theorem d_M_copy_162 : decode c_M_copy 162 = .ok (.iload 6, 2) ∧ 162 + 2 = 164 := by decide +kernel
theorem d_M_copy_164 : decode c_M_copy 164 = .ok (.iadd, 1) ∧ 164 + 1 = 165 := by decide +kernel
theorem d_M_copy_165 : decode c_M_copy 165 = .ok (.aload_n 0, 1) ∧ 165 + 1 = 166 := by decide +kernel
theorem d_M_copy_166 : decode c_M_copy 166 = .ok (.getfield 194, 3) ∧ 166 + 3 = 169 := by decide +kernel
theorem d_M_copy_169 : decode c_M_copy 169 = .ok (.iload 6, 2) ∧ 169 + 2 = 171 := by decide +kernel
theorem d_M_copy_171 : decode c_M_copy 171 = .ok (.iaload, 1) ∧ 171 + 1 = 172 := by decide +kernel
theorem d_M_copy_172 : decode c_M_copy 172 = .ok (.iastore, 1) ∧ 172 + 1 = 173 := by decide +kernel
theorem d_M_copy_173 : decode c_M_copy 173 = .ok (.iinc 6 1, 3) ∧ 173 + 3 = 176 := by decide +kernel
theorem d_M_copy_176 : decode c_M_copy 176 = .ok (.goto (-32), 3) ∧ (176 : Int) + (-32) = (144 : Int) := by decide +kernel
theorem d_M_copy_179 : decode c_M_copy 179 = .ok (.aload_n 0, 1) ∧ 179 + 1 = 180 := by decide +kernel
theorem d_M_copy_180 : decode c_M_copy 180 = .ok (.iload 5, 2) ∧ 180 + 2 = 182 := by decide +kernel
theorem d_M_copy_182 : decode c_M_copy 182 = .ok (.invokevirtual 294, 3) ∧ 182 + 3 = 185 := by decide +kernel
theorem d_M_copy_185 : decode c_M_copy 185 = .ok (.ireturn, 1) ∧ 185 + 1 = 186 := by decide +kernel
set_option maxHeartbeats 4000000 in
theorem w_M_copy_L144 {Z : Sy} {Γ : Nat → List (Nat × Value) → List Value → St → Prop} {res : (Int32 × St)} {x3 : Int32} {x4 : Int32} {x5 : Int32} (h : IsG YM Z R_M c_M_copy 7 3 (some .int) (some (.int res.1)) res.2 Γ) : ∀ (n : Nat) (x6 : Int32) (σ : St), M_copy_L144 x3 x4 x5 n x6 σ = some res → Γ 144 [(0, .ref (ya Z 0)), (3, .int x3), (4, .int x4), (5, .int x5), (6, .int x6)] [] σ := by
  intro n
  induction n with
  | zero => intro x6 σ hf; exact absurd hf (by simp [M_copy_L144])
  | succ n ih =>
    intro x6 σ hf
    rw [M_copy_L144] at hf
    refine r_iload h d_M_copy_144 4 rfl ?_
    refine r_iload h d_M_copy_146 3 rfl ?_
    refine r_icmp_ge h d_M_copy_148 hf (fun hf => ?_) (fun hf => ?_)
    · refine r_aload_n h d_M_copy_179 0 rfl rfl ?_
      refine r_iload h d_M_copy_180 3 rfl ?_
      obtain ⟨q182, e182, hf⟩ := q_bind hf
      refine r_callV (As := [.int x5]) (rest := []) h sh_YM_0 lk_M_294 vk_M_294 d_M_copy_182 (by decide) rfl rfl (Nat.le_of_ble_eq_true rfl) (m_M_refused e182) ?_
      exact r_ireturn h d_M_copy_185.1 (q_p1 hf) (q_p2 hf)
    · refine r_aload_n h d_M_copy_151 0 rfl rfl ?_
      refine r_getR h fd_YM_0_76 cf_M fl_M_191 d_M_copy_152 ?_
      refine r_bipush h d_M_copy_155 kb_60 ?_
      refine r_iload_n h d_M_copy_157 1 rfl rfl ?_
      refine r_imul h d_M_copy_158 ?_
      refine r_iload h d_M_copy_159 2 rfl ?_
      refine r_iadd h d_M_copy_161 ?_
      refine r_iload h d_M_copy_162 4 rfl ?_
      refine r_iadd h d_M_copy_164 ?_
      refine r_aload_n h d_M_copy_165 0 rfl rfl ?_
      refine r_getR h fd_YM_0_77 cf_M fl_M_194 d_M_copy_166 ?_
      refine r_iload h d_M_copy_169 4 rfl ?_
      refine r_iald h sh_YM_62 d_M_copy_171 hf (fun hf => ?_)
      refine r_iast h sh_YM_61 d_M_copy_172 hf (fun hf => ?_)
      refine r_iinc (ls' := [(6, .int (x6 + (1 : Int32))), (0, .ref (ya Z 0)), (3, .int x3), (4, .int x4), (5, .int x5)]) h d_M_copy_173 4 rfl ki_1 (by decide) rfl ?_
      refine r_goto h d_M_copy_176 ?_
      refine r_sub h [1, 2, 3, 4, 0] rfl ?_
      exact ih _ _ hf

set_option maxHeartbeats 4000000 in
theorem w_M_copy_L107 {Z : Sy} {Γ : Nat → List (Nat × Value) → List Value → St → Prop} {res : (Int32 × St)} {x1 : Int32} {x2 : Int32} {x3 : Int32} {x4 : Int32} {x5 : Int32} (h : IsG YM Z R_M c_M_copy 7 3 (some .int) (some (.int res.1)) res.2 Γ) : ∀ (n : Nat) (x6 : Int32) (σ : St), M_copy_L107 x1 x2 x3 x4 x5 n x6 σ = some res → Γ 107 [(0, .ref (ya Z 0)), (1, .int x1), (2, .int x2), (3, .int x3), (4, .int x4), (5, .int x5), (6, .int x6)] [] σ := by
  intro n
  induction n with
  | zero => intro x6 σ hf; exact absurd hf (by simp [M_copy_L107])
  | succ n ih =>
    intro x6 σ hf
    rw [M_copy_L107] at hf
    refine r_iload h d_M_copy_107 6 rfl ?_
    refine r_iload h d_M_copy_109 5 rfl ?_
    refine r_icmp_ge h d_M_copy_111 hf (fun hf => ?_) (fun hf => ?_)
    · refine r_iconst h d_M_copy_141 ki_0 ?_
      refine r_istore (ls' := [(6, .int (0 : Int32)), (0, .ref (ya Z 0)), (1, .int x1), (2, .int x2), (3, .int x3), (4, .int x4), (5, .int x5)]) h d_M_copy_142 (by decide) rfl ?_
      refine r_sub h [1, 4, 5, 6, 0] rfl ?_
      exact w_M_copy_L144 h _ _ _ hf
    · refine r_aload_n h d_M_copy_114 0 rfl rfl ?_
      refine r_getR h fd_YM_0_77 cf_M fl_M_194 d_M_copy_115 ?_
      refine r_iload h d_M_copy_118 6 rfl ?_
      refine r_aload_n h d_M_copy_120 0 rfl rfl ?_
      refine r_getR h fd_YM_0_76 cf_M fl_M_191 d_M_copy_121 ?_
      refine r_bipush h d_M_copy_124 kb_60 ?_
      refine r_iload_n h d_M_copy_126 1 rfl rfl ?_
      refine r_imul h d_M_copy_127 ?_
      refine r_iload_n h d_M_copy_128 2 rfl rfl ?_
      refine r_iadd h d_M_copy_129 ?_
      refine r_iload h d_M_copy_130 6 rfl ?_
      refine r_iadd h d_M_copy_132 ?_
      refine r_iald h sh_YM_61 d_M_copy_133 hf (fun hf => ?_)
      refine r_iast h sh_YM_62 d_M_copy_134 hf (fun hf => ?_)
      refine r_iinc (ls' := [(6, .int (x6 + (1 : Int32))), (0, .ref (ya Z 0)), (1, .int x1), (2, .int x2), (3, .int x3), (4, .int x4), (5, .int x5)]) h d_M_copy_135 6 rfl ki_1 (by decide) rfl ?_
      refine r_goto h d_M_copy_138 ?_
      refine r_sub h [1, 2, 3, 4, 5, 6, 0] rfl ?_
      exact ih _ _ hf

set_option maxHeartbeats 4000000 in
theorem m_M_copy {Z : Sy} {σ : St} {res : (Int32 × St)} {x1 : Int32} {x2 : Int32} {x3 : Int32} {x4 : Int32} {x5 : Int32} (hf : M_copy x1 x2 x3 x4 x5 σ = some res) : Ct YM Z y_M_copy c_M_copy 7 (some .int) 3 [.ref (ya Z 0), .int x1, .int x2, .int x3, .int x4, .int x5] σ (some (.int res.1)) res.2 := by
  refine Ct.of pn_M (Nat.le_of_ble_eq_true rfl) rfl (fun Γ h => ?_)
  have h : IsG YM Z R_M c_M_copy 7 3 (some .int) (some (.int res.1)) res.2 Γ := h
  unfold M_copy at hf
  refine r_iload_n h d_M_copy_0 1 rfl rfl ?_
  obtain ⟨r1, e1, hf⟩ := q_bind hf
  refine r_callS (As := [.int x1]) (rest := []) h lk_M_291 sk_M_291 d_M_copy_1 (by decide) rfl rfl (Nat.le_of_ble_eq_true rfl) (m_M_noSheet e1) ?_
  refine r_bif_ne h d_M_copy_4 hf (fun hf => ?_) (fun hf => ?_)
  · refine r_aload_n h d_M_copy_14 0 rfl rfl ?_
    refine r_iconst h d_M_copy_15 ki_m1 ?_
    obtain ⟨q16, e16, hf⟩ := q_bind hf
    refine r_callV (As := [.int (-1 : Int32)]) (rest := []) h sh_YM_0 lk_M_294 vk_M_294 d_M_copy_16 (by decide) rfl rfl (Nat.le_of_ble_eq_true rfl) (m_M_refused e16) ?_
    exact r_ireturn h d_M_copy_19.1 (q_p1 hf) (q_p2 hf)
  · refine r_iload_n h d_M_copy_7 3 rfl rfl ?_
    obtain ⟨r8, e8, hf⟩ := q_bind hf
    refine r_callS (As := [.int x3]) (rest := []) h lk_M_291 sk_M_291 d_M_copy_8 (by decide) rfl rfl (Nat.le_of_ble_eq_true rfl) (m_M_noSheet e8) ?_
    refine r_bif_eq h d_M_copy_11 hf (fun hf => ?_) (fun hf => ?_)
    · refine r_aload_n h d_M_copy_20 0 rfl rfl ?_
      refine r_getR h fd_YM_0_74 cf_M fl_M_185 d_M_copy_21 ?_
      refine r_iload_n h d_M_copy_24 1 rfl rfl ?_
      refine r_iald h sh_YM_59 d_M_copy_25 hf (fun hf => ?_)
      refine r_if_lt h d_M_copy_26 hf (fun hf => ?_) (fun hf => ?_)
      · refine r_aload_n h d_M_copy_38 0 rfl rfl ?_
        refine r_iconst h d_M_copy_39 ki_1 ?_
        obtain ⟨q40, e40, hf⟩ := q_bind hf
        refine r_callV (As := [.int (1 : Int32)]) (rest := []) h sh_YM_0 lk_M_305 vk_M_305 d_M_copy_40 (by decide) rfl rfl (Nat.le_of_ble_eq_true rfl) (m_M_failed e40) ?_
        exact r_ireturn h d_M_copy_43.1 (q_p1 hf) (q_p2 hf)
      · refine r_aload_n h d_M_copy_29 0 rfl rfl ?_
        refine r_getR h fd_YM_0_74 cf_M fl_M_185 d_M_copy_30 ?_
        refine r_iload_n h d_M_copy_33 3 rfl rfl ?_
        refine r_iald h sh_YM_59 d_M_copy_34 hf (fun hf => ?_)
        refine r_if_ge h d_M_copy_35 hf (fun hf => ?_) (fun hf => ?_)
        · refine r_aload_n h d_M_copy_44 0 rfl rfl ?_
          refine r_getR h fd_YM_0_75 cf_M fl_M_188 d_M_copy_45 ?_
          refine r_iload_n h d_M_copy_48 1 rfl rfl ?_
          refine r_iald h sh_YM_60 d_M_copy_49 hf (fun hf => ?_)
          refine r_aload_n h d_M_copy_50 0 rfl rfl ?_
          refine r_getR h fd_YM_0_75 cf_M fl_M_188 d_M_copy_51 ?_
          refine r_iload_n h d_M_copy_54 3 rfl rfl ?_
          refine r_iald h sh_YM_60 d_M_copy_55 hf (fun hf => ?_)
          refine r_icmp_eq h d_M_copy_56 hf (fun hf => ?_) (fun hf => ?_)
          · refine r_iload_n h d_M_copy_65 2 rfl rfl ?_
            refine r_iload h d_M_copy_66 5 rfl ?_
            refine r_i2l h d_M_copy_68 ?_
            refine r_aload_n h d_M_copy_69 0 rfl rfl ?_
            refine r_getR h fd_YM_0_74 cf_M fl_M_185 d_M_copy_70 ?_
            refine r_iload_n h d_M_copy_73 1 rfl rfl ?_
            refine r_iald h sh_YM_59 d_M_copy_74 hf (fun hf => ?_)
            obtain ⟨r75, e75, hf⟩ := q_bind hf
            refine r_callS (As := [.int x2, .long (Int32.toInt64 x5), .int (σ.1 59 (Int32.toNatClampNeg x1))]) (rest := []) h lk_M_308 sk_M_308 d_M_copy_75 (by decide) rfl rfl (Nat.le_of_ble_eq_true rfl) (m_M_isBeyond e75) ?_
            refine r_bif_ne h d_M_copy_78 hf (fun hf => ?_) (fun hf => ?_)
            · refine r_aload_n h d_M_copy_98 0 rfl rfl ?_
              refine r_iconst h d_M_copy_99 ki_3 ?_
              obtain ⟨q100, e100, hf⟩ := q_bind hf
              refine r_callV (As := [.int (3 : Int32)]) (rest := []) h sh_YM_0 lk_M_305 vk_M_305 d_M_copy_100 (by decide) rfl rfl (Nat.le_of_ble_eq_true rfl) (m_M_failed e100) ?_
              exact r_ireturn h d_M_copy_103.1 (q_p1 hf) (q_p2 hf)
            · refine r_iload h d_M_copy_81 4 rfl ?_
              refine r_iload h d_M_copy_83 5 rfl ?_
              refine r_i2l h d_M_copy_85 ?_
              refine r_aload_n h d_M_copy_86 0 rfl rfl ?_
              refine r_getR h fd_YM_0_74 cf_M fl_M_185 d_M_copy_87 ?_
              refine r_iload_n h d_M_copy_90 3 rfl rfl ?_
              refine r_iald h sh_YM_59 d_M_copy_91 hf (fun hf => ?_)
              obtain ⟨r92, e92, hf⟩ := q_bind hf
              refine r_callS (As := [.int x4, .long (Int32.toInt64 x5), .int (σ.1 59 (Int32.toNatClampNeg x3))]) (rest := []) h lk_M_308 sk_M_308 d_M_copy_92 (by decide) rfl rfl (Nat.le_of_ble_eq_true rfl) (m_M_isBeyond e92) ?_
              refine r_bif_eq h d_M_copy_95 hf (fun hf => ?_) (fun hf => ?_)
              · refine r_iconst h d_M_copy_104 ki_0 ?_
                refine r_istore (ls' := [(6, .int (0 : Int32)), (0, .ref (ya Z 0)), (1, .int x1), (2, .int x2), (3, .int x3), (4, .int x4), (5, .int x5)]) h d_M_copy_105 (by decide) rfl ?_
                refine r_sub h [1, 2, 3, 4, 5, 6, 0] rfl ?_
                exact w_M_copy_L107 h _ _ _ hf
              · refine r_aload_n h d_M_copy_98 0 rfl rfl ?_
                refine r_iconst h d_M_copy_99 ki_3 ?_
                obtain ⟨q100, e100, hf⟩ := q_bind hf
                refine r_callV (As := [.int (3 : Int32)]) (rest := []) h sh_YM_0 lk_M_305 vk_M_305 d_M_copy_100 (by decide) rfl rfl (Nat.le_of_ble_eq_true rfl) (m_M_failed e100) ?_
                exact r_ireturn h d_M_copy_103.1 (q_p1 hf) (q_p2 hf)
          · refine r_aload_n h d_M_copy_59 0 rfl rfl ?_
            refine r_iconst h d_M_copy_60 ki_2 ?_
            obtain ⟨q61, e61, hf⟩ := q_bind hf
            refine r_callV (As := [.int (2 : Int32)]) (rest := []) h sh_YM_0 lk_M_305 vk_M_305 d_M_copy_61 (by decide) rfl rfl (Nat.le_of_ble_eq_true rfl) (m_M_failed e61) ?_
            exact r_ireturn h d_M_copy_64.1 (q_p1 hf) (q_p2 hf)
        · refine r_aload_n h d_M_copy_38 0 rfl rfl ?_
          refine r_iconst h d_M_copy_39 ki_1 ?_
          obtain ⟨q40, e40, hf⟩ := q_bind hf
          refine r_callV (As := [.int (1 : Int32)]) (rest := []) h sh_YM_0 lk_M_305 vk_M_305 d_M_copy_40 (by decide) rfl rfl (Nat.le_of_ble_eq_true rfl) (m_M_failed e40) ?_
          exact r_ireturn h d_M_copy_43.1 (q_p1 hf) (q_p2 hf)
    · refine r_aload_n h d_M_copy_14 0 rfl rfl ?_
      refine r_iconst h d_M_copy_15 ki_m1 ?_
      obtain ⟨q16, e16, hf⟩ := q_bind hf
      refine r_callV (As := [.int (-1 : Int32)]) (rest := []) h sh_YM_0 lk_M_294 vk_M_294 d_M_copy_16 (by decide) rfl rfl (Nat.le_of_ble_eq_true rfl) (m_M_refused e16) ?_
      exact r_ireturn h d_M_copy_19.1 (q_p1 hf) (q_p2 hf)

theorem d_M_traced_0 : decode c_M_traced 0 = .ok (.aload_n 0, 1) ∧ 0 + 1 = 1 := by decide +kernel
theorem d_M_traced_1 : decode c_M_traced 1 = .ok (.bipush 31, 2) ∧ 1 + 2 = 3 := by decide +kernel
theorem d_M_traced_3 : decode c_M_traced 3 = .ok (.aload_n 0, 1) ∧ 3 + 1 = 4 := by decide +kernel
theorem d_M_traced_4 : decode c_M_traced 4 = .ok (.getfield 459, 3) ∧ 4 + 3 = 7 := by decide +kernel
theorem d_M_traced_7 : decode c_M_traced 7 = .ok (.imul, 1) ∧ 7 + 1 = 8 := by decide +kernel
theorem d_M_traced_8 : decode c_M_traced 8 = .ok (.iload_n 1, 1) ∧ 8 + 1 = 9 := by decide +kernel
theorem d_M_traced_9 : decode c_M_traced 9 = .ok (.iadd, 1) ∧ 9 + 1 = 10 := by decide +kernel
theorem d_M_traced_10 : decode c_M_traced 10 = .ok (.putfield 459, 3) ∧ 10 + 3 = 13 := by decide +kernel
theorem d_M_traced_13 : decode c_M_traced 13 = .ok (.return_, 1) ∧ 13 + 1 = 14 := by decide +kernel
set_option maxHeartbeats 4000000 in
theorem m_M_traced {Z : Sy} {σ : St} {res : St} {x1 : Int32} (hf : M_traced x1 σ = some res) : Ct YM Z y_M_traced c_M_traced 2 none 1 [.ref (ya Z 0), .int x1] σ none res := by
  refine Ct.of pn_M (Nat.le_of_ble_eq_true rfl) rfl (fun Γ h => ?_)
  have h : IsG YM Z R_M c_M_traced 2 1 none none res Γ := h
  unfold M_traced at hf
  refine r_aload_n h d_M_traced_0 0 rfl rfl ?_
  refine r_bipush h d_M_traced_1 kb_31 ?_
  refine r_aload_n h d_M_traced_3 0 rfl rfl ?_
  refine r_getI h fd_YM_0_78 cf_M fl_M_459 d_M_traced_4 ?_
  refine r_imul h d_M_traced_7 ?_
  refine r_iload_n h d_M_traced_8 1 rfl rfl ?_
  refine r_iadd h d_M_traced_9 ?_
  refine r_putI h fd_YM_0_78 cf_M fl_M_459 ⟨rfl, rfl⟩ d_M_traced_10 ?_
  exact r_vreturn h d_M_traced_13.1 (Option.some.inj hf)

theorem d_M_bodies_0 : decode c_M_bodies 0 = .ok (.iload_n 1, 1) ∧ 0 + 1 = 1 := by decide +kernel
theorem d_M_bodies_1 : decode c_M_bodies 1 = .ok (.iconst 2, 1) ∧ 1 + 1 = 2 := by decide +kernel
theorem d_M_bodies_2 : decode c_M_bodies 2 = .ok (.if_icmp .ne 10, 3) ∧ 2 + 3 = 5 ∧ ((2 : Nat) : Int) + 10 = ((12 : Nat) : Int) := by decide +kernel
theorem d_M_bodies_5 : decode c_M_bodies 5 = .ok (.aload_n 0, 1) ∧ 5 + 1 = 6 := by decide +kernel
theorem d_M_bodies_6 : decode c_M_bodies 6 = .ok (.iload_n 2, 1) ∧ 6 + 1 = 7 := by decide +kernel
theorem d_M_bodies_7 : decode c_M_bodies 7 = .ok (.iconst 2, 1) ∧ 7 + 1 = 8 := by decide +kernel
theorem d_M_bodies_8 : decode c_M_bodies 8 = .ok (.iadd, 1) ∧ 8 + 1 = 9 := by decide +kernel
theorem d_M_bodies_9 : decode c_M_bodies 9 = .ok (.invokevirtual 462, 3) ∧ 9 + 3 = 12 := by decide +kernel
theorem d_M_bodies_12 : decode c_M_bodies 12 = .ok (.iload_n 1, 1) ∧ 12 + 1 = 13 := by decide +kernel
theorem d_M_bodies_13 : decode c_M_bodies 13 = .ok (.ifCond .le 10, 3) ∧ 13 + 3 = 16 ∧ ((13 : Nat) : Int) + 10 = ((23 : Nat) : Int) := by decide +kernel
theorem d_M_bodies_16 : decode c_M_bodies 16 = .ok (.aload_n 0, 1) ∧ 16 + 1 = 17 := by decide +kernel
theorem d_M_bodies_17 : decode c_M_bodies 17 = .ok (.iload_n 2, 1) ∧ 17 + 1 = 18 := by decide +kernel
theorem d_M_bodies_18 : decode c_M_bodies 18 = .ok (.iconst 1, 1) ∧ 18 + 1 = 19 := by decide +kernel
theorem d_M_bodies_19 : decode c_M_bodies 19 = .ok (.iadd, 1) ∧ 19 + 1 = 20 := by decide +kernel
theorem d_M_bodies_20 : decode c_M_bodies 20 = .ok (.invokevirtual 462, 3) ∧ 20 + 3 = 23 := by decide +kernel
theorem d_M_bodies_23 : decode c_M_bodies 23 = .ok (.aload_n 0, 1) ∧ 23 + 1 = 24 := by decide +kernel
theorem d_M_bodies_24 : decode c_M_bodies 24 = .ok (.iload_n 2, 1) ∧ 24 + 1 = 25 := by decide +kernel
theorem d_M_bodies_25 : decode c_M_bodies 25 = .ok (.invokevirtual 462, 3) ∧ 25 + 3 = 28 := by decide +kernel
theorem d_M_bodies_28 : decode c_M_bodies 28 = .ok (.iload_n 1, 1) ∧ 28 + 1 = 29 := by decide +kernel
theorem d_M_bodies_29 : decode c_M_bodies 29 = .ok (.iconst 2, 1) ∧ 29 + 1 = 30 := by decide +kernel
theorem d_M_bodies_30 : decode c_M_bodies 30 = .ok (.if_icmp .ne 8, 3) ∧ 30 + 3 = 33 ∧ ((30 : Nat) : Int) + 8 = ((38 : Nat) : Int) := by decide +kernel
theorem d_M_bodies_33 : decode c_M_bodies 33 = .ok (.aload_n 0, 1) ∧ 33 + 1 = 34 := by decide +kernel
theorem d_M_bodies_34 : decode c_M_bodies 34 = .ok (.iload_n 2, 1) ∧ 34 + 1 = 35 := by decide +kernel
theorem d_M_bodies_35 : decode c_M_bodies 35 = .ok (.invokevirtual 462, 3) ∧ 35 + 3 = 38 := by decide +kernel
theorem d_M_bodies_38 : decode c_M_bodies 38 = .ok (.return_, 1) ∧ 38 + 1 = 39 := by decide +kernel
set_option maxHeartbeats 4000000 in
theorem m_M_bodies {Z : Sy} {σ : St} {res : St} {x1 : Int32} {x2 : Int32} (hf : M_bodies x1 x2 σ = some res) : Ct YM Z y_M_bodies c_M_bodies 3 none 2 [.ref (ya Z 0), .int x1, .int x2] σ none res := by
  refine Ct.of pn_M (Nat.le_of_ble_eq_true rfl) rfl (fun Γ h => ?_)
  have h : IsG YM Z R_M c_M_bodies 3 2 none none res Γ := h
  unfold M_bodies at hf
  refine r_iload_n h d_M_bodies_0 1 rfl rfl ?_
  refine r_iconst h d_M_bodies_1 ki_2 ?_
  refine r_icmp_ne h d_M_bodies_2 hf (fun hf => ?_) (fun hf => ?_)
  · refine r_iload_n h d_M_bodies_12 1 rfl rfl ?_
    refine r_if_le h d_M_bodies_13 hf (fun hf => ?_) (fun hf => ?_)
    · refine r_aload_n h d_M_bodies_23 0 rfl rfl ?_
      refine r_iload_n h d_M_bodies_24 2 rfl rfl ?_
      obtain ⟨q25, e25, hf⟩ := q_bind hf
      refine r_callV (As := [.int x2]) (rest := []) h sh_YM_0 lk_M_462 vk_M_462 d_M_bodies_25 (by decide) rfl rfl (Nat.le_of_ble_eq_true rfl) (m_M_traced e25) ?_
      refine r_iload_n h d_M_bodies_28 1 rfl rfl ?_
      refine r_iconst h d_M_bodies_29 ki_2 ?_
      refine r_icmp_ne h d_M_bodies_30 hf (fun hf => ?_) (fun hf => ?_)
      · exact r_vreturn h d_M_bodies_38.1 (Option.some.inj hf)
      · refine r_aload_n h d_M_bodies_33 0 rfl rfl ?_
        refine r_iload_n h d_M_bodies_34 2 rfl rfl ?_
        obtain ⟨q35, e35, hf⟩ := q_bind hf
        refine r_callV (As := [.int x2]) (rest := []) h sh_YM_0 lk_M_462 vk_M_462 d_M_bodies_35 (by decide) rfl rfl (Nat.le_of_ble_eq_true rfl) (m_M_traced e35) ?_
        exact r_vreturn h d_M_bodies_38.1 (Option.some.inj hf)
    · refine r_aload_n h d_M_bodies_16 0 rfl rfl ?_
      refine r_iload_n h d_M_bodies_17 2 rfl rfl ?_
      refine r_iconst h d_M_bodies_18 ki_1 ?_
      refine r_iadd h d_M_bodies_19 ?_
      obtain ⟨q20, e20, hf⟩ := q_bind hf
      refine r_callV (As := [.int (x2 + (1 : Int32))]) (rest := []) h sh_YM_0 lk_M_462 vk_M_462 d_M_bodies_20 (by decide) rfl rfl (Nat.le_of_ble_eq_true rfl) (m_M_traced e20) ?_
      refine r_aload_n h d_M_bodies_23 0 rfl rfl ?_
      refine r_iload_n h d_M_bodies_24 2 rfl rfl ?_
      obtain ⟨q25, e25, hf⟩ := q_bind hf
      refine r_callV (As := [.int x2]) (rest := []) h sh_YM_0 lk_M_462 vk_M_462 d_M_bodies_25 (by decide) rfl rfl (Nat.le_of_ble_eq_true rfl) (m_M_traced e25) ?_
      refine r_iload_n h d_M_bodies_28 1 rfl rfl ?_
      refine r_iconst h d_M_bodies_29 ki_2 ?_
      refine r_icmp_ne h d_M_bodies_30 hf (fun hf => ?_) (fun hf => ?_)
      · exact r_vreturn h d_M_bodies_38.1 (Option.some.inj hf)
      · refine r_aload_n h d_M_bodies_33 0 rfl rfl ?_
        refine r_iload_n h d_M_bodies_34 2 rfl rfl ?_
        obtain ⟨q35, e35, hf⟩ := q_bind hf
        refine r_callV (As := [.int x2]) (rest := []) h sh_YM_0 lk_M_462 vk_M_462 d_M_bodies_35 (by decide) rfl rfl (Nat.le_of_ble_eq_true rfl) (m_M_traced e35) ?_
        exact r_vreturn h d_M_bodies_38.1 (Option.some.inj hf)
  · refine r_aload_n h d_M_bodies_5 0 rfl rfl ?_
    refine r_iload_n h d_M_bodies_6 2 rfl rfl ?_
    refine r_iconst h d_M_bodies_7 ki_2 ?_
    refine r_iadd h d_M_bodies_8 ?_
    obtain ⟨q9, e9, hf⟩ := q_bind hf
    refine r_callV (As := [.int (x2 + (2 : Int32))]) (rest := []) h sh_YM_0 lk_M_462 vk_M_462 d_M_bodies_9 (by decide) rfl rfl (Nat.le_of_ble_eq_true rfl) (m_M_traced e9) ?_
    refine r_iload_n h d_M_bodies_12 1 rfl rfl ?_
    refine r_if_le h d_M_bodies_13 hf (fun hf => ?_) (fun hf => ?_)
    · refine r_aload_n h d_M_bodies_23 0 rfl rfl ?_
      refine r_iload_n h d_M_bodies_24 2 rfl rfl ?_
      obtain ⟨q25, e25, hf⟩ := q_bind hf
      refine r_callV (As := [.int x2]) (rest := []) h sh_YM_0 lk_M_462 vk_M_462 d_M_bodies_25 (by decide) rfl rfl (Nat.le_of_ble_eq_true rfl) (m_M_traced e25) ?_
      refine r_iload_n h d_M_bodies_28 1 rfl rfl ?_
      refine r_iconst h d_M_bodies_29 ki_2 ?_
      refine r_icmp_ne h d_M_bodies_30 hf (fun hf => ?_) (fun hf => ?_)
      · exact r_vreturn h d_M_bodies_38.1 (Option.some.inj hf)
      · refine r_aload_n h d_M_bodies_33 0 rfl rfl ?_
        refine r_iload_n h d_M_bodies_34 2 rfl rfl ?_
        obtain ⟨q35, e35, hf⟩ := q_bind hf
        refine r_callV (As := [.int x2]) (rest := []) h sh_YM_0 lk_M_462 vk_M_462 d_M_bodies_35 (by decide) rfl rfl (Nat.le_of_ble_eq_true rfl) (m_M_traced e35) ?_
        exact r_vreturn h d_M_bodies_38.1 (Option.some.inj hf)
    · refine r_aload_n h d_M_bodies_16 0 rfl rfl ?_
      refine r_iload_n h d_M_bodies_17 2 rfl rfl ?_
      refine r_iconst h d_M_bodies_18 ki_1 ?_
      refine r_iadd h d_M_bodies_19 ?_
      obtain ⟨q20, e20, hf⟩ := q_bind hf
      refine r_callV (As := [.int (x2 + (1 : Int32))]) (rest := []) h sh_YM_0 lk_M_462 vk_M_462 d_M_bodies_20 (by decide) rfl rfl (Nat.le_of_ble_eq_true rfl) (m_M_traced e20) ?_
      refine r_aload_n h d_M_bodies_23 0 rfl rfl ?_
      refine r_iload_n h d_M_bodies_24 2 rfl rfl ?_
      obtain ⟨q25, e25, hf⟩ := q_bind hf
      refine r_callV (As := [.int x2]) (rest := []) h sh_YM_0 lk_M_462 vk_M_462 d_M_bodies_25 (by decide) rfl rfl (Nat.le_of_ble_eq_true rfl) (m_M_traced e25) ?_
      refine r_iload_n h d_M_bodies_28 1 rfl rfl ?_
      refine r_iconst h d_M_bodies_29 ki_2 ?_
      refine r_icmp_ne h d_M_bodies_30 hf (fun hf => ?_) (fun hf => ?_)
      · exact r_vreturn h d_M_bodies_38.1 (Option.some.inj hf)
      · refine r_aload_n h d_M_bodies_33 0 rfl rfl ?_
        refine r_iload_n h d_M_bodies_34 2 rfl rfl ?_
        obtain ⟨q35, e35, hf⟩ := q_bind hf
        refine r_callV (As := [.int x2]) (rest := []) h sh_YM_0 lk_M_462 vk_M_462 d_M_bodies_35 (by decide) rfl rfl (Nat.le_of_ble_eq_true rfl) (m_M_traced e35) ?_
        exact r_vreturn h d_M_bodies_38.1 (Option.some.inj hf)

theorem d_M_tell_0 : decode c_M_tell 0 = .ok (.iload_n 1, 1) ∧ 0 + 1 = 1 := by decide +kernel
theorem d_M_tell_1 : decode c_M_tell 1 = .ok (.i2l, 1) ∧ 1 + 1 = 2 := by decide +kernel
theorem d_M_tell_2 : decode c_M_tell 2 = .ok (.lconst 0, 1) ∧ 2 + 1 = 3 := by decide +kernel
theorem d_M_tell_3 : decode c_M_tell 3 = .ok (.lconst 1, 1) ∧ 3 + 1 = 4 := by decide +kernel
theorem d_M_tell_4 : decode c_M_tell 4 = .ok (.invokestatic 201, 3) ∧ 4 + 3 = 7 := by decide +kernel
theorem d_M_tell_7 : decode c_M_tell 7 = .ok (.ifCond .ne 6, 3) ∧ 7 + 3 = 10 ∧ ((7 : Nat) : Int) + 6 = ((13 : Nat) : Int) := by decide +kernel
theorem d_M_tell_10 : decode c_M_tell 10 = .ok (.bipush (-2), 2) ∧ 10 + 2 = 12 := by decide +kernel
theorem d_M_tell_12 : decode c_M_tell 12 = .ok (.ireturn, 1) ∧ 12 + 1 = 13 := by decide +kernel
theorem d_M_tell_13 : decode c_M_tell 13 = .ok (.iload_n 1, 1) ∧ 13 + 1 = 14 := by decide +kernel
theorem d_M_tell_14 : decode c_M_tell 14 = .ok (.ifCond .ne 14, 3) ∧ 14 + 3 = 17 ∧ ((14 : Nat) : Int) + 14 = ((28 : Nat) : Int) := by decide +kernel
theorem d_M_tell_17 : decode c_M_tell 17 = .ok (.aload_n 0, 1) ∧ 17 + 1 = 18 := by decide +kernel
theorem d_M_tell_18 : decode c_M_tell 18 = .ok (.iload_n 2, 1) ∧ 18 + 1 = 19 := by decide +kernel
theorem d_M_tell_19 : decode c_M_tell 19 = .ok (.invokevirtual 284, 3) ∧ 19 + 3 = 22 := by decide +kernel
theorem d_M_tell_22 : decode c_M_tell 22 = .ok (.ifCond .eq 16, 3) ∧ 22 + 3 = 25 ∧ ((22 : Nat) : Int) + 16 = ((38 : Nat) : Int) := by decide +kernel
theorem d_M_tell_25 : decode c_M_tell 25 = .ok (.goto 11, 3) ∧ (25 : Int) + 11 = (36 : Int) := by decide +kernel
theorem d_M_tell_28 : decode c_M_tell 28 = .ok (.aload_n 0, 1) ∧ 28 + 1 = 29 := by decide +kernel
theorem d_M_tell_29 : decode c_M_tell 29 = .ok (.iload_n 2, 1) ∧ 29 + 1 = 30 := by decide +kernel
theorem d_M_tell_30 : decode c_M_tell 30 = .ok (.invokevirtual 386, 3) ∧ 30 + 3 = 33 := by decide +kernel
theorem d_M_tell_33 : decode c_M_tell 33 = .ok (.ifCond .eq 5, 3) ∧ 33 + 3 = 36 ∧ ((33 : Nat) : Int) + 5 = ((38 : Nat) : Int) := by decide +kernel
theorem d_M_tell_36 : decode c_M_tell 36 = .ok (.iconst (-1), 1) ∧ 36 + 1 = 37 := by decide +kernel
theorem d_M_tell_37 : decode c_M_tell 37 = .ok (.ireturn, 1) ∧ 37 + 1 = 38 := by decide +kernel
theorem d_M_tell_38 : decode c_M_tell 38 = .ok (.iload_n 1, 1) ∧ 38 + 1 = 39 := by decide +kernel
theorem d_M_tell_39 : decode c_M_tell 39 = .ok (.ifCond .ne 12, 3) ∧ 39 + 3 = 42 ∧ ((39 : Nat) : Int) + 12 = ((51 : Nat) : Int) := by decide +kernel
theorem d_M_tell_42 : decode c_M_tell 42 = .ok (.aload_n 0, 1) ∧ 42 + 1 = 43 := by decide +kernel
theorem d_M_tell_43 : decode c_M_tell 43 = .ok (.getfield 34, 3) ∧ 43 + 3 = 46 := by decide +kernel
theorem d_M_tell_46 : decode c_M_tell 46 = .ok (.iload_n 2, 1) ∧ 46 + 1 = 47 := by decide +kernel
theorem d_M_tell_47 : decode c_M_tell 47 = .ok (.iaload, 1) ∧ 47 + 1 = 48 := by decide +kernel
theorem d_M_tell_48 : decode c_M_tell 48 = .ok (.goto 9, 3) ∧ (48 : Int) + 9 = (57 : Int) := by decide +kernel
theorem d_M_tell_51 : decode c_M_tell 51 = .ok (.aload_n 0, 1) ∧ 51 + 1 = 52 := by decide +kernel
theorem d_M_tell_52 : decode c_M_tell 52 = .ok (.getfield 104, 3) ∧ 52 + 3 = 55 := by decide +kernel
theorem d_M_tell_55 : decode c_M_tell 55 = .ok (.iload_n 2, 1) ∧ 55 + 1 = 56 := by decide +kernel
theorem d_M_tell_56 : decode c_M_tell 56 = .ok (.iaload, 1) ∧ 56 + 1 = 57 := by decide +kernel
theorem d_M_tell_57 : decode c_M_tell 57 = .ok (.istore_n 3, 1) ∧ 57 + 1 = 58 := by decide +kernel
theorem d_M_tell_58 : decode c_M_tell 58 = .ok (.iload_n 1, 1) ∧ 58 + 1 = 59 := by decide +kernel
theorem d_M_tell_59 : decode c_M_tell 59 = .ok (.ifCond .ne 11, 3) ∧ 59 + 3 = 62 ∧ ((59 : Nat) : Int) + 11 = ((70 : Nat) : Int) := by decide +kernel
theorem d_M_tell_62 : decode c_M_tell 62 = .ok (.aload_n 0, 1) ∧ 62 + 1 = 63 := by decide +kernel
theorem d_M_tell_63 : decode c_M_tell 63 = .ok (.iload_n 2, 1) ∧ 63 + 1 = 64 := by decide +kernel
theorem d_M_tell_64 : decode c_M_tell 64 = .ok (.invokevirtual 302, 3) ∧ 64 + 3 = 67 := by decide +kernel
theorem d_M_tell_67 : decode c_M_tell 67 = .ok (.goto 9, 3) ∧ (67 : Int) + 9 = (76 : Int) := by decide +kernel
theorem d_M_tell_70 : decode c_M_tell 70 = .ok (.aload_n 0, 1) ∧ 70 + 1 = 71 := by decide +kernel
theorem d_M_tell_71 : decode c_M_tell 71 = .ok (.getfield 113, 3) ∧ 71 + 3 = 74 := by decide +kernel
theorem d_M_tell_74 : decode c_M_tell 74 = .ok (.iload_n 2, 1) ∧ 74 + 1 = 75 := by decide +kernel
theorem d_M_tell_75 : decode c_M_tell 75 = .ok (.iaload, 1) ∧ 75 + 1 = 76 := by decide +kernel
theorem d_M_tell_76 : decode c_M_tell 76 = .ok (.istore 4, 2) ∧ 76 + 2 = 78 := by decide +kernel
theorem d_M_tell_78 : decode c_M_tell 78 = .ok (.aload_n 0, 1) ∧ 78 + 1 = 79 := by decide +kernel
theorem d_M_tell_79 : decode c_M_tell 79 = .ok (.iload_n 3, 1) ∧ 79 + 1 = 80 := by decide +kernel
theorem d_M_tell_80 : decode c_M_tell 80 = .ok (.iload_n 1, 1) ∧ 80 + 1 = 81 := by decide +kernel
theorem d_M_tell_81 : decode c_M_tell 81 = .ok (.ifCond .ne 7, 3) ∧ 81 + 3 = 84 ∧ ((81 : Nat) : Int) + 7 = ((88 : Nat) : Int) := by decide +kernel
theorem d_M_tell_84 : decode c_M_tell 84 = .ok (.iconst 1, 1) ∧ 84 + 1 = 85 := by decide +kernel
theorem d_M_tell_85 : decode c_M_tell 85 = .ok (.goto 5, 3) ∧ (85 : Int) + 5 = (90 : Int) := by decide +kernel
theorem d_M_tell_88 : decode c_M_tell 88 = .ok (.bipush 6, 2) ∧ 88 + 2 = 90 := by decide +kernel
theorem d_M_tell_90 : decode c_M_tell 90 = .ok (.invokevirtual 465, 3) ∧ 90 + 3 = 93 := by decide +kernel
theorem d_M_tell_93 : decode c_M_tell 93 = .ok (.iload_n 3, 1) ∧ 93 + 1 = 94 := by decide +kernel
theorem d_M_tell_94 : decode c_M_tell 94 = .ok (.iconst 2, 1) ∧ 94 + 1 = 95 := by decide +kernel
theorem d_M_tell_95 : decode c_M_tell 95 = .ok (.if_icmp .ne 10, 3) ∧ 95 + 3 = 98 ∧ ((95 : Nat) : Int) + 10 = ((105 : Nat) : Int) := by decide +kernel
theorem d_M_tell_98 : decode c_M_tell 98 = .ok (.iconst 2, 1) ∧ 98 + 1 = 99 := by decide +kernel
theorem d_M_tell_99 : decode c_M_tell 99 = .ok (.iload 4, 2) ∧ 99 + 2 = 101 := by decide +kernel
theorem d_M_tell_101 : decode c_M_tell 101 = .ok (.imul, 1) ∧ 101 + 1 = 102 := by decide +kernel
theorem d_M_tell_102 : decode c_M_tell 102 = .ok (.goto 5, 3) ∧ (102 : Int) + 5 = (107 : Int) := by decide +kernel
theorem d_M_tell_105 : decode c_M_tell 105 = .ok (.iload 4, 2) ∧ 105 + 2 = 107 := by decide +kernel
theorem d_M_tell_107 : decode c_M_tell 107 = .ok (.iload_n 3, 1) ∧ 107 + 1 = 108 := by decide +kernel
theorem d_M_tell_108 : decode c_M_tell 108 = .ok (.ifCond .ne 7, 3) ∧ 108 + 3 = 111 ∧ ((108 : Nat) : Int) + 7 = ((115 : Nat) : Int) := by decide +kernel
theorem d_M_tell_111 : decode c_M_tell 111 = .ok (.iconst 0, 1) ∧ 111 + 1 = 112 := by decide +kernel
theorem d_M_tell_112 : decode c_M_tell 112 = .ok (.goto 13, 3) ∧ (112 : Int) + 13 = (125 : Int) := by decide +kernel
theorem d_M_tell_115 : decode c_M_tell 115 = .ok (.iload_n 1, 1) ∧ 115 + 1 = 116 := by decide +kernel
theorem d_M_tell_116 : decode c_M_tell 116 = .ok (.ifCond .ne 8, 3) ∧ 116 + 3 = 119 ∧ ((116 : Nat) : Int) + 8 = ((124 : Nat) : Int) := by decide +kernel
theorem d_M_tell_119 : decode c_M_tell 119 = .ok (.bipush 10, 2) ∧ 119 + 2 = 121 := by decide +kernel
theorem d_M_tell_121 : decode c_M_tell 121 = .ok (.goto 4, 3) ∧ (121 : Int) + 4 = (125 : Int) := by decide +kernel
theorem d_M_tell_124 : decode c_M_tell 124 = .ok (.iconst 1, 1) ∧ 124 + 1 = 125 := by decide +kernel
theorem d_M_tell_125 : decode c_M_tell 125 = .ok (.iadd, 1) ∧ 125 + 1 = 126 := by decide +kernel
theorem d_M_tell_126 : decode c_M_tell 126 = .ok (.ireturn, 1) ∧ 126 + 1 = 127 := by decide +kernel
set_option maxHeartbeats 4000000 in
theorem m_M_tell {Z : Sy} {σ : St} {res : (Int32 × St)} {x1 : Int32} {x2 : Int32} (hf : M_tell x1 x2 σ = some res) : Ct YM Z y_M_tell c_M_tell 5 (some .int) 3 [.ref (ya Z 0), .int x1, .int x2] σ (some (.int res.1)) res.2 := by
  refine Ct.of pn_M (Nat.le_of_ble_eq_true rfl) rfl (fun Γ h => ?_)
  have h : IsG YM Z R_M c_M_tell 5 3 (some .int) (some (.int res.1)) res.2 Γ := h
  unfold M_tell at hf
  refine r_iload_n h d_M_tell_0 1 rfl rfl ?_
  refine r_i2l h d_M_tell_1 ?_
  refine r_lconst h d_M_tell_2 kl_0 ?_
  refine r_lconst h d_M_tell_3 kl_1 ?_
  obtain ⟨r4, e4, hf⟩ := q_bind hf
  refine r_callS (As := [.long (Int32.toInt64 x1), .long (0 : Int64), .long (1 : Int64)]) (rest := []) h lk_M_201 sk_M_201 d_M_tell_4 (by decide) rfl rfl (Nat.le_of_ble_eq_true rfl) (m_M_in e4) ?_
  refine r_bif_ne h d_M_tell_7 hf (fun hf => ?_) (fun hf => ?_)
  · refine r_iload_n h d_M_tell_13 1 rfl rfl ?_
    refine r_if_ne h d_M_tell_14 hf (fun hf => ?_) (fun hf => ?_)
    · refine r_aload_n h d_M_tell_28 0 rfl rfl ?_
      refine r_iload_n h d_M_tell_29 2 rfl rfl ?_
      obtain ⟨r30, e30, hf⟩ := q_bind hf
      refine r_callV (As := [.int x2]) (rest := []) h sh_YM_0 lk_M_386 vk_M_386 d_M_tell_30 (by decide) rfl rfl (Nat.le_of_ble_eq_true rfl) (m_M_noDebt e30) ?_
      refine r_bif_eq h d_M_tell_33 hf (fun hf => ?_) (fun hf => ?_)
      · refine r_iload_n h d_M_tell_38 1 rfl rfl ?_
        refine r_if_ne h d_M_tell_39 hf (fun hf => ?_) (fun hf => ?_)
        · refine r_aload_n h d_M_tell_51 0 rfl rfl ?_
          refine r_getR h fd_YM_0_42 cf_M fl_M_104 d_M_tell_52 ?_
          refine r_iload_n h d_M_tell_55 2 rfl rfl ?_
          refine r_iald h sh_YM_32 d_M_tell_56 hf (fun hf => ?_)
          refine r_istore_n (ls' := [(3, .int (σ.1 32 (Int32.toNatClampNeg x2))), (0, .ref (ya Z 0)), (1, .int x1), (2, .int x2)]) h d_M_tell_57 rfl (by decide) rfl ?_
          refine r_iload_n h d_M_tell_58 2 rfl rfl ?_
          refine r_if_ne h d_M_tell_59 hf (fun hf => ?_) (fun hf => ?_)
          · refine r_aload_n h d_M_tell_70 1 rfl rfl ?_
            refine r_getR h fd_YM_0_45 cf_M fl_M_113 d_M_tell_71 ?_
            refine r_iload_n h d_M_tell_74 3 rfl rfl ?_
            refine r_iald h sh_YM_35 d_M_tell_75 hf (fun hf => ?_)
            refine r_istore (ls' := [(4, .int (σ.1 35 (Int32.toNatClampNeg x2))), (3, .int (σ.1 32 (Int32.toNatClampNeg x2))), (0, .ref (ya Z 0)), (1, .int x1), (2, .int x2)]) h d_M_tell_76 (by decide) rfl ?_
            refine r_aload_n h d_M_tell_78 2 rfl rfl ?_
            refine r_iload_n h d_M_tell_79 1 rfl rfl ?_
            refine r_iload_n h d_M_tell_80 3 rfl rfl ?_
            refine r_if_ne h d_M_tell_81 hf (fun hf => ?_) (fun hf => ?_)
            · refine r_bipush h d_M_tell_88 kb_6 ?_
              obtain ⟨q90, e90, hf⟩ := q_bind hf
              refine r_callV (As := [.int (σ.1 32 (Int32.toNatClampNeg x2)), .int (6 : Int32)]) (rest := []) h sh_YM_0 lk_M_465 vk_M_465 d_M_tell_90 (by decide) rfl rfl (Nat.le_of_ble_eq_true rfl) (m_M_bodies e90) ?_
              refine r_iload_n h d_M_tell_93 1 rfl rfl ?_
              refine r_iconst h d_M_tell_94 ki_2 ?_
              refine r_icmp_ne h d_M_tell_95 hf (fun hf => ?_) (fun hf => ?_)
              · refine r_iload h d_M_tell_105 0 rfl ?_
                refine r_iload_n h d_M_tell_107 1 rfl rfl ?_
                refine r_if_ne h d_M_tell_108 hf (fun hf => ?_) (fun hf => ?_)
                · refine r_iload_n h d_M_tell_115 3 rfl rfl ?_
                  refine r_if_ne h d_M_tell_116 hf (fun hf => ?_) (fun hf => ?_)
                  · refine r_iconst h d_M_tell_124 ki_1 ?_
                    refine r_iadd h d_M_tell_125 ?_
                    exact r_ireturn h d_M_tell_126.1 (q_p1 hf) (q_p2 hf)
                  · refine r_bipush h d_M_tell_119 kb_10 ?_
                    refine r_goto h d_M_tell_121 ?_
                    refine r_iadd h d_M_tell_125 ?_
                    exact r_ireturn h d_M_tell_126.1 (q_p1 hf) (q_p2 hf)
                · refine r_iconst h d_M_tell_111 ki_0 ?_
                  refine r_goto h d_M_tell_112 ?_
                  refine r_iadd h d_M_tell_125 ?_
                  exact r_ireturn h d_M_tell_126.1 (q_p1 hf) (q_p2 hf)
              · refine r_iconst h d_M_tell_98 ki_2 ?_
                refine r_iload h d_M_tell_99 0 rfl ?_
                refine r_imul h d_M_tell_101 ?_
                refine r_goto h d_M_tell_102 ?_
                refine r_iload_n h d_M_tell_107 1 rfl rfl ?_
                refine r_if_ne h d_M_tell_108 hf (fun hf => ?_) (fun hf => ?_)
                · refine r_iload_n h d_M_tell_115 3 rfl rfl ?_
                  refine r_if_ne h d_M_tell_116 hf (fun hf => ?_) (fun hf => ?_)
                  · refine r_iconst h d_M_tell_124 ki_1 ?_
                    refine r_iadd h d_M_tell_125 ?_
                    exact r_ireturn h d_M_tell_126.1 (q_p1 hf) (q_p2 hf)
                  · refine r_bipush h d_M_tell_119 kb_10 ?_
                    refine r_goto h d_M_tell_121 ?_
                    refine r_iadd h d_M_tell_125 ?_
                    exact r_ireturn h d_M_tell_126.1 (q_p1 hf) (q_p2 hf)
                · refine r_iconst h d_M_tell_111 ki_0 ?_
                  refine r_goto h d_M_tell_112 ?_
                  refine r_iadd h d_M_tell_125 ?_
                  exact r_ireturn h d_M_tell_126.1 (q_p1 hf) (q_p2 hf)
            · refine r_iconst h d_M_tell_84 ki_1 ?_
              refine r_goto h d_M_tell_85 ?_
              obtain ⟨q90, e90, hf⟩ := q_bind hf
              refine r_callV (As := [.int (σ.1 32 (Int32.toNatClampNeg x2)), .int (1 : Int32)]) (rest := []) h sh_YM_0 lk_M_465 vk_M_465 d_M_tell_90 (by decide) rfl rfl (Nat.le_of_ble_eq_true rfl) (m_M_bodies e90) ?_
              refine r_iload_n h d_M_tell_93 1 rfl rfl ?_
              refine r_iconst h d_M_tell_94 ki_2 ?_
              refine r_icmp_ne h d_M_tell_95 hf (fun hf => ?_) (fun hf => ?_)
              · refine r_iload h d_M_tell_105 0 rfl ?_
                refine r_iload_n h d_M_tell_107 1 rfl rfl ?_
                refine r_if_ne h d_M_tell_108 hf (fun hf => ?_) (fun hf => ?_)
                · refine r_iload_n h d_M_tell_115 3 rfl rfl ?_
                  refine r_if_ne h d_M_tell_116 hf (fun hf => ?_) (fun hf => ?_)
                  · refine r_iconst h d_M_tell_124 ki_1 ?_
                    refine r_iadd h d_M_tell_125 ?_
                    exact r_ireturn h d_M_tell_126.1 (q_p1 hf) (q_p2 hf)
                  · refine r_bipush h d_M_tell_119 kb_10 ?_
                    refine r_goto h d_M_tell_121 ?_
                    refine r_iadd h d_M_tell_125 ?_
                    exact r_ireturn h d_M_tell_126.1 (q_p1 hf) (q_p2 hf)
                · refine r_iconst h d_M_tell_111 ki_0 ?_
                  refine r_goto h d_M_tell_112 ?_
                  refine r_iadd h d_M_tell_125 ?_
                  exact r_ireturn h d_M_tell_126.1 (q_p1 hf) (q_p2 hf)
              · refine r_iconst h d_M_tell_98 ki_2 ?_
                refine r_iload h d_M_tell_99 0 rfl ?_
                refine r_imul h d_M_tell_101 ?_
                refine r_goto h d_M_tell_102 ?_
                refine r_iload_n h d_M_tell_107 1 rfl rfl ?_
                refine r_if_ne h d_M_tell_108 hf (fun hf => ?_) (fun hf => ?_)
                · refine r_iload_n h d_M_tell_115 3 rfl rfl ?_
                  refine r_if_ne h d_M_tell_116 hf (fun hf => ?_) (fun hf => ?_)
                  · refine r_iconst h d_M_tell_124 ki_1 ?_
                    refine r_iadd h d_M_tell_125 ?_
                    exact r_ireturn h d_M_tell_126.1 (q_p1 hf) (q_p2 hf)
                  · refine r_bipush h d_M_tell_119 kb_10 ?_
                    refine r_goto h d_M_tell_121 ?_
                    refine r_iadd h d_M_tell_125 ?_
                    exact r_ireturn h d_M_tell_126.1 (q_p1 hf) (q_p2 hf)
                · refine r_iconst h d_M_tell_111 ki_0 ?_
                  refine r_goto h d_M_tell_112 ?_
                  refine r_iadd h d_M_tell_125 ?_
                  exact r_ireturn h d_M_tell_126.1 (q_p1 hf) (q_p2 hf)
          · refine r_aload_n h d_M_tell_62 1 rfl rfl ?_
            refine r_iload_n h d_M_tell_63 3 rfl rfl ?_
            obtain ⟨r64, e64, hf⟩ := q_bind hf
            refine r_callV (As := [.int x2]) (rest := []) h sh_YM_0 lk_M_302 vk_M_302 d_M_tell_64 (by decide) rfl rfl (Nat.le_of_ble_eq_true rfl) (m_M_entriesOf e64) ?_
            refine r_goto h d_M_tell_67 ?_
            refine r_istore (ls' := [(4, .int r64), (3, .int (σ.1 32 (Int32.toNatClampNeg x2))), (0, .ref (ya Z 0)), (1, .int x1), (2, .int x2)]) h d_M_tell_76 (by decide) rfl ?_
            refine r_aload_n h d_M_tell_78 2 rfl rfl ?_
            refine r_iload_n h d_M_tell_79 1 rfl rfl ?_
            refine r_iload_n h d_M_tell_80 3 rfl rfl ?_
            refine r_if_ne h d_M_tell_81 hf (fun hf => ?_) (fun hf => ?_)
            · refine r_bipush h d_M_tell_88 kb_6 ?_
              obtain ⟨q90, e90, hf⟩ := q_bind hf
              refine r_callV (As := [.int (σ.1 32 (Int32.toNatClampNeg x2)), .int (6 : Int32)]) (rest := []) h sh_YM_0 lk_M_465 vk_M_465 d_M_tell_90 (by decide) rfl rfl (Nat.le_of_ble_eq_true rfl) (m_M_bodies e90) ?_
              refine r_iload_n h d_M_tell_93 1 rfl rfl ?_
              refine r_iconst h d_M_tell_94 ki_2 ?_
              refine r_icmp_ne h d_M_tell_95 hf (fun hf => ?_) (fun hf => ?_)
              · refine r_iload h d_M_tell_105 0 rfl ?_
                refine r_iload_n h d_M_tell_107 1 rfl rfl ?_
                refine r_if_ne h d_M_tell_108 hf (fun hf => ?_) (fun hf => ?_)
                · refine r_iload_n h d_M_tell_115 3 rfl rfl ?_
                  refine r_if_ne h d_M_tell_116 hf (fun hf => ?_) (fun hf => ?_)
                  · refine r_iconst h d_M_tell_124 ki_1 ?_
                    refine r_iadd h d_M_tell_125 ?_
                    exact r_ireturn h d_M_tell_126.1 (q_p1 hf) (q_p2 hf)
                  · refine r_bipush h d_M_tell_119 kb_10 ?_
                    refine r_goto h d_M_tell_121 ?_
                    refine r_iadd h d_M_tell_125 ?_
                    exact r_ireturn h d_M_tell_126.1 (q_p1 hf) (q_p2 hf)
                · refine r_iconst h d_M_tell_111 ki_0 ?_
                  refine r_goto h d_M_tell_112 ?_
                  refine r_iadd h d_M_tell_125 ?_
                  exact r_ireturn h d_M_tell_126.1 (q_p1 hf) (q_p2 hf)
              · refine r_iconst h d_M_tell_98 ki_2 ?_
                refine r_iload h d_M_tell_99 0 rfl ?_
                refine r_imul h d_M_tell_101 ?_
                refine r_goto h d_M_tell_102 ?_
                refine r_iload_n h d_M_tell_107 1 rfl rfl ?_
                refine r_if_ne h d_M_tell_108 hf (fun hf => ?_) (fun hf => ?_)
                · refine r_iload_n h d_M_tell_115 3 rfl rfl ?_
                  refine r_if_ne h d_M_tell_116 hf (fun hf => ?_) (fun hf => ?_)
                  · refine r_iconst h d_M_tell_124 ki_1 ?_
                    refine r_iadd h d_M_tell_125 ?_
                    exact r_ireturn h d_M_tell_126.1 (q_p1 hf) (q_p2 hf)
                  · refine r_bipush h d_M_tell_119 kb_10 ?_
                    refine r_goto h d_M_tell_121 ?_
                    refine r_iadd h d_M_tell_125 ?_
                    exact r_ireturn h d_M_tell_126.1 (q_p1 hf) (q_p2 hf)
                · refine r_iconst h d_M_tell_111 ki_0 ?_
                  refine r_goto h d_M_tell_112 ?_
                  refine r_iadd h d_M_tell_125 ?_
                  exact r_ireturn h d_M_tell_126.1 (q_p1 hf) (q_p2 hf)
            · refine r_iconst h d_M_tell_84 ki_1 ?_
              refine r_goto h d_M_tell_85 ?_
              obtain ⟨q90, e90, hf⟩ := q_bind hf
              refine r_callV (As := [.int (σ.1 32 (Int32.toNatClampNeg x2)), .int (1 : Int32)]) (rest := []) h sh_YM_0 lk_M_465 vk_M_465 d_M_tell_90 (by decide) rfl rfl (Nat.le_of_ble_eq_true rfl) (m_M_bodies e90) ?_
              refine r_iload_n h d_M_tell_93 1 rfl rfl ?_
              refine r_iconst h d_M_tell_94 ki_2 ?_
              refine r_icmp_ne h d_M_tell_95 hf (fun hf => ?_) (fun hf => ?_)
              · refine r_iload h d_M_tell_105 0 rfl ?_
                refine r_iload_n h d_M_tell_107 1 rfl rfl ?_
                refine r_if_ne h d_M_tell_108 hf (fun hf => ?_) (fun hf => ?_)
                · refine r_iload_n h d_M_tell_115 3 rfl rfl ?_
                  refine r_if_ne h d_M_tell_116 hf (fun hf => ?_) (fun hf => ?_)
                  · refine r_iconst h d_M_tell_124 ki_1 ?_
                    refine r_iadd h d_M_tell_125 ?_
                    exact r_ireturn h d_M_tell_126.1 (q_p1 hf) (q_p2 hf)
                  · refine r_bipush h d_M_tell_119 kb_10 ?_
                    refine r_goto h d_M_tell_121 ?_
                    refine r_iadd h d_M_tell_125 ?_
                    exact r_ireturn h d_M_tell_126.1 (q_p1 hf) (q_p2 hf)
                · refine r_iconst h d_M_tell_111 ki_0 ?_
                  refine r_goto h d_M_tell_112 ?_
                  refine r_iadd h d_M_tell_125 ?_
                  exact r_ireturn h d_M_tell_126.1 (q_p1 hf) (q_p2 hf)
              · refine r_iconst h d_M_tell_98 ki_2 ?_
                refine r_iload h d_M_tell_99 0 rfl ?_
                refine r_imul h d_M_tell_101 ?_
                refine r_goto h d_M_tell_102 ?_
                refine r_iload_n h d_M_tell_107 1 rfl rfl ?_
                refine r_if_ne h d_M_tell_108 hf (fun hf => ?_) (fun hf => ?_)
                · refine r_iload_n h d_M_tell_115 3 rfl rfl ?_
                  refine r_if_ne h d_M_tell_116 hf (fun hf => ?_) (fun hf => ?_)
                  · refine r_iconst h d_M_tell_124 ki_1 ?_
                    refine r_iadd h d_M_tell_125 ?_
                    exact r_ireturn h d_M_tell_126.1 (q_p1 hf) (q_p2 hf)
                  · refine r_bipush h d_M_tell_119 kb_10 ?_
                    refine r_goto h d_M_tell_121 ?_
                    refine r_iadd h d_M_tell_125 ?_
                    exact r_ireturn h d_M_tell_126.1 (q_p1 hf) (q_p2 hf)
                · refine r_iconst h d_M_tell_111 ki_0 ?_
                  refine r_goto h d_M_tell_112 ?_
                  refine r_iadd h d_M_tell_125 ?_
                  exact r_ireturn h d_M_tell_126.1 (q_p1 hf) (q_p2 hf)
        · refine r_aload_n h d_M_tell_42 0 rfl rfl ?_
          refine r_getR h fd_YM_0_14 cf_M fl_M_34 d_M_tell_43 ?_
          refine r_iload_n h d_M_tell_46 2 rfl rfl ?_
          refine r_iald h sh_YM_9 d_M_tell_47 hf (fun hf => ?_)
          refine r_goto h d_M_tell_48 ?_
          refine r_istore_n (ls' := [(3, .int (σ.1 9 (Int32.toNatClampNeg x2))), (0, .ref (ya Z 0)), (1, .int x1), (2, .int x2)]) h d_M_tell_57 rfl (by decide) rfl ?_
          refine r_iload_n h d_M_tell_58 2 rfl rfl ?_
          refine r_if_ne h d_M_tell_59 hf (fun hf => ?_) (fun hf => ?_)
          · refine r_aload_n h d_M_tell_70 1 rfl rfl ?_
            refine r_getR h fd_YM_0_45 cf_M fl_M_113 d_M_tell_71 ?_
            refine r_iload_n h d_M_tell_74 3 rfl rfl ?_
            refine r_iald h sh_YM_35 d_M_tell_75 hf (fun hf => ?_)
            refine r_istore (ls' := [(4, .int (σ.1 35 (Int32.toNatClampNeg x2))), (3, .int (σ.1 9 (Int32.toNatClampNeg x2))), (0, .ref (ya Z 0)), (1, .int x1), (2, .int x2)]) h d_M_tell_76 (by decide) rfl ?_
            refine r_aload_n h d_M_tell_78 2 rfl rfl ?_
            refine r_iload_n h d_M_tell_79 1 rfl rfl ?_
            refine r_iload_n h d_M_tell_80 3 rfl rfl ?_
            refine r_if_ne h d_M_tell_81 hf (fun hf => ?_) (fun hf => ?_)
            · refine r_bipush h d_M_tell_88 kb_6 ?_
              obtain ⟨q90, e90, hf⟩ := q_bind hf
              refine r_callV (As := [.int (σ.1 9 (Int32.toNatClampNeg x2)), .int (6 : Int32)]) (rest := []) h sh_YM_0 lk_M_465 vk_M_465 d_M_tell_90 (by decide) rfl rfl (Nat.le_of_ble_eq_true rfl) (m_M_bodies e90) ?_
              refine r_iload_n h d_M_tell_93 1 rfl rfl ?_
              refine r_iconst h d_M_tell_94 ki_2 ?_
              refine r_icmp_ne h d_M_tell_95 hf (fun hf => ?_) (fun hf => ?_)
              · refine r_iload h d_M_tell_105 0 rfl ?_
                refine r_iload_n h d_M_tell_107 1 rfl rfl ?_
                refine r_if_ne h d_M_tell_108 hf (fun hf => ?_) (fun hf => ?_)
                · refine r_iload_n h d_M_tell_115 3 rfl rfl ?_
                  refine r_if_ne h d_M_tell_116 hf (fun hf => ?_) (fun hf => ?_)
                  · refine r_iconst h d_M_tell_124 ki_1 ?_
                    refine r_iadd h d_M_tell_125 ?_
                    exact r_ireturn h d_M_tell_126.1 (q_p1 hf) (q_p2 hf)
                  · refine r_bipush h d_M_tell_119 kb_10 ?_
                    refine r_goto h d_M_tell_121 ?_
                    refine r_iadd h d_M_tell_125 ?_
                    exact r_ireturn h d_M_tell_126.1 (q_p1 hf) (q_p2 hf)
                · refine r_iconst h d_M_tell_111 ki_0 ?_
                  refine r_goto h d_M_tell_112 ?_
                  refine r_iadd h d_M_tell_125 ?_
                  exact r_ireturn h d_M_tell_126.1 (q_p1 hf) (q_p2 hf)
              · refine r_iconst h d_M_tell_98 ki_2 ?_
                refine r_iload h d_M_tell_99 0 rfl ?_
                refine r_imul h d_M_tell_101 ?_
                refine r_goto h d_M_tell_102 ?_
                refine r_iload_n h d_M_tell_107 1 rfl rfl ?_
                refine r_if_ne h d_M_tell_108 hf (fun hf => ?_) (fun hf => ?_)
                · refine r_iload_n h d_M_tell_115 3 rfl rfl ?_
                  refine r_if_ne h d_M_tell_116 hf (fun hf => ?_) (fun hf => ?_)
                  · refine r_iconst h d_M_tell_124 ki_1 ?_
                    refine r_iadd h d_M_tell_125 ?_
                    exact r_ireturn h d_M_tell_126.1 (q_p1 hf) (q_p2 hf)
                  · refine r_bipush h d_M_tell_119 kb_10 ?_
                    refine r_goto h d_M_tell_121 ?_
                    refine r_iadd h d_M_tell_125 ?_
                    exact r_ireturn h d_M_tell_126.1 (q_p1 hf) (q_p2 hf)
                · refine r_iconst h d_M_tell_111 ki_0 ?_
                  refine r_goto h d_M_tell_112 ?_
                  refine r_iadd h d_M_tell_125 ?_
                  exact r_ireturn h d_M_tell_126.1 (q_p1 hf) (q_p2 hf)
            · refine r_iconst h d_M_tell_84 ki_1 ?_
              refine r_goto h d_M_tell_85 ?_
              obtain ⟨q90, e90, hf⟩ := q_bind hf
              refine r_callV (As := [.int (σ.1 9 (Int32.toNatClampNeg x2)), .int (1 : Int32)]) (rest := []) h sh_YM_0 lk_M_465 vk_M_465 d_M_tell_90 (by decide) rfl rfl (Nat.le_of_ble_eq_true rfl) (m_M_bodies e90) ?_
              refine r_iload_n h d_M_tell_93 1 rfl rfl ?_
              refine r_iconst h d_M_tell_94 ki_2 ?_
              refine r_icmp_ne h d_M_tell_95 hf (fun hf => ?_) (fun hf => ?_)
              · refine r_iload h d_M_tell_105 0 rfl ?_
                refine r_iload_n h d_M_tell_107 1 rfl rfl ?_
                refine r_if_ne h d_M_tell_108 hf (fun hf => ?_) (fun hf => ?_)
                · refine r_iload_n h d_M_tell_115 3 rfl rfl ?_
                  refine r_if_ne h d_M_tell_116 hf (fun hf => ?_) (fun hf => ?_)
                  · refine r_iconst h d_M_tell_124 ki_1 ?_
                    refine r_iadd h d_M_tell_125 ?_
                    exact r_ireturn h d_M_tell_126.1 (q_p1 hf) (q_p2 hf)
                  · refine r_bipush h d_M_tell_119 kb_10 ?_
                    refine r_goto h d_M_tell_121 ?_
                    refine r_iadd h d_M_tell_125 ?_
                    exact r_ireturn h d_M_tell_126.1 (q_p1 hf) (q_p2 hf)
                · refine r_iconst h d_M_tell_111 ki_0 ?_
                  refine r_goto h d_M_tell_112 ?_
                  refine r_iadd h d_M_tell_125 ?_
                  exact r_ireturn h d_M_tell_126.1 (q_p1 hf) (q_p2 hf)
              · refine r_iconst h d_M_tell_98 ki_2 ?_
                refine r_iload h d_M_tell_99 0 rfl ?_
                refine r_imul h d_M_tell_101 ?_
                refine r_goto h d_M_tell_102 ?_
                refine r_iload_n h d_M_tell_107 1 rfl rfl ?_
                refine r_if_ne h d_M_tell_108 hf (fun hf => ?_) (fun hf => ?_)
                · refine r_iload_n h d_M_tell_115 3 rfl rfl ?_
                  refine r_if_ne h d_M_tell_116 hf (fun hf => ?_) (fun hf => ?_)
                  · refine r_iconst h d_M_tell_124 ki_1 ?_
                    refine r_iadd h d_M_tell_125 ?_
                    exact r_ireturn h d_M_tell_126.1 (q_p1 hf) (q_p2 hf)
                  · refine r_bipush h d_M_tell_119 kb_10 ?_
                    refine r_goto h d_M_tell_121 ?_
                    refine r_iadd h d_M_tell_125 ?_
                    exact r_ireturn h d_M_tell_126.1 (q_p1 hf) (q_p2 hf)
                · refine r_iconst h d_M_tell_111 ki_0 ?_
                  refine r_goto h d_M_tell_112 ?_
                  refine r_iadd h d_M_tell_125 ?_
                  exact r_ireturn h d_M_tell_126.1 (q_p1 hf) (q_p2 hf)
          · refine r_aload_n h d_M_tell_62 1 rfl rfl ?_
            refine r_iload_n h d_M_tell_63 3 rfl rfl ?_
            obtain ⟨r64, e64, hf⟩ := q_bind hf
            refine r_callV (As := [.int x2]) (rest := []) h sh_YM_0 lk_M_302 vk_M_302 d_M_tell_64 (by decide) rfl rfl (Nat.le_of_ble_eq_true rfl) (m_M_entriesOf e64) ?_
            refine r_goto h d_M_tell_67 ?_
            refine r_istore (ls' := [(4, .int r64), (3, .int (σ.1 9 (Int32.toNatClampNeg x2))), (0, .ref (ya Z 0)), (1, .int x1), (2, .int x2)]) h d_M_tell_76 (by decide) rfl ?_
            refine r_aload_n h d_M_tell_78 2 rfl rfl ?_
            refine r_iload_n h d_M_tell_79 1 rfl rfl ?_
            refine r_iload_n h d_M_tell_80 3 rfl rfl ?_
            refine r_if_ne h d_M_tell_81 hf (fun hf => ?_) (fun hf => ?_)
            · refine r_bipush h d_M_tell_88 kb_6 ?_
              obtain ⟨q90, e90, hf⟩ := q_bind hf
              refine r_callV (As := [.int (σ.1 9 (Int32.toNatClampNeg x2)), .int (6 : Int32)]) (rest := []) h sh_YM_0 lk_M_465 vk_M_465 d_M_tell_90 (by decide) rfl rfl (Nat.le_of_ble_eq_true rfl) (m_M_bodies e90) ?_
              refine r_iload_n h d_M_tell_93 1 rfl rfl ?_
              refine r_iconst h d_M_tell_94 ki_2 ?_
              refine r_icmp_ne h d_M_tell_95 hf (fun hf => ?_) (fun hf => ?_)
              · refine r_iload h d_M_tell_105 0 rfl ?_
                refine r_iload_n h d_M_tell_107 1 rfl rfl ?_
                refine r_if_ne h d_M_tell_108 hf (fun hf => ?_) (fun hf => ?_)
                · refine r_iload_n h d_M_tell_115 3 rfl rfl ?_
                  refine r_if_ne h d_M_tell_116 hf (fun hf => ?_) (fun hf => ?_)
                  · refine r_iconst h d_M_tell_124 ki_1 ?_
                    refine r_iadd h d_M_tell_125 ?_
                    exact r_ireturn h d_M_tell_126.1 (q_p1 hf) (q_p2 hf)
                  · refine r_bipush h d_M_tell_119 kb_10 ?_
                    refine r_goto h d_M_tell_121 ?_
                    refine r_iadd h d_M_tell_125 ?_
                    exact r_ireturn h d_M_tell_126.1 (q_p1 hf) (q_p2 hf)
                · refine r_iconst h d_M_tell_111 ki_0 ?_
                  refine r_goto h d_M_tell_112 ?_
                  refine r_iadd h d_M_tell_125 ?_
                  exact r_ireturn h d_M_tell_126.1 (q_p1 hf) (q_p2 hf)
              · refine r_iconst h d_M_tell_98 ki_2 ?_
                refine r_iload h d_M_tell_99 0 rfl ?_
                refine r_imul h d_M_tell_101 ?_
                refine r_goto h d_M_tell_102 ?_
                refine r_iload_n h d_M_tell_107 1 rfl rfl ?_
                refine r_if_ne h d_M_tell_108 hf (fun hf => ?_) (fun hf => ?_)
                · refine r_iload_n h d_M_tell_115 3 rfl rfl ?_
                  refine r_if_ne h d_M_tell_116 hf (fun hf => ?_) (fun hf => ?_)
                  · refine r_iconst h d_M_tell_124 ki_1 ?_
                    refine r_iadd h d_M_tell_125 ?_
                    exact r_ireturn h d_M_tell_126.1 (q_p1 hf) (q_p2 hf)
                  · refine r_bipush h d_M_tell_119 kb_10 ?_
                    refine r_goto h d_M_tell_121 ?_
                    refine r_iadd h d_M_tell_125 ?_
                    exact r_ireturn h d_M_tell_126.1 (q_p1 hf) (q_p2 hf)
                · refine r_iconst h d_M_tell_111 ki_0 ?_
                  refine r_goto h d_M_tell_112 ?_
                  refine r_iadd h d_M_tell_125 ?_
                  exact r_ireturn h d_M_tell_126.1 (q_p1 hf) (q_p2 hf)
            · refine r_iconst h d_M_tell_84 ki_1 ?_
              refine r_goto h d_M_tell_85 ?_
              obtain ⟨q90, e90, hf⟩ := q_bind hf
              refine r_callV (As := [.int (σ.1 9 (Int32.toNatClampNeg x2)), .int (1 : Int32)]) (rest := []) h sh_YM_0 lk_M_465 vk_M_465 d_M_tell_90 (by decide) rfl rfl (Nat.le_of_ble_eq_true rfl) (m_M_bodies e90) ?_
              refine r_iload_n h d_M_tell_93 1 rfl rfl ?_
              refine r_iconst h d_M_tell_94 ki_2 ?_
              refine r_icmp_ne h d_M_tell_95 hf (fun hf => ?_) (fun hf => ?_)
              · refine r_iload h d_M_tell_105 0 rfl ?_
                refine r_iload_n h d_M_tell_107 1 rfl rfl ?_
                refine r_if_ne h d_M_tell_108 hf (fun hf => ?_) (fun hf => ?_)
                · refine r_iload_n h d_M_tell_115 3 rfl rfl ?_
                  refine r_if_ne h d_M_tell_116 hf (fun hf => ?_) (fun hf => ?_)
                  · refine r_iconst h d_M_tell_124 ki_1 ?_
                    refine r_iadd h d_M_tell_125 ?_
                    exact r_ireturn h d_M_tell_126.1 (q_p1 hf) (q_p2 hf)
                  · refine r_bipush h d_M_tell_119 kb_10 ?_
                    refine r_goto h d_M_tell_121 ?_
                    refine r_iadd h d_M_tell_125 ?_
                    exact r_ireturn h d_M_tell_126.1 (q_p1 hf) (q_p2 hf)
                · refine r_iconst h d_M_tell_111 ki_0 ?_
                  refine r_goto h d_M_tell_112 ?_
                  refine r_iadd h d_M_tell_125 ?_
                  exact r_ireturn h d_M_tell_126.1 (q_p1 hf) (q_p2 hf)
              · refine r_iconst h d_M_tell_98 ki_2 ?_
                refine r_iload h d_M_tell_99 0 rfl ?_
                refine r_imul h d_M_tell_101 ?_
                refine r_goto h d_M_tell_102 ?_
                refine r_iload_n h d_M_tell_107 1 rfl rfl ?_
                refine r_if_ne h d_M_tell_108 hf (fun hf => ?_) (fun hf => ?_)
                · refine r_iload_n h d_M_tell_115 3 rfl rfl ?_
                  refine r_if_ne h d_M_tell_116 hf (fun hf => ?_) (fun hf => ?_)
                  · refine r_iconst h d_M_tell_124 ki_1 ?_
                    refine r_iadd h d_M_tell_125 ?_
                    exact r_ireturn h d_M_tell_126.1 (q_p1 hf) (q_p2 hf)
                  · refine r_bipush h d_M_tell_119 kb_10 ?_
                    refine r_goto h d_M_tell_121 ?_
                    refine r_iadd h d_M_tell_125 ?_
                    exact r_ireturn h d_M_tell_126.1 (q_p1 hf) (q_p2 hf)
                · refine r_iconst h d_M_tell_111 ki_0 ?_
                  refine r_goto h d_M_tell_112 ?_
                  refine r_iadd h d_M_tell_125 ?_
                  exact r_ireturn h d_M_tell_126.1 (q_p1 hf) (q_p2 hf)
      · refine r_iconst h d_M_tell_36 ki_m1 ?_
        exact r_ireturn h d_M_tell_37.1 (q_p1 hf) (q_p2 hf)
    · refine r_aload_n h d_M_tell_17 0 rfl rfl ?_
      refine r_iload_n h d_M_tell_18 2 rfl rfl ?_
      obtain ⟨r19, e19, hf⟩ := q_bind hf
      refine r_callV (As := [.int x2]) (rest := []) h sh_YM_0 lk_M_284 vk_M_284 d_M_tell_19 (by decide) rfl rfl (Nat.le_of_ble_eq_true rfl) (m_M_noPack e19) ?_
      refine r_bif_eq h d_M_tell_22 hf (fun hf => ?_) (fun hf => ?_)
      · refine r_iload_n h d_M_tell_38 1 rfl rfl ?_
        refine r_if_ne h d_M_tell_39 hf (fun hf => ?_) (fun hf => ?_)
        · refine r_aload_n h d_M_tell_51 0 rfl rfl ?_
          refine r_getR h fd_YM_0_42 cf_M fl_M_104 d_M_tell_52 ?_
          refine r_iload_n h d_M_tell_55 2 rfl rfl ?_
          refine r_iald h sh_YM_32 d_M_tell_56 hf (fun hf => ?_)
          refine r_istore_n (ls' := [(3, .int (σ.1 32 (Int32.toNatClampNeg x2))), (0, .ref (ya Z 0)), (1, .int x1), (2, .int x2)]) h d_M_tell_57 rfl (by decide) rfl ?_
          refine r_iload_n h d_M_tell_58 2 rfl rfl ?_
          refine r_if_ne h d_M_tell_59 hf (fun hf => ?_) (fun hf => ?_)
          · refine r_aload_n h d_M_tell_70 1 rfl rfl ?_
            refine r_getR h fd_YM_0_45 cf_M fl_M_113 d_M_tell_71 ?_
            refine r_iload_n h d_M_tell_74 3 rfl rfl ?_
            refine r_iald h sh_YM_35 d_M_tell_75 hf (fun hf => ?_)
            refine r_istore (ls' := [(4, .int (σ.1 35 (Int32.toNatClampNeg x2))), (3, .int (σ.1 32 (Int32.toNatClampNeg x2))), (0, .ref (ya Z 0)), (1, .int x1), (2, .int x2)]) h d_M_tell_76 (by decide) rfl ?_
            refine r_aload_n h d_M_tell_78 2 rfl rfl ?_
            refine r_iload_n h d_M_tell_79 1 rfl rfl ?_
            refine r_iload_n h d_M_tell_80 3 rfl rfl ?_
            refine r_if_ne h d_M_tell_81 hf (fun hf => ?_) (fun hf => ?_)
            · refine r_bipush h d_M_tell_88 kb_6 ?_
              obtain ⟨q90, e90, hf⟩ := q_bind hf
              refine r_callV (As := [.int (σ.1 32 (Int32.toNatClampNeg x2)), .int (6 : Int32)]) (rest := []) h sh_YM_0 lk_M_465 vk_M_465 d_M_tell_90 (by decide) rfl rfl (Nat.le_of_ble_eq_true rfl) (m_M_bodies e90) ?_
              refine r_iload_n h d_M_tell_93 1 rfl rfl ?_
              refine r_iconst h d_M_tell_94 ki_2 ?_
              refine r_icmp_ne h d_M_tell_95 hf (fun hf => ?_) (fun hf => ?_)
              · refine r_iload h d_M_tell_105 0 rfl ?_
                refine r_iload_n h d_M_tell_107 1 rfl rfl ?_
                refine r_if_ne h d_M_tell_108 hf (fun hf => ?_) (fun hf => ?_)
                · refine r_iload_n h d_M_tell_115 3 rfl rfl ?_
                  refine r_if_ne h d_M_tell_116 hf (fun hf => ?_) (fun hf => ?_)
                  · refine r_iconst h d_M_tell_124 ki_1 ?_
                    refine r_iadd h d_M_tell_125 ?_
                    exact r_ireturn h d_M_tell_126.1 (q_p1 hf) (q_p2 hf)
                  · refine r_bipush h d_M_tell_119 kb_10 ?_
                    refine r_goto h d_M_tell_121 ?_
                    refine r_iadd h d_M_tell_125 ?_
                    exact r_ireturn h d_M_tell_126.1 (q_p1 hf) (q_p2 hf)
                · refine r_iconst h d_M_tell_111 ki_0 ?_
                  refine r_goto h d_M_tell_112 ?_
                  refine r_iadd h d_M_tell_125 ?_
                  exact r_ireturn h d_M_tell_126.1 (q_p1 hf) (q_p2 hf)
              · refine r_iconst h d_M_tell_98 ki_2 ?_
                refine r_iload h d_M_tell_99 0 rfl ?_
                refine r_imul h d_M_tell_101 ?_
                refine r_goto h d_M_tell_102 ?_
                refine r_iload_n h d_M_tell_107 1 rfl rfl ?_
                refine r_if_ne h d_M_tell_108 hf (fun hf => ?_) (fun hf => ?_)
                · refine r_iload_n h d_M_tell_115 3 rfl rfl ?_
                  refine r_if_ne h d_M_tell_116 hf (fun hf => ?_) (fun hf => ?_)
                  · refine r_iconst h d_M_tell_124 ki_1 ?_
                    refine r_iadd h d_M_tell_125 ?_
                    exact r_ireturn h d_M_tell_126.1 (q_p1 hf) (q_p2 hf)
                  · refine r_bipush h d_M_tell_119 kb_10 ?_
                    refine r_goto h d_M_tell_121 ?_
                    refine r_iadd h d_M_tell_125 ?_
                    exact r_ireturn h d_M_tell_126.1 (q_p1 hf) (q_p2 hf)
                · refine r_iconst h d_M_tell_111 ki_0 ?_
                  refine r_goto h d_M_tell_112 ?_
                  refine r_iadd h d_M_tell_125 ?_
                  exact r_ireturn h d_M_tell_126.1 (q_p1 hf) (q_p2 hf)
            · refine r_iconst h d_M_tell_84 ki_1 ?_
              refine r_goto h d_M_tell_85 ?_
              obtain ⟨q90, e90, hf⟩ := q_bind hf
              refine r_callV (As := [.int (σ.1 32 (Int32.toNatClampNeg x2)), .int (1 : Int32)]) (rest := []) h sh_YM_0 lk_M_465 vk_M_465 d_M_tell_90 (by decide) rfl rfl (Nat.le_of_ble_eq_true rfl) (m_M_bodies e90) ?_
              refine r_iload_n h d_M_tell_93 1 rfl rfl ?_
              refine r_iconst h d_M_tell_94 ki_2 ?_
              refine r_icmp_ne h d_M_tell_95 hf (fun hf => ?_) (fun hf => ?_)
              · refine r_iload h d_M_tell_105 0 rfl ?_
                refine r_iload_n h d_M_tell_107 1 rfl rfl ?_
                refine r_if_ne h d_M_tell_108 hf (fun hf => ?_) (fun hf => ?_)
                · refine r_iload_n h d_M_tell_115 3 rfl rfl ?_
                  refine r_if_ne h d_M_tell_116 hf (fun hf => ?_) (fun hf => ?_)
                  · refine r_iconst h d_M_tell_124 ki_1 ?_
                    refine r_iadd h d_M_tell_125 ?_
                    exact r_ireturn h d_M_tell_126.1 (q_p1 hf) (q_p2 hf)
                  · refine r_bipush h d_M_tell_119 kb_10 ?_
                    refine r_goto h d_M_tell_121 ?_
                    refine r_iadd h d_M_tell_125 ?_
                    exact r_ireturn h d_M_tell_126.1 (q_p1 hf) (q_p2 hf)
                · refine r_iconst h d_M_tell_111 ki_0 ?_
                  refine r_goto h d_M_tell_112 ?_
                  refine r_iadd h d_M_tell_125 ?_
                  exact r_ireturn h d_M_tell_126.1 (q_p1 hf) (q_p2 hf)
              · refine r_iconst h d_M_tell_98 ki_2 ?_
                refine r_iload h d_M_tell_99 0 rfl ?_
                refine r_imul h d_M_tell_101 ?_
                refine r_goto h d_M_tell_102 ?_
                refine r_iload_n h d_M_tell_107 1 rfl rfl ?_
                refine r_if_ne h d_M_tell_108 hf (fun hf => ?_) (fun hf => ?_)
                · refine r_iload_n h d_M_tell_115 3 rfl rfl ?_
                  refine r_if_ne h d_M_tell_116 hf (fun hf => ?_) (fun hf => ?_)
                  · refine r_iconst h d_M_tell_124 ki_1 ?_
                    refine r_iadd h d_M_tell_125 ?_
                    exact r_ireturn h d_M_tell_126.1 (q_p1 hf) (q_p2 hf)
                  · refine r_bipush h d_M_tell_119 kb_10 ?_
                    refine r_goto h d_M_tell_121 ?_
                    refine r_iadd h d_M_tell_125 ?_
                    exact r_ireturn h d_M_tell_126.1 (q_p1 hf) (q_p2 hf)
                · refine r_iconst h d_M_tell_111 ki_0 ?_
                  refine r_goto h d_M_tell_112 ?_
                  refine r_iadd h d_M_tell_125 ?_
                  exact r_ireturn h d_M_tell_126.1 (q_p1 hf) (q_p2 hf)
          · refine r_aload_n h d_M_tell_62 1 rfl rfl ?_
            refine r_iload_n h d_M_tell_63 3 rfl rfl ?_
            obtain ⟨r64, e64, hf⟩ := q_bind hf
            refine r_callV (As := [.int x2]) (rest := []) h sh_YM_0 lk_M_302 vk_M_302 d_M_tell_64 (by decide) rfl rfl (Nat.le_of_ble_eq_true rfl) (m_M_entriesOf e64) ?_
            refine r_goto h d_M_tell_67 ?_
            refine r_istore (ls' := [(4, .int r64), (3, .int (σ.1 32 (Int32.toNatClampNeg x2))), (0, .ref (ya Z 0)), (1, .int x1), (2, .int x2)]) h d_M_tell_76 (by decide) rfl ?_
            refine r_aload_n h d_M_tell_78 2 rfl rfl ?_
            refine r_iload_n h d_M_tell_79 1 rfl rfl ?_
            refine r_iload_n h d_M_tell_80 3 rfl rfl ?_
            refine r_if_ne h d_M_tell_81 hf (fun hf => ?_) (fun hf => ?_)
            · refine r_bipush h d_M_tell_88 kb_6 ?_
              obtain ⟨q90, e90, hf⟩ := q_bind hf
              refine r_callV (As := [.int (σ.1 32 (Int32.toNatClampNeg x2)), .int (6 : Int32)]) (rest := []) h sh_YM_0 lk_M_465 vk_M_465 d_M_tell_90 (by decide) rfl rfl (Nat.le_of_ble_eq_true rfl) (m_M_bodies e90) ?_
              refine r_iload_n h d_M_tell_93 1 rfl rfl ?_
              refine r_iconst h d_M_tell_94 ki_2 ?_
              refine r_icmp_ne h d_M_tell_95 hf (fun hf => ?_) (fun hf => ?_)
              · refine r_iload h d_M_tell_105 0 rfl ?_
                refine r_iload_n h d_M_tell_107 1 rfl rfl ?_
                refine r_if_ne h d_M_tell_108 hf (fun hf => ?_) (fun hf => ?_)
                · refine r_iload_n h d_M_tell_115 3 rfl rfl ?_
                  refine r_if_ne h d_M_tell_116 hf (fun hf => ?_) (fun hf => ?_)
                  · refine r_iconst h d_M_tell_124 ki_1 ?_
                    refine r_iadd h d_M_tell_125 ?_
                    exact r_ireturn h d_M_tell_126.1 (q_p1 hf) (q_p2 hf)
                  · refine r_bipush h d_M_tell_119 kb_10 ?_
                    refine r_goto h d_M_tell_121 ?_
                    refine r_iadd h d_M_tell_125 ?_
                    exact r_ireturn h d_M_tell_126.1 (q_p1 hf) (q_p2 hf)
                · refine r_iconst h d_M_tell_111 ki_0 ?_
                  refine r_goto h d_M_tell_112 ?_
                  refine r_iadd h d_M_tell_125 ?_
                  exact r_ireturn h d_M_tell_126.1 (q_p1 hf) (q_p2 hf)
              · refine r_iconst h d_M_tell_98 ki_2 ?_
                refine r_iload h d_M_tell_99 0 rfl ?_
                refine r_imul h d_M_tell_101 ?_
                refine r_goto h d_M_tell_102 ?_
                refine r_iload_n h d_M_tell_107 1 rfl rfl ?_
                refine r_if_ne h d_M_tell_108 hf (fun hf => ?_) (fun hf => ?_)
                · refine r_iload_n h d_M_tell_115 3 rfl rfl ?_
                  refine r_if_ne h d_M_tell_116 hf (fun hf => ?_) (fun hf => ?_)
                  · refine r_iconst h d_M_tell_124 ki_1 ?_
                    refine r_iadd h d_M_tell_125 ?_
                    exact r_ireturn h d_M_tell_126.1 (q_p1 hf) (q_p2 hf)
                  · refine r_bipush h d_M_tell_119 kb_10 ?_
                    refine r_goto h d_M_tell_121 ?_
                    refine r_iadd h d_M_tell_125 ?_
                    exact r_ireturn h d_M_tell_126.1 (q_p1 hf) (q_p2 hf)
                · refine r_iconst h d_M_tell_111 ki_0 ?_
                  refine r_goto h d_M_tell_112 ?_
                  refine r_iadd h d_M_tell_125 ?_
                  exact r_ireturn h d_M_tell_126.1 (q_p1 hf) (q_p2 hf)
            · refine r_iconst h d_M_tell_84 ki_1 ?_
              refine r_goto h d_M_tell_85 ?_
              obtain ⟨q90, e90, hf⟩ := q_bind hf
              refine r_callV (As := [.int (σ.1 32 (Int32.toNatClampNeg x2)), .int (1 : Int32)]) (rest := []) h sh_YM_0 lk_M_465 vk_M_465 d_M_tell_90 (by decide) rfl rfl (Nat.le_of_ble_eq_true rfl) (m_M_bodies e90) ?_
              refine r_iload_n h d_M_tell_93 1 rfl rfl ?_
              refine r_iconst h d_M_tell_94 ki_2 ?_
              refine r_icmp_ne h d_M_tell_95 hf (fun hf => ?_) (fun hf => ?_)
              · refine r_iload h d_M_tell_105 0 rfl ?_
                refine r_iload_n h d_M_tell_107 1 rfl rfl ?_
                refine r_if_ne h d_M_tell_108 hf (fun hf => ?_) (fun hf => ?_)
                · refine r_iload_n h d_M_tell_115 3 rfl rfl ?_
                  refine r_if_ne h d_M_tell_116 hf (fun hf => ?_) (fun hf => ?_)
                  · refine r_iconst h d_M_tell_124 ki_1 ?_
                    refine r_iadd h d_M_tell_125 ?_
                    exact r_ireturn h d_M_tell_126.1 (q_p1 hf) (q_p2 hf)
                  · refine r_bipush h d_M_tell_119 kb_10 ?_
                    refine r_goto h d_M_tell_121 ?_
                    refine r_iadd h d_M_tell_125 ?_
                    exact r_ireturn h d_M_tell_126.1 (q_p1 hf) (q_p2 hf)
                · refine r_iconst h d_M_tell_111 ki_0 ?_
                  refine r_goto h d_M_tell_112 ?_
                  refine r_iadd h d_M_tell_125 ?_
                  exact r_ireturn h d_M_tell_126.1 (q_p1 hf) (q_p2 hf)
              · refine r_iconst h d_M_tell_98 ki_2 ?_
                refine r_iload h d_M_tell_99 0 rfl ?_
                refine r_imul h d_M_tell_101 ?_
                refine r_goto h d_M_tell_102 ?_
                refine r_iload_n h d_M_tell_107 1 rfl rfl ?_
                refine r_if_ne h d_M_tell_108 hf (fun hf => ?_) (fun hf => ?_)
                · refine r_iload_n h d_M_tell_115 3 rfl rfl ?_
                  refine r_if_ne h d_M_tell_116 hf (fun hf => ?_) (fun hf => ?_)
                  · refine r_iconst h d_M_tell_124 ki_1 ?_
                    refine r_iadd h d_M_tell_125 ?_
                    exact r_ireturn h d_M_tell_126.1 (q_p1 hf) (q_p2 hf)
                  · refine r_bipush h d_M_tell_119 kb_10 ?_
                    refine r_goto h d_M_tell_121 ?_
                    refine r_iadd h d_M_tell_125 ?_
                    exact r_ireturn h d_M_tell_126.1 (q_p1 hf) (q_p2 hf)
                · refine r_iconst h d_M_tell_111 ki_0 ?_
                  refine r_goto h d_M_tell_112 ?_
                  refine r_iadd h d_M_tell_125 ?_
                  exact r_ireturn h d_M_tell_126.1 (q_p1 hf) (q_p2 hf)
        · refine r_aload_n h d_M_tell_42 0 rfl rfl ?_
          refine r_getR h fd_YM_0_14 cf_M fl_M_34 d_M_tell_43 ?_
          refine r_iload_n h d_M_tell_46 2 rfl rfl ?_
          refine r_iald h sh_YM_9 d_M_tell_47 hf (fun hf => ?_)
          refine r_goto h d_M_tell_48 ?_
          refine r_istore_n (ls' := [(3, .int (σ.1 9 (Int32.toNatClampNeg x2))), (0, .ref (ya Z 0)), (1, .int x1), (2, .int x2)]) h d_M_tell_57 rfl (by decide) rfl ?_
          refine r_iload_n h d_M_tell_58 2 rfl rfl ?_
          refine r_if_ne h d_M_tell_59 hf (fun hf => ?_) (fun hf => ?_)
          · refine r_aload_n h d_M_tell_70 1 rfl rfl ?_
            refine r_getR h fd_YM_0_45 cf_M fl_M_113 d_M_tell_71 ?_
            refine r_iload_n h d_M_tell_74 3 rfl rfl ?_
            refine r_iald h sh_YM_35 d_M_tell_75 hf (fun hf => ?_)
            refine r_istore (ls' := [(4, .int (σ.1 35 (Int32.toNatClampNeg x2))), (3, .int (σ.1 9 (Int32.toNatClampNeg x2))), (0, .ref (ya Z 0)), (1, .int x1), (2, .int x2)]) h d_M_tell_76 (by decide) rfl ?_
            refine r_aload_n h d_M_tell_78 2 rfl rfl ?_
            refine r_iload_n h d_M_tell_79 1 rfl rfl ?_
            refine r_iload_n h d_M_tell_80 3 rfl rfl ?_
            refine r_if_ne h d_M_tell_81 hf (fun hf => ?_) (fun hf => ?_)
            · refine r_bipush h d_M_tell_88 kb_6 ?_
              obtain ⟨q90, e90, hf⟩ := q_bind hf
              refine r_callV (As := [.int (σ.1 9 (Int32.toNatClampNeg x2)), .int (6 : Int32)]) (rest := []) h sh_YM_0 lk_M_465 vk_M_465 d_M_tell_90 (by decide) rfl rfl (Nat.le_of_ble_eq_true rfl) (m_M_bodies e90) ?_
              refine r_iload_n h d_M_tell_93 1 rfl rfl ?_
              refine r_iconst h d_M_tell_94 ki_2 ?_
              refine r_icmp_ne h d_M_tell_95 hf (fun hf => ?_) (fun hf => ?_)
              · refine r_iload h d_M_tell_105 0 rfl ?_
                refine r_iload_n h d_M_tell_107 1 rfl rfl ?_
                refine r_if_ne h d_M_tell_108 hf (fun hf => ?_) (fun hf => ?_)
                · refine r_iload_n h d_M_tell_115 3 rfl rfl ?_
                  refine r_if_ne h d_M_tell_116 hf (fun hf => ?_) (fun hf => ?_)
                  · refine r_iconst h d_M_tell_124 ki_1 ?_
                    refine r_iadd h d_M_tell_125 ?_
                    exact r_ireturn h d_M_tell_126.1 (q_p1 hf) (q_p2 hf)
                  · refine r_bipush h d_M_tell_119 kb_10 ?_
                    refine r_goto h d_M_tell_121 ?_
                    refine r_iadd h d_M_tell_125 ?_
                    exact r_ireturn h d_M_tell_126.1 (q_p1 hf) (q_p2 hf)
                · refine r_iconst h d_M_tell_111 ki_0 ?_
                  refine r_goto h d_M_tell_112 ?_
                  refine r_iadd h d_M_tell_125 ?_
                  exact r_ireturn h d_M_tell_126.1 (q_p1 hf) (q_p2 hf)
              · refine r_iconst h d_M_tell_98 ki_2 ?_
                refine r_iload h d_M_tell_99 0 rfl ?_
                refine r_imul h d_M_tell_101 ?_
                refine r_goto h d_M_tell_102 ?_
                refine r_iload_n h d_M_tell_107 1 rfl rfl ?_
                refine r_if_ne h d_M_tell_108 hf (fun hf => ?_) (fun hf => ?_)
                · refine r_iload_n h d_M_tell_115 3 rfl rfl ?_
                  refine r_if_ne h d_M_tell_116 hf (fun hf => ?_) (fun hf => ?_)
                  · refine r_iconst h d_M_tell_124 ki_1 ?_
                    refine r_iadd h d_M_tell_125 ?_
                    exact r_ireturn h d_M_tell_126.1 (q_p1 hf) (q_p2 hf)
                  · refine r_bipush h d_M_tell_119 kb_10 ?_
                    refine r_goto h d_M_tell_121 ?_
                    refine r_iadd h d_M_tell_125 ?_
                    exact r_ireturn h d_M_tell_126.1 (q_p1 hf) (q_p2 hf)
                · refine r_iconst h d_M_tell_111 ki_0 ?_
                  refine r_goto h d_M_tell_112 ?_
                  refine r_iadd h d_M_tell_125 ?_
                  exact r_ireturn h d_M_tell_126.1 (q_p1 hf) (q_p2 hf)
            · refine r_iconst h d_M_tell_84 ki_1 ?_
              refine r_goto h d_M_tell_85 ?_
              obtain ⟨q90, e90, hf⟩ := q_bind hf
              refine r_callV (As := [.int (σ.1 9 (Int32.toNatClampNeg x2)), .int (1 : Int32)]) (rest := []) h sh_YM_0 lk_M_465 vk_M_465 d_M_tell_90 (by decide) rfl rfl (Nat.le_of_ble_eq_true rfl) (m_M_bodies e90) ?_
              refine r_iload_n h d_M_tell_93 1 rfl rfl ?_
              refine r_iconst h d_M_tell_94 ki_2 ?_
              refine r_icmp_ne h d_M_tell_95 hf (fun hf => ?_) (fun hf => ?_)
              · refine r_iload h d_M_tell_105 0 rfl ?_
                refine r_iload_n h d_M_tell_107 1 rfl rfl ?_
                refine r_if_ne h d_M_tell_108 hf (fun hf => ?_) (fun hf => ?_)
                · refine r_iload_n h d_M_tell_115 3 rfl rfl ?_
                  refine r_if_ne h d_M_tell_116 hf (fun hf => ?_) (fun hf => ?_)
                  · refine r_iconst h d_M_tell_124 ki_1 ?_
                    refine r_iadd h d_M_tell_125 ?_
                    exact r_ireturn h d_M_tell_126.1 (q_p1 hf) (q_p2 hf)
                  · refine r_bipush h d_M_tell_119 kb_10 ?_
                    refine r_goto h d_M_tell_121 ?_
                    refine r_iadd h d_M_tell_125 ?_
                    exact r_ireturn h d_M_tell_126.1 (q_p1 hf) (q_p2 hf)
                · refine r_iconst h d_M_tell_111 ki_0 ?_
                  refine r_goto h d_M_tell_112 ?_
                  refine r_iadd h d_M_tell_125 ?_
                  exact r_ireturn h d_M_tell_126.1 (q_p1 hf) (q_p2 hf)
              · refine r_iconst h d_M_tell_98 ki_2 ?_
                refine r_iload h d_M_tell_99 0 rfl ?_
                refine r_imul h d_M_tell_101 ?_
                refine r_goto h d_M_tell_102 ?_
                refine r_iload_n h d_M_tell_107 1 rfl rfl ?_
                refine r_if_ne h d_M_tell_108 hf (fun hf => ?_) (fun hf => ?_)
                · refine r_iload_n h d_M_tell_115 3 rfl rfl ?_
                  refine r_if_ne h d_M_tell_116 hf (fun hf => ?_) (fun hf => ?_)
                  · refine r_iconst h d_M_tell_124 ki_1 ?_
                    refine r_iadd h d_M_tell_125 ?_
                    exact r_ireturn h d_M_tell_126.1 (q_p1 hf) (q_p2 hf)
                  · refine r_bipush h d_M_tell_119 kb_10 ?_
                    refine r_goto h d_M_tell_121 ?_
                    refine r_iadd h d_M_tell_125 ?_
                    exact r_ireturn h d_M_tell_126.1 (q_p1 hf) (q_p2 hf)
                · refine r_iconst h d_M_tell_111 ki_0 ?_
                  refine r_goto h d_M_tell_112 ?_
                  refine r_iadd h d_M_tell_125 ?_
                  exact r_ireturn h d_M_tell_126.1 (q_p1 hf) (q_p2 hf)
          · refine r_aload_n h d_M_tell_62 1 rfl rfl ?_
            refine r_iload_n h d_M_tell_63 3 rfl rfl ?_
            obtain ⟨r64, e64, hf⟩ := q_bind hf
            refine r_callV (As := [.int x2]) (rest := []) h sh_YM_0 lk_M_302 vk_M_302 d_M_tell_64 (by decide) rfl rfl (Nat.le_of_ble_eq_true rfl) (m_M_entriesOf e64) ?_
            refine r_goto h d_M_tell_67 ?_
            refine r_istore (ls' := [(4, .int r64), (3, .int (σ.1 9 (Int32.toNatClampNeg x2))), (0, .ref (ya Z 0)), (1, .int x1), (2, .int x2)]) h d_M_tell_76 (by decide) rfl ?_
            refine r_aload_n h d_M_tell_78 2 rfl rfl ?_
            refine r_iload_n h d_M_tell_79 1 rfl rfl ?_
            refine r_iload_n h d_M_tell_80 3 rfl rfl ?_
            refine r_if_ne h d_M_tell_81 hf (fun hf => ?_) (fun hf => ?_)
            · refine r_bipush h d_M_tell_88 kb_6 ?_
              obtain ⟨q90, e90, hf⟩ := q_bind hf
              refine r_callV (As := [.int (σ.1 9 (Int32.toNatClampNeg x2)), .int (6 : Int32)]) (rest := []) h sh_YM_0 lk_M_465 vk_M_465 d_M_tell_90 (by decide) rfl rfl (Nat.le_of_ble_eq_true rfl) (m_M_bodies e90) ?_
              refine r_iload_n h d_M_tell_93 1 rfl rfl ?_
              refine r_iconst h d_M_tell_94 ki_2 ?_
              refine r_icmp_ne h d_M_tell_95 hf (fun hf => ?_) (fun hf => ?_)
              · refine r_iload h d_M_tell_105 0 rfl ?_
                refine r_iload_n h d_M_tell_107 1 rfl rfl ?_
                refine r_if_ne h d_M_tell_108 hf (fun hf => ?_) (fun hf => ?_)
                · refine r_iload_n h d_M_tell_115 3 rfl rfl ?_
                  refine r_if_ne h d_M_tell_116 hf (fun hf => ?_) (fun hf => ?_)
                  · refine r_iconst h d_M_tell_124 ki_1 ?_
                    refine r_iadd h d_M_tell_125 ?_
                    exact r_ireturn h d_M_tell_126.1 (q_p1 hf) (q_p2 hf)
                  · refine r_bipush h d_M_tell_119 kb_10 ?_
                    refine r_goto h d_M_tell_121 ?_
                    refine r_iadd h d_M_tell_125 ?_
                    exact r_ireturn h d_M_tell_126.1 (q_p1 hf) (q_p2 hf)
                · refine r_iconst h d_M_tell_111 ki_0 ?_
                  refine r_goto h d_M_tell_112 ?_
                  refine r_iadd h d_M_tell_125 ?_
                  exact r_ireturn h d_M_tell_126.1 (q_p1 hf) (q_p2 hf)
              · refine r_iconst h d_M_tell_98 ki_2 ?_
                refine r_iload h d_M_tell_99 0 rfl ?_
                refine r_imul h d_M_tell_101 ?_
                refine r_goto h d_M_tell_102 ?_
                refine r_iload_n h d_M_tell_107 1 rfl rfl ?_
                refine r_if_ne h d_M_tell_108 hf (fun hf => ?_) (fun hf => ?_)
                · refine r_iload_n h d_M_tell_115 3 rfl rfl ?_
                  refine r_if_ne h d_M_tell_116 hf (fun hf => ?_) (fun hf => ?_)
                  · refine r_iconst h d_M_tell_124 ki_1 ?_
                    refine r_iadd h d_M_tell_125 ?_
                    exact r_ireturn h d_M_tell_126.1 (q_p1 hf) (q_p2 hf)
                  · refine r_bipush h d_M_tell_119 kb_10 ?_
                    refine r_goto h d_M_tell_121 ?_
                    refine r_iadd h d_M_tell_125 ?_
                    exact r_ireturn h d_M_tell_126.1 (q_p1 hf) (q_p2 hf)
                · refine r_iconst h d_M_tell_111 ki_0 ?_
                  refine r_goto h d_M_tell_112 ?_
                  refine r_iadd h d_M_tell_125 ?_
                  exact r_ireturn h d_M_tell_126.1 (q_p1 hf) (q_p2 hf)
            · refine r_iconst h d_M_tell_84 ki_1 ?_
              refine r_goto h d_M_tell_85 ?_
              obtain ⟨q90, e90, hf⟩ := q_bind hf
              refine r_callV (As := [.int (σ.1 9 (Int32.toNatClampNeg x2)), .int (1 : Int32)]) (rest := []) h sh_YM_0 lk_M_465 vk_M_465 d_M_tell_90 (by decide) rfl rfl (Nat.le_of_ble_eq_true rfl) (m_M_bodies e90) ?_
              refine r_iload_n h d_M_tell_93 1 rfl rfl ?_
              refine r_iconst h d_M_tell_94 ki_2 ?_
              refine r_icmp_ne h d_M_tell_95 hf (fun hf => ?_) (fun hf => ?_)
              · refine r_iload h d_M_tell_105 0 rfl ?_
                refine r_iload_n h d_M_tell_107 1 rfl rfl ?_
                refine r_if_ne h d_M_tell_108 hf (fun hf => ?_) (fun hf => ?_)
                · refine r_iload_n h d_M_tell_115 3 rfl rfl ?_
                  refine r_if_ne h d_M_tell_116 hf (fun hf => ?_) (fun hf => ?_)
                  · refine r_iconst h d_M_tell_124 ki_1 ?_
                    refine r_iadd h d_M_tell_125 ?_
                    exact r_ireturn h d_M_tell_126.1 (q_p1 hf) (q_p2 hf)
                  · refine r_bipush h d_M_tell_119 kb_10 ?_
                    refine r_goto h d_M_tell_121 ?_
                    refine r_iadd h d_M_tell_125 ?_
                    exact r_ireturn h d_M_tell_126.1 (q_p1 hf) (q_p2 hf)
                · refine r_iconst h d_M_tell_111 ki_0 ?_
                  refine r_goto h d_M_tell_112 ?_
                  refine r_iadd h d_M_tell_125 ?_
                  exact r_ireturn h d_M_tell_126.1 (q_p1 hf) (q_p2 hf)
              · refine r_iconst h d_M_tell_98 ki_2 ?_
                refine r_iload h d_M_tell_99 0 rfl ?_
                refine r_imul h d_M_tell_101 ?_
                refine r_goto h d_M_tell_102 ?_
                refine r_iload_n h d_M_tell_107 1 rfl rfl ?_
                refine r_if_ne h d_M_tell_108 hf (fun hf => ?_) (fun hf => ?_)
                · refine r_iload_n h d_M_tell_115 3 rfl rfl ?_
                  refine r_if_ne h d_M_tell_116 hf (fun hf => ?_) (fun hf => ?_)
                  · refine r_iconst h d_M_tell_124 ki_1 ?_
                    refine r_iadd h d_M_tell_125 ?_
                    exact r_ireturn h d_M_tell_126.1 (q_p1 hf) (q_p2 hf)
                  · refine r_bipush h d_M_tell_119 kb_10 ?_
                    refine r_goto h d_M_tell_121 ?_
                    refine r_iadd h d_M_tell_125 ?_
                    exact r_ireturn h d_M_tell_126.1 (q_p1 hf) (q_p2 hf)
                · refine r_iconst h d_M_tell_111 ki_0 ?_
                  refine r_goto h d_M_tell_112 ?_
                  refine r_iadd h d_M_tell_125 ?_
                  exact r_ireturn h d_M_tell_126.1 (q_p1 hf) (q_p2 hf)
      · refine r_goto h d_M_tell_25 ?_
        refine r_iconst h d_M_tell_36 ki_m1 ?_
        exact r_ireturn h d_M_tell_37.1 (q_p1 hf) (q_p2 hf)
  · refine r_bipush h d_M_tell_10 kb_m2 ?_
    exact r_ireturn h d_M_tell_12.1 (q_p1 hf) (q_p2 hf)

