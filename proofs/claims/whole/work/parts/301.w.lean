theorem d_M_noPack_0 : decode c_M_noPack 0 = .ok (.iload_n 1, 1) ∧ 0 + 1 = 1 := by decide +kernel
theorem d_M_noPack_1 : decode c_M_noPack 1 = .ok (.i2l, 1) ∧ 1 + 1 = 2 := by decide +kernel
theorem d_M_noPack_2 : decode c_M_noPack 2 = .ok (.lconst 0, 1) ∧ 2 + 1 = 3 := by decide +kernel
theorem d_M_noPack_3 : decode c_M_noPack 3 = .ok (.aload_n 0, 1) ∧ 3 + 1 = 4 := by decide +kernel
theorem d_M_noPack_4 : decode c_M_noPack 4 = .ok (.getfield 260, 3) ∧ 4 + 3 = 7 := by decide +kernel
theorem d_M_noPack_7 : decode c_M_noPack 7 = .ok (.i2l, 1) ∧ 7 + 1 = 8 := by decide +kernel
theorem d_M_noPack_8 : decode c_M_noPack 8 = .ok (.lconst 1, 1) ∧ 8 + 1 = 9 := by decide +kernel
theorem d_M_noPack_9 : decode c_M_noPack 9 = .ok (.lsub, 1) ∧ 9 + 1 = 10 := by decide +kernel
theorem d_M_noPack_10 : decode c_M_noPack 10 = .ok (.invokestatic 201, 3) ∧ 10 + 3 = 13 := by decide +kernel
theorem d_M_noPack_13 : decode c_M_noPack 13 = .ok (.ifCond .ne 7, 3) ∧ 13 + 3 = 16 ∧ ((13 : Nat) : Int) + 7 = ((20 : Nat) : Int) := by decide +kernel
theorem d_M_noPack_16 : decode c_M_noPack 16 = .ok (.iconst 1, 1) ∧ 16 + 1 = 17 := by decide +kernel
theorem d_M_noPack_17 : decode c_M_noPack 17 = .ok (.goto 4, 3) ∧ (17 : Int) + 4 = (21 : Int) := by decide +kernel
theorem d_M_noPack_20 : decode c_M_noPack 20 = .ok (.iconst 0, 1) ∧ 20 + 1 = 21 := by decide +kernel
theorem d_M_noPack_21 : decode c_M_noPack 21 = .ok (.ireturn, 1) ∧ 21 + 1 = 22 := by decide +kernel
set_option maxHeartbeats 4000000 in
theorem m_M_noPack {Z : Sy} {σ : St} {res : Bool} {x1 : Int32} (hf : M_noPack x1 σ = some res) : Ct YM Z y_M_noPack c_M_noPack 2 (some .boolean) 2 [.ref (ya Z 0), .int x1] σ (some (.int (bi res))) σ := by
  refine Ct.of pn_M (Nat.le_of_ble_eq_true rfl) rfl (fun Γ h => ?_)
  have h : IsG YM Z R_M c_M_noPack 2 2 (some .boolean) (some (.int (bi res))) σ Γ := h
  unfold M_noPack at hf
  refine r_iload_n h d_M_noPack_0 1 rfl rfl ?_
  refine r_i2l h d_M_noPack_1 ?_
  refine r_lconst h d_M_noPack_2 kl_0 ?_
  refine r_aload_n h d_M_noPack_3 0 rfl rfl ?_
  refine r_getI h fd_YM_0_13 cf_M fl_M_260 d_M_noPack_4 ?_
  refine r_i2l h d_M_noPack_7 ?_
  refine r_lconst h d_M_noPack_8 kl_1 ?_
  refine r_lsub h d_M_noPack_9 ?_
  obtain ⟨r10, e10, hf⟩ := q_bind hf
  refine r_callS (As := [.long (Int32.toInt64 x1), .long (0 : Int64), .long ((Int32.toInt64 (σ.1 0 13)) - (1 : Int64))]) (rest := []) h lk_M_201 sk_M_201 d_M_noPack_10 (by decide) rfl rfl (Nat.le_of_ble_eq_true rfl) (m_M_in e10) ?_
  refine r_bif_ne h d_M_noPack_13 hf (fun hf => ?_) (fun hf => ?_)
  · refine r_iconst h d_M_noPack_20 ki_0 ?_
    exact r_zreturn h d_M_noPack_21.1 ((show (0 : Int32) = bi false from rfl).trans (congrArg bi (Option.some.inj hf))) rfl
  · refine r_iconst h d_M_noPack_16 ki_1 ?_
    refine r_goto h d_M_noPack_17 ?_
    exact r_zreturn h d_M_noPack_21.1 ((show (1 : Int32) = bi true from rfl).trans (congrArg bi (Option.some.inj hf))) rfl

theorem d_M_isGood_0 : decode c_M_isGood 0 = .ok (.iload_n 0, 1) ∧ 0 + 1 = 1 := by decide +kernel
theorem d_M_isGood_1 : decode c_M_isGood 1 = .ok (.i2l, 1) ∧ 1 + 1 = 2 := by decide +kernel
theorem d_M_isGood_2 : decode c_M_isGood 2 = .ok (.lconst 0, 1) ∧ 2 + 1 = 3 := by decide +kernel
theorem d_M_isGood_3 : decode c_M_isGood 3 = .ok (.ldc2_w 228, 3) ∧ 3 + 3 = 6 := by decide +kernel
theorem d_M_isGood_6 : decode c_M_isGood 6 = .ok (.invokestatic 201, 3) ∧ 6 + 3 = 9 := by decide +kernel
theorem d_M_isGood_9 : decode c_M_isGood 9 = .ok (.ireturn, 1) ∧ 9 + 1 = 10 := by decide +kernel
set_option maxHeartbeats 4000000 in
theorem m_M_isGood {Z : Sy} {σ : St} {res : Bool} {x0 : Int32} (hf : M_isGood x0 σ = some res) : Ct YM Z y_M_isGood c_M_isGood 1 (some .boolean) 2 [.int x0] σ (some (.int (bi res))) σ := by
  refine Ct.of pn_M (Nat.le_of_ble_eq_true rfl) rfl (fun Γ h => ?_)
  have h : IsG YM Z R_M c_M_isGood 1 2 (some .boolean) (some (.int (bi res))) σ Γ := h
  unfold M_isGood at hf
  refine r_iload_n h d_M_isGood_0 0 rfl rfl ?_
  refine r_i2l h d_M_isGood_1 ?_
  refine r_lconst h d_M_isGood_2 kl_0 ?_
  refine r_ldc2 h d_M_isGood_3 tm_1495 ?_
  obtain ⟨r6, e6, hf⟩ := q_bind hf
  refine r_callS (As := [.long (Int32.toInt64 x0), .long (0 : Int64), .long (7 : Int64)]) (rest := []) h lk_M_201 sk_M_201 d_M_isGood_6 (by decide) rfl rfl (Nat.le_of_ble_eq_true rfl) (m_M_in e6) ?_
  exact r_zreturn h d_M_isGood_9.1 (congrArg bi (Option.some.inj hf)) rfl

theorem d_M_heldOf_0 : decode c_M_heldOf 0 = .ok (.iconst 0, 1) ∧ 0 + 1 = 1 := by decide +kernel
theorem d_M_heldOf_1 : decode c_M_heldOf 1 = .ok (.istore 4, 2) ∧ 1 + 2 = 3 := by decide +kernel
theorem d_M_heldOf_3 : decode c_M_heldOf 3 = .ok (.iconst 0, 1) ∧ 3 + 1 = 4 := by decide +kernel
theorem d_M_heldOf_4 : decode c_M_heldOf 4 = .ok (.istore 5, 2) ∧ 4 + 2 = 6 := by decide +kernel
theorem d_M_heldOf_6 : decode c_M_heldOf 6 = .ok (.iload 5, 2) ∧ 6 + 2 = 8 := by decide +kernel
theorem d_M_heldOf_8 : decode c_M_heldOf 8 = .ok (.aload_n 0, 1) ∧ 8 + 1 = 9 := by decide +kernel
theorem d_M_heldOf_9 : decode c_M_heldOf 9 = .ok (.getfield 268, 3) ∧ 9 + 3 = 12 := by decide +kernel
theorem d_M_heldOf_12 : decode c_M_heldOf 12 = .ok (.if_icmp .ge 76, 3) ∧ 12 + 3 = 15 ∧ ((12 : Nat) : Int) + 76 = ((88 : Nat) : Int) := by decide +kernel
theorem d_M_heldOf_15 : decode c_M_heldOf 15 = .ok (.aload_n 0, 1) ∧ 15 + 1 = 16 := by decide +kernel
theorem d_M_heldOf_16 : decode c_M_heldOf 16 = .ok (.getfield 43, 3) ∧ 16 + 3 = 19 := by decide +kernel
theorem d_M_heldOf_19 : decode c_M_heldOf 19 = .ok (.iload 5, 2) ∧ 19 + 2 = 21 := by decide +kernel
theorem d_M_heldOf_21 : decode c_M_heldOf 21 = .ok (.iaload, 1) ∧ 21 + 1 = 22 := by decide +kernel
theorem d_M_heldOf_22 : decode c_M_heldOf 22 = .ok (.iload_n 1, 1) ∧ 22 + 1 = 23 := by decide +kernel
theorem d_M_heldOf_23 : decode c_M_heldOf 23 = .ok (.if_icmp .ne 59, 3) ∧ 23 + 3 = 26 ∧ ((23 : Nat) : Int) + 59 = ((82 : Nat) : Int) := by decide +kernel
theorem d_M_heldOf_26 : decode c_M_heldOf 26 = .ok (.aload_n 0, 1) ∧ 26 + 1 = 27 := by decide +kernel
theorem d_M_heldOf_27 : decode c_M_heldOf 27 = .ok (.getfield 49, 3) ∧ 27 + 3 = 30 := by decide +kernel
theorem d_M_heldOf_30 : decode c_M_heldOf 30 = .ok (.iload 5, 2) ∧ 30 + 2 = 32 := by decide +kernel
theorem d_M_heldOf_32 : decode c_M_heldOf 32 = .ok (.iaload, 1) ∧ 32 + 1 = 33 := by decide +kernel
theorem d_M_heldOf_33 : decode c_M_heldOf 33 = .ok (.iload_n 2, 1) ∧ 33 + 1 = 34 := by decide +kernel
theorem d_M_heldOf_34 : decode c_M_heldOf 34 = .ok (.if_icmp .ne 48, 3) ∧ 34 + 3 = 37 ∧ ((34 : Nat) : Int) + 48 = ((82 : Nat) : Int) := by decide +kernel
theorem d_M_heldOf_37 : decode c_M_heldOf 37 = .ok (.aload_n 0, 1) ∧ 37 + 1 = 38 := by decide +kernel
theorem d_M_heldOf_38 : decode c_M_heldOf 38 = .ok (.getfield 58, 3) ∧ 38 + 3 = 41 := by decide +kernel
theorem d_M_heldOf_41 : decode c_M_heldOf 41 = .ok (.iload 5, 2) ∧ 41 + 2 = 43 := by decide +kernel
theorem d_M_heldOf_43 : decode c_M_heldOf 43 = .ok (.iaload, 1) ∧ 43 + 1 = 44 := by decide +kernel
theorem d_M_heldOf_44 : decode c_M_heldOf 44 = .ok (.iload_n 3, 1) ∧ 44 + 1 = 45 := by decide +kernel
theorem d_M_heldOf_45 : decode c_M_heldOf 45 = .ok (.if_icmp .gt 37, 3) ∧ 45 + 3 = 48 ∧ ((45 : Nat) : Int) + 37 = ((82 : Nat) : Int) := by decide +kernel
theorem d_M_heldOf_48 : decode c_M_heldOf 48 = .ok (.iload 4, 2) ∧ 48 + 2 = 50 := by decide +kernel
theorem d_M_heldOf_50 : decode c_M_heldOf 50 = .ok (.aload_n 0, 1) ∧ 50 + 1 = 51 := by decide +kernel
theorem d_M_heldOf_51 : decode c_M_heldOf 51 = .ok (.getfield 46, 3) ∧ 51 + 3 = 54 := by decide +kernel
theorem d_M_heldOf_54 : decode c_M_heldOf 54 = .ok (.iload 5, 2) ∧ 54 + 2 = 56 := by decide +kernel
theorem d_M_heldOf_56 : decode c_M_heldOf 56 = .ok (.iaload, 1) ∧ 56 + 1 = 57 := by decide +kernel
theorem d_M_heldOf_57 : decode c_M_heldOf 57 = .ok (.iconst 2, 1) ∧ 57 + 1 = 58 := by decide +kernel
theorem d_M_heldOf_58 : decode c_M_heldOf 58 = .ok (.if_icmp .ge 13, 3) ∧ 58 + 3 = 61 ∧ ((58 : Nat) : Int) + 13 = ((71 : Nat) : Int) := by decide +kernel
theorem d_M_heldOf_61 : decode c_M_heldOf 61 = .ok (.aload_n 0, 1) ∧ 61 + 1 = 62 := by decide +kernel
theorem d_M_heldOf_62 : decode c_M_heldOf 62 = .ok (.getfield 52, 3) ∧ 62 + 3 = 65 := by decide +kernel
theorem d_M_heldOf_65 : decode c_M_heldOf 65 = .ok (.iload 5, 2) ∧ 65 + 2 = 67 := by decide +kernel
theorem d_M_heldOf_67 : decode c_M_heldOf 67 = .ok (.iaload, 1) ∧ 67 + 1 = 68 := by decide +kernel
theorem d_M_heldOf_68 : decode c_M_heldOf 68 = .ok (.goto 11, 3) ∧ (68 : Int) + 11 = (79 : Int) := by decide +kernel
theorem d_M_heldOf_71 : decode c_M_heldOf 71 = .ok (.aload_n 0, 1) ∧ 71 + 1 = 72 := by decide +kernel
theorem d_M_heldOf_72 : decode c_M_heldOf 72 = .ok (.getfield 52, 3) ∧ 72 + 3 = 75 := by decide +kernel
theorem d_M_heldOf_75 : decode c_M_heldOf 75 = .ok (.iload 5, 2) ∧ 75 + 2 = 77 := by decide +kernel
theorem d_M_heldOf_77 : decode c_M_heldOf 77 = .ok (.iaload, 1) ∧ 77 + 1 = 78 := by decide +kernel
theorem d_M_heldOf_78 : decode c_M_heldOf 78 = .ok (.ineg, 1) ∧ 78 + 1 = 79 := by decide +kernel
theorem d_M_heldOf_79 : decode c_M_heldOf 79 = .ok (.iadd, 1) ∧ 79 + 1 = 80 := by decide +kernel
theorem d_M_heldOf_80 : decode c_M_heldOf 80 = .ok (.istore 4, 2) ∧ 80 + 2 = 82 := by decide +kernel
theorem d_M_heldOf_82 : decode c_M_heldOf 82 = .ok (.iinc 5 1, 3) ∧ 82 + 3 = 85 := by decide +kernel
theorem d_M_heldOf_85 : decode c_M_heldOf 85 = .ok (.goto (-79), 3) ∧ (85 : Int) + (-79) = (6 : Int) := by decide +kernel
theorem d_M_heldOf_88 : decode c_M_heldOf 88 = .ok (.iload 4, 2) ∧ 88 + 2 = 90 := by decide +kernel
theorem d_M_heldOf_90 : decode c_M_heldOf 90 = .ok (.ireturn, 1) ∧ 90 + 1 = 91 := by decide +kernel
set_option maxHeartbeats 4000000 in
theorem w_M_heldOf_L6 {Z : Sy} {Γ : Nat → List (Nat × Value) → List Value → St → Prop} {res : Int32} {x1 : Int32} {x2 : Int32} {x3 : Int32} {σ : St} (h : IsG YM Z R_M c_M_heldOf 6 1 (some .int) (some (.int res)) σ Γ) : ∀ (n : Nat) (x4 : Int32) (x5 : Int32), M_heldOf_L6 x1 x2 x3 σ n x4 x5 = some res → Γ 6 [(0, .ref (ya Z 0)), (1, .int x1), (2, .int x2), (3, .int x3), (4, .int x4), (5, .int x5)] [] σ := by
  intro n
  induction n with
  | zero => intro x4 x5 hf; exact absurd hf (by simp [M_heldOf_L6])
  | succ n ih =>
    intro x4 x5 hf
    rw [M_heldOf_L6] at hf
    refine r_iload h d_M_heldOf_6 5 rfl ?_
    refine r_aload_n h d_M_heldOf_8 0 rfl rfl ?_
    refine r_getI h fd_YM_0_17 cf_M fl_M_268 d_M_heldOf_9 ?_
    refine r_icmp_ge h d_M_heldOf_12 hf (fun hf => ?_) (fun hf => ?_)
    · refine r_iload h d_M_heldOf_88 4 rfl ?_
      exact r_ireturn h d_M_heldOf_90.1 (Option.some.inj hf) rfl
    · refine r_aload_n h d_M_heldOf_15 0 rfl rfl ?_
      refine r_getR h fd_YM_0_18 cf_M fl_M_43 d_M_heldOf_16 ?_
      refine r_iload h d_M_heldOf_19 5 rfl ?_
      refine r_iald h sh_YM_12 d_M_heldOf_21 hf (fun hf => ?_)
      refine r_iload_n h d_M_heldOf_22 1 rfl rfl ?_
      refine r_icmp_ne h d_M_heldOf_23 hf (fun hf => ?_) (fun hf => ?_)
      · refine r_iinc (ls' := [(5, .int (x5 + (1 : Int32))), (0, .ref (ya Z 0)), (1, .int x1), (2, .int x2), (3, .int x3), (4, .int x4)]) h d_M_heldOf_82 5 rfl ki_1 (by decide) rfl ?_
        refine r_goto h d_M_heldOf_85 ?_
        refine r_sub h [1, 2, 3, 4, 5, 0] rfl ?_
        exact ih _ _ hf
      · refine r_aload_n h d_M_heldOf_26 0 rfl rfl ?_
        refine r_getR h fd_YM_0_20 cf_M fl_M_49 d_M_heldOf_27 ?_
        refine r_iload h d_M_heldOf_30 5 rfl ?_
        refine r_iald h sh_YM_14 d_M_heldOf_32 hf (fun hf => ?_)
        refine r_iload_n h d_M_heldOf_33 2 rfl rfl ?_
        refine r_icmp_ne h d_M_heldOf_34 hf (fun hf => ?_) (fun hf => ?_)
        · refine r_iinc (ls' := [(5, .int (x5 + (1 : Int32))), (0, .ref (ya Z 0)), (1, .int x1), (2, .int x2), (3, .int x3), (4, .int x4)]) h d_M_heldOf_82 5 rfl ki_1 (by decide) rfl ?_
          refine r_goto h d_M_heldOf_85 ?_
          refine r_sub h [1, 2, 3, 4, 5, 0] rfl ?_
          exact ih _ _ hf
        · refine r_aload_n h d_M_heldOf_37 0 rfl rfl ?_
          refine r_getR h fd_YM_0_23 cf_M fl_M_58 d_M_heldOf_38 ?_
          refine r_iload h d_M_heldOf_41 5 rfl ?_
          refine r_iald h sh_YM_17 d_M_heldOf_43 hf (fun hf => ?_)
          refine r_iload_n h d_M_heldOf_44 3 rfl rfl ?_
          refine r_icmp_gt h d_M_heldOf_45 hf (fun hf => ?_) (fun hf => ?_)
          · refine r_iinc (ls' := [(5, .int (x5 + (1 : Int32))), (0, .ref (ya Z 0)), (1, .int x1), (2, .int x2), (3, .int x3), (4, .int x4)]) h d_M_heldOf_82 5 rfl ki_1 (by decide) rfl ?_
            refine r_goto h d_M_heldOf_85 ?_
            refine r_sub h [1, 2, 3, 4, 5, 0] rfl ?_
            exact ih _ _ hf
          · refine r_iload h d_M_heldOf_48 4 rfl ?_
            refine r_aload_n h d_M_heldOf_50 0 rfl rfl ?_
            refine r_getR h fd_YM_0_19 cf_M fl_M_46 d_M_heldOf_51 ?_
            refine r_iload h d_M_heldOf_54 5 rfl ?_
            refine r_iald h sh_YM_13 d_M_heldOf_56 hf (fun hf => ?_)
            refine r_iconst h d_M_heldOf_57 ki_2 ?_
            refine r_icmp_ge h d_M_heldOf_58 hf (fun hf => ?_) (fun hf => ?_)
            · refine r_aload_n h d_M_heldOf_71 0 rfl rfl ?_
              refine r_getR h fd_YM_0_21 cf_M fl_M_52 d_M_heldOf_72 ?_
              refine r_iload h d_M_heldOf_75 5 rfl ?_
              refine r_iald h sh_YM_15 d_M_heldOf_77 hf (fun hf => ?_)
              refine r_ineg h d_M_heldOf_78 ?_
              refine r_iadd h d_M_heldOf_79 ?_
              refine r_istore (ls' := [(4, .int (x4 + (-(σ.1 15 (Int32.toNatClampNeg x5))))), (0, .ref (ya Z 0)), (1, .int x1), (2, .int x2), (3, .int x3), (5, .int x5)]) h d_M_heldOf_80 (by decide) rfl ?_
              refine r_iinc (ls' := [(5, .int (x5 + (1 : Int32))), (4, .int (x4 + (-(σ.1 15 (Int32.toNatClampNeg x5))))), (0, .ref (ya Z 0)), (1, .int x1), (2, .int x2), (3, .int x3)]) h d_M_heldOf_82 5 rfl ki_1 (by decide) rfl ?_
              refine r_goto h d_M_heldOf_85 ?_
              refine r_sub h [2, 3, 4, 5, 1, 0] rfl ?_
              exact ih _ _ hf
            · refine r_aload_n h d_M_heldOf_61 0 rfl rfl ?_
              refine r_getR h fd_YM_0_21 cf_M fl_M_52 d_M_heldOf_62 ?_
              refine r_iload h d_M_heldOf_65 5 rfl ?_
              refine r_iald h sh_YM_15 d_M_heldOf_67 hf (fun hf => ?_)
              refine r_goto h d_M_heldOf_68 ?_
              refine r_iadd h d_M_heldOf_79 ?_
              refine r_istore (ls' := [(4, .int (x4 + (σ.1 15 (Int32.toNatClampNeg x5)))), (0, .ref (ya Z 0)), (1, .int x1), (2, .int x2), (3, .int x3), (5, .int x5)]) h d_M_heldOf_80 (by decide) rfl ?_
              refine r_iinc (ls' := [(5, .int (x5 + (1 : Int32))), (4, .int (x4 + (σ.1 15 (Int32.toNatClampNeg x5)))), (0, .ref (ya Z 0)), (1, .int x1), (2, .int x2), (3, .int x3)]) h d_M_heldOf_82 5 rfl ki_1 (by decide) rfl ?_
              refine r_goto h d_M_heldOf_85 ?_
              refine r_sub h [2, 3, 4, 5, 1, 0] rfl ?_
              exact ih _ _ hf

set_option maxHeartbeats 4000000 in
theorem m_M_heldOf {Z : Sy} {σ : St} {res : Int32} {x1 : Int32} {x2 : Int32} {x3 : Int32} (hf : M_heldOf x1 x2 x3 σ = some res) : Ct YM Z y_M_heldOf c_M_heldOf 6 (some .int) 1 [.ref (ya Z 0), .int x1, .int x2, .int x3] σ (some (.int res)) σ := by
  refine Ct.of pn_M (Nat.le_of_ble_eq_true rfl) rfl (fun Γ h => ?_)
  have h : IsG YM Z R_M c_M_heldOf 6 1 (some .int) (some (.int res)) σ Γ := h
  unfold M_heldOf at hf
  refine r_iconst h d_M_heldOf_0 ki_0 ?_
  refine r_istore (ls' := [(4, .int (0 : Int32)), (0, .ref (ya Z 0)), (1, .int x1), (2, .int x2), (3, .int x3)]) h d_M_heldOf_1 (by decide) rfl ?_
  refine r_iconst h d_M_heldOf_3 ki_0 ?_
  refine r_istore (ls' := [(5, .int (0 : Int32)), (4, .int (0 : Int32)), (0, .ref (ya Z 0)), (1, .int x1), (2, .int x2), (3, .int x3)]) h d_M_heldOf_4 (by decide) rfl ?_
  refine r_sub h [2, 3, 4, 5, 1, 0] rfl ?_
  exact w_M_heldOf_L6 h _ _ _ hf

theorem d_M_addEntry_0 : decode c_M_addEntry 0 = .ok (.iload_n 2, 1) ∧ 0 + 1 = 1 := by decide +kernel
theorem d_M_addEntry_1 : decode c_M_addEntry 1 = .ok (.i2l, 1) ∧ 1 + 1 = 2 := by decide +kernel
theorem d_M_addEntry_2 : decode c_M_addEntry 2 = .ok (.lconst 0, 1) ∧ 2 + 1 = 3 := by decide +kernel
theorem d_M_addEntry_3 : decode c_M_addEntry 3 = .ok (.ldc2_w 266, 3) ∧ 3 + 3 = 6 := by decide +kernel
theorem d_M_addEntry_6 : decode c_M_addEntry 6 = .ok (.invokestatic 201, 3) ∧ 6 + 3 = 9 := by decide +kernel
theorem d_M_addEntry_9 : decode c_M_addEntry 9 = .ok (.istore 7, 2) ∧ 9 + 2 = 11 := by decide +kernel
theorem d_M_addEntry_11 : decode c_M_addEntry 11 = .ok (.iload_n 2, 1) ∧ 11 + 1 = 12 := by decide +kernel
theorem d_M_addEntry_12 : decode c_M_addEntry 12 = .ok (.i2l, 1) ∧ 12 + 1 = 13 := by decide +kernel
theorem d_M_addEntry_13 : decode c_M_addEntry 13 = .ok (.lconst 0, 1) ∧ 13 + 1 = 14 := by decide +kernel
theorem d_M_addEntry_14 : decode c_M_addEntry 14 = .ok (.ldc2_w 271, 3) ∧ 14 + 3 = 17 := by decide +kernel
theorem d_M_addEntry_17 : decode c_M_addEntry 17 = .ok (.invokestatic 201, 3) ∧ 17 + 3 = 20 := by decide +kernel
theorem d_M_addEntry_20 : decode c_M_addEntry 20 = .ok (.ifCond .eq 49, 3) ∧ 20 + 3 = 23 ∧ ((20 : Nat) : Int) + 49 = ((69 : Nat) : Int) := by decide +kernel
theorem d_M_addEntry_23 : decode c_M_addEntry 23 = .ok (.iload_n 3, 1) ∧ 23 + 1 = 24 := by decide +kernel
theorem d_M_addEntry_24 : decode c_M_addEntry 24 = .ok (.invokestatic 273, 3) ∧ 24 + 3 = 27 := by decide +kernel
theorem d_M_addEntry_27 : decode c_M_addEntry 27 = .ok (.ifCond .eq 42, 3) ∧ 27 + 3 = 30 ∧ ((27 : Nat) : Int) + 42 = ((69 : Nat) : Int) := by decide +kernel
theorem d_M_addEntry_30 : decode c_M_addEntry 30 = .ok (.iload 4, 2) ∧ 30 + 2 = 32 := by decide +kernel
theorem d_M_addEntry_32 : decode c_M_addEntry 32 = .ok (.i2l, 1) ∧ 32 + 1 = 33 := by decide +kernel
theorem d_M_addEntry_33 : decode c_M_addEntry 33 = .ok (.lconst 1, 1) ∧ 33 + 1 = 34 := by decide +kernel
theorem d_M_addEntry_34 : decode c_M_addEntry 34 = .ok (.ldc2_w 276, 3) ∧ 34 + 3 = 37 := by decide +kernel
theorem d_M_addEntry_37 : decode c_M_addEntry 37 = .ok (.invokestatic 201, 3) ∧ 37 + 3 = 40 := by decide +kernel
theorem d_M_addEntry_40 : decode c_M_addEntry 40 = .ok (.ifCond .eq 29, 3) ∧ 40 + 3 = 43 ∧ ((40 : Nat) : Int) + 29 = ((69 : Nat) : Int) := by decide +kernel
theorem d_M_addEntry_43 : decode c_M_addEntry 43 = .ok (.iload 7, 2) ∧ 43 + 2 = 45 := by decide +kernel
theorem d_M_addEntry_45 : decode c_M_addEntry 45 = .ok (.ifCond .eq 16, 3) ∧ 45 + 3 = 48 ∧ ((45 : Nat) : Int) + 16 = ((61 : Nat) : Int) := by decide +kernel
theorem d_M_addEntry_48 : decode c_M_addEntry 48 = .ok (.iload 5, 2) ∧ 48 + 2 = 50 := by decide +kernel
theorem d_M_addEntry_50 : decode c_M_addEntry 50 = .ok (.i2l, 1) ∧ 50 + 1 = 51 := by decide +kernel
theorem d_M_addEntry_51 : decode c_M_addEntry 51 = .ok (.lconst 0, 1) ∧ 51 + 1 = 52 := by decide +kernel
theorem d_M_addEntry_52 : decode c_M_addEntry 52 = .ok (.ldc2_w 278, 3) ∧ 52 + 3 = 55 := by decide +kernel
theorem d_M_addEntry_55 : decode c_M_addEntry 55 = .ok (.invokestatic 201, 3) ∧ 55 + 3 = 58 := by decide +kernel
theorem d_M_addEntry_58 : decode c_M_addEntry 58 = .ok (.ifCond .eq 11, 3) ∧ 58 + 3 = 61 ∧ ((58 : Nat) : Int) + 11 = ((69 : Nat) : Int) := by decide +kernel
theorem d_M_addEntry_61 : decode c_M_addEntry 61 = .ok (.iload 6, 2) ∧ 61 + 2 = 63 := by decide +kernel
theorem d_M_addEntry_63 : decode c_M_addEntry 63 = .ok (.invokestatic 205, 3) ∧ 63 + 3 = 66 := by decide +kernel
theorem d_M_addEntry_66 : decode c_M_addEntry 66 = .ok (.ifCond .ne 6, 3) ∧ 66 + 3 = 69 ∧ ((66 : Nat) : Int) + 6 = ((72 : Nat) : Int) := by decide +kernel
theorem d_M_addEntry_69 : decode c_M_addEntry 69 = .ok (.bipush (-2), 2) ∧ 69 + 2 = 71 := by decide +kernel
theorem d_M_addEntry_71 : decode c_M_addEntry 71 = .ok (.ireturn, 1) ∧ 71 + 1 = 72 := by decide +kernel
theorem d_M_addEntry_72 : decode c_M_addEntry 72 = .ok (.iconst 0, 1) ∧ 72 + 1 = 73 := by decide +kernel
theorem d_M_addEntry_73 : decode c_M_addEntry 73 = .ok (.istore 8, 2) ∧ 73 + 2 = 75 := by decide +kernel
theorem d_M_addEntry_75 : decode c_M_addEntry 75 = .ok (.iload 8, 2) ∧ 75 + 2 = 77 := by decide +kernel
theorem d_M_addEntry_77 : decode c_M_addEntry 77 = .ok (.aload_n 0, 1) ∧ 77 + 1 = 78 := by decide +kernel
theorem d_M_addEntry_78 : decode c_M_addEntry 78 = .ok (.getfield 268, 3) ∧ 78 + 3 = 81 := by decide +kernel
theorem d_M_addEntry_81 : decode c_M_addEntry 81 = .ok (.if_icmp .ge 35, 3) ∧ 81 + 3 = 84 ∧ ((81 : Nat) : Int) + 35 = ((116 : Nat) : Int) := by decide +kernel
theorem d_M_addEntry_84 : decode c_M_addEntry 84 = .ok (.aload_n 0, 1) ∧ 84 + 1 = 85 := by decide +kernel
theorem d_M_addEntry_85 : decode c_M_addEntry 85 = .ok (.getfield 43, 3) ∧ 85 + 3 = 88 := by decide +kernel
theorem d_M_addEntry_88 : decode c_M_addEntry 88 = .ok (.iload 8, 2) ∧ 88 + 2 = 90 := by decide +kernel
theorem d_M_addEntry_90 : decode c_M_addEntry 90 = .ok (.iaload, 1) ∧ 90 + 1 = 91 := by decide +kernel
theorem d_M_addEntry_91 : decode c_M_addEntry 91 = .ok (.iload_n 1, 1) ∧ 91 + 1 = 92 := by decide +kernel
theorem d_M_addEntry_92 : decode c_M_addEntry 92 = .ok (.if_icmp .ne 18, 3) ∧ 92 + 3 = 95 ∧ ((92 : Nat) : Int) + 18 = ((110 : Nat) : Int) := by decide +kernel
theorem d_M_addEntry_95 : decode c_M_addEntry 95 = .ok (.aload_n 0, 1) ∧ 95 + 1 = 96 := by decide +kernel
theorem d_M_addEntry_96 : decode c_M_addEntry 96 = .ok (.getfield 58, 3) ∧ 96 + 3 = 99 := by decide +kernel
theorem d_M_addEntry_99 : decode c_M_addEntry 99 = .ok (.iload 8, 2) ∧ 99 + 2 = 101 := by decide +kernel
theorem d_M_addEntry_101 : decode c_M_addEntry 101 = .ok (.iaload, 1) ∧ 101 + 1 = 102 := by decide +kernel
theorem d_M_addEntry_102 : decode c_M_addEntry 102 = .ok (.iload 6, 2) ∧ 102 + 2 = 104 := by decide +kernel
theorem d_M_addEntry_104 : decode c_M_addEntry 104 = .ok (.if_icmp .le 6, 3) ∧ 104 + 3 = 107 ∧ ((104 : Nat) : Int) + 6 = ((110 : Nat) : Int) := by decide +kernel
theorem d_M_addEntry_107 : decode c_M_addEntry 107 = .ok (.bipush (-3), 2) ∧ 107 + 2 = 109 := by decide +kernel
theorem d_M_addEntry_109 : decode c_M_addEntry 109 = .ok (.ireturn, 1) ∧ 109 + 1 = 110 := by decide +kernel
theorem d_M_addEntry_110 : decode c_M_addEntry 110 = .ok (.iinc 8 1, 3) ∧ 110 + 3 = 113 := by decide +kernel
theorem d_M_addEntry_113 : decode c_M_addEntry 113 = .ok (.goto (-38), 3) ∧ (113 : Int) + (-38) = (75 : Int) := by decide +kernel
theorem d_M_addEntry_116 : decode c_M_addEntry 116 = .ok (.iload_n 2, 1) ∧ 116 + 1 = 117 := by decide +kernel
theorem d_M_addEntry_117 : decode c_M_addEntry 117 = .ok (.iconst 1, 1) ∧ 117 + 1 = 118 := by decide +kernel
theorem d_M_addEntry_118 : decode c_M_addEntry 118 = .ok (.if_icmp .le 20, 3) ∧ 118 + 3 = 121 ∧ ((118 : Nat) : Int) + 20 = ((138 : Nat) : Int) := by decide +kernel
theorem d_M_addEntry_121 : decode c_M_addEntry 121 = .ok (.aload_n 0, 1) ∧ 121 + 1 = 122 := by decide +kernel
theorem d_M_addEntry_122 : decode c_M_addEntry 122 = .ok (.iload_n 1, 1) ∧ 122 + 1 = 123 := by decide +kernel
theorem d_M_addEntry_123 : decode c_M_addEntry 123 = .ok (.iload_n 3, 1) ∧ 123 + 1 = 124 := by decide +kernel
theorem d_M_addEntry_124 : decode c_M_addEntry 124 = .ok (.sipush 9999, 3) ∧ 124 + 3 = 127 := by decide +kernel
theorem d_M_addEntry_127 : decode c_M_addEntry 127 = .ok (.invokevirtual 280, 3) ∧ 127 + 3 = 130 := by decide +kernel
theorem d_M_addEntry_130 : decode c_M_addEntry 130 = .ok (.iload 4, 2) ∧ 130 + 2 = 132 := by decide +kernel
theorem d_M_addEntry_132 : decode c_M_addEntry 132 = .ok (.if_icmp .ge 6, 3) ∧ 132 + 3 = 135 ∧ ((132 : Nat) : Int) + 6 = ((138 : Nat) : Int) := by decide +kernel
theorem d_M_addEntry_135 : decode c_M_addEntry 135 = .ok (.bipush (-3), 2) ∧ 135 + 2 = 137 := by decide +kernel
theorem d_M_addEntry_137 : decode c_M_addEntry 137 = .ok (.ireturn, 1) ∧ 137 + 1 = 138 := by decide +kernel
theorem d_M_addEntry_138 : decode c_M_addEntry 138 = .ok (.aload_n 0, 1) ∧ 138 + 1 = 139 := by decide +kernel
theorem d_M_addEntry_139 : decode c_M_addEntry 139 = .ok (.getfield 268, 3) ∧ 139 + 3 = 142 := by decide +kernel
theorem d_M_addEntry_142 : decode c_M_addEntry 142 = .ok (.bipush 60, 2) ∧ 142 + 2 = 144 := by decide +kernel
theorem d_M_addEntry_144 : decode c_M_addEntry 144 = .ok (.if_icmp .ne 6, 3) ∧ 144 + 3 = 147 ∧ ((144 : Nat) : Int) + 6 = ((150 : Nat) : Int) := by decide +kernel
theorem d_M_addEntry_147 : decode c_M_addEntry 147 = .ok (.bipush (-4), 2) ∧ 147 + 2 = 149 := by decide +kernel
theorem d_M_addEntry_149 : decode c_M_addEntry 149 = .ok (.ireturn, 1) ∧ 149 + 1 = 150 := by decide +kernel
theorem d_M_addEntry_150 : decode c_M_addEntry 150 = .ok (.aload_n 0, 1) ∧ 150 + 1 = 151 := by decide +kernel
theorem d_M_addEntry_151 : decode c_M_addEntry 151 = .ok (.getfield 43, 3) ∧ 151 + 3 = 154 := by decide +kernel
theorem d_M_addEntry_154 : decode c_M_addEntry 154 = .ok (.aload_n 0, 1) ∧ 154 + 1 = 155 := by decide +kernel
theorem d_M_addEntry_155 : decode c_M_addEntry 155 = .ok (.getfield 268, 3) ∧ 155 + 3 = 158 := by decide +kernel
theorem d_M_addEntry_158 : decode c_M_addEntry 158 = .ok (.iload_n 1, 1) ∧ 158 + 1 = 159 := by decide +kernel
theorem d_M_addEntry_159 : decode c_M_addEntry 159 = .ok (.iastore, 1) ∧ 159 + 1 = 160 := by decide +kernel
theorem d_M_addEntry_160 : decode c_M_addEntry 160 = .ok (.aload_n 0, 1) ∧ 160 + 1 = 161 := by decide +kernel
theorem d_M_addEntry_161 : decode c_M_addEntry 161 = .ok (.getfield 46, 3) ∧ 161 + 3 = 164 := by decide +kernel
theorem d_M_addEntry_164 : decode c_M_addEntry 164 = .ok (.aload_n 0, 1) ∧ 164 + 1 = 165 := by decide +kernel
theorem d_M_addEntry_165 : decode c_M_addEntry 165 = .ok (.getfield 268, 3) ∧ 165 + 3 = 168 := by decide +kernel
theorem d_M_addEntry_168 : decode c_M_addEntry 168 = .ok (.iload_n 2, 1) ∧ 168 + 1 = 169 := by decide +kernel
theorem d_M_addEntry_169 : decode c_M_addEntry 169 = .ok (.iastore, 1) ∧ 169 + 1 = 170 := by decide +kernel
theorem d_M_addEntry_170 : decode c_M_addEntry 170 = .ok (.aload_n 0, 1) ∧ 170 + 1 = 171 := by decide +kernel
theorem d_M_addEntry_171 : decode c_M_addEntry 171 = .ok (.getfield 49, 3) ∧ 171 + 3 = 174 := by decide +kernel
theorem d_M_addEntry_174 : decode c_M_addEntry 174 = .ok (.aload_n 0, 1) ∧ 174 + 1 = 175 := by decide +kernel
theorem d_M_addEntry_175 : decode c_M_addEntry 175 = .ok (.getfield 268, 3) ∧ 175 + 3 = 178 := by decide +kernel
theorem d_M_addEntry_178 : decode c_M_addEntry 178 = .ok (.iload_n 3, 1) ∧ 178 + 1 = 179 := by decide +kernel
theorem d_M_addEntry_179 : decode c_M_addEntry 179 = .ok (.iastore, 1) ∧ 179 + 1 = 180 := by decide +kernel
theorem d_M_addEntry_180 : decode c_M_addEntry 180 = .ok (.aload_n 0, 1) ∧ 180 + 1 = 181 := by decide +kernel
theorem d_M_addEntry_181 : decode c_M_addEntry 181 = .ok (.getfield 52, 3) ∧ 181 + 3 = 184 := by decide +kernel
theorem d_M_addEntry_184 : decode c_M_addEntry 184 = .ok (.aload_n 0, 1) ∧ 184 + 1 = 185 := by decide +kernel
theorem d_M_addEntry_185 : decode c_M_addEntry 185 = .ok (.getfield 268, 3) ∧ 185 + 3 = 188 := by decide +kernel
theorem d_M_addEntry_188 : decode c_M_addEntry 188 = .ok (.iload 4, 2) ∧ 188 + 2 = 190 := by decide +kernel
theorem d_M_addEntry_190 : decode c_M_addEntry 190 = .ok (.iastore, 1) ∧ 190 + 1 = 191 := by decide +kernel
theorem d_M_addEntry_191 : decode c_M_addEntry 191 = .ok (.aload_n 0, 1) ∧ 191 + 1 = 192 := by decide +kernel
theorem d_M_addEntry_192 : decode c_M_addEntry 192 = .ok (.getfield 55, 3) ∧ 192 + 3 = 195 := by decide +kernel
theorem d_M_addEntry_195 : decode c_M_addEntry 195 = .ok (.aload_n 0, 1) ∧ 195 + 1 = 196 := by decide +kernel
theorem d_M_addEntry_196 : decode c_M_addEntry 196 = .ok (.getfield 268, 3) ∧ 196 + 3 = 199 := by decide +kernel
theorem d_M_addEntry_199 : decode c_M_addEntry 199 = .ok (.iload 7, 2) ∧ 199 + 2 = 201 := by decide +kernel
theorem d_M_addEntry_201 : decode c_M_addEntry 201 = .ok (.ifCond .eq 8, 3) ∧ 201 + 3 = 204 ∧ ((201 : Nat) : Int) + 8 = ((209 : Nat) : Int) := by decide +kernel
theorem d_M_addEntry_204 : decode c_M_addEntry 204 = .ok (.iload 5, 2) ∧ 204 + 2 = 206 := by decide +kernel
theorem d_M_addEntry_206 : decode c_M_addEntry 206 = .ok (.goto 4, 3) ∧ (206 : Int) + 4 = (210 : Int) := by decide +kernel
theorem d_M_addEntry_209 : decode c_M_addEntry 209 = .ok (.iconst 0, 1) ∧ 209 + 1 = 210 := by decide +kernel
theorem d_M_addEntry_210 : decode c_M_addEntry 210 = .ok (.iastore, 1) ∧ 210 + 1 = 211 := by decide +kernel
theorem d_M_addEntry_211 : decode c_M_addEntry 211 = .ok (.aload_n 0, 1) ∧ 211 + 1 = 212 := by decide +kernel
theorem d_M_addEntry_212 : decode c_M_addEntry 212 = .ok (.getfield 58, 3) ∧ 212 + 3 = 215 := by decide +kernel
theorem d_M_addEntry_215 : decode c_M_addEntry 215 = .ok (.aload_n 0, 1) ∧ 215 + 1 = 216 := by decide +kernel
theorem d_M_addEntry_216 : decode c_M_addEntry 216 = .ok (.getfield 268, 3) ∧ 216 + 3 = 219 := by decide +kernel
theorem d_M_addEntry_219 : decode c_M_addEntry 219 = .ok (.iload 6, 2) ∧ 219 + 2 = 221 := by decide +kernel
theorem d_M_addEntry_221 : decode c_M_addEntry 221 = .ok (.iastore, 1) ∧ 221 + 1 = 222 := by decide +kernel
theorem d_M_addEntry_222 : decode c_M_addEntry 222 = .ok (.aload_n 0, 1) ∧ 222 + 1 = 223 := by decide +kernel
theorem d_M_addEntry_223 : decode c_M_addEntry 223 = .ok (.dup, 1) ∧ 223 + 1 = 224 := by decide +kernel
theorem d_M_addEntry_224 : decode c_M_addEntry 224 = .ok (.getfield 268, 3) ∧ 224 + 3 = 227 := by decide +kernel
theorem d_M_addEntry_227 : decode c_M_addEntry 227 = .ok (.iconst 1, 1) ∧ 227 + 1 = 228 := by decide +kernel
theorem d_M_addEntry_228 : decode c_M_addEntry 228 = .ok (.iadd, 1) ∧ 228 + 1 = 229 := by decide +kernel
theorem d_M_addEntry_229 : decode c_M_addEntry 229 = .ok (.putfield 268, 3) ∧ 229 + 3 = 232 := by decide +kernel
theorem d_M_addEntry_232 : decode c_M_addEntry 232 = .ok (.aload_n 0, 1) ∧ 232 + 1 = 233 := by decide +kernel
theorem d_M_addEntry_233 : decode c_M_addEntry 233 = .ok (.getfield 268, 3) ∧ 233 + 3 = 236 := by decide +kernel
theorem d_M_addEntry_236 : decode c_M_addEntry 236 = .ok (.iconst 1, 1) ∧ 236 + 1 = 237 := by decide +kernel
theorem d_M_addEntry_237 : decode c_M_addEntry 237 = .ok (.isub, 1) ∧ 237 + 1 = 238 := by decide +kernel
theorem d_M_addEntry_238 : decode c_M_addEntry 238 = .ok (.ireturn, 1) ∧ 238 + 1 = 239 := by decide +kernel
set_option maxHeartbeats 4000000 in
theorem w_M_addEntry_L75 {Z : Sy} {Γ : Nat → List (Nat × Value) → List Value → St → Prop} {res : (Int32 × St)} {x1 : Int32} {x2 : Int32} {x3 : Int32} {x4 : Int32} {x5 : Int32} {x6 : Int32} {x7 : Int32} {σ : St} (h : IsG YM Z R_M c_M_addEntry 9 3 (some .int) (some (.int res.1)) res.2 Γ) : ∀ (n : Nat) (x8 : Int32), M_addEntry_L75 x1 x2 x3 x4 x5 x6 x7 σ n x8 = some res → Γ 75 [(0, .ref (ya Z 0)), (1, .int x1), (2, .int x2), (3, .int x3), (4, .int x4), (5, .int x5), (6, .int x6), (7, .int x7), (8, .int x8)] [] σ := by
  intro n
  induction n with
  | zero => intro x8 hf; exact absurd hf (by simp [M_addEntry_L75])
  | succ n ih =>
    intro x8 hf
    rw [M_addEntry_L75] at hf
    refine r_iload h d_M_addEntry_75 8 rfl ?_
    refine r_aload_n h d_M_addEntry_77 0 rfl rfl ?_
    refine r_getI h fd_YM_0_17 cf_M fl_M_268 d_M_addEntry_78 ?_
    refine r_icmp_ge h d_M_addEntry_81 hf (fun hf => ?_) (fun hf => ?_)
    · refine r_iload_n h d_M_addEntry_116 2 rfl rfl ?_
      refine r_iconst h d_M_addEntry_117 ki_1 ?_
      refine r_icmp_le h d_M_addEntry_118 hf (fun hf => ?_) (fun hf => ?_)
      · refine r_aload_n h d_M_addEntry_138 0 rfl rfl ?_
        refine r_getI h fd_YM_0_17 cf_M fl_M_268 d_M_addEntry_139 ?_
        refine r_bipush h d_M_addEntry_142 kb_60 ?_
        refine r_icmp_ne h d_M_addEntry_144 hf (fun hf => ?_) (fun hf => ?_)
        · refine r_aload_n h d_M_addEntry_150 0 rfl rfl ?_
          refine r_getR h fd_YM_0_18 cf_M fl_M_43 d_M_addEntry_151 ?_
          refine r_aload_n h d_M_addEntry_154 0 rfl rfl ?_
          refine r_getI h fd_YM_0_17 cf_M fl_M_268 d_M_addEntry_155 ?_
          refine r_iload_n h d_M_addEntry_158 1 rfl rfl ?_
          refine r_iast h sh_YM_12 d_M_addEntry_159 hf (fun hf => ?_)
          refine r_aload_n h d_M_addEntry_160 0 rfl rfl ?_
          refine r_getR h fd_YM_0_19 cf_M fl_M_46 d_M_addEntry_161 ?_
          refine r_aload_n h d_M_addEntry_164 0 rfl rfl ?_
          refine r_getIv (v := (σ.1 0 17)) h fd_YM_0_17 cf_M fl_M_268 d_M_addEntry_165 rfl ?_
          refine r_iload_n h d_M_addEntry_168 2 rfl rfl ?_
          refine r_iast h sh_YM_13 d_M_addEntry_169 hf (fun hf => ?_)
          refine r_aload_n h d_M_addEntry_170 0 rfl rfl ?_
          refine r_getR h fd_YM_0_20 cf_M fl_M_49 d_M_addEntry_171 ?_
          refine r_aload_n h d_M_addEntry_174 0 rfl rfl ?_
          refine r_getIv (v := (σ.1 0 17)) h fd_YM_0_17 cf_M fl_M_268 d_M_addEntry_175 rfl ?_
          refine r_iload_n h d_M_addEntry_178 3 rfl rfl ?_
          refine r_iast h sh_YM_14 d_M_addEntry_179 hf (fun hf => ?_)
          refine r_aload_n h d_M_addEntry_180 0 rfl rfl ?_
          refine r_getR h fd_YM_0_21 cf_M fl_M_52 d_M_addEntry_181 ?_
          refine r_aload_n h d_M_addEntry_184 0 rfl rfl ?_
          refine r_getIv (v := (σ.1 0 17)) h fd_YM_0_17 cf_M fl_M_268 d_M_addEntry_185 rfl ?_
          refine r_iload h d_M_addEntry_188 4 rfl ?_
          refine r_iast h sh_YM_15 d_M_addEntry_190 hf (fun hf => ?_)
          refine r_aload_n h d_M_addEntry_191 0 rfl rfl ?_
          refine r_getR h fd_YM_0_22 cf_M fl_M_55 d_M_addEntry_192 ?_
          refine r_aload_n h d_M_addEntry_195 0 rfl rfl ?_
          refine r_getIv (v := (σ.1 0 17)) h fd_YM_0_17 cf_M fl_M_268 d_M_addEntry_196 rfl ?_
          refine r_iload h d_M_addEntry_199 7 rfl ?_
          refine r_if_eq h d_M_addEntry_201 hf (fun hf => ?_) (fun hf => ?_)
          · refine r_iconst h d_M_addEntry_209 ki_0 ?_
            refine r_iast h sh_YM_16 d_M_addEntry_210 hf (fun hf => ?_)
            refine r_aload_n h d_M_addEntry_211 0 rfl rfl ?_
            refine r_getR h fd_YM_0_23 cf_M fl_M_58 d_M_addEntry_212 ?_
            refine r_aload_n h d_M_addEntry_215 0 rfl rfl ?_
            refine r_getIv (v := (σ.1 0 17)) h fd_YM_0_17 cf_M fl_M_268 d_M_addEntry_216 rfl ?_
            refine r_iload h d_M_addEntry_219 6 rfl ?_
            refine r_iast h sh_YM_17 d_M_addEntry_221 hf (fun hf => ?_)
            refine r_aload_n h d_M_addEntry_222 0 rfl rfl ?_
            refine r_dup h d_M_addEntry_223 rfl ?_
            refine r_getIv (v := (σ.1 0 17)) h fd_YM_0_17 cf_M fl_M_268 d_M_addEntry_224 rfl ?_
            refine r_iconst h d_M_addEntry_227 ki_1 ?_
            refine r_iadd h d_M_addEntry_228 ?_
            refine r_putI h fd_YM_0_17 cf_M fl_M_268 ⟨rfl, rfl⟩ d_M_addEntry_229 ?_
            refine r_aload_n h d_M_addEntry_232 0 rfl rfl ?_
            refine r_getIv (v := ((σ.1 0 17) + (1 : Int32))) h fd_YM_0_17 cf_M fl_M_268 d_M_addEntry_233 rfl ?_
            refine r_iconst h d_M_addEntry_236 ki_1 ?_
            refine r_isub h d_M_addEntry_237 ?_
            exact r_ireturn h d_M_addEntry_238.1 (q_p1 hf) (q_p2 hf)
          · refine r_iload h d_M_addEntry_204 5 rfl ?_
            refine r_goto h d_M_addEntry_206 ?_
            refine r_iast h sh_YM_16 d_M_addEntry_210 hf (fun hf => ?_)
            refine r_aload_n h d_M_addEntry_211 0 rfl rfl ?_
            refine r_getR h fd_YM_0_23 cf_M fl_M_58 d_M_addEntry_212 ?_
            refine r_aload_n h d_M_addEntry_215 0 rfl rfl ?_
            refine r_getIv (v := (σ.1 0 17)) h fd_YM_0_17 cf_M fl_M_268 d_M_addEntry_216 rfl ?_
            refine r_iload h d_M_addEntry_219 6 rfl ?_
            refine r_iast h sh_YM_17 d_M_addEntry_221 hf (fun hf => ?_)
            refine r_aload_n h d_M_addEntry_222 0 rfl rfl ?_
            refine r_dup h d_M_addEntry_223 rfl ?_
            refine r_getIv (v := (σ.1 0 17)) h fd_YM_0_17 cf_M fl_M_268 d_M_addEntry_224 rfl ?_
            refine r_iconst h d_M_addEntry_227 ki_1 ?_
            refine r_iadd h d_M_addEntry_228 ?_
            refine r_putI h fd_YM_0_17 cf_M fl_M_268 ⟨rfl, rfl⟩ d_M_addEntry_229 ?_
            refine r_aload_n h d_M_addEntry_232 0 rfl rfl ?_
            refine r_getIv (v := ((σ.1 0 17) + (1 : Int32))) h fd_YM_0_17 cf_M fl_M_268 d_M_addEntry_233 rfl ?_
            refine r_iconst h d_M_addEntry_236 ki_1 ?_
            refine r_isub h d_M_addEntry_237 ?_
            exact r_ireturn h d_M_addEntry_238.1 (q_p1 hf) (q_p2 hf)
        · refine r_bipush h d_M_addEntry_147 kb_m4 ?_
          exact r_ireturn h d_M_addEntry_149.1 (q_p1 hf) (q_p2 hf)
      · refine r_aload_n h d_M_addEntry_121 0 rfl rfl ?_
        refine r_iload_n h d_M_addEntry_122 1 rfl rfl ?_
        refine r_iload_n h d_M_addEntry_123 3 rfl rfl ?_
        refine r_sipush h d_M_addEntry_124 ks_9999 ?_
        obtain ⟨r127, e127, hf⟩ := q_bind hf
        refine r_callV (As := [.int x1, .int x3, .int (9999 : Int32)]) (rest := []) h sh_YM_0 lk_M_280 vk_M_280 d_M_addEntry_127 (by decide) rfl rfl (Nat.le_of_ble_eq_true rfl) (m_M_heldOf e127) ?_
        refine r_iload h d_M_addEntry_130 4 rfl ?_
        refine r_icmp_ge h d_M_addEntry_132 hf (fun hf => ?_) (fun hf => ?_)
        · refine r_aload_n h d_M_addEntry_138 0 rfl rfl ?_
          refine r_getI h fd_YM_0_17 cf_M fl_M_268 d_M_addEntry_139 ?_
          refine r_bipush h d_M_addEntry_142 kb_60 ?_
          refine r_icmp_ne h d_M_addEntry_144 hf (fun hf => ?_) (fun hf => ?_)
          · refine r_aload_n h d_M_addEntry_150 0 rfl rfl ?_
            refine r_getR h fd_YM_0_18 cf_M fl_M_43 d_M_addEntry_151 ?_
            refine r_aload_n h d_M_addEntry_154 0 rfl rfl ?_
            refine r_getI h fd_YM_0_17 cf_M fl_M_268 d_M_addEntry_155 ?_
            refine r_iload_n h d_M_addEntry_158 1 rfl rfl ?_
            refine r_iast h sh_YM_12 d_M_addEntry_159 hf (fun hf => ?_)
            refine r_aload_n h d_M_addEntry_160 0 rfl rfl ?_
            refine r_getR h fd_YM_0_19 cf_M fl_M_46 d_M_addEntry_161 ?_
            refine r_aload_n h d_M_addEntry_164 0 rfl rfl ?_
            refine r_getIv (v := (σ.1 0 17)) h fd_YM_0_17 cf_M fl_M_268 d_M_addEntry_165 rfl ?_
            refine r_iload_n h d_M_addEntry_168 2 rfl rfl ?_
            refine r_iast h sh_YM_13 d_M_addEntry_169 hf (fun hf => ?_)
            refine r_aload_n h d_M_addEntry_170 0 rfl rfl ?_
            refine r_getR h fd_YM_0_20 cf_M fl_M_49 d_M_addEntry_171 ?_
            refine r_aload_n h d_M_addEntry_174 0 rfl rfl ?_
            refine r_getIv (v := (σ.1 0 17)) h fd_YM_0_17 cf_M fl_M_268 d_M_addEntry_175 rfl ?_
            refine r_iload_n h d_M_addEntry_178 3 rfl rfl ?_
            refine r_iast h sh_YM_14 d_M_addEntry_179 hf (fun hf => ?_)
            refine r_aload_n h d_M_addEntry_180 0 rfl rfl ?_
            refine r_getR h fd_YM_0_21 cf_M fl_M_52 d_M_addEntry_181 ?_
            refine r_aload_n h d_M_addEntry_184 0 rfl rfl ?_
            refine r_getIv (v := (σ.1 0 17)) h fd_YM_0_17 cf_M fl_M_268 d_M_addEntry_185 rfl ?_
            refine r_iload h d_M_addEntry_188 4 rfl ?_
            refine r_iast h sh_YM_15 d_M_addEntry_190 hf (fun hf => ?_)
            refine r_aload_n h d_M_addEntry_191 0 rfl rfl ?_
            refine r_getR h fd_YM_0_22 cf_M fl_M_55 d_M_addEntry_192 ?_
            refine r_aload_n h d_M_addEntry_195 0 rfl rfl ?_
            refine r_getIv (v := (σ.1 0 17)) h fd_YM_0_17 cf_M fl_M_268 d_M_addEntry_196 rfl ?_
            refine r_iload h d_M_addEntry_199 7 rfl ?_
            refine r_if_eq h d_M_addEntry_201 hf (fun hf => ?_) (fun hf => ?_)
            · refine r_iconst h d_M_addEntry_209 ki_0 ?_
              refine r_iast h sh_YM_16 d_M_addEntry_210 hf (fun hf => ?_)
              refine r_aload_n h d_M_addEntry_211 0 rfl rfl ?_
              refine r_getR h fd_YM_0_23 cf_M fl_M_58 d_M_addEntry_212 ?_
              refine r_aload_n h d_M_addEntry_215 0 rfl rfl ?_
              refine r_getIv (v := (σ.1 0 17)) h fd_YM_0_17 cf_M fl_M_268 d_M_addEntry_216 rfl ?_
              refine r_iload h d_M_addEntry_219 6 rfl ?_
              refine r_iast h sh_YM_17 d_M_addEntry_221 hf (fun hf => ?_)
              refine r_aload_n h d_M_addEntry_222 0 rfl rfl ?_
              refine r_dup h d_M_addEntry_223 rfl ?_
              refine r_getIv (v := (σ.1 0 17)) h fd_YM_0_17 cf_M fl_M_268 d_M_addEntry_224 rfl ?_
              refine r_iconst h d_M_addEntry_227 ki_1 ?_
              refine r_iadd h d_M_addEntry_228 ?_
              refine r_putI h fd_YM_0_17 cf_M fl_M_268 ⟨rfl, rfl⟩ d_M_addEntry_229 ?_
              refine r_aload_n h d_M_addEntry_232 0 rfl rfl ?_
              refine r_getIv (v := ((σ.1 0 17) + (1 : Int32))) h fd_YM_0_17 cf_M fl_M_268 d_M_addEntry_233 rfl ?_
              refine r_iconst h d_M_addEntry_236 ki_1 ?_
              refine r_isub h d_M_addEntry_237 ?_
              exact r_ireturn h d_M_addEntry_238.1 (q_p1 hf) (q_p2 hf)
            · refine r_iload h d_M_addEntry_204 5 rfl ?_
              refine r_goto h d_M_addEntry_206 ?_
              refine r_iast h sh_YM_16 d_M_addEntry_210 hf (fun hf => ?_)
              refine r_aload_n h d_M_addEntry_211 0 rfl rfl ?_
              refine r_getR h fd_YM_0_23 cf_M fl_M_58 d_M_addEntry_212 ?_
              refine r_aload_n h d_M_addEntry_215 0 rfl rfl ?_
              refine r_getIv (v := (σ.1 0 17)) h fd_YM_0_17 cf_M fl_M_268 d_M_addEntry_216 rfl ?_
              refine r_iload h d_M_addEntry_219 6 rfl ?_
              refine r_iast h sh_YM_17 d_M_addEntry_221 hf (fun hf => ?_)
              refine r_aload_n h d_M_addEntry_222 0 rfl rfl ?_
              refine r_dup h d_M_addEntry_223 rfl ?_
              refine r_getIv (v := (σ.1 0 17)) h fd_YM_0_17 cf_M fl_M_268 d_M_addEntry_224 rfl ?_
              refine r_iconst h d_M_addEntry_227 ki_1 ?_
              refine r_iadd h d_M_addEntry_228 ?_
              refine r_putI h fd_YM_0_17 cf_M fl_M_268 ⟨rfl, rfl⟩ d_M_addEntry_229 ?_
              refine r_aload_n h d_M_addEntry_232 0 rfl rfl ?_
              refine r_getIv (v := ((σ.1 0 17) + (1 : Int32))) h fd_YM_0_17 cf_M fl_M_268 d_M_addEntry_233 rfl ?_
              refine r_iconst h d_M_addEntry_236 ki_1 ?_
              refine r_isub h d_M_addEntry_237 ?_
              exact r_ireturn h d_M_addEntry_238.1 (q_p1 hf) (q_p2 hf)
          · refine r_bipush h d_M_addEntry_147 kb_m4 ?_
            exact r_ireturn h d_M_addEntry_149.1 (q_p1 hf) (q_p2 hf)
        · refine r_bipush h d_M_addEntry_135 kb_m3 ?_
          exact r_ireturn h d_M_addEntry_137.1 (q_p1 hf) (q_p2 hf)
    · refine r_aload_n h d_M_addEntry_84 0 rfl rfl ?_
      refine r_getR h fd_YM_0_18 cf_M fl_M_43 d_M_addEntry_85 ?_
      refine r_iload h d_M_addEntry_88 8 rfl ?_
      refine r_iald h sh_YM_12 d_M_addEntry_90 hf (fun hf => ?_)
      refine r_iload_n h d_M_addEntry_91 1 rfl rfl ?_
      refine r_icmp_ne h d_M_addEntry_92 hf (fun hf => ?_) (fun hf => ?_)
      · refine r_iinc (ls' := [(8, .int (x8 + (1 : Int32))), (0, .ref (ya Z 0)), (1, .int x1), (2, .int x2), (3, .int x3), (4, .int x4), (5, .int x5), (6, .int x6), (7, .int x7)]) h d_M_addEntry_110 8 rfl ki_1 (by decide) rfl ?_
        refine r_goto h d_M_addEntry_113 ?_
        refine r_sub h [1, 2, 3, 4, 5, 6, 7, 8, 0] rfl ?_
        exact ih _ hf
      · refine r_aload_n h d_M_addEntry_95 0 rfl rfl ?_
        refine r_getR h fd_YM_0_23 cf_M fl_M_58 d_M_addEntry_96 ?_
        refine r_iload h d_M_addEntry_99 8 rfl ?_
        refine r_iald h sh_YM_17 d_M_addEntry_101 hf (fun hf => ?_)
        refine r_iload h d_M_addEntry_102 6 rfl ?_
        refine r_icmp_le h d_M_addEntry_104 hf (fun hf => ?_) (fun hf => ?_)
        · refine r_iinc (ls' := [(8, .int (x8 + (1 : Int32))), (0, .ref (ya Z 0)), (1, .int x1), (2, .int x2), (3, .int x3), (4, .int x4), (5, .int x5), (6, .int x6), (7, .int x7)]) h d_M_addEntry_110 8 rfl ki_1 (by decide) rfl ?_
          refine r_goto h d_M_addEntry_113 ?_
          refine r_sub h [1, 2, 3, 4, 5, 6, 7, 8, 0] rfl ?_
          exact ih _ hf
        · refine r_bipush h d_M_addEntry_107 kb_m3 ?_
          exact r_ireturn h d_M_addEntry_109.1 (q_p1 hf) (q_p2 hf)

set_option maxHeartbeats 4000000 in
theorem m_M_addEntry {Z : Sy} {σ : St} {res : (Int32 × St)} {x1 : Int32} {x2 : Int32} {x3 : Int32} {x4 : Int32} {x5 : Int32} {x6 : Int32} (hf : M_addEntry x1 x2 x3 x4 x5 x6 σ = some res) : Ct YM Z y_M_addEntry c_M_addEntry 9 (some .int) 3 [.ref (ya Z 0), .int x1, .int x2, .int x3, .int x4, .int x5, .int x6] σ (some (.int res.1)) res.2 := by
  refine Ct.of pn_M (Nat.le_of_ble_eq_true rfl) rfl (fun Γ h => ?_)
  have h : IsG YM Z R_M c_M_addEntry 9 3 (some .int) (some (.int res.1)) res.2 Γ := h
  unfold M_addEntry at hf
  refine r_iload_n h d_M_addEntry_0 2 rfl rfl ?_
  refine r_i2l h d_M_addEntry_1 ?_
  refine r_lconst h d_M_addEntry_2 kl_0 ?_
  refine r_ldc2 h d_M_addEntry_3 tm_1478 ?_
  obtain ⟨r6, e6, hf⟩ := q_bind hf
  refine r_callS (As := [.long (Int32.toInt64 x2), .long (0 : Int64), .long (2 : Int64)]) (rest := []) h lk_M_201 sk_M_201 d_M_addEntry_6 (by decide) rfl rfl (Nat.le_of_ble_eq_true rfl) (m_M_in e6) ?_
  refine r_istore (ls' := [(7, .int (bi r6)), (0, .ref (ya Z 0)), (1, .int x1), (2, .int x2), (3, .int x3), (4, .int x4), (5, .int x5), (6, .int x6)]) h d_M_addEntry_9 (by decide) rfl ?_
  refine r_iload_n h d_M_addEntry_11 3 rfl rfl ?_
  refine r_i2l h d_M_addEntry_12 ?_
  refine r_lconst h d_M_addEntry_13 kl_0 ?_
  refine r_ldc2 h d_M_addEntry_14 tm_1491 ?_
  obtain ⟨r17, e17, hf⟩ := q_bind hf
  refine r_callS (As := [.long (Int32.toInt64 x2), .long (0 : Int64), .long (4 : Int64)]) (rest := []) h lk_M_201 sk_M_201 d_M_addEntry_17 (by decide) rfl rfl (Nat.le_of_ble_eq_true rfl) (m_M_in e17) ?_
  refine r_bif_eq h d_M_addEntry_20 hf (fun hf => ?_) (fun hf => ?_)
  · refine r_bipush h d_M_addEntry_69 kb_m2 ?_
    exact r_ireturn h d_M_addEntry_71.1 (q_p1 hf) (q_p2 hf)
  · refine r_iload_n h d_M_addEntry_23 4 rfl rfl ?_
    obtain ⟨r24, e24, hf⟩ := q_bind hf
    refine r_callS (As := [.int x3]) (rest := []) h lk_M_273 sk_M_273 d_M_addEntry_24 (by decide) rfl rfl (Nat.le_of_ble_eq_true rfl) (m_M_isGood e24) ?_
    refine r_bif_eq h d_M_addEntry_27 hf (fun hf => ?_) (fun hf => ?_)
    · refine r_bipush h d_M_addEntry_69 kb_m2 ?_
      exact r_ireturn h d_M_addEntry_71.1 (q_p1 hf) (q_p2 hf)
    · refine r_iload h d_M_addEntry_30 5 rfl ?_
      refine r_i2l h d_M_addEntry_32 ?_
      refine r_lconst h d_M_addEntry_33 kl_1 ?_
      refine r_ldc2 h d_M_addEntry_34 tm_1496 ?_
      obtain ⟨r37, e37, hf⟩ := q_bind hf
      refine r_callS (As := [.long (Int32.toInt64 x4), .long (1 : Int64), .long (99 : Int64)]) (rest := []) h lk_M_201 sk_M_201 d_M_addEntry_37 (by decide) rfl rfl (Nat.le_of_ble_eq_true rfl) (m_M_in e37) ?_
      refine r_bif_eq h d_M_addEntry_40 hf (fun hf => ?_) (fun hf => ?_)
      · refine r_bipush h d_M_addEntry_69 kb_m2 ?_
        exact r_ireturn h d_M_addEntry_71.1 (q_p1 hf) (q_p2 hf)
      · refine r_iload h d_M_addEntry_43 0 rfl ?_
        refine r_bif_eq h d_M_addEntry_45 hf (fun hf => ?_) (fun hf => ?_)
        · refine r_iload h d_M_addEntry_61 7 rfl ?_
          obtain ⟨r63, e63, hf⟩ := q_bind hf
          refine r_callS (As := [.int x6]) (rest := []) h lk_M_205 sk_M_205 d_M_addEntry_63 (by decide) rfl rfl (Nat.le_of_ble_eq_true rfl) (m_M_isDay e63) ?_
          refine r_bif_ne h d_M_addEntry_66 hf (fun hf => ?_) (fun hf => ?_)
          · refine r_iconst h d_M_addEntry_72 ki_0 ?_
            refine r_istore (ls' := [(8, .int (0 : Int32)), (7, .int (bi r6)), (0, .ref (ya Z 0)), (1, .int x1), (2, .int x2), (3, .int x3), (4, .int x4), (5, .int x5), (6, .int x6)]) h d_M_addEntry_73 (by decide) rfl ?_
            refine r_sub h [2, 3, 4, 5, 6, 7, 8, 1, 0] rfl ?_
            exact w_M_addEntry_L75 h _ _ hf
          · refine r_bipush h d_M_addEntry_69 kb_m2 ?_
            exact r_ireturn h d_M_addEntry_71.1 (q_p1 hf) (q_p2 hf)
        · refine r_iload h d_M_addEntry_48 6 rfl ?_
          refine r_i2l h d_M_addEntry_50 ?_
          refine r_lconst h d_M_addEntry_51 kl_0 ?_
          refine r_ldc2 h d_M_addEntry_52 tm_1497 ?_
          obtain ⟨r55, e55, hf⟩ := q_bind hf
          refine r_callS (As := [.long (Int32.toInt64 x5), .long (0 : Int64), .long (999 : Int64)]) (rest := []) h lk_M_201 sk_M_201 d_M_addEntry_55 (by decide) rfl rfl (Nat.le_of_ble_eq_true rfl) (m_M_in e55) ?_
          refine r_bif_eq h d_M_addEntry_58 hf (fun hf => ?_) (fun hf => ?_)
          · refine r_bipush h d_M_addEntry_69 kb_m2 ?_
            exact r_ireturn h d_M_addEntry_71.1 (q_p1 hf) (q_p2 hf)
          · refine r_iload h d_M_addEntry_61 7 rfl ?_
            obtain ⟨r63, e63, hf⟩ := q_bind hf
            refine r_callS (As := [.int x6]) (rest := []) h lk_M_205 sk_M_205 d_M_addEntry_63 (by decide) rfl rfl (Nat.le_of_ble_eq_true rfl) (m_M_isDay e63) ?_
            refine r_bif_ne h d_M_addEntry_66 hf (fun hf => ?_) (fun hf => ?_)
            · refine r_iconst h d_M_addEntry_72 ki_0 ?_
              refine r_istore (ls' := [(8, .int (0 : Int32)), (7, .int (bi r6)), (0, .ref (ya Z 0)), (1, .int x1), (2, .int x2), (3, .int x3), (4, .int x4), (5, .int x5), (6, .int x6)]) h d_M_addEntry_73 (by decide) rfl ?_
              refine r_sub h [2, 3, 4, 5, 6, 7, 8, 1, 0] rfl ?_
              exact w_M_addEntry_L75 h _ _ hf
            · refine r_bipush h d_M_addEntry_69 kb_m2 ?_
              exact r_ireturn h d_M_addEntry_71.1 (q_p1 hf) (q_p2 hf)

theorem d_M_entry_0 : decode c_M_entry 0 = .ok (.aload_n 0, 1) ∧ 0 + 1 = 1 := by decide +kernel
theorem d_M_entry_1 : decode c_M_entry 1 = .ok (.iload_n 1, 1) ∧ 1 + 1 = 2 := by decide +kernel
theorem d_M_entry_2 : decode c_M_entry 2 = .ok (.invokevirtual 284, 3) ∧ 2 + 3 = 5 := by decide +kernel
theorem d_M_entry_5 : decode c_M_entry 5 = .ok (.ifCond .eq 7, 3) ∧ 5 + 3 = 8 ∧ ((5 : Nat) : Int) + 7 = ((12 : Nat) : Int) := by decide +kernel
theorem d_M_entry_8 : decode c_M_entry 8 = .ok (.iconst (-1), 1) ∧ 8 + 1 = 9 := by decide +kernel
theorem d_M_entry_9 : decode c_M_entry 9 = .ok (.goto 16, 3) ∧ (9 : Int) + 16 = (25 : Int) := by decide +kernel
theorem d_M_entry_12 : decode c_M_entry 12 = .ok (.aload_n 0, 1) ∧ 12 + 1 = 13 := by decide +kernel
theorem d_M_entry_13 : decode c_M_entry 13 = .ok (.iload_n 1, 1) ∧ 13 + 1 = 14 := by decide +kernel
theorem d_M_entry_14 : decode c_M_entry 14 = .ok (.iload_n 2, 1) ∧ 14 + 1 = 15 := by decide +kernel
theorem d_M_entry_15 : decode c_M_entry 15 = .ok (.iload_n 3, 1) ∧ 15 + 1 = 16 := by decide +kernel
theorem d_M_entry_16 : decode c_M_entry 16 = .ok (.iload 4, 2) ∧ 16 + 2 = 18 := by decide +kernel
theorem d_M_entry_18 : decode c_M_entry 18 = .ok (.iload 5, 2) ∧ 18 + 2 = 20 := by decide +kernel
theorem d_M_entry_20 : decode c_M_entry 20 = .ok (.iload 6, 2) ∧ 20 + 2 = 22 := by decide +kernel
theorem d_M_entry_22 : decode c_M_entry 22 = .ok (.invokevirtual 287, 3) ∧ 22 + 3 = 25 := by decide +kernel
theorem d_M_entry_25 : decode c_M_entry 25 = .ok (.ireturn, 1) ∧ 25 + 1 = 26 := by decide +kernel
set_option maxHeartbeats 4000000 in
theorem m_M_entry {Z : Sy} {σ : St} {res : (Int32 × St)} {x1 : Int32} {x2 : Int32} {x3 : Int32} {x4 : Int32} {x5 : Int32} {x6 : Int32} (hf : M_entry x1 x2 x3 x4 x5 x6 σ = some res) : Ct YM Z y_M_entry c_M_entry 7 (some .int) 4 [.ref (ya Z 0), .int x1, .int x2, .int x3, .int x4, .int x5, .int x6] σ (some (.int res.1)) res.2 := by
  refine Ct.of pn_M (Nat.le_of_ble_eq_true rfl) rfl (fun Γ h => ?_)
  have h : IsG YM Z R_M c_M_entry 7 4 (some .int) (some (.int res.1)) res.2 Γ := h
  unfold M_entry at hf
  refine r_aload_n h d_M_entry_0 0 rfl rfl ?_
  refine r_iload_n h d_M_entry_1 1 rfl rfl ?_
  obtain ⟨r2, e2, hf⟩ := q_bind hf
  refine r_callV (As := [.int x1]) (rest := []) h sh_YM_0 lk_M_284 vk_M_284 d_M_entry_2 (by decide) rfl rfl (Nat.le_of_ble_eq_true rfl) (m_M_noPack e2) ?_
  refine r_bif_eq h d_M_entry_5 hf (fun hf => ?_) (fun hf => ?_)
  · refine r_aload_n h d_M_entry_12 0 rfl rfl ?_
    refine r_iload_n h d_M_entry_13 1 rfl rfl ?_
    refine r_iload_n h d_M_entry_14 2 rfl rfl ?_
    refine r_iload_n h d_M_entry_15 3 rfl rfl ?_
    refine r_iload h d_M_entry_16 4 rfl ?_
    refine r_iload h d_M_entry_18 5 rfl ?_
    refine r_iload h d_M_entry_20 6 rfl ?_
    obtain ⟨q22, e22, hf⟩ := q_bind hf
    refine r_callV (As := [.int x1, .int x2, .int x3, .int x4, .int x5, .int x6]) (rest := []) h sh_YM_0 lk_M_287 vk_M_287 d_M_entry_22 (by decide) rfl rfl (Nat.le_of_ble_eq_true rfl) (m_M_addEntry e22) ?_
    exact r_ireturn h d_M_entry_25.1 (q_p1 hf) (q_p2 hf)
  · refine r_iconst h d_M_entry_8 ki_m1 ?_
    refine r_goto h d_M_entry_9 ?_
    exact r_ireturn h d_M_entry_25.1 (q_p1 hf) (q_p2 hf)

theorem d_M_refused_0 : decode c_M_refused 0 = .ok (.aload_n 0, 1) ∧ 0 + 1 = 1 := by decide +kernel
theorem d_M_refused_1 : decode c_M_refused 1 = .ok (.iconst 0, 1) ∧ 1 + 1 = 2 := by decide +kernel
theorem d_M_refused_2 : decode c_M_refused 2 = .ok (.putfield 209, 3) ∧ 2 + 3 = 5 := by decide +kernel
theorem d_M_refused_5 : decode c_M_refused 5 = .ok (.iload_n 1, 1) ∧ 5 + 1 = 6 := by decide +kernel
theorem d_M_refused_6 : decode c_M_refused 6 = .ok (.ireturn, 1) ∧ 6 + 1 = 7 := by decide +kernel
set_option maxHeartbeats 4000000 in
theorem m_M_refused {Z : Sy} {σ : St} {res : (Int32 × St)} {x1 : Int32} (hf : M_refused x1 σ = some res) : Ct YM Z y_M_refused c_M_refused 2 (some .int) 1 [.ref (ya Z 0), .int x1] σ (some (.int res.1)) res.2 := by
  refine Ct.of pn_M (Nat.le_of_ble_eq_true rfl) rfl (fun Γ h => ?_)
  have h : IsG YM Z R_M c_M_refused 2 1 (some .int) (some (.int res.1)) res.2 Γ := h
  unfold M_refused at hf
  refine r_aload_n h d_M_refused_0 0 rfl rfl ?_
  refine r_iconst h d_M_refused_1 ki_0 ?_
  refine r_putI h fd_YM_0_0 cf_M fl_M_209 ⟨rfl, rfl⟩ d_M_refused_2 ?_
  refine r_iload_n h d_M_refused_5 1 rfl rfl ?_
  exact r_ireturn h d_M_refused_6.1 (q_p1 hf) (q_p2 hf)

theorem d_M_noSheet_0 : decode c_M_noSheet 0 = .ok (.iload_n 0, 1) ∧ 0 + 1 = 1 := by decide +kernel
theorem d_M_noSheet_1 : decode c_M_noSheet 1 = .ok (.i2l, 1) ∧ 1 + 1 = 2 := by decide +kernel
theorem d_M_noSheet_2 : decode c_M_noSheet 2 = .ok (.lconst 0, 1) ∧ 2 + 1 = 3 := by decide +kernel
theorem d_M_noSheet_3 : decode c_M_noSheet 3 = .ok (.ldc2_w 358, 3) ∧ 3 + 3 = 6 := by decide +kernel
theorem d_M_noSheet_6 : decode c_M_noSheet 6 = .ok (.invokestatic 201, 3) ∧ 6 + 3 = 9 := by decide +kernel
theorem d_M_noSheet_9 : decode c_M_noSheet 9 = .ok (.ifCond .ne 7, 3) ∧ 9 + 3 = 12 ∧ ((9 : Nat) : Int) + 7 = ((16 : Nat) : Int) := by decide +kernel
theorem d_M_noSheet_12 : decode c_M_noSheet 12 = .ok (.iconst 1, 1) ∧ 12 + 1 = 13 := by decide +kernel
theorem d_M_noSheet_13 : decode c_M_noSheet 13 = .ok (.goto 4, 3) ∧ (13 : Int) + 4 = (17 : Int) := by decide +kernel
theorem d_M_noSheet_16 : decode c_M_noSheet 16 = .ok (.iconst 0, 1) ∧ 16 + 1 = 17 := by decide +kernel
theorem d_M_noSheet_17 : decode c_M_noSheet 17 = .ok (.ireturn, 1) ∧ 17 + 1 = 18 := by decide +kernel
set_option maxHeartbeats 4000000 in
theorem m_M_noSheet {Z : Sy} {σ : St} {res : Bool} {x0 : Int32} (hf : M_noSheet x0 σ = some res) : Ct YM Z y_M_noSheet c_M_noSheet 1 (some .boolean) 2 [.int x0] σ (some (.int (bi res))) σ := by
  refine Ct.of pn_M (Nat.le_of_ble_eq_true rfl) rfl (fun Γ h => ?_)
  have h : IsG YM Z R_M c_M_noSheet 1 2 (some .boolean) (some (.int (bi res))) σ Γ := h
  unfold M_noSheet at hf
  refine r_iload_n h d_M_noSheet_0 0 rfl rfl ?_
  refine r_i2l h d_M_noSheet_1 ?_
  refine r_lconst h d_M_noSheet_2 kl_0 ?_
  refine r_ldc2 h d_M_noSheet_3 tm_1509 ?_
  obtain ⟨r6, e6, hf⟩ := q_bind hf
  refine r_callS (As := [.long (Int32.toInt64 x0), .long (0 : Int64), .long (3 : Int64)]) (rest := []) h lk_M_201 sk_M_201 d_M_noSheet_6 (by decide) rfl rfl (Nat.le_of_ble_eq_true rfl) (m_M_in e6) ?_
  refine r_bif_ne h d_M_noSheet_9 hf (fun hf => ?_) (fun hf => ?_)
  · refine r_iconst h d_M_noSheet_16 ki_0 ?_
    exact r_zreturn h d_M_noSheet_17.1 ((show (0 : Int32) = bi false from rfl).trans (congrArg bi (Option.some.inj hf))) rfl
  · refine r_iconst h d_M_noSheet_12 ki_1 ?_
    refine r_goto h d_M_noSheet_13 ?_
    exact r_zreturn h d_M_noSheet_17.1 ((show (1 : Int32) = bi true from rfl).trans (congrArg bi (Option.some.inj hf))) rfl

theorem d_M_isBeyond_0 : decode c_M_isBeyond 0 = .ok (.iload_n 0, 1) ∧ 0 + 1 = 1 := by decide +kernel
theorem d_M_isBeyond_1 : decode c_M_isBeyond 1 = .ok (.ifCond .lt 19, 3) ∧ 1 + 3 = 4 ∧ ((1 : Nat) : Int) + 19 = ((20 : Nat) : Int) := by decide +kernel
theorem d_M_isBeyond_4 : decode c_M_isBeyond 4 = .ok (.lload_n 1, 1) ∧ 4 + 1 = 5 := by decide +kernel
theorem d_M_isBeyond_5 : decode c_M_isBeyond 5 = .ok (.lconst 0, 1) ∧ 5 + 1 = 6 := by decide +kernel
theorem d_M_isBeyond_6 : decode c_M_isBeyond 6 = .ok (.lcmp, 1) ∧ 6 + 1 = 7 := by decide +kernel
theorem d_M_isBeyond_7 : decode c_M_isBeyond 7 = .ok (.ifCond .lt 13, 3) ∧ 7 + 3 = 10 ∧ ((7 : Nat) : Int) + 13 = ((20 : Nat) : Int) := by decide +kernel
theorem d_M_isBeyond_10 : decode c_M_isBeyond 10 = .ok (.iload_n 0, 1) ∧ 10 + 1 = 11 := by decide +kernel
theorem d_M_isBeyond_11 : decode c_M_isBeyond 11 = .ok (.i2l, 1) ∧ 11 + 1 = 12 := by decide +kernel
theorem d_M_isBeyond_12 : decode c_M_isBeyond 12 = .ok (.lload_n 1, 1) ∧ 12 + 1 = 13 := by decide +kernel
theorem d_M_isBeyond_13 : decode c_M_isBeyond 13 = .ok (.ladd, 1) ∧ 13 + 1 = 14 := by decide +kernel
theorem d_M_isBeyond_14 : decode c_M_isBeyond 14 = .ok (.iload_n 3, 1) ∧ 14 + 1 = 15 := by decide +kernel
theorem d_M_isBeyond_15 : decode c_M_isBeyond 15 = .ok (.i2l, 1) ∧ 15 + 1 = 16 := by decide +kernel
theorem d_M_isBeyond_16 : decode c_M_isBeyond 16 = .ok (.lcmp, 1) ∧ 16 + 1 = 17 := by decide +kernel
theorem d_M_isBeyond_17 : decode c_M_isBeyond 17 = .ok (.ifCond .le 7, 3) ∧ 17 + 3 = 20 ∧ ((17 : Nat) : Int) + 7 = ((24 : Nat) : Int) := by decide +kernel
theorem d_M_isBeyond_20 : decode c_M_isBeyond 20 = .ok (.iconst 1, 1) ∧ 20 + 1 = 21 := by decide +kernel
theorem d_M_isBeyond_21 : decode c_M_isBeyond 21 = .ok (.goto 4, 3) ∧ (21 : Int) + 4 = (25 : Int) := by decide +kernel
theorem d_M_isBeyond_24 : decode c_M_isBeyond 24 = .ok (.iconst 0, 1) ∧ 24 + 1 = 25 := by decide +kernel
theorem d_M_isBeyond_25 : decode c_M_isBeyond 25 = .ok (.ireturn, 1) ∧ 25 + 1 = 26 := by decide +kernel
set_option maxHeartbeats 4000000 in
theorem m_M_isBeyond {Z : Sy} {σ : St} {res : Bool} {x0 : Int32} {x1 : Int64} {x3 : Int32} (hf : M_isBeyond x0 x1 x3 σ = some res) : Ct YM Z y_M_isBeyond c_M_isBeyond 4 (some .boolean) 1 [.int x0, .long x1, .int x3] σ (some (.int (bi res))) σ := by
  refine Ct.of pn_M (Nat.le_of_ble_eq_true rfl) rfl (fun Γ h => ?_)
  have h : IsG YM Z R_M c_M_isBeyond 4 1 (some .boolean) (some (.int (bi res))) σ Γ := h
  unfold M_isBeyond at hf
  refine r_iload_n h d_M_isBeyond_0 0 rfl rfl ?_
  refine r_if_lt h d_M_isBeyond_1 hf (fun hf => ?_) (fun hf => ?_)
  · refine r_iconst h d_M_isBeyond_20 ki_1 ?_
    refine r_goto h d_M_isBeyond_21 ?_
    exact r_zreturn h d_M_isBeyond_25.1 ((show (1 : Int32) = bi true from rfl).trans (congrArg bi (Option.some.inj hf))) rfl
  · refine r_lload_n h d_M_isBeyond_4 1 rfl rfl ?_
    refine r_lconst h d_M_isBeyond_5 kl_0 ?_
    refine r_lif_lt h d_M_isBeyond_6 d_M_isBeyond_7 hf (fun hf => ?_) (fun hf => ?_)
    · refine r_iconst h d_M_isBeyond_20 ki_1 ?_
      refine r_goto h d_M_isBeyond_21 ?_
      exact r_zreturn h d_M_isBeyond_25.1 ((show (1 : Int32) = bi true from rfl).trans (congrArg bi (Option.some.inj hf))) rfl
    · refine r_iload_n h d_M_isBeyond_10 0 rfl rfl ?_
      refine r_i2l h d_M_isBeyond_11 ?_
      refine r_lload_n h d_M_isBeyond_12 1 rfl rfl ?_
      refine r_ladd h d_M_isBeyond_13 ?_
      refine r_iload_n h d_M_isBeyond_14 2 rfl rfl ?_
      refine r_i2l h d_M_isBeyond_15 ?_
      refine r_lif_le h d_M_isBeyond_16 d_M_isBeyond_17 hf (fun hf => ?_) (fun hf => ?_)
      · refine r_iconst h d_M_isBeyond_24 ki_0 ?_
        exact r_zreturn h d_M_isBeyond_25.1 ((show (0 : Int32) = bi false from rfl).trans (congrArg bi (Option.some.inj hf))) rfl
      · refine r_iconst h d_M_isBeyond_20 ki_1 ?_
        refine r_goto h d_M_isBeyond_21 ?_
        exact r_zreturn h d_M_isBeyond_25.1 ((show (1 : Int32) = bi true from rfl).trans (congrArg bi (Option.some.inj hf))) rfl

theorem d_M_failed_0 : decode c_M_failed 0 = .ok (.aload_n 0, 1) ∧ 0 + 1 = 1 := by decide +kernel
theorem d_M_failed_1 : decode c_M_failed 1 = .ok (.iload_n 1, 1) ∧ 1 + 1 = 2 := by decide +kernel
theorem d_M_failed_2 : decode c_M_failed 2 = .ok (.putfield 209, 3) ∧ 2 + 3 = 5 := by decide +kernel
theorem d_M_failed_5 : decode c_M_failed 5 = .ok (.bipush (-10), 2) ∧ 5 + 2 = 7 := by decide +kernel
theorem d_M_failed_7 : decode c_M_failed 7 = .ok (.iload_n 1, 1) ∧ 7 + 1 = 8 := by decide +kernel
theorem d_M_failed_8 : decode c_M_failed 8 = .ok (.isub, 1) ∧ 8 + 1 = 9 := by decide +kernel
theorem d_M_failed_9 : decode c_M_failed 9 = .ok (.ireturn, 1) ∧ 9 + 1 = 10 := by decide +kernel
set_option maxHeartbeats 4000000 in
theorem m_M_failed {Z : Sy} {σ : St} {res : (Int32 × St)} {x1 : Int32} (hf : M_failed x1 σ = some res) : Ct YM Z y_M_failed c_M_failed 2 (some .int) 1 [.ref (ya Z 0), .int x1] σ (some (.int res.1)) res.2 := by
  refine Ct.of pn_M (Nat.le_of_ble_eq_true rfl) rfl (fun Γ h => ?_)
  have h : IsG YM Z R_M c_M_failed 2 1 (some .int) (some (.int res.1)) res.2 Γ := h
  unfold M_failed at hf
  refine r_aload_n h d_M_failed_0 0 rfl rfl ?_
  refine r_iload_n h d_M_failed_1 1 rfl rfl ?_
  refine r_putI h fd_YM_0_0 cf_M fl_M_209 ⟨rfl, rfl⟩ d_M_failed_2 ?_
  refine r_bipush h d_M_failed_5 kb_m10 ?_
  refine r_iload_n h d_M_failed_7 1 rfl rfl ?_
  refine r_isub h d_M_failed_8 ?_
  exact r_ireturn h d_M_failed_9.1 (q_p1 hf) (q_p2 hf)

theorem d_M_barred_0 : decode c_M_barred 0 = .ok (.iload_n 2, 1) ∧ 0 + 1 = 1 := by decide +kernel
theorem d_M_barred_1 : decode c_M_barred 1 = .ok (.i2l, 1) ∧ 1 + 1 = 2 := by decide +kernel
theorem d_M_barred_2 : decode c_M_barred 2 = .ok (.lconst 0, 1) ∧ 2 + 1 = 3 := by decide +kernel
theorem d_M_barred_3 : decode c_M_barred 3 = .ok (.ldc2_w 266, 3) ∧ 3 + 3 = 6 := by decide +kernel
theorem d_M_barred_6 : decode c_M_barred 6 = .ok (.invokestatic 201, 3) ∧ 6 + 3 = 9 := by decide +kernel
theorem d_M_barred_9 : decode c_M_barred 9 = .ok (.ifCond .ne 10, 3) ∧ 9 + 3 = 12 ∧ ((9 : Nat) : Int) + 10 = ((19 : Nat) : Int) := by decide +kernel
theorem d_M_barred_12 : decode c_M_barred 12 = .ok (.aload_n 0, 1) ∧ 12 + 1 = 13 := by decide +kernel
theorem d_M_barred_13 : decode c_M_barred 13 = .ok (.bipush (-2), 2) ∧ 13 + 2 = 15 := by decide +kernel
theorem d_M_barred_15 : decode c_M_barred 15 = .ok (.invokevirtual 294, 3) ∧ 15 + 3 = 18 := by decide +kernel
theorem d_M_barred_18 : decode c_M_barred 18 = .ok (.ireturn, 1) ∧ 18 + 1 = 19 := by decide +kernel
theorem d_M_barred_19 : decode c_M_barred 19 = .ok (.aload_n 0, 1) ∧ 19 + 1 = 20 := by decide +kernel
theorem d_M_barred_20 : decode c_M_barred 20 = .ok (.getfield 185, 3) ∧ 20 + 3 = 23 := by decide +kernel
theorem d_M_barred_23 : decode c_M_barred 23 = .ok (.iload_n 1, 1) ∧ 23 + 1 = 24 := by decide +kernel
theorem d_M_barred_24 : decode c_M_barred 24 = .ok (.iaload, 1) ∧ 24 + 1 = 25 := by decide +kernel
theorem d_M_barred_25 : decode c_M_barred 25 = .ok (.ifCond .lt 19, 3) ∧ 25 + 3 = 28 ∧ ((25 : Nat) : Int) + 19 = ((44 : Nat) : Int) := by decide +kernel
theorem d_M_barred_28 : decode c_M_barred 28 = .ok (.aload_n 0, 1) ∧ 28 + 1 = 29 := by decide +kernel
theorem d_M_barred_29 : decode c_M_barred 29 = .ok (.getfield 188, 3) ∧ 29 + 3 = 32 := by decide +kernel
theorem d_M_barred_32 : decode c_M_barred 32 = .ok (.iload_n 1, 1) ∧ 32 + 1 = 33 := by decide +kernel
theorem d_M_barred_33 : decode c_M_barred 33 = .ok (.iaload, 1) ∧ 33 + 1 = 34 := by decide +kernel
theorem d_M_barred_34 : decode c_M_barred 34 = .ok (.iload_n 2, 1) ∧ 34 + 1 = 35 := by decide +kernel
theorem d_M_barred_35 : decode c_M_barred 35 = .ok (.if_icmp .eq 9, 3) ∧ 35 + 3 = 38 ∧ ((35 : Nat) : Int) + 9 = ((44 : Nat) : Int) := by decide +kernel
theorem d_M_barred_38 : decode c_M_barred 38 = .ok (.aload_n 0, 1) ∧ 38 + 1 = 39 := by decide +kernel
theorem d_M_barred_39 : decode c_M_barred 39 = .ok (.iconst 2, 1) ∧ 39 + 1 = 40 := by decide +kernel
theorem d_M_barred_40 : decode c_M_barred 40 = .ok (.invokevirtual 305, 3) ∧ 40 + 3 = 43 := by decide +kernel
theorem d_M_barred_43 : decode c_M_barred 43 = .ok (.ireturn, 1) ∧ 43 + 1 = 44 := by decide +kernel
theorem d_M_barred_44 : decode c_M_barred 44 = .ok (.aload_n 0, 1) ∧ 44 + 1 = 45 := by decide +kernel
theorem d_M_barred_45 : decode c_M_barred 45 = .ok (.getfield 185, 3) ∧ 45 + 3 = 48 := by decide +kernel
theorem d_M_barred_48 : decode c_M_barred 48 = .ok (.iload_n 1, 1) ∧ 48 + 1 = 49 := by decide +kernel
theorem d_M_barred_49 : decode c_M_barred 49 = .ok (.iaload, 1) ∧ 49 + 1 = 50 := by decide +kernel
theorem d_M_barred_50 : decode c_M_barred 50 = .ok (.ifCond .ge 9, 3) ∧ 50 + 3 = 53 ∧ ((50 : Nat) : Int) + 9 = ((59 : Nat) : Int) := by decide +kernel
theorem d_M_barred_53 : decode c_M_barred 53 = .ok (.aload_n 0, 1) ∧ 53 + 1 = 54 := by decide +kernel
theorem d_M_barred_54 : decode c_M_barred 54 = .ok (.iconst 1, 1) ∧ 54 + 1 = 55 := by decide +kernel
theorem d_M_barred_55 : decode c_M_barred 55 = .ok (.invokevirtual 305, 3) ∧ 55 + 3 = 58 := by decide +kernel
theorem d_M_barred_58 : decode c_M_barred 58 = .ok (.ireturn, 1) ∧ 58 + 1 = 59 := by decide +kernel
theorem d_M_barred_59 : decode c_M_barred 59 = .ok (.lload 4, 2) ∧ 59 + 2 = 61 := by decide +kernel
theorem d_M_barred_61 : decode c_M_barred 61 = .ok (.lconst 0, 1) ∧ 61 + 1 = 62 := by decide +kernel
theorem d_M_barred_62 : decode c_M_barred 62 = .ok (.lcmp, 1) ∧ 62 + 1 = 63 := by decide +kernel
theorem d_M_barred_63 : decode c_M_barred 63 = .ok (.ifCond .ge 9, 3) ∧ 63 + 3 = 66 ∧ ((63 : Nat) : Int) + 9 = ((72 : Nat) : Int) := by decide +kernel
theorem d_M_barred_66 : decode c_M_barred 66 = .ok (.aload_n 0, 1) ∧ 66 + 1 = 67 := by decide +kernel
theorem d_M_barred_67 : decode c_M_barred 67 = .ok (.iconst 4, 1) ∧ 67 + 1 = 68 := by decide +kernel
theorem d_M_barred_68 : decode c_M_barred 68 = .ok (.invokevirtual 305, 3) ∧ 68 + 3 = 71 := by decide +kernel
theorem d_M_barred_71 : decode c_M_barred 71 = .ok (.ireturn, 1) ∧ 71 + 1 = 72 := by decide +kernel
theorem d_M_barred_72 : decode c_M_barred 72 = .ok (.iload_n 3, 1) ∧ 72 + 1 = 73 := by decide +kernel
theorem d_M_barred_73 : decode c_M_barred 73 = .ok (.lload 4, 2) ∧ 73 + 2 = 75 := by decide +kernel
theorem d_M_barred_75 : decode c_M_barred 75 = .ok (.aload_n 0, 1) ∧ 75 + 1 = 76 := by decide +kernel
theorem d_M_barred_76 : decode c_M_barred 76 = .ok (.getfield 185, 3) ∧ 76 + 3 = 79 := by decide +kernel
theorem d_M_barred_79 : decode c_M_barred 79 = .ok (.iload_n 1, 1) ∧ 79 + 1 = 80 := by decide +kernel
theorem d_M_barred_80 : decode c_M_barred 80 = .ok (.iaload, 1) ∧ 80 + 1 = 81 := by decide +kernel
theorem d_M_barred_81 : decode c_M_barred 81 = .ok (.invokestatic 308, 3) ∧ 81 + 3 = 84 := by decide +kernel
theorem d_M_barred_84 : decode c_M_barred 84 = .ok (.ifCond .eq 11, 3) ∧ 84 + 3 = 87 ∧ ((84 : Nat) : Int) + 11 = ((95 : Nat) : Int) := by decide +kernel
theorem d_M_barred_87 : decode c_M_barred 87 = .ok (.aload_n 0, 1) ∧ 87 + 1 = 88 := by decide +kernel
theorem d_M_barred_88 : decode c_M_barred 88 = .ok (.iconst 3, 1) ∧ 88 + 1 = 89 := by decide +kernel
theorem d_M_barred_89 : decode c_M_barred 89 = .ok (.invokevirtual 305, 3) ∧ 89 + 3 = 92 := by decide +kernel
theorem d_M_barred_92 : decode c_M_barred 92 = .ok (.goto 4, 3) ∧ (92 : Int) + 4 = (96 : Int) := by decide +kernel
theorem d_M_barred_95 : decode c_M_barred 95 = .ok (.iconst 0, 1) ∧ 95 + 1 = 96 := by decide +kernel
theorem d_M_barred_96 : decode c_M_barred 96 = .ok (.ireturn, 1) ∧ 96 + 1 = 97 := by decide +kernel
set_option maxHeartbeats 4000000 in
theorem m_M_barred {Z : Sy} {σ : St} {res : (Int32 × St)} {x1 : Int32} {x2 : Int32} {x3 : Int32} {x4 : Int64} (hf : M_barred x1 x2 x3 x4 σ = some res) : Ct YM Z y_M_barred c_M_barred 6 (some .int) 2 [.ref (ya Z 0), .int x1, .int x2, .int x3, .long x4] σ (some (.int res.1)) res.2 := by
  refine Ct.of pn_M (Nat.le_of_ble_eq_true rfl) rfl (fun Γ h => ?_)
  have h : IsG YM Z R_M c_M_barred 6 2 (some .int) (some (.int res.1)) res.2 Γ := h
  unfold M_barred at hf
  refine r_iload_n h d_M_barred_0 2 rfl rfl ?_
  refine r_i2l h d_M_barred_1 ?_
  refine r_lconst h d_M_barred_2 kl_0 ?_
  refine r_ldc2 h d_M_barred_3 tm_1478 ?_
  obtain ⟨r6, e6, hf⟩ := q_bind hf
  refine r_callS (As := [.long (Int32.toInt64 x2), .long (0 : Int64), .long (2 : Int64)]) (rest := []) h lk_M_201 sk_M_201 d_M_barred_6 (by decide) rfl rfl (Nat.le_of_ble_eq_true rfl) (m_M_in e6) ?_
  refine r_bif_ne h d_M_barred_9 hf (fun hf => ?_) (fun hf => ?_)
  · refine r_aload_n h d_M_barred_19 0 rfl rfl ?_
    refine r_getR h fd_YM_0_74 cf_M fl_M_185 d_M_barred_20 ?_
    refine r_iload_n h d_M_barred_23 1 rfl rfl ?_
    refine r_iald h sh_YM_59 d_M_barred_24 hf (fun hf => ?_)
    refine r_if_lt h d_M_barred_25 hf (fun hf => ?_) (fun hf => ?_)
    · refine r_aload_n h d_M_barred_44 0 rfl rfl ?_
      refine r_getR h fd_YM_0_74 cf_M fl_M_185 d_M_barred_45 ?_
      refine r_iload_n h d_M_barred_48 1 rfl rfl ?_
      refine r_iald h sh_YM_59 d_M_barred_49 hf (fun hf => ?_)
      refine r_if_ge h d_M_barred_50 hf (fun hf => ?_) (fun hf => ?_)
      · refine r_lload h d_M_barred_59 4 rfl ?_
        refine r_lconst h d_M_barred_61 kl_0 ?_
        refine r_lif_ge h d_M_barred_62 d_M_barred_63 hf (fun hf => ?_) (fun hf => ?_)
        · refine r_iload_n h d_M_barred_72 3 rfl rfl ?_
          refine r_lload h d_M_barred_73 4 rfl ?_
          refine r_aload_n h d_M_barred_75 0 rfl rfl ?_
          refine r_getR h fd_YM_0_74 cf_M fl_M_185 d_M_barred_76 ?_
          refine r_iload_n h d_M_barred_79 1 rfl rfl ?_
          refine r_iald h sh_YM_59 d_M_barred_80 hf (fun hf => ?_)
          obtain ⟨r81, e81, hf⟩ := q_bind hf
          refine r_callS (As := [.int x3, .long x4, .int (σ.1 59 (Int32.toNatClampNeg x1))]) (rest := []) h lk_M_308 sk_M_308 d_M_barred_81 (by decide) rfl rfl (Nat.le_of_ble_eq_true rfl) (m_M_isBeyond e81) ?_
          refine r_bif_eq h d_M_barred_84 hf (fun hf => ?_) (fun hf => ?_)
          · refine r_iconst h d_M_barred_95 ki_0 ?_
            exact r_ireturn h d_M_barred_96.1 (q_p1 hf) (q_p2 hf)
          · refine r_aload_n h d_M_barred_87 0 rfl rfl ?_
            refine r_iconst h d_M_barred_88 ki_3 ?_
            obtain ⟨q89, e89, hf⟩ := q_bind hf
            refine r_callV (As := [.int (3 : Int32)]) (rest := []) h sh_YM_0 lk_M_305 vk_M_305 d_M_barred_89 (by decide) rfl rfl (Nat.le_of_ble_eq_true rfl) (m_M_failed e89) ?_
            refine r_goto h d_M_barred_92 ?_
            exact r_ireturn h d_M_barred_96.1 (q_p1 hf) (q_p2 hf)
        · refine r_aload_n h d_M_barred_66 0 rfl rfl ?_
          refine r_iconst h d_M_barred_67 ki_4 ?_
          obtain ⟨q68, e68, hf⟩ := q_bind hf
          refine r_callV (As := [.int (4 : Int32)]) (rest := []) h sh_YM_0 lk_M_305 vk_M_305 d_M_barred_68 (by decide) rfl rfl (Nat.le_of_ble_eq_true rfl) (m_M_failed e68) ?_
          exact r_ireturn h d_M_barred_71.1 (q_p1 hf) (q_p2 hf)
      · refine r_aload_n h d_M_barred_53 0 rfl rfl ?_
        refine r_iconst h d_M_barred_54 ki_1 ?_
        obtain ⟨q55, e55, hf⟩ := q_bind hf
        refine r_callV (As := [.int (1 : Int32)]) (rest := []) h sh_YM_0 lk_M_305 vk_M_305 d_M_barred_55 (by decide) rfl rfl (Nat.le_of_ble_eq_true rfl) (m_M_failed e55) ?_
        exact r_ireturn h d_M_barred_58.1 (q_p1 hf) (q_p2 hf)
    · refine r_aload_n h d_M_barred_28 0 rfl rfl ?_
      refine r_getR h fd_YM_0_75 cf_M fl_M_188 d_M_barred_29 ?_
      refine r_iload_n h d_M_barred_32 1 rfl rfl ?_
      refine r_iald h sh_YM_60 d_M_barred_33 hf (fun hf => ?_)
      refine r_iload_n h d_M_barred_34 2 rfl rfl ?_
      refine r_icmp_eq h d_M_barred_35 hf (fun hf => ?_) (fun hf => ?_)
      · refine r_aload_n h d_M_barred_44 0 rfl rfl ?_
        refine r_getR h fd_YM_0_74 cf_M fl_M_185 d_M_barred_45 ?_
        refine r_iload_n h d_M_barred_48 1 rfl rfl ?_
        refine r_iald h sh_YM_59 d_M_barred_49 hf (fun hf => ?_)
        refine r_if_ge h d_M_barred_50 hf (fun hf => ?_) (fun hf => ?_)
        · refine r_lload h d_M_barred_59 4 rfl ?_
          refine r_lconst h d_M_barred_61 kl_0 ?_
          refine r_lif_ge h d_M_barred_62 d_M_barred_63 hf (fun hf => ?_) (fun hf => ?_)
          · refine r_iload_n h d_M_barred_72 3 rfl rfl ?_
            refine r_lload h d_M_barred_73 4 rfl ?_
            refine r_aload_n h d_M_barred_75 0 rfl rfl ?_
            refine r_getR h fd_YM_0_74 cf_M fl_M_185 d_M_barred_76 ?_
            refine r_iload_n h d_M_barred_79 1 rfl rfl ?_
            refine r_iald h sh_YM_59 d_M_barred_80 hf (fun hf => ?_)
            obtain ⟨r81, e81, hf⟩ := q_bind hf
            refine r_callS (As := [.int x3, .long x4, .int (σ.1 59 (Int32.toNatClampNeg x1))]) (rest := []) h lk_M_308 sk_M_308 d_M_barred_81 (by decide) rfl rfl (Nat.le_of_ble_eq_true rfl) (m_M_isBeyond e81) ?_
            refine r_bif_eq h d_M_barred_84 hf (fun hf => ?_) (fun hf => ?_)
            · refine r_iconst h d_M_barred_95 ki_0 ?_
              exact r_ireturn h d_M_barred_96.1 (q_p1 hf) (q_p2 hf)
            · refine r_aload_n h d_M_barred_87 0 rfl rfl ?_
              refine r_iconst h d_M_barred_88 ki_3 ?_
              obtain ⟨q89, e89, hf⟩ := q_bind hf
              refine r_callV (As := [.int (3 : Int32)]) (rest := []) h sh_YM_0 lk_M_305 vk_M_305 d_M_barred_89 (by decide) rfl rfl (Nat.le_of_ble_eq_true rfl) (m_M_failed e89) ?_
              refine r_goto h d_M_barred_92 ?_
              exact r_ireturn h d_M_barred_96.1 (q_p1 hf) (q_p2 hf)
          · refine r_aload_n h d_M_barred_66 0 rfl rfl ?_
            refine r_iconst h d_M_barred_67 ki_4 ?_
            obtain ⟨q68, e68, hf⟩ := q_bind hf
            refine r_callV (As := [.int (4 : Int32)]) (rest := []) h sh_YM_0 lk_M_305 vk_M_305 d_M_barred_68 (by decide) rfl rfl (Nat.le_of_ble_eq_true rfl) (m_M_failed e68) ?_
            exact r_ireturn h d_M_barred_71.1 (q_p1 hf) (q_p2 hf)
        · refine r_aload_n h d_M_barred_53 0 rfl rfl ?_
          refine r_iconst h d_M_barred_54 ki_1 ?_
          obtain ⟨q55, e55, hf⟩ := q_bind hf
          refine r_callV (As := [.int (1 : Int32)]) (rest := []) h sh_YM_0 lk_M_305 vk_M_305 d_M_barred_55 (by decide) rfl rfl (Nat.le_of_ble_eq_true rfl) (m_M_failed e55) ?_
          exact r_ireturn h d_M_barred_58.1 (q_p1 hf) (q_p2 hf)
      · refine r_aload_n h d_M_barred_38 0 rfl rfl ?_
        refine r_iconst h d_M_barred_39 ki_2 ?_
        obtain ⟨q40, e40, hf⟩ := q_bind hf
        refine r_callV (As := [.int (2 : Int32)]) (rest := []) h sh_YM_0 lk_M_305 vk_M_305 d_M_barred_40 (by decide) rfl rfl (Nat.le_of_ble_eq_true rfl) (m_M_failed e40) ?_
        exact r_ireturn h d_M_barred_43.1 (q_p1 hf) (q_p2 hf)
  · refine r_aload_n h d_M_barred_12 0 rfl rfl ?_
    refine r_bipush h d_M_barred_13 kb_m2 ?_
    obtain ⟨q15, e15, hf⟩ := q_bind hf
    refine r_callV (As := [.int (-2 : Int32)]) (rest := []) h sh_YM_0 lk_M_294 vk_M_294 d_M_barred_15 (by decide) rfl rfl (Nat.le_of_ble_eq_true rfl) (m_M_refused e15) ?_
    exact r_ireturn h d_M_barred_18.1 (q_p1 hf) (q_p2 hf)

theorem d_M_entriesOf_0 : decode c_M_entriesOf 0 = .ok (.iconst 0, 1) ∧ 0 + 1 = 1 := by decide +kernel
theorem d_M_entriesOf_1 : decode c_M_entriesOf 1 = .ok (.istore_n 2, 1) ∧ 1 + 1 = 2 := by decide +kernel
theorem d_M_entriesOf_2 : decode c_M_entriesOf 2 = .ok (.iconst 0, 1) ∧ 2 + 1 = 3 := by decide +kernel
theorem d_M_entriesOf_3 : decode c_M_entriesOf 3 = .ok (.istore_n 3, 1) ∧ 3 + 1 = 4 := by decide +kernel
theorem d_M_entriesOf_4 : decode c_M_entriesOf 4 = .ok (.iload_n 3, 1) ∧ 4 + 1 = 5 := by decide +kernel
theorem d_M_entriesOf_5 : decode c_M_entriesOf 5 = .ok (.aload_n 0, 1) ∧ 5 + 1 = 6 := by decide +kernel
theorem d_M_entriesOf_6 : decode c_M_entriesOf 6 = .ok (.getfield 268, 3) ∧ 6 + 3 = 9 := by decide +kernel
theorem d_M_entriesOf_9 : decode c_M_entriesOf 9 = .ok (.if_icmp .ge 27, 3) ∧ 9 + 3 = 12 ∧ ((9 : Nat) : Int) + 27 = ((36 : Nat) : Int) := by decide +kernel
theorem d_M_entriesOf_12 : decode c_M_entriesOf 12 = .ok (.iload_n 2, 1) ∧ 12 + 1 = 13 := by decide +kernel
theorem d_M_entriesOf_13 : decode c_M_entriesOf 13 = .ok (.aload_n 0, 1) ∧ 13 + 1 = 14 := by decide +kernel
theorem d_M_entriesOf_14 : decode c_M_entriesOf 14 = .ok (.getfield 43, 3) ∧ 14 + 3 = 17 := by decide +kernel
theorem d_M_entriesOf_17 : decode c_M_entriesOf 17 = .ok (.iload_n 3, 1) ∧ 17 + 1 = 18 := by decide +kernel
theorem d_M_entriesOf_18 : decode c_M_entriesOf 18 = .ok (.iaload, 1) ∧ 18 + 1 = 19 := by decide +kernel
theorem d_M_entriesOf_19 : decode c_M_entriesOf 19 = .ok (.iload_n 1, 1) ∧ 19 + 1 = 20 := by decide +kernel
theorem d_M_entriesOf_20 : decode c_M_entriesOf 20 = .ok (.if_icmp .ne 7, 3) ∧ 20 + 3 = 23 ∧ ((20 : Nat) : Int) + 7 = ((27 : Nat) : Int) := by decide +kernel
theorem d_M_entriesOf_23 : decode c_M_entriesOf 23 = .ok (.iconst 1, 1) ∧ 23 + 1 = 24 := by decide +kernel
theorem d_M_entriesOf_24 : decode c_M_entriesOf 24 = .ok (.goto 4, 3) ∧ (24 : Int) + 4 = (28 : Int) := by decide +kernel
theorem d_M_entriesOf_27 : decode c_M_entriesOf 27 = .ok (.iconst 0, 1) ∧ 27 + 1 = 28 := by decide +kernel
theorem d_M_entriesOf_28 : decode c_M_entriesOf 28 = .ok (.iadd, 1) ∧ 28 + 1 = 29 := by decide +kernel
theorem d_M_entriesOf_29 : decode c_M_entriesOf 29 = .ok (.istore_n 2, 1) ∧ 29 + 1 = 30 := by decide +kernel
theorem d_M_entriesOf_30 : decode c_M_entriesOf 30 = .ok (.iinc 3 1, 3) ∧ 30 + 3 = 33 := by decide +kernel
theorem d_M_entriesOf_33 : decode c_M_entriesOf 33 = .ok (.goto (-29), 3) ∧ (33 : Int) + (-29) = (4 : Int) := by decide +kernel
theorem d_M_entriesOf_36 : decode c_M_entriesOf 36 = .ok (.iload_n 2, 1) ∧ 36 + 1 = 37 := by decide +kernel
theorem d_M_entriesOf_37 : decode c_M_entriesOf 37 = .ok (.ireturn, 1) ∧ 37 + 1 = 38 := by decide +kernel
set_option maxHeartbeats 4000000 in
theorem w_M_entriesOf_L4 {Z : Sy} {Γ : Nat → List (Nat × Value) → List Value → St → Prop} {res : Int32} {x1 : Int32} {σ : St} (h : IsG YM Z R_M c_M_entriesOf 4 1 (some .int) (some (.int res)) σ Γ) : ∀ (n : Nat) (x2 : Int32) (x3 : Int32), M_entriesOf_L4 x1 σ n x2 x3 = some res → Γ 4 [(0, .ref (ya Z 0)), (1, .int x1), (2, .int x2), (3, .int x3)] [] σ := by
  intro n
  induction n with
  | zero => intro x2 x3 hf; exact absurd hf (by simp [M_entriesOf_L4])
  | succ n ih =>
    intro x2 x3 hf
    rw [M_entriesOf_L4] at hf
    refine r_iload_n h d_M_entriesOf_4 3 rfl rfl ?_
    refine r_aload_n h d_M_entriesOf_5 0 rfl rfl ?_
    refine r_getI h fd_YM_0_17 cf_M fl_M_268 d_M_entriesOf_6 ?_
    refine r_icmp_ge h d_M_entriesOf_9 hf (fun hf => ?_) (fun hf => ?_)
    · refine r_iload_n h d_M_entriesOf_36 2 rfl rfl ?_
      exact r_ireturn h d_M_entriesOf_37.1 (Option.some.inj hf) rfl
    · refine r_iload_n h d_M_entriesOf_12 2 rfl rfl ?_
      refine r_aload_n h d_M_entriesOf_13 0 rfl rfl ?_
      refine r_getR h fd_YM_0_18 cf_M fl_M_43 d_M_entriesOf_14 ?_
      refine r_iload_n h d_M_entriesOf_17 3 rfl rfl ?_
      refine r_iald h sh_YM_12 d_M_entriesOf_18 hf (fun hf => ?_)
      refine r_iload_n h d_M_entriesOf_19 1 rfl rfl ?_
      refine r_icmp_ne h d_M_entriesOf_20 hf (fun hf => ?_) (fun hf => ?_)
      · refine r_iconst h d_M_entriesOf_27 ki_0 ?_
        refine r_iadd h d_M_entriesOf_28 ?_
        refine r_istore_n (ls' := [(2, .int (x2 + (0 : Int32))), (0, .ref (ya Z 0)), (1, .int x1), (3, .int x3)]) h d_M_entriesOf_29 rfl (by decide) rfl ?_
        refine r_iinc (ls' := [(3, .int (x3 + (1 : Int32))), (2, .int (x2 + (0 : Int32))), (0, .ref (ya Z 0)), (1, .int x1)]) h d_M_entriesOf_30 3 rfl ki_1 (by decide) rfl ?_
        refine r_goto h d_M_entriesOf_33 ?_
        refine r_sub h [2, 3, 1, 0] rfl ?_
        exact ih _ _ hf
      · refine r_iconst h d_M_entriesOf_23 ki_1 ?_
        refine r_goto h d_M_entriesOf_24 ?_
        refine r_iadd h d_M_entriesOf_28 ?_
        refine r_istore_n (ls' := [(2, .int (x2 + (1 : Int32))), (0, .ref (ya Z 0)), (1, .int x1), (3, .int x3)]) h d_M_entriesOf_29 rfl (by decide) rfl ?_
        refine r_iinc (ls' := [(3, .int (x3 + (1 : Int32))), (2, .int (x2 + (1 : Int32))), (0, .ref (ya Z 0)), (1, .int x1)]) h d_M_entriesOf_30 3 rfl ki_1 (by decide) rfl ?_
        refine r_goto h d_M_entriesOf_33 ?_
        refine r_sub h [2, 3, 1, 0] rfl ?_
        exact ih _ _ hf

set_option maxHeartbeats 4000000 in
theorem m_M_entriesOf {Z : Sy} {σ : St} {res : Int32} {x1 : Int32} (hf : M_entriesOf x1 σ = some res) : Ct YM Z y_M_entriesOf c_M_entriesOf 4 (some .int) 1 [.ref (ya Z 0), .int x1] σ (some (.int res)) σ := by
  refine Ct.of pn_M (Nat.le_of_ble_eq_true rfl) rfl (fun Γ h => ?_)
  have h : IsG YM Z R_M c_M_entriesOf 4 1 (some .int) (some (.int res)) σ Γ := h
  unfold M_entriesOf at hf
  refine r_iconst h d_M_entriesOf_0 ki_0 ?_
  refine r_istore_n (ls' := [(2, .int (0 : Int32)), (0, .ref (ya Z 0)), (1, .int x1)]) h d_M_entriesOf_1 rfl (by decide) rfl ?_
  refine r_iconst h d_M_entriesOf_2 ki_0 ?_
  refine r_istore_n (ls' := [(3, .int (0 : Int32)), (2, .int (0 : Int32)), (0, .ref (ya Z 0)), (1, .int x1)]) h d_M_entriesOf_3 rfl (by decide) rfl ?_
  refine r_sub h [2, 3, 1, 0] rfl ?_
  exact w_M_entriesOf_L4 h _ _ _ hf

theorem d_M_entries_0 : decode c_M_entries 0 = .ok (.aload_n 0, 1) ∧ 0 + 1 = 1 := by decide +kernel
theorem d_M_entries_1 : decode c_M_entries 1 = .ok (.iload_n 1, 1) ∧ 1 + 1 = 2 := by decide +kernel
theorem d_M_entries_2 : decode c_M_entries 2 = .ok (.invokevirtual 284, 3) ∧ 2 + 3 = 5 := by decide +kernel
theorem d_M_entries_5 : decode c_M_entries 5 = .ok (.ifCond .ne 10, 3) ∧ 5 + 3 = 8 ∧ ((5 : Nat) : Int) + 10 = ((15 : Nat) : Int) := by decide +kernel
theorem d_M_entries_8 : decode c_M_entries 8 = .ok (.iload_n 2, 1) ∧ 8 + 1 = 9 := by decide +kernel
theorem d_M_entries_9 : decode c_M_entries 9 = .ok (.invokestatic 291, 3) ∧ 9 + 3 = 12 := by decide +kernel
theorem d_M_entries_12 : decode c_M_entries 12 = .ok (.ifCond .eq 9, 3) ∧ 12 + 3 = 15 ∧ ((12 : Nat) : Int) + 9 = ((21 : Nat) : Int) := by decide +kernel
theorem d_M_entries_15 : decode c_M_entries 15 = .ok (.aload_n 0, 1) ∧ 15 + 1 = 16 := by decide +kernel
theorem d_M_entries_16 : decode c_M_entries 16 = .ok (.iconst (-1), 1) ∧ 16 + 1 = 17 := by decide +kernel
theorem d_M_entries_17 : decode c_M_entries 17 = .ok (.invokevirtual 294, 3) ∧ 17 + 3 = 20 := by decide +kernel
theorem d_M_entries_20 : decode c_M_entries 20 = .ok (.ireturn, 1) ∧ 20 + 1 = 21 := by decide +kernel
theorem d_M_entries_21 : decode c_M_entries 21 = .ok (.aload_n 0, 1) ∧ 21 + 1 = 22 := by decide +kernel
theorem d_M_entries_22 : decode c_M_entries 22 = .ok (.iload_n 2, 1) ∧ 22 + 1 = 23 := by decide +kernel
theorem d_M_entries_23 : decode c_M_entries 23 = .ok (.iload_n 3, 1) ∧ 23 + 1 = 24 := by decide +kernel
theorem d_M_entries_24 : decode c_M_entries 24 = .ok (.iload 4, 2) ∧ 24 + 2 = 26 := by decide +kernel
theorem d_M_entries_26 : decode c_M_entries 26 = .ok (.ldc2_w 271, 3) ∧ 26 + 3 = 29 := by decide +kernel
theorem d_M_entries_29 : decode c_M_entries 29 = .ok (.iload 5, 2) ∧ 29 + 2 = 31 := by decide +kernel
theorem d_M_entries_31 : decode c_M_entries 31 = .ok (.i2l, 1) ∧ 31 + 1 = 32 := by decide +kernel
theorem d_M_entries_32 : decode c_M_entries 32 = .ok (.lmul, 1) ∧ 32 + 1 = 33 := by decide +kernel
theorem d_M_entries_33 : decode c_M_entries 33 = .ok (.invokevirtual 298, 3) ∧ 33 + 3 = 36 := by decide +kernel
theorem d_M_entries_36 : decode c_M_entries 36 = .ok (.istore 6, 2) ∧ 36 + 2 = 38 := by decide +kernel
theorem d_M_entries_38 : decode c_M_entries 38 = .ok (.iload 6, 2) ∧ 38 + 2 = 40 := by decide +kernel
theorem d_M_entries_40 : decode c_M_entries 40 = .ok (.ifCond .ge 6, 3) ∧ 40 + 3 = 43 ∧ ((40 : Nat) : Int) + 6 = ((46 : Nat) : Int) := by decide +kernel
theorem d_M_entries_43 : decode c_M_entries 43 = .ok (.iload 6, 2) ∧ 43 + 2 = 45 := by decide +kernel
theorem d_M_entries_45 : decode c_M_entries 45 = .ok (.ireturn, 1) ∧ 45 + 1 = 46 := by decide +kernel
theorem d_M_entries_46 : decode c_M_entries 46 = .ok (.aload_n 0, 1) ∧ 46 + 1 = 47 := by decide +kernel
theorem d_M_entries_47 : decode c_M_entries 47 = .ok (.getfield 268, 3) ∧ 47 + 3 = 50 := by decide +kernel
theorem d_M_entries_50 : decode c_M_entries 50 = .ok (.istore 7, 2) ∧ 50 + 2 = 52 := by decide +kernel
theorem d_M_entries_52 : decode c_M_entries 52 = .ok (.iconst 0, 1) ∧ 52 + 1 = 53 := by decide +kernel
theorem d_M_entries_53 : decode c_M_entries 53 = .ok (.istore 8, 2) ∧ 53 + 2 = 55 := by decide +kernel
theorem d_M_entries_55 : decode c_M_entries 55 = .ok (.iload 8, 2) ∧ 55 + 2 = 57 := by decide +kernel
theorem d_M_entries_57 : decode c_M_entries 57 = .ok (.iload 5, 2) ∧ 57 + 2 = 59 := by decide +kernel
theorem d_M_entries_59 : decode c_M_entries 59 = .ok (.if_icmp .ge 83, 3) ∧ 59 + 3 = 62 ∧ ((59 : Nat) : Int) + 83 = ((142 : Nat) : Int) := by decide +kernel
theorem d_M_entries_62 : decode c_M_entries 62 = .ok (.bipush 60, 2) ∧ 62 + 2 = 64 := by decide +kernel
theorem d_M_entries_64 : decode c_M_entries 64 = .ok (.iload_n 2, 1) ∧ 64 + 1 = 65 := by decide +kernel
theorem d_M_entries_65 : decode c_M_entries 65 = .ok (.imul, 1) ∧ 65 + 1 = 66 := by decide +kernel
theorem d_M_entries_66 : decode c_M_entries 66 = .ok (.iload 4, 2) ∧ 66 + 2 = 68 := by decide +kernel
theorem d_M_entries_68 : decode c_M_entries 68 = .ok (.iadd, 1) ∧ 68 + 1 = 69 := by decide +kernel
theorem d_M_entries_69 : decode c_M_entries 69 = .ok (.iconst 4, 1) ∧ 69 + 1 = 70 := by decide +kernel
theorem d_M_entries_70 : decode c_M_entries 70 = .ok (.iload 8, 2) ∧ 70 + 2 = 72 := by decide +kernel
theorem d_M_entries_72 : decode c_M_entries 72 = .ok (.imul, 1) ∧ 72 + 1 = 73 := by decide +kernel
theorem d_M_entries_73 : decode c_M_entries 73 = .ok (.iadd, 1) ∧ 73 + 1 = 74 := by decide +kernel
theorem d_M_entries_74 : decode c_M_entries 74 = .ok (.istore 9, 2) ∧ 74 + 2 = 76 := by decide +kernel
theorem d_M_entries_76 : decode c_M_entries 76 = .ok (.aload_n 0, 1) ∧ 76 + 1 = 77 := by decide +kernel
theorem d_M_entries_77 : decode c_M_entries 77 = .ok (.iload_n 1, 1) ∧ 77 + 1 = 78 := by decide +kernel
theorem d_M_entries_78 : decode c_M_entries 78 = .ok (.aload_n 0, 1) ∧ 78 + 1 = 79 := by decide +kernel
theorem d_M_entries_79 : decode c_M_entries 79 = .ok (.getfield 191, 3) ∧ 79 + 3 = 82 := by decide +kernel
theorem d_M_entries_82 : decode c_M_entries 82 = .ok (.iload 9, 2) ∧ 82 + 2 = 84 := by decide +kernel
theorem d_M_entries_84 : decode c_M_entries 84 = .ok (.iaload, 1) ∧ 84 + 1 = 85 := by decide +kernel
theorem d_M_entries_85 : decode c_M_entries 85 = .ok (.aload_n 0, 1) ∧ 85 + 1 = 86 := by decide +kernel
theorem d_M_entries_86 : decode c_M_entries 86 = .ok (.getfield 191, 3) ∧ 86 + 3 = 89 := by decide +kernel
theorem d_M_entries_89 : decode c_M_entries 89 = .ok (.iload 9, 2) ∧ 89 + 2 = 91 := by decide +kernel
theorem d_M_entries_91 : decode c_M_entries 91 = .ok (.iconst 1, 1) ∧ 91 + 1 = 92 := by decide +kernel
theorem d_M_entries_92 : decode c_M_entries 92 = .ok (.iadd, 1) ∧ 92 + 1 = 93 := by decide +kernel
theorem d_M_entries_93 : decode c_M_entries 93 = .ok (.iaload, 1) ∧ 93 + 1 = 94 := by decide +kernel
theorem d_M_entries_94 : decode c_M_entries 94 = .ok (.aload_n 0, 1) ∧ 94 + 1 = 95 := by decide +kernel
theorem d_M_entries_95 : decode c_M_entries 95 = .ok (.getfield 191, 3) ∧ 95 + 3 = 98 := by decide +kernel
theorem d_M_entries_98 : decode c_M_entries 98 = .ok (.iload 9, 2) ∧ 98 + 2 = 100 := by decide +kernel
theorem d_M_entries_100 : decode c_M_entries 100 = .ok (.iconst 2, 1) ∧ 100 + 1 = 101 := by decide +kernel
theorem d_M_entries_101 : decode c_M_entries 101 = .ok (.iadd, 1) ∧ 101 + 1 = 102 := by decide +kernel
theorem d_M_entries_102 : decode c_M_entries 102 = .ok (.iaload, 1) ∧ 102 + 1 = 103 := by decide +kernel
theorem d_M_entries_103 : decode c_M_entries 103 = .ok (.iconst 1, 1) ∧ 103 + 1 = 104 := by decide +kernel
theorem d_M_entries_104 : decode c_M_entries 104 = .ok (.aload_n 0, 1) ∧ 104 + 1 = 105 := by decide +kernel
theorem d_M_entries_105 : decode c_M_entries 105 = .ok (.getfield 191, 3) ∧ 105 + 3 = 108 := by decide +kernel
theorem d_M_entries_108 : decode c_M_entries 108 = .ok (.iload 9, 2) ∧ 108 + 2 = 110 := by decide +kernel
theorem d_M_entries_110 : decode c_M_entries 110 = .ok (.iconst 3, 1) ∧ 110 + 1 = 111 := by decide +kernel
theorem d_M_entries_111 : decode c_M_entries 111 = .ok (.iadd, 1) ∧ 111 + 1 = 112 := by decide +kernel
theorem d_M_entries_112 : decode c_M_entries 112 = .ok (.iaload, 1) ∧ 112 + 1 = 113 := by decide +kernel
theorem d_M_entries_113 : decode c_M_entries 113 = .ok (.invokevirtual 287, 3) ∧ 113 + 3 = 116 := by decide +kernel
theorem d_M_entries_116 : decode c_M_entries 116 = .ok (.istore 10, 2) ∧ 116 + 2 = 118 := by decide +kernel
theorem d_M_entries_118 : decode c_M_entries 118 = .ok (.iload 10, 2) ∧ 118 + 2 = 120 := by decide +kernel
theorem d_M_entries_120 : decode c_M_entries 120 = .ok (.ifCond .ge 16, 3) ∧ 120 + 3 = 123 ∧ ((120 : Nat) : Int) + 16 = ((136 : Nat) : Int) := by decide +kernel
theorem d_M_entries_123 : decode c_M_entries 123 = .ok (.aload_n 0, 1) ∧ 123 + 1 = 124 := by decide +kernel
theorem d_M_entries_124 : decode c_M_entries 124 = .ok (.iload 7, 2) ∧ 124 + 2 = 126 := by decide +kernel
theorem d_M_entries_126 : decode c_M_entries 126 = .ok (.putfield 268, 3) ∧ 126 + 3 = 129 := by decide +kernel
theorem d_M_entries_129 : decode c_M_entries 129 = .ok (.aload_n 0, 1) ∧ 129 + 1 = 130 := by decide +kernel
theorem d_M_entries_130 : decode c_M_entries 130 = .ok (.iload 10, 2) ∧ 130 + 2 = 132 := by decide +kernel
theorem d_M_entries_132 : decode c_M_entries 132 = .ok (.invokevirtual 294, 3) ∧ 132 + 3 = 135 := by decide +kernel
theorem d_M_entries_135 : decode c_M_entries 135 = .ok (.ireturn, 1) ∧ 135 + 1 = 136 := by decide +kernel
theorem d_M_entries_136 : decode c_M_entries 136 = .ok (.iinc 8 1, 3) ∧ 136 + 3 = 139 := by decide +kernel
theorem d_M_entries_139 : decode c_M_entries 139 = .ok (.goto (-84), 3) ∧ (139 : Int) + (-84) = (55 : Int) := by decide +kernel
theorem d_M_entries_142 : decode c_M_entries 142 = .ok (.aload_n 0, 1) ∧ 142 + 1 = 143 := by decide +kernel
theorem d_M_entries_143 : decode c_M_entries 143 = .ok (.aload_n 0, 1) ∧ 143 + 1 = 144 := by decide +kernel
theorem d_M_entries_144 : decode c_M_entries 144 = .ok (.iload_n 1, 1) ∧ 144 + 1 = 145 := by decide +kernel
theorem d_M_entries_145 : decode c_M_entries 145 = .ok (.invokevirtual 302, 3) ∧ 145 + 3 = 148 := by decide +kernel
theorem d_M_entries_148 : decode c_M_entries 148 = .ok (.invokevirtual 294, 3) ∧ 148 + 3 = 151 := by decide +kernel
theorem d_M_entries_151 : decode c_M_entries 151 = .ok (.ireturn, 1) ∧ 151 + 1 = 152 := by decide +kernel
set_option maxHeartbeats 4000000 in
theorem w_M_entries_L55 {Z : Sy} {Γ : Nat → List (Nat × Value) → List Value → St → Prop} {res : (Int32 × St)} {x1 : Int32} {x2 : Int32} {x4 : Int32} {x5 : Int32} {x7 : Int32} (h : IsG YM Z R_M c_M_entries 11 4 (some .int) (some (.int res.1)) res.2 Γ) : ∀ (n : Nat) (x8 : Int32) (σ : St), M_entries_L55 x1 x2 x4 x5 x7 n x8 σ = some res → Γ 55 [(0, .ref (ya Z 0)), (1, .int x1), (2, .int x2), (4, .int x4), (5, .int x5), (7, .int x7), (8, .int x8)] [] σ := by
  intro n
  induction n with
  | zero => intro x8 σ hf; exact absurd hf (by simp [M_entries_L55])
  | succ n ih =>
    intro x8 σ hf
    rw [M_entries_L55] at hf
    refine r_iload h d_M_entries_55 6 rfl ?_
    refine r_iload h d_M_entries_57 4 rfl ?_
    refine r_icmp_ge h d_M_entries_59 hf (fun hf => ?_) (fun hf => ?_)
    · refine r_aload_n h d_M_entries_142 0 rfl rfl ?_
      refine r_aload_n h d_M_entries_143 0 rfl rfl ?_
      refine r_iload_n h d_M_entries_144 1 rfl rfl ?_
      obtain ⟨r145, e145, hf⟩ := q_bind hf
      refine r_callV (As := [.int x1]) (rest := [.ref (ya Z 0)]) h sh_YM_0 lk_M_302 vk_M_302 d_M_entries_145 (by decide) rfl rfl (Nat.le_of_ble_eq_true rfl) (m_M_entriesOf e145) ?_
      obtain ⟨q148, e148, hf⟩ := q_bind hf
      refine r_callV (As := [.int r145]) (rest := []) h sh_YM_0 lk_M_294 vk_M_294 d_M_entries_148 (by decide) rfl rfl (Nat.le_of_ble_eq_true rfl) (m_M_refused e148) ?_
      exact r_ireturn h d_M_entries_151.1 (q_p1 hf) (q_p2 hf)
    · refine r_bipush h d_M_entries_62 kb_60 ?_
      refine r_iload_n h d_M_entries_64 2 rfl rfl ?_
      refine r_imul h d_M_entries_65 ?_
      refine r_iload h d_M_entries_66 3 rfl ?_
      refine r_iadd h d_M_entries_68 ?_
      refine r_iconst h d_M_entries_69 ki_4 ?_
      refine r_iload h d_M_entries_70 6 rfl ?_
      refine r_imul h d_M_entries_72 ?_
      refine r_iadd h d_M_entries_73 ?_
      refine r_istore (ls' := [(9, .int ((((60 : Int32) * x2) + x4) + ((4 : Int32) * x8))), (0, .ref (ya Z 0)), (1, .int x1), (2, .int x2), (4, .int x4), (5, .int x5), (7, .int x7), (8, .int x8)]) h d_M_entries_74 (by decide) rfl ?_
      refine r_aload_n h d_M_entries_76 1 rfl rfl ?_
      refine r_iload_n h d_M_entries_77 2 rfl rfl ?_
      refine r_aload_n h d_M_entries_78 1 rfl rfl ?_
      refine r_getR h fd_YM_0_76 cf_M fl_M_191 d_M_entries_79 ?_
      refine r_iload h d_M_entries_82 0 rfl ?_
      refine r_iald h sh_YM_61 d_M_entries_84 hf (fun hf => ?_)
      refine r_aload_n h d_M_entries_85 1 rfl rfl ?_
      refine r_getR h fd_YM_0_76 cf_M fl_M_191 d_M_entries_86 ?_
      refine r_iload h d_M_entries_89 0 rfl ?_
      refine r_iconst h d_M_entries_91 ki_1 ?_
      refine r_iadd h d_M_entries_92 ?_
      refine r_iald h sh_YM_61 d_M_entries_93 hf (fun hf => ?_)
      refine r_aload_n h d_M_entries_94 1 rfl rfl ?_
      refine r_getR h fd_YM_0_76 cf_M fl_M_191 d_M_entries_95 ?_
      refine r_iload h d_M_entries_98 0 rfl ?_
      refine r_iconst h d_M_entries_100 ki_2 ?_
      refine r_iadd h d_M_entries_101 ?_
      refine r_iald h sh_YM_61 d_M_entries_102 hf (fun hf => ?_)
      refine r_iconst h d_M_entries_103 ki_1 ?_
      refine r_aload_n h d_M_entries_104 1 rfl rfl ?_
      refine r_getR h fd_YM_0_76 cf_M fl_M_191 d_M_entries_105 ?_
      refine r_iload h d_M_entries_108 0 rfl ?_
      refine r_iconst h d_M_entries_110 ki_3 ?_
      refine r_iadd h d_M_entries_111 ?_
      refine r_iald h sh_YM_61 d_M_entries_112 hf (fun hf => ?_)
      obtain ⟨q113, e113, hf⟩ := q_bind hf
      refine r_callV (As := [.int x1, .int (σ.1 61 (Int32.toNatClampNeg ((((60 : Int32) * x2) + x4) + ((4 : Int32) * x8)))), .int (σ.1 61 (Int32.toNatClampNeg (((((60 : Int32) * x2) + x4) + ((4 : Int32) * x8)) + (1 : Int32)))), .int (σ.1 61 (Int32.toNatClampNeg (((((60 : Int32) * x2) + x4) + ((4 : Int32) * x8)) + (2 : Int32)))), .int (1 : Int32), .int (σ.1 61 (Int32.toNatClampNeg (((((60 : Int32) * x2) + x4) + ((4 : Int32) * x8)) + (3 : Int32))))]) (rest := []) h sh_YM_0 lk_M_287 vk_M_287 d_M_entries_113 (by decide) rfl rfl (Nat.le_of_ble_eq_true rfl) (m_M_addEntry e113) ?_
      refine r_istore (ls' := [(10, .int q113.1), (9, .int ((((60 : Int32) * x2) + x4) + ((4 : Int32) * x8))), (0, .ref (ya Z 0)), (1, .int x1), (2, .int x2), (4, .int x4), (5, .int x5), (7, .int x7), (8, .int x8)]) h d_M_entries_116 (by decide) rfl ?_
      refine r_iload h d_M_entries_118 0 rfl ?_
      refine r_if_ge h d_M_entries_120 hf (fun hf => ?_) (fun hf => ?_)
      · refine r_iinc (ls' := [(8, .int (x8 + (1 : Int32))), (10, .int q113.1), (9, .int ((((60 : Int32) * x2) + x4) + ((4 : Int32) * x8))), (0, .ref (ya Z 0)), (1, .int x1), (2, .int x2), (4, .int x4), (5, .int x5), (7, .int x7)]) h d_M_entries_136 8 rfl ki_1 (by decide) rfl ?_
        refine r_goto h d_M_entries_139 ?_
        refine r_sub h [3, 4, 5, 6, 7, 8, 0] rfl ?_
        exact ih _ _ hf
      · refine r_aload_n h d_M_entries_123 2 rfl rfl ?_
        refine r_iload h d_M_entries_124 7 rfl ?_
        refine r_putI h fd_YM_0_17 cf_M fl_M_268 ⟨rfl, rfl⟩ d_M_entries_126 ?_
        refine r_aload_n h d_M_entries_129 2 rfl rfl ?_
        refine r_iload h d_M_entries_130 0 rfl ?_
        obtain ⟨q132, e132, hf⟩ := q_bind hf
        refine r_callV (As := [.int q113.1]) (rest := []) h sh_YM_0 lk_M_294 vk_M_294 d_M_entries_132 (by decide) rfl rfl (Nat.le_of_ble_eq_true rfl) (m_M_refused e132) ?_
        exact r_ireturn h d_M_entries_135.1 (q_p1 hf) (q_p2 hf)

set_option maxHeartbeats 4000000 in
theorem m_M_entries {Z : Sy} {σ : St} {res : (Int32 × St)} {x1 : Int32} {x2 : Int32} {x3 : Int32} {x4 : Int32} {x5 : Int32} (hf : M_entries x1 x2 x3 x4 x5 σ = some res) : Ct YM Z y_M_entries c_M_entries 11 (some .int) 4 [.ref (ya Z 0), .int x1, .int x2, .int x3, .int x4, .int x5] σ (some (.int res.1)) res.2 := by
  refine Ct.of pn_M (Nat.le_of_ble_eq_true rfl) rfl (fun Γ h => ?_)
  have h : IsG YM Z R_M c_M_entries 11 4 (some .int) (some (.int res.1)) res.2 Γ := h
  unfold M_entries at hf
  refine r_aload_n h d_M_entries_0 0 rfl rfl ?_
  refine r_iload_n h d_M_entries_1 1 rfl rfl ?_
  obtain ⟨r2, e2, hf⟩ := q_bind hf
  refine r_callV (As := [.int x1]) (rest := []) h sh_YM_0 lk_M_284 vk_M_284 d_M_entries_2 (by decide) rfl rfl (Nat.le_of_ble_eq_true rfl) (m_M_noPack e2) ?_
  refine r_bif_ne h d_M_entries_5 hf (fun hf => ?_) (fun hf => ?_)
  · refine r_aload_n h d_M_entries_15 0 rfl rfl ?_
    refine r_iconst h d_M_entries_16 ki_m1 ?_
    obtain ⟨q17, e17, hf⟩ := q_bind hf
    refine r_callV (As := [.int (-1 : Int32)]) (rest := []) h sh_YM_0 lk_M_294 vk_M_294 d_M_entries_17 (by decide) rfl rfl (Nat.le_of_ble_eq_true rfl) (m_M_refused e17) ?_
    exact r_ireturn h d_M_entries_20.1 (q_p1 hf) (q_p2 hf)
  · refine r_iload_n h d_M_entries_8 2 rfl rfl ?_
    obtain ⟨r9, e9, hf⟩ := q_bind hf
    refine r_callS (As := [.int x2]) (rest := []) h lk_M_291 sk_M_291 d_M_entries_9 (by decide) rfl rfl (Nat.le_of_ble_eq_true rfl) (m_M_noSheet e9) ?_
    refine r_bif_eq h d_M_entries_12 hf (fun hf => ?_) (fun hf => ?_)
    · refine r_aload_n h d_M_entries_21 0 rfl rfl ?_
      refine r_iload_n h d_M_entries_22 2 rfl rfl ?_
      refine r_iload_n h d_M_entries_23 3 rfl rfl ?_
      refine r_iload h d_M_entries_24 4 rfl ?_
      refine r_ldc2 h d_M_entries_26 tm_1491 ?_
      refine r_iload h d_M_entries_29 5 rfl ?_
      refine r_i2l h d_M_entries_31 ?_
      refine r_lmul h d_M_entries_32 ?_
      obtain ⟨q33, e33, hf⟩ := q_bind hf
      refine r_callV (As := [.int x2, .int x3, .int x4, .long ((4 : Int64) * (Int32.toInt64 x5))]) (rest := []) h sh_YM_0 lk_M_298 vk_M_298 d_M_entries_33 (by decide) rfl rfl (Nat.le_of_ble_eq_true rfl) (m_M_barred e33) ?_
      refine r_istore (ls' := [(6, .int q33.1), (0, .ref (ya Z 0)), (1, .int x1), (2, .int x2), (3, .int x3), (4, .int x4), (5, .int x5)]) h d_M_entries_36 (by decide) rfl ?_
      refine r_iload h d_M_entries_38 0 rfl ?_
      refine r_if_ge h d_M_entries_40 hf (fun hf => ?_) (fun hf => ?_)
      · refine r_aload_n h d_M_entries_46 1 rfl rfl ?_
        refine r_getI h fd_YM_0_17 cf_M fl_M_268 d_M_entries_47 ?_
        refine r_istore (ls' := [(7, .int (q33.2.1 0 17)), (6, .int q33.1), (0, .ref (ya Z 0)), (1, .int x1), (2, .int x2), (3, .int x3), (4, .int x4), (5, .int x5)]) h d_M_entries_50 (by decide) rfl ?_
        refine r_iconst h d_M_entries_52 ki_0 ?_
        refine r_istore (ls' := [(8, .int (0 : Int32)), (7, .int (q33.2.1 0 17)), (6, .int q33.1), (0, .ref (ya Z 0)), (1, .int x1), (2, .int x2), (3, .int x3), (4, .int x4), (5, .int x5)]) h d_M_entries_53 (by decide) rfl ?_
        refine r_sub h [3, 4, 5, 7, 8, 1, 0] rfl ?_
        exact w_M_entries_L55 h _ _ _ hf
      · refine r_iload h d_M_entries_43 0 rfl ?_
        exact r_ireturn h d_M_entries_45.1 (q_p1 hf) (q_p2 hf)
    · refine r_aload_n h d_M_entries_15 0 rfl rfl ?_
      refine r_iconst h d_M_entries_16 ki_m1 ?_
      obtain ⟨q17, e17, hf⟩ := q_bind hf
      refine r_callV (As := [.int (-1 : Int32)]) (rest := []) h sh_YM_0 lk_M_294 vk_M_294 d_M_entries_17 (by decide) rfl rfl (Nat.le_of_ble_eq_true rfl) (m_M_refused e17) ?_
      exact r_ireturn h d_M_entries_20.1 (q_p1 hf) (q_p2 hf)

