theorem d_M_unallowed_0 : decode c_M_unallowed 0 = .ok (.aload_n 0, 1) ∧ 0 + 1 = 1 := by decide +kernel
theorem d_M_unallowed_1 : decode c_M_unallowed 1 = .ok (.iload_n 1, 1) ∧ 1 + 1 = 2 := by decide +kernel
theorem d_M_unallowed_2 : decode c_M_unallowed 2 = .ok (.invokevirtual 284, 3) ∧ 2 + 3 = 5 := by decide +kernel
theorem d_M_unallowed_5 : decode c_M_unallowed 5 = .ok (.ifCond .eq 5, 3) ∧ 5 + 3 = 8 ∧ ((5 : Nat) : Int) + 5 = ((10 : Nat) : Int) := by decide +kernel
theorem d_M_unallowed_8 : decode c_M_unallowed 8 = .ok (.iconst (-1), 1) ∧ 8 + 1 = 9 := by decide +kernel
theorem d_M_unallowed_9 : decode c_M_unallowed 9 = .ok (.ireturn, 1) ∧ 9 + 1 = 10 := by decide +kernel
theorem d_M_unallowed_10 : decode c_M_unallowed 10 = .ok (.iconst 0, 1) ∧ 10 + 1 = 11 := by decide +kernel
theorem d_M_unallowed_11 : decode c_M_unallowed 11 = .ok (.istore_n 2, 1) ∧ 11 + 1 = 12 := by decide +kernel
theorem d_M_unallowed_12 : decode c_M_unallowed 12 = .ok (.iconst 0, 1) ∧ 12 + 1 = 13 := by decide +kernel
theorem d_M_unallowed_13 : decode c_M_unallowed 13 = .ok (.istore_n 3, 1) ∧ 13 + 1 = 14 := by decide +kernel
theorem d_M_unallowed_14 : decode c_M_unallowed 14 = .ok (.iload_n 3, 1) ∧ 14 + 1 = 15 := by decide +kernel
theorem d_M_unallowed_15 : decode c_M_unallowed 15 = .ok (.aload_n 0, 1) ∧ 15 + 1 = 16 := by decide +kernel
theorem d_M_unallowed_16 : decode c_M_unallowed 16 = .ok (.getfield 268, 3) ∧ 16 + 3 = 19 := by decide +kernel
theorem d_M_unallowed_19 : decode c_M_unallowed 19 = .ok (.if_icmp .ge 35, 3) ∧ 19 + 3 = 22 ∧ ((19 : Nat) : Int) + 35 = ((54 : Nat) : Int) := by decide +kernel
theorem d_M_unallowed_22 : decode c_M_unallowed 22 = .ok (.iload_n 2, 1) ∧ 22 + 1 = 23 := by decide +kernel
theorem d_M_unallowed_23 : decode c_M_unallowed 23 = .ok (.aload_n 0, 1) ∧ 23 + 1 = 24 := by decide +kernel
theorem d_M_unallowed_24 : decode c_M_unallowed 24 = .ok (.getfield 43, 3) ∧ 24 + 3 = 27 := by decide +kernel
theorem d_M_unallowed_27 : decode c_M_unallowed 27 = .ok (.iload_n 3, 1) ∧ 27 + 1 = 28 := by decide +kernel
theorem d_M_unallowed_28 : decode c_M_unallowed 28 = .ok (.iaload, 1) ∧ 28 + 1 = 29 := by decide +kernel
theorem d_M_unallowed_29 : decode c_M_unallowed 29 = .ok (.iload_n 1, 1) ∧ 29 + 1 = 30 := by decide +kernel
theorem d_M_unallowed_30 : decode c_M_unallowed 30 = .ok (.if_icmp .ne 15, 3) ∧ 30 + 3 = 33 ∧ ((30 : Nat) : Int) + 15 = ((45 : Nat) : Int) := by decide +kernel
theorem d_M_unallowed_33 : decode c_M_unallowed 33 = .ok (.aload_n 0, 1) ∧ 33 + 1 = 34 := by decide +kernel
theorem d_M_unallowed_34 : decode c_M_unallowed 34 = .ok (.iload_n 3, 1) ∧ 34 + 1 = 35 := by decide +kernel
theorem d_M_unallowed_35 : decode c_M_unallowed 35 = .ok (.invokevirtual 377, 3) ∧ 35 + 3 = 38 := by decide +kernel
theorem d_M_unallowed_38 : decode c_M_unallowed 38 = .ok (.ifCond .eq 7, 3) ∧ 38 + 3 = 41 ∧ ((38 : Nat) : Int) + 7 = ((45 : Nat) : Int) := by decide +kernel
theorem d_M_unallowed_41 : decode c_M_unallowed 41 = .ok (.iconst 1, 1) ∧ 41 + 1 = 42 := by decide +kernel
theorem d_M_unallowed_42 : decode c_M_unallowed 42 = .ok (.goto 4, 3) ∧ (42 : Int) + 4 = (46 : Int) := by decide +kernel
theorem d_M_unallowed_45 : decode c_M_unallowed 45 = .ok (.iconst 0, 1) ∧ 45 + 1 = 46 := by decide +kernel
theorem d_M_unallowed_46 : decode c_M_unallowed 46 = .ok (.iadd, 1) ∧ 46 + 1 = 47 := by decide +kernel
theorem d_M_unallowed_47 : decode c_M_unallowed 47 = .ok (.istore_n 2, 1) ∧ 47 + 1 = 48 := by decide +kernel
theorem d_M_unallowed_48 : decode c_M_unallowed 48 = .ok (.iinc 3 1, 3) ∧ 48 + 3 = 51 := by decide +kernel
theorem d_M_unallowed_51 : decode c_M_unallowed 51 = .ok (.goto (-37), 3) ∧ (51 : Int) + (-37) = (14 : Int) := by decide +kernel
theorem d_M_unallowed_54 : decode c_M_unallowed 54 = .ok (.iload_n 2, 1) ∧ 54 + 1 = 55 := by decide +kernel
theorem d_M_unallowed_55 : decode c_M_unallowed 55 = .ok (.ireturn, 1) ∧ 55 + 1 = 56 := by decide +kernel
set_option maxHeartbeats 4000000 in
theorem w_M_unallowed_L14 {Z : Sy} {Γ : Nat → List (Nat × Value) → List Value → St → Prop} {res : Int32} {x1 : Int32} {σ : St} (h : IsG YM Z R_M c_M_unallowed 4 6 (some .int) (some (.int res)) σ Γ) : ∀ (n : Nat) (x2 : Int32) (x3 : Int32), M_unallowed_L14 x1 σ n x2 x3 = some res → Γ 14 [(0, .ref (ya Z 0)), (1, .int x1), (2, .int x2), (3, .int x3)] [] σ := by
  intro n
  induction n with
  | zero => intro x2 x3 hf; exact absurd hf (by simp [M_unallowed_L14])
  | succ n ih =>
    intro x2 x3 hf
    rw [M_unallowed_L14] at hf
    refine r_iload_n h d_M_unallowed_14 3 rfl rfl ?_
    refine r_aload_n h d_M_unallowed_15 0 rfl rfl ?_
    refine r_getI h fd_YM_0_17 cf_M fl_M_268 d_M_unallowed_16 ?_
    refine r_icmp_ge h d_M_unallowed_19 hf (fun hf => ?_) (fun hf => ?_)
    · refine r_iload_n h d_M_unallowed_54 2 rfl rfl ?_
      exact r_ireturn h d_M_unallowed_55.1 (Option.some.inj hf) rfl
    · refine r_iload_n h d_M_unallowed_22 2 rfl rfl ?_
      refine r_aload_n h d_M_unallowed_23 0 rfl rfl ?_
      refine r_getR h fd_YM_0_18 cf_M fl_M_43 d_M_unallowed_24 ?_
      refine r_iload_n h d_M_unallowed_27 3 rfl rfl ?_
      refine r_iald h sh_YM_12 d_M_unallowed_28 hf (fun hf => ?_)
      refine r_iload_n h d_M_unallowed_29 1 rfl rfl ?_
      refine r_icmp_ne h d_M_unallowed_30 hf (fun hf => ?_) (fun hf => ?_)
      · refine r_iconst h d_M_unallowed_45 ki_0 ?_
        refine r_iadd h d_M_unallowed_46 ?_
        refine r_istore_n (ls' := [(2, .int (x2 + (0 : Int32))), (0, .ref (ya Z 0)), (1, .int x1), (3, .int x3)]) h d_M_unallowed_47 rfl (by decide) rfl ?_
        refine r_iinc (ls' := [(3, .int (x3 + (1 : Int32))), (2, .int (x2 + (0 : Int32))), (0, .ref (ya Z 0)), (1, .int x1)]) h d_M_unallowed_48 3 rfl ki_1 (by decide) rfl ?_
        refine r_goto h d_M_unallowed_51 ?_
        refine r_sub h [2, 3, 1, 0] rfl ?_
        exact ih _ _ hf
      · refine r_aload_n h d_M_unallowed_33 0 rfl rfl ?_
        refine r_iload_n h d_M_unallowed_34 3 rfl rfl ?_
        obtain ⟨r35, e35, hf⟩ := q_bind hf
        refine r_callV (As := [.int x3]) (rest := [.int x2]) h sh_YM_0 lk_M_377 vk_M_377 d_M_unallowed_35 (by decide) rfl rfl (Nat.le_of_ble_eq_true rfl) (m_M_isUnallowed e35) ?_
        refine r_bif_eq h d_M_unallowed_38 hf (fun hf => ?_) (fun hf => ?_)
        · refine r_iconst h d_M_unallowed_45 ki_0 ?_
          refine r_iadd h d_M_unallowed_46 ?_
          refine r_istore_n (ls' := [(2, .int (x2 + (0 : Int32))), (0, .ref (ya Z 0)), (1, .int x1), (3, .int x3)]) h d_M_unallowed_47 rfl (by decide) rfl ?_
          refine r_iinc (ls' := [(3, .int (x3 + (1 : Int32))), (2, .int (x2 + (0 : Int32))), (0, .ref (ya Z 0)), (1, .int x1)]) h d_M_unallowed_48 3 rfl ki_1 (by decide) rfl ?_
          refine r_goto h d_M_unallowed_51 ?_
          refine r_sub h [2, 3, 1, 0] rfl ?_
          exact ih _ _ hf
        · refine r_iconst h d_M_unallowed_41 ki_1 ?_
          refine r_goto h d_M_unallowed_42 ?_
          refine r_iadd h d_M_unallowed_46 ?_
          refine r_istore_n (ls' := [(2, .int (x2 + (1 : Int32))), (0, .ref (ya Z 0)), (1, .int x1), (3, .int x3)]) h d_M_unallowed_47 rfl (by decide) rfl ?_
          refine r_iinc (ls' := [(3, .int (x3 + (1 : Int32))), (2, .int (x2 + (1 : Int32))), (0, .ref (ya Z 0)), (1, .int x1)]) h d_M_unallowed_48 3 rfl ki_1 (by decide) rfl ?_
          refine r_goto h d_M_unallowed_51 ?_
          refine r_sub h [2, 3, 1, 0] rfl ?_
          exact ih _ _ hf

set_option maxHeartbeats 4000000 in
theorem m_M_unallowed {Z : Sy} {σ : St} {res : Int32} {x1 : Int32} (hf : M_unallowed x1 σ = some res) : Ct YM Z y_M_unallowed c_M_unallowed 4 (some .int) 6 [.ref (ya Z 0), .int x1] σ (some (.int res)) σ := by
  refine Ct.of pn_M (Nat.le_of_ble_eq_true rfl) rfl (fun Γ h => ?_)
  have h : IsG YM Z R_M c_M_unallowed 4 6 (some .int) (some (.int res)) σ Γ := h
  unfold M_unallowed at hf
  refine r_aload_n h d_M_unallowed_0 0 rfl rfl ?_
  refine r_iload_n h d_M_unallowed_1 1 rfl rfl ?_
  obtain ⟨r2, e2, hf⟩ := q_bind hf
  refine r_callV (As := [.int x1]) (rest := []) h sh_YM_0 lk_M_284 vk_M_284 d_M_unallowed_2 (by decide) rfl rfl (Nat.le_of_ble_eq_true rfl) (m_M_noPack e2) ?_
  refine r_bif_eq h d_M_unallowed_5 hf (fun hf => ?_) (fun hf => ?_)
  · refine r_iconst h d_M_unallowed_10 ki_0 ?_
    refine r_istore_n (ls' := [(2, .int (0 : Int32)), (0, .ref (ya Z 0)), (1, .int x1)]) h d_M_unallowed_11 rfl (by decide) rfl ?_
    refine r_iconst h d_M_unallowed_12 ki_0 ?_
    refine r_istore_n (ls' := [(3, .int (0 : Int32)), (2, .int (0 : Int32)), (0, .ref (ya Z 0)), (1, .int x1)]) h d_M_unallowed_13 rfl (by decide) rfl ?_
    refine r_sub h [2, 3, 1, 0] rfl ?_
    exact w_M_unallowed_L14 h _ _ _ hf
  · refine r_iconst h d_M_unallowed_8 ki_m1 ?_
    exact r_ireturn h d_M_unallowed_9.1 (Option.some.inj hf) rfl

theorem d_M_door_0 : decode c_M_door 0 = .ok (.aload_n 0, 1) ∧ 0 + 1 = 1 := by decide +kernel
theorem d_M_door_1 : decode c_M_door 1 = .ok (.iload_n 2, 1) ∧ 1 + 1 = 2 := by decide +kernel
theorem d_M_door_2 : decode c_M_door 2 = .ok (.invokevirtual 240, 3) ∧ 2 + 3 = 5 := by decide +kernel
theorem d_M_door_5 : decode c_M_door 5 = .ok (.ifCond .ne 11, 3) ∧ 5 + 3 = 8 ∧ ((5 : Nat) : Int) + 11 = ((16 : Nat) : Int) := by decide +kernel
theorem d_M_door_8 : decode c_M_door 8 = .ok (.aload_n 0, 1) ∧ 8 + 1 = 9 := by decide +kernel
theorem d_M_door_9 : decode c_M_door 9 = .ok (.iload_n 3, 1) ∧ 9 + 1 = 10 := by decide +kernel
theorem d_M_door_10 : decode c_M_door 10 = .ok (.invokevirtual 284, 3) ∧ 10 + 3 = 13 := by decide +kernel
theorem d_M_door_13 : decode c_M_door 13 = .ok (.ifCond .eq 5, 3) ∧ 13 + 3 = 16 ∧ ((13 : Nat) : Int) + 5 = ((18 : Nat) : Int) := by decide +kernel
theorem d_M_door_16 : decode c_M_door 16 = .ok (.iconst (-1), 1) ∧ 16 + 1 = 17 := by decide +kernel
theorem d_M_door_17 : decode c_M_door 17 = .ok (.ireturn, 1) ∧ 17 + 1 = 18 := by decide +kernel
theorem d_M_door_18 : decode c_M_door 18 = .ok (.iload_n 1, 1) ∧ 18 + 1 = 19 := by decide +kernel
theorem d_M_door_19 : decode c_M_door 19 = .ok (.i2l, 1) ∧ 19 + 1 = 20 := by decide +kernel
theorem d_M_door_20 : decode c_M_door 20 = .ok (.lconst 0, 1) ∧ 20 + 1 = 21 := by decide +kernel
theorem d_M_door_21 : decode c_M_door 21 = .ok (.ldc2_w 266, 3) ∧ 21 + 3 = 24 := by decide +kernel
theorem d_M_door_24 : decode c_M_door 24 = .ok (.invokestatic 201, 3) ∧ 24 + 3 = 27 := by decide +kernel
theorem d_M_door_27 : decode c_M_door 27 = .ok (.ifCond .eq 24, 3) ∧ 27 + 3 = 30 ∧ ((27 : Nat) : Int) + 24 = ((51 : Nat) : Int) := by decide +kernel
theorem d_M_door_30 : decode c_M_door 30 = .ok (.iload 4, 2) ∧ 30 + 2 = 32 := by decide +kernel
theorem d_M_door_32 : decode c_M_door 32 = .ok (.i2l, 1) ∧ 32 + 1 = 33 := by decide +kernel
theorem d_M_door_33 : decode c_M_door 33 = .ok (.lconst 1, 1) ∧ 33 + 1 = 34 := by decide +kernel
theorem d_M_door_34 : decode c_M_door 34 = .ok (.ldc2_w 199, 3) ∧ 34 + 3 = 37 := by decide +kernel
theorem d_M_door_37 : decode c_M_door 37 = .ok (.invokestatic 201, 3) ∧ 37 + 3 = 40 := by decide +kernel
theorem d_M_door_40 : decode c_M_door 40 = .ok (.ifCond .eq 11, 3) ∧ 40 + 3 = 43 ∧ ((40 : Nat) : Int) + 11 = ((51 : Nat) : Int) := by decide +kernel
theorem d_M_door_43 : decode c_M_door 43 = .ok (.iload 5, 2) ∧ 43 + 2 = 45 := by decide +kernel
theorem d_M_door_45 : decode c_M_door 45 = .ok (.invokestatic 205, 3) ∧ 45 + 3 = 48 := by decide +kernel
theorem d_M_door_48 : decode c_M_door 48 = .ok (.ifCond .ne 6, 3) ∧ 48 + 3 = 51 ∧ ((48 : Nat) : Int) + 6 = ((54 : Nat) : Int) := by decide +kernel
theorem d_M_door_51 : decode c_M_door 51 = .ok (.bipush (-2), 2) ∧ 51 + 2 = 53 := by decide +kernel
theorem d_M_door_53 : decode c_M_door 53 = .ok (.ireturn, 1) ∧ 53 + 1 = 54 := by decide +kernel
theorem d_M_door_54 : decode c_M_door 54 = .ok (.aload_n 0, 1) ∧ 54 + 1 = 55 := by decide +kernel
theorem d_M_door_55 : decode c_M_door 55 = .ok (.getfield 380, 3) ∧ 55 + 3 = 58 := by decide +kernel
theorem d_M_door_58 : decode c_M_door 58 = .ok (.bipush 20, 2) ∧ 58 + 2 = 60 := by decide +kernel
theorem d_M_door_60 : decode c_M_door 60 = .ok (.if_icmp .ne 6, 3) ∧ 60 + 3 = 63 ∧ ((60 : Nat) : Int) + 6 = ((66 : Nat) : Int) := by decide +kernel
theorem d_M_door_63 : decode c_M_door 63 = .ok (.bipush (-4), 2) ∧ 63 + 2 = 65 := by decide +kernel
theorem d_M_door_65 : decode c_M_door 65 = .ok (.ireturn, 1) ∧ 65 + 1 = 66 := by decide +kernel
theorem d_M_door_66 : decode c_M_door 66 = .ok (.aload_n 0, 1) ∧ 66 + 1 = 67 := by decide +kernel
theorem d_M_door_67 : decode c_M_door 67 = .ok (.getfield 104, 3) ∧ 67 + 3 = 70 := by decide +kernel
theorem d_M_door_70 : decode c_M_door 70 = .ok (.aload_n 0, 1) ∧ 70 + 1 = 71 := by decide +kernel
theorem d_M_door_71 : decode c_M_door 71 = .ok (.getfield 380, 3) ∧ 71 + 3 = 74 := by decide +kernel
theorem d_M_door_74 : decode c_M_door 74 = .ok (.iload_n 1, 1) ∧ 74 + 1 = 75 := by decide +kernel
theorem d_M_door_75 : decode c_M_door 75 = .ok (.iastore, 1) ∧ 75 + 1 = 76 := by decide +kernel
theorem d_M_door_76 : decode c_M_door 76 = .ok (.aload_n 0, 1) ∧ 76 + 1 = 77 := by decide +kernel
theorem d_M_door_77 : decode c_M_door 77 = .ok (.getfield 107, 3) ∧ 77 + 3 = 80 := by decide +kernel
theorem d_M_door_80 : decode c_M_door 80 = .ok (.aload_n 0, 1) ∧ 80 + 1 = 81 := by decide +kernel
theorem d_M_door_81 : decode c_M_door 81 = .ok (.getfield 380, 3) ∧ 81 + 3 = 84 := by decide +kernel
theorem d_M_door_84 : decode c_M_door 84 = .ok (.iload_n 2, 1) ∧ 84 + 1 = 85 := by decide +kernel
theorem d_M_door_85 : decode c_M_door 85 = .ok (.iastore, 1) ∧ 85 + 1 = 86 := by decide +kernel
theorem d_M_door_86 : decode c_M_door 86 = .ok (.aload_n 0, 1) ∧ 86 + 1 = 87 := by decide +kernel
theorem d_M_door_87 : decode c_M_door 87 = .ok (.getfield 110, 3) ∧ 87 + 3 = 90 := by decide +kernel
theorem d_M_door_90 : decode c_M_door 90 = .ok (.aload_n 0, 1) ∧ 90 + 1 = 91 := by decide +kernel
theorem d_M_door_91 : decode c_M_door 91 = .ok (.getfield 380, 3) ∧ 91 + 3 = 94 := by decide +kernel
theorem d_M_door_94 : decode c_M_door 94 = .ok (.iload_n 3, 1) ∧ 94 + 1 = 95 := by decide +kernel
theorem d_M_door_95 : decode c_M_door 95 = .ok (.iastore, 1) ∧ 95 + 1 = 96 := by decide +kernel
theorem d_M_door_96 : decode c_M_door 96 = .ok (.aload_n 0, 1) ∧ 96 + 1 = 97 := by decide +kernel
theorem d_M_door_97 : decode c_M_door 97 = .ok (.getfield 113, 3) ∧ 97 + 3 = 100 := by decide +kernel
theorem d_M_door_100 : decode c_M_door 100 = .ok (.aload_n 0, 1) ∧ 100 + 1 = 101 := by decide +kernel
theorem d_M_door_101 : decode c_M_door 101 = .ok (.getfield 380, 3) ∧ 101 + 3 = 104 := by decide +kernel
theorem d_M_door_104 : decode c_M_door 104 = .ok (.iload 4, 2) ∧ 104 + 2 = 106 := by decide +kernel
theorem d_M_door_106 : decode c_M_door 106 = .ok (.iastore, 1) ∧ 106 + 1 = 107 := by decide +kernel
theorem d_M_door_107 : decode c_M_door 107 = .ok (.aload_n 0, 1) ∧ 107 + 1 = 108 := by decide +kernel
theorem d_M_door_108 : decode c_M_door 108 = .ok (.getfield 116, 3) ∧ 108 + 3 = 111 := by decide +kernel
theorem d_M_door_111 : decode c_M_door 111 = .ok (.aload_n 0, 1) ∧ 111 + 1 = 112 := by decide +kernel
theorem d_M_door_112 : decode c_M_door 112 = .ok (.getfield 380, 3) ∧ 112 + 3 = 115 := by decide +kernel
theorem d_M_door_115 : decode c_M_door 115 = .ok (.iload 5, 2) ∧ 115 + 2 = 117 := by decide +kernel
theorem d_M_door_117 : decode c_M_door 117 = .ok (.iastore, 1) ∧ 117 + 1 = 118 := by decide +kernel
theorem d_M_door_118 : decode c_M_door 118 = .ok (.aload_n 0, 1) ∧ 118 + 1 = 119 := by decide +kernel
theorem d_M_door_119 : decode c_M_door 119 = .ok (.getfield 119, 3) ∧ 119 + 3 = 122 := by decide +kernel
theorem d_M_door_122 : decode c_M_door 122 = .ok (.aload_n 0, 1) ∧ 122 + 1 = 123 := by decide +kernel
theorem d_M_door_123 : decode c_M_door 123 = .ok (.getfield 380, 3) ∧ 123 + 3 = 126 := by decide +kernel
theorem d_M_door_126 : decode c_M_door 126 = .ok (.iconst 0, 1) ∧ 126 + 1 = 127 := by decide +kernel
theorem d_M_door_127 : decode c_M_door 127 = .ok (.iastore, 1) ∧ 127 + 1 = 128 := by decide +kernel
theorem d_M_door_128 : decode c_M_door 128 = .ok (.aload_n 0, 1) ∧ 128 + 1 = 129 := by decide +kernel
theorem d_M_door_129 : decode c_M_door 129 = .ok (.getfield 122, 3) ∧ 129 + 3 = 132 := by decide +kernel
theorem d_M_door_132 : decode c_M_door 132 = .ok (.aload_n 0, 1) ∧ 132 + 1 = 133 := by decide +kernel
theorem d_M_door_133 : decode c_M_door 133 = .ok (.getfield 380, 3) ∧ 133 + 3 = 136 := by decide +kernel
theorem d_M_door_136 : decode c_M_door 136 = .ok (.aload_n 0, 1) ∧ 136 + 1 = 137 := by decide +kernel
theorem d_M_door_137 : decode c_M_door 137 = .ok (.getfield 37, 3) ∧ 137 + 3 = 140 := by decide +kernel
theorem d_M_door_140 : decode c_M_door 140 = .ok (.iload_n 3, 1) ∧ 140 + 1 = 141 := by decide +kernel
theorem d_M_door_141 : decode c_M_door 141 = .ok (.iaload, 1) ∧ 141 + 1 = 142 := by decide +kernel
theorem d_M_door_142 : decode c_M_door 142 = .ok (.iastore, 1) ∧ 142 + 1 = 143 := by decide +kernel
theorem d_M_door_143 : decode c_M_door 143 = .ok (.aload_n 0, 1) ∧ 143 + 1 = 144 := by decide +kernel
theorem d_M_door_144 : decode c_M_door 144 = .ok (.dup, 1) ∧ 144 + 1 = 145 := by decide +kernel
theorem d_M_door_145 : decode c_M_door 145 = .ok (.getfield 380, 3) ∧ 145 + 3 = 148 := by decide +kernel
theorem d_M_door_148 : decode c_M_door 148 = .ok (.iconst 1, 1) ∧ 148 + 1 = 149 := by decide +kernel
theorem d_M_door_149 : decode c_M_door 149 = .ok (.iadd, 1) ∧ 149 + 1 = 150 := by decide +kernel
theorem d_M_door_150 : decode c_M_door 150 = .ok (.putfield 380, 3) ∧ 150 + 3 = 153 := by decide +kernel
theorem d_M_door_153 : decode c_M_door 153 = .ok (.aload_n 0, 1) ∧ 153 + 1 = 154 := by decide +kernel
theorem d_M_door_154 : decode c_M_door 154 = .ok (.getfield 380, 3) ∧ 154 + 3 = 157 := by decide +kernel
theorem d_M_door_157 : decode c_M_door 157 = .ok (.iconst 1, 1) ∧ 157 + 1 = 158 := by decide +kernel
theorem d_M_door_158 : decode c_M_door 158 = .ok (.isub, 1) ∧ 158 + 1 = 159 := by decide +kernel
theorem d_M_door_159 : decode c_M_door 159 = .ok (.ireturn, 1) ∧ 159 + 1 = 160 := by decide +kernel
set_option maxHeartbeats 4000000 in
theorem m_M_door {Z : Sy} {σ : St} {res : (Int32 × St)} {x1 : Int32} {x2 : Int32} {x3 : Int32} {x4 : Int32} {x5 : Int32} (hf : M_door x1 x2 x3 x4 x5 σ = some res) : Ct YM Z y_M_door c_M_door 6 (some .int) 3 [.ref (ya Z 0), .int x1, .int x2, .int x3, .int x4, .int x5] σ (some (.int res.1)) res.2 := by
  refine Ct.of pn_M (Nat.le_of_ble_eq_true rfl) rfl (fun Γ h => ?_)
  have h : IsG YM Z R_M c_M_door 6 3 (some .int) (some (.int res.1)) res.2 Γ := h
  unfold M_door at hf
  refine r_aload_n h d_M_door_0 0 rfl rfl ?_
  refine r_iload_n h d_M_door_1 2 rfl rfl ?_
  obtain ⟨r2, e2, hf⟩ := q_bind hf
  refine r_callV (As := [.int x2]) (rest := []) h sh_YM_0 lk_M_240 vk_M_240 d_M_door_2 (by decide) rfl rfl (Nat.le_of_ble_eq_true rfl) (m_M_noPlace e2) ?_
  refine r_bif_ne h d_M_door_5 hf (fun hf => ?_) (fun hf => ?_)
  · refine r_iconst h d_M_door_16 ki_m1 ?_
    exact r_ireturn h d_M_door_17.1 (q_p1 hf) (q_p2 hf)
  · refine r_aload_n h d_M_door_8 0 rfl rfl ?_
    refine r_iload_n h d_M_door_9 3 rfl rfl ?_
    obtain ⟨r10, e10, hf⟩ := q_bind hf
    refine r_callV (As := [.int x3]) (rest := []) h sh_YM_0 lk_M_284 vk_M_284 d_M_door_10 (by decide) rfl rfl (Nat.le_of_ble_eq_true rfl) (m_M_noPack e10) ?_
    refine r_bif_eq h d_M_door_13 hf (fun hf => ?_) (fun hf => ?_)
    · refine r_iload_n h d_M_door_18 1 rfl rfl ?_
      refine r_i2l h d_M_door_19 ?_
      refine r_lconst h d_M_door_20 kl_0 ?_
      refine r_ldc2 h d_M_door_21 tm_1478 ?_
      obtain ⟨r24, e24, hf⟩ := q_bind hf
      refine r_callS (As := [.long (Int32.toInt64 x1), .long (0 : Int64), .long (2 : Int64)]) (rest := []) h lk_M_201 sk_M_201 d_M_door_24 (by decide) rfl rfl (Nat.le_of_ble_eq_true rfl) (m_M_in e24) ?_
      refine r_bif_eq h d_M_door_27 hf (fun hf => ?_) (fun hf => ?_)
      · refine r_bipush h d_M_door_51 kb_m2 ?_
        exact r_ireturn h d_M_door_53.1 (q_p1 hf) (q_p2 hf)
      · refine r_iload h d_M_door_30 4 rfl ?_
        refine r_i2l h d_M_door_32 ?_
        refine r_lconst h d_M_door_33 kl_1 ?_
        refine r_ldc2 h d_M_door_34 tm_1451 ?_
        obtain ⟨r37, e37, hf⟩ := q_bind hf
        refine r_callS (As := [.long (Int32.toInt64 x4), .long (1 : Int64), .long (9999 : Int64)]) (rest := []) h lk_M_201 sk_M_201 d_M_door_37 (by decide) rfl rfl (Nat.le_of_ble_eq_true rfl) (m_M_in e37) ?_
        refine r_bif_eq h d_M_door_40 hf (fun hf => ?_) (fun hf => ?_)
        · refine r_bipush h d_M_door_51 kb_m2 ?_
          exact r_ireturn h d_M_door_53.1 (q_p1 hf) (q_p2 hf)
        · refine r_iload h d_M_door_43 5 rfl ?_
          obtain ⟨r45, e45, hf⟩ := q_bind hf
          refine r_callS (As := [.int x5]) (rest := []) h lk_M_205 sk_M_205 d_M_door_45 (by decide) rfl rfl (Nat.le_of_ble_eq_true rfl) (m_M_isDay e45) ?_
          refine r_bif_ne h d_M_door_48 hf (fun hf => ?_) (fun hf => ?_)
          · refine r_aload_n h d_M_door_54 0 rfl rfl ?_
            refine r_getI h fd_YM_0_41 cf_M fl_M_380 d_M_door_55 ?_
            refine r_bipush h d_M_door_58 kb_20 ?_
            refine r_icmp_ne h d_M_door_60 hf (fun hf => ?_) (fun hf => ?_)
            · refine r_aload_n h d_M_door_66 0 rfl rfl ?_
              refine r_getR h fd_YM_0_42 cf_M fl_M_104 d_M_door_67 ?_
              refine r_aload_n h d_M_door_70 0 rfl rfl ?_
              refine r_getI h fd_YM_0_41 cf_M fl_M_380 d_M_door_71 ?_
              refine r_iload_n h d_M_door_74 1 rfl rfl ?_
              refine r_iast h sh_YM_32 d_M_door_75 hf (fun hf => ?_)
              refine r_aload_n h d_M_door_76 0 rfl rfl ?_
              refine r_getR h fd_YM_0_43 cf_M fl_M_107 d_M_door_77 ?_
              refine r_aload_n h d_M_door_80 0 rfl rfl ?_
              refine r_getIv (v := (σ.1 0 41)) h fd_YM_0_41 cf_M fl_M_380 d_M_door_81 rfl ?_
              refine r_iload_n h d_M_door_84 2 rfl rfl ?_
              refine r_iast h sh_YM_33 d_M_door_85 hf (fun hf => ?_)
              refine r_aload_n h d_M_door_86 0 rfl rfl ?_
              refine r_getR h fd_YM_0_44 cf_M fl_M_110 d_M_door_87 ?_
              refine r_aload_n h d_M_door_90 0 rfl rfl ?_
              refine r_getIv (v := (σ.1 0 41)) h fd_YM_0_41 cf_M fl_M_380 d_M_door_91 rfl ?_
              refine r_iload_n h d_M_door_94 3 rfl rfl ?_
              refine r_iast h sh_YM_34 d_M_door_95 hf (fun hf => ?_)
              refine r_aload_n h d_M_door_96 0 rfl rfl ?_
              refine r_getR h fd_YM_0_45 cf_M fl_M_113 d_M_door_97 ?_
              refine r_aload_n h d_M_door_100 0 rfl rfl ?_
              refine r_getIv (v := (σ.1 0 41)) h fd_YM_0_41 cf_M fl_M_380 d_M_door_101 rfl ?_
              refine r_iload h d_M_door_104 4 rfl ?_
              refine r_iast h sh_YM_35 d_M_door_106 hf (fun hf => ?_)
              refine r_aload_n h d_M_door_107 0 rfl rfl ?_
              refine r_getR h fd_YM_0_46 cf_M fl_M_116 d_M_door_108 ?_
              refine r_aload_n h d_M_door_111 0 rfl rfl ?_
              refine r_getIv (v := (σ.1 0 41)) h fd_YM_0_41 cf_M fl_M_380 d_M_door_112 rfl ?_
              refine r_iload h d_M_door_115 5 rfl ?_
              refine r_iast h sh_YM_36 d_M_door_117 hf (fun hf => ?_)
              refine r_aload_n h d_M_door_118 0 rfl rfl ?_
              refine r_getR h fd_YM_0_47 cf_M fl_M_119 d_M_door_119 ?_
              refine r_aload_n h d_M_door_122 0 rfl rfl ?_
              refine r_getIv (v := (σ.1 0 41)) h fd_YM_0_41 cf_M fl_M_380 d_M_door_123 rfl ?_
              refine r_iconst h d_M_door_126 ki_0 ?_
              refine r_iast h sh_YM_37 d_M_door_127 hf (fun hf => ?_)
              refine r_aload_n h d_M_door_128 0 rfl rfl ?_
              refine r_getR h fd_YM_0_48 cf_M fl_M_122 d_M_door_129 ?_
              refine r_aload_n h d_M_door_132 0 rfl rfl ?_
              refine r_getIv (v := (σ.1 0 41)) h fd_YM_0_41 cf_M fl_M_380 d_M_door_133 rfl ?_
              refine r_aload_n h d_M_door_136 0 rfl rfl ?_
              refine r_getR h fd_YM_0_15 cf_M fl_M_37 d_M_door_137 ?_
              refine r_iload_n h d_M_door_140 3 rfl rfl ?_
              refine r_ialdv (v := (σ.1 10 (Int32.toNatClampNeg x3))) h sh_YM_10 d_M_door_141 hf rfl (fun hf => ?_)
              refine r_iast h sh_YM_38 d_M_door_142 hf (fun hf => ?_)
              refine r_aload_n h d_M_door_143 0 rfl rfl ?_
              refine r_dup h d_M_door_144 rfl ?_
              refine r_getIv (v := (σ.1 0 41)) h fd_YM_0_41 cf_M fl_M_380 d_M_door_145 rfl ?_
              refine r_iconst h d_M_door_148 ki_1 ?_
              refine r_iadd h d_M_door_149 ?_
              refine r_putI h fd_YM_0_41 cf_M fl_M_380 ⟨rfl, rfl⟩ d_M_door_150 ?_
              refine r_aload_n h d_M_door_153 0 rfl rfl ?_
              refine r_getIv (v := ((σ.1 0 41) + (1 : Int32))) h fd_YM_0_41 cf_M fl_M_380 d_M_door_154 rfl ?_
              refine r_iconst h d_M_door_157 ki_1 ?_
              refine r_isub h d_M_door_158 ?_
              exact r_ireturn h d_M_door_159.1 (q_p1 hf) (q_p2 hf)
            · refine r_bipush h d_M_door_63 kb_m4 ?_
              exact r_ireturn h d_M_door_65.1 (q_p1 hf) (q_p2 hf)
          · refine r_bipush h d_M_door_51 kb_m2 ?_
            exact r_ireturn h d_M_door_53.1 (q_p1 hf) (q_p2 hf)
    · refine r_iconst h d_M_door_16 ki_m1 ?_
      exact r_ireturn h d_M_door_17.1 (q_p1 hf) (q_p2 hf)

theorem d_M_noDebt_0 : decode c_M_noDebt 0 = .ok (.iload_n 1, 1) ∧ 0 + 1 = 1 := by decide +kernel
theorem d_M_noDebt_1 : decode c_M_noDebt 1 = .ok (.i2l, 1) ∧ 1 + 1 = 2 := by decide +kernel
theorem d_M_noDebt_2 : decode c_M_noDebt 2 = .ok (.lconst 0, 1) ∧ 2 + 1 = 3 := by decide +kernel
theorem d_M_noDebt_3 : decode c_M_noDebt 3 = .ok (.aload_n 0, 1) ∧ 3 + 1 = 4 := by decide +kernel
theorem d_M_noDebt_4 : decode c_M_noDebt 4 = .ok (.getfield 380, 3) ∧ 4 + 3 = 7 := by decide +kernel
theorem d_M_noDebt_7 : decode c_M_noDebt 7 = .ok (.i2l, 1) ∧ 7 + 1 = 8 := by decide +kernel
theorem d_M_noDebt_8 : decode c_M_noDebt 8 = .ok (.lconst 1, 1) ∧ 8 + 1 = 9 := by decide +kernel
theorem d_M_noDebt_9 : decode c_M_noDebt 9 = .ok (.lsub, 1) ∧ 9 + 1 = 10 := by decide +kernel
theorem d_M_noDebt_10 : decode c_M_noDebt 10 = .ok (.invokestatic 201, 3) ∧ 10 + 3 = 13 := by decide +kernel
theorem d_M_noDebt_13 : decode c_M_noDebt 13 = .ok (.ifCond .ne 7, 3) ∧ 13 + 3 = 16 ∧ ((13 : Nat) : Int) + 7 = ((20 : Nat) : Int) := by decide +kernel
theorem d_M_noDebt_16 : decode c_M_noDebt 16 = .ok (.iconst 1, 1) ∧ 16 + 1 = 17 := by decide +kernel
theorem d_M_noDebt_17 : decode c_M_noDebt 17 = .ok (.goto 4, 3) ∧ (17 : Int) + 4 = (21 : Int) := by decide +kernel
theorem d_M_noDebt_20 : decode c_M_noDebt 20 = .ok (.iconst 0, 1) ∧ 20 + 1 = 21 := by decide +kernel
theorem d_M_noDebt_21 : decode c_M_noDebt 21 = .ok (.ireturn, 1) ∧ 21 + 1 = 22 := by decide +kernel
set_option maxHeartbeats 4000000 in
theorem m_M_noDebt {Z : Sy} {σ : St} {res : Bool} {x1 : Int32} (hf : M_noDebt x1 σ = some res) : Ct YM Z y_M_noDebt c_M_noDebt 2 (some .boolean) 2 [.ref (ya Z 0), .int x1] σ (some (.int (bi res))) σ := by
  refine Ct.of pn_M (Nat.le_of_ble_eq_true rfl) rfl (fun Γ h => ?_)
  have h : IsG YM Z R_M c_M_noDebt 2 2 (some .boolean) (some (.int (bi res))) σ Γ := h
  unfold M_noDebt at hf
  refine r_iload_n h d_M_noDebt_0 1 rfl rfl ?_
  refine r_i2l h d_M_noDebt_1 ?_
  refine r_lconst h d_M_noDebt_2 kl_0 ?_
  refine r_aload_n h d_M_noDebt_3 0 rfl rfl ?_
  refine r_getI h fd_YM_0_41 cf_M fl_M_380 d_M_noDebt_4 ?_
  refine r_i2l h d_M_noDebt_7 ?_
  refine r_lconst h d_M_noDebt_8 kl_1 ?_
  refine r_lsub h d_M_noDebt_9 ?_
  obtain ⟨r10, e10, hf⟩ := q_bind hf
  refine r_callS (As := [.long (Int32.toInt64 x1), .long (0 : Int64), .long ((Int32.toInt64 (σ.1 0 41)) - (1 : Int64))]) (rest := []) h lk_M_201 sk_M_201 d_M_noDebt_10 (by decide) rfl rfl (Nat.le_of_ble_eq_true rfl) (m_M_in e10) ?_
  refine r_bif_ne h d_M_noDebt_13 hf (fun hf => ?_) (fun hf => ?_)
  · refine r_iconst h d_M_noDebt_20 ki_0 ?_
    exact r_zreturn h d_M_noDebt_21.1 ((show (0 : Int32) = bi false from rfl).trans (congrArg bi (Option.some.inj hf))) rfl
  · refine r_iconst h d_M_noDebt_16 ki_1 ?_
    refine r_goto h d_M_noDebt_17 ?_
    exact r_zreturn h d_M_noDebt_21.1 ((show (1 : Int32) = bi true from rfl).trans (congrArg bi (Option.some.inj hf))) rfl

theorem d_M_barredFrom_0 : decode c_M_barredFrom 0 = .ok (.aload_n 0, 1) ∧ 0 + 1 = 1 := by decide +kernel
theorem d_M_barredFrom_1 : decode c_M_barredFrom 1 = .ok (.iconst 2, 1) ∧ 1 + 1 = 2 := by decide +kernel
theorem d_M_barredFrom_2 : decode c_M_barredFrom 2 = .ok (.aload_n 0, 1) ∧ 2 + 1 = 3 := by decide +kernel
theorem d_M_barredFrom_3 : decode c_M_barredFrom 3 = .ok (.getfield 7, 3) ∧ 3 + 3 = 6 := by decide +kernel
theorem d_M_barredFrom_6 : decode c_M_barredFrom 6 = .ok (.aload_n 0, 1) ∧ 6 + 1 = 7 := by decide +kernel
theorem d_M_barredFrom_7 : decode c_M_barredFrom 7 = .ok (.getfield 107, 3) ∧ 7 + 3 = 10 := by decide +kernel
theorem d_M_barredFrom_10 : decode c_M_barredFrom 10 = .ok (.iload_n 1, 1) ∧ 10 + 1 = 11 := by decide +kernel
theorem d_M_barredFrom_11 : decode c_M_barredFrom 11 = .ok (.iaload, 1) ∧ 11 + 1 = 12 := by decide +kernel
theorem d_M_barredFrom_12 : decode c_M_barredFrom 12 = .ok (.iaload, 1) ∧ 12 + 1 = 13 := by decide +kernel
theorem d_M_barredFrom_13 : decode c_M_barredFrom 13 = .ok (.aload_n 0, 1) ∧ 13 + 1 = 14 := by decide +kernel
theorem d_M_barredFrom_14 : decode c_M_barredFrom 14 = .ok (.getfield 116, 3) ∧ 14 + 3 = 17 := by decide +kernel
theorem d_M_barredFrom_17 : decode c_M_barredFrom 17 = .ok (.iload_n 1, 1) ∧ 17 + 1 = 18 := by decide +kernel
theorem d_M_barredFrom_18 : decode c_M_barredFrom 18 = .ok (.iaload, 1) ∧ 18 + 1 = 19 := by decide +kernel
theorem d_M_barredFrom_19 : decode c_M_barredFrom 19 = .ok (.invokevirtual 360, 3) ∧ 19 + 3 = 22 := by decide +kernel
theorem d_M_barredFrom_22 : decode c_M_barredFrom 22 = .ok (.istore_n 2, 1) ∧ 22 + 1 = 23 := by decide +kernel
theorem d_M_barredFrom_23 : decode c_M_barredFrom 23 = .ok (.iload_n 2, 1) ∧ 23 + 1 = 24 := by decide +kernel
theorem d_M_barredFrom_24 : decode c_M_barredFrom 24 = .ok (.ifCond .ne 8, 3) ∧ 24 + 3 = 27 ∧ ((24 : Nat) : Int) + 8 = ((32 : Nat) : Int) := by decide +kernel
theorem d_M_barredFrom_27 : decode c_M_barredFrom 27 = .ok (.bipush (-9), 2) ∧ 27 + 2 = 29 := by decide +kernel
theorem d_M_barredFrom_29 : decode c_M_barredFrom 29 = .ok (.goto 11, 3) ∧ (29 : Int) + 11 = (40 : Int) := by decide +kernel
theorem d_M_barredFrom_32 : decode c_M_barredFrom 32 = .ok (.aload_n 0, 1) ∧ 32 + 1 = 33 := by decide +kernel
theorem d_M_barredFrom_33 : decode c_M_barredFrom 33 = .ok (.getfield 116, 3) ∧ 33 + 3 = 36 := by decide +kernel
theorem d_M_barredFrom_36 : decode c_M_barredFrom 36 = .ok (.iload_n 1, 1) ∧ 36 + 1 = 37 := by decide +kernel
theorem d_M_barredFrom_37 : decode c_M_barredFrom 37 = .ok (.iaload, 1) ∧ 37 + 1 = 38 := by decide +kernel
theorem d_M_barredFrom_38 : decode c_M_barredFrom 38 = .ok (.iload_n 2, 1) ∧ 38 + 1 = 39 := by decide +kernel
theorem d_M_barredFrom_39 : decode c_M_barredFrom 39 = .ok (.iadd, 1) ∧ 39 + 1 = 40 := by decide +kernel
theorem d_M_barredFrom_40 : decode c_M_barredFrom 40 = .ok (.ireturn, 1) ∧ 40 + 1 = 41 := by decide +kernel
set_option maxHeartbeats 4000000 in
theorem m_M_barredFrom {Z : Sy} {σ : St} {res : Int32} {x1 : Int32} (hf : M_barredFrom x1 σ = some res) : Ct YM Z y_M_barredFrom c_M_barredFrom 3 (some .int) 5 [.ref (ya Z 0), .int x1] σ (some (.int res)) σ := by
  refine Ct.of pn_M (Nat.le_of_ble_eq_true rfl) rfl (fun Γ h => ?_)
  have h : IsG YM Z R_M c_M_barredFrom 3 5 (some .int) (some (.int res)) σ Γ := h
  unfold M_barredFrom at hf
  refine r_aload_n h d_M_barredFrom_0 0 rfl rfl ?_
  refine r_iconst h d_M_barredFrom_1 ki_2 ?_
  refine r_aload_n h d_M_barredFrom_2 0 rfl rfl ?_
  refine r_getR h fd_YM_0_4 cf_M fl_M_7 d_M_barredFrom_3 ?_
  refine r_aload_n h d_M_barredFrom_6 0 rfl rfl ?_
  refine r_getR h fd_YM_0_43 cf_M fl_M_107 d_M_barredFrom_7 ?_
  refine r_iload_n h d_M_barredFrom_10 1 rfl rfl ?_
  refine r_iald h sh_YM_33 d_M_barredFrom_11 hf (fun hf => ?_)
  refine r_iald h sh_YM_1 d_M_barredFrom_12 hf (fun hf => ?_)
  refine r_aload_n h d_M_barredFrom_13 0 rfl rfl ?_
  refine r_getR h fd_YM_0_46 cf_M fl_M_116 d_M_barredFrom_14 ?_
  refine r_iload_n h d_M_barredFrom_17 1 rfl rfl ?_
  refine r_iald h sh_YM_36 d_M_barredFrom_18 hf (fun hf => ?_)
  obtain ⟨r19, e19, hf⟩ := q_bind hf
  refine r_callV (As := [.int (2 : Int32), .int (σ.1 1 (Int32.toNatClampNeg (σ.1 33 (Int32.toNatClampNeg x1)))), .int (σ.1 36 (Int32.toNatClampNeg x1))]) (rest := []) h sh_YM_0 lk_M_360 vk_M_360 d_M_barredFrom_19 (by decide) rfl rfl (Nat.le_of_ble_eq_true rfl) (m_M_forceOf e19) ?_
  refine r_istore_n (ls' := [(2, .int r19), (0, .ref (ya Z 0)), (1, .int x1)]) h d_M_barredFrom_22 rfl (by decide) rfl ?_
  refine r_iload_n h d_M_barredFrom_23 0 rfl rfl ?_
  refine r_if_ne h d_M_barredFrom_24 hf (fun hf => ?_) (fun hf => ?_)
  · refine r_aload_n h d_M_barredFrom_32 1 rfl rfl ?_
    refine r_getR h fd_YM_0_46 cf_M fl_M_116 d_M_barredFrom_33 ?_
    refine r_iload_n h d_M_barredFrom_36 2 rfl rfl ?_
    refine r_iald h sh_YM_36 d_M_barredFrom_37 hf (fun hf => ?_)
    refine r_iload_n h d_M_barredFrom_38 0 rfl rfl ?_
    refine r_iadd h d_M_barredFrom_39 ?_
    exact r_ireturn h d_M_barredFrom_40.1 (Option.some.inj hf) rfl
  · refine r_bipush h d_M_barredFrom_27 kb_m9 ?_
    refine r_goto h d_M_barredFrom_29 ?_
    exact r_ireturn h d_M_barredFrom_40.1 (Option.some.inj hf) rfl

theorem d_M_due_0 : decode c_M_due 0 = .ok (.aload_n 0, 1) ∧ 0 + 1 = 1 := by decide +kernel
theorem d_M_due_1 : decode c_M_due 1 = .ok (.iload_n 1, 1) ∧ 1 + 1 = 2 := by decide +kernel
theorem d_M_due_2 : decode c_M_due 2 = .ok (.invokevirtual 386, 3) ∧ 2 + 3 = 5 := by decide +kernel
theorem d_M_due_5 : decode c_M_due 5 = .ok (.ifCond .eq 5, 3) ∧ 5 + 3 = 8 ∧ ((5 : Nat) : Int) + 5 = ((10 : Nat) : Int) := by decide +kernel
theorem d_M_due_8 : decode c_M_due 8 = .ok (.iconst (-1), 1) ∧ 8 + 1 = 9 := by decide +kernel
theorem d_M_due_9 : decode c_M_due 9 = .ok (.ireturn, 1) ∧ 9 + 1 = 10 := by decide +kernel
theorem d_M_due_10 : decode c_M_due 10 = .ok (.iload_n 2, 1) ∧ 10 + 1 = 11 := by decide +kernel
theorem d_M_due_11 : decode c_M_due 11 = .ok (.tableswitch 100 0 7 #[45, 52, 59, 66, 73, 80, 86, 93], 45) ∧ 11 + 45 = 56 := by decide +kernel
theorem d_M_due_56 : decode c_M_due 56 = .ok (.aload_n 0, 1) ∧ 56 + 1 = 57 := by decide +kernel
theorem d_M_due_57 : decode c_M_due 57 = .ok (.getfield 104, 3) ∧ 57 + 3 = 60 := by decide +kernel
theorem d_M_due_60 : decode c_M_due 60 = .ok (.iload_n 1, 1) ∧ 60 + 1 = 61 := by decide +kernel
theorem d_M_due_61 : decode c_M_due 61 = .ok (.iaload, 1) ∧ 61 + 1 = 62 := by decide +kernel
theorem d_M_due_62 : decode c_M_due 62 = .ok (.ireturn, 1) ∧ 62 + 1 = 63 := by decide +kernel
theorem d_M_due_63 : decode c_M_due 63 = .ok (.aload_n 0, 1) ∧ 63 + 1 = 64 := by decide +kernel
theorem d_M_due_64 : decode c_M_due 64 = .ok (.getfield 107, 3) ∧ 64 + 3 = 67 := by decide +kernel
theorem d_M_due_67 : decode c_M_due 67 = .ok (.iload_n 1, 1) ∧ 67 + 1 = 68 := by decide +kernel
theorem d_M_due_68 : decode c_M_due 68 = .ok (.iaload, 1) ∧ 68 + 1 = 69 := by decide +kernel
theorem d_M_due_69 : decode c_M_due 69 = .ok (.ireturn, 1) ∧ 69 + 1 = 70 := by decide +kernel
theorem d_M_due_70 : decode c_M_due 70 = .ok (.aload_n 0, 1) ∧ 70 + 1 = 71 := by decide +kernel
theorem d_M_due_71 : decode c_M_due 71 = .ok (.getfield 110, 3) ∧ 71 + 3 = 74 := by decide +kernel
theorem d_M_due_74 : decode c_M_due 74 = .ok (.iload_n 1, 1) ∧ 74 + 1 = 75 := by decide +kernel
theorem d_M_due_75 : decode c_M_due 75 = .ok (.iaload, 1) ∧ 75 + 1 = 76 := by decide +kernel
theorem d_M_due_76 : decode c_M_due 76 = .ok (.ireturn, 1) ∧ 76 + 1 = 77 := by decide +kernel
theorem d_M_due_77 : decode c_M_due 77 = .ok (.aload_n 0, 1) ∧ 77 + 1 = 78 := by decide +kernel
theorem d_M_due_78 : decode c_M_due 78 = .ok (.getfield 113, 3) ∧ 78 + 3 = 81 := by decide +kernel
theorem d_M_due_81 : decode c_M_due 81 = .ok (.iload_n 1, 1) ∧ 81 + 1 = 82 := by decide +kernel
theorem d_M_due_82 : decode c_M_due 82 = .ok (.iaload, 1) ∧ 82 + 1 = 83 := by decide +kernel
theorem d_M_due_83 : decode c_M_due 83 = .ok (.ireturn, 1) ∧ 83 + 1 = 84 := by decide +kernel
theorem d_M_due_84 : decode c_M_due 84 = .ok (.aload_n 0, 1) ∧ 84 + 1 = 85 := by decide +kernel
theorem d_M_due_85 : decode c_M_due 85 = .ok (.getfield 116, 3) ∧ 85 + 3 = 88 := by decide +kernel
theorem d_M_due_88 : decode c_M_due 88 = .ok (.iload_n 1, 1) ∧ 88 + 1 = 89 := by decide +kernel
theorem d_M_due_89 : decode c_M_due 89 = .ok (.iaload, 1) ∧ 89 + 1 = 90 := by decide +kernel
theorem d_M_due_90 : decode c_M_due 90 = .ok (.ireturn, 1) ∧ 90 + 1 = 91 := by decide +kernel
theorem d_M_due_91 : decode c_M_due 91 = .ok (.aload_n 0, 1) ∧ 91 + 1 = 92 := by decide +kernel
theorem d_M_due_92 : decode c_M_due 92 = .ok (.iload_n 1, 1) ∧ 92 + 1 = 93 := by decide +kernel
theorem d_M_due_93 : decode c_M_due 93 = .ok (.invokevirtual 383, 3) ∧ 93 + 3 = 96 := by decide +kernel
theorem d_M_due_96 : decode c_M_due 96 = .ok (.ireturn, 1) ∧ 96 + 1 = 97 := by decide +kernel
theorem d_M_due_97 : decode c_M_due 97 = .ok (.aload_n 0, 1) ∧ 97 + 1 = 98 := by decide +kernel
theorem d_M_due_98 : decode c_M_due 98 = .ok (.getfield 119, 3) ∧ 98 + 3 = 101 := by decide +kernel
theorem d_M_due_101 : decode c_M_due 101 = .ok (.iload_n 1, 1) ∧ 101 + 1 = 102 := by decide +kernel
theorem d_M_due_102 : decode c_M_due 102 = .ok (.iaload, 1) ∧ 102 + 1 = 103 := by decide +kernel
theorem d_M_due_103 : decode c_M_due 103 = .ok (.ireturn, 1) ∧ 103 + 1 = 104 := by decide +kernel
theorem d_M_due_104 : decode c_M_due 104 = .ok (.aload_n 0, 1) ∧ 104 + 1 = 105 := by decide +kernel
theorem d_M_due_105 : decode c_M_due 105 = .ok (.getfield 122, 3) ∧ 105 + 3 = 108 := by decide +kernel
theorem d_M_due_108 : decode c_M_due 108 = .ok (.iload_n 1, 1) ∧ 108 + 1 = 109 := by decide +kernel
theorem d_M_due_109 : decode c_M_due 109 = .ok (.iaload, 1) ∧ 109 + 1 = 110 := by decide +kernel
theorem d_M_due_110 : decode c_M_due 110 = .ok (.ireturn, 1) ∧ 110 + 1 = 111 := by decide +kernel
theorem d_M_due_111 : decode c_M_due 111 = .ok (.bipush (-2), 2) ∧ 111 + 2 = 113 := by decide +kernel
theorem d_M_due_113 : decode c_M_due 113 = .ok (.ireturn, 1) ∧ 113 + 1 = 114 := by decide +kernel
set_option maxHeartbeats 4000000 in
theorem m_M_due {Z : Sy} {σ : St} {res : Int32} {x1 : Int32} {x2 : Int32} (hf : M_due x1 x2 σ = some res) : Ct YM Z y_M_due c_M_due 3 (some .int) 6 [.ref (ya Z 0), .int x1, .int x2] σ (some (.int res)) σ := by
  refine Ct.of pn_M (Nat.le_of_ble_eq_true rfl) rfl (fun Γ h => ?_)
  have h : IsG YM Z R_M c_M_due 3 6 (some .int) (some (.int res)) σ Γ := h
  unfold M_due at hf
  refine r_aload_n h d_M_due_0 0 rfl rfl ?_
  refine r_iload_n h d_M_due_1 1 rfl rfl ?_
  obtain ⟨r2, e2, hf⟩ := q_bind hf
  refine r_callV (As := [.int x1]) (rest := []) h sh_YM_0 lk_M_386 vk_M_386 d_M_due_2 (by decide) rfl rfl (Nat.le_of_ble_eq_true rfl) (m_M_noDebt e2) ?_
  refine r_bif_eq h d_M_due_5 hf (fun hf => ?_) (fun hf => ?_)
  · refine r_iload_n h d_M_due_10 2 rfl rfl ?_
    refine q_case hf (fun hq hf => ?_) (fun hn0 hf => ?_)
    · refine r_tab (tgt := 56) (off := 45) h (0 : Int32) hq d_M_due_11.1 (by decide) ?_
      refine r_aload_n h d_M_due_56 0 rfl rfl ?_
      refine r_getR h fd_YM_0_42 cf_M fl_M_104 d_M_due_57 ?_
      refine r_iload_n h d_M_due_60 1 rfl rfl ?_
      refine r_iald h sh_YM_32 d_M_due_61 hf (fun hf => ?_)
      exact r_ireturn h d_M_due_62.1 (Option.some.inj hf) rfl
    ·
      refine q_case hf (fun hq hf => ?_) (fun hn1 hf => ?_)
      · refine r_tab (tgt := 63) (off := 52) h (1 : Int32) hq d_M_due_11.1 (by decide) ?_
        refine r_aload_n h d_M_due_63 0 rfl rfl ?_
        refine r_getR h fd_YM_0_43 cf_M fl_M_107 d_M_due_64 ?_
        refine r_iload_n h d_M_due_67 1 rfl rfl ?_
        refine r_iald h sh_YM_33 d_M_due_68 hf (fun hf => ?_)
        exact r_ireturn h d_M_due_69.1 (Option.some.inj hf) rfl
      ·
        refine q_case hf (fun hq hf => ?_) (fun hn2 hf => ?_)
        · refine r_tab (tgt := 70) (off := 59) h (2 : Int32) hq d_M_due_11.1 (by decide) ?_
          refine r_aload_n h d_M_due_70 0 rfl rfl ?_
          refine r_getR h fd_YM_0_44 cf_M fl_M_110 d_M_due_71 ?_
          refine r_iload_n h d_M_due_74 1 rfl rfl ?_
          refine r_iald h sh_YM_34 d_M_due_75 hf (fun hf => ?_)
          exact r_ireturn h d_M_due_76.1 (Option.some.inj hf) rfl
        ·
          refine q_case hf (fun hq hf => ?_) (fun hn3 hf => ?_)
          · refine r_tab (tgt := 77) (off := 66) h (3 : Int32) hq d_M_due_11.1 (by decide) ?_
            refine r_aload_n h d_M_due_77 0 rfl rfl ?_
            refine r_getR h fd_YM_0_45 cf_M fl_M_113 d_M_due_78 ?_
            refine r_iload_n h d_M_due_81 1 rfl rfl ?_
            refine r_iald h sh_YM_35 d_M_due_82 hf (fun hf => ?_)
            exact r_ireturn h d_M_due_83.1 (Option.some.inj hf) rfl
          ·
            refine q_case hf (fun hq hf => ?_) (fun hn4 hf => ?_)
            · refine r_tab (tgt := 84) (off := 73) h (4 : Int32) hq d_M_due_11.1 (by decide) ?_
              refine r_aload_n h d_M_due_84 0 rfl rfl ?_
              refine r_getR h fd_YM_0_46 cf_M fl_M_116 d_M_due_85 ?_
              refine r_iload_n h d_M_due_88 1 rfl rfl ?_
              refine r_iald h sh_YM_36 d_M_due_89 hf (fun hf => ?_)
              exact r_ireturn h d_M_due_90.1 (Option.some.inj hf) rfl
            ·
              refine q_case hf (fun hq hf => ?_) (fun hn5 hf => ?_)
              · refine r_tab (tgt := 91) (off := 80) h (5 : Int32) hq d_M_due_11.1 (by decide) ?_
                refine r_aload_n h d_M_due_91 0 rfl rfl ?_
                refine r_iload_n h d_M_due_92 1 rfl rfl ?_
                obtain ⟨r93, e93, hf⟩ := q_bind hf
                refine r_callV (As := [.int x1]) (rest := []) h sh_YM_0 lk_M_383 vk_M_383 d_M_due_93 (by decide) rfl rfl (Nat.le_of_ble_eq_true rfl) (m_M_barredFrom e93) ?_
                exact r_ireturn h d_M_due_96.1 (Option.some.inj hf) rfl
              ·
                refine q_case hf (fun hq hf => ?_) (fun hn6 hf => ?_)
                · refine r_tab (tgt := 97) (off := 86) h (6 : Int32) hq d_M_due_11.1 (by decide) ?_
                  refine r_aload_n h d_M_due_97 0 rfl rfl ?_
                  refine r_getR h fd_YM_0_47 cf_M fl_M_119 d_M_due_98 ?_
                  refine r_iload_n h d_M_due_101 1 rfl rfl ?_
                  refine r_iald h sh_YM_37 d_M_due_102 hf (fun hf => ?_)
                  exact r_ireturn h d_M_due_103.1 (Option.some.inj hf) rfl
                ·
                  refine q_case hf (fun hq hf => ?_) (fun hn7 hf => ?_)
                  · refine r_tab (tgt := 104) (off := 93) h (7 : Int32) hq d_M_due_11.1 (by decide) ?_
                    refine r_aload_n h d_M_due_104 0 rfl rfl ?_
                    refine r_getR h fd_YM_0_48 cf_M fl_M_122 d_M_due_105 ?_
                    refine r_iload_n h d_M_due_108 1 rfl rfl ?_
                    refine r_iald h sh_YM_38 d_M_due_109 hf (fun hf => ?_)
                    exact r_ireturn h d_M_due_110.1 (Option.some.inj hf) rfl
                  ·
                    have g0 := q_neI hn0
                    have g1 := q_neI hn1
                    have g2 := q_neI hn2
                    have g3 := q_neI hn3
                    have g4 := q_neI hn4
                    have g5 := q_neI hn5
                    have g6 := q_neI hn6
                    have g7 := q_neI hn7
                    refine r_tabD (tgt := 111) h d_M_due_11.1 (by simp at g0 g1 g2 g3 g4 g5 g6 g7; omega) (by decide) ?_
                    refine r_bipush h d_M_due_111 kb_m2 ?_
                    exact r_ireturn h d_M_due_113.1 (Option.some.inj hf) rfl
  · refine r_iconst h d_M_due_8 ki_m1 ?_
    exact r_ireturn h d_M_due_9.1 (Option.some.inj hf) rfl

theorem d_M_isBarred_0 : decode c_M_isBarred 0 = .ok (.aload_n 0, 1) ∧ 0 + 1 = 1 := by decide +kernel
theorem d_M_isBarred_1 : decode c_M_isBarred 1 = .ok (.iload_n 1, 1) ∧ 1 + 1 = 2 := by decide +kernel
theorem d_M_isBarred_2 : decode c_M_isBarred 2 = .ok (.invokevirtual 383, 3) ∧ 2 + 3 = 5 := by decide +kernel
theorem d_M_isBarred_5 : decode c_M_isBarred 5 = .ok (.ifCond .lt 16, 3) ∧ 5 + 3 = 8 ∧ ((5 : Nat) : Int) + 16 = ((21 : Nat) : Int) := by decide +kernel
theorem d_M_isBarred_8 : decode c_M_isBarred 8 = .ok (.iload_n 2, 1) ∧ 8 + 1 = 9 := by decide +kernel
theorem d_M_isBarred_9 : decode c_M_isBarred 9 = .ok (.aload_n 0, 1) ∧ 9 + 1 = 10 := by decide +kernel
theorem d_M_isBarred_10 : decode c_M_isBarred 10 = .ok (.iload_n 1, 1) ∧ 10 + 1 = 11 := by decide +kernel
theorem d_M_isBarred_11 : decode c_M_isBarred 11 = .ok (.invokevirtual 383, 3) ∧ 11 + 3 = 14 := by decide +kernel
theorem d_M_isBarred_14 : decode c_M_isBarred 14 = .ok (.if_icmp .lt 7, 3) ∧ 14 + 3 = 17 ∧ ((14 : Nat) : Int) + 7 = ((21 : Nat) : Int) := by decide +kernel
theorem d_M_isBarred_17 : decode c_M_isBarred 17 = .ok (.iconst 1, 1) ∧ 17 + 1 = 18 := by decide +kernel
theorem d_M_isBarred_18 : decode c_M_isBarred 18 = .ok (.goto 4, 3) ∧ (18 : Int) + 4 = (22 : Int) := by decide +kernel
theorem d_M_isBarred_21 : decode c_M_isBarred 21 = .ok (.iconst 0, 1) ∧ 21 + 1 = 22 := by decide +kernel
theorem d_M_isBarred_22 : decode c_M_isBarred 22 = .ok (.ireturn, 1) ∧ 22 + 1 = 23 := by decide +kernel
set_option maxHeartbeats 4000000 in
theorem m_M_isBarred {Z : Sy} {σ : St} {res : Bool} {x1 : Int32} {x2 : Int32} (hf : M_isBarred x1 x2 σ = some res) : Ct YM Z y_M_isBarred c_M_isBarred 3 (some .boolean) 6 [.ref (ya Z 0), .int x1, .int x2] σ (some (.int (bi res))) σ := by
  refine Ct.of pn_M (Nat.le_of_ble_eq_true rfl) rfl (fun Γ h => ?_)
  have h : IsG YM Z R_M c_M_isBarred 3 6 (some .boolean) (some (.int (bi res))) σ Γ := h
  unfold M_isBarred at hf
  refine r_aload_n h d_M_isBarred_0 0 rfl rfl ?_
  refine r_iload_n h d_M_isBarred_1 1 rfl rfl ?_
  obtain ⟨r2, e2, hf⟩ := q_bind hf
  refine r_callV (As := [.int x1]) (rest := []) h sh_YM_0 lk_M_383 vk_M_383 d_M_isBarred_2 (by decide) rfl rfl (Nat.le_of_ble_eq_true rfl) (m_M_barredFrom e2) ?_
  refine r_if_lt h d_M_isBarred_5 hf (fun hf => ?_) (fun hf => ?_)
  · refine r_iconst h d_M_isBarred_21 ki_0 ?_
    exact r_zreturn h d_M_isBarred_22.1 ((show (0 : Int32) = bi false from rfl).trans (congrArg bi (Option.some.inj hf))) rfl
  · refine r_iload_n h d_M_isBarred_8 2 rfl rfl ?_
    refine r_aload_n h d_M_isBarred_9 0 rfl rfl ?_
    refine r_iload_n h d_M_isBarred_10 1 rfl rfl ?_
    obtain ⟨r11, e11, hf⟩ := q_bind hf
    refine r_callV (As := [.int x1]) (rest := [.int x2]) h sh_YM_0 lk_M_383 vk_M_383 d_M_isBarred_11 (by decide) rfl rfl (Nat.le_of_ble_eq_true rfl) (m_M_barredFrom e11) ?_
    refine r_icmp_lt h d_M_isBarred_14 hf (fun hf => ?_) (fun hf => ?_)
    · refine r_iconst h d_M_isBarred_21 ki_0 ?_
      exact r_zreturn h d_M_isBarred_22.1 ((show (0 : Int32) = bi false from rfl).trans (congrArg bi (Option.some.inj hf))) rfl
    · refine r_iconst h d_M_isBarred_17 ki_1 ?_
      refine r_goto h d_M_isBarred_18 ?_
      exact r_zreturn h d_M_isBarred_22.1 ((show (1 : Int32) = bi true from rfl).trans (congrArg bi (Option.some.inj hf))) rfl

theorem d_M_paid_0 : decode c_M_paid 0 = .ok (.aload_n 0, 1) ∧ 0 + 1 = 1 := by decide +kernel
theorem d_M_paid_1 : decode c_M_paid 1 = .ok (.iload_n 1, 1) ∧ 1 + 1 = 2 := by decide +kernel
theorem d_M_paid_2 : decode c_M_paid 2 = .ok (.invokevirtual 386, 3) ∧ 2 + 3 = 5 := by decide +kernel
theorem d_M_paid_5 : decode c_M_paid 5 = .ok (.ifCond .eq 5, 3) ∧ 5 + 3 = 8 ∧ ((5 : Nat) : Int) + 5 = ((10 : Nat) : Int) := by decide +kernel
theorem d_M_paid_8 : decode c_M_paid 8 = .ok (.iconst (-1), 1) ∧ 8 + 1 = 9 := by decide +kernel
theorem d_M_paid_9 : decode c_M_paid 9 = .ok (.ireturn, 1) ∧ 9 + 1 = 10 := by decide +kernel
theorem d_M_paid_10 : decode c_M_paid 10 = .ok (.iload_n 2, 1) ∧ 10 + 1 = 11 := by decide +kernel
theorem d_M_paid_11 : decode c_M_paid 11 = .ok (.iconst 1, 1) ∧ 11 + 1 = 12 := by decide +kernel
theorem d_M_paid_12 : decode c_M_paid 12 = .ok (.if_icmp .lt 10, 3) ∧ 12 + 3 = 15 ∧ ((12 : Nat) : Int) + 10 = ((22 : Nat) : Int) := by decide +kernel
theorem d_M_paid_15 : decode c_M_paid 15 = .ok (.iload_n 3, 1) ∧ 15 + 1 = 16 := by decide +kernel
theorem d_M_paid_16 : decode c_M_paid 16 = .ok (.invokestatic 205, 3) ∧ 16 + 3 = 19 := by decide +kernel
theorem d_M_paid_19 : decode c_M_paid 19 = .ok (.ifCond .ne 6, 3) ∧ 19 + 3 = 22 ∧ ((19 : Nat) : Int) + 6 = ((25 : Nat) : Int) := by decide +kernel
theorem d_M_paid_22 : decode c_M_paid 22 = .ok (.bipush (-2), 2) ∧ 22 + 2 = 24 := by decide +kernel
theorem d_M_paid_24 : decode c_M_paid 24 = .ok (.ireturn, 1) ∧ 24 + 1 = 25 := by decide +kernel
theorem d_M_paid_25 : decode c_M_paid 25 = .ok (.aload_n 0, 1) ∧ 25 + 1 = 26 := by decide +kernel
theorem d_M_paid_26 : decode c_M_paid 26 = .ok (.iload_n 1, 1) ∧ 26 + 1 = 27 := by decide +kernel
theorem d_M_paid_27 : decode c_M_paid 27 = .ok (.iload_n 3, 1) ∧ 27 + 1 = 28 := by decide +kernel
theorem d_M_paid_28 : decode c_M_paid 28 = .ok (.invokevirtual 389, 3) ∧ 28 + 3 = 31 := by decide +kernel
theorem d_M_paid_31 : decode c_M_paid 31 = .ok (.ifCond .ne 30, 3) ∧ 31 + 3 = 34 ∧ ((31 : Nat) : Int) + 30 = ((61 : Nat) : Int) := by decide +kernel
theorem d_M_paid_34 : decode c_M_paid 34 = .ok (.iload_n 2, 1) ∧ 34 + 1 = 35 := by decide +kernel
theorem d_M_paid_35 : decode c_M_paid 35 = .ok (.aload_n 0, 1) ∧ 35 + 1 = 36 := by decide +kernel
theorem d_M_paid_36 : decode c_M_paid 36 = .ok (.getfield 113, 3) ∧ 36 + 3 = 39 := by decide +kernel
theorem d_M_paid_39 : decode c_M_paid 39 = .ok (.iload_n 1, 1) ∧ 39 + 1 = 40 := by decide +kernel
theorem d_M_paid_40 : decode c_M_paid 40 = .ok (.iaload, 1) ∧ 40 + 1 = 41 := by decide +kernel
theorem d_M_paid_41 : decode c_M_paid 41 = .ok (.aload_n 0, 1) ∧ 41 + 1 = 42 := by decide +kernel
theorem d_M_paid_42 : decode c_M_paid 42 = .ok (.getfield 119, 3) ∧ 42 + 3 = 45 := by decide +kernel
theorem d_M_paid_45 : decode c_M_paid 45 = .ok (.iload_n 1, 1) ∧ 45 + 1 = 46 := by decide +kernel
theorem d_M_paid_46 : decode c_M_paid 46 = .ok (.iaload, 1) ∧ 46 + 1 = 47 := by decide +kernel
theorem d_M_paid_47 : decode c_M_paid 47 = .ok (.isub, 1) ∧ 47 + 1 = 48 := by decide +kernel
theorem d_M_paid_48 : decode c_M_paid 48 = .ok (.if_icmp .gt 13, 3) ∧ 48 + 3 = 51 ∧ ((48 : Nat) : Int) + 13 = ((61 : Nat) : Int) := by decide +kernel
theorem d_M_paid_51 : decode c_M_paid 51 = .ok (.iload_n 3, 1) ∧ 51 + 1 = 52 := by decide +kernel
theorem d_M_paid_52 : decode c_M_paid 52 = .ok (.aload_n 0, 1) ∧ 52 + 1 = 53 := by decide +kernel
theorem d_M_paid_53 : decode c_M_paid 53 = .ok (.getfield 116, 3) ∧ 53 + 3 = 56 := by decide +kernel
theorem d_M_paid_56 : decode c_M_paid 56 = .ok (.iload_n 1, 1) ∧ 56 + 1 = 57 := by decide +kernel
theorem d_M_paid_57 : decode c_M_paid 57 = .ok (.iaload, 1) ∧ 57 + 1 = 58 := by decide +kernel
theorem d_M_paid_58 : decode c_M_paid 58 = .ok (.if_icmp .ge 6, 3) ∧ 58 + 3 = 61 ∧ ((58 : Nat) : Int) + 6 = ((64 : Nat) : Int) := by decide +kernel
theorem d_M_paid_61 : decode c_M_paid 61 = .ok (.bipush (-3), 2) ∧ 61 + 2 = 63 := by decide +kernel
theorem d_M_paid_63 : decode c_M_paid 63 = .ok (.ireturn, 1) ∧ 63 + 1 = 64 := by decide +kernel
theorem d_M_paid_64 : decode c_M_paid 64 = .ok (.aload_n 0, 1) ∧ 64 + 1 = 65 := by decide +kernel
theorem d_M_paid_65 : decode c_M_paid 65 = .ok (.getfield 119, 3) ∧ 65 + 3 = 68 := by decide +kernel
theorem d_M_paid_68 : decode c_M_paid 68 = .ok (.iload_n 1, 1) ∧ 68 + 1 = 69 := by decide +kernel
theorem d_M_paid_69 : decode c_M_paid 69 = .ok (.dup2, 1) ∧ 69 + 1 = 70 := by decide +kernel
theorem d_M_paid_70 : decode c_M_paid 70 = .ok (.iaload, 1) ∧ 70 + 1 = 71 := by decide +kernel
theorem d_M_paid_71 : decode c_M_paid 71 = .ok (.iload_n 2, 1) ∧ 71 + 1 = 72 := by decide +kernel
theorem d_M_paid_72 : decode c_M_paid 72 = .ok (.iadd, 1) ∧ 72 + 1 = 73 := by decide +kernel
theorem d_M_paid_73 : decode c_M_paid 73 = .ok (.iastore, 1) ∧ 73 + 1 = 74 := by decide +kernel
theorem d_M_paid_74 : decode c_M_paid 74 = .ok (.aload_n 0, 1) ∧ 74 + 1 = 75 := by decide +kernel
theorem d_M_paid_75 : decode c_M_paid 75 = .ok (.getfield 113, 3) ∧ 75 + 3 = 78 := by decide +kernel
theorem d_M_paid_78 : decode c_M_paid 78 = .ok (.iload_n 1, 1) ∧ 78 + 1 = 79 := by decide +kernel
theorem d_M_paid_79 : decode c_M_paid 79 = .ok (.iaload, 1) ∧ 79 + 1 = 80 := by decide +kernel
theorem d_M_paid_80 : decode c_M_paid 80 = .ok (.aload_n 0, 1) ∧ 80 + 1 = 81 := by decide +kernel
theorem d_M_paid_81 : decode c_M_paid 81 = .ok (.getfield 119, 3) ∧ 81 + 3 = 84 := by decide +kernel
theorem d_M_paid_84 : decode c_M_paid 84 = .ok (.iload_n 1, 1) ∧ 84 + 1 = 85 := by decide +kernel
theorem d_M_paid_85 : decode c_M_paid 85 = .ok (.iaload, 1) ∧ 85 + 1 = 86 := by decide +kernel
theorem d_M_paid_86 : decode c_M_paid 86 = .ok (.isub, 1) ∧ 86 + 1 = 87 := by decide +kernel
theorem d_M_paid_87 : decode c_M_paid 87 = .ok (.ireturn, 1) ∧ 87 + 1 = 88 := by decide +kernel
set_option maxHeartbeats 4000000 in
theorem m_M_paid {Z : Sy} {σ : St} {res : (Int32 × St)} {x1 : Int32} {x2 : Int32} {x3 : Int32} (hf : M_paid x1 x2 x3 σ = some res) : Ct YM Z y_M_paid c_M_paid 4 (some .int) 7 [.ref (ya Z 0), .int x1, .int x2, .int x3] σ (some (.int res.1)) res.2 := by
  refine Ct.of pn_M (Nat.le_of_ble_eq_true rfl) rfl (fun Γ h => ?_)
  have h : IsG YM Z R_M c_M_paid 4 7 (some .int) (some (.int res.1)) res.2 Γ := h
  unfold M_paid at hf
  refine r_aload_n h d_M_paid_0 0 rfl rfl ?_
  refine r_iload_n h d_M_paid_1 1 rfl rfl ?_
  obtain ⟨r2, e2, hf⟩ := q_bind hf
  refine r_callV (As := [.int x1]) (rest := []) h sh_YM_0 lk_M_386 vk_M_386 d_M_paid_2 (by decide) rfl rfl (Nat.le_of_ble_eq_true rfl) (m_M_noDebt e2) ?_
  refine r_bif_eq h d_M_paid_5 hf (fun hf => ?_) (fun hf => ?_)
  · refine r_iload_n h d_M_paid_10 2 rfl rfl ?_
    refine r_iconst h d_M_paid_11 ki_1 ?_
    refine r_icmp_lt h d_M_paid_12 hf (fun hf => ?_) (fun hf => ?_)
    · refine r_bipush h d_M_paid_22 kb_m2 ?_
      exact r_ireturn h d_M_paid_24.1 (q_p1 hf) (q_p2 hf)
    · refine r_iload_n h d_M_paid_15 3 rfl rfl ?_
      obtain ⟨r16, e16, hf⟩ := q_bind hf
      refine r_callS (As := [.int x3]) (rest := []) h lk_M_205 sk_M_205 d_M_paid_16 (by decide) rfl rfl (Nat.le_of_ble_eq_true rfl) (m_M_isDay e16) ?_
      refine r_bif_ne h d_M_paid_19 hf (fun hf => ?_) (fun hf => ?_)
      · refine r_aload_n h d_M_paid_25 0 rfl rfl ?_
        refine r_iload_n h d_M_paid_26 1 rfl rfl ?_
        refine r_iload_n h d_M_paid_27 3 rfl rfl ?_
        obtain ⟨r28, e28, hf⟩ := q_bind hf
        refine r_callV (As := [.int x1, .int x3]) (rest := []) h sh_YM_0 lk_M_389 vk_M_389 d_M_paid_28 (by decide) rfl rfl (Nat.le_of_ble_eq_true rfl) (m_M_isBarred e28) ?_
        refine r_bif_ne h d_M_paid_31 hf (fun hf => ?_) (fun hf => ?_)
        · refine r_bipush h d_M_paid_61 kb_m3 ?_
          exact r_ireturn h d_M_paid_63.1 (q_p1 hf) (q_p2 hf)
        · refine r_iload_n h d_M_paid_34 2 rfl rfl ?_
          refine r_aload_n h d_M_paid_35 0 rfl rfl ?_
          refine r_getR h fd_YM_0_45 cf_M fl_M_113 d_M_paid_36 ?_
          refine r_iload_n h d_M_paid_39 1 rfl rfl ?_
          refine r_iald h sh_YM_35 d_M_paid_40 hf (fun hf => ?_)
          refine r_aload_n h d_M_paid_41 0 rfl rfl ?_
          refine r_getR h fd_YM_0_47 cf_M fl_M_119 d_M_paid_42 ?_
          refine r_iload_n h d_M_paid_45 1 rfl rfl ?_
          refine r_iald h sh_YM_37 d_M_paid_46 hf (fun hf => ?_)
          refine r_isub h d_M_paid_47 ?_
          refine r_icmp_gt h d_M_paid_48 hf (fun hf => ?_) (fun hf => ?_)
          · refine r_bipush h d_M_paid_61 kb_m3 ?_
            exact r_ireturn h d_M_paid_63.1 (q_p1 hf) (q_p2 hf)
          · refine r_iload_n h d_M_paid_51 3 rfl rfl ?_
            refine r_aload_n h d_M_paid_52 0 rfl rfl ?_
            refine r_getR h fd_YM_0_46 cf_M fl_M_116 d_M_paid_53 ?_
            refine r_iload_n h d_M_paid_56 1 rfl rfl ?_
            refine r_iald h sh_YM_36 d_M_paid_57 hf (fun hf => ?_)
            refine r_icmp_ge h d_M_paid_58 hf (fun hf => ?_) (fun hf => ?_)
            · refine r_aload_n h d_M_paid_64 0 rfl rfl ?_
              refine r_getR h fd_YM_0_47 cf_M fl_M_119 d_M_paid_65 ?_
              refine r_iload_n h d_M_paid_68 1 rfl rfl ?_
              refine r_dup2 h d_M_paid_69 rfl rfl ?_
              refine r_iald h sh_YM_37 d_M_paid_70 hf (fun hf => ?_)
              refine r_iload_n h d_M_paid_71 2 rfl rfl ?_
              refine r_iadd h d_M_paid_72 ?_
              refine r_iast h sh_YM_37 d_M_paid_73 hf (fun hf => ?_)
              refine r_aload_n h d_M_paid_74 0 rfl rfl ?_
              refine r_getR h fd_YM_0_45 cf_M fl_M_113 d_M_paid_75 ?_
              refine r_iload_n h d_M_paid_78 1 rfl rfl ?_
              refine r_ialdv (v := (σ.1 35 (Int32.toNatClampNeg x1))) h sh_YM_35 d_M_paid_79 hf rfl (fun hf => ?_)
              refine r_aload_n h d_M_paid_80 0 rfl rfl ?_
              refine r_getR h fd_YM_0_47 cf_M fl_M_119 d_M_paid_81 ?_
              refine r_iload_n h d_M_paid_84 1 rfl rfl ?_
              refine r_iald h sh_YM_37 d_M_paid_85 hf (fun hf => ?_)
              refine r_isub h d_M_paid_86 ?_
              exact r_ireturn h d_M_paid_87.1 (q_p1 hf) (q_p2 hf)
            · refine r_bipush h d_M_paid_61 kb_m3 ?_
              exact r_ireturn h d_M_paid_63.1 (q_p1 hf) (q_p2 hf)
      · refine r_bipush h d_M_paid_22 kb_m2 ?_
        exact r_ireturn h d_M_paid_24.1 (q_p1 hf) (q_p2 hf)
  · refine r_iconst h d_M_paid_8 ki_m1 ?_
    exact r_ireturn h d_M_paid_9.1 (q_p1 hf) (q_p2 hf)

theorem d_M_dead_0 : decode c_M_dead 0 = .ok (.aload_n 0, 1) ∧ 0 + 1 = 1 := by decide +kernel
theorem d_M_dead_1 : decode c_M_dead 1 = .ok (.iload_n 1, 1) ∧ 1 + 1 = 2 := by decide +kernel
theorem d_M_dead_2 : decode c_M_dead 2 = .ok (.invokevirtual 237, 3) ∧ 2 + 3 = 5 := by decide +kernel
theorem d_M_dead_5 : decode c_M_dead 5 = .ok (.ifCond .eq 5, 3) ∧ 5 + 3 = 8 ∧ ((5 : Nat) : Int) + 5 = ((10 : Nat) : Int) := by decide +kernel
theorem d_M_dead_8 : decode c_M_dead 8 = .ok (.iconst (-1), 1) ∧ 8 + 1 = 9 := by decide +kernel
theorem d_M_dead_9 : decode c_M_dead 9 = .ok (.ireturn, 1) ∧ 9 + 1 = 10 := by decide +kernel
theorem d_M_dead_10 : decode c_M_dead 10 = .ok (.iload_n 2, 1) ∧ 10 + 1 = 11 := by decide +kernel
theorem d_M_dead_11 : decode c_M_dead 11 = .ok (.invokestatic 205, 3) ∧ 11 + 3 = 14 := by decide +kernel
theorem d_M_dead_14 : decode c_M_dead 14 = .ok (.ifCond .ne 6, 3) ∧ 14 + 3 = 17 ∧ ((14 : Nat) : Int) + 6 = ((20 : Nat) : Int) := by decide +kernel
theorem d_M_dead_17 : decode c_M_dead 17 = .ok (.bipush (-2), 2) ∧ 17 + 2 = 19 := by decide +kernel
theorem d_M_dead_19 : decode c_M_dead 19 = .ok (.ireturn, 1) ∧ 19 + 1 = 20 := by decide +kernel
theorem d_M_dead_20 : decode c_M_dead 20 = .ok (.iconst 0, 1) ∧ 20 + 1 = 21 := by decide +kernel
theorem d_M_dead_21 : decode c_M_dead 21 = .ok (.istore_n 3, 1) ∧ 21 + 1 = 22 := by decide +kernel
theorem d_M_dead_22 : decode c_M_dead 22 = .ok (.iconst 0, 1) ∧ 22 + 1 = 23 := by decide +kernel
theorem d_M_dead_23 : decode c_M_dead 23 = .ok (.istore 4, 2) ∧ 23 + 2 = 25 := by decide +kernel
theorem d_M_dead_25 : decode c_M_dead 25 = .ok (.iload 4, 2) ∧ 25 + 2 = 27 := by decide +kernel
theorem d_M_dead_27 : decode c_M_dead 27 = .ok (.aload_n 0, 1) ∧ 27 + 1 = 28 := by decide +kernel
theorem d_M_dead_28 : decode c_M_dead 28 = .ok (.getfield 380, 3) ∧ 28 + 3 = 31 := by decide +kernel
theorem d_M_dead_31 : decode c_M_dead 31 = .ok (.if_icmp .ge 140, 3) ∧ 31 + 3 = 34 ∧ ((31 : Nat) : Int) + 140 = ((171 : Nat) : Int) := by decide +kernel
theorem d_M_dead_34 : decode c_M_dead 34 = .ok (.aload_n 0, 1) ∧ 34 + 1 = 35 := by decide +kernel
theorem d_M_dead_35 : decode c_M_dead 35 = .ok (.getfield 122, 3) ∧ 35 + 3 = 38 := by decide +kernel
theorem d_M_dead_38 : decode c_M_dead 38 = .ok (.iload 4, 2) ∧ 38 + 2 = 40 := by decide +kernel
theorem d_M_dead_40 : decode c_M_dead 40 = .ok (.iaload, 1) ∧ 40 + 1 = 41 := by decide +kernel
theorem d_M_dead_41 : decode c_M_dead 41 = .ok (.iload_n 1, 1) ∧ 41 + 1 = 42 := by decide +kernel
theorem d_M_dead_42 : decode c_M_dead 42 = .ok (.if_icmp .ne 123, 3) ∧ 42 + 3 = 45 ∧ ((42 : Nat) : Int) + 123 = ((165 : Nat) : Int) := by decide +kernel
theorem d_M_dead_45 : decode c_M_dead 45 = .ok (.aload_n 0, 1) ∧ 45 + 1 = 46 := by decide +kernel
theorem d_M_dead_46 : decode c_M_dead 46 = .ok (.getfield 116, 3) ∧ 46 + 3 = 49 := by decide +kernel
theorem d_M_dead_49 : decode c_M_dead 49 = .ok (.iload 4, 2) ∧ 49 + 2 = 51 := by decide +kernel
theorem d_M_dead_51 : decode c_M_dead 51 = .ok (.iaload, 1) ∧ 51 + 1 = 52 := by decide +kernel
theorem d_M_dead_52 : decode c_M_dead 52 = .ok (.iload_n 2, 1) ∧ 52 + 1 = 53 := by decide +kernel
theorem d_M_dead_53 : decode c_M_dead 53 = .ok (.if_icmp .gt 112, 3) ∧ 53 + 3 = 56 ∧ ((53 : Nat) : Int) + 112 = ((165 : Nat) : Int) := by decide +kernel
theorem d_M_dead_56 : decode c_M_dead 56 = .ok (.aload_n 0, 1) ∧ 56 + 1 = 57 := by decide +kernel
theorem d_M_dead_57 : decode c_M_dead 57 = .ok (.iload 4, 2) ∧ 57 + 2 = 59 := by decide +kernel
theorem d_M_dead_59 : decode c_M_dead 59 = .ok (.iload_n 2, 1) ∧ 59 + 1 = 60 := by decide +kernel
theorem d_M_dead_60 : decode c_M_dead 60 = .ok (.invokevirtual 389, 3) ∧ 60 + 3 = 63 := by decide +kernel
theorem d_M_dead_63 : decode c_M_dead 63 = .ok (.ifCond .ne 102, 3) ∧ 63 + 3 = 66 ∧ ((63 : Nat) : Int) + 102 = ((165 : Nat) : Int) := by decide +kernel
theorem d_M_dead_66 : decode c_M_dead 66 = .ok (.aload_n 0, 1) ∧ 66 + 1 = 67 := by decide +kernel
theorem d_M_dead_67 : decode c_M_dead 67 = .ok (.getfield 119, 3) ∧ 67 + 3 = 70 := by decide +kernel
theorem d_M_dead_70 : decode c_M_dead 70 = .ok (.iload 4, 2) ∧ 70 + 2 = 72 := by decide +kernel
theorem d_M_dead_72 : decode c_M_dead 72 = .ok (.iaload, 1) ∧ 72 + 1 = 73 := by decide +kernel
theorem d_M_dead_73 : decode c_M_dead 73 = .ok (.aload_n 0, 1) ∧ 73 + 1 = 74 := by decide +kernel
theorem d_M_dead_74 : decode c_M_dead 74 = .ok (.getfield 113, 3) ∧ 74 + 3 = 77 := by decide +kernel
theorem d_M_dead_77 : decode c_M_dead 77 = .ok (.iload 4, 2) ∧ 77 + 2 = 79 := by decide +kernel
theorem d_M_dead_79 : decode c_M_dead 79 = .ok (.iaload, 1) ∧ 79 + 1 = 80 := by decide +kernel
theorem d_M_dead_80 : decode c_M_dead 80 = .ok (.if_icmp .ge 85, 3) ∧ 80 + 3 = 83 ∧ ((80 : Nat) : Int) + 85 = ((165 : Nat) : Int) := by decide +kernel
theorem d_M_dead_83 : decode c_M_dead 83 = .ok (.aload_n 0, 1) ∧ 83 + 1 = 84 := by decide +kernel
theorem d_M_dead_84 : decode c_M_dead 84 = .ok (.getfield 7, 3) ∧ 84 + 3 = 87 := by decide +kernel
theorem d_M_dead_87 : decode c_M_dead 87 = .ok (.aload_n 0, 1) ∧ 87 + 1 = 88 := by decide +kernel
theorem d_M_dead_88 : decode c_M_dead 88 = .ok (.getfield 107, 3) ∧ 88 + 3 = 91 := by decide +kernel
theorem d_M_dead_91 : decode c_M_dead 91 = .ok (.iload 4, 2) ∧ 91 + 2 = 93 := by decide +kernel
theorem d_M_dead_93 : decode c_M_dead 93 = .ok (.iaload, 1) ∧ 93 + 1 = 94 := by decide +kernel
theorem d_M_dead_94 : decode c_M_dead 94 = .ok (.iaload, 1) ∧ 94 + 1 = 95 := by decide +kernel
theorem d_M_dead_95 : decode c_M_dead 95 = .ok (.istore 5, 2) ∧ 95 + 2 = 97 := by decide +kernel
theorem d_M_dead_97 : decode c_M_dead 97 = .ok (.aload_n 0, 1) ∧ 97 + 1 = 98 := by decide +kernel
theorem d_M_dead_98 : decode c_M_dead 98 = .ok (.iconst 3, 1) ∧ 98 + 1 = 99 := by decide +kernel
theorem d_M_dead_99 : decode c_M_dead 99 = .ok (.iload 5, 2) ∧ 99 + 2 = 101 := by decide +kernel
theorem d_M_dead_101 : decode c_M_dead 101 = .ok (.iload_n 2, 1) ∧ 101 + 1 = 102 := by decide +kernel
theorem d_M_dead_102 : decode c_M_dead 102 = .ok (.invokevirtual 360, 3) ∧ 102 + 3 = 105 := by decide +kernel
theorem d_M_dead_105 : decode c_M_dead 105 = .ok (.istore 6, 2) ∧ 105 + 2 = 107 := by decide +kernel
theorem d_M_dead_107 : decode c_M_dead 107 = .ok (.aload_n 0, 1) ∧ 107 + 1 = 108 := by decide +kernel
theorem d_M_dead_108 : decode c_M_dead 108 = .ok (.getfield 122, 3) ∧ 108 + 3 = 111 := by decide +kernel
theorem d_M_dead_111 : decode c_M_dead 111 = .ok (.iload 4, 2) ∧ 111 + 2 = 113 := by decide +kernel
theorem d_M_dead_113 : decode c_M_dead 113 = .ok (.iload 6, 2) ∧ 113 + 2 = 115 := by decide +kernel
theorem d_M_dead_115 : decode c_M_dead 115 = .ok (.ifCond .ne 7, 3) ∧ 115 + 3 = 118 ∧ ((115 : Nat) : Int) + 7 = ((122 : Nat) : Int) := by decide +kernel
theorem d_M_dead_118 : decode c_M_dead 118 = .ok (.iload_n 1, 1) ∧ 118 + 1 = 119 := by decide +kernel
theorem d_M_dead_119 : decode c_M_dead 119 = .ok (.goto 32, 3) ∧ (119 : Int) + 32 = (151 : Int) := by decide +kernel
theorem d_M_dead_122 : decode c_M_dead 122 = .ok (.iload 6, 2) ∧ 122 + 2 = 124 := by decide +kernel
theorem d_M_dead_124 : decode c_M_dead 124 = .ok (.iconst 1, 1) ∧ 124 + 1 = 125 := by decide +kernel
theorem d_M_dead_125 : decode c_M_dead 125 = .ok (.if_icmp .ne 21, 3) ∧ 125 + 3 = 128 ∧ ((125 : Nat) : Int) + 21 = ((146 : Nat) : Int) := by decide +kernel
theorem d_M_dead_128 : decode c_M_dead 128 = .ok (.bipush 6, 2) ∧ 128 + 2 = 130 := by decide +kernel
theorem d_M_dead_130 : decode c_M_dead 130 = .ok (.aload_n 0, 1) ∧ 130 + 1 = 131 := by decide +kernel
theorem d_M_dead_131 : decode c_M_dead 131 = .ok (.getfield 40, 3) ∧ 131 + 3 = 134 := by decide +kernel
theorem d_M_dead_134 : decode c_M_dead 134 = .ok (.aload_n 0, 1) ∧ 134 + 1 = 135 := by decide +kernel
theorem d_M_dead_135 : decode c_M_dead 135 = .ok (.getfield 110, 3) ∧ 135 + 3 = 138 := by decide +kernel
theorem d_M_dead_138 : decode c_M_dead 138 = .ok (.iload 4, 2) ∧ 138 + 2 = 140 := by decide +kernel
theorem d_M_dead_140 : decode c_M_dead 140 = .ok (.iaload, 1) ∧ 140 + 1 = 141 := by decide +kernel
theorem d_M_dead_141 : decode c_M_dead 141 = .ok (.iaload, 1) ∧ 141 + 1 = 142 := by decide +kernel
theorem d_M_dead_142 : decode c_M_dead 142 = .ok (.iadd, 1) ∧ 142 + 1 = 143 := by decide +kernel
theorem d_M_dead_143 : decode c_M_dead 143 = .ok (.goto 8, 3) ∧ (143 : Int) + 8 = (151 : Int) := by decide +kernel
theorem d_M_dead_146 : decode c_M_dead 146 = .ok (.bipush 10, 2) ∧ 146 + 2 = 148 := by decide +kernel
theorem d_M_dead_148 : decode c_M_dead 148 = .ok (.iload 5, 2) ∧ 148 + 2 = 150 := by decide +kernel
theorem d_M_dead_150 : decode c_M_dead 150 = .ok (.iadd, 1) ∧ 150 + 1 = 151 := by decide +kernel
theorem d_M_dead_151 : decode c_M_dead 151 = .ok (.iastore, 1) ∧ 151 + 1 = 152 := by decide +kernel
theorem d_M_dead_152 : decode c_M_dead 152 = .ok (.iload_n 3, 1) ∧ 152 + 1 = 153 := by decide +kernel
theorem d_M_dead_153 : decode c_M_dead 153 = .ok (.iload 6, 2) ∧ 153 + 2 = 155 := by decide +kernel
theorem d_M_dead_155 : decode c_M_dead 155 = .ok (.ifCond .ne 7, 3) ∧ 155 + 3 = 158 ∧ ((155 : Nat) : Int) + 7 = ((162 : Nat) : Int) := by decide +kernel
theorem d_M_dead_158 : decode c_M_dead 158 = .ok (.iconst 0, 1) ∧ 158 + 1 = 159 := by decide +kernel
theorem d_M_dead_159 : decode c_M_dead 159 = .ok (.goto 4, 3) ∧ (159 : Int) + 4 = (163 : Int) := by decide +kernel
theorem d_M_dead_162 : decode c_M_dead 162 = .ok (.iconst 1, 1) ∧ 162 + 1 = 163 := by decide +kernel
theorem d_M_dead_163 : decode c_M_dead 163 = .ok (.iadd, 1) ∧ 163 + 1 = 164 := by decide +kernel
theorem d_M_dead_164 : decode c_M_dead 164 = .ok (.istore_n 3, 1) ∧ 164 + 1 = 165 := by decide +kernel
theorem d_M_dead_165 : decode c_M_dead 165 = .ok (.iinc 4 1, 3) ∧ 165 + 3 = 168 := by decide +kernel
theorem d_M_dead_168 : decode c_M_dead 168 = .ok (.goto (-143), 3) ∧ (168 : Int) + (-143) = (25 : Int) := by decide +kernel
theorem d_M_dead_171 : decode c_M_dead 171 = .ok (.iload_n 3, 1) ∧ 171 + 1 = 172 := by decide +kernel
theorem d_M_dead_172 : decode c_M_dead 172 = .ok (.ireturn, 1) ∧ 172 + 1 = 173 := by decide +kernel
set_option maxHeartbeats 4000000 in
theorem w_M_dead_L25 {Z : Sy} {Γ : Nat → List (Nat × Value) → List Value → St → Prop} {res : (Int32 × St)} {x1 : Int32} {x2 : Int32} (h : IsG YM Z R_M c_M_dead 7 7 (some .int) (some (.int res.1)) res.2 Γ) : ∀ (n : Nat) (x3 : Int32) (x4 : Int32) (σ : St), M_dead_L25 x1 x2 n x3 x4 σ = some res → Γ 25 [(0, .ref (ya Z 0)), (1, .int x1), (2, .int x2), (3, .int x3), (4, .int x4)] [] σ := by
  intro n
  induction n with
  | zero => intro x3 x4 σ hf; exact absurd hf (by simp [M_dead_L25])
  | succ n ih =>
    intro x3 x4 σ hf
    rw [M_dead_L25] at hf
    refine r_iload h d_M_dead_25 4 rfl ?_
    refine r_aload_n h d_M_dead_27 0 rfl rfl ?_
    refine r_getI h fd_YM_0_41 cf_M fl_M_380 d_M_dead_28 ?_
    refine r_icmp_ge h d_M_dead_31 hf (fun hf => ?_) (fun hf => ?_)
    · refine r_iload_n h d_M_dead_171 3 rfl rfl ?_
      exact r_ireturn h d_M_dead_172.1 (q_p1 hf) (q_p2 hf)
    · refine r_aload_n h d_M_dead_34 0 rfl rfl ?_
      refine r_getR h fd_YM_0_48 cf_M fl_M_122 d_M_dead_35 ?_
      refine r_iload h d_M_dead_38 4 rfl ?_
      refine r_iald h sh_YM_38 d_M_dead_40 hf (fun hf => ?_)
      refine r_iload_n h d_M_dead_41 1 rfl rfl ?_
      refine r_icmp_ne h d_M_dead_42 hf (fun hf => ?_) (fun hf => ?_)
      · refine r_iinc (ls' := [(4, .int (x4 + (1 : Int32))), (0, .ref (ya Z 0)), (1, .int x1), (2, .int x2), (3, .int x3)]) h d_M_dead_165 4 rfl ki_1 (by decide) rfl ?_
        refine r_goto h d_M_dead_168 ?_
        refine r_sub h [1, 2, 3, 4, 0] rfl ?_
        exact ih _ _ _ hf
      · refine r_aload_n h d_M_dead_45 0 rfl rfl ?_
        refine r_getR h fd_YM_0_46 cf_M fl_M_116 d_M_dead_46 ?_
        refine r_iload h d_M_dead_49 4 rfl ?_
        refine r_iald h sh_YM_36 d_M_dead_51 hf (fun hf => ?_)
        refine r_iload_n h d_M_dead_52 2 rfl rfl ?_
        refine r_icmp_gt h d_M_dead_53 hf (fun hf => ?_) (fun hf => ?_)
        · refine r_iinc (ls' := [(4, .int (x4 + (1 : Int32))), (0, .ref (ya Z 0)), (1, .int x1), (2, .int x2), (3, .int x3)]) h d_M_dead_165 4 rfl ki_1 (by decide) rfl ?_
          refine r_goto h d_M_dead_168 ?_
          refine r_sub h [1, 2, 3, 4, 0] rfl ?_
          exact ih _ _ _ hf
        · refine r_aload_n h d_M_dead_56 0 rfl rfl ?_
          refine r_iload h d_M_dead_57 4 rfl ?_
          refine r_iload_n h d_M_dead_59 2 rfl rfl ?_
          obtain ⟨r60, e60, hf⟩ := q_bind hf
          refine r_callV (As := [.int x4, .int x2]) (rest := []) h sh_YM_0 lk_M_389 vk_M_389 d_M_dead_60 (by decide) rfl rfl (Nat.le_of_ble_eq_true rfl) (m_M_isBarred e60) ?_
          refine r_bif_ne h d_M_dead_63 hf (fun hf => ?_) (fun hf => ?_)
          · refine r_iinc (ls' := [(4, .int (x4 + (1 : Int32))), (0, .ref (ya Z 0)), (1, .int x1), (2, .int x2), (3, .int x3)]) h d_M_dead_165 4 rfl ki_1 (by decide) rfl ?_
            refine r_goto h d_M_dead_168 ?_
            refine r_sub h [1, 2, 3, 4, 0] rfl ?_
            exact ih _ _ _ hf
          · refine r_aload_n h d_M_dead_66 0 rfl rfl ?_
            refine r_getR h fd_YM_0_47 cf_M fl_M_119 d_M_dead_67 ?_
            refine r_iload h d_M_dead_70 4 rfl ?_
            refine r_iald h sh_YM_37 d_M_dead_72 hf (fun hf => ?_)
            refine r_aload_n h d_M_dead_73 0 rfl rfl ?_
            refine r_getR h fd_YM_0_45 cf_M fl_M_113 d_M_dead_74 ?_
            refine r_iload h d_M_dead_77 4 rfl ?_
            refine r_iald h sh_YM_35 d_M_dead_79 hf (fun hf => ?_)
            refine r_icmp_ge h d_M_dead_80 hf (fun hf => ?_) (fun hf => ?_)
            · refine r_iinc (ls' := [(4, .int (x4 + (1 : Int32))), (0, .ref (ya Z 0)), (1, .int x1), (2, .int x2), (3, .int x3)]) h d_M_dead_165 4 rfl ki_1 (by decide) rfl ?_
              refine r_goto h d_M_dead_168 ?_
              refine r_sub h [1, 2, 3, 4, 0] rfl ?_
              exact ih _ _ _ hf
            · refine r_aload_n h d_M_dead_83 0 rfl rfl ?_
              refine r_getR h fd_YM_0_4 cf_M fl_M_7 d_M_dead_84 ?_
              refine r_aload_n h d_M_dead_87 0 rfl rfl ?_
              refine r_getR h fd_YM_0_43 cf_M fl_M_107 d_M_dead_88 ?_
              refine r_iload h d_M_dead_91 4 rfl ?_
              refine r_iald h sh_YM_33 d_M_dead_93 hf (fun hf => ?_)
              refine r_iald h sh_YM_1 d_M_dead_94 hf (fun hf => ?_)
              refine r_istore (ls' := [(5, .int (σ.1 1 (Int32.toNatClampNeg (σ.1 33 (Int32.toNatClampNeg x4))))), (0, .ref (ya Z 0)), (1, .int x1), (2, .int x2), (3, .int x3), (4, .int x4)]) h d_M_dead_95 (by decide) rfl ?_
              refine r_aload_n h d_M_dead_97 1 rfl rfl ?_
              refine r_iconst h d_M_dead_98 ki_3 ?_
              refine r_iload h d_M_dead_99 0 rfl ?_
              refine r_iload_n h d_M_dead_101 3 rfl rfl ?_
              obtain ⟨r102, e102, hf⟩ := q_bind hf
              refine r_callV (As := [.int (3 : Int32), .int (σ.1 1 (Int32.toNatClampNeg (σ.1 33 (Int32.toNatClampNeg x4)))), .int x2]) (rest := []) h sh_YM_0 lk_M_360 vk_M_360 d_M_dead_102 (by decide) rfl rfl (Nat.le_of_ble_eq_true rfl) (m_M_forceOf e102) ?_
              refine r_istore (ls' := [(6, .int r102), (5, .int (σ.1 1 (Int32.toNatClampNeg (σ.1 33 (Int32.toNatClampNeg x4))))), (0, .ref (ya Z 0)), (1, .int x1), (2, .int x2), (3, .int x3), (4, .int x4)]) h d_M_dead_105 (by decide) rfl ?_
              refine r_aload_n h d_M_dead_107 2 rfl rfl ?_
              refine r_getR h fd_YM_0_48 cf_M fl_M_122 d_M_dead_108 ?_
              refine r_iload h d_M_dead_111 6 rfl ?_
              refine r_iload h d_M_dead_113 0 rfl ?_
              refine r_if_ne h d_M_dead_115 hf (fun hf => ?_) (fun hf => ?_)
              · refine r_iload h d_M_dead_122 0 rfl ?_
                refine r_iconst h d_M_dead_124 ki_1 ?_
                refine r_icmp_ne h d_M_dead_125 hf (fun hf => ?_) (fun hf => ?_)
                · refine r_bipush h d_M_dead_146 kb_10 ?_
                  refine r_iload h d_M_dead_148 1 rfl ?_
                  refine r_iadd h d_M_dead_150 ?_
                  refine r_iast h sh_YM_38 d_M_dead_151 hf (fun hf => ?_)
                  refine r_iload_n h d_M_dead_152 5 rfl rfl ?_
                  refine r_iload h d_M_dead_153 0 rfl ?_
                  refine r_if_ne h d_M_dead_155 hf (fun hf => ?_) (fun hf => ?_)
                  · refine r_iconst h d_M_dead_162 ki_1 ?_
                    refine r_iadd h d_M_dead_163 ?_
                    refine r_istore_n (ls' := [(3, .int (x3 + (1 : Int32))), (6, .int r102), (5, .int (σ.1 1 (Int32.toNatClampNeg (σ.1 33 (Int32.toNatClampNeg x4))))), (0, .ref (ya Z 0)), (1, .int x1), (2, .int x2), (4, .int x4)]) h d_M_dead_164 rfl (by decide) rfl ?_
                    refine r_iinc (ls' := [(4, .int (x4 + (1 : Int32))), (3, .int (x3 + (1 : Int32))), (6, .int r102), (5, .int (σ.1 1 (Int32.toNatClampNeg (σ.1 33 (Int32.toNatClampNeg x4))))), (0, .ref (ya Z 0)), (1, .int x1), (2, .int x2)]) h d_M_dead_165 6 rfl ki_1 (by decide) rfl ?_
                    refine r_goto h d_M_dead_168 ?_
                    refine r_sub h [4, 5, 6, 1, 0] rfl ?_
                    exact ih _ _ _ hf
                  · refine r_iconst h d_M_dead_158 ki_0 ?_
                    refine r_goto h d_M_dead_159 ?_
                    refine r_iadd h d_M_dead_163 ?_
                    refine r_istore_n (ls' := [(3, .int (x3 + (0 : Int32))), (6, .int r102), (5, .int (σ.1 1 (Int32.toNatClampNeg (σ.1 33 (Int32.toNatClampNeg x4))))), (0, .ref (ya Z 0)), (1, .int x1), (2, .int x2), (4, .int x4)]) h d_M_dead_164 rfl (by decide) rfl ?_
                    refine r_iinc (ls' := [(4, .int (x4 + (1 : Int32))), (3, .int (x3 + (0 : Int32))), (6, .int r102), (5, .int (σ.1 1 (Int32.toNatClampNeg (σ.1 33 (Int32.toNatClampNeg x4))))), (0, .ref (ya Z 0)), (1, .int x1), (2, .int x2)]) h d_M_dead_165 6 rfl ki_1 (by decide) rfl ?_
                    refine r_goto h d_M_dead_168 ?_
                    refine r_sub h [4, 5, 6, 1, 0] rfl ?_
                    exact ih _ _ _ hf
                · refine r_bipush h d_M_dead_128 kb_6 ?_
                  refine r_aload_n h d_M_dead_130 2 rfl rfl ?_
                  refine r_getR h fd_YM_0_16 cf_M fl_M_40 d_M_dead_131 ?_
                  refine r_aload_n h d_M_dead_134 2 rfl rfl ?_
                  refine r_getR h fd_YM_0_44 cf_M fl_M_110 d_M_dead_135 ?_
                  refine r_iload h d_M_dead_138 6 rfl ?_
                  refine r_iald h sh_YM_34 d_M_dead_140 hf (fun hf => ?_)
                  refine r_iald h sh_YM_11 d_M_dead_141 hf (fun hf => ?_)
                  refine r_iadd h d_M_dead_142 ?_
                  refine r_goto h d_M_dead_143 ?_
                  refine r_iast h sh_YM_38 d_M_dead_151 hf (fun hf => ?_)
                  refine r_iload_n h d_M_dead_152 5 rfl rfl ?_
                  refine r_iload h d_M_dead_153 0 rfl ?_
                  refine r_if_ne h d_M_dead_155 hf (fun hf => ?_) (fun hf => ?_)
                  · refine r_iconst h d_M_dead_162 ki_1 ?_
                    refine r_iadd h d_M_dead_163 ?_
                    refine r_istore_n (ls' := [(3, .int (x3 + (1 : Int32))), (6, .int r102), (5, .int (σ.1 1 (Int32.toNatClampNeg (σ.1 33 (Int32.toNatClampNeg x4))))), (0, .ref (ya Z 0)), (1, .int x1), (2, .int x2), (4, .int x4)]) h d_M_dead_164 rfl (by decide) rfl ?_
                    refine r_iinc (ls' := [(4, .int (x4 + (1 : Int32))), (3, .int (x3 + (1 : Int32))), (6, .int r102), (5, .int (σ.1 1 (Int32.toNatClampNeg (σ.1 33 (Int32.toNatClampNeg x4))))), (0, .ref (ya Z 0)), (1, .int x1), (2, .int x2)]) h d_M_dead_165 6 rfl ki_1 (by decide) rfl ?_
                    refine r_goto h d_M_dead_168 ?_
                    refine r_sub h [4, 5, 6, 1, 0] rfl ?_
                    exact ih _ _ _ hf
                  · refine r_iconst h d_M_dead_158 ki_0 ?_
                    refine r_goto h d_M_dead_159 ?_
                    refine r_iadd h d_M_dead_163 ?_
                    refine r_istore_n (ls' := [(3, .int (x3 + (0 : Int32))), (6, .int r102), (5, .int (σ.1 1 (Int32.toNatClampNeg (σ.1 33 (Int32.toNatClampNeg x4))))), (0, .ref (ya Z 0)), (1, .int x1), (2, .int x2), (4, .int x4)]) h d_M_dead_164 rfl (by decide) rfl ?_
                    refine r_iinc (ls' := [(4, .int (x4 + (1 : Int32))), (3, .int (x3 + (0 : Int32))), (6, .int r102), (5, .int (σ.1 1 (Int32.toNatClampNeg (σ.1 33 (Int32.toNatClampNeg x4))))), (0, .ref (ya Z 0)), (1, .int x1), (2, .int x2)]) h d_M_dead_165 6 rfl ki_1 (by decide) rfl ?_
                    refine r_goto h d_M_dead_168 ?_
                    refine r_sub h [4, 5, 6, 1, 0] rfl ?_
                    exact ih _ _ _ hf
              · refine r_iload_n h d_M_dead_118 3 rfl rfl ?_
                refine r_goto h d_M_dead_119 ?_
                refine r_iast h sh_YM_38 d_M_dead_151 hf (fun hf => ?_)
                refine r_iload_n h d_M_dead_152 5 rfl rfl ?_
                refine r_iload h d_M_dead_153 0 rfl ?_
                refine r_if_ne h d_M_dead_155 hf (fun hf => ?_) (fun hf => ?_)
                · refine r_iconst h d_M_dead_162 ki_1 ?_
                  refine r_iadd h d_M_dead_163 ?_
                  refine r_istore_n (ls' := [(3, .int (x3 + (1 : Int32))), (6, .int r102), (5, .int (σ.1 1 (Int32.toNatClampNeg (σ.1 33 (Int32.toNatClampNeg x4))))), (0, .ref (ya Z 0)), (1, .int x1), (2, .int x2), (4, .int x4)]) h d_M_dead_164 rfl (by decide) rfl ?_
                  refine r_iinc (ls' := [(4, .int (x4 + (1 : Int32))), (3, .int (x3 + (1 : Int32))), (6, .int r102), (5, .int (σ.1 1 (Int32.toNatClampNeg (σ.1 33 (Int32.toNatClampNeg x4))))), (0, .ref (ya Z 0)), (1, .int x1), (2, .int x2)]) h d_M_dead_165 6 rfl ki_1 (by decide) rfl ?_
                  refine r_goto h d_M_dead_168 ?_
                  refine r_sub h [4, 5, 6, 1, 0] rfl ?_
                  exact ih _ _ _ hf
                · refine r_iconst h d_M_dead_158 ki_0 ?_
                  refine r_goto h d_M_dead_159 ?_
                  refine r_iadd h d_M_dead_163 ?_
                  refine r_istore_n (ls' := [(3, .int (x3 + (0 : Int32))), (6, .int r102), (5, .int (σ.1 1 (Int32.toNatClampNeg (σ.1 33 (Int32.toNatClampNeg x4))))), (0, .ref (ya Z 0)), (1, .int x1), (2, .int x2), (4, .int x4)]) h d_M_dead_164 rfl (by decide) rfl ?_
                  refine r_iinc (ls' := [(4, .int (x4 + (1 : Int32))), (3, .int (x3 + (0 : Int32))), (6, .int r102), (5, .int (σ.1 1 (Int32.toNatClampNeg (σ.1 33 (Int32.toNatClampNeg x4))))), (0, .ref (ya Z 0)), (1, .int x1), (2, .int x2)]) h d_M_dead_165 6 rfl ki_1 (by decide) rfl ?_
                  refine r_goto h d_M_dead_168 ?_
                  refine r_sub h [4, 5, 6, 1, 0] rfl ?_
                  exact ih _ _ _ hf

set_option maxHeartbeats 4000000 in
theorem m_M_dead {Z : Sy} {σ : St} {res : (Int32 × St)} {x1 : Int32} {x2 : Int32} (hf : M_dead x1 x2 σ = some res) : Ct YM Z y_M_dead c_M_dead 7 (some .int) 7 [.ref (ya Z 0), .int x1, .int x2] σ (some (.int res.1)) res.2 := by
  refine Ct.of pn_M (Nat.le_of_ble_eq_true rfl) rfl (fun Γ h => ?_)
  have h : IsG YM Z R_M c_M_dead 7 7 (some .int) (some (.int res.1)) res.2 Γ := h
  unfold M_dead at hf
  refine r_aload_n h d_M_dead_0 0 rfl rfl ?_
  refine r_iload_n h d_M_dead_1 1 rfl rfl ?_
  obtain ⟨r2, e2, hf⟩ := q_bind hf
  refine r_callV (As := [.int x1]) (rest := []) h sh_YM_0 lk_M_237 vk_M_237 d_M_dead_2 (by decide) rfl rfl (Nat.le_of_ble_eq_true rfl) (m_M_noBand e2) ?_
  refine r_bif_eq h d_M_dead_5 hf (fun hf => ?_) (fun hf => ?_)
  · refine r_iload_n h d_M_dead_10 2 rfl rfl ?_
    obtain ⟨r11, e11, hf⟩ := q_bind hf
    refine r_callS (As := [.int x2]) (rest := []) h lk_M_205 sk_M_205 d_M_dead_11 (by decide) rfl rfl (Nat.le_of_ble_eq_true rfl) (m_M_isDay e11) ?_
    refine r_bif_ne h d_M_dead_14 hf (fun hf => ?_) (fun hf => ?_)
    · refine r_iconst h d_M_dead_20 ki_0 ?_
      refine r_istore_n (ls' := [(3, .int (0 : Int32)), (0, .ref (ya Z 0)), (1, .int x1), (2, .int x2)]) h d_M_dead_21 rfl (by decide) rfl ?_
      refine r_iconst h d_M_dead_22 ki_0 ?_
      refine r_istore (ls' := [(4, .int (0 : Int32)), (3, .int (0 : Int32)), (0, .ref (ya Z 0)), (1, .int x1), (2, .int x2)]) h d_M_dead_23 (by decide) rfl ?_
      refine r_sub h [2, 3, 4, 1, 0] rfl ?_
      exact w_M_dead_L25 h _ _ _ _ hf
    · refine r_bipush h d_M_dead_17 kb_m2 ?_
      exact r_ireturn h d_M_dead_19.1 (q_p1 hf) (q_p2 hf)
  · refine r_iconst h d_M_dead_8 ki_m1 ?_
    exact r_ireturn h d_M_dead_9.1 (q_p1 hf) (q_p2 hf)

theorem d_M_sentFor_0 : decode c_M_sentFor 0 = .ok (.iconst 0, 1) ∧ 0 + 1 = 1 := by decide +kernel
theorem d_M_sentFor_1 : decode c_M_sentFor 1 = .ok (.istore_n 3, 1) ∧ 1 + 1 = 2 := by decide +kernel
theorem d_M_sentFor_2 : decode c_M_sentFor 2 = .ok (.iconst 0, 1) ∧ 2 + 1 = 3 := by decide +kernel
theorem d_M_sentFor_3 : decode c_M_sentFor 3 = .ok (.istore 4, 2) ∧ 3 + 2 = 5 := by decide +kernel
theorem d_M_sentFor_5 : decode c_M_sentFor 5 = .ok (.iload 4, 2) ∧ 5 + 2 = 7 := by decide +kernel
theorem d_M_sentFor_7 : decode c_M_sentFor 7 = .ok (.aload_n 0, 1) ∧ 7 + 1 = 8 := by decide +kernel
theorem d_M_sentFor_8 : decode c_M_sentFor 8 = .ok (.getfield 392, 3) ∧ 8 + 3 = 11 := by decide +kernel
theorem d_M_sentFor_11 : decode c_M_sentFor 11 = .ok (.if_icmp .ge 45, 3) ∧ 11 + 3 = 14 ∧ ((11 : Nat) : Int) + 45 = ((56 : Nat) : Int) := by decide +kernel
theorem d_M_sentFor_14 : decode c_M_sentFor 14 = .ok (.iload_n 3, 1) ∧ 14 + 1 = 15 := by decide +kernel
theorem d_M_sentFor_15 : decode c_M_sentFor 15 = .ok (.aload_n 0, 1) ∧ 15 + 1 = 16 := by decide +kernel
theorem d_M_sentFor_16 : decode c_M_sentFor 16 = .ok (.getfield 125, 3) ∧ 16 + 3 = 19 := by decide +kernel
theorem d_M_sentFor_19 : decode c_M_sentFor 19 = .ok (.iload 4, 2) ∧ 19 + 2 = 21 := by decide +kernel
theorem d_M_sentFor_21 : decode c_M_sentFor 21 = .ok (.iaload, 1) ∧ 21 + 1 = 22 := by decide +kernel
theorem d_M_sentFor_22 : decode c_M_sentFor 22 = .ok (.iload_n 1, 1) ∧ 22 + 1 = 23 := by decide +kernel
theorem d_M_sentFor_23 : decode c_M_sentFor 23 = .ok (.if_icmp .ne 24, 3) ∧ 23 + 3 = 26 ∧ ((23 : Nat) : Int) + 24 = ((47 : Nat) : Int) := by decide +kernel
theorem d_M_sentFor_26 : decode c_M_sentFor 26 = .ok (.aload_n 0, 1) ∧ 26 + 1 = 27 := by decide +kernel
theorem d_M_sentFor_27 : decode c_M_sentFor 27 = .ok (.getfield 131, 3) ∧ 27 + 3 = 30 := by decide +kernel
theorem d_M_sentFor_30 : decode c_M_sentFor 30 = .ok (.iload 4, 2) ∧ 30 + 2 = 32 := by decide +kernel
theorem d_M_sentFor_32 : decode c_M_sentFor 32 = .ok (.iaload, 1) ∧ 32 + 1 = 33 := by decide +kernel
theorem d_M_sentFor_33 : decode c_M_sentFor 33 = .ok (.iload_n 2, 1) ∧ 33 + 1 = 34 := by decide +kernel
theorem d_M_sentFor_34 : decode c_M_sentFor 34 = .ok (.if_icmp .gt 13, 3) ∧ 34 + 3 = 37 ∧ ((34 : Nat) : Int) + 13 = ((47 : Nat) : Int) := by decide +kernel
theorem d_M_sentFor_37 : decode c_M_sentFor 37 = .ok (.aload_n 0, 1) ∧ 37 + 1 = 38 := by decide +kernel
theorem d_M_sentFor_38 : decode c_M_sentFor 38 = .ok (.getfield 128, 3) ∧ 38 + 3 = 41 := by decide +kernel
theorem d_M_sentFor_41 : decode c_M_sentFor 41 = .ok (.iload 4, 2) ∧ 41 + 2 = 43 := by decide +kernel
theorem d_M_sentFor_43 : decode c_M_sentFor 43 = .ok (.iaload, 1) ∧ 43 + 1 = 44 := by decide +kernel
theorem d_M_sentFor_44 : decode c_M_sentFor 44 = .ok (.goto 4, 3) ∧ (44 : Int) + 4 = (48 : Int) := by decide +kernel
theorem d_M_sentFor_47 : decode c_M_sentFor 47 = .ok (.iconst 0, 1) ∧ 47 + 1 = 48 := by decide +kernel
theorem d_M_sentFor_48 : decode c_M_sentFor 48 = .ok (.iadd, 1) ∧ 48 + 1 = 49 := by decide +kernel
theorem d_M_sentFor_49 : decode c_M_sentFor 49 = .ok (.istore_n 3, 1) ∧ 49 + 1 = 50 := by decide +kernel
theorem d_M_sentFor_50 : decode c_M_sentFor 50 = .ok (.iinc 4 1, 3) ∧ 50 + 3 = 53 := by decide +kernel
theorem d_M_sentFor_53 : decode c_M_sentFor 53 = .ok (.goto (-48), 3) ∧ (53 : Int) + (-48) = (5 : Int) := by decide +kernel
theorem d_M_sentFor_56 : decode c_M_sentFor 56 = .ok (.iload_n 3, 1) ∧ 56 + 1 = 57 := by decide +kernel
theorem d_M_sentFor_57 : decode c_M_sentFor 57 = .ok (.ireturn, 1) ∧ 57 + 1 = 58 := by decide +kernel
set_option maxHeartbeats 4000000 in
theorem w_M_sentFor_L5 {Z : Sy} {Γ : Nat → List (Nat × Value) → List Value → St → Prop} {res : Int32} {x1 : Int32} {x2 : Int32} {σ : St} (h : IsG YM Z R_M c_M_sentFor 5 1 (some .int) (some (.int res)) σ Γ) : ∀ (n : Nat) (x3 : Int32) (x4 : Int32), M_sentFor_L5 x1 x2 σ n x3 x4 = some res → Γ 5 [(0, .ref (ya Z 0)), (1, .int x1), (2, .int x2), (3, .int x3), (4, .int x4)] [] σ := by
  intro n
  induction n with
  | zero => intro x3 x4 hf; exact absurd hf (by simp [M_sentFor_L5])
  | succ n ih =>
    intro x3 x4 hf
    rw [M_sentFor_L5] at hf
    refine r_iload h d_M_sentFor_5 4 rfl ?_
    refine r_aload_n h d_M_sentFor_7 0 rfl rfl ?_
    refine r_getI h fd_YM_0_49 cf_M fl_M_392 d_M_sentFor_8 ?_
    refine r_icmp_ge h d_M_sentFor_11 hf (fun hf => ?_) (fun hf => ?_)
    · refine r_iload_n h d_M_sentFor_56 3 rfl rfl ?_
      exact r_ireturn h d_M_sentFor_57.1 (Option.some.inj hf) rfl
    · refine r_iload_n h d_M_sentFor_14 3 rfl rfl ?_
      refine r_aload_n h d_M_sentFor_15 0 rfl rfl ?_
      refine r_getR h fd_YM_0_50 cf_M fl_M_125 d_M_sentFor_16 ?_
      refine r_iload h d_M_sentFor_19 4 rfl ?_
      refine r_iald h sh_YM_39 d_M_sentFor_21 hf (fun hf => ?_)
      refine r_iload_n h d_M_sentFor_22 1 rfl rfl ?_
      refine r_icmp_ne h d_M_sentFor_23 hf (fun hf => ?_) (fun hf => ?_)
      · refine r_iconst h d_M_sentFor_47 ki_0 ?_
        refine r_iadd h d_M_sentFor_48 ?_
        refine r_istore_n (ls' := [(3, .int (x3 + (0 : Int32))), (0, .ref (ya Z 0)), (1, .int x1), (2, .int x2), (4, .int x4)]) h d_M_sentFor_49 rfl (by decide) rfl ?_
        refine r_iinc (ls' := [(4, .int (x4 + (1 : Int32))), (3, .int (x3 + (0 : Int32))), (0, .ref (ya Z 0)), (1, .int x1), (2, .int x2)]) h d_M_sentFor_50 4 rfl ki_1 (by decide) rfl ?_
        refine r_goto h d_M_sentFor_53 ?_
        refine r_sub h [2, 3, 4, 1, 0] rfl ?_
        exact ih _ _ hf
      · refine r_aload_n h d_M_sentFor_26 0 rfl rfl ?_
        refine r_getR h fd_YM_0_52 cf_M fl_M_131 d_M_sentFor_27 ?_
        refine r_iload h d_M_sentFor_30 4 rfl ?_
        refine r_iald h sh_YM_41 d_M_sentFor_32 hf (fun hf => ?_)
        refine r_iload_n h d_M_sentFor_33 2 rfl rfl ?_
        refine r_icmp_gt h d_M_sentFor_34 hf (fun hf => ?_) (fun hf => ?_)
        · refine r_iconst h d_M_sentFor_47 ki_0 ?_
          refine r_iadd h d_M_sentFor_48 ?_
          refine r_istore_n (ls' := [(3, .int (x3 + (0 : Int32))), (0, .ref (ya Z 0)), (1, .int x1), (2, .int x2), (4, .int x4)]) h d_M_sentFor_49 rfl (by decide) rfl ?_
          refine r_iinc (ls' := [(4, .int (x4 + (1 : Int32))), (3, .int (x3 + (0 : Int32))), (0, .ref (ya Z 0)), (1, .int x1), (2, .int x2)]) h d_M_sentFor_50 4 rfl ki_1 (by decide) rfl ?_
          refine r_goto h d_M_sentFor_53 ?_
          refine r_sub h [2, 3, 4, 1, 0] rfl ?_
          exact ih _ _ hf
        · refine r_aload_n h d_M_sentFor_37 0 rfl rfl ?_
          refine r_getR h fd_YM_0_51 cf_M fl_M_128 d_M_sentFor_38 ?_
          refine r_iload h d_M_sentFor_41 4 rfl ?_
          refine r_iald h sh_YM_40 d_M_sentFor_43 hf (fun hf => ?_)
          refine r_goto h d_M_sentFor_44 ?_
          refine r_iadd h d_M_sentFor_48 ?_
          refine r_istore_n (ls' := [(3, .int (x3 + (σ.1 40 (Int32.toNatClampNeg x4)))), (0, .ref (ya Z 0)), (1, .int x1), (2, .int x2), (4, .int x4)]) h d_M_sentFor_49 rfl (by decide) rfl ?_
          refine r_iinc (ls' := [(4, .int (x4 + (1 : Int32))), (3, .int (x3 + (σ.1 40 (Int32.toNatClampNeg x4)))), (0, .ref (ya Z 0)), (1, .int x1), (2, .int x2)]) h d_M_sentFor_50 4 rfl ki_1 (by decide) rfl ?_
          refine r_goto h d_M_sentFor_53 ?_
          refine r_sub h [2, 3, 4, 1, 0] rfl ?_
          exact ih _ _ hf

set_option maxHeartbeats 4000000 in
theorem m_M_sentFor {Z : Sy} {σ : St} {res : Int32} {x1 : Int32} {x2 : Int32} (hf : M_sentFor x1 x2 σ = some res) : Ct YM Z y_M_sentFor c_M_sentFor 5 (some .int) 1 [.ref (ya Z 0), .int x1, .int x2] σ (some (.int res)) σ := by
  refine Ct.of pn_M (Nat.le_of_ble_eq_true rfl) rfl (fun Γ h => ?_)
  have h : IsG YM Z R_M c_M_sentFor 5 1 (some .int) (some (.int res)) σ Γ := h
  unfold M_sentFor at hf
  refine r_iconst h d_M_sentFor_0 ki_0 ?_
  refine r_istore_n (ls' := [(3, .int (0 : Int32)), (0, .ref (ya Z 0)), (1, .int x1), (2, .int x2)]) h d_M_sentFor_1 rfl (by decide) rfl ?_
  refine r_iconst h d_M_sentFor_2 ki_0 ?_
  refine r_istore (ls' := [(4, .int (0 : Int32)), (3, .int (0 : Int32)), (0, .ref (ya Z 0)), (1, .int x1), (2, .int x2)]) h d_M_sentFor_3 (by decide) rfl ?_
  refine r_sub h [2, 3, 4, 1, 0] rfl ?_
  exact w_M_sentFor_L5 h _ _ _ hf

theorem d_M_send_0 : decode c_M_send 0 = .ok (.aload_n 0, 1) ∧ 0 + 1 = 1 := by decide +kernel
theorem d_M_send_1 : decode c_M_send 1 = .ok (.iload_n 1, 1) ∧ 1 + 1 = 2 := by decide +kernel
theorem d_M_send_2 : decode c_M_send 2 = .ok (.invokevirtual 284, 3) ∧ 2 + 3 = 5 := by decide +kernel
theorem d_M_send_5 : decode c_M_send 5 = .ok (.ifCond .eq 5, 3) ∧ 5 + 3 = 8 ∧ ((5 : Nat) : Int) + 5 = ((10 : Nat) : Int) := by decide +kernel
theorem d_M_send_8 : decode c_M_send 8 = .ok (.iconst (-1), 1) ∧ 8 + 1 = 9 := by decide +kernel
theorem d_M_send_9 : decode c_M_send 9 = .ok (.ireturn, 1) ∧ 9 + 1 = 10 := by decide +kernel
theorem d_M_send_10 : decode c_M_send 10 = .ok (.iload_n 2, 1) ∧ 10 + 1 = 11 := by decide +kernel
theorem d_M_send_11 : decode c_M_send 11 = .ok (.i2l, 1) ∧ 11 + 1 = 12 := by decide +kernel
theorem d_M_send_12 : decode c_M_send 12 = .ok (.lconst 1, 1) ∧ 12 + 1 = 13 := by decide +kernel
theorem d_M_send_13 : decode c_M_send 13 = .ok (.ldc2_w 395, 3) ∧ 13 + 3 = 16 := by decide +kernel
theorem d_M_send_16 : decode c_M_send 16 = .ok (.invokestatic 201, 3) ∧ 16 + 3 = 19 := by decide +kernel
theorem d_M_send_19 : decode c_M_send 19 = .ok (.ifCond .eq 10, 3) ∧ 19 + 3 = 22 ∧ ((19 : Nat) : Int) + 10 = ((29 : Nat) : Int) := by decide +kernel
theorem d_M_send_22 : decode c_M_send 22 = .ok (.iload_n 3, 1) ∧ 22 + 1 = 23 := by decide +kernel
theorem d_M_send_23 : decode c_M_send 23 = .ok (.invokestatic 205, 3) ∧ 23 + 3 = 26 := by decide +kernel
theorem d_M_send_26 : decode c_M_send 26 = .ok (.ifCond .ne 6, 3) ∧ 26 + 3 = 29 ∧ ((26 : Nat) : Int) + 6 = ((32 : Nat) : Int) := by decide +kernel
theorem d_M_send_29 : decode c_M_send 29 = .ok (.bipush (-2), 2) ∧ 29 + 2 = 31 := by decide +kernel
theorem d_M_send_31 : decode c_M_send 31 = .ok (.ireturn, 1) ∧ 31 + 1 = 32 := by decide +kernel
theorem d_M_send_32 : decode c_M_send 32 = .ok (.aload_n 0, 1) ∧ 32 + 1 = 33 := by decide +kernel
theorem d_M_send_33 : decode c_M_send 33 = .ok (.getfield 125, 3) ∧ 33 + 3 = 36 := by decide +kernel
theorem d_M_send_36 : decode c_M_send 36 = .ok (.aload_n 0, 1) ∧ 36 + 1 = 37 := by decide +kernel
theorem d_M_send_37 : decode c_M_send 37 = .ok (.getfield 392, 3) ∧ 37 + 3 = 40 := by decide +kernel
theorem d_M_send_40 : decode c_M_send 40 = .ok (.iload_n 1, 1) ∧ 40 + 1 = 41 := by decide +kernel
theorem d_M_send_41 : decode c_M_send 41 = .ok (.iastore, 1) ∧ 41 + 1 = 42 := by decide +kernel
theorem d_M_send_42 : decode c_M_send 42 = .ok (.aload_n 0, 1) ∧ 42 + 1 = 43 := by decide +kernel
theorem d_M_send_43 : decode c_M_send 43 = .ok (.getfield 128, 3) ∧ 43 + 3 = 46 := by decide +kernel
theorem d_M_send_46 : decode c_M_send 46 = .ok (.aload_n 0, 1) ∧ 46 + 1 = 47 := by decide +kernel
theorem d_M_send_47 : decode c_M_send 47 = .ok (.getfield 392, 3) ∧ 47 + 3 = 50 := by decide +kernel
theorem d_M_send_50 : decode c_M_send 50 = .ok (.iload_n 2, 1) ∧ 50 + 1 = 51 := by decide +kernel
theorem d_M_send_51 : decode c_M_send 51 = .ok (.iastore, 1) ∧ 51 + 1 = 52 := by decide +kernel
theorem d_M_send_52 : decode c_M_send 52 = .ok (.aload_n 0, 1) ∧ 52 + 1 = 53 := by decide +kernel
theorem d_M_send_53 : decode c_M_send 53 = .ok (.getfield 131, 3) ∧ 53 + 3 = 56 := by decide +kernel
theorem d_M_send_56 : decode c_M_send 56 = .ok (.aload_n 0, 1) ∧ 56 + 1 = 57 := by decide +kernel
theorem d_M_send_57 : decode c_M_send 57 = .ok (.getfield 392, 3) ∧ 57 + 3 = 60 := by decide +kernel
theorem d_M_send_60 : decode c_M_send 60 = .ok (.iload_n 3, 1) ∧ 60 + 1 = 61 := by decide +kernel
theorem d_M_send_61 : decode c_M_send 61 = .ok (.iastore, 1) ∧ 61 + 1 = 62 := by decide +kernel
theorem d_M_send_62 : decode c_M_send 62 = .ok (.aload_n 0, 1) ∧ 62 + 1 = 63 := by decide +kernel
theorem d_M_send_63 : decode c_M_send 63 = .ok (.dup, 1) ∧ 63 + 1 = 64 := by decide +kernel
theorem d_M_send_64 : decode c_M_send 64 = .ok (.getfield 392, 3) ∧ 64 + 3 = 67 := by decide +kernel
theorem d_M_send_67 : decode c_M_send 67 = .ok (.iconst 1, 1) ∧ 67 + 1 = 68 := by decide +kernel
theorem d_M_send_68 : decode c_M_send 68 = .ok (.iadd, 1) ∧ 68 + 1 = 69 := by decide +kernel
theorem d_M_send_69 : decode c_M_send 69 = .ok (.putfield 392, 3) ∧ 69 + 3 = 72 := by decide +kernel
theorem d_M_send_72 : decode c_M_send 72 = .ok (.aload_n 0, 1) ∧ 72 + 1 = 73 := by decide +kernel
theorem d_M_send_73 : decode c_M_send 73 = .ok (.iload_n 1, 1) ∧ 73 + 1 = 74 := by decide +kernel
theorem d_M_send_74 : decode c_M_send 74 = .ok (.sipush 9999, 3) ∧ 74 + 3 = 77 := by decide +kernel
theorem d_M_send_77 : decode c_M_send 77 = .ok (.invokevirtual 397, 3) ∧ 77 + 3 = 80 := by decide +kernel
theorem d_M_send_80 : decode c_M_send 80 = .ok (.ireturn, 1) ∧ 80 + 1 = 81 := by decide +kernel
set_option maxHeartbeats 4000000 in
theorem m_M_send {Z : Sy} {σ : St} {res : (Int32 × St)} {x1 : Int32} {x2 : Int32} {x3 : Int32} (hf : M_send x1 x2 x3 σ = some res) : Ct YM Z y_M_send c_M_send 4 (some .int) 3 [.ref (ya Z 0), .int x1, .int x2, .int x3] σ (some (.int res.1)) res.2 := by
  refine Ct.of pn_M (Nat.le_of_ble_eq_true rfl) rfl (fun Γ h => ?_)
  have h : IsG YM Z R_M c_M_send 4 3 (some .int) (some (.int res.1)) res.2 Γ := h
  unfold M_send at hf
  refine r_aload_n h d_M_send_0 0 rfl rfl ?_
  refine r_iload_n h d_M_send_1 1 rfl rfl ?_
  obtain ⟨r2, e2, hf⟩ := q_bind hf
  refine r_callV (As := [.int x1]) (rest := []) h sh_YM_0 lk_M_284 vk_M_284 d_M_send_2 (by decide) rfl rfl (Nat.le_of_ble_eq_true rfl) (m_M_noPack e2) ?_
  refine r_bif_eq h d_M_send_5 hf (fun hf => ?_) (fun hf => ?_)
  · refine r_iload_n h d_M_send_10 2 rfl rfl ?_
    refine r_i2l h d_M_send_11 ?_
    refine r_lconst h d_M_send_12 kl_1 ?_
    refine r_ldc2 h d_M_send_13 tm_1671 ?_
    obtain ⟨r16, e16, hf⟩ := q_bind hf
    refine r_callS (As := [.long (Int32.toInt64 x2), .long (1 : Int64), .long (99999 : Int64)]) (rest := []) h lk_M_201 sk_M_201 d_M_send_16 (by decide) rfl rfl (Nat.le_of_ble_eq_true rfl) (m_M_in e16) ?_
    refine r_bif_eq h d_M_send_19 hf (fun hf => ?_) (fun hf => ?_)
    · refine r_bipush h d_M_send_29 kb_m2 ?_
      exact r_ireturn h d_M_send_31.1 (q_p1 hf) (q_p2 hf)
    · refine r_iload_n h d_M_send_22 3 rfl rfl ?_
      obtain ⟨r23, e23, hf⟩ := q_bind hf
      refine r_callS (As := [.int x3]) (rest := []) h lk_M_205 sk_M_205 d_M_send_23 (by decide) rfl rfl (Nat.le_of_ble_eq_true rfl) (m_M_isDay e23) ?_
      refine r_bif_ne h d_M_send_26 hf (fun hf => ?_) (fun hf => ?_)
      · refine r_aload_n h d_M_send_32 0 rfl rfl ?_
        refine r_getR h fd_YM_0_50 cf_M fl_M_125 d_M_send_33 ?_
        refine r_aload_n h d_M_send_36 0 rfl rfl ?_
        refine r_getI h fd_YM_0_49 cf_M fl_M_392 d_M_send_37 ?_
        refine r_iload_n h d_M_send_40 1 rfl rfl ?_
        refine r_iast h sh_YM_39 d_M_send_41 hf (fun hf => ?_)
        refine r_aload_n h d_M_send_42 0 rfl rfl ?_
        refine r_getR h fd_YM_0_51 cf_M fl_M_128 d_M_send_43 ?_
        refine r_aload_n h d_M_send_46 0 rfl rfl ?_
        refine r_getIv (v := (σ.1 0 49)) h fd_YM_0_49 cf_M fl_M_392 d_M_send_47 rfl ?_
        refine r_iload_n h d_M_send_50 2 rfl rfl ?_
        refine r_iast h sh_YM_40 d_M_send_51 hf (fun hf => ?_)
        refine r_aload_n h d_M_send_52 0 rfl rfl ?_
        refine r_getR h fd_YM_0_52 cf_M fl_M_131 d_M_send_53 ?_
        refine r_aload_n h d_M_send_56 0 rfl rfl ?_
        refine r_getIv (v := (σ.1 0 49)) h fd_YM_0_49 cf_M fl_M_392 d_M_send_57 rfl ?_
        refine r_iload_n h d_M_send_60 3 rfl rfl ?_
        refine r_iast h sh_YM_41 d_M_send_61 hf (fun hf => ?_)
        refine r_aload_n h d_M_send_62 0 rfl rfl ?_
        refine r_dup h d_M_send_63 rfl ?_
        refine r_getIv (v := (σ.1 0 49)) h fd_YM_0_49 cf_M fl_M_392 d_M_send_64 rfl ?_
        refine r_iconst h d_M_send_67 ki_1 ?_
        refine r_iadd h d_M_send_68 ?_
        refine r_putI h fd_YM_0_49 cf_M fl_M_392 ⟨rfl, rfl⟩ d_M_send_69 ?_
        refine r_aload_n h d_M_send_72 0 rfl rfl ?_
        refine r_iload_n h d_M_send_73 1 rfl rfl ?_
        refine r_sipush h d_M_send_74 ks_9999 ?_
        obtain ⟨r77, e77, hf⟩ := q_bind hf
        refine r_callV (As := [.int x1, .int (9999 : Int32)]) (rest := []) h sh_YM_0 lk_M_397 vk_M_397 d_M_send_77 (by decide) rfl rfl (Nat.le_of_ble_eq_true rfl) (m_M_sentFor e77) ?_
        exact r_ireturn h d_M_send_80.1 (q_p1 hf) (q_p2 hf)
      · refine r_bipush h d_M_send_29 kb_m2 ?_
        exact r_ireturn h d_M_send_31.1 (q_p1 hf) (q_p2 hf)
  · refine r_iconst h d_M_send_8 ki_m1 ?_
    exact r_ireturn h d_M_send_9.1 (q_p1 hf) (q_p2 hf)

