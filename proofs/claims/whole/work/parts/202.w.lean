theorem d_Ledger_countOf_0 : decode c_Ledger_countOf 0 = .ok (.iconst 0, 1) ∧ 0 + 1 = 1 := by decide +kernel
theorem d_Ledger_countOf_1 : decode c_Ledger_countOf 1 = .ok (.istore_n 2, 1) ∧ 1 + 1 = 2 := by decide +kernel
theorem d_Ledger_countOf_2 : decode c_Ledger_countOf 2 = .ok (.iconst 0, 1) ∧ 2 + 1 = 3 := by decide +kernel
theorem d_Ledger_countOf_3 : decode c_Ledger_countOf 3 = .ok (.istore_n 3, 1) ∧ 3 + 1 = 4 := by decide +kernel
theorem d_Ledger_countOf_4 : decode c_Ledger_countOf 4 = .ok (.iload_n 3, 1) ∧ 4 + 1 = 5 := by decide +kernel
theorem d_Ledger_countOf_5 : decode c_Ledger_countOf 5 = .ok (.aload_n 0, 1) ∧ 5 + 1 = 6 := by decide +kernel
theorem d_Ledger_countOf_6 : decode c_Ledger_countOf 6 = .ok (.getfield 42, 3) ∧ 6 + 3 = 9 := by decide +kernel
theorem d_Ledger_countOf_9 : decode c_Ledger_countOf 9 = .ok (.if_icmp .ge 22, 3) ∧ 9 + 3 = 12 ∧ ((9 : Nat) : Int) + 22 = ((31 : Nat) : Int) := by decide +kernel
theorem d_Ledger_countOf_12 : decode c_Ledger_countOf 12 = .ok (.aload_n 0, 1) ∧ 12 + 1 = 13 := by decide +kernel
theorem d_Ledger_countOf_13 : decode c_Ledger_countOf 13 = .ok (.getfield 11, 3) ∧ 13 + 3 = 16 := by decide +kernel
theorem d_Ledger_countOf_16 : decode c_Ledger_countOf 16 = .ok (.iload_n 3, 1) ∧ 16 + 1 = 17 := by decide +kernel
theorem d_Ledger_countOf_17 : decode c_Ledger_countOf 17 = .ok (.iaload, 1) ∧ 17 + 1 = 18 := by decide +kernel
theorem d_Ledger_countOf_18 : decode c_Ledger_countOf 18 = .ok (.iload_n 1, 1) ∧ 18 + 1 = 19 := by decide +kernel
theorem d_Ledger_countOf_19 : decode c_Ledger_countOf 19 = .ok (.if_icmp .ne 6, 3) ∧ 19 + 3 = 22 ∧ ((19 : Nat) : Int) + 6 = ((25 : Nat) : Int) := by decide +kernel
theorem d_Ledger_countOf_22 : decode c_Ledger_countOf 22 = .ok (.iinc 2 1, 3) ∧ 22 + 3 = 25 := by decide +kernel
theorem d_Ledger_countOf_25 : decode c_Ledger_countOf 25 = .ok (.iinc 3 1, 3) ∧ 25 + 3 = 28 := by decide +kernel
theorem d_Ledger_countOf_28 : decode c_Ledger_countOf 28 = .ok (.goto (-24), 3) ∧ (28 : Int) + (-24) = (4 : Int) := by decide +kernel
theorem d_Ledger_countOf_31 : decode c_Ledger_countOf 31 = .ok (.iload_n 2, 1) ∧ 31 + 1 = 32 := by decide +kernel
theorem d_Ledger_countOf_32 : decode c_Ledger_countOf 32 = .ok (.ireturn, 1) ∧ 32 + 1 = 33 := by decide +kernel
set_option maxHeartbeats 4000000 in
theorem w_Ledger_countOf_L4 {Z : Sy} {Γ : Nat → List (Nat × Value) → List Value → St → Prop} {res : Int32} {x1 : Int32} {σ : St} (h : IsG YC Z R_Ledger c_Ledger_countOf 4 1 (some .int) (some (.int res)) σ Γ) : ∀ (n : Nat) (x2 : Int32) (x3 : Int32), Ledger_countOf_L4 x1 σ n x2 x3 = some res → Γ 4 [(0, .ref (ya Z 28)), (1, .int x1), (2, .int x2), (3, .int x3)] [] σ := by
  intro n
  induction n with
  | zero => intro x2 x3 hf; exact absurd hf (by simp [Ledger_countOf_L4])
  | succ n ih =>
    intro x2 x3 hf
    rw [Ledger_countOf_L4] at hf
    refine r_iload_n h d_Ledger_countOf_4 3 rfl rfl ?_
    refine r_aload_n h d_Ledger_countOf_5 0 rfl rfl ?_
    refine r_getI h fd_YC_28_6 cf_Ledger fl_Ledger_42 d_Ledger_countOf_6 ?_
    refine r_icmp_ge h d_Ledger_countOf_9 hf (fun hf => ?_) (fun hf => ?_)
    · refine r_iload_n h d_Ledger_countOf_31 2 rfl rfl ?_
      exact r_ireturn h d_Ledger_countOf_32.1 (Option.some.inj hf) rfl
    · refine r_aload_n h d_Ledger_countOf_12 0 rfl rfl ?_
      refine r_getR h fd_YC_28_0 cf_Ledger fl_Ledger_11 d_Ledger_countOf_13 ?_
      refine r_iload_n h d_Ledger_countOf_16 3 rfl rfl ?_
      refine r_iald h sh_YC_29 d_Ledger_countOf_17 hf (fun hf => ?_)
      refine r_iload_n h d_Ledger_countOf_18 1 rfl rfl ?_
      refine r_icmp_ne h d_Ledger_countOf_19 hf (fun hf => ?_) (fun hf => ?_)
      · refine r_iinc (ls' := [(3, .int (x3 + (1 : Int32))), (0, .ref (ya Z 28)), (1, .int x1), (2, .int x2)]) h d_Ledger_countOf_25 3 rfl ki_1 (by decide) rfl ?_
        refine r_goto h d_Ledger_countOf_28 ?_
        refine r_sub h [1, 2, 3, 0] rfl ?_
        exact ih _ _ hf
      · refine r_iinc (ls' := [(2, .int (x2 + (1 : Int32))), (0, .ref (ya Z 28)), (1, .int x1), (3, .int x3)]) h d_Ledger_countOf_22 2 rfl ki_1 (by decide) rfl ?_
        refine r_iinc (ls' := [(3, .int (x3 + (1 : Int32))), (2, .int (x2 + (1 : Int32))), (0, .ref (ya Z 28)), (1, .int x1)]) h d_Ledger_countOf_25 3 rfl ki_1 (by decide) rfl ?_
        refine r_goto h d_Ledger_countOf_28 ?_
        refine r_sub h [2, 3, 1, 0] rfl ?_
        exact ih _ _ hf

set_option maxHeartbeats 4000000 in
theorem m_Ledger_countOf {Z : Sy} {σ : St} {res : Int32} {x1 : Int32} (hf : Ledger_countOf x1 σ = some res) : Ct YC Z y_Ledger_countOf c_Ledger_countOf 4 (some .int) 1 [.ref (ya Z 28), .int x1] σ (some (.int res)) σ := by
  refine Ct.of pn_Ledger (Nat.le_of_ble_eq_true rfl) rfl (fun Γ h => ?_)
  have h : IsG YC Z R_Ledger c_Ledger_countOf 4 1 (some .int) (some (.int res)) σ Γ := h
  unfold Ledger_countOf at hf
  refine r_iconst h d_Ledger_countOf_0 ki_0 ?_
  refine r_istore_n (ls' := [(2, .int (0 : Int32)), (0, .ref (ya Z 28)), (1, .int x1)]) h d_Ledger_countOf_1 rfl (by decide) rfl ?_
  refine r_iconst h d_Ledger_countOf_2 ki_0 ?_
  refine r_istore_n (ls' := [(3, .int (0 : Int32)), (2, .int (0 : Int32)), (0, .ref (ya Z 28)), (1, .int x1)]) h d_Ledger_countOf_3 rfl (by decide) rfl ?_
  refine r_sub h [2, 3, 1, 0] rfl ?_
  exact w_Ledger_countOf_L4 h _ _ _ hf

theorem d_Sheets_valueAt_0 : decode c_Sheets_valueAt 0 = .ok (.aload_n 0, 1) ∧ 0 + 1 = 1 := by decide +kernel
theorem d_Sheets_valueAt_1 : decode c_Sheets_valueAt 1 = .ok (.getfield 11, 3) ∧ 1 + 3 = 4 := by decide +kernel
theorem d_Sheets_valueAt_4 : decode c_Sheets_valueAt 4 = .ok (.iload_n 1, 1) ∧ 4 + 1 = 5 := by decide +kernel
theorem d_Sheets_valueAt_5 : decode c_Sheets_valueAt 5 = .ok (.bipush 60, 2) ∧ 5 + 2 = 7 := by decide +kernel
theorem d_Sheets_valueAt_7 : decode c_Sheets_valueAt 7 = .ok (.imul, 1) ∧ 7 + 1 = 8 := by decide +kernel
theorem d_Sheets_valueAt_8 : decode c_Sheets_valueAt 8 = .ok (.iload_n 2, 1) ∧ 8 + 1 = 9 := by decide +kernel
theorem d_Sheets_valueAt_9 : decode c_Sheets_valueAt 9 = .ok (.iadd, 1) ∧ 9 + 1 = 10 := by decide +kernel
theorem d_Sheets_valueAt_10 : decode c_Sheets_valueAt 10 = .ok (.iaload, 1) ∧ 10 + 1 = 11 := by decide +kernel
theorem d_Sheets_valueAt_11 : decode c_Sheets_valueAt 11 = .ok (.ireturn, 1) ∧ 11 + 1 = 12 := by decide +kernel
set_option maxHeartbeats 4000000 in
theorem m_Sheets_valueAt {Z : Sy} {σ : St} {res : Int32} {x1 : Int32} {x2 : Int32} (hf : Sheets_valueAt x1 x2 σ = some res) : Ct YC Z y_Sheets_valueAt c_Sheets_valueAt 3 (some .int) 1 [.ref (ya Z 74), .int x1, .int x2] σ (some (.int res)) σ := by
  refine Ct.of pn_Sheets (Nat.le_of_ble_eq_true rfl) rfl (fun Γ h => ?_)
  have h : IsG YC Z R_Sheets c_Sheets_valueAt 3 1 (some .int) (some (.int res)) σ Γ := h
  unfold Sheets_valueAt at hf
  refine r_aload_n h d_Sheets_valueAt_0 0 rfl rfl ?_
  refine r_getR h fd_YC_74_0 cf_Sheets fl_Sheets_11 d_Sheets_valueAt_1 ?_
  refine r_iload_n h d_Sheets_valueAt_4 1 rfl rfl ?_
  refine r_bipush h d_Sheets_valueAt_5 kb_60 ?_
  refine r_imul h d_Sheets_valueAt_7 ?_
  refine r_iload_n h d_Sheets_valueAt_8 2 rfl rfl ?_
  refine r_iadd h d_Sheets_valueAt_9 ?_
  refine r_iald h sh_YC_75 d_Sheets_valueAt_10 hf (fun hf => ?_)
  exact r_ireturn h d_Sheets_valueAt_11.1 (Option.some.inj hf) rfl

theorem d_P_enterRows_0 : decode c_P_enterRows 0 = .ok (.aload_n 0, 1) ∧ 0 + 1 = 1 := by decide +kernel
theorem d_P_enterRows_1 : decode c_P_enterRows 1 = .ok (.getfield 50, 3) ∧ 1 + 3 = 4 := by decide +kernel
theorem d_P_enterRows_4 : decode c_P_enterRows 4 = .ok (.iconst 0, 1) ∧ 4 + 1 = 5 := by decide +kernel
theorem d_P_enterRows_5 : decode c_P_enterRows 5 = .ok (.putfield 126, 3) ∧ 5 + 3 = 8 := by decide +kernel
theorem d_P_enterRows_8 : decode c_P_enterRows 8 = .ok (.aload_n 0, 1) ∧ 8 + 1 = 9 := by decide +kernel
theorem d_P_enterRows_9 : decode c_P_enterRows 9 = .ok (.getfield 43, 3) ∧ 9 + 3 = 12 := by decide +kernel
theorem d_P_enterRows_12 : decode c_P_enterRows 12 = .ok (.getfield 169, 3) ∧ 12 + 3 = 15 := by decide +kernel
theorem d_P_enterRows_15 : decode c_P_enterRows 15 = .ok (.istore 5, 2) ∧ 15 + 2 = 17 := by decide +kernel
theorem d_P_enterRows_17 : decode c_P_enterRows 17 = .ok (.iconst 0, 1) ∧ 17 + 1 = 18 := by decide +kernel
theorem d_P_enterRows_18 : decode c_P_enterRows 18 = .ok (.istore 6, 2) ∧ 18 + 2 = 20 := by decide +kernel
theorem d_P_enterRows_20 : decode c_P_enterRows 20 = .ok (.iload 6, 2) ∧ 20 + 2 = 22 := by decide +kernel
theorem d_P_enterRows_22 : decode c_P_enterRows 22 = .ok (.iload 4, 2) ∧ 22 + 2 = 24 := by decide +kernel
theorem d_P_enterRows_24 : decode c_P_enterRows 24 = .ok (.if_icmp .ge 91, 3) ∧ 24 + 3 = 27 ∧ ((24 : Nat) : Int) + 91 = ((115 : Nat) : Int) := by decide +kernel
theorem d_P_enterRows_27 : decode c_P_enterRows 27 = .ok (.iload_n 3, 1) ∧ 27 + 1 = 28 := by decide +kernel
theorem d_P_enterRows_28 : decode c_P_enterRows 28 = .ok (.iconst 4, 1) ∧ 28 + 1 = 29 := by decide +kernel
theorem d_P_enterRows_29 : decode c_P_enterRows 29 = .ok (.iload 6, 2) ∧ 29 + 2 = 31 := by decide +kernel
theorem d_P_enterRows_31 : decode c_P_enterRows 31 = .ok (.imul, 1) ∧ 31 + 1 = 32 := by decide +kernel
theorem d_P_enterRows_32 : decode c_P_enterRows 32 = .ok (.iadd, 1) ∧ 32 + 1 = 33 := by decide +kernel
theorem d_P_enterRows_33 : decode c_P_enterRows 33 = .ok (.istore 7, 2) ∧ 33 + 2 = 35 := by decide +kernel
theorem d_P_enterRows_35 : decode c_P_enterRows 35 = .ok (.aload_n 0, 1) ∧ 35 + 1 = 36 := by decide +kernel
theorem d_P_enterRows_36 : decode c_P_enterRows 36 = .ok (.getfield 43, 3) ∧ 36 + 3 = 39 := by decide +kernel
theorem d_P_enterRows_39 : decode c_P_enterRows 39 = .ok (.iload_n 1, 1) ∧ 39 + 1 = 40 := by decide +kernel
theorem d_P_enterRows_40 : decode c_P_enterRows 40 = .ok (.aload_n 0, 1) ∧ 40 + 1 = 41 := by decide +kernel
theorem d_P_enterRows_41 : decode c_P_enterRows 41 = .ok (.getfield 92, 3) ∧ 41 + 3 = 44 := by decide +kernel
theorem d_P_enterRows_44 : decode c_P_enterRows 44 = .ok (.iload_n 2, 1) ∧ 44 + 1 = 45 := by decide +kernel
theorem d_P_enterRows_45 : decode c_P_enterRows 45 = .ok (.iload 7, 2) ∧ 45 + 2 = 47 := by decide +kernel
theorem d_P_enterRows_47 : decode c_P_enterRows 47 = .ok (.invokevirtual 172, 3) ∧ 47 + 3 = 50 := by decide +kernel
theorem d_P_enterRows_50 : decode c_P_enterRows 50 = .ok (.aload_n 0, 1) ∧ 50 + 1 = 51 := by decide +kernel
theorem d_P_enterRows_51 : decode c_P_enterRows 51 = .ok (.getfield 92, 3) ∧ 51 + 3 = 54 := by decide +kernel
theorem d_P_enterRows_54 : decode c_P_enterRows 54 = .ok (.iload_n 2, 1) ∧ 54 + 1 = 55 := by decide +kernel
theorem d_P_enterRows_55 : decode c_P_enterRows 55 = .ok (.iload 7, 2) ∧ 55 + 2 = 57 := by decide +kernel
theorem d_P_enterRows_57 : decode c_P_enterRows 57 = .ok (.iconst 1, 1) ∧ 57 + 1 = 58 := by decide +kernel
theorem d_P_enterRows_58 : decode c_P_enterRows 58 = .ok (.iadd, 1) ∧ 58 + 1 = 59 := by decide +kernel
theorem d_P_enterRows_59 : decode c_P_enterRows 59 = .ok (.invokevirtual 172, 3) ∧ 59 + 3 = 62 := by decide +kernel
theorem d_P_enterRows_62 : decode c_P_enterRows 62 = .ok (.aload_n 0, 1) ∧ 62 + 1 = 63 := by decide +kernel
theorem d_P_enterRows_63 : decode c_P_enterRows 63 = .ok (.getfield 92, 3) ∧ 63 + 3 = 66 := by decide +kernel
theorem d_P_enterRows_66 : decode c_P_enterRows 66 = .ok (.iload_n 2, 1) ∧ 66 + 1 = 67 := by decide +kernel
theorem d_P_enterRows_67 : decode c_P_enterRows 67 = .ok (.iload 7, 2) ∧ 67 + 2 = 69 := by decide +kernel
theorem d_P_enterRows_69 : decode c_P_enterRows 69 = .ok (.iconst 2, 1) ∧ 69 + 1 = 70 := by decide +kernel
theorem d_P_enterRows_70 : decode c_P_enterRows 70 = .ok (.iadd, 1) ∧ 70 + 1 = 71 := by decide +kernel
theorem d_P_enterRows_71 : decode c_P_enterRows 71 = .ok (.invokevirtual 172, 3) ∧ 71 + 3 = 74 := by decide +kernel
theorem d_P_enterRows_74 : decode c_P_enterRows 74 = .ok (.iconst 1, 1) ∧ 74 + 1 = 75 := by decide +kernel
theorem d_P_enterRows_75 : decode c_P_enterRows 75 = .ok (.aload_n 0, 1) ∧ 75 + 1 = 76 := by decide +kernel
theorem d_P_enterRows_76 : decode c_P_enterRows 76 = .ok (.getfield 92, 3) ∧ 76 + 3 = 79 := by decide +kernel
theorem d_P_enterRows_79 : decode c_P_enterRows 79 = .ok (.iload_n 2, 1) ∧ 79 + 1 = 80 := by decide +kernel
theorem d_P_enterRows_80 : decode c_P_enterRows 80 = .ok (.iload 7, 2) ∧ 80 + 2 = 82 := by decide +kernel
theorem d_P_enterRows_82 : decode c_P_enterRows 82 = .ok (.iconst 3, 1) ∧ 82 + 1 = 83 := by decide +kernel
theorem d_P_enterRows_83 : decode c_P_enterRows 83 = .ok (.iadd, 1) ∧ 83 + 1 = 84 := by decide +kernel
theorem d_P_enterRows_84 : decode c_P_enterRows 84 = .ok (.invokevirtual 172, 3) ∧ 84 + 3 = 87 := by decide +kernel
theorem d_P_enterRows_87 : decode c_P_enterRows 87 = .ok (.invokevirtual 149, 3) ∧ 87 + 3 = 90 := by decide +kernel
theorem d_P_enterRows_90 : decode c_P_enterRows 90 = .ok (.istore 8, 2) ∧ 90 + 2 = 92 := by decide +kernel
theorem d_P_enterRows_92 : decode c_P_enterRows 92 = .ok (.iload 8, 2) ∧ 92 + 2 = 94 := by decide +kernel
theorem d_P_enterRows_94 : decode c_P_enterRows 94 = .ok (.ifCond .ge 15, 3) ∧ 94 + 3 = 97 ∧ ((94 : Nat) : Int) + 15 = ((109 : Nat) : Int) := by decide +kernel
theorem d_P_enterRows_97 : decode c_P_enterRows 97 = .ok (.aload_n 0, 1) ∧ 97 + 1 = 98 := by decide +kernel
theorem d_P_enterRows_98 : decode c_P_enterRows 98 = .ok (.getfield 43, 3) ∧ 98 + 3 = 101 := by decide +kernel
theorem d_P_enterRows_101 : decode c_P_enterRows 101 = .ok (.iload 5, 2) ∧ 101 + 2 = 103 := by decide +kernel
theorem d_P_enterRows_103 : decode c_P_enterRows 103 = .ok (.putfield 169, 3) ∧ 103 + 3 = 106 := by decide +kernel
theorem d_P_enterRows_106 : decode c_P_enterRows 106 = .ok (.iload 8, 2) ∧ 106 + 2 = 108 := by decide +kernel
theorem d_P_enterRows_108 : decode c_P_enterRows 108 = .ok (.ireturn, 1) ∧ 108 + 1 = 109 := by decide +kernel
theorem d_P_enterRows_109 : decode c_P_enterRows 109 = .ok (.iinc 6 1, 3) ∧ 109 + 3 = 112 := by decide +kernel
theorem d_P_enterRows_112 : decode c_P_enterRows 112 = .ok (.goto (-92), 3) ∧ (112 : Int) + (-92) = (20 : Int) := by decide +kernel
theorem d_P_enterRows_115 : decode c_P_enterRows 115 = .ok (.aload_n 0, 1) ∧ 115 + 1 = 116 := by decide +kernel
theorem d_P_enterRows_116 : decode c_P_enterRows 116 = .ok (.getfield 43, 3) ∧ 116 + 3 = 119 := by decide +kernel
theorem d_P_enterRows_119 : decode c_P_enterRows 119 = .ok (.iload_n 1, 1) ∧ 119 + 1 = 120 := by decide +kernel
theorem d_P_enterRows_120 : decode c_P_enterRows 120 = .ok (.invokevirtual 175, 3) ∧ 120 + 3 = 123 := by decide +kernel
theorem d_P_enterRows_123 : decode c_P_enterRows 123 = .ok (.ireturn, 1) ∧ 123 + 1 = 124 := by decide +kernel
set_option maxHeartbeats 4000000 in
theorem w_P_enterRows_L20 {Z : Sy} {Γ : Nat → List (Nat × Value) → List Value → St → Prop} {res : (Int32 × St)} {x1 : Int32} {x2 : Int32} {x3 : Int32} {x4 : Int32} {x5 : Int32} (h : IsG YC Z R_P c_P_enterRows 9 4 (some .int) (some (.int res.1)) res.2 Γ) : ∀ (n : Nat) (x6 : Int32) (σ : St), P_enterRows_L20 x1 x2 x3 x4 x5 n x6 σ = some res → Γ 20 [(0, .ref (ya Z 0)), (1, .int x1), (2, .int x2), (3, .int x3), (4, .int x4), (5, .int x5), (6, .int x6)] [] σ := by
  intro n
  induction n with
  | zero => intro x6 σ hf; exact absurd hf (by simp [P_enterRows_L20])
  | succ n ih =>
    intro x6 σ hf
    rw [P_enterRows_L20] at hf
    refine r_iload h d_P_enterRows_20 6 rfl ?_
    refine r_iload h d_P_enterRows_22 4 rfl ?_
    refine r_icmp_ge h d_P_enterRows_24 hf (fun hf => ?_) (fun hf => ?_)
    · refine r_aload_n h d_P_enterRows_115 0 rfl rfl ?_
      refine r_getR h fd_YC_0_5 cf_P fl_P_43 d_P_enterRows_116 ?_
      refine r_iload_n h d_P_enterRows_119 1 rfl rfl ?_
      obtain ⟨r120, e120, hf⟩ := q_bind hf
      refine r_callV (As := [.int x1]) (rest := []) h sh_YC_28 lk_P_175 vk_P_175 d_P_enterRows_120 (by decide) rfl rfl (Nat.le_of_ble_eq_true rfl) (m_Ledger_countOf e120) ?_
      exact r_ireturn h d_P_enterRows_123.1 (q_p1 hf) (q_p2 hf)
    · refine r_iload_n h d_P_enterRows_27 3 rfl rfl ?_
      refine r_iconst h d_P_enterRows_28 ki_4 ?_
      refine r_iload h d_P_enterRows_29 6 rfl ?_
      refine r_imul h d_P_enterRows_31 ?_
      refine r_iadd h d_P_enterRows_32 ?_
      refine r_istore (ls' := [(7, .int (x3 + ((4 : Int32) * x6))), (0, .ref (ya Z 0)), (1, .int x1), (2, .int x2), (3, .int x3), (4, .int x4), (5, .int x5), (6, .int x6)]) h d_P_enterRows_33 (by decide) rfl ?_
      refine r_aload_n h d_P_enterRows_35 1 rfl rfl ?_
      refine r_getR h fd_YC_0_5 cf_P fl_P_43 d_P_enterRows_36 ?_
      refine r_iload_n h d_P_enterRows_39 2 rfl rfl ?_
      refine r_aload_n h d_P_enterRows_40 1 rfl rfl ?_
      refine r_getR h fd_YC_0_12 cf_P fl_P_92 d_P_enterRows_41 ?_
      refine r_iload_n h d_P_enterRows_44 3 rfl rfl ?_
      refine r_iload h d_P_enterRows_45 0 rfl ?_
      obtain ⟨r47, e47, hf⟩ := q_bind hf
      refine r_callV (As := [.int x2, .int (x3 + ((4 : Int32) * x6))]) (rest := [.int x1, .ref (ya Z 28)]) h sh_YC_74 lk_P_172 vk_P_172 d_P_enterRows_47 (by decide) rfl rfl (Nat.le_of_ble_eq_true rfl) (m_Sheets_valueAt e47) ?_
      refine r_aload_n h d_P_enterRows_50 1 rfl rfl ?_
      refine r_getR h fd_YC_0_12 cf_P fl_P_92 d_P_enterRows_51 ?_
      refine r_iload_n h d_P_enterRows_54 3 rfl rfl ?_
      refine r_iload h d_P_enterRows_55 0 rfl ?_
      refine r_iconst h d_P_enterRows_57 ki_1 ?_
      refine r_iadd h d_P_enterRows_58 ?_
      obtain ⟨r59, e59, hf⟩ := q_bind hf
      refine r_callV (As := [.int x2, .int ((x3 + ((4 : Int32) * x6)) + (1 : Int32))]) (rest := [.int r47, .int x1, .ref (ya Z 28)]) h sh_YC_74 lk_P_172 vk_P_172 d_P_enterRows_59 (by decide) rfl rfl (Nat.le_of_ble_eq_true rfl) (m_Sheets_valueAt e59) ?_
      refine r_aload_n h d_P_enterRows_62 1 rfl rfl ?_
      refine r_getR h fd_YC_0_12 cf_P fl_P_92 d_P_enterRows_63 ?_
      refine r_iload_n h d_P_enterRows_66 3 rfl rfl ?_
      refine r_iload h d_P_enterRows_67 0 rfl ?_
      refine r_iconst h d_P_enterRows_69 ki_2 ?_
      refine r_iadd h d_P_enterRows_70 ?_
      obtain ⟨r71, e71, hf⟩ := q_bind hf
      refine r_callV (As := [.int x2, .int ((x3 + ((4 : Int32) * x6)) + (2 : Int32))]) (rest := [.int r59, .int r47, .int x1, .ref (ya Z 28)]) h sh_YC_74 lk_P_172 vk_P_172 d_P_enterRows_71 (by decide) rfl rfl (Nat.le_of_ble_eq_true rfl) (m_Sheets_valueAt e71) ?_
      refine r_iconst h d_P_enterRows_74 ki_1 ?_
      refine r_aload_n h d_P_enterRows_75 1 rfl rfl ?_
      refine r_getR h fd_YC_0_12 cf_P fl_P_92 d_P_enterRows_76 ?_
      refine r_iload_n h d_P_enterRows_79 3 rfl rfl ?_
      refine r_iload h d_P_enterRows_80 0 rfl ?_
      refine r_iconst h d_P_enterRows_82 ki_3 ?_
      refine r_iadd h d_P_enterRows_83 ?_
      obtain ⟨r84, e84, hf⟩ := q_bind hf
      refine r_callV (As := [.int x2, .int ((x3 + ((4 : Int32) * x6)) + (3 : Int32))]) (rest := [.int (1 : Int32), .int r71, .int r59, .int r47, .int x1, .ref (ya Z 28)]) h sh_YC_74 lk_P_172 vk_P_172 d_P_enterRows_84 (by decide) rfl rfl (Nat.le_of_ble_eq_true rfl) (m_Sheets_valueAt e84) ?_
      obtain ⟨q87, e87, hf⟩ := q_bind hf
      refine r_callV (As := [.int x1, .int r47, .int r59, .int r71, .int (1 : Int32), .int r84]) (rest := []) h sh_YC_28 lk_P_149 vk_P_149 d_P_enterRows_87 (by decide) rfl rfl (Nat.le_of_ble_eq_true rfl) (m_Ledger_add e87) ?_
      refine r_istore (ls' := [(8, .int q87.1), (7, .int (x3 + ((4 : Int32) * x6))), (0, .ref (ya Z 0)), (1, .int x1), (2, .int x2), (3, .int x3), (4, .int x4), (5, .int x5), (6, .int x6)]) h d_P_enterRows_90 (by decide) rfl ?_
      refine r_iload h d_P_enterRows_92 0 rfl ?_
      refine r_if_ge h d_P_enterRows_94 hf (fun hf => ?_) (fun hf => ?_)
      · refine r_iinc (ls' := [(6, .int (x6 + (1 : Int32))), (8, .int q87.1), (7, .int (x3 + ((4 : Int32) * x6))), (0, .ref (ya Z 0)), (1, .int x1), (2, .int x2), (3, .int x3), (4, .int x4), (5, .int x5)]) h d_P_enterRows_109 8 rfl ki_1 (by decide) rfl ?_
        refine r_goto h d_P_enterRows_112 ?_
        refine r_sub h [3, 4, 5, 6, 7, 8, 0] rfl ?_
        exact ih _ _ hf
      · refine r_aload_n h d_P_enterRows_97 2 rfl rfl ?_
        refine r_getR h fd_YC_0_5 cf_P fl_P_43 d_P_enterRows_98 ?_
        refine r_iload h d_P_enterRows_101 7 rfl ?_
        refine r_putI h fd_YC_28_6 cf_Ledger fl_P_169 ⟨rfl, rfl⟩ d_P_enterRows_103 ?_
        refine r_iload h d_P_enterRows_106 0 rfl ?_
        exact r_ireturn h d_P_enterRows_108.1 (q_p1 hf) (q_p2 hf)

set_option maxHeartbeats 4000000 in
theorem m_P_enterRows {Z : Sy} {σ : St} {res : (Int32 × St)} {x1 : Int32} {x2 : Int32} {x3 : Int32} {x4 : Int32} (hf : P_enterRows x1 x2 x3 x4 σ = some res) : Ct YC Z y_P_enterRows c_P_enterRows 9 (some .int) 4 [.ref (ya Z 0), .int x1, .int x2, .int x3, .int x4] σ (some (.int res.1)) res.2 := by
  refine Ct.of pn_P (Nat.le_of_ble_eq_true rfl) rfl (fun Γ h => ?_)
  have h : IsG YC Z R_P c_P_enterRows 9 4 (some .int) (some (.int res.1)) res.2 Γ := h
  unfold P_enterRows at hf
  refine r_aload_n h d_P_enterRows_0 0 rfl rfl ?_
  refine r_getR h fd_YC_0_6 cf_P fl_P_50 d_P_enterRows_1 ?_
  refine r_iconst h d_P_enterRows_4 ki_0 ?_
  refine r_putX h fd_YC_35_4 cf_News fl_P_126 ⟨rfl, rfl⟩ (ty := .boolean) (by decide) (by decide) d_P_enterRows_5 ?_
  refine r_aload_n h d_P_enterRows_8 0 rfl rfl ?_
  refine r_getR h fd_YC_0_5 cf_P fl_P_43 d_P_enterRows_9 ?_
  refine r_getIv (v := (σ.1 28 6)) h fd_YC_28_6 cf_Ledger fl_P_169 d_P_enterRows_12 rfl ?_
  refine r_istore (ls' := [(5, .int (σ.1 28 6)), (0, .ref (ya Z 0)), (1, .int x1), (2, .int x2), (3, .int x3), (4, .int x4)]) h d_P_enterRows_15 (by decide) rfl ?_
  refine r_iconst h d_P_enterRows_17 ki_0 ?_
  refine r_istore (ls' := [(6, .int (0 : Int32)), (5, .int (σ.1 28 6)), (0, .ref (ya Z 0)), (1, .int x1), (2, .int x2), (3, .int x3), (4, .int x4)]) h d_P_enterRows_18 (by decide) rfl ?_
  refine r_sub h [2, 3, 4, 5, 6, 1, 0] rfl ?_
  exact w_P_enterRows_L20 h _ _ _ hf

theorem d_P_faulted_0 : decode c_P_faulted 0 = .ok (.aload_n 0, 1) ∧ 0 + 1 = 1 := by decide +kernel
theorem d_P_faulted_1 : decode c_P_faulted 1 = .ok (.iload_n 1, 1) ∧ 1 + 1 = 2 := by decide +kernel
theorem d_P_faulted_2 : decode c_P_faulted 2 = .ok (.putfield 152, 3) ∧ 2 + 3 = 5 := by decide +kernel
theorem d_P_faulted_5 : decode c_P_faulted 5 = .ok (.bipush (-10), 2) ∧ 5 + 2 = 7 := by decide +kernel
theorem d_P_faulted_7 : decode c_P_faulted 7 = .ok (.iload_n 1, 1) ∧ 7 + 1 = 8 := by decide +kernel
theorem d_P_faulted_8 : decode c_P_faulted 8 = .ok (.isub, 1) ∧ 8 + 1 = 9 := by decide +kernel
theorem d_P_faulted_9 : decode c_P_faulted 9 = .ok (.ireturn, 1) ∧ 9 + 1 = 10 := by decide +kernel
set_option maxHeartbeats 4000000 in
theorem m_P_faulted {Z : Sy} {σ : St} {res : (Int32 × St)} {x1 : Int32} (hf : P_faulted x1 σ = some res) : Ct YC Z y_P_faulted c_P_faulted 2 (some .int) 1 [.ref (ya Z 0), .int x1] σ (some (.int res.1)) res.2 := by
  refine Ct.of pn_P (Nat.le_of_ble_eq_true rfl) rfl (fun Γ h => ?_)
  have h : IsG YC Z R_P c_P_faulted 2 1 (some .int) (some (.int res.1)) res.2 Γ := h
  unfold P_faulted at hf
  refine r_aload_n h d_P_faulted_0 0 rfl rfl ?_
  refine r_iload_n h d_P_faulted_1 1 rfl rfl ?_
  refine r_putI h fd_YC_0_13 cf_P fl_P_152 ⟨rfl, rfl⟩ d_P_faulted_2 ?_
  refine r_bipush h d_P_faulted_5 kb_m10 ?_
  refine r_iload_n h d_P_faulted_7 1 rfl rfl ?_
  refine r_isub h d_P_faulted_8 ?_
  exact r_ireturn h d_P_faulted_9.1 (q_p1 hf) (q_p2 hf)

theorem d_P_entries_0 : decode c_P_entries 0 = .ok (.aload_n 0, 1) ∧ 0 + 1 = 1 := by decide +kernel
theorem d_P_entries_1 : decode c_P_entries 1 = .ok (.iconst 0, 1) ∧ 1 + 1 = 2 := by decide +kernel
theorem d_P_entries_2 : decode c_P_entries 2 = .ok (.putfield 152, 3) ∧ 2 + 3 = 5 := by decide +kernel
theorem d_P_entries_5 : decode c_P_entries 5 = .ok (.aload_n 0, 1) ∧ 5 + 1 = 6 := by decide +kernel
theorem d_P_entries_6 : decode c_P_entries 6 = .ok (.getfield 36, 3) ∧ 6 + 3 = 9 := by decide +kernel
theorem d_P_entries_9 : decode c_P_entries 9 = .ok (.iload_n 1, 1) ∧ 9 + 1 = 10 := by decide +kernel
theorem d_P_entries_10 : decode c_P_entries 10 = .ok (.invokevirtual 146, 3) ∧ 10 + 3 = 13 := by decide +kernel
theorem d_P_entries_13 : decode c_P_entries 13 = .ok (.ifCond .eq 14, 3) ∧ 13 + 3 = 16 ∧ ((13 : Nat) : Int) + 14 = ((27 : Nat) : Int) := by decide +kernel
theorem d_P_entries_16 : decode c_P_entries 16 = .ok (.aload_n 0, 1) ∧ 16 + 1 = 17 := by decide +kernel
theorem d_P_entries_17 : decode c_P_entries 17 = .ok (.getfield 92, 3) ∧ 17 + 3 = 20 := by decide +kernel
theorem d_P_entries_20 : decode c_P_entries 20 = .ok (.iload_n 2, 1) ∧ 20 + 1 = 21 := by decide +kernel
theorem d_P_entries_21 : decode c_P_entries 21 = .ok (.invokevirtual 156, 3) ∧ 21 + 3 = 24 := by decide +kernel
theorem d_P_entries_24 : decode c_P_entries 24 = .ok (.ifCond .ne 5, 3) ∧ 24 + 3 = 27 ∧ ((24 : Nat) : Int) + 5 = ((29 : Nat) : Int) := by decide +kernel
theorem d_P_entries_27 : decode c_P_entries 27 = .ok (.iconst (-1), 1) ∧ 27 + 1 = 28 := by decide +kernel
theorem d_P_entries_28 : decode c_P_entries 28 = .ok (.ireturn, 1) ∧ 28 + 1 = 29 := by decide +kernel
theorem d_P_entries_29 : decode c_P_entries 29 = .ok (.iload_n 3, 1) ∧ 29 + 1 = 30 := by decide +kernel
theorem d_P_entries_30 : decode c_P_entries 30 = .ok (.iconst 3, 1) ∧ 30 + 1 = 31 := by decide +kernel
theorem d_P_entries_31 : decode c_P_entries 31 = .ok (.invokestatic 96, 3) ∧ 31 + 3 = 34 := by decide +kernel
theorem d_P_entries_34 : decode c_P_entries 34 = .ok (.ifCond .ne 6, 3) ∧ 34 + 3 = 37 ∧ ((34 : Nat) : Int) + 6 = ((40 : Nat) : Int) := by decide +kernel
theorem d_P_entries_37 : decode c_P_entries 37 = .ok (.bipush (-2), 2) ∧ 37 + 2 = 39 := by decide +kernel
theorem d_P_entries_39 : decode c_P_entries 39 = .ok (.ireturn, 1) ∧ 39 + 1 = 40 := by decide +kernel
theorem d_P_entries_40 : decode c_P_entries 40 = .ok (.aload_n 0, 1) ∧ 40 + 1 = 41 := by decide +kernel
theorem d_P_entries_41 : decode c_P_entries 41 = .ok (.getfield 92, 3) ∧ 41 + 3 = 44 := by decide +kernel
theorem d_P_entries_44 : decode c_P_entries 44 = .ok (.iload_n 2, 1) ∧ 44 + 1 = 45 := by decide +kernel
theorem d_P_entries_45 : decode c_P_entries 45 = .ok (.iload_n 3, 1) ∧ 45 + 1 = 46 := by decide +kernel
theorem d_P_entries_46 : decode c_P_entries 46 = .ok (.iload 4, 2) ∧ 46 + 2 = 48 := by decide +kernel
theorem d_P_entries_48 : decode c_P_entries 48 = .ok (.ldc2_w 157, 3) ∧ 48 + 3 = 51 := by decide +kernel
theorem d_P_entries_51 : decode c_P_entries 51 = .ok (.iload 5, 2) ∧ 51 + 2 = 53 := by decide +kernel
theorem d_P_entries_53 : decode c_P_entries 53 = .ok (.i2l, 1) ∧ 53 + 1 = 54 := by decide +kernel
theorem d_P_entries_54 : decode c_P_entries 54 = .ok (.lmul, 1) ∧ 54 + 1 = 55 := by decide +kernel
theorem d_P_entries_55 : decode c_P_entries 55 = .ok (.invokevirtual 159, 3) ∧ 55 + 3 = 58 := by decide +kernel
theorem d_P_entries_58 : decode c_P_entries 58 = .ok (.istore 6, 2) ∧ 58 + 2 = 60 := by decide +kernel
theorem d_P_entries_60 : decode c_P_entries 60 = .ok (.iload 6, 2) ∧ 60 + 2 = 62 := by decide +kernel
theorem d_P_entries_62 : decode c_P_entries 62 = .ok (.ifCond .eq 10, 3) ∧ 62 + 3 = 65 ∧ ((62 : Nat) : Int) + 10 = ((72 : Nat) : Int) := by decide +kernel
theorem d_P_entries_65 : decode c_P_entries 65 = .ok (.aload_n 0, 1) ∧ 65 + 1 = 66 := by decide +kernel
theorem d_P_entries_66 : decode c_P_entries 66 = .ok (.iload 6, 2) ∧ 66 + 2 = 68 := by decide +kernel
theorem d_P_entries_68 : decode c_P_entries 68 = .ok (.invokevirtual 163, 3) ∧ 68 + 3 = 71 := by decide +kernel
theorem d_P_entries_71 : decode c_P_entries 71 = .ok (.ireturn, 1) ∧ 71 + 1 = 72 := by decide +kernel
theorem d_P_entries_72 : decode c_P_entries 72 = .ok (.aload_n 0, 1) ∧ 72 + 1 = 73 := by decide +kernel
theorem d_P_entries_73 : decode c_P_entries 73 = .ok (.iload_n 1, 1) ∧ 73 + 1 = 74 := by decide +kernel
theorem d_P_entries_74 : decode c_P_entries 74 = .ok (.iload_n 2, 1) ∧ 74 + 1 = 75 := by decide +kernel
theorem d_P_entries_75 : decode c_P_entries 75 = .ok (.iload 4, 2) ∧ 75 + 2 = 77 := by decide +kernel
theorem d_P_entries_77 : decode c_P_entries 77 = .ok (.iload 5, 2) ∧ 77 + 2 = 79 := by decide +kernel
theorem d_P_entries_79 : decode c_P_entries 79 = .ok (.invokevirtual 166, 3) ∧ 79 + 3 = 82 := by decide +kernel
theorem d_P_entries_82 : decode c_P_entries 82 = .ok (.ireturn, 1) ∧ 82 + 1 = 83 := by decide +kernel
set_option maxHeartbeats 4000000 in
theorem m_P_entries {Z : Sy} {σ : St} {res : (Int32 × St)} {x1 : Int32} {x2 : Int32} {x3 : Int32} {x4 : Int32} {x5 : Int32} (hf : P_entries x1 x2 x3 x4 x5 σ = some res) : Ct YC Z y_P_entries c_P_entries 7 (some .int) 5 [.ref (ya Z 0), .int x1, .int x2, .int x3, .int x4, .int x5] σ (some (.int res.1)) res.2 := by
  refine Ct.of pn_P (Nat.le_of_ble_eq_true rfl) rfl (fun Γ h => ?_)
  have h : IsG YC Z R_P c_P_entries 7 5 (some .int) (some (.int res.1)) res.2 Γ := h
  unfold P_entries at hf
  refine r_aload_n h d_P_entries_0 0 rfl rfl ?_
  refine r_iconst h d_P_entries_1 ki_0 ?_
  refine r_putI h fd_YC_0_13 cf_P fl_P_152 ⟨rfl, rfl⟩ d_P_entries_2 ?_
  refine r_aload_n h d_P_entries_5 0 rfl rfl ?_
  refine r_getR h fd_YC_0_4 cf_P fl_P_36 d_P_entries_6 ?_
  refine r_iload_n h d_P_entries_9 1 rfl rfl ?_
  obtain ⟨r10, e10, hf⟩ := q_bind hf
  refine r_callV (As := [.int x1]) (rest := []) h sh_YC_21 lk_P_146 vk_P_146 d_P_entries_10 (by decide) rfl rfl (Nat.le_of_ble_eq_true rfl) (m_Packs_has e10) ?_
  refine r_bif_eq h d_P_entries_13 hf (fun hf => ?_) (fun hf => ?_)
  · refine r_iconst h d_P_entries_27 ki_m1 ?_
    exact r_ireturn h d_P_entries_28.1 (q_p1 hf) (q_p2 hf)
  · refine r_aload_n h d_P_entries_16 0 rfl rfl ?_
    refine r_getR h fd_YC_0_12 cf_P fl_P_92 d_P_entries_17 ?_
    refine r_iload_n h d_P_entries_20 2 rfl rfl ?_
    obtain ⟨r21, e21, hf⟩ := q_bind hf
    refine r_callV (As := [.int x2]) (rest := []) h sh_YC_74 lk_P_156 vk_P_156 d_P_entries_21 (by decide) rfl rfl (Nat.le_of_ble_eq_true rfl) (m_Sheets_has e21) ?_
    refine r_bif_ne h d_P_entries_24 hf (fun hf => ?_) (fun hf => ?_)
    · refine r_iload_n h d_P_entries_29 3 rfl rfl ?_
      refine r_iconst h d_P_entries_30 ki_3 ?_
      obtain ⟨r31, e31, hf⟩ := q_bind hf
      refine r_callS (As := [.int x3, .int (3 : Int32)]) (rest := []) h lk_P_96 sk_P_96 d_P_entries_31 (by decide) rfl rfl (Nat.le_of_ble_eq_true rfl) (m_P_isBelow e31) ?_
      refine r_bif_ne h d_P_entries_34 hf (fun hf => ?_) (fun hf => ?_)
      · refine r_aload_n h d_P_entries_40 0 rfl rfl ?_
        refine r_getR h fd_YC_0_12 cf_P fl_P_92 d_P_entries_41 ?_
        refine r_iload_n h d_P_entries_44 2 rfl rfl ?_
        refine r_iload_n h d_P_entries_45 3 rfl rfl ?_
        refine r_iload h d_P_entries_46 4 rfl ?_
        refine r_ldc2 h d_P_entries_48 tm_619 ?_
        refine r_iload h d_P_entries_51 5 rfl ?_
        refine r_i2l h d_P_entries_53 ?_
        refine r_lmul h d_P_entries_54 ?_
        obtain ⟨r55, e55, hf⟩ := q_bind hf
        refine r_callV (As := [.int x2, .int x3, .int x4, .long ((4 : Int64) * (Int32.toInt64 x5))]) (rest := []) h sh_YC_74 lk_P_159 vk_P_159 d_P_entries_55 (by decide) rfl rfl (Nat.le_of_ble_eq_true rfl) (m_Sheets_takingFault e55) ?_
        refine r_istore (ls' := [(6, .int r55), (0, .ref (ya Z 0)), (1, .int x1), (2, .int x2), (3, .int x3), (4, .int x4), (5, .int x5)]) h d_P_entries_58 (by decide) rfl ?_
        refine r_iload h d_P_entries_60 0 rfl ?_
        refine r_if_eq h d_P_entries_62 hf (fun hf => ?_) (fun hf => ?_)
        · refine r_aload_n h d_P_entries_72 1 rfl rfl ?_
          refine r_iload_n h d_P_entries_73 2 rfl rfl ?_
          refine r_iload_n h d_P_entries_74 3 rfl rfl ?_
          refine r_iload h d_P_entries_75 5 rfl ?_
          refine r_iload h d_P_entries_77 6 rfl ?_
          obtain ⟨q79, e79, hf⟩ := q_bind hf
          refine r_callV (As := [.int x1, .int x2, .int x4, .int x5]) (rest := []) h sh_YC_0 lk_P_166 vk_P_166 d_P_entries_79 (by decide) rfl rfl (Nat.le_of_ble_eq_true rfl) (m_P_enterRows e79) ?_
          exact r_ireturn h d_P_entries_82.1 (q_p1 hf) (q_p2 hf)
        · refine r_aload_n h d_P_entries_65 1 rfl rfl ?_
          refine r_iload h d_P_entries_66 0 rfl ?_
          obtain ⟨q68, e68, hf⟩ := q_bind hf
          refine r_callV (As := [.int r55]) (rest := []) h sh_YC_0 lk_P_163 vk_P_163 d_P_entries_68 (by decide) rfl rfl (Nat.le_of_ble_eq_true rfl) (m_P_faulted e68) ?_
          exact r_ireturn h d_P_entries_71.1 (q_p1 hf) (q_p2 hf)
      · refine r_bipush h d_P_entries_37 kb_m2 ?_
        exact r_ireturn h d_P_entries_39.1 (q_p1 hf) (q_p2 hf)
    · refine r_iconst h d_P_entries_27 ki_m1 ?_
      exact r_ireturn h d_P_entries_28.1 (q_p1 hf) (q_p2 hf)

theorem d_P_told_0 : decode c_P_told 0 = .ok (.iload_n 1, 1) ∧ 0 + 1 = 1 := by decide +kernel
theorem d_P_told_1 : decode c_P_told 1 = .ok (.aload_n 0, 1) ∧ 1 + 1 = 2 := by decide +kernel
theorem d_P_told_2 : decode c_P_told 2 = .ok (.getfield 43, 3) ∧ 2 + 3 = 5 := by decide +kernel
theorem d_P_told_5 : decode c_P_told 5 = .ok (.getfield 169, 3) ∧ 5 + 3 = 8 := by decide +kernel
theorem d_P_told_8 : decode c_P_told 8 = .ok (.invokestatic 96, 3) ∧ 8 + 3 = 11 := by decide +kernel
theorem d_P_told_11 : decode c_P_told 11 = .ok (.ifCond .ne 5, 3) ∧ 11 + 3 = 14 ∧ ((11 : Nat) : Int) + 5 = ((16 : Nat) : Int) := by decide +kernel
theorem d_P_told_14 : decode c_P_told 14 = .ok (.iconst (-1), 1) ∧ 14 + 1 = 15 := by decide +kernel
theorem d_P_told_15 : decode c_P_told 15 = .ok (.ireturn, 1) ∧ 15 + 1 = 16 := by decide +kernel
theorem d_P_told_16 : decode c_P_told 16 = .ok (.iload_n 2, 1) ∧ 16 + 1 = 17 := by decide +kernel
theorem d_P_told_17 : decode c_P_told 17 = .ok (.tableswitch 99 0 5 #[39, 49, 59, 69, 79, 89], 39) ∧ 17 + 39 = 56 := by decide +kernel
theorem d_P_told_56 : decode c_P_told 56 = .ok (.aload_n 0, 1) ∧ 56 + 1 = 57 := by decide +kernel
theorem d_P_told_57 : decode c_P_told 57 = .ok (.getfield 43, 3) ∧ 57 + 3 = 60 := by decide +kernel
theorem d_P_told_60 : decode c_P_told 60 = .ok (.getfield 178, 3) ∧ 60 + 3 = 63 := by decide +kernel
theorem d_P_told_63 : decode c_P_told 63 = .ok (.iload_n 1, 1) ∧ 63 + 1 = 64 := by decide +kernel
theorem d_P_told_64 : decode c_P_told 64 = .ok (.iaload, 1) ∧ 64 + 1 = 65 := by decide +kernel
theorem d_P_told_65 : decode c_P_told 65 = .ok (.ireturn, 1) ∧ 65 + 1 = 66 := by decide +kernel
theorem d_P_told_66 : decode c_P_told 66 = .ok (.aload_n 0, 1) ∧ 66 + 1 = 67 := by decide +kernel
theorem d_P_told_67 : decode c_P_told 67 = .ok (.getfield 43, 3) ∧ 67 + 3 = 70 := by decide +kernel
theorem d_P_told_70 : decode c_P_told 70 = .ok (.getfield 181, 3) ∧ 70 + 3 = 73 := by decide +kernel
theorem d_P_told_73 : decode c_P_told 73 = .ok (.iload_n 1, 1) ∧ 73 + 1 = 74 := by decide +kernel
theorem d_P_told_74 : decode c_P_told 74 = .ok (.iaload, 1) ∧ 74 + 1 = 75 := by decide +kernel
theorem d_P_told_75 : decode c_P_told 75 = .ok (.ireturn, 1) ∧ 75 + 1 = 76 := by decide +kernel
theorem d_P_told_76 : decode c_P_told 76 = .ok (.aload_n 0, 1) ∧ 76 + 1 = 77 := by decide +kernel
theorem d_P_told_77 : decode c_P_told 77 = .ok (.getfield 43, 3) ∧ 77 + 3 = 80 := by decide +kernel
theorem d_P_told_80 : decode c_P_told 80 = .ok (.getfield 184, 3) ∧ 80 + 3 = 83 := by decide +kernel
theorem d_P_told_83 : decode c_P_told 83 = .ok (.iload_n 1, 1) ∧ 83 + 1 = 84 := by decide +kernel
theorem d_P_told_84 : decode c_P_told 84 = .ok (.iaload, 1) ∧ 84 + 1 = 85 := by decide +kernel
theorem d_P_told_85 : decode c_P_told 85 = .ok (.ireturn, 1) ∧ 85 + 1 = 86 := by decide +kernel
theorem d_P_told_86 : decode c_P_told 86 = .ok (.aload_n 0, 1) ∧ 86 + 1 = 87 := by decide +kernel
theorem d_P_told_87 : decode c_P_told 87 = .ok (.getfield 43, 3) ∧ 87 + 3 = 90 := by decide +kernel
theorem d_P_told_90 : decode c_P_told 90 = .ok (.getfield 187, 3) ∧ 90 + 3 = 93 := by decide +kernel
theorem d_P_told_93 : decode c_P_told 93 = .ok (.iload_n 1, 1) ∧ 93 + 1 = 94 := by decide +kernel
theorem d_P_told_94 : decode c_P_told 94 = .ok (.iaload, 1) ∧ 94 + 1 = 95 := by decide +kernel
theorem d_P_told_95 : decode c_P_told 95 = .ok (.ireturn, 1) ∧ 95 + 1 = 96 := by decide +kernel
theorem d_P_told_96 : decode c_P_told 96 = .ok (.aload_n 0, 1) ∧ 96 + 1 = 97 := by decide +kernel
theorem d_P_told_97 : decode c_P_told 97 = .ok (.getfield 43, 3) ∧ 97 + 3 = 100 := by decide +kernel
theorem d_P_told_100 : decode c_P_told 100 = .ok (.getfield 190, 3) ∧ 100 + 3 = 103 := by decide +kernel
theorem d_P_told_103 : decode c_P_told 103 = .ok (.iload_n 1, 1) ∧ 103 + 1 = 104 := by decide +kernel
theorem d_P_told_104 : decode c_P_told 104 = .ok (.iaload, 1) ∧ 104 + 1 = 105 := by decide +kernel
theorem d_P_told_105 : decode c_P_told 105 = .ok (.ireturn, 1) ∧ 105 + 1 = 106 := by decide +kernel
theorem d_P_told_106 : decode c_P_told 106 = .ok (.aload_n 0, 1) ∧ 106 + 1 = 107 := by decide +kernel
theorem d_P_told_107 : decode c_P_told 107 = .ok (.getfield 43, 3) ∧ 107 + 3 = 110 := by decide +kernel
theorem d_P_told_110 : decode c_P_told 110 = .ok (.getfield 193, 3) ∧ 110 + 3 = 113 := by decide +kernel
theorem d_P_told_113 : decode c_P_told 113 = .ok (.iload_n 1, 1) ∧ 113 + 1 = 114 := by decide +kernel
theorem d_P_told_114 : decode c_P_told 114 = .ok (.iaload, 1) ∧ 114 + 1 = 115 := by decide +kernel
theorem d_P_told_115 : decode c_P_told 115 = .ok (.ireturn, 1) ∧ 115 + 1 = 116 := by decide +kernel
theorem d_P_told_116 : decode c_P_told 116 = .ok (.bipush (-2), 2) ∧ 116 + 2 = 118 := by decide +kernel
theorem d_P_told_118 : decode c_P_told 118 = .ok (.ireturn, 1) ∧ 118 + 1 = 119 := by decide +kernel
set_option maxHeartbeats 4000000 in
theorem m_P_told {Z : Sy} {σ : St} {res : Int32} {x1 : Int32} {x2 : Int32} (hf : P_told x1 x2 σ = some res) : Ct YC Z y_P_told c_P_told 3 (some .int) 2 [.ref (ya Z 0), .int x1, .int x2] σ (some (.int res)) σ := by
  refine Ct.of pn_P (Nat.le_of_ble_eq_true rfl) rfl (fun Γ h => ?_)
  have h : IsG YC Z R_P c_P_told 3 2 (some .int) (some (.int res)) σ Γ := h
  unfold P_told at hf
  refine r_iload_n h d_P_told_0 1 rfl rfl ?_
  refine r_aload_n h d_P_told_1 0 rfl rfl ?_
  refine r_getR h fd_YC_0_5 cf_P fl_P_43 d_P_told_2 ?_
  refine r_getI h fd_YC_28_6 cf_Ledger fl_P_169 d_P_told_5 ?_
  obtain ⟨r8, e8, hf⟩ := q_bind hf
  refine r_callS (As := [.int x1, .int (σ.1 28 6)]) (rest := []) h lk_P_96 sk_P_96 d_P_told_8 (by decide) rfl rfl (Nat.le_of_ble_eq_true rfl) (m_P_isBelow e8) ?_
  refine r_bif_ne h d_P_told_11 hf (fun hf => ?_) (fun hf => ?_)
  · refine r_iload_n h d_P_told_16 2 rfl rfl ?_
    refine q_case hf (fun hq hf => ?_) (fun hn0 hf => ?_)
    · refine r_tab (tgt := 56) (off := 39) h (0 : Int32) hq d_P_told_17.1 (by decide) ?_
      refine r_aload_n h d_P_told_56 0 rfl rfl ?_
      refine r_getR h fd_YC_0_5 cf_P fl_P_43 d_P_told_57 ?_
      refine r_getR h fd_YC_28_0 cf_Ledger fl_P_178 d_P_told_60 ?_
      refine r_iload_n h d_P_told_63 1 rfl rfl ?_
      refine r_iald h sh_YC_29 d_P_told_64 hf (fun hf => ?_)
      exact r_ireturn h d_P_told_65.1 (Option.some.inj hf) rfl
    ·
      refine q_case hf (fun hq hf => ?_) (fun hn1 hf => ?_)
      · refine r_tab (tgt := 66) (off := 49) h (1 : Int32) hq d_P_told_17.1 (by decide) ?_
        refine r_aload_n h d_P_told_66 0 rfl rfl ?_
        refine r_getR h fd_YC_0_5 cf_P fl_P_43 d_P_told_67 ?_
        refine r_getR h fd_YC_28_1 cf_Ledger fl_P_181 d_P_told_70 ?_
        refine r_iload_n h d_P_told_73 1 rfl rfl ?_
        refine r_iald h sh_YC_30 d_P_told_74 hf (fun hf => ?_)
        exact r_ireturn h d_P_told_75.1 (Option.some.inj hf) rfl
      ·
        refine q_case hf (fun hq hf => ?_) (fun hn2 hf => ?_)
        · refine r_tab (tgt := 76) (off := 59) h (2 : Int32) hq d_P_told_17.1 (by decide) ?_
          refine r_aload_n h d_P_told_76 0 rfl rfl ?_
          refine r_getR h fd_YC_0_5 cf_P fl_P_43 d_P_told_77 ?_
          refine r_getR h fd_YC_28_2 cf_Ledger fl_P_184 d_P_told_80 ?_
          refine r_iload_n h d_P_told_83 1 rfl rfl ?_
          refine r_iald h sh_YC_31 d_P_told_84 hf (fun hf => ?_)
          exact r_ireturn h d_P_told_85.1 (Option.some.inj hf) rfl
        ·
          refine q_case hf (fun hq hf => ?_) (fun hn3 hf => ?_)
          · refine r_tab (tgt := 86) (off := 69) h (3 : Int32) hq d_P_told_17.1 (by decide) ?_
            refine r_aload_n h d_P_told_86 0 rfl rfl ?_
            refine r_getR h fd_YC_0_5 cf_P fl_P_43 d_P_told_87 ?_
            refine r_getR h fd_YC_28_3 cf_Ledger fl_P_187 d_P_told_90 ?_
            refine r_iload_n h d_P_told_93 1 rfl rfl ?_
            refine r_iald h sh_YC_32 d_P_told_94 hf (fun hf => ?_)
            exact r_ireturn h d_P_told_95.1 (Option.some.inj hf) rfl
          ·
            refine q_case hf (fun hq hf => ?_) (fun hn4 hf => ?_)
            · refine r_tab (tgt := 96) (off := 79) h (4 : Int32) hq d_P_told_17.1 (by decide) ?_
              refine r_aload_n h d_P_told_96 0 rfl rfl ?_
              refine r_getR h fd_YC_0_5 cf_P fl_P_43 d_P_told_97 ?_
              refine r_getR h fd_YC_28_4 cf_Ledger fl_P_190 d_P_told_100 ?_
              refine r_iload_n h d_P_told_103 1 rfl rfl ?_
              refine r_iald h sh_YC_33 d_P_told_104 hf (fun hf => ?_)
              exact r_ireturn h d_P_told_105.1 (Option.some.inj hf) rfl
            ·
              refine q_case hf (fun hq hf => ?_) (fun hn5 hf => ?_)
              · refine r_tab (tgt := 106) (off := 89) h (5 : Int32) hq d_P_told_17.1 (by decide) ?_
                refine r_aload_n h d_P_told_106 0 rfl rfl ?_
                refine r_getR h fd_YC_0_5 cf_P fl_P_43 d_P_told_107 ?_
                refine r_getR h fd_YC_28_5 cf_Ledger fl_P_193 d_P_told_110 ?_
                refine r_iload_n h d_P_told_113 1 rfl rfl ?_
                refine r_iald h sh_YC_34 d_P_told_114 hf (fun hf => ?_)
                exact r_ireturn h d_P_told_115.1 (Option.some.inj hf) rfl
              ·
                have g0 := q_neI hn0
                have g1 := q_neI hn1
                have g2 := q_neI hn2
                have g3 := q_neI hn3
                have g4 := q_neI hn4
                have g5 := q_neI hn5
                refine r_tabD (tgt := 116) h d_P_told_17.1 (by simp at g0 g1 g2 g3 g4 g5; omega) (by decide) ?_
                refine r_bipush h d_P_told_116 kb_m2 ?_
                exact r_ireturn h d_P_told_118.1 (Option.some.inj hf) rfl
  · refine r_iconst h d_P_told_14 ki_m1 ?_
    exact r_ireturn h d_P_told_15.1 (Option.some.inj hf) rfl

theorem d_P_held_0 : decode c_P_held 0 = .ok (.aload_n 0, 1) ∧ 0 + 1 = 1 := by decide +kernel
theorem d_P_held_1 : decode c_P_held 1 = .ok (.getfield 36, 3) ∧ 1 + 3 = 4 := by decide +kernel
theorem d_P_held_4 : decode c_P_held 4 = .ok (.iload_n 1, 1) ∧ 4 + 1 = 5 := by decide +kernel
theorem d_P_held_5 : decode c_P_held 5 = .ok (.invokevirtual 146, 3) ∧ 5 + 3 = 8 := by decide +kernel
theorem d_P_held_8 : decode c_P_held 8 = .ok (.ifCond .ne 5, 3) ∧ 8 + 3 = 11 ∧ ((8 : Nat) : Int) + 5 = ((13 : Nat) : Int) := by decide +kernel
theorem d_P_held_11 : decode c_P_held 11 = .ok (.iconst (-1), 1) ∧ 11 + 1 = 12 := by decide +kernel
theorem d_P_held_12 : decode c_P_held 12 = .ok (.ireturn, 1) ∧ 12 + 1 = 13 := by decide +kernel
theorem d_P_held_13 : decode c_P_held 13 = .ok (.iload_n 2, 1) ∧ 13 + 1 = 14 := by decide +kernel
theorem d_P_held_14 : decode c_P_held 14 = .ok (.bipush 8, 2) ∧ 14 + 2 = 16 := by decide +kernel
theorem d_P_held_16 : decode c_P_held 16 = .ok (.invokestatic 96, 3) ∧ 16 + 3 = 19 := by decide +kernel
theorem d_P_held_19 : decode c_P_held 19 = .ok (.ifCond .eq 13, 3) ∧ 19 + 3 = 22 ∧ ((19 : Nat) : Int) + 13 = ((32 : Nat) : Int) := by decide +kernel
theorem d_P_held_22 : decode c_P_held 22 = .ok (.iload_n 3, 1) ∧ 22 + 1 = 23 := by decide +kernel
theorem d_P_held_23 : decode c_P_held 23 = .ok (.sipush 10000, 3) ∧ 23 + 3 = 26 := by decide +kernel
theorem d_P_held_26 : decode c_P_held 26 = .ok (.invokestatic 96, 3) ∧ 26 + 3 = 29 := by decide +kernel
theorem d_P_held_29 : decode c_P_held 29 = .ok (.ifCond .ne 6, 3) ∧ 29 + 3 = 32 ∧ ((29 : Nat) : Int) + 6 = ((35 : Nat) : Int) := by decide +kernel
theorem d_P_held_32 : decode c_P_held 32 = .ok (.bipush (-2), 2) ∧ 32 + 2 = 34 := by decide +kernel
theorem d_P_held_34 : decode c_P_held 34 = .ok (.ireturn, 1) ∧ 34 + 1 = 35 := by decide +kernel
theorem d_P_held_35 : decode c_P_held 35 = .ok (.aload_n 0, 1) ∧ 35 + 1 = 36 := by decide +kernel
theorem d_P_held_36 : decode c_P_held 36 = .ok (.getfield 43, 3) ∧ 36 + 3 = 39 := by decide +kernel
theorem d_P_held_39 : decode c_P_held 39 = .ok (.iload_n 1, 1) ∧ 39 + 1 = 40 := by decide +kernel
theorem d_P_held_40 : decode c_P_held 40 = .ok (.iload_n 2, 1) ∧ 40 + 1 = 41 := by decide +kernel
theorem d_P_held_41 : decode c_P_held 41 = .ok (.iload_n 3, 1) ∧ 41 + 1 = 42 := by decide +kernel
theorem d_P_held_42 : decode c_P_held 42 = .ok (.invokevirtual 196, 3) ∧ 42 + 3 = 45 := by decide +kernel
theorem d_P_held_45 : decode c_P_held 45 = .ok (.ireturn, 1) ∧ 45 + 1 = 46 := by decide +kernel
set_option maxHeartbeats 4000000 in
theorem m_P_held {Z : Sy} {σ : St} {res : Int32} {x1 : Int32} {x2 : Int32} {x3 : Int32} (hf : P_held x1 x2 x3 σ = some res) : Ct YC Z y_P_held c_P_held 4 (some .int) 3 [.ref (ya Z 0), .int x1, .int x2, .int x3] σ (some (.int res)) σ := by
  refine Ct.of pn_P (Nat.le_of_ble_eq_true rfl) rfl (fun Γ h => ?_)
  have h : IsG YC Z R_P c_P_held 4 3 (some .int) (some (.int res)) σ Γ := h
  unfold P_held at hf
  refine r_aload_n h d_P_held_0 0 rfl rfl ?_
  refine r_getR h fd_YC_0_4 cf_P fl_P_36 d_P_held_1 ?_
  refine r_iload_n h d_P_held_4 1 rfl rfl ?_
  obtain ⟨r5, e5, hf⟩ := q_bind hf
  refine r_callV (As := [.int x1]) (rest := []) h sh_YC_21 lk_P_146 vk_P_146 d_P_held_5 (by decide) rfl rfl (Nat.le_of_ble_eq_true rfl) (m_Packs_has e5) ?_
  refine r_bif_ne h d_P_held_8 hf (fun hf => ?_) (fun hf => ?_)
  · refine r_iload_n h d_P_held_13 2 rfl rfl ?_
    refine r_bipush h d_P_held_14 kb_8 ?_
    obtain ⟨r16, e16, hf⟩ := q_bind hf
    refine r_callS (As := [.int x2, .int (8 : Int32)]) (rest := []) h lk_P_96 sk_P_96 d_P_held_16 (by decide) rfl rfl (Nat.le_of_ble_eq_true rfl) (m_P_isBelow e16) ?_
    refine r_bif_eq h d_P_held_19 hf (fun hf => ?_) (fun hf => ?_)
    · refine r_bipush h d_P_held_32 kb_m2 ?_
      exact r_ireturn h d_P_held_34.1 (Option.some.inj hf) rfl
    · refine r_iload_n h d_P_held_22 3 rfl rfl ?_
      refine r_sipush h d_P_held_23 ks_10000 ?_
      obtain ⟨r26, e26, hf⟩ := q_bind hf
      refine r_callS (As := [.int x3, .int (10000 : Int32)]) (rest := []) h lk_P_96 sk_P_96 d_P_held_26 (by decide) rfl rfl (Nat.le_of_ble_eq_true rfl) (m_P_isBelow e26) ?_
      refine r_bif_ne h d_P_held_29 hf (fun hf => ?_) (fun hf => ?_)
      · refine r_aload_n h d_P_held_35 0 rfl rfl ?_
        refine r_getR h fd_YC_0_5 cf_P fl_P_43 d_P_held_36 ?_
        refine r_iload_n h d_P_held_39 1 rfl rfl ?_
        refine r_iload_n h d_P_held_40 2 rfl rfl ?_
        refine r_iload_n h d_P_held_41 3 rfl rfl ?_
        obtain ⟨r42, e42, hf⟩ := q_bind hf
        refine r_callV (As := [.int x1, .int x2, .int x3]) (rest := []) h sh_YC_28 lk_P_196 vk_P_196 d_P_held_42 (by decide) rfl rfl (Nat.le_of_ble_eq_true rfl) (m_Ledger_heldOn e42) ?_
        exact r_ireturn h d_P_held_45.1 (Option.some.inj hf) rfl
      · refine r_bipush h d_P_held_32 kb_m2 ?_
        exact r_ireturn h d_P_held_34.1 (Option.some.inj hf) rfl
  · refine r_iconst h d_P_held_11 ki_m1 ?_
    exact r_ireturn h d_P_held_12.1 (Option.some.inj hf) rfl

theorem d_P_isKnower_0 : decode c_P_isKnower 0 = .ok (.iload_n 1, 1) ∧ 0 + 1 = 1 := by decide +kernel
theorem d_P_isKnower_1 : decode c_P_isKnower 1 = .ok (.iconst (-1), 1) ∧ 1 + 1 = 2 := by decide +kernel
theorem d_P_isKnower_2 : decode c_P_isKnower 2 = .ok (.if_icmp .eq 14, 3) ∧ 2 + 3 = 5 ∧ ((2 : Nat) : Int) + 14 = ((16 : Nat) : Int) := by decide +kernel
theorem d_P_isKnower_5 : decode c_P_isKnower 5 = .ok (.aload_n 0, 1) ∧ 5 + 1 = 6 := by decide +kernel
theorem d_P_isKnower_6 : decode c_P_isKnower 6 = .ok (.getfield 12, 3) ∧ 6 + 3 = 9 := by decide +kernel
theorem d_P_isKnower_9 : decode c_P_isKnower 9 = .ok (.iload_n 1, 1) ∧ 9 + 1 = 10 := by decide +kernel
theorem d_P_isKnower_10 : decode c_P_isKnower 10 = .ok (.invokevirtual 112, 3) ∧ 10 + 3 = 13 := by decide +kernel
theorem d_P_isKnower_13 : decode c_P_isKnower 13 = .ok (.ifCond .eq 7, 3) ∧ 13 + 3 = 16 ∧ ((13 : Nat) : Int) + 7 = ((20 : Nat) : Int) := by decide +kernel
theorem d_P_isKnower_16 : decode c_P_isKnower 16 = .ok (.iconst 1, 1) ∧ 16 + 1 = 17 := by decide +kernel
theorem d_P_isKnower_17 : decode c_P_isKnower 17 = .ok (.goto 4, 3) ∧ (17 : Int) + 4 = (21 : Int) := by decide +kernel
theorem d_P_isKnower_20 : decode c_P_isKnower 20 = .ok (.iconst 0, 1) ∧ 20 + 1 = 21 := by decide +kernel
theorem d_P_isKnower_21 : decode c_P_isKnower 21 = .ok (.ireturn, 1) ∧ 21 + 1 = 22 := by decide +kernel
set_option maxHeartbeats 4000000 in
theorem m_P_isKnower {Z : Sy} {σ : St} {res : Bool} {x1 : Int32} (hf : P_isKnower x1 σ = some res) : Ct YC Z y_P_isKnower c_P_isKnower 2 (some .boolean) 3 [.ref (ya Z 0), .int x1] σ (some (.int (bi res))) σ := by
  refine Ct.of pn_P (Nat.le_of_ble_eq_true rfl) rfl (fun Γ h => ?_)
  have h : IsG YC Z R_P c_P_isKnower 2 3 (some .boolean) (some (.int (bi res))) σ Γ := h
  unfold P_isKnower at hf
  refine r_iload_n h d_P_isKnower_0 1 rfl rfl ?_
  refine r_iconst h d_P_isKnower_1 ki_m1 ?_
  refine r_icmp_eq h d_P_isKnower_2 hf (fun hf => ?_) (fun hf => ?_)
  · refine r_iconst h d_P_isKnower_16 ki_1 ?_
    refine r_goto h d_P_isKnower_17 ?_
    exact r_zreturn h d_P_isKnower_21.1 ((show (1 : Int32) = bi true from rfl).trans (congrArg bi (Option.some.inj hf))) rfl
  · refine r_aload_n h d_P_isKnower_5 0 rfl rfl ?_
    refine r_getR h fd_YC_0_0 cf_P fl_P_12 d_P_isKnower_6 ?_
    refine r_iload_n h d_P_isKnower_9 1 rfl rfl ?_
    obtain ⟨r10, e10, hf⟩ := q_bind hf
    refine r_callV (As := [.int x1]) (rest := []) h sh_YC_1 lk_P_112 vk_P_112 d_P_isKnower_10 (by decide) rfl rfl (Nat.le_of_ble_eq_true rfl) (m_Roll_hasBand e10) ?_
    refine r_bif_eq h d_P_isKnower_13 hf (fun hf => ?_) (fun hf => ?_)
    · refine r_iconst h d_P_isKnower_20 ki_0 ?_
      exact r_zreturn h d_P_isKnower_21.1 ((show (0 : Int32) = bi false from rfl).trans (congrArg bi (Option.some.inj hf))) rfl
    · refine r_iconst h d_P_isKnower_16 ki_1 ?_
      refine r_goto h d_P_isKnower_17 ?_
      exact r_zreturn h d_P_isKnower_21.1 ((show (1 : Int32) = bi true from rfl).trans (congrArg bi (Option.some.inj hf))) rfl

theorem d_News_forget_0 : decode c_News_forget 0 = .ok (.iconst 0, 1) ∧ 0 + 1 = 1 := by decide +kernel
theorem d_News_forget_1 : decode c_News_forget 1 = .ok (.istore_n 1, 1) ∧ 1 + 1 = 2 := by decide +kernel
theorem d_News_forget_2 : decode c_News_forget 2 = .ok (.iload_n 1, 1) ∧ 2 + 1 = 3 := by decide +kernel
theorem d_News_forget_3 : decode c_News_forget 3 = .ok (.aload_n 0, 1) ∧ 3 + 1 = 4 := by decide +kernel
theorem d_News_forget_4 : decode c_News_forget 4 = .ok (.getfield 13, 3) ∧ 4 + 3 = 7 := by decide +kernel
theorem d_News_forget_7 : decode c_News_forget 7 = .ok (.arraylength, 1) ∧ 7 + 1 = 8 := by decide +kernel
theorem d_News_forget_8 : decode c_News_forget 8 = .ok (.if_icmp .ge 17, 3) ∧ 8 + 3 = 11 ∧ ((8 : Nat) : Int) + 17 = ((25 : Nat) : Int) := by decide +kernel
theorem d_News_forget_11 : decode c_News_forget 11 = .ok (.aload_n 0, 1) ∧ 11 + 1 = 12 := by decide +kernel
theorem d_News_forget_12 : decode c_News_forget 12 = .ok (.getfield 13, 3) ∧ 12 + 3 = 15 := by decide +kernel
theorem d_News_forget_15 : decode c_News_forget 15 = .ok (.iload_n 1, 1) ∧ 15 + 1 = 16 := by decide +kernel
theorem d_News_forget_16 : decode c_News_forget 16 = .ok (.bipush (-9), 2) ∧ 16 + 2 = 18 := by decide +kernel
theorem d_News_forget_18 : decode c_News_forget 18 = .ok (.iastore, 1) ∧ 18 + 1 = 19 := by decide +kernel
theorem d_News_forget_19 : decode c_News_forget 19 = .ok (.iinc 1 1, 3) ∧ 19 + 3 = 22 := by decide +kernel
theorem d_News_forget_22 : decode c_News_forget 22 = .ok (.goto (-20), 3) ∧ (22 : Int) + (-20) = (2 : Int) := by decide +kernel
theorem d_News_forget_25 : decode c_News_forget 25 = .ok (.iconst 0, 1) ∧ 25 + 1 = 26 := by decide +kernel
theorem d_News_forget_26 : decode c_News_forget 26 = .ok (.istore_n 1, 1) ∧ 26 + 1 = 27 := by decide +kernel
theorem d_News_forget_27 : decode c_News_forget 27 = .ok (.iload_n 1, 1) ∧ 27 + 1 = 28 := by decide +kernel
theorem d_News_forget_28 : decode c_News_forget 28 = .ok (.bipush 7, 2) ∧ 28 + 2 = 30 := by decide +kernel
theorem d_News_forget_30 : decode c_News_forget 30 = .ok (.if_icmp .ge 23, 3) ∧ 30 + 3 = 33 ∧ ((30 : Nat) : Int) + 23 = ((53 : Nat) : Int) := by decide +kernel
theorem d_News_forget_33 : decode c_News_forget 33 = .ok (.aload_n 0, 1) ∧ 33 + 1 = 34 := by decide +kernel
theorem d_News_forget_34 : decode c_News_forget 34 = .ok (.getfield 17, 3) ∧ 34 + 3 = 37 := by decide +kernel
theorem d_News_forget_37 : decode c_News_forget 37 = .ok (.iload_n 1, 1) ∧ 37 + 1 = 38 := by decide +kernel
theorem d_News_forget_38 : decode c_News_forget 38 = .ok (.lconst 0, 1) ∧ 38 + 1 = 39 := by decide +kernel
theorem d_News_forget_39 : decode c_News_forget 39 = .ok (.lastore, 1) ∧ 39 + 1 = 40 := by decide +kernel
theorem d_News_forget_40 : decode c_News_forget 40 = .ok (.aload_n 0, 1) ∧ 40 + 1 = 41 := by decide +kernel
theorem d_News_forget_41 : decode c_News_forget 41 = .ok (.getfield 21, 3) ∧ 41 + 3 = 44 := by decide +kernel
theorem d_News_forget_44 : decode c_News_forget 44 = .ok (.iload_n 1, 1) ∧ 44 + 1 = 45 := by decide +kernel
theorem d_News_forget_45 : decode c_News_forget 45 = .ok (.lconst 0, 1) ∧ 45 + 1 = 46 := by decide +kernel
theorem d_News_forget_46 : decode c_News_forget 46 = .ok (.lastore, 1) ∧ 46 + 1 = 47 := by decide +kernel
theorem d_News_forget_47 : decode c_News_forget 47 = .ok (.iinc 1 1, 3) ∧ 47 + 3 = 50 := by decide +kernel
theorem d_News_forget_50 : decode c_News_forget 50 = .ok (.goto (-23), 3) ∧ (50 : Int) + (-23) = (27 : Int) := by decide +kernel
theorem d_News_forget_53 : decode c_News_forget 53 = .ok (.return_, 1) ∧ 53 + 1 = 54 := by decide +kernel
set_option maxHeartbeats 4000000 in
theorem w_News_forget_L27 {Z : Sy} {Γ : Nat → List (Nat × Value) → List Value → St → Prop} {res : St} (h : IsG YC Z R_News c_News_forget 2 1 none none res Γ) : ∀ (n : Nat) (x1 : Int32) (σ : St), News_forget_L27 n x1 σ = some res → Γ 27 [(0, .ref (ya Z 35)), (1, .int x1)] [] σ := by
  intro n
  induction n with
  | zero => intro x1 σ hf; exact absurd hf (by simp [News_forget_L27])
  | succ n ih =>
    intro x1 σ hf
    rw [News_forget_L27] at hf
    refine r_iload_n h d_News_forget_27 1 rfl rfl ?_
    refine r_bipush h d_News_forget_28 kb_7 ?_
    refine r_icmp_ge h d_News_forget_30 hf (fun hf => ?_) (fun hf => ?_)
    · exact r_vreturn h d_News_forget_53.1 (Option.some.inj hf)
    · refine r_aload_n h d_News_forget_33 0 rfl rfl ?_
      refine r_getR h fd_YC_35_1 cf_News fl_News_17 d_News_forget_34 ?_
      refine r_iload_n h d_News_forget_37 1 rfl rfl ?_
      refine r_lconst h d_News_forget_38 kl_0 ?_
      refine r_last h sh_YC_37 d_News_forget_39 hf (fun hf => ?_)
      refine r_aload_n h d_News_forget_40 0 rfl rfl ?_
      refine r_getR h fd_YC_35_2 cf_News fl_News_21 d_News_forget_41 ?_
      refine r_iload_n h d_News_forget_44 1 rfl rfl ?_
      refine r_lconst h d_News_forget_45 kl_0 ?_
      refine r_last h sh_YC_38 d_News_forget_46 hf (fun hf => ?_)
      refine r_iinc (ls' := [(1, .int (x1 + (1 : Int32))), (0, .ref (ya Z 35))]) h d_News_forget_47 1 rfl ki_1 (by decide) rfl ?_
      refine r_goto h d_News_forget_50 ?_
      refine r_sub h [1, 0] rfl ?_
      exact ih _ _ hf

set_option maxHeartbeats 4000000 in
theorem w_News_forget_L2 {Z : Sy} {Γ : Nat → List (Nat × Value) → List Value → St → Prop} {res : St} (h : IsG YC Z R_News c_News_forget 2 1 none none res Γ) : ∀ (n : Nat) (x1 : Int32) (σ : St), News_forget_L2 n x1 σ = some res → Γ 2 [(0, .ref (ya Z 35)), (1, .int x1)] [] σ := by
  intro n
  induction n with
  | zero => intro x1 σ hf; exact absurd hf (by simp [News_forget_L2])
  | succ n ih =>
    intro x1 σ hf
    rw [News_forget_L2] at hf
    refine r_iload_n h d_News_forget_2 1 rfl rfl ?_
    refine r_aload_n h d_News_forget_3 0 rfl rfl ?_
    refine r_getR h fd_YC_35_0 cf_News fl_News_13 d_News_forget_4 ?_
    refine r_alen h sh_YC_36 kn_420 d_News_forget_7 ?_
    refine r_icmp_ge h d_News_forget_8 hf (fun hf => ?_) (fun hf => ?_)
    · refine r_iconst h d_News_forget_25 ki_0 ?_
      refine r_istore_n (ls' := [(1, .int (0 : Int32)), (0, .ref (ya Z 35))]) h d_News_forget_26 rfl (by decide) rfl ?_
      refine r_sub h [1, 0] rfl ?_
      exact w_News_forget_L27 h _ _ _ hf
    · refine r_aload_n h d_News_forget_11 0 rfl rfl ?_
      refine r_getR h fd_YC_35_0 cf_News fl_News_13 d_News_forget_12 ?_
      refine r_iload_n h d_News_forget_15 1 rfl rfl ?_
      refine r_bipush h d_News_forget_16 kb_m9 ?_
      refine r_iast h sh_YC_36 d_News_forget_18 hf (fun hf => ?_)
      refine r_iinc (ls' := [(1, .int (x1 + (1 : Int32))), (0, .ref (ya Z 35))]) h d_News_forget_19 1 rfl ki_1 (by decide) rfl ?_
      refine r_goto h d_News_forget_22 ?_
      refine r_sub h [1, 0] rfl ?_
      exact ih _ _ hf

set_option maxHeartbeats 4000000 in
theorem m_News_forget {Z : Sy} {σ : St} {res : St} (hf : News_forget  σ = some res) : Ct YC Z y_News_forget c_News_forget 2 none 1 [.ref (ya Z 35)] σ none res := by
  refine Ct.of pn_News (Nat.le_of_ble_eq_true rfl) rfl (fun Γ h => ?_)
  have h : IsG YC Z R_News c_News_forget 2 1 none none res Γ := h
  unfold News_forget at hf
  refine r_iconst h d_News_forget_0 ki_0 ?_
  refine r_istore_n (ls' := [(1, .int (0 : Int32)), (0, .ref (ya Z 35))]) h d_News_forget_1 rfl (by decide) rfl ?_
  refine r_sub h [1, 0] rfl ?_
  exact w_News_forget_L2 h _ _ _ hf

theorem d_News_nextDay_0 : decode c_News_nextDay 0 = .ok (.sipush 10000, 3) ∧ 0 + 3 = 3 := by decide +kernel
theorem d_News_nextDay_3 : decode c_News_nextDay 3 = .ok (.istore_n 3, 1) ∧ 3 + 1 = 4 := by decide +kernel
theorem d_News_nextDay_4 : decode c_News_nextDay 4 = .ok (.iconst 0, 1) ∧ 4 + 1 = 5 := by decide +kernel
theorem d_News_nextDay_5 : decode c_News_nextDay 5 = .ok (.istore 4, 2) ∧ 5 + 2 = 7 := by decide +kernel
theorem d_News_nextDay_7 : decode c_News_nextDay 7 = .ok (.iload 4, 2) ∧ 7 + 2 = 9 := by decide +kernel
theorem d_News_nextDay_9 : decode c_News_nextDay 9 = .ok (.aload_n 1, 1) ∧ 9 + 1 = 10 := by decide +kernel
theorem d_News_nextDay_10 : decode c_News_nextDay 10 = .ok (.getfield 38, 3) ∧ 10 + 3 = 13 := by decide +kernel
theorem d_News_nextDay_13 : decode c_News_nextDay 13 = .ok (.if_icmp .ge 39, 3) ∧ 13 + 3 = 16 ∧ ((13 : Nat) : Int) + 39 = ((52 : Nat) : Int) := by decide +kernel
theorem d_News_nextDay_16 : decode c_News_nextDay 16 = .ok (.aload_n 1, 1) ∧ 16 + 1 = 17 := by decide +kernel
theorem d_News_nextDay_17 : decode c_News_nextDay 17 = .ok (.getfield 64, 3) ∧ 17 + 3 = 20 := by decide +kernel
theorem d_News_nextDay_20 : decode c_News_nextDay 20 = .ok (.iload 4, 2) ∧ 20 + 2 = 22 := by decide +kernel
theorem d_News_nextDay_22 : decode c_News_nextDay 22 = .ok (.iaload, 1) ∧ 22 + 1 = 23 := by decide +kernel
theorem d_News_nextDay_23 : decode c_News_nextDay 23 = .ok (.iload_n 0, 1) ∧ 23 + 1 = 24 := by decide +kernel
theorem d_News_nextDay_24 : decode c_News_nextDay 24 = .ok (.if_icmp .le 22, 3) ∧ 24 + 3 = 27 ∧ ((24 : Nat) : Int) + 22 = ((46 : Nat) : Int) := by decide +kernel
theorem d_News_nextDay_27 : decode c_News_nextDay 27 = .ok (.aload_n 1, 1) ∧ 27 + 1 = 28 := by decide +kernel
theorem d_News_nextDay_28 : decode c_News_nextDay 28 = .ok (.getfield 64, 3) ∧ 28 + 3 = 31 := by decide +kernel
theorem d_News_nextDay_31 : decode c_News_nextDay 31 = .ok (.iload 4, 2) ∧ 31 + 2 = 33 := by decide +kernel
theorem d_News_nextDay_33 : decode c_News_nextDay 33 = .ok (.iaload, 1) ∧ 33 + 1 = 34 := by decide +kernel
theorem d_News_nextDay_34 : decode c_News_nextDay 34 = .ok (.iload_n 3, 1) ∧ 34 + 1 = 35 := by decide +kernel
theorem d_News_nextDay_35 : decode c_News_nextDay 35 = .ok (.if_icmp .ge 11, 3) ∧ 35 + 3 = 38 ∧ ((35 : Nat) : Int) + 11 = ((46 : Nat) : Int) := by decide +kernel
theorem d_News_nextDay_38 : decode c_News_nextDay 38 = .ok (.aload_n 1, 1) ∧ 38 + 1 = 39 := by decide +kernel
theorem d_News_nextDay_39 : decode c_News_nextDay 39 = .ok (.getfield 64, 3) ∧ 39 + 3 = 42 := by decide +kernel
theorem d_News_nextDay_42 : decode c_News_nextDay 42 = .ok (.iload 4, 2) ∧ 42 + 2 = 44 := by decide +kernel
theorem d_News_nextDay_44 : decode c_News_nextDay 44 = .ok (.iaload, 1) ∧ 44 + 1 = 45 := by decide +kernel
theorem d_News_nextDay_45 : decode c_News_nextDay 45 = .ok (.istore_n 3, 1) ∧ 45 + 1 = 46 := by decide +kernel
theorem d_News_nextDay_46 : decode c_News_nextDay 46 = .ok (.iinc 4 1, 3) ∧ 46 + 3 = 49 := by decide +kernel
theorem d_News_nextDay_49 : decode c_News_nextDay 49 = .ok (.goto (-42), 3) ∧ (49 : Int) + (-42) = (7 : Int) := by decide +kernel
theorem d_News_nextDay_52 : decode c_News_nextDay 52 = .ok (.iconst 0, 1) ∧ 52 + 1 = 53 := by decide +kernel
theorem d_News_nextDay_53 : decode c_News_nextDay 53 = .ok (.istore 4, 2) ∧ 53 + 2 = 55 := by decide +kernel
theorem d_News_nextDay_55 : decode c_News_nextDay 55 = .ok (.iload 4, 2) ∧ 55 + 2 = 57 := by decide +kernel
theorem d_News_nextDay_57 : decode c_News_nextDay 57 = .ok (.aload_n 2, 1) ∧ 57 + 1 = 58 := by decide +kernel
theorem d_News_nextDay_58 : decode c_News_nextDay 58 = .ok (.getfield 44, 3) ∧ 58 + 3 = 61 := by decide +kernel
theorem d_News_nextDay_61 : decode c_News_nextDay 61 = .ok (.if_icmp .ge 39, 3) ∧ 61 + 3 = 64 ∧ ((61 : Nat) : Int) + 39 = ((100 : Nat) : Int) := by decide +kernel
theorem d_News_nextDay_64 : decode c_News_nextDay 64 = .ok (.aload_n 2, 1) ∧ 64 + 1 = 65 := by decide +kernel
theorem d_News_nextDay_65 : decode c_News_nextDay 65 = .ok (.getfield 67, 3) ∧ 65 + 3 = 68 := by decide +kernel
theorem d_News_nextDay_68 : decode c_News_nextDay 68 = .ok (.iload 4, 2) ∧ 68 + 2 = 70 := by decide +kernel
theorem d_News_nextDay_70 : decode c_News_nextDay 70 = .ok (.iaload, 1) ∧ 70 + 1 = 71 := by decide +kernel
theorem d_News_nextDay_71 : decode c_News_nextDay 71 = .ok (.iload_n 0, 1) ∧ 71 + 1 = 72 := by decide +kernel
theorem d_News_nextDay_72 : decode c_News_nextDay 72 = .ok (.if_icmp .le 22, 3) ∧ 72 + 3 = 75 ∧ ((72 : Nat) : Int) + 22 = ((94 : Nat) : Int) := by decide +kernel
theorem d_News_nextDay_75 : decode c_News_nextDay 75 = .ok (.aload_n 2, 1) ∧ 75 + 1 = 76 := by decide +kernel
theorem d_News_nextDay_76 : decode c_News_nextDay 76 = .ok (.getfield 67, 3) ∧ 76 + 3 = 79 := by decide +kernel
theorem d_News_nextDay_79 : decode c_News_nextDay 79 = .ok (.iload 4, 2) ∧ 79 + 2 = 81 := by decide +kernel
theorem d_News_nextDay_81 : decode c_News_nextDay 81 = .ok (.iaload, 1) ∧ 81 + 1 = 82 := by decide +kernel
theorem d_News_nextDay_82 : decode c_News_nextDay 82 = .ok (.iload_n 3, 1) ∧ 82 + 1 = 83 := by decide +kernel
theorem d_News_nextDay_83 : decode c_News_nextDay 83 = .ok (.if_icmp .ge 11, 3) ∧ 83 + 3 = 86 ∧ ((83 : Nat) : Int) + 11 = ((94 : Nat) : Int) := by decide +kernel
theorem d_News_nextDay_86 : decode c_News_nextDay 86 = .ok (.aload_n 2, 1) ∧ 86 + 1 = 87 := by decide +kernel
theorem d_News_nextDay_87 : decode c_News_nextDay 87 = .ok (.getfield 67, 3) ∧ 87 + 3 = 90 := by decide +kernel
theorem d_News_nextDay_90 : decode c_News_nextDay 90 = .ok (.iload 4, 2) ∧ 90 + 2 = 92 := by decide +kernel
theorem d_News_nextDay_92 : decode c_News_nextDay 92 = .ok (.iaload, 1) ∧ 92 + 1 = 93 := by decide +kernel
theorem d_News_nextDay_93 : decode c_News_nextDay 93 = .ok (.istore_n 3, 1) ∧ 93 + 1 = 94 := by decide +kernel
theorem d_News_nextDay_94 : decode c_News_nextDay 94 = .ok (.iinc 4 1, 3) ∧ 94 + 3 = 97 := by decide +kernel
theorem d_News_nextDay_97 : decode c_News_nextDay 97 = .ok (.goto (-42), 3) ∧ (97 : Int) + (-42) = (55 : Int) := by decide +kernel
theorem d_News_nextDay_100 : decode c_News_nextDay 100 = .ok (.iload_n 3, 1) ∧ 100 + 1 = 101 := by decide +kernel
theorem d_News_nextDay_101 : decode c_News_nextDay 101 = .ok (.ireturn, 1) ∧ 101 + 1 = 102 := by decide +kernel
set_option maxHeartbeats 4000000 in
theorem w_News_nextDay_L55 {Z : Sy} {Γ : Nat → List (Nat × Value) → List Value → St → Prop} {res : Int32} {x0 : Int32} {σ : St} (h : IsG YC Z R_News c_News_nextDay 5 1 (some .int) (some (.int res)) σ Γ) : ∀ (n : Nat) (x3 : Int32) (x4 : Int32), News_nextDay_L55 x0 σ n x3 x4 = some res → Γ 55 [(0, .int x0), (2, .ref (ya Z 28)), (3, .int x3), (4, .int x4)] [] σ := by
  intro n
  induction n with
  | zero => intro x3 x4 hf; exact absurd hf (by simp [News_nextDay_L55])
  | succ n ih =>
    intro x3 x4 hf
    rw [News_nextDay_L55] at hf
    refine r_iload h d_News_nextDay_55 3 rfl ?_
    refine r_aload_n h d_News_nextDay_57 1 rfl rfl ?_
    refine r_getI h fd_YC_28_6 cf_Ledger fl_News_44 d_News_nextDay_58 ?_
    refine r_icmp_ge h d_News_nextDay_61 hf (fun hf => ?_) (fun hf => ?_)
    · refine r_iload_n h d_News_nextDay_100 2 rfl rfl ?_
      exact r_ireturn h d_News_nextDay_101.1 (Option.some.inj hf) rfl
    · refine r_aload_n h d_News_nextDay_64 1 rfl rfl ?_
      refine r_getR h fd_YC_28_5 cf_Ledger fl_News_67 d_News_nextDay_65 ?_
      refine r_iload h d_News_nextDay_68 3 rfl ?_
      refine r_iald h sh_YC_34 d_News_nextDay_70 hf (fun hf => ?_)
      refine r_iload_n h d_News_nextDay_71 0 rfl rfl ?_
      refine r_icmp_le h d_News_nextDay_72 hf (fun hf => ?_) (fun hf => ?_)
      · refine r_iinc (ls' := [(4, .int (x4 + (1 : Int32))), (0, .int x0), (2, .ref (ya Z 28)), (3, .int x3)]) h d_News_nextDay_94 3 rfl ki_1 (by decide) rfl ?_
        refine r_goto h d_News_nextDay_97 ?_
        refine r_sub h [1, 2, 3, 0] rfl ?_
        exact ih _ _ hf
      · refine r_aload_n h d_News_nextDay_75 1 rfl rfl ?_
        refine r_getR h fd_YC_28_5 cf_Ledger fl_News_67 d_News_nextDay_76 ?_
        refine r_iload h d_News_nextDay_79 3 rfl ?_
        refine r_iald h sh_YC_34 d_News_nextDay_81 hf (fun hf => ?_)
        refine r_iload_n h d_News_nextDay_82 2 rfl rfl ?_
        refine r_icmp_ge h d_News_nextDay_83 hf (fun hf => ?_) (fun hf => ?_)
        · refine r_iinc (ls' := [(4, .int (x4 + (1 : Int32))), (0, .int x0), (2, .ref (ya Z 28)), (3, .int x3)]) h d_News_nextDay_94 3 rfl ki_1 (by decide) rfl ?_
          refine r_goto h d_News_nextDay_97 ?_
          refine r_sub h [1, 2, 3, 0] rfl ?_
          exact ih _ _ hf
        · refine r_aload_n h d_News_nextDay_86 1 rfl rfl ?_
          refine r_getR h fd_YC_28_5 cf_Ledger fl_News_67 d_News_nextDay_87 ?_
          refine r_iload h d_News_nextDay_90 3 rfl ?_
          refine r_iald h sh_YC_34 d_News_nextDay_92 hf (fun hf => ?_)
          refine r_istore_n (ls' := [(3, .int (σ.1 34 (Int32.toNatClampNeg x4))), (0, .int x0), (2, .ref (ya Z 28)), (4, .int x4)]) h d_News_nextDay_93 rfl (by decide) rfl ?_
          refine r_iinc (ls' := [(4, .int (x4 + (1 : Int32))), (3, .int (σ.1 34 (Int32.toNatClampNeg x4))), (0, .int x0), (2, .ref (ya Z 28))]) h d_News_nextDay_94 3 rfl ki_1 (by decide) rfl ?_
          refine r_goto h d_News_nextDay_97 ?_
          refine r_sub h [2, 3, 1, 0] rfl ?_
          exact ih _ _ hf

set_option maxHeartbeats 4000000 in
theorem w_News_nextDay_L7 {Z : Sy} {Γ : Nat → List (Nat × Value) → List Value → St → Prop} {res : Int32} {x0 : Int32} {σ : St} (h : IsG YC Z R_News c_News_nextDay 5 1 (some .int) (some (.int res)) σ Γ) : ∀ (n : Nat) (x3 : Int32) (x4 : Int32), News_nextDay_L7 x0 σ n x3 x4 = some res → Γ 7 [(0, .int x0), (1, .ref (ya Z 6)), (2, .ref (ya Z 28)), (3, .int x3), (4, .int x4)] [] σ := by
  intro n
  induction n with
  | zero => intro x3 x4 hf; exact absurd hf (by simp [News_nextDay_L7])
  | succ n ih =>
    intro x3 x4 hf
    rw [News_nextDay_L7] at hf
    refine r_iload h d_News_nextDay_7 4 rfl ?_
    refine r_aload_n h d_News_nextDay_9 1 rfl rfl ?_
    refine r_getI h fd_YC_6_4 cf_Spans fl_News_38 d_News_nextDay_10 ?_
    refine r_icmp_ge h d_News_nextDay_13 hf (fun hf => ?_) (fun hf => ?_)
    · refine r_iconst h d_News_nextDay_52 ki_0 ?_
      refine r_istore (ls' := [(4, .int (0 : Int32)), (0, .int x0), (1, .ref (ya Z 6)), (2, .ref (ya Z 28)), (3, .int x3)]) h d_News_nextDay_53 (by decide) rfl ?_
      refine r_sub h [1, 3, 4, 0] rfl ?_
      exact w_News_nextDay_L55 h _ _ _ hf
    · refine r_aload_n h d_News_nextDay_16 1 rfl rfl ?_
      refine r_getR h fd_YC_6_2 cf_Spans fl_News_64 d_News_nextDay_17 ?_
      refine r_iload h d_News_nextDay_20 4 rfl ?_
      refine r_iald h sh_YC_9 d_News_nextDay_22 hf (fun hf => ?_)
      refine r_iload_n h d_News_nextDay_23 0 rfl rfl ?_
      refine r_icmp_le h d_News_nextDay_24 hf (fun hf => ?_) (fun hf => ?_)
      · refine r_iinc (ls' := [(4, .int (x4 + (1 : Int32))), (0, .int x0), (1, .ref (ya Z 6)), (2, .ref (ya Z 28)), (3, .int x3)]) h d_News_nextDay_46 4 rfl ki_1 (by decide) rfl ?_
        refine r_goto h d_News_nextDay_49 ?_
        refine r_sub h [1, 2, 3, 4, 0] rfl ?_
        exact ih _ _ hf
      · refine r_aload_n h d_News_nextDay_27 1 rfl rfl ?_
        refine r_getR h fd_YC_6_2 cf_Spans fl_News_64 d_News_nextDay_28 ?_
        refine r_iload h d_News_nextDay_31 4 rfl ?_
        refine r_iald h sh_YC_9 d_News_nextDay_33 hf (fun hf => ?_)
        refine r_iload_n h d_News_nextDay_34 3 rfl rfl ?_
        refine r_icmp_ge h d_News_nextDay_35 hf (fun hf => ?_) (fun hf => ?_)
        · refine r_iinc (ls' := [(4, .int (x4 + (1 : Int32))), (0, .int x0), (1, .ref (ya Z 6)), (2, .ref (ya Z 28)), (3, .int x3)]) h d_News_nextDay_46 4 rfl ki_1 (by decide) rfl ?_
          refine r_goto h d_News_nextDay_49 ?_
          refine r_sub h [1, 2, 3, 4, 0] rfl ?_
          exact ih _ _ hf
        · refine r_aload_n h d_News_nextDay_38 1 rfl rfl ?_
          refine r_getR h fd_YC_6_2 cf_Spans fl_News_64 d_News_nextDay_39 ?_
          refine r_iload h d_News_nextDay_42 4 rfl ?_
          refine r_iald h sh_YC_9 d_News_nextDay_44 hf (fun hf => ?_)
          refine r_istore_n (ls' := [(3, .int (σ.1 9 (Int32.toNatClampNeg x4))), (0, .int x0), (1, .ref (ya Z 6)), (2, .ref (ya Z 28)), (4, .int x4)]) h d_News_nextDay_45 rfl (by decide) rfl ?_
          refine r_iinc (ls' := [(4, .int (x4 + (1 : Int32))), (3, .int (σ.1 9 (Int32.toNatClampNeg x4))), (0, .int x0), (1, .ref (ya Z 6)), (2, .ref (ya Z 28))]) h d_News_nextDay_46 4 rfl ki_1 (by decide) rfl ?_
          refine r_goto h d_News_nextDay_49 ?_
          refine r_sub h [2, 3, 4, 1, 0] rfl ?_
          exact ih _ _ hf

set_option maxHeartbeats 4000000 in
theorem m_News_nextDay {Z : Sy} {σ : St} {res : Int32} {x0 : Int32} (hf : News_nextDay x0 σ = some res) : Ct YC Z y_News_nextDay c_News_nextDay 5 (some .int) 1 [.int x0, .ref (ya Z 6), .ref (ya Z 28)] σ (some (.int res)) σ := by
  refine Ct.of pn_News (Nat.le_of_ble_eq_true rfl) rfl (fun Γ h => ?_)
  have h : IsG YC Z R_News c_News_nextDay 5 1 (some .int) (some (.int res)) σ Γ := h
  unfold News_nextDay at hf
  refine r_sipush h d_News_nextDay_0 ks_10000 ?_
  refine r_istore_n (ls' := [(3, .int (10000 : Int32)), (0, .int x0), (1, .ref (ya Z 6)), (2, .ref (ya Z 28))]) h d_News_nextDay_3 rfl (by decide) rfl ?_
  refine r_iconst h d_News_nextDay_4 ki_0 ?_
  refine r_istore (ls' := [(4, .int (0 : Int32)), (3, .int (10000 : Int32)), (0, .int x0), (1, .ref (ya Z 6)), (2, .ref (ya Z 28))]) h d_News_nextDay_5 (by decide) rfl ?_
  refine r_sub h [2, 3, 4, 1, 0] rfl ?_
  exact w_News_nextDay_L7 h _ _ _ hf

theorem d_News_hearOwn_0 : decode c_News_hearOwn 0 = .ok (.iconst 0, 1) ∧ 0 + 1 = 1 := by decide +kernel
theorem d_News_hearOwn_1 : decode c_News_hearOwn 1 = .ok (.istore 4, 2) ∧ 1 + 2 = 3 := by decide +kernel
theorem d_News_hearOwn_3 : decode c_News_hearOwn 3 = .ok (.iload 4, 2) ∧ 3 + 2 = 5 := by decide +kernel
theorem d_News_hearOwn_5 : decode c_News_hearOwn 5 = .ok (.aload_n 2, 1) ∧ 5 + 1 = 6 := by decide +kernel
theorem d_News_hearOwn_6 : decode c_News_hearOwn 6 = .ok (.getfield 44, 3) ∧ 6 + 3 = 9 := by decide +kernel
theorem d_News_hearOwn_9 : decode c_News_hearOwn 9 = .ok (.if_icmp .ge 57, 3) ∧ 9 + 3 = 12 ∧ ((9 : Nat) : Int) + 57 = ((66 : Nat) : Int) := by decide +kernel
theorem d_News_hearOwn_12 : decode c_News_hearOwn 12 = .ok (.aload_n 2, 1) ∧ 12 + 1 = 13 := by decide +kernel
theorem d_News_hearOwn_13 : decode c_News_hearOwn 13 = .ok (.getfield 70, 3) ∧ 13 + 3 = 16 := by decide +kernel
theorem d_News_hearOwn_16 : decode c_News_hearOwn 16 = .ok (.iload 4, 2) ∧ 16 + 2 = 18 := by decide +kernel
theorem d_News_hearOwn_18 : decode c_News_hearOwn 18 = .ok (.iaload, 1) ∧ 18 + 1 = 19 := by decide +kernel
theorem d_News_hearOwn_19 : decode c_News_hearOwn 19 = .ok (.istore 5, 2) ∧ 19 + 2 = 21 := by decide +kernel
theorem d_News_hearOwn_21 : decode c_News_hearOwn 21 = .ok (.aload_n 2, 1) ∧ 21 + 1 = 22 := by decide +kernel
theorem d_News_hearOwn_22 : decode c_News_hearOwn 22 = .ok (.getfield 67, 3) ∧ 22 + 3 = 25 := by decide +kernel
theorem d_News_hearOwn_25 : decode c_News_hearOwn 25 = .ok (.iload 4, 2) ∧ 25 + 2 = 27 := by decide +kernel
theorem d_News_hearOwn_27 : decode c_News_hearOwn 27 = .ok (.iaload, 1) ∧ 27 + 1 = 28 := by decide +kernel
theorem d_News_hearOwn_28 : decode c_News_hearOwn 28 = .ok (.iload_n 1, 1) ∧ 28 + 1 = 29 := by decide +kernel
theorem d_News_hearOwn_29 : decode c_News_hearOwn 29 = .ok (.if_icmp .ne 31, 3) ∧ 29 + 3 = 32 ∧ ((29 : Nat) : Int) + 31 = ((60 : Nat) : Int) := by decide +kernel
theorem d_News_hearOwn_32 : decode c_News_hearOwn 32 = .ok (.aload_n 3, 1) ∧ 32 + 1 = 33 := by decide +kernel
theorem d_News_hearOwn_33 : decode c_News_hearOwn 33 = .ok (.iload 5, 2) ∧ 33 + 2 = 35 := by decide +kernel
theorem d_News_hearOwn_35 : decode c_News_hearOwn 35 = .ok (.invokevirtual 73, 3) ∧ 35 + 3 = 38 := by decide +kernel
theorem d_News_hearOwn_38 : decode c_News_hearOwn 38 = .ok (.ifCond .eq 22, 3) ∧ 38 + 3 = 41 ∧ ((38 : Nat) : Int) + 22 = ((60 : Nat) : Int) := by decide +kernel
theorem d_News_hearOwn_41 : decode c_News_hearOwn 41 = .ok (.aload_n 0, 1) ∧ 41 + 1 = 42 := by decide +kernel
theorem d_News_hearOwn_42 : decode c_News_hearOwn 42 = .ok (.getfield 17, 3) ∧ 42 + 3 = 45 := by decide +kernel
theorem d_News_hearOwn_45 : decode c_News_hearOwn 45 = .ok (.aload_n 3, 1) ∧ 45 + 1 = 46 := by decide +kernel
theorem d_News_hearOwn_46 : decode c_News_hearOwn 46 = .ok (.getfield 79, 3) ∧ 46 + 3 = 49 := by decide +kernel
theorem d_News_hearOwn_49 : decode c_News_hearOwn 49 = .ok (.iload 5, 2) ∧ 49 + 2 = 51 := by decide +kernel
theorem d_News_hearOwn_51 : decode c_News_hearOwn 51 = .ok (.iaload, 1) ∧ 51 + 1 = 52 := by decide +kernel
theorem d_News_hearOwn_52 : decode c_News_hearOwn 52 = .ok (.dup2, 1) ∧ 52 + 1 = 53 := by decide +kernel
theorem d_News_hearOwn_53 : decode c_News_hearOwn 53 = .ok (.laload, 1) ∧ 53 + 1 = 54 := by decide +kernel
theorem d_News_hearOwn_54 : decode c_News_hearOwn 54 = .ok (.lconst 1, 1) ∧ 54 + 1 = 55 := by decide +kernel
theorem d_News_hearOwn_55 : decode c_News_hearOwn 55 = .ok (.iload 4, 2) ∧ 55 + 2 = 57 := by decide +kernel
theorem d_News_hearOwn_57 : decode c_News_hearOwn 57 = .ok (.lshl, 1) ∧ 57 + 1 = 58 := by decide +kernel
theorem d_News_hearOwn_58 : decode c_News_hearOwn 58 = .ok (.lor, 1) ∧ 58 + 1 = 59 := by decide +kernel
theorem d_News_hearOwn_59 : decode c_News_hearOwn 59 = .ok (.lastore, 1) ∧ 59 + 1 = 60 := by decide +kernel
theorem d_News_hearOwn_60 : decode c_News_hearOwn 60 = .ok (.iinc 4 1, 3) ∧ 60 + 3 = 63 := by decide +kernel
theorem d_News_hearOwn_63 : decode c_News_hearOwn 63 = .ok (.goto (-60), 3) ∧ (63 : Int) + (-60) = (3 : Int) := by decide +kernel
theorem d_News_hearOwn_66 : decode c_News_hearOwn 66 = .ok (.return_, 1) ∧ 66 + 1 = 67 := by decide +kernel
set_option maxHeartbeats 4000000 in
theorem w_News_hearOwn_L3 {Z : Sy} {Γ : Nat → List (Nat × Value) → List Value → St → Prop} {res : St} {x1 : Int32} (h : IsG YC Z R_News c_News_hearOwn 6 3 none none res Γ) : ∀ (n : Nat) (x4 : Int32) (σ : St), News_hearOwn_L3 x1 n x4 σ = some res → Γ 3 [(0, .ref (ya Z 35)), (1, .int x1), (2, .ref (ya Z 28)), (3, .ref (ya Z 21)), (4, .int x4)] [] σ := by
  intro n
  induction n with
  | zero => intro x4 σ hf; exact absurd hf (by simp [News_hearOwn_L3])
  | succ n ih =>
    intro x4 σ hf
    rw [News_hearOwn_L3] at hf
    refine r_iload h d_News_hearOwn_3 4 rfl ?_
    refine r_aload_n h d_News_hearOwn_5 2 rfl rfl ?_
    refine r_getI h fd_YC_28_6 cf_Ledger fl_News_44 d_News_hearOwn_6 ?_
    refine r_icmp_ge h d_News_hearOwn_9 hf (fun hf => ?_) (fun hf => ?_)
    · exact r_vreturn h d_News_hearOwn_66.1 (Option.some.inj hf)
    · refine r_aload_n h d_News_hearOwn_12 2 rfl rfl ?_
      refine r_getR h fd_YC_28_0 cf_Ledger fl_News_70 d_News_hearOwn_13 ?_
      refine r_iload h d_News_hearOwn_16 4 rfl ?_
      refine r_iald h sh_YC_29 d_News_hearOwn_18 hf (fun hf => ?_)
      refine r_istore (ls' := [(5, .int (σ.1 29 (Int32.toNatClampNeg x4))), (0, .ref (ya Z 35)), (1, .int x1), (2, .ref (ya Z 28)), (3, .ref (ya Z 21)), (4, .int x4)]) h d_News_hearOwn_19 (by decide) rfl ?_
      refine r_aload_n h d_News_hearOwn_21 3 rfl rfl ?_
      refine r_getR h fd_YC_28_5 cf_Ledger fl_News_67 d_News_hearOwn_22 ?_
      refine r_iload h d_News_hearOwn_25 5 rfl ?_
      refine r_iald h sh_YC_34 d_News_hearOwn_27 hf (fun hf => ?_)
      refine r_iload_n h d_News_hearOwn_28 2 rfl rfl ?_
      refine r_icmp_ne h d_News_hearOwn_29 hf (fun hf => ?_) (fun hf => ?_)
      · refine r_iinc (ls' := [(4, .int (x4 + (1 : Int32))), (5, .int (σ.1 29 (Int32.toNatClampNeg x4))), (0, .ref (ya Z 35)), (1, .int x1), (2, .ref (ya Z 28)), (3, .ref (ya Z 21))]) h d_News_hearOwn_60 5 rfl ki_1 (by decide) rfl ?_
        refine r_goto h d_News_hearOwn_63 ?_
        refine r_sub h [2, 3, 4, 5, 0] rfl ?_
        exact ih _ _ hf
      · refine r_aload_n h d_News_hearOwn_32 4 rfl rfl ?_
        refine r_iload h d_News_hearOwn_33 0 rfl ?_
        obtain ⟨r35, e35, hf⟩ := q_bind hf
        refine r_callV (As := [.int (σ.1 29 (Int32.toNatClampNeg x4))]) (rest := []) h sh_YC_21 lk_News_73 vk_News_73 d_News_hearOwn_35 (by decide) rfl rfl (Nat.le_of_ble_eq_true rfl) (m_Packs_has e35) ?_
        refine r_bif_eq h d_News_hearOwn_38 hf (fun hf => ?_) (fun hf => ?_)
        · refine r_iinc (ls' := [(4, .int (x4 + (1 : Int32))), (5, .int (σ.1 29 (Int32.toNatClampNeg x4))), (0, .ref (ya Z 35)), (1, .int x1), (2, .ref (ya Z 28)), (3, .ref (ya Z 21))]) h d_News_hearOwn_60 5 rfl ki_1 (by decide) rfl ?_
          refine r_goto h d_News_hearOwn_63 ?_
          refine r_sub h [2, 3, 4, 5, 0] rfl ?_
          exact ih _ _ hf
        · refine r_aload_n h d_News_hearOwn_41 1 rfl rfl ?_
          refine r_getR h fd_YC_35_1 cf_News fl_News_17 d_News_hearOwn_42 ?_
          refine r_aload_n h d_News_hearOwn_45 4 rfl rfl ?_
          refine r_getR h fd_YC_21_1 cf_Packs fl_News_79 d_News_hearOwn_46 ?_
          refine r_iload h d_News_hearOwn_49 0 rfl ?_
          refine r_iald h sh_YC_23 d_News_hearOwn_51 hf (fun hf => ?_)
          refine r_dup2 h d_News_hearOwn_52 rfl rfl ?_
          refine r_lald h sh_YC_37 d_News_hearOwn_53 hf (fun hf => ?_)
          refine r_lconst h d_News_hearOwn_54 kl_1 ?_
          refine r_iload h d_News_hearOwn_55 5 rfl ?_
          refine r_lshl h d_News_hearOwn_57 ?_
          refine r_lor h d_News_hearOwn_58 ?_
          refine r_last h sh_YC_37 d_News_hearOwn_59 hf (fun hf => ?_)
          refine r_iinc (ls' := [(4, .int (x4 + (1 : Int32))), (5, .int (σ.1 29 (Int32.toNatClampNeg x4))), (0, .ref (ya Z 35)), (1, .int x1), (2, .ref (ya Z 28)), (3, .ref (ya Z 21))]) h d_News_hearOwn_60 5 rfl ki_1 (by decide) rfl ?_
          refine r_goto h d_News_hearOwn_63 ?_
          refine r_sub h [2, 3, 4, 5, 0] rfl ?_
          exact ih _ _ hf

set_option maxHeartbeats 4000000 in
theorem m_News_hearOwn {Z : Sy} {σ : St} {res : St} {x1 : Int32} (hf : News_hearOwn x1 σ = some res) : Ct YC Z y_News_hearOwn c_News_hearOwn 6 none 3 [.ref (ya Z 35), .int x1, .ref (ya Z 28), .ref (ya Z 21)] σ none res := by
  refine Ct.of pn_News (Nat.le_of_ble_eq_true rfl) rfl (fun Γ h => ?_)
  have h : IsG YC Z R_News c_News_hearOwn 6 3 none none res Γ := h
  unfold News_hearOwn at hf
  refine r_iconst h d_News_hearOwn_0 ki_0 ?_
  refine r_istore (ls' := [(4, .int (0 : Int32)), (0, .ref (ya Z 35)), (1, .int x1), (2, .ref (ya Z 28)), (3, .ref (ya Z 21))]) h d_News_hearOwn_1 (by decide) rfl ?_
  refine r_sub h [1, 2, 3, 4, 0] rfl ?_
  exact w_News_hearOwn_L3 h _ _ _ hf

theorem d_News_stand_0 : decode c_News_stand 0 = .ok (.iconst 0, 1) ∧ 0 + 1 = 1 := by decide +kernel
theorem d_News_stand_1 : decode c_News_stand 1 = .ok (.istore_n 3, 1) ∧ 1 + 1 = 2 := by decide +kernel
theorem d_News_stand_2 : decode c_News_stand 2 = .ok (.iload_n 3, 1) ∧ 2 + 1 = 3 := by decide +kernel
theorem d_News_stand_3 : decode c_News_stand 3 = .ok (.bipush 6, 2) ∧ 3 + 2 = 5 := by decide +kernel
theorem d_News_stand_5 : decode c_News_stand 5 = .ok (.if_icmp .ge 17, 3) ∧ 5 + 3 = 8 ∧ ((5 : Nat) : Int) + 17 = ((22 : Nat) : Int) := by decide +kernel
theorem d_News_stand_8 : decode c_News_stand 8 = .ok (.aload_n 0, 1) ∧ 8 + 1 = 9 := by decide +kernel
theorem d_News_stand_9 : decode c_News_stand 9 = .ok (.getfield 24, 3) ∧ 9 + 3 = 12 := by decide +kernel
theorem d_News_stand_12 : decode c_News_stand 12 = .ok (.iload_n 3, 1) ∧ 12 + 1 = 13 := by decide +kernel
theorem d_News_stand_13 : decode c_News_stand 13 = .ok (.bipush (-9), 2) ∧ 13 + 2 = 15 := by decide +kernel
theorem d_News_stand_15 : decode c_News_stand 15 = .ok (.iastore, 1) ∧ 15 + 1 = 16 := by decide +kernel
theorem d_News_stand_16 : decode c_News_stand 16 = .ok (.iinc 3 1, 3) ∧ 16 + 3 = 19 := by decide +kernel
theorem d_News_stand_19 : decode c_News_stand 19 = .ok (.goto (-17), 3) ∧ (19 : Int) + (-17) = (2 : Int) := by decide +kernel
theorem d_News_stand_22 : decode c_News_stand 22 = .ok (.aload_n 0, 1) ∧ 22 + 1 = 23 := by decide +kernel
theorem d_News_stand_23 : decode c_News_stand 23 = .ok (.getfield 24, 3) ∧ 23 + 3 = 26 := by decide +kernel
theorem d_News_stand_26 : decode c_News_stand 26 = .ok (.bipush 6, 2) ∧ 26 + 2 = 28 := by decide +kernel
theorem d_News_stand_28 : decode c_News_stand 28 = .ok (.iconst 0, 1) ∧ 28 + 1 = 29 := by decide +kernel
theorem d_News_stand_29 : decode c_News_stand 29 = .ok (.iastore, 1) ∧ 29 + 1 = 30 := by decide +kernel
theorem d_News_stand_30 : decode c_News_stand 30 = .ok (.iconst 0, 1) ∧ 30 + 1 = 31 := by decide +kernel
theorem d_News_stand_31 : decode c_News_stand 31 = .ok (.istore_n 3, 1) ∧ 31 + 1 = 32 := by decide +kernel
theorem d_News_stand_32 : decode c_News_stand 32 = .ok (.iload_n 3, 1) ∧ 32 + 1 = 33 := by decide +kernel
theorem d_News_stand_33 : decode c_News_stand 33 = .ok (.aload_n 2, 1) ∧ 33 + 1 = 34 := by decide +kernel
theorem d_News_stand_34 : decode c_News_stand 34 = .ok (.getfield 38, 3) ∧ 34 + 3 = 37 := by decide +kernel
theorem d_News_stand_37 : decode c_News_stand 37 = .ok (.if_icmp .ge 35, 3) ∧ 37 + 3 = 40 ∧ ((37 : Nat) : Int) + 35 = ((72 : Nat) : Int) := by decide +kernel
theorem d_News_stand_40 : decode c_News_stand 40 = .ok (.aload_n 2, 1) ∧ 40 + 1 = 41 := by decide +kernel
theorem d_News_stand_41 : decode c_News_stand 41 = .ok (.iload_n 3, 1) ∧ 41 + 1 = 42 := by decide +kernel
theorem d_News_stand_42 : decode c_News_stand 42 = .ok (.iload_n 1, 1) ∧ 42 + 1 = 43 := by decide +kernel
theorem d_News_stand_43 : decode c_News_stand 43 = .ok (.invokevirtual 82, 3) ∧ 43 + 3 = 46 := by decide +kernel
theorem d_News_stand_46 : decode c_News_stand 46 = .ok (.ifCond .eq 20, 3) ∧ 46 + 3 = 49 ∧ ((46 : Nat) : Int) + 20 = ((66 : Nat) : Int) := by decide +kernel
theorem d_News_stand_49 : decode c_News_stand 49 = .ok (.aload_n 0, 1) ∧ 49 + 1 = 50 := by decide +kernel
theorem d_News_stand_50 : decode c_News_stand 50 = .ok (.getfield 24, 3) ∧ 50 + 3 = 53 := by decide +kernel
theorem d_News_stand_53 : decode c_News_stand 53 = .ok (.aload_n 2, 1) ∧ 53 + 1 = 54 := by decide +kernel
theorem d_News_stand_54 : decode c_News_stand 54 = .ok (.getfield 86, 3) ∧ 54 + 3 = 57 := by decide +kernel
theorem d_News_stand_57 : decode c_News_stand 57 = .ok (.iload_n 3, 1) ∧ 57 + 1 = 58 := by decide +kernel
theorem d_News_stand_58 : decode c_News_stand 58 = .ok (.iaload, 1) ∧ 58 + 1 = 59 := by decide +kernel
theorem d_News_stand_59 : decode c_News_stand 59 = .ok (.aload_n 2, 1) ∧ 59 + 1 = 60 := by decide +kernel
theorem d_News_stand_60 : decode c_News_stand 60 = .ok (.getfield 89, 3) ∧ 60 + 3 = 63 := by decide +kernel
theorem d_News_stand_63 : decode c_News_stand 63 = .ok (.iload_n 3, 1) ∧ 63 + 1 = 64 := by decide +kernel
theorem d_News_stand_64 : decode c_News_stand 64 = .ok (.iaload, 1) ∧ 64 + 1 = 65 := by decide +kernel
theorem d_News_stand_65 : decode c_News_stand 65 = .ok (.iastore, 1) ∧ 65 + 1 = 66 := by decide +kernel
theorem d_News_stand_66 : decode c_News_stand 66 = .ok (.iinc 3 1, 3) ∧ 66 + 3 = 69 := by decide +kernel
theorem d_News_stand_69 : decode c_News_stand 69 = .ok (.goto (-37), 3) ∧ (69 : Int) + (-37) = (32 : Int) := by decide +kernel
theorem d_News_stand_72 : decode c_News_stand 72 = .ok (.return_, 1) ∧ 72 + 1 = 73 := by decide +kernel
set_option maxHeartbeats 4000000 in
theorem w_News_stand_L32 {Z : Sy} {Γ : Nat → List (Nat × Value) → List Value → St → Prop} {res : St} {x1 : Int32} (h : IsG YC Z R_News c_News_stand 4 2 none none res Γ) : ∀ (n : Nat) (x3 : Int32) (σ : St), News_stand_L32 x1 n x3 σ = some res → Γ 32 [(0, .ref (ya Z 35)), (1, .int x1), (2, .ref (ya Z 6)), (3, .int x3)] [] σ := by
  intro n
  induction n with
  | zero => intro x3 σ hf; exact absurd hf (by simp [News_stand_L32])
  | succ n ih =>
    intro x3 σ hf
    rw [News_stand_L32] at hf
    refine r_iload_n h d_News_stand_32 3 rfl rfl ?_
    refine r_aload_n h d_News_stand_33 2 rfl rfl ?_
    refine r_getI h fd_YC_6_4 cf_Spans fl_News_38 d_News_stand_34 ?_
    refine r_icmp_ge h d_News_stand_37 hf (fun hf => ?_) (fun hf => ?_)
    · exact r_vreturn h d_News_stand_72.1 (Option.some.inj hf)
    · refine r_aload_n h d_News_stand_40 2 rfl rfl ?_
      refine r_iload_n h d_News_stand_41 3 rfl rfl ?_
      refine r_iload_n h d_News_stand_42 1 rfl rfl ?_
      obtain ⟨r43, e43, hf⟩ := q_bind hf
      refine r_callV (As := [.int x3, .int x1]) (rest := []) h sh_YC_6 lk_News_82 vk_News_82 d_News_stand_43 (by decide) rfl rfl (Nat.le_of_ble_eq_true rfl) (m_Spans_covers_stays e43) ?_
      refine r_bif_eq h d_News_stand_46 hf (fun hf => ?_) (fun hf => ?_)
      · refine r_iinc (ls' := [(3, .int (x3 + (1 : Int32))), (0, .ref (ya Z 35)), (1, .int x1), (2, .ref (ya Z 6))]) h d_News_stand_66 3 rfl ki_1 (by decide) rfl ?_
        refine r_goto h d_News_stand_69 ?_
        refine r_sub h [1, 2, 3, 0] rfl ?_
        exact ih _ _ hf
      · refine r_aload_n h d_News_stand_49 0 rfl rfl ?_
        refine r_getR h fd_YC_35_3 cf_News fl_News_24 d_News_stand_50 ?_
        refine r_aload_n h d_News_stand_53 2 rfl rfl ?_
        refine r_getR h fd_YC_6_0 cf_Spans fl_News_86 d_News_stand_54 ?_
        refine r_iload_n h d_News_stand_57 3 rfl rfl ?_
        refine r_iald h sh_YC_7 d_News_stand_58 hf (fun hf => ?_)
        refine r_aload_n h d_News_stand_59 2 rfl rfl ?_
        refine r_getR h fd_YC_6_1 cf_Spans fl_News_89 d_News_stand_60 ?_
        refine r_iload_n h d_News_stand_63 3 rfl rfl ?_
        refine r_iald h sh_YC_8 d_News_stand_64 hf (fun hf => ?_)
        refine r_iast h sh_YC_39 d_News_stand_65 hf (fun hf => ?_)
        refine r_iinc (ls' := [(3, .int (x3 + (1 : Int32))), (0, .ref (ya Z 35)), (1, .int x1), (2, .ref (ya Z 6))]) h d_News_stand_66 3 rfl ki_1 (by decide) rfl ?_
        refine r_goto h d_News_stand_69 ?_
        refine r_sub h [1, 2, 3, 0] rfl ?_
        exact ih _ _ hf

set_option maxHeartbeats 4000000 in
theorem w_News_stand_L2 {Z : Sy} {Γ : Nat → List (Nat × Value) → List Value → St → Prop} {res : St} {x1 : Int32} (h : IsG YC Z R_News c_News_stand 4 2 none none res Γ) : ∀ (n : Nat) (x3 : Int32) (σ : St), News_stand_L2 x1 n x3 σ = some res → Γ 2 [(0, .ref (ya Z 35)), (1, .int x1), (2, .ref (ya Z 6)), (3, .int x3)] [] σ := by
  intro n
  induction n with
  | zero => intro x3 σ hf; exact absurd hf (by simp [News_stand_L2])
  | succ n ih =>
    intro x3 σ hf
    rw [News_stand_L2] at hf
    refine r_iload_n h d_News_stand_2 3 rfl rfl ?_
    refine r_bipush h d_News_stand_3 kb_6 ?_
    refine r_icmp_ge h d_News_stand_5 hf (fun hf => ?_) (fun hf => ?_)
    · refine r_aload_n h d_News_stand_22 0 rfl rfl ?_
      refine r_getR h fd_YC_35_3 cf_News fl_News_24 d_News_stand_23 ?_
      refine r_bipush h d_News_stand_26 kb_6 ?_
      refine r_iconst h d_News_stand_28 ki_0 ?_
      refine r_iast h sh_YC_39 d_News_stand_29 hf (fun hf => ?_)
      refine r_iconst h d_News_stand_30 ki_0 ?_
      refine r_istore_n (ls' := [(3, .int (0 : Int32)), (0, .ref (ya Z 35)), (1, .int x1), (2, .ref (ya Z 6))]) h d_News_stand_31 rfl (by decide) rfl ?_
      refine r_sub h [1, 2, 3, 0] rfl ?_
      exact w_News_stand_L32 h _ _ _ hf
    · refine r_aload_n h d_News_stand_8 0 rfl rfl ?_
      refine r_getR h fd_YC_35_3 cf_News fl_News_24 d_News_stand_9 ?_
      refine r_iload_n h d_News_stand_12 3 rfl rfl ?_
      refine r_bipush h d_News_stand_13 kb_m9 ?_
      refine r_iast h sh_YC_39 d_News_stand_15 hf (fun hf => ?_)
      refine r_iinc (ls' := [(3, .int (x3 + (1 : Int32))), (0, .ref (ya Z 35)), (1, .int x1), (2, .ref (ya Z 6))]) h d_News_stand_16 3 rfl ki_1 (by decide) rfl ?_
      refine r_goto h d_News_stand_19 ?_
      refine r_sub h [1, 2, 3, 0] rfl ?_
      exact ih _ _ hf

set_option maxHeartbeats 4000000 in
theorem m_News_stand {Z : Sy} {σ : St} {res : St} {x1 : Int32} (hf : News_stand x1 σ = some res) : Ct YC Z y_News_stand c_News_stand 4 none 2 [.ref (ya Z 35), .int x1, .ref (ya Z 6)] σ none res := by
  refine Ct.of pn_News (Nat.le_of_ble_eq_true rfl) rfl (fun Γ h => ?_)
  have h : IsG YC Z R_News c_News_stand 4 2 none none res Γ := h
  unfold News_stand at hf
  refine r_iconst h d_News_stand_0 ki_0 ?_
  refine r_istore_n (ls' := [(3, .int (0 : Int32)), (0, .ref (ya Z 35)), (1, .int x1), (2, .ref (ya Z 6))]) h d_News_stand_1 rfl (by decide) rfl ?_
  refine r_sub h [1, 2, 3, 0] rfl ?_
  exact w_News_stand_L2 h _ _ _ hf

theorem d_News_speak_0 : decode c_News_speak 0 = .ok (.iconst 0, 1) ∧ 0 + 1 = 1 := by decide +kernel
theorem d_News_speak_1 : decode c_News_speak 1 = .ok (.istore_n 1, 1) ∧ 1 + 1 = 2 := by decide +kernel
theorem d_News_speak_2 : decode c_News_speak 2 = .ok (.iload_n 1, 1) ∧ 2 + 1 = 3 := by decide +kernel
theorem d_News_speak_3 : decode c_News_speak 3 = .ok (.bipush 7, 2) ∧ 3 + 2 = 5 := by decide +kernel
theorem d_News_speak_5 : decode c_News_speak 5 = .ok (.if_icmp .ge 78, 3) ∧ 5 + 3 = 8 ∧ ((5 : Nat) : Int) + 78 = ((83 : Nat) : Int) := by decide +kernel
theorem d_News_speak_8 : decode c_News_speak 8 = .ok (.aload_n 0, 1) ∧ 8 + 1 = 9 := by decide +kernel
theorem d_News_speak_9 : decode c_News_speak 9 = .ok (.getfield 24, 3) ∧ 9 + 3 = 12 := by decide +kernel
theorem d_News_speak_12 : decode c_News_speak 12 = .ok (.iload_n 1, 1) ∧ 12 + 1 = 13 := by decide +kernel
theorem d_News_speak_13 : decode c_News_speak 13 = .ok (.iaload, 1) ∧ 13 + 1 = 14 := by decide +kernel
theorem d_News_speak_14 : decode c_News_speak 14 = .ok (.bipush (-9), 2) ∧ 14 + 2 = 16 := by decide +kernel
theorem d_News_speak_16 : decode c_News_speak 16 = .ok (.if_icmp .eq 61, 3) ∧ 16 + 3 = 19 ∧ ((16 : Nat) : Int) + 61 = ((77 : Nat) : Int) := by decide +kernel
theorem d_News_speak_19 : decode c_News_speak 19 = .ok (.aload_n 0, 1) ∧ 19 + 1 = 20 := by decide +kernel
theorem d_News_speak_20 : decode c_News_speak 20 = .ok (.getfield 17, 3) ∧ 20 + 3 = 23 := by decide +kernel
theorem d_News_speak_23 : decode c_News_speak 23 = .ok (.iload_n 1, 1) ∧ 23 + 1 = 24 := by decide +kernel
theorem d_News_speak_24 : decode c_News_speak 24 = .ok (.laload, 1) ∧ 24 + 1 = 25 := by decide +kernel
theorem d_News_speak_25 : decode c_News_speak 25 = .ok (.lconst 0, 1) ∧ 25 + 1 = 26 := by decide +kernel
theorem d_News_speak_26 : decode c_News_speak 26 = .ok (.lcmp, 1) ∧ 26 + 1 = 27 := by decide +kernel
theorem d_News_speak_27 : decode c_News_speak 27 = .ok (.ifCond .ne 6, 3) ∧ 27 + 3 = 30 ∧ ((27 : Nat) : Int) + 6 = ((33 : Nat) : Int) := by decide +kernel
theorem d_News_speak_30 : decode c_News_speak 30 = .ok (.goto 47, 3) ∧ (30 : Int) + 47 = (77 : Int) := by decide +kernel
theorem d_News_speak_33 : decode c_News_speak 33 = .ok (.iconst 0, 1) ∧ 33 + 1 = 34 := by decide +kernel
theorem d_News_speak_34 : decode c_News_speak 34 = .ok (.istore_n 2, 1) ∧ 34 + 1 = 35 := by decide +kernel
theorem d_News_speak_35 : decode c_News_speak 35 = .ok (.iload_n 2, 1) ∧ 35 + 1 = 36 := by decide +kernel
theorem d_News_speak_36 : decode c_News_speak 36 = .ok (.bipush 7, 2) ∧ 36 + 2 = 38 := by decide +kernel
theorem d_News_speak_38 : decode c_News_speak 38 = .ok (.if_icmp .ge 39, 3) ∧ 38 + 3 = 41 ∧ ((38 : Nat) : Int) + 39 = ((77 : Nat) : Int) := by decide +kernel
theorem d_News_speak_41 : decode c_News_speak 41 = .ok (.aload_n 0, 1) ∧ 41 + 1 = 42 := by decide +kernel
theorem d_News_speak_42 : decode c_News_speak 42 = .ok (.getfield 24, 3) ∧ 42 + 3 = 45 := by decide +kernel
theorem d_News_speak_45 : decode c_News_speak 45 = .ok (.iload_n 2, 1) ∧ 45 + 1 = 46 := by decide +kernel
theorem d_News_speak_46 : decode c_News_speak 46 = .ok (.iaload, 1) ∧ 46 + 1 = 47 := by decide +kernel
theorem d_News_speak_47 : decode c_News_speak 47 = .ok (.aload_n 0, 1) ∧ 47 + 1 = 48 := by decide +kernel
theorem d_News_speak_48 : decode c_News_speak 48 = .ok (.getfield 24, 3) ∧ 48 + 3 = 51 := by decide +kernel
theorem d_News_speak_51 : decode c_News_speak 51 = .ok (.iload_n 1, 1) ∧ 51 + 1 = 52 := by decide +kernel
theorem d_News_speak_52 : decode c_News_speak 52 = .ok (.iaload, 1) ∧ 52 + 1 = 53 := by decide +kernel
theorem d_News_speak_53 : decode c_News_speak 53 = .ok (.if_icmp .ne 18, 3) ∧ 53 + 3 = 56 ∧ ((53 : Nat) : Int) + 18 = ((71 : Nat) : Int) := by decide +kernel
theorem d_News_speak_56 : decode c_News_speak 56 = .ok (.aload_n 0, 1) ∧ 56 + 1 = 57 := by decide +kernel
theorem d_News_speak_57 : decode c_News_speak 57 = .ok (.getfield 17, 3) ∧ 57 + 3 = 60 := by decide +kernel
theorem d_News_speak_60 : decode c_News_speak 60 = .ok (.iload_n 2, 1) ∧ 60 + 1 = 61 := by decide +kernel
theorem d_News_speak_61 : decode c_News_speak 61 = .ok (.dup2, 1) ∧ 61 + 1 = 62 := by decide +kernel
theorem d_News_speak_62 : decode c_News_speak 62 = .ok (.laload, 1) ∧ 62 + 1 = 63 := by decide +kernel
theorem d_News_speak_63 : decode c_News_speak 63 = .ok (.aload_n 0, 1) ∧ 63 + 1 = 64 := by decide +kernel
theorem d_News_speak_64 : decode c_News_speak 64 = .ok (.getfield 17, 3) ∧ 64 + 3 = 67 := by decide +kernel
theorem d_News_speak_67 : decode c_News_speak 67 = .ok (.iload_n 1, 1) ∧ 67 + 1 = 68 := by decide +kernel
theorem d_News_speak_68 : decode c_News_speak 68 = .ok (.laload, 1) ∧ 68 + 1 = 69 := by decide +kernel
theorem d_News_speak_69 : decode c_News_speak 69 = .ok (.lor, 1) ∧ 69 + 1 = 70 := by decide +kernel
theorem d_News_speak_70 : decode c_News_speak 70 = .ok (.lastore, 1) ∧ 70 + 1 = 71 := by decide +kernel
theorem d_News_speak_71 : decode c_News_speak 71 = .ok (.iinc 2 1, 3) ∧ 71 + 3 = 74 := by decide +kernel
theorem d_News_speak_74 : decode c_News_speak 74 = .ok (.goto (-39), 3) ∧ (74 : Int) + (-39) = (35 : Int) := by decide +kernel
theorem d_News_speak_77 : decode c_News_speak 77 = .ok (.iinc 1 1, 3) ∧ 77 + 3 = 80 := by decide +kernel
theorem d_News_speak_80 : decode c_News_speak 80 = .ok (.goto (-78), 3) ∧ (80 : Int) + (-78) = (2 : Int) := by decide +kernel
theorem d_News_speak_83 : decode c_News_speak 83 = .ok (.return_, 1) ∧ 83 + 1 = 84 := by decide +kernel
set_option maxHeartbeats 4000000 in
theorem w_News_speak_L35 {Z : Sy} {Γ : Nat → List (Nat × Value) → List Value → St → Prop} {res : St} {x1 : Int32} {k2 : Int32 → St → Option St} (h : IsG YC Z R_News c_News_speak 3 1 none none res Γ) (hk2 : ∀ (x1 : Int32) (σ : St), k2 x1 σ = some res → Γ 2 [(0, .ref (ya Z 35)), (1, .int x1)] [] σ) : ∀ (n : Nat) (x2 : Int32) (σ : St), News_speak_L35 x1 k2 n x2 σ = some res → Γ 35 [(0, .ref (ya Z 35)), (1, .int x1), (2, .int x2)] [] σ := by
  intro n
  induction n with
  | zero => intro x2 σ hf; exact absurd hf (by simp [News_speak_L35])
  | succ n ih =>
    intro x2 σ hf
    rw [News_speak_L35] at hf
    refine r_iload_n h d_News_speak_35 2 rfl rfl ?_
    refine r_bipush h d_News_speak_36 kb_7 ?_
    refine r_icmp_ge h d_News_speak_38 hf (fun hf => ?_) (fun hf => ?_)
    · refine r_iinc (ls' := [(1, .int (x1 + (1 : Int32))), (0, .ref (ya Z 35)), (2, .int x2)]) h d_News_speak_77 1 rfl ki_1 (by decide) rfl ?_
      refine r_goto h d_News_speak_80 ?_
      refine r_sub h [1, 0] rfl ?_
      exact hk2 _ _ hf
    · refine r_aload_n h d_News_speak_41 0 rfl rfl ?_
      refine r_getR h fd_YC_35_3 cf_News fl_News_24 d_News_speak_42 ?_
      refine r_iload_n h d_News_speak_45 2 rfl rfl ?_
      refine r_iald h sh_YC_39 d_News_speak_46 hf (fun hf => ?_)
      refine r_aload_n h d_News_speak_47 0 rfl rfl ?_
      refine r_getR h fd_YC_35_3 cf_News fl_News_24 d_News_speak_48 ?_
      refine r_iload_n h d_News_speak_51 1 rfl rfl ?_
      refine r_iald h sh_YC_39 d_News_speak_52 hf (fun hf => ?_)
      refine r_icmp_ne h d_News_speak_53 hf (fun hf => ?_) (fun hf => ?_)
      · refine r_iinc (ls' := [(2, .int (x2 + (1 : Int32))), (0, .ref (ya Z 35)), (1, .int x1)]) h d_News_speak_71 2 rfl ki_1 (by decide) rfl ?_
        refine r_goto h d_News_speak_74 ?_
        refine r_sub h [1, 2, 0] rfl ?_
        exact ih _ _ hf
      · refine r_aload_n h d_News_speak_56 0 rfl rfl ?_
        refine r_getR h fd_YC_35_1 cf_News fl_News_17 d_News_speak_57 ?_
        refine r_iload_n h d_News_speak_60 2 rfl rfl ?_
        refine r_dup2 h d_News_speak_61 rfl rfl ?_
        refine r_lald h sh_YC_37 d_News_speak_62 hf (fun hf => ?_)
        refine r_aload_n h d_News_speak_63 0 rfl rfl ?_
        refine r_getR h fd_YC_35_1 cf_News fl_News_17 d_News_speak_64 ?_
        refine r_iload_n h d_News_speak_67 1 rfl rfl ?_
        refine r_lald h sh_YC_37 d_News_speak_68 hf (fun hf => ?_)
        refine r_lor h d_News_speak_69 ?_
        refine r_last h sh_YC_37 d_News_speak_70 hf (fun hf => ?_)
        refine r_iinc (ls' := [(2, .int (x2 + (1 : Int32))), (0, .ref (ya Z 35)), (1, .int x1)]) h d_News_speak_71 2 rfl ki_1 (by decide) rfl ?_
        refine r_goto h d_News_speak_74 ?_
        refine r_sub h [1, 2, 0] rfl ?_
        exact ih _ _ hf

set_option maxHeartbeats 4000000 in
theorem w_News_speak_L2 {Z : Sy} {Γ : Nat → List (Nat × Value) → List Value → St → Prop} {res : St} (h : IsG YC Z R_News c_News_speak 3 1 none none res Γ) : ∀ (n : Nat) (x1 : Int32) (σ : St), News_speak_L2 n x1 σ = some res → Γ 2 [(0, .ref (ya Z 35)), (1, .int x1)] [] σ := by
  intro n
  induction n with
  | zero => intro x1 σ hf; exact absurd hf (by simp [News_speak_L2])
  | succ n ih =>
    intro x1 σ hf
    rw [News_speak_L2] at hf
    refine r_iload_n h d_News_speak_2 1 rfl rfl ?_
    refine r_bipush h d_News_speak_3 kb_7 ?_
    refine r_icmp_ge h d_News_speak_5 hf (fun hf => ?_) (fun hf => ?_)
    · exact r_vreturn h d_News_speak_83.1 (Option.some.inj hf)
    · refine r_aload_n h d_News_speak_8 0 rfl rfl ?_
      refine r_getR h fd_YC_35_3 cf_News fl_News_24 d_News_speak_9 ?_
      refine r_iload_n h d_News_speak_12 1 rfl rfl ?_
      refine r_iald h sh_YC_39 d_News_speak_13 hf (fun hf => ?_)
      refine r_bipush h d_News_speak_14 kb_m9 ?_
      refine r_icmp_eq h d_News_speak_16 hf (fun hf => ?_) (fun hf => ?_)
      · refine r_iinc (ls' := [(1, .int (x1 + (1 : Int32))), (0, .ref (ya Z 35))]) h d_News_speak_77 1 rfl ki_1 (by decide) rfl ?_
        refine r_goto h d_News_speak_80 ?_
        refine r_sub h [1, 0] rfl ?_
        exact ih _ _ hf
      · refine r_aload_n h d_News_speak_19 0 rfl rfl ?_
        refine r_getR h fd_YC_35_1 cf_News fl_News_17 d_News_speak_20 ?_
        refine r_iload_n h d_News_speak_23 1 rfl rfl ?_
        refine r_lald h sh_YC_37 d_News_speak_24 hf (fun hf => ?_)
        refine r_lconst h d_News_speak_25 kl_0 ?_
        refine r_lif_ne h d_News_speak_26 d_News_speak_27 hf (fun hf => ?_) (fun hf => ?_)
        · refine r_iconst h d_News_speak_33 ki_0 ?_
          refine r_istore_n (ls' := [(2, .int (0 : Int32)), (0, .ref (ya Z 35)), (1, .int x1)]) h d_News_speak_34 rfl (by decide) rfl ?_
          refine r_sub h [1, 2, 0] rfl ?_
          exact w_News_speak_L35 h (fun y1 τ hf => ih y1 τ hf) _ _ _ hf
        · refine r_goto h d_News_speak_30 ?_
          refine r_iinc (ls' := [(1, .int (x1 + (1 : Int32))), (0, .ref (ya Z 35))]) h d_News_speak_77 1 rfl ki_1 (by decide) rfl ?_
          refine r_goto h d_News_speak_80 ?_
          refine r_sub h [1, 0] rfl ?_
          exact ih _ _ hf

set_option maxHeartbeats 4000000 in
theorem m_News_speak {Z : Sy} {σ : St} {res : St} (hf : News_speak  σ = some res) : Ct YC Z y_News_speak c_News_speak 3 none 1 [.ref (ya Z 35)] σ none res := by
  refine Ct.of pn_News (Nat.le_of_ble_eq_true rfl) rfl (fun Γ h => ?_)
  have h : IsG YC Z R_News c_News_speak 3 1 none none res Γ := h
  unfold News_speak at hf
  refine r_iconst h d_News_speak_0 ki_0 ?_
  refine r_istore_n (ls' := [(1, .int (0 : Int32)), (0, .ref (ya Z 35))]) h d_News_speak_1 rfl (by decide) rfl ?_
  refine r_sub h [1, 0] rfl ?_
  exact w_News_speak_L2 h _ _ _ hf

