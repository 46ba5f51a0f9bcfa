theorem d_Owed_payOut_0 : decode c_Owed_payOut 0 = .ok (.aload_n 0, 1) ∧ 0 + 1 = 1 := by decide +kernel
theorem d_Owed_payOut_1 : decode c_Owed_payOut 1 = .ok (.getfield 19, 3) ∧ 1 + 3 = 4 := by decide +kernel
theorem d_Owed_payOut_4 : decode c_Owed_payOut 4 = .ok (.iload_n 1, 1) ∧ 4 + 1 = 5 := by decide +kernel
theorem d_Owed_payOut_5 : decode c_Owed_payOut 5 = .ok (.iaload, 1) ∧ 5 + 1 = 6 := by decide +kernel
theorem d_Owed_payOut_6 : decode c_Owed_payOut 6 = .ok (.istore_n 2, 1) ∧ 6 + 1 = 7 := by decide +kernel
theorem d_Owed_payOut_7 : decode c_Owed_payOut 7 = .ok (.iconst 0, 1) ∧ 7 + 1 = 8 := by decide +kernel
theorem d_Owed_payOut_8 : decode c_Owed_payOut 8 = .ok (.istore_n 3, 1) ∧ 8 + 1 = 9 := by decide +kernel
theorem d_Owed_payOut_9 : decode c_Owed_payOut 9 = .ok (.iconst 0, 1) ∧ 9 + 1 = 10 := by decide +kernel
theorem d_Owed_payOut_10 : decode c_Owed_payOut 10 = .ok (.istore 4, 2) ∧ 10 + 2 = 12 := by decide +kernel
theorem d_Owed_payOut_12 : decode c_Owed_payOut 12 = .ok (.iload 4, 2) ∧ 12 + 2 = 14 := by decide +kernel
theorem d_Owed_payOut_14 : decode c_Owed_payOut 14 = .ok (.bipush 10, 2) ∧ 14 + 2 = 16 := by decide +kernel
theorem d_Owed_payOut_16 : decode c_Owed_payOut 16 = .ok (.if_icmp .ge 39, 3) ∧ 16 + 3 = 19 ∧ ((16 : Nat) : Int) + 39 = ((55 : Nat) : Int) := by decide +kernel
theorem d_Owed_payOut_19 : decode c_Owed_payOut 19 = .ok (.iload_n 2, 1) ∧ 19 + 1 = 20 := by decide +kernel
theorem d_Owed_payOut_20 : decode c_Owed_payOut 20 = .ok (.aload_n 0, 1) ∧ 20 + 1 = 21 := by decide +kernel
theorem d_Owed_payOut_21 : decode c_Owed_payOut 21 = .ok (.getfield 13, 3) ∧ 21 + 3 = 24 := by decide +kernel
theorem d_Owed_payOut_24 : decode c_Owed_payOut 24 = .ok (.iload 4, 2) ∧ 24 + 2 = 26 := by decide +kernel
theorem d_Owed_payOut_26 : decode c_Owed_payOut 26 = .ok (.bipush 10, 2) ∧ 26 + 2 = 28 := by decide +kernel
theorem d_Owed_payOut_28 : decode c_Owed_payOut 28 = .ok (.imul, 1) ∧ 28 + 1 = 29 := by decide +kernel
theorem d_Owed_payOut_29 : decode c_Owed_payOut 29 = .ok (.iload_n 1, 1) ∧ 29 + 1 = 30 := by decide +kernel
theorem d_Owed_payOut_30 : decode c_Owed_payOut 30 = .ok (.iadd, 1) ∧ 30 + 1 = 31 := by decide +kernel
theorem d_Owed_payOut_31 : decode c_Owed_payOut 31 = .ok (.iaload, 1) ∧ 31 + 1 = 32 := by decide +kernel
theorem d_Owed_payOut_32 : decode c_Owed_payOut 32 = .ok (.iadd, 1) ∧ 32 + 1 = 33 := by decide +kernel
theorem d_Owed_payOut_33 : decode c_Owed_payOut 33 = .ok (.istore_n 2, 1) ∧ 33 + 1 = 34 := by decide +kernel
theorem d_Owed_payOut_34 : decode c_Owed_payOut 34 = .ok (.iload_n 3, 1) ∧ 34 + 1 = 35 := by decide +kernel
theorem d_Owed_payOut_35 : decode c_Owed_payOut 35 = .ok (.aload_n 0, 1) ∧ 35 + 1 = 36 := by decide +kernel
theorem d_Owed_payOut_36 : decode c_Owed_payOut 36 = .ok (.getfield 9, 3) ∧ 36 + 3 = 39 := by decide +kernel
theorem d_Owed_payOut_39 : decode c_Owed_payOut 39 = .ok (.iload_n 1, 1) ∧ 39 + 1 = 40 := by decide +kernel
theorem d_Owed_payOut_40 : decode c_Owed_payOut 40 = .ok (.bipush 10, 2) ∧ 40 + 2 = 42 := by decide +kernel
theorem d_Owed_payOut_42 : decode c_Owed_payOut 42 = .ok (.imul, 1) ∧ 42 + 1 = 43 := by decide +kernel
theorem d_Owed_payOut_43 : decode c_Owed_payOut 43 = .ok (.iload 4, 2) ∧ 43 + 2 = 45 := by decide +kernel
theorem d_Owed_payOut_45 : decode c_Owed_payOut 45 = .ok (.iadd, 1) ∧ 45 + 1 = 46 := by decide +kernel
theorem d_Owed_payOut_46 : decode c_Owed_payOut 46 = .ok (.iaload, 1) ∧ 46 + 1 = 47 := by decide +kernel
theorem d_Owed_payOut_47 : decode c_Owed_payOut 47 = .ok (.iadd, 1) ∧ 47 + 1 = 48 := by decide +kernel
theorem d_Owed_payOut_48 : decode c_Owed_payOut 48 = .ok (.istore_n 3, 1) ∧ 48 + 1 = 49 := by decide +kernel
theorem d_Owed_payOut_49 : decode c_Owed_payOut 49 = .ok (.iinc 4 1, 3) ∧ 49 + 3 = 52 := by decide +kernel
theorem d_Owed_payOut_52 : decode c_Owed_payOut 52 = .ok (.goto (-40), 3) ∧ (52 : Int) + (-40) = (12 : Int) := by decide +kernel
theorem d_Owed_payOut_55 : decode c_Owed_payOut 55 = .ok (.iload_n 2, 1) ∧ 55 + 1 = 56 := by decide +kernel
theorem d_Owed_payOut_56 : decode c_Owed_payOut 56 = .ok (.iload_n 3, 1) ∧ 56 + 1 = 57 := by decide +kernel
theorem d_Owed_payOut_57 : decode c_Owed_payOut 57 = .ok (.if_icmp .lt 25, 3) ∧ 57 + 3 = 60 ∧ ((57 : Nat) : Int) + 25 = ((82 : Nat) : Int) := by decide +kernel
theorem d_Owed_payOut_60 : decode c_Owed_payOut 60 = .ok (.aload_n 0, 1) ∧ 60 + 1 = 61 := by decide +kernel
theorem d_Owed_payOut_61 : decode c_Owed_payOut 61 = .ok (.getfield 9, 3) ∧ 61 + 3 = 64 := by decide +kernel
theorem d_Owed_payOut_64 : decode c_Owed_payOut 64 = .ok (.iload_n 1, 1) ∧ 64 + 1 = 65 := by decide +kernel
theorem d_Owed_payOut_65 : decode c_Owed_payOut 65 = .ok (.bipush 10, 2) ∧ 65 + 2 = 67 := by decide +kernel
theorem d_Owed_payOut_67 : decode c_Owed_payOut 67 = .ok (.imul, 1) ∧ 67 + 1 = 68 := by decide +kernel
theorem d_Owed_payOut_68 : decode c_Owed_payOut 68 = .ok (.aload_n 0, 1) ∧ 68 + 1 = 69 := by decide +kernel
theorem d_Owed_payOut_69 : decode c_Owed_payOut 69 = .ok (.getfield 16, 3) ∧ 69 + 3 = 72 := by decide +kernel
theorem d_Owed_payOut_72 : decode c_Owed_payOut 72 = .ok (.iload_n 1, 1) ∧ 72 + 1 = 73 := by decide +kernel
theorem d_Owed_payOut_73 : decode c_Owed_payOut 73 = .ok (.bipush 10, 2) ∧ 73 + 2 = 75 := by decide +kernel
theorem d_Owed_payOut_75 : decode c_Owed_payOut 75 = .ok (.imul, 1) ∧ 75 + 1 = 76 := by decide +kernel
theorem d_Owed_payOut_76 : decode c_Owed_payOut 76 = .ok (.bipush 10, 2) ∧ 76 + 2 = 78 := by decide +kernel
theorem d_Owed_payOut_78 : decode c_Owed_payOut 78 = .ok (.invokestatic 56, 3) ∧ 78 + 3 = 81 := by decide +kernel
theorem d_Owed_payOut_81 : decode c_Owed_payOut 81 = .ok (.return_, 1) ∧ 81 + 1 = 82 := by decide +kernel
theorem d_Owed_payOut_82 : decode c_Owed_payOut 82 = .ok (.iconst 0, 1) ∧ 82 + 1 = 83 := by decide +kernel
theorem d_Owed_payOut_83 : decode c_Owed_payOut 83 = .ok (.istore 4, 2) ∧ 83 + 2 = 85 := by decide +kernel
theorem d_Owed_payOut_85 : decode c_Owed_payOut 85 = .ok (.iload 4, 2) ∧ 85 + 2 = 87 := by decide +kernel
theorem d_Owed_payOut_87 : decode c_Owed_payOut 87 = .ok (.iconst 3, 1) ∧ 87 + 1 = 88 := by decide +kernel
theorem d_Owed_payOut_88 : decode c_Owed_payOut 88 = .ok (.if_icmp .ge 18, 3) ∧ 88 + 3 = 91 ∧ ((88 : Nat) : Int) + 18 = ((106 : Nat) : Int) := by decide +kernel
theorem d_Owed_payOut_91 : decode c_Owed_payOut 91 = .ok (.aload_n 0, 1) ∧ 91 + 1 = 92 := by decide +kernel
theorem d_Owed_payOut_92 : decode c_Owed_payOut 92 = .ok (.iload_n 1, 1) ∧ 92 + 1 = 93 := by decide +kernel
theorem d_Owed_payOut_93 : decode c_Owed_payOut 93 = .ok (.iload 4, 2) ∧ 93 + 2 = 95 := by decide +kernel
theorem d_Owed_payOut_95 : decode c_Owed_payOut 95 = .ok (.iload_n 2, 1) ∧ 95 + 1 = 96 := by decide +kernel
theorem d_Owed_payOut_96 : decode c_Owed_payOut 96 = .ok (.invokevirtual 70, 3) ∧ 96 + 3 = 99 := by decide +kernel
theorem d_Owed_payOut_99 : decode c_Owed_payOut 99 = .ok (.istore_n 2, 1) ∧ 99 + 1 = 100 := by decide +kernel
theorem d_Owed_payOut_100 : decode c_Owed_payOut 100 = .ok (.iinc 4 1, 3) ∧ 100 + 3 = 103 := by decide +kernel
theorem d_Owed_payOut_103 : decode c_Owed_payOut 103 = .ok (.goto (-18), 3) ∧ (103 : Int) + (-18) = (85 : Int) := by decide +kernel
theorem d_Owed_payOut_106 : decode c_Owed_payOut 106 = .ok (.return_, 1) ∧ 106 + 1 = 107 := by decide +kernel
set_option maxHeartbeats 4000000 in
theorem w_Owed_payOut_L85 {Z : Sy} {Γ : Nat → List (Nat × Value) → List Value → St → Prop} {res : St} {x1 : Int32} (h : IsG YC Z R_Owed c_Owed_payOut 5 2 none none res Γ) : ∀ (n : Nat) (x2 : Int32) (x4 : Int32) (σ : St), Owed_payOut_L85 x1 n x2 x4 σ = some res → Γ 85 [(0, .ref (ya Z 57)), (1, .int x1), (2, .int x2), (4, .int x4)] [] σ := by
  intro n
  induction n with
  | zero => intro x2 x4 σ hf; exact absurd hf (by simp [Owed_payOut_L85])
  | succ n ih =>
    intro x2 x4 σ hf
    rw [Owed_payOut_L85] at hf
    refine r_iload h d_Owed_payOut_85 3 rfl ?_
    refine r_iconst h d_Owed_payOut_87 ki_3 ?_
    refine r_icmp_ge h d_Owed_payOut_88 hf (fun hf => ?_) (fun hf => ?_)
    · exact r_vreturn h d_Owed_payOut_106.1 (Option.some.inj hf)
    · refine r_aload_n h d_Owed_payOut_91 0 rfl rfl ?_
      refine r_iload_n h d_Owed_payOut_92 1 rfl rfl ?_
      refine r_iload h d_Owed_payOut_93 3 rfl ?_
      refine r_iload_n h d_Owed_payOut_95 2 rfl rfl ?_
      obtain ⟨q96, e96, hf⟩ := q_bind hf
      refine r_callV (As := [.int x1, .int x4, .int x2]) (rest := []) h sh_YC_57 lk_Owed_70 vk_Owed_70 d_Owed_payOut_96 (by decide) rfl rfl (Nat.le_of_ble_eq_true rfl) (m_Owed_payRank e96) ?_
      refine r_istore_n (ls' := [(2, .int q96.1), (0, .ref (ya Z 57)), (1, .int x1), (4, .int x4)]) h d_Owed_payOut_99 rfl (by decide) rfl ?_
      refine r_iinc (ls' := [(4, .int (x4 + (1 : Int32))), (2, .int q96.1), (0, .ref (ya Z 57)), (1, .int x1)]) h d_Owed_payOut_100 3 rfl ki_1 (by decide) rfl ?_
      refine r_goto h d_Owed_payOut_103 ?_
      refine r_sub h [2, 3, 1, 0] rfl ?_
      exact ih _ _ _ hf

set_option maxHeartbeats 4000000 in
theorem w_Owed_payOut_L12 {Z : Sy} {Γ : Nat → List (Nat × Value) → List Value → St → Prop} {res : St} {x1 : Int32} {σ : St} (h : IsG YC Z R_Owed c_Owed_payOut 5 2 none none res Γ) : ∀ (n : Nat) (x2 : Int32) (x3 : Int32) (x4 : Int32), Owed_payOut_L12 x1 σ n x2 x3 x4 = some res → Γ 12 [(0, .ref (ya Z 57)), (1, .int x1), (2, .int x2), (3, .int x3), (4, .int x4)] [] σ := by
  intro n
  induction n with
  | zero => intro x2 x3 x4 hf; exact absurd hf (by simp [Owed_payOut_L12])
  | succ n ih =>
    intro x2 x3 x4 hf
    rw [Owed_payOut_L12] at hf
    refine r_iload h d_Owed_payOut_12 4 rfl ?_
    refine r_bipush h d_Owed_payOut_14 kb_10 ?_
    refine r_icmp_ge h d_Owed_payOut_16 hf (fun hf => ?_) (fun hf => ?_)
    · refine r_iload_n h d_Owed_payOut_55 2 rfl rfl ?_
      refine r_iload_n h d_Owed_payOut_56 3 rfl rfl ?_
      refine r_icmp_lt h d_Owed_payOut_57 hf (fun hf => ?_) (fun hf => ?_)
      · refine r_iconst h d_Owed_payOut_82 ki_0 ?_
        refine r_istore (ls' := [(4, .int (0 : Int32)), (0, .ref (ya Z 57)), (1, .int x1), (2, .int x2), (3, .int x3)]) h d_Owed_payOut_83 (by decide) rfl ?_
        refine r_sub h [1, 2, 3, 0] rfl ?_
        exact w_Owed_payOut_L85 h _ _ _ _ hf
      · refine r_aload_n h d_Owed_payOut_60 0 rfl rfl ?_
        refine r_getR h fd_YC_57_0 cf_Owed fl_Owed_9 d_Owed_payOut_61 ?_
        refine r_iload_n h d_Owed_payOut_64 1 rfl rfl ?_
        refine r_bipush h d_Owed_payOut_65 kb_10 ?_
        refine r_imul h d_Owed_payOut_67 ?_
        refine r_aload_n h d_Owed_payOut_68 0 rfl rfl ?_
        refine r_getR h fd_YC_57_2 cf_Owed fl_Owed_16 d_Owed_payOut_69 ?_
        refine r_iload_n h d_Owed_payOut_72 1 rfl rfl ?_
        refine r_bipush h d_Owed_payOut_73 kb_10 ?_
        refine r_imul h d_Owed_payOut_75 ?_
        refine r_bipush h d_Owed_payOut_76 kb_10 ?_
        refine r_acopy h sh_YC_58 sh_YC_60 ⟨tm_952, tm_954, tm_953, tm_93⟩ (by decide) rfl d_Owed_payOut_78 hf (fun hf => ?_)
        exact r_vreturn h d_Owed_payOut_81.1 (Option.some.inj hf)
    · refine r_iload_n h d_Owed_payOut_19 2 rfl rfl ?_
      refine r_aload_n h d_Owed_payOut_20 0 rfl rfl ?_
      refine r_getR h fd_YC_57_1 cf_Owed fl_Owed_13 d_Owed_payOut_21 ?_
      refine r_iload h d_Owed_payOut_24 4 rfl ?_
      refine r_bipush h d_Owed_payOut_26 kb_10 ?_
      refine r_imul h d_Owed_payOut_28 ?_
      refine r_iload_n h d_Owed_payOut_29 1 rfl rfl ?_
      refine r_iadd h d_Owed_payOut_30 ?_
      refine r_iald h sh_YC_59 d_Owed_payOut_31 hf (fun hf => ?_)
      refine r_iadd h d_Owed_payOut_32 ?_
      refine r_istore_n (ls' := [(2, .int (x2 + (σ.1 59 (Int32.toNatClampNeg ((x4 * (10 : Int32)) + x1))))), (0, .ref (ya Z 57)), (1, .int x1), (3, .int x3), (4, .int x4)]) h d_Owed_payOut_33 rfl (by decide) rfl ?_
      refine r_iload_n h d_Owed_payOut_34 3 rfl rfl ?_
      refine r_aload_n h d_Owed_payOut_35 1 rfl rfl ?_
      refine r_getR h fd_YC_57_0 cf_Owed fl_Owed_9 d_Owed_payOut_36 ?_
      refine r_iload_n h d_Owed_payOut_39 2 rfl rfl ?_
      refine r_bipush h d_Owed_payOut_40 kb_10 ?_
      refine r_imul h d_Owed_payOut_42 ?_
      refine r_iload h d_Owed_payOut_43 4 rfl ?_
      refine r_iadd h d_Owed_payOut_45 ?_
      refine r_iald h sh_YC_58 d_Owed_payOut_46 hf (fun hf => ?_)
      refine r_iadd h d_Owed_payOut_47 ?_
      refine r_istore_n (ls' := [(3, .int (x3 + (σ.1 58 (Int32.toNatClampNeg ((x1 * (10 : Int32)) + x4))))), (2, .int (x2 + (σ.1 59 (Int32.toNatClampNeg ((x4 * (10 : Int32)) + x1))))), (0, .ref (ya Z 57)), (1, .int x1), (4, .int x4)]) h d_Owed_payOut_48 rfl (by decide) rfl ?_
      refine r_iinc (ls' := [(4, .int (x4 + (1 : Int32))), (3, .int (x3 + (σ.1 58 (Int32.toNatClampNeg ((x1 * (10 : Int32)) + x4))))), (2, .int (x2 + (σ.1 59 (Int32.toNatClampNeg ((x4 * (10 : Int32)) + x1))))), (0, .ref (ya Z 57)), (1, .int x1)]) h d_Owed_payOut_49 4 rfl ki_1 (by decide) rfl ?_
      refine r_goto h d_Owed_payOut_52 ?_
      refine r_sub h [3, 4, 2, 1, 0] rfl ?_
      exact ih _ _ _ hf

set_option maxHeartbeats 4000000 in
theorem m_Owed_payOut {Z : Sy} {σ : St} {res : St} {x1 : Int32} (hf : Owed_payOut x1 σ = some res) : Ct YC Z y_Owed_payOut c_Owed_payOut 5 none 2 [.ref (ya Z 57), .int x1] σ none res := by
  refine Ct.of pn_Owed (Nat.le_of_ble_eq_true rfl) rfl (fun Γ h => ?_)
  have h : IsG YC Z R_Owed c_Owed_payOut 5 2 none none res Γ := h
  unfold Owed_payOut at hf
  refine r_aload_n h d_Owed_payOut_0 0 rfl rfl ?_
  refine r_getR h fd_YC_57_3 cf_Owed fl_Owed_19 d_Owed_payOut_1 ?_
  refine r_iload_n h d_Owed_payOut_4 1 rfl rfl ?_
  refine r_iald h sh_YC_61 d_Owed_payOut_5 hf (fun hf => ?_)
  refine r_istore_n (ls' := [(2, .int (σ.1 61 (Int32.toNatClampNeg x1))), (0, .ref (ya Z 57)), (1, .int x1)]) h d_Owed_payOut_6 rfl (by decide) rfl ?_
  refine r_iconst h d_Owed_payOut_7 ki_0 ?_
  refine r_istore_n (ls' := [(3, .int (0 : Int32)), (2, .int (σ.1 61 (Int32.toNatClampNeg x1))), (0, .ref (ya Z 57)), (1, .int x1)]) h d_Owed_payOut_8 rfl (by decide) rfl ?_
  refine r_iconst h d_Owed_payOut_9 ki_0 ?_
  refine r_istore (ls' := [(4, .int (0 : Int32)), (3, .int (0 : Int32)), (2, .int (σ.1 61 (Int32.toNatClampNeg x1))), (0, .ref (ya Z 57)), (1, .int x1)]) h d_Owed_payOut_10 (by decide) rfl ?_
  refine r_sub h [3, 4, 2, 1, 0] rfl ?_
  exact w_Owed_payOut_L12 h _ _ _ _ hf

theorem d_Owed_settle_0 : decode c_Owed_settle 0 = .ok (.aload_n 0, 1) ∧ 0 + 1 = 1 := by decide +kernel
theorem d_Owed_settle_1 : decode c_Owed_settle 1 = .ok (.getfield 28, 3) ∧ 1 + 3 = 4 := by decide +kernel
theorem d_Owed_settle_4 : decode c_Owed_settle 4 = .ok (.ifCond .eq 4, 3) ∧ 4 + 3 = 7 ∧ ((4 : Nat) : Int) + 4 = ((8 : Nat) : Int) := by decide +kernel
theorem d_Owed_settle_7 : decode c_Owed_settle 7 = .ok (.return_, 1) ∧ 7 + 1 = 8 := by decide +kernel
theorem d_Owed_settle_8 : decode c_Owed_settle 8 = .ok (.aload_n 0, 1) ∧ 8 + 1 = 9 := by decide +kernel
theorem d_Owed_settle_9 : decode c_Owed_settle 9 = .ok (.getfield 9, 3) ∧ 9 + 3 = 12 := by decide +kernel
theorem d_Owed_settle_12 : decode c_Owed_settle 12 = .ok (.iconst 0, 1) ∧ 12 + 1 = 13 := by decide +kernel
theorem d_Owed_settle_13 : decode c_Owed_settle 13 = .ok (.aload_n 0, 1) ∧ 13 + 1 = 14 := by decide +kernel
theorem d_Owed_settle_14 : decode c_Owed_settle 14 = .ok (.getfield 13, 3) ∧ 14 + 3 = 17 := by decide +kernel
theorem d_Owed_settle_17 : decode c_Owed_settle 17 = .ok (.iconst 0, 1) ∧ 17 + 1 = 18 := by decide +kernel
theorem d_Owed_settle_18 : decode c_Owed_settle 18 = .ok (.aload_n 0, 1) ∧ 18 + 1 = 19 := by decide +kernel
theorem d_Owed_settle_19 : decode c_Owed_settle 19 = .ok (.getfield 9, 3) ∧ 19 + 3 = 22 := by decide +kernel
theorem d_Owed_settle_22 : decode c_Owed_settle 22 = .ok (.arraylength, 1) ∧ 22 + 1 = 23 := by decide +kernel
theorem d_Owed_settle_23 : decode c_Owed_settle 23 = .ok (.invokestatic 56, 3) ∧ 23 + 3 = 26 := by decide +kernel
theorem d_Owed_settle_26 : decode c_Owed_settle 26 = .ok (.iconst 1, 1) ∧ 26 + 1 = 27 := by decide +kernel
theorem d_Owed_settle_27 : decode c_Owed_settle 27 = .ok (.istore_n 1, 1) ∧ 27 + 1 = 28 := by decide +kernel
theorem d_Owed_settle_28 : decode c_Owed_settle 28 = .ok (.iconst 0, 1) ∧ 28 + 1 = 29 := by decide +kernel
theorem d_Owed_settle_29 : decode c_Owed_settle 29 = .ok (.istore_n 2, 1) ∧ 29 + 1 = 30 := by decide +kernel
theorem d_Owed_settle_30 : decode c_Owed_settle 30 = .ok (.iload_n 2, 1) ∧ 30 + 1 = 31 := by decide +kernel
theorem d_Owed_settle_31 : decode c_Owed_settle 31 = .ok (.bipush 60, 2) ∧ 31 + 2 = 33 := by decide +kernel
theorem d_Owed_settle_33 : decode c_Owed_settle 33 = .ok (.if_icmp .ge 37, 3) ∧ 33 + 3 = 36 ∧ ((33 : Nat) : Int) + 37 = ((70 : Nat) : Int) := by decide +kernel
theorem d_Owed_settle_36 : decode c_Owed_settle 36 = .ok (.iload_n 1, 1) ∧ 36 + 1 = 37 := by decide +kernel
theorem d_Owed_settle_37 : decode c_Owed_settle 37 = .ok (.ifCond .eq 33, 3) ∧ 37 + 3 = 40 ∧ ((37 : Nat) : Int) + 33 = ((70 : Nat) : Int) := by decide +kernel
theorem d_Owed_settle_40 : decode c_Owed_settle 40 = .ok (.iconst 0, 1) ∧ 40 + 1 = 41 := by decide +kernel
theorem d_Owed_settle_41 : decode c_Owed_settle 41 = .ok (.istore_n 3, 1) ∧ 41 + 1 = 42 := by decide +kernel
theorem d_Owed_settle_42 : decode c_Owed_settle 42 = .ok (.iload_n 3, 1) ∧ 42 + 1 = 43 := by decide +kernel
theorem d_Owed_settle_43 : decode c_Owed_settle 43 = .ok (.bipush 10, 2) ∧ 43 + 2 = 45 := by decide +kernel
theorem d_Owed_settle_45 : decode c_Owed_settle 45 = .ok (.if_icmp .ge 14, 3) ∧ 45 + 3 = 48 ∧ ((45 : Nat) : Int) + 14 = ((59 : Nat) : Int) := by decide +kernel
theorem d_Owed_settle_48 : decode c_Owed_settle 48 = .ok (.aload_n 0, 1) ∧ 48 + 1 = 49 := by decide +kernel
theorem d_Owed_settle_49 : decode c_Owed_settle 49 = .ok (.iload_n 3, 1) ∧ 49 + 1 = 50 := by decide +kernel
theorem d_Owed_settle_50 : decode c_Owed_settle 50 = .ok (.invokevirtual 62, 3) ∧ 50 + 3 = 53 := by decide +kernel
theorem d_Owed_settle_53 : decode c_Owed_settle 53 = .ok (.iinc 3 1, 3) ∧ 53 + 3 = 56 := by decide +kernel
theorem d_Owed_settle_56 : decode c_Owed_settle 56 = .ok (.goto (-14), 3) ∧ (56 : Int) + (-14) = (42 : Int) := by decide +kernel
theorem d_Owed_settle_59 : decode c_Owed_settle 59 = .ok (.aload_n 0, 1) ∧ 59 + 1 = 60 := by decide +kernel
theorem d_Owed_settle_60 : decode c_Owed_settle 60 = .ok (.invokevirtual 66, 3) ∧ 60 + 3 = 63 := by decide +kernel
theorem d_Owed_settle_63 : decode c_Owed_settle 63 = .ok (.istore_n 1, 1) ∧ 63 + 1 = 64 := by decide +kernel
theorem d_Owed_settle_64 : decode c_Owed_settle 64 = .ok (.iinc 2 1, 3) ∧ 64 + 3 = 67 := by decide +kernel
theorem d_Owed_settle_67 : decode c_Owed_settle 67 = .ok (.goto (-37), 3) ∧ (67 : Int) + (-37) = (30 : Int) := by decide +kernel
theorem d_Owed_settle_70 : decode c_Owed_settle 70 = .ok (.aload_n 0, 1) ∧ 70 + 1 = 71 := by decide +kernel
theorem d_Owed_settle_71 : decode c_Owed_settle 71 = .ok (.iconst 1, 1) ∧ 71 + 1 = 72 := by decide +kernel
theorem d_Owed_settle_72 : decode c_Owed_settle 72 = .ok (.putfield 28, 3) ∧ 72 + 3 = 75 := by decide +kernel
theorem d_Owed_settle_75 : decode c_Owed_settle 75 = .ok (.return_, 1) ∧ 75 + 1 = 76 := by decide +kernel
set_option maxHeartbeats 4000000 in
theorem w_Owed_settle_L42 {Z : Sy} {Γ : Nat → List (Nat × Value) → List Value → St → Prop} {res : St} {x2 : Int32} {k30 : Int32 → Int32 → St → Option St} (h : IsG YC Z R_Owed c_Owed_settle 4 3 none none res Γ) (hk30 : ∀ (x1 : Int32) (x2 : Int32) (σ : St), k30 x1 x2 σ = some res → Γ 30 [(0, .ref (ya Z 57)), (1, .int x1), (2, .int x2)] [] σ) : ∀ (n : Nat) (x3 : Int32) (σ : St), Owed_settle_L42 x2 k30 n x3 σ = some res → Γ 42 [(0, .ref (ya Z 57)), (2, .int x2), (3, .int x3)] [] σ := by
  intro n
  induction n with
  | zero => intro x3 σ hf; exact absurd hf (by simp [Owed_settle_L42])
  | succ n ih =>
    intro x3 σ hf
    rw [Owed_settle_L42] at hf
    refine r_iload_n h d_Owed_settle_42 2 rfl rfl ?_
    refine r_bipush h d_Owed_settle_43 kb_10 ?_
    refine r_icmp_ge h d_Owed_settle_45 hf (fun hf => ?_) (fun hf => ?_)
    · refine r_aload_n h d_Owed_settle_59 0 rfl rfl ?_
      obtain ⟨q60, e60, hf⟩ := q_bind hf
      refine r_callV (As := []) (rest := []) h sh_YC_57 lk_Owed_66 vk_Owed_66 d_Owed_settle_60 (by decide) rfl rfl (Nat.le_of_ble_eq_true rfl) (m_Owed_takeNext e60) ?_
      refine r_istore_n (ls' := [(1, .int (bi q60.1)), (0, .ref (ya Z 57)), (2, .int x2), (3, .int x3)]) h d_Owed_settle_63 rfl (by decide) rfl ?_
      refine r_iinc (ls' := [(2, .int (x2 + (1 : Int32))), (1, .int (bi q60.1)), (0, .ref (ya Z 57)), (3, .int x3)]) h d_Owed_settle_64 2 rfl ki_1 (by decide) rfl ?_
      refine r_goto h d_Owed_settle_67 ?_
      refine r_sub h [2, 1, 0] rfl ?_
      exact hk30 _ _ _ hf
    · refine r_aload_n h d_Owed_settle_48 0 rfl rfl ?_
      refine r_iload_n h d_Owed_settle_49 2 rfl rfl ?_
      obtain ⟨q50, e50, hf⟩ := q_bind hf
      refine r_callV (As := [.int x3]) (rest := []) h sh_YC_57 lk_Owed_62 vk_Owed_62 d_Owed_settle_50 (by decide) rfl rfl (Nat.le_of_ble_eq_true rfl) (m_Owed_payOut e50) ?_
      refine r_iinc (ls' := [(3, .int (x3 + (1 : Int32))), (0, .ref (ya Z 57)), (2, .int x2)]) h d_Owed_settle_53 2 rfl ki_1 (by decide) rfl ?_
      refine r_goto h d_Owed_settle_56 ?_
      refine r_sub h [1, 2, 0] rfl ?_
      exact ih _ _ hf

set_option maxHeartbeats 4000000 in
theorem w_Owed_settle_L30 {Z : Sy} {Γ : Nat → List (Nat × Value) → List Value → St → Prop} {res : St} (h : IsG YC Z R_Owed c_Owed_settle 4 3 none none res Γ) : ∀ (n : Nat) (x1 : Int32) (x2 : Int32) (σ : St), Owed_settle_L30 n x1 x2 σ = some res → Γ 30 [(0, .ref (ya Z 57)), (1, .int x1), (2, .int x2)] [] σ := by
  intro n
  induction n with
  | zero => intro x1 x2 σ hf; exact absurd hf (by simp [Owed_settle_L30])
  | succ n ih =>
    intro x1 x2 σ hf
    rw [Owed_settle_L30] at hf
    refine r_iload_n h d_Owed_settle_30 2 rfl rfl ?_
    refine r_bipush h d_Owed_settle_31 kb_60 ?_
    refine r_icmp_ge h d_Owed_settle_33 hf (fun hf => ?_) (fun hf => ?_)
    · refine r_aload_n h d_Owed_settle_70 0 rfl rfl ?_
      refine r_iconst h d_Owed_settle_71 ki_1 ?_
      refine r_putX h fd_YC_57_6 cf_Owed fl_Owed_28 ⟨rfl, rfl⟩ (ty := .boolean) (by decide) (by decide) d_Owed_settle_72 ?_
      exact r_vreturn h d_Owed_settle_75.1 (Option.some.inj hf)
    · refine r_iload_n h d_Owed_settle_36 1 rfl rfl ?_
      refine r_if_eq h d_Owed_settle_37 hf (fun hf => ?_) (fun hf => ?_)
      · refine r_aload_n h d_Owed_settle_70 0 rfl rfl ?_
        refine r_iconst h d_Owed_settle_71 ki_1 ?_
        refine r_putX h fd_YC_57_6 cf_Owed fl_Owed_28 ⟨rfl, rfl⟩ (ty := .boolean) (by decide) (by decide) d_Owed_settle_72 ?_
        exact r_vreturn h d_Owed_settle_75.1 (Option.some.inj hf)
      · refine r_iconst h d_Owed_settle_40 ki_0 ?_
        refine r_istore_n (ls' := [(3, .int (0 : Int32)), (0, .ref (ya Z 57)), (1, .int x1), (2, .int x2)]) h d_Owed_settle_41 rfl (by decide) rfl ?_
        refine r_sub h [1, 3, 0] rfl ?_
        exact w_Owed_settle_L42 h (fun y1 y2 τ hf => ih y1 y2 τ hf) _ _ _ hf

set_option maxHeartbeats 4000000 in
theorem m_Owed_settle {Z : Sy} {σ : St} {res : St} (hf : Owed_settle  σ = some res) : Ct YC Z y_Owed_settle c_Owed_settle 4 none 3 [.ref (ya Z 57)] σ none res := by
  refine Ct.of pn_Owed (Nat.le_of_ble_eq_true rfl) rfl (fun Γ h => ?_)
  have h : IsG YC Z R_Owed c_Owed_settle 4 3 none none res Γ := h
  unfold Owed_settle at hf
  refine r_aload_n h d_Owed_settle_0 0 rfl rfl ?_
  refine r_getI h fd_YC_57_6 cf_Owed fl_Owed_28 d_Owed_settle_1 ?_
  refine r_if_eq h d_Owed_settle_4 hf (fun hf => ?_) (fun hf => ?_)
  · refine r_aload_n h d_Owed_settle_8 0 rfl rfl ?_
    refine r_getR h fd_YC_57_0 cf_Owed fl_Owed_9 d_Owed_settle_9 ?_
    refine r_iconst h d_Owed_settle_12 ki_0 ?_
    refine r_aload_n h d_Owed_settle_13 0 rfl rfl ?_
    refine r_getR h fd_YC_57_1 cf_Owed fl_Owed_13 d_Owed_settle_14 ?_
    refine r_iconst h d_Owed_settle_17 ki_0 ?_
    refine r_aload_n h d_Owed_settle_18 0 rfl rfl ?_
    refine r_getR h fd_YC_57_0 cf_Owed fl_Owed_9 d_Owed_settle_19 ?_
    refine r_alen h sh_YC_58 kn_100 d_Owed_settle_22 ?_
    refine r_acopy h sh_YC_58 sh_YC_59 ⟨tm_952, tm_954, tm_953, tm_93⟩ (by decide) rfl d_Owed_settle_23 hf (fun hf => ?_)
    refine r_iconst h d_Owed_settle_26 ki_1 ?_
    refine r_istore_n (ls' := [(1, .int (1 : Int32)), (0, .ref (ya Z 57))]) h d_Owed_settle_27 rfl (by decide) rfl ?_
    refine r_iconst h d_Owed_settle_28 ki_0 ?_
    refine r_istore_n (ls' := [(2, .int (0 : Int32)), (1, .int (1 : Int32)), (0, .ref (ya Z 57))]) h d_Owed_settle_29 rfl (by decide) rfl ?_
    refine r_sub h [2, 1, 0] rfl ?_
    exact w_Owed_settle_L30 h _ _ _ _ hf
  · exact r_vreturn h d_Owed_settle_7.1 (Option.some.inj hf)

theorem d_P_pays_0 : decode c_P_pays 0 = .ok (.iload_n 1, 1) ∧ 0 + 1 = 1 := by decide +kernel
theorem d_P_pays_1 : decode c_P_pays 1 = .ok (.iload_n 2, 1) ∧ 1 + 1 = 2 := by decide +kernel
theorem d_P_pays_2 : decode c_P_pays 2 = .ok (.invokestatic 319, 3) ∧ 2 + 3 = 5 := by decide +kernel
theorem d_P_pays_5 : decode c_P_pays 5 = .ok (.ifCond .ne 6, 3) ∧ 5 + 3 = 8 ∧ ((5 : Nat) : Int) + 6 = ((11 : Nat) : Int) := by decide +kernel
theorem d_P_pays_8 : decode c_P_pays 8 = .ok (.bipush (-2), 2) ∧ 8 + 2 = 10 := by decide +kernel
theorem d_P_pays_10 : decode c_P_pays 10 = .ok (.ireturn, 1) ∧ 10 + 1 = 11 := by decide +kernel
theorem d_P_pays_11 : decode c_P_pays 11 = .ok (.aload_n 0, 1) ∧ 11 + 1 = 12 := by decide +kernel
theorem d_P_pays_12 : decode c_P_pays 12 = .ok (.getfield 71, 3) ∧ 12 + 3 = 15 := by decide +kernel
theorem d_P_pays_15 : decode c_P_pays 15 = .ok (.invokevirtual 338, 3) ∧ 15 + 3 = 18 := by decide +kernel
theorem d_P_pays_18 : decode c_P_pays 18 = .ok (.aload_n 0, 1) ∧ 18 + 1 = 19 := by decide +kernel
theorem d_P_pays_19 : decode c_P_pays 19 = .ok (.getfield 71, 3) ∧ 19 + 3 = 22 := by decide +kernel
theorem d_P_pays_22 : decode c_P_pays 22 = .ok (.getfield 341, 3) ∧ 22 + 3 = 25 := by decide +kernel
theorem d_P_pays_25 : decode c_P_pays 25 = .ok (.iload_n 1, 1) ∧ 25 + 1 = 26 := by decide +kernel
theorem d_P_pays_26 : decode c_P_pays 26 = .ok (.bipush 10, 2) ∧ 26 + 2 = 28 := by decide +kernel
theorem d_P_pays_28 : decode c_P_pays 28 = .ok (.imul, 1) ∧ 28 + 1 = 29 := by decide +kernel
theorem d_P_pays_29 : decode c_P_pays 29 = .ok (.iload_n 2, 1) ∧ 29 + 1 = 30 := by decide +kernel
theorem d_P_pays_30 : decode c_P_pays 30 = .ok (.iadd, 1) ∧ 30 + 1 = 31 := by decide +kernel
theorem d_P_pays_31 : decode c_P_pays 31 = .ok (.iaload, 1) ∧ 31 + 1 = 32 := by decide +kernel
theorem d_P_pays_32 : decode c_P_pays 32 = .ok (.ireturn, 1) ∧ 32 + 1 = 33 := by decide +kernel
set_option maxHeartbeats 4000000 in
theorem m_P_pays {Z : Sy} {σ : St} {res : (Int32 × St)} {x1 : Int32} {x2 : Int32} (hf : P_pays x1 x2 σ = some res) : Ct YC Z y_P_pays c_P_pays 3 (some .int) 4 [.ref (ya Z 0), .int x1, .int x2] σ (some (.int res.1)) res.2 := by
  refine Ct.of pn_P (Nat.le_of_ble_eq_true rfl) rfl (fun Γ h => ?_)
  have h : IsG YC Z R_P c_P_pays 3 4 (some .int) (some (.int res.1)) res.2 Γ := h
  unfold P_pays at hf
  refine r_iload_n h d_P_pays_0 1 rfl rfl ?_
  refine r_iload_n h d_P_pays_1 2 rfl rfl ?_
  obtain ⟨r2, e2, hf⟩ := q_bind hf
  refine r_callS (As := [.int x1, .int x2]) (rest := []) h lk_P_319 sk_P_319 d_P_pays_2 (by decide) rfl rfl (Nat.le_of_ble_eq_true rfl) (m_P_areParties e2) ?_
  refine r_bif_ne h d_P_pays_5 hf (fun hf => ?_) (fun hf => ?_)
  · refine r_aload_n h d_P_pays_11 0 rfl rfl ?_
    refine r_getR h fd_YC_0_9 cf_P fl_P_71 d_P_pays_12 ?_
    obtain ⟨q15, e15, hf⟩ := q_bind hf
    refine r_callV (As := []) (rest := []) h sh_YC_57 lk_P_338 vk_P_338 d_P_pays_15 (by decide) rfl rfl (Nat.le_of_ble_eq_true rfl) (m_Owed_settle e15) ?_
    refine r_aload_n h d_P_pays_18 0 rfl rfl ?_
    refine r_getR h fd_YC_0_9 cf_P fl_P_71 d_P_pays_19 ?_
    refine r_getR h fd_YC_57_1 cf_Owed fl_P_341 d_P_pays_22 ?_
    refine r_iload_n h d_P_pays_25 1 rfl rfl ?_
    refine r_bipush h d_P_pays_26 kb_10 ?_
    refine r_imul h d_P_pays_28 ?_
    refine r_iload_n h d_P_pays_29 2 rfl rfl ?_
    refine r_iadd h d_P_pays_30 ?_
    refine r_iald h sh_YC_59 d_P_pays_31 hf (fun hf => ?_)
    exact r_ireturn h d_P_pays_32.1 (q_p1 hf) (q_p2 hf)
  · refine r_bipush h d_P_pays_8 kb_m2 ?_
    exact r_ireturn h d_P_pays_10.1 (q_p1 hf) (q_p2 hf)

theorem d_Owed_fallen_0 : decode c_Owed_fallen 0 = .ok (.iconst 0, 1) ∧ 0 + 1 = 1 := by decide +kernel
theorem d_Owed_fallen_1 : decode c_Owed_fallen 1 = .ok (.istore_n 1, 1) ∧ 1 + 1 = 2 := by decide +kernel
theorem d_Owed_fallen_2 : decode c_Owed_fallen 2 = .ok (.iconst 0, 1) ∧ 2 + 1 = 3 := by decide +kernel
theorem d_Owed_fallen_3 : decode c_Owed_fallen 3 = .ok (.istore_n 2, 1) ∧ 3 + 1 = 4 := by decide +kernel
theorem d_Owed_fallen_4 : decode c_Owed_fallen 4 = .ok (.iload_n 2, 1) ∧ 4 + 1 = 5 := by decide +kernel
theorem d_Owed_fallen_5 : decode c_Owed_fallen 5 = .ok (.aload_n 0, 1) ∧ 5 + 1 = 6 := by decide +kernel
theorem d_Owed_fallen_6 : decode c_Owed_fallen 6 = .ok (.getfield 9, 3) ∧ 6 + 3 = 9 := by decide +kernel
theorem d_Owed_fallen_9 : decode c_Owed_fallen 9 = .ok (.arraylength, 1) ∧ 9 + 1 = 10 := by decide +kernel
theorem d_Owed_fallen_10 : decode c_Owed_fallen 10 = .ok (.if_icmp .ge 33, 3) ∧ 10 + 3 = 13 ∧ ((10 : Nat) : Int) + 33 = ((43 : Nat) : Int) := by decide +kernel
theorem d_Owed_fallen_13 : decode c_Owed_fallen 13 = .ok (.aload_n 0, 1) ∧ 13 + 1 = 14 := by decide +kernel
theorem d_Owed_fallen_14 : decode c_Owed_fallen 14 = .ok (.getfield 13, 3) ∧ 14 + 3 = 17 := by decide +kernel
theorem d_Owed_fallen_17 : decode c_Owed_fallen 17 = .ok (.iload_n 2, 1) ∧ 17 + 1 = 18 := by decide +kernel
theorem d_Owed_fallen_18 : decode c_Owed_fallen 18 = .ok (.iaload, 1) ∧ 18 + 1 = 19 := by decide +kernel
theorem d_Owed_fallen_19 : decode c_Owed_fallen 19 = .ok (.aload_n 0, 1) ∧ 19 + 1 = 20 := by decide +kernel
theorem d_Owed_fallen_20 : decode c_Owed_fallen 20 = .ok (.getfield 9, 3) ∧ 20 + 3 = 23 := by decide +kernel
theorem d_Owed_fallen_23 : decode c_Owed_fallen 23 = .ok (.iload_n 2, 1) ∧ 23 + 1 = 24 := by decide +kernel
theorem d_Owed_fallen_24 : decode c_Owed_fallen 24 = .ok (.iaload, 1) ∧ 24 + 1 = 25 := by decide +kernel
theorem d_Owed_fallen_25 : decode c_Owed_fallen 25 = .ok (.if_icmp .ge 12, 3) ∧ 25 + 3 = 28 ∧ ((25 : Nat) : Int) + 12 = ((37 : Nat) : Int) := by decide +kernel
theorem d_Owed_fallen_28 : decode c_Owed_fallen 28 = .ok (.iload_n 1, 1) ∧ 28 + 1 = 29 := by decide +kernel
theorem d_Owed_fallen_29 : decode c_Owed_fallen 29 = .ok (.iconst 1, 1) ∧ 29 + 1 = 30 := by decide +kernel
theorem d_Owed_fallen_30 : decode c_Owed_fallen 30 = .ok (.iload_n 2, 1) ∧ 30 + 1 = 31 := by decide +kernel
theorem d_Owed_fallen_31 : decode c_Owed_fallen 31 = .ok (.bipush 10, 2) ∧ 31 + 2 = 33 := by decide +kernel
theorem d_Owed_fallen_33 : decode c_Owed_fallen 33 = .ok (.idiv, 1) ∧ 33 + 1 = 34 := by decide +kernel
theorem d_Owed_fallen_34 : decode c_Owed_fallen 34 = .ok (.ishl, 1) ∧ 34 + 1 = 35 := by decide +kernel
theorem d_Owed_fallen_35 : decode c_Owed_fallen 35 = .ok (.ior, 1) ∧ 35 + 1 = 36 := by decide +kernel
theorem d_Owed_fallen_36 : decode c_Owed_fallen 36 = .ok (.istore_n 1, 1) ∧ 36 + 1 = 37 := by decide +kernel
theorem d_Owed_fallen_37 : decode c_Owed_fallen 37 = .ok (.iinc 2 1, 3) ∧ 37 + 3 = 40 := by decide +kernel
theorem d_Owed_fallen_40 : decode c_Owed_fallen 40 = .ok (.goto (-36), 3) ∧ (40 : Int) + (-36) = (4 : Int) := by decide +kernel
theorem d_Owed_fallen_43 : decode c_Owed_fallen 43 = .ok (.iload_n 1, 1) ∧ 43 + 1 = 44 := by decide +kernel
theorem d_Owed_fallen_44 : decode c_Owed_fallen 44 = .ok (.ireturn, 1) ∧ 44 + 1 = 45 := by decide +kernel
set_option maxHeartbeats 4000000 in
theorem w_Owed_fallen_L4 {Z : Sy} {Γ : Nat → List (Nat × Value) → List Value → St → Prop} {res : Int32} {σ : St} (h : IsG YC Z R_Owed c_Owed_fallen 3 1 (some .int) (some (.int res)) σ Γ) : ∀ (n : Nat) (x1 : Int32) (x2 : Int32), Owed_fallen_L4 σ n x1 x2 = some res → Γ 4 [(0, .ref (ya Z 57)), (1, .int x1), (2, .int x2)] [] σ := by
  intro n
  induction n with
  | zero => intro x1 x2 hf; exact absurd hf (by simp [Owed_fallen_L4])
  | succ n ih =>
    intro x1 x2 hf
    rw [Owed_fallen_L4] at hf
    refine r_iload_n h d_Owed_fallen_4 2 rfl rfl ?_
    refine r_aload_n h d_Owed_fallen_5 0 rfl rfl ?_
    refine r_getR h fd_YC_57_0 cf_Owed fl_Owed_9 d_Owed_fallen_6 ?_
    refine r_alen h sh_YC_58 kn_100 d_Owed_fallen_9 ?_
    refine r_icmp_ge h d_Owed_fallen_10 hf (fun hf => ?_) (fun hf => ?_)
    · refine r_iload_n h d_Owed_fallen_43 1 rfl rfl ?_
      exact r_ireturn h d_Owed_fallen_44.1 (Option.some.inj hf) rfl
    · refine r_aload_n h d_Owed_fallen_13 0 rfl rfl ?_
      refine r_getR h fd_YC_57_1 cf_Owed fl_Owed_13 d_Owed_fallen_14 ?_
      refine r_iload_n h d_Owed_fallen_17 2 rfl rfl ?_
      refine r_iald h sh_YC_59 d_Owed_fallen_18 hf (fun hf => ?_)
      refine r_aload_n h d_Owed_fallen_19 0 rfl rfl ?_
      refine r_getR h fd_YC_57_0 cf_Owed fl_Owed_9 d_Owed_fallen_20 ?_
      refine r_iload_n h d_Owed_fallen_23 2 rfl rfl ?_
      refine r_iald h sh_YC_58 d_Owed_fallen_24 hf (fun hf => ?_)
      refine r_icmp_ge h d_Owed_fallen_25 hf (fun hf => ?_) (fun hf => ?_)
      · refine r_iinc (ls' := [(2, .int (x2 + (1 : Int32))), (0, .ref (ya Z 57)), (1, .int x1)]) h d_Owed_fallen_37 2 rfl ki_1 (by decide) rfl ?_
        refine r_goto h d_Owed_fallen_40 ?_
        refine r_sub h [1, 2, 0] rfl ?_
        exact ih _ _ hf
      · refine r_iload_n h d_Owed_fallen_28 1 rfl rfl ?_
        refine r_iconst h d_Owed_fallen_29 ki_1 ?_
        refine r_iload_n h d_Owed_fallen_30 2 rfl rfl ?_
        refine r_bipush h d_Owed_fallen_31 kb_10 ?_
        refine r_idiv h d_Owed_fallen_33 (by decide) ?_
        refine r_ishl h d_Owed_fallen_34 ?_
        refine r_ior h d_Owed_fallen_35 ?_
        refine r_istore_n (ls' := [(1, .int (x1 ||| ((1 : Int32) <<< ((x2 / (10 : Int32)) &&& 31)))), (0, .ref (ya Z 57)), (2, .int x2)]) h d_Owed_fallen_36 rfl (by decide) rfl ?_
        refine r_iinc (ls' := [(2, .int (x2 + (1 : Int32))), (1, .int (x1 ||| ((1 : Int32) <<< ((x2 / (10 : Int32)) &&& 31)))), (0, .ref (ya Z 57))]) h d_Owed_fallen_37 2 rfl ki_1 (by decide) rfl ?_
        refine r_goto h d_Owed_fallen_40 ?_
        refine r_sub h [2, 1, 0] rfl ?_
        exact ih _ _ hf

set_option maxHeartbeats 4000000 in
theorem m_Owed_fallen {Z : Sy} {σ : St} {res : Int32} (hf : Owed_fallen  σ = some res) : Ct YC Z y_Owed_fallen c_Owed_fallen 3 (some .int) 1 [.ref (ya Z 57)] σ (some (.int res)) σ := by
  refine Ct.of pn_Owed (Nat.le_of_ble_eq_true rfl) rfl (fun Γ h => ?_)
  have h : IsG YC Z R_Owed c_Owed_fallen 3 1 (some .int) (some (.int res)) σ Γ := h
  unfold Owed_fallen at hf
  refine r_iconst h d_Owed_fallen_0 ki_0 ?_
  refine r_istore_n (ls' := [(1, .int (0 : Int32)), (0, .ref (ya Z 57))]) h d_Owed_fallen_1 rfl (by decide) rfl ?_
  refine r_iconst h d_Owed_fallen_2 ki_0 ?_
  refine r_istore_n (ls' := [(2, .int (0 : Int32)), (1, .int (0 : Int32)), (0, .ref (ya Z 57))]) h d_Owed_fallen_3 rfl (by decide) rfl ?_
  refine r_sub h [2, 1, 0] rfl ?_
  exact w_Owed_fallen_L4 h _ _ _ hf

theorem d_P_ruin_0 : decode c_P_ruin 0 = .ok (.aload_n 0, 1) ∧ 0 + 1 = 1 := by decide +kernel
theorem d_P_ruin_1 : decode c_P_ruin 1 = .ok (.getfield 71, 3) ∧ 1 + 3 = 4 := by decide +kernel
theorem d_P_ruin_4 : decode c_P_ruin 4 = .ok (.invokevirtual 338, 3) ∧ 4 + 3 = 7 := by decide +kernel
theorem d_P_ruin_7 : decode c_P_ruin 7 = .ok (.aload_n 0, 1) ∧ 7 + 1 = 8 := by decide +kernel
theorem d_P_ruin_8 : decode c_P_ruin 8 = .ok (.getfield 71, 3) ∧ 8 + 3 = 11 := by decide +kernel
theorem d_P_ruin_11 : decode c_P_ruin 11 = .ok (.invokevirtual 344, 3) ∧ 11 + 3 = 14 := by decide +kernel
theorem d_P_ruin_14 : decode c_P_ruin 14 = .ok (.ireturn, 1) ∧ 14 + 1 = 15 := by decide +kernel
set_option maxHeartbeats 4000000 in
theorem m_P_ruin {Z : Sy} {σ : St} {res : (Int32 × St)} (hf : P_ruin  σ = some res) : Ct YC Z y_P_ruin c_P_ruin 1 (some .int) 4 [.ref (ya Z 0)] σ (some (.int res.1)) res.2 := by
  refine Ct.of pn_P (Nat.le_of_ble_eq_true rfl) rfl (fun Γ h => ?_)
  have h : IsG YC Z R_P c_P_ruin 1 4 (some .int) (some (.int res.1)) res.2 Γ := h
  unfold P_ruin at hf
  refine r_aload_n h d_P_ruin_0 0 rfl rfl ?_
  refine r_getR h fd_YC_0_9 cf_P fl_P_71 d_P_ruin_1 ?_
  obtain ⟨q4, e4, hf⟩ := q_bind hf
  refine r_callV (As := []) (rest := []) h sh_YC_57 lk_P_338 vk_P_338 d_P_ruin_4 (by decide) rfl rfl (Nat.le_of_ble_eq_true rfl) (m_Owed_settle e4) ?_
  refine r_aload_n h d_P_ruin_7 0 rfl rfl ?_
  refine r_getR h fd_YC_0_9 cf_P fl_P_71 d_P_ruin_8 ?_
  obtain ⟨r11, e11, hf⟩ := q_bind hf
  refine r_callV (As := []) (rest := []) h sh_YC_57 lk_P_344 vk_P_344 d_P_ruin_11 (by decide) rfl rfl (Nat.le_of_ble_eq_true rfl) (m_Owed_fallen e11) ?_
  exact r_ireturn h d_P_ruin_14.1 (q_p1 hf) (q_p2 hf)

theorem d_Rounds_add_0 : decode c_Rounds_add 0 = .ok (.aload_n 0, 1) ∧ 0 + 1 = 1 := by decide +kernel
theorem d_Rounds_add_1 : decode c_Rounds_add 1 = .ok (.getfield 18, 3) ∧ 1 + 3 = 4 := by decide +kernel
theorem d_Rounds_add_4 : decode c_Rounds_add 4 = .ok (.aload_n 0, 1) ∧ 4 + 1 = 5 := by decide +kernel
theorem d_Rounds_add_5 : decode c_Rounds_add 5 = .ok (.getfield 9, 3) ∧ 5 + 3 = 8 := by decide +kernel
theorem d_Rounds_add_8 : decode c_Rounds_add 8 = .ok (.arraylength, 1) ∧ 8 + 1 = 9 := by decide +kernel
theorem d_Rounds_add_9 : decode c_Rounds_add 9 = .ok (.if_icmp .ge 10, 3) ∧ 9 + 3 = 12 ∧ ((9 : Nat) : Int) + 10 = ((19 : Nat) : Int) := by decide +kernel
theorem d_Rounds_add_12 : decode c_Rounds_add 12 = .ok (.iload 4, 2) ∧ 12 + 2 = 14 := by decide +kernel
theorem d_Rounds_add_14 : decode c_Rounds_add 14 = .ok (.bipush 8, 2) ∧ 14 + 2 = 16 := by decide +kernel
theorem d_Rounds_add_16 : decode c_Rounds_add 16 = .ok (.if_icmp .le 6, 3) ∧ 16 + 3 = 19 ∧ ((16 : Nat) : Int) + 6 = ((22 : Nat) : Int) := by decide +kernel
theorem d_Rounds_add_19 : decode c_Rounds_add 19 = .ok (.bipush (-4), 2) ∧ 19 + 2 = 21 := by decide +kernel
theorem d_Rounds_add_21 : decode c_Rounds_add 21 = .ok (.ireturn, 1) ∧ 21 + 1 = 22 := by decide +kernel
theorem d_Rounds_add_22 : decode c_Rounds_add 22 = .ok (.aload_n 0, 1) ∧ 22 + 1 = 23 := by decide +kernel
theorem d_Rounds_add_23 : decode c_Rounds_add 23 = .ok (.getfield 9, 3) ∧ 23 + 3 = 26 := by decide +kernel
theorem d_Rounds_add_26 : decode c_Rounds_add 26 = .ok (.aload_n 0, 1) ∧ 26 + 1 = 27 := by decide +kernel
theorem d_Rounds_add_27 : decode c_Rounds_add 27 = .ok (.getfield 18, 3) ∧ 27 + 3 = 30 := by decide +kernel
theorem d_Rounds_add_30 : decode c_Rounds_add 30 = .ok (.iload 4, 2) ∧ 30 + 2 = 32 := by decide +kernel
theorem d_Rounds_add_32 : decode c_Rounds_add 32 = .ok (.iastore, 1) ∧ 32 + 1 = 33 := by decide +kernel
theorem d_Rounds_add_33 : decode c_Rounds_add 33 = .ok (.iconst 0, 1) ∧ 33 + 1 = 34 := by decide +kernel
theorem d_Rounds_add_34 : decode c_Rounds_add 34 = .ok (.istore 5, 2) ∧ 34 + 2 = 36 := by decide +kernel
theorem d_Rounds_add_36 : decode c_Rounds_add 36 = .ok (.iload 5, 2) ∧ 36 + 2 = 38 := by decide +kernel
theorem d_Rounds_add_38 : decode c_Rounds_add 38 = .ok (.iload 4, 2) ∧ 38 + 2 = 40 := by decide +kernel
theorem d_Rounds_add_40 : decode c_Rounds_add 40 = .ok (.if_icmp .ge 33, 3) ∧ 40 + 3 = 43 ∧ ((40 : Nat) : Int) + 33 = ((73 : Nat) : Int) := by decide +kernel
theorem d_Rounds_add_43 : decode c_Rounds_add 43 = .ok (.aload_n 0, 1) ∧ 43 + 1 = 44 := by decide +kernel
theorem d_Rounds_add_44 : decode c_Rounds_add 44 = .ok (.getfield 15, 3) ∧ 44 + 3 = 47 := by decide +kernel
theorem d_Rounds_add_47 : decode c_Rounds_add 47 = .ok (.aload_n 0, 1) ∧ 47 + 1 = 48 := by decide +kernel
theorem d_Rounds_add_48 : decode c_Rounds_add 48 = .ok (.getfield 18, 3) ∧ 48 + 3 = 51 := by decide +kernel
theorem d_Rounds_add_51 : decode c_Rounds_add 51 = .ok (.bipush 8, 2) ∧ 51 + 2 = 53 := by decide +kernel
theorem d_Rounds_add_53 : decode c_Rounds_add 53 = .ok (.imul, 1) ∧ 53 + 1 = 54 := by decide +kernel
theorem d_Rounds_add_54 : decode c_Rounds_add 54 = .ok (.iload 5, 2) ∧ 54 + 2 = 56 := by decide +kernel
theorem d_Rounds_add_56 : decode c_Rounds_add 56 = .ok (.iadd, 1) ∧ 56 + 1 = 57 := by decide +kernel
theorem d_Rounds_add_57 : decode c_Rounds_add 57 = .ok (.aload_n 1, 1) ∧ 57 + 1 = 58 := by decide +kernel
theorem d_Rounds_add_58 : decode c_Rounds_add 58 = .ok (.iload_n 2, 1) ∧ 58 + 1 = 59 := by decide +kernel
theorem d_Rounds_add_59 : decode c_Rounds_add 59 = .ok (.iload_n 3, 1) ∧ 59 + 1 = 60 := by decide +kernel
theorem d_Rounds_add_60 : decode c_Rounds_add 60 = .ok (.iload 5, 2) ∧ 60 + 2 = 62 := by decide +kernel
theorem d_Rounds_add_62 : decode c_Rounds_add 62 = .ok (.iadd, 1) ∧ 62 + 1 = 63 := by decide +kernel
theorem d_Rounds_add_63 : decode c_Rounds_add 63 = .ok (.invokevirtual 26, 3) ∧ 63 + 3 = 66 := by decide +kernel
theorem d_Rounds_add_66 : decode c_Rounds_add 66 = .ok (.iastore, 1) ∧ 66 + 1 = 67 := by decide +kernel
theorem d_Rounds_add_67 : decode c_Rounds_add 67 = .ok (.iinc 5 1, 3) ∧ 67 + 3 = 70 := by decide +kernel
theorem d_Rounds_add_70 : decode c_Rounds_add 70 = .ok (.goto (-34), 3) ∧ (70 : Int) + (-34) = (36 : Int) := by decide +kernel
theorem d_Rounds_add_73 : decode c_Rounds_add 73 = .ok (.aload_n 0, 1) ∧ 73 + 1 = 74 := by decide +kernel
theorem d_Rounds_add_74 : decode c_Rounds_add 74 = .ok (.dup, 1) ∧ 74 + 1 = 75 := by decide +kernel
theorem d_Rounds_add_75 : decode c_Rounds_add 75 = .ok (.getfield 18, 3) ∧ 75 + 3 = 78 := by decide +kernel
theorem d_Rounds_add_78 : decode c_Rounds_add 78 = .ok (.dup_x1, 1) ∧ 78 + 1 = 79 := by decide +kernel
theorem d_Rounds_add_79 : decode c_Rounds_add 79 = .ok (.iconst 1, 1) ∧ 79 + 1 = 80 := by decide +kernel
theorem d_Rounds_add_80 : decode c_Rounds_add 80 = .ok (.iadd, 1) ∧ 80 + 1 = 81 := by decide +kernel
theorem d_Rounds_add_81 : decode c_Rounds_add 81 = .ok (.putfield 18, 3) ∧ 81 + 3 = 84 := by decide +kernel
theorem d_Rounds_add_84 : decode c_Rounds_add 84 = .ok (.ireturn, 1) ∧ 84 + 1 = 85 := by decide +kernel
set_option maxHeartbeats 4000000 in
theorem w_Rounds_add_L36 {Z : Sy} {Γ : Nat → List (Nat × Value) → List Value → St → Prop} {res : (Int32 × St)} {x2 : Int32} {x3 : Int32} {x4 : Int32} (h : IsG YC Z R_Rounds c_Rounds_add 6 2 (some .int) (some (.int res.1)) res.2 Γ) : ∀ (n : Nat) (x5 : Int32) (σ : St), Rounds_add_L36 x2 x3 x4 n x5 σ = some res → Γ 36 [(0, .ref (ya Z 64)), (1, .ref (ya Z 74)), (2, .int x2), (3, .int x3), (4, .int x4), (5, .int x5)] [] σ := by
  intro n
  induction n with
  | zero => intro x5 σ hf; exact absurd hf (by simp [Rounds_add_L36])
  | succ n ih =>
    intro x5 σ hf
    rw [Rounds_add_L36] at hf
    refine r_iload h d_Rounds_add_36 5 rfl ?_
    refine r_iload h d_Rounds_add_38 4 rfl ?_
    refine r_icmp_ge h d_Rounds_add_40 hf (fun hf => ?_) (fun hf => ?_)
    · refine r_aload_n h d_Rounds_add_73 0 rfl rfl ?_
      refine r_dup h d_Rounds_add_74 rfl ?_
      refine r_getI h fd_YC_64_2 cf_Rounds fl_Rounds_18 d_Rounds_add_75 ?_
      refine r_dup_x1 h d_Rounds_add_78 rfl rfl ?_
      refine r_iconst h d_Rounds_add_79 ki_1 ?_
      refine r_iadd h d_Rounds_add_80 ?_
      refine r_putI h fd_YC_64_2 cf_Rounds fl_Rounds_18 ⟨rfl, rfl⟩ d_Rounds_add_81 ?_
      exact r_ireturn h d_Rounds_add_84.1 (q_p1 hf) (q_p2 hf)
    · refine r_aload_n h d_Rounds_add_43 0 rfl rfl ?_
      refine r_getR h fd_YC_64_1 cf_Rounds fl_Rounds_15 d_Rounds_add_44 ?_
      refine r_aload_n h d_Rounds_add_47 0 rfl rfl ?_
      refine r_getI h fd_YC_64_2 cf_Rounds fl_Rounds_18 d_Rounds_add_48 ?_
      refine r_bipush h d_Rounds_add_51 kb_8 ?_
      refine r_imul h d_Rounds_add_53 ?_
      refine r_iload h d_Rounds_add_54 5 rfl ?_
      refine r_iadd h d_Rounds_add_56 ?_
      refine r_aload_n h d_Rounds_add_57 1 rfl rfl ?_
      refine r_iload_n h d_Rounds_add_58 2 rfl rfl ?_
      refine r_iload_n h d_Rounds_add_59 3 rfl rfl ?_
      refine r_iload h d_Rounds_add_60 5 rfl ?_
      refine r_iadd h d_Rounds_add_62 ?_
      obtain ⟨r63, e63, hf⟩ := q_bind hf
      refine r_callV (As := [.int x2, .int (x3 + x5)]) (rest := [.int (((σ.1 64 2) * (8 : Int32)) + x5), .ref (ya Z 66)]) h sh_YC_74 lk_Rounds_26 vk_Rounds_26 d_Rounds_add_63 (by decide) rfl rfl (Nat.le_of_ble_eq_true rfl) (m_Sheets_valueAt e63) ?_
      refine r_iast h sh_YC_66 d_Rounds_add_66 hf (fun hf => ?_)
      refine r_iinc (ls' := [(5, .int (x5 + (1 : Int32))), (0, .ref (ya Z 64)), (1, .ref (ya Z 74)), (2, .int x2), (3, .int x3), (4, .int x4)]) h d_Rounds_add_67 5 rfl ki_1 (by decide) rfl ?_
      refine r_goto h d_Rounds_add_70 ?_
      refine r_sub h [1, 2, 3, 4, 5, 0] rfl ?_
      exact ih _ _ hf

set_option maxHeartbeats 4000000 in
theorem m_Rounds_add {Z : Sy} {σ : St} {res : (Int32 × St)} {x2 : Int32} {x3 : Int32} {x4 : Int32} (hf : Rounds_add x2 x3 x4 σ = some res) : Ct YC Z y_Rounds_add c_Rounds_add 6 (some .int) 2 [.ref (ya Z 64), .ref (ya Z 74), .int x2, .int x3, .int x4] σ (some (.int res.1)) res.2 := by
  refine Ct.of pn_Rounds (Nat.le_of_ble_eq_true rfl) rfl (fun Γ h => ?_)
  have h : IsG YC Z R_Rounds c_Rounds_add 6 2 (some .int) (some (.int res.1)) res.2 Γ := h
  unfold Rounds_add at hf
  refine r_aload_n h d_Rounds_add_0 0 rfl rfl ?_
  refine r_getI h fd_YC_64_2 cf_Rounds fl_Rounds_18 d_Rounds_add_1 ?_
  refine r_aload_n h d_Rounds_add_4 0 rfl rfl ?_
  refine r_getR h fd_YC_64_0 cf_Rounds fl_Rounds_9 d_Rounds_add_5 ?_
  refine r_alen h sh_YC_65 kn_10 d_Rounds_add_8 ?_
  refine r_icmp_ge h d_Rounds_add_9 hf (fun hf => ?_) (fun hf => ?_)
  · refine r_bipush h d_Rounds_add_19 kb_m4 ?_
    exact r_ireturn h d_Rounds_add_21.1 (q_p1 hf) (q_p2 hf)
  · refine r_iload h d_Rounds_add_12 4 rfl ?_
    refine r_bipush h d_Rounds_add_14 kb_8 ?_
    refine r_icmp_le h d_Rounds_add_16 hf (fun hf => ?_) (fun hf => ?_)
    · refine r_aload_n h d_Rounds_add_22 0 rfl rfl ?_
      refine r_getR h fd_YC_64_0 cf_Rounds fl_Rounds_9 d_Rounds_add_23 ?_
      refine r_aload_n h d_Rounds_add_26 0 rfl rfl ?_
      refine r_getI h fd_YC_64_2 cf_Rounds fl_Rounds_18 d_Rounds_add_27 ?_
      refine r_iload h d_Rounds_add_30 4 rfl ?_
      refine r_iast h sh_YC_65 d_Rounds_add_32 hf (fun hf => ?_)
      refine r_iconst h d_Rounds_add_33 ki_0 ?_
      refine r_istore (ls' := [(5, .int (0 : Int32)), (0, .ref (ya Z 64)), (1, .ref (ya Z 74)), (2, .int x2), (3, .int x3), (4, .int x4)]) h d_Rounds_add_34 (by decide) rfl ?_
      refine r_sub h [1, 2, 3, 4, 5, 0] rfl ?_
      exact w_Rounds_add_L36 h _ _ _ hf
    · refine r_bipush h d_Rounds_add_19 kb_m4 ?_
      exact r_ireturn h d_Rounds_add_21.1 (q_p1 hf) (q_p2 hf)

theorem d_P_round_0 : decode c_P_round 0 = .ok (.aload_n 0, 1) ∧ 0 + 1 = 1 := by decide +kernel
theorem d_P_round_1 : decode c_P_round 1 = .ok (.iconst 0, 1) ∧ 1 + 1 = 2 := by decide +kernel
theorem d_P_round_2 : decode c_P_round 2 = .ok (.putfield 152, 3) ∧ 2 + 3 = 5 := by decide +kernel
theorem d_P_round_5 : decode c_P_round 5 = .ok (.aload_n 0, 1) ∧ 5 + 1 = 6 := by decide +kernel
theorem d_P_round_6 : decode c_P_round 6 = .ok (.getfield 92, 3) ∧ 6 + 3 = 9 := by decide +kernel
theorem d_P_round_9 : decode c_P_round 9 = .ok (.iload_n 1, 1) ∧ 9 + 1 = 10 := by decide +kernel
theorem d_P_round_10 : decode c_P_round 10 = .ok (.invokevirtual 156, 3) ∧ 10 + 3 = 13 := by decide +kernel
theorem d_P_round_13 : decode c_P_round 13 = .ok (.ifCond .ne 5, 3) ∧ 13 + 3 = 16 ∧ ((13 : Nat) : Int) + 5 = ((18 : Nat) : Int) := by decide +kernel
theorem d_P_round_16 : decode c_P_round 16 = .ok (.iconst (-1), 1) ∧ 16 + 1 = 17 := by decide +kernel
theorem d_P_round_17 : decode c_P_round 17 = .ok (.ireturn, 1) ∧ 17 + 1 = 18 := by decide +kernel
theorem d_P_round_18 : decode c_P_round 18 = .ok (.iload_n 2, 1) ∧ 18 + 1 = 19 := by decide +kernel
theorem d_P_round_19 : decode c_P_round 19 = .ok (.iconst 3, 1) ∧ 19 + 1 = 20 := by decide +kernel
theorem d_P_round_20 : decode c_P_round 20 = .ok (.invokestatic 96, 3) ∧ 20 + 3 = 23 := by decide +kernel
theorem d_P_round_23 : decode c_P_round 23 = .ok (.ifCond .ne 6, 3) ∧ 23 + 3 = 26 ∧ ((23 : Nat) : Int) + 6 = ((29 : Nat) : Int) := by decide +kernel
theorem d_P_round_26 : decode c_P_round 26 = .ok (.bipush (-2), 2) ∧ 26 + 2 = 28 := by decide +kernel
theorem d_P_round_28 : decode c_P_round 28 = .ok (.ireturn, 1) ∧ 28 + 1 = 29 := by decide +kernel
theorem d_P_round_29 : decode c_P_round 29 = .ok (.aload_n 0, 1) ∧ 29 + 1 = 30 := by decide +kernel
theorem d_P_round_30 : decode c_P_round 30 = .ok (.getfield 92, 3) ∧ 30 + 3 = 33 := by decide +kernel
theorem d_P_round_33 : decode c_P_round 33 = .ok (.iload_n 1, 1) ∧ 33 + 1 = 34 := by decide +kernel
theorem d_P_round_34 : decode c_P_round 34 = .ok (.iload_n 2, 1) ∧ 34 + 1 = 35 := by decide +kernel
theorem d_P_round_35 : decode c_P_round 35 = .ok (.iload_n 3, 1) ∧ 35 + 1 = 36 := by decide +kernel
theorem d_P_round_36 : decode c_P_round 36 = .ok (.iload 4, 2) ∧ 36 + 2 = 38 := by decide +kernel
theorem d_P_round_38 : decode c_P_round 38 = .ok (.i2l, 1) ∧ 38 + 1 = 39 := by decide +kernel
theorem d_P_round_39 : decode c_P_round 39 = .ok (.invokevirtual 159, 3) ∧ 39 + 3 = 42 := by decide +kernel
theorem d_P_round_42 : decode c_P_round 42 = .ok (.istore 5, 2) ∧ 42 + 2 = 44 := by decide +kernel
theorem d_P_round_44 : decode c_P_round 44 = .ok (.iload 5, 2) ∧ 44 + 2 = 46 := by decide +kernel
theorem d_P_round_46 : decode c_P_round 46 = .ok (.ifCond .eq 10, 3) ∧ 46 + 3 = 49 ∧ ((46 : Nat) : Int) + 10 = ((56 : Nat) : Int) := by decide +kernel
theorem d_P_round_49 : decode c_P_round 49 = .ok (.aload_n 0, 1) ∧ 49 + 1 = 50 := by decide +kernel
theorem d_P_round_50 : decode c_P_round 50 = .ok (.iload 5, 2) ∧ 50 + 2 = 52 := by decide +kernel
theorem d_P_round_52 : decode c_P_round 52 = .ok (.invokevirtual 163, 3) ∧ 52 + 3 = 55 := by decide +kernel
theorem d_P_round_55 : decode c_P_round 55 = .ok (.ireturn, 1) ∧ 55 + 1 = 56 := by decide +kernel
theorem d_P_round_56 : decode c_P_round 56 = .ok (.iload 4, 2) ∧ 56 + 2 = 58 := by decide +kernel
theorem d_P_round_58 : decode c_P_round 58 = .ok (.iconst 1, 1) ∧ 58 + 1 = 59 := by decide +kernel
theorem d_P_round_59 : decode c_P_round 59 = .ok (.if_icmp .lt 10, 3) ∧ 59 + 3 = 62 ∧ ((59 : Nat) : Int) + 10 = ((69 : Nat) : Int) := by decide +kernel
theorem d_P_round_62 : decode c_P_round 62 = .ok (.iload 4, 2) ∧ 62 + 2 = 64 := by decide +kernel
theorem d_P_round_64 : decode c_P_round 64 = .ok (.bipush 8, 2) ∧ 64 + 2 = 66 := by decide +kernel
theorem d_P_round_66 : decode c_P_round 66 = .ok (.if_icmp .le 6, 3) ∧ 66 + 3 = 69 ∧ ((66 : Nat) : Int) + 6 = ((72 : Nat) : Int) := by decide +kernel
theorem d_P_round_69 : decode c_P_round 69 = .ok (.bipush (-2), 2) ∧ 69 + 2 = 71 := by decide +kernel
theorem d_P_round_71 : decode c_P_round 71 = .ok (.ireturn, 1) ∧ 71 + 1 = 72 := by decide +kernel
theorem d_P_round_72 : decode c_P_round 72 = .ok (.iconst 0, 1) ∧ 72 + 1 = 73 := by decide +kernel
theorem d_P_round_73 : decode c_P_round 73 = .ok (.istore 6, 2) ∧ 73 + 2 = 75 := by decide +kernel
theorem d_P_round_75 : decode c_P_round 75 = .ok (.iload 6, 2) ∧ 75 + 2 = 77 := by decide +kernel
theorem d_P_round_77 : decode c_P_round 77 = .ok (.iload 4, 2) ∧ 77 + 2 = 79 := by decide +kernel
theorem d_P_round_79 : decode c_P_round 79 = .ok (.if_icmp .ge 33, 3) ∧ 79 + 3 = 82 ∧ ((79 : Nat) : Int) + 33 = ((112 : Nat) : Int) := by decide +kernel
theorem d_P_round_82 : decode c_P_round 82 = .ok (.aload_n 0, 1) ∧ 82 + 1 = 83 := by decide +kernel
theorem d_P_round_83 : decode c_P_round 83 = .ok (.getfield 12, 3) ∧ 83 + 3 = 86 := by decide +kernel
theorem d_P_round_86 : decode c_P_round 86 = .ok (.aload_n 0, 1) ∧ 86 + 1 = 87 := by decide +kernel
theorem d_P_round_87 : decode c_P_round 87 = .ok (.getfield 92, 3) ∧ 87 + 3 = 90 := by decide +kernel
theorem d_P_round_90 : decode c_P_round 90 = .ok (.iload_n 1, 1) ∧ 90 + 1 = 91 := by decide +kernel
theorem d_P_round_91 : decode c_P_round 91 = .ok (.iload_n 3, 1) ∧ 91 + 1 = 92 := by decide +kernel
theorem d_P_round_92 : decode c_P_round 92 = .ok (.iload 6, 2) ∧ 92 + 2 = 94 := by decide +kernel
theorem d_P_round_94 : decode c_P_round 94 = .ok (.iadd, 1) ∧ 94 + 1 = 95 := by decide +kernel
theorem d_P_round_95 : decode c_P_round 95 = .ok (.invokevirtual 172, 3) ∧ 95 + 3 = 98 := by decide +kernel
theorem d_P_round_98 : decode c_P_round 98 = .ok (.invokevirtual 116, 3) ∧ 98 + 3 = 101 := by decide +kernel
theorem d_P_round_101 : decode c_P_round 101 = .ok (.ifCond .ne 5, 3) ∧ 101 + 3 = 104 ∧ ((101 : Nat) : Int) + 5 = ((106 : Nat) : Int) := by decide +kernel
theorem d_P_round_104 : decode c_P_round 104 = .ok (.iconst (-1), 1) ∧ 104 + 1 = 105 := by decide +kernel
theorem d_P_round_105 : decode c_P_round 105 = .ok (.ireturn, 1) ∧ 105 + 1 = 106 := by decide +kernel
theorem d_P_round_106 : decode c_P_round 106 = .ok (.iinc 6 1, 3) ∧ 106 + 3 = 109 := by decide +kernel
theorem d_P_round_109 : decode c_P_round 109 = .ok (.goto (-34), 3) ∧ (109 : Int) + (-34) = (75 : Int) := by decide +kernel
theorem d_P_round_112 : decode c_P_round 112 = .ok (.aload_n 0, 1) ∧ 112 + 1 = 113 := by decide +kernel
theorem d_P_round_113 : decode c_P_round 113 = .ok (.getfield 78, 3) ∧ 113 + 3 = 116 := by decide +kernel
theorem d_P_round_116 : decode c_P_round 116 = .ok (.aload_n 0, 1) ∧ 116 + 1 = 117 := by decide +kernel
theorem d_P_round_117 : decode c_P_round 117 = .ok (.getfield 92, 3) ∧ 117 + 3 = 120 := by decide +kernel
theorem d_P_round_120 : decode c_P_round 120 = .ok (.iload_n 1, 1) ∧ 120 + 1 = 121 := by decide +kernel
theorem d_P_round_121 : decode c_P_round 121 = .ok (.iload_n 3, 1) ∧ 121 + 1 = 122 := by decide +kernel
theorem d_P_round_122 : decode c_P_round 122 = .ok (.iload 4, 2) ∧ 122 + 2 = 124 := by decide +kernel
theorem d_P_round_124 : decode c_P_round 124 = .ok (.invokevirtual 347, 3) ∧ 124 + 3 = 127 := by decide +kernel
theorem d_P_round_127 : decode c_P_round 127 = .ok (.ireturn, 1) ∧ 127 + 1 = 128 := by decide +kernel
set_option maxHeartbeats 4000000 in
theorem w_P_round_L75 {Z : Sy} {Γ : Nat → List (Nat × Value) → List Value → St → Prop} {res : (Int32 × St)} {x1 : Int32} {x3 : Int32} {x4 : Int32} {σ : St} (h : IsG YC Z R_P c_P_round 7 3 (some .int) (some (.int res.1)) res.2 Γ) : ∀ (n : Nat) (x6 : Int32), P_round_L75 x1 x3 x4 σ n x6 = some res → Γ 75 [(0, .ref (ya Z 0)), (1, .int x1), (3, .int x3), (4, .int x4), (6, .int x6)] [] σ := by
  intro n
  induction n with
  | zero => intro x6 hf; exact absurd hf (by simp [P_round_L75])
  | succ n ih =>
    intro x6 hf
    rw [P_round_L75] at hf
    refine r_iload h d_P_round_75 4 rfl ?_
    refine r_iload h d_P_round_77 3 rfl ?_
    refine r_icmp_ge h d_P_round_79 hf (fun hf => ?_) (fun hf => ?_)
    · refine r_aload_n h d_P_round_112 0 rfl rfl ?_
      refine r_getR h fd_YC_0_10 cf_P fl_P_78 d_P_round_113 ?_
      refine r_aload_n h d_P_round_116 0 rfl rfl ?_
      refine r_getR h fd_YC_0_12 cf_P fl_P_92 d_P_round_117 ?_
      refine r_iload_n h d_P_round_120 1 rfl rfl ?_
      refine r_iload_n h d_P_round_121 2 rfl rfl ?_
      refine r_iload h d_P_round_122 3 rfl ?_
      obtain ⟨q124, e124, hf⟩ := q_bind hf
      refine r_callV (As := [.ref (ya Z 74), .int x1, .int x3, .int x4]) (rest := []) h sh_YC_64 lk_P_347 vk_P_347 d_P_round_124 (by decide) rfl rfl (Nat.le_of_ble_eq_true rfl) (m_Rounds_add e124) ?_
      exact r_ireturn h d_P_round_127.1 (q_p1 hf) (q_p2 hf)
    · refine r_aload_n h d_P_round_82 0 rfl rfl ?_
      refine r_getR h fd_YC_0_0 cf_P fl_P_12 d_P_round_83 ?_
      refine r_aload_n h d_P_round_86 0 rfl rfl ?_
      refine r_getR h fd_YC_0_12 cf_P fl_P_92 d_P_round_87 ?_
      refine r_iload_n h d_P_round_90 1 rfl rfl ?_
      refine r_iload_n h d_P_round_91 2 rfl rfl ?_
      refine r_iload h d_P_round_92 4 rfl ?_
      refine r_iadd h d_P_round_94 ?_
      obtain ⟨r95, e95, hf⟩ := q_bind hf
      refine r_callV (As := [.int x1, .int (x3 + x6)]) (rest := [.ref (ya Z 1)]) h sh_YC_74 lk_P_172 vk_P_172 d_P_round_95 (by decide) rfl rfl (Nat.le_of_ble_eq_true rfl) (m_Sheets_valueAt e95) ?_
      obtain ⟨r98, e98, hf⟩ := q_bind hf
      refine r_callV (As := [.int r95]) (rest := []) h sh_YC_1 lk_P_116 vk_P_116 d_P_round_98 (by decide) rfl rfl (Nat.le_of_ble_eq_true rfl) (m_Roll_hasPlace e98) ?_
      refine r_bif_ne h d_P_round_101 hf (fun hf => ?_) (fun hf => ?_)
      · refine r_iinc (ls' := [(6, .int (x6 + (1 : Int32))), (0, .ref (ya Z 0)), (1, .int x1), (3, .int x3), (4, .int x4)]) h d_P_round_106 4 rfl ki_1 (by decide) rfl ?_
        refine r_goto h d_P_round_109 ?_
        refine r_sub h [1, 2, 3, 4, 0] rfl ?_
        exact ih _ hf
      · refine r_iconst h d_P_round_104 ki_m1 ?_
        exact r_ireturn h d_P_round_105.1 (q_p1 hf) (q_p2 hf)

set_option maxHeartbeats 4000000 in
theorem m_P_round {Z : Sy} {σ : St} {res : (Int32 × St)} {x1 : Int32} {x2 : Int32} {x3 : Int32} {x4 : Int32} (hf : P_round x1 x2 x3 x4 σ = some res) : Ct YC Z y_P_round c_P_round 7 (some .int) 3 [.ref (ya Z 0), .int x1, .int x2, .int x3, .int x4] σ (some (.int res.1)) res.2 := by
  refine Ct.of pn_P (Nat.le_of_ble_eq_true rfl) rfl (fun Γ h => ?_)
  have h : IsG YC Z R_P c_P_round 7 3 (some .int) (some (.int res.1)) res.2 Γ := h
  unfold P_round at hf
  refine r_aload_n h d_P_round_0 0 rfl rfl ?_
  refine r_iconst h d_P_round_1 ki_0 ?_
  refine r_putI h fd_YC_0_13 cf_P fl_P_152 ⟨rfl, rfl⟩ d_P_round_2 ?_
  refine r_aload_n h d_P_round_5 0 rfl rfl ?_
  refine r_getR h fd_YC_0_12 cf_P fl_P_92 d_P_round_6 ?_
  refine r_iload_n h d_P_round_9 1 rfl rfl ?_
  obtain ⟨r10, e10, hf⟩ := q_bind hf
  refine r_callV (As := [.int x1]) (rest := []) h sh_YC_74 lk_P_156 vk_P_156 d_P_round_10 (by decide) rfl rfl (Nat.le_of_ble_eq_true rfl) (m_Sheets_has e10) ?_
  refine r_bif_ne h d_P_round_13 hf (fun hf => ?_) (fun hf => ?_)
  · refine r_iload_n h d_P_round_18 2 rfl rfl ?_
    refine r_iconst h d_P_round_19 ki_3 ?_
    obtain ⟨r20, e20, hf⟩ := q_bind hf
    refine r_callS (As := [.int x2, .int (3 : Int32)]) (rest := []) h lk_P_96 sk_P_96 d_P_round_20 (by decide) rfl rfl (Nat.le_of_ble_eq_true rfl) (m_P_isBelow e20) ?_
    refine r_bif_ne h d_P_round_23 hf (fun hf => ?_) (fun hf => ?_)
    · refine r_aload_n h d_P_round_29 0 rfl rfl ?_
      refine r_getR h fd_YC_0_12 cf_P fl_P_92 d_P_round_30 ?_
      refine r_iload_n h d_P_round_33 1 rfl rfl ?_
      refine r_iload_n h d_P_round_34 2 rfl rfl ?_
      refine r_iload_n h d_P_round_35 3 rfl rfl ?_
      refine r_iload h d_P_round_36 4 rfl ?_
      refine r_i2l h d_P_round_38 ?_
      obtain ⟨r39, e39, hf⟩ := q_bind hf
      refine r_callV (As := [.int x1, .int x2, .int x3, .long (Int32.toInt64 x4)]) (rest := []) h sh_YC_74 lk_P_159 vk_P_159 d_P_round_39 (by decide) rfl rfl (Nat.le_of_ble_eq_true rfl) (m_Sheets_takingFault e39) ?_
      refine r_istore (ls' := [(5, .int r39), (0, .ref (ya Z 0)), (1, .int x1), (2, .int x2), (3, .int x3), (4, .int x4)]) h d_P_round_42 (by decide) rfl ?_
      refine r_iload h d_P_round_44 0 rfl ?_
      refine r_if_eq h d_P_round_46 hf (fun hf => ?_) (fun hf => ?_)
      · refine r_iload h d_P_round_56 5 rfl ?_
        refine r_iconst h d_P_round_58 ki_1 ?_
        refine r_icmp_lt h d_P_round_59 hf (fun hf => ?_) (fun hf => ?_)
        · refine r_bipush h d_P_round_69 kb_m2 ?_
          exact r_ireturn h d_P_round_71.1 (q_p1 hf) (q_p2 hf)
        · refine r_iload h d_P_round_62 5 rfl ?_
          refine r_bipush h d_P_round_64 kb_8 ?_
          refine r_icmp_le h d_P_round_66 hf (fun hf => ?_) (fun hf => ?_)
          · refine r_iconst h d_P_round_72 ki_0 ?_
            refine r_istore (ls' := [(6, .int (0 : Int32)), (5, .int r39), (0, .ref (ya Z 0)), (1, .int x1), (2, .int x2), (3, .int x3), (4, .int x4)]) h d_P_round_73 (by decide) rfl ?_
            refine r_sub h [2, 3, 5, 6, 0] rfl ?_
            exact w_P_round_L75 h _ _ hf
          · refine r_bipush h d_P_round_69 kb_m2 ?_
            exact r_ireturn h d_P_round_71.1 (q_p1 hf) (q_p2 hf)
      · refine r_aload_n h d_P_round_49 1 rfl rfl ?_
        refine r_iload h d_P_round_50 0 rfl ?_
        obtain ⟨q52, e52, hf⟩ := q_bind hf
        refine r_callV (As := [.int r39]) (rest := []) h sh_YC_0 lk_P_163 vk_P_163 d_P_round_52 (by decide) rfl rfl (Nat.le_of_ble_eq_true rfl) (m_P_faulted e52) ?_
        exact r_ireturn h d_P_round_55.1 (q_p1 hf) (q_p2 hf)
    · refine r_bipush h d_P_round_26 kb_m2 ?_
      exact r_ireturn h d_P_round_28.1 (q_p1 hf) (q_p2 hf)
  · refine r_iconst h d_P_round_16 ki_m1 ?_
    exact r_ireturn h d_P_round_17.1 (q_p1 hf) (q_p2 hf)

theorem d_Rounds_has_0 : decode c_Rounds_has 0 = .ok (.iload_n 1, 1) ∧ 0 + 1 = 1 := by decide +kernel
theorem d_Rounds_has_1 : decode c_Rounds_has 1 = .ok (.aload_n 0, 1) ∧ 1 + 1 = 2 := by decide +kernel
theorem d_Rounds_has_2 : decode c_Rounds_has 2 = .ok (.getfield 18, 3) ∧ 2 + 3 = 5 := by decide +kernel
theorem d_Rounds_has_5 : decode c_Rounds_has 5 = .ok (.invokestatic 22, 3) ∧ 5 + 3 = 8 := by decide +kernel
theorem d_Rounds_has_8 : decode c_Rounds_has 8 = .ok (.ireturn, 1) ∧ 8 + 1 = 9 := by decide +kernel
set_option maxHeartbeats 4000000 in
theorem m_Rounds_has {Z : Sy} {σ : St} {res : Bool} {x1 : Int32} (hf : Rounds_has x1 σ = some res) : Ct YC Z y_Rounds_has c_Rounds_has 2 (some .boolean) 2 [.ref (ya Z 64), .int x1] σ (some (.int (bi res))) σ := by
  refine Ct.of pn_Rounds (Nat.le_of_ble_eq_true rfl) rfl (fun Γ h => ?_)
  have h : IsG YC Z R_Rounds c_Rounds_has 2 2 (some .boolean) (some (.int (bi res))) σ Γ := h
  unfold Rounds_has at hf
  refine r_iload_n h d_Rounds_has_0 1 rfl rfl ?_
  refine r_aload_n h d_Rounds_has_1 0 rfl rfl ?_
  refine r_getI h fd_YC_64_2 cf_Rounds fl_Rounds_18 d_Rounds_has_2 ?_
  obtain ⟨r5, e5, hf⟩ := q_bind hf
  refine r_callN (As := [.int x1, .int (σ.1 64 2)]) (rest := []) h lk_Rounds_22 nk_Rounds_22 d_Rounds_has_5 (by decide) rfl rfl (Nat.le_of_ble_eq_true rfl) (m_P_isBelow e5) ?_
  exact r_zreturn h d_Rounds_has_8.1 (congrArg bi (Option.some.inj hf)) rfl

set_option maxHeartbeats 4000000 in
theorem m_Spans_add_rights {Z : Sy} {σ : St} {res : (Int32 × St)} {x1 : Int32} {x2 : Int32} {x3 : Int32} {x4 : Int32} (hf : Spans_add_rights x1 x2 x3 x4 σ = some res) : Ct YC Z y_Spans_add c_Spans_add 5 (some .int) 1 [.ref (ya Z 16), .int x1, .int x2, .int x3, .int x4] σ (some (.int res.1)) res.2 := by
  refine Ct.of pn_Spans (Nat.le_of_ble_eq_true rfl) rfl (fun Γ h => ?_)
  have h : IsG YC Z R_Spans c_Spans_add 5 1 (some .int) (some (.int res.1)) res.2 Γ := h
  unfold Spans_add_rights at hf
  refine r_aload_n h d_Spans_add_0 0 rfl rfl ?_
  refine r_getI h fd_YC_16_4 cf_Spans fl_Spans_30 d_Spans_add_1 ?_
  refine r_aload_n h d_Spans_add_4 0 rfl rfl ?_
  refine r_getR h fd_YC_16_0 cf_Spans fl_Spans_15 d_Spans_add_5 ?_
  refine r_alen h sh_YC_17 kn_20 d_Spans_add_8 ?_
  refine r_icmp_lt h d_Spans_add_9 hf (fun hf => ?_) (fun hf => ?_)
  · refine r_aload_n h d_Spans_add_15 0 rfl rfl ?_
    refine r_getR h fd_YC_16_0 cf_Spans fl_Spans_15 d_Spans_add_16 ?_
    refine r_aload_n h d_Spans_add_19 0 rfl rfl ?_
    refine r_getI h fd_YC_16_4 cf_Spans fl_Spans_30 d_Spans_add_20 ?_
    refine r_iload_n h d_Spans_add_23 1 rfl rfl ?_
    refine r_iast h sh_YC_17 d_Spans_add_24 hf (fun hf => ?_)
    refine r_aload_n h d_Spans_add_25 0 rfl rfl ?_
    refine r_getR h fd_YC_16_1 cf_Spans fl_Spans_21 d_Spans_add_26 ?_
    refine r_aload_n h d_Spans_add_29 0 rfl rfl ?_
    refine r_getIv (v := (σ.1 16 4)) h fd_YC_16_4 cf_Spans fl_Spans_30 d_Spans_add_30 rfl ?_
    refine r_iload_n h d_Spans_add_33 2 rfl rfl ?_
    refine r_iast h sh_YC_18 d_Spans_add_34 hf (fun hf => ?_)
    refine r_aload_n h d_Spans_add_35 0 rfl rfl ?_
    refine r_getR h fd_YC_16_2 cf_Spans fl_Spans_24 d_Spans_add_36 ?_
    refine r_aload_n h d_Spans_add_39 0 rfl rfl ?_
    refine r_getIv (v := (σ.1 16 4)) h fd_YC_16_4 cf_Spans fl_Spans_30 d_Spans_add_40 rfl ?_
    refine r_iload_n h d_Spans_add_43 3 rfl rfl ?_
    refine r_iast h sh_YC_19 d_Spans_add_44 hf (fun hf => ?_)
    refine r_aload_n h d_Spans_add_45 0 rfl rfl ?_
    refine r_getR h fd_YC_16_3 cf_Spans fl_Spans_27 d_Spans_add_46 ?_
    refine r_aload_n h d_Spans_add_49 0 rfl rfl ?_
    refine r_getIv (v := (σ.1 16 4)) h fd_YC_16_4 cf_Spans fl_Spans_30 d_Spans_add_50 rfl ?_
    refine r_iload h d_Spans_add_53 4 rfl ?_
    refine r_iast h sh_YC_20 d_Spans_add_55 hf (fun hf => ?_)
    refine r_aload_n h d_Spans_add_56 0 rfl rfl ?_
    refine r_dup h d_Spans_add_57 rfl ?_
    refine r_getIv (v := (σ.1 16 4)) h fd_YC_16_4 cf_Spans fl_Spans_30 d_Spans_add_58 rfl ?_
    refine r_iconst h d_Spans_add_61 ki_1 ?_
    refine r_iadd h d_Spans_add_62 ?_
    refine r_putI h fd_YC_16_4 cf_Spans fl_Spans_30 ⟨rfl, rfl⟩ d_Spans_add_63 ?_
    refine r_aload_n h d_Spans_add_66 0 rfl rfl ?_
    refine r_getIv (v := ((σ.1 16 4) + (1 : Int32))) h fd_YC_16_4 cf_Spans fl_Spans_30 d_Spans_add_67 rfl ?_
    exact r_ireturn h d_Spans_add_70.1 (q_p1 hf) (q_p2 hf)
  · refine r_bipush h d_Spans_add_12 kb_m4 ?_
    exact r_ireturn h d_Spans_add_14.1 (q_p1 hf) (q_p2 hf)

theorem d_P_right_0 : decode c_P_right 0 = .ok (.aload_n 0, 1) ∧ 0 + 1 = 1 := by decide +kernel
theorem d_P_right_1 : decode c_P_right 1 = .ok (.getfield 12, 3) ∧ 1 + 3 = 4 := by decide +kernel
theorem d_P_right_4 : decode c_P_right 4 = .ok (.iload_n 1, 1) ∧ 4 + 1 = 5 := by decide +kernel
theorem d_P_right_5 : decode c_P_right 5 = .ok (.invokevirtual 112, 3) ∧ 5 + 3 = 8 := by decide +kernel
theorem d_P_right_8 : decode c_P_right 8 = .ok (.ifCond .eq 14, 3) ∧ 8 + 3 = 11 ∧ ((8 : Nat) : Int) + 14 = ((22 : Nat) : Int) := by decide +kernel
theorem d_P_right_11 : decode c_P_right 11 = .ok (.aload_n 0, 1) ∧ 11 + 1 = 12 := by decide +kernel
theorem d_P_right_12 : decode c_P_right 12 = .ok (.getfield 78, 3) ∧ 12 + 3 = 15 := by decide +kernel
theorem d_P_right_15 : decode c_P_right 15 = .ok (.iload_n 2, 1) ∧ 15 + 1 = 16 := by decide +kernel
theorem d_P_right_16 : decode c_P_right 16 = .ok (.invokevirtual 349, 3) ∧ 16 + 3 = 19 := by decide +kernel
theorem d_P_right_19 : decode c_P_right 19 = .ok (.ifCond .ne 5, 3) ∧ 19 + 3 = 22 ∧ ((19 : Nat) : Int) + 5 = ((24 : Nat) : Int) := by decide +kernel
theorem d_P_right_22 : decode c_P_right 22 = .ok (.iconst (-1), 1) ∧ 22 + 1 = 23 := by decide +kernel
theorem d_P_right_23 : decode c_P_right 23 = .ok (.ireturn, 1) ∧ 23 + 1 = 24 := by decide +kernel
theorem d_P_right_24 : decode c_P_right 24 = .ok (.iload_n 3, 1) ∧ 24 + 1 = 25 := by decide +kernel
theorem d_P_right_25 : decode c_P_right 25 = .ok (.iconst 3, 1) ∧ 25 + 1 = 26 := by decide +kernel
theorem d_P_right_26 : decode c_P_right 26 = .ok (.invokestatic 96, 3) ∧ 26 + 3 = 29 := by decide +kernel
theorem d_P_right_29 : decode c_P_right 29 = .ok (.ifCond .eq 13, 3) ∧ 29 + 3 = 32 ∧ ((29 : Nat) : Int) + 13 = ((42 : Nat) : Int) := by decide +kernel
theorem d_P_right_32 : decode c_P_right 32 = .ok (.iload 4, 2) ∧ 32 + 2 = 34 := by decide +kernel
theorem d_P_right_34 : decode c_P_right 34 = .ok (.iload 5, 2) ∧ 34 + 2 = 36 := by decide +kernel
theorem d_P_right_36 : decode c_P_right 36 = .ok (.invokestatic 119, 3) ∧ 36 + 3 = 39 := by decide +kernel
theorem d_P_right_39 : decode c_P_right 39 = .ok (.ifCond .ne 6, 3) ∧ 39 + 3 = 42 ∧ ((39 : Nat) : Int) + 6 = ((45 : Nat) : Int) := by decide +kernel
theorem d_P_right_42 : decode c_P_right 42 = .ok (.bipush (-2), 2) ∧ 42 + 2 = 44 := by decide +kernel
theorem d_P_right_44 : decode c_P_right 44 = .ok (.ireturn, 1) ∧ 44 + 1 = 45 := by decide +kernel
theorem d_P_right_45 : decode c_P_right 45 = .ok (.aload_n 0, 1) ∧ 45 + 1 = 46 := by decide +kernel
theorem d_P_right_46 : decode c_P_right 46 = .ok (.getfield 30, 3) ∧ 46 + 3 = 49 := by decide +kernel
theorem d_P_right_49 : decode c_P_right 49 = .ok (.iload_n 1, 1) ∧ 49 + 1 = 50 := by decide +kernel
theorem d_P_right_50 : decode c_P_right 50 = .ok (.iload_n 2, 1) ∧ 50 + 1 = 51 := by decide +kernel
theorem d_P_right_51 : decode c_P_right 51 = .ok (.iload 4, 2) ∧ 51 + 2 = 53 := by decide +kernel
theorem d_P_right_53 : decode c_P_right 53 = .ok (.iload 5, 2) ∧ 53 + 2 = 55 := by decide +kernel
theorem d_P_right_55 : decode c_P_right 55 = .ok (.invokevirtual 130, 3) ∧ 55 + 3 = 58 := by decide +kernel
theorem d_P_right_58 : decode c_P_right 58 = .ok (.ireturn, 1) ∧ 58 + 1 = 59 := by decide +kernel
set_option maxHeartbeats 4000000 in
theorem m_P_right {Z : Sy} {σ : St} {res : (Int32 × St)} {x1 : Int32} {x2 : Int32} {x3 : Int32} {x4 : Int32} {x5 : Int32} (hf : P_right x1 x2 x3 x4 x5 σ = some res) : Ct YC Z y_P_right c_P_right 6 (some .int) 3 [.ref (ya Z 0), .int x1, .int x2, .int x3, .int x4, .int x5] σ (some (.int res.1)) res.2 := by
  refine Ct.of pn_P (Nat.le_of_ble_eq_true rfl) rfl (fun Γ h => ?_)
  have h : IsG YC Z R_P c_P_right 6 3 (some .int) (some (.int res.1)) res.2 Γ := h
  unfold P_right at hf
  refine r_aload_n h d_P_right_0 0 rfl rfl ?_
  refine r_getR h fd_YC_0_0 cf_P fl_P_12 d_P_right_1 ?_
  refine r_iload_n h d_P_right_4 1 rfl rfl ?_
  obtain ⟨r5, e5, hf⟩ := q_bind hf
  refine r_callV (As := [.int x1]) (rest := []) h sh_YC_1 lk_P_112 vk_P_112 d_P_right_5 (by decide) rfl rfl (Nat.le_of_ble_eq_true rfl) (m_Roll_hasBand e5) ?_
  refine r_bif_eq h d_P_right_8 hf (fun hf => ?_) (fun hf => ?_)
  · refine r_iconst h d_P_right_22 ki_m1 ?_
    exact r_ireturn h d_P_right_23.1 (q_p1 hf) (q_p2 hf)
  · refine r_aload_n h d_P_right_11 0 rfl rfl ?_
    refine r_getR h fd_YC_0_10 cf_P fl_P_78 d_P_right_12 ?_
    refine r_iload_n h d_P_right_15 2 rfl rfl ?_
    obtain ⟨r16, e16, hf⟩ := q_bind hf
    refine r_callV (As := [.int x2]) (rest := []) h sh_YC_64 lk_P_349 vk_P_349 d_P_right_16 (by decide) rfl rfl (Nat.le_of_ble_eq_true rfl) (m_Rounds_has e16) ?_
    refine r_bif_ne h d_P_right_19 hf (fun hf => ?_) (fun hf => ?_)
    · refine r_iload_n h d_P_right_24 3 rfl rfl ?_
      refine r_iconst h d_P_right_25 ki_3 ?_
      obtain ⟨r26, e26, hf⟩ := q_bind hf
      refine r_callS (As := [.int x3, .int (3 : Int32)]) (rest := []) h lk_P_96 sk_P_96 d_P_right_26 (by decide) rfl rfl (Nat.le_of_ble_eq_true rfl) (m_P_isBelow e26) ?_
      refine r_bif_eq h d_P_right_29 hf (fun hf => ?_) (fun hf => ?_)
      · refine r_bipush h d_P_right_42 kb_m2 ?_
        exact r_ireturn h d_P_right_44.1 (q_p1 hf) (q_p2 hf)
      · refine r_iload h d_P_right_32 4 rfl ?_
        refine r_iload h d_P_right_34 5 rfl ?_
        obtain ⟨r36, e36, hf⟩ := q_bind hf
        refine r_callS (As := [.int x4, .int x5]) (rest := []) h lk_P_119 sk_P_119 d_P_right_36 (by decide) rfl rfl (Nat.le_of_ble_eq_true rfl) (m_P_areDays e36) ?_
        refine r_bif_ne h d_P_right_39 hf (fun hf => ?_) (fun hf => ?_)
        · refine r_aload_n h d_P_right_45 0 rfl rfl ?_
          refine r_getR h fd_YC_0_3 cf_P fl_P_30 d_P_right_46 ?_
          refine r_iload_n h d_P_right_49 1 rfl rfl ?_
          refine r_iload_n h d_P_right_50 2 rfl rfl ?_
          refine r_iload h d_P_right_51 4 rfl ?_
          refine r_iload h d_P_right_53 5 rfl ?_
          obtain ⟨q55, e55, hf⟩ := q_bind hf
          refine r_callV (As := [.int x1, .int x2, .int x4, .int x5]) (rest := []) h sh_YC_16 lk_P_130 vk_P_130 d_P_right_55 (by decide) rfl rfl (Nat.le_of_ble_eq_true rfl) (m_Spans_add_rights e55) ?_
          exact r_ireturn h d_P_right_58.1 (q_p1 hf) (q_p2 hf)
        · refine r_bipush h d_P_right_42 kb_m2 ?_
          exact r_ireturn h d_P_right_44.1 (q_p1 hf) (q_p2 hf)
    · refine r_iconst h d_P_right_22 ki_m1 ?_
      exact r_ireturn h d_P_right_23.1 (q_p1 hf) (q_p2 hf)

set_option maxHeartbeats 4000000 in
theorem m_Spans_covers_rights {Z : Sy} {σ : St} {res : Bool} {x1 : Int32} {x2 : Int32} (hf : Spans_covers_rights x1 x2 σ = some res) : Ct YC Z y_Spans_covers c_Spans_covers 3 (some .boolean) 1 [.ref (ya Z 16), .int x1, .int x2] σ (some (.int (bi res))) σ := by
  refine Ct.of pn_Spans (Nat.le_of_ble_eq_true rfl) rfl (fun Γ h => ?_)
  have h : IsG YC Z R_Spans c_Spans_covers 3 1 (some .boolean) (some (.int (bi res))) σ Γ := h
  unfold Spans_covers_rights at hf
  refine r_aload_n h d_Spans_covers_0 0 rfl rfl ?_
  refine r_getR h fd_YC_16_2 cf_Spans fl_Spans_24 d_Spans_covers_1 ?_
  refine r_iload_n h d_Spans_covers_4 1 rfl rfl ?_
  refine r_iald h sh_YC_19 d_Spans_covers_5 hf (fun hf => ?_)
  refine r_iload_n h d_Spans_covers_6 2 rfl rfl ?_
  refine r_icmp_gt h d_Spans_covers_7 hf (fun hf => ?_) (fun hf => ?_)
  · refine r_iconst h d_Spans_covers_24 ki_0 ?_
    exact r_zreturn h d_Spans_covers_25.1 ((show (0 : Int32) = bi false from rfl).trans (congrArg bi (Option.some.inj hf))) rfl
  · refine r_iload_n h d_Spans_covers_10 2 rfl rfl ?_
    refine r_aload_n h d_Spans_covers_11 0 rfl rfl ?_
    refine r_getR h fd_YC_16_3 cf_Spans fl_Spans_27 d_Spans_covers_12 ?_
    refine r_iload_n h d_Spans_covers_15 1 rfl rfl ?_
    refine r_iald h sh_YC_20 d_Spans_covers_16 hf (fun hf => ?_)
    refine r_icmp_gt h d_Spans_covers_17 hf (fun hf => ?_) (fun hf => ?_)
    · refine r_iconst h d_Spans_covers_24 ki_0 ?_
      exact r_zreturn h d_Spans_covers_25.1 ((show (0 : Int32) = bi false from rfl).trans (congrArg bi (Option.some.inj hf))) rfl
    · refine r_iconst h d_Spans_covers_20 ki_1 ?_
      refine r_goto h d_Spans_covers_21 ?_
      exact r_zreturn h d_Spans_covers_25.1 ((show (1 : Int32) = bi true from rfl).trans (congrArg bi (Option.some.inj hf))) rfl

theorem d_Spans_latestWho_0 : decode c_Spans_latestWho 0 = .ok (.aload_n 0, 1) ∧ 0 + 1 = 1 := by decide +kernel
theorem d_Spans_latestWho_1 : decode c_Spans_latestWho 1 = .ok (.getfield 30, 3) ∧ 1 + 3 = 4 := by decide +kernel
theorem d_Spans_latestWho_4 : decode c_Spans_latestWho 4 = .ok (.iconst 1, 1) ∧ 4 + 1 = 5 := by decide +kernel
theorem d_Spans_latestWho_5 : decode c_Spans_latestWho 5 = .ok (.isub, 1) ∧ 5 + 1 = 6 := by decide +kernel
theorem d_Spans_latestWho_6 : decode c_Spans_latestWho 6 = .ok (.istore_n 3, 1) ∧ 6 + 1 = 7 := by decide +kernel
theorem d_Spans_latestWho_7 : decode c_Spans_latestWho 7 = .ok (.iload_n 3, 1) ∧ 7 + 1 = 8 := by decide +kernel
theorem d_Spans_latestWho_8 : decode c_Spans_latestWho 8 = .ok (.ifCond .lt 35, 3) ∧ 8 + 3 = 11 ∧ ((8 : Nat) : Int) + 35 = ((43 : Nat) : Int) := by decide +kernel
theorem d_Spans_latestWho_11 : decode c_Spans_latestWho 11 = .ok (.aload_n 0, 1) ∧ 11 + 1 = 12 := by decide +kernel
theorem d_Spans_latestWho_12 : decode c_Spans_latestWho 12 = .ok (.getfield 21, 3) ∧ 12 + 3 = 15 := by decide +kernel
theorem d_Spans_latestWho_15 : decode c_Spans_latestWho 15 = .ok (.iload_n 3, 1) ∧ 15 + 1 = 16 := by decide +kernel
theorem d_Spans_latestWho_16 : decode c_Spans_latestWho 16 = .ok (.iaload, 1) ∧ 16 + 1 = 17 := by decide +kernel
theorem d_Spans_latestWho_17 : decode c_Spans_latestWho 17 = .ok (.iload_n 1, 1) ∧ 17 + 1 = 18 := by decide +kernel
theorem d_Spans_latestWho_18 : decode c_Spans_latestWho 18 = .ok (.if_icmp .ne 19, 3) ∧ 18 + 3 = 21 ∧ ((18 : Nat) : Int) + 19 = ((37 : Nat) : Int) := by decide +kernel
theorem d_Spans_latestWho_21 : decode c_Spans_latestWho 21 = .ok (.aload_n 0, 1) ∧ 21 + 1 = 22 := by decide +kernel
theorem d_Spans_latestWho_22 : decode c_Spans_latestWho 22 = .ok (.iload_n 3, 1) ∧ 22 + 1 = 23 := by decide +kernel
theorem d_Spans_latestWho_23 : decode c_Spans_latestWho 23 = .ok (.iload_n 2, 1) ∧ 23 + 1 = 24 := by decide +kernel
theorem d_Spans_latestWho_24 : decode c_Spans_latestWho 24 = .ok (.invokevirtual 34, 3) ∧ 24 + 3 = 27 := by decide +kernel
theorem d_Spans_latestWho_27 : decode c_Spans_latestWho 27 = .ok (.ifCond .eq 10, 3) ∧ 27 + 3 = 30 ∧ ((27 : Nat) : Int) + 10 = ((37 : Nat) : Int) := by decide +kernel
theorem d_Spans_latestWho_30 : decode c_Spans_latestWho 30 = .ok (.aload_n 0, 1) ∧ 30 + 1 = 31 := by decide +kernel
theorem d_Spans_latestWho_31 : decode c_Spans_latestWho 31 = .ok (.getfield 15, 3) ∧ 31 + 3 = 34 := by decide +kernel
theorem d_Spans_latestWho_34 : decode c_Spans_latestWho 34 = .ok (.iload_n 3, 1) ∧ 34 + 1 = 35 := by decide +kernel
theorem d_Spans_latestWho_35 : decode c_Spans_latestWho 35 = .ok (.iaload, 1) ∧ 35 + 1 = 36 := by decide +kernel
theorem d_Spans_latestWho_36 : decode c_Spans_latestWho 36 = .ok (.ireturn, 1) ∧ 36 + 1 = 37 := by decide +kernel
theorem d_Spans_latestWho_37 : decode c_Spans_latestWho 37 = .ok (.iinc 3 (-1), 3) ∧ 37 + 3 = 40 := by decide +kernel
theorem d_Spans_latestWho_40 : decode c_Spans_latestWho 40 = .ok (.goto (-33), 3) ∧ (40 : Int) + (-33) = (7 : Int) := by decide +kernel
theorem d_Spans_latestWho_43 : decode c_Spans_latestWho 43 = .ok (.bipush (-9), 2) ∧ 43 + 2 = 45 := by decide +kernel
theorem d_Spans_latestWho_45 : decode c_Spans_latestWho 45 = .ok (.ireturn, 1) ∧ 45 + 1 = 46 := by decide +kernel
set_option maxHeartbeats 4000000 in
theorem w_Spans_latestWho_rights_L7 {Z : Sy} {Γ : Nat → List (Nat × Value) → List Value → St → Prop} {res : Int32} {x1 : Int32} {x2 : Int32} {σ : St} (h : IsG YC Z R_Spans c_Spans_latestWho 4 2 (some .int) (some (.int res)) σ Γ) : ∀ (n : Nat) (x3 : Int32), Spans_latestWho_rights_L7 x1 x2 σ n x3 = some res → Γ 7 [(0, .ref (ya Z 16)), (1, .int x1), (2, .int x2), (3, .int x3)] [] σ := by
  intro n
  induction n with
  | zero => intro x3 hf; exact absurd hf (by simp [Spans_latestWho_rights_L7])
  | succ n ih =>
    intro x3 hf
    rw [Spans_latestWho_rights_L7] at hf
    refine r_iload_n h d_Spans_latestWho_7 3 rfl rfl ?_
    refine r_if_lt h d_Spans_latestWho_8 hf (fun hf => ?_) (fun hf => ?_)
    · refine r_bipush h d_Spans_latestWho_43 kb_m9 ?_
      exact r_ireturn h d_Spans_latestWho_45.1 (Option.some.inj hf) rfl
    · refine r_aload_n h d_Spans_latestWho_11 0 rfl rfl ?_
      refine r_getR h fd_YC_16_1 cf_Spans fl_Spans_21 d_Spans_latestWho_12 ?_
      refine r_iload_n h d_Spans_latestWho_15 3 rfl rfl ?_
      refine r_iald h sh_YC_18 d_Spans_latestWho_16 hf (fun hf => ?_)
      refine r_iload_n h d_Spans_latestWho_17 1 rfl rfl ?_
      refine r_icmp_ne h d_Spans_latestWho_18 hf (fun hf => ?_) (fun hf => ?_)
      · refine r_iinc (ls' := [(3, .int (x3 + (-1 : Int32))), (0, .ref (ya Z 16)), (1, .int x1), (2, .int x2)]) h d_Spans_latestWho_37 3 rfl ki_m1 (by decide) rfl ?_
        refine r_goto h d_Spans_latestWho_40 ?_
        refine r_sub h [1, 2, 3, 0] rfl ?_
        exact ih _ hf
      · refine r_aload_n h d_Spans_latestWho_21 0 rfl rfl ?_
        refine r_iload_n h d_Spans_latestWho_22 3 rfl rfl ?_
        refine r_iload_n h d_Spans_latestWho_23 2 rfl rfl ?_
        obtain ⟨r24, e24, hf⟩ := q_bind hf
        refine r_callV (As := [.int x3, .int x2]) (rest := []) h sh_YC_16 lk_Spans_34 vk_Spans_34 d_Spans_latestWho_24 (by decide) rfl rfl (Nat.le_of_ble_eq_true rfl) (m_Spans_covers_rights e24) ?_
        refine r_bif_eq h d_Spans_latestWho_27 hf (fun hf => ?_) (fun hf => ?_)
        · refine r_iinc (ls' := [(3, .int (x3 + (-1 : Int32))), (0, .ref (ya Z 16)), (1, .int x1), (2, .int x2)]) h d_Spans_latestWho_37 3 rfl ki_m1 (by decide) rfl ?_
          refine r_goto h d_Spans_latestWho_40 ?_
          refine r_sub h [1, 2, 3, 0] rfl ?_
          exact ih _ hf
        · refine r_aload_n h d_Spans_latestWho_30 0 rfl rfl ?_
          refine r_getR h fd_YC_16_0 cf_Spans fl_Spans_15 d_Spans_latestWho_31 ?_
          refine r_iload_n h d_Spans_latestWho_34 3 rfl rfl ?_
          refine r_iald h sh_YC_17 d_Spans_latestWho_35 hf (fun hf => ?_)
          exact r_ireturn h d_Spans_latestWho_36.1 (Option.some.inj hf) rfl

set_option maxHeartbeats 4000000 in
theorem m_Spans_latestWho_rights {Z : Sy} {σ : St} {res : Int32} {x1 : Int32} {x2 : Int32} (hf : Spans_latestWho_rights x1 x2 σ = some res) : Ct YC Z y_Spans_latestWho c_Spans_latestWho 4 (some .int) 2 [.ref (ya Z 16), .int x1, .int x2] σ (some (.int res)) σ := by
  refine Ct.of pn_Spans (Nat.le_of_ble_eq_true rfl) rfl (fun Γ h => ?_)
  have h : IsG YC Z R_Spans c_Spans_latestWho 4 2 (some .int) (some (.int res)) σ Γ := h
  unfold Spans_latestWho_rights at hf
  refine r_aload_n h d_Spans_latestWho_0 0 rfl rfl ?_
  refine r_getI h fd_YC_16_4 cf_Spans fl_Spans_30 d_Spans_latestWho_1 ?_
  refine r_iconst h d_Spans_latestWho_4 ki_1 ?_
  refine r_isub h d_Spans_latestWho_5 ?_
  refine r_istore_n (ls' := [(3, .int ((σ.1 16 4) - (1 : Int32))), (0, .ref (ya Z 16)), (1, .int x1), (2, .int x2)]) h d_Spans_latestWho_6 rfl (by decide) rfl ?_
  refine r_sub h [1, 2, 3, 0] rfl ?_
  exact w_Spans_latestWho_rights_L7 h _ _ hf

theorem d_P_holder_0 : decode c_P_holder 0 = .ok (.aload_n 0, 1) ∧ 0 + 1 = 1 := by decide +kernel
theorem d_P_holder_1 : decode c_P_holder 1 = .ok (.getfield 78, 3) ∧ 1 + 3 = 4 := by decide +kernel
theorem d_P_holder_4 : decode c_P_holder 4 = .ok (.iload_n 1, 1) ∧ 4 + 1 = 5 := by decide +kernel
theorem d_P_holder_5 : decode c_P_holder 5 = .ok (.invokevirtual 349, 3) ∧ 5 + 3 = 8 := by decide +kernel
theorem d_P_holder_8 : decode c_P_holder 8 = .ok (.ifCond .ne 5, 3) ∧ 8 + 3 = 11 ∧ ((8 : Nat) : Int) + 5 = ((13 : Nat) : Int) := by decide +kernel
theorem d_P_holder_11 : decode c_P_holder 11 = .ok (.iconst (-1), 1) ∧ 11 + 1 = 12 := by decide +kernel
theorem d_P_holder_12 : decode c_P_holder 12 = .ok (.ireturn, 1) ∧ 12 + 1 = 13 := by decide +kernel
theorem d_P_holder_13 : decode c_P_holder 13 = .ok (.iload_n 2, 1) ∧ 13 + 1 = 14 := by decide +kernel
theorem d_P_holder_14 : decode c_P_holder 14 = .ok (.sipush 10000, 3) ∧ 14 + 3 = 17 := by decide +kernel
theorem d_P_holder_17 : decode c_P_holder 17 = .ok (.invokestatic 96, 3) ∧ 17 + 3 = 20 := by decide +kernel
theorem d_P_holder_20 : decode c_P_holder 20 = .ok (.ifCond .ne 6, 3) ∧ 20 + 3 = 23 ∧ ((20 : Nat) : Int) + 6 = ((26 : Nat) : Int) := by decide +kernel
theorem d_P_holder_23 : decode c_P_holder 23 = .ok (.bipush (-2), 2) ∧ 23 + 2 = 25 := by decide +kernel
theorem d_P_holder_25 : decode c_P_holder 25 = .ok (.ireturn, 1) ∧ 25 + 1 = 26 := by decide +kernel
theorem d_P_holder_26 : decode c_P_holder 26 = .ok (.aload_n 0, 1) ∧ 26 + 1 = 27 := by decide +kernel
theorem d_P_holder_27 : decode c_P_holder 27 = .ok (.getfield 30, 3) ∧ 27 + 3 = 30 := by decide +kernel
theorem d_P_holder_30 : decode c_P_holder 30 = .ok (.iload_n 1, 1) ∧ 30 + 1 = 31 := by decide +kernel
theorem d_P_holder_31 : decode c_P_holder 31 = .ok (.iload_n 2, 1) ∧ 31 + 1 = 32 := by decide +kernel
theorem d_P_holder_32 : decode c_P_holder 32 = .ok (.invokevirtual 350, 3) ∧ 32 + 3 = 35 := by decide +kernel
theorem d_P_holder_35 : decode c_P_holder 35 = .ok (.ireturn, 1) ∧ 35 + 1 = 36 := by decide +kernel
set_option maxHeartbeats 4000000 in
theorem m_P_holder {Z : Sy} {σ : St} {res : Int32} {x1 : Int32} {x2 : Int32} (hf : P_holder x1 x2 σ = some res) : Ct YC Z y_P_holder c_P_holder 3 (some .int) 3 [.ref (ya Z 0), .int x1, .int x2] σ (some (.int res)) σ := by
  refine Ct.of pn_P (Nat.le_of_ble_eq_true rfl) rfl (fun Γ h => ?_)
  have h : IsG YC Z R_P c_P_holder 3 3 (some .int) (some (.int res)) σ Γ := h
  unfold P_holder at hf
  refine r_aload_n h d_P_holder_0 0 rfl rfl ?_
  refine r_getR h fd_YC_0_10 cf_P fl_P_78 d_P_holder_1 ?_
  refine r_iload_n h d_P_holder_4 1 rfl rfl ?_
  obtain ⟨r5, e5, hf⟩ := q_bind hf
  refine r_callV (As := [.int x1]) (rest := []) h sh_YC_64 lk_P_349 vk_P_349 d_P_holder_5 (by decide) rfl rfl (Nat.le_of_ble_eq_true rfl) (m_Rounds_has e5) ?_
  refine r_bif_ne h d_P_holder_8 hf (fun hf => ?_) (fun hf => ?_)
  · refine r_iload_n h d_P_holder_13 2 rfl rfl ?_
    refine r_sipush h d_P_holder_14 ks_10000 ?_
    obtain ⟨r17, e17, hf⟩ := q_bind hf
    refine r_callS (As := [.int x2, .int (10000 : Int32)]) (rest := []) h lk_P_96 sk_P_96 d_P_holder_17 (by decide) rfl rfl (Nat.le_of_ble_eq_true rfl) (m_P_isBelow e17) ?_
    refine r_bif_ne h d_P_holder_20 hf (fun hf => ?_) (fun hf => ?_)
    · refine r_aload_n h d_P_holder_26 0 rfl rfl ?_
      refine r_getR h fd_YC_0_3 cf_P fl_P_30 d_P_holder_27 ?_
      refine r_iload_n h d_P_holder_30 1 rfl rfl ?_
      refine r_iload_n h d_P_holder_31 2 rfl rfl ?_
      obtain ⟨r32, e32, hf⟩ := q_bind hf
      refine r_callV (As := [.int x1, .int x2]) (rest := []) h sh_YC_16 lk_P_350 vk_P_350 d_P_holder_32 (by decide) rfl rfl (Nat.le_of_ble_eq_true rfl) (m_Spans_latestWho_rights e32) ?_
      exact r_ireturn h d_P_holder_35.1 (Option.some.inj hf) rfl
    · refine r_bipush h d_P_holder_23 kb_m2 ?_
      exact r_ireturn h d_P_holder_25.1 (Option.some.inj hf) rfl
  · refine r_iconst h d_P_holder_11 ki_m1 ?_
    exact r_ireturn h d_P_holder_12.1 (Option.some.inj hf) rfl

theorem d_Spans_nextTurn_0 : decode c_Spans_nextTurn 0 = .ok (.sipush 10000, 3) ∧ 0 + 3 = 3 := by decide +kernel
theorem d_Spans_nextTurn_3 : decode c_Spans_nextTurn 3 = .ok (.istore_n 3, 1) ∧ 3 + 1 = 4 := by decide +kernel
theorem d_Spans_nextTurn_4 : decode c_Spans_nextTurn 4 = .ok (.iconst 0, 1) ∧ 4 + 1 = 5 := by decide +kernel
theorem d_Spans_nextTurn_5 : decode c_Spans_nextTurn 5 = .ok (.istore 4, 2) ∧ 5 + 2 = 7 := by decide +kernel
theorem d_Spans_nextTurn_7 : decode c_Spans_nextTurn 7 = .ok (.iload 4, 2) ∧ 7 + 2 = 9 := by decide +kernel
theorem d_Spans_nextTurn_9 : decode c_Spans_nextTurn 9 = .ok (.aload_n 0, 1) ∧ 9 + 1 = 10 := by decide +kernel
theorem d_Spans_nextTurn_10 : decode c_Spans_nextTurn 10 = .ok (.getfield 30, 3) ∧ 10 + 3 = 13 := by decide +kernel
theorem d_Spans_nextTurn_13 : decode c_Spans_nextTurn 13 = .ok (.if_icmp .ge 87, 3) ∧ 13 + 3 = 16 ∧ ((13 : Nat) : Int) + 87 = ((100 : Nat) : Int) := by decide +kernel
theorem d_Spans_nextTurn_16 : decode c_Spans_nextTurn 16 = .ok (.aload_n 0, 1) ∧ 16 + 1 = 17 := by decide +kernel
theorem d_Spans_nextTurn_17 : decode c_Spans_nextTurn 17 = .ok (.getfield 21, 3) ∧ 17 + 3 = 20 := by decide +kernel
theorem d_Spans_nextTurn_20 : decode c_Spans_nextTurn 20 = .ok (.iload 4, 2) ∧ 20 + 2 = 22 := by decide +kernel
theorem d_Spans_nextTurn_22 : decode c_Spans_nextTurn 22 = .ok (.iaload, 1) ∧ 22 + 1 = 23 := by decide +kernel
theorem d_Spans_nextTurn_23 : decode c_Spans_nextTurn 23 = .ok (.iload_n 1, 1) ∧ 23 + 1 = 24 := by decide +kernel
theorem d_Spans_nextTurn_24 : decode c_Spans_nextTurn 24 = .ok (.if_icmp .eq 6, 3) ∧ 24 + 3 = 27 ∧ ((24 : Nat) : Int) + 6 = ((30 : Nat) : Int) := by decide +kernel
theorem d_Spans_nextTurn_27 : decode c_Spans_nextTurn 27 = .ok (.goto 67, 3) ∧ (27 : Int) + 67 = (94 : Int) := by decide +kernel
theorem d_Spans_nextTurn_30 : decode c_Spans_nextTurn 30 = .ok (.aload_n 0, 1) ∧ 30 + 1 = 31 := by decide +kernel
theorem d_Spans_nextTurn_31 : decode c_Spans_nextTurn 31 = .ok (.getfield 24, 3) ∧ 31 + 3 = 34 := by decide +kernel
theorem d_Spans_nextTurn_34 : decode c_Spans_nextTurn 34 = .ok (.iload 4, 2) ∧ 34 + 2 = 36 := by decide +kernel
theorem d_Spans_nextTurn_36 : decode c_Spans_nextTurn 36 = .ok (.iaload, 1) ∧ 36 + 1 = 37 := by decide +kernel
theorem d_Spans_nextTurn_37 : decode c_Spans_nextTurn 37 = .ok (.iload_n 2, 1) ∧ 37 + 1 = 38 := by decide +kernel
theorem d_Spans_nextTurn_38 : decode c_Spans_nextTurn 38 = .ok (.if_icmp .le 22, 3) ∧ 38 + 3 = 41 ∧ ((38 : Nat) : Int) + 22 = ((60 : Nat) : Int) := by decide +kernel
theorem d_Spans_nextTurn_41 : decode c_Spans_nextTurn 41 = .ok (.aload_n 0, 1) ∧ 41 + 1 = 42 := by decide +kernel
theorem d_Spans_nextTurn_42 : decode c_Spans_nextTurn 42 = .ok (.getfield 24, 3) ∧ 42 + 3 = 45 := by decide +kernel
theorem d_Spans_nextTurn_45 : decode c_Spans_nextTurn 45 = .ok (.iload 4, 2) ∧ 45 + 2 = 47 := by decide +kernel
theorem d_Spans_nextTurn_47 : decode c_Spans_nextTurn 47 = .ok (.iaload, 1) ∧ 47 + 1 = 48 := by decide +kernel
theorem d_Spans_nextTurn_48 : decode c_Spans_nextTurn 48 = .ok (.iload_n 3, 1) ∧ 48 + 1 = 49 := by decide +kernel
theorem d_Spans_nextTurn_49 : decode c_Spans_nextTurn 49 = .ok (.if_icmp .ge 11, 3) ∧ 49 + 3 = 52 ∧ ((49 : Nat) : Int) + 11 = ((60 : Nat) : Int) := by decide +kernel
theorem d_Spans_nextTurn_52 : decode c_Spans_nextTurn 52 = .ok (.aload_n 0, 1) ∧ 52 + 1 = 53 := by decide +kernel
theorem d_Spans_nextTurn_53 : decode c_Spans_nextTurn 53 = .ok (.getfield 24, 3) ∧ 53 + 3 = 56 := by decide +kernel
theorem d_Spans_nextTurn_56 : decode c_Spans_nextTurn 56 = .ok (.iload 4, 2) ∧ 56 + 2 = 58 := by decide +kernel
theorem d_Spans_nextTurn_58 : decode c_Spans_nextTurn 58 = .ok (.iaload, 1) ∧ 58 + 1 = 59 := by decide +kernel
theorem d_Spans_nextTurn_59 : decode c_Spans_nextTurn 59 = .ok (.istore_n 3, 1) ∧ 59 + 1 = 60 := by decide +kernel
theorem d_Spans_nextTurn_60 : decode c_Spans_nextTurn 60 = .ok (.aload_n 0, 1) ∧ 60 + 1 = 61 := by decide +kernel
theorem d_Spans_nextTurn_61 : decode c_Spans_nextTurn 61 = .ok (.getfield 27, 3) ∧ 61 + 3 = 64 := by decide +kernel
theorem d_Spans_nextTurn_64 : decode c_Spans_nextTurn 64 = .ok (.iload 4, 2) ∧ 64 + 2 = 66 := by decide +kernel
theorem d_Spans_nextTurn_66 : decode c_Spans_nextTurn 66 = .ok (.iaload, 1) ∧ 66 + 1 = 67 := by decide +kernel
theorem d_Spans_nextTurn_67 : decode c_Spans_nextTurn 67 = .ok (.iload_n 2, 1) ∧ 67 + 1 = 68 := by decide +kernel
theorem d_Spans_nextTurn_68 : decode c_Spans_nextTurn 68 = .ok (.if_icmp .lt 26, 3) ∧ 68 + 3 = 71 ∧ ((68 : Nat) : Int) + 26 = ((94 : Nat) : Int) := by decide +kernel
theorem d_Spans_nextTurn_71 : decode c_Spans_nextTurn 71 = .ok (.aload_n 0, 1) ∧ 71 + 1 = 72 := by decide +kernel
theorem d_Spans_nextTurn_72 : decode c_Spans_nextTurn 72 = .ok (.getfield 27, 3) ∧ 72 + 3 = 75 := by decide +kernel
theorem d_Spans_nextTurn_75 : decode c_Spans_nextTurn 75 = .ok (.iload 4, 2) ∧ 75 + 2 = 77 := by decide +kernel
theorem d_Spans_nextTurn_77 : decode c_Spans_nextTurn 77 = .ok (.iaload, 1) ∧ 77 + 1 = 78 := by decide +kernel
theorem d_Spans_nextTurn_78 : decode c_Spans_nextTurn 78 = .ok (.iconst 1, 1) ∧ 78 + 1 = 79 := by decide +kernel
theorem d_Spans_nextTurn_79 : decode c_Spans_nextTurn 79 = .ok (.iadd, 1) ∧ 79 + 1 = 80 := by decide +kernel
theorem d_Spans_nextTurn_80 : decode c_Spans_nextTurn 80 = .ok (.iload_n 3, 1) ∧ 80 + 1 = 81 := by decide +kernel
theorem d_Spans_nextTurn_81 : decode c_Spans_nextTurn 81 = .ok (.if_icmp .ge 13, 3) ∧ 81 + 3 = 84 ∧ ((81 : Nat) : Int) + 13 = ((94 : Nat) : Int) := by decide +kernel
theorem d_Spans_nextTurn_84 : decode c_Spans_nextTurn 84 = .ok (.aload_n 0, 1) ∧ 84 + 1 = 85 := by decide +kernel
theorem d_Spans_nextTurn_85 : decode c_Spans_nextTurn 85 = .ok (.getfield 27, 3) ∧ 85 + 3 = 88 := by decide +kernel
theorem d_Spans_nextTurn_88 : decode c_Spans_nextTurn 88 = .ok (.iload 4, 2) ∧ 88 + 2 = 90 := by decide +kernel
theorem d_Spans_nextTurn_90 : decode c_Spans_nextTurn 90 = .ok (.iaload, 1) ∧ 90 + 1 = 91 := by decide +kernel
theorem d_Spans_nextTurn_91 : decode c_Spans_nextTurn 91 = .ok (.iconst 1, 1) ∧ 91 + 1 = 92 := by decide +kernel
theorem d_Spans_nextTurn_92 : decode c_Spans_nextTurn 92 = .ok (.iadd, 1) ∧ 92 + 1 = 93 := by decide +kernel
theorem d_Spans_nextTurn_93 : decode c_Spans_nextTurn 93 = .ok (.istore_n 3, 1) ∧ 93 + 1 = 94 := by decide +kernel
theorem d_Spans_nextTurn_94 : decode c_Spans_nextTurn 94 = .ok (.iinc 4 1, 3) ∧ 94 + 3 = 97 := by decide +kernel
theorem d_Spans_nextTurn_97 : decode c_Spans_nextTurn 97 = .ok (.goto (-90), 3) ∧ (97 : Int) + (-90) = (7 : Int) := by decide +kernel
theorem d_Spans_nextTurn_100 : decode c_Spans_nextTurn 100 = .ok (.iload_n 3, 1) ∧ 100 + 1 = 101 := by decide +kernel
theorem d_Spans_nextTurn_101 : decode c_Spans_nextTurn 101 = .ok (.ireturn, 1) ∧ 101 + 1 = 102 := by decide +kernel
set_option maxHeartbeats 4000000 in
theorem w_Spans_nextTurn_rights_L7 {Z : Sy} {Γ : Nat → List (Nat × Value) → List Value → St → Prop} {res : Int32} {x1 : Int32} {x2 : Int32} {σ : St} (h : IsG YC Z R_Spans c_Spans_nextTurn 5 1 (some .int) (some (.int res)) σ Γ) : ∀ (n : Nat) (x3 : Int32) (x4 : Int32), Spans_nextTurn_rights_L7 x1 x2 σ n x3 x4 = some res → Γ 7 [(0, .ref (ya Z 16)), (1, .int x1), (2, .int x2), (3, .int x3), (4, .int x4)] [] σ := by
  intro n
  induction n with
  | zero => intro x3 x4 hf; exact absurd hf (by simp [Spans_nextTurn_rights_L7])
  | succ n ih =>
    intro x3 x4 hf
    rw [Spans_nextTurn_rights_L7] at hf
    refine r_iload h d_Spans_nextTurn_7 4 rfl ?_
    refine r_aload_n h d_Spans_nextTurn_9 0 rfl rfl ?_
    refine r_getI h fd_YC_16_4 cf_Spans fl_Spans_30 d_Spans_nextTurn_10 ?_
    refine r_icmp_ge h d_Spans_nextTurn_13 hf (fun hf => ?_) (fun hf => ?_)
    · refine r_iload_n h d_Spans_nextTurn_100 3 rfl rfl ?_
      exact r_ireturn h d_Spans_nextTurn_101.1 (Option.some.inj hf) rfl
    · refine r_aload_n h d_Spans_nextTurn_16 0 rfl rfl ?_
      refine r_getR h fd_YC_16_1 cf_Spans fl_Spans_21 d_Spans_nextTurn_17 ?_
      refine r_iload h d_Spans_nextTurn_20 4 rfl ?_
      refine r_iald h sh_YC_18 d_Spans_nextTurn_22 hf (fun hf => ?_)
      refine r_iload_n h d_Spans_nextTurn_23 1 rfl rfl ?_
      refine r_icmp_eq h d_Spans_nextTurn_24 hf (fun hf => ?_) (fun hf => ?_)
      · refine r_aload_n h d_Spans_nextTurn_30 0 rfl rfl ?_
        refine r_getR h fd_YC_16_2 cf_Spans fl_Spans_24 d_Spans_nextTurn_31 ?_
        refine r_iload h d_Spans_nextTurn_34 4 rfl ?_
        refine r_iald h sh_YC_19 d_Spans_nextTurn_36 hf (fun hf => ?_)
        refine r_iload_n h d_Spans_nextTurn_37 2 rfl rfl ?_
        refine r_icmp_le h d_Spans_nextTurn_38 hf (fun hf => ?_) (fun hf => ?_)
        · refine r_aload_n h d_Spans_nextTurn_60 0 rfl rfl ?_
          refine r_getR h fd_YC_16_3 cf_Spans fl_Spans_27 d_Spans_nextTurn_61 ?_
          refine r_iload h d_Spans_nextTurn_64 4 rfl ?_
          refine r_iald h sh_YC_20 d_Spans_nextTurn_66 hf (fun hf => ?_)
          refine r_iload_n h d_Spans_nextTurn_67 2 rfl rfl ?_
          refine r_icmp_lt h d_Spans_nextTurn_68 hf (fun hf => ?_) (fun hf => ?_)
          · refine r_iinc (ls' := [(4, .int (x4 + (1 : Int32))), (0, .ref (ya Z 16)), (1, .int x1), (2, .int x2), (3, .int x3)]) h d_Spans_nextTurn_94 4 rfl ki_1 (by decide) rfl ?_
            refine r_goto h d_Spans_nextTurn_97 ?_
            refine r_sub h [1, 2, 3, 4, 0] rfl ?_
            exact ih _ _ hf
          · refine r_aload_n h d_Spans_nextTurn_71 0 rfl rfl ?_
            refine r_getR h fd_YC_16_3 cf_Spans fl_Spans_27 d_Spans_nextTurn_72 ?_
            refine r_iload h d_Spans_nextTurn_75 4 rfl ?_
            refine r_iald h sh_YC_20 d_Spans_nextTurn_77 hf (fun hf => ?_)
            refine r_iconst h d_Spans_nextTurn_78 ki_1 ?_
            refine r_iadd h d_Spans_nextTurn_79 ?_
            refine r_iload_n h d_Spans_nextTurn_80 3 rfl rfl ?_
            refine r_icmp_ge h d_Spans_nextTurn_81 hf (fun hf => ?_) (fun hf => ?_)
            · refine r_iinc (ls' := [(4, .int (x4 + (1 : Int32))), (0, .ref (ya Z 16)), (1, .int x1), (2, .int x2), (3, .int x3)]) h d_Spans_nextTurn_94 4 rfl ki_1 (by decide) rfl ?_
              refine r_goto h d_Spans_nextTurn_97 ?_
              refine r_sub h [1, 2, 3, 4, 0] rfl ?_
              exact ih _ _ hf
            · refine r_aload_n h d_Spans_nextTurn_84 0 rfl rfl ?_
              refine r_getR h fd_YC_16_3 cf_Spans fl_Spans_27 d_Spans_nextTurn_85 ?_
              refine r_iload h d_Spans_nextTurn_88 4 rfl ?_
              refine r_iald h sh_YC_20 d_Spans_nextTurn_90 hf (fun hf => ?_)
              refine r_iconst h d_Spans_nextTurn_91 ki_1 ?_
              refine r_iadd h d_Spans_nextTurn_92 ?_
              refine r_istore_n (ls' := [(3, .int ((σ.1 20 (Int32.toNatClampNeg x4)) + (1 : Int32))), (0, .ref (ya Z 16)), (1, .int x1), (2, .int x2), (4, .int x4)]) h d_Spans_nextTurn_93 rfl (by decide) rfl ?_
              refine r_iinc (ls' := [(4, .int (x4 + (1 : Int32))), (3, .int ((σ.1 20 (Int32.toNatClampNeg x4)) + (1 : Int32))), (0, .ref (ya Z 16)), (1, .int x1), (2, .int x2)]) h d_Spans_nextTurn_94 4 rfl ki_1 (by decide) rfl ?_
              refine r_goto h d_Spans_nextTurn_97 ?_
              refine r_sub h [2, 3, 4, 1, 0] rfl ?_
              exact ih _ _ hf
        · refine r_aload_n h d_Spans_nextTurn_41 0 rfl rfl ?_
          refine r_getR h fd_YC_16_2 cf_Spans fl_Spans_24 d_Spans_nextTurn_42 ?_
          refine r_iload h d_Spans_nextTurn_45 4 rfl ?_
          refine r_iald h sh_YC_19 d_Spans_nextTurn_47 hf (fun hf => ?_)
          refine r_iload_n h d_Spans_nextTurn_48 3 rfl rfl ?_
          refine r_icmp_ge h d_Spans_nextTurn_49 hf (fun hf => ?_) (fun hf => ?_)
          · refine r_aload_n h d_Spans_nextTurn_60 0 rfl rfl ?_
            refine r_getR h fd_YC_16_3 cf_Spans fl_Spans_27 d_Spans_nextTurn_61 ?_
            refine r_iload h d_Spans_nextTurn_64 4 rfl ?_
            refine r_iald h sh_YC_20 d_Spans_nextTurn_66 hf (fun hf => ?_)
            refine r_iload_n h d_Spans_nextTurn_67 2 rfl rfl ?_
            refine r_icmp_lt h d_Spans_nextTurn_68 hf (fun hf => ?_) (fun hf => ?_)
            · refine r_iinc (ls' := [(4, .int (x4 + (1 : Int32))), (0, .ref (ya Z 16)), (1, .int x1), (2, .int x2), (3, .int x3)]) h d_Spans_nextTurn_94 4 rfl ki_1 (by decide) rfl ?_
              refine r_goto h d_Spans_nextTurn_97 ?_
              refine r_sub h [1, 2, 3, 4, 0] rfl ?_
              exact ih _ _ hf
            · refine r_aload_n h d_Spans_nextTurn_71 0 rfl rfl ?_
              refine r_getR h fd_YC_16_3 cf_Spans fl_Spans_27 d_Spans_nextTurn_72 ?_
              refine r_iload h d_Spans_nextTurn_75 4 rfl ?_
              refine r_iald h sh_YC_20 d_Spans_nextTurn_77 hf (fun hf => ?_)
              refine r_iconst h d_Spans_nextTurn_78 ki_1 ?_
              refine r_iadd h d_Spans_nextTurn_79 ?_
              refine r_iload_n h d_Spans_nextTurn_80 3 rfl rfl ?_
              refine r_icmp_ge h d_Spans_nextTurn_81 hf (fun hf => ?_) (fun hf => ?_)
              · refine r_iinc (ls' := [(4, .int (x4 + (1 : Int32))), (0, .ref (ya Z 16)), (1, .int x1), (2, .int x2), (3, .int x3)]) h d_Spans_nextTurn_94 4 rfl ki_1 (by decide) rfl ?_
                refine r_goto h d_Spans_nextTurn_97 ?_
                refine r_sub h [1, 2, 3, 4, 0] rfl ?_
                exact ih _ _ hf
              · refine r_aload_n h d_Spans_nextTurn_84 0 rfl rfl ?_
                refine r_getR h fd_YC_16_3 cf_Spans fl_Spans_27 d_Spans_nextTurn_85 ?_
                refine r_iload h d_Spans_nextTurn_88 4 rfl ?_
                refine r_iald h sh_YC_20 d_Spans_nextTurn_90 hf (fun hf => ?_)
                refine r_iconst h d_Spans_nextTurn_91 ki_1 ?_
                refine r_iadd h d_Spans_nextTurn_92 ?_
                refine r_istore_n (ls' := [(3, .int ((σ.1 20 (Int32.toNatClampNeg x4)) + (1 : Int32))), (0, .ref (ya Z 16)), (1, .int x1), (2, .int x2), (4, .int x4)]) h d_Spans_nextTurn_93 rfl (by decide) rfl ?_
                refine r_iinc (ls' := [(4, .int (x4 + (1 : Int32))), (3, .int ((σ.1 20 (Int32.toNatClampNeg x4)) + (1 : Int32))), (0, .ref (ya Z 16)), (1, .int x1), (2, .int x2)]) h d_Spans_nextTurn_94 4 rfl ki_1 (by decide) rfl ?_
                refine r_goto h d_Spans_nextTurn_97 ?_
                refine r_sub h [2, 3, 4, 1, 0] rfl ?_
                exact ih _ _ hf
          · refine r_aload_n h d_Spans_nextTurn_52 0 rfl rfl ?_
            refine r_getR h fd_YC_16_2 cf_Spans fl_Spans_24 d_Spans_nextTurn_53 ?_
            refine r_iload h d_Spans_nextTurn_56 4 rfl ?_
            refine r_iald h sh_YC_19 d_Spans_nextTurn_58 hf (fun hf => ?_)
            refine r_istore_n (ls' := [(3, .int (σ.1 19 (Int32.toNatClampNeg x4))), (0, .ref (ya Z 16)), (1, .int x1), (2, .int x2), (4, .int x4)]) h d_Spans_nextTurn_59 rfl (by decide) rfl ?_
            refine r_aload_n h d_Spans_nextTurn_60 1 rfl rfl ?_
            refine r_getR h fd_YC_16_3 cf_Spans fl_Spans_27 d_Spans_nextTurn_61 ?_
            refine r_iload h d_Spans_nextTurn_64 4 rfl ?_
            refine r_iald h sh_YC_20 d_Spans_nextTurn_66 hf (fun hf => ?_)
            refine r_iload_n h d_Spans_nextTurn_67 3 rfl rfl ?_
            refine r_icmp_lt h d_Spans_nextTurn_68 hf (fun hf => ?_) (fun hf => ?_)
            · refine r_iinc (ls' := [(4, .int (x4 + (1 : Int32))), (3, .int (σ.1 19 (Int32.toNatClampNeg x4))), (0, .ref (ya Z 16)), (1, .int x1), (2, .int x2)]) h d_Spans_nextTurn_94 4 rfl ki_1 (by decide) rfl ?_
              refine r_goto h d_Spans_nextTurn_97 ?_
              refine r_sub h [2, 3, 4, 1, 0] rfl ?_
              exact ih _ _ hf
            · refine r_aload_n h d_Spans_nextTurn_71 1 rfl rfl ?_
              refine r_getR h fd_YC_16_3 cf_Spans fl_Spans_27 d_Spans_nextTurn_72 ?_
              refine r_iload h d_Spans_nextTurn_75 4 rfl ?_
              refine r_iald h sh_YC_20 d_Spans_nextTurn_77 hf (fun hf => ?_)
              refine r_iconst h d_Spans_nextTurn_78 ki_1 ?_
              refine r_iadd h d_Spans_nextTurn_79 ?_
              refine r_iload_n h d_Spans_nextTurn_80 0 rfl rfl ?_
              refine r_icmp_ge h d_Spans_nextTurn_81 hf (fun hf => ?_) (fun hf => ?_)
              · refine r_iinc (ls' := [(4, .int (x4 + (1 : Int32))), (3, .int (σ.1 19 (Int32.toNatClampNeg x4))), (0, .ref (ya Z 16)), (1, .int x1), (2, .int x2)]) h d_Spans_nextTurn_94 4 rfl ki_1 (by decide) rfl ?_
                refine r_goto h d_Spans_nextTurn_97 ?_
                refine r_sub h [2, 3, 4, 1, 0] rfl ?_
                exact ih _ _ hf
              · refine r_aload_n h d_Spans_nextTurn_84 1 rfl rfl ?_
                refine r_getR h fd_YC_16_3 cf_Spans fl_Spans_27 d_Spans_nextTurn_85 ?_
                refine r_iload h d_Spans_nextTurn_88 4 rfl ?_
                refine r_iald h sh_YC_20 d_Spans_nextTurn_90 hf (fun hf => ?_)
                refine r_iconst h d_Spans_nextTurn_91 ki_1 ?_
                refine r_iadd h d_Spans_nextTurn_92 ?_
                refine r_istore_n (ls' := [(3, .int ((σ.1 20 (Int32.toNatClampNeg x4)) + (1 : Int32))), (0, .ref (ya Z 16)), (1, .int x1), (2, .int x2), (4, .int x4)]) h d_Spans_nextTurn_93 rfl (by decide) rfl ?_
                refine r_iinc (ls' := [(4, .int (x4 + (1 : Int32))), (3, .int ((σ.1 20 (Int32.toNatClampNeg x4)) + (1 : Int32))), (0, .ref (ya Z 16)), (1, .int x1), (2, .int x2)]) h d_Spans_nextTurn_94 4 rfl ki_1 (by decide) rfl ?_
                refine r_goto h d_Spans_nextTurn_97 ?_
                refine r_sub h [2, 3, 4, 1, 0] rfl ?_
                exact ih _ _ hf
      · refine r_goto h d_Spans_nextTurn_27 ?_
        refine r_iinc (ls' := [(4, .int (x4 + (1 : Int32))), (0, .ref (ya Z 16)), (1, .int x1), (2, .int x2), (3, .int x3)]) h d_Spans_nextTurn_94 4 rfl ki_1 (by decide) rfl ?_
        refine r_goto h d_Spans_nextTurn_97 ?_
        refine r_sub h [1, 2, 3, 4, 0] rfl ?_
        exact ih _ _ hf

set_option maxHeartbeats 4000000 in
theorem m_Spans_nextTurn_rights {Z : Sy} {σ : St} {res : Int32} {x1 : Int32} {x2 : Int32} (hf : Spans_nextTurn_rights x1 x2 σ = some res) : Ct YC Z y_Spans_nextTurn c_Spans_nextTurn 5 (some .int) 1 [.ref (ya Z 16), .int x1, .int x2] σ (some (.int res)) σ := by
  refine Ct.of pn_Spans (Nat.le_of_ble_eq_true rfl) rfl (fun Γ h => ?_)
  have h : IsG YC Z R_Spans c_Spans_nextTurn 5 1 (some .int) (some (.int res)) σ Γ := h
  unfold Spans_nextTurn_rights at hf
  refine r_sipush h d_Spans_nextTurn_0 ks_10000 ?_
  refine r_istore_n (ls' := [(3, .int (10000 : Int32)), (0, .ref (ya Z 16)), (1, .int x1), (2, .int x2)]) h d_Spans_nextTurn_3 rfl (by decide) rfl ?_
  refine r_iconst h d_Spans_nextTurn_4 ki_0 ?_
  refine r_istore (ls' := [(4, .int (0 : Int32)), (3, .int (10000 : Int32)), (0, .ref (ya Z 16)), (1, .int x1), (2, .int x2)]) h d_Spans_nextTurn_5 (by decide) rfl ?_
  refine r_sub h [2, 3, 4, 1, 0] rfl ?_
  exact w_Spans_nextTurn_rights_L7 h _ _ _ hf

