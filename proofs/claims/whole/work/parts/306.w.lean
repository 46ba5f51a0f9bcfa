theorem d_M_lost_0 : decode c_M_lost 0 = .ok (.ldc2_w 197, 3) ∧ 0 + 3 = 3 := by decide +kernel
theorem d_M_lost_3 : decode c_M_lost 3 = .ok (.lreturn, 1) ∧ 3 + 1 = 4 := by decide +kernel
set_option maxHeartbeats 4000000 in
theorem m_M_lost {Z : Sy} {σ : St} {res : Int64} (hf : M_lost  σ = some res) : Ct YM Z y_M_lost c_M_lost 0 (some .long) 1 [] σ (some (.long res)) σ := by
  refine Ct.of pn_M (Nat.le_of_ble_eq_true rfl) rfl (fun Γ h => ?_)
  have h : IsG YM Z R_M c_M_lost 0 1 (some .long) (some (.long res)) σ Γ := h
  unfold M_lost at hf
  refine r_ldc2 h d_M_lost_0 tm_1683 ?_
  exact r_lreturn h d_M_lost_3.1 (Option.some.inj hf) rfl

theorem d_M_credit_0 : decode c_M_credit 0 = .ok (.aload_n 0, 1) ∧ 0 + 1 = 1 := by decide +kernel
theorem d_M_credit_1 : decode c_M_credit 1 = .ok (.iload_n 1, 1) ∧ 1 + 1 = 2 := by decide +kernel
theorem d_M_credit_2 : decode c_M_credit 2 = .ok (.invokevirtual 284, 3) ∧ 2 + 3 = 5 := by decide +kernel
theorem d_M_credit_5 : decode c_M_credit 5 = .ok (.ifCond .ne 10, 3) ∧ 5 + 3 = 8 ∧ ((5 : Nat) : Int) + 10 = ((15 : Nat) : Int) := by decide +kernel
theorem d_M_credit_8 : decode c_M_credit 8 = .ok (.iload_n 2, 1) ∧ 8 + 1 = 9 := by decide +kernel
theorem d_M_credit_9 : decode c_M_credit 9 = .ok (.invokestatic 205, 3) ∧ 9 + 3 = 12 := by decide +kernel
theorem d_M_credit_12 : decode c_M_credit 12 = .ok (.ifCond .ne 7, 3) ∧ 12 + 3 = 15 ∧ ((12 : Nat) : Int) + 7 = ((19 : Nat) : Int) := by decide +kernel
theorem d_M_credit_15 : decode c_M_credit 15 = .ok (.invokestatic 213, 3) ∧ 15 + 3 = 18 := by decide +kernel
theorem d_M_credit_18 : decode c_M_credit 18 = .ok (.lreturn, 1) ∧ 18 + 1 = 19 := by decide +kernel
theorem d_M_credit_19 : decode c_M_credit 19 = .ok (.lconst 0, 1) ∧ 19 + 1 = 20 := by decide +kernel
theorem d_M_credit_20 : decode c_M_credit 20 = .ok (.lstore_n 3, 1) ∧ 20 + 1 = 21 := by decide +kernel
theorem d_M_credit_21 : decode c_M_credit 21 = .ok (.iconst 0, 1) ∧ 21 + 1 = 22 := by decide +kernel
theorem d_M_credit_22 : decode c_M_credit 22 = .ok (.istore 5, 2) ∧ 22 + 2 = 24 := by decide +kernel
theorem d_M_credit_24 : decode c_M_credit 24 = .ok (.iload 5, 2) ∧ 24 + 2 = 26 := by decide +kernel
theorem d_M_credit_26 : decode c_M_credit 26 = .ok (.aload_n 0, 1) ∧ 26 + 1 = 27 := by decide +kernel
theorem d_M_credit_27 : decode c_M_credit 27 = .ok (.getfield 268, 3) ∧ 27 + 3 = 30 := by decide +kernel
theorem d_M_credit_30 : decode c_M_credit 30 = .ok (.if_icmp .ge 108, 3) ∧ 30 + 3 = 33 ∧ ((30 : Nat) : Int) + 108 = ((138 : Nat) : Int) := by decide +kernel
theorem d_M_credit_33 : decode c_M_credit 33 = .ok (.aload_n 0, 1) ∧ 33 + 1 = 34 := by decide +kernel
theorem d_M_credit_34 : decode c_M_credit 34 = .ok (.getfield 43, 3) ∧ 34 + 3 = 37 := by decide +kernel
theorem d_M_credit_37 : decode c_M_credit 37 = .ok (.iload 5, 2) ∧ 37 + 2 = 39 := by decide +kernel
theorem d_M_credit_39 : decode c_M_credit 39 = .ok (.iaload, 1) ∧ 39 + 1 = 40 := by decide +kernel
theorem d_M_credit_40 : decode c_M_credit 40 = .ok (.iload_n 1, 1) ∧ 40 + 1 = 41 := by decide +kernel
theorem d_M_credit_41 : decode c_M_credit 41 = .ok (.if_icmp .ne 91, 3) ∧ 41 + 3 = 44 ∧ ((41 : Nat) : Int) + 91 = ((132 : Nat) : Int) := by decide +kernel
theorem d_M_credit_44 : decode c_M_credit 44 = .ok (.aload_n 0, 1) ∧ 44 + 1 = 45 := by decide +kernel
theorem d_M_credit_45 : decode c_M_credit 45 = .ok (.getfield 46, 3) ∧ 45 + 3 = 48 := by decide +kernel
theorem d_M_credit_48 : decode c_M_credit 48 = .ok (.iload 5, 2) ∧ 48 + 2 = 50 := by decide +kernel
theorem d_M_credit_50 : decode c_M_credit 50 = .ok (.iaload, 1) ∧ 50 + 1 = 51 := by decide +kernel
theorem d_M_credit_51 : decode c_M_credit 51 = .ok (.ifCond .ne 81, 3) ∧ 51 + 3 = 54 ∧ ((51 : Nat) : Int) + 81 = ((132 : Nat) : Int) := by decide +kernel
theorem d_M_credit_54 : decode c_M_credit 54 = .ok (.aload_n 0, 1) ∧ 54 + 1 = 55 := by decide +kernel
theorem d_M_credit_55 : decode c_M_credit 55 = .ok (.getfield 58, 3) ∧ 55 + 3 = 58 := by decide +kernel
theorem d_M_credit_58 : decode c_M_credit 58 = .ok (.iload 5, 2) ∧ 58 + 2 = 60 := by decide +kernel
theorem d_M_credit_60 : decode c_M_credit 60 = .ok (.iaload, 1) ∧ 60 + 1 = 61 := by decide +kernel
theorem d_M_credit_61 : decode c_M_credit 61 = .ok (.iload_n 2, 1) ∧ 61 + 1 = 62 := by decide +kernel
theorem d_M_credit_62 : decode c_M_credit 62 = .ok (.if_icmp .gt 70, 3) ∧ 62 + 3 = 65 ∧ ((62 : Nat) : Int) + 70 = ((132 : Nat) : Int) := by decide +kernel
theorem d_M_credit_65 : decode c_M_credit 65 = .ok (.aload_n 0, 1) ∧ 65 + 1 = 66 := by decide +kernel
theorem d_M_credit_66 : decode c_M_credit 66 = .ok (.getfield 52, 3) ∧ 66 + 3 = 69 := by decide +kernel
theorem d_M_credit_69 : decode c_M_credit 69 = .ok (.iload 5, 2) ∧ 69 + 2 = 71 := by decide +kernel
theorem d_M_credit_71 : decode c_M_credit 71 = .ok (.iaload, 1) ∧ 71 + 1 = 72 := by decide +kernel
theorem d_M_credit_72 : decode c_M_credit 72 = .ok (.i2l, 1) ∧ 72 + 1 = 73 := by decide +kernel
theorem d_M_credit_73 : decode c_M_credit 73 = .ok (.aload_n 0, 1) ∧ 73 + 1 = 74 := by decide +kernel
theorem d_M_credit_74 : decode c_M_credit 74 = .ok (.getfield 55, 3) ∧ 74 + 3 = 77 := by decide +kernel
theorem d_M_credit_77 : decode c_M_credit 77 = .ok (.iload 5, 2) ∧ 77 + 2 = 79 := by decide +kernel
theorem d_M_credit_79 : decode c_M_credit 79 = .ok (.iaload, 1) ∧ 79 + 1 = 80 := by decide +kernel
theorem d_M_credit_80 : decode c_M_credit 80 = .ok (.i2l, 1) ∧ 80 + 1 = 81 := by decide +kernel
theorem d_M_credit_81 : decode c_M_credit 81 = .ok (.lmul, 1) ∧ 81 + 1 = 82 := by decide +kernel
theorem d_M_credit_82 : decode c_M_credit 82 = .ok (.lstore 6, 2) ∧ 82 + 2 = 84 := by decide +kernel
theorem d_M_credit_84 : decode c_M_credit 84 = .ok (.aload_n 0, 1) ∧ 84 + 1 = 85 := by decide +kernel
theorem d_M_credit_85 : decode c_M_credit 85 = .ok (.iconst 1, 1) ∧ 85 + 1 = 86 := by decide +kernel
theorem d_M_credit_86 : decode c_M_credit 86 = .ok (.aload_n 0, 1) ∧ 86 + 1 = 87 := by decide +kernel
theorem d_M_credit_87 : decode c_M_credit 87 = .ok (.iconst 1, 1) ∧ 87 + 1 = 88 := by decide +kernel
theorem d_M_credit_88 : decode c_M_credit 88 = .ok (.iconst 0, 1) ∧ 88 + 1 = 89 := by decide +kernel
theorem d_M_credit_89 : decode c_M_credit 89 = .ok (.iconst (-1), 1) ∧ 89 + 1 = 90 := by decide +kernel
theorem d_M_credit_90 : decode c_M_credit 90 = .ok (.aload_n 0, 1) ∧ 90 + 1 = 91 := by decide +kernel
theorem d_M_credit_91 : decode c_M_credit 91 = .ok (.getfield 58, 3) ∧ 91 + 3 = 94 := by decide +kernel
theorem d_M_credit_94 : decode c_M_credit 94 = .ok (.iload 5, 2) ∧ 94 + 2 = 96 := by decide +kernel
theorem d_M_credit_96 : decode c_M_credit 96 = .ok (.iaload, 1) ∧ 96 + 1 = 97 := by decide +kernel
theorem d_M_credit_97 : decode c_M_credit 97 = .ok (.invokevirtual 348, 3) ∧ 97 + 3 = 100 := by decide +kernel
theorem d_M_credit_100 : decode c_M_credit 100 = .ok (.invokevirtual 355, 3) ∧ 100 + 3 = 103 := by decide +kernel
theorem d_M_credit_103 : decode c_M_credit 103 = .ok (.istore 8, 2) ∧ 103 + 2 = 105 := by decide +kernel
theorem d_M_credit_105 : decode c_M_credit 105 = .ok (.lload_n 3, 1) ∧ 105 + 1 = 106 := by decide +kernel
theorem d_M_credit_106 : decode c_M_credit 106 = .ok (.lload 6, 2) ∧ 106 + 2 = 108 := by decide +kernel
theorem d_M_credit_108 : decode c_M_credit 108 = .ok (.lload 6, 2) ∧ 108 + 2 = 110 := by decide +kernel
theorem d_M_credit_110 : decode c_M_credit 110 = .ok (.iload 8, 2) ∧ 110 + 2 = 112 := by decide +kernel
theorem d_M_credit_112 : decode c_M_credit 112 = .ok (.i2l, 1) ∧ 112 + 1 = 113 := by decide +kernel
theorem d_M_credit_113 : decode c_M_credit 113 = .ok (.lmul, 1) ∧ 113 + 1 = 114 := by decide +kernel
theorem d_M_credit_114 : decode c_M_credit 114 = .ok (.iload_n 2, 1) ∧ 114 + 1 = 115 := by decide +kernel
theorem d_M_credit_115 : decode c_M_credit 115 = .ok (.aload_n 0, 1) ∧ 115 + 1 = 116 := by decide +kernel
theorem d_M_credit_116 : decode c_M_credit 116 = .ok (.getfield 58, 3) ∧ 116 + 3 = 119 := by decide +kernel
theorem d_M_credit_119 : decode c_M_credit 119 = .ok (.iload 5, 2) ∧ 119 + 2 = 121 := by decide +kernel
theorem d_M_credit_121 : decode c_M_credit 121 = .ok (.iaload, 1) ∧ 121 + 1 = 122 := by decide +kernel
theorem d_M_credit_122 : decode c_M_credit 122 = .ok (.isub, 1) ∧ 122 + 1 = 123 := by decide +kernel
theorem d_M_credit_123 : decode c_M_credit 123 = .ok (.i2l, 1) ∧ 123 + 1 = 124 := by decide +kernel
theorem d_M_credit_124 : decode c_M_credit 124 = .ok (.lmul, 1) ∧ 124 + 1 = 125 := by decide +kernel
theorem d_M_credit_125 : decode c_M_credit 125 = .ok (.ldc2_w 400, 3) ∧ 125 + 3 = 128 := by decide +kernel
theorem d_M_credit_128 : decode c_M_credit 128 = .ok (.ldiv, 1) ∧ 128 + 1 = 129 := by decide +kernel
theorem d_M_credit_129 : decode c_M_credit 129 = .ok (.ladd, 1) ∧ 129 + 1 = 130 := by decide +kernel
theorem d_M_credit_130 : decode c_M_credit 130 = .ok (.ladd, 1) ∧ 130 + 1 = 131 := by decide +kernel
theorem d_M_credit_131 : decode c_M_credit 131 = .ok (.lstore_n 3, 1) ∧ 131 + 1 = 132 := by decide +kernel
theorem d_M_credit_132 : decode c_M_credit 132 = .ok (.iinc 5 1, 3) ∧ 132 + 3 = 135 := by decide +kernel
theorem d_M_credit_135 : decode c_M_credit 135 = .ok (.goto (-111), 3) ∧ (135 : Int) + (-111) = (24 : Int) := by decide +kernel
theorem d_M_credit_138 : decode c_M_credit 138 = .ok (.lload_n 3, 1) ∧ 138 + 1 = 139 := by decide +kernel
theorem d_M_credit_139 : decode c_M_credit 139 = .ok (.aload_n 0, 1) ∧ 139 + 1 = 140 := by decide +kernel
theorem d_M_credit_140 : decode c_M_credit 140 = .ok (.iload_n 1, 1) ∧ 140 + 1 = 141 := by decide +kernel
theorem d_M_credit_141 : decode c_M_credit 141 = .ok (.iload_n 2, 1) ∧ 141 + 1 = 142 := by decide +kernel
theorem d_M_credit_142 : decode c_M_credit 142 = .ok (.invokevirtual 397, 3) ∧ 142 + 3 = 145 := by decide +kernel
theorem d_M_credit_145 : decode c_M_credit 145 = .ok (.i2l, 1) ∧ 145 + 1 = 146 := by decide +kernel
theorem d_M_credit_146 : decode c_M_credit 146 = .ok (.lsub, 1) ∧ 146 + 1 = 147 := by decide +kernel
theorem d_M_credit_147 : decode c_M_credit 147 = .ok (.lstore_n 3, 1) ∧ 147 + 1 = 148 := by decide +kernel
theorem d_M_credit_148 : decode c_M_credit 148 = .ok (.lload_n 3, 1) ∧ 148 + 1 = 149 := by decide +kernel
theorem d_M_credit_149 : decode c_M_credit 149 = .ok (.lconst 0, 1) ∧ 149 + 1 = 150 := by decide +kernel
theorem d_M_credit_150 : decode c_M_credit 150 = .ok (.lcmp, 1) ∧ 150 + 1 = 151 := by decide +kernel
theorem d_M_credit_151 : decode c_M_credit 151 = .ok (.ifCond .ge 7, 3) ∧ 151 + 3 = 154 ∧ ((151 : Nat) : Int) + 7 = ((158 : Nat) : Int) := by decide +kernel
theorem d_M_credit_154 : decode c_M_credit 154 = .ok (.lconst 0, 1) ∧ 154 + 1 = 155 := by decide +kernel
theorem d_M_credit_155 : decode c_M_credit 155 = .ok (.goto 4, 3) ∧ (155 : Int) + 4 = (159 : Int) := by decide +kernel
theorem d_M_credit_158 : decode c_M_credit 158 = .ok (.lload_n 3, 1) ∧ 158 + 1 = 159 := by decide +kernel
theorem d_M_credit_159 : decode c_M_credit 159 = .ok (.lreturn, 1) ∧ 159 + 1 = 160 := by decide +kernel
set_option maxHeartbeats 4000000 in
theorem w_M_credit_L24 {Z : Sy} {Γ : Nat → List (Nat × Value) → List Value → St → Prop} {res : Int64} {x1 : Int32} {x2 : Int32} {σ : St} (h : IsG YM Z R_M c_M_credit 9 3 (some .long) (some (.long res)) σ Γ) : ∀ (n : Nat) (x3 : Int64) (x5 : Int32), M_credit_L24 x1 x2 σ n x3 x5 = some res → Γ 24 [(0, .ref (ya Z 0)), (1, .int x1), (2, .int x2), (3, .long x3), (5, .int x5)] [] σ := by
  intro n
  induction n with
  | zero => intro x3 x5 hf; exact absurd hf (by simp [M_credit_L24])
  | succ n ih =>
    intro x3 x5 hf
    rw [M_credit_L24] at hf
    refine r_iload h d_M_credit_24 4 rfl ?_
    refine r_aload_n h d_M_credit_26 0 rfl rfl ?_
    refine r_getI h fd_YM_0_17 cf_M fl_M_268 d_M_credit_27 ?_
    refine r_icmp_ge h d_M_credit_30 hf (fun hf => ?_) (fun hf => ?_)
    · refine r_lload_n h d_M_credit_138 3 rfl rfl ?_
      refine r_aload_n h d_M_credit_139 0 rfl rfl ?_
      refine r_iload_n h d_M_credit_140 1 rfl rfl ?_
      refine r_iload_n h d_M_credit_141 2 rfl rfl ?_
      obtain ⟨r142, e142, hf⟩ := q_bind hf
      refine r_callV (As := [.int x1, .int x2]) (rest := [.long x3]) h sh_YM_0 lk_M_397 vk_M_397 d_M_credit_142 (by decide) rfl rfl (Nat.le_of_ble_eq_true rfl) (m_M_sentFor e142) ?_
      refine r_i2l h d_M_credit_145 ?_
      refine r_lsub h d_M_credit_146 ?_
      refine r_lstore_n (ls' := [(3, .long (x3 - (Int32.toInt64 r142))), (0, .ref (ya Z 0)), (1, .int x1), (2, .int x2), (5, .int x5)]) h d_M_credit_147 rfl (by decide) rfl ?_
      refine r_lload_n h d_M_credit_148 0 rfl rfl ?_
      refine r_lconst h d_M_credit_149 kl_0 ?_
      refine r_lif_ge h d_M_credit_150 d_M_credit_151 hf (fun hf => ?_) (fun hf => ?_)
      · refine r_lload_n h d_M_credit_158 0 rfl rfl ?_
        exact r_lreturn h d_M_credit_159.1 (Option.some.inj hf) rfl
      · refine r_lconst h d_M_credit_154 kl_0 ?_
        refine r_goto h d_M_credit_155 ?_
        exact r_lreturn h d_M_credit_159.1 (Option.some.inj hf) rfl
    · refine r_aload_n h d_M_credit_33 0 rfl rfl ?_
      refine r_getR h fd_YM_0_18 cf_M fl_M_43 d_M_credit_34 ?_
      refine r_iload h d_M_credit_37 4 rfl ?_
      refine r_iald h sh_YM_12 d_M_credit_39 hf (fun hf => ?_)
      refine r_iload_n h d_M_credit_40 1 rfl rfl ?_
      refine r_icmp_ne h d_M_credit_41 hf (fun hf => ?_) (fun hf => ?_)
      · refine r_iinc (ls' := [(5, .int (x5 + (1 : Int32))), (0, .ref (ya Z 0)), (1, .int x1), (2, .int x2), (3, .long x3)]) h d_M_credit_132 4 rfl ki_1 (by decide) rfl ?_
        refine r_goto h d_M_credit_135 ?_
        refine r_sub h [1, 2, 3, 4, 0] rfl ?_
        exact ih _ _ hf
      · refine r_aload_n h d_M_credit_44 0 rfl rfl ?_
        refine r_getR h fd_YM_0_19 cf_M fl_M_46 d_M_credit_45 ?_
        refine r_iload h d_M_credit_48 4 rfl ?_
        refine r_iald h sh_YM_13 d_M_credit_50 hf (fun hf => ?_)
        refine r_if_ne h d_M_credit_51 hf (fun hf => ?_) (fun hf => ?_)
        · refine r_iinc (ls' := [(5, .int (x5 + (1 : Int32))), (0, .ref (ya Z 0)), (1, .int x1), (2, .int x2), (3, .long x3)]) h d_M_credit_132 4 rfl ki_1 (by decide) rfl ?_
          refine r_goto h d_M_credit_135 ?_
          refine r_sub h [1, 2, 3, 4, 0] rfl ?_
          exact ih _ _ hf
        · refine r_aload_n h d_M_credit_54 0 rfl rfl ?_
          refine r_getR h fd_YM_0_23 cf_M fl_M_58 d_M_credit_55 ?_
          refine r_iload h d_M_credit_58 4 rfl ?_
          refine r_iald h sh_YM_17 d_M_credit_60 hf (fun hf => ?_)
          refine r_iload_n h d_M_credit_61 2 rfl rfl ?_
          refine r_icmp_gt h d_M_credit_62 hf (fun hf => ?_) (fun hf => ?_)
          · refine r_iinc (ls' := [(5, .int (x5 + (1 : Int32))), (0, .ref (ya Z 0)), (1, .int x1), (2, .int x2), (3, .long x3)]) h d_M_credit_132 4 rfl ki_1 (by decide) rfl ?_
            refine r_goto h d_M_credit_135 ?_
            refine r_sub h [1, 2, 3, 4, 0] rfl ?_
            exact ih _ _ hf
          · refine r_aload_n h d_M_credit_65 0 rfl rfl ?_
            refine r_getR h fd_YM_0_21 cf_M fl_M_52 d_M_credit_66 ?_
            refine r_iload h d_M_credit_69 4 rfl ?_
            refine r_iald h sh_YM_15 d_M_credit_71 hf (fun hf => ?_)
            refine r_i2l h d_M_credit_72 ?_
            refine r_aload_n h d_M_credit_73 0 rfl rfl ?_
            refine r_getR h fd_YM_0_22 cf_M fl_M_55 d_M_credit_74 ?_
            refine r_iload h d_M_credit_77 4 rfl ?_
            refine r_iald h sh_YM_16 d_M_credit_79 hf (fun hf => ?_)
            refine r_i2l h d_M_credit_80 ?_
            refine r_lmul h d_M_credit_81 ?_
            refine r_lstore (ls' := [(6, .long ((Int32.toInt64 (σ.1 15 (Int32.toNatClampNeg x5))) * (Int32.toInt64 (σ.1 16 (Int32.toNatClampNeg x5))))), (0, .ref (ya Z 0)), (1, .int x1), (2, .int x2), (3, .long x3), (5, .int x5)]) h d_M_credit_82 (by decide) rfl ?_
            refine r_aload_n h d_M_credit_84 1 rfl rfl ?_
            refine r_iconst h d_M_credit_85 ki_1 ?_
            refine r_aload_n h d_M_credit_86 1 rfl rfl ?_
            refine r_iconst h d_M_credit_87 ki_1 ?_
            refine r_iconst h d_M_credit_88 ki_0 ?_
            refine r_iconst h d_M_credit_89 ki_m1 ?_
            refine r_aload_n h d_M_credit_90 1 rfl rfl ?_
            refine r_getR h fd_YM_0_23 cf_M fl_M_58 d_M_credit_91 ?_
            refine r_iload h d_M_credit_94 5 rfl ?_
            refine r_iald h sh_YM_17 d_M_credit_96 hf (fun hf => ?_)
            obtain ⟨r97, e97, hf⟩ := q_bind hf
            refine r_callV (As := [.int (1 : Int32), .int (0 : Int32), .int (-1 : Int32), .int (σ.1 17 (Int32.toNatClampNeg x5))]) (rest := [.int (1 : Int32), .ref (ya Z 0)]) h sh_YM_0 lk_M_348 vk_M_348 d_M_credit_97 (by decide) rfl rfl (Nat.le_of_ble_eq_true rfl) (m_M_clauseOf e97) ?_
            obtain ⟨r100, e100, hf⟩ := q_bind hf
            refine r_callV (As := [.int (1 : Int32), .int r97]) (rest := []) h sh_YM_0 lk_M_355 vk_M_355 d_M_credit_100 (by decide) rfl rfl (Nat.le_of_ble_eq_true rfl) (m_M_valueOf e100) ?_
            refine r_istore (ls' := [(8, .int r100), (6, .long ((Int32.toInt64 (σ.1 15 (Int32.toNatClampNeg x5))) * (Int32.toInt64 (σ.1 16 (Int32.toNatClampNeg x5))))), (0, .ref (ya Z 0)), (1, .int x1), (2, .int x2), (3, .long x3), (5, .int x5)]) h d_M_credit_103 (by decide) rfl ?_
            refine r_lload_n h d_M_credit_105 5 rfl rfl ?_
            refine r_lload h d_M_credit_106 1 rfl ?_
            refine r_lload h d_M_credit_108 1 rfl ?_
            refine r_iload h d_M_credit_110 0 rfl ?_
            refine r_i2l h d_M_credit_112 ?_
            refine r_lmul h d_M_credit_113 ?_
            refine r_iload_n h d_M_credit_114 4 rfl rfl ?_
            refine r_aload_n h d_M_credit_115 2 rfl rfl ?_
            refine r_getR h fd_YM_0_23 cf_M fl_M_58 d_M_credit_116 ?_
            refine r_iload h d_M_credit_119 6 rfl ?_
            refine r_iald h sh_YM_17 d_M_credit_121 hf (fun hf => ?_)
            refine r_isub h d_M_credit_122 ?_
            refine r_i2l h d_M_credit_123 ?_
            refine r_lmul h d_M_credit_124 ?_
            refine r_ldc2 h d_M_credit_125 tm_1684 ?_
            refine r_ldiv h d_M_credit_128 (by decide) ?_
            refine r_ladd h d_M_credit_129 ?_
            refine r_ladd h d_M_credit_130 ?_
            refine r_lstore_n (ls' := [(3, .long (x3 + (((Int32.toInt64 (σ.1 15 (Int32.toNatClampNeg x5))) * (Int32.toInt64 (σ.1 16 (Int32.toNatClampNeg x5)))) + (((((Int32.toInt64 (σ.1 15 (Int32.toNatClampNeg x5))) * (Int32.toInt64 (σ.1 16 (Int32.toNatClampNeg x5)))) * (Int32.toInt64 r100)) * (Int32.toInt64 (x2 - (σ.1 17 (Int32.toNatClampNeg x5))))) / (10000 : Int64))))), (8, .int r100), (6, .long ((Int32.toInt64 (σ.1 15 (Int32.toNatClampNeg x5))) * (Int32.toInt64 (σ.1 16 (Int32.toNatClampNeg x5))))), (0, .ref (ya Z 0)), (1, .int x1), (2, .int x2), (5, .int x5)]) h d_M_credit_131 rfl (by decide) rfl ?_
            refine r_iinc (ls' := [(5, .int (x5 + (1 : Int32))), (3, .long (x3 + (((Int32.toInt64 (σ.1 15 (Int32.toNatClampNeg x5))) * (Int32.toInt64 (σ.1 16 (Int32.toNatClampNeg x5)))) + (((((Int32.toInt64 (σ.1 15 (Int32.toNatClampNeg x5))) * (Int32.toInt64 (σ.1 16 (Int32.toNatClampNeg x5)))) * (Int32.toInt64 r100)) * (Int32.toInt64 (x2 - (σ.1 17 (Int32.toNatClampNeg x5))))) / (10000 : Int64))))), (8, .int r100), (6, .long ((Int32.toInt64 (σ.1 15 (Int32.toNatClampNeg x5))) * (Int32.toInt64 (σ.1 16 (Int32.toNatClampNeg x5))))), (0, .ref (ya Z 0)), (1, .int x1), (2, .int x2)]) h d_M_credit_132 6 rfl ki_1 (by decide) rfl ?_
            refine r_goto h d_M_credit_135 ?_
            refine r_sub h [4, 5, 6, 1, 0] rfl ?_
            exact ih _ _ hf

set_option maxHeartbeats 4000000 in
theorem m_M_credit {Z : Sy} {σ : St} {res : Int64} {x1 : Int32} {x2 : Int32} (hf : M_credit x1 x2 σ = some res) : Ct YM Z y_M_credit c_M_credit 9 (some .long) 3 [.ref (ya Z 0), .int x1, .int x2] σ (some (.long res)) σ := by
  refine Ct.of pn_M (Nat.le_of_ble_eq_true rfl) rfl (fun Γ h => ?_)
  have h : IsG YM Z R_M c_M_credit 9 3 (some .long) (some (.long res)) σ Γ := h
  unfold M_credit at hf
  refine r_aload_n h d_M_credit_0 0 rfl rfl ?_
  refine r_iload_n h d_M_credit_1 1 rfl rfl ?_
  obtain ⟨r2, e2, hf⟩ := q_bind hf
  refine r_callV (As := [.int x1]) (rest := []) h sh_YM_0 lk_M_284 vk_M_284 d_M_credit_2 (by decide) rfl rfl (Nat.le_of_ble_eq_true rfl) (m_M_noPack e2) ?_
  refine r_bif_ne h d_M_credit_5 hf (fun hf => ?_) (fun hf => ?_)
  · obtain ⟨r15, e15, hf⟩ := q_bind hf
    refine r_callS (As := []) (rest := []) h lk_M_213 sk_M_213 d_M_credit_15 (by decide) rfl rfl (Nat.le_of_ble_eq_true rfl) (m_M_lost e15) ?_
    exact r_lreturn h d_M_credit_18.1 (Option.some.inj hf) rfl
  · refine r_iload_n h d_M_credit_8 2 rfl rfl ?_
    obtain ⟨r9, e9, hf⟩ := q_bind hf
    refine r_callS (As := [.int x2]) (rest := []) h lk_M_205 sk_M_205 d_M_credit_9 (by decide) rfl rfl (Nat.le_of_ble_eq_true rfl) (m_M_isDay e9) ?_
    refine r_bif_ne h d_M_credit_12 hf (fun hf => ?_) (fun hf => ?_)
    · refine r_lconst h d_M_credit_19 kl_0 ?_
      refine r_lstore_n (ls' := [(3, .long (0 : Int64)), (0, .ref (ya Z 0)), (1, .int x1), (2, .int x2)]) h d_M_credit_20 rfl (by decide) rfl ?_
      refine r_iconst h d_M_credit_21 ki_0 ?_
      refine r_istore (ls' := [(5, .int (0 : Int32)), (3, .long (0 : Int64)), (0, .ref (ya Z 0)), (1, .int x1), (2, .int x2)]) h d_M_credit_22 (by decide) rfl ?_
      refine r_sub h [2, 3, 4, 1, 0] rfl ?_
      exact w_M_credit_L24 h _ _ _ hf
    · obtain ⟨r15, e15, hf⟩ := q_bind hf
      refine r_callS (As := []) (rest := []) h lk_M_213 sk_M_213 d_M_credit_15 (by decide) rfl rfl (Nat.le_of_ble_eq_true rfl) (m_M_lost e15) ?_
      exact r_lreturn h d_M_credit_18.1 (Option.some.inj hf) rfl

theorem d_M_share_0 : decode c_M_share 0 = .ok (.aload_n 0, 1) ∧ 0 + 1 = 1 := by decide +kernel
theorem d_M_share_1 : decode c_M_share 1 = .ok (.iload_n 1, 1) ∧ 1 + 1 = 2 := by decide +kernel
theorem d_M_share_2 : decode c_M_share 2 = .ok (.invokevirtual 237, 3) ∧ 2 + 3 = 5 := by decide +kernel
theorem d_M_share_5 : decode c_M_share 5 = .ok (.ifCond .eq 5, 3) ∧ 5 + 3 = 8 ∧ ((5 : Nat) : Int) + 5 = ((10 : Nat) : Int) := by decide +kernel
theorem d_M_share_8 : decode c_M_share 8 = .ok (.iconst (-1), 1) ∧ 8 + 1 = 9 := by decide +kernel
theorem d_M_share_9 : decode c_M_share 9 = .ok (.ireturn, 1) ∧ 9 + 1 = 10 := by decide +kernel
theorem d_M_share_10 : decode c_M_share 10 = .ok (.iload_n 2, 1) ∧ 10 + 1 = 11 := by decide +kernel
theorem d_M_share_11 : decode c_M_share 11 = .ok (.iload_n 3, 1) ∧ 11 + 1 = 12 := by decide +kernel
theorem d_M_share_12 : decode c_M_share 12 = .ok (.invokestatic 243, 3) ∧ 12 + 3 = 15 := by decide +kernel
theorem d_M_share_15 : decode c_M_share 15 = .ok (.ifCond .eq 16, 3) ∧ 15 + 3 = 18 ∧ ((15 : Nat) : Int) + 16 = ((31 : Nat) : Int) := by decide +kernel
theorem d_M_share_18 : decode c_M_share 18 = .ok (.iload 4, 2) ∧ 18 + 2 = 20 := by decide +kernel
theorem d_M_share_20 : decode c_M_share 20 = .ok (.i2l, 1) ∧ 20 + 1 = 21 := by decide +kernel
theorem d_M_share_21 : decode c_M_share 21 = .ok (.lconst 0, 1) ∧ 21 + 1 = 22 := by decide +kernel
theorem d_M_share_22 : decode c_M_share 22 = .ok (.ldc2_w 358, 3) ∧ 22 + 3 = 25 := by decide +kernel
theorem d_M_share_25 : decode c_M_share 25 = .ok (.invokestatic 201, 3) ∧ 25 + 3 = 28 := by decide +kernel
theorem d_M_share_28 : decode c_M_share 28 = .ok (.ifCond .ne 6, 3) ∧ 28 + 3 = 31 ∧ ((28 : Nat) : Int) + 6 = ((34 : Nat) : Int) := by decide +kernel
theorem d_M_share_31 : decode c_M_share 31 = .ok (.bipush (-2), 2) ∧ 31 + 2 = 33 := by decide +kernel
theorem d_M_share_33 : decode c_M_share 33 = .ok (.ireturn, 1) ∧ 33 + 1 = 34 := by decide +kernel
theorem d_M_share_34 : decode c_M_share 34 = .ok (.iconst 0, 1) ∧ 34 + 1 = 35 := by decide +kernel
theorem d_M_share_35 : decode c_M_share 35 = .ok (.istore 5, 2) ∧ 35 + 2 = 37 := by decide +kernel
theorem d_M_share_37 : decode c_M_share 37 = .ok (.iconst 0, 1) ∧ 37 + 1 = 38 := by decide +kernel
theorem d_M_share_38 : decode c_M_share 38 = .ok (.istore 6, 2) ∧ 38 + 2 = 40 := by decide +kernel
theorem d_M_share_40 : decode c_M_share 40 = .ok (.iload 6, 2) ∧ 40 + 2 = 42 := by decide +kernel
theorem d_M_share_42 : decode c_M_share 42 = .ok (.aload_n 0, 1) ∧ 42 + 1 = 43 := by decide +kernel
theorem d_M_share_43 : decode c_M_share 43 = .ok (.getfield 268, 3) ∧ 43 + 3 = 46 := by decide +kernel
theorem d_M_share_46 : decode c_M_share 46 = .ok (.if_icmp .ge 99, 3) ∧ 46 + 3 = 49 ∧ ((46 : Nat) : Int) + 99 = ((145 : Nat) : Int) := by decide +kernel
theorem d_M_share_49 : decode c_M_share 49 = .ok (.aload_n 0, 1) ∧ 49 + 1 = 50 := by decide +kernel
theorem d_M_share_50 : decode c_M_share 50 = .ok (.getfield 37, 3) ∧ 50 + 3 = 53 := by decide +kernel
theorem d_M_share_53 : decode c_M_share 53 = .ok (.aload_n 0, 1) ∧ 53 + 1 = 54 := by decide +kernel
theorem d_M_share_54 : decode c_M_share 54 = .ok (.getfield 43, 3) ∧ 54 + 3 = 57 := by decide +kernel
theorem d_M_share_57 : decode c_M_share 57 = .ok (.iload 6, 2) ∧ 57 + 2 = 59 := by decide +kernel
theorem d_M_share_59 : decode c_M_share 59 = .ok (.iaload, 1) ∧ 59 + 1 = 60 := by decide +kernel
theorem d_M_share_60 : decode c_M_share 60 = .ok (.iaload, 1) ∧ 60 + 1 = 61 := by decide +kernel
theorem d_M_share_61 : decode c_M_share 61 = .ok (.iload_n 1, 1) ∧ 61 + 1 = 62 := by decide +kernel
theorem d_M_share_62 : decode c_M_share 62 = .ok (.if_icmp .ne 77, 3) ∧ 62 + 3 = 65 ∧ ((62 : Nat) : Int) + 77 = ((139 : Nat) : Int) := by decide +kernel
theorem d_M_share_65 : decode c_M_share 65 = .ok (.aload_n 0, 1) ∧ 65 + 1 = 66 := by decide +kernel
theorem d_M_share_66 : decode c_M_share 66 = .ok (.getfield 58, 3) ∧ 66 + 3 = 69 := by decide +kernel
theorem d_M_share_69 : decode c_M_share 69 = .ok (.iload 6, 2) ∧ 69 + 2 = 71 := by decide +kernel
theorem d_M_share_71 : decode c_M_share 71 = .ok (.iaload, 1) ∧ 71 + 1 = 72 := by decide +kernel
theorem d_M_share_72 : decode c_M_share 72 = .ok (.i2l, 1) ∧ 72 + 1 = 73 := by decide +kernel
theorem d_M_share_73 : decode c_M_share 73 = .ok (.iload_n 2, 1) ∧ 73 + 1 = 74 := by decide +kernel
theorem d_M_share_74 : decode c_M_share 74 = .ok (.i2l, 1) ∧ 74 + 1 = 75 := by decide +kernel
theorem d_M_share_75 : decode c_M_share 75 = .ok (.iload_n 3, 1) ∧ 75 + 1 = 76 := by decide +kernel
theorem d_M_share_76 : decode c_M_share 76 = .ok (.i2l, 1) ∧ 76 + 1 = 77 := by decide +kernel
theorem d_M_share_77 : decode c_M_share 77 = .ok (.invokestatic 201, 3) ∧ 77 + 3 = 80 := by decide +kernel
theorem d_M_share_80 : decode c_M_share 80 = .ok (.ifCond .eq 59, 3) ∧ 80 + 3 = 83 ∧ ((80 : Nat) : Int) + 59 = ((139 : Nat) : Int) := by decide +kernel
theorem d_M_share_83 : decode c_M_share 83 = .ok (.aload_n 0, 1) ∧ 83 + 1 = 84 := by decide +kernel
theorem d_M_share_84 : decode c_M_share 84 = .ok (.getfield 52, 3) ∧ 84 + 3 = 87 := by decide +kernel
theorem d_M_share_87 : decode c_M_share 87 = .ok (.iload 6, 2) ∧ 87 + 2 = 89 := by decide +kernel
theorem d_M_share_89 : decode c_M_share 89 = .ok (.iaload, 1) ∧ 89 + 1 = 90 := by decide +kernel
theorem d_M_share_90 : decode c_M_share 90 = .ok (.aload_n 0, 1) ∧ 90 + 1 = 91 := by decide +kernel
theorem d_M_share_91 : decode c_M_share 91 = .ok (.getfield 55, 3) ∧ 91 + 3 = 94 := by decide +kernel
theorem d_M_share_94 : decode c_M_share 94 = .ok (.iload 6, 2) ∧ 94 + 2 = 96 := by decide +kernel
theorem d_M_share_96 : decode c_M_share 96 = .ok (.iaload, 1) ∧ 96 + 1 = 97 := by decide +kernel
theorem d_M_share_97 : decode c_M_share 97 = .ok (.imul, 1) ∧ 97 + 1 = 98 := by decide +kernel
theorem d_M_share_98 : decode c_M_share 98 = .ok (.istore 7, 2) ∧ 98 + 2 = 100 := by decide +kernel
theorem d_M_share_100 : decode c_M_share 100 = .ok (.iload 5, 2) ∧ 100 + 2 = 102 := by decide +kernel
theorem d_M_share_102 : decode c_M_share 102 = .ok (.aload_n 0, 1) ∧ 102 + 1 = 103 := by decide +kernel
theorem d_M_share_103 : decode c_M_share 103 = .ok (.getfield 46, 3) ∧ 103 + 3 = 106 := by decide +kernel
theorem d_M_share_106 : decode c_M_share 106 = .ok (.iload 6, 2) ∧ 106 + 2 = 108 := by decide +kernel
theorem d_M_share_108 : decode c_M_share 108 = .ok (.iaload, 1) ∧ 108 + 1 = 109 := by decide +kernel
theorem d_M_share_109 : decode c_M_share 109 = .ok (.iconst 2, 1) ∧ 109 + 1 = 110 := by decide +kernel
theorem d_M_share_110 : decode c_M_share 110 = .ok (.if_icmp .ne 8, 3) ∧ 110 + 3 = 113 ∧ ((110 : Nat) : Int) + 8 = ((118 : Nat) : Int) := by decide +kernel
theorem d_M_share_113 : decode c_M_share 113 = .ok (.iload 7, 2) ∧ 113 + 2 = 115 := by decide +kernel
theorem d_M_share_115 : decode c_M_share 115 = .ok (.goto 21, 3) ∧ (115 : Int) + 21 = (136 : Int) := by decide +kernel
theorem d_M_share_118 : decode c_M_share 118 = .ok (.aload_n 0, 1) ∧ 118 + 1 = 119 := by decide +kernel
theorem d_M_share_119 : decode c_M_share 119 = .ok (.getfield 46, 3) ∧ 119 + 3 = 122 := by decide +kernel
theorem d_M_share_122 : decode c_M_share 122 = .ok (.iload 6, 2) ∧ 122 + 2 = 124 := by decide +kernel
theorem d_M_share_124 : decode c_M_share 124 = .ok (.iaload, 1) ∧ 124 + 1 = 125 := by decide +kernel
theorem d_M_share_125 : decode c_M_share 125 = .ok (.iconst 1, 1) ∧ 125 + 1 = 126 := by decide +kernel
theorem d_M_share_126 : decode c_M_share 126 = .ok (.if_icmp .ne 9, 3) ∧ 126 + 3 = 129 ∧ ((126 : Nat) : Int) + 9 = ((135 : Nat) : Int) := by decide +kernel
theorem d_M_share_129 : decode c_M_share 129 = .ok (.iload 7, 2) ∧ 129 + 2 = 131 := by decide +kernel
theorem d_M_share_131 : decode c_M_share 131 = .ok (.ineg, 1) ∧ 131 + 1 = 132 := by decide +kernel
theorem d_M_share_132 : decode c_M_share 132 = .ok (.goto 4, 3) ∧ (132 : Int) + 4 = (136 : Int) := by decide +kernel
theorem d_M_share_135 : decode c_M_share 135 = .ok (.iconst 0, 1) ∧ 135 + 1 = 136 := by decide +kernel
theorem d_M_share_136 : decode c_M_share 136 = .ok (.iadd, 1) ∧ 136 + 1 = 137 := by decide +kernel
theorem d_M_share_137 : decode c_M_share 137 = .ok (.istore 5, 2) ∧ 137 + 2 = 139 := by decide +kernel
theorem d_M_share_139 : decode c_M_share 139 = .ok (.iinc 6 1, 3) ∧ 139 + 3 = 142 := by decide +kernel
theorem d_M_share_142 : decode c_M_share 142 = .ok (.goto (-102), 3) ∧ (142 : Int) + (-102) = (40 : Int) := by decide +kernel
theorem d_M_share_145 : decode c_M_share 145 = .ok (.iload 5, 2) ∧ 145 + 2 = 147 := by decide +kernel
theorem d_M_share_147 : decode c_M_share 147 = .ok (.ifCond .ge 7, 3) ∧ 147 + 3 = 150 ∧ ((147 : Nat) : Int) + 7 = ((154 : Nat) : Int) := by decide +kernel
theorem d_M_share_150 : decode c_M_share 150 = .ok (.iconst 0, 1) ∧ 150 + 1 = 151 := by decide +kernel
theorem d_M_share_151 : decode c_M_share 151 = .ok (.goto 5, 3) ∧ (151 : Int) + 5 = (156 : Int) := by decide +kernel
theorem d_M_share_154 : decode c_M_share 154 = .ok (.iload 5, 2) ∧ 154 + 2 = 156 := by decide +kernel
theorem d_M_share_156 : decode c_M_share 156 = .ok (.istore 5, 2) ∧ 156 + 2 = 158 := by decide +kernel
theorem d_M_share_158 : decode c_M_share 158 = .ok (.aload_n 0, 1) ∧ 158 + 1 = 159 := by decide +kernel
theorem d_M_share_159 : decode c_M_share 159 = .ok (.iconst 0, 1) ∧ 159 + 1 = 160 := by decide +kernel
theorem d_M_share_160 : decode c_M_share 160 = .ok (.aload_n 0, 1) ∧ 160 + 1 = 161 := by decide +kernel
theorem d_M_share_161 : decode c_M_share 161 = .ok (.iconst 0, 1) ∧ 161 + 1 = 162 := by decide +kernel
theorem d_M_share_162 : decode c_M_share 162 = .ok (.iconst 0, 1) ∧ 162 + 1 = 163 := by decide +kernel
theorem d_M_share_163 : decode c_M_share 163 = .ok (.iconst (-1), 1) ∧ 163 + 1 = 164 := by decide +kernel
theorem d_M_share_164 : decode c_M_share 164 = .ok (.iload_n 3, 1) ∧ 164 + 1 = 165 := by decide +kernel
theorem d_M_share_165 : decode c_M_share 165 = .ok (.invokevirtual 348, 3) ∧ 165 + 3 = 168 := by decide +kernel
theorem d_M_share_168 : decode c_M_share 168 = .ok (.invokevirtual 355, 3) ∧ 168 + 3 = 171 := by decide +kernel
theorem d_M_share_171 : decode c_M_share 171 = .ok (.istore 6, 2) ∧ 171 + 2 = 173 := by decide +kernel
theorem d_M_share_173 : decode c_M_share 173 = .ok (.iload 5, 2) ∧ 173 + 2 = 175 := by decide +kernel
theorem d_M_share_175 : decode c_M_share 175 = .ok (.iload 5, 2) ∧ 175 + 2 = 177 := by decide +kernel
theorem d_M_share_177 : decode c_M_share 177 = .ok (.iload 6, 2) ∧ 177 + 2 = 179 := by decide +kernel
theorem d_M_share_179 : decode c_M_share 179 = .ok (.imul, 1) ∧ 179 + 1 = 180 := by decide +kernel
theorem d_M_share_180 : decode c_M_share 180 = .ok (.bipush 10, 2) ∧ 180 + 2 = 182 := by decide +kernel
theorem d_M_share_182 : decode c_M_share 182 = .ok (.idiv, 1) ∧ 182 + 1 = 183 := by decide +kernel
theorem d_M_share_183 : decode c_M_share 183 = .ok (.isub, 1) ∧ 183 + 1 = 184 := by decide +kernel
theorem d_M_share_184 : decode c_M_share 184 = .ok (.istore 7, 2) ∧ 184 + 2 = 186 := by decide +kernel
theorem d_M_share_186 : decode c_M_share 186 = .ok (.iconst 2, 1) ∧ 186 + 1 = 187 := by decide +kernel
theorem d_M_share_187 : decode c_M_share 187 = .ok (.aload_n 0, 1) ∧ 187 + 1 = 188 := by decide +kernel
theorem d_M_share_188 : decode c_M_share 188 = .ok (.getfield 13, 3) ∧ 188 + 3 = 191 := by decide +kernel
theorem d_M_share_191 : decode c_M_share 191 = .ok (.iload_n 1, 1) ∧ 191 + 1 = 192 := by decide +kernel
theorem d_M_share_192 : decode c_M_share 192 = .ok (.iaload, 1) ∧ 192 + 1 = 193 := by decide +kernel
theorem d_M_share_193 : decode c_M_share 193 = .ok (.imul, 1) ∧ 193 + 1 = 194 := by decide +kernel
theorem d_M_share_194 : decode c_M_share 194 = .ok (.aload_n 0, 1) ∧ 194 + 1 = 195 := by decide +kernel
theorem d_M_share_195 : decode c_M_share 195 = .ok (.getfield 16, 3) ∧ 195 + 3 = 198 := by decide +kernel
theorem d_M_share_198 : decode c_M_share 198 = .ok (.iload_n 1, 1) ∧ 198 + 1 = 199 := by decide +kernel
theorem d_M_share_199 : decode c_M_share 199 = .ok (.iaload, 1) ∧ 199 + 1 = 200 := by decide +kernel
theorem d_M_share_200 : decode c_M_share 200 = .ok (.iadd, 1) ∧ 200 + 1 = 201 := by decide +kernel
theorem d_M_share_201 : decode c_M_share 201 = .ok (.istore 8, 2) ∧ 201 + 2 = 203 := by decide +kernel
theorem d_M_share_203 : decode c_M_share 203 = .ok (.iload 8, 2) ∧ 203 + 2 = 205 := by decide +kernel
theorem d_M_share_205 : decode c_M_share 205 = .ok (.ifCond .ne 7, 3) ∧ 205 + 3 = 208 ∧ ((205 : Nat) : Int) + 7 = ((212 : Nat) : Int) := by decide +kernel
theorem d_M_share_208 : decode c_M_share 208 = .ok (.iconst 0, 1) ∧ 208 + 1 = 209 := by decide +kernel
theorem d_M_share_209 : decode c_M_share 209 = .ok (.goto 10, 3) ∧ (209 : Int) + 10 = (219 : Int) := by decide +kernel
theorem d_M_share_212 : decode c_M_share 212 = .ok (.iconst 2, 1) ∧ 212 + 1 = 213 := by decide +kernel
theorem d_M_share_213 : decode c_M_share 213 = .ok (.iload 7, 2) ∧ 213 + 2 = 215 := by decide +kernel
theorem d_M_share_215 : decode c_M_share 215 = .ok (.imul, 1) ∧ 215 + 1 = 216 := by decide +kernel
theorem d_M_share_216 : decode c_M_share 216 = .ok (.iload 8, 2) ∧ 216 + 2 = 218 := by decide +kernel
theorem d_M_share_218 : decode c_M_share 218 = .ok (.idiv, 1) ∧ 218 + 1 = 219 := by decide +kernel
theorem d_M_share_219 : decode c_M_share 219 = .ok (.istore 9, 2) ∧ 219 + 2 = 221 := by decide +kernel
theorem d_M_share_221 : decode c_M_share 221 = .ok (.iload 8, 2) ∧ 221 + 2 = 223 := by decide +kernel
theorem d_M_share_223 : decode c_M_share 223 = .ok (.ifCond .ne 7, 3) ∧ 223 + 3 = 226 ∧ ((223 : Nat) : Int) + 7 = ((230 : Nat) : Int) := by decide +kernel
theorem d_M_share_226 : decode c_M_share 226 = .ok (.iconst 0, 1) ∧ 226 + 1 = 227 := by decide +kernel
theorem d_M_share_227 : decode c_M_share 227 = .ok (.goto 8, 3) ∧ (227 : Int) + 8 = (235 : Int) := by decide +kernel
theorem d_M_share_230 : decode c_M_share 230 = .ok (.iload 7, 2) ∧ 230 + 2 = 232 := by decide +kernel
theorem d_M_share_232 : decode c_M_share 232 = .ok (.iload 8, 2) ∧ 232 + 2 = 234 := by decide +kernel
theorem d_M_share_234 : decode c_M_share 234 = .ok (.idiv, 1) ∧ 234 + 1 = 235 := by decide +kernel
theorem d_M_share_235 : decode c_M_share 235 = .ok (.istore 10, 2) ∧ 235 + 2 = 237 := by decide +kernel
theorem d_M_share_237 : decode c_M_share 237 = .ok (.iload 4, 2) ∧ 237 + 2 = 239 := by decide +kernel
theorem d_M_share_239 : decode c_M_share 239 = .ok (.ifCond .ne 8, 3) ∧ 239 + 3 = 242 ∧ ((239 : Nat) : Int) + 8 = ((247 : Nat) : Int) := by decide +kernel
theorem d_M_share_242 : decode c_M_share 242 = .ok (.iload 5, 2) ∧ 242 + 2 = 244 := by decide +kernel
theorem d_M_share_244 : decode c_M_share 244 = .ok (.goto 47, 3) ∧ (244 : Int) + 47 = (291 : Int) := by decide +kernel
theorem d_M_share_247 : decode c_M_share 247 = .ok (.iload 4, 2) ∧ 247 + 2 = 249 := by decide +kernel
theorem d_M_share_249 : decode c_M_share 249 = .ok (.iconst 1, 1) ∧ 249 + 1 = 250 := by decide +kernel
theorem d_M_share_250 : decode c_M_share 250 = .ok (.if_icmp .ne 28, 3) ∧ 250 + 3 = 253 ∧ ((250 : Nat) : Int) + 28 = ((278 : Nat) : Int) := by decide +kernel
theorem d_M_share_253 : decode c_M_share 253 = .ok (.iload 5, 2) ∧ 253 + 2 = 255 := by decide +kernel
theorem d_M_share_255 : decode c_M_share 255 = .ok (.aload_n 0, 1) ∧ 255 + 1 = 256 := by decide +kernel
theorem d_M_share_256 : decode c_M_share 256 = .ok (.getfield 13, 3) ∧ 256 + 3 = 259 := by decide +kernel
theorem d_M_share_259 : decode c_M_share 259 = .ok (.iload_n 1, 1) ∧ 259 + 1 = 260 := by decide +kernel
theorem d_M_share_260 : decode c_M_share 260 = .ok (.iaload, 1) ∧ 260 + 1 = 261 := by decide +kernel
theorem d_M_share_261 : decode c_M_share 261 = .ok (.iload 9, 2) ∧ 261 + 2 = 263 := by decide +kernel
theorem d_M_share_263 : decode c_M_share 263 = .ok (.imul, 1) ∧ 263 + 1 = 264 := by decide +kernel
theorem d_M_share_264 : decode c_M_share 264 = .ok (.isub, 1) ∧ 264 + 1 = 265 := by decide +kernel
theorem d_M_share_265 : decode c_M_share 265 = .ok (.aload_n 0, 1) ∧ 265 + 1 = 266 := by decide +kernel
theorem d_M_share_266 : decode c_M_share 266 = .ok (.getfield 16, 3) ∧ 266 + 3 = 269 := by decide +kernel
theorem d_M_share_269 : decode c_M_share 269 = .ok (.iload_n 1, 1) ∧ 269 + 1 = 270 := by decide +kernel
theorem d_M_share_270 : decode c_M_share 270 = .ok (.iaload, 1) ∧ 270 + 1 = 271 := by decide +kernel
theorem d_M_share_271 : decode c_M_share 271 = .ok (.iload 10, 2) ∧ 271 + 2 = 273 := by decide +kernel
theorem d_M_share_273 : decode c_M_share 273 = .ok (.imul, 1) ∧ 273 + 1 = 274 := by decide +kernel
theorem d_M_share_274 : decode c_M_share 274 = .ok (.isub, 1) ∧ 274 + 1 = 275 := by decide +kernel
theorem d_M_share_275 : decode c_M_share 275 = .ok (.goto 16, 3) ∧ (275 : Int) + 16 = (291 : Int) := by decide +kernel
theorem d_M_share_278 : decode c_M_share 278 = .ok (.iload 4, 2) ∧ 278 + 2 = 280 := by decide +kernel
theorem d_M_share_280 : decode c_M_share 280 = .ok (.iconst 2, 1) ∧ 280 + 1 = 281 := by decide +kernel
theorem d_M_share_281 : decode c_M_share 281 = .ok (.if_icmp .ne 8, 3) ∧ 281 + 3 = 284 ∧ ((281 : Nat) : Int) + 8 = ((289 : Nat) : Int) := by decide +kernel
theorem d_M_share_284 : decode c_M_share 284 = .ok (.iload 9, 2) ∧ 284 + 2 = 286 := by decide +kernel
theorem d_M_share_286 : decode c_M_share 286 = .ok (.goto 5, 3) ∧ (286 : Int) + 5 = (291 : Int) := by decide +kernel
theorem d_M_share_289 : decode c_M_share 289 = .ok (.iload 10, 2) ∧ 289 + 2 = 291 := by decide +kernel
theorem d_M_share_291 : decode c_M_share 291 = .ok (.ireturn, 1) ∧ 291 + 1 = 292 := by decide +kernel
set_option maxHeartbeats 4000000 in
theorem w_M_share_L40 {Z : Sy} {Γ : Nat → List (Nat × Value) → List Value → St → Prop} {res : Int32} {x1 : Int32} {x2 : Int32} {x3 : Int32} {x4 : Int32} {σ : St} (h : IsG YM Z R_M c_M_share 11 4 (some .int) (some (.int res)) σ Γ) : ∀ (n : Nat) (x5 : Int32) (x6 : Int32), M_share_L40 x1 x2 x3 x4 σ n x5 x6 = some res → Γ 40 [(0, .ref (ya Z 0)), (1, .int x1), (2, .int x2), (3, .int x3), (4, .int x4), (5, .int x5), (6, .int x6)] [] σ := by
  intro n
  induction n with
  | zero => intro x5 x6 hf; exact absurd hf (by simp [M_share_L40])
  | succ n ih =>
    intro x5 x6 hf
    rw [M_share_L40] at hf
    refine r_iload h d_M_share_40 6 rfl ?_
    refine r_aload_n h d_M_share_42 0 rfl rfl ?_
    refine r_getI h fd_YM_0_17 cf_M fl_M_268 d_M_share_43 ?_
    refine r_icmp_ge h d_M_share_46 hf (fun hf => ?_) (fun hf => ?_)
    · refine r_iload h d_M_share_145 5 rfl ?_
      refine r_if_ge h d_M_share_147 hf (fun hf => ?_) (fun hf => ?_)
      · refine r_iload h d_M_share_154 5 rfl ?_
        refine r_istore (ls' := [(5, .int x5), (0, .ref (ya Z 0)), (1, .int x1), (2, .int x2), (3, .int x3), (4, .int x4), (6, .int x6)]) h d_M_share_156 (by decide) rfl ?_
        refine r_aload_n h d_M_share_158 1 rfl rfl ?_
        refine r_iconst h d_M_share_159 ki_0 ?_
        refine r_aload_n h d_M_share_160 1 rfl rfl ?_
        refine r_iconst h d_M_share_161 ki_0 ?_
        refine r_iconst h d_M_share_162 ki_0 ?_
        refine r_iconst h d_M_share_163 ki_m1 ?_
        refine r_iload_n h d_M_share_164 4 rfl rfl ?_
        obtain ⟨r165, e165, hf⟩ := q_bind hf
        refine r_callV (As := [.int (0 : Int32), .int (0 : Int32), .int (-1 : Int32), .int x3]) (rest := [.int (0 : Int32), .ref (ya Z 0)]) h sh_YM_0 lk_M_348 vk_M_348 d_M_share_165 (by decide) rfl rfl (Nat.le_of_ble_eq_true rfl) (m_M_clauseOf e165) ?_
        obtain ⟨r168, e168, hf⟩ := q_bind hf
        refine r_callV (As := [.int (0 : Int32), .int r165]) (rest := []) h sh_YM_0 lk_M_355 vk_M_355 d_M_share_168 (by decide) rfl rfl (Nat.le_of_ble_eq_true rfl) (m_M_valueOf e168) ?_
        refine r_istore (ls' := [(6, .int r168), (5, .int x5), (0, .ref (ya Z 0)), (1, .int x1), (2, .int x2), (3, .int x3), (4, .int x4)]) h d_M_share_171 (by decide) rfl ?_
        refine r_iload h d_M_share_173 1 rfl ?_
        refine r_iload h d_M_share_175 1 rfl ?_
        refine r_iload h d_M_share_177 0 rfl ?_
        refine r_imul h d_M_share_179 ?_
        refine r_bipush h d_M_share_180 kb_10 ?_
        refine r_idiv h d_M_share_182 (by decide) ?_
        refine r_isub h d_M_share_183 ?_
        refine r_istore (ls' := [(7, .int (x5 - ((x5 * r168) / (10 : Int32)))), (6, .int r168), (5, .int x5), (0, .ref (ya Z 0)), (1, .int x1), (2, .int x2), (3, .int x3), (4, .int x4)]) h d_M_share_184 (by decide) rfl ?_
        refine r_iconst h d_M_share_186 ki_2 ?_
        refine r_aload_n h d_M_share_187 3 rfl rfl ?_
        refine r_getR h fd_YM_0_5 cf_M fl_M_13 d_M_share_188 ?_
        refine r_iload_n h d_M_share_191 4 rfl rfl ?_
        refine r_iald h sh_YM_2 d_M_share_192 hf (fun hf => ?_)
        refine r_imul h d_M_share_193 ?_
        refine r_aload_n h d_M_share_194 3 rfl rfl ?_
        refine r_getR h fd_YM_0_6 cf_M fl_M_16 d_M_share_195 ?_
        refine r_iload_n h d_M_share_198 4 rfl rfl ?_
        refine r_iald h sh_YM_3 d_M_share_199 hf (fun hf => ?_)
        refine r_iadd h d_M_share_200 ?_
        refine r_istore (ls' := [(8, .int (((2 : Int32) * (σ.1 2 (Int32.toNatClampNeg x1))) + (σ.1 3 (Int32.toNatClampNeg x1)))), (7, .int (x5 - ((x5 * r168) / (10 : Int32)))), (6, .int r168), (5, .int x5), (0, .ref (ya Z 0)), (1, .int x1), (2, .int x2), (3, .int x3), (4, .int x4)]) h d_M_share_201 (by decide) rfl ?_
        refine r_iload h d_M_share_203 0 rfl ?_
        refine r_if_ne h d_M_share_205 hf (fun hf => ?_) (fun hf => ?_)
        · refine r_iconst h d_M_share_212 ki_2 ?_
          refine r_iload h d_M_share_213 1 rfl ?_
          refine r_imul h d_M_share_215 ?_
          refine r_iload h d_M_share_216 0 rfl ?_
          refine q_div hf (fun hne hf => ?_)
          refine r_idiv h d_M_share_218 hne ?_
          refine r_istore (ls' := [(9, .int (((2 : Int32) * (x5 - ((x5 * r168) / (10 : Int32)))) / (((2 : Int32) * (σ.1 2 (Int32.toNatClampNeg x1))) + (σ.1 3 (Int32.toNatClampNeg x1))))), (8, .int (((2 : Int32) * (σ.1 2 (Int32.toNatClampNeg x1))) + (σ.1 3 (Int32.toNatClampNeg x1)))), (7, .int (x5 - ((x5 * r168) / (10 : Int32)))), (6, .int r168), (5, .int x5), (0, .ref (ya Z 0)), (1, .int x1), (2, .int x2), (3, .int x3), (4, .int x4)]) h d_M_share_219 (by decide) rfl ?_
          refine r_iload h d_M_share_221 1 rfl ?_
          refine r_if_ne h d_M_share_223 hf (fun hf => ?_) (fun hf => ?_)
          · refine r_iload h d_M_share_230 2 rfl ?_
            refine r_iload h d_M_share_232 1 rfl ?_
            refine q_div hf (fun hne hf => ?_)
            refine r_idiv h d_M_share_234 hne ?_
            refine r_istore (ls' := [(10, .int ((x5 - ((x5 * r168) / (10 : Int32))) / (((2 : Int32) * (σ.1 2 (Int32.toNatClampNeg x1))) + (σ.1 3 (Int32.toNatClampNeg x1))))), (9, .int (((2 : Int32) * (x5 - ((x5 * r168) / (10 : Int32)))) / (((2 : Int32) * (σ.1 2 (Int32.toNatClampNeg x1))) + (σ.1 3 (Int32.toNatClampNeg x1))))), (8, .int (((2 : Int32) * (σ.1 2 (Int32.toNatClampNeg x1))) + (σ.1 3 (Int32.toNatClampNeg x1)))), (7, .int (x5 - ((x5 * r168) / (10 : Int32)))), (6, .int r168), (5, .int x5), (0, .ref (ya Z 0)), (1, .int x1), (2, .int x2), (3, .int x3), (4, .int x4)]) h d_M_share_235 (by decide) rfl ?_
            refine r_iload h d_M_share_237 10 rfl ?_
            refine r_if_ne h d_M_share_239 hf (fun hf => ?_) (fun hf => ?_)
            · refine r_iload h d_M_share_247 10 rfl ?_
              refine r_iconst h d_M_share_249 ki_1 ?_
              refine r_icmp_ne h d_M_share_250 hf (fun hf => ?_) (fun hf => ?_)
              · refine r_iload h d_M_share_278 10 rfl ?_
                refine r_iconst h d_M_share_280 ki_2 ?_
                refine r_icmp_ne h d_M_share_281 hf (fun hf => ?_) (fun hf => ?_)
                · refine r_iload h d_M_share_289 0 rfl ?_
                  exact r_ireturn h d_M_share_291.1 (Option.some.inj hf) rfl
                · refine r_iload h d_M_share_284 1 rfl ?_
                  refine r_goto h d_M_share_286 ?_
                  exact r_ireturn h d_M_share_291.1 (Option.some.inj hf) rfl
              · refine r_iload h d_M_share_253 5 rfl ?_
                refine r_aload_n h d_M_share_255 6 rfl rfl ?_
                refine r_getR h fd_YM_0_5 cf_M fl_M_13 d_M_share_256 ?_
                refine r_iload_n h d_M_share_259 7 rfl rfl ?_
                refine r_iald h sh_YM_2 d_M_share_260 hf (fun hf => ?_)
                refine r_iload h d_M_share_261 1 rfl ?_
                refine r_imul h d_M_share_263 ?_
                refine r_isub h d_M_share_264 ?_
                refine r_aload_n h d_M_share_265 6 rfl rfl ?_
                refine r_getR h fd_YM_0_6 cf_M fl_M_16 d_M_share_266 ?_
                refine r_iload_n h d_M_share_269 7 rfl rfl ?_
                refine r_iald h sh_YM_3 d_M_share_270 hf (fun hf => ?_)
                refine r_iload h d_M_share_271 0 rfl ?_
                refine r_imul h d_M_share_273 ?_
                refine r_isub h d_M_share_274 ?_
                refine r_goto h d_M_share_275 ?_
                exact r_ireturn h d_M_share_291.1 (Option.some.inj hf) rfl
            · refine r_iload h d_M_share_242 5 rfl ?_
              refine r_goto h d_M_share_244 ?_
              exact r_ireturn h d_M_share_291.1 (Option.some.inj hf) rfl
          · refine r_iconst h d_M_share_226 ki_0 ?_
            refine r_goto h d_M_share_227 ?_
            refine r_istore (ls' := [(10, .int (0 : Int32)), (9, .int (((2 : Int32) * (x5 - ((x5 * r168) / (10 : Int32)))) / (((2 : Int32) * (σ.1 2 (Int32.toNatClampNeg x1))) + (σ.1 3 (Int32.toNatClampNeg x1))))), (8, .int (((2 : Int32) * (σ.1 2 (Int32.toNatClampNeg x1))) + (σ.1 3 (Int32.toNatClampNeg x1)))), (7, .int (x5 - ((x5 * r168) / (10 : Int32)))), (6, .int r168), (5, .int x5), (0, .ref (ya Z 0)), (1, .int x1), (2, .int x2), (3, .int x3), (4, .int x4)]) h d_M_share_235 (by decide) rfl ?_
            refine r_iload h d_M_share_237 10 rfl ?_
            refine r_if_ne h d_M_share_239 hf (fun hf => ?_) (fun hf => ?_)
            · refine r_iload h d_M_share_247 10 rfl ?_
              refine r_iconst h d_M_share_249 ki_1 ?_
              refine r_icmp_ne h d_M_share_250 hf (fun hf => ?_) (fun hf => ?_)
              · refine r_iload h d_M_share_278 10 rfl ?_
                refine r_iconst h d_M_share_280 ki_2 ?_
                refine r_icmp_ne h d_M_share_281 hf (fun hf => ?_) (fun hf => ?_)
                · refine r_iload h d_M_share_289 0 rfl ?_
                  exact r_ireturn h d_M_share_291.1 (Option.some.inj hf) rfl
                · refine r_iload h d_M_share_284 1 rfl ?_
                  refine r_goto h d_M_share_286 ?_
                  exact r_ireturn h d_M_share_291.1 (Option.some.inj hf) rfl
              · refine r_iload h d_M_share_253 5 rfl ?_
                refine r_aload_n h d_M_share_255 6 rfl rfl ?_
                refine r_getR h fd_YM_0_5 cf_M fl_M_13 d_M_share_256 ?_
                refine r_iload_n h d_M_share_259 7 rfl rfl ?_
                refine r_iald h sh_YM_2 d_M_share_260 hf (fun hf => ?_)
                refine r_iload h d_M_share_261 1 rfl ?_
                refine r_imul h d_M_share_263 ?_
                refine r_isub h d_M_share_264 ?_
                refine r_aload_n h d_M_share_265 6 rfl rfl ?_
                refine r_getR h fd_YM_0_6 cf_M fl_M_16 d_M_share_266 ?_
                refine r_iload_n h d_M_share_269 7 rfl rfl ?_
                refine r_iald h sh_YM_3 d_M_share_270 hf (fun hf => ?_)
                refine r_iload h d_M_share_271 0 rfl ?_
                refine r_imul h d_M_share_273 ?_
                refine r_isub h d_M_share_274 ?_
                refine r_goto h d_M_share_275 ?_
                exact r_ireturn h d_M_share_291.1 (Option.some.inj hf) rfl
            · refine r_iload h d_M_share_242 5 rfl ?_
              refine r_goto h d_M_share_244 ?_
              exact r_ireturn h d_M_share_291.1 (Option.some.inj hf) rfl
        · refine r_iconst h d_M_share_208 ki_0 ?_
          refine r_goto h d_M_share_209 ?_
          refine r_istore (ls' := [(9, .int (0 : Int32)), (8, .int (((2 : Int32) * (σ.1 2 (Int32.toNatClampNeg x1))) + (σ.1 3 (Int32.toNatClampNeg x1)))), (7, .int (x5 - ((x5 * r168) / (10 : Int32)))), (6, .int r168), (5, .int x5), (0, .ref (ya Z 0)), (1, .int x1), (2, .int x2), (3, .int x3), (4, .int x4)]) h d_M_share_219 (by decide) rfl ?_
          refine r_iload h d_M_share_221 1 rfl ?_
          refine r_if_ne h d_M_share_223 hf (fun hf => ?_) (fun hf => ?_)
          · refine r_iload h d_M_share_230 2 rfl ?_
            refine r_iload h d_M_share_232 1 rfl ?_
            refine q_div hf (fun hne hf => ?_)
            refine r_idiv h d_M_share_234 hne ?_
            refine r_istore (ls' := [(10, .int ((x5 - ((x5 * r168) / (10 : Int32))) / (((2 : Int32) * (σ.1 2 (Int32.toNatClampNeg x1))) + (σ.1 3 (Int32.toNatClampNeg x1))))), (9, .int (0 : Int32)), (8, .int (((2 : Int32) * (σ.1 2 (Int32.toNatClampNeg x1))) + (σ.1 3 (Int32.toNatClampNeg x1)))), (7, .int (x5 - ((x5 * r168) / (10 : Int32)))), (6, .int r168), (5, .int x5), (0, .ref (ya Z 0)), (1, .int x1), (2, .int x2), (3, .int x3), (4, .int x4)]) h d_M_share_235 (by decide) rfl ?_
            refine r_iload h d_M_share_237 10 rfl ?_
            refine r_if_ne h d_M_share_239 hf (fun hf => ?_) (fun hf => ?_)
            · refine r_iload h d_M_share_247 10 rfl ?_
              refine r_iconst h d_M_share_249 ki_1 ?_
              refine r_icmp_ne h d_M_share_250 hf (fun hf => ?_) (fun hf => ?_)
              · refine r_iload h d_M_share_278 10 rfl ?_
                refine r_iconst h d_M_share_280 ki_2 ?_
                refine r_icmp_ne h d_M_share_281 hf (fun hf => ?_) (fun hf => ?_)
                · refine r_iload h d_M_share_289 0 rfl ?_
                  exact r_ireturn h d_M_share_291.1 (Option.some.inj hf) rfl
                · refine r_iload h d_M_share_284 1 rfl ?_
                  refine r_goto h d_M_share_286 ?_
                  exact r_ireturn h d_M_share_291.1 (Option.some.inj hf) rfl
              · refine r_iload h d_M_share_253 5 rfl ?_
                refine r_aload_n h d_M_share_255 6 rfl rfl ?_
                refine r_getR h fd_YM_0_5 cf_M fl_M_13 d_M_share_256 ?_
                refine r_iload_n h d_M_share_259 7 rfl rfl ?_
                refine r_iald h sh_YM_2 d_M_share_260 hf (fun hf => ?_)
                refine r_iload h d_M_share_261 1 rfl ?_
                refine r_imul h d_M_share_263 ?_
                refine r_isub h d_M_share_264 ?_
                refine r_aload_n h d_M_share_265 6 rfl rfl ?_
                refine r_getR h fd_YM_0_6 cf_M fl_M_16 d_M_share_266 ?_
                refine r_iload_n h d_M_share_269 7 rfl rfl ?_
                refine r_iald h sh_YM_3 d_M_share_270 hf (fun hf => ?_)
                refine r_iload h d_M_share_271 0 rfl ?_
                refine r_imul h d_M_share_273 ?_
                refine r_isub h d_M_share_274 ?_
                refine r_goto h d_M_share_275 ?_
                exact r_ireturn h d_M_share_291.1 (Option.some.inj hf) rfl
            · refine r_iload h d_M_share_242 5 rfl ?_
              refine r_goto h d_M_share_244 ?_
              exact r_ireturn h d_M_share_291.1 (Option.some.inj hf) rfl
          · refine r_iconst h d_M_share_226 ki_0 ?_
            refine r_goto h d_M_share_227 ?_
            refine r_istore (ls' := [(10, .int (0 : Int32)), (9, .int (0 : Int32)), (8, .int (((2 : Int32) * (σ.1 2 (Int32.toNatClampNeg x1))) + (σ.1 3 (Int32.toNatClampNeg x1)))), (7, .int (x5 - ((x5 * r168) / (10 : Int32)))), (6, .int r168), (5, .int x5), (0, .ref (ya Z 0)), (1, .int x1), (2, .int x2), (3, .int x3), (4, .int x4)]) h d_M_share_235 (by decide) rfl ?_
            refine r_iload h d_M_share_237 10 rfl ?_
            refine r_if_ne h d_M_share_239 hf (fun hf => ?_) (fun hf => ?_)
            · refine r_iload h d_M_share_247 10 rfl ?_
              refine r_iconst h d_M_share_249 ki_1 ?_
              refine r_icmp_ne h d_M_share_250 hf (fun hf => ?_) (fun hf => ?_)
              · refine r_iload h d_M_share_278 10 rfl ?_
                refine r_iconst h d_M_share_280 ki_2 ?_
                refine r_icmp_ne h d_M_share_281 hf (fun hf => ?_) (fun hf => ?_)
                · refine r_iload h d_M_share_289 0 rfl ?_
                  exact r_ireturn h d_M_share_291.1 (Option.some.inj hf) rfl
                · refine r_iload h d_M_share_284 1 rfl ?_
                  refine r_goto h d_M_share_286 ?_
                  exact r_ireturn h d_M_share_291.1 (Option.some.inj hf) rfl
              · refine r_iload h d_M_share_253 5 rfl ?_
                refine r_aload_n h d_M_share_255 6 rfl rfl ?_
                refine r_getR h fd_YM_0_5 cf_M fl_M_13 d_M_share_256 ?_
                refine r_iload_n h d_M_share_259 7 rfl rfl ?_
                refine r_iald h sh_YM_2 d_M_share_260 hf (fun hf => ?_)
                refine r_iload h d_M_share_261 1 rfl ?_
                refine r_imul h d_M_share_263 ?_
                refine r_isub h d_M_share_264 ?_
                refine r_aload_n h d_M_share_265 6 rfl rfl ?_
                refine r_getR h fd_YM_0_6 cf_M fl_M_16 d_M_share_266 ?_
                refine r_iload_n h d_M_share_269 7 rfl rfl ?_
                refine r_iald h sh_YM_3 d_M_share_270 hf (fun hf => ?_)
                refine r_iload h d_M_share_271 0 rfl ?_
                refine r_imul h d_M_share_273 ?_
                refine r_isub h d_M_share_274 ?_
                refine r_goto h d_M_share_275 ?_
                exact r_ireturn h d_M_share_291.1 (Option.some.inj hf) rfl
            · refine r_iload h d_M_share_242 5 rfl ?_
              refine r_goto h d_M_share_244 ?_
              exact r_ireturn h d_M_share_291.1 (Option.some.inj hf) rfl
      · refine r_iconst h d_M_share_150 ki_0 ?_
        refine r_goto h d_M_share_151 ?_
        refine r_istore (ls' := [(5, .int (0 : Int32)), (0, .ref (ya Z 0)), (1, .int x1), (2, .int x2), (3, .int x3), (4, .int x4), (6, .int x6)]) h d_M_share_156 (by decide) rfl ?_
        refine r_aload_n h d_M_share_158 1 rfl rfl ?_
        refine r_iconst h d_M_share_159 ki_0 ?_
        refine r_aload_n h d_M_share_160 1 rfl rfl ?_
        refine r_iconst h d_M_share_161 ki_0 ?_
        refine r_iconst h d_M_share_162 ki_0 ?_
        refine r_iconst h d_M_share_163 ki_m1 ?_
        refine r_iload_n h d_M_share_164 4 rfl rfl ?_
        obtain ⟨r165, e165, hf⟩ := q_bind hf
        refine r_callV (As := [.int (0 : Int32), .int (0 : Int32), .int (-1 : Int32), .int x3]) (rest := [.int (0 : Int32), .ref (ya Z 0)]) h sh_YM_0 lk_M_348 vk_M_348 d_M_share_165 (by decide) rfl rfl (Nat.le_of_ble_eq_true rfl) (m_M_clauseOf e165) ?_
        obtain ⟨r168, e168, hf⟩ := q_bind hf
        refine r_callV (As := [.int (0 : Int32), .int r165]) (rest := []) h sh_YM_0 lk_M_355 vk_M_355 d_M_share_168 (by decide) rfl rfl (Nat.le_of_ble_eq_true rfl) (m_M_valueOf e168) ?_
        refine r_istore (ls' := [(6, .int r168), (5, .int (0 : Int32)), (0, .ref (ya Z 0)), (1, .int x1), (2, .int x2), (3, .int x3), (4, .int x4)]) h d_M_share_171 (by decide) rfl ?_
        refine r_iload h d_M_share_173 1 rfl ?_
        refine r_iload h d_M_share_175 1 rfl ?_
        refine r_iload h d_M_share_177 0 rfl ?_
        refine r_imul h d_M_share_179 ?_
        refine r_bipush h d_M_share_180 kb_10 ?_
        refine r_idiv h d_M_share_182 (by decide) ?_
        refine r_isub h d_M_share_183 ?_
        refine r_istore (ls' := [(7, .int ((0 : Int32) - (((0 : Int32) * r168) / (10 : Int32)))), (6, .int r168), (5, .int (0 : Int32)), (0, .ref (ya Z 0)), (1, .int x1), (2, .int x2), (3, .int x3), (4, .int x4)]) h d_M_share_184 (by decide) rfl ?_
        refine r_iconst h d_M_share_186 ki_2 ?_
        refine r_aload_n h d_M_share_187 3 rfl rfl ?_
        refine r_getR h fd_YM_0_5 cf_M fl_M_13 d_M_share_188 ?_
        refine r_iload_n h d_M_share_191 4 rfl rfl ?_
        refine r_iald h sh_YM_2 d_M_share_192 hf (fun hf => ?_)
        refine r_imul h d_M_share_193 ?_
        refine r_aload_n h d_M_share_194 3 rfl rfl ?_
        refine r_getR h fd_YM_0_6 cf_M fl_M_16 d_M_share_195 ?_
        refine r_iload_n h d_M_share_198 4 rfl rfl ?_
        refine r_iald h sh_YM_3 d_M_share_199 hf (fun hf => ?_)
        refine r_iadd h d_M_share_200 ?_
        refine r_istore (ls' := [(8, .int (((2 : Int32) * (σ.1 2 (Int32.toNatClampNeg x1))) + (σ.1 3 (Int32.toNatClampNeg x1)))), (7, .int ((0 : Int32) - (((0 : Int32) * r168) / (10 : Int32)))), (6, .int r168), (5, .int (0 : Int32)), (0, .ref (ya Z 0)), (1, .int x1), (2, .int x2), (3, .int x3), (4, .int x4)]) h d_M_share_201 (by decide) rfl ?_
        refine r_iload h d_M_share_203 0 rfl ?_
        refine r_if_ne h d_M_share_205 hf (fun hf => ?_) (fun hf => ?_)
        · refine r_iconst h d_M_share_212 ki_2 ?_
          refine r_iload h d_M_share_213 1 rfl ?_
          refine r_imul h d_M_share_215 ?_
          refine r_iload h d_M_share_216 0 rfl ?_
          refine q_div hf (fun hne hf => ?_)
          refine r_idiv h d_M_share_218 hne ?_
          refine r_istore (ls' := [(9, .int (((2 : Int32) * ((0 : Int32) - (((0 : Int32) * r168) / (10 : Int32)))) / (((2 : Int32) * (σ.1 2 (Int32.toNatClampNeg x1))) + (σ.1 3 (Int32.toNatClampNeg x1))))), (8, .int (((2 : Int32) * (σ.1 2 (Int32.toNatClampNeg x1))) + (σ.1 3 (Int32.toNatClampNeg x1)))), (7, .int ((0 : Int32) - (((0 : Int32) * r168) / (10 : Int32)))), (6, .int r168), (5, .int (0 : Int32)), (0, .ref (ya Z 0)), (1, .int x1), (2, .int x2), (3, .int x3), (4, .int x4)]) h d_M_share_219 (by decide) rfl ?_
          refine r_iload h d_M_share_221 1 rfl ?_
          refine r_if_ne h d_M_share_223 hf (fun hf => ?_) (fun hf => ?_)
          · refine r_iload h d_M_share_230 2 rfl ?_
            refine r_iload h d_M_share_232 1 rfl ?_
            refine q_div hf (fun hne hf => ?_)
            refine r_idiv h d_M_share_234 hne ?_
            refine r_istore (ls' := [(10, .int (((0 : Int32) - (((0 : Int32) * r168) / (10 : Int32))) / (((2 : Int32) * (σ.1 2 (Int32.toNatClampNeg x1))) + (σ.1 3 (Int32.toNatClampNeg x1))))), (9, .int (((2 : Int32) * ((0 : Int32) - (((0 : Int32) * r168) / (10 : Int32)))) / (((2 : Int32) * (σ.1 2 (Int32.toNatClampNeg x1))) + (σ.1 3 (Int32.toNatClampNeg x1))))), (8, .int (((2 : Int32) * (σ.1 2 (Int32.toNatClampNeg x1))) + (σ.1 3 (Int32.toNatClampNeg x1)))), (7, .int ((0 : Int32) - (((0 : Int32) * r168) / (10 : Int32)))), (6, .int r168), (5, .int (0 : Int32)), (0, .ref (ya Z 0)), (1, .int x1), (2, .int x2), (3, .int x3), (4, .int x4)]) h d_M_share_235 (by decide) rfl ?_
            refine r_iload h d_M_share_237 10 rfl ?_
            refine r_if_ne h d_M_share_239 hf (fun hf => ?_) (fun hf => ?_)
            · refine r_iload h d_M_share_247 10 rfl ?_
              refine r_iconst h d_M_share_249 ki_1 ?_
              refine r_icmp_ne h d_M_share_250 hf (fun hf => ?_) (fun hf => ?_)
              · refine r_iload h d_M_share_278 10 rfl ?_
                refine r_iconst h d_M_share_280 ki_2 ?_
                refine r_icmp_ne h d_M_share_281 hf (fun hf => ?_) (fun hf => ?_)
                · refine r_iload h d_M_share_289 0 rfl ?_
                  exact r_ireturn h d_M_share_291.1 (Option.some.inj hf) rfl
                · refine r_iload h d_M_share_284 1 rfl ?_
                  refine r_goto h d_M_share_286 ?_
                  exact r_ireturn h d_M_share_291.1 (Option.some.inj hf) rfl
              · refine r_iload h d_M_share_253 5 rfl ?_
                refine r_aload_n h d_M_share_255 6 rfl rfl ?_
                refine r_getR h fd_YM_0_5 cf_M fl_M_13 d_M_share_256 ?_
                refine r_iload_n h d_M_share_259 7 rfl rfl ?_
                refine r_iald h sh_YM_2 d_M_share_260 hf (fun hf => ?_)
                refine r_iload h d_M_share_261 1 rfl ?_
                refine r_imul h d_M_share_263 ?_
                refine r_isub h d_M_share_264 ?_
                refine r_aload_n h d_M_share_265 6 rfl rfl ?_
                refine r_getR h fd_YM_0_6 cf_M fl_M_16 d_M_share_266 ?_
                refine r_iload_n h d_M_share_269 7 rfl rfl ?_
                refine r_iald h sh_YM_3 d_M_share_270 hf (fun hf => ?_)
                refine r_iload h d_M_share_271 0 rfl ?_
                refine r_imul h d_M_share_273 ?_
                refine r_isub h d_M_share_274 ?_
                refine r_goto h d_M_share_275 ?_
                exact r_ireturn h d_M_share_291.1 (Option.some.inj hf) rfl
            · refine r_iload h d_M_share_242 5 rfl ?_
              refine r_goto h d_M_share_244 ?_
              exact r_ireturn h d_M_share_291.1 (Option.some.inj hf) rfl
          · refine r_iconst h d_M_share_226 ki_0 ?_
            refine r_goto h d_M_share_227 ?_
            refine r_istore (ls' := [(10, .int (0 : Int32)), (9, .int (((2 : Int32) * ((0 : Int32) - (((0 : Int32) * r168) / (10 : Int32)))) / (((2 : Int32) * (σ.1 2 (Int32.toNatClampNeg x1))) + (σ.1 3 (Int32.toNatClampNeg x1))))), (8, .int (((2 : Int32) * (σ.1 2 (Int32.toNatClampNeg x1))) + (σ.1 3 (Int32.toNatClampNeg x1)))), (7, .int ((0 : Int32) - (((0 : Int32) * r168) / (10 : Int32)))), (6, .int r168), (5, .int (0 : Int32)), (0, .ref (ya Z 0)), (1, .int x1), (2, .int x2), (3, .int x3), (4, .int x4)]) h d_M_share_235 (by decide) rfl ?_
            refine r_iload h d_M_share_237 10 rfl ?_
            refine r_if_ne h d_M_share_239 hf (fun hf => ?_) (fun hf => ?_)
            · refine r_iload h d_M_share_247 10 rfl ?_
              refine r_iconst h d_M_share_249 ki_1 ?_
              refine r_icmp_ne h d_M_share_250 hf (fun hf => ?_) (fun hf => ?_)
              · refine r_iload h d_M_share_278 10 rfl ?_
                refine r_iconst h d_M_share_280 ki_2 ?_
                refine r_icmp_ne h d_M_share_281 hf (fun hf => ?_) (fun hf => ?_)
                · refine r_iload h d_M_share_289 0 rfl ?_
                  exact r_ireturn h d_M_share_291.1 (Option.some.inj hf) rfl
                · refine r_iload h d_M_share_284 1 rfl ?_
                  refine r_goto h d_M_share_286 ?_
                  exact r_ireturn h d_M_share_291.1 (Option.some.inj hf) rfl
              · refine r_iload h d_M_share_253 5 rfl ?_
                refine r_aload_n h d_M_share_255 6 rfl rfl ?_
                refine r_getR h fd_YM_0_5 cf_M fl_M_13 d_M_share_256 ?_
                refine r_iload_n h d_M_share_259 7 rfl rfl ?_
                refine r_iald h sh_YM_2 d_M_share_260 hf (fun hf => ?_)
                refine r_iload h d_M_share_261 1 rfl ?_
                refine r_imul h d_M_share_263 ?_
                refine r_isub h d_M_share_264 ?_
                refine r_aload_n h d_M_share_265 6 rfl rfl ?_
                refine r_getR h fd_YM_0_6 cf_M fl_M_16 d_M_share_266 ?_
                refine r_iload_n h d_M_share_269 7 rfl rfl ?_
                refine r_iald h sh_YM_3 d_M_share_270 hf (fun hf => ?_)
                refine r_iload h d_M_share_271 0 rfl ?_
                refine r_imul h d_M_share_273 ?_
                refine r_isub h d_M_share_274 ?_
                refine r_goto h d_M_share_275 ?_
                exact r_ireturn h d_M_share_291.1 (Option.some.inj hf) rfl
            · refine r_iload h d_M_share_242 5 rfl ?_
              refine r_goto h d_M_share_244 ?_
              exact r_ireturn h d_M_share_291.1 (Option.some.inj hf) rfl
        · refine r_iconst h d_M_share_208 ki_0 ?_
          refine r_goto h d_M_share_209 ?_
          refine r_istore (ls' := [(9, .int (0 : Int32)), (8, .int (((2 : Int32) * (σ.1 2 (Int32.toNatClampNeg x1))) + (σ.1 3 (Int32.toNatClampNeg x1)))), (7, .int ((0 : Int32) - (((0 : Int32) * r168) / (10 : Int32)))), (6, .int r168), (5, .int (0 : Int32)), (0, .ref (ya Z 0)), (1, .int x1), (2, .int x2), (3, .int x3), (4, .int x4)]) h d_M_share_219 (by decide) rfl ?_
          refine r_iload h d_M_share_221 1 rfl ?_
          refine r_if_ne h d_M_share_223 hf (fun hf => ?_) (fun hf => ?_)
          · refine r_iload h d_M_share_230 2 rfl ?_
            refine r_iload h d_M_share_232 1 rfl ?_
            refine q_div hf (fun hne hf => ?_)
            refine r_idiv h d_M_share_234 hne ?_
            refine r_istore (ls' := [(10, .int (((0 : Int32) - (((0 : Int32) * r168) / (10 : Int32))) / (((2 : Int32) * (σ.1 2 (Int32.toNatClampNeg x1))) + (σ.1 3 (Int32.toNatClampNeg x1))))), (9, .int (0 : Int32)), (8, .int (((2 : Int32) * (σ.1 2 (Int32.toNatClampNeg x1))) + (σ.1 3 (Int32.toNatClampNeg x1)))), (7, .int ((0 : Int32) - (((0 : Int32) * r168) / (10 : Int32)))), (6, .int r168), (5, .int (0 : Int32)), (0, .ref (ya Z 0)), (1, .int x1), (2, .int x2), (3, .int x3), (4, .int x4)]) h d_M_share_235 (by decide) rfl ?_
            refine r_iload h d_M_share_237 10 rfl ?_
            refine r_if_ne h d_M_share_239 hf (fun hf => ?_) (fun hf => ?_)
            · refine r_iload h d_M_share_247 10 rfl ?_
              refine r_iconst h d_M_share_249 ki_1 ?_
              refine r_icmp_ne h d_M_share_250 hf (fun hf => ?_) (fun hf => ?_)
              · refine r_iload h d_M_share_278 10 rfl ?_
                refine r_iconst h d_M_share_280 ki_2 ?_
                refine r_icmp_ne h d_M_share_281 hf (fun hf => ?_) (fun hf => ?_)
                · refine r_iload h d_M_share_289 0 rfl ?_
                  exact r_ireturn h d_M_share_291.1 (Option.some.inj hf) rfl
                · refine r_iload h d_M_share_284 1 rfl ?_
                  refine r_goto h d_M_share_286 ?_
                  exact r_ireturn h d_M_share_291.1 (Option.some.inj hf) rfl
              · refine r_iload h d_M_share_253 5 rfl ?_
                refine r_aload_n h d_M_share_255 6 rfl rfl ?_
                refine r_getR h fd_YM_0_5 cf_M fl_M_13 d_M_share_256 ?_
                refine r_iload_n h d_M_share_259 7 rfl rfl ?_
                refine r_iald h sh_YM_2 d_M_share_260 hf (fun hf => ?_)
                refine r_iload h d_M_share_261 1 rfl ?_
                refine r_imul h d_M_share_263 ?_
                refine r_isub h d_M_share_264 ?_
                refine r_aload_n h d_M_share_265 6 rfl rfl ?_
                refine r_getR h fd_YM_0_6 cf_M fl_M_16 d_M_share_266 ?_
                refine r_iload_n h d_M_share_269 7 rfl rfl ?_
                refine r_iald h sh_YM_3 d_M_share_270 hf (fun hf => ?_)
                refine r_iload h d_M_share_271 0 rfl ?_
                refine r_imul h d_M_share_273 ?_
                refine r_isub h d_M_share_274 ?_
                refine r_goto h d_M_share_275 ?_
                exact r_ireturn h d_M_share_291.1 (Option.some.inj hf) rfl
            · refine r_iload h d_M_share_242 5 rfl ?_
              refine r_goto h d_M_share_244 ?_
              exact r_ireturn h d_M_share_291.1 (Option.some.inj hf) rfl
          · refine r_iconst h d_M_share_226 ki_0 ?_
            refine r_goto h d_M_share_227 ?_
            refine r_istore (ls' := [(10, .int (0 : Int32)), (9, .int (0 : Int32)), (8, .int (((2 : Int32) * (σ.1 2 (Int32.toNatClampNeg x1))) + (σ.1 3 (Int32.toNatClampNeg x1)))), (7, .int ((0 : Int32) - (((0 : Int32) * r168) / (10 : Int32)))), (6, .int r168), (5, .int (0 : Int32)), (0, .ref (ya Z 0)), (1, .int x1), (2, .int x2), (3, .int x3), (4, .int x4)]) h d_M_share_235 (by decide) rfl ?_
            refine r_iload h d_M_share_237 10 rfl ?_
            refine r_if_ne h d_M_share_239 hf (fun hf => ?_) (fun hf => ?_)
            · refine r_iload h d_M_share_247 10 rfl ?_
              refine r_iconst h d_M_share_249 ki_1 ?_
              refine r_icmp_ne h d_M_share_250 hf (fun hf => ?_) (fun hf => ?_)
              · refine r_iload h d_M_share_278 10 rfl ?_
                refine r_iconst h d_M_share_280 ki_2 ?_
                refine r_icmp_ne h d_M_share_281 hf (fun hf => ?_) (fun hf => ?_)
                · refine r_iload h d_M_share_289 0 rfl ?_
                  exact r_ireturn h d_M_share_291.1 (Option.some.inj hf) rfl
                · refine r_iload h d_M_share_284 1 rfl ?_
                  refine r_goto h d_M_share_286 ?_
                  exact r_ireturn h d_M_share_291.1 (Option.some.inj hf) rfl
              · refine r_iload h d_M_share_253 5 rfl ?_
                refine r_aload_n h d_M_share_255 6 rfl rfl ?_
                refine r_getR h fd_YM_0_5 cf_M fl_M_13 d_M_share_256 ?_
                refine r_iload_n h d_M_share_259 7 rfl rfl ?_
                refine r_iald h sh_YM_2 d_M_share_260 hf (fun hf => ?_)
                refine r_iload h d_M_share_261 1 rfl ?_
                refine r_imul h d_M_share_263 ?_
                refine r_isub h d_M_share_264 ?_
                refine r_aload_n h d_M_share_265 6 rfl rfl ?_
                refine r_getR h fd_YM_0_6 cf_M fl_M_16 d_M_share_266 ?_
                refine r_iload_n h d_M_share_269 7 rfl rfl ?_
                refine r_iald h sh_YM_3 d_M_share_270 hf (fun hf => ?_)
                refine r_iload h d_M_share_271 0 rfl ?_
                refine r_imul h d_M_share_273 ?_
                refine r_isub h d_M_share_274 ?_
                refine r_goto h d_M_share_275 ?_
                exact r_ireturn h d_M_share_291.1 (Option.some.inj hf) rfl
            · refine r_iload h d_M_share_242 5 rfl ?_
              refine r_goto h d_M_share_244 ?_
              exact r_ireturn h d_M_share_291.1 (Option.some.inj hf) rfl
    · refine r_aload_n h d_M_share_49 0 rfl rfl ?_
      refine r_getR h fd_YM_0_15 cf_M fl_M_37 d_M_share_50 ?_
      refine r_aload_n h d_M_share_53 0 rfl rfl ?_
      refine r_getR h fd_YM_0_18 cf_M fl_M_43 d_M_share_54 ?_
      refine r_iload h d_M_share_57 6 rfl ?_
      refine r_iald h sh_YM_12 d_M_share_59 hf (fun hf => ?_)
      refine r_iald h sh_YM_10 d_M_share_60 hf (fun hf => ?_)
      refine r_iload_n h d_M_share_61 1 rfl rfl ?_
      refine r_icmp_ne h d_M_share_62 hf (fun hf => ?_) (fun hf => ?_)
      · refine r_iinc (ls' := [(6, .int (x6 + (1 : Int32))), (0, .ref (ya Z 0)), (1, .int x1), (2, .int x2), (3, .int x3), (4, .int x4), (5, .int x5)]) h d_M_share_139 6 rfl ki_1 (by decide) rfl ?_
        refine r_goto h d_M_share_142 ?_
        refine r_sub h [1, 2, 3, 4, 5, 6, 0] rfl ?_
        exact ih _ _ hf
      · refine r_aload_n h d_M_share_65 0 rfl rfl ?_
        refine r_getR h fd_YM_0_23 cf_M fl_M_58 d_M_share_66 ?_
        refine r_iload h d_M_share_69 6 rfl ?_
        refine r_iald h sh_YM_17 d_M_share_71 hf (fun hf => ?_)
        refine r_i2l h d_M_share_72 ?_
        refine r_iload_n h d_M_share_73 2 rfl rfl ?_
        refine r_i2l h d_M_share_74 ?_
        refine r_iload_n h d_M_share_75 3 rfl rfl ?_
        refine r_i2l h d_M_share_76 ?_
        obtain ⟨r77, e77, hf⟩ := q_bind hf
        refine r_callS (As := [.long (Int32.toInt64 (σ.1 17 (Int32.toNatClampNeg x6))), .long (Int32.toInt64 x2), .long (Int32.toInt64 x3)]) (rest := []) h lk_M_201 sk_M_201 d_M_share_77 (by decide) rfl rfl (Nat.le_of_ble_eq_true rfl) (m_M_in e77) ?_
        refine r_bif_eq h d_M_share_80 hf (fun hf => ?_) (fun hf => ?_)
        · refine r_iinc (ls' := [(6, .int (x6 + (1 : Int32))), (0, .ref (ya Z 0)), (1, .int x1), (2, .int x2), (3, .int x3), (4, .int x4), (5, .int x5)]) h d_M_share_139 6 rfl ki_1 (by decide) rfl ?_
          refine r_goto h d_M_share_142 ?_
          refine r_sub h [1, 2, 3, 4, 5, 6, 0] rfl ?_
          exact ih _ _ hf
        · refine r_aload_n h d_M_share_83 0 rfl rfl ?_
          refine r_getR h fd_YM_0_21 cf_M fl_M_52 d_M_share_84 ?_
          refine r_iload h d_M_share_87 6 rfl ?_
          refine r_iald h sh_YM_15 d_M_share_89 hf (fun hf => ?_)
          refine r_aload_n h d_M_share_90 0 rfl rfl ?_
          refine r_getR h fd_YM_0_22 cf_M fl_M_55 d_M_share_91 ?_
          refine r_iload h d_M_share_94 6 rfl ?_
          refine r_iald h sh_YM_16 d_M_share_96 hf (fun hf => ?_)
          refine r_imul h d_M_share_97 ?_
          refine r_istore (ls' := [(7, .int ((σ.1 15 (Int32.toNatClampNeg x6)) * (σ.1 16 (Int32.toNatClampNeg x6)))), (0, .ref (ya Z 0)), (1, .int x1), (2, .int x2), (3, .int x3), (4, .int x4), (5, .int x5), (6, .int x6)]) h d_M_share_98 (by decide) rfl ?_
          refine r_iload h d_M_share_100 6 rfl ?_
          refine r_aload_n h d_M_share_102 1 rfl rfl ?_
          refine r_getR h fd_YM_0_19 cf_M fl_M_46 d_M_share_103 ?_
          refine r_iload h d_M_share_106 7 rfl ?_
          refine r_iald h sh_YM_13 d_M_share_108 hf (fun hf => ?_)
          refine r_iconst h d_M_share_109 ki_2 ?_
          refine r_icmp_ne h d_M_share_110 hf (fun hf => ?_) (fun hf => ?_)
          · refine r_aload_n h d_M_share_118 1 rfl rfl ?_
            refine r_getR h fd_YM_0_19 cf_M fl_M_46 d_M_share_119 ?_
            refine r_iload h d_M_share_122 7 rfl ?_
            refine r_iald h sh_YM_13 d_M_share_124 hf (fun hf => ?_)
            refine r_iconst h d_M_share_125 ki_1 ?_
            refine r_icmp_ne h d_M_share_126 hf (fun hf => ?_) (fun hf => ?_)
            · refine r_iconst h d_M_share_135 ki_0 ?_
              refine r_iadd h d_M_share_136 ?_
              refine r_istore (ls' := [(5, .int (x5 + (0 : Int32))), (7, .int ((σ.1 15 (Int32.toNatClampNeg x6)) * (σ.1 16 (Int32.toNatClampNeg x6)))), (0, .ref (ya Z 0)), (1, .int x1), (2, .int x2), (3, .int x3), (4, .int x4), (6, .int x6)]) h d_M_share_137 (by decide) rfl ?_
              refine r_iinc (ls' := [(6, .int (x6 + (1 : Int32))), (5, .int (x5 + (0 : Int32))), (7, .int ((σ.1 15 (Int32.toNatClampNeg x6)) * (σ.1 16 (Int32.toNatClampNeg x6)))), (0, .ref (ya Z 0)), (1, .int x1), (2, .int x2), (3, .int x3), (4, .int x4)]) h d_M_share_139 7 rfl ki_1 (by decide) rfl ?_
              refine r_goto h d_M_share_142 ?_
              refine r_sub h [3, 4, 5, 6, 7, 1, 0] rfl ?_
              exact ih _ _ hf
            · refine r_iload h d_M_share_129 0 rfl ?_
              refine r_ineg h d_M_share_131 ?_
              refine r_goto h d_M_share_132 ?_
              refine r_iadd h d_M_share_136 ?_
              refine r_istore (ls' := [(5, .int (x5 + (-((σ.1 15 (Int32.toNatClampNeg x6)) * (σ.1 16 (Int32.toNatClampNeg x6)))))), (7, .int ((σ.1 15 (Int32.toNatClampNeg x6)) * (σ.1 16 (Int32.toNatClampNeg x6)))), (0, .ref (ya Z 0)), (1, .int x1), (2, .int x2), (3, .int x3), (4, .int x4), (6, .int x6)]) h d_M_share_137 (by decide) rfl ?_
              refine r_iinc (ls' := [(6, .int (x6 + (1 : Int32))), (5, .int (x5 + (-((σ.1 15 (Int32.toNatClampNeg x6)) * (σ.1 16 (Int32.toNatClampNeg x6)))))), (7, .int ((σ.1 15 (Int32.toNatClampNeg x6)) * (σ.1 16 (Int32.toNatClampNeg x6)))), (0, .ref (ya Z 0)), (1, .int x1), (2, .int x2), (3, .int x3), (4, .int x4)]) h d_M_share_139 7 rfl ki_1 (by decide) rfl ?_
              refine r_goto h d_M_share_142 ?_
              refine r_sub h [3, 4, 5, 6, 7, 1, 0] rfl ?_
              exact ih _ _ hf
          · refine r_iload h d_M_share_113 0 rfl ?_
            refine r_goto h d_M_share_115 ?_
            refine r_iadd h d_M_share_136 ?_
            refine r_istore (ls' := [(5, .int (x5 + ((σ.1 15 (Int32.toNatClampNeg x6)) * (σ.1 16 (Int32.toNatClampNeg x6))))), (7, .int ((σ.1 15 (Int32.toNatClampNeg x6)) * (σ.1 16 (Int32.toNatClampNeg x6)))), (0, .ref (ya Z 0)), (1, .int x1), (2, .int x2), (3, .int x3), (4, .int x4), (6, .int x6)]) h d_M_share_137 (by decide) rfl ?_
            refine r_iinc (ls' := [(6, .int (x6 + (1 : Int32))), (5, .int (x5 + ((σ.1 15 (Int32.toNatClampNeg x6)) * (σ.1 16 (Int32.toNatClampNeg x6))))), (7, .int ((σ.1 15 (Int32.toNatClampNeg x6)) * (σ.1 16 (Int32.toNatClampNeg x6)))), (0, .ref (ya Z 0)), (1, .int x1), (2, .int x2), (3, .int x3), (4, .int x4)]) h d_M_share_139 7 rfl ki_1 (by decide) rfl ?_
            refine r_goto h d_M_share_142 ?_
            refine r_sub h [3, 4, 5, 6, 7, 1, 0] rfl ?_
            exact ih _ _ hf

set_option maxHeartbeats 4000000 in
theorem m_M_share {Z : Sy} {σ : St} {res : Int32} {x1 : Int32} {x2 : Int32} {x3 : Int32} {x4 : Int32} (hf : M_share x1 x2 x3 x4 σ = some res) : Ct YM Z y_M_share c_M_share 11 (some .int) 4 [.ref (ya Z 0), .int x1, .int x2, .int x3, .int x4] σ (some (.int res)) σ := by
  refine Ct.of pn_M (Nat.le_of_ble_eq_true rfl) rfl (fun Γ h => ?_)
  have h : IsG YM Z R_M c_M_share 11 4 (some .int) (some (.int res)) σ Γ := h
  unfold M_share at hf
  refine r_aload_n h d_M_share_0 0 rfl rfl ?_
  refine r_iload_n h d_M_share_1 1 rfl rfl ?_
  obtain ⟨r2, e2, hf⟩ := q_bind hf
  refine r_callV (As := [.int x1]) (rest := []) h sh_YM_0 lk_M_237 vk_M_237 d_M_share_2 (by decide) rfl rfl (Nat.le_of_ble_eq_true rfl) (m_M_noBand e2) ?_
  refine r_bif_eq h d_M_share_5 hf (fun hf => ?_) (fun hf => ?_)
  · refine r_iload_n h d_M_share_10 2 rfl rfl ?_
    refine r_iload_n h d_M_share_11 3 rfl rfl ?_
    obtain ⟨r12, e12, hf⟩ := q_bind hf
    refine r_callS (As := [.int x2, .int x3]) (rest := []) h lk_M_243 sk_M_243 d_M_share_12 (by decide) rfl rfl (Nat.le_of_ble_eq_true rfl) (m_M_areDays e12) ?_
    refine r_bif_eq h d_M_share_15 hf (fun hf => ?_) (fun hf => ?_)
    · refine r_bipush h d_M_share_31 kb_m2 ?_
      exact r_ireturn h d_M_share_33.1 (Option.some.inj hf) rfl
    · refine r_iload h d_M_share_18 4 rfl ?_
      refine r_i2l h d_M_share_20 ?_
      refine r_lconst h d_M_share_21 kl_0 ?_
      refine r_ldc2 h d_M_share_22 tm_1509 ?_
      obtain ⟨r25, e25, hf⟩ := q_bind hf
      refine r_callS (As := [.long (Int32.toInt64 x4), .long (0 : Int64), .long (3 : Int64)]) (rest := []) h lk_M_201 sk_M_201 d_M_share_25 (by decide) rfl rfl (Nat.le_of_ble_eq_true rfl) (m_M_in e25) ?_
      refine r_bif_ne h d_M_share_28 hf (fun hf => ?_) (fun hf => ?_)
      · refine r_iconst h d_M_share_34 ki_0 ?_
        refine r_istore (ls' := [(5, .int (0 : Int32)), (0, .ref (ya Z 0)), (1, .int x1), (2, .int x2), (3, .int x3), (4, .int x4)]) h d_M_share_35 (by decide) rfl ?_
        refine r_iconst h d_M_share_37 ki_0 ?_
        refine r_istore (ls' := [(6, .int (0 : Int32)), (5, .int (0 : Int32)), (0, .ref (ya Z 0)), (1, .int x1), (2, .int x2), (3, .int x3), (4, .int x4)]) h d_M_share_38 (by decide) rfl ?_
        refine r_sub h [2, 3, 4, 5, 6, 1, 0] rfl ?_
        exact w_M_share_L40 h _ _ _ hf
      · refine r_bipush h d_M_share_31 kb_m2 ?_
        exact r_ireturn h d_M_share_33.1 (Option.some.inj hf) rfl
  · refine r_iconst h d_M_share_8 ki_m1 ?_
    exact r_ireturn h d_M_share_9.1 (Option.some.inj hf) rfl

theorem d_M_isParty_0 : decode c_M_isParty 0 = .ok (.iload_n 0, 1) ∧ 0 + 1 = 1 := by decide +kernel
theorem d_M_isParty_1 : decode c_M_isParty 1 = .ok (.i2l, 1) ∧ 1 + 1 = 2 := by decide +kernel
theorem d_M_isParty_2 : decode c_M_isParty 2 = .ok (.lconst 0, 1) ∧ 2 + 1 = 3 := by decide +kernel
theorem d_M_isParty_3 : decode c_M_isParty 3 = .ok (.ldc2_w 233, 3) ∧ 3 + 3 = 6 := by decide +kernel
theorem d_M_isParty_6 : decode c_M_isParty 6 = .ok (.invokestatic 201, 3) ∧ 6 + 3 = 9 := by decide +kernel
theorem d_M_isParty_9 : decode c_M_isParty 9 = .ok (.ireturn, 1) ∧ 9 + 1 = 10 := by decide +kernel
set_option maxHeartbeats 4000000 in
theorem m_M_isParty {Z : Sy} {σ : St} {res : Bool} {x0 : Int32} (hf : M_isParty x0 σ = some res) : Ct YM Z y_M_isParty c_M_isParty 1 (some .boolean) 2 [.int x0] σ (some (.int (bi res))) σ := by
  refine Ct.of pn_M (Nat.le_of_ble_eq_true rfl) rfl (fun Γ h => ?_)
  have h : IsG YM Z R_M c_M_isParty 1 2 (some .boolean) (some (.int (bi res))) σ Γ := h
  unfold M_isParty at hf
  refine r_iload_n h d_M_isParty_0 0 rfl rfl ?_
  refine r_i2l h d_M_isParty_1 ?_
  refine r_lconst h d_M_isParty_2 kl_0 ?_
  refine r_ldc2 h d_M_isParty_3 tm_1427 ?_
  obtain ⟨r6, e6, hf⟩ := q_bind hf
  refine r_callS (As := [.long (Int32.toInt64 x0), .long (0 : Int64), .long (9 : Int64)]) (rest := []) h lk_M_201 sk_M_201 d_M_isParty_6 (by decide) rfl rfl (Nat.le_of_ble_eq_true rfl) (m_M_in e6) ?_
  exact r_zreturn h d_M_isParty_9.1 (congrArg bi (Option.some.inj hf)) rfl

theorem d_M_owe_0 : decode c_M_owe 0 = .ok (.iload_n 1, 1) ∧ 0 + 1 = 1 := by decide +kernel
theorem d_M_owe_1 : decode c_M_owe 1 = .ok (.invokestatic 402, 3) ∧ 1 + 3 = 4 := by decide +kernel
theorem d_M_owe_4 : decode c_M_owe 4 = .ok (.ifCond .eq 27, 3) ∧ 4 + 3 = 7 ∧ ((4 : Nat) : Int) + 27 = ((31 : Nat) : Int) := by decide +kernel
theorem d_M_owe_7 : decode c_M_owe 7 = .ok (.iload_n 2, 1) ∧ 7 + 1 = 8 := by decide +kernel
theorem d_M_owe_8 : decode c_M_owe 8 = .ok (.invokestatic 402, 3) ∧ 8 + 3 = 11 := by decide +kernel
theorem d_M_owe_11 : decode c_M_owe 11 = .ok (.ifCond .eq 20, 3) ∧ 11 + 3 = 14 ∧ ((11 : Nat) : Int) + 20 = ((31 : Nat) : Int) := by decide +kernel
theorem d_M_owe_14 : decode c_M_owe 14 = .ok (.iload_n 1, 1) ∧ 14 + 1 = 15 := by decide +kernel
theorem d_M_owe_15 : decode c_M_owe 15 = .ok (.iload_n 2, 1) ∧ 15 + 1 = 16 := by decide +kernel
theorem d_M_owe_16 : decode c_M_owe 16 = .ok (.if_icmp .eq 15, 3) ∧ 16 + 3 = 19 ∧ ((16 : Nat) : Int) + 15 = ((31 : Nat) : Int) := by decide +kernel
theorem d_M_owe_19 : decode c_M_owe 19 = .ok (.iload_n 3, 1) ∧ 19 + 1 = 20 := by decide +kernel
theorem d_M_owe_20 : decode c_M_owe 20 = .ok (.i2l, 1) ∧ 20 + 1 = 21 := by decide +kernel
theorem d_M_owe_21 : decode c_M_owe 21 = .ok (.lconst 0, 1) ∧ 21 + 1 = 22 := by decide +kernel
theorem d_M_owe_22 : decode c_M_owe 22 = .ok (.ldc2_w 395, 3) ∧ 22 + 3 = 25 := by decide +kernel
theorem d_M_owe_25 : decode c_M_owe 25 = .ok (.invokestatic 201, 3) ∧ 25 + 3 = 28 := by decide +kernel
theorem d_M_owe_28 : decode c_M_owe 28 = .ok (.ifCond .ne 6, 3) ∧ 28 + 3 = 31 ∧ ((28 : Nat) : Int) + 6 = ((34 : Nat) : Int) := by decide +kernel
theorem d_M_owe_31 : decode c_M_owe 31 = .ok (.bipush (-2), 2) ∧ 31 + 2 = 33 := by decide +kernel
theorem d_M_owe_33 : decode c_M_owe 33 = .ok (.ireturn, 1) ∧ 33 + 1 = 34 := by decide +kernel
theorem d_M_owe_34 : decode c_M_owe 34 = .ok (.aload_n 0, 1) ∧ 34 + 1 = 35 := by decide +kernel
theorem d_M_owe_35 : decode c_M_owe 35 = .ok (.getfield 134, 3) ∧ 35 + 3 = 38 := by decide +kernel
theorem d_M_owe_38 : decode c_M_owe 38 = .ok (.bipush 10, 2) ∧ 38 + 2 = 40 := by decide +kernel
theorem d_M_owe_40 : decode c_M_owe 40 = .ok (.iload_n 1, 1) ∧ 40 + 1 = 41 := by decide +kernel
theorem d_M_owe_41 : decode c_M_owe 41 = .ok (.imul, 1) ∧ 41 + 1 = 42 := by decide +kernel
theorem d_M_owe_42 : decode c_M_owe 42 = .ok (.iload_n 2, 1) ∧ 42 + 1 = 43 := by decide +kernel
theorem d_M_owe_43 : decode c_M_owe 43 = .ok (.iadd, 1) ∧ 43 + 1 = 44 := by decide +kernel
theorem d_M_owe_44 : decode c_M_owe 44 = .ok (.iaload, 1) ∧ 44 + 1 = 45 := by decide +kernel
theorem d_M_owe_45 : decode c_M_owe 45 = .ok (.istore 4, 2) ∧ 45 + 2 = 47 := by decide +kernel
theorem d_M_owe_47 : decode c_M_owe 47 = .ok (.aload_n 0, 1) ∧ 47 + 1 = 48 := by decide +kernel
theorem d_M_owe_48 : decode c_M_owe 48 = .ok (.getfield 134, 3) ∧ 48 + 3 = 51 := by decide +kernel
theorem d_M_owe_51 : decode c_M_owe 51 = .ok (.bipush 10, 2) ∧ 51 + 2 = 53 := by decide +kernel
theorem d_M_owe_53 : decode c_M_owe 53 = .ok (.iload_n 1, 1) ∧ 53 + 1 = 54 := by decide +kernel
theorem d_M_owe_54 : decode c_M_owe 54 = .ok (.imul, 1) ∧ 54 + 1 = 55 := by decide +kernel
theorem d_M_owe_55 : decode c_M_owe 55 = .ok (.iload_n 2, 1) ∧ 55 + 1 = 56 := by decide +kernel
theorem d_M_owe_56 : decode c_M_owe 56 = .ok (.iadd, 1) ∧ 56 + 1 = 57 := by decide +kernel
theorem d_M_owe_57 : decode c_M_owe 57 = .ok (.iload_n 3, 1) ∧ 57 + 1 = 58 := by decide +kernel
theorem d_M_owe_58 : decode c_M_owe 58 = .ok (.iastore, 1) ∧ 58 + 1 = 59 := by decide +kernel
theorem d_M_owe_59 : decode c_M_owe 59 = .ok (.iload 4, 2) ∧ 59 + 2 = 61 := by decide +kernel
theorem d_M_owe_61 : decode c_M_owe 61 = .ok (.ireturn, 1) ∧ 61 + 1 = 62 := by decide +kernel
set_option maxHeartbeats 4000000 in
theorem m_M_owe {Z : Sy} {σ : St} {res : (Int32 × St)} {x1 : Int32} {x2 : Int32} {x3 : Int32} (hf : M_owe x1 x2 x3 σ = some res) : Ct YM Z y_M_owe c_M_owe 5 (some .int) 3 [.ref (ya Z 0), .int x1, .int x2, .int x3] σ (some (.int res.1)) res.2 := by
  refine Ct.of pn_M (Nat.le_of_ble_eq_true rfl) rfl (fun Γ h => ?_)
  have h : IsG YM Z R_M c_M_owe 5 3 (some .int) (some (.int res.1)) res.2 Γ := h
  unfold M_owe at hf
  refine r_iload_n h d_M_owe_0 1 rfl rfl ?_
  obtain ⟨r1, e1, hf⟩ := q_bind hf
  refine r_callS (As := [.int x1]) (rest := []) h lk_M_402 sk_M_402 d_M_owe_1 (by decide) rfl rfl (Nat.le_of_ble_eq_true rfl) (m_M_isParty e1) ?_
  refine r_bif_eq h d_M_owe_4 hf (fun hf => ?_) (fun hf => ?_)
  · refine r_bipush h d_M_owe_31 kb_m2 ?_
    exact r_ireturn h d_M_owe_33.1 (q_p1 hf) (q_p2 hf)
  · refine r_iload_n h d_M_owe_7 2 rfl rfl ?_
    obtain ⟨r8, e8, hf⟩ := q_bind hf
    refine r_callS (As := [.int x2]) (rest := []) h lk_M_402 sk_M_402 d_M_owe_8 (by decide) rfl rfl (Nat.le_of_ble_eq_true rfl) (m_M_isParty e8) ?_
    refine r_bif_eq h d_M_owe_11 hf (fun hf => ?_) (fun hf => ?_)
    · refine r_bipush h d_M_owe_31 kb_m2 ?_
      exact r_ireturn h d_M_owe_33.1 (q_p1 hf) (q_p2 hf)
    · refine r_iload_n h d_M_owe_14 1 rfl rfl ?_
      refine r_iload_n h d_M_owe_15 2 rfl rfl ?_
      refine r_icmp_eq h d_M_owe_16 hf (fun hf => ?_) (fun hf => ?_)
      · refine r_bipush h d_M_owe_31 kb_m2 ?_
        exact r_ireturn h d_M_owe_33.1 (q_p1 hf) (q_p2 hf)
      · refine r_iload_n h d_M_owe_19 3 rfl rfl ?_
        refine r_i2l h d_M_owe_20 ?_
        refine r_lconst h d_M_owe_21 kl_0 ?_
        refine r_ldc2 h d_M_owe_22 tm_1671 ?_
        obtain ⟨r25, e25, hf⟩ := q_bind hf
        refine r_callS (As := [.long (Int32.toInt64 x3), .long (0 : Int64), .long (99999 : Int64)]) (rest := []) h lk_M_201 sk_M_201 d_M_owe_25 (by decide) rfl rfl (Nat.le_of_ble_eq_true rfl) (m_M_in e25) ?_
        refine r_bif_ne h d_M_owe_28 hf (fun hf => ?_) (fun hf => ?_)
        · refine r_aload_n h d_M_owe_34 0 rfl rfl ?_
          refine r_getR h fd_YM_0_53 cf_M fl_M_134 d_M_owe_35 ?_
          refine r_bipush h d_M_owe_38 kb_10 ?_
          refine r_iload_n h d_M_owe_40 1 rfl rfl ?_
          refine r_imul h d_M_owe_41 ?_
          refine r_iload_n h d_M_owe_42 2 rfl rfl ?_
          refine r_iadd h d_M_owe_43 ?_
          refine r_iald h sh_YM_42 d_M_owe_44 hf (fun hf => ?_)
          refine r_istore (ls' := [(4, .int (σ.1 42 (Int32.toNatClampNeg (((10 : Int32) * x1) + x2)))), (0, .ref (ya Z 0)), (1, .int x1), (2, .int x2), (3, .int x3)]) h d_M_owe_45 (by decide) rfl ?_
          refine r_aload_n h d_M_owe_47 1 rfl rfl ?_
          refine r_getR h fd_YM_0_53 cf_M fl_M_134 d_M_owe_48 ?_
          refine r_bipush h d_M_owe_51 kb_10 ?_
          refine r_iload_n h d_M_owe_53 2 rfl rfl ?_
          refine r_imul h d_M_owe_54 ?_
          refine r_iload_n h d_M_owe_55 3 rfl rfl ?_
          refine r_iadd h d_M_owe_56 ?_
          refine r_iload_n h d_M_owe_57 4 rfl rfl ?_
          refine r_iast h sh_YM_42 d_M_owe_58 hf (fun hf => ?_)
          refine r_iload h d_M_owe_59 0 rfl ?_
          exact r_ireturn h d_M_owe_61.1 (q_p1 hf) (q_p2 hf)
        · refine r_bipush h d_M_owe_31 kb_m2 ?_
          exact r_ireturn h d_M_owe_33.1 (q_p1 hf) (q_p2 hf)

theorem d_M_owes_0 : decode c_M_owes 0 = .ok (.iload_n 1, 1) ∧ 0 + 1 = 1 := by decide +kernel
theorem d_M_owes_1 : decode c_M_owes 1 = .ok (.invokestatic 402, 3) ∧ 1 + 3 = 4 := by decide +kernel
theorem d_M_owes_4 : decode c_M_owes 4 = .ok (.ifCond .eq 24, 3) ∧ 4 + 3 = 7 ∧ ((4 : Nat) : Int) + 24 = ((28 : Nat) : Int) := by decide +kernel
theorem d_M_owes_7 : decode c_M_owes 7 = .ok (.iload_n 2, 1) ∧ 7 + 1 = 8 := by decide +kernel
theorem d_M_owes_8 : decode c_M_owes 8 = .ok (.invokestatic 402, 3) ∧ 8 + 3 = 11 := by decide +kernel
theorem d_M_owes_11 : decode c_M_owes 11 = .ok (.ifCond .eq 17, 3) ∧ 11 + 3 = 14 ∧ ((11 : Nat) : Int) + 17 = ((28 : Nat) : Int) := by decide +kernel
theorem d_M_owes_14 : decode c_M_owes 14 = .ok (.aload_n 0, 1) ∧ 14 + 1 = 15 := by decide +kernel
theorem d_M_owes_15 : decode c_M_owes 15 = .ok (.getfield 134, 3) ∧ 15 + 3 = 18 := by decide +kernel
theorem d_M_owes_18 : decode c_M_owes 18 = .ok (.bipush 10, 2) ∧ 18 + 2 = 20 := by decide +kernel
theorem d_M_owes_20 : decode c_M_owes 20 = .ok (.iload_n 1, 1) ∧ 20 + 1 = 21 := by decide +kernel
theorem d_M_owes_21 : decode c_M_owes 21 = .ok (.imul, 1) ∧ 21 + 1 = 22 := by decide +kernel
theorem d_M_owes_22 : decode c_M_owes 22 = .ok (.iload_n 2, 1) ∧ 22 + 1 = 23 := by decide +kernel
theorem d_M_owes_23 : decode c_M_owes 23 = .ok (.iadd, 1) ∧ 23 + 1 = 24 := by decide +kernel
theorem d_M_owes_24 : decode c_M_owes 24 = .ok (.iaload, 1) ∧ 24 + 1 = 25 := by decide +kernel
theorem d_M_owes_25 : decode c_M_owes 25 = .ok (.goto 5, 3) ∧ (25 : Int) + 5 = (30 : Int) := by decide +kernel
theorem d_M_owes_28 : decode c_M_owes 28 = .ok (.bipush (-2), 2) ∧ 28 + 2 = 30 := by decide +kernel
theorem d_M_owes_30 : decode c_M_owes 30 = .ok (.ireturn, 1) ∧ 30 + 1 = 31 := by decide +kernel
set_option maxHeartbeats 4000000 in
theorem m_M_owes {Z : Sy} {σ : St} {res : Int32} {x1 : Int32} {x2 : Int32} (hf : M_owes x1 x2 σ = some res) : Ct YM Z y_M_owes c_M_owes 3 (some .int) 3 [.ref (ya Z 0), .int x1, .int x2] σ (some (.int res)) σ := by
  refine Ct.of pn_M (Nat.le_of_ble_eq_true rfl) rfl (fun Γ h => ?_)
  have h : IsG YM Z R_M c_M_owes 3 3 (some .int) (some (.int res)) σ Γ := h
  unfold M_owes at hf
  refine r_iload_n h d_M_owes_0 1 rfl rfl ?_
  obtain ⟨r1, e1, hf⟩ := q_bind hf
  refine r_callS (As := [.int x1]) (rest := []) h lk_M_402 sk_M_402 d_M_owes_1 (by decide) rfl rfl (Nat.le_of_ble_eq_true rfl) (m_M_isParty e1) ?_
  refine r_bif_eq h d_M_owes_4 hf (fun hf => ?_) (fun hf => ?_)
  · refine r_bipush h d_M_owes_28 kb_m2 ?_
    exact r_ireturn h d_M_owes_30.1 (Option.some.inj hf) rfl
  · refine r_iload_n h d_M_owes_7 2 rfl rfl ?_
    obtain ⟨r8, e8, hf⟩ := q_bind hf
    refine r_callS (As := [.int x2]) (rest := []) h lk_M_402 sk_M_402 d_M_owes_8 (by decide) rfl rfl (Nat.le_of_ble_eq_true rfl) (m_M_isParty e8) ?_
    refine r_bif_eq h d_M_owes_11 hf (fun hf => ?_) (fun hf => ?_)
    · refine r_bipush h d_M_owes_28 kb_m2 ?_
      exact r_ireturn h d_M_owes_30.1 (Option.some.inj hf) rfl
    · refine r_aload_n h d_M_owes_14 0 rfl rfl ?_
      refine r_getR h fd_YM_0_53 cf_M fl_M_134 d_M_owes_15 ?_
      refine r_bipush h d_M_owes_18 kb_10 ?_
      refine r_iload_n h d_M_owes_20 1 rfl rfl ?_
      refine r_imul h d_M_owes_21 ?_
      refine r_iload_n h d_M_owes_22 2 rfl rfl ?_
      refine r_iadd h d_M_owes_23 ?_
      refine r_iald h sh_YM_42 d_M_owes_24 hf (fun hf => ?_)
      refine r_goto h d_M_owes_25 ?_
      exact r_ireturn h d_M_owes_30.1 (Option.some.inj hf) rfl

